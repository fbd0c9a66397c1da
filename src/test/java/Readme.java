import java.io.File;
import java.io.IOException;
import java.nio.charset.StandardCharsets;
import java.nio.file.Files;
import java.nio.file.Path;
import java.util.regex.Matcher;
import java.util.regex.Pattern;

/** README.md's run answers what is written beside it, and each test has its line there. */
public final class Readme extends Due {
  private static final Pattern CALL = Pattern.compile("x\\.(\\w+)\\((.*?)\\); +// (-?\\d+)(:.*)?");

  public static void main(String[] args) throws IOException {
    String page = Files.readString(Path.of("README.md"), StandardCharsets.UTF_8);
    playRun(page);
    dueTests(page);
    end();
  }

  private static void playRun(String page) {
    sentence("README.md: a run on a new object, with what each call answers");
    CarpetLands x = new CarpetLands();
    int calls = 0;
    for (String line : page.split("\n")) {
      Matcher call = CALL.matcher(line);
      if (!call.matches()) continue;
      calls++;
      String[] given = call.group(2).isEmpty() ? new String[0] : call.group(2).split(", ");
      long[] arguments = new long[given.length];
      for (int i = 0; i < given.length; i++) arguments[i] = Long.decode(given[i].replace("L", ""));
      due(x, Long.parseLong(call.group(3)), call.group(1), arguments);
    }
    due("how many calls README.md has, if some", calls > 10 ? 1 : 0, 1);
  }

  private static void dueTests(String page) {
    sentence("README.md: what each test is for");
    String[] names = new File("src/test/java").list();
    due("whether there are tests", names != null && names.length > 0 ? 1 : 0, 1);
    for (String name : names == null ? new String[0] : names) {
      String bare = name.replace(".java", "");
      due("whether README.md tells of " + bare, page.contains("`" + bare + "`") ? 1 : 0, 1);
    }
  }
}
