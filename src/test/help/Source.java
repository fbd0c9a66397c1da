import com.sun.source.tree.CompilationUnitTree;
import com.sun.source.util.JavacTask;
import com.sun.source.util.TreePathScanner;
import com.sun.source.util.Trees;
import java.io.IOException;
import java.nio.file.Path;
import java.util.ArrayList;
import java.util.List;
import javax.tools.JavaCompiler;
import javax.tools.StandardJavaFileManager;
import javax.tools.ToolProvider;

/** The class's source, as the compiler reads it, and what the tests of ../shared/LANGUAGE.md tell of it. */
abstract class Source extends TreePathScanner<Void, Void> {
  private static int wrong = 0;
  Trees trees;
  CompilationUnitTree unit;

  static void rule(int number, boolean holds, String what) {
    if (holds) return;
    wrong++;
    System.out.println("rule " + number + ": " + what);
  }

  static void end(String well) {
    System.out.println(wrong == 0 ? well : wrong + " rules are broken");
    if (wrong != 0) System.exit(1);
  }

  /** Goes through the whole source with its types known. */
  void read() throws IOException {
    JavaCompiler compiler = ToolProvider.getSystemJavaCompiler();
    try (StandardJavaFileManager files = compiler.getStandardFileManager(null, null, null)) {
      JavacTask task = (JavacTask) compiler.getTask(null, files, null, List.of("-proc:none"), null,
          files.getJavaFileObjects(Path.of("src/main/java/CarpetLands.java")));
      List<CompilationUnitTree> units = new ArrayList<>();
      for (CompilationUnitTree each : task.parse()) units.add(each);
      task.analyze();
      trees = Trees.instance(task);
      for (CompilationUnitTree each : units) {
        unit = each;
        scan(each, null);
      }
    }
  }
}
