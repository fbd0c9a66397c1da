/-! ===== Walker: where it goes ===== -/
theorem nbI_y {k way : Nat} (h : nbN k way < 36) : nbI k way = nI (nbN k way) := if_pos h
theorem nbI_n {k way : Nat} (h : ¬ nbN k way < 36) : nbI k way = -1 := if_neg h
theorem WkAt.mv {w : AH} {a kd m pl way : Nat} (h : WkAt w a kd m pl way) {p2 y2 : Nat} (hp : p2 < 36) (hy : y2 < 4) : WkAt (hs w a (fput (fput (hg w a) 3 (.int (nI y2))) 2 (.int (nI p2)))) a kd m p2 y2 := by
  have g3 : gf (fput (hg w a) 3 (.int (nI y2))) 9 2 = some (.int (nI pl)) := by rw [gf_put_n (by decide)]; exact h.p2
  refine ⟨?_, ?_, ?_, ?_, h.r0, h.r1, hp, hy⟩
  · rw [hs_eq, gf_put_n (by decide), gf_put_n (by decide)]; exact h.p0
  · rw [hs_eq, gf_put_n (by decide), gf_put_n (by decide)]; exact h.p1
  · rw [hs_eq]; exact gf_put_s g3
  · rw [hs_eq, gf_put_n (by decide)]; exact gf_put_s h.p3
theorem WkAt.turn {w : AH} {a kd m pl way : Nat} (h : WkAt w a kd m pl way) {y2 : Nat} (hy : y2 < 4) : WkAt (hs w a (fput (hg w a) 3 (.int (nI y2)))) a kd m pl y2 := by
  refine ⟨?_, ?_, ?_, ?_, h.r0, h.r1, h.r2, hy⟩
  · rw [hs_eq, gf_put_n (by decide)]; exact h.p0
  · rw [hs_eq, gf_put_n (by decide)]; exact h.p1
  · rw [hs_eq, gf_put_n (by decide)]; exact h.p2
  · rw [hs_eq]; exact gf_put_s h.p3
def goP (pl way ah : Nat) : Nat × Nat := if nbN pl ah < 36 then (nbN pl ah, ah) else (pl, way)
theorem s_go {w : AH} {a kd m pl way : Nat} (h : WkAt w a kd m pl way) {ah : Nat} (ha : ah < 4) (lv : Nat) : ∃ e, Call M_X10_go lv [.ref a, .int (nI ah)] w = some (none, hs w a e) ∧ WkAt (hs w a e) a kd m (goP pl way ah).1 (goP pl way ah).2 := by
  unfold goP
  by_cases g : nbN pl ah < 36
  · refine ⟨fput (fput (hg w a) 3 (.int (nI ah))) 2 (.int (nI (nbN pl ah))), ?_, ?_⟩
    · have e1 : ((0 : Int32) ≤ nI (nbN pl ah)) = True := by rw [show (0 : Int32) = nI 0 from rfl, le_nI (by decide) (by omega)]; simp
      have g3 : gf (fput (hg w a) 3 (.int (nI ah))) 9 2 = some (.int (nI pl)) := by rw [gf_put_n (by decide)]; exact h.p2
      simp only [C_X10_go, R_X10_go, SB, h.p2, s_beside h.r2 ha, nbI_y g, ls1s, e1, pf_i h.p3, pf_i g3, hs_hs, if_true]
    · rw [if_pos g]
      exact h.mv g ha
  · refine ⟨hg w a, ?_, ?_⟩
    · simp only [C_X10_go, R_X10_go, SB, h.p2, s_beside h.r2 ha, nbI_n g, ls1s, show ((0 : Int32) ≤ -1) = False from by simp, if_true, if_false, hs_same]
    · rw [if_neg g, hs_same]
      exact h
def wkS : Nat → Nat → Nat → Nat
  | 0, _, way => way
  | n + 1, pl, way => if nbN pl way < 36 then way else wkS n pl ((way + 1) % 4)
def wkP (pl way : Nat) : Nat × Nat := goP pl (wkS 3 pl way) (wkS 3 pl way)
theorem l_stepW {kd m pl : Nat} (a lv : Nat) : ∀ n i (w : AH) (way : Nat), i + n = 3 → WkAt w a kd m pl way → ∃ e, Ex M_X10_stepAsWalker lv 2 [some (.ref a), some (.int (nI i))] [] w = some (none, hs w a e) ∧ WkAt (hs w a e) a kd m (goP pl (wkS n pl way) (wkS n pl way)).1 (goP pl (wkS n pl way) (wkS n pl way)).2 := by
  intro n
  induction n with
  | zero =>
    intro i w way hi h
    have : i = 3 := by omega
    subst this
    obtain ⟨e, h1, h2⟩ := s_go h h.r3 60
    refine ⟨e, ?_, h2⟩
    rw [H_X10_stepAsWalker_2]
    simp only [R_X10_stepAsWalker, SB, show ((3 : Int32) ≤ nI 3) = True from by rw [show (3 : Int32) = nI 3 from rfl]; simp, if_true, h.p3, clK_gf h.p0, h1]
  | succ n ih =>
    intro i w way hi h
    have e1 : ((3 : Int32) ≤ nI i) = False := by rw [show (3 : Int32) = nI 3 from rfl, le_nI (by decide) (by omega)]; simp; omega
    by_cases g : nbN pl way < 36
    · have q : wkS (n + 1) pl way = way := if_pos g
      rw [q]
      obtain ⟨e, h1, h2⟩ := s_go h h.r3 60
      refine ⟨e, ?_, h2⟩
      have e2 : ((0 : Int32) ≤ nI (nbN pl way)) = True := by rw [show (0 : Int32) = nI 0 from rfl, le_nI (by decide) (by omega)]; simp
      rw [H_X10_stepAsWalker_2]
      simp only [R_X10_stepAsWalker, SB, e1, if_false, if_true, h.p2, h.p3, s_beside h.r2 h.r3, nbI_y g, e2, clK_gf h.p0, h1]
    · have q : wkS (n + 1) pl way = wkS n pl ((way + 1) % 4) := if_neg g
      rw [q]
      obtain ⟨e, h1, h2⟩ := ih (i + 1) _ ((way + 1) % 4) (by omega) (h.turn (Nat.mod_lt _ (by decide)))
      rw [hs_hs] at h1 h2
      refine ⟨e, ?_, h2⟩
      have d4 : nI (way + 1) - nI (way + 1) / 4 * 4 = nI ((way + 1) % 4) := pk_rem (show way + 1 < 2 ^ 31 by have := h.r3; omega) (show 0 < 4 by decide) (show 4 < 2 ^ 31 by decide)
      rw [H_X10_stepAsWalker_2]
      simp only [R_X10_stepAsWalker, SB, e1, if_false, if_true, h.p2, h.p3, s_beside h.r2 h.r3, nbI_n g, show ((0 : Int32) ≤ -1) = False from by simp, nI_1, show ((4 : Int32) = 0) = False from by simp, d4, pf_i h.p3, ls1s]
      exact h1
theorem s_stepW {w : AH} {a kd m pl way : Nat} (h : WkAt w a kd m pl way) (lv : Nat) : ∃ e, Call M_X10_stepAsWalker lv [.ref a] w = some (none, hs w a e) ∧ WkAt (hs w a e) a kd m (wkP pl way).1 (wkP pl way).2 := by
  obtain ⟨e, h1, h2⟩ := l_stepW a lv 3 0 w way (by decide) h
  refine ⟨e, ?_, h2⟩
  simp only [C_X10_stepAsWalker, R_X10_stepAsWalker, SB, ls1s]
  exact h1
def tuN (way i : Nat) : Nat := match i with
  | 0 => way
  | 1 => (way + 1) % 4
  | 2 => (way + 3) % 4
  | _ => (way + 2) % 4
theorem tuN_lt {way : Nat} (h : way < 4) (i : Nat) : tuN way i < 4 := by
  unfold tuN
  split
  · exact h
  all_goals exact Nat.mod_lt _ (by decide)
theorem s_turned {w : AH} {a kd m pl way : Nat} (h : WkAt w a kd m pl way) (lv : Nat) : ∀ i, i < 4 → Call M_X10_turned lv [.ref a, .int (nI i)] w = some (some (.int (nI (tuN way i))), w) := by
  have hr := h.r3
  have d4 : ∀ x, x < 100 → nI x - nI x / 4 * 4 = nI (x % 4) := fun x hx => pk_rem (show x < 2 ^ 31 by omega) (show 0 < 4 by decide) (show 4 < 2 ^ 31 by decide)
  intro i hi
  match i, hi with
  | 0, _ => simp only [C_X10_turned, R_X10_turned, SB, show nI 0 = (0 : Int32) from rfl, if_true, h.p3, tuN]
  | 1, _ => simp only [C_X10_turned, R_X10_turned, SB, show nI 1 = (1 : Int32) from rfl, show ((1 : Int32) = 0) = False from by simp, show ((4 : Int32) = 0) = False from by simp, if_true, if_false, h.p3, nI_1, d4 (way + 1) (by omega), tuN]
  | 2, _ => simp only [C_X10_turned, R_X10_turned, SB, show nI 2 = (2 : Int32) from rfl, show ((2 : Int32) = 0) = False from by simp, show ((2 : Int32) = 1) = False from by simp, show ((4 : Int32) = 0) = False from by simp, if_true, if_false, h.p3, show (3 : Int32) = nI 3 from rfl, nI_add, d4 (way + 3) (by omega), tuN]
  | 3, _ => simp only [C_X10_turned, R_X10_turned, SB, show nI 3 = (3 : Int32) from rfl, show ((3 : Int32) = 0) = False from by simp, show ((3 : Int32) = 1) = False from by simp, show ((3 : Int32) = nI 2) = False from by rw [show (3 : Int32) = nI 3 from rfl, eq_nI (by decide) (by decide)]; simp, show ((4 : Int32) = 0) = False from by simp, if_true, if_false, h.p3, show (2 : Int32) = nI 2 from rfl, nI_add, d4 (way + 2) (by omega), tuN]
  | n + 4, h => exact absurd h (by omega)
def ctR (col : Nat → Nat) (pl way : Nat) : Nat → Nat → Nat × Nat
  | 0, _ => (pl, way)
  | n + 1, i => if nbN pl (tuN way i) < 36 ∧ col (nbN pl (tuN way i)) = col pl then goP pl way (tuN way i) else ctR col pl way n (i + 1)
theorem l_stepC {w : AH} {c : Nat} {col wear : Nat → Nat} (hc : CarAt w c col wear) {a kd m pl way : Nat} (h : WkAt w a kd m pl way) (lv : Nat) : ∀ n i (o o5 : Option Value), i + n = 4 → ∃ e, Ex M_X10_stepAsCat lv 11 [some (.ref a), some (.ref c), some (.int (nI (col pl))), some (.int (nI i)), o, o5] [] w = some (none, hs w a e) ∧ WkAt (hs w a e) a kd m (ctR col pl way n i).1 (ctR col pl way n i).2 := by
  intro n
  induction n with
  | zero =>
    intro i o o5 hi
    have : i = 4 := by omega
    subst this
    refine ⟨hg w a, ?_, by rw [hs_same]; exact h⟩
    rw [H_X10_stepAsCat_11]
    simp only [R_X10_stepAsCat, SB, show ((4 : Int32) ≤ nI 4) = True from by rw [show (4 : Int32) = nI 4 from rfl]; simp, if_true, hs_same]
  | succ n ih =>
    intro i o o5 hi
    have e1 : ((4 : Int32) ≤ nI i) = False := by rw [show (4 : Int32) = nI 4 from rfl, le_nI (by decide) (by omega)]; simp; omega
    have ht := tuN_lt h.r3 i
    by_cases g : nbN pl (tuN way i) < 36
    · have hr := hc.r0 _ g
      have hr2 := hc.r0 _ h.r2
      have e2 : (nI (nbN pl (tuN way i)) < 0) = False := by rw [show (0 : Int32) = nI 0 from rfl, lt_nI (by omega) (by decide)]; simp
      by_cases g2 : col (nbN pl (tuN way i)) = col pl
      · obtain ⟨e, h1, h2⟩ := s_go h ht 60
        refine ⟨e, ?_, by rw [show ctR col pl way (n + 1) i = goP pl way (tuN way i) from if_pos ⟨g, g2⟩]; exact h2⟩
        rw [H_X10_stepAsCat_11]
        simp only [R_X10_stepAsCat, SB, e1, if_false, if_true, clK_gf h.p0, s_turned h 60 i (by omega), ls1s, h.p2, s_beside h.r2 ht, nbI_y g, e2, clK_gf hc.p0, s_colourOf hc g, g2, not_true_eq_false, h1]
      · obtain ⟨e, h1, h2⟩ := ih (i + 1) (some (.int (nI (tuN way i)))) (some (.int (nI (nbN pl (tuN way i))))) (by omega)
        refine ⟨e, ?_, by rw [show ctR col pl way (n + 1) i = ctR col pl way n (i + 1) from if_neg (fun x => g2 x.2)]; exact h2⟩
        have e3 : (nI (col (nbN pl (tuN way i))) = nI (col pl)) = False := by rw [eq_nI (by omega) (by omega)]; exact eq_false g2
        rw [H_X10_stepAsCat_11]
        simp only [R_X10_stepAsCat, SB, e1, if_false, if_true, clK_gf h.p0, s_turned h 60 i (by omega), ls1s, h.p2, s_beside h.r2 ht, nbI_y g, e2, clK_gf hc.p0, s_colourOf hc g, e3, not_false_eq_true, nI_1]
        exact h1
    · obtain ⟨e, h1, h2⟩ := ih (i + 1) (some (.int (nI (tuN way i)))) (some (.int (-1))) (by omega)
      refine ⟨e, ?_, by rw [show ctR col pl way (n + 1) i = ctR col pl way n (i + 1) from if_neg (fun x => g x.1)]; exact h2⟩
      rw [H_X10_stepAsCat_11]
      simp only [R_X10_stepAsCat, SB, e1, if_false, if_true, clK_gf h.p0, s_turned h 60 i (by omega), ls1s, h.p2, s_beside h.r2 ht, nbI_n g, show ((-1 : Int32) < 0) = True from by simp, nI_1]
      exact h1
theorem s_stepC {w : AH} {c : Nat} {col wear : Nat → Nat} (hc : CarAt w c col wear) {a kd m pl way : Nat} (h : WkAt w a kd m pl way) (lv : Nat) : ∃ e, Call M_X10_stepAsCat lv [.ref a, .ref c] w = some (none, hs w a e) ∧ WkAt (hs w a e) a kd m (ctR col pl way 4 0).1 (ctR col pl way 4 0).2 := by
  obtain ⟨e, h1, h2⟩ := l_stepC hc h lv 4 0 none none (by decide)
  refine ⟨e, ?_, h2⟩
  simp only [C_X10_stepAsCat, R_X10_stepAsCat, SB, ls1s, h.p2, clK_gf hc.p0, s_colourOf hc h.r2, if_true]
  exact h1
/-- one less, for numbers of which 0 stands for none -/
def mO (b : Nat) : Int32 := if b = 0 then -1 else nI (b - 1)
theorem mO_s (b : Nat) : mO (b + 1) = nI b := by unfold mO; simp
theorem mO_ge {c b : Nat} (hc : c < 1000) (hb : b < 1000) : (nI c ≤ mO b) = (c < b) := by
  unfold mO
  by_cases g : b = 0
  · rw [if_pos g, le_t, nI_t (by omega), show (-1 : Int32).toInt = -1 from rfl]
    apply propext; omega
  · rw [if_neg g, le_nI (by omega) (by omega)]
    apply propext; omega
def mtF (col : Nat → Nat) (pl : Nat) : Nat → Nat × Nat → Nat × Nat := fun y s => if nbN pl y < 36 ∧ s.1 ≤ col (nbN pl y) then (col (nbN pl y) + 1, y) else s
def mtA (col : Nat → Nat) (pl way : Nat) : Nat := (foldN (mtF col pl) 4 (0, way)).2
def mtP (col : Nat → Nat) (pl way : Nat) : Nat × Nat := goP pl way (mtA col pl way)
theorem s_stepM {w : AH} {c : Nat} {col wear : Nat → Nat} (hc : CarAt w c col wear) {a kd m pl way : Nat} (h : WkAt w a kd m pl way) (lv : Nat) : ∃ e, Call M_X10_stepAsMoth lv [.ref a, .ref c] w = some (none, hs w a e) ∧ WkAt (hs w a e) a kd m (mtP col pl way).1 (mtP col pl way).2 := by
  have hl := for_up (fun y (s : Nat × Nat) => Ex M_X10_stepAsMoth lv 10 [some (.ref a), some (.ref c), some (.int (mO s.1)), some (.int (nI s.2)), some (.int (nI y)), if y = 0 then none else some (.int (nbI pl (y - 1)))] [] w) (mtF col pl) (fun _ s => s.1 ≤ 8 ∧ s.2 < 4) 4 (by
    intro y s hy hI
    have e1 : ((4 : Int32) ≤ nI y) = False := by rw [show (4 : Int32) = nI 4 from rfl, le_nI (by decide) (by omega)]; simp; omega
    by_cases g : nbN pl y < 36
    · have hr := hc.r0 _ g
      have e2 : (nI (nbN pl y) < 0) = False := by rw [show (0 : Int32) = nI 0 from rfl, lt_nI (by omega) (by decide)]; simp
      by_cases g2 : s.1 ≤ col (nbN pl y)
      · have q : mtF col pl y s = (col (nbN pl y) + 1, y) := if_pos ⟨g, g2⟩
        rw [q]
        refine ⟨?_, by show col (nbN pl y) + 1 ≤ 8; omega, hy⟩
        rw [H_X10_stepAsMoth_10]
        simp only [R_X10_stepAsMoth, SB, e1, if_false, if_true, h.p2, s_beside h.r2 hy, nbI_y g, ls1s, e2, clK_gf hc.p0, s_colourOf hc g, mO_ge (show col (nbN pl y) < 1000 by omega) (show s.1 < 1000 by omega), Nat.not_lt.mpr g2, mO_s, nI_1, Nat.succ_ne_zero, Nat.add_sub_cancel]
      · have q : mtF col pl y s = s := if_neg (fun x => g2 x.2)
        rw [q]
        refine ⟨?_, hI⟩
        rw [H_X10_stepAsMoth_10]
        simp only [R_X10_stepAsMoth, SB, e1, if_false, if_true, h.p2, s_beside h.r2 hy, nbI_y g, ls1s, e2, clK_gf hc.p0, s_colourOf hc g, mO_ge (show col (nbN pl y) < 1000 by omega) (show s.1 < 1000 by omega), Nat.not_le.mp g2, nI_1, Nat.succ_ne_zero, Nat.add_sub_cancel]
    · have q : mtF col pl y s = s := if_neg (fun x => g x.1)
      rw [q]
      refine ⟨?_, hI⟩
      rw [H_X10_stepAsMoth_10]
      simp only [R_X10_stepAsMoth, SB, e1, if_false, if_true, h.p2, s_beside h.r2 hy, nbI_n g, ls1s, show ((-1 : Int32) < 0) = True from by simp, nI_1, Nat.succ_ne_zero, Nat.add_sub_cancel]) 4 (0, way) (Nat.le_refl _) ⟨Nat.zero_le _, h.r3⟩
  obtain ⟨e, h1, h2⟩ := s_go h hl.2.2 60
  refine ⟨e, ?_, h2⟩
  simp only [C_X10_stepAsMoth, R_X10_stepAsMoth, SB, h.p3, ls1s, if_true, show (0 : Int32) = nI 0 from rfl]
  refine (show _ = _ from rfl).trans (hl.1.trans ?_)
  rw [H_X10_stepAsMoth_10]
  simp only [R_X10_stepAsMoth, SB, show ((4 : Int32) ≤ nI 4) = True from by rw [show (4 : Int32) = nI 4 from rfl]; simp, if_true, clK_gf h.p0, h1]
def stP (kd day : Nat) (col : Nat → Nat) (pl way : Nat) : Nat × Nat :=
  if kd = 1 ∨ kd = 4 then (if kd = 4 ∧ day % 2 ≠ 0 then (pl, way) else ctR col pl way 4 0)
  else if kd = 3 ∨ kd = 6 then mtP col pl way
  else if kd = 2 ∨ kd = 5 then wkP (wkP pl way).1 (wkP pl way).2 else wkP pl way
theorem s_step {w : AH} {bod : Nat → Nat} (hs0 : StA w bod) {c : Nat} {col wear : Nat → Nat} (hc : CarAt w c col wear) {a kd m pl way : Nat} (h : WkAt w a kd m pl way) (ha : 2 < a) {day : Nat} (hd : day < 2147483648) (lv : Nat) : ∃ e, Call M_X10_step lv [.ref a, .ref c, .int (nI day)] w = some (none, hs w a e) ∧ WkAt (hs w a e) a kd m (stP kd day col pl way).1 (stP kd day col pl way).2 := by
  have hk := h.r0
  have d2 : nI day - nI day / 2 * 2 = nI (day % 2) := pk_rem (show day < 2 ^ 31 by omega) (show 0 < 2 by decide) (show 2 < 2 ^ 31 by decide)
  have e0 : (nI (day % 2) = 0) = (day % 2 = 0) := by rw [show (0 : Int32) = nI 0 from rfl, eq_nI (by omega) (by decide)]
  have e4 : (nI kd = 4) = (kd = 4) := by rw [show (4 : Int32) = nI 4 from rfl, eq_nI (by omega) (by decide)]
  have i1 := s_isOf hs0 h (show 1 < 7 by decide) 60
  have i3 := s_isOf hs0 h (show 3 < 7 by decide) 60
  rw [isK_1 kd hk] at i1
  rw [isK_3 kd hk] at i3
  unfold stP
  by_cases q1 : kd = 1 ∨ kd = 4
  · rw [if_pos q1]
    rw [decide_eq_true q1] at i1
    by_cases q2 : kd = 4 ∧ day % 2 ≠ 0
    · rw [if_pos q2]
      refine ⟨hg w a, ?_, by rw [hs_same]; exact h⟩
      simp only [C_X10_step, R_X10_step, SB, clK_gf h.p0, show (1 : Int32) = nI 1 from rfl, i1, bI_e0, Bool.true_eq_false, if_true, if_false, h.p0, e4, eq_true q2.1, not_true_eq_false, show ((2 : Int32) = 0) = False from by simp, d2, e0, eq_false q2.2, not_false_eq_true, hs_same]
    · rw [if_neg q2]
      obtain ⟨e, h1, h2⟩ := s_stepC hc h 60
      refine ⟨e, ?_, h2⟩
      by_cases q3 : kd = 4
      · have q4 : day % 2 = 0 := Classical.byContradiction (fun x => q2 ⟨q3, x⟩)
        simp only [C_X10_step, R_X10_step, SB, clK_gf h.p0, show (1 : Int32) = nI 1 from rfl, i1, bI_e0, Bool.true_eq_false, if_true, if_false, h.p0, e4, eq_true q3, not_true_eq_false, show ((2 : Int32) = 0) = False from by simp, d2, e0, eq_true q4, h1]
      · simp only [C_X10_step, R_X10_step, SB, clK_gf h.p0, show (1 : Int32) = nI 1 from rfl, i1, bI_e0, Bool.true_eq_false, if_true, if_false, h.p0, e4, q3, not_false_eq_true, h1]
  · rw [if_neg q1]
    rw [decide_eq_false q1] at i1
    by_cases q2 : kd = 3 ∨ kd = 6
    · rw [if_pos q2]
      rw [decide_eq_true q2] at i3
      obtain ⟨e, h1, h2⟩ := s_stepM hc h 60
      refine ⟨e, ?_, h2⟩
      simp only [C_X10_step, R_X10_step, SB, clK_gf h.p0, show (1 : Int32) = nI 1 from rfl, show (3 : Int32) = nI 3 from rfl, i1, i3, bI_e0, Bool.true_eq_false, if_true, if_false, h1]
    · rw [if_neg q2]
      rw [decide_eq_false q2] at i3
      obtain ⟨e, h1, h2⟩ := s_stepW h 60
      have ce : clK e = 9 := by have := clK_gf h2.p0; rw [hs_eq] at this; exact this
      have hs1 : StA (hs w a e) bod := by
        unfold StA
        rw [hs_ne _ _ (show 1 ≠ a by omega), hs_ne _ _ (show 2 ≠ a by omega)]
        exact hs0
      have i2 := s_isOf hs1 h2 (show 2 < 7 by decide) 60
      rw [isK_2 kd hk] at i2
      by_cases q3 : kd = 2 ∨ kd = 5
      · rw [if_pos q3]
        rw [decide_eq_true q3] at i2
        obtain ⟨e5, h5, h6⟩ := s_stepW h2 60
        rw [hs_hs] at h5 h6
        refine ⟨e5, ?_, h6⟩
        simp only [C_X10_step, R_X10_step, SB, clK_gf h.p0, show (1 : Int32) = nI 1 from rfl, show (3 : Int32) = nI 3 from rfl, show (2 : Int32) = nI 2 from rfl, i1, i3, bI_e0, Bool.true_eq_false, if_true, if_false, h1, ce, i2, h5, eq_self]
      · rw [if_neg q3]
        rw [decide_eq_false q3] at i2
        refine ⟨e, ?_, h2⟩
        simp only [C_X10_step, R_X10_step, SB, clK_gf h.p0, show (1 : Int32) = nI 1 from rfl, show (3 : Int32) = nI 3 from rfl, show (2 : Int32) = nI 2 from rfl, i1, i3, bI_e0, Bool.true_eq_false, if_true, if_false, h1, ce, i2, eq_self]
