/-! ===== Walker ===== -/
def abv (k : Nat) : Nat := if k < 4 then 0 else k - 3
theorem abv_lt {k : Nat} (h : k < 7) : abv k < 7 := by unfold abv; split <;> omega
/-- the two rows of numbers that the classes keep -/
def StA (w : AH) (bod : Nat → Nat) : Prop := (∃ F : Nat → Int32, hg w 1 = .inl (10, 7, .inl F) ∧ F 0 = -1 ∧ ∀ k, 0 < k → k < 7 → F k = nI (abv k)) ∧ (∃ F : Nat → Int32, hg w 2 = .inl (10, 28, .inl F) ∧ ∀ k, k < 28 → F k = nI (bod k))
theorem StA.a1 {w : AH} {bod : Nat → Nat} (h : StA w bod) : ∃ F : Nat → Int32, hg w 1 = .inl (10, 7, .inl F) ∧ F 0 = -1 ∧ ∀ k, 0 < k → k < 7 → F k = nI (abv k) := h.1
theorem StA.a2 {w : AH} {bod : Nat → Nat} (h : StA w bod) : ∃ F : Nat → Int32, hg w 2 = .inl (10, 28, .inl F) ∧ ∀ k, k < 28 → F k = nI (bod k) := h.2
def abI (k : Nat) : Int32 := if k = 0 then -1 else nI (abv k)
theorem s_kindAbove {w : AH} {bod : Nat → Nat} (h : StA w bod) {k : Nat} (hk : k < 7) (lv : Nat) : Call M_X10_kindAbove lv [.int (nI k)] w = some (some (.int (abI k)), w) := by
  obtain ⟨F, e, h0, h1⟩ := h.a1
  have q : ((0 : Int32).toInt ≤ (nI k).toInt ∧ (nI k).toInt ≤ (6 : Int32).toInt) = True := by
    rw [nI_t (by omega), show (0 : Int32).toInt = 0 from rfl, show (6 : Int32).toInt = 6 from rfl]
    simp; omega
  have e2 : F k = abI k := by
    unfold abI
    by_cases g : k = 0
    · rw [if_pos g, g, h0]
    · rw [if_neg g, h1 k (by omega) hk]
  simp only [C_X10_kindAbove, R_X10_kindAbove, SB, s_isWithin, q, decide_true, bI_e0, Bool.true_eq_false, if_true, if_false, e, aI_10 hk (show 7 ≤ 2147483648 by decide), e2]
def WkAt (w : AH) (a kd m pl way : Nat) : Prop := (gf (hg w a) 9 0 = some (.int (nI kd))) ∧ (gf (hg w a) 9 1 = some (.int (nI m))) ∧ (gf (hg w a) 9 2 = some (.int (nI pl))) ∧ (gf (hg w a) 9 3 = some (.int (nI way))) ∧ (kd < 7) ∧ (m < 10) ∧ (pl < 36) ∧ (way < 4)
theorem WkAt.p0 {w : AH} {a kd m pl way : Nat} (h : WkAt w a kd m pl way) : gf (hg w a) 9 0 = some (.int (nI kd)) := h.1
theorem WkAt.p1 {w : AH} {a kd m pl way : Nat} (h : WkAt w a kd m pl way) : gf (hg w a) 9 1 = some (.int (nI m)) := h.2.1
theorem WkAt.p2 {w : AH} {a kd m pl way : Nat} (h : WkAt w a kd m pl way) : gf (hg w a) 9 2 = some (.int (nI pl)) := h.2.2.1
theorem WkAt.p3 {w : AH} {a kd m pl way : Nat} (h : WkAt w a kd m pl way) : gf (hg w a) 9 3 = some (.int (nI way)) := h.2.2.2.1
theorem WkAt.r0 {w : AH} {a kd m pl way : Nat} (h : WkAt w a kd m pl way) : kd < 7 := h.2.2.2.2.1
theorem WkAt.r1 {w : AH} {a kd m pl way : Nat} (h : WkAt w a kd m pl way) : m < 10 := h.2.2.2.2.2.1
theorem WkAt.r2 {w : AH} {a kd m pl way : Nat} (h : WkAt w a kd m pl way) : pl < 36 := h.2.2.2.2.2.2.1
theorem WkAt.r3 {w : AH} {a kd m pl way : Nat} (h : WkAt w a kd m pl way) : way < 4 := h.2.2.2.2.2.2.2
theorem WkAt.keep {w v : AH} {a kd m pl way : Nat} (h : WkAt w a kd m pl way) (e : hg v a = hg w a) : WkAt v a kd m pl way := by
  unfold WkAt
  rw [e]
  exact h
def isK (kd x : Nat) : Bool := decide (x = 0 ∨ x = kd ∨ x = abv kd)
theorem s_isOf {w : AH} {bod : Nat → Nat} (g : StA w bod) {a kd m pl way : Nat} (h : WkAt w a kd m pl way) {x : Nat} (hx : x < 7) (lv : Nat) : Call M_X10_isOf lv [.ref a, .int (nI x)] w = some (some (.int (bI (isK kd x))), w) := by
  have st : ∀ k i, k < 7 → i < 7 → Ex M_X10_isOf lv 7 [some (.ref a), some (.int (nI x)), some (.int (nI k)), some (.int (nI i))] [] w = if k = x then some (some (.int 1), w) else Ex M_X10_isOf lv 7 [some (.ref a), some (.int (nI x)), some (.int (abI k)), some (.int (nI (i + 1)))] [] w := by
    intro k i hk hi
    have e1 : ((7 : Int32) ≤ nI i) = False := by rw [show (7 : Int32) = nI 7 from rfl, le_nI (by decide) (by omega)]; simp; omega
    have e2 : (nI k < 0) = False := by rw [show (0 : Int32) = nI 0 from rfl, lt_nI (by omega) (by decide)]; simp
    rw [H_X10_isOf_7]
    simp only [R_X10_isOf, SB, e1, e2, if_false, eq_nI (show k < 2147483648 by omega) (show x < 2147483648 by omega), s_kindAbove g hk, if_true, ls1s, nI_1, or_true]
    by_cases q : k = x <;> simp [q]
  have en : ∀ i, i < 7 → Ex M_X10_isOf lv 7 [some (.ref a), some (.int (nI x)), some (.int (-1)), some (.int (nI i))] [] w = some (some (.int 0), w) := by
    intro i hi
    have e1 : ((7 : Int32) ≤ nI i) = False := by rw [show (7 : Int32) = nI 7 from rfl, le_nI (by decide) (by omega)]; simp; omega
    rw [H_X10_isOf_7]
    simp only [R_X10_isOf, SB, e1, if_false, show ((-1 : Int32) < 0) = True from by simp, if_true, true_or]
  have hk := h.r0
  simp only [C_X10_isOf, R_X10_isOf, SB, h.p0, if_true, ls1s, show (0 : Int32) = nI 0 from rfl]
  have z : ∀ i, i < 6 → Ex M_X10_isOf lv 7 [some (.ref a), some (.int (nI x)), some (.int (nI 0)), some (.int (nI i))] [] w = if 0 = x then some (some (.int 1), w) else some (some (.int 0), w) := by
    intro i hi
    rw [st 0 i (by decide) (by omega), show abI 0 = -1 from rfl, en (i + 1) (by omega)]
  have on : ∀ k i, k < 4 → i < 5 → Ex M_X10_isOf lv 7 [some (.ref a), some (.int (nI x)), some (.int (nI k)), some (.int (nI i))] [] w = if k = x ∨ x = 0 then some (some (.int 1), w) else some (some (.int 0), w) := by
    intro k i hk hi
    by_cases q : k = 0
    · subst q
      rw [z i (by omega)]
      by_cases q2 : x = 0
      · simp [q2]
      · simp [q2, Ne.symm q2]
    · rw [st k i (by omega) (by omega), show abI k = nI 0 from by unfold abI abv; rw [if_neg q, if_pos hk], z (i + 1) (by omega)]
      by_cases q2 : k = x
      · simp [q2]
      · by_cases q3 : x = 0
        · subst q3; simp [q2]
        · simp [q2, q3, Ne.symm q3]
  unfold isK bI
  by_cases q : kd < 4
  · rw [on kd 0 q (by decide), show abv kd = 0 from if_pos q]
    by_cases q2 : x = 0
    · simp [q2]
    · by_cases q3 : kd = x
      · simp [q3]
      · simp [q2, q3, Ne.symm q3]
  · have e : abI kd = nI (kd - 3) := by unfold abI abv; rw [if_neg (by omega), if_neg q]
    rw [st kd 0 hk (by decide), e, on (kd - 3) (0 + 1) (by omega) (by decide), show abv kd = kd - 3 from if_neg q]
    by_cases q2 : x = 0
    · simp [q2]
    · by_cases q3 : kd = x
      · simp [q3]
      · by_cases q4 : kd - 3 = x
        · simp [q4]
        · simp [q2, q3, q4, Ne.symm q3, Ne.symm q4]
/-- what a walker wears down -/
def wrN (kd m : Nat) : Nat := if kd = 3 ∨ kd = 6 then 0 else if kd = 5 then 3 + m else if kd = 2 then 3 else 1
theorem isK_3 : ∀ kd, kd < 7 → isK kd 3 = decide (kd = 3 ∨ kd = 6) := by decide +kernel
theorem isK_2 : ∀ kd, kd < 7 → isK kd 2 = decide (kd = 2 ∨ kd = 5) := by decide +kernel
theorem isK_1 : ∀ kd, kd < 7 → isK kd 1 = decide (kd = 1 ∨ kd = 4) := by decide +kernel
theorem s_wearing {w : AH} {bod : Nat → Nat} (g : StA w bod) {a kd m pl way : Nat} (h : WkAt w a kd m pl way) (lv : Nat) : Call M_X10_wearing lv [.ref a] w = some (some (.int (nI (wrN kd m))), w) := by
  have hk := h.r0
  simp only [C_X10_wearing, R_X10_wearing, SB, clK_gf h.p0, h.p0, h.p1, show (3 : Int32) = nI 3 from rfl, show (2 : Int32) = nI 2 from rfl, show (5 : Int32) = nI 5 from rfl, s_isOf g h (show 3 < 7 by decide), s_isOf g h (show 2 < 7 by decide), isK_3 kd hk, isK_2 kd hk, bI_e0, if_true, eq_nI (show kd < 2147483648 by omega) (show 5 < 2147483648 by decide), nI_add]
  unfold wrN
  by_cases q1 : kd = 3 ∨ kd = 6
  · rcases q1 with rfl | rfl <;> simp <;> rfl
  · by_cases q2 : kd = 5
    · subst q2; simp
    · by_cases q3 : kd = 2
      · subst q3; simp
      · simp [q1, q2, q3]; rfl
def etB (kd m wr : Nat) : Bool := decide (kd = 6 ∨ kd = 3 ∧ 10 * m ≤ wr)
theorem s_wouldEat {w : AH} {c : Nat} {col wear : Nat → Nat} (hc : CarAt w c col wear) {a kd m pl way : Nat} (h : WkAt w a kd m pl way) (lv : Nat) : Call M_X10_wouldEat lv [.ref a, .ref c] w = some (some (.int (bI (etB kd m (wear pl)))), w) := by
  have hk := h.r0
  have hw := hc.r1 pl h.r2
  have hm := h.r1
  simp only [C_X10_wouldEat, R_X10_wouldEat, SB, h.p0, h.p1, h.p2, clK_gf hc.p0, s_wearOf hc h.r2, show (3 : Int32) = nI 3 from rfl, show (6 : Int32) = nI 6 from rfl, show (10 : Int32) = nI 10 from rfl, pk_mul, if_true, eq_nI (show kd < 2147483648 by omega) (show 6 < 2147483648 by decide), eq_nI (show kd < 2147483648 by omega) (show 3 < 2147483648 by decide), lt_nI (show wear pl < 2147483648 by omega) (show 10 * m < 2147483648 by omega), true_or, or_true]
  unfold etB bI
  by_cases q1 : kd = 6
  · simp [q1]
  · by_cases q2 : kd = 3
    · by_cases q3 : wear pl < 10 * m
      · simp [q2, q3, Nat.not_le.mpr q3]
      · simp [q2, q3, Nat.not_lt.mp q3]
    · simp [q1, q2]
