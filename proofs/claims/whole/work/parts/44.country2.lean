/-! ===== Country: counts ===== -/
theorem cnt_fold (P : Nat → Bool) : ∀ n, foldN (fun k s => if P k = true then s + 1 else s) n 0 = cnt P n := by
  intro n
  induction n with
  | zero => rfl
  | succ n ih =>
    show (if P n = true then foldN (fun k s => if P k = true then s + 1 else s) n 0 + 1 else foldN (fun k s => if P k = true then s + 1 else s) n 0) = _
    rw [ih]
    show _ = cnt P n + if P n = true then 1 else 0
    cases P n <;> simp
def slB (S : Co) (k : Nat) : Bool := decide (S.col k ≠ 0 ∧ S.col k ≠ ptN S k)
theorem s_countSlips {w : AH} {g : Nat} {S : Co} (h : CoAt w g S) (lv : Nat) : ∃ v, Call M_X1_countSlips lv [.ref g] w = some (some (.int (nI (cnt (slB S) 36))), v) ∧ CoAt v g S ∧ Fr (StP g) w v := by
  obtain ⟨v, h1, h2, h3⟩ := for_ex (fun k n w => Ex M_X1_countSlips lv 4 [some (.ref g), some (.int (nI n)), some (.int (nI k)), if k = 0 then none else some (.int (nI (S.col (k - 1))))] [] w) (fun k s => if slB S k = true then s + 1 else s) (fun _ _ v => CoAt v g S ∧ Fr (StP g) w v) 36 (by
    intro k n u hk hI
    obtain ⟨i1, i2⟩ := hI
    have hr := i1.car.r0 k hk
    have e1 : ((36 : Int32) ≤ nI k) = False := by rw [show (36 : Int32) = nI 36 from rfl, le_nI (by decide) (by omega)]; simp; omega
    have e0 : (nI (S.col k) = 0) = (S.col k = 0) := by rw [show (0 : Int32) = nI 0 from rfl, eq_nI (by omega) (by decide)]
    by_cases c0 : S.col k = 0
    · refine ⟨u, ?_, i1, i2⟩
      rw [H_X1_countSlips_4]
      simp only [R_X1_countSlips, SB, e1, if_false, if_true, i1.k0, clK_gf i1.car.p0, s_colourOf i1.car hk, ls1s, e0, eq_true c0, nI_1, slB, ne_eq, not_true_eq_false, false_and, decide_false, Bool.false_eq_true, Nat.succ_ne_zero, Nat.add_sub_cancel]
    · obtain ⟨v, p1, p2, p3⟩ := s_patternOf i1 hk 60
      refine ⟨v, ?_, p2, i2.trans p3⟩
      have e2 : (nI (S.col k) = nI (ptN S k)) = (S.col k = ptN S k) := eq_nI (by omega) (by have := ptN_lt S k; omega)
      rw [H_X1_countSlips_4]
      simp only [R_X1_countSlips, SB, e1, if_false, if_true, i1.k0, clK_gf i1.car.p0, s_colourOf i1.car hk, ls1s, e0, eq_false c0, clK_gf i1.k0, p1, e2, nI_1, slB, ne_eq, not_false_eq_true, true_and, Nat.succ_ne_zero, Nat.add_sub_cancel]
      by_cases c2 : S.col k = ptN S k <;> simp [c2]) 36 (Nat.le_refl _) 0 w ⟨h, Fr.refl _ _⟩
  refine ⟨v, ?_, h2, h3⟩
  simp only [C_X1_countSlips, R_X1_countSlips, SB, ls1s, show (0 : Int32) = nI 0 from rfl]
  refine (show _ = _ from rfl).trans (h1.trans ?_)
  rw [H_X1_countSlips_4, cnt_fold]
  simp only [R_X1_countSlips, SB, show ((36 : Int32) ≤ nI 36) = True from by rw [show (36 : Int32) = nI 36 from rfl]; simp, if_true]
def mdB (S : Co) (c k : Nat) : Bool := decide (S.col k = 0 ∧ ptN S k = c)
theorem s_countMends {w : AH} {g : Nat} {S : Co} (h : CoAt w g S) {c : Nat} (hc : c < 8) (lv : Nat) : ∃ v, Call M_X1_countMends lv [.ref g, .int (nI c)] w = some (some (.int (nI (cnt (mdB S c) 36))), v) ∧ CoAt v g S ∧ Fr (StP g) w v := by
  obtain ⟨v, h1, h2, h3⟩ := for_ex (fun k n w => Ex M_X1_countMends lv 4 [some (.ref g), some (.int (nI c)), some (.int (nI n)), some (.int (nI k))] [] w) (fun k s => if mdB S c k = true then s + 1 else s) (fun _ _ v => CoAt v g S ∧ Fr (StP g) w v) 36 (by
    intro k n u hk hI
    obtain ⟨i1, i2⟩ := hI
    have hr := i1.car.r0 k hk
    have e1 : ((36 : Int32) ≤ nI k) = False := by rw [show (36 : Int32) = nI 36 from rfl, le_nI (by decide) (by omega)]; simp; omega
    have e0 : (nI (S.col k) = 0) = (S.col k = 0) := by rw [show (0 : Int32) = nI 0 from rfl, eq_nI (by omega) (by decide)]
    by_cases c0 : S.col k = 0
    · obtain ⟨v, p1, p2, p3⟩ := s_patternOf i1 hk 60
      refine ⟨v, ?_, p2, i2.trans p3⟩
      have e2 : (nI (ptN S k) = nI c) = (ptN S k = c) := eq_nI (by have := ptN_lt S k; omega) (by omega)
      rw [H_X1_countMends_4]
      simp only [R_X1_countMends, SB, e1, if_false, if_true, i1.k0, clK_gf i1.car.p0, s_colourOf i1.car hk, ls1s, e0, eq_true c0, not_true_eq_false, clK_gf i1.k0, p1, e2, nI_1, mdB, true_and]
      by_cases c2 : ptN S k = c <;> simp [c2]
    · refine ⟨u, ?_, i1, i2⟩
      rw [H_X1_countMends_4]
      simp only [R_X1_countMends, SB, e1, if_false, if_true, i1.k0, clK_gf i1.car.p0, s_colourOf i1.car hk, ls1s, e0, eq_false c0, not_false_eq_true, nI_1, mdB, false_and, decide_false, Bool.false_eq_true]) 36 (Nat.le_refl _) 0 w ⟨h, Fr.refl _ _⟩
  refine ⟨v, ?_, h2, h3⟩
  simp only [C_X1_countMends, R_X1_countMends, SB, ls1s, show (0 : Int32) = nI 0 from rfl]
  refine (show _ = _ from rfl).trans (h1.trans ?_)
  rw [H_X1_countMends_4, cnt_fold]
  simp only [R_X1_countMends, SB, show ((36 : Int32) ≤ nI 36) = True from by rw [show (36 : Int32) = nI 36 from rfl]; simp, if_true]
def wcN (S : Co) (c : Nat) : Nat := sumN (fun r => woN S (r * 6 + c)) 6
theorem s_worthOfColumn {w : AH} {g : Nat} {S : Co} (h : CoAt w g S) {c : Nat} (hc : c < 6) (lv : Nat) : ∃ v, Call M_X1_worthOfColumn lv [.ref g, .int (nI c)] w = some (some (.int (nI (wcN S c))), v) ∧ CoAt v g S ∧ Fr (StP g) w v := by
  obtain ⟨v, h1, h2, h3⟩ := for_ex (fun k n w => Ex M_X1_worthOfColumn lv 4 [some (.ref g), some (.int (nI c)), some (.int (nI n)), some (.int (nI k))] [] w) (fun r s => s + woN S (r * 6 + c)) (fun _ _ v => CoAt v g S ∧ Fr (StP g) w v) 6 (by
    intro k n u hk hI
    obtain ⟨i1, i2⟩ := hI
    have e1 : ((6 : Int32) ≤ nI k) = False := by rw [show (6 : Int32) = nI 6 from rfl, le_nI (by decide) (by omega)]; simp; omega
    have d : nI k * 6 + nI c = nI (k * 6 + c) := by rw [show (6 : Int32) = nI 6 from rfl, pk_mul, nI_add]
    obtain ⟨v, p1, p2, p3⟩ := s_worthOf i1 (show k * 6 + c < 36 by omega) 60
    refine ⟨v, ?_, p2, i2.trans p3⟩
    rw [H_X1_worthOfColumn_4]
    simp only [R_X1_worthOfColumn, SB, e1, if_false, if_true, d, clK_gf i1.k0, p1, ls1s, nI_add, nI_1]) 6 (Nat.le_refl _) 0 w ⟨h, Fr.refl _ _⟩
  refine ⟨v, ?_, h2, h3⟩
  simp only [C_X1_worthOfColumn, R_X1_worthOfColumn, SB, ls1s, show (0 : Int32) = nI 0 from rfl]
  refine (show _ = _ from rfl).trans (h1.trans ?_)
  rw [H_X1_worthOfColumn_4, sumN_fold]
  simp only [R_X1_worthOfColumn, SB, show ((6 : Int32) ≤ nI 6) = True from by rw [show (6 : Int32) = nI 6 from rfl]; simp, if_true, wcN]
