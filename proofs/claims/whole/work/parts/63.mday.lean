/-! ===== the model's walkers and days ===== -/
theorem nbN_ok : ∀ k, k < 36 → ∀ way, way < 4 → nbN k (wkS 3 k way) < 36 ∧ wkS 3 k way < 4 := by decide +kernel
theorem m_goes {S : Co} {I : Nat → Int32} {A : Nat → Nat → Int32} (h : DR (A 0) S) {i y : Nat} (hi : i < S.nw) (hy : y < 4) (hp : nbN (S.wk i 2) y < 36) (w : AH) (lv : Nat) : ∃ D, Call M_X12_goes lv [.ref 123, .int (nI i), .int (nI y)] (mw w I A) = some (none, mw w I (upA A 0 D)) ∧ DR D (S.upd3 S.col S.wear (setPW S.wk i (nbN (S.wk i 2) y) y)) ∧ Lo (A 0) D := by
  have hn := h.rn
  obtain ⟨r0, r1, r2, r3⟩ := h.rk i hi
  have h1 : DR (upA A 0 (upd (A 0) (77 + 4 * i + 3) (nI y)) 0) (S.upd3 S.col S.wear (wkK S.wk i 3 y)) := h.setK hi (by decide) ⟨by omega, by omega, by omega, by omega⟩
  have e2 : (S.upd3 S.col S.wear (wkK S.wk i 3 y)).wk i 2 = S.wk i 2 := by show wkK S.wk i 3 y i 2 = _; simp [wkK]
  have g2 := m_of2 (I := I) h1 (i := i) hi w 60
  rw [e2] at g2
  refine ⟨upd (upd (A 0) (77 + 4 * i + 3) (nI y)) (77 + 4 * i + 2) (nI (nbN (S.wk i 2) y)), ?_, ?_, ?_⟩
  · simp (disch := omega) only [C_X12_goes, R_X12_goes, SB, mw_o, mo_g, if_true, m_sets3 (I := I) (A := A) (show i < 5 by omega) (nI y) w 60, g2, m_beside r2 hy, nbI_y hp, m_sets2 (show i < 5 by omega), upA_upA, upA_eq]
  · have := h1.setK (i := i) (x := 2) (v := nbN (S.wk i 2) y) hi (by decide) ⟨by omega, by omega, by omega, by omega⟩
    rw [setPW_K]
    exact this
  · exact (Lo.up (by omega) _).trans (Lo.up (by omega) _)
theorem m_plain {S : Co} {I : Nat → Int32} {A : Nat → Nat → Int32} (h : DR (A 0) S) {i : Nat} (hi : i < S.nw) (w : AH) (lv : Nat) : ∃ D, Call M_X12_plainStep lv [.ref 123, .int (nI i)] (mw w I A) = some (none, mw w I (upA A 0 D)) ∧ DR D (S.upd3 S.col S.wear (setPW S.wk i (wkP (S.wk i 2) (S.wk i 3)).1 (wkP (S.wk i 2) (S.wk i 3)).2)) ∧ Lo (A 0) D := by
  have hn := h.rn
  obtain ⟨r0, r1, r2, r3⟩ := h.rk i hi
  obtain ⟨k1, k2⟩ := nbN_ok _ r2 _ r3
  obtain ⟨D, d1, d2, d3⟩ := m_goes (I := I) h hi k2 k1 w 60
  have hl : ∀ n y, y < 4 → nbN (S.wk i 2) (wkS n (S.wk i 2) y) < 36 → Ex M_X12_plainStep lv 7 [some (.ref 123), some (.int (nI i)), some (.int (nI y))] [] (mw w I A) = Ex M_X12_plainStep lv 29 [some (.ref 123), some (.int (nI i)), some (.int (nI (wkS n (S.wk i 2) y)))] [] (mw w I A) := by
    have yes : ∀ y, y < 4 → nbN (S.wk i 2) y < 36 → Ex M_X12_plainStep lv 7 [some (.ref 123), some (.int (nI i)), some (.int (nI y))] [] (mw w I A) = Ex M_X12_plainStep lv 29 [some (.ref 123), some (.int (nI i)), some (.int (nI y))] [] (mw w I A) := by
      intro y hy hq
      have e1 : ((0 : Int32) ≤ nI (nbN (S.wk i 2) y)) = True := by rw [show (0 : Int32) = nI 0 from rfl, le_nI (by decide) (by omega)]; simp
      rw [H_X12_plainStep_7.1]
      have keep : ∀ x : Option (Option Value × AH), x = Ex M_X12_plainStep lv 29 [some (.ref 123), some (.int (nI i)), some (.int (nI y))] [] (mw w I A) → x = x := fun _ _ => rfl
      generalize hE : Ex M_X12_plainStep lv 29 [some (.ref 123), some (.int (nI i)), some (.int (nI y))] [] (mw w I A) = R
      simp only [R_X12_plainStep.2.2.2.2.2, R_X12_plainStep.1, R_X12_plainStep.2.1, R_X12_plainStep.2.2.1, R_X12_plainStep, SB, mw_o, mo_g, m_of2 h hi, m_beside r2 hy, nbI_y hq, e1, if_true] at hE ⊢
      exact hE
    intro n
    induction n with
    | zero => intro y hy hq; exact yes y hy hq
    | succ n ih =>
      intro y hy hq
      by_cases q : nbN (S.wk i 2) y < 36
      · rw [show wkS (n + 1) (S.wk i 2) y = y from if_pos q]; exact yes y hy q
      · have e : wkS (n + 1) (S.wk i 2) y = wkS n (S.wk i 2) ((y + 1) % 4) := if_neg q
        rw [e] at hq ⊢
        rw [← ih ((y + 1) % 4) (Nat.mod_lt _ (by decide)) hq]
        have d4 : nI (y + 1) - nI (y + 1) / 4 * 4 = nI ((y + 1) % 4) := pk_rem (show y + 1 < 2 ^ 31 by omega) (show 0 < 4 by decide) (show 4 < 2 ^ 31 by decide)
        rw [H_X12_plainStep_7.1]
        simp only [R_X12_plainStep, SB, mw_o, mo_g, m_of2 h hi, m_beside r2 hy, nbI_n q, show ((0 : Int32) ≤ -1) = False from by simp, if_true, if_false, ls1s, nI_1, show ((4 : Int32) = 0) = False from by simp, d4]
  have e0 := hl 3 (S.wk i 3) r3 k1
  refine ⟨D, ?_, ?_, d3⟩
  · simp only [C_X12_plainStep, R_X12_plainStep, SB, mw_o, mo_g, m_of3 h hi, if_true, ls1s]
    refine e0.trans ?_
    simp only [R_X12_plainStep, SB, mw_o, mo_g, d1, if_true]
  · unfold wkP goP
    rw [if_pos k1]
    exact d2
theorem ct_w : ∀ y, y < 4 → ∀ i, i < 4 → (y + (if i = 0 then 0 else if i = 1 then 1 else if i = 2 then 3 else 2)) % 4 = tuN y i := by decide +kernel
theorem m_cat {S : Co} {I : Nat → Int32} {A : Nat → Nat → Int32} (h : DR (A 0) S) {i : Nat} (hi : i < S.nw) (w : AH) (lv : Nat) : ∃ D, Call M_X12_catStep lv [.ref 123, .int (nI i)] (mw w I A) = some (none, mw w I (upA A 0 D)) ∧ DR D (S.upd3 S.col S.wear (setPW S.wk i (ctR S.col (S.wk i 2) (S.wk i 3) 4 0).1 (ctR S.col (S.wk i 2) (S.wk i 3) 4 0).2)) ∧ Lo (A 0) D := by
  have hn := h.rn
  obtain ⟨r0, r1, r2, r3⟩ := h.rk i hi
  have hl : ∀ n k (o5 o6 : Option Value), k + n = 4 → ∃ D, Ex M_X12_catStep lv 17 [some (.ref 123), some (.int (nI i)), some (.int (nI (S.wk i 2))), some (.int (nI (S.wk i 3))), some (.int (nI k)), o5, o6] [] (mw w I A) = some (none, mw w I (upA A 0 D)) ∧ DR D (S.upd3 S.col S.wear (setPW S.wk i (ctR S.col (S.wk i 2) (S.wk i 3) n k).1 (ctR S.col (S.wk i 2) (S.wk i 3) n k).2)) ∧ Lo (A 0) D := by
    intro n
    induction n with
    | zero =>
      intro k o5 o6 hk
      have : k = 4 := by omega
      subst this
      refine ⟨A 0, ?_, ?_, Lo.refl _⟩
      · rw [H_X12_catStep_17]
        simp only [R_X12_catStep_p0, R_X12_catStep_p1, SB, show ((4 : Int32) ≤ nI 4) = True from by rw [show (4 : Int32) = nI 4 from rfl]; simp, if_true, upA_same]
      · have : setPW S.wk i (S.wk i 2) (S.wk i 3) = S.wk := by
          funext j x; unfold setPW
          by_cases q : j = i
          · subst q
            by_cases q2 : x = 2
            · simp [q2]
            · by_cases q3 : x = 3 <;> simp [q2, q3]
          · simp [q]
        show DR (A 0) (S.upd3 S.col S.wear (setPW S.wk i (S.wk i 2) (S.wk i 3)))
        rw [this]
        exact h
    | succ n ih =>
      intro k o5 o6 hk
      have hy := tuN_lt r3 k
      have e1 : ((4 : Int32) ≤ nI k) = False := by rw [show (4 : Int32) = nI 4 from rfl, le_nI (by decide) (by omega)]; simp; omega
      have r4 : ∀ x, x < 100 → nI x - nI x / 4 * 4 = nI (x % 4) := fun x hx => pk_rem (show x < 2 ^ 31 by omega) (show 0 < 4 by decide) (show 4 < 2 ^ 31 by decide)
      have way : ∀ (o5 o6 : Option Value), Ex M_X12_catStep lv 17 [some (.ref 123), some (.int (nI i)), some (.int (nI (S.wk i 2))), some (.int (nI (S.wk i 3))), some (.int (nI k)), o5, o6] [] (mw w I A) = Ex M_X12_catStep lv 59 [some (.ref 123), some (.int (nI i)), some (.int (nI (S.wk i 2))), some (.int (nI (S.wk i 3))), some (.int (nI k)), some (.int (nI (tuN (S.wk i 3) k))), o6] [] (mw w I A) := by
        intro o5 o6
        have t := ct_w (S.wk i 3) r3 k (by omega)
        generalize hE : Ex M_X12_catStep lv 59 [some (.ref 123), some (.int (nI i)), some (.int (nI (S.wk i 2))), some (.int (nI (S.wk i 3))), some (.int (nI k)), some (.int (nI (tuN (S.wk i 3) k))), o6] [] (mw w I A) = R
        rw [← t] at hE
        rw [H_X12_catStep_17]
        obtain hk4 : k = 0 ∨ k = 1 ∨ k = 2 ∨ k = 3 := by omega
        rcases hk4 with rfl | rfl | rfl | rfl <;> simp (disch := omega) only [R_X12_catStep_p0, SB, e1, if_false, if_true, show nI 0 = (0 : Int32) from rfl, show nI 1 = (1 : Int32) from rfl, show nI 2 = (2 : Int32) from rfl, show nI 3 = (3 : Int32) from rfl, not_true_eq_false, not_false_eq_true, add_lit, r4, ls1s, show ((4 : Int32) = 0) = False from by simp, show ((1 : Int32) = 0) = False from by simp, show ((2 : Int32) = 0) = False from by simp, show ((2 : Int32) = 1) = False from by simp, show ((3 : Int32) = 0) = False from by simp, show ((3 : Int32) = 1) = False from by simp, show ((3 : Int32) = 2) = False from by simp, show ((1 : Nat) = 0) = False from by simp, show ((2 : Nat) = 0) = False from by simp, show ((2 : Nat) = 1) = False from by simp, show ((3 : Nat) = 0) = False from by simp, show ((3 : Nat) = 1) = False from by simp, show ((3 : Nat) = 2) = False from by simp] at hE ⊢ <;> exact hE
      by_cases q : nbN (S.wk i 2) (tuN (S.wk i 3) k) < 36
      · have c1 := h.rc _ q
        have c2 := h.rc _ r2
        by_cases q2 : S.col (nbN (S.wk i 2) (tuN (S.wk i 3) k)) = S.col (S.wk i 2)
        · obtain ⟨D, d1, d2, d3⟩ := m_goes (I := I) h hi hy q w 60
          refine ⟨D, ?_, ?_, d3⟩
          · rw [way]
            simp (disch := omega) only [R_X12_catStep_p0, R_X12_catStep_p1, SB, mw_o, mw_a, mo_g, mo_p, mo_pz, mw_so, mw_sa, upA_eq, upA_upA, upd_upd, lit_le, le_lit, lit_lt, lt_lit, eq_lit, le_nI, lt_nI, eq_nI, lit_add, add_lit, nI_add, lit_sub, sub_lit, sub_nI, lit_mul, mul_lit, pk_mul, div_lit, nI_c, aI_a, aI_l, uI_0, uI_l, aB_2, uB_2, bI_e0, bI_e1, bI_n0, bI_n1, bI_01, b_ft, i10, i01, bI_t, bI_f, if_true, if_false, dec_t, dec_f, Bool.true_eq_false, Bool.false_eq_true, or_true, true_or, not_true_eq_false, not_false_eq_true, m_beside r2 hy, nbI_y q, ls1s, h.col _ q, h.col _ r2, q2, d1, show ¬ nbN (S.wk i 2) (tuN (S.wk i 3) k) < 0 by omega, Nat.zero_le]
          · unfold ctR
            rw [if_pos ⟨q, q2⟩]
            unfold goP
            rw [if_pos q]
            exact d2
        · obtain ⟨D, d1, d2, d3⟩ := ih (k + 1) (some (.int (nI (tuN (S.wk i 3) k)))) (some (.int (nI (nbN (S.wk i 2) (tuN (S.wk i 3) k))))) (by omega)
          refine ⟨D, ?_, ?_, d3⟩
          · rw [way, ← d1]
            simp (disch := omega) only [R_X12_catStep_p0, R_X12_catStep_p1, SB, mw_o, mw_a, mo_g, mo_p, mo_pz, mw_so, mw_sa, upA_eq, upA_upA, upd_upd, lit_le, le_lit, lit_lt, lt_lit, eq_lit, le_nI, lt_nI, eq_nI, lit_add, add_lit, nI_add, lit_sub, sub_lit, sub_nI, lit_mul, mul_lit, pk_mul, div_lit, nI_c, aI_a, aI_l, uI_0, uI_l, aB_2, uB_2, bI_e0, bI_e1, bI_n0, bI_n1, bI_01, b_ft, i10, i01, bI_t, bI_f, if_true, if_false, dec_t, dec_f, Bool.true_eq_false, Bool.false_eq_true, or_true, true_or, not_true_eq_false, not_false_eq_true, m_beside r2 hy, nbI_y q, ls1s, h.col _ q, h.col _ r2, q2, show ¬ nbN (S.wk i 2) (tuN (S.wk i 3) k) < 0 by omega, Nat.zero_le]
          · unfold ctR
            rw [if_neg (fun x => q2 x.2)]
            exact d2
      · obtain ⟨D, d1, d2, d3⟩ := ih (k + 1) (some (.int (nI (tuN (S.wk i 3) k)))) (some (.int (-1))) (by omega)
        refine ⟨D, ?_, ?_, d3⟩
        · rw [way, ← d1]
          simp (disch := omega) only [R_X12_catStep_p0, R_X12_catStep_p1, SB, mw_o, mw_a, mo_g, mo_p, mo_pz, mw_so, mw_sa, upA_eq, upA_upA, upd_upd, lit_le, le_lit, lit_lt, lt_lit, eq_lit, le_nI, lt_nI, eq_nI, lit_add, add_lit, nI_add, lit_sub, sub_lit, sub_nI, lit_mul, mul_lit, pk_mul, div_lit, nI_c, aI_a, aI_l, uI_0, uI_l, aB_2, uB_2, bI_e0, bI_e1, bI_n0, bI_n1, bI_01, b_ft, i10, i01, bI_t, bI_f, if_true, if_false, dec_t, dec_f, Bool.true_eq_false, Bool.false_eq_true, or_true, true_or, not_true_eq_false, not_false_eq_true, m_beside r2 hy, nbI_n q, ls1s, show ((-1 : Int32) < 0) = True from by simp]
        · unfold ctR
          rw [if_neg (fun x => q x.1)]
          exact d2
  obtain ⟨D, d1, d2, d3⟩ := hl 4 0 none none (by omega)
  refine ⟨D, ?_, d2, d3⟩
  rw [← d1]
  simp (disch := omega) only [C_X12_catStep, R_X12_catStep_p0, SB, mw_o, mo_g, m_of2 h hi, m_of3 h hi, if_true, ls1s, show (0 : Int32) = nI 0 from rfl]
theorem mO_lt {c b : Nat} (hc : c < 1000) (hb : b < 1000) : (mO b < nI c) = (b ≤ c) := by
  unfold mO
  by_cases g : b = 0
  · rw [if_pos g, lt_t, nI_t (by omega), show (-1 : Int32).toInt = -1 from rfl]
    apply propext; omega
  · rw [if_neg g, lt_nI (by omega) (by omega)]
    apply propext; omega
theorem mO_le1 (b : Nat) (hb : b < 1000) : ((-1 : Int32) ≤ mO b) = True := by
  unfold mO
  by_cases g : b = 0
  · rw [if_pos g]; simp
  · rw [if_neg g, le_t, nI_t (by omega), show (-1 : Int32).toInt = -1 from rfl]
    apply eq_true; omega
def mtI (s : Nat × Nat) : Int32 := if s.1 = 0 then -1 else nI s.2
theorem mtF_I {col : Nat → Nat} (pl way : Nat) : ∀ n, n ≤ 4 → (∀ k, k < 36 → col k < 8) → (foldN (mtF col pl) n (0, way)).1 ≤ 8 ∧ (0 < (foldN (mtF col pl) n (0, way)).1 → (foldN (mtF col pl) n (0, way)).2 < 4 ∧ nbN pl (foldN (mtF col pl) n (0, way)).2 < 36) ∧ ((foldN (mtF col pl) n (0, way)).1 = 0 → ∀ y, y < n → ¬ nbN pl y < 36) := by
  intro n
  induction n with
  | zero => intro _ _; rw [foldN_0]; exact ⟨Nat.zero_le _, fun x => absurd x (Nat.lt_irrefl 0), fun _ y hy => absurd hy (by omega)⟩
  | succ n ih =>
    intro hn hc
    obtain ⟨i1, i2, i3⟩ := ih (by omega) hc
    rw [foldN_s]
    generalize foldN (mtF col pl) n (0, way) = s at i1 i2 i3 ⊢
    unfold mtF
    by_cases q : nbN pl n < 36 ∧ s.1 ≤ col (nbN pl n)
    · rw [if_pos q]
      have := hc _ q.1
      exact ⟨by show col _ + 1 ≤ 8; omega, fun _ => ⟨by show n < 4; omega, q.1⟩, fun x => absurd x (by show ¬ col _ + 1 = 0; omega)⟩
    · rw [if_neg q]
      refine ⟨i1, i2, fun x y hy => ?_⟩
      by_cases q2 : y = n
      · subst q2; exact fun z => q ⟨z, by omega⟩
      · exact i3 x y (by omega)
theorem nb_some : ∀ k, k < 36 → nbN k 0 < 36 ∨ nbN k 2 < 36 := by decide +kernel
theorem m_moth {S : Co} {I : Nat → Int32} {A : Nat → Nat → Int32} (h : DR (A 0) S) {i : Nat} (hi : i < S.nw) (w : AH) (lv : Nat) : ∃ D, Call M_X12_mothStep lv [.ref 123, .int (nI i)] (mw w I A) = some (none, mw w I (upA A 0 D)) ∧ DR D (S.upd3 S.col S.wear (setPW S.wk i (mtP S.col (S.wk i 2) (S.wk i 3)).1 (mtP S.col (S.wk i 2) (S.wk i 3)).2)) ∧ Lo (A 0) D := by
  have hn := h.rn
  obtain ⟨r0, r1, r2, r3⟩ := h.rk i hi
  have hl := (for_up (fun y (s : (Nat × Nat) × Option Value × Option Value) => Ex M_X12_mothStep lv 7 [some (.ref 123), some (.int (nI i)), some (.int (mtI s.1)), some (.int (mO s.1.1)), some (.int (nI y)), s.2.1, s.2.2] [] (mw w I A)) (fun y s => (mtF S.col (S.wk i 2) y s.1, some (.int (nbI (S.wk i 2) y)), some (.int (if nbN (S.wk i 2) y < 36 then nI (S.col (nbN (S.wk i 2) y)) else -1)))) (fun _ s => s.1.1 ≤ 8) 4 (by
    intro y s hy hI
    have e1 : ((4 : Int32) ≤ nI y) = False := by rw [show (4 : Int32) = nI 4 from rfl, le_nI (by decide) (by omega)]; simp; omega
    by_cases q : nbN (S.wk i 2) y < 36
    · have c1 := h.rc _ q
      have z1 : ¬ nbN (S.wk i 2) y < 0 := by omega
      refine ⟨?_, ?_⟩
      · rw [H_X12_mothStep_7]
        by_cases q2 : s.1.1 ≤ S.col (nbN (S.wk i 2) y)
        · have q3 : ¬ S.col (nbN (S.wk i 2) y) < s.1.1 := by omega
          have f1 : mtF S.col (S.wk i 2) y s.1 = (S.col (nbN (S.wk i 2) y) + 1, y) := if_pos ⟨q, q2⟩
          rw [f1]
          simp (disch := omega) only [R_X12_mothStep, SB, e1, m_of2 h hi, m_beside r2 hy, nbI_y q, ls1s, mw_o, mw_a, mo_g, mo_p, mo_pz, mw_so, mw_sa, upA_eq, upA_upA, upd_upd, lit_le, le_lit, lit_lt, lt_lit, eq_lit, le_nI, lt_nI, eq_nI, lit_add, add_lit, nI_add, lit_sub, sub_lit, sub_nI, lit_mul, mul_lit, pk_mul, div_lit, nI_c, aI_a, aI_l, uI_0, uI_l, aB_2, uB_2, bI_e0, bI_e1, bI_n0, bI_n1, bI_01, b_ft, i10, i01, bI_t, bI_f, if_true, if_false, dec_t, dec_f, Bool.true_eq_false, Bool.false_eq_true, or_true, true_or, not_true_eq_false, not_false_eq_true, h.col _ q, mO_ge, q, q3, Nat.zero_le, mtI, mO_s, Nat.succ_ne_zero]
        · have q3 : S.col (nbN (S.wk i 2) y) < s.1.1 := by omega
          have f1 : mtF S.col (S.wk i 2) y s.1 = s.1 := if_neg (fun x => q2 x.2)
          rw [f1]
          simp (disch := omega) only [R_X12_mothStep, SB, e1, m_of2 h hi, m_beside r2 hy, nbI_y q, ls1s, mw_o, mw_a, mo_g, mo_p, mo_pz, mw_so, mw_sa, upA_eq, upA_upA, upd_upd, lit_le, le_lit, lit_lt, lt_lit, eq_lit, le_nI, lt_nI, eq_nI, lit_add, add_lit, nI_add, lit_sub, sub_lit, sub_nI, lit_mul, mul_lit, pk_mul, div_lit, nI_c, aI_a, aI_l, uI_0, uI_l, aB_2, uB_2, bI_e0, bI_e1, bI_n0, bI_n1, bI_01, b_ft, i10, i01, bI_t, bI_f, if_true, if_false, dec_t, dec_f, Bool.true_eq_false, Bool.false_eq_true, or_true, true_or, not_true_eq_false, not_false_eq_true, h.col _ q, mO_ge, q, q3, Nat.zero_le]
      · show (mtF S.col (S.wk i 2) y s.1).1 ≤ 8
        unfold mtF
        split
        · show S.col _ + 1 ≤ 8; omega
        · exact hI
    · have f1 : mtF S.col (S.wk i 2) y s.1 = s.1 := if_neg (fun x => q x.1)
      refine ⟨?_, by rw [f1]; exact hI⟩
      rw [H_X12_mothStep_7, f1]
      simp (disch := omega) only [R_X12_mothStep, SB, e1, m_of2 h hi, m_beside r2 hy, nbI_n q, ls1s, mw_o, mw_a, mo_g, mo_p, mo_pz, mw_so, mw_sa, upA_eq, upA_upA, upd_upd, lit_le, le_lit, lit_lt, lt_lit, eq_lit, le_nI, lt_nI, eq_nI, lit_add, add_lit, nI_add, lit_sub, sub_lit, sub_nI, lit_mul, mul_lit, pk_mul, div_lit, nI_c, aI_a, aI_l, uI_0, uI_l, aB_2, uB_2, bI_e0, bI_e1, bI_n0, bI_n1, bI_01, b_ft, i10, i01, bI_t, bI_f, if_true, if_false, dec_t, dec_f, Bool.true_eq_false, Bool.false_eq_true, or_true, true_or, not_true_eq_false, not_false_eq_true, q, show ((0 : Int32) ≤ -1) = False from by simp, mO_le1]) 4 ((0, S.wk i 3), none, none) (Nat.le_refl _) (Nat.zero_le _)).1
  obtain ⟨i1, i2, i3⟩ := mtF_I (col := S.col) (S.wk i 2) (S.wk i 3) 4 (Nat.le_refl _) h.rc
  have e4 : ∀ n s, (foldN (fun y (s : (Nat × Nat) × Option Value × Option Value) => (mtF S.col (S.wk i 2) y s.1, some (Value.int (nbI (S.wk i 2) y)), some (Value.int (if nbN (S.wk i 2) y < 36 then nI (S.col (nbN (S.wk i 2) y)) else -1)))) n s).1 = foldN (mtF S.col (S.wk i 2)) n s.1 := by
    intro n
    induction n with
    | zero => intro s; rw [foldN_0, foldN_0]
    | succ n ih => intro s; rw [foldN_s, foldN_s, ← ih s]
  have i4 : 0 < (foldN (mtF S.col (S.wk i 2)) 4 (0, S.wk i 3)).1 := by
    apply Nat.pos_of_ne_zero
    intro z
    rcases nb_some _ r2 with g | g
    · exact i3 z 0 (by decide) g
    · exact i3 z 2 (by decide) g
  obtain ⟨j1, j2⟩ := i2 i4
  obtain ⟨D, d1, d2, d3⟩ := m_goes (I := I) h hi j1 j2 w 60
  refine ⟨D, ?_, ?_, d3⟩
  · simp (disch := omega) only [C_X12_mothStep, R_X12_mothStep, SB, if_true, ls1s, show (0 : Int32) = nI 0 from rfl]
    refine (show _ = _ from rfl).trans (hl.trans ?_)
    rw [H_X12_mothStep_7, e4]
    have m1 : mtI (foldN (mtF S.col (S.wk i 2)) 4 (0, S.wk i 3)) = nI (foldN (mtF S.col (S.wk i 2)) 4 (0, S.wk i 3)).2 := if_neg (by omega)
    simp only [R_X12_mothStep, SB, mw_o, mo_g, show ((4 : Int32) ≤ nI 4) = True from by rw [show (4 : Int32) = nI 4 from rfl]; simp, if_true, m1, d1]
  · unfold mtP goP mtA
    rw [if_pos j2]
    exact d2
