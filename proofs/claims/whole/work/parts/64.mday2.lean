/-! ===== the model's day ===== -/
theorem setPW_id (wk : Nat → Nat → Nat) (i : Nat) : setPW wk i (wk i 2) (wk i 3) = wk := by
  funext j x; unfold setPW
  by_cases q : j = i
  · subst q
    by_cases q2 : x = 2
    · simp [q2]
    · by_cases q3 : x = 3 <;> simp [q2, q3]
  · simp [q]
theorem setPW_PW (wk : Nat → Nat → Nat) (i p y p2 y2 : Nat) : setPW (setPW wk i p y) i p2 y2 = setPW wk i p2 y2 := by
  funext j x; unfold setPW
  by_cases q : j = i
  · by_cases q2 : x = 2
    · simp [q, q2]
    · by_cases q3 : x = 3 <;> simp [q, q2, q3]
  · simp [q]
theorem setPW_2 (wk : Nat → Nat → Nat) (i p y : Nat) : setPW wk i p y i 2 = p := by simp [setPW]
theorem setPW_3 (wk : Nat → Nat → Nat) (i p y : Nat) : setPW wk i p y i 3 = y := by simp [setPW]
theorem setPW_0 (wk : Nat → Nat → Nat) (i p y j : Nat) : setPW wk i p y j 0 = wk j 0 := by simp [setPW]
theorem setPW_1 (wk : Nat → Nat → Nat) (i p y j : Nat) : setPW wk i p y j 1 = wk j 1 := by simp [setPW]
theorem m_steps {S : Co} {I : Nat → Int32} {A : Nat → Nat → Int32} (h : DR (A 0) S) {i : Nat} (hi : i < S.nw) (w : AH) (lv : Nat) : ∃ D, Call M_X12_steps lv [.ref 123, .int (nI i)] (mw w I A) = some (none, mw w I (upA A 0 D)) ∧ DR D (S.upd3 S.col S.wear (setPW S.wk i (dyP S i).1 (dyP S i).2)) ∧ Lo (A 0) D := by
  have hn := h.rn
  have hd := h.rd
  obtain ⟨r0, r1, r2, r3⟩ := h.rk i hi
  have e1 : Call M_X12_of 60 [.ref 123, .int (nI i), .int 0] (mw w I A) = some (some (.int (nI (S.wk i 0))), mw w I A) := m_of0 h hi w 60
  unfold dyP stP
  obtain hk : S.wk i 0 = 0 ∨ S.wk i 0 = 1 ∨ S.wk i 0 = 2 ∨ S.wk i 0 = 3 ∨ S.wk i 0 = 4 ∨ S.wk i 0 = 5 ∨ S.wk i 0 = 6 := by omega
  obtain ⟨D1, d1, d2, d3⟩ := m_plain (I := I) h hi w 60
  obtain ⟨D2, c1, c2, c3⟩ := m_plain (I := I) (A := upA A 0 D1) (S := S.upd3 S.col S.wear (setPW S.wk i (wkP (S.wk i 2) (S.wk i 3)).1 (wkP (S.wk i 2) (S.wk i 3)).2)) d2 hi w 60
  have c2 : DR D2 (S.upd3 S.col S.wear (setPW (setPW S.wk i (wkP (S.wk i 2) (S.wk i 3)).1 (wkP (S.wk i 2) (S.wk i 3)).2) i (wkP (setPW S.wk i (wkP (S.wk i 2) (S.wk i 3)).1 (wkP (S.wk i 2) (S.wk i 3)).2 i 2) (setPW S.wk i (wkP (S.wk i 2) (S.wk i 3)).1 (wkP (S.wk i 2) (S.wk i 3)).2 i 3)).1 (wkP (setPW S.wk i (wkP (S.wk i 2) (S.wk i 3)).1 (wkP (S.wk i 2) (S.wk i 3)).2 i 2) (setPW S.wk i (wkP (S.wk i 2) (S.wk i 3)).1 (wkP (S.wk i 2) (S.wk i 3)).2 i 3)).2)) := c2
  rw [setPW_PW, setPW_2, setPW_3] at c2
  rw [upA_upA] at c1
  obtain ⟨D3, b1, b2, b3⟩ := m_cat (I := I) h hi w 60
  obtain ⟨D4, a1, a2, a3⟩ := m_moth (I := I) h hi w 60
  rcases hk with hk | hk | hk | hk | hk | hk | hk
  · rw [hk] at e1 ⊢
    refine ⟨D1, ?_, ?_, d3⟩
    · simp only [C_X12_steps, R_X12_steps, SB, mw_o, mo_g, if_true, e1, show (nI 0 = (1 : Int32)) = False from by decide, show (nI 0 = (2 : Int32)) = False from by decide, show (nI 0 = (3 : Int32)) = False from by decide, show (nI 0 = (4 : Int32)) = False from by decide, show (nI 0 = (5 : Int32)) = False from by decide, show (nI 0 = (6 : Int32)) = False from by decide, if_false, d1]
    · simpa using d2
  · rw [hk] at e1 ⊢
    refine ⟨D3, ?_, ?_, b3⟩
    · simp only [C_X12_steps, R_X12_steps, SB, mw_o, mo_g, if_true, e1, show (nI 1 = (1 : Int32)) = True from by decide, if_false, b1]
    · simpa using b2
  · rw [hk] at e1 ⊢
    refine ⟨D2, ?_, ?_, d3.trans c3⟩
    · simp only [C_X12_steps, R_X12_steps, SB, mw_o, mo_g, if_true, e1, show (nI 2 = (1 : Int32)) = False from by decide, show (nI 2 = (2 : Int32)) = True from by decide, if_false, d1, c1]
    · simpa using c2
  · rw [hk] at e1 ⊢
    refine ⟨D4, ?_, ?_, a3⟩
    · simp only [C_X12_steps, R_X12_steps, SB, mw_o, mo_g, if_true, e1, show (nI 3 = (1 : Int32)) = False from by decide, show (nI 3 = (2 : Int32)) = False from by decide, show (nI 3 = (3 : Int32)) = True from by decide, if_false, a1]
    · simpa using a2
  · rw [hk] at e1 ⊢
    have d2 : nI S.day - nI S.day / 2 * 2 = nI (S.day % 2) := pk_rem (show S.day < 2 ^ 31 by omega) (show 0 < 2 by decide) (show 2 < 2 ^ 31 by decide)
    have e0 : (nI (S.day % 2) = 0) = (S.day % 2 = 0) := by rw [show (0 : Int32) = nI 0 from rfl, eq_nI (by omega) (by decide)]
    by_cases q : S.day % 2 = 0
    · refine ⟨D3, ?_, ?_, b3⟩
      · simp (disch := omega) only [C_X12_steps, R_X12_steps, SB, mw_o, mo_g, mw_a, if_true, e1, show (nI 4 = (1 : Int32)) = False from by decide, show (nI 4 = (2 : Int32)) = False from by decide, show (nI 4 = (3 : Int32)) = False from by decide, show (nI 4 = (4 : Int32)) = True from by decide, if_false, aI_l, h.day, show ((2 : Int32) = 0) = False from by simp, d2, e0, eq_true q, not_true_eq_false, b1]
      · simpa [q] using b2
    · refine ⟨A 0, ?_, ?_, Lo.refl _⟩
      · simp (disch := omega) only [C_X12_steps, R_X12_steps, SB, mw_o, mo_g, mw_a, if_true, e1, show (nI 4 = (1 : Int32)) = False from by decide, show (nI 4 = (2 : Int32)) = False from by decide, show (nI 4 = (3 : Int32)) = False from by decide, show (nI 4 = (4 : Int32)) = True from by decide, if_false, aI_l, h.day, show ((2 : Int32) = 0) = False from by simp, d2, e0, eq_false q, not_false_eq_true, upA_same]
      · have : DR (A 0) (S.upd3 S.col S.wear (setPW S.wk i (S.wk i 2) (S.wk i 3))) := by rw [setPW_id]; exact h
        simpa [q] using this
  · rw [hk] at e1 ⊢
    refine ⟨D2, ?_, ?_, d3.trans c3⟩
    · simp only [C_X12_steps, R_X12_steps, SB, mw_o, mo_g, if_true, e1, show (nI 5 = (1 : Int32)) = False from by decide, show (nI 5 = (2 : Int32)) = False from by decide, show (nI 5 = (3 : Int32)) = False from by decide, show (nI 5 = (4 : Int32)) = False from by decide, show (nI 5 = (5 : Int32)) = True from by decide, if_false, d1, c1]
    · simpa using c2
  · rw [hk] at e1 ⊢
    refine ⟨D4, ?_, ?_, a3⟩
    · simp only [C_X12_steps, R_X12_steps, SB, mw_o, mo_g, if_true, e1, show (nI 6 = (1 : Int32)) = False from by decide, show (nI 6 = (2 : Int32)) = False from by decide, show (nI 6 = (3 : Int32)) = False from by decide, show (nI 6 = (4 : Int32)) = False from by decide, show (nI 6 = (5 : Int32)) = False from by decide, show (nI 6 = (6 : Int32)) = True from by decide, if_false, a1]
    · simpa using a2
theorem m_wearsOf {S : Co} {I : Nat → Int32} {A : Nat → Nat → Int32} (h : DR (A 0) S) {i : Nat} (hi : i < S.nw) (w : AH) (lv : Nat) : Call M_X12_wearsOf lv [.ref 123, .int (nI i)] (mw w I A) = some (some (.int (nI (wrN (S.wk i 0) (S.wk i 1)))), mw w I A) := by
  obtain ⟨r0, r1, r2, r3⟩ := h.rk i hi
  have e1 : Call M_X12_of 60 [.ref 123, .int (nI i), .int 0] (mw w I A) = some (some (.int (nI (S.wk i 0))), mw w I A) := m_of0 h hi w 60
  have e2 : Call M_X12_of 60 [.ref 123, .int (nI i), .int 1] (mw w I A) = some (some (.int (nI (S.wk i 1))), mw w I A) := m_of1 h hi w 60
  obtain hk : S.wk i 0 = 0 ∨ S.wk i 0 = 1 ∨ S.wk i 0 = 2 ∨ S.wk i 0 = 3 ∨ S.wk i 0 = 4 ∨ S.wk i 0 = 5 ∨ S.wk i 0 = 6 := by omega
  unfold wrN
  rcases hk with hk | hk | hk | hk | hk | hk | hk <;> rw [hk] at e1 ⊢ <;> simp (disch := omega) only [C_X12_wearsOf, R_X12_wearsOf, SB, mw_o, mo_g, lit_le, le_lit, lit_lt, lt_lit, eq_lit, le_nI, lt_nI, eq_nI, lit_add, add_lit, nI_add, lit_sub, sub_lit, sub_nI, lit_mul, mul_lit, pk_mul, div_lit, nI_c, aI_a, aI_l, uI_0, uI_l, aB_2, uB_2, bI_e0, bI_e1, bI_n0, bI_n1, bI_01, b_ft, i10, i01, bI_t, bI_f, if_true, if_false, dec_t, dec_f, Bool.true_eq_false, Bool.false_eq_true, or_true, true_or, not_true_eq_false, not_false_eq_true, e1, e2, or_self, or_false, false_or, Nat.reduceEqDiff, Nat.succ_ne_zero] <;> (try rfl)
theorem m_eats {S : Co} {I : Nat → Int32} {A : Nat → Nat → Int32} (h : DR (A 0) S) {i : Nat} (hi : i < S.nw) (w : AH) (lv : Nat) : Call M_X12_eats lv [.ref 123, .int (nI i)] (mw w I A) = some (some (.int (bI (etB (S.wk i 0) (S.wk i 1) (S.wear (S.wk i 2))))), mw w I A) := by
  obtain ⟨r0, r1, r2, r3⟩ := h.rk i hi
  have r4 := h.rw _ r2
  unfold etB
  by_cases q1 : S.wk i 0 = 6
  · have e : decide (S.wk i 0 = 6 ∨ S.wk i 0 = 3 ∧ 10 * S.wk i 1 ≤ S.wear (S.wk i 2)) = true := decide_eq_true (Or.inl q1)
    rw [e]
    simp (disch := omega) only [C_X12_eats, R_X12_eats, SB, mw_o, mw_a, mo_g, mo_p, mo_pz, mw_so, mw_sa, upA_eq, upA_upA, upd_upd, lit_le, le_lit, lit_lt, lt_lit, eq_lit, le_nI, lt_nI, eq_nI, lit_add, add_lit, nI_add, lit_sub, sub_lit, sub_nI, lit_mul, mul_lit, pk_mul, div_lit, nI_c, aI_a, aI_l, uI_0, uI_l, aB_2, uB_2, bI_e0, bI_e1, bI_n0, bI_n1, bI_01, b_ft, i10, i01, bI_t, bI_f, if_true, if_false, dec_t, dec_f, Bool.true_eq_false, Bool.false_eq_true, or_true, true_or, not_true_eq_false, not_false_eq_true, m_of0 h hi, ls1s, q1]
  · by_cases q2 : S.wk i 0 = 3
    · by_cases q3 : S.wear (S.wk i 2) < 10 * S.wk i 1
      · have e : decide (S.wk i 0 = 6 ∨ S.wk i 0 = 3 ∧ 10 * S.wk i 1 ≤ S.wear (S.wk i 2)) = false := decide_eq_false (by omega)
        rw [e]
        simp (disch := omega) only [C_X12_eats, R_X12_eats, SB, mw_o, mw_a, mo_g, mo_p, mo_pz, mw_so, mw_sa, upA_eq, upA_upA, upd_upd, lit_le, le_lit, lit_lt, lt_lit, eq_lit, le_nI, lt_nI, eq_nI, lit_add, add_lit, nI_add, lit_sub, sub_lit, sub_nI, lit_mul, mul_lit, pk_mul, div_lit, nI_c, aI_a, aI_l, uI_0, uI_l, aB_2, uB_2, bI_e0, bI_e1, bI_n0, bI_n1, bI_01, b_ft, i10, i01, bI_t, bI_f, if_true, if_false, dec_t, dec_f, Bool.true_eq_false, Bool.false_eq_true, or_true, true_or, not_true_eq_false, not_false_eq_true, m_of0 h hi, m_of1 h hi, m_of2 h hi, ls1s, q1, q2, h.wear _ r2, q3, show ((3 : Nat) = 6) = False from by simp]
      · have e : decide (S.wk i 0 = 6 ∨ S.wk i 0 = 3 ∧ 10 * S.wk i 1 ≤ S.wear (S.wk i 2)) = true := decide_eq_true (by omega)
        rw [e]
        simp (disch := omega) only [C_X12_eats, R_X12_eats, SB, mw_o, mw_a, mo_g, mo_p, mo_pz, mw_so, mw_sa, upA_eq, upA_upA, upd_upd, lit_le, le_lit, lit_lt, lt_lit, eq_lit, le_nI, lt_nI, eq_nI, lit_add, add_lit, nI_add, lit_sub, sub_lit, sub_nI, lit_mul, mul_lit, pk_mul, div_lit, nI_c, aI_a, aI_l, uI_0, uI_l, aB_2, uB_2, bI_e0, bI_e1, bI_n0, bI_n1, bI_01, b_ft, i10, i01, bI_t, bI_f, if_true, if_false, dec_t, dec_f, Bool.true_eq_false, Bool.false_eq_true, or_true, true_or, not_true_eq_false, not_false_eq_true, m_of0 h hi, m_of1 h hi, m_of2 h hi, ls1s, q1, q2, h.wear _ r2, q3, show ((3 : Nat) = 6) = False from by simp]
    · have e : decide (S.wk i 0 = 6 ∨ S.wk i 0 = 3 ∧ 10 * S.wk i 1 ≤ S.wear (S.wk i 2)) = false := decide_eq_false (by omega)
      rw [e]
      simp (disch := omega) only [C_X12_eats, R_X12_eats, SB, mw_o, mw_a, mo_g, mo_p, mo_pz, mw_so, mw_sa, upA_eq, upA_upA, upd_upd, lit_le, le_lit, lit_lt, lt_lit, eq_lit, le_nI, lt_nI, eq_nI, lit_add, add_lit, nI_add, lit_sub, sub_lit, sub_nI, lit_mul, mul_lit, pk_mul, div_lit, nI_c, aI_a, aI_l, uI_0, uI_l, aB_2, uB_2, bI_e0, bI_e1, bI_n0, bI_n1, bI_01, b_ft, i10, i01, bI_t, bI_f, if_true, if_false, dec_t, dec_f, Bool.true_eq_false, Bool.false_eq_true, or_true, true_or, not_true_eq_false, not_false_eq_true, m_of0 h hi, ls1s, q1, q2]
theorem updN_same (f : Nat → Nat) (k : Nat) : updN f k (f k) = f := by
  funext j; unfold updN; split
  · rename_i h; rw [h]
  · rfl
theorem DR.next {D : Nat → Int32} {S : Co} (h : DR D S) (hd : S.day + 1 < 100000) : DR (upd D 1 (nI (S.day + 1))) S.next :=
  have hn := h.rn
  h.mkL (Lo.up (by decide) _) (upd_n (by decide)) (upd_n (by decide)) ((upd_n (by decide)).trans h.nw) (upd_s _ _ _) ((upd_n (by decide)).trans h.z) (fun j hj => (upd_n (by omega)).trans (h.col j hj)) (fun j hj => (upd_n (by omega)).trans (h.wear j hj)) (fun i hi x hx => (upd_n (by omega)).trans (h.wk i hi x hx)) h.rc h.rw h.rk h.rn hd
theorem m_dayGoes {S : Co} {I : Nat → Int32} {A : Nat → Nat → Int32} (h : DR (A 0) S) (hd : S.day + 1 < 100000) (w : AH) (lv : Nat) : ∃ D, Call M_X12_dayGoes lv [.ref 123] (mw w I A) = some (none, mw w I (upA A 0 D)) ∧ DR D (dyN S) ∧ Lo (A 0) D := by
  have hn := h.rn
  obtain ⟨v, h1, D, rfl, h3, h4, h5, h6⟩ := for_ex (fun i (T : Co × Option Value × Option Value) u => Ex M_X12_dayGoes lv 2 [some (.ref 123), some (.int (nI i)), T.2.1, T.2.2] [] u) (fun i T => (dyF i T.1, some (.int (nI (dyP T.1 i).1)), some (.int (nI (T.1.wear (dyP T.1 i).1 + wrN (T.1.wk i 0) (T.1.wk i 1)))))) (fun _ T u => ∃ D, u = mw w I (upA A 0 D) ∧ DR D T.1 ∧ Lo (A 0) D ∧ T.1.nw = S.nw ∧ T.1.day = S.day) S.nw (by
    intro i T u hi hI
    obtain ⟨D, rfl, i1, i2, i3, i4⟩ := hI
    obtain ⟨T, o2, o3⟩ := T
    have i1 : DR (upA A 0 D 0) T := i1
    have i3 : T.nw = S.nw := i3
    have hi2 : i < T.nw := by omega
    obtain ⟨r0, r1, r2, r3⟩ := i1.rk i hi2
    obtain ⟨D1, a1, a2, a3⟩ := m_steps (I := I) i1 hi2 w 60
    rw [upA_upA] at a1
    have a2 : DR (upA A 0 D1 0) (T.upd3 T.col T.wear (setPW T.wk i (dyP T i).1 (dyP T i).2)) := a2
    have s2 : (T.upd3 T.col T.wear (setPW T.wk i (dyP T i).1 (dyP T i).2)).wk i 2 = (dyP T i).1 := setPW_2 _ _ _ _
    have s0 : (T.upd3 T.col T.wear (setPW T.wk i (dyP T i).1 (dyP T i).2)).wk i 0 = T.wk i 0 := setPW_0 _ _ _ _ _
    have s1 : (T.upd3 T.col T.wear (setPW T.wk i (dyP T i).1 (dyP T i).2)).wk i 1 = T.wk i 1 := setPW_1 _ _ _ _ _
    obtain ⟨t0, t1, t2, t3⟩ := a2.rk i hi2
    rw [s2] at t2
    have b2 := m_of2 (I := I) a2 (i := i) hi2 w 60
    rw [s2] at b2
    have b3 := m_wearsOf (I := I) a2 (i := i) hi2 w 60
    rw [s0, s1] at b3
    have hw : T.wear (dyP T i).1 < 100 := i1.rw _ t2
    have hx : wrN (T.wk i 0) (T.wk i 1) < 100 := by unfold wrN; repeat (first | omega | split)
    have c1 := a2.setW t2 (show min (T.wear (dyP T i).1 + wrN (T.wk i 0) (T.wk i 1)) 99 < 100 by omega)
    generalize hD2 : upd (upA A 0 D1 0) (41 + (dyP T i).1) (nI (min (T.wear (dyP T i).1 + wrN (T.wk i 0) (T.wk i 1)) 99)) = D2 at c1
    have c1 : DR (upA A 0 D2 0) (T.upd3 T.col (dyW T i) (setPW T.wk i (dyP T i).1 (dyP T i).2)) := c1
    have b4 := m_eats (I := I) c1 (i := i) hi2 w 60
    have b4 : Call M_X12_eats 60 [.ref 123, .int (nI i)] (mw w I (upA A 0 D2)) = some (some (.int (bI (etB (setPW T.wk i (dyP T i).1 (dyP T i).2 i 0) (setPW T.wk i (dyP T i).1 (dyP T i).2 i 1) (dyW T i (setPW T.wk i (dyP T i).1 (dyP T i).2 i 2))))), mw w I (upA A 0 D2)) := b4
    rw [setPW_0, setPW_1, setPW_2] at b4
    have e1 : (nI T.nw ≤ nI i) = False := by rw [le_nI (by omega) (by omega)]; simp; omega
    have w1 : D1 (41 + (dyP T i).1) = nI (T.wear (dyP T i).1) := a2.wear _ t2
    have k1 : D2 (5 + (dyP T i).1) = nI (T.col (dyP T i).1) := c1.col _ t2
    have n0 : D 0 = nI T.nw := i1.nw
    have L2 : Lo (A 0) D2 := by
      rw [← hD2]
      exact (i2.trans a3).trans (Lo.up (by omega) _)
    have step : ∀ x, x = nI (min (T.wear (dyP T i).1 + wrN (T.wk i 0) (T.wk i 1)) 99) → upd D1 (41 + (dyP T i).1) x = D2 := fun x hx => by rw [hx, ← hD2]; rfl
    have c3 := T.col (dyP T i).1
    by_cases q : etB (T.wk i 0) (T.wk i 1) (dyW T i (dyP T i).1) = true
    · have d1 := c1.setC t2 (show 0 < 8 by decide)
      refine ⟨mw w I (upA A 0 (upd D2 (5 + (dyP T i).1) (nI 0))), ?_, _, rfl, ?_, L2.trans (Lo.up (by omega) _), i3, i4⟩
      · rw [q] at b4
        rw [H_X12_dayGoes_2]
        by_cases g : T.wear (dyP T i).1 + wrN (T.wk i 0) (T.wk i 1) ≤ 99
        · have st := step _ (by rw [Nat.min_eq_left g])
          simp (disch := omega) only [R_X12_dayGoes_p0, R_X12_dayGoes_p1, SB, mw_o, mw_a, mo_g, mo_p, mo_pz, mw_so, mw_sa, upA_eq, upA_upA, upd_upd, lit_le, le_lit, lit_lt, lt_lit, eq_lit, le_nI, lt_nI, eq_nI, lit_add, add_lit, nI_add, lit_sub, sub_lit, sub_nI, lit_mul, mul_lit, pk_mul, div_lit, nI_c, aI_a, aI_l, uI_0, uI_l, aB_2, uB_2, bI_e0, bI_e1, bI_n0, bI_n1, bI_01, b_ft, i10, i01, bI_t, bI_f, if_true, if_false, dec_t, dec_f, Bool.true_eq_false, Bool.false_eq_true, or_true, true_or, not_true_eq_false, not_false_eq_true, n0, e1, a1, b2, ls1s, w1, b3, g, st, b4, show nI 0 = (0 : Int32) from rfl]
        · have st := step 99 (by rw [Nat.min_eq_right (by omega)]; rfl)
          simp (disch := omega) only [R_X12_dayGoes_p0, R_X12_dayGoes_p1, SB, mw_o, mw_a, mo_g, mo_p, mo_pz, mw_so, mw_sa, upA_eq, upA_upA, upd_upd, lit_le, le_lit, lit_lt, lt_lit, eq_lit, le_nI, lt_nI, eq_nI, lit_add, add_lit, nI_add, lit_sub, sub_lit, sub_nI, lit_mul, mul_lit, pk_mul, div_lit, nI_c, aI_a, aI_l, uI_0, uI_l, aB_2, uB_2, bI_e0, bI_e1, bI_n0, bI_n1, bI_01, b_ft, i10, i01, bI_t, bI_f, if_true, if_false, dec_t, dec_f, Bool.true_eq_false, Bool.false_eq_true, or_true, true_or, not_true_eq_false, not_false_eq_true, n0, e1, a1, b2, ls1s, w1, b3, g, st, b4, show nI 0 = (0 : Int32) from rfl]
      · show DR _ (dyF i T)
        unfold dyF dyC
        rw [if_pos q]
        exact d1
    · refine ⟨mw w I (upA A 0 D2), ?_, D2, rfl, ?_, L2, i3, i4⟩
      · rw [Bool.eq_false_iff.mpr q] at b4
        have same : upd D2 (5 + (dyP T i).1) (nI (T.col (dyP T i).1)) = D2 := by
          funext j; unfold upd; split
          · rename_i g; rw [g, k1]
          · rfl
        rw [H_X12_dayGoes_2]
        by_cases g : T.wear (dyP T i).1 + wrN (T.wk i 0) (T.wk i 1) ≤ 99
        · have st := step _ (by rw [Nat.min_eq_left g])
          simp (disch := omega) only [R_X12_dayGoes_p0, R_X12_dayGoes_p1, SB, mw_o, mw_a, mo_g, mo_p, mo_pz, mw_so, mw_sa, upA_eq, upA_upA, upd_upd, lit_le, le_lit, lit_lt, lt_lit, eq_lit, le_nI, lt_nI, eq_nI, lit_add, add_lit, nI_add, lit_sub, sub_lit, sub_nI, lit_mul, mul_lit, pk_mul, div_lit, nI_c, aI_a, aI_l, uI_0, uI_l, aB_2, uB_2, bI_e0, bI_e1, bI_n0, bI_n1, bI_01, b_ft, i10, i01, bI_t, bI_f, if_true, if_false, dec_t, dec_f, Bool.true_eq_false, Bool.false_eq_true, or_true, true_or, not_true_eq_false, not_false_eq_true, n0, e1, a1, b2, ls1s, w1, b3, g, st, b4, k1, same]
        · have st := step 99 (by rw [Nat.min_eq_right (by omega)]; rfl)
          simp (disch := omega) only [R_X12_dayGoes_p0, R_X12_dayGoes_p1, SB, mw_o, mw_a, mo_g, mo_p, mo_pz, mw_so, mw_sa, upA_eq, upA_upA, upd_upd, lit_le, le_lit, lit_lt, lt_lit, eq_lit, le_nI, lt_nI, eq_nI, lit_add, add_lit, nI_add, lit_sub, sub_lit, sub_nI, lit_mul, mul_lit, pk_mul, div_lit, nI_c, aI_a, aI_l, uI_0, uI_l, aB_2, uB_2, bI_e0, bI_e1, bI_n0, bI_n1, bI_01, b_ft, i10, i01, bI_t, bI_f, if_true, if_false, dec_t, dec_f, Bool.true_eq_false, Bool.false_eq_true, or_true, true_or, not_true_eq_false, not_false_eq_true, n0, e1, a1, b2, ls1s, w1, b3, g, st, b4, k1, same]
      · show DR _ (dyF i T)
        unfold dyF dyC
        rw [if_neg q]
        exact c1) S.nw (Nat.le_refl _) (S, none, none) (mw w I A) ⟨A 0, by rw [upA_same], h, Lo.refl _, rfl, rfl⟩
  have e4 : ∀ n (s : Co × Option Value × Option Value), (foldN (fun i (T : Co × Option Value × Option Value) => (dyF i T.1, some (Value.int (nI (dyP T.1 i).1)), some (Value.int (nI (T.1.wear (dyP T.1 i).1 + wrN (T.1.wk i 0) (T.1.wk i 1)))))) n s).1 = foldN dyF n s.1 := by
    intro n
    induction n with
    | zero => intro s; rw [foldN_0, foldN_0]
    | succ n ih => intro s; rw [foldN_s, foldN_s, ← ih s]
  rw [e4] at h3 h5 h6
  have h3 : DR D (foldN dyF S.nw S) := h3
  have h5 : (foldN dyF S.nw S).nw = S.nw := h5
  have h6 : (foldN dyF S.nw S).day = S.day := h6
  have n0 : D 0 = nI S.nw := by rw [← h5]; exact h3.nw
  have n1 : D 1 = nI S.day := by rw [← h6]; exact h3.day
  refine ⟨upd D 1 (nI (S.day + 1)), ?_, ?_, h4.trans (Lo.up (by decide) _)⟩
  · simp only [C_X12_dayGoes, R_X12_dayGoes_p0, SB, ls1s, show (0 : Int32) = nI 0 from rfl]
    refine (show _ = _ from rfl).trans (h1.trans ?_)
    rw [H_X12_dayGoes_2]
    simp (disch := omega) only [R_X12_dayGoes_p0, R_X12_dayGoes_p1, SB, mw_o, mw_a, mo_g, mo_p, mo_pz, mw_so, mw_sa, upA_eq, upA_upA, upd_upd, lit_le, le_lit, lit_lt, lt_lit, eq_lit, le_nI, lt_nI, eq_nI, lit_add, add_lit, nI_add, lit_sub, sub_lit, sub_nI, lit_mul, mul_lit, pk_mul, div_lit, nI_c, aI_a, aI_l, uI_0, uI_l, aB_2, uB_2, bI_e0, bI_e1, bI_n0, bI_n1, bI_01, b_ft, i10, i01, bI_t, bI_f, if_true, if_false, dec_t, dec_f, Bool.true_eq_false, Bool.false_eq_true, or_true, true_or, not_true_eq_false, not_false_eq_true, n0, n1, Nat.le_refl]
  · have := h3.next (by rw [h6]; exact hd)
    rw [h6] at this
    exact this
/-! holes; aside and back -/
def hoN (S : Co) : Nat := cnt (fun k => decide (S.col k = 0)) 36
theorem m_holes {S : Co} {I : Nat → Int32} {A : Nat → Nat → Int32} (h : DR (A 0) S) (w : AH) (lv : Nat) : Call M_X12_holes lv [.ref 123] (mw w I A) = some (some (.int (nI (hoN S))), mw w I A) := by
  have hl := for_up0 (fun k n => Ex M_X12_holes lv 4 [some (.ref 123), some (.int (nI n)), some (.int (nI k))] [] (mw w I A)) (fun k s => if decide (S.col k = 0) = true then s + 1 else s) 36 (by
    intro k n hk
    have hc := h.rc k hk
    have e1 : ((36 : Int32) ≤ nI k) = False := by rw [show (36 : Int32) = nI 36 from rfl, le_nI (by decide) (by omega)]; simp; omega
    rw [H_X12_holes_4]
    by_cases q : S.col k = 0
    · simp (disch := omega) only [R_X12_holes, SB, mw_o, mw_a, mo_g, mo_p, mo_pz, mw_so, mw_sa, upA_eq, upA_upA, upd_upd, lit_le, le_lit, lit_lt, lt_lit, eq_lit, le_nI, lt_nI, eq_nI, lit_add, add_lit, nI_add, lit_sub, sub_lit, sub_nI, lit_mul, mul_lit, pk_mul, div_lit, nI_c, aI_a, aI_l, uI_0, uI_l, aB_2, uB_2, bI_e0, bI_e1, bI_n0, bI_n1, bI_01, b_ft, i10, i01, bI_t, bI_f, if_true, if_false, dec_t, dec_f, Bool.true_eq_false, Bool.false_eq_true, or_true, true_or, not_true_eq_false, not_false_eq_true, e1, h.col k hk, q, ls1s]
    · simp (disch := omega) only [R_X12_holes, SB, mw_o, mw_a, mo_g, mo_p, mo_pz, mw_so, mw_sa, upA_eq, upA_upA, upd_upd, lit_le, le_lit, lit_lt, lt_lit, eq_lit, le_nI, lt_nI, eq_nI, lit_add, add_lit, nI_add, lit_sub, sub_lit, sub_nI, lit_mul, mul_lit, pk_mul, div_lit, nI_c, aI_a, aI_l, uI_0, uI_l, aB_2, uB_2, bI_e0, bI_e1, bI_n0, bI_n1, bI_01, b_ft, i10, i01, bI_t, bI_f, if_true, if_false, dec_t, dec_f, Bool.true_eq_false, Bool.false_eq_true, or_true, true_or, not_true_eq_false, not_false_eq_true, e1, h.col k hk, q, ls1s, Nat.add_zero]) 0
  simp only [C_X12_holes, R_X12_holes, SB, ls1s, show (0 : Int32) = nI 0 from rfl]
  refine (show _ = _ from rfl).trans (hl.trans ?_)
  rw [H_X12_holes_4, cnt_fold]
  simp only [R_X12_holes, SB, show ((36 : Int32) ≤ nI 36) = True from by rw [show (36 : Int32) = nI 36 from rfl]; simp, if_true, hoN]
theorem m_keepAside (I : Nat → Int32) (A : Nat → Nat → Int32) (w : AH) (lv : Nat) : Call M_X12_keepAside lv [.ref 123] (mw w I A) = some (none, mw w I (upA A 3 (cpyF (A 0) (A 3) 97))) := by
  have hl := for_up0 (fun k (F : Nat → Int32) => Ex M_X12_keepAside lv 2 [some (.ref 123), some (.int (nI k))] [] (mw w I (upA A 3 F))) (fun k F => upd F k (A 0 k)) 97 (by
    intro k F hk
    have e1 : ((97 : Int32) ≤ nI k) = False := by rw [show (97 : Int32) = nI 97 from rfl, le_nI (by decide) (by omega)]; simp; omega
    rw [H_X12_keepAside_2]
    simp (disch := omega) only [R_X12_keepAside, SB, mw_o, mw_a, mo_g, mo_p, mo_pz, mw_so, mw_sa, upA_eq, upA_upA, upd_upd, lit_le, le_lit, lit_lt, lt_lit, eq_lit, le_nI, lt_nI, eq_nI, lit_add, add_lit, nI_add, lit_sub, sub_lit, sub_nI, lit_mul, mul_lit, pk_mul, div_lit, nI_c, aI_a, aI_l, uI_0, uI_l, aB_2, uB_2, bI_e0, bI_e1, bI_n0, bI_n1, bI_01, b_ft, i10, i01, bI_t, bI_f, if_true, if_false, dec_t, dec_f, Bool.true_eq_false, Bool.false_eq_true, or_true, true_or, not_true_eq_false, not_false_eq_true, e1, ls1s, show ((0 : Nat) = 3) = False from by simp]) (A 3)
  have e : ∀ n, foldN (fun k F => upd F k (A 0 k)) n (A 3) = cpyF (A 0) (A 3) n := by
    intro n
    induction n with
    | zero => rw [foldN_0, cpyF_0]
    | succ n ih => rw [foldN_s, ih, cpyF_s]
  rw [e, upA_same] at hl
  simp only [C_X12_keepAside, R_X12_keepAside, SB, ls1s, show (0 : Int32) = nI 0 from rfl]
  refine (show _ = _ from rfl).trans (hl.trans ?_)
  rw [H_X12_keepAside_2]
  simp only [R_X12_keepAside, SB, show ((97 : Int32) ≤ nI 97) = True from by rw [show (97 : Int32) = nI 97 from rfl]; simp, if_true]
theorem m_putBack (I : Nat → Int32) (A : Nat → Nat → Int32) (w : AH) (lv : Nat) : Call M_X12_putBack lv [.ref 123] (mw w I A) = some (none, mw w I (upA A 0 (cpyF (A 3) (A 0) 97))) := by
  have hl := for_up0 (fun k (F : Nat → Int32) => Ex M_X12_putBack lv 2 [some (.ref 123), some (.int (nI k))] [] (mw w I (upA A 0 F))) (fun k F => upd F k (A 3 k)) 97 (by
    intro k F hk
    have e1 : ((97 : Int32) ≤ nI k) = False := by rw [show (97 : Int32) = nI 97 from rfl, le_nI (by decide) (by omega)]; simp; omega
    rw [H_X12_putBack_2]
    simp (disch := omega) only [R_X12_putBack, SB, mw_o, mw_a, mo_g, mo_p, mo_pz, mw_so, mw_sa, upA_eq, upA_upA, upd_upd, lit_le, le_lit, lit_lt, lt_lit, eq_lit, le_nI, lt_nI, eq_nI, lit_add, add_lit, nI_add, lit_sub, sub_lit, sub_nI, lit_mul, mul_lit, pk_mul, div_lit, nI_c, aI_a, aI_l, uI_0, uI_l, aB_2, uB_2, bI_e0, bI_e1, bI_n0, bI_n1, bI_01, b_ft, i10, i01, bI_t, bI_f, if_true, if_false, dec_t, dec_f, Bool.true_eq_false, Bool.false_eq_true, or_true, true_or, not_true_eq_false, not_false_eq_true, e1, ls1s, show ((3 : Nat) = 0) = False from by simp]) (A 0)
  have e : ∀ n, foldN (fun k F => upd F k (A 3 k)) n (A 0) = cpyF (A 3) (A 0) n := by
    intro n
    induction n with
    | zero => rw [foldN_0, cpyF_0]
    | succ n ih => rw [foldN_s, ih, cpyF_s]
  rw [e, upA_same] at hl
  simp only [C_X12_putBack, R_X12_putBack, SB, ls1s, show (0 : Int32) = nI 0 from rfl]
  refine (show _ = _ from rfl).trans (hl.trans ?_)
  rw [H_X12_putBack_2]
  simp only [R_X12_putBack, SB, show ((97 : Int32) ≤ nI 97) = True from by rw [show (97 : Int32) = nI 97 from rfl]; simp, if_true]
/-- put back what was kept aside: all is as it was -/
theorem back_eq {D E F : Nat → Int32} (h : Lo D E) : cpyF (cpyF D F 97) E 97 = D := by
  funext k
  unfold cpyF
  by_cases q : k < 97
  · rw [if_pos q, if_pos q]
  · rw [if_neg q]; exact h k (by omega)
