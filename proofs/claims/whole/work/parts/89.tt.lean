/-! ===== Dyeing: the model's flood ===== -/
theorem m_floods {S : Co} {I : Nat → Int32} {A : Nat → Nat → Int32} (hD : DR (A 0) S) {k c : Nat} (hk : k < 36) (hc : c < 8) (w : AH) (lv : Nat) : ∃ J B, Call M_X12_floods lv [.ref 123, .int (nI k), .int (nI c)] (mw w I A) = some (none, mw w J B) ∧ DR (B 0) (S.upd3 (fdN S.col k c) S.wear S.wk) ∧ Lo (A 0) (B 0) ∧ (∀ j, j ≠ 13 → J j = I j) ∧ (∀ j, j ≠ 0 ∧ j ≠ 5 ∧ j ≠ 6 → B j = A j) := by
  obtain ⟨F, R, r, m, s1, s2⟩ := m_spreads (I := I) hD hk w 60
  have ml := s2.m_le
  obtain ⟨t1, t2, t3, t4⟩ := s2
  obtain ⟨D, a1, a2, a3⟩ := loopE (fun i (D : Nat → Int32) => Ex M_X12_floods lv 7 [some (.ref 123), some (.int (nI k)), some (.int (nI c)), some (.int (nI i))] [] (mw w (upd I 13 (nI m)) (upA (upA (upA A 5 R) 6 F) 0 D))) (fun i D => (∀ j, j < 36 → ((∃ i2, i2 < i ∧ r i2 = j) → D (5 + j) = nI c) ∧ ((∀ i2, i2 < i → r i2 ≠ j) → D (5 + j) = A 0 (5 + j))) ∧ ∀ j, j < 5 ∨ 41 ≤ j → D j = A 0 j) m (by
    intro i D hi ⟨i1, i2⟩
    obtain ⟨r1, r2, r3⟩ := t3 i hi
    have e1 : (nI m ≤ nI i) = False := by rw [le_nI (by omega) (by omega)]; apply eq_false; omega
    refine ⟨upd D (5 + r i) (nI c), ?_, fun j hj => ⟨fun ⟨i3, h1, h2⟩ => ?_, fun h => ?_⟩, fun j hj => ?_⟩
    · rw [H_X12_floods_7]
      simp (disch := omega) only [R_X12_floods, SB, mw_o, mw_a, mo_g, mo_p, mo_pz, mw_so, mw_sa, upA_eq, upA_upA, upd_upd, m_isKnot, m_isSheet, mi_1, mi_3, mi_5, mi_6, mi_7, mi_69, mi_99, mi_100, mi_255, m_f1, m_f2, m_f3, m_f4, m_f5, bI_e0, bI_n0, b_ft, bI_01, bI_t, bI_f, i10, i01, if_true, if_false, Bool.true_eq_false, Bool.false_eq_true, or_true, true_or, not_true_eq_false, not_false_eq_true, ls1s, upd_s, e1, show ((5 : Nat) = 0) = False from by simp, show ((6 : Nat) = 0) = False from by simp, show ((5 : Nat) = 6) = False from by simp, aI_a, r1, lit_add, uI_0, nI_1]
    · by_cases q : r i = j
      · rw [q, upd_s]
      · rw [upd_n (by omega)]
        exact (i1 j hj).1 ⟨i3, by
          by_cases z : i3 = i
          · subst z; exact absurd h2 q
          · omega, h2⟩
    · have := h i (by omega)
      rw [upd_n (by omega)]
      exact (i1 j hj).2 (fun i3 h3 => h i3 (by omega))
    · rw [upd_n (by omega)]; exact i2 j hj) (A 0) ⟨fun j hj => ⟨fun ⟨i2, h, _⟩ => by omega, fun _ => rfl⟩, fun _ _ => rfl⟩
  have hcol : ∀ j, j < 36 → D (5 + j) = nI (fdN S.col k c j) := by
    intro j hj
    unfold fdN
    cases z : (land S.col k).testBit j with
    | true =>
      rw [if_pos rfl]
      exact (a2 j hj).1 (t4 j hj z)
    | false =>
      rw [if_neg (by decide)]
      rw [(a2 j hj).2 (fun i hi x => by have := (t3 i hi).2.2; rw [x, z] at this; cases this)]
      exact hD.col j hj
  have e0 : upA (upA (upA A 5 R) 6 F) 0 (A 0) = upA (upA A 5 R) 6 F := by
    rw [show A 0 = (upA (upA A 5 R) 6 F) 0 from rfl, upA_same]
  rw [e0] at a1
  refine ⟨upd I 13 (nI m), upA (upA (upA A 5 R) 6 F) 0 D, ?_, ?_, fun j hj => a3 j (by omega), fun j hj => upd_n hj, fun j hj => by rw [upA_n hj.1, upA_n hj.2.2, upA_n hj.2.1]⟩
  · simp only [C_X12_floods, R_X12_floods, SB, mw_o, mw_a, mo_g, mo_p, mo_pz, mw_so, mw_sa, upA_eq, upA_upA, upd_upd, m_isKnot, m_isSheet, mi_1, mi_3, mi_5, mi_6, mi_7, mi_69, mi_99, mi_100, mi_255, m_f1, m_f2, m_f3, m_f4, m_f5, bI_e0, bI_n0, b_ft, bI_01, bI_t, bI_f, i10, i01, if_true, if_false, Bool.true_eq_false, Bool.false_eq_true, or_true, true_or, not_true_eq_false, not_false_eq_true, ls1s, s1]
    refine (show _ = _ from rfl).trans (a1.trans ?_)
    rw [H_X12_floods_7]
    simp only [R_X12_floods, SB, mw_o, mw_a, mo_g, mo_p, mo_pz, mw_so, mw_sa, upA_eq, upA_upA, upd_upd, m_isKnot, m_isSheet, mi_1, mi_3, mi_5, mi_6, mi_7, mi_69, mi_99, mi_100, mi_255, m_f1, m_f2, m_f3, m_f4, m_f5, bI_e0, bI_n0, b_ft, bI_01, bI_t, bI_f, i10, i01, if_true, if_false, Bool.true_eq_false, Bool.false_eq_true, or_true, true_or, not_true_eq_false, not_false_eq_true, ls1s, upd_s, show (nI m ≤ nI m) = True from by simp]
  · have rn := hD.rn
    have q := fun j (h : j < 5 ∨ 41 ≤ j) => a3 j h
    exact hD.mkL (fun j hj => q j (by omega)) (q 3 (by omega)) (q 4 (by omega)) ((q 0 (by omega)).trans hD.nw) ((q 1 (by omega)).trans hD.day) ((q 2 (by omega)).trans hD.z) hcol (fun j hj => (q _ (by omega)).trans (hD.wear j hj)) (fun i hi x hx => (q _ (by omega)).trans (hD.wk i hi x hx)) (fun j hj => by unfold fdN; split; (exact hc); exact hD.rc j hj) hD.rw hD.rk hD.rn hD.rd
