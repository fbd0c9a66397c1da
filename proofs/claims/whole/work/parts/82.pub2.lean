/-! ===== pairs: walkers, waiting ===== -/
theorem ClAt.walk {W : AH} {X : Cx} (hC : ClAt W X) {k : Nat} (hk : k < 5) {e : va_E} {wk2 : Nat → Nat → Nat} (hw : WkAt (hs W (50 + k) e) (50 + k) (wk2 k 0) (wk2 k 1) (wk2 k 2) (wk2 k 3)) (ho : ∀ j, j ≠ k → ∀ x, wk2 j x = X.1.wk j x) : ClAt (hs W (50 + k) e) (X.1.upd3 X.1.col X.1.wear wk2, X.2) := by
  have hN := hC.now
  refine hC.setNow (Fr.hs ⟨by omega, by omega⟩ _) (hN.mk3 (fun j _ _ _ _ => hs_ne _ _ (by omega)) (hN.car.keep (hs_ne _ _ (by omega)) (hs_ne _ _ (by omega)) (hs_ne _ _ (by omega))) (fun j hj => ?_))
  by_cases q : j = k
  · subst q; exact hw
  · rw [ho j q, ho j q, ho j q, ho j q]
    exact (hN.wk j hj).keep (hs_ne _ _ (by omega))
theorem s_wOf {W : AH} {X : Cx} (hC : ClAt W X) {k : Nat} (hk : inR (nI k) X.1.nw = true) (k2 : k < 2147483648) (lv : Nat) : Call M_X1_walkerOf lv [.ref 33, .int (nI k)] W = some (some (.ref (50 + k)), W) := by
  rw [s_walkerOf hC.now, if_pos hk, nI_c k2]
theorem s_wOf_n {W : AH} {X : Cx} (hC : ClAt W X) {i : Int32} (hk : ¬ inR i X.1.nw = true) (lv : Nat) : Call M_X1_walkerOf lv [.ref 33, .int i] W = some (some .null, W) := by
  rw [s_walkerOf hC.now, if_neg hk]
theorem j_put (a b c : Int32) : JO M_X11_put M_X12_put [.int a, .int b, .int c] := by
  apply JO.mk
  intro W X I A hC hM
  have hD := hM.now
  have hN := hC.now
  have rn := hN.rn
  have n0 := clK_gf hN.k0
  have mW := fun v w => m_isWalker (I := I) hD v w 60
  by_cases q1 : inR a X.1.nw = true
  · obtain ⟨k, k1, k2, rfl⟩ := inR_of q1
    have w1 := s_wOf hC q1 k2 60
    have hw := hN.wk k (by omega)
    by_cases q2 : inR b 36 = true
    · obtain ⟨p, p1, p2, rfl⟩ := inR_of q2
      by_cases q3 : inR c 4 = true
      · obtain ⟨y, y1, y2, rfl⟩ := inR_of q3
        have f2 := hw.p2
        have f3 : gf (fput (hg W (50 + k)) 2 (.int (nI p))) 9 3 = some (.int (nI (X.1.wk k 3))) := by rw [gf_put_n (by decide)]; exact hw.p3
        obtain ⟨e, he⟩ : ∃ e, e = fput (fput (hg W (50 + k)) 2 (.int (nI p))) 3 (.int (nI y)) := ⟨_, rfl⟩
        have wk' : wkK (wkK X.1.wk k 2 p) k 3 y k 0 = X.1.wk k 0 ∧ wkK (wkK X.1.wk k 2 p) k 3 y k 1 = X.1.wk k 1 ∧ wkK (wkK X.1.wk k 2 p) k 3 y k 2 = p ∧ wkK (wkK X.1.wk k 2 p) k 3 y k 3 = y := by simp [wkK]
        have hw2 : WkAt (hs W (50 + k) e) (50 + k) (wkK (wkK X.1.wk k 2 p) k 3 y k 0) (wkK (wkK X.1.wk k 2 p) k 3 y k 1) (wkK (wkK X.1.wk k 2 p) k 3 y k 2) (wkK (wkK X.1.wk k 2 p) k 3 y k 3) := by
          rw [wk'.1, wk'.2.1, wk'.2.2.1, wk'.2.2.2]
          refine ⟨?_, ?_, ?_, ?_, hw.r0, hw.r1, p1, y1⟩
          · rw [hs_eq, he, gf_put_n (by decide), gf_put_n (by decide)]; exact hw.p0
          · rw [hs_eq, he, gf_put_n (by decide), gf_put_n (by decide)]; exact hw.p1
          · rw [hs_eq, he, gf_put_n (by decide)]; exact gf_put_s f2
          · rw [hs_eq, he]; exact gf_put_s f3
        have d1 := hD.setK k1 (x := 2) (v := p) (by decide) ⟨by omega, by omega, by omega, by omega⟩
        have d2 := d1.setK (i := k) k1 (x := 3) (v := y) (by decide) ⟨by omega, by omega, by omega, by omega⟩
        refine ⟨nI (X.1.wk k 2), _, ⟨hs W (50 + k) e, ?_, hC.walk (by omega) hw2 (fun j hj x => by simp [wkK, hj]), Fr.hs ⟨by omega, by omega⟩ _⟩, fun w => ⟨I, upA A 0 (upd (upd (A 0) (77 + 4 * k + 2) (nI p)) (77 + 4 * k + 3) (nI y)), ?_, hM.set0 d2⟩⟩
        · simp only [C_X11_put, R_X11_put, SB, hC.f0, hC.f1, hC.f2, hC.f3, hC.f4, hC.f5, hC.f6, hC.f7, hC.f8, hC.f9, clK_gf hC.f0, s_isKnot, s_isColour, s_isKindAndM, s_isUse, iw_1, iw_3, iw_6, iw_7, iw_99, iw_100, iw_255, s_rf1 hC, s_rf2 hC, s_rf3 hC, s_rf4 hC, s_rf5 hC, bI_e0, bI_n0, b_ft, bI_01, bI_t, bI_f, i10, i01, if_true, if_false, Bool.true_eq_false, Bool.false_eq_true, or_true, true_or, not_true_eq_false, not_false_eq_true, ls1s, q1, q2, q3, n0, w1, f2, pf_i f2, pf_i f3, hs_hs, he]
        · simp only [C_X12_put, R_X12_put, SB, mw_o, mw_a, mo_g, mo_p, mo_pz, mw_so, mw_sa, upA_eq, upA_upA, upd_upd, m_isKnot, m_isSheet, mi_1, mi_3, mi_5, mi_6, mi_7, mi_69, mi_99, mi_100, mi_255, m_f1, m_f2, m_f3, m_f4, m_f5, bI_e0, bI_n0, b_ft, bI_01, bI_t, bI_f, i10, i01, if_true, if_false, Bool.true_eq_false, Bool.false_eq_true, or_true, true_or, not_true_eq_false, not_false_eq_true, ls1s, q1, q2, q3, mW, m_of2 hD k1, m_sets2 (show k < 5 by omega), m_sets3 (show k < 5 by omega)]
      · refine JS.er hC hM (k := 1) (by decide) ?_ (fun w => ?_)
        · simp only [C_X11_put, R_X11_put, SB, hC.f0, hC.f1, hC.f2, hC.f3, hC.f4, hC.f5, hC.f6, hC.f7, hC.f8, hC.f9, clK_gf hC.f0, s_isKnot, s_isColour, s_isKindAndM, s_isUse, iw_1, iw_3, iw_6, iw_7, iw_99, iw_100, iw_255, s_rf1 hC, s_rf2 hC, s_rf3 hC, s_rf4 hC, s_rf5 hC, bI_e0, bI_n0, b_ft, bI_01, bI_t, bI_f, i10, i01, if_true, if_false, Bool.true_eq_false, Bool.false_eq_true, or_true, true_or, not_true_eq_false, not_false_eq_true, ls1s, q1, q2, inR_f q3, n0, w1]
        · simp only [C_X12_put, R_X12_put, SB, mw_o, mw_a, mo_g, mo_p, mo_pz, mw_so, mw_sa, upA_eq, upA_upA, upd_upd, m_isKnot, m_isSheet, mi_1, mi_3, mi_5, mi_6, mi_7, mi_69, mi_99, mi_100, mi_255, m_f1, m_f2, m_f3, m_f4, m_f5, bI_e0, bI_n0, b_ft, bI_01, bI_t, bI_f, i10, i01, if_true, if_false, Bool.true_eq_false, Bool.false_eq_true, or_true, true_or, not_true_eq_false, not_false_eq_true, ls1s, q1, q2, inR_f q3, mW]
    · refine JS.er hC hM (k := 1) (by decide) ?_ (fun w => ?_)
      · simp only [C_X11_put, R_X11_put, SB, hC.f0, hC.f1, hC.f2, hC.f3, hC.f4, hC.f5, hC.f6, hC.f7, hC.f8, hC.f9, clK_gf hC.f0, s_isKnot, s_isColour, s_isKindAndM, s_isUse, iw_1, iw_3, iw_6, iw_7, iw_99, iw_100, iw_255, s_rf1 hC, s_rf2 hC, s_rf3 hC, s_rf4 hC, s_rf5 hC, bI_e0, bI_n0, b_ft, bI_01, bI_t, bI_f, i10, i01, if_true, if_false, Bool.true_eq_false, Bool.false_eq_true, or_true, true_or, not_true_eq_false, not_false_eq_true, ls1s, q1, inR_f q2, n0, w1]
      · simp only [C_X12_put, R_X12_put, SB, mw_o, mw_a, mo_g, mo_p, mo_pz, mw_so, mw_sa, upA_eq, upA_upA, upd_upd, m_isKnot, m_isSheet, mi_1, mi_3, mi_5, mi_6, mi_7, mi_69, mi_99, mi_100, mi_255, m_f1, m_f2, m_f3, m_f4, m_f5, bI_e0, bI_n0, b_ft, bI_01, bI_t, bI_f, i10, i01, if_true, if_false, Bool.true_eq_false, Bool.false_eq_true, or_true, true_or, not_true_eq_false, not_false_eq_true, ls1s, q1, inR_f q2, mW]
  · have w1 := s_wOf_n hC q1 60
    refine JS.er hC hM (k := 1) (by decide) ?_ (fun w => ?_)
    · simp only [C_X11_put, R_X11_put, SB, hC.f0, hC.f1, hC.f2, hC.f3, hC.f4, hC.f5, hC.f6, hC.f7, hC.f8, hC.f9, clK_gf hC.f0, s_isKnot, s_isColour, s_isKindAndM, s_isUse, iw_1, iw_3, iw_6, iw_7, iw_99, iw_100, iw_255, s_rf1 hC, s_rf2 hC, s_rf3 hC, s_rf4 hC, s_rf5 hC, bI_e0, bI_n0, b_ft, bI_01, bI_t, bI_f, i10, i01, if_true, if_false, Bool.true_eq_false, Bool.false_eq_true, or_true, true_or, not_true_eq_false, not_false_eq_true, ls1s, n0, w1]
    · simp only [C_X12_put, R_X12_put, SB, mw_o, mw_a, mo_g, mo_p, mo_pz, mw_so, mw_sa, upA_eq, upA_upA, upd_upd, m_isKnot, m_isSheet, mi_1, mi_3, mi_5, mi_6, mi_7, mi_69, mi_99, mi_100, mi_255, m_f1, m_f2, m_f3, m_f4, m_f5, bI_e0, bI_n0, b_ft, bI_01, bI_t, bI_f, i10, i01, if_true, if_false, Bool.true_eq_false, Bool.false_eq_true, or_true, true_or, not_true_eq_false, not_false_eq_true, ls1s, inR_f q1, mW]
theorem j_become (a b : Int32) : JO M_X11_become M_X12_become [.int a, .int b] := by
  apply JO.mk
  intro W X I A hC hM
  have hD := hM.now
  have hN := hC.now
  have rn := hN.rn
  have n0 := clK_gf hN.k0
  have mW := fun v w => m_isWalker (I := I) hD v w 60
  by_cases q1 : inR a X.1.nw = true
  · obtain ⟨k, k1, k2, rfl⟩ := inR_of q1
    have w1 := s_wOf hC q1 k2 60
    have hw := hN.wk k (by omega)
    by_cases q2 : inR b 70 = true
    · obtain ⟨km, p1, p2, rfl⟩ := inR_of q2
      have d10 : nI km / 10 = nI (km / 10) := pk_div (show km < 2 ^ 31 by omega) (show 0 < 10 by decide) (show 10 < 2 ^ 31 by decide)
      have r10 : nI km - nI (km / 10) * 10 = nI (km % 10) := pk_rem2 (show km < 2 ^ 31 by omega) (show 0 < 10 by decide) (show 10 < 2 ^ 31 by decide)
      have f0 := hw.p0
      have f1 : gf (fput (hg W (50 + k)) 0 (.int (nI (km / 10)))) 9 1 = some (.int (nI (X.1.wk k 1))) := by rw [gf_put_n (by decide)]; exact hw.p1
      obtain ⟨e, he⟩ : ∃ e, e = fput (fput (hg W (50 + k)) 0 (.int (nI (km / 10)))) 1 (.int (nI (km % 10))) := ⟨_, rfl⟩
      have wk' : wkK (wkK X.1.wk k 0 (km / 10)) k 1 (km % 10) k 0 = km / 10 ∧ wkK (wkK X.1.wk k 0 (km / 10)) k 1 (km % 10) k 1 = km % 10 ∧ wkK (wkK X.1.wk k 0 (km / 10)) k 1 (km % 10) k 2 = X.1.wk k 2 ∧ wkK (wkK X.1.wk k 0 (km / 10)) k 1 (km % 10) k 3 = X.1.wk k 3 := by simp [wkK]
      have hw2 : WkAt (hs W (50 + k) e) (50 + k) (wkK (wkK X.1.wk k 0 (km / 10)) k 1 (km % 10) k 0) (wkK (wkK X.1.wk k 0 (km / 10)) k 1 (km % 10) k 1) (wkK (wkK X.1.wk k 0 (km / 10)) k 1 (km % 10) k 2) (wkK (wkK X.1.wk k 0 (km / 10)) k 1 (km % 10) k 3) := by
        rw [wk'.1, wk'.2.1, wk'.2.2.1, wk'.2.2.2]
        refine ⟨?_, ?_, ?_, ?_, by omega, by omega, hw.r2, hw.r3⟩
        · rw [hs_eq, he, gf_put_n (by decide)]; exact gf_put_s f0
        · rw [hs_eq, he]; exact gf_put_s f1
        · rw [hs_eq, he, gf_put_n (by decide), gf_put_n (by decide)]; exact hw.p2
        · rw [hs_eq, he, gf_put_n (by decide), gf_put_n (by decide)]; exact hw.p3
      have d1 := hD.setK k1 (x := 0) (v := km / 10) (by decide) ⟨by omega, by omega, by omega, by omega⟩
      have d2 := d1.setK (i := k) k1 (x := 1) (v := km % 10) (by decide) ⟨by omega, by omega, by omega, by omega⟩
      refine ⟨nI (X.1.wk k 0), _, ⟨hs W (50 + k) e, ?_, hC.walk (by omega) hw2 (fun j hj x => by simp [wkK, hj]), Fr.hs ⟨by omega, by omega⟩ _⟩, fun w => ⟨I, upA A 0 (upd (upd (A 0) (77 + 4 * k + 0) (nI (km / 10))) (77 + 4 * k + 1) (nI (km % 10))), ?_, hM.set0 d2⟩⟩
      · simp only [C_X11_become, R_X11_become, SB, hC.f0, hC.f1, hC.f2, hC.f3, hC.f4, hC.f5, hC.f6, hC.f7, hC.f8, hC.f9, clK_gf hC.f0, s_isKnot, s_isColour, s_isKindAndM, s_isUse, iw_1, iw_3, iw_6, iw_7, iw_99, iw_100, iw_255, s_rf1 hC, s_rf2 hC, s_rf3 hC, s_rf4 hC, s_rf5 hC, bI_e0, bI_n0, b_ft, bI_01, bI_t, bI_f, i10, i01, if_true, if_false, Bool.true_eq_false, Bool.false_eq_true, or_true, true_or, not_true_eq_false, not_false_eq_true, ls1s, q1, q2, n0, w1, f0, pf_i f0, pf_i f1, hs_hs, he, show ((10 : Int32) = 0) = False from by decide, d10, r10]
      · simp only [C_X12_become, R_X12_become, SB, mw_o, mw_a, mo_g, mo_p, mo_pz, mw_so, mw_sa, upA_eq, upA_upA, upd_upd, m_isKnot, m_isSheet, mi_1, mi_3, mi_5, mi_6, mi_7, mi_69, mi_99, mi_100, mi_255, m_f1, m_f2, m_f3, m_f4, m_f5, bI_e0, bI_n0, b_ft, bI_01, bI_t, bI_f, i10, i01, if_true, if_false, Bool.true_eq_false, Bool.false_eq_true, or_true, true_or, not_true_eq_false, not_false_eq_true, ls1s, q1, q2, mW, m_of0 hD k1, m_sets0 (show k < 5 by omega), m_sets1 (show k < 5 by omega), show ((10 : Int32) = 0) = False from by decide, d10, r10]
    · refine JS.er hC hM (k := 1) (by decide) ?_ (fun w => ?_)
      · simp only [C_X11_become, R_X11_become, SB, hC.f0, hC.f1, hC.f2, hC.f3, hC.f4, hC.f5, hC.f6, hC.f7, hC.f8, hC.f9, clK_gf hC.f0, s_isKnot, s_isColour, s_isKindAndM, s_isUse, iw_1, iw_3, iw_6, iw_7, iw_99, iw_100, iw_255, s_rf1 hC, s_rf2 hC, s_rf3 hC, s_rf4 hC, s_rf5 hC, bI_e0, bI_n0, b_ft, bI_01, bI_t, bI_f, i10, i01, if_true, if_false, Bool.true_eq_false, Bool.false_eq_true, or_true, true_or, not_true_eq_false, not_false_eq_true, ls1s, q1, inR_f q2, n0, w1]
      · simp only [C_X12_become, R_X12_become, SB, mw_o, mw_a, mo_g, mo_p, mo_pz, mw_so, mw_sa, upA_eq, upA_upA, upd_upd, m_isKnot, m_isSheet, mi_1, mi_3, mi_5, mi_6, mi_7, mi_69, mi_99, mi_100, mi_255, m_f1, m_f2, m_f3, m_f4, m_f5, bI_e0, bI_n0, b_ft, bI_01, bI_t, bI_f, i10, i01, if_true, if_false, Bool.true_eq_false, Bool.false_eq_true, or_true, true_or, not_true_eq_false, not_false_eq_true, ls1s, q1, inR_f q2, mW]
  · have w1 := s_wOf_n hC q1 60
    refine JS.er hC hM (k := 1) (by decide) ?_ (fun w => ?_)
    · simp only [C_X11_become, R_X11_become, SB, hC.f0, hC.f1, hC.f2, hC.f3, hC.f4, hC.f5, hC.f6, hC.f7, hC.f8, hC.f9, clK_gf hC.f0, s_isKnot, s_isColour, s_isKindAndM, s_isUse, iw_1, iw_3, iw_6, iw_7, iw_99, iw_100, iw_255, s_rf1 hC, s_rf2 hC, s_rf3 hC, s_rf4 hC, s_rf5 hC, bI_e0, bI_n0, b_ft, bI_01, bI_t, bI_f, i10, i01, if_true, if_false, Bool.true_eq_false, Bool.false_eq_true, or_true, true_or, not_true_eq_false, not_false_eq_true, ls1s, n0, w1]
    · simp only [C_X12_become, R_X12_become, SB, mw_o, mw_a, mo_g, mo_p, mo_pz, mw_so, mw_sa, upA_eq, upA_upA, upd_upd, m_isKnot, m_isSheet, mi_1, mi_3, mi_5, mi_6, mi_7, mi_69, mi_99, mi_100, mi_255, m_f1, m_f2, m_f3, m_f4, m_f5, bI_e0, bI_n0, b_ft, bI_01, bI_t, bI_f, i10, i01, if_true, if_false, Bool.true_eq_false, Bool.false_eq_true, or_true, true_or, not_true_eq_false, not_false_eq_true, ls1s, inR_f q1, mW]
theorem m_above {k : Nat} (hk : k < 7) (w : AH) (lv : Nat) : Call M_X12_above lv [.int (nI k)] w = some (some (.int (nI (abv k))), w) := by
  unfold abv
  by_cases q : k < 4
  · simp (disch := omega) only [C_X12_above, R_X12_above, SB, lit_le, le_lit, lit_lt, lt_lit, eq_lit, le_nI, lt_nI, eq_nI, lit_add, add_lit, nI_add, lit_sub, sub_lit, sub_nI, lit_mul, mul_lit, pk_mul, div_lit, nI_c, aI_a, aI_l, uI_0, uI_l, aB_2, uB_2, bI_e0, bI_e1, bI_n0, bI_n1, bI_01, b_ft, i10, i01, bI_t, bI_f, if_true, if_false, dec_t, dec_f, Bool.true_eq_false, Bool.false_eq_true, or_true, true_or, not_true_eq_false, not_false_eq_true, q, show ¬ 4 ≤ k by omega]
    first | done | rfl
  · simp (disch := omega) only [C_X12_above, R_X12_above, SB, lit_le, le_lit, lit_lt, lt_lit, eq_lit, le_nI, lt_nI, eq_nI, lit_add, add_lit, nI_add, lit_sub, sub_lit, sub_nI, lit_mul, mul_lit, pk_mul, div_lit, nI_c, aI_a, aI_l, uI_0, uI_l, aB_2, uB_2, bI_e0, bI_e1, bI_n0, bI_n1, bI_01, b_ft, i10, i01, bI_t, bI_f, if_true, if_false, dec_t, dec_f, Bool.true_eq_false, Bool.false_eq_true, or_true, true_or, not_true_eq_false, not_false_eq_true, q, show 4 ≤ k by omega]
theorem j_as (a b : Int32) : JO M_X11_as M_X12_as [.int a, .int b] := by
  apply JO.mk
  intro W X I A hC hM
  have hD := hM.now
  have hN := hC.now
  have rn := hN.rn
  have n0 := clK_gf hN.k0
  have mW := fun v w => m_isWalker (I := I) hD v w 60
  by_cases q1 : inR a X.1.nw = true
  · obtain ⟨k, k1, k2, rfl⟩ := inR_of q1
    have w1 := s_wOf hC q1 k2 60
    have hw := hN.wk k (by omega)
    have kl := hw.r0
    by_cases q2 : inR b 7 = true
    · obtain ⟨x, p1, p2, rfl⟩ := inR_of q2
      have io := s_isOf hC.sta hw p1 60
      have ab := fun w => m_above kl w 60
      have e0 : (nI x = (0 : Int32)) = (x = 0) := by rw [show (0 : Int32) = nI 0 from rfl, eq_nI (by omega) (by decide)]
      have e1 : (nI x = nI (X.1.wk k 0)) = (x = X.1.wk k 0) := eq_nI (by omega) (by omega)
      have e2 : (nI x = nI (abv (X.1.wk k 0))) = (x = abv (X.1.wk k 0)) := eq_nI (by omega) (by have := abv_lt kl; omega)
      by_cases q3 : isK (X.1.wk k 0) x = true
      · rw [q3] at io
        have q3 := of_decide_eq_true q3
        refine JS.ro hC hM (r := nI (X.1.wk k 1)) ?_ (fun w => ⟨I, A, ?_, hM⟩)
        · simp only [C_X11_as, R_X11_as, SB, hC.f0, hC.f1, hC.f2, hC.f3, hC.f4, hC.f5, hC.f6, hC.f7, hC.f8, hC.f9, clK_gf hC.f0, s_isKnot, s_isColour, s_isKindAndM, s_isUse, iw_1, iw_3, iw_6, iw_7, iw_99, iw_100, iw_255, s_rf1 hC, s_rf2 hC, s_rf3 hC, s_rf4 hC, s_rf5 hC, bI_e0, bI_n0, b_ft, bI_01, bI_t, bI_f, i10, i01, if_true, if_false, Bool.true_eq_false, Bool.false_eq_true, or_true, true_or, not_true_eq_false, not_false_eq_true, ls1s, q1, q2, n0, w1, clK_gf hw.p0, io, hw.p1]
        · by_cases z0 : x = 0
          · simp only [C_X12_as, R_X12_as, SB, mw_o, mw_a, mo_g, mo_p, mo_pz, mw_so, mw_sa, upA_eq, upA_upA, upd_upd, m_isKnot, m_isSheet, mi_1, mi_3, mi_5, mi_6, mi_7, mi_69, mi_99, mi_100, mi_255, m_f1, m_f2, m_f3, m_f4, m_f5, bI_e0, bI_n0, b_ft, bI_01, bI_t, bI_f, i10, i01, if_true, if_false, Bool.true_eq_false, Bool.false_eq_true, or_true, true_or, not_true_eq_false, not_false_eq_true, ls1s, q1, q2, mW, m_of0 hD k1, m_of1 hD k1, e0, eq_true z0]
          · by_cases z1 : x = X.1.wk k 0
            · simp only [C_X12_as, R_X12_as, SB, mw_o, mw_a, mo_g, mo_p, mo_pz, mw_so, mw_sa, upA_eq, upA_upA, upd_upd, m_isKnot, m_isSheet, mi_1, mi_3, mi_5, mi_6, mi_7, mi_69, mi_99, mi_100, mi_255, m_f1, m_f2, m_f3, m_f4, m_f5, bI_e0, bI_n0, b_ft, bI_01, bI_t, bI_f, i10, i01, if_true, if_false, Bool.true_eq_false, Bool.false_eq_true, or_true, true_or, not_true_eq_false, not_false_eq_true, ls1s, q1, q2, mW, m_of0 hD k1, m_of1 hD k1, e0, eq_false z0, e1, eq_true z1]
            · have z2 : x = abv (X.1.wk k 0) := by
                rcases q3 with z | z | z
                · exact absurd z z0
                · exact absurd z z1
                · exact z
              simp only [C_X12_as, R_X12_as, SB, mw_o, mw_a, mo_g, mo_p, mo_pz, mw_so, mw_sa, upA_eq, upA_upA, upd_upd, m_isKnot, m_isSheet, mi_1, mi_3, mi_5, mi_6, mi_7, mi_69, mi_99, mi_100, mi_255, m_f1, m_f2, m_f3, m_f4, m_f5, bI_e0, bI_n0, b_ft, bI_01, bI_t, bI_f, i10, i01, if_true, if_false, Bool.true_eq_false, Bool.false_eq_true, or_true, true_or, not_true_eq_false, not_false_eq_true, ls1s, q1, q2, mW, m_of0 hD k1, m_of1 hD k1, e0, eq_false z0, e1, eq_false z1, ab, e2, eq_true z2]
      · have q4 : isK (X.1.wk k 0) x = false := Bool.eq_false_iff.mpr q3
        rw [q4] at io
        have q5 := of_decide_eq_false q4
        refine JS.er hC hM (k := 5) (by decide) ?_ (fun w => ?_)
        · simp only [C_X11_as, R_X11_as, SB, hC.f0, hC.f1, hC.f2, hC.f3, hC.f4, hC.f5, hC.f6, hC.f7, hC.f8, hC.f9, clK_gf hC.f0, s_isKnot, s_isColour, s_isKindAndM, s_isUse, iw_1, iw_3, iw_6, iw_7, iw_99, iw_100, iw_255, s_rf1 hC, s_rf2 hC, s_rf3 hC, s_rf4 hC, s_rf5 hC, bI_e0, bI_n0, b_ft, bI_01, bI_t, bI_f, i10, i01, if_true, if_false, Bool.true_eq_false, Bool.false_eq_true, or_true, true_or, not_true_eq_false, not_false_eq_true, ls1s, q1, q2, n0, w1, clK_gf hw.p0, io]
        · simp only [C_X12_as, R_X12_as, SB, mw_o, mw_a, mo_g, mo_p, mo_pz, mw_so, mw_sa, upA_eq, upA_upA, upd_upd, m_isKnot, m_isSheet, mi_1, mi_3, mi_5, mi_6, mi_7, mi_69, mi_99, mi_100, mi_255, m_f1, m_f2, m_f3, m_f4, m_f5, bI_e0, bI_n0, b_ft, bI_01, bI_t, bI_f, i10, i01, if_true, if_false, Bool.true_eq_false, Bool.false_eq_true, or_true, true_or, not_true_eq_false, not_false_eq_true, ls1s, q1, q2, mW, m_of0 hD k1, e0, e1, e2, ab, show (x = 0) = False from eq_false (fun z => q5 (Or.inl z)), show (x = X.1.wk k 0) = False from eq_false (fun z => q5 (Or.inr (Or.inl z))), show (x = abv (X.1.wk k 0)) = False from eq_false (fun z => q5 (Or.inr (Or.inr z)))]
    · refine JS.er hC hM (k := 1) (by decide) ?_ (fun w => ?_)
      · simp only [C_X11_as, R_X11_as, SB, hC.f0, hC.f1, hC.f2, hC.f3, hC.f4, hC.f5, hC.f6, hC.f7, hC.f8, hC.f9, clK_gf hC.f0, s_isKnot, s_isColour, s_isKindAndM, s_isUse, iw_1, iw_3, iw_6, iw_7, iw_99, iw_100, iw_255, s_rf1 hC, s_rf2 hC, s_rf3 hC, s_rf4 hC, s_rf5 hC, bI_e0, bI_n0, b_ft, bI_01, bI_t, bI_f, i10, i01, if_true, if_false, Bool.true_eq_false, Bool.false_eq_true, or_true, true_or, not_true_eq_false, not_false_eq_true, ls1s, q1, inR_f q2, n0, w1]
      · simp only [C_X12_as, R_X12_as, SB, mw_o, mw_a, mo_g, mo_p, mo_pz, mw_so, mw_sa, upA_eq, upA_upA, upd_upd, m_isKnot, m_isSheet, mi_1, mi_3, mi_5, mi_6, mi_7, mi_69, mi_99, mi_100, mi_255, m_f1, m_f2, m_f3, m_f4, m_f5, bI_e0, bI_n0, b_ft, bI_01, bI_t, bI_f, i10, i01, if_true, if_false, Bool.true_eq_false, Bool.false_eq_true, or_true, true_or, not_true_eq_false, not_false_eq_true, ls1s, q1, inR_f q2, mW]
  · have w1 := s_wOf_n hC q1 60
    refine JS.er hC hM (k := 1) (by decide) ?_ (fun w => ?_)
    · simp only [C_X11_as, R_X11_as, SB, hC.f0, hC.f1, hC.f2, hC.f3, hC.f4, hC.f5, hC.f6, hC.f7, hC.f8, hC.f9, clK_gf hC.f0, s_isKnot, s_isColour, s_isKindAndM, s_isUse, iw_1, iw_3, iw_6, iw_7, iw_99, iw_100, iw_255, s_rf1 hC, s_rf2 hC, s_rf3 hC, s_rf4 hC, s_rf5 hC, bI_e0, bI_n0, b_ft, bI_01, bI_t, bI_f, i10, i01, if_true, if_false, Bool.true_eq_false, Bool.false_eq_true, or_true, true_or, not_true_eq_false, not_false_eq_true, ls1s, n0, w1]
    · simp only [C_X12_as, R_X12_as, SB, mw_o, mw_a, mo_g, mo_p, mo_pz, mw_so, mw_sa, upA_eq, upA_upA, upd_upd, m_isKnot, m_isSheet, mi_1, mi_3, mi_5, mi_6, mi_7, mi_69, mi_99, mi_100, mi_255, m_f1, m_f2, m_f3, m_f4, m_f5, bI_e0, bI_n0, b_ft, bI_01, bI_t, bI_f, i10, i01, if_true, if_false, Bool.true_eq_false, Bool.false_eq_true, or_true, true_or, not_true_eq_false, not_false_eq_true, ls1s, inR_f q1, mW]
theorem CoAt.setWait {w v : AH} {g : Nat} {S : Co} (h : CoAt w g S) {L : Nat} {f : Nat → Int32} (e : ∀ j, g ≤ j → j < g + 22 → j ≠ g + 15 → j ≠ g + 16 → hg v j = hg w j) (hr : RowAt v (g + 15) (g + 16) 20 L f) : CoAt v g (S.1, S.2.1, S.2.2.1, S.2.2.2.1, S.2.2.2.2.1, (L, f), S.2.2.2.2.2.2) := by
  have e0 := e g (by omega) (by omega) (by omega) (by omega)
  have q := fun j a b => e j a b
  refine ⟨by rw [e0]; exact h.k0, by rw [e0]; exact h.k1, by rw [e0]; exact h.k2, by rw [e0]; exact h.k3, by rw [e0]; exact h.k4, by rw [e0]; exact h.k5, by rw [e0]; exact h.k6, by rw [e0]; exact h.k7, by rw [e0]; exact h.k8, h.car.keep (e _ (by omega) (by omega) (by omega) (by omega)) (e _ (by omega) (by omega) (by omega) (by omega)) (e _ (by omega) (by omega) (by omega) (by omega)), by rw [e (g + 4) (by omega) (by omega) (by omega) (by omega)]; exact h.wks, fun k hk => (h.wk k hk).keep (e _ (by omega) (by omega) (by omega) (by omega)), h.pat.keep (e _ (by omega) (by omega) (by omega) (by omega)) (e _ (by omega) (by omega) (by omega) (by omega)) (e _ (by omega) (by omega) (by omega) (by omega)) (e _ (by omega) (by omega) (by omega) (by omega)), h.wor.keep (e _ (by omega) (by omega) (by omega) (by omega)) (e _ (by omega) (by omega) (by omega) (by omega)) (e _ (by omega) (by omega) (by omega) (by omega)) (e _ (by omega) (by omega) (by omega) (by omega)), h.tape.keep (e _ (by omega) (by omega) (by omega) (by omega)) (e _ (by omega) (by omega) (by omega) (by omega)), hr, h.rn, h.rd⟩
theorem CoAt.setTape {w v : AH} {g : Nat} {S : Co} (h : CoAt w g S) {L : Nat} {f : Nat → Int32} (e : ∀ j, g ≤ j → j < g + 22 → j ≠ g + 13 → j ≠ g + 14 → hg v j = hg w j) (hr : RowAt v (g + 13) (g + 14) 50 L f) : CoAt v g (S.1, S.2.1, S.2.2.1, S.2.2.2.1, (L, f), S.2.2.2.2.2) := by
  have e0 := e g (by omega) (by omega) (by omega) (by omega)
  refine ⟨by rw [e0]; exact h.k0, by rw [e0]; exact h.k1, by rw [e0]; exact h.k2, by rw [e0]; exact h.k3, by rw [e0]; exact h.k4, by rw [e0]; exact h.k5, by rw [e0]; exact h.k6, by rw [e0]; exact h.k7, by rw [e0]; exact h.k8, h.car.keep (e _ (by omega) (by omega) (by omega) (by omega)) (e _ (by omega) (by omega) (by omega) (by omega)) (e _ (by omega) (by omega) (by omega) (by omega)), by rw [e (g + 4) (by omega) (by omega) (by omega) (by omega)]; exact h.wks, fun k hk => (h.wk k hk).keep (e _ (by omega) (by omega) (by omega) (by omega)), h.pat.keep (e _ (by omega) (by omega) (by omega) (by omega)) (e _ (by omega) (by omega) (by omega) (by omega)) (e _ (by omega) (by omega) (by omega) (by omega)) (e _ (by omega) (by omega) (by omega) (by omega)), h.wor.keep (e _ (by omega) (by omega) (by omega) (by omega)) (e _ (by omega) (by omega) (by omega) (by omega)) (e _ (by omega) (by omega) (by omega) (by omega)) (e _ (by omega) (by omega) (by omega) (by omega)), hr, h.wait.keep (e _ (by omega) (by omega) (by omega) (by omega)) (e _ (by omega) (by omega) (by omega) (by omega)), h.rn, h.rd⟩
theorem j_tell (a : Int32) : JO M_X11_tell M_X12_tell [.int a] := by
  apply JO.mk
  intro W X I A hC hM
  have hD := hM.now
  have hN := hC.now
  have rv := hD.rv
  have hr : RowAt W 48 49 20 X.1.wait.1 X.1.wait.2 := hN.wait
  have g5 : gf (hg W 33) 1 5 = some (.ref 48) := hN.k5
  have ad := s_Row_add hr a 60
  by_cases q : X.1.wait.1 < 20
  · rw [if_pos q] at ad
    have h2 := hr.set (L2 := X.1.wait.1 + 1) (g := upd X.1.wait.2 X.1.wait.1 a) (by omega)
    have F : Fr (CoP 33) W (setRow W 48 49 20 (X.1.wait.1 + 1) (upd X.1.wait.2 X.1.wait.1 a)) := setRow_fr _ _ _ _ _ _ ⟨by omega, by omega⟩ ⟨by omega, by omega⟩
    have g5' : gf (hg (setRow W 48 49 20 (X.1.wait.1 + 1) (upd X.1.wait.2 X.1.wait.1 a)) 33) 1 5 = some (.ref 48) := by rw [setRow_ne _ _ _ _ _ _ (by decide) (by decide)]; exact g5
    have f0' : gf (hg (setRow W 48 49 20 (X.1.wait.1 + 1) (upd X.1.wait.2 X.1.wait.1 a)) 32) 10 0 = some (.ref 33) := by rw [setRow_ne _ _ _ _ _ _ (by decide) (by decide)]; exact hC.f0
    refine ⟨nI (X.1.wait.1 + 1), ((X.1.1, X.1.2.1, X.1.2.2.1, X.1.2.2.2.1, X.1.2.2.2.2.1, (X.1.wait.1 + 1, upd X.1.wait.2 X.1.wait.1 a), X.1.2.2.2.2.2.2), X.2), ⟨_, ?_, hC.setNow F (hN.setWait (fun j _ _ h1 h2 => setRow_ne _ _ _ _ _ _ h1 h2) h2), F.wide CxP_co⟩, fun w => ⟨I, upA A 0 (upd (upd (A 0) (99 + X.1.wait.1) a) 4 (nI (X.1.wait.1 + 1))), ?_, hM.set0 ?_⟩⟩
    · simp only [C_X11_tell, R_X11_tell, SB, hC.f0, hC.f1, hC.f2, hC.f3, hC.f4, hC.f5, hC.f6, hC.f7, hC.f8, hC.f9, clK_gf hC.f0, s_isKnot, s_isColour, s_isKindAndM, s_isUse, iw_1, iw_3, iw_6, iw_7, iw_99, iw_100, iw_255, s_rf1 hC, s_rf2 hC, s_rf3 hC, s_rf4 hC, s_rf5 hC, bI_e0, bI_n0, b_ft, bI_01, bI_t, bI_f, i10, i01, if_true, if_false, Bool.true_eq_false, Bool.false_eq_true, or_true, true_or, not_true_eq_false, not_false_eq_true, ls1s, g5, clK_gf hr.1, ad, f0', g5', h2.2.1]
    · have e5 : (nI X.1.wait.1 = (20 : Int32)) = False := by rw [show (20 : Int32) = nI 20 from rfl, eq_nI (by omega) (by decide)]; apply eq_false; omega
      have e6 : upd (A 0) (99 + X.1.wait.1) a 4 = nI X.1.wait.1 := (upd_n (by omega)).trans hD.wn
      simp (disch := omega) only [C_X12_tell, R_X12_tell, SB, mw_o, mw_a, mo_g, mo_p, mo_pz, mw_so, mw_sa, upA_eq, upA_upA, upd_upd, m_isKnot, m_isSheet, mi_1, mi_3, mi_5, mi_6, mi_7, mi_69, mi_99, mi_100, mi_255, m_f1, m_f2, m_f3, m_f4, m_f5, bI_e0, bI_n0, b_ft, bI_01, bI_t, bI_f, i10, i01, if_true, if_false, Bool.true_eq_false, Bool.false_eq_true, or_true, true_or, not_true_eq_false, not_false_eq_true, ls1s, aI_l, uI_l, uI_0, hD.wn, e5, lit_add, e6, nI_1, upd_s]
    · have u : ∀ j, j ≠ 4 → (∀ i, j ≠ 99 + i ∨ i ≠ X.1.wait.1) → upd (upd (A 0) (99 + X.1.wait.1) a) 4 (nI (X.1.wait.1 + 1)) j = A 0 j := fun j h1 h2 => by
        rw [upd_n h1, upd_n (by rcases h2 X.1.wait.1 with x | x <;> omega)]
      have tx : ∀ u t, u < 2 → TxR (A 0) u t → TxR (upd (upd (A 0) (99 + X.1.wait.1) a) 4 (nI (X.1.wait.1 + 1))) u t := by
        intro u0 t hu ht
        have e1 : (fun k => upd (upd (A 0) (99 + X.1.wait.1) a) 4 (nI (X.1.wait.1 + 1)) (119 + 50 * u0 + k)) = (fun k => A 0 (119 + 50 * u0 + k)) := funext (fun k => u _ (by omega) (fun i => by omega))
        unfold TxR
        rw [e1, u (97 + u0) (by omega) (fun i => by omega)]
        exact ht
      refine ⟨(u _ (by omega) (fun i => by omega)).trans hD.nw, (u _ (by omega) (fun i => by omega)).trans hD.day, (u _ (by omega) (fun i => by omega)).trans hD.z, (u _ (by omega) (fun i => by omega)).trans hD.tn, upd_s _ _ _, fun k hk => (u _ (by omega) (fun i => by omega)).trans (hD.col k hk), fun k hk => (u _ (by omega) (fun i => by omega)).trans (hD.wear k hk), fun i hi x hx => (u _ (by have := hD.rn; have h2 : i < X.1.nw := hi; omega) (fun i2 => by have := hD.rn; have h2 : i < X.1.nw := hi; omega)).trans (hD.wk i hi x hx), tx 0 _ (by decide) hD.pat, tx 1 _ (by decide) hD.wor, ?_, fun k hk => (u _ (by omega) (fun i => by omega)).trans (hD.tp k hk), hD.rc, hD.rw, hD.rk, hD.rn, hD.rd, hD.rt, by show X.1.wait.1 + 1 ≤ 20; omega, hD.tb⟩
      intro k hk
      show upd (upd (A 0) (99 + X.1.wait.1) a) 4 (nI (X.1.wait.1 + 1)) (99 + k) = upd X.1.wait.2 X.1.wait.1 a k
      have hk : k < X.1.wait.1 + 1 := hk
      rw [upd_n (by omega)]
      by_cases z : k = X.1.wait.1
      · subst z; rw [upd_s, upd_s]
      · rw [upd_n (by omega), upd_n z]; exact hD.wt k (by omega)
  · rw [if_neg q] at ad
    have e5 : (nI X.1.wait.1 = (20 : Int32)) = True := by rw [show (20 : Int32) = nI 20 from rfl, eq_nI (by omega) (by decide)]; apply eq_true; omega
    refine JS.er hC hM (k := 4) (by decide) ?_ (fun w => ?_)
    · simp only [C_X11_tell, R_X11_tell, SB, hC.f0, hC.f1, hC.f2, hC.f3, hC.f4, hC.f5, hC.f6, hC.f7, hC.f8, hC.f9, clK_gf hC.f0, s_isKnot, s_isColour, s_isKindAndM, s_isUse, iw_1, iw_3, iw_6, iw_7, iw_99, iw_100, iw_255, s_rf1 hC, s_rf2 hC, s_rf3 hC, s_rf4 hC, s_rf5 hC, bI_e0, bI_n0, b_ft, bI_01, bI_t, bI_f, i10, i01, if_true, if_false, Bool.true_eq_false, Bool.false_eq_true, or_true, true_or, not_true_eq_false, not_false_eq_true, ls1s, g5, clK_gf hr.1, ad]
    · simp (disch := omega) only [C_X12_tell, R_X12_tell, SB, mw_o, mw_a, mo_g, mo_p, mo_pz, mw_so, mw_sa, upA_eq, upA_upA, upd_upd, m_isKnot, m_isSheet, mi_1, mi_3, mi_5, mi_6, mi_7, mi_69, mi_99, mi_100, mi_255, m_f1, m_f2, m_f3, m_f4, m_f5, bI_e0, bI_n0, b_ft, bI_01, bI_t, bI_f, i10, i01, if_true, if_false, Bool.true_eq_false, Bool.false_eq_true, or_true, true_or, not_true_eq_false, not_false_eq_true, ls1s, aI_l, hD.wn, e5]
