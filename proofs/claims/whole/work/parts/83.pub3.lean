/-! ===== pairs: patterns, laws ===== -/
/-- a loop of the model that thinks: I, A may change as Kp has it -/
theorem Kp.a0 {I J : Nat → Int32} {A B : Nat → Nat → Int32} (h : Kp I A J B) : B 0 = A 0 := h.2 0 (by decide)
theorem cnt_s (P : Nat → Bool) (n : Nat) : cnt P (n + 1) = cnt P n + if P n = true then 1 else 0 := rfl
theorem m_slips {S : Co} {I : Nat → Int32} {A : Nat → Nat → Int32} (h : DR (A 0) S) (w : AH) (lv : Nat) : ∃ J B, Call M_X12_slips lv [.ref 123] (mw w I A) = some (some (.int (nI (cnt (slB S) 36))), mw w J B) ∧ Kp I A J B := by
  obtain ⟨⟨J, B⟩, h1, h2⟩ := loopE (fun k (s : (Nat → Int32) × (Nat → Nat → Int32)) => Ex M_X12_slips lv 4 [some (.ref 123), some (.int (nI (cnt (slB S) k))), some (.int (nI k))] [] (mw w s.1 s.2)) (fun _ s => Kp I A s.1 s.2) 36 (by
    intro k s hk hI
    obtain ⟨J, B⟩ := s
    have hI : Kp I A J B := hI
    have hB : DR (B 0) S := by rw [hI.a0]; exact h
    have hc := h.rc k hk
    have e1 : ((36 : Int32) ≤ nI k) = False := by rw [show (36 : Int32) = nI 36 from rfl, le_nI (by decide) (by omega)]; simp; omega
    by_cases q : S.col k = 0
    · have z : slB S k = false := decide_eq_false (fun x => x.1 q)
      refine ⟨(J, B), ?_, hI⟩
      rw [H_X12_slips_4, cnt_s, z]
      simp (disch := omega) only [R_X12_slips, SB, mw_o, mw_a, mo_g, mo_p, mo_pz, mw_so, mw_sa, upA_eq, upA_upA, upd_upd, lit_le, le_lit, lit_lt, lt_lit, eq_lit, le_nI, lt_nI, eq_nI, lit_add, add_lit, nI_add, lit_sub, sub_lit, sub_nI, lit_mul, mul_lit, pk_mul, div_lit, nI_c, aI_a, aI_l, uI_0, uI_l, aB_2, uB_2, bI_e0, bI_e1, bI_n0, bI_n1, bI_01, b_ft, i10, i01, bI_t, bI_f, if_true, if_false, dec_t, dec_f, Bool.true_eq_false, Bool.false_eq_true, or_true, true_or, not_true_eq_false, not_false_eq_true, e1, hB.col k hk, q, ls1s, Nat.add_zero]
    · obtain ⟨J2, B2, p1, p2⟩ := m_patternOf (w := w) (I := J) hB hk 60
      have hp := ptN_lt S k
      refine ⟨(J2, B2), ?_, hI.trans p2⟩
      by_cases q2 : S.col k = ptN S k
      · have z : slB S k = false := decide_eq_false (fun x => x.2 q2)
        rw [H_X12_slips_4, cnt_s, z]
        simp (disch := omega) only [R_X12_slips, SB, mw_o, mw_a, mo_g, mo_p, mo_pz, mw_so, mw_sa, upA_eq, upA_upA, upd_upd, lit_le, le_lit, lit_lt, lt_lit, eq_lit, le_nI, lt_nI, eq_nI, lit_add, add_lit, nI_add, lit_sub, sub_lit, sub_nI, lit_mul, mul_lit, pk_mul, div_lit, nI_c, aI_a, aI_l, uI_0, uI_l, aB_2, uB_2, bI_e0, bI_e1, bI_n0, bI_n1, bI_01, b_ft, i10, i01, bI_t, bI_f, if_true, if_false, dec_t, dec_f, Bool.true_eq_false, Bool.false_eq_true, or_true, true_or, not_true_eq_false, not_false_eq_true, e1, hB.col k hk, q, p1, eq_true q2, ls1s, Nat.add_zero]
      · have z : slB S k = true := decide_eq_true ⟨q, q2⟩
        rw [H_X12_slips_4, cnt_s, z]
        simp (disch := omega) only [R_X12_slips, SB, mw_o, mw_a, mo_g, mo_p, mo_pz, mw_so, mw_sa, upA_eq, upA_upA, upd_upd, lit_le, le_lit, lit_lt, lt_lit, eq_lit, le_nI, lt_nI, eq_nI, lit_add, add_lit, nI_add, lit_sub, sub_lit, sub_nI, lit_mul, mul_lit, pk_mul, div_lit, nI_c, aI_a, aI_l, uI_0, uI_l, aB_2, uB_2, bI_e0, bI_e1, bI_n0, bI_n1, bI_01, b_ft, i10, i01, bI_t, bI_f, if_true, if_false, dec_t, dec_f, Bool.true_eq_false, Bool.false_eq_true, or_true, true_or, not_true_eq_false, not_false_eq_true, e1, hB.col k hk, q, p1, eq_false q2, ls1s, Nat.add_zero]) (I, A) (Kp.refl _ _)
  refine ⟨J, B, ?_, h2⟩
  simp only [C_X12_slips, R_X12_slips, SB, ls1s, show (0 : Int32) = nI 0 from rfl]
  refine (show _ = _ from rfl).trans (h1.trans ?_)
  rw [H_X12_slips_4]
  simp only [R_X12_slips, SB, show ((36 : Int32) ≤ nI 36) = True from by rw [show (36 : Int32) = nI 36 from rfl]; simp, if_true]
theorem j_slips : JO M_X11_slips M_X12_slips [] := by
  apply JO.mk
  intro W X I A hC hM
  obtain ⟨v, a1, a2, a3⟩ := s_countSlips hC.now 60
  refine ⟨nI (cnt (slB X.1) 36), X, ⟨v, ?_, hC.same a3 a2, a3.wide CxP_st⟩, fun w => ?_⟩
  · simp only [C_X11_slips, R_X11_slips, SB, hC.f0, hC.f1, hC.f2, hC.f3, hC.f4, hC.f5, hC.f6, hC.f7, hC.f8, hC.f9, clK_gf hC.f0, s_isKnot, s_isColour, s_isKindAndM, s_isUse, iw_1, iw_3, iw_6, iw_7, iw_99, iw_100, iw_255, s_rf1 hC, s_rf2 hC, s_rf3 hC, s_rf4 hC, s_rf5 hC, bI_e0, bI_n0, b_ft, bI_01, bI_t, bI_f, i10, i01, if_true, if_false, Bool.true_eq_false, Bool.false_eq_true, or_true, true_or, not_true_eq_false, not_false_eq_true, ls1s, clK_gf hC.now.k0, a1]
  · obtain ⟨J, B, b1, b2⟩ := m_slips (I := I) hM.now w 60
    exact ⟨J, B, b1, hM.kq b2⟩
/-- all knots below n as the pattern tells -/
def wvS (S : Co) (n : Nat) : Co := S.upd3 (fun j => if j < n then ptN S j else S.col j) (fun j => if j < n then 0 else S.wear j) S.wk
theorem pt_upd (S : Co) (c w : Nat → Nat) (wk : Nat → Nat → Nat) (k : Nat) : ptN (S.upd3 c w wk) k = ptN S k := rfl
theorem wvS_0 (S : Co) : wvS S 0 = S := by
  have e1 : (fun j => if j < 0 then ptN S j else S.col j) = S.1 := by funext j; rw [if_neg (by omega)]; rfl
  have e2 : (fun j => if j < 0 then 0 else S.wear j) = S.2.1 := by funext j; rw [if_neg (by omega)]; rfl
  unfold wvS Co.upd3
  rw [e1, e2]
  rfl
theorem wvS_s (S : Co) (k : Nat) : ((wvS S k).upd3 (updN (wvS S k).col k (ptN S k)) (wvS S k).wear (wvS S k).wk).upd3 (updN (wvS S k).col k (ptN S k)) (updN (wvS S k).wear k 0) (wvS S k).wk = wvS S (k + 1) := by
  have e1 : updN (wvS S k).col k (ptN S k) = (fun j => if j < k + 1 then ptN S j else S.col j) := by
    funext j
    show (if j = k then ptN S k else if j < k then ptN S j else S.col j) = _
    by_cases q : j = k
    · subst q; simp
    · by_cases q2 : j < k
      · simp [q, q2, show j < k + 1 by omega]
      · simp [q, q2, show ¬ j < k + 1 by omega]
  have e2 : updN (wvS S k).wear k 0 = (fun j => if j < k + 1 then 0 else S.wear j) := by
    funext j
    show (if j = k then 0 else if j < k then 0 else S.wear j) = _
    by_cases q : j = k
    · subst q; simp
    · by_cases q2 : j < k
      · simp [q, q2, show j < k + 1 by omega]
      · simp [q, q2, show ¬ j < k + 1 by omega]
  rw [e1, e2]
  rfl
theorem ClAt.patternOf {W : AH} {X : Cx} (hC : ClAt W X) {k : Nat} (hk : k < 36) (lv : Nat) : ∃ V, Call M_X1_patternOf lv [.ref 33, .int (nI k)] W = some (some (.int (nI (ptN X.1 k))), V) ∧ ClAt V X ∧ Fr CxP W V := by
  obtain ⟨v, a1, a2, a3⟩ := s_patternOf hC.now hk lv
  exact ⟨v, a1, hC.same a3 a2, a3.wide CxP_st⟩
theorem j_weave : JO M_X11_weave M_X12_weave [] := by
  apply JO.mk
  intro W X I A hC hM
  obtain ⟨v, a1, a2, a3⟩ := s_countSlips hC.now 60
  have hC1 := hC.same a3 a2
  obtain ⟨V, l1, l2, l3⟩ := loopE (fun k (u : AH) => Ex M_X11_weave 60 10 [some (.ref 32), some (.int (nI (cnt (slB X.1) 36))), some (.int (nI k))] [] u) (fun k u => ClAt u (wvS X.1 k, X.2) ∧ Fr CxP W u) 36 (by
    intro k u hk hI
    obtain ⟨hC, hF⟩ := hI
    have e1 : ((36 : Int32) ≤ nI k) = False := by rw [show (36 : Int32) = nI 36 from rfl, le_nI (by decide) (by omega)]; simp; omega
    obtain ⟨v1, p1, p2, p3⟩ := hC.patternOf hk 60
    have p1 : Call M_X1_patternOf 60 [.ref 33, .int (nI k)] u = some (some (.int (nI (ptN X.1 k))), v1) := p1
    have r0 := hC.f0
    have r1 := p2.f0
    obtain ⟨v2, b1, b2, b3⟩ := p2.colour hk (ptN_lt X.1 k) 60
    obtain ⟨v3, c1, c2, c3⟩ := b2.wearing hk (show 0 < 100 by decide) 60
    have r2 := b2.f0
    refine ⟨v3, ?_, ?_, ((hF.trans p3).trans (b3.wide CxP_co)).trans (c3.wide CxP_co)⟩
    · have g1 : gf (hg u 33) 1 0 = some (.ref 34) := hC.now.k0
      have g2 : gf (hg v2 33) 1 0 = some (.ref 34) := b2.now.k0
      have k1 : clK (hg v1 34) = 0 := clK_gf p2.now.car.p0
      have k2 : clK (hg v2 34) = 0 := clK_gf b2.now.car.p0
      rw [H_X11_weave_10]
      simp only [R_X11_weave, SB, e1, if_false, if_true, r0, r1, r2, g1, g2, clK_gf hC.now.k0, p1, k1, k2, b1, show (0 : Int32) = nI 0 from rfl, c1, ls1s, nI_1]
    · rw [← wvS_s]
      exact c2) v ⟨by rw [wvS_0]; exact hC1, a3.wide CxP_st⟩
  refine ⟨nI (cnt (slB X.1) 36), (wvS X.1 36, X.2), ⟨V, ?_, l2, l3⟩, fun w => ?_⟩
  · simp only [C_X11_weave, R_X11_weave, SB, hC.f0, hC.f1, hC.f2, hC.f3, hC.f4, hC.f5, hC.f6, hC.f7, hC.f8, hC.f9, clK_gf hC.f0, s_isKnot, s_isColour, s_isKindAndM, s_isUse, iw_1, iw_3, iw_6, iw_7, iw_99, iw_100, iw_255, s_rf1 hC, s_rf2 hC, s_rf3 hC, s_rf4 hC, s_rf5 hC, bI_e0, bI_n0, b_ft, bI_01, bI_t, bI_f, i10, i01, if_true, if_false, Bool.true_eq_false, Bool.false_eq_true, or_true, true_or, not_true_eq_false, not_false_eq_true, ls1s, clK_gf hC.now.k0, a1, show (0 : Int32) = nI 0 from rfl]
    refine (show _ = _ from rfl).trans (l1.trans ?_)
    rw [H_X11_weave_10]
    simp only [R_X11_weave, SB, show ((36 : Int32) ≤ nI 36) = True from by rw [show (36 : Int32) = nI 36 from rfl]; simp, if_true]
  · obtain ⟨J, B, b1, b2⟩ := m_slips (I := I) hM.now w 60
    have hD : DR (B 0) X.1 := by rw [b2.a0]; exact hM.now
    obtain ⟨⟨J2, B2⟩, m1, m2, m3, m4⟩ := loopE (fun k (s : (Nat → Int32) × (Nat → Nat → Int32)) => Ex M_X12_weave 60 7 [some (.ref 123), some (.int (nI (cnt (slB X.1) 36))), some (.int (nI k))] [] (mw w s.1 s.2)) (fun k s => DR (s.2 0) (wvS X.1 k) ∧ (∀ k, k < 5 ∨ 10 < k → s.1 k = I k) ∧ ∀ j, j ≠ 0 → j ≠ 4 → s.2 j = A j) 36 (by
      intro k s hk hI
      obtain ⟨J, B⟩ := s
      obtain ⟨i1, i2, i3⟩ := hI
      have i1 : DR (B 0) (wvS X.1 k) := i1
      have e1 : ((36 : Int32) ≤ nI k) = False := by rw [show (36 : Int32) = nI 36 from rfl, le_nI (by decide) (by omega)]; simp; omega
      obtain ⟨J2, B2, p1, p2⟩ := m_patternOf (w := w) (I := J) i1 hk 60
      have p1 : Call M_X12_patternOf 60 [.ref 123, .int (nI k)] (mw w J B) = some (some (.int (nI (ptN X.1 k))), mw w J2 B2) := p1
      have hD2 : DR (B2 0) (wvS X.1 k) := by rw [p2.a0]; exact i1
      have d1 := hD2.setC hk (ptN_lt X.1 k)
      have d2 := d1.setW hk (show 0 < 100 by decide)
      have d2 : DR (upd (upd (B2 0) (5 + k) (nI (ptN X.1 k))) (41 + k) (nI 0)) (wvS X.1 (k + 1)) := by rw [← wvS_s]; exact d2
      refine ⟨(J2, upA B2 0 (upd (upd (B2 0) (5 + k) (nI (ptN X.1 k))) (41 + k) (nI 0))), ?_, d2, fun j hj => (p2.1 j hj).trans (i2 j hj), fun j h1 h2 => (upA_n h1).trans ((p2.2 j h2).trans (i3 j h1 h2))⟩
      rw [H_X12_weave_7]
      simp (disch := omega) only [R_X12_weave, SB, mw_o, mw_a, mo_g, mo_p, mo_pz, mw_so, mw_sa, upA_eq, upA_upA, upd_upd, e1, if_false, if_true, p1, lit_add, uI_0, ls1s, nI_1, show (0 : Int32) = nI 0 from rfl]) (J, B) ⟨by rw [wvS_0]; exact hD, b2.1, fun j _ h => b2.2 j h⟩
    refine ⟨J2, B2, ?_, hM.setNow m2 (m3 2 (by omega)) (m3 21 (by omega)) (fun j hj => m4 j (by omega) (by omega))⟩
    simp only [C_X12_weave, R_X12_weave, SB, mw_o, mw_a, mo_g, mo_p, mo_pz, mw_so, mw_sa, upA_eq, upA_upA, upd_upd, m_isKnot, m_isSheet, mi_1, mi_3, mi_5, mi_6, mi_7, mi_69, mi_99, mi_100, mi_255, m_f1, m_f2, m_f3, m_f4, m_f5, bI_e0, bI_n0, b_ft, bI_01, bI_t, bI_f, i10, i01, if_true, if_false, Bool.true_eq_false, Bool.false_eq_true, or_true, true_or, not_true_eq_false, not_false_eq_true, ls1s, b1, show (0 : Int32) = nI 0 from rfl]
    refine (show _ = _ from rfl).trans (m1.trans ?_)
    rw [H_X12_weave_7]
    simp only [R_X12_weave, SB, show ((36 : Int32) ≤ nI 36) = True from by rw [show (36 : Int32) = nI 36 from rfl]; simp, if_true]
theorem j_law (u a b c : Int32) : JO M_X11_law M_X12_law [.int u, .int a, .int b, .int c] := by
  apply JO.mk
  intro W X I A hC hM
  by_cases q : inR u 2 = true
  · obtain ⟨m, m1, m2, rfl⟩ := inR_of q
    obtain hm : m = 0 ∨ m = 1 := by omega
    rcases hm with rfl | rfl
    · obtain ⟨v, a1, a2, a3⟩ := s_given0 hC.now a b c 60
      refine ⟨nI (gv0 X.1 a b c), X, ⟨v, ?_, hC.same a3 a2, a3.wide CxP_st⟩, fun w => ?_⟩
      · simp only [C_X11_law, R_X11_law, SB, hC.f0, hC.f1, hC.f2, hC.f3, hC.f4, hC.f5, hC.f6, hC.f7, hC.f8, hC.f9, clK_gf hC.f0, s_isKnot, s_isColour, s_isKindAndM, s_isUse, iw_1, iw_3, iw_6, iw_7, iw_99, iw_100, iw_255, s_rf1 hC, s_rf2 hC, s_rf3 hC, s_rf4 hC, s_rf5 hC, bI_e0, bI_n0, b_ft, bI_01, bI_t, bI_f, i10, i01, if_true, if_false, Bool.true_eq_false, Bool.false_eq_true, or_true, true_or, not_true_eq_false, not_false_eq_true, ls1s, q, clK_gf hC.now.k0, show nI 0 = (0 : Int32) from rfl, a1]
        first | done | simp [show inR (0 : Int32) 2 = true from by decide]
      · obtain ⟨J, B, b1, b2⟩ := m_given0 (w := w) (I := I) hM.now a b c 60
        refine ⟨J, B, ?_, hM.kq b2⟩
        simp only [C_X12_law, R_X12_law, SB, mw_o, mw_a, mo_g, mo_p, mo_pz, mw_so, mw_sa, upA_eq, upA_upA, upd_upd, m_isKnot, m_isSheet, mi_1, mi_3, mi_5, mi_6, mi_7, mi_69, mi_99, mi_100, mi_255, m_f1, m_f2, m_f3, m_f4, m_f5, bI_e0, bI_n0, b_ft, bI_01, bI_t, bI_f, i10, i01, if_true, if_false, Bool.true_eq_false, Bool.false_eq_true, or_true, true_or, not_true_eq_false, not_false_eq_true, ls1s, show nI 0 = (0 : Int32) from rfl, show inR (0 : Int32) 2 = true from by decide, b1]
    · obtain ⟨v, a1, a2, a3⟩ := s_given1 hC.now a b c 60
      refine ⟨nI (gv1 X.1 a b c), X, ⟨v, ?_, hC.same a3 a2, a3.wide CxP_st⟩, fun w => ?_⟩
      · simp only [C_X11_law, R_X11_law, SB, hC.f0, hC.f1, hC.f2, hC.f3, hC.f4, hC.f5, hC.f6, hC.f7, hC.f8, hC.f9, clK_gf hC.f0, s_isKnot, s_isColour, s_isKindAndM, s_isUse, iw_1, iw_3, iw_6, iw_7, iw_99, iw_100, iw_255, s_rf1 hC, s_rf2 hC, s_rf3 hC, s_rf4 hC, s_rf5 hC, bI_e0, bI_n0, b_ft, bI_01, bI_t, bI_f, i10, i01, if_true, if_false, Bool.true_eq_false, Bool.false_eq_true, or_true, true_or, not_true_eq_false, not_false_eq_true, ls1s, clK_gf hC.now.k0, show nI 1 = (1 : Int32) from rfl, show inR (1 : Int32) 2 = true from by decide, a1]
      · obtain ⟨J, B, b1, b2⟩ := m_given1 (w := w) (I := I) hM.now a b c 60
        refine ⟨J, B, ?_, hM.kq b2⟩
        simp only [C_X12_law, R_X12_law, SB, mw_o, mw_a, mo_g, mo_p, mo_pz, mw_so, mw_sa, upA_eq, upA_upA, upd_upd, m_isKnot, m_isSheet, mi_1, mi_3, mi_5, mi_6, mi_7, mi_69, mi_99, mi_100, mi_255, m_f1, m_f2, m_f3, m_f4, m_f5, bI_e0, bI_n0, b_ft, bI_01, bI_t, bI_f, i10, i01, if_true, if_false, Bool.true_eq_false, Bool.false_eq_true, or_true, true_or, not_true_eq_false, not_false_eq_true, ls1s, show nI 1 = (1 : Int32) from rfl, show inR (1 : Int32) 2 = true from by decide, b1]
  · refine JS.er hC hM (k := 1) (by decide) ?_ (fun w => ?_)
    · simp only [C_X11_law, R_X11_law, SB, hC.f0, hC.f1, hC.f2, hC.f3, hC.f4, hC.f5, hC.f6, hC.f7, hC.f8, hC.f9, clK_gf hC.f0, s_isKnot, s_isColour, s_isKindAndM, s_isUse, iw_1, iw_3, iw_6, iw_7, iw_99, iw_100, iw_255, s_rf1 hC, s_rf2 hC, s_rf3 hC, s_rf4 hC, s_rf5 hC, bI_e0, bI_n0, b_ft, bI_01, bI_t, bI_f, i10, i01, if_true, if_false, Bool.true_eq_false, Bool.false_eq_true, or_true, true_or, not_true_eq_false, not_false_eq_true, ls1s, inR_f q]
    · simp only [C_X12_law, R_X12_law, SB, mw_o, mw_a, mo_g, mo_p, mo_pz, mw_so, mw_sa, upA_eq, upA_upA, upd_upd, m_isKnot, m_isSheet, mi_1, mi_3, mi_5, mi_6, mi_7, mi_69, mi_99, mi_100, mi_255, m_f1, m_f2, m_f3, m_f4, m_f5, bI_e0, bI_n0, b_ft, bI_01, bI_t, bI_f, i10, i01, if_true, if_false, Bool.true_eq_false, Bool.false_eq_true, or_true, true_or, not_true_eq_false, not_false_eq_true, ls1s, inR_f q]
