/-! ===== pairs: mend, mends, days ===== -/
def mnS (S : Co) (n : Nat) : Co := S.upd3 (fun j => if j < n ∧ S.col j = 0 then ptN S j else S.col j) S.wear S.wk
theorem mnS_0 (S : Co) : mnS S 0 = S := by
  have e1 : (fun j => if j < 0 ∧ S.col j = 0 then ptN S j else S.col j) = S.1 := by funext j; rw [if_neg (by omega)]; rfl
  unfold mnS Co.upd3
  rw [e1]
  rfl
theorem mnS_c (S : Co) (k : Nat) : (mnS S k).col k = S.col k := by
  show (if k < k ∧ S.col k = 0 then _ else _) = _
  rw [if_neg (by omega)]
theorem mnS_y (S : Co) (k : Nat) (h : S.col k = 0) : (mnS S k).upd3 (updN (mnS S k).col k (ptN S k)) (mnS S k).wear (mnS S k).wk = mnS S (k + 1) := by
  have e1 : updN (mnS S k).col k (ptN S k) = (fun j => if j < k + 1 ∧ S.col j = 0 then ptN S j else S.col j) := by
    funext j
    show (if j = k then ptN S k else if j < k ∧ S.col j = 0 then ptN S j else S.col j) = _
    by_cases q : j = k
    · subst q; simp [h]
    · by_cases q2 : j < k
      · simp [q, q2, show j < k + 1 by omega]
      · simp [q, q2, show ¬ j < k + 1 by omega]
  rw [e1]
  rfl
theorem mnS_n (S : Co) (k : Nat) (h : S.col k ≠ 0) : mnS S k = mnS S (k + 1) := by
  have e1 : (fun j => if j < k ∧ S.col j = 0 then ptN S j else S.col j) = (fun j => if j < k + 1 ∧ S.col j = 0 then ptN S j else S.col j) := by
    funext j
    by_cases q : j = k
    · subst q; simp [h]
    · by_cases q2 : j < k
      · simp [q2, show j < k + 1 by omega]
      · simp [q2, show ¬ j < k + 1 by omega]
  unfold mnS
  rw [e1]
theorem j_mend : JO M_X11_mend M_X12_mend [] := by
  apply JO.mk
  intro W X I A hC hM
  have ho := s_countHoles hC.now.car 60
  obtain ⟨V, l1, l2, l3⟩ := loopE (fun k (u : AH) => Ex M_X11_mend 60 13 [some (.ref 32), some (.int (nI (hoN X.1))), some (.int (nI k))] [] u) (fun k u => ClAt u (mnS X.1 k, X.2) ∧ Fr CxP W u) 36 (by
    intro k u hk hI
    obtain ⟨hC, hF⟩ := hI
    have e1 : ((36 : Int32) ≤ nI k) = False := by rw [show (36 : Int32) = nI 36 from rfl, le_nI (by decide) (by omega)]; simp; omega
    have co : Call M_X0_colourOf 60 [.ref 34, .int (nI k)] u = some (some (.int (nI ((mnS X.1 k).col k))), u) := s_colourOf hC.now.car hk 60
    rw [mnS_c] at co
    have g1 : gf (hg u 33) 1 0 = some (.ref 34) := hC.now.k0
    have k1 : clK (hg u 34) = 0 := clK_gf hC.now.car.p0
    have r0 := hC.f0
    have cl : X.1.col k < 8 := by have := hC.now.car.r0 k hk; have : (mnS X.1 k).col k < 8 := this; rwa [mnS_c] at this
    by_cases q : X.1.col k = 0
    · obtain ⟨v1, p1, p2, p3⟩ := hC.patternOf hk 60
      have p1 : Call M_X1_patternOf 60 [.ref 33, .int (nI k)] u = some (some (.int (nI (ptN X.1 k))), v1) := p1
      obtain ⟨v2, b1, b2, b3⟩ := p2.colour hk (ptN_lt X.1 k) 60
      have k2 : clK (hg v1 34) = 0 := clK_gf p2.now.car.p0
      refine ⟨v2, ?_, ?_, (hF.trans p3).trans (b3.wide CxP_co)⟩
      · rw [H_X11_mend_13]
        simp (disch := omega) only [R_X11_mend, SB, e1, lit_le, le_lit, lit_lt, lt_lit, eq_lit, le_nI, lt_nI, eq_nI, lit_add, add_lit, nI_add, lit_sub, sub_lit, sub_nI, lit_mul, mul_lit, pk_mul, div_lit, nI_c, aI_a, aI_l, uI_0, uI_l, aB_2, uB_2, bI_e0, bI_e1, bI_n0, bI_n1, bI_01, b_ft, i10, i01, bI_t, bI_f, if_true, if_false, dec_t, dec_f, Bool.true_eq_false, Bool.false_eq_true, or_true, true_or, not_true_eq_false, not_false_eq_true, r0, g1, k1, co, q, clK_gf hC.now.k0, p1, k2, b1, ls1s]
      · rw [← mnS_y _ _ q]; exact b2
    · refine ⟨u, ?_, ?_, hF⟩
      · rw [H_X11_mend_13]
        simp (disch := omega) only [R_X11_mend, SB, e1, lit_le, le_lit, lit_lt, lt_lit, eq_lit, le_nI, lt_nI, eq_nI, lit_add, add_lit, nI_add, lit_sub, sub_lit, sub_nI, lit_mul, mul_lit, pk_mul, div_lit, nI_c, aI_a, aI_l, uI_0, uI_l, aB_2, uB_2, bI_e0, bI_e1, bI_n0, bI_n1, bI_01, b_ft, i10, i01, bI_t, bI_f, if_true, if_false, dec_t, dec_f, Bool.true_eq_false, Bool.false_eq_true, or_true, true_or, not_true_eq_false, not_false_eq_true, r0, g1, k1, co, q, ls1s]
      · rw [← mnS_n _ _ q]; exact hC) W ⟨by rw [mnS_0]; exact hC, Fr.refl _ _⟩
  refine ⟨nI (hoN X.1), (mnS X.1 36, X.2), ⟨V, ?_, l2, l3⟩, fun w => ?_⟩
  · have ho : Call M_X0_countHoles 60 [.ref 34] W = some (some (.int (nI (hoN X.1))), W) := ho
    have g1 : gf (hg W 33) 1 0 = some (.ref 34) := hC.now.k0
    have k1 : clK (hg W 34) = 0 := clK_gf hC.now.car.p0
    simp only [C_X11_mend, R_X11_mend, SB, hC.f0, hC.f1, hC.f2, hC.f3, hC.f4, hC.f5, hC.f6, hC.f7, hC.f8, hC.f9, clK_gf hC.f0, s_isKnot, s_isColour, s_isKindAndM, s_isUse, iw_1, iw_3, iw_6, iw_7, iw_99, iw_100, iw_255, s_rf1 hC, s_rf2 hC, s_rf3 hC, s_rf4 hC, s_rf5 hC, bI_e0, bI_n0, b_ft, bI_01, bI_t, bI_f, i10, i01, if_true, if_false, Bool.true_eq_false, Bool.false_eq_true, or_true, true_or, not_true_eq_false, not_false_eq_true, ls1s, g1, k1, ho, show (0 : Int32) = nI 0 from rfl]
    refine (show _ = _ from rfl).trans (l1.trans ?_)
    rw [H_X11_mend_13]
    simp only [R_X11_mend, SB, show ((36 : Int32) ≤ nI 36) = True from by rw [show (36 : Int32) = nI 36 from rfl]; simp, if_true]
  · have ho := m_holes (I := I) hM.now w 60
    obtain ⟨⟨J2, B2⟩, m1, m2, m3, m4⟩ := loopE (fun k (s : (Nat → Int32) × (Nat → Nat → Int32)) => Ex M_X12_mend 60 7 [some (.ref 123), some (.int (nI (hoN X.1))), some (.int (nI k))] [] (mw w s.1 s.2)) (fun k s => DR (s.2 0) (mnS X.1 k) ∧ (∀ k, k < 5 ∨ 10 < k → s.1 k = I k) ∧ ∀ j, j ≠ 0 → j ≠ 4 → s.2 j = A j) 36 (by
      intro k s hk hI
      obtain ⟨J, B⟩ := s
      obtain ⟨i1, i2, i3⟩ := hI
      have i1 : DR (B 0) (mnS X.1 k) := i1
      have e1 : ((36 : Int32) ≤ nI k) = False := by rw [show (36 : Int32) = nI 36 from rfl, le_nI (by decide) (by omega)]; simp; omega
      have cc : B 0 (5 + k) = nI (X.1.col k) := by rw [i1.col k hk, mnS_c]
      have cl : X.1.col k < 8 := by have := i1.rc k hk; rwa [mnS_c] at this
      by_cases q : X.1.col k = 0
      · obtain ⟨J2, B2, p1, p2⟩ := m_patternOf (w := w) (I := J) i1 hk 60
        have p1 : Call M_X12_patternOf 60 [.ref 123, .int (nI k)] (mw w J B) = some (some (.int (nI (ptN X.1 k))), mw w J2 B2) := p1
        have hD2 : DR (B2 0) (mnS X.1 k) := by rw [p2.a0]; exact i1
        have d1 := hD2.setC hk (ptN_lt X.1 k)
        have d2 : DR (upd (B2 0) (5 + k) (nI (ptN X.1 k))) (mnS X.1 (k + 1)) := by rw [← mnS_y _ _ q]; exact d1
        refine ⟨(J2, upA B2 0 (upd (B2 0) (5 + k) (nI (ptN X.1 k)))), ?_, d2, fun j hj => (p2.1 j hj).trans (i2 j hj), fun j h1 h2 => (upA_n h1).trans ((p2.2 j h2).trans (i3 j h1 h2))⟩
        rw [H_X12_mend_7]
        simp (disch := omega) only [R_X12_mend, SB, mw_o, mw_a, mo_g, mo_p, mo_pz, mw_so, mw_sa, upA_eq, upA_upA, upd_upd, lit_le, le_lit, lit_lt, lt_lit, eq_lit, le_nI, lt_nI, eq_nI, lit_add, add_lit, nI_add, lit_sub, sub_lit, sub_nI, lit_mul, mul_lit, pk_mul, div_lit, nI_c, aI_a, aI_l, uI_0, uI_l, aB_2, uB_2, bI_e0, bI_e1, bI_n0, bI_n1, bI_01, b_ft, i10, i01, bI_t, bI_f, if_true, if_false, dec_t, dec_f, Bool.true_eq_false, Bool.false_eq_true, or_true, true_or, not_true_eq_false, not_false_eq_true, e1, cc, q, p1, ls1s]
      · refine ⟨(J, B), ?_, by rw [← mnS_n _ _ q]; exact i1, i2, i3⟩
        have same : upd (B 0) (5 + k) (nI (X.1.col k)) = B 0 := by
          funext j; unfold upd; split
          · rename_i g; rw [g, cc]
          · rfl
        rw [H_X12_mend_7]
        simp (disch := omega) only [R_X12_mend, SB, mw_o, mw_a, mo_g, mo_p, mo_pz, mw_so, mw_sa, upA_eq, upA_upA, upd_upd, lit_le, le_lit, lit_lt, lt_lit, eq_lit, le_nI, lt_nI, eq_nI, lit_add, add_lit, nI_add, lit_sub, sub_lit, sub_nI, lit_mul, mul_lit, pk_mul, div_lit, nI_c, aI_a, aI_l, uI_0, uI_l, aB_2, uB_2, bI_e0, bI_e1, bI_n0, bI_n1, bI_01, b_ft, i10, i01, bI_t, bI_f, if_true, if_false, dec_t, dec_f, Bool.true_eq_false, Bool.false_eq_true, or_true, true_or, not_true_eq_false, not_false_eq_true, e1, cc, q, ls1s, same, upA_same]) (I, A) ⟨by rw [mnS_0]; exact hM.now, fun _ _ => rfl, fun _ _ _ => rfl⟩
    refine ⟨J2, B2, ?_, hM.setNow m2 (m3 2 (by omega)) (m3 21 (by omega)) (fun j hj => m4 j (by omega) (by omega))⟩
    simp only [C_X12_mend, R_X12_mend, SB, mw_o, mw_a, mo_g, mo_p, mo_pz, mw_so, mw_sa, upA_eq, upA_upA, upd_upd, m_isKnot, m_isSheet, mi_1, mi_3, mi_5, mi_6, mi_7, mi_69, mi_99, mi_100, mi_255, m_f1, m_f2, m_f3, m_f4, m_f5, bI_e0, bI_n0, b_ft, bI_01, bI_t, bI_f, i10, i01, if_true, if_false, Bool.true_eq_false, Bool.false_eq_true, or_true, true_or, not_true_eq_false, not_false_eq_true, ls1s, ho, show (0 : Int32) = nI 0 from rfl]
    refine (show _ = _ from rfl).trans (m1.trans ?_)
    rw [H_X12_mend_7]
    simp only [R_X12_mend, SB, show ((36 : Int32) ≤ nI 36) = True from by rw [show (36 : Int32) = nI 36 from rfl]; simp, if_true]
theorem mi17 (x : Int32) (w : AH) (lv : Nat) : Call M_X12_in lv [.long x.toInt64, .long 1, .long 7] w = some (some (.int (bI (decide (1 ≤ x.toInt ∧ x.toInt ≤ 7)))), w) := by rw [s_m_in, i64_of]; rfl
theorem j_mends (a : Int32) : JO M_X11_mends M_X12_mends [.int a] := by
  apply JO.mk
  intro W X I A hC hM
  by_cases q : 1 ≤ a.toInt ∧ a.toInt ≤ 7
  · obtain ⟨c, k1, k2, rfl⟩ : ∃ k : Nat, 1 ≤ k ∧ k < 8 ∧ a = nI k := ⟨a.toInt.toNat, by omega, by omega, nI_nat (by omega)⟩
    have q1 : inR (nI c) 8 = true := by rw [inR_nI (by omega)]; exact decide_eq_true k2
    have q2 : (nI c = (0 : Int32)) = False := by rw [show (0 : Int32) = nI 0 from rfl, eq_nI (by omega) (by decide)]; apply eq_false; omega
    obtain ⟨v, a1, a2, a3⟩ := s_countMends hC.now k2 60
    refine ⟨nI (cnt (mdB X.1 c) 36), X, ⟨v, ?_, hC.same a3 a2, a3.wide CxP_st⟩, fun w => ?_⟩
    · simp only [C_X11_mends, R_X11_mends, SB, hC.f0, hC.f1, hC.f2, hC.f3, hC.f4, hC.f5, hC.f6, hC.f7, hC.f8, hC.f9, clK_gf hC.f0, s_isKnot, s_isColour, s_isKindAndM, s_isUse, iw_1, iw_3, iw_6, iw_7, iw_99, iw_100, iw_255, s_rf1 hC, s_rf2 hC, s_rf3 hC, s_rf4 hC, s_rf5 hC, bI_e0, bI_n0, b_ft, bI_01, bI_t, bI_f, i10, i01, if_true, if_false, Bool.true_eq_false, Bool.false_eq_true, or_true, true_or, not_true_eq_false, not_false_eq_true, ls1s, q1, q2, clK_gf hC.now.k0, a1]
    · obtain ⟨⟨J, B⟩, h1, h2⟩ := loopE (fun k (s : (Nat → Int32) × (Nat → Nat → Int32)) => Ex M_X12_mends 60 22 [some (.ref 123), some (.int (nI c)), some (.int (nI (cnt (mdB X.1 c) k))), some (.int (nI k))] [] (mw w s.1 s.2)) (fun _ s => Kp I A s.1 s.2) 36 (by
        intro k s hk hI
        obtain ⟨J, B⟩ := s
        have hI : Kp I A J B := hI
        have hB : DR (B 0) X.1 := by rw [hI.a0]; exact hM.now
        have hc := hB.rc k hk
        have e1 : ((36 : Int32) ≤ nI k) = False := by rw [show (36 : Int32) = nI 36 from rfl, le_nI (by decide) (by omega)]; simp; omega
        by_cases q : X.1.col k = 0
        · obtain ⟨J2, B2, p1, p2⟩ := m_patternOf (w := w) (I := J) hB hk 60
          have hp := ptN_lt X.1 k
          refine ⟨(J2, B2), ?_, hI.trans p2⟩
          by_cases q2 : ptN X.1 k = c
          · have z : mdB X.1 c k = true := decide_eq_true ⟨q, q2⟩
            rw [H_X12_mends_22, cnt_s, z]
            simp (disch := omega) only [R_X12_mends, SB, mw_o, mw_a, mo_g, mo_p, mo_pz, mw_so, mw_sa, upA_eq, upA_upA, upd_upd, lit_le, le_lit, lit_lt, lt_lit, eq_lit, le_nI, lt_nI, eq_nI, lit_add, add_lit, nI_add, lit_sub, sub_lit, sub_nI, lit_mul, mul_lit, pk_mul, div_lit, nI_c, aI_a, aI_l, uI_0, uI_l, aB_2, uB_2, bI_e0, bI_e1, bI_n0, bI_n1, bI_01, b_ft, i10, i01, bI_t, bI_f, if_true, if_false, dec_t, dec_f, Bool.true_eq_false, Bool.false_eq_true, or_true, true_or, not_true_eq_false, not_false_eq_true, e1, hB.col k hk, q, p1, eq_true q2, ls1s, Nat.add_zero]
          · have z : mdB X.1 c k = false := decide_eq_false (fun x => q2 x.2)
            rw [H_X12_mends_22, cnt_s, z]
            simp (disch := omega) only [R_X12_mends, SB, mw_o, mw_a, mo_g, mo_p, mo_pz, mw_so, mw_sa, upA_eq, upA_upA, upd_upd, lit_le, le_lit, lit_lt, lt_lit, eq_lit, le_nI, lt_nI, eq_nI, lit_add, add_lit, nI_add, lit_sub, sub_lit, sub_nI, lit_mul, mul_lit, pk_mul, div_lit, nI_c, aI_a, aI_l, uI_0, uI_l, aB_2, uB_2, bI_e0, bI_e1, bI_n0, bI_n1, bI_01, b_ft, i10, i01, bI_t, bI_f, if_true, if_false, dec_t, dec_f, Bool.true_eq_false, Bool.false_eq_true, or_true, true_or, not_true_eq_false, not_false_eq_true, e1, hB.col k hk, q, p1, eq_false q2, ls1s, Nat.add_zero]
        · have z : mdB X.1 c k = false := decide_eq_false (fun x => q x.1)
          refine ⟨(J, B), ?_, hI⟩
          rw [H_X12_mends_22, cnt_s, z]
          simp (disch := omega) only [R_X12_mends, SB, mw_o, mw_a, mo_g, mo_p, mo_pz, mw_so, mw_sa, upA_eq, upA_upA, upd_upd, lit_le, le_lit, lit_lt, lt_lit, eq_lit, le_nI, lt_nI, eq_nI, lit_add, add_lit, nI_add, lit_sub, sub_lit, sub_nI, lit_mul, mul_lit, pk_mul, div_lit, nI_c, aI_a, aI_l, uI_0, uI_l, aB_2, uB_2, bI_e0, bI_e1, bI_n0, bI_n1, bI_01, b_ft, i10, i01, bI_t, bI_f, if_true, if_false, dec_t, dec_f, Bool.true_eq_false, Bool.false_eq_true, or_true, true_or, not_true_eq_false, not_false_eq_true, e1, hB.col k hk, q, ls1s, Nat.add_zero]) (I, A) (Kp.refl _ _)
      refine ⟨J, B, ?_, hM.kq h2⟩
      simp only [C_X12_mends, R_X12_mends, SB, mw_o, mw_a, mo_g, mo_p, mo_pz, mw_so, mw_sa, upA_eq, upA_upA, upd_upd, m_isKnot, m_isSheet, mi_1, mi_3, mi_5, mi_6, mi_7, mi_69, mi_99, mi_100, mi_255, m_f1, m_f2, m_f3, m_f4, m_f5, bI_e0, bI_n0, b_ft, bI_01, bI_t, bI_f, i10, i01, if_true, if_false, Bool.true_eq_false, Bool.false_eq_true, or_true, true_or, not_true_eq_false, not_false_eq_true, ls1s, mi17, q, and_self, decide_true, show (0 : Int32) = nI 0 from rfl]
      refine (show _ = _ from rfl).trans (h1.trans ?_)
      rw [H_X12_mends_22]
      simp only [R_X12_mends, SB, show ((36 : Int32) ≤ nI 36) = True from by rw [show (36 : Int32) = nI 36 from rfl]; simp, if_true]
  · refine JS.er hC hM (k := 1) (by decide) ?_ (fun w => ?_)
    · by_cases q1 : inR a 8 = true
      · have q2 : (a = (0 : Int32)) = True := by
          obtain ⟨c, c1, c2, rfl⟩ := inR_of q1
          rw [nI_t (by omega)] at q
          rw [show (0 : Int32) = nI 0 from rfl, eq_nI (by omega) (by decide)]; apply eq_true; omega
        simp only [C_X11_mends, R_X11_mends, SB, hC.f0, hC.f1, hC.f2, hC.f3, hC.f4, hC.f5, hC.f6, hC.f7, hC.f8, hC.f9, clK_gf hC.f0, s_isKnot, s_isColour, s_isKindAndM, s_isUse, iw_1, iw_3, iw_6, iw_7, iw_99, iw_100, iw_255, s_rf1 hC, s_rf2 hC, s_rf3 hC, s_rf4 hC, s_rf5 hC, bI_e0, bI_n0, b_ft, bI_01, bI_t, bI_f, i10, i01, if_true, if_false, Bool.true_eq_false, Bool.false_eq_true, or_true, true_or, not_true_eq_false, not_false_eq_true, ls1s, q1, q2]
        first | done | simp [show inR (0 : Int32) 8 = true from by decide]
      · simp only [C_X11_mends, R_X11_mends, SB, hC.f0, hC.f1, hC.f2, hC.f3, hC.f4, hC.f5, hC.f6, hC.f7, hC.f8, hC.f9, clK_gf hC.f0, s_isKnot, s_isColour, s_isKindAndM, s_isUse, iw_1, iw_3, iw_6, iw_7, iw_99, iw_100, iw_255, s_rf1 hC, s_rf2 hC, s_rf3 hC, s_rf4 hC, s_rf5 hC, bI_e0, bI_n0, b_ft, bI_01, bI_t, bI_f, i10, i01, if_true, if_false, Bool.true_eq_false, Bool.false_eq_true, or_true, true_or, not_true_eq_false, not_false_eq_true, ls1s, inR_f q1]
    · simp only [C_X12_mends, R_X12_mends, SB, mw_o, mw_a, mo_g, mo_p, mo_pz, mw_so, mw_sa, upA_eq, upA_upA, upd_upd, m_isKnot, m_isSheet, mi_1, mi_3, mi_5, mi_6, mi_7, mi_69, mi_99, mi_100, mi_255, m_f1, m_f2, m_f3, m_f4, m_f5, bI_e0, bI_n0, b_ft, bI_01, bI_t, bI_f, i10, i01, if_true, if_false, Bool.true_eq_false, Bool.false_eq_true, or_true, true_or, not_true_eq_false, not_false_eq_true, ls1s, mi17, q, decide_false]
