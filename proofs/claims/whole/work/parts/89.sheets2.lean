/-! ===== pairs: write, move, colours, judge ===== -/
theorem bitsN0 {b : Nat} (hb : b = 0 ∨ b = 8 ∨ b = 16 ∨ b = 32) : (nI b = (0 : Int32)) = (b = 0) := by
  rw [show (0 : Int32) = nI 0 from rfl, eq_nI (by omega) (by decide)]
theorem ms_in {n : Nat} (hn : n < 1000) (x : Int32) (w : AH) (lv : Nat) : Call M_X12_in lv [.long x.toInt64, .long 0, .long (nI n - 1).toInt64] w = some (some (.int (bI (inR x n))), w) := s_m_inR x _ n (pk_m1n hn) w lv
theorem j_write (a b c : Int32) : JO M_X11_write M_X12_write [.int a, .int b, .int c] := by
  apply JO.mk
  intro W X I A hC hM
  by_cases q1 : inR a 4 = true
  · obtain ⟨k, k1, k2, rfl⟩ := inR_of q1
    have so := s_sheetOf hC q1 k1 60
    have sh := hC.she k k1
    have mi := s_Sheet_missing sh 60
    have rb := sh.rb
    have rn := sh.rn
    have e0 := bitsN0 rb
    have b0 := hM.shb k k1
    have n0 := hM.shn k k1
    generalize hbt : (X.2.2.2.2.2 k).1 = bt at *
    generalize hnn : (X.2.2.2.2.2 k).2.1 = nn at *
    generalize hFF : (X.2.2.2.2.2 k).2.2 = FF at *
    by_cases qm : bt = 0
    · refine JS.er hC hM (k := 2) (by decide) ?_ (fun w => ?_)
      · simp only [C_X11_write, R_X11_write, SB, hC.f0, hC.f1, hC.f2, hC.f3, hC.f4, hC.f5, hC.f6, hC.f7, hC.f8, hC.f9, clK_gf hC.f0, s_isKnot, s_isColour, s_isKindAndM, s_isUse, iw_1, iw_3, iw_6, iw_7, iw_99, iw_100, iw_255, s_rf1 hC, s_rf2 hC, s_rf3 hC, s_rf4 hC, s_rf5 hC, bI_e0, bI_n0, b_ft, bI_01, bI_t, bI_f, i10, i01, if_true, if_false, Bool.true_eq_false, Bool.false_eq_true, or_true, true_or, not_true_eq_false, not_false_eq_true, ls1s, so, clK_gf sh.p0, mi, qm, decide_true]
      · simp (disch := omega) only [C_X12_write, R_X12_write_p0, R_X12_write_p1, SB, mw_o, mw_a, mo_g, mo_p, mo_pz, mw_so, mw_sa, upA_eq, upA_upA, upd_upd, m_isKnot, m_isSheet, mi_1, mi_3, mi_5, mi_6, mi_7, mi_69, mi_99, mi_100, mi_255, m_f1, m_f2, m_f3, m_f4, m_f5, bI_e0, bI_n0, b_ft, bI_01, bI_t, bI_f, i10, i01, if_true, if_false, Bool.true_eq_false, Bool.false_eq_true, or_true, true_or, not_true_eq_false, not_false_eq_true, ls1s, q1, aI_a, b0, e0, eq_true qm]
    · have hb : bt = 8 ∨ bt = 16 ∨ bt = 32 := by omega
      have has := s_Sheet_has sh b 60
      by_cases q2 : inR b nn = true
      · obtain ⟨i, i1, i2, rfl⟩ := inR_of q2
        obtain ⟨e, s1, s2⟩ := s_Sheet_set sh i1 c 60
        have shv := hM.shv k k1
        have shr := hM.shr k k1
        rw [hbt, hnn, hFF] at shv shr
        refine ⟨1, _, ⟨_, ?_, hC.setSheet k1 (Fr.hs (Or.inr rfl) e) s2, (Fr.hs ⟨by omega, by omega⟩ _)⟩, fun w => ⟨I, upA A 12 (upd (A 12) (40 * k + i) (sxI bt c)), ?_, hM.setSheet hC k1 rn (fun j hj => upA_n (by omega)) (fun j hj => ?_) (fun j hj => ?_) (fun j hj => ?_) (fun j hj => upd_n (by omega)) (fun j hj => ?_)⟩⟩
        · simp only [C_X11_write, R_X11_write, SB, hC.f0, hC.f1, hC.f2, hC.f3, hC.f4, hC.f5, hC.f6, hC.f7, hC.f8, hC.f9, clK_gf hC.f0, s_isKnot, s_isColour, s_isKindAndM, s_isUse, iw_1, iw_3, iw_6, iw_7, iw_99, iw_100, iw_255, s_rf1 hC, s_rf2 hC, s_rf3 hC, s_rf4 hC, s_rf5 hC, bI_e0, bI_n0, b_ft, bI_01, bI_t, bI_f, i10, i01, if_true, if_false, Bool.true_eq_false, Bool.false_eq_true, or_true, true_or, not_true_eq_false, not_false_eq_true, ls1s, so, clK_gf sh.p0, mi, qm, decide_false, has, q2, s1]
        · have nb := ms_in (show nn < 1000 by omega) (nI i)
          rcases hb with rfl | rfl | rfl
          · simp (disch := omega) only [C_X12_write, R_X12_write_p0, R_X12_write_p1, SB, mw_o, mw_a, mo_g, mo_p, mo_pz, mw_so, mw_sa, upA_eq, upA_upA, upd_upd, m_isKnot, m_isSheet, mi_1, mi_3, mi_5, mi_6, mi_7, mi_69, mi_99, mi_100, mi_255, m_f1, m_f2, m_f3, m_f4, m_f5, bI_e0, bI_n0, b_ft, bI_01, bI_t, bI_f, i10, i01, if_true, if_false, Bool.true_eq_false, Bool.false_eq_true, or_true, true_or, not_true_eq_false, not_false_eq_true, ls1s, q1, aI_a, b0, n0, nb, q2, lit_mul, nI_add, show (nI 8 = (0 : Int32)) = False from by decide, show (nI 8 = (8 : Int32)) = True from by decide, uI_0]
            rfl
          · simp (disch := omega) only [C_X12_write, R_X12_write_p0, R_X12_write_p1, SB, mw_o, mw_a, mo_g, mo_p, mo_pz, mw_so, mw_sa, upA_eq, upA_upA, upd_upd, m_isKnot, m_isSheet, mi_1, mi_3, mi_5, mi_6, mi_7, mi_69, mi_99, mi_100, mi_255, m_f1, m_f2, m_f3, m_f4, m_f5, bI_e0, bI_n0, b_ft, bI_01, bI_t, bI_f, i10, i01, if_true, if_false, Bool.true_eq_false, Bool.false_eq_true, or_true, true_or, not_true_eq_false, not_false_eq_true, ls1s, q1, aI_a, b0, n0, nb, q2, lit_mul, nI_add, show (nI 16 = (0 : Int32)) = False from by decide, show (nI 16 = (8 : Int32)) = False from by decide, show (nI 16 = (16 : Int32)) = True from by decide, uI_0]
            rfl
          · simp (disch := omega) only [C_X12_write, R_X12_write_p0, R_X12_write_p1, SB, mw_o, mw_a, mo_g, mo_p, mo_pz, mw_so, mw_sa, upA_eq, upA_upA, upd_upd, m_isKnot, m_isSheet, mi_1, mi_3, mi_5, mi_6, mi_7, mi_69, mi_99, mi_100, mi_255, m_f1, m_f2, m_f3, m_f4, m_f5, bI_e0, bI_n0, b_ft, bI_01, bI_t, bI_f, i10, i01, if_true, if_false, Bool.true_eq_false, Bool.false_eq_true, or_true, true_or, not_true_eq_false, not_false_eq_true, ls1s, q1, aI_a, b0, n0, nb, q2, lit_mul, nI_add, show (nI 32 = (0 : Int32)) = False from by decide, show (nI 32 = (8 : Int32)) = False from by decide, show (nI 32 = (16 : Int32)) = False from by decide, uI_0]
            rfl
        · rw [upA_n (by decide)]
          by_cases z : j = k
          · subst z; rw [if_pos rfl, b0]
          · rw [if_neg z]
        · rw [upA_n (by decide)]
          by_cases z : j = k
          · subst z; rw [if_pos rfl, n0]
          · rw [if_neg z]
        · show upd (A 12) (40 * k + i) (sxI bt c) (40 * k + j) = sxI bt (upd FF i (mskI bt c) j)
          by_cases z : j = i
          · subst z; rw [upd_s, upd_s, sx_msk hb]
          · rw [upd_n (by omega), upd_n z]; exact shv j hj
        · show mskI bt (upd FF i (mskI bt c) j) = upd FF i (mskI bt c) j
          by_cases z : j = i
          · subst z; rw [upd_s, msk_msk hb]
          · rw [upd_n z]; exact shr j hj
      · have nb := ms_in (show nn < 1000 by omega) b
        refine JS.er hC hM (k := 1) (by decide) ?_ (fun w => ?_)
        · simp only [C_X11_write, R_X11_write, SB, hC.f0, hC.f1, hC.f2, hC.f3, hC.f4, hC.f5, hC.f6, hC.f7, hC.f8, hC.f9, clK_gf hC.f0, s_isKnot, s_isColour, s_isKindAndM, s_isUse, iw_1, iw_3, iw_6, iw_7, iw_99, iw_100, iw_255, s_rf1 hC, s_rf2 hC, s_rf3 hC, s_rf4 hC, s_rf5 hC, bI_e0, bI_n0, b_ft, bI_01, bI_t, bI_f, i10, i01, if_true, if_false, Bool.true_eq_false, Bool.false_eq_true, or_true, true_or, not_true_eq_false, not_false_eq_true, ls1s, so, clK_gf sh.p0, mi, qm, decide_false, has, inR_f q2]
        · simp (disch := omega) only [C_X12_write, R_X12_write_p0, R_X12_write_p1, SB, mw_o, mw_a, mo_g, mo_p, mo_pz, mw_so, mw_sa, upA_eq, upA_upA, upd_upd, m_isKnot, m_isSheet, mi_1, mi_3, mi_5, mi_6, mi_7, mi_69, mi_99, mi_100, mi_255, m_f1, m_f2, m_f3, m_f4, m_f5, bI_e0, bI_n0, b_ft, bI_01, bI_t, bI_f, i10, i01, if_true, if_false, Bool.true_eq_false, Bool.false_eq_true, or_true, true_or, not_true_eq_false, not_false_eq_true, ls1s, q1, aI_a, b0, e0, qm, n0, nb, inR_f q2]
  · have so := s_sheetOf_n hC q1 60
    refine JS.er hC hM (k := 1) (by decide) ?_ (fun w => ?_)
    · simp only [C_X11_write, R_X11_write, SB, hC.f0, hC.f1, hC.f2, hC.f3, hC.f4, hC.f5, hC.f6, hC.f7, hC.f8, hC.f9, clK_gf hC.f0, s_isKnot, s_isColour, s_isKindAndM, s_isUse, iw_1, iw_3, iw_6, iw_7, iw_99, iw_100, iw_255, s_rf1 hC, s_rf2 hC, s_rf3 hC, s_rf4 hC, s_rf5 hC, bI_e0, bI_n0, b_ft, bI_01, bI_t, bI_f, i10, i01, if_true, if_false, Bool.true_eq_false, Bool.false_eq_true, or_true, true_or, not_true_eq_false, not_false_eq_true, ls1s, so]
    · simp only [C_X12_write, R_X12_write_p0, R_X12_write_p1, SB, mw_o, mw_a, mo_g, mo_p, mo_pz, mw_so, mw_sa, upA_eq, upA_upA, upd_upd, m_isKnot, m_isSheet, mi_1, mi_3, mi_5, mi_6, mi_7, mi_69, mi_99, mi_100, mi_255, m_f1, m_f2, m_f3, m_f4, m_f5, bI_e0, bI_n0, b_ft, bI_01, bI_t, bI_f, i10, i01, if_true, if_false, Bool.true_eq_false, Bool.false_eq_true, or_true, true_or, not_true_eq_false, not_false_eq_true, ls1s, inR_f q1]
/-- how many of the first m numbers from i on are colours -/
def coN (F : Nat → Int32) : Nat → Nat → Nat
  | 0, i => i
  | m + 1, i => if inR (F i) 8 = true then coN F m (i + 1) else i
def coS (S : Co) (F : Nat → Int32) : Nat → Nat → Co
  | 0, _ => S
  | m + 1, i => if inR (F i) 8 = true then coS (S.upd3 (updN S.col i (F i).toNatClampNeg) S.wear S.wk) F m (i + 1) else S
theorem coS_day : ∀ m i (S : Co) (F : Nat → Int32), (coS S F m i).day = S.day := by
  intro m
  induction m with
  | zero => intro i S F; rfl
  | succ m ih =>
    intro i S F
    unfold coS
    split
    · rw [ih]; rfl
    · rfl
theorem j_colours (a : Int32) : JO M_X11_colours M_X12_colours [.int a] := by
  apply JO.mk
  intro W X I A hC hM
  by_cases q1 : inR a 4 = true
  · obtain ⟨k, k1, k2, rfl⟩ := inR_of q1
    have so := s_sheetOf hC q1 k1 60
    have sh := hC.she k k1
    have mi := s_Sheet_missing sh 60
    have rb := sh.rb
    have rn := sh.rn
    have e0 := bitsN0 rb
    have b0 := hM.shb k k1
    have n0 := hM.shn k k1
    have shv := hM.shv k k1
    have shr := hM.shr k k1
    generalize hbt : (X.2.2.2.2.2 k).1 = bt at *
    generalize hnn : (X.2.2.2.2.2 k).2.1 = nn at *
    generalize hFF : (X.2.2.2.2.2 k).2.2 = FF at *
    by_cases qm : bt = 0
    · refine JS.er hC hM (k := 2) (by decide) ?_ (fun w => ?_)
      · simp only [C_X11_colours, R_X11_colours, SB, hC.f0, hC.f1, hC.f2, hC.f3, hC.f4, hC.f5, hC.f6, hC.f7, hC.f8, hC.f9, clK_gf hC.f0, s_isKnot, s_isColour, s_isKindAndM, s_isUse, iw_1, iw_3, iw_6, iw_7, iw_99, iw_100, iw_255, s_rf1 hC, s_rf2 hC, s_rf3 hC, s_rf4 hC, s_rf5 hC, bI_e0, bI_n0, b_ft, bI_01, bI_t, bI_f, i10, i01, if_true, if_false, Bool.true_eq_false, Bool.false_eq_true, or_true, true_or, not_true_eq_false, not_false_eq_true, ls1s, so, clK_gf sh.p0, mi, qm, decide_true]
      · simp (disch := omega) only [C_X12_colours, R_X12_colours_p0, R_X12_colours_p1, SB, mw_o, mw_a, mo_g, mo_p, mo_pz, mw_so, mw_sa, upA_eq, upA_upA, upd_upd, m_isKnot, m_isSheet, mi_1, mi_3, mi_5, mi_6, mi_7, mi_69, mi_99, mi_100, mi_255, m_f1, m_f2, m_f3, m_f4, m_f5, bI_e0, bI_n0, b_ft, bI_01, bI_t, bI_f, i10, i01, if_true, if_false, Bool.true_eq_false, Bool.false_eq_true, or_true, true_or, not_true_eq_false, not_false_eq_true, ls1s, q1, aI_a, b0, e0, eq_true qm]
    · have hb : bt = 8 ∨ bt = 16 ∨ bt = 32 := by omega
      -- the class
      have cl : ∀ m i u S, i + m = min nn 36 → ClAt u (S, X.2) → ∃ U, Ex M_X11_colours 60 33 [some (.ref 32), some (.int (nI k)), some (.ref (115 + 2 * k)), some (.int (nI i))] [] u = some (some (.int (nI (coN FF m i))), U) ∧ ClAt U (coS S FF m i, X.2) ∧ Fr CxP u U := by
        intro m
        induction m with
        | zero =>
          intro i u S hi hu
          have su := hu.she k k1
          rw [show ((S, X.2) : Cx).2.2.2.2.2 k = X.2.2.2.2.2 k from rfl, hbt, hnn, hFF] at su
          refine ⟨u, ?_, hu, Fr.refl _ _⟩
          rw [H_X11_colours_33]
          by_cases z : 36 ≤ i
          · simp (disch := omega) only [R_X11_colours, SB, lit_le, eq_true z, if_true, coN]
          · have hs1 := s_Sheet_has su (nI i) 60
            rw [inR_nI (by omega), decide_eq_false (show ¬ i < nn by omega)] at hs1
            simp (disch := omega) only [R_X11_colours, SB, lit_le, eq_false z, if_false, if_true, clK_gf su.p0, hs1, bI_f, coN]
        | succ m ih =>
          intro i u S hi hu
          have su := hu.she k k1
          rw [show ((S, X.2) : Cx).2.2.2.2.2 k = X.2.2.2.2.2 k from rfl, hbt, hnn, hFF] at su
          have z : ¬ 36 ≤ i := by omega
          have hs1 := s_Sheet_has su (nI i) 60
          rw [inR_nI (by omega), decide_eq_true (show i < nn by omega)] at hs1
          have gs := s_Sheet_get su (show i < nn by omega) 60
          by_cases q : inR (FF i) 8 = true
          · obtain ⟨v, v1, v2, v3⟩ := inR_of q
            have vv : (FF i).toNatClampNeg = v := by rw [v3, nI_c v2]
            obtain ⟨u2, c1, c2, c3⟩ := hu.colour (k := i) (v := v) (by omega) v1 60
            obtain ⟨U, d1, d2, d3⟩ := ih (i + 1) u2 (S.upd3 (updN S.col i v) S.wear S.wk) (by omega) c2
            have e1 : coS S FF (m + 1) i = coS (S.upd3 (updN S.col i v) S.wear S.wk) FF m (i + 1) := by
              show (if _ then _ else _) = _; rw [if_pos q, vv]
            refine ⟨U, ?_, by rw [e1]; exact d2, (c3.wide CxP_co).trans d3⟩
            rw [show coN FF (m + 1) i = coN FF m (i + 1) from if_pos q, ← d1, H_X11_colours_33]
            have g0 : gf (hg u 33) 1 0 = some (.ref 34) := hu.now.k0
            have k34 : clK (hg u 34) = 0 := clK_gf hu.now.car.p0
            rw [v3] at gs q
            simp (disch := omega) only [R_X11_colours, SB, lit_le, eq_false z, if_false, if_true, clK_gf su.p0, hs1, bI_t, i10, gs, s_isColour, q, hu.f0, g0, k34, c1, ls1s, nI_1]
          · refine ⟨u, ?_, by rw [show coS S FF (m + 1) i = S from if_neg q]; exact hu, Fr.refl _ _⟩
            rw [show coN FF (m + 1) i = i from if_neg q, H_X11_colours_33]
            simp (disch := omega) only [R_X11_colours, SB, lit_le, eq_false z, if_false, if_true, clK_gf su.p0, hs1, bI_t, i10, gs, s_isColour, inR_f q, bI_f]
      obtain ⟨U, u1, u2, u3⟩ := cl (min nn 36) 0 W X.1 (by omega) hC
      refine ⟨nI (coN FF (min nn 36) 0), (coS X.1 FF (min nn 36) 0, X.2), ⟨U, ?_, u2, u3⟩, fun w => ?_⟩
      · simp only [C_X11_colours, R_X11_colours, SB, hC.f0, hC.f1, hC.f2, hC.f3, hC.f4, hC.f5, hC.f6, hC.f7, hC.f8, hC.f9, clK_gf hC.f0, s_isKnot, s_isColour, s_isKindAndM, s_isUse, iw_1, iw_3, iw_6, iw_7, iw_99, iw_100, iw_255, s_rf1 hC, s_rf2 hC, s_rf3 hC, s_rf4 hC, s_rf5 hC, bI_e0, bI_n0, b_ft, bI_01, bI_t, bI_f, i10, i01, if_true, if_false, Bool.true_eq_false, Bool.false_eq_true, or_true, true_or, not_true_eq_false, not_false_eq_true, ls1s, so, clK_gf sh.p0, mi, qm, decide_false]
        exact u1
      · have ml : ∀ m i D S, i + m = min nn 36 → DR D S → ∃ D2, Ex M_X12_colours 60 30 [some (.ref 123), some (.int (nI k)), some (.int (nI i))] [] (mw w I (upA A 0 D)) = some (some (.int (nI (coN FF m i))), mw w I (upA A 0 D2)) ∧ DR D2 (coS S FF m i) := by
          intro m
          induction m with
          | zero =>
            intro i D S hi hu
            refine ⟨D, ?_, hu⟩
            rw [H_X12_colours_30]
            by_cases z : nn ≤ i
            · simp (disch := omega) only [R_X12_colours_p0, R_X12_colours_p1, SB, mw_o, mw_a, mo_g, mo_p, mo_pz, mw_so, mw_sa, upA_eq, upA_upA, upd_upd, show ((11 : Nat) = 0) = False from by simp, aI_a, n0, le_nI, eq_true z, if_true, if_false, coN]
            · have z2 : 36 ≤ i := by omega
              simp (disch := omega) only [R_X12_colours_p0, R_X12_colours_p1, SB, mw_o, mw_a, mo_g, mo_p, mo_pz, mw_so, mw_sa, upA_eq, upA_upA, upd_upd, show ((11 : Nat) = 0) = False from by simp, aI_a, n0, le_nI, lit_le, eq_false z, eq_true z2, if_true, if_false, coN]
          | succ m ih =>
            intro i D S hi hu
            have z : ¬ nn ≤ i := by omega
            have z2 : ¬ 36 ≤ i := by omega
            have v0 := shv i (by omega)
            have si := sx_in hb (shr i (by omega))
            by_cases q : inR (FF i) 8 = true
            · obtain ⟨v, v1, v2, v3⟩ := inR_of q
              have vv : (FF i).toNatClampNeg = v := by rw [v3, nI_c v2]
              have sv : sxI bt (FF i) = nI v := by rw [sx_small hb (shr i (by omega)) (by omega)]; exact v3
              rw [sv] at v0 si
              rw [q] at si
              have d := hu.setC (k := i) (v := v) (by omega) v1
              obtain ⟨D2, d1, d2⟩ := ih (i + 1) _ (S.upd3 (updN S.col i v) S.wear S.wk) (by omega) d
              have e1 : coS S FF (m + 1) i = coS (S.upd3 (updN S.col i v) S.wear S.wk) FF m (i + 1) := by
                show (if _ then _ else _) = _; rw [if_pos q, vv]
              refine ⟨D2, ?_, by rw [e1]; exact d2⟩
              rw [show coN FF (m + 1) i = coN FF m (i + 1) from if_pos q, ← d1, H_X12_colours_30]
              simp (disch := omega) only [R_X12_colours_p0, R_X12_colours_p1, SB, mw_o, mw_a, mo_g, mo_p, mo_pz, mw_so, mw_sa, upA_eq, upA_upA, upd_upd, m_isKnot, m_isSheet, mi_1, mi_3, mi_5, mi_6, mi_7, mi_69, mi_99, mi_100, mi_255, m_f1, m_f2, m_f3, m_f4, m_f5, bI_e0, bI_n0, b_ft, bI_01, bI_t, bI_f, i10, i01, if_true, if_false, Bool.true_eq_false, Bool.false_eq_true, or_true, true_or, not_true_eq_false, not_false_eq_true, ls1s, show ((11 : Nat) = 0) = False from by simp, show ((12 : Nat) = 0) = False from by simp, aI_a, n0, le_nI, lit_le, eq_false z, eq_false z2, lit_mul, nI_add, lit_add, v0, si, uI_0, nI_1]
            · refine ⟨D, ?_, by rw [show coS S FF (m + 1) i = S from if_neg q]; exact hu⟩
              rw [inR_f q] at si
              rw [show coN FF (m + 1) i = i from if_neg q, H_X12_colours_30]
              simp (disch := omega) only [R_X12_colours_p0, R_X12_colours_p1, SB, mw_o, mw_a, mo_g, mo_p, mo_pz, mw_so, mw_sa, upA_eq, upA_upA, upd_upd, m_isKnot, m_isSheet, mi_1, mi_3, mi_5, mi_6, mi_7, mi_69, mi_99, mi_100, mi_255, m_f1, m_f2, m_f3, m_f4, m_f5, bI_e0, bI_n0, b_ft, bI_01, bI_t, bI_f, i10, i01, if_true, if_false, Bool.true_eq_false, Bool.false_eq_true, or_true, true_or, not_true_eq_false, not_false_eq_true, ls1s, show ((11 : Nat) = 0) = False from by simp, show ((12 : Nat) = 0) = False from by simp, aI_a, n0, le_nI, lit_le, eq_false z, eq_false z2, lit_mul, nI_add, lit_add, v0, si]
        obtain ⟨D2, d1, d2⟩ := ml (min nn 36) 0 (A 0) X.1 (by omega) hM.now
        rw [upA_same] at d1
        refine ⟨I, upA A 0 D2, ?_, hM.set0 d2 (Or.inl (coS_day _ _ _ _))⟩
        simp (disch := omega) only [C_X12_colours, R_X12_colours_p0, R_X12_colours_p1, SB, mw_o, mw_a, mo_g, mo_p, mo_pz, mw_so, mw_sa, upA_eq, upA_upA, upd_upd, m_isKnot, m_isSheet, mi_1, mi_3, mi_5, mi_6, mi_7, mi_69, mi_99, mi_100, mi_255, m_f1, m_f2, m_f3, m_f4, m_f5, bI_e0, bI_n0, b_ft, bI_01, bI_t, bI_f, i10, i01, if_true, if_false, Bool.true_eq_false, Bool.false_eq_true, or_true, true_or, not_true_eq_false, not_false_eq_true, ls1s, q1, aI_a, b0, e0, qm]
        exact d1
  · have so := s_sheetOf_n hC q1 60
    refine JS.er hC hM (k := 1) (by decide) ?_ (fun w => ?_)
    · simp only [C_X11_colours, R_X11_colours, SB, hC.f0, hC.f1, hC.f2, hC.f3, hC.f4, hC.f5, hC.f6, hC.f7, hC.f8, hC.f9, clK_gf hC.f0, s_isKnot, s_isColour, s_isKindAndM, s_isUse, iw_1, iw_3, iw_6, iw_7, iw_99, iw_100, iw_255, s_rf1 hC, s_rf2 hC, s_rf3 hC, s_rf4 hC, s_rf5 hC, bI_e0, bI_n0, b_ft, bI_01, bI_t, bI_f, i10, i01, if_true, if_false, Bool.true_eq_false, Bool.false_eq_true, or_true, true_or, not_true_eq_false, not_false_eq_true, ls1s, so]
    · simp only [C_X12_colours, R_X12_colours_p0, R_X12_colours_p1, SB, mw_o, mw_a, mo_g, mo_p, mo_pz, mw_so, mw_sa, upA_eq, upA_upA, upd_upd, m_isKnot, m_isSheet, mi_1, mi_3, mi_5, mi_6, mi_7, mi_69, mi_99, mi_100, mi_255, m_f1, m_f2, m_f3, m_f4, m_f5, bI_e0, bI_n0, b_ft, bI_01, bI_t, bI_f, i10, i01, if_true, if_false, Bool.true_eq_false, Bool.false_eq_true, or_true, true_or, not_true_eq_false, not_false_eq_true, ls1s, inR_f q1]
/-- the first of the numbers from i on that isn't the knot's colour -/
def jgR (col : Nat → Nat) (F : Nat → Int32) (nn : Nat) : Nat → Nat → Int32
  | 0, _ => if 36 < nn then 36 else -1
  | m + 1, i => if i < nn ∧ F i = nI (col i) then jgR col F nn m (i + 1) else nI i
theorem j_judge (a : Int32) : JO M_X11_judge M_X12_judge [.int a] := by
  apply JO.mk
  intro W X I A hC hM
  by_cases q1 : inR a 4 = true
  · obtain ⟨k, k1, k2, rfl⟩ := inR_of q1
    have so := s_sheetOf hC q1 k1 60
    have sh := hC.she k k1
    have mi := s_Sheet_missing sh 60
    have rb := sh.rb
    have rn := sh.rn
    have e0 := bitsN0 rb
    have b0 := hM.shb k k1
    have n0 := hM.shn k k1
    have shv := hM.shv k k1
    have shr := hM.shr k k1
    have hD := hM.now
    generalize hbt : (X.2.2.2.2.2 k).1 = bt at *
    generalize hnn : (X.2.2.2.2.2 k).2.1 = nn at *
    generalize hFF : (X.2.2.2.2.2 k).2.2 = FF at *
    by_cases qm : bt = 0
    · refine JS.er hC hM (k := 2) (by decide) ?_ (fun w => ?_)
      · simp only [C_X11_judge, R_X11_judge, SB, hC.f0, hC.f1, hC.f2, hC.f3, hC.f4, hC.f5, hC.f6, hC.f7, hC.f8, hC.f9, clK_gf hC.f0, s_isKnot, s_isColour, s_isKindAndM, s_isUse, iw_1, iw_3, iw_6, iw_7, iw_99, iw_100, iw_255, s_rf1 hC, s_rf2 hC, s_rf3 hC, s_rf4 hC, s_rf5 hC, bI_e0, bI_n0, b_ft, bI_01, bI_t, bI_f, i10, i01, if_true, if_false, Bool.true_eq_false, Bool.false_eq_true, or_true, true_or, not_true_eq_false, not_false_eq_true, ls1s, so, clK_gf sh.p0, mi, qm, decide_true]
      · simp (disch := omega) only [C_X12_judge, R_X12_judge_p0, R_X12_judge_p1, SB, mw_o, mw_a, mo_g, mo_p, mo_pz, mw_so, mw_sa, upA_eq, upA_upA, upd_upd, m_isKnot, m_isSheet, mi_1, mi_3, mi_5, mi_6, mi_7, mi_69, mi_99, mi_100, mi_255, m_f1, m_f2, m_f3, m_f4, m_f5, bI_e0, bI_n0, b_ft, bI_01, bI_t, bI_f, i10, i01, if_true, if_false, Bool.true_eq_false, Bool.false_eq_true, or_true, true_or, not_true_eq_false, not_false_eq_true, ls1s, q1, aI_a, b0, e0, eq_true qm]
    · have hb : bt = 8 ∨ bt = 16 ∨ bt = 32 := by omega
      have g0 : gf (hg W 33) 1 0 = some (.ref 34) := hC.now.k0
      have k34 : clK (hg W 34) = 0 := clK_gf hC.now.car.p0
      have cl : ∀ m i, i + m = 36 → Ex M_X11_judge 60 33 [some (.ref 32), some (.int (nI k)), some (.ref (115 + 2 * k)), some (.int (nI i))] [] W = some (some (.int (jgR X.1.col FF nn m i)), W) := by
        intro m
        induction m with
        | zero =>
          intro i hi
          have : i = 36 := by omega
          subst this
          have hs1 : Call M_X8_has 60 [.ref (115 + 2 * k), .int 36] W = _ := s_Sheet_has sh (nI 36) 60
          rw [inR_nI (by omega)] at hs1
          rw [H_X11_judge_33]
          by_cases z : 36 < nn
          · simp only [R_X11_judge, SB, show ((36 : Int32) ≤ nI 36) = True from by rw [show (36 : Int32) = nI 36 from rfl]; simp, if_true, clK_gf sh.p0, hs1, z, decide_true, bI_t, i10, if_false, jgR]
          · simp only [R_X11_judge, SB, show ((36 : Int32) ≤ nI 36) = True from by rw [show (36 : Int32) = nI 36 from rfl]; simp, if_true, clK_gf sh.p0, hs1, z, decide_false, bI_f, if_false, jgR]
        | succ m ih =>
          intro i hi
          have z2 : ¬ 36 ≤ i := by omega
          have hs1 := s_Sheet_has sh (nI i) 60
          rw [inR_nI (by omega)] at hs1
          have co : Call M_X0_colourOf 60 [.ref 34, .int (nI i)] W = _ := s_colourOf hC.now.car (show i < 36 by omega) 60
          rw [H_X11_judge_33]
          by_cases z : i < nn
          · have gs := s_Sheet_get sh z 60
            by_cases q : FF i = nI (X.1.col i)
            · rw [show jgR X.1.col FF nn (m + 1) i = jgR X.1.col FF nn m (i + 1) from if_pos ⟨z, q⟩, ← ih (i + 1) (by omega)]
              simp (disch := omega) only [R_X11_judge, SB, lit_le, eq_false z2, if_true, if_false, clK_gf sh.p0, hs1, z, decide_true, bI_t, i10, gs, hC.f0, g0, k34, co, q, ls1s, nI_1]
            · rw [show jgR X.1.col FF nn (m + 1) i = nI i from if_neg (fun x => q x.2)]
              simp (disch := omega) only [R_X11_judge, SB, lit_le, eq_false z2, if_true, if_false, clK_gf sh.p0, hs1, z, decide_true, bI_t, i10, gs, hC.f0, g0, k34, co, q]
          · rw [show jgR X.1.col FF nn (m + 1) i = nI i from if_neg (fun x => z x.1)]
            simp (disch := omega) only [R_X11_judge, SB, lit_le, eq_false z2, if_true, if_false, clK_gf sh.p0, hs1, z, decide_false, bI_f]
      refine JS.ro hC hM (r := jgR X.1.col FF nn 36 0) ?_ (fun w => ⟨I, A, ?_, hM⟩)
      · simp only [C_X11_judge, R_X11_judge, SB, hC.f0, hC.f1, hC.f2, hC.f3, hC.f4, hC.f5, hC.f6, hC.f7, hC.f8, hC.f9, clK_gf hC.f0, s_isKnot, s_isColour, s_isKindAndM, s_isUse, iw_1, iw_3, iw_6, iw_7, iw_99, iw_100, iw_255, s_rf1 hC, s_rf2 hC, s_rf3 hC, s_rf4 hC, s_rf5 hC, bI_e0, bI_n0, b_ft, bI_01, bI_t, bI_f, i10, i01, if_true, if_false, Bool.true_eq_false, Bool.false_eq_true, or_true, true_or, not_true_eq_false, not_false_eq_true, ls1s, so, clK_gf sh.p0, mi, qm, decide_false]
        exact cl 36 0 (by omega)
      · have ml : ∀ m i, i + m = 36 → (i ≤ nn) → Ex M_X12_judge 60 30 [some (.ref 123), some (.int (nI k)), some (.int (nI i))] [] (mw w I A) = some (some (.int (jgR X.1.col FF nn m i)), mw w I A) := by
          intro m
          induction m with
          | zero =>
            intro i hi hin
            have : i = 36 := by omega
            subst this
            rw [H_X12_judge_30]
            by_cases z : nn ≤ 36
            · have e : nn = 36 := by omega
              subst e
              simp (disch := omega) only [R_X12_judge_p0, R_X12_judge_p1, SB, mw_o, mw_a, mo_g, mo_p, mo_pz, mw_so, mw_sa, upA_eq, upA_upA, upd_upd, aI_a, n0, le_nI, eq_lit, Int32.le_refl, Nat.le_refl, if_true, if_false, not_true_eq_false, show jgR X.1.col FF 36 0 36 = -1 from rfl]
            · have e2 : (nI 36 = nI nn) = False := by rw [eq_nI (by decide) (by omega)]; apply eq_false; omega
              simp (disch := omega) only [R_X12_judge_p0, R_X12_judge_p1, SB, mw_o, mw_a, mo_g, mo_p, mo_pz, mw_so, mw_sa, upA_eq, upA_upA, upd_upd, aI_a, n0, le_nI, lit_le, z, Nat.le_refl, if_true, if_false, e2, not_false_eq_true, show jgR X.1.col FF nn 0 36 = 36 from if_pos (by omega)]
              first | done | rfl
          | succ m ih =>
            intro i hi hin
            have z2 : ¬ 36 ≤ i := by omega
            rw [H_X12_judge_30]
            by_cases z : nn ≤ i
            · have e : nn = i := by omega
              subst e
              have e3 : (nI nn = (36 : Int32)) = False := by rw [show (36 : Int32) = nI 36 from rfl, eq_nI (by omega) (by decide)]; apply eq_false; omega
              rw [show jgR X.1.col FF nn (m + 1) nn = nI nn from if_neg (fun x => by omega)]
              simp (disch := omega) only [R_X12_judge_p0, R_X12_judge_p1, SB, mw_o, mw_a, mo_g, mo_p, mo_pz, mw_so, mw_sa, upA_eq, upA_upA, upd_upd, aI_a, n0, Int32.le_refl, if_true, if_false, e3, not_true_eq_false, not_false_eq_true]
            · have v0 := shv i (by omega)
              have cl8 := hD.rc i (by omega)
              have sv := sx_small hb (shr i (by omega)) (c := X.1.col i) (by omega)
              by_cases q : FF i = nI (X.1.col i)
              · rw [show jgR X.1.col FF nn (m + 1) i = jgR X.1.col FF nn m (i + 1) from if_pos ⟨by omega, q⟩, ← ih (i + 1) (by omega) (by omega)]
                have v1 : A 12 (40 * k + i) = nI (X.1.col i) := by rw [v0, sv]; exact q
                simp (disch := omega) only [R_X12_judge_p0, R_X12_judge_p1, SB, mw_o, mw_a, mo_g, mo_p, mo_pz, mw_so, mw_sa, upA_eq, upA_upA, upd_upd, aI_a, n0, le_nI, lit_le, z, z2, if_true, if_false, lit_mul, nI_add, lit_add, v1, hD.col i (by omega), not_true_eq_false, ls1s, nI_1]
              · rw [show jgR X.1.col FF nn (m + 1) i = nI i from if_neg (fun x => q x.2)]
                have v1 : (A 12 (40 * k + i) = nI (X.1.col i)) = False := by rw [v0, sv]; exact eq_false q
                have e2 : (nI i = nI nn) = False := by rw [eq_nI (by omega) (by omega)]; apply eq_false; omega
                simp (disch := omega) only [R_X12_judge_p0, R_X12_judge_p1, SB, mw_o, mw_a, mo_g, mo_p, mo_pz, mw_so, mw_sa, upA_eq, upA_upA, upd_upd, aI_a, n0, le_nI, lit_le, z, z2, if_true, if_false, lit_mul, nI_add, lit_add, v1, hD.col i (by omega), not_false_eq_true, e2]
        simp (disch := omega) only [C_X12_judge, R_X12_judge_p0, R_X12_judge_p1, SB, mw_o, mw_a, mo_g, mo_p, mo_pz, mw_so, mw_sa, upA_eq, upA_upA, upd_upd, m_isKnot, m_isSheet, mi_1, mi_3, mi_5, mi_6, mi_7, mi_69, mi_99, mi_100, mi_255, m_f1, m_f2, m_f3, m_f4, m_f5, bI_e0, bI_n0, b_ft, bI_01, bI_t, bI_f, i10, i01, if_true, if_false, Bool.true_eq_false, Bool.false_eq_true, or_true, true_or, not_true_eq_false, not_false_eq_true, ls1s, q1, aI_a, b0, e0, qm]
        exact ml 36 0 (by omega) (by omega)
  · have so := s_sheetOf_n hC q1 60
    refine JS.er hC hM (k := 1) (by decide) ?_ (fun w => ?_)
    · simp only [C_X11_judge, R_X11_judge, SB, hC.f0, hC.f1, hC.f2, hC.f3, hC.f4, hC.f5, hC.f6, hC.f7, hC.f8, hC.f9, clK_gf hC.f0, s_isKnot, s_isColour, s_isKindAndM, s_isUse, iw_1, iw_3, iw_6, iw_7, iw_99, iw_100, iw_255, s_rf1 hC, s_rf2 hC, s_rf3 hC, s_rf4 hC, s_rf5 hC, bI_e0, bI_n0, b_ft, bI_01, bI_t, bI_f, i10, i01, if_true, if_false, Bool.true_eq_false, Bool.false_eq_true, or_true, true_or, not_true_eq_false, not_false_eq_true, ls1s, so]
    · simp only [C_X12_judge, R_X12_judge_p0, R_X12_judge_p1, SB, mw_o, mw_a, mo_g, mo_p, mo_pz, mw_so, mw_sa, upA_eq, upA_upA, upd_upd, m_isKnot, m_isSheet, mi_1, mi_3, mi_5, mi_6, mi_7, mi_69, mi_99, mi_100, mi_255, m_f1, m_f2, m_f3, m_f4, m_f5, bI_e0, bI_n0, b_ft, bI_01, bI_t, bI_f, i10, i01, if_true, if_false, Bool.true_eq_false, Bool.false_eq_true, or_true, true_or, not_true_eq_false, not_false_eq_true, ls1s, inR_f q1]
