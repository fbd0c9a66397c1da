/-! ===== pairs: voice ===== -/
theorem upd_com (I : Nat → Int32) {a b : Nat} (h : a ≠ b) (x y : Int32) : upd (upd I a x) b y = upd (upd I b y) a x := by
  funext j
  unfold upd
  by_cases p : j = a
  · subst p; rw [if_neg h, if_pos rfl, if_pos rfl]
  · by_cases q : j = b
    · subst q; rw [if_pos rfl, if_neg p, if_pos rfl]
    · rw [if_neg q, if_neg p, if_neg p, if_neg q]
theorem j_voice (a b x : Int32) : JO M_X11_voice M_X12_voice [.int a, .int b, .int x] := by
  apply JO.mk
  intro W X I A hC hM
  have hD := hM.now
  have hN := hC.now
  have rn := hD.rn
  have mw0 := fun w => m_isWalker (I := I) hD a w 60
  have wo := s_walkerOf hN a 60
  by_cases q1 : inR a X.1.nw = true
  · rw [if_pos q1] at wo
    obtain ⟨i, i1, i2, rfl⟩ := inR_of q1
    rw [nI_c (by omega)] at wo
    have wo : Call M_X1_walkerOf 60 [.ref 33, .int (nI i)] W = some (some (.ref (50 + i)), W) := wo
    by_cases q2 : inR b 4 = true
    · obtain ⟨act, c1, c2, rfl⟩ := inR_of q2
      obtain ⟨v, a1, a2, a3⟩ := s_speak hC i1 c1 x 60
      have k102 : clK (hg W 102) = 8 := clK_gf hC.vo.1
      refine ⟨(voV i (X.1.wk i 1) (X.1.wk i 0) act x (0, X.2.2.2.2.1.2)).1, (X.1, X.2.1, X.2.2.1, X.2.2.2.1, (voV i (X.1.wk i 1) (X.1.wk i 0) act x (0, X.2.2.2.2.1.2)).2, X.2.2.2.2.2), ⟨v, ?_, hC.setVo a3 a2, a3.wide (fun j hj => ⟨by omega, by omega⟩)⟩, fun w => ?_⟩
      · simp only [C_X11_voice, R_X11_voice, SB, hC.f0, hC.f1, hC.f2, hC.f3, hC.f4, hC.f5, hC.f6, hC.f7, hC.f8, hC.f9, clK_gf hC.f0, s_isKnot, s_isColour, s_isKindAndM, s_isUse, iw_1, iw_3, iw_6, iw_7, iw_99, iw_100, iw_255, s_rf1 hC, s_rf2 hC, s_rf3 hC, s_rf4 hC, s_rf5 hC, bI_e0, bI_n0, b_ft, bI_01, bI_t, bI_f, i10, i01, if_true, if_false, Bool.true_eq_false, Bool.false_eq_true, or_true, true_or, not_true_eq_false, not_false_eq_true, ls1s, clK_gf hN.k0, wo, q2, k102, a1]
      · have rk := hD.rk i i1
        have tl : (0 : Nat) ≤ 40 := by decide
        have h22 : upd I 22 (nI i) 22 = nI i := upd_s _ _ _
        have ag := ag_vo (n := i) (m := X.1.wk i 1) (kd := X.1.wk i 0) (act := act) (x := x) (t := (0, X.2.2.2.2.1.2)) (s := (0, A 9)) ⟨rfl, fun k hk => absurd hk (Nat.not_lt_zero k)⟩
        have le := voV_le (n := i) (m := X.1.wk i 1) (kd := X.1.wk i 0) (act := act) (x := x) (t := (0, A 9)) tl
        have ow := mv_own (w := w) (J := upd I 22 (nI i)) (B := A) hD i1 h22 (0, A 9) 60
        have cw := mv_walks (w := w) (J := upd I 22 (nI i)) (B := A) hD i1 h22 rk.1 x (t := (0, A 9)) tl 57
        have ce := mv_eats (w := w) (J := upd I 22 (nI i)) (B := A) hD i1 h22 rk.1 x (t := (0, A 9)) tl 57
        have cr := mv_wears (w := w) (J := upd I 22 (nI i)) (B := A) hD i1 h22 rk.1 x (t := (0, A 9)) tl 57
        have ct := mv_tells (w := w) (J := upd I 22 (nI i)) (B := A) hD i1 h22 rk.1 x (t := (0, A 9)) tl 57
        have ew : mw w (upd (upd I 22 (nI i)) 21 (nI 0)) (upA A 9 (A 9)) = mw w (upd (upd I 21 0) 22 (nI i)) A := by
          rw [upA_same, upd_com I (show 21 ≠ 22 by decide)]
          rfl
        obtain ⟨g1, g2, g3⟩ := ag
        generalize hvt : voV i (X.1.wk i 1) (X.1.wk i 0) act x (0, X.2.2.2.2.1.2) = vt at *
        have hr : Call M_X12_voice 60 [.ref 123, .int (nI i), .int (nI act), .int x] (mw w I A) = some (some (.int (voV i (X.1.wk i 1) (X.1.wk i 0) act x (0, A 9)).1), mw w (upd (upd I 22 (nI i)) 21 (nI (voV i (X.1.wk i 1) (X.1.wk i 0) act x (0, A 9)).2.1)) (upA A 9 (voV i (X.1.wk i 1) (X.1.wk i 0) act x (0, A 9)).2.2)) := by
          dsimp only at ow cw ce cr ct
          rw [ew] at ow cw ce cr ct
          have mw1 := mw0 w
          have cw : Call M_X12_walksBy 60 _ _ = _ := cw
          have ce : Call M_X12_eatsBy 60 _ _ = _ := ce
          have cr : Call M_X12_wearsBy 60 _ _ = _ := cr
          have ct : Call M_X12_tellsBy 60 _ _ = _ := ct
          have h : act = 0 ∨ act = 1 ∨ act = 2 ∨ act = 3 := by omega
          rcases h with rfl | rfl | rfl | rfl
          · simp (disch := omega) only [C_X12_voice, R_X12_voice, SB, mw_o, mw_a, mo_g, mo_p, mo_pz, mw_so, mw_sa, upA_eq, upA_upA, upd_upd, m_isKnot, m_isSheet, mi_1, mi_3, mi_5, mi_6, mi_7, mi_69, mi_99, mi_100, mi_255, m_f1, m_f2, m_f3, m_f4, m_f5, bI_e0, bI_n0, b_ft, bI_01, bI_t, bI_f, i10, i01, if_true, if_false, Bool.true_eq_false, Bool.false_eq_true, or_true, true_or, not_true_eq_false, not_false_eq_true, ls1s, mw1, q1, q2, sw7, ow, cw]
            rfl
          · simp (disch := omega) only [C_X12_voice, R_X12_voice, SB, mw_o, mw_a, mo_g, mo_p, mo_pz, mw_so, mw_sa, upA_eq, upA_upA, upd_upd, m_isKnot, m_isSheet, mi_1, mi_3, mi_5, mi_6, mi_7, mi_69, mi_99, mi_100, mi_255, m_f1, m_f2, m_f3, m_f4, m_f5, bI_e0, bI_n0, b_ft, bI_01, bI_t, bI_f, i10, i01, if_true, if_false, Bool.true_eq_false, Bool.false_eq_true, or_true, true_or, not_true_eq_false, not_false_eq_true, ls1s, mw1, q1, q2, sw7, ow, cr]
            rfl
          · simp (disch := omega) only [C_X12_voice, R_X12_voice, SB, mw_o, mw_a, mo_g, mo_p, mo_pz, mw_so, mw_sa, upA_eq, upA_upA, upd_upd, m_isKnot, m_isSheet, mi_1, mi_3, mi_5, mi_6, mi_7, mi_69, mi_99, mi_100, mi_255, m_f1, m_f2, m_f3, m_f4, m_f5, bI_e0, bI_n0, b_ft, bI_01, bI_t, bI_f, i10, i01, if_true, if_false, Bool.true_eq_false, Bool.false_eq_true, or_true, true_or, not_true_eq_false, not_false_eq_true, ls1s, mw1, q1, q2, sw7, ow, ce]
            rfl
          · simp (disch := omega) only [C_X12_voice, R_X12_voice, SB, mw_o, mw_a, mo_g, mo_p, mo_pz, mw_so, mw_sa, upA_eq, upA_upA, upd_upd, m_isKnot, m_isSheet, mi_1, mi_3, mi_5, mi_6, mi_7, mi_69, mi_99, mi_100, mi_255, m_f1, m_f2, m_f3, m_f4, m_f5, bI_e0, bI_n0, b_ft, bI_01, bI_t, bI_f, i10, i01, if_true, if_false, Bool.true_eq_false, Bool.false_eq_true, or_true, true_or, not_true_eq_false, not_false_eq_true, ls1s, mw1, q1, q2, sw7, ow, ct]
            rfl
        generalize voV i (X.1.wk i 1) (X.1.wk i 0) act x (0, A 9) = ms at *
        rw [g1]
        refine ⟨_, _, hr, ?_⟩
        refine ⟨hM.now, hM.kept, ?_, hM.dn, hM.dk, hM.err, ?_, ?_, ?_, hM.shb, hM.shn, hM.shv, hM.shr⟩
        · show upd (upd I 22 (nI i)) 21 _ 2 = _
          rw [upd_n (by decide), upd_n (by decide)]; exact hM.im
        · show upd (upd I 22 (nI i)) 21 _ 21 = _
          rw [upd_s, ← g2]
        · show vt.2.1 ≤ 40
          rw [g2]; exact le
        · intro k hk
          exact (g3 k hk).symm
    · refine JS.er hC hM (k := 1) (by decide) ?_ (fun w => ?_)
      · simp only [C_X11_voice, R_X11_voice, SB, hC.f0, hC.f1, hC.f2, hC.f3, hC.f4, hC.f5, hC.f6, hC.f7, hC.f8, hC.f9, clK_gf hC.f0, s_isKnot, s_isColour, s_isKindAndM, s_isUse, iw_1, iw_3, iw_6, iw_7, iw_99, iw_100, iw_255, s_rf1 hC, s_rf2 hC, s_rf3 hC, s_rf4 hC, s_rf5 hC, bI_e0, bI_n0, b_ft, bI_01, bI_t, bI_f, i10, i01, if_true, if_false, Bool.true_eq_false, Bool.false_eq_true, or_true, true_or, not_true_eq_false, not_false_eq_true, ls1s, clK_gf hN.k0, wo, inR_f q2]
      · simp only [C_X12_voice, R_X12_voice, SB, mw_o, mw_a, mo_g, mo_p, mo_pz, mw_so, mw_sa, upA_eq, upA_upA, upd_upd, m_isKnot, m_isSheet, mi_1, mi_3, mi_5, mi_6, mi_7, mi_69, mi_99, mi_100, mi_255, m_f1, m_f2, m_f3, m_f4, m_f5, bI_e0, bI_n0, b_ft, bI_01, bI_t, bI_f, i10, i01, if_true, if_false, Bool.true_eq_false, Bool.false_eq_true, or_true, true_or, not_true_eq_false, not_false_eq_true, ls1s, mw0 w, q1, inR_f q2]
  · rw [if_neg q1] at wo
    refine JS.er hC hM (k := 1) (by decide) ?_ (fun w => ?_)
    · simp only [C_X11_voice, R_X11_voice, SB, hC.f0, hC.f1, hC.f2, hC.f3, hC.f4, hC.f5, hC.f6, hC.f7, hC.f8, hC.f9, clK_gf hC.f0, s_isKnot, s_isColour, s_isKindAndM, s_isUse, iw_1, iw_3, iw_6, iw_7, iw_99, iw_100, iw_255, s_rf1 hC, s_rf2 hC, s_rf3 hC, s_rf4 hC, s_rf5 hC, bI_e0, bI_n0, b_ft, bI_01, bI_t, bI_f, i10, i01, if_true, if_false, Bool.true_eq_false, Bool.false_eq_true, or_true, true_or, not_true_eq_false, not_false_eq_true, ls1s, clK_gf hN.k0, wo]
    · simp only [C_X12_voice, R_X12_voice, SB, mw_o, mw_a, mo_g, mo_p, mo_pz, mw_so, mw_sa, upA_eq, upA_upA, upd_upd, m_isKnot, m_isSheet, mi_1, mi_3, mi_5, mi_6, mi_7, mi_69, mi_99, mi_100, mi_255, m_f1, m_f2, m_f3, m_f4, m_f5, bI_e0, bI_n0, b_ft, bI_01, bI_t, bI_f, i10, i01, if_true, if_false, Bool.true_eq_false, Bool.false_eq_true, or_true, true_or, not_true_eq_false, not_false_eq_true, ls1s, mw0 w, inR_f q1]
