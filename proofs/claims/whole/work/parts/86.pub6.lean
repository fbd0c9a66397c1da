/-! ===== pairs: thoughts, images ===== -/
abbrev CoR : Type := (Nat × (Nat → Int32)) × (Nat × (Nat → Int32)) × Tx × Tx
/-- the same country with another tape, other numbers that wait, other texts -/
def wT (S : Co) (r : CoR) : Co := (S.1, S.2.1, S.2.2.1, S.2.2.2.1, r)
theorem cpS_wT (S T : Co) : cpS S T = wT T ((T.tape.1, cpyF T.tape.2 S.tape.2 T.tape.1), (T.wait.1, cpyF T.wait.2 S.wait.2 T.wait.1), T.2.2.2.2.2.2) := rfl
theorem fd_wT (r : CoR) : ∀ n (S : Co), foldN dyF n (wT S r) = wT (foldN dyF n S) r := by
  intro n
  induction n with
  | zero => intro S; rfl
  | succ n ih => intro S; rw [foldN_s, foldN_s, ih S]; rfl
theorem dyN_wT (S : Co) (r : CoR) : dyN (wT S r) = wT (dyN S) r := by
  unfold dyN
  rw [show (wT S r).nw = S.nw from rfl, fd_wT]
  rfl
theorem dnN_wT (r : CoR) : ∀ n (S : Co), dnN n (wT S r) = wT (dnN n S) r := by
  intro n
  induction n with
  | zero => intro S; rfl
  | succ n ih =>
    intro S
    show dyN (dnN n (wT S r)) = wT (dyN (dnN n S)) r
    rw [ih S, dyN_wT]
theorem pT_congr {u n : Nat} {B C : Nat → Int32} (h : ∀ k, k < n → B k = C k) : pT u n B = pT u n C := by
  have e : cB n B = cB n C := by
    funext p; unfold cB
    split
    · exact h p ‹_›
    · rfl
  unfold pT
  rw [e]
theorem TxR.congr {D E : Nat → Int32} {u : Nat} (hu : u < 2) {t : Tx} (h : TxR D u t) (e : ∀ k, k < 269 → E k = D k) : TxR E u t := by
  obtain ⟨n, h1, h2, h3, h4⟩ := h
  refine ⟨n, by rw [e _ (by omega)]; exact h1, h2, h3, fun hn => ?_⟩
  rw [pT_congr (C := fun k => D (119 + 50 * u + k)) (fun k hk => e _ (by omega))]
  exact h4 hn
theorem DR.congr {D E : Nat → Int32} {S : Co} (h : DR D S) (e : ∀ k, k < 269 → E k = D k) : DR E S := by
  have hn := h.rn
  have ht := h.rt
  have hv := h.rv
  exact ⟨(e _ (by omega)).trans h.nw, (e _ (by omega)).trans h.day, (e _ (by omega)).trans h.z, (e _ (by omega)).trans h.tn, (e _ (by omega)).trans h.wn, fun k hk => (e _ (by omega)).trans (h.col k hk), fun k hk => (e _ (by omega)).trans (h.wear k hk), fun i hi x hx => (e _ (by omega)).trans (h.wk i hi x hx), h.pat.congr (by decide) e, h.wor.congr (by decide) e, fun k hk => (e _ (by omega)).trans (h.wt k hk), fun k hk => (e _ (by omega)).trans (h.tp k hk), h.rc, h.rw, h.rk, h.rn, h.rd, h.rt, h.rv, h.tb⟩
theorem DR.cp {D : Nat → Int32} {S T : Co} (h : DR D T) : DR D (cpS S T) := by
  have c1 : ∀ k, k < T.tape.1 → cpyF T.tape.2 S.tape.2 T.tape.1 k = T.tape.2 k := fun k hk => if_pos hk
  have c2 : ∀ k, k < T.wait.1 → cpyF T.wait.2 S.wait.2 T.wait.1 k = T.wait.2 k := fun k hk => if_pos hk
  exact ⟨h.nw, h.day, h.z, h.tn, h.wn, h.col, h.wear, h.wk, h.pat, h.wor, fun k hk => (h.wt k hk).trans (c2 k hk).symm, fun k hk => (h.tp k hk).trans (c1 k hk).symm, h.rc, h.rw, h.rk, h.rn, h.rd, h.rt, h.rv, fun k hk => by show inR (cpyF T.tape.2 S.tape.2 T.tape.1 k) 256 = true; rw [c1 k hk]; exact h.tb k hk⟩
theorem ClAt.think {W : AH} {X : Cx} (hC : ClAt W X) (lv : Nat) : ∃ V T, Call M_X1_copyFrom lv [.ref 77, .ref 33] W = some (none, V) ∧ CoAt V 77 (cpS T X.1) ∧ ClAt V X ∧ Fr (CoP 77) W V := by
  obtain ⟨T, hT⟩ := hC.tho
  obtain ⟨v, a, b, c⟩ := s_Country_copy hT hC.now (by omega) lv
  exact ⟨v, T, a, b, hC.setTho c b, c⟩
theorem j_then (a b c : Int32) : JO M_X11_then M_X12_then [.int a, .int b, .int c] := by
  apply JO.mk
  intro W X I A hC hM
  have hD := hM.now
  have hN := hC.now
  have rn := hN.rn
  have dn := hM.dn
  have n0 := clK_gf hN.k0
  have mW := fun v w => m_isWalker (I := I) hD v w 60
  by_cases q0 : inR a 101 = true
  · obtain ⟨n, a1, a2, rfl⟩ := inR_of q0
    by_cases q1 : inR b X.1.nw = true
    · obtain ⟨k, k1, k2, rfl⟩ := inR_of q1
      have w1 := s_wOf hC q1 k2 60
      by_cases q2 : inR c 2 = true
      · obtain ⟨y, y1, y2, rfl⟩ := inR_of q2
        obtain ⟨V, T, t1, t2, t3, t4⟩ := hC.think 60
        obtain ⟨U, l1, l2, l3, l4⟩ := loopE (fun j (u : AH) => Ex M_X11_then 60 51 [some (.ref 32), some (.int (nI n)), some (.int (nI k)), some (.int (nI y)), some (.int (nI j))] [] u) (fun j u => CoAt u 77 (dnN j (cpS T X.1)) ∧ ClAt u X ∧ Fr CxP W u) n (by
          intro j u hj hI
          obtain ⟨i1, i2, i3⟩ := hI
          have dd : (dnN j (cpS T X.1)).day = X.1.day + j := by rw [(dnN_day _ _).1]; rfl
          obtain ⟨v, p1, p2, p3⟩ := s_passDay i2.sta (by decide) i1 (by rw [dd]; omega) 60
          refine ⟨v, ?_, p2, i2.setTho p3 p2, i3.trans (p3.wide CxP_th)⟩
          have e1 : (nI n ≤ nI j) = False := by rw [le_nI (by omega) (by omega)]; apply eq_false; omega
          rw [H_X11_then_51]
          simp only [R_X11_then_p0, R_X11_then_p1, SB, e1, if_false, if_true, i2.f2, clK_gf i1.k0, p1, ls1s, nI_1]) V ⟨t2, t3, t4.wide CxP_th⟩
        have nwT : (dnN n (cpS T X.1)).nw = X.1.nw := by rw [(dnN_day _ _).2]; rfl
        have wk3 := s_walkerOf l2 (nI k) 60
        rw [nwT, if_pos q1, nI_c k2] at wk3
        have hw := l2.wk k (by omega)
        have ew : (dnN n (cpS T X.1)).wk = (dnN n X.1).wk := by rw [cpS_wT, dnN_wT]; rfl
        rw [ew] at hw
        have ex : Ex M_X11_then 60 51 [some (.ref 32), some (.int (nI n)), some (.int (nI k)), some (.int (nI y)), some (.int (nI 0))] [] V = some (some (.int (nI ((dnN n X.1).wk k (if y = 0 then 2 else 3)))), U) := by
          refine l1.trans ?_
          rw [H_X11_then_51]
          have c2 : clK (hg U 77) = 1 := clK_gf l2.k0
          obtain hy : y = 0 ∨ y = 1 := by omega
          rcases hy with rfl | rfl
          · simp only [R_X11_then_p0, R_X11_then_p1, SB, Int32.le_refl, if_true, if_false, l3.f2, c2, wk3, ls1s, show (nI 0 = (0 : Int32)) = True from by decide, not_true_eq_false, hw.p2]
          · simp only [R_X11_then_p0, R_X11_then_p1, SB, Int32.le_refl, if_true, if_false, l3.f2, c2, wk3, ls1s, show (nI 1 = (0 : Int32)) = False from by decide, not_false_eq_true, hw.p3, show ((1 : Nat) = 0) = False from by decide]
        refine ⟨nI ((dnN n X.1).wk k (if y = 0 then 2 else 3)), X, ⟨U, ?_, l3, l4⟩, fun w => ?_⟩
        · have c3 : clK (hg W 77) = 1 := by obtain ⟨T2, hT2⟩ := hC.tho; exact clK_gf hT2.k0
          simp only [C_X11_then, R_X11_then_p0, R_X11_then_p1, SB, hC.f0, hC.f1, hC.f2, hC.f3, hC.f4, hC.f5, hC.f6, hC.f7, hC.f8, hC.f9, clK_gf hC.f0, s_isKnot, s_isColour, s_isKindAndM, s_isUse, iw_1, iw_3, iw_6, iw_7, iw_99, iw_100, iw_255, s_rf1 hC, s_rf2 hC, s_rf3 hC, s_rf4 hC, s_rf5 hC, bI_e0, bI_n0, b_ft, bI_01, bI_t, bI_f, i10, i01, if_true, if_false, Bool.true_eq_false, Bool.false_eq_true, or_true, true_or, not_true_eq_false, not_false_eq_true, ls1s, q0, q1, q2, n0, w1, c3, t1]
          exact ex
        · have ka := m_keepAside I A w 60
          obtain ⟨D, m1, m2, m3⟩ := m_daysLoop (I := I) (A := upA A 3 (cpyF (A 0) (A 3) 97)) hD w (fun j u => Ex M_X12_then 60 43 [some (.ref 123), some (.int (nI n)), some (.int (nI k)), some (.int (nI y)), some (.int (nI j))] [] u) n (by omega) (by
            intro j B v hj g
            have e1 : (nI n ≤ nI j) = False := by rw [le_nI (by omega) (by omega)]; apply eq_false; omega
            rw [H_X12_then_43]
            simp only [R_X12_then, SB, mw_o, mo_g, e1, if_false, if_true, g, ls1s, nI_1])
          have nwT : (dnN n X.1).nw = X.1.nw := (dnN_day _ _).2
          have m3 : Lo (A 0) D := m3
          have pb := m_putBack I (upA (upA A 3 (cpyF (A 0) (A 3) 97)) 0 D) w 60
          rw [show (upA (upA A 3 (cpyF (A 0) (A 3) 97)) 0 D) 0 = D from rfl, show (upA (upA A 3 (cpyF (A 0) (A 3) 97)) 0 D) 3 = cpyF (A 0) (A 3) 97 from rfl, back_eq m3, upA_upA] at pb
          refine ⟨I, upA (upA A 3 (cpyF (A 0) (A 3) 97)) 0 (A 0), ?_, hM.kp rfl rfl (fun j hj => ?_)⟩
          · simp (disch := omega) only [C_X12_then, R_X12_then, SB, mw_o, mw_a, mo_g, mo_p, mo_pz, mw_so, mw_sa, upA_eq, upA_upA, upd_upd, m_isKnot, m_isSheet, mi_1, mi_3, mi_5, mi_6, mi_7, mi_69, mi_99, mi_100, mi_255, m_f1, m_f2, m_f3, m_f4, m_f5, bI_e0, bI_n0, b_ft, bI_01, bI_t, bI_f, i10, i01, if_true, if_false, Bool.true_eq_false, Bool.false_eq_true, or_true, true_or, not_true_eq_false, not_false_eq_true, ls1s, q0, q1, q2, mW, ka]
            refine (show _ = _ from rfl).trans (m1.trans ?_)
            rw [H_X12_then_43]
            have o2 := m_of2 (I := I) (A := upA (upA A 3 (cpyF (A 0) (A 3) 97)) 0 D) (S := dnN n X.1) m2 (i := k) (by rw [nwT]; exact k1) w 60
            have o3 := m_of3 (I := I) (A := upA (upA A 3 (cpyF (A 0) (A 3) 97)) 0 D) (S := dnN n X.1) m2 (i := k) (by rw [nwT]; exact k1) w 60
            obtain hy : y = 0 ∨ y = 1 := by omega
            rcases hy with rfl | rfl
            · simp only [R_X12_then, SB, mw_o, mo_g, Int32.le_refl, if_true, if_false, show (nI 0 = (0 : Int32)) = True from by decide, not_true_eq_false, o2, ls1s, pb]
            · simp only [R_X12_then, SB, mw_o, mo_g, Int32.le_refl, if_true, if_false, show (nI 1 = (0 : Int32)) = False from by decide, not_false_eq_true, o3, ls1s, pb, show ((1 : Nat) = 0) = False from by decide]
          · by_cases h0 : j = 0
            · subst h0; rfl
            · rw [upA_n h0, upA_n (by omega)]
      · refine JS.er hC hM (k := 1) (by decide) ?_ (fun w => ?_)
        · simp only [C_X11_then, R_X11_then_p0, R_X11_then_p1, SB, hC.f0, hC.f1, hC.f2, hC.f3, hC.f4, hC.f5, hC.f6, hC.f7, hC.f8, hC.f9, clK_gf hC.f0, s_isKnot, s_isColour, s_isKindAndM, s_isUse, iw_1, iw_3, iw_6, iw_7, iw_99, iw_100, iw_255, s_rf1 hC, s_rf2 hC, s_rf3 hC, s_rf4 hC, s_rf5 hC, bI_e0, bI_n0, b_ft, bI_01, bI_t, bI_f, i10, i01, if_true, if_false, Bool.true_eq_false, Bool.false_eq_true, or_true, true_or, not_true_eq_false, not_false_eq_true, ls1s, q0, q1, inR_f q2, n0, w1]
        · simp only [C_X12_then, R_X12_then, SB, mw_o, mw_a, mo_g, mo_p, mo_pz, mw_so, mw_sa, upA_eq, upA_upA, upd_upd, m_isKnot, m_isSheet, mi_1, mi_3, mi_5, mi_6, mi_7, mi_69, mi_99, mi_100, mi_255, m_f1, m_f2, m_f3, m_f4, m_f5, bI_e0, bI_n0, b_ft, bI_01, bI_t, bI_f, i10, i01, if_true, if_false, Bool.true_eq_false, Bool.false_eq_true, or_true, true_or, not_true_eq_false, not_false_eq_true, ls1s, q0, q1, inR_f q2, mW]
    · have w1 := s_wOf_n hC q1 60
      refine JS.er hC hM (k := 1) (by decide) ?_ (fun w => ?_)
      · simp only [C_X11_then, R_X11_then_p0, R_X11_then_p1, SB, hC.f0, hC.f1, hC.f2, hC.f3, hC.f4, hC.f5, hC.f6, hC.f7, hC.f8, hC.f9, clK_gf hC.f0, s_isKnot, s_isColour, s_isKindAndM, s_isUse, iw_1, iw_3, iw_6, iw_7, iw_99, iw_100, iw_255, s_rf1 hC, s_rf2 hC, s_rf3 hC, s_rf4 hC, s_rf5 hC, bI_e0, bI_n0, b_ft, bI_01, bI_t, bI_f, i10, i01, if_true, if_false, Bool.true_eq_false, Bool.false_eq_true, or_true, true_or, not_true_eq_false, not_false_eq_true, ls1s, q0, n0, w1]
      · simp only [C_X12_then, R_X12_then, SB, mw_o, mw_a, mo_g, mo_p, mo_pz, mw_so, mw_sa, upA_eq, upA_upA, upd_upd, m_isKnot, m_isSheet, mi_1, mi_3, mi_5, mi_6, mi_7, mi_69, mi_99, mi_100, mi_255, m_f1, m_f2, m_f3, m_f4, m_f5, bI_e0, bI_n0, b_ft, bI_01, bI_t, bI_f, i10, i01, if_true, if_false, Bool.true_eq_false, Bool.false_eq_true, or_true, true_or, not_true_eq_false, not_false_eq_true, ls1s, q0, inR_f q1, mW]
  · refine JS.er hC hM (k := 1) (by decide) ?_ (fun w => ?_)
    · simp only [C_X11_then, R_X11_then_p0, R_X11_then_p1, SB, hC.f0, hC.f1, hC.f2, hC.f3, hC.f4, hC.f5, hC.f6, hC.f7, hC.f8, hC.f9, clK_gf hC.f0, s_isKnot, s_isColour, s_isKindAndM, s_isUse, iw_1, iw_3, iw_6, iw_7, iw_99, iw_100, iw_255, s_rf1 hC, s_rf2 hC, s_rf3 hC, s_rf4 hC, s_rf5 hC, bI_e0, bI_n0, b_ft, bI_01, bI_t, bI_f, i10, i01, if_true, if_false, Bool.true_eq_false, Bool.false_eq_true, or_true, true_or, not_true_eq_false, not_false_eq_true, ls1s, inR_f q0]
    · simp only [C_X12_then, R_X12_then, SB, mw_o, mw_a, mo_g, mo_p, mo_pz, mw_so, mw_sa, upA_eq, upA_upA, upd_upd, m_isKnot, m_isSheet, mi_1, mi_3, mi_5, mi_6, mi_7, mi_69, mi_99, mi_100, mi_255, m_f1, m_f2, m_f3, m_f4, m_f5, bI_e0, bI_n0, b_ft, bI_01, bI_t, bI_f, i10, i01, if_true, if_false, Bool.true_eq_false, Bool.false_eq_true, or_true, true_or, not_true_eq_false, not_false_eq_true, ls1s, inR_f q0]
theorem j_image : JO M_X11_image M_X12_image [] := by
  apply JO.mk
  intro W X I A hC hM
  obtain ⟨V, a1, a2, a3⟩ := s_Country_copy hC.kept hC.now (by omega) 60
  have hC2 := hC.setKept a3 a2
  have hC3 := hC2.setIm (X.2.2.1 + 1)
  have g9 : gf (fput (hg V 32) 9 (.int (X.2.2.1 + 1))) 10 9 = some (.int (X.2.2.1 + 1)) := gf_put_s hC2.f9
  refine ⟨X.2.2.1 + 1, _, ⟨_, ?_, hC3, (a3.wide CxP_kp).trans (Fr.hs ⟨by omega, by omega⟩ _)⟩, fun w => ?_⟩
  · have c3 : clK (hg W 55) = 1 := clK_gf hC.kept.k0
    simp only [C_X11_image, R_X11_image, SB, hC.f0, hC.f1, hC.f2, hC.f3, hC.f4, hC.f5, hC.f6, hC.f7, hC.f8, hC.f9, clK_gf hC.f0, s_isKnot, s_isColour, s_isKindAndM, s_isUse, iw_1, iw_3, iw_6, iw_7, iw_99, iw_100, iw_255, s_rf1 hC, s_rf2 hC, s_rf3 hC, s_rf4 hC, s_rf5 hC, bI_e0, bI_n0, b_ft, bI_01, bI_t, bI_f, i10, i01, if_true, if_false, Bool.true_eq_false, Bool.false_eq_true, or_true, true_or, not_true_eq_false, not_false_eq_true, ls1s, c3, a1, hC2.f9, pf_i hC2.f9, g9]
  · have hl := for_up0 (fun k (F : Nat → Int32) => Ex M_X12_image 60 2 [some (.ref 123), some (.int (nI k))] [] (mw w I (upA A 1 F))) (fun k F => upd F k (A 0 k)) 269 (by
      intro k F hk
      have e1 : ((269 : Int32) ≤ nI k) = False := by rw [show (269 : Int32) = nI 269 from rfl, le_nI (by decide) (by omega)]; simp; omega
      rw [H_X12_image_2]
      simp (disch := omega) only [R_X12_image, SB, mw_o, mw_a, mo_g, mo_p, mo_pz, mw_so, mw_sa, upA_eq, upA_upA, upd_upd, lit_le, le_lit, lit_lt, lt_lit, eq_lit, le_nI, lt_nI, eq_nI, lit_add, add_lit, nI_add, lit_sub, sub_lit, sub_nI, lit_mul, mul_lit, pk_mul, div_lit, nI_c, aI_a, aI_l, uI_0, uI_l, aB_2, uB_2, bI_e0, bI_e1, bI_n0, bI_n1, bI_01, b_ft, i10, i01, bI_t, bI_f, if_true, if_false, dec_t, dec_f, Bool.true_eq_false, Bool.false_eq_true, or_true, true_or, not_true_eq_false, not_false_eq_true, e1, ls1s, show ((0 : Nat) = 1) = False from by simp]) (A 1)
    have e : ∀ n, foldN (fun k F => upd F k (A 0 k)) n (A 1) = cpyF (A 0) (A 1) n := by
      intro n
      induction n with
      | zero => rw [foldN_0, cpyF_0]
      | succ n ih => rw [foldN_s, ih, cpyF_s]
    rw [e, upA_same] at hl
    refine ⟨upd I 2 (I 2 + 1), upA A 1 (cpyF (A 0) (A 1) 269), ?_, ?_⟩
    · rw [← hM.im]
      simp only [C_X12_image, R_X12_image, SB, ls1s]
      refine (show _ = _ from rfl).trans (hl.trans ?_)
      rw [H_X12_image_2]
      simp only [R_X12_image, SB, mw_o, mw_a, mo_g, mo_p, mo_pz, mw_so, mw_sa, upA_eq, upA_upA, upd_upd, show ((269 : Int32) ≤ nI 269) = True from by rw [show (269 : Int32) = nI 269 from rfl]; simp, if_true, upd_s]
    · have n : ∀ j, j ≠ 1 → upA A 1 (cpyF (A 0) (A 1) 269) j = A j := fun j hj => upA_n hj
      have hK : DR (cpyF (A 0) (A 1) 269) (cpS X.2.1 X.1) := (DR.cp hM.now).congr (fun k hk => if_pos hk)
      exact ⟨by rw [n 0 (by omega)]; exact hM.now, fun _ => hK, by show I 2 + 1 = X.2.2.1 + 1; rw [hM.im], hM.dn, hM.dn, by rw [n 2 (by omega)]; exact hM.err, hM.tl, hM.tm, by rw [n 9 (by omega)]; exact hM.tr, by rw [n 10 (by omega)]; exact hM.shb, by rw [n 11 (by omega)]; exact hM.shn, by rw [n 12 (by omega)]; exact hM.shv, hM.shr⟩
theorem j_restore : JO M_X11_restore M_X12_restore [] := by
  apply JO.mk
  intro W X I A hC hM
  by_cases q : X.2.2.1 = 0
  · refine JS.er hC hM (k := 2) (by decide) ?_ (fun w => ?_)
    · simp only [C_X11_restore, R_X11_restore, SB, hC.f0, hC.f1, hC.f2, hC.f3, hC.f4, hC.f5, hC.f6, hC.f7, hC.f8, hC.f9, clK_gf hC.f0, s_isKnot, s_isColour, s_isKindAndM, s_isUse, iw_1, iw_3, iw_6, iw_7, iw_99, iw_100, iw_255, s_rf1 hC, s_rf2 hC, s_rf3 hC, s_rf4 hC, s_rf5 hC, bI_e0, bI_n0, b_ft, bI_01, bI_t, bI_f, i10, i01, if_true, if_false, Bool.true_eq_false, Bool.false_eq_true, or_true, true_or, not_true_eq_false, not_false_eq_true, ls1s, q]
    · simp only [C_X12_restore, R_X12_restore, SB, mw_o, mw_a, mo_g, mo_p, mo_pz, mw_so, mw_sa, upA_eq, upA_upA, upd_upd, m_isKnot, m_isSheet, mi_1, mi_3, mi_5, mi_6, mi_7, mi_69, mi_99, mi_100, mi_255, m_f1, m_f2, m_f3, m_f4, m_f5, bI_e0, bI_n0, b_ft, bI_01, bI_t, bI_f, i10, i01, if_true, if_false, Bool.true_eq_false, Bool.false_eq_true, or_true, true_or, not_true_eq_false, not_false_eq_true, ls1s, hM.im, q]
  · obtain ⟨V, a1, a2, a3⟩ := s_Country_copy hC.now hC.kept (by omega) 60
    have hC2 := hC.setNow a3 a2
    refine ⟨nI X.2.1.day, _, ⟨V, ?_, hC2, a3.wide CxP_co⟩, fun w => ?_⟩
    · have c3 : clK (hg W 33) = 1 := clK_gf hC.now.k0
      have g7 : gf (hg V 33) 1 7 = some (.int (nI X.2.1.day)) := a2.k7
      simp only [C_X11_restore, R_X11_restore, SB, hC.f0, hC.f1, hC.f2, hC.f3, hC.f4, hC.f5, hC.f6, hC.f7, hC.f8, hC.f9, clK_gf hC.f0, s_isKnot, s_isColour, s_isKindAndM, s_isUse, iw_1, iw_3, iw_6, iw_7, iw_99, iw_100, iw_255, s_rf1 hC, s_rf2 hC, s_rf3 hC, s_rf4 hC, s_rf5 hC, bI_e0, bI_n0, b_ft, bI_01, bI_t, bI_f, i10, i01, if_true, if_false, Bool.true_eq_false, Bool.false_eq_true, or_true, true_or, not_true_eq_false, not_false_eq_true, ls1s, q, c3, a1, hC2.f0, g7]
    · have hl := for_up0 (fun k (F : Nat → Int32) => Ex M_X12_restore 60 15 [some (.ref 123), some (.int (nI k))] [] (mw w I (upA A 0 F))) (fun k F => upd F k (A 1 k)) 269 (by
        intro k F hk
        have e1 : ((269 : Int32) ≤ nI k) = False := by rw [show (269 : Int32) = nI 269 from rfl, le_nI (by decide) (by omega)]; simp; omega
        rw [H_X12_restore_15]
        simp (disch := omega) only [R_X12_restore, SB, mw_o, mw_a, mo_g, mo_p, mo_pz, mw_so, mw_sa, upA_eq, upA_upA, upd_upd, lit_le, le_lit, lit_lt, lt_lit, eq_lit, le_nI, lt_nI, eq_nI, lit_add, add_lit, nI_add, lit_sub, sub_lit, sub_nI, lit_mul, mul_lit, pk_mul, div_lit, nI_c, aI_a, aI_l, uI_0, uI_l, aB_2, uB_2, bI_e0, bI_e1, bI_n0, bI_n1, bI_01, b_ft, i10, i01, bI_t, bI_f, if_true, if_false, dec_t, dec_f, Bool.true_eq_false, Bool.false_eq_true, or_true, true_or, not_true_eq_false, not_false_eq_true, e1, ls1s, show ((1 : Nat) = 0) = False from by simp]) (A 0)
      have e : ∀ n, foldN (fun k F => upd F k (A 1 k)) n (A 0) = cpyF (A 1) (A 0) n := by
        intro n
        induction n with
        | zero => rw [foldN_0, cpyF_0]
        | succ n ih => rw [foldN_s, ih, cpyF_s]
      rw [e, upA_same] at hl
      have hK := hM.kept q
      have hD2 : DR (cpyF (A 1) (A 0) 269) (cpS X.1 X.2.1) := (DR.cp hK).congr (fun k hk => if_pos hk)
      refine ⟨I, upA A 0 (cpyF (A 1) (A 0) 269), ?_, hM.set0 hD2 (Or.inr hM.dk)⟩
      simp only [C_X12_restore, R_X12_restore, SB, mw_o, mo_g, hM.im, q, if_true, if_false, not_false_eq_true, ls1s]
      refine (show _ = _ from rfl).trans (hl.trans ?_)
      rw [H_X12_restore_15]
      have d1 : cpyF (A 1) (A 0) 269 1 = nI X.2.1.day := (if_pos (by decide)).trans hK.day
      simp (disch := omega) only [R_X12_restore, SB, mw_o, mw_a, mo_g, mo_p, mo_pz, mw_so, mw_sa, upA_eq, upA_upA, upd_upd, show ((269 : Int32) ≤ nI 269) = True from by rw [show (269 : Int32) = nI 269 from rfl]; simp, if_true, aI_l, d1]
