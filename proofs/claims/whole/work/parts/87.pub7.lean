/-! ===== pairs: check, count, trace ===== -/
def ckR (S : Co) : Nat → Nat → Int32
  | 0, _ => 0
  | m + 1, i => if S.wait.2 i = nI (hoN (dnN (i + 1) S)) then ckR S m (i + 1) else nI (1 + i)
/-- none waits -/
def nwS (S : Co) : Co := (S.1, S.2.1, S.2.2.1, S.2.2.2.1, S.2.2.2.2.1, (0, S.wait.2), S.2.2.2.2.2.2)
theorem DR.none {D : Nat → Int32} {S : Co} (h : DR D S) : DR (upd D 4 0) (nwS S) := by
  have n : ∀ j, j ≠ 4 → upd D 4 0 j = D j := fun j hj => upd_n hj
  have hn := h.rn
  exact ⟨(n _ (by omega)).trans h.nw, (n _ (by omega)).trans h.day, (n _ (by omega)).trans h.z, (n _ (by omega)).trans h.tn, upd_s _ _ _, fun k hk => (n _ (by omega)).trans (h.col k hk), fun k hk => (n _ (by omega)).trans (h.wear k hk), fun i hi x hx => (n _ (by omega)).trans (h.wk i hi x hx), h.pat.keep (fun k hk => n k (by omega)), h.wor.keep (fun k hk => n k (by omega)), fun k hk => absurd hk (Nat.not_lt_zero k), fun k hk => (n _ (by omega)).trans (h.tp k hk), h.rc, h.rw, h.rk, h.rn, h.rd, h.rt, Nat.zero_le _, h.tb⟩
theorem nwS_dn (S : Co) (n : Nat) : hoN (dnN n (nwS S)) = hoN (dnN n S) := by
  rw [show nwS S = wT S (S.2.2.2.2.1, (0, S.wait.2), S.2.2.2.2.2.2) from rfl, dnN_wT]
  rfl
theorem cp_dn (T S : Co) (n : Nat) : hoN (dnN n (cpS T S)) = hoN (dnN n S) := by
  rw [cpS_wT, dnN_wT]
  rfl
theorem cp_wait (T S : Co) (n : Nat) : (dnN n (cpS T S)).wait = (S.wait.1, cpyF S.wait.2 T.wait.2 S.wait.1) := by
  rw [cpS_wT, dnN_wT]
  rfl
theorem j_check : JO M_X11_check M_X12_check [] := by
  apply JO.mk
  intro W X I A hC hM
  have hD := hM.now
  have dn := hM.dn
  have rv := hD.rv
  obtain ⟨V, T, t1, t2, t3, t4⟩ := hC.think 60
  have hr : RowAt V 48 49 20 X.1.wait.1 X.1.wait.2 := t3.now.wait
  have cl := s_Row_clear hr 60
  have F5 : Fr (CoP 33) V (setRow V 48 49 20 0 X.1.wait.2) := setRow_fr _ _ _ _ _ _ ⟨by omega, by omega⟩ ⟨by omega, by omega⟩
  have hC5 : ClAt (setRow V 48 49 20 0 X.1.wait.2) (nwS X.1, X.2) := t3.setNow F5 (t3.now.setWait (fun j _ _ h1 h2 => setRow_ne _ _ _ _ _ _ h1 h2) (hr.set (Nat.zero_le _)))
  have hT5 : CoAt (setRow V 48 49 20 0 X.1.wait.2) 77 (cpS T X.1) := t2.keep (fun j h1 h2 => setRow_ne _ _ _ _ _ _ (by omega) (by omega))
  have loop : ∀ m j (u : AH), j + m = X.1.wait.1 → CoAt u 77 (dnN j (cpS T X.1)) → ClAt u (nwS X.1, X.2) → ∃ U, Ex M_X11_check 60 23 [some (.ref 32), some (.int (nI j))] [] u = some (some (.int (ckR X.1 m j)), U) ∧ ClAt U (nwS X.1, X.2) ∧ Fr CxP u U := by
    intro m
    induction m with
    | zero =>
      intro j u hj i1 i2
      have i5 := i1.wait
      rw [cp_wait] at i5
      have e1 : (nI X.1.wait.1 ≤ nI j) = True := by rw [le_nI (by omega) (by omega)]; apply eq_true; omega
      refine ⟨u, ?_, i2, Fr.refl _ _⟩
      have g5 : gf (hg u 77) 1 5 = some (.ref 92) := i1.k5
      have r5 : gf (hg u 92) 6 1 = some (.int (nI X.1.wait.1)) := i5.2.1
      rw [H_X11_check_23]
      simp only [R_X11_check, SB, i2.f2, g5, r5, e1, if_true, ckR]
    | succ m ih =>
      intro j u hj i1 i2
      have i5 := i1.wait
      rw [cp_wait] at i5
      have e1 : (nI X.1.wait.1 ≤ nI j) = False := by rw [le_nI (by omega) (by omega)]; apply eq_false; omega
      have g5 : gf (hg u 77) 1 5 = some (.ref 92) := i1.k5
      have r5 : gf (hg u 92) 6 1 = some (.int (nI X.1.wait.1)) := i5.2.1
      have dd : (dnN j (cpS T X.1)).day = X.1.day + j := by rw [(dnN_day _ _).1]; rfl
      obtain ⟨v, p1, p2, p3⟩ := s_passDay i2.sta (by decide) i1 (by rw [dd]; omega) 60
      have i3 := i2.setTho p3 p2
      have p2 : CoAt v 77 (dnN (j + 1) (cpS T X.1)) := p2
      have v5 := p2.wait
      rw [cp_wait] at v5
      have gt : Call M_X6_get 60 [.ref 92, .int (nI j)] v = some (some (.int (X.1.wait.2 j)), v) := by
        have := s_Row_get v5 (nI j) 60
        rw [inR_nI (by omega), decide_eq_true (show j < X.1.wait.1 by omega), if_pos rfl, nI_c (by omega)] at this
        have e : cpyF X.1.wait.2 T.wait.2 X.1.wait.1 j = X.1.wait.2 j := if_pos (by omega)
        rw [← e]
        exact this
      have ho := s_countHoles p2.car 60
      have ho : Call M_X0_countHoles 60 [.ref 78] v = some (some (.int (nI (hoN (dnN (j + 1) X.1)))), v) := by
        rw [← cp_dn T]; exact ho
      have h5 : gf (hg v 77) 1 5 = some (.ref 92) := p2.k5
      have h0 : gf (hg v 77) 1 0 = some (.ref 78) := p2.k0
      have k78 : clK (hg v 78) = 0 := clK_gf p2.car.p0
      have k92 : clK (hg v 92) = 6 := clK_gf v5.1
      by_cases q : X.1.wait.2 j = nI (hoN (dnN (j + 1) X.1))
      · obtain ⟨U, u1, u2, u3⟩ := ih (j + 1) v (by omega) p2 i3
        refine ⟨U, ?_, u2, (p3.wide CxP_th).trans u3⟩
        rw [show ckR X.1 (m + 1) j = ckR X.1 m (j + 1) from if_pos q, ← u1, H_X11_check_23]
        simp only [R_X11_check, SB, i2.f2, g5, r5, e1, if_true, if_false, clK_gf i1.k0, p1, i3.f2, h5, k92, gt, h0, k78, ho, q, ls1s, nI_1]
      · refine ⟨v, ?_, i3, p3.wide CxP_th⟩
        rw [show ckR X.1 (m + 1) j = nI (1 + j) from if_neg q, H_X11_check_23]
        simp only [R_X11_check, SB, i2.f2, g5, r5, e1, if_true, if_false, clK_gf i1.k0, p1, i3.f2, h5, k92, gt, h0, k78, ho, q, show (1 : Int32) = nI 1 from rfl, nI_add]
  obtain ⟨U, u1, u2, u3⟩ := loop X.1.wait.1 0 _ (by omega) hT5 hC5
  refine ⟨ckR X.1 X.1.wait.1 0, (nwS X.1, X.2), ⟨U, ?_, u2, ((t4.wide CxP_th).trans (F5.wide CxP_co)).trans u3⟩, fun w => ?_⟩
  · have c3 : clK (hg W 77) = 1 := by obtain ⟨T2, hT2⟩ := hC.tho; exact clK_gf hT2.k0
    have g5 : gf (hg V 33) 1 5 = some (.ref 48) := t3.now.k5
    simp only [C_X11_check, R_X11_check, SB, hC.f0, hC.f1, hC.f2, hC.f3, hC.f4, hC.f5, hC.f6, hC.f7, hC.f8, hC.f9, clK_gf hC.f0, s_isKnot, s_isColour, s_isKindAndM, s_isUse, iw_1, iw_3, iw_6, iw_7, iw_99, iw_100, iw_255, s_rf1 hC, s_rf2 hC, s_rf3 hC, s_rf4 hC, s_rf5 hC, bI_e0, bI_n0, b_ft, bI_01, bI_t, bI_f, i10, i01, if_true, if_false, Bool.true_eq_false, Bool.false_eq_true, or_true, true_or, not_true_eq_false, not_false_eq_true, ls1s, c3, t1, t3.f0, g5, clK_gf hr.1, cl]
    exact u1
  · have d0 := hD.none
    obtain ⟨A1, hA1⟩ : ∃ B, B = upA (upA A 0 (upd (A 0) 4 0)) 3 (cpyF (upd (A 0) 4 0) (A 3) 97) := ⟨_, rfl⟩
    have ka := m_keepAside I (upA A 0 (upd (A 0) 4 0)) w 60
    rw [show (upA A 0 (upd (A 0) 4 0)) 0 = upd (A 0) 4 0 from rfl, show (upA A 0 (upd (A 0) 4 0)) 3 = A 3 from rfl, ← hA1] at ka
    have A10 : A1 0 = upd (A 0) 4 0 := by rw [hA1]; rfl
    have A13 : A1 3 = cpyF (upd (A 0) 4 0) (A 3) 97 := by rw [hA1]; rfl
    have back : ∀ D, Lo (upd (A 0) 4 0) D → Call M_X12_putBack 60 [.ref 123] (mw w I (upA A1 0 D)) = some (none, mw w I (upA A1 0 (upd (A 0) 4 0))) := by
      intro D hL
      have pb := m_putBack I (upA A1 0 D) w 60
      rw [show (upA A1 0 D) 0 = D from rfl, show (upA A1 0 D) 3 = A1 3 from rfl, A13, back_eq hL, upA_upA] at pb
      exact pb
    have ml : ∀ m k D, k + m = X.1.wait.1 → DR D (dnN k (nwS X.1)) → Lo (upd (A 0) 4 0) D → Ex M_X12_check 60 22 [some (.ref 123), some (.int (nI X.1.wait.1)), some (.int 0), some (.int (nI k))] [] (mw w I (upA A1 0 D)) = some (some (.int (ckR X.1 m k)), mw w I (upA A1 0 (upd (A 0) 4 0))) := by
      intro m
      induction m with
      | zero =>
        intro k D hk i1 i2
        have e1 : (nI X.1.wait.1 ≤ nI k) = True := by rw [le_nI (by omega) (by omega)]; apply eq_true; omega
        rw [H_X12_check_22]
        simp only [R_X12_check, SB, mw_o, mo_g, e1, if_true, back D i2, ckR]
      | succ m ih =>
        intro k D hk i1 i2
        have e1 : (nI X.1.wait.1 ≤ nI k) = False := by rw [le_nI (by omega) (by omega)]; apply eq_false; omega
        have dd : (dnN k (nwS X.1)).day = X.1.day + k := by rw [(dnN_day _ _).1]; rfl
        obtain ⟨D2, p1, p2, p3⟩ := m_dayGoes (I := I) (A := upA A1 0 D) (S := dnN k (nwS X.1)) i1 (by rw [dd]; omega) w 60
        rw [upA_upA] at p1
        have p2 : DR D2 (dnN (k + 1) (nwS X.1)) := p2
        have i3 := i2.trans p3
        have ho := m_holes (I := I) (A := upA A1 0 D2) (S := dnN (k + 1) (nwS X.1)) p2 w 60
        rw [nwS_dn] at ho
        have wv : D2 (99 + k) = X.1.wait.2 k := by
          rw [i3 (99 + k) (by omega), upd_n (by omega)]
          exact hD.wt k (by omega)
        by_cases q : X.1.wait.2 k = nI (hoN (dnN (k + 1) X.1))
        · rw [show ckR X.1 (m + 1) k = ckR X.1 m (k + 1) from if_pos q, ← ih (k + 1) D2 (by omega) p2 i3, H_X12_check_22]
          simp (disch := omega) only [R_X12_check, SB, mw_o, mw_a, mo_g, mo_p, mo_pz, mw_so, mw_sa, upA_eq, upA_upA, upd_upd, e1, if_true, if_false, p1, lit_add, aI_a, wv, ho, q, ls1s, nI_1, not_true_eq_false]
        · have z : (nI (1 + k) = (0 : Int32)) = False := by rw [show (0 : Int32) = nI 0 from rfl, eq_nI (by omega) (by decide)]; apply eq_false; omega
          rw [show ckR X.1 (m + 1) k = nI (1 + k) from if_neg q, H_X12_check_22]
          simp (disch := omega) only [R_X12_check, SB, mw_o, mw_a, mo_g, mo_p, mo_pz, mw_so, mw_sa, upA_eq, upA_upA, upd_upd, e1, if_true, if_false, p1, lit_add, aI_a, wv, ho, q, ls1s, nI_1, not_true_eq_false, not_false_eq_true]
          rw [H_X12_check_22]
          by_cases e2 : nI X.1.wait.1 ≤ nI (k + 1)
          · simp only [R_X12_check, SB, mw_o, mo_g, e2, if_true, back D2 i3]
          · simp only [R_X12_check, SB, mw_o, mo_g, e2, if_false, if_true, z, not_false_eq_true, back D2 i3]
    have fin := ml X.1.wait.1 0 (upd (A 0) 4 0) (by omega) d0 (Lo.refl _)
    have A1e : upA A1 0 (upd (A 0) 4 0) = A1 := by rw [← A10, upA_same]
    rw [A1e] at fin
    refine ⟨I, A1, ?_, hM.setNow (by rw [A10]; exact d0) rfl rfl (fun j hj => by rw [hA1, upA_n (by omega), upA_n (by omega)])⟩
    simp (disch := omega) only [C_X12_check, R_X12_check, SB, mw_o, mw_a, mo_g, mo_p, mo_pz, mw_so, mw_sa, upA_eq, upA_upA, upd_upd, m_isKnot, m_isSheet, mi_1, mi_3, mi_5, mi_6, mi_7, mi_69, mi_99, mi_100, mi_255, m_f1, m_f2, m_f3, m_f4, m_f5, bI_e0, bI_n0, b_ft, bI_01, bI_t, bI_f, i10, i01, if_true, if_false, Bool.true_eq_false, Bool.false_eq_true, or_true, true_or, not_true_eq_false, not_false_eq_true, ls1s, aI_l, uI_l, hD.wn, ka]
    exact fin
theorem m_trace_in (x : Int32) {n : Nat} (hn : n < 1000) (w : AH) (lv : Nat) : Call M_X12_in lv [.long x.toInt64, .long 0, .long (nI n - 1).toInt64] w = some (some (.int (bI (inR x n))), w) := s_m_inR x _ n (pk_m1n hn) w lv
theorem j_trace (a : Int32) : JO M_X11_trace M_X12_trace [.int a] := by
  apply JO.mk
  intro W X I A hC hM
  obtain ⟨v0, v1, v2⟩ := hC.vo
  have tm := hM.tm
  have kv : clK (hg W 103) = 6 := clK_gf v2.1
  have h1 := s_Row_has v2 a 60
  have h2 := s_Row_get v2 a 60
  have mi := fun w => m_trace_in a (show X.2.2.2.2.1.1 < 1000 by omega) w 60
  by_cases q : inR a X.2.2.2.2.1.1 = true
  · obtain ⟨k, k1, k2, rfl⟩ := inR_of q
    rw [if_pos q, nI_c k2] at h2
    refine JS.ro hC hM (r := X.2.2.2.2.1.2 k) ?_ (fun w => ⟨I, A, ?_, hM⟩)
    · simp only [C_X11_trace, R_X11_trace, SB, hC.f0, hC.f1, hC.f2, hC.f3, hC.f4, hC.f5, hC.f6, hC.f7, hC.f8, hC.f9, clK_gf hC.f0, s_isKnot, s_isColour, s_isKindAndM, s_isUse, iw_1, iw_3, iw_6, iw_7, iw_99, iw_100, iw_255, s_rf1 hC, s_rf2 hC, s_rf3 hC, s_rf4 hC, s_rf5 hC, bI_e0, bI_n0, b_ft, bI_01, bI_t, bI_f, i10, i01, if_true, if_false, Bool.true_eq_false, Bool.false_eq_true, or_true, true_or, not_true_eq_false, not_false_eq_true, ls1s, v0, kv, h1, h2, q]
    · simp (disch := omega) only [C_X12_trace, R_X12_trace, SB, mw_o, mw_a, mo_g, mo_p, mo_pz, mw_so, mw_sa, upA_eq, upA_upA, upd_upd, m_isKnot, m_isSheet, mi_1, mi_3, mi_5, mi_6, mi_7, mi_69, mi_99, mi_100, mi_255, m_f1, m_f2, m_f3, m_f4, m_f5, bI_e0, bI_n0, b_ft, bI_01, bI_t, bI_f, i10, i01, if_true, if_false, Bool.true_eq_false, Bool.false_eq_true, or_true, true_or, not_true_eq_false, not_false_eq_true, ls1s, hM.tl, mi, q, aI_a, hM.tr k k1]
  · refine JS.er hC hM (k := 2) (by decide) ?_ (fun w => ?_)
    · simp only [C_X11_trace, R_X11_trace, SB, hC.f0, hC.f1, hC.f2, hC.f3, hC.f4, hC.f5, hC.f6, hC.f7, hC.f8, hC.f9, clK_gf hC.f0, s_isKnot, s_isColour, s_isKindAndM, s_isUse, iw_1, iw_3, iw_6, iw_7, iw_99, iw_100, iw_255, s_rf1 hC, s_rf2 hC, s_rf3 hC, s_rf4 hC, s_rf5 hC, bI_e0, bI_n0, b_ft, bI_01, bI_t, bI_f, i10, i01, if_true, if_false, Bool.true_eq_false, Bool.false_eq_true, or_true, true_or, not_true_eq_false, not_false_eq_true, ls1s, v0, kv, h1, inR_f q]
    · simp only [C_X12_trace, R_X12_trace, SB, mw_o, mw_a, mo_g, mo_p, mo_pz, mw_so, mw_sa, upA_eq, upA_upA, upd_upd, m_isKnot, m_isSheet, mi_1, mi_3, mi_5, mi_6, mi_7, mi_69, mi_99, mi_100, mi_255, m_f1, m_f2, m_f3, m_f4, m_f5, bI_e0, bI_n0, b_ft, bI_01, bI_t, bI_f, i10, i01, if_true, if_false, Bool.true_eq_false, Bool.false_eq_true, or_true, true_or, not_true_eq_false, not_false_eq_true, ls1s, hM.tl, mi, inR_f q]
