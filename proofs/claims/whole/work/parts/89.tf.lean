/-! ===== pairs: text ===== -/
theorem JO_text_ok {W : AH} {X : Cx} (hC : ClAt W X) {A : Nat → Nat → Int32} (hD : DR (A 0) X.1) {u : Nat} (hu : u < 2) : ∃ V, Call M_X11_text 60 [.ref 32, .int (nI u)] W = some (some (.int (if (pT u X.1.tape.1 X.1.tape.2).1 = true ∧ X.1.tape.1 ≤ (pT u X.1.tape.1 X.1.tape.2).2.1 then 1 else -10 - nI (pT u X.1.tape.1 X.1.tape.2).2.1)), V) ∧ ClAt V (if (pT u X.1.tape.1 X.1.tape.2).1 = true ∧ X.1.tape.1 ≤ (pT u X.1.tape.1 X.1.tape.2).2.1 then txS (tpS X.1 (0, X.1.tape.2)) u (true, (pT u X.1.tape.1 X.1.tape.2).2.2.2) else tpS X.1 (0, X.1.tape.2), X.2) ∧ Fr CxP W V := by
  have hN := hC.now
  have rt := hD.rt
  have iu : inR (nI u) 2 = true := by rw [inR_nI (by omega)]; exact decide_eq_true hu
  obtain ⟨L, f, hR⟩ := hC.rd
  have hr : RowAt W 46 47 50 X.1.tape.1 X.1.tape.2 := hN.tape
  have rb : RB W X.1.tape.1 X.1.tape.2 := ⟨hr, hC.str, fun k hk => by
    obtain ⟨m, m1, m2, m3⟩ := inR_of (hD.tb k hk)
    exact ⟨m, m1, m3⟩⟩
  obtain ⟨v1, g, f1, f2, f3, f4⟩ := s_faultOf hR rb rt hu 60
  have h1 := hC.setRd f4 f2
  have hr1 : RowAt v1 46 47 50 X.1.tape.1 X.1.tape.2 := h1.now.tape
  have cl := s_Row_clear hr1 60
  have hr2 := hr1.set (L2 := 0) (g := X.1.tape.2) (Nat.zero_le _)
  have F2 : Fr (CoP 33) v1 (setRow v1 46 47 50 0 X.1.tape.2) := setRow_fr _ _ _ _ _ _ ⟨by omega, by omega⟩ ⟨by omega, by omega⟩
  have h2 := h1.setNow F2 (h1.now.setTape (fun j _ _ a b => setRow_ne _ _ _ _ _ _ a b) hr2)
  have R2 : RdAt (setRow v1 46 47 50 0 X.1.tape.2) (pT u X.1.tape.1 X.1.tape.2).2.2.1.length g := f2.keep (fun j a b => setRow_ne _ _ _ _ _ _ (by omega) (by omega))
  generalize setRow v1 46 47 50 0 X.1.tape.2 = v2 at *
  have Fa : Fr CxP W v1 := f4.wide (fun j hj => ⟨by omega, by omega⟩)
  have g4 : gf (hg W 33) 1 4 = some (.ref 46) := hN.k4
  have g41 : gf (hg v1 33) 1 4 = some (.ref 46) := h1.now.k4
  have k99 : clK (hg W 99) = 4 := by
    obtain ⟨⟨b, nm, p, fl, e⟩, -⟩ := hR
    rw [e]; rfl
  have r3 : gf (hg v2 99) 4 0 = some (.ref 100) := by
    obtain ⟨⟨b, nm, p, fl, e⟩, -⟩ := R2
    rw [e]; rfl
  by_cases ok : (pT u X.1.tape.1 X.1.tape.2).1 = true ∧ X.1.tape.1 ≤ (pT u X.1.tape.1 X.1.tape.2).2.1
  · rw [if_pos ok] at f1
    rw [if_pos ok, if_pos ok]
    obtain ⟨L0, f0, lw⟩ := h2.now.tx hu
    obtain ⟨v3, l1, l2, l3⟩ := s_learn lw R2.row (by omega) R2.2.2.2 60
    have lo := s_lawOfU h2.now hu 60
    have m0 : ((-1 : Int32) < 0) = True := by decide
    have lv : LawV v3 (33 + 5 + 4 * u) (true, (pT u X.1.tape.1 X.1.tape.2).2.2.2) := by
      refine ⟨_, _, l2, (decide_eq_true (pT_pos ok.1)).symm, fun _ G a b c => evI_pT rt ok.1 (fun k hk => ?_) G a b c⟩
      rw [← f3 k hk]
      simp [cpyF, hk]
    have h3 := h2.setNow (l3.wide (fun j hj => ⟨by omega, by omega⟩)) (h2.now.setTx hu (fun j _ _ a b => l3.2.2 j (by omega)) lv)
    refine ⟨v3, ?_, h3, Fa.trans ((F2.wide CxP_co).trans (l3.wide (fun j hj => ⟨by omega, by omega⟩)))⟩
    generalize (-1 : Int32) = mm at f1 m0
    simp only [C_X11_text, R_X11_text, SB, hC.f0, hC.f1, hC.f2, hC.f3, hC.f4, hC.f5, hC.f6, hC.f7, hC.f8, hC.f9, clK_gf hC.f0, s_isKnot, s_isColour, s_isKindAndM, s_isUse, iw_1, iw_3, iw_6, iw_7, iw_99, iw_100, iw_255, s_rf1 hC, s_rf2 hC, s_rf3 hC, s_rf4 hC, s_rf5 hC, bI_e0, bI_n0, b_ft, bI_01, bI_t, bI_f, i10, i01, if_true, if_false, Bool.true_eq_false, Bool.false_eq_true, or_true, true_or, not_true_eq_false, not_false_eq_true, ls1s, iu, g4, k99, f1, h1.f0, g41, clK_gf hr1.1, cl, m0, h2.f0, h2.f3, clK_gf h2.now.k0, lo, r3, clK_gf lw.p0, l1]
  · rw [if_neg ok] at f1
    rw [if_neg ok, if_neg ok]
    refine ⟨v2, ?_, h2, Fa.trans (F2.wide CxP_co)⟩
    have pw := pT_w u X.1.tape.1 X.1.tape.2
    have pb : (pT u X.1.tape.1 X.1.tape.2).2.1 ≤ X.1.tape.1 := pw.2.1
    have m0 : (nI (pT u X.1.tape.1 X.1.tape.2).2.1 < 0) = False := eq_false (nI_pos (by omega))
    simp only [C_X11_text, R_X11_text, SB, hC.f0, hC.f1, hC.f2, hC.f3, hC.f4, hC.f5, hC.f6, hC.f7, hC.f8, hC.f9, clK_gf hC.f0, s_isKnot, s_isColour, s_isKindAndM, s_isUse, iw_1, iw_3, iw_6, iw_7, iw_99, iw_100, iw_255, s_rf1 hC, s_rf2 hC, s_rf3 hC, s_rf4 hC, s_rf5 hC, bI_e0, bI_n0, b_ft, bI_01, bI_t, bI_f, i10, i01, if_true, if_false, Bool.true_eq_false, Bool.false_eq_true, or_true, true_or, not_true_eq_false, not_false_eq_true, ls1s, iu, g4, k99, f1, h1.f0, g41, clK_gf hr1.1, cl, m0]
theorem j_text (a : Int32) : JO M_X11_text M_X12_text [.int a] := by
  apply JO.mk
  intro W X I A hC hM
  have hD := hM.now
  by_cases q : inR a 2 = true
  · obtain ⟨u, u1, u2, rfl⟩ := inR_of q
    obtain ⟨V, c1, c2, c3⟩ := JO_text_ok hC hD u1
    have rt := hD.rt
    have pw := (pT_w u X.1.tape.1 X.1.tape.2)
    have pb : (pT u X.1.tape.1 X.1.tape.2).2.1 ≤ X.1.tape.1 := pw.2.1
    refine ⟨_, _, ⟨V, c1, c2, c3⟩, fun w => ?_⟩
    obtain ⟨v, J, w1, w2, w3, w4⟩ := m_worked (w := w) (I := I) (A := upA A 0 (upd (A 0) 3 0)) (bs := 219) (n := X.1.tape.1) (u := u) (a := A 4 0) (b := A 4 1) (c := A 4 2) (by omega) rt u1 rfl rfl rfl 60
    have ep : pT u X.1.tape.1 (mBy (upA A 0 (upd (A 0) 3 0)) 219) = pT u X.1.tape.1 X.1.tape.2 := pT_congr (fun k hk => by
      show upd (A 0) 3 0 (219 + k) = _
      rw [upd_n (by omega)]; exact hD.tp k hk)
    rw [ep] at w3 w4
    have w1 : Call M_X12_worked 60 [.ref 123, .int 219, .int (nI X.1.tape.1), .int (nI u)] (mw w I (upA A 0 (upd (A 0) 3 0))) = _ := w1
    have hM2 : ∀ S D, DR D S → (S.day = X.1.day) → Md J (upA A 0 D) (S, X.2) := fun S D h e => (hM.set0 h (Or.inl e)).kp (w2 2 (by omega)) (w2 21 (by omega)) (fun _ _ => rfl)
    have d0 := hD.clear X.1.tape.2
    by_cases ok : (pT u X.1.tape.1 X.1.tape.2).1 = true ∧ X.1.tape.1 ≤ (pT u X.1.tape.1 X.1.tape.2).2.1
    · rw [if_pos ok, if_pos ok]
      obtain ⟨-, w5⟩ := w3 ⟨ok.1, by omega⟩
      have np : 0 < X.1.tape.1 := by have := pT_pos ok.1; have := pw.2.2; omega
      have m0 : ((-1 : Int32) < 0) = True := by decide
      obtain ⟨D, l1, l2, l3⟩ := loopE (fun k (D : Nat → Int32) => Ex M_X12_text 60 68 [some (.ref 123), some (.int (nI u)), some (.int (nI X.1.tape.1)), some (.int v), some (.int (nI k))] [] (mw w J (upA A 0 D))) (fun k D => (∀ j, j < k → D (119 + 50 * u + j) = X.1.tape.2 j) ∧ (∀ j, (j < 119 + 50 * u ∨ 119 + 50 * u + k ≤ j) → D j = upd (upd (A 0) 3 0) (97 + u) (nI X.1.tape.1) j)) X.1.tape.1 (by
        intro k D hk ⟨i1, i2⟩
        have e1 : (nI X.1.tape.1 ≤ nI k) = False := by rw [le_nI (by omega) (by omega)]; apply eq_false; omega
        have dk : D (219 + k) = X.1.tape.2 k := by
          rw [i2 _ (by omega), upd_n (by omega), upd_n (by omega)]; exact hD.tp k hk
        refine ⟨upd D (119 + 50 * u + k) (X.1.tape.2 k), ?_, fun j hj => ?_, fun j hj => ?_⟩
        · rw [H_X12_text_68]
          simp (disch := omega) only [R_X12_text_p0, R_X12_text_p1, SB, mw_o, mw_a, mo_g, mo_p, mo_pz, mw_so, mw_sa, upA_eq, upA_upA, upd_upd, m_isKnot, m_isSheet, mi_1, mi_3, mi_5, mi_6, mi_7, mi_69, mi_99, mi_100, mi_255, m_f1, m_f2, m_f3, m_f4, m_f5, bI_e0, bI_n0, b_ft, bI_01, bI_t, bI_f, i10, i01, if_true, if_false, Bool.true_eq_false, Bool.false_eq_true, or_true, true_or, not_true_eq_false, not_false_eq_true, ls1s, e1, lit_mul, lit_add, nI_add, aI_a, uI_0, dk, nI_1]
        · by_cases z : j = k
          · subst z; exact upd_s _ _ _
          · rw [upd_n (by omega)]; exact i1 j (by omega)
        · rw [upd_n (by omega)]; exact i2 j (by omega)) (upd (upd (A 0) 3 0) (97 + u) (nI X.1.tape.1)) ⟨fun j hj => absurd hj (by omega), fun _ _ => rfl⟩
      refine ⟨J, upA A 0 D, ?_, hM2 _ D (d0.setTx u1 (fun j h1 h2 => ?_) ⟨X.1.tape.1, ?_, rt, (decide_eq_true np).symm, fun _ => ?_⟩) ?_⟩
      · generalize (-1 : Int32) = mm at w5 m0
        simp (disch := omega) only [C_X12_text, R_X12_text_p0, R_X12_text_p1, SB, mw_o, mw_a, mo_g, mo_p, mo_pz, mw_so, mw_sa, upA_eq, upA_upA, upd_upd, m_isKnot, m_isSheet, mi_1, mi_3, mi_5, mi_6, mi_7, mi_69, mi_99, mi_100, mi_255, m_f1, m_f2, m_f3, m_f4, m_f5, bI_e0, bI_n0, b_ft, bI_01, bI_t, bI_f, i10, i01, if_true, if_false, Bool.true_eq_false, Bool.false_eq_true, or_true, true_or, not_true_eq_false, not_false_eq_true, ls1s, q, aI_l, uI_l, hD.tn, w1, w5, m0, lit_add, uI_0]
        refine (show _ = _ from rfl).trans (l1.trans ?_)
        rw [H_X12_text_68]
        simp (disch := omega) only [R_X12_text_p0, R_X12_text_p1, SB, mw_o, mw_a, mo_g, mo_p, mo_pz, mw_so, mw_sa, upA_eq, upA_upA, upd_upd, m_isKnot, m_isSheet, mi_1, mi_3, mi_5, mi_6, mi_7, mi_69, mi_99, mi_100, mi_255, m_f1, m_f2, m_f3, m_f4, m_f5, bI_e0, bI_n0, b_ft, bI_01, bI_t, bI_f, i10, i01, if_true, if_false, Bool.true_eq_false, Bool.false_eq_true, or_true, true_or, not_true_eq_false, not_false_eq_true, ls1s, show (nI X.1.tape.1 ≤ nI X.1.tape.1) = True from by simp]
      · rw [l3 j (by omega), upd_n h1]
      · rw [l3 _ (by omega), upd_s]
      · have e2 : pT u X.1.tape.1 (fun k => D (119 + 50 * u + k)) = pT u X.1.tape.1 X.1.tape.2 := pT_congr (fun k hk => l2 k hk)
        rw [e2]
        exact ⟨ok.1, by omega, rfl⟩
      · obtain h2 : u = 0 ∨ u = 1 := by omega
        rcases h2 with rfl | rfl <;> rfl
    · rw [if_neg ok, if_neg ok]
      have w5 := w4 (fun x => ok ⟨x.1, by omega⟩)
      have m0 : (nI (pT u X.1.tape.1 X.1.tape.2).2.1 < 0) = False := eq_false (nI_pos (by omega))
      refine ⟨J, upA A 0 (upd (A 0) 3 0), ?_, hM2 _ _ d0 rfl⟩
      simp (disch := omega) only [C_X12_text, R_X12_text_p0, R_X12_text_p1, SB, mw_o, mw_a, mo_g, mo_p, mo_pz, mw_so, mw_sa, upA_eq, upA_upA, upd_upd, m_isKnot, m_isSheet, mi_1, mi_3, mi_5, mi_6, mi_7, mi_69, mi_99, mi_100, mi_255, m_f1, m_f2, m_f3, m_f4, m_f5, bI_e0, bI_n0, b_ft, bI_01, bI_t, bI_f, i10, i01, if_true, if_false, Bool.true_eq_false, Bool.false_eq_true, or_true, true_or, not_true_eq_false, not_false_eq_true, ls1s, q, aI_l, uI_l, hD.tn, w1, w5, m0]
  · refine JS.er hC hM (k := 1) (by decide) ?_ (fun w => ?_)
    · simp only [C_X11_text, R_X11_text, SB, hC.f0, hC.f1, hC.f2, hC.f3, hC.f4, hC.f5, hC.f6, hC.f7, hC.f8, hC.f9, clK_gf hC.f0, s_isKnot, s_isColour, s_isKindAndM, s_isUse, iw_1, iw_3, iw_6, iw_7, iw_99, iw_100, iw_255, s_rf1 hC, s_rf2 hC, s_rf3 hC, s_rf4 hC, s_rf5 hC, bI_e0, bI_n0, b_ft, bI_01, bI_t, bI_f, i10, i01, if_true, if_false, Bool.true_eq_false, Bool.false_eq_true, or_true, true_or, not_true_eq_false, not_false_eq_true, ls1s, inR_f q]
    · simp only [C_X12_text, R_X12_text_p0, R_X12_text_p1, SB, mw_o, mw_a, mo_g, mo_p, mo_pz, mw_so, mw_sa, upA_eq, upA_upA, upd_upd, m_isKnot, m_isSheet, mi_1, mi_3, mi_5, mi_6, mi_7, mi_69, mi_99, mi_100, mi_255, m_f1, m_f2, m_f3, m_f4, m_f5, bI_e0, bI_n0, b_ft, bI_01, bI_t, bI_f, i10, i01, if_true, if_false, Bool.true_eq_false, Bool.false_eq_true, or_true, true_or, not_true_eq_false, not_false_eq_true, ls1s, inR_f q]
