/-! ===== pairs: what is told of the carpet ===== -/
theorem ClAt.car {W : AH} {X : Cx} (hC : ClAt W X) : CarAt W 34 X.1.col X.1.wear := hC.now.car
theorem ClAt.g0 {W : AH} {X : Cx} (hC : ClAt W X) : gf (hg W 33) 1 0 = some (.ref 34) := hC.now.k0
theorem ClAt.k34 {W : AH} {X : Cx} (hC : ClAt W X) : clK (hg W 34) = 0 := clK_gf hC.now.car.p0
theorem land_self (col : Nat → Nat) {k : Nat} (hk : k < 36) : (land col k).testBit k = true := by
  obtain ⟨c1, c2, c3, c4, c5⟩ := gro_all (two_lt hk) (csN_lt col (col k))
  exact c3 k hk (by rw [Nat.testBit_two_pow]; simp) (by rw [csN_b]; simp [hk])
theorem pc_36 {n : Nat} (h : n < 2 ^ 36) : pc n = cnt (fun k => n.testBit k) 36 := by
  unfold pc
  rw [cnt_add _ 36 4, cnt_congr (P := fun k => n.testBit (36 + k)) (Q := fun _ => false) (fun k _ => tb36 h (by omega)), cnt_false, Nat.add_zero]
theorem SpO.m_eq {col : Nat → Nat} {knot : Nat} (hk : knot < 36) {F R : Nat → Int32} {r : Nat → Nat} {m : Nat} (h : SpO col knot F R r m) : m = pc (land col knot) := by
  rw [pc_36 (land_lt col hk)]; exact h.1
theorem SpO.m_le {col : Nat → Nat} {knot : Nat} {F R : Nat → Int32} {r : Nat → Nat} {m : Nat} (h : SpO col knot F R r m) : m ≤ 36 := by
  rw [h.1]; exact cnt_le _ _
/-- after spreading: nothing that counts has changed -/
theorem Md.sp {I : Nat → Int32} {A : Nat → Nat → Int32} {X : Cx} (h : Md I A X) (x : Int32) (F R : Nat → Int32) : Md (upd I 13 x) (upA (upA A 5 R) 6 F) X := h.kp (upd_n (by decide)) (upd_n (by decide)) (fun j hj => by rw [upA_n (by omega), upA_n (by omega)])
theorem j_ofKnot (a b : Int32) : JO M_X11_ofKnot M_X12_ofKnot [.int a, .int b] := by
  apply JO.mk
  intro W X I A hC hM
  have hD := hM.now
  by_cases q1 : inR a 36 = true
  · obtain ⟨k, k1, k2, rfl⟩ := inR_of q1
    have lo := s_landOf hC.car k1 60
    have ll := land_lt X.1.col k1
    have ls := land_self X.1.col k1
    have l0 : land X.1.col k ≠ 0 := fun z => by rw [z] at ls; simp at ls
    have g0 := hC.g0
    have k34 := hC.k34
    by_cases q2 : inR b 6 = true
    · obtain ⟨m, m1, m2, rfl⟩ := inR_of q2
      have n2 : ∀ j : Nat, j < 7 → (nI m = nI j) = (m = j) := fun j hj => eq_nI (by omega) (by omega)
      obtain hm : m = 0 ∨ m = 1 ∨ m = 2 ∨ m = 3 ∨ m = 4 ∨ m = 5 := by omega
      rcases hm with rfl | rfl | rfl | rfl | rfl | rfl
      · refine JS.ro hC hM (r := nI (X.1.col k)) ?_ (fun w => ⟨I, A, ?_, hM⟩)
        · simp only [C_X11_ofKnot, R_X11_ofKnot, SB, hC.f0, hC.f1, hC.f2, hC.f3, hC.f4, hC.f5, hC.f6, hC.f7, hC.f8, hC.f9, clK_gf hC.f0, s_isKnot, s_isColour, s_isKindAndM, s_isUse, iw_1, iw_3, iw_6, iw_7, iw_99, iw_100, iw_255, s_rf1 hC, s_rf2 hC, s_rf3 hC, s_rf4 hC, s_rf5 hC, bI_e0, bI_n0, b_ft, bI_01, bI_t, bI_f, i10, i01, if_true, if_false, Bool.true_eq_false, Bool.false_eq_true, or_true, true_or, not_true_eq_false, not_false_eq_true, ls1s, q1, g0, k34, s_colourOf hC.car k1, show (nI 0 = (0 : Int32)) = True from by decide]
        · simp (disch := omega) only [C_X12_ofKnot, R_X12_ofKnot, SB, mw_o, mw_a, mo_g, mo_p, mo_pz, mw_so, mw_sa, upA_eq, upA_upA, upd_upd, m_isKnot, m_isSheet, mi_1, mi_3, mi_5, mi_6, mi_7, mi_69, mi_99, mi_100, mi_255, m_f1, m_f2, m_f3, m_f4, m_f5, bI_e0, bI_n0, b_ft, bI_01, bI_t, bI_f, i10, i01, if_true, if_false, Bool.true_eq_false, Bool.false_eq_true, or_true, true_or, not_true_eq_false, not_false_eq_true, ls1s, q1, q2, show (nI 0 ≤ (3 : Int32)) = True from by decide, show (nI 0 = (0 : Int32)) = True from by decide, lit_add, aI_a, hD.col k k1]
      · refine JS.ro hC hM (r := nI (X.1.wear k)) ?_ (fun w => ⟨I, A, ?_, hM⟩)
        · simp only [C_X11_ofKnot, R_X11_ofKnot, SB, hC.f0, hC.f1, hC.f2, hC.f3, hC.f4, hC.f5, hC.f6, hC.f7, hC.f8, hC.f9, clK_gf hC.f0, s_isKnot, s_isColour, s_isKindAndM, s_isUse, iw_1, iw_3, iw_6, iw_7, iw_99, iw_100, iw_255, s_rf1 hC, s_rf2 hC, s_rf3 hC, s_rf4 hC, s_rf5 hC, bI_e0, bI_n0, b_ft, bI_01, bI_t, bI_f, i10, i01, if_true, if_false, Bool.true_eq_false, Bool.false_eq_true, or_true, true_or, not_true_eq_false, not_false_eq_true, ls1s, q1, g0, k34, s_wearOf hC.car k1, show (nI 1 = (0 : Int32)) = False from by decide, show (nI 1 = (1 : Int32)) = True from by decide]
        · simp (disch := omega) only [C_X12_ofKnot, R_X12_ofKnot, SB, mw_o, mw_a, mo_g, mo_p, mo_pz, mw_so, mw_sa, upA_eq, upA_upA, upd_upd, m_isKnot, m_isSheet, mi_1, mi_3, mi_5, mi_6, mi_7, mi_69, mi_99, mi_100, mi_255, m_f1, m_f2, m_f3, m_f4, m_f5, bI_e0, bI_n0, b_ft, bI_01, bI_t, bI_f, i10, i01, if_true, if_false, Bool.true_eq_false, Bool.false_eq_true, or_true, true_or, not_true_eq_false, not_false_eq_true, ls1s, q1, q2, show (nI 1 ≤ (3 : Int32)) = True from by decide, show (nI 1 = (0 : Int32)) = False from by decide, show (nI 1 = (1 : Int32)) = True from by decide, lit_add, aI_a, hD.wear k k1]
      · obtain ⟨v, a1, a2, a3⟩ := s_patternOf hC.now k1 60
        refine ⟨nI (ptN X.1 k), X, ⟨v, ?_, hC.same a3 a2, a3.wide CxP_st⟩, fun w => ?_⟩
        · simp only [C_X11_ofKnot, R_X11_ofKnot, SB, hC.f0, hC.f1, hC.f2, hC.f3, hC.f4, hC.f5, hC.f6, hC.f7, hC.f8, hC.f9, clK_gf hC.f0, s_isKnot, s_isColour, s_isKindAndM, s_isUse, iw_1, iw_3, iw_6, iw_7, iw_99, iw_100, iw_255, s_rf1 hC, s_rf2 hC, s_rf3 hC, s_rf4 hC, s_rf5 hC, bI_e0, bI_n0, b_ft, bI_01, bI_t, bI_f, i10, i01, if_true, if_false, Bool.true_eq_false, Bool.false_eq_true, or_true, true_or, not_true_eq_false, not_false_eq_true, ls1s, q1, clK_gf hC.now.k0, a1, show (nI 2 = (0 : Int32)) = False from by decide, show (nI 2 = (1 : Int32)) = False from by decide, show (nI 2 = (2 : Int32)) = True from by decide]
        · obtain ⟨J, B, b1, b2⟩ := m_patternOf (w := w) (I := I) hD k1 60
          refine ⟨J, B, ?_, hM.kq b2⟩
          simp (disch := omega) only [C_X12_ofKnot, R_X12_ofKnot, SB, mw_o, mw_a, mo_g, mo_p, mo_pz, mw_so, mw_sa, upA_eq, upA_upA, upd_upd, m_isKnot, m_isSheet, mi_1, mi_3, mi_5, mi_6, mi_7, mi_69, mi_99, mi_100, mi_255, m_f1, m_f2, m_f3, m_f4, m_f5, bI_e0, bI_n0, b_ft, bI_01, bI_t, bI_f, i10, i01, if_true, if_false, Bool.true_eq_false, Bool.false_eq_true, or_true, true_or, not_true_eq_false, not_false_eq_true, ls1s, q1, q2, show (nI 2 ≤ (3 : Int32)) = True from by decide, show (nI 2 = (0 : Int32)) = False from by decide, show (nI 2 = (1 : Int32)) = False from by decide, show (nI 2 = (2 : Int32)) = True from by decide, b1]
      · obtain ⟨v, a1, a2, a3⟩ := s_worthOf hC.now k1 60
        refine ⟨nI (woN X.1 k), X, ⟨v, ?_, hC.same a3 a2, a3.wide CxP_st⟩, fun w => ?_⟩
        · simp only [C_X11_ofKnot, R_X11_ofKnot, SB, hC.f0, hC.f1, hC.f2, hC.f3, hC.f4, hC.f5, hC.f6, hC.f7, hC.f8, hC.f9, clK_gf hC.f0, s_isKnot, s_isColour, s_isKindAndM, s_isUse, iw_1, iw_3, iw_6, iw_7, iw_99, iw_100, iw_255, s_rf1 hC, s_rf2 hC, s_rf3 hC, s_rf4 hC, s_rf5 hC, bI_e0, bI_n0, b_ft, bI_01, bI_t, bI_f, i10, i01, if_true, if_false, Bool.true_eq_false, Bool.false_eq_true, or_true, true_or, not_true_eq_false, not_false_eq_true, ls1s, q1, clK_gf hC.now.k0, a1, show (nI 3 = (0 : Int32)) = False from by decide, show (nI 3 = (1 : Int32)) = False from by decide, show (nI 3 = (2 : Int32)) = False from by decide, show (nI 3 = (3 : Int32)) = True from by decide]
        · obtain ⟨J, B, b1, b2⟩ := m_worthOf (w := w) (I := I) hD k1 60
          refine ⟨J, B, ?_, hM.kq b2⟩
          simp (disch := omega) only [C_X12_ofKnot, R_X12_ofKnot, SB, mw_o, mw_a, mo_g, mo_p, mo_pz, mw_so, mw_sa, upA_eq, upA_upA, upd_upd, m_isKnot, m_isSheet, mi_1, mi_3, mi_5, mi_6, mi_7, mi_69, mi_99, mi_100, mi_255, m_f1, m_f2, m_f3, m_f4, m_f5, bI_e0, bI_n0, b_ft, bI_01, bI_t, bI_f, i10, i01, if_true, if_false, Bool.true_eq_false, Bool.false_eq_true, or_true, true_or, not_true_eq_false, not_false_eq_true, ls1s, q1, q2, show (nI 3 ≤ (3 : Int32)) = True from by decide, show (nI 3 = (0 : Int32)) = False from by decide, show (nI 3 = (1 : Int32)) = False from by decide, show (nI 3 = (2 : Int32)) = False from by decide, show (nI 3 = (3 : Int32)) = True from by decide, b1]
      · refine JS.ro hC hM (r := nI (pc (land X.1.col k))) ?_ (fun w => ?_)
        · simp only [C_X11_ofKnot, R_X11_ofKnot, SB, hC.f0, hC.f1, hC.f2, hC.f3, hC.f4, hC.f5, hC.f6, hC.f7, hC.f8, hC.f9, clK_gf hC.f0, s_isKnot, s_isColour, s_isKindAndM, s_isUse, iw_1, iw_3, iw_6, iw_7, iw_99, iw_100, iw_255, s_rf1 hC, s_rf2 hC, s_rf3 hC, s_rf4 hC, s_rf5 hC, bI_e0, bI_n0, b_ft, bI_01, bI_t, bI_f, i10, i01, if_true, if_false, Bool.true_eq_false, Bool.false_eq_true, or_true, true_or, not_true_eq_false, not_false_eq_true, ls1s, q1, g0, k34, lo, s_bitCount _ (Nat.lt_trans ll (by decide)), show (nI 4 = (0 : Int32)) = False from by decide, show (nI 4 = (1 : Int32)) = False from by decide, show (nI 4 = (2 : Int32)) = False from by decide, show (nI 4 = (3 : Int32)) = False from by decide, show (nI 4 = (4 : Int32)) = True from by decide]
        · obtain ⟨F, R, r, m, s1, s2⟩ := m_spreads (I := I) hD k1 w 60
          refine ⟨upd I 13 (nI m), upA (upA A 5 R) 6 F, ?_, hM.sp _ _ _⟩
          rw [← s2.m_eq k1]
          simp (disch := omega) only [C_X12_ofKnot, R_X12_ofKnot, SB, mw_o, mw_a, mo_g, mo_p, mo_pz, mw_so, mw_sa, upA_eq, upA_upA, upd_upd, m_isKnot, m_isSheet, mi_1, mi_3, mi_5, mi_6, mi_7, mi_69, mi_99, mi_100, mi_255, m_f1, m_f2, m_f3, m_f4, m_f5, bI_e0, bI_n0, b_ft, bI_01, bI_t, bI_f, i10, i01, if_true, if_false, Bool.true_eq_false, Bool.false_eq_true, or_true, true_or, not_true_eq_false, not_false_eq_true, ls1s, q1, q2, show (nI 4 ≤ (3 : Int32)) = False from by decide, show (nI 4 = (0 : Int32)) = False from by decide, show (nI 4 = (1 : Int32)) = False from by decide, show (nI 4 = (2 : Int32)) = False from by decide, show (nI 4 = (3 : Int32)) = False from by decide, show (nI 4 = (4 : Int32)) = True from by decide, s1, upd_s]
      · refine JS.ro hC hM (r := nI (low (land X.1.col k))) ?_ (fun w => ?_)
        · have le := s_least ll W 60
          rw [if_neg l0] at le
          simp only [C_X11_ofKnot, R_X11_ofKnot, SB, hC.f0, hC.f1, hC.f2, hC.f3, hC.f4, hC.f5, hC.f6, hC.f7, hC.f8, hC.f9, clK_gf hC.f0, s_isKnot, s_isColour, s_isKindAndM, s_isUse, iw_1, iw_3, iw_6, iw_7, iw_99, iw_100, iw_255, s_rf1 hC, s_rf2 hC, s_rf3 hC, s_rf4 hC, s_rf5 hC, bI_e0, bI_n0, b_ft, bI_01, bI_t, bI_f, i10, i01, if_true, if_false, Bool.true_eq_false, Bool.false_eq_true, or_true, true_or, not_true_eq_false, not_false_eq_true, ls1s, q1, g0, k34, lo, le, show (nI 5 = (0 : Int32)) = False from by decide, show (nI 5 = (1 : Int32)) = False from by decide, show (nI 5 = (2 : Int32)) = False from by decide, show (nI 5 = (3 : Int32)) = False from by decide, show (nI 5 = (4 : Int32)) = False from by decide, show (nI 5 = (5 : Int32)) = True from by decide]
        · obtain ⟨F, R, r, m, s1, s2⟩ := m_spreads (I := I) hD k1 w 60
          refine ⟨upd I 13 (nI m), upA (upA A 5 R) 6 F, ?_, hM.sp _ _ _⟩
          have ml := m_leastSpread (I := upd I 13 (nI m)) (A := upA (upA A 5 R) 6 F) k1 s2.2.1 w 60
          simp (disch := omega) only [C_X12_ofKnot, R_X12_ofKnot, SB, mw_o, mw_a, mo_g, mo_p, mo_pz, mw_so, mw_sa, upA_eq, upA_upA, upd_upd, m_isKnot, m_isSheet, mi_1, mi_3, mi_5, mi_6, mi_7, mi_69, mi_99, mi_100, mi_255, m_f1, m_f2, m_f3, m_f4, m_f5, bI_e0, bI_n0, b_ft, bI_01, bI_t, bI_f, i10, i01, if_true, if_false, Bool.true_eq_false, Bool.false_eq_true, or_true, true_or, not_true_eq_false, not_false_eq_true, ls1s, q1, q2, show (nI 5 ≤ (3 : Int32)) = False from by decide, show (nI 5 = (0 : Int32)) = False from by decide, show (nI 5 = (1 : Int32)) = False from by decide, show (nI 5 = (2 : Int32)) = False from by decide, show (nI 5 = (3 : Int32)) = False from by decide, show (nI 5 = (4 : Int32)) = False from by decide, s1, ml]
    · have nb : ∀ j : Nat, j < 6 → (b = nI j) = False := fun j hj => eq_false (fun e => q2 (by rw [e, inR_nI (by omega)]; exact decide_eq_true hj))
      have b0 : (b = 0) = False := nb 0 (by decide)
      have b1 : (b = 1) = False := nb 1 (by decide)
      have b2 : (b = 2) = False := nb 2 (by decide)
      have b3 : (b = 3) = False := nb 3 (by decide)
      have b4 : (b = 4) = False := nb 4 (by decide)
      have b5 : (b = 5) = False := nb 5 (by decide)
      refine JS.er hC hM (k := 1) (by decide) ?_ (fun w => ?_)
      · simp only [C_X11_ofKnot, R_X11_ofKnot, SB, hC.f0, hC.f1, hC.f2, hC.f3, hC.f4, hC.f5, hC.f6, hC.f7, hC.f8, hC.f9, clK_gf hC.f0, s_isKnot, s_isColour, s_isKindAndM, s_isUse, iw_1, iw_3, iw_6, iw_7, iw_99, iw_100, iw_255, s_rf1 hC, s_rf2 hC, s_rf3 hC, s_rf4 hC, s_rf5 hC, bI_e0, bI_n0, b_ft, bI_01, bI_t, bI_f, i10, i01, if_true, if_false, Bool.true_eq_false, Bool.false_eq_true, or_true, true_or, not_true_eq_false, not_false_eq_true, ls1s, q1, b0, b1, b2, b3, b4, b5]
      · simp only [C_X12_ofKnot, R_X12_ofKnot, SB, mw_o, mw_a, mo_g, mo_p, mo_pz, mw_so, mw_sa, upA_eq, upA_upA, upd_upd, m_isKnot, m_isSheet, mi_1, mi_3, mi_5, mi_6, mi_7, mi_69, mi_99, mi_100, mi_255, m_f1, m_f2, m_f3, m_f4, m_f5, bI_e0, bI_n0, b_ft, bI_01, bI_t, bI_f, i10, i01, if_true, if_false, Bool.true_eq_false, Bool.false_eq_true, or_true, true_or, not_true_eq_false, not_false_eq_true, ls1s, q1, inR_f q2]
  · refine JS.er hC hM (k := 1) (by decide) ?_ (fun w => ?_)
    · simp only [C_X11_ofKnot, R_X11_ofKnot, SB, hC.f0, hC.f1, hC.f2, hC.f3, hC.f4, hC.f5, hC.f6, hC.f7, hC.f8, hC.f9, clK_gf hC.f0, s_isKnot, s_isColour, s_isKindAndM, s_isUse, iw_1, iw_3, iw_6, iw_7, iw_99, iw_100, iw_255, s_rf1 hC, s_rf2 hC, s_rf3 hC, s_rf4 hC, s_rf5 hC, bI_e0, bI_n0, b_ft, bI_01, bI_t, bI_f, i10, i01, if_true, if_false, Bool.true_eq_false, Bool.false_eq_true, or_true, true_or, not_true_eq_false, not_false_eq_true, ls1s, inR_f q1]
    · simp only [C_X12_ofKnot, R_X12_ofKnot, SB, mw_o, mw_a, mo_g, mo_p, mo_pz, mw_so, mw_sa, upA_eq, upA_upA, upd_upd, m_isKnot, m_isSheet, mi_1, mi_3, mi_5, mi_6, mi_7, mi_69, mi_99, mi_100, mi_255, m_f1, m_f2, m_f3, m_f4, m_f5, bI_e0, bI_n0, b_ft, bI_01, bI_t, bI_f, i10, i01, if_true, if_false, Bool.true_eq_false, Bool.false_eq_true, or_true, true_or, not_true_eq_false, not_false_eq_true, ls1s, inR_f q1]
theorem j_ofWalker (a b : Int32) : JO M_X11_ofWalker M_X12_ofWalker [.int a, .int b] := by
  apply JO.mk
  intro W X I A hC hM
  have hD := hM.now
  have hN := hC.now
  have rn := hN.rn
  have n0 := clK_gf hN.k0
  have mW := fun v w => m_isWalker (I := I) hD v w 60
  by_cases q1 : inR a X.1.nw = true
  · obtain ⟨k, k1, k2, rfl⟩ := inR_of q1
    have w1 := s_wOf hC q1 k2 60
    have hw : WkAt W (50 + k) _ _ _ _ := hN.wk k (by omega)
    have c9 := clK_gf hw.p0
    by_cases q2 : inR b 6 = true
    · obtain ⟨m, m1, m2, rfl⟩ := inR_of q2
      obtain hm : m = 0 ∨ m = 1 ∨ m = 2 ∨ m = 3 ∨ m = 4 ∨ m = 5 := by omega
      rcases hm with rfl | rfl | rfl | rfl | rfl | rfl
      · refine JS.ro hC hM (r := nI (X.1.wk k 0)) ?_ (fun w => ⟨I, A, ?_, hM⟩)
        · simp only [C_X11_ofWalker, R_X11_ofWalker, SB, hC.f0, hC.f1, hC.f2, hC.f3, hC.f4, hC.f5, hC.f6, hC.f7, hC.f8, hC.f9, clK_gf hC.f0, s_isKnot, s_isColour, s_isKindAndM, s_isUse, iw_1, iw_3, iw_6, iw_7, iw_99, iw_100, iw_255, s_rf1 hC, s_rf2 hC, s_rf3 hC, s_rf4 hC, s_rf5 hC, bI_e0, bI_n0, b_ft, bI_01, bI_t, bI_f, i10, i01, if_true, if_false, Bool.true_eq_false, Bool.false_eq_true, or_true, true_or, not_true_eq_false, not_false_eq_true, ls1s, n0, w1, hw.p0, show (nI 0 = (0 : Int32)) = True from by decide]
        · simp (disch := omega) only [C_X12_ofWalker, R_X12_ofWalker, SB, mw_o, mw_a, mo_g, mo_p, mo_pz, mw_so, mw_sa, upA_eq, upA_upA, upd_upd, m_isKnot, m_isSheet, mi_1, mi_3, mi_5, mi_6, mi_7, mi_69, mi_99, mi_100, mi_255, m_f1, m_f2, m_f3, m_f4, m_f5, bI_e0, bI_n0, b_ft, bI_01, bI_t, bI_f, i10, i01, if_true, if_false, Bool.true_eq_false, Bool.false_eq_true, or_true, true_or, not_true_eq_false, not_false_eq_true, ls1s, mW, q1, q2, show ((4 : Int32) ≤ nI 0) = False from by decide, m_of hD k1]
      · refine JS.ro hC hM (r := nI (X.1.wk k 1)) ?_ (fun w => ⟨I, A, ?_, hM⟩)
        · simp only [C_X11_ofWalker, R_X11_ofWalker, SB, hC.f0, hC.f1, hC.f2, hC.f3, hC.f4, hC.f5, hC.f6, hC.f7, hC.f8, hC.f9, clK_gf hC.f0, s_isKnot, s_isColour, s_isKindAndM, s_isUse, iw_1, iw_3, iw_6, iw_7, iw_99, iw_100, iw_255, s_rf1 hC, s_rf2 hC, s_rf3 hC, s_rf4 hC, s_rf5 hC, bI_e0, bI_n0, b_ft, bI_01, bI_t, bI_f, i10, i01, if_true, if_false, Bool.true_eq_false, Bool.false_eq_true, or_true, true_or, not_true_eq_false, not_false_eq_true, ls1s, n0, w1, hw.p1, show (nI 1 = (0 : Int32)) = False from by decide, show (nI 1 = (1 : Int32)) = True from by decide]
        · simp (disch := omega) only [C_X12_ofWalker, R_X12_ofWalker, SB, mw_o, mw_a, mo_g, mo_p, mo_pz, mw_so, mw_sa, upA_eq, upA_upA, upd_upd, m_isKnot, m_isSheet, mi_1, mi_3, mi_5, mi_6, mi_7, mi_69, mi_99, mi_100, mi_255, m_f1, m_f2, m_f3, m_f4, m_f5, bI_e0, bI_n0, b_ft, bI_01, bI_t, bI_f, i10, i01, if_true, if_false, Bool.true_eq_false, Bool.false_eq_true, or_true, true_or, not_true_eq_false, not_false_eq_true, ls1s, mW, q1, q2, show ((4 : Int32) ≤ nI 1) = False from by decide, m_of hD k1]
      · refine JS.ro hC hM (r := nI (X.1.wk k 2)) ?_ (fun w => ⟨I, A, ?_, hM⟩)
        · simp only [C_X11_ofWalker, R_X11_ofWalker, SB, hC.f0, hC.f1, hC.f2, hC.f3, hC.f4, hC.f5, hC.f6, hC.f7, hC.f8, hC.f9, clK_gf hC.f0, s_isKnot, s_isColour, s_isKindAndM, s_isUse, iw_1, iw_3, iw_6, iw_7, iw_99, iw_100, iw_255, s_rf1 hC, s_rf2 hC, s_rf3 hC, s_rf4 hC, s_rf5 hC, bI_e0, bI_n0, b_ft, bI_01, bI_t, bI_f, i10, i01, if_true, if_false, Bool.true_eq_false, Bool.false_eq_true, or_true, true_or, not_true_eq_false, not_false_eq_true, ls1s, n0, w1, hw.p2, show (nI 2 = (0 : Int32)) = False from by decide, show (nI 2 = (1 : Int32)) = False from by decide, show (nI 2 = (2 : Int32)) = True from by decide]
        · simp (disch := omega) only [C_X12_ofWalker, R_X12_ofWalker, SB, mw_o, mw_a, mo_g, mo_p, mo_pz, mw_so, mw_sa, upA_eq, upA_upA, upd_upd, m_isKnot, m_isSheet, mi_1, mi_3, mi_5, mi_6, mi_7, mi_69, mi_99, mi_100, mi_255, m_f1, m_f2, m_f3, m_f4, m_f5, bI_e0, bI_n0, b_ft, bI_01, bI_t, bI_f, i10, i01, if_true, if_false, Bool.true_eq_false, Bool.false_eq_true, or_true, true_or, not_true_eq_false, not_false_eq_true, ls1s, mW, q1, q2, show ((4 : Int32) ≤ nI 2) = False from by decide, m_of hD k1]
      · refine JS.ro hC hM (r := nI (X.1.wk k 3)) ?_ (fun w => ⟨I, A, ?_, hM⟩)
        · simp only [C_X11_ofWalker, R_X11_ofWalker, SB, hC.f0, hC.f1, hC.f2, hC.f3, hC.f4, hC.f5, hC.f6, hC.f7, hC.f8, hC.f9, clK_gf hC.f0, s_isKnot, s_isColour, s_isKindAndM, s_isUse, iw_1, iw_3, iw_6, iw_7, iw_99, iw_100, iw_255, s_rf1 hC, s_rf2 hC, s_rf3 hC, s_rf4 hC, s_rf5 hC, bI_e0, bI_n0, b_ft, bI_01, bI_t, bI_f, i10, i01, if_true, if_false, Bool.true_eq_false, Bool.false_eq_true, or_true, true_or, not_true_eq_false, not_false_eq_true, ls1s, n0, w1, hw.p3, show (nI 3 = (0 : Int32)) = False from by decide, show (nI 3 = (1 : Int32)) = False from by decide, show (nI 3 = (2 : Int32)) = False from by decide, show (nI 3 = (3 : Int32)) = True from by decide]
        · simp (disch := omega) only [C_X12_ofWalker, R_X12_ofWalker, SB, mw_o, mw_a, mo_g, mo_p, mo_pz, mw_so, mw_sa, upA_eq, upA_upA, upd_upd, m_isKnot, m_isSheet, mi_1, mi_3, mi_5, mi_6, mi_7, mi_69, mi_99, mi_100, mi_255, m_f1, m_f2, m_f3, m_f4, m_f5, bI_e0, bI_n0, b_ft, bI_01, bI_t, bI_f, i10, i01, if_true, if_false, Bool.true_eq_false, Bool.false_eq_true, or_true, true_or, not_true_eq_false, not_false_eq_true, ls1s, mW, q1, q2, show ((4 : Int32) ≤ nI 3) = False from by decide, m_of hD k1]
      · have we := s_wearing hC.sta hw 60
        refine JS.ro hC hM (r := nI (wrN (X.1.wk k 0) (X.1.wk k 1))) ?_ (fun w => ⟨I, A, ?_, hM⟩)
        · simp only [C_X11_ofWalker, R_X11_ofWalker, SB, hC.f0, hC.f1, hC.f2, hC.f3, hC.f4, hC.f5, hC.f6, hC.f7, hC.f8, hC.f9, clK_gf hC.f0, s_isKnot, s_isColour, s_isKindAndM, s_isUse, iw_1, iw_3, iw_6, iw_7, iw_99, iw_100, iw_255, s_rf1 hC, s_rf2 hC, s_rf3 hC, s_rf4 hC, s_rf5 hC, bI_e0, bI_n0, b_ft, bI_01, bI_t, bI_f, i10, i01, if_true, if_false, Bool.true_eq_false, Bool.false_eq_true, or_true, true_or, not_true_eq_false, not_false_eq_true, ls1s, n0, w1, c9, we, show (nI 4 = (0 : Int32)) = False from by decide, show (nI 4 = (1 : Int32)) = False from by decide, show (nI 4 = (2 : Int32)) = False from by decide, show (nI 4 = (3 : Int32)) = False from by decide, show (nI 4 = (4 : Int32)) = True from by decide]
        · simp (disch := omega) only [C_X12_ofWalker, R_X12_ofWalker, SB, mw_o, mw_a, mo_g, mo_p, mo_pz, mw_so, mw_sa, upA_eq, upA_upA, upd_upd, m_isKnot, m_isSheet, mi_1, mi_3, mi_5, mi_6, mi_7, mi_69, mi_99, mi_100, mi_255, m_f1, m_f2, m_f3, m_f4, m_f5, bI_e0, bI_n0, b_ft, bI_01, bI_t, bI_f, i10, i01, if_true, if_false, Bool.true_eq_false, Bool.false_eq_true, or_true, true_or, not_true_eq_false, not_false_eq_true, ls1s, mW, q1, q2, show ((4 : Int32) ≤ nI 4) = True from by decide, show (nI 4 = (4 : Int32)) = True from by decide, m_wearsOf hD k1]
      · have we := s_wouldEat hC.car hw 60
        have g0 := hC.g0
        have me := fun w => m_eats (I := I) hD k1 w 60
        refine JS.ro hC hM (r := bI (etB (X.1.wk k 0) (X.1.wk k 1) (X.1.wear (X.1.wk k 2)))) ?_ (fun w => ⟨I, A, ?_, hM⟩)
        · cases qe : etB (X.1.wk k 0) (X.1.wk k 1) (X.1.wear (X.1.wk k 2)) <;> rw [qe] at we <;> simp only [C_X11_ofWalker, R_X11_ofWalker, SB, hC.f0, hC.f1, hC.f2, hC.f3, hC.f4, hC.f5, hC.f6, hC.f7, hC.f8, hC.f9, clK_gf hC.f0, s_isKnot, s_isColour, s_isKindAndM, s_isUse, iw_1, iw_3, iw_6, iw_7, iw_99, iw_100, iw_255, s_rf1 hC, s_rf2 hC, s_rf3 hC, s_rf4 hC, s_rf5 hC, bI_e0, bI_n0, b_ft, bI_01, bI_t, bI_f, i10, i01, if_true, if_false, Bool.true_eq_false, Bool.false_eq_true, or_true, true_or, not_true_eq_false, not_false_eq_true, ls1s, n0, w1, c9, g0, we, show (nI 5 = (0 : Int32)) = False from by decide, show (nI 5 = (1 : Int32)) = False from by decide, show (nI 5 = (2 : Int32)) = False from by decide, show (nI 5 = (3 : Int32)) = False from by decide, show (nI 5 = (4 : Int32)) = False from by decide, show (nI 5 = (5 : Int32)) = True from by decide]
        · cases qe : etB (X.1.wk k 0) (X.1.wk k 1) (X.1.wear (X.1.wk k 2)) <;> simp only [qe] at me <;> simp (disch := omega) only [C_X12_ofWalker, R_X12_ofWalker, SB, mw_o, mw_a, mo_g, mo_p, mo_pz, mw_so, mw_sa, upA_eq, upA_upA, upd_upd, m_isKnot, m_isSheet, mi_1, mi_3, mi_5, mi_6, mi_7, mi_69, mi_99, mi_100, mi_255, m_f1, m_f2, m_f3, m_f4, m_f5, bI_e0, bI_n0, b_ft, bI_01, bI_t, bI_f, i10, i01, if_true, if_false, Bool.true_eq_false, Bool.false_eq_true, or_true, true_or, not_true_eq_false, not_false_eq_true, ls1s, mW, q1, q2, show ((4 : Int32) ≤ nI 5) = True from by decide, show (nI 5 = (4 : Int32)) = False from by decide, me]
    · have nb : ∀ j : Nat, j < 6 → (b = nI j) = False := fun j hj => eq_false (fun e => q2 (by rw [e, inR_nI (by omega)]; exact decide_eq_true hj))
      have b0 : (b = 0) = False := nb 0 (by decide)
      have b1 : (b = 1) = False := nb 1 (by decide)
      have b2 : (b = 2) = False := nb 2 (by decide)
      have b3 : (b = 3) = False := nb 3 (by decide)
      have b4 : (b = 4) = False := nb 4 (by decide)
      have b5 : (b = 5) = False := nb 5 (by decide)
      refine JS.er hC hM (k := 1) (by decide) ?_ (fun w => ?_)
      · simp only [C_X11_ofWalker, R_X11_ofWalker, SB, hC.f0, hC.f1, hC.f2, hC.f3, hC.f4, hC.f5, hC.f6, hC.f7, hC.f8, hC.f9, clK_gf hC.f0, s_isKnot, s_isColour, s_isKindAndM, s_isUse, iw_1, iw_3, iw_6, iw_7, iw_99, iw_100, iw_255, s_rf1 hC, s_rf2 hC, s_rf3 hC, s_rf4 hC, s_rf5 hC, bI_e0, bI_n0, b_ft, bI_01, bI_t, bI_f, i10, i01, if_true, if_false, Bool.true_eq_false, Bool.false_eq_true, or_true, true_or, not_true_eq_false, not_false_eq_true, ls1s, n0, w1, b0, b1, b2, b3, b4, b5]
      · simp only [C_X12_ofWalker, R_X12_ofWalker, SB, mw_o, mw_a, mo_g, mo_p, mo_pz, mw_so, mw_sa, upA_eq, upA_upA, upd_upd, m_isKnot, m_isSheet, mi_1, mi_3, mi_5, mi_6, mi_7, mi_69, mi_99, mi_100, mi_255, m_f1, m_f2, m_f3, m_f4, m_f5, bI_e0, bI_n0, b_ft, bI_01, bI_t, bI_f, i10, i01, if_true, if_false, Bool.true_eq_false, Bool.false_eq_true, or_true, true_or, not_true_eq_false, not_false_eq_true, ls1s, mW, q1, inR_f q2]
  · have w1 := s_wOf_n hC q1 60
    refine JS.er hC hM (k := 1) (by decide) ?_ (fun w => ?_)
    · simp only [C_X11_ofWalker, R_X11_ofWalker, SB, hC.f0, hC.f1, hC.f2, hC.f3, hC.f4, hC.f5, hC.f6, hC.f7, hC.f8, hC.f9, clK_gf hC.f0, s_isKnot, s_isColour, s_isKindAndM, s_isUse, iw_1, iw_3, iw_6, iw_7, iw_99, iw_100, iw_255, s_rf1 hC, s_rf2 hC, s_rf3 hC, s_rf4 hC, s_rf5 hC, bI_e0, bI_n0, b_ft, bI_01, bI_t, bI_f, i10, i01, if_true, if_false, Bool.true_eq_false, Bool.false_eq_true, or_true, true_or, not_true_eq_false, not_false_eq_true, ls1s, n0, w1]
    · simp only [C_X12_ofWalker, R_X12_ofWalker, SB, mw_o, mw_a, mo_g, mo_p, mo_pz, mw_so, mw_sa, upA_eq, upA_upA, upd_upd, m_isKnot, m_isSheet, mi_1, mi_3, mi_5, mi_6, mi_7, mi_69, mi_99, mi_100, mi_255, m_f1, m_f2, m_f3, m_f4, m_f5, bI_e0, bI_n0, b_ft, bI_01, bI_t, bI_f, i10, i01, if_true, if_false, Bool.true_eq_false, Bool.false_eq_true, or_true, true_or, not_true_eq_false, not_false_eq_true, ls1s, mW, inR_f q1]
theorem DR.add {D : Nat → Int32} {S : Co} (h : DR D S) {km kn : Nat} (h1 : km < 70) (h2 : kn < 36) (h5 : S.nw < 5) : DR (upd (upd (upd (upd (upd D 0 (nI (S.nw + 1))) (77 + 4 * S.nw + 0) (nI (km / 10))) (77 + 4 * S.nw + 1) (nI (km % 10))) (77 + 4 * S.nw + 2) (nI kn)) (77 + 4 * S.nw + 3) (nI 1)) (adS S km kn) := by
  have u : ∀ j, j ≠ 0 → (j < 77 + 4 * S.nw ∨ 77 + 4 * S.nw + 3 < j) → upd (upd (upd (upd (upd D 0 (nI (S.nw + 1))) (77 + 4 * S.nw + 0) (nI (km / 10))) (77 + 4 * S.nw + 1) (nI (km % 10))) (77 + 4 * S.nw + 2) (nI kn)) (77 + 4 * S.nw + 3) (nI 1) j = D j := fun j a b => by
    rw [upd_n (by omega), upd_n (by omega), upd_n (by omega), upd_n (by omega), upd_n a]
  refine h.mkL (fun k hk => u k (by omega) (by omega)) (u 3 (by omega) (by omega)) (u 4 (by omega) (by omega)) ?_ ((u 1 (by omega) (by omega)).trans h.day) ((u 2 (by omega) (by omega)).trans h.z) (fun k hk => (u _ (by omega) (by omega)).trans (h.col k hk)) (fun k hk => (u _ (by omega) (by omega)).trans (h.wear k hk)) ?_ h.rc h.rw ?_ (by omega) h.rd
  · rw [upd_n (by omega), upd_n (by omega), upd_n (by omega), upd_n (by omega), upd_s]
  · intro i hi x hx
    show _ = nI (if i = S.nw then (if x = 0 then km / 10 else if x = 1 then km % 10 else if x = 2 then kn else 1) else S.wk i x)
    by_cases q : i = S.nw
    · rw [if_pos q, q]
      obtain hx4 : x = 0 ∨ x = 1 ∨ x = 2 ∨ x = 3 := by omega
      rcases hx4 with rfl | rfl | rfl | rfl
      · rw [upd_n (by omega), upd_n (by omega), upd_n (by omega), upd_s]; rfl
      · rw [upd_n (by omega), upd_n (by omega), upd_s]; rfl
      · rw [upd_n (by omega), upd_s]; rfl
      · rw [upd_s]; rfl
    · rw [if_neg q, u _ (by omega) (by omega)]
      exact h.wk i (by omega) x hx
  · intro i hi
    show (if i = S.nw then (if 0 = 0 then km / 10 else if 0 = 1 then km % 10 else if 0 = 2 then kn else 1) else S.wk i 0) < 7 ∧ (if i = S.nw then (if 1 = 0 then km / 10 else if 1 = 1 then km % 10 else if 1 = 2 then kn else 1) else S.wk i 1) < 10 ∧ (if i = S.nw then (if 2 = 0 then km / 10 else if 2 = 1 then km % 10 else if 2 = 2 then kn else 1) else S.wk i 2) < 36 ∧ (if i = S.nw then (if 3 = 0 then km / 10 else if 3 = 1 then km % 10 else if 3 = 2 then kn else 1) else S.wk i 3) < 4
    by_cases q : i = S.nw
    · simp only [q, if_true, show ((1 : Nat) = 0) = False from by simp, show ((2 : Nat) = 0) = False from by simp, show ((2 : Nat) = 1) = False from by simp, show ((3 : Nat) = 0) = False from by simp, show ((3 : Nat) = 1) = False from by simp, show ((3 : Nat) = 2) = False from by simp, if_false]
      omega
    · simp only [q, if_false]
      exact h.rk i (by omega)
theorem j_walker (a b : Int32) : JO M_X11_walker M_X12_walker [.int a, .int b] := by
  apply JO.mk
  intro W X I A hC hM
  have hD := hM.now
  have rn := hD.rn
  have n0 := clK_gf hC.now.k0
  by_cases q1 : inR a 70 = true
  · obtain ⟨km, k1, k2, rfl⟩ := inR_of q1
    by_cases q2 : inR b 36 = true
    · obtain ⟨kn, p1, p2, rfl⟩ := inR_of q2
      obtain ⟨V, a1, a2, a3⟩ := s_addWalker hC.now k1 p1 60
      have d10 : nI km / 10 = nI (km / 10) := pk_div (show km < 2 ^ 31 by omega) (show 0 < 10 by decide) (show 10 < 2 ^ 31 by decide)
      have r10 : nI km - nI (km / 10) * 10 = nI (km % 10) := pk_rem2 (show km < 2 ^ 31 by omega) (show 0 < 10 by decide) (show 10 < 2 ^ 31 by decide)
      by_cases q : X.1.nw < 5
      · rw [if_pos q] at a1 a2
        have e1 : ((0 : Int32) ≤ nI X.1.nw) = True := by rw [show (0 : Int32) = nI 0 from rfl, le_nI (by decide) (by omega)]; simp
        have e5 : (nI X.1.nw = (5 : Int32)) = False := by rw [show (5 : Int32) = nI 5 from rfl, eq_nI (by omega) (by decide)]; apply eq_false; omega
        refine ⟨nI X.1.nw, (adS X.1 km kn, X.2), ⟨V, ?_, hC.setNow a3 a2, a3.wide CxP_co⟩, fun w => ⟨I, _, ?_, hM.set0 (hD.add k1 p1 q)⟩⟩
        · simp only [C_X11_walker, R_X11_walker, SB, hC.f0, hC.f1, hC.f2, hC.f3, hC.f4, hC.f5, hC.f6, hC.f7, hC.f8, hC.f9, clK_gf hC.f0, s_isKnot, s_isColour, s_isKindAndM, s_isUse, iw_1, iw_3, iw_6, iw_7, iw_99, iw_100, iw_255, s_rf1 hC, s_rf2 hC, s_rf3 hC, s_rf4 hC, s_rf5 hC, bI_e0, bI_n0, b_ft, bI_01, bI_t, bI_f, i10, i01, if_true, if_false, Bool.true_eq_false, Bool.false_eq_true, or_true, true_or, not_true_eq_false, not_false_eq_true, ls1s, q1, q2, n0, a1, e1]
        · simp (disch := omega) only [C_X12_walker, R_X12_walker_p0, R_X12_walker_p1, SB, mw_o, mw_a, mo_g, mo_p, mo_pz, mw_so, mw_sa, upA_eq, upA_upA, upd_upd, m_isKnot, m_isSheet, mi_1, mi_3, mi_5, mi_6, mi_7, mi_69, mi_99, mi_100, mi_255, m_f1, m_f2, m_f3, m_f4, m_f5, bI_e0, bI_n0, b_ft, bI_01, bI_t, bI_f, i10, i01, if_true, if_false, Bool.true_eq_false, Bool.false_eq_true, or_true, true_or, not_true_eq_false, not_false_eq_true, ls1s, q1, q2, aI_l, uI_l, hD.nw, e5, nI_1, d10, r10, show ((10 : Int32) = 0) = False from by decide, m_sets0, m_sets1, m_sets2, m_sets3]
          rfl
      · rw [if_neg q] at a1 a2
        have e5 : (nI X.1.nw = (5 : Int32)) = True := by rw [show (5 : Int32) = nI 5 from rfl, eq_nI (by omega) (by decide)]; apply eq_true; omega
        have hC2 := hC.setNow a3 a2
        have ng : ((0 : Int32) ≤ -1) = False := by decide
        refine ⟨loI 4, erX X 4, ⟨erW V X 4, ?_, ?_, (a3.wide CxP_co).trans (Fr.hs ⟨by omega, by omega⟩ _)⟩, fun w => ⟨I, erA A 4, ?_, hM.er (by decide)⟩⟩
        · have rf : Call M_X11_refuse 60 [.ref 32, .int (-1000000004)] V = some (some (.int (loI 4)), erW V X 4) := s_rf4 hC2 60
          have c32 : clK (hg V 32) = 10 := clK_gf hC2.f0
          generalize (-1 : Int32) = mm at a1 ng
          simp only [C_X11_walker, R_X11_walker, SB, hC.f0, s_isKindAndM, s_isKnot, bI_e0, bI_n0, if_true, if_false, not_true_eq_false, not_false_eq_true, Bool.true_eq_false, ls1s, q1, q2, n0, a1, ng, c32, rf]
        · exact hC2.er 4
        · simp (disch := omega) only [C_X12_walker, R_X12_walker_p0, R_X12_walker_p1, SB, mw_o, mw_a, mo_g, mo_p, mo_pz, mw_so, mw_sa, upA_eq, upA_upA, upd_upd, m_isKnot, m_isSheet, mi_1, mi_3, mi_5, mi_6, mi_7, mi_69, mi_99, mi_100, mi_255, m_f1, m_f2, m_f3, m_f4, m_f5, bI_e0, bI_n0, b_ft, bI_01, bI_t, bI_f, i10, i01, if_true, if_false, Bool.true_eq_false, Bool.false_eq_true, or_true, true_or, not_true_eq_false, not_false_eq_true, ls1s, q1, q2, aI_l, hD.nw, e5]
    · refine JS.er hC hM (k := 1) (by decide) ?_ (fun w => ?_)
      · simp only [C_X11_walker, R_X11_walker, SB, hC.f0, hC.f1, hC.f2, hC.f3, hC.f4, hC.f5, hC.f6, hC.f7, hC.f8, hC.f9, clK_gf hC.f0, s_isKnot, s_isColour, s_isKindAndM, s_isUse, iw_1, iw_3, iw_6, iw_7, iw_99, iw_100, iw_255, s_rf1 hC, s_rf2 hC, s_rf3 hC, s_rf4 hC, s_rf5 hC, bI_e0, bI_n0, b_ft, bI_01, bI_t, bI_f, i10, i01, if_true, if_false, Bool.true_eq_false, Bool.false_eq_true, or_true, true_or, not_true_eq_false, not_false_eq_true, ls1s, q1, inR_f q2]
      · simp only [C_X12_walker, R_X12_walker_p0, R_X12_walker_p1, SB, mw_o, mw_a, mo_g, mo_p, mo_pz, mw_so, mw_sa, upA_eq, upA_upA, upd_upd, m_isKnot, m_isSheet, mi_1, mi_3, mi_5, mi_6, mi_7, mi_69, mi_99, mi_100, mi_255, m_f1, m_f2, m_f3, m_f4, m_f5, bI_e0, bI_n0, b_ft, bI_01, bI_t, bI_f, i10, i01, if_true, if_false, Bool.true_eq_false, Bool.false_eq_true, or_true, true_or, not_true_eq_false, not_false_eq_true, ls1s, q1, inR_f q2]
  · refine JS.er hC hM (k := 1) (by decide) ?_ (fun w => ?_)
    · simp only [C_X11_walker, R_X11_walker, SB, hC.f0, hC.f1, hC.f2, hC.f3, hC.f4, hC.f5, hC.f6, hC.f7, hC.f8, hC.f9, clK_gf hC.f0, s_isKnot, s_isColour, s_isKindAndM, s_isUse, iw_1, iw_3, iw_6, iw_7, iw_99, iw_100, iw_255, s_rf1 hC, s_rf2 hC, s_rf3 hC, s_rf4 hC, s_rf5 hC, bI_e0, bI_n0, b_ft, bI_01, bI_t, bI_f, i10, i01, if_true, if_false, Bool.true_eq_false, Bool.false_eq_true, or_true, true_or, not_true_eq_false, not_false_eq_true, ls1s, inR_f q1]
    · simp only [C_X12_walker, R_X12_walker_p0, R_X12_walker_p1, SB, mw_o, mw_a, mo_g, mo_p, mo_pz, mw_so, mw_sa, upA_eq, upA_upA, upd_upd, m_isKnot, m_isSheet, mi_1, mi_3, mi_5, mi_6, mi_7, mi_69, mi_99, mi_100, mi_255, m_f1, m_f2, m_f3, m_f4, m_f5, bI_e0, bI_n0, b_ft, bI_01, bI_t, bI_f, i10, i01, if_true, if_false, Bool.true_eq_false, Bool.false_eq_true, or_true, true_or, not_true_eq_false, not_false_eq_true, ls1s, inR_f q1]
