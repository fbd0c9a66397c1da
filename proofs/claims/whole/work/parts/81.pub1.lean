/-! ===== the first pairs of calls ===== -/
theorem iw_1 (v : Int32) (w : AH) (lv : Nat) : Call M_X11_isWithin lv [.int v, .int 0, .int 1] w = some (some (.int (bI (inR v 2))), w) := iwR v 1 2 (by decide) w lv
theorem iw_3 (v : Int32) (w : AH) (lv : Nat) : Call M_X11_isWithin lv [.int v, .int 0, .int 3] w = some (some (.int (bI (inR v 4))), w) := iwR v 3 4 (by decide) w lv
theorem iw_6 (v : Int32) (w : AH) (lv : Nat) : Call M_X11_isWithin lv [.int v, .int 0, .int 6] w = some (some (.int (bI (inR v 7))), w) := iwR v 6 7 (by decide) w lv
theorem iw_7 (v : Int32) (w : AH) (lv : Nat) : Call M_X11_isWithin lv [.int v, .int 0, .int 7] w = some (some (.int (bI (inR v 8))), w) := iwR v 7 8 (by decide) w lv
theorem iw_99 (v : Int32) (w : AH) (lv : Nat) : Call M_X11_isWithin lv [.int v, .int 0, .int 99] w = some (some (.int (bI (inR v 100))), w) := iwR v 99 100 (by decide) w lv
theorem iw_100 (v : Int32) (w : AH) (lv : Nat) : Call M_X11_isWithin lv [.int v, .int 0, .int 100] w = some (some (.int (bI (inR v 101))), w) := iwR v 100 101 (by decide) w lv
theorem iw_255 (v : Int32) (w : AH) (lv : Nat) : Call M_X11_isWithin lv [.int v, .int 0, .int 255] w = some (some (.int (bI (inR v 256))), w) := iwR v 255 256 (by decide) w lv
theorem mi_1 (x : Int32) (w : AH) (lv : Nat) : Call M_X12_in lv [.long x.toInt64, .long 0, .long 1] w = some (some (.int (bI (inR x 2))), w) := s_m_inR x 1 2 (by decide) w lv
theorem mi_3 (x : Int32) (w : AH) (lv : Nat) : Call M_X12_in lv [.long x.toInt64, .long 0, .long 3] w = some (some (.int (bI (inR x 4))), w) := s_m_inR x 3 4 (by decide) w lv
theorem mi_5 (x : Int32) (w : AH) (lv : Nat) : Call M_X12_in lv [.long x.toInt64, .long 0, .long 5] w = some (some (.int (bI (inR x 6))), w) := s_m_inR x 5 6 (by decide) w lv
theorem mi_6 (x : Int32) (w : AH) (lv : Nat) : Call M_X12_in lv [.long x.toInt64, .long 0, .long 6] w = some (some (.int (bI (inR x 7))), w) := s_m_inR x 6 7 (by decide) w lv
theorem mi_7 (x : Int32) (w : AH) (lv : Nat) : Call M_X12_in lv [.long x.toInt64, .long 0, .long 7] w = some (some (.int (bI (inR x 8))), w) := s_m_inR x 7 8 (by decide) w lv
theorem mi_69 (x : Int32) (w : AH) (lv : Nat) : Call M_X12_in lv [.long x.toInt64, .long 0, .long 69] w = some (some (.int (bI (inR x 70))), w) := s_m_inR x 69 70 (by decide) w lv
theorem mi_99 (x : Int32) (w : AH) (lv : Nat) : Call M_X12_in lv [.long x.toInt64, .long 0, .long 99] w = some (some (.int (bI (inR x 100))), w) := s_m_inR x 99 100 (by decide) w lv
theorem mi_100 (x : Int32) (w : AH) (lv : Nat) : Call M_X12_in lv [.long x.toInt64, .long 0, .long 100] w = some (some (.int (bI (inR x 101))), w) := s_m_inR x 100 101 (by decide) w lv
theorem mi_255 (x : Int32) (w : AH) (lv : Nat) : Call M_X12_in lv [.long x.toInt64, .long 0, .long 255] w = some (some (.int (bI (inR x 256))), w) := s_m_inR x 255 256 (by decide) w lv
abbrev erW (W : AH) (X : Cx) (k : Nat) : AH := hs W 114 (.inl (0, 6, .inl (upd X.2.2.2.1 k (X.2.2.2.1 k + 1))))
theorem s_rf1 {w : AH} {X : Cx} (h : ClAt w X) (lv : Nat) : Call M_X11_refuse lv [.ref 32, .int (-1000000001)] w = some (some (.int (loI 1)), erW w X 1) := by rw [lo1]; exact s_refuse h (by decide) (by decide) lv
theorem s_rf2 {w : AH} {X : Cx} (h : ClAt w X) (lv : Nat) : Call M_X11_refuse lv [.ref 32, .int (-1000000002)] w = some (some (.int (loI 2)), erW w X 2) := by rw [lo2]; exact s_refuse h (by decide) (by decide) lv
theorem s_rf3 {w : AH} {X : Cx} (h : ClAt w X) (lv : Nat) : Call M_X11_refuse lv [.ref 32, .int (-1000000003)] w = some (some (.int (loI 3)), erW w X 3) := by rw [lo3]; exact s_refuse h (by decide) (by decide) lv
theorem s_rf4 {w : AH} {X : Cx} (h : ClAt w X) (lv : Nat) : Call M_X11_refuse lv [.ref 32, .int (-1000000004)] w = some (some (.int (loI 4)), erW w X 4) := by rw [lo4]; exact s_refuse h (by decide) (by decide) lv
theorem s_rf5 {w : AH} {X : Cx} (h : ClAt w X) (lv : Nat) : Call M_X11_refuse lv [.ref 32, .int (-1000000005)] w = some (some (.int (loI 5)), erW w X 5) := by rw [lo5]; exact s_refuse h (by decide) (by decide) lv
theorem iw15 (v : Int32) (w : AH) (lv : Nat) : Call M_X11_isWithin lv [.int v, .int 1, .int 5] w = some (some (.int (bI (decide (1 ≤ v.toInt ∧ v.toInt ≤ 5)))), w) := s_isWithin v 1 5 w lv
theorem mi15 (x : Int32) (w : AH) (lv : Nat) : Call M_X12_in lv [.long x.toInt64, .long 1, .long 5] w = some (some (.int (bI (decide (1 ≤ x.toInt ∧ x.toInt ≤ 5)))), w) := by rw [s_m_in, i64_of]; rfl
theorem nI_nat {x : Int32} (h : 0 ≤ x.toInt) : x = nI x.toInt.toNat := by
  apply Int32.toInt_inj.mp
  rw [nI_t (by have := Int32.toInt_lt x; omega)]; omega
theorem j_told (a : Int32) : JO M_X11_told M_X12_told [.int a] := by
  apply JO.mk
  intro W X I A hC hM
  by_cases q : 1 ≤ a.toInt ∧ a.toInt ≤ 5
  · obtain ⟨k, k1, k2, rfl⟩ : ∃ k : Nat, 1 ≤ k ∧ k < 6 ∧ a = nI k := ⟨a.toInt.toNat, by omega, by omega, nI_nat (by omega)⟩
    refine JS.ro hC hM (r := X.2.2.2.1 k) ?_ (fun w => ⟨I, A, ?_, hM⟩)
    · simp (disch := omega) only [C_X11_told, R_X11_told, SB, hC.f0, hC.f1, hC.f2, hC.f3, hC.f4, hC.f5, hC.f6, hC.f7, hC.f8, hC.f9, clK_gf hC.f0, s_isKnot, s_isColour, s_isKindAndM, s_isUse, iw_1, iw_3, iw_6, iw_7, iw_99, iw_100, iw_255, s_rf1 hC, s_rf2 hC, s_rf3 hC, s_rf4 hC, s_rf5 hC, bI_e0, bI_n0, b_ft, bI_01, bI_t, bI_f, i10, i01, if_true, if_false, Bool.true_eq_false, Bool.false_eq_true, or_true, true_or, not_true_eq_false, not_false_eq_true, ls1s, iw15, q, decide_true, hC.err, aI_a, and_self]
    · simp (disch := omega) only [C_X12_told, R_X12_told, SB, mw_o, mw_a, mo_g, mo_p, mo_pz, mw_so, mw_sa, upA_eq, upA_upA, upd_upd, m_isKnot, m_isSheet, mi_1, mi_3, mi_5, mi_6, mi_7, mi_69, mi_99, mi_100, mi_255, m_f1, m_f2, m_f3, m_f4, m_f5, bI_e0, bI_n0, b_ft, bI_01, bI_t, bI_f, i10, i01, if_true, if_false, Bool.true_eq_false, Bool.false_eq_true, or_true, true_or, not_true_eq_false, not_false_eq_true, ls1s, mi15, q, decide_true, aI_a, and_self, hM.err k k2]
  · refine JS.er hC hM (k := 1) (by decide) ?_ (fun w => ?_)
    · simp only [C_X11_told, R_X11_told, SB, hC.f0, hC.f1, hC.f2, hC.f3, hC.f4, hC.f5, hC.f6, hC.f7, hC.f8, hC.f9, clK_gf hC.f0, s_isKnot, s_isColour, s_isKindAndM, s_isUse, iw_1, iw_3, iw_6, iw_7, iw_99, iw_100, iw_255, s_rf1 hC, s_rf2 hC, s_rf3 hC, s_rf4 hC, s_rf5 hC, bI_e0, bI_n0, b_ft, bI_01, bI_t, bI_f, i10, i01, if_true, if_false, Bool.true_eq_false, Bool.false_eq_true, or_true, true_or, not_true_eq_false, not_false_eq_true, ls1s, iw15, q, decide_false]
    · simp only [C_X12_told, R_X12_told, SB, mw_o, mw_a, mo_g, mo_p, mo_pz, mw_so, mw_sa, upA_eq, upA_upA, upd_upd, m_isKnot, m_isSheet, mi_1, mi_3, mi_5, mi_6, mi_7, mi_69, mi_99, mi_100, mi_255, m_f1, m_f2, m_f3, m_f4, m_f5, bI_e0, bI_n0, b_ft, bI_01, bI_t, bI_f, i10, i01, if_true, if_false, Bool.true_eq_false, Bool.false_eq_true, or_true, true_or, not_true_eq_false, not_false_eq_true, ls1s, mi15, q, decide_false]
theorem j_seed (a : Int32) : JO M_X11_seed M_X12_seed [.int a] := by
  apply JO.mk
  intro W X I A hC hM
  have hD := hM.now
  have hN := hC.now
  refine ⟨X.1.z, ((X.1.1, X.1.2.1, X.1.2.2.1, (X.1.nw, X.1.day, a), X.1.2.2.2.2), X.2), ⟨hs W 33 (fput (hg W 33) 8 (.int a)), ?_, ?_, Fr.hs ⟨by omega, by omega⟩ _⟩, fun w => ⟨I, upA A 0 (upd (A 0) 2 a), ?_, ?_⟩⟩
  · simp only [C_X11_seed, R_X11_seed, SB, hC.f0, hC.f1, hC.f2, hC.f3, hC.f4, hC.f5, hC.f6, hC.f7, hC.f8, hC.f9, clK_gf hC.f0, s_isKnot, s_isColour, s_isKindAndM, s_isUse, iw_1, iw_3, iw_6, iw_7, iw_99, iw_100, iw_255, s_rf1 hC, s_rf2 hC, s_rf3 hC, s_rf4 hC, s_rf5 hC, bI_e0, bI_n0, b_ft, bI_01, bI_t, bI_f, i10, i01, if_true, if_false, Bool.true_eq_false, Bool.false_eq_true, or_true, true_or, not_true_eq_false, not_false_eq_true, ls1s, hN.k8, pf_i hN.k8]
  · exact hC.setNow (Fr.hs ⟨by omega, by omega⟩ _) (hN.mk4 (e := fput (hg W 33) 8 (.int a)) X.1.nw X.1.day a (fun k hk => gf_put_n (by omega)) (by rw [gf_put_n (by decide)]; exact hN.k6) (by rw [gf_put_n (by decide)]; exact hN.k7) (gf_put_s hN.k8) hN.rn hN.rd)
  · simp (disch := omega) only [C_X12_seed, R_X12_seed, SB, mw_o, mw_a, mo_g, mo_p, mo_pz, mw_so, mw_sa, upA_eq, upA_upA, upd_upd, m_isKnot, m_isSheet, mi_1, mi_3, mi_5, mi_6, mi_7, mi_69, mi_99, mi_100, mi_255, m_f1, m_f2, m_f3, m_f4, m_f5, bI_e0, bI_n0, b_ft, bI_01, bI_t, bI_f, i10, i01, if_true, if_false, Bool.true_eq_false, Bool.false_eq_true, or_true, true_or, not_true_eq_false, not_false_eq_true, ls1s, aI_l, uI_l, hD.z]
  · refine hM.set0 (hD.mkL (Lo.up (by decide) _) (upd_n (by decide)) (upd_n (by decide)) ((upd_n (by decide)).trans hD.nw) ((upd_n (by decide)).trans hD.day) (upd_s _ _ _) (fun j hj => (upd_n (by omega)).trans (hD.col j hj)) (fun j hj => (upd_n (by omega)).trans (hD.wear j hj)) (fun i hi x hx => (upd_n (by omega)).trans (hD.wk i hi x hx)) hD.rc hD.rw hD.rk hD.rn hD.rd)
theorem ClAt.colour {W : AH} {X : Cx} (hC : ClAt W X) {k v : Nat} (hk : k < 36) (hv : v < 8) (lv : Nat) : ∃ V, Call M_X0_setColour lv [.ref 34, .int (nI k), .int (nI v)] W = some (none, V) ∧ ClAt V (X.1.upd3 (updN X.1.col k v) X.1.wear X.1.wk, X.2) ∧ Fr (CoP 33) W V := by
  obtain ⟨e, c1, c2⟩ := s_setColour hC.now.car hk hv lv
  have F : Fr (CoP 33) W (hs W (33 + 1 + 1) e) := Fr.hs ⟨by omega, by omega⟩ _
  exact ⟨_, c1, hC.setNow F (hC.now.mk3 (fun j _ _ _ _ => hs_ne _ _ (by omega)) c2 (fun k hk => (hC.now.wk k hk).keep (hs_ne _ _ (by omega)))), F⟩
theorem ClAt.wearing {W : AH} {X : Cx} (hC : ClAt W X) {k v : Nat} (hk : k < 36) (hv : v < 100) (lv : Nat) : ∃ V, Call M_X0_setWear lv [.ref 34, .int (nI k), .int (nI v)] W = some (none, V) ∧ ClAt V (X.1.upd3 X.1.col (updN X.1.wear k v) X.1.wk, X.2) ∧ Fr (CoP 33) W V := by
  obtain ⟨e, c1, c2⟩ := s_setWear (v := v) hC.now.car hk (by omega) lv
  rw [Nat.min_eq_left (by omega)] at c2
  have F : Fr (CoP 33) W (hs W (33 + 1 + 2) e) := Fr.hs ⟨by omega, by omega⟩ _
  exact ⟨_, c1, hC.setNow F (hC.now.mk3 (fun j _ _ _ _ => hs_ne _ _ (by omega)) c2 (fun k hk => (hC.now.wk k hk).keep (hs_ne _ _ (by omega)))), F⟩
theorem j_knot (a b c : Int32) : JO M_X11_knot M_X12_knot [.int a, .int b, .int c] := by
  apply JO.mk
  intro W X I A hC hM
  have hD := hM.now
  have hN := hC.now
  have g1 := hN.k0
  by_cases q1 : inR a 36 = true
  · obtain ⟨k, k1, k2, rfl⟩ := inR_of q1
    by_cases q2 : inR b 2 = true
    · obtain ⟨m, m1, m2, rfl⟩ := inR_of q2
      obtain hm : m = 0 ∨ m = 1 := by omega
      rcases hm with rfl | rfl
      · by_cases q3 : inR c 8 = true
        · obtain ⟨v, v1, v2, rfl⟩ := inR_of q3
          obtain ⟨V, c1, c2, c3⟩ := hC.colour k1 v1 60
          have e1 : Call M_X0_colourOf 60 [.ref 34, .int (nI k)] W = _ := s_colourOf hN.car k1 60
          refine ⟨nI (X.1.col k), (X.1.upd3 (updN X.1.col k v) X.1.wear X.1.wk, X.2), ⟨V, ?_, c2, c3.wide CxP_co⟩, fun w => ⟨I, upA A 0 (upd (A 0) (5 + k) (nI v)), ?_, hM.set0 (hD.setC k1 v1)⟩⟩
          · simp only [C_X11_knot, R_X11_knot_p0, R_X11_knot_p1, SB, hC.f0, hC.f1, hC.f2, hC.f3, hC.f4, hC.f5, hC.f6, hC.f7, hC.f8, hC.f9, clK_gf hC.f0, s_isKnot, s_isColour, s_isKindAndM, s_isUse, iw_1, iw_3, iw_6, iw_7, iw_99, iw_100, iw_255, s_rf1 hC, s_rf2 hC, s_rf3 hC, s_rf4 hC, s_rf5 hC, bI_e0, bI_n0, b_ft, bI_01, bI_t, bI_f, i10, i01, if_true, if_false, Bool.true_eq_false, Bool.false_eq_true, or_true, true_or, not_true_eq_false, not_false_eq_true, ls1s, q1, q2, q3, show (nI 0 = (0 : Int32)) = True from by decide, g1, clK_gf hN.car.p0, e1, c1]
          · simp (disch := omega) only [C_X12_knot, R_X12_knot, SB, mw_o, mw_a, mo_g, mo_p, mo_pz, mw_so, mw_sa, upA_eq, upA_upA, upd_upd, m_isKnot, m_isSheet, mi_1, mi_3, mi_5, mi_6, mi_7, mi_69, mi_99, mi_100, mi_255, m_f1, m_f2, m_f3, m_f4, m_f5, bI_e0, bI_n0, b_ft, bI_01, bI_t, bI_f, i10, i01, if_true, if_false, Bool.true_eq_false, Bool.false_eq_true, or_true, true_or, not_true_eq_false, not_false_eq_true, ls1s, q1, q2, q3, show (nI 0 = (0 : Int32)) = True from by decide, lit_add, aI_a, uI_0, hD.col k k1]
        · refine JS.er hC hM (k := 1) (by decide) ?_ (fun w => ?_)
          · simp only [C_X11_knot, R_X11_knot_p0, R_X11_knot_p1, SB, hC.f0, hC.f1, hC.f2, hC.f3, hC.f4, hC.f5, hC.f6, hC.f7, hC.f8, hC.f9, clK_gf hC.f0, s_isKnot, s_isColour, s_isKindAndM, s_isUse, iw_1, iw_3, iw_6, iw_7, iw_99, iw_100, iw_255, s_rf1 hC, s_rf2 hC, s_rf3 hC, s_rf4 hC, s_rf5 hC, bI_e0, bI_n0, b_ft, bI_01, bI_t, bI_f, i10, i01, if_true, if_false, Bool.true_eq_false, Bool.false_eq_true, or_true, true_or, not_true_eq_false, not_false_eq_true, ls1s, q1, q2, inR_f q3, show (nI 0 = (0 : Int32)) = True from by decide]
          · simp only [C_X12_knot, R_X12_knot, SB, mw_o, mw_a, mo_g, mo_p, mo_pz, mw_so, mw_sa, upA_eq, upA_upA, upd_upd, m_isKnot, m_isSheet, mi_1, mi_3, mi_5, mi_6, mi_7, mi_69, mi_99, mi_100, mi_255, m_f1, m_f2, m_f3, m_f4, m_f5, bI_e0, bI_n0, b_ft, bI_01, bI_t, bI_f, i10, i01, if_true, if_false, Bool.true_eq_false, Bool.false_eq_true, or_true, true_or, not_true_eq_false, not_false_eq_true, ls1s, q1, q2, inR_f q3, show (nI 0 = (0 : Int32)) = True from by decide]
      · by_cases q3 : inR c 100 = true
        · obtain ⟨v, v1, v2, rfl⟩ := inR_of q3
          obtain ⟨V, c1, c2, c3⟩ := hC.wearing k1 v1 60
          have e1 : Call M_X0_wearOf 60 [.ref 34, .int (nI k)] W = _ := s_wearOf hN.car k1 60
          refine ⟨nI (X.1.wear k), (X.1.upd3 X.1.col (updN X.1.wear k v) X.1.wk, X.2), ⟨V, ?_, c2, c3.wide CxP_co⟩, fun w => ⟨I, upA A 0 (upd (A 0) (41 + k) (nI v)), ?_, hM.set0 (hD.setW k1 v1)⟩⟩
          · simp only [C_X11_knot, R_X11_knot_p0, R_X11_knot_p1, SB, hC.f0, hC.f1, hC.f2, hC.f3, hC.f4, hC.f5, hC.f6, hC.f7, hC.f8, hC.f9, clK_gf hC.f0, s_isKnot, s_isColour, s_isKindAndM, s_isUse, iw_1, iw_3, iw_6, iw_7, iw_99, iw_100, iw_255, s_rf1 hC, s_rf2 hC, s_rf3 hC, s_rf4 hC, s_rf5 hC, bI_e0, bI_n0, b_ft, bI_01, bI_t, bI_f, i10, i01, if_true, if_false, Bool.true_eq_false, Bool.false_eq_true, or_true, true_or, not_true_eq_false, not_false_eq_true, ls1s, q1, q2, q3, show (nI 1 = (0 : Int32)) = False from by decide, g1, clK_gf hN.car.p0, e1, c1]
          · simp (disch := omega) only [C_X12_knot, R_X12_knot, SB, mw_o, mw_a, mo_g, mo_p, mo_pz, mw_so, mw_sa, upA_eq, upA_upA, upd_upd, m_isKnot, m_isSheet, mi_1, mi_3, mi_5, mi_6, mi_7, mi_69, mi_99, mi_100, mi_255, m_f1, m_f2, m_f3, m_f4, m_f5, bI_e0, bI_n0, b_ft, bI_01, bI_t, bI_f, i10, i01, if_true, if_false, Bool.true_eq_false, Bool.false_eq_true, or_true, true_or, not_true_eq_false, not_false_eq_true, ls1s, q1, q2, q3, show (nI 1 = (0 : Int32)) = False from by decide, lit_add, aI_a, uI_0, hD.wear k k1]
        · refine JS.er hC hM (k := 1) (by decide) ?_ (fun w => ?_)
          · simp only [C_X11_knot, R_X11_knot_p0, R_X11_knot_p1, SB, hC.f0, hC.f1, hC.f2, hC.f3, hC.f4, hC.f5, hC.f6, hC.f7, hC.f8, hC.f9, clK_gf hC.f0, s_isKnot, s_isColour, s_isKindAndM, s_isUse, iw_1, iw_3, iw_6, iw_7, iw_99, iw_100, iw_255, s_rf1 hC, s_rf2 hC, s_rf3 hC, s_rf4 hC, s_rf5 hC, bI_e0, bI_n0, b_ft, bI_01, bI_t, bI_f, i10, i01, if_true, if_false, Bool.true_eq_false, Bool.false_eq_true, or_true, true_or, not_true_eq_false, not_false_eq_true, ls1s, q1, q2, inR_f q3, show (nI 1 = (0 : Int32)) = False from by decide]
          · simp only [C_X12_knot, R_X12_knot, SB, mw_o, mw_a, mo_g, mo_p, mo_pz, mw_so, mw_sa, upA_eq, upA_upA, upd_upd, m_isKnot, m_isSheet, mi_1, mi_3, mi_5, mi_6, mi_7, mi_69, mi_99, mi_100, mi_255, m_f1, m_f2, m_f3, m_f4, m_f5, bI_e0, bI_n0, b_ft, bI_01, bI_t, bI_f, i10, i01, if_true, if_false, Bool.true_eq_false, Bool.false_eq_true, or_true, true_or, not_true_eq_false, not_false_eq_true, ls1s, q1, q2, inR_f q3, show (nI 1 = (0 : Int32)) = False from by decide]
    · refine JS.er hC hM (k := 1) (by decide) ?_ (fun w => ?_)
      · simp only [C_X11_knot, R_X11_knot_p0, R_X11_knot_p1, SB, hC.f0, hC.f1, hC.f2, hC.f3, hC.f4, hC.f5, hC.f6, hC.f7, hC.f8, hC.f9, clK_gf hC.f0, s_isKnot, s_isColour, s_isKindAndM, s_isUse, iw_1, iw_3, iw_6, iw_7, iw_99, iw_100, iw_255, s_rf1 hC, s_rf2 hC, s_rf3 hC, s_rf4 hC, s_rf5 hC, bI_e0, bI_n0, b_ft, bI_01, bI_t, bI_f, i10, i01, if_true, if_false, Bool.true_eq_false, Bool.false_eq_true, or_true, true_or, not_true_eq_false, not_false_eq_true, ls1s, q1, inR_f q2]
      · simp only [C_X12_knot, R_X12_knot, SB, mw_o, mw_a, mo_g, mo_p, mo_pz, mw_so, mw_sa, upA_eq, upA_upA, upd_upd, m_isKnot, m_isSheet, mi_1, mi_3, mi_5, mi_6, mi_7, mi_69, mi_99, mi_100, mi_255, m_f1, m_f2, m_f3, m_f4, m_f5, bI_e0, bI_n0, b_ft, bI_01, bI_t, bI_f, i10, i01, if_true, if_false, Bool.true_eq_false, Bool.false_eq_true, or_true, true_or, not_true_eq_false, not_false_eq_true, ls1s, q1, inR_f q2]
  · refine JS.er hC hM (k := 1) (by decide) ?_ (fun w => ?_)
    · simp only [C_X11_knot, R_X11_knot_p0, R_X11_knot_p1, SB, hC.f0, hC.f1, hC.f2, hC.f3, hC.f4, hC.f5, hC.f6, hC.f7, hC.f8, hC.f9, clK_gf hC.f0, s_isKnot, s_isColour, s_isKindAndM, s_isUse, iw_1, iw_3, iw_6, iw_7, iw_99, iw_100, iw_255, s_rf1 hC, s_rf2 hC, s_rf3 hC, s_rf4 hC, s_rf5 hC, bI_e0, bI_n0, b_ft, bI_01, bI_t, bI_f, i10, i01, if_true, if_false, Bool.true_eq_false, Bool.false_eq_true, or_true, true_or, not_true_eq_false, not_false_eq_true, ls1s, inR_f q1]
    · simp only [C_X12_knot, R_X12_knot, SB, mw_o, mw_a, mo_g, mo_p, mo_pz, mw_so, mw_sa, upA_eq, upA_upA, upd_upd, m_isKnot, m_isSheet, mi_1, mi_3, mi_5, mi_6, mi_7, mi_69, mi_99, mi_100, mi_255, m_f1, m_f2, m_f3, m_f4, m_f5, bI_e0, bI_n0, b_ft, bI_01, bI_t, bI_f, i10, i01, if_true, if_false, Bool.true_eq_false, Bool.false_eq_true, or_true, true_or, not_true_eq_false, not_false_eq_true, ls1s, inR_f q1]
