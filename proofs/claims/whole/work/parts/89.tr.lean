/-! ===== pairs: road ===== -/
theorem j_road (a b c : Int32) : JO M_X11_road M_X12_road [.int a, .int b, .int c] := by
  apply JO.mk
  intro W X I A hC hM
  have hD := hM.now
  by_cases q1 : inR a 36 = true
  · by_cases q2 : inR b 36 = true
    · by_cases q3 : inR c 256 = true
      · obtain ⟨fr, f1, f2, rfl⟩ := inR_of q1
        obtain ⟨to, t1, t2, rfl⟩ := inR_of q2
        obtain ⟨c, c1, c2, rfl⟩ := inR_of q3
        have g0 := hC.g0
        have k34 := hC.k34
        have ol := opF_lt X.1.col c 8
        have ob : ∀ k, k < 36 → (foldN (opF X.1.col c) 8 0).testBit k = c.testBit (X.1.col k) := fun k hk => by
          rw [opF_b _ _ _ hk, decide_eq_true (hD.rc k hk), Bool.true_and]
        have cl := (for_up (fun k s => Ex M_X11_road 60 38 [some (.ref 32), some (.int (nI fr)), some (.int (nI to)), some (.int (nI c)), some (.long (lN s)), none, some (.int (nI k))] [] W) (opF X.1.col c) (fun _ s => s < 2 ^ 36) 8 (by
          intro k s hk hs
          have e1 : ((8 : Int32) ≤ nI k) = False := by rw [show (8 : Int32) = nI 8 from rfl, le_nI (by decide) (by omega)]; apply eq_false; omega
          have bs := bit_sh c c1 k hk
          have oc := s_ofColour hC.car hk 60
          have cs := csN_lt X.1.col k
          refine ⟨?_, by unfold opF; split; (exact Nat.or_lt_two_pow hs cs); exact hs⟩
          rw [H_X11_road_38]
          unfold opF
          cases z : c.testBit k with
          | true =>
            rw [z] at bs
            have wo : lN s ||| lN (csN X.1.col k) = lN (s ||| csN X.1.col k) := wb_or (by omega) (by omega)
            simp only [R_X11_road, SB, hC.f0, hC.f1, hC.f2, hC.f3, hC.f4, hC.f5, hC.f6, hC.f7, hC.f8, hC.f9, clK_gf hC.f0, s_isKnot, s_isColour, s_isKindAndM, s_isUse, iw_1, iw_3, iw_6, iw_7, iw_99, iw_100, iw_255, s_rf1 hC, s_rf2 hC, s_rf3 hC, s_rf4 hC, s_rf5 hC, bI_e0, bI_n0, b_ft, bI_01, bI_t, bI_f, i10, i01, if_true, if_false, Bool.true_eq_false, Bool.false_eq_true, or_true, true_or, not_true_eq_false, not_false_eq_true, ls1s, e1, bs, g0, k34, oc, wo, ls2s, nI_1]
          | false =>
            rw [z] at bs
            simp only [R_X11_road, SB, hC.f0, hC.f1, hC.f2, hC.f3, hC.f4, hC.f5, hC.f6, hC.f7, hC.f8, hC.f9, clK_gf hC.f0, s_isKnot, s_isColour, s_isKindAndM, s_isUse, iw_1, iw_3, iw_6, iw_7, iw_99, iw_100, iw_255, s_rf1 hC, s_rf2 hC, s_rf3 hC, s_rf4 hC, s_rf5 hC, bI_e0, bI_n0, b_ft, bI_01, bI_t, bI_f, i10, i01, if_true, if_false, Bool.true_eq_false, Bool.false_eq_true, or_true, true_or, not_true_eq_false, not_false_eq_true, ls1s, e1, bs, nI_1]) 8 0 (Nat.le_refl _) (by decide)).1
        obtain ⟨v, r, s1, s2, s3, s4⟩ := s_fewest ol f1 t1 hC.ro.l 60
        have hV := hC.setRo s3 s2
        have k105 : clK (hg W 105) = 5 := clK_gf hC.ro.1
        have Fv : Fr CxP W v := s3.wide (fun j hj => by rcases hj with x | x | x <;> exact ⟨by omega, by omega⟩)
        have rf := s_rf2 hV
        -- what the class does with r
        have cpos : ((0 : Int32) ≤ r) = True → Call M_X11_road 60 [.ref 32, .int (nI fr), .int (nI to), .int (nI c)] W = some (some (.int r), v) := fun h => by
          simp only [C_X11_road, R_X11_road, SB, hC.f0, hC.f1, hC.f2, hC.f3, hC.f4, hC.f5, hC.f6, hC.f7, hC.f8, hC.f9, clK_gf hC.f0, s_isKnot, s_isColour, s_isKindAndM, s_isUse, iw_1, iw_3, iw_6, iw_7, iw_99, iw_100, iw_255, s_rf1 hC, s_rf2 hC, s_rf3 hC, s_rf4 hC, s_rf5 hC, bI_e0, bI_n0, b_ft, bI_01, bI_t, bI_f, i10, i01, if_true, if_false, Bool.true_eq_false, Bool.false_eq_true, or_true, true_or, not_true_eq_false, not_false_eq_true, ls1s, q1, q2, q3, ls2s]
          refine (show _ = _ from rfl).trans (cl.trans ?_)
          rw [H_X11_road_38]
          simp only [R_X11_road, SB, hC.f0, hC.f1, hC.f2, hC.f3, hC.f4, hC.f5, hC.f6, hC.f7, hC.f8, hC.f9, clK_gf hC.f0, s_isKnot, s_isColour, s_isKindAndM, s_isUse, iw_1, iw_3, iw_6, iw_7, iw_99, iw_100, iw_255, s_rf1 hC, s_rf2 hC, s_rf3 hC, s_rf4 hC, s_rf5 hC, bI_e0, bI_n0, b_ft, bI_01, bI_t, bI_f, i10, i01, if_true, if_false, Bool.true_eq_false, Bool.false_eq_true, or_true, true_or, not_true_eq_false, not_false_eq_true, ls1s, show ((8 : Int32) ≤ nI 8) = True from by decide, k105, s1, h]
        have cneg : ((0 : Int32) ≤ r) = False → Call M_X11_road 60 [.ref 32, .int (nI fr), .int (nI to), .int (nI c)] W = some (some (.int (loI 2)), hs v 114 (.inl (0, 6, .inl (upd X.2.2.2.1 2 (X.2.2.2.1 2 + 1))))) := fun h => by
          simp only [C_X11_road, R_X11_road, SB, hC.f0, hC.f1, hC.f2, hC.f3, hC.f4, hC.f5, hC.f6, hC.f7, hC.f8, hC.f9, clK_gf hC.f0, s_isKnot, s_isColour, s_isKindAndM, s_isUse, iw_1, iw_3, iw_6, iw_7, iw_99, iw_100, iw_255, s_rf1 hC, s_rf2 hC, s_rf3 hC, s_rf4 hC, s_rf5 hC, bI_e0, bI_n0, b_ft, bI_01, bI_t, bI_f, i10, i01, if_true, if_false, Bool.true_eq_false, Bool.false_eq_true, or_true, true_or, not_true_eq_false, not_false_eq_true, ls1s, q1, q2, q3, ls2s]
          refine (show _ = _ from rfl).trans (cl.trans ?_)
          rw [H_X11_road_38]
          simp only [R_X11_road, SB, hC.f0, hC.f1, hC.f2, hC.f3, hC.f4, hC.f5, hC.f6, hC.f7, hC.f8, hC.f9, clK_gf hC.f0, s_isKnot, s_isColour, s_isKindAndM, s_isUse, iw_1, iw_3, iw_6, iw_7, iw_99, iw_100, iw_255, s_rf1 hC, s_rf2 hC, s_rf3 hC, s_rf4 hC, s_rf5 hC, bI_e0, bI_n0, b_ft, bI_01, bI_t, bI_f, i10, i01, if_true, if_false, Bool.true_eq_false, Bool.false_eq_true, or_true, true_or, not_true_eq_false, not_false_eq_true, ls1s, show ((8 : Int32) ≤ nI 8) = True from by decide, k105, s1, h, rf, clK_gf hV.f0]
        have m1 : ((0 : Int32) ≤ -1) = False := by decide
        have erC : r = -1 → ∃ V, Call M_X11_road 60 [.ref 32, .int (nI fr), .int (nI to), .int (nI c)] W = some (some (.int (loI 2)), V) ∧ ClAt V (erX X 2) ∧ Fr CxP W V := fun h => ⟨_, cneg (by rw [h]; exact m1), hV.er 2, Fv.trans (Fr.hs ⟨by omega, by omega⟩ _)⟩
        have md : ∀ QB FB, Md I (upA (upA A 7 QB) 8 FB) X := fun QB FB => hM.kp rfl rfl (fun j hj => by rw [upA_n (by omega), upA_n (by omega)])
        rcases s4 with ⟨n1, n2⟩ | ⟨⟨n1, n2⟩, n3⟩
        · refine ⟨loI 2, erX X 2, erC n2, fun w => ⟨I, erA A 2, ?_, hM.er (by decide)⟩⟩
          rw [ob fr f1, ob to t1] at n1
          have i1 := m_isOf (I := I) hD f1 c1 w 60
          have i2 := m_isOf (I := I) hD t1 c1 w 60
          cases z : c.testBit (X.1.col fr) with
          | false =>
            rw [z] at i1
            simp only [C_X12_road, R_X12_road_p0, R_X12_road_p1, R_X12_road_p2, SB, mw_o, mw_a, mo_g, mo_p, mo_pz, mw_so, mw_sa, upA_eq, upA_upA, upd_upd, m_isKnot, m_isSheet, mi_1, mi_3, mi_5, mi_6, mi_7, mi_69, mi_99, mi_100, mi_255, m_f1, m_f2, m_f3, m_f4, m_f5, bI_e0, bI_n0, b_ft, bI_01, bI_t, bI_f, i10, i01, if_true, if_false, Bool.true_eq_false, Bool.false_eq_true, or_true, true_or, not_true_eq_false, not_false_eq_true, ls1s, q1, q2, q3, i1]
          | true =>
            rw [z] at i1
            have z2 : c.testBit (X.1.col to) = false := by
              cases y : c.testBit (X.1.col to) with
              | false => rfl
              | true => exact absurd ⟨z, y⟩ n1
            rw [z2] at i2
            simp only [C_X12_road, R_X12_road_p0, R_X12_road_p1, R_X12_road_p2, SB, mw_o, mw_a, mo_g, mo_p, mo_pz, mw_so, mw_sa, upA_eq, upA_upA, upd_upd, m_isKnot, m_isSheet, mi_1, mi_3, mi_5, mi_6, mi_7, mi_69, mi_99, mi_100, mi_255, m_f1, m_f2, m_f3, m_f4, m_f5, bI_e0, bI_n0, b_ft, bI_01, bI_t, bI_f, i10, i01, if_true, if_false, Bool.true_eq_false, Bool.false_eq_true, or_true, true_or, not_true_eq_false, not_false_eq_true, ls1s, q1, q2, q3, i1, i2]
        · rw [ob fr f1] at n1
          rw [ob to t1] at n2
          have mr := fun w => m_road (I := I) hD f1 t1 c1 ob w 60 n1 n2
          rcases n3 with ⟨e, hr⟩ | ⟨ne, hr⟩
          · have w0 : Wk (foldN (opF X.1.col c) 8 0) fr 0 to 4 := ⟨e.symm, rfl⟩
            refine ⟨r, X, ⟨v, cpos (by rw [hr]; decide), hV, Fv⟩, fun w => ?_⟩
            obtain ⟨QB, FB, ⟨f, y, h1, h2, h3, h4⟩ | ⟨h1, h2⟩⟩ := mr w
            · have f0 : f = 0 := by
                apply Classical.byContradiction
                intro z
                exact h4 0 (by omega) 4 w0
              rw [f0] at h1
              exact ⟨I, _, by rw [hr]; exact h1, md QB FB⟩
            · exact absurd w0 (h2 0 4)
          · have nz : ∀ y, ¬ Wk (foldN (opF X.1.col c) 8 0) fr 0 to y := fun y h => ne h.1.symm
            rcases hr with ⟨q, q4, q5, q6, q7⟩ | ⟨q5, q7⟩
            · obtain ⟨yy, w1, _⟩ := (ht_w ol f1 t1 q).mp q6
              have nw := no_w ol f1 t1 q7
              refine ⟨r, X, ⟨v, cpos (by rw [q5, show (0 : Int32) = nI 0 from rfl, le_nI (by decide) (by omega)]; apply eq_true; omega), hV, Fv⟩, fun w => ?_⟩
              obtain ⟨QB, FB, ⟨f, y, h1, h2, h3, h4⟩ | ⟨h1, h2⟩⟩ := mr w
              · have f0 : f = q + 1 := by
                  apply Classical.byContradiction
                  intro z
                  by_cases lt : q + 1 < f
                  · exact h4 _ lt yy w1
                  · cases f with
                    | zero => exact nz y h3
                    | succ f => exact nw f (by omega) y h3
                rw [f0] at h1
                exact ⟨I, _, by rw [q5]; exact h1, md QB FB⟩
              · exact absurd w1 (h2 _ _)
            · have nw := no_w ol f1 t1 q7
              refine ⟨loI 2, erX X 2, erC q5, fun w => ?_⟩
              obtain ⟨QB, FB, ⟨f, y, h1, h2, h3, h4⟩ | ⟨h1, h2⟩⟩ := mr w
              · exfalso
                cases f with
                | zero => exact nz y h3
                | succ f => exact nw f (by omega) y h3
              · exact ⟨I, _, h1, (md QB FB).er (by decide)⟩
      · refine JS.er hC hM (k := 1) (by decide) ?_ (fun w => ?_)
        · simp only [C_X11_road, R_X11_road, SB, hC.f0, hC.f1, hC.f2, hC.f3, hC.f4, hC.f5, hC.f6, hC.f7, hC.f8, hC.f9, clK_gf hC.f0, s_isKnot, s_isColour, s_isKindAndM, s_isUse, iw_1, iw_3, iw_6, iw_7, iw_99, iw_100, iw_255, s_rf1 hC, s_rf2 hC, s_rf3 hC, s_rf4 hC, s_rf5 hC, bI_e0, bI_n0, b_ft, bI_01, bI_t, bI_f, i10, i01, if_true, if_false, Bool.true_eq_false, Bool.false_eq_true, or_true, true_or, not_true_eq_false, not_false_eq_true, ls1s, q1, q2, inR_f q3]
        · simp only [C_X12_road, R_X12_road_p0, R_X12_road_p1, R_X12_road_p2, SB, mw_o, mw_a, mo_g, mo_p, mo_pz, mw_so, mw_sa, upA_eq, upA_upA, upd_upd, m_isKnot, m_isSheet, mi_1, mi_3, mi_5, mi_6, mi_7, mi_69, mi_99, mi_100, mi_255, m_f1, m_f2, m_f3, m_f4, m_f5, bI_e0, bI_n0, b_ft, bI_01, bI_t, bI_f, i10, i01, if_true, if_false, Bool.true_eq_false, Bool.false_eq_true, or_true, true_or, not_true_eq_false, not_false_eq_true, ls1s, q1, q2, inR_f q3]
    · refine JS.er hC hM (k := 1) (by decide) ?_ (fun w => ?_)
      · simp only [C_X11_road, R_X11_road, SB, hC.f0, hC.f1, hC.f2, hC.f3, hC.f4, hC.f5, hC.f6, hC.f7, hC.f8, hC.f9, clK_gf hC.f0, s_isKnot, s_isColour, s_isKindAndM, s_isUse, iw_1, iw_3, iw_6, iw_7, iw_99, iw_100, iw_255, s_rf1 hC, s_rf2 hC, s_rf3 hC, s_rf4 hC, s_rf5 hC, bI_e0, bI_n0, b_ft, bI_01, bI_t, bI_f, i10, i01, if_true, if_false, Bool.true_eq_false, Bool.false_eq_true, or_true, true_or, not_true_eq_false, not_false_eq_true, ls1s, q1, inR_f q2]
      · simp only [C_X12_road, R_X12_road_p0, R_X12_road_p1, R_X12_road_p2, SB, mw_o, mw_a, mo_g, mo_p, mo_pz, mw_so, mw_sa, upA_eq, upA_upA, upd_upd, m_isKnot, m_isSheet, mi_1, mi_3, mi_5, mi_6, mi_7, mi_69, mi_99, mi_100, mi_255, m_f1, m_f2, m_f3, m_f4, m_f5, bI_e0, bI_n0, b_ft, bI_01, bI_t, bI_f, i10, i01, if_true, if_false, Bool.true_eq_false, Bool.false_eq_true, or_true, true_or, not_true_eq_false, not_false_eq_true, ls1s, q1, inR_f q2]
  · refine JS.er hC hM (k := 1) (by decide) ?_ (fun w => ?_)
    · simp only [C_X11_road, R_X11_road, SB, hC.f0, hC.f1, hC.f2, hC.f3, hC.f4, hC.f5, hC.f6, hC.f7, hC.f8, hC.f9, clK_gf hC.f0, s_isKnot, s_isColour, s_isKindAndM, s_isUse, iw_1, iw_3, iw_6, iw_7, iw_99, iw_100, iw_255, s_rf1 hC, s_rf2 hC, s_rf3 hC, s_rf4 hC, s_rf5 hC, bI_e0, bI_n0, b_ft, bI_01, bI_t, bI_f, i10, i01, if_true, if_false, Bool.true_eq_false, Bool.false_eq_true, or_true, true_or, not_true_eq_false, not_false_eq_true, ls1s, inR_f q1]
    · simp only [C_X12_road, R_X12_road_p0, R_X12_road_p1, R_X12_road_p2, SB, mw_o, mw_a, mo_g, mo_p, mo_pz, mw_so, mw_sa, upA_eq, upA_upA, upd_upd, m_isKnot, m_isSheet, mi_1, mi_3, mi_5, mi_6, mi_7, mi_69, mi_99, mi_100, mi_255, m_f1, m_f2, m_f3, m_f4, m_f5, bI_e0, bI_n0, b_ft, bI_01, bI_t, bI_f, i10, i01, if_true, if_false, Bool.true_eq_false, Bool.false_eq_true, or_true, true_or, not_true_eq_false, not_false_eq_true, ls1s, inR_f q1]
