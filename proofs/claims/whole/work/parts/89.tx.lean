/-! ===== pairs: dyed ===== -/
theorem ClAt.setDy {w v : AH} {X : Cx} (h : ClAt w X) (hF : Fr (DyP 109) w v) (hT : ∃ sets row brow best, DyAt v 109 sets row brow best) : ClAt v X := by
  have e : ∀ j, j < 109 ∨ 113 ≤ j → hg v j = hg w j := fun j hj => hF.2.2 j (fun x => by have := x.1; have := x.2; omega)
  have e0 := e 32 (by omega)
  refine ⟨by rw [e0]; exact h.f0, by rw [e0]; exact h.f1, by rw [e0]; exact h.f2, by rw [e0]; exact h.f3, by rw [e0]; exact h.f4, by rw [e0]; exact h.f5, by rw [e0]; exact h.f6, by rw [e0]; exact h.f7, by rw [e0]; exact h.f8, by rw [e0]; exact h.f9, h.now.keep (fun j _ _ => e j (by omega)), h.kept.keep (fun j _ _ => e j (by omega)), ?_, ?_, h.vo.keep (fun j _ _ => e j (by omega)), h.ro.keep (fun j _ _ => e j (by omega)), hT, by rw [e 113 (by omega)]; exact h.shs, fun k hk => (h.she k hk).keep (e _ (by omega)) (e _ (by omega)), by rw [e 114 (by omega)]; exact h.err, h.sta.keep (e _ (by omega)) (e _ (by omega)), h.str.keep (fun j hj => e j (by omega))⟩
  · obtain ⟨T, hT⟩ := h.tho; exact ⟨T, hT.keep (fun j _ _ => e j (by omega))⟩
  · obtain ⟨L, f, hT⟩ := h.rd; exact ⟨L, f, hT.keep (fun j _ _ => e j (by omega))⟩
theorem s_dyed {w : AH} {X : Cx} (hC : ClAt w X) {k n : Nat} (hk : k < 36) (hn : n ≤ 3) (hn1 : 1 ≤ n) : ∃ v best brow, Call M_X2_tryAll 60 [.ref 109, .ref 34, .int (nI k), .int (nI n)] w = some (none, v) ∧ Fr (DyP 109) w v ∧ (∃ sets row, DyAt v 109 sets row brow best) ∧ best = (dyeN X.1.col k n (7 ^ n)).1 ∧ ∀ i, i < n → brow i = dgN n (dyeN X.1.col k n (7 ^ n)).2 i := by
  obtain ⟨sets, row, brow, best, hd⟩ := hC.dy
  obtain ⟨v, t1, t2, t3⟩ := s_tryAll (s := (row, brow, best)) hd hC.now.car (Or.inl (by decide)) hk hn 60
  obtain ⟨⟨r1, r2⟩, _⟩ := fl_rel (sets := csN X.1.col) (L0 := land X.1.col k) (n := n) n (land X.1.col k) 0 (row, brow, 0) 0 (0, 0) (by omega) (Nat.zero_mod _) (fun i hi => absurd hi (by omega)) rfl ⟨rfl, fun h => absurd h (by decide)⟩
  have e : (fun j => dyeF (csN X.1.col) (land X.1.col k) n (0 + j)) = dyeF (csN X.1.col) (land X.1.col k) n := by funext j; rw [Nat.zero_add]
  rw [e] at r1 r2
  have dp := (dyeN_b X.1.col hk n (7 ^ n)).2.1 (Nat.pow_pos (by decide))
  exact ⟨v, _, _, t1, t3, ⟨_, _, t2⟩, r1, fun i hi => r2 dp i hi⟩
theorem j_dyed (a b c : Int32) : JO M_X11_dyed M_X12_dyed [.int a, .int b, .int c] := by
  apply JO.mk
  intro W X I A hC hM
  have hD := hM.now
  have g0 := hC.g0
  have k34 := hC.k34
  have iw1 : Call M_X11_isWithin 60 [.int b, .int 1, .int 3] W = some (some (.int (bI (decide (1 ≤ b.toInt ∧ b.toInt ≤ 3)))), W) := s_isWithin b 1 3 W 60
  have im1 : ∀ w, Call M_X12_in 60 [.long b.toInt64, .long 1, .long 3] w = some (some (.int (bI (decide (1 ≤ b.toInt ∧ b.toInt ≤ 3)))), w) := fun w => by rw [s_m_in, i64_of]; rfl
  have iw2 : Call M_X11_isWithin 60 [.int c, .int (-1), .int (b - 1)] W = some (some (.int (bI (decide (-1 ≤ c.toInt ∧ c.toInt ≤ (b - 1).toInt)))), W) := s_isWithin c (-1) (b - 1) W 60
  have im2 : ∀ w, Call M_X12_in 60 [.long c.toInt64, .long (-1), .long (b - 1).toInt64] w = some (some (.int (bI (decide (-1 ≤ c.toInt ∧ c.toInt ≤ (b - 1).toInt)))), w) := fun w => by rw [s_m_in, i64_of, i64_of]; rfl
  by_cases q1 : inR a 36 = true
  · by_cases q2 : 1 ≤ b.toInt ∧ b.toInt ≤ 3
    · rw [decide_eq_true q2] at iw1 im1
      by_cases q3 : -1 ≤ c.toInt ∧ c.toInt ≤ (b - 1).toInt
      · rw [decide_eq_true q3] at iw2 im2
        obtain ⟨k, k1, k2, rfl⟩ := inR_of q1
        obtain ⟨n, n1, n2, rfl⟩ : ∃ n : Nat, 1 ≤ n ∧ n ≤ 3 ∧ b = nI n := ⟨b.toInt.toNat, by omega, by omega, nI_nat (by omega)⟩
        have en : nI n - 1 = nI (n - 1) := by
          rcases (show n = 1 ∨ n = 2 ∨ n = 3 by omega) with rfl | rfl | rfl <;> decide
        have q4 := q3
        rw [en, nI_t (by omega)] at q4
        obtain ⟨v, best, brow, s1, s2, ⟨sets, row, s3⟩, s4, s5⟩ := s_dyed hC k1 n2 n1
        have hV := hC.setDy s2 ⟨_, _, _, _, s3⟩
        have Fv : Fr CxP W v := s2.wide (fun j hj => by have := hj.1; have := hj.2; exact ⟨by omega, by omega⟩)
        have k109 : clK (hg W 109) = 2 := by obtain ⟨_, _, _, _, hd⟩ := hC.dy; exact clK_gf hd.p0
        obtain ⟨b1, b2, b3⟩ := dyeN_b X.1.col k1 n (7 ^ n)
        have p7 : 7 ^ n ≤ 343 := by
          have h1 : 7 ^ n ≤ 7 ^ 3 := Nat.pow_le_pow_right (by decide) n2
          have h3 : 7 ^ 3 = 343 := by decide
          omega
        have ent : ∀ w, Call M_X12_dyed 60 [.ref 123, .int (nI k), .int (nI n), .int c] (mw w I A) = Ex M_X12_dyed 60 74 [some (.ref 123), some (.int (nI k)), some (.int (nI n)), some (.int c), some (.int (nI (7 ^ n))), some (.int (nI 0)), some (.int (nI 0)), some (.int (nI 0)), none, none] [] (mw w I A) := fun w => by
          rcases (show n = 1 ∨ n = 2 ∨ n = 3 by omega) with rfl | rfl | rfl
          · simp only [C_X12_dyed, R_X12_dyed_p0, R_X12_dyed_p1, SB, mw_o, mw_a, mo_g, mo_p, mo_pz, mw_so, mw_sa, upA_eq, upA_upA, upd_upd, m_isKnot, m_isSheet, mi_1, mi_3, mi_5, mi_6, mi_7, mi_69, mi_99, mi_100, mi_255, m_f1, m_f2, m_f3, m_f4, m_f5, bI_e0, bI_n0, b_ft, bI_01, bI_t, bI_f, i10, i01, if_true, if_false, Bool.true_eq_false, Bool.false_eq_true, or_true, true_or, not_true_eq_false, not_false_eq_true, ls1s, q1, im1, im2, show (nI 1 = (1 : Int32)) = True from by decide, show nI (7 ^ 1) = (7 : Int32) from by decide, show nI 0 = (0 : Int32) from rfl]
          · simp only [C_X12_dyed, R_X12_dyed_p0, R_X12_dyed_p1, SB, mw_o, mw_a, mo_g, mo_p, mo_pz, mw_so, mw_sa, upA_eq, upA_upA, upd_upd, m_isKnot, m_isSheet, mi_1, mi_3, mi_5, mi_6, mi_7, mi_69, mi_99, mi_100, mi_255, m_f1, m_f2, m_f3, m_f4, m_f5, bI_e0, bI_n0, b_ft, bI_01, bI_t, bI_f, i10, i01, if_true, if_false, Bool.true_eq_false, Bool.false_eq_true, or_true, true_or, not_true_eq_false, not_false_eq_true, ls1s, q1, im1, im2, show (nI 2 = (1 : Int32)) = False from by decide, show (nI 2 = (2 : Int32)) = True from by decide, show nI (7 ^ 2) = (49 : Int32) from by decide, show nI 0 = (0 : Int32) from rfl]
          · simp only [C_X12_dyed, R_X12_dyed_p0, R_X12_dyed_p1, SB, mw_o, mw_a, mo_g, mo_p, mo_pz, mw_so, mw_sa, upA_eq, upA_upA, upd_upd, m_isKnot, m_isSheet, mi_1, mi_3, mi_5, mi_6, mi_7, mi_69, mi_99, mi_100, mi_255, m_f1, m_f2, m_f3, m_f4, m_f5, bI_e0, bI_n0, b_ft, bI_01, bI_t, bI_f, i10, i01, if_true, if_false, Bool.true_eq_false, Bool.false_eq_true, or_true, true_or, not_true_eq_false, not_false_eq_true, ls1s, q1, im1, im2, show (nI 3 = (1 : Int32)) = False from by decide, show (nI 3 = (2 : Int32)) = False from by decide, show nI (7 ^ 3) = (343 : Int32) from by decide, show nI 0 = (0 : Int32) from rfl]
        have e7 : nI (7 ^ n) / 7 = nI (oFN n 0) := by
          rcases (show n = 1 ∨ n = 2 ∨ n = 3 by omega) with rfl | rfl | rfl <;> decide
        have nn : (nI (7 ^ n) ≤ nI (7 ^ n)) = True := by simp
        obtain ⟨dd, hdd⟩ : ∃ dd, dd = dyeN X.1.col k n (7 ^ n) := ⟨_, rfl⟩
        have s5 : ∀ i, i < n → brow i = dgN n dd.2 i := by rw [hdd]; exact s5
        rw [← hdd] at s4 b1 b2 b3
        by_cases z : c.toInt < 0
        · have z1 : ((0 : Int32) ≤ c) = False := by rw [le_t]; apply eq_false; show ¬ (0 : Int) ≤ c.toInt; omega
          have zn : (nI 0 ≥ c) = True := by rw [ge_iff_le, le_t, nI_t (by decide)]; apply eq_true; show c.toInt ≤ 0; omega
          have zn : (c ≤ nI 0) = True := zn
          refine ⟨nI dd.1, X, ⟨v, ?_, hV, Fv⟩, fun w => ?_⟩
          · have p3 := s3.p3
            rw [s4] at p3
            simp only [C_X11_dyed, R_X11_dyed, SB, hC.f0, hC.f1, hC.f2, hC.f3, hC.f4, hC.f5, hC.f6, hC.f7, hC.f8, hC.f9, clK_gf hC.f0, s_isKnot, s_isColour, s_isKindAndM, s_isUse, iw_1, iw_3, iw_6, iw_7, iw_99, iw_100, iw_255, s_rf1 hC, s_rf2 hC, s_rf3 hC, s_rf4 hC, s_rf5 hC, bI_e0, bI_n0, b_ft, bI_01, bI_t, bI_f, i10, i01, if_true, if_false, Bool.true_eq_false, Bool.false_eq_true, or_true, true_or, not_true_eq_false, not_false_eq_true, ls1s, q1, iw1, iw2, g0, k34, k109, s1, z1, hV.f6, p3]
          · obtain ⟨J, B, o8, o9, a1, a2, a3⟩ := m_dyeO (I := I) hD k1 ⟨n1, n2⟩ c w 60
            rw [← hdd] at a1
            refine ⟨J, B, ?_, hM.kp (a2 2 (by decide)) (a2 21 (by decide)) (fun j hj => a3 j (by omega))⟩
            refine (ent w).trans (a1.trans ?_)
            rw [H_X12_dyed_74]
            simp only [R_X12_dyed_p0, R_X12_dyed_p1, SB, mw_o, mw_a, mo_g, mo_p, mo_pz, mw_so, mw_sa, upA_eq, upA_upA, upd_upd, m_isKnot, m_isSheet, mi_1, mi_3, mi_5, mi_6, mi_7, mi_69, mi_99, mi_100, mi_255, m_f1, m_f2, m_f3, m_f4, m_f5, bI_e0, bI_n0, b_ft, bI_01, bI_t, bI_f, i10, i01, if_true, if_false, Bool.true_eq_false, Bool.false_eq_true, or_true, true_or, not_true_eq_false, not_false_eq_true, ls1s, nn, e7, show ((7 : Int32) = nI 0) = False from by decide, show (0 : Int32) = nI 0 from rfl]
            rw [H_X12_dyed_173]
            simp only [R_X12_dyed_p0, R_X12_dyed_p1, SB, mw_o, mw_a, mo_g, mo_p, mo_pz, mw_so, mw_sa, upA_eq, upA_upA, upd_upd, m_isKnot, m_isSheet, mi_1, mi_3, mi_5, mi_6, mi_7, mi_69, mi_99, mi_100, mi_255, m_f1, m_f2, m_f3, m_f4, m_f5, bI_e0, bI_n0, b_ft, bI_01, bI_t, bI_f, i10, i01, if_true, if_false, Bool.true_eq_false, Bool.false_eq_true, or_true, true_or, not_true_eq_false, not_false_eq_true, ls1s, zn, z1]
        · obtain ⟨x, x1, rfl⟩ : ∃ x : Nat, x < n ∧ c = nI x := ⟨c.toInt.toNat, by omega, nI_nat (by omega)⟩
          have z1 : ((0 : Int32) ≤ nI x) = True := by rw [show (0 : Int32) = nI 0 from rfl, le_nI (by decide) (by omega)]; apply eq_true; omega
          have sc := s_colourOfFlood s3 (show x < 3 by omega) 60
          have v109 : clK (hg v 109) = 2 := clK_gf s3.p0
          refine ⟨nI (dgN n dd.2 x), X, ⟨v, ?_, hV, Fv⟩, fun w => ?_⟩
          · rw [s5 x x1] at sc
            simp only [C_X11_dyed, R_X11_dyed, SB, hC.f0, hC.f1, hC.f2, hC.f3, hC.f4, hC.f5, hC.f6, hC.f7, hC.f8, hC.f9, clK_gf hC.f0, s_isKnot, s_isColour, s_isKindAndM, s_isUse, iw_1, iw_3, iw_6, iw_7, iw_99, iw_100, iw_255, s_rf1 hC, s_rf2 hC, s_rf3 hC, s_rf4 hC, s_rf5 hC, bI_e0, bI_n0, b_ft, bI_01, bI_t, bI_f, i10, i01, if_true, if_false, Bool.true_eq_false, Bool.false_eq_true, or_true, true_or, not_true_eq_false, not_false_eq_true, ls1s, q1, iw1, iw2, g0, k34, k109, s1, z1, hV.f6, v109, sc]
          · obtain ⟨J, B, o8, o9, a1, a2, a3⟩ := m_dyeO (I := I) hD k1 ⟨n1, n2⟩ (nI x) w 60
            rw [← hdd] at a1
            obtain ⟨d1, d2⟩ := oFN_dg (code := dd.2) x1
            have lp := loopE (fun i (_ : Unit) => Ex M_X12_dyed 60 173 [some (.ref 123), some (.int (nI k)), some (.int (nI n)), some (.int (nI x)), some (.int (nI (7 ^ n))), some (.int (nI dd.2)), some (.int (nI dd.1)), some (.int (nI (oFN n i))), some (.int (nI i)), o9] [] (mw w J B)) (fun _ _ => True) x (by
              intro i _ hi _
              have ol := oFN_lt (i := i) n2
              have e1 : (nI x ≤ nI i) = False := by rw [le_nI (by omega) (by omega)]; apply eq_false; omega
              have q4 : nI (oFN n i) / 7 = nI (oFN n (i + 1)) := by
                rw [← oFN_s]
                exact pk_div (show oFN n i < 2 ^ 31 by omega) (show 0 < 7 by decide) (show 7 < 2 ^ 31 by decide)
              refine ⟨(), ?_, trivial⟩
              rw [H_X12_dyed_173]
              simp only [R_X12_dyed_p0, R_X12_dyed_p1, SB, mw_o, mw_a, mo_g, mo_p, mo_pz, mw_so, mw_sa, upA_eq, upA_upA, upd_upd, m_isKnot, m_isSheet, mi_1, mi_3, mi_5, mi_6, mi_7, mi_69, mi_99, mi_100, mi_255, m_f1, m_f2, m_f3, m_f4, m_f5, bI_e0, bI_n0, b_ft, bI_01, bI_t, bI_f, i10, i01, if_true, if_false, Bool.true_eq_false, Bool.false_eq_true, or_true, true_or, not_true_eq_false, not_false_eq_true, ls1s, e1, show ((7 : Int32) = 0) = False from by decide, q4, nI_1]) () trivial
            obtain ⟨_, lp, _⟩ := lp
            have ol := oFN_lt (i := x) n2
            have xx : (nI x ≤ nI x) = True := by simp
            have z0 : (nI (oFN n x) = (0 : Int32)) = False := by rw [show (0 : Int32) = nI 0 from rfl, eq_nI (by omega) (by decide)]; apply eq_false; omega
            have w1 : nI dd.2 / nI (oFN n x) = nI (dd.2 / oFN n x) := pk_div (show dd.2 < 2 ^ 31 by omega) d2 (show oFN n x < 2 ^ 31 by omega)
            have cl : dd.2 / oFN n x < 2 ^ 31 := by have := Nat.div_le_self dd.2 (oFN n x); omega
            have w2 : nI (dd.2 / oFN n x) - nI (dd.2 / oFN n x) / 7 * 7 = nI (dd.2 / oFN n x % 7) := pk_rem cl (show 0 < 7 by decide) (show 7 < 2 ^ 31 by decide)
            have w3 : nI (dd.2 / oFN n x % 7) + 1 = nI (dgN n dd.2 x) := by rw [nI_1, d1]
            refine ⟨J, B, ?_, hM.kp (a2 2 (by decide)) (a2 21 (by decide)) (fun j hj => a3 j (by omega))⟩
            refine (ent w).trans (a1.trans ?_)
            rw [H_X12_dyed_74]
            simp only [R_X12_dyed_p0, R_X12_dyed_p1, SB, mw_o, mw_a, mo_g, mo_p, mo_pz, mw_so, mw_sa, upA_eq, upA_upA, upd_upd, m_isKnot, m_isSheet, mi_1, mi_3, mi_5, mi_6, mi_7, mi_69, mi_99, mi_100, mi_255, m_f1, m_f2, m_f3, m_f4, m_f5, bI_e0, bI_n0, b_ft, bI_01, bI_t, bI_f, i10, i01, if_true, if_false, Bool.true_eq_false, Bool.false_eq_true, or_true, true_or, not_true_eq_false, not_false_eq_true, ls1s, nn, e7, show ((7 : Int32) = nI 0) = False from by decide, show (0 : Int32) = nI 0 from rfl]
            refine (show _ = _ from rfl).trans (lp.trans ?_)
            rw [H_X12_dyed_173]
            simp only [R_X12_dyed_p0, R_X12_dyed_p1, SB, mw_o, mw_a, mo_g, mo_p, mo_pz, mw_so, mw_sa, upA_eq, upA_upA, upd_upd, m_isKnot, m_isSheet, mi_1, mi_3, mi_5, mi_6, mi_7, mi_69, mi_99, mi_100, mi_255, m_f1, m_f2, m_f3, m_f4, m_f5, bI_e0, bI_n0, b_ft, bI_01, bI_t, bI_f, i10, i01, if_true, if_false, Bool.true_eq_false, Bool.false_eq_true, or_true, true_or, not_true_eq_false, not_false_eq_true, ls1s, xx, z1, z0, show ((7 : Int32) = 0) = False from by decide, w1, w2, w3]
      · rw [decide_eq_false q3] at iw2 im2
        refine JS.er hC hM (k := 1) (by decide) ?_ (fun w => ?_)
        · simp only [C_X11_dyed, R_X11_dyed, SB, hC.f0, hC.f1, hC.f2, hC.f3, hC.f4, hC.f5, hC.f6, hC.f7, hC.f8, hC.f9, clK_gf hC.f0, s_isKnot, s_isColour, s_isKindAndM, s_isUse, iw_1, iw_3, iw_6, iw_7, iw_99, iw_100, iw_255, s_rf1 hC, s_rf2 hC, s_rf3 hC, s_rf4 hC, s_rf5 hC, bI_e0, bI_n0, b_ft, bI_01, bI_t, bI_f, i10, i01, if_true, if_false, Bool.true_eq_false, Bool.false_eq_true, or_true, true_or, not_true_eq_false, not_false_eq_true, ls1s, q1, iw1, iw2]
        · simp only [C_X12_dyed, R_X12_dyed_p0, R_X12_dyed_p1, SB, mw_o, mw_a, mo_g, mo_p, mo_pz, mw_so, mw_sa, upA_eq, upA_upA, upd_upd, m_isKnot, m_isSheet, mi_1, mi_3, mi_5, mi_6, mi_7, mi_69, mi_99, mi_100, mi_255, m_f1, m_f2, m_f3, m_f4, m_f5, bI_e0, bI_n0, b_ft, bI_01, bI_t, bI_f, i10, i01, if_true, if_false, Bool.true_eq_false, Bool.false_eq_true, or_true, true_or, not_true_eq_false, not_false_eq_true, ls1s, q1, im1, im2]
    · rw [decide_eq_false q2] at iw1 im1
      refine JS.er hC hM (k := 1) (by decide) ?_ (fun w => ?_)
      · simp only [C_X11_dyed, R_X11_dyed, SB, hC.f0, hC.f1, hC.f2, hC.f3, hC.f4, hC.f5, hC.f6, hC.f7, hC.f8, hC.f9, clK_gf hC.f0, s_isKnot, s_isColour, s_isKindAndM, s_isUse, iw_1, iw_3, iw_6, iw_7, iw_99, iw_100, iw_255, s_rf1 hC, s_rf2 hC, s_rf3 hC, s_rf4 hC, s_rf5 hC, bI_e0, bI_n0, b_ft, bI_01, bI_t, bI_f, i10, i01, if_true, if_false, Bool.true_eq_false, Bool.false_eq_true, or_true, true_or, not_true_eq_false, not_false_eq_true, ls1s, q1, iw1]
      · simp only [C_X12_dyed, R_X12_dyed_p0, R_X12_dyed_p1, SB, mw_o, mw_a, mo_g, mo_p, mo_pz, mw_so, mw_sa, upA_eq, upA_upA, upd_upd, m_isKnot, m_isSheet, mi_1, mi_3, mi_5, mi_6, mi_7, mi_69, mi_99, mi_100, mi_255, m_f1, m_f2, m_f3, m_f4, m_f5, bI_e0, bI_n0, b_ft, bI_01, bI_t, bI_f, i10, i01, if_true, if_false, Bool.true_eq_false, Bool.false_eq_true, or_true, true_or, not_true_eq_false, not_false_eq_true, ls1s, q1, im1]
  · refine JS.er hC hM (k := 1) (by decide) ?_ (fun w => ?_)
    · simp only [C_X11_dyed, R_X11_dyed, SB, hC.f0, hC.f1, hC.f2, hC.f3, hC.f4, hC.f5, hC.f6, hC.f7, hC.f8, hC.f9, clK_gf hC.f0, s_isKnot, s_isColour, s_isKindAndM, s_isUse, iw_1, iw_3, iw_6, iw_7, iw_99, iw_100, iw_255, s_rf1 hC, s_rf2 hC, s_rf3 hC, s_rf4 hC, s_rf5 hC, bI_e0, bI_n0, b_ft, bI_01, bI_t, bI_f, i10, i01, if_true, if_false, Bool.true_eq_false, Bool.false_eq_true, or_true, true_or, not_true_eq_false, not_false_eq_true, ls1s, inR_f q1]
    · simp only [C_X12_dyed, R_X12_dyed_p0, R_X12_dyed_p1, SB, mw_o, mw_a, mo_g, mo_p, mo_pz, mw_so, mw_sa, upA_eq, upA_upA, upd_upd, m_isKnot, m_isSheet, mi_1, mi_3, mi_5, mi_6, mi_7, mi_69, mi_99, mi_100, mi_255, m_f1, m_f2, m_f3, m_f4, m_f5, bI_e0, bI_n0, b_ft, bI_01, bI_t, bI_f, i10, i01, if_true, if_false, Bool.true_eq_false, Bool.false_eq_true, or_true, true_or, not_true_eq_false, not_false_eq_true, ls1s, inR_f q1]
