/-! ===== pairs: move ===== -/
theorem szSub {n : Nat} (hn : n ≤ 40) {i : Int32} (h : 0 ≤ i.toInt) : (nI n - i).toInt = (n : Int) - i.toInt := by
  have := Int32.toInt_lt i
  rw [nI_iz, ← iz_of i, iz_sub, iz_toInt (by omega) (by omega), iz_of]
theorem j_move (a b c d e : Int32) : JO M_X11_move M_X12_move [.int a, .int b, .int c, .int d, .int e] := by
  apply JO.mk
  intro W X I A hC hM
  by_cases q1 : inR a 4 = true
  · by_cases q2 : inR c 4 = true
    · obtain ⟨k, k1, k2, rfl⟩ := inR_of q1
      obtain ⟨o, o1, o2, rfl⟩ := inR_of q2
      have so := s_sheetOf hC q1 k1 60
      have so2 := s_sheetOf hC q2 o1 60
      have sh := hC.she k k1
      have sh2 := hC.she o o1
      have mi := s_Sheet_missing sh 60
      have mi2 := s_Sheet_missing sh2 60
      have rb := sh.rb
      have rn := sh.rn
      have rb2 := sh2.rb
      have rn2 := sh2.rn
      have e0 := bitsN0 rb
      have e02 := bitsN0 rb2
      have b0 := hM.shb k k1
      have n0 := hM.shn k k1
      have b02 := hM.shb o o1
      have n02 := hM.shn o o1
      have shv := hM.shv k k1
      have shv2 := hM.shv o o1
      have shr := hM.shr k k1
      have shr2 := hM.shr o o1
      have p0 := sh.p0
      have p1 := sh.p1
      have p02 := sh2.p0
      have p12 := sh2.p1
      have sq := sh.q
      have sq2 := sh2.q
      generalize hbt : (X.2.2.2.2.2 k).1 = bt at *
      generalize hnn : (X.2.2.2.2.2 k).2.1 = nn at *
      generalize hFF : (X.2.2.2.2.2 k).2.2 = FF at *
      generalize hbt2 : (X.2.2.2.2.2 o).1 = bt2 at *
      generalize hnn2 : (X.2.2.2.2.2 o).2.1 = nn2 at *
      generalize hFF2 : (X.2.2.2.2.2 o).2.2 = FF2 at *
      by_cases qm : bt = 0
      · refine JS.er hC hM (k := 2) (by decide) ?_ (fun w => ?_)
        · simp only [C_X11_move, R_X11_move_p0, R_X11_move_p1, SB, hC.f0, hC.f1, hC.f2, hC.f3, hC.f4, hC.f5, hC.f6, hC.f7, hC.f8, hC.f9, clK_gf hC.f0, s_isKnot, s_isColour, s_isKindAndM, s_isUse, iw_1, iw_3, iw_6, iw_7, iw_99, iw_100, iw_255, s_rf1 hC, s_rf2 hC, s_rf3 hC, s_rf4 hC, s_rf5 hC, bI_e0, bI_n0, b_ft, bI_01, bI_t, bI_f, i10, i01, if_true, if_false, Bool.true_eq_false, Bool.false_eq_true, or_true, true_or, not_true_eq_false, not_false_eq_true, ls1s, so, so2, clK_gf p0, clK_gf p02, mi, qm, decide_true]
        · simp (disch := omega) only [C_X12_move, R_X12_move_p0, R_X12_move_p1, SB, mw_o, mw_a, mo_g, mo_p, mo_pz, mw_so, mw_sa, upA_eq, upA_upA, upd_upd, m_isKnot, m_isSheet, mi_1, mi_3, mi_5, mi_6, mi_7, mi_69, mi_99, mi_100, mi_255, m_f1, m_f2, m_f3, m_f4, m_f5, bI_e0, bI_n0, b_ft, bI_01, bI_t, bI_f, i10, i01, if_true, if_false, Bool.true_eq_false, Bool.false_eq_true, or_true, true_or, not_true_eq_false, not_false_eq_true, ls1s, q1, q2, aI_a, b0, e0, eq_true qm]
      · by_cases qm2 : bt2 = 0
        · refine JS.er hC hM (k := 2) (by decide) ?_ (fun w => ?_)
          · simp only [C_X11_move, R_X11_move_p0, R_X11_move_p1, SB, hC.f0, hC.f1, hC.f2, hC.f3, hC.f4, hC.f5, hC.f6, hC.f7, hC.f8, hC.f9, clK_gf hC.f0, s_isKnot, s_isColour, s_isKindAndM, s_isUse, iw_1, iw_3, iw_6, iw_7, iw_99, iw_100, iw_255, s_rf1 hC, s_rf2 hC, s_rf3 hC, s_rf4 hC, s_rf5 hC, bI_e0, bI_n0, b_ft, bI_01, bI_t, bI_f, i10, i01, if_true, if_false, Bool.true_eq_false, Bool.false_eq_true, or_true, true_or, not_true_eq_false, not_false_eq_true, ls1s, so, so2, clK_gf p0, clK_gf p02, mi, mi2, qm, qm2, decide_true, decide_false]
          · simp (disch := omega) only [C_X12_move, R_X12_move_p0, R_X12_move_p1, SB, mw_o, mw_a, mo_g, mo_p, mo_pz, mw_so, mw_sa, upA_eq, upA_upA, upd_upd, m_isKnot, m_isSheet, mi_1, mi_3, mi_5, mi_6, mi_7, mi_69, mi_99, mi_100, mi_255, m_f1, m_f2, m_f3, m_f4, m_f5, bI_e0, bI_n0, b_ft, bI_01, bI_t, bI_f, i10, i01, if_true, if_false, Bool.true_eq_false, Bool.false_eq_true, or_true, true_or, not_true_eq_false, not_false_eq_true, ls1s, q1, q2, aI_a, b0, e0, eq_false qm, b02, e02, eq_true qm2]
        · have eb : (nI bt = nI bt2) = (bt = bt2) := eq_nI (by omega) (by omega)
          by_cases qk : bt = bt2
          · subst qk
            have ha := s_Sheet_hasAll sh b e 60
            have ha2 := s_Sheet_hasAll sh2 d e 60
            by_cases qa : (0 ≤ b.toInt ∧ 0 ≤ e.toInt ∧ b.toInt + e.toInt ≤ nn) ∧ (0 ≤ d.toInt ∧ 0 ≤ e.toInt ∧ d.toInt + e.toInt ≤ nn2)
            · obtain ⟨g1, g2⟩ := qa
              rw [decide_eq_true g1] at ha
              rw [decide_eq_true g2] at ha2
              obtain ⟨i, hi, rfl⟩ : ∃ i, i < 100 ∧ b = nI i := ⟨b.toInt.toNat, by omega, nI_nat g1.1⟩
              obtain ⟨n, hn, rfl⟩ : ∃ n, n < 100 ∧ e = nI n := ⟨e.toInt.toNat, by omega, nI_nat g1.2.1⟩
              obtain ⟨j, hj, rfl⟩ : ∃ j, j < 100 ∧ d = nI j := ⟨d.toInt.toNat, by omega, nI_nat g2.1⟩
              have g3 := g1.2.2
              have g4 := g2.2.2
              rw [nI_t (by omega), nI_t (by omega)] at g3 g4
              have g3 : i + n ≤ nn := by omega
              have g4 : j + n ≤ nn2 := by omega
              have z0 : ∀ q, q < 100 → (nI q < (0 : Int32)) = False := fun q hq => eq_false (nI_pos (by omega))
              have sb1 : nI nn - nI i = nI (nn - i) := pk_sub (by omega)
              have sb2 : nI nn2 - nI j = nI (nn2 - j) := pk_sub (by omega)
              refine ⟨nI n, _, ⟨_, ?_, hC.setSheet o1 (b := bt) (n := nn2) (G := va_cpy FF FF2 i j n) (Fr.hs (Or.inr rfl) (.inl (0, 40, .inl (va_cpy FF FF2 i j n)))) ⟨by rw [hs_ne _ _ (by omega)]; exact p02, by rw [hs_ne _ _ (by omega)]; exact p12, by rw [hs_ne _ _ (by omega)]; exact sh2.p2, hs_eq _ _ _, rb2, rn2⟩, (Fr.hs ⟨by omega, by omega⟩ _)⟩, fun w => ?_⟩
              · have ac := aC_0 (f := FF) (g := FF2) (m := 40) (m2 := 40) (sp := i) (dp := j) (n := n) (by omega) (by omega) (by omega) (by omega)
                simp only [C_X11_move, R_X11_move_p0, R_X11_move_p1, SB, hC.f0, hC.f1, hC.f2, hC.f3, hC.f4, hC.f5, hC.f6, hC.f7, hC.f8, hC.f9, clK_gf hC.f0, s_isKnot, s_isColour, s_isKindAndM, s_isUse, iw_1, iw_3, iw_6, iw_7, iw_99, iw_100, iw_255, s_rf1 hC, s_rf2 hC, s_rf3 hC, s_rf4 hC, s_rf5 hC, bI_e0, bI_n0, b_ft, bI_01, bI_t, bI_f, i10, i01, if_true, if_false, Bool.true_eq_false, Bool.false_eq_true, or_true, true_or, not_true_eq_false, not_false_eq_true, ls1s, so, so2, clK_gf p0, clK_gf p02, mi, mi2, qm, decide_false, p1, p12, p0, p02, ha, ha2, sq, sq2, ac]
              · obtain ⟨L, l1, l2, -⟩ := loopE (fun q (L : Nat → Int32) => Ex M_X12_move 60 115 [some (.ref 123), some (.int (nI k)), some (.int (nI i)), some (.int (nI o)), some (.int (nI j)), some (.int (nI n)), some (.int (nI q))] [] (mw w I (upA A 13 L))) (fun q L => (∀ u, u < q → L u = A 12 (40 * k + (i + u))) ∧ True) n (by
                  intro q L hq hI
                  obtain ⟨i1, -⟩ := hI
                  refine ⟨upd L q (A 12 (40 * k + (i + q))), ?_, fun u hu => ?_, trivial⟩
                  · rw [H_X12_move_115]
                    have e1 : (nI n ≤ nI q) = False := by rw [le_nI (by omega) (by omega)]; simp; omega
                    simp (disch := omega) only [R_X12_move_p0, R_X12_move_p1, SB, mw_o, mw_a, mo_g, mo_p, mo_pz, mw_so, mw_sa, upA_eq, upA_upA, upd_upd, e1, if_false, if_true, lit_mul, nI_add, show ((12 : Nat) = 13) = False from by simp, aI_a, uI_0, ls1s, nI_1, Nat.add_assoc]
                  · by_cases z : u = q
                    · subst z; exact upd_s _ _ _
                    · rw [upd_n z]; exact i1 u (by omega)) (A 13) ⟨fun u hu => absurd hu (by omega), trivial⟩
                obtain ⟨N, m1, m2, m3⟩ := loopE (fun q (N : Nat → Int32) => Ex M_X12_move 60 152 [some (.ref 123), some (.int (nI k)), some (.int (nI i)), some (.int (nI o)), some (.int (nI j)), some (.int (nI n)), some (.int (nI q))] [] (mw w I (upA (upA A 13 L) 12 N))) (fun q N => (∀ u, u < q → N (40 * o + (j + u)) = L u) ∧ ∀ u, u < 40 * o + j ∨ 40 * o + j + q ≤ u → N u = A 12 u) n (by
                  intro q N hq hI
                  obtain ⟨i1, i2⟩ := hI
                  refine ⟨upd N (40 * o + (j + q)) (L q), ?_, fun u hu => ?_, fun u hu => ?_⟩
                  · rw [H_X12_move_152]
                    have e1 : (nI n ≤ nI q) = False := by rw [le_nI (by omega) (by omega)]; simp; omega
                    simp (disch := omega) only [R_X12_move_p0, R_X12_move_p1, SB, mw_o, mw_a, mo_g, mo_p, mo_pz, mw_so, mw_sa, upA_eq, upA_upA, upd_upd, e1, if_false, if_true, lit_mul, nI_add, show ((13 : Nat) = 12) = False from by simp, aI_a, uI_0, ls1s, nI_1, Nat.add_assoc]
                  · by_cases z : u = q
                    · subst z; exact upd_s _ _ _
                    · rw [upd_n (by omega)]; exact i1 u (by omega)
                  · rw [upd_n (by omega)]; exact i2 u (by omega)) (A 12) ⟨fun u hu => absurd hu (by omega), fun _ _ => rfl⟩
                have A12 : upA (upA A 13 L) 12 (A 12) = upA A 13 L := by
                  rw [show A 12 = (upA A 13 L) 12 from rfl, upA_same]
                rw [A12] at m1
                rw [upA_same] at l1
                have e2 : (nI n ≤ nI n) = True := by simp
                refine ⟨I, upA (upA A 13 L) 12 N, ?_, hM.setSheet hC o1 rn2 (fun u hu => by rw [upA_n (by omega), upA_n (by omega)]) (fun u hu => ?_) (fun u hu => ?_) (fun u hu => ?_) (fun u hu => m3 u (by omega)) (fun u hu => ?_)⟩
                · have z4 : (nI (nn - i) < nI n) = False := by rw [lt_nI (by omega) (by omega)]; apply eq_false; omega
                  have z5 : (nI n ≤ nI (nn2 - j)) = True := by rw [le_nI (by omega) (by omega)]; apply eq_true; omega
                  simp (disch := omega) only [C_X12_move, R_X12_move_p0, R_X12_move_p1, SB, mw_o, mw_a, mo_g, mo_p, mo_pz, mw_so, mw_sa, upA_eq, upA_upA, upd_upd, m_isKnot, m_isSheet, mi_1, mi_3, mi_5, mi_6, mi_7, mi_69, mi_99, mi_100, mi_255, m_f1, m_f2, m_f3, m_f4, m_f5, bI_e0, bI_n0, b_ft, bI_01, bI_t, bI_f, i10, i01, if_true, if_false, Bool.true_eq_false, Bool.false_eq_true, or_true, true_or, not_true_eq_false, not_false_eq_true, ls1s, q1, q2, aI_a, b0, e0, eq_false qm, b02, n0, n02, z0, sb1, sb2, z4, z5]
                  refine l1.trans ?_
                  rw [H_X12_move_115]
                  simp (disch := omega) only [R_X12_move_p0, R_X12_move_p1, SB, e2, if_true]
                  refine m1.trans ?_
                  rw [H_X12_move_152]
                  simp (disch := omega) only [R_X12_move_p0, R_X12_move_p1, SB, e2, if_true]
                · rw [upA_n (by decide), upA_n (by decide)]
                  by_cases z : u = o
                  · subst z; rw [if_pos rfl, b02]
                  · rw [if_neg z]
                · rw [upA_n (by decide), upA_n (by decide)]
                  by_cases z : u = o
                  · subst z; rw [if_pos rfl, n02]
                  · rw [if_neg z]
                · show N (40 * o + u) = sxI bt (va_cpy FF FF2 i j n u)
                  by_cases z : j ≤ u ∧ u < j + n
                  · rw [pk_cpy_in z.1 z.2, ← shv (i + (u - j)) (by omega), ← l2 (u - j) (by omega), ← m2 (u - j) (by omega), show j + (u - j) = u by omega]
                  · rw [pk_cpy_out (by omega), m3 _ (by omega)]
                    exact shv2 u hu
                · show mskI bt (va_cpy FF FF2 i j n u) = va_cpy FF FF2 i j n u
                  by_cases z : j ≤ u ∧ u < j + n
                  · rw [pk_cpy_in z.1 z.2]; exact shr _ (by omega)
                  · rw [pk_cpy_out (by omega)]; exact shr2 u hu
            · refine JS.er hC hM (k := 1) (by decide) ?_ (fun w => ?_)
              · by_cases g1 : (0 ≤ b.toInt ∧ 0 ≤ e.toInt ∧ b.toInt + e.toInt ≤ nn)
                · rw [decide_eq_true g1] at ha
                  rw [decide_eq_false (fun x => qa ⟨g1, x⟩)] at ha2
                  simp only [C_X11_move, R_X11_move_p0, R_X11_move_p1, SB, hC.f0, hC.f1, hC.f2, hC.f3, hC.f4, hC.f5, hC.f6, hC.f7, hC.f8, hC.f9, clK_gf hC.f0, s_isKnot, s_isColour, s_isKindAndM, s_isUse, iw_1, iw_3, iw_6, iw_7, iw_99, iw_100, iw_255, s_rf1 hC, s_rf2 hC, s_rf3 hC, s_rf4 hC, s_rf5 hC, bI_e0, bI_n0, b_ft, bI_01, bI_t, bI_f, i10, i01, if_true, if_false, Bool.true_eq_false, Bool.false_eq_true, or_true, true_or, not_true_eq_false, not_false_eq_true, ls1s, so, so2, clK_gf p0, clK_gf p02, mi, mi2, qm, decide_false, p1, p12, ha, ha2]
                · rw [decide_eq_false g1] at ha
                  simp only [C_X11_move, R_X11_move_p0, R_X11_move_p1, SB, hC.f0, hC.f1, hC.f2, hC.f3, hC.f4, hC.f5, hC.f6, hC.f7, hC.f8, hC.f9, clK_gf hC.f0, s_isKnot, s_isColour, s_isKindAndM, s_isUse, iw_1, iw_3, iw_6, iw_7, iw_99, iw_100, iw_255, s_rf1 hC, s_rf2 hC, s_rf3 hC, s_rf4 hC, s_rf5 hC, bI_e0, bI_n0, b_ft, bI_01, bI_t, bI_f, i10, i01, if_true, if_false, Bool.true_eq_false, Bool.false_eq_true, or_true, true_or, not_true_eq_false, not_false_eq_true, ls1s, so, so2, clK_gf p0, clK_gf p02, mi, mi2, qm, decide_false, p1, p12, ha]
              · by_cases h1 : e.toInt < 0
                · have f1 : (e < 0) = True := by rw [lt_t, show (0 : Int32).toInt = 0 from rfl]; exact eq_true h1
                  simp (disch := omega) only [C_X12_move, R_X12_move_p0, R_X12_move_p1, SB, mw_o, mw_a, mo_g, mo_p, mo_pz, mw_so, mw_sa, upA_eq, upA_upA, upd_upd, m_isKnot, m_isSheet, mi_1, mi_3, mi_5, mi_6, mi_7, mi_69, mi_99, mi_100, mi_255, m_f1, m_f2, m_f3, m_f4, m_f5, bI_e0, bI_n0, b_ft, bI_01, bI_t, bI_f, i10, i01, if_true, if_false, Bool.true_eq_false, Bool.false_eq_true, or_true, true_or, not_true_eq_false, not_false_eq_true, ls1s, q1, q2, aI_a, b0, e0, eq_false qm, b02, f1]
                · have f1 : (e < 0) = False := by rw [lt_t, show (0 : Int32).toInt = 0 from rfl]; exact eq_false h1
                  by_cases h2 : b.toInt < 0
                  · have f2 : (b < 0) = True := by rw [lt_t, show (0 : Int32).toInt = 0 from rfl]; exact eq_true h2
                    simp (disch := omega) only [C_X12_move, R_X12_move_p0, R_X12_move_p1, SB, mw_o, mw_a, mo_g, mo_p, mo_pz, mw_so, mw_sa, upA_eq, upA_upA, upd_upd, m_isKnot, m_isSheet, mi_1, mi_3, mi_5, mi_6, mi_7, mi_69, mi_99, mi_100, mi_255, m_f1, m_f2, m_f3, m_f4, m_f5, bI_e0, bI_n0, b_ft, bI_01, bI_t, bI_f, i10, i01, if_true, if_false, Bool.true_eq_false, Bool.false_eq_true, or_true, true_or, not_true_eq_false, not_false_eq_true, ls1s, q1, q2, aI_a, b0, e0, eq_false qm, b02, f1, f2]
                  · have f2 : (b < 0) = False := by rw [lt_t, show (0 : Int32).toInt = 0 from rfl]; exact eq_false h2
                    by_cases h3 : d.toInt < 0
                    · have f3 : (d < 0) = True := by rw [lt_t, show (0 : Int32).toInt = 0 from rfl]; exact eq_true h3
                      simp (disch := omega) only [C_X12_move, R_X12_move_p0, R_X12_move_p1, SB, mw_o, mw_a, mo_g, mo_p, mo_pz, mw_so, mw_sa, upA_eq, upA_upA, upd_upd, m_isKnot, m_isSheet, mi_1, mi_3, mi_5, mi_6, mi_7, mi_69, mi_99, mi_100, mi_255, m_f1, m_f2, m_f3, m_f4, m_f5, bI_e0, bI_n0, b_ft, bI_01, bI_t, bI_f, i10, i01, if_true, if_false, Bool.true_eq_false, Bool.false_eq_true, or_true, true_or, not_true_eq_false, not_false_eq_true, ls1s, q1, q2, aI_a, b0, e0, eq_false qm, b02, f1, f2, f3]
                    · have f3 : (d < 0) = False := by rw [lt_t, show (0 : Int32).toInt = 0 from rfl]; exact eq_false h3
                      have s1 := szSub rn (i := b) (by omega)
                      have s2 := szSub rn2 (i := d) (by omega)
                      by_cases h4 : (nn : Int) - b.toInt < e.toInt
                      · have f4 : (nI nn - b < e) = True := by rw [lt_t, s1]; exact eq_true h4
                        simp (disch := omega) only [C_X12_move, R_X12_move_p0, R_X12_move_p1, SB, mw_o, mw_a, mo_g, mo_p, mo_pz, mw_so, mw_sa, upA_eq, upA_upA, upd_upd, m_isKnot, m_isSheet, mi_1, mi_3, mi_5, mi_6, mi_7, mi_69, mi_99, mi_100, mi_255, m_f1, m_f2, m_f3, m_f4, m_f5, bI_e0, bI_n0, b_ft, bI_01, bI_t, bI_f, i10, i01, if_true, if_false, Bool.true_eq_false, Bool.false_eq_true, or_true, true_or, not_true_eq_false, not_false_eq_true, ls1s, q1, q2, aI_a, b0, e0, eq_false qm, b02, n0, f1, f2, f3, f4]
                      · have f4 : (nI nn - b < e) = False := by rw [lt_t, s1]; exact eq_false h4
                        have f5 : (e ≤ nI nn2 - d) = False := by rw [le_t, s2]; apply eq_false; omega
                        simp (disch := omega) only [C_X12_move, R_X12_move_p0, R_X12_move_p1, SB, mw_o, mw_a, mo_g, mo_p, mo_pz, mw_so, mw_sa, upA_eq, upA_upA, upd_upd, m_isKnot, m_isSheet, mi_1, mi_3, mi_5, mi_6, mi_7, mi_69, mi_99, mi_100, mi_255, m_f1, m_f2, m_f3, m_f4, m_f5, bI_e0, bI_n0, b_ft, bI_01, bI_t, bI_f, i10, i01, if_true, if_false, Bool.true_eq_false, Bool.false_eq_true, or_true, true_or, not_true_eq_false, not_false_eq_true, ls1s, q1, q2, aI_a, b0, e0, eq_false qm, b02, n0, n02, f1, f2, f3, f4, f5]
          · refine JS.er hC hM (k := 5) (by decide) ?_ (fun w => ?_)
            · simp only [C_X11_move, R_X11_move_p0, R_X11_move_p1, SB, hC.f0, hC.f1, hC.f2, hC.f3, hC.f4, hC.f5, hC.f6, hC.f7, hC.f8, hC.f9, clK_gf hC.f0, s_isKnot, s_isColour, s_isKindAndM, s_isUse, iw_1, iw_3, iw_6, iw_7, iw_99, iw_100, iw_255, s_rf1 hC, s_rf2 hC, s_rf3 hC, s_rf4 hC, s_rf5 hC, bI_e0, bI_n0, b_ft, bI_01, bI_t, bI_f, i10, i01, if_true, if_false, Bool.true_eq_false, Bool.false_eq_true, or_true, true_or, not_true_eq_false, not_false_eq_true, ls1s, so, so2, clK_gf p0, clK_gf p02, mi, mi2, qm, qm2, decide_false, p1, p12, eb, eq_false qk]
            · simp (disch := omega) only [C_X12_move, R_X12_move_p0, R_X12_move_p1, SB, mw_o, mw_a, mo_g, mo_p, mo_pz, mw_so, mw_sa, upA_eq, upA_upA, upd_upd, m_isKnot, m_isSheet, mi_1, mi_3, mi_5, mi_6, mi_7, mi_69, mi_99, mi_100, mi_255, m_f1, m_f2, m_f3, m_f4, m_f5, bI_e0, bI_n0, b_ft, bI_01, bI_t, bI_f, i10, i01, if_true, if_false, Bool.true_eq_false, Bool.false_eq_true, or_true, true_or, not_true_eq_false, not_false_eq_true, ls1s, q1, q2, aI_a, b0, e0, eq_false qm, b02, e02, eq_false qm2, eb, eq_false qk]
    · obtain ⟨k, k1, k2, rfl⟩ := inR_of q1
      have so := s_sheetOf hC q1 k1 60
      have so2 := s_sheetOf_n hC q2 60
      refine JS.er hC hM (k := 1) (by decide) ?_ (fun w => ?_)
      · simp only [C_X11_move, R_X11_move_p0, R_X11_move_p1, SB, hC.f0, hC.f1, hC.f2, hC.f3, hC.f4, hC.f5, hC.f6, hC.f7, hC.f8, hC.f9, clK_gf hC.f0, s_isKnot, s_isColour, s_isKindAndM, s_isUse, iw_1, iw_3, iw_6, iw_7, iw_99, iw_100, iw_255, s_rf1 hC, s_rf2 hC, s_rf3 hC, s_rf4 hC, s_rf5 hC, bI_e0, bI_n0, b_ft, bI_01, bI_t, bI_f, i10, i01, if_true, if_false, Bool.true_eq_false, Bool.false_eq_true, or_true, true_or, not_true_eq_false, not_false_eq_true, ls1s, so, so2]
      · simp only [C_X12_move, R_X12_move_p0, R_X12_move_p1, SB, mw_o, mw_a, mo_g, mo_p, mo_pz, mw_so, mw_sa, upA_eq, upA_upA, upd_upd, m_isKnot, m_isSheet, mi_1, mi_3, mi_5, mi_6, mi_7, mi_69, mi_99, mi_100, mi_255, m_f1, m_f2, m_f3, m_f4, m_f5, bI_e0, bI_n0, b_ft, bI_01, bI_t, bI_f, i10, i01, if_true, if_false, Bool.true_eq_false, Bool.false_eq_true, or_true, true_or, not_true_eq_false, not_false_eq_true, ls1s, q1, inR_f q2]
  · have so := s_sheetOf_n hC q1 60
    by_cases q2 : inR c 4 = true
    · obtain ⟨k, k1, k2, rfl⟩ := inR_of q2
      have so2 := s_sheetOf hC q2 k1 60
      refine JS.er hC hM (k := 1) (by decide) ?_ (fun w => ?_)
      · simp only [C_X11_move, R_X11_move_p0, R_X11_move_p1, SB, hC.f0, hC.f1, hC.f2, hC.f3, hC.f4, hC.f5, hC.f6, hC.f7, hC.f8, hC.f9, clK_gf hC.f0, s_isKnot, s_isColour, s_isKindAndM, s_isUse, iw_1, iw_3, iw_6, iw_7, iw_99, iw_100, iw_255, s_rf1 hC, s_rf2 hC, s_rf3 hC, s_rf4 hC, s_rf5 hC, bI_e0, bI_n0, b_ft, bI_01, bI_t, bI_f, i10, i01, if_true, if_false, Bool.true_eq_false, Bool.false_eq_true, or_true, true_or, not_true_eq_false, not_false_eq_true, ls1s, so, so2]
      · simp only [C_X12_move, R_X12_move_p0, R_X12_move_p1, SB, mw_o, mw_a, mo_g, mo_p, mo_pz, mw_so, mw_sa, upA_eq, upA_upA, upd_upd, m_isKnot, m_isSheet, mi_1, mi_3, mi_5, mi_6, mi_7, mi_69, mi_99, mi_100, mi_255, m_f1, m_f2, m_f3, m_f4, m_f5, bI_e0, bI_n0, b_ft, bI_01, bI_t, bI_f, i10, i01, if_true, if_false, Bool.true_eq_false, Bool.false_eq_true, or_true, true_or, not_true_eq_false, not_false_eq_true, ls1s, inR_f q1]
    · have so2 := s_sheetOf_n hC q2 60
      refine JS.er hC hM (k := 1) (by decide) ?_ (fun w => ?_)
      · simp only [C_X11_move, R_X11_move_p0, R_X11_move_p1, SB, hC.f0, hC.f1, hC.f2, hC.f3, hC.f4, hC.f5, hC.f6, hC.f7, hC.f8, hC.f9, clK_gf hC.f0, s_isKnot, s_isColour, s_isKindAndM, s_isUse, iw_1, iw_3, iw_6, iw_7, iw_99, iw_100, iw_255, s_rf1 hC, s_rf2 hC, s_rf3 hC, s_rf4 hC, s_rf5 hC, bI_e0, bI_n0, b_ft, bI_01, bI_t, bI_f, i10, i01, if_true, if_false, Bool.true_eq_false, Bool.false_eq_true, or_true, true_or, not_true_eq_false, not_false_eq_true, ls1s, so, so2]
      · simp only [C_X12_move, R_X12_move_p0, R_X12_move_p1, SB, mw_o, mw_a, mo_g, mo_p, mo_pz, mw_so, mw_sa, upA_eq, upA_upA, upd_upd, m_isKnot, m_isSheet, mi_1, mi_3, mi_5, mi_6, mi_7, mi_69, mi_99, mi_100, mi_255, m_f1, m_f2, m_f3, m_f4, m_f5, bI_e0, bI_n0, b_ft, bI_01, bI_t, bI_f, i10, i01, if_true, if_false, Bool.true_eq_false, Bool.false_eq_true, or_true, true_or, not_true_eq_false, not_false_eq_true, ls1s, inR_f q1]
