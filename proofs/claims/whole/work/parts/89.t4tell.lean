/-! ===== pairs: frontier, again, stays ===== -/
def qB (col : Nat → Nat) (a b k y : Nat) : Bool := decide (col k = a ∧ nbN k y < 36 ∧ col (nbN k y) = b)
def pB (col : Nat → Nat) (a b y k : Nat) : Bool := (stN (csN col a) y &&& csN col b).testBit k
theorem pB_eq (col : Nat → Nat) (a b : Nat) {y : Nat} (hy : y < 4) {k : Nat} (hk : k < 36) : pB col a b y k = decide (nbN k (opp y) < 36 ∧ col (nbN k (opp y)) = a ∧ col k = b) := by
  unfold pB
  rw [Nat.testBit_and, stN_b (csN_lt col a) y hy k hk, csN_b, csN_b]
  by_cases h1 : nbN k (opp y) < 36
  · by_cases h2 : col (nbN k (opp y)) = a
    · by_cases h3 : col k = b <;> simp [h1, h2, h3, hk]
    · simp [h1, h2]
  · simp [h1]
theorem nb0 : ∀ k, k < 36 → (nbN k 0 < 36 ↔ 6 ≤ k) ∧ (6 ≤ k → nbN k 0 = k - 6) := by decide +kernel
theorem nb1 : ∀ k, k < 36 → (nbN k 1 < 36 ↔ k % 6 < 5) ∧ (k % 6 < 5 → nbN k 1 = k + 1) := by decide +kernel
theorem nb2 : ∀ k, k < 36 → (nbN k 2 < 36 ↔ k < 30) ∧ (k < 30 → nbN k 2 = k + 6) := by decide +kernel
theorem nb3 : ∀ k, k < 36 → (nbN k 3 < 36 ↔ 0 < k % 6) ∧ (0 < k % 6 → nbN k 3 = k - 1) := by decide +kernel
theorem cnt_one (P : Nat → Bool) (h : P 0 = false) (n : Nat) : cnt P (n + 1) = cnt (fun j => P (j + 1)) n := by
  have := cnt_add P 1 n
  rw [Nat.add_comm 1 n] at this
  rw [this, show cnt P 1 = 0 from by show 0 + (if P 0 = true then 1 else 0) = 0; rw [h]; rfl, Nat.zero_add]
  exact cnt_congr (fun k _ => by rw [Nat.add_comm])
theorem cnt_false' {P : Nat → Bool} {n : Nat} (h : ∀ k, k < n → P k = false) : cnt P n = 0 := by
  rw [cnt_congr (Q := fun _ => false) h, cnt_false]
theorem way_eq (col : Nat → Nat) (a b : Nat) : ∀ y, y < 4 → cnt (pB col a b y) 36 = cnt (fun k => qB col a b k y) 36 := by
  intro y hy
  rw [cnt_congr (fun k hk => pB_eq col a b hy hk)]
  obtain h4 : y = 0 ∨ y = 1 ∨ y = 2 ∨ y = 3 := by omega
  rcases h4 with rfl | rfl | rfl | rfl
  · -- north: k lies below j
    have e1 : cnt (fun k => decide (nbN k (opp 0) < 36 ∧ col (nbN k (opp 0)) = a ∧ col k = b)) (30 + 6) = cnt (fun j => decide (col (j + 6) = a ∧ col j = b)) 30 := by
      rw [cnt_add, cnt_false' (n := 6) (fun k hk => decide_eq_false (fun x => by have := (nb2 (30 + k) (by omega)).1.mp x.1; omega)), Nat.add_zero]
      refine cnt_congr (fun j hj => decide_eq_decide.mpr ?_)
      rw [show opp 0 = 2 from rfl, (nb2 j (by omega)).2 hj]
      constructor
      · exact fun x => x.2
      · exact fun x => ⟨by omega, x⟩
    have e2 : cnt (fun k => qB col a b k 0) (6 + 30) = cnt (fun j => decide (col (j + 6) = a ∧ col j = b)) 30 := by
      rw [cnt_add, cnt_false' (P := fun k => qB col a b k 0) (n := 6) (fun k hk => decide_eq_false (fun x => by have := (nb0 k (by omega)).1.mp x.2.1; omega)), Nat.zero_add]
      refine cnt_congr (fun j hj => decide_eq_decide.mpr ?_)
      rw [(nb0 (6 + j) (by omega)).2 (by omega), show 6 + j - 6 = j by omega, show 6 + j = j + 6 by omega]
      constructor
      · exact fun x => ⟨x.1, x.2.2⟩
      · exact fun x => ⟨x.1, by omega, x.2⟩
    exact e1.trans e2.symm
  · have e1 : cnt (fun k => decide (nbN k (opp 1) < 36 ∧ col (nbN k (opp 1)) = a ∧ col k = b)) (35 + 1) = cnt (fun j => decide (j % 6 < 5 ∧ col j = a ∧ col (j + 1) = b)) 35 := by
      rw [cnt_one _ (decide_eq_false (fun x => by have := (nb3 0 (by omega)).1.mp x.1; omega))]
      refine cnt_congr (fun j hj => decide_eq_decide.mpr ?_)
      rw [show opp 1 = 3 from rfl]
      constructor
      · intro x
        have h := (nb3 (j + 1) (by omega)).1.mp x.1
        have h2 := x.2
        rw [(nb3 (j + 1) (by omega)).2 h] at h2
        exact ⟨by omega, h2⟩
      · intro x
        have h : 0 < (j + 1) % 6 := by omega
        exact ⟨(nb3 (j + 1) (by omega)).1.mpr h, by rw [(nb3 (j + 1) (by omega)).2 h]; exact x.2⟩
    have e2 : cnt (fun k => qB col a b k 1) (35 + 1) = cnt (fun j => decide (j % 6 < 5 ∧ col j = a ∧ col (j + 1) = b)) 35 := by
      show cnt (fun k => qB col a b k 1) 35 + (if qB col a b 35 1 = true then 1 else 0) = _
      rw [show qB col a b 35 1 = false from decide_eq_false (fun x => by have := (nb1 35 (by omega)).1.mp x.2.1; omega)]
      refine cnt_congr (fun j hj => decide_eq_decide.mpr ?_)
      constructor
      · intro x
        have h := (nb1 j (by omega)).1.mp x.2.1
        have h2 := x.2.2
        rw [(nb1 j (by omega)).2 h] at h2
        exact ⟨h, x.1, h2⟩
      · intro x
        exact ⟨x.2.1, (nb1 j (by omega)).1.mpr x.1, by rw [(nb1 j (by omega)).2 x.1]; exact x.2.2⟩
    exact e1.trans e2.symm
  · have e1 : cnt (fun k => decide (nbN k (opp 2) < 36 ∧ col (nbN k (opp 2)) = a ∧ col k = b)) (6 + 30) = cnt (fun j => decide (col j = a ∧ col (j + 6) = b)) 30 := by
      rw [cnt_add, cnt_false' (n := 6) (fun k hk => decide_eq_false (fun x => by have := (nb0 k (by omega)).1.mp x.1; omega)), Nat.zero_add]
      refine cnt_congr (fun j hj => decide_eq_decide.mpr ?_)
      rw [show opp 2 = 0 from rfl, (nb0 (6 + j) (by omega)).2 (by omega), show 6 + j - 6 = j by omega, show 6 + j = j + 6 by omega]
      constructor
      · exact fun x => x.2
      · exact fun x => ⟨by omega, x⟩
    have e2 : cnt (fun k => qB col a b k 2) (30 + 6) = cnt (fun j => decide (col j = a ∧ col (j + 6) = b)) 30 := by
      rw [cnt_add, cnt_false' (P := fun k => qB col a b (30 + k) 2) (n := 6) (fun k hk => decide_eq_false (fun x => by have := (nb2 (30 + k) (by omega)).1.mp x.2.1; omega)), Nat.add_zero]
      refine cnt_congr (fun j hj => decide_eq_decide.mpr ?_)
      rw [(nb2 j (by omega)).2 hj]
      constructor
      · exact fun x => ⟨x.1, x.2.2⟩
      · exact fun x => ⟨x.1, by omega, x.2⟩
    exact e1.trans e2.symm
  · have e1 : cnt (fun k => decide (nbN k (opp 3) < 36 ∧ col (nbN k (opp 3)) = a ∧ col k = b)) (35 + 1) = cnt (fun j => decide (j % 6 < 5 ∧ col (j + 1) = a ∧ col j = b)) 35 := by
      show cnt (fun k => decide (nbN k (opp 3) < 36 ∧ col (nbN k (opp 3)) = a ∧ col k = b)) 35 + (if decide (nbN 35 (opp 3) < 36 ∧ col (nbN 35 (opp 3)) = a ∧ col 35 = b) = true then 1 else 0) = _
      rw [show decide (nbN 35 (opp 3) < 36 ∧ col (nbN 35 (opp 3)) = a ∧ col 35 = b) = false from decide_eq_false (fun x => by have := (nb1 35 (by omega)).1.mp x.1; omega)]
      refine cnt_congr (fun j hj => decide_eq_decide.mpr ?_)
      rw [show opp 3 = 1 from rfl]
      constructor
      · intro x
        have h := (nb1 j (by omega)).1.mp x.1
        have h2 := x.2
        rw [(nb1 j (by omega)).2 h] at h2
        exact ⟨h, h2⟩
      · intro x
        exact ⟨(nb1 j (by omega)).1.mpr x.1, by rw [(nb1 j (by omega)).2 x.1]; exact x.2⟩
    have e2 : cnt (fun k => qB col a b k 3) (35 + 1) = cnt (fun j => decide (j % 6 < 5 ∧ col (j + 1) = a ∧ col j = b)) 35 := by
      rw [cnt_one _ (decide_eq_false (fun x => by have := (nb3 0 (by omega)).1.mp x.2.1; omega))]
      refine cnt_congr (fun j hj => decide_eq_decide.mpr ?_)
      constructor
      · intro x
        have h := (nb3 (j + 1) (by omega)).1.mp x.2.1
        have h2 := x.2.2
        rw [(nb3 (j + 1) (by omega)).2 h] at h2
        exact ⟨by omega, x.1, h2⟩
      · intro x
        have h : 0 < (j + 1) % 6 := by omega
        exact ⟨x.2.1, (nb3 (j + 1) (by omega)).1.mpr h, by rw [(nb3 (j + 1) (by omega)).2 h]; exact x.2.2⟩
    exact e1.trans e2.symm
theorem cnt4 (P : Nat → Bool) : cnt P 4 = (if P 0 = true then 1 else 0) + (if P 1 = true then 1 else 0) + (if P 2 = true then 1 else 0) + (if P 3 = true then 1 else 0) := by
  show 0 + _ + _ + _ + _ = _
  rw [Nat.zero_add]
theorem swap4 (Q : Nat → Nat → Bool) : ∀ n, sumN (fun k => cnt (Q k) 4) n = cnt (fun k => Q k 0) n + cnt (fun k => Q k 1) n + cnt (fun k => Q k 2) n + cnt (fun k => Q k 3) n := by
  intro n
  induction n with
  | zero => rfl
  | succ n ih =>
    show sumN (fun k => cnt (Q k) 4) n + cnt (Q n) 4 = _
    rw [ih, cnt4, cnt_s, cnt_s, cnt_s, cnt_s]
    omega
theorem cpN_sum (col : Nat → Nat) (a b : Nat) : cpN col a b = sumN (fun k => cnt (qB col a b k) 4) 36 := by
  rw [swap4 (qB col a b)]
  have l : ∀ y, stN (csN col a) y &&& csN col b < 2 ^ 36 := fun y => Nat.lt_of_le_of_lt Nat.and_le_right (csN_lt col b)
  have e : ∀ y, y < 4 → pc (stN (csN col a) y &&& csN col b) = cnt (fun k => qB col a b k y) 36 := fun y hy => by
    rw [pc_36 (l y)]; exact way_eq col a b y hy
  show 0 + pc (stN (csN col a) 0 &&& csN col b) + pc (stN (csN col a) 1 &&& csN col b) + pc (stN (csN col a) 2 &&& csN col b) + pc (stN (csN col a) 3 &&& csN col b) = _
  rw [e 0 (by decide), e 1 (by decide), e 2 (by decide), e 3 (by decide), Nat.zero_add]
theorem m_frontIn {S : Co} {I : Nat → Int32} {A : Nat → Nat → Int32} (hD : DR (A 0) S) {a b : Nat} (ha : a < 8) (hb : b < 8) (w : AH) {k : Nat} (hk : k < 36) (n : Nat) (o6 : Option Value) : ∃ p6, Ex M_X12_frontier 60 50 [some (.ref 123), some (.int (nI a)), some (.int (nI b)), some (.int (nI n)), some (.int (nI k)), some (.int (nI 0)), o6] [] (mw w I A) = Ex M_X12_frontier 60 50 [some (.ref 123), some (.int (nI a)), some (.int (nI b)), some (.int (nI (n + cnt (qB S.col a b k) 4))), some (.int (nI k)), some (.int (nI 4)), p6] [] (mw w I A) := by
  obtain ⟨p6, h1, -⟩ := loopE (fun y (o : Option Value) => Ex M_X12_frontier 60 50 [some (.ref 123), some (.int (nI a)), some (.int (nI b)), some (.int (nI (n + cnt (qB S.col a b k) y))), some (.int (nI k)), some (.int (nI y)), o] [] (mw w I A)) (fun _ _ => True) 4 (by
    intro y o hy _
    have e1 : ((4 : Int32) ≤ nI y) = False := by rw [show (4 : Int32) = nI 4 from rfl, le_nI (by decide) (by omega)]; simp; omega
    have ck := hD.rc k hk
    refine ⟨some (.int (nbI k y)), ?_, trivial⟩
    rw [H_X12_frontier_50, cnt_s]
    by_cases q1 : S.col k = a
    · by_cases q2 : nbN k y < 36
      · have cn := hD.rc _ q2
        have z1 : ¬ nbN k y < 0 := by omega
        by_cases q3 : S.col (nbN k y) = b
        · rw [show qB S.col a b k y = true from decide_eq_true ⟨q1, q2, q3⟩, if_pos rfl]
          simp (disch := omega) only [R_X12_frontier_p0, R_X12_frontier_p1, SB, mw_o, mw_a, mo_g, mo_p, mo_pz, mw_so, mw_sa, upA_eq, upA_upA, upd_upd, lit_le, le_lit, lit_lt, lt_lit, eq_lit, le_nI, lt_nI, eq_nI, lit_add, add_lit, nI_add, lit_sub, sub_lit, sub_nI, lit_mul, mul_lit, pk_mul, div_lit, nI_c, aI_a, aI_l, uI_0, uI_l, aB_2, uB_2, bI_e0, bI_e1, bI_n0, bI_n1, bI_01, b_ft, i10, i01, bI_t, bI_f, if_true, if_false, dec_t, dec_f, Bool.true_eq_false, Bool.false_eq_true, or_true, true_or, not_true_eq_false, not_false_eq_true, e1, m_beside hk hy, nbI_y q2, ls1s, hD.col k hk, eq_true q1, z1, Nat.zero_le, hD.col _ q2, eq_true q3, Nat.add_assoc]
        · rw [show qB S.col a b k y = false from decide_eq_false (fun x => q3 x.2.2), if_neg (by decide)]
          simp (disch := omega) only [R_X12_frontier_p0, R_X12_frontier_p1, SB, mw_o, mw_a, mo_g, mo_p, mo_pz, mw_so, mw_sa, upA_eq, upA_upA, upd_upd, lit_le, le_lit, lit_lt, lt_lit, eq_lit, le_nI, lt_nI, eq_nI, lit_add, add_lit, nI_add, lit_sub, sub_lit, sub_nI, lit_mul, mul_lit, pk_mul, div_lit, nI_c, aI_a, aI_l, uI_0, uI_l, aB_2, uB_2, bI_e0, bI_e1, bI_n0, bI_n1, bI_01, b_ft, i10, i01, bI_t, bI_f, if_true, if_false, dec_t, dec_f, Bool.true_eq_false, Bool.false_eq_true, or_true, true_or, not_true_eq_false, not_false_eq_true, e1, m_beside hk hy, nbI_y q2, ls1s, hD.col k hk, eq_true q1, z1, Nat.zero_le, hD.col _ q2, eq_false q3, Nat.add_zero]
      · rw [show qB S.col a b k y = false from decide_eq_false (fun x => q2 x.2.1), if_neg (by decide)]
        have bb := m_beside hk hy (mw w I A) 60
        rw [nbI_n q2] at bb ⊢
        have ng : ((-1 : Int32) < 0) = True := by decide
        generalize (-1 : Int32) = mm at bb ng ⊢
        simp (disch := omega) only [R_X12_frontier_p0, R_X12_frontier_p1, SB, mw_o, mw_a, mo_g, mo_p, mo_pz, mw_so, mw_sa, upA_eq, upA_upA, upd_upd, lit_add, add_lit, nI_add, nI_1, aI_a, eq_nI, if_true, if_false, not_true_eq_false, e1, bb, ls1s, hD.col k hk, eq_true q1, ng, Nat.add_zero]
    · rw [show qB S.col a b k y = false from decide_eq_false (fun x => q1 x.1), if_neg (by decide)]
      simp (disch := omega) only [R_X12_frontier_p0, R_X12_frontier_p1, SB, mw_o, mw_a, mo_g, mo_p, mo_pz, mw_so, mw_sa, upA_eq, upA_upA, upd_upd, lit_le, le_lit, lit_lt, lt_lit, eq_lit, le_nI, lt_nI, eq_nI, lit_add, add_lit, nI_add, lit_sub, sub_lit, sub_nI, lit_mul, mul_lit, pk_mul, div_lit, nI_c, aI_a, aI_l, uI_0, uI_l, aB_2, uB_2, bI_e0, bI_e1, bI_n0, bI_n1, bI_01, b_ft, i10, i01, bI_t, bI_f, if_true, if_false, dec_t, dec_f, Bool.true_eq_false, Bool.false_eq_true, or_true, true_or, not_true_eq_false, not_false_eq_true, e1, m_beside hk hy, ls1s, hD.col k hk, eq_false q1, Nat.add_zero]) o6 trivial
  exact ⟨p6, h1⟩
theorem j_frontier (a b : Int32) : JO M_X11_frontier M_X12_frontier [.int a, .int b] := by
  apply JO.mk
  intro W X I A hC hM
  have hD := hM.now
  by_cases q1 : inR a 8 = true
  · obtain ⟨x, x1, x2, rfl⟩ := inR_of q1
    by_cases q2 : inR b 8 = true
    · obtain ⟨y, y1, y2, rfl⟩ := inR_of q2
      have exy : (nI x = nI y) = (x = y) := eq_nI (by omega) (by omega)
      by_cases q : x = y
      · refine JS.er hC hM (k := 1) (by decide) ?_ (fun w => ?_)
        · simp only [C_X11_frontier, R_X11_frontier, SB, hC.f0, hC.f1, hC.f2, hC.f3, hC.f4, hC.f5, hC.f6, hC.f7, hC.f8, hC.f9, clK_gf hC.f0, s_isKnot, s_isColour, s_isKindAndM, s_isUse, iw_1, iw_3, iw_6, iw_7, iw_99, iw_100, iw_255, s_rf1 hC, s_rf2 hC, s_rf3 hC, s_rf4 hC, s_rf5 hC, bI_e0, bI_n0, b_ft, bI_01, bI_t, bI_f, i10, i01, if_true, if_false, Bool.true_eq_false, Bool.false_eq_true, or_true, true_or, not_true_eq_false, not_false_eq_true, ls1s, q1, q2, exy, eq_true q]
        · simp only [C_X12_frontier, R_X12_frontier_p0, R_X12_frontier_p1, SB, mw_o, mw_a, mo_g, mo_p, mo_pz, mw_so, mw_sa, upA_eq, upA_upA, upd_upd, m_isKnot, m_isSheet, mi_1, mi_3, mi_5, mi_6, mi_7, mi_69, mi_99, mi_100, mi_255, m_f1, m_f2, m_f3, m_f4, m_f5, bI_e0, bI_n0, b_ft, bI_01, bI_t, bI_f, i10, i01, if_true, if_false, Bool.true_eq_false, Bool.false_eq_true, or_true, true_or, not_true_eq_false, not_false_eq_true, ls1s, q1, q2, exy, eq_true q]
      · have cp := s_countPairs hC.car x1 y1 60
        have g0 := hC.g0
        have k34 := hC.k34
        refine JS.ro hC hM (r := nI (cpN X.1.col x y)) ?_ (fun w => ⟨I, A, ?_, hM⟩)
        · simp only [C_X11_frontier, R_X11_frontier, SB, hC.f0, hC.f1, hC.f2, hC.f3, hC.f4, hC.f5, hC.f6, hC.f7, hC.f8, hC.f9, clK_gf hC.f0, s_isKnot, s_isColour, s_isKindAndM, s_isUse, iw_1, iw_3, iw_6, iw_7, iw_99, iw_100, iw_255, s_rf1 hC, s_rf2 hC, s_rf3 hC, s_rf4 hC, s_rf5 hC, bI_e0, bI_n0, b_ft, bI_01, bI_t, bI_f, i10, i01, if_true, if_false, Bool.true_eq_false, Bool.false_eq_true, or_true, true_or, not_true_eq_false, not_false_eq_true, ls1s, q1, q2, exy, eq_false q, g0, k34, cp]
        · rw [cpN_sum]
          obtain ⟨⟨o5, o6⟩, h1, -⟩ := loopE (fun k (o : Option Value × Option Value) => Ex M_X12_frontier 60 40 [some (.ref 123), some (.int (nI x)), some (.int (nI y)), some (.int (nI (sumN (fun k => cnt (qB X.1.col x y k) 4) k))), some (.int (nI k)), o.1, o.2] [] (mw w I A)) (fun _ _ => True) 36 (by
            intro k o hk _
            have e1 : ((36 : Int32) ≤ nI k) = False := by rw [show (36 : Int32) = nI 36 from rfl, le_nI (by decide) (by omega)]; simp; omega
            have e4 : ((4 : Int32) ≤ nI 4) = True := by rw [show (4 : Int32) = nI 4 from rfl]; simp
            obtain ⟨p6, g⟩ := m_frontIn (I := I) hD x1 y1 w hk (sumN (fun k => cnt (qB X.1.col x y k) 4) k) o.2
            refine ⟨(some (.int (nI 4)), p6), ?_, trivial⟩
            rw [H_X12_frontier_40]
            simp only [R_X12_frontier_p0, R_X12_frontier_p1, SB, e1, if_false, ls1s]
            refine (show _ = _ from rfl).trans (g.trans ?_)
            rw [H_X12_frontier_50]
            simp only [R_X12_frontier_p0, R_X12_frontier_p1, SB, e4, if_true, ls1s, nI_1]
            rfl) (none, none) trivial
          simp only [C_X12_frontier, R_X12_frontier_p0, R_X12_frontier_p1, SB, mw_o, mw_a, mo_g, mo_p, mo_pz, mw_so, mw_sa, upA_eq, upA_upA, upd_upd, m_isKnot, m_isSheet, mi_1, mi_3, mi_5, mi_6, mi_7, mi_69, mi_99, mi_100, mi_255, m_f1, m_f2, m_f3, m_f4, m_f5, bI_e0, bI_n0, b_ft, bI_01, bI_t, bI_f, i10, i01, if_true, if_false, Bool.true_eq_false, Bool.false_eq_true, or_true, true_or, not_true_eq_false, not_false_eq_true, ls1s, q1, q2, exy, eq_false q]
          refine (show _ = _ from rfl).trans (h1.trans ?_)
          rw [H_X12_frontier_40]
          simp only [R_X12_frontier_p0, R_X12_frontier_p1, SB, show ((36 : Int32) ≤ nI 36) = True from by rw [show (36 : Int32) = nI 36 from rfl]; simp, if_true]
    · refine JS.er hC hM (k := 1) (by decide) ?_ (fun w => ?_)
      · simp only [C_X11_frontier, R_X11_frontier, SB, hC.f0, hC.f1, hC.f2, hC.f3, hC.f4, hC.f5, hC.f6, hC.f7, hC.f8, hC.f9, clK_gf hC.f0, s_isKnot, s_isColour, s_isKindAndM, s_isUse, iw_1, iw_3, iw_6, iw_7, iw_99, iw_100, iw_255, s_rf1 hC, s_rf2 hC, s_rf3 hC, s_rf4 hC, s_rf5 hC, bI_e0, bI_n0, b_ft, bI_01, bI_t, bI_f, i10, i01, if_true, if_false, Bool.true_eq_false, Bool.false_eq_true, or_true, true_or, not_true_eq_false, not_false_eq_true, ls1s, q1, inR_f q2]
      · simp only [C_X12_frontier, R_X12_frontier_p0, R_X12_frontier_p1, SB, mw_o, mw_a, mo_g, mo_p, mo_pz, mw_so, mw_sa, upA_eq, upA_upA, upd_upd, m_isKnot, m_isSheet, mi_1, mi_3, mi_5, mi_6, mi_7, mi_69, mi_99, mi_100, mi_255, m_f1, m_f2, m_f3, m_f4, m_f5, bI_e0, bI_n0, b_ft, bI_01, bI_t, bI_f, i10, i01, if_true, if_false, Bool.true_eq_false, Bool.false_eq_true, or_true, true_or, not_true_eq_false, not_false_eq_true, ls1s, q1, inR_f q2]
  · refine JS.er hC hM (k := 1) (by decide) ?_ (fun w => ?_)
    · simp only [C_X11_frontier, R_X11_frontier, SB, hC.f0, hC.f1, hC.f2, hC.f3, hC.f4, hC.f5, hC.f6, hC.f7, hC.f8, hC.f9, clK_gf hC.f0, s_isKnot, s_isColour, s_isKindAndM, s_isUse, iw_1, iw_3, iw_6, iw_7, iw_99, iw_100, iw_255, s_rf1 hC, s_rf2 hC, s_rf3 hC, s_rf4 hC, s_rf5 hC, bI_e0, bI_n0, b_ft, bI_01, bI_t, bI_f, i10, i01, if_true, if_false, Bool.true_eq_false, Bool.false_eq_true, or_true, true_or, not_true_eq_false, not_false_eq_true, ls1s, inR_f q1]
    · simp only [C_X12_frontier, R_X12_frontier_p0, R_X12_frontier_p1, SB, mw_o, mw_a, mo_g, mo_p, mo_pz, mw_so, mw_sa, upA_eq, upA_upA, upd_upd, m_isKnot, m_isSheet, mi_1, mi_3, mi_5, mi_6, mi_7, mi_69, mi_99, mi_100, mi_255, m_f1, m_f2, m_f3, m_f4, m_f5, bI_e0, bI_n0, b_ft, bI_01, bI_t, bI_f, i10, i01, if_true, if_false, Bool.true_eq_false, Bool.false_eq_true, or_true, true_or, not_true_eq_false, not_false_eq_true, ls1s, inR_f q1]
