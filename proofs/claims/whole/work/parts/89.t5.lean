/-! ===== pairs: again, stays, count ===== -/
/-- what the model asks of each knot -/
def maB (col : Nat → Nat) (u p k : Nat) : Bool := if (if u = 0 then k % 6 else k / 6) + p < 6 then meB (col k) (col (k + (if u = 0 then p else 6 * p))) else true
theorem maB_0 (col : Nat → Nat) (p k : Nat) : maB col 0 p k = (if k % 6 + p < 6 then meB (col k) (col (k + p)) else true) := rfl
theorem maB_1 (col : Nat → Nat) (p k : Nat) : maB col 1 p k = (if k / 6 + p < 6 then meB (col k) (col (k + 6 * p)) else true) := rfl
theorem cg_ma (col : Nat → Nat) {u p : Nat} (hu : u < 2) (hp : 1 ≤ p ∧ p < 6) : allB (maB col u p) 36 = cgB col (if u = 0 then 1 else 6) (if u = 0 then 6 else 1) p := by
  apply Bool.eq_iff_iff.mpr
  unfold cgB
  rw [allB_iff, allB_iff]
  obtain h2 : u = 0 ∨ u = 1 := by omega
  rcases h2 with rfl | rfl
  · constructor
    · intro h i hi
      unfold cgR
      rw [allB_iff]
      intro j hj
      have := h (i * 6 + j) (by omega)
      unfold maB at this
      rw [if_pos rfl, if_pos rfl, if_pos (by omega)] at this
      rw [if_pos rfl, if_pos rfl, Nat.mul_one, Nat.mul_one]
      exact this
    · intro h k hk
      unfold maB
      rw [if_pos rfl, if_pos rfl]
      by_cases q : k % 6 + p < 6
      · rw [if_pos q]
        have := h (k / 6) (by omega)
        unfold cgR at this
        rw [allB_iff] at this
        have := this (k % 6) (by omega)
        rw [if_pos rfl, if_pos rfl, Nat.mul_one, Nat.mul_one, show k / 6 * 6 + k % 6 = k by omega] at this
        exact this
      · rw [if_neg q]
  · constructor
    · intro h i hi
      unfold cgR
      rw [allB_iff]
      intro j hj
      have := h (i * 1 + j * 6) (by omega)
      rw [maB_1, if_pos (by omega)] at this
      show meB (col (i * 1 + j * 6)) (col (i * 1 + j * 6 + p * 6)) = true
      rw [Nat.mul_comm p 6]
      exact this
    · intro h k hk
      rw [maB_1]
      by_cases q : k / 6 + p < 6
      · rw [if_pos q]
        have := h (k % 6) (by omega)
        unfold cgR at this
        rw [allB_iff] at this
        have : meB (col (k % 6 * 1 + k / 6 * 6)) (col (k % 6 * 1 + k / 6 * 6 + p * 6)) = true := this (k / 6) (by omega)
        rw [show k % 6 * 1 + k / 6 * 6 = k by omega, Nat.mul_comm p 6] at this
        exact this
      · rw [if_neg q]
theorem ma_6 (col : Nat → Nat) (u : Nat) : allB (maB col u 6) 36 = true := by
  rw [allB_iff]
  intro k _
  unfold maB
  rw [if_neg (by omega)]
theorem m_comesBy {S : Co} {I : Nat → Int32} {A : Nat → Nat → Int32} (hD : DR (A 0) S) {u p : Nat} (hu : u < 2) (hp : 1 ≤ p ∧ p ≤ 6) (w : AH) (lv : Nat) : Call M_X12_comesBy lv [.ref 123, .int (nI u), .int (nI p)] (mw w I A) = some (some (.int (bI (allB (maB S.col u p) 36))), mw w I A) := by
  have e36 : ((36 : Int32) ≤ nI 36) = True := by rw [show (36 : Int32) = nI 36 from rfl]; simp
  obtain ⟨⟨o5, o6⟩, h1, -⟩ := loopE (fun k (o : Option Value × Option Value) => Ex M_X12_comesBy lv 5 [some (.ref 123), some (.int (nI u)), some (.int (nI p)), some (.int (bI (allB (maB S.col u p) k))), some (.int (nI k)), o.1, o.2] [] (mw w I A)) (fun _ _ => True) 36 (by
    intro k o hk _
    have e1 : ((36 : Int32) ≤ nI k) = False := by rw [show (36 : Int32) = nI 36 from rfl, le_nI (by decide) (by omega)]; simp; omega
    have d6 : nI k / 6 = nI (k / 6) := pk_div (show k < 2 ^ 31 by omega) (show 0 < 6 by decide) (show 6 < 2 ^ 31 by decide)
    have r6 : nI k - nI k / 6 * 6 = nI (k % 6) := pk_rem (show k < 2 ^ 31 by omega) (show 0 < 6 by decide) (show 6 < 2 ^ 31 by decide)
    have r6b : nI k - nI (k / 6) * 6 = nI (k % 6) := pk_rem2 (show k < 2 ^ 31 by omega) (show 0 < 6 by decide) (show 6 < 2 ^ 31 by decide)
    have m6 : k - k / 6 * 6 = k % 6 := by omega
    have ck := hD.rc k hk
    refine ⟨(some (.int (nI (if u = 0 then k % 6 else k / 6))), some (.int (nI (if u = 0 then p else 6 * p)))), ?_, trivial⟩
    rw [H_X12_comesBy_5]
    show _ = Ex M_X12_comesBy lv 5 [_, _, _, some (.int (bI (allB (maB S.col u p) k && maB S.col u p k))), _, _, _] [] _
    obtain h2 : u = 0 ∨ u = 1 := by omega
    rcases h2 with rfl | rfl
    · rw [if_pos rfl, if_pos rfl]
      by_cases q : k % 6 + p < 6
      · have e2 : k + p < 36 := by omega
        have cn := hD.rc _ e2
        rw [show maB S.col 0 p k = meB (S.col k) (S.col (k + p)) from by rw [maB_0, if_pos q]]
        have q3 : ¬ 6 ≤ k % 6 + p := by omega
        cases z : allB (maB S.col 0 p) k with
        | false => simp (disch := omega) only [R_X12_comesBy_p0, R_X12_comesBy_p1, SB, mw_o, mw_a, mo_g, mo_p, mo_pz, mw_so, mw_sa, upA_eq, upA_upA, upd_upd, m_isKnot, m_isSheet, mi_1, mi_3, mi_5, mi_6, mi_7, mi_69, mi_99, mi_100, mi_255, m_f1, m_f2, m_f3, m_f4, m_f5, bI_e0, bI_n0, b_ft, bI_01, bI_t, bI_f, i10, i01, if_true, if_false, Bool.true_eq_false, Bool.false_eq_true, or_true, true_or, not_true_eq_false, not_false_eq_true, ls1s, e1, show (nI 0 = (0 : Int32)) = True from by decide, show ((6 : Int32) = 0) = False from by decide, d6, r6, r6b, m6, nI_1, Bool.false_and]
        | true =>
          simp (disch := omega) only [R_X12_comesBy_p0, R_X12_comesBy_p1, SB, mw_o, mw_a, mo_g, mo_p, mo_pz, mw_so, mw_sa, upA_eq, upA_upA, upd_upd, m_isKnot, m_isSheet, mi_1, mi_3, mi_5, mi_6, mi_7, mi_69, mi_99, mi_100, mi_255, m_f1, m_f2, m_f3, m_f4, m_f5, bI_e0, bI_n0, b_ft, bI_01, bI_t, bI_f, i10, i01, if_true, if_false, Bool.true_eq_false, Bool.false_eq_true, or_true, true_or, not_true_eq_false, not_false_eq_true, ls1s, lit_le, le_lit, lit_lt, lt_lit, eq_lit, le_nI, lt_nI, eq_nI, lit_add, add_lit, nI_add, lit_sub, sub_lit, sub_nI, lit_mul, mul_lit, pk_mul, div_lit, nI_c, aI_a, aI_l, uI_0, uI_l, aB_2, uB_2, bI_e0, bI_e1, bI_n0, bI_n1, bI_01, b_ft, i10, i01, bI_t, bI_f, if_true, if_false, dec_t, dec_f, Bool.true_eq_false, Bool.false_eq_true, or_true, true_or, not_true_eq_false, not_false_eq_true, e1, show (nI 0 = (0 : Int32)) = True from by decide, show ((6 : Int32) = 0) = False from by decide, d6, r6, r6b, m6, nI_1, Bool.true_and, hD.col k hk, hD.col _ e2, m_agree ck cn, q, q3]
          cases meB (S.col k) (S.col (k + p)) <;> simp only [Bool.false_eq_true, if_false, if_true, bI_t, bI_f, Bool.true_eq_false]
      · rw [show maB S.col 0 p k = true from by rw [maB_0, if_neg q], Bool.and_true]
        have q3 : 6 ≤ k % 6 + p := by omega
        cases z : allB (maB S.col 0 p) k <;> simp (disch := omega) only [R_X12_comesBy_p0, R_X12_comesBy_p1, SB, mw_o, mw_a, mo_g, mo_p, mo_pz, mw_so, mw_sa, upA_eq, upA_upA, upd_upd, m_isKnot, m_isSheet, mi_1, mi_3, mi_5, mi_6, mi_7, mi_69, mi_99, mi_100, mi_255, m_f1, m_f2, m_f3, m_f4, m_f5, bI_e0, bI_n0, b_ft, bI_01, bI_t, bI_f, i10, i01, if_true, if_false, Bool.true_eq_false, Bool.false_eq_true, or_true, true_or, not_true_eq_false, not_false_eq_true, ls1s, lit_le, le_lit, lit_lt, lt_lit, eq_lit, le_nI, lt_nI, eq_nI, lit_add, add_lit, nI_add, lit_sub, sub_lit, sub_nI, lit_mul, mul_lit, pk_mul, div_lit, nI_c, aI_a, aI_l, uI_0, uI_l, aB_2, uB_2, bI_e0, bI_e1, bI_n0, bI_n1, bI_01, b_ft, i10, i01, bI_t, bI_f, if_true, if_false, dec_t, dec_f, Bool.true_eq_false, Bool.false_eq_true, or_true, true_or, not_true_eq_false, not_false_eq_true, e1, show (nI 0 = (0 : Int32)) = True from by decide, show ((6 : Int32) = 0) = False from by decide, d6, r6, r6b, m6, nI_1, q3]
    · show _ = Ex _ _ _ [_, _, _, _, _, some (.int (nI (k / 6))), some (.int (nI (6 * p)))] _ _
      by_cases q : k / 6 + p < 6
      · have e2 : k + 6 * p < 36 := by omega
        have cn := hD.rc _ e2
        rw [show maB S.col 1 p k = meB (S.col k) (S.col (k + 6 * p)) from by rw [maB_1, if_pos q]]
        have q3 : ¬ 6 ≤ k / 6 + p := by omega
        cases z : allB (maB S.col 1 p) k with
        | false => simp (disch := omega) only [R_X12_comesBy_p0, R_X12_comesBy_p1, SB, mw_o, mw_a, mo_g, mo_p, mo_pz, mw_so, mw_sa, upA_eq, upA_upA, upd_upd, m_isKnot, m_isSheet, mi_1, mi_3, mi_5, mi_6, mi_7, mi_69, mi_99, mi_100, mi_255, m_f1, m_f2, m_f3, m_f4, m_f5, bI_e0, bI_n0, b_ft, bI_01, bI_t, bI_f, i10, i01, if_true, if_false, Bool.true_eq_false, Bool.false_eq_true, or_true, true_or, not_true_eq_false, not_false_eq_true, ls1s, e1, show (nI 1 = (0 : Int32)) = False from by decide, show ((6 : Int32) = 0) = False from by decide, d6, r6, r6b, m6, nI_1, Bool.false_and, lit_mul]
        | true =>
          simp (disch := omega) only [R_X12_comesBy_p0, R_X12_comesBy_p1, SB, mw_o, mw_a, mo_g, mo_p, mo_pz, mw_so, mw_sa, upA_eq, upA_upA, upd_upd, m_isKnot, m_isSheet, mi_1, mi_3, mi_5, mi_6, mi_7, mi_69, mi_99, mi_100, mi_255, m_f1, m_f2, m_f3, m_f4, m_f5, bI_e0, bI_n0, b_ft, bI_01, bI_t, bI_f, i10, i01, if_true, if_false, Bool.true_eq_false, Bool.false_eq_true, or_true, true_or, not_true_eq_false, not_false_eq_true, ls1s, lit_le, le_lit, lit_lt, lt_lit, eq_lit, le_nI, lt_nI, eq_nI, lit_add, add_lit, nI_add, lit_sub, sub_lit, sub_nI, lit_mul, mul_lit, pk_mul, div_lit, nI_c, aI_a, aI_l, uI_0, uI_l, aB_2, uB_2, bI_e0, bI_e1, bI_n0, bI_n1, bI_01, b_ft, i10, i01, bI_t, bI_f, if_true, if_false, dec_t, dec_f, Bool.true_eq_false, Bool.false_eq_true, or_true, true_or, not_true_eq_false, not_false_eq_true, e1, show (nI 1 = (0 : Int32)) = False from by decide, show ((6 : Int32) = 0) = False from by decide, d6, r6, r6b, m6, nI_1, Bool.true_and, hD.col k hk, hD.col _ e2, m_agree ck cn, q, q3]
          cases meB (S.col k) (S.col (k + 6 * p)) <;> simp only [Bool.false_eq_true, if_false, if_true, bI_t, bI_f, Bool.true_eq_false]
      · rw [show maB S.col 1 p k = true from by rw [maB_1, if_neg q], Bool.and_true]
        have q3 : 6 ≤ k / 6 + p := by omega
        cases z : allB (maB S.col 1 p) k <;> simp (disch := omega) only [R_X12_comesBy_p0, R_X12_comesBy_p1, SB, mw_o, mw_a, mo_g, mo_p, mo_pz, mw_so, mw_sa, upA_eq, upA_upA, upd_upd, m_isKnot, m_isSheet, mi_1, mi_3, mi_5, mi_6, mi_7, mi_69, mi_99, mi_100, mi_255, m_f1, m_f2, m_f3, m_f4, m_f5, bI_e0, bI_n0, b_ft, bI_01, bI_t, bI_f, i10, i01, if_true, if_false, Bool.true_eq_false, Bool.false_eq_true, or_true, true_or, not_true_eq_false, not_false_eq_true, ls1s, lit_le, le_lit, lit_lt, lt_lit, eq_lit, le_nI, lt_nI, eq_nI, lit_add, add_lit, nI_add, lit_sub, sub_lit, sub_nI, lit_mul, mul_lit, pk_mul, div_lit, nI_c, aI_a, aI_l, uI_0, uI_l, aB_2, uB_2, bI_e0, bI_e1, bI_n0, bI_n1, bI_01, b_ft, i10, i01, bI_t, bI_f, if_true, if_false, dec_t, dec_f, Bool.true_eq_false, Bool.false_eq_true, or_true, true_or, not_true_eq_false, not_false_eq_true, e1, show (nI 1 = (0 : Int32)) = False from by decide, show ((6 : Int32) = 0) = False from by decide, d6, r6, r6b, m6, nI_1, q3]) (none, none) trivial
  simp only [C_X12_comesBy, R_X12_comesBy_p0, R_X12_comesBy_p1, SB, ls1s]
  refine (show _ = _ from rfl).trans (h1.trans ?_)
  rw [H_X12_comesBy_5]
  simp only [R_X12_comesBy_p0, R_X12_comesBy_p1, SB, e36, if_true, bI_01]
theorem j_again (a : Int32) : JO M_X11_again M_X12_again [.int a] := by
  apply JO.mk
  intro W X I A hC hM
  have hD := hM.now
  by_cases q1 : inR a 2 = true
  · obtain ⟨u, u1, u2, rfl⟩ := inR_of q1
    have g0 := hC.g0
    have k34 := hC.k34
    have cb : ∀ p, 1 ≤ p → p < 6 → ∀ w, Call M_X12_comesBy 60 [.ref 123, .int (nI u), .int (nI p)] (mw w I A) = some (some (.int (bI (cgB X.1.col (if u = 0 then 1 else 6) (if u = 0 then 6 else 1) p))), mw w I A) := fun p h1 h2 w => by
      rw [← cg_ma X.1.col u1 ⟨h1, h2⟩]
      exact m_comesBy hD u1 ⟨h1, by omega⟩ w 60
    have c6 : ∀ w, Call M_X12_comesBy 60 [.ref 123, .int (nI u), .int (nI 6)] (mw w I A) = some (some (.int 1), mw w I A) := fun w => by
      rw [m_comesBy hD u1 ⟨by decide, by decide⟩ w 60, ma_6]; rfl
    have st : ∀ (w : AH) p, 1 ≤ p → p < 6 → Ex M_X12_again 60 18 [some (.ref 123), some (.int (nI u)), some (.int (nI p))] [] (mw w I A) = if cgB X.1.col (if u = 0 then 1 else 6) (if u = 0 then 6 else 1) p = true then some (some (.int (nI p)), mw w I A) else Ex M_X12_again 60 18 [some (.ref 123), some (.int (nI u)), some (.int (nI (p + 1)))] [] (mw w I A) := by
      intro w p h1 h2
      have c := cb p h1 h2 w
      rw [H_X12_again_18.1]
      cases q : cgB X.1.col (if u = 0 then 1 else 6) (if u = 0 then 6 else 1) p with
      | true =>
        rw [q] at c
        simp only [R_X12_again, SB, mw_o, mw_a, mo_g, mo_p, mo_pz, mw_so, mw_sa, upA_eq, upA_upA, upd_upd, m_isKnot, m_isSheet, mi_1, mi_3, mi_5, mi_6, mi_7, mi_69, mi_99, mi_100, mi_255, m_f1, m_f2, m_f3, m_f4, m_f5, bI_e0, bI_n0, b_ft, bI_01, bI_t, bI_f, i10, i01, if_true, if_false, Bool.true_eq_false, Bool.false_eq_true, or_true, true_or, not_true_eq_false, not_false_eq_true, ls1s, c]
      | false =>
        rw [q] at c
        simp only [R_X12_again, SB, mw_o, mw_a, mo_g, mo_p, mo_pz, mw_so, mw_sa, upA_eq, upA_upA, upd_upd, m_isKnot, m_isSheet, mi_1, mi_3, mi_5, mi_6, mi_7, mi_69, mi_99, mi_100, mi_255, m_f1, m_f2, m_f3, m_f4, m_f5, bI_e0, bI_n0, b_ft, bI_01, bI_t, bI_f, i10, i01, if_true, if_false, Bool.true_eq_false, Bool.false_eq_true, or_true, true_or, not_true_eq_false, not_false_eq_true, ls1s, c, nI_1]
    have s6 : ∀ w, Ex M_X12_again 60 18 [some (.ref 123), some (.int (nI u)), some (.int (nI 6))] [] (mw w I A) = some (some (.int (nI 6)), mw w I A) := fun w => by
      rw [H_X12_again_18.1]
      simp only [R_X12_again, SB, mw_o, mw_a, mo_g, mo_p, mo_pz, mw_so, mw_sa, upA_eq, upA_upA, upd_upd, m_isKnot, m_isSheet, mi_1, mi_3, mi_5, mi_6, mi_7, mi_69, mi_99, mi_100, mi_255, m_f1, m_f2, m_f3, m_f4, m_f5, bI_e0, bI_n0, b_ft, bI_01, bI_t, bI_f, i10, i01, if_true, if_false, Bool.true_eq_false, Bool.false_eq_true, or_true, true_or, not_true_eq_false, not_false_eq_true, ls1s, c6]
    refine JS.ro hC hM (r := nI (lpN X.1.col (if u = 0 then 1 else 6) (if u = 0 then 6 else 1))) ?_ (fun w => ⟨I, A, ?_, hM⟩)
    · obtain h2 : u = 0 ∨ u = 1 := by omega
      rcases h2 with rfl | rfl
      · have lp : Call M_X0_leastPeriod 60 [.ref 34, .int 1] W = some (some (.int (nI (lpN X.1.col 1 6))), W) := s_leastPeriod hC.car (Or.inl ⟨rfl, rfl, rfl⟩) 60
        simp only [C_X11_again, R_X11_again, SB, hC.f0, hC.f1, hC.f2, hC.f3, hC.f4, hC.f5, hC.f6, hC.f7, hC.f8, hC.f9, clK_gf hC.f0, s_isKnot, s_isColour, s_isKindAndM, s_isUse, iw_1, iw_3, iw_6, iw_7, iw_99, iw_100, iw_255, s_rf1 hC, s_rf2 hC, s_rf3 hC, s_rf4 hC, s_rf5 hC, bI_e0, bI_n0, b_ft, bI_01, bI_t, bI_f, i10, i01, if_true, if_false, Bool.true_eq_false, Bool.false_eq_true, or_true, true_or, not_true_eq_false, not_false_eq_true, ls1s, q1, show (nI 0 = (0 : Int32)) = True from by decide, g0, k34, lp]
      · have lp : Call M_X0_leastPeriod 60 [.ref 34, .int 0] W = some (some (.int (nI (lpN X.1.col 6 1))), W) := s_leastPeriod hC.car (Or.inr ⟨rfl, rfl, rfl⟩) 60
        simp only [C_X11_again, R_X11_again, SB, hC.f0, hC.f1, hC.f2, hC.f3, hC.f4, hC.f5, hC.f6, hC.f7, hC.f8, hC.f9, clK_gf hC.f0, s_isKnot, s_isColour, s_isKindAndM, s_isUse, iw_1, iw_3, iw_6, iw_7, iw_99, iw_100, iw_255, s_rf1 hC, s_rf2 hC, s_rf3 hC, s_rf4 hC, s_rf5 hC, bI_e0, bI_n0, b_ft, bI_01, bI_t, bI_f, i10, i01, if_true, if_false, Bool.true_eq_false, Bool.false_eq_true, or_true, true_or, not_true_eq_false, not_false_eq_true, ls1s, q1, show (nI 1 = (0 : Int32)) = False from by decide, g0, k34, lp, show ((1 : Nat) = 0) = False from by decide]
    · simp only [C_X12_again, R_X12_again, SB, mw_o, mw_a, mo_g, mo_p, mo_pz, mw_so, mw_sa, upA_eq, upA_upA, upd_upd, m_isKnot, m_isSheet, mi_1, mi_3, mi_5, mi_6, mi_7, mi_69, mi_99, mi_100, mi_255, m_f1, m_f2, m_f3, m_f4, m_f5, bI_e0, bI_n0, b_ft, bI_01, bI_t, bI_f, i10, i01, if_true, if_false, Bool.true_eq_false, Bool.false_eq_true, or_true, true_or, not_true_eq_false, not_false_eq_true, ls1s, q1, show (1 : Int32) = nI 1 from rfl]
      first
        | (refine (show _ = _ from rfl).trans ((st w 1 (by decide) (by decide)).trans ?_)
           rw [st w 2 (by decide) (by decide), st w 3 (by decide) (by decide), st w 4 (by decide) (by decide), st w 5 (by decide) (by decide), s6]
           unfold lpN
           generalize (if u = 0 then 1 else 6) = al
           generalize (if u = 0 then 6 else 1) = ac
           repeat (first | rfl | split))
  · refine JS.er hC hM (k := 1) (by decide) ?_ (fun w => ?_)
    · simp only [C_X11_again, R_X11_again, SB, hC.f0, hC.f1, hC.f2, hC.f3, hC.f4, hC.f5, hC.f6, hC.f7, hC.f8, hC.f9, clK_gf hC.f0, s_isKnot, s_isColour, s_isKindAndM, s_isUse, iw_1, iw_3, iw_6, iw_7, iw_99, iw_100, iw_255, s_rf1 hC, s_rf2 hC, s_rf3 hC, s_rf4 hC, s_rf5 hC, bI_e0, bI_n0, b_ft, bI_01, bI_t, bI_f, i10, i01, if_true, if_false, Bool.true_eq_false, Bool.false_eq_true, or_true, true_or, not_true_eq_false, not_false_eq_true, ls1s, inR_f q1]
    · simp only [C_X12_again, R_X12_again, SB, mw_o, mw_a, mo_g, mo_p, mo_pz, mw_so, mw_sa, upA_eq, upA_upA, upd_upd, m_isKnot, m_isSheet, mi_1, mi_3, mi_5, mi_6, mi_7, mi_69, mi_99, mi_100, mi_255, m_f1, m_f2, m_f3, m_f4, m_f5, bI_e0, bI_n0, b_ft, bI_01, bI_t, bI_f, i10, i01, if_true, if_false, Bool.true_eq_false, Bool.false_eq_true, or_true, true_or, not_true_eq_false, not_false_eq_true, ls1s, inR_f q1]
theorem m_turned {k t : Nat} (hk : k < 36) (ht : t < 8) (w : AH) (lv : Nat) : Call M_X12_turned lv [.int (nI k), .int (nI t)] w = some (some (.int (nI (cmt k t))), w) := by
  have h4 : t % 4 < 4 := Nat.mod_lt _ (by decide)
  have hl : ∀ (r0 c0 : Nat), r0 ≤ 5 → c0 ≤ 5 → ∀ n i, i + n = t % 4 → ∀ (o : Option Value), (foldN rtF i (r0, c0)).1 ≤ 5 ∧ (foldN rtF i (r0, c0)).2 ≤ 5 → Ex M_X12_turned lv 27 [some (.int (nI k)), some (.int (nI t)), some (.int (nI (foldN rtF i (r0, c0)).1)), some (.int (nI (foldN rtF i (r0, c0)).2)), some (.int (nI i)), o] [] w = some (some (.int (nI ((foldN rtF (t % 4) (r0, c0)).1 * 6 + (foldN rtF (t % 4) (r0, c0)).2))), w) := by
    intro r0 c0 hr hc n
    induction n with
    | zero =>
      intro i hi o hb
      have : i = t % 4 := by omega
      subst this
      rw [H_X12_turned_27]
      simp only [R_X12_turned, show (4 : Int32) = nI 4 from rfl, show (6 : Int32) = nI 6 from rfl, show (0 : Int32) = nI 0 from rfl, eq_nI (show 4 < 2147483648 by decide) (show 0 < 2147483648 by decide), show (4 = 0) = False from by simp, if_false, pk_rem (show t < 2 ^ 31 by omega) (show 0 < 4 by decide) (show 4 < 2 ^ 31 by decide), Int32.le_refl, if_true, pk_mul, nI_add, Nat.mul_comm 6]
    | succ n ih =>
      intro i hi o hb
      have e1 : (nI (t % 4) ≤ nI i) = False := by rw [le_nI (by omega) (by omega)]; simp; omega
      rw [H_X12_turned_27]
      simp only [R_X12_turned, show (4 : Int32) = nI 4 from rfl, show (6 : Int32) = nI 6 from rfl, show (5 : Int32) = nI 5 from rfl, show (0 : Int32) = nI 0 from rfl, eq_nI (show 4 < 2147483648 by decide) (show 0 < 2147483648 by decide), show (4 = 0) = False from by simp, if_false, pk_rem (show t < 2 ^ 31 by omega) (show 0 < 4 by decide) (show 4 < 2 ^ 31 by decide), e1, ls1s, SB, nI_1, pk_sub hb.1]
      exact ih (i + 1) (by omega) _ ⟨hb.2, Nat.sub_le _ _⟩
  have h6 : k % 6 < 6 := Nat.mod_lt _ (by decide)
  have e4 : (nI t ≤ (3 : Int32)) = (t ≤ 3) := le_nI (by omega) (by decide)
  simp only [C_X12_turned, R_X12_turned, show (6 : Int32) = nI 6 from rfl, show (0 : Int32) = nI 0 from rfl, show (5 : Int32) = nI 5 from rfl, eq_nI (show 6 < 2147483648 by decide) (show 0 < 2147483648 by decide), show (6 = 0) = False from by simp, if_false, pk_div (show k < 2 ^ 31 by omega) (show 0 < 6 by decide) (show 6 < 2 ^ 31 by decide), pk_rem2 (show k < 2 ^ 31 by omega) (show 0 < 6 by decide) (show 6 < 2 ^ 31 by decide), ls1s, SB, e4, pk_sub (show k % 6 ≤ 5 by omega)]
  unfold cmt
  by_cases g : t < 4
  · rw [if_pos g, if_pos (by omega)]
    exact hl (k / 6) (k % 6) (by omega) (by omega) (t % 4) 0 (by omega) _ ⟨by show k / 6 ≤ 5; omega, by show k % 6 ≤ 5; omega⟩
  · rw [if_neg g, if_neg (by omega)]
    exact hl (k / 6) (5 - k % 6) (by omega) (by omega) (t % 4) 0 (by omega) _ ⟨by show k / 6 ≤ 5; omega, by show 5 - k % 6 ≤ 5; omega⟩
def syF (col : Nat → Nat) : Nat → Nat → Nat := fun t s => if stB col t = true then s ||| 2 ^ t else s
def syN (col : Nat → Nat) (n : Nat) : Nat := foldN (syF col) n 0
theorem syN_lt (col : Nat → Nat) : ∀ n, n ≤ 8 → syN col n < 2 ^ 8 := by
  intro n
  induction n with
  | zero => intro _; show 0 < 2 ^ 8; decide
  | succ n ih =>
    intro hn
    show syF col n (syN col n) < _
    unfold syF
    split
    · exact Nat.or_lt_two_pow (ih (by omega)) (Nat.pow_lt_pow_right (by decide) (by omega))
    · exact Nat.lt_of_lt_of_le (ih (by omega)) (Nat.le_refl _)
theorem syN_s (col : Nat → Nat) (n : Nat) : syN col (n + 1) = syF col n (syN col n) := foldN_s (syF col) n 0
theorem j_stays : JO M_X11_stays M_X12_stays [] := by
  apply JO.mk
  intro W X I A hC hM
  have hD := hM.now
  have g0 := hC.g0
  have k34 := hC.k34
  refine JS.ro hC hM (r := nI (syN X.1.col 8)) ?_ (fun w => ⟨I, A, ?_, hM⟩)
  · have hl := for_up0 (fun t (_ : Unit) => Ex M_X11_stays 60 4 [some (.ref 32), some (.int (nI (syN X.1.col t))), some (.int (nI t))] [] W) (fun _ s => s) 8 (by
      intro t _ ht
      have e1 : ((8 : Int32) ≤ nI t) = False := by rw [show (8 : Int32) = nI 8 from rfl, le_nI (by decide) (by omega)]; simp; omega
      have sb : Call M_X0_staysBy 60 [.ref 34, .int (nI t)] W = _ := s_staysBy hC.car ht 60
      have l := syN_lt X.1.col t (by omega)
      have l2 : 2 ^ t < 2 ^ 8 := Nat.pow_lt_pow_right (by decide) ht
      rw [H_X11_stays_4, syN_s]
      unfold syF
      cases q : stB X.1.col t with
      | true =>
        rw [q] at sb
        simp only [R_X11_stays, SB, hC.f0, hC.f1, hC.f2, hC.f3, hC.f4, hC.f5, hC.f6, hC.f7, hC.f8, hC.f9, clK_gf hC.f0, s_isKnot, s_isColour, s_isKindAndM, s_isUse, iw_1, iw_3, iw_6, iw_7, iw_99, iw_100, iw_255, s_rf1 hC, s_rf2 hC, s_rf3 hC, s_rf4 hC, s_rf5 hC, bI_e0, bI_n0, b_ft, bI_01, bI_t, bI_f, i10, i01, if_true, if_false, Bool.true_eq_false, Bool.false_eq_true, or_true, true_or, not_true_eq_false, not_false_eq_true, ls1s, e1, g0, k34, sb, one_shl t (by omega), nI_or (show syN X.1.col t < 2 ^ 32 by omega) (show 2 ^ t < 2 ^ 32 by omega), nI_1]
      | false =>
        rw [q] at sb
        simp only [R_X11_stays, SB, hC.f0, hC.f1, hC.f2, hC.f3, hC.f4, hC.f5, hC.f6, hC.f7, hC.f8, hC.f9, clK_gf hC.f0, s_isKnot, s_isColour, s_isKindAndM, s_isUse, iw_1, iw_3, iw_6, iw_7, iw_99, iw_100, iw_255, s_rf1 hC, s_rf2 hC, s_rf3 hC, s_rf4 hC, s_rf5 hC, bI_e0, bI_n0, b_ft, bI_01, bI_t, bI_f, i10, i01, if_true, if_false, Bool.true_eq_false, Bool.false_eq_true, or_true, true_or, not_true_eq_false, not_false_eq_true, ls1s, e1, g0, k34, sb, nI_1]) ()
    simp only [C_X11_stays, R_X11_stays, SB, hC.f0, hC.f1, hC.f2, hC.f3, hC.f4, hC.f5, hC.f6, hC.f7, hC.f8, hC.f9, clK_gf hC.f0, s_isKnot, s_isColour, s_isKindAndM, s_isUse, iw_1, iw_3, iw_6, iw_7, iw_99, iw_100, iw_255, s_rf1 hC, s_rf2 hC, s_rf3 hC, s_rf4 hC, s_rf5 hC, bI_e0, bI_n0, b_ft, bI_01, bI_t, bI_f, i10, i01, if_true, if_false, Bool.true_eq_false, Bool.false_eq_true, or_true, true_or, not_true_eq_false, not_false_eq_true, ls1s]
    refine (show _ = _ from rfl).trans (hl.trans ?_)
    rw [H_X11_stays_4]
    simp only [R_X11_stays, SB, show ((8 : Int32) ≤ nI 8) = True from by rw [show (8 : Int32) = nI 8 from rfl]; simp, if_true]
  · obtain ⟨⟨o3, o4⟩, hl, -⟩ := loopE (fun t (o : Option Value × Option Value) => Ex M_X12_stays 60 4 [some (.ref 123), some (.int (nI (syN X.1.col t))), some (.int (nI t)), o.1, o.2] [] (mw w I A)) (fun _ _ => True) 8 (by
      intro t o ht _
      have e1 : ((8 : Int32) ≤ nI t) = False := by rw [show (8 : Int32) = nI 8 from rfl, le_nI (by decide) (by omega)]; simp; omega
      have e36 : ((36 : Int32) ≤ nI 36) = True := by rw [show (36 : Int32) = nI 36 from rfl]; simp
      have l := syN_lt X.1.col t (by omega)
      have l2 : 2 ^ t < 2 ^ 8 := Nat.pow_lt_pow_right (by decide) ht
      have inn := for_up0 (fun k (_ : Unit) => Ex M_X12_stays 60 15 [some (.ref 123), some (.int (nI (syN X.1.col t))), some (.int (nI t)), some (.int (bI (allB (fun k => decide (X.1.col k = X.1.col (cmt k t))) k))), some (.int (nI k))] [] (mw w I A)) (fun _ s => s) 36 (by
        intro k _ hk
        have e1 : ((36 : Int32) ≤ nI k) = False := by rw [show (36 : Int32) = nI 36 from rfl, le_nI (by decide) (by omega)]; simp; omega
        have ck := hD.rc k hk
        have hc := cmt_lt k hk t ht
        have cn := hD.rc _ hc
        have eq2 : (nI (X.1.col (cmt k t)) = nI (X.1.col k)) = (X.1.col k = X.1.col (cmt k t)) := by rw [eq_nI (by omega) (by omega)]; exact propext eq_comm
        rw [H_X12_stays_15]
        show _ = Ex M_X12_stays 60 15 [_, _, _, some (.int (bI (allB (fun k => decide (X.1.col k = X.1.col (cmt k t))) k && decide (X.1.col k = X.1.col (cmt k t))))), _] [] _
        cases z : allB (fun k => decide (X.1.col k = X.1.col (cmt k t))) k with
        | false => simp (disch := omega) only [R_X12_stays, SB, mw_o, mw_a, mo_g, mo_p, mo_pz, mw_so, mw_sa, upA_eq, upA_upA, upd_upd, m_isKnot, m_isSheet, mi_1, mi_3, mi_5, mi_6, mi_7, mi_69, mi_99, mi_100, mi_255, m_f1, m_f2, m_f3, m_f4, m_f5, bI_e0, bI_n0, b_ft, bI_01, bI_t, bI_f, i10, i01, if_true, if_false, Bool.true_eq_false, Bool.false_eq_true, or_true, true_or, not_true_eq_false, not_false_eq_true, ls1s, e1, nI_1, Bool.false_and]
        | true =>
          by_cases q : X.1.col k = X.1.col (cmt k t)
          · simp (disch := omega) only [R_X12_stays, SB, mw_o, mw_a, mo_g, mo_p, mo_pz, mw_so, mw_sa, upA_eq, upA_upA, upd_upd, m_isKnot, m_isSheet, mi_1, mi_3, mi_5, mi_6, mi_7, mi_69, mi_99, mi_100, mi_255, m_f1, m_f2, m_f3, m_f4, m_f5, bI_e0, bI_n0, b_ft, bI_01, bI_t, bI_f, i10, i01, if_true, if_false, Bool.true_eq_false, Bool.false_eq_true, or_true, true_or, not_true_eq_false, not_false_eq_true, ls1s, e1, nI_1, Bool.true_and, m_turned hk ht, lit_add, aI_a, hD.col k hk, hD.col _ hc, eq2, eq_true q, decide_true]
          · simp (disch := omega) only [R_X12_stays, SB, mw_o, mw_a, mo_g, mo_p, mo_pz, mw_so, mw_sa, upA_eq, upA_upA, upd_upd, m_isKnot, m_isSheet, mi_1, mi_3, mi_5, mi_6, mi_7, mi_69, mi_99, mi_100, mi_255, m_f1, m_f2, m_f3, m_f4, m_f5, bI_e0, bI_n0, b_ft, bI_01, bI_t, bI_f, i10, i01, if_true, if_false, Bool.true_eq_false, Bool.false_eq_true, or_true, true_or, not_true_eq_false, not_false_eq_true, ls1s, e1, nI_1, Bool.true_and, m_turned hk ht, lit_add, aI_a, hD.col k hk, hD.col _ hc, eq2, eq_false q, decide_false]) ()
      refine ⟨(some (.int (bI (stB X.1.col t))), some (.int (nI 36))), ?_, trivial⟩
      rw [H_X12_stays_4, syN_s]
      simp only [R_X12_stays, SB, mw_o, mw_a, mo_g, mo_p, mo_pz, mw_so, mw_sa, upA_eq, upA_upA, upd_upd, m_isKnot, m_isSheet, mi_1, mi_3, mi_5, mi_6, mi_7, mi_69, mi_99, mi_100, mi_255, m_f1, m_f2, m_f3, m_f4, m_f5, bI_e0, bI_n0, b_ft, bI_01, bI_t, bI_f, i10, i01, if_true, if_false, Bool.true_eq_false, Bool.false_eq_true, or_true, true_or, not_true_eq_false, not_false_eq_true, ls1s, e1]
      refine (show _ = _ from rfl).trans (inn.trans ?_)
      rw [H_X12_stays_15]
      unfold syF
      show Ex _ _ _ [_, _, _, some (.int (bI (stB X.1.col t))), _] _ _ = _
      cases q : stB X.1.col t with
      | true => simp only [R_X12_stays, SB, mw_o, mw_a, mo_g, mo_p, mo_pz, mw_so, mw_sa, upA_eq, upA_upA, upd_upd, m_isKnot, m_isSheet, mi_1, mi_3, mi_5, mi_6, mi_7, mi_69, mi_99, mi_100, mi_255, m_f1, m_f2, m_f3, m_f4, m_f5, bI_e0, bI_n0, b_ft, bI_01, bI_t, bI_f, i10, i01, if_true, if_false, Bool.true_eq_false, Bool.false_eq_true, or_true, true_or, not_true_eq_false, not_false_eq_true, ls1s, e36, one_shl t (by omega), nI_or (show syN X.1.col t < 2 ^ 32 by omega) (show 2 ^ t < 2 ^ 32 by omega), nI_1]
      | false => simp only [R_X12_stays, SB, mw_o, mw_a, mo_g, mo_p, mo_pz, mw_so, mw_sa, upA_eq, upA_upA, upd_upd, m_isKnot, m_isSheet, mi_1, mi_3, mi_5, mi_6, mi_7, mi_69, mi_99, mi_100, mi_255, m_f1, m_f2, m_f3, m_f4, m_f5, bI_e0, bI_n0, b_ft, bI_01, bI_t, bI_f, i10, i01, if_true, if_false, Bool.true_eq_false, Bool.false_eq_true, or_true, true_or, not_true_eq_false, not_false_eq_true, ls1s, e36, show (0 : Int32) = nI 0 from rfl, nI_or (show syN X.1.col t < 2 ^ 32 by omega) (show 0 < 2 ^ 32 by omega), Nat.or_zero, nI_1]) (none, none) trivial
    simp only [C_X12_stays, R_X12_stays, SB, mw_o, mw_a, mo_g, mo_p, mo_pz, mw_so, mw_sa, upA_eq, upA_upA, upd_upd, m_isKnot, m_isSheet, mi_1, mi_3, mi_5, mi_6, mi_7, mi_69, mi_99, mi_100, mi_255, m_f1, m_f2, m_f3, m_f4, m_f5, bI_e0, bI_n0, b_ft, bI_01, bI_t, bI_f, i10, i01, if_true, if_false, Bool.true_eq_false, Bool.false_eq_true, or_true, true_or, not_true_eq_false, not_false_eq_true, ls1s]
    refine (show _ = _ from rfl).trans (hl.trans ?_)
    rw [H_X12_stays_4]
    simp only [R_X12_stays, SB, show ((8 : Int32) ≤ nI 8) = True from by rw [show (8 : Int32) = nI 8 from rfl]; simp, if_true]
