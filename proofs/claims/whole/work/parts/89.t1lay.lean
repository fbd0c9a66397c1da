/-! ===== pairs: move, fits, layings ===== -/
theorem m_agree {a b : Nat} (ha : a < 8) (hb : b < 8) (w : AH) (lv : Nat) : Call M_X12_agree lv [.int (nI a), .int (nI b)] w = some (some (.int (bI (meB a b))), w) := by
  unfold meB bI
  by_cases g1 : a = b
  · simp (disch := omega) only [C_X12_agree, R_X12_agree, SB, lit_le, le_lit, lit_lt, lt_lit, eq_lit, le_nI, lt_nI, eq_nI, lit_add, add_lit, nI_add, lit_sub, sub_lit, sub_nI, lit_mul, mul_lit, pk_mul, div_lit, nI_c, aI_a, aI_l, uI_0, uI_l, aB_2, uB_2, bI_e0, bI_e1, bI_n0, bI_n1, bI_01, b_ft, i10, i01, bI_t, bI_f, if_true, if_false, dec_t, dec_f, Bool.true_eq_false, Bool.false_eq_true, or_true, true_or, not_true_eq_false, not_false_eq_true, g1, true_or, decide_true]
  · by_cases g2 : a = 0
    · simp (disch := omega) only [C_X12_agree, R_X12_agree, SB, lit_le, le_lit, lit_lt, lt_lit, eq_lit, le_nI, lt_nI, eq_nI, lit_add, add_lit, nI_add, lit_sub, sub_lit, sub_nI, lit_mul, mul_lit, pk_mul, div_lit, nI_c, aI_a, aI_l, uI_0, uI_l, aB_2, uB_2, bI_e0, bI_e1, bI_n0, bI_n1, bI_01, b_ft, i10, i01, bI_t, bI_f, if_true, if_false, dec_t, dec_f, Bool.true_eq_false, Bool.false_eq_true, or_true, true_or, not_true_eq_false, not_false_eq_true, g1, g2, true_or, or_true, decide_true, show (0 = b) = False from eq_false (fun x => g1 (g2.trans x))]
    · by_cases g3 : b = 0
      · simp (disch := omega) only [C_X12_agree, R_X12_agree, SB, lit_le, le_lit, lit_lt, lt_lit, eq_lit, le_nI, lt_nI, eq_nI, lit_add, add_lit, nI_add, lit_sub, sub_lit, sub_nI, lit_mul, mul_lit, pk_mul, div_lit, nI_c, aI_a, aI_l, uI_0, uI_l, aB_2, uB_2, bI_e0, bI_e1, bI_n0, bI_n1, bI_01, b_ft, i10, i01, bI_t, bI_f, if_true, if_false, dec_t, dec_f, Bool.true_eq_false, Bool.false_eq_true, or_true, true_or, not_true_eq_false, not_false_eq_true, g2, g3, or_true, decide_true]
      · simp (disch := omega) only [C_X12_agree, R_X12_agree, SB, lit_le, le_lit, lit_lt, lt_lit, eq_lit, le_nI, lt_nI, eq_nI, lit_add, add_lit, nI_add, lit_sub, sub_lit, sub_nI, lit_mul, mul_lit, pk_mul, div_lit, nI_c, aI_a, aI_l, uI_0, uI_l, aB_2, uB_2, bI_e0, bI_e1, bI_n0, bI_n1, bI_01, b_ft, i10, i01, bI_t, bI_f, if_true, if_false, dec_t, dec_f, Bool.true_eq_false, Bool.false_eq_true, or_true, true_or, not_true_eq_false, not_false_eq_true, g1, g2, g3, or_self]
/-- sheet k as a carpet: numbers f -/
theorem isC_f {n b : Nat} {F : Nat → Int32} (h : isC n b F = true) : b ≠ 0 ∧ n = 36 ∧ ∃ f : Nat → Nat, ∀ k, k < 36 → F k = nI (f k) ∧ f k < 8 := by
  unfold isC at h
  rw [Bool.and_eq_true, Bool.and_eq_true] at h
  obtain ⟨⟨h1, h2⟩, h3⟩ := h
  refine ⟨of_decide_eq_true h1, of_decide_eq_true h2, fun k => (F k).toNatClampNeg, fun k hk => ?_⟩
  obtain ⟨v, v1, v2, v3⟩ := inR_of ((allB_iff _ 36).mp h3 k hk)
  show F k = nI (F k).toNatClampNeg ∧ (F k).toNatClampNeg < 8
  rw [v3, nI_c v2]
  exact ⟨rfl, v1⟩
theorem m_isCarpet {W : AH} {X : Cx} {I : Nat → Int32} {A : Nat → Nat → Int32} (hC : ClAt W X) (hM : Md I A X) {k : Nat} (hk : k < 4) (w : AH) (lv : Nat) : Call M_X12_isCarpet lv [.ref 123, .int (nI k)] (mw w I A) = some (some (.int (bI (isC (X.2.2.2.2.2 k).2.1 (X.2.2.2.2.2 k).1 (X.2.2.2.2.2 k).2.2))), mw w I A) := by
  have sh := hC.she k hk
  have rb := sh.rb
  have rn := sh.rn
  have e0 := bitsN0 rb
  have b0 := hM.shb k hk
  have n0 := hM.shn k hk
  have shv := hM.shv k hk
  have shr := hM.shr k hk
  generalize hbt : (X.2.2.2.2.2 k).1 = bt at *
  generalize hnn : (X.2.2.2.2.2 k).2.1 = nn at *
  generalize hFF : (X.2.2.2.2.2 k).2.2 = FF at *
  have e36 : ((36 : Int32) ≤ nI 36) = True := by rw [show (36 : Int32) = nI 36 from rfl]; simp
  have no : Ex M_X12_isCarpet lv 28 [some (.ref 123), some (.int (nI k)), some (.int 0), some (.int (nI 0))] [] (mw w I A) = some (some (.int 0), mw w I A) := by
    have hl := for_up0 (fun j (_ : Unit) => Ex M_X12_isCarpet lv 28 [some (.ref 123), some (.int (nI k)), some (.int 0), some (.int (nI j))] [] (mw w I A)) (fun _ s => s) 36 (by
      intro j _ hj
      have e1 : ((36 : Int32) ≤ nI j) = False := by rw [show (36 : Int32) = nI 36 from rfl, le_nI (by decide) (by omega)]; simp; omega
      rw [H_X12_isCarpet_28]
      simp only [R_X12_isCarpet, SB, e1, if_false, if_true, ls1s, nI_1]) ()
    refine hl.trans ?_
    rw [H_X12_isCarpet_28]
    simp only [R_X12_isCarpet, SB, e36, if_true, true_or]
  unfold isC
  by_cases qb : bt = 0
  · rw [decide_eq_false (show ¬ bt ≠ 0 from fun x => x qb), Bool.false_and, Bool.false_and]
    simp (disch := omega) only [C_X12_isCarpet, R_X12_isCarpet, SB, mw_o, mw_a, mo_g, mo_p, mo_pz, mw_so, mw_sa, upA_eq, upA_upA, upd_upd, m_isKnot, m_isSheet, mi_1, mi_3, mi_5, mi_6, mi_7, mi_69, mi_99, mi_100, mi_255, m_f1, m_f2, m_f3, m_f4, m_f5, bI_e0, bI_n0, b_ft, bI_01, bI_t, bI_f, i10, i01, if_true, if_false, Bool.true_eq_false, Bool.false_eq_true, or_true, true_or, not_true_eq_false, not_false_eq_true, ls1s, aI_a, b0, e0, eq_true qb]
    exact no
  · rw [decide_eq_true (show bt ≠ 0 from qb), Bool.true_and]
    have hb : bt = 8 ∨ bt = 16 ∨ bt = 32 := by omega
    by_cases qn : nn = 36
    · subst qn
      rw [decide_eq_true rfl, Bool.true_and]
      have hl := for_up0 (fun j (_ : Unit) => Ex M_X12_isCarpet lv 28 [some (.ref 123), some (.int (nI k)), some (.int (bI (allB (fun k => inR (FF k) 8) j))), some (.int (nI j))] [] (mw w I A)) (fun _ s => s) 36 (by
        intro j _ hj
        have e1 : ((36 : Int32) ≤ nI j) = False := by rw [show (36 : Int32) = nI 36 from rfl, le_nI (by decide) (by omega)]; simp; omega
        have v0 := shv j hj
        have si := sx_in hb (shr j hj)
        rw [H_X12_isCarpet_28]
        show _ = Ex M_X12_isCarpet lv 28 [_, _, some (.int (bI (allB (fun k => inR (FF k) 8) j && inR (FF j) 8))), _] [] _
        cases q : allB (fun k => inR (FF k) 8) j with
        | false =>
          simp only [R_X12_isCarpet, SB, e1, if_false, if_true, bI_f, ls1s, nI_1, Bool.false_and]
        | true =>
          cases q2 : inR (FF j) 8 with
          | true =>
            rw [q2] at si
            simp (disch := omega) only [R_X12_isCarpet, SB, mw_o, mw_a, mo_g, mo_p, mo_pz, mw_so, mw_sa, upA_eq, upA_upA, upd_upd, m_isKnot, m_isSheet, mi_1, mi_3, mi_5, mi_6, mi_7, mi_69, mi_99, mi_100, mi_255, m_f1, m_f2, m_f3, m_f4, m_f5, bI_e0, bI_n0, b_ft, bI_01, bI_t, bI_f, i10, i01, if_true, if_false, Bool.true_eq_false, Bool.false_eq_true, or_true, true_or, not_true_eq_false, not_false_eq_true, ls1s, e1, aI_a, lit_mul, nI_add, v0, si, nI_1, Bool.true_and]
          | false =>
            rw [q2] at si
            simp (disch := omega) only [R_X12_isCarpet, SB, mw_o, mw_a, mo_g, mo_p, mo_pz, mw_so, mw_sa, upA_eq, upA_upA, upd_upd, m_isKnot, m_isSheet, mi_1, mi_3, mi_5, mi_6, mi_7, mi_69, mi_99, mi_100, mi_255, m_f1, m_f2, m_f3, m_f4, m_f5, bI_e0, bI_n0, b_ft, bI_01, bI_t, bI_f, i10, i01, if_true, if_false, Bool.true_eq_false, Bool.false_eq_true, or_true, true_or, not_true_eq_false, not_false_eq_true, ls1s, e1, aI_a, lit_mul, nI_add, v0, si, nI_1, Bool.true_and]) ()
      simp (disch := omega) only [C_X12_isCarpet, R_X12_isCarpet, SB, mw_o, mw_a, mo_g, mo_p, mo_pz, mw_so, mw_sa, upA_eq, upA_upA, upd_upd, m_isKnot, m_isSheet, mi_1, mi_3, mi_5, mi_6, mi_7, mi_69, mi_99, mi_100, mi_255, m_f1, m_f2, m_f3, m_f4, m_f5, bI_e0, bI_n0, b_ft, bI_01, bI_t, bI_f, i10, i01, if_true, if_false, Bool.true_eq_false, Bool.false_eq_true, or_true, true_or, not_true_eq_false, not_false_eq_true, ls1s, aI_a, b0, e0, eq_false qb, n0, show (nI 36 = (36 : Int32)) = True from by decide]
      refine (show _ = _ from rfl).trans (hl.trans ?_)
      rw [H_X12_isCarpet_28]
      simp only [R_X12_isCarpet, SB, e36, if_true, bI_01]
    · rw [decide_eq_false qn, Bool.false_and]
      have e1 : (nI nn = (36 : Int32)) = False := by rw [show (36 : Int32) = nI 36 from rfl, eq_nI (by omega) (by decide)]; exact eq_false qn
      simp (disch := omega) only [C_X12_isCarpet, R_X12_isCarpet, SB, mw_o, mw_a, mo_g, mo_p, mo_pz, mw_so, mw_sa, upA_eq, upA_upA, upd_upd, m_isKnot, m_isSheet, mi_1, mi_3, mi_5, mi_6, mi_7, mi_69, mi_99, mi_100, mi_255, m_f1, m_f2, m_f3, m_f4, m_f5, bI_e0, bI_n0, b_ft, bI_01, bI_t, bI_f, i10, i01, if_true, if_false, Bool.true_eq_false, Bool.false_eq_true, or_true, true_or, not_true_eq_false, not_false_eq_true, ls1s, aI_a, b0, e0, eq_false qb, n0, e1]
      exact no
theorem mF_in {x : Nat} (hx : x < 100) : inR (mF x) 6 = decide (5 ≤ x ∧ x ≤ 10) := by
  unfold inR
  rw [mF_t (by omega)]
  apply decide_eq_decide.mpr
  omega
theorem m_isFit {S : Co} {I : Nat → Int32} {A : Nat → Nat → Int32} (hD : DR (A 0) S) {k : Nat} (hk : k < 4) {f : Nat → Nat} (hf : ∀ i, i < 36 → A 12 (40 * k + i) = nI (f i) ∧ f i < 8) {a b : Nat} (ha : a ≤ 10) (hb : b ≤ 10) (w : AH) (lv : Nat) : Call M_X12_isFit lv [.ref 123, .int (nI k), .int (mF a), .int (mF b)] (mw w I A) = some (some (.int (bI (ftB S.col f a b))), mw w I A) := by
  have e36 : ((36 : Int32) ≤ nI 36) = True := by rw [show (36 : Int32) = nI 36 from rfl]; simp
  obtain ⟨⟨o6, o7, o8⟩, h1, -⟩ := loopE (fun j (s : Option Value × Option Value × Option Value) => Ex M_X12_isFit lv 6 [some (.ref 123), some (.int (nI k)), some (.int (mF a)), some (.int (mF b)), some (.int (bI (allB (ftP S.col f a b) j))), some (.int (nI j)), s.1, s.2.1, s.2.2] [] (mw w I A)) (fun _ _ => True) 36 (by
    intro j s hj _
    obtain ⟨o6, o7, o8⟩ := s
    have e1 : ((36 : Int32) ≤ nI j) = False := by rw [show (36 : Int32) = nI 36 from rfl, le_nI (by decide) (by omega)]; simp; omega
    have d6 : nI j / 6 = nI (j / 6) := pk_div (show j < 2 ^ 31 by omega) (show 0 < 6 by decide) (show 6 < 2 ^ 31 by decide)
    have r6 : nI j - nI (j / 6) * 6 = nI (j % 6) := pk_rem2 (show j < 2 ^ 31 by omega) (show 0 < 6 by decide) (show 6 < 2 ^ 31 by decide)
    have i1 := mF_in (show j / 6 + a < 100 by omega)
    have i2 := mF_in (show j % 6 + b < 100 by omega)
    obtain ⟨f1, f2⟩ := hf j hj
    refine ⟨(some (.int (mF (j / 6 + a))), some (.int (mF (j % 6 + b))), some (.int (bI (decide (5 ≤ j / 6 + a ∧ j / 6 + a ≤ 10 ∧ 5 ≤ j % 6 + b ∧ j % 6 + b ≤ 10))))), ?_, trivial⟩
    rw [H_X12_isFit_6]
    show _ = Ex M_X12_isFit lv 6 [_, _, _, _, some (.int (bI (allB (ftP S.col f a b) j && ftP S.col f a b j))), _, _, _, _] [] _
    by_cases c1 : 5 ≤ j / 6 + a ∧ j / 6 + a ≤ 10
    · by_cases c2 : 5 ≤ j % 6 + b ∧ j % 6 + b ≤ 10
      · have c3 : (5 ≤ j / 6 + a ∧ j / 6 + a ≤ 10 ∧ 5 ≤ j % 6 + b ∧ j % 6 + b ≤ 10) := ⟨c1.1, c1.2, c2.1, c2.2⟩
        rw [decide_eq_true c1] at i1
        rw [decide_eq_true c2] at i2
        rw [decide_eq_true c3]
        have c4 : (j / 6 + a - 5) * 6 + (j % 6 + b - 5) < 36 := by omega
        have cl := hD.rc _ c4
        have d7 : 6 * mF (j / 6 + a) + mF (j % 6 + b) = nI ((j / 6 + a - 5) * 6 + (j % 6 + b - 5)) := by
          rw [mF_nI c1.1, mF_nI c2.1, show (6 : Int32) = nI 6 from rfl, pk_mul, nI_add, Nat.mul_comm]
        rw [show ftP S.col f a b j = meB (f j) (S.col ((j / 6 + a - 5) * 6 + (j % 6 + b - 5))) from if_pos c3]
        cases q : allB (ftP S.col f a b) j with
        | false => simp (disch := omega) only [R_X12_isFit_p0, R_X12_isFit_p1, SB, mw_o, mw_a, mo_g, mo_p, mo_pz, mw_so, mw_sa, upA_eq, upA_upA, upd_upd, m_isKnot, m_isSheet, mi_1, mi_3, mi_5, mi_6, mi_7, mi_69, mi_99, mi_100, mi_255, m_f1, m_f2, m_f3, m_f4, m_f5, bI_e0, bI_n0, b_ft, bI_01, bI_t, bI_f, i10, i01, if_true, if_false, Bool.true_eq_false, Bool.false_eq_true, or_true, true_or, not_true_eq_false, not_false_eq_true, ls1s, e1, show ((6 : Int32) = 0) = False from by decide, d6, r6, mF_add, i1, i2, nI_1, Bool.false_and]
        | true =>
          simp (disch := omega) only [R_X12_isFit_p0, R_X12_isFit_p1, SB, mw_o, mw_a, mo_g, mo_p, mo_pz, mw_so, mw_sa, upA_eq, upA_upA, upd_upd, m_isKnot, m_isSheet, mi_1, mi_3, mi_5, mi_6, mi_7, mi_69, mi_99, mi_100, mi_255, m_f1, m_f2, m_f3, m_f4, m_f5, bI_e0, bI_n0, b_ft, bI_01, bI_t, bI_f, i10, i01, if_true, if_false, Bool.true_eq_false, Bool.false_eq_true, or_true, true_or, not_true_eq_false, not_false_eq_true, ls1s, e1, show ((6 : Int32) = 0) = False from by decide, d6, r6, mF_add, i1, i2, nI_1, Bool.true_and, lit_mul, nI_add, aI_a, f1, d7, lit_add, hD.col _ c4, m_agree f2 cl]
          cases meB (f j) (S.col ((j / 6 + a - 5) * 6 + (j % 6 + b - 5))) <;> simp only [Bool.false_eq_true, if_false, if_true, bI_t, bI_f, Bool.true_eq_false]
      · have c3 : ¬ (5 ≤ j / 6 + a ∧ j / 6 + a ≤ 10 ∧ 5 ≤ j % 6 + b ∧ j % 6 + b ≤ 10) := fun x => c2 x.2.2
        rw [decide_eq_true c1] at i1
        rw [decide_eq_false c2] at i2
        rw [decide_eq_false c3, show ftP S.col f a b j = true from if_neg c3, Bool.and_true]
        cases q : allB (ftP S.col f a b) j <;> simp (disch := omega) only [R_X12_isFit_p0, R_X12_isFit_p1, SB, mw_o, mw_a, mo_g, mo_p, mo_pz, mw_so, mw_sa, upA_eq, upA_upA, upd_upd, m_isKnot, m_isSheet, mi_1, mi_3, mi_5, mi_6, mi_7, mi_69, mi_99, mi_100, mi_255, m_f1, m_f2, m_f3, m_f4, m_f5, bI_e0, bI_n0, b_ft, bI_01, bI_t, bI_f, i10, i01, if_true, if_false, Bool.true_eq_false, Bool.false_eq_true, or_true, true_or, not_true_eq_false, not_false_eq_true, ls1s, e1, show ((6 : Int32) = 0) = False from by decide, d6, r6, mF_add, i1, i2, nI_1]
    · have c3 : ¬ (5 ≤ j / 6 + a ∧ j / 6 + a ≤ 10 ∧ 5 ≤ j % 6 + b ∧ j % 6 + b ≤ 10) := fun x => c1 ⟨x.1, x.2.1⟩
      rw [decide_eq_false c1] at i1
      rw [decide_eq_false c3, show ftP S.col f a b j = true from if_neg c3, Bool.and_true]
      cases q : allB (ftP S.col f a b) j <;> simp (disch := omega) only [R_X12_isFit_p0, R_X12_isFit_p1, SB, mw_o, mw_a, mo_g, mo_p, mo_pz, mw_so, mw_sa, upA_eq, upA_upA, upd_upd, m_isKnot, m_isSheet, mi_1, mi_3, mi_5, mi_6, mi_7, mi_69, mi_99, mi_100, mi_255, m_f1, m_f2, m_f3, m_f4, m_f5, bI_e0, bI_n0, b_ft, bI_01, bI_t, bI_f, i10, i01, if_true, if_false, Bool.true_eq_false, Bool.false_eq_true, or_true, true_or, not_true_eq_false, not_false_eq_true, ls1s, e1, show ((6 : Int32) = 0) = False from by decide, d6, r6, mF_add, i1, nI_1]) (none, none, none) trivial
  simp (disch := omega) only [C_X12_isFit, R_X12_isFit_p0, SB, ls1s]
  refine (show _ = _ from rfl).trans (h1.trans ?_)
  rw [H_X12_isFit_6]
  simp only [R_X12_isFit_p0, R_X12_isFit_p1, SB, e36, if_true, bI_01]
  rfl
theorem iw55 (v : Int32) (w : AH) (lv : Nat) : Call M_X11_isWithin lv [.int v, .int (-5), .int 5] w = some (some (.int (bI (decide (-5 ≤ v.toInt ∧ v.toInt ≤ 5)))), w) := s_isWithin v (-5) 5 w lv
theorem mi55 (x : Int32) (w : AH) (lv : Nat) : Call M_X12_in lv [.long x.toInt64, .long (-5), .long 5] w = some (some (.int (bI (decide (-5 ≤ x.toInt ∧ x.toInt ≤ 5)))), w) := by rw [s_m_in, i64_of]; rfl
theorem mF_of {x : Int32} (h : -5 ≤ x.toInt ∧ x.toInt ≤ 5) : ∃ a, a ≤ 10 ∧ x = mF a := by
  refine ⟨(x.toInt + 5).toNat, by omega, ?_⟩
  apply Int32.toInt_inj.mp
  rw [mF_t (by omega)]; omega
theorem j_fits (a b c : Int32) : JO M_X11_fits M_X12_fits [.int a, .int b, .int c] := by
  apply JO.mk
  intro W X I A hC hM
  by_cases q1 : inR a 4 = true
  · obtain ⟨k, k1, k2, rfl⟩ := inR_of q1
    have so := s_sheetOf hC q1 k1 60
    have sh := hC.she k k1
    by_cases qb : -5 ≤ b.toInt ∧ b.toInt ≤ 5
    · by_cases qc : -5 ≤ c.toInt ∧ c.toInt ≤ 5
      · have ic := s_Sheet_isCarpet sh 60
        have mc := fun w => m_isCarpet hC hM k1 w 60
        have shv := hM.shv k k1
        have shr := hM.shr k k1
        by_cases qi : isC (X.2.2.2.2.2 k).2.1 (X.2.2.2.2.2 k).1 (X.2.2.2.2.2 k).2.2 = true
        · rw [qi] at ic
          simp only [qi] at mc
          obtain ⟨z1, z2, f, hf⟩ := isC_f qi
          have rb := sh.rb
          have hb : (X.2.2.2.2.2 k).1 = 8 ∨ (X.2.2.2.2.2 k).1 = 16 ∨ (X.2.2.2.2.2 k).1 = 32 := by omega
          obtain ⟨x, x1, rfl⟩ := mF_of qb
          obtain ⟨y, y1, rfl⟩ := mF_of qc
          have sh2 : ShAt W (115 + 2 * k) (X.2.2.2.2.2 k).1 36 (X.2.2.2.2.2 k).2.2 := by rw [← z2]; exact sh
          have fb : Call M_X0_fitsBy 60 [.ref 34, .ref (115 + 2 * k), .int (mF x), .int (mF y)] W = _ := s_fitsBy hC.now.car sh2 hf x1 y1 60
          have mf := fun w => m_isFit (I := I) hM.now k1 (f := f) (fun i hi => by
            obtain ⟨f1, f2⟩ := hf i hi
            refine ⟨?_, f2⟩
            rw [shv i (by omega), sx_small hb (shr i (by omega)) (by omega)]
            exact f1) x1 y1 w 60
          have g0 : gf (hg W 33) 1 0 = some (.ref 34) := hC.now.k0
          have k34 : clK (hg W 34) = 0 := clK_gf hC.now.car.p0
          refine JS.ro hC hM (r := bI (ftB X.1.col f x y)) ?_ (fun w => ⟨I, A, ?_, hM⟩)
          · simp only [C_X11_fits, R_X11_fits, SB, hC.f0, hC.f1, hC.f2, hC.f3, hC.f4, hC.f5, hC.f6, hC.f7, hC.f8, hC.f9, clK_gf hC.f0, s_isKnot, s_isColour, s_isKindAndM, s_isUse, iw_1, iw_3, iw_6, iw_7, iw_99, iw_100, iw_255, s_rf1 hC, s_rf2 hC, s_rf3 hC, s_rf4 hC, s_rf5 hC, bI_e0, bI_n0, b_ft, bI_01, bI_t, bI_f, i10, i01, if_true, if_false, Bool.true_eq_false, Bool.false_eq_true, or_true, true_or, not_true_eq_false, not_false_eq_true, ls1s, so, iw55, qb, qc, and_self, decide_true, clK_gf sh.p0, ic, g0, k34, fb]
            cases ftB X.1.col f x y <;> simp [bI]
          · simp only [C_X12_fits, R_X12_fits, SB, mw_o, mw_a, mo_g, mo_p, mo_pz, mw_so, mw_sa, upA_eq, upA_upA, upd_upd, m_isKnot, m_isSheet, mi_1, mi_3, mi_5, mi_6, mi_7, mi_69, mi_99, mi_100, mi_255, m_f1, m_f2, m_f3, m_f4, m_f5, bI_e0, bI_n0, b_ft, bI_01, bI_t, bI_f, i10, i01, if_true, if_false, Bool.true_eq_false, Bool.false_eq_true, or_true, true_or, not_true_eq_false, not_false_eq_true, ls1s, q1, mi55, qb, qc, and_self, decide_true, mc, mf]
            cases ftB X.1.col f x y <;> simp [bI]
        · rw [Bool.eq_false_iff.mpr qi] at ic
          simp only [Bool.eq_false_iff.mpr qi] at mc
          refine JS.er hC hM (k := 2) (by decide) ?_ (fun w => ?_)
          · simp only [C_X11_fits, R_X11_fits, SB, hC.f0, hC.f1, hC.f2, hC.f3, hC.f4, hC.f5, hC.f6, hC.f7, hC.f8, hC.f9, clK_gf hC.f0, s_isKnot, s_isColour, s_isKindAndM, s_isUse, iw_1, iw_3, iw_6, iw_7, iw_99, iw_100, iw_255, s_rf1 hC, s_rf2 hC, s_rf3 hC, s_rf4 hC, s_rf5 hC, bI_e0, bI_n0, b_ft, bI_01, bI_t, bI_f, i10, i01, if_true, if_false, Bool.true_eq_false, Bool.false_eq_true, or_true, true_or, not_true_eq_false, not_false_eq_true, ls1s, so, iw55, qb, qc, and_self, decide_true, clK_gf sh.p0, ic]
          · simp only [C_X12_fits, R_X12_fits, SB, mw_o, mw_a, mo_g, mo_p, mo_pz, mw_so, mw_sa, upA_eq, upA_upA, upd_upd, m_isKnot, m_isSheet, mi_1, mi_3, mi_5, mi_6, mi_7, mi_69, mi_99, mi_100, mi_255, m_f1, m_f2, m_f3, m_f4, m_f5, bI_e0, bI_n0, b_ft, bI_01, bI_t, bI_f, i10, i01, if_true, if_false, Bool.true_eq_false, Bool.false_eq_true, or_true, true_or, not_true_eq_false, not_false_eq_true, ls1s, q1, mi55, qb, qc, and_self, decide_true, mc]
      · refine JS.er hC hM (k := 1) (by decide) ?_ (fun w => ?_)
        · simp only [C_X11_fits, R_X11_fits, SB, hC.f0, hC.f1, hC.f2, hC.f3, hC.f4, hC.f5, hC.f6, hC.f7, hC.f8, hC.f9, clK_gf hC.f0, s_isKnot, s_isColour, s_isKindAndM, s_isUse, iw_1, iw_3, iw_6, iw_7, iw_99, iw_100, iw_255, s_rf1 hC, s_rf2 hC, s_rf3 hC, s_rf4 hC, s_rf5 hC, bI_e0, bI_n0, b_ft, bI_01, bI_t, bI_f, i10, i01, if_true, if_false, Bool.true_eq_false, Bool.false_eq_true, or_true, true_or, not_true_eq_false, not_false_eq_true, ls1s, so, iw55, qb, qc, and_self, decide_true, decide_false]
        · simp only [C_X12_fits, R_X12_fits, SB, mw_o, mw_a, mo_g, mo_p, mo_pz, mw_so, mw_sa, upA_eq, upA_upA, upd_upd, m_isKnot, m_isSheet, mi_1, mi_3, mi_5, mi_6, mi_7, mi_69, mi_99, mi_100, mi_255, m_f1, m_f2, m_f3, m_f4, m_f5, bI_e0, bI_n0, b_ft, bI_01, bI_t, bI_f, i10, i01, if_true, if_false, Bool.true_eq_false, Bool.false_eq_true, or_true, true_or, not_true_eq_false, not_false_eq_true, ls1s, q1, mi55, qb, qc, and_self, decide_true, decide_false]
    · refine JS.er hC hM (k := 1) (by decide) ?_ (fun w => ?_)
      · simp only [C_X11_fits, R_X11_fits, SB, hC.f0, hC.f1, hC.f2, hC.f3, hC.f4, hC.f5, hC.f6, hC.f7, hC.f8, hC.f9, clK_gf hC.f0, s_isKnot, s_isColour, s_isKindAndM, s_isUse, iw_1, iw_3, iw_6, iw_7, iw_99, iw_100, iw_255, s_rf1 hC, s_rf2 hC, s_rf3 hC, s_rf4 hC, s_rf5 hC, bI_e0, bI_n0, b_ft, bI_01, bI_t, bI_f, i10, i01, if_true, if_false, Bool.true_eq_false, Bool.false_eq_true, or_true, true_or, not_true_eq_false, not_false_eq_true, ls1s, so, iw55, qb, decide_false]
      · simp only [C_X12_fits, R_X12_fits, SB, mw_o, mw_a, mo_g, mo_p, mo_pz, mw_so, mw_sa, upA_eq, upA_upA, upd_upd, m_isKnot, m_isSheet, mi_1, mi_3, mi_5, mi_6, mi_7, mi_69, mi_99, mi_100, mi_255, m_f1, m_f2, m_f3, m_f4, m_f5, bI_e0, bI_n0, b_ft, bI_01, bI_t, bI_f, i10, i01, if_true, if_false, Bool.true_eq_false, Bool.false_eq_true, or_true, true_or, not_true_eq_false, not_false_eq_true, ls1s, q1, mi55, qb, decide_false]
  · have so := s_sheetOf_n hC q1 60
    refine JS.er hC hM (k := 1) (by decide) ?_ (fun w => ?_)
    · simp only [C_X11_fits, R_X11_fits, SB, hC.f0, hC.f1, hC.f2, hC.f3, hC.f4, hC.f5, hC.f6, hC.f7, hC.f8, hC.f9, clK_gf hC.f0, s_isKnot, s_isColour, s_isKindAndM, s_isUse, iw_1, iw_3, iw_6, iw_7, iw_99, iw_100, iw_255, s_rf1 hC, s_rf2 hC, s_rf3 hC, s_rf4 hC, s_rf5 hC, bI_e0, bI_n0, b_ft, bI_01, bI_t, bI_f, i10, i01, if_true, if_false, Bool.true_eq_false, Bool.false_eq_true, or_true, true_or, not_true_eq_false, not_false_eq_true, ls1s, so]
    · simp only [C_X12_fits, R_X12_fits, SB, mw_o, mw_a, mo_g, mo_p, mo_pz, mw_so, mw_sa, upA_eq, upA_upA, upd_upd, m_isKnot, m_isSheet, mi_1, mi_3, mi_5, mi_6, mi_7, mi_69, mi_99, mi_100, mi_255, m_f1, m_f2, m_f3, m_f4, m_f5, bI_e0, bI_n0, b_ft, bI_01, bI_t, bI_f, i10, i01, if_true, if_false, Bool.true_eq_false, Bool.false_eq_true, or_true, true_or, not_true_eq_false, not_false_eq_true, ls1s, inR_f q1]
