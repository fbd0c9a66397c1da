/-! ===== pairs: nextTo ===== -/
/-- what the model's set holds after the places below (i, y) -/
def NxP (col : Nat → Nat) (L : Nat) (r : Nat → Nat) (i y s : Nat) : Prop := s < 256 ∧ ∀ x, s.testBit x = true ↔ ∃ j z, (j < i ∨ j = i ∧ z < y) ∧ z < 4 ∧ nbN (r j) z < 36 ∧ L.testBit (nbN (r j) z) = false ∧ col (nbN (r j) z) = x
theorem NxP.skip {col : Nat → Nat} {L : Nat} {r : Nat → Nat} {i y s : Nat} (h : NxP col L r i y s) (hn : ¬ (nbN (r i) y < 36 ∧ L.testBit (nbN (r i) y) = false)) : NxP col L r i (y + 1) s := by
  refine ⟨h.1, fun x => ?_⟩
  rw [h.2 x]
  constructor
  · intro ⟨j, z, a, b⟩
    exact ⟨j, z, by omega, b⟩
  · intro ⟨j, z, a, b⟩
    refine ⟨j, z, ?_, b⟩
    by_cases q : j = i ∧ z = y
    · obtain ⟨rfl, rfl⟩ := q
      exact absurd ⟨b.2.1, b.2.2.1⟩ hn
    · omega
theorem NxP.add {col : Nat → Nat} {L : Nat} {r : Nat → Nat} {i y s : Nat} (h : NxP col L r i y s) (hy : y < 4) (h1 : nbN (r i) y < 36) (h2 : L.testBit (nbN (r i) y) = false) (hc : col (nbN (r i) y) < 8) : NxP col L r i (y + 1) (s ||| 2 ^ col (nbN (r i) y)) := by
  refine ⟨Nat.or_lt_two_pow (n := 8) h.1 (p8 hc), fun x => ?_⟩
  rw [Nat.testBit_or, Nat.testBit_two_pow, Bool.or_eq_true, h.2 x, decide_eq_true_iff]
  constructor
  · rintro (⟨j, z, a, b⟩ | e)
    · exact ⟨j, z, by omega, b⟩
    · exact ⟨i, y, by omega, hy, h1, h2, e⟩
  · intro ⟨j, z, a, b⟩
    by_cases q : j = i ∧ z = y
    · obtain ⟨rfl, rfl⟩ := q
      exact Or.inr b.2.2.2
    · exact Or.inl ⟨j, z, by omega, b⟩
theorem NxP.next {col : Nat → Nat} {L : Nat} {r : Nat → Nat} {i s : Nat} (h : NxP col L r i 4 s) : NxP col L r (i + 1) 0 s := by
  refine ⟨h.1, fun x => ?_⟩
  rw [h.2 x]
  constructor
  · intro ⟨j, z, a, b⟩
    exact ⟨j, z, by omega, b⟩
  · intro ⟨j, z, a, b⟩
    exact ⟨j, z, by omega, b⟩
theorem ciN_b (col : Nat → Nat) (S : Nat) (x : Nat) : ∀ n, (foldN (ciF col S) n 0).testBit x = true ↔ ∃ k, k < n ∧ S.testBit k = true ∧ col k = x := by
  intro n
  induction n with
  | zero =>
    constructor
    · intro h
      have h : (0 : Nat).testBit x = true := h
      simp at h
    · intro ⟨k, a, _⟩; omega
  | succ n ih =>
    rw [foldN_s]
    unfold ciF
    by_cases q : S.testBit n = true
    · rw [if_pos q, Nat.testBit_or, Nat.testBit_two_pow, Bool.or_eq_true, decide_eq_true_iff]
      have ih := ih
      unfold ciF at ih
      rw [ih]
      constructor
      · rintro (⟨k, a, b⟩ | e)
        · exact ⟨k, by omega, b⟩
        · exact ⟨n, by omega, q, e⟩
      · intro ⟨k, a, b⟩
        by_cases z : k = n
        · subst z; exact Or.inr b.2
        · exact Or.inl ⟨k, by omega, b⟩
    · rw [if_neg q]
      have ih := ih
      unfold ciF at ih
      rw [ih]
      constructor
      · intro ⟨k, a, b⟩
        exact ⟨k, by omega, b⟩
      · intro ⟨k, a, b⟩
        by_cases z : k = n
        · subst z; exact absurd b.1 q
        · exact ⟨k, by omega, b⟩
theorem m_nextL {S : Co} {J : Nat → Int32} {B : Nat → Nat → Int32} (hD : DR (B 0) S) {L m : Nat} {r : Nat → Nat} (hm : m ≤ 36) (h13 : J 13 = nI m) (h6 : ∀ k, k < 36 → B 6 k = bI (L.testBit k)) (h5 : ∀ i, i < m → B 5 i = nI (r i) ∧ r i < 36) (a : Int32) (w : AH) (lv : Nat) : ∃ s, Ex M_X12_nextTo lv 22 [some (.ref 123), some (.int a), some (.int (nI 0)), some (.int (nI 0)), none, none] [] (mw w J B) = some (some (.int (nI s)), mw w J B) ∧ NxP S.col L r m 0 s := by
  obtain ⟨⟨s, o4, o5⟩, a1, a2⟩ := loopE (fun i (s : Nat × Option Value × Option Value) => Ex M_X12_nextTo lv 22 [some (.ref 123), some (.int a), some (.int (nI s.1)), some (.int (nI i)), s.2.1, s.2.2] [] (mw w J B)) (fun i s => NxP S.col L r i 0 s.1) m (by
    intro i s hi hI
    obtain ⟨s, o4, o5⟩ := s
    have hI : NxP S.col L r i 0 s := hI
    obtain ⟨r1, r2⟩ := h5 i hi
    have e1 : (nI m ≤ nI i) = False := by rw [le_nI (by omega) (by omega)]; apply eq_false; omega
    obtain ⟨⟨s2, o52⟩, b1, b2⟩ := loopE (fun y (s : Nat × Option Value) => Ex M_X12_nextTo lv 33 [some (.ref 123), some (.int a), some (.int (nI s.1)), some (.int (nI i)), some (.int (nI y)), s.2] [] (mw w J B)) (fun y s => NxP S.col L r i y s.1) 4 (by
      intro y s hy hI
      obtain ⟨s, o5⟩ := s
      have hI : NxP S.col L r i y s := hI
      have hs := hI.1
      have e4 : ((4 : Int32) ≤ nI y) = False := by rw [show (4 : Int32) = nI 4 from rfl, le_nI (by decide) (by omega)]; simp; omega
      have mb : Call M_X12_beside 60 [.int (nI (r i)), .int (nI y)] (mw w J B) = _ := m_beside r2 hy (mw w J B) 60
      have o0 : nI s ||| (0 : Int32) = nI s := Int32.or_zero
      by_cases q : nbN (r i) y < 36
      · rw [show nbI (r i) y = nI (nbN (r i) y) from if_pos q] at mb
        have l0 : (nI (nbN (r i) y) < (0 : Int32)) = False := eq_false (nI_pos (by omega))
        have l1 : ((0 : Int32) ≤ nI (nbN (r i) y)) = True := by rw [show (0 : Int32) = nI 0 from rfl, le_nI (by decide) (by omega)]; apply eq_true; omega
        have f6 := h6 _ q
        cases z : L.testBit (nbN (r i) y) with
        | true =>
          rw [z] at f6
          refine ⟨(s, some (.int (nI (nbN (r i) y)))), ?_, hI.skip (fun x => by rw [z] at x; exact absurd x.2 (by decide))⟩
          rw [H_X12_nextTo_33]
          simp (disch := omega) only [R_X12_nextTo_p0, R_X12_nextTo_p1, SB, mw_o, mw_a, mo_g, mo_p, mo_pz, mw_so, mw_sa, upA_eq, upA_upA, upd_upd, m_isKnot, m_isSheet, mi_1, mi_3, mi_5, mi_6, mi_7, mi_69, mi_99, mi_100, mi_255, m_f1, m_f2, m_f3, m_f4, m_f5, bI_e0, bI_n0, b_ft, bI_01, bI_t, bI_f, i10, i01, if_true, if_false, Bool.true_eq_false, Bool.false_eq_true, or_true, true_or, not_true_eq_false, not_false_eq_true, ls1s, e4, aI_a, r1, mb, l0, l1, aB_2, f6, o0, nI_1]
        | false =>
          rw [z] at f6
          have c := hD.rc _ q
          have p := p8 c
          refine ⟨(s ||| 2 ^ S.col (nbN (r i) y), some (.int (nI (nbN (r i) y)))), ?_, hI.add hy q z c⟩
          rw [H_X12_nextTo_33]
          simp (disch := omega) only [R_X12_nextTo_p0, R_X12_nextTo_p1, SB, mw_o, mw_a, mo_g, mo_p, mo_pz, mw_so, mw_sa, upA_eq, upA_upA, upd_upd, m_isKnot, m_isSheet, mi_1, mi_3, mi_5, mi_6, mi_7, mi_69, mi_99, mi_100, mi_255, m_f1, m_f2, m_f3, m_f4, m_f5, bI_e0, bI_n0, b_ft, bI_01, bI_t, bI_f, i10, i01, if_true, if_false, Bool.true_eq_false, Bool.false_eq_true, or_true, true_or, not_true_eq_false, not_false_eq_true, ls1s, e4, aI_a, r1, mb, l0, l1, aB_2, f6, lit_add, hD.col _ q, one_shl (S.col (nbN (r i) y)) (by omega), nI_or (show s < 2 ^ 32 by omega) (show 2 ^ S.col (nbN (r i) y) < 2 ^ 32 by omega), nI_1]
      · rw [show nbI (r i) y = -1 from if_neg q] at mb
        refine ⟨(s, some (.int (-1))), ?_, hI.skip (fun x => q x.1)⟩
        have l0 : ((-1 : Int32) < (0 : Int32)) = True := by decide
        generalize (-1 : Int32) = mm at mb l0
        rw [H_X12_nextTo_33]
        simp (disch := omega) only [R_X12_nextTo_p0, R_X12_nextTo_p1, SB, mw_o, mw_a, mo_g, mo_p, mo_pz, mw_so, mw_sa, upA_eq, upA_upA, upd_upd, m_isKnot, m_isSheet, mi_1, mi_3, mi_5, mi_6, mi_7, mi_69, mi_99, mi_100, mi_255, m_f1, m_f2, m_f3, m_f4, m_f5, bI_e0, bI_n0, b_ft, bI_01, bI_t, bI_f, i10, i01, if_true, if_false, Bool.true_eq_false, Bool.false_eq_true, or_true, true_or, not_true_eq_false, not_false_eq_true, ls1s, e4, aI_a, r1, mb, l0, o0, nI_1]) (s, o5) hI
    have b2 : NxP S.col L r i 4 s2 := b2
    refine ⟨(s2, some (.int (nI 4)), o52), ?_, b2.next⟩
    rw [H_X12_nextTo_22]
    simp only [R_X12_nextTo_p0, R_X12_nextTo_p1, SB, mw_o, mw_a, mo_g, mo_p, mo_pz, mw_so, mw_sa, upA_eq, upA_upA, upd_upd, m_isKnot, m_isSheet, mi_1, mi_3, mi_5, mi_6, mi_7, mi_69, mi_99, mi_100, mi_255, m_f1, m_f2, m_f3, m_f4, m_f5, bI_e0, bI_n0, b_ft, bI_01, bI_t, bI_f, i10, i01, if_true, if_false, Bool.true_eq_false, Bool.false_eq_true, or_true, true_or, not_true_eq_false, not_false_eq_true, ls1s, h13, e1]
    refine (show _ = _ from rfl).trans (b1.trans ?_)
    rw [H_X12_nextTo_33]
    simp only [R_X12_nextTo_p0, R_X12_nextTo_p1, SB, show ((4 : Int32) ≤ nI 4) = True from by rw [show (4 : Int32) = nI 4 from rfl]; simp, if_true, nI_1, ls1s]) (0, none, none) ⟨(by decide : (0 : Nat) < 256), fun x => ⟨fun h => by simp at h, fun ⟨j, z, a, _⟩ => by omega⟩⟩
  refine ⟨s, ?_, a2⟩
  refine a1.trans ?_
  rw [H_X12_nextTo_22]
  simp only [R_X12_nextTo_p0, R_X12_nextTo_p1, SB, mw_o, mw_a, mo_g, mo_p, mo_pz, mw_so, mw_sa, upA_eq, upA_upA, upd_upd, m_isKnot, m_isSheet, mi_1, mi_3, mi_5, mi_6, mi_7, mi_69, mi_99, mi_100, mi_255, m_f1, m_f2, m_f3, m_f4, m_f5, bI_e0, bI_n0, b_ft, bI_01, bI_t, bI_f, i10, i01, if_true, if_false, Bool.true_eq_false, Bool.false_eq_true, or_true, true_or, not_true_eq_false, not_false_eq_true, ls1s, h13, show (nI m ≤ nI m) = True from by simp]
theorem j_nextTo (a : Int32) : JO M_X11_nextTo M_X12_nextTo [.int a] := by
  apply JO.mk
  intro W X I A hC hM
  have hD := hM.now
  by_cases q : inR a 36 = true
  · obtain ⟨k, k1, k2, rfl⟩ := inR_of q
    have g0 := hC.g0
    have k34 := hC.k34
    refine JS.ro hC hM (r := nI (cbN X.1.col k)) ?_ (fun w => ?_)
    · simp only [C_X11_nextTo, R_X11_nextTo, SB, hC.f0, hC.f1, hC.f2, hC.f3, hC.f4, hC.f5, hC.f6, hC.f7, hC.f8, hC.f9, clK_gf hC.f0, s_isKnot, s_isColour, s_isKindAndM, s_isUse, iw_1, iw_3, iw_6, iw_7, iw_99, iw_100, iw_255, s_rf1 hC, s_rf2 hC, s_rf3 hC, s_rf4 hC, s_rf5 hC, bI_e0, bI_n0, b_ft, bI_01, bI_t, bI_f, i10, i01, if_true, if_false, Bool.true_eq_false, Bool.false_eq_true, or_true, true_or, not_true_eq_false, not_false_eq_true, ls1s, q, g0, k34, s_coloursBeside hC.car k1]
    · obtain ⟨F, R, r, m, s1, s2⟩ := m_spreads (I := I) hD k1 w 60
      have s2' := s2
      obtain ⟨t1, t2, t3, t4⟩ := s2
      obtain ⟨s, a1, a2, a3⟩ := m_nextL (S := X.1) (J := upd I 13 (nI m)) (B := upA (upA A 5 R) 6 F) (L := land X.1.col k) (m := m) (r := r) hD s2'.m_le rfl t2 (fun i hi => ⟨(t3 i hi).1, (t3 i hi).2.1⟩) (nI k) w 60
      refine ⟨upd I 13 (nI m), upA (upA A 5 R) 6 F, ?_, hM.sp _ _ _⟩
      have ll := land_lt X.1.col k1
      have e : cbN X.1.col k = s := by
        apply Nat.eq_of_testBit_eq
        intro x
        apply Bool.eq_iff_iff.mpr
        rw [a3 x]
        unfold cbN ciN
        rw [ciN_b]
        constructor
        · intro ⟨j, j1, j2, j3⟩
          rw [dfN_b, Bool.and_eq_true, arN_b ll j1] at j2
          obtain ⟨⟨y, y1, y2, y3⟩, j4⟩ := j2
          obtain ⟨n1, n2⟩ := nb_opp j j1 y y1 y2
          obtain ⟨i, i1, i2⟩ := t4 _ y2 y3
          refine ⟨i, opp y, Or.inl i1, n2, ?_, ?_, ?_⟩
          · rw [i2, n1]; exact j1
          · rw [i2, n1]; cases h : (land X.1.col k).testBit j with
            | false => rfl
            | true => rw [h] at j4; cases j4
          · rw [i2, n1]; exact j3
        · intro ⟨i, y, i1, y1, y2, y3, y4⟩
          have i1 : i < m := by omega
          obtain ⟨u1, u2, u3⟩ := t3 i i1
          obtain ⟨n1, n2⟩ := nb_opp (r i) u2 y y1 y2
          refine ⟨nbN (r i) y, y2, ?_, y4⟩
          rw [dfN_b, Bool.and_eq_true, arN_b ll y2, y3]
          exact ⟨⟨opp y, n2, by rw [n1]; exact u2, by rw [n1]; exact u3⟩, rfl⟩
      rw [e]
      simp only [C_X12_nextTo, R_X12_nextTo_p0, R_X12_nextTo_p1, SB, mw_o, mw_a, mo_g, mo_p, mo_pz, mw_so, mw_sa, upA_eq, upA_upA, upd_upd, m_isKnot, m_isSheet, mi_1, mi_3, mi_5, mi_6, mi_7, mi_69, mi_99, mi_100, mi_255, m_f1, m_f2, m_f3, m_f4, m_f5, bI_e0, bI_n0, b_ft, bI_01, bI_t, bI_f, i10, i01, if_true, if_false, Bool.true_eq_false, Bool.false_eq_true, or_true, true_or, not_true_eq_false, not_false_eq_true, ls1s, q, s1]
      exact a1
  · refine JS.er hC hM (k := 1) (by decide) ?_ (fun w => ?_)
    · simp only [C_X11_nextTo, R_X11_nextTo, SB, hC.f0, hC.f1, hC.f2, hC.f3, hC.f4, hC.f5, hC.f6, hC.f7, hC.f8, hC.f9, clK_gf hC.f0, s_isKnot, s_isColour, s_isKindAndM, s_isUse, iw_1, iw_3, iw_6, iw_7, iw_99, iw_100, iw_255, s_rf1 hC, s_rf2 hC, s_rf3 hC, s_rf4 hC, s_rf5 hC, bI_e0, bI_n0, b_ft, bI_01, bI_t, bI_f, i10, i01, if_true, if_false, Bool.true_eq_false, Bool.false_eq_true, or_true, true_or, not_true_eq_false, not_false_eq_true, ls1s, inR_f q]
    · simp only [C_X12_nextTo, R_X12_nextTo_p0, R_X12_nextTo_p1, SB, mw_o, mw_a, mo_g, mo_p, mo_pz, mw_so, mw_sa, upA_eq, upA_upA, upd_upd, m_isKnot, m_isSheet, mi_1, mi_3, mi_5, mi_6, mi_7, mi_69, mi_99, mi_100, mi_255, m_f1, m_f2, m_f3, m_f4, m_f5, bI_e0, bI_n0, b_ft, bI_01, bI_t, bI_f, i10, i01, if_true, if_false, Bool.true_eq_false, Bool.false_eq_true, or_true, true_or, not_true_eq_false, not_false_eq_true, ls1s, inR_f q]
