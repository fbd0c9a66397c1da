/-! ===== the model's units; a whole text ===== -/
theorem dg_not {x : Int32} (h : isDg x = true) : (x = 33) = False ∧ (x = 40) = False ∧ (∀ u, (nmN u x < 3) = False) := by
  have h := of_decide_eq_true h
  have ne : ∀ k : Nat, k < 48 ∨ 57 < k → k < 1000 → x ≠ nI k := by
    intro k hk hk2 e
    rw [e, nI_t (by omega)] at h
    omega
  refine ⟨eq_false (ne 33 (by decide) (by decide)), eq_false (ne 40 (by decide) (by decide)), fun u => ?_⟩
  have a1 : x ≠ 107 := ne 107 (by decide) (by decide)
  have a2 : x ≠ 119 := ne 119 (by decide) (by decide)
  have a3 : x ≠ 99 := ne 99 (by decide) (by decide)
  have a4 : x ≠ 114 := ne 114 (by decide) (by decide)
  have a5 : x ≠ 100 := ne 100 (by decide) (by decide)
  unfold nmN
  split <;> simp [a1, a2, a3, a4, a5]
theorem nm_not {u : Nat} {x : Int32} (h : nmN u x < 3) : (x = 33) = False ∧ (x = 40) = False := by
  constructor
  · apply eq_false
    intro e; subst e
    unfold nmN at h
    split at h <;> exact absurd h (by decide)
  · apply eq_false
    intro e; subst e
    unfold nmN at h
    split at h <;> exact absurd h (by decide)
theorem dg_nI {x : Int32} (h : isDg x = true) : ∃ m, 48 ≤ m ∧ m ≤ 57 ∧ x = nI m ∧ (x.toInt - 48).toNat = m - 48 := by
  have h := of_decide_eq_true h
  refine ⟨x.toInt.toNat, by omega, by omega, ?_, by omega⟩
  apply Int32.toInt_inj.mp
  rw [nI_t (by omega)]
  omega
theorem in_dg (x : Int32) (w : AH) (lv : Nat) : Call M_X12_in lv [.long x.toInt64, .long 48, .long 57] w = some (some (.int (bI (isDg x))), w) := by
  rw [s_m_in, i64_of]
  rfl
theorem m_digits {w : AH} {I : Nat → Int32} {A : Nat → Nat → Int32} {bs n u : Nat} {a b c : Int32} (h : MB I A bs n u a b c) (lv : Nat) (x k oo : Int32) : ∀ f i q v, i + f = 4 → 0 < i → q ≤ n → v < 10 ^ i → Ex M_X12_unit lv 150 [some (.ref 123), some (.int x), some (.int k), some (.int (nI v)), some (.int (nI i))] [] (mw w (mI I (nI q) (-1) oo) A) = some (some (.int (nI (pNm (cB n (mBy A bs)) f q v).2)), mw w (mI I (nI (pNm (cB n (mBy A bs)) f q v).1) (-1) oo) A) := by
  have ln := h.ln
  intro f
  induction f with
  | zero =>
    intro i q v hi h0 hq hv
    have : i = 4 := by omega
    subst this
    rw [H_X12_unit_150]
    simp only [R_X12_unit_p1, R_X12_unit_p2, SB, show ((4 : Int32) ≤ nI 4) = True from by rw [show (4 : Int32) = nI 4 from rfl]; simp, if_true, show (nI 4 = (0 : Int32)) = False from by decide, not_false_eq_true, pNm]
  | succ f ih =>
    intro i q v hi h0 hq hv
    have hv2 : v < 10000 := Nat.lt_of_lt_of_le hv (by have := Nat.pow_le_pow_right (n := 10) (by decide) (show i ≤ 4 by omega); simpa using this)
    have e1 : ((4 : Int32) ≤ nI i) = False := by rw [show (4 : Int32) = nI 4 from rfl, le_nI (by decide) (by omega)]; simp; omega
    have t := m_here h (show q ≤ 50 by omega) oo w 60
    by_cases g : isDg (cB n (mBy A bs) q) = true
    · have q1 := isDg_lt g
      obtain ⟨m, m1, m2, m3, m4⟩ := dg_nI g
      have e5 : pNm (cB n (mBy A bs)) (f + 1) q v = pNm (cB n (mBy A bs)) f (q + 1) (v * 10 + (m - 48)) := by
        show (if isDg (cB n (mBy A bs) q) = true then _ else _) = _
        rw [if_pos g, m4]
      have dg := in_dg (cB n (mBy A bs) q) (mw w (mI I (nI q) (-1) oo) A) 60
      rw [g] at dg
      rw [m3] at t dg
      rw [e5, ← ih (i + 1) (q + 1) (v * 10 + (m - 48)) (by omega) (by omega) (by omega) (by rw [Nat.pow_succ]; omega)]
      rw [H_X12_unit_150]
      simp (disch := omega) only [R_X12_unit_p1, R_X12_unit_p2, SB, mw_o, mo_g, mo_p, mw_so, mI_g, mI_6, e1, if_false, if_true, t, dg, bI_t, i10, lit_mul, nI_add, sub_lit, nI_1, ls1s]
      rw [show 10 * v + m - 48 = v * 10 + (m - 48) by omega]
    · have e5 : pNm (cB n (mBy A bs)) (f + 1) q v = (q, v) := by
        show (if isDg (cB n (mBy A bs) q) = true then _ else _) = _
        rw [if_neg g]
      have dg := in_dg (cB n (mBy A bs) q) (mw w (mI I (nI q) (-1) oo) A) 60
      rw [Bool.eq_false_iff.mpr g] at dg
      have e6 : (nI i = (0 : Int32)) = False := by rw [show (0 : Int32) = nI 0 from rfl, eq_nI (by omega) (by decide)]; apply eq_false; omega
      rw [e5, H_X12_unit_150]
      simp only [R_X12_unit_p1, R_X12_unit_p2, SB, mw_o, mo_g, e1, if_false, if_true, t, dg, bI_f, e6, not_false_eq_true]
theorem m_unit {w : AH} {I : Nat → Int32} {A : Nat → Nat → Int32} {bs n u : Nat} {a b c : Int32} (h : MB I A bs n u a b c) : ∀ o, o ≤ 5 → MdM M_X12_unit w I A n a b c o 0 (pFc (cB n (mBy A bs)) u o) := by
  have ln := h.ln
  have num : ∀ lv p o, p ≤ n → isDg (cB n (mBy A bs) p) = true → MR w I A a b c o (pNum (cB n (mBy A bs)) p) (Call M_X12_unit lv [.ref 123] (mw w (mI I (nI p) (-1) (nI (5 - o))) A)) := by
    intro lv p o hp g
    refine MR.good rfl ?_
    have q1 := isDg_lt g
    obtain ⟨d1, d2, d3⟩ := dg_not g
    obtain ⟨m, m1, m2, m3, m4⟩ := dg_nI g
    have t := m_here h (show p ≤ 50 by omega) (nI (5 - o)) w 60
    have nf := m_nameOf h (nI p) (-1) (nI (5 - o)) (cB n (mBy A bs) p) w 60
    simp only [d3, if_false] at nf
    have dg := in_dg (cB n (mBy A bs) p) (mw w (mI I (nI p) (-1) (nI (5 - o))) A) 60
    rw [g] at dg
    have e5 : pNm (cB n (mBy A bs)) 4 p 0 = pNm (cB n (mBy A bs)) 3 (p + 1) (0 * 10 + (m - 48)) := by
      show (if isDg (cB n (mBy A bs) p) = true then _ else _) = _
      rw [if_pos g, m4]
    have nx := m_digits (w := w) h lv (cB n (mBy A bs) p) (-1) (nI (5 - o)) 3 1 (p + 1) (0 * 10 + (m - 48)) (by omega) (by decide) (by omega) (by omega)
    show _ = some (some (Value.int (nI (pNm (cB n (mBy A bs)) 4 p 0).2)), mw w (mI I (nI (pNm (cB n (mBy A bs)) 4 p 0).1) (-1) (nI (5 - o))) A)
    rw [e5, ← nx]
    generalize hx : (-1 : Int32) = mm at nf t dg ⊢
    have e6 : (mm < 0) = True := by rw [← hx]; decide
    have dd : (cB n (mBy A bs) p = 33) = False := d1
    have d4 : (cB n (mBy A bs) p = 40) = False := d2
    generalize cB n (mBy A bs) p = x at *
    subst m3
    simp (disch := omega) only [C_X12_unit, R_X12_unit_p0, R_X12_unit_p1, SB, mw_o, mo_g, t, if_true, if_false, ls1s, d1, d2, not_false_eq_true, nf, e6]
    rw [show (0 : Int32) = nI 0 from rfl, H_X12_unit_150]
    simp (disch := omega) only [R_X12_unit_p1, R_X12_unit_p2, SB, mw_o, mo_g, mo_p, mw_so, mI_g, mI_6, show ((4 : Int32) ≤ nI 0) = False from by decide, if_false, if_true, t, dg, bI_t, i10, lit_mul, nI_add, sub_lit, nI_1, ls1s]
    rw [show 10 * 0 + m - 48 = 0 * 10 + (m - 48) by omega]
  have nam : ∀ lv p o, p ≤ n → nmN u (cB n (mBy A bs) p) < 3 → MR w I A a b c o (pNam (nmN u (cB n (mBy A bs) p)) p) (Call M_X12_unit lv [.ref 123] (mw w (mI I (nI p) (-1) (nI (5 - o))) A)) := by
    intro lv p o hp g
    refine MR.good rfl ?_
    have q1 := nmN_lt g
    obtain ⟨d1, d2⟩ := nm_not g
    have t := m_here h (show p ≤ 50 by omega) (nI (5 - o)) w 60
    have nf := m_nameOf h (nI p) (-1) (nI (5 - o)) (cB n (mBy A bs) p) w 60
    rw [if_pos g] at nf
    have e6 : (nI (nmN u (cB n (mBy A bs) p)) < 0) = False := by rw [show (0 : Int32) = nI 0 from rfl, lt_nI (by omega) (by decide)]; simp
    have val : A 4 (nmN u (cB n (mBy A bs) p)) = nmV (nmN u (cB n (mBy A bs) p)) a b c := by
      have : nmN u (cB n (mBy A bs) p) = 0 ∨ nmN u (cB n (mBy A bs) p) = 1 ∨ nmN u (cB n (mBy A bs) p) = 2 := by omega
      rcases this with k | k | k <;> rw [k]
      · exact h.n0
      · exact h.n1
      · exact h.n2
    simp (disch := omega) only [C_X12_unit, R_X12_unit_p0, R_X12_unit_p1, SB, mw_o, mw_a, mo_g, mo_p, mo_pz, mw_so, mw_sa, upA_eq, upA_upA, upd_upd, mI_g, mI_6, t, if_true, if_false, ls1s, d1, d2, not_false_eq_true, nf, e6, nI_1, aI_a, val, pNam]
  have fail : ∀ lv p o, p ≤ n → ¬ isDg (cB n (mBy A bs) p) = true → ¬ nmN u (cB n (mBy A bs) p) < 3 → (o = 0 ∨ (cB n (mBy A bs) p ≠ 33 ∧ cB n (mBy A bs) p ≠ 40)) → o ≤ 5 → MR w I A a b c o (pFail p) (Call M_X12_unit lv [.ref 123] (mw w (mI I (nI p) (-1) (nI (5 - o))) A)) := by
    intro lv p o hp g g2 g3 ho
    refine MR.bad rfl ⟨0, nI (5 - o), ?_⟩
    show _ = some (some (Value.int 0), mw w (mI I (nI p) (nI p) (nI (5 - o))) A)
    have t := m_here h (show p ≤ 50 by omega) (nI (5 - o)) w 60
    have wr := m_wrong I A (nI p) (nI (5 - o)) w 60
    by_cases g4 : cB n (mBy A bs) p ≠ 33 ∧ cB n (mBy A bs) p ≠ 40
    · have nf := m_nameOf h (nI p) (-1) (nI (5 - o)) (cB n (mBy A bs) p) w 60
      rw [if_neg g2] at nf
      have dg := in_dg (cB n (mBy A bs) p) (mw w (mI I (nI p) (-1) (nI (5 - o))) A) 60
      rw [Bool.eq_false_iff.mpr g] at dg
      generalize hx : (-1 : Int32) = mm at nf t dg wr ⊢
      have e6 : (mm < 0) = True := by rw [← hx]; decide
      simp (disch := omega) only [C_X12_unit, R_X12_unit_p0, R_X12_unit_p1, SB, mw_o, mo_g, t, if_true, if_false, ls1s, eq_false g4.1, eq_false g4.2, not_false_eq_true, nf, e6]
      rw [show (0 : Int32) = nI 0 from rfl, H_X12_unit_150]
      simp (disch := omega) only [R_X12_unit_p1, R_X12_unit_p2, SB, mw_o, mo_g, show ((4 : Int32) ≤ nI 0) = False from by decide, if_false, if_true, t, dg, bI_f, show (nI 0 = (0 : Int32)) = True from by decide, not_true_eq_false, wr]
      rfl
    · have o0 : o = 0 := by
        rcases g3 with x | x
        · exact x
        · exact absurd x g4
      subst o0
      have e5 : (nI (5 - 0) = (5 : Int32)) = True := by decide
      by_cases g5 : cB n (mBy A bs) p = 33
      · simp only [C_X12_unit, R_X12_unit_p0, R_X12_unit_p1, SB, mw_o, mo_g, mI_g, t, if_true, if_false, ls1s, eq_true g5, e5, not_true_eq_false, wr]
      · have g6 : cB n (mBy A bs) p = 40 := Classical.byContradiction (fun x => g4 ⟨g5, x⟩)
        simp only [C_X12_unit, R_X12_unit_p0, R_X12_unit_p1, SB, mw_o, mo_g, mI_g, t, if_true, if_false, ls1s, eq_false g5, eq_true g6, e5, not_true_eq_false, wr]
  intro o
  induction o with
  | zero =>
    intro _ lv p h1 h2
    show MR w I A a b c 0 (pAt (cB n (mBy A bs)) u p (pFail p)) _
    unfold pAt
    by_cases g : isDg (cB n (mBy A bs) p) = true
    · rw [if_pos g]; exact num lv p 0 h2 g
    · rw [if_neg g]
      by_cases g2 : nmN u (cB n (mBy A bs) p) < 3
      · rw [if_pos g2]; exact nam lv p 0 h2 g2
      · rw [if_neg g2]; exact fail lv p 0 h2 g g2 (Or.inl rfl) (by omega)
  | succ o ih =>
    intro ho lv p h1 h2
    have ih := ih (by omega)
    obtain ⟨lv, rfl⟩ : ∃ l, lv = l + 1 := ⟨lv - 1, by omega⟩
    have e0 : nI (5 - (o + 1)) + 1 = nI (5 - o) := by rw [nI_1]; congr 1; omega
    have e2 : nI (5 - o) - 1 = nI (5 - (o + 1)) := pk_sub (a := 5 - o) (b := 1) (by omega)
    have e1 : (nI (5 - (o + 1)) = (5 : Int32)) = False := by rw [show (5 : Int32) = nI 5 from rfl, eq_nI (by omega) (by decide)]; apply eq_false; omega
    have t := m_here h (show p ≤ 50 by omega) (nI (5 - (o + 1))) w 60
    show MR w I A a b c (o + 1) (pAt (cB n (mBy A bs)) u p (if cB n (mBy A bs) p = 33 then pNot (pFc (cB n (mBy A bs)) u o (p + 1)) else if cB n (mBy A bs) p = 40 then pCl (cB n (mBy A bs)) (pLv (cB n (mBy A bs)) (pFc (cB n (mBy A bs)) u o) 5 (p + 1)) else pFail p)) _
    unfold pAt
    by_cases g : isDg (cB n (mBy A bs) p) = true
    · rw [if_pos g]; exact num _ p (o + 1) h2 g
    · rw [if_neg g]
      by_cases g2 : nmN u (cB n (mBy A bs) p) < 3
      · rw [if_pos g2]; exact nam _ p (o + 1) h2 g2
      · rw [if_neg g2]
        by_cases g3 : cB n (mBy A bs) p = 33
        · rw [if_pos g3]
          have q1 : p < n := cB_lt (by rw [g3]; decide)
          have sub := ih lv (p + 1) (by omega) (by omega)
          have wq := pFc_w (B := mBy A bs) (u := u) o (p + 1) (show p + 1 ≤ n by omega)
          unfold pW at wq
          rw [g3] at t
          generalize pFc (cB n (mBy A bs)) u o (p + 1) = r at sub wq ⊢
          cases e3 : r.1 with
          | true =>
            refine MR.good e3 ?_
            have s1 := sub.1 e3
            show _ = some (some (Value.int (if r.2.2.2 a b c = 0 then 1 else 0)), mw w (mI I (nI r.2.1) (-1) (nI (5 - (o + 1)))) A)
            by_cases z : r.2.2.2 a b c = 0
            · simp only [C_X12_unit, R_X12_unit_p0, R_X12_unit_p1, SB, mw_o, mo_g, mo_p, mw_so, mI_g, mI_6, mI_9, t, if_true, if_false, ls1s, e1, not_false_eq_true, e0, nI_1, show ((33 : Int32) = 40) = False from by decide, s1, e2, z, not_true_eq_false]
            · simp only [C_X12_unit, R_X12_unit_p0, R_X12_unit_p1, SB, mw_o, mo_g, mo_p, mw_so, mI_g, mI_6, mI_9, t, if_true, if_false, ls1s, e1, not_false_eq_true, e0, nI_1, show ((33 : Int32) = 40) = False from by decide, s1, e2, z]
          | false =>
            obtain ⟨v, oo, s1⟩ := sub.2 e3
            refine MR.bad e3 ⟨if v = 0 then 1 else 0, oo - 1, ?_⟩
            show _ = some (some (Value.int (if v = 0 then 1 else 0)), mw w (mI I (nI r.2.1) (nI r.2.1) (oo - 1)) A)
            by_cases z : v = 0
            · simp only [C_X12_unit, R_X12_unit_p0, R_X12_unit_p1, SB, mw_o, mo_g, mo_p, mw_so, mI_g, mI_6, mI_9, t, if_true, if_false, ls1s, e1, not_false_eq_true, e0, nI_1, show ((33 : Int32) = 40) = False from by decide, s1, z, not_true_eq_false]
            · simp only [C_X12_unit, R_X12_unit_p0, R_X12_unit_p1, SB, mw_o, mo_g, mo_p, mw_so, mI_g, mI_6, mI_9, t, if_true, if_false, ls1s, e1, not_false_eq_true, e0, nI_1, show ((33 : Int32) = 40) = False from by decide, s1, z]
        · rw [if_neg g3]
          by_cases g4 : cB n (mBy A bs) p = 40
          · rw [if_pos g4]
            have q1 : p < n := cB_lt (by rw [g4]; decide)
            have wq := pLv_w (B := mBy A bs) (P := pFc (cB n (mBy A bs)) u o) (fun p hp => pFc_w o p hp) 5 (p + 1) (show p + 1 ≤ n by omega)
            unfold pW at wq
            have sub := m_levels h (fun p hp => pFc_w o p hp) ih lv (p + 1) (by omega) (by omega)
            rw [g4] at t
            generalize pLv (cB n (mBy A bs)) (pFc (cB n (mBy A bs)) u o) 5 (p + 1) = r at sub wq ⊢
            unfold pCl
            cases e3 : r.1 with
            | true =>
              have s1 := sub.1 e3
              have tk := m_takes h (show r.2.1 ≤ 50 by omega) (nI (5 - o)) 41 w 60
              by_cases g5 : cB n (mBy A bs) r.2.1 = 41
              · rw [if_pos ⟨rfl, g5⟩]
                refine MR.good rfl ?_
                simp only [g5, decide_true, if_true] at tk
                simp only [C_X12_unit, R_X12_unit_p0, R_X12_unit_p1, SB, mw_o, mo_g, mo_p, mw_so, mI_g, mI_6, mI_9, t, if_true, if_false, ls1s, e1, not_false_eq_true, not_true_eq_false, e0, nI_1, show ((40 : Int32) = 33) = False from by decide, s1, e2, tk, bI_t, i10]
              · rw [if_neg (fun x => g5 x.2)]
                refine MR.bad rfl ⟨0, nI (5 - o), ?_⟩
                simp only [g5, decide_false, if_false] at tk
                have wr := m_wrong I A (nI r.2.1) (nI (5 - o)) w 60
                simp only [C_X12_unit, R_X12_unit_p0, R_X12_unit_p1, SB, mw_o, mo_g, mo_p, mw_so, mI_g, mI_6, mI_9, t, if_true, if_false, ls1s, e1, not_false_eq_true, not_true_eq_false, e0, nI_1, show ((40 : Int32) = 33) = False from by decide, s1, tk, bI_f, wr]
            | false =>
              rw [if_neg (by simp)]
              obtain ⟨v, oo, s1⟩ := sub.2 e3
              refine MR.bad rfl ⟨0, oo, ?_⟩
              have tk := m_takes_f h (show r.2.1 ≤ 50 by omega) (show r.2.1 ≤ 50 by omega) oo (x := 41) (eq_false (by decide)) w 60
              have wr := m_wrong_f I A (nI r.2.1) (show r.2.1 ≤ 50 by omega) oo w 60
              simp only [C_X12_unit, R_X12_unit_p0, R_X12_unit_p1, SB, mw_o, mo_g, mo_p, mw_so, mI_g, mI_6, mI_9, t, if_true, if_false, ls1s, e1, not_false_eq_true, not_true_eq_false, e0, nI_1, show ((40 : Int32) = 33) = False from by decide, s1, tk, wr]
          · rw [if_neg g4]
            exact fail _ p (o + 1) h2 g g2 (Or.inr ⟨g3, g4⟩) ho
/-! a whole text -/
theorem m_worked {w : AH} {I : Nat → Int32} {A : Nat → Nat → Int32} {bs n u : Nat} {a b c : Int32} (hb : bs + n ≤ 269) (hn : n ≤ 50) (hu : u < 2) (n0 : A 4 0 = a) (n1 : A 4 1 = b) (n2 : A 4 2 = c) (lv : Nat) : ∃ v J, Call M_X12_worked lv [.ref 123, .int (nI bs), .int (nI n), .int (nI u)] (mw w I A) = some (some (.int v), mw w J A) ∧ (∀ k, k < 5 ∨ 10 < k → J k = I k) ∧
    ((pT u n (mBy A bs)).1 = true ∧ (pT u n (mBy A bs)).2.1 = n → v = (pT u n (mBy A bs)).2.2.2 a b c ∧ J 8 = -1) ∧ (¬ ((pT u n (mBy A bs)).1 = true ∧ (pT u n (mBy A bs)).2.1 = n) → J 8 = nI (pT u n (mBy A bs)).2.1) := by
  have wq := pT_w u n (mBy A bs)
  unfold pW at wq
  obtain ⟨I1, hI1⟩ : ∃ J : Nat → Int32, J = upd (upd (upd I 5 (nI bs)) 7 (nI n)) 10 (nI u) := ⟨_, rfl⟩
  have MB1 : MB I1 A bs n u a b c := ⟨by rw [hI1]; rfl, by rw [hI1]; rfl, by rw [hI1]; rfl, hb, hn, hu, n0, n1, n2⟩
  have sub := m_levels (w := w) MB1 (fun p hp => pFc_w 5 p hp) (m_unit MB1 5 (by omega)) 60 0 (by omega) (Nat.zero_le _)
  have keep : ∀ p f o k, k < 5 ∨ 10 < k → mI I1 p f o k = I k := by
    intro p f o k hk
    rw [hI1]
    unfold mI upd
    rw [if_neg (by omega), if_neg (by omega), if_neg (by omega), if_neg (by omega), if_neg (by omega), if_neg (by omega)]
  have eqI : ∀ x : Int32, x = nI u → upd (upd (upd (upd (upd (upd I 5 (nI bs)) 6 0) 7 (nI n)) 8 (-1)) 9 0) 10 x = mI I1 (nI 0) (-1) (nI (5 - 5)) := by
    intro x hx
    funext k
    rw [hI1, hx]
    unfold mI upd
    by_cases h5 : k = 5
    · subst h5; rfl
    · by_cases h6 : k = 6
      · subst h6; rfl
      · by_cases h7 : k = 7
        · subst h7; rfl
        · by_cases h8 : k = 8
          · subst h8; rfl
          · by_cases h9 : k = 9
            · subst h9; rfl
            · simp [h5, h6, h7, h8, h9]
  have pre : ∀ v J, Call M_X12_either 60 [.ref 123] (mw w (mI I1 (nI 0) (-1) (nI (5 - 5))) A) = some (some (.int v), mw w J A) → Call M_X12_worked lv [.ref 123, .int (nI bs), .int (nI n), .int (nI u)] (mw w I A) = Ex M_X12_worked lv 45 [some (.ref 123), some (.int (nI bs)), some (.int (nI n)), some (.int (nI u)), some (.int v)] [] (mw w J A) := by
    intro v J g
    have hu2 : u = 0 ∨ u = 1 := by omega
    rcases hu2 with rfl | rfl
    · have e := eqI 0 rfl
      simp only [C_X12_worked, R_X12_worked, SB, mw_o, mo_g, mo_p, mo_pz, mw_so, if_true, show (nI 0 = (1 : Int32)) = False from by decide, not_false_eq_true, e, g, ls1s]
    · have e := eqI 1 rfl
      simp only [C_X12_worked, R_X12_worked, SB, mw_o, mo_g, mo_p, mo_pz, mw_so, if_true, if_false, show (nI 1 = (1 : Int32)) = True from by decide, not_true_eq_false, e, g, ls1s]
  generalize hr : pLv (cB n (mBy A bs)) (pFc (cB n (mBy A bs)) u 5) 5 0 = r at sub
  have hr : pT u n (mBy A bs) = r := hr
  rw [hr] at wq ⊢
  have n7 : ∀ p f o, mI I1 p f o 7 = nI n := by intro p f o; rw [(mI_g I1 p f o).2.2.2.2.1, hI1]; rfl
  cases e3 : r.1 with
  | true =>
    have s1 := sub.1 e3
    have p1 := pre _ _ s1
    by_cases q : n ≤ r.2.1
    · refine ⟨r.2.2.2 a b c, mI I1 (nI r.2.1) (-1) (nI (5 - 5)), ?_, keep _ _ _, fun _ => ⟨rfl, rfl⟩, fun z => absurd ⟨rfl, by omega⟩ z⟩
      rw [p1]
      simp (disch := omega) only [R_X12_worked, SB, mw_o, mo_g, mI_g, if_true, show ((0 : Int32) ≤ -1) = False from by decide, if_false, n7, le_nI, q]
      first
        | done
        | (rw [show I1 7 = nI n from by rw [hI1]; rfl]; simp (disch := omega) only [le_nI, q, if_true])
    · have wr := m_wrong I1 A (nI r.2.1) (nI (5 - 5)) w 60
      refine ⟨0, mI I1 (nI r.2.1) (nI r.2.1) (nI (5 - 5)), ?_, keep _ _ _, fun z => absurd z.2 (by omega), fun _ => rfl⟩
      rw [p1]
      simp (disch := omega) only [R_X12_worked, SB, mw_o, mo_g, mI_g, if_true, show ((0 : Int32) ≤ -1) = False from by decide, if_false, show I1 7 = nI n from by rw [hI1]; rfl, le_nI, q, wr]
  | false =>
    obtain ⟨v, oo, s1⟩ := sub.2 e3
    have p1 := pre _ _ s1
    refine ⟨v, mI I1 (nI r.2.1) (nI r.2.1) oo, ?_, keep _ _ _, (fun z => (by cases z.1)), fun _ => rfl⟩
    rw [p1]
    have e0 : ((0 : Int32) ≤ nI r.2.1) = True := by rw [show (0 : Int32) = nI 0 from rfl, le_nI (by decide) (by omega)]; simp
    simp only [R_X12_worked, SB, mw_o, mo_g, mI_g, if_true, e0]
/-! what a text gives -/
theorem m_held (v : Int32) (w : AH) (lv : Nat) : Call M_X12_held lv [.int v, .int 0, .int 99] w = some (some (.int (nI (hdN v))), w) := by
  have e := hd_I v
  rw [← e]
  rw [show (0 : Int32).toInt = 0 from rfl, show (99 : Int32).toInt = 99 from rfl]
  simp only [C_X12_held, R_X12_held, SB, le_t, lt_t, show (0 : Int32).toInt = 0 from rfl, show (99 : Int32).toInt = 99 from rfl]
  by_cases g1 : v.toInt < 0
  · have g2 : ¬ (99 : Int) ≤ v.toInt := by omega
    have g3 : ¬ (0 : Int) ≤ v.toInt := by omega
    have g4 : ¬ (0 : Int) < v.toInt := by omega
    simp [g2, g3, g4]
  · have g3 : (0 : Int) ≤ v.toInt := by omega
    by_cases g2 : (99 : Int) ≤ v.toInt
    · by_cases g5 : v.toInt ≤ 99
      · have g6 : v = 99 := by apply Int32.toInt_inj.mp; rw [show (99 : Int32).toInt = 99 from rfl]; omega
        subst g6
        simp
      · simp [g2, g3, g5]
    · have g5 : v.toInt ≤ 99 := by omega
      by_cases g4 : (0 : Int) < v.toInt
      · simp [g2, g3, g4, g5]
      · have g6 : v = 0 := by apply Int32.toInt_inj.mp; rw [show (0 : Int32).toInt = 0 from rfl]; omega
        subst g6
        simp
theorem fm7m (v : Int32) : (if (0 : Int32) ≤ v - v / 7 * 7 then v - v / 7 * 7 else v - v / 7 * 7 + 7) + 1 = nI (pcN v) := by
  obtain ⟨q, r, h1, h2, h3, h4, h8, h9⟩ := rem7 v
  have h5 := fm7 (r + 6).toNat (by omega)
  rw [show (((r + 6).toNat : Nat) : Int) - 6 = r by omega] at h5
  have e0 : ((0 : Int32) ≤ iz r) = (0 ≤ r) := by rw [le_t, show (0 : Int32).toInt = 0 from rfl, iz_toInt (by omega) (by omega)]
  simp only [h4, e0]
  have pp : nI (pcN v - 1) + 1 = nI (pcN v) := by rw [nI_1]; congr 1
  rw [← pp]
  congr 1
  by_cases g : 0 ≤ r
  · rw [if_pos (by omega)] at h5
    rw [if_pos g, h5]; congr 1; unfold pcN; omega
  · rw [if_neg (by omega)] at h5
    rw [if_neg g, h5]; congr 1; unfold pcN; omega
/-- what stays: all but what reading and thinking use -/
def Kp (I : Nat → Int32) (A : Nat → Nat → Int32) (J : Nat → Int32) (B : Nat → Nat → Int32) : Prop := (∀ k, k < 5 ∨ 10 < k → J k = I k) ∧ (∀ j, j ≠ 4 → B j = A j)
theorem Kp.refl (I : Nat → Int32) (A : Nat → Nat → Int32) : Kp I A I A := ⟨fun _ _ => rfl, fun _ _ => rfl⟩
theorem Kp.trans {I J K : Nat → Int32} {A B C : Nat → Nat → Int32} (h : Kp I A J B) (g : Kp J B K C) : Kp I A K C := ⟨fun k hk => (g.1 k hk).trans (h.1 k hk), fun j hj => (g.2 j hj).trans (h.2 j hj)⟩
theorem m_names {w : AH} {I : Nat → Int32} {A : Nat → Nat → Int32} {u n : Nat} {t : Tx} (ht : TxR (A 0) u t) (hu : u < 2) (hn : A 0 (97 + u) = nI n) (hp : 0 < n) (hn2 : n ≤ 50) (a b c : Int32) (lv : Nat) : ∃ J B, Call M_X12_worked lv [.ref 123, .int (nI (119 + 50 * u)), .int (nI n), .int (nI u)] (mw w I (upA A 4 (upd (upd (upd (A 4) 0 a) 1 b) 2 c))) = some (some (.int (t.2 a b c)), mw w J B) ∧ Kp I A J B := by
  obtain ⟨n2, t1, t2, t3, t4⟩ := ht
  rw [hn] at t1
  have : n = n2 := (nI_eq (by omega) (by omega)).mp t1
  subst this
  obtain ⟨t5, t6, t7⟩ := t4 hp
  obtain ⟨v, J, w1, w2, w3, w4⟩ := m_worked (w := w) (I := I) (A := upA A 4 (upd (upd (upd (A 4) 0 a) 1 b) 2 c)) (bs := 119 + 50 * u) (n := n) (u := u) (a := a) (b := b) (c := c) (by omega) hn2 hu rfl rfl rfl lv
  have e : mBy (upA A 4 (upd (upd (upd (A 4) 0 a) 1 b) 2 c)) (119 + 50 * u) = fun k => A 0 (119 + 50 * u + k) := rfl
  rw [e] at w3
  obtain ⟨v1, v2⟩ := w3 ⟨t5, t6⟩
  refine ⟨J, upA A 4 (upd (upd (upd (A 4) 0 a) 1 b) 2 c), ?_, w2, fun j hj => if_neg hj⟩
  rw [w1, v1, t7]
theorem m_given0 {w : AH} {I : Nat → Int32} {A : Nat → Nat → Int32} {S : Co} (h : DR (A 0) S) (a b c : Int32) (lv : Nat) : ∃ J B, Call M_X12_textGives lv [.ref 123, .int 0, .int a, .int b, .int c] (mw w I A) = some (some (.int (nI (gv0 S a b c))), mw w J B) ∧ Kp I A J B := by
  obtain ⟨n, t1, t2, t3, t4⟩ := h.pat
  have e97 : A 0 97 = nI n := t1
  unfold gv0
  by_cases q : 0 < n
  · obtain ⟨J, B, w1, w2⟩ := m_names (w := w) (I := I) h.pat (by decide) t1 q t2 a b c 60
    refine ⟨J, B, ?_, w2⟩
    rw [t3, decide_eq_true q, if_pos rfl, ← fm7m]
    have q2 : (nI n ≤ (0 : Int32)) = False := by rw [show (0 : Int32) = nI 0 from rfl, le_nI (by omega) (by decide)]; apply eq_false; omega
    have w1 : Call M_X12_worked 60 [.ref 123, .int 119, .int (nI n), .int 0] (mw w I (upA A 4 (upd (upd (upd (A 4) 0 a) 1 b) 2 c))) = _ := w1
    simp (disch := omega) only [C_X12_textGives, R_X12_textGives_p0, R_X12_textGives_p1, SB, mw_o, mw_a, mo_g, mo_p, mo_pz, mw_so, mw_sa, upA_eq, upA_upA, upd_upd, if_true, if_false, not_true_eq_false, ls1s, show (97 : Int32) + 0 = 97 from rfl, aI_l, uI_l, e97, q2, show (50 : Int32) * 0 = 0 from by decide, show (119 : Int32) + 0 = 119 from by decide, show ((0 : Nat) = 4) = False from by simp, w1, show ((7 : Int32) = 0) = False from by decide]
    by_cases g : (0 : Int32) ≤ S.pat.2 a b c - S.pat.2 a b c / 7 * 7
    · simp only [g, if_true]
    · simp only [g, if_false]
  · refine ⟨I, A, ?_, Kp.refl _ _⟩
    rw [t3, decide_eq_false q, if_neg (by simp), ← fm7m]
    have q2 : (nI n ≤ (0 : Int32)) = True := by rw [show (0 : Int32) = nI 0 from rfl, le_nI (by omega) (by decide)]; apply eq_true; omega
    simp (disch := omega) only [C_X12_textGives, R_X12_textGives_p0, R_X12_textGives_p1, SB, mw_o, mw_a, mo_g, mo_p, mo_pz, mw_so, mw_sa, upA_eq, upA_upA, upd_upd, if_true, if_false, not_true_eq_false, ls1s, show (97 : Int32) + 0 = 97 from rfl, aI_l, e97, q2, show ((7 : Int32) = 0) = False from by decide]
    by_cases g : (0 : Int32) ≤ a + b - (a + b) / 7 * 7
    · simp only [g, if_true]
    · simp only [g, if_false]
theorem m_given1 {w : AH} {I : Nat → Int32} {A : Nat → Nat → Int32} {S : Co} (h : DR (A 0) S) (a b c : Int32) (lv : Nat) : ∃ J B, Call M_X12_textGives lv [.ref 123, .int 1, .int a, .int b, .int c] (mw w I A) = some (some (.int (nI (gv1 S a b c))), mw w J B) ∧ Kp I A J B := by
  obtain ⟨n, t1, t2, t3, t4⟩ := h.wor
  have e98 : A 0 98 = nI n := t1
  unfold gv1
  by_cases q : 0 < n
  · obtain ⟨J, B, w1, w2⟩ := m_names (w := w) (I := I) h.wor (by decide) t1 q t2 a b c 60
    refine ⟨J, B, ?_, w2⟩
    rw [t3, decide_eq_true q, if_pos rfl]
    have q2 : (nI n ≤ (0 : Int32)) = False := by rw [show (0 : Int32) = nI 0 from rfl, le_nI (by omega) (by decide)]; apply eq_false; omega
    have w1 : Call M_X12_worked 60 [.ref 123, .int 169, .int (nI n), .int 1] (mw w I (upA A 4 (upd (upd (upd (A 4) 0 a) 1 b) 2 c))) = _ := w1
    simp (disch := omega) only [C_X12_textGives, R_X12_textGives_p0, R_X12_textGives_p1, SB, mw_o, mw_a, mo_g, mo_p, mo_pz, mw_so, mw_sa, upA_eq, upA_upA, upd_upd, if_true, if_false, i10, not_false_eq_true, ls1s, show (97 : Int32) + 1 = 98 from by decide, aI_l, uI_l, e98, q2, show (50 : Int32) * 1 = 50 from by decide, show (119 : Int32) + 50 = 169 from by decide, show ((0 : Nat) = 4) = False from by simp, w1, show ((7 : Int32) = 0) = False from by decide, m_held]
  · refine ⟨I, A, ?_, Kp.refl _ _⟩
    rw [t3, decide_eq_false q, if_neg (by simp)]
    have q2 : (nI n ≤ (0 : Int32)) = True := by rw [show (0 : Int32) = nI 0 from rfl, le_nI (by omega) (by decide)]; apply eq_true; omega
    simp (disch := omega) only [C_X12_textGives, R_X12_textGives_p0, R_X12_textGives_p1, SB, mw_o, mw_a, mo_g, mo_p, mo_pz, mw_so, mw_sa, upA_eq, upA_upA, upd_upd, if_true, if_false, i10, not_false_eq_true, ls1s, show (97 : Int32) + 1 = 98 from by decide, aI_l, e98, q2, show ((7 : Int32) = 0) = False from by decide, m_held]
theorem m_patternOf {w : AH} {I : Nat → Int32} {A : Nat → Nat → Int32} {S : Co} (h : DR (A 0) S) {k : Nat} (hk : k < 36) (lv : Nat) : ∃ J B, Call M_X12_patternOf lv [.ref 123, .int (nI k)] (mw w I A) = some (some (.int (nI (ptN S k))), mw w J B) ∧ Kp I A J B := by
  obtain ⟨J, B, h1, h2⟩ := m_given0 (w := w) (I := I) h (nI (k / 6)) (nI (k % 6)) (nI S.day) 60
  refine ⟨J, B, ?_, h2⟩
  have d6 : nI k / 6 = nI (k / 6) := pk_div (show k < 2 ^ 31 by omega) (show 0 < 6 by decide) (show 6 < 2 ^ 31 by decide)
  have r6 : nI k - nI (k / 6) * 6 = nI (k % 6) := pk_rem2 (show k < 2 ^ 31 by omega) (show 0 < 6 by decide) (show 6 < 2 ^ 31 by decide)
  simp (disch := omega) only [C_X12_patternOf, R_X12_patternOf, SB, mw_o, mw_a, mo_g, mo_p, mo_pz, mw_so, mw_sa, upA_eq, upA_upA, upd_upd, show ((6 : Int32) = 0) = False from by simp, if_false, if_true, d6, r6, aI_l, h.day, h1, ptN]
theorem m_worthOf {w : AH} {I : Nat → Int32} {A : Nat → Nat → Int32} {S : Co} (h : DR (A 0) S) {k : Nat} (hk : k < 36) (lv : Nat) : ∃ J B, Call M_X12_worthOf lv [.ref 123, .int (nI k)] (mw w I A) = some (some (.int (nI (woN S k))), mw w J B) ∧ Kp I A J B := by
  obtain ⟨J, B, h1, h2⟩ := m_given1 (w := w) (I := I) h (nI (S.col k)) (nI (S.wear k)) (nI (k % 6)) 60
  refine ⟨J, B, ?_, h2⟩
  have r6 : nI k - nI k / 6 * 6 = nI (k % 6) := pk_rem (show k < 2 ^ 31 by omega) (show 0 < 6 by decide) (show 6 < 2 ^ 31 by decide)
  simp (disch := omega) only [C_X12_worthOf, R_X12_worthOf, SB, mw_o, mw_a, mo_g, mo_p, mo_pz, mw_so, mw_sa, upA_eq, upA_upA, upd_upd, show ((6 : Int32) = 0) = False from by simp, if_false, if_true, r6, lit_add, aI_a, h.col k hk, h.wear k hk, h1, woN]
