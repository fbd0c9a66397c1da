/-! ===== Roads: the model ===== -/
theorem bit_sh : ∀ c, c < 256 → ∀ x, x < 8 → nI c >>> (nI x &&& 31) &&& 1 = bI (c.testBit x) := by decide +kernel
theorem m_isOf {S : Co} {I : Nat → Int32} {A : Nat → Nat → Int32} (hD : DR (A 0) S) {k c : Nat} (hk : k < 36) (hc : c < 256) (w : AH) (lv : Nat) : Call M_X12_isOf lv [.ref 123, .int (nI k), .int (nI c)] (mw w I A) = some (some (.int (bI (c.testBit (S.col k)))), mw w I A) := by
  have b := bit_sh c hc (S.col k) (hD.rc k hk)
  simp (disch := omega) only [C_X12_isOf, R_X12_isOf, SB, mw_o, mw_a, mo_g, mo_p, mo_pz, mw_so, mw_sa, upA_eq, upA_upA, upd_upd, m_isKnot, m_isSheet, mi_1, mi_3, mi_5, mi_6, mi_7, mi_69, mi_99, mi_100, mi_255, m_f1, m_f2, m_f3, m_f4, m_f5, bI_e0, bI_n0, b_ft, bI_01, bI_t, bI_f, i10, i01, if_true, if_false, Bool.true_eq_false, Bool.false_eq_true, or_true, true_or, not_true_eq_false, not_false_eq_true, ls1s, lit_add, aI_a, hD.col k hk, b, bI_n1]
  cases c.testBit (S.col k) <;> simp [bI]
def farI (f : Nat) : Int32 := if f = 0 then -1 else nI (f - 1)
theorem farI_n {f : Nat} (h : f ≠ 0) : farI f = nI (f - 1) := if_neg h
theorem farI_s {f : Nat} (h : f ≠ 0) : farI f + 1 = farI (f + 1) := by
  rw [farI_n h, farI_n (by omega), nI_1]; congr 1; omega
theorem upA_78 (A : Nat → Nat → Int32) (P R S : Nat → Int32) : upA (upA (upA A 7 P) 8 R) 7 S = upA (upA A 7 S) 8 R := by
  funext j
  unfold upA
  by_cases q : j = 7
  · subst q; simp
  · by_cases q2 : j = 8
    · subst q2; simp
    · simp [q, q2]
theorem m_roadL {S : Co} {I : Nat → Int32} {A : Nat → Nat → Int32} (hD : DR (A 0) S) {fr to c op : Nat} (hf : fr < 36) (ht : to < 36) (hc : c < 256) (ho : ∀ k, k < 36 → op.testBit k = c.testBit (S.col k)) (w : AH) (lv : Nat) : ∀ u i m Q F (QA FA : Nat → Int32) o6 o7 o8 o9 o10, u + i = 146 → BJ op fr to i 0 m Q F → (∀ j, j < m → QA j = nI (Q j)) → (∀ q, q < 180 → FA q = farI (F q)) → ∃ QB FB, (∃ f y, Ex M_X12_road lv 110 [some (.ref 123), some (.int (nI fr)), some (.int (nI to)), some (.int (nI c)), some (.int (nI m)), some (.int (nI i)), o6, o7, o8, o9, o10] [] (mw w I (upA (upA A 7 QA) 8 FA)) = some (some (.int (nI f)), mw w I (upA (upA A 7 QB) 8 FB)) ∧ f ≤ 144 ∧ Wk op fr f to y ∧ ∀ g, g < f → ∀ y, ¬ Wk op fr g to y) ∨ (Ex M_X12_road lv 110 [some (.ref 123), some (.int (nI fr)), some (.int (nI to)), some (.int (nI c)), some (.int (nI m)), some (.int (nI i)), o6, o7, o8, o9, o10] [] (mw w I (upA (upA A 7 QA) 8 FA)) = some (some (.int (loI 2)), mw w I (erA (upA (upA A 7 QB) 8 FB) 2)) ∧ ∀ g y, ¬ Wk op fr g to y) := by
  intro u
  induction u with
  | zero =>
    intro i m Q F QA FA o6 o7 o8 o9 o10 hu h hQ hF
    have := h.m_le hf
    have := h.b
    omega
  | succ u ih =>
    intro i m Q F QA FA o6 o7 o8 o9 o10 hu h hQ hF
    have ml := h.m_le hf
    have hb := h.b
    by_cases q : i = m
    · subst q
      refine ⟨QA, FA, Or.inr ⟨?_, ?_⟩⟩
      · rw [H_X12_road_110]
        simp only [R_X12_road_p0, R_X12_road_p1, R_X12_road_p2, SB, mw_o, mw_a, mo_g, mo_p, mo_pz, mw_so, mw_sa, upA_eq, upA_upA, upd_upd, m_isKnot, m_isSheet, mi_1, mi_3, mi_5, mi_6, mi_7, mi_69, mi_99, mi_100, mi_255, m_f1, m_f2, m_f3, m_f4, m_f5, bI_e0, bI_n0, b_ft, bI_01, bI_t, bI_f, i10, i01, if_true, if_false, Bool.true_eq_false, Bool.false_eq_true, or_true, true_or, not_true_eq_false, not_false_eq_true, ls1s, show (nI i ≤ nI i) = True from by simp]
      · intro g y wk
        obtain ⟨r1, r2, r3, r4⟩ := h.reach hf (g + 2) (fun j hj _ => hj) g to y wk (by omega)
        obtain ⟨j, j1, j2⟩ := h.d _ (by omega) r3
        exact h.n j j1 (by rw [j2]; omega)
    · have im : i < m := by omega
      obtain ⟨c1, c2⟩ := h.c i im
      have gi := h.g i im
      have e1 : (nI m ≤ nI i) = False := by rw [le_nI (by omega) (by omega)]; apply eq_false; omega
      have d5 : nI (Q i) / 5 = nI (Q i / 5) := pk_div (show Q i < 2 ^ 31 by omega) (show 0 < 5 by decide) (show 5 < 2 ^ 31 by decide)
      have r5 : nI (Q i) - nI (Q i / 5) * 5 = nI (Q i % 5) := pk_rem2 (show Q i < 2 ^ 31 by omega) (show 0 < 5 by decide) (show 5 < 2 ^ 31 by decide)
      have et : (nI (Q i / 5) = nI to) = (Q i / 5 = to) := eq_nI (by omega) (by omega)
      have fi : FA (Q i) = nI (F (Q i) - 1) := by rw [hF _ c1, farI_n c2]
      by_cases t : Q i / 5 = to
      · refine ⟨QA, FA, Or.inl ⟨F (Q i) - 1, Q i % 5, ?_, by omega, ?_, ?_⟩⟩
        · rw [H_X12_road_110]
          simp (disch := omega) only [R_X12_road_p0, R_X12_road_p1, R_X12_road_p2, SB, mw_o, mw_a, mo_g, mo_p, mo_pz, mw_so, mw_sa, upA_eq, upA_upA, upd_upd, m_isKnot, m_isSheet, mi_1, mi_3, mi_5, mi_6, mi_7, mi_69, mi_99, mi_100, mi_255, m_f1, m_f2, m_f3, m_f4, m_f5, bI_e0, bI_n0, b_ft, bI_01, bI_t, bI_f, i10, i01, if_true, if_false, Bool.true_eq_false, Bool.false_eq_true, or_true, true_or, not_true_eq_false, not_false_eq_true, ls1s, e1, show ((7 : Nat) = 8) = False from by simp, aI_a, hQ i im, d5, r5, et, eq_true t, show ((5 : Int32) = 0) = False from by decide, fi]
        · have := h.h (Q i) c1 c2
          rw [t] at this
          exact this
        · intro g hg y wk
          obtain ⟨r1, r2, r3, r4⟩ := h.reach hf (F (Q i)) (fun j hj hlt => by
            apply Nat.lt_of_not_le
            intro x
            have := h.e i j x hj
            omega) g to y wk (by omega)
          obtain ⟨j, j1, j2⟩ := h.d _ (by omega) r3
          have ji : j < i := by
            apply Nat.lt_of_not_le
            intro x
            have := h.e i j x j1
            rw [j2] at this
            omega
          exact h.n j ji (by rw [j2]; omega)
      · -- the four sides
        obtain ⟨⟨⟨m2, Q2, F2⟩, ⟨QA2, FA2⟩, p9, p10⟩, a1, a2, a3, a4, a5, a6⟩ := loopE (fun y (s : (Nat × (Nat → Nat) × (Nat → Nat)) × ((Nat → Int32) × (Nat → Int32)) × Option Value × Option Value) => Ex M_X12_road lv 161 [some (.ref 123), some (.int (nI fr)), some (.int (nI to)), some (.int (nI c)), some (.int (nI s.1.1)), some (.int (nI i)), some (.int (nI (Q i / 5))), some (.int (nI (Q i % 5))), some (.int (nI y)), s.2.2.1, s.2.2.2] [] (mw w I (upA (upA A 7 s.2.1.1) 8 s.2.1.2))) (fun y s => BJ op fr to i y s.1.1 s.1.2.1 s.1.2.2 ∧ (∀ j, j < s.1.1 → s.2.1.1 j = nI (s.1.2.1 j)) ∧ (∀ q, q < 180 → s.2.1.2 q = farI (s.1.2.2 q)) ∧ i < s.1.1 ∧ s.1.2.1 i = Q i) 4 (by
          intro y s hy hI
          obtain ⟨⟨m, Q2, F⟩, ⟨QA, FA⟩, o9, o10⟩ := s
          obtain ⟨h, hQ, hF, im, qi⟩ : BJ op fr to i y m Q2 F ∧ (∀ j, j < m → QA j = nI (Q2 j)) ∧ (∀ q, q < 180 → FA q = farI (F q)) ∧ i < m ∧ Q2 i = Q i := hI
          have ml := h.m_le hf
          have c2 := (h.c i im).2
          rw [qi] at c2
          have fQ := h.g i im
          rw [qi] at fQ
          have qa : QA i = nI (Q i) := by rw [hQ i im, qi]
          have e4 : ((4 : Int32) ≤ nI y) = False := by rw [show (4 : Int32) = nI 4 from rfl, le_nI (by decide) (by omega)]; apply eq_false; omega
          have mb : ∀ A2, Call M_X12_beside 60 [.int (nI (Q i / 5)), .int (nI y)] (mw w I A2) = some (some (.int (nbI (Q i / 5) y)), mw w I A2) := fun A2 => m_beside (by omega) hy (mw w I A2) 60
          have el : (nI y = nI (Q i % 5)) = (y = Q i % 5) := eq_nI (by omega) (by omega)
          by_cases b : nbN (Q i / 5) y < 36
          · rw [show nbI (Q i / 5) y = nI (nbN (Q i / 5) y) from if_pos b] at mb
            have l0 : (nI (nbN (Q i / 5) y) < (0 : Int32)) = False := eq_false (nI_pos (by omega))
            have l1 : ((0 : Int32) ≤ nI (nbN (Q i / 5) y)) = True := by rw [show (0 : Int32) = nI 0 from rfl, le_nI (by decide) (by omega)]; apply eq_true; omega
            generalize hN : 5 * nbN (Q i / 5) y + y = N at *
            have io := m_isOf (I := I) (A := upA (upA A 7 QA) 8 FA) (show DR (upA (upA A 7 QA) 8 FA 0) S from hD) b hc w 60
            by_cases l : y = Q i % 5
            · refine ⟨⟨⟨m, Q2, F⟩, ⟨QA, FA⟩, some (.int (nI (nbN (Q i / 5) y))), some (.int (nI N))⟩, ?_, h.skip (fun _ x => by rw [qi] at x; exact absurd l x), hQ, hF, im, qi⟩
              rw [H_X12_road_161]
              simp (disch := omega) only [R_X12_road_p0, R_X12_road_p1, R_X12_road_p2, SB, mw_o, mw_a, mo_g, mo_p, mo_pz, mw_so, mw_sa, upA_eq, upA_upA, upd_upd, m_isKnot, m_isSheet, mi_1, mi_3, mi_5, mi_6, mi_7, mi_69, mi_99, mi_100, mi_255, m_f1, m_f2, m_f3, m_f4, m_f5, bI_e0, bI_n0, b_ft, bI_01, bI_t, bI_f, i10, i01, if_true, if_false, Bool.true_eq_false, Bool.false_eq_true, or_true, true_or, not_true_eq_false, not_false_eq_true, ls1s, e4, mb, l1, lit_mul, nI_add, hN, el, eq_true l, nI_1]
            · cases oo : c.testBit (S.col (nbN (Q i / 5) y)) with
              | false =>
                rw [oo] at io
                refine ⟨⟨⟨m, Q2, F⟩, ⟨QA, FA⟩, some (.int (nI (nbN (Q i / 5) y))), some (.int (nI N))⟩, ?_, h.skip (fun _ _ _ x => by rw [qi, ho _ b, oo] at x; cases x), hQ, hF, im, qi⟩
                rw [H_X12_road_161]
                simp (maxSteps := 600000) (disch := omega) only [R_X12_road_p0, R_X12_road_p1, R_X12_road_p2, SB, mw_o, mw_a, mo_g, mo_p, mo_pz, mw_so, mw_sa, upA_eq, upA_upA, upd_upd, m_isKnot, m_isSheet, mi_1, mi_3, mi_5, mi_6, mi_7, mi_69, mi_99, mi_100, mi_255, m_f1, m_f2, m_f3, m_f4, m_f5, bI_e0, bI_n0, b_ft, bI_01, bI_t, bI_f, i10, i01, if_true, if_false, Bool.true_eq_false, Bool.false_eq_true, or_true, true_or, not_true_eq_false, not_false_eq_true, ls1s, e4, mb, l0, l1, lit_mul, nI_add, hN, el, eq_false l, io, nI_1]
              | true =>
                rw [oo] at io
                have N180 : N < 180 := by omega
                by_cases z : F N = 0
                · have fn : ((0 : Int32) ≤ FA N) = False := by rw [hF N N180, z]; decide
                  have h2 := h.add im hy (by rw [qi]; exact l) (by rw [qi]; exact b) (by rw [qi, ho _ b]; exact oo) (by rw [qi, hN]; exact z)
                  rw [qi, hN] at h2
                  refine ⟨⟨⟨m + 1, updN Q2 m N, updN F N (F (Q i) + 1)⟩, ⟨upd QA m (nI N), upd FA N (farI (F (Q i) + 1))⟩, some (.int (nI (nbN (Q i / 5) y))), some (.int (nI N))⟩, ?_, h2, ?_, ?_, by show i < m + 1; omega, by show updN Q2 m N i = Q i; rw [updN_n _ _ (by omega)]; exact qi⟩
                  · have fs : FA (Q i) + 1 = farI (F (Q i) + 1) := by rw [hF _ c1]; exact farI_s c2
                    rw [H_X12_road_161]
                    simp (maxSteps := 300000) (disch := omega) only [R_X12_road_p0, R_X12_road_p1, R_X12_road_p2, SB, mw_o, mw_a, mo_g, mo_p, mo_pz, mw_so, mw_sa, upA_eq, upA_upA, upd_upd, m_isKnot, m_isSheet, mi_1, mi_3, mi_5, mi_6, mi_7, mi_69, mi_99, mi_100, mi_255, m_f1, m_f2, m_f3, m_f4, m_f5, bI_e0, bI_n0, b_ft, bI_01, bI_t, bI_f, i10, i01, if_true, if_false, Bool.true_eq_false, Bool.false_eq_true, or_true, true_or, not_true_eq_false, not_false_eq_true, ls1s, e4, mb, l0, l1, lit_mul, nI_add, hN, el, eq_false l, io, show ((7 : Nat) = 8) = False from by simp, show ((8 : Nat) = 7) = False from by simp, aI_a, fn, qa, fs, uI_0, nI_1]
                    rw [upA_78]
                  · intro j hj
                    have hj : j < m + 1 := hj
                    show upd QA m (nI N) j = nI (updN Q2 m N j)
                    by_cases x : j = m
                    · rw [x, upd_s, updN_s]
                    · rw [upd_n x, updN_n _ _ x]; exact hQ j (by omega)
                  · intro q hq
                    show upd FA N (farI (F (Q i) + 1)) q = farI (updN F N (F (Q i) + 1) q)
                    by_cases x : q = N
                    · rw [x, upd_s, updN_s]
                    · rw [upd_n x, updN_n _ _ x]; exact hF q hq
                · have fn : ((0 : Int32) ≤ FA N) = True := by rw [hF N N180, farI_n z, show (0 : Int32) = nI 0 from rfl, le_nI (by decide) (by obtain ⟨j, j1, j2⟩ := h.d N N180 z; have := h.g j j1; rw [j2] at this; omega)]; apply eq_true; omega
                  refine ⟨⟨⟨m, Q2, F⟩, ⟨QA, FA⟩, some (.int (nI (nbN (Q i / 5) y))), some (.int (nI N))⟩, ?_, h.skip (fun _ _ _ _ => by
                    rw [qi, hN]
                    obtain ⟨j, j1, j2⟩ := h.d N N180 z
                    have := h.f im j j1
                    rw [j2, qi] at this
                    exact ⟨z, this⟩), hQ, hF, im, qi⟩
                  rw [H_X12_road_161]
                  simp (disch := omega) only [R_X12_road_p0, R_X12_road_p1, R_X12_road_p2, SB, mw_o, mw_a, mo_g, mo_p, mo_pz, mw_so, mw_sa, upA_eq, upA_upA, upd_upd, m_isKnot, m_isSheet, mi_1, mi_3, mi_5, mi_6, mi_7, mi_69, mi_99, mi_100, mi_255, m_f1, m_f2, m_f3, m_f4, m_f5, bI_e0, bI_n0, b_ft, bI_01, bI_t, bI_f, i10, i01, if_true, if_false, Bool.true_eq_false, Bool.false_eq_true, or_true, true_or, not_true_eq_false, not_false_eq_true, ls1s, e4, mb, l0, l1, lit_mul, nI_add, hN, el, eq_false l, io, show ((7 : Nat) = 8) = False from by simp, show ((8 : Nat) = 7) = False from by simp, aI_a, fn, nI_1]
          · rw [show nbI (Q i / 5) y = -1 from if_neg b] at mb
            refine ⟨⟨⟨m, Q2, F⟩, ⟨QA, FA⟩, some (.int (-1)), some (.int (nI (0 + y)))⟩, ?_, h.skip (fun _ _ x => by rw [qi] at x; exact absurd x b), hQ, hF, im, qi⟩
            have l0 : ((-1 : Int32) < (0 : Int32)) = True := by decide
            have l1 : ((0 : Int32) ≤ (-1 : Int32)) = False := by decide
            generalize (-1 : Int32) = mm at mb l0 l1
            have z5 : (5 : Int32) * 0 = 0 := by decide
            rw [H_X12_road_161]
            by_cases l : y = Q i % 5
            · simp (disch := omega) only [R_X12_road_p0, R_X12_road_p1, R_X12_road_p2, SB, mw_o, mw_a, mo_g, mo_p, mo_pz, mw_so, mw_sa, upA_eq, upA_upA, upd_upd, m_isKnot, m_isSheet, mi_1, mi_3, mi_5, mi_6, mi_7, mi_69, mi_99, mi_100, mi_255, m_f1, m_f2, m_f3, m_f4, m_f5, bI_e0, bI_n0, b_ft, bI_01, bI_t, bI_f, i10, i01, if_true, if_false, Bool.true_eq_false, Bool.false_eq_true, or_true, true_or, not_true_eq_false, not_false_eq_true, ls1s, e4, mb, l1, z5, lit_add, el, eq_true l, nI_1]
            · simp (disch := omega) only [R_X12_road_p0, R_X12_road_p1, R_X12_road_p2, SB, mw_o, mw_a, mo_g, mo_p, mo_pz, mw_so, mw_sa, upA_eq, upA_upA, upd_upd, m_isKnot, m_isSheet, mi_1, mi_3, mi_5, mi_6, mi_7, mi_69, mi_99, mi_100, mi_255, m_f1, m_f2, m_f3, m_f4, m_f5, bI_e0, bI_n0, b_ft, bI_01, bI_t, bI_f, i10, i01, if_true, if_false, Bool.true_eq_false, Bool.false_eq_true, or_true, true_or, not_true_eq_false, not_false_eq_true, ls1s, e4, mb, l0, l1, z5, lit_add, el, eq_false l, nI_1]) ⟨⟨m, Q, F⟩, ⟨QA, FA⟩, o9, o10⟩ ⟨h, hQ, hF, im, rfl⟩
        have a2 : BJ op fr to i 4 m2 Q2 F2 := a2
        have a5 : i < m2 := a5
        have a6 : Q2 i = Q i := a6
        have step : Ex M_X12_road lv 110 [some (.ref 123), some (.int (nI fr)), some (.int (nI to)), some (.int (nI c)), some (.int (nI m)), some (.int (nI i)), o6, o7, o8, o9, o10] [] (mw w I (upA (upA A 7 QA) 8 FA)) = Ex M_X12_road lv 110 [some (.ref 123), some (.int (nI fr)), some (.int (nI to)), some (.int (nI c)), some (.int (nI m2)), some (.int (nI (i + 1))), some (.int (nI (Q i / 5))), some (.int (nI (Q i % 5))), some (.int (nI 4)), p9, p10] [] (mw w I (upA (upA A 7 QA2) 8 FA2)) := by
          rw [H_X12_road_110]
          simp (disch := omega) only [R_X12_road_p0, R_X12_road_p1, R_X12_road_p2, SB, mw_o, mw_a, mo_g, mo_p, mo_pz, mw_so, mw_sa, upA_eq, upA_upA, upd_upd, m_isKnot, m_isSheet, mi_1, mi_3, mi_5, mi_6, mi_7, mi_69, mi_99, mi_100, mi_255, m_f1, m_f2, m_f3, m_f4, m_f5, bI_e0, bI_n0, b_ft, bI_01, bI_t, bI_f, i10, i01, if_true, if_false, Bool.true_eq_false, Bool.false_eq_true, or_true, true_or, not_true_eq_false, not_false_eq_true, ls1s, e1, show ((7 : Nat) = 8) = False from by simp, aI_a, hQ i im, d5, r5, et, eq_false t, show ((5 : Int32) = 0) = False from by decide]
          refine (show _ = _ from rfl).trans (a1.trans ?_)
          rw [H_X12_road_161]
          simp (disch := omega) only [R_X12_road_p0, R_X12_road_p1, R_X12_road_p2, SB, show ((4 : Int32) ≤ nI 4) = True from by rw [show (4 : Int32) = nI 4 from rfl]; simp, if_true, ls1s, nI_1]
        rw [step]
        exact ih (i + 1) m2 Q2 F2 QA2 FA2 _ _ _ _ _ (by omega) (a2.next a5 (by rw [a6]; exact t)) a3 a4
