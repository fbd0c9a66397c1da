/-! ===== loops; the model's spreading ===== -/
theorem loopE {σ R : Type} (E : Nat → σ → R) (I : Nat → σ → Prop) (N : Nat) (h : ∀ k s, k < N → I k s → ∃ s2, E k s = E (k + 1) s2 ∧ I (k + 1) s2) (s : σ) (hs0 : I 0 s) : ∃ s2, E 0 s = E N s2 ∧ I N s2 := by
  have key : ∀ n, n ≤ N → ∃ s2, E 0 s = E n s2 ∧ I n s2 := by
    intro n
    induction n with
    | zero => intro _; exact ⟨s, rfl, hs0⟩
    | succ n ih =>
      intro hn
      obtain ⟨s1, a1, a2⟩ := ih (by omega)
      obtain ⟨s2, b1, b2⟩ := h n s1 (by omega) a2
      exact ⟨s2, a1.trans b1, b2⟩
  exact key N (Nat.le_refl _)
theorem loopW {σ R : Type} (E : σ → R) (I D : σ → Prop) (μ : σ → Nat) (h : ∀ s, I s → D s ∨ ∃ s2, E s = E s2 ∧ I s2 ∧ μ s2 < μ s) (s : σ) (hs0 : I s) : ∃ s2, E s = E s2 ∧ I s2 ∧ D s2 := by
  have key : ∀ n s, μ s < n → I s → ∃ s2, E s = E s2 ∧ I s2 ∧ D s2 := by
    intro n
    induction n with
    | zero => intro s hn; exact absurd hn (by omega)
    | succ n ih =>
      intro s hn hI
      rcases h s hI with hd | ⟨s2, a1, a2, a3⟩
      · exact ⟨s, rfl, hI, hd⟩
      · obtain ⟨s3, b1, b2, b3⟩ := ih s2 (by omega) a2
        exact ⟨s3, a1.trans b1, b2, b3⟩
  exact key (μ s + 1) s (by omega) hs0
theorem uB_21 {n : Nat} {f : Nat → Int32} {k : Nat} (h : k < n) (hn : n ≤ 2147483648) : uB (.inl (2, n, .inl f)) (nI k) 1 = some (.inl (2, n, .inl (upd f k 1))) := uB_2 h hn (Or.inr rfl)
theorem uB_20 {n : Nat} {f : Nat → Int32} {k : Nat} (h : k < n) (hn : n ≤ 2147483648) : uB (.inl (2, n, .inl f)) (nI k) 0 = some (.inl (2, n, .inl (upd f k 0))) := uB_2 h hn (Or.inl rfl)
theorem upA65 (A : Nat → Nat → Int32) (R F R2 : Nat → Int32) : upA (upA (upA A 5 R) 6 F) 5 R2 = upA (upA A 5 R2) 6 F := by
  funext i; unfold upA
  by_cases h5 : i = 5
  · subst h5; simp
  · simp [h5]
def uB1 (P : Nat → Bool) (n : Nat) : Nat → Bool := fun k => if k = n then true else P k
theorem cnt_u (P : Nat → Bool) (n : Nat) (hP : P n = false) : ∀ N, cnt (uB1 P n) N = cnt P N + (if n < N then 1 else 0) := by
  intro N
  induction N with
  | zero => rfl
  | succ N ih =>
    unfold cnt
    rw [ih]
    by_cases q : N = n
    · subst q
      rw [show uB1 P N N = true from by simp [uB1], hP]
      simp
    · rw [show uB1 P n N = P N from by simp [uB1, q]]
      by_cases q2 : n < N
      · rw [if_pos q2, if_pos (show n < N + 1 by omega)]; omega
      · rw [if_neg q2, if_neg (show ¬ n < N + 1 by omega), Nat.add_zero, Nat.add_zero]
theorem uB1_t {P : Nat → Bool} {n k : Nat} (h : P k = true) : uB1 P n k = true := by
  unfold uB1
  split
  · rfl
  · exact h
theorem nb_opp : ∀ k, k < 36 → ∀ y, y < 4 → nbN k y < 36 → nbN (nbN k y) (opp y) = k ∧ opp y < 4 := by decide +kernel
def SpI (col : Nat → Nat) (knot : Nat) (P : Nat → Bool) (r : Nat → Nat) (m : Nat) : Prop := m = cnt P 36 ∧ (∀ i, i < m → r i < 36 ∧ P (r i) = true) ∧ (∀ k, k < 36 → P k = true → (land col knot).testBit k = true ∧ ∃ i, i < m ∧ r i = k) ∧ P knot = true ∧ 0 < m
def SpK (col : Nat → Nat) (knot : Nat) (P : Nat → Bool) (k z : Nat) : Prop := nbN k z < 36 → col (nbN k z) = col knot → P (nbN k z) = true
theorem SpI.le {col : Nat → Nat} {knot : Nat} {P : Nat → Bool} {r : Nat → Nat} {m : Nat} (h : SpI col knot P r m) : m ≤ 36 := by
  rw [h.1]; exact cnt_le _ _
theorem SpI.add {col : Nat → Nat} {knot : Nat} (hk : knot < 36) {P : Nat → Bool} {r : Nat → Nat} {m t y : Nat} (h : SpI col knot P r m) (ht : t < m) (hy : y < 4) (hn : nbN (r t) y < 36) (hP : P (nbN (r t) y) = false) (hc : col (nbN (r t) y) = col knot) : SpI col knot (uB1 P (nbN (r t) y)) (updN r m (nbN (r t) y)) (m + 1) ∧ m < 36 := by
  obtain ⟨h1, h2, h3, h4, h5⟩ := h
  have e := cnt_u P (nbN (r t) y) hP 36
  rw [if_pos hn, ← h1] at e
  have le := cnt_le (uB1 P (nbN (r t) y)) 36
  refine ⟨⟨e.symm, ?_, ?_, ?_, by omega⟩, by omega⟩
  · intro i hi
    by_cases q : i = m
    · rw [q, updN_s]; exact ⟨hn, by simp [uB1]⟩
    · rw [updN_n _ _ q]
      obtain ⟨a, b⟩ := h2 i (by omega)
      exact ⟨a, uB1_t b⟩
  · intro k hk2 hu
    by_cases q : k = nbN (r t) y
    · subst q
      refine ⟨?_, m, by omega, updN_s _ _ _⟩
      obtain ⟨a, b⟩ := h2 t ht
      obtain ⟨c1, c2, c3, c4, c5⟩ := gro_all (two_lt hk) (csN_lt col (col knot))
      obtain ⟨o1, o2⟩ := nb_opp _ a y hy hn
      refine c4 _ hn ?_ ⟨opp y, o2, by rw [o1]; exact a, by rw [o1]; exact (h3 _ a b).1⟩
      rw [csN_b, hc]; simp [hn]
    · have hu : P k = true := by unfold uB1 at hu; rw [if_neg q] at hu; exact hu
      obtain ⟨a, i, b, c⟩ := h3 k hk2 hu
      exact ⟨a, i, by omega, by rw [updN_n _ _ (by omega)]; exact c⟩
  · exact uB1_t h4
theorem SpK.mono {col : Nat → Nat} {knot : Nat} {P : Nat → Bool} {k z n : Nat} (h : SpK col knot P k z) : SpK col knot (uB1 P n) k z := fun a b => uB1_t (h a b)
theorem SpI.all {col : Nat → Nat} {knot : Nat} (hk : knot < 36) {P : Nat → Bool} {r : Nat → Nat} {m : Nat} (h : SpI col knot P r m) (hc : ∀ i, i < m → ∀ z, z < 4 → SpK col knot P (r i) z) : ∀ k, k < 36 → P k = (land col knot).testBit k := by
  obtain ⟨h1, h2, h3, h4, h5⟩ := h
  obtain ⟨c1, c2, c3, c4, c5⟩ := gro_all (two_lt hk) (csN_lt col (col knot))
  intro k hk2
  apply Bool.eq_iff_iff.mpr
  constructor
  · intro q; exact (h3 k hk2 q).1
  · intro q
    have xb : ∀ j, j < 36 → ((csN (fun k => if P k = true then 1 else 0) 1).testBit j = true ↔ P j = true) := by
      intro j hj
      rw [csN_b]
      simp [hj]
    refine (xb k hk2).mp (c5 _ ?_ ?_ k hk2 q)
    · intro j hj hw ⟨way, w1, w2, w3⟩
      rw [xb _ w2] at w3
      rw [xb j hj]
      obtain ⟨-, i, i1, i2⟩ := h3 _ w2 w3
      obtain ⟨o1, o2⟩ := nb_opp j hj way w1 w2
      have := hc i i1 (opp way) o2
      unfold SpK at this
      rw [i2, o1] at this
      rw [csN_b] at hw
      simp [hj] at hw
      exact this hj hw
    · intro j hj t1 t2
      rw [xb j hj]
      rw [Nat.testBit_two_pow] at t1
      have : knot = j := by simpa using t1
      rw [← this]; exact h4
/-- what the model's spreading leaves: the land's marks F, its row R of m knots -/
def SpO (col : Nat → Nat) (knot : Nat) (F R : Nat → Int32) (r : Nat → Nat) (m : Nat) : Prop := m = cnt (fun k => (land col knot).testBit k) 36 ∧ (∀ k, k < 36 → F k = bI ((land col knot).testBit k)) ∧ (∀ i, i < m → R i = nI (r i) ∧ r i < 36 ∧ (land col knot).testBit (r i) = true) ∧ (∀ k, k < 36 → (land col knot).testBit k = true → ∃ i, i < m ∧ r i = k)
abbrev SpS : Type := ((Nat → Bool) × (Nat → Nat) × Nat) × ((Nat → Int32) × (Nat → Int32)) × (Nat × Option Value × Option Value)
def SpJ (col : Nat → Nat) (knot : Nat) (s : SpS) : Prop := SpI col knot s.1.1 s.1.2.1 s.1.2.2 ∧ (∀ k, k < 36 → s.2.1.1 k = bI (s.1.1 k)) ∧ (∀ i, i < s.1.2.2 → s.2.1.2 i = nI (s.1.2.1 i))
theorem m_spreads {S : Co} {I : Nat → Int32} {A : Nat → Nat → Int32} (h : DR (A 0) S) {knot : Nat} (hk : knot < 36) (w : AH) (lv : Nat) : ∃ F R r m, Call M_X12_spreads lv [.ref 123, .int (nI knot)] (mw w I A) = some (none, mw w (upd I 13 (nI m)) (upA (upA A 5 R) 6 F)) ∧ SpO S.col knot F R r m := by
  have hck := h.rc knot hk
  obtain ⟨F0, a1, a2⟩ := loopE (fun k F => Ex M_X12_spreads lv 2 [some (.ref 123), some (.int (nI knot)), some (.int (nI k)), none, none] [] (mw w I (upA A 6 F))) (fun k F => ∀ j, j < k → F j = 0) 36 (by
    intro k F hk2 hI
    have e1 : ((36 : Int32) ≤ nI k) = False := by rw [show (36 : Int32) = nI 36 from rfl, le_nI (by decide) (by omega)]; simp; omega
    refine ⟨upd F k 0, ?_, ?_⟩
    · rw [H_X12_spreads_2]
      simp (disch := omega) only [R_X12_spreads_p0, SB, mw_o, mw_a, mo_g, mo_p, mo_pz, mw_so, mw_sa, upA_eq, upA_upA, upd_upd, e1, if_false, if_true, ls1s, nI_1, uB_20]
    · intro j hj
      unfold upd
      by_cases q : j = k
      · rw [if_pos q]
      · rw [if_neg q]; exact hI j (by omega)) (A 6) (fun j hj => absurd hj (by omega))
  -- the outer loop
  have hb : ∀ k, k < 36 → ∀ y, y < 4 → Call M_X12_beside 60 [.int (nI k), .int (nI y)] = fun w => some (some (.int (nbI k y)), w) := fun k hk y hy => funext (fun w => m_beside hk hy w 60)
  obtain ⟨s1, b1, ⟨b2, b4, b5⟩, b3⟩ := loopW (fun (s : SpS) => Ex M_X12_spreads lv 42 [some (.ref 123), some (.int (nI knot)), some (.int (nI s.2.2.1)), s.2.2.2.1, s.2.2.2.2] [] (mw w (upd I 13 (nI s.1.2.2)) (upA (upA A 5 s.2.1.2) 6 s.2.1.1)))
    (fun s => SpJ S.col knot s ∧ s.2.2.1 ≤ s.1.2.2 ∧ ∀ i, i < s.2.2.1 → ∀ z, z < 4 → SpK S.col knot s.1.1 (s.1.2.1 i) z) (fun s => s.2.2.1 = s.1.2.2) (fun s => 36 - s.2.2.1) (by
    intro s ⟨j1, j2, j3⟩
    by_cases hd : s.2.2.1 = s.1.2.2
    · exact Or.inl hd
    · right
      obtain ⟨⟨P, r, m⟩, ⟨F, R⟩, t, o3, o4⟩ := s
      have ht : t < m := by have : t ≤ m := j2; have : ¬ t = m := hd; omega
      have hm := j1.1.le
      have hm : m ≤ 36 := hm
      -- the inner loop
      obtain ⟨⟨⟨P1, r1, m1⟩, ⟨F1, R1⟩, t1, q3, q4⟩, c1, c2, c3, c4, c5, c6, c7⟩ := loopE (fun y (s : SpS) => Ex M_X12_spreads lv 52 [some (.ref 123), some (.int (nI knot)), some (.int (nI t)), some (.int (nI y)), s.2.2.2.2] [] (mw w (upd I 13 (nI s.1.2.2)) (upA (upA A 5 s.2.1.2) 6 s.2.1.1)))
        (fun y s => SpJ S.col knot s ∧ s.2.2.1 = t ∧ t < s.1.2.2 ∧ (∀ i, i < t → ∀ z, z < 4 → SpK S.col knot s.1.1 (s.1.2.1 i) z) ∧ (∀ z, z < y → SpK S.col knot s.1.1 (s.1.2.1 t) z) ∧ s.2.2.2.1 = none) 4 (by
        intro y s hy hI
        obtain ⟨⟨P, r, m⟩, ⟨F, R⟩, t', o3, o4⟩ := s
        obtain ⟨⟨i1, i2, i3⟩, rfl, i5, i6, i7, i8⟩ := hI
        have i1 : SpI S.col knot P r m := i1
        have hm : m ≤ 36 := i1.le
        have i2 : ∀ k, k < 36 → F k = bI (P k) := i2
        have i3 : ∀ i, i < m → R i = nI (r i) := i3
        have i5 : t' < m := i5
        obtain ⟨rt, pt⟩ := i1.2.1 t' i5
        have e1 : ((4 : Int32) ≤ nI y) = False := by rw [show (4 : Int32) = nI 4 from rfl, le_nI (by decide) (by omega)]; simp; omega
        have e3 := i3 t' i5
        by_cases g1 : nbN (r t') y < 36
        · have z1 : ¬ nbN (r t') y < 0 := by omega
          have e4 := i2 _ g1
          have hcn := h.rc _ g1
          cases g2 : P (nbN (r t') y) with
          | true =>
            rw [g2] at e4
            refine ⟨((P, r, m), (F, R), t', none, some (.int (nI (nbN (r t') y)))), ?_, ⟨i1, i2, i3⟩, rfl, i5, i6, ?_, rfl⟩
            · rw [H_X12_spreads_52]
              simp (disch := omega) only [R_X12_spreads_p0, R_X12_spreads_p1, SB, mw_o, mw_a, mo_g, mo_p, mo_pz, mw_so, mw_sa, upA_eq, upA_upA, upd_upd, lit_le, le_lit, lit_lt, lt_lit, eq_lit, le_nI, lt_nI, eq_nI, lit_add, add_lit, nI_add, lit_sub, sub_lit, sub_nI, lit_mul, mul_lit, pk_mul, div_lit, nI_c, aI_a, aI_l, uI_0, uI_l, aB_2, uB_2, bI_e0, bI_e1, bI_n0, bI_n1, bI_01, b_ft, i10, i01, bI_t, bI_f, if_true, if_false, dec_t, dec_f, Bool.true_eq_false, Bool.false_eq_true, or_true, true_or, not_true_eq_false, not_false_eq_true, e1, ls1s, e3, m_beside rt hy, nbI_y g1, z1, Nat.zero_le, e4, show ((6 : Nat) = 5) = False from by simp, show ((5 : Nat) = 6) = False from by simp, show ((0 : Nat) = 5) = False from by simp, show ((0 : Nat) = 6) = False from by simp]
            · intro z hz
              by_cases q : z = y
              · subst q; exact fun _ _ => g2
              · exact i7 z (by omega)
          | false =>
            rw [g2] at e4
            by_cases g3 : S.col (nbN (r t') y) = S.col knot
            · obtain ⟨n1, n2⟩ := i1.add hk i5 hy g1 g2 g3
              refine ⟨((uB1 P (nbN (r t') y), updN r m (nbN (r t') y), m + 1), (upd F (nbN (r t') y) 1, upd R m (nI (nbN (r t') y))), t', none, some (.int (nI (nbN (r t') y)))), ?_, ⟨n1, ?_, ?_⟩, rfl, by show t' < m + 1; omega, ?_, ?_, rfl⟩
              · rw [H_X12_spreads_52]
                simp (disch := omega) only [R_X12_spreads_p0, R_X12_spreads_p1, SB, mw_o, mw_a, mo_g, mo_p, mo_pz, mw_so, mw_sa, upA_eq, upA_upA, upd_upd, lit_le, le_lit, lit_lt, lt_lit, eq_lit, le_nI, lt_nI, eq_nI, lit_add, add_lit, nI_add, lit_sub, sub_lit, sub_nI, lit_mul, mul_lit, pk_mul, div_lit, nI_c, aI_a, aI_l, uI_0, uI_l, aB_2, uB_2, bI_e0, bI_e1, bI_n0, bI_n1, bI_01, b_ft, i10, i01, bI_t, bI_f, if_true, if_false, dec_t, dec_f, Bool.true_eq_false, Bool.false_eq_true, or_true, true_or, not_true_eq_false, not_false_eq_true, e1, ls1s, e3, m_beside rt hy, nbI_y g1, z1, Nat.zero_le, e4, h.col _ g1, h.col _ hk, g3, uB_21, upA65, upd_s, show ((6 : Nat) = 5) = False from by simp, show ((5 : Nat) = 6) = False from by simp, show ((0 : Nat) = 5) = False from by simp, show ((0 : Nat) = 6) = False from by simp]
              · intro k hk2
                show upd F (nbN (r t') y) 1 k = bI (uB1 P (nbN (r t') y) k)
                unfold upd uB1
                by_cases q : k = nbN (r t') y
                · rw [if_pos q, if_pos q]; rfl
                · rw [if_neg q, if_neg q]; exact i2 k hk2
              · intro i hi
                show upd R m (nI (nbN (r t') y)) i = nI (updN r m (nbN (r t') y) i)
                by_cases q : i = m
                · rw [q, upd_s, updN_s]
                · rw [upd_n q, updN_n _ _ q]; exact i3 i (by have : i < m + 1 := hi; omega)
              · intro i hi z hz
                have hi : i < t' := hi
                show SpK _ _ _ (updN r m (nbN (r t') y) i) z
                rw [updN_n _ _ (by omega)]
                exact (i6 i hi z hz).mono
              · intro z hz
                show SpK _ _ _ (updN r m (nbN (r t') y) t') z
                rw [updN_n _ _ (by omega)]
                by_cases q : z = y
                · subst q; exact fun _ _ => by simp [uB1]
                · exact (i7 z (by omega)).mono
            · refine ⟨((P, r, m), (F, R), t', none, some (.int (nI (nbN (r t') y)))), ?_, ⟨i1, i2, i3⟩, rfl, i5, i6, ?_, rfl⟩
              · rw [H_X12_spreads_52]
                simp (disch := omega) only [R_X12_spreads_p0, R_X12_spreads_p1, SB, mw_o, mw_a, mo_g, mo_p, mo_pz, mw_so, mw_sa, upA_eq, upA_upA, upd_upd, lit_le, le_lit, lit_lt, lt_lit, eq_lit, le_nI, lt_nI, eq_nI, lit_add, add_lit, nI_add, lit_sub, sub_lit, sub_nI, lit_mul, mul_lit, pk_mul, div_lit, nI_c, aI_a, aI_l, uI_0, uI_l, aB_2, uB_2, bI_e0, bI_e1, bI_n0, bI_n1, bI_01, b_ft, i10, i01, bI_t, bI_f, if_true, if_false, dec_t, dec_f, Bool.true_eq_false, Bool.false_eq_true, or_true, true_or, not_true_eq_false, not_false_eq_true, e1, ls1s, e3, m_beside rt hy, nbI_y g1, z1, Nat.zero_le, e4, h.col _ g1, h.col _ hk, g3, show ((6 : Nat) = 5) = False from by simp, show ((5 : Nat) = 6) = False from by simp, show ((0 : Nat) = 5) = False from by simp, show ((0 : Nat) = 6) = False from by simp]
              · intro z hz
                by_cases q : z = y
                · subst q; exact fun _ c => absurd c g3
                · exact i7 z (by omega)
        · refine ⟨((P, r, m), (F, R), t', none, some (.int (-1))), ?_, ⟨i1, i2, i3⟩, rfl, i5, i6, ?_, rfl⟩
          · rw [H_X12_spreads_52]
            have b0 := m_beside rt hy (mw w (upd I 13 (nI m)) (upA (upA A 5 R) 6 F)) 60
            rw [nbI_n g1] at b0
            have e5 : aI (.inl (0, 36, .inl R)) (nI t') = some (nI (r t')) := by rw [aI_a (by omega) (by decide), e3]
            have e6 : ((-1 : Int32) < 0) = True := by decide
            generalize (-1 : Int32) = mm at b0 e6 ⊢
            simp only [R_X12_spreads_p0, SB, mw_o, mw_a, mo_g, mo_p, mo_pz, mw_so, mw_sa, upA_eq, upA_upA, upd_upd, e1, if_false, if_true, e5, b0, ls1s, e6, show ((6 : Nat) = 5) = False from by simp, show ((5 : Nat) = 6) = False from by simp]
            simp only [R_X12_spreads_p1, SB, ls1s, nI_1]
          · intro z hz
            by_cases q : z = y
            · subst q; exact fun a _ => absurd a g1
            · exact i7 z (by omega)) ((P, r, m), (F, R), t, none, o4) ⟨j1, rfl, ht, j3, fun z hz => absurd hz (by omega), rfl⟩
      have c2 : SpI S.col knot P1 r1 m1 ∧ _ := c2
      have hm1 : m1 ≤ 36 := c2.1.le
      have c4 : t < m1 := c4
      refine ⟨((P1, r1, m1), (F1, R1), t + 1, some (.int (nI 4)), q4), ?_, ⟨c2, by show t + 1 ≤ m1; omega, ?_⟩, by show 36 - (t + 1) < 36 - t; omega⟩
      · have e1 : (nI m ≤ nI t) = False := by rw [le_nI (by omega) (by omega)]; simp; omega
        have e2 : ((4 : Int32) ≤ nI 4) = True := by rw [show (4 : Int32) = nI 4 from rfl]; simp
        rw [H_X12_spreads_42]
        simp (disch := omega) only [R_X12_spreads_p0, SB, mw_o, mw_a, mo_g, mo_p, mo_pz, mw_so, mw_sa, upA_eq, upA_upA, upd_upd, upd_s, e1, if_false, if_true, ls1s]
        refine (show _ = _ from rfl).trans (c1.trans ?_)
        rw [H_X12_spreads_52]
        simp (disch := omega) only [R_X12_spreads_p0, R_X12_spreads_p1, SB, e2, if_true, ls1s, nI_1]
      · intro i hi z hz
        by_cases q : i = t
        · subst q; exact c6 z hz
        · exact c5 i (by have : i < t + 1 := hi; omega) z hz) ((uB1 (fun _ => false) knot, fun _ => knot, 1), (upd F0 knot 1, upd (A 5) 0 (nI knot)), 0, none, none) (by
    have lk : (land S.col knot).testBit knot = true := by
      obtain ⟨c1, c2, c3, c4, c5⟩ := gro_all (two_lt hk) (csN_lt S.col (S.col knot))
      exact c3 knot hk (by rw [Nat.testBit_two_pow]; simp) (by rw [csN_b]; simp [hk])
    refine ⟨⟨⟨?_, ?_, ?_, by simp [uB1], Nat.zero_lt_one⟩, ?_, ?_⟩, Nat.zero_le _, fun i hi => absurd hi (by show ¬ i < 0; omega)⟩
    · have := cnt_u (fun _ => false) knot rfl 36
      rw [cnt_false, if_pos hk] at this
      exact this.symm
    · intro i _; exact ⟨hk, by simp [uB1]⟩
    · intro k hk2 hu
      have : k = knot := by
        apply Classical.byContradiction
        intro q
        have hu : (if k = knot then true else false) = true := hu
        rw [if_neg q] at hu; cases hu
      subst this
      exact ⟨lk, 0, Nat.zero_lt_one, rfl⟩
    · intro k hk2
      show upd F0 knot 1 k = bI (uB1 (fun _ => false) knot k)
      unfold upd uB1
      by_cases q : k = knot
      · rw [if_pos q, if_pos q]; rfl
      · rw [if_neg q, if_neg q]; exact a2 k hk2
    · intro i hi
      have : i = 0 := by have : i < 1 := hi; omega
      rw [this]
      show upd (A 5) 0 (nI knot) 0 = nI knot
      exact upd_s _ _ _)
  obtain ⟨⟨P, r, m⟩, ⟨F, R⟩, t, o3, o4⟩ := s1
  have b3 : t = m := b3
  subst b3
  have al := b2.1.all hk b5
  have b1 := b1
  refine ⟨F, R, r, t, ?_, ?_, ?_, ?_, ?_⟩
  · have e2 : ((36 : Int32) ≤ nI 36) = True := by rw [show (36 : Int32) = nI 36 from rfl]; simp
    have e3 := b2.1.le
    have e3 : t ≤ 36 := e3
    simp (disch := omega) only [C_X12_spreads, R_X12_spreads_p0, SB, ls1s, show (0 : Int32) = nI 0 from rfl]
    have a1 : Ex M_X12_spreads lv 2 [some (.ref 123), some (.int (nI knot)), some (.int (nI 0)), none, none] [] (mw w I (upA A 6 (A 6))) = Ex M_X12_spreads lv 2 [some (.ref 123), some (.int (nI knot)), some (.int (nI 36)), none, none] [] (mw w I (upA A 6 F0)) := a1
    rw [upA_same] at a1
    refine a1.trans ?_
    have u56 : upA (upA (upA A 6 F0) 5 (upd (A 5) 0 (nI knot))) 6 (upd F0 knot 1) = upA (upA A 5 (upd (A 5) 0 (nI knot))) 6 (upd F0 knot 1) := by
      funext i; unfold upA
      by_cases h6 : i = 6
      · simp [h6]
      · simp [h6]
    rw [H_X12_spreads_2]
    simp (disch := omega) only [R_X12_spreads_p0, SB, mw_o, mw_a, mo_g, mo_p, mo_pz, mw_so, mw_sa, upA_eq, upA_upA, upd_upd, e2, if_true, uI_l, uB_21, show ((5 : Nat) = 6) = False from by simp, show ((6 : Nat) = 5) = False from by simp, if_false, u56, ls1s, show (0 : Int32) = nI 0 from rfl, uI_0]
    refine (show _ = _ from rfl).trans (b1.trans ?_)
    rw [H_X12_spreads_42]
    simp (disch := omega) only [R_X12_spreads_p0, R_X12_spreads_p1, SB, mw_o, mw_a, mo_g, mo_p, mo_pz, mw_so, mw_sa, upA_eq, upA_upA, upd_upd, upd_s, le_nI, Nat.le_refl, if_true]
  · have e3 : t = cnt P 36 := b2.1.1
    rw [e3]
    exact cnt_congr al
  · intro k hk2
    rw [← al k hk2]
    exact b2.2.1 k hk2
  · intro i hi
    obtain ⟨c1, c2⟩ := b2.1.2.1 i hi
    exact ⟨b2.2.2 i hi, c1, by rw [← al _ c1]; exact c2⟩
  · intro k hk2 q
    rw [← al k hk2] at q
    exact (b2.1.2.2.1 k hk2 q).2
theorem m_leastSpread {col : Nat → Nat} {knot : Nat} (hk : knot < 36) {I : Nat → Int32} {A : Nat → Nat → Int32} (hF : ∀ k, k < 36 → A 6 k = bI ((land col knot).testBit k)) (w : AH) (lv : Nat) : Call M_X12_leastSpread lv [.ref 123] (mw w I A) = some (some (.int (nI (low (land col knot)))), mw w I A) := by
  have lk : (land col knot).testBit knot = true := by
    obtain ⟨c1, c2, c3, c4, c5⟩ := gro_all (two_lt hk) (csN_lt col (col knot))
    exact c3 knot hk (by rw [Nat.testBit_two_pow]; simp) (by rw [csN_b]; simp [hk])
  have l0 : 0 < land col knot := by
    apply Nat.pos_of_ne_zero
    intro z; rw [z] at lk; simp at lk
  obtain ⟨l1, l2, l3, l4⟩ := low_of l0 (land_lt col hk)
  have hl := for_up0 (fun k (_ : Unit) => Ex M_X12_leastSpread lv 2 [some (.ref 123), some (.int (nI k))] [] (mw w I A)) (fun _ s => s) (low (land col knot)) (by
    intro k _ hk2
    have e1 := hF k (by omega)
    rw [l3 k hk2] at e1
    rw [H_X12_leastSpread_2.1]
    simp (disch := omega) only [R_X12_leastSpread, SB, mw_o, mw_a, mo_g, mo_p, mo_pz, mw_so, mw_sa, upA_eq, upA_upA, upd_upd, lit_le, le_lit, lit_lt, lt_lit, eq_lit, le_nI, lt_nI, eq_nI, lit_add, add_lit, nI_add, lit_sub, sub_lit, sub_nI, lit_mul, mul_lit, pk_mul, div_lit, nI_c, aI_a, aI_l, uI_0, uI_l, aB_2, uB_2, bI_e0, bI_e1, bI_n0, bI_n1, bI_01, b_ft, i10, i01, bI_t, bI_f, if_true, if_false, dec_t, dec_f, Bool.true_eq_false, Bool.false_eq_true, or_true, true_or, not_true_eq_false, not_false_eq_true, e1, ls1s]) ()
  have e1 := hF _ l1
  rw [l2] at e1
  simp only [C_X12_leastSpread, R_X12_leastSpread, SB, ls1s, show (0 : Int32) = nI 0 from rfl]
  refine (show _ = _ from rfl).trans (hl.trans ?_)
  rw [H_X12_leastSpread_2.1]
  simp (disch := omega) only [R_X12_leastSpread, SB, mw_o, mw_a, mo_g, mo_p, mo_pz, mw_so, mw_sa, upA_eq, upA_upA, upd_upd, lit_le, le_lit, lit_lt, lt_lit, eq_lit, le_nI, lt_nI, eq_nI, lit_add, add_lit, nI_add, lit_sub, sub_lit, sub_nI, lit_mul, mul_lit, pk_mul, div_lit, nI_c, aI_a, aI_l, uI_0, uI_l, aB_2, uB_2, bI_e0, bI_e1, bI_n0, bI_n1, bI_01, b_ft, i10, i01, bI_t, bI_f, if_true, if_false, dec_t, dec_f, Bool.true_eq_false, Bool.false_eq_true, or_true, true_or, not_true_eq_false, not_false_eq_true, e1, ls1s]
