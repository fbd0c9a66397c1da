/-! ===== Roads: the model's queue ===== -/
def BJ (op fr to i y m : Nat) (Q F : Nat → Nat) : Prop := (m = cnt (fun q => decide (F q ≠ 0)) 180) ∧ (i ≤ m) ∧ (∀ j, j < m → Q j < 180 ∧ F (Q j) ≠ 0) ∧ (∀ q, q < 180 → F q ≠ 0 → ∃ j, j < m ∧ Q j = q) ∧ (∀ j j2, j ≤ j2 → j2 < m → F (Q j) ≤ F (Q j2)) ∧ (i < m → ∀ j, j < m → F (Q j) ≤ F (Q i) + 1) ∧ (∀ j, j < m → F (Q j) ≤ j + 1) ∧ (∀ q, q < 180 → F q ≠ 0 → Wk op fr (F q - 1) (q / 5) (q % 5)) ∧ (∀ j z, (j < i ∨ j = i ∧ z < y) → z < 4 → z ≠ Q j % 5 → nbN (Q j / 5) z < 36 → op.testBit (nbN (Q j / 5) z) = true → F (5 * nbN (Q j / 5) z + z) ≠ 0 ∧ F (5 * nbN (Q j / 5) z + z) ≤ F (Q j) + 1) ∧ (∀ j, j < i → Q j / 5 ≠ to) ∧ (F (5 * fr + 4) = 1) ∧ (∀ q, q < 180 → F q ≠ 0 → q % 5 < 4 ∨ q = 5 * fr + 4)
theorem BJ.a {op fr to i y m : Nat} {Q F : Nat → Nat} (h : BJ op fr to i y m Q F) : m = cnt (fun q => decide (F q ≠ 0)) 180 := h.1
theorem BJ.b {op fr to i y m : Nat} {Q F : Nat → Nat} (h : BJ op fr to i y m Q F) : i ≤ m := h.2.1
theorem BJ.c {op fr to i y m : Nat} {Q F : Nat → Nat} (h : BJ op fr to i y m Q F) : ∀ j, j < m → Q j < 180 ∧ F (Q j) ≠ 0 := h.2.2.1
theorem BJ.d {op fr to i y m : Nat} {Q F : Nat → Nat} (h : BJ op fr to i y m Q F) : ∀ q, q < 180 → F q ≠ 0 → ∃ j, j < m ∧ Q j = q := h.2.2.2.1
theorem BJ.e {op fr to i y m : Nat} {Q F : Nat → Nat} (h : BJ op fr to i y m Q F) : ∀ j j2, j ≤ j2 → j2 < m → F (Q j) ≤ F (Q j2) := h.2.2.2.2.1
theorem BJ.f {op fr to i y m : Nat} {Q F : Nat → Nat} (h : BJ op fr to i y m Q F) : i < m → ∀ j, j < m → F (Q j) ≤ F (Q i) + 1 := h.2.2.2.2.2.1
theorem BJ.g {op fr to i y m : Nat} {Q F : Nat → Nat} (h : BJ op fr to i y m Q F) : ∀ j, j < m → F (Q j) ≤ j + 1 := h.2.2.2.2.2.2.1
theorem BJ.h {op fr to i y m : Nat} {Q F : Nat → Nat} (h : BJ op fr to i y m Q F) : ∀ q, q < 180 → F q ≠ 0 → Wk op fr (F q - 1) (q / 5) (q % 5) := h.2.2.2.2.2.2.2.1
theorem BJ.k {op fr to i y m : Nat} {Q F : Nat → Nat} (h : BJ op fr to i y m Q F) : ∀ j z, (j < i ∨ j = i ∧ z < y) → z < 4 → z ≠ Q j % 5 → nbN (Q j / 5) z < 36 → op.testBit (nbN (Q j / 5) z) = true → F (5 * nbN (Q j / 5) z + z) ≠ 0 ∧ F (5 * nbN (Q j / 5) z + z) ≤ F (Q j) + 1 := h.2.2.2.2.2.2.2.2.1
theorem BJ.n {op fr to i y m : Nat} {Q F : Nat → Nat} (h : BJ op fr to i y m Q F) : ∀ j, j < i → Q j / 5 ≠ to := h.2.2.2.2.2.2.2.2.2.1
theorem BJ.s {op fr to i y m : Nat} {Q F : Nat → Nat} (h : BJ op fr to i y m Q F) : F (5 * fr + 4) = 1 := h.2.2.2.2.2.2.2.2.2.2.1
theorem BJ.v {op fr to i y m : Nat} {Q F : Nat → Nat} (h : BJ op fr to i y m Q F) : ∀ q, q < 180 → F q ≠ 0 → q % 5 < 4 ∨ q = 5 * fr + 4 := h.2.2.2.2.2.2.2.2.2.2.2
theorem BJ.skip {op fr to i y m : Nat} {Q F : Nat → Nat} (h : BJ op fr to i y m Q F) (hn : y < 4 → y ≠ Q i % 5 → nbN (Q i / 5) y < 36 → op.testBit (nbN (Q i / 5) y) = true → F (5 * nbN (Q i / 5) y + y) ≠ 0 ∧ F (5 * nbN (Q i / 5) y + y) ≤ F (Q i) + 1) : BJ op fr to i (y + 1) m Q F := by
  refine ⟨h.a, h.b, h.c, h.d, h.e, h.f, h.g, h.h, ?_, h.n, h.s, h.v⟩
  intro j z hz
  by_cases q : j = i ∧ z = y
  · obtain ⟨rfl, rfl⟩ := q
    exact hn
  · exact h.k j z (by omega)
theorem BJ.next {op fr to i m : Nat} {Q F : Nat → Nat} (h : BJ op fr to i 4 m Q F) (hi : i < m) (ht : Q i / 5 ≠ to) : BJ op fr to (i + 1) 0 m Q F := by
  refine ⟨h.a, hi, h.c, h.d, h.e, ?_, h.g, h.h, ?_, ?_, h.s, h.v⟩
  · intro h1 j hj
    have := h.f hi j hj
    have := h.e i (i + 1) (by omega) h1
    omega
  · intro j z hz h4
    exact h.k j z (by omega) h4
  · intro j hj
    by_cases q : j = i
    · rw [q]; exact ht
    · exact h.n j (by omega)
theorem BJ.add {op fr to i y m : Nat} {Q F : Nat → Nat} (h : BJ op fr to i y m Q F) (hi : i < m) (hy : y < 4) (h1 : y ≠ Q i % 5) (h2 : nbN (Q i / 5) y < 36) (h3 : op.testBit (nbN (Q i / 5) y) = true) (h4 : F (5 * nbN (Q i / 5) y + y) = 0) : BJ op fr to i (y + 1) (m + 1) (updN Q m (5 * nbN (Q i / 5) y + y)) (updN F (5 * nbN (Q i / 5) y + y) (F (Q i) + 1)) := by
  generalize hN : 5 * nbN (Q i / 5) y + y = N at *
  have N180 : N < 180 := by omega
  have N5 : N / 5 = nbN (Q i / 5) y ∧ N % 5 = y := by omega
  obtain ⟨ci1, ci2⟩ := h.c i hi
  have fq : ∀ q, q ≠ N → updN F N (F (Q i) + 1) q = F q := fun q hq => updN_n _ _ hq
  have fs : updN F N (F (Q i) + 1) N = F (Q i) + 1 := updN_s _ _ _
  have qn : ∀ j, j < m → updN Q m N j = Q j := fun j hj => updN_n _ _ (by omega)
  have qs : updN Q m N m = N := updN_s _ _ _
  have ne : ∀ j, j < m → Q j ≠ N := fun j hj x => (h.c j hj).2 (by rw [x]; exact h4)
  have fQ : ∀ j, j < m → updN F N (F (Q i) + 1) (updN Q m N j) = F (Q j) := fun j hj => by rw [qn j hj, fq _ (ne j hj)]
  refine ⟨?_, by have := h.b; omega, ?_, ?_, ?_, ?_, ?_, ?_, ?_, ?_, ?_, ?_⟩
  · have e := cnt_u (fun q => decide (F q ≠ 0)) N (by simp [h4]) 180
    rw [if_pos N180, ← h.a] at e
    rw [← e]
    apply cnt_congr
    intro q hq
    unfold uB1
    by_cases z : q = N
    · rw [if_pos z, z, fs]; simp
    · rw [if_neg z, fq q z]
  · intro j hj
    by_cases z : j = m
    · rw [z, qs, fs]; exact ⟨N180, by omega⟩
    · rw [fQ j (by omega), qn j (by omega)]; exact h.c j (by omega)
  · intro q hq hf
    by_cases z : q = N
    · exact ⟨m, by omega, by rw [qs, z]⟩
    · rw [fq q z] at hf
      obtain ⟨j, j1, j2⟩ := h.d q hq hf
      exact ⟨j, by omega, by rw [qn j j1]; exact j2⟩
  · intro j j2 hj hj2
    by_cases z : j2 = m
    · by_cases z2 : j = m
      · rw [z, z2]; exact Nat.le_refl _
      · rw [z, qs, fs, fQ j (by omega)]
        exact h.f hi j (by omega)
    · rw [fQ j (by omega), fQ j2 (by omega)]
      exact h.e j j2 hj (by omega)
  · intro _ j hj
    rw [fQ i hi]
    by_cases z : j = m
    · rw [z, qs, fs]; exact Nat.le_refl _
    · rw [fQ j (by omega)]; exact h.f hi j (by omega)
  · intro j hj
    by_cases z : j = m
    · rw [z, qs, fs]
      have := h.g i hi
      omega
    · rw [fQ j (by omega)]; exact h.g j (by omega)
  · intro q hq hf
    by_cases z : q = N
    · rw [z, fs, N5.1, N5.2]
      have w := h.h (Q i) ci1 ci2
      rw [show F (Q i) + 1 - 1 = (F (Q i) - 1) + 1 by omega]
      exact ⟨hy, h2, h3, Q i / 5, Q i % 5, w, fun x => h1 x.symm, by omega, rfl⟩
    · rw [fq q z] at hf ⊢
      exact h.h q hq hf
  · intro j z hz hz4 hz1 hz2 hz3
    by_cases q : j = i ∧ z = y
    · obtain ⟨rfl, rfl⟩ := q
      rw [qn j hi] at hz2 ⊢
      rw [hN, fs, fq _ (ne j hi)]
      exact ⟨by omega, Nat.le_refl _⟩
    · have hj : j < m := by have := h.b; omega
      rw [qn j hj] at hz1 hz2 hz3 ⊢
      obtain ⟨k1, k2⟩ := h.k j z (by omega) hz4 hz1 hz2 hz3
      have : 5 * nbN (Q j / 5) z + z ≠ N := fun x => k1 (by rw [x]; exact h4)
      rw [fq _ this, fq _ (ne j hj)]
      exact ⟨k1, k2⟩
  · intro j hj
    rw [qn j (by omega)]
    exact h.n j hj
  · rw [fq _ (fun x => by rw [← x, h.s] at h4; cases h4)]
    exact h.s
  · intro q hq hf
    by_cases z : q = N
    · left; omega
    · rw [fq q z] at hf
      exact h.v q hq hf
theorem cnt_mono {P Q : Nat → Bool} : ∀ {n : Nat}, (∀ k, k < n → P k = true → Q k = true) → cnt P n ≤ cnt Q n := by
  intro n
  induction n with
  | zero => intro _; exact Nat.le_refl _
  | succ n ih =>
    intro h
    have i := ih (fun k hk => h k (by omega))
    rw [cnt_s, cnt_s]
    by_cases p : P n = true
    · rw [if_pos p, if_pos (h n (by omega) p)]; omega
    · rw [if_neg p]; omega
theorem BJ.m_le {op fr to i y m : Nat} {Q F : Nat → Nat} (h : BJ op fr to i y m Q F) (hf : fr < 36) : m ≤ 145 := by
  rw [h.a]
  have c : cnt (uB1 (fun q => decide (q % 5 < 4)) (5 * fr + 4)) 180 = 145 := by
    rw [cnt_u _ _ (decide_eq_false (by omega)), if_pos (by omega), show cnt (fun q => decide (q % 5 < 4)) 180 = 144 from by decide +kernel]
  rw [← c]
  refine cnt_mono (fun q hq hF => ?_)
  unfold uB1
  rcases h.v q hq (of_decide_eq_true hF) with x | x
  · split
    · rfl
    · exact decide_eq_true x
  · rw [if_pos x]
theorem BJ.reach {op fr to i m : Nat} {Q F : Nat → Nat} (h : BJ op fr to i 0 m Q F) (hf : fr < 36) (G : Nat) (hG : ∀ j, j < m → F (Q j) < G → j < i) : ∀ g k y, Wk op fr g k y → g + 1 < G → k < 36 ∧ y < 5 ∧ F (5 * k + y) ≠ 0 ∧ F (5 * k + y) ≤ g + 1 := by
  intro g
  induction g with
  | zero =>
    intro k y ⟨e1, e2⟩ _
    subst e1; subst e2
    rw [h.s]
    exact ⟨hf, by decide, by decide, Nat.le_refl _⟩
  | succ g ih =>
    intro k y ⟨hy, hk, ho, j, z, w, hz, hj, hn⟩ hg
    obtain ⟨a1, a2, a3, a4⟩ := ih j z w (by omega)
    obtain ⟨q, q1, q2⟩ := h.d (5 * j + z) (by omega) a3
    have qi : q < i := hG q q1 (by rw [q2]; omega)
    have e1 : Q q / 5 = j := by omega
    have e2 : Q q % 5 = z := by omega
    have := h.k q y (Or.inl qi) hy (by rw [e2]; exact fun x => hz x.symm) (by rw [e1, hn]; exact hk) (by rw [e1, hn]; exact ho)
    rw [e1, hn, q2] at this
    exact ⟨hk, by omega, this.1, by omega⟩
