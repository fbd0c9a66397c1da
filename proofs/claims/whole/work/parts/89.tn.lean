/-! ===== Roads: walks ===== -/
def Wk (op from_ : Nat) : Nat → Nat → Nat → Prop
  | 0, k, y => k = from_ ∧ y = 4
  | s + 1, k, y => y < 4 ∧ k < 36 ∧ op.testBit k = true ∧ ∃ j z, Wk op from_ s j z ∧ z ≠ y ∧ j < 36 ∧ nbN j y = k
theorem opp2 : ∀ y, y < 4 → opp (opp y) = y := by decide
theorem st_ex {n : Nat} (h : n < 2 ^ 36) {y k : Nat} (hy : y < 4) (hk : k < 36) : (stN n y).testBit k = true ↔ ∃ j, j < 36 ∧ n.testBit j = true ∧ nbN j y = k := by
  rw [stN_b h y hy k hk, Bool.and_eq_true, decide_eq_true_iff]
  constructor
  · intro ⟨a, b⟩
    have oy : opp y < 4 := (by decide : ∀ y, y < 4 → opp y < 4) y hy
    have := (nb_opp k hk (opp y) oy a).1
    rw [opp2 y hy] at this
    exact ⟨_, a, b, this⟩
  · intro ⟨j, a, b, c⟩
    have := (nb_opp j a y hy (by omega)).1
    rw [c] at this
    rw [this]
    exact ⟨a, b⟩
theorem ot_b (fr : Nat → Nat) (y j : Nat) : ∀ n, (foldN (otF fr y) n 0).testBit j = true ↔ ∃ z, z < n ∧ z ≠ y ∧ (fr z).testBit j = true := by
  intro n
  induction n with
  | zero =>
    constructor
    · intro h
      have h : (0 : Nat).testBit j = true := h
      simp at h
    · intro ⟨z, a, _⟩; omega
  | succ n ih =>
    have e : foldN (otF fr y) (n + 1) 0 = (if n = y then foldN (otF fr y) n 0 else foldN (otF fr y) n 0 ||| fr n) := foldN_s _ _ _
    rw [e]
    by_cases q : n = y
    · rw [if_pos q, ih]
      constructor
      · intro ⟨z, a, b⟩; exact ⟨z, by omega, b⟩
      · intro ⟨z, a, b, c⟩; exact ⟨z, by omega, b, c⟩
    · rw [if_neg q, Nat.testBit_or, Bool.or_eq_true, ih]
      constructor
      · rintro (⟨z, a, b⟩ | h)
        · exact ⟨z, by omega, b⟩
        · exact ⟨n, by omega, q, h⟩
      · intro ⟨z, a, b, c⟩
        by_cases x : z = n
        · subst x; exact Or.inr c
        · exact Or.inl ⟨z, by omega, b, c⟩
theorem Wk_4 {op from_ s k y : Nat} (h : Wk op from_ s k y) (h1 : 1 ≤ s) : y < 4 ∧ k < 36 := by
  cases s with
  | zero => omega
  | succ s => exact ⟨h.1, h.2.1⟩
theorem rd_w {op from_ : Nat} (ho : op < 2 ^ 36) (hf : from_ < 36) : ∀ s, ∀ y, y < 4 → ∀ k, k < 36 → (((rdN op from_ s).1 y).testBit k = true ↔ ∃ r, r ≤ s ∧ Wk op from_ (r + 1) k y) ∧ (((rdN op from_ s).2 y).testBit k = true ↔ Wk op from_ (s + 1) k y ∧ ∀ r, r < s → ¬ Wk op from_ (r + 1) k y) := by
  intro s
  induction s with
  | zero =>
    intro y hy k hk
    have base : (stN (2 ^ from_) y &&& op).testBit k = true ↔ Wk op from_ 1 k y := by
      rw [Nat.testBit_and, Bool.and_eq_true, st_ex (two_lt hf) hy hk]
      constructor
      · intro ⟨⟨j, a, b, c⟩, d⟩
        rw [Nat.testBit_two_pow] at b
        have : from_ = j := by simpa using b
        exact ⟨hy, hk, d, j, 4, ⟨this.symm, rfl⟩, by omega, a, c⟩
      · intro ⟨_, _, d, j, z, ⟨e1, e2⟩, _, a, c⟩
        exact ⟨⟨j, a, by rw [e1, Nat.testBit_two_pow]; simp, c⟩, d⟩
    refine ⟨?_, ?_⟩
    · refine base.trans ⟨fun h => ⟨0, Nat.le_refl _, h⟩, fun ⟨r, a, b⟩ => ?_⟩
      have : r = 0 := by omega
      subst this
      exact b
    · exact base.trans ⟨fun h => ⟨h, fun r hr => by omega⟩, fun h => h.1⟩
  | succ s ih =>
    intro y hy k hk
    obtain ⟨b1, b2⟩ := rdN_lt (from_ := from_) ho s
    have nx : (nxN (rdN op from_ s).2 (rdN op from_ s).1 op y).testBit k = true ↔ Wk op from_ (s + 2) k y ∧ ∀ r, r < s + 1 → ¬ Wk op from_ (r + 1) k y := by
      unfold nxN
      rw [dfN_b, Nat.testBit_and, Bool.and_eq_true, Bool.and_eq_true, st_ex (n := otN (rdN op from_ s).2 y) (otF_lt b2 y 4 (Nat.le_refl _)) hy hk]
      have hsn : (!((rdN op from_ s).1 y).testBit k) = true ↔ ∀ r, r < s + 1 → ¬ Wk op from_ (r + 1) k y := by
        have := (ih y hy k hk).1
        constructor
        · intro h r hr w
          rw [this.mpr ⟨r, by omega, w⟩] at h
          cases h
        · intro h
          cases z : ((rdN op from_ s).1 y).testBit k with
          | false => rfl
          | true =>
            obtain ⟨r, r1, r2⟩ := this.mp z
            exact absurd r2 (h r (by omega))
      rw [hsn]
      constructor
      · intro ⟨⟨⟨j, a, b, c⟩, d⟩, e⟩
        obtain ⟨z, z1, z2, z3⟩ := (ot_b _ y j 4).mp b
        have w := ((ih z z1 j a).2.mp z3).1
        exact ⟨⟨hy, hk, d, j, z, w, z2, a, c⟩, e⟩
      · intro ⟨⟨_, _, d, j, z, w, z2, a, c⟩, e⟩
        have z1 := (Wk_4 w (by omega)).1
        refine ⟨⟨⟨j, a, (ot_b _ y j 4).mpr ⟨z, z1, z2, ?_⟩, c⟩, d⟩, e⟩
        refine (ih z z1 j a).2.mpr ⟨w, fun r hr w2 => ?_⟩
        exact e (r + 1) (by omega) ⟨hy, hk, d, j, z, w2, z2, a, c⟩
    refine ⟨?_, nx⟩
    show ((rdN op from_ s).1 y ||| nxN (rdN op from_ s).2 (rdN op from_ s).1 op y).testBit k = true ↔ _
    rw [Nat.testBit_or, Bool.or_eq_true, (ih y hy k hk).1, nx]
    constructor
    · rintro (⟨r, r1, r2⟩ | ⟨w, _⟩)
      · exact ⟨r, by omega, r2⟩
      · exact ⟨s + 1, Nat.le_refl _, w⟩
    · intro ⟨r, r1, r2⟩
      by_cases q : ∃ r, r ≤ s ∧ Wk op from_ (r + 1) k y
      · exact Or.inl q
      · refine Or.inr ⟨?_, fun r hr w => q ⟨r, by omega, w⟩⟩
        have : r = s + 1 := by
          apply Classical.byContradiction
          intro x
          exact q ⟨r, by omega, r2⟩
        subst this
        exact r2
theorem ht_w {op from_ to : Nat} (ho : op < 2 ^ 36) (hf : from_ < 36) (ht : to < 36) (s : Nat) : htB op from_ to s = true ↔ ∃ y, Wk op from_ (s + 1) to y ∧ ∀ r, r < s → ¬ Wk op from_ (r + 1) to y := by
  unfold htB frO
  rw [Nat.testBit_or, Nat.testBit_or, Nat.testBit_or, Bool.or_eq_true, Bool.or_eq_true, Bool.or_eq_true]
  constructor
  · rintro (((h | h) | h) | h)
    · exact ⟨0, (rd_w ho hf s 0 (by decide) to ht).2.mp h⟩
    · exact ⟨1, (rd_w ho hf s 1 (by decide) to ht).2.mp h⟩
    · exact ⟨2, (rd_w ho hf s 2 (by decide) to ht).2.mp h⟩
    · exact ⟨3, (rd_w ho hf s 3 (by decide) to ht).2.mp h⟩
  · intro ⟨y, h1, h2⟩
    have hy := (Wk_4 h1 (by omega)).1
    have := (rd_w ho hf s y hy to ht).2.mpr ⟨h1, h2⟩
    have h : y = 0 ∨ y = 1 ∨ y = 2 ∨ y = 3 := by omega
    rcases h with rfl | rfl | rfl | rfl
    · exact Or.inl (Or.inl (Or.inl this))
    · exact Or.inl (Or.inl (Or.inr this))
    · exact Or.inl (Or.inr this)
    · exact Or.inr this
/-- no hit so far: no walk so far -/
theorem no_w {op from_ to : Nat} (ho : op < 2 ^ 36) (hf : from_ < 36) (ht : to < 36) {q : Nat} (h : ∀ p, p < q → htB op from_ to p = false) : ∀ p, p < q → ∀ y, ¬ Wk op from_ (p + 1) to y := by
  intro p
  induction p using Nat.strongRecOn with
  | _ p ih =>
    intro hp y w
    have := (ht_w ho hf ht p).mpr ⟨y, w, fun r hr w2 => ih r hr (by omega) y w2⟩
    rw [h p hp] at this
    cases this
