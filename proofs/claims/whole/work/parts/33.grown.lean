/-! ===== Sets.grown: the least closed set ===== -/
def gN (within land : Nat) : Nat := (land ||| arN land) &&& within
def gro (within : Nat) : Nat → Nat → Nat
  | 0, land => land
  | n + 1, land => if gN within land = land then land else gro within n (gN within land)
theorem gN_lt {a b : Nat} (hb : b < 2 ^ 36) : gN b a < 2 ^ 36 := Nat.lt_of_le_of_lt Nat.and_le_right hb
set_option maxHeartbeats 1000000 in
theorem l_grown {from_ within : Nat} (hf : from_ < 2 ^ 36) (hw : within < 2 ^ 36) (w : AH) (lv : Nat) : ∀ (n i land : Nat) (o : Option Value), i + n = 36 → land < 2 ^ 36 → Ex M_X7_grown lv 8 [some (.long (lN from_)), none, some (.long (lN within)), none, some (.long (lN land)), none, some (.int (nI i)), o, none] [] w = some (some (.long (lN (gro within n land))), w) := by
  intro n
  induction n with
  | zero =>
    intro i land o hi hl
    have : i = 36 := by omega
    subst this
    rw [H_X7_grown_8]
    simp only [R_X7_grown, show nI 36 = (36 : Int32) from rfl, Int32.le_refl, if_true, gro]
  | succ n ih =>
    intro i land o hi hl
    have h1 : ((36 : Int32) ≤ nI i) = False := by
      rw [show (36 : Int32) = nI 36 from rfl, le_nI (by decide) (by omega)]
      simp; omega
    have g1 : land ||| arN land < 2 ^ 36 := Nat.or_lt_two_pow hl (arN_lt hl)
    have hor : lN land ||| lN (arN land) = lN (land ||| arN land) := wb_or (by omega) (by have := arN_lt hl; omega)
    have hand : lN (land ||| arN land) &&& lN within = lN (gN within land) := wb_and (by omega) (by omega)
    have hg := gN_lt (a := land) hw
    rw [H_X7_grown_8]
    simp only [R_X7_grown, h1, if_false, SB, s_around hl, if_true, hor, hand, ls1s, ls2s, lcmp0 (show gN within land < 2 ^ 64 by omega) (show land < 2 ^ 64 by omega)]
    by_cases he : gN within land = land
    · simp only [he, not_true, if_false, gro, if_true]
    · simp only [he, not_false_iff, if_true, gro, if_false]
      rw [show nI i + 1 = nI (i + 1) from nI_1 i]
      exact ih (i + 1) (gN within land) _ (by omega) hg
theorem s_grown {from_ within : Nat} (hf : from_ < 2 ^ 36) (hw : within < 2 ^ 36) (w : AH) (lv : Nat) : Call M_X7_grown lv [.long (lN from_), .long (lN within)] w = some (some (.long (lN (gro within 36 (from_ &&& within)))), w) := by
  have hand : lN from_ &&& lN within = lN (from_ &&& within) := wb_and (by omega) (by omega)
  simp only [C_X7_grown, R_X7_grown, SB, hand, ls1s, ls2s]
  rw [show (0 : Int32) = nI 0 from rfl]
  exact l_grown hf hw w lv 36 0 _ _ rfl (Nat.lt_of_le_of_lt Nat.and_le_right hw)
/-! what it is -/
def clos (within n : Nat) : Prop := ∀ k, k < 36 → within.testBit k = true → (∃ way, way < 4 ∧ nbN k way < 36 ∧ n.testBit (nbN k way) = true) → n.testBit k = true
theorem arN_b {n : Nat} (h : n < 2 ^ 36) {k : Nat} (hk : k < 36) : (arN n).testBit k = true ↔ ∃ way, way < 4 ∧ nbN k way < 36 ∧ n.testBit (nbN k way) = true := by
  unfold arN
  rw [Nat.testBit_or, Nat.testBit_or, Nat.testBit_or, stN_b h 0 (by decide) k hk, stN_b h 1 (by decide) k hk, stN_b h 2 (by decide) k hk, stN_b h 3 (by decide) k hk]
  simp only [opp, Bool.or_eq_true, Bool.and_eq_true, decide_eq_true_eq]
  constructor
  · rintro (((h | h) | h) | h)
    · exact ⟨2, by decide, h.1, h.2⟩
    · exact ⟨3, by decide, h.1, h.2⟩
    · exact ⟨0, by decide, h.1, h.2⟩
    · exact ⟨1, by decide, h.1, h.2⟩
  · rintro ⟨way, hw, h1, h2⟩
    match way, hw with
    | 0, _ => exact Or.inl (Or.inr ⟨h1, h2⟩)
    | 1, _ => exact Or.inr ⟨h1, h2⟩
    | 2, _ => exact Or.inl (Or.inl (Or.inl ⟨h1, h2⟩))
    | 3, _ => exact Or.inl (Or.inl (Or.inr ⟨h1, h2⟩))
    | w + 4, h => exact absurd h (by omega)
theorem gN_b {within land : Nat} (hl : land < 2 ^ 36) {k : Nat} (hk : k < 36) : (gN within land).testBit k = true ↔ within.testBit k = true ∧ (land.testBit k = true ∨ ∃ way, way < 4 ∧ nbN k way < 36 ∧ land.testBit (nbN k way) = true) := by
  unfold gN
  rw [Nat.testBit_and, Nat.testBit_or, Bool.and_eq_true, Bool.or_eq_true, arN_b hl hk]
  exact And.comm
theorem bit_ext {a b : Nat} (ha : a < 2 ^ 36) (hb : b < 2 ^ 36) (h : ∀ k, k < 36 → (a.testBit k = true ↔ b.testBit k = true)) : a = b := by
  apply Nat.eq_of_testBit_eq
  intro i
  by_cases hi : i < 36
  · have := h i hi
    cases h1 : a.testBit i <;> cases h2 : b.testBit i <;> simp_all
  · rw [tb36 ha (by omega), tb36 hb (by omega)]
theorem cnt_lt {P Q : Nat → Bool} : ∀ {n : Nat}, (∀ k, k < n → P k = true → Q k = true) → (∃ k, k < n ∧ P k = false ∧ Q k = true) → cnt P n < cnt Q n
  | 0, _, ⟨k, h, _⟩ => absurd h (by omega)
  | n + 1, hs, ⟨k, hk, hp, hq⟩ => by
    have mono : ∀ m, m ≤ n → cnt P m ≤ cnt Q m := by
      intro m
      induction m with
      | zero => intro _; exact Nat.le_refl _
      | succ m ih =>
        intro hm
        have := ih (by omega)
        have h1 := hs m (by omega)
        unfold cnt
        by_cases hpm : P m = true
        · rw [if_pos hpm, if_pos (h1 hpm)]; omega
        · rw [if_neg hpm]; omega
    by_cases he : k = n
    · subst he
      have := mono k (Nat.le_refl _)
      unfold cnt
      rw [if_neg (by simp [hp]), if_pos hq]
      omega
    · have := cnt_lt (n := n) (fun j hj => hs j (by omega)) ⟨k, by omega, hp, hq⟩
      have h1 := hs n (by omega)
      unfold cnt
      by_cases hpm : P n = true
      · rw [if_pos hpm, if_pos (h1 hpm)]; omega
      · rw [if_neg hpm]; split <;> omega
/-- the least closed set: what is in every closed set that holds the start, and is itself closed -/
theorem gro_spec {within : Nat} (hw : within < 2 ^ 36) : ∀ (n land : Nat), land < 2 ^ 36 → (∀ k, k < 36 → land.testBit k = true → within.testBit k = true) → 36 < n + cnt (fun k => land.testBit k) 36 + (if land = 0 then 37 else 0) →
    gro within n land < 2 ^ 36 ∧ (∀ k, k < 36 → (gro within n land).testBit k = true → within.testBit k = true) ∧ (∀ k, k < 36 → land.testBit k = true → (gro within n land).testBit k = true) ∧ clos within (gro within n land) ∧
    ∀ x, clos within x → (∀ k, k < 36 → land.testBit k = true → x.testBit k = true) → ∀ k, k < 36 → (gro within n land).testBit k = true → x.testBit k = true := by
  intro n
  induction n with
  | zero =>
    intro land hl hsub hc
    have h36 := cnt_le (fun k => land.testBit k) 36
    have h0 : land = 0 := by
      by_cases h : land = 0
      · exact h
      · rw [if_neg h] at hc; omega
    subst h0
    refine ⟨hl, hsub, fun k _ h => h, fun k _ _ ⟨way, _, _, h⟩ => ?_, fun x _ h => h⟩
    have h : (0 : Nat).testBit (nbN k way) = true := h
    rw [Nat.zero_testBit] at h; cases h
  | succ n ih =>
    intro land hl hsub hc
    unfold gro
    by_cases he : gN within land = land
    · rw [if_pos he]
      refine ⟨hl, hsub, fun k _ h => h, fun k hk hwk hn => ?_, fun x _ h => h⟩
      rw [← he]
      exact (gN_b hl hk).mpr ⟨hwk, Or.inr hn⟩
    · rw [if_neg he]
      have hg := gN_lt (a := land) hw
      have hup : ∀ k, k < 36 → land.testBit k = true → (gN within land).testBit k = true := fun k hk h => (gN_b hl hk).mpr ⟨hsub k hk h, Or.inl h⟩
      have hnew : ∃ k, k < 36 ∧ land.testBit k = false ∧ (gN within land).testBit k = true := by
        apply Classical.byContradiction
        intro hno
        apply he
        apply bit_ext hg hl
        intro k hk
        constructor
        · intro h
          cases hb : land.testBit k with
          | true => rfl
          | false => exact absurd ⟨k, hk, hb, h⟩ hno
        · exact hup k hk
      have hcnt : cnt (fun k => land.testBit k) 36 < cnt (fun k => (gN within land).testBit k) 36 := cnt_lt (n := 36) hup hnew
      have hl0 : land ≠ 0 := by
        intro z
        subst z
        obtain ⟨k, hk, -, h⟩ := hnew
        rw [gN_b hl hk] at h
        obtain ⟨-, h | ⟨way, -, -, h⟩⟩ := h <;> simp at h
      rw [if_neg hl0] at hc
      obtain ⟨i1, i2, i3, i4, i5⟩ := ih (gN within land) hg (fun k hk h => ((gN_b hl hk).mp h).1) (by split <;> omega)
      refine ⟨i1, i2, fun k hk h => i3 k hk (hup k hk h), i4, fun x hx hxl k hk h => i5 x hx (fun j hj hgj => ?_) k hk h⟩
      obtain ⟨g1, g2 | ⟨way, g3, g4, g5⟩⟩ := (gN_b hl hj).mp hgj
      · exact hxl j hj g2
      · exact hx j hj g1 ⟨way, g3, g4, hxl _ g4 g5⟩
theorem gro_all {from_ within : Nat} (hf : from_ < 2 ^ 36) (hw : within < 2 ^ 36) : gro within 36 (from_ &&& within) < 2 ^ 36 ∧ (∀ k, k < 36 → (gro within 36 (from_ &&& within)).testBit k = true → within.testBit k = true) ∧ (∀ k, k < 36 → from_.testBit k = true → within.testBit k = true → (gro within 36 (from_ &&& within)).testBit k = true) ∧ clos within (gro within 36 (from_ &&& within)) ∧
    ∀ x, clos within x → (∀ k, k < 36 → from_.testBit k = true → within.testBit k = true → x.testBit k = true) → ∀ k, k < 36 → (gro within 36 (from_ &&& within)).testBit k = true → x.testBit k = true := by
  have hb : ∀ k, (from_ &&& within).testBit k = true ↔ from_.testBit k = true ∧ within.testBit k = true := fun k => by rw [Nat.testBit_and, Bool.and_eq_true]
  have hl : from_ &&& within < 2 ^ 36 := Nat.lt_of_le_of_lt Nat.and_le_right hw
  have hc : 36 < 36 + cnt (fun k => (from_ &&& within).testBit k) 36 + (if from_ &&& within = 0 then 37 else 0) := by
    by_cases h0 : from_ &&& within = 0
    · rw [if_pos h0]; omega
    · have : 0 < cnt (fun k => (from_ &&& within).testBit k) 36 := by
        obtain ⟨l, h1, h2, -⟩ := low_ex (Nat.pos_of_ne_zero h0) hl
        have := cnt_lt (P := fun _ => false) (Q := fun k => (from_ &&& within).testBit k) (n := 36) (fun _ _ h => by cases h) ⟨l, h1, rfl, h2⟩
        rw [cnt_false] at this
        exact this
      omega
  obtain ⟨i1, i2, i3, i4, i5⟩ := gro_spec hw 36 (from_ &&& within) hl (fun k _ h => ((hb k).mp h).2) hc
  exact ⟨i1, i2, fun k hk a b => i3 k hk ((hb k).mpr ⟨a, b⟩), i4, fun x hx h k hk => i5 x hx (fun j hj hj2 => h j hj ((hb j).mp hj2).1 ((hb j).mp hj2).2) k hk⟩
