/-! ===== Dyeing: codes ===== -/
/-- the i-th digit of a code of n, as a colour -/
def dgN (n code i : Nat) : Nat := code / 7 ^ (n - 1 - i) % 7 + 1
def lnS (sets : Nat → Nat) (L : Nat) (cs : Nat → Nat) : Nat → Nat
  | 0 => L
  | i + 1 => lnN sets (lnS sets L cs i) (cs i)
theorem lnS_congr {sets : Nat → Nat} {L : Nat} {a b : Nat → Nat} : ∀ {i : Nat}, (∀ j, j < i → a j = b j) → lnS sets L a i = lnS sets L b i := by
  intro i
  induction i with
  | zero => intro _; rfl
  | succ i ih =>
    intro h
    show lnN _ _ _ = lnN _ _ _
    rw [ih (fun j hj => h j (by omega)), h i (by omega)]
def lfN (sets : Nat → Nat) (L n code : Nat) : Nat := pc (lnS sets L (dgN n code) n)
def dyeF (sets : Nat → Nat) (L n : Nat) : Nat → Nat × Nat → Nat × Nat := fun code s => if s.1 < lfN sets L n code then (lfN sets L n code, code) else s
def RelD (n : Nat) (s : DyS) (mb : Nat × Nat) : Prop := s.2.2 = mb.1 ∧ (0 < mb.1 → ∀ i, i < n → s.2.1 i = dgN n mb.2 i)
theorem foldN_add {σ : Type} (F : Nat → σ → σ) (m : Nat) : ∀ n s, foldN F (m + n) s = foldN (fun j => F (m + j)) n (foldN F m s) := by
  intro n
  induction n with
  | zero => intro s; rfl
  | succ n ih =>
    intro s
    rw [show m + (n + 1) = m + n + 1 by omega, foldN_s, foldN_s, ih]
theorem dg_lo {n dn r i base : Nat} (hn : n = dn + (r + 1)) (hb : base % 7 ^ (r + 1) = 0) (hi : i < 7) : (∀ j, j < dn → dgN n (base + i * 7 ^ r) j = dgN n base j) ∧ dgN n (base + i * 7 ^ r) dn = i + 1 := by
  have hp : 0 < 7 ^ r := Nat.pow_pos (by decide)
  have hp1 : 7 ^ (r + 1) = 7 ^ r * 7 := Nat.pow_succ 7 r
  obtain ⟨q, hq⟩ : ∃ q, base = 7 ^ (r + 1) * q := ⟨base / 7 ^ (r + 1), by have := Nat.div_add_mod base (7 ^ (r + 1)); rw [hb] at this; omega⟩
  have lt : i * 7 ^ r < 7 ^ (r + 1) := by rw [hp1, Nat.mul_comm (7 ^ r) 7]; exact Nat.mul_lt_mul_of_pos_right hi hp
  constructor
  · intro j hj
    unfold dgN
    have e : 7 ^ (n - 1 - j) = 7 ^ (r + 1) * 7 ^ (n - 1 - j - (r + 1)) := by rw [← Nat.pow_add]; congr 1; omega
    rw [e, ← Nat.div_div_eq_div_mul, ← Nat.div_div_eq_div_mul]
    have e1 : (base + i * 7 ^ r) / 7 ^ (r + 1) = q := by
      rw [hq, Nat.mul_add_div (by omega), Nat.div_eq_of_lt lt, Nat.add_zero]
    have e2 : base / 7 ^ (r + 1) = q := by
      rw [hq, Nat.mul_div_cancel_left _ (by omega)]
    rw [e1, e2]
  · unfold dgN
    rw [show n - 1 - dn = r by omega]
    have e1 : (base + i * 7 ^ r) / 7 ^ r = 7 * q + i := by
      rw [hq, hp1, Nat.mul_assoc, Nat.mul_comm i, ← Nat.mul_add, Nat.mul_div_cancel_left _ hp]
    rw [e1]
    omega
theorem fl_rel {sets : Nat → Nat} {L0 n : Nat} : ∀ r L dn (s : DyS) base (mb : Nat × Nat), n = dn + r → base % 7 ^ r = 0 → (∀ i, i < dn → s.1 i = dgN n base i) → L = lnS sets L0 (dgN n base) dn → RelD n s mb → RelD n (flP sets r L dn s) (foldN (fun j => dyeF sets L0 n (base + j)) (7 ^ r) mb) ∧ ∀ i, i < dn → (flP sets r L dn s).1 i = s.1 i := by
  intro r
  induction r with
  | zero =>
    intro L dn s base mb hn hb hs hL hR
    have hn : n = dn := by omega
    subst hn
    refine ⟨?_, fun i _ => rfl⟩
    have e : lfN sets L0 n base = pc L := by unfold lfN; rw [← hL]
    show RelD n (flP sets 0 L n s) (dyeF sets L0 n (base + 0) mb)
    rw [Nat.add_zero]
    unfold dyeF flP
    rw [e, hR.1]
    by_cases q : mb.1 < pc L
    · rw [if_pos q, if_pos q, if_pos q]
      exact ⟨rfl, fun _ i hi => hs i hi⟩
    · rw [if_neg q, if_neg q, if_neg q]
      exact ⟨rfl, hR.2⟩
  | succ r ih =>
    intro L dn s base mb hn hb hs hL hR
    have key : ∀ a, a ≤ 7 → RelD n (foldN (fun i (t : DyS) => flP sets r (lnN sets L (i + 1)) (dn + 1) (updN t.1 dn (i + 1), t.2)) a s) (foldN (fun j => dyeF sets L0 n (base + j)) (a * 7 ^ r) mb) ∧ ∀ i, i < dn → (foldN (fun i (t : DyS) => flP sets r (lnN sets L (i + 1)) (dn + 1) (updN t.1 dn (i + 1), t.2)) a s).1 i = s.1 i := by
      intro a
      induction a with
      | zero =>
        intro _
        rw [Nat.zero_mul]
        exact ⟨hR, fun _ _ => rfl⟩
      | succ a iha =>
        intro ha
        obtain ⟨k1, k2⟩ := iha (by omega)
        obtain ⟨d1, d2⟩ := dg_lo (i := a) hn hb (by omega)
        rw [foldN_s, Nat.succ_mul, foldN_add]
        generalize foldN (fun i (t : DyS) => flP sets r (lnN sets L (i + 1)) (dn + 1) (updN t.1 dn (i + 1), t.2)) a s = t at *
        generalize foldN (fun j => dyeF sets L0 n (base + j)) (a * 7 ^ r) mb = mt at *
        have step := ih (lnN sets L (a + 1)) (dn + 1) (updN t.1 dn (a + 1), t.2) (base + a * 7 ^ r) mt (by omega) (by
          have : base % 7 ^ r = 0 := by
            have := Nat.mod_mod_of_dvd base (show 7 ^ r ∣ 7 ^ (r + 1) from ⟨7, Nat.pow_succ 7 r⟩)
            rw [hb, Nat.zero_mod] at this
            exact this.symm
          rw [Nat.add_mul_mod_self_right]; exact this) (fun i hi => by
          show updN t.1 dn (a + 1) i = _
          by_cases q : i = dn
          · rw [q, updN_s, d2]
          · rw [updN_n _ _ q, k2 i (by omega), hs i (by omega), d1 i (by omega)]) (by
          show _ = lnN sets (lnS sets L0 _ dn) _
          rw [d2, lnS_congr (fun j hj => d1 j hj), ← hL]) k1
        obtain ⟨s1, s2⟩ := step
        have e : (fun j => dyeF sets L0 n (base + (a * 7 ^ r + j))) = (fun j => dyeF sets L0 n (base + a * 7 ^ r + j)) := by
          funext j; rw [Nat.add_assoc]
        rw [e]
        refine ⟨s1, fun i hi => ?_⟩
        rw [s2 i (by omega)]
        show updN t.1 dn (a + 1) i = _
        rw [updN_n _ _ (by omega)]
        exact k2 i hi
    have := key 7 (Nat.le_refl _)
    rw [show 7 ^ (r + 1) = 7 * 7 ^ r by rw [Nat.pow_succ, Nat.mul_comm]]
    exact this
