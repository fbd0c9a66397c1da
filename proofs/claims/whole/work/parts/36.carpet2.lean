/-! ===== Carpet: folds over the knots ===== -/
theorem nI_or {a b : Nat} (ha : a < 2 ^ 32) (hb : b < 2 ^ 32) : nI a ||| nI b = nI (a ||| b) := by
  apply Int32.toBitVec_inj.mp
  rw [Int32.toBitVec_or]
  show BitVec.ofNat 32 a ||| BitVec.ofNat 32 b = BitVec.ofNat 32 (a ||| b)
  apply BitVec.eq_of_toNat_eq
  rw [BitVec.toNat_or, BitVec.toNat_ofNat, BitVec.toNat_ofNat, BitVec.toNat_ofNat, Nat.mod_eq_of_lt ha, Nat.mod_eq_of_lt hb, Nat.mod_eq_of_lt (Nat.or_lt_two_pow ha hb)]
theorem one_shl : ∀ c, c < 31 → (1 : Int32) <<< (nI c &&& 31) = nI (2 ^ c) := by decide +kernel
/-- the truth of a statement for all below n -/
def allB (P : Nat → Bool) : Nat → Bool
  | 0 => true
  | n + 1 => allB P n && P n
theorem allB_iff (P : Nat → Bool) : ∀ n, allB P n = true ↔ ∀ k, k < n → P k = true := by
  intro n
  induction n with
  | zero => simp [allB]
  | succ n ih =>
    unfold allB
    rw [Bool.and_eq_true, ih]
    constructor
    · rintro ⟨h1, h2⟩ k hk
      by_cases g : k = n
      · rw [g]; exact h2
      · exact h1 k (by omega)
    · intro h
      exact ⟨fun k hk => h k (by omega), h n (by omega)⟩
theorem allB_congr {P Q : Nat → Bool} {n : Nat} (h : ∀ k, k < n → P k = Q k) : allB P n = allB Q n := by
  apply Bool.eq_iff_iff.mpr
  rw [allB_iff, allB_iff]
  exact ⟨fun g k hk => by rw [← h k hk]; exact g k hk, fun g k hk => by rw [h k hk]; exact g k hk⟩
/-- a loop that ends at the first that fails -/
theorem for_all {R : Type} (E : Nat → R) (P : Nat → Bool) (N : Nat) (rT rF : R) (h : ∀ k, k < N → E k = if P k = true then E (k + 1) else rF) (hN : E N = rT) : E 0 = if allB P N = true then rT else rF := by
  have key : ∀ m k, k + m = N → ((∀ j, k ≤ j → j < N → P j = true) → E k = rT) ∧ ((∃ j, k ≤ j ∧ j < N ∧ P j = false) → E k = rF) := by
    intro m
    induction m with
    | zero =>
      intro k hk
      have : k = N := by omega
      subst this
      exact ⟨fun _ => hN, fun ⟨j, h1, h2, _⟩ => absurd h1 (by omega)⟩
    | succ m ih =>
      intro k hk
      obtain ⟨i1, i2⟩ := ih (k + 1) (by omega)
      rw [h k (by omega)]
      cases g : P k with
      | false =>
        simp only [Bool.false_eq_true, if_false, implies_true, and_true]
        intro hh
        have := hh k (Nat.le_refl _) (by omega)
        rw [g] at this
        cases this
      | true =>
        simp only [if_true]
        refine ⟨fun hh => i1 (fun j h1 h2 => hh j (by omega) h2), ?_⟩
        rintro ⟨j, h1, h2, h3⟩
        refine i2 ⟨j, ?_, h2, h3⟩
        by_cases e : j = k
        · rw [e, g] at h3; cases h3
        · omega
  obtain ⟨k1, k2⟩ := key N 0 (by omega)
  cases g : allB P N with
  | true => simp only [if_true]; exact k1 (fun j _ hj => (allB_iff P N).mp g j hj)
  | false =>
    simp only [Bool.false_eq_true, if_false]
    apply k2
    apply Classical.byContradiction
    intro hn
    have : allB P N = true := (allB_iff P N).mpr (fun k hk => by
      cases e : P k with
      | true => rfl
      | false => exact absurd ⟨k, Nat.zero_le _, hk, e⟩ hn)
    rw [g] at this
    cases this
def sumN (f : Nat → Nat) : Nat → Nat
  | 0 => 0
  | n + 1 => sumN f n + f n
theorem sumN_fold (f : Nat → Nat) : ∀ n, foldN (fun k s => s + f k) n 0 = sumN f n := by
  intro n
  induction n with
  | zero => rfl
  | succ n ih =>
    show foldN (fun k s => s + f k) n 0 + f n = _
    rw [ih]; rfl
theorem sumN_le {f : Nat → Nat} {m : Nat} : ∀ n, (∀ k, k < n → f k ≤ m) → sumN f n ≤ n * m := by
  intro n
  induction n with
  | zero => intro _; simp [sumN]
  | succ n ih =>
    intro h
    have := ih (fun k hk => h k (by omega))
    have := h n (by omega)
    unfold sumN
    rw [Nat.succ_mul]
    omega
theorem pc_csN (col : Nat → Nat) (x : Nat) : pc (csN col x) = cnt (fun k => decide (col k = x)) 36 := by
  unfold pc
  rw [cnt_congr (Q := fun k => decide (k < 36) && decide (col k = x)) (fun k _ => csN_b col x k), cnt_add _ 36 4]
  rw [cnt_congr (P := fun k => decide (k < 36) && decide (col k = x)) (Q := fun k => decide (col k = x)) (fun k hk => by simp [hk])]
  rw [cnt_congr (P := fun k => decide (36 + k < 36) && decide (col (36 + k) = x)) (Q := fun _ => false) (fun k hk => by simp; intro g; omega), cnt_false, Nat.add_zero]
theorem s_countHoles {w : AH} {c : Nat} {col wear : Nat → Nat} (h : CarAt w c col wear) (lv : Nat) : Call M_X0_countHoles lv [.ref c] w = some (some (.int (nI (cnt (fun k => decide (col k = 0)) 36))), w) := by
  simp only [C_X0_countHoles, R_X0_countHoles, SB, clK_gf h.p0, show (0 : Int32) = nI 0 from rfl, s_ofColour h (show 0 < 8 by decide), s_bitCount _ (Nat.lt_of_lt_of_le (csN_lt col 0) (by decide)), pc_csN, if_true]
theorem s_wearOfAll {w : AH} {c : Nat} {col wear : Nat → Nat} (h : CarAt w c col wear) (lv : Nat) : Call M_X0_wearOfAll lv [.ref c] w = some (some (.int (nI (sumN wear 36))), w) := by
  have hl := for_up0 (fun k s => Ex M_X0_wearOfAll lv 4 [some (.ref c), some (.int (nI s)), some (.int (nI k))] [] w) (fun k s => s + wear k) 36 (by
    intro k s hk
    have e1 : ((36 : Int32) ≤ nI k) = False := by rw [show (36 : Int32) = nI 36 from rfl, le_nI (by decide) (by omega)]; simp; omega
    rw [H_X0_wearOfAll_4]
    simp only [R_X0_wearOfAll, SB, e1, h.p1, h.q1.get (by decide) hk, if_true, if_false, ls1s, nI_1, nI_add]) 0
  have e2 : ((36 : Int32) ≤ nI 36) = True := by rw [show (36 : Int32) = nI 36 from rfl]; simp
  simp only [C_X0_wearOfAll, R_X0_wearOfAll, SB, ls1s, show (0 : Int32) = nI 0 from rfl]
  refine hl.trans ?_
  rw [H_X0_wearOfAll_4]
  simp only [R_X0_wearOfAll, SB, e2, if_true, sumN_fold]
/-- the land of a knot -/
def land (col : Nat → Nat) (k : Nat) : Nat := gro (csN col (col k)) 36 (2 ^ k &&& csN col (col k))
theorem two_lt {k : Nat} (hk : k < 36) : 2 ^ k < 2 ^ 36 := Nat.pow_lt_pow_right (by decide) hk
theorem land_lt (col : Nat → Nat) {k : Nat} (hk : k < 36) : land col k < 2 ^ 36 := (gro_all (two_lt hk) (csN_lt col (col k))).1
theorem s_landOf {w : AH} {c : Nat} {col wear : Nat → Nat} (h : CarAt w c col wear) {k : Nat} (hk : k < 36) (lv : Nat) : Call M_X0_landOf lv [.ref c, .int (nI k)] w = some (some (.long (lN (land col k))), w) := by
  simp only [C_X0_landOf, R_X0_landOf, SB, clK_gf h.p0, s_of, inR_nI (show k < 2147483648 by omega), hk, decide_true, nI_c (show k < 2147483648 by omega), s_colourOf h hk, s_ofColour h (h.r0 k hk), s_grown (two_lt hk) (csN_lt col (col k)), if_true, land]
/-- the colours of a set of knots -/
def ciF (col : Nat → Nat) (S : Nat) : Nat → Nat → Nat := fun k s => if S.testBit k = true then s ||| 2 ^ col k else s
def ciN (col : Nat → Nat) (S : Nat) : Nat := foldN (ciF col S) 36 0
theorem p8 {x : Nat} (h : x < 8) : 2 ^ x < 2 ^ 8 := Nat.pow_lt_pow_right (by decide) h
theorem s_coloursIn {w : AH} {c : Nat} {col wear : Nat → Nat} (h : CarAt w c col wear) {S : Nat} (hS : S < 2 ^ 36) (lv : Nat) : Call M_X0_coloursIn lv [.ref c, .long (lN S)] w = some (some (.int (nI (ciN col S))), w) := by
  have hl := (for_up (fun k s => Ex M_X0_coloursIn lv 5 [some (.ref c), some (.long (lN S)), none, some (.int (nI s)), some (.int (nI k))] [] w) (ciF col S) (fun _ s => s < 2 ^ 8) 36 (by
    intro k s hk hs0
    have hc := h.r0 k hk
    have hb : ciF col S k s < 2 ^ 8 := by
      unfold ciF
      split
      · exact Nat.or_lt_two_pow hs0 (p8 hc)
      · exact hs0
    refine ⟨?_, hb⟩
    have e1 : ((36 : Int32) ≤ nI k) = False := by rw [show (36 : Int32) = nI 36 from rfl, le_nI (by decide) (by omega)]; simp; omega
    rw [H_X0_coloursIn_5]
    simp only [R_X0_coloursIn, SB, e1, s_has hS hk, bI_e0, h.p0, h.q0.get (by decide) hk, if_true, if_false, ls1s, nI_1, one_shl (col k) (by omega), nI_or (show s < 2 ^ 32 by omega) (show 2 ^ col k < 2 ^ 32 from Nat.lt_trans (p8 hc) (by decide))]
    unfold ciF
    cases g : S.testBit k <;> simp) 36 0 (Nat.le_refl _) (by decide)).1
  have e2 : ((36 : Int32) ≤ nI 36) = True := by rw [show (36 : Int32) = nI 36 from rfl]; simp
  simp only [C_X0_coloursIn, R_X0_coloursIn, SB, ls1s, show (0 : Int32) = nI 0 from rfl]
  refine hl.trans ?_
  rw [H_X0_coloursIn_5]
  simp only [R_X0_coloursIn, SB, e2, if_true, ciN]
