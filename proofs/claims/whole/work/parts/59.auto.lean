/-! ===== arithmetic of literals, for simp with omega at the side ===== -/
theorem lit_le (n k : Nat) (hn : (OfNat.ofNat n : Nat) < 2147483648) (hk : k < 2147483648) : ((no_index (OfNat.ofNat n : Int32)) ≤ nI k) = ((OfNat.ofNat n : Nat) ≤ k) := le_nI hn hk
theorem le_lit (n k : Nat) (hn : (OfNat.ofNat n : Nat) < 2147483648) (hk : k < 2147483648) : (nI k ≤ (no_index (OfNat.ofNat n : Int32))) = (k ≤ (OfNat.ofNat n : Nat)) := le_nI hk hn
theorem lit_lt (n k : Nat) (hn : (OfNat.ofNat n : Nat) < 2147483648) (hk : k < 2147483648) : ((no_index (OfNat.ofNat n : Int32)) < nI k) = ((OfNat.ofNat n : Nat) < k) := lt_nI hn hk
theorem lt_lit (n k : Nat) (hn : (OfNat.ofNat n : Nat) < 2147483648) (hk : k < 2147483648) : (nI k < (no_index (OfNat.ofNat n : Int32))) = (k < (OfNat.ofNat n : Nat)) := lt_nI hk hn
theorem eq_lit (n k : Nat) (hn : (OfNat.ofNat n : Nat) < 2147483648) (hk : k < 2147483648) : (nI k = (no_index (OfNat.ofNat n : Int32))) = (k = (OfNat.ofNat n : Nat)) := eq_nI hk hn
theorem lit_add (n k : Nat) : (no_index (OfNat.ofNat n : Int32)) + nI k = nI ((OfNat.ofNat n : Nat) + k) := nI_add _ _
theorem add_lit (n k : Nat) : nI k + (no_index (OfNat.ofNat n : Int32)) = nI (k + (OfNat.ofNat n : Nat)) := nI_add _ _
theorem lit_sub (n k : Nat) (h : k ≤ (OfNat.ofNat n : Nat)) : (no_index (OfNat.ofNat n : Int32)) - nI k = nI ((OfNat.ofNat n : Nat) - k) := pk_sub h
theorem sub_lit (n k : Nat) (h : (OfNat.ofNat n : Nat) ≤ k) : nI k - (no_index (OfNat.ofNat n : Int32)) = nI (k - (OfNat.ofNat n : Nat)) := pk_sub h
theorem lit_mul (n k : Nat) : (no_index (OfNat.ofNat n : Int32)) * nI k = nI ((OfNat.ofNat n : Nat) * k) := pk_mul _ _
theorem mul_lit (n k : Nat) : nI k * (no_index (OfNat.ofNat n : Int32)) = nI (k * (OfNat.ofNat n : Nat)) := pk_mul _ _
theorem div_lit (n k : Nat) (hk : k < 2 ^ 31) (h0 : 0 < (OfNat.ofNat n : Nat)) (hn : (OfNat.ofNat n : Nat) < 2 ^ 31) : nI k / (no_index (OfNat.ofNat n : Int32)) = nI (k / (OfNat.ofNat n : Nat)) := pk_div hk h0 hn
theorem sub_nI {a b : Nat} (h : b ≤ a) : nI a - nI b = nI (a - b) := pk_sub h
theorem aI_a {n : Nat} {f : Nat → Int32} {k : Nat} (h : k < n) (hn : n ≤ 2147483648) : aI (.inl (0, n, .inl f)) (nI k) = some (f k) := aI_0 h hn
theorem aI_l {n : Nat} {f : Nat → Int32} (k : Nat) (h : (OfNat.ofNat k : Nat) < n) (hn : n ≤ 2147483648) : aI (.inl (0, n, .inl f)) (no_index (OfNat.ofNat k : Int32)) = some (f (OfNat.ofNat k)) := aI_0 h hn
theorem uI_l {n : Nat} {f : Nat → Int32} (k : Nat) {x : Int32} (h : (OfNat.ofNat k : Nat) < n) (hn : n ≤ 2147483648) : uI (.inl (0, n, .inl f)) (no_index (OfNat.ofNat k : Int32)) x = some (.inl (0, n, .inl (upd f (OfNat.ofNat k) x))) := uI_0 h hn
theorem bI_n1 (b : Bool) : (¬ bI b = 1) = (b = false) := by cases b <;> decide
theorem dec_t {p : Prop} [Decidable p] : (decide p = true) = p := propext decide_eq_true_iff
theorem dec_f {p : Prop} [Decidable p] : (decide p = false) = ¬ p := propext decide_eq_false_iff_not
theorem i64_le (a b : Int64) : (a ≤ b) = (a.toInt ≤ b.toInt) := propext Int64.le_iff_toInt_le
theorem i64_lt (a b : Int64) : (a < b) = (a.toInt < b.toInt) := propext Int64.lt_iff_toInt_lt
theorem s_m_in (v lo hi : Int64) (w : AH) (lv : Nat) : Call M_X12_in lv [.long v, .long lo, .long hi] w = some (some (.int (bI (decide (lo.toInt ≤ v.toInt ∧ v.toInt ≤ hi.toInt)))), w) := by
  simp only [C_X12_in, R_X12_in, SB, lg_cmp_lt, lg_cmp_gt, i64_lt]
  by_cases h1 : v.toInt < lo.toInt
  · simp [h1, bI, Int.not_le.mpr h1]
  · by_cases h2 : hi.toInt < v.toInt
    · simp [h1, h2, bI, Int.not_le.mpr h2]
    · simp [h1, h2, bI, Int.not_lt.mp h1, Int.not_lt.mp h2]
theorem i64_of (x : Int32) : x.toInt64.toInt = x.toInt := Int32.toInt_toInt64 x
/-- in(v, 0, n - 1) -/
theorem s_m_inR (x : Int32) (hi : Int64) (n : Nat) (h : hi.toInt + 1 = n) (w : AH) (lv : Nat) : Call M_X12_in lv [.long x.toInt64, .long 0, .long hi] w = some (some (.int (bI (inR x n))), w) := by
  rw [s_m_in, i64_of, show (0 : Int64).toInt = 0 from rfl]
  unfold inR
  simp only [show (0 ≤ x.toInt ∧ x.toInt ≤ hi.toInt) = (0 ≤ x.toInt ∧ x.toInt < n) from by apply propext; omega]

theorem b_ft (b : Bool) : (b = false ∨ b = true) = True := by cases b <;> simp
theorem i10 : ((1 : Int32) = 0) = False := by decide
theorem i01 : ((0 : Int32) = 1) = False := by decide
