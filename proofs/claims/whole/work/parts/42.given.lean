/-! ===== what a text gives ===== -/
theorem rem7 (x : Int32) : ∃ q r : Int, x.toInt = 7 * q + r ∧ -7 < r ∧ r < 7 ∧ x - x / 7 * 7 = iz r ∧ (0 ≤ x.toInt → 0 ≤ r) ∧ (x.toInt < 0 → r ≤ 0) := by
  refine ⟨x.toInt.tdiv 7, x.toInt.tmod 7, ?_, ?_, ?_, ?_, fun h => Int.tmod_nonneg 7 h, fun h => ?_⟩
  · exact (Int.mul_tdiv_add_tmod x.toInt 7).symm
  · exact Int.lt_tmod_of_pos _ (by decide)
  · exact Int.tmod_lt_of_pos _ (by decide)
  · have h1 : x / 7 = iz (x.toInt.tdiv 7) := by
      apply Int32.toInt_inj.mp
      rw [Int32.toInt_div_of_ne_right _ _ (by decide), show (7 : Int32).toInt = 7 from rfl]
      have a1 := Int32.toInt_lt x
      have a2 := Int32.le_toInt x
      have a3 := Int.mul_tdiv_add_tmod x.toInt 7
      have a4 : -7 < x.toInt.tmod 7 := Int.lt_tmod_of_pos _ (by decide)
      have a5 : x.toInt.tmod 7 < 7 := Int.tmod_lt_of_pos _ (by decide)
      rw [iz_toInt (by omega) (by omega)]
    rw [h1, show (7 : Int32) = iz 7 from rfl, iz_mul]
    have : x = iz x.toInt := (iz_of x).symm
    rw [show x - iz (x.toInt.tdiv 7 * 7) = iz x.toInt - iz (x.toInt.tdiv 7 * 7) from by rw [← this], iz_sub]
    congr 1
    have a3 := Int.mul_tdiv_add_tmod x.toInt 7
    omega
  · have h1 : 0 ≤ (-x.toInt).tmod 7 := Int.tmod_nonneg 7 (by omega)
    rw [Int.neg_tmod] at h1
    omega
theorem xor7 (v : Int32) : ((0 : Int32) ≤ v ^^^ 7) = (0 ≤ v.toInt) := by
  rw [le_t, show (0 : Int32).toInt = 0 from rfl]
  have h1 : (v ^^^ 7).toBitVec.msb = v.toBitVec.msb := by
    rw [Int32.toBitVec_xor, BitVec.msb_xor, show (7 : Int32).toBitVec.msb = false from by decide, Bool.xor_false]
  rw [BitVec.msb_eq_toInt, BitVec.msb_eq_toInt] at h1
  have h2 : ((v ^^^ 7).toInt < 0) = (v.toInt < 0) := by
    apply propext
    exact decide_eq_decide.mp h1
  apply propext
  rw [← Int.not_lt, h2, Int.not_lt]
theorem fm7 : ∀ k : Nat, k < 13 → (if 6 ≤ k then iz ((k : Int) - 6) else iz ((k : Int) - 6) + 7) = nI ((k + 1) % 7) := by decide +kernel
/-- the colour that a value stands for -/
def pcN (v : Int32) : Nat := (v.toInt % 7).toNat + 1
theorem pcN_lt (v : Int32) : pcN v < 8 := by unfold pcN; omega
theorem s_floorMod7 (v : Int32) (w : AH) (lv : Nat) : Call M_J9_floorMod_7cf53 lv [.int v, .int 7] w = some (some (.int (nI (pcN v - 1))), w) := by
  obtain ⟨q, r, h1, h2, h3, h4, h8, h9⟩ := rem7 v
  have h5 := fm7 (r + 6).toNat (by omega)
  rw [show (((r + 6).toNat : Nat) : Int) - 6 = r by omega] at h5
  have e0 : (iz r = 0) = (r = 0) := by
    rw [eq_t, iz_toInt (by omega) (by omega), show (0 : Int32).toInt = 0 from rfl]
  simp only [C_J9_floorMod_7cf53, R_J9_floorMod_7cf53, SB, show ((7 : Int32) = 0) = False from by simp, if_false, h4, ls1s, xor7, e0]
  by_cases g1 : 0 ≤ v.toInt
  · have := h8 g1
    rw [if_pos (by omega)] at h5
    rw [if_pos g1, h5, show ((r + 6).toNat + 1) % 7 = pcN v - 1 by unfold pcN; omega]
  · have := h9 (by omega)
    rw [if_neg g1]
    by_cases g2 : r = 0
    · rw [if_pos (by omega)] at h5
      rw [if_pos g2, h5, show ((r + 6).toNat + 1) % 7 = pcN v - 1 by unfold pcN; omega]
    · rw [if_neg (by omega)] at h5
      rw [if_neg g2, h5, show ((r + 6).toNat + 1) % 7 = pcN v - 1 by unfold pcN; omega]
theorem s_max (a b : Int32) (w : AH) (lv : Nat) : Call M_J9_max_7cf53 lv [.int a, .int b] w = some (some (.int (if a.toInt < b.toInt then b else a)), w) := by
  simp only [C_J9_max_7cf53, R_J9_max_7cf53, SB, lt_t]
  by_cases g : a.toInt < b.toInt
  · simp [g]
  · simp [g]
/-- a value held between 0 and 99 -/
def hdN (v : Int32) : Nat := if v.toInt < 0 then 0 else if 99 < v.toInt then 99 else v.toInt.toNat
theorem hdN_lt (v : Int32) : hdN v < 100 := by
  unfold hdN
  split
  · decide
  · split <;> omega
theorem hd_I (v : Int32) : (if (0 : Int32).toInt < (if (99 : Int32).toInt ≤ v.toInt then (99 : Int32) else v).toInt then (if (99 : Int32).toInt ≤ v.toInt then (99 : Int32) else v) else 0) = nI (hdN v) := by
  rw [show (0 : Int32).toInt = 0 from rfl, show (99 : Int32).toInt = 99 from rfl]
  unfold hdN
  by_cases g1 : v.toInt < 0
  · rw [if_neg (show ¬ (99 : Int) ≤ v.toInt by omega), if_neg (by omega), if_pos g1]; rfl
  · rw [if_neg g1]
    by_cases g2 : (99 : Int) < v.toInt
    · rw [if_pos (show (99 : Int) ≤ v.toInt by omega), if_pos (by decide), if_pos g2]; rfl
    · rw [if_neg g2]
      by_cases g3 : (99 : Int) ≤ v.toInt
      · rw [if_pos g3, if_pos (by decide), show v.toInt.toNat = 99 by omega]; rfl
      · rw [if_neg g3]
        have : nI v.toInt.toNat = v := by
          apply Int32.toInt_inj.mp
          rw [nI_t (by have := Int32.toInt_lt v; omega)]
          omega
        by_cases g4 : (0 : Int) < v.toInt
        · rw [if_pos g4, this]
        · rw [if_neg g4, show v.toInt.toNat = 0 by omega]; rfl
theorem s_Law_isThere {w : AH} {l L : Nat} {f : Nat → Int32} (h : LwAt w l L f) (lv : Nat) : Call M_X3_isThere lv [.ref l] w = some (some (.int (bI (decide (0 < L)))), w) := by
  have hL : L ≤ 50 := h.q.2.2.2.2.1
  have e0 : (nI L ≤ 0) = (L = 0) := by rw [show (0 : Int32) = nI 0 from rfl, le_nI (by omega) (by decide)]; apply propext; omega
  simp only [C_X3_isThere, R_X3_isThere, SB, h.p0, h.q.2.1, e0, if_true]
  unfold bI
  by_cases g : L = 0
  · simp [g]
  · simp [g, Nat.pos_of_ne_zero g]
/-- what the signs of a text work out -/
def evI (L : Nat) (f : Nat → Int32) (G : Nat → Int32) (a b c : Int32) : Int32 := (foldN (wsF f a b c) L (0, G)).2 0
