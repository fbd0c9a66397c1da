/-! ===== bits: the wb rows are pasted from the kit's BITS family ===== -/
theorem wb_tb (n : Nat) : (lN n).toBitVec = BitVec.ofNat 64 n := rfl
theorem wb_inj {a b : Int64} (h : a.toBitVec = b.toBitVec) : a = b := Int64.toBitVec_inj.mp h
theorem wb_tn {n : Nat} (h : n < 2 ^ 64) : (lN n).toBitVec.toNat = n := by rw [wb_tb, BitVec.toNat_ofNat, Nat.mod_eq_of_lt h]
theorem wb_of (x : Int64) : ∃ n, n < 2 ^ 64 ∧ x = lN n := ⟨x.toBitVec.toNat, x.toBitVec.isLt, wb_inj (by rw [wb_tb]; simp)⟩
theorem wb_of32 (x : Int32) : ∃ n, n < 2 ^ 32 ∧ x = nI n := ⟨x.toBitVec.toNat, x.toBitVec.isLt, Int32.toBitVec_inj.mp (by show _ = BitVec.ofNat 32 _; simp)⟩
theorem wb_c : ∀ k, k < 64 → ((nI k).toInt64 &&& 63) = lN k := by decide +kernel
theorem wb_cu : ∀ k, k < 64 → ((nI k).toInt64.toUInt64 &&& Int64.toUInt64 63) = UInt64.ofNat k := by decide +kernel
theorem wb_sm : ∀ k, k < 64 → (BitVec.ofNat 64 k).smod 64 = BitVec.ofNat 64 k := by decide +kernel
theorem wb_pw {a b : Nat} (h : a ≤ b) : 2 ^ b = 2 ^ a * 2 ^ (b - a) := by rw [← Nat.pow_add]; congr 1; omega
theorem wb_lt2 {a b : Nat} (h : a < b) : 2 ^ a < 2 ^ b := Nat.pow_lt_pow_right (by decide) h
theorem wb_mod (n : Nat) : lN n = lN (n % 2 ^ 64) := wb_inj (by rw [wb_tb, wb_tb]; apply BitVec.eq_of_toNat_eq; rw [BitVec.toNat_ofNat, BitVec.toNat_ofNat, Nat.mod_mod])
theorem wb_shr {n k : Nat} (hn : n < 2 ^ 64) (hk : k < 64) : ((lN n).toUInt64 >>> ((nI k).toInt64.toUInt64 &&& Int64.toUInt64 63)).toInt64 = lN (n / 2 ^ k) := by
  rw [wb_cu k hk]
  apply wb_inj
  apply BitVec.eq_of_toNat_eq
  show ((lN n).toUInt64 >>> UInt64.ofNat k).toNat = (BitVec.ofNat 64 _).toNat
  have h1 : (UInt64.ofNat k).toNat = k := by
    show (BitVec.ofNat 64 k).toNat = k
    rw [BitVec.toNat_ofNat, Nat.mod_eq_of_lt (by omega)]
  have h2 : (lN n).toUInt64.toNat = n := wb_tn hn
  rw [UInt64.toNat_shiftRight, h1, h2, Nat.mod_eq_of_lt hk, Nat.shiftRight_eq_div_pow, BitVec.toNat_ofNat, Nat.mod_eq_of_lt (Nat.lt_of_le_of_lt (Nat.div_le_self _ _) hn)]
theorem wb_shl (n : Nat) {k : Nat} (hk : k < 64) : lN n <<< ((nI k).toInt64 &&& 63) = lN (n * 2 ^ k) := by
  rw [wb_c k hk]
  apply wb_inj
  rw [Int64.toBitVec_shiftLeft, wb_tb, wb_tb, wb_tb, wb_sm k hk]
  apply BitVec.eq_of_toNat_eq
  rw [BitVec.shiftLeft_eq', BitVec.toNat_shiftLeft, BitVec.toNat_ofNat, BitVec.toNat_ofNat, BitVec.toNat_ofNat, Nat.mod_eq_of_lt (show k < 2 ^ 64 by omega), Nat.shiftLeft_eq, Nat.mul_mod, Nat.mod_mod, ← Nat.mul_mod]
theorem wb_and {a b : Nat} (ha : a < 2 ^ 64) (hb : b < 2 ^ 64) : lN a &&& lN b = lN (a &&& b) := by
  apply wb_inj
  rw [Int64.toBitVec_and, wb_tb, wb_tb, wb_tb]
  apply BitVec.eq_of_toNat_eq
  rw [BitVec.toNat_and, BitVec.toNat_ofNat, BitVec.toNat_ofNat, BitVec.toNat_ofNat, Nat.mod_eq_of_lt ha, Nat.mod_eq_of_lt hb, Nat.mod_eq_of_lt (Nat.and_lt_two_pow _ hb)]
theorem wb_or {a b : Nat} (ha : a < 2 ^ 64) (hb : b < 2 ^ 64) : lN a ||| lN b = lN (a ||| b) := by
  apply wb_inj
  rw [Int64.toBitVec_or, wb_tb, wb_tb, wb_tb]
  apply BitVec.eq_of_toNat_eq
  rw [BitVec.toNat_or, BitVec.toNat_ofNat, BitVec.toNat_ofNat, BitVec.toNat_ofNat, Nat.mod_eq_of_lt ha, Nat.mod_eq_of_lt hb, Nat.mod_eq_of_lt (Nat.or_lt_two_pow ha hb)]
theorem wb_mask {n k : Nat} (hn : n < 2 ^ 64) (hk : k < 64) : lN n &&& lN (2 ^ k - 1) = lN (n % 2 ^ k) := by
  rw [wb_and hn (by have := wb_lt2 hk; omega), Nat.and_two_pow_sub_one_eq_mod]
theorem wb_a1 {n : Nat} (hn : n < 2 ^ 64) : lN n &&& 1 = lN (n % 2) := wb_mask (k := 1) hn (by decide)
theorem wb_bit {n k : Nat} (hn : n < 2 ^ 64) (hk : k < 64) : ((lN n).toUInt64 >>> ((nI k).toInt64.toUInt64 &&& Int64.toUInt64 63)).toInt64 &&& 1 = lN (n / 2 ^ k % 2) := by
  rw [wb_shr hn hk, wb_a1 (Nat.lt_of_le_of_lt (Nat.div_le_self _ _) hn)]
/-- how many of the first n hold -/
def cnt (P : Nat → Bool) : Nat → Nat
  | 0 => 0
  | n + 1 => cnt P n + (if P n = true then 1 else 0)
theorem cnt_le (P : Nat → Bool) : ∀ n, cnt P n ≤ n
  | 0 => Nat.le_refl _
  | n + 1 => by
    have := cnt_le P n
    unfold cnt
    split <;> omega
theorem cnt_congr {P Q : Nat → Bool} : ∀ {n : Nat}, (∀ k, k < n → P k = Q k) → cnt P n = cnt Q n
  | 0, _ => rfl
  | n + 1, h => by
    unfold cnt
    rw [cnt_congr (fun k hk => h k (by omega)), h n (by omega)]
theorem cnt_add (P : Nat → Bool) (a : Nat) : ∀ b, cnt P (a + b) = cnt P a + cnt (fun k => P (a + k)) b
  | 0 => rfl
  | b + 1 => by
    show cnt P (a + b) + _ = cnt P a + (cnt (fun k => P (a + k)) b + _)
    rw [cnt_add P a b, Nat.add_assoc]
    rfl
theorem cnt_false : ∀ n, cnt (fun _ => false) n = 0
  | 0 => rfl
  | n + 1 => by unfold cnt; rw [cnt_false n]; rfl
theorem and_sp (n m k : Nat) : n &&& m = (n % 2 ^ k &&& m % 2 ^ k) + 2 ^ k * (n / 2 ^ k &&& m / 2 ^ k) := by
  have h1 : (n &&& m) % 2 ^ k = n % 2 ^ k &&& m % 2 ^ k := Nat.and_mod_two_pow
  have h2 : (n &&& m) / 2 ^ k = n / 2 ^ k &&& m / 2 ^ k := Nat.and_div_two_pow
  rw [← h1, ← h2]
  exact (Nat.mod_add_div _ _).symm
theorem and_by (x y a b : Nat) (hx : x < 256) (ha : a < 256) : (x + 256 * y) &&& (a + 256 * b) = (x &&& a) + 256 * (y &&& b) := by
  have h := and_sp (x + 256 * y) (a + 256 * b) 8
  rw [show (2 : Nat) ^ 8 = 256 from rfl, Nat.add_mul_mod_self_left, Nat.add_mul_mod_self_left, Nat.mod_eq_of_lt hx, Nat.mod_eq_of_lt ha, Nat.add_mul_div_left _ _ (by decide : 0 < 256), Nat.add_mul_div_left _ _ (by decide : 0 < 256), Nat.div_eq_of_lt hx, Nat.div_eq_of_lt ha, Nat.zero_add, Nat.zero_add] at h
  exact h
theorem by_1 : ∀ x, x < 256 → ∀ y, y < 2 → (x / 2 + 128 * y) &&& 85 = (x / 2) &&& 85 := by decide +kernel
theorem by_1s : ∀ x, x < 256 → (x / 2) &&& 85 ≤ x := by decide +kernel
def q1 (x : Nat) : Nat := x - ((x / 2) &&& 85)
theorem by_q1 : ∀ x, x < 256 → q1 x < 256 := by decide +kernel
theorem by_2 : ∀ x, x < 256 → ∀ y, y < 4 → (x / 4 + 64 * y) &&& 51 = (x / 4) &&& 51 := by decide +kernel
def q2 (x : Nat) : Nat := (q1 x &&& 51) + ((q1 x / 4) &&& 51)
theorem by_q2 : ∀ x, x < 256 → q2 x < 128 ∧ q2 x % 16 ≤ 4 ∧ q2 x / 16 ≤ 4 := by decide +kernel
theorem by_3 : ∀ x, x < 256 → (x &&& 15) = x % 16 := by decide +kernel
def q3 (x : Nat) : Nat := (q2 x % 16 + q2 x / 16) % 16
theorem by_q3 : ∀ x, x < 256 → q3 x = cnt (fun k => x.testBit k) 8 := by decide +kernel
theorem by_q3e : ∀ x, x < 256 → q3 x = q2 x % 16 + q2 x / 16 := by decide +kernel
def h5 (a b c d e : Nat) : Nat := a + 256 * (b + 256 * (c + 256 * (d + 256 * e)))
theorem h5_of (n : Nat) (h : n < 2 ^ 40) : ∃ a b c d e, a < 256 ∧ b < 256 ∧ c < 256 ∧ d < 256 ∧ e < 256 ∧ n = h5 a b c d e := by
  refine ⟨n % 256, n / 256 % 256, n / 65536 % 256, n / 16777216 % 256, n / 4294967296, by omega, by omega, by omega, by omega, by omega, ?_⟩
  unfold h5
  omega
theorem h5_and (a b c d e m r : Nat) (ha : a < 256) (hb : b < 256) (hc : c < 256) (hd : d < 256) (he : e < 256) (hm : m < 256) : h5 a b c d e &&& (m + 256 * (m + 256 * (m + 256 * (m + 256 * (m + 256 * r))))) = h5 (a &&& m) (b &&& m) (c &&& m) (d &&& m) (e &&& m) := by
  unfold h5
  rw [and_by _ _ _ _ ha hm, and_by _ _ _ _ hb hm, and_by _ _ _ _ hc hm, and_by _ _ _ _ hd hm]
  have : e &&& (m + 256 * r) = e &&& m := by
    have h := and_by e 0 m r he hm
    rw [Nat.mul_zero, Nat.add_zero, Nat.zero_and, Nat.mul_zero, Nat.add_zero] at h
    exact h
  rw [this]
theorem st1 (a b c d e : Nat) (ha : a < 256) (hb : b < 256) (hc : c < 256) (hd : d < 256) (he : e < 256) : h5 a b c d e - ((h5 a b c d e / 2) &&& 6148914691236517205) = h5 (q1 a) (q1 b) (q1 c) (q1 d) (q1 e) := by
  have h1 : h5 a b c d e / 2 = h5 (a / 2 + 128 * (b % 2)) (b / 2 + 128 * (c % 2)) (c / 2 + 128 * (d % 2)) (d / 2 + 128 * (e % 2)) (e / 2 + 128 * 0) := by unfold h5; omega
  rw [h1, show (6148914691236517205 : Nat) = 85 + 256 * (85 + 256 * (85 + 256 * (85 + 256 * (85 + 256 * 5592405)))) from by decide, h5_and _ _ _ _ _ _ _ (by omega) (by omega) (by omega) (by omega) (by omega) (by omega)]
  rw [by_1 a ha _ (by omega), by_1 b hb _ (by omega), by_1 c hc _ (by omega), by_1 d hd _ (by omega), by_1 e he _ (by omega)]
  have := by_1s a ha
  have := by_1s b hb
  have := by_1s c hc
  have := by_1s d hd
  have := by_1s e he
  unfold h5 q1
  omega
theorem st2 (a b c d e : Nat) (ha : a < 256) (hb : b < 256) (hc : c < 256) (hd : d < 256) (he : e < 256) : (h5 (q1 a) (q1 b) (q1 c) (q1 d) (q1 e) &&& 3689348814741910323) + ((h5 (q1 a) (q1 b) (q1 c) (q1 d) (q1 e) / 4) &&& 3689348814741910323) = h5 (q2 a) (q2 b) (q2 c) (q2 d) (q2 e) := by
  have a1 := by_q1 a ha
  have b1 := by_q1 b hb
  have c1 := by_q1 c hc
  have d1 := by_q1 d hd
  have e1 := by_q1 e he
  have h1 : h5 (q1 a) (q1 b) (q1 c) (q1 d) (q1 e) / 4 = h5 (q1 a / 4 + 64 * (q1 b % 4)) (q1 b / 4 + 64 * (q1 c % 4)) (q1 c / 4 + 64 * (q1 d % 4)) (q1 d / 4 + 64 * (q1 e % 4)) (q1 e / 4 + 64 * 0) := by unfold h5; omega
  rw [h1, show (3689348814741910323 : Nat) = 51 + 256 * (51 + 256 * (51 + 256 * (51 + 256 * (51 + 256 * 3355443)))) from by decide, h5_and _ _ _ _ _ _ _ (by omega) (by omega) (by omega) (by omega) (by omega) (by omega), h5_and _ _ _ _ _ _ _ (by omega) (by omega) (by omega) (by omega) (by omega) (by omega)]
  rw [by_2 _ a1 _ (by omega), by_2 _ b1 _ (by omega), by_2 _ c1 _ (by omega), by_2 _ d1 _ (by omega), by_2 _ e1 _ (by omega)]
  unfold h5 q2
  omega
theorem st3 (a b c d e : Nat) (ha : a < 256) (hb : b < 256) (hc : c < 256) (hd : d < 256) (he : e < 256) : (h5 (q2 a) (q2 b) (q2 c) (q2 d) (q2 e) + h5 (q2 a) (q2 b) (q2 c) (q2 d) (q2 e) / 16) &&& 1085102592571150095 = h5 (q3 a) (q3 b) (q3 c) (q3 d) (q3 e) := by
  obtain ⟨a1, a2, a3⟩ := by_q2 a ha
  obtain ⟨b1, b2, b3⟩ := by_q2 b hb
  obtain ⟨c1, c2, c3⟩ := by_q2 c hc
  obtain ⟨d1, d2, d3⟩ := by_q2 d hd
  obtain ⟨e1, e2, e3⟩ := by_q2 e he
  have h1 : h5 (q2 a) (q2 b) (q2 c) (q2 d) (q2 e) + h5 (q2 a) (q2 b) (q2 c) (q2 d) (q2 e) / 16 = h5 (q2 a + q2 a / 16 + 16 * (q2 b % 16)) (q2 b + q2 b / 16 + 16 * (q2 c % 16)) (q2 c + q2 c / 16 + 16 * (q2 d % 16)) (q2 d + q2 d / 16 + 16 * (q2 e % 16)) (q2 e + q2 e / 16) := by unfold h5; omega
  rw [h1, show (1085102592571150095 : Nat) = 15 + 256 * (15 + 256 * (15 + 256 * (15 + 256 * (15 + 256 * 986895)))) from by decide, h5_and _ _ _ _ _ _ _ (by omega) (by omega) (by omega) (by omega) (by omega) (by omega)]
  rw [by_3 _ (by omega), by_3 _ (by omega), by_3 _ (by omega), by_3 _ (by omega), by_3 _ (by omega)]
  have x1 : (q2 a + q2 a / 16 + 16 * (q2 b % 16)) % 16 = q3 a := by unfold q3; omega
  have x2 : (q2 b + q2 b / 16 + 16 * (q2 c % 16)) % 16 = q3 b := by unfold q3; omega
  have x3 : (q2 c + q2 c / 16 + 16 * (q2 d % 16)) % 16 = q3 c := by unfold q3; omega
  have x4 : (q2 d + q2 d / 16 + 16 * (q2 e % 16)) % 16 = q3 d := by unfold q3; omega
  have x5 : (q2 e + q2 e / 16) % 16 = q3 e := by unfold q3; omega
  rw [x1, x2, x3, x4, x5]
def pc (n : Nat) : Nat := cnt (fun k => n.testBit k) 40
theorem tb_lo {x y k : Nat} (hx : x < 256) (hk : k < 8) : (x + 256 * y).testBit k = x.testBit k := by
  rw [Nat.testBit_eq_decide_div_mod_eq, Nat.testBit_eq_decide_div_mod_eq]
  have e : (256 : Nat) = 2 ^ k * (2 * 2 ^ (7 - k)) := by
    rw [show (2 : Nat) * 2 ^ (7 - k) = 2 ^ (8 - k) from by rw [show 8 - k = (7 - k) + 1 by omega, Nat.pow_succ]; omega, ← Nat.pow_add, show k + (8 - k) = 8 by omega]
  rw [e, Nat.mul_assoc, Nat.add_mul_div_left _ _ (Nat.two_pow_pos k), Nat.mul_assoc, Nat.add_mul_mod_self_left]
theorem tb_hi {x y k : Nat} (hx : x < 256) : (x + 256 * y).testBit (8 + k) = y.testBit k := by
  rw [Nat.add_comm 8 k, Nat.testBit_add, show (2 : Nat) ^ 8 = 256 from rfl, Nat.add_mul_div_left _ _ (by decide : 0 < 256), Nat.div_eq_of_lt hx, Nat.zero_add]
theorem cnt_by {x y n : Nat} (hx : x < 256) : cnt (fun k => (x + 256 * y).testBit k) (8 + n) = q3 x + cnt (fun k => y.testBit k) n := by
  rw [cnt_add, by_q3 x hx, cnt_congr (n := 8) (fun k hk => tb_lo (y := y) hx hk), cnt_congr (n := n) (fun k _ => tb_hi (y := y) (k := k) hx)]
theorem pc_h5 (a b c d e : Nat) (ha : a < 256) (hb : b < 256) (hc : c < 256) (hd : d < 256) (he : e < 256) : pc (h5 a b c d e) = q3 a + q3 b + q3 c + q3 d + q3 e := by
  unfold pc h5
  rw [show 40 = 8 + 32 from rfl, cnt_by ha, show 32 = 8 + 24 from rfl, cnt_by hb, show 24 = 8 + 16 from rfl, cnt_by hc, show 16 = 8 + 8 from rfl, cnt_by hd, by_q3 e he]
  omega
theorem q3_le (x : Nat) (h : x < 256) : q3 x ≤ 8 := by rw [by_q3 x h]; exact cnt_le _ 8
theorem st4 (a b c d e m : Nat) (ha : a ≤ 8) (hb : b ≤ 8) (hc : c ≤ 8) (hd : d ≤ 8) (he : e ≤ 8) (h : m = h5 a b c d e) : ((m + m / 256) + (m + m / 256) / 65536 + ((m + m / 256) + (m + m / 256) / 65536) / 4294967296) % 128 = a + b + c + d + e := by
  have e1 : m / 256 = b + 256 * c + 65536 * d + 16777216 * e := by rw [h]; unfold h5; omega
  have e2 : m + m / 256 = (a + b) + 256 * (b + c) + 65536 * (c + d) + 16777216 * (d + e) + 4294967296 * e := by rw [e1, h]; unfold h5; omega
  rw [e2]
  have e3 : ((a + b) + 256 * (b + c) + 65536 * (c + d) + 16777216 * (d + e) + 4294967296 * e) / 65536 = (c + d) + 256 * (d + e) + 65536 * e := by omega
  rw [e3]
  have e4 : ((a + b) + 256 * (b + c) + 65536 * (c + d) + 16777216 * (d + e) + 4294967296 * e + ((c + d) + 256 * (d + e) + 65536 * e)) / 4294967296 = e := by omega
  rw [e4]
  omega
theorem nI_and127 (n : Nat) : nI n &&& 127 = nI (n % 128) := by
  rw [pk_and (nI n) (m := 127) 7 (by decide)]
  congr 1
  show (BitVec.ofNat 32 n).toNat % 128 = n % 128
  rw [BitVec.toNat_ofNat]
  omega
theorem s_bitCount (n : Nat) (h : n < 2 ^ 40) (w : AH) (lv : Nat) : Call M_J13_bitCount_95d88 lv [.long (lN n)] w = some (some (.int (nI (pc n))), w) := by
  simp only [Call_eq M_J13_bitCount_95d88, R_J13_bitCount_95d88, SB, ls1s, ls2s]
  obtain ⟨a, b, c, d, e, ha, hb, hc, hd, he, rfl⟩ := h5_of n h
  have l6 : (6148914691236517205 : Int64) = lN 6148914691236517205 := rfl
  have l3 : (3689348814741910323 : Int64) = lN 3689348814741910323 := rfl
  have lF : (1085102592571150095 : Int64) = lN 1085102592571150095 := rfl
  have sh : ∀ (k m : Nat) (x : Int32), x = nI k → k < 64 → m < 2 ^ 64 → ((lN m).toUInt64 >>> (x.toInt64.toUInt64 &&& Int64.toUInt64 63)).toInt64 = lN (m / 2 ^ k) := fun k m x e hk hm => by rw [e]; exact wb_shr hm hk
  have le1 : (h5 a b c d e / 2) &&& 6148914691236517205 ≤ h5 a b c d e := Nat.le_trans Nat.and_le_left (Nat.div_le_self _ _)
  have a1 := by_q1 a ha
  have b1 := by_q1 b hb
  have c1 := by_q1 c hc
  have d1 := by_q1 d hd
  have e1 := by_q1 e he
  have a2 := (by_q2 a ha).1
  have b2 := (by_q2 b hb).1
  have c2 := (by_q2 c hc).1
  have d2 := (by_q2 d hd).1
  have e2 := (by_q2 e he).1
  have a3 := q3_le a ha
  have b3 := q3_le b hb
  have c3 := q3_le c hc
  have d3 := q3_le d hd
  have e3 := q3_le e he
  have g1 : h5 (q1 a) (q1 b) (q1 c) (q1 d) (q1 e) < 2 ^ 40 := by unfold h5; omega
  have g2 : h5 (q2 a) (q2 b) (q2 c) (q2 d) (q2 e) < 2 ^ 40 := by unfold h5; omega
  have g3 : h5 (q3 a) (q3 b) (q3 c) (q3 d) (q3 e) < 2 ^ 40 := by unfold h5; omega
  rw [sh 1 _ 1 rfl (by decide) (by omega), l6, wb_and (by omega) (by decide), lN_sub le1, st1 a b c d e ha hb hc hd he]
  rw [sh 2 _ 2 rfl (by decide) (by omega), l3, wb_and (by omega) (by decide), wb_and (by omega) (by decide), lN_add, st2 a b c d e ha hb hc hd he]
  rw [sh 4 _ 4 rfl (by decide) (by omega), lN_add, lF, wb_and (by omega) (by decide), st3 a b c d e ha hb hc hd he]
  rw [sh 8 _ 8 rfl (by decide) (by omega), lN_add, sh 16 _ 16 rfl (by decide) (by omega), lN_add, sh 32 _ 32 rfl (by decide) (by omega), lN_add, lN_i]
  rw [nI_and127, st4 _ _ _ _ _ _ a3 b3 c3 d3 e3 rfl, pc_h5 a b c d e ha hb hc hd he]
