/-! ===== Sets: a set of knots is a number below 2^36 ===== -/
def mE : Nat := 18446744038804420575
def mW : Nat := 18446744072618766270
def mA : Nat := 68719476735
def stN (n way : Nat) : Nat := match way with
  | 0 => n / 64
  | 1 => (n &&& mE) * 2
  | 2 => (n * 64) &&& mA
  | _ => (n &&& mW) / 2
def nbN (k way : Nat) : Nat := match way with
  | 0 => if 6 ≤ k then k - 6 else 99
  | 1 => if k % 6 < 5 then k + 1 else 99
  | 2 => if k < 30 then k + 6 else 99
  | _ => if 0 < k % 6 then k - 1 else 99
def nbI (k way : Nat) : Int32 := if nbN k way < 36 then nI (nbN k way) else -1
def opp (way : Nat) : Nat := match way with
  | 0 => 2 | 1 => 3 | 2 => 0 | _ => 1
theorem tb36 {n k : Nat} (h : n < 2 ^ 36) (hk : 36 ≤ k) : n.testBit k = false := Nat.testBit_lt_two_pow (Nat.lt_of_lt_of_le h (Nat.pow_le_pow_right (by decide) hk))
theorem lt36 {n : Nat} (h : ∀ k, 36 ≤ k → n.testBit k = false) : n < 2 ^ 36 := Nat.lt_pow_two_of_testBit n h
theorem mE_b : ∀ k, k < 36 → mE.testBit k = decide (k % 6 < 5) := by decide +kernel
theorem mW_b : ∀ k, k < 37 → mW.testBit k = decide (0 < k % 6 ∨ k = 36) := by decide +kernel
theorem mA_b : ∀ k, k < 64 → mA.testBit k = decide (k < 36) := by decide +kernel
theorem mA_b2 (k : Nat) : mA.testBit k = decide (k < 36) := by
  by_cases h : k < 64
  · exact mA_b k h
  · rw [Nat.testBit_lt_two_pow (Nat.lt_of_lt_of_le (by decide : mA < 2 ^ 64) (Nat.pow_le_pow_right (by decide) (Nat.not_lt.mp h)))]
    simp; omega
theorem div_b (n a k : Nat) : (n / 2 ^ a).testBit k = n.testBit (k + a) := (Nat.testBit_add n k a).symm
theorem mul_b (n a k : Nat) : (n * 2 ^ a).testBit k = (decide (a ≤ k) && n.testBit (k - a)) := by
  rw [Nat.mul_comm]; exact Nat.testBit_two_pow_mul
theorem stN_b {n : Nat} (h : n < 2 ^ 36) : ∀ way, way < 4 → ∀ k, k < 36 → (stN n way).testBit k = (decide (nbN k (opp way) < 36) && n.testBit (nbN k (opp way)))
  | 0, _, k, hk => by
    show (n / 2 ^ 6).testBit k = _
    rw [div_b]
    simp only [opp, nbN]
    by_cases h1 : k < 30
    · rw [if_pos h1]; simp [show k + 6 < 36 by omega]
    · rw [if_neg h1, tb36 h (by omega)]; rfl
  | 1, _, k, hk => by
    show ((n &&& mE) * 2 ^ 1).testBit k = _
    rw [mul_b, Nat.testBit_and]
    simp only [opp, nbN]
    by_cases h1 : 1 ≤ k
    · rw [mE_b (k - 1) (by omega)]
      by_cases h2 : 0 < k % 6
      · rw [if_pos h2]; simp [h1, show k - 1 < 36 by omega, show (k - 1) % 6 < 5 by omega]
      · rw [if_neg h2]; simp [show ¬ (k - 1) % 6 < 5 by omega]
    · rw [if_neg (by omega)]; simp [h1]
  | 2, _, k, hk => by
    show ((n * 2 ^ 6) &&& mA).testBit k = _
    rw [Nat.testBit_and, mul_b, mA_b2]
    simp only [opp, nbN]
    by_cases h1 : 6 ≤ k
    · rw [if_pos h1]; simp [h1, hk, show k - 6 < 36 by omega]
    · rw [if_neg h1]; simp [h1]
  | 3, _, k, hk => by
    show ((n &&& mW) / 2 ^ 1).testBit k = _
    rw [div_b, Nat.testBit_and, mW_b (k + 1) (by omega)]
    simp only [opp, nbN]
    by_cases h1 : k % 6 < 5
    · rw [if_pos h1]
      by_cases h2 : k + 1 = 36
      · omega
      · simp [show k + 1 < 36 by omega, show 0 < (k + 1) % 6 by omega]
    · rw [if_neg h1]
      by_cases h2 : k = 35
      · subst h2; rw [tb36 h (by decide)]; rfl
      · simp [show ¬ 0 < (k + 1) % 6 by omega, show ¬ k + 1 = 36 by omega]
  | w + 4, h, _, _ => absurd h (by omega)
theorem stN_lt {n : Nat} (h : n < 2 ^ 36) : ∀ way, way < 4 → stN n way < 2 ^ 36
  | 0, _ => by show n / 64 < _; omega
  | 1, _ => by
    apply lt36
    intro k hk
    show ((n &&& mE) * 2 ^ 1).testBit k = false
    rw [mul_b, Nat.testBit_and]
    by_cases h1 : k = 36
    · subst h1; rw [mE_b (36 - 1) (by decide)]; simp
    · rw [tb36 h (k := k - 1) (by omega)]; simp
  | 2, _ => by show (n * 64) &&& mA < _; exact Nat.lt_of_le_of_lt Nat.and_le_right (by decide)
  | 3, _ => by
    show (n &&& mW) / 2 < _
    have : n &&& mW ≤ n := Nat.and_le_left
    omega
  | w + 4, h => absurd h (by omega)
theorem pc_ones : ∀ k, k < 40 → pc (2 ^ k - 1) = k := by decide +kernel
theorem low_ex {n : Nat} (h0 : 0 < n) (h : n < 2 ^ 36) : ∃ l, l < 36 ∧ n.testBit l = true ∧ (∀ j, j < l → n.testBit j = false) ∧ n &&& (2 ^ 64 - n) = 2 ^ l := by
  obtain ⟨l, hl, hmin⟩ := pk_least (fun k => n.testBit k = true) (Nat.exists_testBit_of_ne_zero (by omega))
  have hl36 : l < 36 := by
    rcases Nat.lt_or_ge l 36 with q | q
    · exact q
    · rw [tb36 h q] at hl; cases hl
  have hmf : ∀ j, j < l → n.testBit j = false := fun j hj => by
    cases hb : n.testBit j with
    | false => rfl
    | true => exact absurd hb (hmin j hj)
  refine ⟨l, hl36, hl, hmf, ?_⟩
  have hmod : n % 2 ^ l = 0 := by
    apply Nat.eq_of_testBit_eq
    intro i
    rw [Nat.testBit_mod_two_pow, Nat.zero_testBit]
    by_cases hi : i < l
    · rw [hmf i hi]; simp
    · simp [hi]
  have hdiv : (n / 2 ^ l) % 2 = 1 := by
    rw [Nat.testBit_eq_decide_div_mod_eq] at hl
    exact of_decide_eq_true hl
  have hn1 : n = 2 ^ l * (2 * (n / 2 ^ l / 2) + 1) := by
    have h1 := Nat.mod_add_div n (2 ^ l)
    rw [hmod, Nat.zero_add] at h1
    have h2 : 2 * (n / 2 ^ l / 2) + 1 = n / 2 ^ l := by omega
    rw [h2]; exact h1.symm
  generalize n / 2 ^ l / 2 = q at hn1
  have hp : 0 < 2 ^ l := Nat.two_pow_pos l
  have hn2 : n - 1 = 2 ^ l * (2 * q) + (2 ^ l - 1) := by
    rw [Nat.mul_add, Nat.mul_one] at hn1
    omega
  apply Nat.eq_of_testBit_eq
  intro i
  rw [Nat.testBit_and, show 2 ^ 64 - n = 2 ^ 64 - ((n - 1) + 1) by omega, Nat.testBit_two_pow_sub_succ (by omega), Nat.testBit_two_pow]
  by_cases hi : i < l
  · rw [hmf i hi]; simp; omega
  · by_cases he : i = l
    · subst he
      rw [hl]
      have : (n - 1).testBit i = false := by
        rw [hn2, Nat.mul_comm (2 ^ i), Nat.add_comm, Nat.testBit_eq_decide_div_mod_eq, Nat.add_mul_div_right _ _ hp, Nat.div_eq_of_lt (by omega), Nat.zero_add]
        simp
      rw [this]; simp; omega
    · have e1 : n.testBit i = (n - 1).testBit i := by
        obtain ⟨j, rfl⟩ : ∃ j, i = j + 1 + l := ⟨i - l - 1, by omega⟩
        have d1 : n / 2 ^ l = 2 * q + 1 := by rw [hn1]; exact Nat.mul_div_cancel_left _ hp
        have d2 : (n - 1) / 2 ^ l = 2 * q := by
          rw [hn2, Nat.mul_add_div hp, Nat.div_eq_of_lt (show 2 ^ l - 1 < 2 ^ l by omega), Nat.add_zero]
        rw [← div_b n l (j + 1), ← div_b (n - 1) l (j + 1), d1, d2, Nat.testBit_succ, Nat.testBit_succ]
        congr 1
        omega
      rw [e1]
      cases (n - 1).testBit i <;> simp [Ne.symm he]
def low (n : Nat) : Nat := pc ((n &&& (2 ^ 64 - n)) - 1)
theorem low_of {n : Nat} (h0 : 0 < n) (h : n < 2 ^ 36) : low n < 36 ∧ n.testBit (low n) = true ∧ (∀ j, j < low n → n.testBit j = false) ∧ n &&& (2 ^ 64 - n) = 2 ^ low n := by
  obtain ⟨l, h1, h2, h3, h4⟩ := low_ex h0 h
  have : low n = l := by unfold low; rw [h4]; exact pc_ones l (by omega)
  rw [this]
  exact ⟨h1, h2, h3, h4⟩
theorem lN_neg {n : Nat} (h : n < 2 ^ 64) : -lN n = lN (2 ^ 64 - n) := by
  apply wb_inj
  rw [Int64.toBitVec_neg, wb_tb, wb_tb]
  apply BitVec.eq_of_toNat_eq
  rw [BitVec.toNat_neg, BitVec.toNat_ofNat, BitVec.toNat_ofNat, Nat.mod_eq_of_lt h]
theorem lN_inj {a b : Nat} (ha : a < 2 ^ 64) (hb : b < 2 ^ 64) : (lN a = lN b) = (a = b) := by
  apply propext
  constructor
  · intro h
    have := congrArg (fun x => x.toBitVec.toNat) h
    rwa [wb_tn ha, wb_tn hb] at this
  · intro h; rw [h]
theorem lcmp0 {a b : Nat} (ha : a < 2 ^ 64) (hb : b < 2 ^ 64) : (lg_cmp (lN a) (lN b) = 0) = (a = b) := by
  rw [← lN_inj ha hb]
  exact propext (lg_cmp_eq _ _)
theorem s_of (v : Int32) (w : AH) (lv : Nat) : Call M_X7_of lv [.int v] w = some (some (.long (lN (if inR v 36 = true then 2 ^ v.toNatClampNeg else 0))), w) := by
  simp only [Call_eq M_X7_of, R_X7_of, SB, s_isKnot, bI_e0, if_true]
  cases h : inR v 36 with
  | false => simp; rfl
  | true =>
    obtain ⟨k, hk, hk2, rfl⟩ := inR_of h
    simp only [Bool.true_eq_false, if_false, if_true, nI_c hk2]
    rw [show (1 : Int64) = lN 1 from rfl, wb_shl 1 (show k < 64 by omega), Nat.one_mul]
theorem s_has {n k : Nat} (h : n < 2 ^ 36) (hk : k < 36) (w : AH) (lv : Nat) : Call M_X7_has lv [.long (lN n), .int (nI k)] w = some (some (.int (bI (n.testBit k))), w) := by
  simp only [Call_eq M_X7_has, R_X7_has, SB, s_of, if_true, inR_nI (show k < 2147483648 by omega), decide_eq_true hk, nI_c (show k < 2147483648 by omega)]
  rw [wb_and (by omega) (Nat.lt_of_lt_of_le (Nat.pow_lt_pow_right (by decide) hk) (by decide)), show (0 : Int64) = lN 0 from rfl]
  simp only [lcmp0 (Nat.lt_of_le_of_lt (Nat.and_le_left (m := 2 ^ k)) (show n < 2 ^ 64 by omega)) (show 0 < 2 ^ 64 by decide)]
  have e : (n &&& 2 ^ k = 0) = (n.testBit k = false) := by
    apply propext
    constructor
    · intro z
      have := congrArg (fun x => x.testBit k) z
      simpa [Nat.testBit_and, Nat.testBit_two_pow] using this
    · intro z
      apply Nat.eq_of_testBit_eq
      intro i
      rw [Nat.testBit_and, Nat.testBit_two_pow, Nat.zero_testBit]
      by_cases hi : k = i
      · subst hi; rw [z]; rfl
      · simp [hi]
  simp only [e]
  cases n.testBit k <;> simp [bI]
theorem s_has_no {n : Nat} (h : n < 2 ^ 36) (w : AH) (lv : Nat) : Call M_X7_has lv [.long (lN n), .int (-1)] w = some (some (.int (bI false)), w) := by
  simp only [Call_eq M_X7_has, R_X7_has, SB, s_of, if_true]
  rw [show inR (-1) 36 = false by decide]
  simp only [Bool.false_eq_true, if_false]
  rw [wb_and (by omega) (by decide), show (0 : Int64) = lN 0 from rfl, Nat.and_zero]
  simp [bI, lcmp0 (show 0 < 2 ^ 64 by decide) (show 0 < 2 ^ 64 by decide)]
theorem s_least {n : Nat} (h : n < 2 ^ 36) (w : AH) (lv : Nat) : Call M_X7_least lv [.long (lN n)] w = some (some (.int (if n = 0 then -1 else nI (low n))), w) := by
  simp only [Call_eq M_X7_least, R_X7_least, SB, if_true]
  rw [show (0 : Int64) = lN 0 from rfl]
  simp only [lcmp0 (show n < 2 ^ 64 by omega) (show 0 < 2 ^ 64 by decide)]
  by_cases h0 : n = 0
  · simp [h0]
  · rw [lN_neg (by omega), wb_and (by omega) (by omega), show (1 : Int64) = lN 1 from rfl]
    obtain ⟨l1, l2, l3, l4⟩ := low_of (by omega) h
    have hle : 1 ≤ n &&& (2 ^ 64 - n) := by rw [l4]; exact Nat.two_pow_pos _
    rw [lN_sub hle, s_bitCount _ (by rw [l4]; have := Nat.pow_lt_pow_right (a := 2) (by decide) l1; omega)]
    simp [h0, SB, low, R_X7_least]
theorem sc1 {n : Nat} (h : n < 2 ^ 36) : lN n &&& -34905131041 = lN (n &&& mE) := by
  rw [show (-34905131041 : Int64) = lN mE by decide, wb_and (by omega) (by decide)]
theorem sc2 {n : Nat} (h : n < 2 ^ 36) : lN n &&& -1090785346 = lN (n &&& mW) := by
  rw [show (-1090785346 : Int64) = lN mW by decide, wb_and (by omega) (by decide)]
theorem s_stepped {n : Nat} (h : n < 2 ^ 36) (w : AH) (lv : Nat) : ∀ way, way < 4 → Call M_X7_stepped lv [.long (lN n), .int (nI way)] w = some (some (.long (lN (stN n way))), w)
  | 0, _ => by
    simp only [Call_eq M_X7_stepped, R_X7_stepped, SB, show nI 0 = (0 : Int32) from rfl, if_true]
    rw [show (6 : Int32) = nI 6 from rfl, wb_shr (by omega) (by decide)]
    rfl
  | 1, _ => by
    simp only [Call_eq M_X7_stepped, R_X7_stepped, SB, show nI 1 = (1 : Int32) from rfl, show ((1 : Int32) = 0) = False by decide, if_true, if_false]
    rw [sc1 h, show (1 : Int32) = nI 1 from rfl, wb_shl _ (by decide)]
    rfl
  | 2, _ => by
    simp only [Call_eq M_X7_stepped, R_X7_stepped, SB, show nI 2 = (2 : Int32) from rfl, show ((2 : Int32) = 0) = False by decide, show ((2 : Int32) = 1) = False by decide, if_true, if_false]
    rw [show (6 : Int32) = nI 6 from rfl, wb_shl _ (by decide), show (68719476735 : Int64) = lN mA by decide, wb_and (by omega) (by decide)]
    rfl
  | 3, _ => by
    simp only [Call_eq M_X7_stepped, R_X7_stepped, SB, show nI 3 = (3 : Int32) from rfl, show ((3 : Int32) = 0) = False by decide, show ((3 : Int32) = 1) = False by decide, show ((3 : Int32) = 2) = False by decide, if_true, if_false]
    rw [sc2 h, show (1 : Int32) = nI 1 from rfl, wb_shr (Nat.lt_of_le_of_lt Nat.and_le_left (by omega)) (by decide)]
    rfl
  | w + 4, h => absurd h (by omega)
def arN (n : Nat) : Nat := stN n 0 ||| stN n 1 ||| stN n 2 ||| stN n 3
theorem arN_lt {n : Nat} (h : n < 2 ^ 36) : arN n < 2 ^ 36 := Nat.or_lt_two_pow (Nat.or_lt_two_pow (Nat.or_lt_two_pow (stN_lt h 0 (by decide)) (stN_lt h 1 (by decide))) (stN_lt h 2 (by decide))) (stN_lt h 3 (by decide))
theorem s_around {n : Nat} (h : n < 2 ^ 36) (w : AH) (lv : Nat) : Call M_X7_around lv [.long (lN n)] w = some (some (.long (lN (arN n))), w) := by
  have g0 := stN_lt h 0 (by decide)
  have g1 := stN_lt h 1 (by decide)
  have g2 := stN_lt h 2 (by decide)
  have g3 := stN_lt h 3 (by decide)
  have e0 := s_stepped h w 60 0 (by decide)
  have e1 := s_stepped h w 60 1 (by decide)
  have e2 := s_stepped h w 60 2 (by decide)
  have e3 := s_stepped h w 60 3 (by decide)
  simp only [show nI 0 = (0 : Int32) from rfl, show nI 1 = (1 : Int32) from rfl, show nI 2 = (2 : Int32) from rfl, show nI 3 = (3 : Int32) from rfl] at e0 e1 e2 e3
  simp only [Call_eq M_X7_around, R_X7_around, SB, e0, e1, e2, e3, if_true]
  rw [wb_or (by omega) (by omega), wb_or (by have := Nat.or_lt_two_pow g0 g1; omega) (by omega), wb_or (by have := Nat.or_lt_two_pow (Nat.or_lt_two_pow g0 g1) g2; omega) (by omega)]
  rfl
theorem bs_tab : ∀ way, way < 4 → ∀ k, k < 36 → (if way = 0 then (if nI k / 6 ≤ 0 then -1 else nI k - 6) else if way = 1 then (if 5 ≤ nI k - nI k / 6 * 6 then -1 else nI k + 1) else if way = 2 then (if 5 ≤ nI k / 6 then -1 else nI k + 6) else (if nI k - nI k / 6 * 6 ≤ 0 then -1 else nI k - 1)) = nbI k way := by decide +kernel
theorem s_beside {k way : Nat} (hk : k < 36) (hw : way < 4) (w : AH) (lv : Nat) : Call M_X7_beside lv [.int (nI k), .int (nI way)] w = some (some (.int (nbI k way)), w) := by
  have q : way = 0 ∨ way = 1 ∨ way = 2 ∨ way = 3 := by omega
  rcases q with rfl | rfl | rfl | rfl
  · have e : (if nI k / 6 ≤ 0 then (-1 : Int32) else nI k - 6) = nbI k 0 := bs_tab 0 (by decide) k hk
    rw [← e]
    simp only [C_X7_beside, R_X7_beside, SB, show nI 0 = (0 : Int32) from rfl, show ((6 : Int32) = 0) = False from by decide, if_false, if_true, ls1s]
    by_cases c : nI k / 6 ≤ 0
    · rw [if_pos c, if_pos c]
    · rw [if_neg c, if_neg c]
  · have e : (if 5 ≤ nI k - nI k / 6 * 6 then (-1 : Int32) else nI k + 1) = nbI k 1 := bs_tab 1 (by decide) k hk
    rw [← e]
    simp only [C_X7_beside, R_X7_beside, SB, show nI 1 = (1 : Int32) from rfl, show ((6 : Int32) = 0) = False from by decide, show ((1 : Int32) = 0) = False from by decide, if_false, if_true, ls1s]
    by_cases c : 5 ≤ nI k - nI k / 6 * 6
    · rw [if_pos c, if_pos c]
    · rw [if_neg c, if_neg c]
  · have e : (if 5 ≤ nI k / 6 then (-1 : Int32) else nI k + 6) = nbI k 2 := bs_tab 2 (by decide) k hk
    rw [← e]
    simp only [C_X7_beside, R_X7_beside, SB, show nI 2 = (2 : Int32) from rfl, show ((6 : Int32) = 0) = False from by decide, show ((2 : Int32) = 0) = False from by decide, show ((2 : Int32) = 1) = False from by decide, if_false, if_true, ls1s]
    by_cases c : 5 ≤ nI k / 6
    · rw [if_pos c, if_pos c]
    · rw [if_neg c, if_neg c]
  · have e : (if nI k - nI k / 6 * 6 ≤ 0 then (-1 : Int32) else nI k - 1) = nbI k 3 := bs_tab 3 (by decide) k hk
    rw [← e]
    simp only [C_X7_beside, R_X7_beside, SB, show nI 3 = (3 : Int32) from rfl, show ((6 : Int32) = 0) = False from by decide, show ((3 : Int32) = 0) = False from by decide, show ((3 : Int32) = 1) = False from by decide, show ((3 : Int32) = 2) = False from by decide, if_false, if_true, ls1s]
    by_cases c : nI k - nI k / 6 * 6 ≤ 0
    · rw [if_pos c, if_pos c]
    · rw [if_neg c, if_neg c]
