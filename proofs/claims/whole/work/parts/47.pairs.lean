/-! ===== Carpet: what lies beside ===== -/
theorem wb_xor {a b : Nat} (ha : a < 2 ^ 64) (hb : b < 2 ^ 64) : lN a ^^^ lN b = lN (a ^^^ b) := by
  apply wb_inj
  rw [Int64.toBitVec_xor, wb_tb, wb_tb, wb_tb]
  apply BitVec.eq_of_toNat_eq
  rw [BitVec.toNat_xor, BitVec.toNat_ofNat, BitVec.toNat_ofNat, BitVec.toNat_ofNat, Nat.mod_eq_of_lt ha, Nat.mod_eq_of_lt hb, Nat.mod_eq_of_lt (Nat.xor_lt_two_pow ha hb)]
theorem and_not (x y : Int64) : x &&& (y ^^^ -1) = x ^^^ (x &&& y) := by
  apply wb_inj
  rw [Int64.toBitVec_and, Int64.toBitVec_xor, Int64.toBitVec_xor, Int64.toBitVec_and, show (-1 : Int64).toBitVec = BitVec.allOnes 64 from by decide]
  apply BitVec.eq_of_getLsbD_eq
  intro i hi
  simp only [BitVec.getLsbD_and, BitVec.getLsbD_xor, BitVec.getLsbD_allOnes, hi, decide_true]
  cases x.toBitVec.getLsbD i <;> cases y.toBitVec.getLsbD i <;> rfl
/-- the knots of a that are not in b -/
def dfN (a b : Nat) : Nat := a ^^^ (a &&& b)
theorem dfN_b (a b k : Nat) : (dfN a b).testBit k = (a.testBit k && !b.testBit k) := by
  unfold dfN
  rw [Nat.testBit_xor, Nat.testBit_and]
  cases a.testBit k <;> cases b.testBit k <;> rfl
theorem dfN_lt {a b : Nat} (h : a < 2 ^ 36) : dfN a b < 2 ^ 36 := lt36 (fun k hk => by rw [dfN_b, tb36 h hk]; rfl)
theorem lN_df {a b : Nat} (ha : a < 2 ^ 36) (hb : b < 2 ^ 36) : lN a &&& (lN b ^^^ -1) = lN (dfN a b) := by
  rw [and_not, wb_and (show a < 2 ^ 64 by omega) (show b < 2 ^ 64 by omega), wb_xor (show a < 2 ^ 64 by omega) (Nat.lt_of_le_of_lt Nat.and_le_left (show a < 2 ^ 64 by omega))]
  rfl
def cbN (col : Nat → Nat) (k : Nat) : Nat := ciN col (dfN (arN (land col k)) (land col k))
theorem s_coloursBeside {w : AH} {c : Nat} {col wear : Nat → Nat} (h : CarAt w c col wear) {k : Nat} (hk : k < 36) (lv : Nat) : Call M_X0_coloursBeside lv [.ref c, .int (nI k)] w = some (some (.int (nI (cbN col k))), w) := by
  have hl := land_lt col hk
  simp only [C_X0_coloursBeside, R_X0_coloursBeside, SB, clK_gf h.p0, s_landOf h hk, ls2s, s_around hl, lN_df (arN_lt hl) hl, s_coloursIn h (dfN_lt (arN_lt hl)), if_true, cbN]
def cpF (col : Nat → Nat) (a b : Nat) : Nat → Nat → Nat := fun way n => n + pc (stN (csN col a) way &&& csN col b)
def cpN (col : Nat → Nat) (a b : Nat) : Nat := foldN (cpF col a b) 4 0
theorem s_countPairs {w : AH} {c : Nat} {col wear : Nat → Nat} (h : CarAt w c col wear) {a b : Nat} (ha : a < 8) (hb : b < 8) (lv : Nat) : Call M_X0_countPairs lv [.ref c, .int (nI a), .int (nI b)] w = some (some (.int (nI (cpN col a b))), w) := by
  have l1 := csN_lt col a
  have l2 := csN_lt col b
  have hl := for_up0 (fun y n => Ex M_X0_countPairs lv 19 [some (.ref c), some (.int (nI a)), some (.int (nI b)), some (.long (lN (csN col a))), none, some (.long (lN (csN col b))), none, some (.int (nI n)), some (.int (nI y))] [] w) (cpF col a b) 4 (by
    intro y n hy
    have e1 : ((4 : Int32) ≤ nI y) = False := by rw [show (4 : Int32) = nI 4 from rfl, le_nI (by decide) (by omega)]; simp; omega
    have l3 := stN_lt l1 y hy
    have l4 : stN (csN col a) y &&& csN col b < 2 ^ 36 := Nat.lt_of_le_of_lt Nat.and_le_right l2
    rw [H_X0_countPairs_19]
    simp only [R_X0_countPairs, SB, e1, if_false, if_true, s_stepped l1 w 60 y hy, wb_and (show stN (csN col a) y < 2 ^ 64 by omega) (show csN col b < 2 ^ 64 by omega), s_bitCount _ (show stN (csN col a) y &&& csN col b < 2 ^ 40 by omega), nI_add, ls1s, nI_1, cpF]) 0
  simp only [C_X0_countPairs, R_X0_countPairs, SB, clK_gf h.p0, s_ofColour h ha, s_ofColour h hb, ls1s, ls2s, if_true, show (0 : Int32) = nI 0 from rfl]
  refine (show _ = _ from rfl).trans (hl.trans ?_)
  rw [H_X0_countPairs_19]
  simp only [R_X0_countPairs, SB, show ((4 : Int32) ≤ nI 4) = True from by rw [show (4 : Int32) = nI 4 from rfl]; simp, if_true, cpN]
