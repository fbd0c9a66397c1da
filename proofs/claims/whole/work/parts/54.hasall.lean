/-! ===== Sheet: hasAll ===== -/
theorem s_Sheet_hasAll {w : AH} {s bits n : Nat} {F : Nat → Int32} (h : ShAt w s bits n F) (i m : Int32) (lv : Nat) : Call M_X8_hasAll lv [.ref s, .int i, .int m] w = some (some (.int (bI (decide (0 ≤ i.toInt ∧ 0 ≤ m.toInt ∧ i.toInt + m.toInt ≤ n)))), w) := by
  have hn := h.rn
  simp only [C_X8_hasAll, R_X8_hasAll, SB, h.p2, lt_t, le_t, nI_t (show n < 2147483648 by omega), show (0 : Int32).toInt = 0 from rfl, if_true]
  by_cases g1 : i.toInt < 0
  · simp [g1, bI, show ¬ (0 ≤ i.toInt) by omega]
  · by_cases g2 : m.toInt < 0
    · simp [g1, g2, bI, show ¬ (0 ≤ m.toInt) by omega]
    · by_cases g3 : (n : Int) < m.toInt
      · simp [g1, g2, g3, bI, show ¬ (i.toInt + m.toInt ≤ n) by omega]
      · have e : (nI n - m).toInt = (n : Int) - m.toInt := by
          rw [nI_iz, ← iz_of m, iz_sub, iz_toInt (by omega) (by omega), iz_of]
        by_cases g4 : (n : Int) - m.toInt < i.toInt
        · simp [g1, g2, g3, g4, e, bI, show ¬ (i.toInt + m.toInt ≤ n) by omega]
        · simp [g1, g2, g3, g4, e, bI, show (i.toInt + m.toInt ≤ n) by omega, show 0 ≤ i.toInt by omega, show 0 ≤ m.toInt by omega]
