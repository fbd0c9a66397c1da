/-! ===== the law, on every script ===== -/
def w0 (L : Nat) (xs : Nat → Int32) : AH := (32, 0, fun a => if a < 32 then stc L xs a else dead)
theorem law_ok (L : Nat) (xs : Nat → Int32) (hL : L ≤ 3072) : ∃ w' : AH, Call M_L_law 60 [.ref 0] (w0 L xs) = some (some (.int 1), w') ∧ w'.1 ≤ 600032 ∧ w'.2.1 ≤ 7302250 := by
  sorry
