/-! ===== the law, on every script ===== -/
def w0 (L : Nat) (xs : Nat → Int32) : AH := (32, 0, fun a => if a < 32 then stc L xs a else dead)
theorem w0_sta (L : Nat) (xs : Nat → Int32) : StA (w0 L xs) bdN := by
  refine ⟨⟨fun j => aboveL.getD j 0, rfl, rfl, ?_⟩, ⟨fun j => bodL.getD j 0, rfl, ?_⟩⟩
  · exact (by decide : ∀ k, k < 7 → 0 < k → aboveL.getD k 0 = nI (abv k)) |> fun h k h1 h2 => h k h2 h1
  · exact (by decide : ∀ k, k < 28 → bodL.getD k 0 = nI (bdN k))
theorem w0_str (L : Nat) (xs : Nat → Int32) : StrA (w0 L xs) := by
  intro j hj
  rcases (show j = 0 ∨ j = 1 ∨ j = 2 ∨ j = 3 ∨ j = 4 ∨ j = 5 ∨ j = 6 ∨ j = 7 ∨ j = 8 by omega) with rfl | rfl | rfl | rfl | rfl | rfl | rfl | rfl | rfl <;> exact ⟨rfl, rfl⟩
theorem law_ok (L : Nat) (xs : Nat → Int32) (hL : L ≤ 3072) : ∃ w' : AH, Call M_L_law 60 [.ref 0] (w0 L xs) = some (some (.int 1), w') ∧ w'.1 ≤ 600032 ∧ w'.2.1 ≤ 7302250 :=
  law_run rfl rfl rfl (w0_sta L xs) (w0_str L xs) hL
