/-! ===== the model's world: its object at 123, its arrays at 124 to 137 (printed by wip/whole/gen60.py) ===== -/
def mob (I : Nat → Int32) : va_E := .inr (11, [.ref 124, .ref 125, .int (I 2), .ref 126, .ref 127, .int (I 5), .int (I 6), .int (I 7), .int (I 8), .int (I 9), .int (I 10), .ref 128, .ref 129, .int (I 13), .ref 130, .int (I 15), .int (I 16), .int (I 17), .ref 131, .ref 132, .ref 133, .int (I 21), .int (I 22), .ref 134, .ref 135, .ref 136, .ref 137])
def mlN (j : Nat) : Nat := ([269, 269, 6, 97, 3, 36, 36, 180, 180, 40, 4, 4, 160, 40] : List Nat).getD j 0
def mar (A : Nat → Nat → Int32) (j : Nat) : va_E := .inl (if j = 6 then 2 else 0, mlN j, .inl (A j))
def mw (w : AH) (I : Nat → Int32) (A : Nat → Nat → Int32) : AH := (w.1, w.2.1, fun j => if j = 123 then mob I else if 124 ≤ j ∧ j < 138 then mar A (j - 124) else w.2.2 j)
def upA (A : Nat → Nat → Int32) (j : Nat) (F : Nat → Int32) : Nat → Nat → Int32 := fun i => if i = j then F else A i
theorem upA_eq (A : Nat → Nat → Int32) (j i : Nat) (F : Nat → Int32) : upA A j F i = if i = j then F else A i := rfl
theorem upA_upA (A : Nat → Nat → Int32) (j : Nat) (F G : Nat → Int32) : upA (upA A j F) j G = upA A j G := by
  funext i; unfold upA; split <;> rfl
theorem upA_same (A : Nat → Nat → Int32) (j : Nat) : upA A j (A j) = A := by
  funext i; unfold upA; split
  · rename_i h; rw [h]
  · rfl
theorem upd_upd (f : Nat → Int32) (k : Nat) (x y : Int32) : upd (upd f k x) k y = upd f k y := by
  funext i; unfold upd; split <;> rfl
theorem mw_o (w : AH) (I : Nat → Int32) (A : Nat → Nat → Int32) : hg (mw w I A) 123 = mob I := rfl
theorem mw_n {w : AH} {I : Nat → Int32} {A : Nat → Nat → Int32} {j : Nat} (h : j < 123 ∨ 138 ≤ j) : hg (mw w I A) j = hg w j := by
  unfold hg mw; dsimp only; rw [if_neg (by omega), if_neg (by omega)]
theorem mw_a (w : AH) (I : Nat → Int32) (A : Nat → Nat → Int32) : (hg (mw w I A) 124 = .inl (0, 269, .inl (A 0))) ∧ (hg (mw w I A) 125 = .inl (0, 269, .inl (A 1))) ∧ (hg (mw w I A) 126 = .inl (0, 6, .inl (A 2))) ∧ (hg (mw w I A) 127 = .inl (0, 97, .inl (A 3))) ∧ (hg (mw w I A) 128 = .inl (0, 3, .inl (A 4))) ∧ (hg (mw w I A) 129 = .inl (0, 36, .inl (A 5))) ∧ (hg (mw w I A) 130 = .inl (2, 36, .inl (A 6))) ∧ (hg (mw w I A) 131 = .inl (0, 180, .inl (A 7))) ∧ (hg (mw w I A) 132 = .inl (0, 180, .inl (A 8))) ∧ (hg (mw w I A) 133 = .inl (0, 40, .inl (A 9))) ∧ (hg (mw w I A) 134 = .inl (0, 4, .inl (A 10))) ∧ (hg (mw w I A) 135 = .inl (0, 4, .inl (A 11))) ∧ (hg (mw w I A) 136 = .inl (0, 160, .inl (A 12))) ∧ (hg (mw w I A) 137 = .inl (0, 40, .inl (A 13))) := ⟨rfl, rfl, rfl, rfl, rfl, rfl, rfl, rfl, rfl, rfl, rfl, rfl, rfl, rfl⟩
theorem mo_g (I : Nat → Int32) : (gf (mob I) 11 0 = some (.ref 124)) ∧ (gf (mob I) 11 1 = some (.ref 125)) ∧ (gf (mob I) 11 2 = some (.int (I 2))) ∧ (gf (mob I) 11 3 = some (.ref 126)) ∧ (gf (mob I) 11 4 = some (.ref 127)) ∧ (gf (mob I) 11 5 = some (.int (I 5))) ∧ (gf (mob I) 11 6 = some (.int (I 6))) ∧ (gf (mob I) 11 7 = some (.int (I 7))) ∧ (gf (mob I) 11 8 = some (.int (I 8))) ∧ (gf (mob I) 11 9 = some (.int (I 9))) ∧ (gf (mob I) 11 10 = some (.int (I 10))) ∧ (gf (mob I) 11 11 = some (.ref 128)) ∧ (gf (mob I) 11 12 = some (.ref 129)) ∧ (gf (mob I) 11 13 = some (.int (I 13))) ∧ (gf (mob I) 11 14 = some (.ref 130)) ∧ (gf (mob I) 11 15 = some (.int (I 15))) ∧ (gf (mob I) 11 16 = some (.int (I 16))) ∧ (gf (mob I) 11 17 = some (.int (I 17))) ∧ (gf (mob I) 11 18 = some (.ref 131)) ∧ (gf (mob I) 11 19 = some (.ref 132)) ∧ (gf (mob I) 11 20 = some (.ref 133)) ∧ (gf (mob I) 11 21 = some (.int (I 21))) ∧ (gf (mob I) 11 22 = some (.int (I 22))) ∧ (gf (mob I) 11 23 = some (.ref 134)) ∧ (gf (mob I) 11 24 = some (.ref 135)) ∧ (gf (mob I) 11 25 = some (.ref 136)) ∧ (gf (mob I) 11 26 = some (.ref 137)) ∧ (clK (mob I) = 11) := ⟨rfl, rfl, rfl, rfl, rfl, rfl, rfl, rfl, rfl, rfl, rfl, rfl, rfl, rfl, rfl, rfl, rfl, rfl, rfl, rfl, rfl, rfl, rfl, rfl, rfl, rfl, rfl, rfl⟩
theorem mo_p (I : Nat → Int32) (x : Int32) : (pf (mob I) 11 2 .int (.int x) = some (mob (upd I 2 x))) ∧ (pf (mob I) 11 5 .int (.int x) = some (mob (upd I 5 x))) ∧ (pf (mob I) 11 6 .int (.int x) = some (mob (upd I 6 x))) ∧ (pf (mob I) 11 7 .int (.int x) = some (mob (upd I 7 x))) ∧ (pf (mob I) 11 8 .int (.int x) = some (mob (upd I 8 x))) ∧ (pf (mob I) 11 9 .int (.int x) = some (mob (upd I 9 x))) ∧ (pf (mob I) 11 13 .int (.int x) = some (mob (upd I 13 x))) ∧ (pf (mob I) 11 15 .int (.int x) = some (mob (upd I 15 x))) ∧ (pf (mob I) 11 16 .int (.int x) = some (mob (upd I 16 x))) ∧ (pf (mob I) 11 17 .int (.int x) = some (mob (upd I 17 x))) ∧ (pf (mob I) 11 21 .int (.int x) = some (mob (upd I 21 x))) ∧ (pf (mob I) 11 22 .int (.int x) = some (mob (upd I 22 x))) := ⟨(by rw [pf_i (u := .int (I 2)) rfl]; rfl), (by rw [pf_i (u := .int (I 5)) rfl]; rfl), (by rw [pf_i (u := .int (I 6)) rfl]; rfl), (by rw [pf_i (u := .int (I 7)) rfl]; rfl), (by rw [pf_i (u := .int (I 8)) rfl]; rfl), (by rw [pf_i (u := .int (I 9)) rfl]; rfl), (by rw [pf_i (u := .int (I 13)) rfl]; rfl), (by rw [pf_i (u := .int (I 15)) rfl]; rfl), (by rw [pf_i (u := .int (I 16)) rfl]; rfl), (by rw [pf_i (u := .int (I 17)) rfl]; rfl), (by rw [pf_i (u := .int (I 21)) rfl]; rfl), (by rw [pf_i (u := .int (I 22)) rfl]; rfl)⟩
theorem mo_pz (I : Nat → Int32) : (pf (mob I) 11 10 .boolean (.int 0) = some (mob (upd I 10 0))) ∧ (pf (mob I) 11 10 .boolean (.int 1) = some (mob (upd I 10 1))) := ⟨(by rw [pf_z (u := .int (I 10)) rfl (Or.inl rfl)]; rfl), (by rw [pf_z (u := .int (I 10)) rfl (Or.inr rfl)]; rfl)⟩
theorem mw_so (w : AH) (I J : Nat → Int32) (A : Nat → Nat → Int32) : hs (mw w I A) 123 (mob J) = mw w J A := by
  refine AH_ext rfl rfl (fun j => ?_)
  rw [hg_hs]
  by_cases h : j = 123
  · subst h; rfl
  · rw [if_neg h]
    unfold hg mw; dsimp only; rw [if_neg h, if_neg h]
theorem mw_sx (w : AH) (I : Nat → Int32) (A : Nat → Nat → Int32) {i : Nat} (hi : i < 14) (F : Nat → Int32) : hs (mw w I A) (124 + i) (mar (upA A i F) i) = mw w I (upA A i F) := by
  refine AH_ext rfl rfl (fun j => ?_)
  rw [hg_hs]
  by_cases h : j = 124 + i
  · subst h
    rw [if_pos rfl]
    unfold hg mw; dsimp only; rw [if_neg (by omega), if_pos (by omega), Nat.add_sub_cancel_left]
  · rw [if_neg h]
    unfold hg mw; dsimp only
    by_cases h2 : j = 123
    · rw [if_pos h2, if_pos h2]
    · rw [if_neg h2, if_neg h2]
      by_cases h3 : 124 ≤ j ∧ j < 138
      · rw [if_pos h3, if_pos h3]
        unfold mar upA; rw [show (if j - 124 = i then F else A (j - 124)) = A (j - 124) from if_neg (by omega)]
      · rw [if_neg h3, if_neg h3]
theorem mw_sa (w : AH) (I : Nat → Int32) (A : Nat → Nat → Int32) (F : Nat → Int32) : (hs (mw w I A) 124 (.inl (0, 269, .inl F)) = mw w I (upA A 0 F)) ∧ (hs (mw w I A) 125 (.inl (0, 269, .inl F)) = mw w I (upA A 1 F)) ∧ (hs (mw w I A) 126 (.inl (0, 6, .inl F)) = mw w I (upA A 2 F)) ∧ (hs (mw w I A) 127 (.inl (0, 97, .inl F)) = mw w I (upA A 3 F)) ∧ (hs (mw w I A) 128 (.inl (0, 3, .inl F)) = mw w I (upA A 4 F)) ∧ (hs (mw w I A) 129 (.inl (0, 36, .inl F)) = mw w I (upA A 5 F)) ∧ (hs (mw w I A) 130 (.inl (2, 36, .inl F)) = mw w I (upA A 6 F)) ∧ (hs (mw w I A) 131 (.inl (0, 180, .inl F)) = mw w I (upA A 7 F)) ∧ (hs (mw w I A) 132 (.inl (0, 180, .inl F)) = mw w I (upA A 8 F)) ∧ (hs (mw w I A) 133 (.inl (0, 40, .inl F)) = mw w I (upA A 9 F)) ∧ (hs (mw w I A) 134 (.inl (0, 4, .inl F)) = mw w I (upA A 10 F)) ∧ (hs (mw w I A) 135 (.inl (0, 4, .inl F)) = mw w I (upA A 11 F)) ∧ (hs (mw w I A) 136 (.inl (0, 160, .inl F)) = mw w I (upA A 12 F)) ∧ (hs (mw w I A) 137 (.inl (0, 40, .inl F)) = mw w I (upA A 13 F)) := ⟨mw_sx w I A (i := 0) (by decide) F, mw_sx w I A (i := 1) (by decide) F, mw_sx w I A (i := 2) (by decide) F, mw_sx w I A (i := 3) (by decide) F, mw_sx w I A (i := 4) (by decide) F, mw_sx w I A (i := 5) (by decide) F, mw_sx w I A (i := 6) (by decide) F, mw_sx w I A (i := 7) (by decide) F, mw_sx w I A (i := 8) (by decide) F, mw_sx w I A (i := 9) (by decide) F, mw_sx w I A (i := 10) (by decide) F, mw_sx w I A (i := 11) (by decide) F, mw_sx w I A (i := 12) (by decide) F, mw_sx w I A (i := 13) (by decide) F⟩
theorem mw_same {w : AH} {I : Nat → Int32} {A : Nat → Nat → Int32} (h0 : hg w 123 = mob I) (h1 : ∀ j, j < 14 → hg w (124 + j) = mar A j) : mw w I A = w := by
  refine AH_ext rfl rfl (fun j => ?_)
  by_cases h : j = 123
  · subst h; rw [h0]; rfl
  · by_cases h3 : 124 ≤ j ∧ j < 138
    · have := h1 (j - 124) (by omega)
      rw [show 124 + (j - 124) = j by omega] at this
      rw [this]
      unfold hg mw; dsimp only; rw [if_neg h, if_pos h3]
    · exact mw_n (by omega)
