/-! ===== the start: what the Statement gives of statics, strings, classes (printed by wip/whole/gen90.py) ===== -/
def aboveL : List Int32 := [-1, 0, 0, 0, 1, 2, 3]
def bodL : List Int32 := [10, 11, 12, 13, 20, 0, 0, 0, 0, 30, 0, 0, 0, 0, 40, 0, 0, 0, 0, 50, 0, 60, 0, 0, 0, 0, 70, 71]
def strB : List (List Int32) := [[], [114, 99, 100], [107, 119, 99], [48, 49, 50, 51, 52, 53, 54, 55, 56, 57], [124], [38], [60, 61, 62], [43, 45], [42, 47, 37]]
def strN : List Nat := [0, 3, 3, 10, 1, 1, 3, 2, 3]
def strI (i : Nat) : Nat := (strL.getD i (0, "")).1
def stc (L : Nat) (xs : Nat → Int32) : Nat → va_E := fun a =>
  if a = 0 then .inl (10, L, .inl xs) else if a = 1 then .inl (10, 7, .inl (fun j => aboveL.getD j 0)) else if a = 2 then .inl (10, 28, .inl (fun j => bodL.getD j 0)) else if a < 12 then .inr (50, [.ref (a + 9), .int 0]) else if a < 21 then .inl (11, strN.getD (a - 12) 0, .inl (fun j => (strB.getD (a - 12) []).getD j 0)) else dead
abbrev nrw : Cond := Cond.and given_1 narrow_1
theorem el_above {args : Array Value} {s : State} (hs : ∀ c ∈ flatC nrw, c.before args s = true) : ∀ j : Nat, j < 7 → (Term.elem (.static "CarpetLands" "ABOVE" "[I") (.int (Int32.ofNat j))).eval args s none [] s = some (.int (aboveL.getD j 0))
  | 0, _ => va_eqt (hs (Cond.eq (.elem (.static "CarpetLands" "ABOVE" "[I") (.int 0)) (.int (-1))) (by decide +kernel))
  | 1, _ => va_eqt (hs (Cond.eq (.elem (.static "CarpetLands" "ABOVE" "[I") (.int 1)) (.int 0)) (by decide +kernel))
  | 2, _ => va_eqt (hs (Cond.eq (.elem (.static "CarpetLands" "ABOVE" "[I") (.int 2)) (.int 0)) (by decide +kernel))
  | 3, _ => va_eqt (hs (Cond.eq (.elem (.static "CarpetLands" "ABOVE" "[I") (.int 3)) (.int 0)) (by decide +kernel))
  | 4, _ => va_eqt (hs (Cond.eq (.elem (.static "CarpetLands" "ABOVE" "[I") (.int 4)) (.int 1)) (by decide +kernel))
  | 5, _ => va_eqt (hs (Cond.eq (.elem (.static "CarpetLands" "ABOVE" "[I") (.int 5)) (.int 2)) (by decide +kernel))
  | 6, _ => va_eqt (hs (Cond.eq (.elem (.static "CarpetLands" "ABOVE" "[I") (.int 6)) (.int 3)) (by decide +kernel))
  | n + 7, h => absurd h (by omega)
theorem el_bod {args : Array Value} {s : State} (hs : ∀ c ∈ flatC nrw, c.before args s = true) : ∀ j : Nat, j < 28 → (Term.elem (.static "CarpetLands$Voice" "BODIES" "[I") (.int (Int32.ofNat j))).eval args s none [] s = some (.int (bodL.getD j 0))
  | 0, _ => va_eqt (hs (Cond.eq (.elem (.static "CarpetLands$Voice" "BODIES" "[I") (.int 0)) (.int 10)) (by decide +kernel))
  | 1, _ => va_eqt (hs (Cond.eq (.elem (.static "CarpetLands$Voice" "BODIES" "[I") (.int 1)) (.int 11)) (by decide +kernel))
  | 2, _ => va_eqt (hs (Cond.eq (.elem (.static "CarpetLands$Voice" "BODIES" "[I") (.int 2)) (.int 12)) (by decide +kernel))
  | 3, _ => va_eqt (hs (Cond.eq (.elem (.static "CarpetLands$Voice" "BODIES" "[I") (.int 3)) (.int 13)) (by decide +kernel))
  | 4, _ => va_eqt (hs (Cond.eq (.elem (.static "CarpetLands$Voice" "BODIES" "[I") (.int 4)) (.int 20)) (by decide +kernel))
  | 5, _ => va_eqt (hs (Cond.eq (.elem (.static "CarpetLands$Voice" "BODIES" "[I") (.int 5)) (.int 0)) (by decide +kernel))
  | 6, _ => va_eqt (hs (Cond.eq (.elem (.static "CarpetLands$Voice" "BODIES" "[I") (.int 6)) (.int 0)) (by decide +kernel))
  | 7, _ => va_eqt (hs (Cond.eq (.elem (.static "CarpetLands$Voice" "BODIES" "[I") (.int 7)) (.int 0)) (by decide +kernel))
  | 8, _ => va_eqt (hs (Cond.eq (.elem (.static "CarpetLands$Voice" "BODIES" "[I") (.int 8)) (.int 0)) (by decide +kernel))
  | 9, _ => va_eqt (hs (Cond.eq (.elem (.static "CarpetLands$Voice" "BODIES" "[I") (.int 9)) (.int 30)) (by decide +kernel))
  | 10, _ => va_eqt (hs (Cond.eq (.elem (.static "CarpetLands$Voice" "BODIES" "[I") (.int 10)) (.int 0)) (by decide +kernel))
  | 11, _ => va_eqt (hs (Cond.eq (.elem (.static "CarpetLands$Voice" "BODIES" "[I") (.int 11)) (.int 0)) (by decide +kernel))
  | 12, _ => va_eqt (hs (Cond.eq (.elem (.static "CarpetLands$Voice" "BODIES" "[I") (.int 12)) (.int 0)) (by decide +kernel))
  | 13, _ => va_eqt (hs (Cond.eq (.elem (.static "CarpetLands$Voice" "BODIES" "[I") (.int 13)) (.int 0)) (by decide +kernel))
  | 14, _ => va_eqt (hs (Cond.eq (.elem (.static "CarpetLands$Voice" "BODIES" "[I") (.int 14)) (.int 40)) (by decide +kernel))
  | 15, _ => va_eqt (hs (Cond.eq (.elem (.static "CarpetLands$Voice" "BODIES" "[I") (.int 15)) (.int 0)) (by decide +kernel))
  | 16, _ => va_eqt (hs (Cond.eq (.elem (.static "CarpetLands$Voice" "BODIES" "[I") (.int 16)) (.int 0)) (by decide +kernel))
  | 17, _ => va_eqt (hs (Cond.eq (.elem (.static "CarpetLands$Voice" "BODIES" "[I") (.int 17)) (.int 0)) (by decide +kernel))
  | 18, _ => va_eqt (hs (Cond.eq (.elem (.static "CarpetLands$Voice" "BODIES" "[I") (.int 18)) (.int 0)) (by decide +kernel))
  | 19, _ => va_eqt (hs (Cond.eq (.elem (.static "CarpetLands$Voice" "BODIES" "[I") (.int 19)) (.int 50)) (by decide +kernel))
  | 20, _ => va_eqt (hs (Cond.eq (.elem (.static "CarpetLands$Voice" "BODIES" "[I") (.int 20)) (.int 0)) (by decide +kernel))
  | 21, _ => va_eqt (hs (Cond.eq (.elem (.static "CarpetLands$Voice" "BODIES" "[I") (.int 21)) (.int 60)) (by decide +kernel))
  | 22, _ => va_eqt (hs (Cond.eq (.elem (.static "CarpetLands$Voice" "BODIES" "[I") (.int 22)) (.int 0)) (by decide +kernel))
  | 23, _ => va_eqt (hs (Cond.eq (.elem (.static "CarpetLands$Voice" "BODIES" "[I") (.int 23)) (.int 0)) (by decide +kernel))
  | 24, _ => va_eqt (hs (Cond.eq (.elem (.static "CarpetLands$Voice" "BODIES" "[I") (.int 24)) (.int 0)) (by decide +kernel))
  | 25, _ => va_eqt (hs (Cond.eq (.elem (.static "CarpetLands$Voice" "BODIES" "[I") (.int 25)) (.int 0)) (by decide +kernel))
  | 26, _ => va_eqt (hs (Cond.eq (.elem (.static "CarpetLands$Voice" "BODIES" "[I") (.int 26)) (.int 70)) (by decide +kernel))
  | 27, _ => va_eqt (hs (Cond.eq (.elem (.static "CarpetLands$Voice" "BODIES" "[I") (.int 27)) (.int 71)) (by decide +kernel))
  | n + 28, h => absurd h (by omega)
abbrev tmS (i : Nat) : Term := .string "CarpetLands$Reader" (strI i)
theorem str_ex {args : Array Value} {s : State} (hs : ∀ c ∈ flatC nrw, c.before args s = true) : ∀ i : Nat, i < 9 → (Cond.exactly (tmS i) "java/lang/String").before args s = true
  | 0, _ => hs (Cond.exactly (.string "CarpetLands$Reader" 23) "java/lang/String") (by decide +kernel)
  | 1, _ => hs (Cond.exactly (.string "CarpetLands$Reader" 37) "java/lang/String") (by decide +kernel)
  | 2, _ => hs (Cond.exactly (.string "CarpetLands$Reader" 39) "java/lang/String") (by decide +kernel)
  | 3, _ => hs (Cond.exactly (.string "CarpetLands$Reader" 91) "java/lang/String") (by decide +kernel)
  | 4, _ => hs (Cond.exactly (.string "CarpetLands$Reader" 51) "java/lang/String") (by decide +kernel)
  | 5, _ => hs (Cond.exactly (.string "CarpetLands$Reader" 53) "java/lang/String") (by decide +kernel)
  | 6, _ => hs (Cond.exactly (.string "CarpetLands$Reader" 55) "java/lang/String") (by decide +kernel)
  | 7, _ => hs (Cond.exactly (.string "CarpetLands$Reader" 57) "java/lang/String") (by decide +kernel)
  | 8, _ => hs (Cond.exactly (.string "CarpetLands$Reader" 59) "java/lang/String") (by decide +kernel)
  | n + 9, h => absurd h (by omega)
theorem st_co {args : Array Value} {s : State} (hs : ∀ c ∈ flatC nrw, c.before args s = true) : ∀ i : Nat, i < 9 → (Cond.eq (.field (tmS i) "java/lang/String" "coder" "B") (.int 0)).before args s = true
  | 0, _ => hs (Cond.eq (.field (.string "CarpetLands$Reader" 23) "java/lang/String" "coder" "B") (.int 0)) (by decide +kernel)
  | 1, _ => hs (Cond.eq (.field (.string "CarpetLands$Reader" 37) "java/lang/String" "coder" "B") (.int 0)) (by decide +kernel)
  | 2, _ => hs (Cond.eq (.field (.string "CarpetLands$Reader" 39) "java/lang/String" "coder" "B") (.int 0)) (by decide +kernel)
  | 3, _ => hs (Cond.eq (.field (.string "CarpetLands$Reader" 91) "java/lang/String" "coder" "B") (.int 0)) (by decide +kernel)
  | 4, _ => hs (Cond.eq (.field (.string "CarpetLands$Reader" 51) "java/lang/String" "coder" "B") (.int 0)) (by decide +kernel)
  | 5, _ => hs (Cond.eq (.field (.string "CarpetLands$Reader" 53) "java/lang/String" "coder" "B") (.int 0)) (by decide +kernel)
  | 6, _ => hs (Cond.eq (.field (.string "CarpetLands$Reader" 55) "java/lang/String" "coder" "B") (.int 0)) (by decide +kernel)
  | 7, _ => hs (Cond.eq (.field (.string "CarpetLands$Reader" 57) "java/lang/String" "coder" "B") (.int 0)) (by decide +kernel)
  | 8, _ => hs (Cond.eq (.field (.string "CarpetLands$Reader" 59) "java/lang/String" "coder" "B") (.int 0)) (by decide +kernel)
  | n + 9, h => absurd h (by omega)
theorem st_ar {args : Array Value} {s : State} (hs : ∀ c ∈ flatC nrw, c.before args s = true) : ∀ i : Nat, i < 9 → (Cond.arrayOf (.field (tmS i) "java/lang/String" "value" "[B") .byte).before args s = true
  | 0, _ => hs (Cond.arrayOf (.field (.string "CarpetLands$Reader" 23) "java/lang/String" "value" "[B") .byte) (by decide +kernel)
  | 1, _ => hs (Cond.arrayOf (.field (.string "CarpetLands$Reader" 37) "java/lang/String" "value" "[B") .byte) (by decide +kernel)
  | 2, _ => hs (Cond.arrayOf (.field (.string "CarpetLands$Reader" 39) "java/lang/String" "value" "[B") .byte) (by decide +kernel)
  | 3, _ => hs (Cond.arrayOf (.field (.string "CarpetLands$Reader" 91) "java/lang/String" "value" "[B") .byte) (by decide +kernel)
  | 4, _ => hs (Cond.arrayOf (.field (.string "CarpetLands$Reader" 51) "java/lang/String" "value" "[B") .byte) (by decide +kernel)
  | 5, _ => hs (Cond.arrayOf (.field (.string "CarpetLands$Reader" 53) "java/lang/String" "value" "[B") .byte) (by decide +kernel)
  | 6, _ => hs (Cond.arrayOf (.field (.string "CarpetLands$Reader" 55) "java/lang/String" "value" "[B") .byte) (by decide +kernel)
  | 7, _ => hs (Cond.arrayOf (.field (.string "CarpetLands$Reader" 57) "java/lang/String" "value" "[B") .byte) (by decide +kernel)
  | 8, _ => hs (Cond.arrayOf (.field (.string "CarpetLands$Reader" 59) "java/lang/String" "value" "[B") .byte) (by decide +kernel)
  | n + 9, h => absurd h (by omega)
theorem st_le {args : Array Value} {s : State} (hs : ∀ c ∈ flatC nrw, c.before args s = true) : ∀ i : Nat, i < 9 → (Cond.eq (.length (.field (tmS i) "java/lang/String" "value" "[B")) (.int (Int32.ofNat (strN.getD i 0)))).before args s = true
  | 0, _ => hs (Cond.eq (.length (.field (.string "CarpetLands$Reader" 23) "java/lang/String" "value" "[B")) (.int 0)) (by decide +kernel)
  | 1, _ => hs (Cond.eq (.length (.field (.string "CarpetLands$Reader" 37) "java/lang/String" "value" "[B")) (.int 3)) (by decide +kernel)
  | 2, _ => hs (Cond.eq (.length (.field (.string "CarpetLands$Reader" 39) "java/lang/String" "value" "[B")) (.int 3)) (by decide +kernel)
  | 3, _ => hs (Cond.eq (.length (.field (.string "CarpetLands$Reader" 91) "java/lang/String" "value" "[B")) (.int 10)) (by decide +kernel)
  | 4, _ => hs (Cond.eq (.length (.field (.string "CarpetLands$Reader" 51) "java/lang/String" "value" "[B")) (.int 1)) (by decide +kernel)
  | 5, _ => hs (Cond.eq (.length (.field (.string "CarpetLands$Reader" 53) "java/lang/String" "value" "[B")) (.int 1)) (by decide +kernel)
  | 6, _ => hs (Cond.eq (.length (.field (.string "CarpetLands$Reader" 55) "java/lang/String" "value" "[B")) (.int 3)) (by decide +kernel)
  | 7, _ => hs (Cond.eq (.length (.field (.string "CarpetLands$Reader" 57) "java/lang/String" "value" "[B")) (.int 2)) (by decide +kernel)
  | 8, _ => hs (Cond.eq (.length (.field (.string "CarpetLands$Reader" 59) "java/lang/String" "value" "[B")) (.int 3)) (by decide +kernel)
  | n + 9, h => absurd h (by omega)
theorem st_el {args : Array Value} {s : State} (hs : ∀ c ∈ flatC nrw, c.before args s = true) : ∀ i : Nat, i < 9 → ∀ j : Nat, j < strN.getD i 0 → (Cond.eq (.elem (.field (tmS i) "java/lang/String" "value" "[B") (.int (Int32.ofNat j))) (.int ((strB.getD i []).getD j 0))).before args s = true
  | 0, _, n + 0, h => absurd h (by show ¬ n + 0 < 0; omega)
  | 1, _, 0, _ => hs (Cond.eq (.elem (.field (.string "CarpetLands$Reader" 37) "java/lang/String" "value" "[B") (.int 0)) (.int 114)) (by decide +kernel)
  | 1, _, 1, _ => hs (Cond.eq (.elem (.field (.string "CarpetLands$Reader" 37) "java/lang/String" "value" "[B") (.int 1)) (.int 99)) (by decide +kernel)
  | 1, _, 2, _ => hs (Cond.eq (.elem (.field (.string "CarpetLands$Reader" 37) "java/lang/String" "value" "[B") (.int 2)) (.int 100)) (by decide +kernel)
  | 1, _, n + 3, h => absurd h (by show ¬ n + 3 < 3; omega)
  | 2, _, 0, _ => hs (Cond.eq (.elem (.field (.string "CarpetLands$Reader" 39) "java/lang/String" "value" "[B") (.int 0)) (.int 107)) (by decide +kernel)
  | 2, _, 1, _ => hs (Cond.eq (.elem (.field (.string "CarpetLands$Reader" 39) "java/lang/String" "value" "[B") (.int 1)) (.int 119)) (by decide +kernel)
  | 2, _, 2, _ => hs (Cond.eq (.elem (.field (.string "CarpetLands$Reader" 39) "java/lang/String" "value" "[B") (.int 2)) (.int 99)) (by decide +kernel)
  | 2, _, n + 3, h => absurd h (by show ¬ n + 3 < 3; omega)
  | 3, _, 0, _ => hs (Cond.eq (.elem (.field (.string "CarpetLands$Reader" 91) "java/lang/String" "value" "[B") (.int 0)) (.int 48)) (by decide +kernel)
  | 3, _, 1, _ => hs (Cond.eq (.elem (.field (.string "CarpetLands$Reader" 91) "java/lang/String" "value" "[B") (.int 1)) (.int 49)) (by decide +kernel)
  | 3, _, 2, _ => hs (Cond.eq (.elem (.field (.string "CarpetLands$Reader" 91) "java/lang/String" "value" "[B") (.int 2)) (.int 50)) (by decide +kernel)
  | 3, _, 3, _ => hs (Cond.eq (.elem (.field (.string "CarpetLands$Reader" 91) "java/lang/String" "value" "[B") (.int 3)) (.int 51)) (by decide +kernel)
  | 3, _, 4, _ => hs (Cond.eq (.elem (.field (.string "CarpetLands$Reader" 91) "java/lang/String" "value" "[B") (.int 4)) (.int 52)) (by decide +kernel)
  | 3, _, 5, _ => hs (Cond.eq (.elem (.field (.string "CarpetLands$Reader" 91) "java/lang/String" "value" "[B") (.int 5)) (.int 53)) (by decide +kernel)
  | 3, _, 6, _ => hs (Cond.eq (.elem (.field (.string "CarpetLands$Reader" 91) "java/lang/String" "value" "[B") (.int 6)) (.int 54)) (by decide +kernel)
  | 3, _, 7, _ => hs (Cond.eq (.elem (.field (.string "CarpetLands$Reader" 91) "java/lang/String" "value" "[B") (.int 7)) (.int 55)) (by decide +kernel)
  | 3, _, 8, _ => hs (Cond.eq (.elem (.field (.string "CarpetLands$Reader" 91) "java/lang/String" "value" "[B") (.int 8)) (.int 56)) (by decide +kernel)
  | 3, _, 9, _ => hs (Cond.eq (.elem (.field (.string "CarpetLands$Reader" 91) "java/lang/String" "value" "[B") (.int 9)) (.int 57)) (by decide +kernel)
  | 3, _, n + 10, h => absurd h (by show ¬ n + 10 < 10; omega)
  | 4, _, 0, _ => hs (Cond.eq (.elem (.field (.string "CarpetLands$Reader" 51) "java/lang/String" "value" "[B") (.int 0)) (.int 124)) (by decide +kernel)
  | 4, _, n + 1, h => absurd h (by show ¬ n + 1 < 1; omega)
  | 5, _, 0, _ => hs (Cond.eq (.elem (.field (.string "CarpetLands$Reader" 53) "java/lang/String" "value" "[B") (.int 0)) (.int 38)) (by decide +kernel)
  | 5, _, n + 1, h => absurd h (by show ¬ n + 1 < 1; omega)
  | 6, _, 0, _ => hs (Cond.eq (.elem (.field (.string "CarpetLands$Reader" 55) "java/lang/String" "value" "[B") (.int 0)) (.int 60)) (by decide +kernel)
  | 6, _, 1, _ => hs (Cond.eq (.elem (.field (.string "CarpetLands$Reader" 55) "java/lang/String" "value" "[B") (.int 1)) (.int 61)) (by decide +kernel)
  | 6, _, 2, _ => hs (Cond.eq (.elem (.field (.string "CarpetLands$Reader" 55) "java/lang/String" "value" "[B") (.int 2)) (.int 62)) (by decide +kernel)
  | 6, _, n + 3, h => absurd h (by show ¬ n + 3 < 3; omega)
  | 7, _, 0, _ => hs (Cond.eq (.elem (.field (.string "CarpetLands$Reader" 57) "java/lang/String" "value" "[B") (.int 0)) (.int 43)) (by decide +kernel)
  | 7, _, 1, _ => hs (Cond.eq (.elem (.field (.string "CarpetLands$Reader" 57) "java/lang/String" "value" "[B") (.int 1)) (.int 45)) (by decide +kernel)
  | 7, _, n + 2, h => absurd h (by show ¬ n + 2 < 2; omega)
  | 8, _, 0, _ => hs (Cond.eq (.elem (.field (.string "CarpetLands$Reader" 59) "java/lang/String" "value" "[B") (.int 0)) (.int 42)) (by decide +kernel)
  | 8, _, 1, _ => hs (Cond.eq (.elem (.field (.string "CarpetLands$Reader" 59) "java/lang/String" "value" "[B") (.int 1)) (.int 47)) (by decide +kernel)
  | 8, _, 2, _ => hs (Cond.eq (.elem (.field (.string "CarpetLands$Reader" 59) "java/lang/String" "value" "[B") (.int 2)) (.int 37)) (by decide +kernel)
  | 8, _, n + 3, h => absurd h (by show ¬ n + 3 < 3; omega)
  | n + 9, h, _, _ => absurd h (by omega)
theorem st_ne {args : Array Value} {s : State} (hs : ∀ c ∈ flatC nrw, c.before args s = true) : ∀ i : Nat, i < 9 → ∀ j : Nat, j < 9 → i ≠ j → (Cond.not (Cond.eq (tmS i) (tmS j))).before args s = true ∨ (Cond.not (Cond.eq (tmS j) (tmS i))).before args s = true
  | 0, _, 0, _, h => absurd rfl h
  | 0, _, 1, _, _ => Or.inl (hs (Cond.not (Cond.eq (.string "CarpetLands$Reader" 23) (.string "CarpetLands$Reader" 37))) (by decide +kernel))
  | 0, _, 2, _, _ => Or.inl (hs (Cond.not (Cond.eq (.string "CarpetLands$Reader" 23) (.string "CarpetLands$Reader" 39))) (by decide +kernel))
  | 0, _, 3, _, _ => Or.inl (hs (Cond.not (Cond.eq (.string "CarpetLands$Reader" 23) (.string "CarpetLands$Reader" 91))) (by decide +kernel))
  | 0, _, 4, _, _ => Or.inl (hs (Cond.not (Cond.eq (.string "CarpetLands$Reader" 23) (.string "CarpetLands$Reader" 51))) (by decide +kernel))
  | 0, _, 5, _, _ => Or.inl (hs (Cond.not (Cond.eq (.string "CarpetLands$Reader" 23) (.string "CarpetLands$Reader" 53))) (by decide +kernel))
  | 0, _, 6, _, _ => Or.inl (hs (Cond.not (Cond.eq (.string "CarpetLands$Reader" 23) (.string "CarpetLands$Reader" 55))) (by decide +kernel))
  | 0, _, 7, _, _ => Or.inl (hs (Cond.not (Cond.eq (.string "CarpetLands$Reader" 23) (.string "CarpetLands$Reader" 57))) (by decide +kernel))
  | 0, _, 8, _, _ => Or.inl (hs (Cond.not (Cond.eq (.string "CarpetLands$Reader" 23) (.string "CarpetLands$Reader" 59))) (by decide +kernel))
  | 0, _, n + 9, h, _ => absurd h (by omega)
  | 1, _, 0, _, _ => Or.inr (hs (Cond.not (Cond.eq (.string "CarpetLands$Reader" 23) (.string "CarpetLands$Reader" 37))) (by decide +kernel))
  | 1, _, 1, _, h => absurd rfl h
  | 1, _, 2, _, _ => Or.inl (hs (Cond.not (Cond.eq (.string "CarpetLands$Reader" 37) (.string "CarpetLands$Reader" 39))) (by decide +kernel))
  | 1, _, 3, _, _ => Or.inl (hs (Cond.not (Cond.eq (.string "CarpetLands$Reader" 37) (.string "CarpetLands$Reader" 91))) (by decide +kernel))
  | 1, _, 4, _, _ => Or.inl (hs (Cond.not (Cond.eq (.string "CarpetLands$Reader" 37) (.string "CarpetLands$Reader" 51))) (by decide +kernel))
  | 1, _, 5, _, _ => Or.inl (hs (Cond.not (Cond.eq (.string "CarpetLands$Reader" 37) (.string "CarpetLands$Reader" 53))) (by decide +kernel))
  | 1, _, 6, _, _ => Or.inl (hs (Cond.not (Cond.eq (.string "CarpetLands$Reader" 37) (.string "CarpetLands$Reader" 55))) (by decide +kernel))
  | 1, _, 7, _, _ => Or.inl (hs (Cond.not (Cond.eq (.string "CarpetLands$Reader" 37) (.string "CarpetLands$Reader" 57))) (by decide +kernel))
  | 1, _, 8, _, _ => Or.inl (hs (Cond.not (Cond.eq (.string "CarpetLands$Reader" 37) (.string "CarpetLands$Reader" 59))) (by decide +kernel))
  | 1, _, n + 9, h, _ => absurd h (by omega)
  | 2, _, 0, _, _ => Or.inr (hs (Cond.not (Cond.eq (.string "CarpetLands$Reader" 23) (.string "CarpetLands$Reader" 39))) (by decide +kernel))
  | 2, _, 1, _, _ => Or.inr (hs (Cond.not (Cond.eq (.string "CarpetLands$Reader" 37) (.string "CarpetLands$Reader" 39))) (by decide +kernel))
  | 2, _, 2, _, h => absurd rfl h
  | 2, _, 3, _, _ => Or.inl (hs (Cond.not (Cond.eq (.string "CarpetLands$Reader" 39) (.string "CarpetLands$Reader" 91))) (by decide +kernel))
  | 2, _, 4, _, _ => Or.inl (hs (Cond.not (Cond.eq (.string "CarpetLands$Reader" 39) (.string "CarpetLands$Reader" 51))) (by decide +kernel))
  | 2, _, 5, _, _ => Or.inl (hs (Cond.not (Cond.eq (.string "CarpetLands$Reader" 39) (.string "CarpetLands$Reader" 53))) (by decide +kernel))
  | 2, _, 6, _, _ => Or.inl (hs (Cond.not (Cond.eq (.string "CarpetLands$Reader" 39) (.string "CarpetLands$Reader" 55))) (by decide +kernel))
  | 2, _, 7, _, _ => Or.inl (hs (Cond.not (Cond.eq (.string "CarpetLands$Reader" 39) (.string "CarpetLands$Reader" 57))) (by decide +kernel))
  | 2, _, 8, _, _ => Or.inl (hs (Cond.not (Cond.eq (.string "CarpetLands$Reader" 39) (.string "CarpetLands$Reader" 59))) (by decide +kernel))
  | 2, _, n + 9, h, _ => absurd h (by omega)
  | 3, _, 0, _, _ => Or.inr (hs (Cond.not (Cond.eq (.string "CarpetLands$Reader" 23) (.string "CarpetLands$Reader" 91))) (by decide +kernel))
  | 3, _, 1, _, _ => Or.inr (hs (Cond.not (Cond.eq (.string "CarpetLands$Reader" 37) (.string "CarpetLands$Reader" 91))) (by decide +kernel))
  | 3, _, 2, _, _ => Or.inr (hs (Cond.not (Cond.eq (.string "CarpetLands$Reader" 39) (.string "CarpetLands$Reader" 91))) (by decide +kernel))
  | 3, _, 3, _, h => absurd rfl h
  | 3, _, 4, _, _ => Or.inl (hs (Cond.not (Cond.eq (.string "CarpetLands$Reader" 91) (.string "CarpetLands$Reader" 51))) (by decide +kernel))
  | 3, _, 5, _, _ => Or.inl (hs (Cond.not (Cond.eq (.string "CarpetLands$Reader" 91) (.string "CarpetLands$Reader" 53))) (by decide +kernel))
  | 3, _, 6, _, _ => Or.inl (hs (Cond.not (Cond.eq (.string "CarpetLands$Reader" 91) (.string "CarpetLands$Reader" 55))) (by decide +kernel))
  | 3, _, 7, _, _ => Or.inl (hs (Cond.not (Cond.eq (.string "CarpetLands$Reader" 91) (.string "CarpetLands$Reader" 57))) (by decide +kernel))
  | 3, _, 8, _, _ => Or.inl (hs (Cond.not (Cond.eq (.string "CarpetLands$Reader" 91) (.string "CarpetLands$Reader" 59))) (by decide +kernel))
  | 3, _, n + 9, h, _ => absurd h (by omega)
  | 4, _, 0, _, _ => Or.inr (hs (Cond.not (Cond.eq (.string "CarpetLands$Reader" 23) (.string "CarpetLands$Reader" 51))) (by decide +kernel))
  | 4, _, 1, _, _ => Or.inr (hs (Cond.not (Cond.eq (.string "CarpetLands$Reader" 37) (.string "CarpetLands$Reader" 51))) (by decide +kernel))
  | 4, _, 2, _, _ => Or.inr (hs (Cond.not (Cond.eq (.string "CarpetLands$Reader" 39) (.string "CarpetLands$Reader" 51))) (by decide +kernel))
  | 4, _, 3, _, _ => Or.inr (hs (Cond.not (Cond.eq (.string "CarpetLands$Reader" 91) (.string "CarpetLands$Reader" 51))) (by decide +kernel))
  | 4, _, 4, _, h => absurd rfl h
  | 4, _, 5, _, _ => Or.inl (hs (Cond.not (Cond.eq (.string "CarpetLands$Reader" 51) (.string "CarpetLands$Reader" 53))) (by decide +kernel))
  | 4, _, 6, _, _ => Or.inl (hs (Cond.not (Cond.eq (.string "CarpetLands$Reader" 51) (.string "CarpetLands$Reader" 55))) (by decide +kernel))
  | 4, _, 7, _, _ => Or.inl (hs (Cond.not (Cond.eq (.string "CarpetLands$Reader" 51) (.string "CarpetLands$Reader" 57))) (by decide +kernel))
  | 4, _, 8, _, _ => Or.inl (hs (Cond.not (Cond.eq (.string "CarpetLands$Reader" 51) (.string "CarpetLands$Reader" 59))) (by decide +kernel))
  | 4, _, n + 9, h, _ => absurd h (by omega)
  | 5, _, 0, _, _ => Or.inr (hs (Cond.not (Cond.eq (.string "CarpetLands$Reader" 23) (.string "CarpetLands$Reader" 53))) (by decide +kernel))
  | 5, _, 1, _, _ => Or.inr (hs (Cond.not (Cond.eq (.string "CarpetLands$Reader" 37) (.string "CarpetLands$Reader" 53))) (by decide +kernel))
  | 5, _, 2, _, _ => Or.inr (hs (Cond.not (Cond.eq (.string "CarpetLands$Reader" 39) (.string "CarpetLands$Reader" 53))) (by decide +kernel))
  | 5, _, 3, _, _ => Or.inr (hs (Cond.not (Cond.eq (.string "CarpetLands$Reader" 91) (.string "CarpetLands$Reader" 53))) (by decide +kernel))
  | 5, _, 4, _, _ => Or.inr (hs (Cond.not (Cond.eq (.string "CarpetLands$Reader" 51) (.string "CarpetLands$Reader" 53))) (by decide +kernel))
  | 5, _, 5, _, h => absurd rfl h
  | 5, _, 6, _, _ => Or.inl (hs (Cond.not (Cond.eq (.string "CarpetLands$Reader" 53) (.string "CarpetLands$Reader" 55))) (by decide +kernel))
  | 5, _, 7, _, _ => Or.inl (hs (Cond.not (Cond.eq (.string "CarpetLands$Reader" 53) (.string "CarpetLands$Reader" 57))) (by decide +kernel))
  | 5, _, 8, _, _ => Or.inl (hs (Cond.not (Cond.eq (.string "CarpetLands$Reader" 53) (.string "CarpetLands$Reader" 59))) (by decide +kernel))
  | 5, _, n + 9, h, _ => absurd h (by omega)
  | 6, _, 0, _, _ => Or.inr (hs (Cond.not (Cond.eq (.string "CarpetLands$Reader" 23) (.string "CarpetLands$Reader" 55))) (by decide +kernel))
  | 6, _, 1, _, _ => Or.inr (hs (Cond.not (Cond.eq (.string "CarpetLands$Reader" 37) (.string "CarpetLands$Reader" 55))) (by decide +kernel))
  | 6, _, 2, _, _ => Or.inr (hs (Cond.not (Cond.eq (.string "CarpetLands$Reader" 39) (.string "CarpetLands$Reader" 55))) (by decide +kernel))
  | 6, _, 3, _, _ => Or.inr (hs (Cond.not (Cond.eq (.string "CarpetLands$Reader" 91) (.string "CarpetLands$Reader" 55))) (by decide +kernel))
  | 6, _, 4, _, _ => Or.inr (hs (Cond.not (Cond.eq (.string "CarpetLands$Reader" 51) (.string "CarpetLands$Reader" 55))) (by decide +kernel))
  | 6, _, 5, _, _ => Or.inr (hs (Cond.not (Cond.eq (.string "CarpetLands$Reader" 53) (.string "CarpetLands$Reader" 55))) (by decide +kernel))
  | 6, _, 6, _, h => absurd rfl h
  | 6, _, 7, _, _ => Or.inl (hs (Cond.not (Cond.eq (.string "CarpetLands$Reader" 55) (.string "CarpetLands$Reader" 57))) (by decide +kernel))
  | 6, _, 8, _, _ => Or.inl (hs (Cond.not (Cond.eq (.string "CarpetLands$Reader" 55) (.string "CarpetLands$Reader" 59))) (by decide +kernel))
  | 6, _, n + 9, h, _ => absurd h (by omega)
  | 7, _, 0, _, _ => Or.inr (hs (Cond.not (Cond.eq (.string "CarpetLands$Reader" 23) (.string "CarpetLands$Reader" 57))) (by decide +kernel))
  | 7, _, 1, _, _ => Or.inr (hs (Cond.not (Cond.eq (.string "CarpetLands$Reader" 37) (.string "CarpetLands$Reader" 57))) (by decide +kernel))
  | 7, _, 2, _, _ => Or.inr (hs (Cond.not (Cond.eq (.string "CarpetLands$Reader" 39) (.string "CarpetLands$Reader" 57))) (by decide +kernel))
  | 7, _, 3, _, _ => Or.inr (hs (Cond.not (Cond.eq (.string "CarpetLands$Reader" 91) (.string "CarpetLands$Reader" 57))) (by decide +kernel))
  | 7, _, 4, _, _ => Or.inr (hs (Cond.not (Cond.eq (.string "CarpetLands$Reader" 51) (.string "CarpetLands$Reader" 57))) (by decide +kernel))
  | 7, _, 5, _, _ => Or.inr (hs (Cond.not (Cond.eq (.string "CarpetLands$Reader" 53) (.string "CarpetLands$Reader" 57))) (by decide +kernel))
  | 7, _, 6, _, _ => Or.inr (hs (Cond.not (Cond.eq (.string "CarpetLands$Reader" 55) (.string "CarpetLands$Reader" 57))) (by decide +kernel))
  | 7, _, 7, _, h => absurd rfl h
  | 7, _, 8, _, _ => Or.inl (hs (Cond.not (Cond.eq (.string "CarpetLands$Reader" 57) (.string "CarpetLands$Reader" 59))) (by decide +kernel))
  | 7, _, n + 9, h, _ => absurd h (by omega)
  | 8, _, 0, _, _ => Or.inr (hs (Cond.not (Cond.eq (.string "CarpetLands$Reader" 23) (.string "CarpetLands$Reader" 59))) (by decide +kernel))
  | 8, _, 1, _, _ => Or.inr (hs (Cond.not (Cond.eq (.string "CarpetLands$Reader" 37) (.string "CarpetLands$Reader" 59))) (by decide +kernel))
  | 8, _, 2, _, _ => Or.inr (hs (Cond.not (Cond.eq (.string "CarpetLands$Reader" 39) (.string "CarpetLands$Reader" 59))) (by decide +kernel))
  | 8, _, 3, _, _ => Or.inr (hs (Cond.not (Cond.eq (.string "CarpetLands$Reader" 91) (.string "CarpetLands$Reader" 59))) (by decide +kernel))
  | 8, _, 4, _, _ => Or.inr (hs (Cond.not (Cond.eq (.string "CarpetLands$Reader" 51) (.string "CarpetLands$Reader" 59))) (by decide +kernel))
  | 8, _, 5, _, _ => Or.inr (hs (Cond.not (Cond.eq (.string "CarpetLands$Reader" 53) (.string "CarpetLands$Reader" 59))) (by decide +kernel))
  | 8, _, 6, _, _ => Or.inr (hs (Cond.not (Cond.eq (.string "CarpetLands$Reader" 55) (.string "CarpetLands$Reader" 59))) (by decide +kernel))
  | 8, _, 7, _, _ => Or.inr (hs (Cond.not (Cond.eq (.string "CarpetLands$Reader" 57) (.string "CarpetLands$Reader" 59))) (by decide +kernel))
  | 8, _, 8, _, h => absurd rfl h
  | 8, _, n + 9, h, _ => absurd h (by omega)
  | n + 9, h, _, _, _ => absurd h (by omega)
theorem hts_of {args : Array Value} {s : State} (h : ∀ w ∈ lw_tbl, w.before args s = true) : ∀ w ∈ GT, w.before args s = true := fun w hw => h w (List.mem_filter.mp hw).1
set_option maxRecDepth 20000 in
theorem ins0 : Cond.instantiable (clOf 0).1 (clOf 0).2.2 ∈ GT := in_GT (ws := [Cond.instantiable (clOf 0).1 (clOf 0).2.2]) [93] (by decide +kernel) (by decide +kernel) _ List.mem_cons_self
set_option maxRecDepth 20000 in
theorem ins1 : Cond.instantiable (clOf 1).1 (clOf 1).2.2 ∈ GT := in_GT (ws := [Cond.instantiable (clOf 1).1 (clOf 1).2.2]) [87] (by decide +kernel) (by decide +kernel) _ List.mem_cons_self
set_option maxRecDepth 20000 in
theorem ins2 : Cond.instantiable (clOf 2).1 (clOf 2).2.2 ∈ GT := in_GT (ws := [Cond.instantiable (clOf 2).1 (clOf 2).2.2]) [272] (by decide +kernel) (by decide +kernel) _ List.mem_cons_self
set_option maxRecDepth 20000 in
theorem ins3 : Cond.instantiable (clOf 3).1 (clOf 3).2.2 ∈ GT := in_GT (ws := [Cond.instantiable (clOf 3).1 (clOf 3).2.2]) [109] (by decide +kernel) (by decide +kernel) _ List.mem_cons_self
set_option maxRecDepth 20000 in
theorem ins4 : Cond.instantiable (clOf 4).1 (clOf 4).2.2 ∈ GT := in_GT (ws := [Cond.instantiable (clOf 4).1 (clOf 4).2.2]) [206] (by decide +kernel) (by decide +kernel) _ List.mem_cons_self
set_option maxRecDepth 20000 in
theorem ins5 : Cond.instantiable (clOf 5).1 (clOf 5).2.2 ∈ GT := in_GT (ws := [Cond.instantiable (clOf 5).1 (clOf 5).2.2]) [255] (by decide +kernel) (by decide +kernel) _ List.mem_cons_self
set_option maxRecDepth 20000 in
theorem ins6 : Cond.instantiable (clOf 6).1 (clOf 6).2.2 ∈ GT := in_GT (ws := [Cond.instantiable (clOf 6).1 (clOf 6).2.2]) [115] (by decide +kernel) (by decide +kernel) _ List.mem_cons_self
set_option maxRecDepth 20000 in
theorem ins7 : Cond.instantiable (clOf 7).1 (clOf 7).2.2 ∈ GT := in_GT (ws := [Cond.instantiable (clOf 7).1 (clOf 7).2.2]) [293] (by decide +kernel) (by decide +kernel) _ List.mem_cons_self
set_option maxRecDepth 20000 in
theorem ins8 : Cond.instantiable (clOf 8).1 (clOf 8).2.2 ∈ GT := in_GT (ws := [Cond.instantiable (clOf 8).1 (clOf 8).2.2]) [233] (by decide +kernel) (by decide +kernel) _ List.mem_cons_self
set_option maxRecDepth 20000 in
theorem ins9 : Cond.instantiable (clOf 9).1 (clOf 9).2.2 ∈ GT := in_GT (ws := [Cond.instantiable (clOf 9).1 (clOf 9).2.2]) [143] (by decide +kernel) (by decide +kernel) _ List.mem_cons_self
set_option maxRecDepth 20000 in
theorem ins10 : Cond.instantiable (clOf 10).1 (clOf 10).2.2 ∈ GT := in_GT (ws := [Cond.instantiable (clOf 10).1 (clOf 10).2.2]) [79] (by decide +kernel) (by decide +kernel) _ List.mem_cons_self
set_option maxRecDepth 20000 in
theorem ins11 : Cond.instantiable (clOf 11).1 (clOf 11).2.2 ∈ GT := in_GT (ws := [Cond.instantiable (clOf 11).1 (clOf 11).2.2]) [1051] (by decide +kernel) (by decide +kernel) _ List.mem_cons_self
theorem kn_all {args : Array Value} {s : State} (h : ∀ w ∈ GT, w.before args s = true) : ∀ ci, ci < 12 → ∃ (cC : ClassId) (iS : Nat → Nat), u_Kn s (clOf ci).1 (clOf ci).2.1 (clOf ci).2.2 cC iS
  | 0, _ => u_known h (cls_all 0 (by decide)).2.1 (h _ ins0)
  | 1, _ => u_known h (cls_all 1 (by decide)).2.1 (h _ ins1)
  | 2, _ => u_known h (cls_all 2 (by decide)).2.1 (h _ ins2)
  | 3, _ => u_known h (cls_all 3 (by decide)).2.1 (h _ ins3)
  | 4, _ => u_known h (cls_all 4 (by decide)).2.1 (h _ ins4)
  | 5, _ => u_known h (cls_all 5 (by decide)).2.1 (h _ ins5)
  | 6, _ => u_known h (cls_all 6 (by decide)).2.1 (h _ ins6)
  | 7, _ => u_known h (cls_all 7 (by decide)).2.1 (h _ ins7)
  | 8, _ => u_known h (cls_all 8 (by decide)).2.1 (h _ ins8)
  | 9, _ => u_known h (cls_all 9 (by decide)).2.1 (h _ ins9)
  | 10, _ => u_known h (cls_all 10 (by decide)).2.1 (h _ ins10)
  | 11, _ => u_known h (cls_all 11 (by decide)).2.1 (h _ ins11)
  | n + 12, h => absurd h (by omega)
theorem arr_of {args : Array Value} {s : State} {ty : FieldType} (h : (Cond.arrayClass ty).before args s = true) (hr : refKind ty = false) : ∃ cA, ArrOfT s cA ty ∧ va_RA s cA ty := by
  obtain ⟨c, k, comp, h1, h2, h3⟩ := Cond.arrayClass_spec h
  refine ⟨c, fun n z => ⟨fun k h => (by cases h), k, h2, comp, h3⟩, ?_⟩
  cases ty with
  | object C => cases hr
  | _ => exact h1
theorem arr_over {args : Array Value} {s : State} {C : String} (h : (Cond.arrayOver (.object C)).before args s = true) : ∃ cA, ArrOfT s cA (.object C) ∧ va_RA s cA (.object C) := by
  obtain ⟨comp, c, k, h1, -, h2, h3, h4⟩ := Cond.arrayOver_spec h
  exact ⟨c, fun n z => ⟨fun k h => (by cases h), k, h2, comp, h3⟩, k, comp, h2, h3, h1, h4⟩
set_option maxRecDepth 20000 in
theorem ao_w : Cond.arrayOver (.object "CarpetLands$Walker") ∈ lw_tbl := List.mem_of_getElem? (i := 107) (by decide +kernel)
set_option maxRecDepth 20000 in
theorem ao_s : Cond.arrayOver (.object "CarpetLands$Sheet") ∈ lw_tbl := List.mem_of_getElem? (i := 292) (by decide +kernel)
set_option maxRecDepth 20000 in
theorem ls_a : Cond.laysStatic "CarpetLands" "ABOVE" "[I" ∈ lw_tbl := List.mem_of_getElem? (i := 509) (by decide +kernel)
set_option maxRecDepth 20000 in
theorem ls_b : Cond.laysStatic "CarpetLands$Voice" "BODIES" "[I" ∈ lw_tbl := List.mem_of_getElem? (i := 974) (by decide +kernel)
set_option maxRecDepth 20000 in
theorem ls_c : Cond.laysStatic "java/lang/String" "COMPACT_STRINGS" "Z" ∈ lw_tbl := List.mem_of_getElem? (i := 581) (by decide +kernel)
set_option maxRecDepth 20000 in
theorem in_a : Cond.initialized "CarpetLands" ∈ lw_tbl := List.mem_of_getElem? (i := 57) (by decide +kernel)
set_option maxRecDepth 20000 in
theorem in_b : Cond.initialized "CarpetLands$Voice" ∈ lw_tbl := List.mem_of_getElem? (i := 65) (by decide +kernel)
set_option maxRecDepth 20000 in
theorem in_c : Cond.initialized "java/lang/String" ∈ lw_tbl := List.mem_of_getElem? (i := 72) (by decide +kernel)
set_option maxRecDepth 20000 in
theorem fn_a : Cond.fieldLinkNest RX10 28 "CarpetLands" "ABOVE" "[I" "CarpetLands" ∈ lw_tbl := List.mem_of_getElem? (i := 508) (by decide +kernel)
theorem sr_all {args : Array Value} {s : State} (h : ∀ w ∈ lw_tbl, w.before args s = true) : ∀ i : Nat, i < 9 → (Cond.stringRef RX4 (strI i) (strL.getD i (0, "")).2).before args s = true
  | 0, _ => h _ (List.mem_of_getElem? (i := 213) (by decide +kernel))
  | 1, _ => h _ (List.mem_of_getElem? (i := 548) (by decide +kernel))
  | 2, _ => h _ (List.mem_of_getElem? (i := 549) (by decide +kernel))
  | 3, _ => h _ (List.mem_of_getElem? (i := 562) (by decide +kernel))
  | 4, _ => h _ (List.mem_of_getElem? (i := 666) (by decide +kernel))
  | 5, _ => h _ (List.mem_of_getElem? (i := 667) (by decide +kernel))
  | 6, _ => h _ (List.mem_of_getElem? (i := 668) (by decide +kernel))
  | 7, _ => h _ (List.mem_of_getElem? (i := 669) (by decide +kernel))
  | 8, _ => h _ (List.mem_of_getElem? (i := 670) (by decide +kernel))
  | n + 9, h => absurd h (by omega)
set_option maxRecDepth 20000 in
theorem ne_0 : Cond.methodLinkNest (nmC 1) 26 M_X3_init.1 "CarpetLands" ∈ lw_tbl := List.mem_of_getElem? (i := 110) (by decide +kernel)
set_option maxRecDepth 20000 in
theorem ne_1 : Cond.methodLinkNest (nmC 1) 56 M_X10_init.1 "CarpetLands" ∈ lw_tbl := List.mem_of_getElem? (i := 144) (by decide +kernel)
set_option maxRecDepth 20000 in
theorem ne_2 : Cond.methodLinkNest (nmC 11) 24 M_X4_init.1 "CarpetLands" ∈ lw_tbl := List.mem_of_getElem? (i := 207) (by decide +kernel)
set_option maxRecDepth 20000 in
theorem ne_3 : Cond.methodLinkNest (nmC 11) 31 M_X9_init.1 "CarpetLands" ∈ lw_tbl := List.mem_of_getElem? (i := 234) (by decide +kernel)
set_option maxRecDepth 20000 in
theorem ne_4 : Cond.methodLinkNest (nmC 11) 38 M_X5_init.1 "CarpetLands" ∈ lw_tbl := List.mem_of_getElem? (i := 256) (by decide +kernel)
set_option maxRecDepth 20000 in
theorem ne_5 : Cond.methodLinkNest (nmC 11) 45 M_X2_init.1 "CarpetLands" ∈ lw_tbl := List.mem_of_getElem? (i := 273) (by decide +kernel)
set_option maxRecDepth 20000 in
theorem ne_6 : Cond.methodLinkNest (nmC 11) 64 M_X8_init.1 "CarpetLands" ∈ lw_tbl := List.mem_of_getElem? (i := 294) (by decide +kernel)
set_option maxRecDepth 20000 in
theorem ne_7 : Cond.methodLinkNest (nmC 0) 24 M_X11_isKnot.1 "CarpetLands" ∈ lw_tbl := List.mem_of_getElem? (i := 361) (by decide +kernel)
set_option maxRecDepth 20000 in
theorem ne_8 : Cond.methodLinkNest (nmC 7) 11 M_X11_isKnot.1 "CarpetLands" ∈ lw_tbl := List.mem_of_getElem? (i := 429) (by decide +kernel)
set_option maxRecDepth 20000 in
theorem ne_9 : Cond.methodLinkNest (nmC 1) 73 M_X11_isWithin.1 "CarpetLands" ∈ lw_tbl := List.mem_of_getElem? (i := 486) (by decide +kernel)
set_option maxRecDepth 20000 in
theorem ne_10 : Cond.methodLinkNest (nmC 10) 24 M_X11_isWithin.1 "CarpetLands" ∈ lw_tbl := List.mem_of_getElem? (i := 507) (by decide +kernel)
set_option maxRecDepth 20000 in
theorem ne_11 : Cond.methodLinkNest (nmC 8) 30 M_X11_isColour.1 "CarpetLands" ∈ lw_tbl := List.mem_of_getElem? (i := 866) (by decide +kernel)
set_option maxRecDepth 20000 in
theorem ne_12 : Cond.methodLinkNest (nmC 0) 88 M_X11_isWithin.1 "CarpetLands" ∈ lw_tbl := List.mem_of_getElem? (i := 871) (by decide +kernel)
set_option maxRecDepth 20000 in
theorem ne_13 : Cond.methodLinkNest (nmC 2) 39 M_X11_isWithin.1 "CarpetLands" ∈ lw_tbl := List.mem_of_getElem? (i := 933) (by decide +kernel)
set_option maxRecDepth 20000 in
theorem ne_14 : Cond.methodLinkNest (nmC 9) 45 M_X11_isWithin.1 "CarpetLands" ∈ lw_tbl := List.mem_of_getElem? (i := 975) (by decide +kernel)
def nestIx : List (Nat × Nat) := [(1, 26), (1, 56), (11, 24), (11, 31), (11, 38), (11, 45), (11, 64), (0, 24), (7, 11), (1, 73), (10, 24), (8, 30), (0, 88), (2, 39), (9, 45)]
theorem nest_ix : ∀ q ∈ MT, (q.2.2.1 = 1 ∨ q.2.2.1 = 4) → (q.1, q.2.1) ∈ nestIx := by decide +kernel
theorem nest_nm : ∀ q ∈ MT, (q.2.2.1 = 1 ∨ q.2.2.1 = 4) → Cond.methodLinkNest (nmC q.1) q.2.1 q.2.2.2.1 "CarpetLands" ∈ [Cond.methodLinkNest (nmC 1) 26 M_X3_init.1 "CarpetLands", Cond.methodLinkNest (nmC 1) 56 M_X10_init.1 "CarpetLands", Cond.methodLinkNest (nmC 11) 24 M_X4_init.1 "CarpetLands", Cond.methodLinkNest (nmC 11) 31 M_X9_init.1 "CarpetLands", Cond.methodLinkNest (nmC 11) 38 M_X5_init.1 "CarpetLands", Cond.methodLinkNest (nmC 11) 45 M_X2_init.1 "CarpetLands", Cond.methodLinkNest (nmC 11) 64 M_X8_init.1 "CarpetLands", Cond.methodLinkNest (nmC 0) 24 M_X11_isKnot.1 "CarpetLands", Cond.methodLinkNest (nmC 7) 11 M_X11_isKnot.1 "CarpetLands", Cond.methodLinkNest (nmC 1) 73 M_X11_isWithin.1 "CarpetLands", Cond.methodLinkNest (nmC 10) 24 M_X11_isWithin.1 "CarpetLands", Cond.methodLinkNest (nmC 8) 30 M_X11_isColour.1 "CarpetLands", Cond.methodLinkNest (nmC 0) 88 M_X11_isWithin.1 "CarpetLands", Cond.methodLinkNest (nmC 2) 39 M_X11_isWithin.1 "CarpetLands", Cond.methodLinkNest (nmC 9) 45 M_X11_isWithin.1 "CarpetLands"] := by decide +kernel
theorem nest_all : ∀ q ∈ MT, (q.2.2.1 = 1 ∨ q.2.2.1 = 4) → Cond.methodLinkNest (nmC q.1) q.2.1 q.2.2.2.1 "CarpetLands" ∈ lw_tbl := by
  intro q hq hk
  have h := nest_nm q hq hk
  simp only [List.mem_cons, List.not_mem_nil, or_false] at h
  rcases h with h | h | h | h | h | h | h | h | h | h | h | h | h | h | h
  · rw [h]; exact ne_0
  · rw [h]; exact ne_1
  · rw [h]; exact ne_2
  · rw [h]; exact ne_3
  · rw [h]; exact ne_4
  · rw [h]; exact ne_5
  · rw [h]; exact ne_6
  · rw [h]; exact ne_7
  · rw [h]; exact ne_8
  · rw [h]; exact ne_9
  · rw [h]; exact ne_10
  · rw [h]; exact ne_11
  · rw [h]; exact ne_12
  · rw [h]; exact ne_13
  · rw [h]; exact ne_14
theorem resS_all : ∀ ix j, resS 4 ix = some j → j < 9 ∧ strI j = ix := by
  intro ix j h
  unfold resS at h
  rw [if_pos rfl] at h
  obtain ⟨hj, hp, -⟩ := List.findIdx?_eq_some_iff_getElem.mp h
  have hj9 : j < 9 := hj
  refine ⟨hj9, ?_⟩
  have hp2 := hp
  simp only [beq_iff_eq] at hp2
  unfold strI
  rw [List.getD_eq_getElem?_getD, List.getElem?_eq_getElem hj]
  exact hp2
theorem env_start {s : State} {b L : Nat} {xs : Nat → Int32} (hts : ∀ w ∈ lw_tbl, w.before #[Value.ref b] s = true) (hL : L ≤ 3072) (hX : va_X b L xs s s.heap) (hbl : b < s.heap.size) (hgv : nrw.before #[Value.ref b] s = true) : ∃ (sa : Nat → Nat) (D : va_G) (dA : Nat → ClassId), sa 0 = b ∧ EnvF s.heap.size sa D dA (stc L xs) s s.heap := by
  have hs := flat_of_before _ hgv
  have hG := hts_of hts
  have hA : ∀ a : Nat, a < s.heap.size → ¬ (fun q => s.heap.size ≤ q) a := fun a h => Nat.not_le.mpr h
  obtain ⟨tA, eA, TA⟩ := va_Tof (tm := .static "CarpetLands" "ABOVE" "[I") (ty := .int) (N := 7) (f := fun j => .int (aboveL.getD j 0)) (A := fun q => s.heap.size ≤ q) (by decide) (hs (Cond.arrayOf (.static "CarpetLands" "ABOVE" "[I") .int) (by decide +kernel)) (va_eqt (hs (Cond.eq (.length (.static "CarpetLands" "ABOVE" "[I")) (.int 7)) (by decide +kernel))) (el_above hs) hA
  obtain ⟨tB, eB, TB⟩ := va_Tof (tm := .static "CarpetLands$Voice" "BODIES" "[I") (ty := .int) (N := 28) (f := fun j => .int (bodL.getD j 0)) (A := fun q => s.heap.size ≤ q) (by decide) (hs (Cond.arrayOf (.static "CarpetLands$Voice" "BODIES" "[I") .int) (by decide +kernel)) (va_eqt (hs (Cond.eq (.length (.static "CarpetLands$Voice" "BODIES" "[I")) (.int 28)) (by decide +kernel))) (el_bod hs) hA
  obtain ⟨adK, adV, hK1, hK2⟩ := vk_Sof (N := 9) (tm := tmS) (len := strN) (byt := strB) (A := fun q => s.heap.size ≤ q) (by decide) (str_ex hs) (st_co hs) (st_ar hs) (st_le hs) (st_el hs) (fun i j h1 h2 h3 => st_ne hs i h1 j h2 h3) hA
  have hcl : ∀ ci, ∃ q : ClassId × (Nat → Nat), ci < 12 → u_Kn s (clOf ci).1 (clOf ci).2.1 (clOf ci).2.2 q.1 q.2 := by
    intro ci
    by_cases h : ci < 12
    · obtain ⟨a, b, c⟩ := kn_all hG ci h
      exact ⟨(a, b), fun _ => c⟩
    · exact ⟨(0, fun _ => 0), fun z => absurd z h⟩
  obtain ⟨Dq, hDq⟩ := Classical.axiomOfChoice hcl
  obtain ⟨d0, d0a, d0b⟩ := arr_of (hG _ ac_int) rfl
  obtain ⟨d1, d1a, d1b⟩ := arr_of (hG _ ac_long) rfl
  obtain ⟨d2, d2a, d2b⟩ := arr_of (hG _ ac_boolean) rfl
  obtain ⟨d3, d3a, d3b⟩ := arr_over (hts _ ao_w)
  obtain ⟨d4, d4a, d4b⟩ := arr_over (hts _ ao_s)
  refine ⟨fun a => if a = 0 then b else if a = 1 then tA else if a = 2 then tB else if a < 12 then adK (a - 3) else adV (a - 12), (fun c => (Dq c).1, fun c => (Dq c).2), fun t => if t = 0 then d0 else if t = 1 then d1 else if t = 2 then d2 else if t = 3 then d3 else d4, rfl, ?_⟩
  refine ⟨⟨?_, ?_⟩, ?_, ?_, ?_, ?_, Nat.le_refl _⟩
  · intro c q hq
    have hc : c < 12 := (List.getElem?_eq_some_iff.mp hq).1
    have h1 := (cls_all c hc).1
    rw [h1] at hq
    cases hq
    exact hDq c hc
  · intro k q hk
    match k, hk with
    | 0, hk => cases hk; exact ⟨d0a, d0b⟩
    | 1, hk => cases hk; exact ⟨d1a, d1b⟩
    | 2, hk => cases hk; exact ⟨d2a, d2b⟩
    | 3, hk => cases hk; exact ⟨d3a, d3b⟩
    | 4, hk => cases hk; exact ⟨d4a, d4b⟩
    | k + 5, hk => simp [tysL] at hk
  · intro a ha t x hx
    unfold stc at hx
    split at hx
    · rename_i h0
      subst h0
      cases hx
      refine ⟨Or.inl rfl, _, _, rfl, ?_⟩
      obtain ⟨scr, h1, h2, h3, h4, h5⟩ := hX
      exact ⟨scr, h1, h2, h3, by rw [h4]; exact Nat.le_refl _, by rw [h4] <;> rfl, h5, hA b hbl⟩
    · split at hx
      · rename_i h0
        subst h0
        cases hx
        exact ⟨Or.inl rfl, _, _, rfl, TA⟩
      · split at hx
        · rename_i h0
          subst h0
          cases hx
          exact ⟨Or.inl rfl, _, _, rfl, TB⟩
        · split at hx
          · cases hx
          · split at hx
            · rename_i g0 g1 g2 g3 g4
              cases hx
              refine ⟨Or.inr rfl, _, _, rfl, ?_⟩
              have := (hK1.1 (a - 12) (by omega)).2.2.2
              simp only [if_neg g0, if_neg g1, if_neg g2, if_neg g3]
              exact this
            · cases hx
  · intro a ha o hx
    unfold stc at hx
    split at hx
    · cases hx
    · split at hx
      · cases hx
      · split at hx
        · cases hx
        · split at hx
          · rename_i g0 g1 g2 g3
            cases hx
            have h4 := hK1.1 (a - 3) (by omega)
            refine Or.inr ⟨rfl, a + 9, rfl, ?_, ?_, ?_⟩
            · simp only [al, if_neg g0, if_neg g1, if_neg g2, if_pos g3, if_pos (show a + 9 < 32 by omega), if_neg (show ¬ a + 9 = 0 by omega), if_neg (show ¬ a + 9 = 1 by omega), if_neg (show ¬ a + 9 = 2 by omega), if_neg (show ¬ a + 9 < 12 by omega), show a + 9 - 12 = a - 3 by omega]
              exact h4.2.2.1
            · simp only [if_neg g0, if_neg g1, if_neg g2, if_pos g3]
              exact h4.2.1
            · simp only [if_neg g0, if_neg g1, if_neg g2, if_pos g3]
              exact h4.1
          · split at hx
            · cases hx
            · cases hx
              exact Or.inl rfl
  · exact ⟨va_Zof (hts _ ls_a) (hts _ in_a) eA hA, va_Zof (hts _ ls_b) (hts _ in_b) eB hA, va_Zof (hts _ ls_c) (hts _ in_c) (va_eqi (hs (Cond.eq (.static "java/lang/String" "COMPACT_STRINGS" "Z") (.int 1)) (by decide +kernel))) hA⟩
  · refine ⟨fun ix j h => ?_, fun q hq hk => va_Nw.of rfl (hts _ (nest_all q hq hk)), va_Nw.of rfl (hts _ fn_a), ?_, ?_⟩
    · obtain ⟨h9, hix⟩ := resS_all ix j h
      refine ⟨h9, (strL.getD j (0, "")).2, ?_⟩
      have h1 := sr_all hts j h9
      have h2 := hK2 j h9
      rw [hix] at h1
      simp only [if_neg (show ¬ 3 + j = 0 by omega), if_neg (show ¬ 3 + j = 1 by omega), if_neg (show ¬ 3 + j = 2 by omega), if_pos (show 3 + j < 12 by omega), show 3 + j - 3 = j by omega]
      refine vk_R.of h1 ?_
      rw [← hix]
      exact h2
    · exact va_AO.of (A := #[Value.ref b]) (hts _ ao_w)
    · exact va_AO.of (A := #[Value.ref b]) (hts _ ao_s)
