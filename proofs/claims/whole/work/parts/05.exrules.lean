/-! ===== rules of Ex, one a kind of instruction (printed by wip/whole/gen05.py) ===== -/
def vV (o : Option Value) : Value := match o with
  | some v => v
  | none => .null
theorem vV_some (v : Value) : vV (some v) = v := rfl
def vI (o : Option Int32) : Int32 := match o with
  | some v => v
  | none => 0
theorem vI_some (v : Int32) : vI (some v) = v := rfl
def vJ (o : Option Int64) : Int64 := match o with
  | some v => v
  | none => 0
theorem vJ_some (v : Int64) : vJ (some v) = v := rfl
def vE (o : Option va_E) : va_E := match o with
  | some v => v
  | none => .inr (99, [])
theorem vE_some (v : va_E) : vE (some v) = v := rfl
def cV (o : Option (Option Value × AH)) : Option Value := match o with
  | some r => r.1
  | none => none
theorem cV_some (v : Option Value) (w : AH) : cV (some (v, w)) = v := rfl
def cW (o : Option (Option Value × AH)) (w0 : AH) : AH := match o with
  | some r => r.2
  | none => w0
theorem cW_some (v : Option Value) (w w0 : AH) : cW (some (v, w)) w0 = w := rfl
theorem pushR_none (st : List Value) : pushR none st = st := rfl
theorem pushR_some (v : Value) (st : List Value) : pushR (some v) st = v :: st := rfl
def clr (o : Option Value) : Option Value := if isL o = true then none else o
theorem clr_none : clr none = none := rfl
theorem clr_int (x : Int32) : clr (some (.int x)) = some (.int x) := rfl
theorem clr_ref (x : Nat) : clr (some (.ref x)) = some (.ref x) := rfl
theorem clr_null : clr (some .null) = some .null := rfl
theorem clr_long (x : Int64) : clr (some (.long x)) = none := rfl
theorem ExC_stuck {c : Cf} {w : AH} (h : step c w = none) : ExC c w = none := by
  apply opt_ext
  · intro x hx
    obtain ⟨n, hn⟩ := ExC_to hx
    cases n with
    | zero => cases hn
    | succ n => rw [run, h] at hn; cases hn
  · intro x hx; cases hx
theorem step_I {M : MI} {lv pc : Nat} {l : LX} {st : List Value} {w : AH} {i : Instr} {n : Nat} (hd : decode M.2.1 pc = .ok (i, n)) : step (M, lv, pc, l, st) w = stepI M lv pc l st w i n := by
  unfold step
  dsimp only
  rw [hd]
theorem Ex_A {M : MI} {lv pc : Nat} {l : LX} {st st' : List Value} {w : AH} {i : Instr} {n pc' : Nat} (hd : decode M.2.1 pc = .ok (i, n)) (hp : pc + n = pc') (hs : sA i st = some (n, st')) : Ex M lv pc l st w = Ex M lv pc' l st' w := by
  subst hp
  refine ExC_next ?_
  rw [step_I hd]
  unfold stepI
  rw [hs]
  simp
theorem Ex_M {M : MI} {lv pc : Nat} {l l' : LX} {st st' : List Value} {w : AH} {i : Instr} {n pc' : Nat} (hd : decode M.2.1 pc = .ok (i, n)) (hp : pc + n = pc') (hA : sA i st = none) (hs : sM i (mL M) l st = some (n, l', st')) : Ex M lv pc l st w = Ex M lv pc' l' st' w := by
  subst hp
  refine ExC_next ?_
  rw [step_I hd]
  unfold stepI
  rw [hA, hs]
  simp
theorem Ex_B {M : MI} {lv pc : Nat} {l : LX} {st st' : List Value} {w : AH} {i : Instr} {n pc' : Nat} (hd : decode M.2.1 pc = .ok (i, n)) (hA : sA i st = none) (hM : sM i (mL M) l st = none) (hs : sBN i n pc st = some (pc', st')) : Ex M lv pc l st w = Ex M lv pc' l st' w := by
  refine ExC_next ?_
  rw [step_I hd]
  unfold stepI
  rw [hA, hM, hs]
theorem Ex_H {M : MI} {lv pc : Nat} {l : LX} {st st' : List Value} {w w' : AH} {i : Instr} {n pc' : Nat} (hd : decode M.2.1 pc = .ok (i, n)) (hp : pc + n = pc') (hA : sA i st = none) (hM : sM i (mL M) l st = none) (hB : sBN i n pc st = none) (hs : sH M i st w = some (n, st', w')) : Ex M lv pc l st w = Ex M lv pc' l st' w' := by
  subst hp
  refine ExC_next ?_
  rw [step_I hd]
  unfold stepI
  rw [hA, hM, hB, hs]
  simp
theorem Ex_Hn {M : MI} {lv pc : Nat} {l : LX} {st : List Value} {w : AH} {i : Instr} {n : Nat} (hd : decode M.2.1 pc = .ok (i, n)) (hA : sA i st = none) (hM : sM i (mL M) l st = none) (hB : sBN i n pc st = none) (hs : sH M i st w = none) (hR : sR M i n st = none) (hC : sC M lv i n st w = none) : Ex M lv pc l st w = none := by
  refine ExC_stuck ?_
  rw [step_I hd]
  unfold stepI
  rw [hA, hM, hB, hs, hR, hC]
theorem Ex_R {M : MI} {lv pc : Nat} {l : LX} {st : List Value} {w : AH} {i : Instr} {n : Nat} {v : Option Value} (hd : decode M.2.1 pc = .ok (i, n)) (hA : sA i st = none) (hM : sM i (mL M) l st = none) (hB : sBN i n pc st = none) (hs : sH M i st w = none) (hR : sR M i n st = some v) : Ex M lv pc l st w = some (v, w) := by
  refine ExC_ret ?_
  rw [step_I hd]
  unfold stepI
  rw [hA, hM, hB, hs, hR]
theorem Ex_C {M M2 : MI} {lv lv2 pc : Nat} {l : LX} {st a r : List Value} {w : AH} {i : Instr} {n pc' : Nat} (hd : decode M.2.1 pc = .ok (i, n)) (hp : pc + n = pc') (hA : sA i st = none) (hM : sM i (mL M) l st = none) (hB : sBN i n pc st = none) (hs : sH M i st w = none) (hR : sR M i n st = none) (hC : sC M lv i n st w = some (M2, lv2, a, r)) : Ex M lv pc l st w = if (Call M2 lv2 a w).isSome = true then Ex M lv pc' l (pushR (cV (Call M2 lv2 a w)) r) (cW (Call M2 lv2 a w) w) else none := by
  subst hp
  have h1 : Ex M lv pc l st w = ob (Call M2 lv2 a w) (fun q => ExC (back (M, lv, pc + n, l, r) q.1) q.2) := by
    refine ExC_call ?_
    rw [step_I hd]
    unfold stepI
    rw [hA, hM, hB, hs, hR, hC]
  rw [h1]
  cases hc : Call M2 lv2 a w with
  | none => rfl
  | some q => rfl
theorem cVW {o : Option (Option Value × AH)} {v : Option Value} {w w0 : AH} (h : o = some (v, w)) : o.isSome = true ∧ cV o = v ∧ cW o w0 = w := by
  subst h
  exact ⟨rfl, rfl, rfl⟩

theorem Ex_if_eq {M : MI} {lv pc tgt pc' : Nat} {l : LX} {x : Int32} {st : List Value} {w : AH} {off : Int} (hd : decode M.2.1 pc = .ok (.ifCond .eq off, 3)) (ht : (pc : Int) + off = (tgt : Int)) (hp : pc + 3 = pc') : Ex M lv pc l (.int x :: st) w = if x = 0 then Ex M lv tgt l st w else Ex M lv pc' l st w := by
  subst hp
  by_cases h : x = 0
  · rw [if_pos h]
    refine Ex_B hd rfl rfl ?_
    simp only [sBN, brN, h, decide_true, if_true, ht]
    rw [if_pos (Int.natCast_nonneg tgt)]; rfl
  · rw [if_neg h]
    refine Ex_B hd rfl rfl ?_
    simp only [sBN, brN, h, decide_false, if_true, ht]
    rw [if_pos (Int.natCast_nonneg tgt)]; rfl
theorem Ex_if_ne {M : MI} {lv pc tgt pc' : Nat} {l : LX} {x : Int32} {st : List Value} {w : AH} {off : Int} (hd : decode M.2.1 pc = .ok (.ifCond .ne off, 3)) (ht : (pc : Int) + off = (tgt : Int)) (hp : pc + 3 = pc') : Ex M lv pc l (.int x :: st) w = if ¬ x = 0 then Ex M lv tgt l st w else Ex M lv pc' l st w := by
  subst hp
  by_cases h : ¬ x = 0
  · rw [if_pos h]
    refine Ex_B hd rfl rfl ?_
    simp only [sBN, brN, h, decide_true, if_true, ht]
    rw [if_pos (Int.natCast_nonneg tgt)]; rfl
  · rw [if_neg h]
    refine Ex_B hd rfl rfl ?_
    simp only [sBN, brN, h, decide_false, if_true, ht]
    rw [if_pos (Int.natCast_nonneg tgt)]; rfl
theorem Ex_if_lt {M : MI} {lv pc tgt pc' : Nat} {l : LX} {x : Int32} {st : List Value} {w : AH} {off : Int} (hd : decode M.2.1 pc = .ok (.ifCond .lt off, 3)) (ht : (pc : Int) + off = (tgt : Int)) (hp : pc + 3 = pc') : Ex M lv pc l (.int x :: st) w = if x < 0 then Ex M lv tgt l st w else Ex M lv pc' l st w := by
  subst hp
  by_cases h : x < 0
  · rw [if_pos h]
    refine Ex_B hd rfl rfl ?_
    simp only [sBN, brN, h, decide_true, if_true, ht]
    rw [if_pos (Int.natCast_nonneg tgt)]; rfl
  · rw [if_neg h]
    refine Ex_B hd rfl rfl ?_
    simp only [sBN, brN, h, decide_false, if_true, ht]
    rw [if_pos (Int.natCast_nonneg tgt)]; rfl
theorem Ex_if_ge {M : MI} {lv pc tgt pc' : Nat} {l : LX} {x : Int32} {st : List Value} {w : AH} {off : Int} (hd : decode M.2.1 pc = .ok (.ifCond .ge off, 3)) (ht : (pc : Int) + off = (tgt : Int)) (hp : pc + 3 = pc') : Ex M lv pc l (.int x :: st) w = if 0 ≤ x then Ex M lv tgt l st w else Ex M lv pc' l st w := by
  subst hp
  by_cases h : 0 ≤ x
  · rw [if_pos h]
    refine Ex_B hd rfl rfl ?_
    simp only [sBN, brN, h, decide_true, if_true, ht]
    rw [if_pos (Int.natCast_nonneg tgt)]; rfl
  · rw [if_neg h]
    refine Ex_B hd rfl rfl ?_
    simp only [sBN, brN, h, decide_false, if_true, ht]
    rw [if_pos (Int.natCast_nonneg tgt)]; rfl
theorem Ex_if_gt {M : MI} {lv pc tgt pc' : Nat} {l : LX} {x : Int32} {st : List Value} {w : AH} {off : Int} (hd : decode M.2.1 pc = .ok (.ifCond .gt off, 3)) (ht : (pc : Int) + off = (tgt : Int)) (hp : pc + 3 = pc') : Ex M lv pc l (.int x :: st) w = if 0 < x then Ex M lv tgt l st w else Ex M lv pc' l st w := by
  subst hp
  by_cases h : 0 < x
  · rw [if_pos h]
    refine Ex_B hd rfl rfl ?_
    simp only [sBN, brN, h, decide_true, if_true, ht]
    rw [if_pos (Int.natCast_nonneg tgt)]; rfl
  · rw [if_neg h]
    refine Ex_B hd rfl rfl ?_
    simp only [sBN, brN, h, decide_false, if_true, ht]
    rw [if_pos (Int.natCast_nonneg tgt)]; rfl
theorem Ex_if_le {M : MI} {lv pc tgt pc' : Nat} {l : LX} {x : Int32} {st : List Value} {w : AH} {off : Int} (hd : decode M.2.1 pc = .ok (.ifCond .le off, 3)) (ht : (pc : Int) + off = (tgt : Int)) (hp : pc + 3 = pc') : Ex M lv pc l (.int x :: st) w = if x ≤ 0 then Ex M lv tgt l st w else Ex M lv pc' l st w := by
  subst hp
  by_cases h : x ≤ 0
  · rw [if_pos h]
    refine Ex_B hd rfl rfl ?_
    simp only [sBN, brN, h, decide_true, if_true, ht]
    rw [if_pos (Int.natCast_nonneg tgt)]; rfl
  · rw [if_neg h]
    refine Ex_B hd rfl rfl ?_
    simp only [sBN, brN, h, decide_false, if_true, ht]
    rw [if_pos (Int.natCast_nonneg tgt)]; rfl
theorem Ex_icmp_eq {M : MI} {lv pc tgt pc' : Nat} {l : LX} {x y : Int32} {st : List Value} {w : AH} {off : Int} (hd : decode M.2.1 pc = .ok (.if_icmp .eq off, 3)) (ht : (pc : Int) + off = (tgt : Int)) (hp : pc + 3 = pc') : Ex M lv pc l (.int y :: .int x :: st) w = if x = y then Ex M lv tgt l st w else Ex M lv pc' l st w := by
  subst hp
  by_cases h : x = y
  · rw [if_pos h]
    refine Ex_B hd rfl rfl ?_
    simp only [sBN, brN, h, decide_true, if_true, ht]
    rw [if_pos (Int.natCast_nonneg tgt)]; rfl
  · rw [if_neg h]
    refine Ex_B hd rfl rfl ?_
    simp only [sBN, brN, h, decide_false, if_true, ht]
    rw [if_pos (Int.natCast_nonneg tgt)]; rfl
theorem Ex_icmp_ne {M : MI} {lv pc tgt pc' : Nat} {l : LX} {x y : Int32} {st : List Value} {w : AH} {off : Int} (hd : decode M.2.1 pc = .ok (.if_icmp .ne off, 3)) (ht : (pc : Int) + off = (tgt : Int)) (hp : pc + 3 = pc') : Ex M lv pc l (.int y :: .int x :: st) w = if ¬ x = y then Ex M lv tgt l st w else Ex M lv pc' l st w := by
  subst hp
  by_cases h : ¬ x = y
  · rw [if_pos h]
    refine Ex_B hd rfl rfl ?_
    simp only [sBN, brN, h, decide_true, if_true, ht]
    rw [if_pos (Int.natCast_nonneg tgt)]; rfl
  · rw [if_neg h]
    refine Ex_B hd rfl rfl ?_
    simp only [sBN, brN, h, decide_false, if_true, ht]
    rw [if_pos (Int.natCast_nonneg tgt)]; rfl
theorem Ex_icmp_lt {M : MI} {lv pc tgt pc' : Nat} {l : LX} {x y : Int32} {st : List Value} {w : AH} {off : Int} (hd : decode M.2.1 pc = .ok (.if_icmp .lt off, 3)) (ht : (pc : Int) + off = (tgt : Int)) (hp : pc + 3 = pc') : Ex M lv pc l (.int y :: .int x :: st) w = if x < y then Ex M lv tgt l st w else Ex M lv pc' l st w := by
  subst hp
  by_cases h : x < y
  · rw [if_pos h]
    refine Ex_B hd rfl rfl ?_
    simp only [sBN, brN, h, decide_true, if_true, ht]
    rw [if_pos (Int.natCast_nonneg tgt)]; rfl
  · rw [if_neg h]
    refine Ex_B hd rfl rfl ?_
    simp only [sBN, brN, h, decide_false, if_true, ht]
    rw [if_pos (Int.natCast_nonneg tgt)]; rfl
theorem Ex_icmp_ge {M : MI} {lv pc tgt pc' : Nat} {l : LX} {x y : Int32} {st : List Value} {w : AH} {off : Int} (hd : decode M.2.1 pc = .ok (.if_icmp .ge off, 3)) (ht : (pc : Int) + off = (tgt : Int)) (hp : pc + 3 = pc') : Ex M lv pc l (.int y :: .int x :: st) w = if y ≤ x then Ex M lv tgt l st w else Ex M lv pc' l st w := by
  subst hp
  by_cases h : y ≤ x
  · rw [if_pos h]
    refine Ex_B hd rfl rfl ?_
    simp only [sBN, brN, h, decide_true, if_true, ht]
    rw [if_pos (Int.natCast_nonneg tgt)]; rfl
  · rw [if_neg h]
    refine Ex_B hd rfl rfl ?_
    simp only [sBN, brN, h, decide_false, if_true, ht]
    rw [if_pos (Int.natCast_nonneg tgt)]; rfl
theorem Ex_icmp_gt {M : MI} {lv pc tgt pc' : Nat} {l : LX} {x y : Int32} {st : List Value} {w : AH} {off : Int} (hd : decode M.2.1 pc = .ok (.if_icmp .gt off, 3)) (ht : (pc : Int) + off = (tgt : Int)) (hp : pc + 3 = pc') : Ex M lv pc l (.int y :: .int x :: st) w = if y < x then Ex M lv tgt l st w else Ex M lv pc' l st w := by
  subst hp
  by_cases h : y < x
  · rw [if_pos h]
    refine Ex_B hd rfl rfl ?_
    simp only [sBN, brN, h, decide_true, if_true, ht]
    rw [if_pos (Int.natCast_nonneg tgt)]; rfl
  · rw [if_neg h]
    refine Ex_B hd rfl rfl ?_
    simp only [sBN, brN, h, decide_false, if_true, ht]
    rw [if_pos (Int.natCast_nonneg tgt)]; rfl
theorem Ex_icmp_le {M : MI} {lv pc tgt pc' : Nat} {l : LX} {x y : Int32} {st : List Value} {w : AH} {off : Int} (hd : decode M.2.1 pc = .ok (.if_icmp .le off, 3)) (ht : (pc : Int) + off = (tgt : Int)) (hp : pc + 3 = pc') : Ex M lv pc l (.int y :: .int x :: st) w = if x ≤ y then Ex M lv tgt l st w else Ex M lv pc' l st w := by
  subst hp
  by_cases h : x ≤ y
  · rw [if_pos h]
    refine Ex_B hd rfl rfl ?_
    simp only [sBN, brN, h, decide_true, if_true, ht]
    rw [if_pos (Int.natCast_nonneg tgt)]; rfl
  · rw [if_neg h]
    refine Ex_B hd rfl rfl ?_
    simp only [sBN, brN, h, decide_false, if_true, ht]
    rw [if_pos (Int.natCast_nonneg tgt)]; rfl
theorem tg_ok {pc tgt : Nat} {off : Int} {st : List Value} (ht : (pc : Int) + off = (tgt : Int)) : tg pc off st = some (tgt, st) := by
  unfold tg
  rw [ht, if_pos (Int.natCast_nonneg tgt)]; rfl
theorem Ex_goto {M : MI} {lv pc tgt : Nat} {l : LX} {st : List Value} {w : AH} {off : Int} (hd : decode M.2.1 pc = .ok (.goto off, 3)) (ht : (pc : Int) + off = (tgt : Int)) : Ex M lv pc l st w = Ex M lv tgt l st w :=
  Ex_B hd rfl rfl (by simp only [sBN, if_true]; exact tg_ok ht)
theorem Ex_ifnull_r {M : MI} {lv pc pc' : Nat} {l : LX} {a : Nat} {st : List Value} {w : AH} {off : Int} (hd : decode M.2.1 pc = .ok (.ifnull off, 3)) (hp : pc + 3 = pc') : Ex M lv pc l (.ref a :: st) w = Ex M lv pc' l st w := by
  subst hp; exact Ex_B hd rfl rfl (by simp [sBN])
theorem Ex_ifnull_n {M : MI} {lv pc tgt : Nat} {l : LX} {st : List Value} {w : AH} {off : Int} (hd : decode M.2.1 pc = .ok (.ifnull off, 3)) (ht : (pc : Int) + off = (tgt : Int)) : Ex M lv pc l (.null :: st) w = Ex M lv tgt l st w :=
  Ex_B hd rfl rfl (by simp only [sBN, if_true]; exact tg_ok ht)
theorem Ex_ifnonnull_n {M : MI} {lv pc pc' : Nat} {l : LX} {st : List Value} {w : AH} {off : Int} (hd : decode M.2.1 pc = .ok (.ifnonnull off, 3)) (hp : pc + 3 = pc') : Ex M lv pc l (.null :: st) w = Ex M lv pc' l st w := by
  subst hp; exact Ex_B hd rfl rfl (by simp [sBN])
theorem Ex_ifnonnull_r {M : MI} {lv pc tgt : Nat} {l : LX} {a : Nat} {st : List Value} {w : AH} {off : Int} (hd : decode M.2.1 pc = .ok (.ifnonnull off, 3)) (ht : (pc : Int) + off = (tgt : Int)) : Ex M lv pc l (.ref a :: st) w = Ex M lv tgt l st w :=
  Ex_B hd rfl rfl (by simp only [sBN, if_true]; exact tg_ok ht)
theorem Ex_tsIn {M : MI} {lv pc tgt n : Nat} {l : LX} {x : Int32} {st : List Value} {w : AH} {d lo hi off : Int} {offs : Array Int} (hd : decode M.2.1 pc = .ok (.tableswitch d lo hi offs, n)) (h1 : ¬ (x.toInt < lo ∨ hi < x.toInt)) (ho : offs[(x.toInt - lo).toNat]? = some off) (ht : (pc : Int) + off = (tgt : Int)) : Ex M lv pc l (.int x :: st) w = Ex M lv tgt l st w :=
  Ex_B hd rfl rfl (by simp only [sBN]; rw [if_neg h1, ho]; exact tg_ok ht)
theorem Ex_tsOut {M : MI} {lv pc tgt n : Nat} {l : LX} {x : Int32} {st : List Value} {w : AH} {d lo hi : Int} {offs : Array Int} (hd : decode M.2.1 pc = .ok (.tableswitch d lo hi offs, n)) (h1 : x.toInt < lo ∨ hi < x.toInt) (ht : (pc : Int) + d = (tgt : Int)) : Ex M lv pc l (.int x :: st) w = Ex M lv tgt l st w :=
  Ex_B hd rfl rfl (by simp only [sBN]; rw [if_pos h1]; exact tg_ok ht)
theorem Ex_ls {M : MI} {lv pc tgt n : Nat} {l : LX} {x : Int32} {st : List Value} {w : AH} {d off : Int} {ps : Array (Int × Int)} (hd : decode M.2.1 pc = .ok (.lookupswitch d ps, n)) (h1 : (ps.toList.zip (ps.toList.drop 1)).all (fun q => decide (q.1.1 < q.2.1)) = true) (ho : Op.lookupswitch.offset ps.toList d x.toInt = off) (ht : (pc : Int) + off = (tgt : Int)) : Ex M lv pc l (.int x :: st) w = Ex M lv tgt l st w :=
  Ex_B hd rfl rfl (by simp only [sBN]; rw [if_pos h1, ho]; exact tg_ok ht)
theorem n_toInt {x : Int32} {k : Int32} {z : Int} (hk : k.toInt = z) (h : ¬ x = k) : x.toInt ≠ z := fun e => h (Int32.toInt_inj.mp (e.trans hk.symm))
/-! constants and cells -/
theorem Ex_ldcI {M : MI} {lv pc pc' ix : Nat} {l : LX} {st : List Value} {w : AH} {v : Int32} (hd : decode M.2.1 pc = .ok (.ldc ix, 2)) (hp : pc + 2 = pc') (hk : resK (mCn M) ix = some (.int v)) : Ex M lv pc l st w = Ex M lv pc' l (.int v :: st) w :=
  Ex_H hd hp rfl rfl rfl (by simp only [sH]; rw [hk])
theorem Ex_ldcS {M : MI} {lv pc pc' ix j : Nat} {l : LX} {st : List Value} {w : AH} (hd : decode M.2.1 pc = .ok (.ldc ix, 2)) (hp : pc + 2 = pc') (hk : resK (mCn M) ix = none) (hS : resS (mCn M) ix = some j) : Ex M lv pc l st w = Ex M lv pc' l (.ref (3 + j) :: st) w :=
  Ex_H hd hp rfl rfl rfl (by simp only [sH]; rw [hk, hS])
theorem Ex_ldcw {M : MI} {lv pc pc' ix : Nat} {l : LX} {st : List Value} {w : AH} {v : Int32} (hd : decode M.2.1 pc = .ok (.ldc_w ix, 3)) (hp : pc + 3 = pc') (hk : resK (mCn M) ix = some (.int v)) : Ex M lv pc l st w = Ex M lv pc' l (.int v :: st) w :=
  Ex_H hd hp rfl rfl rfl (by simp only [sH]; rw [hk])
theorem Ex_ldc2 {M : MI} {lv pc pc' ix : Nat} {l : LX} {st : List Value} {w : AH} {v : Int64} (hd : decode M.2.1 pc = .ok (.ldc2_w ix, 3)) (hp : pc + 3 = pc') (hk : resK (mCn M) ix = some (.long v)) : Ex M lv pc l st w = Ex M lv pc' l (.long v :: st) w :=
  Ex_H hd hp rfl rfl rfl (by simp only [sH]; rw [hk])
theorem Ex_gets {M : MI} {lv pc pc' ix : Nat} {l : LX} {st : List Value} {w : AH} {v : Value} (hd : decode M.2.1 pc = .ok (.getstatic ix, 3)) (hp : pc + 3 = pc') (hk : resG (mCn M) ix = some v) : Ex M lv pc l st w = Ex M lv pc' l (v :: st) w :=
  Ex_H hd hp rfl rfl rfl (by simp only [sH]; rw [hk])
theorem Ex_getf {M : MI} {lv pc pc' ix ci k : Nat} {ty : FieldType} {fn : Bool} {l : LX} {a : Nat} {st : List Value} {w : AH} (hd : decode M.2.1 pc = .ok (.getfield ix, 3)) (hp : pc + 3 = pc') (hq : resF (mCn M) ix = some (ci, k, ty, fn)) : Ex M lv pc l (.ref a :: st) w = if (gf (hg w a) ci k).isSome = true then Ex M lv pc' l (vV (gf (hg w a) ci k) :: st) w else none := by
  cases h : gf (hg w a) ci k with
  | none => exact Ex_Hn hd rfl rfl rfl (by simp only [sH]; rw [hq]; simp only [h, ob_none]) rfl rfl
  | some v => exact Ex_H hd hp rfl rfl rfl (by simp only [sH]; rw [hq]; simp only [h, ob_some, vV_some])
theorem Ex_putf {M : MI} {lv pc pc' ix ci k : Nat} {ty : FieldType} {fn : Bool} {l : LX} {a : Nat} {v : Value} {st : List Value} {w : AH} (hd : decode M.2.1 pc = .ok (.putfield ix, 3)) (hp : pc + 3 = pc') (hq : resF (mCn M) ix = some (ci, k, ty, fn)) (hf : ci < 12 ∧ (fn = false ∨ (M.1.name = "<init>" ∧ ((clOf ci).2.1 k).1 = M.1.cls))) : Ex M lv pc l (v :: .ref a :: st) w = if (pf (hg w a) ci k ty v).isSome = true then Ex M lv pc' l st (hs w a (vE (pf (hg w a) ci k ty v))) else none := by
  cases h : pf (hg w a) ci k ty v with
  | none => exact Ex_Hn hd rfl rfl rfl (by simp only [sH]; rw [hq]; simp only [if_pos hf, h, ob_none]) rfl rfl
  | some e => exact Ex_H hd hp rfl rfl rfl (by simp only [sH]; rw [hq]; simp only [if_pos hf, h, ob_some, vE_some])
theorem Ex_ial {M : MI} {lv pc pc' : Nat} {l : LX} {a : Nat} {i : Int32} {st : List Value} {w : AH} (hd : decode M.2.1 pc = .ok (.iaload, 1)) (hp : pc + 1 = pc') : Ex M lv pc l (.int i :: .ref a :: st) w = if (aI (hg w a) i).isSome = true then Ex M lv pc' l (.int (vI (aI (hg w a) i)) :: st) w else none := by
  cases h : aI (hg w a) i with
  | none => exact Ex_Hn hd rfl rfl rfl (by simp only [sH, h, ob_none]) rfl rfl
  | some v => exact Ex_H hd hp rfl rfl rfl (by simp only [sH, h, ob_some, vI_some])
theorem Ex_bal {M : MI} {lv pc pc' : Nat} {l : LX} {a : Nat} {i : Int32} {st : List Value} {w : AH} (hd : decode M.2.1 pc = .ok (.baload, 1)) (hp : pc + 1 = pc') : Ex M lv pc l (.int i :: .ref a :: st) w = if (aB (hg w a) i).isSome = true then Ex M lv pc' l (.int (vI (aB (hg w a) i)) :: st) w else none := by
  cases h : aB (hg w a) i with
  | none => exact Ex_Hn hd rfl rfl rfl (by simp only [sH, h, ob_none]) rfl rfl
  | some v => exact Ex_H hd hp rfl rfl rfl (by simp only [sH, h, ob_some, vI_some])
theorem Ex_lal {M : MI} {lv pc pc' : Nat} {l : LX} {a : Nat} {i : Int32} {st : List Value} {w : AH} (hd : decode M.2.1 pc = .ok (.laload, 1)) (hp : pc + 1 = pc') : Ex M lv pc l (.int i :: .ref a :: st) w = if (aJ (hg w a) i).isSome = true then Ex M lv pc' l (.long (vJ (aJ (hg w a) i)) :: st) w else none := by
  cases h : aJ (hg w a) i with
  | none => exact Ex_Hn hd rfl rfl rfl (by simp only [sH, h, ob_none]) rfl rfl
  | some v => exact Ex_H hd hp rfl rfl rfl (by simp only [sH, h, ob_some, vJ_some])
theorem Ex_aal {M : MI} {lv pc pc' : Nat} {l : LX} {a : Nat} {i : Int32} {st : List Value} {w : AH} (hd : decode M.2.1 pc = .ok (.aaload, 1)) (hp : pc + 1 = pc') : Ex M lv pc l (.int i :: .ref a :: st) w = if (aQ (hg w a) i).isSome = true then Ex M lv pc' l (vV (aQ (hg w a) i) :: st) w else none := by
  cases h : aQ (hg w a) i with
  | none => exact Ex_Hn hd rfl rfl rfl (by simp only [sH, h, ob_none]) rfl rfl
  | some v => exact Ex_H hd hp rfl rfl rfl (by simp only [sH, h, ob_some, vV_some])
theorem Ex_ias {M : MI} {lv pc pc' : Nat} {l : LX} {a : Nat} {i : Int32} {x : Int32} {st : List Value} {w : AH} (hd : decode M.2.1 pc = .ok (.iastore, 1)) (hp : pc + 1 = pc') : Ex M lv pc l (.int x :: .int i :: .ref a :: st) w = if (uI (hg w a) i x).isSome = true then Ex M lv pc' l st (hs w a (vE (uI (hg w a) i x))) else none := by
  cases h : uI (hg w a) i x with
  | none => exact Ex_Hn hd rfl rfl rfl (by simp only [sH, h, ob_none]) rfl rfl
  | some v => exact Ex_H hd hp rfl rfl rfl (by simp only [sH, h, ob_some, vE_some])
theorem Ex_bas {M : MI} {lv pc pc' : Nat} {l : LX} {a : Nat} {i : Int32} {x : Int32} {st : List Value} {w : AH} (hd : decode M.2.1 pc = .ok (.bastore, 1)) (hp : pc + 1 = pc') : Ex M lv pc l (.int x :: .int i :: .ref a :: st) w = if (uB (hg w a) i x).isSome = true then Ex M lv pc' l st (hs w a (vE (uB (hg w a) i x))) else none := by
  cases h : uB (hg w a) i x with
  | none => exact Ex_Hn hd rfl rfl rfl (by simp only [sH, h, ob_none]) rfl rfl
  | some v => exact Ex_H hd hp rfl rfl rfl (by simp only [sH, h, ob_some, vE_some])
theorem Ex_las {M : MI} {lv pc pc' : Nat} {l : LX} {a : Nat} {i : Int32} {x : Int64} {st : List Value} {w : AH} (hd : decode M.2.1 pc = .ok (.lastore, 1)) (hp : pc + 1 = pc') : Ex M lv pc l (.long x :: .int i :: .ref a :: st) w = if (uJ (hg w a) i x).isSome = true then Ex M lv pc' l st (hs w a (vE (uJ (hg w a) i x))) else none := by
  cases h : uJ (hg w a) i x with
  | none => exact Ex_Hn hd rfl rfl rfl (by simp only [sH, h, ob_none]) rfl rfl
  | some v => exact Ex_H hd hp rfl rfl rfl (by simp only [sH, h, ob_some, vE_some])
theorem Ex_aas {M : MI} {lv pc pc' : Nat} {l : LX} {a : Nat} {i : Int32} {x : Nat} {st : List Value} {w : AH} (hd : decode M.2.1 pc = .ok (.aastore, 1)) (hp : pc + 1 = pc') : Ex M lv pc l (.ref x :: .int i :: .ref a :: st) w = if (uQ (hg w a) (hg w x) i x).isSome = true then Ex M lv pc' l st (hs w a (vE (uQ (hg w a) (hg w x) i x))) else none := by
  cases h : uQ (hg w a) (hg w x) i x with
  | none => exact Ex_Hn hd rfl rfl rfl (by simp only [sH, h, ob_none]) rfl rfl
  | some v => exact Ex_H hd hp rfl rfl rfl (by simp only [sH, h, ob_some, vE_some])
theorem Ex_alen {M : MI} {lv pc pc' : Nat} {l : LX} {a : Nat} {st : List Value} {w : AH} (hd : decode M.2.1 pc = .ok (.arraylength, 1)) (hp : pc + 1 = pc') : Ex M lv pc l (.ref a :: st) w = if (aL (hg w a)).isSome = true then Ex M lv pc' l (.int (vI (aL (hg w a))) :: st) w else none := by
  cases h : aL (hg w a) with
  | none => exact Ex_Hn hd rfl rfl rfl (by simp only [sH, h, ob_none]) rfl rfl
  | some v => exact Ex_H hd hp rfl rfl rfl (by simp only [sH, h, ob_some, vI_some])
theorem Ex_newa {M : MI} {lv pc pc' : Nat} {t : ArrayType} {l : LX} {n : Int32} {k : Nat} {e : va_E} {st : List Value} {w : AH} (hd : decode M.2.1 pc = .ok (.newarray t, 2)) (hp : pc + 2 = pc') (hnk : n.toNatClampNeg = k) (hb : 0 ≤ n.toInt ∧ n.toInt ≤ 65536) (he : nA t k = some e) : Ex M lv pc l (.int n :: st) w = Ex M lv pc' l (.ref w.1 :: st) (hn w e k) := by
  subst hnk
  exact Ex_H hd hp rfl rfl rfl (by simp only [sH]; rw [if_pos hb, he, ob_some])
theorem Ex_anew {M : MI} {lv pc pc' ix t : Nat} {l : LX} {n : Int32} {k : Nat} {st : List Value} {w : AH} (hd : decode M.2.1 pc = .ok (.anewarray ix, 3)) (hp : pc + 3 = pc') (hq : resA (mCn M) ix = some t) (hnk : n.toNatClampNeg = k) (hb : 0 ≤ n.toInt ∧ n.toInt ≤ 65536) : Ex M lv pc l (.int n :: st) w = Ex M lv pc' l (.ref w.1 :: st) (hn w (.inl (t, k, .inr (.inr (.inr (.inr (fun _ => none)))))) k) := by
  subst hnk
  exact Ex_H hd hp rfl rfl rfl (by simp only [sH]; rw [hq]; simp only [if_pos hb])
theorem Ex_new {M : MI} {lv pc pc' ix ci n : Nat} {fs : List Value} {l : LX} {st : List Value} {w : AH} (hd : decode M.2.1 pc = .ok (.new ix, 3)) (hp : pc + 3 = pc') (hq : resN (mCn M) ix = some ci) (hf : dfs ci = fs) (hz : (clOf ci).2.2 = n) : Ex M lv pc l st w = Ex M lv pc' l (.ref w.1 :: st) (hn w (.inr (ci, fs)) n) := by
  subst hf; subst hz
  exact Ex_H hd hp rfl rfl rfl (by simp only [sH]; rw [hq])
theorem Ex_oinit {M M2 : MI} {lv pc pc' ix : Nat} {l : LX} {a : Nat} {st : List Value} {w : AH} (hd : decode M.2.1 pc = .ok (.invokespecial ix, 3)) (hp : pc + 3 = pc') (hq : resM (mCn M) ix = some (6, M2)) (hk : stOK st = true) : Ex M lv pc l (.ref a :: st) w = Ex M lv pc' l st w :=
  Ex_H hd hp rfl rfl rfl (by simp only [sH]; rw [hq]; simp only [if_pos hk])
theorem Ex_acopy {M M2 : MI} {lv pc pc' ix : Nat} {l : LX} {a b : Nat} {sp dp n : Int32} {st : List Value} {w : AH} (hd : decode M.2.1 pc = .ok (.invokestatic ix, 3)) (hp : pc + 3 = pc') (hq : resM (mCn M) ix = some (7, M2)) (hk : stOK st = true) : Ex M lv pc l (.int n :: .int dp :: .ref b :: .int sp :: .ref a :: st) w = if (aC (hg w a) (hg w b) sp dp n).isSome = true then Ex M lv pc' l st (hs w b (vE (aC (hg w a) (hg w b) sp dp n))) else none := by
  cases h : aC (hg w a) (hg w b) sp dp n with
  | none => exact Ex_Hn hd rfl rfl rfl (by simp only [sH]; rw [hq]; simp only [if_pos hk, h, ob_none]) rfl (by simp [sC, hq])
  | some v => exact Ex_H hd hp rfl rfl rfl (by simp only [sH]; rw [hq]; simp only [if_pos hk, h, ob_some, vE_some])
theorem Ex_callS {M M2 : MI} {lv lv2 pc pc' ix k : Nat} {l : LX} {st a r : List Value} {w : AH} (hd : decode M.2.1 pc = .ok (.invokestatic ix, 3)) (hp : pc + 3 = pc') (hq : resM (mCn M) ix = some (k, M2)) (hk : (k = 0 ∨ k = 1)) (hs : spl (mNp M2) [] st = some (a, r)) (ho : stOK r = true) (hen : (ent a).length ≤ mL M2) (hl : sLv M M2 lv = some lv2) : Ex M lv pc l st w = if (Call M2 lv2 a w).isSome = true then Ex M lv pc' l (pushR (cV (Call M2 lv2 a w)) r) (cW (Call M2 lv2 a w) w) else none := by
  refine Ex_C hd hp rfl rfl rfl ?_ rfl ?_
  · simp only [sH]
    rw [hq]
    rcases hk with rfl | rfl <;> rfl
  · simp only [sC]
    rw [hq]
    simp only [hk, hen, and_self, if_true, hs, ob_some, ho, hl]
theorem Ex_callV {M M2 : MI} {lv lv2 pc pc' ix b ki : Nat} {l : LX} {st a r : List Value} {w : AH} (hd : decode M.2.1 pc = .ok (.invokevirtual ix, 3)) (hp : pc + 3 = pc') (hq : resM (mCn M) ix = some (2, M2)) (hs : spl (mNp M2) [] st = some (a, .ref b :: r)) (ho : stOK r = true) (hen : (ent (.ref b :: a)).length ≤ mL M2) (hki : mKi M2 = ki) (hl : sLv M M2 lv = some lv2) : Ex M lv pc l st w = if clK (hg w b) = ki then (if (Call M2 lv2 (.ref b :: a) w).isSome = true then Ex M lv pc' l (pushR (cV (Call M2 lv2 (.ref b :: a) w)) r) (cW (Call M2 lv2 (.ref b :: a) w) w) else none) else none := by
  by_cases h : clK (hg w b) = ki
  · rw [if_pos h]
    refine Ex_C hd hp rfl rfl rfl rfl rfl ?_
    simp only [sC]
    rw [hq]
    simp only [hs, ob_some, ho, hen, hki, h, hl, and_self, if_true]
  · rw [if_neg h]
    refine Ex_Hn hd rfl rfl rfl rfl rfl ?_
    simp only [sC]
    rw [hq]
    simp only [hs, ob_some, ho, hen, hki, h, and_false, if_false, and_self, if_true]
theorem Ex_callI {M M2 : MI} {lv lv2 pc pc' ix b k : Nat} {l : LX} {st a r : List Value} {w : AH} (hd : decode M.2.1 pc = .ok (.invokespecial ix, 3)) (hp : pc + 3 = pc') (hq : resM (mCn M) ix = some (k, M2)) (hk : k = 3 ∨ k = 4) (hs : spl (mNp M2) [] st = some (a, .ref b :: r)) (ho : stOK r = true) (hen : (ent (.ref b :: a)).length ≤ mL M2) (hl : sLv M M2 lv = some lv2) : Ex M lv pc l st w = if (Call M2 lv2 (.ref b :: a) w).isSome = true then Ex M lv pc' l (pushR (cV (Call M2 lv2 (.ref b :: a) w)) r) (cW (Call M2 lv2 (.ref b :: a) w) w) else none := by
  refine Ex_C hd hp rfl rfl rfl ?_ rfl ?_
  · simp only [sH]
    rw [hq]
    rcases hk with rfl | rfl <;> rfl
  · simp only [sC]
    rw [hq]
    simp only [hk, hs, ob_some, ho, hen, hl, and_self, if_true]
theorem sLv_lt {M M2 : MI} {lv : Nat} (h : mRk M2 < mRk M) : sLv M M2 lv = some 60 := by unfold sLv; rw [if_pos h]
theorem sLv_eq {M M2 : MI} {lv : Nat} (h : mRk M2 = mRk M) : sLv M M2 (lv + 1) = some lv := by
  unfold sLv
  rw [if_neg (by omega), if_pos ⟨h, Nat.succ_pos _⟩]
  rfl
