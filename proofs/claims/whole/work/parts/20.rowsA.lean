/-! ===== printed by wip/whole/genrows.py: rows of Ex, a theorem a method ===== -/
theorem it_ite {c : Prop} [Decidable c] {α : Type} {x a b : α} (h1 : c → x = a) (h2 : ¬ c → x = b) : x = if c then a else b := by
  by_cases h : c
  · rw [if_pos h]; exact h1 h
  · rw [if_neg h]; exact h2 h
theorem ts_out {x : Int} (lo hi : Int) (h : ¬ (lo ≤ x ∧ x ≤ hi)) : x < lo ∨ hi < x := by omega
theorem Ex_iinc {M : MI} {lv pc pc' k : Nat} {n : Int} {v x : Int32} {l : LX} {st : List Value} {w : AH} (hd : decode M.2.1 pc = .ok (.iinc k n, 3)) (hp : pc + 3 = pc') (hl : lget l k = some (.int x)) (hk : k < mL M) (hv : Int32.ofInt n = v) : Ex M lv pc l st w = Ex M lv pc' (ls1 l k (.int (x + v))) st w := by
  subst hv
  exact Ex_M hd hp rfl (by simp only [sM, hl, if_pos hk])
theorem Ex_idiv {M : MI} {lv pc pc' : Nat} {l : LX} {x y : Int32} {st : List Value} {w : AH} (hd : decode M.2.1 pc = .ok (.idiv, 1)) (hp : pc + 1 = pc') : Ex M lv pc l (.int y :: .int x :: st) w = if y = 0 then none else Ex M lv pc' l (.int (x / y) :: st) w := by
  by_cases h : y = 0
  · rw [if_pos h]; exact Ex_Hn hd (by simp [sA, pI2, h]) rfl rfl rfl rfl rfl
  · rw [if_neg h]; exact Ex_A hd hp (by simp [sA, pI2, h])
theorem Ex_irem {M : MI} {lv pc pc' : Nat} {l : LX} {x y : Int32} {st : List Value} {w : AH} (hd : decode M.2.1 pc = .ok (.irem, 1)) (hp : pc + 1 = pc') : Ex M lv pc l (.int y :: .int x :: st) w = if y = 0 then none else Ex M lv pc' l (.int (x - x / y * y) :: st) w := by
  by_cases h : y = 0
  · rw [if_pos h]; exact Ex_Hn hd (by simp [sA, pI2, h]) rfl rfl rfl rfl rfl
  · rw [if_neg h]; exact Ex_A hd hp (by simp [sA, pI2, h])
theorem Ex_zret {M : MI} {lv pc : Nat} {l : LX} {x : Int32} {w : AH} (hd : decode M.2.1 pc = .ok (.ireturn, 1)) (hr : mRet M = some .boolean) : Ex M lv pc l [.int x] w = if x = 0 ∨ x = 1 then some (some (.int x), w) else none := by
  by_cases h : x = 0 ∨ x = 1
  · rw [if_pos h]; exact Ex_R hd rfl rfl rfl rfl (by simp only [sR, hr, h, and_self, if_true])
  · rw [if_neg h]; exact Ex_Hn hd rfl rfl rfl rfl (by simp only [sR, hr, h, and_false, if_false]) rfl
set_option maxRecDepth 20000 in
theorem H_X0_init_22 : ∀ (lv : Nat) (st : List Value) (t : LX) (o0 : Option Value) (x : Int32) (w : AH), Ex M_X0_init lv 22 (o0 :: some (.int x) :: t) st w = Ex M_X0_init lv 23 (o0 :: some (.int x) :: t) (.int x :: st) w := fun lv st t o0 x w => Ex_M (i := .iload_n 1) (n := 1) (by decide +kernel) rfl rfl rfl
set_option maxRecDepth 20000 in
set_option maxHeartbeats 4000000 in
theorem R_X0_init : (∀ (lv : Nat) (st : List Value) (t : LX) (x : Nat) (w : AH), Ex M_X0_init lv 0 (some (.ref x) :: t) st w = Ex M_X0_init lv 1 (some (.ref x) :: t) (.ref x :: st) w)
  ∧ (∀ (lv : Nat) (st : List Value) (t : LX) (w : AH), Ex M_X0_init lv 0 (some (.null) :: t) st w = Ex M_X0_init lv 1 (some (.null) :: t) (.null :: st) w)
  ∧ (∀ (lv : Nat) (l : LX) (b : Nat) (w : AH), Ex M_X0_init lv 1 l (.ref b :: []) w = Ex M_X0_init lv 4 l [] w)
  ∧ (∀ (lv : Nat) (st : List Value) (t : LX) (x : Nat) (w : AH), Ex M_X0_init lv 4 (some (.ref x) :: t) st w = Ex M_X0_init lv 5 (some (.ref x) :: t) (.ref x :: st) w)
  ∧ (∀ (lv : Nat) (st : List Value) (t : LX) (w : AH), Ex M_X0_init lv 4 (some (.null) :: t) st w = Ex M_X0_init lv 5 (some (.null) :: t) (.null :: st) w)
  ∧ (∀ (lv : Nat) (l : LX) (st : List Value) (w : AH), Ex M_X0_init lv 5 l st w = Ex M_X0_init lv 7 l (.int 36 :: st) w)
  ∧ (∀ (lv : Nat) (l : LX) (st : List Value) (w : AH), Ex M_X0_init lv 7 l (.int 36 :: st) w = Ex M_X0_init lv 9 l (.ref w.1 :: st) (hn w (.inl (0, 36, .inl (fun _ => 0))) 36))
  ∧ (∀ (lv : Nat) (l : LX) (st : List Value) (a : Nat) (v : Value) (w : AH), Ex M_X0_init lv 9 l (v :: .ref a :: st) w = if (pf (hg w a) 0 0 (.array .int) v).isSome = true then Ex M_X0_init lv 12 l st (hs w a (vE (pf (hg w a) 0 0 (.array .int) v))) else none)
  ∧ (∀ (lv : Nat) (st : List Value) (t : LX) (x : Nat) (w : AH), Ex M_X0_init lv 12 (some (.ref x) :: t) st w = Ex M_X0_init lv 13 (some (.ref x) :: t) (.ref x :: st) w)
  ∧ (∀ (lv : Nat) (st : List Value) (t : LX) (w : AH), Ex M_X0_init lv 12 (some (.null) :: t) st w = Ex M_X0_init lv 13 (some (.null) :: t) (.null :: st) w)
  ∧ (∀ (lv : Nat) (l : LX) (st : List Value) (w : AH), Ex M_X0_init lv 13 l st w = Ex M_X0_init lv 15 l (.int 36 :: st) w)
  ∧ (∀ (lv : Nat) (l : LX) (st : List Value) (w : AH), Ex M_X0_init lv 15 l (.int 36 :: st) w = Ex M_X0_init lv 17 l (.ref w.1 :: st) (hn w (.inl (0, 36, .inl (fun _ => 0))) 36))
  ∧ (∀ (lv : Nat) (l : LX) (st : List Value) (a : Nat) (v : Value) (w : AH), Ex M_X0_init lv 17 l (v :: .ref a :: st) w = if (pf (hg w a) 0 1 (.array .int) v).isSome = true then Ex M_X0_init lv 20 l st (hs w a (vE (pf (hg w a) 0 1 (.array .int) v))) else none)
  ∧ (∀ (lv : Nat) (l : LX) (st : List Value) (w : AH), Ex M_X0_init lv 20 l st w = Ex M_X0_init lv 21 l (.int 0 :: st) w)
  ∧ (∀ (lv : Nat) (l : LX) (st : List Value) (x : Int32) (w : AH), Ex M_X0_init lv 21 l (.int x :: st) w = Ex M_X0_init lv 22 (ls1 l 1 (.int x)) st w)
  ∧ (∀ (lv : Nat) (l : LX) (st : List Value) (w : AH), Ex M_X0_init lv 23 l st w = Ex M_X0_init lv 25 l (.int 36 :: st) w)
  ∧ (∀ (lv : Nat) (l : LX) (st : List Value) (x y : Int32) (w : AH), Ex M_X0_init lv 25 l (.int y :: .int x :: st) w = if y ≤ x then Ex M_X0_init lv 41 l st w else Ex M_X0_init lv 28 l st w)
  ∧ (∀ (lv : Nat) (st : List Value) (t : LX) (x : Nat) (w : AH), Ex M_X0_init lv 28 (some (.ref x) :: t) st w = Ex M_X0_init lv 29 (some (.ref x) :: t) (.ref x :: st) w)
  ∧ (∀ (lv : Nat) (st : List Value) (t : LX) (w : AH), Ex M_X0_init lv 28 (some (.null) :: t) st w = Ex M_X0_init lv 29 (some (.null) :: t) (.null :: st) w)
  ∧ (∀ (lv : Nat) (l : LX) (st : List Value) (a : Nat) (w : AH), Ex M_X0_init lv 29 l (.ref a :: st) w = if (gf (hg w a) 0 0).isSome = true then Ex M_X0_init lv 32 l (vV (gf (hg w a) 0 0) :: st) w else none)
  ∧ (∀ (lv : Nat) (st : List Value) (t : LX) (o0 : Option Value) (x : Int32) (w : AH), Ex M_X0_init lv 32 (o0 :: some (.int x) :: t) st w = Ex M_X0_init lv 33 (o0 :: some (.int x) :: t) (.int x :: st) w)
  ∧ (∀ (lv : Nat) (l : LX) (st : List Value) (w : AH), Ex M_X0_init lv 33 l st w = Ex M_X0_init lv 34 l (.int 1 :: st) w)
  ∧ (∀ (lv : Nat) (l : LX) (st : List Value) (a : Nat) (i : Int32) (x : Int32) (w : AH), Ex M_X0_init lv 34 l (.int x :: .int i :: .ref a :: st) w = if (uI (hg w a) i x).isSome = true then Ex M_X0_init lv 35 l st (hs w a (vE (uI (hg w a) i x))) else none)
  ∧ (∀ (lv : Nat) (st : List Value) (t : LX) (o0 : Option Value) (x : Int32) (w : AH), Ex M_X0_init lv 35 (o0 :: some (.int x) :: t) st w = Ex M_X0_init lv 38 (ls1 (o0 :: some (.int x) :: t) 1 (.int (x + 1))) st w)
  ∧ (∀ (lv : Nat) (l : LX) (st : List Value) (w : AH), Ex M_X0_init lv 38 l st w = Ex M_X0_init lv 22 l st w)
  ∧ (∀ (lv : Nat) (l : LX) (w : AH), Ex M_X0_init lv 41 l [] w = some (none, w)) :=
  ⟨(fun lv st t x w => Ex_M (i := .aload_n 0) (n := 1) (by decide +kernel) rfl rfl rfl),
   (fun lv st t w => Ex_M (i := .aload_n 0) (n := 1) (by decide +kernel) rfl rfl rfl),
   (fun lv l b w => Ex_oinit (by decide +kernel : decode M_X0_init.2.1 1 = .ok (.invokespecial 3, 3)) rfl (by rfl : resM (mCn M_X0_init) 3 = some (6, M_X0_init)) (by rfl)),
   (fun lv st t x w => Ex_M (i := .aload_n 0) (n := 1) (by decide +kernel) rfl rfl rfl),
   (fun lv st t w => Ex_M (i := .aload_n 0) (n := 1) (by decide +kernel) rfl rfl rfl),
   (fun lv l st w => Ex_A (i := .bipush 36) (n := 2) (by decide +kernel) rfl rfl),
   (fun lv l st w => Ex_newa (by decide +kernel : decode M_X0_init.2.1 7 = .ok (.newarray .int, 2)) rfl (by decide) (by decide) rfl),
   (fun lv l st a v w => Ex_putf (by decide +kernel : decode M_X0_init.2.1 9 = .ok (.putfield 9, 3)) rfl (by decide +kernel : resF (mCn M_X0_init) 9 = some (0, 0, (.array .int), true)) (by decide +kernel)),
   (fun lv st t x w => Ex_M (i := .aload_n 0) (n := 1) (by decide +kernel) rfl rfl rfl),
   (fun lv st t w => Ex_M (i := .aload_n 0) (n := 1) (by decide +kernel) rfl rfl rfl),
   (fun lv l st w => Ex_A (i := .bipush 36) (n := 2) (by decide +kernel) rfl rfl),
   (fun lv l st w => Ex_newa (by decide +kernel : decode M_X0_init.2.1 15 = .ok (.newarray .int, 2)) rfl (by decide) (by decide) rfl),
   (fun lv l st a v w => Ex_putf (by decide +kernel : decode M_X0_init.2.1 17 = .ok (.putfield 15, 3)) rfl (by decide +kernel : resF (mCn M_X0_init) 15 = some (0, 1, (.array .int), true)) (by decide +kernel)),
   (fun lv l st w => Ex_A (i := .iconst 0) (n := 1) (by decide +kernel) rfl rfl),
   (fun lv l st x w => Ex_M (i := .istore_n 1) (n := 1) (by decide +kernel) rfl rfl rfl),
   (fun lv l st w => Ex_A (i := .bipush 36) (n := 2) (by decide +kernel) rfl rfl),
   (fun lv l st x y w => Ex_icmp_ge (by decide +kernel : decode M_X0_init.2.1 25 = .ok (.if_icmp .ge 16, 3)) rfl rfl),
   (fun lv st t x w => Ex_M (i := .aload_n 0) (n := 1) (by decide +kernel) rfl rfl rfl),
   (fun lv st t w => Ex_M (i := .aload_n 0) (n := 1) (by decide +kernel) rfl rfl rfl),
   (fun lv l st a w => Ex_getf (by decide +kernel : decode M_X0_init.2.1 29 = .ok (.getfield 9, 3)) rfl (by decide +kernel : resF (mCn M_X0_init) 9 = some (0, 0, (.array .int), true))),
   (fun lv st t o0 x w => Ex_M (i := .iload_n 1) (n := 1) (by decide +kernel) rfl rfl rfl),
   (fun lv l st w => Ex_A (i := .iconst 1) (n := 1) (by decide +kernel) rfl rfl),
   (fun lv l st a i x w => Ex_ias (by decide +kernel : decode M_X0_init.2.1 34 = .ok (.iastore, 1)) rfl),
   (fun lv st t o0 x w => Ex_iinc (by decide +kernel : decode M_X0_init.2.1 35 = .ok (.iinc 1 1, 3)) rfl rfl (by decide) (by decide)),
   (fun lv l st w => Ex_goto (by decide +kernel : decode M_X0_init.2.1 38 = .ok (.goto (-16), 3)) rfl),
   (fun lv l w => Ex_R (i := .return_) (n := 1) (by decide +kernel) rfl rfl rfl rfl rfl)⟩
set_option maxRecDepth 20000 in
set_option maxHeartbeats 4000000 in
theorem R_X0_copyFrom : (∀ (lv : Nat) (st : List Value) (t : LX) (o0 : Option Value) (x : Nat) (w : AH), Ex M_X0_copyFrom lv 0 (o0 :: some (.ref x) :: t) st w = Ex M_X0_copyFrom lv 1 (o0 :: some (.ref x) :: t) (.ref x :: st) w)
  ∧ (∀ (lv : Nat) (st : List Value) (t : LX) (o0 : Option Value) (w : AH), Ex M_X0_copyFrom lv 0 (o0 :: some (.null) :: t) st w = Ex M_X0_copyFrom lv 1 (o0 :: some (.null) :: t) (.null :: st) w)
  ∧ (∀ (lv : Nat) (l : LX) (st : List Value) (a : Nat) (w : AH), Ex M_X0_copyFrom lv 1 l (.ref a :: st) w = if (gf (hg w a) 0 0).isSome = true then Ex M_X0_copyFrom lv 4 l (vV (gf (hg w a) 0 0) :: st) w else none)
  ∧ (∀ (lv : Nat) (l : LX) (st : List Value) (w : AH), Ex M_X0_copyFrom lv 4 l st w = Ex M_X0_copyFrom lv 5 l (.int 0 :: st) w)
  ∧ (∀ (lv : Nat) (st : List Value) (t : LX) (x : Nat) (w : AH), Ex M_X0_copyFrom lv 5 (some (.ref x) :: t) st w = Ex M_X0_copyFrom lv 6 (some (.ref x) :: t) (.ref x :: st) w)
  ∧ (∀ (lv : Nat) (st : List Value) (t : LX) (w : AH), Ex M_X0_copyFrom lv 5 (some (.null) :: t) st w = Ex M_X0_copyFrom lv 6 (some (.null) :: t) (.null :: st) w)
  ∧ (∀ (lv : Nat) (l : LX) (st : List Value) (a : Nat) (w : AH), Ex M_X0_copyFrom lv 6 l (.ref a :: st) w = if (gf (hg w a) 0 0).isSome = true then Ex M_X0_copyFrom lv 9 l (vV (gf (hg w a) 0 0) :: st) w else none)
  ∧ (∀ (lv : Nat) (l : LX) (st : List Value) (w : AH), Ex M_X0_copyFrom lv 9 l st w = Ex M_X0_copyFrom lv 10 l (.int 0 :: st) w)
  ∧ (∀ (lv : Nat) (l : LX) (st : List Value) (w : AH), Ex M_X0_copyFrom lv 10 l st w = Ex M_X0_copyFrom lv 12 l (.int 36 :: st) w)
  ∧ (∀ (lv : Nat) (l : LX) (a b : Nat) (sp dp k : Int32) (w : AH), Ex M_X0_copyFrom lv 12 l (.int k :: .int dp :: .ref b :: .int sp :: .ref a :: []) w = if (aC (hg w a) (hg w b) sp dp k).isSome = true then Ex M_X0_copyFrom lv 15 l [] (hs w b (vE (aC (hg w a) (hg w b) sp dp k))) else none)
  ∧ (∀ (lv : Nat) (st : List Value) (t : LX) (o0 : Option Value) (x : Nat) (w : AH), Ex M_X0_copyFrom lv 15 (o0 :: some (.ref x) :: t) st w = Ex M_X0_copyFrom lv 16 (o0 :: some (.ref x) :: t) (.ref x :: st) w)
  ∧ (∀ (lv : Nat) (st : List Value) (t : LX) (o0 : Option Value) (w : AH), Ex M_X0_copyFrom lv 15 (o0 :: some (.null) :: t) st w = Ex M_X0_copyFrom lv 16 (o0 :: some (.null) :: t) (.null :: st) w)
  ∧ (∀ (lv : Nat) (l : LX) (st : List Value) (a : Nat) (w : AH), Ex M_X0_copyFrom lv 16 l (.ref a :: st) w = if (gf (hg w a) 0 1).isSome = true then Ex M_X0_copyFrom lv 19 l (vV (gf (hg w a) 0 1) :: st) w else none)
  ∧ (∀ (lv : Nat) (l : LX) (st : List Value) (w : AH), Ex M_X0_copyFrom lv 19 l st w = Ex M_X0_copyFrom lv 20 l (.int 0 :: st) w)
  ∧ (∀ (lv : Nat) (st : List Value) (t : LX) (x : Nat) (w : AH), Ex M_X0_copyFrom lv 20 (some (.ref x) :: t) st w = Ex M_X0_copyFrom lv 21 (some (.ref x) :: t) (.ref x :: st) w)
  ∧ (∀ (lv : Nat) (st : List Value) (t : LX) (w : AH), Ex M_X0_copyFrom lv 20 (some (.null) :: t) st w = Ex M_X0_copyFrom lv 21 (some (.null) :: t) (.null :: st) w)
  ∧ (∀ (lv : Nat) (l : LX) (st : List Value) (a : Nat) (w : AH), Ex M_X0_copyFrom lv 21 l (.ref a :: st) w = if (gf (hg w a) 0 1).isSome = true then Ex M_X0_copyFrom lv 24 l (vV (gf (hg w a) 0 1) :: st) w else none)
  ∧ (∀ (lv : Nat) (l : LX) (st : List Value) (w : AH), Ex M_X0_copyFrom lv 24 l st w = Ex M_X0_copyFrom lv 25 l (.int 0 :: st) w)
  ∧ (∀ (lv : Nat) (l : LX) (st : List Value) (w : AH), Ex M_X0_copyFrom lv 25 l st w = Ex M_X0_copyFrom lv 27 l (.int 36 :: st) w)
  ∧ (∀ (lv : Nat) (l : LX) (a b : Nat) (sp dp k : Int32) (w : AH), Ex M_X0_copyFrom lv 27 l (.int k :: .int dp :: .ref b :: .int sp :: .ref a :: []) w = if (aC (hg w a) (hg w b) sp dp k).isSome = true then Ex M_X0_copyFrom lv 30 l [] (hs w b (vE (aC (hg w a) (hg w b) sp dp k))) else none)
  ∧ (∀ (lv : Nat) (l : LX) (w : AH), Ex M_X0_copyFrom lv 30 l [] w = some (none, w)) :=
  ⟨(fun lv st t o0 x w => Ex_M (i := .aload_n 1) (n := 1) (by decide +kernel) rfl rfl rfl),
   (fun lv st t o0 w => Ex_M (i := .aload_n 1) (n := 1) (by decide +kernel) rfl rfl rfl),
   (fun lv l st a w => Ex_getf (by decide +kernel : decode M_X0_copyFrom.2.1 1 = .ok (.getfield 9, 3)) rfl (by decide +kernel : resF (mCn M_X0_copyFrom) 9 = some (0, 0, (.array .int), true))),
   (fun lv l st w => Ex_A (i := .iconst 0) (n := 1) (by decide +kernel) rfl rfl),
   (fun lv st t x w => Ex_M (i := .aload_n 0) (n := 1) (by decide +kernel) rfl rfl rfl),
   (fun lv st t w => Ex_M (i := .aload_n 0) (n := 1) (by decide +kernel) rfl rfl rfl),
   (fun lv l st a w => Ex_getf (by decide +kernel : decode M_X0_copyFrom.2.1 6 = .ok (.getfield 9, 3)) rfl (by decide +kernel : resF (mCn M_X0_copyFrom) 9 = some (0, 0, (.array .int), true))),
   (fun lv l st w => Ex_A (i := .iconst 0) (n := 1) (by decide +kernel) rfl rfl),
   (fun lv l st w => Ex_A (i := .bipush 36) (n := 2) (by decide +kernel) rfl rfl),
   (fun lv l a b sp dp k w => Ex_acopy (by decide +kernel : decode M_X0_copyFrom.2.1 12 = .ok (.invokestatic 18, 3)) rfl (by rfl : resM (mCn M_X0_copyFrom) 18 = some (7, M_X0_init)) (by rfl)),
   (fun lv st t o0 x w => Ex_M (i := .aload_n 1) (n := 1) (by decide +kernel) rfl rfl rfl),
   (fun lv st t o0 w => Ex_M (i := .aload_n 1) (n := 1) (by decide +kernel) rfl rfl rfl),
   (fun lv l st a w => Ex_getf (by decide +kernel : decode M_X0_copyFrom.2.1 16 = .ok (.getfield 15, 3)) rfl (by decide +kernel : resF (mCn M_X0_copyFrom) 15 = some (0, 1, (.array .int), true))),
   (fun lv l st w => Ex_A (i := .iconst 0) (n := 1) (by decide +kernel) rfl rfl),
   (fun lv st t x w => Ex_M (i := .aload_n 0) (n := 1) (by decide +kernel) rfl rfl rfl),
   (fun lv st t w => Ex_M (i := .aload_n 0) (n := 1) (by decide +kernel) rfl rfl rfl),
   (fun lv l st a w => Ex_getf (by decide +kernel : decode M_X0_copyFrom.2.1 21 = .ok (.getfield 15, 3)) rfl (by decide +kernel : resF (mCn M_X0_copyFrom) 15 = some (0, 1, (.array .int), true))),
   (fun lv l st w => Ex_A (i := .iconst 0) (n := 1) (by decide +kernel) rfl rfl),
   (fun lv l st w => Ex_A (i := .bipush 36) (n := 2) (by decide +kernel) rfl rfl),
   (fun lv l a b sp dp k w => Ex_acopy (by decide +kernel : decode M_X0_copyFrom.2.1 27 = .ok (.invokestatic 18, 3)) rfl (by rfl : resM (mCn M_X0_copyFrom) 18 = some (7, M_X0_init)) (by rfl)),
   (fun lv l w => Ex_R (i := .return_) (n := 1) (by decide +kernel) rfl rfl rfl rfl rfl)⟩
set_option maxRecDepth 20000 in
set_option maxHeartbeats 4000000 in
theorem R_X0_colourOf : (∀ (lv : Nat) (st : List Value) (t : LX) (o0 : Option Value) (x : Int32) (w : AH), Ex M_X0_colourOf lv 0 (o0 :: some (.int x) :: t) st w = Ex M_X0_colourOf lv 1 (o0 :: some (.int x) :: t) (.int x :: st) w)
  ∧ (∀ (lv : Nat) (l : LX) (a0 : Int32) (w : AH), Ex M_X0_colourOf lv 1 l (.int a0 :: []) w = if (Call M_X11_isKnot 60 [.int a0] w).isSome = true then Ex M_X0_colourOf lv 4 l (pushR (cV (Call M_X11_isKnot 60 [.int a0] w)) []) (cW (Call M_X11_isKnot 60 [.int a0] w) w) else none)
  ∧ (∀ (lv : Nat) (l : LX) (st : List Value) (x : Int32) (w : AH), Ex M_X0_colourOf lv 4 l (.int x :: st) w = if x = 0 then Ex M_X0_colourOf lv 16 l st w else Ex M_X0_colourOf lv 7 l st w)
  ∧ (∀ (lv : Nat) (st : List Value) (t : LX) (x : Nat) (w : AH), Ex M_X0_colourOf lv 7 (some (.ref x) :: t) st w = Ex M_X0_colourOf lv 8 (some (.ref x) :: t) (.ref x :: st) w)
  ∧ (∀ (lv : Nat) (st : List Value) (t : LX) (w : AH), Ex M_X0_colourOf lv 7 (some (.null) :: t) st w = Ex M_X0_colourOf lv 8 (some (.null) :: t) (.null :: st) w)
  ∧ (∀ (lv : Nat) (l : LX) (st : List Value) (a : Nat) (w : AH), Ex M_X0_colourOf lv 8 l (.ref a :: st) w = if (gf (hg w a) 0 0).isSome = true then Ex M_X0_colourOf lv 11 l (vV (gf (hg w a) 0 0) :: st) w else none)
  ∧ (∀ (lv : Nat) (st : List Value) (t : LX) (o0 : Option Value) (x : Int32) (w : AH), Ex M_X0_colourOf lv 11 (o0 :: some (.int x) :: t) st w = Ex M_X0_colourOf lv 12 (o0 :: some (.int x) :: t) (.int x :: st) w)
  ∧ (∀ (lv : Nat) (l : LX) (st : List Value) (a : Nat) (i : Int32) (w : AH), Ex M_X0_colourOf lv 12 l (.int i :: .ref a :: st) w = if (aI (hg w a) i).isSome = true then Ex M_X0_colourOf lv 13 l (.int (vI (aI (hg w a) i)) :: st) w else none)
  ∧ (∀ (lv : Nat) (l : LX) (st : List Value) (w : AH), Ex M_X0_colourOf lv 13 l st w = Ex M_X0_colourOf lv 17 l st w)
  ∧ (∀ (lv : Nat) (l : LX) (st : List Value) (w : AH), Ex M_X0_colourOf lv 16 l st w = Ex M_X0_colourOf lv 17 l (.int 0 :: st) w)
  ∧ (∀ (lv : Nat) (l : LX) (x : Int32) (w : AH), Ex M_X0_colourOf lv 17 l [.int x] w = some (some (.int x), w)) :=
  ⟨(fun lv st t o0 x w => Ex_M (i := .iload_n 1) (n := 1) (by decide +kernel) rfl rfl rfl),
   (fun lv l a0 w => Ex_callS (by decide +kernel : decode M_X0_colourOf.2.1 1 = .ok (.invokestatic 24, 3)) rfl (by rfl : resM (mCn M_X0_colourOf) 24 = some (1, M_X11_isKnot)) (by decide) rfl (by rfl) (Nat.le_of_ble_eq_true rfl) (sLv_lt (by decide +kernel))),
   (fun lv l st x w => Ex_if_eq (by decide +kernel : decode M_X0_colourOf.2.1 4 = .ok (.ifCond .eq 12, 3)) rfl rfl),
   (fun lv st t x w => Ex_M (i := .aload_n 0) (n := 1) (by decide +kernel) rfl rfl rfl),
   (fun lv st t w => Ex_M (i := .aload_n 0) (n := 1) (by decide +kernel) rfl rfl rfl),
   (fun lv l st a w => Ex_getf (by decide +kernel : decode M_X0_colourOf.2.1 8 = .ok (.getfield 9, 3)) rfl (by decide +kernel : resF (mCn M_X0_colourOf) 9 = some (0, 0, (.array .int), true))),
   (fun lv st t o0 x w => Ex_M (i := .iload_n 1) (n := 1) (by decide +kernel) rfl rfl rfl),
   (fun lv l st a i w => Ex_ial (by decide +kernel : decode M_X0_colourOf.2.1 12 = .ok (.iaload, 1)) rfl),
   (fun lv l st w => Ex_goto (by decide +kernel : decode M_X0_colourOf.2.1 13 = .ok (.goto 4, 3)) rfl),
   (fun lv l st w => Ex_A (i := .iconst 0) (n := 1) (by decide +kernel) rfl rfl),
   (fun lv l x w => Ex_R (i := .ireturn) (n := 1) (by decide +kernel) rfl rfl rfl rfl rfl)⟩
set_option maxRecDepth 20000 in
set_option maxHeartbeats 4000000 in
theorem R_X0_wearOf : (∀ (lv : Nat) (st : List Value) (t : LX) (o0 : Option Value) (x : Int32) (w : AH), Ex M_X0_wearOf lv 0 (o0 :: some (.int x) :: t) st w = Ex M_X0_wearOf lv 1 (o0 :: some (.int x) :: t) (.int x :: st) w)
  ∧ (∀ (lv : Nat) (l : LX) (a0 : Int32) (w : AH), Ex M_X0_wearOf lv 1 l (.int a0 :: []) w = if (Call M_X11_isKnot 60 [.int a0] w).isSome = true then Ex M_X0_wearOf lv 4 l (pushR (cV (Call M_X11_isKnot 60 [.int a0] w)) []) (cW (Call M_X11_isKnot 60 [.int a0] w) w) else none)
  ∧ (∀ (lv : Nat) (l : LX) (st : List Value) (x : Int32) (w : AH), Ex M_X0_wearOf lv 4 l (.int x :: st) w = if x = 0 then Ex M_X0_wearOf lv 16 l st w else Ex M_X0_wearOf lv 7 l st w)
  ∧ (∀ (lv : Nat) (st : List Value) (t : LX) (x : Nat) (w : AH), Ex M_X0_wearOf lv 7 (some (.ref x) :: t) st w = Ex M_X0_wearOf lv 8 (some (.ref x) :: t) (.ref x :: st) w)
  ∧ (∀ (lv : Nat) (st : List Value) (t : LX) (w : AH), Ex M_X0_wearOf lv 7 (some (.null) :: t) st w = Ex M_X0_wearOf lv 8 (some (.null) :: t) (.null :: st) w)
  ∧ (∀ (lv : Nat) (l : LX) (st : List Value) (a : Nat) (w : AH), Ex M_X0_wearOf lv 8 l (.ref a :: st) w = if (gf (hg w a) 0 1).isSome = true then Ex M_X0_wearOf lv 11 l (vV (gf (hg w a) 0 1) :: st) w else none)
  ∧ (∀ (lv : Nat) (st : List Value) (t : LX) (o0 : Option Value) (x : Int32) (w : AH), Ex M_X0_wearOf lv 11 (o0 :: some (.int x) :: t) st w = Ex M_X0_wearOf lv 12 (o0 :: some (.int x) :: t) (.int x :: st) w)
  ∧ (∀ (lv : Nat) (l : LX) (st : List Value) (a : Nat) (i : Int32) (w : AH), Ex M_X0_wearOf lv 12 l (.int i :: .ref a :: st) w = if (aI (hg w a) i).isSome = true then Ex M_X0_wearOf lv 13 l (.int (vI (aI (hg w a) i)) :: st) w else none)
  ∧ (∀ (lv : Nat) (l : LX) (st : List Value) (w : AH), Ex M_X0_wearOf lv 13 l st w = Ex M_X0_wearOf lv 17 l st w)
  ∧ (∀ (lv : Nat) (l : LX) (st : List Value) (w : AH), Ex M_X0_wearOf lv 16 l st w = Ex M_X0_wearOf lv 17 l (.int 0 :: st) w)
  ∧ (∀ (lv : Nat) (l : LX) (x : Int32) (w : AH), Ex M_X0_wearOf lv 17 l [.int x] w = some (some (.int x), w)) :=
  ⟨(fun lv st t o0 x w => Ex_M (i := .iload_n 1) (n := 1) (by decide +kernel) rfl rfl rfl),
   (fun lv l a0 w => Ex_callS (by decide +kernel : decode M_X0_wearOf.2.1 1 = .ok (.invokestatic 24, 3)) rfl (by rfl : resM (mCn M_X0_wearOf) 24 = some (1, M_X11_isKnot)) (by decide) rfl (by rfl) (Nat.le_of_ble_eq_true rfl) (sLv_lt (by decide +kernel))),
   (fun lv l st x w => Ex_if_eq (by decide +kernel : decode M_X0_wearOf.2.1 4 = .ok (.ifCond .eq 12, 3)) rfl rfl),
   (fun lv st t x w => Ex_M (i := .aload_n 0) (n := 1) (by decide +kernel) rfl rfl rfl),
   (fun lv st t w => Ex_M (i := .aload_n 0) (n := 1) (by decide +kernel) rfl rfl rfl),
   (fun lv l st a w => Ex_getf (by decide +kernel : decode M_X0_wearOf.2.1 8 = .ok (.getfield 15, 3)) rfl (by decide +kernel : resF (mCn M_X0_wearOf) 15 = some (0, 1, (.array .int), true))),
   (fun lv st t o0 x w => Ex_M (i := .iload_n 1) (n := 1) (by decide +kernel) rfl rfl rfl),
   (fun lv l st a i w => Ex_ial (by decide +kernel : decode M_X0_wearOf.2.1 12 = .ok (.iaload, 1)) rfl),
   (fun lv l st w => Ex_goto (by decide +kernel : decode M_X0_wearOf.2.1 13 = .ok (.goto 4, 3)) rfl),
   (fun lv l st w => Ex_A (i := .iconst 0) (n := 1) (by decide +kernel) rfl rfl),
   (fun lv l x w => Ex_R (i := .ireturn) (n := 1) (by decide +kernel) rfl rfl rfl rfl rfl)⟩
set_option maxRecDepth 20000 in
set_option maxHeartbeats 4000000 in
theorem R_X0_setColour : (∀ (lv : Nat) (st : List Value) (t : LX) (o0 : Option Value) (x : Int32) (w : AH), Ex M_X0_setColour lv 0 (o0 :: some (.int x) :: t) st w = Ex M_X0_setColour lv 1 (o0 :: some (.int x) :: t) (.int x :: st) w)
  ∧ (∀ (lv : Nat) (l : LX) (a0 : Int32) (w : AH), Ex M_X0_setColour lv 1 l (.int a0 :: []) w = if (Call M_X11_isKnot 60 [.int a0] w).isSome = true then Ex M_X0_setColour lv 4 l (pushR (cV (Call M_X11_isKnot 60 [.int a0] w)) []) (cW (Call M_X11_isKnot 60 [.int a0] w) w) else none)
  ∧ (∀ (lv : Nat) (l : LX) (st : List Value) (x : Int32) (w : AH), Ex M_X0_setColour lv 4 l (.int x :: st) w = if x = 0 then Ex M_X0_setColour lv 14 l st w else Ex M_X0_setColour lv 7 l st w)
  ∧ (∀ (lv : Nat) (st : List Value) (t : LX) (x : Nat) (w : AH), Ex M_X0_setColour lv 7 (some (.ref x) :: t) st w = Ex M_X0_setColour lv 8 (some (.ref x) :: t) (.ref x :: st) w)
  ∧ (∀ (lv : Nat) (st : List Value) (t : LX) (w : AH), Ex M_X0_setColour lv 7 (some (.null) :: t) st w = Ex M_X0_setColour lv 8 (some (.null) :: t) (.null :: st) w)
  ∧ (∀ (lv : Nat) (l : LX) (st : List Value) (a : Nat) (w : AH), Ex M_X0_setColour lv 8 l (.ref a :: st) w = if (gf (hg w a) 0 0).isSome = true then Ex M_X0_setColour lv 11 l (vV (gf (hg w a) 0 0) :: st) w else none)
  ∧ (∀ (lv : Nat) (st : List Value) (t : LX) (o0 : Option Value) (x : Int32) (w : AH), Ex M_X0_setColour lv 11 (o0 :: some (.int x) :: t) st w = Ex M_X0_setColour lv 12 (o0 :: some (.int x) :: t) (.int x :: st) w)
  ∧ (∀ (lv : Nat) (st : List Value) (t : LX) (o0 o1 : Option Value) (x : Int32) (w : AH), Ex M_X0_setColour lv 12 (o0 :: o1 :: some (.int x) :: t) st w = Ex M_X0_setColour lv 13 (o0 :: o1 :: some (.int x) :: t) (.int x :: st) w)
  ∧ (∀ (lv : Nat) (l : LX) (st : List Value) (a : Nat) (i : Int32) (x : Int32) (w : AH), Ex M_X0_setColour lv 13 l (.int x :: .int i :: .ref a :: st) w = if (uI (hg w a) i x).isSome = true then Ex M_X0_setColour lv 14 l st (hs w a (vE (uI (hg w a) i x))) else none)
  ∧ (∀ (lv : Nat) (l : LX) (w : AH), Ex M_X0_setColour lv 14 l [] w = some (none, w)) :=
  ⟨(fun lv st t o0 x w => Ex_M (i := .iload_n 1) (n := 1) (by decide +kernel) rfl rfl rfl),
   (fun lv l a0 w => Ex_callS (by decide +kernel : decode M_X0_setColour.2.1 1 = .ok (.invokestatic 24, 3)) rfl (by rfl : resM (mCn M_X0_setColour) 24 = some (1, M_X11_isKnot)) (by decide) rfl (by rfl) (Nat.le_of_ble_eq_true rfl) (sLv_lt (by decide +kernel))),
   (fun lv l st x w => Ex_if_eq (by decide +kernel : decode M_X0_setColour.2.1 4 = .ok (.ifCond .eq 10, 3)) rfl rfl),
   (fun lv st t x w => Ex_M (i := .aload_n 0) (n := 1) (by decide +kernel) rfl rfl rfl),
   (fun lv st t w => Ex_M (i := .aload_n 0) (n := 1) (by decide +kernel) rfl rfl rfl),
   (fun lv l st a w => Ex_getf (by decide +kernel : decode M_X0_setColour.2.1 8 = .ok (.getfield 9, 3)) rfl (by decide +kernel : resF (mCn M_X0_setColour) 9 = some (0, 0, (.array .int), true))),
   (fun lv st t o0 x w => Ex_M (i := .iload_n 1) (n := 1) (by decide +kernel) rfl rfl rfl),
   (fun lv st t o0 o1 x w => Ex_M (i := .iload_n 2) (n := 1) (by decide +kernel) rfl rfl rfl),
   (fun lv l st a i x w => Ex_ias (by decide +kernel : decode M_X0_setColour.2.1 13 = .ok (.iastore, 1)) rfl),
   (fun lv l w => Ex_R (i := .return_) (n := 1) (by decide +kernel) rfl rfl rfl rfl rfl)⟩
set_option maxRecDepth 20000 in
set_option maxHeartbeats 4000000 in
theorem R_X0_setWear : (∀ (lv : Nat) (st : List Value) (t : LX) (o0 : Option Value) (x : Int32) (w : AH), Ex M_X0_setWear lv 0 (o0 :: some (.int x) :: t) st w = Ex M_X0_setWear lv 1 (o0 :: some (.int x) :: t) (.int x :: st) w)
  ∧ (∀ (lv : Nat) (l : LX) (a0 : Int32) (w : AH), Ex M_X0_setWear lv 1 l (.int a0 :: []) w = if (Call M_X11_isKnot 60 [.int a0] w).isSome = true then Ex M_X0_setWear lv 4 l (pushR (cV (Call M_X11_isKnot 60 [.int a0] w)) []) (cW (Call M_X11_isKnot 60 [.int a0] w) w) else none)
  ∧ (∀ (lv : Nat) (l : LX) (st : List Value) (x : Int32) (w : AH), Ex M_X0_setWear lv 4 l (.int x :: st) w = if x = 0 then Ex M_X0_setWear lv 19 l st w else Ex M_X0_setWear lv 7 l st w)
  ∧ (∀ (lv : Nat) (st : List Value) (t : LX) (x : Nat) (w : AH), Ex M_X0_setWear lv 7 (some (.ref x) :: t) st w = Ex M_X0_setWear lv 8 (some (.ref x) :: t) (.ref x :: st) w)
  ∧ (∀ (lv : Nat) (st : List Value) (t : LX) (w : AH), Ex M_X0_setWear lv 7 (some (.null) :: t) st w = Ex M_X0_setWear lv 8 (some (.null) :: t) (.null :: st) w)
  ∧ (∀ (lv : Nat) (l : LX) (st : List Value) (a : Nat) (w : AH), Ex M_X0_setWear lv 8 l (.ref a :: st) w = if (gf (hg w a) 0 1).isSome = true then Ex M_X0_setWear lv 11 l (vV (gf (hg w a) 0 1) :: st) w else none)
  ∧ (∀ (lv : Nat) (st : List Value) (t : LX) (o0 : Option Value) (x : Int32) (w : AH), Ex M_X0_setWear lv 11 (o0 :: some (.int x) :: t) st w = Ex M_X0_setWear lv 12 (o0 :: some (.int x) :: t) (.int x :: st) w)
  ∧ (∀ (lv : Nat) (st : List Value) (t : LX) (o0 o1 : Option Value) (x : Int32) (w : AH), Ex M_X0_setWear lv 12 (o0 :: o1 :: some (.int x) :: t) st w = Ex M_X0_setWear lv 13 (o0 :: o1 :: some (.int x) :: t) (.int x :: st) w)
  ∧ (∀ (lv : Nat) (l : LX) (st : List Value) (w : AH), Ex M_X0_setWear lv 13 l st w = Ex M_X0_setWear lv 15 l (.int 99 :: st) w)
  ∧ (∀ (lv : Nat) (l : LX) (a0 : Int32) (a1 : Int32) (s0 : Int32) (s1 : Nat) (w : AH), Ex M_X0_setWear lv 15 l (.int a1 :: .int a0 :: [.int s0, .ref s1]) w = if (Call M_J9_min_7cf53 60 [.int a0, .int a1] w).isSome = true then Ex M_X0_setWear lv 18 l (pushR (cV (Call M_J9_min_7cf53 60 [.int a0, .int a1] w)) [.int s0, .ref s1]) (cW (Call M_J9_min_7cf53 60 [.int a0, .int a1] w) w) else none)
  ∧ (∀ (lv : Nat) (l : LX) (st : List Value) (a : Nat) (i : Int32) (x : Int32) (w : AH), Ex M_X0_setWear lv 18 l (.int x :: .int i :: .ref a :: st) w = if (uI (hg w a) i x).isSome = true then Ex M_X0_setWear lv 19 l st (hs w a (vE (uI (hg w a) i x))) else none)
  ∧ (∀ (lv : Nat) (l : LX) (w : AH), Ex M_X0_setWear lv 19 l [] w = some (none, w)) :=
  ⟨(fun lv st t o0 x w => Ex_M (i := .iload_n 1) (n := 1) (by decide +kernel) rfl rfl rfl),
   (fun lv l a0 w => Ex_callS (by decide +kernel : decode M_X0_setWear.2.1 1 = .ok (.invokestatic 24, 3)) rfl (by rfl : resM (mCn M_X0_setWear) 24 = some (1, M_X11_isKnot)) (by decide) rfl (by rfl) (Nat.le_of_ble_eq_true rfl) (sLv_lt (by decide +kernel))),
   (fun lv l st x w => Ex_if_eq (by decide +kernel : decode M_X0_setWear.2.1 4 = .ok (.ifCond .eq 15, 3)) rfl rfl),
   (fun lv st t x w => Ex_M (i := .aload_n 0) (n := 1) (by decide +kernel) rfl rfl rfl),
   (fun lv st t w => Ex_M (i := .aload_n 0) (n := 1) (by decide +kernel) rfl rfl rfl),
   (fun lv l st a w => Ex_getf (by decide +kernel : decode M_X0_setWear.2.1 8 = .ok (.getfield 15, 3)) rfl (by decide +kernel : resF (mCn M_X0_setWear) 15 = some (0, 1, (.array .int), true))),
   (fun lv st t o0 x w => Ex_M (i := .iload_n 1) (n := 1) (by decide +kernel) rfl rfl rfl),
   (fun lv st t o0 o1 x w => Ex_M (i := .iload_n 2) (n := 1) (by decide +kernel) rfl rfl rfl),
   (fun lv l st w => Ex_A (i := .bipush 99) (n := 2) (by decide +kernel) rfl rfl),
   (fun lv l a0 a1 s0 s1 w => Ex_callS (by decide +kernel : decode M_X0_setWear.2.1 15 = .ok (.invokestatic 28, 3)) rfl (by rfl : resM (mCn M_X0_setWear) 28 = some (0, M_J9_min_7cf53)) (by decide) rfl (by rfl) (Nat.le_of_ble_eq_true rfl) (sLv_lt (by decide +kernel))),
   (fun lv l st a i x w => Ex_ias (by decide +kernel : decode M_X0_setWear.2.1 18 = .ok (.iastore, 1)) rfl),
   (fun lv l w => Ex_R (i := .return_) (n := 1) (by decide +kernel) rfl rfl rfl rfl rfl)⟩
set_option maxRecDepth 20000 in
theorem H_X0_ofColour_5 : ∀ (lv : Nat) (st : List Value) (t : LX) (o0 o1 o2 o3 : Option Value) (x : Int32) (w : AH), Ex M_X0_ofColour lv 5 (o0 :: o1 :: o2 :: o3 :: some (.int x) :: t) st w = Ex M_X0_ofColour lv 7 (o0 :: o1 :: o2 :: o3 :: some (.int x) :: t) (.int x :: st) w := fun lv st t o0 o1 o2 o3 x w => Ex_M (i := .iload 4) (n := 2) (by decide +kernel) rfl rfl rfl
set_option maxRecDepth 20000 in
set_option maxHeartbeats 4000000 in
theorem R_X0_ofColour : (∀ (lv : Nat) (l : LX) (st : List Value) (w : AH), Ex M_X0_ofColour lv 0 l st w = Ex M_X0_ofColour lv 1 l (.long 0 :: st) w)
  ∧ (∀ (lv : Nat) (l : LX) (st : List Value) (x : Int64) (w : AH), Ex M_X0_ofColour lv 1 l (.long x :: st) w = Ex M_X0_ofColour lv 2 (ls2 l 2 (.long x)) st w)
  ∧ (∀ (lv : Nat) (l : LX) (st : List Value) (w : AH), Ex M_X0_ofColour lv 2 l st w = Ex M_X0_ofColour lv 3 l (.int 0 :: st) w)
  ∧ (∀ (lv : Nat) (l : LX) (st : List Value) (x : Int32) (w : AH), Ex M_X0_ofColour lv 3 l (.int x :: st) w = Ex M_X0_ofColour lv 5 (ls1 l 4 (.int x)) st w)
  ∧ (∀ (lv : Nat) (l : LX) (st : List Value) (w : AH), Ex M_X0_ofColour lv 7 l st w = Ex M_X0_ofColour lv 9 l (.int 36 :: st) w)
  ∧ (∀ (lv : Nat) (l : LX) (st : List Value) (x y : Int32) (w : AH), Ex M_X0_ofColour lv 9 l (.int y :: .int x :: st) w = if y ≤ x then Ex M_X0_ofColour lv 36 l st w else Ex M_X0_ofColour lv 12 l st w)
  ∧ (∀ (lv : Nat) (st : List Value) (t : LX) (x : Nat) (w : AH), Ex M_X0_ofColour lv 12 (some (.ref x) :: t) st w = Ex M_X0_ofColour lv 13 (some (.ref x) :: t) (.ref x :: st) w)
  ∧ (∀ (lv : Nat) (st : List Value) (t : LX) (w : AH), Ex M_X0_ofColour lv 12 (some (.null) :: t) st w = Ex M_X0_ofColour lv 13 (some (.null) :: t) (.null :: st) w)
  ∧ (∀ (lv : Nat) (l : LX) (st : List Value) (a : Nat) (w : AH), Ex M_X0_ofColour lv 13 l (.ref a :: st) w = if (gf (hg w a) 0 0).isSome = true then Ex M_X0_ofColour lv 16 l (vV (gf (hg w a) 0 0) :: st) w else none)
  ∧ (∀ (lv : Nat) (st : List Value) (t : LX) (o0 o1 o2 o3 : Option Value) (x : Int32) (w : AH), Ex M_X0_ofColour lv 16 (o0 :: o1 :: o2 :: o3 :: some (.int x) :: t) st w = Ex M_X0_ofColour lv 18 (o0 :: o1 :: o2 :: o3 :: some (.int x) :: t) (.int x :: st) w)
  ∧ (∀ (lv : Nat) (l : LX) (st : List Value) (a : Nat) (i : Int32) (w : AH), Ex M_X0_ofColour lv 18 l (.int i :: .ref a :: st) w = if (aI (hg w a) i).isSome = true then Ex M_X0_ofColour lv 19 l (.int (vI (aI (hg w a) i)) :: st) w else none)
  ∧ (∀ (lv : Nat) (st : List Value) (t : LX) (o0 : Option Value) (x : Int32) (w : AH), Ex M_X0_ofColour lv 19 (o0 :: some (.int x) :: t) st w = Ex M_X0_ofColour lv 20 (o0 :: some (.int x) :: t) (.int x :: st) w)
  ∧ (∀ (lv : Nat) (l : LX) (st : List Value) (x y : Int32) (w : AH), Ex M_X0_ofColour lv 20 l (.int y :: .int x :: st) w = if ¬ x = y then Ex M_X0_ofColour lv 30 l st w else Ex M_X0_ofColour lv 23 l st w)
  ∧ (∀ (lv : Nat) (st : List Value) (t : LX) (o0 o1 : Option Value) (x : Int64) (w : AH), Ex M_X0_ofColour lv 23 (o0 :: o1 :: some (.long x) :: t) st w = Ex M_X0_ofColour lv 24 (o0 :: o1 :: some (.long x) :: t) (.long x :: st) w)
  ∧ (∀ (lv : Nat) (l : LX) (st : List Value) (w : AH), Ex M_X0_ofColour lv 24 l st w = Ex M_X0_ofColour lv 25 l (.long 1 :: st) w)
  ∧ (∀ (lv : Nat) (st : List Value) (t : LX) (o0 o1 o2 o3 : Option Value) (x : Int32) (w : AH), Ex M_X0_ofColour lv 25 (o0 :: o1 :: o2 :: o3 :: some (.int x) :: t) st w = Ex M_X0_ofColour lv 27 (o0 :: o1 :: o2 :: o3 :: some (.int x) :: t) (.int x :: st) w)
  ∧ (∀ (lv : Nat) (l : LX) (st : List Value) (x : Int64) (y : Int32) (w : AH), Ex M_X0_ofColour lv 27 l (.int y :: .long x :: st) w = Ex M_X0_ofColour lv 28 l (.long (x <<< (y.toInt64 &&& 63)) :: st) w)
  ∧ (∀ (lv : Nat) (l : LX) (st : List Value) (x y : Int64) (w : AH), Ex M_X0_ofColour lv 28 l (.long y :: .long x :: st) w = Ex M_X0_ofColour lv 29 l (.long (x ||| y) :: st) w)
  ∧ (∀ (lv : Nat) (l : LX) (st : List Value) (x : Int64) (w : AH), Ex M_X0_ofColour lv 29 l (.long x :: st) w = Ex M_X0_ofColour lv 30 (ls2 l 2 (.long x)) st w)
  ∧ (∀ (lv : Nat) (st : List Value) (t : LX) (o0 o1 o2 o3 : Option Value) (x : Int32) (w : AH), Ex M_X0_ofColour lv 30 (o0 :: o1 :: o2 :: o3 :: some (.int x) :: t) st w = Ex M_X0_ofColour lv 33 (ls1 (o0 :: o1 :: o2 :: o3 :: some (.int x) :: t) 4 (.int (x + 1))) st w)
  ∧ (∀ (lv : Nat) (l : LX) (st : List Value) (w : AH), Ex M_X0_ofColour lv 33 l st w = Ex M_X0_ofColour lv 5 l st w)
  ∧ (∀ (lv : Nat) (st : List Value) (t : LX) (o0 o1 : Option Value) (x : Int64) (w : AH), Ex M_X0_ofColour lv 36 (o0 :: o1 :: some (.long x) :: t) st w = Ex M_X0_ofColour lv 37 (o0 :: o1 :: some (.long x) :: t) (.long x :: st) w)
  ∧ (∀ (lv : Nat) (l : LX) (x : Int64) (w : AH), Ex M_X0_ofColour lv 37 l [.long x] w = some (some (.long x), w)) :=
  ⟨(fun lv l st w => Ex_A (i := .lconst 0) (n := 1) (by decide +kernel) rfl rfl),
   (fun lv l st x w => Ex_M (i := .lstore_n 2) (n := 1) (by decide +kernel) rfl rfl rfl),
   (fun lv l st w => Ex_A (i := .iconst 0) (n := 1) (by decide +kernel) rfl rfl),
   (fun lv l st x w => Ex_M (i := .istore 4) (n := 2) (by decide +kernel) rfl rfl rfl),
   (fun lv l st w => Ex_A (i := .bipush 36) (n := 2) (by decide +kernel) rfl rfl),
   (fun lv l st x y w => Ex_icmp_ge (by decide +kernel : decode M_X0_ofColour.2.1 9 = .ok (.if_icmp .ge 27, 3)) rfl rfl),
   (fun lv st t x w => Ex_M (i := .aload_n 0) (n := 1) (by decide +kernel) rfl rfl rfl),
   (fun lv st t w => Ex_M (i := .aload_n 0) (n := 1) (by decide +kernel) rfl rfl rfl),
   (fun lv l st a w => Ex_getf (by decide +kernel : decode M_X0_ofColour.2.1 13 = .ok (.getfield 9, 3)) rfl (by decide +kernel : resF (mCn M_X0_ofColour) 9 = some (0, 0, (.array .int), true))),
   (fun lv st t o0 o1 o2 o3 x w => Ex_M (i := .iload 4) (n := 2) (by decide +kernel) rfl rfl rfl),
   (fun lv l st a i w => Ex_ial (by decide +kernel : decode M_X0_ofColour.2.1 18 = .ok (.iaload, 1)) rfl),
   (fun lv st t o0 x w => Ex_M (i := .iload_n 1) (n := 1) (by decide +kernel) rfl rfl rfl),
   (fun lv l st x y w => Ex_icmp_ne (by decide +kernel : decode M_X0_ofColour.2.1 20 = .ok (.if_icmp .ne 10, 3)) rfl rfl),
   (fun lv st t o0 o1 x w => Ex_M (i := .lload_n 2) (n := 1) (by decide +kernel) rfl rfl rfl),
   (fun lv l st w => Ex_A (i := .lconst 1) (n := 1) (by decide +kernel) rfl rfl),
   (fun lv st t o0 o1 o2 o3 x w => Ex_M (i := .iload 4) (n := 2) (by decide +kernel) rfl rfl rfl),
   (fun lv l st x y w => Ex_A (i := .lshl) (n := 1) (by decide +kernel) rfl rfl),
   (fun lv l st x y w => Ex_A (i := .lor) (n := 1) (by decide +kernel) rfl rfl),
   (fun lv l st x w => Ex_M (i := .lstore_n 2) (n := 1) (by decide +kernel) rfl rfl rfl),
   (fun lv st t o0 o1 o2 o3 x w => Ex_iinc (by decide +kernel : decode M_X0_ofColour.2.1 30 = .ok (.iinc 4 1, 3)) rfl rfl (by decide) (by decide)),
   (fun lv l st w => Ex_goto (by decide +kernel : decode M_X0_ofColour.2.1 33 = .ok (.goto (-28), 3)) rfl),
   (fun lv st t o0 o1 x w => Ex_M (i := .lload_n 2) (n := 1) (by decide +kernel) rfl rfl rfl),
   (fun lv l x w => Ex_R (i := .lreturn) (n := 1) (by decide +kernel) rfl rfl rfl rfl rfl)⟩
set_option maxRecDepth 20000 in
set_option maxHeartbeats 4000000 in
theorem R_X0_countHoles : (∀ (lv : Nat) (st : List Value) (t : LX) (x : Nat) (w : AH), Ex M_X0_countHoles lv 0 (some (.ref x) :: t) st w = Ex M_X0_countHoles lv 1 (some (.ref x) :: t) (.ref x :: st) w)
  ∧ (∀ (lv : Nat) (st : List Value) (t : LX) (w : AH), Ex M_X0_countHoles lv 0 (some (.null) :: t) st w = Ex M_X0_countHoles lv 1 (some (.null) :: t) (.null :: st) w)
  ∧ (∀ (lv : Nat) (l : LX) (st : List Value) (w : AH), Ex M_X0_countHoles lv 1 l st w = Ex M_X0_countHoles lv 2 l (.int 0 :: st) w)
  ∧ (∀ (lv : Nat) (l : LX) (b : Nat) (a0 : Int32) (w : AH), Ex M_X0_countHoles lv 2 l (.int a0 :: .ref b :: []) w = if clK (hg w b) = 0 then (if (Call M_X0_ofColour 60 [.ref b, .int a0] w).isSome = true then Ex M_X0_countHoles lv 5 l (pushR (cV (Call M_X0_ofColour 60 [.ref b, .int a0] w)) []) (cW (Call M_X0_ofColour 60 [.ref b, .int a0] w) w) else none) else none)
  ∧ (∀ (lv : Nat) (l : LX) (a0 : Int64) (w : AH), Ex M_X0_countHoles lv 5 l (.long a0 :: []) w = if (Call M_J13_bitCount_95d88 60 [.long a0] w).isSome = true then Ex M_X0_countHoles lv 8 l (pushR (cV (Call M_J13_bitCount_95d88 60 [.long a0] w)) []) (cW (Call M_J13_bitCount_95d88 60 [.long a0] w) w) else none)
  ∧ (∀ (lv : Nat) (l : LX) (x : Int32) (w : AH), Ex M_X0_countHoles lv 8 l [.int x] w = some (some (.int x), w)) :=
  ⟨(fun lv st t x w => Ex_M (i := .aload_n 0) (n := 1) (by decide +kernel) rfl rfl rfl),
   (fun lv st t w => Ex_M (i := .aload_n 0) (n := 1) (by decide +kernel) rfl rfl rfl),
   (fun lv l st w => Ex_A (i := .iconst 0) (n := 1) (by decide +kernel) rfl rfl),
   (fun lv l b a0 w => Ex_callV (by decide +kernel : decode M_X0_countHoles.2.1 2 = .ok (.invokevirtual 34, 3)) rfl (by rfl : resM (mCn M_X0_countHoles) 34 = some (2, M_X0_ofColour)) rfl (by rfl) (Nat.le_of_ble_eq_true rfl) (by decide +kernel) (sLv_lt (by decide +kernel))),
   (fun lv l a0 w => Ex_callS (by decide +kernel : decode M_X0_countHoles.2.1 5 = .ok (.invokestatic 38, 3)) rfl (by rfl : resM (mCn M_X0_countHoles) 38 = some (0, M_J13_bitCount_95d88)) (by decide) rfl (by rfl) (Nat.le_of_ble_eq_true rfl) (sLv_lt (by decide +kernel))),
   (fun lv l x w => Ex_R (i := .ireturn) (n := 1) (by decide +kernel) rfl rfl rfl rfl rfl)⟩
set_option maxRecDepth 20000 in
theorem H_X0_wearOfAll_4 : ∀ (lv : Nat) (st : List Value) (t : LX) (o0 o1 : Option Value) (x : Int32) (w : AH), Ex M_X0_wearOfAll lv 4 (o0 :: o1 :: some (.int x) :: t) st w = Ex M_X0_wearOfAll lv 5 (o0 :: o1 :: some (.int x) :: t) (.int x :: st) w := fun lv st t o0 o1 x w => Ex_M (i := .iload_n 2) (n := 1) (by decide +kernel) rfl rfl rfl
set_option maxRecDepth 20000 in
set_option maxHeartbeats 4000000 in
theorem R_X0_wearOfAll : (∀ (lv : Nat) (l : LX) (st : List Value) (w : AH), Ex M_X0_wearOfAll lv 0 l st w = Ex M_X0_wearOfAll lv 1 l (.int 0 :: st) w)
  ∧ (∀ (lv : Nat) (l : LX) (st : List Value) (x : Int32) (w : AH), Ex M_X0_wearOfAll lv 1 l (.int x :: st) w = Ex M_X0_wearOfAll lv 2 (ls1 l 1 (.int x)) st w)
  ∧ (∀ (lv : Nat) (l : LX) (st : List Value) (w : AH), Ex M_X0_wearOfAll lv 2 l st w = Ex M_X0_wearOfAll lv 3 l (.int 0 :: st) w)
  ∧ (∀ (lv : Nat) (l : LX) (st : List Value) (x : Int32) (w : AH), Ex M_X0_wearOfAll lv 3 l (.int x :: st) w = Ex M_X0_wearOfAll lv 4 (ls1 l 2 (.int x)) st w)
  ∧ (∀ (lv : Nat) (l : LX) (st : List Value) (w : AH), Ex M_X0_wearOfAll lv 5 l st w = Ex M_X0_wearOfAll lv 7 l (.int 36 :: st) w)
  ∧ (∀ (lv : Nat) (l : LX) (st : List Value) (x y : Int32) (w : AH), Ex M_X0_wearOfAll lv 7 l (.int y :: .int x :: st) w = if y ≤ x then Ex M_X0_wearOfAll lv 25 l st w else Ex M_X0_wearOfAll lv 10 l st w)
  ∧ (∀ (lv : Nat) (st : List Value) (t : LX) (o0 : Option Value) (x : Int32) (w : AH), Ex M_X0_wearOfAll lv 10 (o0 :: some (.int x) :: t) st w = Ex M_X0_wearOfAll lv 11 (o0 :: some (.int x) :: t) (.int x :: st) w)
  ∧ (∀ (lv : Nat) (st : List Value) (t : LX) (x : Nat) (w : AH), Ex M_X0_wearOfAll lv 11 (some (.ref x) :: t) st w = Ex M_X0_wearOfAll lv 12 (some (.ref x) :: t) (.ref x :: st) w)
  ∧ (∀ (lv : Nat) (st : List Value) (t : LX) (w : AH), Ex M_X0_wearOfAll lv 11 (some (.null) :: t) st w = Ex M_X0_wearOfAll lv 12 (some (.null) :: t) (.null :: st) w)
  ∧ (∀ (lv : Nat) (l : LX) (st : List Value) (a : Nat) (w : AH), Ex M_X0_wearOfAll lv 12 l (.ref a :: st) w = if (gf (hg w a) 0 1).isSome = true then Ex M_X0_wearOfAll lv 15 l (vV (gf (hg w a) 0 1) :: st) w else none)
  ∧ (∀ (lv : Nat) (st : List Value) (t : LX) (o0 o1 : Option Value) (x : Int32) (w : AH), Ex M_X0_wearOfAll lv 15 (o0 :: o1 :: some (.int x) :: t) st w = Ex M_X0_wearOfAll lv 16 (o0 :: o1 :: some (.int x) :: t) (.int x :: st) w)
  ∧ (∀ (lv : Nat) (l : LX) (st : List Value) (a : Nat) (i : Int32) (w : AH), Ex M_X0_wearOfAll lv 16 l (.int i :: .ref a :: st) w = if (aI (hg w a) i).isSome = true then Ex M_X0_wearOfAll lv 17 l (.int (vI (aI (hg w a) i)) :: st) w else none)
  ∧ (∀ (lv : Nat) (l : LX) (st : List Value) (x y : Int32) (w : AH), Ex M_X0_wearOfAll lv 17 l (.int y :: .int x :: st) w = Ex M_X0_wearOfAll lv 18 l (.int (x + y) :: st) w)
  ∧ (∀ (lv : Nat) (l : LX) (st : List Value) (x : Int32) (w : AH), Ex M_X0_wearOfAll lv 18 l (.int x :: st) w = Ex M_X0_wearOfAll lv 19 (ls1 l 1 (.int x)) st w)
  ∧ (∀ (lv : Nat) (st : List Value) (t : LX) (o0 o1 : Option Value) (x : Int32) (w : AH), Ex M_X0_wearOfAll lv 19 (o0 :: o1 :: some (.int x) :: t) st w = Ex M_X0_wearOfAll lv 22 (ls1 (o0 :: o1 :: some (.int x) :: t) 2 (.int (x + 1))) st w)
  ∧ (∀ (lv : Nat) (l : LX) (st : List Value) (w : AH), Ex M_X0_wearOfAll lv 22 l st w = Ex M_X0_wearOfAll lv 4 l st w)
  ∧ (∀ (lv : Nat) (st : List Value) (t : LX) (o0 : Option Value) (x : Int32) (w : AH), Ex M_X0_wearOfAll lv 25 (o0 :: some (.int x) :: t) st w = Ex M_X0_wearOfAll lv 26 (o0 :: some (.int x) :: t) (.int x :: st) w)
  ∧ (∀ (lv : Nat) (l : LX) (x : Int32) (w : AH), Ex M_X0_wearOfAll lv 26 l [.int x] w = some (some (.int x), w)) :=
  ⟨(fun lv l st w => Ex_A (i := .iconst 0) (n := 1) (by decide +kernel) rfl rfl),
   (fun lv l st x w => Ex_M (i := .istore_n 1) (n := 1) (by decide +kernel) rfl rfl rfl),
   (fun lv l st w => Ex_A (i := .iconst 0) (n := 1) (by decide +kernel) rfl rfl),
   (fun lv l st x w => Ex_M (i := .istore_n 2) (n := 1) (by decide +kernel) rfl rfl rfl),
   (fun lv l st w => Ex_A (i := .bipush 36) (n := 2) (by decide +kernel) rfl rfl),
   (fun lv l st x y w => Ex_icmp_ge (by decide +kernel : decode M_X0_wearOfAll.2.1 7 = .ok (.if_icmp .ge 18, 3)) rfl rfl),
   (fun lv st t o0 x w => Ex_M (i := .iload_n 1) (n := 1) (by decide +kernel) rfl rfl rfl),
   (fun lv st t x w => Ex_M (i := .aload_n 0) (n := 1) (by decide +kernel) rfl rfl rfl),
   (fun lv st t w => Ex_M (i := .aload_n 0) (n := 1) (by decide +kernel) rfl rfl rfl),
   (fun lv l st a w => Ex_getf (by decide +kernel : decode M_X0_wearOfAll.2.1 12 = .ok (.getfield 15, 3)) rfl (by decide +kernel : resF (mCn M_X0_wearOfAll) 15 = some (0, 1, (.array .int), true))),
   (fun lv st t o0 o1 x w => Ex_M (i := .iload_n 2) (n := 1) (by decide +kernel) rfl rfl rfl),
   (fun lv l st a i w => Ex_ial (by decide +kernel : decode M_X0_wearOfAll.2.1 16 = .ok (.iaload, 1)) rfl),
   (fun lv l st x y w => Ex_A (i := .iadd) (n := 1) (by decide +kernel) rfl rfl),
   (fun lv l st x w => Ex_M (i := .istore_n 1) (n := 1) (by decide +kernel) rfl rfl rfl),
   (fun lv st t o0 o1 x w => Ex_iinc (by decide +kernel : decode M_X0_wearOfAll.2.1 19 = .ok (.iinc 2 1, 3)) rfl rfl (by decide) (by decide)),
   (fun lv l st w => Ex_goto (by decide +kernel : decode M_X0_wearOfAll.2.1 22 = .ok (.goto (-18), 3)) rfl),
   (fun lv st t o0 x w => Ex_M (i := .iload_n 1) (n := 1) (by decide +kernel) rfl rfl rfl),
   (fun lv l x w => Ex_R (i := .ireturn) (n := 1) (by decide +kernel) rfl rfl rfl rfl rfl)⟩
set_option maxRecDepth 20000 in
set_option maxHeartbeats 4000000 in
theorem R_X0_landOf : (∀ (lv : Nat) (st : List Value) (t : LX) (o0 : Option Value) (x : Int32) (w : AH), Ex M_X0_landOf lv 0 (o0 :: some (.int x) :: t) st w = Ex M_X0_landOf lv 1 (o0 :: some (.int x) :: t) (.int x :: st) w)
  ∧ (∀ (lv : Nat) (l : LX) (a0 : Int32) (w : AH), Ex M_X0_landOf lv 1 l (.int a0 :: []) w = if (Call M_X7_of 60 [.int a0] w).isSome = true then Ex M_X0_landOf lv 4 l (pushR (cV (Call M_X7_of 60 [.int a0] w)) []) (cW (Call M_X7_of 60 [.int a0] w) w) else none)
  ∧ (∀ (lv : Nat) (st : List Value) (t : LX) (x : Nat) (w : AH), Ex M_X0_landOf lv 4 (some (.ref x) :: t) st w = Ex M_X0_landOf lv 5 (some (.ref x) :: t) (.ref x :: st) w)
  ∧ (∀ (lv : Nat) (st : List Value) (t : LX) (w : AH), Ex M_X0_landOf lv 4 (some (.null) :: t) st w = Ex M_X0_landOf lv 5 (some (.null) :: t) (.null :: st) w)
  ∧ (∀ (lv : Nat) (st : List Value) (t : LX) (x : Nat) (w : AH), Ex M_X0_landOf lv 5 (some (.ref x) :: t) st w = Ex M_X0_landOf lv 6 (some (.ref x) :: t) (.ref x :: st) w)
  ∧ (∀ (lv : Nat) (st : List Value) (t : LX) (w : AH), Ex M_X0_landOf lv 5 (some (.null) :: t) st w = Ex M_X0_landOf lv 6 (some (.null) :: t) (.null :: st) w)
  ∧ (∀ (lv : Nat) (st : List Value) (t : LX) (o0 : Option Value) (x : Int32) (w : AH), Ex M_X0_landOf lv 6 (o0 :: some (.int x) :: t) st w = Ex M_X0_landOf lv 7 (o0 :: some (.int x) :: t) (.int x :: st) w)
  ∧ (∀ (lv : Nat) (l : LX) (b : Nat) (a0 : Int32) (s0 : Nat) (s1 : Int64) (w : AH), Ex M_X0_landOf lv 7 l (.int a0 :: .ref b :: [.ref s0, .long s1]) w = if clK (hg w b) = 0 then (if (Call M_X0_colourOf 60 [.ref b, .int a0] w).isSome = true then Ex M_X0_landOf lv 10 l (pushR (cV (Call M_X0_colourOf 60 [.ref b, .int a0] w)) [.ref s0, .long s1]) (cW (Call M_X0_colourOf 60 [.ref b, .int a0] w) w) else none) else none)
  ∧ (∀ (lv : Nat) (l : LX) (b : Nat) (a0 : Int32) (s0 : Int64) (w : AH), Ex M_X0_landOf lv 10 l (.int a0 :: .ref b :: [.long s0]) w = if clK (hg w b) = 0 then (if (Call M_X0_ofColour 60 [.ref b, .int a0] w).isSome = true then Ex M_X0_landOf lv 13 l (pushR (cV (Call M_X0_ofColour 60 [.ref b, .int a0] w)) [.long s0]) (cW (Call M_X0_ofColour 60 [.ref b, .int a0] w) w) else none) else none)
  ∧ (∀ (lv : Nat) (l : LX) (a0 : Int64) (a1 : Int64) (w : AH), Ex M_X0_landOf lv 13 l (.long a1 :: .long a0 :: []) w = if (Call M_X7_grown 60 [.long a0, .long a1] w).isSome = true then Ex M_X0_landOf lv 16 l (pushR (cV (Call M_X7_grown 60 [.long a0, .long a1] w)) []) (cW (Call M_X7_grown 60 [.long a0, .long a1] w) w) else none)
  ∧ (∀ (lv : Nat) (l : LX) (x : Int64) (w : AH), Ex M_X0_landOf lv 16 l [.long x] w = some (some (.long x), w)) :=
  ⟨(fun lv st t o0 x w => Ex_M (i := .iload_n 1) (n := 1) (by decide +kernel) rfl rfl rfl),
   (fun lv l a0 w => Ex_callS (by decide +kernel : decode M_X0_landOf.2.1 1 = .ok (.invokestatic 44, 3)) rfl (by rfl : resM (mCn M_X0_landOf) 44 = some (0, M_X7_of)) (by decide) rfl (by rfl) (Nat.le_of_ble_eq_true rfl) (sLv_lt (by decide +kernel))),
   (fun lv st t x w => Ex_M (i := .aload_n 0) (n := 1) (by decide +kernel) rfl rfl rfl),
   (fun lv st t w => Ex_M (i := .aload_n 0) (n := 1) (by decide +kernel) rfl rfl rfl),
   (fun lv st t x w => Ex_M (i := .aload_n 0) (n := 1) (by decide +kernel) rfl rfl rfl),
   (fun lv st t w => Ex_M (i := .aload_n 0) (n := 1) (by decide +kernel) rfl rfl rfl),
   (fun lv st t o0 x w => Ex_M (i := .iload_n 1) (n := 1) (by decide +kernel) rfl rfl rfl),
   (fun lv l b a0 s0 s1 w => Ex_callV (by decide +kernel : decode M_X0_landOf.2.1 7 = .ok (.invokevirtual 49, 3)) rfl (by rfl : resM (mCn M_X0_landOf) 49 = some (2, M_X0_colourOf)) rfl (by rfl) (Nat.le_of_ble_eq_true rfl) (by decide +kernel) (sLv_lt (by decide +kernel))),
   (fun lv l b a0 s0 w => Ex_callV (by decide +kernel : decode M_X0_landOf.2.1 10 = .ok (.invokevirtual 34, 3)) rfl (by rfl : resM (mCn M_X0_landOf) 34 = some (2, M_X0_ofColour)) rfl (by rfl) (Nat.le_of_ble_eq_true rfl) (by decide +kernel) (sLv_lt (by decide +kernel))),
   (fun lv l a0 a1 w => Ex_callS (by decide +kernel : decode M_X0_landOf.2.1 13 = .ok (.invokestatic 53, 3)) rfl (by rfl : resM (mCn M_X0_landOf) 53 = some (0, M_X7_grown)) (by decide) rfl (by rfl) (Nat.le_of_ble_eq_true rfl) (sLv_lt (by decide +kernel))),
   (fun lv l x w => Ex_R (i := .lreturn) (n := 1) (by decide +kernel) rfl rfl rfl rfl rfl)⟩
set_option maxRecDepth 20000 in
theorem H_X0_countLands_12 : ∀ (lv : Nat) (st : List Value) (t : LX) (o0 o1 o2 o3 o4 : Option Value) (x : Int32) (w : AH), Ex M_X0_countLands lv 12 (o0 :: o1 :: o2 :: o3 :: o4 :: some (.int x) :: t) st w = Ex M_X0_countLands lv 14 (o0 :: o1 :: o2 :: o3 :: o4 :: some (.int x) :: t) (.int x :: st) w := fun lv st t o0 o1 o2 o3 o4 x w => Ex_M (i := .iload 5) (n := 2) (by decide +kernel) rfl rfl rfl
set_option maxRecDepth 20000 in
set_option maxHeartbeats 4000000 in
theorem R_X0_countLands : (∀ (lv : Nat) (st : List Value) (t : LX) (x : Nat) (w : AH), Ex M_X0_countLands lv 0 (some (.ref x) :: t) st w = Ex M_X0_countLands lv 1 (some (.ref x) :: t) (.ref x :: st) w)
  ∧ (∀ (lv : Nat) (st : List Value) (t : LX) (w : AH), Ex M_X0_countLands lv 0 (some (.null) :: t) st w = Ex M_X0_countLands lv 1 (some (.null) :: t) (.null :: st) w)
  ∧ (∀ (lv : Nat) (st : List Value) (t : LX) (o0 : Option Value) (x : Int32) (w : AH), Ex M_X0_countLands lv 1 (o0 :: some (.int x) :: t) st w = Ex M_X0_countLands lv 2 (o0 :: some (.int x) :: t) (.int x :: st) w)
  ∧ (∀ (lv : Nat) (l : LX) (b : Nat) (a0 : Int32) (w : AH), Ex M_X0_countLands lv 2 l (.int a0 :: .ref b :: []) w = if clK (hg w b) = 0 then (if (Call M_X0_ofColour 60 [.ref b, .int a0] w).isSome = true then Ex M_X0_countLands lv 5 l (pushR (cV (Call M_X0_ofColour 60 [.ref b, .int a0] w)) []) (cW (Call M_X0_ofColour 60 [.ref b, .int a0] w) w) else none) else none)
  ∧ (∀ (lv : Nat) (l : LX) (st : List Value) (x : Int64) (w : AH), Ex M_X0_countLands lv 5 l (.long x :: st) w = Ex M_X0_countLands lv 6 (ls2 l 2 (.long x)) st w)
  ∧ (∀ (lv : Nat) (l : LX) (st : List Value) (w : AH), Ex M_X0_countLands lv 6 l st w = Ex M_X0_countLands lv 7 l (.int 0 :: st) w)
  ∧ (∀ (lv : Nat) (l : LX) (st : List Value) (x : Int32) (w : AH), Ex M_X0_countLands lv 7 l (.int x :: st) w = Ex M_X0_countLands lv 9 (ls1 l 4 (.int x)) st w)
  ∧ (∀ (lv : Nat) (l : LX) (st : List Value) (w : AH), Ex M_X0_countLands lv 9 l st w = Ex M_X0_countLands lv 10 l (.int 0 :: st) w)
  ∧ (∀ (lv : Nat) (l : LX) (st : List Value) (x : Int32) (w : AH), Ex M_X0_countLands lv 10 l (.int x :: st) w = Ex M_X0_countLands lv 12 (ls1 l 5 (.int x)) st w)
  ∧ (∀ (lv : Nat) (l : LX) (st : List Value) (w : AH), Ex M_X0_countLands lv 14 l st w = Ex M_X0_countLands lv 16 l (.int 36 :: st) w)
  ∧ (∀ (lv : Nat) (l : LX) (st : List Value) (x y : Int32) (w : AH), Ex M_X0_countLands lv 16 l (.int y :: .int x :: st) w = if y ≤ x then Ex M_X0_countLands lv 49 l st w else Ex M_X0_countLands lv 19 l st w)
  ∧ (∀ (lv : Nat) (st : List Value) (t : LX) (o0 o1 : Option Value) (x : Int64) (w : AH), Ex M_X0_countLands lv 19 (o0 :: o1 :: some (.long x) :: t) st w = Ex M_X0_countLands lv 20 (o0 :: o1 :: some (.long x) :: t) (.long x :: st) w)
  ∧ (∀ (lv : Nat) (l : LX) (st : List Value) (w : AH), Ex M_X0_countLands lv 20 l st w = Ex M_X0_countLands lv 21 l (.long 0 :: st) w)
  ∧ (∀ (lv : Nat) (l : LX) (st : List Value) (x y : Int64) (w : AH), Ex M_X0_countLands lv 21 l (.long y :: .long x :: st) w = Ex M_X0_countLands lv 22 l (.int (lg_cmp x y) :: st) w)
  ∧ (∀ (lv : Nat) (l : LX) (st : List Value) (x : Int32) (w : AH), Ex M_X0_countLands lv 22 l (.int x :: st) w = if x = 0 then Ex M_X0_countLands lv 49 l st w else Ex M_X0_countLands lv 25 l st w)
  ∧ (∀ (lv : Nat) (st : List Value) (t : LX) (o0 o1 : Option Value) (x : Int64) (w : AH), Ex M_X0_countLands lv 25 (o0 :: o1 :: some (.long x) :: t) st w = Ex M_X0_countLands lv 26 (o0 :: o1 :: some (.long x) :: t) (.long x :: st) w)
  ∧ (∀ (lv : Nat) (st : List Value) (t : LX) (o0 o1 : Option Value) (x : Int64) (w : AH), Ex M_X0_countLands lv 26 (o0 :: o1 :: some (.long x) :: t) st w = Ex M_X0_countLands lv 27 (o0 :: o1 :: some (.long x) :: t) (.long x :: st) w)
  ∧ (∀ (lv : Nat) (st : List Value) (t : LX) (o0 o1 : Option Value) (x : Int64) (w : AH), Ex M_X0_countLands lv 27 (o0 :: o1 :: some (.long x) :: t) st w = Ex M_X0_countLands lv 28 (o0 :: o1 :: some (.long x) :: t) (.long x :: st) w)
  ∧ (∀ (lv : Nat) (l : LX) (st : List Value) (x : Int64) (w : AH), Ex M_X0_countLands lv 28 l (.long x :: st) w = Ex M_X0_countLands lv 29 l (.long (-x) :: st) w)
  ∧ (∀ (lv : Nat) (l : LX) (st : List Value) (x y : Int64) (w : AH), Ex M_X0_countLands lv 29 l (.long y :: .long x :: st) w = Ex M_X0_countLands lv 30 l (.long (x &&& y) :: st) w)
  ∧ (∀ (lv : Nat) (st : List Value) (t : LX) (o0 o1 : Option Value) (x : Int64) (w : AH), Ex M_X0_countLands lv 30 (o0 :: o1 :: some (.long x) :: t) st w = Ex M_X0_countLands lv 31 (o0 :: o1 :: some (.long x) :: t) (.long x :: st) w)
  ∧ (∀ (lv : Nat) (l : LX) (a0 : Int64) (a1 : Int64) (s0 : Int64) (w : AH), Ex M_X0_countLands lv 31 l (.long a1 :: .long a0 :: [.long s0]) w = if (Call M_X7_grown 60 [.long a0, .long a1] w).isSome = true then Ex M_X0_countLands lv 34 l (pushR (cV (Call M_X7_grown 60 [.long a0, .long a1] w)) [.long s0]) (cW (Call M_X7_grown 60 [.long a0, .long a1] w) w) else none)
  ∧ (∀ (lv : Nat) (l : LX) (st : List Value) (w : AH), Ex M_X0_countLands lv 34 l st w = Ex M_X0_countLands lv 37 l (.long (-1) :: st) w)
  ∧ (∀ (lv : Nat) (l : LX) (st : List Value) (x y : Int64) (w : AH), Ex M_X0_countLands lv 37 l (.long y :: .long x :: st) w = Ex M_X0_countLands lv 38 l (.long (x ^^^ y) :: st) w)
  ∧ (∀ (lv : Nat) (l : LX) (st : List Value) (x y : Int64) (w : AH), Ex M_X0_countLands lv 38 l (.long y :: .long x :: st) w = Ex M_X0_countLands lv 39 l (.long (x &&& y) :: st) w)
  ∧ (∀ (lv : Nat) (l : LX) (st : List Value) (x : Int64) (w : AH), Ex M_X0_countLands lv 39 l (.long x :: st) w = Ex M_X0_countLands lv 40 (ls2 l 2 (.long x)) st w)
  ∧ (∀ (lv : Nat) (st : List Value) (t : LX) (o0 o1 o2 o3 : Option Value) (x : Int32) (w : AH), Ex M_X0_countLands lv 40 (o0 :: o1 :: o2 :: o3 :: some (.int x) :: t) st w = Ex M_X0_countLands lv 43 (ls1 (o0 :: o1 :: o2 :: o3 :: some (.int x) :: t) 4 (.int (x + 1))) st w)
  ∧ (∀ (lv : Nat) (st : List Value) (t : LX) (o0 o1 o2 o3 o4 : Option Value) (x : Int32) (w : AH), Ex M_X0_countLands lv 43 (o0 :: o1 :: o2 :: o3 :: o4 :: some (.int x) :: t) st w = Ex M_X0_countLands lv 46 (ls1 (o0 :: o1 :: o2 :: o3 :: o4 :: some (.int x) :: t) 5 (.int (x + 1))) st w)
  ∧ (∀ (lv : Nat) (l : LX) (st : List Value) (w : AH), Ex M_X0_countLands lv 46 l st w = Ex M_X0_countLands lv 12 l st w)
  ∧ (∀ (lv : Nat) (st : List Value) (t : LX) (o0 o1 o2 o3 : Option Value) (x : Int32) (w : AH), Ex M_X0_countLands lv 49 (o0 :: o1 :: o2 :: o3 :: some (.int x) :: t) st w = Ex M_X0_countLands lv 51 (o0 :: o1 :: o2 :: o3 :: some (.int x) :: t) (.int x :: st) w)
  ∧ (∀ (lv : Nat) (l : LX) (x : Int32) (w : AH), Ex M_X0_countLands lv 51 l [.int x] w = some (some (.int x), w)) :=
  ⟨(fun lv st t x w => Ex_M (i := .aload_n 0) (n := 1) (by decide +kernel) rfl rfl rfl),
   (fun lv st t w => Ex_M (i := .aload_n 0) (n := 1) (by decide +kernel) rfl rfl rfl),
   (fun lv st t o0 x w => Ex_M (i := .iload_n 1) (n := 1) (by decide +kernel) rfl rfl rfl),
   (fun lv l b a0 w => Ex_callV (by decide +kernel : decode M_X0_countLands.2.1 2 = .ok (.invokevirtual 34, 3)) rfl (by rfl : resM (mCn M_X0_countLands) 34 = some (2, M_X0_ofColour)) rfl (by rfl) (Nat.le_of_ble_eq_true rfl) (by decide +kernel) (sLv_lt (by decide +kernel))),
   (fun lv l st x w => Ex_M (i := .lstore_n 2) (n := 1) (by decide +kernel) rfl rfl rfl),
   (fun lv l st w => Ex_A (i := .iconst 0) (n := 1) (by decide +kernel) rfl rfl),
   (fun lv l st x w => Ex_M (i := .istore 4) (n := 2) (by decide +kernel) rfl rfl rfl),
   (fun lv l st w => Ex_A (i := .iconst 0) (n := 1) (by decide +kernel) rfl rfl),
   (fun lv l st x w => Ex_M (i := .istore 5) (n := 2) (by decide +kernel) rfl rfl rfl),
   (fun lv l st w => Ex_A (i := .bipush 36) (n := 2) (by decide +kernel) rfl rfl),
   (fun lv l st x y w => Ex_icmp_ge (by decide +kernel : decode M_X0_countLands.2.1 16 = .ok (.if_icmp .ge 33, 3)) rfl rfl),
   (fun lv st t o0 o1 x w => Ex_M (i := .lload_n 2) (n := 1) (by decide +kernel) rfl rfl rfl),
   (fun lv l st w => Ex_A (i := .lconst 0) (n := 1) (by decide +kernel) rfl rfl),
   (fun lv l st x y w => Ex_A (i := .lcmp) (n := 1) (by decide +kernel) rfl rfl),
   (fun lv l st x w => Ex_if_eq (by decide +kernel : decode M_X0_countLands.2.1 22 = .ok (.ifCond .eq 27, 3)) rfl rfl),
   (fun lv st t o0 o1 x w => Ex_M (i := .lload_n 2) (n := 1) (by decide +kernel) rfl rfl rfl),
   (fun lv st t o0 o1 x w => Ex_M (i := .lload_n 2) (n := 1) (by decide +kernel) rfl rfl rfl),
   (fun lv st t o0 o1 x w => Ex_M (i := .lload_n 2) (n := 1) (by decide +kernel) rfl rfl rfl),
   (fun lv l st x w => Ex_A (i := .lneg) (n := 1) (by decide +kernel) rfl rfl),
   (fun lv l st x y w => Ex_A (i := .land) (n := 1) (by decide +kernel) rfl rfl),
   (fun lv st t o0 o1 x w => Ex_M (i := .lload_n 2) (n := 1) (by decide +kernel) rfl rfl rfl),
   (fun lv l a0 a1 s0 w => Ex_callS (by decide +kernel : decode M_X0_countLands.2.1 31 = .ok (.invokestatic 53, 3)) rfl (by rfl : resM (mCn M_X0_countLands) 53 = some (0, M_X7_grown)) (by decide) rfl (by rfl) (Nat.le_of_ble_eq_true rfl) (sLv_lt (by decide +kernel))),
   (fun lv l st w => Ex_ldc2 (by decide +kernel : decode M_X0_countLands.2.1 34 = .ok (.ldc2_w 57, 3)) rfl (by decide +kernel)),
   (fun lv l st x y w => Ex_A (i := .lxor) (n := 1) (by decide +kernel) rfl rfl),
   (fun lv l st x y w => Ex_A (i := .land) (n := 1) (by decide +kernel) rfl rfl),
   (fun lv l st x w => Ex_M (i := .lstore_n 2) (n := 1) (by decide +kernel) rfl rfl rfl),
   (fun lv st t o0 o1 o2 o3 x w => Ex_iinc (by decide +kernel : decode M_X0_countLands.2.1 40 = .ok (.iinc 4 1, 3)) rfl rfl (by decide) (by decide)),
   (fun lv st t o0 o1 o2 o3 o4 x w => Ex_iinc (by decide +kernel : decode M_X0_countLands.2.1 43 = .ok (.iinc 5 1, 3)) rfl rfl (by decide) (by decide)),
   (fun lv l st w => Ex_goto (by decide +kernel : decode M_X0_countLands.2.1 46 = .ok (.goto (-34), 3)) rfl),
   (fun lv st t o0 o1 o2 o3 x w => Ex_M (i := .iload 4) (n := 2) (by decide +kernel) rfl rfl rfl),
   (fun lv l x w => Ex_R (i := .ireturn) (n := 1) (by decide +kernel) rfl rfl rfl rfl rfl)⟩
set_option maxRecDepth 20000 in
theorem H_X0_greatestLand_11 : ∀ (lv : Nat) (st : List Value) (t : LX) (o0 o1 o2 o3 o4 : Option Value) (x : Int32) (w : AH), Ex M_X0_greatestLand lv 11 (o0 :: o1 :: o2 :: o3 :: o4 :: some (.int x) :: t) st w = Ex M_X0_greatestLand lv 13 (o0 :: o1 :: o2 :: o3 :: o4 :: some (.int x) :: t) (.int x :: st) w := fun lv st t o0 o1 o2 o3 o4 x w => Ex_M (i := .iload 5) (n := 2) (by decide +kernel) rfl rfl rfl
set_option maxRecDepth 20000 in
set_option maxHeartbeats 4000000 in
theorem R_X0_greatestLand : (∀ (lv : Nat) (l : LX) (st : List Value) (w : AH), Ex M_X0_greatestLand lv 0 l st w = Ex M_X0_greatestLand lv 1 l (.long 0 :: st) w)
  ∧ (∀ (lv : Nat) (l : LX) (st : List Value) (x : Int64) (w : AH), Ex M_X0_greatestLand lv 1 l (.long x :: st) w = Ex M_X0_greatestLand lv 2 (ls2 l 1 (.long x)) st w)
  ∧ (∀ (lv : Nat) (st : List Value) (t : LX) (x : Nat) (w : AH), Ex M_X0_greatestLand lv 2 (some (.ref x) :: t) st w = Ex M_X0_greatestLand lv 3 (some (.ref x) :: t) (.ref x :: st) w)
  ∧ (∀ (lv : Nat) (st : List Value) (t : LX) (w : AH), Ex M_X0_greatestLand lv 2 (some (.null) :: t) st w = Ex M_X0_greatestLand lv 3 (some (.null) :: t) (.null :: st) w)
  ∧ (∀ (lv : Nat) (l : LX) (st : List Value) (w : AH), Ex M_X0_greatestLand lv 3 l st w = Ex M_X0_greatestLand lv 4 l (.int 0 :: st) w)
  ∧ (∀ (lv : Nat) (l : LX) (b : Nat) (a0 : Int32) (w : AH), Ex M_X0_greatestLand lv 4 l (.int a0 :: .ref b :: []) w = if clK (hg w b) = 0 then (if (Call M_X0_ofColour 60 [.ref b, .int a0] w).isSome = true then Ex M_X0_greatestLand lv 7 l (pushR (cV (Call M_X0_ofColour 60 [.ref b, .int a0] w)) []) (cW (Call M_X0_ofColour 60 [.ref b, .int a0] w) w) else none) else none)
  ∧ (∀ (lv : Nat) (l : LX) (st : List Value) (x : Int64) (w : AH), Ex M_X0_greatestLand lv 7 l (.long x :: st) w = Ex M_X0_greatestLand lv 8 (ls2 l 3 (.long x)) st w)
  ∧ (∀ (lv : Nat) (l : LX) (st : List Value) (w : AH), Ex M_X0_greatestLand lv 8 l st w = Ex M_X0_greatestLand lv 9 l (.int 0 :: st) w)
  ∧ (∀ (lv : Nat) (l : LX) (st : List Value) (x : Int32) (w : AH), Ex M_X0_greatestLand lv 9 l (.int x :: st) w = Ex M_X0_greatestLand lv 11 (ls1 l 5 (.int x)) st w)
  ∧ (∀ (lv : Nat) (l : LX) (st : List Value) (w : AH), Ex M_X0_greatestLand lv 13 l st w = Ex M_X0_greatestLand lv 15 l (.int 36 :: st) w)
  ∧ (∀ (lv : Nat) (l : LX) (st : List Value) (x y : Int32) (w : AH), Ex M_X0_greatestLand lv 15 l (.int y :: .int x :: st) w = if y ≤ x then Ex M_X0_greatestLand lv 64 l st w else Ex M_X0_greatestLand lv 18 l st w)
  ∧ (∀ (lv : Nat) (st : List Value) (t : LX) (o0 o1 o2 : Option Value) (x : Int64) (w : AH), Ex M_X0_greatestLand lv 18 (o0 :: o1 :: o2 :: some (.long x) :: t) st w = Ex M_X0_greatestLand lv 19 (o0 :: o1 :: o2 :: some (.long x) :: t) (.long x :: st) w)
  ∧ (∀ (lv : Nat) (st : List Value) (t : LX) (o0 o1 o2 o3 o4 : Option Value) (x : Int32) (w : AH), Ex M_X0_greatestLand lv 19 (o0 :: o1 :: o2 :: o3 :: o4 :: some (.int x) :: t) st w = Ex M_X0_greatestLand lv 21 (o0 :: o1 :: o2 :: o3 :: o4 :: some (.int x) :: t) (.int x :: st) w)
  ∧ (∀ (lv : Nat) (l : LX) (a0 : Int64) (a1 : Int32) (w : AH), Ex M_X0_greatestLand lv 21 l (.int a1 :: .long a0 :: []) w = if (Call M_X7_has 60 [.long a0, .int a1] w).isSome = true then Ex M_X0_greatestLand lv 24 l (pushR (cV (Call M_X7_has 60 [.long a0, .int a1] w)) []) (cW (Call M_X7_has 60 [.long a0, .int a1] w) w) else none)
  ∧ (∀ (lv : Nat) (l : LX) (st : List Value) (x : Int32) (w : AH), Ex M_X0_greatestLand lv 24 l (.int x :: st) w = if x = 0 then Ex M_X0_greatestLand lv 30 l st w else Ex M_X0_greatestLand lv 27 l st w)
  ∧ (∀ (lv : Nat) (l : LX) (st : List Value) (w : AH), Ex M_X0_greatestLand lv 27 l st w = Ex M_X0_greatestLand lv 58 l st w)
  ∧ (∀ (lv : Nat) (st : List Value) (t : LX) (x : Nat) (w : AH), Ex M_X0_greatestLand lv 30 (some (.ref x) :: t) st w = Ex M_X0_greatestLand lv 31 (some (.ref x) :: t) (.ref x :: st) w)
  ∧ (∀ (lv : Nat) (st : List Value) (t : LX) (w : AH), Ex M_X0_greatestLand lv 30 (some (.null) :: t) st w = Ex M_X0_greatestLand lv 31 (some (.null) :: t) (.null :: st) w)
  ∧ (∀ (lv : Nat) (st : List Value) (t : LX) (o0 o1 o2 o3 o4 : Option Value) (x : Int32) (w : AH), Ex M_X0_greatestLand lv 31 (o0 :: o1 :: o2 :: o3 :: o4 :: some (.int x) :: t) st w = Ex M_X0_greatestLand lv 33 (o0 :: o1 :: o2 :: o3 :: o4 :: some (.int x) :: t) (.int x :: st) w)
  ∧ (∀ (lv : Nat) (l : LX) (b : Nat) (a0 : Int32) (w : AH), Ex M_X0_greatestLand lv 33 l (.int a0 :: .ref b :: []) w = if clK (hg w b) = 0 then (if (Call M_X0_landOf 60 [.ref b, .int a0] w).isSome = true then Ex M_X0_greatestLand lv 36 l (pushR (cV (Call M_X0_landOf 60 [.ref b, .int a0] w)) []) (cW (Call M_X0_landOf 60 [.ref b, .int a0] w) w) else none) else none)
  ∧ (∀ (lv : Nat) (l : LX) (st : List Value) (x : Int64) (w : AH), Ex M_X0_greatestLand lv 36 l (.long x :: st) w = Ex M_X0_greatestLand lv 38 (ls2 l 6 (.long x)) st w)
  ∧ (∀ (lv : Nat) (st : List Value) (t : LX) (o0 o1 o2 : Option Value) (x : Int64) (w : AH), Ex M_X0_greatestLand lv 38 (o0 :: o1 :: o2 :: some (.long x) :: t) st w = Ex M_X0_greatestLand lv 39 (o0 :: o1 :: o2 :: some (.long x) :: t) (.long x :: st) w)
  ∧ (∀ (lv : Nat) (st : List Value) (t : LX) (o0 o1 o2 o3 o4 o5 : Option Value) (x : Int64) (w : AH), Ex M_X0_greatestLand lv 39 (o0 :: o1 :: o2 :: o3 :: o4 :: o5 :: some (.long x) :: t) st w = Ex M_X0_greatestLand lv 41 (o0 :: o1 :: o2 :: o3 :: o4 :: o5 :: some (.long x) :: t) (.long x :: st) w)
  ∧ (∀ (lv : Nat) (l : LX) (st : List Value) (x y : Int64) (w : AH), Ex M_X0_greatestLand lv 41 l (.long y :: .long x :: st) w = Ex M_X0_greatestLand lv 42 l (.long (x ||| y) :: st) w)
  ∧ (∀ (lv : Nat) (l : LX) (st : List Value) (x : Int64) (w : AH), Ex M_X0_greatestLand lv 42 l (.long x :: st) w = Ex M_X0_greatestLand lv 43 (ls2 l 3 (.long x)) st w)
  ∧ (∀ (lv : Nat) (st : List Value) (t : LX) (o0 o1 o2 o3 o4 o5 : Option Value) (x : Int64) (w : AH), Ex M_X0_greatestLand lv 43 (o0 :: o1 :: o2 :: o3 :: o4 :: o5 :: some (.long x) :: t) st w = Ex M_X0_greatestLand lv 45 (o0 :: o1 :: o2 :: o3 :: o4 :: o5 :: some (.long x) :: t) (.long x :: st) w)
  ∧ (∀ (lv : Nat) (l : LX) (a0 : Int64) (w : AH), Ex M_X0_greatestLand lv 45 l (.long a0 :: []) w = if (Call M_J13_bitCount_95d88 60 [.long a0] w).isSome = true then Ex M_X0_greatestLand lv 48 l (pushR (cV (Call M_J13_bitCount_95d88 60 [.long a0] w)) []) (cW (Call M_J13_bitCount_95d88 60 [.long a0] w) w) else none)
  ∧ (∀ (lv : Nat) (st : List Value) (t : LX) (o0 : Option Value) (x : Int64) (w : AH), Ex M_X0_greatestLand lv 48 (o0 :: some (.long x) :: t) st w = Ex M_X0_greatestLand lv 49 (o0 :: some (.long x) :: t) (.long x :: st) w)
  ∧ (∀ (lv : Nat) (l : LX) (a0 : Int64) (s0 : Int32) (w : AH), Ex M_X0_greatestLand lv 49 l (.long a0 :: [.int s0]) w = if (Call M_J13_bitCount_95d88 60 [.long a0] w).isSome = true then Ex M_X0_greatestLand lv 52 l (pushR (cV (Call M_J13_bitCount_95d88 60 [.long a0] w)) [.int s0]) (cW (Call M_J13_bitCount_95d88 60 [.long a0] w) w) else none)
  ∧ (∀ (lv : Nat) (l : LX) (st : List Value) (x y : Int32) (w : AH), Ex M_X0_greatestLand lv 52 l (.int y :: .int x :: st) w = if x ≤ y then Ex M_X0_greatestLand lv 58 l st w else Ex M_X0_greatestLand lv 55 l st w)
  ∧ (∀ (lv : Nat) (st : List Value) (t : LX) (o0 o1 o2 o3 o4 o5 : Option Value) (x : Int64) (w : AH), Ex M_X0_greatestLand lv 55 (o0 :: o1 :: o2 :: o3 :: o4 :: o5 :: some (.long x) :: t) st w = Ex M_X0_greatestLand lv 57 (o0 :: o1 :: o2 :: o3 :: o4 :: o5 :: some (.long x) :: t) (.long x :: st) w)
  ∧ (∀ (lv : Nat) (l : LX) (st : List Value) (x : Int64) (w : AH), Ex M_X0_greatestLand lv 57 l (.long x :: st) w = Ex M_X0_greatestLand lv 58 (ls2 l 1 (.long x)) st w)
  ∧ (∀ (lv : Nat) (st : List Value) (t : LX) (o0 o1 o2 o3 o4 : Option Value) (x : Int32) (w : AH), Ex M_X0_greatestLand lv 58 (o0 :: o1 :: o2 :: o3 :: o4 :: some (.int x) :: t) st w = Ex M_X0_greatestLand lv 61 (ls1 (o0 :: o1 :: o2 :: o3 :: o4 :: some (.int x) :: t) 5 (.int (x + 1))) st w)
  ∧ (∀ (lv : Nat) (l : LX) (st : List Value) (w : AH), Ex M_X0_greatestLand lv 61 l st w = Ex M_X0_greatestLand lv 11 l st w)
  ∧ (∀ (lv : Nat) (st : List Value) (t : LX) (o0 : Option Value) (x : Int64) (w : AH), Ex M_X0_greatestLand lv 64 (o0 :: some (.long x) :: t) st w = Ex M_X0_greatestLand lv 65 (o0 :: some (.long x) :: t) (.long x :: st) w)
  ∧ (∀ (lv : Nat) (l : LX) (x : Int64) (w : AH), Ex M_X0_greatestLand lv 65 l [.long x] w = some (some (.long x), w)) :=
  ⟨(fun lv l st w => Ex_A (i := .lconst 0) (n := 1) (by decide +kernel) rfl rfl),
   (fun lv l st x w => Ex_M (i := .lstore_n 1) (n := 1) (by decide +kernel) rfl rfl rfl),
   (fun lv st t x w => Ex_M (i := .aload_n 0) (n := 1) (by decide +kernel) rfl rfl rfl),
   (fun lv st t w => Ex_M (i := .aload_n 0) (n := 1) (by decide +kernel) rfl rfl rfl),
   (fun lv l st w => Ex_A (i := .iconst 0) (n := 1) (by decide +kernel) rfl rfl),
   (fun lv l b a0 w => Ex_callV (by decide +kernel : decode M_X0_greatestLand.2.1 4 = .ok (.invokevirtual 34, 3)) rfl (by rfl : resM (mCn M_X0_greatestLand) 34 = some (2, M_X0_ofColour)) rfl (by rfl) (Nat.le_of_ble_eq_true rfl) (by decide +kernel) (sLv_lt (by decide +kernel))),
   (fun lv l st x w => Ex_M (i := .lstore_n 3) (n := 1) (by decide +kernel) rfl rfl rfl),
   (fun lv l st w => Ex_A (i := .iconst 0) (n := 1) (by decide +kernel) rfl rfl),
   (fun lv l st x w => Ex_M (i := .istore 5) (n := 2) (by decide +kernel) rfl rfl rfl),
   (fun lv l st w => Ex_A (i := .bipush 36) (n := 2) (by decide +kernel) rfl rfl),
   (fun lv l st x y w => Ex_icmp_ge (by decide +kernel : decode M_X0_greatestLand.2.1 15 = .ok (.if_icmp .ge 49, 3)) rfl rfl),
   (fun lv st t o0 o1 o2 x w => Ex_M (i := .lload_n 3) (n := 1) (by decide +kernel) rfl rfl rfl),
   (fun lv st t o0 o1 o2 o3 o4 x w => Ex_M (i := .iload 5) (n := 2) (by decide +kernel) rfl rfl rfl),
   (fun lv l a0 a1 w => Ex_callS (by decide +kernel : decode M_X0_greatestLand.2.1 21 = .ok (.invokestatic 59, 3)) rfl (by rfl : resM (mCn M_X0_greatestLand) 59 = some (0, M_X7_has)) (by decide) rfl (by rfl) (Nat.le_of_ble_eq_true rfl) (sLv_lt (by decide +kernel))),
   (fun lv l st x w => Ex_if_eq (by decide +kernel : decode M_X0_greatestLand.2.1 24 = .ok (.ifCond .eq 6, 3)) rfl rfl),
   (fun lv l st w => Ex_goto (by decide +kernel : decode M_X0_greatestLand.2.1 27 = .ok (.goto 31, 3)) rfl),
   (fun lv st t x w => Ex_M (i := .aload_n 0) (n := 1) (by decide +kernel) rfl rfl rfl),
   (fun lv st t w => Ex_M (i := .aload_n 0) (n := 1) (by decide +kernel) rfl rfl rfl),
   (fun lv st t o0 o1 o2 o3 o4 x w => Ex_M (i := .iload 5) (n := 2) (by decide +kernel) rfl rfl rfl),
   (fun lv l b a0 w => Ex_callV (by decide +kernel : decode M_X0_greatestLand.2.1 33 = .ok (.invokevirtual 63, 3)) rfl (by rfl : resM (mCn M_X0_greatestLand) 63 = some (2, M_X0_landOf)) rfl (by rfl) (Nat.le_of_ble_eq_true rfl) (by decide +kernel) (sLv_lt (by decide +kernel))),
   (fun lv l st x w => Ex_M (i := .lstore 6) (n := 2) (by decide +kernel) rfl rfl rfl),
   (fun lv st t o0 o1 o2 x w => Ex_M (i := .lload_n 3) (n := 1) (by decide +kernel) rfl rfl rfl),
   (fun lv st t o0 o1 o2 o3 o4 o5 x w => Ex_M (i := .lload 6) (n := 2) (by decide +kernel) rfl rfl rfl),
   (fun lv l st x y w => Ex_A (i := .lor) (n := 1) (by decide +kernel) rfl rfl),
   (fun lv l st x w => Ex_M (i := .lstore_n 3) (n := 1) (by decide +kernel) rfl rfl rfl),
   (fun lv st t o0 o1 o2 o3 o4 o5 x w => Ex_M (i := .lload 6) (n := 2) (by decide +kernel) rfl rfl rfl),
   (fun lv l a0 w => Ex_callS (by decide +kernel : decode M_X0_greatestLand.2.1 45 = .ok (.invokestatic 38, 3)) rfl (by rfl : resM (mCn M_X0_greatestLand) 38 = some (0, M_J13_bitCount_95d88)) (by decide) rfl (by rfl) (Nat.le_of_ble_eq_true rfl) (sLv_lt (by decide +kernel))),
   (fun lv st t o0 x w => Ex_M (i := .lload_n 1) (n := 1) (by decide +kernel) rfl rfl rfl),
   (fun lv l a0 s0 w => Ex_callS (by decide +kernel : decode M_X0_greatestLand.2.1 49 = .ok (.invokestatic 38, 3)) rfl (by rfl : resM (mCn M_X0_greatestLand) 38 = some (0, M_J13_bitCount_95d88)) (by decide) rfl (by rfl) (Nat.le_of_ble_eq_true rfl) (sLv_lt (by decide +kernel))),
   (fun lv l st x y w => Ex_icmp_le (by decide +kernel : decode M_X0_greatestLand.2.1 52 = .ok (.if_icmp .le 6, 3)) rfl rfl),
   (fun lv st t o0 o1 o2 o3 o4 o5 x w => Ex_M (i := .lload 6) (n := 2) (by decide +kernel) rfl rfl rfl),
   (fun lv l st x w => Ex_M (i := .lstore_n 1) (n := 1) (by decide +kernel) rfl rfl rfl),
   (fun lv st t o0 o1 o2 o3 o4 x w => Ex_iinc (by decide +kernel : decode M_X0_greatestLand.2.1 58 = .ok (.iinc 5 1, 3)) rfl rfl (by decide) (by decide)),
   (fun lv l st w => Ex_goto (by decide +kernel : decode M_X0_greatestLand.2.1 61 = .ok (.goto (-50), 3)) rfl),
   (fun lv st t o0 x w => Ex_M (i := .lload_n 1) (n := 1) (by decide +kernel) rfl rfl rfl),
   (fun lv l x w => Ex_R (i := .lreturn) (n := 1) (by decide +kernel) rfl rfl rfl rfl rfl)⟩
set_option maxRecDepth 20000 in
theorem H_X0_coloursIn_5 : ∀ (lv : Nat) (st : List Value) (t : LX) (o0 o1 o2 o3 : Option Value) (x : Int32) (w : AH), Ex M_X0_coloursIn lv 5 (o0 :: o1 :: o2 :: o3 :: some (.int x) :: t) st w = Ex M_X0_coloursIn lv 7 (o0 :: o1 :: o2 :: o3 :: some (.int x) :: t) (.int x :: st) w := fun lv st t o0 o1 o2 o3 x w => Ex_M (i := .iload 4) (n := 2) (by decide +kernel) rfl rfl rfl
set_option maxRecDepth 20000 in
set_option maxHeartbeats 4000000 in
theorem R_X0_coloursIn : (∀ (lv : Nat) (l : LX) (st : List Value) (w : AH), Ex M_X0_coloursIn lv 0 l st w = Ex M_X0_coloursIn lv 1 l (.int 0 :: st) w)
  ∧ (∀ (lv : Nat) (l : LX) (st : List Value) (x : Int32) (w : AH), Ex M_X0_coloursIn lv 1 l (.int x :: st) w = Ex M_X0_coloursIn lv 2 (ls1 l 3 (.int x)) st w)
  ∧ (∀ (lv : Nat) (l : LX) (st : List Value) (w : AH), Ex M_X0_coloursIn lv 2 l st w = Ex M_X0_coloursIn lv 3 l (.int 0 :: st) w)
  ∧ (∀ (lv : Nat) (l : LX) (st : List Value) (x : Int32) (w : AH), Ex M_X0_coloursIn lv 3 l (.int x :: st) w = Ex M_X0_coloursIn lv 5 (ls1 l 4 (.int x)) st w)
  ∧ (∀ (lv : Nat) (l : LX) (st : List Value) (w : AH), Ex M_X0_coloursIn lv 7 l st w = Ex M_X0_coloursIn lv 9 l (.int 36 :: st) w)
  ∧ (∀ (lv : Nat) (l : LX) (st : List Value) (x y : Int32) (w : AH), Ex M_X0_coloursIn lv 9 l (.int y :: .int x :: st) w = if y ≤ x then Ex M_X0_coloursIn lv 39 l st w else Ex M_X0_coloursIn lv 12 l st w)
  ∧ (∀ (lv : Nat) (st : List Value) (t : LX) (o0 : Option Value) (x : Int64) (w : AH), Ex M_X0_coloursIn lv 12 (o0 :: some (.long x) :: t) st w = Ex M_X0_coloursIn lv 13 (o0 :: some (.long x) :: t) (.long x :: st) w)
  ∧ (∀ (lv : Nat) (st : List Value) (t : LX) (o0 o1 o2 o3 : Option Value) (x : Int32) (w : AH), Ex M_X0_coloursIn lv 13 (o0 :: o1 :: o2 :: o3 :: some (.int x) :: t) st w = Ex M_X0_coloursIn lv 15 (o0 :: o1 :: o2 :: o3 :: some (.int x) :: t) (.int x :: st) w)
  ∧ (∀ (lv : Nat) (l : LX) (a0 : Int64) (a1 : Int32) (w : AH), Ex M_X0_coloursIn lv 15 l (.int a1 :: .long a0 :: []) w = if (Call M_X7_has 60 [.long a0, .int a1] w).isSome = true then Ex M_X0_coloursIn lv 18 l (pushR (cV (Call M_X7_has 60 [.long a0, .int a1] w)) []) (cW (Call M_X7_has 60 [.long a0, .int a1] w) w) else none)
  ∧ (∀ (lv : Nat) (l : LX) (st : List Value) (x : Int32) (w : AH), Ex M_X0_coloursIn lv 18 l (.int x :: st) w = if x = 0 then Ex M_X0_coloursIn lv 33 l st w else Ex M_X0_coloursIn lv 21 l st w)
  ∧ (∀ (lv : Nat) (st : List Value) (t : LX) (o0 o1 o2 : Option Value) (x : Int32) (w : AH), Ex M_X0_coloursIn lv 21 (o0 :: o1 :: o2 :: some (.int x) :: t) st w = Ex M_X0_coloursIn lv 22 (o0 :: o1 :: o2 :: some (.int x) :: t) (.int x :: st) w)
  ∧ (∀ (lv : Nat) (l : LX) (st : List Value) (w : AH), Ex M_X0_coloursIn lv 22 l st w = Ex M_X0_coloursIn lv 23 l (.int 1 :: st) w)
  ∧ (∀ (lv : Nat) (st : List Value) (t : LX) (x : Nat) (w : AH), Ex M_X0_coloursIn lv 23 (some (.ref x) :: t) st w = Ex M_X0_coloursIn lv 24 (some (.ref x) :: t) (.ref x :: st) w)
  ∧ (∀ (lv : Nat) (st : List Value) (t : LX) (w : AH), Ex M_X0_coloursIn lv 23 (some (.null) :: t) st w = Ex M_X0_coloursIn lv 24 (some (.null) :: t) (.null :: st) w)
  ∧ (∀ (lv : Nat) (l : LX) (st : List Value) (a : Nat) (w : AH), Ex M_X0_coloursIn lv 24 l (.ref a :: st) w = if (gf (hg w a) 0 0).isSome = true then Ex M_X0_coloursIn lv 27 l (vV (gf (hg w a) 0 0) :: st) w else none)
  ∧ (∀ (lv : Nat) (st : List Value) (t : LX) (o0 o1 o2 o3 : Option Value) (x : Int32) (w : AH), Ex M_X0_coloursIn lv 27 (o0 :: o1 :: o2 :: o3 :: some (.int x) :: t) st w = Ex M_X0_coloursIn lv 29 (o0 :: o1 :: o2 :: o3 :: some (.int x) :: t) (.int x :: st) w)
  ∧ (∀ (lv : Nat) (l : LX) (st : List Value) (a : Nat) (i : Int32) (w : AH), Ex M_X0_coloursIn lv 29 l (.int i :: .ref a :: st) w = if (aI (hg w a) i).isSome = true then Ex M_X0_coloursIn lv 30 l (.int (vI (aI (hg w a) i)) :: st) w else none)
  ∧ (∀ (lv : Nat) (l : LX) (st : List Value) (x y : Int32) (w : AH), Ex M_X0_coloursIn lv 30 l (.int y :: .int x :: st) w = Ex M_X0_coloursIn lv 31 l (.int (x <<< (y &&& 31)) :: st) w)
  ∧ (∀ (lv : Nat) (l : LX) (st : List Value) (x y : Int32) (w : AH), Ex M_X0_coloursIn lv 31 l (.int y :: .int x :: st) w = Ex M_X0_coloursIn lv 32 l (.int (x ||| y) :: st) w)
  ∧ (∀ (lv : Nat) (l : LX) (st : List Value) (x : Int32) (w : AH), Ex M_X0_coloursIn lv 32 l (.int x :: st) w = Ex M_X0_coloursIn lv 33 (ls1 l 3 (.int x)) st w)
  ∧ (∀ (lv : Nat) (st : List Value) (t : LX) (o0 o1 o2 o3 : Option Value) (x : Int32) (w : AH), Ex M_X0_coloursIn lv 33 (o0 :: o1 :: o2 :: o3 :: some (.int x) :: t) st w = Ex M_X0_coloursIn lv 36 (ls1 (o0 :: o1 :: o2 :: o3 :: some (.int x) :: t) 4 (.int (x + 1))) st w)
  ∧ (∀ (lv : Nat) (l : LX) (st : List Value) (w : AH), Ex M_X0_coloursIn lv 36 l st w = Ex M_X0_coloursIn lv 5 l st w)
  ∧ (∀ (lv : Nat) (st : List Value) (t : LX) (o0 o1 o2 : Option Value) (x : Int32) (w : AH), Ex M_X0_coloursIn lv 39 (o0 :: o1 :: o2 :: some (.int x) :: t) st w = Ex M_X0_coloursIn lv 40 (o0 :: o1 :: o2 :: some (.int x) :: t) (.int x :: st) w)
  ∧ (∀ (lv : Nat) (l : LX) (x : Int32) (w : AH), Ex M_X0_coloursIn lv 40 l [.int x] w = some (some (.int x), w)) :=
  ⟨(fun lv l st w => Ex_A (i := .iconst 0) (n := 1) (by decide +kernel) rfl rfl),
   (fun lv l st x w => Ex_M (i := .istore_n 3) (n := 1) (by decide +kernel) rfl rfl rfl),
   (fun lv l st w => Ex_A (i := .iconst 0) (n := 1) (by decide +kernel) rfl rfl),
   (fun lv l st x w => Ex_M (i := .istore 4) (n := 2) (by decide +kernel) rfl rfl rfl),
   (fun lv l st w => Ex_A (i := .bipush 36) (n := 2) (by decide +kernel) rfl rfl),
   (fun lv l st x y w => Ex_icmp_ge (by decide +kernel : decode M_X0_coloursIn.2.1 9 = .ok (.if_icmp .ge 30, 3)) rfl rfl),
   (fun lv st t o0 x w => Ex_M (i := .lload_n 1) (n := 1) (by decide +kernel) rfl rfl rfl),
   (fun lv st t o0 o1 o2 o3 x w => Ex_M (i := .iload 4) (n := 2) (by decide +kernel) rfl rfl rfl),
   (fun lv l a0 a1 w => Ex_callS (by decide +kernel : decode M_X0_coloursIn.2.1 15 = .ok (.invokestatic 59, 3)) rfl (by rfl : resM (mCn M_X0_coloursIn) 59 = some (0, M_X7_has)) (by decide) rfl (by rfl) (Nat.le_of_ble_eq_true rfl) (sLv_lt (by decide +kernel))),
   (fun lv l st x w => Ex_if_eq (by decide +kernel : decode M_X0_coloursIn.2.1 18 = .ok (.ifCond .eq 15, 3)) rfl rfl),
   (fun lv st t o0 o1 o2 x w => Ex_M (i := .iload_n 3) (n := 1) (by decide +kernel) rfl rfl rfl),
   (fun lv l st w => Ex_A (i := .iconst 1) (n := 1) (by decide +kernel) rfl rfl),
   (fun lv st t x w => Ex_M (i := .aload_n 0) (n := 1) (by decide +kernel) rfl rfl rfl),
   (fun lv st t w => Ex_M (i := .aload_n 0) (n := 1) (by decide +kernel) rfl rfl rfl),
   (fun lv l st a w => Ex_getf (by decide +kernel : decode M_X0_coloursIn.2.1 24 = .ok (.getfield 9, 3)) rfl (by decide +kernel : resF (mCn M_X0_coloursIn) 9 = some (0, 0, (.array .int), true))),
   (fun lv st t o0 o1 o2 o3 x w => Ex_M (i := .iload 4) (n := 2) (by decide +kernel) rfl rfl rfl),
   (fun lv l st a i w => Ex_ial (by decide +kernel : decode M_X0_coloursIn.2.1 29 = .ok (.iaload, 1)) rfl),
   (fun lv l st x y w => Ex_A (i := .ishl) (n := 1) (by decide +kernel) rfl rfl),
   (fun lv l st x y w => Ex_A (i := .ior) (n := 1) (by decide +kernel) rfl rfl),
   (fun lv l st x w => Ex_M (i := .istore_n 3) (n := 1) (by decide +kernel) rfl rfl rfl),
   (fun lv st t o0 o1 o2 o3 x w => Ex_iinc (by decide +kernel : decode M_X0_coloursIn.2.1 33 = .ok (.iinc 4 1, 3)) rfl rfl (by decide) (by decide)),
   (fun lv l st w => Ex_goto (by decide +kernel : decode M_X0_coloursIn.2.1 36 = .ok (.goto (-31), 3)) rfl),
   (fun lv st t o0 o1 o2 x w => Ex_M (i := .iload_n 3) (n := 1) (by decide +kernel) rfl rfl rfl),
   (fun lv l x w => Ex_R (i := .ireturn) (n := 1) (by decide +kernel) rfl rfl rfl rfl rfl)⟩
set_option maxRecDepth 20000 in
set_option maxHeartbeats 4000000 in
theorem R_X0_coloursBeside : (∀ (lv : Nat) (st : List Value) (t : LX) (x : Nat) (w : AH), Ex M_X0_coloursBeside lv 0 (some (.ref x) :: t) st w = Ex M_X0_coloursBeside lv 1 (some (.ref x) :: t) (.ref x :: st) w)
  ∧ (∀ (lv : Nat) (st : List Value) (t : LX) (w : AH), Ex M_X0_coloursBeside lv 0 (some (.null) :: t) st w = Ex M_X0_coloursBeside lv 1 (some (.null) :: t) (.null :: st) w)
  ∧ (∀ (lv : Nat) (st : List Value) (t : LX) (o0 : Option Value) (x : Int32) (w : AH), Ex M_X0_coloursBeside lv 1 (o0 :: some (.int x) :: t) st w = Ex M_X0_coloursBeside lv 2 (o0 :: some (.int x) :: t) (.int x :: st) w)
  ∧ (∀ (lv : Nat) (l : LX) (b : Nat) (a0 : Int32) (w : AH), Ex M_X0_coloursBeside lv 2 l (.int a0 :: .ref b :: []) w = if clK (hg w b) = 0 then (if (Call M_X0_landOf 60 [.ref b, .int a0] w).isSome = true then Ex M_X0_coloursBeside lv 5 l (pushR (cV (Call M_X0_landOf 60 [.ref b, .int a0] w)) []) (cW (Call M_X0_landOf 60 [.ref b, .int a0] w) w) else none) else none)
  ∧ (∀ (lv : Nat) (l : LX) (st : List Value) (x : Int64) (w : AH), Ex M_X0_coloursBeside lv 5 l (.long x :: st) w = Ex M_X0_coloursBeside lv 6 (ls2 l 2 (.long x)) st w)
  ∧ (∀ (lv : Nat) (st : List Value) (t : LX) (x : Nat) (w : AH), Ex M_X0_coloursBeside lv 6 (some (.ref x) :: t) st w = Ex M_X0_coloursBeside lv 7 (some (.ref x) :: t) (.ref x :: st) w)
  ∧ (∀ (lv : Nat) (st : List Value) (t : LX) (w : AH), Ex M_X0_coloursBeside lv 6 (some (.null) :: t) st w = Ex M_X0_coloursBeside lv 7 (some (.null) :: t) (.null :: st) w)
  ∧ (∀ (lv : Nat) (st : List Value) (t : LX) (o0 o1 : Option Value) (x : Int64) (w : AH), Ex M_X0_coloursBeside lv 7 (o0 :: o1 :: some (.long x) :: t) st w = Ex M_X0_coloursBeside lv 8 (o0 :: o1 :: some (.long x) :: t) (.long x :: st) w)
  ∧ (∀ (lv : Nat) (l : LX) (a0 : Int64) (s0 : Nat) (w : AH), Ex M_X0_coloursBeside lv 8 l (.long a0 :: [.ref s0]) w = if (Call M_X7_around 60 [.long a0] w).isSome = true then Ex M_X0_coloursBeside lv 11 l (pushR (cV (Call M_X7_around 60 [.long a0] w)) [.ref s0]) (cW (Call M_X7_around 60 [.long a0] w) w) else none)
  ∧ (∀ (lv : Nat) (st : List Value) (t : LX) (o0 o1 : Option Value) (x : Int64) (w : AH), Ex M_X0_coloursBeside lv 11 (o0 :: o1 :: some (.long x) :: t) st w = Ex M_X0_coloursBeside lv 12 (o0 :: o1 :: some (.long x) :: t) (.long x :: st) w)
  ∧ (∀ (lv : Nat) (l : LX) (st : List Value) (w : AH), Ex M_X0_coloursBeside lv 12 l st w = Ex M_X0_coloursBeside lv 15 l (.long (-1) :: st) w)
  ∧ (∀ (lv : Nat) (l : LX) (st : List Value) (x y : Int64) (w : AH), Ex M_X0_coloursBeside lv 15 l (.long y :: .long x :: st) w = Ex M_X0_coloursBeside lv 16 l (.long (x ^^^ y) :: st) w)
  ∧ (∀ (lv : Nat) (l : LX) (st : List Value) (x y : Int64) (w : AH), Ex M_X0_coloursBeside lv 16 l (.long y :: .long x :: st) w = Ex M_X0_coloursBeside lv 17 l (.long (x &&& y) :: st) w)
  ∧ (∀ (lv : Nat) (l : LX) (b : Nat) (a0 : Int64) (w : AH), Ex M_X0_coloursBeside lv 17 l (.long a0 :: .ref b :: []) w = if clK (hg w b) = 0 then (if (Call M_X0_coloursIn 60 [.ref b, .long a0] w).isSome = true then Ex M_X0_coloursBeside lv 20 l (pushR (cV (Call M_X0_coloursIn 60 [.ref b, .long a0] w)) []) (cW (Call M_X0_coloursIn 60 [.ref b, .long a0] w) w) else none) else none)
  ∧ (∀ (lv : Nat) (l : LX) (x : Int32) (w : AH), Ex M_X0_coloursBeside lv 20 l [.int x] w = some (some (.int x), w)) :=
  ⟨(fun lv st t x w => Ex_M (i := .aload_n 0) (n := 1) (by decide +kernel) rfl rfl rfl),
   (fun lv st t w => Ex_M (i := .aload_n 0) (n := 1) (by decide +kernel) rfl rfl rfl),
   (fun lv st t o0 x w => Ex_M (i := .iload_n 1) (n := 1) (by decide +kernel) rfl rfl rfl),
   (fun lv l b a0 w => Ex_callV (by decide +kernel : decode M_X0_coloursBeside.2.1 2 = .ok (.invokevirtual 63, 3)) rfl (by rfl : resM (mCn M_X0_coloursBeside) 63 = some (2, M_X0_landOf)) rfl (by rfl) (Nat.le_of_ble_eq_true rfl) (by decide +kernel) (sLv_lt (by decide +kernel))),
   (fun lv l st x w => Ex_M (i := .lstore_n 2) (n := 1) (by decide +kernel) rfl rfl rfl),
   (fun lv st t x w => Ex_M (i := .aload_n 0) (n := 1) (by decide +kernel) rfl rfl rfl),
   (fun lv st t w => Ex_M (i := .aload_n 0) (n := 1) (by decide +kernel) rfl rfl rfl),
   (fun lv st t o0 o1 x w => Ex_M (i := .lload_n 2) (n := 1) (by decide +kernel) rfl rfl rfl),
   (fun lv l a0 s0 w => Ex_callS (by decide +kernel : decode M_X0_coloursBeside.2.1 8 = .ok (.invokestatic 66, 3)) rfl (by rfl : resM (mCn M_X0_coloursBeside) 66 = some (0, M_X7_around)) (by decide) rfl (by rfl) (Nat.le_of_ble_eq_true rfl) (sLv_lt (by decide +kernel))),
   (fun lv st t o0 o1 x w => Ex_M (i := .lload_n 2) (n := 1) (by decide +kernel) rfl rfl rfl),
   (fun lv l st w => Ex_ldc2 (by decide +kernel : decode M_X0_coloursBeside.2.1 12 = .ok (.ldc2_w 57, 3)) rfl (by decide +kernel)),
   (fun lv l st x y w => Ex_A (i := .lxor) (n := 1) (by decide +kernel) rfl rfl),
   (fun lv l st x y w => Ex_A (i := .land) (n := 1) (by decide +kernel) rfl rfl),
   (fun lv l b a0 w => Ex_callV (by decide +kernel : decode M_X0_coloursBeside.2.1 17 = .ok (.invokevirtual 70, 3)) rfl (by rfl : resM (mCn M_X0_coloursBeside) 70 = some (2, M_X0_coloursIn)) rfl (by rfl) (Nat.le_of_ble_eq_true rfl) (by decide +kernel) (sLv_lt (by decide +kernel))),
   (fun lv l x w => Ex_R (i := .ireturn) (n := 1) (by decide +kernel) rfl rfl rfl rfl rfl)⟩
set_option maxRecDepth 20000 in
theorem H_X0_countPairs_19 : ∀ (lv : Nat) (st : List Value) (t : LX) (o0 o1 o2 o3 o4 o5 o6 o7 : Option Value) (x : Int32) (w : AH), Ex M_X0_countPairs lv 19 (o0 :: o1 :: o2 :: o3 :: o4 :: o5 :: o6 :: o7 :: some (.int x) :: t) st w = Ex M_X0_countPairs lv 21 (o0 :: o1 :: o2 :: o3 :: o4 :: o5 :: o6 :: o7 :: some (.int x) :: t) (.int x :: st) w := fun lv st t o0 o1 o2 o3 o4 o5 o6 o7 x w => Ex_M (i := .iload 8) (n := 2) (by decide +kernel) rfl rfl rfl
set_option maxRecDepth 20000 in
set_option maxHeartbeats 4000000 in
theorem R_X0_countPairs : (∀ (lv : Nat) (st : List Value) (t : LX) (x : Nat) (w : AH), Ex M_X0_countPairs lv 0 (some (.ref x) :: t) st w = Ex M_X0_countPairs lv 1 (some (.ref x) :: t) (.ref x :: st) w)
  ∧ (∀ (lv : Nat) (st : List Value) (t : LX) (w : AH), Ex M_X0_countPairs lv 0 (some (.null) :: t) st w = Ex M_X0_countPairs lv 1 (some (.null) :: t) (.null :: st) w)
  ∧ (∀ (lv : Nat) (st : List Value) (t : LX) (o0 : Option Value) (x : Int32) (w : AH), Ex M_X0_countPairs lv 1 (o0 :: some (.int x) :: t) st w = Ex M_X0_countPairs lv 2 (o0 :: some (.int x) :: t) (.int x :: st) w)
  ∧ (∀ (lv : Nat) (l : LX) (b : Nat) (a0 : Int32) (w : AH), Ex M_X0_countPairs lv 2 l (.int a0 :: .ref b :: []) w = if clK (hg w b) = 0 then (if (Call M_X0_ofColour 60 [.ref b, .int a0] w).isSome = true then Ex M_X0_countPairs lv 5 l (pushR (cV (Call M_X0_ofColour 60 [.ref b, .int a0] w)) []) (cW (Call M_X0_ofColour 60 [.ref b, .int a0] w) w) else none) else none)
  ∧ (∀ (lv : Nat) (l : LX) (st : List Value) (x : Int64) (w : AH), Ex M_X0_countPairs lv 5 l (.long x :: st) w = Ex M_X0_countPairs lv 6 (ls2 l 3 (.long x)) st w)
  ∧ (∀ (lv : Nat) (st : List Value) (t : LX) (x : Nat) (w : AH), Ex M_X0_countPairs lv 6 (some (.ref x) :: t) st w = Ex M_X0_countPairs lv 7 (some (.ref x) :: t) (.ref x :: st) w)
  ∧ (∀ (lv : Nat) (st : List Value) (t : LX) (w : AH), Ex M_X0_countPairs lv 6 (some (.null) :: t) st w = Ex M_X0_countPairs lv 7 (some (.null) :: t) (.null :: st) w)
  ∧ (∀ (lv : Nat) (st : List Value) (t : LX) (o0 o1 : Option Value) (x : Int32) (w : AH), Ex M_X0_countPairs lv 7 (o0 :: o1 :: some (.int x) :: t) st w = Ex M_X0_countPairs lv 8 (o0 :: o1 :: some (.int x) :: t) (.int x :: st) w)
  ∧ (∀ (lv : Nat) (l : LX) (b : Nat) (a0 : Int32) (w : AH), Ex M_X0_countPairs lv 8 l (.int a0 :: .ref b :: []) w = if clK (hg w b) = 0 then (if (Call M_X0_ofColour 60 [.ref b, .int a0] w).isSome = true then Ex M_X0_countPairs lv 11 l (pushR (cV (Call M_X0_ofColour 60 [.ref b, .int a0] w)) []) (cW (Call M_X0_ofColour 60 [.ref b, .int a0] w) w) else none) else none)
  ∧ (∀ (lv : Nat) (l : LX) (st : List Value) (x : Int64) (w : AH), Ex M_X0_countPairs lv 11 l (.long x :: st) w = Ex M_X0_countPairs lv 13 (ls2 l 5 (.long x)) st w)
  ∧ (∀ (lv : Nat) (l : LX) (st : List Value) (w : AH), Ex M_X0_countPairs lv 13 l st w = Ex M_X0_countPairs lv 14 l (.int 0 :: st) w)
  ∧ (∀ (lv : Nat) (l : LX) (st : List Value) (x : Int32) (w : AH), Ex M_X0_countPairs lv 14 l (.int x :: st) w = Ex M_X0_countPairs lv 16 (ls1 l 7 (.int x)) st w)
  ∧ (∀ (lv : Nat) (l : LX) (st : List Value) (w : AH), Ex M_X0_countPairs lv 16 l st w = Ex M_X0_countPairs lv 17 l (.int 0 :: st) w)
  ∧ (∀ (lv : Nat) (l : LX) (st : List Value) (x : Int32) (w : AH), Ex M_X0_countPairs lv 17 l (.int x :: st) w = Ex M_X0_countPairs lv 19 (ls1 l 8 (.int x)) st w)
  ∧ (∀ (lv : Nat) (l : LX) (st : List Value) (w : AH), Ex M_X0_countPairs lv 21 l st w = Ex M_X0_countPairs lv 22 l (.int 4 :: st) w)
  ∧ (∀ (lv : Nat) (l : LX) (st : List Value) (x y : Int32) (w : AH), Ex M_X0_countPairs lv 22 l (.int y :: .int x :: st) w = if y ≤ x then Ex M_X0_countPairs lv 48 l st w else Ex M_X0_countPairs lv 25 l st w)
  ∧ (∀ (lv : Nat) (st : List Value) (t : LX) (o0 o1 o2 o3 o4 o5 o6 : Option Value) (x : Int32) (w : AH), Ex M_X0_countPairs lv 25 (o0 :: o1 :: o2 :: o3 :: o4 :: o5 :: o6 :: some (.int x) :: t) st w = Ex M_X0_countPairs lv 27 (o0 :: o1 :: o2 :: o3 :: o4 :: o5 :: o6 :: some (.int x) :: t) (.int x :: st) w)
  ∧ (∀ (lv : Nat) (st : List Value) (t : LX) (o0 o1 o2 : Option Value) (x : Int64) (w : AH), Ex M_X0_countPairs lv 27 (o0 :: o1 :: o2 :: some (.long x) :: t) st w = Ex M_X0_countPairs lv 28 (o0 :: o1 :: o2 :: some (.long x) :: t) (.long x :: st) w)
  ∧ (∀ (lv : Nat) (st : List Value) (t : LX) (o0 o1 o2 o3 o4 o5 o6 o7 : Option Value) (x : Int32) (w : AH), Ex M_X0_countPairs lv 28 (o0 :: o1 :: o2 :: o3 :: o4 :: o5 :: o6 :: o7 :: some (.int x) :: t) st w = Ex M_X0_countPairs lv 30 (o0 :: o1 :: o2 :: o3 :: o4 :: o5 :: o6 :: o7 :: some (.int x) :: t) (.int x :: st) w)
  ∧ (∀ (lv : Nat) (l : LX) (a0 : Int64) (a1 : Int32) (s0 : Int32) (w : AH), Ex M_X0_countPairs lv 30 l (.int a1 :: .long a0 :: [.int s0]) w = if (Call M_X7_stepped 60 [.long a0, .int a1] w).isSome = true then Ex M_X0_countPairs lv 33 l (pushR (cV (Call M_X7_stepped 60 [.long a0, .int a1] w)) [.int s0]) (cW (Call M_X7_stepped 60 [.long a0, .int a1] w) w) else none)
  ∧ (∀ (lv : Nat) (st : List Value) (t : LX) (o0 o1 o2 o3 o4 : Option Value) (x : Int64) (w : AH), Ex M_X0_countPairs lv 33 (o0 :: o1 :: o2 :: o3 :: o4 :: some (.long x) :: t) st w = Ex M_X0_countPairs lv 35 (o0 :: o1 :: o2 :: o3 :: o4 :: some (.long x) :: t) (.long x :: st) w)
  ∧ (∀ (lv : Nat) (l : LX) (st : List Value) (x y : Int64) (w : AH), Ex M_X0_countPairs lv 35 l (.long y :: .long x :: st) w = Ex M_X0_countPairs lv 36 l (.long (x &&& y) :: st) w)
  ∧ (∀ (lv : Nat) (l : LX) (a0 : Int64) (s0 : Int32) (w : AH), Ex M_X0_countPairs lv 36 l (.long a0 :: [.int s0]) w = if (Call M_J13_bitCount_95d88 60 [.long a0] w).isSome = true then Ex M_X0_countPairs lv 39 l (pushR (cV (Call M_J13_bitCount_95d88 60 [.long a0] w)) [.int s0]) (cW (Call M_J13_bitCount_95d88 60 [.long a0] w) w) else none)
  ∧ (∀ (lv : Nat) (l : LX) (st : List Value) (x y : Int32) (w : AH), Ex M_X0_countPairs lv 39 l (.int y :: .int x :: st) w = Ex M_X0_countPairs lv 40 l (.int (x + y) :: st) w)
  ∧ (∀ (lv : Nat) (l : LX) (st : List Value) (x : Int32) (w : AH), Ex M_X0_countPairs lv 40 l (.int x :: st) w = Ex M_X0_countPairs lv 42 (ls1 l 7 (.int x)) st w)
  ∧ (∀ (lv : Nat) (st : List Value) (t : LX) (o0 o1 o2 o3 o4 o5 o6 o7 : Option Value) (x : Int32) (w : AH), Ex M_X0_countPairs lv 42 (o0 :: o1 :: o2 :: o3 :: o4 :: o5 :: o6 :: o7 :: some (.int x) :: t) st w = Ex M_X0_countPairs lv 45 (ls1 (o0 :: o1 :: o2 :: o3 :: o4 :: o5 :: o6 :: o7 :: some (.int x) :: t) 8 (.int (x + 1))) st w)
  ∧ (∀ (lv : Nat) (l : LX) (st : List Value) (w : AH), Ex M_X0_countPairs lv 45 l st w = Ex M_X0_countPairs lv 19 l st w)
  ∧ (∀ (lv : Nat) (st : List Value) (t : LX) (o0 o1 o2 o3 o4 o5 o6 : Option Value) (x : Int32) (w : AH), Ex M_X0_countPairs lv 48 (o0 :: o1 :: o2 :: o3 :: o4 :: o5 :: o6 :: some (.int x) :: t) st w = Ex M_X0_countPairs lv 50 (o0 :: o1 :: o2 :: o3 :: o4 :: o5 :: o6 :: some (.int x) :: t) (.int x :: st) w)
  ∧ (∀ (lv : Nat) (l : LX) (x : Int32) (w : AH), Ex M_X0_countPairs lv 50 l [.int x] w = some (some (.int x), w)) :=
  ⟨(fun lv st t x w => Ex_M (i := .aload_n 0) (n := 1) (by decide +kernel) rfl rfl rfl),
   (fun lv st t w => Ex_M (i := .aload_n 0) (n := 1) (by decide +kernel) rfl rfl rfl),
   (fun lv st t o0 x w => Ex_M (i := .iload_n 1) (n := 1) (by decide +kernel) rfl rfl rfl),
   (fun lv l b a0 w => Ex_callV (by decide +kernel : decode M_X0_countPairs.2.1 2 = .ok (.invokevirtual 34, 3)) rfl (by rfl : resM (mCn M_X0_countPairs) 34 = some (2, M_X0_ofColour)) rfl (by rfl) (Nat.le_of_ble_eq_true rfl) (by decide +kernel) (sLv_lt (by decide +kernel))),
   (fun lv l st x w => Ex_M (i := .lstore_n 3) (n := 1) (by decide +kernel) rfl rfl rfl),
   (fun lv st t x w => Ex_M (i := .aload_n 0) (n := 1) (by decide +kernel) rfl rfl rfl),
   (fun lv st t w => Ex_M (i := .aload_n 0) (n := 1) (by decide +kernel) rfl rfl rfl),
   (fun lv st t o0 o1 x w => Ex_M (i := .iload_n 2) (n := 1) (by decide +kernel) rfl rfl rfl),
   (fun lv l b a0 w => Ex_callV (by decide +kernel : decode M_X0_countPairs.2.1 8 = .ok (.invokevirtual 34, 3)) rfl (by rfl : resM (mCn M_X0_countPairs) 34 = some (2, M_X0_ofColour)) rfl (by rfl) (Nat.le_of_ble_eq_true rfl) (by decide +kernel) (sLv_lt (by decide +kernel))),
   (fun lv l st x w => Ex_M (i := .lstore 5) (n := 2) (by decide +kernel) rfl rfl rfl),
   (fun lv l st w => Ex_A (i := .iconst 0) (n := 1) (by decide +kernel) rfl rfl),
   (fun lv l st x w => Ex_M (i := .istore 7) (n := 2) (by decide +kernel) rfl rfl rfl),
   (fun lv l st w => Ex_A (i := .iconst 0) (n := 1) (by decide +kernel) rfl rfl),
   (fun lv l st x w => Ex_M (i := .istore 8) (n := 2) (by decide +kernel) rfl rfl rfl),
   (fun lv l st w => Ex_A (i := .iconst 4) (n := 1) (by decide +kernel) rfl rfl),
   (fun lv l st x y w => Ex_icmp_ge (by decide +kernel : decode M_X0_countPairs.2.1 22 = .ok (.if_icmp .ge 26, 3)) rfl rfl),
   (fun lv st t o0 o1 o2 o3 o4 o5 o6 x w => Ex_M (i := .iload 7) (n := 2) (by decide +kernel) rfl rfl rfl),
   (fun lv st t o0 o1 o2 x w => Ex_M (i := .lload_n 3) (n := 1) (by decide +kernel) rfl rfl rfl),
   (fun lv st t o0 o1 o2 o3 o4 o5 o6 o7 x w => Ex_M (i := .iload 8) (n := 2) (by decide +kernel) rfl rfl rfl),
   (fun lv l a0 a1 s0 w => Ex_callS (by decide +kernel : decode M_X0_countPairs.2.1 30 = .ok (.invokestatic 73, 3)) rfl (by rfl : resM (mCn M_X0_countPairs) 73 = some (0, M_X7_stepped)) (by decide) rfl (by rfl) (Nat.le_of_ble_eq_true rfl) (sLv_lt (by decide +kernel))),
   (fun lv st t o0 o1 o2 o3 o4 x w => Ex_M (i := .lload 5) (n := 2) (by decide +kernel) rfl rfl rfl),
   (fun lv l st x y w => Ex_A (i := .land) (n := 1) (by decide +kernel) rfl rfl),
   (fun lv l a0 s0 w => Ex_callS (by decide +kernel : decode M_X0_countPairs.2.1 36 = .ok (.invokestatic 38, 3)) rfl (by rfl : resM (mCn M_X0_countPairs) 38 = some (0, M_J13_bitCount_95d88)) (by decide) rfl (by rfl) (Nat.le_of_ble_eq_true rfl) (sLv_lt (by decide +kernel))),
   (fun lv l st x y w => Ex_A (i := .iadd) (n := 1) (by decide +kernel) rfl rfl),
   (fun lv l st x w => Ex_M (i := .istore 7) (n := 2) (by decide +kernel) rfl rfl rfl),
   (fun lv st t o0 o1 o2 o3 o4 o5 o6 o7 x w => Ex_iinc (by decide +kernel : decode M_X0_countPairs.2.1 42 = .ok (.iinc 8 1, 3)) rfl rfl (by decide) (by decide)),
   (fun lv l st w => Ex_goto (by decide +kernel : decode M_X0_countPairs.2.1 45 = .ok (.goto (-26), 3)) rfl),
   (fun lv st t o0 o1 o2 o3 o4 o5 o6 x w => Ex_M (i := .iload 7) (n := 2) (by decide +kernel) rfl rfl rfl),
   (fun lv l x w => Ex_R (i := .ireturn) (n := 1) (by decide +kernel) rfl rfl rfl rfl rfl)⟩
set_option maxRecDepth 20000 in
set_option maxHeartbeats 4000000 in
theorem R_X0_meets : (∀ (lv : Nat) (st : List Value) (t : LX) (x : Int32) (w : AH), Ex M_X0_meets lv 0 (some (.int x) :: t) st w = Ex M_X0_meets lv 1 (some (.int x) :: t) (.int x :: st) w)
  ∧ (∀ (lv : Nat) (st : List Value) (t : LX) (o0 : Option Value) (x : Int32) (w : AH), Ex M_X0_meets lv 1 (o0 :: some (.int x) :: t) st w = Ex M_X0_meets lv 2 (o0 :: some (.int x) :: t) (.int x :: st) w)
  ∧ (∀ (lv : Nat) (l : LX) (st : List Value) (x y : Int32) (w : AH), Ex M_X0_meets lv 2 l (.int y :: .int x :: st) w = if x = y then Ex M_X0_meets lv 13 l st w else Ex M_X0_meets lv 5 l st w)
  ∧ (∀ (lv : Nat) (st : List Value) (t : LX) (x : Int32) (w : AH), Ex M_X0_meets lv 5 (some (.int x) :: t) st w = Ex M_X0_meets lv 6 (some (.int x) :: t) (.int x :: st) w)
  ∧ (∀ (lv : Nat) (l : LX) (st : List Value) (x : Int32) (w : AH), Ex M_X0_meets lv 6 l (.int x :: st) w = if x = 0 then Ex M_X0_meets lv 13 l st w else Ex M_X0_meets lv 9 l st w)
  ∧ (∀ (lv : Nat) (st : List Value) (t : LX) (o0 : Option Value) (x : Int32) (w : AH), Ex M_X0_meets lv 9 (o0 :: some (.int x) :: t) st w = Ex M_X0_meets lv 10 (o0 :: some (.int x) :: t) (.int x :: st) w)
  ∧ (∀ (lv : Nat) (l : LX) (st : List Value) (x : Int32) (w : AH), Ex M_X0_meets lv 10 l (.int x :: st) w = if ¬ x = 0 then Ex M_X0_meets lv 17 l st w else Ex M_X0_meets lv 13 l st w)
  ∧ (∀ (lv : Nat) (l : LX) (st : List Value) (w : AH), Ex M_X0_meets lv 13 l st w = Ex M_X0_meets lv 14 l (.int 1 :: st) w)
  ∧ (∀ (lv : Nat) (l : LX) (st : List Value) (w : AH), Ex M_X0_meets lv 14 l st w = Ex M_X0_meets lv 18 l st w)
  ∧ (∀ (lv : Nat) (l : LX) (st : List Value) (w : AH), Ex M_X0_meets lv 17 l st w = Ex M_X0_meets lv 18 l (.int 0 :: st) w)
  ∧ (∀ (lv : Nat) (l : LX) (x : Int32) (w : AH), Ex M_X0_meets lv 18 l [.int x] w = if x = 0 ∨ x = 1 then some (some (.int x), w) else none) :=
  ⟨(fun lv st t x w => Ex_M (i := .iload_n 0) (n := 1) (by decide +kernel) rfl rfl rfl),
   (fun lv st t o0 x w => Ex_M (i := .iload_n 1) (n := 1) (by decide +kernel) rfl rfl rfl),
   (fun lv l st x y w => Ex_icmp_eq (by decide +kernel : decode M_X0_meets.2.1 2 = .ok (.if_icmp .eq 11, 3)) rfl rfl),
   (fun lv st t x w => Ex_M (i := .iload_n 0) (n := 1) (by decide +kernel) rfl rfl rfl),
   (fun lv l st x w => Ex_if_eq (by decide +kernel : decode M_X0_meets.2.1 6 = .ok (.ifCond .eq 7, 3)) rfl rfl),
   (fun lv st t o0 x w => Ex_M (i := .iload_n 1) (n := 1) (by decide +kernel) rfl rfl rfl),
   (fun lv l st x w => Ex_if_ne (by decide +kernel : decode M_X0_meets.2.1 10 = .ok (.ifCond .ne 7, 3)) rfl rfl),
   (fun lv l st w => Ex_A (i := .iconst 1) (n := 1) (by decide +kernel) rfl rfl),
   (fun lv l st w => Ex_goto (by decide +kernel : decode M_X0_meets.2.1 14 = .ok (.goto 4, 3)) rfl),
   (fun lv l st w => Ex_A (i := .iconst 0) (n := 1) (by decide +kernel) rfl rfl),
   (fun lv l x w => Ex_zret (by decide +kernel : decode M_X0_meets.2.1 18 = .ok (.ireturn, 1)) rfl)⟩
set_option maxRecDepth 20000 in
theorem H_X0_leastPeriod_2 : ∀ (lv : Nat) (st : List Value) (t : LX) (o0 o1 : Option Value) (x : Int32) (w : AH), Ex M_X0_leastPeriod lv 2 (o0 :: o1 :: some (.int x) :: t) st w = Ex M_X0_leastPeriod lv 3 (o0 :: o1 :: some (.int x) :: t) (.int x :: st) w := fun lv st t o0 o1 x w => Ex_M (i := .iload_n 2) (n := 1) (by decide +kernel) rfl rfl rfl
set_option maxRecDepth 20000 in
set_option maxHeartbeats 4000000 in
theorem R_X0_leastPeriod : (∀ (lv : Nat) (l : LX) (st : List Value) (w : AH), Ex M_X0_leastPeriod lv 0 l st w = Ex M_X0_leastPeriod lv 1 l (.int 1 :: st) w)
  ∧ (∀ (lv : Nat) (l : LX) (st : List Value) (x : Int32) (w : AH), Ex M_X0_leastPeriod lv 1 l (.int x :: st) w = Ex M_X0_leastPeriod lv 2 (ls1 l 2 (.int x)) st w)
  ∧ (∀ (lv : Nat) (l : LX) (st : List Value) (w : AH), Ex M_X0_leastPeriod lv 3 l st w = Ex M_X0_leastPeriod lv 5 l (.int 6 :: st) w)
  ∧ (∀ (lv : Nat) (l : LX) (st : List Value) (x y : Int32) (w : AH), Ex M_X0_leastPeriod lv 5 l (.int y :: .int x :: st) w = if y ≤ x then Ex M_X0_leastPeriod lv 25 l st w else Ex M_X0_leastPeriod lv 8 l st w)
  ∧ (∀ (lv : Nat) (st : List Value) (t : LX) (x : Nat) (w : AH), Ex M_X0_leastPeriod lv 8 (some (.ref x) :: t) st w = Ex M_X0_leastPeriod lv 9 (some (.ref x) :: t) (.ref x :: st) w)
  ∧ (∀ (lv : Nat) (st : List Value) (t : LX) (w : AH), Ex M_X0_leastPeriod lv 8 (some (.null) :: t) st w = Ex M_X0_leastPeriod lv 9 (some (.null) :: t) (.null :: st) w)
  ∧ (∀ (lv : Nat) (st : List Value) (t : LX) (o0 : Option Value) (x : Int32) (w : AH), Ex M_X0_leastPeriod lv 9 (o0 :: some (.int x) :: t) st w = Ex M_X0_leastPeriod lv 10 (o0 :: some (.int x) :: t) (.int x :: st) w)
  ∧ (∀ (lv : Nat) (st : List Value) (t : LX) (o0 o1 : Option Value) (x : Int32) (w : AH), Ex M_X0_leastPeriod lv 10 (o0 :: o1 :: some (.int x) :: t) st w = Ex M_X0_leastPeriod lv 11 (o0 :: o1 :: some (.int x) :: t) (.int x :: st) w)
  ∧ (∀ (lv : Nat) (l : LX) (b : Nat) (a0 : Int32) (a1 : Int32) (w : AH), Ex M_X0_leastPeriod lv 11 l (.int a1 :: .int a0 :: .ref b :: []) w = if clK (hg w b) = 0 then (if (Call M_X0_comesAgain 60 [.ref b, .int a0, .int a1] w).isSome = true then Ex M_X0_leastPeriod lv 14 l (pushR (cV (Call M_X0_comesAgain 60 [.ref b, .int a0, .int a1] w)) []) (cW (Call M_X0_comesAgain 60 [.ref b, .int a0, .int a1] w) w) else none) else none)
  ∧ (∀ (lv : Nat) (l : LX) (st : List Value) (x : Int32) (w : AH), Ex M_X0_leastPeriod lv 14 l (.int x :: st) w = if x = 0 then Ex M_X0_leastPeriod lv 19 l st w else Ex M_X0_leastPeriod lv 17 l st w)
  ∧ (∀ (lv : Nat) (st : List Value) (t : LX) (o0 o1 : Option Value) (x : Int32) (w : AH), Ex M_X0_leastPeriod lv 17 (o0 :: o1 :: some (.int x) :: t) st w = Ex M_X0_leastPeriod lv 18 (o0 :: o1 :: some (.int x) :: t) (.int x :: st) w)
  ∧ (∀ (lv : Nat) (l : LX) (x : Int32) (w : AH), Ex M_X0_leastPeriod lv 18 l [.int x] w = some (some (.int x), w))
  ∧ (∀ (lv : Nat) (st : List Value) (t : LX) (o0 o1 : Option Value) (x : Int32) (w : AH), Ex M_X0_leastPeriod lv 19 (o0 :: o1 :: some (.int x) :: t) st w = Ex M_X0_leastPeriod lv 22 (ls1 (o0 :: o1 :: some (.int x) :: t) 2 (.int (x + 1))) st w)
  ∧ (∀ (lv : Nat) (l : LX) (st : List Value) (w : AH), Ex M_X0_leastPeriod lv 22 l st w = Ex M_X0_leastPeriod lv 2 l st w)
  ∧ (∀ (lv : Nat) (l : LX) (st : List Value) (w : AH), Ex M_X0_leastPeriod lv 25 l st w = Ex M_X0_leastPeriod lv 27 l (.int 6 :: st) w)
  ∧ (∀ (lv : Nat) (l : LX) (x : Int32) (w : AH), Ex M_X0_leastPeriod lv 27 l [.int x] w = some (some (.int x), w)) :=
  ⟨(fun lv l st w => Ex_A (i := .iconst 1) (n := 1) (by decide +kernel) rfl rfl),
   (fun lv l st x w => Ex_M (i := .istore_n 2) (n := 1) (by decide +kernel) rfl rfl rfl),
   (fun lv l st w => Ex_A (i := .bipush 6) (n := 2) (by decide +kernel) rfl rfl),
   (fun lv l st x y w => Ex_icmp_ge (by decide +kernel : decode M_X0_leastPeriod.2.1 5 = .ok (.if_icmp .ge 20, 3)) rfl rfl),
   (fun lv st t x w => Ex_M (i := .aload_n 0) (n := 1) (by decide +kernel) rfl rfl rfl),
   (fun lv st t w => Ex_M (i := .aload_n 0) (n := 1) (by decide +kernel) rfl rfl rfl),
   (fun lv st t o0 x w => Ex_M (i := .iload_n 1) (n := 1) (by decide +kernel) rfl rfl rfl),
   (fun lv st t o0 o1 x w => Ex_M (i := .iload_n 2) (n := 1) (by decide +kernel) rfl rfl rfl),
   (fun lv l b a0 a1 w => Ex_callV (by decide +kernel : decode M_X0_leastPeriod.2.1 11 = .ok (.invokevirtual 77, 3)) rfl (by rfl : resM (mCn M_X0_leastPeriod) 77 = some (2, M_X0_comesAgain)) rfl (by rfl) (Nat.le_of_ble_eq_true rfl) (by decide +kernel) (sLv_lt (by decide +kernel))),
   (fun lv l st x w => Ex_if_eq (by decide +kernel : decode M_X0_leastPeriod.2.1 14 = .ok (.ifCond .eq 5, 3)) rfl rfl),
   (fun lv st t o0 o1 x w => Ex_M (i := .iload_n 2) (n := 1) (by decide +kernel) rfl rfl rfl),
   (fun lv l x w => Ex_R (i := .ireturn) (n := 1) (by decide +kernel) rfl rfl rfl rfl rfl),
   (fun lv st t o0 o1 x w => Ex_iinc (by decide +kernel : decode M_X0_leastPeriod.2.1 19 = .ok (.iinc 2 1, 3)) rfl rfl (by decide) (by decide)),
   (fun lv l st w => Ex_goto (by decide +kernel : decode M_X0_leastPeriod.2.1 22 = .ok (.goto (-20), 3)) rfl),
   (fun lv l st w => Ex_A (i := .bipush 6) (n := 2) (by decide +kernel) rfl rfl),
   (fun lv l x w => Ex_R (i := .ireturn) (n := 1) (by decide +kernel) rfl rfl rfl rfl rfl)⟩
set_option maxRecDepth 20000 in
theorem H_X0_comesAgain_26 : ∀ (lv : Nat) (st : List Value) (t : LX) (o0 o1 o2 o3 o4 : Option Value) (x : Int32) (w : AH), Ex M_X0_comesAgain lv 26 (o0 :: o1 :: o2 :: o3 :: o4 :: some (.int x) :: t) st w = Ex M_X0_comesAgain lv 28 (o0 :: o1 :: o2 :: o3 :: o4 :: some (.int x) :: t) (.int x :: st) w := fun lv st t o0 o1 o2 o3 o4 x w => Ex_M (i := .iload 5) (n := 2) (by decide +kernel) rfl rfl rfl
set_option maxRecDepth 20000 in
theorem H_X0_comesAgain_36 : ∀ (lv : Nat) (st : List Value) (t : LX) (o0 o1 o2 o3 o4 o5 : Option Value) (x : Int32) (w : AH), Ex M_X0_comesAgain lv 36 (o0 :: o1 :: o2 :: o3 :: o4 :: o5 :: some (.int x) :: t) st w = Ex M_X0_comesAgain lv 38 (o0 :: o1 :: o2 :: o3 :: o4 :: o5 :: some (.int x) :: t) (.int x :: st) w := fun lv st t o0 o1 o2 o3 o4 o5 x w => Ex_M (i := .iload 6) (n := 2) (by decide +kernel) rfl rfl rfl
set_option maxRecDepth 20000 in
set_option maxHeartbeats 4000000 in
theorem R_X0_comesAgain : (∀ (lv : Nat) (st : List Value) (t : LX) (o0 : Option Value) (x : Int32) (w : AH), Ex M_X0_comesAgain lv 0 (o0 :: some (.int x) :: t) st w = Ex M_X0_comesAgain lv 1 (o0 :: some (.int x) :: t) (.int x :: st) w)
  ∧ (∀ (lv : Nat) (l : LX) (st : List Value) (x : Int32) (w : AH), Ex M_X0_comesAgain lv 1 l (.int x :: st) w = if x = 0 then Ex M_X0_comesAgain lv 8 l st w else Ex M_X0_comesAgain lv 4 l st w)
  ∧ (∀ (lv : Nat) (l : LX) (st : List Value) (w : AH), Ex M_X0_comesAgain lv 4 l st w = Ex M_X0_comesAgain lv 5 l (.int 1 :: st) w)
  ∧ (∀ (lv : Nat) (l : LX) (st : List Value) (w : AH), Ex M_X0_comesAgain lv 5 l st w = Ex M_X0_comesAgain lv 10 l st w)
  ∧ (∀ (lv : Nat) (l : LX) (st : List Value) (w : AH), Ex M_X0_comesAgain lv 8 l st w = Ex M_X0_comesAgain lv 10 l (.int 6 :: st) w)
  ∧ (∀ (lv : Nat) (l : LX) (st : List Value) (x : Int32) (w : AH), Ex M_X0_comesAgain lv 10 l (.int x :: st) w = Ex M_X0_comesAgain lv 11 (ls1 l 3 (.int x)) st w)
  ∧ (∀ (lv : Nat) (st : List Value) (t : LX) (o0 : Option Value) (x : Int32) (w : AH), Ex M_X0_comesAgain lv 11 (o0 :: some (.int x) :: t) st w = Ex M_X0_comesAgain lv 12 (o0 :: some (.int x) :: t) (.int x :: st) w)
  ∧ (∀ (lv : Nat) (l : LX) (st : List Value) (x : Int32) (w : AH), Ex M_X0_comesAgain lv 12 l (.int x :: st) w = if x = 0 then Ex M_X0_comesAgain lv 20 l st w else Ex M_X0_comesAgain lv 15 l st w)
  ∧ (∀ (lv : Nat) (l : LX) (st : List Value) (w : AH), Ex M_X0_comesAgain lv 15 l st w = Ex M_X0_comesAgain lv 17 l (.int 6 :: st) w)
  ∧ (∀ (lv : Nat) (l : LX) (st : List Value) (w : AH), Ex M_X0_comesAgain lv 17 l st w = Ex M_X0_comesAgain lv 21 l st w)
  ∧ (∀ (lv : Nat) (l : LX) (st : List Value) (w : AH), Ex M_X0_comesAgain lv 20 l st w = Ex M_X0_comesAgain lv 21 l (.int 1 :: st) w)
  ∧ (∀ (lv : Nat) (l : LX) (st : List Value) (x : Int32) (w : AH), Ex M_X0_comesAgain lv 21 l (.int x :: st) w = Ex M_X0_comesAgain lv 23 (ls1 l 4 (.int x)) st w)
  ∧ (∀ (lv : Nat) (l : LX) (st : List Value) (w : AH), Ex M_X0_comesAgain lv 23 l st w = Ex M_X0_comesAgain lv 24 l (.int 0 :: st) w)
  ∧ (∀ (lv : Nat) (l : LX) (st : List Value) (x : Int32) (w : AH), Ex M_X0_comesAgain lv 24 l (.int x :: st) w = Ex M_X0_comesAgain lv 26 (ls1 l 5 (.int x)) st w)
  ∧ (∀ (lv : Nat) (l : LX) (st : List Value) (w : AH), Ex M_X0_comesAgain lv 28 l st w = Ex M_X0_comesAgain lv 30 l (.int 6 :: st) w)
  ∧ (∀ (lv : Nat) (l : LX) (st : List Value) (x y : Int32) (w : AH), Ex M_X0_comesAgain lv 30 l (.int y :: .int x :: st) w = if y ≤ x then Ex M_X0_comesAgain lv 93 l st w else Ex M_X0_comesAgain lv 33 l st w)
  ∧ (∀ (lv : Nat) (l : LX) (st : List Value) (w : AH), Ex M_X0_comesAgain lv 33 l st w = Ex M_X0_comesAgain lv 34 l (.int 0 :: st) w)
  ∧ (∀ (lv : Nat) (l : LX) (st : List Value) (x : Int32) (w : AH), Ex M_X0_comesAgain lv 34 l (.int x :: st) w = Ex M_X0_comesAgain lv 36 (ls1 l 6 (.int x)) st w)
  ∧ (∀ (lv : Nat) (st : List Value) (t : LX) (o0 o1 : Option Value) (x : Int32) (w : AH), Ex M_X0_comesAgain lv 38 (o0 :: o1 :: some (.int x) :: t) st w = Ex M_X0_comesAgain lv 39 (o0 :: o1 :: some (.int x) :: t) (.int x :: st) w)
  ∧ (∀ (lv : Nat) (l : LX) (st : List Value) (x y : Int32) (w : AH), Ex M_X0_comesAgain lv 39 l (.int y :: .int x :: st) w = Ex M_X0_comesAgain lv 40 l (.int (x + y) :: st) w)
  ∧ (∀ (lv : Nat) (l : LX) (st : List Value) (w : AH), Ex M_X0_comesAgain lv 40 l st w = Ex M_X0_comesAgain lv 42 l (.int 6 :: st) w)
  ∧ (∀ (lv : Nat) (l : LX) (st : List Value) (x y : Int32) (w : AH), Ex M_X0_comesAgain lv 42 l (.int y :: .int x :: st) w = if y ≤ x then Ex M_X0_comesAgain lv 87 l st w else Ex M_X0_comesAgain lv 45 l st w)
  ∧ (∀ (lv : Nat) (st : List Value) (t : LX) (o0 o1 o2 o3 o4 : Option Value) (x : Int32) (w : AH), Ex M_X0_comesAgain lv 45 (o0 :: o1 :: o2 :: o3 :: o4 :: some (.int x) :: t) st w = Ex M_X0_comesAgain lv 47 (o0 :: o1 :: o2 :: o3 :: o4 :: some (.int x) :: t) (.int x :: st) w)
  ∧ (∀ (lv : Nat) (st : List Value) (t : LX) (o0 o1 o2 o3 : Option Value) (x : Int32) (w : AH), Ex M_X0_comesAgain lv 47 (o0 :: o1 :: o2 :: o3 :: some (.int x) :: t) st w = Ex M_X0_comesAgain lv 49 (o0 :: o1 :: o2 :: o3 :: some (.int x) :: t) (.int x :: st) w)
  ∧ (∀ (lv : Nat) (l : LX) (st : List Value) (x y : Int32) (w : AH), Ex M_X0_comesAgain lv 49 l (.int y :: .int x :: st) w = Ex M_X0_comesAgain lv 50 l (.int (x * y) :: st) w)
  ∧ (∀ (lv : Nat) (st : List Value) (t : LX) (o0 o1 o2 o3 o4 o5 : Option Value) (x : Int32) (w : AH), Ex M_X0_comesAgain lv 50 (o0 :: o1 :: o2 :: o3 :: o4 :: o5 :: some (.int x) :: t) st w = Ex M_X0_comesAgain lv 52 (o0 :: o1 :: o2 :: o3 :: o4 :: o5 :: some (.int x) :: t) (.int x :: st) w)
  ∧ (∀ (lv : Nat) (st : List Value) (t : LX) (o0 o1 o2 : Option Value) (x : Int32) (w : AH), Ex M_X0_comesAgain lv 52 (o0 :: o1 :: o2 :: some (.int x) :: t) st w = Ex M_X0_comesAgain lv 53 (o0 :: o1 :: o2 :: some (.int x) :: t) (.int x :: st) w)
  ∧ (∀ (lv : Nat) (l : LX) (st : List Value) (x y : Int32) (w : AH), Ex M_X0_comesAgain lv 53 l (.int y :: .int x :: st) w = Ex M_X0_comesAgain lv 54 l (.int (x * y) :: st) w)
  ∧ (∀ (lv : Nat) (l : LX) (st : List Value) (x y : Int32) (w : AH), Ex M_X0_comesAgain lv 54 l (.int y :: .int x :: st) w = Ex M_X0_comesAgain lv 55 l (.int (x + y) :: st) w)
  ∧ (∀ (lv : Nat) (l : LX) (st : List Value) (x : Int32) (w : AH), Ex M_X0_comesAgain lv 55 l (.int x :: st) w = Ex M_X0_comesAgain lv 57 (ls1 l 7 (.int x)) st w)
  ∧ (∀ (lv : Nat) (st : List Value) (t : LX) (x : Nat) (w : AH), Ex M_X0_comesAgain lv 57 (some (.ref x) :: t) st w = Ex M_X0_comesAgain lv 58 (some (.ref x) :: t) (.ref x :: st) w)
  ∧ (∀ (lv : Nat) (st : List Value) (t : LX) (w : AH), Ex M_X0_comesAgain lv 57 (some (.null) :: t) st w = Ex M_X0_comesAgain lv 58 (some (.null) :: t) (.null :: st) w)
  ∧ (∀ (lv : Nat) (st : List Value) (t : LX) (o0 o1 o2 o3 o4 o5 o6 : Option Value) (x : Int32) (w : AH), Ex M_X0_comesAgain lv 58 (o0 :: o1 :: o2 :: o3 :: o4 :: o5 :: o6 :: some (.int x) :: t) st w = Ex M_X0_comesAgain lv 60 (o0 :: o1 :: o2 :: o3 :: o4 :: o5 :: o6 :: some (.int x) :: t) (.int x :: st) w)
  ∧ (∀ (lv : Nat) (l : LX) (b : Nat) (a0 : Int32) (w : AH), Ex M_X0_comesAgain lv 60 l (.int a0 :: .ref b :: []) w = if clK (hg w b) = 0 then (if (Call M_X0_colourOf 60 [.ref b, .int a0] w).isSome = true then Ex M_X0_comesAgain lv 63 l (pushR (cV (Call M_X0_colourOf 60 [.ref b, .int a0] w)) []) (cW (Call M_X0_colourOf 60 [.ref b, .int a0] w) w) else none) else none)
  ∧ (∀ (lv : Nat) (st : List Value) (t : LX) (x : Nat) (w : AH), Ex M_X0_comesAgain lv 63 (some (.ref x) :: t) st w = Ex M_X0_comesAgain lv 64 (some (.ref x) :: t) (.ref x :: st) w)
  ∧ (∀ (lv : Nat) (st : List Value) (t : LX) (w : AH), Ex M_X0_comesAgain lv 63 (some (.null) :: t) st w = Ex M_X0_comesAgain lv 64 (some (.null) :: t) (.null :: st) w)
  ∧ (∀ (lv : Nat) (st : List Value) (t : LX) (o0 o1 o2 o3 o4 o5 o6 : Option Value) (x : Int32) (w : AH), Ex M_X0_comesAgain lv 64 (o0 :: o1 :: o2 :: o3 :: o4 :: o5 :: o6 :: some (.int x) :: t) st w = Ex M_X0_comesAgain lv 66 (o0 :: o1 :: o2 :: o3 :: o4 :: o5 :: o6 :: some (.int x) :: t) (.int x :: st) w)
  ∧ (∀ (lv : Nat) (st : List Value) (t : LX) (o0 o1 : Option Value) (x : Int32) (w : AH), Ex M_X0_comesAgain lv 66 (o0 :: o1 :: some (.int x) :: t) st w = Ex M_X0_comesAgain lv 67 (o0 :: o1 :: some (.int x) :: t) (.int x :: st) w)
  ∧ (∀ (lv : Nat) (st : List Value) (t : LX) (o0 o1 o2 : Option Value) (x : Int32) (w : AH), Ex M_X0_comesAgain lv 67 (o0 :: o1 :: o2 :: some (.int x) :: t) st w = Ex M_X0_comesAgain lv 68 (o0 :: o1 :: o2 :: some (.int x) :: t) (.int x :: st) w)
  ∧ (∀ (lv : Nat) (l : LX) (st : List Value) (x y : Int32) (w : AH), Ex M_X0_comesAgain lv 68 l (.int y :: .int x :: st) w = Ex M_X0_comesAgain lv 69 l (.int (x * y) :: st) w)
  ∧ (∀ (lv : Nat) (l : LX) (st : List Value) (x y : Int32) (w : AH), Ex M_X0_comesAgain lv 69 l (.int y :: .int x :: st) w = Ex M_X0_comesAgain lv 70 l (.int (x + y) :: st) w)
  ∧ (∀ (lv : Nat) (l : LX) (b : Nat) (a0 : Int32) (s0 : Int32) (w : AH), Ex M_X0_comesAgain lv 70 l (.int a0 :: .ref b :: [.int s0]) w = if clK (hg w b) = 0 then (if (Call M_X0_colourOf 60 [.ref b, .int a0] w).isSome = true then Ex M_X0_comesAgain lv 73 l (pushR (cV (Call M_X0_colourOf 60 [.ref b, .int a0] w)) [.int s0]) (cW (Call M_X0_colourOf 60 [.ref b, .int a0] w) w) else none) else none)
  ∧ (∀ (lv : Nat) (l : LX) (a0 : Int32) (a1 : Int32) (w : AH), Ex M_X0_comesAgain lv 73 l (.int a1 :: .int a0 :: []) w = if (Call M_X0_meets 60 [.int a0, .int a1] w).isSome = true then Ex M_X0_comesAgain lv 76 l (pushR (cV (Call M_X0_meets 60 [.int a0, .int a1] w)) []) (cW (Call M_X0_meets 60 [.int a0, .int a1] w) w) else none)
  ∧ (∀ (lv : Nat) (l : LX) (st : List Value) (x : Int32) (w : AH), Ex M_X0_comesAgain lv 76 l (.int x :: st) w = if ¬ x = 0 then Ex M_X0_comesAgain lv 81 l st w else Ex M_X0_comesAgain lv 79 l st w)
  ∧ (∀ (lv : Nat) (l : LX) (st : List Value) (w : AH), Ex M_X0_comesAgain lv 79 l st w = Ex M_X0_comesAgain lv 80 l (.int 0 :: st) w)
  ∧ (∀ (lv : Nat) (l : LX) (x : Int32) (w : AH), Ex M_X0_comesAgain lv 80 l [.int x] w = if x = 0 ∨ x = 1 then some (some (.int x), w) else none)
  ∧ (∀ (lv : Nat) (st : List Value) (t : LX) (o0 o1 o2 o3 o4 o5 : Option Value) (x : Int32) (w : AH), Ex M_X0_comesAgain lv 81 (o0 :: o1 :: o2 :: o3 :: o4 :: o5 :: some (.int x) :: t) st w = Ex M_X0_comesAgain lv 84 (ls1 (o0 :: o1 :: o2 :: o3 :: o4 :: o5 :: some (.int x) :: t) 6 (.int (x + 1))) st w)
  ∧ (∀ (lv : Nat) (l : LX) (st : List Value) (w : AH), Ex M_X0_comesAgain lv 84 l st w = Ex M_X0_comesAgain lv 36 l st w)
  ∧ (∀ (lv : Nat) (st : List Value) (t : LX) (o0 o1 o2 o3 o4 : Option Value) (x : Int32) (w : AH), Ex M_X0_comesAgain lv 87 (o0 :: o1 :: o2 :: o3 :: o4 :: some (.int x) :: t) st w = Ex M_X0_comesAgain lv 90 (ls1 (o0 :: o1 :: o2 :: o3 :: o4 :: some (.int x) :: t) 5 (.int (x + 1))) st w)
  ∧ (∀ (lv : Nat) (l : LX) (st : List Value) (w : AH), Ex M_X0_comesAgain lv 90 l st w = Ex M_X0_comesAgain lv 26 l st w)
  ∧ (∀ (lv : Nat) (l : LX) (st : List Value) (w : AH), Ex M_X0_comesAgain lv 93 l st w = Ex M_X0_comesAgain lv 94 l (.int 1 :: st) w)
  ∧ (∀ (lv : Nat) (l : LX) (x : Int32) (w : AH), Ex M_X0_comesAgain lv 94 l [.int x] w = if x = 0 ∨ x = 1 then some (some (.int x), w) else none) :=
  ⟨(fun lv st t o0 x w => Ex_M (i := .iload_n 1) (n := 1) (by decide +kernel) rfl rfl rfl),
   (fun lv l st x w => Ex_if_eq (by decide +kernel : decode M_X0_comesAgain.2.1 1 = .ok (.ifCond .eq 7, 3)) rfl rfl),
   (fun lv l st w => Ex_A (i := .iconst 1) (n := 1) (by decide +kernel) rfl rfl),
   (fun lv l st w => Ex_goto (by decide +kernel : decode M_X0_comesAgain.2.1 5 = .ok (.goto 5, 3)) rfl),
   (fun lv l st w => Ex_A (i := .bipush 6) (n := 2) (by decide +kernel) rfl rfl),
   (fun lv l st x w => Ex_M (i := .istore_n 3) (n := 1) (by decide +kernel) rfl rfl rfl),
   (fun lv st t o0 x w => Ex_M (i := .iload_n 1) (n := 1) (by decide +kernel) rfl rfl rfl),
   (fun lv l st x w => Ex_if_eq (by decide +kernel : decode M_X0_comesAgain.2.1 12 = .ok (.ifCond .eq 8, 3)) rfl rfl),
   (fun lv l st w => Ex_A (i := .bipush 6) (n := 2) (by decide +kernel) rfl rfl),
   (fun lv l st w => Ex_goto (by decide +kernel : decode M_X0_comesAgain.2.1 17 = .ok (.goto 4, 3)) rfl),
   (fun lv l st w => Ex_A (i := .iconst 1) (n := 1) (by decide +kernel) rfl rfl),
   (fun lv l st x w => Ex_M (i := .istore 4) (n := 2) (by decide +kernel) rfl rfl rfl),
   (fun lv l st w => Ex_A (i := .iconst 0) (n := 1) (by decide +kernel) rfl rfl),
   (fun lv l st x w => Ex_M (i := .istore 5) (n := 2) (by decide +kernel) rfl rfl rfl),
   (fun lv l st w => Ex_A (i := .bipush 6) (n := 2) (by decide +kernel) rfl rfl),
   (fun lv l st x y w => Ex_icmp_ge (by decide +kernel : decode M_X0_comesAgain.2.1 30 = .ok (.if_icmp .ge 63, 3)) rfl rfl),
   (fun lv l st w => Ex_A (i := .iconst 0) (n := 1) (by decide +kernel) rfl rfl),
   (fun lv l st x w => Ex_M (i := .istore 6) (n := 2) (by decide +kernel) rfl rfl rfl),
   (fun lv st t o0 o1 x w => Ex_M (i := .iload_n 2) (n := 1) (by decide +kernel) rfl rfl rfl),
   (fun lv l st x y w => Ex_A (i := .iadd) (n := 1) (by decide +kernel) rfl rfl),
   (fun lv l st w => Ex_A (i := .bipush 6) (n := 2) (by decide +kernel) rfl rfl),
   (fun lv l st x y w => Ex_icmp_ge (by decide +kernel : decode M_X0_comesAgain.2.1 42 = .ok (.if_icmp .ge 45, 3)) rfl rfl),
   (fun lv st t o0 o1 o2 o3 o4 x w => Ex_M (i := .iload 5) (n := 2) (by decide +kernel) rfl rfl rfl),
   (fun lv st t o0 o1 o2 o3 x w => Ex_M (i := .iload 4) (n := 2) (by decide +kernel) rfl rfl rfl),
   (fun lv l st x y w => Ex_A (i := .imul) (n := 1) (by decide +kernel) rfl rfl),
   (fun lv st t o0 o1 o2 o3 o4 o5 x w => Ex_M (i := .iload 6) (n := 2) (by decide +kernel) rfl rfl rfl),
   (fun lv st t o0 o1 o2 x w => Ex_M (i := .iload_n 3) (n := 1) (by decide +kernel) rfl rfl rfl),
   (fun lv l st x y w => Ex_A (i := .imul) (n := 1) (by decide +kernel) rfl rfl),
   (fun lv l st x y w => Ex_A (i := .iadd) (n := 1) (by decide +kernel) rfl rfl),
   (fun lv l st x w => Ex_M (i := .istore 7) (n := 2) (by decide +kernel) rfl rfl rfl),
   (fun lv st t x w => Ex_M (i := .aload_n 0) (n := 1) (by decide +kernel) rfl rfl rfl),
   (fun lv st t w => Ex_M (i := .aload_n 0) (n := 1) (by decide +kernel) rfl rfl rfl),
   (fun lv st t o0 o1 o2 o3 o4 o5 o6 x w => Ex_M (i := .iload 7) (n := 2) (by decide +kernel) rfl rfl rfl),
   (fun lv l b a0 w => Ex_callV (by decide +kernel : decode M_X0_comesAgain.2.1 60 = .ok (.invokevirtual 49, 3)) rfl (by rfl : resM (mCn M_X0_comesAgain) 49 = some (2, M_X0_colourOf)) rfl (by rfl) (Nat.le_of_ble_eq_true rfl) (by decide +kernel) (sLv_lt (by decide +kernel))),
   (fun lv st t x w => Ex_M (i := .aload_n 0) (n := 1) (by decide +kernel) rfl rfl rfl),
   (fun lv st t w => Ex_M (i := .aload_n 0) (n := 1) (by decide +kernel) rfl rfl rfl),
   (fun lv st t o0 o1 o2 o3 o4 o5 o6 x w => Ex_M (i := .iload 7) (n := 2) (by decide +kernel) rfl rfl rfl),
   (fun lv st t o0 o1 x w => Ex_M (i := .iload_n 2) (n := 1) (by decide +kernel) rfl rfl rfl),
   (fun lv st t o0 o1 o2 x w => Ex_M (i := .iload_n 3) (n := 1) (by decide +kernel) rfl rfl rfl),
   (fun lv l st x y w => Ex_A (i := .imul) (n := 1) (by decide +kernel) rfl rfl),
   (fun lv l st x y w => Ex_A (i := .iadd) (n := 1) (by decide +kernel) rfl rfl),
   (fun lv l b a0 s0 w => Ex_callV (by decide +kernel : decode M_X0_comesAgain.2.1 70 = .ok (.invokevirtual 49, 3)) rfl (by rfl : resM (mCn M_X0_comesAgain) 49 = some (2, M_X0_colourOf)) rfl (by rfl) (Nat.le_of_ble_eq_true rfl) (by decide +kernel) (sLv_lt (by decide +kernel))),
   (fun lv l a0 a1 w => Ex_callS (by decide +kernel : decode M_X0_comesAgain.2.1 73 = .ok (.invokestatic 81, 3)) rfl (by rfl : resM (mCn M_X0_comesAgain) 81 = some (0, M_X0_meets)) (by decide) rfl (by rfl) (Nat.le_of_ble_eq_true rfl) (sLv_lt (by decide +kernel))),
   (fun lv l st x w => Ex_if_ne (by decide +kernel : decode M_X0_comesAgain.2.1 76 = .ok (.ifCond .ne 5, 3)) rfl rfl),
   (fun lv l st w => Ex_A (i := .iconst 0) (n := 1) (by decide +kernel) rfl rfl),
   (fun lv l x w => Ex_zret (by decide +kernel : decode M_X0_comesAgain.2.1 80 = .ok (.ireturn, 1)) rfl),
   (fun lv st t o0 o1 o2 o3 o4 o5 x w => Ex_iinc (by decide +kernel : decode M_X0_comesAgain.2.1 81 = .ok (.iinc 6 1, 3)) rfl rfl (by decide) (by decide)),
   (fun lv l st w => Ex_goto (by decide +kernel : decode M_X0_comesAgain.2.1 84 = .ok (.goto (-48), 3)) rfl),
   (fun lv st t o0 o1 o2 o3 o4 x w => Ex_iinc (by decide +kernel : decode M_X0_comesAgain.2.1 87 = .ok (.iinc 5 1, 3)) rfl rfl (by decide) (by decide)),
   (fun lv l st w => Ex_goto (by decide +kernel : decode M_X0_comesAgain.2.1 90 = .ok (.goto (-64), 3)) rfl),
   (fun lv l st w => Ex_A (i := .iconst 1) (n := 1) (by decide +kernel) rfl rfl),
   (fun lv l x w => Ex_zret (by decide +kernel : decode M_X0_comesAgain.2.1 94 = .ok (.ireturn, 1)) rfl)⟩
set_option maxRecDepth 20000 in
theorem H_X0_staysBy_2 : ∀ (lv : Nat) (st : List Value) (t : LX) (o0 o1 : Option Value) (x : Int32) (w : AH), Ex M_X0_staysBy lv 2 (o0 :: o1 :: some (.int x) :: t) st w = Ex M_X0_staysBy lv 3 (o0 :: o1 :: some (.int x) :: t) (.int x :: st) w := fun lv st t o0 o1 x w => Ex_M (i := .iload_n 2) (n := 1) (by decide +kernel) rfl rfl rfl
set_option maxRecDepth 20000 in
set_option maxHeartbeats 4000000 in
theorem R_X0_staysBy : (∀ (lv : Nat) (l : LX) (st : List Value) (w : AH), Ex M_X0_staysBy lv 0 l st w = Ex M_X0_staysBy lv 1 l (.int 0 :: st) w)
  ∧ (∀ (lv : Nat) (l : LX) (st : List Value) (x : Int32) (w : AH), Ex M_X0_staysBy lv 1 l (.int x :: st) w = Ex M_X0_staysBy lv 2 (ls1 l 2 (.int x)) st w)
  ∧ (∀ (lv : Nat) (l : LX) (st : List Value) (w : AH), Ex M_X0_staysBy lv 3 l st w = Ex M_X0_staysBy lv 5 l (.int 36 :: st) w)
  ∧ (∀ (lv : Nat) (l : LX) (st : List Value) (x y : Int32) (w : AH), Ex M_X0_staysBy lv 5 l (.int y :: .int x :: st) w = if y ≤ x then Ex M_X0_staysBy lv 33 l st w else Ex M_X0_staysBy lv 8 l st w)
  ∧ (∀ (lv : Nat) (st : List Value) (t : LX) (x : Nat) (w : AH), Ex M_X0_staysBy lv 8 (some (.ref x) :: t) st w = Ex M_X0_staysBy lv 9 (some (.ref x) :: t) (.ref x :: st) w)
  ∧ (∀ (lv : Nat) (st : List Value) (t : LX) (w : AH), Ex M_X0_staysBy lv 8 (some (.null) :: t) st w = Ex M_X0_staysBy lv 9 (some (.null) :: t) (.null :: st) w)
  ∧ (∀ (lv : Nat) (st : List Value) (t : LX) (o0 o1 : Option Value) (x : Int32) (w : AH), Ex M_X0_staysBy lv 9 (o0 :: o1 :: some (.int x) :: t) st w = Ex M_X0_staysBy lv 10 (o0 :: o1 :: some (.int x) :: t) (.int x :: st) w)
  ∧ (∀ (lv : Nat) (l : LX) (b : Nat) (a0 : Int32) (w : AH), Ex M_X0_staysBy lv 10 l (.int a0 :: .ref b :: []) w = if clK (hg w b) = 0 then (if (Call M_X0_colourOf 60 [.ref b, .int a0] w).isSome = true then Ex M_X0_staysBy lv 13 l (pushR (cV (Call M_X0_colourOf 60 [.ref b, .int a0] w)) []) (cW (Call M_X0_colourOf 60 [.ref b, .int a0] w) w) else none) else none)
  ∧ (∀ (lv : Nat) (st : List Value) (t : LX) (x : Nat) (w : AH), Ex M_X0_staysBy lv 13 (some (.ref x) :: t) st w = Ex M_X0_staysBy lv 14 (some (.ref x) :: t) (.ref x :: st) w)
  ∧ (∀ (lv : Nat) (st : List Value) (t : LX) (w : AH), Ex M_X0_staysBy lv 13 (some (.null) :: t) st w = Ex M_X0_staysBy lv 14 (some (.null) :: t) (.null :: st) w)
  ∧ (∀ (lv : Nat) (st : List Value) (t : LX) (o0 o1 : Option Value) (x : Int32) (w : AH), Ex M_X0_staysBy lv 14 (o0 :: o1 :: some (.int x) :: t) st w = Ex M_X0_staysBy lv 15 (o0 :: o1 :: some (.int x) :: t) (.int x :: st) w)
  ∧ (∀ (lv : Nat) (st : List Value) (t : LX) (o0 : Option Value) (x : Int32) (w : AH), Ex M_X0_staysBy lv 15 (o0 :: some (.int x) :: t) st w = Ex M_X0_staysBy lv 16 (o0 :: some (.int x) :: t) (.int x :: st) w)
  ∧ (∀ (lv : Nat) (l : LX) (a0 : Int32) (a1 : Int32) (s0 : Nat) (s1 : Int32) (w : AH), Ex M_X0_staysBy lv 16 l (.int a1 :: .int a0 :: [.ref s0, .int s1]) w = if (Call M_X0_comesTo 60 [.int a0, .int a1] w).isSome = true then Ex M_X0_staysBy lv 19 l (pushR (cV (Call M_X0_comesTo 60 [.int a0, .int a1] w)) [.ref s0, .int s1]) (cW (Call M_X0_comesTo 60 [.int a0, .int a1] w) w) else none)
  ∧ (∀ (lv : Nat) (l : LX) (b : Nat) (a0 : Int32) (s0 : Int32) (w : AH), Ex M_X0_staysBy lv 19 l (.int a0 :: .ref b :: [.int s0]) w = if clK (hg w b) = 0 then (if (Call M_X0_colourOf 60 [.ref b, .int a0] w).isSome = true then Ex M_X0_staysBy lv 22 l (pushR (cV (Call M_X0_colourOf 60 [.ref b, .int a0] w)) [.int s0]) (cW (Call M_X0_colourOf 60 [.ref b, .int a0] w) w) else none) else none)
  ∧ (∀ (lv : Nat) (l : LX) (st : List Value) (x y : Int32) (w : AH), Ex M_X0_staysBy lv 22 l (.int y :: .int x :: st) w = if x = y then Ex M_X0_staysBy lv 27 l st w else Ex M_X0_staysBy lv 25 l st w)
  ∧ (∀ (lv : Nat) (l : LX) (st : List Value) (w : AH), Ex M_X0_staysBy lv 25 l st w = Ex M_X0_staysBy lv 26 l (.int 0 :: st) w)
  ∧ (∀ (lv : Nat) (l : LX) (x : Int32) (w : AH), Ex M_X0_staysBy lv 26 l [.int x] w = if x = 0 ∨ x = 1 then some (some (.int x), w) else none)
  ∧ (∀ (lv : Nat) (st : List Value) (t : LX) (o0 o1 : Option Value) (x : Int32) (w : AH), Ex M_X0_staysBy lv 27 (o0 :: o1 :: some (.int x) :: t) st w = Ex M_X0_staysBy lv 30 (ls1 (o0 :: o1 :: some (.int x) :: t) 2 (.int (x + 1))) st w)
  ∧ (∀ (lv : Nat) (l : LX) (st : List Value) (w : AH), Ex M_X0_staysBy lv 30 l st w = Ex M_X0_staysBy lv 2 l st w)
  ∧ (∀ (lv : Nat) (l : LX) (st : List Value) (w : AH), Ex M_X0_staysBy lv 33 l st w = Ex M_X0_staysBy lv 34 l (.int 1 :: st) w)
  ∧ (∀ (lv : Nat) (l : LX) (x : Int32) (w : AH), Ex M_X0_staysBy lv 34 l [.int x] w = if x = 0 ∨ x = 1 then some (some (.int x), w) else none) :=
  ⟨(fun lv l st w => Ex_A (i := .iconst 0) (n := 1) (by decide +kernel) rfl rfl),
   (fun lv l st x w => Ex_M (i := .istore_n 2) (n := 1) (by decide +kernel) rfl rfl rfl),
   (fun lv l st w => Ex_A (i := .bipush 36) (n := 2) (by decide +kernel) rfl rfl),
   (fun lv l st x y w => Ex_icmp_ge (by decide +kernel : decode M_X0_staysBy.2.1 5 = .ok (.if_icmp .ge 28, 3)) rfl rfl),
   (fun lv st t x w => Ex_M (i := .aload_n 0) (n := 1) (by decide +kernel) rfl rfl rfl),
   (fun lv st t w => Ex_M (i := .aload_n 0) (n := 1) (by decide +kernel) rfl rfl rfl),
   (fun lv st t o0 o1 x w => Ex_M (i := .iload_n 2) (n := 1) (by decide +kernel) rfl rfl rfl),
   (fun lv l b a0 w => Ex_callV (by decide +kernel : decode M_X0_staysBy.2.1 10 = .ok (.invokevirtual 49, 3)) rfl (by rfl : resM (mCn M_X0_staysBy) 49 = some (2, M_X0_colourOf)) rfl (by rfl) (Nat.le_of_ble_eq_true rfl) (by decide +kernel) (sLv_lt (by decide +kernel))),
   (fun lv st t x w => Ex_M (i := .aload_n 0) (n := 1) (by decide +kernel) rfl rfl rfl),
   (fun lv st t w => Ex_M (i := .aload_n 0) (n := 1) (by decide +kernel) rfl rfl rfl),
   (fun lv st t o0 o1 x w => Ex_M (i := .iload_n 2) (n := 1) (by decide +kernel) rfl rfl rfl),
   (fun lv st t o0 x w => Ex_M (i := .iload_n 1) (n := 1) (by decide +kernel) rfl rfl rfl),
   (fun lv l a0 a1 s0 s1 w => Ex_callS (by decide +kernel : decode M_X0_staysBy.2.1 16 = .ok (.invokestatic 85, 3)) rfl (by rfl : resM (mCn M_X0_staysBy) 85 = some (0, M_X0_comesTo)) (by decide) rfl (by rfl) (Nat.le_of_ble_eq_true rfl) (sLv_lt (by decide +kernel))),
   (fun lv l b a0 s0 w => Ex_callV (by decide +kernel : decode M_X0_staysBy.2.1 19 = .ok (.invokevirtual 49, 3)) rfl (by rfl : resM (mCn M_X0_staysBy) 49 = some (2, M_X0_colourOf)) rfl (by rfl) (Nat.le_of_ble_eq_true rfl) (by decide +kernel) (sLv_lt (by decide +kernel))),
   (fun lv l st x y w => Ex_icmp_eq (by decide +kernel : decode M_X0_staysBy.2.1 22 = .ok (.if_icmp .eq 5, 3)) rfl rfl),
   (fun lv l st w => Ex_A (i := .iconst 0) (n := 1) (by decide +kernel) rfl rfl),
   (fun lv l x w => Ex_zret (by decide +kernel : decode M_X0_staysBy.2.1 26 = .ok (.ireturn, 1)) rfl),
   (fun lv st t o0 o1 x w => Ex_iinc (by decide +kernel : decode M_X0_staysBy.2.1 27 = .ok (.iinc 2 1, 3)) rfl rfl (by decide) (by decide)),
   (fun lv l st w => Ex_goto (by decide +kernel : decode M_X0_staysBy.2.1 30 = .ok (.goto (-28), 3)) rfl),
   (fun lv l st w => Ex_A (i := .iconst 1) (n := 1) (by decide +kernel) rfl rfl),
   (fun lv l x w => Ex_zret (by decide +kernel : decode M_X0_staysBy.2.1 34 = .ok (.ireturn, 1)) rfl)⟩
set_option maxRecDepth 20000 in
theorem H_X0_comesTo_27 : ∀ (lv : Nat) (st : List Value) (t : LX) (o0 o1 o2 o3 : Option Value) (x : Int32) (w : AH), Ex M_X0_comesTo lv 27 (o0 :: o1 :: o2 :: o3 :: some (.int x) :: t) st w = Ex M_X0_comesTo lv 29 (o0 :: o1 :: o2 :: o3 :: some (.int x) :: t) (.int x :: st) w := fun lv st t o0 o1 o2 o3 x w => Ex_M (i := .iload 4) (n := 2) (by decide +kernel) rfl rfl rfl
set_option maxRecDepth 20000 in
set_option maxHeartbeats 4000000 in
theorem R_X0_comesTo : (∀ (lv : Nat) (st : List Value) (t : LX) (x : Int32) (w : AH), Ex M_X0_comesTo lv 0 (some (.int x) :: t) st w = Ex M_X0_comesTo lv 1 (some (.int x) :: t) (.int x :: st) w)
  ∧ (∀ (lv : Nat) (l : LX) (st : List Value) (w : AH), Ex M_X0_comesTo lv 1 l st w = Ex M_X0_comesTo lv 3 l (.int 6 :: st) w)
  ∧ (∀ (lv : Nat) (l : LX) (st : List Value) (x y : Int32) (w : AH), Ex M_X0_comesTo lv 3 l (.int y :: .int x :: st) w = if y = 0 then none else Ex M_X0_comesTo lv 4 l (.int (x / y) :: st) w)
  ∧ (∀ (lv : Nat) (l : LX) (st : List Value) (x : Int32) (w : AH), Ex M_X0_comesTo lv 4 l (.int x :: st) w = Ex M_X0_comesTo lv 5 (ls1 l 2 (.int x)) st w)
  ∧ (∀ (lv : Nat) (st : List Value) (t : LX) (o0 : Option Value) (x : Int32) (w : AH), Ex M_X0_comesTo lv 5 (o0 :: some (.int x) :: t) st w = Ex M_X0_comesTo lv 6 (o0 :: some (.int x) :: t) (.int x :: st) w)
  ∧ (∀ (lv : Nat) (l : LX) (st : List Value) (w : AH), Ex M_X0_comesTo lv 6 l st w = Ex M_X0_comesTo lv 7 l (.int 4 :: st) w)
  ∧ (∀ (lv : Nat) (l : LX) (st : List Value) (x y : Int32) (w : AH), Ex M_X0_comesTo lv 7 l (.int y :: .int x :: st) w = if y ≤ x then Ex M_X0_comesTo lv 17 l st w else Ex M_X0_comesTo lv 10 l st w)
  ∧ (∀ (lv : Nat) (st : List Value) (t : LX) (x : Int32) (w : AH), Ex M_X0_comesTo lv 10 (some (.int x) :: t) st w = Ex M_X0_comesTo lv 11 (some (.int x) :: t) (.int x :: st) w)
  ∧ (∀ (lv : Nat) (l : LX) (st : List Value) (w : AH), Ex M_X0_comesTo lv 11 l st w = Ex M_X0_comesTo lv 13 l (.int 6 :: st) w)
  ∧ (∀ (lv : Nat) (l : LX) (st : List Value) (x y : Int32) (w : AH), Ex M_X0_comesTo lv 13 l (.int y :: .int x :: st) w = if y = 0 then none else Ex M_X0_comesTo lv 14 l (.int (x - x / y * y) :: st) w)
  ∧ (∀ (lv : Nat) (l : LX) (st : List Value) (w : AH), Ex M_X0_comesTo lv 14 l st w = Ex M_X0_comesTo lv 23 l st w)
  ∧ (∀ (lv : Nat) (l : LX) (st : List Value) (w : AH), Ex M_X0_comesTo lv 17 l st w = Ex M_X0_comesTo lv 18 l (.int 5 :: st) w)
  ∧ (∀ (lv : Nat) (st : List Value) (t : LX) (x : Int32) (w : AH), Ex M_X0_comesTo lv 18 (some (.int x) :: t) st w = Ex M_X0_comesTo lv 19 (some (.int x) :: t) (.int x :: st) w)
  ∧ (∀ (lv : Nat) (l : LX) (st : List Value) (w : AH), Ex M_X0_comesTo lv 19 l st w = Ex M_X0_comesTo lv 21 l (.int 6 :: st) w)
  ∧ (∀ (lv : Nat) (l : LX) (st : List Value) (x y : Int32) (w : AH), Ex M_X0_comesTo lv 21 l (.int y :: .int x :: st) w = if y = 0 then none else Ex M_X0_comesTo lv 22 l (.int (x - x / y * y) :: st) w)
  ∧ (∀ (lv : Nat) (l : LX) (st : List Value) (x y : Int32) (w : AH), Ex M_X0_comesTo lv 22 l (.int y :: .int x :: st) w = Ex M_X0_comesTo lv 23 l (.int (x - y) :: st) w)
  ∧ (∀ (lv : Nat) (l : LX) (st : List Value) (x : Int32) (w : AH), Ex M_X0_comesTo lv 23 l (.int x :: st) w = Ex M_X0_comesTo lv 24 (ls1 l 3 (.int x)) st w)
  ∧ (∀ (lv : Nat) (l : LX) (st : List Value) (w : AH), Ex M_X0_comesTo lv 24 l st w = Ex M_X0_comesTo lv 25 l (.int 0 :: st) w)
  ∧ (∀ (lv : Nat) (l : LX) (st : List Value) (x : Int32) (w : AH), Ex M_X0_comesTo lv 25 l (.int x :: st) w = Ex M_X0_comesTo lv 27 (ls1 l 4 (.int x)) st w)
  ∧ (∀ (lv : Nat) (st : List Value) (t : LX) (o0 : Option Value) (x : Int32) (w : AH), Ex M_X0_comesTo lv 29 (o0 :: some (.int x) :: t) st w = Ex M_X0_comesTo lv 30 (o0 :: some (.int x) :: t) (.int x :: st) w)
  ∧ (∀ (lv : Nat) (l : LX) (st : List Value) (w : AH), Ex M_X0_comesTo lv 30 l st w = Ex M_X0_comesTo lv 31 l (.int 4 :: st) w)
  ∧ (∀ (lv : Nat) (l : LX) (st : List Value) (x y : Int32) (w : AH), Ex M_X0_comesTo lv 31 l (.int y :: .int x :: st) w = if y = 0 then none else Ex M_X0_comesTo lv 32 l (.int (x - x / y * y) :: st) w)
  ∧ (∀ (lv : Nat) (l : LX) (st : List Value) (x y : Int32) (w : AH), Ex M_X0_comesTo lv 32 l (.int y :: .int x :: st) w = if y ≤ x then Ex M_X0_comesTo lv 51 l st w else Ex M_X0_comesTo lv 35 l st w)
  ∧ (∀ (lv : Nat) (st : List Value) (t : LX) (o0 o1 : Option Value) (x : Int32) (w : AH), Ex M_X0_comesTo lv 35 (o0 :: o1 :: some (.int x) :: t) st w = Ex M_X0_comesTo lv 36 (o0 :: o1 :: some (.int x) :: t) (.int x :: st) w)
  ∧ (∀ (lv : Nat) (l : LX) (st : List Value) (x : Int32) (w : AH), Ex M_X0_comesTo lv 36 l (.int x :: st) w = Ex M_X0_comesTo lv 38 (ls1 l 5 (.int x)) st w)
  ∧ (∀ (lv : Nat) (st : List Value) (t : LX) (o0 o1 o2 : Option Value) (x : Int32) (w : AH), Ex M_X0_comesTo lv 38 (o0 :: o1 :: o2 :: some (.int x) :: t) st w = Ex M_X0_comesTo lv 39 (o0 :: o1 :: o2 :: some (.int x) :: t) (.int x :: st) w)
  ∧ (∀ (lv : Nat) (l : LX) (st : List Value) (x : Int32) (w : AH), Ex M_X0_comesTo lv 39 l (.int x :: st) w = Ex M_X0_comesTo lv 40 (ls1 l 2 (.int x)) st w)
  ∧ (∀ (lv : Nat) (l : LX) (st : List Value) (w : AH), Ex M_X0_comesTo lv 40 l st w = Ex M_X0_comesTo lv 41 l (.int 5 :: st) w)
  ∧ (∀ (lv : Nat) (st : List Value) (t : LX) (o0 o1 o2 o3 o4 : Option Value) (x : Int32) (w : AH), Ex M_X0_comesTo lv 41 (o0 :: o1 :: o2 :: o3 :: o4 :: some (.int x) :: t) st w = Ex M_X0_comesTo lv 43 (o0 :: o1 :: o2 :: o3 :: o4 :: some (.int x) :: t) (.int x :: st) w)
  ∧ (∀ (lv : Nat) (l : LX) (st : List Value) (x y : Int32) (w : AH), Ex M_X0_comesTo lv 43 l (.int y :: .int x :: st) w = Ex M_X0_comesTo lv 44 l (.int (x - y) :: st) w)
  ∧ (∀ (lv : Nat) (l : LX) (st : List Value) (x : Int32) (w : AH), Ex M_X0_comesTo lv 44 l (.int x :: st) w = Ex M_X0_comesTo lv 45 (ls1 l 3 (.int x)) st w)
  ∧ (∀ (lv : Nat) (st : List Value) (t : LX) (o0 o1 o2 o3 : Option Value) (x : Int32) (w : AH), Ex M_X0_comesTo lv 45 (o0 :: o1 :: o2 :: o3 :: some (.int x) :: t) st w = Ex M_X0_comesTo lv 48 (ls1 (o0 :: o1 :: o2 :: o3 :: some (.int x) :: t) 4 (.int (x + 1))) st w)
  ∧ (∀ (lv : Nat) (l : LX) (st : List Value) (w : AH), Ex M_X0_comesTo lv 48 l st w = Ex M_X0_comesTo lv 27 l st w)
  ∧ (∀ (lv : Nat) (st : List Value) (t : LX) (o0 o1 : Option Value) (x : Int32) (w : AH), Ex M_X0_comesTo lv 51 (o0 :: o1 :: some (.int x) :: t) st w = Ex M_X0_comesTo lv 52 (o0 :: o1 :: some (.int x) :: t) (.int x :: st) w)
  ∧ (∀ (lv : Nat) (l : LX) (st : List Value) (w : AH), Ex M_X0_comesTo lv 52 l st w = Ex M_X0_comesTo lv 54 l (.int 6 :: st) w)
  ∧ (∀ (lv : Nat) (l : LX) (st : List Value) (x y : Int32) (w : AH), Ex M_X0_comesTo lv 54 l (.int y :: .int x :: st) w = Ex M_X0_comesTo lv 55 l (.int (x * y) :: st) w)
  ∧ (∀ (lv : Nat) (st : List Value) (t : LX) (o0 o1 o2 : Option Value) (x : Int32) (w : AH), Ex M_X0_comesTo lv 55 (o0 :: o1 :: o2 :: some (.int x) :: t) st w = Ex M_X0_comesTo lv 56 (o0 :: o1 :: o2 :: some (.int x) :: t) (.int x :: st) w)
  ∧ (∀ (lv : Nat) (l : LX) (st : List Value) (x y : Int32) (w : AH), Ex M_X0_comesTo lv 56 l (.int y :: .int x :: st) w = Ex M_X0_comesTo lv 57 l (.int (x + y) :: st) w)
  ∧ (∀ (lv : Nat) (l : LX) (x : Int32) (w : AH), Ex M_X0_comesTo lv 57 l [.int x] w = some (some (.int x), w)) :=
  ⟨(fun lv st t x w => Ex_M (i := .iload_n 0) (n := 1) (by decide +kernel) rfl rfl rfl),
   (fun lv l st w => Ex_A (i := .bipush 6) (n := 2) (by decide +kernel) rfl rfl),
   (fun lv l st x y w => Ex_idiv (by decide +kernel : decode M_X0_comesTo.2.1 3 = .ok (.idiv, 1)) rfl),
   (fun lv l st x w => Ex_M (i := .istore_n 2) (n := 1) (by decide +kernel) rfl rfl rfl),
   (fun lv st t o0 x w => Ex_M (i := .iload_n 1) (n := 1) (by decide +kernel) rfl rfl rfl),
   (fun lv l st w => Ex_A (i := .iconst 4) (n := 1) (by decide +kernel) rfl rfl),
   (fun lv l st x y w => Ex_icmp_ge (by decide +kernel : decode M_X0_comesTo.2.1 7 = .ok (.if_icmp .ge 10, 3)) rfl rfl),
   (fun lv st t x w => Ex_M (i := .iload_n 0) (n := 1) (by decide +kernel) rfl rfl rfl),
   (fun lv l st w => Ex_A (i := .bipush 6) (n := 2) (by decide +kernel) rfl rfl),
   (fun lv l st x y w => Ex_irem (by decide +kernel : decode M_X0_comesTo.2.1 13 = .ok (.irem, 1)) rfl),
   (fun lv l st w => Ex_goto (by decide +kernel : decode M_X0_comesTo.2.1 14 = .ok (.goto 9, 3)) rfl),
   (fun lv l st w => Ex_A (i := .iconst 5) (n := 1) (by decide +kernel) rfl rfl),
   (fun lv st t x w => Ex_M (i := .iload_n 0) (n := 1) (by decide +kernel) rfl rfl rfl),
   (fun lv l st w => Ex_A (i := .bipush 6) (n := 2) (by decide +kernel) rfl rfl),
   (fun lv l st x y w => Ex_irem (by decide +kernel : decode M_X0_comesTo.2.1 21 = .ok (.irem, 1)) rfl),
   (fun lv l st x y w => Ex_A (i := .isub) (n := 1) (by decide +kernel) rfl rfl),
   (fun lv l st x w => Ex_M (i := .istore_n 3) (n := 1) (by decide +kernel) rfl rfl rfl),
   (fun lv l st w => Ex_A (i := .iconst 0) (n := 1) (by decide +kernel) rfl rfl),
   (fun lv l st x w => Ex_M (i := .istore 4) (n := 2) (by decide +kernel) rfl rfl rfl),
   (fun lv st t o0 x w => Ex_M (i := .iload_n 1) (n := 1) (by decide +kernel) rfl rfl rfl),
   (fun lv l st w => Ex_A (i := .iconst 4) (n := 1) (by decide +kernel) rfl rfl),
   (fun lv l st x y w => Ex_irem (by decide +kernel : decode M_X0_comesTo.2.1 31 = .ok (.irem, 1)) rfl),
   (fun lv l st x y w => Ex_icmp_ge (by decide +kernel : decode M_X0_comesTo.2.1 32 = .ok (.if_icmp .ge 19, 3)) rfl rfl),
   (fun lv st t o0 o1 x w => Ex_M (i := .iload_n 2) (n := 1) (by decide +kernel) rfl rfl rfl),
   (fun lv l st x w => Ex_M (i := .istore 5) (n := 2) (by decide +kernel) rfl rfl rfl),
   (fun lv st t o0 o1 o2 x w => Ex_M (i := .iload_n 3) (n := 1) (by decide +kernel) rfl rfl rfl),
   (fun lv l st x w => Ex_M (i := .istore_n 2) (n := 1) (by decide +kernel) rfl rfl rfl),
   (fun lv l st w => Ex_A (i := .iconst 5) (n := 1) (by decide +kernel) rfl rfl),
   (fun lv st t o0 o1 o2 o3 o4 x w => Ex_M (i := .iload 5) (n := 2) (by decide +kernel) rfl rfl rfl),
   (fun lv l st x y w => Ex_A (i := .isub) (n := 1) (by decide +kernel) rfl rfl),
   (fun lv l st x w => Ex_M (i := .istore_n 3) (n := 1) (by decide +kernel) rfl rfl rfl),
   (fun lv st t o0 o1 o2 o3 x w => Ex_iinc (by decide +kernel : decode M_X0_comesTo.2.1 45 = .ok (.iinc 4 1, 3)) rfl rfl (by decide) (by decide)),
   (fun lv l st w => Ex_goto (by decide +kernel : decode M_X0_comesTo.2.1 48 = .ok (.goto (-21), 3)) rfl),
   (fun lv st t o0 o1 x w => Ex_M (i := .iload_n 2) (n := 1) (by decide +kernel) rfl rfl rfl),
   (fun lv l st w => Ex_A (i := .bipush 6) (n := 2) (by decide +kernel) rfl rfl),
   (fun lv l st x y w => Ex_A (i := .imul) (n := 1) (by decide +kernel) rfl rfl),
   (fun lv st t o0 o1 o2 x w => Ex_M (i := .iload_n 3) (n := 1) (by decide +kernel) rfl rfl rfl),
   (fun lv l st x y w => Ex_A (i := .iadd) (n := 1) (by decide +kernel) rfl rfl),
   (fun lv l x w => Ex_R (i := .ireturn) (n := 1) (by decide +kernel) rfl rfl rfl rfl rfl)⟩
set_option maxRecDepth 20000 in
theorem H_X0_fitsBy_3 : ∀ (lv : Nat) (st : List Value) (t : LX) (o0 o1 o2 o3 : Option Value) (x : Int32) (w : AH), Ex M_X0_fitsBy lv 3 (o0 :: o1 :: o2 :: o3 :: some (.int x) :: t) st w = Ex M_X0_fitsBy lv 5 (o0 :: o1 :: o2 :: o3 :: some (.int x) :: t) (.int x :: st) w := fun lv st t o0 o1 o2 o3 x w => Ex_M (i := .iload 4) (n := 2) (by decide +kernel) rfl rfl rfl
set_option maxRecDepth 20000 in
set_option maxHeartbeats 4000000 in
theorem R_X0_fitsBy : (∀ (lv : Nat) (l : LX) (st : List Value) (w : AH), Ex M_X0_fitsBy lv 0 l st w = Ex M_X0_fitsBy lv 1 l (.int 0 :: st) w)
  ∧ (∀ (lv : Nat) (l : LX) (st : List Value) (x : Int32) (w : AH), Ex M_X0_fitsBy lv 1 l (.int x :: st) w = Ex M_X0_fitsBy lv 3 (ls1 l 4 (.int x)) st w)
  ∧ (∀ (lv : Nat) (l : LX) (st : List Value) (w : AH), Ex M_X0_fitsBy lv 5 l st w = Ex M_X0_fitsBy lv 7 l (.int 36 :: st) w)
  ∧ (∀ (lv : Nat) (l : LX) (st : List Value) (x y : Int32) (w : AH), Ex M_X0_fitsBy lv 7 l (.int y :: .int x :: st) w = if y ≤ x then Ex M_X0_fitsBy lv 92 l st w else Ex M_X0_fitsBy lv 10 l st w)
  ∧ (∀ (lv : Nat) (st : List Value) (t : LX) (o0 o1 o2 o3 : Option Value) (x : Int32) (w : AH), Ex M_X0_fitsBy lv 10 (o0 :: o1 :: o2 :: o3 :: some (.int x) :: t) st w = Ex M_X0_fitsBy lv 12 (o0 :: o1 :: o2 :: o3 :: some (.int x) :: t) (.int x :: st) w)
  ∧ (∀ (lv : Nat) (l : LX) (st : List Value) (w : AH), Ex M_X0_fitsBy lv 12 l st w = Ex M_X0_fitsBy lv 14 l (.int 6 :: st) w)
  ∧ (∀ (lv : Nat) (l : LX) (st : List Value) (x y : Int32) (w : AH), Ex M_X0_fitsBy lv 14 l (.int y :: .int x :: st) w = if y = 0 then none else Ex M_X0_fitsBy lv 15 l (.int (x / y) :: st) w)
  ∧ (∀ (lv : Nat) (st : List Value) (t : LX) (o0 o1 : Option Value) (x : Int32) (w : AH), Ex M_X0_fitsBy lv 15 (o0 :: o1 :: some (.int x) :: t) st w = Ex M_X0_fitsBy lv 16 (o0 :: o1 :: some (.int x) :: t) (.int x :: st) w)
  ∧ (∀ (lv : Nat) (l : LX) (st : List Value) (x y : Int32) (w : AH), Ex M_X0_fitsBy lv 16 l (.int y :: .int x :: st) w = Ex M_X0_fitsBy lv 17 l (.int (x + y) :: st) w)
  ∧ (∀ (lv : Nat) (l : LX) (st : List Value) (x : Int32) (w : AH), Ex M_X0_fitsBy lv 17 l (.int x :: st) w = Ex M_X0_fitsBy lv 19 (ls1 l 5 (.int x)) st w)
  ∧ (∀ (lv : Nat) (st : List Value) (t : LX) (o0 o1 o2 o3 : Option Value) (x : Int32) (w : AH), Ex M_X0_fitsBy lv 19 (o0 :: o1 :: o2 :: o3 :: some (.int x) :: t) st w = Ex M_X0_fitsBy lv 21 (o0 :: o1 :: o2 :: o3 :: some (.int x) :: t) (.int x :: st) w)
  ∧ (∀ (lv : Nat) (l : LX) (st : List Value) (w : AH), Ex M_X0_fitsBy lv 21 l st w = Ex M_X0_fitsBy lv 23 l (.int 6 :: st) w)
  ∧ (∀ (lv : Nat) (l : LX) (st : List Value) (x y : Int32) (w : AH), Ex M_X0_fitsBy lv 23 l (.int y :: .int x :: st) w = if y = 0 then none else Ex M_X0_fitsBy lv 24 l (.int (x - x / y * y) :: st) w)
  ∧ (∀ (lv : Nat) (st : List Value) (t : LX) (o0 o1 o2 : Option Value) (x : Int32) (w : AH), Ex M_X0_fitsBy lv 24 (o0 :: o1 :: o2 :: some (.int x) :: t) st w = Ex M_X0_fitsBy lv 25 (o0 :: o1 :: o2 :: some (.int x) :: t) (.int x :: st) w)
  ∧ (∀ (lv : Nat) (l : LX) (st : List Value) (x y : Int32) (w : AH), Ex M_X0_fitsBy lv 25 l (.int y :: .int x :: st) w = Ex M_X0_fitsBy lv 26 l (.int (x + y) :: st) w)
  ∧ (∀ (lv : Nat) (l : LX) (st : List Value) (x : Int32) (w : AH), Ex M_X0_fitsBy lv 26 l (.int x :: st) w = Ex M_X0_fitsBy lv 28 (ls1 l 6 (.int x)) st w)
  ∧ (∀ (lv : Nat) (st : List Value) (t : LX) (o0 o1 o2 o3 o4 : Option Value) (x : Int32) (w : AH), Ex M_X0_fitsBy lv 28 (o0 :: o1 :: o2 :: o3 :: o4 :: some (.int x) :: t) st w = Ex M_X0_fitsBy lv 30 (o0 :: o1 :: o2 :: o3 :: o4 :: some (.int x) :: t) (.int x :: st) w)
  ∧ (∀ (lv : Nat) (l : LX) (st : List Value) (w : AH), Ex M_X0_fitsBy lv 30 l st w = Ex M_X0_fitsBy lv 31 l (.int 0 :: st) w)
  ∧ (∀ (lv : Nat) (l : LX) (st : List Value) (w : AH), Ex M_X0_fitsBy lv 31 l st w = Ex M_X0_fitsBy lv 32 l (.int 5 :: st) w)
  ∧ (∀ (lv : Nat) (l : LX) (a0 : Int32) (a1 : Int32) (a2 : Int32) (w : AH), Ex M_X0_fitsBy lv 32 l (.int a2 :: .int a1 :: .int a0 :: []) w = if (Call M_X11_isWithin 60 [.int a0, .int a1, .int a2] w).isSome = true then Ex M_X0_fitsBy lv 35 l (pushR (cV (Call M_X11_isWithin 60 [.int a0, .int a1, .int a2] w)) []) (cW (Call M_X11_isWithin 60 [.int a0, .int a1, .int a2] w) w) else none)
  ∧ (∀ (lv : Nat) (l : LX) (st : List Value) (x : Int32) (w : AH), Ex M_X0_fitsBy lv 35 l (.int x :: st) w = if x = 0 then Ex M_X0_fitsBy lv 52 l st w else Ex M_X0_fitsBy lv 38 l st w)
  ∧ (∀ (lv : Nat) (st : List Value) (t : LX) (o0 o1 o2 o3 o4 o5 : Option Value) (x : Int32) (w : AH), Ex M_X0_fitsBy lv 38 (o0 :: o1 :: o2 :: o3 :: o4 :: o5 :: some (.int x) :: t) st w = Ex M_X0_fitsBy lv 40 (o0 :: o1 :: o2 :: o3 :: o4 :: o5 :: some (.int x) :: t) (.int x :: st) w)
  ∧ (∀ (lv : Nat) (l : LX) (st : List Value) (w : AH), Ex M_X0_fitsBy lv 40 l st w = Ex M_X0_fitsBy lv 41 l (.int 0 :: st) w)
  ∧ (∀ (lv : Nat) (l : LX) (st : List Value) (w : AH), Ex M_X0_fitsBy lv 41 l st w = Ex M_X0_fitsBy lv 42 l (.int 5 :: st) w)
  ∧ (∀ (lv : Nat) (l : LX) (a0 : Int32) (a1 : Int32) (a2 : Int32) (w : AH), Ex M_X0_fitsBy lv 42 l (.int a2 :: .int a1 :: .int a0 :: []) w = if (Call M_X11_isWithin 60 [.int a0, .int a1, .int a2] w).isSome = true then Ex M_X0_fitsBy lv 45 l (pushR (cV (Call M_X11_isWithin 60 [.int a0, .int a1, .int a2] w)) []) (cW (Call M_X11_isWithin 60 [.int a0, .int a1, .int a2] w) w) else none)
  ∧ (∀ (lv : Nat) (l : LX) (st : List Value) (x : Int32) (w : AH), Ex M_X0_fitsBy lv 45 l (.int x :: st) w = if x = 0 then Ex M_X0_fitsBy lv 52 l st w else Ex M_X0_fitsBy lv 48 l st w)
  ∧ (∀ (lv : Nat) (l : LX) (st : List Value) (w : AH), Ex M_X0_fitsBy lv 48 l st w = Ex M_X0_fitsBy lv 49 l (.int 1 :: st) w)
  ∧ (∀ (lv : Nat) (l : LX) (st : List Value) (w : AH), Ex M_X0_fitsBy lv 49 l st w = Ex M_X0_fitsBy lv 53 l st w)
  ∧ (∀ (lv : Nat) (l : LX) (st : List Value) (w : AH), Ex M_X0_fitsBy lv 52 l st w = Ex M_X0_fitsBy lv 53 l (.int 0 :: st) w)
  ∧ (∀ (lv : Nat) (l : LX) (st : List Value) (x : Int32) (w : AH), Ex M_X0_fitsBy lv 53 l (.int x :: st) w = Ex M_X0_fitsBy lv 55 (ls1 l 7 (.int x)) st w)
  ∧ (∀ (lv : Nat) (st : List Value) (t : LX) (o0 o1 o2 o3 o4 o5 o6 : Option Value) (x : Int32) (w : AH), Ex M_X0_fitsBy lv 55 (o0 :: o1 :: o2 :: o3 :: o4 :: o5 :: o6 :: some (.int x) :: t) st w = Ex M_X0_fitsBy lv 57 (o0 :: o1 :: o2 :: o3 :: o4 :: o5 :: o6 :: some (.int x) :: t) (.int x :: st) w)
  ∧ (∀ (lv : Nat) (l : LX) (st : List Value) (x : Int32) (w : AH), Ex M_X0_fitsBy lv 57 l (.int x :: st) w = if x = 0 then Ex M_X0_fitsBy lv 86 l st w else Ex M_X0_fitsBy lv 60 l st w)
  ∧ (∀ (lv : Nat) (st : List Value) (t : LX) (o0 : Option Value) (x : Nat) (w : AH), Ex M_X0_fitsBy lv 60 (o0 :: some (.ref x) :: t) st w = Ex M_X0_fitsBy lv 61 (o0 :: some (.ref x) :: t) (.ref x :: st) w)
  ∧ (∀ (lv : Nat) (st : List Value) (t : LX) (o0 : Option Value) (w : AH), Ex M_X0_fitsBy lv 60 (o0 :: some (.null) :: t) st w = Ex M_X0_fitsBy lv 61 (o0 :: some (.null) :: t) (.null :: st) w)
  ∧ (∀ (lv : Nat) (st : List Value) (t : LX) (o0 o1 o2 o3 : Option Value) (x : Int32) (w : AH), Ex M_X0_fitsBy lv 61 (o0 :: o1 :: o2 :: o3 :: some (.int x) :: t) st w = Ex M_X0_fitsBy lv 63 (o0 :: o1 :: o2 :: o3 :: some (.int x) :: t) (.int x :: st) w)
  ∧ (∀ (lv : Nat) (l : LX) (b : Nat) (a0 : Int32) (w : AH), Ex M_X0_fitsBy lv 63 l (.int a0 :: .ref b :: []) w = if clK (hg w b) = 7 then (if (Call M_X8_get 60 [.ref b, .int a0] w).isSome = true then Ex M_X0_fitsBy lv 66 l (pushR (cV (Call M_X8_get 60 [.ref b, .int a0] w)) []) (cW (Call M_X8_get 60 [.ref b, .int a0] w) w) else none) else none)
  ∧ (∀ (lv : Nat) (st : List Value) (t : LX) (x : Nat) (w : AH), Ex M_X0_fitsBy lv 66 (some (.ref x) :: t) st w = Ex M_X0_fitsBy lv 67 (some (.ref x) :: t) (.ref x :: st) w)
  ∧ (∀ (lv : Nat) (st : List Value) (t : LX) (w : AH), Ex M_X0_fitsBy lv 66 (some (.null) :: t) st w = Ex M_X0_fitsBy lv 67 (some (.null) :: t) (.null :: st) w)
  ∧ (∀ (lv : Nat) (st : List Value) (t : LX) (o0 o1 o2 o3 o4 : Option Value) (x : Int32) (w : AH), Ex M_X0_fitsBy lv 67 (o0 :: o1 :: o2 :: o3 :: o4 :: some (.int x) :: t) st w = Ex M_X0_fitsBy lv 69 (o0 :: o1 :: o2 :: o3 :: o4 :: some (.int x) :: t) (.int x :: st) w)
  ∧ (∀ (lv : Nat) (l : LX) (st : List Value) (w : AH), Ex M_X0_fitsBy lv 69 l st w = Ex M_X0_fitsBy lv 71 l (.int 6 :: st) w)
  ∧ (∀ (lv : Nat) (l : LX) (st : List Value) (x y : Int32) (w : AH), Ex M_X0_fitsBy lv 71 l (.int y :: .int x :: st) w = Ex M_X0_fitsBy lv 72 l (.int (x * y) :: st) w)
  ∧ (∀ (lv : Nat) (st : List Value) (t : LX) (o0 o1 o2 o3 o4 o5 : Option Value) (x : Int32) (w : AH), Ex M_X0_fitsBy lv 72 (o0 :: o1 :: o2 :: o3 :: o4 :: o5 :: some (.int x) :: t) st w = Ex M_X0_fitsBy lv 74 (o0 :: o1 :: o2 :: o3 :: o4 :: o5 :: some (.int x) :: t) (.int x :: st) w)
  ∧ (∀ (lv : Nat) (l : LX) (st : List Value) (x y : Int32) (w : AH), Ex M_X0_fitsBy lv 74 l (.int y :: .int x :: st) w = Ex M_X0_fitsBy lv 75 l (.int (x + y) :: st) w)
  ∧ (∀ (lv : Nat) (l : LX) (b : Nat) (a0 : Int32) (s0 : Int32) (w : AH), Ex M_X0_fitsBy lv 75 l (.int a0 :: .ref b :: [.int s0]) w = if clK (hg w b) = 0 then (if (Call M_X0_colourOf 60 [.ref b, .int a0] w).isSome = true then Ex M_X0_fitsBy lv 78 l (pushR (cV (Call M_X0_colourOf 60 [.ref b, .int a0] w)) [.int s0]) (cW (Call M_X0_colourOf 60 [.ref b, .int a0] w) w) else none) else none)
  ∧ (∀ (lv : Nat) (l : LX) (a0 : Int32) (a1 : Int32) (w : AH), Ex M_X0_fitsBy lv 78 l (.int a1 :: .int a0 :: []) w = if (Call M_X0_meets 60 [.int a0, .int a1] w).isSome = true then Ex M_X0_fitsBy lv 81 l (pushR (cV (Call M_X0_meets 60 [.int a0, .int a1] w)) []) (cW (Call M_X0_meets 60 [.int a0, .int a1] w) w) else none)
  ∧ (∀ (lv : Nat) (l : LX) (st : List Value) (x : Int32) (w : AH), Ex M_X0_fitsBy lv 81 l (.int x :: st) w = if ¬ x = 0 then Ex M_X0_fitsBy lv 86 l st w else Ex M_X0_fitsBy lv 84 l st w)
  ∧ (∀ (lv : Nat) (l : LX) (st : List Value) (w : AH), Ex M_X0_fitsBy lv 84 l st w = Ex M_X0_fitsBy lv 85 l (.int 0 :: st) w)
  ∧ (∀ (lv : Nat) (l : LX) (x : Int32) (w : AH), Ex M_X0_fitsBy lv 85 l [.int x] w = if x = 0 ∨ x = 1 then some (some (.int x), w) else none)
  ∧ (∀ (lv : Nat) (st : List Value) (t : LX) (o0 o1 o2 o3 : Option Value) (x : Int32) (w : AH), Ex M_X0_fitsBy lv 86 (o0 :: o1 :: o2 :: o3 :: some (.int x) :: t) st w = Ex M_X0_fitsBy lv 89 (ls1 (o0 :: o1 :: o2 :: o3 :: some (.int x) :: t) 4 (.int (x + 1))) st w)
  ∧ (∀ (lv : Nat) (l : LX) (st : List Value) (w : AH), Ex M_X0_fitsBy lv 89 l st w = Ex M_X0_fitsBy lv 3 l st w)
  ∧ (∀ (lv : Nat) (l : LX) (st : List Value) (w : AH), Ex M_X0_fitsBy lv 92 l st w = Ex M_X0_fitsBy lv 93 l (.int 1 :: st) w)
  ∧ (∀ (lv : Nat) (l : LX) (x : Int32) (w : AH), Ex M_X0_fitsBy lv 93 l [.int x] w = if x = 0 ∨ x = 1 then some (some (.int x), w) else none) :=
  ⟨(fun lv l st w => Ex_A (i := .iconst 0) (n := 1) (by decide +kernel) rfl rfl),
   (fun lv l st x w => Ex_M (i := .istore 4) (n := 2) (by decide +kernel) rfl rfl rfl),
   (fun lv l st w => Ex_A (i := .bipush 36) (n := 2) (by decide +kernel) rfl rfl),
   (fun lv l st x y w => Ex_icmp_ge (by decide +kernel : decode M_X0_fitsBy.2.1 7 = .ok (.if_icmp .ge 85, 3)) rfl rfl),
   (fun lv st t o0 o1 o2 o3 x w => Ex_M (i := .iload 4) (n := 2) (by decide +kernel) rfl rfl rfl),
   (fun lv l st w => Ex_A (i := .bipush 6) (n := 2) (by decide +kernel) rfl rfl),
   (fun lv l st x y w => Ex_idiv (by decide +kernel : decode M_X0_fitsBy.2.1 14 = .ok (.idiv, 1)) rfl),
   (fun lv st t o0 o1 x w => Ex_M (i := .iload_n 2) (n := 1) (by decide +kernel) rfl rfl rfl),
   (fun lv l st x y w => Ex_A (i := .iadd) (n := 1) (by decide +kernel) rfl rfl),
   (fun lv l st x w => Ex_M (i := .istore 5) (n := 2) (by decide +kernel) rfl rfl rfl),
   (fun lv st t o0 o1 o2 o3 x w => Ex_M (i := .iload 4) (n := 2) (by decide +kernel) rfl rfl rfl),
   (fun lv l st w => Ex_A (i := .bipush 6) (n := 2) (by decide +kernel) rfl rfl),
   (fun lv l st x y w => Ex_irem (by decide +kernel : decode M_X0_fitsBy.2.1 23 = .ok (.irem, 1)) rfl),
   (fun lv st t o0 o1 o2 x w => Ex_M (i := .iload_n 3) (n := 1) (by decide +kernel) rfl rfl rfl),
   (fun lv l st x y w => Ex_A (i := .iadd) (n := 1) (by decide +kernel) rfl rfl),
   (fun lv l st x w => Ex_M (i := .istore 6) (n := 2) (by decide +kernel) rfl rfl rfl),
   (fun lv st t o0 o1 o2 o3 o4 x w => Ex_M (i := .iload 5) (n := 2) (by decide +kernel) rfl rfl rfl),
   (fun lv l st w => Ex_A (i := .iconst 0) (n := 1) (by decide +kernel) rfl rfl),
   (fun lv l st w => Ex_A (i := .iconst 5) (n := 1) (by decide +kernel) rfl rfl),
   (fun lv l a0 a1 a2 w => Ex_callS (by decide +kernel : decode M_X0_fitsBy.2.1 32 = .ok (.invokestatic 88, 3)) rfl (by rfl : resM (mCn M_X0_fitsBy) 88 = some (1, M_X11_isWithin)) (by decide) rfl (by rfl) (Nat.le_of_ble_eq_true rfl) (sLv_lt (by decide +kernel))),
   (fun lv l st x w => Ex_if_eq (by decide +kernel : decode M_X0_fitsBy.2.1 35 = .ok (.ifCond .eq 17, 3)) rfl rfl),
   (fun lv st t o0 o1 o2 o3 o4 o5 x w => Ex_M (i := .iload 6) (n := 2) (by decide +kernel) rfl rfl rfl),
   (fun lv l st w => Ex_A (i := .iconst 0) (n := 1) (by decide +kernel) rfl rfl),
   (fun lv l st w => Ex_A (i := .iconst 5) (n := 1) (by decide +kernel) rfl rfl),
   (fun lv l a0 a1 a2 w => Ex_callS (by decide +kernel : decode M_X0_fitsBy.2.1 42 = .ok (.invokestatic 88, 3)) rfl (by rfl : resM (mCn M_X0_fitsBy) 88 = some (1, M_X11_isWithin)) (by decide) rfl (by rfl) (Nat.le_of_ble_eq_true rfl) (sLv_lt (by decide +kernel))),
   (fun lv l st x w => Ex_if_eq (by decide +kernel : decode M_X0_fitsBy.2.1 45 = .ok (.ifCond .eq 7, 3)) rfl rfl),
   (fun lv l st w => Ex_A (i := .iconst 1) (n := 1) (by decide +kernel) rfl rfl),
   (fun lv l st w => Ex_goto (by decide +kernel : decode M_X0_fitsBy.2.1 49 = .ok (.goto 4, 3)) rfl),
   (fun lv l st w => Ex_A (i := .iconst 0) (n := 1) (by decide +kernel) rfl rfl),
   (fun lv l st x w => Ex_M (i := .istore 7) (n := 2) (by decide +kernel) rfl rfl rfl),
   (fun lv st t o0 o1 o2 o3 o4 o5 o6 x w => Ex_M (i := .iload 7) (n := 2) (by decide +kernel) rfl rfl rfl),
   (fun lv l st x w => Ex_if_eq (by decide +kernel : decode M_X0_fitsBy.2.1 57 = .ok (.ifCond .eq 29, 3)) rfl rfl),
   (fun lv st t o0 x w => Ex_M (i := .aload_n 1) (n := 1) (by decide +kernel) rfl rfl rfl),
   (fun lv st t o0 w => Ex_M (i := .aload_n 1) (n := 1) (by decide +kernel) rfl rfl rfl),
   (fun lv st t o0 o1 o2 o3 x w => Ex_M (i := .iload 4) (n := 2) (by decide +kernel) rfl rfl rfl),
   (fun lv l b a0 w => Ex_callV (by decide +kernel : decode M_X0_fitsBy.2.1 63 = .ok (.invokevirtual 92, 3)) rfl (by rfl : resM (mCn M_X0_fitsBy) 92 = some (2, M_X8_get)) rfl (by rfl) (Nat.le_of_ble_eq_true rfl) (by decide +kernel) (sLv_lt (by decide +kernel))),
   (fun lv st t x w => Ex_M (i := .aload_n 0) (n := 1) (by decide +kernel) rfl rfl rfl),
   (fun lv st t w => Ex_M (i := .aload_n 0) (n := 1) (by decide +kernel) rfl rfl rfl),
   (fun lv st t o0 o1 o2 o3 o4 x w => Ex_M (i := .iload 5) (n := 2) (by decide +kernel) rfl rfl rfl),
   (fun lv l st w => Ex_A (i := .bipush 6) (n := 2) (by decide +kernel) rfl rfl),
   (fun lv l st x y w => Ex_A (i := .imul) (n := 1) (by decide +kernel) rfl rfl),
   (fun lv st t o0 o1 o2 o3 o4 o5 x w => Ex_M (i := .iload 6) (n := 2) (by decide +kernel) rfl rfl rfl),
   (fun lv l st x y w => Ex_A (i := .iadd) (n := 1) (by decide +kernel) rfl rfl),
   (fun lv l b a0 s0 w => Ex_callV (by decide +kernel : decode M_X0_fitsBy.2.1 75 = .ok (.invokevirtual 49, 3)) rfl (by rfl : resM (mCn M_X0_fitsBy) 49 = some (2, M_X0_colourOf)) rfl (by rfl) (Nat.le_of_ble_eq_true rfl) (by decide +kernel) (sLv_lt (by decide +kernel))),
   (fun lv l a0 a1 w => Ex_callS (by decide +kernel : decode M_X0_fitsBy.2.1 78 = .ok (.invokestatic 81, 3)) rfl (by rfl : resM (mCn M_X0_fitsBy) 81 = some (0, M_X0_meets)) (by decide) rfl (by rfl) (Nat.le_of_ble_eq_true rfl) (sLv_lt (by decide +kernel))),
   (fun lv l st x w => Ex_if_ne (by decide +kernel : decode M_X0_fitsBy.2.1 81 = .ok (.ifCond .ne 5, 3)) rfl rfl),
   (fun lv l st w => Ex_A (i := .iconst 0) (n := 1) (by decide +kernel) rfl rfl),
   (fun lv l x w => Ex_zret (by decide +kernel : decode M_X0_fitsBy.2.1 85 = .ok (.ireturn, 1)) rfl),
   (fun lv st t o0 o1 o2 o3 x w => Ex_iinc (by decide +kernel : decode M_X0_fitsBy.2.1 86 = .ok (.iinc 4 1, 3)) rfl rfl (by decide) (by decide)),
   (fun lv l st w => Ex_goto (by decide +kernel : decode M_X0_fitsBy.2.1 89 = .ok (.goto (-86), 3)) rfl),
   (fun lv l st w => Ex_A (i := .iconst 1) (n := 1) (by decide +kernel) rfl rfl),
   (fun lv l x w => Ex_zret (by decide +kernel : decode M_X0_fitsBy.2.1 93 = .ok (.ireturn, 1)) rfl)⟩
set_option maxRecDepth 20000 in
theorem H_X0_countLayings_5 : ∀ (lv : Nat) (st : List Value) (t : LX) (o0 o1 o2 : Option Value) (x : Int32) (w : AH), Ex M_X0_countLayings lv 5 (o0 :: o1 :: o2 :: some (.int x) :: t) st w = Ex M_X0_countLayings lv 6 (o0 :: o1 :: o2 :: some (.int x) :: t) (.int x :: st) w := fun lv st t o0 o1 o2 x w => Ex_M (i := .iload_n 3) (n := 1) (by decide +kernel) rfl rfl rfl
set_option maxRecDepth 20000 in
theorem H_X0_countLayings_14 : ∀ (lv : Nat) (st : List Value) (t : LX) (o0 o1 o2 o3 : Option Value) (x : Int32) (w : AH), Ex M_X0_countLayings lv 14 (o0 :: o1 :: o2 :: o3 :: some (.int x) :: t) st w = Ex M_X0_countLayings lv 16 (o0 :: o1 :: o2 :: o3 :: some (.int x) :: t) (.int x :: st) w := fun lv st t o0 o1 o2 o3 x w => Ex_M (i := .iload 4) (n := 2) (by decide +kernel) rfl rfl rfl
set_option maxRecDepth 20000 in
set_option maxHeartbeats 4000000 in
theorem R_X0_countLayings : (∀ (lv : Nat) (l : LX) (st : List Value) (w : AH), Ex M_X0_countLayings lv 0 l st w = Ex M_X0_countLayings lv 1 l (.int 0 :: st) w)
  ∧ (∀ (lv : Nat) (l : LX) (st : List Value) (x : Int32) (w : AH), Ex M_X0_countLayings lv 1 l (.int x :: st) w = Ex M_X0_countLayings lv 2 (ls1 l 2 (.int x)) st w)
  ∧ (∀ (lv : Nat) (l : LX) (st : List Value) (w : AH), Ex M_X0_countLayings lv 2 l st w = Ex M_X0_countLayings lv 4 l (.int (-5) :: st) w)
  ∧ (∀ (lv : Nat) (l : LX) (st : List Value) (x : Int32) (w : AH), Ex M_X0_countLayings lv 4 l (.int x :: st) w = Ex M_X0_countLayings lv 5 (ls1 l 3 (.int x)) st w)
  ∧ (∀ (lv : Nat) (l : LX) (st : List Value) (w : AH), Ex M_X0_countLayings lv 6 l st w = Ex M_X0_countLayings lv 7 l (.int 5 :: st) w)
  ∧ (∀ (lv : Nat) (l : LX) (st : List Value) (x y : Int32) (w : AH), Ex M_X0_countLayings lv 7 l (.int y :: .int x :: st) w = if y < x then Ex M_X0_countLayings lv 46 l st w else Ex M_X0_countLayings lv 10 l st w)
  ∧ (∀ (lv : Nat) (l : LX) (st : List Value) (w : AH), Ex M_X0_countLayings lv 10 l st w = Ex M_X0_countLayings lv 12 l (.int (-5) :: st) w)
  ∧ (∀ (lv : Nat) (l : LX) (st : List Value) (x : Int32) (w : AH), Ex M_X0_countLayings lv 12 l (.int x :: st) w = Ex M_X0_countLayings lv 14 (ls1 l 4 (.int x)) st w)
  ∧ (∀ (lv : Nat) (l : LX) (st : List Value) (w : AH), Ex M_X0_countLayings lv 16 l st w = Ex M_X0_countLayings lv 17 l (.int 5 :: st) w)
  ∧ (∀ (lv : Nat) (l : LX) (st : List Value) (x y : Int32) (w : AH), Ex M_X0_countLayings lv 17 l (.int y :: .int x :: st) w = if y < x then Ex M_X0_countLayings lv 40 l st w else Ex M_X0_countLayings lv 20 l st w)
  ∧ (∀ (lv : Nat) (st : List Value) (t : LX) (x : Nat) (w : AH), Ex M_X0_countLayings lv 20 (some (.ref x) :: t) st w = Ex M_X0_countLayings lv 21 (some (.ref x) :: t) (.ref x :: st) w)
  ∧ (∀ (lv : Nat) (st : List Value) (t : LX) (w : AH), Ex M_X0_countLayings lv 20 (some (.null) :: t) st w = Ex M_X0_countLayings lv 21 (some (.null) :: t) (.null :: st) w)
  ∧ (∀ (lv : Nat) (st : List Value) (t : LX) (o0 : Option Value) (x : Nat) (w : AH), Ex M_X0_countLayings lv 21 (o0 :: some (.ref x) :: t) st w = Ex M_X0_countLayings lv 22 (o0 :: some (.ref x) :: t) (.ref x :: st) w)
  ∧ (∀ (lv : Nat) (st : List Value) (t : LX) (o0 : Option Value) (w : AH), Ex M_X0_countLayings lv 21 (o0 :: some (.null) :: t) st w = Ex M_X0_countLayings lv 22 (o0 :: some (.null) :: t) (.null :: st) w)
  ∧ (∀ (lv : Nat) (st : List Value) (t : LX) (o0 o1 o2 : Option Value) (x : Int32) (w : AH), Ex M_X0_countLayings lv 22 (o0 :: o1 :: o2 :: some (.int x) :: t) st w = Ex M_X0_countLayings lv 23 (o0 :: o1 :: o2 :: some (.int x) :: t) (.int x :: st) w)
  ∧ (∀ (lv : Nat) (st : List Value) (t : LX) (o0 o1 o2 o3 : Option Value) (x : Int32) (w : AH), Ex M_X0_countLayings lv 23 (o0 :: o1 :: o2 :: o3 :: some (.int x) :: t) st w = Ex M_X0_countLayings lv 25 (o0 :: o1 :: o2 :: o3 :: some (.int x) :: t) (.int x :: st) w)
  ∧ (∀ (lv : Nat) (l : LX) (b : Nat) (a0 : Nat) (a1 : Int32) (a2 : Int32) (w : AH), Ex M_X0_countLayings lv 25 l (.int a2 :: .int a1 :: .ref a0 :: .ref b :: []) w = if clK (hg w b) = 0 then (if (Call M_X0_fitsBy 60 [.ref b, .ref a0, .int a1, .int a2] w).isSome = true then Ex M_X0_countLayings lv 28 l (pushR (cV (Call M_X0_fitsBy 60 [.ref b, .ref a0, .int a1, .int a2] w)) []) (cW (Call M_X0_fitsBy 60 [.ref b, .ref a0, .int a1, .int a2] w) w) else none) else none)
  ∧ (∀ (lv : Nat) (l : LX) (st : List Value) (x : Int32) (w : AH), Ex M_X0_countLayings lv 28 l (.int x :: st) w = if x = 0 then Ex M_X0_countLayings lv 34 l st w else Ex M_X0_countLayings lv 31 l st w)
  ∧ (∀ (lv : Nat) (st : List Value) (t : LX) (o0 o1 : Option Value) (x : Int32) (w : AH), Ex M_X0_countLayings lv 31 (o0 :: o1 :: some (.int x) :: t) st w = Ex M_X0_countLayings lv 34 (ls1 (o0 :: o1 :: some (.int x) :: t) 2 (.int (x + 1))) st w)
  ∧ (∀ (lv : Nat) (st : List Value) (t : LX) (o0 o1 o2 o3 : Option Value) (x : Int32) (w : AH), Ex M_X0_countLayings lv 34 (o0 :: o1 :: o2 :: o3 :: some (.int x) :: t) st w = Ex M_X0_countLayings lv 37 (ls1 (o0 :: o1 :: o2 :: o3 :: some (.int x) :: t) 4 (.int (x + 1))) st w)
  ∧ (∀ (lv : Nat) (l : LX) (st : List Value) (w : AH), Ex M_X0_countLayings lv 37 l st w = Ex M_X0_countLayings lv 14 l st w)
  ∧ (∀ (lv : Nat) (st : List Value) (t : LX) (o0 o1 o2 : Option Value) (x : Int32) (w : AH), Ex M_X0_countLayings lv 40 (o0 :: o1 :: o2 :: some (.int x) :: t) st w = Ex M_X0_countLayings lv 43 (ls1 (o0 :: o1 :: o2 :: some (.int x) :: t) 3 (.int (x + 1))) st w)
  ∧ (∀ (lv : Nat) (l : LX) (st : List Value) (w : AH), Ex M_X0_countLayings lv 43 l st w = Ex M_X0_countLayings lv 5 l st w)
  ∧ (∀ (lv : Nat) (st : List Value) (t : LX) (o0 o1 : Option Value) (x : Int32) (w : AH), Ex M_X0_countLayings lv 46 (o0 :: o1 :: some (.int x) :: t) st w = Ex M_X0_countLayings lv 47 (o0 :: o1 :: some (.int x) :: t) (.int x :: st) w)
  ∧ (∀ (lv : Nat) (l : LX) (x : Int32) (w : AH), Ex M_X0_countLayings lv 47 l [.int x] w = some (some (.int x), w)) :=
  ⟨(fun lv l st w => Ex_A (i := .iconst 0) (n := 1) (by decide +kernel) rfl rfl),
   (fun lv l st x w => Ex_M (i := .istore_n 2) (n := 1) (by decide +kernel) rfl rfl rfl),
   (fun lv l st w => Ex_A (i := .bipush (-5)) (n := 2) (by decide +kernel) rfl rfl),
   (fun lv l st x w => Ex_M (i := .istore_n 3) (n := 1) (by decide +kernel) rfl rfl rfl),
   (fun lv l st w => Ex_A (i := .iconst 5) (n := 1) (by decide +kernel) rfl rfl),
   (fun lv l st x y w => Ex_icmp_gt (by decide +kernel : decode M_X0_countLayings.2.1 7 = .ok (.if_icmp .gt 39, 3)) rfl rfl),
   (fun lv l st w => Ex_A (i := .bipush (-5)) (n := 2) (by decide +kernel) rfl rfl),
   (fun lv l st x w => Ex_M (i := .istore 4) (n := 2) (by decide +kernel) rfl rfl rfl),
   (fun lv l st w => Ex_A (i := .iconst 5) (n := 1) (by decide +kernel) rfl rfl),
   (fun lv l st x y w => Ex_icmp_gt (by decide +kernel : decode M_X0_countLayings.2.1 17 = .ok (.if_icmp .gt 23, 3)) rfl rfl),
   (fun lv st t x w => Ex_M (i := .aload_n 0) (n := 1) (by decide +kernel) rfl rfl rfl),
   (fun lv st t w => Ex_M (i := .aload_n 0) (n := 1) (by decide +kernel) rfl rfl rfl),
   (fun lv st t o0 x w => Ex_M (i := .aload_n 1) (n := 1) (by decide +kernel) rfl rfl rfl),
   (fun lv st t o0 w => Ex_M (i := .aload_n 1) (n := 1) (by decide +kernel) rfl rfl rfl),
   (fun lv st t o0 o1 o2 x w => Ex_M (i := .iload_n 3) (n := 1) (by decide +kernel) rfl rfl rfl),
   (fun lv st t o0 o1 o2 o3 x w => Ex_M (i := .iload 4) (n := 2) (by decide +kernel) rfl rfl rfl),
   (fun lv l b a0 a1 a2 w => Ex_callV (by decide +kernel : decode M_X0_countLayings.2.1 25 = .ok (.invokevirtual 97, 3)) rfl (by rfl : resM (mCn M_X0_countLayings) 97 = some (2, M_X0_fitsBy)) rfl (by rfl) (Nat.le_of_ble_eq_true rfl) (by decide +kernel) (sLv_lt (by decide +kernel))),
   (fun lv l st x w => Ex_if_eq (by decide +kernel : decode M_X0_countLayings.2.1 28 = .ok (.ifCond .eq 6, 3)) rfl rfl),
   (fun lv st t o0 o1 x w => Ex_iinc (by decide +kernel : decode M_X0_countLayings.2.1 31 = .ok (.iinc 2 1, 3)) rfl rfl (by decide) (by decide)),
   (fun lv st t o0 o1 o2 o3 x w => Ex_iinc (by decide +kernel : decode M_X0_countLayings.2.1 34 = .ok (.iinc 4 1, 3)) rfl rfl (by decide) (by decide)),
   (fun lv l st w => Ex_goto (by decide +kernel : decode M_X0_countLayings.2.1 37 = .ok (.goto (-23), 3)) rfl),
   (fun lv st t o0 o1 o2 x w => Ex_iinc (by decide +kernel : decode M_X0_countLayings.2.1 40 = .ok (.iinc 3 1, 3)) rfl rfl (by decide) (by decide)),
   (fun lv l st w => Ex_goto (by decide +kernel : decode M_X0_countLayings.2.1 43 = .ok (.goto (-38), 3)) rfl),
   (fun lv st t o0 o1 x w => Ex_M (i := .iload_n 2) (n := 1) (by decide +kernel) rfl rfl rfl),
   (fun lv l x w => Ex_R (i := .ireturn) (n := 1) (by decide +kernel) rfl rfl rfl rfl rfl)⟩
set_option maxRecDepth 20000 in
theorem H_X0_bestLaying_8 : ∀ (lv : Nat) (st : List Value) (t : LX) (o0 o1 o2 o3 : Option Value) (x : Int32) (w : AH), Ex M_X0_bestLaying lv 8 (o0 :: o1 :: o2 :: o3 :: some (.int x) :: t) st w = Ex M_X0_bestLaying lv 10 (o0 :: o1 :: o2 :: o3 :: some (.int x) :: t) (.int x :: st) w := fun lv st t o0 o1 o2 o3 x w => Ex_M (i := .iload 4) (n := 2) (by decide +kernel) rfl rfl rfl
set_option maxRecDepth 20000 in
theorem H_X0_bestLaying_18 : ∀ (lv : Nat) (st : List Value) (t : LX) (o0 o1 o2 o3 o4 : Option Value) (x : Int32) (w : AH), Ex M_X0_bestLaying lv 18 (o0 :: o1 :: o2 :: o3 :: o4 :: some (.int x) :: t) st w = Ex M_X0_bestLaying lv 20 (o0 :: o1 :: o2 :: o3 :: o4 :: some (.int x) :: t) (.int x :: st) w := fun lv st t o0 o1 o2 o3 o4 x w => Ex_M (i := .iload 5) (n := 2) (by decide +kernel) rfl rfl rfl
set_option maxRecDepth 20000 in
set_option maxHeartbeats 4000000 in
theorem R_X0_bestLaying : (∀ (lv : Nat) (l : LX) (st : List Value) (w : AH), Ex M_X0_bestLaying lv 0 l st w = Ex M_X0_bestLaying lv 1 l (.int 0 :: st) w)
  ∧ (∀ (lv : Nat) (l : LX) (st : List Value) (x : Int32) (w : AH), Ex M_X0_bestLaying lv 1 l (.int x :: st) w = Ex M_X0_bestLaying lv 2 (ls1 l 2 (.int x)) st w)
  ∧ (∀ (lv : Nat) (l : LX) (st : List Value) (w : AH), Ex M_X0_bestLaying lv 2 l st w = Ex M_X0_bestLaying lv 3 l (.int (-1) :: st) w)
  ∧ (∀ (lv : Nat) (l : LX) (st : List Value) (x : Int32) (w : AH), Ex M_X0_bestLaying lv 3 l (.int x :: st) w = Ex M_X0_bestLaying lv 4 (ls1 l 3 (.int x)) st w)
  ∧ (∀ (lv : Nat) (l : LX) (st : List Value) (w : AH), Ex M_X0_bestLaying lv 4 l st w = Ex M_X0_bestLaying lv 6 l (.int (-5) :: st) w)
  ∧ (∀ (lv : Nat) (l : LX) (st : List Value) (x : Int32) (w : AH), Ex M_X0_bestLaying lv 6 l (.int x :: st) w = Ex M_X0_bestLaying lv 8 (ls1 l 4 (.int x)) st w)
  ∧ (∀ (lv : Nat) (l : LX) (st : List Value) (w : AH), Ex M_X0_bestLaying lv 10 l st w = Ex M_X0_bestLaying lv 11 l (.int 5 :: st) w)
  ∧ (∀ (lv : Nat) (l : LX) (st : List Value) (x y : Int32) (w : AH), Ex M_X0_bestLaying lv 11 l (.int y :: .int x :: st) w = if y < x then Ex M_X0_bestLaying lv 89 l st w else Ex M_X0_bestLaying lv 14 l st w)
  ∧ (∀ (lv : Nat) (l : LX) (st : List Value) (w : AH), Ex M_X0_bestLaying lv 14 l st w = Ex M_X0_bestLaying lv 16 l (.int (-5) :: st) w)
  ∧ (∀ (lv : Nat) (l : LX) (st : List Value) (x : Int32) (w : AH), Ex M_X0_bestLaying lv 16 l (.int x :: st) w = Ex M_X0_bestLaying lv 18 (ls1 l 5 (.int x)) st w)
  ∧ (∀ (lv : Nat) (l : LX) (st : List Value) (w : AH), Ex M_X0_bestLaying lv 20 l st w = Ex M_X0_bestLaying lv 21 l (.int 5 :: st) w)
  ∧ (∀ (lv : Nat) (l : LX) (st : List Value) (x y : Int32) (w : AH), Ex M_X0_bestLaying lv 21 l (.int y :: .int x :: st) w = if y < x then Ex M_X0_bestLaying lv 83 l st w else Ex M_X0_bestLaying lv 24 l st w)
  ∧ (∀ (lv : Nat) (l : LX) (st : List Value) (w : AH), Ex M_X0_bestLaying lv 24 l st w = Ex M_X0_bestLaying lv 26 l (.int 6 :: st) w)
  ∧ (∀ (lv : Nat) (st : List Value) (t : LX) (o0 o1 o2 o3 : Option Value) (x : Int32) (w : AH), Ex M_X0_bestLaying lv 26 (o0 :: o1 :: o2 :: o3 :: some (.int x) :: t) st w = Ex M_X0_bestLaying lv 28 (o0 :: o1 :: o2 :: o3 :: some (.int x) :: t) (.int x :: st) w)
  ∧ (∀ (lv : Nat) (l : LX) (a0 : Int32) (s0 : Int32) (w : AH), Ex M_X0_bestLaying lv 28 l (.int a0 :: [.int s0]) w = if (Call M_J9_abs_0f7a4 60 [.int a0] w).isSome = true then Ex M_X0_bestLaying lv 31 l (pushR (cV (Call M_J9_abs_0f7a4 60 [.int a0] w)) [.int s0]) (cW (Call M_J9_abs_0f7a4 60 [.int a0] w) w) else none)
  ∧ (∀ (lv : Nat) (l : LX) (st : List Value) (x y : Int32) (w : AH), Ex M_X0_bestLaying lv 31 l (.int y :: .int x :: st) w = Ex M_X0_bestLaying lv 32 l (.int (x - y) :: st) w)
  ∧ (∀ (lv : Nat) (l : LX) (st : List Value) (w : AH), Ex M_X0_bestLaying lv 32 l st w = Ex M_X0_bestLaying lv 34 l (.int 6 :: st) w)
  ∧ (∀ (lv : Nat) (st : List Value) (t : LX) (o0 o1 o2 o3 o4 : Option Value) (x : Int32) (w : AH), Ex M_X0_bestLaying lv 34 (o0 :: o1 :: o2 :: o3 :: o4 :: some (.int x) :: t) st w = Ex M_X0_bestLaying lv 36 (o0 :: o1 :: o2 :: o3 :: o4 :: some (.int x) :: t) (.int x :: st) w)
  ∧ (∀ (lv : Nat) (l : LX) (a0 : Int32) (s0 : Int32) (s1 : Int32) (w : AH), Ex M_X0_bestLaying lv 36 l (.int a0 :: [.int s0, .int s1]) w = if (Call M_J9_abs_0f7a4 60 [.int a0] w).isSome = true then Ex M_X0_bestLaying lv 39 l (pushR (cV (Call M_J9_abs_0f7a4 60 [.int a0] w)) [.int s0, .int s1]) (cW (Call M_J9_abs_0f7a4 60 [.int a0] w) w) else none)
  ∧ (∀ (lv : Nat) (l : LX) (st : List Value) (x y : Int32) (w : AH), Ex M_X0_bestLaying lv 39 l (.int y :: .int x :: st) w = Ex M_X0_bestLaying lv 40 l (.int (x - y) :: st) w)
  ∧ (∀ (lv : Nat) (l : LX) (st : List Value) (x y : Int32) (w : AH), Ex M_X0_bestLaying lv 40 l (.int y :: .int x :: st) w = Ex M_X0_bestLaying lv 41 l (.int (x * y) :: st) w)
  ∧ (∀ (lv : Nat) (l : LX) (st : List Value) (x : Int32) (w : AH), Ex M_X0_bestLaying lv 41 l (.int x :: st) w = Ex M_X0_bestLaying lv 43 (ls1 l 6 (.int x)) st w)
  ∧ (∀ (lv : Nat) (st : List Value) (t : LX) (o0 o1 o2 o3 o4 o5 : Option Value) (x : Int32) (w : AH), Ex M_X0_bestLaying lv 43 (o0 :: o1 :: o2 :: o3 :: o4 :: o5 :: some (.int x) :: t) st w = Ex M_X0_bestLaying lv 45 (o0 :: o1 :: o2 :: o3 :: o4 :: o5 :: some (.int x) :: t) (.int x :: st) w)
  ∧ (∀ (lv : Nat) (st : List Value) (t : LX) (o0 o1 : Option Value) (x : Int32) (w : AH), Ex M_X0_bestLaying lv 45 (o0 :: o1 :: some (.int x) :: t) st w = Ex M_X0_bestLaying lv 46 (o0 :: o1 :: some (.int x) :: t) (.int x :: st) w)
  ∧ (∀ (lv : Nat) (l : LX) (st : List Value) (x y : Int32) (w : AH), Ex M_X0_bestLaying lv 46 l (.int y :: .int x :: st) w = if x ≤ y then Ex M_X0_bestLaying lv 77 l st w else Ex M_X0_bestLaying lv 49 l st w)
  ∧ (∀ (lv : Nat) (st : List Value) (t : LX) (x : Nat) (w : AH), Ex M_X0_bestLaying lv 49 (some (.ref x) :: t) st w = Ex M_X0_bestLaying lv 50 (some (.ref x) :: t) (.ref x :: st) w)
  ∧ (∀ (lv : Nat) (st : List Value) (t : LX) (w : AH), Ex M_X0_bestLaying lv 49 (some (.null) :: t) st w = Ex M_X0_bestLaying lv 50 (some (.null) :: t) (.null :: st) w)
  ∧ (∀ (lv : Nat) (st : List Value) (t : LX) (o0 : Option Value) (x : Nat) (w : AH), Ex M_X0_bestLaying lv 50 (o0 :: some (.ref x) :: t) st w = Ex M_X0_bestLaying lv 51 (o0 :: some (.ref x) :: t) (.ref x :: st) w)
  ∧ (∀ (lv : Nat) (st : List Value) (t : LX) (o0 : Option Value) (w : AH), Ex M_X0_bestLaying lv 50 (o0 :: some (.null) :: t) st w = Ex M_X0_bestLaying lv 51 (o0 :: some (.null) :: t) (.null :: st) w)
  ∧ (∀ (lv : Nat) (st : List Value) (t : LX) (o0 o1 o2 o3 : Option Value) (x : Int32) (w : AH), Ex M_X0_bestLaying lv 51 (o0 :: o1 :: o2 :: o3 :: some (.int x) :: t) st w = Ex M_X0_bestLaying lv 53 (o0 :: o1 :: o2 :: o3 :: some (.int x) :: t) (.int x :: st) w)
  ∧ (∀ (lv : Nat) (st : List Value) (t : LX) (o0 o1 o2 o3 o4 : Option Value) (x : Int32) (w : AH), Ex M_X0_bestLaying lv 53 (o0 :: o1 :: o2 :: o3 :: o4 :: some (.int x) :: t) st w = Ex M_X0_bestLaying lv 55 (o0 :: o1 :: o2 :: o3 :: o4 :: some (.int x) :: t) (.int x :: st) w)
  ∧ (∀ (lv : Nat) (l : LX) (b : Nat) (a0 : Nat) (a1 : Int32) (a2 : Int32) (w : AH), Ex M_X0_bestLaying lv 55 l (.int a2 :: .int a1 :: .ref a0 :: .ref b :: []) w = if clK (hg w b) = 0 then (if (Call M_X0_fitsBy 60 [.ref b, .ref a0, .int a1, .int a2] w).isSome = true then Ex M_X0_bestLaying lv 58 l (pushR (cV (Call M_X0_fitsBy 60 [.ref b, .ref a0, .int a1, .int a2] w)) []) (cW (Call M_X0_fitsBy 60 [.ref b, .ref a0, .int a1, .int a2] w) w) else none) else none)
  ∧ (∀ (lv : Nat) (l : LX) (st : List Value) (x : Int32) (w : AH), Ex M_X0_bestLaying lv 58 l (.int x :: st) w = if x = 0 then Ex M_X0_bestLaying lv 77 l st w else Ex M_X0_bestLaying lv 61 l st w)
  ∧ (∀ (lv : Nat) (st : List Value) (t : LX) (o0 o1 o2 o3 o4 o5 : Option Value) (x : Int32) (w : AH), Ex M_X0_bestLaying lv 61 (o0 :: o1 :: o2 :: o3 :: o4 :: o5 :: some (.int x) :: t) st w = Ex M_X0_bestLaying lv 63 (o0 :: o1 :: o2 :: o3 :: o4 :: o5 :: some (.int x) :: t) (.int x :: st) w)
  ∧ (∀ (lv : Nat) (l : LX) (st : List Value) (x : Int32) (w : AH), Ex M_X0_bestLaying lv 63 l (.int x :: st) w = Ex M_X0_bestLaying lv 64 (ls1 l 2 (.int x)) st w)
  ∧ (∀ (lv : Nat) (l : LX) (st : List Value) (w : AH), Ex M_X0_bestLaying lv 64 l st w = Ex M_X0_bestLaying lv 66 l (.int 100 :: st) w)
  ∧ (∀ (lv : Nat) (st : List Value) (t : LX) (o0 o1 o2 o3 : Option Value) (x : Int32) (w : AH), Ex M_X0_bestLaying lv 66 (o0 :: o1 :: o2 :: o3 :: some (.int x) :: t) st w = Ex M_X0_bestLaying lv 68 (o0 :: o1 :: o2 :: o3 :: some (.int x) :: t) (.int x :: st) w)
  ∧ (∀ (lv : Nat) (l : LX) (st : List Value) (w : AH), Ex M_X0_bestLaying lv 68 l st w = Ex M_X0_bestLaying lv 69 l (.int 5 :: st) w)
  ∧ (∀ (lv : Nat) (l : LX) (st : List Value) (x y : Int32) (w : AH), Ex M_X0_bestLaying lv 69 l (.int y :: .int x :: st) w = Ex M_X0_bestLaying lv 70 l (.int (x + y) :: st) w)
  ∧ (∀ (lv : Nat) (l : LX) (st : List Value) (x y : Int32) (w : AH), Ex M_X0_bestLaying lv 70 l (.int y :: .int x :: st) w = Ex M_X0_bestLaying lv 71 l (.int (x * y) :: st) w)
  ∧ (∀ (lv : Nat) (st : List Value) (t : LX) (o0 o1 o2 o3 o4 : Option Value) (x : Int32) (w : AH), Ex M_X0_bestLaying lv 71 (o0 :: o1 :: o2 :: o3 :: o4 :: some (.int x) :: t) st w = Ex M_X0_bestLaying lv 73 (o0 :: o1 :: o2 :: o3 :: o4 :: some (.int x) :: t) (.int x :: st) w)
  ∧ (∀ (lv : Nat) (l : LX) (st : List Value) (x y : Int32) (w : AH), Ex M_X0_bestLaying lv 73 l (.int y :: .int x :: st) w = Ex M_X0_bestLaying lv 74 l (.int (x + y) :: st) w)
  ∧ (∀ (lv : Nat) (l : LX) (st : List Value) (w : AH), Ex M_X0_bestLaying lv 74 l st w = Ex M_X0_bestLaying lv 75 l (.int 5 :: st) w)
  ∧ (∀ (lv : Nat) (l : LX) (st : List Value) (x y : Int32) (w : AH), Ex M_X0_bestLaying lv 75 l (.int y :: .int x :: st) w = Ex M_X0_bestLaying lv 76 l (.int (x + y) :: st) w)
  ∧ (∀ (lv : Nat) (l : LX) (st : List Value) (x : Int32) (w : AH), Ex M_X0_bestLaying lv 76 l (.int x :: st) w = Ex M_X0_bestLaying lv 77 (ls1 l 3 (.int x)) st w)
  ∧ (∀ (lv : Nat) (st : List Value) (t : LX) (o0 o1 o2 o3 o4 : Option Value) (x : Int32) (w : AH), Ex M_X0_bestLaying lv 77 (o0 :: o1 :: o2 :: o3 :: o4 :: some (.int x) :: t) st w = Ex M_X0_bestLaying lv 80 (ls1 (o0 :: o1 :: o2 :: o3 :: o4 :: some (.int x) :: t) 5 (.int (x + 1))) st w)
  ∧ (∀ (lv : Nat) (l : LX) (st : List Value) (w : AH), Ex M_X0_bestLaying lv 80 l st w = Ex M_X0_bestLaying lv 18 l st w)
  ∧ (∀ (lv : Nat) (st : List Value) (t : LX) (o0 o1 o2 o3 : Option Value) (x : Int32) (w : AH), Ex M_X0_bestLaying lv 83 (o0 :: o1 :: o2 :: o3 :: some (.int x) :: t) st w = Ex M_X0_bestLaying lv 86 (ls1 (o0 :: o1 :: o2 :: o3 :: some (.int x) :: t) 4 (.int (x + 1))) st w)
  ∧ (∀ (lv : Nat) (l : LX) (st : List Value) (w : AH), Ex M_X0_bestLaying lv 86 l st w = Ex M_X0_bestLaying lv 8 l st w)
  ∧ (∀ (lv : Nat) (st : List Value) (t : LX) (o0 o1 o2 : Option Value) (x : Int32) (w : AH), Ex M_X0_bestLaying lv 89 (o0 :: o1 :: o2 :: some (.int x) :: t) st w = Ex M_X0_bestLaying lv 90 (o0 :: o1 :: o2 :: some (.int x) :: t) (.int x :: st) w)
  ∧ (∀ (lv : Nat) (l : LX) (x : Int32) (w : AH), Ex M_X0_bestLaying lv 90 l [.int x] w = some (some (.int x), w)) :=
  ⟨(fun lv l st w => Ex_A (i := .iconst 0) (n := 1) (by decide +kernel) rfl rfl),
   (fun lv l st x w => Ex_M (i := .istore_n 2) (n := 1) (by decide +kernel) rfl rfl rfl),
   (fun lv l st w => Ex_A (i := .iconst (-1)) (n := 1) (by decide +kernel) rfl rfl),
   (fun lv l st x w => Ex_M (i := .istore_n 3) (n := 1) (by decide +kernel) rfl rfl rfl),
   (fun lv l st w => Ex_A (i := .bipush (-5)) (n := 2) (by decide +kernel) rfl rfl),
   (fun lv l st x w => Ex_M (i := .istore 4) (n := 2) (by decide +kernel) rfl rfl rfl),
   (fun lv l st w => Ex_A (i := .iconst 5) (n := 1) (by decide +kernel) rfl rfl),
   (fun lv l st x y w => Ex_icmp_gt (by decide +kernel : decode M_X0_bestLaying.2.1 11 = .ok (.if_icmp .gt 78, 3)) rfl rfl),
   (fun lv l st w => Ex_A (i := .bipush (-5)) (n := 2) (by decide +kernel) rfl rfl),
   (fun lv l st x w => Ex_M (i := .istore 5) (n := 2) (by decide +kernel) rfl rfl rfl),
   (fun lv l st w => Ex_A (i := .iconst 5) (n := 1) (by decide +kernel) rfl rfl),
   (fun lv l st x y w => Ex_icmp_gt (by decide +kernel : decode M_X0_bestLaying.2.1 21 = .ok (.if_icmp .gt 62, 3)) rfl rfl),
   (fun lv l st w => Ex_A (i := .bipush 6) (n := 2) (by decide +kernel) rfl rfl),
   (fun lv st t o0 o1 o2 o3 x w => Ex_M (i := .iload 4) (n := 2) (by decide +kernel) rfl rfl rfl),
   (fun lv l a0 s0 w => Ex_callS (by decide +kernel : decode M_X0_bestLaying.2.1 28 = .ok (.invokestatic 101, 3)) rfl (by rfl : resM (mCn M_X0_bestLaying) 101 = some (0, M_J9_abs_0f7a4)) (by decide) rfl (by rfl) (Nat.le_of_ble_eq_true rfl) (sLv_lt (by decide +kernel))),
   (fun lv l st x y w => Ex_A (i := .isub) (n := 1) (by decide +kernel) rfl rfl),
   (fun lv l st w => Ex_A (i := .bipush 6) (n := 2) (by decide +kernel) rfl rfl),
   (fun lv st t o0 o1 o2 o3 o4 x w => Ex_M (i := .iload 5) (n := 2) (by decide +kernel) rfl rfl rfl),
   (fun lv l a0 s0 s1 w => Ex_callS (by decide +kernel : decode M_X0_bestLaying.2.1 36 = .ok (.invokestatic 101, 3)) rfl (by rfl : resM (mCn M_X0_bestLaying) 101 = some (0, M_J9_abs_0f7a4)) (by decide) rfl (by rfl) (Nat.le_of_ble_eq_true rfl) (sLv_lt (by decide +kernel))),
   (fun lv l st x y w => Ex_A (i := .isub) (n := 1) (by decide +kernel) rfl rfl),
   (fun lv l st x y w => Ex_A (i := .imul) (n := 1) (by decide +kernel) rfl rfl),
   (fun lv l st x w => Ex_M (i := .istore 6) (n := 2) (by decide +kernel) rfl rfl rfl),
   (fun lv st t o0 o1 o2 o3 o4 o5 x w => Ex_M (i := .iload 6) (n := 2) (by decide +kernel) rfl rfl rfl),
   (fun lv st t o0 o1 x w => Ex_M (i := .iload_n 2) (n := 1) (by decide +kernel) rfl rfl rfl),
   (fun lv l st x y w => Ex_icmp_le (by decide +kernel : decode M_X0_bestLaying.2.1 46 = .ok (.if_icmp .le 31, 3)) rfl rfl),
   (fun lv st t x w => Ex_M (i := .aload_n 0) (n := 1) (by decide +kernel) rfl rfl rfl),
   (fun lv st t w => Ex_M (i := .aload_n 0) (n := 1) (by decide +kernel) rfl rfl rfl),
   (fun lv st t o0 x w => Ex_M (i := .aload_n 1) (n := 1) (by decide +kernel) rfl rfl rfl),
   (fun lv st t o0 w => Ex_M (i := .aload_n 1) (n := 1) (by decide +kernel) rfl rfl rfl),
   (fun lv st t o0 o1 o2 o3 x w => Ex_M (i := .iload 4) (n := 2) (by decide +kernel) rfl rfl rfl),
   (fun lv st t o0 o1 o2 o3 o4 x w => Ex_M (i := .iload 5) (n := 2) (by decide +kernel) rfl rfl rfl),
   (fun lv l b a0 a1 a2 w => Ex_callV (by decide +kernel : decode M_X0_bestLaying.2.1 55 = .ok (.invokevirtual 97, 3)) rfl (by rfl : resM (mCn M_X0_bestLaying) 97 = some (2, M_X0_fitsBy)) rfl (by rfl) (Nat.le_of_ble_eq_true rfl) (by decide +kernel) (sLv_lt (by decide +kernel))),
   (fun lv l st x w => Ex_if_eq (by decide +kernel : decode M_X0_bestLaying.2.1 58 = .ok (.ifCond .eq 19, 3)) rfl rfl),
   (fun lv st t o0 o1 o2 o3 o4 o5 x w => Ex_M (i := .iload 6) (n := 2) (by decide +kernel) rfl rfl rfl),
   (fun lv l st x w => Ex_M (i := .istore_n 2) (n := 1) (by decide +kernel) rfl rfl rfl),
   (fun lv l st w => Ex_A (i := .bipush 100) (n := 2) (by decide +kernel) rfl rfl),
   (fun lv st t o0 o1 o2 o3 x w => Ex_M (i := .iload 4) (n := 2) (by decide +kernel) rfl rfl rfl),
   (fun lv l st w => Ex_A (i := .iconst 5) (n := 1) (by decide +kernel) rfl rfl),
   (fun lv l st x y w => Ex_A (i := .iadd) (n := 1) (by decide +kernel) rfl rfl),
   (fun lv l st x y w => Ex_A (i := .imul) (n := 1) (by decide +kernel) rfl rfl),
   (fun lv st t o0 o1 o2 o3 o4 x w => Ex_M (i := .iload 5) (n := 2) (by decide +kernel) rfl rfl rfl),
   (fun lv l st x y w => Ex_A (i := .iadd) (n := 1) (by decide +kernel) rfl rfl),
   (fun lv l st w => Ex_A (i := .iconst 5) (n := 1) (by decide +kernel) rfl rfl),
   (fun lv l st x y w => Ex_A (i := .iadd) (n := 1) (by decide +kernel) rfl rfl),
   (fun lv l st x w => Ex_M (i := .istore_n 3) (n := 1) (by decide +kernel) rfl rfl rfl),
   (fun lv st t o0 o1 o2 o3 o4 x w => Ex_iinc (by decide +kernel : decode M_X0_bestLaying.2.1 77 = .ok (.iinc 5 1, 3)) rfl rfl (by decide) (by decide)),
   (fun lv l st w => Ex_goto (by decide +kernel : decode M_X0_bestLaying.2.1 80 = .ok (.goto (-62), 3)) rfl),
   (fun lv st t o0 o1 o2 o3 x w => Ex_iinc (by decide +kernel : decode M_X0_bestLaying.2.1 83 = .ok (.iinc 4 1, 3)) rfl rfl (by decide) (by decide)),
   (fun lv l st w => Ex_goto (by decide +kernel : decode M_X0_bestLaying.2.1 86 = .ok (.goto (-78), 3)) rfl),
   (fun lv st t o0 o1 o2 x w => Ex_M (i := .iload_n 3) (n := 1) (by decide +kernel) rfl rfl rfl),
   (fun lv l x w => Ex_R (i := .ireturn) (n := 1) (by decide +kernel) rfl rfl rfl rfl rfl)⟩
set_option maxRecDepth 20000 in
theorem H_X1_init_88 : ∀ (lv : Nat) (st : List Value) (t : LX) (o0 : Option Value) (x : Int32) (w : AH), Ex M_X1_init lv 88 (o0 :: some (.int x) :: t) st w = Ex M_X1_init lv 89 (o0 :: some (.int x) :: t) (.int x :: st) w := fun lv st t o0 x w => Ex_M (i := .iload_n 1) (n := 1) (by decide +kernel) rfl rfl rfl
set_option maxRecDepth 20000 in
set_option maxHeartbeats 4000000 in
theorem R_X1_init_p0 : (∀ (lv : Nat) (st : List Value) (t : LX) (x : Nat) (w : AH), Ex M_X1_init lv 0 (some (.ref x) :: t) st w = Ex M_X1_init lv 1 (some (.ref x) :: t) (.ref x :: st) w)
  ∧ (∀ (lv : Nat) (st : List Value) (t : LX) (w : AH), Ex M_X1_init lv 0 (some (.null) :: t) st w = Ex M_X1_init lv 1 (some (.null) :: t) (.null :: st) w)
  ∧ (∀ (lv : Nat) (l : LX) (b : Nat) (w : AH), Ex M_X1_init lv 1 l (.ref b :: []) w = Ex M_X1_init lv 4 l [] w)
  ∧ (∀ (lv : Nat) (st : List Value) (t : LX) (x : Nat) (w : AH), Ex M_X1_init lv 4 (some (.ref x) :: t) st w = Ex M_X1_init lv 5 (some (.ref x) :: t) (.ref x :: st) w)
  ∧ (∀ (lv : Nat) (st : List Value) (t : LX) (w : AH), Ex M_X1_init lv 4 (some (.null) :: t) st w = Ex M_X1_init lv 5 (some (.null) :: t) (.null :: st) w)
  ∧ (∀ (lv : Nat) (l : LX) (st : List Value) (w : AH), Ex M_X1_init lv 5 l st w = Ex M_X1_init lv 8 l (.ref w.1 :: st) (hn w (.inr (0, [.null, .null])) 2))
  ∧ (∀ (lv : Nat) (l : LX) (st : List Value) (x : Nat) (w : AH), Ex M_X1_init lv 8 l (.ref x :: st) w = Ex M_X1_init lv 9 l (.ref x :: .ref x :: st) w)
  ∧ (∀ (lv : Nat) (l : LX) (b : Nat) (s0 : Nat) (s1 : Nat) (w : AH), Ex M_X1_init lv 9 l (.ref b :: [.ref s0, .ref s1]) w = if (Call M_X0_init 60 [.ref b] w).isSome = true then Ex M_X1_init lv 12 l (pushR (cV (Call M_X0_init 60 [.ref b] w)) [.ref s0, .ref s1]) (cW (Call M_X0_init 60 [.ref b] w) w) else none)
  ∧ (∀ (lv : Nat) (l : LX) (st : List Value) (a : Nat) (v : Value) (w : AH), Ex M_X1_init lv 12 l (v :: .ref a :: st) w = if (pf (hg w a) 1 0 (.object "CarpetLands$Carpet") v).isSome = true then Ex M_X1_init lv 15 l st (hs w a (vE (pf (hg w a) 1 0 (.object "CarpetLands$Carpet") v))) else none)
  ∧ (∀ (lv : Nat) (st : List Value) (t : LX) (x : Nat) (w : AH), Ex M_X1_init lv 15 (some (.ref x) :: t) st w = Ex M_X1_init lv 16 (some (.ref x) :: t) (.ref x :: st) w)
  ∧ (∀ (lv : Nat) (st : List Value) (t : LX) (w : AH), Ex M_X1_init lv 15 (some (.null) :: t) st w = Ex M_X1_init lv 16 (some (.null) :: t) (.null :: st) w)
  ∧ (∀ (lv : Nat) (l : LX) (st : List Value) (w : AH), Ex M_X1_init lv 16 l st w = Ex M_X1_init lv 17 l (.int 5 :: st) w)
  ∧ (∀ (lv : Nat) (l : LX) (st : List Value) (w : AH), Ex M_X1_init lv 17 l (.int 5 :: st) w = Ex M_X1_init lv 20 l (.ref w.1 :: st) (hn w (.inl (3, 5, .inr (.inr (.inr (.inr (fun _ => none)))))) 5))
  ∧ (∀ (lv : Nat) (l : LX) (st : List Value) (a : Nat) (v : Value) (w : AH), Ex M_X1_init lv 20 l (v :: .ref a :: st) w = if (pf (hg w a) 1 1 (.array (.object "CarpetLands$Walker")) v).isSome = true then Ex M_X1_init lv 23 l st (hs w a (vE (pf (hg w a) 1 1 (.array (.object "CarpetLands$Walker")) v))) else none)
  ∧ (∀ (lv : Nat) (st : List Value) (t : LX) (x : Nat) (w : AH), Ex M_X1_init lv 23 (some (.ref x) :: t) st w = Ex M_X1_init lv 24 (some (.ref x) :: t) (.ref x :: st) w)
  ∧ (∀ (lv : Nat) (st : List Value) (t : LX) (w : AH), Ex M_X1_init lv 23 (some (.null) :: t) st w = Ex M_X1_init lv 24 (some (.null) :: t) (.null :: st) w)
  ∧ (∀ (lv : Nat) (l : LX) (st : List Value) (w : AH), Ex M_X1_init lv 24 l st w = Ex M_X1_init lv 27 l (.ref w.1 :: st) (hn w (.inr (3, [.null, .null])) 2))
  ∧ (∀ (lv : Nat) (l : LX) (st : List Value) (x : Nat) (w : AH), Ex M_X1_init lv 27 l (.ref x :: st) w = Ex M_X1_init lv 28 l (.ref x :: .ref x :: st) w)
  ∧ (∀ (lv : Nat) (l : LX) (b : Nat) (s0 : Nat) (s1 : Nat) (w : AH), Ex M_X1_init lv 28 l (.ref b :: [.ref s0, .ref s1]) w = if (Call M_X3_init 60 [.ref b] w).isSome = true then Ex M_X1_init lv 31 l (pushR (cV (Call M_X3_init 60 [.ref b] w)) [.ref s0, .ref s1]) (cW (Call M_X3_init 60 [.ref b] w) w) else none)
  ∧ (∀ (lv : Nat) (l : LX) (st : List Value) (a : Nat) (v : Value) (w : AH), Ex M_X1_init lv 31 l (v :: .ref a :: st) w = if (pf (hg w a) 1 2 (.object "CarpetLands$Law") v).isSome = true then Ex M_X1_init lv 34 l st (hs w a (vE (pf (hg w a) 1 2 (.object "CarpetLands$Law") v))) else none)
  ∧ (∀ (lv : Nat) (st : List Value) (t : LX) (x : Nat) (w : AH), Ex M_X1_init lv 34 (some (.ref x) :: t) st w = Ex M_X1_init lv 35 (some (.ref x) :: t) (.ref x :: st) w)
  ∧ (∀ (lv : Nat) (st : List Value) (t : LX) (w : AH), Ex M_X1_init lv 34 (some (.null) :: t) st w = Ex M_X1_init lv 35 (some (.null) :: t) (.null :: st) w)
  ∧ (∀ (lv : Nat) (l : LX) (st : List Value) (w : AH), Ex M_X1_init lv 35 l st w = Ex M_X1_init lv 38 l (.ref w.1 :: st) (hn w (.inr (3, [.null, .null])) 2))
  ∧ (∀ (lv : Nat) (l : LX) (st : List Value) (x : Nat) (w : AH), Ex M_X1_init lv 38 l (.ref x :: st) w = Ex M_X1_init lv 39 l (.ref x :: .ref x :: st) w)
  ∧ (∀ (lv : Nat) (l : LX) (b : Nat) (s0 : Nat) (s1 : Nat) (w : AH), Ex M_X1_init lv 39 l (.ref b :: [.ref s0, .ref s1]) w = if (Call M_X3_init 60 [.ref b] w).isSome = true then Ex M_X1_init lv 42 l (pushR (cV (Call M_X3_init 60 [.ref b] w)) [.ref s0, .ref s1]) (cW (Call M_X3_init 60 [.ref b] w) w) else none)
  ∧ (∀ (lv : Nat) (l : LX) (st : List Value) (a : Nat) (v : Value) (w : AH), Ex M_X1_init lv 42 l (v :: .ref a :: st) w = if (pf (hg w a) 1 3 (.object "CarpetLands$Law") v).isSome = true then Ex M_X1_init lv 45 l st (hs w a (vE (pf (hg w a) 1 3 (.object "CarpetLands$Law") v))) else none)
  ∧ (∀ (lv : Nat) (st : List Value) (t : LX) (x : Nat) (w : AH), Ex M_X1_init lv 45 (some (.ref x) :: t) st w = Ex M_X1_init lv 46 (some (.ref x) :: t) (.ref x :: st) w)
  ∧ (∀ (lv : Nat) (st : List Value) (t : LX) (w : AH), Ex M_X1_init lv 45 (some (.null) :: t) st w = Ex M_X1_init lv 46 (some (.null) :: t) (.null :: st) w)
  ∧ (∀ (lv : Nat) (l : LX) (st : List Value) (w : AH), Ex M_X1_init lv 46 l st w = Ex M_X1_init lv 49 l (.ref w.1 :: st) (hn w (.inr (6, [.null, .int 0])) 2))
  ∧ (∀ (lv : Nat) (l : LX) (st : List Value) (x : Nat) (w : AH), Ex M_X1_init lv 49 l (.ref x :: st) w = Ex M_X1_init lv 50 l (.ref x :: .ref x :: st) w)
  ∧ (∀ (lv : Nat) (l : LX) (st : List Value) (w : AH), Ex M_X1_init lv 50 l st w = Ex M_X1_init lv 52 l (.int 50 :: st) w)
  ∧ (∀ (lv : Nat) (l : LX) (b : Nat) (a0 : Int32) (s0 : Nat) (s1 : Nat) (w : AH), Ex M_X1_init lv 52 l (.int a0 :: .ref b :: [.ref s0, .ref s1]) w = if (Call M_X6_init 60 [.ref b, .int a0] w).isSome = true then Ex M_X1_init lv 55 l (pushR (cV (Call M_X6_init 60 [.ref b, .int a0] w)) [.ref s0, .ref s1]) (cW (Call M_X6_init 60 [.ref b, .int a0] w) w) else none)
  ∧ (∀ (lv : Nat) (l : LX) (st : List Value) (a : Nat) (v : Value) (w : AH), Ex M_X1_init lv 55 l (v :: .ref a :: st) w = if (pf (hg w a) 1 4 (.object "CarpetLands$Row") v).isSome = true then Ex M_X1_init lv 58 l st (hs w a (vE (pf (hg w a) 1 4 (.object "CarpetLands$Row") v))) else none)
  ∧ (∀ (lv : Nat) (st : List Value) (t : LX) (x : Nat) (w : AH), Ex M_X1_init lv 58 (some (.ref x) :: t) st w = Ex M_X1_init lv 59 (some (.ref x) :: t) (.ref x :: st) w)
  ∧ (∀ (lv : Nat) (st : List Value) (t : LX) (w : AH), Ex M_X1_init lv 58 (some (.null) :: t) st w = Ex M_X1_init lv 59 (some (.null) :: t) (.null :: st) w)
  ∧ (∀ (lv : Nat) (l : LX) (st : List Value) (w : AH), Ex M_X1_init lv 59 l st w = Ex M_X1_init lv 62 l (.ref w.1 :: st) (hn w (.inr (6, [.null, .int 0])) 2))
  ∧ (∀ (lv : Nat) (l : LX) (st : List Value) (x : Nat) (w : AH), Ex M_X1_init lv 62 l (.ref x :: st) w = Ex M_X1_init lv 63 l (.ref x :: .ref x :: st) w)
  ∧ (∀ (lv : Nat) (l : LX) (st : List Value) (w : AH), Ex M_X1_init lv 63 l st w = Ex M_X1_init lv 65 l (.int 20 :: st) w)
  ∧ (∀ (lv : Nat) (l : LX) (b : Nat) (a0 : Int32) (s0 : Nat) (s1 : Nat) (w : AH), Ex M_X1_init lv 65 l (.int a0 :: .ref b :: [.ref s0, .ref s1]) w = if (Call M_X6_init 60 [.ref b, .int a0] w).isSome = true then Ex M_X1_init lv 68 l (pushR (cV (Call M_X6_init 60 [.ref b, .int a0] w)) [.ref s0, .ref s1]) (cW (Call M_X6_init 60 [.ref b, .int a0] w) w) else none)
  ∧ (∀ (lv : Nat) (l : LX) (st : List Value) (a : Nat) (v : Value) (w : AH), Ex M_X1_init lv 68 l (v :: .ref a :: st) w = if (pf (hg w a) 1 5 (.object "CarpetLands$Row") v).isSome = true then Ex M_X1_init lv 71 l st (hs w a (vE (pf (hg w a) 1 5 (.object "CarpetLands$Row") v))) else none)
  ∧ (∀ (lv : Nat) (st : List Value) (t : LX) (x : Nat) (w : AH), Ex M_X1_init lv 71 (some (.ref x) :: t) st w = Ex M_X1_init lv 72 (some (.ref x) :: t) (.ref x :: st) w)
  ∧ (∀ (lv : Nat) (st : List Value) (t : LX) (w : AH), Ex M_X1_init lv 71 (some (.null) :: t) st w = Ex M_X1_init lv 72 (some (.null) :: t) (.null :: st) w)
  ∧ (∀ (lv : Nat) (l : LX) (st : List Value) (w : AH), Ex M_X1_init lv 72 l st w = Ex M_X1_init lv 73 l (.int 0 :: st) w)
  ∧ (∀ (lv : Nat) (l : LX) (st : List Value) (a : Nat) (v : Value) (w : AH), Ex M_X1_init lv 73 l (v :: .ref a :: st) w = if (pf (hg w a) 1 6 .int v).isSome = true then Ex M_X1_init lv 76 l st (hs w a (vE (pf (hg w a) 1 6 .int v))) else none)
  ∧ (∀ (lv : Nat) (st : List Value) (t : LX) (x : Nat) (w : AH), Ex M_X1_init lv 76 (some (.ref x) :: t) st w = Ex M_X1_init lv 77 (some (.ref x) :: t) (.ref x :: st) w)
  ∧ (∀ (lv : Nat) (st : List Value) (t : LX) (w : AH), Ex M_X1_init lv 76 (some (.null) :: t) st w = Ex M_X1_init lv 77 (some (.null) :: t) (.null :: st) w)
  ∧ (∀ (lv : Nat) (l : LX) (st : List Value) (w : AH), Ex M_X1_init lv 77 l st w = Ex M_X1_init lv 78 l (.int 0 :: st) w)
  ∧ (∀ (lv : Nat) (l : LX) (st : List Value) (a : Nat) (v : Value) (w : AH), Ex M_X1_init lv 78 l (v :: .ref a :: st) w = if (pf (hg w a) 1 7 .int v).isSome = true then Ex M_X1_init lv 81 l st (hs w a (vE (pf (hg w a) 1 7 .int v))) else none)
  ∧ (∀ (lv : Nat) (st : List Value) (t : LX) (x : Nat) (w : AH), Ex M_X1_init lv 81 (some (.ref x) :: t) st w = Ex M_X1_init lv 82 (some (.ref x) :: t) (.ref x :: st) w)
  ∧ (∀ (lv : Nat) (st : List Value) (t : LX) (w : AH), Ex M_X1_init lv 81 (some (.null) :: t) st w = Ex M_X1_init lv 82 (some (.null) :: t) (.null :: st) w)
  ∧ (∀ (lv : Nat) (l : LX) (st : List Value) (w : AH), Ex M_X1_init lv 82 l st w = Ex M_X1_init lv 83 l (.int 1 :: st) w)
  ∧ (∀ (lv : Nat) (l : LX) (st : List Value) (a : Nat) (v : Value) (w : AH), Ex M_X1_init lv 83 l (v :: .ref a :: st) w = if (pf (hg w a) 1 8 .int v).isSome = true then Ex M_X1_init lv 86 l st (hs w a (vE (pf (hg w a) 1 8 .int v))) else none)
  ∧ (∀ (lv : Nat) (l : LX) (st : List Value) (w : AH), Ex M_X1_init lv 86 l st w = Ex M_X1_init lv 87 l (.int 0 :: st) w)
  ∧ (∀ (lv : Nat) (l : LX) (st : List Value) (x : Int32) (w : AH), Ex M_X1_init lv 87 l (.int x :: st) w = Ex M_X1_init lv 88 (ls1 l 1 (.int x)) st w)
  ∧ (∀ (lv : Nat) (l : LX) (st : List Value) (w : AH), Ex M_X1_init lv 89 l st w = Ex M_X1_init lv 90 l (.int 5 :: st) w)
  ∧ (∀ (lv : Nat) (l : LX) (st : List Value) (x y : Int32) (w : AH), Ex M_X1_init lv 90 l (.int y :: .int x :: st) w = if y ≤ x then Ex M_X1_init lv 112 l st w else Ex M_X1_init lv 93 l st w)
  ∧ (∀ (lv : Nat) (st : List Value) (t : LX) (x : Nat) (w : AH), Ex M_X1_init lv 93 (some (.ref x) :: t) st w = Ex M_X1_init lv 94 (some (.ref x) :: t) (.ref x :: st) w)
  ∧ (∀ (lv : Nat) (st : List Value) (t : LX) (w : AH), Ex M_X1_init lv 93 (some (.null) :: t) st w = Ex M_X1_init lv 94 (some (.null) :: t) (.null :: st) w)
  ∧ (∀ (lv : Nat) (l : LX) (st : List Value) (a : Nat) (w : AH), Ex M_X1_init lv 94 l (.ref a :: st) w = if (gf (hg w a) 1 1).isSome = true then Ex M_X1_init lv 97 l (vV (gf (hg w a) 1 1) :: st) w else none)
  ∧ (∀ (lv : Nat) (st : List Value) (t : LX) (o0 : Option Value) (x : Int32) (w : AH), Ex M_X1_init lv 97 (o0 :: some (.int x) :: t) st w = Ex M_X1_init lv 98 (o0 :: some (.int x) :: t) (.int x :: st) w) :=
  ⟨(fun lv st t x w => Ex_M (i := .aload_n 0) (n := 1) (by decide +kernel) rfl rfl rfl),
   (fun lv st t w => Ex_M (i := .aload_n 0) (n := 1) (by decide +kernel) rfl rfl rfl),
   (fun lv l b w => Ex_oinit (by decide +kernel : decode M_X1_init.2.1 1 = .ok (.invokespecial 3, 3)) rfl (by rfl : resM (mCn M_X1_init) 3 = some (6, M_X0_init)) (by rfl)),
   (fun lv st t x w => Ex_M (i := .aload_n 0) (n := 1) (by decide +kernel) rfl rfl rfl),
   (fun lv st t w => Ex_M (i := .aload_n 0) (n := 1) (by decide +kernel) rfl rfl rfl),
   (fun lv l st w => Ex_new (by decide +kernel : decode M_X1_init.2.1 5 = .ok (.new 9, 3)) rfl (by decide +kernel) rfl rfl),
   (fun lv l st x w => Ex_A (i := .dup) (n := 1) (by decide +kernel) rfl rfl),
   (fun lv l b s0 s1 w => Ex_callI (by decide +kernel : decode M_X1_init.2.1 9 = .ok (.invokespecial 11, 3)) rfl (by rfl : resM (mCn M_X1_init) 11 = some (3, M_X0_init)) (by decide) rfl (by rfl) (Nat.le_of_ble_eq_true rfl) (sLv_lt (by decide +kernel))),
   (fun lv l st a v w => Ex_putf (by decide +kernel : decode M_X1_init.2.1 12 = .ok (.putfield 12, 3)) rfl (by decide +kernel : resF (mCn M_X1_init) 12 = some (1, 0, (.object "CarpetLands$Carpet"), true)) (by decide +kernel)),
   (fun lv st t x w => Ex_M (i := .aload_n 0) (n := 1) (by decide +kernel) rfl rfl rfl),
   (fun lv st t w => Ex_M (i := .aload_n 0) (n := 1) (by decide +kernel) rfl rfl rfl),
   (fun lv l st w => Ex_A (i := .iconst 5) (n := 1) (by decide +kernel) rfl rfl),
   (fun lv l st w => Ex_anew (by decide +kernel : decode M_X1_init.2.1 17 = .ok (.anewarray 18, 3)) rfl (by decide +kernel) (by decide) (by decide)),
   (fun lv l st a v w => Ex_putf (by decide +kernel : decode M_X1_init.2.1 20 = .ok (.putfield 20, 3)) rfl (by decide +kernel : resF (mCn M_X1_init) 20 = some (1, 1, (.array (.object "CarpetLands$Walker")), true)) (by decide +kernel)),
   (fun lv st t x w => Ex_M (i := .aload_n 0) (n := 1) (by decide +kernel) rfl rfl rfl),
   (fun lv st t w => Ex_M (i := .aload_n 0) (n := 1) (by decide +kernel) rfl rfl rfl),
   (fun lv l st w => Ex_new (by decide +kernel : decode M_X1_init.2.1 24 = .ok (.new 24, 3)) rfl (by decide +kernel) rfl rfl),
   (fun lv l st x w => Ex_A (i := .dup) (n := 1) (by decide +kernel) rfl rfl),
   (fun lv l b s0 s1 w => Ex_callI (by decide +kernel : decode M_X1_init.2.1 28 = .ok (.invokespecial 26, 3)) rfl (by rfl : resM (mCn M_X1_init) 26 = some (4, M_X3_init)) (by decide) rfl (by rfl) (Nat.le_of_ble_eq_true rfl) (sLv_lt (by decide +kernel))),
   (fun lv l st a v w => Ex_putf (by decide +kernel : decode M_X1_init.2.1 31 = .ok (.putfield 27, 3)) rfl (by decide +kernel : resF (mCn M_X1_init) 27 = some (1, 2, (.object "CarpetLands$Law"), true)) (by decide +kernel)),
   (fun lv st t x w => Ex_M (i := .aload_n 0) (n := 1) (by decide +kernel) rfl rfl rfl),
   (fun lv st t w => Ex_M (i := .aload_n 0) (n := 1) (by decide +kernel) rfl rfl rfl),
   (fun lv l st w => Ex_new (by decide +kernel : decode M_X1_init.2.1 35 = .ok (.new 24, 3)) rfl (by decide +kernel) rfl rfl),
   (fun lv l st x w => Ex_A (i := .dup) (n := 1) (by decide +kernel) rfl rfl),
   (fun lv l b s0 s1 w => Ex_callI (by decide +kernel : decode M_X1_init.2.1 39 = .ok (.invokespecial 26, 3)) rfl (by rfl : resM (mCn M_X1_init) 26 = some (4, M_X3_init)) (by decide) rfl (by rfl) (Nat.le_of_ble_eq_true rfl) (sLv_lt (by decide +kernel))),
   (fun lv l st a v w => Ex_putf (by decide +kernel : decode M_X1_init.2.1 42 = .ok (.putfield 31, 3)) rfl (by decide +kernel : resF (mCn M_X1_init) 31 = some (1, 3, (.object "CarpetLands$Law"), true)) (by decide +kernel)),
   (fun lv st t x w => Ex_M (i := .aload_n 0) (n := 1) (by decide +kernel) rfl rfl rfl),
   (fun lv st t w => Ex_M (i := .aload_n 0) (n := 1) (by decide +kernel) rfl rfl rfl),
   (fun lv l st w => Ex_new (by decide +kernel : decode M_X1_init.2.1 46 = .ok (.new 34, 3)) rfl (by decide +kernel) rfl rfl),
   (fun lv l st x w => Ex_A (i := .dup) (n := 1) (by decide +kernel) rfl rfl),
   (fun lv l st w => Ex_A (i := .bipush 50) (n := 2) (by decide +kernel) rfl rfl),
   (fun lv l b a0 s0 s1 w => Ex_callI (by decide +kernel : decode M_X1_init.2.1 52 = .ok (.invokespecial 36, 3)) rfl (by rfl : resM (mCn M_X1_init) 36 = some (3, M_X6_init)) (by decide) rfl (by rfl) (Nat.le_of_ble_eq_true rfl) (sLv_lt (by decide +kernel))),
   (fun lv l st a v w => Ex_putf (by decide +kernel : decode M_X1_init.2.1 55 = .ok (.putfield 39, 3)) rfl (by decide +kernel : resF (mCn M_X1_init) 39 = some (1, 4, (.object "CarpetLands$Row"), true)) (by decide +kernel)),
   (fun lv st t x w => Ex_M (i := .aload_n 0) (n := 1) (by decide +kernel) rfl rfl rfl),
   (fun lv st t w => Ex_M (i := .aload_n 0) (n := 1) (by decide +kernel) rfl rfl rfl),
   (fun lv l st w => Ex_new (by decide +kernel : decode M_X1_init.2.1 59 = .ok (.new 34, 3)) rfl (by decide +kernel) rfl rfl),
   (fun lv l st x w => Ex_A (i := .dup) (n := 1) (by decide +kernel) rfl rfl),
   (fun lv l st w => Ex_A (i := .bipush 20) (n := 2) (by decide +kernel) rfl rfl),
   (fun lv l b a0 s0 s1 w => Ex_callI (by decide +kernel : decode M_X1_init.2.1 65 = .ok (.invokespecial 36, 3)) rfl (by rfl : resM (mCn M_X1_init) 36 = some (3, M_X6_init)) (by decide) rfl (by rfl) (Nat.le_of_ble_eq_true rfl) (sLv_lt (by decide +kernel))),
   (fun lv l st a v w => Ex_putf (by decide +kernel : decode M_X1_init.2.1 68 = .ok (.putfield 43, 3)) rfl (by decide +kernel : resF (mCn M_X1_init) 43 = some (1, 5, (.object "CarpetLands$Row"), true)) (by decide +kernel)),
   (fun lv st t x w => Ex_M (i := .aload_n 0) (n := 1) (by decide +kernel) rfl rfl rfl),
   (fun lv st t w => Ex_M (i := .aload_n 0) (n := 1) (by decide +kernel) rfl rfl rfl),
   (fun lv l st w => Ex_A (i := .iconst 0) (n := 1) (by decide +kernel) rfl rfl),
   (fun lv l st a v w => Ex_putf (by decide +kernel : decode M_X1_init.2.1 73 = .ok (.putfield 46, 3)) rfl (by decide +kernel : resF (mCn M_X1_init) 46 = some (1, 6, .int, false)) (by decide +kernel)),
   (fun lv st t x w => Ex_M (i := .aload_n 0) (n := 1) (by decide +kernel) rfl rfl rfl),
   (fun lv st t w => Ex_M (i := .aload_n 0) (n := 1) (by decide +kernel) rfl rfl rfl),
   (fun lv l st w => Ex_A (i := .iconst 0) (n := 1) (by decide +kernel) rfl rfl),
   (fun lv l st a v w => Ex_putf (by decide +kernel : decode M_X1_init.2.1 78 = .ok (.putfield 50, 3)) rfl (by decide +kernel : resF (mCn M_X1_init) 50 = some (1, 7, .int, false)) (by decide +kernel)),
   (fun lv st t x w => Ex_M (i := .aload_n 0) (n := 1) (by decide +kernel) rfl rfl rfl),
   (fun lv st t w => Ex_M (i := .aload_n 0) (n := 1) (by decide +kernel) rfl rfl rfl),
   (fun lv l st w => Ex_A (i := .iconst 1) (n := 1) (by decide +kernel) rfl rfl),
   (fun lv l st a v w => Ex_putf (by decide +kernel : decode M_X1_init.2.1 83 = .ok (.putfield 53, 3)) rfl (by decide +kernel : resF (mCn M_X1_init) 53 = some (1, 8, .int, false)) (by decide +kernel)),
   (fun lv l st w => Ex_A (i := .iconst 0) (n := 1) (by decide +kernel) rfl rfl),
   (fun lv l st x w => Ex_M (i := .istore_n 1) (n := 1) (by decide +kernel) rfl rfl rfl),
   (fun lv l st w => Ex_A (i := .iconst 5) (n := 1) (by decide +kernel) rfl rfl),
   (fun lv l st x y w => Ex_icmp_ge (by decide +kernel : decode M_X1_init.2.1 90 = .ok (.if_icmp .ge 22, 3)) rfl rfl),
   (fun lv st t x w => Ex_M (i := .aload_n 0) (n := 1) (by decide +kernel) rfl rfl rfl),
   (fun lv st t w => Ex_M (i := .aload_n 0) (n := 1) (by decide +kernel) rfl rfl rfl),
   (fun lv l st a w => Ex_getf (by decide +kernel : decode M_X1_init.2.1 94 = .ok (.getfield 20, 3)) rfl (by decide +kernel : resF (mCn M_X1_init) 20 = some (1, 1, (.array (.object "CarpetLands$Walker")), true))),
   (fun lv st t o0 x w => Ex_M (i := .iload_n 1) (n := 1) (by decide +kernel) rfl rfl rfl)⟩
set_option maxRecDepth 20000 in
set_option maxHeartbeats 4000000 in
theorem R_X1_init_p1 : (∀ (lv : Nat) (l : LX) (st : List Value) (w : AH), Ex M_X1_init lv 98 l st w = Ex M_X1_init lv 101 l (.ref w.1 :: st) (hn w (.inr (9, [.int 0, .int 0, .int 0, .int 0])) 4))
  ∧ (∀ (lv : Nat) (l : LX) (st : List Value) (x : Nat) (w : AH), Ex M_X1_init lv 101 l (.ref x :: st) w = Ex M_X1_init lv 102 l (.ref x :: .ref x :: st) w)
  ∧ (∀ (lv : Nat) (l : LX) (b : Nat) (s0 : Nat) (s1 : Int32) (s2 : Nat) (w : AH), Ex M_X1_init lv 102 l (.ref b :: [.ref s0, .int s1, .ref s2]) w = if (Call M_X10_init 60 [.ref b] w).isSome = true then Ex M_X1_init lv 105 l (pushR (cV (Call M_X10_init 60 [.ref b] w)) [.ref s0, .int s1, .ref s2]) (cW (Call M_X10_init 60 [.ref b] w) w) else none)
  ∧ (∀ (lv : Nat) (l : LX) (st : List Value) (a : Nat) (i : Int32) (x : Nat) (w : AH), Ex M_X1_init lv 105 l (.ref x :: .int i :: .ref a :: st) w = if (uQ (hg w a) (hg w x) i x).isSome = true then Ex M_X1_init lv 106 l st (hs w a (vE (uQ (hg w a) (hg w x) i x))) else none)
  ∧ (∀ (lv : Nat) (st : List Value) (t : LX) (o0 : Option Value) (x : Int32) (w : AH), Ex M_X1_init lv 106 (o0 :: some (.int x) :: t) st w = Ex M_X1_init lv 109 (ls1 (o0 :: some (.int x) :: t) 1 (.int (x + 1))) st w)
  ∧ (∀ (lv : Nat) (l : LX) (st : List Value) (w : AH), Ex M_X1_init lv 109 l st w = Ex M_X1_init lv 88 l st w)
  ∧ (∀ (lv : Nat) (l : LX) (w : AH), Ex M_X1_init lv 112 l [] w = some (none, w)) :=
  ⟨(fun lv l st w => Ex_new (by decide +kernel : decode M_X1_init.2.1 98 = .ok (.new 18, 3)) rfl (by decide +kernel) rfl rfl),
   (fun lv l st x w => Ex_A (i := .dup) (n := 1) (by decide +kernel) rfl rfl),
   (fun lv l b s0 s1 s2 w => Ex_callI (by decide +kernel : decode M_X1_init.2.1 102 = .ok (.invokespecial 56, 3)) rfl (by rfl : resM (mCn M_X1_init) 56 = some (4, M_X10_init)) (by decide) rfl (by rfl) (Nat.le_of_ble_eq_true rfl) (sLv_lt (by decide +kernel))),
   (fun lv l st a i x w => Ex_aas (by decide +kernel : decode M_X1_init.2.1 105 = .ok (.aastore, 1)) rfl),
   (fun lv st t o0 x w => Ex_iinc (by decide +kernel : decode M_X1_init.2.1 106 = .ok (.iinc 1 1, 3)) rfl rfl (by decide) (by decide)),
   (fun lv l st w => Ex_goto (by decide +kernel : decode M_X1_init.2.1 109 = .ok (.goto (-21), 3)) rfl),
   (fun lv l w => Ex_R (i := .return_) (n := 1) (by decide +kernel) rfl rfl rfl rfl rfl)⟩
-- R_X1_init: p0 to p1
set_option maxRecDepth 20000 in
theorem H_X1_copyFrom_13 : ∀ (lv : Nat) (st : List Value) (t : LX) (o0 o1 : Option Value) (x : Int32) (w : AH), Ex M_X1_copyFrom lv 13 (o0 :: o1 :: some (.int x) :: t) st w = Ex M_X1_copyFrom lv 14 (o0 :: o1 :: some (.int x) :: t) (.int x :: st) w := fun lv st t o0 o1 x w => Ex_M (i := .iload_n 2) (n := 1) (by decide +kernel) rfl rfl rfl
set_option maxRecDepth 20000 in
set_option maxHeartbeats 4000000 in
theorem R_X1_copyFrom_p0 : (∀ (lv : Nat) (st : List Value) (t : LX) (x : Nat) (w : AH), Ex M_X1_copyFrom lv 0 (some (.ref x) :: t) st w = Ex M_X1_copyFrom lv 1 (some (.ref x) :: t) (.ref x :: st) w)
  ∧ (∀ (lv : Nat) (st : List Value) (t : LX) (w : AH), Ex M_X1_copyFrom lv 0 (some (.null) :: t) st w = Ex M_X1_copyFrom lv 1 (some (.null) :: t) (.null :: st) w)
  ∧ (∀ (lv : Nat) (l : LX) (st : List Value) (a : Nat) (w : AH), Ex M_X1_copyFrom lv 1 l (.ref a :: st) w = if (gf (hg w a) 1 0).isSome = true then Ex M_X1_copyFrom lv 4 l (vV (gf (hg w a) 1 0) :: st) w else none)
  ∧ (∀ (lv : Nat) (st : List Value) (t : LX) (o0 : Option Value) (x : Nat) (w : AH), Ex M_X1_copyFrom lv 4 (o0 :: some (.ref x) :: t) st w = Ex M_X1_copyFrom lv 5 (o0 :: some (.ref x) :: t) (.ref x :: st) w)
  ∧ (∀ (lv : Nat) (st : List Value) (t : LX) (o0 : Option Value) (w : AH), Ex M_X1_copyFrom lv 4 (o0 :: some (.null) :: t) st w = Ex M_X1_copyFrom lv 5 (o0 :: some (.null) :: t) (.null :: st) w)
  ∧ (∀ (lv : Nat) (l : LX) (st : List Value) (a : Nat) (w : AH), Ex M_X1_copyFrom lv 5 l (.ref a :: st) w = if (gf (hg w a) 1 0).isSome = true then Ex M_X1_copyFrom lv 8 l (vV (gf (hg w a) 1 0) :: st) w else none)
  ∧ (∀ (lv : Nat) (l : LX) (b : Nat) (a0 : Nat) (w : AH), Ex M_X1_copyFrom lv 8 l (.ref a0 :: .ref b :: []) w = if clK (hg w b) = 0 then (if (Call M_X0_copyFrom 60 [.ref b, .ref a0] w).isSome = true then Ex M_X1_copyFrom lv 11 l (pushR (cV (Call M_X0_copyFrom 60 [.ref b, .ref a0] w)) []) (cW (Call M_X0_copyFrom 60 [.ref b, .ref a0] w) w) else none) else none)
  ∧ (∀ (lv : Nat) (l : LX) (st : List Value) (w : AH), Ex M_X1_copyFrom lv 11 l st w = Ex M_X1_copyFrom lv 12 l (.int 0 :: st) w)
  ∧ (∀ (lv : Nat) (l : LX) (st : List Value) (x : Int32) (w : AH), Ex M_X1_copyFrom lv 12 l (.int x :: st) w = Ex M_X1_copyFrom lv 13 (ls1 l 2 (.int x)) st w)
  ∧ (∀ (lv : Nat) (l : LX) (st : List Value) (w : AH), Ex M_X1_copyFrom lv 14 l st w = Ex M_X1_copyFrom lv 15 l (.int 5 :: st) w)
  ∧ (∀ (lv : Nat) (l : LX) (st : List Value) (x y : Int32) (w : AH), Ex M_X1_copyFrom lv 15 l (.int y :: .int x :: st) w = if y ≤ x then Ex M_X1_copyFrom lv 39 l st w else Ex M_X1_copyFrom lv 18 l st w)
  ∧ (∀ (lv : Nat) (st : List Value) (t : LX) (x : Nat) (w : AH), Ex M_X1_copyFrom lv 18 (some (.ref x) :: t) st w = Ex M_X1_copyFrom lv 19 (some (.ref x) :: t) (.ref x :: st) w)
  ∧ (∀ (lv : Nat) (st : List Value) (t : LX) (w : AH), Ex M_X1_copyFrom lv 18 (some (.null) :: t) st w = Ex M_X1_copyFrom lv 19 (some (.null) :: t) (.null :: st) w)
  ∧ (∀ (lv : Nat) (l : LX) (st : List Value) (a : Nat) (w : AH), Ex M_X1_copyFrom lv 19 l (.ref a :: st) w = if (gf (hg w a) 1 1).isSome = true then Ex M_X1_copyFrom lv 22 l (vV (gf (hg w a) 1 1) :: st) w else none)
  ∧ (∀ (lv : Nat) (st : List Value) (t : LX) (o0 o1 : Option Value) (x : Int32) (w : AH), Ex M_X1_copyFrom lv 22 (o0 :: o1 :: some (.int x) :: t) st w = Ex M_X1_copyFrom lv 23 (o0 :: o1 :: some (.int x) :: t) (.int x :: st) w)
  ∧ (∀ (lv : Nat) (l : LX) (st : List Value) (a : Nat) (i : Int32) (w : AH), Ex M_X1_copyFrom lv 23 l (.int i :: .ref a :: st) w = if (aQ (hg w a) i).isSome = true then Ex M_X1_copyFrom lv 24 l (vV (aQ (hg w a) i) :: st) w else none)
  ∧ (∀ (lv : Nat) (st : List Value) (t : LX) (o0 : Option Value) (x : Nat) (w : AH), Ex M_X1_copyFrom lv 24 (o0 :: some (.ref x) :: t) st w = Ex M_X1_copyFrom lv 25 (o0 :: some (.ref x) :: t) (.ref x :: st) w)
  ∧ (∀ (lv : Nat) (st : List Value) (t : LX) (o0 : Option Value) (w : AH), Ex M_X1_copyFrom lv 24 (o0 :: some (.null) :: t) st w = Ex M_X1_copyFrom lv 25 (o0 :: some (.null) :: t) (.null :: st) w)
  ∧ (∀ (lv : Nat) (l : LX) (st : List Value) (a : Nat) (w : AH), Ex M_X1_copyFrom lv 25 l (.ref a :: st) w = if (gf (hg w a) 1 1).isSome = true then Ex M_X1_copyFrom lv 28 l (vV (gf (hg w a) 1 1) :: st) w else none)
  ∧ (∀ (lv : Nat) (st : List Value) (t : LX) (o0 o1 : Option Value) (x : Int32) (w : AH), Ex M_X1_copyFrom lv 28 (o0 :: o1 :: some (.int x) :: t) st w = Ex M_X1_copyFrom lv 29 (o0 :: o1 :: some (.int x) :: t) (.int x :: st) w)
  ∧ (∀ (lv : Nat) (l : LX) (st : List Value) (a : Nat) (i : Int32) (w : AH), Ex M_X1_copyFrom lv 29 l (.int i :: .ref a :: st) w = if (aQ (hg w a) i).isSome = true then Ex M_X1_copyFrom lv 30 l (vV (aQ (hg w a) i) :: st) w else none)
  ∧ (∀ (lv : Nat) (l : LX) (b : Nat) (a0 : Nat) (w : AH), Ex M_X1_copyFrom lv 30 l (.ref a0 :: .ref b :: []) w = if clK (hg w b) = 9 then (if (Call M_X10_copyFrom 60 [.ref b, .ref a0] w).isSome = true then Ex M_X1_copyFrom lv 33 l (pushR (cV (Call M_X10_copyFrom 60 [.ref b, .ref a0] w)) []) (cW (Call M_X10_copyFrom 60 [.ref b, .ref a0] w) w) else none) else none)
  ∧ (∀ (lv : Nat) (st : List Value) (t : LX) (o0 o1 : Option Value) (x : Int32) (w : AH), Ex M_X1_copyFrom lv 33 (o0 :: o1 :: some (.int x) :: t) st w = Ex M_X1_copyFrom lv 36 (ls1 (o0 :: o1 :: some (.int x) :: t) 2 (.int (x + 1))) st w)
  ∧ (∀ (lv : Nat) (l : LX) (st : List Value) (w : AH), Ex M_X1_copyFrom lv 36 l st w = Ex M_X1_copyFrom lv 13 l st w)
  ∧ (∀ (lv : Nat) (st : List Value) (t : LX) (x : Nat) (w : AH), Ex M_X1_copyFrom lv 39 (some (.ref x) :: t) st w = Ex M_X1_copyFrom lv 40 (some (.ref x) :: t) (.ref x :: st) w)
  ∧ (∀ (lv : Nat) (st : List Value) (t : LX) (w : AH), Ex M_X1_copyFrom lv 39 (some (.null) :: t) st w = Ex M_X1_copyFrom lv 40 (some (.null) :: t) (.null :: st) w)
  ∧ (∀ (lv : Nat) (l : LX) (st : List Value) (a : Nat) (w : AH), Ex M_X1_copyFrom lv 40 l (.ref a :: st) w = if (gf (hg w a) 1 2).isSome = true then Ex M_X1_copyFrom lv 43 l (vV (gf (hg w a) 1 2) :: st) w else none)
  ∧ (∀ (lv : Nat) (st : List Value) (t : LX) (o0 : Option Value) (x : Nat) (w : AH), Ex M_X1_copyFrom lv 43 (o0 :: some (.ref x) :: t) st w = Ex M_X1_copyFrom lv 44 (o0 :: some (.ref x) :: t) (.ref x :: st) w)
  ∧ (∀ (lv : Nat) (st : List Value) (t : LX) (o0 : Option Value) (w : AH), Ex M_X1_copyFrom lv 43 (o0 :: some (.null) :: t) st w = Ex M_X1_copyFrom lv 44 (o0 :: some (.null) :: t) (.null :: st) w)
  ∧ (∀ (lv : Nat) (l : LX) (st : List Value) (a : Nat) (w : AH), Ex M_X1_copyFrom lv 44 l (.ref a :: st) w = if (gf (hg w a) 1 2).isSome = true then Ex M_X1_copyFrom lv 47 l (vV (gf (hg w a) 1 2) :: st) w else none)
  ∧ (∀ (lv : Nat) (l : LX) (st : List Value) (a : Nat) (w : AH), Ex M_X1_copyFrom lv 47 l (.ref a :: st) w = if (gf (hg w a) 3 0).isSome = true then Ex M_X1_copyFrom lv 50 l (vV (gf (hg w a) 3 0) :: st) w else none)
  ∧ (∀ (lv : Nat) (l : LX) (b : Nat) (a0 : Nat) (w : AH), Ex M_X1_copyFrom lv 50 l (.ref a0 :: .ref b :: []) w = if clK (hg w b) = 3 then (if (Call M_X3_learn 60 [.ref b, .ref a0] w).isSome = true then Ex M_X1_copyFrom lv 53 l (pushR (cV (Call M_X3_learn 60 [.ref b, .ref a0] w)) []) (cW (Call M_X3_learn 60 [.ref b, .ref a0] w) w) else none) else none)
  ∧ (∀ (lv : Nat) (st : List Value) (t : LX) (x : Nat) (w : AH), Ex M_X1_copyFrom lv 53 (some (.ref x) :: t) st w = Ex M_X1_copyFrom lv 54 (some (.ref x) :: t) (.ref x :: st) w)
  ∧ (∀ (lv : Nat) (st : List Value) (t : LX) (w : AH), Ex M_X1_copyFrom lv 53 (some (.null) :: t) st w = Ex M_X1_copyFrom lv 54 (some (.null) :: t) (.null :: st) w)
  ∧ (∀ (lv : Nat) (l : LX) (st : List Value) (a : Nat) (w : AH), Ex M_X1_copyFrom lv 54 l (.ref a :: st) w = if (gf (hg w a) 1 3).isSome = true then Ex M_X1_copyFrom lv 57 l (vV (gf (hg w a) 1 3) :: st) w else none)
  ∧ (∀ (lv : Nat) (st : List Value) (t : LX) (o0 : Option Value) (x : Nat) (w : AH), Ex M_X1_copyFrom lv 57 (o0 :: some (.ref x) :: t) st w = Ex M_X1_copyFrom lv 58 (o0 :: some (.ref x) :: t) (.ref x :: st) w)
  ∧ (∀ (lv : Nat) (st : List Value) (t : LX) (o0 : Option Value) (w : AH), Ex M_X1_copyFrom lv 57 (o0 :: some (.null) :: t) st w = Ex M_X1_copyFrom lv 58 (o0 :: some (.null) :: t) (.null :: st) w)
  ∧ (∀ (lv : Nat) (l : LX) (st : List Value) (a : Nat) (w : AH), Ex M_X1_copyFrom lv 58 l (.ref a :: st) w = if (gf (hg w a) 1 3).isSome = true then Ex M_X1_copyFrom lv 61 l (vV (gf (hg w a) 1 3) :: st) w else none)
  ∧ (∀ (lv : Nat) (l : LX) (st : List Value) (a : Nat) (w : AH), Ex M_X1_copyFrom lv 61 l (.ref a :: st) w = if (gf (hg w a) 3 0).isSome = true then Ex M_X1_copyFrom lv 64 l (vV (gf (hg w a) 3 0) :: st) w else none)
  ∧ (∀ (lv : Nat) (l : LX) (b : Nat) (a0 : Nat) (w : AH), Ex M_X1_copyFrom lv 64 l (.ref a0 :: .ref b :: []) w = if clK (hg w b) = 3 then (if (Call M_X3_learn 60 [.ref b, .ref a0] w).isSome = true then Ex M_X1_copyFrom lv 67 l (pushR (cV (Call M_X3_learn 60 [.ref b, .ref a0] w)) []) (cW (Call M_X3_learn 60 [.ref b, .ref a0] w) w) else none) else none)
  ∧ (∀ (lv : Nat) (st : List Value) (t : LX) (x : Nat) (w : AH), Ex M_X1_copyFrom lv 67 (some (.ref x) :: t) st w = Ex M_X1_copyFrom lv 68 (some (.ref x) :: t) (.ref x :: st) w)
  ∧ (∀ (lv : Nat) (st : List Value) (t : LX) (w : AH), Ex M_X1_copyFrom lv 67 (some (.null) :: t) st w = Ex M_X1_copyFrom lv 68 (some (.null) :: t) (.null :: st) w)
  ∧ (∀ (lv : Nat) (l : LX) (st : List Value) (a : Nat) (w : AH), Ex M_X1_copyFrom lv 68 l (.ref a :: st) w = if (gf (hg w a) 1 4).isSome = true then Ex M_X1_copyFrom lv 71 l (vV (gf (hg w a) 1 4) :: st) w else none)
  ∧ (∀ (lv : Nat) (st : List Value) (t : LX) (o0 : Option Value) (x : Nat) (w : AH), Ex M_X1_copyFrom lv 71 (o0 :: some (.ref x) :: t) st w = Ex M_X1_copyFrom lv 72 (o0 :: some (.ref x) :: t) (.ref x :: st) w)
  ∧ (∀ (lv : Nat) (st : List Value) (t : LX) (o0 : Option Value) (w : AH), Ex M_X1_copyFrom lv 71 (o0 :: some (.null) :: t) st w = Ex M_X1_copyFrom lv 72 (o0 :: some (.null) :: t) (.null :: st) w)
  ∧ (∀ (lv : Nat) (l : LX) (st : List Value) (a : Nat) (w : AH), Ex M_X1_copyFrom lv 72 l (.ref a :: st) w = if (gf (hg w a) 1 4).isSome = true then Ex M_X1_copyFrom lv 75 l (vV (gf (hg w a) 1 4) :: st) w else none)
  ∧ (∀ (lv : Nat) (l : LX) (b : Nat) (a0 : Nat) (w : AH), Ex M_X1_copyFrom lv 75 l (.ref a0 :: .ref b :: []) w = if clK (hg w b) = 6 then (if (Call M_X6_copyFrom 60 [.ref b, .ref a0] w).isSome = true then Ex M_X1_copyFrom lv 78 l (pushR (cV (Call M_X6_copyFrom 60 [.ref b, .ref a0] w)) []) (cW (Call M_X6_copyFrom 60 [.ref b, .ref a0] w) w) else none) else none)
  ∧ (∀ (lv : Nat) (st : List Value) (t : LX) (x : Nat) (w : AH), Ex M_X1_copyFrom lv 78 (some (.ref x) :: t) st w = Ex M_X1_copyFrom lv 79 (some (.ref x) :: t) (.ref x :: st) w)
  ∧ (∀ (lv : Nat) (st : List Value) (t : LX) (w : AH), Ex M_X1_copyFrom lv 78 (some (.null) :: t) st w = Ex M_X1_copyFrom lv 79 (some (.null) :: t) (.null :: st) w)
  ∧ (∀ (lv : Nat) (l : LX) (st : List Value) (a : Nat) (w : AH), Ex M_X1_copyFrom lv 79 l (.ref a :: st) w = if (gf (hg w a) 1 5).isSome = true then Ex M_X1_copyFrom lv 82 l (vV (gf (hg w a) 1 5) :: st) w else none)
  ∧ (∀ (lv : Nat) (st : List Value) (t : LX) (o0 : Option Value) (x : Nat) (w : AH), Ex M_X1_copyFrom lv 82 (o0 :: some (.ref x) :: t) st w = Ex M_X1_copyFrom lv 83 (o0 :: some (.ref x) :: t) (.ref x :: st) w)
  ∧ (∀ (lv : Nat) (st : List Value) (t : LX) (o0 : Option Value) (w : AH), Ex M_X1_copyFrom lv 82 (o0 :: some (.null) :: t) st w = Ex M_X1_copyFrom lv 83 (o0 :: some (.null) :: t) (.null :: st) w)
  ∧ (∀ (lv : Nat) (l : LX) (st : List Value) (a : Nat) (w : AH), Ex M_X1_copyFrom lv 83 l (.ref a :: st) w = if (gf (hg w a) 1 5).isSome = true then Ex M_X1_copyFrom lv 86 l (vV (gf (hg w a) 1 5) :: st) w else none)
  ∧ (∀ (lv : Nat) (l : LX) (b : Nat) (a0 : Nat) (w : AH), Ex M_X1_copyFrom lv 86 l (.ref a0 :: .ref b :: []) w = if clK (hg w b) = 6 then (if (Call M_X6_copyFrom 60 [.ref b, .ref a0] w).isSome = true then Ex M_X1_copyFrom lv 89 l (pushR (cV (Call M_X6_copyFrom 60 [.ref b, .ref a0] w)) []) (cW (Call M_X6_copyFrom 60 [.ref b, .ref a0] w) w) else none) else none)
  ∧ (∀ (lv : Nat) (st : List Value) (t : LX) (x : Nat) (w : AH), Ex M_X1_copyFrom lv 89 (some (.ref x) :: t) st w = Ex M_X1_copyFrom lv 90 (some (.ref x) :: t) (.ref x :: st) w)
  ∧ (∀ (lv : Nat) (st : List Value) (t : LX) (w : AH), Ex M_X1_copyFrom lv 89 (some (.null) :: t) st w = Ex M_X1_copyFrom lv 90 (some (.null) :: t) (.null :: st) w)
  ∧ (∀ (lv : Nat) (st : List Value) (t : LX) (o0 : Option Value) (x : Nat) (w : AH), Ex M_X1_copyFrom lv 90 (o0 :: some (.ref x) :: t) st w = Ex M_X1_copyFrom lv 91 (o0 :: some (.ref x) :: t) (.ref x :: st) w)
  ∧ (∀ (lv : Nat) (st : List Value) (t : LX) (o0 : Option Value) (w : AH), Ex M_X1_copyFrom lv 90 (o0 :: some (.null) :: t) st w = Ex M_X1_copyFrom lv 91 (o0 :: some (.null) :: t) (.null :: st) w)
  ∧ (∀ (lv : Nat) (l : LX) (st : List Value) (a : Nat) (w : AH), Ex M_X1_copyFrom lv 91 l (.ref a :: st) w = if (gf (hg w a) 1 6).isSome = true then Ex M_X1_copyFrom lv 94 l (vV (gf (hg w a) 1 6) :: st) w else none)
  ∧ (∀ (lv : Nat) (l : LX) (st : List Value) (a : Nat) (v : Value) (w : AH), Ex M_X1_copyFrom lv 94 l (v :: .ref a :: st) w = if (pf (hg w a) 1 6 .int v).isSome = true then Ex M_X1_copyFrom lv 97 l st (hs w a (vE (pf (hg w a) 1 6 .int v))) else none) :=
  ⟨(fun lv st t x w => Ex_M (i := .aload_n 0) (n := 1) (by decide +kernel) rfl rfl rfl),
   (fun lv st t w => Ex_M (i := .aload_n 0) (n := 1) (by decide +kernel) rfl rfl rfl),
   (fun lv l st a w => Ex_getf (by decide +kernel : decode M_X1_copyFrom.2.1 1 = .ok (.getfield 12, 3)) rfl (by decide +kernel : resF (mCn M_X1_copyFrom) 12 = some (1, 0, (.object "CarpetLands$Carpet"), true))),
   (fun lv st t o0 x w => Ex_M (i := .aload_n 1) (n := 1) (by decide +kernel) rfl rfl rfl),
   (fun lv st t o0 w => Ex_M (i := .aload_n 1) (n := 1) (by decide +kernel) rfl rfl rfl),
   (fun lv l st a w => Ex_getf (by decide +kernel : decode M_X1_copyFrom.2.1 5 = .ok (.getfield 12, 3)) rfl (by decide +kernel : resF (mCn M_X1_copyFrom) 12 = some (1, 0, (.object "CarpetLands$Carpet"), true))),
   (fun lv l b a0 w => Ex_callV (by decide +kernel : decode M_X1_copyFrom.2.1 8 = .ok (.invokevirtual 57, 3)) rfl (by rfl : resM (mCn M_X1_copyFrom) 57 = some (2, M_X0_copyFrom)) rfl (by rfl) (Nat.le_of_ble_eq_true rfl) (by decide +kernel) (sLv_lt (by decide +kernel))),
   (fun lv l st w => Ex_A (i := .iconst 0) (n := 1) (by decide +kernel) rfl rfl),
   (fun lv l st x w => Ex_M (i := .istore_n 2) (n := 1) (by decide +kernel) rfl rfl rfl),
   (fun lv l st w => Ex_A (i := .iconst 5) (n := 1) (by decide +kernel) rfl rfl),
   (fun lv l st x y w => Ex_icmp_ge (by decide +kernel : decode M_X1_copyFrom.2.1 15 = .ok (.if_icmp .ge 24, 3)) rfl rfl),
   (fun lv st t x w => Ex_M (i := .aload_n 0) (n := 1) (by decide +kernel) rfl rfl rfl),
   (fun lv st t w => Ex_M (i := .aload_n 0) (n := 1) (by decide +kernel) rfl rfl rfl),
   (fun lv l st a w => Ex_getf (by decide +kernel : decode M_X1_copyFrom.2.1 19 = .ok (.getfield 20, 3)) rfl (by decide +kernel : resF (mCn M_X1_copyFrom) 20 = some (1, 1, (.array (.object "CarpetLands$Walker")), true))),
   (fun lv st t o0 o1 x w => Ex_M (i := .iload_n 2) (n := 1) (by decide +kernel) rfl rfl rfl),
   (fun lv l st a i w => Ex_aal (by decide +kernel : decode M_X1_copyFrom.2.1 23 = .ok (.aaload, 1)) rfl),
   (fun lv st t o0 x w => Ex_M (i := .aload_n 1) (n := 1) (by decide +kernel) rfl rfl rfl),
   (fun lv st t o0 w => Ex_M (i := .aload_n 1) (n := 1) (by decide +kernel) rfl rfl rfl),
   (fun lv l st a w => Ex_getf (by decide +kernel : decode M_X1_copyFrom.2.1 25 = .ok (.getfield 20, 3)) rfl (by decide +kernel : resF (mCn M_X1_copyFrom) 20 = some (1, 1, (.array (.object "CarpetLands$Walker")), true))),
   (fun lv st t o0 o1 x w => Ex_M (i := .iload_n 2) (n := 1) (by decide +kernel) rfl rfl rfl),
   (fun lv l st a i w => Ex_aal (by decide +kernel : decode M_X1_copyFrom.2.1 29 = .ok (.aaload, 1)) rfl),
   (fun lv l b a0 w => Ex_callV (by decide +kernel : decode M_X1_copyFrom.2.1 30 = .ok (.invokevirtual 61, 3)) rfl (by rfl : resM (mCn M_X1_copyFrom) 61 = some (2, M_X10_copyFrom)) rfl (by rfl) (Nat.le_of_ble_eq_true rfl) (by decide +kernel) (sLv_lt (by decide +kernel))),
   (fun lv st t o0 o1 x w => Ex_iinc (by decide +kernel : decode M_X1_copyFrom.2.1 33 = .ok (.iinc 2 1, 3)) rfl rfl (by decide) (by decide)),
   (fun lv l st w => Ex_goto (by decide +kernel : decode M_X1_copyFrom.2.1 36 = .ok (.goto (-23), 3)) rfl),
   (fun lv st t x w => Ex_M (i := .aload_n 0) (n := 1) (by decide +kernel) rfl rfl rfl),
   (fun lv st t w => Ex_M (i := .aload_n 0) (n := 1) (by decide +kernel) rfl rfl rfl),
   (fun lv l st a w => Ex_getf (by decide +kernel : decode M_X1_copyFrom.2.1 40 = .ok (.getfield 27, 3)) rfl (by decide +kernel : resF (mCn M_X1_copyFrom) 27 = some (1, 2, (.object "CarpetLands$Law"), true))),
   (fun lv st t o0 x w => Ex_M (i := .aload_n 1) (n := 1) (by decide +kernel) rfl rfl rfl),
   (fun lv st t o0 w => Ex_M (i := .aload_n 1) (n := 1) (by decide +kernel) rfl rfl rfl),
   (fun lv l st a w => Ex_getf (by decide +kernel : decode M_X1_copyFrom.2.1 44 = .ok (.getfield 27, 3)) rfl (by decide +kernel : resF (mCn M_X1_copyFrom) 27 = some (1, 2, (.object "CarpetLands$Law"), true))),
   (fun lv l st a w => Ex_getf (by decide +kernel : decode M_X1_copyFrom.2.1 47 = .ok (.getfield 64, 3)) rfl (by decide +kernel : resF (mCn M_X1_copyFrom) 64 = some (3, 0, (.object "CarpetLands$Row"), true))),
   (fun lv l b a0 w => Ex_callV (by decide +kernel : decode M_X1_copyFrom.2.1 50 = .ok (.invokevirtual 67, 3)) rfl (by rfl : resM (mCn M_X1_copyFrom) 67 = some (2, M_X3_learn)) rfl (by rfl) (Nat.le_of_ble_eq_true rfl) (by decide +kernel) (sLv_lt (by decide +kernel))),
   (fun lv st t x w => Ex_M (i := .aload_n 0) (n := 1) (by decide +kernel) rfl rfl rfl),
   (fun lv st t w => Ex_M (i := .aload_n 0) (n := 1) (by decide +kernel) rfl rfl rfl),
   (fun lv l st a w => Ex_getf (by decide +kernel : decode M_X1_copyFrom.2.1 54 = .ok (.getfield 31, 3)) rfl (by decide +kernel : resF (mCn M_X1_copyFrom) 31 = some (1, 3, (.object "CarpetLands$Law"), true))),
   (fun lv st t o0 x w => Ex_M (i := .aload_n 1) (n := 1) (by decide +kernel) rfl rfl rfl),
   (fun lv st t o0 w => Ex_M (i := .aload_n 1) (n := 1) (by decide +kernel) rfl rfl rfl),
   (fun lv l st a w => Ex_getf (by decide +kernel : decode M_X1_copyFrom.2.1 58 = .ok (.getfield 31, 3)) rfl (by decide +kernel : resF (mCn M_X1_copyFrom) 31 = some (1, 3, (.object "CarpetLands$Law"), true))),
   (fun lv l st a w => Ex_getf (by decide +kernel : decode M_X1_copyFrom.2.1 61 = .ok (.getfield 64, 3)) rfl (by decide +kernel : resF (mCn M_X1_copyFrom) 64 = some (3, 0, (.object "CarpetLands$Row"), true))),
   (fun lv l b a0 w => Ex_callV (by decide +kernel : decode M_X1_copyFrom.2.1 64 = .ok (.invokevirtual 67, 3)) rfl (by rfl : resM (mCn M_X1_copyFrom) 67 = some (2, M_X3_learn)) rfl (by rfl) (Nat.le_of_ble_eq_true rfl) (by decide +kernel) (sLv_lt (by decide +kernel))),
   (fun lv st t x w => Ex_M (i := .aload_n 0) (n := 1) (by decide +kernel) rfl rfl rfl),
   (fun lv st t w => Ex_M (i := .aload_n 0) (n := 1) (by decide +kernel) rfl rfl rfl),
   (fun lv l st a w => Ex_getf (by decide +kernel : decode M_X1_copyFrom.2.1 68 = .ok (.getfield 39, 3)) rfl (by decide +kernel : resF (mCn M_X1_copyFrom) 39 = some (1, 4, (.object "CarpetLands$Row"), true))),
   (fun lv st t o0 x w => Ex_M (i := .aload_n 1) (n := 1) (by decide +kernel) rfl rfl rfl),
   (fun lv st t o0 w => Ex_M (i := .aload_n 1) (n := 1) (by decide +kernel) rfl rfl rfl),
   (fun lv l st a w => Ex_getf (by decide +kernel : decode M_X1_copyFrom.2.1 72 = .ok (.getfield 39, 3)) rfl (by decide +kernel : resF (mCn M_X1_copyFrom) 39 = some (1, 4, (.object "CarpetLands$Row"), true))),
   (fun lv l b a0 w => Ex_callV (by decide +kernel : decode M_X1_copyFrom.2.1 75 = .ok (.invokevirtual 71, 3)) rfl (by rfl : resM (mCn M_X1_copyFrom) 71 = some (2, M_X6_copyFrom)) rfl (by rfl) (Nat.le_of_ble_eq_true rfl) (by decide +kernel) (sLv_lt (by decide +kernel))),
   (fun lv st t x w => Ex_M (i := .aload_n 0) (n := 1) (by decide +kernel) rfl rfl rfl),
   (fun lv st t w => Ex_M (i := .aload_n 0) (n := 1) (by decide +kernel) rfl rfl rfl),
   (fun lv l st a w => Ex_getf (by decide +kernel : decode M_X1_copyFrom.2.1 79 = .ok (.getfield 43, 3)) rfl (by decide +kernel : resF (mCn M_X1_copyFrom) 43 = some (1, 5, (.object "CarpetLands$Row"), true))),
   (fun lv st t o0 x w => Ex_M (i := .aload_n 1) (n := 1) (by decide +kernel) rfl rfl rfl),
   (fun lv st t o0 w => Ex_M (i := .aload_n 1) (n := 1) (by decide +kernel) rfl rfl rfl),
   (fun lv l st a w => Ex_getf (by decide +kernel : decode M_X1_copyFrom.2.1 83 = .ok (.getfield 43, 3)) rfl (by decide +kernel : resF (mCn M_X1_copyFrom) 43 = some (1, 5, (.object "CarpetLands$Row"), true))),
   (fun lv l b a0 w => Ex_callV (by decide +kernel : decode M_X1_copyFrom.2.1 86 = .ok (.invokevirtual 71, 3)) rfl (by rfl : resM (mCn M_X1_copyFrom) 71 = some (2, M_X6_copyFrom)) rfl (by rfl) (Nat.le_of_ble_eq_true rfl) (by decide +kernel) (sLv_lt (by decide +kernel))),
   (fun lv st t x w => Ex_M (i := .aload_n 0) (n := 1) (by decide +kernel) rfl rfl rfl),
   (fun lv st t w => Ex_M (i := .aload_n 0) (n := 1) (by decide +kernel) rfl rfl rfl),
   (fun lv st t o0 x w => Ex_M (i := .aload_n 1) (n := 1) (by decide +kernel) rfl rfl rfl),
   (fun lv st t o0 w => Ex_M (i := .aload_n 1) (n := 1) (by decide +kernel) rfl rfl rfl),
   (fun lv l st a w => Ex_getf (by decide +kernel : decode M_X1_copyFrom.2.1 91 = .ok (.getfield 46, 3)) rfl (by decide +kernel : resF (mCn M_X1_copyFrom) 46 = some (1, 6, .int, false))),
   (fun lv l st a v w => Ex_putf (by decide +kernel : decode M_X1_copyFrom.2.1 94 = .ok (.putfield 46, 3)) rfl (by decide +kernel : resF (mCn M_X1_copyFrom) 46 = some (1, 6, .int, false)) (by decide +kernel))⟩
set_option maxRecDepth 20000 in
set_option maxHeartbeats 4000000 in
theorem R_X1_copyFrom_p1 : (∀ (lv : Nat) (st : List Value) (t : LX) (x : Nat) (w : AH), Ex M_X1_copyFrom lv 97 (some (.ref x) :: t) st w = Ex M_X1_copyFrom lv 98 (some (.ref x) :: t) (.ref x :: st) w)
  ∧ (∀ (lv : Nat) (st : List Value) (t : LX) (w : AH), Ex M_X1_copyFrom lv 97 (some (.null) :: t) st w = Ex M_X1_copyFrom lv 98 (some (.null) :: t) (.null :: st) w)
  ∧ (∀ (lv : Nat) (st : List Value) (t : LX) (o0 : Option Value) (x : Nat) (w : AH), Ex M_X1_copyFrom lv 98 (o0 :: some (.ref x) :: t) st w = Ex M_X1_copyFrom lv 99 (o0 :: some (.ref x) :: t) (.ref x :: st) w)
  ∧ (∀ (lv : Nat) (st : List Value) (t : LX) (o0 : Option Value) (w : AH), Ex M_X1_copyFrom lv 98 (o0 :: some (.null) :: t) st w = Ex M_X1_copyFrom lv 99 (o0 :: some (.null) :: t) (.null :: st) w)
  ∧ (∀ (lv : Nat) (l : LX) (st : List Value) (a : Nat) (w : AH), Ex M_X1_copyFrom lv 99 l (.ref a :: st) w = if (gf (hg w a) 1 7).isSome = true then Ex M_X1_copyFrom lv 102 l (vV (gf (hg w a) 1 7) :: st) w else none)
  ∧ (∀ (lv : Nat) (l : LX) (st : List Value) (a : Nat) (v : Value) (w : AH), Ex M_X1_copyFrom lv 102 l (v :: .ref a :: st) w = if (pf (hg w a) 1 7 .int v).isSome = true then Ex M_X1_copyFrom lv 105 l st (hs w a (vE (pf (hg w a) 1 7 .int v))) else none)
  ∧ (∀ (lv : Nat) (st : List Value) (t : LX) (x : Nat) (w : AH), Ex M_X1_copyFrom lv 105 (some (.ref x) :: t) st w = Ex M_X1_copyFrom lv 106 (some (.ref x) :: t) (.ref x :: st) w)
  ∧ (∀ (lv : Nat) (st : List Value) (t : LX) (w : AH), Ex M_X1_copyFrom lv 105 (some (.null) :: t) st w = Ex M_X1_copyFrom lv 106 (some (.null) :: t) (.null :: st) w)
  ∧ (∀ (lv : Nat) (st : List Value) (t : LX) (o0 : Option Value) (x : Nat) (w : AH), Ex M_X1_copyFrom lv 106 (o0 :: some (.ref x) :: t) st w = Ex M_X1_copyFrom lv 107 (o0 :: some (.ref x) :: t) (.ref x :: st) w)
  ∧ (∀ (lv : Nat) (st : List Value) (t : LX) (o0 : Option Value) (w : AH), Ex M_X1_copyFrom lv 106 (o0 :: some (.null) :: t) st w = Ex M_X1_copyFrom lv 107 (o0 :: some (.null) :: t) (.null :: st) w)
  ∧ (∀ (lv : Nat) (l : LX) (st : List Value) (a : Nat) (w : AH), Ex M_X1_copyFrom lv 107 l (.ref a :: st) w = if (gf (hg w a) 1 8).isSome = true then Ex M_X1_copyFrom lv 110 l (vV (gf (hg w a) 1 8) :: st) w else none)
  ∧ (∀ (lv : Nat) (l : LX) (st : List Value) (a : Nat) (v : Value) (w : AH), Ex M_X1_copyFrom lv 110 l (v :: .ref a :: st) w = if (pf (hg w a) 1 8 .int v).isSome = true then Ex M_X1_copyFrom lv 113 l st (hs w a (vE (pf (hg w a) 1 8 .int v))) else none)
  ∧ (∀ (lv : Nat) (l : LX) (w : AH), Ex M_X1_copyFrom lv 113 l [] w = some (none, w)) :=
  ⟨(fun lv st t x w => Ex_M (i := .aload_n 0) (n := 1) (by decide +kernel) rfl rfl rfl),
   (fun lv st t w => Ex_M (i := .aload_n 0) (n := 1) (by decide +kernel) rfl rfl rfl),
   (fun lv st t o0 x w => Ex_M (i := .aload_n 1) (n := 1) (by decide +kernel) rfl rfl rfl),
   (fun lv st t o0 w => Ex_M (i := .aload_n 1) (n := 1) (by decide +kernel) rfl rfl rfl),
   (fun lv l st a w => Ex_getf (by decide +kernel : decode M_X1_copyFrom.2.1 99 = .ok (.getfield 50, 3)) rfl (by decide +kernel : resF (mCn M_X1_copyFrom) 50 = some (1, 7, .int, false))),
   (fun lv l st a v w => Ex_putf (by decide +kernel : decode M_X1_copyFrom.2.1 102 = .ok (.putfield 50, 3)) rfl (by decide +kernel : resF (mCn M_X1_copyFrom) 50 = some (1, 7, .int, false)) (by decide +kernel)),
   (fun lv st t x w => Ex_M (i := .aload_n 0) (n := 1) (by decide +kernel) rfl rfl rfl),
   (fun lv st t w => Ex_M (i := .aload_n 0) (n := 1) (by decide +kernel) rfl rfl rfl),
   (fun lv st t o0 x w => Ex_M (i := .aload_n 1) (n := 1) (by decide +kernel) rfl rfl rfl),
   (fun lv st t o0 w => Ex_M (i := .aload_n 1) (n := 1) (by decide +kernel) rfl rfl rfl),
   (fun lv l st a w => Ex_getf (by decide +kernel : decode M_X1_copyFrom.2.1 107 = .ok (.getfield 53, 3)) rfl (by decide +kernel : resF (mCn M_X1_copyFrom) 53 = some (1, 8, .int, false))),
   (fun lv l st a v w => Ex_putf (by decide +kernel : decode M_X1_copyFrom.2.1 110 = .ok (.putfield 53, 3)) rfl (by decide +kernel : resF (mCn M_X1_copyFrom) 53 = some (1, 8, .int, false)) (by decide +kernel)),
   (fun lv l w => Ex_R (i := .return_) (n := 1) (by decide +kernel) rfl rfl rfl rfl rfl)⟩
-- R_X1_copyFrom: p0 to p1
set_option maxRecDepth 20000 in
set_option maxHeartbeats 4000000 in
theorem R_X1_walkerOf : (∀ (lv : Nat) (st : List Value) (t : LX) (o0 : Option Value) (x : Int32) (w : AH), Ex M_X1_walkerOf lv 0 (o0 :: some (.int x) :: t) st w = Ex M_X1_walkerOf lv 1 (o0 :: some (.int x) :: t) (.int x :: st) w)
  ∧ (∀ (lv : Nat) (l : LX) (st : List Value) (x : Int32) (w : AH), Ex M_X1_walkerOf lv 1 l (.int x :: st) w = if x < 0 then Ex M_X1_walkerOf lv 26 l st w else Ex M_X1_walkerOf lv 4 l st w)
  ∧ (∀ (lv : Nat) (st : List Value) (t : LX) (o0 : Option Value) (x : Int32) (w : AH), Ex M_X1_walkerOf lv 4 (o0 :: some (.int x) :: t) st w = Ex M_X1_walkerOf lv 5 (o0 :: some (.int x) :: t) (.int x :: st) w)
  ∧ (∀ (lv : Nat) (st : List Value) (t : LX) (x : Nat) (w : AH), Ex M_X1_walkerOf lv 5 (some (.ref x) :: t) st w = Ex M_X1_walkerOf lv 6 (some (.ref x) :: t) (.ref x :: st) w)
  ∧ (∀ (lv : Nat) (st : List Value) (t : LX) (w : AH), Ex M_X1_walkerOf lv 5 (some (.null) :: t) st w = Ex M_X1_walkerOf lv 6 (some (.null) :: t) (.null :: st) w)
  ∧ (∀ (lv : Nat) (l : LX) (st : List Value) (a : Nat) (w : AH), Ex M_X1_walkerOf lv 6 l (.ref a :: st) w = if (gf (hg w a) 1 6).isSome = true then Ex M_X1_walkerOf lv 9 l (vV (gf (hg w a) 1 6) :: st) w else none)
  ∧ (∀ (lv : Nat) (l : LX) (st : List Value) (x y : Int32) (w : AH), Ex M_X1_walkerOf lv 9 l (.int y :: .int x :: st) w = if y ≤ x then Ex M_X1_walkerOf lv 26 l st w else Ex M_X1_walkerOf lv 12 l st w)
  ∧ (∀ (lv : Nat) (st : List Value) (t : LX) (o0 : Option Value) (x : Int32) (w : AH), Ex M_X1_walkerOf lv 12 (o0 :: some (.int x) :: t) st w = Ex M_X1_walkerOf lv 13 (o0 :: some (.int x) :: t) (.int x :: st) w)
  ∧ (∀ (lv : Nat) (l : LX) (st : List Value) (w : AH), Ex M_X1_walkerOf lv 13 l st w = Ex M_X1_walkerOf lv 14 l (.int 5 :: st) w)
  ∧ (∀ (lv : Nat) (l : LX) (st : List Value) (x y : Int32) (w : AH), Ex M_X1_walkerOf lv 14 l (.int y :: .int x :: st) w = if y ≤ x then Ex M_X1_walkerOf lv 26 l st w else Ex M_X1_walkerOf lv 17 l st w)
  ∧ (∀ (lv : Nat) (st : List Value) (t : LX) (x : Nat) (w : AH), Ex M_X1_walkerOf lv 17 (some (.ref x) :: t) st w = Ex M_X1_walkerOf lv 18 (some (.ref x) :: t) (.ref x :: st) w)
  ∧ (∀ (lv : Nat) (st : List Value) (t : LX) (w : AH), Ex M_X1_walkerOf lv 17 (some (.null) :: t) st w = Ex M_X1_walkerOf lv 18 (some (.null) :: t) (.null :: st) w)
  ∧ (∀ (lv : Nat) (l : LX) (st : List Value) (a : Nat) (w : AH), Ex M_X1_walkerOf lv 18 l (.ref a :: st) w = if (gf (hg w a) 1 1).isSome = true then Ex M_X1_walkerOf lv 21 l (vV (gf (hg w a) 1 1) :: st) w else none)
  ∧ (∀ (lv : Nat) (st : List Value) (t : LX) (o0 : Option Value) (x : Int32) (w : AH), Ex M_X1_walkerOf lv 21 (o0 :: some (.int x) :: t) st w = Ex M_X1_walkerOf lv 22 (o0 :: some (.int x) :: t) (.int x :: st) w)
  ∧ (∀ (lv : Nat) (l : LX) (st : List Value) (a : Nat) (i : Int32) (w : AH), Ex M_X1_walkerOf lv 22 l (.int i :: .ref a :: st) w = if (aQ (hg w a) i).isSome = true then Ex M_X1_walkerOf lv 23 l (vV (aQ (hg w a) i) :: st) w else none)
  ∧ (∀ (lv : Nat) (l : LX) (st : List Value) (w : AH), Ex M_X1_walkerOf lv 23 l st w = Ex M_X1_walkerOf lv 27 l st w)
  ∧ (∀ (lv : Nat) (l : LX) (st : List Value) (w : AH), Ex M_X1_walkerOf lv 26 l st w = Ex M_X1_walkerOf lv 27 l (.null :: st) w)
  ∧ (∀ (lv : Nat) (l : LX) (x : Nat) (w : AH), Ex M_X1_walkerOf lv 27 l [.ref x] w = some (some (.ref x), w))
  ∧ (∀ (lv : Nat) (l : LX) (w : AH), Ex M_X1_walkerOf lv 27 l [.null] w = some (some .null, w)) :=
  ⟨(fun lv st t o0 x w => Ex_M (i := .iload_n 1) (n := 1) (by decide +kernel) rfl rfl rfl),
   (fun lv l st x w => Ex_if_lt (by decide +kernel : decode M_X1_walkerOf.2.1 1 = .ok (.ifCond .lt 25, 3)) rfl rfl),
   (fun lv st t o0 x w => Ex_M (i := .iload_n 1) (n := 1) (by decide +kernel) rfl rfl rfl),
   (fun lv st t x w => Ex_M (i := .aload_n 0) (n := 1) (by decide +kernel) rfl rfl rfl),
   (fun lv st t w => Ex_M (i := .aload_n 0) (n := 1) (by decide +kernel) rfl rfl rfl),
   (fun lv l st a w => Ex_getf (by decide +kernel : decode M_X1_walkerOf.2.1 6 = .ok (.getfield 46, 3)) rfl (by decide +kernel : resF (mCn M_X1_walkerOf) 46 = some (1, 6, .int, false))),
   (fun lv l st x y w => Ex_icmp_ge (by decide +kernel : decode M_X1_walkerOf.2.1 9 = .ok (.if_icmp .ge 17, 3)) rfl rfl),
   (fun lv st t o0 x w => Ex_M (i := .iload_n 1) (n := 1) (by decide +kernel) rfl rfl rfl),
   (fun lv l st w => Ex_A (i := .iconst 5) (n := 1) (by decide +kernel) rfl rfl),
   (fun lv l st x y w => Ex_icmp_ge (by decide +kernel : decode M_X1_walkerOf.2.1 14 = .ok (.if_icmp .ge 12, 3)) rfl rfl),
   (fun lv st t x w => Ex_M (i := .aload_n 0) (n := 1) (by decide +kernel) rfl rfl rfl),
   (fun lv st t w => Ex_M (i := .aload_n 0) (n := 1) (by decide +kernel) rfl rfl rfl),
   (fun lv l st a w => Ex_getf (by decide +kernel : decode M_X1_walkerOf.2.1 18 = .ok (.getfield 20, 3)) rfl (by decide +kernel : resF (mCn M_X1_walkerOf) 20 = some (1, 1, (.array (.object "CarpetLands$Walker")), true))),
   (fun lv st t o0 x w => Ex_M (i := .iload_n 1) (n := 1) (by decide +kernel) rfl rfl rfl),
   (fun lv l st a i w => Ex_aal (by decide +kernel : decode M_X1_walkerOf.2.1 22 = .ok (.aaload, 1)) rfl),
   (fun lv l st w => Ex_goto (by decide +kernel : decode M_X1_walkerOf.2.1 23 = .ok (.goto 4, 3)) rfl),
   (fun lv l st w => Ex_A (i := .aconst_null) (n := 1) (by decide +kernel) rfl rfl),
   (fun lv l x w => Ex_R (i := .areturn) (n := 1) (by decide +kernel) rfl rfl rfl rfl rfl),
   (fun lv l w => Ex_R (i := .areturn) (n := 1) (by decide +kernel) rfl rfl rfl rfl rfl)⟩
set_option maxRecDepth 20000 in
set_option maxHeartbeats 4000000 in
theorem R_X1_addWalker : (∀ (lv : Nat) (st : List Value) (t : LX) (x : Nat) (w : AH), Ex M_X1_addWalker lv 0 (some (.ref x) :: t) st w = Ex M_X1_addWalker lv 1 (some (.ref x) :: t) (.ref x :: st) w)
  ∧ (∀ (lv : Nat) (st : List Value) (t : LX) (w : AH), Ex M_X1_addWalker lv 0 (some (.null) :: t) st w = Ex M_X1_addWalker lv 1 (some (.null) :: t) (.null :: st) w)
  ∧ (∀ (lv : Nat) (l : LX) (st : List Value) (a : Nat) (w : AH), Ex M_X1_addWalker lv 1 l (.ref a :: st) w = if (gf (hg w a) 1 6).isSome = true then Ex M_X1_addWalker lv 4 l (vV (gf (hg w a) 1 6) :: st) w else none)
  ∧ (∀ (lv : Nat) (l : LX) (st : List Value) (w : AH), Ex M_X1_addWalker lv 4 l st w = Ex M_X1_addWalker lv 5 l (.int 0 :: st) w)
  ∧ (∀ (lv : Nat) (l : LX) (st : List Value) (w : AH), Ex M_X1_addWalker lv 5 l st w = Ex M_X1_addWalker lv 6 l (.int 4 :: st) w)
  ∧ (∀ (lv : Nat) (l : LX) (a0 : Int32) (a1 : Int32) (a2 : Int32) (w : AH), Ex M_X1_addWalker lv 6 l (.int a2 :: .int a1 :: .int a0 :: []) w = if (Call M_X11_isWithin 60 [.int a0, .int a1, .int a2] w).isSome = true then Ex M_X1_addWalker lv 9 l (pushR (cV (Call M_X11_isWithin 60 [.int a0, .int a1, .int a2] w)) []) (cW (Call M_X11_isWithin 60 [.int a0, .int a1, .int a2] w) w) else none)
  ∧ (∀ (lv : Nat) (l : LX) (st : List Value) (x : Int32) (w : AH), Ex M_X1_addWalker lv 9 l (.int x :: st) w = if ¬ x = 0 then Ex M_X1_addWalker lv 14 l st w else Ex M_X1_addWalker lv 12 l st w)
  ∧ (∀ (lv : Nat) (l : LX) (st : List Value) (w : AH), Ex M_X1_addWalker lv 12 l st w = Ex M_X1_addWalker lv 13 l (.int (-1) :: st) w)
  ∧ (∀ (lv : Nat) (l : LX) (x : Int32) (w : AH), Ex M_X1_addWalker lv 13 l [.int x] w = some (some (.int x), w))
  ∧ (∀ (lv : Nat) (st : List Value) (t : LX) (x : Nat) (w : AH), Ex M_X1_addWalker lv 14 (some (.ref x) :: t) st w = Ex M_X1_addWalker lv 15 (some (.ref x) :: t) (.ref x :: st) w)
  ∧ (∀ (lv : Nat) (st : List Value) (t : LX) (w : AH), Ex M_X1_addWalker lv 14 (some (.null) :: t) st w = Ex M_X1_addWalker lv 15 (some (.null) :: t) (.null :: st) w)
  ∧ (∀ (lv : Nat) (l : LX) (st : List Value) (a : Nat) (w : AH), Ex M_X1_addWalker lv 15 l (.ref a :: st) w = if (gf (hg w a) 1 1).isSome = true then Ex M_X1_addWalker lv 18 l (vV (gf (hg w a) 1 1) :: st) w else none)
  ∧ (∀ (lv : Nat) (st : List Value) (t : LX) (x : Nat) (w : AH), Ex M_X1_addWalker lv 18 (some (.ref x) :: t) st w = Ex M_X1_addWalker lv 19 (some (.ref x) :: t) (.ref x :: st) w)
  ∧ (∀ (lv : Nat) (st : List Value) (t : LX) (w : AH), Ex M_X1_addWalker lv 18 (some (.null) :: t) st w = Ex M_X1_addWalker lv 19 (some (.null) :: t) (.null :: st) w)
  ∧ (∀ (lv : Nat) (l : LX) (st : List Value) (a : Nat) (w : AH), Ex M_X1_addWalker lv 19 l (.ref a :: st) w = if (gf (hg w a) 1 6).isSome = true then Ex M_X1_addWalker lv 22 l (vV (gf (hg w a) 1 6) :: st) w else none)
  ∧ (∀ (lv : Nat) (l : LX) (st : List Value) (a : Nat) (i : Int32) (w : AH), Ex M_X1_addWalker lv 22 l (.int i :: .ref a :: st) w = if (aQ (hg w a) i).isSome = true then Ex M_X1_addWalker lv 23 l (vV (aQ (hg w a) i) :: st) w else none)
  ∧ (∀ (lv : Nat) (l : LX) (st : List Value) (x : Nat) (w : AH), Ex M_X1_addWalker lv 23 l (.ref x :: st) w = Ex M_X1_addWalker lv 24 (ls1 l 3 (.ref x)) st w)
  ∧ (∀ (lv : Nat) (l : LX) (st : List Value) (w : AH), Ex M_X1_addWalker lv 23 l (.null :: st) w = Ex M_X1_addWalker lv 24 (ls1 l 3 (.null)) st w)
  ∧ (∀ (lv : Nat) (st : List Value) (t : LX) (o0 o1 o2 : Option Value) (x : Nat) (w : AH), Ex M_X1_addWalker lv 24 (o0 :: o1 :: o2 :: some (.ref x) :: t) st w = Ex M_X1_addWalker lv 25 (o0 :: o1 :: o2 :: some (.ref x) :: t) (.ref x :: st) w)
  ∧ (∀ (lv : Nat) (st : List Value) (t : LX) (o0 o1 o2 : Option Value) (w : AH), Ex M_X1_addWalker lv 24 (o0 :: o1 :: o2 :: some (.null) :: t) st w = Ex M_X1_addWalker lv 25 (o0 :: o1 :: o2 :: some (.null) :: t) (.null :: st) w)
  ∧ (∀ (lv : Nat) (st : List Value) (t : LX) (o0 : Option Value) (x : Int32) (w : AH), Ex M_X1_addWalker lv 25 (o0 :: some (.int x) :: t) st w = Ex M_X1_addWalker lv 26 (o0 :: some (.int x) :: t) (.int x :: st) w)
  ∧ (∀ (lv : Nat) (l : LX) (st : List Value) (w : AH), Ex M_X1_addWalker lv 26 l st w = Ex M_X1_addWalker lv 28 l (.int 10 :: st) w)
  ∧ (∀ (lv : Nat) (l : LX) (st : List Value) (x y : Int32) (w : AH), Ex M_X1_addWalker lv 28 l (.int y :: .int x :: st) w = if y = 0 then none else Ex M_X1_addWalker lv 29 l (.int (x / y) :: st) w)
  ∧ (∀ (lv : Nat) (l : LX) (st : List Value) (a : Nat) (v : Value) (w : AH), Ex M_X1_addWalker lv 29 l (v :: .ref a :: st) w = if (pf (hg w a) 9 0 .int v).isSome = true then Ex M_X1_addWalker lv 32 l st (hs w a (vE (pf (hg w a) 9 0 .int v))) else none)
  ∧ (∀ (lv : Nat) (st : List Value) (t : LX) (o0 o1 o2 : Option Value) (x : Nat) (w : AH), Ex M_X1_addWalker lv 32 (o0 :: o1 :: o2 :: some (.ref x) :: t) st w = Ex M_X1_addWalker lv 33 (o0 :: o1 :: o2 :: some (.ref x) :: t) (.ref x :: st) w)
  ∧ (∀ (lv : Nat) (st : List Value) (t : LX) (o0 o1 o2 : Option Value) (w : AH), Ex M_X1_addWalker lv 32 (o0 :: o1 :: o2 :: some (.null) :: t) st w = Ex M_X1_addWalker lv 33 (o0 :: o1 :: o2 :: some (.null) :: t) (.null :: st) w)
  ∧ (∀ (lv : Nat) (st : List Value) (t : LX) (o0 : Option Value) (x : Int32) (w : AH), Ex M_X1_addWalker lv 33 (o0 :: some (.int x) :: t) st w = Ex M_X1_addWalker lv 34 (o0 :: some (.int x) :: t) (.int x :: st) w)
  ∧ (∀ (lv : Nat) (l : LX) (st : List Value) (w : AH), Ex M_X1_addWalker lv 34 l st w = Ex M_X1_addWalker lv 36 l (.int 10 :: st) w)
  ∧ (∀ (lv : Nat) (l : LX) (st : List Value) (x y : Int32) (w : AH), Ex M_X1_addWalker lv 36 l (.int y :: .int x :: st) w = if y = 0 then none else Ex M_X1_addWalker lv 37 l (.int (x - x / y * y) :: st) w)
  ∧ (∀ (lv : Nat) (l : LX) (st : List Value) (a : Nat) (v : Value) (w : AH), Ex M_X1_addWalker lv 37 l (v :: .ref a :: st) w = if (pf (hg w a) 9 1 .int v).isSome = true then Ex M_X1_addWalker lv 40 l st (hs w a (vE (pf (hg w a) 9 1 .int v))) else none)
  ∧ (∀ (lv : Nat) (st : List Value) (t : LX) (o0 o1 o2 : Option Value) (x : Nat) (w : AH), Ex M_X1_addWalker lv 40 (o0 :: o1 :: o2 :: some (.ref x) :: t) st w = Ex M_X1_addWalker lv 41 (o0 :: o1 :: o2 :: some (.ref x) :: t) (.ref x :: st) w)
  ∧ (∀ (lv : Nat) (st : List Value) (t : LX) (o0 o1 o2 : Option Value) (w : AH), Ex M_X1_addWalker lv 40 (o0 :: o1 :: o2 :: some (.null) :: t) st w = Ex M_X1_addWalker lv 41 (o0 :: o1 :: o2 :: some (.null) :: t) (.null :: st) w)
  ∧ (∀ (lv : Nat) (st : List Value) (t : LX) (o0 o1 : Option Value) (x : Int32) (w : AH), Ex M_X1_addWalker lv 41 (o0 :: o1 :: some (.int x) :: t) st w = Ex M_X1_addWalker lv 42 (o0 :: o1 :: some (.int x) :: t) (.int x :: st) w)
  ∧ (∀ (lv : Nat) (l : LX) (st : List Value) (a : Nat) (v : Value) (w : AH), Ex M_X1_addWalker lv 42 l (v :: .ref a :: st) w = if (pf (hg w a) 9 2 .int v).isSome = true then Ex M_X1_addWalker lv 45 l st (hs w a (vE (pf (hg w a) 9 2 .int v))) else none)
  ∧ (∀ (lv : Nat) (st : List Value) (t : LX) (o0 o1 o2 : Option Value) (x : Nat) (w : AH), Ex M_X1_addWalker lv 45 (o0 :: o1 :: o2 :: some (.ref x) :: t) st w = Ex M_X1_addWalker lv 46 (o0 :: o1 :: o2 :: some (.ref x) :: t) (.ref x :: st) w)
  ∧ (∀ (lv : Nat) (st : List Value) (t : LX) (o0 o1 o2 : Option Value) (w : AH), Ex M_X1_addWalker lv 45 (o0 :: o1 :: o2 :: some (.null) :: t) st w = Ex M_X1_addWalker lv 46 (o0 :: o1 :: o2 :: some (.null) :: t) (.null :: st) w)
  ∧ (∀ (lv : Nat) (l : LX) (st : List Value) (w : AH), Ex M_X1_addWalker lv 46 l st w = Ex M_X1_addWalker lv 47 l (.int 1 :: st) w)
  ∧ (∀ (lv : Nat) (l : LX) (st : List Value) (a : Nat) (v : Value) (w : AH), Ex M_X1_addWalker lv 47 l (v :: .ref a :: st) w = if (pf (hg w a) 9 3 .int v).isSome = true then Ex M_X1_addWalker lv 50 l st (hs w a (vE (pf (hg w a) 9 3 .int v))) else none)
  ∧ (∀ (lv : Nat) (st : List Value) (t : LX) (x : Nat) (w : AH), Ex M_X1_addWalker lv 50 (some (.ref x) :: t) st w = Ex M_X1_addWalker lv 51 (some (.ref x) :: t) (.ref x :: st) w)
  ∧ (∀ (lv : Nat) (st : List Value) (t : LX) (w : AH), Ex M_X1_addWalker lv 50 (some (.null) :: t) st w = Ex M_X1_addWalker lv 51 (some (.null) :: t) (.null :: st) w)
  ∧ (∀ (lv : Nat) (l : LX) (st : List Value) (x : Nat) (w : AH), Ex M_X1_addWalker lv 51 l (.ref x :: st) w = Ex M_X1_addWalker lv 52 l (.ref x :: .ref x :: st) w)
  ∧ (∀ (lv : Nat) (l : LX) (st : List Value) (a : Nat) (w : AH), Ex M_X1_addWalker lv 52 l (.ref a :: st) w = if (gf (hg w a) 1 6).isSome = true then Ex M_X1_addWalker lv 55 l (vV (gf (hg w a) 1 6) :: st) w else none)
  ∧ (∀ (lv : Nat) (l : LX) (st : List Value) (w : AH), Ex M_X1_addWalker lv 55 l st w = Ex M_X1_addWalker lv 56 l (.int 1 :: st) w)
  ∧ (∀ (lv : Nat) (l : LX) (st : List Value) (x y : Int32) (w : AH), Ex M_X1_addWalker lv 56 l (.int y :: .int x :: st) w = Ex M_X1_addWalker lv 57 l (.int (x + y) :: st) w)
  ∧ (∀ (lv : Nat) (l : LX) (st : List Value) (a : Nat) (v : Value) (w : AH), Ex M_X1_addWalker lv 57 l (v :: .ref a :: st) w = if (pf (hg w a) 1 6 .int v).isSome = true then Ex M_X1_addWalker lv 60 l st (hs w a (vE (pf (hg w a) 1 6 .int v))) else none)
  ∧ (∀ (lv : Nat) (st : List Value) (t : LX) (x : Nat) (w : AH), Ex M_X1_addWalker lv 60 (some (.ref x) :: t) st w = Ex M_X1_addWalker lv 61 (some (.ref x) :: t) (.ref x :: st) w)
  ∧ (∀ (lv : Nat) (st : List Value) (t : LX) (w : AH), Ex M_X1_addWalker lv 60 (some (.null) :: t) st w = Ex M_X1_addWalker lv 61 (some (.null) :: t) (.null :: st) w)
  ∧ (∀ (lv : Nat) (l : LX) (st : List Value) (a : Nat) (w : AH), Ex M_X1_addWalker lv 61 l (.ref a :: st) w = if (gf (hg w a) 1 6).isSome = true then Ex M_X1_addWalker lv 64 l (vV (gf (hg w a) 1 6) :: st) w else none)
  ∧ (∀ (lv : Nat) (l : LX) (st : List Value) (w : AH), Ex M_X1_addWalker lv 64 l st w = Ex M_X1_addWalker lv 65 l (.int 1 :: st) w)
  ∧ (∀ (lv : Nat) (l : LX) (st : List Value) (x y : Int32) (w : AH), Ex M_X1_addWalker lv 65 l (.int y :: .int x :: st) w = Ex M_X1_addWalker lv 66 l (.int (x - y) :: st) w)
  ∧ (∀ (lv : Nat) (l : LX) (x : Int32) (w : AH), Ex M_X1_addWalker lv 66 l [.int x] w = some (some (.int x), w)) :=
  ⟨(fun lv st t x w => Ex_M (i := .aload_n 0) (n := 1) (by decide +kernel) rfl rfl rfl),
   (fun lv st t w => Ex_M (i := .aload_n 0) (n := 1) (by decide +kernel) rfl rfl rfl),
   (fun lv l st a w => Ex_getf (by decide +kernel : decode M_X1_addWalker.2.1 1 = .ok (.getfield 46, 3)) rfl (by decide +kernel : resF (mCn M_X1_addWalker) 46 = some (1, 6, .int, false))),
   (fun lv l st w => Ex_A (i := .iconst 0) (n := 1) (by decide +kernel) rfl rfl),
   (fun lv l st w => Ex_A (i := .iconst 4) (n := 1) (by decide +kernel) rfl rfl),
   (fun lv l a0 a1 a2 w => Ex_callS (by decide +kernel : decode M_X1_addWalker.2.1 6 = .ok (.invokestatic 73, 3)) rfl (by rfl : resM (mCn M_X1_addWalker) 73 = some (1, M_X11_isWithin)) (by decide) rfl (by rfl) (Nat.le_of_ble_eq_true rfl) (sLv_lt (by decide +kernel))),
   (fun lv l st x w => Ex_if_ne (by decide +kernel : decode M_X1_addWalker.2.1 9 = .ok (.ifCond .ne 5, 3)) rfl rfl),
   (fun lv l st w => Ex_A (i := .iconst (-1)) (n := 1) (by decide +kernel) rfl rfl),
   (fun lv l x w => Ex_R (i := .ireturn) (n := 1) (by decide +kernel) rfl rfl rfl rfl rfl),
   (fun lv st t x w => Ex_M (i := .aload_n 0) (n := 1) (by decide +kernel) rfl rfl rfl),
   (fun lv st t w => Ex_M (i := .aload_n 0) (n := 1) (by decide +kernel) rfl rfl rfl),
   (fun lv l st a w => Ex_getf (by decide +kernel : decode M_X1_addWalker.2.1 15 = .ok (.getfield 20, 3)) rfl (by decide +kernel : resF (mCn M_X1_addWalker) 20 = some (1, 1, (.array (.object "CarpetLands$Walker")), true))),
   (fun lv st t x w => Ex_M (i := .aload_n 0) (n := 1) (by decide +kernel) rfl rfl rfl),
   (fun lv st t w => Ex_M (i := .aload_n 0) (n := 1) (by decide +kernel) rfl rfl rfl),
   (fun lv l st a w => Ex_getf (by decide +kernel : decode M_X1_addWalker.2.1 19 = .ok (.getfield 46, 3)) rfl (by decide +kernel : resF (mCn M_X1_addWalker) 46 = some (1, 6, .int, false))),
   (fun lv l st a i w => Ex_aal (by decide +kernel : decode M_X1_addWalker.2.1 22 = .ok (.aaload, 1)) rfl),
   (fun lv l st x w => Ex_M (i := .astore_n 3) (n := 1) (by decide +kernel) rfl rfl rfl),
   (fun lv l st w => Ex_M (i := .astore_n 3) (n := 1) (by decide +kernel) rfl rfl rfl),
   (fun lv st t o0 o1 o2 x w => Ex_M (i := .aload_n 3) (n := 1) (by decide +kernel) rfl rfl rfl),
   (fun lv st t o0 o1 o2 w => Ex_M (i := .aload_n 3) (n := 1) (by decide +kernel) rfl rfl rfl),
   (fun lv st t o0 x w => Ex_M (i := .iload_n 1) (n := 1) (by decide +kernel) rfl rfl rfl),
   (fun lv l st w => Ex_A (i := .bipush 10) (n := 2) (by decide +kernel) rfl rfl),
   (fun lv l st x y w => Ex_idiv (by decide +kernel : decode M_X1_addWalker.2.1 28 = .ok (.idiv, 1)) rfl),
   (fun lv l st a v w => Ex_putf (by decide +kernel : decode M_X1_addWalker.2.1 29 = .ok (.putfield 77, 3)) rfl (by decide +kernel : resF (mCn M_X1_addWalker) 77 = some (9, 0, .int, false)) (by decide +kernel)),
   (fun lv st t o0 o1 o2 x w => Ex_M (i := .aload_n 3) (n := 1) (by decide +kernel) rfl rfl rfl),
   (fun lv st t o0 o1 o2 w => Ex_M (i := .aload_n 3) (n := 1) (by decide +kernel) rfl rfl rfl),
   (fun lv st t o0 x w => Ex_M (i := .iload_n 1) (n := 1) (by decide +kernel) rfl rfl rfl),
   (fun lv l st w => Ex_A (i := .bipush 10) (n := 2) (by decide +kernel) rfl rfl),
   (fun lv l st x y w => Ex_irem (by decide +kernel : decode M_X1_addWalker.2.1 36 = .ok (.irem, 1)) rfl),
   (fun lv l st a v w => Ex_putf (by decide +kernel : decode M_X1_addWalker.2.1 37 = .ok (.putfield 80, 3)) rfl (by decide +kernel : resF (mCn M_X1_addWalker) 80 = some (9, 1, .int, false)) (by decide +kernel)),
   (fun lv st t o0 o1 o2 x w => Ex_M (i := .aload_n 3) (n := 1) (by decide +kernel) rfl rfl rfl),
   (fun lv st t o0 o1 o2 w => Ex_M (i := .aload_n 3) (n := 1) (by decide +kernel) rfl rfl rfl),
   (fun lv st t o0 o1 x w => Ex_M (i := .iload_n 2) (n := 1) (by decide +kernel) rfl rfl rfl),
   (fun lv l st a v w => Ex_putf (by decide +kernel : decode M_X1_addWalker.2.1 42 = .ok (.putfield 83, 3)) rfl (by decide +kernel : resF (mCn M_X1_addWalker) 83 = some (9, 2, .int, false)) (by decide +kernel)),
   (fun lv st t o0 o1 o2 x w => Ex_M (i := .aload_n 3) (n := 1) (by decide +kernel) rfl rfl rfl),
   (fun lv st t o0 o1 o2 w => Ex_M (i := .aload_n 3) (n := 1) (by decide +kernel) rfl rfl rfl),
   (fun lv l st w => Ex_A (i := .iconst 1) (n := 1) (by decide +kernel) rfl rfl),
   (fun lv l st a v w => Ex_putf (by decide +kernel : decode M_X1_addWalker.2.1 47 = .ok (.putfield 86, 3)) rfl (by decide +kernel : resF (mCn M_X1_addWalker) 86 = some (9, 3, .int, false)) (by decide +kernel)),
   (fun lv st t x w => Ex_M (i := .aload_n 0) (n := 1) (by decide +kernel) rfl rfl rfl),
   (fun lv st t w => Ex_M (i := .aload_n 0) (n := 1) (by decide +kernel) rfl rfl rfl),
   (fun lv l st x w => Ex_A (i := .dup) (n := 1) (by decide +kernel) rfl rfl),
   (fun lv l st a w => Ex_getf (by decide +kernel : decode M_X1_addWalker.2.1 52 = .ok (.getfield 46, 3)) rfl (by decide +kernel : resF (mCn M_X1_addWalker) 46 = some (1, 6, .int, false))),
   (fun lv l st w => Ex_A (i := .iconst 1) (n := 1) (by decide +kernel) rfl rfl),
   (fun lv l st x y w => Ex_A (i := .iadd) (n := 1) (by decide +kernel) rfl rfl),
   (fun lv l st a v w => Ex_putf (by decide +kernel : decode M_X1_addWalker.2.1 57 = .ok (.putfield 46, 3)) rfl (by decide +kernel : resF (mCn M_X1_addWalker) 46 = some (1, 6, .int, false)) (by decide +kernel)),
   (fun lv st t x w => Ex_M (i := .aload_n 0) (n := 1) (by decide +kernel) rfl rfl rfl),
   (fun lv st t w => Ex_M (i := .aload_n 0) (n := 1) (by decide +kernel) rfl rfl rfl),
   (fun lv l st a w => Ex_getf (by decide +kernel : decode M_X1_addWalker.2.1 61 = .ok (.getfield 46, 3)) rfl (by decide +kernel : resF (mCn M_X1_addWalker) 46 = some (1, 6, .int, false))),
   (fun lv l st w => Ex_A (i := .iconst 1) (n := 1) (by decide +kernel) rfl rfl),
   (fun lv l st x y w => Ex_A (i := .isub) (n := 1) (by decide +kernel) rfl rfl),
   (fun lv l x w => Ex_R (i := .ireturn) (n := 1) (by decide +kernel) rfl rfl rfl rfl rfl)⟩
set_option maxRecDepth 20000 in
set_option maxHeartbeats 4000000 in
theorem R_X1_lawOf : (∀ (lv : Nat) (st : List Value) (t : LX) (o0 : Option Value) (x : Int32) (w : AH), Ex M_X1_lawOf lv 0 (o0 :: some (.int x) :: t) st w = Ex M_X1_lawOf lv 1 (o0 :: some (.int x) :: t) (.int x :: st) w)
  ∧ (∀ (lv : Nat) (l : LX) (st : List Value) (x : Int32) (w : AH), Ex M_X1_lawOf lv 1 l (.int x :: st) w = if ¬ x = 0 then Ex M_X1_lawOf lv 11 l st w else Ex M_X1_lawOf lv 4 l st w)
  ∧ (∀ (lv : Nat) (st : List Value) (t : LX) (x : Nat) (w : AH), Ex M_X1_lawOf lv 4 (some (.ref x) :: t) st w = Ex M_X1_lawOf lv 5 (some (.ref x) :: t) (.ref x :: st) w)
  ∧ (∀ (lv : Nat) (st : List Value) (t : LX) (w : AH), Ex M_X1_lawOf lv 4 (some (.null) :: t) st w = Ex M_X1_lawOf lv 5 (some (.null) :: t) (.null :: st) w)
  ∧ (∀ (lv : Nat) (l : LX) (st : List Value) (a : Nat) (w : AH), Ex M_X1_lawOf lv 5 l (.ref a :: st) w = if (gf (hg w a) 1 2).isSome = true then Ex M_X1_lawOf lv 8 l (vV (gf (hg w a) 1 2) :: st) w else none)
  ∧ (∀ (lv : Nat) (l : LX) (st : List Value) (w : AH), Ex M_X1_lawOf lv 8 l st w = Ex M_X1_lawOf lv 15 l st w)
  ∧ (∀ (lv : Nat) (st : List Value) (t : LX) (x : Nat) (w : AH), Ex M_X1_lawOf lv 11 (some (.ref x) :: t) st w = Ex M_X1_lawOf lv 12 (some (.ref x) :: t) (.ref x :: st) w)
  ∧ (∀ (lv : Nat) (st : List Value) (t : LX) (w : AH), Ex M_X1_lawOf lv 11 (some (.null) :: t) st w = Ex M_X1_lawOf lv 12 (some (.null) :: t) (.null :: st) w)
  ∧ (∀ (lv : Nat) (l : LX) (st : List Value) (a : Nat) (w : AH), Ex M_X1_lawOf lv 12 l (.ref a :: st) w = if (gf (hg w a) 1 3).isSome = true then Ex M_X1_lawOf lv 15 l (vV (gf (hg w a) 1 3) :: st) w else none)
  ∧ (∀ (lv : Nat) (l : LX) (x : Nat) (w : AH), Ex M_X1_lawOf lv 15 l [.ref x] w = some (some (.ref x), w))
  ∧ (∀ (lv : Nat) (l : LX) (w : AH), Ex M_X1_lawOf lv 15 l [.null] w = some (some .null, w)) :=
  ⟨(fun lv st t o0 x w => Ex_M (i := .iload_n 1) (n := 1) (by decide +kernel) rfl rfl rfl),
   (fun lv l st x w => Ex_if_ne (by decide +kernel : decode M_X1_lawOf.2.1 1 = .ok (.ifCond .ne 10, 3)) rfl rfl),
   (fun lv st t x w => Ex_M (i := .aload_n 0) (n := 1) (by decide +kernel) rfl rfl rfl),
   (fun lv st t w => Ex_M (i := .aload_n 0) (n := 1) (by decide +kernel) rfl rfl rfl),
   (fun lv l st a w => Ex_getf (by decide +kernel : decode M_X1_lawOf.2.1 5 = .ok (.getfield 27, 3)) rfl (by decide +kernel : resF (mCn M_X1_lawOf) 27 = some (1, 2, (.object "CarpetLands$Law"), true))),
   (fun lv l st w => Ex_goto (by decide +kernel : decode M_X1_lawOf.2.1 8 = .ok (.goto 7, 3)) rfl),
   (fun lv st t x w => Ex_M (i := .aload_n 0) (n := 1) (by decide +kernel) rfl rfl rfl),
   (fun lv st t w => Ex_M (i := .aload_n 0) (n := 1) (by decide +kernel) rfl rfl rfl),
   (fun lv l st a w => Ex_getf (by decide +kernel : decode M_X1_lawOf.2.1 12 = .ok (.getfield 31, 3)) rfl (by decide +kernel : resF (mCn M_X1_lawOf) 31 = some (1, 3, (.object "CarpetLands$Law"), true))),
   (fun lv l x w => Ex_R (i := .areturn) (n := 1) (by decide +kernel) rfl rfl rfl rfl rfl),
   (fun lv l w => Ex_R (i := .areturn) (n := 1) (by decide +kernel) rfl rfl rfl rfl rfl)⟩
set_option maxRecDepth 20000 in
set_option maxHeartbeats 4000000 in
theorem R_X1_given : (∀ (lv : Nat) (st : List Value) (t : LX) (o0 : Option Value) (x : Int32) (w : AH), Ex M_X1_given lv 0 (o0 :: some (.int x) :: t) st w = Ex M_X1_given lv 1 (o0 :: some (.int x) :: t) (.int x :: st) w)
  ∧ (∀ (lv : Nat) (l : LX) (st : List Value) (x : Int32) (w : AH), Ex M_X1_given lv 1 l (.int x :: st) w = if ¬ x = 0 then Ex M_X1_given lv 39 l st w else Ex M_X1_given lv 4 l st w)
  ∧ (∀ (lv : Nat) (st : List Value) (t : LX) (x : Nat) (w : AH), Ex M_X1_given lv 4 (some (.ref x) :: t) st w = Ex M_X1_given lv 5 (some (.ref x) :: t) (.ref x :: st) w)
  ∧ (∀ (lv : Nat) (st : List Value) (t : LX) (w : AH), Ex M_X1_given lv 4 (some (.null) :: t) st w = Ex M_X1_given lv 5 (some (.null) :: t) (.null :: st) w)
  ∧ (∀ (lv : Nat) (l : LX) (st : List Value) (a : Nat) (w : AH), Ex M_X1_given lv 5 l (.ref a :: st) w = if (gf (hg w a) 1 2).isSome = true then Ex M_X1_given lv 8 l (vV (gf (hg w a) 1 2) :: st) w else none)
  ∧ (∀ (lv : Nat) (l : LX) (b : Nat) (w : AH), Ex M_X1_given lv 8 l (.ref b :: []) w = if clK (hg w b) = 3 then (if (Call M_X3_isThere 60 [.ref b] w).isSome = true then Ex M_X1_given lv 11 l (pushR (cV (Call M_X3_isThere 60 [.ref b] w)) []) (cW (Call M_X3_isThere 60 [.ref b] w) w) else none) else none)
  ∧ (∀ (lv : Nat) (l : LX) (st : List Value) (x : Int32) (w : AH), Ex M_X1_given lv 11 l (.int x :: st) w = if x = 0 then Ex M_X1_given lv 28 l st w else Ex M_X1_given lv 14 l st w)
  ∧ (∀ (lv : Nat) (st : List Value) (t : LX) (x : Nat) (w : AH), Ex M_X1_given lv 14 (some (.ref x) :: t) st w = Ex M_X1_given lv 15 (some (.ref x) :: t) (.ref x :: st) w)
  ∧ (∀ (lv : Nat) (st : List Value) (t : LX) (w : AH), Ex M_X1_given lv 14 (some (.null) :: t) st w = Ex M_X1_given lv 15 (some (.null) :: t) (.null :: st) w)
  ∧ (∀ (lv : Nat) (l : LX) (st : List Value) (a : Nat) (w : AH), Ex M_X1_given lv 15 l (.ref a :: st) w = if (gf (hg w a) 1 2).isSome = true then Ex M_X1_given lv 18 l (vV (gf (hg w a) 1 2) :: st) w else none)
  ∧ (∀ (lv : Nat) (st : List Value) (t : LX) (o0 o1 : Option Value) (x : Int32) (w : AH), Ex M_X1_given lv 18 (o0 :: o1 :: some (.int x) :: t) st w = Ex M_X1_given lv 19 (o0 :: o1 :: some (.int x) :: t) (.int x :: st) w)
  ∧ (∀ (lv : Nat) (st : List Value) (t : LX) (o0 o1 o2 : Option Value) (x : Int32) (w : AH), Ex M_X1_given lv 19 (o0 :: o1 :: o2 :: some (.int x) :: t) st w = Ex M_X1_given lv 20 (o0 :: o1 :: o2 :: some (.int x) :: t) (.int x :: st) w)
  ∧ (∀ (lv : Nat) (st : List Value) (t : LX) (o0 o1 o2 o3 : Option Value) (x : Int32) (w : AH), Ex M_X1_given lv 20 (o0 :: o1 :: o2 :: o3 :: some (.int x) :: t) st w = Ex M_X1_given lv 22 (o0 :: o1 :: o2 :: o3 :: some (.int x) :: t) (.int x :: st) w)
  ∧ (∀ (lv : Nat) (l : LX) (b : Nat) (a0 : Int32) (a1 : Int32) (a2 : Int32) (w : AH), Ex M_X1_given lv 22 l (.int a2 :: .int a1 :: .int a0 :: .ref b :: []) w = if clK (hg w b) = 3 then (if (Call M_X3_workedOut 60 [.ref b, .int a0, .int a1, .int a2] w).isSome = true then Ex M_X1_given lv 25 l (pushR (cV (Call M_X3_workedOut 60 [.ref b, .int a0, .int a1, .int a2] w)) []) (cW (Call M_X3_workedOut 60 [.ref b, .int a0, .int a1, .int a2] w) w) else none) else none)
  ∧ (∀ (lv : Nat) (l : LX) (st : List Value) (w : AH), Ex M_X1_given lv 25 l st w = Ex M_X1_given lv 31 l st w)
  ∧ (∀ (lv : Nat) (st : List Value) (t : LX) (o0 o1 : Option Value) (x : Int32) (w : AH), Ex M_X1_given lv 28 (o0 :: o1 :: some (.int x) :: t) st w = Ex M_X1_given lv 29 (o0 :: o1 :: some (.int x) :: t) (.int x :: st) w)
  ∧ (∀ (lv : Nat) (st : List Value) (t : LX) (o0 o1 o2 : Option Value) (x : Int32) (w : AH), Ex M_X1_given lv 29 (o0 :: o1 :: o2 :: some (.int x) :: t) st w = Ex M_X1_given lv 30 (o0 :: o1 :: o2 :: some (.int x) :: t) (.int x :: st) w)
  ∧ (∀ (lv : Nat) (l : LX) (st : List Value) (x y : Int32) (w : AH), Ex M_X1_given lv 30 l (.int y :: .int x :: st) w = Ex M_X1_given lv 31 l (.int (x + y) :: st) w)
  ∧ (∀ (lv : Nat) (l : LX) (st : List Value) (w : AH), Ex M_X1_given lv 31 l st w = Ex M_X1_given lv 33 l (.int 7 :: st) w)
  ∧ (∀ (lv : Nat) (l : LX) (a0 : Int32) (a1 : Int32) (w : AH), Ex M_X1_given lv 33 l (.int a1 :: .int a0 :: []) w = if (Call M_J9_floorMod_7cf53 60 [.int a0, .int a1] w).isSome = true then Ex M_X1_given lv 36 l (pushR (cV (Call M_J9_floorMod_7cf53 60 [.int a0, .int a1] w)) []) (cW (Call M_J9_floorMod_7cf53 60 [.int a0, .int a1] w) w) else none)
  ∧ (∀ (lv : Nat) (l : LX) (st : List Value) (w : AH), Ex M_X1_given lv 36 l st w = Ex M_X1_given lv 37 l (.int 1 :: st) w)
  ∧ (∀ (lv : Nat) (l : LX) (st : List Value) (x y : Int32) (w : AH), Ex M_X1_given lv 37 l (.int y :: .int x :: st) w = Ex M_X1_given lv 38 l (.int (x + y) :: st) w)
  ∧ (∀ (lv : Nat) (l : LX) (x : Int32) (w : AH), Ex M_X1_given lv 38 l [.int x] w = some (some (.int x), w))
  ∧ (∀ (lv : Nat) (st : List Value) (t : LX) (x : Nat) (w : AH), Ex M_X1_given lv 39 (some (.ref x) :: t) st w = Ex M_X1_given lv 40 (some (.ref x) :: t) (.ref x :: st) w)
  ∧ (∀ (lv : Nat) (st : List Value) (t : LX) (w : AH), Ex M_X1_given lv 39 (some (.null) :: t) st w = Ex M_X1_given lv 40 (some (.null) :: t) (.null :: st) w)
  ∧ (∀ (lv : Nat) (l : LX) (st : List Value) (a : Nat) (w : AH), Ex M_X1_given lv 40 l (.ref a :: st) w = if (gf (hg w a) 1 3).isSome = true then Ex M_X1_given lv 43 l (vV (gf (hg w a) 1 3) :: st) w else none)
  ∧ (∀ (lv : Nat) (l : LX) (b : Nat) (w : AH), Ex M_X1_given lv 43 l (.ref b :: []) w = if clK (hg w b) = 3 then (if (Call M_X3_isThere 60 [.ref b] w).isSome = true then Ex M_X1_given lv 46 l (pushR (cV (Call M_X3_isThere 60 [.ref b] w)) []) (cW (Call M_X3_isThere 60 [.ref b] w) w) else none) else none)
  ∧ (∀ (lv : Nat) (l : LX) (st : List Value) (x : Int32) (w : AH), Ex M_X1_given lv 46 l (.int x :: st) w = if x = 0 then Ex M_X1_given lv 63 l st w else Ex M_X1_given lv 49 l st w)
  ∧ (∀ (lv : Nat) (st : List Value) (t : LX) (x : Nat) (w : AH), Ex M_X1_given lv 49 (some (.ref x) :: t) st w = Ex M_X1_given lv 50 (some (.ref x) :: t) (.ref x :: st) w)
  ∧ (∀ (lv : Nat) (st : List Value) (t : LX) (w : AH), Ex M_X1_given lv 49 (some (.null) :: t) st w = Ex M_X1_given lv 50 (some (.null) :: t) (.null :: st) w)
  ∧ (∀ (lv : Nat) (l : LX) (st : List Value) (a : Nat) (w : AH), Ex M_X1_given lv 50 l (.ref a :: st) w = if (gf (hg w a) 1 3).isSome = true then Ex M_X1_given lv 53 l (vV (gf (hg w a) 1 3) :: st) w else none)
  ∧ (∀ (lv : Nat) (st : List Value) (t : LX) (o0 o1 : Option Value) (x : Int32) (w : AH), Ex M_X1_given lv 53 (o0 :: o1 :: some (.int x) :: t) st w = Ex M_X1_given lv 54 (o0 :: o1 :: some (.int x) :: t) (.int x :: st) w)
  ∧ (∀ (lv : Nat) (st : List Value) (t : LX) (o0 o1 o2 : Option Value) (x : Int32) (w : AH), Ex M_X1_given lv 54 (o0 :: o1 :: o2 :: some (.int x) :: t) st w = Ex M_X1_given lv 55 (o0 :: o1 :: o2 :: some (.int x) :: t) (.int x :: st) w)
  ∧ (∀ (lv : Nat) (st : List Value) (t : LX) (o0 o1 o2 o3 : Option Value) (x : Int32) (w : AH), Ex M_X1_given lv 55 (o0 :: o1 :: o2 :: o3 :: some (.int x) :: t) st w = Ex M_X1_given lv 57 (o0 :: o1 :: o2 :: o3 :: some (.int x) :: t) (.int x :: st) w)
  ∧ (∀ (lv : Nat) (l : LX) (b : Nat) (a0 : Int32) (a1 : Int32) (a2 : Int32) (w : AH), Ex M_X1_given lv 57 l (.int a2 :: .int a1 :: .int a0 :: .ref b :: []) w = if clK (hg w b) = 3 then (if (Call M_X3_workedOut 60 [.ref b, .int a0, .int a1, .int a2] w).isSome = true then Ex M_X1_given lv 60 l (pushR (cV (Call M_X3_workedOut 60 [.ref b, .int a0, .int a1, .int a2] w)) []) (cW (Call M_X3_workedOut 60 [.ref b, .int a0, .int a1, .int a2] w) w) else none) else none)
  ∧ (∀ (lv : Nat) (l : LX) (st : List Value) (w : AH), Ex M_X1_given lv 60 l st w = Ex M_X1_given lv 64 l st w)
  ∧ (∀ (lv : Nat) (st : List Value) (t : LX) (o0 o1 : Option Value) (x : Int32) (w : AH), Ex M_X1_given lv 63 (o0 :: o1 :: some (.int x) :: t) st w = Ex M_X1_given lv 64 (o0 :: o1 :: some (.int x) :: t) (.int x :: st) w)
  ∧ (∀ (lv : Nat) (l : LX) (st : List Value) (x : Int32) (w : AH), Ex M_X1_given lv 64 l (.int x :: st) w = Ex M_X1_given lv 66 (ls1 l 5 (.int x)) st w)
  ∧ (∀ (lv : Nat) (l : LX) (st : List Value) (w : AH), Ex M_X1_given lv 66 l st w = Ex M_X1_given lv 67 l (.int 0 :: st) w)
  ∧ (∀ (lv : Nat) (l : LX) (st : List Value) (w : AH), Ex M_X1_given lv 67 l st w = Ex M_X1_given lv 69 l (.int 99 :: st) w)
  ∧ (∀ (lv : Nat) (st : List Value) (t : LX) (o0 o1 o2 o3 o4 : Option Value) (x : Int32) (w : AH), Ex M_X1_given lv 69 (o0 :: o1 :: o2 :: o3 :: o4 :: some (.int x) :: t) st w = Ex M_X1_given lv 71 (o0 :: o1 :: o2 :: o3 :: o4 :: some (.int x) :: t) (.int x :: st) w)
  ∧ (∀ (lv : Nat) (l : LX) (a0 : Int32) (a1 : Int32) (s0 : Int32) (w : AH), Ex M_X1_given lv 71 l (.int a1 :: .int a0 :: [.int s0]) w = if (Call M_J9_min_7cf53 60 [.int a0, .int a1] w).isSome = true then Ex M_X1_given lv 74 l (pushR (cV (Call M_J9_min_7cf53 60 [.int a0, .int a1] w)) [.int s0]) (cW (Call M_J9_min_7cf53 60 [.int a0, .int a1] w) w) else none)
  ∧ (∀ (lv : Nat) (l : LX) (a0 : Int32) (a1 : Int32) (w : AH), Ex M_X1_given lv 74 l (.int a1 :: .int a0 :: []) w = if (Call M_J9_max_7cf53 60 [.int a0, .int a1] w).isSome = true then Ex M_X1_given lv 77 l (pushR (cV (Call M_J9_max_7cf53 60 [.int a0, .int a1] w)) []) (cW (Call M_J9_max_7cf53 60 [.int a0, .int a1] w) w) else none)
  ∧ (∀ (lv : Nat) (l : LX) (x : Int32) (w : AH), Ex M_X1_given lv 77 l [.int x] w = some (some (.int x), w)) :=
  ⟨(fun lv st t o0 x w => Ex_M (i := .iload_n 1) (n := 1) (by decide +kernel) rfl rfl rfl),
   (fun lv l st x w => Ex_if_ne (by decide +kernel : decode M_X1_given.2.1 1 = .ok (.ifCond .ne 38, 3)) rfl rfl),
   (fun lv st t x w => Ex_M (i := .aload_n 0) (n := 1) (by decide +kernel) rfl rfl rfl),
   (fun lv st t w => Ex_M (i := .aload_n 0) (n := 1) (by decide +kernel) rfl rfl rfl),
   (fun lv l st a w => Ex_getf (by decide +kernel : decode M_X1_given.2.1 5 = .ok (.getfield 27, 3)) rfl (by decide +kernel : resF (mCn M_X1_given) 27 = some (1, 2, (.object "CarpetLands$Law"), true))),
   (fun lv l b w => Ex_callV (by decide +kernel : decode M_X1_given.2.1 8 = .ok (.invokevirtual 89, 3)) rfl (by rfl : resM (mCn M_X1_given) 89 = some (2, M_X3_isThere)) rfl (by rfl) (Nat.le_of_ble_eq_true rfl) (by decide +kernel) (sLv_lt (by decide +kernel))),
   (fun lv l st x w => Ex_if_eq (by decide +kernel : decode M_X1_given.2.1 11 = .ok (.ifCond .eq 17, 3)) rfl rfl),
   (fun lv st t x w => Ex_M (i := .aload_n 0) (n := 1) (by decide +kernel) rfl rfl rfl),
   (fun lv st t w => Ex_M (i := .aload_n 0) (n := 1) (by decide +kernel) rfl rfl rfl),
   (fun lv l st a w => Ex_getf (by decide +kernel : decode M_X1_given.2.1 15 = .ok (.getfield 27, 3)) rfl (by decide +kernel : resF (mCn M_X1_given) 27 = some (1, 2, (.object "CarpetLands$Law"), true))),
   (fun lv st t o0 o1 x w => Ex_M (i := .iload_n 2) (n := 1) (by decide +kernel) rfl rfl rfl),
   (fun lv st t o0 o1 o2 x w => Ex_M (i := .iload_n 3) (n := 1) (by decide +kernel) rfl rfl rfl),
   (fun lv st t o0 o1 o2 o3 x w => Ex_M (i := .iload 4) (n := 2) (by decide +kernel) rfl rfl rfl),
   (fun lv l b a0 a1 a2 w => Ex_callV (by decide +kernel : decode M_X1_given.2.1 22 = .ok (.invokevirtual 93, 3)) rfl (by rfl : resM (mCn M_X1_given) 93 = some (2, M_X3_workedOut)) rfl (by rfl) (Nat.le_of_ble_eq_true rfl) (by decide +kernel) (sLv_lt (by decide +kernel))),
   (fun lv l st w => Ex_goto (by decide +kernel : decode M_X1_given.2.1 25 = .ok (.goto 6, 3)) rfl),
   (fun lv st t o0 o1 x w => Ex_M (i := .iload_n 2) (n := 1) (by decide +kernel) rfl rfl rfl),
   (fun lv st t o0 o1 o2 x w => Ex_M (i := .iload_n 3) (n := 1) (by decide +kernel) rfl rfl rfl),
   (fun lv l st x y w => Ex_A (i := .iadd) (n := 1) (by decide +kernel) rfl rfl),
   (fun lv l st w => Ex_A (i := .bipush 7) (n := 2) (by decide +kernel) rfl rfl),
   (fun lv l a0 a1 w => Ex_callS (by decide +kernel : decode M_X1_given.2.1 33 = .ok (.invokestatic 97, 3)) rfl (by rfl : resM (mCn M_X1_given) 97 = some (0, M_J9_floorMod_7cf53)) (by decide) rfl (by rfl) (Nat.le_of_ble_eq_true rfl) (sLv_lt (by decide +kernel))),
   (fun lv l st w => Ex_A (i := .iconst 1) (n := 1) (by decide +kernel) rfl rfl),
   (fun lv l st x y w => Ex_A (i := .iadd) (n := 1) (by decide +kernel) rfl rfl),
   (fun lv l x w => Ex_R (i := .ireturn) (n := 1) (by decide +kernel) rfl rfl rfl rfl rfl),
   (fun lv st t x w => Ex_M (i := .aload_n 0) (n := 1) (by decide +kernel) rfl rfl rfl),
   (fun lv st t w => Ex_M (i := .aload_n 0) (n := 1) (by decide +kernel) rfl rfl rfl),
   (fun lv l st a w => Ex_getf (by decide +kernel : decode M_X1_given.2.1 40 = .ok (.getfield 31, 3)) rfl (by decide +kernel : resF (mCn M_X1_given) 31 = some (1, 3, (.object "CarpetLands$Law"), true))),
   (fun lv l b w => Ex_callV (by decide +kernel : decode M_X1_given.2.1 43 = .ok (.invokevirtual 89, 3)) rfl (by rfl : resM (mCn M_X1_given) 89 = some (2, M_X3_isThere)) rfl (by rfl) (Nat.le_of_ble_eq_true rfl) (by decide +kernel) (sLv_lt (by decide +kernel))),
   (fun lv l st x w => Ex_if_eq (by decide +kernel : decode M_X1_given.2.1 46 = .ok (.ifCond .eq 17, 3)) rfl rfl),
   (fun lv st t x w => Ex_M (i := .aload_n 0) (n := 1) (by decide +kernel) rfl rfl rfl),
   (fun lv st t w => Ex_M (i := .aload_n 0) (n := 1) (by decide +kernel) rfl rfl rfl),
   (fun lv l st a w => Ex_getf (by decide +kernel : decode M_X1_given.2.1 50 = .ok (.getfield 31, 3)) rfl (by decide +kernel : resF (mCn M_X1_given) 31 = some (1, 3, (.object "CarpetLands$Law"), true))),
   (fun lv st t o0 o1 x w => Ex_M (i := .iload_n 2) (n := 1) (by decide +kernel) rfl rfl rfl),
   (fun lv st t o0 o1 o2 x w => Ex_M (i := .iload_n 3) (n := 1) (by decide +kernel) rfl rfl rfl),
   (fun lv st t o0 o1 o2 o3 x w => Ex_M (i := .iload 4) (n := 2) (by decide +kernel) rfl rfl rfl),
   (fun lv l b a0 a1 a2 w => Ex_callV (by decide +kernel : decode M_X1_given.2.1 57 = .ok (.invokevirtual 93, 3)) rfl (by rfl : resM (mCn M_X1_given) 93 = some (2, M_X3_workedOut)) rfl (by rfl) (Nat.le_of_ble_eq_true rfl) (by decide +kernel) (sLv_lt (by decide +kernel))),
   (fun lv l st w => Ex_goto (by decide +kernel : decode M_X1_given.2.1 60 = .ok (.goto 4, 3)) rfl),
   (fun lv st t o0 o1 x w => Ex_M (i := .iload_n 2) (n := 1) (by decide +kernel) rfl rfl rfl),
   (fun lv l st x w => Ex_M (i := .istore 5) (n := 2) (by decide +kernel) rfl rfl rfl),
   (fun lv l st w => Ex_A (i := .iconst 0) (n := 1) (by decide +kernel) rfl rfl),
   (fun lv l st w => Ex_A (i := .bipush 99) (n := 2) (by decide +kernel) rfl rfl),
   (fun lv st t o0 o1 o2 o3 o4 x w => Ex_M (i := .iload 5) (n := 2) (by decide +kernel) rfl rfl rfl),
   (fun lv l a0 a1 s0 w => Ex_callS (by decide +kernel : decode M_X1_given.2.1 71 = .ok (.invokestatic 103, 3)) rfl (by rfl : resM (mCn M_X1_given) 103 = some (0, M_J9_min_7cf53)) (by decide) rfl (by rfl) (Nat.le_of_ble_eq_true rfl) (sLv_lt (by decide +kernel))),
   (fun lv l a0 a1 w => Ex_callS (by decide +kernel : decode M_X1_given.2.1 74 = .ok (.invokestatic 106, 3)) rfl (by rfl : resM (mCn M_X1_given) 106 = some (0, M_J9_max_7cf53)) (by decide) rfl (by rfl) (Nat.le_of_ble_eq_true rfl) (sLv_lt (by decide +kernel))),
   (fun lv l x w => Ex_R (i := .ireturn) (n := 1) (by decide +kernel) rfl rfl rfl rfl rfl)⟩
set_option maxRecDepth 20000 in
set_option maxHeartbeats 4000000 in
theorem R_X1_patternOf : (∀ (lv : Nat) (st : List Value) (t : LX) (x : Nat) (w : AH), Ex M_X1_patternOf lv 0 (some (.ref x) :: t) st w = Ex M_X1_patternOf lv 1 (some (.ref x) :: t) (.ref x :: st) w)
  ∧ (∀ (lv : Nat) (st : List Value) (t : LX) (w : AH), Ex M_X1_patternOf lv 0 (some (.null) :: t) st w = Ex M_X1_patternOf lv 1 (some (.null) :: t) (.null :: st) w)
  ∧ (∀ (lv : Nat) (l : LX) (st : List Value) (w : AH), Ex M_X1_patternOf lv 1 l st w = Ex M_X1_patternOf lv 2 l (.int 0 :: st) w)
  ∧ (∀ (lv : Nat) (st : List Value) (t : LX) (o0 : Option Value) (x : Int32) (w : AH), Ex M_X1_patternOf lv 2 (o0 :: some (.int x) :: t) st w = Ex M_X1_patternOf lv 3 (o0 :: some (.int x) :: t) (.int x :: st) w)
  ∧ (∀ (lv : Nat) (l : LX) (st : List Value) (w : AH), Ex M_X1_patternOf lv 3 l st w = Ex M_X1_patternOf lv 5 l (.int 6 :: st) w)
  ∧ (∀ (lv : Nat) (l : LX) (st : List Value) (x y : Int32) (w : AH), Ex M_X1_patternOf lv 5 l (.int y :: .int x :: st) w = if y = 0 then none else Ex M_X1_patternOf lv 6 l (.int (x / y) :: st) w)
  ∧ (∀ (lv : Nat) (st : List Value) (t : LX) (o0 : Option Value) (x : Int32) (w : AH), Ex M_X1_patternOf lv 6 (o0 :: some (.int x) :: t) st w = Ex M_X1_patternOf lv 7 (o0 :: some (.int x) :: t) (.int x :: st) w)
  ∧ (∀ (lv : Nat) (l : LX) (st : List Value) (w : AH), Ex M_X1_patternOf lv 7 l st w = Ex M_X1_patternOf lv 9 l (.int 6 :: st) w)
  ∧ (∀ (lv : Nat) (l : LX) (st : List Value) (x y : Int32) (w : AH), Ex M_X1_patternOf lv 9 l (.int y :: .int x :: st) w = if y = 0 then none else Ex M_X1_patternOf lv 10 l (.int (x - x / y * y) :: st) w)
  ∧ (∀ (lv : Nat) (st : List Value) (t : LX) (x : Nat) (w : AH), Ex M_X1_patternOf lv 10 (some (.ref x) :: t) st w = Ex M_X1_patternOf lv 11 (some (.ref x) :: t) (.ref x :: st) w)
  ∧ (∀ (lv : Nat) (st : List Value) (t : LX) (w : AH), Ex M_X1_patternOf lv 10 (some (.null) :: t) st w = Ex M_X1_patternOf lv 11 (some (.null) :: t) (.null :: st) w)
  ∧ (∀ (lv : Nat) (l : LX) (st : List Value) (a : Nat) (w : AH), Ex M_X1_patternOf lv 11 l (.ref a :: st) w = if (gf (hg w a) 1 7).isSome = true then Ex M_X1_patternOf lv 14 l (vV (gf (hg w a) 1 7) :: st) w else none)
  ∧ (∀ (lv : Nat) (l : LX) (b : Nat) (a0 : Int32) (a1 : Int32) (a2 : Int32) (a3 : Int32) (w : AH), Ex M_X1_patternOf lv 14 l (.int a3 :: .int a2 :: .int a1 :: .int a0 :: .ref b :: []) w = if clK (hg w b) = 1 then (if (Call M_X1_given 60 [.ref b, .int a0, .int a1, .int a2, .int a3] w).isSome = true then Ex M_X1_patternOf lv 17 l (pushR (cV (Call M_X1_given 60 [.ref b, .int a0, .int a1, .int a2, .int a3] w)) []) (cW (Call M_X1_given 60 [.ref b, .int a0, .int a1, .int a2, .int a3] w) w) else none) else none)
  ∧ (∀ (lv : Nat) (l : LX) (x : Int32) (w : AH), Ex M_X1_patternOf lv 17 l [.int x] w = some (some (.int x), w)) :=
  ⟨(fun lv st t x w => Ex_M (i := .aload_n 0) (n := 1) (by decide +kernel) rfl rfl rfl),
   (fun lv st t w => Ex_M (i := .aload_n 0) (n := 1) (by decide +kernel) rfl rfl rfl),
   (fun lv l st w => Ex_A (i := .iconst 0) (n := 1) (by decide +kernel) rfl rfl),
   (fun lv st t o0 x w => Ex_M (i := .iload_n 1) (n := 1) (by decide +kernel) rfl rfl rfl),
   (fun lv l st w => Ex_A (i := .bipush 6) (n := 2) (by decide +kernel) rfl rfl),
   (fun lv l st x y w => Ex_idiv (by decide +kernel : decode M_X1_patternOf.2.1 5 = .ok (.idiv, 1)) rfl),
   (fun lv st t o0 x w => Ex_M (i := .iload_n 1) (n := 1) (by decide +kernel) rfl rfl rfl),
   (fun lv l st w => Ex_A (i := .bipush 6) (n := 2) (by decide +kernel) rfl rfl),
   (fun lv l st x y w => Ex_irem (by decide +kernel : decode M_X1_patternOf.2.1 9 = .ok (.irem, 1)) rfl),
   (fun lv st t x w => Ex_M (i := .aload_n 0) (n := 1) (by decide +kernel) rfl rfl rfl),
   (fun lv st t w => Ex_M (i := .aload_n 0) (n := 1) (by decide +kernel) rfl rfl rfl),
   (fun lv l st a w => Ex_getf (by decide +kernel : decode M_X1_patternOf.2.1 11 = .ok (.getfield 50, 3)) rfl (by decide +kernel : resF (mCn M_X1_patternOf) 50 = some (1, 7, .int, false))),
   (fun lv l b a0 a1 a2 a3 w => Ex_callV (by decide +kernel : decode M_X1_patternOf.2.1 14 = .ok (.invokevirtual 109, 3)) rfl (by rfl : resM (mCn M_X1_patternOf) 109 = some (2, M_X1_given)) rfl (by rfl) (Nat.le_of_ble_eq_true rfl) (by decide +kernel) (sLv_lt (by decide +kernel))),
   (fun lv l x w => Ex_R (i := .ireturn) (n := 1) (by decide +kernel) rfl rfl rfl rfl rfl)⟩
set_option maxRecDepth 20000 in
set_option maxHeartbeats 4000000 in
theorem R_X1_worthOf : (∀ (lv : Nat) (st : List Value) (t : LX) (x : Nat) (w : AH), Ex M_X1_worthOf lv 0 (some (.ref x) :: t) st w = Ex M_X1_worthOf lv 1 (some (.ref x) :: t) (.ref x :: st) w)
  ∧ (∀ (lv : Nat) (st : List Value) (t : LX) (w : AH), Ex M_X1_worthOf lv 0 (some (.null) :: t) st w = Ex M_X1_worthOf lv 1 (some (.null) :: t) (.null :: st) w)
  ∧ (∀ (lv : Nat) (l : LX) (st : List Value) (w : AH), Ex M_X1_worthOf lv 1 l st w = Ex M_X1_worthOf lv 2 l (.int 1 :: st) w)
  ∧ (∀ (lv : Nat) (st : List Value) (t : LX) (x : Nat) (w : AH), Ex M_X1_worthOf lv 2 (some (.ref x) :: t) st w = Ex M_X1_worthOf lv 3 (some (.ref x) :: t) (.ref x :: st) w)
  ∧ (∀ (lv : Nat) (st : List Value) (t : LX) (w : AH), Ex M_X1_worthOf lv 2 (some (.null) :: t) st w = Ex M_X1_worthOf lv 3 (some (.null) :: t) (.null :: st) w)
  ∧ (∀ (lv : Nat) (l : LX) (st : List Value) (a : Nat) (w : AH), Ex M_X1_worthOf lv 3 l (.ref a :: st) w = if (gf (hg w a) 1 0).isSome = true then Ex M_X1_worthOf lv 6 l (vV (gf (hg w a) 1 0) :: st) w else none)
  ∧ (∀ (lv : Nat) (st : List Value) (t : LX) (o0 : Option Value) (x : Int32) (w : AH), Ex M_X1_worthOf lv 6 (o0 :: some (.int x) :: t) st w = Ex M_X1_worthOf lv 7 (o0 :: some (.int x) :: t) (.int x :: st) w)
  ∧ (∀ (lv : Nat) (l : LX) (b : Nat) (a0 : Int32) (s0 : Int32) (s1 : Nat) (w : AH), Ex M_X1_worthOf lv 7 l (.int a0 :: .ref b :: [.int s0, .ref s1]) w = if clK (hg w b) = 0 then (if (Call M_X0_colourOf 60 [.ref b, .int a0] w).isSome = true then Ex M_X1_worthOf lv 10 l (pushR (cV (Call M_X0_colourOf 60 [.ref b, .int a0] w)) [.int s0, .ref s1]) (cW (Call M_X0_colourOf 60 [.ref b, .int a0] w) w) else none) else none)
  ∧ (∀ (lv : Nat) (st : List Value) (t : LX) (x : Nat) (w : AH), Ex M_X1_worthOf lv 10 (some (.ref x) :: t) st w = Ex M_X1_worthOf lv 11 (some (.ref x) :: t) (.ref x :: st) w)
  ∧ (∀ (lv : Nat) (st : List Value) (t : LX) (w : AH), Ex M_X1_worthOf lv 10 (some (.null) :: t) st w = Ex M_X1_worthOf lv 11 (some (.null) :: t) (.null :: st) w)
  ∧ (∀ (lv : Nat) (l : LX) (st : List Value) (a : Nat) (w : AH), Ex M_X1_worthOf lv 11 l (.ref a :: st) w = if (gf (hg w a) 1 0).isSome = true then Ex M_X1_worthOf lv 14 l (vV (gf (hg w a) 1 0) :: st) w else none)
  ∧ (∀ (lv : Nat) (st : List Value) (t : LX) (o0 : Option Value) (x : Int32) (w : AH), Ex M_X1_worthOf lv 14 (o0 :: some (.int x) :: t) st w = Ex M_X1_worthOf lv 15 (o0 :: some (.int x) :: t) (.int x :: st) w)
  ∧ (∀ (lv : Nat) (l : LX) (b : Nat) (a0 : Int32) (s0 : Int32) (s1 : Int32) (s2 : Nat) (w : AH), Ex M_X1_worthOf lv 15 l (.int a0 :: .ref b :: [.int s0, .int s1, .ref s2]) w = if clK (hg w b) = 0 then (if (Call M_X0_wearOf 60 [.ref b, .int a0] w).isSome = true then Ex M_X1_worthOf lv 18 l (pushR (cV (Call M_X0_wearOf 60 [.ref b, .int a0] w)) [.int s0, .int s1, .ref s2]) (cW (Call M_X0_wearOf 60 [.ref b, .int a0] w) w) else none) else none)
  ∧ (∀ (lv : Nat) (st : List Value) (t : LX) (o0 : Option Value) (x : Int32) (w : AH), Ex M_X1_worthOf lv 18 (o0 :: some (.int x) :: t) st w = Ex M_X1_worthOf lv 19 (o0 :: some (.int x) :: t) (.int x :: st) w)
  ∧ (∀ (lv : Nat) (l : LX) (st : List Value) (w : AH), Ex M_X1_worthOf lv 19 l st w = Ex M_X1_worthOf lv 21 l (.int 6 :: st) w)
  ∧ (∀ (lv : Nat) (l : LX) (st : List Value) (x y : Int32) (w : AH), Ex M_X1_worthOf lv 21 l (.int y :: .int x :: st) w = if y = 0 then none else Ex M_X1_worthOf lv 22 l (.int (x - x / y * y) :: st) w)
  ∧ (∀ (lv : Nat) (l : LX) (b : Nat) (a0 : Int32) (a1 : Int32) (a2 : Int32) (a3 : Int32) (w : AH), Ex M_X1_worthOf lv 22 l (.int a3 :: .int a2 :: .int a1 :: .int a0 :: .ref b :: []) w = if clK (hg w b) = 1 then (if (Call M_X1_given 60 [.ref b, .int a0, .int a1, .int a2, .int a3] w).isSome = true then Ex M_X1_worthOf lv 25 l (pushR (cV (Call M_X1_given 60 [.ref b, .int a0, .int a1, .int a2, .int a3] w)) []) (cW (Call M_X1_given 60 [.ref b, .int a0, .int a1, .int a2, .int a3] w) w) else none) else none)
  ∧ (∀ (lv : Nat) (l : LX) (x : Int32) (w : AH), Ex M_X1_worthOf lv 25 l [.int x] w = some (some (.int x), w)) :=
  ⟨(fun lv st t x w => Ex_M (i := .aload_n 0) (n := 1) (by decide +kernel) rfl rfl rfl),
   (fun lv st t w => Ex_M (i := .aload_n 0) (n := 1) (by decide +kernel) rfl rfl rfl),
   (fun lv l st w => Ex_A (i := .iconst 1) (n := 1) (by decide +kernel) rfl rfl),
   (fun lv st t x w => Ex_M (i := .aload_n 0) (n := 1) (by decide +kernel) rfl rfl rfl),
   (fun lv st t w => Ex_M (i := .aload_n 0) (n := 1) (by decide +kernel) rfl rfl rfl),
   (fun lv l st a w => Ex_getf (by decide +kernel : decode M_X1_worthOf.2.1 3 = .ok (.getfield 12, 3)) rfl (by decide +kernel : resF (mCn M_X1_worthOf) 12 = some (1, 0, (.object "CarpetLands$Carpet"), true))),
   (fun lv st t o0 x w => Ex_M (i := .iload_n 1) (n := 1) (by decide +kernel) rfl rfl rfl),
   (fun lv l b a0 s0 s1 w => Ex_callV (by decide +kernel : decode M_X1_worthOf.2.1 7 = .ok (.invokevirtual 113, 3)) rfl (by rfl : resM (mCn M_X1_worthOf) 113 = some (2, M_X0_colourOf)) rfl (by rfl) (Nat.le_of_ble_eq_true rfl) (by decide +kernel) (sLv_lt (by decide +kernel))),
   (fun lv st t x w => Ex_M (i := .aload_n 0) (n := 1) (by decide +kernel) rfl rfl rfl),
   (fun lv st t w => Ex_M (i := .aload_n 0) (n := 1) (by decide +kernel) rfl rfl rfl),
   (fun lv l st a w => Ex_getf (by decide +kernel : decode M_X1_worthOf.2.1 11 = .ok (.getfield 12, 3)) rfl (by decide +kernel : resF (mCn M_X1_worthOf) 12 = some (1, 0, (.object "CarpetLands$Carpet"), true))),
   (fun lv st t o0 x w => Ex_M (i := .iload_n 1) (n := 1) (by decide +kernel) rfl rfl rfl),
   (fun lv l b a0 s0 s1 s2 w => Ex_callV (by decide +kernel : decode M_X1_worthOf.2.1 15 = .ok (.invokevirtual 117, 3)) rfl (by rfl : resM (mCn M_X1_worthOf) 117 = some (2, M_X0_wearOf)) rfl (by rfl) (Nat.le_of_ble_eq_true rfl) (by decide +kernel) (sLv_lt (by decide +kernel))),
   (fun lv st t o0 x w => Ex_M (i := .iload_n 1) (n := 1) (by decide +kernel) rfl rfl rfl),
   (fun lv l st w => Ex_A (i := .bipush 6) (n := 2) (by decide +kernel) rfl rfl),
   (fun lv l st x y w => Ex_irem (by decide +kernel : decode M_X1_worthOf.2.1 21 = .ok (.irem, 1)) rfl),
   (fun lv l b a0 a1 a2 a3 w => Ex_callV (by decide +kernel : decode M_X1_worthOf.2.1 22 = .ok (.invokevirtual 109, 3)) rfl (by rfl : resM (mCn M_X1_worthOf) 109 = some (2, M_X1_given)) rfl (by rfl) (Nat.le_of_ble_eq_true rfl) (by decide +kernel) (sLv_lt (by decide +kernel))),
   (fun lv l x w => Ex_R (i := .ireturn) (n := 1) (by decide +kernel) rfl rfl rfl rfl rfl)⟩
set_option maxRecDepth 20000 in
theorem H_X1_worthOfColumn_4 : ∀ (lv : Nat) (st : List Value) (t : LX) (o0 o1 o2 : Option Value) (x : Int32) (w : AH), Ex M_X1_worthOfColumn lv 4 (o0 :: o1 :: o2 :: some (.int x) :: t) st w = Ex M_X1_worthOfColumn lv 5 (o0 :: o1 :: o2 :: some (.int x) :: t) (.int x :: st) w := fun lv st t o0 o1 o2 x w => Ex_M (i := .iload_n 3) (n := 1) (by decide +kernel) rfl rfl rfl
set_option maxRecDepth 20000 in
set_option maxHeartbeats 4000000 in
theorem R_X1_worthOfColumn : (∀ (lv : Nat) (l : LX) (st : List Value) (w : AH), Ex M_X1_worthOfColumn lv 0 l st w = Ex M_X1_worthOfColumn lv 1 l (.int 0 :: st) w)
  ∧ (∀ (lv : Nat) (l : LX) (st : List Value) (x : Int32) (w : AH), Ex M_X1_worthOfColumn lv 1 l (.int x :: st) w = Ex M_X1_worthOfColumn lv 2 (ls1 l 2 (.int x)) st w)
  ∧ (∀ (lv : Nat) (l : LX) (st : List Value) (w : AH), Ex M_X1_worthOfColumn lv 2 l st w = Ex M_X1_worthOfColumn lv 3 l (.int 0 :: st) w)
  ∧ (∀ (lv : Nat) (l : LX) (st : List Value) (x : Int32) (w : AH), Ex M_X1_worthOfColumn lv 3 l (.int x :: st) w = Ex M_X1_worthOfColumn lv 4 (ls1 l 3 (.int x)) st w)
  ∧ (∀ (lv : Nat) (l : LX) (st : List Value) (w : AH), Ex M_X1_worthOfColumn lv 5 l st w = Ex M_X1_worthOfColumn lv 7 l (.int 6 :: st) w)
  ∧ (∀ (lv : Nat) (l : LX) (st : List Value) (x y : Int32) (w : AH), Ex M_X1_worthOfColumn lv 7 l (.int y :: .int x :: st) w = if y ≤ x then Ex M_X1_worthOfColumn lv 29 l st w else Ex M_X1_worthOfColumn lv 10 l st w)
  ∧ (∀ (lv : Nat) (st : List Value) (t : LX) (o0 o1 : Option Value) (x : Int32) (w : AH), Ex M_X1_worthOfColumn lv 10 (o0 :: o1 :: some (.int x) :: t) st w = Ex M_X1_worthOfColumn lv 11 (o0 :: o1 :: some (.int x) :: t) (.int x :: st) w)
  ∧ (∀ (lv : Nat) (st : List Value) (t : LX) (x : Nat) (w : AH), Ex M_X1_worthOfColumn lv 11 (some (.ref x) :: t) st w = Ex M_X1_worthOfColumn lv 12 (some (.ref x) :: t) (.ref x :: st) w)
  ∧ (∀ (lv : Nat) (st : List Value) (t : LX) (w : AH), Ex M_X1_worthOfColumn lv 11 (some (.null) :: t) st w = Ex M_X1_worthOfColumn lv 12 (some (.null) :: t) (.null :: st) w)
  ∧ (∀ (lv : Nat) (st : List Value) (t : LX) (o0 o1 o2 : Option Value) (x : Int32) (w : AH), Ex M_X1_worthOfColumn lv 12 (o0 :: o1 :: o2 :: some (.int x) :: t) st w = Ex M_X1_worthOfColumn lv 13 (o0 :: o1 :: o2 :: some (.int x) :: t) (.int x :: st) w)
  ∧ (∀ (lv : Nat) (l : LX) (st : List Value) (w : AH), Ex M_X1_worthOfColumn lv 13 l st w = Ex M_X1_worthOfColumn lv 15 l (.int 6 :: st) w)
  ∧ (∀ (lv : Nat) (l : LX) (st : List Value) (x y : Int32) (w : AH), Ex M_X1_worthOfColumn lv 15 l (.int y :: .int x :: st) w = Ex M_X1_worthOfColumn lv 16 l (.int (x * y) :: st) w)
  ∧ (∀ (lv : Nat) (st : List Value) (t : LX) (o0 : Option Value) (x : Int32) (w : AH), Ex M_X1_worthOfColumn lv 16 (o0 :: some (.int x) :: t) st w = Ex M_X1_worthOfColumn lv 17 (o0 :: some (.int x) :: t) (.int x :: st) w)
  ∧ (∀ (lv : Nat) (l : LX) (st : List Value) (x y : Int32) (w : AH), Ex M_X1_worthOfColumn lv 17 l (.int y :: .int x :: st) w = Ex M_X1_worthOfColumn lv 18 l (.int (x + y) :: st) w)
  ∧ (∀ (lv : Nat) (l : LX) (b : Nat) (a0 : Int32) (s0 : Int32) (w : AH), Ex M_X1_worthOfColumn lv 18 l (.int a0 :: .ref b :: [.int s0]) w = if clK (hg w b) = 1 then (if (Call M_X1_worthOf 60 [.ref b, .int a0] w).isSome = true then Ex M_X1_worthOfColumn lv 21 l (pushR (cV (Call M_X1_worthOf 60 [.ref b, .int a0] w)) [.int s0]) (cW (Call M_X1_worthOf 60 [.ref b, .int a0] w) w) else none) else none)
  ∧ (∀ (lv : Nat) (l : LX) (st : List Value) (x y : Int32) (w : AH), Ex M_X1_worthOfColumn lv 21 l (.int y :: .int x :: st) w = Ex M_X1_worthOfColumn lv 22 l (.int (x + y) :: st) w)
  ∧ (∀ (lv : Nat) (l : LX) (st : List Value) (x : Int32) (w : AH), Ex M_X1_worthOfColumn lv 22 l (.int x :: st) w = Ex M_X1_worthOfColumn lv 23 (ls1 l 2 (.int x)) st w)
  ∧ (∀ (lv : Nat) (st : List Value) (t : LX) (o0 o1 o2 : Option Value) (x : Int32) (w : AH), Ex M_X1_worthOfColumn lv 23 (o0 :: o1 :: o2 :: some (.int x) :: t) st w = Ex M_X1_worthOfColumn lv 26 (ls1 (o0 :: o1 :: o2 :: some (.int x) :: t) 3 (.int (x + 1))) st w)
  ∧ (∀ (lv : Nat) (l : LX) (st : List Value) (w : AH), Ex M_X1_worthOfColumn lv 26 l st w = Ex M_X1_worthOfColumn lv 4 l st w)
  ∧ (∀ (lv : Nat) (st : List Value) (t : LX) (o0 o1 : Option Value) (x : Int32) (w : AH), Ex M_X1_worthOfColumn lv 29 (o0 :: o1 :: some (.int x) :: t) st w = Ex M_X1_worthOfColumn lv 30 (o0 :: o1 :: some (.int x) :: t) (.int x :: st) w)
  ∧ (∀ (lv : Nat) (l : LX) (x : Int32) (w : AH), Ex M_X1_worthOfColumn lv 30 l [.int x] w = some (some (.int x), w)) :=
  ⟨(fun lv l st w => Ex_A (i := .iconst 0) (n := 1) (by decide +kernel) rfl rfl),
   (fun lv l st x w => Ex_M (i := .istore_n 2) (n := 1) (by decide +kernel) rfl rfl rfl),
   (fun lv l st w => Ex_A (i := .iconst 0) (n := 1) (by decide +kernel) rfl rfl),
   (fun lv l st x w => Ex_M (i := .istore_n 3) (n := 1) (by decide +kernel) rfl rfl rfl),
   (fun lv l st w => Ex_A (i := .bipush 6) (n := 2) (by decide +kernel) rfl rfl),
   (fun lv l st x y w => Ex_icmp_ge (by decide +kernel : decode M_X1_worthOfColumn.2.1 7 = .ok (.if_icmp .ge 22, 3)) rfl rfl),
   (fun lv st t o0 o1 x w => Ex_M (i := .iload_n 2) (n := 1) (by decide +kernel) rfl rfl rfl),
   (fun lv st t x w => Ex_M (i := .aload_n 0) (n := 1) (by decide +kernel) rfl rfl rfl),
   (fun lv st t w => Ex_M (i := .aload_n 0) (n := 1) (by decide +kernel) rfl rfl rfl),
   (fun lv st t o0 o1 o2 x w => Ex_M (i := .iload_n 3) (n := 1) (by decide +kernel) rfl rfl rfl),
   (fun lv l st w => Ex_A (i := .bipush 6) (n := 2) (by decide +kernel) rfl rfl),
   (fun lv l st x y w => Ex_A (i := .imul) (n := 1) (by decide +kernel) rfl rfl),
   (fun lv st t o0 x w => Ex_M (i := .iload_n 1) (n := 1) (by decide +kernel) rfl rfl rfl),
   (fun lv l st x y w => Ex_A (i := .iadd) (n := 1) (by decide +kernel) rfl rfl),
   (fun lv l b a0 s0 w => Ex_callV (by decide +kernel : decode M_X1_worthOfColumn.2.1 18 = .ok (.invokevirtual 120, 3)) rfl (by rfl : resM (mCn M_X1_worthOfColumn) 120 = some (2, M_X1_worthOf)) rfl (by rfl) (Nat.le_of_ble_eq_true rfl) (by decide +kernel) (sLv_lt (by decide +kernel))),
   (fun lv l st x y w => Ex_A (i := .iadd) (n := 1) (by decide +kernel) rfl rfl),
   (fun lv l st x w => Ex_M (i := .istore_n 2) (n := 1) (by decide +kernel) rfl rfl rfl),
   (fun lv st t o0 o1 o2 x w => Ex_iinc (by decide +kernel : decode M_X1_worthOfColumn.2.1 23 = .ok (.iinc 3 1, 3)) rfl rfl (by decide) (by decide)),
   (fun lv l st w => Ex_goto (by decide +kernel : decode M_X1_worthOfColumn.2.1 26 = .ok (.goto (-22), 3)) rfl),
   (fun lv st t o0 o1 x w => Ex_M (i := .iload_n 2) (n := 1) (by decide +kernel) rfl rfl rfl),
   (fun lv l x w => Ex_R (i := .ireturn) (n := 1) (by decide +kernel) rfl rfl rfl rfl rfl)⟩
set_option maxRecDepth 20000 in
theorem H_X1_countSlips_4 : ∀ (lv : Nat) (st : List Value) (t : LX) (o0 o1 : Option Value) (x : Int32) (w : AH), Ex M_X1_countSlips lv 4 (o0 :: o1 :: some (.int x) :: t) st w = Ex M_X1_countSlips lv 5 (o0 :: o1 :: some (.int x) :: t) (.int x :: st) w := fun lv st t o0 o1 x w => Ex_M (i := .iload_n 2) (n := 1) (by decide +kernel) rfl rfl rfl
set_option maxRecDepth 20000 in
set_option maxHeartbeats 4000000 in
theorem R_X1_countSlips : (∀ (lv : Nat) (l : LX) (st : List Value) (w : AH), Ex M_X1_countSlips lv 0 l st w = Ex M_X1_countSlips lv 1 l (.int 0 :: st) w)
  ∧ (∀ (lv : Nat) (l : LX) (st : List Value) (x : Int32) (w : AH), Ex M_X1_countSlips lv 1 l (.int x :: st) w = Ex M_X1_countSlips lv 2 (ls1 l 1 (.int x)) st w)
  ∧ (∀ (lv : Nat) (l : LX) (st : List Value) (w : AH), Ex M_X1_countSlips lv 2 l st w = Ex M_X1_countSlips lv 3 l (.int 0 :: st) w)
  ∧ (∀ (lv : Nat) (l : LX) (st : List Value) (x : Int32) (w : AH), Ex M_X1_countSlips lv 3 l (.int x :: st) w = Ex M_X1_countSlips lv 4 (ls1 l 2 (.int x)) st w)
  ∧ (∀ (lv : Nat) (l : LX) (st : List Value) (w : AH), Ex M_X1_countSlips lv 5 l st w = Ex M_X1_countSlips lv 7 l (.int 36 :: st) w)
  ∧ (∀ (lv : Nat) (l : LX) (st : List Value) (x y : Int32) (w : AH), Ex M_X1_countSlips lv 7 l (.int y :: .int x :: st) w = if y ≤ x then Ex M_X1_countSlips lv 41 l st w else Ex M_X1_countSlips lv 10 l st w)
  ∧ (∀ (lv : Nat) (st : List Value) (t : LX) (x : Nat) (w : AH), Ex M_X1_countSlips lv 10 (some (.ref x) :: t) st w = Ex M_X1_countSlips lv 11 (some (.ref x) :: t) (.ref x :: st) w)
  ∧ (∀ (lv : Nat) (st : List Value) (t : LX) (w : AH), Ex M_X1_countSlips lv 10 (some (.null) :: t) st w = Ex M_X1_countSlips lv 11 (some (.null) :: t) (.null :: st) w)
  ∧ (∀ (lv : Nat) (l : LX) (st : List Value) (a : Nat) (w : AH), Ex M_X1_countSlips lv 11 l (.ref a :: st) w = if (gf (hg w a) 1 0).isSome = true then Ex M_X1_countSlips lv 14 l (vV (gf (hg w a) 1 0) :: st) w else none)
  ∧ (∀ (lv : Nat) (st : List Value) (t : LX) (o0 o1 : Option Value) (x : Int32) (w : AH), Ex M_X1_countSlips lv 14 (o0 :: o1 :: some (.int x) :: t) st w = Ex M_X1_countSlips lv 15 (o0 :: o1 :: some (.int x) :: t) (.int x :: st) w)
  ∧ (∀ (lv : Nat) (l : LX) (b : Nat) (a0 : Int32) (w : AH), Ex M_X1_countSlips lv 15 l (.int a0 :: .ref b :: []) w = if clK (hg w b) = 0 then (if (Call M_X0_colourOf 60 [.ref b, .int a0] w).isSome = true then Ex M_X1_countSlips lv 18 l (pushR (cV (Call M_X0_colourOf 60 [.ref b, .int a0] w)) []) (cW (Call M_X0_colourOf 60 [.ref b, .int a0] w) w) else none) else none)
  ∧ (∀ (lv : Nat) (l : LX) (st : List Value) (x : Int32) (w : AH), Ex M_X1_countSlips lv 18 l (.int x :: st) w = Ex M_X1_countSlips lv 19 (ls1 l 3 (.int x)) st w)
  ∧ (∀ (lv : Nat) (st : List Value) (t : LX) (o0 o1 o2 : Option Value) (x : Int32) (w : AH), Ex M_X1_countSlips lv 19 (o0 :: o1 :: o2 :: some (.int x) :: t) st w = Ex M_X1_countSlips lv 20 (o0 :: o1 :: o2 :: some (.int x) :: t) (.int x :: st) w)
  ∧ (∀ (lv : Nat) (l : LX) (st : List Value) (x : Int32) (w : AH), Ex M_X1_countSlips lv 20 l (.int x :: st) w = if x = 0 then Ex M_X1_countSlips lv 35 l st w else Ex M_X1_countSlips lv 23 l st w)
  ∧ (∀ (lv : Nat) (st : List Value) (t : LX) (o0 o1 o2 : Option Value) (x : Int32) (w : AH), Ex M_X1_countSlips lv 23 (o0 :: o1 :: o2 :: some (.int x) :: t) st w = Ex M_X1_countSlips lv 24 (o0 :: o1 :: o2 :: some (.int x) :: t) (.int x :: st) w)
  ∧ (∀ (lv : Nat) (st : List Value) (t : LX) (x : Nat) (w : AH), Ex M_X1_countSlips lv 24 (some (.ref x) :: t) st w = Ex M_X1_countSlips lv 25 (some (.ref x) :: t) (.ref x :: st) w)
  ∧ (∀ (lv : Nat) (st : List Value) (t : LX) (w : AH), Ex M_X1_countSlips lv 24 (some (.null) :: t) st w = Ex M_X1_countSlips lv 25 (some (.null) :: t) (.null :: st) w)
  ∧ (∀ (lv : Nat) (st : List Value) (t : LX) (o0 o1 : Option Value) (x : Int32) (w : AH), Ex M_X1_countSlips lv 25 (o0 :: o1 :: some (.int x) :: t) st w = Ex M_X1_countSlips lv 26 (o0 :: o1 :: some (.int x) :: t) (.int x :: st) w)
  ∧ (∀ (lv : Nat) (l : LX) (b : Nat) (a0 : Int32) (s0 : Int32) (w : AH), Ex M_X1_countSlips lv 26 l (.int a0 :: .ref b :: [.int s0]) w = if clK (hg w b) = 1 then (if (Call M_X1_patternOf 60 [.ref b, .int a0] w).isSome = true then Ex M_X1_countSlips lv 29 l (pushR (cV (Call M_X1_patternOf 60 [.ref b, .int a0] w)) [.int s0]) (cW (Call M_X1_patternOf 60 [.ref b, .int a0] w) w) else none) else none)
  ∧ (∀ (lv : Nat) (l : LX) (st : List Value) (x y : Int32) (w : AH), Ex M_X1_countSlips lv 29 l (.int y :: .int x :: st) w = if x = y then Ex M_X1_countSlips lv 35 l st w else Ex M_X1_countSlips lv 32 l st w)
  ∧ (∀ (lv : Nat) (st : List Value) (t : LX) (o0 : Option Value) (x : Int32) (w : AH), Ex M_X1_countSlips lv 32 (o0 :: some (.int x) :: t) st w = Ex M_X1_countSlips lv 35 (ls1 (o0 :: some (.int x) :: t) 1 (.int (x + 1))) st w)
  ∧ (∀ (lv : Nat) (st : List Value) (t : LX) (o0 o1 : Option Value) (x : Int32) (w : AH), Ex M_X1_countSlips lv 35 (o0 :: o1 :: some (.int x) :: t) st w = Ex M_X1_countSlips lv 38 (ls1 (o0 :: o1 :: some (.int x) :: t) 2 (.int (x + 1))) st w)
  ∧ (∀ (lv : Nat) (l : LX) (st : List Value) (w : AH), Ex M_X1_countSlips lv 38 l st w = Ex M_X1_countSlips lv 4 l st w)
  ∧ (∀ (lv : Nat) (st : List Value) (t : LX) (o0 : Option Value) (x : Int32) (w : AH), Ex M_X1_countSlips lv 41 (o0 :: some (.int x) :: t) st w = Ex M_X1_countSlips lv 42 (o0 :: some (.int x) :: t) (.int x :: st) w)
  ∧ (∀ (lv : Nat) (l : LX) (x : Int32) (w : AH), Ex M_X1_countSlips lv 42 l [.int x] w = some (some (.int x), w)) :=
  ⟨(fun lv l st w => Ex_A (i := .iconst 0) (n := 1) (by decide +kernel) rfl rfl),
   (fun lv l st x w => Ex_M (i := .istore_n 1) (n := 1) (by decide +kernel) rfl rfl rfl),
   (fun lv l st w => Ex_A (i := .iconst 0) (n := 1) (by decide +kernel) rfl rfl),
   (fun lv l st x w => Ex_M (i := .istore_n 2) (n := 1) (by decide +kernel) rfl rfl rfl),
   (fun lv l st w => Ex_A (i := .bipush 36) (n := 2) (by decide +kernel) rfl rfl),
   (fun lv l st x y w => Ex_icmp_ge (by decide +kernel : decode M_X1_countSlips.2.1 7 = .ok (.if_icmp .ge 34, 3)) rfl rfl),
   (fun lv st t x w => Ex_M (i := .aload_n 0) (n := 1) (by decide +kernel) rfl rfl rfl),
   (fun lv st t w => Ex_M (i := .aload_n 0) (n := 1) (by decide +kernel) rfl rfl rfl),
   (fun lv l st a w => Ex_getf (by decide +kernel : decode M_X1_countSlips.2.1 11 = .ok (.getfield 12, 3)) rfl (by decide +kernel : resF (mCn M_X1_countSlips) 12 = some (1, 0, (.object "CarpetLands$Carpet"), true))),
   (fun lv st t o0 o1 x w => Ex_M (i := .iload_n 2) (n := 1) (by decide +kernel) rfl rfl rfl),
   (fun lv l b a0 w => Ex_callV (by decide +kernel : decode M_X1_countSlips.2.1 15 = .ok (.invokevirtual 113, 3)) rfl (by rfl : resM (mCn M_X1_countSlips) 113 = some (2, M_X0_colourOf)) rfl (by rfl) (Nat.le_of_ble_eq_true rfl) (by decide +kernel) (sLv_lt (by decide +kernel))),
   (fun lv l st x w => Ex_M (i := .istore_n 3) (n := 1) (by decide +kernel) rfl rfl rfl),
   (fun lv st t o0 o1 o2 x w => Ex_M (i := .iload_n 3) (n := 1) (by decide +kernel) rfl rfl rfl),
   (fun lv l st x w => Ex_if_eq (by decide +kernel : decode M_X1_countSlips.2.1 20 = .ok (.ifCond .eq 15, 3)) rfl rfl),
   (fun lv st t o0 o1 o2 x w => Ex_M (i := .iload_n 3) (n := 1) (by decide +kernel) rfl rfl rfl),
   (fun lv st t x w => Ex_M (i := .aload_n 0) (n := 1) (by decide +kernel) rfl rfl rfl),
   (fun lv st t w => Ex_M (i := .aload_n 0) (n := 1) (by decide +kernel) rfl rfl rfl),
   (fun lv st t o0 o1 x w => Ex_M (i := .iload_n 2) (n := 1) (by decide +kernel) rfl rfl rfl),
   (fun lv l b a0 s0 w => Ex_callV (by decide +kernel : decode M_X1_countSlips.2.1 26 = .ok (.invokevirtual 123, 3)) rfl (by rfl : resM (mCn M_X1_countSlips) 123 = some (2, M_X1_patternOf)) rfl (by rfl) (Nat.le_of_ble_eq_true rfl) (by decide +kernel) (sLv_lt (by decide +kernel))),
   (fun lv l st x y w => Ex_icmp_eq (by decide +kernel : decode M_X1_countSlips.2.1 29 = .ok (.if_icmp .eq 6, 3)) rfl rfl),
   (fun lv st t o0 x w => Ex_iinc (by decide +kernel : decode M_X1_countSlips.2.1 32 = .ok (.iinc 1 1, 3)) rfl rfl (by decide) (by decide)),
   (fun lv st t o0 o1 x w => Ex_iinc (by decide +kernel : decode M_X1_countSlips.2.1 35 = .ok (.iinc 2 1, 3)) rfl rfl (by decide) (by decide)),
   (fun lv l st w => Ex_goto (by decide +kernel : decode M_X1_countSlips.2.1 38 = .ok (.goto (-34), 3)) rfl),
   (fun lv st t o0 x w => Ex_M (i := .iload_n 1) (n := 1) (by decide +kernel) rfl rfl rfl),
   (fun lv l x w => Ex_R (i := .ireturn) (n := 1) (by decide +kernel) rfl rfl rfl rfl rfl)⟩
set_option maxRecDepth 20000 in
theorem H_X1_countMends_4 : ∀ (lv : Nat) (st : List Value) (t : LX) (o0 o1 o2 : Option Value) (x : Int32) (w : AH), Ex M_X1_countMends lv 4 (o0 :: o1 :: o2 :: some (.int x) :: t) st w = Ex M_X1_countMends lv 5 (o0 :: o1 :: o2 :: some (.int x) :: t) (.int x :: st) w := fun lv st t o0 o1 o2 x w => Ex_M (i := .iload_n 3) (n := 1) (by decide +kernel) rfl rfl rfl
set_option maxRecDepth 20000 in
set_option maxHeartbeats 4000000 in
theorem R_X1_countMends : (∀ (lv : Nat) (l : LX) (st : List Value) (w : AH), Ex M_X1_countMends lv 0 l st w = Ex M_X1_countMends lv 1 l (.int 0 :: st) w)
  ∧ (∀ (lv : Nat) (l : LX) (st : List Value) (x : Int32) (w : AH), Ex M_X1_countMends lv 1 l (.int x :: st) w = Ex M_X1_countMends lv 2 (ls1 l 2 (.int x)) st w)
  ∧ (∀ (lv : Nat) (l : LX) (st : List Value) (w : AH), Ex M_X1_countMends lv 2 l st w = Ex M_X1_countMends lv 3 l (.int 0 :: st) w)
  ∧ (∀ (lv : Nat) (l : LX) (st : List Value) (x : Int32) (w : AH), Ex M_X1_countMends lv 3 l (.int x :: st) w = Ex M_X1_countMends lv 4 (ls1 l 3 (.int x)) st w)
  ∧ (∀ (lv : Nat) (l : LX) (st : List Value) (w : AH), Ex M_X1_countMends lv 5 l st w = Ex M_X1_countMends lv 7 l (.int 36 :: st) w)
  ∧ (∀ (lv : Nat) (l : LX) (st : List Value) (x y : Int32) (w : AH), Ex M_X1_countMends lv 7 l (.int y :: .int x :: st) w = if y ≤ x then Ex M_X1_countMends lv 39 l st w else Ex M_X1_countMends lv 10 l st w)
  ∧ (∀ (lv : Nat) (st : List Value) (t : LX) (x : Nat) (w : AH), Ex M_X1_countMends lv 10 (some (.ref x) :: t) st w = Ex M_X1_countMends lv 11 (some (.ref x) :: t) (.ref x :: st) w)
  ∧ (∀ (lv : Nat) (st : List Value) (t : LX) (w : AH), Ex M_X1_countMends lv 10 (some (.null) :: t) st w = Ex M_X1_countMends lv 11 (some (.null) :: t) (.null :: st) w)
  ∧ (∀ (lv : Nat) (l : LX) (st : List Value) (a : Nat) (w : AH), Ex M_X1_countMends lv 11 l (.ref a :: st) w = if (gf (hg w a) 1 0).isSome = true then Ex M_X1_countMends lv 14 l (vV (gf (hg w a) 1 0) :: st) w else none)
  ∧ (∀ (lv : Nat) (st : List Value) (t : LX) (o0 o1 o2 : Option Value) (x : Int32) (w : AH), Ex M_X1_countMends lv 14 (o0 :: o1 :: o2 :: some (.int x) :: t) st w = Ex M_X1_countMends lv 15 (o0 :: o1 :: o2 :: some (.int x) :: t) (.int x :: st) w)
  ∧ (∀ (lv : Nat) (l : LX) (b : Nat) (a0 : Int32) (w : AH), Ex M_X1_countMends lv 15 l (.int a0 :: .ref b :: []) w = if clK (hg w b) = 0 then (if (Call M_X0_colourOf 60 [.ref b, .int a0] w).isSome = true then Ex M_X1_countMends lv 18 l (pushR (cV (Call M_X0_colourOf 60 [.ref b, .int a0] w)) []) (cW (Call M_X0_colourOf 60 [.ref b, .int a0] w) w) else none) else none)
  ∧ (∀ (lv : Nat) (l : LX) (st : List Value) (x : Int32) (w : AH), Ex M_X1_countMends lv 18 l (.int x :: st) w = if ¬ x = 0 then Ex M_X1_countMends lv 33 l st w else Ex M_X1_countMends lv 21 l st w)
  ∧ (∀ (lv : Nat) (st : List Value) (t : LX) (x : Nat) (w : AH), Ex M_X1_countMends lv 21 (some (.ref x) :: t) st w = Ex M_X1_countMends lv 22 (some (.ref x) :: t) (.ref x :: st) w)
  ∧ (∀ (lv : Nat) (st : List Value) (t : LX) (w : AH), Ex M_X1_countMends lv 21 (some (.null) :: t) st w = Ex M_X1_countMends lv 22 (some (.null) :: t) (.null :: st) w)
  ∧ (∀ (lv : Nat) (st : List Value) (t : LX) (o0 o1 o2 : Option Value) (x : Int32) (w : AH), Ex M_X1_countMends lv 22 (o0 :: o1 :: o2 :: some (.int x) :: t) st w = Ex M_X1_countMends lv 23 (o0 :: o1 :: o2 :: some (.int x) :: t) (.int x :: st) w)
  ∧ (∀ (lv : Nat) (l : LX) (b : Nat) (a0 : Int32) (w : AH), Ex M_X1_countMends lv 23 l (.int a0 :: .ref b :: []) w = if clK (hg w b) = 1 then (if (Call M_X1_patternOf 60 [.ref b, .int a0] w).isSome = true then Ex M_X1_countMends lv 26 l (pushR (cV (Call M_X1_patternOf 60 [.ref b, .int a0] w)) []) (cW (Call M_X1_patternOf 60 [.ref b, .int a0] w) w) else none) else none)
  ∧ (∀ (lv : Nat) (st : List Value) (t : LX) (o0 : Option Value) (x : Int32) (w : AH), Ex M_X1_countMends lv 26 (o0 :: some (.int x) :: t) st w = Ex M_X1_countMends lv 27 (o0 :: some (.int x) :: t) (.int x :: st) w)
  ∧ (∀ (lv : Nat) (l : LX) (st : List Value) (x y : Int32) (w : AH), Ex M_X1_countMends lv 27 l (.int y :: .int x :: st) w = if ¬ x = y then Ex M_X1_countMends lv 33 l st w else Ex M_X1_countMends lv 30 l st w)
  ∧ (∀ (lv : Nat) (st : List Value) (t : LX) (o0 o1 : Option Value) (x : Int32) (w : AH), Ex M_X1_countMends lv 30 (o0 :: o1 :: some (.int x) :: t) st w = Ex M_X1_countMends lv 33 (ls1 (o0 :: o1 :: some (.int x) :: t) 2 (.int (x + 1))) st w)
  ∧ (∀ (lv : Nat) (st : List Value) (t : LX) (o0 o1 o2 : Option Value) (x : Int32) (w : AH), Ex M_X1_countMends lv 33 (o0 :: o1 :: o2 :: some (.int x) :: t) st w = Ex M_X1_countMends lv 36 (ls1 (o0 :: o1 :: o2 :: some (.int x) :: t) 3 (.int (x + 1))) st w)
  ∧ (∀ (lv : Nat) (l : LX) (st : List Value) (w : AH), Ex M_X1_countMends lv 36 l st w = Ex M_X1_countMends lv 4 l st w)
  ∧ (∀ (lv : Nat) (st : List Value) (t : LX) (o0 o1 : Option Value) (x : Int32) (w : AH), Ex M_X1_countMends lv 39 (o0 :: o1 :: some (.int x) :: t) st w = Ex M_X1_countMends lv 40 (o0 :: o1 :: some (.int x) :: t) (.int x :: st) w)
  ∧ (∀ (lv : Nat) (l : LX) (x : Int32) (w : AH), Ex M_X1_countMends lv 40 l [.int x] w = some (some (.int x), w)) :=
  ⟨(fun lv l st w => Ex_A (i := .iconst 0) (n := 1) (by decide +kernel) rfl rfl),
   (fun lv l st x w => Ex_M (i := .istore_n 2) (n := 1) (by decide +kernel) rfl rfl rfl),
   (fun lv l st w => Ex_A (i := .iconst 0) (n := 1) (by decide +kernel) rfl rfl),
   (fun lv l st x w => Ex_M (i := .istore_n 3) (n := 1) (by decide +kernel) rfl rfl rfl),
   (fun lv l st w => Ex_A (i := .bipush 36) (n := 2) (by decide +kernel) rfl rfl),
   (fun lv l st x y w => Ex_icmp_ge (by decide +kernel : decode M_X1_countMends.2.1 7 = .ok (.if_icmp .ge 32, 3)) rfl rfl),
   (fun lv st t x w => Ex_M (i := .aload_n 0) (n := 1) (by decide +kernel) rfl rfl rfl),
   (fun lv st t w => Ex_M (i := .aload_n 0) (n := 1) (by decide +kernel) rfl rfl rfl),
   (fun lv l st a w => Ex_getf (by decide +kernel : decode M_X1_countMends.2.1 11 = .ok (.getfield 12, 3)) rfl (by decide +kernel : resF (mCn M_X1_countMends) 12 = some (1, 0, (.object "CarpetLands$Carpet"), true))),
   (fun lv st t o0 o1 o2 x w => Ex_M (i := .iload_n 3) (n := 1) (by decide +kernel) rfl rfl rfl),
   (fun lv l b a0 w => Ex_callV (by decide +kernel : decode M_X1_countMends.2.1 15 = .ok (.invokevirtual 113, 3)) rfl (by rfl : resM (mCn M_X1_countMends) 113 = some (2, M_X0_colourOf)) rfl (by rfl) (Nat.le_of_ble_eq_true rfl) (by decide +kernel) (sLv_lt (by decide +kernel))),
   (fun lv l st x w => Ex_if_ne (by decide +kernel : decode M_X1_countMends.2.1 18 = .ok (.ifCond .ne 15, 3)) rfl rfl),
   (fun lv st t x w => Ex_M (i := .aload_n 0) (n := 1) (by decide +kernel) rfl rfl rfl),
   (fun lv st t w => Ex_M (i := .aload_n 0) (n := 1) (by decide +kernel) rfl rfl rfl),
   (fun lv st t o0 o1 o2 x w => Ex_M (i := .iload_n 3) (n := 1) (by decide +kernel) rfl rfl rfl),
   (fun lv l b a0 w => Ex_callV (by decide +kernel : decode M_X1_countMends.2.1 23 = .ok (.invokevirtual 123, 3)) rfl (by rfl : resM (mCn M_X1_countMends) 123 = some (2, M_X1_patternOf)) rfl (by rfl) (Nat.le_of_ble_eq_true rfl) (by decide +kernel) (sLv_lt (by decide +kernel))),
   (fun lv st t o0 x w => Ex_M (i := .iload_n 1) (n := 1) (by decide +kernel) rfl rfl rfl),
   (fun lv l st x y w => Ex_icmp_ne (by decide +kernel : decode M_X1_countMends.2.1 27 = .ok (.if_icmp .ne 6, 3)) rfl rfl),
   (fun lv st t o0 o1 x w => Ex_iinc (by decide +kernel : decode M_X1_countMends.2.1 30 = .ok (.iinc 2 1, 3)) rfl rfl (by decide) (by decide)),
   (fun lv st t o0 o1 o2 x w => Ex_iinc (by decide +kernel : decode M_X1_countMends.2.1 33 = .ok (.iinc 3 1, 3)) rfl rfl (by decide) (by decide)),
   (fun lv l st w => Ex_goto (by decide +kernel : decode M_X1_countMends.2.1 36 = .ok (.goto (-32), 3)) rfl),
   (fun lv st t o0 o1 x w => Ex_M (i := .iload_n 2) (n := 1) (by decide +kernel) rfl rfl rfl),
   (fun lv l x w => Ex_R (i := .ireturn) (n := 1) (by decide +kernel) rfl rfl rfl rfl rfl)⟩
set_option maxRecDepth 20000 in
theorem H_X1_passDay_2 : ∀ (lv : Nat) (st : List Value) (t : LX) (o0 : Option Value) (x : Int32) (w : AH), Ex M_X1_passDay lv 2 (o0 :: some (.int x) :: t) st w = Ex M_X1_passDay lv 3 (o0 :: some (.int x) :: t) (.int x :: st) w := fun lv st t o0 x w => Ex_M (i := .iload_n 1) (n := 1) (by decide +kernel) rfl rfl rfl
set_option maxRecDepth 20000 in
set_option maxHeartbeats 4000000 in
theorem R_X1_passDay_p0 : (∀ (lv : Nat) (l : LX) (st : List Value) (w : AH), Ex M_X1_passDay lv 0 l st w = Ex M_X1_passDay lv 1 l (.int 0 :: st) w)
  ∧ (∀ (lv : Nat) (l : LX) (st : List Value) (x : Int32) (w : AH), Ex M_X1_passDay lv 1 l (.int x :: st) w = Ex M_X1_passDay lv 2 (ls1 l 1 (.int x)) st w)
  ∧ (∀ (lv : Nat) (st : List Value) (t : LX) (x : Nat) (w : AH), Ex M_X1_passDay lv 3 (some (.ref x) :: t) st w = Ex M_X1_passDay lv 4 (some (.ref x) :: t) (.ref x :: st) w)
  ∧ (∀ (lv : Nat) (st : List Value) (t : LX) (w : AH), Ex M_X1_passDay lv 3 (some (.null) :: t) st w = Ex M_X1_passDay lv 4 (some (.null) :: t) (.null :: st) w)
  ∧ (∀ (lv : Nat) (l : LX) (st : List Value) (a : Nat) (w : AH), Ex M_X1_passDay lv 4 l (.ref a :: st) w = if (gf (hg w a) 1 6).isSome = true then Ex M_X1_passDay lv 7 l (vV (gf (hg w a) 1 6) :: st) w else none)
  ∧ (∀ (lv : Nat) (l : LX) (st : List Value) (x y : Int32) (w : AH), Ex M_X1_passDay lv 7 l (.int y :: .int x :: st) w = if y ≤ x then Ex M_X1_passDay lv 90 l st w else Ex M_X1_passDay lv 10 l st w)
  ∧ (∀ (lv : Nat) (st : List Value) (t : LX) (o0 : Option Value) (x : Int32) (w : AH), Ex M_X1_passDay lv 10 (o0 :: some (.int x) :: t) st w = Ex M_X1_passDay lv 11 (o0 :: some (.int x) :: t) (.int x :: st) w)
  ∧ (∀ (lv : Nat) (l : LX) (st : List Value) (w : AH), Ex M_X1_passDay lv 11 l st w = Ex M_X1_passDay lv 12 l (.int 5 :: st) w)
  ∧ (∀ (lv : Nat) (l : LX) (st : List Value) (x y : Int32) (w : AH), Ex M_X1_passDay lv 12 l (.int y :: .int x :: st) w = if y ≤ x then Ex M_X1_passDay lv 90 l st w else Ex M_X1_passDay lv 15 l st w)
  ∧ (∀ (lv : Nat) (st : List Value) (t : LX) (x : Nat) (w : AH), Ex M_X1_passDay lv 15 (some (.ref x) :: t) st w = Ex M_X1_passDay lv 16 (some (.ref x) :: t) (.ref x :: st) w)
  ∧ (∀ (lv : Nat) (st : List Value) (t : LX) (w : AH), Ex M_X1_passDay lv 15 (some (.null) :: t) st w = Ex M_X1_passDay lv 16 (some (.null) :: t) (.null :: st) w)
  ∧ (∀ (lv : Nat) (l : LX) (st : List Value) (a : Nat) (w : AH), Ex M_X1_passDay lv 16 l (.ref a :: st) w = if (gf (hg w a) 1 1).isSome = true then Ex M_X1_passDay lv 19 l (vV (gf (hg w a) 1 1) :: st) w else none)
  ∧ (∀ (lv : Nat) (st : List Value) (t : LX) (o0 : Option Value) (x : Int32) (w : AH), Ex M_X1_passDay lv 19 (o0 :: some (.int x) :: t) st w = Ex M_X1_passDay lv 20 (o0 :: some (.int x) :: t) (.int x :: st) w)
  ∧ (∀ (lv : Nat) (l : LX) (st : List Value) (a : Nat) (i : Int32) (w : AH), Ex M_X1_passDay lv 20 l (.int i :: .ref a :: st) w = if (aQ (hg w a) i).isSome = true then Ex M_X1_passDay lv 21 l (vV (aQ (hg w a) i) :: st) w else none)
  ∧ (∀ (lv : Nat) (l : LX) (st : List Value) (x : Nat) (w : AH), Ex M_X1_passDay lv 21 l (.ref x :: st) w = Ex M_X1_passDay lv 22 (ls1 l 2 (.ref x)) st w)
  ∧ (∀ (lv : Nat) (l : LX) (st : List Value) (w : AH), Ex M_X1_passDay lv 21 l (.null :: st) w = Ex M_X1_passDay lv 22 (ls1 l 2 (.null)) st w)
  ∧ (∀ (lv : Nat) (st : List Value) (t : LX) (o0 o1 : Option Value) (x : Nat) (w : AH), Ex M_X1_passDay lv 22 (o0 :: o1 :: some (.ref x) :: t) st w = Ex M_X1_passDay lv 23 (o0 :: o1 :: some (.ref x) :: t) (.ref x :: st) w)
  ∧ (∀ (lv : Nat) (st : List Value) (t : LX) (o0 o1 : Option Value) (w : AH), Ex M_X1_passDay lv 22 (o0 :: o1 :: some (.null) :: t) st w = Ex M_X1_passDay lv 23 (o0 :: o1 :: some (.null) :: t) (.null :: st) w)
  ∧ (∀ (lv : Nat) (st : List Value) (t : LX) (x : Nat) (w : AH), Ex M_X1_passDay lv 23 (some (.ref x) :: t) st w = Ex M_X1_passDay lv 24 (some (.ref x) :: t) (.ref x :: st) w)
  ∧ (∀ (lv : Nat) (st : List Value) (t : LX) (w : AH), Ex M_X1_passDay lv 23 (some (.null) :: t) st w = Ex M_X1_passDay lv 24 (some (.null) :: t) (.null :: st) w)
  ∧ (∀ (lv : Nat) (l : LX) (st : List Value) (a : Nat) (w : AH), Ex M_X1_passDay lv 24 l (.ref a :: st) w = if (gf (hg w a) 1 0).isSome = true then Ex M_X1_passDay lv 27 l (vV (gf (hg w a) 1 0) :: st) w else none)
  ∧ (∀ (lv : Nat) (st : List Value) (t : LX) (x : Nat) (w : AH), Ex M_X1_passDay lv 27 (some (.ref x) :: t) st w = Ex M_X1_passDay lv 28 (some (.ref x) :: t) (.ref x :: st) w)
  ∧ (∀ (lv : Nat) (st : List Value) (t : LX) (w : AH), Ex M_X1_passDay lv 27 (some (.null) :: t) st w = Ex M_X1_passDay lv 28 (some (.null) :: t) (.null :: st) w)
  ∧ (∀ (lv : Nat) (l : LX) (st : List Value) (a : Nat) (w : AH), Ex M_X1_passDay lv 28 l (.ref a :: st) w = if (gf (hg w a) 1 7).isSome = true then Ex M_X1_passDay lv 31 l (vV (gf (hg w a) 1 7) :: st) w else none)
  ∧ (∀ (lv : Nat) (l : LX) (b : Nat) (a0 : Nat) (a1 : Int32) (w : AH), Ex M_X1_passDay lv 31 l (.int a1 :: .ref a0 :: .ref b :: []) w = if clK (hg w b) = 9 then (if (Call M_X10_step 60 [.ref b, .ref a0, .int a1] w).isSome = true then Ex M_X1_passDay lv 34 l (pushR (cV (Call M_X10_step 60 [.ref b, .ref a0, .int a1] w)) []) (cW (Call M_X10_step 60 [.ref b, .ref a0, .int a1] w) w) else none) else none)
  ∧ (∀ (lv : Nat) (st : List Value) (t : LX) (x : Nat) (w : AH), Ex M_X1_passDay lv 34 (some (.ref x) :: t) st w = Ex M_X1_passDay lv 35 (some (.ref x) :: t) (.ref x :: st) w)
  ∧ (∀ (lv : Nat) (st : List Value) (t : LX) (w : AH), Ex M_X1_passDay lv 34 (some (.null) :: t) st w = Ex M_X1_passDay lv 35 (some (.null) :: t) (.null :: st) w)
  ∧ (∀ (lv : Nat) (l : LX) (st : List Value) (a : Nat) (w : AH), Ex M_X1_passDay lv 35 l (.ref a :: st) w = if (gf (hg w a) 1 0).isSome = true then Ex M_X1_passDay lv 38 l (vV (gf (hg w a) 1 0) :: st) w else none)
  ∧ (∀ (lv : Nat) (st : List Value) (t : LX) (o0 o1 : Option Value) (x : Nat) (w : AH), Ex M_X1_passDay lv 38 (o0 :: o1 :: some (.ref x) :: t) st w = Ex M_X1_passDay lv 39 (o0 :: o1 :: some (.ref x) :: t) (.ref x :: st) w)
  ∧ (∀ (lv : Nat) (st : List Value) (t : LX) (o0 o1 : Option Value) (w : AH), Ex M_X1_passDay lv 38 (o0 :: o1 :: some (.null) :: t) st w = Ex M_X1_passDay lv 39 (o0 :: o1 :: some (.null) :: t) (.null :: st) w)
  ∧ (∀ (lv : Nat) (l : LX) (st : List Value) (a : Nat) (w : AH), Ex M_X1_passDay lv 39 l (.ref a :: st) w = if (gf (hg w a) 9 2).isSome = true then Ex M_X1_passDay lv 42 l (vV (gf (hg w a) 9 2) :: st) w else none)
  ∧ (∀ (lv : Nat) (st : List Value) (t : LX) (x : Nat) (w : AH), Ex M_X1_passDay lv 42 (some (.ref x) :: t) st w = Ex M_X1_passDay lv 43 (some (.ref x) :: t) (.ref x :: st) w)
  ∧ (∀ (lv : Nat) (st : List Value) (t : LX) (w : AH), Ex M_X1_passDay lv 42 (some (.null) :: t) st w = Ex M_X1_passDay lv 43 (some (.null) :: t) (.null :: st) w)
  ∧ (∀ (lv : Nat) (l : LX) (st : List Value) (a : Nat) (w : AH), Ex M_X1_passDay lv 43 l (.ref a :: st) w = if (gf (hg w a) 1 0).isSome = true then Ex M_X1_passDay lv 46 l (vV (gf (hg w a) 1 0) :: st) w else none)
  ∧ (∀ (lv : Nat) (st : List Value) (t : LX) (o0 o1 : Option Value) (x : Nat) (w : AH), Ex M_X1_passDay lv 46 (o0 :: o1 :: some (.ref x) :: t) st w = Ex M_X1_passDay lv 47 (o0 :: o1 :: some (.ref x) :: t) (.ref x :: st) w)
  ∧ (∀ (lv : Nat) (st : List Value) (t : LX) (o0 o1 : Option Value) (w : AH), Ex M_X1_passDay lv 46 (o0 :: o1 :: some (.null) :: t) st w = Ex M_X1_passDay lv 47 (o0 :: o1 :: some (.null) :: t) (.null :: st) w)
  ∧ (∀ (lv : Nat) (l : LX) (st : List Value) (a : Nat) (w : AH), Ex M_X1_passDay lv 47 l (.ref a :: st) w = if (gf (hg w a) 9 2).isSome = true then Ex M_X1_passDay lv 50 l (vV (gf (hg w a) 9 2) :: st) w else none)
  ∧ (∀ (lv : Nat) (l : LX) (b : Nat) (a0 : Int32) (s0 : Int32) (s1 : Nat) (w : AH), Ex M_X1_passDay lv 50 l (.int a0 :: .ref b :: [.int s0, .ref s1]) w = if clK (hg w b) = 0 then (if (Call M_X0_wearOf 60 [.ref b, .int a0] w).isSome = true then Ex M_X1_passDay lv 53 l (pushR (cV (Call M_X0_wearOf 60 [.ref b, .int a0] w)) [.int s0, .ref s1]) (cW (Call M_X0_wearOf 60 [.ref b, .int a0] w) w) else none) else none)
  ∧ (∀ (lv : Nat) (st : List Value) (t : LX) (o0 o1 : Option Value) (x : Nat) (w : AH), Ex M_X1_passDay lv 53 (o0 :: o1 :: some (.ref x) :: t) st w = Ex M_X1_passDay lv 54 (o0 :: o1 :: some (.ref x) :: t) (.ref x :: st) w)
  ∧ (∀ (lv : Nat) (st : List Value) (t : LX) (o0 o1 : Option Value) (w : AH), Ex M_X1_passDay lv 53 (o0 :: o1 :: some (.null) :: t) st w = Ex M_X1_passDay lv 54 (o0 :: o1 :: some (.null) :: t) (.null :: st) w)
  ∧ (∀ (lv : Nat) (l : LX) (b : Nat) (s0 : Int32) (s1 : Int32) (s2 : Nat) (w : AH), Ex M_X1_passDay lv 54 l (.ref b :: [.int s0, .int s1, .ref s2]) w = if clK (hg w b) = 9 then (if (Call M_X10_wearing 60 [.ref b] w).isSome = true then Ex M_X1_passDay lv 57 l (pushR (cV (Call M_X10_wearing 60 [.ref b] w)) [.int s0, .int s1, .ref s2]) (cW (Call M_X10_wearing 60 [.ref b] w) w) else none) else none)
  ∧ (∀ (lv : Nat) (l : LX) (st : List Value) (x y : Int32) (w : AH), Ex M_X1_passDay lv 57 l (.int y :: .int x :: st) w = Ex M_X1_passDay lv 58 l (.int (x + y) :: st) w)
  ∧ (∀ (lv : Nat) (l : LX) (b : Nat) (a0 : Int32) (a1 : Int32) (w : AH), Ex M_X1_passDay lv 58 l (.int a1 :: .int a0 :: .ref b :: []) w = if clK (hg w b) = 0 then (if (Call M_X0_setWear 60 [.ref b, .int a0, .int a1] w).isSome = true then Ex M_X1_passDay lv 61 l (pushR (cV (Call M_X0_setWear 60 [.ref b, .int a0, .int a1] w)) []) (cW (Call M_X0_setWear 60 [.ref b, .int a0, .int a1] w) w) else none) else none)
  ∧ (∀ (lv : Nat) (st : List Value) (t : LX) (o0 o1 : Option Value) (x : Nat) (w : AH), Ex M_X1_passDay lv 61 (o0 :: o1 :: some (.ref x) :: t) st w = Ex M_X1_passDay lv 62 (o0 :: o1 :: some (.ref x) :: t) (.ref x :: st) w)
  ∧ (∀ (lv : Nat) (st : List Value) (t : LX) (o0 o1 : Option Value) (w : AH), Ex M_X1_passDay lv 61 (o0 :: o1 :: some (.null) :: t) st w = Ex M_X1_passDay lv 62 (o0 :: o1 :: some (.null) :: t) (.null :: st) w)
  ∧ (∀ (lv : Nat) (st : List Value) (t : LX) (x : Nat) (w : AH), Ex M_X1_passDay lv 62 (some (.ref x) :: t) st w = Ex M_X1_passDay lv 63 (some (.ref x) :: t) (.ref x :: st) w)
  ∧ (∀ (lv : Nat) (st : List Value) (t : LX) (w : AH), Ex M_X1_passDay lv 62 (some (.null) :: t) st w = Ex M_X1_passDay lv 63 (some (.null) :: t) (.null :: st) w)
  ∧ (∀ (lv : Nat) (l : LX) (st : List Value) (a : Nat) (w : AH), Ex M_X1_passDay lv 63 l (.ref a :: st) w = if (gf (hg w a) 1 0).isSome = true then Ex M_X1_passDay lv 66 l (vV (gf (hg w a) 1 0) :: st) w else none)
  ∧ (∀ (lv : Nat) (l : LX) (b : Nat) (a0 : Nat) (w : AH), Ex M_X1_passDay lv 66 l (.ref a0 :: .ref b :: []) w = if clK (hg w b) = 9 then (if (Call M_X10_wouldEat 60 [.ref b, .ref a0] w).isSome = true then Ex M_X1_passDay lv 69 l (pushR (cV (Call M_X10_wouldEat 60 [.ref b, .ref a0] w)) []) (cW (Call M_X10_wouldEat 60 [.ref b, .ref a0] w) w) else none) else none)
  ∧ (∀ (lv : Nat) (l : LX) (st : List Value) (x : Int32) (w : AH), Ex M_X1_passDay lv 69 l (.int x :: st) w = if x = 0 then Ex M_X1_passDay lv 84 l st w else Ex M_X1_passDay lv 72 l st w)
  ∧ (∀ (lv : Nat) (st : List Value) (t : LX) (x : Nat) (w : AH), Ex M_X1_passDay lv 72 (some (.ref x) :: t) st w = Ex M_X1_passDay lv 73 (some (.ref x) :: t) (.ref x :: st) w)
  ∧ (∀ (lv : Nat) (st : List Value) (t : LX) (w : AH), Ex M_X1_passDay lv 72 (some (.null) :: t) st w = Ex M_X1_passDay lv 73 (some (.null) :: t) (.null :: st) w)
  ∧ (∀ (lv : Nat) (l : LX) (st : List Value) (a : Nat) (w : AH), Ex M_X1_passDay lv 73 l (.ref a :: st) w = if (gf (hg w a) 1 0).isSome = true then Ex M_X1_passDay lv 76 l (vV (gf (hg w a) 1 0) :: st) w else none)
  ∧ (∀ (lv : Nat) (st : List Value) (t : LX) (o0 o1 : Option Value) (x : Nat) (w : AH), Ex M_X1_passDay lv 76 (o0 :: o1 :: some (.ref x) :: t) st w = Ex M_X1_passDay lv 77 (o0 :: o1 :: some (.ref x) :: t) (.ref x :: st) w)
  ∧ (∀ (lv : Nat) (st : List Value) (t : LX) (o0 o1 : Option Value) (w : AH), Ex M_X1_passDay lv 76 (o0 :: o1 :: some (.null) :: t) st w = Ex M_X1_passDay lv 77 (o0 :: o1 :: some (.null) :: t) (.null :: st) w)
  ∧ (∀ (lv : Nat) (l : LX) (st : List Value) (a : Nat) (w : AH), Ex M_X1_passDay lv 77 l (.ref a :: st) w = if (gf (hg w a) 9 2).isSome = true then Ex M_X1_passDay lv 80 l (vV (gf (hg w a) 9 2) :: st) w else none)
  ∧ (∀ (lv : Nat) (l : LX) (st : List Value) (w : AH), Ex M_X1_passDay lv 80 l st w = Ex M_X1_passDay lv 81 l (.int 0 :: st) w)
  ∧ (∀ (lv : Nat) (l : LX) (b : Nat) (a0 : Int32) (a1 : Int32) (w : AH), Ex M_X1_passDay lv 81 l (.int a1 :: .int a0 :: .ref b :: []) w = if clK (hg w b) = 0 then (if (Call M_X0_setColour 60 [.ref b, .int a0, .int a1] w).isSome = true then Ex M_X1_passDay lv 84 l (pushR (cV (Call M_X0_setColour 60 [.ref b, .int a0, .int a1] w)) []) (cW (Call M_X0_setColour 60 [.ref b, .int a0, .int a1] w) w) else none) else none)
  ∧ (∀ (lv : Nat) (st : List Value) (t : LX) (o0 : Option Value) (x : Int32) (w : AH), Ex M_X1_passDay lv 84 (o0 :: some (.int x) :: t) st w = Ex M_X1_passDay lv 87 (ls1 (o0 :: some (.int x) :: t) 1 (.int (x + 1))) st w)
  ∧ (∀ (lv : Nat) (l : LX) (st : List Value) (w : AH), Ex M_X1_passDay lv 87 l st w = Ex M_X1_passDay lv 2 l st w) :=
  ⟨(fun lv l st w => Ex_A (i := .iconst 0) (n := 1) (by decide +kernel) rfl rfl),
   (fun lv l st x w => Ex_M (i := .istore_n 1) (n := 1) (by decide +kernel) rfl rfl rfl),
   (fun lv st t x w => Ex_M (i := .aload_n 0) (n := 1) (by decide +kernel) rfl rfl rfl),
   (fun lv st t w => Ex_M (i := .aload_n 0) (n := 1) (by decide +kernel) rfl rfl rfl),
   (fun lv l st a w => Ex_getf (by decide +kernel : decode M_X1_passDay.2.1 4 = .ok (.getfield 46, 3)) rfl (by decide +kernel : resF (mCn M_X1_passDay) 46 = some (1, 6, .int, false))),
   (fun lv l st x y w => Ex_icmp_ge (by decide +kernel : decode M_X1_passDay.2.1 7 = .ok (.if_icmp .ge 83, 3)) rfl rfl),
   (fun lv st t o0 x w => Ex_M (i := .iload_n 1) (n := 1) (by decide +kernel) rfl rfl rfl),
   (fun lv l st w => Ex_A (i := .iconst 5) (n := 1) (by decide +kernel) rfl rfl),
   (fun lv l st x y w => Ex_icmp_ge (by decide +kernel : decode M_X1_passDay.2.1 12 = .ok (.if_icmp .ge 78, 3)) rfl rfl),
   (fun lv st t x w => Ex_M (i := .aload_n 0) (n := 1) (by decide +kernel) rfl rfl rfl),
   (fun lv st t w => Ex_M (i := .aload_n 0) (n := 1) (by decide +kernel) rfl rfl rfl),
   (fun lv l st a w => Ex_getf (by decide +kernel : decode M_X1_passDay.2.1 16 = .ok (.getfield 20, 3)) rfl (by decide +kernel : resF (mCn M_X1_passDay) 20 = some (1, 1, (.array (.object "CarpetLands$Walker")), true))),
   (fun lv st t o0 x w => Ex_M (i := .iload_n 1) (n := 1) (by decide +kernel) rfl rfl rfl),
   (fun lv l st a i w => Ex_aal (by decide +kernel : decode M_X1_passDay.2.1 20 = .ok (.aaload, 1)) rfl),
   (fun lv l st x w => Ex_M (i := .astore_n 2) (n := 1) (by decide +kernel) rfl rfl rfl),
   (fun lv l st w => Ex_M (i := .astore_n 2) (n := 1) (by decide +kernel) rfl rfl rfl),
   (fun lv st t o0 o1 x w => Ex_M (i := .aload_n 2) (n := 1) (by decide +kernel) rfl rfl rfl),
   (fun lv st t o0 o1 w => Ex_M (i := .aload_n 2) (n := 1) (by decide +kernel) rfl rfl rfl),
   (fun lv st t x w => Ex_M (i := .aload_n 0) (n := 1) (by decide +kernel) rfl rfl rfl),
   (fun lv st t w => Ex_M (i := .aload_n 0) (n := 1) (by decide +kernel) rfl rfl rfl),
   (fun lv l st a w => Ex_getf (by decide +kernel : decode M_X1_passDay.2.1 24 = .ok (.getfield 12, 3)) rfl (by decide +kernel : resF (mCn M_X1_passDay) 12 = some (1, 0, (.object "CarpetLands$Carpet"), true))),
   (fun lv st t x w => Ex_M (i := .aload_n 0) (n := 1) (by decide +kernel) rfl rfl rfl),
   (fun lv st t w => Ex_M (i := .aload_n 0) (n := 1) (by decide +kernel) rfl rfl rfl),
   (fun lv l st a w => Ex_getf (by decide +kernel : decode M_X1_passDay.2.1 28 = .ok (.getfield 50, 3)) rfl (by decide +kernel : resF (mCn M_X1_passDay) 50 = some (1, 7, .int, false))),
   (fun lv l b a0 a1 w => Ex_callV (by decide +kernel : decode M_X1_passDay.2.1 31 = .ok (.invokevirtual 126, 3)) rfl (by rfl : resM (mCn M_X1_passDay) 126 = some (2, M_X10_step)) rfl (by rfl) (Nat.le_of_ble_eq_true rfl) (by decide +kernel) (sLv_lt (by decide +kernel))),
   (fun lv st t x w => Ex_M (i := .aload_n 0) (n := 1) (by decide +kernel) rfl rfl rfl),
   (fun lv st t w => Ex_M (i := .aload_n 0) (n := 1) (by decide +kernel) rfl rfl rfl),
   (fun lv l st a w => Ex_getf (by decide +kernel : decode M_X1_passDay.2.1 35 = .ok (.getfield 12, 3)) rfl (by decide +kernel : resF (mCn M_X1_passDay) 12 = some (1, 0, (.object "CarpetLands$Carpet"), true))),
   (fun lv st t o0 o1 x w => Ex_M (i := .aload_n 2) (n := 1) (by decide +kernel) rfl rfl rfl),
   (fun lv st t o0 o1 w => Ex_M (i := .aload_n 2) (n := 1) (by decide +kernel) rfl rfl rfl),
   (fun lv l st a w => Ex_getf (by decide +kernel : decode M_X1_passDay.2.1 39 = .ok (.getfield 83, 3)) rfl (by decide +kernel : resF (mCn M_X1_passDay) 83 = some (9, 2, .int, false))),
   (fun lv st t x w => Ex_M (i := .aload_n 0) (n := 1) (by decide +kernel) rfl rfl rfl),
   (fun lv st t w => Ex_M (i := .aload_n 0) (n := 1) (by decide +kernel) rfl rfl rfl),
   (fun lv l st a w => Ex_getf (by decide +kernel : decode M_X1_passDay.2.1 43 = .ok (.getfield 12, 3)) rfl (by decide +kernel : resF (mCn M_X1_passDay) 12 = some (1, 0, (.object "CarpetLands$Carpet"), true))),
   (fun lv st t o0 o1 x w => Ex_M (i := .aload_n 2) (n := 1) (by decide +kernel) rfl rfl rfl),
   (fun lv st t o0 o1 w => Ex_M (i := .aload_n 2) (n := 1) (by decide +kernel) rfl rfl rfl),
   (fun lv l st a w => Ex_getf (by decide +kernel : decode M_X1_passDay.2.1 47 = .ok (.getfield 83, 3)) rfl (by decide +kernel : resF (mCn M_X1_passDay) 83 = some (9, 2, .int, false))),
   (fun lv l b a0 s0 s1 w => Ex_callV (by decide +kernel : decode M_X1_passDay.2.1 50 = .ok (.invokevirtual 117, 3)) rfl (by rfl : resM (mCn M_X1_passDay) 117 = some (2, M_X0_wearOf)) rfl (by rfl) (Nat.le_of_ble_eq_true rfl) (by decide +kernel) (sLv_lt (by decide +kernel))),
   (fun lv st t o0 o1 x w => Ex_M (i := .aload_n 2) (n := 1) (by decide +kernel) rfl rfl rfl),
   (fun lv st t o0 o1 w => Ex_M (i := .aload_n 2) (n := 1) (by decide +kernel) rfl rfl rfl),
   (fun lv l b s0 s1 s2 w => Ex_callV (by decide +kernel : decode M_X1_passDay.2.1 54 = .ok (.invokevirtual 130, 3)) rfl (by rfl : resM (mCn M_X1_passDay) 130 = some (2, M_X10_wearing)) rfl (by rfl) (Nat.le_of_ble_eq_true rfl) (by decide +kernel) (sLv_lt (by decide +kernel))),
   (fun lv l st x y w => Ex_A (i := .iadd) (n := 1) (by decide +kernel) rfl rfl),
   (fun lv l b a0 a1 w => Ex_callV (by decide +kernel : decode M_X1_passDay.2.1 58 = .ok (.invokevirtual 134, 3)) rfl (by rfl : resM (mCn M_X1_passDay) 134 = some (2, M_X0_setWear)) rfl (by rfl) (Nat.le_of_ble_eq_true rfl) (by decide +kernel) (sLv_lt (by decide +kernel))),
   (fun lv st t o0 o1 x w => Ex_M (i := .aload_n 2) (n := 1) (by decide +kernel) rfl rfl rfl),
   (fun lv st t o0 o1 w => Ex_M (i := .aload_n 2) (n := 1) (by decide +kernel) rfl rfl rfl),
   (fun lv st t x w => Ex_M (i := .aload_n 0) (n := 1) (by decide +kernel) rfl rfl rfl),
   (fun lv st t w => Ex_M (i := .aload_n 0) (n := 1) (by decide +kernel) rfl rfl rfl),
   (fun lv l st a w => Ex_getf (by decide +kernel : decode M_X1_passDay.2.1 63 = .ok (.getfield 12, 3)) rfl (by decide +kernel : resF (mCn M_X1_passDay) 12 = some (1, 0, (.object "CarpetLands$Carpet"), true))),
   (fun lv l b a0 w => Ex_callV (by decide +kernel : decode M_X1_passDay.2.1 66 = .ok (.invokevirtual 138, 3)) rfl (by rfl : resM (mCn M_X1_passDay) 138 = some (2, M_X10_wouldEat)) rfl (by rfl) (Nat.le_of_ble_eq_true rfl) (by decide +kernel) (sLv_lt (by decide +kernel))),
   (fun lv l st x w => Ex_if_eq (by decide +kernel : decode M_X1_passDay.2.1 69 = .ok (.ifCond .eq 15, 3)) rfl rfl),
   (fun lv st t x w => Ex_M (i := .aload_n 0) (n := 1) (by decide +kernel) rfl rfl rfl),
   (fun lv st t w => Ex_M (i := .aload_n 0) (n := 1) (by decide +kernel) rfl rfl rfl),
   (fun lv l st a w => Ex_getf (by decide +kernel : decode M_X1_passDay.2.1 73 = .ok (.getfield 12, 3)) rfl (by decide +kernel : resF (mCn M_X1_passDay) 12 = some (1, 0, (.object "CarpetLands$Carpet"), true))),
   (fun lv st t o0 o1 x w => Ex_M (i := .aload_n 2) (n := 1) (by decide +kernel) rfl rfl rfl),
   (fun lv st t o0 o1 w => Ex_M (i := .aload_n 2) (n := 1) (by decide +kernel) rfl rfl rfl),
   (fun lv l st a w => Ex_getf (by decide +kernel : decode M_X1_passDay.2.1 77 = .ok (.getfield 83, 3)) rfl (by decide +kernel : resF (mCn M_X1_passDay) 83 = some (9, 2, .int, false))),
   (fun lv l st w => Ex_A (i := .iconst 0) (n := 1) (by decide +kernel) rfl rfl),
   (fun lv l b a0 a1 w => Ex_callV (by decide +kernel : decode M_X1_passDay.2.1 81 = .ok (.invokevirtual 142, 3)) rfl (by rfl : resM (mCn M_X1_passDay) 142 = some (2, M_X0_setColour)) rfl (by rfl) (Nat.le_of_ble_eq_true rfl) (by decide +kernel) (sLv_lt (by decide +kernel))),
   (fun lv st t o0 x w => Ex_iinc (by decide +kernel : decode M_X1_passDay.2.1 84 = .ok (.iinc 1 1, 3)) rfl rfl (by decide) (by decide)),
   (fun lv l st w => Ex_goto (by decide +kernel : decode M_X1_passDay.2.1 87 = .ok (.goto (-85), 3)) rfl)⟩
set_option maxRecDepth 20000 in
set_option maxHeartbeats 4000000 in
theorem R_X1_passDay_p1 : (∀ (lv : Nat) (st : List Value) (t : LX) (x : Nat) (w : AH), Ex M_X1_passDay lv 90 (some (.ref x) :: t) st w = Ex M_X1_passDay lv 91 (some (.ref x) :: t) (.ref x :: st) w)
  ∧ (∀ (lv : Nat) (st : List Value) (t : LX) (w : AH), Ex M_X1_passDay lv 90 (some (.null) :: t) st w = Ex M_X1_passDay lv 91 (some (.null) :: t) (.null :: st) w)
  ∧ (∀ (lv : Nat) (l : LX) (st : List Value) (x : Nat) (w : AH), Ex M_X1_passDay lv 91 l (.ref x :: st) w = Ex M_X1_passDay lv 92 l (.ref x :: .ref x :: st) w)
  ∧ (∀ (lv : Nat) (l : LX) (st : List Value) (a : Nat) (w : AH), Ex M_X1_passDay lv 92 l (.ref a :: st) w = if (gf (hg w a) 1 7).isSome = true then Ex M_X1_passDay lv 95 l (vV (gf (hg w a) 1 7) :: st) w else none)
  ∧ (∀ (lv : Nat) (l : LX) (st : List Value) (w : AH), Ex M_X1_passDay lv 95 l st w = Ex M_X1_passDay lv 96 l (.int 1 :: st) w)
  ∧ (∀ (lv : Nat) (l : LX) (st : List Value) (x y : Int32) (w : AH), Ex M_X1_passDay lv 96 l (.int y :: .int x :: st) w = Ex M_X1_passDay lv 97 l (.int (x + y) :: st) w)
  ∧ (∀ (lv : Nat) (l : LX) (st : List Value) (a : Nat) (v : Value) (w : AH), Ex M_X1_passDay lv 97 l (v :: .ref a :: st) w = if (pf (hg w a) 1 7 .int v).isSome = true then Ex M_X1_passDay lv 100 l st (hs w a (vE (pf (hg w a) 1 7 .int v))) else none)
  ∧ (∀ (lv : Nat) (l : LX) (w : AH), Ex M_X1_passDay lv 100 l [] w = some (none, w)) :=
  ⟨(fun lv st t x w => Ex_M (i := .aload_n 0) (n := 1) (by decide +kernel) rfl rfl rfl),
   (fun lv st t w => Ex_M (i := .aload_n 0) (n := 1) (by decide +kernel) rfl rfl rfl),
   (fun lv l st x w => Ex_A (i := .dup) (n := 1) (by decide +kernel) rfl rfl),
   (fun lv l st a w => Ex_getf (by decide +kernel : decode M_X1_passDay.2.1 92 = .ok (.getfield 50, 3)) rfl (by decide +kernel : resF (mCn M_X1_passDay) 50 = some (1, 7, .int, false))),
   (fun lv l st w => Ex_A (i := .iconst 1) (n := 1) (by decide +kernel) rfl rfl),
   (fun lv l st x y w => Ex_A (i := .iadd) (n := 1) (by decide +kernel) rfl rfl),
   (fun lv l st a v w => Ex_putf (by decide +kernel : decode M_X1_passDay.2.1 97 = .ok (.putfield 50, 3)) rfl (by decide +kernel : resF (mCn M_X1_passDay) 50 = some (1, 7, .int, false)) (by decide +kernel)),
   (fun lv l w => Ex_R (i := .return_) (n := 1) (by decide +kernel) rfl rfl rfl rfl rfl)⟩
-- R_X1_passDay: p0 to p1
set_option maxRecDepth 20000 in
set_option maxHeartbeats 4000000 in
theorem R_X1_passLooseDay : (∀ (lv : Nat) (st : List Value) (t : LX) (x : Nat) (w : AH), Ex M_X1_passLooseDay lv 0 (some (.ref x) :: t) st w = Ex M_X1_passLooseDay lv 1 (some (.ref x) :: t) (.ref x :: st) w)
  ∧ (∀ (lv : Nat) (st : List Value) (t : LX) (w : AH), Ex M_X1_passLooseDay lv 0 (some (.null) :: t) st w = Ex M_X1_passLooseDay lv 1 (some (.null) :: t) (.null :: st) w)
  ∧ (∀ (lv : Nat) (l : LX) (b : Nat) (w : AH), Ex M_X1_passLooseDay lv 1 l (.ref b :: []) w = if clK (hg w b) = 1 then (if (Call M_X1_draw 60 [.ref b] w).isSome = true then Ex M_X1_passLooseDay lv 4 l (pushR (cV (Call M_X1_draw 60 [.ref b] w)) []) (cW (Call M_X1_draw 60 [.ref b] w) w) else none) else none)
  ∧ (∀ (lv : Nat) (l : LX) (st : List Value) (w : AH), Ex M_X1_passLooseDay lv 4 l st w = Ex M_X1_passLooseDay lv 6 l (.int 36 :: st) w)
  ∧ (∀ (lv : Nat) (l : LX) (st : List Value) (x y : Int32) (w : AH), Ex M_X1_passLooseDay lv 6 l (.int y :: .int x :: st) w = if y = 0 then none else Ex M_X1_passLooseDay lv 7 l (.int (x - x / y * y) :: st) w)
  ∧ (∀ (lv : Nat) (l : LX) (st : List Value) (x : Int32) (w : AH), Ex M_X1_passLooseDay lv 7 l (.int x :: st) w = Ex M_X1_passLooseDay lv 8 (ls1 l 1 (.int x)) st w)
  ∧ (∀ (lv : Nat) (st : List Value) (t : LX) (x : Nat) (w : AH), Ex M_X1_passLooseDay lv 8 (some (.ref x) :: t) st w = Ex M_X1_passLooseDay lv 9 (some (.ref x) :: t) (.ref x :: st) w)
  ∧ (∀ (lv : Nat) (st : List Value) (t : LX) (w : AH), Ex M_X1_passLooseDay lv 8 (some (.null) :: t) st w = Ex M_X1_passLooseDay lv 9 (some (.null) :: t) (.null :: st) w)
  ∧ (∀ (lv : Nat) (l : LX) (b : Nat) (w : AH), Ex M_X1_passLooseDay lv 9 l (.ref b :: []) w = if clK (hg w b) = 1 then (if (Call M_X1_draw 60 [.ref b] w).isSome = true then Ex M_X1_passLooseDay lv 12 l (pushR (cV (Call M_X1_draw 60 [.ref b] w)) []) (cW (Call M_X1_draw 60 [.ref b] w) w) else none) else none)
  ∧ (∀ (lv : Nat) (l : LX) (st : List Value) (w : AH), Ex M_X1_passLooseDay lv 12 l st w = Ex M_X1_passLooseDay lv 14 l (.int 8 :: st) w)
  ∧ (∀ (lv : Nat) (l : LX) (st : List Value) (x y : Int32) (w : AH), Ex M_X1_passLooseDay lv 14 l (.int y :: .int x :: st) w = if y = 0 then none else Ex M_X1_passLooseDay lv 15 l (.int (x - x / y * y) :: st) w)
  ∧ (∀ (lv : Nat) (l : LX) (st : List Value) (x : Int32) (w : AH), Ex M_X1_passLooseDay lv 15 l (.int x :: st) w = Ex M_X1_passLooseDay lv 16 (ls1 l 2 (.int x)) st w)
  ∧ (∀ (lv : Nat) (st : List Value) (t : LX) (x : Nat) (w : AH), Ex M_X1_passLooseDay lv 16 (some (.ref x) :: t) st w = Ex M_X1_passLooseDay lv 17 (some (.ref x) :: t) (.ref x :: st) w)
  ∧ (∀ (lv : Nat) (st : List Value) (t : LX) (w : AH), Ex M_X1_passLooseDay lv 16 (some (.null) :: t) st w = Ex M_X1_passLooseDay lv 17 (some (.null) :: t) (.null :: st) w)
  ∧ (∀ (lv : Nat) (l : LX) (st : List Value) (a : Nat) (w : AH), Ex M_X1_passLooseDay lv 17 l (.ref a :: st) w = if (gf (hg w a) 1 0).isSome = true then Ex M_X1_passLooseDay lv 20 l (vV (gf (hg w a) 1 0) :: st) w else none)
  ∧ (∀ (lv : Nat) (st : List Value) (t : LX) (o0 : Option Value) (x : Int32) (w : AH), Ex M_X1_passLooseDay lv 20 (o0 :: some (.int x) :: t) st w = Ex M_X1_passLooseDay lv 21 (o0 :: some (.int x) :: t) (.int x :: st) w)
  ∧ (∀ (lv : Nat) (st : List Value) (t : LX) (o0 o1 : Option Value) (x : Int32) (w : AH), Ex M_X1_passLooseDay lv 21 (o0 :: o1 :: some (.int x) :: t) st w = Ex M_X1_passLooseDay lv 22 (o0 :: o1 :: some (.int x) :: t) (.int x :: st) w)
  ∧ (∀ (lv : Nat) (l : LX) (b : Nat) (a0 : Int32) (a1 : Int32) (w : AH), Ex M_X1_passLooseDay lv 22 l (.int a1 :: .int a0 :: .ref b :: []) w = if clK (hg w b) = 0 then (if (Call M_X0_setColour 60 [.ref b, .int a0, .int a1] w).isSome = true then Ex M_X1_passLooseDay lv 25 l (pushR (cV (Call M_X0_setColour 60 [.ref b, .int a0, .int a1] w)) []) (cW (Call M_X0_setColour 60 [.ref b, .int a0, .int a1] w) w) else none) else none)
  ∧ (∀ (lv : Nat) (st : List Value) (t : LX) (x : Nat) (w : AH), Ex M_X1_passLooseDay lv 25 (some (.ref x) :: t) st w = Ex M_X1_passLooseDay lv 26 (some (.ref x) :: t) (.ref x :: st) w)
  ∧ (∀ (lv : Nat) (st : List Value) (t : LX) (w : AH), Ex M_X1_passLooseDay lv 25 (some (.null) :: t) st w = Ex M_X1_passLooseDay lv 26 (some (.null) :: t) (.null :: st) w)
  ∧ (∀ (lv : Nat) (l : LX) (b : Nat) (w : AH), Ex M_X1_passLooseDay lv 26 l (.ref b :: []) w = if clK (hg w b) = 1 then (if (Call M_X1_passDay 60 [.ref b] w).isSome = true then Ex M_X1_passLooseDay lv 29 l (pushR (cV (Call M_X1_passDay 60 [.ref b] w)) []) (cW (Call M_X1_passDay 60 [.ref b] w) w) else none) else none)
  ∧ (∀ (lv : Nat) (l : LX) (w : AH), Ex M_X1_passLooseDay lv 29 l [] w = some (none, w)) :=
  ⟨(fun lv st t x w => Ex_M (i := .aload_n 0) (n := 1) (by decide +kernel) rfl rfl rfl),
   (fun lv st t w => Ex_M (i := .aload_n 0) (n := 1) (by decide +kernel) rfl rfl rfl),
   (fun lv l b w => Ex_callV (by decide +kernel : decode M_X1_passLooseDay.2.1 1 = .ok (.invokevirtual 145, 3)) rfl (by rfl : resM (mCn M_X1_passLooseDay) 145 = some (2, M_X1_draw)) rfl (by rfl) (Nat.le_of_ble_eq_true rfl) (by decide +kernel) (sLv_lt (by decide +kernel))),
   (fun lv l st w => Ex_A (i := .bipush 36) (n := 2) (by decide +kernel) rfl rfl),
   (fun lv l st x y w => Ex_irem (by decide +kernel : decode M_X1_passLooseDay.2.1 6 = .ok (.irem, 1)) rfl),
   (fun lv l st x w => Ex_M (i := .istore_n 1) (n := 1) (by decide +kernel) rfl rfl rfl),
   (fun lv st t x w => Ex_M (i := .aload_n 0) (n := 1) (by decide +kernel) rfl rfl rfl),
   (fun lv st t w => Ex_M (i := .aload_n 0) (n := 1) (by decide +kernel) rfl rfl rfl),
   (fun lv l b w => Ex_callV (by decide +kernel : decode M_X1_passLooseDay.2.1 9 = .ok (.invokevirtual 145, 3)) rfl (by rfl : resM (mCn M_X1_passLooseDay) 145 = some (2, M_X1_draw)) rfl (by rfl) (Nat.le_of_ble_eq_true rfl) (by decide +kernel) (sLv_lt (by decide +kernel))),
   (fun lv l st w => Ex_A (i := .bipush 8) (n := 2) (by decide +kernel) rfl rfl),
   (fun lv l st x y w => Ex_irem (by decide +kernel : decode M_X1_passLooseDay.2.1 14 = .ok (.irem, 1)) rfl),
   (fun lv l st x w => Ex_M (i := .istore_n 2) (n := 1) (by decide +kernel) rfl rfl rfl),
   (fun lv st t x w => Ex_M (i := .aload_n 0) (n := 1) (by decide +kernel) rfl rfl rfl),
   (fun lv st t w => Ex_M (i := .aload_n 0) (n := 1) (by decide +kernel) rfl rfl rfl),
   (fun lv l st a w => Ex_getf (by decide +kernel : decode M_X1_passLooseDay.2.1 17 = .ok (.getfield 12, 3)) rfl (by decide +kernel : resF (mCn M_X1_passLooseDay) 12 = some (1, 0, (.object "CarpetLands$Carpet"), true))),
   (fun lv st t o0 x w => Ex_M (i := .iload_n 1) (n := 1) (by decide +kernel) rfl rfl rfl),
   (fun lv st t o0 o1 x w => Ex_M (i := .iload_n 2) (n := 1) (by decide +kernel) rfl rfl rfl),
   (fun lv l b a0 a1 w => Ex_callV (by decide +kernel : decode M_X1_passLooseDay.2.1 22 = .ok (.invokevirtual 142, 3)) rfl (by rfl : resM (mCn M_X1_passLooseDay) 142 = some (2, M_X0_setColour)) rfl (by rfl) (Nat.le_of_ble_eq_true rfl) (by decide +kernel) (sLv_lt (by decide +kernel))),
   (fun lv st t x w => Ex_M (i := .aload_n 0) (n := 1) (by decide +kernel) rfl rfl rfl),
   (fun lv st t w => Ex_M (i := .aload_n 0) (n := 1) (by decide +kernel) rfl rfl rfl),
   (fun lv l b w => Ex_callV (by decide +kernel : decode M_X1_passLooseDay.2.1 26 = .ok (.invokevirtual 148, 3)) rfl (by rfl : resM (mCn M_X1_passLooseDay) 148 = some (2, M_X1_passDay)) rfl (by rfl) (Nat.le_of_ble_eq_true rfl) (by decide +kernel) (sLv_lt (by decide +kernel))),
   (fun lv l w => Ex_R (i := .return_) (n := 1) (by decide +kernel) rfl rfl rfl rfl rfl)⟩
set_option maxRecDepth 20000 in
set_option maxHeartbeats 4000000 in
theorem R_X1_draw : (∀ (lv : Nat) (st : List Value) (t : LX) (x : Nat) (w : AH), Ex M_X1_draw lv 0 (some (.ref x) :: t) st w = Ex M_X1_draw lv 1 (some (.ref x) :: t) (.ref x :: st) w)
  ∧ (∀ (lv : Nat) (st : List Value) (t : LX) (w : AH), Ex M_X1_draw lv 0 (some (.null) :: t) st w = Ex M_X1_draw lv 1 (some (.null) :: t) (.null :: st) w)
  ∧ (∀ (lv : Nat) (st : List Value) (t : LX) (x : Nat) (w : AH), Ex M_X1_draw lv 1 (some (.ref x) :: t) st w = Ex M_X1_draw lv 2 (some (.ref x) :: t) (.ref x :: st) w)
  ∧ (∀ (lv : Nat) (st : List Value) (t : LX) (w : AH), Ex M_X1_draw lv 1 (some (.null) :: t) st w = Ex M_X1_draw lv 2 (some (.null) :: t) (.null :: st) w)
  ∧ (∀ (lv : Nat) (l : LX) (st : List Value) (a : Nat) (w : AH), Ex M_X1_draw lv 2 l (.ref a :: st) w = if (gf (hg w a) 1 8).isSome = true then Ex M_X1_draw lv 5 l (vV (gf (hg w a) 1 8) :: st) w else none)
  ∧ (∀ (lv : Nat) (l : LX) (st : List Value) (w : AH), Ex M_X1_draw lv 5 l st w = Ex M_X1_draw lv 7 l (.int 1103515245 :: st) w)
  ∧ (∀ (lv : Nat) (l : LX) (st : List Value) (x y : Int32) (w : AH), Ex M_X1_draw lv 7 l (.int y :: .int x :: st) w = Ex M_X1_draw lv 8 l (.int (x * y) :: st) w)
  ∧ (∀ (lv : Nat) (l : LX) (st : List Value) (w : AH), Ex M_X1_draw lv 8 l st w = Ex M_X1_draw lv 11 l (.int 12345 :: st) w)
  ∧ (∀ (lv : Nat) (l : LX) (st : List Value) (x y : Int32) (w : AH), Ex M_X1_draw lv 11 l (.int y :: .int x :: st) w = Ex M_X1_draw lv 12 l (.int (x + y) :: st) w)
  ∧ (∀ (lv : Nat) (l : LX) (st : List Value) (a : Nat) (v : Value) (w : AH), Ex M_X1_draw lv 12 l (v :: .ref a :: st) w = if (pf (hg w a) 1 8 .int v).isSome = true then Ex M_X1_draw lv 15 l st (hs w a (vE (pf (hg w a) 1 8 .int v))) else none)
  ∧ (∀ (lv : Nat) (st : List Value) (t : LX) (x : Nat) (w : AH), Ex M_X1_draw lv 15 (some (.ref x) :: t) st w = Ex M_X1_draw lv 16 (some (.ref x) :: t) (.ref x :: st) w)
  ∧ (∀ (lv : Nat) (st : List Value) (t : LX) (w : AH), Ex M_X1_draw lv 15 (some (.null) :: t) st w = Ex M_X1_draw lv 16 (some (.null) :: t) (.null :: st) w)
  ∧ (∀ (lv : Nat) (l : LX) (st : List Value) (a : Nat) (w : AH), Ex M_X1_draw lv 16 l (.ref a :: st) w = if (gf (hg w a) 1 8).isSome = true then Ex M_X1_draw lv 19 l (vV (gf (hg w a) 1 8) :: st) w else none)
  ∧ (∀ (lv : Nat) (l : LX) (st : List Value) (w : AH), Ex M_X1_draw lv 19 l st w = Ex M_X1_draw lv 21 l (.int 8 :: st) w)
  ∧ (∀ (lv : Nat) (l : LX) (st : List Value) (x y : Int32) (w : AH), Ex M_X1_draw lv 21 l (.int y :: .int x :: st) w = Ex M_X1_draw lv 22 l (.int ((x.toUInt32 >>> (y.toUInt32 &&& Int32.toUInt32 31)).toInt32) :: st) w)
  ∧ (∀ (lv : Nat) (l : LX) (x : Int32) (w : AH), Ex M_X1_draw lv 22 l [.int x] w = some (some (.int x), w)) :=
  ⟨(fun lv st t x w => Ex_M (i := .aload_n 0) (n := 1) (by decide +kernel) rfl rfl rfl),
   (fun lv st t w => Ex_M (i := .aload_n 0) (n := 1) (by decide +kernel) rfl rfl rfl),
   (fun lv st t x w => Ex_M (i := .aload_n 0) (n := 1) (by decide +kernel) rfl rfl rfl),
   (fun lv st t w => Ex_M (i := .aload_n 0) (n := 1) (by decide +kernel) rfl rfl rfl),
   (fun lv l st a w => Ex_getf (by decide +kernel : decode M_X1_draw.2.1 2 = .ok (.getfield 53, 3)) rfl (by decide +kernel : resF (mCn M_X1_draw) 53 = some (1, 8, .int, false))),
   (fun lv l st w => Ex_ldcI (by decide +kernel : decode M_X1_draw.2.1 5 = .ok (.ldc 151, 2)) rfl (by decide +kernel)),
   (fun lv l st x y w => Ex_A (i := .imul) (n := 1) (by decide +kernel) rfl rfl),
   (fun lv l st w => Ex_A (i := .sipush 12345) (n := 3) (by decide +kernel) rfl rfl),
   (fun lv l st x y w => Ex_A (i := .iadd) (n := 1) (by decide +kernel) rfl rfl),
   (fun lv l st a v w => Ex_putf (by decide +kernel : decode M_X1_draw.2.1 12 = .ok (.putfield 53, 3)) rfl (by decide +kernel : resF (mCn M_X1_draw) 53 = some (1, 8, .int, false)) (by decide +kernel)),
   (fun lv st t x w => Ex_M (i := .aload_n 0) (n := 1) (by decide +kernel) rfl rfl rfl),
   (fun lv st t w => Ex_M (i := .aload_n 0) (n := 1) (by decide +kernel) rfl rfl rfl),
   (fun lv l st a w => Ex_getf (by decide +kernel : decode M_X1_draw.2.1 16 = .ok (.getfield 53, 3)) rfl (by decide +kernel : resF (mCn M_X1_draw) 53 = some (1, 8, .int, false))),
   (fun lv l st w => Ex_A (i := .bipush 8) (n := 2) (by decide +kernel) rfl rfl),
   (fun lv l st x y w => Ex_A (i := .iushr) (n := 1) (by decide +kernel) rfl rfl),
   (fun lv l x w => Ex_R (i := .ireturn) (n := 1) (by decide +kernel) rfl rfl rfl rfl rfl)⟩
set_option maxRecDepth 20000 in
set_option maxHeartbeats 4000000 in
theorem R_X2_init : (∀ (lv : Nat) (st : List Value) (t : LX) (x : Nat) (w : AH), Ex M_X2_init lv 0 (some (.ref x) :: t) st w = Ex M_X2_init lv 1 (some (.ref x) :: t) (.ref x :: st) w)
  ∧ (∀ (lv : Nat) (st : List Value) (t : LX) (w : AH), Ex M_X2_init lv 0 (some (.null) :: t) st w = Ex M_X2_init lv 1 (some (.null) :: t) (.null :: st) w)
  ∧ (∀ (lv : Nat) (l : LX) (b : Nat) (w : AH), Ex M_X2_init lv 1 l (.ref b :: []) w = Ex M_X2_init lv 4 l [] w)
  ∧ (∀ (lv : Nat) (st : List Value) (t : LX) (x : Nat) (w : AH), Ex M_X2_init lv 4 (some (.ref x) :: t) st w = Ex M_X2_init lv 5 (some (.ref x) :: t) (.ref x :: st) w)
  ∧ (∀ (lv : Nat) (st : List Value) (t : LX) (w : AH), Ex M_X2_init lv 4 (some (.null) :: t) st w = Ex M_X2_init lv 5 (some (.null) :: t) (.null :: st) w)
  ∧ (∀ (lv : Nat) (l : LX) (st : List Value) (w : AH), Ex M_X2_init lv 5 l st w = Ex M_X2_init lv 7 l (.int 8 :: st) w)
  ∧ (∀ (lv : Nat) (l : LX) (st : List Value) (w : AH), Ex M_X2_init lv 7 l (.int 8 :: st) w = Ex M_X2_init lv 9 l (.ref w.1 :: st) (hn w (.inl (1, 8, .inr (.inl (fun _ => 0)))) 8))
  ∧ (∀ (lv : Nat) (l : LX) (st : List Value) (a : Nat) (v : Value) (w : AH), Ex M_X2_init lv 9 l (v :: .ref a :: st) w = if (pf (hg w a) 2 0 (.array .long) v).isSome = true then Ex M_X2_init lv 12 l st (hs w a (vE (pf (hg w a) 2 0 (.array .long) v))) else none)
  ∧ (∀ (lv : Nat) (st : List Value) (t : LX) (x : Nat) (w : AH), Ex M_X2_init lv 12 (some (.ref x) :: t) st w = Ex M_X2_init lv 13 (some (.ref x) :: t) (.ref x :: st) w)
  ∧ (∀ (lv : Nat) (st : List Value) (t : LX) (w : AH), Ex M_X2_init lv 12 (some (.null) :: t) st w = Ex M_X2_init lv 13 (some (.null) :: t) (.null :: st) w)
  ∧ (∀ (lv : Nat) (l : LX) (st : List Value) (w : AH), Ex M_X2_init lv 13 l st w = Ex M_X2_init lv 14 l (.int 3 :: st) w)
  ∧ (∀ (lv : Nat) (l : LX) (st : List Value) (w : AH), Ex M_X2_init lv 14 l (.int 3 :: st) w = Ex M_X2_init lv 16 l (.ref w.1 :: st) (hn w (.inl (0, 3, .inl (fun _ => 0))) 3))
  ∧ (∀ (lv : Nat) (l : LX) (st : List Value) (a : Nat) (v : Value) (w : AH), Ex M_X2_init lv 16 l (v :: .ref a :: st) w = if (pf (hg w a) 2 1 (.array .int) v).isSome = true then Ex M_X2_init lv 19 l st (hs w a (vE (pf (hg w a) 2 1 (.array .int) v))) else none)
  ∧ (∀ (lv : Nat) (st : List Value) (t : LX) (x : Nat) (w : AH), Ex M_X2_init lv 19 (some (.ref x) :: t) st w = Ex M_X2_init lv 20 (some (.ref x) :: t) (.ref x :: st) w)
  ∧ (∀ (lv : Nat) (st : List Value) (t : LX) (w : AH), Ex M_X2_init lv 19 (some (.null) :: t) st w = Ex M_X2_init lv 20 (some (.null) :: t) (.null :: st) w)
  ∧ (∀ (lv : Nat) (l : LX) (st : List Value) (w : AH), Ex M_X2_init lv 20 l st w = Ex M_X2_init lv 21 l (.int 3 :: st) w)
  ∧ (∀ (lv : Nat) (l : LX) (st : List Value) (w : AH), Ex M_X2_init lv 21 l (.int 3 :: st) w = Ex M_X2_init lv 23 l (.ref w.1 :: st) (hn w (.inl (0, 3, .inl (fun _ => 0))) 3))
  ∧ (∀ (lv : Nat) (l : LX) (st : List Value) (a : Nat) (v : Value) (w : AH), Ex M_X2_init lv 23 l (v :: .ref a :: st) w = if (pf (hg w a) 2 2 (.array .int) v).isSome = true then Ex M_X2_init lv 26 l st (hs w a (vE (pf (hg w a) 2 2 (.array .int) v))) else none)
  ∧ (∀ (lv : Nat) (st : List Value) (t : LX) (x : Nat) (w : AH), Ex M_X2_init lv 26 (some (.ref x) :: t) st w = Ex M_X2_init lv 27 (some (.ref x) :: t) (.ref x :: st) w)
  ∧ (∀ (lv : Nat) (st : List Value) (t : LX) (w : AH), Ex M_X2_init lv 26 (some (.null) :: t) st w = Ex M_X2_init lv 27 (some (.null) :: t) (.null :: st) w)
  ∧ (∀ (lv : Nat) (l : LX) (st : List Value) (w : AH), Ex M_X2_init lv 27 l st w = Ex M_X2_init lv 28 l (.int 0 :: st) w)
  ∧ (∀ (lv : Nat) (l : LX) (st : List Value) (a : Nat) (v : Value) (w : AH), Ex M_X2_init lv 28 l (v :: .ref a :: st) w = if (pf (hg w a) 2 3 .int v).isSome = true then Ex M_X2_init lv 31 l st (hs w a (vE (pf (hg w a) 2 3 .int v))) else none)
  ∧ (∀ (lv : Nat) (l : LX) (w : AH), Ex M_X2_init lv 31 l [] w = some (none, w)) :=
  ⟨(fun lv st t x w => Ex_M (i := .aload_n 0) (n := 1) (by decide +kernel) rfl rfl rfl),
   (fun lv st t w => Ex_M (i := .aload_n 0) (n := 1) (by decide +kernel) rfl rfl rfl),
   (fun lv l b w => Ex_oinit (by decide +kernel : decode M_X2_init.2.1 1 = .ok (.invokespecial 3, 3)) rfl (by rfl : resM (mCn M_X2_init) 3 = some (6, M_X0_init)) (by rfl)),
   (fun lv st t x w => Ex_M (i := .aload_n 0) (n := 1) (by decide +kernel) rfl rfl rfl),
   (fun lv st t w => Ex_M (i := .aload_n 0) (n := 1) (by decide +kernel) rfl rfl rfl),
   (fun lv l st w => Ex_A (i := .bipush 8) (n := 2) (by decide +kernel) rfl rfl),
   (fun lv l st w => Ex_newa (by decide +kernel : decode M_X2_init.2.1 7 = .ok (.newarray .long, 2)) rfl (by decide) (by decide) rfl),
   (fun lv l st a v w => Ex_putf (by decide +kernel : decode M_X2_init.2.1 9 = .ok (.putfield 9, 3)) rfl (by decide +kernel : resF (mCn M_X2_init) 9 = some (2, 0, (.array .long), true)) (by decide +kernel)),
   (fun lv st t x w => Ex_M (i := .aload_n 0) (n := 1) (by decide +kernel) rfl rfl rfl),
   (fun lv st t w => Ex_M (i := .aload_n 0) (n := 1) (by decide +kernel) rfl rfl rfl),
   (fun lv l st w => Ex_A (i := .iconst 3) (n := 1) (by decide +kernel) rfl rfl),
   (fun lv l st w => Ex_newa (by decide +kernel : decode M_X2_init.2.1 14 = .ok (.newarray .int, 2)) rfl (by decide) (by decide) rfl),
   (fun lv l st a v w => Ex_putf (by decide +kernel : decode M_X2_init.2.1 16 = .ok (.putfield 15, 3)) rfl (by decide +kernel : resF (mCn M_X2_init) 15 = some (2, 1, (.array .int), true)) (by decide +kernel)),
   (fun lv st t x w => Ex_M (i := .aload_n 0) (n := 1) (by decide +kernel) rfl rfl rfl),
   (fun lv st t w => Ex_M (i := .aload_n 0) (n := 1) (by decide +kernel) rfl rfl rfl),
   (fun lv l st w => Ex_A (i := .iconst 3) (n := 1) (by decide +kernel) rfl rfl),
   (fun lv l st w => Ex_newa (by decide +kernel : decode M_X2_init.2.1 21 = .ok (.newarray .int, 2)) rfl (by decide) (by decide) rfl),
   (fun lv l st a v w => Ex_putf (by decide +kernel : decode M_X2_init.2.1 23 = .ok (.putfield 19, 3)) rfl (by decide +kernel : resF (mCn M_X2_init) 19 = some (2, 2, (.array .int), true)) (by decide +kernel)),
   (fun lv st t x w => Ex_M (i := .aload_n 0) (n := 1) (by decide +kernel) rfl rfl rfl),
   (fun lv st t w => Ex_M (i := .aload_n 0) (n := 1) (by decide +kernel) rfl rfl rfl),
   (fun lv l st w => Ex_A (i := .iconst 0) (n := 1) (by decide +kernel) rfl rfl),
   (fun lv l st a v w => Ex_putf (by decide +kernel : decode M_X2_init.2.1 28 = .ok (.putfield 22, 3)) rfl (by decide +kernel : resF (mCn M_X2_init) 22 = some (2, 3, .int, false)) (by decide +kernel)),
   (fun lv l w => Ex_R (i := .return_) (n := 1) (by decide +kernel) rfl rfl rfl rfl rfl)⟩
set_option maxRecDepth 20000 in
theorem H_X2_tryAll_3 : ∀ (lv : Nat) (st : List Value) (t : LX) (o0 o1 o2 o3 : Option Value) (x : Int32) (w : AH), Ex M_X2_tryAll lv 3 (o0 :: o1 :: o2 :: o3 :: some (.int x) :: t) st w = Ex M_X2_tryAll lv 5 (o0 :: o1 :: o2 :: o3 :: some (.int x) :: t) (.int x :: st) w := fun lv st t o0 o1 o2 o3 x w => Ex_M (i := .iload 4) (n := 2) (by decide +kernel) rfl rfl rfl
set_option maxRecDepth 20000 in
set_option maxHeartbeats 4000000 in
theorem R_X2_tryAll : (∀ (lv : Nat) (l : LX) (st : List Value) (w : AH), Ex M_X2_tryAll lv 0 l st w = Ex M_X2_tryAll lv 1 l (.int 0 :: st) w)
  ∧ (∀ (lv : Nat) (l : LX) (st : List Value) (x : Int32) (w : AH), Ex M_X2_tryAll lv 1 l (.int x :: st) w = Ex M_X2_tryAll lv 3 (ls1 l 4 (.int x)) st w)
  ∧ (∀ (lv : Nat) (l : LX) (st : List Value) (w : AH), Ex M_X2_tryAll lv 5 l st w = Ex M_X2_tryAll lv 7 l (.int 8 :: st) w)
  ∧ (∀ (lv : Nat) (l : LX) (st : List Value) (x y : Int32) (w : AH), Ex M_X2_tryAll lv 7 l (.int y :: .int x :: st) w = if y ≤ x then Ex M_X2_tryAll lv 29 l st w else Ex M_X2_tryAll lv 10 l st w)
  ∧ (∀ (lv : Nat) (st : List Value) (t : LX) (x : Nat) (w : AH), Ex M_X2_tryAll lv 10 (some (.ref x) :: t) st w = Ex M_X2_tryAll lv 11 (some (.ref x) :: t) (.ref x :: st) w)
  ∧ (∀ (lv : Nat) (st : List Value) (t : LX) (w : AH), Ex M_X2_tryAll lv 10 (some (.null) :: t) st w = Ex M_X2_tryAll lv 11 (some (.null) :: t) (.null :: st) w)
  ∧ (∀ (lv : Nat) (l : LX) (st : List Value) (a : Nat) (w : AH), Ex M_X2_tryAll lv 11 l (.ref a :: st) w = if (gf (hg w a) 2 0).isSome = true then Ex M_X2_tryAll lv 14 l (vV (gf (hg w a) 2 0) :: st) w else none)
  ∧ (∀ (lv : Nat) (st : List Value) (t : LX) (o0 o1 o2 o3 : Option Value) (x : Int32) (w : AH), Ex M_X2_tryAll lv 14 (o0 :: o1 :: o2 :: o3 :: some (.int x) :: t) st w = Ex M_X2_tryAll lv 16 (o0 :: o1 :: o2 :: o3 :: some (.int x) :: t) (.int x :: st) w)
  ∧ (∀ (lv : Nat) (st : List Value) (t : LX) (o0 : Option Value) (x : Nat) (w : AH), Ex M_X2_tryAll lv 16 (o0 :: some (.ref x) :: t) st w = Ex M_X2_tryAll lv 17 (o0 :: some (.ref x) :: t) (.ref x :: st) w)
  ∧ (∀ (lv : Nat) (st : List Value) (t : LX) (o0 : Option Value) (w : AH), Ex M_X2_tryAll lv 16 (o0 :: some (.null) :: t) st w = Ex M_X2_tryAll lv 17 (o0 :: some (.null) :: t) (.null :: st) w)
  ∧ (∀ (lv : Nat) (st : List Value) (t : LX) (o0 o1 o2 o3 : Option Value) (x : Int32) (w : AH), Ex M_X2_tryAll lv 17 (o0 :: o1 :: o2 :: o3 :: some (.int x) :: t) st w = Ex M_X2_tryAll lv 19 (o0 :: o1 :: o2 :: o3 :: some (.int x) :: t) (.int x :: st) w)
  ∧ (∀ (lv : Nat) (l : LX) (b : Nat) (a0 : Int32) (s0 : Int32) (s1 : Nat) (w : AH), Ex M_X2_tryAll lv 19 l (.int a0 :: .ref b :: [.int s0, .ref s1]) w = if clK (hg w b) = 0 then (if (Call M_X0_ofColour 60 [.ref b, .int a0] w).isSome = true then Ex M_X2_tryAll lv 22 l (pushR (cV (Call M_X0_ofColour 60 [.ref b, .int a0] w)) [.int s0, .ref s1]) (cW (Call M_X0_ofColour 60 [.ref b, .int a0] w) w) else none) else none)
  ∧ (∀ (lv : Nat) (l : LX) (st : List Value) (a : Nat) (i : Int32) (x : Int64) (w : AH), Ex M_X2_tryAll lv 22 l (.long x :: .int i :: .ref a :: st) w = if (uJ (hg w a) i x).isSome = true then Ex M_X2_tryAll lv 23 l st (hs w a (vE (uJ (hg w a) i x))) else none)
  ∧ (∀ (lv : Nat) (st : List Value) (t : LX) (o0 o1 o2 o3 : Option Value) (x : Int32) (w : AH), Ex M_X2_tryAll lv 23 (o0 :: o1 :: o2 :: o3 :: some (.int x) :: t) st w = Ex M_X2_tryAll lv 26 (ls1 (o0 :: o1 :: o2 :: o3 :: some (.int x) :: t) 4 (.int (x + 1))) st w)
  ∧ (∀ (lv : Nat) (l : LX) (st : List Value) (w : AH), Ex M_X2_tryAll lv 26 l st w = Ex M_X2_tryAll lv 3 l st w)
  ∧ (∀ (lv : Nat) (st : List Value) (t : LX) (x : Nat) (w : AH), Ex M_X2_tryAll lv 29 (some (.ref x) :: t) st w = Ex M_X2_tryAll lv 30 (some (.ref x) :: t) (.ref x :: st) w)
  ∧ (∀ (lv : Nat) (st : List Value) (t : LX) (w : AH), Ex M_X2_tryAll lv 29 (some (.null) :: t) st w = Ex M_X2_tryAll lv 30 (some (.null) :: t) (.null :: st) w)
  ∧ (∀ (lv : Nat) (l : LX) (st : List Value) (w : AH), Ex M_X2_tryAll lv 30 l st w = Ex M_X2_tryAll lv 31 l (.int 0 :: st) w)
  ∧ (∀ (lv : Nat) (l : LX) (st : List Value) (a : Nat) (v : Value) (w : AH), Ex M_X2_tryAll lv 31 l (v :: .ref a :: st) w = if (pf (hg w a) 2 3 .int v).isSome = true then Ex M_X2_tryAll lv 34 l st (hs w a (vE (pf (hg w a) 2 3 .int v))) else none)
  ∧ (∀ (lv : Nat) (st : List Value) (t : LX) (x : Nat) (w : AH), Ex M_X2_tryAll lv 34 (some (.ref x) :: t) st w = Ex M_X2_tryAll lv 35 (some (.ref x) :: t) (.ref x :: st) w)
  ∧ (∀ (lv : Nat) (st : List Value) (t : LX) (w : AH), Ex M_X2_tryAll lv 34 (some (.null) :: t) st w = Ex M_X2_tryAll lv 35 (some (.null) :: t) (.null :: st) w)
  ∧ (∀ (lv : Nat) (st : List Value) (t : LX) (o0 : Option Value) (x : Nat) (w : AH), Ex M_X2_tryAll lv 35 (o0 :: some (.ref x) :: t) st w = Ex M_X2_tryAll lv 36 (o0 :: some (.ref x) :: t) (.ref x :: st) w)
  ∧ (∀ (lv : Nat) (st : List Value) (t : LX) (o0 : Option Value) (w : AH), Ex M_X2_tryAll lv 35 (o0 :: some (.null) :: t) st w = Ex M_X2_tryAll lv 36 (o0 :: some (.null) :: t) (.null :: st) w)
  ∧ (∀ (lv : Nat) (st : List Value) (t : LX) (o0 o1 : Option Value) (x : Int32) (w : AH), Ex M_X2_tryAll lv 36 (o0 :: o1 :: some (.int x) :: t) st w = Ex M_X2_tryAll lv 37 (o0 :: o1 :: some (.int x) :: t) (.int x :: st) w)
  ∧ (∀ (lv : Nat) (l : LX) (b : Nat) (a0 : Int32) (s0 : Nat) (w : AH), Ex M_X2_tryAll lv 37 l (.int a0 :: .ref b :: [.ref s0]) w = if clK (hg w b) = 0 then (if (Call M_X0_landOf 60 [.ref b, .int a0] w).isSome = true then Ex M_X2_tryAll lv 40 l (pushR (cV (Call M_X0_landOf 60 [.ref b, .int a0] w)) [.ref s0]) (cW (Call M_X0_landOf 60 [.ref b, .int a0] w) w) else none) else none)
  ∧ (∀ (lv : Nat) (l : LX) (st : List Value) (w : AH), Ex M_X2_tryAll lv 40 l st w = Ex M_X2_tryAll lv 41 l (.int 0 :: st) w)
  ∧ (∀ (lv : Nat) (st : List Value) (t : LX) (o0 o1 o2 : Option Value) (x : Int32) (w : AH), Ex M_X2_tryAll lv 41 (o0 :: o1 :: o2 :: some (.int x) :: t) st w = Ex M_X2_tryAll lv 42 (o0 :: o1 :: o2 :: some (.int x) :: t) (.int x :: st) w)
  ∧ (∀ (lv : Nat) (l : LX) (b : Nat) (a0 : Int64) (a1 : Int32) (a2 : Int32) (w : AH), Ex M_X2_tryAll lv 42 l (.int a2 :: .int a1 :: .long a0 :: .ref b :: []) w = if clK (hg w b) = 2 then (if (Call M_X2_flood 60 [.ref b, .long a0, .int a1, .int a2] w).isSome = true then Ex M_X2_tryAll lv 45 l (pushR (cV (Call M_X2_flood 60 [.ref b, .long a0, .int a1, .int a2] w)) []) (cW (Call M_X2_flood 60 [.ref b, .long a0, .int a1, .int a2] w) w) else none) else none)
  ∧ (∀ (lv : Nat) (l : LX) (w : AH), Ex M_X2_tryAll lv 45 l [] w = some (none, w)) :=
  ⟨(fun lv l st w => Ex_A (i := .iconst 0) (n := 1) (by decide +kernel) rfl rfl),
   (fun lv l st x w => Ex_M (i := .istore 4) (n := 2) (by decide +kernel) rfl rfl rfl),
   (fun lv l st w => Ex_A (i := .bipush 8) (n := 2) (by decide +kernel) rfl rfl),
   (fun lv l st x y w => Ex_icmp_ge (by decide +kernel : decode M_X2_tryAll.2.1 7 = .ok (.if_icmp .ge 22, 3)) rfl rfl),
   (fun lv st t x w => Ex_M (i := .aload_n 0) (n := 1) (by decide +kernel) rfl rfl rfl),
   (fun lv st t w => Ex_M (i := .aload_n 0) (n := 1) (by decide +kernel) rfl rfl rfl),
   (fun lv l st a w => Ex_getf (by decide +kernel : decode M_X2_tryAll.2.1 11 = .ok (.getfield 9, 3)) rfl (by decide +kernel : resF (mCn M_X2_tryAll) 9 = some (2, 0, (.array .long), true))),
   (fun lv st t o0 o1 o2 o3 x w => Ex_M (i := .iload 4) (n := 2) (by decide +kernel) rfl rfl rfl),
   (fun lv st t o0 x w => Ex_M (i := .aload_n 1) (n := 1) (by decide +kernel) rfl rfl rfl),
   (fun lv st t o0 w => Ex_M (i := .aload_n 1) (n := 1) (by decide +kernel) rfl rfl rfl),
   (fun lv st t o0 o1 o2 o3 x w => Ex_M (i := .iload 4) (n := 2) (by decide +kernel) rfl rfl rfl),
   (fun lv l b a0 s0 s1 w => Ex_callV (by decide +kernel : decode M_X2_tryAll.2.1 19 = .ok (.invokevirtual 26, 3)) rfl (by rfl : resM (mCn M_X2_tryAll) 26 = some (2, M_X0_ofColour)) rfl (by rfl) (Nat.le_of_ble_eq_true rfl) (by decide +kernel) (sLv_lt (by decide +kernel))),
   (fun lv l st a i x w => Ex_las (by decide +kernel : decode M_X2_tryAll.2.1 22 = .ok (.lastore, 1)) rfl),
   (fun lv st t o0 o1 o2 o3 x w => Ex_iinc (by decide +kernel : decode M_X2_tryAll.2.1 23 = .ok (.iinc 4 1, 3)) rfl rfl (by decide) (by decide)),
   (fun lv l st w => Ex_goto (by decide +kernel : decode M_X2_tryAll.2.1 26 = .ok (.goto (-23), 3)) rfl),
   (fun lv st t x w => Ex_M (i := .aload_n 0) (n := 1) (by decide +kernel) rfl rfl rfl),
   (fun lv st t w => Ex_M (i := .aload_n 0) (n := 1) (by decide +kernel) rfl rfl rfl),
   (fun lv l st w => Ex_A (i := .iconst 0) (n := 1) (by decide +kernel) rfl rfl),
   (fun lv l st a v w => Ex_putf (by decide +kernel : decode M_X2_tryAll.2.1 31 = .ok (.putfield 22, 3)) rfl (by decide +kernel : resF (mCn M_X2_tryAll) 22 = some (2, 3, .int, false)) (by decide +kernel)),
   (fun lv st t x w => Ex_M (i := .aload_n 0) (n := 1) (by decide +kernel) rfl rfl rfl),
   (fun lv st t w => Ex_M (i := .aload_n 0) (n := 1) (by decide +kernel) rfl rfl rfl),
   (fun lv st t o0 x w => Ex_M (i := .aload_n 1) (n := 1) (by decide +kernel) rfl rfl rfl),
   (fun lv st t o0 w => Ex_M (i := .aload_n 1) (n := 1) (by decide +kernel) rfl rfl rfl),
   (fun lv st t o0 o1 x w => Ex_M (i := .iload_n 2) (n := 1) (by decide +kernel) rfl rfl rfl),
   (fun lv l b a0 s0 w => Ex_callV (by decide +kernel : decode M_X2_tryAll.2.1 37 = .ok (.invokevirtual 32, 3)) rfl (by rfl : resM (mCn M_X2_tryAll) 32 = some (2, M_X0_landOf)) rfl (by rfl) (Nat.le_of_ble_eq_true rfl) (by decide +kernel) (sLv_lt (by decide +kernel))),
   (fun lv l st w => Ex_A (i := .iconst 0) (n := 1) (by decide +kernel) rfl rfl),
   (fun lv st t o0 o1 o2 x w => Ex_M (i := .iload_n 3) (n := 1) (by decide +kernel) rfl rfl rfl),
   (fun lv l b a0 a1 a2 w => Ex_callV (by decide +kernel : decode M_X2_tryAll.2.1 42 = .ok (.invokevirtual 35, 3)) rfl (by rfl : resM (mCn M_X2_tryAll) 35 = some (2, M_X2_flood)) rfl (by rfl) (Nat.le_of_ble_eq_true rfl) (by decide +kernel) (sLv_lt (by decide +kernel))),
   (fun lv l w => Ex_R (i := .return_) (n := 1) (by decide +kernel) rfl rfl rfl rfl rfl)⟩
set_option maxRecDepth 20000 in
set_option maxHeartbeats 4000000 in
theorem R_X2_colourOfFlood : (∀ (lv : Nat) (st : List Value) (t : LX) (o0 : Option Value) (x : Int32) (w : AH), Ex M_X2_colourOfFlood lv 0 (o0 :: some (.int x) :: t) st w = Ex M_X2_colourOfFlood lv 1 (o0 :: some (.int x) :: t) (.int x :: st) w)
  ∧ (∀ (lv : Nat) (l : LX) (st : List Value) (w : AH), Ex M_X2_colourOfFlood lv 1 l st w = Ex M_X2_colourOfFlood lv 2 l (.int 0 :: st) w)
  ∧ (∀ (lv : Nat) (l : LX) (st : List Value) (w : AH), Ex M_X2_colourOfFlood lv 2 l st w = Ex M_X2_colourOfFlood lv 3 l (.int 2 :: st) w)
  ∧ (∀ (lv : Nat) (l : LX) (a0 : Int32) (a1 : Int32) (a2 : Int32) (w : AH), Ex M_X2_colourOfFlood lv 3 l (.int a2 :: .int a1 :: .int a0 :: []) w = if (Call M_X11_isWithin 60 [.int a0, .int a1, .int a2] w).isSome = true then Ex M_X2_colourOfFlood lv 6 l (pushR (cV (Call M_X11_isWithin 60 [.int a0, .int a1, .int a2] w)) []) (cW (Call M_X11_isWithin 60 [.int a0, .int a1, .int a2] w) w) else none)
  ∧ (∀ (lv : Nat) (l : LX) (st : List Value) (x : Int32) (w : AH), Ex M_X2_colourOfFlood lv 6 l (.int x :: st) w = if x = 0 then Ex M_X2_colourOfFlood lv 18 l st w else Ex M_X2_colourOfFlood lv 9 l st w)
  ∧ (∀ (lv : Nat) (st : List Value) (t : LX) (x : Nat) (w : AH), Ex M_X2_colourOfFlood lv 9 (some (.ref x) :: t) st w = Ex M_X2_colourOfFlood lv 10 (some (.ref x) :: t) (.ref x :: st) w)
  ∧ (∀ (lv : Nat) (st : List Value) (t : LX) (w : AH), Ex M_X2_colourOfFlood lv 9 (some (.null) :: t) st w = Ex M_X2_colourOfFlood lv 10 (some (.null) :: t) (.null :: st) w)
  ∧ (∀ (lv : Nat) (l : LX) (st : List Value) (a : Nat) (w : AH), Ex M_X2_colourOfFlood lv 10 l (.ref a :: st) w = if (gf (hg w a) 2 2).isSome = true then Ex M_X2_colourOfFlood lv 13 l (vV (gf (hg w a) 2 2) :: st) w else none)
  ∧ (∀ (lv : Nat) (st : List Value) (t : LX) (o0 : Option Value) (x : Int32) (w : AH), Ex M_X2_colourOfFlood lv 13 (o0 :: some (.int x) :: t) st w = Ex M_X2_colourOfFlood lv 14 (o0 :: some (.int x) :: t) (.int x :: st) w)
  ∧ (∀ (lv : Nat) (l : LX) (st : List Value) (a : Nat) (i : Int32) (w : AH), Ex M_X2_colourOfFlood lv 14 l (.int i :: .ref a :: st) w = if (aI (hg w a) i).isSome = true then Ex M_X2_colourOfFlood lv 15 l (.int (vI (aI (hg w a) i)) :: st) w else none)
  ∧ (∀ (lv : Nat) (l : LX) (st : List Value) (w : AH), Ex M_X2_colourOfFlood lv 15 l st w = Ex M_X2_colourOfFlood lv 19 l st w)
  ∧ (∀ (lv : Nat) (l : LX) (st : List Value) (w : AH), Ex M_X2_colourOfFlood lv 18 l st w = Ex M_X2_colourOfFlood lv 19 l (.int 0 :: st) w)
  ∧ (∀ (lv : Nat) (l : LX) (x : Int32) (w : AH), Ex M_X2_colourOfFlood lv 19 l [.int x] w = some (some (.int x), w)) :=
  ⟨(fun lv st t o0 x w => Ex_M (i := .iload_n 1) (n := 1) (by decide +kernel) rfl rfl rfl),
   (fun lv l st w => Ex_A (i := .iconst 0) (n := 1) (by decide +kernel) rfl rfl),
   (fun lv l st w => Ex_A (i := .iconst 2) (n := 1) (by decide +kernel) rfl rfl),
   (fun lv l a0 a1 a2 w => Ex_callS (by decide +kernel : decode M_X2_colourOfFlood.2.1 3 = .ok (.invokestatic 39, 3)) rfl (by rfl : resM (mCn M_X2_colourOfFlood) 39 = some (1, M_X11_isWithin)) (by decide) rfl (by rfl) (Nat.le_of_ble_eq_true rfl) (sLv_lt (by decide +kernel))),
   (fun lv l st x w => Ex_if_eq (by decide +kernel : decode M_X2_colourOfFlood.2.1 6 = .ok (.ifCond .eq 12, 3)) rfl rfl),
   (fun lv st t x w => Ex_M (i := .aload_n 0) (n := 1) (by decide +kernel) rfl rfl rfl),
   (fun lv st t w => Ex_M (i := .aload_n 0) (n := 1) (by decide +kernel) rfl rfl rfl),
   (fun lv l st a w => Ex_getf (by decide +kernel : decode M_X2_colourOfFlood.2.1 10 = .ok (.getfield 19, 3)) rfl (by decide +kernel : resF (mCn M_X2_colourOfFlood) 19 = some (2, 2, (.array .int), true))),
   (fun lv st t o0 x w => Ex_M (i := .iload_n 1) (n := 1) (by decide +kernel) rfl rfl rfl),
   (fun lv l st a i w => Ex_ial (by decide +kernel : decode M_X2_colourOfFlood.2.1 14 = .ok (.iaload, 1)) rfl),
   (fun lv l st w => Ex_goto (by decide +kernel : decode M_X2_colourOfFlood.2.1 15 = .ok (.goto 4, 3)) rfl),
   (fun lv l st w => Ex_A (i := .iconst 0) (n := 1) (by decide +kernel) rfl rfl),
   (fun lv l x w => Ex_R (i := .ireturn) (n := 1) (by decide +kernel) rfl rfl rfl rfl rfl)⟩
set_option maxRecDepth 20000 in
theorem H_X2_flood_23 : ∀ (lv : Nat) (st : List Value) (t : LX) (o0 o1 o2 o3 o4 : Option Value) (x : Int32) (w : AH), Ex M_X2_flood lv 23 (o0 :: o1 :: o2 :: o3 :: o4 :: some (.int x) :: t) st w = Ex M_X2_flood lv 25 (o0 :: o1 :: o2 :: o3 :: o4 :: some (.int x) :: t) (.int x :: st) w := fun lv st t o0 o1 o2 o3 o4 x w => Ex_M (i := .iload 5) (n := 2) (by decide +kernel) rfl rfl rfl
set_option maxRecDepth 20000 in
set_option maxHeartbeats 4000000 in
theorem R_X2_flood : (∀ (lv : Nat) (st : List Value) (t : LX) (o0 o1 o2 : Option Value) (x : Int32) (w : AH), Ex M_X2_flood lv 0 (o0 :: o1 :: o2 :: some (.int x) :: t) st w = Ex M_X2_flood lv 1 (o0 :: o1 :: o2 :: some (.int x) :: t) (.int x :: st) w)
  ∧ (∀ (lv : Nat) (st : List Value) (t : LX) (o0 o1 o2 o3 : Option Value) (x : Int32) (w : AH), Ex M_X2_flood lv 1 (o0 :: o1 :: o2 :: o3 :: some (.int x) :: t) st w = Ex M_X2_flood lv 3 (o0 :: o1 :: o2 :: o3 :: some (.int x) :: t) (.int x :: st) w)
  ∧ (∀ (lv : Nat) (l : LX) (st : List Value) (x y : Int32) (w : AH), Ex M_X2_flood lv 3 l (.int y :: .int x :: st) w = if y ≤ x then Ex M_X2_flood lv 11 l st w else Ex M_X2_flood lv 6 l st w)
  ∧ (∀ (lv : Nat) (st : List Value) (t : LX) (o0 o1 o2 : Option Value) (x : Int32) (w : AH), Ex M_X2_flood lv 6 (o0 :: o1 :: o2 :: some (.int x) :: t) st w = Ex M_X2_flood lv 7 (o0 :: o1 :: o2 :: some (.int x) :: t) (.int x :: st) w)
  ∧ (∀ (lv : Nat) (l : LX) (st : List Value) (w : AH), Ex M_X2_flood lv 7 l st w = Ex M_X2_flood lv 8 l (.int 3 :: st) w)
  ∧ (∀ (lv : Nat) (l : LX) (st : List Value) (x y : Int32) (w : AH), Ex M_X2_flood lv 8 l (.int y :: .int x :: st) w = if x < y then Ex M_X2_flood lv 20 l st w else Ex M_X2_flood lv 11 l st w)
  ∧ (∀ (lv : Nat) (st : List Value) (t : LX) (x : Nat) (w : AH), Ex M_X2_flood lv 11 (some (.ref x) :: t) st w = Ex M_X2_flood lv 12 (some (.ref x) :: t) (.ref x :: st) w)
  ∧ (∀ (lv : Nat) (st : List Value) (t : LX) (w : AH), Ex M_X2_flood lv 11 (some (.null) :: t) st w = Ex M_X2_flood lv 12 (some (.null) :: t) (.null :: st) w)
  ∧ (∀ (lv : Nat) (st : List Value) (t : LX) (o0 : Option Value) (x : Int64) (w : AH), Ex M_X2_flood lv 12 (o0 :: some (.long x) :: t) st w = Ex M_X2_flood lv 13 (o0 :: some (.long x) :: t) (.long x :: st) w)
  ∧ (∀ (lv : Nat) (l : LX) (a0 : Int64) (s0 : Nat) (w : AH), Ex M_X2_flood lv 13 l (.long a0 :: [.ref s0]) w = if (Call M_J13_bitCount_95d88 60 [.long a0] w).isSome = true then Ex M_X2_flood lv 16 l (pushR (cV (Call M_J13_bitCount_95d88 60 [.long a0] w)) [.ref s0]) (cW (Call M_J13_bitCount_95d88 60 [.long a0] w) w) else none)
  ∧ (∀ (lv : Nat) (l : LX) (b : Nat) (a0 : Int32) (w : AH), Ex M_X2_flood lv 16 l (.int a0 :: .ref b :: []) w = if clK (hg w b) = 2 then (if (Call M_X2_keepIfBetter 60 [.ref b, .int a0] w).isSome = true then Ex M_X2_flood lv 19 l (pushR (cV (Call M_X2_keepIfBetter 60 [.ref b, .int a0] w)) []) (cW (Call M_X2_keepIfBetter 60 [.ref b, .int a0] w) w) else none) else none)
  ∧ (∀ (lv : Nat) (l : LX) (w : AH), Ex M_X2_flood lv 19 l [] w = some (none, w))
  ∧ (∀ (lv : Nat) (l : LX) (st : List Value) (w : AH), Ex M_X2_flood lv 20 l st w = Ex M_X2_flood lv 21 l (.int 1 :: st) w)
  ∧ (∀ (lv : Nat) (l : LX) (st : List Value) (x : Int32) (w : AH), Ex M_X2_flood lv 21 l (.int x :: st) w = Ex M_X2_flood lv 23 (ls1 l 5 (.int x)) st w)
  ∧ (∀ (lv : Nat) (l : LX) (st : List Value) (w : AH), Ex M_X2_flood lv 25 l st w = Ex M_X2_flood lv 27 l (.int 8 :: st) w)
  ∧ (∀ (lv : Nat) (l : LX) (st : List Value) (x y : Int32) (w : AH), Ex M_X2_flood lv 27 l (.int y :: .int x :: st) w = if y ≤ x then Ex M_X2_flood lv 66 l st w else Ex M_X2_flood lv 30 l st w)
  ∧ (∀ (lv : Nat) (st : List Value) (t : LX) (x : Nat) (w : AH), Ex M_X2_flood lv 30 (some (.ref x) :: t) st w = Ex M_X2_flood lv 31 (some (.ref x) :: t) (.ref x :: st) w)
  ∧ (∀ (lv : Nat) (st : List Value) (t : LX) (w : AH), Ex M_X2_flood lv 30 (some (.null) :: t) st w = Ex M_X2_flood lv 31 (some (.null) :: t) (.null :: st) w)
  ∧ (∀ (lv : Nat) (l : LX) (st : List Value) (a : Nat) (w : AH), Ex M_X2_flood lv 31 l (.ref a :: st) w = if (gf (hg w a) 2 1).isSome = true then Ex M_X2_flood lv 34 l (vV (gf (hg w a) 2 1) :: st) w else none)
  ∧ (∀ (lv : Nat) (st : List Value) (t : LX) (o0 o1 o2 : Option Value) (x : Int32) (w : AH), Ex M_X2_flood lv 34 (o0 :: o1 :: o2 :: some (.int x) :: t) st w = Ex M_X2_flood lv 35 (o0 :: o1 :: o2 :: some (.int x) :: t) (.int x :: st) w)
  ∧ (∀ (lv : Nat) (st : List Value) (t : LX) (o0 o1 o2 o3 o4 : Option Value) (x : Int32) (w : AH), Ex M_X2_flood lv 35 (o0 :: o1 :: o2 :: o3 :: o4 :: some (.int x) :: t) st w = Ex M_X2_flood lv 37 (o0 :: o1 :: o2 :: o3 :: o4 :: some (.int x) :: t) (.int x :: st) w)
  ∧ (∀ (lv : Nat) (l : LX) (st : List Value) (a : Nat) (i : Int32) (x : Int32) (w : AH), Ex M_X2_flood lv 37 l (.int x :: .int i :: .ref a :: st) w = if (uI (hg w a) i x).isSome = true then Ex M_X2_flood lv 38 l st (hs w a (vE (uI (hg w a) i x))) else none)
  ∧ (∀ (lv : Nat) (st : List Value) (t : LX) (x : Nat) (w : AH), Ex M_X2_flood lv 38 (some (.ref x) :: t) st w = Ex M_X2_flood lv 39 (some (.ref x) :: t) (.ref x :: st) w)
  ∧ (∀ (lv : Nat) (st : List Value) (t : LX) (w : AH), Ex M_X2_flood lv 38 (some (.null) :: t) st w = Ex M_X2_flood lv 39 (some (.null) :: t) (.null :: st) w)
  ∧ (∀ (lv : Nat) (st : List Value) (t : LX) (o0 : Option Value) (x : Int64) (w : AH), Ex M_X2_flood lv 39 (o0 :: some (.long x) :: t) st w = Ex M_X2_flood lv 40 (o0 :: some (.long x) :: t) (.long x :: st) w)
  ∧ (∀ (lv : Nat) (st : List Value) (t : LX) (o0 : Option Value) (x : Int64) (w : AH), Ex M_X2_flood lv 40 (o0 :: some (.long x) :: t) st w = Ex M_X2_flood lv 41 (o0 :: some (.long x) :: t) (.long x :: st) w)
  ∧ (∀ (lv : Nat) (st : List Value) (t : LX) (x : Nat) (w : AH), Ex M_X2_flood lv 41 (some (.ref x) :: t) st w = Ex M_X2_flood lv 42 (some (.ref x) :: t) (.ref x :: st) w)
  ∧ (∀ (lv : Nat) (st : List Value) (t : LX) (w : AH), Ex M_X2_flood lv 41 (some (.null) :: t) st w = Ex M_X2_flood lv 42 (some (.null) :: t) (.null :: st) w)
  ∧ (∀ (lv : Nat) (l : LX) (st : List Value) (a : Nat) (w : AH), Ex M_X2_flood lv 42 l (.ref a :: st) w = if (gf (hg w a) 2 0).isSome = true then Ex M_X2_flood lv 45 l (vV (gf (hg w a) 2 0) :: st) w else none)
  ∧ (∀ (lv : Nat) (st : List Value) (t : LX) (o0 o1 o2 o3 o4 : Option Value) (x : Int32) (w : AH), Ex M_X2_flood lv 45 (o0 :: o1 :: o2 :: o3 :: o4 :: some (.int x) :: t) st w = Ex M_X2_flood lv 47 (o0 :: o1 :: o2 :: o3 :: o4 :: some (.int x) :: t) (.int x :: st) w)
  ∧ (∀ (lv : Nat) (l : LX) (st : List Value) (a : Nat) (i : Int32) (w : AH), Ex M_X2_flood lv 47 l (.int i :: .ref a :: st) w = if (aJ (hg w a) i).isSome = true then Ex M_X2_flood lv 48 l (.long (vJ (aJ (hg w a) i)) :: st) w else none)
  ∧ (∀ (lv : Nat) (l : LX) (st : List Value) (x y : Int64) (w : AH), Ex M_X2_flood lv 48 l (.long y :: .long x :: st) w = Ex M_X2_flood lv 49 l (.long (x ||| y) :: st) w)
  ∧ (∀ (lv : Nat) (l : LX) (a0 : Int64) (a1 : Int64) (s0 : Nat) (w : AH), Ex M_X2_flood lv 49 l (.long a1 :: .long a0 :: [.ref s0]) w = if (Call M_X7_grown 60 [.long a0, .long a1] w).isSome = true then Ex M_X2_flood lv 52 l (pushR (cV (Call M_X7_grown 60 [.long a0, .long a1] w)) [.ref s0]) (cW (Call M_X7_grown 60 [.long a0, .long a1] w) w) else none)
  ∧ (∀ (lv : Nat) (st : List Value) (t : LX) (o0 o1 o2 : Option Value) (x : Int32) (w : AH), Ex M_X2_flood lv 52 (o0 :: o1 :: o2 :: some (.int x) :: t) st w = Ex M_X2_flood lv 53 (o0 :: o1 :: o2 :: some (.int x) :: t) (.int x :: st) w)
  ∧ (∀ (lv : Nat) (l : LX) (st : List Value) (w : AH), Ex M_X2_flood lv 53 l st w = Ex M_X2_flood lv 54 l (.int 1 :: st) w)
  ∧ (∀ (lv : Nat) (l : LX) (st : List Value) (x y : Int32) (w : AH), Ex M_X2_flood lv 54 l (.int y :: .int x :: st) w = Ex M_X2_flood lv 55 l (.int (x + y) :: st) w)
  ∧ (∀ (lv : Nat) (st : List Value) (t : LX) (o0 o1 o2 o3 : Option Value) (x : Int32) (w : AH), Ex M_X2_flood lv 55 (o0 :: o1 :: o2 :: o3 :: some (.int x) :: t) st w = Ex M_X2_flood lv 57 (o0 :: o1 :: o2 :: o3 :: some (.int x) :: t) (.int x :: st) w)
  ∧ (∀ (lv : Nat) (l : LX) (b : Nat) (a0 : Int64) (a1 : Int32) (a2 : Int32) (w : AH), Ex M_X2_flood (lv + 1) 57 l (.int a2 :: .int a1 :: .long a0 :: .ref b :: []) w = if clK (hg w b) = 2 then (if (Call M_X2_flood lv [.ref b, .long a0, .int a1, .int a2] w).isSome = true then Ex M_X2_flood (lv + 1) 60 l (pushR (cV (Call M_X2_flood lv [.ref b, .long a0, .int a1, .int a2] w)) []) (cW (Call M_X2_flood lv [.ref b, .long a0, .int a1, .int a2] w) w) else none) else none)
  ∧ (∀ (lv : Nat) (st : List Value) (t : LX) (o0 o1 o2 o3 o4 : Option Value) (x : Int32) (w : AH), Ex M_X2_flood lv 60 (o0 :: o1 :: o2 :: o3 :: o4 :: some (.int x) :: t) st w = Ex M_X2_flood lv 63 (ls1 (o0 :: o1 :: o2 :: o3 :: o4 :: some (.int x) :: t) 5 (.int (x + 1))) st w)
  ∧ (∀ (lv : Nat) (l : LX) (st : List Value) (w : AH), Ex M_X2_flood lv 63 l st w = Ex M_X2_flood lv 23 l st w)
  ∧ (∀ (lv : Nat) (l : LX) (w : AH), Ex M_X2_flood lv 66 l [] w = some (none, w)) :=
  ⟨(fun lv st t o0 o1 o2 x w => Ex_M (i := .iload_n 3) (n := 1) (by decide +kernel) rfl rfl rfl),
   (fun lv st t o0 o1 o2 o3 x w => Ex_M (i := .iload 4) (n := 2) (by decide +kernel) rfl rfl rfl),
   (fun lv l st x y w => Ex_icmp_ge (by decide +kernel : decode M_X2_flood.2.1 3 = .ok (.if_icmp .ge 8, 3)) rfl rfl),
   (fun lv st t o0 o1 o2 x w => Ex_M (i := .iload_n 3) (n := 1) (by decide +kernel) rfl rfl rfl),
   (fun lv l st w => Ex_A (i := .iconst 3) (n := 1) (by decide +kernel) rfl rfl),
   (fun lv l st x y w => Ex_icmp_lt (by decide +kernel : decode M_X2_flood.2.1 8 = .ok (.if_icmp .lt 12, 3)) rfl rfl),
   (fun lv st t x w => Ex_M (i := .aload_n 0) (n := 1) (by decide +kernel) rfl rfl rfl),
   (fun lv st t w => Ex_M (i := .aload_n 0) (n := 1) (by decide +kernel) rfl rfl rfl),
   (fun lv st t o0 x w => Ex_M (i := .lload_n 1) (n := 1) (by decide +kernel) rfl rfl rfl),
   (fun lv l a0 s0 w => Ex_callS (by decide +kernel : decode M_X2_flood.2.1 13 = .ok (.invokestatic 43, 3)) rfl (by rfl : resM (mCn M_X2_flood) 43 = some (0, M_J13_bitCount_95d88)) (by decide) rfl (by rfl) (Nat.le_of_ble_eq_true rfl) (sLv_lt (by decide +kernel))),
   (fun lv l b a0 w => Ex_callV (by decide +kernel : decode M_X2_flood.2.1 16 = .ok (.invokevirtual 49, 3)) rfl (by rfl : resM (mCn M_X2_flood) 49 = some (2, M_X2_keepIfBetter)) rfl (by rfl) (Nat.le_of_ble_eq_true rfl) (by decide +kernel) (sLv_lt (by decide +kernel))),
   (fun lv l w => Ex_R (i := .return_) (n := 1) (by decide +kernel) rfl rfl rfl rfl rfl),
   (fun lv l st w => Ex_A (i := .iconst 1) (n := 1) (by decide +kernel) rfl rfl),
   (fun lv l st x w => Ex_M (i := .istore 5) (n := 2) (by decide +kernel) rfl rfl rfl),
   (fun lv l st w => Ex_A (i := .bipush 8) (n := 2) (by decide +kernel) rfl rfl),
   (fun lv l st x y w => Ex_icmp_ge (by decide +kernel : decode M_X2_flood.2.1 27 = .ok (.if_icmp .ge 39, 3)) rfl rfl),
   (fun lv st t x w => Ex_M (i := .aload_n 0) (n := 1) (by decide +kernel) rfl rfl rfl),
   (fun lv st t w => Ex_M (i := .aload_n 0) (n := 1) (by decide +kernel) rfl rfl rfl),
   (fun lv l st a w => Ex_getf (by decide +kernel : decode M_X2_flood.2.1 31 = .ok (.getfield 15, 3)) rfl (by decide +kernel : resF (mCn M_X2_flood) 15 = some (2, 1, (.array .int), true))),
   (fun lv st t o0 o1 o2 x w => Ex_M (i := .iload_n 3) (n := 1) (by decide +kernel) rfl rfl rfl),
   (fun lv st t o0 o1 o2 o3 o4 x w => Ex_M (i := .iload 5) (n := 2) (by decide +kernel) rfl rfl rfl),
   (fun lv l st a i x w => Ex_ias (by decide +kernel : decode M_X2_flood.2.1 37 = .ok (.iastore, 1)) rfl),
   (fun lv st t x w => Ex_M (i := .aload_n 0) (n := 1) (by decide +kernel) rfl rfl rfl),
   (fun lv st t w => Ex_M (i := .aload_n 0) (n := 1) (by decide +kernel) rfl rfl rfl),
   (fun lv st t o0 x w => Ex_M (i := .lload_n 1) (n := 1) (by decide +kernel) rfl rfl rfl),
   (fun lv st t o0 x w => Ex_M (i := .lload_n 1) (n := 1) (by decide +kernel) rfl rfl rfl),
   (fun lv st t x w => Ex_M (i := .aload_n 0) (n := 1) (by decide +kernel) rfl rfl rfl),
   (fun lv st t w => Ex_M (i := .aload_n 0) (n := 1) (by decide +kernel) rfl rfl rfl),
   (fun lv l st a w => Ex_getf (by decide +kernel : decode M_X2_flood.2.1 42 = .ok (.getfield 9, 3)) rfl (by decide +kernel : resF (mCn M_X2_flood) 9 = some (2, 0, (.array .long), true))),
   (fun lv st t o0 o1 o2 o3 o4 x w => Ex_M (i := .iload 5) (n := 2) (by decide +kernel) rfl rfl rfl),
   (fun lv l st a i w => Ex_lal (by decide +kernel : decode M_X2_flood.2.1 47 = .ok (.laload, 1)) rfl),
   (fun lv l st x y w => Ex_A (i := .lor) (n := 1) (by decide +kernel) rfl rfl),
   (fun lv l a0 a1 s0 w => Ex_callS (by decide +kernel : decode M_X2_flood.2.1 49 = .ok (.invokestatic 53, 3)) rfl (by rfl : resM (mCn M_X2_flood) 53 = some (0, M_X7_grown)) (by decide) rfl (by rfl) (Nat.le_of_ble_eq_true rfl) (sLv_lt (by decide +kernel))),
   (fun lv st t o0 o1 o2 x w => Ex_M (i := .iload_n 3) (n := 1) (by decide +kernel) rfl rfl rfl),
   (fun lv l st w => Ex_A (i := .iconst 1) (n := 1) (by decide +kernel) rfl rfl),
   (fun lv l st x y w => Ex_A (i := .iadd) (n := 1) (by decide +kernel) rfl rfl),
   (fun lv st t o0 o1 o2 o3 x w => Ex_M (i := .iload 4) (n := 2) (by decide +kernel) rfl rfl rfl),
   (fun lv l b a0 a1 a2 w => Ex_callV (by decide +kernel : decode M_X2_flood.2.1 57 = .ok (.invokevirtual 35, 3)) rfl (by rfl : resM (mCn M_X2_flood) 35 = some (2, M_X2_flood)) rfl (by rfl) (Nat.le_of_ble_eq_true rfl) (by decide +kernel) (sLv_eq (by decide +kernel))),
   (fun lv st t o0 o1 o2 o3 o4 x w => Ex_iinc (by decide +kernel : decode M_X2_flood.2.1 60 = .ok (.iinc 5 1, 3)) rfl rfl (by decide) (by decide)),
   (fun lv l st w => Ex_goto (by decide +kernel : decode M_X2_flood.2.1 63 = .ok (.goto (-40), 3)) rfl),
   (fun lv l w => Ex_R (i := .return_) (n := 1) (by decide +kernel) rfl rfl rfl rfl rfl)⟩
set_option maxRecDepth 20000 in
set_option maxHeartbeats 4000000 in
theorem R_X2_keepIfBetter : (∀ (lv : Nat) (st : List Value) (t : LX) (o0 : Option Value) (x : Int32) (w : AH), Ex M_X2_keepIfBetter lv 0 (o0 :: some (.int x) :: t) st w = Ex M_X2_keepIfBetter lv 1 (o0 :: some (.int x) :: t) (.int x :: st) w)
  ∧ (∀ (lv : Nat) (st : List Value) (t : LX) (x : Nat) (w : AH), Ex M_X2_keepIfBetter lv 1 (some (.ref x) :: t) st w = Ex M_X2_keepIfBetter lv 2 (some (.ref x) :: t) (.ref x :: st) w)
  ∧ (∀ (lv : Nat) (st : List Value) (t : LX) (w : AH), Ex M_X2_keepIfBetter lv 1 (some (.null) :: t) st w = Ex M_X2_keepIfBetter lv 2 (some (.null) :: t) (.null :: st) w)
  ∧ (∀ (lv : Nat) (l : LX) (st : List Value) (a : Nat) (w : AH), Ex M_X2_keepIfBetter lv 2 l (.ref a :: st) w = if (gf (hg w a) 2 3).isSome = true then Ex M_X2_keepIfBetter lv 5 l (vV (gf (hg w a) 2 3) :: st) w else none)
  ∧ (∀ (lv : Nat) (l : LX) (st : List Value) (x y : Int32) (w : AH), Ex M_X2_keepIfBetter lv 5 l (.int y :: .int x :: st) w = if y < x then Ex M_X2_keepIfBetter lv 9 l st w else Ex M_X2_keepIfBetter lv 8 l st w)
  ∧ (∀ (lv : Nat) (l : LX) (w : AH), Ex M_X2_keepIfBetter lv 8 l [] w = some (none, w))
  ∧ (∀ (lv : Nat) (st : List Value) (t : LX) (x : Nat) (w : AH), Ex M_X2_keepIfBetter lv 9 (some (.ref x) :: t) st w = Ex M_X2_keepIfBetter lv 10 (some (.ref x) :: t) (.ref x :: st) w)
  ∧ (∀ (lv : Nat) (st : List Value) (t : LX) (w : AH), Ex M_X2_keepIfBetter lv 9 (some (.null) :: t) st w = Ex M_X2_keepIfBetter lv 10 (some (.null) :: t) (.null :: st) w)
  ∧ (∀ (lv : Nat) (st : List Value) (t : LX) (o0 : Option Value) (x : Int32) (w : AH), Ex M_X2_keepIfBetter lv 10 (o0 :: some (.int x) :: t) st w = Ex M_X2_keepIfBetter lv 11 (o0 :: some (.int x) :: t) (.int x :: st) w)
  ∧ (∀ (lv : Nat) (l : LX) (st : List Value) (a : Nat) (v : Value) (w : AH), Ex M_X2_keepIfBetter lv 11 l (v :: .ref a :: st) w = if (pf (hg w a) 2 3 .int v).isSome = true then Ex M_X2_keepIfBetter lv 14 l st (hs w a (vE (pf (hg w a) 2 3 .int v))) else none)
  ∧ (∀ (lv : Nat) (st : List Value) (t : LX) (x : Nat) (w : AH), Ex M_X2_keepIfBetter lv 14 (some (.ref x) :: t) st w = Ex M_X2_keepIfBetter lv 15 (some (.ref x) :: t) (.ref x :: st) w)
  ∧ (∀ (lv : Nat) (st : List Value) (t : LX) (w : AH), Ex M_X2_keepIfBetter lv 14 (some (.null) :: t) st w = Ex M_X2_keepIfBetter lv 15 (some (.null) :: t) (.null :: st) w)
  ∧ (∀ (lv : Nat) (l : LX) (st : List Value) (a : Nat) (w : AH), Ex M_X2_keepIfBetter lv 15 l (.ref a :: st) w = if (gf (hg w a) 2 1).isSome = true then Ex M_X2_keepIfBetter lv 18 l (vV (gf (hg w a) 2 1) :: st) w else none)
  ∧ (∀ (lv : Nat) (l : LX) (st : List Value) (w : AH), Ex M_X2_keepIfBetter lv 18 l st w = Ex M_X2_keepIfBetter lv 19 l (.int 0 :: st) w)
  ∧ (∀ (lv : Nat) (st : List Value) (t : LX) (x : Nat) (w : AH), Ex M_X2_keepIfBetter lv 19 (some (.ref x) :: t) st w = Ex M_X2_keepIfBetter lv 20 (some (.ref x) :: t) (.ref x :: st) w)
  ∧ (∀ (lv : Nat) (st : List Value) (t : LX) (w : AH), Ex M_X2_keepIfBetter lv 19 (some (.null) :: t) st w = Ex M_X2_keepIfBetter lv 20 (some (.null) :: t) (.null :: st) w)
  ∧ (∀ (lv : Nat) (l : LX) (st : List Value) (a : Nat) (w : AH), Ex M_X2_keepIfBetter lv 20 l (.ref a :: st) w = if (gf (hg w a) 2 2).isSome = true then Ex M_X2_keepIfBetter lv 23 l (vV (gf (hg w a) 2 2) :: st) w else none)
  ∧ (∀ (lv : Nat) (l : LX) (st : List Value) (w : AH), Ex M_X2_keepIfBetter lv 23 l st w = Ex M_X2_keepIfBetter lv 24 l (.int 0 :: st) w)
  ∧ (∀ (lv : Nat) (l : LX) (st : List Value) (w : AH), Ex M_X2_keepIfBetter lv 24 l st w = Ex M_X2_keepIfBetter lv 25 l (.int 3 :: st) w)
  ∧ (∀ (lv : Nat) (l : LX) (a b : Nat) (sp dp k : Int32) (w : AH), Ex M_X2_keepIfBetter lv 25 l (.int k :: .int dp :: .ref b :: .int sp :: .ref a :: []) w = if (aC (hg w a) (hg w b) sp dp k).isSome = true then Ex M_X2_keepIfBetter lv 28 l [] (hs w b (vE (aC (hg w a) (hg w b) sp dp k))) else none)
  ∧ (∀ (lv : Nat) (l : LX) (w : AH), Ex M_X2_keepIfBetter lv 28 l [] w = some (none, w)) :=
  ⟨(fun lv st t o0 x w => Ex_M (i := .iload_n 1) (n := 1) (by decide +kernel) rfl rfl rfl),
   (fun lv st t x w => Ex_M (i := .aload_n 0) (n := 1) (by decide +kernel) rfl rfl rfl),
   (fun lv st t w => Ex_M (i := .aload_n 0) (n := 1) (by decide +kernel) rfl rfl rfl),
   (fun lv l st a w => Ex_getf (by decide +kernel : decode M_X2_keepIfBetter.2.1 2 = .ok (.getfield 22, 3)) rfl (by decide +kernel : resF (mCn M_X2_keepIfBetter) 22 = some (2, 3, .int, false))),
   (fun lv l st x y w => Ex_icmp_gt (by decide +kernel : decode M_X2_keepIfBetter.2.1 5 = .ok (.if_icmp .gt 4, 3)) rfl rfl),
   (fun lv l w => Ex_R (i := .return_) (n := 1) (by decide +kernel) rfl rfl rfl rfl rfl),
   (fun lv st t x w => Ex_M (i := .aload_n 0) (n := 1) (by decide +kernel) rfl rfl rfl),
   (fun lv st t w => Ex_M (i := .aload_n 0) (n := 1) (by decide +kernel) rfl rfl rfl),
   (fun lv st t o0 x w => Ex_M (i := .iload_n 1) (n := 1) (by decide +kernel) rfl rfl rfl),
   (fun lv l st a v w => Ex_putf (by decide +kernel : decode M_X2_keepIfBetter.2.1 11 = .ok (.putfield 22, 3)) rfl (by decide +kernel : resF (mCn M_X2_keepIfBetter) 22 = some (2, 3, .int, false)) (by decide +kernel)),
   (fun lv st t x w => Ex_M (i := .aload_n 0) (n := 1) (by decide +kernel) rfl rfl rfl),
   (fun lv st t w => Ex_M (i := .aload_n 0) (n := 1) (by decide +kernel) rfl rfl rfl),
   (fun lv l st a w => Ex_getf (by decide +kernel : decode M_X2_keepIfBetter.2.1 15 = .ok (.getfield 15, 3)) rfl (by decide +kernel : resF (mCn M_X2_keepIfBetter) 15 = some (2, 1, (.array .int), true))),
   (fun lv l st w => Ex_A (i := .iconst 0) (n := 1) (by decide +kernel) rfl rfl),
   (fun lv st t x w => Ex_M (i := .aload_n 0) (n := 1) (by decide +kernel) rfl rfl rfl),
   (fun lv st t w => Ex_M (i := .aload_n 0) (n := 1) (by decide +kernel) rfl rfl rfl),
   (fun lv l st a w => Ex_getf (by decide +kernel : decode M_X2_keepIfBetter.2.1 20 = .ok (.getfield 19, 3)) rfl (by decide +kernel : resF (mCn M_X2_keepIfBetter) 19 = some (2, 2, (.array .int), true))),
   (fun lv l st w => Ex_A (i := .iconst 0) (n := 1) (by decide +kernel) rfl rfl),
   (fun lv l st w => Ex_A (i := .iconst 3) (n := 1) (by decide +kernel) rfl rfl),
   (fun lv l a b sp dp k w => Ex_acopy (by decide +kernel : decode M_X2_keepIfBetter.2.1 25 = .ok (.invokestatic 59, 3)) rfl (by rfl : resM (mCn M_X2_keepIfBetter) 59 = some (7, M_X0_init)) (by rfl)),
   (fun lv l w => Ex_R (i := .return_) (n := 1) (by decide +kernel) rfl rfl rfl rfl rfl)⟩
set_option maxRecDepth 20000 in
set_option maxHeartbeats 4000000 in
theorem R_X3_init : (∀ (lv : Nat) (st : List Value) (t : LX) (x : Nat) (w : AH), Ex M_X3_init lv 0 (some (.ref x) :: t) st w = Ex M_X3_init lv 1 (some (.ref x) :: t) (.ref x :: st) w)
  ∧ (∀ (lv : Nat) (st : List Value) (t : LX) (w : AH), Ex M_X3_init lv 0 (some (.null) :: t) st w = Ex M_X3_init lv 1 (some (.null) :: t) (.null :: st) w)
  ∧ (∀ (lv : Nat) (l : LX) (b : Nat) (w : AH), Ex M_X3_init lv 1 l (.ref b :: []) w = Ex M_X3_init lv 4 l [] w)
  ∧ (∀ (lv : Nat) (st : List Value) (t : LX) (x : Nat) (w : AH), Ex M_X3_init lv 4 (some (.ref x) :: t) st w = Ex M_X3_init lv 5 (some (.ref x) :: t) (.ref x :: st) w)
  ∧ (∀ (lv : Nat) (st : List Value) (t : LX) (w : AH), Ex M_X3_init lv 4 (some (.null) :: t) st w = Ex M_X3_init lv 5 (some (.null) :: t) (.null :: st) w)
  ∧ (∀ (lv : Nat) (l : LX) (st : List Value) (w : AH), Ex M_X3_init lv 5 l st w = Ex M_X3_init lv 8 l (.ref w.1 :: st) (hn w (.inr (6, [.null, .int 0])) 2))
  ∧ (∀ (lv : Nat) (l : LX) (st : List Value) (x : Nat) (w : AH), Ex M_X3_init lv 8 l (.ref x :: st) w = Ex M_X3_init lv 9 l (.ref x :: .ref x :: st) w)
  ∧ (∀ (lv : Nat) (l : LX) (st : List Value) (w : AH), Ex M_X3_init lv 9 l st w = Ex M_X3_init lv 11 l (.int 50 :: st) w)
  ∧ (∀ (lv : Nat) (l : LX) (b : Nat) (a0 : Int32) (s0 : Nat) (s1 : Nat) (w : AH), Ex M_X3_init lv 11 l (.int a0 :: .ref b :: [.ref s0, .ref s1]) w = if (Call M_X6_init 60 [.ref b, .int a0] w).isSome = true then Ex M_X3_init lv 14 l (pushR (cV (Call M_X6_init 60 [.ref b, .int a0] w)) [.ref s0, .ref s1]) (cW (Call M_X6_init 60 [.ref b, .int a0] w) w) else none)
  ∧ (∀ (lv : Nat) (l : LX) (st : List Value) (a : Nat) (v : Value) (w : AH), Ex M_X3_init lv 14 l (v :: .ref a :: st) w = if (pf (hg w a) 3 0 (.object "CarpetLands$Row") v).isSome = true then Ex M_X3_init lv 17 l st (hs w a (vE (pf (hg w a) 3 0 (.object "CarpetLands$Row") v))) else none)
  ∧ (∀ (lv : Nat) (st : List Value) (t : LX) (x : Nat) (w : AH), Ex M_X3_init lv 17 (some (.ref x) :: t) st w = Ex M_X3_init lv 18 (some (.ref x) :: t) (.ref x :: st) w)
  ∧ (∀ (lv : Nat) (st : List Value) (t : LX) (w : AH), Ex M_X3_init lv 17 (some (.null) :: t) st w = Ex M_X3_init lv 18 (some (.null) :: t) (.null :: st) w)
  ∧ (∀ (lv : Nat) (l : LX) (st : List Value) (w : AH), Ex M_X3_init lv 18 l st w = Ex M_X3_init lv 20 l (.int 50 :: st) w)
  ∧ (∀ (lv : Nat) (l : LX) (st : List Value) (w : AH), Ex M_X3_init lv 20 l (.int 50 :: st) w = Ex M_X3_init lv 22 l (.ref w.1 :: st) (hn w (.inl (0, 50, .inl (fun _ => 0))) 50))
  ∧ (∀ (lv : Nat) (l : LX) (st : List Value) (a : Nat) (v : Value) (w : AH), Ex M_X3_init lv 22 l (v :: .ref a :: st) w = if (pf (hg w a) 3 1 (.array .int) v).isSome = true then Ex M_X3_init lv 25 l st (hs w a (vE (pf (hg w a) 3 1 (.array .int) v))) else none)
  ∧ (∀ (lv : Nat) (l : LX) (w : AH), Ex M_X3_init lv 25 l [] w = some (none, w)) :=
  ⟨(fun lv st t x w => Ex_M (i := .aload_n 0) (n := 1) (by decide +kernel) rfl rfl rfl),
   (fun lv st t w => Ex_M (i := .aload_n 0) (n := 1) (by decide +kernel) rfl rfl rfl),
   (fun lv l b w => Ex_oinit (by decide +kernel : decode M_X3_init.2.1 1 = .ok (.invokespecial 3, 3)) rfl (by rfl : resM (mCn M_X3_init) 3 = some (6, M_X0_init)) (by rfl)),
   (fun lv st t x w => Ex_M (i := .aload_n 0) (n := 1) (by decide +kernel) rfl rfl rfl),
   (fun lv st t w => Ex_M (i := .aload_n 0) (n := 1) (by decide +kernel) rfl rfl rfl),
   (fun lv l st w => Ex_new (by decide +kernel : decode M_X3_init.2.1 5 = .ok (.new 9, 3)) rfl (by decide +kernel) rfl rfl),
   (fun lv l st x w => Ex_A (i := .dup) (n := 1) (by decide +kernel) rfl rfl),
   (fun lv l st w => Ex_A (i := .bipush 50) (n := 2) (by decide +kernel) rfl rfl),
   (fun lv l b a0 s0 s1 w => Ex_callI (by decide +kernel : decode M_X3_init.2.1 11 = .ok (.invokespecial 11, 3)) rfl (by rfl : resM (mCn M_X3_init) 11 = some (3, M_X6_init)) (by decide) rfl (by rfl) (Nat.le_of_ble_eq_true rfl) (sLv_lt (by decide +kernel))),
   (fun lv l st a v w => Ex_putf (by decide +kernel : decode M_X3_init.2.1 14 = .ok (.putfield 14, 3)) rfl (by decide +kernel : resF (mCn M_X3_init) 14 = some (3, 0, (.object "CarpetLands$Row"), true)) (by decide +kernel)),
   (fun lv st t x w => Ex_M (i := .aload_n 0) (n := 1) (by decide +kernel) rfl rfl rfl),
   (fun lv st t w => Ex_M (i := .aload_n 0) (n := 1) (by decide +kernel) rfl rfl rfl),
   (fun lv l st w => Ex_A (i := .bipush 50) (n := 2) (by decide +kernel) rfl rfl),
   (fun lv l st w => Ex_newa (by decide +kernel : decode M_X3_init.2.1 20 = .ok (.newarray .int, 2)) rfl (by decide) (by decide) rfl),
   (fun lv l st a v w => Ex_putf (by decide +kernel : decode M_X3_init.2.1 22 = .ok (.putfield 20, 3)) rfl (by decide +kernel : resF (mCn M_X3_init) 20 = some (3, 1, (.array .int), true)) (by decide +kernel)),
   (fun lv l w => Ex_R (i := .return_) (n := 1) (by decide +kernel) rfl rfl rfl rfl rfl)⟩
set_option maxRecDepth 20000 in
set_option maxHeartbeats 4000000 in
theorem R_X3_isThere : (∀ (lv : Nat) (st : List Value) (t : LX) (x : Nat) (w : AH), Ex M_X3_isThere lv 0 (some (.ref x) :: t) st w = Ex M_X3_isThere lv 1 (some (.ref x) :: t) (.ref x :: st) w)
  ∧ (∀ (lv : Nat) (st : List Value) (t : LX) (w : AH), Ex M_X3_isThere lv 0 (some (.null) :: t) st w = Ex M_X3_isThere lv 1 (some (.null) :: t) (.null :: st) w)
  ∧ (∀ (lv : Nat) (l : LX) (st : List Value) (a : Nat) (w : AH), Ex M_X3_isThere lv 1 l (.ref a :: st) w = if (gf (hg w a) 3 0).isSome = true then Ex M_X3_isThere lv 4 l (vV (gf (hg w a) 3 0) :: st) w else none)
  ∧ (∀ (lv : Nat) (l : LX) (st : List Value) (a : Nat) (w : AH), Ex M_X3_isThere lv 4 l (.ref a :: st) w = if (gf (hg w a) 6 1).isSome = true then Ex M_X3_isThere lv 7 l (vV (gf (hg w a) 6 1) :: st) w else none)
  ∧ (∀ (lv : Nat) (l : LX) (st : List Value) (x : Int32) (w : AH), Ex M_X3_isThere lv 7 l (.int x :: st) w = if x ≤ 0 then Ex M_X3_isThere lv 14 l st w else Ex M_X3_isThere lv 10 l st w)
  ∧ (∀ (lv : Nat) (l : LX) (st : List Value) (w : AH), Ex M_X3_isThere lv 10 l st w = Ex M_X3_isThere lv 11 l (.int 1 :: st) w)
  ∧ (∀ (lv : Nat) (l : LX) (st : List Value) (w : AH), Ex M_X3_isThere lv 11 l st w = Ex M_X3_isThere lv 15 l st w)
  ∧ (∀ (lv : Nat) (l : LX) (st : List Value) (w : AH), Ex M_X3_isThere lv 14 l st w = Ex M_X3_isThere lv 15 l (.int 0 :: st) w)
  ∧ (∀ (lv : Nat) (l : LX) (x : Int32) (w : AH), Ex M_X3_isThere lv 15 l [.int x] w = if x = 0 ∨ x = 1 then some (some (.int x), w) else none) :=
  ⟨(fun lv st t x w => Ex_M (i := .aload_n 0) (n := 1) (by decide +kernel) rfl rfl rfl),
   (fun lv st t w => Ex_M (i := .aload_n 0) (n := 1) (by decide +kernel) rfl rfl rfl),
   (fun lv l st a w => Ex_getf (by decide +kernel : decode M_X3_isThere.2.1 1 = .ok (.getfield 14, 3)) rfl (by decide +kernel : resF (mCn M_X3_isThere) 14 = some (3, 0, (.object "CarpetLands$Row"), true))),
   (fun lv l st a w => Ex_getf (by decide +kernel : decode M_X3_isThere.2.1 4 = .ok (.getfield 24, 3)) rfl (by decide +kernel : resF (mCn M_X3_isThere) 24 = some (6, 1, .int, false))),
   (fun lv l st x w => Ex_if_le (by decide +kernel : decode M_X3_isThere.2.1 7 = .ok (.ifCond .le 7, 3)) rfl rfl),
   (fun lv l st w => Ex_A (i := .iconst 1) (n := 1) (by decide +kernel) rfl rfl),
   (fun lv l st w => Ex_goto (by decide +kernel : decode M_X3_isThere.2.1 11 = .ok (.goto 4, 3)) rfl),
   (fun lv l st w => Ex_A (i := .iconst 0) (n := 1) (by decide +kernel) rfl rfl),
   (fun lv l x w => Ex_zret (by decide +kernel : decode M_X3_isThere.2.1 15 = .ok (.ireturn, 1)) rfl)⟩
set_option maxRecDepth 20000 in
set_option maxHeartbeats 4000000 in
theorem R_X3_learn : (∀ (lv : Nat) (st : List Value) (t : LX) (x : Nat) (w : AH), Ex M_X3_learn lv 0 (some (.ref x) :: t) st w = Ex M_X3_learn lv 1 (some (.ref x) :: t) (.ref x :: st) w)
  ∧ (∀ (lv : Nat) (st : List Value) (t : LX) (w : AH), Ex M_X3_learn lv 0 (some (.null) :: t) st w = Ex M_X3_learn lv 1 (some (.null) :: t) (.null :: st) w)
  ∧ (∀ (lv : Nat) (l : LX) (st : List Value) (a : Nat) (w : AH), Ex M_X3_learn lv 1 l (.ref a :: st) w = if (gf (hg w a) 3 0).isSome = true then Ex M_X3_learn lv 4 l (vV (gf (hg w a) 3 0) :: st) w else none)
  ∧ (∀ (lv : Nat) (st : List Value) (t : LX) (o0 : Option Value) (x : Nat) (w : AH), Ex M_X3_learn lv 4 (o0 :: some (.ref x) :: t) st w = Ex M_X3_learn lv 5 (o0 :: some (.ref x) :: t) (.ref x :: st) w)
  ∧ (∀ (lv : Nat) (st : List Value) (t : LX) (o0 : Option Value) (w : AH), Ex M_X3_learn lv 4 (o0 :: some (.null) :: t) st w = Ex M_X3_learn lv 5 (o0 :: some (.null) :: t) (.null :: st) w)
  ∧ (∀ (lv : Nat) (l : LX) (b : Nat) (a0 : Nat) (w : AH), Ex M_X3_learn lv 5 l (.ref a0 :: .ref b :: []) w = if clK (hg w b) = 6 then (if (Call M_X6_copyFrom 60 [.ref b, .ref a0] w).isSome = true then Ex M_X3_learn lv 8 l (pushR (cV (Call M_X6_copyFrom 60 [.ref b, .ref a0] w)) []) (cW (Call M_X6_copyFrom 60 [.ref b, .ref a0] w) w) else none) else none)
  ∧ (∀ (lv : Nat) (l : LX) (w : AH), Ex M_X3_learn lv 8 l [] w = some (none, w)) :=
  ⟨(fun lv st t x w => Ex_M (i := .aload_n 0) (n := 1) (by decide +kernel) rfl rfl rfl),
   (fun lv st t w => Ex_M (i := .aload_n 0) (n := 1) (by decide +kernel) rfl rfl rfl),
   (fun lv l st a w => Ex_getf (by decide +kernel : decode M_X3_learn.2.1 1 = .ok (.getfield 14, 3)) rfl (by decide +kernel : resF (mCn M_X3_learn) 14 = some (3, 0, (.object "CarpetLands$Row"), true))),
   (fun lv st t o0 x w => Ex_M (i := .aload_n 1) (n := 1) (by decide +kernel) rfl rfl rfl),
   (fun lv st t o0 w => Ex_M (i := .aload_n 1) (n := 1) (by decide +kernel) rfl rfl rfl),
   (fun lv l b a0 w => Ex_callV (by decide +kernel : decode M_X3_learn.2.1 5 = .ok (.invokevirtual 28, 3)) rfl (by rfl : resM (mCn M_X3_learn) 28 = some (2, M_X6_copyFrom)) rfl (by rfl) (Nat.le_of_ble_eq_true rfl) (by decide +kernel) (sLv_lt (by decide +kernel))),
   (fun lv l w => Ex_R (i := .return_) (n := 1) (by decide +kernel) rfl rfl rfl rfl rfl)⟩
set_option maxRecDepth 20000 in
theorem H_X3_workedOut_6 : ∀ (lv : Nat) (st : List Value) (t : LX) (o0 o1 o2 o3 o4 : Option Value) (x : Int32) (w : AH), Ex M_X3_workedOut lv 6 (o0 :: o1 :: o2 :: o3 :: o4 :: some (.int x) :: t) st w = Ex M_X3_workedOut lv 8 (o0 :: o1 :: o2 :: o3 :: o4 :: some (.int x) :: t) (.int x :: st) w := fun lv st t o0 o1 o2 o3 o4 x w => Ex_M (i := .iload 5) (n := 2) (by decide +kernel) rfl rfl rfl
set_option maxRecDepth 20000 in
set_option maxHeartbeats 4000000 in
theorem R_X3_workedOut_p0 : (∀ (lv : Nat) (l : LX) (st : List Value) (w : AH), Ex M_X3_workedOut lv 0 l st w = Ex M_X3_workedOut lv 1 l (.int 0 :: st) w)
  ∧ (∀ (lv : Nat) (l : LX) (st : List Value) (x : Int32) (w : AH), Ex M_X3_workedOut lv 1 l (.int x :: st) w = Ex M_X3_workedOut lv 3 (ls1 l 4 (.int x)) st w)
  ∧ (∀ (lv : Nat) (l : LX) (st : List Value) (w : AH), Ex M_X3_workedOut lv 3 l st w = Ex M_X3_workedOut lv 4 l (.int 0 :: st) w)
  ∧ (∀ (lv : Nat) (l : LX) (st : List Value) (x : Int32) (w : AH), Ex M_X3_workedOut lv 4 l (.int x :: st) w = Ex M_X3_workedOut lv 6 (ls1 l 5 (.int x)) st w)
  ∧ (∀ (lv : Nat) (st : List Value) (t : LX) (x : Nat) (w : AH), Ex M_X3_workedOut lv 8 (some (.ref x) :: t) st w = Ex M_X3_workedOut lv 9 (some (.ref x) :: t) (.ref x :: st) w)
  ∧ (∀ (lv : Nat) (st : List Value) (t : LX) (w : AH), Ex M_X3_workedOut lv 8 (some (.null) :: t) st w = Ex M_X3_workedOut lv 9 (some (.null) :: t) (.null :: st) w)
  ∧ (∀ (lv : Nat) (l : LX) (st : List Value) (a : Nat) (w : AH), Ex M_X3_workedOut lv 9 l (.ref a :: st) w = if (gf (hg w a) 3 0).isSome = true then Ex M_X3_workedOut lv 12 l (vV (gf (hg w a) 3 0) :: st) w else none)
  ∧ (∀ (lv : Nat) (l : LX) (st : List Value) (a : Nat) (w : AH), Ex M_X3_workedOut lv 12 l (.ref a :: st) w = if (gf (hg w a) 6 1).isSome = true then Ex M_X3_workedOut lv 15 l (vV (gf (hg w a) 6 1) :: st) w else none)
  ∧ (∀ (lv : Nat) (l : LX) (st : List Value) (x y : Int32) (w : AH), Ex M_X3_workedOut lv 15 l (.int y :: .int x :: st) w = if y ≤ x then Ex M_X3_workedOut lv 159 l st w else Ex M_X3_workedOut lv 18 l st w)
  ∧ (∀ (lv : Nat) (st : List Value) (t : LX) (x : Nat) (w : AH), Ex M_X3_workedOut lv 18 (some (.ref x) :: t) st w = Ex M_X3_workedOut lv 19 (some (.ref x) :: t) (.ref x :: st) w)
  ∧ (∀ (lv : Nat) (st : List Value) (t : LX) (w : AH), Ex M_X3_workedOut lv 18 (some (.null) :: t) st w = Ex M_X3_workedOut lv 19 (some (.null) :: t) (.null :: st) w)
  ∧ (∀ (lv : Nat) (l : LX) (st : List Value) (a : Nat) (w : AH), Ex M_X3_workedOut lv 19 l (.ref a :: st) w = if (gf (hg w a) 3 0).isSome = true then Ex M_X3_workedOut lv 22 l (vV (gf (hg w a) 3 0) :: st) w else none)
  ∧ (∀ (lv : Nat) (st : List Value) (t : LX) (o0 o1 o2 o3 o4 : Option Value) (x : Int32) (w : AH), Ex M_X3_workedOut lv 22 (o0 :: o1 :: o2 :: o3 :: o4 :: some (.int x) :: t) st w = Ex M_X3_workedOut lv 24 (o0 :: o1 :: o2 :: o3 :: o4 :: some (.int x) :: t) (.int x :: st) w)
  ∧ (∀ (lv : Nat) (l : LX) (b : Nat) (a0 : Int32) (w : AH), Ex M_X3_workedOut lv 24 l (.int a0 :: .ref b :: []) w = if clK (hg w b) = 6 then (if (Call M_X6_get 60 [.ref b, .int a0] w).isSome = true then Ex M_X3_workedOut lv 27 l (pushR (cV (Call M_X6_get 60 [.ref b, .int a0] w)) []) (cW (Call M_X6_get 60 [.ref b, .int a0] w) w) else none) else none)
  ∧ (∀ (lv : Nat) (l : LX) (st : List Value) (x : Int32) (w : AH), Ex M_X3_workedOut lv 27 l (.int x :: st) w = Ex M_X3_workedOut lv 29 (ls1 l 6 (.int x)) st w)
  ∧ (∀ (lv : Nat) (st : List Value) (t : LX) (o0 o1 o2 o3 o4 o5 : Option Value) (x : Int32) (w : AH), Ex M_X3_workedOut lv 29 (o0 :: o1 :: o2 :: o3 :: o4 :: o5 :: some (.int x) :: t) st w = Ex M_X3_workedOut lv 31 (o0 :: o1 :: o2 :: o3 :: o4 :: o5 :: some (.int x) :: t) (.int x :: st) w)
  ∧ (∀ (lv : Nat) (l : LX) (st : List Value) (w : AH), Ex M_X3_workedOut lv 31 l st w = Ex M_X3_workedOut lv 34 l (.int 10000 :: st) w)
  ∧ (∀ (lv : Nat) (l : LX) (st : List Value) (x y : Int32) (w : AH), Ex M_X3_workedOut lv 34 l (.int y :: .int x :: st) w = if y ≤ x then Ex M_X3_workedOut lv 68 l st w else Ex M_X3_workedOut lv 37 l st w)
  ∧ (∀ (lv : Nat) (st : List Value) (t : LX) (o0 o1 o2 o3 : Option Value) (x : Int32) (w : AH), Ex M_X3_workedOut lv 37 (o0 :: o1 :: o2 :: o3 :: some (.int x) :: t) st w = Ex M_X3_workedOut lv 39 (o0 :: o1 :: o2 :: o3 :: some (.int x) :: t) (.int x :: st) w)
  ∧ (∀ (lv : Nat) (st : List Value) (t : LX) (x : Nat) (w : AH), Ex M_X3_workedOut lv 39 (some (.ref x) :: t) st w = Ex M_X3_workedOut lv 40 (some (.ref x) :: t) (.ref x :: st) w)
  ∧ (∀ (lv : Nat) (st : List Value) (t : LX) (w : AH), Ex M_X3_workedOut lv 39 (some (.null) :: t) st w = Ex M_X3_workedOut lv 40 (some (.null) :: t) (.null :: st) w)
  ∧ (∀ (lv : Nat) (l : LX) (st : List Value) (a : Nat) (w : AH), Ex M_X3_workedOut lv 40 l (.ref a :: st) w = if (gf (hg w a) 3 1).isSome = true then Ex M_X3_workedOut lv 43 l (vV (gf (hg w a) 3 1) :: st) w else none)
  ∧ (∀ (lv : Nat) (l : LX) (st : List Value) (a : Nat) (w : AH), Ex M_X3_workedOut lv 43 l (.ref a :: st) w = if (aL (hg w a)).isSome = true then Ex M_X3_workedOut lv 44 l (.int (vI (aL (hg w a))) :: st) w else none)
  ∧ (∀ (lv : Nat) (l : LX) (st : List Value) (x y : Int32) (w : AH), Ex M_X3_workedOut lv 44 l (.int y :: .int x :: st) w = if y ≤ x then Ex M_X3_workedOut lv 153 l st w else Ex M_X3_workedOut lv 47 l st w)
  ∧ (∀ (lv : Nat) (st : List Value) (t : LX) (x : Nat) (w : AH), Ex M_X3_workedOut lv 47 (some (.ref x) :: t) st w = Ex M_X3_workedOut lv 48 (some (.ref x) :: t) (.ref x :: st) w)
  ∧ (∀ (lv : Nat) (st : List Value) (t : LX) (w : AH), Ex M_X3_workedOut lv 47 (some (.null) :: t) st w = Ex M_X3_workedOut lv 48 (some (.null) :: t) (.null :: st) w)
  ∧ (∀ (lv : Nat) (l : LX) (st : List Value) (a : Nat) (w : AH), Ex M_X3_workedOut lv 48 l (.ref a :: st) w = if (gf (hg w a) 3 1).isSome = true then Ex M_X3_workedOut lv 51 l (vV (gf (hg w a) 3 1) :: st) w else none)
  ∧ (∀ (lv : Nat) (st : List Value) (t : LX) (o0 o1 o2 o3 : Option Value) (x : Int32) (w : AH), Ex M_X3_workedOut lv 51 (o0 :: o1 :: o2 :: o3 :: some (.int x) :: t) st w = Ex M_X3_workedOut lv 53 (o0 :: o1 :: o2 :: o3 :: some (.int x) :: t) (.int x :: st) w)
  ∧ (∀ (lv : Nat) (st : List Value) (t : LX) (o0 o1 o2 o3 : Option Value) (x : Int32) (w : AH), Ex M_X3_workedOut lv 53 (o0 :: o1 :: o2 :: o3 :: some (.int x) :: t) st w = Ex M_X3_workedOut lv 56 (ls1 (o0 :: o1 :: o2 :: o3 :: some (.int x) :: t) 4 (.int (x + 1))) st w)
  ∧ (∀ (lv : Nat) (st : List Value) (t : LX) (o0 o1 o2 o3 o4 o5 : Option Value) (x : Int32) (w : AH), Ex M_X3_workedOut lv 56 (o0 :: o1 :: o2 :: o3 :: o4 :: o5 :: some (.int x) :: t) st w = Ex M_X3_workedOut lv 58 (o0 :: o1 :: o2 :: o3 :: o4 :: o5 :: some (.int x) :: t) (.int x :: st) w)
  ∧ (∀ (lv : Nat) (st : List Value) (t : LX) (o0 : Option Value) (x : Int32) (w : AH), Ex M_X3_workedOut lv 58 (o0 :: some (.int x) :: t) st w = Ex M_X3_workedOut lv 59 (o0 :: some (.int x) :: t) (.int x :: st) w)
  ∧ (∀ (lv : Nat) (st : List Value) (t : LX) (o0 o1 : Option Value) (x : Int32) (w : AH), Ex M_X3_workedOut lv 59 (o0 :: o1 :: some (.int x) :: t) st w = Ex M_X3_workedOut lv 60 (o0 :: o1 :: some (.int x) :: t) (.int x :: st) w)
  ∧ (∀ (lv : Nat) (st : List Value) (t : LX) (o0 o1 o2 : Option Value) (x : Int32) (w : AH), Ex M_X3_workedOut lv 60 (o0 :: o1 :: o2 :: some (.int x) :: t) st w = Ex M_X3_workedOut lv 61 (o0 :: o1 :: o2 :: some (.int x) :: t) (.int x :: st) w)
  ∧ (∀ (lv : Nat) (l : LX) (a0 : Int32) (a1 : Int32) (a2 : Int32) (a3 : Int32) (s0 : Int32) (s1 : Nat) (w : AH), Ex M_X3_workedOut lv 61 l (.int a3 :: .int a2 :: .int a1 :: .int a0 :: [.int s0, .ref s1]) w = if (Call M_X3_valueOf 60 [.int a0, .int a1, .int a2, .int a3] w).isSome = true then Ex M_X3_workedOut lv 64 l (pushR (cV (Call M_X3_valueOf 60 [.int a0, .int a1, .int a2, .int a3] w)) [.int s0, .ref s1]) (cW (Call M_X3_valueOf 60 [.int a0, .int a1, .int a2, .int a3] w) w) else none)
  ∧ (∀ (lv : Nat) (l : LX) (st : List Value) (a : Nat) (i : Int32) (x : Int32) (w : AH), Ex M_X3_workedOut lv 64 l (.int x :: .int i :: .ref a :: st) w = if (uI (hg w a) i x).isSome = true then Ex M_X3_workedOut lv 65 l st (hs w a (vE (uI (hg w a) i x))) else none)
  ∧ (∀ (lv : Nat) (l : LX) (st : List Value) (w : AH), Ex M_X3_workedOut lv 65 l st w = Ex M_X3_workedOut lv 153 l st w)
  ∧ (∀ (lv : Nat) (st : List Value) (t : LX) (o0 o1 o2 o3 o4 o5 : Option Value) (x : Int32) (w : AH), Ex M_X3_workedOut lv 68 (o0 :: o1 :: o2 :: o3 :: o4 :: o5 :: some (.int x) :: t) st w = Ex M_X3_workedOut lv 70 (o0 :: o1 :: o2 :: o3 :: o4 :: o5 :: some (.int x) :: t) (.int x :: st) w)
  ∧ (∀ (lv : Nat) (l : LX) (st : List Value) (w : AH), Ex M_X3_workedOut lv 70 l st w = Ex M_X3_workedOut lv 73 l (.int 10033 :: st) w)
  ∧ (∀ (lv : Nat) (l : LX) (st : List Value) (x y : Int32) (w : AH), Ex M_X3_workedOut lv 73 l (.int y :: .int x :: st) w = if ¬ x = y then Ex M_X3_workedOut lv 110 l st w else Ex M_X3_workedOut lv 76 l st w)
  ∧ (∀ (lv : Nat) (st : List Value) (t : LX) (o0 o1 o2 o3 : Option Value) (x : Int32) (w : AH), Ex M_X3_workedOut lv 76 (o0 :: o1 :: o2 :: o3 :: some (.int x) :: t) st w = Ex M_X3_workedOut lv 78 (o0 :: o1 :: o2 :: o3 :: some (.int x) :: t) (.int x :: st) w)
  ∧ (∀ (lv : Nat) (l : LX) (st : List Value) (x : Int32) (w : AH), Ex M_X3_workedOut lv 78 l (.int x :: st) w = if x ≤ 0 then Ex M_X3_workedOut lv 153 l st w else Ex M_X3_workedOut lv 81 l st w)
  ∧ (∀ (lv : Nat) (st : List Value) (t : LX) (x : Nat) (w : AH), Ex M_X3_workedOut lv 81 (some (.ref x) :: t) st w = Ex M_X3_workedOut lv 82 (some (.ref x) :: t) (.ref x :: st) w)
  ∧ (∀ (lv : Nat) (st : List Value) (t : LX) (w : AH), Ex M_X3_workedOut lv 81 (some (.null) :: t) st w = Ex M_X3_workedOut lv 82 (some (.null) :: t) (.null :: st) w)
  ∧ (∀ (lv : Nat) (l : LX) (st : List Value) (a : Nat) (w : AH), Ex M_X3_workedOut lv 82 l (.ref a :: st) w = if (gf (hg w a) 3 1).isSome = true then Ex M_X3_workedOut lv 85 l (vV (gf (hg w a) 3 1) :: st) w else none)
  ∧ (∀ (lv : Nat) (st : List Value) (t : LX) (o0 o1 o2 o3 : Option Value) (x : Int32) (w : AH), Ex M_X3_workedOut lv 85 (o0 :: o1 :: o2 :: o3 :: some (.int x) :: t) st w = Ex M_X3_workedOut lv 87 (o0 :: o1 :: o2 :: o3 :: some (.int x) :: t) (.int x :: st) w)
  ∧ (∀ (lv : Nat) (l : LX) (st : List Value) (w : AH), Ex M_X3_workedOut lv 87 l st w = Ex M_X3_workedOut lv 88 l (.int 1 :: st) w)
  ∧ (∀ (lv : Nat) (l : LX) (st : List Value) (x y : Int32) (w : AH), Ex M_X3_workedOut lv 88 l (.int y :: .int x :: st) w = Ex M_X3_workedOut lv 89 l (.int (x - y) :: st) w)
  ∧ (∀ (lv : Nat) (st : List Value) (t : LX) (x : Nat) (w : AH), Ex M_X3_workedOut lv 89 (some (.ref x) :: t) st w = Ex M_X3_workedOut lv 90 (some (.ref x) :: t) (.ref x :: st) w)
  ∧ (∀ (lv : Nat) (st : List Value) (t : LX) (w : AH), Ex M_X3_workedOut lv 89 (some (.null) :: t) st w = Ex M_X3_workedOut lv 90 (some (.null) :: t) (.null :: st) w)
  ∧ (∀ (lv : Nat) (l : LX) (st : List Value) (a : Nat) (w : AH), Ex M_X3_workedOut lv 90 l (.ref a :: st) w = if (gf (hg w a) 3 1).isSome = true then Ex M_X3_workedOut lv 93 l (vV (gf (hg w a) 3 1) :: st) w else none)
  ∧ (∀ (lv : Nat) (st : List Value) (t : LX) (o0 o1 o2 o3 : Option Value) (x : Int32) (w : AH), Ex M_X3_workedOut lv 93 (o0 :: o1 :: o2 :: o3 :: some (.int x) :: t) st w = Ex M_X3_workedOut lv 95 (o0 :: o1 :: o2 :: o3 :: some (.int x) :: t) (.int x :: st) w)
  ∧ (∀ (lv : Nat) (l : LX) (st : List Value) (w : AH), Ex M_X3_workedOut lv 95 l st w = Ex M_X3_workedOut lv 96 l (.int 1 :: st) w)
  ∧ (∀ (lv : Nat) (l : LX) (st : List Value) (x y : Int32) (w : AH), Ex M_X3_workedOut lv 96 l (.int y :: .int x :: st) w = Ex M_X3_workedOut lv 97 l (.int (x - y) :: st) w)
  ∧ (∀ (lv : Nat) (l : LX) (st : List Value) (a : Nat) (i : Int32) (w : AH), Ex M_X3_workedOut lv 97 l (.int i :: .ref a :: st) w = if (aI (hg w a) i).isSome = true then Ex M_X3_workedOut lv 98 l (.int (vI (aI (hg w a) i)) :: st) w else none)
  ∧ (∀ (lv : Nat) (l : LX) (st : List Value) (x : Int32) (w : AH), Ex M_X3_workedOut lv 98 l (.int x :: st) w = if ¬ x = 0 then Ex M_X3_workedOut lv 105 l st w else Ex M_X3_workedOut lv 101 l st w)
  ∧ (∀ (lv : Nat) (l : LX) (st : List Value) (w : AH), Ex M_X3_workedOut lv 101 l st w = Ex M_X3_workedOut lv 102 l (.int 1 :: st) w)
  ∧ (∀ (lv : Nat) (l : LX) (st : List Value) (w : AH), Ex M_X3_workedOut lv 102 l st w = Ex M_X3_workedOut lv 106 l st w)
  ∧ (∀ (lv : Nat) (l : LX) (st : List Value) (w : AH), Ex M_X3_workedOut lv 105 l st w = Ex M_X3_workedOut lv 106 l (.int 0 :: st) w)
  ∧ (∀ (lv : Nat) (l : LX) (st : List Value) (a : Nat) (i : Int32) (x : Int32) (w : AH), Ex M_X3_workedOut lv 106 l (.int x :: .int i :: .ref a :: st) w = if (uI (hg w a) i x).isSome = true then Ex M_X3_workedOut lv 107 l st (hs w a (vE (uI (hg w a) i x))) else none)
  ∧ (∀ (lv : Nat) (l : LX) (st : List Value) (w : AH), Ex M_X3_workedOut lv 107 l st w = Ex M_X3_workedOut lv 153 l st w) :=
  ⟨(fun lv l st w => Ex_A (i := .iconst 0) (n := 1) (by decide +kernel) rfl rfl),
   (fun lv l st x w => Ex_M (i := .istore 4) (n := 2) (by decide +kernel) rfl rfl rfl),
   (fun lv l st w => Ex_A (i := .iconst 0) (n := 1) (by decide +kernel) rfl rfl),
   (fun lv l st x w => Ex_M (i := .istore 5) (n := 2) (by decide +kernel) rfl rfl rfl),
   (fun lv st t x w => Ex_M (i := .aload_n 0) (n := 1) (by decide +kernel) rfl rfl rfl),
   (fun lv st t w => Ex_M (i := .aload_n 0) (n := 1) (by decide +kernel) rfl rfl rfl),
   (fun lv l st a w => Ex_getf (by decide +kernel : decode M_X3_workedOut.2.1 9 = .ok (.getfield 14, 3)) rfl (by decide +kernel : resF (mCn M_X3_workedOut) 14 = some (3, 0, (.object "CarpetLands$Row"), true))),
   (fun lv l st a w => Ex_getf (by decide +kernel : decode M_X3_workedOut.2.1 12 = .ok (.getfield 24, 3)) rfl (by decide +kernel : resF (mCn M_X3_workedOut) 24 = some (6, 1, .int, false))),
   (fun lv l st x y w => Ex_icmp_ge (by decide +kernel : decode M_X3_workedOut.2.1 15 = .ok (.if_icmp .ge 144, 3)) rfl rfl),
   (fun lv st t x w => Ex_M (i := .aload_n 0) (n := 1) (by decide +kernel) rfl rfl rfl),
   (fun lv st t w => Ex_M (i := .aload_n 0) (n := 1) (by decide +kernel) rfl rfl rfl),
   (fun lv l st a w => Ex_getf (by decide +kernel : decode M_X3_workedOut.2.1 19 = .ok (.getfield 14, 3)) rfl (by decide +kernel : resF (mCn M_X3_workedOut) 14 = some (3, 0, (.object "CarpetLands$Row"), true))),
   (fun lv st t o0 o1 o2 o3 o4 x w => Ex_M (i := .iload 5) (n := 2) (by decide +kernel) rfl rfl rfl),
   (fun lv l b a0 w => Ex_callV (by decide +kernel : decode M_X3_workedOut.2.1 24 = .ok (.invokevirtual 32, 3)) rfl (by rfl : resM (mCn M_X3_workedOut) 32 = some (2, M_X6_get)) rfl (by rfl) (Nat.le_of_ble_eq_true rfl) (by decide +kernel) (sLv_lt (by decide +kernel))),
   (fun lv l st x w => Ex_M (i := .istore 6) (n := 2) (by decide +kernel) rfl rfl rfl),
   (fun lv st t o0 o1 o2 o3 o4 o5 x w => Ex_M (i := .iload 6) (n := 2) (by decide +kernel) rfl rfl rfl),
   (fun lv l st w => Ex_A (i := .sipush 10000) (n := 3) (by decide +kernel) rfl rfl),
   (fun lv l st x y w => Ex_icmp_ge (by decide +kernel : decode M_X3_workedOut.2.1 34 = .ok (.if_icmp .ge 34, 3)) rfl rfl),
   (fun lv st t o0 o1 o2 o3 x w => Ex_M (i := .iload 4) (n := 2) (by decide +kernel) rfl rfl rfl),
   (fun lv st t x w => Ex_M (i := .aload_n 0) (n := 1) (by decide +kernel) rfl rfl rfl),
   (fun lv st t w => Ex_M (i := .aload_n 0) (n := 1) (by decide +kernel) rfl rfl rfl),
   (fun lv l st a w => Ex_getf (by decide +kernel : decode M_X3_workedOut.2.1 40 = .ok (.getfield 20, 3)) rfl (by decide +kernel : resF (mCn M_X3_workedOut) 20 = some (3, 1, (.array .int), true))),
   (fun lv l st a w => Ex_alen (by decide +kernel : decode M_X3_workedOut.2.1 43 = .ok (.arraylength, 1)) rfl),
   (fun lv l st x y w => Ex_icmp_ge (by decide +kernel : decode M_X3_workedOut.2.1 44 = .ok (.if_icmp .ge 109, 3)) rfl rfl),
   (fun lv st t x w => Ex_M (i := .aload_n 0) (n := 1) (by decide +kernel) rfl rfl rfl),
   (fun lv st t w => Ex_M (i := .aload_n 0) (n := 1) (by decide +kernel) rfl rfl rfl),
   (fun lv l st a w => Ex_getf (by decide +kernel : decode M_X3_workedOut.2.1 48 = .ok (.getfield 20, 3)) rfl (by decide +kernel : resF (mCn M_X3_workedOut) 20 = some (3, 1, (.array .int), true))),
   (fun lv st t o0 o1 o2 o3 x w => Ex_M (i := .iload 4) (n := 2) (by decide +kernel) rfl rfl rfl),
   (fun lv st t o0 o1 o2 o3 x w => Ex_iinc (by decide +kernel : decode M_X3_workedOut.2.1 53 = .ok (.iinc 4 1, 3)) rfl rfl (by decide) (by decide)),
   (fun lv st t o0 o1 o2 o3 o4 o5 x w => Ex_M (i := .iload 6) (n := 2) (by decide +kernel) rfl rfl rfl),
   (fun lv st t o0 x w => Ex_M (i := .iload_n 1) (n := 1) (by decide +kernel) rfl rfl rfl),
   (fun lv st t o0 o1 x w => Ex_M (i := .iload_n 2) (n := 1) (by decide +kernel) rfl rfl rfl),
   (fun lv st t o0 o1 o2 x w => Ex_M (i := .iload_n 3) (n := 1) (by decide +kernel) rfl rfl rfl),
   (fun lv l a0 a1 a2 a3 s0 s1 w => Ex_callS (by decide +kernel : decode M_X3_workedOut.2.1 61 = .ok (.invokestatic 36, 3)) rfl (by rfl : resM (mCn M_X3_workedOut) 36 = some (0, M_X3_valueOf)) (by decide) rfl (by rfl) (Nat.le_of_ble_eq_true rfl) (sLv_lt (by decide +kernel))),
   (fun lv l st a i x w => Ex_ias (by decide +kernel : decode M_X3_workedOut.2.1 64 = .ok (.iastore, 1)) rfl),
   (fun lv l st w => Ex_goto (by decide +kernel : decode M_X3_workedOut.2.1 65 = .ok (.goto 88, 3)) rfl),
   (fun lv st t o0 o1 o2 o3 o4 o5 x w => Ex_M (i := .iload 6) (n := 2) (by decide +kernel) rfl rfl rfl),
   (fun lv l st w => Ex_A (i := .sipush 10033) (n := 3) (by decide +kernel) rfl rfl),
   (fun lv l st x y w => Ex_icmp_ne (by decide +kernel : decode M_X3_workedOut.2.1 73 = .ok (.if_icmp .ne 37, 3)) rfl rfl),
   (fun lv st t o0 o1 o2 o3 x w => Ex_M (i := .iload 4) (n := 2) (by decide +kernel) rfl rfl rfl),
   (fun lv l st x w => Ex_if_le (by decide +kernel : decode M_X3_workedOut.2.1 78 = .ok (.ifCond .le 75, 3)) rfl rfl),
   (fun lv st t x w => Ex_M (i := .aload_n 0) (n := 1) (by decide +kernel) rfl rfl rfl),
   (fun lv st t w => Ex_M (i := .aload_n 0) (n := 1) (by decide +kernel) rfl rfl rfl),
   (fun lv l st a w => Ex_getf (by decide +kernel : decode M_X3_workedOut.2.1 82 = .ok (.getfield 20, 3)) rfl (by decide +kernel : resF (mCn M_X3_workedOut) 20 = some (3, 1, (.array .int), true))),
   (fun lv st t o0 o1 o2 o3 x w => Ex_M (i := .iload 4) (n := 2) (by decide +kernel) rfl rfl rfl),
   (fun lv l st w => Ex_A (i := .iconst 1) (n := 1) (by decide +kernel) rfl rfl),
   (fun lv l st x y w => Ex_A (i := .isub) (n := 1) (by decide +kernel) rfl rfl),
   (fun lv st t x w => Ex_M (i := .aload_n 0) (n := 1) (by decide +kernel) rfl rfl rfl),
   (fun lv st t w => Ex_M (i := .aload_n 0) (n := 1) (by decide +kernel) rfl rfl rfl),
   (fun lv l st a w => Ex_getf (by decide +kernel : decode M_X3_workedOut.2.1 90 = .ok (.getfield 20, 3)) rfl (by decide +kernel : resF (mCn M_X3_workedOut) 20 = some (3, 1, (.array .int), true))),
   (fun lv st t o0 o1 o2 o3 x w => Ex_M (i := .iload 4) (n := 2) (by decide +kernel) rfl rfl rfl),
   (fun lv l st w => Ex_A (i := .iconst 1) (n := 1) (by decide +kernel) rfl rfl),
   (fun lv l st x y w => Ex_A (i := .isub) (n := 1) (by decide +kernel) rfl rfl),
   (fun lv l st a i w => Ex_ial (by decide +kernel : decode M_X3_workedOut.2.1 97 = .ok (.iaload, 1)) rfl),
   (fun lv l st x w => Ex_if_ne (by decide +kernel : decode M_X3_workedOut.2.1 98 = .ok (.ifCond .ne 7, 3)) rfl rfl),
   (fun lv l st w => Ex_A (i := .iconst 1) (n := 1) (by decide +kernel) rfl rfl),
   (fun lv l st w => Ex_goto (by decide +kernel : decode M_X3_workedOut.2.1 102 = .ok (.goto 4, 3)) rfl),
   (fun lv l st w => Ex_A (i := .iconst 0) (n := 1) (by decide +kernel) rfl rfl),
   (fun lv l st a i x w => Ex_ias (by decide +kernel : decode M_X3_workedOut.2.1 106 = .ok (.iastore, 1)) rfl),
   (fun lv l st w => Ex_goto (by decide +kernel : decode M_X3_workedOut.2.1 107 = .ok (.goto 46, 3)) rfl)⟩
set_option maxRecDepth 20000 in
set_option maxHeartbeats 4000000 in
theorem R_X3_workedOut_p1 : (∀ (lv : Nat) (st : List Value) (t : LX) (o0 o1 o2 o3 : Option Value) (x : Int32) (w : AH), Ex M_X3_workedOut lv 110 (o0 :: o1 :: o2 :: o3 :: some (.int x) :: t) st w = Ex M_X3_workedOut lv 112 (o0 :: o1 :: o2 :: o3 :: some (.int x) :: t) (.int x :: st) w)
  ∧ (∀ (lv : Nat) (l : LX) (st : List Value) (w : AH), Ex M_X3_workedOut lv 112 l st w = Ex M_X3_workedOut lv 113 l (.int 1 :: st) w)
  ∧ (∀ (lv : Nat) (l : LX) (st : List Value) (x y : Int32) (w : AH), Ex M_X3_workedOut lv 113 l (.int y :: .int x :: st) w = if x ≤ y then Ex M_X3_workedOut lv 153 l st w else Ex M_X3_workedOut lv 116 l st w)
  ∧ (∀ (lv : Nat) (st : List Value) (t : LX) (o0 o1 o2 o3 : Option Value) (x : Int32) (w : AH), Ex M_X3_workedOut lv 116 (o0 :: o1 :: o2 :: o3 :: some (.int x) :: t) st w = Ex M_X3_workedOut lv 119 (ls1 (o0 :: o1 :: o2 :: o3 :: some (.int x) :: t) 4 (.int (x + (-1)))) st w)
  ∧ (∀ (lv : Nat) (st : List Value) (t : LX) (x : Nat) (w : AH), Ex M_X3_workedOut lv 119 (some (.ref x) :: t) st w = Ex M_X3_workedOut lv 120 (some (.ref x) :: t) (.ref x :: st) w)
  ∧ (∀ (lv : Nat) (st : List Value) (t : LX) (w : AH), Ex M_X3_workedOut lv 119 (some (.null) :: t) st w = Ex M_X3_workedOut lv 120 (some (.null) :: t) (.null :: st) w)
  ∧ (∀ (lv : Nat) (l : LX) (st : List Value) (a : Nat) (w : AH), Ex M_X3_workedOut lv 120 l (.ref a :: st) w = if (gf (hg w a) 3 1).isSome = true then Ex M_X3_workedOut lv 123 l (vV (gf (hg w a) 3 1) :: st) w else none)
  ∧ (∀ (lv : Nat) (st : List Value) (t : LX) (o0 o1 o2 o3 : Option Value) (x : Int32) (w : AH), Ex M_X3_workedOut lv 123 (o0 :: o1 :: o2 :: o3 :: some (.int x) :: t) st w = Ex M_X3_workedOut lv 125 (o0 :: o1 :: o2 :: o3 :: some (.int x) :: t) (.int x :: st) w)
  ∧ (∀ (lv : Nat) (l : LX) (st : List Value) (w : AH), Ex M_X3_workedOut lv 125 l st w = Ex M_X3_workedOut lv 126 l (.int 1 :: st) w)
  ∧ (∀ (lv : Nat) (l : LX) (st : List Value) (x y : Int32) (w : AH), Ex M_X3_workedOut lv 126 l (.int y :: .int x :: st) w = Ex M_X3_workedOut lv 127 l (.int (x - y) :: st) w)
  ∧ (∀ (lv : Nat) (st : List Value) (t : LX) (o0 o1 o2 o3 o4 o5 : Option Value) (x : Int32) (w : AH), Ex M_X3_workedOut lv 127 (o0 :: o1 :: o2 :: o3 :: o4 :: o5 :: some (.int x) :: t) st w = Ex M_X3_workedOut lv 129 (o0 :: o1 :: o2 :: o3 :: o4 :: o5 :: some (.int x) :: t) (.int x :: st) w)
  ∧ (∀ (lv : Nat) (l : LX) (st : List Value) (w : AH), Ex M_X3_workedOut lv 129 l st w = Ex M_X3_workedOut lv 132 l (.int 10000 :: st) w)
  ∧ (∀ (lv : Nat) (l : LX) (st : List Value) (x y : Int32) (w : AH), Ex M_X3_workedOut lv 132 l (.int y :: .int x :: st) w = Ex M_X3_workedOut lv 133 l (.int (x - y) :: st) w)
  ∧ (∀ (lv : Nat) (st : List Value) (t : LX) (x : Nat) (w : AH), Ex M_X3_workedOut lv 133 (some (.ref x) :: t) st w = Ex M_X3_workedOut lv 134 (some (.ref x) :: t) (.ref x :: st) w)
  ∧ (∀ (lv : Nat) (st : List Value) (t : LX) (w : AH), Ex M_X3_workedOut lv 133 (some (.null) :: t) st w = Ex M_X3_workedOut lv 134 (some (.null) :: t) (.null :: st) w)
  ∧ (∀ (lv : Nat) (l : LX) (st : List Value) (a : Nat) (w : AH), Ex M_X3_workedOut lv 134 l (.ref a :: st) w = if (gf (hg w a) 3 1).isSome = true then Ex M_X3_workedOut lv 137 l (vV (gf (hg w a) 3 1) :: st) w else none)
  ∧ (∀ (lv : Nat) (st : List Value) (t : LX) (o0 o1 o2 o3 : Option Value) (x : Int32) (w : AH), Ex M_X3_workedOut lv 137 (o0 :: o1 :: o2 :: o3 :: some (.int x) :: t) st w = Ex M_X3_workedOut lv 139 (o0 :: o1 :: o2 :: o3 :: some (.int x) :: t) (.int x :: st) w)
  ∧ (∀ (lv : Nat) (l : LX) (st : List Value) (w : AH), Ex M_X3_workedOut lv 139 l st w = Ex M_X3_workedOut lv 140 l (.int 1 :: st) w)
  ∧ (∀ (lv : Nat) (l : LX) (st : List Value) (x y : Int32) (w : AH), Ex M_X3_workedOut lv 140 l (.int y :: .int x :: st) w = Ex M_X3_workedOut lv 141 l (.int (x - y) :: st) w)
  ∧ (∀ (lv : Nat) (l : LX) (st : List Value) (a : Nat) (i : Int32) (w : AH), Ex M_X3_workedOut lv 141 l (.int i :: .ref a :: st) w = if (aI (hg w a) i).isSome = true then Ex M_X3_workedOut lv 142 l (.int (vI (aI (hg w a) i)) :: st) w else none)
  ∧ (∀ (lv : Nat) (st : List Value) (t : LX) (x : Nat) (w : AH), Ex M_X3_workedOut lv 142 (some (.ref x) :: t) st w = Ex M_X3_workedOut lv 143 (some (.ref x) :: t) (.ref x :: st) w)
  ∧ (∀ (lv : Nat) (st : List Value) (t : LX) (w : AH), Ex M_X3_workedOut lv 142 (some (.null) :: t) st w = Ex M_X3_workedOut lv 143 (some (.null) :: t) (.null :: st) w)
  ∧ (∀ (lv : Nat) (l : LX) (st : List Value) (a : Nat) (w : AH), Ex M_X3_workedOut lv 143 l (.ref a :: st) w = if (gf (hg w a) 3 1).isSome = true then Ex M_X3_workedOut lv 146 l (vV (gf (hg w a) 3 1) :: st) w else none)
  ∧ (∀ (lv : Nat) (st : List Value) (t : LX) (o0 o1 o2 o3 : Option Value) (x : Int32) (w : AH), Ex M_X3_workedOut lv 146 (o0 :: o1 :: o2 :: o3 :: some (.int x) :: t) st w = Ex M_X3_workedOut lv 148 (o0 :: o1 :: o2 :: o3 :: some (.int x) :: t) (.int x :: st) w)
  ∧ (∀ (lv : Nat) (l : LX) (st : List Value) (a : Nat) (i : Int32) (w : AH), Ex M_X3_workedOut lv 148 l (.int i :: .ref a :: st) w = if (aI (hg w a) i).isSome = true then Ex M_X3_workedOut lv 149 l (.int (vI (aI (hg w a) i)) :: st) w else none)
  ∧ (∀ (lv : Nat) (l : LX) (a0 : Int32) (a1 : Int32) (a2 : Int32) (s0 : Int32) (s1 : Nat) (w : AH), Ex M_X3_workedOut lv 149 l (.int a2 :: .int a1 :: .int a0 :: [.int s0, .ref s1]) w = if (Call M_X3_joined 60 [.int a0, .int a1, .int a2] w).isSome = true then Ex M_X3_workedOut lv 152 l (pushR (cV (Call M_X3_joined 60 [.int a0, .int a1, .int a2] w)) [.int s0, .ref s1]) (cW (Call M_X3_joined 60 [.int a0, .int a1, .int a2] w) w) else none)
  ∧ (∀ (lv : Nat) (l : LX) (st : List Value) (a : Nat) (i : Int32) (x : Int32) (w : AH), Ex M_X3_workedOut lv 152 l (.int x :: .int i :: .ref a :: st) w = if (uI (hg w a) i x).isSome = true then Ex M_X3_workedOut lv 153 l st (hs w a (vE (uI (hg w a) i x))) else none)
  ∧ (∀ (lv : Nat) (st : List Value) (t : LX) (o0 o1 o2 o3 o4 : Option Value) (x : Int32) (w : AH), Ex M_X3_workedOut lv 153 (o0 :: o1 :: o2 :: o3 :: o4 :: some (.int x) :: t) st w = Ex M_X3_workedOut lv 156 (ls1 (o0 :: o1 :: o2 :: o3 :: o4 :: some (.int x) :: t) 5 (.int (x + 1))) st w)
  ∧ (∀ (lv : Nat) (l : LX) (st : List Value) (w : AH), Ex M_X3_workedOut lv 156 l st w = Ex M_X3_workedOut lv 6 l st w)
  ∧ (∀ (lv : Nat) (st : List Value) (t : LX) (x : Nat) (w : AH), Ex M_X3_workedOut lv 159 (some (.ref x) :: t) st w = Ex M_X3_workedOut lv 160 (some (.ref x) :: t) (.ref x :: st) w)
  ∧ (∀ (lv : Nat) (st : List Value) (t : LX) (w : AH), Ex M_X3_workedOut lv 159 (some (.null) :: t) st w = Ex M_X3_workedOut lv 160 (some (.null) :: t) (.null :: st) w)
  ∧ (∀ (lv : Nat) (l : LX) (st : List Value) (a : Nat) (w : AH), Ex M_X3_workedOut lv 160 l (.ref a :: st) w = if (gf (hg w a) 3 1).isSome = true then Ex M_X3_workedOut lv 163 l (vV (gf (hg w a) 3 1) :: st) w else none)
  ∧ (∀ (lv : Nat) (l : LX) (st : List Value) (w : AH), Ex M_X3_workedOut lv 163 l st w = Ex M_X3_workedOut lv 164 l (.int 0 :: st) w)
  ∧ (∀ (lv : Nat) (l : LX) (st : List Value) (a : Nat) (i : Int32) (w : AH), Ex M_X3_workedOut lv 164 l (.int i :: .ref a :: st) w = if (aI (hg w a) i).isSome = true then Ex M_X3_workedOut lv 165 l (.int (vI (aI (hg w a) i)) :: st) w else none)
  ∧ (∀ (lv : Nat) (l : LX) (x : Int32) (w : AH), Ex M_X3_workedOut lv 165 l [.int x] w = some (some (.int x), w)) :=
  ⟨(fun lv st t o0 o1 o2 o3 x w => Ex_M (i := .iload 4) (n := 2) (by decide +kernel) rfl rfl rfl),
   (fun lv l st w => Ex_A (i := .iconst 1) (n := 1) (by decide +kernel) rfl rfl),
   (fun lv l st x y w => Ex_icmp_le (by decide +kernel : decode M_X3_workedOut.2.1 113 = .ok (.if_icmp .le 40, 3)) rfl rfl),
   (fun lv st t o0 o1 o2 o3 x w => Ex_iinc (by decide +kernel : decode M_X3_workedOut.2.1 116 = .ok (.iinc 4 (-1), 3)) rfl rfl (by decide) (by decide)),
   (fun lv st t x w => Ex_M (i := .aload_n 0) (n := 1) (by decide +kernel) rfl rfl rfl),
   (fun lv st t w => Ex_M (i := .aload_n 0) (n := 1) (by decide +kernel) rfl rfl rfl),
   (fun lv l st a w => Ex_getf (by decide +kernel : decode M_X3_workedOut.2.1 120 = .ok (.getfield 20, 3)) rfl (by decide +kernel : resF (mCn M_X3_workedOut) 20 = some (3, 1, (.array .int), true))),
   (fun lv st t o0 o1 o2 o3 x w => Ex_M (i := .iload 4) (n := 2) (by decide +kernel) rfl rfl rfl),
   (fun lv l st w => Ex_A (i := .iconst 1) (n := 1) (by decide +kernel) rfl rfl),
   (fun lv l st x y w => Ex_A (i := .isub) (n := 1) (by decide +kernel) rfl rfl),
   (fun lv st t o0 o1 o2 o3 o4 o5 x w => Ex_M (i := .iload 6) (n := 2) (by decide +kernel) rfl rfl rfl),
   (fun lv l st w => Ex_A (i := .sipush 10000) (n := 3) (by decide +kernel) rfl rfl),
   (fun lv l st x y w => Ex_A (i := .isub) (n := 1) (by decide +kernel) rfl rfl),
   (fun lv st t x w => Ex_M (i := .aload_n 0) (n := 1) (by decide +kernel) rfl rfl rfl),
   (fun lv st t w => Ex_M (i := .aload_n 0) (n := 1) (by decide +kernel) rfl rfl rfl),
   (fun lv l st a w => Ex_getf (by decide +kernel : decode M_X3_workedOut.2.1 134 = .ok (.getfield 20, 3)) rfl (by decide +kernel : resF (mCn M_X3_workedOut) 20 = some (3, 1, (.array .int), true))),
   (fun lv st t o0 o1 o2 o3 x w => Ex_M (i := .iload 4) (n := 2) (by decide +kernel) rfl rfl rfl),
   (fun lv l st w => Ex_A (i := .iconst 1) (n := 1) (by decide +kernel) rfl rfl),
   (fun lv l st x y w => Ex_A (i := .isub) (n := 1) (by decide +kernel) rfl rfl),
   (fun lv l st a i w => Ex_ial (by decide +kernel : decode M_X3_workedOut.2.1 141 = .ok (.iaload, 1)) rfl),
   (fun lv st t x w => Ex_M (i := .aload_n 0) (n := 1) (by decide +kernel) rfl rfl rfl),
   (fun lv st t w => Ex_M (i := .aload_n 0) (n := 1) (by decide +kernel) rfl rfl rfl),
   (fun lv l st a w => Ex_getf (by decide +kernel : decode M_X3_workedOut.2.1 143 = .ok (.getfield 20, 3)) rfl (by decide +kernel : resF (mCn M_X3_workedOut) 20 = some (3, 1, (.array .int), true))),
   (fun lv st t o0 o1 o2 o3 x w => Ex_M (i := .iload 4) (n := 2) (by decide +kernel) rfl rfl rfl),
   (fun lv l st a i w => Ex_ial (by decide +kernel : decode M_X3_workedOut.2.1 148 = .ok (.iaload, 1)) rfl),
   (fun lv l a0 a1 a2 s0 s1 w => Ex_callS (by decide +kernel : decode M_X3_workedOut.2.1 149 = .ok (.invokestatic 40, 3)) rfl (by rfl : resM (mCn M_X3_workedOut) 40 = some (0, M_X3_joined)) (by decide) rfl (by rfl) (Nat.le_of_ble_eq_true rfl) (sLv_lt (by decide +kernel))),
   (fun lv l st a i x w => Ex_ias (by decide +kernel : decode M_X3_workedOut.2.1 152 = .ok (.iastore, 1)) rfl),
   (fun lv st t o0 o1 o2 o3 o4 x w => Ex_iinc (by decide +kernel : decode M_X3_workedOut.2.1 153 = .ok (.iinc 5 1, 3)) rfl rfl (by decide) (by decide)),
   (fun lv l st w => Ex_goto (by decide +kernel : decode M_X3_workedOut.2.1 156 = .ok (.goto (-150), 3)) rfl),
   (fun lv st t x w => Ex_M (i := .aload_n 0) (n := 1) (by decide +kernel) rfl rfl rfl),
   (fun lv st t w => Ex_M (i := .aload_n 0) (n := 1) (by decide +kernel) rfl rfl rfl),
   (fun lv l st a w => Ex_getf (by decide +kernel : decode M_X3_workedOut.2.1 160 = .ok (.getfield 20, 3)) rfl (by decide +kernel : resF (mCn M_X3_workedOut) 20 = some (3, 1, (.array .int), true))),
   (fun lv l st w => Ex_A (i := .iconst 0) (n := 1) (by decide +kernel) rfl rfl),
   (fun lv l st a i w => Ex_ial (by decide +kernel : decode M_X3_workedOut.2.1 164 = .ok (.iaload, 1)) rfl),
   (fun lv l x w => Ex_R (i := .ireturn) (n := 1) (by decide +kernel) rfl rfl rfl rfl rfl)⟩
-- R_X3_workedOut: p0 to p1
set_option maxRecDepth 20000 in
set_option maxHeartbeats 4000000 in
theorem R_X3_valueOf : (∀ (lv : Nat) (st : List Value) (t : LX) (x : Int32) (w : AH), Ex M_X3_valueOf lv 0 (some (.int x) :: t) st w = Ex M_X3_valueOf lv 1 (some (.int x) :: t) (.int x :: st) w)
  ∧ (∀ (lv : Nat) (l : LX) (st : List Value) (x : Int32) (w : AH), Ex M_X3_valueOf lv 1 l (.int x :: st) w = if x = (-3) then Ex M_X3_valueOf lv 32 l st w else if x = (-2) then Ex M_X3_valueOf lv 30 l st w else if x = (-1) then Ex M_X3_valueOf lv 28 l st w else Ex M_X3_valueOf lv 34 l st w)
  ∧ (∀ (lv : Nat) (st : List Value) (t : LX) (o0 : Option Value) (x : Int32) (w : AH), Ex M_X3_valueOf lv 28 (o0 :: some (.int x) :: t) st w = Ex M_X3_valueOf lv 29 (o0 :: some (.int x) :: t) (.int x :: st) w)
  ∧ (∀ (lv : Nat) (l : LX) (x : Int32) (w : AH), Ex M_X3_valueOf lv 29 l [.int x] w = some (some (.int x), w))
  ∧ (∀ (lv : Nat) (st : List Value) (t : LX) (o0 o1 : Option Value) (x : Int32) (w : AH), Ex M_X3_valueOf lv 30 (o0 :: o1 :: some (.int x) :: t) st w = Ex M_X3_valueOf lv 31 (o0 :: o1 :: some (.int x) :: t) (.int x :: st) w)
  ∧ (∀ (lv : Nat) (l : LX) (x : Int32) (w : AH), Ex M_X3_valueOf lv 31 l [.int x] w = some (some (.int x), w))
  ∧ (∀ (lv : Nat) (st : List Value) (t : LX) (o0 o1 o2 : Option Value) (x : Int32) (w : AH), Ex M_X3_valueOf lv 32 (o0 :: o1 :: o2 :: some (.int x) :: t) st w = Ex M_X3_valueOf lv 33 (o0 :: o1 :: o2 :: some (.int x) :: t) (.int x :: st) w)
  ∧ (∀ (lv : Nat) (l : LX) (x : Int32) (w : AH), Ex M_X3_valueOf lv 33 l [.int x] w = some (some (.int x), w))
  ∧ (∀ (lv : Nat) (st : List Value) (t : LX) (x : Int32) (w : AH), Ex M_X3_valueOf lv 34 (some (.int x) :: t) st w = Ex M_X3_valueOf lv 35 (some (.int x) :: t) (.int x :: st) w)
  ∧ (∀ (lv : Nat) (l : LX) (x : Int32) (w : AH), Ex M_X3_valueOf lv 35 l [.int x] w = some (some (.int x), w)) :=
  ⟨(fun lv st t x w => Ex_M (i := .iload_n 0) (n := 1) (by decide +kernel) rfl rfl rfl),
   (fun lv l st x w => (by
      refine it_ite (fun hx0 => ?_) (fun hx0 => ?_)
      · subst hx0; exact Ex_tsIn (by decide +kernel : decode M_X3_valueOf.2.1 1 = .ok (.tableswitch 33 (-3) (-1) #[31, 29, 27], 27)) (by decide) rfl rfl
      refine it_ite (fun hx1 => ?_) (fun hx1 => ?_)
      · subst hx1; exact Ex_tsIn (by decide +kernel : decode M_X3_valueOf.2.1 1 = .ok (.tableswitch 33 (-3) (-1) #[31, 29, 27], 27)) (by decide) rfl rfl
      refine it_ite (fun hx2 => ?_) (fun hx2 => ?_)
      · subst hx2; exact Ex_tsIn (by decide +kernel : decode M_X3_valueOf.2.1 1 = .ok (.tableswitch 33 (-3) (-1) #[31, 29, 27], 27)) (by decide) rfl rfl
      exact Ex_tsOut (by decide +kernel : decode M_X3_valueOf.2.1 1 = .ok (.tableswitch 33 (-3) (-1) #[31, 29, 27], 27)) (ts_out (-3) (-1) (by have := n_toInt (z := (-3)) rfl hx0; have := n_toInt (z := (-2)) rfl hx1; have := n_toInt (z := (-1)) rfl hx2; omega)) rfl)),
   (fun lv st t o0 x w => Ex_M (i := .iload_n 1) (n := 1) (by decide +kernel) rfl rfl rfl),
   (fun lv l x w => Ex_R (i := .ireturn) (n := 1) (by decide +kernel) rfl rfl rfl rfl rfl),
   (fun lv st t o0 o1 x w => Ex_M (i := .iload_n 2) (n := 1) (by decide +kernel) rfl rfl rfl),
   (fun lv l x w => Ex_R (i := .ireturn) (n := 1) (by decide +kernel) rfl rfl rfl rfl rfl),
   (fun lv st t o0 o1 o2 x w => Ex_M (i := .iload_n 3) (n := 1) (by decide +kernel) rfl rfl rfl),
   (fun lv l x w => Ex_R (i := .ireturn) (n := 1) (by decide +kernel) rfl rfl rfl rfl rfl),
   (fun lv st t x w => Ex_M (i := .iload_n 0) (n := 1) (by decide +kernel) rfl rfl rfl),
   (fun lv l x w => Ex_R (i := .ireturn) (n := 1) (by decide +kernel) rfl rfl rfl rfl rfl)⟩
set_option maxRecDepth 20000 in
set_option maxHeartbeats 4000000 in
theorem R_X3_joined_p0 : (∀ (lv : Nat) (st : List Value) (t : LX) (x : Int32) (w : AH), Ex M_X3_joined lv 0 (some (.int x) :: t) st w = Ex M_X3_joined lv 1 (some (.int x) :: t) (.int x :: st) w)
  ∧ (∀ (lv : Nat) (l : LX) (st : List Value) (x : Int32) (w : AH), Ex M_X3_joined lv 1 l (.int x :: st) w = if x = 38 then Ex M_X3_joined lv 98 l st w else if x = 42 then Ex M_X3_joined lv 153 l st w else if x = 43 then Ex M_X3_joined lv 145 l st w else if x = 45 then Ex M_X3_joined lv 149 l st w else if x = 47 then Ex M_X3_joined lv 157 l st w else if x = 60 then Ex M_X3_joined lv 112 l st w else if x = 61 then Ex M_X3_joined lv 123 l st w else if x = 62 then Ex M_X3_joined lv 134 l st w else if x = 124 then Ex M_X3_joined lv 84 l st w else Ex M_X3_joined lv 169 l st w)
  ∧ (∀ (lv : Nat) (st : List Value) (t : LX) (o0 : Option Value) (x : Int32) (w : AH), Ex M_X3_joined lv 84 (o0 :: some (.int x) :: t) st w = Ex M_X3_joined lv 85 (o0 :: some (.int x) :: t) (.int x :: st) w)
  ∧ (∀ (lv : Nat) (l : LX) (st : List Value) (x : Int32) (w : AH), Ex M_X3_joined lv 85 l (.int x :: st) w = if ¬ x = 0 then Ex M_X3_joined lv 92 l st w else Ex M_X3_joined lv 88 l st w)
  ∧ (∀ (lv : Nat) (st : List Value) (t : LX) (o0 o1 : Option Value) (x : Int32) (w : AH), Ex M_X3_joined lv 88 (o0 :: o1 :: some (.int x) :: t) st w = Ex M_X3_joined lv 89 (o0 :: o1 :: some (.int x) :: t) (.int x :: st) w)
  ∧ (∀ (lv : Nat) (l : LX) (st : List Value) (x : Int32) (w : AH), Ex M_X3_joined lv 89 l (.int x :: st) w = if x = 0 then Ex M_X3_joined lv 96 l st w else Ex M_X3_joined lv 92 l st w)
  ∧ (∀ (lv : Nat) (l : LX) (st : List Value) (w : AH), Ex M_X3_joined lv 92 l st w = Ex M_X3_joined lv 93 l (.int 1 :: st) w)
  ∧ (∀ (lv : Nat) (l : LX) (st : List Value) (w : AH), Ex M_X3_joined lv 93 l st w = Ex M_X3_joined lv 97 l st w)
  ∧ (∀ (lv : Nat) (l : LX) (st : List Value) (w : AH), Ex M_X3_joined lv 96 l st w = Ex M_X3_joined lv 97 l (.int 0 :: st) w)
  ∧ (∀ (lv : Nat) (l : LX) (x : Int32) (w : AH), Ex M_X3_joined lv 97 l [.int x] w = some (some (.int x), w))
  ∧ (∀ (lv : Nat) (st : List Value) (t : LX) (o0 : Option Value) (x : Int32) (w : AH), Ex M_X3_joined lv 98 (o0 :: some (.int x) :: t) st w = Ex M_X3_joined lv 99 (o0 :: some (.int x) :: t) (.int x :: st) w)
  ∧ (∀ (lv : Nat) (l : LX) (st : List Value) (x : Int32) (w : AH), Ex M_X3_joined lv 99 l (.int x :: st) w = if x = 0 then Ex M_X3_joined lv 110 l st w else Ex M_X3_joined lv 102 l st w)
  ∧ (∀ (lv : Nat) (st : List Value) (t : LX) (o0 o1 : Option Value) (x : Int32) (w : AH), Ex M_X3_joined lv 102 (o0 :: o1 :: some (.int x) :: t) st w = Ex M_X3_joined lv 103 (o0 :: o1 :: some (.int x) :: t) (.int x :: st) w)
  ∧ (∀ (lv : Nat) (l : LX) (st : List Value) (x : Int32) (w : AH), Ex M_X3_joined lv 103 l (.int x :: st) w = if x = 0 then Ex M_X3_joined lv 110 l st w else Ex M_X3_joined lv 106 l st w)
  ∧ (∀ (lv : Nat) (l : LX) (st : List Value) (w : AH), Ex M_X3_joined lv 106 l st w = Ex M_X3_joined lv 107 l (.int 1 :: st) w)
  ∧ (∀ (lv : Nat) (l : LX) (st : List Value) (w : AH), Ex M_X3_joined lv 107 l st w = Ex M_X3_joined lv 111 l st w)
  ∧ (∀ (lv : Nat) (l : LX) (st : List Value) (w : AH), Ex M_X3_joined lv 110 l st w = Ex M_X3_joined lv 111 l (.int 0 :: st) w)
  ∧ (∀ (lv : Nat) (l : LX) (x : Int32) (w : AH), Ex M_X3_joined lv 111 l [.int x] w = some (some (.int x), w))
  ∧ (∀ (lv : Nat) (st : List Value) (t : LX) (o0 : Option Value) (x : Int32) (w : AH), Ex M_X3_joined lv 112 (o0 :: some (.int x) :: t) st w = Ex M_X3_joined lv 113 (o0 :: some (.int x) :: t) (.int x :: st) w)
  ∧ (∀ (lv : Nat) (st : List Value) (t : LX) (o0 o1 : Option Value) (x : Int32) (w : AH), Ex M_X3_joined lv 113 (o0 :: o1 :: some (.int x) :: t) st w = Ex M_X3_joined lv 114 (o0 :: o1 :: some (.int x) :: t) (.int x :: st) w)
  ∧ (∀ (lv : Nat) (l : LX) (st : List Value) (x y : Int32) (w : AH), Ex M_X3_joined lv 114 l (.int y :: .int x :: st) w = if y ≤ x then Ex M_X3_joined lv 121 l st w else Ex M_X3_joined lv 117 l st w)
  ∧ (∀ (lv : Nat) (l : LX) (st : List Value) (w : AH), Ex M_X3_joined lv 117 l st w = Ex M_X3_joined lv 118 l (.int 1 :: st) w)
  ∧ (∀ (lv : Nat) (l : LX) (st : List Value) (w : AH), Ex M_X3_joined lv 118 l st w = Ex M_X3_joined lv 122 l st w)
  ∧ (∀ (lv : Nat) (l : LX) (st : List Value) (w : AH), Ex M_X3_joined lv 121 l st w = Ex M_X3_joined lv 122 l (.int 0 :: st) w)
  ∧ (∀ (lv : Nat) (l : LX) (x : Int32) (w : AH), Ex M_X3_joined lv 122 l [.int x] w = some (some (.int x), w))
  ∧ (∀ (lv : Nat) (st : List Value) (t : LX) (o0 : Option Value) (x : Int32) (w : AH), Ex M_X3_joined lv 123 (o0 :: some (.int x) :: t) st w = Ex M_X3_joined lv 124 (o0 :: some (.int x) :: t) (.int x :: st) w)
  ∧ (∀ (lv : Nat) (st : List Value) (t : LX) (o0 o1 : Option Value) (x : Int32) (w : AH), Ex M_X3_joined lv 124 (o0 :: o1 :: some (.int x) :: t) st w = Ex M_X3_joined lv 125 (o0 :: o1 :: some (.int x) :: t) (.int x :: st) w)
  ∧ (∀ (lv : Nat) (l : LX) (st : List Value) (x y : Int32) (w : AH), Ex M_X3_joined lv 125 l (.int y :: .int x :: st) w = if ¬ x = y then Ex M_X3_joined lv 132 l st w else Ex M_X3_joined lv 128 l st w)
  ∧ (∀ (lv : Nat) (l : LX) (st : List Value) (w : AH), Ex M_X3_joined lv 128 l st w = Ex M_X3_joined lv 129 l (.int 1 :: st) w)
  ∧ (∀ (lv : Nat) (l : LX) (st : List Value) (w : AH), Ex M_X3_joined lv 129 l st w = Ex M_X3_joined lv 133 l st w)
  ∧ (∀ (lv : Nat) (l : LX) (st : List Value) (w : AH), Ex M_X3_joined lv 132 l st w = Ex M_X3_joined lv 133 l (.int 0 :: st) w)
  ∧ (∀ (lv : Nat) (l : LX) (x : Int32) (w : AH), Ex M_X3_joined lv 133 l [.int x] w = some (some (.int x), w))
  ∧ (∀ (lv : Nat) (st : List Value) (t : LX) (o0 : Option Value) (x : Int32) (w : AH), Ex M_X3_joined lv 134 (o0 :: some (.int x) :: t) st w = Ex M_X3_joined lv 135 (o0 :: some (.int x) :: t) (.int x :: st) w)
  ∧ (∀ (lv : Nat) (st : List Value) (t : LX) (o0 o1 : Option Value) (x : Int32) (w : AH), Ex M_X3_joined lv 135 (o0 :: o1 :: some (.int x) :: t) st w = Ex M_X3_joined lv 136 (o0 :: o1 :: some (.int x) :: t) (.int x :: st) w)
  ∧ (∀ (lv : Nat) (l : LX) (st : List Value) (x y : Int32) (w : AH), Ex M_X3_joined lv 136 l (.int y :: .int x :: st) w = if x ≤ y then Ex M_X3_joined lv 143 l st w else Ex M_X3_joined lv 139 l st w)
  ∧ (∀ (lv : Nat) (l : LX) (st : List Value) (w : AH), Ex M_X3_joined lv 139 l st w = Ex M_X3_joined lv 140 l (.int 1 :: st) w)
  ∧ (∀ (lv : Nat) (l : LX) (st : List Value) (w : AH), Ex M_X3_joined lv 140 l st w = Ex M_X3_joined lv 144 l st w)
  ∧ (∀ (lv : Nat) (l : LX) (st : List Value) (w : AH), Ex M_X3_joined lv 143 l st w = Ex M_X3_joined lv 144 l (.int 0 :: st) w)
  ∧ (∀ (lv : Nat) (l : LX) (x : Int32) (w : AH), Ex M_X3_joined lv 144 l [.int x] w = some (some (.int x), w))
  ∧ (∀ (lv : Nat) (st : List Value) (t : LX) (o0 : Option Value) (x : Int32) (w : AH), Ex M_X3_joined lv 145 (o0 :: some (.int x) :: t) st w = Ex M_X3_joined lv 146 (o0 :: some (.int x) :: t) (.int x :: st) w)
  ∧ (∀ (lv : Nat) (st : List Value) (t : LX) (o0 o1 : Option Value) (x : Int32) (w : AH), Ex M_X3_joined lv 146 (o0 :: o1 :: some (.int x) :: t) st w = Ex M_X3_joined lv 147 (o0 :: o1 :: some (.int x) :: t) (.int x :: st) w)
  ∧ (∀ (lv : Nat) (l : LX) (st : List Value) (x y : Int32) (w : AH), Ex M_X3_joined lv 147 l (.int y :: .int x :: st) w = Ex M_X3_joined lv 148 l (.int (x + y) :: st) w)
  ∧ (∀ (lv : Nat) (l : LX) (x : Int32) (w : AH), Ex M_X3_joined lv 148 l [.int x] w = some (some (.int x), w))
  ∧ (∀ (lv : Nat) (st : List Value) (t : LX) (o0 : Option Value) (x : Int32) (w : AH), Ex M_X3_joined lv 149 (o0 :: some (.int x) :: t) st w = Ex M_X3_joined lv 150 (o0 :: some (.int x) :: t) (.int x :: st) w)
  ∧ (∀ (lv : Nat) (st : List Value) (t : LX) (o0 o1 : Option Value) (x : Int32) (w : AH), Ex M_X3_joined lv 150 (o0 :: o1 :: some (.int x) :: t) st w = Ex M_X3_joined lv 151 (o0 :: o1 :: some (.int x) :: t) (.int x :: st) w)
  ∧ (∀ (lv : Nat) (l : LX) (st : List Value) (x y : Int32) (w : AH), Ex M_X3_joined lv 151 l (.int y :: .int x :: st) w = Ex M_X3_joined lv 152 l (.int (x - y) :: st) w)
  ∧ (∀ (lv : Nat) (l : LX) (x : Int32) (w : AH), Ex M_X3_joined lv 152 l [.int x] w = some (some (.int x), w))
  ∧ (∀ (lv : Nat) (st : List Value) (t : LX) (o0 : Option Value) (x : Int32) (w : AH), Ex M_X3_joined lv 153 (o0 :: some (.int x) :: t) st w = Ex M_X3_joined lv 154 (o0 :: some (.int x) :: t) (.int x :: st) w)
  ∧ (∀ (lv : Nat) (st : List Value) (t : LX) (o0 o1 : Option Value) (x : Int32) (w : AH), Ex M_X3_joined lv 154 (o0 :: o1 :: some (.int x) :: t) st w = Ex M_X3_joined lv 155 (o0 :: o1 :: some (.int x) :: t) (.int x :: st) w)
  ∧ (∀ (lv : Nat) (l : LX) (st : List Value) (x y : Int32) (w : AH), Ex M_X3_joined lv 155 l (.int y :: .int x :: st) w = Ex M_X3_joined lv 156 l (.int (x * y) :: st) w)
  ∧ (∀ (lv : Nat) (l : LX) (x : Int32) (w : AH), Ex M_X3_joined lv 156 l [.int x] w = some (some (.int x), w))
  ∧ (∀ (lv : Nat) (st : List Value) (t : LX) (o0 o1 : Option Value) (x : Int32) (w : AH), Ex M_X3_joined lv 157 (o0 :: o1 :: some (.int x) :: t) st w = Ex M_X3_joined lv 158 (o0 :: o1 :: some (.int x) :: t) (.int x :: st) w)
  ∧ (∀ (lv : Nat) (l : LX) (st : List Value) (x : Int32) (w : AH), Ex M_X3_joined lv 158 l (.int x :: st) w = if ¬ x = 0 then Ex M_X3_joined lv 165 l st w else Ex M_X3_joined lv 161 l st w)
  ∧ (∀ (lv : Nat) (l : LX) (st : List Value) (w : AH), Ex M_X3_joined lv 161 l st w = Ex M_X3_joined lv 162 l (.int 0 :: st) w)
  ∧ (∀ (lv : Nat) (l : LX) (st : List Value) (w : AH), Ex M_X3_joined lv 162 l st w = Ex M_X3_joined lv 168 l st w)
  ∧ (∀ (lv : Nat) (st : List Value) (t : LX) (o0 : Option Value) (x : Int32) (w : AH), Ex M_X3_joined lv 165 (o0 :: some (.int x) :: t) st w = Ex M_X3_joined lv 166 (o0 :: some (.int x) :: t) (.int x :: st) w)
  ∧ (∀ (lv : Nat) (st : List Value) (t : LX) (o0 o1 : Option Value) (x : Int32) (w : AH), Ex M_X3_joined lv 166 (o0 :: o1 :: some (.int x) :: t) st w = Ex M_X3_joined lv 167 (o0 :: o1 :: some (.int x) :: t) (.int x :: st) w)
  ∧ (∀ (lv : Nat) (l : LX) (st : List Value) (x y : Int32) (w : AH), Ex M_X3_joined lv 167 l (.int y :: .int x :: st) w = if y = 0 then none else Ex M_X3_joined lv 168 l (.int (x / y) :: st) w)
  ∧ (∀ (lv : Nat) (l : LX) (x : Int32) (w : AH), Ex M_X3_joined lv 168 l [.int x] w = some (some (.int x), w))
  ∧ (∀ (lv : Nat) (st : List Value) (t : LX) (o0 o1 : Option Value) (x : Int32) (w : AH), Ex M_X3_joined lv 169 (o0 :: o1 :: some (.int x) :: t) st w = Ex M_X3_joined lv 170 (o0 :: o1 :: some (.int x) :: t) (.int x :: st) w) :=
  ⟨(fun lv st t x w => Ex_M (i := .iload_n 0) (n := 1) (by decide +kernel) rfl rfl rfl),
   (fun lv l st x w => (by
      refine it_ite (fun hx0 => ?_) (fun hx0 => ?_)
      · subst hx0; exact Ex_ls (by decide +kernel : decode M_X3_joined.2.1 1 = .ok (.lookupswitch 168 #[(38, 97), (42, 152), (43, 144), (45, 148), (47, 156), (60, 111), (61, 122), (62, 133), (124, 83)], 83)) (by decide) rfl rfl
      refine it_ite (fun hx1 => ?_) (fun hx1 => ?_)
      · subst hx1; exact Ex_ls (by decide +kernel : decode M_X3_joined.2.1 1 = .ok (.lookupswitch 168 #[(38, 97), (42, 152), (43, 144), (45, 148), (47, 156), (60, 111), (61, 122), (62, 133), (124, 83)], 83)) (by decide) rfl rfl
      refine it_ite (fun hx2 => ?_) (fun hx2 => ?_)
      · subst hx2; exact Ex_ls (by decide +kernel : decode M_X3_joined.2.1 1 = .ok (.lookupswitch 168 #[(38, 97), (42, 152), (43, 144), (45, 148), (47, 156), (60, 111), (61, 122), (62, 133), (124, 83)], 83)) (by decide) rfl rfl
      refine it_ite (fun hx3 => ?_) (fun hx3 => ?_)
      · subst hx3; exact Ex_ls (by decide +kernel : decode M_X3_joined.2.1 1 = .ok (.lookupswitch 168 #[(38, 97), (42, 152), (43, 144), (45, 148), (47, 156), (60, 111), (61, 122), (62, 133), (124, 83)], 83)) (by decide) rfl rfl
      refine it_ite (fun hx4 => ?_) (fun hx4 => ?_)
      · subst hx4; exact Ex_ls (by decide +kernel : decode M_X3_joined.2.1 1 = .ok (.lookupswitch 168 #[(38, 97), (42, 152), (43, 144), (45, 148), (47, 156), (60, 111), (61, 122), (62, 133), (124, 83)], 83)) (by decide) rfl rfl
      refine it_ite (fun hx5 => ?_) (fun hx5 => ?_)
      · subst hx5; exact Ex_ls (by decide +kernel : decode M_X3_joined.2.1 1 = .ok (.lookupswitch 168 #[(38, 97), (42, 152), (43, 144), (45, 148), (47, 156), (60, 111), (61, 122), (62, 133), (124, 83)], 83)) (by decide) rfl rfl
      refine it_ite (fun hx6 => ?_) (fun hx6 => ?_)
      · subst hx6; exact Ex_ls (by decide +kernel : decode M_X3_joined.2.1 1 = .ok (.lookupswitch 168 #[(38, 97), (42, 152), (43, 144), (45, 148), (47, 156), (60, 111), (61, 122), (62, 133), (124, 83)], 83)) (by decide) rfl rfl
      refine it_ite (fun hx7 => ?_) (fun hx7 => ?_)
      · subst hx7; exact Ex_ls (by decide +kernel : decode M_X3_joined.2.1 1 = .ok (.lookupswitch 168 #[(38, 97), (42, 152), (43, 144), (45, 148), (47, 156), (60, 111), (61, 122), (62, 133), (124, 83)], 83)) (by decide) rfl rfl
      refine it_ite (fun hx8 => ?_) (fun hx8 => ?_)
      · subst hx8; exact Ex_ls (by decide +kernel : decode M_X3_joined.2.1 1 = .ok (.lookupswitch 168 #[(38, 97), (42, 152), (43, 144), (45, 148), (47, 156), (60, 111), (61, 122), (62, 133), (124, 83)], 83)) (by decide) rfl rfl
      exact Ex_ls (by decide +kernel : decode M_X3_joined.2.1 1 = .ok (.lookupswitch 168 #[(38, 97), (42, 152), (43, 144), (45, 148), (47, 156), (60, 111), (61, 122), (62, 133), (124, 83)], 83)) (by decide) ((lv_osw hx0 rfl).trans ((lv_osw hx1 rfl).trans ((lv_osw hx2 rfl).trans ((lv_osw hx3 rfl).trans ((lv_osw hx4 rfl).trans ((lv_osw hx5 rfl).trans ((lv_osw hx6 rfl).trans ((lv_osw hx7 rfl).trans ((lv_osw hx8 rfl).trans (rfl)))))))))) rfl)),
   (fun lv st t o0 x w => Ex_M (i := .iload_n 1) (n := 1) (by decide +kernel) rfl rfl rfl),
   (fun lv l st x w => Ex_if_ne (by decide +kernel : decode M_X3_joined.2.1 85 = .ok (.ifCond .ne 7, 3)) rfl rfl),
   (fun lv st t o0 o1 x w => Ex_M (i := .iload_n 2) (n := 1) (by decide +kernel) rfl rfl rfl),
   (fun lv l st x w => Ex_if_eq (by decide +kernel : decode M_X3_joined.2.1 89 = .ok (.ifCond .eq 7, 3)) rfl rfl),
   (fun lv l st w => Ex_A (i := .iconst 1) (n := 1) (by decide +kernel) rfl rfl),
   (fun lv l st w => Ex_goto (by decide +kernel : decode M_X3_joined.2.1 93 = .ok (.goto 4, 3)) rfl),
   (fun lv l st w => Ex_A (i := .iconst 0) (n := 1) (by decide +kernel) rfl rfl),
   (fun lv l x w => Ex_R (i := .ireturn) (n := 1) (by decide +kernel) rfl rfl rfl rfl rfl),
   (fun lv st t o0 x w => Ex_M (i := .iload_n 1) (n := 1) (by decide +kernel) rfl rfl rfl),
   (fun lv l st x w => Ex_if_eq (by decide +kernel : decode M_X3_joined.2.1 99 = .ok (.ifCond .eq 11, 3)) rfl rfl),
   (fun lv st t o0 o1 x w => Ex_M (i := .iload_n 2) (n := 1) (by decide +kernel) rfl rfl rfl),
   (fun lv l st x w => Ex_if_eq (by decide +kernel : decode M_X3_joined.2.1 103 = .ok (.ifCond .eq 7, 3)) rfl rfl),
   (fun lv l st w => Ex_A (i := .iconst 1) (n := 1) (by decide +kernel) rfl rfl),
   (fun lv l st w => Ex_goto (by decide +kernel : decode M_X3_joined.2.1 107 = .ok (.goto 4, 3)) rfl),
   (fun lv l st w => Ex_A (i := .iconst 0) (n := 1) (by decide +kernel) rfl rfl),
   (fun lv l x w => Ex_R (i := .ireturn) (n := 1) (by decide +kernel) rfl rfl rfl rfl rfl),
   (fun lv st t o0 x w => Ex_M (i := .iload_n 1) (n := 1) (by decide +kernel) rfl rfl rfl),
   (fun lv st t o0 o1 x w => Ex_M (i := .iload_n 2) (n := 1) (by decide +kernel) rfl rfl rfl),
   (fun lv l st x y w => Ex_icmp_ge (by decide +kernel : decode M_X3_joined.2.1 114 = .ok (.if_icmp .ge 7, 3)) rfl rfl),
   (fun lv l st w => Ex_A (i := .iconst 1) (n := 1) (by decide +kernel) rfl rfl),
   (fun lv l st w => Ex_goto (by decide +kernel : decode M_X3_joined.2.1 118 = .ok (.goto 4, 3)) rfl),
   (fun lv l st w => Ex_A (i := .iconst 0) (n := 1) (by decide +kernel) rfl rfl),
   (fun lv l x w => Ex_R (i := .ireturn) (n := 1) (by decide +kernel) rfl rfl rfl rfl rfl),
   (fun lv st t o0 x w => Ex_M (i := .iload_n 1) (n := 1) (by decide +kernel) rfl rfl rfl),
   (fun lv st t o0 o1 x w => Ex_M (i := .iload_n 2) (n := 1) (by decide +kernel) rfl rfl rfl),
   (fun lv l st x y w => Ex_icmp_ne (by decide +kernel : decode M_X3_joined.2.1 125 = .ok (.if_icmp .ne 7, 3)) rfl rfl),
   (fun lv l st w => Ex_A (i := .iconst 1) (n := 1) (by decide +kernel) rfl rfl),
   (fun lv l st w => Ex_goto (by decide +kernel : decode M_X3_joined.2.1 129 = .ok (.goto 4, 3)) rfl),
   (fun lv l st w => Ex_A (i := .iconst 0) (n := 1) (by decide +kernel) rfl rfl),
   (fun lv l x w => Ex_R (i := .ireturn) (n := 1) (by decide +kernel) rfl rfl rfl rfl rfl),
   (fun lv st t o0 x w => Ex_M (i := .iload_n 1) (n := 1) (by decide +kernel) rfl rfl rfl),
   (fun lv st t o0 o1 x w => Ex_M (i := .iload_n 2) (n := 1) (by decide +kernel) rfl rfl rfl),
   (fun lv l st x y w => Ex_icmp_le (by decide +kernel : decode M_X3_joined.2.1 136 = .ok (.if_icmp .le 7, 3)) rfl rfl),
   (fun lv l st w => Ex_A (i := .iconst 1) (n := 1) (by decide +kernel) rfl rfl),
   (fun lv l st w => Ex_goto (by decide +kernel : decode M_X3_joined.2.1 140 = .ok (.goto 4, 3)) rfl),
   (fun lv l st w => Ex_A (i := .iconst 0) (n := 1) (by decide +kernel) rfl rfl),
   (fun lv l x w => Ex_R (i := .ireturn) (n := 1) (by decide +kernel) rfl rfl rfl rfl rfl),
   (fun lv st t o0 x w => Ex_M (i := .iload_n 1) (n := 1) (by decide +kernel) rfl rfl rfl),
   (fun lv st t o0 o1 x w => Ex_M (i := .iload_n 2) (n := 1) (by decide +kernel) rfl rfl rfl),
   (fun lv l st x y w => Ex_A (i := .iadd) (n := 1) (by decide +kernel) rfl rfl),
   (fun lv l x w => Ex_R (i := .ireturn) (n := 1) (by decide +kernel) rfl rfl rfl rfl rfl),
   (fun lv st t o0 x w => Ex_M (i := .iload_n 1) (n := 1) (by decide +kernel) rfl rfl rfl),
   (fun lv st t o0 o1 x w => Ex_M (i := .iload_n 2) (n := 1) (by decide +kernel) rfl rfl rfl),
   (fun lv l st x y w => Ex_A (i := .isub) (n := 1) (by decide +kernel) rfl rfl),
   (fun lv l x w => Ex_R (i := .ireturn) (n := 1) (by decide +kernel) rfl rfl rfl rfl rfl),
   (fun lv st t o0 x w => Ex_M (i := .iload_n 1) (n := 1) (by decide +kernel) rfl rfl rfl),
   (fun lv st t o0 o1 x w => Ex_M (i := .iload_n 2) (n := 1) (by decide +kernel) rfl rfl rfl),
   (fun lv l st x y w => Ex_A (i := .imul) (n := 1) (by decide +kernel) rfl rfl),
   (fun lv l x w => Ex_R (i := .ireturn) (n := 1) (by decide +kernel) rfl rfl rfl rfl rfl),
   (fun lv st t o0 o1 x w => Ex_M (i := .iload_n 2) (n := 1) (by decide +kernel) rfl rfl rfl),
   (fun lv l st x w => Ex_if_ne (by decide +kernel : decode M_X3_joined.2.1 158 = .ok (.ifCond .ne 7, 3)) rfl rfl),
   (fun lv l st w => Ex_A (i := .iconst 0) (n := 1) (by decide +kernel) rfl rfl),
   (fun lv l st w => Ex_goto (by decide +kernel : decode M_X3_joined.2.1 162 = .ok (.goto 6, 3)) rfl),
   (fun lv st t o0 x w => Ex_M (i := .iload_n 1) (n := 1) (by decide +kernel) rfl rfl rfl),
   (fun lv st t o0 o1 x w => Ex_M (i := .iload_n 2) (n := 1) (by decide +kernel) rfl rfl rfl),
   (fun lv l st x y w => Ex_idiv (by decide +kernel : decode M_X3_joined.2.1 167 = .ok (.idiv, 1)) rfl),
   (fun lv l x w => Ex_R (i := .ireturn) (n := 1) (by decide +kernel) rfl rfl rfl rfl rfl),
   (fun lv st t o0 o1 x w => Ex_M (i := .iload_n 2) (n := 1) (by decide +kernel) rfl rfl rfl)⟩
set_option maxRecDepth 20000 in
set_option maxHeartbeats 4000000 in
theorem R_X3_joined_p1 : (∀ (lv : Nat) (l : LX) (st : List Value) (x : Int32) (w : AH), Ex M_X3_joined lv 170 l (.int x :: st) w = if ¬ x = 0 then Ex M_X3_joined lv 177 l st w else Ex M_X3_joined lv 173 l st w)
  ∧ (∀ (lv : Nat) (l : LX) (st : List Value) (w : AH), Ex M_X3_joined lv 173 l st w = Ex M_X3_joined lv 174 l (.int 0 :: st) w)
  ∧ (∀ (lv : Nat) (l : LX) (st : List Value) (w : AH), Ex M_X3_joined lv 174 l st w = Ex M_X3_joined lv 180 l st w)
  ∧ (∀ (lv : Nat) (st : List Value) (t : LX) (o0 : Option Value) (x : Int32) (w : AH), Ex M_X3_joined lv 177 (o0 :: some (.int x) :: t) st w = Ex M_X3_joined lv 178 (o0 :: some (.int x) :: t) (.int x :: st) w)
  ∧ (∀ (lv : Nat) (st : List Value) (t : LX) (o0 o1 : Option Value) (x : Int32) (w : AH), Ex M_X3_joined lv 178 (o0 :: o1 :: some (.int x) :: t) st w = Ex M_X3_joined lv 179 (o0 :: o1 :: some (.int x) :: t) (.int x :: st) w)
  ∧ (∀ (lv : Nat) (l : LX) (st : List Value) (x y : Int32) (w : AH), Ex M_X3_joined lv 179 l (.int y :: .int x :: st) w = if y = 0 then none else Ex M_X3_joined lv 180 l (.int (x - x / y * y) :: st) w)
  ∧ (∀ (lv : Nat) (l : LX) (x : Int32) (w : AH), Ex M_X3_joined lv 180 l [.int x] w = some (some (.int x), w)) :=
  ⟨(fun lv l st x w => Ex_if_ne (by decide +kernel : decode M_X3_joined.2.1 170 = .ok (.ifCond .ne 7, 3)) rfl rfl),
   (fun lv l st w => Ex_A (i := .iconst 0) (n := 1) (by decide +kernel) rfl rfl),
   (fun lv l st w => Ex_goto (by decide +kernel : decode M_X3_joined.2.1 174 = .ok (.goto 6, 3)) rfl),
   (fun lv st t o0 x w => Ex_M (i := .iload_n 1) (n := 1) (by decide +kernel) rfl rfl rfl),
   (fun lv st t o0 o1 x w => Ex_M (i := .iload_n 2) (n := 1) (by decide +kernel) rfl rfl rfl),
   (fun lv l st x y w => Ex_irem (by decide +kernel : decode M_X3_joined.2.1 179 = .ok (.irem, 1)) rfl),
   (fun lv l x w => Ex_R (i := .ireturn) (n := 1) (by decide +kernel) rfl rfl rfl rfl rfl)⟩
-- R_X3_joined: p0 to p1
set_option maxRecDepth 20000 in
set_option maxHeartbeats 4000000 in
theorem R_X4_init : (∀ (lv : Nat) (st : List Value) (t : LX) (x : Nat) (w : AH), Ex M_X4_init lv 0 (some (.ref x) :: t) st w = Ex M_X4_init lv 1 (some (.ref x) :: t) (.ref x :: st) w)
  ∧ (∀ (lv : Nat) (st : List Value) (t : LX) (w : AH), Ex M_X4_init lv 0 (some (.null) :: t) st w = Ex M_X4_init lv 1 (some (.null) :: t) (.null :: st) w)
  ∧ (∀ (lv : Nat) (l : LX) (b : Nat) (w : AH), Ex M_X4_init lv 1 l (.ref b :: []) w = Ex M_X4_init lv 4 l [] w)
  ∧ (∀ (lv : Nat) (st : List Value) (t : LX) (x : Nat) (w : AH), Ex M_X4_init lv 4 (some (.ref x) :: t) st w = Ex M_X4_init lv 5 (some (.ref x) :: t) (.ref x :: st) w)
  ∧ (∀ (lv : Nat) (st : List Value) (t : LX) (w : AH), Ex M_X4_init lv 4 (some (.null) :: t) st w = Ex M_X4_init lv 5 (some (.null) :: t) (.null :: st) w)
  ∧ (∀ (lv : Nat) (l : LX) (st : List Value) (w : AH), Ex M_X4_init lv 5 l st w = Ex M_X4_init lv 8 l (.ref w.1 :: st) (hn w (.inr (6, [.null, .int 0])) 2))
  ∧ (∀ (lv : Nat) (l : LX) (st : List Value) (x : Nat) (w : AH), Ex M_X4_init lv 8 l (.ref x :: st) w = Ex M_X4_init lv 9 l (.ref x :: .ref x :: st) w)
  ∧ (∀ (lv : Nat) (l : LX) (st : List Value) (w : AH), Ex M_X4_init lv 9 l st w = Ex M_X4_init lv 11 l (.int 50 :: st) w)
  ∧ (∀ (lv : Nat) (l : LX) (b : Nat) (a0 : Int32) (s0 : Nat) (s1 : Nat) (w : AH), Ex M_X4_init lv 11 l (.int a0 :: .ref b :: [.ref s0, .ref s1]) w = if (Call M_X6_init 60 [.ref b, .int a0] w).isSome = true then Ex M_X4_init lv 14 l (pushR (cV (Call M_X6_init 60 [.ref b, .int a0] w)) [.ref s0, .ref s1]) (cW (Call M_X6_init 60 [.ref b, .int a0] w) w) else none)
  ∧ (∀ (lv : Nat) (l : LX) (st : List Value) (a : Nat) (v : Value) (w : AH), Ex M_X4_init lv 14 l (v :: .ref a :: st) w = if (pf (hg w a) 4 0 (.object "CarpetLands$Row") v).isSome = true then Ex M_X4_init lv 17 l st (hs w a (vE (pf (hg w a) 4 0 (.object "CarpetLands$Row") v))) else none)
  ∧ (∀ (lv : Nat) (st : List Value) (t : LX) (x : Nat) (w : AH), Ex M_X4_init lv 17 (some (.ref x) :: t) st w = Ex M_X4_init lv 18 (some (.ref x) :: t) (.ref x :: st) w)
  ∧ (∀ (lv : Nat) (st : List Value) (t : LX) (w : AH), Ex M_X4_init lv 17 (some (.null) :: t) st w = Ex M_X4_init lv 18 (some (.null) :: t) (.null :: st) w)
  ∧ (∀ (lv : Nat) (st : List Value) (t : LX) (x : Nat) (w : AH), Ex M_X4_init lv 18 (some (.ref x) :: t) st w = Ex M_X4_init lv 19 (some (.ref x) :: t) (.ref x :: st) w)
  ∧ (∀ (lv : Nat) (st : List Value) (t : LX) (w : AH), Ex M_X4_init lv 18 (some (.null) :: t) st w = Ex M_X4_init lv 19 (some (.null) :: t) (.null :: st) w)
  ∧ (∀ (lv : Nat) (l : LX) (st : List Value) (a : Nat) (w : AH), Ex M_X4_init lv 19 l (.ref a :: st) w = if (gf (hg w a) 4 0).isSome = true then Ex M_X4_init lv 22 l (vV (gf (hg w a) 4 0) :: st) w else none)
  ∧ (∀ (lv : Nat) (l : LX) (st : List Value) (a : Nat) (v : Value) (w : AH), Ex M_X4_init lv 22 l (v :: .ref a :: st) w = if (pf (hg w a) 4 1 (.object "CarpetLands$Row") v).isSome = true then Ex M_X4_init lv 25 l st (hs w a (vE (pf (hg w a) 4 1 (.object "CarpetLands$Row") v))) else none)
  ∧ (∀ (lv : Nat) (st : List Value) (t : LX) (x : Nat) (w : AH), Ex M_X4_init lv 25 (some (.ref x) :: t) st w = Ex M_X4_init lv 26 (some (.ref x) :: t) (.ref x :: st) w)
  ∧ (∀ (lv : Nat) (st : List Value) (t : LX) (w : AH), Ex M_X4_init lv 25 (some (.null) :: t) st w = Ex M_X4_init lv 26 (some (.null) :: t) (.null :: st) w)
  ∧ (∀ (lv : Nat) (l : LX) (st : List Value) (w : AH), Ex M_X4_init lv 26 l st w = Ex M_X4_init lv 28 l (.ref 3 :: st) w)
  ∧ (∀ (lv : Nat) (l : LX) (st : List Value) (a : Nat) (v : Value) (w : AH), Ex M_X4_init lv 28 l (v :: .ref a :: st) w = if (pf (hg w a) 4 2 (.object "java/lang/String") v).isSome = true then Ex M_X4_init lv 31 l st (hs w a (vE (pf (hg w a) 4 2 (.object "java/lang/String") v))) else none)
  ∧ (∀ (lv : Nat) (st : List Value) (t : LX) (x : Nat) (w : AH), Ex M_X4_init lv 31 (some (.ref x) :: t) st w = Ex M_X4_init lv 32 (some (.ref x) :: t) (.ref x :: st) w)
  ∧ (∀ (lv : Nat) (st : List Value) (t : LX) (w : AH), Ex M_X4_init lv 31 (some (.null) :: t) st w = Ex M_X4_init lv 32 (some (.null) :: t) (.null :: st) w)
  ∧ (∀ (lv : Nat) (l : LX) (st : List Value) (w : AH), Ex M_X4_init lv 32 l st w = Ex M_X4_init lv 33 l (.int 0 :: st) w)
  ∧ (∀ (lv : Nat) (l : LX) (st : List Value) (a : Nat) (v : Value) (w : AH), Ex M_X4_init lv 33 l (v :: .ref a :: st) w = if (pf (hg w a) 4 3 .int v).isSome = true then Ex M_X4_init lv 36 l st (hs w a (vE (pf (hg w a) 4 3 .int v))) else none)
  ∧ (∀ (lv : Nat) (st : List Value) (t : LX) (x : Nat) (w : AH), Ex M_X4_init lv 36 (some (.ref x) :: t) st w = Ex M_X4_init lv 37 (some (.ref x) :: t) (.ref x :: st) w)
  ∧ (∀ (lv : Nat) (st : List Value) (t : LX) (w : AH), Ex M_X4_init lv 36 (some (.null) :: t) st w = Ex M_X4_init lv 37 (some (.null) :: t) (.null :: st) w)
  ∧ (∀ (lv : Nat) (l : LX) (st : List Value) (w : AH), Ex M_X4_init lv 37 l st w = Ex M_X4_init lv 38 l (.int 0 :: st) w)
  ∧ (∀ (lv : Nat) (l : LX) (st : List Value) (a : Nat) (v : Value) (w : AH), Ex M_X4_init lv 38 l (v :: .ref a :: st) w = if (pf (hg w a) 4 4 .boolean v).isSome = true then Ex M_X4_init lv 41 l st (hs w a (vE (pf (hg w a) 4 4 .boolean v))) else none)
  ∧ (∀ (lv : Nat) (l : LX) (w : AH), Ex M_X4_init lv 41 l [] w = some (none, w)) :=
  ⟨(fun lv st t x w => Ex_M (i := .aload_n 0) (n := 1) (by decide +kernel) rfl rfl rfl),
   (fun lv st t w => Ex_M (i := .aload_n 0) (n := 1) (by decide +kernel) rfl rfl rfl),
   (fun lv l b w => Ex_oinit (by decide +kernel : decode M_X4_init.2.1 1 = .ok (.invokespecial 3, 3)) rfl (by rfl : resM (mCn M_X4_init) 3 = some (6, M_X0_init)) (by rfl)),
   (fun lv st t x w => Ex_M (i := .aload_n 0) (n := 1) (by decide +kernel) rfl rfl rfl),
   (fun lv st t w => Ex_M (i := .aload_n 0) (n := 1) (by decide +kernel) rfl rfl rfl),
   (fun lv l st w => Ex_new (by decide +kernel : decode M_X4_init.2.1 5 = .ok (.new 9, 3)) rfl (by decide +kernel) rfl rfl),
   (fun lv l st x w => Ex_A (i := .dup) (n := 1) (by decide +kernel) rfl rfl),
   (fun lv l st w => Ex_A (i := .bipush 50) (n := 2) (by decide +kernel) rfl rfl),
   (fun lv l b a0 s0 s1 w => Ex_callI (by decide +kernel : decode M_X4_init.2.1 11 = .ok (.invokespecial 11, 3)) rfl (by rfl : resM (mCn M_X4_init) 11 = some (3, M_X6_init)) (by decide) rfl (by rfl) (Nat.le_of_ble_eq_true rfl) (sLv_lt (by decide +kernel))),
   (fun lv l st a v w => Ex_putf (by decide +kernel : decode M_X4_init.2.1 14 = .ok (.putfield 14, 3)) rfl (by decide +kernel : resF (mCn M_X4_init) 14 = some (4, 0, (.object "CarpetLands$Row"), true)) (by decide +kernel)),
   (fun lv st t x w => Ex_M (i := .aload_n 0) (n := 1) (by decide +kernel) rfl rfl rfl),
   (fun lv st t w => Ex_M (i := .aload_n 0) (n := 1) (by decide +kernel) rfl rfl rfl),
   (fun lv st t x w => Ex_M (i := .aload_n 0) (n := 1) (by decide +kernel) rfl rfl rfl),
   (fun lv st t w => Ex_M (i := .aload_n 0) (n := 1) (by decide +kernel) rfl rfl rfl),
   (fun lv l st a w => Ex_getf (by decide +kernel : decode M_X4_init.2.1 19 = .ok (.getfield 14, 3)) rfl (by decide +kernel : resF (mCn M_X4_init) 14 = some (4, 0, (.object "CarpetLands$Row"), true))),
   (fun lv l st a v w => Ex_putf (by decide +kernel : decode M_X4_init.2.1 22 = .ok (.putfield 20, 3)) rfl (by decide +kernel : resF (mCn M_X4_init) 20 = some (4, 1, (.object "CarpetLands$Row"), false)) (by decide +kernel)),
   (fun lv st t x w => Ex_M (i := .aload_n 0) (n := 1) (by decide +kernel) rfl rfl rfl),
   (fun lv st t w => Ex_M (i := .aload_n 0) (n := 1) (by decide +kernel) rfl rfl rfl),
   (fun lv l st w => Ex_ldcS (j := 0) (by decide +kernel : decode M_X4_init.2.1 26 = .ok (.ldc 23, 2)) rfl (by decide +kernel : resK (mCn M_X4_init) 23 = none) (by decide +kernel : resS (mCn M_X4_init) 23 = some 0)),
   (fun lv l st a v w => Ex_putf (by decide +kernel : decode M_X4_init.2.1 28 = .ok (.putfield 25, 3)) rfl (by decide +kernel : resF (mCn M_X4_init) 25 = some (4, 2, (.object "java/lang/String"), false)) (by decide +kernel)),
   (fun lv st t x w => Ex_M (i := .aload_n 0) (n := 1) (by decide +kernel) rfl rfl rfl),
   (fun lv st t w => Ex_M (i := .aload_n 0) (n := 1) (by decide +kernel) rfl rfl rfl),
   (fun lv l st w => Ex_A (i := .iconst 0) (n := 1) (by decide +kernel) rfl rfl),
   (fun lv l st a v w => Ex_putf (by decide +kernel : decode M_X4_init.2.1 33 = .ok (.putfield 29, 3)) rfl (by decide +kernel : resF (mCn M_X4_init) 29 = some (4, 3, .int, false)) (by decide +kernel)),
   (fun lv st t x w => Ex_M (i := .aload_n 0) (n := 1) (by decide +kernel) rfl rfl rfl),
   (fun lv st t w => Ex_M (i := .aload_n 0) (n := 1) (by decide +kernel) rfl rfl rfl),
   (fun lv l st w => Ex_A (i := .iconst 0) (n := 1) (by decide +kernel) rfl rfl),
   (fun lv l st a v w => Ex_putf (by decide +kernel : decode M_X4_init.2.1 38 = .ok (.putfield 33, 3)) rfl (by decide +kernel : resF (mCn M_X4_init) 33 = some (4, 4, .boolean, false)) (by decide +kernel)),
   (fun lv l w => Ex_R (i := .return_) (n := 1) (by decide +kernel) rfl rfl rfl rfl rfl)⟩
set_option maxRecDepth 20000 in
set_option maxHeartbeats 4000000 in
theorem R_X4_faultOf : (∀ (lv : Nat) (st : List Value) (t : LX) (x : Nat) (w : AH), Ex M_X4_faultOf lv 0 (some (.ref x) :: t) st w = Ex M_X4_faultOf lv 1 (some (.ref x) :: t) (.ref x :: st) w)
  ∧ (∀ (lv : Nat) (st : List Value) (t : LX) (w : AH), Ex M_X4_faultOf lv 0 (some (.null) :: t) st w = Ex M_X4_faultOf lv 1 (some (.null) :: t) (.null :: st) w)
  ∧ (∀ (lv : Nat) (st : List Value) (t : LX) (o0 : Option Value) (x : Nat) (w : AH), Ex M_X4_faultOf lv 1 (o0 :: some (.ref x) :: t) st w = Ex M_X4_faultOf lv 2 (o0 :: some (.ref x) :: t) (.ref x :: st) w)
  ∧ (∀ (lv : Nat) (st : List Value) (t : LX) (o0 : Option Value) (w : AH), Ex M_X4_faultOf lv 1 (o0 :: some (.null) :: t) st w = Ex M_X4_faultOf lv 2 (o0 :: some (.null) :: t) (.null :: st) w)
  ∧ (∀ (lv : Nat) (l : LX) (st : List Value) (a : Nat) (v : Value) (w : AH), Ex M_X4_faultOf lv 2 l (v :: .ref a :: st) w = if (pf (hg w a) 4 1 (.object "CarpetLands$Row") v).isSome = true then Ex M_X4_faultOf lv 5 l st (hs w a (vE (pf (hg w a) 4 1 (.object "CarpetLands$Row") v))) else none)
  ∧ (∀ (lv : Nat) (st : List Value) (t : LX) (x : Nat) (w : AH), Ex M_X4_faultOf lv 5 (some (.ref x) :: t) st w = Ex M_X4_faultOf lv 6 (some (.ref x) :: t) (.ref x :: st) w)
  ∧ (∀ (lv : Nat) (st : List Value) (t : LX) (w : AH), Ex M_X4_faultOf lv 5 (some (.null) :: t) st w = Ex M_X4_faultOf lv 6 (some (.null) :: t) (.null :: st) w)
  ∧ (∀ (lv : Nat) (st : List Value) (t : LX) (o0 o1 : Option Value) (x : Int32) (w : AH), Ex M_X4_faultOf lv 6 (o0 :: o1 :: some (.int x) :: t) st w = Ex M_X4_faultOf lv 7 (o0 :: o1 :: some (.int x) :: t) (.int x :: st) w)
  ∧ (∀ (lv : Nat) (l : LX) (st : List Value) (x : Int32) (w : AH), Ex M_X4_faultOf lv 7 l (.int x :: st) w = if ¬ x = 0 then Ex M_X4_faultOf lv 15 l st w else Ex M_X4_faultOf lv 10 l st w)
  ∧ (∀ (lv : Nat) (l : LX) (st : List Value) (w : AH), Ex M_X4_faultOf lv 10 l st w = Ex M_X4_faultOf lv 12 l (.ref 4 :: st) w)
  ∧ (∀ (lv : Nat) (l : LX) (st : List Value) (w : AH), Ex M_X4_faultOf lv 12 l st w = Ex M_X4_faultOf lv 17 l st w)
  ∧ (∀ (lv : Nat) (l : LX) (st : List Value) (w : AH), Ex M_X4_faultOf lv 15 l st w = Ex M_X4_faultOf lv 17 l (.ref 5 :: st) w)
  ∧ (∀ (lv : Nat) (l : LX) (st : List Value) (a : Nat) (v : Value) (w : AH), Ex M_X4_faultOf lv 17 l (v :: .ref a :: st) w = if (pf (hg w a) 4 2 (.object "java/lang/String") v).isSome = true then Ex M_X4_faultOf lv 20 l st (hs w a (vE (pf (hg w a) 4 2 (.object "java/lang/String") v))) else none)
  ∧ (∀ (lv : Nat) (st : List Value) (t : LX) (x : Nat) (w : AH), Ex M_X4_faultOf lv 20 (some (.ref x) :: t) st w = Ex M_X4_faultOf lv 21 (some (.ref x) :: t) (.ref x :: st) w)
  ∧ (∀ (lv : Nat) (st : List Value) (t : LX) (w : AH), Ex M_X4_faultOf lv 20 (some (.null) :: t) st w = Ex M_X4_faultOf lv 21 (some (.null) :: t) (.null :: st) w)
  ∧ (∀ (lv : Nat) (l : LX) (st : List Value) (a : Nat) (w : AH), Ex M_X4_faultOf lv 21 l (.ref a :: st) w = if (gf (hg w a) 4 0).isSome = true then Ex M_X4_faultOf lv 24 l (vV (gf (hg w a) 4 0) :: st) w else none)
  ∧ (∀ (lv : Nat) (l : LX) (b : Nat) (w : AH), Ex M_X4_faultOf lv 24 l (.ref b :: []) w = if clK (hg w b) = 6 then (if (Call M_X6_clear 60 [.ref b] w).isSome = true then Ex M_X4_faultOf lv 27 l (pushR (cV (Call M_X6_clear 60 [.ref b] w)) []) (cW (Call M_X6_clear 60 [.ref b] w) w) else none) else none)
  ∧ (∀ (lv : Nat) (st : List Value) (t : LX) (x : Nat) (w : AH), Ex M_X4_faultOf lv 27 (some (.ref x) :: t) st w = Ex M_X4_faultOf lv 28 (some (.ref x) :: t) (.ref x :: st) w)
  ∧ (∀ (lv : Nat) (st : List Value) (t : LX) (w : AH), Ex M_X4_faultOf lv 27 (some (.null) :: t) st w = Ex M_X4_faultOf lv 28 (some (.null) :: t) (.null :: st) w)
  ∧ (∀ (lv : Nat) (l : LX) (st : List Value) (w : AH), Ex M_X4_faultOf lv 28 l st w = Ex M_X4_faultOf lv 29 l (.int 0 :: st) w)
  ∧ (∀ (lv : Nat) (l : LX) (st : List Value) (a : Nat) (v : Value) (w : AH), Ex M_X4_faultOf lv 29 l (v :: .ref a :: st) w = if (pf (hg w a) 4 3 .int v).isSome = true then Ex M_X4_faultOf lv 32 l st (hs w a (vE (pf (hg w a) 4 3 .int v))) else none)
  ∧ (∀ (lv : Nat) (st : List Value) (t : LX) (x : Nat) (w : AH), Ex M_X4_faultOf lv 32 (some (.ref x) :: t) st w = Ex M_X4_faultOf lv 33 (some (.ref x) :: t) (.ref x :: st) w)
  ∧ (∀ (lv : Nat) (st : List Value) (t : LX) (w : AH), Ex M_X4_faultOf lv 32 (some (.null) :: t) st w = Ex M_X4_faultOf lv 33 (some (.null) :: t) (.null :: st) w)
  ∧ (∀ (lv : Nat) (l : LX) (st : List Value) (w : AH), Ex M_X4_faultOf lv 33 l st w = Ex M_X4_faultOf lv 34 l (.int 0 :: st) w)
  ∧ (∀ (lv : Nat) (l : LX) (st : List Value) (a : Nat) (v : Value) (w : AH), Ex M_X4_faultOf lv 34 l (v :: .ref a :: st) w = if (pf (hg w a) 4 4 .boolean v).isSome = true then Ex M_X4_faultOf lv 37 l st (hs w a (vE (pf (hg w a) 4 4 .boolean v))) else none)
  ∧ (∀ (lv : Nat) (st : List Value) (t : LX) (x : Nat) (w : AH), Ex M_X4_faultOf lv 37 (some (.ref x) :: t) st w = Ex M_X4_faultOf lv 38 (some (.ref x) :: t) (.ref x :: st) w)
  ∧ (∀ (lv : Nat) (st : List Value) (t : LX) (w : AH), Ex M_X4_faultOf lv 37 (some (.null) :: t) st w = Ex M_X4_faultOf lv 38 (some (.null) :: t) (.null :: st) w)
  ∧ (∀ (lv : Nat) (l : LX) (st : List Value) (w : AH), Ex M_X4_faultOf lv 38 l st w = Ex M_X4_faultOf lv 39 l (.int 0 :: st) w)
  ∧ (∀ (lv : Nat) (l : LX) (st : List Value) (w : AH), Ex M_X4_faultOf lv 39 l st w = Ex M_X4_faultOf lv 40 l (.int 0 :: st) w)
  ∧ (∀ (lv : Nat) (l : LX) (b : Nat) (a0 : Int32) (a1 : Int32) (w : AH), Ex M_X4_faultOf lv 40 l (.int a1 :: .int a0 :: .ref b :: []) w = if clK (hg w b) = 4 then (if (Call M_X4_readLevel 60 [.ref b, .int a0, .int a1] w).isSome = true then Ex M_X4_faultOf lv 43 l (pushR (cV (Call M_X4_readLevel 60 [.ref b, .int a0, .int a1] w)) []) (cW (Call M_X4_readLevel 60 [.ref b, .int a0, .int a1] w) w) else none) else none)
  ∧ (∀ (lv : Nat) (st : List Value) (t : LX) (x : Nat) (w : AH), Ex M_X4_faultOf lv 43 (some (.ref x) :: t) st w = Ex M_X4_faultOf lv 44 (some (.ref x) :: t) (.ref x :: st) w)
  ∧ (∀ (lv : Nat) (st : List Value) (t : LX) (w : AH), Ex M_X4_faultOf lv 43 (some (.null) :: t) st w = Ex M_X4_faultOf lv 44 (some (.null) :: t) (.null :: st) w)
  ∧ (∀ (lv : Nat) (l : LX) (st : List Value) (a : Nat) (w : AH), Ex M_X4_faultOf lv 44 l (.ref a :: st) w = if (gf (hg w a) 4 4).isSome = true then Ex M_X4_faultOf lv 47 l (vV (gf (hg w a) 4 4) :: st) w else none)
  ∧ (∀ (lv : Nat) (l : LX) (st : List Value) (x : Int32) (w : AH), Ex M_X4_faultOf lv 47 l (.int x :: st) w = if ¬ x = 0 then Ex M_X4_faultOf lv 64 l st w else Ex M_X4_faultOf lv 50 l st w)
  ∧ (∀ (lv : Nat) (st : List Value) (t : LX) (x : Nat) (w : AH), Ex M_X4_faultOf lv 50 (some (.ref x) :: t) st w = Ex M_X4_faultOf lv 51 (some (.ref x) :: t) (.ref x :: st) w)
  ∧ (∀ (lv : Nat) (st : List Value) (t : LX) (w : AH), Ex M_X4_faultOf lv 50 (some (.null) :: t) st w = Ex M_X4_faultOf lv 51 (some (.null) :: t) (.null :: st) w)
  ∧ (∀ (lv : Nat) (l : LX) (st : List Value) (a : Nat) (w : AH), Ex M_X4_faultOf lv 51 l (.ref a :: st) w = if (gf (hg w a) 4 3).isSome = true then Ex M_X4_faultOf lv 54 l (vV (gf (hg w a) 4 3) :: st) w else none)
  ∧ (∀ (lv : Nat) (st : List Value) (t : LX) (x : Nat) (w : AH), Ex M_X4_faultOf lv 54 (some (.ref x) :: t) st w = Ex M_X4_faultOf lv 55 (some (.ref x) :: t) (.ref x :: st) w)
  ∧ (∀ (lv : Nat) (st : List Value) (t : LX) (w : AH), Ex M_X4_faultOf lv 54 (some (.null) :: t) st w = Ex M_X4_faultOf lv 55 (some (.null) :: t) (.null :: st) w)
  ∧ (∀ (lv : Nat) (l : LX) (st : List Value) (a : Nat) (w : AH), Ex M_X4_faultOf lv 55 l (.ref a :: st) w = if (gf (hg w a) 4 1).isSome = true then Ex M_X4_faultOf lv 58 l (vV (gf (hg w a) 4 1) :: st) w else none)
  ∧ (∀ (lv : Nat) (l : LX) (st : List Value) (a : Nat) (w : AH), Ex M_X4_faultOf lv 58 l (.ref a :: st) w = if (gf (hg w a) 6 1).isSome = true then Ex M_X4_faultOf lv 61 l (vV (gf (hg w a) 6 1) :: st) w else none)
  ∧ (∀ (lv : Nat) (l : LX) (st : List Value) (x y : Int32) (w : AH), Ex M_X4_faultOf lv 61 l (.int y :: .int x :: st) w = if y ≤ x then Ex M_X4_faultOf lv 71 l st w else Ex M_X4_faultOf lv 64 l st w)
  ∧ (∀ (lv : Nat) (st : List Value) (t : LX) (x : Nat) (w : AH), Ex M_X4_faultOf lv 64 (some (.ref x) :: t) st w = Ex M_X4_faultOf lv 65 (some (.ref x) :: t) (.ref x :: st) w)
  ∧ (∀ (lv : Nat) (st : List Value) (t : LX) (w : AH), Ex M_X4_faultOf lv 64 (some (.null) :: t) st w = Ex M_X4_faultOf lv 65 (some (.null) :: t) (.null :: st) w)
  ∧ (∀ (lv : Nat) (l : LX) (st : List Value) (a : Nat) (w : AH), Ex M_X4_faultOf lv 65 l (.ref a :: st) w = if (gf (hg w a) 4 3).isSome = true then Ex M_X4_faultOf lv 68 l (vV (gf (hg w a) 4 3) :: st) w else none)
  ∧ (∀ (lv : Nat) (l : LX) (st : List Value) (w : AH), Ex M_X4_faultOf lv 68 l st w = Ex M_X4_faultOf lv 72 l st w)
  ∧ (∀ (lv : Nat) (l : LX) (st : List Value) (w : AH), Ex M_X4_faultOf lv 71 l st w = Ex M_X4_faultOf lv 72 l (.int (-1) :: st) w)
  ∧ (∀ (lv : Nat) (l : LX) (x : Int32) (w : AH), Ex M_X4_faultOf lv 72 l [.int x] w = some (some (.int x), w)) :=
  ⟨(fun lv st t x w => Ex_M (i := .aload_n 0) (n := 1) (by decide +kernel) rfl rfl rfl),
   (fun lv st t w => Ex_M (i := .aload_n 0) (n := 1) (by decide +kernel) rfl rfl rfl),
   (fun lv st t o0 x w => Ex_M (i := .aload_n 1) (n := 1) (by decide +kernel) rfl rfl rfl),
   (fun lv st t o0 w => Ex_M (i := .aload_n 1) (n := 1) (by decide +kernel) rfl rfl rfl),
   (fun lv l st a v w => Ex_putf (by decide +kernel : decode M_X4_faultOf.2.1 2 = .ok (.putfield 20, 3)) rfl (by decide +kernel : resF (mCn M_X4_faultOf) 20 = some (4, 1, (.object "CarpetLands$Row"), false)) (by decide +kernel)),
   (fun lv st t x w => Ex_M (i := .aload_n 0) (n := 1) (by decide +kernel) rfl rfl rfl),
   (fun lv st t w => Ex_M (i := .aload_n 0) (n := 1) (by decide +kernel) rfl rfl rfl),
   (fun lv st t o0 o1 x w => Ex_M (i := .iload_n 2) (n := 1) (by decide +kernel) rfl rfl rfl),
   (fun lv l st x w => Ex_if_ne (by decide +kernel : decode M_X4_faultOf.2.1 7 = .ok (.ifCond .ne 8, 3)) rfl rfl),
   (fun lv l st w => Ex_ldcS (j := 1) (by decide +kernel : decode M_X4_faultOf.2.1 10 = .ok (.ldc 37, 2)) rfl (by decide +kernel : resK (mCn M_X4_faultOf) 37 = none) (by decide +kernel : resS (mCn M_X4_faultOf) 37 = some 1)),
   (fun lv l st w => Ex_goto (by decide +kernel : decode M_X4_faultOf.2.1 12 = .ok (.goto 5, 3)) rfl),
   (fun lv l st w => Ex_ldcS (j := 2) (by decide +kernel : decode M_X4_faultOf.2.1 15 = .ok (.ldc 39, 2)) rfl (by decide +kernel : resK (mCn M_X4_faultOf) 39 = none) (by decide +kernel : resS (mCn M_X4_faultOf) 39 = some 2)),
   (fun lv l st a v w => Ex_putf (by decide +kernel : decode M_X4_faultOf.2.1 17 = .ok (.putfield 25, 3)) rfl (by decide +kernel : resF (mCn M_X4_faultOf) 25 = some (4, 2, (.object "java/lang/String"), false)) (by decide +kernel)),
   (fun lv st t x w => Ex_M (i := .aload_n 0) (n := 1) (by decide +kernel) rfl rfl rfl),
   (fun lv st t w => Ex_M (i := .aload_n 0) (n := 1) (by decide +kernel) rfl rfl rfl),
   (fun lv l st a w => Ex_getf (by decide +kernel : decode M_X4_faultOf.2.1 21 = .ok (.getfield 14, 3)) rfl (by decide +kernel : resF (mCn M_X4_faultOf) 14 = some (4, 0, (.object "CarpetLands$Row"), true))),
   (fun lv l b w => Ex_callV (by decide +kernel : decode M_X4_faultOf.2.1 24 = .ok (.invokevirtual 41, 3)) rfl (by rfl : resM (mCn M_X4_faultOf) 41 = some (2, M_X6_clear)) rfl (by rfl) (Nat.le_of_ble_eq_true rfl) (by decide +kernel) (sLv_lt (by decide +kernel))),
   (fun lv st t x w => Ex_M (i := .aload_n 0) (n := 1) (by decide +kernel) rfl rfl rfl),
   (fun lv st t w => Ex_M (i := .aload_n 0) (n := 1) (by decide +kernel) rfl rfl rfl),
   (fun lv l st w => Ex_A (i := .iconst 0) (n := 1) (by decide +kernel) rfl rfl),
   (fun lv l st a v w => Ex_putf (by decide +kernel : decode M_X4_faultOf.2.1 29 = .ok (.putfield 29, 3)) rfl (by decide +kernel : resF (mCn M_X4_faultOf) 29 = some (4, 3, .int, false)) (by decide +kernel)),
   (fun lv st t x w => Ex_M (i := .aload_n 0) (n := 1) (by decide +kernel) rfl rfl rfl),
   (fun lv st t w => Ex_M (i := .aload_n 0) (n := 1) (by decide +kernel) rfl rfl rfl),
   (fun lv l st w => Ex_A (i := .iconst 0) (n := 1) (by decide +kernel) rfl rfl),
   (fun lv l st a v w => Ex_putf (by decide +kernel : decode M_X4_faultOf.2.1 34 = .ok (.putfield 33, 3)) rfl (by decide +kernel : resF (mCn M_X4_faultOf) 33 = some (4, 4, .boolean, false)) (by decide +kernel)),
   (fun lv st t x w => Ex_M (i := .aload_n 0) (n := 1) (by decide +kernel) rfl rfl rfl),
   (fun lv st t w => Ex_M (i := .aload_n 0) (n := 1) (by decide +kernel) rfl rfl rfl),
   (fun lv l st w => Ex_A (i := .iconst 0) (n := 1) (by decide +kernel) rfl rfl),
   (fun lv l st w => Ex_A (i := .iconst 0) (n := 1) (by decide +kernel) rfl rfl),
   (fun lv l b a0 a1 w => Ex_callV (by decide +kernel : decode M_X4_faultOf.2.1 40 = .ok (.invokevirtual 44, 3)) rfl (by rfl : resM (mCn M_X4_faultOf) 44 = some (2, M_X4_readLevel)) rfl (by rfl) (Nat.le_of_ble_eq_true rfl) (by decide +kernel) (sLv_lt (by decide +kernel))),
   (fun lv st t x w => Ex_M (i := .aload_n 0) (n := 1) (by decide +kernel) rfl rfl rfl),
   (fun lv st t w => Ex_M (i := .aload_n 0) (n := 1) (by decide +kernel) rfl rfl rfl),
   (fun lv l st a w => Ex_getf (by decide +kernel : decode M_X4_faultOf.2.1 44 = .ok (.getfield 33, 3)) rfl (by decide +kernel : resF (mCn M_X4_faultOf) 33 = some (4, 4, .boolean, false))),
   (fun lv l st x w => Ex_if_ne (by decide +kernel : decode M_X4_faultOf.2.1 47 = .ok (.ifCond .ne 17, 3)) rfl rfl),
   (fun lv st t x w => Ex_M (i := .aload_n 0) (n := 1) (by decide +kernel) rfl rfl rfl),
   (fun lv st t w => Ex_M (i := .aload_n 0) (n := 1) (by decide +kernel) rfl rfl rfl),
   (fun lv l st a w => Ex_getf (by decide +kernel : decode M_X4_faultOf.2.1 51 = .ok (.getfield 29, 3)) rfl (by decide +kernel : resF (mCn M_X4_faultOf) 29 = some (4, 3, .int, false))),
   (fun lv st t x w => Ex_M (i := .aload_n 0) (n := 1) (by decide +kernel) rfl rfl rfl),
   (fun lv st t w => Ex_M (i := .aload_n 0) (n := 1) (by decide +kernel) rfl rfl rfl),
   (fun lv l st a w => Ex_getf (by decide +kernel : decode M_X4_faultOf.2.1 55 = .ok (.getfield 20, 3)) rfl (by decide +kernel : resF (mCn M_X4_faultOf) 20 = some (4, 1, (.object "CarpetLands$Row"), false))),
   (fun lv l st a w => Ex_getf (by decide +kernel : decode M_X4_faultOf.2.1 58 = .ok (.getfield 48, 3)) rfl (by decide +kernel : resF (mCn M_X4_faultOf) 48 = some (6, 1, .int, false))),
   (fun lv l st x y w => Ex_icmp_ge (by decide +kernel : decode M_X4_faultOf.2.1 61 = .ok (.if_icmp .ge 10, 3)) rfl rfl),
   (fun lv st t x w => Ex_M (i := .aload_n 0) (n := 1) (by decide +kernel) rfl rfl rfl),
   (fun lv st t w => Ex_M (i := .aload_n 0) (n := 1) (by decide +kernel) rfl rfl rfl),
   (fun lv l st a w => Ex_getf (by decide +kernel : decode M_X4_faultOf.2.1 65 = .ok (.getfield 29, 3)) rfl (by decide +kernel : resF (mCn M_X4_faultOf) 29 = some (4, 3, .int, false))),
   (fun lv l st w => Ex_goto (by decide +kernel : decode M_X4_faultOf.2.1 68 = .ok (.goto 4, 3)) rfl),
   (fun lv l st w => Ex_A (i := .iconst (-1)) (n := 1) (by decide +kernel) rfl rfl),
   (fun lv l x w => Ex_R (i := .ireturn) (n := 1) (by decide +kernel) rfl rfl rfl rfl rfl)⟩
set_option maxRecDepth 20000 in
set_option maxHeartbeats 4000000 in
theorem R_X4_operatorsOf : (∀ (lv : Nat) (st : List Value) (t : LX) (x : Int32) (w : AH), Ex M_X4_operatorsOf lv 0 (some (.int x) :: t) st w = Ex M_X4_operatorsOf lv 1 (some (.int x) :: t) (.int x :: st) w)
  ∧ (∀ (lv : Nat) (l : LX) (st : List Value) (x : Int32) (w : AH), Ex M_X4_operatorsOf lv 1 l (.int x :: st) w = if x = 0 then Ex M_X4_operatorsOf lv 32 l st w else if x = 1 then Ex M_X4_operatorsOf lv 35 l st w else if x = 2 then Ex M_X4_operatorsOf lv 38 l st w else if x = 3 then Ex M_X4_operatorsOf lv 41 l st w else Ex M_X4_operatorsOf lv 44 l st w)
  ∧ (∀ (lv : Nat) (l : LX) (st : List Value) (w : AH), Ex M_X4_operatorsOf lv 32 l st w = Ex M_X4_operatorsOf lv 34 l (.ref 7 :: st) w)
  ∧ (∀ (lv : Nat) (l : LX) (x : Nat) (w : AH), Ex M_X4_operatorsOf lv 34 l [.ref x] w = some (some (.ref x), w))
  ∧ (∀ (lv : Nat) (l : LX) (w : AH), Ex M_X4_operatorsOf lv 34 l [.null] w = some (some .null, w))
  ∧ (∀ (lv : Nat) (l : LX) (st : List Value) (w : AH), Ex M_X4_operatorsOf lv 35 l st w = Ex M_X4_operatorsOf lv 37 l (.ref 8 :: st) w)
  ∧ (∀ (lv : Nat) (l : LX) (x : Nat) (w : AH), Ex M_X4_operatorsOf lv 37 l [.ref x] w = some (some (.ref x), w))
  ∧ (∀ (lv : Nat) (l : LX) (w : AH), Ex M_X4_operatorsOf lv 37 l [.null] w = some (some .null, w))
  ∧ (∀ (lv : Nat) (l : LX) (st : List Value) (w : AH), Ex M_X4_operatorsOf lv 38 l st w = Ex M_X4_operatorsOf lv 40 l (.ref 9 :: st) w)
  ∧ (∀ (lv : Nat) (l : LX) (x : Nat) (w : AH), Ex M_X4_operatorsOf lv 40 l [.ref x] w = some (some (.ref x), w))
  ∧ (∀ (lv : Nat) (l : LX) (w : AH), Ex M_X4_operatorsOf lv 40 l [.null] w = some (some .null, w))
  ∧ (∀ (lv : Nat) (l : LX) (st : List Value) (w : AH), Ex M_X4_operatorsOf lv 41 l st w = Ex M_X4_operatorsOf lv 43 l (.ref 10 :: st) w)
  ∧ (∀ (lv : Nat) (l : LX) (x : Nat) (w : AH), Ex M_X4_operatorsOf lv 43 l [.ref x] w = some (some (.ref x), w))
  ∧ (∀ (lv : Nat) (l : LX) (w : AH), Ex M_X4_operatorsOf lv 43 l [.null] w = some (some .null, w))
  ∧ (∀ (lv : Nat) (l : LX) (st : List Value) (w : AH), Ex M_X4_operatorsOf lv 44 l st w = Ex M_X4_operatorsOf lv 46 l (.ref 11 :: st) w)
  ∧ (∀ (lv : Nat) (l : LX) (x : Nat) (w : AH), Ex M_X4_operatorsOf lv 46 l [.ref x] w = some (some (.ref x), w))
  ∧ (∀ (lv : Nat) (l : LX) (w : AH), Ex M_X4_operatorsOf lv 46 l [.null] w = some (some .null, w)) :=
  ⟨(fun lv st t x w => Ex_M (i := .iload_n 0) (n := 1) (by decide +kernel) rfl rfl rfl),
   (fun lv l st x w => (by
      refine it_ite (fun hx0 => ?_) (fun hx0 => ?_)
      · subst hx0; exact Ex_tsIn (by decide +kernel : decode M_X4_operatorsOf.2.1 1 = .ok (.tableswitch 43 0 3 #[31, 34, 37, 40], 31)) (by decide) rfl rfl
      refine it_ite (fun hx1 => ?_) (fun hx1 => ?_)
      · subst hx1; exact Ex_tsIn (by decide +kernel : decode M_X4_operatorsOf.2.1 1 = .ok (.tableswitch 43 0 3 #[31, 34, 37, 40], 31)) (by decide) rfl rfl
      refine it_ite (fun hx2 => ?_) (fun hx2 => ?_)
      · subst hx2; exact Ex_tsIn (by decide +kernel : decode M_X4_operatorsOf.2.1 1 = .ok (.tableswitch 43 0 3 #[31, 34, 37, 40], 31)) (by decide) rfl rfl
      refine it_ite (fun hx3 => ?_) (fun hx3 => ?_)
      · subst hx3; exact Ex_tsIn (by decide +kernel : decode M_X4_operatorsOf.2.1 1 = .ok (.tableswitch 43 0 3 #[31, 34, 37, 40], 31)) (by decide) rfl rfl
      exact Ex_tsOut (by decide +kernel : decode M_X4_operatorsOf.2.1 1 = .ok (.tableswitch 43 0 3 #[31, 34, 37, 40], 31)) (ts_out 0 3 (by have := n_toInt (z := 0) rfl hx0; have := n_toInt (z := 1) rfl hx1; have := n_toInt (z := 2) rfl hx2; have := n_toInt (z := 3) rfl hx3; omega)) rfl)),
   (fun lv l st w => Ex_ldcS (j := 4) (by decide +kernel : decode M_X4_operatorsOf.2.1 32 = .ok (.ldc 51, 2)) rfl (by decide +kernel : resK (mCn M_X4_operatorsOf) 51 = none) (by decide +kernel : resS (mCn M_X4_operatorsOf) 51 = some 4)),
   (fun lv l x w => Ex_R (i := .areturn) (n := 1) (by decide +kernel) rfl rfl rfl rfl rfl),
   (fun lv l w => Ex_R (i := .areturn) (n := 1) (by decide +kernel) rfl rfl rfl rfl rfl),
   (fun lv l st w => Ex_ldcS (j := 5) (by decide +kernel : decode M_X4_operatorsOf.2.1 35 = .ok (.ldc 53, 2)) rfl (by decide +kernel : resK (mCn M_X4_operatorsOf) 53 = none) (by decide +kernel : resS (mCn M_X4_operatorsOf) 53 = some 5)),
   (fun lv l x w => Ex_R (i := .areturn) (n := 1) (by decide +kernel) rfl rfl rfl rfl rfl),
   (fun lv l w => Ex_R (i := .areturn) (n := 1) (by decide +kernel) rfl rfl rfl rfl rfl),
   (fun lv l st w => Ex_ldcS (j := 6) (by decide +kernel : decode M_X4_operatorsOf.2.1 38 = .ok (.ldc 55, 2)) rfl (by decide +kernel : resK (mCn M_X4_operatorsOf) 55 = none) (by decide +kernel : resS (mCn M_X4_operatorsOf) 55 = some 6)),
   (fun lv l x w => Ex_R (i := .areturn) (n := 1) (by decide +kernel) rfl rfl rfl rfl rfl),
   (fun lv l w => Ex_R (i := .areturn) (n := 1) (by decide +kernel) rfl rfl rfl rfl rfl),
   (fun lv l st w => Ex_ldcS (j := 7) (by decide +kernel : decode M_X4_operatorsOf.2.1 41 = .ok (.ldc 57, 2)) rfl (by decide +kernel : resK (mCn M_X4_operatorsOf) 57 = none) (by decide +kernel : resS (mCn M_X4_operatorsOf) 57 = some 7)),
   (fun lv l x w => Ex_R (i := .areturn) (n := 1) (by decide +kernel) rfl rfl rfl rfl rfl),
   (fun lv l w => Ex_R (i := .areturn) (n := 1) (by decide +kernel) rfl rfl rfl rfl rfl),
   (fun lv l st w => Ex_ldcS (j := 8) (by decide +kernel : decode M_X4_operatorsOf.2.1 44 = .ok (.ldc 59, 2)) rfl (by decide +kernel : resK (mCn M_X4_operatorsOf) 59 = none) (by decide +kernel : resS (mCn M_X4_operatorsOf) 59 = some 8)),
   (fun lv l x w => Ex_R (i := .areturn) (n := 1) (by decide +kernel) rfl rfl rfl rfl rfl),
   (fun lv l w => Ex_R (i := .areturn) (n := 1) (by decide +kernel) rfl rfl rfl rfl rfl)⟩
set_option maxRecDepth 20000 in
set_option maxHeartbeats 4000000 in
theorem R_X4_ahead : (∀ (lv : Nat) (st : List Value) (t : LX) (x : Nat) (w : AH), Ex M_X4_ahead lv 0 (some (.ref x) :: t) st w = Ex M_X4_ahead lv 1 (some (.ref x) :: t) (.ref x :: st) w)
  ∧ (∀ (lv : Nat) (st : List Value) (t : LX) (w : AH), Ex M_X4_ahead lv 0 (some (.null) :: t) st w = Ex M_X4_ahead lv 1 (some (.null) :: t) (.null :: st) w)
  ∧ (∀ (lv : Nat) (l : LX) (st : List Value) (a : Nat) (w : AH), Ex M_X4_ahead lv 1 l (.ref a :: st) w = if (gf (hg w a) 4 1).isSome = true then Ex M_X4_ahead lv 4 l (vV (gf (hg w a) 4 1) :: st) w else none)
  ∧ (∀ (lv : Nat) (st : List Value) (t : LX) (x : Nat) (w : AH), Ex M_X4_ahead lv 4 (some (.ref x) :: t) st w = Ex M_X4_ahead lv 5 (some (.ref x) :: t) (.ref x :: st) w)
  ∧ (∀ (lv : Nat) (st : List Value) (t : LX) (w : AH), Ex M_X4_ahead lv 4 (some (.null) :: t) st w = Ex M_X4_ahead lv 5 (some (.null) :: t) (.null :: st) w)
  ∧ (∀ (lv : Nat) (l : LX) (st : List Value) (a : Nat) (w : AH), Ex M_X4_ahead lv 5 l (.ref a :: st) w = if (gf (hg w a) 4 3).isSome = true then Ex M_X4_ahead lv 8 l (vV (gf (hg w a) 4 3) :: st) w else none)
  ∧ (∀ (lv : Nat) (l : LX) (b : Nat) (a0 : Int32) (w : AH), Ex M_X4_ahead lv 8 l (.int a0 :: .ref b :: []) w = if clK (hg w b) = 6 then (if (Call M_X6_get 60 [.ref b, .int a0] w).isSome = true then Ex M_X4_ahead lv 11 l (pushR (cV (Call M_X6_get 60 [.ref b, .int a0] w)) []) (cW (Call M_X6_get 60 [.ref b, .int a0] w) w) else none) else none)
  ∧ (∀ (lv : Nat) (l : LX) (x : Int32) (w : AH), Ex M_X4_ahead lv 11 l [.int x] w = some (some (.int x), w)) :=
  ⟨(fun lv st t x w => Ex_M (i := .aload_n 0) (n := 1) (by decide +kernel) rfl rfl rfl),
   (fun lv st t w => Ex_M (i := .aload_n 0) (n := 1) (by decide +kernel) rfl rfl rfl),
   (fun lv l st a w => Ex_getf (by decide +kernel : decode M_X4_ahead.2.1 1 = .ok (.getfield 20, 3)) rfl (by decide +kernel : resF (mCn M_X4_ahead) 20 = some (4, 1, (.object "CarpetLands$Row"), false))),
   (fun lv st t x w => Ex_M (i := .aload_n 0) (n := 1) (by decide +kernel) rfl rfl rfl),
   (fun lv st t w => Ex_M (i := .aload_n 0) (n := 1) (by decide +kernel) rfl rfl rfl),
   (fun lv l st a w => Ex_getf (by decide +kernel : decode M_X4_ahead.2.1 5 = .ok (.getfield 29, 3)) rfl (by decide +kernel : resF (mCn M_X4_ahead) 29 = some (4, 3, .int, false))),
   (fun lv l b a0 w => Ex_callV (by decide +kernel : decode M_X4_ahead.2.1 8 = .ok (.invokevirtual 61, 3)) rfl (by rfl : resM (mCn M_X4_ahead) 61 = some (2, M_X6_get)) rfl (by rfl) (Nat.le_of_ble_eq_true rfl) (by decide +kernel) (sLv_lt (by decide +kernel))),
   (fun lv l x w => Ex_R (i := .ireturn) (n := 1) (by decide +kernel) rfl rfl rfl rfl rfl)⟩
set_option maxRecDepth 20000 in
set_option maxHeartbeats 4000000 in
theorem R_X4_isAhead : (∀ (lv : Nat) (st : List Value) (t : LX) (o0 : Option Value) (x : Nat) (w : AH), Ex M_X4_isAhead lv 0 (o0 :: some (.ref x) :: t) st w = Ex M_X4_isAhead lv 1 (o0 :: some (.ref x) :: t) (.ref x :: st) w)
  ∧ (∀ (lv : Nat) (st : List Value) (t : LX) (o0 : Option Value) (w : AH), Ex M_X4_isAhead lv 0 (o0 :: some (.null) :: t) st w = Ex M_X4_isAhead lv 1 (o0 :: some (.null) :: t) (.null :: st) w)
  ∧ (∀ (lv : Nat) (st : List Value) (t : LX) (x : Nat) (w : AH), Ex M_X4_isAhead lv 1 (some (.ref x) :: t) st w = Ex M_X4_isAhead lv 2 (some (.ref x) :: t) (.ref x :: st) w)
  ∧ (∀ (lv : Nat) (st : List Value) (t : LX) (w : AH), Ex M_X4_isAhead lv 1 (some (.null) :: t) st w = Ex M_X4_isAhead lv 2 (some (.null) :: t) (.null :: st) w)
  ∧ (∀ (lv : Nat) (l : LX) (st : List Value) (a : Nat) (w : AH), Ex M_X4_isAhead lv 2 l (.ref a :: st) w = if (gf (hg w a) 4 1).isSome = true then Ex M_X4_isAhead lv 5 l (vV (gf (hg w a) 4 1) :: st) w else none)
  ∧ (∀ (lv : Nat) (st : List Value) (t : LX) (x : Nat) (w : AH), Ex M_X4_isAhead lv 5 (some (.ref x) :: t) st w = Ex M_X4_isAhead lv 6 (some (.ref x) :: t) (.ref x :: st) w)
  ∧ (∀ (lv : Nat) (st : List Value) (t : LX) (w : AH), Ex M_X4_isAhead lv 5 (some (.null) :: t) st w = Ex M_X4_isAhead lv 6 (some (.null) :: t) (.null :: st) w)
  ∧ (∀ (lv : Nat) (l : LX) (st : List Value) (a : Nat) (w : AH), Ex M_X4_isAhead lv 6 l (.ref a :: st) w = if (gf (hg w a) 4 3).isSome = true then Ex M_X4_isAhead lv 9 l (vV (gf (hg w a) 4 3) :: st) w else none)
  ∧ (∀ (lv : Nat) (l : LX) (b : Nat) (a0 : Int32) (s0 : Nat) (w : AH), Ex M_X4_isAhead lv 9 l (.int a0 :: .ref b :: [.ref s0]) w = if clK (hg w b) = 6 then (if (Call M_X6_get 60 [.ref b, .int a0] w).isSome = true then Ex M_X4_isAhead lv 12 l (pushR (cV (Call M_X6_get 60 [.ref b, .int a0] w)) [.ref s0]) (cW (Call M_X6_get 60 [.ref b, .int a0] w) w) else none) else none)
  ∧ (∀ (lv : Nat) (l : LX) (st : List Value) (x : Int32) (w : AH), Ex M_X4_isAhead lv 12 l (.int x :: st) w = Ex M_X4_isAhead lv 13 l (.int (x.toUInt32 % 65536).toInt32 :: st) w)
  ∧ (∀ (lv : Nat) (l : LX) (b : Nat) (a0 : Int32) (w : AH), Ex M_X4_isAhead lv 13 l (.int a0 :: .ref b :: []) w = if clK (hg w b) = 50 then (if (Call M_J0_indexOf_0f7a4 60 [.ref b, .int a0] w).isSome = true then Ex M_X4_isAhead lv 16 l (pushR (cV (Call M_J0_indexOf_0f7a4 60 [.ref b, .int a0] w)) []) (cW (Call M_J0_indexOf_0f7a4 60 [.ref b, .int a0] w) w) else none) else none)
  ∧ (∀ (lv : Nat) (l : LX) (st : List Value) (x : Int32) (w : AH), Ex M_X4_isAhead lv 16 l (.int x :: st) w = if x < 0 then Ex M_X4_isAhead lv 23 l st w else Ex M_X4_isAhead lv 19 l st w)
  ∧ (∀ (lv : Nat) (l : LX) (st : List Value) (w : AH), Ex M_X4_isAhead lv 19 l st w = Ex M_X4_isAhead lv 20 l (.int 1 :: st) w)
  ∧ (∀ (lv : Nat) (l : LX) (st : List Value) (w : AH), Ex M_X4_isAhead lv 20 l st w = Ex M_X4_isAhead lv 24 l st w)
  ∧ (∀ (lv : Nat) (l : LX) (st : List Value) (w : AH), Ex M_X4_isAhead lv 23 l st w = Ex M_X4_isAhead lv 24 l (.int 0 :: st) w)
  ∧ (∀ (lv : Nat) (l : LX) (x : Int32) (w : AH), Ex M_X4_isAhead lv 24 l [.int x] w = if x = 0 ∨ x = 1 then some (some (.int x), w) else none) :=
  ⟨(fun lv st t o0 x w => Ex_M (i := .aload_n 1) (n := 1) (by decide +kernel) rfl rfl rfl),
   (fun lv st t o0 w => Ex_M (i := .aload_n 1) (n := 1) (by decide +kernel) rfl rfl rfl),
   (fun lv st t x w => Ex_M (i := .aload_n 0) (n := 1) (by decide +kernel) rfl rfl rfl),
   (fun lv st t w => Ex_M (i := .aload_n 0) (n := 1) (by decide +kernel) rfl rfl rfl),
   (fun lv l st a w => Ex_getf (by decide +kernel : decode M_X4_isAhead.2.1 2 = .ok (.getfield 20, 3)) rfl (by decide +kernel : resF (mCn M_X4_isAhead) 20 = some (4, 1, (.object "CarpetLands$Row"), false))),
   (fun lv st t x w => Ex_M (i := .aload_n 0) (n := 1) (by decide +kernel) rfl rfl rfl),
   (fun lv st t w => Ex_M (i := .aload_n 0) (n := 1) (by decide +kernel) rfl rfl rfl),
   (fun lv l st a w => Ex_getf (by decide +kernel : decode M_X4_isAhead.2.1 6 = .ok (.getfield 29, 3)) rfl (by decide +kernel : resF (mCn M_X4_isAhead) 29 = some (4, 3, .int, false))),
   (fun lv l b a0 s0 w => Ex_callV (by decide +kernel : decode M_X4_isAhead.2.1 9 = .ok (.invokevirtual 61, 3)) rfl (by rfl : resM (mCn M_X4_isAhead) 61 = some (2, M_X6_get)) rfl (by rfl) (Nat.le_of_ble_eq_true rfl) (by decide +kernel) (sLv_lt (by decide +kernel))),
   (fun lv l st x w => Ex_A (i := .i2c) (n := 1) (by decide +kernel) rfl rfl),
   (fun lv l b a0 w => Ex_callV (by decide +kernel : decode M_X4_isAhead.2.1 13 = .ok (.invokevirtual 65, 3)) rfl (by rfl : resM (mCn M_X4_isAhead) 65 = some (2, M_J0_indexOf_0f7a4)) rfl (by rfl) (Nat.le_of_ble_eq_true rfl) (by decide +kernel) (sLv_lt (by decide +kernel))),
   (fun lv l st x w => Ex_if_lt (by decide +kernel : decode M_X4_isAhead.2.1 16 = .ok (.ifCond .lt 7, 3)) rfl rfl),
   (fun lv l st w => Ex_A (i := .iconst 1) (n := 1) (by decide +kernel) rfl rfl),
   (fun lv l st w => Ex_goto (by decide +kernel : decode M_X4_isAhead.2.1 20 = .ok (.goto 4, 3)) rfl),
   (fun lv l st w => Ex_A (i := .iconst 0) (n := 1) (by decide +kernel) rfl rfl),
   (fun lv l x w => Ex_zret (by decide +kernel : decode M_X4_isAhead.2.1 24 = .ok (.ireturn, 1)) rfl)⟩
set_option maxRecDepth 20000 in
theorem H_X4_readLevel_34 : ∀ (lv : Nat) (st : List Value) (t : LX) (o0 o1 o2 o3 : Option Value) (x : Int32) (w : AH), Ex M_X4_readLevel lv 34 (o0 :: o1 :: o2 :: o3 :: some (.int x) :: t) st w = Ex M_X4_readLevel lv 36 (o0 :: o1 :: o2 :: o3 :: some (.int x) :: t) (.int x :: st) w := fun lv st t o0 o1 o2 o3 x w => Ex_M (i := .iload 4) (n := 2) (by decide +kernel) rfl rfl rfl
set_option maxRecDepth 20000 in
set_option maxHeartbeats 4000000 in
theorem R_X4_readLevel_p0 : (∀ (lv : Nat) (st : List Value) (t : LX) (o0 : Option Value) (x : Int32) (w : AH), Ex M_X4_readLevel lv 0 (o0 :: some (.int x) :: t) st w = Ex M_X4_readLevel lv 1 (o0 :: some (.int x) :: t) (.int x :: st) w)
  ∧ (∀ (lv : Nat) (l : LX) (st : List Value) (w : AH), Ex M_X4_readLevel lv 1 l st w = Ex M_X4_readLevel lv 2 l (.int 5 :: st) w)
  ∧ (∀ (lv : Nat) (l : LX) (st : List Value) (x y : Int32) (w : AH), Ex M_X4_readLevel lv 2 l (.int y :: .int x :: st) w = if x < y then Ex M_X4_readLevel lv 11 l st w else Ex M_X4_readLevel lv 5 l st w)
  ∧ (∀ (lv : Nat) (st : List Value) (t : LX) (x : Nat) (w : AH), Ex M_X4_readLevel lv 5 (some (.ref x) :: t) st w = Ex M_X4_readLevel lv 6 (some (.ref x) :: t) (.ref x :: st) w)
  ∧ (∀ (lv : Nat) (st : List Value) (t : LX) (w : AH), Ex M_X4_readLevel lv 5 (some (.null) :: t) st w = Ex M_X4_readLevel lv 6 (some (.null) :: t) (.null :: st) w)
  ∧ (∀ (lv : Nat) (st : List Value) (t : LX) (o0 o1 : Option Value) (x : Int32) (w : AH), Ex M_X4_readLevel lv 6 (o0 :: o1 :: some (.int x) :: t) st w = Ex M_X4_readLevel lv 7 (o0 :: o1 :: some (.int x) :: t) (.int x :: st) w)
  ∧ (∀ (lv : Nat) (l : LX) (b : Nat) (a0 : Int32) (w : AH), Ex M_X4_readLevel (lv + 1) 7 l (.int a0 :: .ref b :: []) w = if clK (hg w b) = 4 then (if (Call M_X4_readFactor lv [.ref b, .int a0] w).isSome = true then Ex M_X4_readLevel (lv + 1) 10 l (pushR (cV (Call M_X4_readFactor lv [.ref b, .int a0] w)) []) (cW (Call M_X4_readFactor lv [.ref b, .int a0] w) w) else none) else none)
  ∧ (∀ (lv : Nat) (l : LX) (w : AH), Ex M_X4_readLevel lv 10 l [] w = some (none, w))
  ∧ (∀ (lv : Nat) (st : List Value) (t : LX) (x : Nat) (w : AH), Ex M_X4_readLevel lv 11 (some (.ref x) :: t) st w = Ex M_X4_readLevel lv 12 (some (.ref x) :: t) (.ref x :: st) w)
  ∧ (∀ (lv : Nat) (st : List Value) (t : LX) (w : AH), Ex M_X4_readLevel lv 11 (some (.null) :: t) st w = Ex M_X4_readLevel lv 12 (some (.null) :: t) (.null :: st) w)
  ∧ (∀ (lv : Nat) (st : List Value) (t : LX) (o0 : Option Value) (x : Int32) (w : AH), Ex M_X4_readLevel lv 12 (o0 :: some (.int x) :: t) st w = Ex M_X4_readLevel lv 13 (o0 :: some (.int x) :: t) (.int x :: st) w)
  ∧ (∀ (lv : Nat) (l : LX) (st : List Value) (w : AH), Ex M_X4_readLevel lv 13 l st w = Ex M_X4_readLevel lv 14 l (.int 1 :: st) w)
  ∧ (∀ (lv : Nat) (l : LX) (st : List Value) (x y : Int32) (w : AH), Ex M_X4_readLevel lv 14 l (.int y :: .int x :: st) w = Ex M_X4_readLevel lv 15 l (.int (x + y) :: st) w)
  ∧ (∀ (lv : Nat) (st : List Value) (t : LX) (o0 o1 : Option Value) (x : Int32) (w : AH), Ex M_X4_readLevel lv 15 (o0 :: o1 :: some (.int x) :: t) st w = Ex M_X4_readLevel lv 16 (o0 :: o1 :: some (.int x) :: t) (.int x :: st) w)
  ∧ (∀ (lv : Nat) (l : LX) (b : Nat) (a0 : Int32) (a1 : Int32) (w : AH), Ex M_X4_readLevel (lv + 1) 16 l (.int a1 :: .int a0 :: .ref b :: []) w = if clK (hg w b) = 4 then (if (Call M_X4_readLevel lv [.ref b, .int a0, .int a1] w).isSome = true then Ex M_X4_readLevel (lv + 1) 19 l (pushR (cV (Call M_X4_readLevel lv [.ref b, .int a0, .int a1] w)) []) (cW (Call M_X4_readLevel lv [.ref b, .int a0, .int a1] w) w) else none) else none)
  ∧ (∀ (lv : Nat) (st : List Value) (t : LX) (o0 : Option Value) (x : Int32) (w : AH), Ex M_X4_readLevel lv 19 (o0 :: some (.int x) :: t) st w = Ex M_X4_readLevel lv 20 (o0 :: some (.int x) :: t) (.int x :: st) w)
  ∧ (∀ (lv : Nat) (l : LX) (st : List Value) (w : AH), Ex M_X4_readLevel lv 20 l st w = Ex M_X4_readLevel lv 21 l (.int 2 :: st) w)
  ∧ (∀ (lv : Nat) (l : LX) (st : List Value) (x y : Int32) (w : AH), Ex M_X4_readLevel lv 21 l (.int y :: .int x :: st) w = if ¬ x = y then Ex M_X4_readLevel lv 28 l st w else Ex M_X4_readLevel lv 24 l st w)
  ∧ (∀ (lv : Nat) (l : LX) (st : List Value) (w : AH), Ex M_X4_readLevel lv 24 l st w = Ex M_X4_readLevel lv 25 l (.int 1 :: st) w)
  ∧ (∀ (lv : Nat) (l : LX) (st : List Value) (w : AH), Ex M_X4_readLevel lv 25 l st w = Ex M_X4_readLevel lv 30 l st w)
  ∧ (∀ (lv : Nat) (l : LX) (st : List Value) (w : AH), Ex M_X4_readLevel lv 28 l st w = Ex M_X4_readLevel lv 30 l (.int 50 :: st) w)
  ∧ (∀ (lv : Nat) (l : LX) (st : List Value) (x : Int32) (w : AH), Ex M_X4_readLevel lv 30 l (.int x :: st) w = Ex M_X4_readLevel lv 31 (ls1 l 3 (.int x)) st w)
  ∧ (∀ (lv : Nat) (l : LX) (st : List Value) (w : AH), Ex M_X4_readLevel lv 31 l st w = Ex M_X4_readLevel lv 32 l (.int 0 :: st) w)
  ∧ (∀ (lv : Nat) (l : LX) (st : List Value) (x : Int32) (w : AH), Ex M_X4_readLevel lv 32 l (.int x :: st) w = Ex M_X4_readLevel lv 34 (ls1 l 4 (.int x)) st w)
  ∧ (∀ (lv : Nat) (st : List Value) (t : LX) (o0 o1 o2 : Option Value) (x : Int32) (w : AH), Ex M_X4_readLevel lv 36 (o0 :: o1 :: o2 :: some (.int x) :: t) st w = Ex M_X4_readLevel lv 37 (o0 :: o1 :: o2 :: some (.int x) :: t) (.int x :: st) w)
  ∧ (∀ (lv : Nat) (l : LX) (st : List Value) (x y : Int32) (w : AH), Ex M_X4_readLevel lv 37 l (.int y :: .int x :: st) w = if y ≤ x then Ex M_X4_readLevel lv 102 l st w else Ex M_X4_readLevel lv 40 l st w)
  ∧ (∀ (lv : Nat) (st : List Value) (t : LX) (x : Nat) (w : AH), Ex M_X4_readLevel lv 40 (some (.ref x) :: t) st w = Ex M_X4_readLevel lv 41 (some (.ref x) :: t) (.ref x :: st) w)
  ∧ (∀ (lv : Nat) (st : List Value) (t : LX) (w : AH), Ex M_X4_readLevel lv 40 (some (.null) :: t) st w = Ex M_X4_readLevel lv 41 (some (.null) :: t) (.null :: st) w)
  ∧ (∀ (lv : Nat) (l : LX) (st : List Value) (a : Nat) (w : AH), Ex M_X4_readLevel lv 41 l (.ref a :: st) w = if (gf (hg w a) 4 4).isSome = true then Ex M_X4_readLevel lv 44 l (vV (gf (hg w a) 4 4) :: st) w else none)
  ∧ (∀ (lv : Nat) (l : LX) (st : List Value) (x : Int32) (w : AH), Ex M_X4_readLevel lv 44 l (.int x :: st) w = if ¬ x = 0 then Ex M_X4_readLevel lv 102 l st w else Ex M_X4_readLevel lv 47 l st w)
  ∧ (∀ (lv : Nat) (st : List Value) (t : LX) (x : Nat) (w : AH), Ex M_X4_readLevel lv 47 (some (.ref x) :: t) st w = Ex M_X4_readLevel lv 48 (some (.ref x) :: t) (.ref x :: st) w)
  ∧ (∀ (lv : Nat) (st : List Value) (t : LX) (w : AH), Ex M_X4_readLevel lv 47 (some (.null) :: t) st w = Ex M_X4_readLevel lv 48 (some (.null) :: t) (.null :: st) w)
  ∧ (∀ (lv : Nat) (st : List Value) (t : LX) (o0 : Option Value) (x : Int32) (w : AH), Ex M_X4_readLevel lv 48 (o0 :: some (.int x) :: t) st w = Ex M_X4_readLevel lv 49 (o0 :: some (.int x) :: t) (.int x :: st) w)
  ∧ (∀ (lv : Nat) (l : LX) (a0 : Int32) (s0 : Nat) (w : AH), Ex M_X4_readLevel lv 49 l (.int a0 :: [.ref s0]) w = if (Call M_X4_operatorsOf 60 [.int a0] w).isSome = true then Ex M_X4_readLevel lv 52 l (pushR (cV (Call M_X4_operatorsOf 60 [.int a0] w)) [.ref s0]) (cW (Call M_X4_operatorsOf 60 [.int a0] w) w) else none)
  ∧ (∀ (lv : Nat) (l : LX) (b : Nat) (a0 : Nat) (w : AH), Ex M_X4_readLevel lv 52 l (.ref a0 :: .ref b :: []) w = if clK (hg w b) = 4 then (if (Call M_X4_isAhead 60 [.ref b, .ref a0] w).isSome = true then Ex M_X4_readLevel lv 55 l (pushR (cV (Call M_X4_isAhead 60 [.ref b, .ref a0] w)) []) (cW (Call M_X4_isAhead 60 [.ref b, .ref a0] w) w) else none) else none)
  ∧ (∀ (lv : Nat) (l : LX) (st : List Value) (x : Int32) (w : AH), Ex M_X4_readLevel lv 55 l (.int x :: st) w = if x = 0 then Ex M_X4_readLevel lv 102 l st w else Ex M_X4_readLevel lv 58 l st w)
  ∧ (∀ (lv : Nat) (st : List Value) (t : LX) (x : Nat) (w : AH), Ex M_X4_readLevel lv 58 (some (.ref x) :: t) st w = Ex M_X4_readLevel lv 59 (some (.ref x) :: t) (.ref x :: st) w)
  ∧ (∀ (lv : Nat) (st : List Value) (t : LX) (w : AH), Ex M_X4_readLevel lv 58 (some (.null) :: t) st w = Ex M_X4_readLevel lv 59 (some (.null) :: t) (.null :: st) w)
  ∧ (∀ (lv : Nat) (l : LX) (b : Nat) (w : AH), Ex M_X4_readLevel lv 59 l (.ref b :: []) w = if clK (hg w b) = 4 then (if (Call M_X4_ahead 60 [.ref b] w).isSome = true then Ex M_X4_readLevel lv 62 l (pushR (cV (Call M_X4_ahead 60 [.ref b] w)) []) (cW (Call M_X4_ahead 60 [.ref b] w) w) else none) else none)
  ∧ (∀ (lv : Nat) (l : LX) (st : List Value) (x : Int32) (w : AH), Ex M_X4_readLevel lv 62 l (.int x :: st) w = Ex M_X4_readLevel lv 64 (ls1 l 5 (.int x)) st w)
  ∧ (∀ (lv : Nat) (st : List Value) (t : LX) (x : Nat) (w : AH), Ex M_X4_readLevel lv 64 (some (.ref x) :: t) st w = Ex M_X4_readLevel lv 65 (some (.ref x) :: t) (.ref x :: st) w)
  ∧ (∀ (lv : Nat) (st : List Value) (t : LX) (w : AH), Ex M_X4_readLevel lv 64 (some (.null) :: t) st w = Ex M_X4_readLevel lv 65 (some (.null) :: t) (.null :: st) w)
  ∧ (∀ (lv : Nat) (l : LX) (st : List Value) (x : Nat) (w : AH), Ex M_X4_readLevel lv 65 l (.ref x :: st) w = Ex M_X4_readLevel lv 66 l (.ref x :: .ref x :: st) w)
  ∧ (∀ (lv : Nat) (l : LX) (st : List Value) (a : Nat) (w : AH), Ex M_X4_readLevel lv 66 l (.ref a :: st) w = if (gf (hg w a) 4 3).isSome = true then Ex M_X4_readLevel lv 69 l (vV (gf (hg w a) 4 3) :: st) w else none)
  ∧ (∀ (lv : Nat) (l : LX) (st : List Value) (w : AH), Ex M_X4_readLevel lv 69 l st w = Ex M_X4_readLevel lv 70 l (.int 1 :: st) w)
  ∧ (∀ (lv : Nat) (l : LX) (st : List Value) (x y : Int32) (w : AH), Ex M_X4_readLevel lv 70 l (.int y :: .int x :: st) w = Ex M_X4_readLevel lv 71 l (.int (x + y) :: st) w)
  ∧ (∀ (lv : Nat) (l : LX) (st : List Value) (a : Nat) (v : Value) (w : AH), Ex M_X4_readLevel lv 71 l (v :: .ref a :: st) w = if (pf (hg w a) 4 3 .int v).isSome = true then Ex M_X4_readLevel lv 74 l st (hs w a (vE (pf (hg w a) 4 3 .int v))) else none)
  ∧ (∀ (lv : Nat) (st : List Value) (t : LX) (x : Nat) (w : AH), Ex M_X4_readLevel lv 74 (some (.ref x) :: t) st w = Ex M_X4_readLevel lv 75 (some (.ref x) :: t) (.ref x :: st) w)
  ∧ (∀ (lv : Nat) (st : List Value) (t : LX) (w : AH), Ex M_X4_readLevel lv 74 (some (.null) :: t) st w = Ex M_X4_readLevel lv 75 (some (.null) :: t) (.null :: st) w)
  ∧ (∀ (lv : Nat) (st : List Value) (t : LX) (o0 : Option Value) (x : Int32) (w : AH), Ex M_X4_readLevel lv 75 (o0 :: some (.int x) :: t) st w = Ex M_X4_readLevel lv 76 (o0 :: some (.int x) :: t) (.int x :: st) w)
  ∧ (∀ (lv : Nat) (l : LX) (st : List Value) (w : AH), Ex M_X4_readLevel lv 76 l st w = Ex M_X4_readLevel lv 77 l (.int 1 :: st) w)
  ∧ (∀ (lv : Nat) (l : LX) (st : List Value) (x y : Int32) (w : AH), Ex M_X4_readLevel lv 77 l (.int y :: .int x :: st) w = Ex M_X4_readLevel lv 78 l (.int (x + y) :: st) w)
  ∧ (∀ (lv : Nat) (st : List Value) (t : LX) (o0 o1 : Option Value) (x : Int32) (w : AH), Ex M_X4_readLevel lv 78 (o0 :: o1 :: some (.int x) :: t) st w = Ex M_X4_readLevel lv 79 (o0 :: o1 :: some (.int x) :: t) (.int x :: st) w)
  ∧ (∀ (lv : Nat) (l : LX) (b : Nat) (a0 : Int32) (a1 : Int32) (w : AH), Ex M_X4_readLevel (lv + 1) 79 l (.int a1 :: .int a0 :: .ref b :: []) w = if clK (hg w b) = 4 then (if (Call M_X4_readLevel lv [.ref b, .int a0, .int a1] w).isSome = true then Ex M_X4_readLevel (lv + 1) 82 l (pushR (cV (Call M_X4_readLevel lv [.ref b, .int a0, .int a1] w)) []) (cW (Call M_X4_readLevel lv [.ref b, .int a0, .int a1] w) w) else none) else none)
  ∧ (∀ (lv : Nat) (st : List Value) (t : LX) (x : Nat) (w : AH), Ex M_X4_readLevel lv 82 (some (.ref x) :: t) st w = Ex M_X4_readLevel lv 83 (some (.ref x) :: t) (.ref x :: st) w)
  ∧ (∀ (lv : Nat) (st : List Value) (t : LX) (w : AH), Ex M_X4_readLevel lv 82 (some (.null) :: t) st w = Ex M_X4_readLevel lv 83 (some (.null) :: t) (.null :: st) w)
  ∧ (∀ (lv : Nat) (l : LX) (st : List Value) (a : Nat) (w : AH), Ex M_X4_readLevel lv 83 l (.ref a :: st) w = if (gf (hg w a) 4 0).isSome = true then Ex M_X4_readLevel lv 86 l (vV (gf (hg w a) 4 0) :: st) w else none)
  ∧ (∀ (lv : Nat) (l : LX) (st : List Value) (w : AH), Ex M_X4_readLevel lv 86 l st w = Ex M_X4_readLevel lv 89 l (.int 10000 :: st) w)
  ∧ (∀ (lv : Nat) (st : List Value) (t : LX) (o0 o1 o2 o3 o4 : Option Value) (x : Int32) (w : AH), Ex M_X4_readLevel lv 89 (o0 :: o1 :: o2 :: o3 :: o4 :: some (.int x) :: t) st w = Ex M_X4_readLevel lv 91 (o0 :: o1 :: o2 :: o3 :: o4 :: some (.int x) :: t) (.int x :: st) w)
  ∧ (∀ (lv : Nat) (l : LX) (st : List Value) (x y : Int32) (w : AH), Ex M_X4_readLevel lv 91 l (.int y :: .int x :: st) w = Ex M_X4_readLevel lv 92 l (.int (x + y) :: st) w) :=
  ⟨(fun lv st t o0 x w => Ex_M (i := .iload_n 1) (n := 1) (by decide +kernel) rfl rfl rfl),
   (fun lv l st w => Ex_A (i := .iconst 5) (n := 1) (by decide +kernel) rfl rfl),
   (fun lv l st x y w => Ex_icmp_lt (by decide +kernel : decode M_X4_readLevel.2.1 2 = .ok (.if_icmp .lt 9, 3)) rfl rfl),
   (fun lv st t x w => Ex_M (i := .aload_n 0) (n := 1) (by decide +kernel) rfl rfl rfl),
   (fun lv st t w => Ex_M (i := .aload_n 0) (n := 1) (by decide +kernel) rfl rfl rfl),
   (fun lv st t o0 o1 x w => Ex_M (i := .iload_n 2) (n := 1) (by decide +kernel) rfl rfl rfl),
   (fun lv l b a0 w => Ex_callV (by decide +kernel : decode M_X4_readLevel.2.1 7 = .ok (.invokevirtual 70, 3)) rfl (by rfl : resM (mCn M_X4_readLevel) 70 = some (2, M_X4_readFactor)) rfl (by rfl) (Nat.le_of_ble_eq_true rfl) (by decide +kernel) (sLv_eq (by decide +kernel))),
   (fun lv l w => Ex_R (i := .return_) (n := 1) (by decide +kernel) rfl rfl rfl rfl rfl),
   (fun lv st t x w => Ex_M (i := .aload_n 0) (n := 1) (by decide +kernel) rfl rfl rfl),
   (fun lv st t w => Ex_M (i := .aload_n 0) (n := 1) (by decide +kernel) rfl rfl rfl),
   (fun lv st t o0 x w => Ex_M (i := .iload_n 1) (n := 1) (by decide +kernel) rfl rfl rfl),
   (fun lv l st w => Ex_A (i := .iconst 1) (n := 1) (by decide +kernel) rfl rfl),
   (fun lv l st x y w => Ex_A (i := .iadd) (n := 1) (by decide +kernel) rfl rfl),
   (fun lv st t o0 o1 x w => Ex_M (i := .iload_n 2) (n := 1) (by decide +kernel) rfl rfl rfl),
   (fun lv l b a0 a1 w => Ex_callV (by decide +kernel : decode M_X4_readLevel.2.1 16 = .ok (.invokevirtual 44, 3)) rfl (by rfl : resM (mCn M_X4_readLevel) 44 = some (2, M_X4_readLevel)) rfl (by rfl) (Nat.le_of_ble_eq_true rfl) (by decide +kernel) (sLv_eq (by decide +kernel))),
   (fun lv st t o0 x w => Ex_M (i := .iload_n 1) (n := 1) (by decide +kernel) rfl rfl rfl),
   (fun lv l st w => Ex_A (i := .iconst 2) (n := 1) (by decide +kernel) rfl rfl),
   (fun lv l st x y w => Ex_icmp_ne (by decide +kernel : decode M_X4_readLevel.2.1 21 = .ok (.if_icmp .ne 7, 3)) rfl rfl),
   (fun lv l st w => Ex_A (i := .iconst 1) (n := 1) (by decide +kernel) rfl rfl),
   (fun lv l st w => Ex_goto (by decide +kernel : decode M_X4_readLevel.2.1 25 = .ok (.goto 5, 3)) rfl),
   (fun lv l st w => Ex_A (i := .bipush 50) (n := 2) (by decide +kernel) rfl rfl),
   (fun lv l st x w => Ex_M (i := .istore_n 3) (n := 1) (by decide +kernel) rfl rfl rfl),
   (fun lv l st w => Ex_A (i := .iconst 0) (n := 1) (by decide +kernel) rfl rfl),
   (fun lv l st x w => Ex_M (i := .istore 4) (n := 2) (by decide +kernel) rfl rfl rfl),
   (fun lv st t o0 o1 o2 x w => Ex_M (i := .iload_n 3) (n := 1) (by decide +kernel) rfl rfl rfl),
   (fun lv l st x y w => Ex_icmp_ge (by decide +kernel : decode M_X4_readLevel.2.1 37 = .ok (.if_icmp .ge 65, 3)) rfl rfl),
   (fun lv st t x w => Ex_M (i := .aload_n 0) (n := 1) (by decide +kernel) rfl rfl rfl),
   (fun lv st t w => Ex_M (i := .aload_n 0) (n := 1) (by decide +kernel) rfl rfl rfl),
   (fun lv l st a w => Ex_getf (by decide +kernel : decode M_X4_readLevel.2.1 41 = .ok (.getfield 33, 3)) rfl (by decide +kernel : resF (mCn M_X4_readLevel) 33 = some (4, 4, .boolean, false))),
   (fun lv l st x w => Ex_if_ne (by decide +kernel : decode M_X4_readLevel.2.1 44 = .ok (.ifCond .ne 58, 3)) rfl rfl),
   (fun lv st t x w => Ex_M (i := .aload_n 0) (n := 1) (by decide +kernel) rfl rfl rfl),
   (fun lv st t w => Ex_M (i := .aload_n 0) (n := 1) (by decide +kernel) rfl rfl rfl),
   (fun lv st t o0 x w => Ex_M (i := .iload_n 1) (n := 1) (by decide +kernel) rfl rfl rfl),
   (fun lv l a0 s0 w => Ex_callS (by decide +kernel : decode M_X4_readLevel.2.1 49 = .ok (.invokestatic 73, 3)) rfl (by rfl : resM (mCn M_X4_readLevel) 73 = some (0, M_X4_operatorsOf)) (by decide) rfl (by rfl) (Nat.le_of_ble_eq_true rfl) (sLv_lt (by decide +kernel))),
   (fun lv l b a0 w => Ex_callV (by decide +kernel : decode M_X4_readLevel.2.1 52 = .ok (.invokevirtual 77, 3)) rfl (by rfl : resM (mCn M_X4_readLevel) 77 = some (2, M_X4_isAhead)) rfl (by rfl) (Nat.le_of_ble_eq_true rfl) (by decide +kernel) (sLv_lt (by decide +kernel))),
   (fun lv l st x w => Ex_if_eq (by decide +kernel : decode M_X4_readLevel.2.1 55 = .ok (.ifCond .eq 47, 3)) rfl rfl),
   (fun lv st t x w => Ex_M (i := .aload_n 0) (n := 1) (by decide +kernel) rfl rfl rfl),
   (fun lv st t w => Ex_M (i := .aload_n 0) (n := 1) (by decide +kernel) rfl rfl rfl),
   (fun lv l b w => Ex_callV (by decide +kernel : decode M_X4_readLevel.2.1 59 = .ok (.invokevirtual 81, 3)) rfl (by rfl : resM (mCn M_X4_readLevel) 81 = some (2, M_X4_ahead)) rfl (by rfl) (Nat.le_of_ble_eq_true rfl) (by decide +kernel) (sLv_lt (by decide +kernel))),
   (fun lv l st x w => Ex_M (i := .istore 5) (n := 2) (by decide +kernel) rfl rfl rfl),
   (fun lv st t x w => Ex_M (i := .aload_n 0) (n := 1) (by decide +kernel) rfl rfl rfl),
   (fun lv st t w => Ex_M (i := .aload_n 0) (n := 1) (by decide +kernel) rfl rfl rfl),
   (fun lv l st x w => Ex_A (i := .dup) (n := 1) (by decide +kernel) rfl rfl),
   (fun lv l st a w => Ex_getf (by decide +kernel : decode M_X4_readLevel.2.1 66 = .ok (.getfield 29, 3)) rfl (by decide +kernel : resF (mCn M_X4_readLevel) 29 = some (4, 3, .int, false))),
   (fun lv l st w => Ex_A (i := .iconst 1) (n := 1) (by decide +kernel) rfl rfl),
   (fun lv l st x y w => Ex_A (i := .iadd) (n := 1) (by decide +kernel) rfl rfl),
   (fun lv l st a v w => Ex_putf (by decide +kernel : decode M_X4_readLevel.2.1 71 = .ok (.putfield 29, 3)) rfl (by decide +kernel : resF (mCn M_X4_readLevel) 29 = some (4, 3, .int, false)) (by decide +kernel)),
   (fun lv st t x w => Ex_M (i := .aload_n 0) (n := 1) (by decide +kernel) rfl rfl rfl),
   (fun lv st t w => Ex_M (i := .aload_n 0) (n := 1) (by decide +kernel) rfl rfl rfl),
   (fun lv st t o0 x w => Ex_M (i := .iload_n 1) (n := 1) (by decide +kernel) rfl rfl rfl),
   (fun lv l st w => Ex_A (i := .iconst 1) (n := 1) (by decide +kernel) rfl rfl),
   (fun lv l st x y w => Ex_A (i := .iadd) (n := 1) (by decide +kernel) rfl rfl),
   (fun lv st t o0 o1 x w => Ex_M (i := .iload_n 2) (n := 1) (by decide +kernel) rfl rfl rfl),
   (fun lv l b a0 a1 w => Ex_callV (by decide +kernel : decode M_X4_readLevel.2.1 79 = .ok (.invokevirtual 44, 3)) rfl (by rfl : resM (mCn M_X4_readLevel) 44 = some (2, M_X4_readLevel)) rfl (by rfl) (Nat.le_of_ble_eq_true rfl) (by decide +kernel) (sLv_eq (by decide +kernel))),
   (fun lv st t x w => Ex_M (i := .aload_n 0) (n := 1) (by decide +kernel) rfl rfl rfl),
   (fun lv st t w => Ex_M (i := .aload_n 0) (n := 1) (by decide +kernel) rfl rfl rfl),
   (fun lv l st a w => Ex_getf (by decide +kernel : decode M_X4_readLevel.2.1 83 = .ok (.getfield 14, 3)) rfl (by decide +kernel : resF (mCn M_X4_readLevel) 14 = some (4, 0, (.object "CarpetLands$Row"), true))),
   (fun lv l st w => Ex_A (i := .sipush 10000) (n := 3) (by decide +kernel) rfl rfl),
   (fun lv st t o0 o1 o2 o3 o4 x w => Ex_M (i := .iload 5) (n := 2) (by decide +kernel) rfl rfl rfl),
   (fun lv l st x y w => Ex_A (i := .iadd) (n := 1) (by decide +kernel) rfl rfl)⟩
set_option maxRecDepth 20000 in
set_option maxHeartbeats 4000000 in
theorem R_X4_readLevel_p1 : (∀ (lv : Nat) (l : LX) (b : Nat) (a0 : Int32) (w : AH), Ex M_X4_readLevel lv 92 l (.int a0 :: .ref b :: []) w = if clK (hg w b) = 6 then (if (Call M_X6_add 60 [.ref b, .int a0] w).isSome = true then Ex M_X4_readLevel lv 95 l (pushR (cV (Call M_X6_add 60 [.ref b, .int a0] w)) []) (cW (Call M_X6_add 60 [.ref b, .int a0] w) w) else none) else none)
  ∧ (∀ (lv : Nat) (l : LX) (st : List Value) (x : Int32) (w : AH), Ex M_X4_readLevel lv 95 l (.int x :: st) w = Ex M_X4_readLevel lv 96 l st w)
  ∧ (∀ (lv : Nat) (st : List Value) (t : LX) (o0 o1 o2 o3 : Option Value) (x : Int32) (w : AH), Ex M_X4_readLevel lv 96 (o0 :: o1 :: o2 :: o3 :: some (.int x) :: t) st w = Ex M_X4_readLevel lv 99 (ls1 (o0 :: o1 :: o2 :: o3 :: some (.int x) :: t) 4 (.int (x + 1))) st w)
  ∧ (∀ (lv : Nat) (l : LX) (st : List Value) (w : AH), Ex M_X4_readLevel lv 99 l st w = Ex M_X4_readLevel lv 34 l st w)
  ∧ (∀ (lv : Nat) (l : LX) (w : AH), Ex M_X4_readLevel lv 102 l [] w = some (none, w)) :=
  ⟨(fun lv l b a0 w => Ex_callV (by decide +kernel : decode M_X4_readLevel.2.1 92 = .ok (.invokevirtual 87, 3)) rfl (by rfl : resM (mCn M_X4_readLevel) 87 = some (2, M_X6_add)) rfl (by rfl) (Nat.le_of_ble_eq_true rfl) (by decide +kernel) (sLv_lt (by decide +kernel))),
   (fun lv l st x w => Ex_A (i := .pop) (n := 1) (by decide +kernel) rfl rfl),
   (fun lv st t o0 o1 o2 o3 x w => Ex_iinc (by decide +kernel : decode M_X4_readLevel.2.1 96 = .ok (.iinc 4 1, 3)) rfl rfl (by decide) (by decide)),
   (fun lv l st w => Ex_goto (by decide +kernel : decode M_X4_readLevel.2.1 99 = .ok (.goto (-65), 3)) rfl),
   (fun lv l w => Ex_R (i := .return_) (n := 1) (by decide +kernel) rfl rfl rfl rfl rfl)⟩
-- R_X4_readLevel: p0 to p1
set_option maxRecDepth 20000 in
set_option maxHeartbeats 4000000 in
theorem R_X4_readFactor_p0 : (∀ (lv : Nat) (st : List Value) (t : LX) (x : Nat) (w : AH), Ex M_X4_readFactor lv 0 (some (.ref x) :: t) st w = Ex M_X4_readFactor lv 1 (some (.ref x) :: t) (.ref x :: st) w)
  ∧ (∀ (lv : Nat) (st : List Value) (t : LX) (w : AH), Ex M_X4_readFactor lv 0 (some (.null) :: t) st w = Ex M_X4_readFactor lv 1 (some (.null) :: t) (.null :: st) w)
  ∧ (∀ (lv : Nat) (l : LX) (st : List Value) (w : AH), Ex M_X4_readFactor lv 1 l st w = Ex M_X4_readFactor lv 3 l (.ref 6 :: st) w)
  ∧ (∀ (lv : Nat) (l : LX) (b : Nat) (a0 : Nat) (w : AH), Ex M_X4_readFactor lv 3 l (.ref a0 :: .ref b :: []) w = if clK (hg w b) = 4 then (if (Call M_X4_isAhead 60 [.ref b, .ref a0] w).isSome = true then Ex M_X4_readFactor lv 6 l (pushR (cV (Call M_X4_isAhead 60 [.ref b, .ref a0] w)) []) (cW (Call M_X4_isAhead 60 [.ref b, .ref a0] w) w) else none) else none)
  ∧ (∀ (lv : Nat) (l : LX) (st : List Value) (x : Int32) (w : AH), Ex M_X4_readFactor lv 6 l (.int x :: st) w = if x = 0 then Ex M_X4_readFactor lv 16 l st w else Ex M_X4_readFactor lv 9 l st w)
  ∧ (∀ (lv : Nat) (st : List Value) (t : LX) (x : Nat) (w : AH), Ex M_X4_readFactor lv 9 (some (.ref x) :: t) st w = Ex M_X4_readFactor lv 10 (some (.ref x) :: t) (.ref x :: st) w)
  ∧ (∀ (lv : Nat) (st : List Value) (t : LX) (w : AH), Ex M_X4_readFactor lv 9 (some (.null) :: t) st w = Ex M_X4_readFactor lv 10 (some (.null) :: t) (.null :: st) w)
  ∧ (∀ (lv : Nat) (l : LX) (b : Nat) (w : AH), Ex M_X4_readFactor lv 10 l (.ref b :: []) w = if clK (hg w b) = 4 then (if (Call M_X4_readNumber 60 [.ref b] w).isSome = true then Ex M_X4_readFactor lv 13 l (pushR (cV (Call M_X4_readNumber 60 [.ref b] w)) []) (cW (Call M_X4_readNumber 60 [.ref b] w) w) else none) else none)
  ∧ (∀ (lv : Nat) (l : LX) (st : List Value) (w : AH), Ex M_X4_readFactor lv 13 l st w = Ex M_X4_readFactor lv 151 l st w)
  ∧ (∀ (lv : Nat) (st : List Value) (t : LX) (x : Nat) (w : AH), Ex M_X4_readFactor lv 16 (some (.ref x) :: t) st w = Ex M_X4_readFactor lv 17 (some (.ref x) :: t) (.ref x :: st) w)
  ∧ (∀ (lv : Nat) (st : List Value) (t : LX) (w : AH), Ex M_X4_readFactor lv 16 (some (.null) :: t) st w = Ex M_X4_readFactor lv 17 (some (.null) :: t) (.null :: st) w)
  ∧ (∀ (lv : Nat) (st : List Value) (t : LX) (x : Nat) (w : AH), Ex M_X4_readFactor lv 17 (some (.ref x) :: t) st w = Ex M_X4_readFactor lv 18 (some (.ref x) :: t) (.ref x :: st) w)
  ∧ (∀ (lv : Nat) (st : List Value) (t : LX) (w : AH), Ex M_X4_readFactor lv 17 (some (.null) :: t) st w = Ex M_X4_readFactor lv 18 (some (.null) :: t) (.null :: st) w)
  ∧ (∀ (lv : Nat) (l : LX) (st : List Value) (a : Nat) (w : AH), Ex M_X4_readFactor lv 18 l (.ref a :: st) w = if (gf (hg w a) 4 2).isSome = true then Ex M_X4_readFactor lv 21 l (vV (gf (hg w a) 4 2) :: st) w else none)
  ∧ (∀ (lv : Nat) (l : LX) (b : Nat) (a0 : Nat) (w : AH), Ex M_X4_readFactor lv 21 l (.ref a0 :: .ref b :: []) w = if clK (hg w b) = 4 then (if (Call M_X4_isAhead 60 [.ref b, .ref a0] w).isSome = true then Ex M_X4_readFactor lv 24 l (pushR (cV (Call M_X4_isAhead 60 [.ref b, .ref a0] w)) []) (cW (Call M_X4_isAhead 60 [.ref b, .ref a0] w) w) else none) else none)
  ∧ (∀ (lv : Nat) (l : LX) (st : List Value) (x : Int32) (w : AH), Ex M_X4_readFactor lv 24 l (.int x :: st) w = if x = 0 then Ex M_X4_readFactor lv 62 l st w else Ex M_X4_readFactor lv 27 l st w)
  ∧ (∀ (lv : Nat) (st : List Value) (t : LX) (x : Nat) (w : AH), Ex M_X4_readFactor lv 27 (some (.ref x) :: t) st w = Ex M_X4_readFactor lv 28 (some (.ref x) :: t) (.ref x :: st) w)
  ∧ (∀ (lv : Nat) (st : List Value) (t : LX) (w : AH), Ex M_X4_readFactor lv 27 (some (.null) :: t) st w = Ex M_X4_readFactor lv 28 (some (.null) :: t) (.null :: st) w)
  ∧ (∀ (lv : Nat) (l : LX) (st : List Value) (a : Nat) (w : AH), Ex M_X4_readFactor lv 28 l (.ref a :: st) w = if (gf (hg w a) 4 0).isSome = true then Ex M_X4_readFactor lv 31 l (vV (gf (hg w a) 4 0) :: st) w else none)
  ∧ (∀ (lv : Nat) (l : LX) (st : List Value) (w : AH), Ex M_X4_readFactor lv 31 l st w = Ex M_X4_readFactor lv 32 l (.int (-1) :: st) w)
  ∧ (∀ (lv : Nat) (st : List Value) (t : LX) (x : Nat) (w : AH), Ex M_X4_readFactor lv 32 (some (.ref x) :: t) st w = Ex M_X4_readFactor lv 33 (some (.ref x) :: t) (.ref x :: st) w)
  ∧ (∀ (lv : Nat) (st : List Value) (t : LX) (w : AH), Ex M_X4_readFactor lv 32 (some (.null) :: t) st w = Ex M_X4_readFactor lv 33 (some (.null) :: t) (.null :: st) w)
  ∧ (∀ (lv : Nat) (l : LX) (st : List Value) (a : Nat) (w : AH), Ex M_X4_readFactor lv 33 l (.ref a :: st) w = if (gf (hg w a) 4 2).isSome = true then Ex M_X4_readFactor lv 36 l (vV (gf (hg w a) 4 2) :: st) w else none)
  ∧ (∀ (lv : Nat) (st : List Value) (t : LX) (x : Nat) (w : AH), Ex M_X4_readFactor lv 36 (some (.ref x) :: t) st w = Ex M_X4_readFactor lv 37 (some (.ref x) :: t) (.ref x :: st) w)
  ∧ (∀ (lv : Nat) (st : List Value) (t : LX) (w : AH), Ex M_X4_readFactor lv 36 (some (.null) :: t) st w = Ex M_X4_readFactor lv 37 (some (.null) :: t) (.null :: st) w)
  ∧ (∀ (lv : Nat) (l : LX) (b : Nat) (s0 : Nat) (s1 : Int32) (s2 : Nat) (w : AH), Ex M_X4_readFactor lv 37 l (.ref b :: [.ref s0, .int s1, .ref s2]) w = if clK (hg w b) = 4 then (if (Call M_X4_ahead 60 [.ref b] w).isSome = true then Ex M_X4_readFactor lv 40 l (pushR (cV (Call M_X4_ahead 60 [.ref b] w)) [.ref s0, .int s1, .ref s2]) (cW (Call M_X4_ahead 60 [.ref b] w) w) else none) else none)
  ∧ (∀ (lv : Nat) (l : LX) (st : List Value) (x : Int32) (w : AH), Ex M_X4_readFactor lv 40 l (.int x :: st) w = Ex M_X4_readFactor lv 41 l (.int (x.toUInt32 % 65536).toInt32 :: st) w)
  ∧ (∀ (lv : Nat) (l : LX) (b : Nat) (a0 : Int32) (s0 : Int32) (s1 : Nat) (w : AH), Ex M_X4_readFactor lv 41 l (.int a0 :: .ref b :: [.int s0, .ref s1]) w = if clK (hg w b) = 50 then (if (Call M_J0_indexOf_0f7a4 60 [.ref b, .int a0] w).isSome = true then Ex M_X4_readFactor lv 44 l (pushR (cV (Call M_J0_indexOf_0f7a4 60 [.ref b, .int a0] w)) [.int s0, .ref s1]) (cW (Call M_J0_indexOf_0f7a4 60 [.ref b, .int a0] w) w) else none) else none)
  ∧ (∀ (lv : Nat) (l : LX) (st : List Value) (x y : Int32) (w : AH), Ex M_X4_readFactor lv 44 l (.int y :: .int x :: st) w = Ex M_X4_readFactor lv 45 l (.int (x - y) :: st) w)
  ∧ (∀ (lv : Nat) (l : LX) (b : Nat) (a0 : Int32) (w : AH), Ex M_X4_readFactor lv 45 l (.int a0 :: .ref b :: []) w = if clK (hg w b) = 6 then (if (Call M_X6_add 60 [.ref b, .int a0] w).isSome = true then Ex M_X4_readFactor lv 48 l (pushR (cV (Call M_X6_add 60 [.ref b, .int a0] w)) []) (cW (Call M_X6_add 60 [.ref b, .int a0] w) w) else none) else none)
  ∧ (∀ (lv : Nat) (l : LX) (st : List Value) (x : Int32) (w : AH), Ex M_X4_readFactor lv 48 l (.int x :: st) w = Ex M_X4_readFactor lv 49 l st w)
  ∧ (∀ (lv : Nat) (st : List Value) (t : LX) (x : Nat) (w : AH), Ex M_X4_readFactor lv 49 (some (.ref x) :: t) st w = Ex M_X4_readFactor lv 50 (some (.ref x) :: t) (.ref x :: st) w)
  ∧ (∀ (lv : Nat) (st : List Value) (t : LX) (w : AH), Ex M_X4_readFactor lv 49 (some (.null) :: t) st w = Ex M_X4_readFactor lv 50 (some (.null) :: t) (.null :: st) w)
  ∧ (∀ (lv : Nat) (l : LX) (st : List Value) (x : Nat) (w : AH), Ex M_X4_readFactor lv 50 l (.ref x :: st) w = Ex M_X4_readFactor lv 51 l (.ref x :: .ref x :: st) w)
  ∧ (∀ (lv : Nat) (l : LX) (st : List Value) (a : Nat) (w : AH), Ex M_X4_readFactor lv 51 l (.ref a :: st) w = if (gf (hg w a) 4 3).isSome = true then Ex M_X4_readFactor lv 54 l (vV (gf (hg w a) 4 3) :: st) w else none)
  ∧ (∀ (lv : Nat) (l : LX) (st : List Value) (w : AH), Ex M_X4_readFactor lv 54 l st w = Ex M_X4_readFactor lv 55 l (.int 1 :: st) w)
  ∧ (∀ (lv : Nat) (l : LX) (st : List Value) (x y : Int32) (w : AH), Ex M_X4_readFactor lv 55 l (.int y :: .int x :: st) w = Ex M_X4_readFactor lv 56 l (.int (x + y) :: st) w)
  ∧ (∀ (lv : Nat) (l : LX) (st : List Value) (a : Nat) (v : Value) (w : AH), Ex M_X4_readFactor lv 56 l (v :: .ref a :: st) w = if (pf (hg w a) 4 3 .int v).isSome = true then Ex M_X4_readFactor lv 59 l st (hs w a (vE (pf (hg w a) 4 3 .int v))) else none)
  ∧ (∀ (lv : Nat) (l : LX) (st : List Value) (w : AH), Ex M_X4_readFactor lv 59 l st w = Ex M_X4_readFactor lv 151 l st w)
  ∧ (∀ (lv : Nat) (st : List Value) (t : LX) (o0 : Option Value) (x : Int32) (w : AH), Ex M_X4_readFactor lv 62 (o0 :: some (.int x) :: t) st w = Ex M_X4_readFactor lv 63 (o0 :: some (.int x) :: t) (.int x :: st) w)
  ∧ (∀ (lv : Nat) (l : LX) (st : List Value) (w : AH), Ex M_X4_readFactor lv 63 l st w = Ex M_X4_readFactor lv 64 l (.int 5 :: st) w)
  ∧ (∀ (lv : Nat) (l : LX) (st : List Value) (x y : Int32) (w : AH), Ex M_X4_readFactor lv 64 l (.int y :: .int x :: st) w = if y ≤ x then Ex M_X4_readFactor lv 107 l st w else Ex M_X4_readFactor lv 67 l st w)
  ∧ (∀ (lv : Nat) (st : List Value) (t : LX) (x : Nat) (w : AH), Ex M_X4_readFactor lv 67 (some (.ref x) :: t) st w = Ex M_X4_readFactor lv 68 (some (.ref x) :: t) (.ref x :: st) w)
  ∧ (∀ (lv : Nat) (st : List Value) (t : LX) (w : AH), Ex M_X4_readFactor lv 67 (some (.null) :: t) st w = Ex M_X4_readFactor lv 68 (some (.null) :: t) (.null :: st) w)
  ∧ (∀ (lv : Nat) (l : LX) (b : Nat) (w : AH), Ex M_X4_readFactor lv 68 l (.ref b :: []) w = if clK (hg w b) = 4 then (if (Call M_X4_ahead 60 [.ref b] w).isSome = true then Ex M_X4_readFactor lv 71 l (pushR (cV (Call M_X4_ahead 60 [.ref b] w)) []) (cW (Call M_X4_ahead 60 [.ref b] w) w) else none) else none)
  ∧ (∀ (lv : Nat) (l : LX) (st : List Value) (w : AH), Ex M_X4_readFactor lv 71 l st w = Ex M_X4_readFactor lv 73 l (.int 33 :: st) w)
  ∧ (∀ (lv : Nat) (l : LX) (st : List Value) (x y : Int32) (w : AH), Ex M_X4_readFactor lv 73 l (.int y :: .int x :: st) w = if ¬ x = y then Ex M_X4_readFactor lv 107 l st w else Ex M_X4_readFactor lv 76 l st w)
  ∧ (∀ (lv : Nat) (st : List Value) (t : LX) (x : Nat) (w : AH), Ex M_X4_readFactor lv 76 (some (.ref x) :: t) st w = Ex M_X4_readFactor lv 77 (some (.ref x) :: t) (.ref x :: st) w)
  ∧ (∀ (lv : Nat) (st : List Value) (t : LX) (w : AH), Ex M_X4_readFactor lv 76 (some (.null) :: t) st w = Ex M_X4_readFactor lv 77 (some (.null) :: t) (.null :: st) w)
  ∧ (∀ (lv : Nat) (l : LX) (st : List Value) (x : Nat) (w : AH), Ex M_X4_readFactor lv 77 l (.ref x :: st) w = Ex M_X4_readFactor lv 78 l (.ref x :: .ref x :: st) w)
  ∧ (∀ (lv : Nat) (l : LX) (st : List Value) (a : Nat) (w : AH), Ex M_X4_readFactor lv 78 l (.ref a :: st) w = if (gf (hg w a) 4 3).isSome = true then Ex M_X4_readFactor lv 81 l (vV (gf (hg w a) 4 3) :: st) w else none)
  ∧ (∀ (lv : Nat) (l : LX) (st : List Value) (w : AH), Ex M_X4_readFactor lv 81 l st w = Ex M_X4_readFactor lv 82 l (.int 1 :: st) w)
  ∧ (∀ (lv : Nat) (l : LX) (st : List Value) (x y : Int32) (w : AH), Ex M_X4_readFactor lv 82 l (.int y :: .int x :: st) w = Ex M_X4_readFactor lv 83 l (.int (x + y) :: st) w)
  ∧ (∀ (lv : Nat) (l : LX) (st : List Value) (a : Nat) (v : Value) (w : AH), Ex M_X4_readFactor lv 83 l (v :: .ref a :: st) w = if (pf (hg w a) 4 3 .int v).isSome = true then Ex M_X4_readFactor lv 86 l st (hs w a (vE (pf (hg w a) 4 3 .int v))) else none)
  ∧ (∀ (lv : Nat) (st : List Value) (t : LX) (x : Nat) (w : AH), Ex M_X4_readFactor lv 86 (some (.ref x) :: t) st w = Ex M_X4_readFactor lv 87 (some (.ref x) :: t) (.ref x :: st) w)
  ∧ (∀ (lv : Nat) (st : List Value) (t : LX) (w : AH), Ex M_X4_readFactor lv 86 (some (.null) :: t) st w = Ex M_X4_readFactor lv 87 (some (.null) :: t) (.null :: st) w)
  ∧ (∀ (lv : Nat) (st : List Value) (t : LX) (o0 : Option Value) (x : Int32) (w : AH), Ex M_X4_readFactor lv 87 (o0 :: some (.int x) :: t) st w = Ex M_X4_readFactor lv 88 (o0 :: some (.int x) :: t) (.int x :: st) w)
  ∧ (∀ (lv : Nat) (l : LX) (st : List Value) (w : AH), Ex M_X4_readFactor lv 88 l st w = Ex M_X4_readFactor lv 89 l (.int 1 :: st) w)
  ∧ (∀ (lv : Nat) (l : LX) (st : List Value) (x y : Int32) (w : AH), Ex M_X4_readFactor lv 89 l (.int y :: .int x :: st) w = Ex M_X4_readFactor lv 90 l (.int (x + y) :: st) w)
  ∧ (∀ (lv : Nat) (l : LX) (b : Nat) (a0 : Int32) (w : AH), Ex M_X4_readFactor (lv + 1) 90 l (.int a0 :: .ref b :: []) w = if clK (hg w b) = 4 then (if (Call M_X4_readFactor lv [.ref b, .int a0] w).isSome = true then Ex M_X4_readFactor (lv + 1) 93 l (pushR (cV (Call M_X4_readFactor lv [.ref b, .int a0] w)) []) (cW (Call M_X4_readFactor lv [.ref b, .int a0] w) w) else none) else none) :=
  ⟨(fun lv st t x w => Ex_M (i := .aload_n 0) (n := 1) (by decide +kernel) rfl rfl rfl),
   (fun lv st t w => Ex_M (i := .aload_n 0) (n := 1) (by decide +kernel) rfl rfl rfl),
   (fun lv l st w => Ex_ldcS (j := 3) (by decide +kernel : decode M_X4_readFactor.2.1 1 = .ok (.ldc 91, 2)) rfl (by decide +kernel : resK (mCn M_X4_readFactor) 91 = none) (by decide +kernel : resS (mCn M_X4_readFactor) 91 = some 3)),
   (fun lv l b a0 w => Ex_callV (by decide +kernel : decode M_X4_readFactor.2.1 3 = .ok (.invokevirtual 77, 3)) rfl (by rfl : resM (mCn M_X4_readFactor) 77 = some (2, M_X4_isAhead)) rfl (by rfl) (Nat.le_of_ble_eq_true rfl) (by decide +kernel) (sLv_lt (by decide +kernel))),
   (fun lv l st x w => Ex_if_eq (by decide +kernel : decode M_X4_readFactor.2.1 6 = .ok (.ifCond .eq 10, 3)) rfl rfl),
   (fun lv st t x w => Ex_M (i := .aload_n 0) (n := 1) (by decide +kernel) rfl rfl rfl),
   (fun lv st t w => Ex_M (i := .aload_n 0) (n := 1) (by decide +kernel) rfl rfl rfl),
   (fun lv l b w => Ex_callV (by decide +kernel : decode M_X4_readFactor.2.1 10 = .ok (.invokevirtual 93, 3)) rfl (by rfl : resM (mCn M_X4_readFactor) 93 = some (2, M_X4_readNumber)) rfl (by rfl) (Nat.le_of_ble_eq_true rfl) (by decide +kernel) (sLv_lt (by decide +kernel))),
   (fun lv l st w => Ex_goto (by decide +kernel : decode M_X4_readFactor.2.1 13 = .ok (.goto 138, 3)) rfl),
   (fun lv st t x w => Ex_M (i := .aload_n 0) (n := 1) (by decide +kernel) rfl rfl rfl),
   (fun lv st t w => Ex_M (i := .aload_n 0) (n := 1) (by decide +kernel) rfl rfl rfl),
   (fun lv st t x w => Ex_M (i := .aload_n 0) (n := 1) (by decide +kernel) rfl rfl rfl),
   (fun lv st t w => Ex_M (i := .aload_n 0) (n := 1) (by decide +kernel) rfl rfl rfl),
   (fun lv l st a w => Ex_getf (by decide +kernel : decode M_X4_readFactor.2.1 18 = .ok (.getfield 25, 3)) rfl (by decide +kernel : resF (mCn M_X4_readFactor) 25 = some (4, 2, (.object "java/lang/String"), false))),
   (fun lv l b a0 w => Ex_callV (by decide +kernel : decode M_X4_readFactor.2.1 21 = .ok (.invokevirtual 77, 3)) rfl (by rfl : resM (mCn M_X4_readFactor) 77 = some (2, M_X4_isAhead)) rfl (by rfl) (Nat.le_of_ble_eq_true rfl) (by decide +kernel) (sLv_lt (by decide +kernel))),
   (fun lv l st x w => Ex_if_eq (by decide +kernel : decode M_X4_readFactor.2.1 24 = .ok (.ifCond .eq 38, 3)) rfl rfl),
   (fun lv st t x w => Ex_M (i := .aload_n 0) (n := 1) (by decide +kernel) rfl rfl rfl),
   (fun lv st t w => Ex_M (i := .aload_n 0) (n := 1) (by decide +kernel) rfl rfl rfl),
   (fun lv l st a w => Ex_getf (by decide +kernel : decode M_X4_readFactor.2.1 28 = .ok (.getfield 14, 3)) rfl (by decide +kernel : resF (mCn M_X4_readFactor) 14 = some (4, 0, (.object "CarpetLands$Row"), true))),
   (fun lv l st w => Ex_A (i := .iconst (-1)) (n := 1) (by decide +kernel) rfl rfl),
   (fun lv st t x w => Ex_M (i := .aload_n 0) (n := 1) (by decide +kernel) rfl rfl rfl),
   (fun lv st t w => Ex_M (i := .aload_n 0) (n := 1) (by decide +kernel) rfl rfl rfl),
   (fun lv l st a w => Ex_getf (by decide +kernel : decode M_X4_readFactor.2.1 33 = .ok (.getfield 25, 3)) rfl (by decide +kernel : resF (mCn M_X4_readFactor) 25 = some (4, 2, (.object "java/lang/String"), false))),
   (fun lv st t x w => Ex_M (i := .aload_n 0) (n := 1) (by decide +kernel) rfl rfl rfl),
   (fun lv st t w => Ex_M (i := .aload_n 0) (n := 1) (by decide +kernel) rfl rfl rfl),
   (fun lv l b s0 s1 s2 w => Ex_callV (by decide +kernel : decode M_X4_readFactor.2.1 37 = .ok (.invokevirtual 81, 3)) rfl (by rfl : resM (mCn M_X4_readFactor) 81 = some (2, M_X4_ahead)) rfl (by rfl) (Nat.le_of_ble_eq_true rfl) (by decide +kernel) (sLv_lt (by decide +kernel))),
   (fun lv l st x w => Ex_A (i := .i2c) (n := 1) (by decide +kernel) rfl rfl),
   (fun lv l b a0 s0 s1 w => Ex_callV (by decide +kernel : decode M_X4_readFactor.2.1 41 = .ok (.invokevirtual 65, 3)) rfl (by rfl : resM (mCn M_X4_readFactor) 65 = some (2, M_J0_indexOf_0f7a4)) rfl (by rfl) (Nat.le_of_ble_eq_true rfl) (by decide +kernel) (sLv_lt (by decide +kernel))),
   (fun lv l st x y w => Ex_A (i := .isub) (n := 1) (by decide +kernel) rfl rfl),
   (fun lv l b a0 w => Ex_callV (by decide +kernel : decode M_X4_readFactor.2.1 45 = .ok (.invokevirtual 87, 3)) rfl (by rfl : resM (mCn M_X4_readFactor) 87 = some (2, M_X6_add)) rfl (by rfl) (Nat.le_of_ble_eq_true rfl) (by decide +kernel) (sLv_lt (by decide +kernel))),
   (fun lv l st x w => Ex_A (i := .pop) (n := 1) (by decide +kernel) rfl rfl),
   (fun lv st t x w => Ex_M (i := .aload_n 0) (n := 1) (by decide +kernel) rfl rfl rfl),
   (fun lv st t w => Ex_M (i := .aload_n 0) (n := 1) (by decide +kernel) rfl rfl rfl),
   (fun lv l st x w => Ex_A (i := .dup) (n := 1) (by decide +kernel) rfl rfl),
   (fun lv l st a w => Ex_getf (by decide +kernel : decode M_X4_readFactor.2.1 51 = .ok (.getfield 29, 3)) rfl (by decide +kernel : resF (mCn M_X4_readFactor) 29 = some (4, 3, .int, false))),
   (fun lv l st w => Ex_A (i := .iconst 1) (n := 1) (by decide +kernel) rfl rfl),
   (fun lv l st x y w => Ex_A (i := .iadd) (n := 1) (by decide +kernel) rfl rfl),
   (fun lv l st a v w => Ex_putf (by decide +kernel : decode M_X4_readFactor.2.1 56 = .ok (.putfield 29, 3)) rfl (by decide +kernel : resF (mCn M_X4_readFactor) 29 = some (4, 3, .int, false)) (by decide +kernel)),
   (fun lv l st w => Ex_goto (by decide +kernel : decode M_X4_readFactor.2.1 59 = .ok (.goto 92, 3)) rfl),
   (fun lv st t o0 x w => Ex_M (i := .iload_n 1) (n := 1) (by decide +kernel) rfl rfl rfl),
   (fun lv l st w => Ex_A (i := .iconst 5) (n := 1) (by decide +kernel) rfl rfl),
   (fun lv l st x y w => Ex_icmp_ge (by decide +kernel : decode M_X4_readFactor.2.1 64 = .ok (.if_icmp .ge 43, 3)) rfl rfl),
   (fun lv st t x w => Ex_M (i := .aload_n 0) (n := 1) (by decide +kernel) rfl rfl rfl),
   (fun lv st t w => Ex_M (i := .aload_n 0) (n := 1) (by decide +kernel) rfl rfl rfl),
   (fun lv l b w => Ex_callV (by decide +kernel : decode M_X4_readFactor.2.1 68 = .ok (.invokevirtual 81, 3)) rfl (by rfl : resM (mCn M_X4_readFactor) 81 = some (2, M_X4_ahead)) rfl (by rfl) (Nat.le_of_ble_eq_true rfl) (by decide +kernel) (sLv_lt (by decide +kernel))),
   (fun lv l st w => Ex_A (i := .bipush 33) (n := 2) (by decide +kernel) rfl rfl),
   (fun lv l st x y w => Ex_icmp_ne (by decide +kernel : decode M_X4_readFactor.2.1 73 = .ok (.if_icmp .ne 34, 3)) rfl rfl),
   (fun lv st t x w => Ex_M (i := .aload_n 0) (n := 1) (by decide +kernel) rfl rfl rfl),
   (fun lv st t w => Ex_M (i := .aload_n 0) (n := 1) (by decide +kernel) rfl rfl rfl),
   (fun lv l st x w => Ex_A (i := .dup) (n := 1) (by decide +kernel) rfl rfl),
   (fun lv l st a w => Ex_getf (by decide +kernel : decode M_X4_readFactor.2.1 78 = .ok (.getfield 29, 3)) rfl (by decide +kernel : resF (mCn M_X4_readFactor) 29 = some (4, 3, .int, false))),
   (fun lv l st w => Ex_A (i := .iconst 1) (n := 1) (by decide +kernel) rfl rfl),
   (fun lv l st x y w => Ex_A (i := .iadd) (n := 1) (by decide +kernel) rfl rfl),
   (fun lv l st a v w => Ex_putf (by decide +kernel : decode M_X4_readFactor.2.1 83 = .ok (.putfield 29, 3)) rfl (by decide +kernel : resF (mCn M_X4_readFactor) 29 = some (4, 3, .int, false)) (by decide +kernel)),
   (fun lv st t x w => Ex_M (i := .aload_n 0) (n := 1) (by decide +kernel) rfl rfl rfl),
   (fun lv st t w => Ex_M (i := .aload_n 0) (n := 1) (by decide +kernel) rfl rfl rfl),
   (fun lv st t o0 x w => Ex_M (i := .iload_n 1) (n := 1) (by decide +kernel) rfl rfl rfl),
   (fun lv l st w => Ex_A (i := .iconst 1) (n := 1) (by decide +kernel) rfl rfl),
   (fun lv l st x y w => Ex_A (i := .iadd) (n := 1) (by decide +kernel) rfl rfl),
   (fun lv l b a0 w => Ex_callV (by decide +kernel : decode M_X4_readFactor.2.1 90 = .ok (.invokevirtual 70, 3)) rfl (by rfl : resM (mCn M_X4_readFactor) 70 = some (2, M_X4_readFactor)) rfl (by rfl) (Nat.le_of_ble_eq_true rfl) (by decide +kernel) (sLv_eq (by decide +kernel)))⟩
set_option maxRecDepth 20000 in
set_option maxHeartbeats 4000000 in
theorem R_X4_readFactor_p1 : (∀ (lv : Nat) (st : List Value) (t : LX) (x : Nat) (w : AH), Ex M_X4_readFactor lv 93 (some (.ref x) :: t) st w = Ex M_X4_readFactor lv 94 (some (.ref x) :: t) (.ref x :: st) w)
  ∧ (∀ (lv : Nat) (st : List Value) (t : LX) (w : AH), Ex M_X4_readFactor lv 93 (some (.null) :: t) st w = Ex M_X4_readFactor lv 94 (some (.null) :: t) (.null :: st) w)
  ∧ (∀ (lv : Nat) (l : LX) (st : List Value) (a : Nat) (w : AH), Ex M_X4_readFactor lv 94 l (.ref a :: st) w = if (gf (hg w a) 4 0).isSome = true then Ex M_X4_readFactor lv 97 l (vV (gf (hg w a) 4 0) :: st) w else none)
  ∧ (∀ (lv : Nat) (l : LX) (st : List Value) (w : AH), Ex M_X4_readFactor lv 97 l st w = Ex M_X4_readFactor lv 100 l (.int 10033 :: st) w)
  ∧ (∀ (lv : Nat) (l : LX) (b : Nat) (a0 : Int32) (w : AH), Ex M_X4_readFactor lv 100 l (.int a0 :: .ref b :: []) w = if clK (hg w b) = 6 then (if (Call M_X6_add 60 [.ref b, .int a0] w).isSome = true then Ex M_X4_readFactor lv 103 l (pushR (cV (Call M_X6_add 60 [.ref b, .int a0] w)) []) (cW (Call M_X6_add 60 [.ref b, .int a0] w) w) else none) else none)
  ∧ (∀ (lv : Nat) (l : LX) (st : List Value) (x : Int32) (w : AH), Ex M_X4_readFactor lv 103 l (.int x :: st) w = Ex M_X4_readFactor lv 104 l st w)
  ∧ (∀ (lv : Nat) (l : LX) (st : List Value) (w : AH), Ex M_X4_readFactor lv 104 l st w = Ex M_X4_readFactor lv 151 l st w)
  ∧ (∀ (lv : Nat) (st : List Value) (t : LX) (o0 : Option Value) (x : Int32) (w : AH), Ex M_X4_readFactor lv 107 (o0 :: some (.int x) :: t) st w = Ex M_X4_readFactor lv 108 (o0 :: some (.int x) :: t) (.int x :: st) w)
  ∧ (∀ (lv : Nat) (l : LX) (st : List Value) (w : AH), Ex M_X4_readFactor lv 108 l st w = Ex M_X4_readFactor lv 109 l (.int 5 :: st) w)
  ∧ (∀ (lv : Nat) (l : LX) (st : List Value) (x y : Int32) (w : AH), Ex M_X4_readFactor lv 109 l (.int y :: .int x :: st) w = if y ≤ x then Ex M_X4_readFactor lv 146 l st w else Ex M_X4_readFactor lv 112 l st w)
  ∧ (∀ (lv : Nat) (st : List Value) (t : LX) (x : Nat) (w : AH), Ex M_X4_readFactor lv 112 (some (.ref x) :: t) st w = Ex M_X4_readFactor lv 113 (some (.ref x) :: t) (.ref x :: st) w)
  ∧ (∀ (lv : Nat) (st : List Value) (t : LX) (w : AH), Ex M_X4_readFactor lv 112 (some (.null) :: t) st w = Ex M_X4_readFactor lv 113 (some (.null) :: t) (.null :: st) w)
  ∧ (∀ (lv : Nat) (l : LX) (b : Nat) (w : AH), Ex M_X4_readFactor lv 113 l (.ref b :: []) w = if clK (hg w b) = 4 then (if (Call M_X4_ahead 60 [.ref b] w).isSome = true then Ex M_X4_readFactor lv 116 l (pushR (cV (Call M_X4_ahead 60 [.ref b] w)) []) (cW (Call M_X4_ahead 60 [.ref b] w) w) else none) else none)
  ∧ (∀ (lv : Nat) (l : LX) (st : List Value) (w : AH), Ex M_X4_readFactor lv 116 l st w = Ex M_X4_readFactor lv 118 l (.int 40 :: st) w)
  ∧ (∀ (lv : Nat) (l : LX) (st : List Value) (x y : Int32) (w : AH), Ex M_X4_readFactor lv 118 l (.int y :: .int x :: st) w = if ¬ x = y then Ex M_X4_readFactor lv 146 l st w else Ex M_X4_readFactor lv 121 l st w)
  ∧ (∀ (lv : Nat) (st : List Value) (t : LX) (x : Nat) (w : AH), Ex M_X4_readFactor lv 121 (some (.ref x) :: t) st w = Ex M_X4_readFactor lv 122 (some (.ref x) :: t) (.ref x :: st) w)
  ∧ (∀ (lv : Nat) (st : List Value) (t : LX) (w : AH), Ex M_X4_readFactor lv 121 (some (.null) :: t) st w = Ex M_X4_readFactor lv 122 (some (.null) :: t) (.null :: st) w)
  ∧ (∀ (lv : Nat) (l : LX) (st : List Value) (x : Nat) (w : AH), Ex M_X4_readFactor lv 122 l (.ref x :: st) w = Ex M_X4_readFactor lv 123 l (.ref x :: .ref x :: st) w)
  ∧ (∀ (lv : Nat) (l : LX) (st : List Value) (a : Nat) (w : AH), Ex M_X4_readFactor lv 123 l (.ref a :: st) w = if (gf (hg w a) 4 3).isSome = true then Ex M_X4_readFactor lv 126 l (vV (gf (hg w a) 4 3) :: st) w else none)
  ∧ (∀ (lv : Nat) (l : LX) (st : List Value) (w : AH), Ex M_X4_readFactor lv 126 l st w = Ex M_X4_readFactor lv 127 l (.int 1 :: st) w)
  ∧ (∀ (lv : Nat) (l : LX) (st : List Value) (x y : Int32) (w : AH), Ex M_X4_readFactor lv 127 l (.int y :: .int x :: st) w = Ex M_X4_readFactor lv 128 l (.int (x + y) :: st) w)
  ∧ (∀ (lv : Nat) (l : LX) (st : List Value) (a : Nat) (v : Value) (w : AH), Ex M_X4_readFactor lv 128 l (v :: .ref a :: st) w = if (pf (hg w a) 4 3 .int v).isSome = true then Ex M_X4_readFactor lv 131 l st (hs w a (vE (pf (hg w a) 4 3 .int v))) else none)
  ∧ (∀ (lv : Nat) (st : List Value) (t : LX) (x : Nat) (w : AH), Ex M_X4_readFactor lv 131 (some (.ref x) :: t) st w = Ex M_X4_readFactor lv 132 (some (.ref x) :: t) (.ref x :: st) w)
  ∧ (∀ (lv : Nat) (st : List Value) (t : LX) (w : AH), Ex M_X4_readFactor lv 131 (some (.null) :: t) st w = Ex M_X4_readFactor lv 132 (some (.null) :: t) (.null :: st) w)
  ∧ (∀ (lv : Nat) (l : LX) (st : List Value) (w : AH), Ex M_X4_readFactor lv 132 l st w = Ex M_X4_readFactor lv 133 l (.int 0 :: st) w)
  ∧ (∀ (lv : Nat) (st : List Value) (t : LX) (o0 : Option Value) (x : Int32) (w : AH), Ex M_X4_readFactor lv 133 (o0 :: some (.int x) :: t) st w = Ex M_X4_readFactor lv 134 (o0 :: some (.int x) :: t) (.int x :: st) w)
  ∧ (∀ (lv : Nat) (l : LX) (st : List Value) (w : AH), Ex M_X4_readFactor lv 134 l st w = Ex M_X4_readFactor lv 135 l (.int 1 :: st) w)
  ∧ (∀ (lv : Nat) (l : LX) (st : List Value) (x y : Int32) (w : AH), Ex M_X4_readFactor lv 135 l (.int y :: .int x :: st) w = Ex M_X4_readFactor lv 136 l (.int (x + y) :: st) w)
  ∧ (∀ (lv : Nat) (l : LX) (b : Nat) (a0 : Int32) (a1 : Int32) (w : AH), Ex M_X4_readFactor (lv + 1) 136 l (.int a1 :: .int a0 :: .ref b :: []) w = if clK (hg w b) = 4 then (if (Call M_X4_readLevel lv [.ref b, .int a0, .int a1] w).isSome = true then Ex M_X4_readFactor (lv + 1) 139 l (pushR (cV (Call M_X4_readLevel lv [.ref b, .int a0, .int a1] w)) []) (cW (Call M_X4_readLevel lv [.ref b, .int a0, .int a1] w) w) else none) else none)
  ∧ (∀ (lv : Nat) (st : List Value) (t : LX) (x : Nat) (w : AH), Ex M_X4_readFactor lv 139 (some (.ref x) :: t) st w = Ex M_X4_readFactor lv 140 (some (.ref x) :: t) (.ref x :: st) w)
  ∧ (∀ (lv : Nat) (st : List Value) (t : LX) (w : AH), Ex M_X4_readFactor lv 139 (some (.null) :: t) st w = Ex M_X4_readFactor lv 140 (some (.null) :: t) (.null :: st) w)
  ∧ (∀ (lv : Nat) (l : LX) (b : Nat) (w : AH), Ex M_X4_readFactor lv 140 l (.ref b :: []) w = if clK (hg w b) = 4 then (if (Call M_X4_close 60 [.ref b] w).isSome = true then Ex M_X4_readFactor lv 143 l (pushR (cV (Call M_X4_close 60 [.ref b] w)) []) (cW (Call M_X4_close 60 [.ref b] w) w) else none) else none)
  ∧ (∀ (lv : Nat) (l : LX) (st : List Value) (w : AH), Ex M_X4_readFactor lv 143 l st w = Ex M_X4_readFactor lv 151 l st w)
  ∧ (∀ (lv : Nat) (st : List Value) (t : LX) (x : Nat) (w : AH), Ex M_X4_readFactor lv 146 (some (.ref x) :: t) st w = Ex M_X4_readFactor lv 147 (some (.ref x) :: t) (.ref x :: st) w)
  ∧ (∀ (lv : Nat) (st : List Value) (t : LX) (w : AH), Ex M_X4_readFactor lv 146 (some (.null) :: t) st w = Ex M_X4_readFactor lv 147 (some (.null) :: t) (.null :: st) w)
  ∧ (∀ (lv : Nat) (l : LX) (st : List Value) (w : AH), Ex M_X4_readFactor lv 147 l st w = Ex M_X4_readFactor lv 148 l (.int 1 :: st) w)
  ∧ (∀ (lv : Nat) (l : LX) (st : List Value) (a : Nat) (v : Value) (w : AH), Ex M_X4_readFactor lv 148 l (v :: .ref a :: st) w = if (pf (hg w a) 4 4 .boolean v).isSome = true then Ex M_X4_readFactor lv 151 l st (hs w a (vE (pf (hg w a) 4 4 .boolean v))) else none)
  ∧ (∀ (lv : Nat) (l : LX) (w : AH), Ex M_X4_readFactor lv 151 l [] w = some (none, w)) :=
  ⟨(fun lv st t x w => Ex_M (i := .aload_n 0) (n := 1) (by decide +kernel) rfl rfl rfl),
   (fun lv st t w => Ex_M (i := .aload_n 0) (n := 1) (by decide +kernel) rfl rfl rfl),
   (fun lv l st a w => Ex_getf (by decide +kernel : decode M_X4_readFactor.2.1 94 = .ok (.getfield 14, 3)) rfl (by decide +kernel : resF (mCn M_X4_readFactor) 14 = some (4, 0, (.object "CarpetLands$Row"), true))),
   (fun lv l st w => Ex_A (i := .sipush 10033) (n := 3) (by decide +kernel) rfl rfl),
   (fun lv l b a0 w => Ex_callV (by decide +kernel : decode M_X4_readFactor.2.1 100 = .ok (.invokevirtual 87, 3)) rfl (by rfl : resM (mCn M_X4_readFactor) 87 = some (2, M_X6_add)) rfl (by rfl) (Nat.le_of_ble_eq_true rfl) (by decide +kernel) (sLv_lt (by decide +kernel))),
   (fun lv l st x w => Ex_A (i := .pop) (n := 1) (by decide +kernel) rfl rfl),
   (fun lv l st w => Ex_goto (by decide +kernel : decode M_X4_readFactor.2.1 104 = .ok (.goto 47, 3)) rfl),
   (fun lv st t o0 x w => Ex_M (i := .iload_n 1) (n := 1) (by decide +kernel) rfl rfl rfl),
   (fun lv l st w => Ex_A (i := .iconst 5) (n := 1) (by decide +kernel) rfl rfl),
   (fun lv l st x y w => Ex_icmp_ge (by decide +kernel : decode M_X4_readFactor.2.1 109 = .ok (.if_icmp .ge 37, 3)) rfl rfl),
   (fun lv st t x w => Ex_M (i := .aload_n 0) (n := 1) (by decide +kernel) rfl rfl rfl),
   (fun lv st t w => Ex_M (i := .aload_n 0) (n := 1) (by decide +kernel) rfl rfl rfl),
   (fun lv l b w => Ex_callV (by decide +kernel : decode M_X4_readFactor.2.1 113 = .ok (.invokevirtual 81, 3)) rfl (by rfl : resM (mCn M_X4_readFactor) 81 = some (2, M_X4_ahead)) rfl (by rfl) (Nat.le_of_ble_eq_true rfl) (by decide +kernel) (sLv_lt (by decide +kernel))),
   (fun lv l st w => Ex_A (i := .bipush 40) (n := 2) (by decide +kernel) rfl rfl),
   (fun lv l st x y w => Ex_icmp_ne (by decide +kernel : decode M_X4_readFactor.2.1 118 = .ok (.if_icmp .ne 28, 3)) rfl rfl),
   (fun lv st t x w => Ex_M (i := .aload_n 0) (n := 1) (by decide +kernel) rfl rfl rfl),
   (fun lv st t w => Ex_M (i := .aload_n 0) (n := 1) (by decide +kernel) rfl rfl rfl),
   (fun lv l st x w => Ex_A (i := .dup) (n := 1) (by decide +kernel) rfl rfl),
   (fun lv l st a w => Ex_getf (by decide +kernel : decode M_X4_readFactor.2.1 123 = .ok (.getfield 29, 3)) rfl (by decide +kernel : resF (mCn M_X4_readFactor) 29 = some (4, 3, .int, false))),
   (fun lv l st w => Ex_A (i := .iconst 1) (n := 1) (by decide +kernel) rfl rfl),
   (fun lv l st x y w => Ex_A (i := .iadd) (n := 1) (by decide +kernel) rfl rfl),
   (fun lv l st a v w => Ex_putf (by decide +kernel : decode M_X4_readFactor.2.1 128 = .ok (.putfield 29, 3)) rfl (by decide +kernel : resF (mCn M_X4_readFactor) 29 = some (4, 3, .int, false)) (by decide +kernel)),
   (fun lv st t x w => Ex_M (i := .aload_n 0) (n := 1) (by decide +kernel) rfl rfl rfl),
   (fun lv st t w => Ex_M (i := .aload_n 0) (n := 1) (by decide +kernel) rfl rfl rfl),
   (fun lv l st w => Ex_A (i := .iconst 0) (n := 1) (by decide +kernel) rfl rfl),
   (fun lv st t o0 x w => Ex_M (i := .iload_n 1) (n := 1) (by decide +kernel) rfl rfl rfl),
   (fun lv l st w => Ex_A (i := .iconst 1) (n := 1) (by decide +kernel) rfl rfl),
   (fun lv l st x y w => Ex_A (i := .iadd) (n := 1) (by decide +kernel) rfl rfl),
   (fun lv l b a0 a1 w => Ex_callV (by decide +kernel : decode M_X4_readFactor.2.1 136 = .ok (.invokevirtual 44, 3)) rfl (by rfl : resM (mCn M_X4_readFactor) 44 = some (2, M_X4_readLevel)) rfl (by rfl) (Nat.le_of_ble_eq_true rfl) (by decide +kernel) (sLv_eq (by decide +kernel))),
   (fun lv st t x w => Ex_M (i := .aload_n 0) (n := 1) (by decide +kernel) rfl rfl rfl),
   (fun lv st t w => Ex_M (i := .aload_n 0) (n := 1) (by decide +kernel) rfl rfl rfl),
   (fun lv l b w => Ex_callV (by decide +kernel : decode M_X4_readFactor.2.1 140 = .ok (.invokevirtual 96, 3)) rfl (by rfl : resM (mCn M_X4_readFactor) 96 = some (2, M_X4_close)) rfl (by rfl) (Nat.le_of_ble_eq_true rfl) (by decide +kernel) (sLv_lt (by decide +kernel))),
   (fun lv l st w => Ex_goto (by decide +kernel : decode M_X4_readFactor.2.1 143 = .ok (.goto 8, 3)) rfl),
   (fun lv st t x w => Ex_M (i := .aload_n 0) (n := 1) (by decide +kernel) rfl rfl rfl),
   (fun lv st t w => Ex_M (i := .aload_n 0) (n := 1) (by decide +kernel) rfl rfl rfl),
   (fun lv l st w => Ex_A (i := .iconst 1) (n := 1) (by decide +kernel) rfl rfl),
   (fun lv l st a v w => Ex_putf (by decide +kernel : decode M_X4_readFactor.2.1 148 = .ok (.putfield 33, 3)) rfl (by decide +kernel : resF (mCn M_X4_readFactor) 33 = some (4, 4, .boolean, false)) (by decide +kernel)),
   (fun lv l w => Ex_R (i := .return_) (n := 1) (by decide +kernel) rfl rfl rfl rfl rfl)⟩
-- R_X4_readFactor: p0 to p1
set_option maxRecDepth 20000 in
set_option maxHeartbeats 4000000 in
theorem R_X4_close : (∀ (lv : Nat) (st : List Value) (t : LX) (x : Nat) (w : AH), Ex M_X4_close lv 0 (some (.ref x) :: t) st w = Ex M_X4_close lv 1 (some (.ref x) :: t) (.ref x :: st) w)
  ∧ (∀ (lv : Nat) (st : List Value) (t : LX) (w : AH), Ex M_X4_close lv 0 (some (.null) :: t) st w = Ex M_X4_close lv 1 (some (.null) :: t) (.null :: st) w)
  ∧ (∀ (lv : Nat) (l : LX) (st : List Value) (a : Nat) (w : AH), Ex M_X4_close lv 1 l (.ref a :: st) w = if (gf (hg w a) 4 4).isSome = true then Ex M_X4_close lv 4 l (vV (gf (hg w a) 4 4) :: st) w else none)
  ∧ (∀ (lv : Nat) (l : LX) (st : List Value) (x : Int32) (w : AH), Ex M_X4_close lv 4 l (.int x :: st) w = if x = 0 then Ex M_X4_close lv 8 l st w else Ex M_X4_close lv 7 l st w)
  ∧ (∀ (lv : Nat) (l : LX) (w : AH), Ex M_X4_close lv 7 l [] w = some (none, w))
  ∧ (∀ (lv : Nat) (st : List Value) (t : LX) (x : Nat) (w : AH), Ex M_X4_close lv 8 (some (.ref x) :: t) st w = Ex M_X4_close lv 9 (some (.ref x) :: t) (.ref x :: st) w)
  ∧ (∀ (lv : Nat) (st : List Value) (t : LX) (w : AH), Ex M_X4_close lv 8 (some (.null) :: t) st w = Ex M_X4_close lv 9 (some (.null) :: t) (.null :: st) w)
  ∧ (∀ (lv : Nat) (l : LX) (b : Nat) (w : AH), Ex M_X4_close lv 9 l (.ref b :: []) w = if clK (hg w b) = 4 then (if (Call M_X4_ahead 60 [.ref b] w).isSome = true then Ex M_X4_close lv 12 l (pushR (cV (Call M_X4_ahead 60 [.ref b] w)) []) (cW (Call M_X4_ahead 60 [.ref b] w) w) else none) else none)
  ∧ (∀ (lv : Nat) (l : LX) (st : List Value) (w : AH), Ex M_X4_close lv 12 l st w = Ex M_X4_close lv 14 l (.int 41 :: st) w)
  ∧ (∀ (lv : Nat) (l : LX) (st : List Value) (x y : Int32) (w : AH), Ex M_X4_close lv 14 l (.int y :: .int x :: st) w = if ¬ x = y then Ex M_X4_close lv 30 l st w else Ex M_X4_close lv 17 l st w)
  ∧ (∀ (lv : Nat) (st : List Value) (t : LX) (x : Nat) (w : AH), Ex M_X4_close lv 17 (some (.ref x) :: t) st w = Ex M_X4_close lv 18 (some (.ref x) :: t) (.ref x :: st) w)
  ∧ (∀ (lv : Nat) (st : List Value) (t : LX) (w : AH), Ex M_X4_close lv 17 (some (.null) :: t) st w = Ex M_X4_close lv 18 (some (.null) :: t) (.null :: st) w)
  ∧ (∀ (lv : Nat) (l : LX) (st : List Value) (x : Nat) (w : AH), Ex M_X4_close lv 18 l (.ref x :: st) w = Ex M_X4_close lv 19 l (.ref x :: .ref x :: st) w)
  ∧ (∀ (lv : Nat) (l : LX) (st : List Value) (a : Nat) (w : AH), Ex M_X4_close lv 19 l (.ref a :: st) w = if (gf (hg w a) 4 3).isSome = true then Ex M_X4_close lv 22 l (vV (gf (hg w a) 4 3) :: st) w else none)
  ∧ (∀ (lv : Nat) (l : LX) (st : List Value) (w : AH), Ex M_X4_close lv 22 l st w = Ex M_X4_close lv 23 l (.int 1 :: st) w)
  ∧ (∀ (lv : Nat) (l : LX) (st : List Value) (x y : Int32) (w : AH), Ex M_X4_close lv 23 l (.int y :: .int x :: st) w = Ex M_X4_close lv 24 l (.int (x + y) :: st) w)
  ∧ (∀ (lv : Nat) (l : LX) (st : List Value) (a : Nat) (v : Value) (w : AH), Ex M_X4_close lv 24 l (v :: .ref a :: st) w = if (pf (hg w a) 4 3 .int v).isSome = true then Ex M_X4_close lv 27 l st (hs w a (vE (pf (hg w a) 4 3 .int v))) else none)
  ∧ (∀ (lv : Nat) (l : LX) (st : List Value) (w : AH), Ex M_X4_close lv 27 l st w = Ex M_X4_close lv 35 l st w)
  ∧ (∀ (lv : Nat) (st : List Value) (t : LX) (x : Nat) (w : AH), Ex M_X4_close lv 30 (some (.ref x) :: t) st w = Ex M_X4_close lv 31 (some (.ref x) :: t) (.ref x :: st) w)
  ∧ (∀ (lv : Nat) (st : List Value) (t : LX) (w : AH), Ex M_X4_close lv 30 (some (.null) :: t) st w = Ex M_X4_close lv 31 (some (.null) :: t) (.null :: st) w)
  ∧ (∀ (lv : Nat) (l : LX) (st : List Value) (w : AH), Ex M_X4_close lv 31 l st w = Ex M_X4_close lv 32 l (.int 1 :: st) w)
  ∧ (∀ (lv : Nat) (l : LX) (st : List Value) (a : Nat) (v : Value) (w : AH), Ex M_X4_close lv 32 l (v :: .ref a :: st) w = if (pf (hg w a) 4 4 .boolean v).isSome = true then Ex M_X4_close lv 35 l st (hs w a (vE (pf (hg w a) 4 4 .boolean v))) else none)
  ∧ (∀ (lv : Nat) (l : LX) (w : AH), Ex M_X4_close lv 35 l [] w = some (none, w)) :=
  ⟨(fun lv st t x w => Ex_M (i := .aload_n 0) (n := 1) (by decide +kernel) rfl rfl rfl),
   (fun lv st t w => Ex_M (i := .aload_n 0) (n := 1) (by decide +kernel) rfl rfl rfl),
   (fun lv l st a w => Ex_getf (by decide +kernel : decode M_X4_close.2.1 1 = .ok (.getfield 33, 3)) rfl (by decide +kernel : resF (mCn M_X4_close) 33 = some (4, 4, .boolean, false))),
   (fun lv l st x w => Ex_if_eq (by decide +kernel : decode M_X4_close.2.1 4 = .ok (.ifCond .eq 4, 3)) rfl rfl),
   (fun lv l w => Ex_R (i := .return_) (n := 1) (by decide +kernel) rfl rfl rfl rfl rfl),
   (fun lv st t x w => Ex_M (i := .aload_n 0) (n := 1) (by decide +kernel) rfl rfl rfl),
   (fun lv st t w => Ex_M (i := .aload_n 0) (n := 1) (by decide +kernel) rfl rfl rfl),
   (fun lv l b w => Ex_callV (by decide +kernel : decode M_X4_close.2.1 9 = .ok (.invokevirtual 81, 3)) rfl (by rfl : resM (mCn M_X4_close) 81 = some (2, M_X4_ahead)) rfl (by rfl) (Nat.le_of_ble_eq_true rfl) (by decide +kernel) (sLv_lt (by decide +kernel))),
   (fun lv l st w => Ex_A (i := .bipush 41) (n := 2) (by decide +kernel) rfl rfl),
   (fun lv l st x y w => Ex_icmp_ne (by decide +kernel : decode M_X4_close.2.1 14 = .ok (.if_icmp .ne 16, 3)) rfl rfl),
   (fun lv st t x w => Ex_M (i := .aload_n 0) (n := 1) (by decide +kernel) rfl rfl rfl),
   (fun lv st t w => Ex_M (i := .aload_n 0) (n := 1) (by decide +kernel) rfl rfl rfl),
   (fun lv l st x w => Ex_A (i := .dup) (n := 1) (by decide +kernel) rfl rfl),
   (fun lv l st a w => Ex_getf (by decide +kernel : decode M_X4_close.2.1 19 = .ok (.getfield 29, 3)) rfl (by decide +kernel : resF (mCn M_X4_close) 29 = some (4, 3, .int, false))),
   (fun lv l st w => Ex_A (i := .iconst 1) (n := 1) (by decide +kernel) rfl rfl),
   (fun lv l st x y w => Ex_A (i := .iadd) (n := 1) (by decide +kernel) rfl rfl),
   (fun lv l st a v w => Ex_putf (by decide +kernel : decode M_X4_close.2.1 24 = .ok (.putfield 29, 3)) rfl (by decide +kernel : resF (mCn M_X4_close) 29 = some (4, 3, .int, false)) (by decide +kernel)),
   (fun lv l st w => Ex_goto (by decide +kernel : decode M_X4_close.2.1 27 = .ok (.goto 8, 3)) rfl),
   (fun lv st t x w => Ex_M (i := .aload_n 0) (n := 1) (by decide +kernel) rfl rfl rfl),
   (fun lv st t w => Ex_M (i := .aload_n 0) (n := 1) (by decide +kernel) rfl rfl rfl),
   (fun lv l st w => Ex_A (i := .iconst 1) (n := 1) (by decide +kernel) rfl rfl),
   (fun lv l st a v w => Ex_putf (by decide +kernel : decode M_X4_close.2.1 32 = .ok (.putfield 33, 3)) rfl (by decide +kernel : resF (mCn M_X4_close) 33 = some (4, 4, .boolean, false)) (by decide +kernel)),
   (fun lv l w => Ex_R (i := .return_) (n := 1) (by decide +kernel) rfl rfl rfl rfl rfl)⟩
set_option maxRecDepth 20000 in
theorem H_X4_readNumber_4 : ∀ (lv : Nat) (st : List Value) (t : LX) (o0 o1 : Option Value) (x : Int32) (w : AH), Ex M_X4_readNumber lv 4 (o0 :: o1 :: some (.int x) :: t) st w = Ex M_X4_readNumber lv 5 (o0 :: o1 :: some (.int x) :: t) (.int x :: st) w := fun lv st t o0 o1 x w => Ex_M (i := .iload_n 2) (n := 1) (by decide +kernel) rfl rfl rfl
set_option maxRecDepth 20000 in
set_option maxHeartbeats 4000000 in
theorem R_X4_readNumber : (∀ (lv : Nat) (l : LX) (st : List Value) (w : AH), Ex M_X4_readNumber lv 0 l st w = Ex M_X4_readNumber lv 1 l (.int 0 :: st) w)
  ∧ (∀ (lv : Nat) (l : LX) (st : List Value) (x : Int32) (w : AH), Ex M_X4_readNumber lv 1 l (.int x :: st) w = Ex M_X4_readNumber lv 2 (ls1 l 1 (.int x)) st w)
  ∧ (∀ (lv : Nat) (l : LX) (st : List Value) (w : AH), Ex M_X4_readNumber lv 2 l st w = Ex M_X4_readNumber lv 3 l (.int 0 :: st) w)
  ∧ (∀ (lv : Nat) (l : LX) (st : List Value) (x : Int32) (w : AH), Ex M_X4_readNumber lv 3 l (.int x :: st) w = Ex M_X4_readNumber lv 4 (ls1 l 2 (.int x)) st w)
  ∧ (∀ (lv : Nat) (l : LX) (st : List Value) (w : AH), Ex M_X4_readNumber lv 5 l st w = Ex M_X4_readNumber lv 6 l (.int 4 :: st) w)
  ∧ (∀ (lv : Nat) (l : LX) (st : List Value) (x y : Int32) (w : AH), Ex M_X4_readNumber lv 6 l (.int y :: .int x :: st) w = if y ≤ x then Ex M_X4_readNumber lv 47 l st w else Ex M_X4_readNumber lv 9 l st w)
  ∧ (∀ (lv : Nat) (st : List Value) (t : LX) (x : Nat) (w : AH), Ex M_X4_readNumber lv 9 (some (.ref x) :: t) st w = Ex M_X4_readNumber lv 10 (some (.ref x) :: t) (.ref x :: st) w)
  ∧ (∀ (lv : Nat) (st : List Value) (t : LX) (w : AH), Ex M_X4_readNumber lv 9 (some (.null) :: t) st w = Ex M_X4_readNumber lv 10 (some (.null) :: t) (.null :: st) w)
  ∧ (∀ (lv : Nat) (l : LX) (st : List Value) (w : AH), Ex M_X4_readNumber lv 10 l st w = Ex M_X4_readNumber lv 12 l (.ref 6 :: st) w)
  ∧ (∀ (lv : Nat) (l : LX) (b : Nat) (a0 : Nat) (w : AH), Ex M_X4_readNumber lv 12 l (.ref a0 :: .ref b :: []) w = if clK (hg w b) = 4 then (if (Call M_X4_isAhead 60 [.ref b, .ref a0] w).isSome = true then Ex M_X4_readNumber lv 15 l (pushR (cV (Call M_X4_isAhead 60 [.ref b, .ref a0] w)) []) (cW (Call M_X4_isAhead 60 [.ref b, .ref a0] w) w) else none) else none)
  ∧ (∀ (lv : Nat) (l : LX) (st : List Value) (x : Int32) (w : AH), Ex M_X4_readNumber lv 15 l (.int x :: st) w = if x = 0 then Ex M_X4_readNumber lv 47 l st w else Ex M_X4_readNumber lv 18 l st w)
  ∧ (∀ (lv : Nat) (st : List Value) (t : LX) (o0 : Option Value) (x : Int32) (w : AH), Ex M_X4_readNumber lv 18 (o0 :: some (.int x) :: t) st w = Ex M_X4_readNumber lv 19 (o0 :: some (.int x) :: t) (.int x :: st) w)
  ∧ (∀ (lv : Nat) (l : LX) (st : List Value) (w : AH), Ex M_X4_readNumber lv 19 l st w = Ex M_X4_readNumber lv 21 l (.int 10 :: st) w)
  ∧ (∀ (lv : Nat) (l : LX) (st : List Value) (x y : Int32) (w : AH), Ex M_X4_readNumber lv 21 l (.int y :: .int x :: st) w = Ex M_X4_readNumber lv 22 l (.int (x * y) :: st) w)
  ∧ (∀ (lv : Nat) (st : List Value) (t : LX) (x : Nat) (w : AH), Ex M_X4_readNumber lv 22 (some (.ref x) :: t) st w = Ex M_X4_readNumber lv 23 (some (.ref x) :: t) (.ref x :: st) w)
  ∧ (∀ (lv : Nat) (st : List Value) (t : LX) (w : AH), Ex M_X4_readNumber lv 22 (some (.null) :: t) st w = Ex M_X4_readNumber lv 23 (some (.null) :: t) (.null :: st) w)
  ∧ (∀ (lv : Nat) (l : LX) (b : Nat) (s0 : Int32) (w : AH), Ex M_X4_readNumber lv 23 l (.ref b :: [.int s0]) w = if clK (hg w b) = 4 then (if (Call M_X4_ahead 60 [.ref b] w).isSome = true then Ex M_X4_readNumber lv 26 l (pushR (cV (Call M_X4_ahead 60 [.ref b] w)) [.int s0]) (cW (Call M_X4_ahead 60 [.ref b] w) w) else none) else none)
  ∧ (∀ (lv : Nat) (l : LX) (st : List Value) (w : AH), Ex M_X4_readNumber lv 26 l st w = Ex M_X4_readNumber lv 28 l (.int 48 :: st) w)
  ∧ (∀ (lv : Nat) (l : LX) (st : List Value) (x y : Int32) (w : AH), Ex M_X4_readNumber lv 28 l (.int y :: .int x :: st) w = Ex M_X4_readNumber lv 29 l (.int (x - y) :: st) w)
  ∧ (∀ (lv : Nat) (l : LX) (st : List Value) (x y : Int32) (w : AH), Ex M_X4_readNumber lv 29 l (.int y :: .int x :: st) w = Ex M_X4_readNumber lv 30 l (.int (x + y) :: st) w)
  ∧ (∀ (lv : Nat) (l : LX) (st : List Value) (x : Int32) (w : AH), Ex M_X4_readNumber lv 30 l (.int x :: st) w = Ex M_X4_readNumber lv 31 (ls1 l 1 (.int x)) st w)
  ∧ (∀ (lv : Nat) (st : List Value) (t : LX) (x : Nat) (w : AH), Ex M_X4_readNumber lv 31 (some (.ref x) :: t) st w = Ex M_X4_readNumber lv 32 (some (.ref x) :: t) (.ref x :: st) w)
  ∧ (∀ (lv : Nat) (st : List Value) (t : LX) (w : AH), Ex M_X4_readNumber lv 31 (some (.null) :: t) st w = Ex M_X4_readNumber lv 32 (some (.null) :: t) (.null :: st) w)
  ∧ (∀ (lv : Nat) (l : LX) (st : List Value) (x : Nat) (w : AH), Ex M_X4_readNumber lv 32 l (.ref x :: st) w = Ex M_X4_readNumber lv 33 l (.ref x :: .ref x :: st) w)
  ∧ (∀ (lv : Nat) (l : LX) (st : List Value) (a : Nat) (w : AH), Ex M_X4_readNumber lv 33 l (.ref a :: st) w = if (gf (hg w a) 4 3).isSome = true then Ex M_X4_readNumber lv 36 l (vV (gf (hg w a) 4 3) :: st) w else none)
  ∧ (∀ (lv : Nat) (l : LX) (st : List Value) (w : AH), Ex M_X4_readNumber lv 36 l st w = Ex M_X4_readNumber lv 37 l (.int 1 :: st) w)
  ∧ (∀ (lv : Nat) (l : LX) (st : List Value) (x y : Int32) (w : AH), Ex M_X4_readNumber lv 37 l (.int y :: .int x :: st) w = Ex M_X4_readNumber lv 38 l (.int (x + y) :: st) w)
  ∧ (∀ (lv : Nat) (l : LX) (st : List Value) (a : Nat) (v : Value) (w : AH), Ex M_X4_readNumber lv 38 l (v :: .ref a :: st) w = if (pf (hg w a) 4 3 .int v).isSome = true then Ex M_X4_readNumber lv 41 l st (hs w a (vE (pf (hg w a) 4 3 .int v))) else none)
  ∧ (∀ (lv : Nat) (st : List Value) (t : LX) (o0 o1 : Option Value) (x : Int32) (w : AH), Ex M_X4_readNumber lv 41 (o0 :: o1 :: some (.int x) :: t) st w = Ex M_X4_readNumber lv 44 (ls1 (o0 :: o1 :: some (.int x) :: t) 2 (.int (x + 1))) st w)
  ∧ (∀ (lv : Nat) (l : LX) (st : List Value) (w : AH), Ex M_X4_readNumber lv 44 l st w = Ex M_X4_readNumber lv 4 l st w)
  ∧ (∀ (lv : Nat) (st : List Value) (t : LX) (x : Nat) (w : AH), Ex M_X4_readNumber lv 47 (some (.ref x) :: t) st w = Ex M_X4_readNumber lv 48 (some (.ref x) :: t) (.ref x :: st) w)
  ∧ (∀ (lv : Nat) (st : List Value) (t : LX) (w : AH), Ex M_X4_readNumber lv 47 (some (.null) :: t) st w = Ex M_X4_readNumber lv 48 (some (.null) :: t) (.null :: st) w)
  ∧ (∀ (lv : Nat) (l : LX) (st : List Value) (a : Nat) (w : AH), Ex M_X4_readNumber lv 48 l (.ref a :: st) w = if (gf (hg w a) 4 0).isSome = true then Ex M_X4_readNumber lv 51 l (vV (gf (hg w a) 4 0) :: st) w else none)
  ∧ (∀ (lv : Nat) (st : List Value) (t : LX) (o0 : Option Value) (x : Int32) (w : AH), Ex M_X4_readNumber lv 51 (o0 :: some (.int x) :: t) st w = Ex M_X4_readNumber lv 52 (o0 :: some (.int x) :: t) (.int x :: st) w)
  ∧ (∀ (lv : Nat) (l : LX) (b : Nat) (a0 : Int32) (w : AH), Ex M_X4_readNumber lv 52 l (.int a0 :: .ref b :: []) w = if clK (hg w b) = 6 then (if (Call M_X6_add 60 [.ref b, .int a0] w).isSome = true then Ex M_X4_readNumber lv 55 l (pushR (cV (Call M_X6_add 60 [.ref b, .int a0] w)) []) (cW (Call M_X6_add 60 [.ref b, .int a0] w) w) else none) else none)
  ∧ (∀ (lv : Nat) (l : LX) (st : List Value) (x : Int32) (w : AH), Ex M_X4_readNumber lv 55 l (.int x :: st) w = Ex M_X4_readNumber lv 56 l st w)
  ∧ (∀ (lv : Nat) (l : LX) (w : AH), Ex M_X4_readNumber lv 56 l [] w = some (none, w)) :=
  ⟨(fun lv l st w => Ex_A (i := .iconst 0) (n := 1) (by decide +kernel) rfl rfl),
   (fun lv l st x w => Ex_M (i := .istore_n 1) (n := 1) (by decide +kernel) rfl rfl rfl),
   (fun lv l st w => Ex_A (i := .iconst 0) (n := 1) (by decide +kernel) rfl rfl),
   (fun lv l st x w => Ex_M (i := .istore_n 2) (n := 1) (by decide +kernel) rfl rfl rfl),
   (fun lv l st w => Ex_A (i := .iconst 4) (n := 1) (by decide +kernel) rfl rfl),
   (fun lv l st x y w => Ex_icmp_ge (by decide +kernel : decode M_X4_readNumber.2.1 6 = .ok (.if_icmp .ge 41, 3)) rfl rfl),
   (fun lv st t x w => Ex_M (i := .aload_n 0) (n := 1) (by decide +kernel) rfl rfl rfl),
   (fun lv st t w => Ex_M (i := .aload_n 0) (n := 1) (by decide +kernel) rfl rfl rfl),
   (fun lv l st w => Ex_ldcS (j := 3) (by decide +kernel : decode M_X4_readNumber.2.1 10 = .ok (.ldc 91, 2)) rfl (by decide +kernel : resK (mCn M_X4_readNumber) 91 = none) (by decide +kernel : resS (mCn M_X4_readNumber) 91 = some 3)),
   (fun lv l b a0 w => Ex_callV (by decide +kernel : decode M_X4_readNumber.2.1 12 = .ok (.invokevirtual 77, 3)) rfl (by rfl : resM (mCn M_X4_readNumber) 77 = some (2, M_X4_isAhead)) rfl (by rfl) (Nat.le_of_ble_eq_true rfl) (by decide +kernel) (sLv_lt (by decide +kernel))),
   (fun lv l st x w => Ex_if_eq (by decide +kernel : decode M_X4_readNumber.2.1 15 = .ok (.ifCond .eq 32, 3)) rfl rfl),
   (fun lv st t o0 x w => Ex_M (i := .iload_n 1) (n := 1) (by decide +kernel) rfl rfl rfl),
   (fun lv l st w => Ex_A (i := .bipush 10) (n := 2) (by decide +kernel) rfl rfl),
   (fun lv l st x y w => Ex_A (i := .imul) (n := 1) (by decide +kernel) rfl rfl),
   (fun lv st t x w => Ex_M (i := .aload_n 0) (n := 1) (by decide +kernel) rfl rfl rfl),
   (fun lv st t w => Ex_M (i := .aload_n 0) (n := 1) (by decide +kernel) rfl rfl rfl),
   (fun lv l b s0 w => Ex_callV (by decide +kernel : decode M_X4_readNumber.2.1 23 = .ok (.invokevirtual 81, 3)) rfl (by rfl : resM (mCn M_X4_readNumber) 81 = some (2, M_X4_ahead)) rfl (by rfl) (Nat.le_of_ble_eq_true rfl) (by decide +kernel) (sLv_lt (by decide +kernel))),
   (fun lv l st w => Ex_A (i := .bipush 48) (n := 2) (by decide +kernel) rfl rfl),
   (fun lv l st x y w => Ex_A (i := .isub) (n := 1) (by decide +kernel) rfl rfl),
   (fun lv l st x y w => Ex_A (i := .iadd) (n := 1) (by decide +kernel) rfl rfl),
   (fun lv l st x w => Ex_M (i := .istore_n 1) (n := 1) (by decide +kernel) rfl rfl rfl),
   (fun lv st t x w => Ex_M (i := .aload_n 0) (n := 1) (by decide +kernel) rfl rfl rfl),
   (fun lv st t w => Ex_M (i := .aload_n 0) (n := 1) (by decide +kernel) rfl rfl rfl),
   (fun lv l st x w => Ex_A (i := .dup) (n := 1) (by decide +kernel) rfl rfl),
   (fun lv l st a w => Ex_getf (by decide +kernel : decode M_X4_readNumber.2.1 33 = .ok (.getfield 29, 3)) rfl (by decide +kernel : resF (mCn M_X4_readNumber) 29 = some (4, 3, .int, false))),
   (fun lv l st w => Ex_A (i := .iconst 1) (n := 1) (by decide +kernel) rfl rfl),
   (fun lv l st x y w => Ex_A (i := .iadd) (n := 1) (by decide +kernel) rfl rfl),
   (fun lv l st a v w => Ex_putf (by decide +kernel : decode M_X4_readNumber.2.1 38 = .ok (.putfield 29, 3)) rfl (by decide +kernel : resF (mCn M_X4_readNumber) 29 = some (4, 3, .int, false)) (by decide +kernel)),
   (fun lv st t o0 o1 x w => Ex_iinc (by decide +kernel : decode M_X4_readNumber.2.1 41 = .ok (.iinc 2 1, 3)) rfl rfl (by decide) (by decide)),
   (fun lv l st w => Ex_goto (by decide +kernel : decode M_X4_readNumber.2.1 44 = .ok (.goto (-40), 3)) rfl),
   (fun lv st t x w => Ex_M (i := .aload_n 0) (n := 1) (by decide +kernel) rfl rfl rfl),
   (fun lv st t w => Ex_M (i := .aload_n 0) (n := 1) (by decide +kernel) rfl rfl rfl),
   (fun lv l st a w => Ex_getf (by decide +kernel : decode M_X4_readNumber.2.1 48 = .ok (.getfield 14, 3)) rfl (by decide +kernel : resF (mCn M_X4_readNumber) 14 = some (4, 0, (.object "CarpetLands$Row"), true))),
   (fun lv st t o0 x w => Ex_M (i := .iload_n 1) (n := 1) (by decide +kernel) rfl rfl rfl),
   (fun lv l b a0 w => Ex_callV (by decide +kernel : decode M_X4_readNumber.2.1 52 = .ok (.invokevirtual 87, 3)) rfl (by rfl : resM (mCn M_X4_readNumber) 87 = some (2, M_X6_add)) rfl (by rfl) (Nat.le_of_ble_eq_true rfl) (by decide +kernel) (sLv_lt (by decide +kernel))),
   (fun lv l st x w => Ex_A (i := .pop) (n := 1) (by decide +kernel) rfl rfl),
   (fun lv l w => Ex_R (i := .return_) (n := 1) (by decide +kernel) rfl rfl rfl rfl rfl)⟩
set_option maxRecDepth 20000 in
set_option maxHeartbeats 4000000 in
theorem R_X5_init : (∀ (lv : Nat) (st : List Value) (t : LX) (x : Nat) (w : AH), Ex M_X5_init lv 0 (some (.ref x) :: t) st w = Ex M_X5_init lv 1 (some (.ref x) :: t) (.ref x :: st) w)
  ∧ (∀ (lv : Nat) (st : List Value) (t : LX) (w : AH), Ex M_X5_init lv 0 (some (.null) :: t) st w = Ex M_X5_init lv 1 (some (.null) :: t) (.null :: st) w)
  ∧ (∀ (lv : Nat) (l : LX) (b : Nat) (w : AH), Ex M_X5_init lv 1 l (.ref b :: []) w = Ex M_X5_init lv 4 l [] w)
  ∧ (∀ (lv : Nat) (st : List Value) (t : LX) (x : Nat) (w : AH), Ex M_X5_init lv 4 (some (.ref x) :: t) st w = Ex M_X5_init lv 5 (some (.ref x) :: t) (.ref x :: st) w)
  ∧ (∀ (lv : Nat) (st : List Value) (t : LX) (w : AH), Ex M_X5_init lv 4 (some (.null) :: t) st w = Ex M_X5_init lv 5 (some (.null) :: t) (.null :: st) w)
  ∧ (∀ (lv : Nat) (l : LX) (st : List Value) (w : AH), Ex M_X5_init lv 5 l st w = Ex M_X5_init lv 6 l (.int 4 :: st) w)
  ∧ (∀ (lv : Nat) (l : LX) (st : List Value) (w : AH), Ex M_X5_init lv 6 l (.int 4 :: st) w = Ex M_X5_init lv 8 l (.ref w.1 :: st) (hn w (.inl (1, 4, .inr (.inl (fun _ => 0)))) 4))
  ∧ (∀ (lv : Nat) (l : LX) (st : List Value) (a : Nat) (v : Value) (w : AH), Ex M_X5_init lv 8 l (v :: .ref a :: st) w = if (pf (hg w a) 5 0 (.array .long) v).isSome = true then Ex M_X5_init lv 11 l st (hs w a (vE (pf (hg w a) 5 0 (.array .long) v))) else none)
  ∧ (∀ (lv : Nat) (st : List Value) (t : LX) (x : Nat) (w : AH), Ex M_X5_init lv 11 (some (.ref x) :: t) st w = Ex M_X5_init lv 12 (some (.ref x) :: t) (.ref x :: st) w)
  ∧ (∀ (lv : Nat) (st : List Value) (t : LX) (w : AH), Ex M_X5_init lv 11 (some (.null) :: t) st w = Ex M_X5_init lv 12 (some (.null) :: t) (.null :: st) w)
  ∧ (∀ (lv : Nat) (l : LX) (st : List Value) (w : AH), Ex M_X5_init lv 12 l st w = Ex M_X5_init lv 13 l (.int 4 :: st) w)
  ∧ (∀ (lv : Nat) (l : LX) (st : List Value) (w : AH), Ex M_X5_init lv 13 l (.int 4 :: st) w = Ex M_X5_init lv 15 l (.ref w.1 :: st) (hn w (.inl (1, 4, .inr (.inl (fun _ => 0)))) 4))
  ∧ (∀ (lv : Nat) (l : LX) (st : List Value) (a : Nat) (v : Value) (w : AH), Ex M_X5_init lv 15 l (v :: .ref a :: st) w = if (pf (hg w a) 5 1 (.array .long) v).isSome = true then Ex M_X5_init lv 18 l st (hs w a (vE (pf (hg w a) 5 1 (.array .long) v))) else none)
  ∧ (∀ (lv : Nat) (st : List Value) (t : LX) (x : Nat) (w : AH), Ex M_X5_init lv 18 (some (.ref x) :: t) st w = Ex M_X5_init lv 19 (some (.ref x) :: t) (.ref x :: st) w)
  ∧ (∀ (lv : Nat) (st : List Value) (t : LX) (w : AH), Ex M_X5_init lv 18 (some (.null) :: t) st w = Ex M_X5_init lv 19 (some (.null) :: t) (.null :: st) w)
  ∧ (∀ (lv : Nat) (l : LX) (st : List Value) (w : AH), Ex M_X5_init lv 19 l st w = Ex M_X5_init lv 20 l (.int 4 :: st) w)
  ∧ (∀ (lv : Nat) (l : LX) (st : List Value) (w : AH), Ex M_X5_init lv 20 l (.int 4 :: st) w = Ex M_X5_init lv 22 l (.ref w.1 :: st) (hn w (.inl (1, 4, .inr (.inl (fun _ => 0)))) 4))
  ∧ (∀ (lv : Nat) (l : LX) (st : List Value) (a : Nat) (v : Value) (w : AH), Ex M_X5_init lv 22 l (v :: .ref a :: st) w = if (pf (hg w a) 5 2 (.array .long) v).isSome = true then Ex M_X5_init lv 25 l st (hs w a (vE (pf (hg w a) 5 2 (.array .long) v))) else none)
  ∧ (∀ (lv : Nat) (l : LX) (w : AH), Ex M_X5_init lv 25 l [] w = some (none, w)) :=
  ⟨(fun lv st t x w => Ex_M (i := .aload_n 0) (n := 1) (by decide +kernel) rfl rfl rfl),
   (fun lv st t w => Ex_M (i := .aload_n 0) (n := 1) (by decide +kernel) rfl rfl rfl),
   (fun lv l b w => Ex_oinit (by decide +kernel : decode M_X5_init.2.1 1 = .ok (.invokespecial 3, 3)) rfl (by rfl : resM (mCn M_X5_init) 3 = some (6, M_X0_init)) (by rfl)),
   (fun lv st t x w => Ex_M (i := .aload_n 0) (n := 1) (by decide +kernel) rfl rfl rfl),
   (fun lv st t w => Ex_M (i := .aload_n 0) (n := 1) (by decide +kernel) rfl rfl rfl),
   (fun lv l st w => Ex_A (i := .iconst 4) (n := 1) (by decide +kernel) rfl rfl),
   (fun lv l st w => Ex_newa (by decide +kernel : decode M_X5_init.2.1 6 = .ok (.newarray .long, 2)) rfl (by decide) (by decide) rfl),
   (fun lv l st a v w => Ex_putf (by decide +kernel : decode M_X5_init.2.1 8 = .ok (.putfield 9, 3)) rfl (by decide +kernel : resF (mCn M_X5_init) 9 = some (5, 0, (.array .long), true)) (by decide +kernel)),
   (fun lv st t x w => Ex_M (i := .aload_n 0) (n := 1) (by decide +kernel) rfl rfl rfl),
   (fun lv st t w => Ex_M (i := .aload_n 0) (n := 1) (by decide +kernel) rfl rfl rfl),
   (fun lv l st w => Ex_A (i := .iconst 4) (n := 1) (by decide +kernel) rfl rfl),
   (fun lv l st w => Ex_newa (by decide +kernel : decode M_X5_init.2.1 13 = .ok (.newarray .long, 2)) rfl (by decide) (by decide) rfl),
   (fun lv l st a v w => Ex_putf (by decide +kernel : decode M_X5_init.2.1 15 = .ok (.putfield 15, 3)) rfl (by decide +kernel : resF (mCn M_X5_init) 15 = some (5, 1, (.array .long), true)) (by decide +kernel)),
   (fun lv st t x w => Ex_M (i := .aload_n 0) (n := 1) (by decide +kernel) rfl rfl rfl),
   (fun lv st t w => Ex_M (i := .aload_n 0) (n := 1) (by decide +kernel) rfl rfl rfl),
   (fun lv l st w => Ex_A (i := .iconst 4) (n := 1) (by decide +kernel) rfl rfl),
   (fun lv l st w => Ex_newa (by decide +kernel : decode M_X5_init.2.1 20 = .ok (.newarray .long, 2)) rfl (by decide) (by decide) rfl),
   (fun lv l st a v w => Ex_putf (by decide +kernel : decode M_X5_init.2.1 22 = .ok (.putfield 18, 3)) rfl (by decide +kernel : resF (mCn M_X5_init) 18 = some (5, 2, (.array .long), true)) (by decide +kernel)),
   (fun lv l w => Ex_R (i := .return_) (n := 1) (by decide +kernel) rfl rfl rfl rfl rfl)⟩
set_option maxRecDepth 20000 in
theorem H_X5_fewestSteps_28 : ∀ (lv : Nat) (st : List Value) (t : LX) (o0 o1 o2 o3 o4 : Option Value) (x : Int32) (w : AH), Ex M_X5_fewestSteps lv 28 (o0 :: o1 :: o2 :: o3 :: o4 :: some (.int x) :: t) st w = Ex M_X5_fewestSteps lv 30 (o0 :: o1 :: o2 :: o3 :: o4 :: some (.int x) :: t) (.int x :: st) w := fun lv st t o0 o1 o2 o3 o4 x w => Ex_M (i := .iload 5) (n := 2) (by decide +kernel) rfl rfl rfl
set_option maxRecDepth 20000 in
theorem H_X5_fewestSteps_75 : ∀ (lv : Nat) (st : List Value) (t : LX) (o0 o1 o2 o3 o4 : Option Value) (x : Int32) (w : AH), Ex M_X5_fewestSteps lv 75 (o0 :: o1 :: o2 :: o3 :: o4 :: some (.int x) :: t) st w = Ex M_X5_fewestSteps lv 77 (o0 :: o1 :: o2 :: o3 :: o4 :: some (.int x) :: t) (.int x :: st) w := fun lv st t o0 o1 o2 o3 o4 x w => Ex_M (i := .iload 5) (n := 2) (by decide +kernel) rfl rfl rfl
set_option maxRecDepth 20000 in
set_option maxHeartbeats 4000000 in
theorem R_X5_fewestSteps_p0 : (∀ (lv : Nat) (st : List Value) (t : LX) (o0 o1 o2 : Option Value) (x : Int64) (w : AH), Ex M_X5_fewestSteps lv 0 (o0 :: o1 :: o2 :: some (.long x) :: t) st w = Ex M_X5_fewestSteps lv 1 (o0 :: o1 :: o2 :: some (.long x) :: t) (.long x :: st) w)
  ∧ (∀ (lv : Nat) (st : List Value) (t : LX) (o0 : Option Value) (x : Int32) (w : AH), Ex M_X5_fewestSteps lv 1 (o0 :: some (.int x) :: t) st w = Ex M_X5_fewestSteps lv 2 (o0 :: some (.int x) :: t) (.int x :: st) w)
  ∧ (∀ (lv : Nat) (l : LX) (a0 : Int64) (a1 : Int32) (w : AH), Ex M_X5_fewestSteps lv 2 l (.int a1 :: .long a0 :: []) w = if (Call M_X7_has 60 [.long a0, .int a1] w).isSome = true then Ex M_X5_fewestSteps lv 5 l (pushR (cV (Call M_X7_has 60 [.long a0, .int a1] w)) []) (cW (Call M_X7_has 60 [.long a0, .int a1] w) w) else none)
  ∧ (∀ (lv : Nat) (l : LX) (st : List Value) (x : Int32) (w : AH), Ex M_X5_fewestSteps lv 5 l (.int x :: st) w = if x = 0 then Ex M_X5_fewestSteps lv 16 l st w else Ex M_X5_fewestSteps lv 8 l st w)
  ∧ (∀ (lv : Nat) (st : List Value) (t : LX) (o0 o1 o2 : Option Value) (x : Int64) (w : AH), Ex M_X5_fewestSteps lv 8 (o0 :: o1 :: o2 :: some (.long x) :: t) st w = Ex M_X5_fewestSteps lv 9 (o0 :: o1 :: o2 :: some (.long x) :: t) (.long x :: st) w)
  ∧ (∀ (lv : Nat) (st : List Value) (t : LX) (o0 o1 : Option Value) (x : Int32) (w : AH), Ex M_X5_fewestSteps lv 9 (o0 :: o1 :: some (.int x) :: t) st w = Ex M_X5_fewestSteps lv 10 (o0 :: o1 :: some (.int x) :: t) (.int x :: st) w)
  ∧ (∀ (lv : Nat) (l : LX) (a0 : Int64) (a1 : Int32) (w : AH), Ex M_X5_fewestSteps lv 10 l (.int a1 :: .long a0 :: []) w = if (Call M_X7_has 60 [.long a0, .int a1] w).isSome = true then Ex M_X5_fewestSteps lv 13 l (pushR (cV (Call M_X7_has 60 [.long a0, .int a1] w)) []) (cW (Call M_X7_has 60 [.long a0, .int a1] w) w) else none)
  ∧ (∀ (lv : Nat) (l : LX) (st : List Value) (x : Int32) (w : AH), Ex M_X5_fewestSteps lv 13 l (.int x :: st) w = if ¬ x = 0 then Ex M_X5_fewestSteps lv 18 l st w else Ex M_X5_fewestSteps lv 16 l st w)
  ∧ (∀ (lv : Nat) (l : LX) (st : List Value) (w : AH), Ex M_X5_fewestSteps lv 16 l st w = Ex M_X5_fewestSteps lv 17 l (.int (-1) :: st) w)
  ∧ (∀ (lv : Nat) (l : LX) (x : Int32) (w : AH), Ex M_X5_fewestSteps lv 17 l [.int x] w = some (some (.int x), w))
  ∧ (∀ (lv : Nat) (st : List Value) (t : LX) (o0 : Option Value) (x : Int32) (w : AH), Ex M_X5_fewestSteps lv 18 (o0 :: some (.int x) :: t) st w = Ex M_X5_fewestSteps lv 19 (o0 :: some (.int x) :: t) (.int x :: st) w)
  ∧ (∀ (lv : Nat) (st : List Value) (t : LX) (o0 o1 : Option Value) (x : Int32) (w : AH), Ex M_X5_fewestSteps lv 19 (o0 :: o1 :: some (.int x) :: t) st w = Ex M_X5_fewestSteps lv 20 (o0 :: o1 :: some (.int x) :: t) (.int x :: st) w)
  ∧ (∀ (lv : Nat) (l : LX) (st : List Value) (x y : Int32) (w : AH), Ex M_X5_fewestSteps lv 20 l (.int y :: .int x :: st) w = if ¬ x = y then Ex M_X5_fewestSteps lv 25 l st w else Ex M_X5_fewestSteps lv 23 l st w)
  ∧ (∀ (lv : Nat) (l : LX) (st : List Value) (w : AH), Ex M_X5_fewestSteps lv 23 l st w = Ex M_X5_fewestSteps lv 24 l (.int 0 :: st) w)
  ∧ (∀ (lv : Nat) (l : LX) (x : Int32) (w : AH), Ex M_X5_fewestSteps lv 24 l [.int x] w = some (some (.int x), w))
  ∧ (∀ (lv : Nat) (l : LX) (st : List Value) (w : AH), Ex M_X5_fewestSteps lv 25 l st w = Ex M_X5_fewestSteps lv 26 l (.int 0 :: st) w)
  ∧ (∀ (lv : Nat) (l : LX) (st : List Value) (x : Int32) (w : AH), Ex M_X5_fewestSteps lv 26 l (.int x :: st) w = Ex M_X5_fewestSteps lv 28 (ls1 l 5 (.int x)) st w)
  ∧ (∀ (lv : Nat) (l : LX) (st : List Value) (w : AH), Ex M_X5_fewestSteps lv 30 l st w = Ex M_X5_fewestSteps lv 31 l (.int 4 :: st) w)
  ∧ (∀ (lv : Nat) (l : LX) (st : List Value) (x y : Int32) (w : AH), Ex M_X5_fewestSteps lv 31 l (.int y :: .int x :: st) w = if y ≤ x then Ex M_X5_fewestSteps lv 72 l st w else Ex M_X5_fewestSteps lv 34 l st w)
  ∧ (∀ (lv : Nat) (st : List Value) (t : LX) (x : Nat) (w : AH), Ex M_X5_fewestSteps lv 34 (some (.ref x) :: t) st w = Ex M_X5_fewestSteps lv 35 (some (.ref x) :: t) (.ref x :: st) w)
  ∧ (∀ (lv : Nat) (st : List Value) (t : LX) (w : AH), Ex M_X5_fewestSteps lv 34 (some (.null) :: t) st w = Ex M_X5_fewestSteps lv 35 (some (.null) :: t) (.null :: st) w)
  ∧ (∀ (lv : Nat) (l : LX) (st : List Value) (a : Nat) (w : AH), Ex M_X5_fewestSteps lv 35 l (.ref a :: st) w = if (gf (hg w a) 5 1).isSome = true then Ex M_X5_fewestSteps lv 38 l (vV (gf (hg w a) 5 1) :: st) w else none)
  ∧ (∀ (lv : Nat) (st : List Value) (t : LX) (o0 o1 o2 o3 o4 : Option Value) (x : Int32) (w : AH), Ex M_X5_fewestSteps lv 38 (o0 :: o1 :: o2 :: o3 :: o4 :: some (.int x) :: t) st w = Ex M_X5_fewestSteps lv 40 (o0 :: o1 :: o2 :: o3 :: o4 :: some (.int x) :: t) (.int x :: st) w)
  ∧ (∀ (lv : Nat) (st : List Value) (t : LX) (o0 : Option Value) (x : Int32) (w : AH), Ex M_X5_fewestSteps lv 40 (o0 :: some (.int x) :: t) st w = Ex M_X5_fewestSteps lv 41 (o0 :: some (.int x) :: t) (.int x :: st) w)
  ∧ (∀ (lv : Nat) (l : LX) (a0 : Int32) (s0 : Int32) (s1 : Nat) (w : AH), Ex M_X5_fewestSteps lv 41 l (.int a0 :: [.int s0, .ref s1]) w = if (Call M_X7_of 60 [.int a0] w).isSome = true then Ex M_X5_fewestSteps lv 44 l (pushR (cV (Call M_X7_of 60 [.int a0] w)) [.int s0, .ref s1]) (cW (Call M_X7_of 60 [.int a0] w) w) else none)
  ∧ (∀ (lv : Nat) (st : List Value) (t : LX) (o0 o1 o2 o3 o4 : Option Value) (x : Int32) (w : AH), Ex M_X5_fewestSteps lv 44 (o0 :: o1 :: o2 :: o3 :: o4 :: some (.int x) :: t) st w = Ex M_X5_fewestSteps lv 46 (o0 :: o1 :: o2 :: o3 :: o4 :: some (.int x) :: t) (.int x :: st) w)
  ∧ (∀ (lv : Nat) (l : LX) (a0 : Int64) (a1 : Int32) (s0 : Int32) (s1 : Nat) (w : AH), Ex M_X5_fewestSteps lv 46 l (.int a1 :: .long a0 :: [.int s0, .ref s1]) w = if (Call M_X7_stepped 60 [.long a0, .int a1] w).isSome = true then Ex M_X5_fewestSteps lv 49 l (pushR (cV (Call M_X7_stepped 60 [.long a0, .int a1] w)) [.int s0, .ref s1]) (cW (Call M_X7_stepped 60 [.long a0, .int a1] w) w) else none)
  ∧ (∀ (lv : Nat) (st : List Value) (t : LX) (o0 o1 o2 : Option Value) (x : Int64) (w : AH), Ex M_X5_fewestSteps lv 49 (o0 :: o1 :: o2 :: some (.long x) :: t) st w = Ex M_X5_fewestSteps lv 50 (o0 :: o1 :: o2 :: some (.long x) :: t) (.long x :: st) w)
  ∧ (∀ (lv : Nat) (l : LX) (st : List Value) (x y : Int64) (w : AH), Ex M_X5_fewestSteps lv 50 l (.long y :: .long x :: st) w = Ex M_X5_fewestSteps lv 51 l (.long (x &&& y) :: st) w)
  ∧ (∀ (lv : Nat) (l : LX) (st : List Value) (a : Nat) (i : Int32) (x : Int64) (w : AH), Ex M_X5_fewestSteps lv 51 l (.long x :: .int i :: .ref a :: st) w = if (uJ (hg w a) i x).isSome = true then Ex M_X5_fewestSteps lv 52 l st (hs w a (vE (uJ (hg w a) i x))) else none)
  ∧ (∀ (lv : Nat) (st : List Value) (t : LX) (x : Nat) (w : AH), Ex M_X5_fewestSteps lv 52 (some (.ref x) :: t) st w = Ex M_X5_fewestSteps lv 53 (some (.ref x) :: t) (.ref x :: st) w)
  ∧ (∀ (lv : Nat) (st : List Value) (t : LX) (w : AH), Ex M_X5_fewestSteps lv 52 (some (.null) :: t) st w = Ex M_X5_fewestSteps lv 53 (some (.null) :: t) (.null :: st) w)
  ∧ (∀ (lv : Nat) (l : LX) (st : List Value) (a : Nat) (w : AH), Ex M_X5_fewestSteps lv 53 l (.ref a :: st) w = if (gf (hg w a) 5 0).isSome = true then Ex M_X5_fewestSteps lv 56 l (vV (gf (hg w a) 5 0) :: st) w else none)
  ∧ (∀ (lv : Nat) (st : List Value) (t : LX) (o0 o1 o2 o3 o4 : Option Value) (x : Int32) (w : AH), Ex M_X5_fewestSteps lv 56 (o0 :: o1 :: o2 :: o3 :: o4 :: some (.int x) :: t) st w = Ex M_X5_fewestSteps lv 58 (o0 :: o1 :: o2 :: o3 :: o4 :: some (.int x) :: t) (.int x :: st) w)
  ∧ (∀ (lv : Nat) (st : List Value) (t : LX) (x : Nat) (w : AH), Ex M_X5_fewestSteps lv 58 (some (.ref x) :: t) st w = Ex M_X5_fewestSteps lv 59 (some (.ref x) :: t) (.ref x :: st) w)
  ∧ (∀ (lv : Nat) (st : List Value) (t : LX) (w : AH), Ex M_X5_fewestSteps lv 58 (some (.null) :: t) st w = Ex M_X5_fewestSteps lv 59 (some (.null) :: t) (.null :: st) w)
  ∧ (∀ (lv : Nat) (l : LX) (st : List Value) (a : Nat) (w : AH), Ex M_X5_fewestSteps lv 59 l (.ref a :: st) w = if (gf (hg w a) 5 1).isSome = true then Ex M_X5_fewestSteps lv 62 l (vV (gf (hg w a) 5 1) :: st) w else none)
  ∧ (∀ (lv : Nat) (st : List Value) (t : LX) (o0 o1 o2 o3 o4 : Option Value) (x : Int32) (w : AH), Ex M_X5_fewestSteps lv 62 (o0 :: o1 :: o2 :: o3 :: o4 :: some (.int x) :: t) st w = Ex M_X5_fewestSteps lv 64 (o0 :: o1 :: o2 :: o3 :: o4 :: some (.int x) :: t) (.int x :: st) w)
  ∧ (∀ (lv : Nat) (l : LX) (st : List Value) (a : Nat) (i : Int32) (w : AH), Ex M_X5_fewestSteps lv 64 l (.int i :: .ref a :: st) w = if (aJ (hg w a) i).isSome = true then Ex M_X5_fewestSteps lv 65 l (.long (vJ (aJ (hg w a) i)) :: st) w else none)
  ∧ (∀ (lv : Nat) (l : LX) (st : List Value) (a : Nat) (i : Int32) (x : Int64) (w : AH), Ex M_X5_fewestSteps lv 65 l (.long x :: .int i :: .ref a :: st) w = if (uJ (hg w a) i x).isSome = true then Ex M_X5_fewestSteps lv 66 l st (hs w a (vE (uJ (hg w a) i x))) else none)
  ∧ (∀ (lv : Nat) (st : List Value) (t : LX) (o0 o1 o2 o3 o4 : Option Value) (x : Int32) (w : AH), Ex M_X5_fewestSteps lv 66 (o0 :: o1 :: o2 :: o3 :: o4 :: some (.int x) :: t) st w = Ex M_X5_fewestSteps lv 69 (ls1 (o0 :: o1 :: o2 :: o3 :: o4 :: some (.int x) :: t) 5 (.int (x + 1))) st w)
  ∧ (∀ (lv : Nat) (l : LX) (st : List Value) (w : AH), Ex M_X5_fewestSteps lv 69 l st w = Ex M_X5_fewestSteps lv 28 l st w)
  ∧ (∀ (lv : Nat) (l : LX) (st : List Value) (w : AH), Ex M_X5_fewestSteps lv 72 l st w = Ex M_X5_fewestSteps lv 73 l (.int 1 :: st) w)
  ∧ (∀ (lv : Nat) (l : LX) (st : List Value) (x : Int32) (w : AH), Ex M_X5_fewestSteps lv 73 l (.int x :: st) w = Ex M_X5_fewestSteps lv 75 (ls1 l 5 (.int x)) st w)
  ∧ (∀ (lv : Nat) (l : LX) (st : List Value) (w : AH), Ex M_X5_fewestSteps lv 77 l st w = Ex M_X5_fewestSteps lv 80 l (.int 144 :: st) w)
  ∧ (∀ (lv : Nat) (l : LX) (st : List Value) (x y : Int32) (w : AH), Ex M_X5_fewestSteps lv 80 l (.int y :: .int x :: st) w = if y < x then Ex M_X5_fewestSteps lv 131 l st w else Ex M_X5_fewestSteps lv 83 l st w)
  ∧ (∀ (lv : Nat) (st : List Value) (t : LX) (x : Nat) (w : AH), Ex M_X5_fewestSteps lv 83 (some (.ref x) :: t) st w = Ex M_X5_fewestSteps lv 84 (some (.ref x) :: t) (.ref x :: st) w)
  ∧ (∀ (lv : Nat) (st : List Value) (t : LX) (w : AH), Ex M_X5_fewestSteps lv 83 (some (.null) :: t) st w = Ex M_X5_fewestSteps lv 84 (some (.null) :: t) (.null :: st) w)
  ∧ (∀ (lv : Nat) (l : LX) (st : List Value) (a : Nat) (w : AH), Ex M_X5_fewestSteps lv 84 l (.ref a :: st) w = if (gf (hg w a) 5 1).isSome = true then Ex M_X5_fewestSteps lv 87 l (vV (gf (hg w a) 5 1) :: st) w else none)
  ∧ (∀ (lv : Nat) (l : LX) (st : List Value) (w : AH), Ex M_X5_fewestSteps lv 87 l st w = Ex M_X5_fewestSteps lv 88 l (.int 0 :: st) w)
  ∧ (∀ (lv : Nat) (l : LX) (st : List Value) (a : Nat) (i : Int32) (w : AH), Ex M_X5_fewestSteps lv 88 l (.int i :: .ref a :: st) w = if (aJ (hg w a) i).isSome = true then Ex M_X5_fewestSteps lv 89 l (.long (vJ (aJ (hg w a) i)) :: st) w else none)
  ∧ (∀ (lv : Nat) (st : List Value) (t : LX) (x : Nat) (w : AH), Ex M_X5_fewestSteps lv 89 (some (.ref x) :: t) st w = Ex M_X5_fewestSteps lv 90 (some (.ref x) :: t) (.ref x :: st) w)
  ∧ (∀ (lv : Nat) (st : List Value) (t : LX) (w : AH), Ex M_X5_fewestSteps lv 89 (some (.null) :: t) st w = Ex M_X5_fewestSteps lv 90 (some (.null) :: t) (.null :: st) w)
  ∧ (∀ (lv : Nat) (l : LX) (st : List Value) (a : Nat) (w : AH), Ex M_X5_fewestSteps lv 90 l (.ref a :: st) w = if (gf (hg w a) 5 1).isSome = true then Ex M_X5_fewestSteps lv 93 l (vV (gf (hg w a) 5 1) :: st) w else none)
  ∧ (∀ (lv : Nat) (l : LX) (st : List Value) (w : AH), Ex M_X5_fewestSteps lv 93 l st w = Ex M_X5_fewestSteps lv 94 l (.int 1 :: st) w)
  ∧ (∀ (lv : Nat) (l : LX) (st : List Value) (a : Nat) (i : Int32) (w : AH), Ex M_X5_fewestSteps lv 94 l (.int i :: .ref a :: st) w = if (aJ (hg w a) i).isSome = true then Ex M_X5_fewestSteps lv 95 l (.long (vJ (aJ (hg w a) i)) :: st) w else none)
  ∧ (∀ (lv : Nat) (l : LX) (st : List Value) (x y : Int64) (w : AH), Ex M_X5_fewestSteps lv 95 l (.long y :: .long x :: st) w = Ex M_X5_fewestSteps lv 96 l (.long (x ||| y) :: st) w)
  ∧ (∀ (lv : Nat) (st : List Value) (t : LX) (x : Nat) (w : AH), Ex M_X5_fewestSteps lv 96 (some (.ref x) :: t) st w = Ex M_X5_fewestSteps lv 97 (some (.ref x) :: t) (.ref x :: st) w)
  ∧ (∀ (lv : Nat) (st : List Value) (t : LX) (w : AH), Ex M_X5_fewestSteps lv 96 (some (.null) :: t) st w = Ex M_X5_fewestSteps lv 97 (some (.null) :: t) (.null :: st) w)
  ∧ (∀ (lv : Nat) (l : LX) (st : List Value) (a : Nat) (w : AH), Ex M_X5_fewestSteps lv 97 l (.ref a :: st) w = if (gf (hg w a) 5 1).isSome = true then Ex M_X5_fewestSteps lv 100 l (vV (gf (hg w a) 5 1) :: st) w else none) :=
  ⟨(fun lv st t o0 o1 o2 x w => Ex_M (i := .lload_n 3) (n := 1) (by decide +kernel) rfl rfl rfl),
   (fun lv st t o0 x w => Ex_M (i := .iload_n 1) (n := 1) (by decide +kernel) rfl rfl rfl),
   (fun lv l a0 a1 w => Ex_callS (by decide +kernel : decode M_X5_fewestSteps.2.1 2 = .ok (.invokestatic 21, 3)) rfl (by rfl : resM (mCn M_X5_fewestSteps) 21 = some (0, M_X7_has)) (by decide) rfl (by rfl) (Nat.le_of_ble_eq_true rfl) (sLv_lt (by decide +kernel))),
   (fun lv l st x w => Ex_if_eq (by decide +kernel : decode M_X5_fewestSteps.2.1 5 = .ok (.ifCond .eq 11, 3)) rfl rfl),
   (fun lv st t o0 o1 o2 x w => Ex_M (i := .lload_n 3) (n := 1) (by decide +kernel) rfl rfl rfl),
   (fun lv st t o0 o1 x w => Ex_M (i := .iload_n 2) (n := 1) (by decide +kernel) rfl rfl rfl),
   (fun lv l a0 a1 w => Ex_callS (by decide +kernel : decode M_X5_fewestSteps.2.1 10 = .ok (.invokestatic 21, 3)) rfl (by rfl : resM (mCn M_X5_fewestSteps) 21 = some (0, M_X7_has)) (by decide) rfl (by rfl) (Nat.le_of_ble_eq_true rfl) (sLv_lt (by decide +kernel))),
   (fun lv l st x w => Ex_if_ne (by decide +kernel : decode M_X5_fewestSteps.2.1 13 = .ok (.ifCond .ne 5, 3)) rfl rfl),
   (fun lv l st w => Ex_A (i := .iconst (-1)) (n := 1) (by decide +kernel) rfl rfl),
   (fun lv l x w => Ex_R (i := .ireturn) (n := 1) (by decide +kernel) rfl rfl rfl rfl rfl),
   (fun lv st t o0 x w => Ex_M (i := .iload_n 1) (n := 1) (by decide +kernel) rfl rfl rfl),
   (fun lv st t o0 o1 x w => Ex_M (i := .iload_n 2) (n := 1) (by decide +kernel) rfl rfl rfl),
   (fun lv l st x y w => Ex_icmp_ne (by decide +kernel : decode M_X5_fewestSteps.2.1 20 = .ok (.if_icmp .ne 5, 3)) rfl rfl),
   (fun lv l st w => Ex_A (i := .iconst 0) (n := 1) (by decide +kernel) rfl rfl),
   (fun lv l x w => Ex_R (i := .ireturn) (n := 1) (by decide +kernel) rfl rfl rfl rfl rfl),
   (fun lv l st w => Ex_A (i := .iconst 0) (n := 1) (by decide +kernel) rfl rfl),
   (fun lv l st x w => Ex_M (i := .istore 5) (n := 2) (by decide +kernel) rfl rfl rfl),
   (fun lv l st w => Ex_A (i := .iconst 4) (n := 1) (by decide +kernel) rfl rfl),
   (fun lv l st x y w => Ex_icmp_ge (by decide +kernel : decode M_X5_fewestSteps.2.1 31 = .ok (.if_icmp .ge 41, 3)) rfl rfl),
   (fun lv st t x w => Ex_M (i := .aload_n 0) (n := 1) (by decide +kernel) rfl rfl rfl),
   (fun lv st t w => Ex_M (i := .aload_n 0) (n := 1) (by decide +kernel) rfl rfl rfl),
   (fun lv l st a w => Ex_getf (by decide +kernel : decode M_X5_fewestSteps.2.1 35 = .ok (.getfield 15, 3)) rfl (by decide +kernel : resF (mCn M_X5_fewestSteps) 15 = some (5, 1, (.array .long), true))),
   (fun lv st t o0 o1 o2 o3 o4 x w => Ex_M (i := .iload 5) (n := 2) (by decide +kernel) rfl rfl rfl),
   (fun lv st t o0 x w => Ex_M (i := .iload_n 1) (n := 1) (by decide +kernel) rfl rfl rfl),
   (fun lv l a0 s0 s1 w => Ex_callS (by decide +kernel : decode M_X5_fewestSteps.2.1 41 = .ok (.invokestatic 27, 3)) rfl (by rfl : resM (mCn M_X5_fewestSteps) 27 = some (0, M_X7_of)) (by decide) rfl (by rfl) (Nat.le_of_ble_eq_true rfl) (sLv_lt (by decide +kernel))),
   (fun lv st t o0 o1 o2 o3 o4 x w => Ex_M (i := .iload 5) (n := 2) (by decide +kernel) rfl rfl rfl),
   (fun lv l a0 a1 s0 s1 w => Ex_callS (by decide +kernel : decode M_X5_fewestSteps.2.1 46 = .ok (.invokestatic 31, 3)) rfl (by rfl : resM (mCn M_X5_fewestSteps) 31 = some (0, M_X7_stepped)) (by decide) rfl (by rfl) (Nat.le_of_ble_eq_true rfl) (sLv_lt (by decide +kernel))),
   (fun lv st t o0 o1 o2 x w => Ex_M (i := .lload_n 3) (n := 1) (by decide +kernel) rfl rfl rfl),
   (fun lv l st x y w => Ex_A (i := .land) (n := 1) (by decide +kernel) rfl rfl),
   (fun lv l st a i x w => Ex_las (by decide +kernel : decode M_X5_fewestSteps.2.1 51 = .ok (.lastore, 1)) rfl),
   (fun lv st t x w => Ex_M (i := .aload_n 0) (n := 1) (by decide +kernel) rfl rfl rfl),
   (fun lv st t w => Ex_M (i := .aload_n 0) (n := 1) (by decide +kernel) rfl rfl rfl),
   (fun lv l st a w => Ex_getf (by decide +kernel : decode M_X5_fewestSteps.2.1 53 = .ok (.getfield 9, 3)) rfl (by decide +kernel : resF (mCn M_X5_fewestSteps) 9 = some (5, 0, (.array .long), true))),
   (fun lv st t o0 o1 o2 o3 o4 x w => Ex_M (i := .iload 5) (n := 2) (by decide +kernel) rfl rfl rfl),
   (fun lv st t x w => Ex_M (i := .aload_n 0) (n := 1) (by decide +kernel) rfl rfl rfl),
   (fun lv st t w => Ex_M (i := .aload_n 0) (n := 1) (by decide +kernel) rfl rfl rfl),
   (fun lv l st a w => Ex_getf (by decide +kernel : decode M_X5_fewestSteps.2.1 59 = .ok (.getfield 15, 3)) rfl (by decide +kernel : resF (mCn M_X5_fewestSteps) 15 = some (5, 1, (.array .long), true))),
   (fun lv st t o0 o1 o2 o3 o4 x w => Ex_M (i := .iload 5) (n := 2) (by decide +kernel) rfl rfl rfl),
   (fun lv l st a i w => Ex_lal (by decide +kernel : decode M_X5_fewestSteps.2.1 64 = .ok (.laload, 1)) rfl),
   (fun lv l st a i x w => Ex_las (by decide +kernel : decode M_X5_fewestSteps.2.1 65 = .ok (.lastore, 1)) rfl),
   (fun lv st t o0 o1 o2 o3 o4 x w => Ex_iinc (by decide +kernel : decode M_X5_fewestSteps.2.1 66 = .ok (.iinc 5 1, 3)) rfl rfl (by decide) (by decide)),
   (fun lv l st w => Ex_goto (by decide +kernel : decode M_X5_fewestSteps.2.1 69 = .ok (.goto (-41), 3)) rfl),
   (fun lv l st w => Ex_A (i := .iconst 1) (n := 1) (by decide +kernel) rfl rfl),
   (fun lv l st x w => Ex_M (i := .istore 5) (n := 2) (by decide +kernel) rfl rfl rfl),
   (fun lv l st w => Ex_A (i := .sipush 144) (n := 3) (by decide +kernel) rfl rfl),
   (fun lv l st x y w => Ex_icmp_gt (by decide +kernel : decode M_X5_fewestSteps.2.1 80 = .ok (.if_icmp .gt 51, 3)) rfl rfl),
   (fun lv st t x w => Ex_M (i := .aload_n 0) (n := 1) (by decide +kernel) rfl rfl rfl),
   (fun lv st t w => Ex_M (i := .aload_n 0) (n := 1) (by decide +kernel) rfl rfl rfl),
   (fun lv l st a w => Ex_getf (by decide +kernel : decode M_X5_fewestSteps.2.1 84 = .ok (.getfield 15, 3)) rfl (by decide +kernel : resF (mCn M_X5_fewestSteps) 15 = some (5, 1, (.array .long), true))),
   (fun lv l st w => Ex_A (i := .iconst 0) (n := 1) (by decide +kernel) rfl rfl),
   (fun lv l st a i w => Ex_lal (by decide +kernel : decode M_X5_fewestSteps.2.1 88 = .ok (.laload, 1)) rfl),
   (fun lv st t x w => Ex_M (i := .aload_n 0) (n := 1) (by decide +kernel) rfl rfl rfl),
   (fun lv st t w => Ex_M (i := .aload_n 0) (n := 1) (by decide +kernel) rfl rfl rfl),
   (fun lv l st a w => Ex_getf (by decide +kernel : decode M_X5_fewestSteps.2.1 90 = .ok (.getfield 15, 3)) rfl (by decide +kernel : resF (mCn M_X5_fewestSteps) 15 = some (5, 1, (.array .long), true))),
   (fun lv l st w => Ex_A (i := .iconst 1) (n := 1) (by decide +kernel) rfl rfl),
   (fun lv l st a i w => Ex_lal (by decide +kernel : decode M_X5_fewestSteps.2.1 94 = .ok (.laload, 1)) rfl),
   (fun lv l st x y w => Ex_A (i := .lor) (n := 1) (by decide +kernel) rfl rfl),
   (fun lv st t x w => Ex_M (i := .aload_n 0) (n := 1) (by decide +kernel) rfl rfl rfl),
   (fun lv st t w => Ex_M (i := .aload_n 0) (n := 1) (by decide +kernel) rfl rfl rfl),
   (fun lv l st a w => Ex_getf (by decide +kernel : decode M_X5_fewestSteps.2.1 97 = .ok (.getfield 15, 3)) rfl (by decide +kernel : resF (mCn M_X5_fewestSteps) 15 = some (5, 1, (.array .long), true)))⟩
set_option maxRecDepth 20000 in
set_option maxHeartbeats 4000000 in
theorem R_X5_fewestSteps_p1 : (∀ (lv : Nat) (l : LX) (st : List Value) (w : AH), Ex M_X5_fewestSteps lv 100 l st w = Ex M_X5_fewestSteps lv 101 l (.int 2 :: st) w)
  ∧ (∀ (lv : Nat) (l : LX) (st : List Value) (a : Nat) (i : Int32) (w : AH), Ex M_X5_fewestSteps lv 101 l (.int i :: .ref a :: st) w = if (aJ (hg w a) i).isSome = true then Ex M_X5_fewestSteps lv 102 l (.long (vJ (aJ (hg w a) i)) :: st) w else none)
  ∧ (∀ (lv : Nat) (l : LX) (st : List Value) (x y : Int64) (w : AH), Ex M_X5_fewestSteps lv 102 l (.long y :: .long x :: st) w = Ex M_X5_fewestSteps lv 103 l (.long (x ||| y) :: st) w)
  ∧ (∀ (lv : Nat) (st : List Value) (t : LX) (x : Nat) (w : AH), Ex M_X5_fewestSteps lv 103 (some (.ref x) :: t) st w = Ex M_X5_fewestSteps lv 104 (some (.ref x) :: t) (.ref x :: st) w)
  ∧ (∀ (lv : Nat) (st : List Value) (t : LX) (w : AH), Ex M_X5_fewestSteps lv 103 (some (.null) :: t) st w = Ex M_X5_fewestSteps lv 104 (some (.null) :: t) (.null :: st) w)
  ∧ (∀ (lv : Nat) (l : LX) (st : List Value) (a : Nat) (w : AH), Ex M_X5_fewestSteps lv 104 l (.ref a :: st) w = if (gf (hg w a) 5 1).isSome = true then Ex M_X5_fewestSteps lv 107 l (vV (gf (hg w a) 5 1) :: st) w else none)
  ∧ (∀ (lv : Nat) (l : LX) (st : List Value) (w : AH), Ex M_X5_fewestSteps lv 107 l st w = Ex M_X5_fewestSteps lv 108 l (.int 3 :: st) w)
  ∧ (∀ (lv : Nat) (l : LX) (st : List Value) (a : Nat) (i : Int32) (w : AH), Ex M_X5_fewestSteps lv 108 l (.int i :: .ref a :: st) w = if (aJ (hg w a) i).isSome = true then Ex M_X5_fewestSteps lv 109 l (.long (vJ (aJ (hg w a) i)) :: st) w else none)
  ∧ (∀ (lv : Nat) (l : LX) (st : List Value) (x y : Int64) (w : AH), Ex M_X5_fewestSteps lv 109 l (.long y :: .long x :: st) w = Ex M_X5_fewestSteps lv 110 l (.long (x ||| y) :: st) w)
  ∧ (∀ (lv : Nat) (st : List Value) (t : LX) (o0 o1 : Option Value) (x : Int32) (w : AH), Ex M_X5_fewestSteps lv 110 (o0 :: o1 :: some (.int x) :: t) st w = Ex M_X5_fewestSteps lv 111 (o0 :: o1 :: some (.int x) :: t) (.int x :: st) w)
  ∧ (∀ (lv : Nat) (l : LX) (a0 : Int64) (a1 : Int32) (w : AH), Ex M_X5_fewestSteps lv 111 l (.int a1 :: .long a0 :: []) w = if (Call M_X7_has 60 [.long a0, .int a1] w).isSome = true then Ex M_X5_fewestSteps lv 114 l (pushR (cV (Call M_X7_has 60 [.long a0, .int a1] w)) []) (cW (Call M_X7_has 60 [.long a0, .int a1] w) w) else none)
  ∧ (∀ (lv : Nat) (l : LX) (st : List Value) (x : Int32) (w : AH), Ex M_X5_fewestSteps lv 114 l (.int x :: st) w = if x = 0 then Ex M_X5_fewestSteps lv 120 l st w else Ex M_X5_fewestSteps lv 117 l st w)
  ∧ (∀ (lv : Nat) (st : List Value) (t : LX) (o0 o1 o2 o3 o4 : Option Value) (x : Int32) (w : AH), Ex M_X5_fewestSteps lv 117 (o0 :: o1 :: o2 :: o3 :: o4 :: some (.int x) :: t) st w = Ex M_X5_fewestSteps lv 119 (o0 :: o1 :: o2 :: o3 :: o4 :: some (.int x) :: t) (.int x :: st) w)
  ∧ (∀ (lv : Nat) (l : LX) (x : Int32) (w : AH), Ex M_X5_fewestSteps lv 119 l [.int x] w = some (some (.int x), w))
  ∧ (∀ (lv : Nat) (st : List Value) (t : LX) (x : Nat) (w : AH), Ex M_X5_fewestSteps lv 120 (some (.ref x) :: t) st w = Ex M_X5_fewestSteps lv 121 (some (.ref x) :: t) (.ref x :: st) w)
  ∧ (∀ (lv : Nat) (st : List Value) (t : LX) (w : AH), Ex M_X5_fewestSteps lv 120 (some (.null) :: t) st w = Ex M_X5_fewestSteps lv 121 (some (.null) :: t) (.null :: st) w)
  ∧ (∀ (lv : Nat) (st : List Value) (t : LX) (o0 o1 o2 : Option Value) (x : Int64) (w : AH), Ex M_X5_fewestSteps lv 121 (o0 :: o1 :: o2 :: some (.long x) :: t) st w = Ex M_X5_fewestSteps lv 122 (o0 :: o1 :: o2 :: some (.long x) :: t) (.long x :: st) w)
  ∧ (∀ (lv : Nat) (l : LX) (b : Nat) (a0 : Int64) (w : AH), Ex M_X5_fewestSteps lv 122 l (.long a0 :: .ref b :: []) w = if clK (hg w b) = 5 then (if (Call M_X5_goOn 60 [.ref b, .long a0] w).isSome = true then Ex M_X5_fewestSteps lv 125 l (pushR (cV (Call M_X5_goOn 60 [.ref b, .long a0] w)) []) (cW (Call M_X5_goOn 60 [.ref b, .long a0] w) w) else none) else none)
  ∧ (∀ (lv : Nat) (st : List Value) (t : LX) (o0 o1 o2 o3 o4 : Option Value) (x : Int32) (w : AH), Ex M_X5_fewestSteps lv 125 (o0 :: o1 :: o2 :: o3 :: o4 :: some (.int x) :: t) st w = Ex M_X5_fewestSteps lv 128 (ls1 (o0 :: o1 :: o2 :: o3 :: o4 :: some (.int x) :: t) 5 (.int (x + 1))) st w)
  ∧ (∀ (lv : Nat) (l : LX) (st : List Value) (w : AH), Ex M_X5_fewestSteps lv 128 l st w = Ex M_X5_fewestSteps lv 75 l st w)
  ∧ (∀ (lv : Nat) (l : LX) (st : List Value) (w : AH), Ex M_X5_fewestSteps lv 131 l st w = Ex M_X5_fewestSteps lv 132 l (.int (-1) :: st) w)
  ∧ (∀ (lv : Nat) (l : LX) (x : Int32) (w : AH), Ex M_X5_fewestSteps lv 132 l [.int x] w = some (some (.int x), w)) :=
  ⟨(fun lv l st w => Ex_A (i := .iconst 2) (n := 1) (by decide +kernel) rfl rfl),
   (fun lv l st a i w => Ex_lal (by decide +kernel : decode M_X5_fewestSteps.2.1 101 = .ok (.laload, 1)) rfl),
   (fun lv l st x y w => Ex_A (i := .lor) (n := 1) (by decide +kernel) rfl rfl),
   (fun lv st t x w => Ex_M (i := .aload_n 0) (n := 1) (by decide +kernel) rfl rfl rfl),
   (fun lv st t w => Ex_M (i := .aload_n 0) (n := 1) (by decide +kernel) rfl rfl rfl),
   (fun lv l st a w => Ex_getf (by decide +kernel : decode M_X5_fewestSteps.2.1 104 = .ok (.getfield 15, 3)) rfl (by decide +kernel : resF (mCn M_X5_fewestSteps) 15 = some (5, 1, (.array .long), true))),
   (fun lv l st w => Ex_A (i := .iconst 3) (n := 1) (by decide +kernel) rfl rfl),
   (fun lv l st a i w => Ex_lal (by decide +kernel : decode M_X5_fewestSteps.2.1 108 = .ok (.laload, 1)) rfl),
   (fun lv l st x y w => Ex_A (i := .lor) (n := 1) (by decide +kernel) rfl rfl),
   (fun lv st t o0 o1 x w => Ex_M (i := .iload_n 2) (n := 1) (by decide +kernel) rfl rfl rfl),
   (fun lv l a0 a1 w => Ex_callS (by decide +kernel : decode M_X5_fewestSteps.2.1 111 = .ok (.invokestatic 21, 3)) rfl (by rfl : resM (mCn M_X5_fewestSteps) 21 = some (0, M_X7_has)) (by decide) rfl (by rfl) (Nat.le_of_ble_eq_true rfl) (sLv_lt (by decide +kernel))),
   (fun lv l st x w => Ex_if_eq (by decide +kernel : decode M_X5_fewestSteps.2.1 114 = .ok (.ifCond .eq 6, 3)) rfl rfl),
   (fun lv st t o0 o1 o2 o3 o4 x w => Ex_M (i := .iload 5) (n := 2) (by decide +kernel) rfl rfl rfl),
   (fun lv l x w => Ex_R (i := .ireturn) (n := 1) (by decide +kernel) rfl rfl rfl rfl rfl),
   (fun lv st t x w => Ex_M (i := .aload_n 0) (n := 1) (by decide +kernel) rfl rfl rfl),
   (fun lv st t w => Ex_M (i := .aload_n 0) (n := 1) (by decide +kernel) rfl rfl rfl),
   (fun lv st t o0 o1 o2 x w => Ex_M (i := .lload_n 3) (n := 1) (by decide +kernel) rfl rfl rfl),
   (fun lv l b a0 w => Ex_callV (by decide +kernel : decode M_X5_fewestSteps.2.1 122 = .ok (.invokevirtual 35, 3)) rfl (by rfl : resM (mCn M_X5_fewestSteps) 35 = some (2, M_X5_goOn)) rfl (by rfl) (Nat.le_of_ble_eq_true rfl) (by decide +kernel) (sLv_lt (by decide +kernel))),
   (fun lv st t o0 o1 o2 o3 o4 x w => Ex_iinc (by decide +kernel : decode M_X5_fewestSteps.2.1 125 = .ok (.iinc 5 1, 3)) rfl rfl (by decide) (by decide)),
   (fun lv l st w => Ex_goto (by decide +kernel : decode M_X5_fewestSteps.2.1 128 = .ok (.goto (-53), 3)) rfl),
   (fun lv l st w => Ex_A (i := .iconst (-1)) (n := 1) (by decide +kernel) rfl rfl),
   (fun lv l x w => Ex_R (i := .ireturn) (n := 1) (by decide +kernel) rfl rfl rfl rfl rfl)⟩
-- R_X5_fewestSteps: p0 to p1
set_option maxRecDepth 20000 in
theorem H_X5_goOn_2 : ∀ (lv : Nat) (st : List Value) (t : LX) (o0 o1 o2 : Option Value) (x : Int32) (w : AH), Ex M_X5_goOn lv 2 (o0 :: o1 :: o2 :: some (.int x) :: t) st w = Ex M_X5_goOn lv 3 (o0 :: o1 :: o2 :: some (.int x) :: t) (.int x :: st) w := fun lv st t o0 o1 o2 x w => Ex_M (i := .iload_n 3) (n := 1) (by decide +kernel) rfl rfl rfl
set_option maxRecDepth 20000 in
theorem H_X5_goOn_13 : ∀ (lv : Nat) (st : List Value) (t : LX) (o0 o1 o2 o3 o4 o5 : Option Value) (x : Int32) (w : AH), Ex M_X5_goOn lv 13 (o0 :: o1 :: o2 :: o3 :: o4 :: o5 :: some (.int x) :: t) st w = Ex M_X5_goOn lv 15 (o0 :: o1 :: o2 :: o3 :: o4 :: o5 :: some (.int x) :: t) (.int x :: st) w := fun lv st t o0 o1 o2 o3 o4 o5 x w => Ex_M (i := .iload 6) (n := 2) (by decide +kernel) rfl rfl rfl
set_option maxRecDepth 20000 in
theorem H_X5_goOn_76 : ∀ (lv : Nat) (st : List Value) (t : LX) (o0 o1 o2 : Option Value) (x : Int32) (w : AH), Ex M_X5_goOn lv 76 (o0 :: o1 :: o2 :: some (.int x) :: t) st w = Ex M_X5_goOn lv 77 (o0 :: o1 :: o2 :: some (.int x) :: t) (.int x :: st) w := fun lv st t o0 o1 o2 x w => Ex_M (i := .iload_n 3) (n := 1) (by decide +kernel) rfl rfl rfl
set_option maxRecDepth 20000 in
set_option maxHeartbeats 4000000 in
theorem R_X5_goOn_p0 : (∀ (lv : Nat) (l : LX) (st : List Value) (w : AH), Ex M_X5_goOn lv 0 l st w = Ex M_X5_goOn lv 1 l (.int 0 :: st) w)
  ∧ (∀ (lv : Nat) (l : LX) (st : List Value) (x : Int32) (w : AH), Ex M_X5_goOn lv 1 l (.int x :: st) w = Ex M_X5_goOn lv 2 (ls1 l 3 (.int x)) st w)
  ∧ (∀ (lv : Nat) (l : LX) (st : List Value) (w : AH), Ex M_X5_goOn lv 3 l st w = Ex M_X5_goOn lv 4 l (.int 4 :: st) w)
  ∧ (∀ (lv : Nat) (l : LX) (st : List Value) (x y : Int32) (w : AH), Ex M_X5_goOn lv 4 l (.int y :: .int x :: st) w = if y ≤ x then Ex M_X5_goOn lv 74 l st w else Ex M_X5_goOn lv 7 l st w)
  ∧ (∀ (lv : Nat) (l : LX) (st : List Value) (w : AH), Ex M_X5_goOn lv 7 l st w = Ex M_X5_goOn lv 8 l (.long 0 :: st) w)
  ∧ (∀ (lv : Nat) (l : LX) (st : List Value) (x : Int64) (w : AH), Ex M_X5_goOn lv 8 l (.long x :: st) w = Ex M_X5_goOn lv 10 (ls2 l 4 (.long x)) st w)
  ∧ (∀ (lv : Nat) (l : LX) (st : List Value) (w : AH), Ex M_X5_goOn lv 10 l st w = Ex M_X5_goOn lv 11 l (.int 0 :: st) w)
  ∧ (∀ (lv : Nat) (l : LX) (st : List Value) (x : Int32) (w : AH), Ex M_X5_goOn lv 11 l (.int x :: st) w = Ex M_X5_goOn lv 13 (ls1 l 6 (.int x)) st w)
  ∧ (∀ (lv : Nat) (l : LX) (st : List Value) (w : AH), Ex M_X5_goOn lv 15 l st w = Ex M_X5_goOn lv 16 l (.int 4 :: st) w)
  ∧ (∀ (lv : Nat) (l : LX) (st : List Value) (x y : Int32) (w : AH), Ex M_X5_goOn lv 16 l (.int y :: .int x :: st) w = if y ≤ x then Ex M_X5_goOn lv 43 l st w else Ex M_X5_goOn lv 19 l st w)
  ∧ (∀ (lv : Nat) (st : List Value) (t : LX) (o0 o1 o2 o3 o4 o5 : Option Value) (x : Int32) (w : AH), Ex M_X5_goOn lv 19 (o0 :: o1 :: o2 :: o3 :: o4 :: o5 :: some (.int x) :: t) st w = Ex M_X5_goOn lv 21 (o0 :: o1 :: o2 :: o3 :: o4 :: o5 :: some (.int x) :: t) (.int x :: st) w)
  ∧ (∀ (lv : Nat) (st : List Value) (t : LX) (o0 o1 o2 : Option Value) (x : Int32) (w : AH), Ex M_X5_goOn lv 21 (o0 :: o1 :: o2 :: some (.int x) :: t) st w = Ex M_X5_goOn lv 22 (o0 :: o1 :: o2 :: some (.int x) :: t) (.int x :: st) w)
  ∧ (∀ (lv : Nat) (l : LX) (st : List Value) (x y : Int32) (w : AH), Ex M_X5_goOn lv 22 l (.int y :: .int x :: st) w = if x = y then Ex M_X5_goOn lv 37 l st w else Ex M_X5_goOn lv 25 l st w)
  ∧ (∀ (lv : Nat) (st : List Value) (t : LX) (o0 o1 o2 o3 : Option Value) (x : Int64) (w : AH), Ex M_X5_goOn lv 25 (o0 :: o1 :: o2 :: o3 :: some (.long x) :: t) st w = Ex M_X5_goOn lv 27 (o0 :: o1 :: o2 :: o3 :: some (.long x) :: t) (.long x :: st) w)
  ∧ (∀ (lv : Nat) (st : List Value) (t : LX) (x : Nat) (w : AH), Ex M_X5_goOn lv 27 (some (.ref x) :: t) st w = Ex M_X5_goOn lv 28 (some (.ref x) :: t) (.ref x :: st) w)
  ∧ (∀ (lv : Nat) (st : List Value) (t : LX) (w : AH), Ex M_X5_goOn lv 27 (some (.null) :: t) st w = Ex M_X5_goOn lv 28 (some (.null) :: t) (.null :: st) w)
  ∧ (∀ (lv : Nat) (l : LX) (st : List Value) (a : Nat) (w : AH), Ex M_X5_goOn lv 28 l (.ref a :: st) w = if (gf (hg w a) 5 1).isSome = true then Ex M_X5_goOn lv 31 l (vV (gf (hg w a) 5 1) :: st) w else none)
  ∧ (∀ (lv : Nat) (st : List Value) (t : LX) (o0 o1 o2 o3 o4 o5 : Option Value) (x : Int32) (w : AH), Ex M_X5_goOn lv 31 (o0 :: o1 :: o2 :: o3 :: o4 :: o5 :: some (.int x) :: t) st w = Ex M_X5_goOn lv 33 (o0 :: o1 :: o2 :: o3 :: o4 :: o5 :: some (.int x) :: t) (.int x :: st) w)
  ∧ (∀ (lv : Nat) (l : LX) (st : List Value) (a : Nat) (i : Int32) (w : AH), Ex M_X5_goOn lv 33 l (.int i :: .ref a :: st) w = if (aJ (hg w a) i).isSome = true then Ex M_X5_goOn lv 34 l (.long (vJ (aJ (hg w a) i)) :: st) w else none)
  ∧ (∀ (lv : Nat) (l : LX) (st : List Value) (x y : Int64) (w : AH), Ex M_X5_goOn lv 34 l (.long y :: .long x :: st) w = Ex M_X5_goOn lv 35 l (.long (x ||| y) :: st) w)
  ∧ (∀ (lv : Nat) (l : LX) (st : List Value) (x : Int64) (w : AH), Ex M_X5_goOn lv 35 l (.long x :: st) w = Ex M_X5_goOn lv 37 (ls2 l 4 (.long x)) st w)
  ∧ (∀ (lv : Nat) (st : List Value) (t : LX) (o0 o1 o2 o3 o4 o5 : Option Value) (x : Int32) (w : AH), Ex M_X5_goOn lv 37 (o0 :: o1 :: o2 :: o3 :: o4 :: o5 :: some (.int x) :: t) st w = Ex M_X5_goOn lv 40 (ls1 (o0 :: o1 :: o2 :: o3 :: o4 :: o5 :: some (.int x) :: t) 6 (.int (x + 1))) st w)
  ∧ (∀ (lv : Nat) (l : LX) (st : List Value) (w : AH), Ex M_X5_goOn lv 40 l st w = Ex M_X5_goOn lv 13 l st w)
  ∧ (∀ (lv : Nat) (st : List Value) (t : LX) (x : Nat) (w : AH), Ex M_X5_goOn lv 43 (some (.ref x) :: t) st w = Ex M_X5_goOn lv 44 (some (.ref x) :: t) (.ref x :: st) w)
  ∧ (∀ (lv : Nat) (st : List Value) (t : LX) (w : AH), Ex M_X5_goOn lv 43 (some (.null) :: t) st w = Ex M_X5_goOn lv 44 (some (.null) :: t) (.null :: st) w)
  ∧ (∀ (lv : Nat) (l : LX) (st : List Value) (a : Nat) (w : AH), Ex M_X5_goOn lv 44 l (.ref a :: st) w = if (gf (hg w a) 5 2).isSome = true then Ex M_X5_goOn lv 47 l (vV (gf (hg w a) 5 2) :: st) w else none)
  ∧ (∀ (lv : Nat) (st : List Value) (t : LX) (o0 o1 o2 : Option Value) (x : Int32) (w : AH), Ex M_X5_goOn lv 47 (o0 :: o1 :: o2 :: some (.int x) :: t) st w = Ex M_X5_goOn lv 48 (o0 :: o1 :: o2 :: some (.int x) :: t) (.int x :: st) w)
  ∧ (∀ (lv : Nat) (st : List Value) (t : LX) (o0 o1 o2 o3 : Option Value) (x : Int64) (w : AH), Ex M_X5_goOn lv 48 (o0 :: o1 :: o2 :: o3 :: some (.long x) :: t) st w = Ex M_X5_goOn lv 50 (o0 :: o1 :: o2 :: o3 :: some (.long x) :: t) (.long x :: st) w)
  ∧ (∀ (lv : Nat) (st : List Value) (t : LX) (o0 o1 o2 : Option Value) (x : Int32) (w : AH), Ex M_X5_goOn lv 50 (o0 :: o1 :: o2 :: some (.int x) :: t) st w = Ex M_X5_goOn lv 51 (o0 :: o1 :: o2 :: some (.int x) :: t) (.int x :: st) w)
  ∧ (∀ (lv : Nat) (l : LX) (a0 : Int64) (a1 : Int32) (s0 : Int32) (s1 : Nat) (w : AH), Ex M_X5_goOn lv 51 l (.int a1 :: .long a0 :: [.int s0, .ref s1]) w = if (Call M_X7_stepped 60 [.long a0, .int a1] w).isSome = true then Ex M_X5_goOn lv 54 l (pushR (cV (Call M_X7_stepped 60 [.long a0, .int a1] w)) [.int s0, .ref s1]) (cW (Call M_X7_stepped 60 [.long a0, .int a1] w) w) else none)
  ∧ (∀ (lv : Nat) (st : List Value) (t : LX) (o0 : Option Value) (x : Int64) (w : AH), Ex M_X5_goOn lv 54 (o0 :: some (.long x) :: t) st w = Ex M_X5_goOn lv 55 (o0 :: some (.long x) :: t) (.long x :: st) w)
  ∧ (∀ (lv : Nat) (l : LX) (st : List Value) (x y : Int64) (w : AH), Ex M_X5_goOn lv 55 l (.long y :: .long x :: st) w = Ex M_X5_goOn lv 56 l (.long (x &&& y) :: st) w)
  ∧ (∀ (lv : Nat) (st : List Value) (t : LX) (x : Nat) (w : AH), Ex M_X5_goOn lv 56 (some (.ref x) :: t) st w = Ex M_X5_goOn lv 57 (some (.ref x) :: t) (.ref x :: st) w)
  ∧ (∀ (lv : Nat) (st : List Value) (t : LX) (w : AH), Ex M_X5_goOn lv 56 (some (.null) :: t) st w = Ex M_X5_goOn lv 57 (some (.null) :: t) (.null :: st) w)
  ∧ (∀ (lv : Nat) (l : LX) (st : List Value) (a : Nat) (w : AH), Ex M_X5_goOn lv 57 l (.ref a :: st) w = if (gf (hg w a) 5 0).isSome = true then Ex M_X5_goOn lv 60 l (vV (gf (hg w a) 5 0) :: st) w else none)
  ∧ (∀ (lv : Nat) (st : List Value) (t : LX) (o0 o1 o2 : Option Value) (x : Int32) (w : AH), Ex M_X5_goOn lv 60 (o0 :: o1 :: o2 :: some (.int x) :: t) st w = Ex M_X5_goOn lv 61 (o0 :: o1 :: o2 :: some (.int x) :: t) (.int x :: st) w)
  ∧ (∀ (lv : Nat) (l : LX) (st : List Value) (a : Nat) (i : Int32) (w : AH), Ex M_X5_goOn lv 61 l (.int i :: .ref a :: st) w = if (aJ (hg w a) i).isSome = true then Ex M_X5_goOn lv 62 l (.long (vJ (aJ (hg w a) i)) :: st) w else none)
  ∧ (∀ (lv : Nat) (l : LX) (st : List Value) (w : AH), Ex M_X5_goOn lv 62 l st w = Ex M_X5_goOn lv 65 l (.long (-1) :: st) w)
  ∧ (∀ (lv : Nat) (l : LX) (st : List Value) (x y : Int64) (w : AH), Ex M_X5_goOn lv 65 l (.long y :: .long x :: st) w = Ex M_X5_goOn lv 66 l (.long (x ^^^ y) :: st) w)
  ∧ (∀ (lv : Nat) (l : LX) (st : List Value) (x y : Int64) (w : AH), Ex M_X5_goOn lv 66 l (.long y :: .long x :: st) w = Ex M_X5_goOn lv 67 l (.long (x &&& y) :: st) w)
  ∧ (∀ (lv : Nat) (l : LX) (st : List Value) (a : Nat) (i : Int32) (x : Int64) (w : AH), Ex M_X5_goOn lv 67 l (.long x :: .int i :: .ref a :: st) w = if (uJ (hg w a) i x).isSome = true then Ex M_X5_goOn lv 68 l st (hs w a (vE (uJ (hg w a) i x))) else none)
  ∧ (∀ (lv : Nat) (st : List Value) (t : LX) (o0 o1 o2 : Option Value) (x : Int32) (w : AH), Ex M_X5_goOn lv 68 (o0 :: o1 :: o2 :: some (.int x) :: t) st w = Ex M_X5_goOn lv 71 (ls1 (o0 :: o1 :: o2 :: some (.int x) :: t) 3 (.int (x + 1))) st w)
  ∧ (∀ (lv : Nat) (l : LX) (st : List Value) (w : AH), Ex M_X5_goOn lv 71 l st w = Ex M_X5_goOn lv 2 l st w)
  ∧ (∀ (lv : Nat) (l : LX) (st : List Value) (w : AH), Ex M_X5_goOn lv 74 l st w = Ex M_X5_goOn lv 75 l (.int 0 :: st) w)
  ∧ (∀ (lv : Nat) (l : LX) (st : List Value) (x : Int32) (w : AH), Ex M_X5_goOn lv 75 l (.int x :: st) w = Ex M_X5_goOn lv 76 (ls1 l 3 (.int x)) st w)
  ∧ (∀ (lv : Nat) (l : LX) (st : List Value) (w : AH), Ex M_X5_goOn lv 77 l st w = Ex M_X5_goOn lv 78 l (.int 4 :: st) w)
  ∧ (∀ (lv : Nat) (l : LX) (st : List Value) (x y : Int32) (w : AH), Ex M_X5_goOn lv 78 l (.int y :: .int x :: st) w = if y ≤ x then Ex M_X5_goOn lv 114 l st w else Ex M_X5_goOn lv 81 l st w)
  ∧ (∀ (lv : Nat) (st : List Value) (t : LX) (x : Nat) (w : AH), Ex M_X5_goOn lv 81 (some (.ref x) :: t) st w = Ex M_X5_goOn lv 82 (some (.ref x) :: t) (.ref x :: st) w)
  ∧ (∀ (lv : Nat) (st : List Value) (t : LX) (w : AH), Ex M_X5_goOn lv 81 (some (.null) :: t) st w = Ex M_X5_goOn lv 82 (some (.null) :: t) (.null :: st) w)
  ∧ (∀ (lv : Nat) (l : LX) (st : List Value) (a : Nat) (w : AH), Ex M_X5_goOn lv 82 l (.ref a :: st) w = if (gf (hg w a) 5 1).isSome = true then Ex M_X5_goOn lv 85 l (vV (gf (hg w a) 5 1) :: st) w else none)
  ∧ (∀ (lv : Nat) (st : List Value) (t : LX) (o0 o1 o2 : Option Value) (x : Int32) (w : AH), Ex M_X5_goOn lv 85 (o0 :: o1 :: o2 :: some (.int x) :: t) st w = Ex M_X5_goOn lv 86 (o0 :: o1 :: o2 :: some (.int x) :: t) (.int x :: st) w)
  ∧ (∀ (lv : Nat) (st : List Value) (t : LX) (x : Nat) (w : AH), Ex M_X5_goOn lv 86 (some (.ref x) :: t) st w = Ex M_X5_goOn lv 87 (some (.ref x) :: t) (.ref x :: st) w)
  ∧ (∀ (lv : Nat) (st : List Value) (t : LX) (w : AH), Ex M_X5_goOn lv 86 (some (.null) :: t) st w = Ex M_X5_goOn lv 87 (some (.null) :: t) (.null :: st) w)
  ∧ (∀ (lv : Nat) (l : LX) (st : List Value) (a : Nat) (w : AH), Ex M_X5_goOn lv 87 l (.ref a :: st) w = if (gf (hg w a) 5 2).isSome = true then Ex M_X5_goOn lv 90 l (vV (gf (hg w a) 5 2) :: st) w else none)
  ∧ (∀ (lv : Nat) (st : List Value) (t : LX) (o0 o1 o2 : Option Value) (x : Int32) (w : AH), Ex M_X5_goOn lv 90 (o0 :: o1 :: o2 :: some (.int x) :: t) st w = Ex M_X5_goOn lv 91 (o0 :: o1 :: o2 :: some (.int x) :: t) (.int x :: st) w)
  ∧ (∀ (lv : Nat) (l : LX) (st : List Value) (a : Nat) (i : Int32) (w : AH), Ex M_X5_goOn lv 91 l (.int i :: .ref a :: st) w = if (aJ (hg w a) i).isSome = true then Ex M_X5_goOn lv 92 l (.long (vJ (aJ (hg w a) i)) :: st) w else none)
  ∧ (∀ (lv : Nat) (l : LX) (st : List Value) (a : Nat) (i : Int32) (x : Int64) (w : AH), Ex M_X5_goOn lv 92 l (.long x :: .int i :: .ref a :: st) w = if (uJ (hg w a) i x).isSome = true then Ex M_X5_goOn lv 93 l st (hs w a (vE (uJ (hg w a) i x))) else none)
  ∧ (∀ (lv : Nat) (st : List Value) (t : LX) (x : Nat) (w : AH), Ex M_X5_goOn lv 93 (some (.ref x) :: t) st w = Ex M_X5_goOn lv 94 (some (.ref x) :: t) (.ref x :: st) w)
  ∧ (∀ (lv : Nat) (st : List Value) (t : LX) (w : AH), Ex M_X5_goOn lv 93 (some (.null) :: t) st w = Ex M_X5_goOn lv 94 (some (.null) :: t) (.null :: st) w)
  ∧ (∀ (lv : Nat) (l : LX) (st : List Value) (a : Nat) (w : AH), Ex M_X5_goOn lv 94 l (.ref a :: st) w = if (gf (hg w a) 5 0).isSome = true then Ex M_X5_goOn lv 97 l (vV (gf (hg w a) 5 0) :: st) w else none) :=
  ⟨(fun lv l st w => Ex_A (i := .iconst 0) (n := 1) (by decide +kernel) rfl rfl),
   (fun lv l st x w => Ex_M (i := .istore_n 3) (n := 1) (by decide +kernel) rfl rfl rfl),
   (fun lv l st w => Ex_A (i := .iconst 4) (n := 1) (by decide +kernel) rfl rfl),
   (fun lv l st x y w => Ex_icmp_ge (by decide +kernel : decode M_X5_goOn.2.1 4 = .ok (.if_icmp .ge 70, 3)) rfl rfl),
   (fun lv l st w => Ex_A (i := .lconst 0) (n := 1) (by decide +kernel) rfl rfl),
   (fun lv l st x w => Ex_M (i := .lstore 4) (n := 2) (by decide +kernel) rfl rfl rfl),
   (fun lv l st w => Ex_A (i := .iconst 0) (n := 1) (by decide +kernel) rfl rfl),
   (fun lv l st x w => Ex_M (i := .istore 6) (n := 2) (by decide +kernel) rfl rfl rfl),
   (fun lv l st w => Ex_A (i := .iconst 4) (n := 1) (by decide +kernel) rfl rfl),
   (fun lv l st x y w => Ex_icmp_ge (by decide +kernel : decode M_X5_goOn.2.1 16 = .ok (.if_icmp .ge 27, 3)) rfl rfl),
   (fun lv st t o0 o1 o2 o3 o4 o5 x w => Ex_M (i := .iload 6) (n := 2) (by decide +kernel) rfl rfl rfl),
   (fun lv st t o0 o1 o2 x w => Ex_M (i := .iload_n 3) (n := 1) (by decide +kernel) rfl rfl rfl),
   (fun lv l st x y w => Ex_icmp_eq (by decide +kernel : decode M_X5_goOn.2.1 22 = .ok (.if_icmp .eq 15, 3)) rfl rfl),
   (fun lv st t o0 o1 o2 o3 x w => Ex_M (i := .lload 4) (n := 2) (by decide +kernel) rfl rfl rfl),
   (fun lv st t x w => Ex_M (i := .aload_n 0) (n := 1) (by decide +kernel) rfl rfl rfl),
   (fun lv st t w => Ex_M (i := .aload_n 0) (n := 1) (by decide +kernel) rfl rfl rfl),
   (fun lv l st a w => Ex_getf (by decide +kernel : decode M_X5_goOn.2.1 28 = .ok (.getfield 15, 3)) rfl (by decide +kernel : resF (mCn M_X5_goOn) 15 = some (5, 1, (.array .long), true))),
   (fun lv st t o0 o1 o2 o3 o4 o5 x w => Ex_M (i := .iload 6) (n := 2) (by decide +kernel) rfl rfl rfl),
   (fun lv l st a i w => Ex_lal (by decide +kernel : decode M_X5_goOn.2.1 33 = .ok (.laload, 1)) rfl),
   (fun lv l st x y w => Ex_A (i := .lor) (n := 1) (by decide +kernel) rfl rfl),
   (fun lv l st x w => Ex_M (i := .lstore 4) (n := 2) (by decide +kernel) rfl rfl rfl),
   (fun lv st t o0 o1 o2 o3 o4 o5 x w => Ex_iinc (by decide +kernel : decode M_X5_goOn.2.1 37 = .ok (.iinc 6 1, 3)) rfl rfl (by decide) (by decide)),
   (fun lv l st w => Ex_goto (by decide +kernel : decode M_X5_goOn.2.1 40 = .ok (.goto (-27), 3)) rfl),
   (fun lv st t x w => Ex_M (i := .aload_n 0) (n := 1) (by decide +kernel) rfl rfl rfl),
   (fun lv st t w => Ex_M (i := .aload_n 0) (n := 1) (by decide +kernel) rfl rfl rfl),
   (fun lv l st a w => Ex_getf (by decide +kernel : decode M_X5_goOn.2.1 44 = .ok (.getfield 18, 3)) rfl (by decide +kernel : resF (mCn M_X5_goOn) 18 = some (5, 2, (.array .long), true))),
   (fun lv st t o0 o1 o2 x w => Ex_M (i := .iload_n 3) (n := 1) (by decide +kernel) rfl rfl rfl),
   (fun lv st t o0 o1 o2 o3 x w => Ex_M (i := .lload 4) (n := 2) (by decide +kernel) rfl rfl rfl),
   (fun lv st t o0 o1 o2 x w => Ex_M (i := .iload_n 3) (n := 1) (by decide +kernel) rfl rfl rfl),
   (fun lv l a0 a1 s0 s1 w => Ex_callS (by decide +kernel : decode M_X5_goOn.2.1 51 = .ok (.invokestatic 31, 3)) rfl (by rfl : resM (mCn M_X5_goOn) 31 = some (0, M_X7_stepped)) (by decide) rfl (by rfl) (Nat.le_of_ble_eq_true rfl) (sLv_lt (by decide +kernel))),
   (fun lv st t o0 x w => Ex_M (i := .lload_n 1) (n := 1) (by decide +kernel) rfl rfl rfl),
   (fun lv l st x y w => Ex_A (i := .land) (n := 1) (by decide +kernel) rfl rfl),
   (fun lv st t x w => Ex_M (i := .aload_n 0) (n := 1) (by decide +kernel) rfl rfl rfl),
   (fun lv st t w => Ex_M (i := .aload_n 0) (n := 1) (by decide +kernel) rfl rfl rfl),
   (fun lv l st a w => Ex_getf (by decide +kernel : decode M_X5_goOn.2.1 57 = .ok (.getfield 9, 3)) rfl (by decide +kernel : resF (mCn M_X5_goOn) 9 = some (5, 0, (.array .long), true))),
   (fun lv st t o0 o1 o2 x w => Ex_M (i := .iload_n 3) (n := 1) (by decide +kernel) rfl rfl rfl),
   (fun lv l st a i w => Ex_lal (by decide +kernel : decode M_X5_goOn.2.1 61 = .ok (.laload, 1)) rfl),
   (fun lv l st w => Ex_ldc2 (by decide +kernel : decode M_X5_goOn.2.1 62 = .ok (.ldc2_w 39, 3)) rfl (by decide +kernel)),
   (fun lv l st x y w => Ex_A (i := .lxor) (n := 1) (by decide +kernel) rfl rfl),
   (fun lv l st x y w => Ex_A (i := .land) (n := 1) (by decide +kernel) rfl rfl),
   (fun lv l st a i x w => Ex_las (by decide +kernel : decode M_X5_goOn.2.1 67 = .ok (.lastore, 1)) rfl),
   (fun lv st t o0 o1 o2 x w => Ex_iinc (by decide +kernel : decode M_X5_goOn.2.1 68 = .ok (.iinc 3 1, 3)) rfl rfl (by decide) (by decide)),
   (fun lv l st w => Ex_goto (by decide +kernel : decode M_X5_goOn.2.1 71 = .ok (.goto (-69), 3)) rfl),
   (fun lv l st w => Ex_A (i := .iconst 0) (n := 1) (by decide +kernel) rfl rfl),
   (fun lv l st x w => Ex_M (i := .istore_n 3) (n := 1) (by decide +kernel) rfl rfl rfl),
   (fun lv l st w => Ex_A (i := .iconst 4) (n := 1) (by decide +kernel) rfl rfl),
   (fun lv l st x y w => Ex_icmp_ge (by decide +kernel : decode M_X5_goOn.2.1 78 = .ok (.if_icmp .ge 36, 3)) rfl rfl),
   (fun lv st t x w => Ex_M (i := .aload_n 0) (n := 1) (by decide +kernel) rfl rfl rfl),
   (fun lv st t w => Ex_M (i := .aload_n 0) (n := 1) (by decide +kernel) rfl rfl rfl),
   (fun lv l st a w => Ex_getf (by decide +kernel : decode M_X5_goOn.2.1 82 = .ok (.getfield 15, 3)) rfl (by decide +kernel : resF (mCn M_X5_goOn) 15 = some (5, 1, (.array .long), true))),
   (fun lv st t o0 o1 o2 x w => Ex_M (i := .iload_n 3) (n := 1) (by decide +kernel) rfl rfl rfl),
   (fun lv st t x w => Ex_M (i := .aload_n 0) (n := 1) (by decide +kernel) rfl rfl rfl),
   (fun lv st t w => Ex_M (i := .aload_n 0) (n := 1) (by decide +kernel) rfl rfl rfl),
   (fun lv l st a w => Ex_getf (by decide +kernel : decode M_X5_goOn.2.1 87 = .ok (.getfield 18, 3)) rfl (by decide +kernel : resF (mCn M_X5_goOn) 18 = some (5, 2, (.array .long), true))),
   (fun lv st t o0 o1 o2 x w => Ex_M (i := .iload_n 3) (n := 1) (by decide +kernel) rfl rfl rfl),
   (fun lv l st a i w => Ex_lal (by decide +kernel : decode M_X5_goOn.2.1 91 = .ok (.laload, 1)) rfl),
   (fun lv l st a i x w => Ex_las (by decide +kernel : decode M_X5_goOn.2.1 92 = .ok (.lastore, 1)) rfl),
   (fun lv st t x w => Ex_M (i := .aload_n 0) (n := 1) (by decide +kernel) rfl rfl rfl),
   (fun lv st t w => Ex_M (i := .aload_n 0) (n := 1) (by decide +kernel) rfl rfl rfl),
   (fun lv l st a w => Ex_getf (by decide +kernel : decode M_X5_goOn.2.1 94 = .ok (.getfield 9, 3)) rfl (by decide +kernel : resF (mCn M_X5_goOn) 9 = some (5, 0, (.array .long), true)))⟩
set_option maxRecDepth 20000 in
set_option maxHeartbeats 4000000 in
theorem R_X5_goOn_p1 : (∀ (lv : Nat) (st : List Value) (t : LX) (o0 o1 o2 : Option Value) (x : Int32) (w : AH), Ex M_X5_goOn lv 97 (o0 :: o1 :: o2 :: some (.int x) :: t) st w = Ex M_X5_goOn lv 98 (o0 :: o1 :: o2 :: some (.int x) :: t) (.int x :: st) w)
  ∧ (∀ (lv : Nat) (l : LX) (st : List Value) (x : Int32) (y : Nat) (w : AH), Ex M_X5_goOn lv 98 l (.int x :: .ref y :: st) w = Ex M_X5_goOn lv 99 l (.int x :: .ref y :: .int x :: .ref y :: st) w)
  ∧ (∀ (lv : Nat) (l : LX) (st : List Value) (a : Nat) (i : Int32) (w : AH), Ex M_X5_goOn lv 99 l (.int i :: .ref a :: st) w = if (aJ (hg w a) i).isSome = true then Ex M_X5_goOn lv 100 l (.long (vJ (aJ (hg w a) i)) :: st) w else none)
  ∧ (∀ (lv : Nat) (st : List Value) (t : LX) (x : Nat) (w : AH), Ex M_X5_goOn lv 100 (some (.ref x) :: t) st w = Ex M_X5_goOn lv 101 (some (.ref x) :: t) (.ref x :: st) w)
  ∧ (∀ (lv : Nat) (st : List Value) (t : LX) (w : AH), Ex M_X5_goOn lv 100 (some (.null) :: t) st w = Ex M_X5_goOn lv 101 (some (.null) :: t) (.null :: st) w)
  ∧ (∀ (lv : Nat) (l : LX) (st : List Value) (a : Nat) (w : AH), Ex M_X5_goOn lv 101 l (.ref a :: st) w = if (gf (hg w a) 5 2).isSome = true then Ex M_X5_goOn lv 104 l (vV (gf (hg w a) 5 2) :: st) w else none)
  ∧ (∀ (lv : Nat) (st : List Value) (t : LX) (o0 o1 o2 : Option Value) (x : Int32) (w : AH), Ex M_X5_goOn lv 104 (o0 :: o1 :: o2 :: some (.int x) :: t) st w = Ex M_X5_goOn lv 105 (o0 :: o1 :: o2 :: some (.int x) :: t) (.int x :: st) w)
  ∧ (∀ (lv : Nat) (l : LX) (st : List Value) (a : Nat) (i : Int32) (w : AH), Ex M_X5_goOn lv 105 l (.int i :: .ref a :: st) w = if (aJ (hg w a) i).isSome = true then Ex M_X5_goOn lv 106 l (.long (vJ (aJ (hg w a) i)) :: st) w else none)
  ∧ (∀ (lv : Nat) (l : LX) (st : List Value) (x y : Int64) (w : AH), Ex M_X5_goOn lv 106 l (.long y :: .long x :: st) w = Ex M_X5_goOn lv 107 l (.long (x ||| y) :: st) w)
  ∧ (∀ (lv : Nat) (l : LX) (st : List Value) (a : Nat) (i : Int32) (x : Int64) (w : AH), Ex M_X5_goOn lv 107 l (.long x :: .int i :: .ref a :: st) w = if (uJ (hg w a) i x).isSome = true then Ex M_X5_goOn lv 108 l st (hs w a (vE (uJ (hg w a) i x))) else none)
  ∧ (∀ (lv : Nat) (st : List Value) (t : LX) (o0 o1 o2 : Option Value) (x : Int32) (w : AH), Ex M_X5_goOn lv 108 (o0 :: o1 :: o2 :: some (.int x) :: t) st w = Ex M_X5_goOn lv 111 (ls1 (o0 :: o1 :: o2 :: some (.int x) :: t) 3 (.int (x + 1))) st w)
  ∧ (∀ (lv : Nat) (l : LX) (st : List Value) (w : AH), Ex M_X5_goOn lv 111 l st w = Ex M_X5_goOn lv 76 l st w)
  ∧ (∀ (lv : Nat) (l : LX) (w : AH), Ex M_X5_goOn lv 114 l [] w = some (none, w)) :=
  ⟨(fun lv st t o0 o1 o2 x w => Ex_M (i := .iload_n 3) (n := 1) (by decide +kernel) rfl rfl rfl),
   (fun lv l st x y w => Ex_A (i := .dup2) (n := 1) (by decide +kernel) rfl rfl),
   (fun lv l st a i w => Ex_lal (by decide +kernel : decode M_X5_goOn.2.1 99 = .ok (.laload, 1)) rfl),
   (fun lv st t x w => Ex_M (i := .aload_n 0) (n := 1) (by decide +kernel) rfl rfl rfl),
   (fun lv st t w => Ex_M (i := .aload_n 0) (n := 1) (by decide +kernel) rfl rfl rfl),
   (fun lv l st a w => Ex_getf (by decide +kernel : decode M_X5_goOn.2.1 101 = .ok (.getfield 18, 3)) rfl (by decide +kernel : resF (mCn M_X5_goOn) 18 = some (5, 2, (.array .long), true))),
   (fun lv st t o0 o1 o2 x w => Ex_M (i := .iload_n 3) (n := 1) (by decide +kernel) rfl rfl rfl),
   (fun lv l st a i w => Ex_lal (by decide +kernel : decode M_X5_goOn.2.1 105 = .ok (.laload, 1)) rfl),
   (fun lv l st x y w => Ex_A (i := .lor) (n := 1) (by decide +kernel) rfl rfl),
   (fun lv l st a i x w => Ex_las (by decide +kernel : decode M_X5_goOn.2.1 107 = .ok (.lastore, 1)) rfl),
   (fun lv st t o0 o1 o2 x w => Ex_iinc (by decide +kernel : decode M_X5_goOn.2.1 108 = .ok (.iinc 3 1, 3)) rfl rfl (by decide) (by decide)),
   (fun lv l st w => Ex_goto (by decide +kernel : decode M_X5_goOn.2.1 111 = .ok (.goto (-35), 3)) rfl),
   (fun lv l w => Ex_R (i := .return_) (n := 1) (by decide +kernel) rfl rfl rfl rfl rfl)⟩
-- R_X5_goOn: p0 to p1
set_option maxRecDepth 20000 in
set_option maxHeartbeats 4000000 in
theorem R_X6_init : (∀ (lv : Nat) (st : List Value) (t : LX) (x : Nat) (w : AH), Ex M_X6_init lv 0 (some (.ref x) :: t) st w = Ex M_X6_init lv 1 (some (.ref x) :: t) (.ref x :: st) w)
  ∧ (∀ (lv : Nat) (st : List Value) (t : LX) (w : AH), Ex M_X6_init lv 0 (some (.null) :: t) st w = Ex M_X6_init lv 1 (some (.null) :: t) (.null :: st) w)
  ∧ (∀ (lv : Nat) (l : LX) (b : Nat) (w : AH), Ex M_X6_init lv 1 l (.ref b :: []) w = Ex M_X6_init lv 4 l [] w)
  ∧ (∀ (lv : Nat) (st : List Value) (t : LX) (x : Nat) (w : AH), Ex M_X6_init lv 4 (some (.ref x) :: t) st w = Ex M_X6_init lv 5 (some (.ref x) :: t) (.ref x :: st) w)
  ∧ (∀ (lv : Nat) (st : List Value) (t : LX) (w : AH), Ex M_X6_init lv 4 (some (.null) :: t) st w = Ex M_X6_init lv 5 (some (.null) :: t) (.null :: st) w)
  ∧ (∀ (lv : Nat) (l : LX) (st : List Value) (w : AH), Ex M_X6_init lv 5 l st w = Ex M_X6_init lv 6 l (.int 0 :: st) w)
  ∧ (∀ (lv : Nat) (l : LX) (st : List Value) (a : Nat) (v : Value) (w : AH), Ex M_X6_init lv 6 l (v :: .ref a :: st) w = if (pf (hg w a) 6 1 .int v).isSome = true then Ex M_X6_init lv 9 l st (hs w a (vE (pf (hg w a) 6 1 .int v))) else none)
  ∧ (∀ (lv : Nat) (st : List Value) (t : LX) (x : Nat) (w : AH), Ex M_X6_init lv 9 (some (.ref x) :: t) st w = Ex M_X6_init lv 10 (some (.ref x) :: t) (.ref x :: st) w)
  ∧ (∀ (lv : Nat) (st : List Value) (t : LX) (w : AH), Ex M_X6_init lv 9 (some (.null) :: t) st w = Ex M_X6_init lv 10 (some (.null) :: t) (.null :: st) w)
  ∧ (∀ (lv : Nat) (st : List Value) (t : LX) (o0 : Option Value) (x : Int32) (w : AH), Ex M_X6_init lv 10 (o0 :: some (.int x) :: t) st w = Ex M_X6_init lv 11 (o0 :: some (.int x) :: t) (.int x :: st) w)
  ∧ (∀ (lv : Nat) (l : LX) (st : List Value) (w : AH), Ex M_X6_init lv 11 l st w = Ex M_X6_init lv 12 l (.int 0 :: st) w)
  ∧ (∀ (lv : Nat) (l : LX) (a0 : Int32) (a1 : Int32) (s0 : Nat) (w : AH), Ex M_X6_init lv 12 l (.int a1 :: .int a0 :: [.ref s0]) w = if (Call M_J9_max_7cf53 60 [.int a0, .int a1] w).isSome = true then Ex M_X6_init lv 15 l (pushR (cV (Call M_J9_max_7cf53 60 [.int a0, .int a1] w)) [.ref s0]) (cW (Call M_J9_max_7cf53 60 [.int a0, .int a1] w) w) else none)
  ∧ (∀ (lv : Nat) (l : LX) (st : List Value) (x : Int32) (k : Nat) (hk : x.toNatClampNeg = k ∧ 0 ≤ x.toInt ∧ x.toInt ≤ 65536) (w : AH), Ex M_X6_init lv 15 l (.int x :: st) w = Ex M_X6_init lv 17 l (.ref w.1 :: st) (hn w (.inl (0, k, .inl (fun _ => 0))) k))
  ∧ (∀ (lv : Nat) (l : LX) (st : List Value) (a : Nat) (v : Value) (w : AH), Ex M_X6_init lv 17 l (v :: .ref a :: st) w = if (pf (hg w a) 6 0 (.array .int) v).isSome = true then Ex M_X6_init lv 20 l st (hs w a (vE (pf (hg w a) 6 0 (.array .int) v))) else none)
  ∧ (∀ (lv : Nat) (l : LX) (w : AH), Ex M_X6_init lv 20 l [] w = some (none, w)) :=
  ⟨(fun lv st t x w => Ex_M (i := .aload_n 0) (n := 1) (by decide +kernel) rfl rfl rfl),
   (fun lv st t w => Ex_M (i := .aload_n 0) (n := 1) (by decide +kernel) rfl rfl rfl),
   (fun lv l b w => Ex_oinit (by decide +kernel : decode M_X6_init.2.1 1 = .ok (.invokespecial 1, 3)) rfl (by rfl : resM (mCn M_X6_init) 1 = some (6, M_X0_init)) (by rfl)),
   (fun lv st t x w => Ex_M (i := .aload_n 0) (n := 1) (by decide +kernel) rfl rfl rfl),
   (fun lv st t w => Ex_M (i := .aload_n 0) (n := 1) (by decide +kernel) rfl rfl rfl),
   (fun lv l st w => Ex_A (i := .iconst 0) (n := 1) (by decide +kernel) rfl rfl),
   (fun lv l st a v w => Ex_putf (by decide +kernel : decode M_X6_init.2.1 6 = .ok (.putfield 7, 3)) rfl (by decide +kernel : resF (mCn M_X6_init) 7 = some (6, 1, .int, false)) (by decide +kernel)),
   (fun lv st t x w => Ex_M (i := .aload_n 0) (n := 1) (by decide +kernel) rfl rfl rfl),
   (fun lv st t w => Ex_M (i := .aload_n 0) (n := 1) (by decide +kernel) rfl rfl rfl),
   (fun lv st t o0 x w => Ex_M (i := .iload_n 1) (n := 1) (by decide +kernel) rfl rfl rfl),
   (fun lv l st w => Ex_A (i := .iconst 0) (n := 1) (by decide +kernel) rfl rfl),
   (fun lv l a0 a1 s0 w => Ex_callS (by decide +kernel : decode M_X6_init.2.1 12 = .ok (.invokestatic 13, 3)) rfl (by rfl : resM (mCn M_X6_init) 13 = some (0, M_J9_max_7cf53)) (by decide) rfl (by rfl) (Nat.le_of_ble_eq_true rfl) (sLv_lt (by decide +kernel))),
   (fun lv l st x k hk w => Ex_newa (by decide +kernel : decode M_X6_init.2.1 15 = .ok (.newarray .int, 2)) rfl hk.1 hk.2 rfl),
   (fun lv l st a v w => Ex_putf (by decide +kernel : decode M_X6_init.2.1 17 = .ok (.putfield 19, 3)) rfl (by decide +kernel : resF (mCn M_X6_init) 19 = some (6, 0, (.array .int), true)) (by decide +kernel)),
   (fun lv l w => Ex_R (i := .return_) (n := 1) (by decide +kernel) rfl rfl rfl rfl rfl)⟩
set_option maxRecDepth 20000 in
set_option maxHeartbeats 4000000 in
theorem R_X6_has : (∀ (lv : Nat) (st : List Value) (t : LX) (o0 : Option Value) (x : Int32) (w : AH), Ex M_X6_has lv 0 (o0 :: some (.int x) :: t) st w = Ex M_X6_has lv 1 (o0 :: some (.int x) :: t) (.int x :: st) w)
  ∧ (∀ (lv : Nat) (l : LX) (st : List Value) (x : Int32) (w : AH), Ex M_X6_has lv 1 l (.int x :: st) w = if x < 0 then Ex M_X6_has lv 25 l st w else Ex M_X6_has lv 4 l st w)
  ∧ (∀ (lv : Nat) (st : List Value) (t : LX) (o0 : Option Value) (x : Int32) (w : AH), Ex M_X6_has lv 4 (o0 :: some (.int x) :: t) st w = Ex M_X6_has lv 5 (o0 :: some (.int x) :: t) (.int x :: st) w)
  ∧ (∀ (lv : Nat) (st : List Value) (t : LX) (x : Nat) (w : AH), Ex M_X6_has lv 5 (some (.ref x) :: t) st w = Ex M_X6_has lv 6 (some (.ref x) :: t) (.ref x :: st) w)
  ∧ (∀ (lv : Nat) (st : List Value) (t : LX) (w : AH), Ex M_X6_has lv 5 (some (.null) :: t) st w = Ex M_X6_has lv 6 (some (.null) :: t) (.null :: st) w)
  ∧ (∀ (lv : Nat) (l : LX) (st : List Value) (a : Nat) (w : AH), Ex M_X6_has lv 6 l (.ref a :: st) w = if (gf (hg w a) 6 1).isSome = true then Ex M_X6_has lv 9 l (vV (gf (hg w a) 6 1) :: st) w else none)
  ∧ (∀ (lv : Nat) (l : LX) (st : List Value) (x y : Int32) (w : AH), Ex M_X6_has lv 9 l (.int y :: .int x :: st) w = if y ≤ x then Ex M_X6_has lv 25 l st w else Ex M_X6_has lv 12 l st w)
  ∧ (∀ (lv : Nat) (st : List Value) (t : LX) (o0 : Option Value) (x : Int32) (w : AH), Ex M_X6_has lv 12 (o0 :: some (.int x) :: t) st w = Ex M_X6_has lv 13 (o0 :: some (.int x) :: t) (.int x :: st) w)
  ∧ (∀ (lv : Nat) (st : List Value) (t : LX) (x : Nat) (w : AH), Ex M_X6_has lv 13 (some (.ref x) :: t) st w = Ex M_X6_has lv 14 (some (.ref x) :: t) (.ref x :: st) w)
  ∧ (∀ (lv : Nat) (st : List Value) (t : LX) (w : AH), Ex M_X6_has lv 13 (some (.null) :: t) st w = Ex M_X6_has lv 14 (some (.null) :: t) (.null :: st) w)
  ∧ (∀ (lv : Nat) (l : LX) (st : List Value) (a : Nat) (w : AH), Ex M_X6_has lv 14 l (.ref a :: st) w = if (gf (hg w a) 6 0).isSome = true then Ex M_X6_has lv 17 l (vV (gf (hg w a) 6 0) :: st) w else none)
  ∧ (∀ (lv : Nat) (l : LX) (st : List Value) (a : Nat) (w : AH), Ex M_X6_has lv 17 l (.ref a :: st) w = if (aL (hg w a)).isSome = true then Ex M_X6_has lv 18 l (.int (vI (aL (hg w a))) :: st) w else none)
  ∧ (∀ (lv : Nat) (l : LX) (st : List Value) (x y : Int32) (w : AH), Ex M_X6_has lv 18 l (.int y :: .int x :: st) w = if y ≤ x then Ex M_X6_has lv 25 l st w else Ex M_X6_has lv 21 l st w)
  ∧ (∀ (lv : Nat) (l : LX) (st : List Value) (w : AH), Ex M_X6_has lv 21 l st w = Ex M_X6_has lv 22 l (.int 1 :: st) w)
  ∧ (∀ (lv : Nat) (l : LX) (st : List Value) (w : AH), Ex M_X6_has lv 22 l st w = Ex M_X6_has lv 26 l st w)
  ∧ (∀ (lv : Nat) (l : LX) (st : List Value) (w : AH), Ex M_X6_has lv 25 l st w = Ex M_X6_has lv 26 l (.int 0 :: st) w)
  ∧ (∀ (lv : Nat) (l : LX) (x : Int32) (w : AH), Ex M_X6_has lv 26 l [.int x] w = if x = 0 ∨ x = 1 then some (some (.int x), w) else none) :=
  ⟨(fun lv st t o0 x w => Ex_M (i := .iload_n 1) (n := 1) (by decide +kernel) rfl rfl rfl),
   (fun lv l st x w => Ex_if_lt (by decide +kernel : decode M_X6_has.2.1 1 = .ok (.ifCond .lt 24, 3)) rfl rfl),
   (fun lv st t o0 x w => Ex_M (i := .iload_n 1) (n := 1) (by decide +kernel) rfl rfl rfl),
   (fun lv st t x w => Ex_M (i := .aload_n 0) (n := 1) (by decide +kernel) rfl rfl rfl),
   (fun lv st t w => Ex_M (i := .aload_n 0) (n := 1) (by decide +kernel) rfl rfl rfl),
   (fun lv l st a w => Ex_getf (by decide +kernel : decode M_X6_has.2.1 6 = .ok (.getfield 7, 3)) rfl (by decide +kernel : resF (mCn M_X6_has) 7 = some (6, 1, .int, false))),
   (fun lv l st x y w => Ex_icmp_ge (by decide +kernel : decode M_X6_has.2.1 9 = .ok (.if_icmp .ge 16, 3)) rfl rfl),
   (fun lv st t o0 x w => Ex_M (i := .iload_n 1) (n := 1) (by decide +kernel) rfl rfl rfl),
   (fun lv st t x w => Ex_M (i := .aload_n 0) (n := 1) (by decide +kernel) rfl rfl rfl),
   (fun lv st t w => Ex_M (i := .aload_n 0) (n := 1) (by decide +kernel) rfl rfl rfl),
   (fun lv l st a w => Ex_getf (by decide +kernel : decode M_X6_has.2.1 14 = .ok (.getfield 19, 3)) rfl (by decide +kernel : resF (mCn M_X6_has) 19 = some (6, 0, (.array .int), true))),
   (fun lv l st a w => Ex_alen (by decide +kernel : decode M_X6_has.2.1 17 = .ok (.arraylength, 1)) rfl),
   (fun lv l st x y w => Ex_icmp_ge (by decide +kernel : decode M_X6_has.2.1 18 = .ok (.if_icmp .ge 7, 3)) rfl rfl),
   (fun lv l st w => Ex_A (i := .iconst 1) (n := 1) (by decide +kernel) rfl rfl),
   (fun lv l st w => Ex_goto (by decide +kernel : decode M_X6_has.2.1 22 = .ok (.goto 4, 3)) rfl),
   (fun lv l st w => Ex_A (i := .iconst 0) (n := 1) (by decide +kernel) rfl rfl),
   (fun lv l x w => Ex_zret (by decide +kernel : decode M_X6_has.2.1 26 = .ok (.ireturn, 1)) rfl)⟩
set_option maxRecDepth 20000 in
set_option maxHeartbeats 4000000 in
theorem R_X6_get : (∀ (lv : Nat) (st : List Value) (t : LX) (x : Nat) (w : AH), Ex M_X6_get lv 0 (some (.ref x) :: t) st w = Ex M_X6_get lv 1 (some (.ref x) :: t) (.ref x :: st) w)
  ∧ (∀ (lv : Nat) (st : List Value) (t : LX) (w : AH), Ex M_X6_get lv 0 (some (.null) :: t) st w = Ex M_X6_get lv 1 (some (.null) :: t) (.null :: st) w)
  ∧ (∀ (lv : Nat) (st : List Value) (t : LX) (o0 : Option Value) (x : Int32) (w : AH), Ex M_X6_get lv 1 (o0 :: some (.int x) :: t) st w = Ex M_X6_get lv 2 (o0 :: some (.int x) :: t) (.int x :: st) w)
  ∧ (∀ (lv : Nat) (l : LX) (b : Nat) (a0 : Int32) (w : AH), Ex M_X6_get lv 2 l (.int a0 :: .ref b :: []) w = if clK (hg w b) = 6 then (if (Call M_X6_has 60 [.ref b, .int a0] w).isSome = true then Ex M_X6_get lv 5 l (pushR (cV (Call M_X6_has 60 [.ref b, .int a0] w)) []) (cW (Call M_X6_has 60 [.ref b, .int a0] w) w) else none) else none)
  ∧ (∀ (lv : Nat) (l : LX) (st : List Value) (x : Int32) (w : AH), Ex M_X6_get lv 5 l (.int x :: st) w = if x = 0 then Ex M_X6_get lv 17 l st w else Ex M_X6_get lv 8 l st w)
  ∧ (∀ (lv : Nat) (st : List Value) (t : LX) (x : Nat) (w : AH), Ex M_X6_get lv 8 (some (.ref x) :: t) st w = Ex M_X6_get lv 9 (some (.ref x) :: t) (.ref x :: st) w)
  ∧ (∀ (lv : Nat) (st : List Value) (t : LX) (w : AH), Ex M_X6_get lv 8 (some (.null) :: t) st w = Ex M_X6_get lv 9 (some (.null) :: t) (.null :: st) w)
  ∧ (∀ (lv : Nat) (l : LX) (st : List Value) (a : Nat) (w : AH), Ex M_X6_get lv 9 l (.ref a :: st) w = if (gf (hg w a) 6 0).isSome = true then Ex M_X6_get lv 12 l (vV (gf (hg w a) 6 0) :: st) w else none)
  ∧ (∀ (lv : Nat) (st : List Value) (t : LX) (o0 : Option Value) (x : Int32) (w : AH), Ex M_X6_get lv 12 (o0 :: some (.int x) :: t) st w = Ex M_X6_get lv 13 (o0 :: some (.int x) :: t) (.int x :: st) w)
  ∧ (∀ (lv : Nat) (l : LX) (st : List Value) (a : Nat) (i : Int32) (w : AH), Ex M_X6_get lv 13 l (.int i :: .ref a :: st) w = if (aI (hg w a) i).isSome = true then Ex M_X6_get lv 14 l (.int (vI (aI (hg w a) i)) :: st) w else none)
  ∧ (∀ (lv : Nat) (l : LX) (st : List Value) (w : AH), Ex M_X6_get lv 14 l st w = Ex M_X6_get lv 18 l st w)
  ∧ (∀ (lv : Nat) (l : LX) (st : List Value) (w : AH), Ex M_X6_get lv 17 l st w = Ex M_X6_get lv 18 l (.int 0 :: st) w)
  ∧ (∀ (lv : Nat) (l : LX) (x : Int32) (w : AH), Ex M_X6_get lv 18 l [.int x] w = some (some (.int x), w)) :=
  ⟨(fun lv st t x w => Ex_M (i := .aload_n 0) (n := 1) (by decide +kernel) rfl rfl rfl),
   (fun lv st t w => Ex_M (i := .aload_n 0) (n := 1) (by decide +kernel) rfl rfl rfl),
   (fun lv st t o0 x w => Ex_M (i := .iload_n 1) (n := 1) (by decide +kernel) rfl rfl rfl),
   (fun lv l b a0 w => Ex_callV (by decide +kernel : decode M_X6_get.2.1 2 = .ok (.invokevirtual 23, 3)) rfl (by rfl : resM (mCn M_X6_get) 23 = some (2, M_X6_has)) rfl (by rfl) (Nat.le_of_ble_eq_true rfl) (by decide +kernel) (sLv_lt (by decide +kernel))),
   (fun lv l st x w => Ex_if_eq (by decide +kernel : decode M_X6_get.2.1 5 = .ok (.ifCond .eq 12, 3)) rfl rfl),
   (fun lv st t x w => Ex_M (i := .aload_n 0) (n := 1) (by decide +kernel) rfl rfl rfl),
   (fun lv st t w => Ex_M (i := .aload_n 0) (n := 1) (by decide +kernel) rfl rfl rfl),
   (fun lv l st a w => Ex_getf (by decide +kernel : decode M_X6_get.2.1 9 = .ok (.getfield 19, 3)) rfl (by decide +kernel : resF (mCn M_X6_get) 19 = some (6, 0, (.array .int), true))),
   (fun lv st t o0 x w => Ex_M (i := .iload_n 1) (n := 1) (by decide +kernel) rfl rfl rfl),
   (fun lv l st a i w => Ex_ial (by decide +kernel : decode M_X6_get.2.1 13 = .ok (.iaload, 1)) rfl),
   (fun lv l st w => Ex_goto (by decide +kernel : decode M_X6_get.2.1 14 = .ok (.goto 4, 3)) rfl),
   (fun lv l st w => Ex_A (i := .iconst 0) (n := 1) (by decide +kernel) rfl rfl),
   (fun lv l x w => Ex_R (i := .ireturn) (n := 1) (by decide +kernel) rfl rfl rfl rfl rfl)⟩
set_option maxRecDepth 20000 in
set_option maxHeartbeats 4000000 in
theorem R_X6_add : (∀ (lv : Nat) (st : List Value) (t : LX) (x : Nat) (w : AH), Ex M_X6_add lv 0 (some (.ref x) :: t) st w = Ex M_X6_add lv 1 (some (.ref x) :: t) (.ref x :: st) w)
  ∧ (∀ (lv : Nat) (st : List Value) (t : LX) (w : AH), Ex M_X6_add lv 0 (some (.null) :: t) st w = Ex M_X6_add lv 1 (some (.null) :: t) (.null :: st) w)
  ∧ (∀ (lv : Nat) (l : LX) (st : List Value) (a : Nat) (w : AH), Ex M_X6_add lv 1 l (.ref a :: st) w = if (gf (hg w a) 6 1).isSome = true then Ex M_X6_add lv 4 l (vV (gf (hg w a) 6 1) :: st) w else none)
  ∧ (∀ (lv : Nat) (l : LX) (st : List Value) (x : Int32) (w : AH), Ex M_X6_add lv 4 l (.int x :: st) w = if x < 0 then Ex M_X6_add lv 19 l st w else Ex M_X6_add lv 7 l st w)
  ∧ (∀ (lv : Nat) (st : List Value) (t : LX) (x : Nat) (w : AH), Ex M_X6_add lv 7 (some (.ref x) :: t) st w = Ex M_X6_add lv 8 (some (.ref x) :: t) (.ref x :: st) w)
  ∧ (∀ (lv : Nat) (st : List Value) (t : LX) (w : AH), Ex M_X6_add lv 7 (some (.null) :: t) st w = Ex M_X6_add lv 8 (some (.null) :: t) (.null :: st) w)
  ∧ (∀ (lv : Nat) (l : LX) (st : List Value) (a : Nat) (w : AH), Ex M_X6_add lv 8 l (.ref a :: st) w = if (gf (hg w a) 6 1).isSome = true then Ex M_X6_add lv 11 l (vV (gf (hg w a) 6 1) :: st) w else none)
  ∧ (∀ (lv : Nat) (st : List Value) (t : LX) (x : Nat) (w : AH), Ex M_X6_add lv 11 (some (.ref x) :: t) st w = Ex M_X6_add lv 12 (some (.ref x) :: t) (.ref x :: st) w)
  ∧ (∀ (lv : Nat) (st : List Value) (t : LX) (w : AH), Ex M_X6_add lv 11 (some (.null) :: t) st w = Ex M_X6_add lv 12 (some (.null) :: t) (.null :: st) w)
  ∧ (∀ (lv : Nat) (l : LX) (st : List Value) (a : Nat) (w : AH), Ex M_X6_add lv 12 l (.ref a :: st) w = if (gf (hg w a) 6 0).isSome = true then Ex M_X6_add lv 15 l (vV (gf (hg w a) 6 0) :: st) w else none)
  ∧ (∀ (lv : Nat) (l : LX) (st : List Value) (a : Nat) (w : AH), Ex M_X6_add lv 15 l (.ref a :: st) w = if (aL (hg w a)).isSome = true then Ex M_X6_add lv 16 l (.int (vI (aL (hg w a))) :: st) w else none)
  ∧ (∀ (lv : Nat) (l : LX) (st : List Value) (x y : Int32) (w : AH), Ex M_X6_add lv 16 l (.int y :: .int x :: st) w = if x < y then Ex M_X6_add lv 21 l st w else Ex M_X6_add lv 19 l st w)
  ∧ (∀ (lv : Nat) (l : LX) (st : List Value) (w : AH), Ex M_X6_add lv 19 l st w = Ex M_X6_add lv 20 l (.int 0 :: st) w)
  ∧ (∀ (lv : Nat) (l : LX) (x : Int32) (w : AH), Ex M_X6_add lv 20 l [.int x] w = if x = 0 ∨ x = 1 then some (some (.int x), w) else none)
  ∧ (∀ (lv : Nat) (st : List Value) (t : LX) (x : Nat) (w : AH), Ex M_X6_add lv 21 (some (.ref x) :: t) st w = Ex M_X6_add lv 22 (some (.ref x) :: t) (.ref x :: st) w)
  ∧ (∀ (lv : Nat) (st : List Value) (t : LX) (w : AH), Ex M_X6_add lv 21 (some (.null) :: t) st w = Ex M_X6_add lv 22 (some (.null) :: t) (.null :: st) w)
  ∧ (∀ (lv : Nat) (l : LX) (st : List Value) (a : Nat) (w : AH), Ex M_X6_add lv 22 l (.ref a :: st) w = if (gf (hg w a) 6 0).isSome = true then Ex M_X6_add lv 25 l (vV (gf (hg w a) 6 0) :: st) w else none)
  ∧ (∀ (lv : Nat) (st : List Value) (t : LX) (x : Nat) (w : AH), Ex M_X6_add lv 25 (some (.ref x) :: t) st w = Ex M_X6_add lv 26 (some (.ref x) :: t) (.ref x :: st) w)
  ∧ (∀ (lv : Nat) (st : List Value) (t : LX) (w : AH), Ex M_X6_add lv 25 (some (.null) :: t) st w = Ex M_X6_add lv 26 (some (.null) :: t) (.null :: st) w)
  ∧ (∀ (lv : Nat) (l : LX) (st : List Value) (a : Nat) (w : AH), Ex M_X6_add lv 26 l (.ref a :: st) w = if (gf (hg w a) 6 1).isSome = true then Ex M_X6_add lv 29 l (vV (gf (hg w a) 6 1) :: st) w else none)
  ∧ (∀ (lv : Nat) (st : List Value) (t : LX) (o0 : Option Value) (x : Int32) (w : AH), Ex M_X6_add lv 29 (o0 :: some (.int x) :: t) st w = Ex M_X6_add lv 30 (o0 :: some (.int x) :: t) (.int x :: st) w)
  ∧ (∀ (lv : Nat) (l : LX) (st : List Value) (a : Nat) (i : Int32) (x : Int32) (w : AH), Ex M_X6_add lv 30 l (.int x :: .int i :: .ref a :: st) w = if (uI (hg w a) i x).isSome = true then Ex M_X6_add lv 31 l st (hs w a (vE (uI (hg w a) i x))) else none)
  ∧ (∀ (lv : Nat) (st : List Value) (t : LX) (x : Nat) (w : AH), Ex M_X6_add lv 31 (some (.ref x) :: t) st w = Ex M_X6_add lv 32 (some (.ref x) :: t) (.ref x :: st) w)
  ∧ (∀ (lv : Nat) (st : List Value) (t : LX) (w : AH), Ex M_X6_add lv 31 (some (.null) :: t) st w = Ex M_X6_add lv 32 (some (.null) :: t) (.null :: st) w)
  ∧ (∀ (lv : Nat) (l : LX) (st : List Value) (x : Nat) (w : AH), Ex M_X6_add lv 32 l (.ref x :: st) w = Ex M_X6_add lv 33 l (.ref x :: .ref x :: st) w)
  ∧ (∀ (lv : Nat) (l : LX) (st : List Value) (a : Nat) (w : AH), Ex M_X6_add lv 33 l (.ref a :: st) w = if (gf (hg w a) 6 1).isSome = true then Ex M_X6_add lv 36 l (vV (gf (hg w a) 6 1) :: st) w else none)
  ∧ (∀ (lv : Nat) (l : LX) (st : List Value) (w : AH), Ex M_X6_add lv 36 l st w = Ex M_X6_add lv 37 l (.int 1 :: st) w)
  ∧ (∀ (lv : Nat) (l : LX) (st : List Value) (x y : Int32) (w : AH), Ex M_X6_add lv 37 l (.int y :: .int x :: st) w = Ex M_X6_add lv 38 l (.int (x + y) :: st) w)
  ∧ (∀ (lv : Nat) (l : LX) (st : List Value) (a : Nat) (v : Value) (w : AH), Ex M_X6_add lv 38 l (v :: .ref a :: st) w = if (pf (hg w a) 6 1 .int v).isSome = true then Ex M_X6_add lv 41 l st (hs w a (vE (pf (hg w a) 6 1 .int v))) else none)
  ∧ (∀ (lv : Nat) (l : LX) (st : List Value) (w : AH), Ex M_X6_add lv 41 l st w = Ex M_X6_add lv 42 l (.int 1 :: st) w)
  ∧ (∀ (lv : Nat) (l : LX) (x : Int32) (w : AH), Ex M_X6_add lv 42 l [.int x] w = if x = 0 ∨ x = 1 then some (some (.int x), w) else none) :=
  ⟨(fun lv st t x w => Ex_M (i := .aload_n 0) (n := 1) (by decide +kernel) rfl rfl rfl),
   (fun lv st t w => Ex_M (i := .aload_n 0) (n := 1) (by decide +kernel) rfl rfl rfl),
   (fun lv l st a w => Ex_getf (by decide +kernel : decode M_X6_add.2.1 1 = .ok (.getfield 7, 3)) rfl (by decide +kernel : resF (mCn M_X6_add) 7 = some (6, 1, .int, false))),
   (fun lv l st x w => Ex_if_lt (by decide +kernel : decode M_X6_add.2.1 4 = .ok (.ifCond .lt 15, 3)) rfl rfl),
   (fun lv st t x w => Ex_M (i := .aload_n 0) (n := 1) (by decide +kernel) rfl rfl rfl),
   (fun lv st t w => Ex_M (i := .aload_n 0) (n := 1) (by decide +kernel) rfl rfl rfl),
   (fun lv l st a w => Ex_getf (by decide +kernel : decode M_X6_add.2.1 8 = .ok (.getfield 7, 3)) rfl (by decide +kernel : resF (mCn M_X6_add) 7 = some (6, 1, .int, false))),
   (fun lv st t x w => Ex_M (i := .aload_n 0) (n := 1) (by decide +kernel) rfl rfl rfl),
   (fun lv st t w => Ex_M (i := .aload_n 0) (n := 1) (by decide +kernel) rfl rfl rfl),
   (fun lv l st a w => Ex_getf (by decide +kernel : decode M_X6_add.2.1 12 = .ok (.getfield 19, 3)) rfl (by decide +kernel : resF (mCn M_X6_add) 19 = some (6, 0, (.array .int), true))),
   (fun lv l st a w => Ex_alen (by decide +kernel : decode M_X6_add.2.1 15 = .ok (.arraylength, 1)) rfl),
   (fun lv l st x y w => Ex_icmp_lt (by decide +kernel : decode M_X6_add.2.1 16 = .ok (.if_icmp .lt 5, 3)) rfl rfl),
   (fun lv l st w => Ex_A (i := .iconst 0) (n := 1) (by decide +kernel) rfl rfl),
   (fun lv l x w => Ex_zret (by decide +kernel : decode M_X6_add.2.1 20 = .ok (.ireturn, 1)) rfl),
   (fun lv st t x w => Ex_M (i := .aload_n 0) (n := 1) (by decide +kernel) rfl rfl rfl),
   (fun lv st t w => Ex_M (i := .aload_n 0) (n := 1) (by decide +kernel) rfl rfl rfl),
   (fun lv l st a w => Ex_getf (by decide +kernel : decode M_X6_add.2.1 22 = .ok (.getfield 19, 3)) rfl (by decide +kernel : resF (mCn M_X6_add) 19 = some (6, 0, (.array .int), true))),
   (fun lv st t x w => Ex_M (i := .aload_n 0) (n := 1) (by decide +kernel) rfl rfl rfl),
   (fun lv st t w => Ex_M (i := .aload_n 0) (n := 1) (by decide +kernel) rfl rfl rfl),
   (fun lv l st a w => Ex_getf (by decide +kernel : decode M_X6_add.2.1 26 = .ok (.getfield 7, 3)) rfl (by decide +kernel : resF (mCn M_X6_add) 7 = some (6, 1, .int, false))),
   (fun lv st t o0 x w => Ex_M (i := .iload_n 1) (n := 1) (by decide +kernel) rfl rfl rfl),
   (fun lv l st a i x w => Ex_ias (by decide +kernel : decode M_X6_add.2.1 30 = .ok (.iastore, 1)) rfl),
   (fun lv st t x w => Ex_M (i := .aload_n 0) (n := 1) (by decide +kernel) rfl rfl rfl),
   (fun lv st t w => Ex_M (i := .aload_n 0) (n := 1) (by decide +kernel) rfl rfl rfl),
   (fun lv l st x w => Ex_A (i := .dup) (n := 1) (by decide +kernel) rfl rfl),
   (fun lv l st a w => Ex_getf (by decide +kernel : decode M_X6_add.2.1 33 = .ok (.getfield 7, 3)) rfl (by decide +kernel : resF (mCn M_X6_add) 7 = some (6, 1, .int, false))),
   (fun lv l st w => Ex_A (i := .iconst 1) (n := 1) (by decide +kernel) rfl rfl),
   (fun lv l st x y w => Ex_A (i := .iadd) (n := 1) (by decide +kernel) rfl rfl),
   (fun lv l st a v w => Ex_putf (by decide +kernel : decode M_X6_add.2.1 38 = .ok (.putfield 7, 3)) rfl (by decide +kernel : resF (mCn M_X6_add) 7 = some (6, 1, .int, false)) (by decide +kernel)),
   (fun lv l st w => Ex_A (i := .iconst 1) (n := 1) (by decide +kernel) rfl rfl),
   (fun lv l x w => Ex_zret (by decide +kernel : decode M_X6_add.2.1 42 = .ok (.ireturn, 1)) rfl)⟩
set_option maxRecDepth 20000 in
set_option maxHeartbeats 4000000 in
theorem R_X6_clear : (∀ (lv : Nat) (st : List Value) (t : LX) (x : Nat) (w : AH), Ex M_X6_clear lv 0 (some (.ref x) :: t) st w = Ex M_X6_clear lv 1 (some (.ref x) :: t) (.ref x :: st) w)
  ∧ (∀ (lv : Nat) (st : List Value) (t : LX) (w : AH), Ex M_X6_clear lv 0 (some (.null) :: t) st w = Ex M_X6_clear lv 1 (some (.null) :: t) (.null :: st) w)
  ∧ (∀ (lv : Nat) (l : LX) (st : List Value) (w : AH), Ex M_X6_clear lv 1 l st w = Ex M_X6_clear lv 2 l (.int 0 :: st) w)
  ∧ (∀ (lv : Nat) (l : LX) (st : List Value) (a : Nat) (v : Value) (w : AH), Ex M_X6_clear lv 2 l (v :: .ref a :: st) w = if (pf (hg w a) 6 1 .int v).isSome = true then Ex M_X6_clear lv 5 l st (hs w a (vE (pf (hg w a) 6 1 .int v))) else none)
  ∧ (∀ (lv : Nat) (l : LX) (w : AH), Ex M_X6_clear lv 5 l [] w = some (none, w)) :=
  ⟨(fun lv st t x w => Ex_M (i := .aload_n 0) (n := 1) (by decide +kernel) rfl rfl rfl),
   (fun lv st t w => Ex_M (i := .aload_n 0) (n := 1) (by decide +kernel) rfl rfl rfl),
   (fun lv l st w => Ex_A (i := .iconst 0) (n := 1) (by decide +kernel) rfl rfl),
   (fun lv l st a v w => Ex_putf (by decide +kernel : decode M_X6_clear.2.1 2 = .ok (.putfield 7, 3)) rfl (by decide +kernel : resF (mCn M_X6_clear) 7 = some (6, 1, .int, false)) (by decide +kernel)),
   (fun lv l w => Ex_R (i := .return_) (n := 1) (by decide +kernel) rfl rfl rfl rfl rfl)⟩
set_option maxRecDepth 20000 in
theorem H_X6_copyFrom_6 : ∀ (lv : Nat) (st : List Value) (t : LX) (o0 o1 : Option Value) (x : Int32) (w : AH), Ex M_X6_copyFrom lv 6 (o0 :: o1 :: some (.int x) :: t) st w = Ex M_X6_copyFrom lv 7 (o0 :: o1 :: some (.int x) :: t) (.int x :: st) w := fun lv st t o0 o1 x w => Ex_M (i := .iload_n 2) (n := 1) (by decide +kernel) rfl rfl rfl
set_option maxRecDepth 20000 in
set_option maxHeartbeats 4000000 in
theorem R_X6_copyFrom : (∀ (lv : Nat) (st : List Value) (t : LX) (x : Nat) (w : AH), Ex M_X6_copyFrom lv 0 (some (.ref x) :: t) st w = Ex M_X6_copyFrom lv 1 (some (.ref x) :: t) (.ref x :: st) w)
  ∧ (∀ (lv : Nat) (st : List Value) (t : LX) (w : AH), Ex M_X6_copyFrom lv 0 (some (.null) :: t) st w = Ex M_X6_copyFrom lv 1 (some (.null) :: t) (.null :: st) w)
  ∧ (∀ (lv : Nat) (l : LX) (b : Nat) (w : AH), Ex M_X6_copyFrom lv 1 l (.ref b :: []) w = if clK (hg w b) = 6 then (if (Call M_X6_clear 60 [.ref b] w).isSome = true then Ex M_X6_copyFrom lv 4 l (pushR (cV (Call M_X6_clear 60 [.ref b] w)) []) (cW (Call M_X6_clear 60 [.ref b] w) w) else none) else none)
  ∧ (∀ (lv : Nat) (l : LX) (st : List Value) (w : AH), Ex M_X6_copyFrom lv 4 l st w = Ex M_X6_copyFrom lv 5 l (.int 0 :: st) w)
  ∧ (∀ (lv : Nat) (l : LX) (st : List Value) (x : Int32) (w : AH), Ex M_X6_copyFrom lv 5 l (.int x :: st) w = Ex M_X6_copyFrom lv 6 (ls1 l 2 (.int x)) st w)
  ∧ (∀ (lv : Nat) (st : List Value) (t : LX) (o0 : Option Value) (x : Nat) (w : AH), Ex M_X6_copyFrom lv 7 (o0 :: some (.ref x) :: t) st w = Ex M_X6_copyFrom lv 8 (o0 :: some (.ref x) :: t) (.ref x :: st) w)
  ∧ (∀ (lv : Nat) (st : List Value) (t : LX) (o0 : Option Value) (w : AH), Ex M_X6_copyFrom lv 7 (o0 :: some (.null) :: t) st w = Ex M_X6_copyFrom lv 8 (o0 :: some (.null) :: t) (.null :: st) w)
  ∧ (∀ (lv : Nat) (l : LX) (st : List Value) (a : Nat) (w : AH), Ex M_X6_copyFrom lv 8 l (.ref a :: st) w = if (gf (hg w a) 6 1).isSome = true then Ex M_X6_copyFrom lv 11 l (vV (gf (hg w a) 6 1) :: st) w else none)
  ∧ (∀ (lv : Nat) (l : LX) (st : List Value) (x y : Int32) (w : AH), Ex M_X6_copyFrom lv 11 l (.int y :: .int x :: st) w = if y ≤ x then Ex M_X6_copyFrom lv 30 l st w else Ex M_X6_copyFrom lv 14 l st w)
  ∧ (∀ (lv : Nat) (st : List Value) (t : LX) (x : Nat) (w : AH), Ex M_X6_copyFrom lv 14 (some (.ref x) :: t) st w = Ex M_X6_copyFrom lv 15 (some (.ref x) :: t) (.ref x :: st) w)
  ∧ (∀ (lv : Nat) (st : List Value) (t : LX) (w : AH), Ex M_X6_copyFrom lv 14 (some (.null) :: t) st w = Ex M_X6_copyFrom lv 15 (some (.null) :: t) (.null :: st) w)
  ∧ (∀ (lv : Nat) (st : List Value) (t : LX) (o0 : Option Value) (x : Nat) (w : AH), Ex M_X6_copyFrom lv 15 (o0 :: some (.ref x) :: t) st w = Ex M_X6_copyFrom lv 16 (o0 :: some (.ref x) :: t) (.ref x :: st) w)
  ∧ (∀ (lv : Nat) (st : List Value) (t : LX) (o0 : Option Value) (w : AH), Ex M_X6_copyFrom lv 15 (o0 :: some (.null) :: t) st w = Ex M_X6_copyFrom lv 16 (o0 :: some (.null) :: t) (.null :: st) w)
  ∧ (∀ (lv : Nat) (st : List Value) (t : LX) (o0 o1 : Option Value) (x : Int32) (w : AH), Ex M_X6_copyFrom lv 16 (o0 :: o1 :: some (.int x) :: t) st w = Ex M_X6_copyFrom lv 17 (o0 :: o1 :: some (.int x) :: t) (.int x :: st) w)
  ∧ (∀ (lv : Nat) (l : LX) (b : Nat) (a0 : Int32) (s0 : Nat) (w : AH), Ex M_X6_copyFrom lv 17 l (.int a0 :: .ref b :: [.ref s0]) w = if clK (hg w b) = 6 then (if (Call M_X6_get 60 [.ref b, .int a0] w).isSome = true then Ex M_X6_copyFrom lv 20 l (pushR (cV (Call M_X6_get 60 [.ref b, .int a0] w)) [.ref s0]) (cW (Call M_X6_get 60 [.ref b, .int a0] w) w) else none) else none)
  ∧ (∀ (lv : Nat) (l : LX) (b : Nat) (a0 : Int32) (w : AH), Ex M_X6_copyFrom lv 20 l (.int a0 :: .ref b :: []) w = if clK (hg w b) = 6 then (if (Call M_X6_add 60 [.ref b, .int a0] w).isSome = true then Ex M_X6_copyFrom lv 23 l (pushR (cV (Call M_X6_add 60 [.ref b, .int a0] w)) []) (cW (Call M_X6_add 60 [.ref b, .int a0] w) w) else none) else none)
  ∧ (∀ (lv : Nat) (l : LX) (st : List Value) (x : Int32) (w : AH), Ex M_X6_copyFrom lv 23 l (.int x :: st) w = Ex M_X6_copyFrom lv 24 l st w)
  ∧ (∀ (lv : Nat) (st : List Value) (t : LX) (o0 o1 : Option Value) (x : Int32) (w : AH), Ex M_X6_copyFrom lv 24 (o0 :: o1 :: some (.int x) :: t) st w = Ex M_X6_copyFrom lv 27 (ls1 (o0 :: o1 :: some (.int x) :: t) 2 (.int (x + 1))) st w)
  ∧ (∀ (lv : Nat) (l : LX) (st : List Value) (w : AH), Ex M_X6_copyFrom lv 27 l st w = Ex M_X6_copyFrom lv 6 l st w)
  ∧ (∀ (lv : Nat) (l : LX) (w : AH), Ex M_X6_copyFrom lv 30 l [] w = some (none, w)) :=
  ⟨(fun lv st t x w => Ex_M (i := .aload_n 0) (n := 1) (by decide +kernel) rfl rfl rfl),
   (fun lv st t w => Ex_M (i := .aload_n 0) (n := 1) (by decide +kernel) rfl rfl rfl),
   (fun lv l b w => Ex_callV (by decide +kernel : decode M_X6_copyFrom.2.1 1 = .ok (.invokevirtual 27, 3)) rfl (by rfl : resM (mCn M_X6_copyFrom) 27 = some (2, M_X6_clear)) rfl (by rfl) (Nat.le_of_ble_eq_true rfl) (by decide +kernel) (sLv_lt (by decide +kernel))),
   (fun lv l st w => Ex_A (i := .iconst 0) (n := 1) (by decide +kernel) rfl rfl),
   (fun lv l st x w => Ex_M (i := .istore_n 2) (n := 1) (by decide +kernel) rfl rfl rfl),
   (fun lv st t o0 x w => Ex_M (i := .aload_n 1) (n := 1) (by decide +kernel) rfl rfl rfl),
   (fun lv st t o0 w => Ex_M (i := .aload_n 1) (n := 1) (by decide +kernel) rfl rfl rfl),
   (fun lv l st a w => Ex_getf (by decide +kernel : decode M_X6_copyFrom.2.1 8 = .ok (.getfield 7, 3)) rfl (by decide +kernel : resF (mCn M_X6_copyFrom) 7 = some (6, 1, .int, false))),
   (fun lv l st x y w => Ex_icmp_ge (by decide +kernel : decode M_X6_copyFrom.2.1 11 = .ok (.if_icmp .ge 19, 3)) rfl rfl),
   (fun lv st t x w => Ex_M (i := .aload_n 0) (n := 1) (by decide +kernel) rfl rfl rfl),
   (fun lv st t w => Ex_M (i := .aload_n 0) (n := 1) (by decide +kernel) rfl rfl rfl),
   (fun lv st t o0 x w => Ex_M (i := .aload_n 1) (n := 1) (by decide +kernel) rfl rfl rfl),
   (fun lv st t o0 w => Ex_M (i := .aload_n 1) (n := 1) (by decide +kernel) rfl rfl rfl),
   (fun lv st t o0 o1 x w => Ex_M (i := .iload_n 2) (n := 1) (by decide +kernel) rfl rfl rfl),
   (fun lv l b a0 s0 w => Ex_callV (by decide +kernel : decode M_X6_copyFrom.2.1 17 = .ok (.invokevirtual 30, 3)) rfl (by rfl : resM (mCn M_X6_copyFrom) 30 = some (2, M_X6_get)) rfl (by rfl) (Nat.le_of_ble_eq_true rfl) (by decide +kernel) (sLv_lt (by decide +kernel))),
   (fun lv l b a0 w => Ex_callV (by decide +kernel : decode M_X6_copyFrom.2.1 20 = .ok (.invokevirtual 34, 3)) rfl (by rfl : resM (mCn M_X6_copyFrom) 34 = some (2, M_X6_add)) rfl (by rfl) (Nat.le_of_ble_eq_true rfl) (by decide +kernel) (sLv_lt (by decide +kernel))),
   (fun lv l st x w => Ex_A (i := .pop) (n := 1) (by decide +kernel) rfl rfl),
   (fun lv st t o0 o1 x w => Ex_iinc (by decide +kernel : decode M_X6_copyFrom.2.1 24 = .ok (.iinc 2 1, 3)) rfl rfl (by decide) (by decide)),
   (fun lv l st w => Ex_goto (by decide +kernel : decode M_X6_copyFrom.2.1 27 = .ok (.goto (-21), 3)) rfl),
   (fun lv l w => Ex_R (i := .return_) (n := 1) (by decide +kernel) rfl rfl rfl rfl rfl)⟩
set_option maxRecDepth 20000 in
set_option maxHeartbeats 4000000 in
theorem R_X7_of : (∀ (lv : Nat) (st : List Value) (t : LX) (x : Int32) (w : AH), Ex M_X7_of lv 0 (some (.int x) :: t) st w = Ex M_X7_of lv 1 (some (.int x) :: t) (.int x :: st) w)
  ∧ (∀ (lv : Nat) (l : LX) (a0 : Int32) (w : AH), Ex M_X7_of lv 1 l (.int a0 :: []) w = if (Call M_X11_isKnot 60 [.int a0] w).isSome = true then Ex M_X7_of lv 4 l (pushR (cV (Call M_X11_isKnot 60 [.int a0] w)) []) (cW (Call M_X11_isKnot 60 [.int a0] w) w) else none)
  ∧ (∀ (lv : Nat) (l : LX) (st : List Value) (x : Int32) (w : AH), Ex M_X7_of lv 4 l (.int x :: st) w = if x = 0 then Ex M_X7_of lv 13 l st w else Ex M_X7_of lv 7 l st w)
  ∧ (∀ (lv : Nat) (l : LX) (st : List Value) (w : AH), Ex M_X7_of lv 7 l st w = Ex M_X7_of lv 8 l (.long 1 :: st) w)
  ∧ (∀ (lv : Nat) (st : List Value) (t : LX) (x : Int32) (w : AH), Ex M_X7_of lv 8 (some (.int x) :: t) st w = Ex M_X7_of lv 9 (some (.int x) :: t) (.int x :: st) w)
  ∧ (∀ (lv : Nat) (l : LX) (st : List Value) (x : Int64) (y : Int32) (w : AH), Ex M_X7_of lv 9 l (.int y :: .long x :: st) w = Ex M_X7_of lv 10 l (.long (x <<< (y.toInt64 &&& 63)) :: st) w)
  ∧ (∀ (lv : Nat) (l : LX) (st : List Value) (w : AH), Ex M_X7_of lv 10 l st w = Ex M_X7_of lv 14 l st w)
  ∧ (∀ (lv : Nat) (l : LX) (st : List Value) (w : AH), Ex M_X7_of lv 13 l st w = Ex M_X7_of lv 14 l (.long 0 :: st) w)
  ∧ (∀ (lv : Nat) (l : LX) (x : Int64) (w : AH), Ex M_X7_of lv 14 l [.long x] w = some (some (.long x), w)) :=
  ⟨(fun lv st t x w => Ex_M (i := .iload_n 0) (n := 1) (by decide +kernel) rfl rfl rfl),
   (fun lv l a0 w => Ex_callS (by decide +kernel : decode M_X7_of.2.1 1 = .ok (.invokestatic 11, 3)) rfl (by rfl : resM (mCn M_X7_of) 11 = some (1, M_X11_isKnot)) (by decide) rfl (by rfl) (Nat.le_of_ble_eq_true rfl) (sLv_lt (by decide +kernel))),
   (fun lv l st x w => Ex_if_eq (by decide +kernel : decode M_X7_of.2.1 4 = .ok (.ifCond .eq 9, 3)) rfl rfl),
   (fun lv l st w => Ex_A (i := .lconst 1) (n := 1) (by decide +kernel) rfl rfl),
   (fun lv st t x w => Ex_M (i := .iload_n 0) (n := 1) (by decide +kernel) rfl rfl rfl),
   (fun lv l st x y w => Ex_A (i := .lshl) (n := 1) (by decide +kernel) rfl rfl),
   (fun lv l st w => Ex_goto (by decide +kernel : decode M_X7_of.2.1 10 = .ok (.goto 4, 3)) rfl),
   (fun lv l st w => Ex_A (i := .lconst 0) (n := 1) (by decide +kernel) rfl rfl),
   (fun lv l x w => Ex_R (i := .lreturn) (n := 1) (by decide +kernel) rfl rfl rfl rfl rfl)⟩
set_option maxRecDepth 20000 in
set_option maxHeartbeats 4000000 in
theorem R_X7_has : (∀ (lv : Nat) (st : List Value) (t : LX) (x : Int64) (w : AH), Ex M_X7_has lv 0 (some (.long x) :: t) st w = Ex M_X7_has lv 1 (some (.long x) :: t) (.long x :: st) w)
  ∧ (∀ (lv : Nat) (st : List Value) (t : LX) (o0 o1 : Option Value) (x : Int32) (w : AH), Ex M_X7_has lv 1 (o0 :: o1 :: some (.int x) :: t) st w = Ex M_X7_has lv 2 (o0 :: o1 :: some (.int x) :: t) (.int x :: st) w)
  ∧ (∀ (lv : Nat) (l : LX) (a0 : Int32) (s0 : Int64) (w : AH), Ex M_X7_has lv 2 l (.int a0 :: [.long s0]) w = if (Call M_X7_of 60 [.int a0] w).isSome = true then Ex M_X7_has lv 5 l (pushR (cV (Call M_X7_of 60 [.int a0] w)) [.long s0]) (cW (Call M_X7_of 60 [.int a0] w) w) else none)
  ∧ (∀ (lv : Nat) (l : LX) (st : List Value) (x y : Int64) (w : AH), Ex M_X7_has lv 5 l (.long y :: .long x :: st) w = Ex M_X7_has lv 6 l (.long (x &&& y) :: st) w)
  ∧ (∀ (lv : Nat) (l : LX) (st : List Value) (w : AH), Ex M_X7_has lv 6 l st w = Ex M_X7_has lv 7 l (.long 0 :: st) w)
  ∧ (∀ (lv : Nat) (l : LX) (st : List Value) (x y : Int64) (w : AH), Ex M_X7_has lv 7 l (.long y :: .long x :: st) w = Ex M_X7_has lv 8 l (.int (lg_cmp x y) :: st) w)
  ∧ (∀ (lv : Nat) (l : LX) (st : List Value) (x : Int32) (w : AH), Ex M_X7_has lv 8 l (.int x :: st) w = if x = 0 then Ex M_X7_has lv 15 l st w else Ex M_X7_has lv 11 l st w)
  ∧ (∀ (lv : Nat) (l : LX) (st : List Value) (w : AH), Ex M_X7_has lv 11 l st w = Ex M_X7_has lv 12 l (.int 1 :: st) w)
  ∧ (∀ (lv : Nat) (l : LX) (st : List Value) (w : AH), Ex M_X7_has lv 12 l st w = Ex M_X7_has lv 16 l st w)
  ∧ (∀ (lv : Nat) (l : LX) (st : List Value) (w : AH), Ex M_X7_has lv 15 l st w = Ex M_X7_has lv 16 l (.int 0 :: st) w)
  ∧ (∀ (lv : Nat) (l : LX) (x : Int32) (w : AH), Ex M_X7_has lv 16 l [.int x] w = if x = 0 ∨ x = 1 then some (some (.int x), w) else none) :=
  ⟨(fun lv st t x w => Ex_M (i := .lload_n 0) (n := 1) (by decide +kernel) rfl rfl rfl),
   (fun lv st t o0 o1 x w => Ex_M (i := .iload_n 2) (n := 1) (by decide +kernel) rfl rfl rfl),
   (fun lv l a0 s0 w => Ex_callS (by decide +kernel : decode M_X7_has.2.1 2 = .ok (.invokestatic 15, 3)) rfl (by rfl : resM (mCn M_X7_has) 15 = some (0, M_X7_of)) (by decide) rfl (by rfl) (Nat.le_of_ble_eq_true rfl) (sLv_lt (by decide +kernel))),
   (fun lv l st x y w => Ex_A (i := .land) (n := 1) (by decide +kernel) rfl rfl),
   (fun lv l st w => Ex_A (i := .lconst 0) (n := 1) (by decide +kernel) rfl rfl),
   (fun lv l st x y w => Ex_A (i := .lcmp) (n := 1) (by decide +kernel) rfl rfl),
   (fun lv l st x w => Ex_if_eq (by decide +kernel : decode M_X7_has.2.1 8 = .ok (.ifCond .eq 7, 3)) rfl rfl),
   (fun lv l st w => Ex_A (i := .iconst 1) (n := 1) (by decide +kernel) rfl rfl),
   (fun lv l st w => Ex_goto (by decide +kernel : decode M_X7_has.2.1 12 = .ok (.goto 4, 3)) rfl),
   (fun lv l st w => Ex_A (i := .iconst 0) (n := 1) (by decide +kernel) rfl rfl),
   (fun lv l x w => Ex_zret (by decide +kernel : decode M_X7_has.2.1 16 = .ok (.ireturn, 1)) rfl)⟩
set_option maxRecDepth 20000 in
set_option maxHeartbeats 4000000 in
theorem R_X7_least : (∀ (lv : Nat) (st : List Value) (t : LX) (x : Int64) (w : AH), Ex M_X7_least lv 0 (some (.long x) :: t) st w = Ex M_X7_least lv 1 (some (.long x) :: t) (.long x :: st) w)
  ∧ (∀ (lv : Nat) (l : LX) (st : List Value) (w : AH), Ex M_X7_least lv 1 l st w = Ex M_X7_least lv 2 l (.long 0 :: st) w)
  ∧ (∀ (lv : Nat) (l : LX) (st : List Value) (x y : Int64) (w : AH), Ex M_X7_least lv 2 l (.long y :: .long x :: st) w = Ex M_X7_least lv 3 l (.int (lg_cmp x y) :: st) w)
  ∧ (∀ (lv : Nat) (l : LX) (st : List Value) (x : Int32) (w : AH), Ex M_X7_least lv 3 l (.int x :: st) w = if ¬ x = 0 then Ex M_X7_least lv 10 l st w else Ex M_X7_least lv 6 l st w)
  ∧ (∀ (lv : Nat) (l : LX) (st : List Value) (w : AH), Ex M_X7_least lv 6 l st w = Ex M_X7_least lv 7 l (.int (-1) :: st) w)
  ∧ (∀ (lv : Nat) (l : LX) (st : List Value) (w : AH), Ex M_X7_least lv 7 l st w = Ex M_X7_least lv 19 l st w)
  ∧ (∀ (lv : Nat) (st : List Value) (t : LX) (x : Int64) (w : AH), Ex M_X7_least lv 10 (some (.long x) :: t) st w = Ex M_X7_least lv 11 (some (.long x) :: t) (.long x :: st) w)
  ∧ (∀ (lv : Nat) (st : List Value) (t : LX) (x : Int64) (w : AH), Ex M_X7_least lv 11 (some (.long x) :: t) st w = Ex M_X7_least lv 12 (some (.long x) :: t) (.long x :: st) w)
  ∧ (∀ (lv : Nat) (l : LX) (st : List Value) (x : Int64) (w : AH), Ex M_X7_least lv 12 l (.long x :: st) w = Ex M_X7_least lv 13 l (.long (-x) :: st) w)
  ∧ (∀ (lv : Nat) (l : LX) (st : List Value) (x y : Int64) (w : AH), Ex M_X7_least lv 13 l (.long y :: .long x :: st) w = Ex M_X7_least lv 14 l (.long (x &&& y) :: st) w)
  ∧ (∀ (lv : Nat) (l : LX) (st : List Value) (w : AH), Ex M_X7_least lv 14 l st w = Ex M_X7_least lv 15 l (.long 1 :: st) w)
  ∧ (∀ (lv : Nat) (l : LX) (st : List Value) (x y : Int64) (w : AH), Ex M_X7_least lv 15 l (.long y :: .long x :: st) w = Ex M_X7_least lv 16 l (.long (x - y) :: st) w)
  ∧ (∀ (lv : Nat) (l : LX) (a0 : Int64) (w : AH), Ex M_X7_least lv 16 l (.long a0 :: []) w = if (Call M_J13_bitCount_95d88 60 [.long a0] w).isSome = true then Ex M_X7_least lv 19 l (pushR (cV (Call M_J13_bitCount_95d88 60 [.long a0] w)) []) (cW (Call M_J13_bitCount_95d88 60 [.long a0] w) w) else none)
  ∧ (∀ (lv : Nat) (l : LX) (x : Int32) (w : AH), Ex M_X7_least lv 19 l [.int x] w = some (some (.int x), w)) :=
  ⟨(fun lv st t x w => Ex_M (i := .lload_n 0) (n := 1) (by decide +kernel) rfl rfl rfl),
   (fun lv l st w => Ex_A (i := .lconst 0) (n := 1) (by decide +kernel) rfl rfl),
   (fun lv l st x y w => Ex_A (i := .lcmp) (n := 1) (by decide +kernel) rfl rfl),
   (fun lv l st x w => Ex_if_ne (by decide +kernel : decode M_X7_least.2.1 3 = .ok (.ifCond .ne 7, 3)) rfl rfl),
   (fun lv l st w => Ex_A (i := .iconst (-1)) (n := 1) (by decide +kernel) rfl rfl),
   (fun lv l st w => Ex_goto (by decide +kernel : decode M_X7_least.2.1 7 = .ok (.goto 12, 3)) rfl),
   (fun lv st t x w => Ex_M (i := .lload_n 0) (n := 1) (by decide +kernel) rfl rfl rfl),
   (fun lv st t x w => Ex_M (i := .lload_n 0) (n := 1) (by decide +kernel) rfl rfl rfl),
   (fun lv l st x w => Ex_A (i := .lneg) (n := 1) (by decide +kernel) rfl rfl),
   (fun lv l st x y w => Ex_A (i := .land) (n := 1) (by decide +kernel) rfl rfl),
   (fun lv l st w => Ex_A (i := .lconst 1) (n := 1) (by decide +kernel) rfl rfl),
   (fun lv l st x y w => Ex_A (i := .lsub) (n := 1) (by decide +kernel) rfl rfl),
   (fun lv l a0 w => Ex_callS (by decide +kernel : decode M_X7_least.2.1 16 = .ok (.invokestatic 19, 3)) rfl (by rfl : resM (mCn M_X7_least) 19 = some (0, M_J13_bitCount_95d88)) (by decide) rfl (by rfl) (Nat.le_of_ble_eq_true rfl) (sLv_lt (by decide +kernel))),
   (fun lv l x w => Ex_R (i := .ireturn) (n := 1) (by decide +kernel) rfl rfl rfl rfl rfl)⟩
set_option maxRecDepth 20000 in
set_option maxHeartbeats 4000000 in
theorem R_X7_stepped : (∀ (lv : Nat) (st : List Value) (t : LX) (o0 o1 : Option Value) (x : Int32) (w : AH), Ex M_X7_stepped lv 0 (o0 :: o1 :: some (.int x) :: t) st w = Ex M_X7_stepped lv 1 (o0 :: o1 :: some (.int x) :: t) (.int x :: st) w)
  ∧ (∀ (lv : Nat) (l : LX) (st : List Value) (x : Int32) (w : AH), Ex M_X7_stepped lv 1 l (.int x :: st) w = if x = 0 then Ex M_X7_stepped lv 28 l st w else if x = 1 then Ex M_X7_stepped lv 33 l st w else if x = 2 then Ex M_X7_stepped lv 41 l st w else Ex M_X7_stepped lv 50 l st w)
  ∧ (∀ (lv : Nat) (st : List Value) (t : LX) (x : Int64) (w : AH), Ex M_X7_stepped lv 28 (some (.long x) :: t) st w = Ex M_X7_stepped lv 29 (some (.long x) :: t) (.long x :: st) w)
  ∧ (∀ (lv : Nat) (l : LX) (st : List Value) (w : AH), Ex M_X7_stepped lv 29 l st w = Ex M_X7_stepped lv 31 l (.int 6 :: st) w)
  ∧ (∀ (lv : Nat) (l : LX) (st : List Value) (x : Int64) (y : Int32) (w : AH), Ex M_X7_stepped lv 31 l (.int y :: .long x :: st) w = Ex M_X7_stepped lv 32 l (.long ((x.toUInt64 >>> (y.toInt64.toUInt64 &&& Int64.toUInt64 63)).toInt64) :: st) w)
  ∧ (∀ (lv : Nat) (l : LX) (x : Int64) (w : AH), Ex M_X7_stepped lv 32 l [.long x] w = some (some (.long x), w))
  ∧ (∀ (lv : Nat) (st : List Value) (t : LX) (x : Int64) (w : AH), Ex M_X7_stepped lv 33 (some (.long x) :: t) st w = Ex M_X7_stepped lv 34 (some (.long x) :: t) (.long x :: st) w)
  ∧ (∀ (lv : Nat) (l : LX) (st : List Value) (w : AH), Ex M_X7_stepped lv 34 l st w = Ex M_X7_stepped lv 37 l (.long (-34905131041) :: st) w)
  ∧ (∀ (lv : Nat) (l : LX) (st : List Value) (x y : Int64) (w : AH), Ex M_X7_stepped lv 37 l (.long y :: .long x :: st) w = Ex M_X7_stepped lv 38 l (.long (x &&& y) :: st) w)
  ∧ (∀ (lv : Nat) (l : LX) (st : List Value) (w : AH), Ex M_X7_stepped lv 38 l st w = Ex M_X7_stepped lv 39 l (.int 1 :: st) w)
  ∧ (∀ (lv : Nat) (l : LX) (st : List Value) (x : Int64) (y : Int32) (w : AH), Ex M_X7_stepped lv 39 l (.int y :: .long x :: st) w = Ex M_X7_stepped lv 40 l (.long (x <<< (y.toInt64 &&& 63)) :: st) w)
  ∧ (∀ (lv : Nat) (l : LX) (x : Int64) (w : AH), Ex M_X7_stepped lv 40 l [.long x] w = some (some (.long x), w))
  ∧ (∀ (lv : Nat) (st : List Value) (t : LX) (x : Int64) (w : AH), Ex M_X7_stepped lv 41 (some (.long x) :: t) st w = Ex M_X7_stepped lv 42 (some (.long x) :: t) (.long x :: st) w)
  ∧ (∀ (lv : Nat) (l : LX) (st : List Value) (w : AH), Ex M_X7_stepped lv 42 l st w = Ex M_X7_stepped lv 44 l (.int 6 :: st) w)
  ∧ (∀ (lv : Nat) (l : LX) (st : List Value) (x : Int64) (y : Int32) (w : AH), Ex M_X7_stepped lv 44 l (.int y :: .long x :: st) w = Ex M_X7_stepped lv 45 l (.long (x <<< (y.toInt64 &&& 63)) :: st) w)
  ∧ (∀ (lv : Nat) (l : LX) (st : List Value) (w : AH), Ex M_X7_stepped lv 45 l st w = Ex M_X7_stepped lv 48 l (.long 68719476735 :: st) w)
  ∧ (∀ (lv : Nat) (l : LX) (st : List Value) (x y : Int64) (w : AH), Ex M_X7_stepped lv 48 l (.long y :: .long x :: st) w = Ex M_X7_stepped lv 49 l (.long (x &&& y) :: st) w)
  ∧ (∀ (lv : Nat) (l : LX) (x : Int64) (w : AH), Ex M_X7_stepped lv 49 l [.long x] w = some (some (.long x), w))
  ∧ (∀ (lv : Nat) (st : List Value) (t : LX) (x : Int64) (w : AH), Ex M_X7_stepped lv 50 (some (.long x) :: t) st w = Ex M_X7_stepped lv 51 (some (.long x) :: t) (.long x :: st) w)
  ∧ (∀ (lv : Nat) (l : LX) (st : List Value) (w : AH), Ex M_X7_stepped lv 51 l st w = Ex M_X7_stepped lv 54 l (.long (-1090785346) :: st) w)
  ∧ (∀ (lv : Nat) (l : LX) (st : List Value) (x y : Int64) (w : AH), Ex M_X7_stepped lv 54 l (.long y :: .long x :: st) w = Ex M_X7_stepped lv 55 l (.long (x &&& y) :: st) w)
  ∧ (∀ (lv : Nat) (l : LX) (st : List Value) (w : AH), Ex M_X7_stepped lv 55 l st w = Ex M_X7_stepped lv 56 l (.int 1 :: st) w)
  ∧ (∀ (lv : Nat) (l : LX) (st : List Value) (x : Int64) (y : Int32) (w : AH), Ex M_X7_stepped lv 56 l (.int y :: .long x :: st) w = Ex M_X7_stepped lv 57 l (.long ((x.toUInt64 >>> (y.toInt64.toUInt64 &&& Int64.toUInt64 63)).toInt64) :: st) w)
  ∧ (∀ (lv : Nat) (l : LX) (x : Int64) (w : AH), Ex M_X7_stepped lv 57 l [.long x] w = some (some (.long x), w)) :=
  ⟨(fun lv st t o0 o1 x w => Ex_M (i := .iload_n 2) (n := 1) (by decide +kernel) rfl rfl rfl),
   (fun lv l st x w => (by
      refine it_ite (fun hx0 => ?_) (fun hx0 => ?_)
      · subst hx0; exact Ex_tsIn (by decide +kernel : decode M_X7_stepped.2.1 1 = .ok (.tableswitch 49 0 2 #[27, 32, 40], 27)) (by decide) rfl rfl
      refine it_ite (fun hx1 => ?_) (fun hx1 => ?_)
      · subst hx1; exact Ex_tsIn (by decide +kernel : decode M_X7_stepped.2.1 1 = .ok (.tableswitch 49 0 2 #[27, 32, 40], 27)) (by decide) rfl rfl
      refine it_ite (fun hx2 => ?_) (fun hx2 => ?_)
      · subst hx2; exact Ex_tsIn (by decide +kernel : decode M_X7_stepped.2.1 1 = .ok (.tableswitch 49 0 2 #[27, 32, 40], 27)) (by decide) rfl rfl
      exact Ex_tsOut (by decide +kernel : decode M_X7_stepped.2.1 1 = .ok (.tableswitch 49 0 2 #[27, 32, 40], 27)) (ts_out 0 2 (by have := n_toInt (z := 0) rfl hx0; have := n_toInt (z := 1) rfl hx1; have := n_toInt (z := 2) rfl hx2; omega)) rfl)),
   (fun lv st t x w => Ex_M (i := .lload_n 0) (n := 1) (by decide +kernel) rfl rfl rfl),
   (fun lv l st w => Ex_A (i := .bipush 6) (n := 2) (by decide +kernel) rfl rfl),
   (fun lv l st x y w => Ex_A (i := .lushr) (n := 1) (by decide +kernel) rfl rfl),
   (fun lv l x w => Ex_R (i := .lreturn) (n := 1) (by decide +kernel) rfl rfl rfl rfl rfl),
   (fun lv st t x w => Ex_M (i := .lload_n 0) (n := 1) (by decide +kernel) rfl rfl rfl),
   (fun lv l st w => Ex_ldc2 (by decide +kernel : decode M_X7_stepped.2.1 34 = .ok (.ldc2_w 25, 3)) rfl (by decide +kernel)),
   (fun lv l st x y w => Ex_A (i := .land) (n := 1) (by decide +kernel) rfl rfl),
   (fun lv l st w => Ex_A (i := .iconst 1) (n := 1) (by decide +kernel) rfl rfl),
   (fun lv l st x y w => Ex_A (i := .lshl) (n := 1) (by decide +kernel) rfl rfl),
   (fun lv l x w => Ex_R (i := .lreturn) (n := 1) (by decide +kernel) rfl rfl rfl rfl rfl),
   (fun lv st t x w => Ex_M (i := .lload_n 0) (n := 1) (by decide +kernel) rfl rfl rfl),
   (fun lv l st w => Ex_A (i := .bipush 6) (n := 2) (by decide +kernel) rfl rfl),
   (fun lv l st x y w => Ex_A (i := .lshl) (n := 1) (by decide +kernel) rfl rfl),
   (fun lv l st w => Ex_ldc2 (by decide +kernel : decode M_X7_stepped.2.1 45 = .ok (.ldc2_w 27, 3)) rfl (by decide +kernel)),
   (fun lv l st x y w => Ex_A (i := .land) (n := 1) (by decide +kernel) rfl rfl),
   (fun lv l x w => Ex_R (i := .lreturn) (n := 1) (by decide +kernel) rfl rfl rfl rfl rfl),
   (fun lv st t x w => Ex_M (i := .lload_n 0) (n := 1) (by decide +kernel) rfl rfl rfl),
   (fun lv l st w => Ex_ldc2 (by decide +kernel : decode M_X7_stepped.2.1 51 = .ok (.ldc2_w 29, 3)) rfl (by decide +kernel)),
   (fun lv l st x y w => Ex_A (i := .land) (n := 1) (by decide +kernel) rfl rfl),
   (fun lv l st w => Ex_A (i := .iconst 1) (n := 1) (by decide +kernel) rfl rfl),
   (fun lv l st x y w => Ex_A (i := .lushr) (n := 1) (by decide +kernel) rfl rfl),
   (fun lv l x w => Ex_R (i := .lreturn) (n := 1) (by decide +kernel) rfl rfl rfl rfl rfl)⟩
set_option maxRecDepth 20000 in
set_option maxHeartbeats 4000000 in
theorem R_X7_around : (∀ (lv : Nat) (st : List Value) (t : LX) (x : Int64) (w : AH), Ex M_X7_around lv 0 (some (.long x) :: t) st w = Ex M_X7_around lv 1 (some (.long x) :: t) (.long x :: st) w)
  ∧ (∀ (lv : Nat) (l : LX) (st : List Value) (w : AH), Ex M_X7_around lv 1 l st w = Ex M_X7_around lv 2 l (.int 0 :: st) w)
  ∧ (∀ (lv : Nat) (l : LX) (a0 : Int64) (a1 : Int32) (w : AH), Ex M_X7_around lv 2 l (.int a1 :: .long a0 :: []) w = if (Call M_X7_stepped 60 [.long a0, .int a1] w).isSome = true then Ex M_X7_around lv 5 l (pushR (cV (Call M_X7_stepped 60 [.long a0, .int a1] w)) []) (cW (Call M_X7_stepped 60 [.long a0, .int a1] w) w) else none)
  ∧ (∀ (lv : Nat) (st : List Value) (t : LX) (x : Int64) (w : AH), Ex M_X7_around lv 5 (some (.long x) :: t) st w = Ex M_X7_around lv 6 (some (.long x) :: t) (.long x :: st) w)
  ∧ (∀ (lv : Nat) (l : LX) (st : List Value) (w : AH), Ex M_X7_around lv 6 l st w = Ex M_X7_around lv 7 l (.int 1 :: st) w)
  ∧ (∀ (lv : Nat) (l : LX) (a0 : Int64) (a1 : Int32) (s0 : Int64) (w : AH), Ex M_X7_around lv 7 l (.int a1 :: .long a0 :: [.long s0]) w = if (Call M_X7_stepped 60 [.long a0, .int a1] w).isSome = true then Ex M_X7_around lv 10 l (pushR (cV (Call M_X7_stepped 60 [.long a0, .int a1] w)) [.long s0]) (cW (Call M_X7_stepped 60 [.long a0, .int a1] w) w) else none)
  ∧ (∀ (lv : Nat) (l : LX) (st : List Value) (x y : Int64) (w : AH), Ex M_X7_around lv 10 l (.long y :: .long x :: st) w = Ex M_X7_around lv 11 l (.long (x ||| y) :: st) w)
  ∧ (∀ (lv : Nat) (st : List Value) (t : LX) (x : Int64) (w : AH), Ex M_X7_around lv 11 (some (.long x) :: t) st w = Ex M_X7_around lv 12 (some (.long x) :: t) (.long x :: st) w)
  ∧ (∀ (lv : Nat) (l : LX) (st : List Value) (w : AH), Ex M_X7_around lv 12 l st w = Ex M_X7_around lv 13 l (.int 2 :: st) w)
  ∧ (∀ (lv : Nat) (l : LX) (a0 : Int64) (a1 : Int32) (s0 : Int64) (w : AH), Ex M_X7_around lv 13 l (.int a1 :: .long a0 :: [.long s0]) w = if (Call M_X7_stepped 60 [.long a0, .int a1] w).isSome = true then Ex M_X7_around lv 16 l (pushR (cV (Call M_X7_stepped 60 [.long a0, .int a1] w)) [.long s0]) (cW (Call M_X7_stepped 60 [.long a0, .int a1] w) w) else none)
  ∧ (∀ (lv : Nat) (l : LX) (st : List Value) (x y : Int64) (w : AH), Ex M_X7_around lv 16 l (.long y :: .long x :: st) w = Ex M_X7_around lv 17 l (.long (x ||| y) :: st) w)
  ∧ (∀ (lv : Nat) (st : List Value) (t : LX) (x : Int64) (w : AH), Ex M_X7_around lv 17 (some (.long x) :: t) st w = Ex M_X7_around lv 18 (some (.long x) :: t) (.long x :: st) w)
  ∧ (∀ (lv : Nat) (l : LX) (st : List Value) (w : AH), Ex M_X7_around lv 18 l st w = Ex M_X7_around lv 19 l (.int 3 :: st) w)
  ∧ (∀ (lv : Nat) (l : LX) (a0 : Int64) (a1 : Int32) (s0 : Int64) (w : AH), Ex M_X7_around lv 19 l (.int a1 :: .long a0 :: [.long s0]) w = if (Call M_X7_stepped 60 [.long a0, .int a1] w).isSome = true then Ex M_X7_around lv 22 l (pushR (cV (Call M_X7_stepped 60 [.long a0, .int a1] w)) [.long s0]) (cW (Call M_X7_stepped 60 [.long a0, .int a1] w) w) else none)
  ∧ (∀ (lv : Nat) (l : LX) (st : List Value) (x y : Int64) (w : AH), Ex M_X7_around lv 22 l (.long y :: .long x :: st) w = Ex M_X7_around lv 23 l (.long (x ||| y) :: st) w)
  ∧ (∀ (lv : Nat) (l : LX) (x : Int64) (w : AH), Ex M_X7_around lv 23 l [.long x] w = some (some (.long x), w)) :=
  ⟨(fun lv st t x w => Ex_M (i := .lload_n 0) (n := 1) (by decide +kernel) rfl rfl rfl),
   (fun lv l st w => Ex_A (i := .iconst 0) (n := 1) (by decide +kernel) rfl rfl),
   (fun lv l a0 a1 w => Ex_callS (by decide +kernel : decode M_X7_around.2.1 2 = .ok (.invokestatic 31, 3)) rfl (by rfl : resM (mCn M_X7_around) 31 = some (0, M_X7_stepped)) (by decide) rfl (by rfl) (Nat.le_of_ble_eq_true rfl) (sLv_lt (by decide +kernel))),
   (fun lv st t x w => Ex_M (i := .lload_n 0) (n := 1) (by decide +kernel) rfl rfl rfl),
   (fun lv l st w => Ex_A (i := .iconst 1) (n := 1) (by decide +kernel) rfl rfl),
   (fun lv l a0 a1 s0 w => Ex_callS (by decide +kernel : decode M_X7_around.2.1 7 = .ok (.invokestatic 31, 3)) rfl (by rfl : resM (mCn M_X7_around) 31 = some (0, M_X7_stepped)) (by decide) rfl (by rfl) (Nat.le_of_ble_eq_true rfl) (sLv_lt (by decide +kernel))),
   (fun lv l st x y w => Ex_A (i := .lor) (n := 1) (by decide +kernel) rfl rfl),
   (fun lv st t x w => Ex_M (i := .lload_n 0) (n := 1) (by decide +kernel) rfl rfl rfl),
   (fun lv l st w => Ex_A (i := .iconst 2) (n := 1) (by decide +kernel) rfl rfl),
   (fun lv l a0 a1 s0 w => Ex_callS (by decide +kernel : decode M_X7_around.2.1 13 = .ok (.invokestatic 31, 3)) rfl (by rfl : resM (mCn M_X7_around) 31 = some (0, M_X7_stepped)) (by decide) rfl (by rfl) (Nat.le_of_ble_eq_true rfl) (sLv_lt (by decide +kernel))),
   (fun lv l st x y w => Ex_A (i := .lor) (n := 1) (by decide +kernel) rfl rfl),
   (fun lv st t x w => Ex_M (i := .lload_n 0) (n := 1) (by decide +kernel) rfl rfl rfl),
   (fun lv l st w => Ex_A (i := .iconst 3) (n := 1) (by decide +kernel) rfl rfl),
   (fun lv l a0 a1 s0 w => Ex_callS (by decide +kernel : decode M_X7_around.2.1 19 = .ok (.invokestatic 31, 3)) rfl (by rfl : resM (mCn M_X7_around) 31 = some (0, M_X7_stepped)) (by decide) rfl (by rfl) (Nat.le_of_ble_eq_true rfl) (sLv_lt (by decide +kernel))),
   (fun lv l st x y w => Ex_A (i := .lor) (n := 1) (by decide +kernel) rfl rfl),
   (fun lv l x w => Ex_R (i := .lreturn) (n := 1) (by decide +kernel) rfl rfl rfl rfl rfl)⟩
set_option maxRecDepth 20000 in
theorem H_X7_grown_8 : ∀ (lv : Nat) (st : List Value) (t : LX) (o0 o1 o2 o3 o4 o5 : Option Value) (x : Int32) (w : AH), Ex M_X7_grown lv 8 (o0 :: o1 :: o2 :: o3 :: o4 :: o5 :: some (.int x) :: t) st w = Ex M_X7_grown lv 10 (o0 :: o1 :: o2 :: o3 :: o4 :: o5 :: some (.int x) :: t) (.int x :: st) w := fun lv st t o0 o1 o2 o3 o4 o5 x w => Ex_M (i := .iload 6) (n := 2) (by decide +kernel) rfl rfl rfl
set_option maxRecDepth 20000 in
set_option maxHeartbeats 4000000 in
theorem R_X7_grown : (∀ (lv : Nat) (st : List Value) (t : LX) (x : Int64) (w : AH), Ex M_X7_grown lv 0 (some (.long x) :: t) st w = Ex M_X7_grown lv 1 (some (.long x) :: t) (.long x :: st) w)
  ∧ (∀ (lv : Nat) (st : List Value) (t : LX) (o0 o1 : Option Value) (x : Int64) (w : AH), Ex M_X7_grown lv 1 (o0 :: o1 :: some (.long x) :: t) st w = Ex M_X7_grown lv 2 (o0 :: o1 :: some (.long x) :: t) (.long x :: st) w)
  ∧ (∀ (lv : Nat) (l : LX) (st : List Value) (x y : Int64) (w : AH), Ex M_X7_grown lv 2 l (.long y :: .long x :: st) w = Ex M_X7_grown lv 3 l (.long (x &&& y) :: st) w)
  ∧ (∀ (lv : Nat) (l : LX) (st : List Value) (x : Int64) (w : AH), Ex M_X7_grown lv 3 l (.long x :: st) w = Ex M_X7_grown lv 5 (ls2 l 4 (.long x)) st w)
  ∧ (∀ (lv : Nat) (l : LX) (st : List Value) (w : AH), Ex M_X7_grown lv 5 l st w = Ex M_X7_grown lv 6 l (.int 0 :: st) w)
  ∧ (∀ (lv : Nat) (l : LX) (st : List Value) (x : Int32) (w : AH), Ex M_X7_grown lv 6 l (.int x :: st) w = Ex M_X7_grown lv 8 (ls1 l 6 (.int x)) st w)
  ∧ (∀ (lv : Nat) (l : LX) (st : List Value) (w : AH), Ex M_X7_grown lv 10 l st w = Ex M_X7_grown lv 12 l (.int 36 :: st) w)
  ∧ (∀ (lv : Nat) (l : LX) (st : List Value) (x y : Int32) (w : AH), Ex M_X7_grown lv 12 l (.int y :: .int x :: st) w = if y ≤ x then Ex M_X7_grown lv 48 l st w else Ex M_X7_grown lv 15 l st w)
  ∧ (∀ (lv : Nat) (st : List Value) (t : LX) (o0 o1 o2 o3 : Option Value) (x : Int64) (w : AH), Ex M_X7_grown lv 15 (o0 :: o1 :: o2 :: o3 :: some (.long x) :: t) st w = Ex M_X7_grown lv 17 (o0 :: o1 :: o2 :: o3 :: some (.long x) :: t) (.long x :: st) w)
  ∧ (∀ (lv : Nat) (st : List Value) (t : LX) (o0 o1 o2 o3 : Option Value) (x : Int64) (w : AH), Ex M_X7_grown lv 17 (o0 :: o1 :: o2 :: o3 :: some (.long x) :: t) st w = Ex M_X7_grown lv 19 (o0 :: o1 :: o2 :: o3 :: some (.long x) :: t) (.long x :: st) w)
  ∧ (∀ (lv : Nat) (l : LX) (a0 : Int64) (s0 : Int64) (w : AH), Ex M_X7_grown lv 19 l (.long a0 :: [.long s0]) w = if (Call M_X7_around 60 [.long a0] w).isSome = true then Ex M_X7_grown lv 22 l (pushR (cV (Call M_X7_around 60 [.long a0] w)) [.long s0]) (cW (Call M_X7_around 60 [.long a0] w) w) else none)
  ∧ (∀ (lv : Nat) (l : LX) (st : List Value) (x y : Int64) (w : AH), Ex M_X7_grown lv 22 l (.long y :: .long x :: st) w = Ex M_X7_grown lv 23 l (.long (x ||| y) :: st) w)
  ∧ (∀ (lv : Nat) (st : List Value) (t : LX) (o0 o1 : Option Value) (x : Int64) (w : AH), Ex M_X7_grown lv 23 (o0 :: o1 :: some (.long x) :: t) st w = Ex M_X7_grown lv 24 (o0 :: o1 :: some (.long x) :: t) (.long x :: st) w)
  ∧ (∀ (lv : Nat) (l : LX) (st : List Value) (x y : Int64) (w : AH), Ex M_X7_grown lv 24 l (.long y :: .long x :: st) w = Ex M_X7_grown lv 25 l (.long (x &&& y) :: st) w)
  ∧ (∀ (lv : Nat) (l : LX) (st : List Value) (x : Int64) (w : AH), Ex M_X7_grown lv 25 l (.long x :: st) w = Ex M_X7_grown lv 27 (ls2 l 7 (.long x)) st w)
  ∧ (∀ (lv : Nat) (st : List Value) (t : LX) (o0 o1 o2 o3 o4 o5 o6 : Option Value) (x : Int64) (w : AH), Ex M_X7_grown lv 27 (o0 :: o1 :: o2 :: o3 :: o4 :: o5 :: o6 :: some (.long x) :: t) st w = Ex M_X7_grown lv 29 (o0 :: o1 :: o2 :: o3 :: o4 :: o5 :: o6 :: some (.long x) :: t) (.long x :: st) w)
  ∧ (∀ (lv : Nat) (st : List Value) (t : LX) (o0 o1 o2 o3 : Option Value) (x : Int64) (w : AH), Ex M_X7_grown lv 29 (o0 :: o1 :: o2 :: o3 :: some (.long x) :: t) st w = Ex M_X7_grown lv 31 (o0 :: o1 :: o2 :: o3 :: some (.long x) :: t) (.long x :: st) w)
  ∧ (∀ (lv : Nat) (l : LX) (st : List Value) (x y : Int64) (w : AH), Ex M_X7_grown lv 31 l (.long y :: .long x :: st) w = Ex M_X7_grown lv 32 l (.int (lg_cmp x y) :: st) w)
  ∧ (∀ (lv : Nat) (l : LX) (st : List Value) (x : Int32) (w : AH), Ex M_X7_grown lv 32 l (.int x :: st) w = if ¬ x = 0 then Ex M_X7_grown lv 38 l st w else Ex M_X7_grown lv 35 l st w)
  ∧ (∀ (lv : Nat) (st : List Value) (t : LX) (o0 o1 o2 o3 : Option Value) (x : Int64) (w : AH), Ex M_X7_grown lv 35 (o0 :: o1 :: o2 :: o3 :: some (.long x) :: t) st w = Ex M_X7_grown lv 37 (o0 :: o1 :: o2 :: o3 :: some (.long x) :: t) (.long x :: st) w)
  ∧ (∀ (lv : Nat) (l : LX) (x : Int64) (w : AH), Ex M_X7_grown lv 37 l [.long x] w = some (some (.long x), w))
  ∧ (∀ (lv : Nat) (st : List Value) (t : LX) (o0 o1 o2 o3 o4 o5 o6 : Option Value) (x : Int64) (w : AH), Ex M_X7_grown lv 38 (o0 :: o1 :: o2 :: o3 :: o4 :: o5 :: o6 :: some (.long x) :: t) st w = Ex M_X7_grown lv 40 (o0 :: o1 :: o2 :: o3 :: o4 :: o5 :: o6 :: some (.long x) :: t) (.long x :: st) w)
  ∧ (∀ (lv : Nat) (l : LX) (st : List Value) (x : Int64) (w : AH), Ex M_X7_grown lv 40 l (.long x :: st) w = Ex M_X7_grown lv 42 (ls2 l 4 (.long x)) st w)
  ∧ (∀ (lv : Nat) (st : List Value) (t : LX) (o0 o1 o2 o3 o4 o5 : Option Value) (x : Int32) (w : AH), Ex M_X7_grown lv 42 (o0 :: o1 :: o2 :: o3 :: o4 :: o5 :: some (.int x) :: t) st w = Ex M_X7_grown lv 45 (ls1 (o0 :: o1 :: o2 :: o3 :: o4 :: o5 :: some (.int x) :: t) 6 (.int (x + 1))) st w)
  ∧ (∀ (lv : Nat) (l : LX) (st : List Value) (w : AH), Ex M_X7_grown lv 45 l st w = Ex M_X7_grown lv 8 l st w)
  ∧ (∀ (lv : Nat) (st : List Value) (t : LX) (o0 o1 o2 o3 : Option Value) (x : Int64) (w : AH), Ex M_X7_grown lv 48 (o0 :: o1 :: o2 :: o3 :: some (.long x) :: t) st w = Ex M_X7_grown lv 50 (o0 :: o1 :: o2 :: o3 :: some (.long x) :: t) (.long x :: st) w)
  ∧ (∀ (lv : Nat) (l : LX) (x : Int64) (w : AH), Ex M_X7_grown lv 50 l [.long x] w = some (some (.long x), w)) :=
  ⟨(fun lv st t x w => Ex_M (i := .lload_n 0) (n := 1) (by decide +kernel) rfl rfl rfl),
   (fun lv st t o0 o1 x w => Ex_M (i := .lload_n 2) (n := 1) (by decide +kernel) rfl rfl rfl),
   (fun lv l st x y w => Ex_A (i := .land) (n := 1) (by decide +kernel) rfl rfl),
   (fun lv l st x w => Ex_M (i := .lstore 4) (n := 2) (by decide +kernel) rfl rfl rfl),
   (fun lv l st w => Ex_A (i := .iconst 0) (n := 1) (by decide +kernel) rfl rfl),
   (fun lv l st x w => Ex_M (i := .istore 6) (n := 2) (by decide +kernel) rfl rfl rfl),
   (fun lv l st w => Ex_A (i := .bipush 36) (n := 2) (by decide +kernel) rfl rfl),
   (fun lv l st x y w => Ex_icmp_ge (by decide +kernel : decode M_X7_grown.2.1 12 = .ok (.if_icmp .ge 36, 3)) rfl rfl),
   (fun lv st t o0 o1 o2 o3 x w => Ex_M (i := .lload 4) (n := 2) (by decide +kernel) rfl rfl rfl),
   (fun lv st t o0 o1 o2 o3 x w => Ex_M (i := .lload 4) (n := 2) (by decide +kernel) rfl rfl rfl),
   (fun lv l a0 s0 w => Ex_callS (by decide +kernel : decode M_X7_grown.2.1 19 = .ok (.invokestatic 35, 3)) rfl (by rfl : resM (mCn M_X7_grown) 35 = some (0, M_X7_around)) (by decide) rfl (by rfl) (Nat.le_of_ble_eq_true rfl) (sLv_lt (by decide +kernel))),
   (fun lv l st x y w => Ex_A (i := .lor) (n := 1) (by decide +kernel) rfl rfl),
   (fun lv st t o0 o1 x w => Ex_M (i := .lload_n 2) (n := 1) (by decide +kernel) rfl rfl rfl),
   (fun lv l st x y w => Ex_A (i := .land) (n := 1) (by decide +kernel) rfl rfl),
   (fun lv l st x w => Ex_M (i := .lstore 7) (n := 2) (by decide +kernel) rfl rfl rfl),
   (fun lv st t o0 o1 o2 o3 o4 o5 o6 x w => Ex_M (i := .lload 7) (n := 2) (by decide +kernel) rfl rfl rfl),
   (fun lv st t o0 o1 o2 o3 x w => Ex_M (i := .lload 4) (n := 2) (by decide +kernel) rfl rfl rfl),
   (fun lv l st x y w => Ex_A (i := .lcmp) (n := 1) (by decide +kernel) rfl rfl),
   (fun lv l st x w => Ex_if_ne (by decide +kernel : decode M_X7_grown.2.1 32 = .ok (.ifCond .ne 6, 3)) rfl rfl),
   (fun lv st t o0 o1 o2 o3 x w => Ex_M (i := .lload 4) (n := 2) (by decide +kernel) rfl rfl rfl),
   (fun lv l x w => Ex_R (i := .lreturn) (n := 1) (by decide +kernel) rfl rfl rfl rfl rfl),
   (fun lv st t o0 o1 o2 o3 o4 o5 o6 x w => Ex_M (i := .lload 7) (n := 2) (by decide +kernel) rfl rfl rfl),
   (fun lv l st x w => Ex_M (i := .lstore 4) (n := 2) (by decide +kernel) rfl rfl rfl),
   (fun lv st t o0 o1 o2 o3 o4 o5 x w => Ex_iinc (by decide +kernel : decode M_X7_grown.2.1 42 = .ok (.iinc 6 1, 3)) rfl rfl (by decide) (by decide)),
   (fun lv l st w => Ex_goto (by decide +kernel : decode M_X7_grown.2.1 45 = .ok (.goto (-37), 3)) rfl),
   (fun lv st t o0 o1 o2 o3 x w => Ex_M (i := .lload 4) (n := 2) (by decide +kernel) rfl rfl rfl),
   (fun lv l x w => Ex_R (i := .lreturn) (n := 1) (by decide +kernel) rfl rfl rfl rfl rfl)⟩
set_option maxRecDepth 20000 in
set_option maxHeartbeats 4000000 in
theorem R_X7_beside : (∀ (lv : Nat) (st : List Value) (t : LX) (x : Int32) (w : AH), Ex M_X7_beside lv 0 (some (.int x) :: t) st w = Ex M_X7_beside lv 1 (some (.int x) :: t) (.int x :: st) w)
  ∧ (∀ (lv : Nat) (l : LX) (st : List Value) (w : AH), Ex M_X7_beside lv 1 l st w = Ex M_X7_beside lv 3 l (.int 6 :: st) w)
  ∧ (∀ (lv : Nat) (l : LX) (st : List Value) (x y : Int32) (w : AH), Ex M_X7_beside lv 3 l (.int y :: .int x :: st) w = if y = 0 then none else Ex M_X7_beside lv 4 l (.int (x / y) :: st) w)
  ∧ (∀ (lv : Nat) (l : LX) (st : List Value) (x : Int32) (w : AH), Ex M_X7_beside lv 4 l (.int x :: st) w = Ex M_X7_beside lv 5 (ls1 l 2 (.int x)) st w)
  ∧ (∀ (lv : Nat) (st : List Value) (t : LX) (x : Int32) (w : AH), Ex M_X7_beside lv 5 (some (.int x) :: t) st w = Ex M_X7_beside lv 6 (some (.int x) :: t) (.int x :: st) w)
  ∧ (∀ (lv : Nat) (l : LX) (st : List Value) (w : AH), Ex M_X7_beside lv 6 l st w = Ex M_X7_beside lv 8 l (.int 6 :: st) w)
  ∧ (∀ (lv : Nat) (l : LX) (st : List Value) (x y : Int32) (w : AH), Ex M_X7_beside lv 8 l (.int y :: .int x :: st) w = if y = 0 then none else Ex M_X7_beside lv 9 l (.int (x - x / y * y) :: st) w)
  ∧ (∀ (lv : Nat) (l : LX) (st : List Value) (x : Int32) (w : AH), Ex M_X7_beside lv 9 l (.int x :: st) w = Ex M_X7_beside lv 10 (ls1 l 3 (.int x)) st w)
  ∧ (∀ (lv : Nat) (st : List Value) (t : LX) (o0 : Option Value) (x : Int32) (w : AH), Ex M_X7_beside lv 10 (o0 :: some (.int x) :: t) st w = Ex M_X7_beside lv 11 (o0 :: some (.int x) :: t) (.int x :: st) w)
  ∧ (∀ (lv : Nat) (l : LX) (st : List Value) (x : Int32) (w : AH), Ex M_X7_beside lv 11 l (.int x :: st) w = if x = 0 then Ex M_X7_beside lv 36 l st w else if x = 1 then Ex M_X7_beside lv 49 l st w else if x = 2 then Ex M_X7_beside lv 62 l st w else Ex M_X7_beside lv 76 l st w)
  ∧ (∀ (lv : Nat) (st : List Value) (t : LX) (o0 o1 : Option Value) (x : Int32) (w : AH), Ex M_X7_beside lv 36 (o0 :: o1 :: some (.int x) :: t) st w = Ex M_X7_beside lv 37 (o0 :: o1 :: some (.int x) :: t) (.int x :: st) w)
  ∧ (∀ (lv : Nat) (l : LX) (st : List Value) (x : Int32) (w : AH), Ex M_X7_beside lv 37 l (.int x :: st) w = if x ≤ 0 then Ex M_X7_beside lv 47 l st w else Ex M_X7_beside lv 40 l st w)
  ∧ (∀ (lv : Nat) (st : List Value) (t : LX) (x : Int32) (w : AH), Ex M_X7_beside lv 40 (some (.int x) :: t) st w = Ex M_X7_beside lv 41 (some (.int x) :: t) (.int x :: st) w)
  ∧ (∀ (lv : Nat) (l : LX) (st : List Value) (w : AH), Ex M_X7_beside lv 41 l st w = Ex M_X7_beside lv 43 l (.int 6 :: st) w)
  ∧ (∀ (lv : Nat) (l : LX) (st : List Value) (x y : Int32) (w : AH), Ex M_X7_beside lv 43 l (.int y :: .int x :: st) w = Ex M_X7_beside lv 44 l (.int (x - y) :: st) w)
  ∧ (∀ (lv : Nat) (l : LX) (st : List Value) (w : AH), Ex M_X7_beside lv 44 l st w = Ex M_X7_beside lv 48 l st w)
  ∧ (∀ (lv : Nat) (l : LX) (st : List Value) (w : AH), Ex M_X7_beside lv 47 l st w = Ex M_X7_beside lv 48 l (.int (-1) :: st) w)
  ∧ (∀ (lv : Nat) (l : LX) (x : Int32) (w : AH), Ex M_X7_beside lv 48 l [.int x] w = some (some (.int x), w))
  ∧ (∀ (lv : Nat) (st : List Value) (t : LX) (o0 o1 o2 : Option Value) (x : Int32) (w : AH), Ex M_X7_beside lv 49 (o0 :: o1 :: o2 :: some (.int x) :: t) st w = Ex M_X7_beside lv 50 (o0 :: o1 :: o2 :: some (.int x) :: t) (.int x :: st) w)
  ∧ (∀ (lv : Nat) (l : LX) (st : List Value) (w : AH), Ex M_X7_beside lv 50 l st w = Ex M_X7_beside lv 51 l (.int 5 :: st) w)
  ∧ (∀ (lv : Nat) (l : LX) (st : List Value) (x y : Int32) (w : AH), Ex M_X7_beside lv 51 l (.int y :: .int x :: st) w = if y ≤ x then Ex M_X7_beside lv 60 l st w else Ex M_X7_beside lv 54 l st w)
  ∧ (∀ (lv : Nat) (st : List Value) (t : LX) (x : Int32) (w : AH), Ex M_X7_beside lv 54 (some (.int x) :: t) st w = Ex M_X7_beside lv 55 (some (.int x) :: t) (.int x :: st) w)
  ∧ (∀ (lv : Nat) (l : LX) (st : List Value) (w : AH), Ex M_X7_beside lv 55 l st w = Ex M_X7_beside lv 56 l (.int 1 :: st) w)
  ∧ (∀ (lv : Nat) (l : LX) (st : List Value) (x y : Int32) (w : AH), Ex M_X7_beside lv 56 l (.int y :: .int x :: st) w = Ex M_X7_beside lv 57 l (.int (x + y) :: st) w)
  ∧ (∀ (lv : Nat) (l : LX) (st : List Value) (w : AH), Ex M_X7_beside lv 57 l st w = Ex M_X7_beside lv 61 l st w)
  ∧ (∀ (lv : Nat) (l : LX) (st : List Value) (w : AH), Ex M_X7_beside lv 60 l st w = Ex M_X7_beside lv 61 l (.int (-1) :: st) w)
  ∧ (∀ (lv : Nat) (l : LX) (x : Int32) (w : AH), Ex M_X7_beside lv 61 l [.int x] w = some (some (.int x), w))
  ∧ (∀ (lv : Nat) (st : List Value) (t : LX) (o0 o1 : Option Value) (x : Int32) (w : AH), Ex M_X7_beside lv 62 (o0 :: o1 :: some (.int x) :: t) st w = Ex M_X7_beside lv 63 (o0 :: o1 :: some (.int x) :: t) (.int x :: st) w)
  ∧ (∀ (lv : Nat) (l : LX) (st : List Value) (w : AH), Ex M_X7_beside lv 63 l st w = Ex M_X7_beside lv 64 l (.int 5 :: st) w)
  ∧ (∀ (lv : Nat) (l : LX) (st : List Value) (x y : Int32) (w : AH), Ex M_X7_beside lv 64 l (.int y :: .int x :: st) w = if y ≤ x then Ex M_X7_beside lv 74 l st w else Ex M_X7_beside lv 67 l st w)
  ∧ (∀ (lv : Nat) (st : List Value) (t : LX) (x : Int32) (w : AH), Ex M_X7_beside lv 67 (some (.int x) :: t) st w = Ex M_X7_beside lv 68 (some (.int x) :: t) (.int x :: st) w)
  ∧ (∀ (lv : Nat) (l : LX) (st : List Value) (w : AH), Ex M_X7_beside lv 68 l st w = Ex M_X7_beside lv 70 l (.int 6 :: st) w)
  ∧ (∀ (lv : Nat) (l : LX) (st : List Value) (x y : Int32) (w : AH), Ex M_X7_beside lv 70 l (.int y :: .int x :: st) w = Ex M_X7_beside lv 71 l (.int (x + y) :: st) w)
  ∧ (∀ (lv : Nat) (l : LX) (st : List Value) (w : AH), Ex M_X7_beside lv 71 l st w = Ex M_X7_beside lv 75 l st w)
  ∧ (∀ (lv : Nat) (l : LX) (st : List Value) (w : AH), Ex M_X7_beside lv 74 l st w = Ex M_X7_beside lv 75 l (.int (-1) :: st) w)
  ∧ (∀ (lv : Nat) (l : LX) (x : Int32) (w : AH), Ex M_X7_beside lv 75 l [.int x] w = some (some (.int x), w))
  ∧ (∀ (lv : Nat) (st : List Value) (t : LX) (o0 o1 o2 : Option Value) (x : Int32) (w : AH), Ex M_X7_beside lv 76 (o0 :: o1 :: o2 :: some (.int x) :: t) st w = Ex M_X7_beside lv 77 (o0 :: o1 :: o2 :: some (.int x) :: t) (.int x :: st) w)
  ∧ (∀ (lv : Nat) (l : LX) (st : List Value) (x : Int32) (w : AH), Ex M_X7_beside lv 77 l (.int x :: st) w = if x ≤ 0 then Ex M_X7_beside lv 86 l st w else Ex M_X7_beside lv 80 l st w)
  ∧ (∀ (lv : Nat) (st : List Value) (t : LX) (x : Int32) (w : AH), Ex M_X7_beside lv 80 (some (.int x) :: t) st w = Ex M_X7_beside lv 81 (some (.int x) :: t) (.int x :: st) w)
  ∧ (∀ (lv : Nat) (l : LX) (st : List Value) (w : AH), Ex M_X7_beside lv 81 l st w = Ex M_X7_beside lv 82 l (.int 1 :: st) w)
  ∧ (∀ (lv : Nat) (l : LX) (st : List Value) (x y : Int32) (w : AH), Ex M_X7_beside lv 82 l (.int y :: .int x :: st) w = Ex M_X7_beside lv 83 l (.int (x - y) :: st) w)
  ∧ (∀ (lv : Nat) (l : LX) (st : List Value) (w : AH), Ex M_X7_beside lv 83 l st w = Ex M_X7_beside lv 87 l st w)
  ∧ (∀ (lv : Nat) (l : LX) (st : List Value) (w : AH), Ex M_X7_beside lv 86 l st w = Ex M_X7_beside lv 87 l (.int (-1) :: st) w)
  ∧ (∀ (lv : Nat) (l : LX) (x : Int32) (w : AH), Ex M_X7_beside lv 87 l [.int x] w = some (some (.int x), w)) :=
  ⟨(fun lv st t x w => Ex_M (i := .iload_n 0) (n := 1) (by decide +kernel) rfl rfl rfl),
   (fun lv l st w => Ex_A (i := .bipush 6) (n := 2) (by decide +kernel) rfl rfl),
   (fun lv l st x y w => Ex_idiv (by decide +kernel : decode M_X7_beside.2.1 3 = .ok (.idiv, 1)) rfl),
   (fun lv l st x w => Ex_M (i := .istore_n 2) (n := 1) (by decide +kernel) rfl rfl rfl),
   (fun lv st t x w => Ex_M (i := .iload_n 0) (n := 1) (by decide +kernel) rfl rfl rfl),
   (fun lv l st w => Ex_A (i := .bipush 6) (n := 2) (by decide +kernel) rfl rfl),
   (fun lv l st x y w => Ex_irem (by decide +kernel : decode M_X7_beside.2.1 8 = .ok (.irem, 1)) rfl),
   (fun lv l st x w => Ex_M (i := .istore_n 3) (n := 1) (by decide +kernel) rfl rfl rfl),
   (fun lv st t o0 x w => Ex_M (i := .iload_n 1) (n := 1) (by decide +kernel) rfl rfl rfl),
   (fun lv l st x w => (by
      refine it_ite (fun hx0 => ?_) (fun hx0 => ?_)
      · subst hx0; exact Ex_tsIn (by decide +kernel : decode M_X7_beside.2.1 11 = .ok (.tableswitch 65 0 2 #[25, 38, 51], 25)) (by decide) rfl rfl
      refine it_ite (fun hx1 => ?_) (fun hx1 => ?_)
      · subst hx1; exact Ex_tsIn (by decide +kernel : decode M_X7_beside.2.1 11 = .ok (.tableswitch 65 0 2 #[25, 38, 51], 25)) (by decide) rfl rfl
      refine it_ite (fun hx2 => ?_) (fun hx2 => ?_)
      · subst hx2; exact Ex_tsIn (by decide +kernel : decode M_X7_beside.2.1 11 = .ok (.tableswitch 65 0 2 #[25, 38, 51], 25)) (by decide) rfl rfl
      exact Ex_tsOut (by decide +kernel : decode M_X7_beside.2.1 11 = .ok (.tableswitch 65 0 2 #[25, 38, 51], 25)) (ts_out 0 2 (by have := n_toInt (z := 0) rfl hx0; have := n_toInt (z := 1) rfl hx1; have := n_toInt (z := 2) rfl hx2; omega)) rfl)),
   (fun lv st t o0 o1 x w => Ex_M (i := .iload_n 2) (n := 1) (by decide +kernel) rfl rfl rfl),
   (fun lv l st x w => Ex_if_le (by decide +kernel : decode M_X7_beside.2.1 37 = .ok (.ifCond .le 10, 3)) rfl rfl),
   (fun lv st t x w => Ex_M (i := .iload_n 0) (n := 1) (by decide +kernel) rfl rfl rfl),
   (fun lv l st w => Ex_A (i := .bipush 6) (n := 2) (by decide +kernel) rfl rfl),
   (fun lv l st x y w => Ex_A (i := .isub) (n := 1) (by decide +kernel) rfl rfl),
   (fun lv l st w => Ex_goto (by decide +kernel : decode M_X7_beside.2.1 44 = .ok (.goto 4, 3)) rfl),
   (fun lv l st w => Ex_A (i := .iconst (-1)) (n := 1) (by decide +kernel) rfl rfl),
   (fun lv l x w => Ex_R (i := .ireturn) (n := 1) (by decide +kernel) rfl rfl rfl rfl rfl),
   (fun lv st t o0 o1 o2 x w => Ex_M (i := .iload_n 3) (n := 1) (by decide +kernel) rfl rfl rfl),
   (fun lv l st w => Ex_A (i := .iconst 5) (n := 1) (by decide +kernel) rfl rfl),
   (fun lv l st x y w => Ex_icmp_ge (by decide +kernel : decode M_X7_beside.2.1 51 = .ok (.if_icmp .ge 9, 3)) rfl rfl),
   (fun lv st t x w => Ex_M (i := .iload_n 0) (n := 1) (by decide +kernel) rfl rfl rfl),
   (fun lv l st w => Ex_A (i := .iconst 1) (n := 1) (by decide +kernel) rfl rfl),
   (fun lv l st x y w => Ex_A (i := .iadd) (n := 1) (by decide +kernel) rfl rfl),
   (fun lv l st w => Ex_goto (by decide +kernel : decode M_X7_beside.2.1 57 = .ok (.goto 4, 3)) rfl),
   (fun lv l st w => Ex_A (i := .iconst (-1)) (n := 1) (by decide +kernel) rfl rfl),
   (fun lv l x w => Ex_R (i := .ireturn) (n := 1) (by decide +kernel) rfl rfl rfl rfl rfl),
   (fun lv st t o0 o1 x w => Ex_M (i := .iload_n 2) (n := 1) (by decide +kernel) rfl rfl rfl),
   (fun lv l st w => Ex_A (i := .iconst 5) (n := 1) (by decide +kernel) rfl rfl),
   (fun lv l st x y w => Ex_icmp_ge (by decide +kernel : decode M_X7_beside.2.1 64 = .ok (.if_icmp .ge 10, 3)) rfl rfl),
   (fun lv st t x w => Ex_M (i := .iload_n 0) (n := 1) (by decide +kernel) rfl rfl rfl),
   (fun lv l st w => Ex_A (i := .bipush 6) (n := 2) (by decide +kernel) rfl rfl),
   (fun lv l st x y w => Ex_A (i := .iadd) (n := 1) (by decide +kernel) rfl rfl),
   (fun lv l st w => Ex_goto (by decide +kernel : decode M_X7_beside.2.1 71 = .ok (.goto 4, 3)) rfl),
   (fun lv l st w => Ex_A (i := .iconst (-1)) (n := 1) (by decide +kernel) rfl rfl),
   (fun lv l x w => Ex_R (i := .ireturn) (n := 1) (by decide +kernel) rfl rfl rfl rfl rfl),
   (fun lv st t o0 o1 o2 x w => Ex_M (i := .iload_n 3) (n := 1) (by decide +kernel) rfl rfl rfl),
   (fun lv l st x w => Ex_if_le (by decide +kernel : decode M_X7_beside.2.1 77 = .ok (.ifCond .le 9, 3)) rfl rfl),
   (fun lv st t x w => Ex_M (i := .iload_n 0) (n := 1) (by decide +kernel) rfl rfl rfl),
   (fun lv l st w => Ex_A (i := .iconst 1) (n := 1) (by decide +kernel) rfl rfl),
   (fun lv l st x y w => Ex_A (i := .isub) (n := 1) (by decide +kernel) rfl rfl),
   (fun lv l st w => Ex_goto (by decide +kernel : decode M_X7_beside.2.1 83 = .ok (.goto 4, 3)) rfl),
   (fun lv l st w => Ex_A (i := .iconst (-1)) (n := 1) (by decide +kernel) rfl rfl),
   (fun lv l x w => Ex_R (i := .ireturn) (n := 1) (by decide +kernel) rfl rfl rfl rfl rfl)⟩
set_option maxRecDepth 20000 in
set_option maxHeartbeats 4000000 in
theorem R_X8_init : (∀ (lv : Nat) (st : List Value) (t : LX) (x : Nat) (w : AH), Ex M_X8_init lv 0 (some (.ref x) :: t) st w = Ex M_X8_init lv 1 (some (.ref x) :: t) (.ref x :: st) w)
  ∧ (∀ (lv : Nat) (st : List Value) (t : LX) (w : AH), Ex M_X8_init lv 0 (some (.null) :: t) st w = Ex M_X8_init lv 1 (some (.null) :: t) (.null :: st) w)
  ∧ (∀ (lv : Nat) (l : LX) (b : Nat) (w : AH), Ex M_X8_init lv 1 l (.ref b :: []) w = Ex M_X8_init lv 4 l [] w)
  ∧ (∀ (lv : Nat) (st : List Value) (t : LX) (x : Nat) (w : AH), Ex M_X8_init lv 4 (some (.ref x) :: t) st w = Ex M_X8_init lv 5 (some (.ref x) :: t) (.ref x :: st) w)
  ∧ (∀ (lv : Nat) (st : List Value) (t : LX) (w : AH), Ex M_X8_init lv 4 (some (.null) :: t) st w = Ex M_X8_init lv 5 (some (.null) :: t) (.null :: st) w)
  ∧ (∀ (lv : Nat) (l : LX) (st : List Value) (w : AH), Ex M_X8_init lv 5 l st w = Ex M_X8_init lv 7 l (.int 40 :: st) w)
  ∧ (∀ (lv : Nat) (l : LX) (st : List Value) (w : AH), Ex M_X8_init lv 7 l (.int 40 :: st) w = Ex M_X8_init lv 9 l (.ref w.1 :: st) (hn w (.inl (0, 40, .inl (fun _ => 0))) 40))
  ∧ (∀ (lv : Nat) (l : LX) (st : List Value) (a : Nat) (v : Value) (w : AH), Ex M_X8_init lv 9 l (v :: .ref a :: st) w = if (pf (hg w a) 7 0 (.array .int) v).isSome = true then Ex M_X8_init lv 12 l st (hs w a (vE (pf (hg w a) 7 0 (.array .int) v))) else none)
  ∧ (∀ (lv : Nat) (st : List Value) (t : LX) (x : Nat) (w : AH), Ex M_X8_init lv 12 (some (.ref x) :: t) st w = Ex M_X8_init lv 13 (some (.ref x) :: t) (.ref x :: st) w)
  ∧ (∀ (lv : Nat) (st : List Value) (t : LX) (w : AH), Ex M_X8_init lv 12 (some (.null) :: t) st w = Ex M_X8_init lv 13 (some (.null) :: t) (.null :: st) w)
  ∧ (∀ (lv : Nat) (l : LX) (st : List Value) (w : AH), Ex M_X8_init lv 13 l st w = Ex M_X8_init lv 14 l (.int 0 :: st) w)
  ∧ (∀ (lv : Nat) (l : LX) (st : List Value) (a : Nat) (v : Value) (w : AH), Ex M_X8_init lv 14 l (v :: .ref a :: st) w = if (pf (hg w a) 7 1 .int v).isSome = true then Ex M_X8_init lv 17 l st (hs w a (vE (pf (hg w a) 7 1 .int v))) else none)
  ∧ (∀ (lv : Nat) (st : List Value) (t : LX) (x : Nat) (w : AH), Ex M_X8_init lv 17 (some (.ref x) :: t) st w = Ex M_X8_init lv 18 (some (.ref x) :: t) (.ref x :: st) w)
  ∧ (∀ (lv : Nat) (st : List Value) (t : LX) (w : AH), Ex M_X8_init lv 17 (some (.null) :: t) st w = Ex M_X8_init lv 18 (some (.null) :: t) (.null :: st) w)
  ∧ (∀ (lv : Nat) (l : LX) (st : List Value) (w : AH), Ex M_X8_init lv 18 l st w = Ex M_X8_init lv 19 l (.int 0 :: st) w)
  ∧ (∀ (lv : Nat) (l : LX) (st : List Value) (a : Nat) (v : Value) (w : AH), Ex M_X8_init lv 19 l (v :: .ref a :: st) w = if (pf (hg w a) 7 2 .int v).isSome = true then Ex M_X8_init lv 22 l st (hs w a (vE (pf (hg w a) 7 2 .int v))) else none)
  ∧ (∀ (lv : Nat) (l : LX) (w : AH), Ex M_X8_init lv 22 l [] w = some (none, w)) :=
  ⟨(fun lv st t x w => Ex_M (i := .aload_n 0) (n := 1) (by decide +kernel) rfl rfl rfl),
   (fun lv st t w => Ex_M (i := .aload_n 0) (n := 1) (by decide +kernel) rfl rfl rfl),
   (fun lv l b w => Ex_oinit (by decide +kernel : decode M_X8_init.2.1 1 = .ok (.invokespecial 3, 3)) rfl (by rfl : resM (mCn M_X8_init) 3 = some (6, M_X0_init)) (by rfl)),
   (fun lv st t x w => Ex_M (i := .aload_n 0) (n := 1) (by decide +kernel) rfl rfl rfl),
   (fun lv st t w => Ex_M (i := .aload_n 0) (n := 1) (by decide +kernel) rfl rfl rfl),
   (fun lv l st w => Ex_A (i := .bipush 40) (n := 2) (by decide +kernel) rfl rfl),
   (fun lv l st w => Ex_newa (by decide +kernel : decode M_X8_init.2.1 7 = .ok (.newarray .int, 2)) rfl (by decide) (by decide) rfl),
   (fun lv l st a v w => Ex_putf (by decide +kernel : decode M_X8_init.2.1 9 = .ok (.putfield 9, 3)) rfl (by decide +kernel : resF (mCn M_X8_init) 9 = some (7, 0, (.array .int), true)) (by decide +kernel)),
   (fun lv st t x w => Ex_M (i := .aload_n 0) (n := 1) (by decide +kernel) rfl rfl rfl),
   (fun lv st t w => Ex_M (i := .aload_n 0) (n := 1) (by decide +kernel) rfl rfl rfl),
   (fun lv l st w => Ex_A (i := .iconst 0) (n := 1) (by decide +kernel) rfl rfl),
   (fun lv l st a v w => Ex_putf (by decide +kernel : decode M_X8_init.2.1 14 = .ok (.putfield 15, 3)) rfl (by decide +kernel : resF (mCn M_X8_init) 15 = some (7, 1, .int, false)) (by decide +kernel)),
   (fun lv st t x w => Ex_M (i := .aload_n 0) (n := 1) (by decide +kernel) rfl rfl rfl),
   (fun lv st t w => Ex_M (i := .aload_n 0) (n := 1) (by decide +kernel) rfl rfl rfl),
   (fun lv l st w => Ex_A (i := .iconst 0) (n := 1) (by decide +kernel) rfl rfl),
   (fun lv l st a v w => Ex_putf (by decide +kernel : decode M_X8_init.2.1 19 = .ok (.putfield 19, 3)) rfl (by decide +kernel : resF (mCn M_X8_init) 19 = some (7, 2, .int, false)) (by decide +kernel)),
   (fun lv l w => Ex_R (i := .return_) (n := 1) (by decide +kernel) rfl rfl rfl rfl rfl)⟩
set_option maxRecDepth 20000 in
theorem H_X8_make_12 : ∀ (lv : Nat) (st : List Value) (t : LX) (o0 o1 o2 : Option Value) (x : Int32) (w : AH), Ex M_X8_make lv 12 (o0 :: o1 :: o2 :: some (.int x) :: t) st w = Ex M_X8_make lv 13 (o0 :: o1 :: o2 :: some (.int x) :: t) (.int x :: st) w := fun lv st t o0 o1 o2 x w => Ex_M (i := .iload_n 3) (n := 1) (by decide +kernel) rfl rfl rfl
set_option maxRecDepth 20000 in
set_option maxHeartbeats 4000000 in
theorem R_X8_make : (∀ (lv : Nat) (st : List Value) (t : LX) (x : Nat) (w : AH), Ex M_X8_make lv 0 (some (.ref x) :: t) st w = Ex M_X8_make lv 1 (some (.ref x) :: t) (.ref x :: st) w)
  ∧ (∀ (lv : Nat) (st : List Value) (t : LX) (w : AH), Ex M_X8_make lv 0 (some (.null) :: t) st w = Ex M_X8_make lv 1 (some (.null) :: t) (.null :: st) w)
  ∧ (∀ (lv : Nat) (st : List Value) (t : LX) (o0 : Option Value) (x : Int32) (w : AH), Ex M_X8_make lv 1 (o0 :: some (.int x) :: t) st w = Ex M_X8_make lv 2 (o0 :: some (.int x) :: t) (.int x :: st) w)
  ∧ (∀ (lv : Nat) (l : LX) (st : List Value) (a : Nat) (v : Value) (w : AH), Ex M_X8_make lv 2 l (v :: .ref a :: st) w = if (pf (hg w a) 7 1 .int v).isSome = true then Ex M_X8_make lv 5 l st (hs w a (vE (pf (hg w a) 7 1 .int v))) else none)
  ∧ (∀ (lv : Nat) (st : List Value) (t : LX) (x : Nat) (w : AH), Ex M_X8_make lv 5 (some (.ref x) :: t) st w = Ex M_X8_make lv 6 (some (.ref x) :: t) (.ref x :: st) w)
  ∧ (∀ (lv : Nat) (st : List Value) (t : LX) (w : AH), Ex M_X8_make lv 5 (some (.null) :: t) st w = Ex M_X8_make lv 6 (some (.null) :: t) (.null :: st) w)
  ∧ (∀ (lv : Nat) (st : List Value) (t : LX) (o0 o1 : Option Value) (x : Int32) (w : AH), Ex M_X8_make lv 6 (o0 :: o1 :: some (.int x) :: t) st w = Ex M_X8_make lv 7 (o0 :: o1 :: some (.int x) :: t) (.int x :: st) w)
  ∧ (∀ (lv : Nat) (l : LX) (st : List Value) (a : Nat) (v : Value) (w : AH), Ex M_X8_make lv 7 l (v :: .ref a :: st) w = if (pf (hg w a) 7 2 .int v).isSome = true then Ex M_X8_make lv 10 l st (hs w a (vE (pf (hg w a) 7 2 .int v))) else none)
  ∧ (∀ (lv : Nat) (l : LX) (st : List Value) (w : AH), Ex M_X8_make lv 10 l st w = Ex M_X8_make lv 11 l (.int 0 :: st) w)
  ∧ (∀ (lv : Nat) (l : LX) (st : List Value) (x : Int32) (w : AH), Ex M_X8_make lv 11 l (.int x :: st) w = Ex M_X8_make lv 12 (ls1 l 3 (.int x)) st w)
  ∧ (∀ (lv : Nat) (l : LX) (st : List Value) (w : AH), Ex M_X8_make lv 13 l st w = Ex M_X8_make lv 15 l (.int 40 :: st) w)
  ∧ (∀ (lv : Nat) (l : LX) (st : List Value) (x y : Int32) (w : AH), Ex M_X8_make lv 15 l (.int y :: .int x :: st) w = if y ≤ x then Ex M_X8_make lv 31 l st w else Ex M_X8_make lv 18 l st w)
  ∧ (∀ (lv : Nat) (st : List Value) (t : LX) (x : Nat) (w : AH), Ex M_X8_make lv 18 (some (.ref x) :: t) st w = Ex M_X8_make lv 19 (some (.ref x) :: t) (.ref x :: st) w)
  ∧ (∀ (lv : Nat) (st : List Value) (t : LX) (w : AH), Ex M_X8_make lv 18 (some (.null) :: t) st w = Ex M_X8_make lv 19 (some (.null) :: t) (.null :: st) w)
  ∧ (∀ (lv : Nat) (l : LX) (st : List Value) (a : Nat) (w : AH), Ex M_X8_make lv 19 l (.ref a :: st) w = if (gf (hg w a) 7 0).isSome = true then Ex M_X8_make lv 22 l (vV (gf (hg w a) 7 0) :: st) w else none)
  ∧ (∀ (lv : Nat) (st : List Value) (t : LX) (o0 o1 o2 : Option Value) (x : Int32) (w : AH), Ex M_X8_make lv 22 (o0 :: o1 :: o2 :: some (.int x) :: t) st w = Ex M_X8_make lv 23 (o0 :: o1 :: o2 :: some (.int x) :: t) (.int x :: st) w)
  ∧ (∀ (lv : Nat) (l : LX) (st : List Value) (w : AH), Ex M_X8_make lv 23 l st w = Ex M_X8_make lv 24 l (.int 0 :: st) w)
  ∧ (∀ (lv : Nat) (l : LX) (st : List Value) (a : Nat) (i : Int32) (x : Int32) (w : AH), Ex M_X8_make lv 24 l (.int x :: .int i :: .ref a :: st) w = if (uI (hg w a) i x).isSome = true then Ex M_X8_make lv 25 l st (hs w a (vE (uI (hg w a) i x))) else none)
  ∧ (∀ (lv : Nat) (st : List Value) (t : LX) (o0 o1 o2 : Option Value) (x : Int32) (w : AH), Ex M_X8_make lv 25 (o0 :: o1 :: o2 :: some (.int x) :: t) st w = Ex M_X8_make lv 28 (ls1 (o0 :: o1 :: o2 :: some (.int x) :: t) 3 (.int (x + 1))) st w)
  ∧ (∀ (lv : Nat) (l : LX) (st : List Value) (w : AH), Ex M_X8_make lv 28 l st w = Ex M_X8_make lv 12 l st w)
  ∧ (∀ (lv : Nat) (l : LX) (w : AH), Ex M_X8_make lv 31 l [] w = some (none, w)) :=
  ⟨(fun lv st t x w => Ex_M (i := .aload_n 0) (n := 1) (by decide +kernel) rfl rfl rfl),
   (fun lv st t w => Ex_M (i := .aload_n 0) (n := 1) (by decide +kernel) rfl rfl rfl),
   (fun lv st t o0 x w => Ex_M (i := .iload_n 1) (n := 1) (by decide +kernel) rfl rfl rfl),
   (fun lv l st a v w => Ex_putf (by decide +kernel : decode M_X8_make.2.1 2 = .ok (.putfield 15, 3)) rfl (by decide +kernel : resF (mCn M_X8_make) 15 = some (7, 1, .int, false)) (by decide +kernel)),
   (fun lv st t x w => Ex_M (i := .aload_n 0) (n := 1) (by decide +kernel) rfl rfl rfl),
   (fun lv st t w => Ex_M (i := .aload_n 0) (n := 1) (by decide +kernel) rfl rfl rfl),
   (fun lv st t o0 o1 x w => Ex_M (i := .iload_n 2) (n := 1) (by decide +kernel) rfl rfl rfl),
   (fun lv l st a v w => Ex_putf (by decide +kernel : decode M_X8_make.2.1 7 = .ok (.putfield 19, 3)) rfl (by decide +kernel : resF (mCn M_X8_make) 19 = some (7, 2, .int, false)) (by decide +kernel)),
   (fun lv l st w => Ex_A (i := .iconst 0) (n := 1) (by decide +kernel) rfl rfl),
   (fun lv l st x w => Ex_M (i := .istore_n 3) (n := 1) (by decide +kernel) rfl rfl rfl),
   (fun lv l st w => Ex_A (i := .bipush 40) (n := 2) (by decide +kernel) rfl rfl),
   (fun lv l st x y w => Ex_icmp_ge (by decide +kernel : decode M_X8_make.2.1 15 = .ok (.if_icmp .ge 16, 3)) rfl rfl),
   (fun lv st t x w => Ex_M (i := .aload_n 0) (n := 1) (by decide +kernel) rfl rfl rfl),
   (fun lv st t w => Ex_M (i := .aload_n 0) (n := 1) (by decide +kernel) rfl rfl rfl),
   (fun lv l st a w => Ex_getf (by decide +kernel : decode M_X8_make.2.1 19 = .ok (.getfield 9, 3)) rfl (by decide +kernel : resF (mCn M_X8_make) 9 = some (7, 0, (.array .int), true))),
   (fun lv st t o0 o1 o2 x w => Ex_M (i := .iload_n 3) (n := 1) (by decide +kernel) rfl rfl rfl),
   (fun lv l st w => Ex_A (i := .iconst 0) (n := 1) (by decide +kernel) rfl rfl),
   (fun lv l st a i x w => Ex_ias (by decide +kernel : decode M_X8_make.2.1 24 = .ok (.iastore, 1)) rfl),
   (fun lv st t o0 o1 o2 x w => Ex_iinc (by decide +kernel : decode M_X8_make.2.1 25 = .ok (.iinc 3 1, 3)) rfl rfl (by decide) (by decide)),
   (fun lv l st w => Ex_goto (by decide +kernel : decode M_X8_make.2.1 28 = .ok (.goto (-16), 3)) rfl),
   (fun lv l w => Ex_R (i := .return_) (n := 1) (by decide +kernel) rfl rfl rfl rfl rfl)⟩
set_option maxRecDepth 20000 in
set_option maxHeartbeats 4000000 in
theorem R_X8_isMissing : (∀ (lv : Nat) (st : List Value) (t : LX) (x : Nat) (w : AH), Ex M_X8_isMissing lv 0 (some (.ref x) :: t) st w = Ex M_X8_isMissing lv 1 (some (.ref x) :: t) (.ref x :: st) w)
  ∧ (∀ (lv : Nat) (st : List Value) (t : LX) (w : AH), Ex M_X8_isMissing lv 0 (some (.null) :: t) st w = Ex M_X8_isMissing lv 1 (some (.null) :: t) (.null :: st) w)
  ∧ (∀ (lv : Nat) (l : LX) (st : List Value) (a : Nat) (w : AH), Ex M_X8_isMissing lv 1 l (.ref a :: st) w = if (gf (hg w a) 7 1).isSome = true then Ex M_X8_isMissing lv 4 l (vV (gf (hg w a) 7 1) :: st) w else none)
  ∧ (∀ (lv : Nat) (l : LX) (st : List Value) (x : Int32) (w : AH), Ex M_X8_isMissing lv 4 l (.int x :: st) w = if ¬ x = 0 then Ex M_X8_isMissing lv 11 l st w else Ex M_X8_isMissing lv 7 l st w)
  ∧ (∀ (lv : Nat) (l : LX) (st : List Value) (w : AH), Ex M_X8_isMissing lv 7 l st w = Ex M_X8_isMissing lv 8 l (.int 1 :: st) w)
  ∧ (∀ (lv : Nat) (l : LX) (st : List Value) (w : AH), Ex M_X8_isMissing lv 8 l st w = Ex M_X8_isMissing lv 12 l st w)
  ∧ (∀ (lv : Nat) (l : LX) (st : List Value) (w : AH), Ex M_X8_isMissing lv 11 l st w = Ex M_X8_isMissing lv 12 l (.int 0 :: st) w)
  ∧ (∀ (lv : Nat) (l : LX) (x : Int32) (w : AH), Ex M_X8_isMissing lv 12 l [.int x] w = if x = 0 ∨ x = 1 then some (some (.int x), w) else none) :=
  ⟨(fun lv st t x w => Ex_M (i := .aload_n 0) (n := 1) (by decide +kernel) rfl rfl rfl),
   (fun lv st t w => Ex_M (i := .aload_n 0) (n := 1) (by decide +kernel) rfl rfl rfl),
   (fun lv l st a w => Ex_getf (by decide +kernel : decode M_X8_isMissing.2.1 1 = .ok (.getfield 15, 3)) rfl (by decide +kernel : resF (mCn M_X8_isMissing) 15 = some (7, 1, .int, false))),
   (fun lv l st x w => Ex_if_ne (by decide +kernel : decode M_X8_isMissing.2.1 4 = .ok (.ifCond .ne 7, 3)) rfl rfl),
   (fun lv l st w => Ex_A (i := .iconst 1) (n := 1) (by decide +kernel) rfl rfl),
   (fun lv l st w => Ex_goto (by decide +kernel : decode M_X8_isMissing.2.1 8 = .ok (.goto 4, 3)) rfl),
   (fun lv l st w => Ex_A (i := .iconst 0) (n := 1) (by decide +kernel) rfl rfl),
   (fun lv l x w => Ex_zret (by decide +kernel : decode M_X8_isMissing.2.1 12 = .ok (.ireturn, 1)) rfl)⟩
set_option maxRecDepth 20000 in
set_option maxHeartbeats 4000000 in
theorem R_X8_has : (∀ (lv : Nat) (st : List Value) (t : LX) (o0 : Option Value) (x : Int32) (w : AH), Ex M_X8_has lv 0 (o0 :: some (.int x) :: t) st w = Ex M_X8_has lv 1 (o0 :: some (.int x) :: t) (.int x :: st) w)
  ∧ (∀ (lv : Nat) (l : LX) (st : List Value) (x : Int32) (w : AH), Ex M_X8_has lv 1 l (.int x :: st) w = if x < 0 then Ex M_X8_has lv 22 l st w else Ex M_X8_has lv 4 l st w)
  ∧ (∀ (lv : Nat) (st : List Value) (t : LX) (o0 : Option Value) (x : Int32) (w : AH), Ex M_X8_has lv 4 (o0 :: some (.int x) :: t) st w = Ex M_X8_has lv 5 (o0 :: some (.int x) :: t) (.int x :: st) w)
  ∧ (∀ (lv : Nat) (st : List Value) (t : LX) (x : Nat) (w : AH), Ex M_X8_has lv 5 (some (.ref x) :: t) st w = Ex M_X8_has lv 6 (some (.ref x) :: t) (.ref x :: st) w)
  ∧ (∀ (lv : Nat) (st : List Value) (t : LX) (w : AH), Ex M_X8_has lv 5 (some (.null) :: t) st w = Ex M_X8_has lv 6 (some (.null) :: t) (.null :: st) w)
  ∧ (∀ (lv : Nat) (l : LX) (st : List Value) (a : Nat) (w : AH), Ex M_X8_has lv 6 l (.ref a :: st) w = if (gf (hg w a) 7 2).isSome = true then Ex M_X8_has lv 9 l (vV (gf (hg w a) 7 2) :: st) w else none)
  ∧ (∀ (lv : Nat) (l : LX) (st : List Value) (x y : Int32) (w : AH), Ex M_X8_has lv 9 l (.int y :: .int x :: st) w = if y ≤ x then Ex M_X8_has lv 22 l st w else Ex M_X8_has lv 12 l st w)
  ∧ (∀ (lv : Nat) (st : List Value) (t : LX) (o0 : Option Value) (x : Int32) (w : AH), Ex M_X8_has lv 12 (o0 :: some (.int x) :: t) st w = Ex M_X8_has lv 13 (o0 :: some (.int x) :: t) (.int x :: st) w)
  ∧ (∀ (lv : Nat) (l : LX) (st : List Value) (w : AH), Ex M_X8_has lv 13 l st w = Ex M_X8_has lv 15 l (.int 40 :: st) w)
  ∧ (∀ (lv : Nat) (l : LX) (st : List Value) (x y : Int32) (w : AH), Ex M_X8_has lv 15 l (.int y :: .int x :: st) w = if y ≤ x then Ex M_X8_has lv 22 l st w else Ex M_X8_has lv 18 l st w)
  ∧ (∀ (lv : Nat) (l : LX) (st : List Value) (w : AH), Ex M_X8_has lv 18 l st w = Ex M_X8_has lv 19 l (.int 1 :: st) w)
  ∧ (∀ (lv : Nat) (l : LX) (st : List Value) (w : AH), Ex M_X8_has lv 19 l st w = Ex M_X8_has lv 23 l st w)
  ∧ (∀ (lv : Nat) (l : LX) (st : List Value) (w : AH), Ex M_X8_has lv 22 l st w = Ex M_X8_has lv 23 l (.int 0 :: st) w)
  ∧ (∀ (lv : Nat) (l : LX) (x : Int32) (w : AH), Ex M_X8_has lv 23 l [.int x] w = if x = 0 ∨ x = 1 then some (some (.int x), w) else none) :=
  ⟨(fun lv st t o0 x w => Ex_M (i := .iload_n 1) (n := 1) (by decide +kernel) rfl rfl rfl),
   (fun lv l st x w => Ex_if_lt (by decide +kernel : decode M_X8_has.2.1 1 = .ok (.ifCond .lt 21, 3)) rfl rfl),
   (fun lv st t o0 x w => Ex_M (i := .iload_n 1) (n := 1) (by decide +kernel) rfl rfl rfl),
   (fun lv st t x w => Ex_M (i := .aload_n 0) (n := 1) (by decide +kernel) rfl rfl rfl),
   (fun lv st t w => Ex_M (i := .aload_n 0) (n := 1) (by decide +kernel) rfl rfl rfl),
   (fun lv l st a w => Ex_getf (by decide +kernel : decode M_X8_has.2.1 6 = .ok (.getfield 19, 3)) rfl (by decide +kernel : resF (mCn M_X8_has) 19 = some (7, 2, .int, false))),
   (fun lv l st x y w => Ex_icmp_ge (by decide +kernel : decode M_X8_has.2.1 9 = .ok (.if_icmp .ge 13, 3)) rfl rfl),
   (fun lv st t o0 x w => Ex_M (i := .iload_n 1) (n := 1) (by decide +kernel) rfl rfl rfl),
   (fun lv l st w => Ex_A (i := .bipush 40) (n := 2) (by decide +kernel) rfl rfl),
   (fun lv l st x y w => Ex_icmp_ge (by decide +kernel : decode M_X8_has.2.1 15 = .ok (.if_icmp .ge 7, 3)) rfl rfl),
   (fun lv l st w => Ex_A (i := .iconst 1) (n := 1) (by decide +kernel) rfl rfl),
   (fun lv l st w => Ex_goto (by decide +kernel : decode M_X8_has.2.1 19 = .ok (.goto 4, 3)) rfl),
   (fun lv l st w => Ex_A (i := .iconst 0) (n := 1) (by decide +kernel) rfl rfl),
   (fun lv l x w => Ex_zret (by decide +kernel : decode M_X8_has.2.1 23 = .ok (.ireturn, 1)) rfl)⟩
set_option maxRecDepth 20000 in
set_option maxHeartbeats 4000000 in
theorem R_X8_hasAll : (∀ (lv : Nat) (st : List Value) (t : LX) (o0 : Option Value) (x : Int32) (w : AH), Ex M_X8_hasAll lv 0 (o0 :: some (.int x) :: t) st w = Ex M_X8_hasAll lv 1 (o0 :: some (.int x) :: t) (.int x :: st) w)
  ∧ (∀ (lv : Nat) (l : LX) (st : List Value) (x : Int32) (w : AH), Ex M_X8_hasAll lv 1 l (.int x :: st) w = if x < 0 then Ex M_X8_hasAll lv 30 l st w else Ex M_X8_hasAll lv 4 l st w)
  ∧ (∀ (lv : Nat) (st : List Value) (t : LX) (o0 o1 : Option Value) (x : Int32) (w : AH), Ex M_X8_hasAll lv 4 (o0 :: o1 :: some (.int x) :: t) st w = Ex M_X8_hasAll lv 5 (o0 :: o1 :: some (.int x) :: t) (.int x :: st) w)
  ∧ (∀ (lv : Nat) (l : LX) (st : List Value) (x : Int32) (w : AH), Ex M_X8_hasAll lv 5 l (.int x :: st) w = if x < 0 then Ex M_X8_hasAll lv 30 l st w else Ex M_X8_hasAll lv 8 l st w)
  ∧ (∀ (lv : Nat) (st : List Value) (t : LX) (o0 o1 : Option Value) (x : Int32) (w : AH), Ex M_X8_hasAll lv 8 (o0 :: o1 :: some (.int x) :: t) st w = Ex M_X8_hasAll lv 9 (o0 :: o1 :: some (.int x) :: t) (.int x :: st) w)
  ∧ (∀ (lv : Nat) (st : List Value) (t : LX) (x : Nat) (w : AH), Ex M_X8_hasAll lv 9 (some (.ref x) :: t) st w = Ex M_X8_hasAll lv 10 (some (.ref x) :: t) (.ref x :: st) w)
  ∧ (∀ (lv : Nat) (st : List Value) (t : LX) (w : AH), Ex M_X8_hasAll lv 9 (some (.null) :: t) st w = Ex M_X8_hasAll lv 10 (some (.null) :: t) (.null :: st) w)
  ∧ (∀ (lv : Nat) (l : LX) (st : List Value) (a : Nat) (w : AH), Ex M_X8_hasAll lv 10 l (.ref a :: st) w = if (gf (hg w a) 7 2).isSome = true then Ex M_X8_hasAll lv 13 l (vV (gf (hg w a) 7 2) :: st) w else none)
  ∧ (∀ (lv : Nat) (l : LX) (st : List Value) (x y : Int32) (w : AH), Ex M_X8_hasAll lv 13 l (.int y :: .int x :: st) w = if y < x then Ex M_X8_hasAll lv 30 l st w else Ex M_X8_hasAll lv 16 l st w)
  ∧ (∀ (lv : Nat) (st : List Value) (t : LX) (o0 : Option Value) (x : Int32) (w : AH), Ex M_X8_hasAll lv 16 (o0 :: some (.int x) :: t) st w = Ex M_X8_hasAll lv 17 (o0 :: some (.int x) :: t) (.int x :: st) w)
  ∧ (∀ (lv : Nat) (st : List Value) (t : LX) (x : Nat) (w : AH), Ex M_X8_hasAll lv 17 (some (.ref x) :: t) st w = Ex M_X8_hasAll lv 18 (some (.ref x) :: t) (.ref x :: st) w)
  ∧ (∀ (lv : Nat) (st : List Value) (t : LX) (w : AH), Ex M_X8_hasAll lv 17 (some (.null) :: t) st w = Ex M_X8_hasAll lv 18 (some (.null) :: t) (.null :: st) w)
  ∧ (∀ (lv : Nat) (l : LX) (st : List Value) (a : Nat) (w : AH), Ex M_X8_hasAll lv 18 l (.ref a :: st) w = if (gf (hg w a) 7 2).isSome = true then Ex M_X8_hasAll lv 21 l (vV (gf (hg w a) 7 2) :: st) w else none)
  ∧ (∀ (lv : Nat) (st : List Value) (t : LX) (o0 o1 : Option Value) (x : Int32) (w : AH), Ex M_X8_hasAll lv 21 (o0 :: o1 :: some (.int x) :: t) st w = Ex M_X8_hasAll lv 22 (o0 :: o1 :: some (.int x) :: t) (.int x :: st) w)
  ∧ (∀ (lv : Nat) (l : LX) (st : List Value) (x y : Int32) (w : AH), Ex M_X8_hasAll lv 22 l (.int y :: .int x :: st) w = Ex M_X8_hasAll lv 23 l (.int (x - y) :: st) w)
  ∧ (∀ (lv : Nat) (l : LX) (st : List Value) (x y : Int32) (w : AH), Ex M_X8_hasAll lv 23 l (.int y :: .int x :: st) w = if y < x then Ex M_X8_hasAll lv 30 l st w else Ex M_X8_hasAll lv 26 l st w)
  ∧ (∀ (lv : Nat) (l : LX) (st : List Value) (w : AH), Ex M_X8_hasAll lv 26 l st w = Ex M_X8_hasAll lv 27 l (.int 1 :: st) w)
  ∧ (∀ (lv : Nat) (l : LX) (st : List Value) (w : AH), Ex M_X8_hasAll lv 27 l st w = Ex M_X8_hasAll lv 31 l st w)
  ∧ (∀ (lv : Nat) (l : LX) (st : List Value) (w : AH), Ex M_X8_hasAll lv 30 l st w = Ex M_X8_hasAll lv 31 l (.int 0 :: st) w)
  ∧ (∀ (lv : Nat) (l : LX) (x : Int32) (w : AH), Ex M_X8_hasAll lv 31 l [.int x] w = if x = 0 ∨ x = 1 then some (some (.int x), w) else none) :=
  ⟨(fun lv st t o0 x w => Ex_M (i := .iload_n 1) (n := 1) (by decide +kernel) rfl rfl rfl),
   (fun lv l st x w => Ex_if_lt (by decide +kernel : decode M_X8_hasAll.2.1 1 = .ok (.ifCond .lt 29, 3)) rfl rfl),
   (fun lv st t o0 o1 x w => Ex_M (i := .iload_n 2) (n := 1) (by decide +kernel) rfl rfl rfl),
   (fun lv l st x w => Ex_if_lt (by decide +kernel : decode M_X8_hasAll.2.1 5 = .ok (.ifCond .lt 25, 3)) rfl rfl),
   (fun lv st t o0 o1 x w => Ex_M (i := .iload_n 2) (n := 1) (by decide +kernel) rfl rfl rfl),
   (fun lv st t x w => Ex_M (i := .aload_n 0) (n := 1) (by decide +kernel) rfl rfl rfl),
   (fun lv st t w => Ex_M (i := .aload_n 0) (n := 1) (by decide +kernel) rfl rfl rfl),
   (fun lv l st a w => Ex_getf (by decide +kernel : decode M_X8_hasAll.2.1 10 = .ok (.getfield 19, 3)) rfl (by decide +kernel : resF (mCn M_X8_hasAll) 19 = some (7, 2, .int, false))),
   (fun lv l st x y w => Ex_icmp_gt (by decide +kernel : decode M_X8_hasAll.2.1 13 = .ok (.if_icmp .gt 17, 3)) rfl rfl),
   (fun lv st t o0 x w => Ex_M (i := .iload_n 1) (n := 1) (by decide +kernel) rfl rfl rfl),
   (fun lv st t x w => Ex_M (i := .aload_n 0) (n := 1) (by decide +kernel) rfl rfl rfl),
   (fun lv st t w => Ex_M (i := .aload_n 0) (n := 1) (by decide +kernel) rfl rfl rfl),
   (fun lv l st a w => Ex_getf (by decide +kernel : decode M_X8_hasAll.2.1 18 = .ok (.getfield 19, 3)) rfl (by decide +kernel : resF (mCn M_X8_hasAll) 19 = some (7, 2, .int, false))),
   (fun lv st t o0 o1 x w => Ex_M (i := .iload_n 2) (n := 1) (by decide +kernel) rfl rfl rfl),
   (fun lv l st x y w => Ex_A (i := .isub) (n := 1) (by decide +kernel) rfl rfl),
   (fun lv l st x y w => Ex_icmp_gt (by decide +kernel : decode M_X8_hasAll.2.1 23 = .ok (.if_icmp .gt 7, 3)) rfl rfl),
   (fun lv l st w => Ex_A (i := .iconst 1) (n := 1) (by decide +kernel) rfl rfl),
   (fun lv l st w => Ex_goto (by decide +kernel : decode M_X8_hasAll.2.1 27 = .ok (.goto 4, 3)) rfl),
   (fun lv l st w => Ex_A (i := .iconst 0) (n := 1) (by decide +kernel) rfl rfl),
   (fun lv l x w => Ex_zret (by decide +kernel : decode M_X8_hasAll.2.1 31 = .ok (.ireturn, 1)) rfl)⟩
set_option maxRecDepth 20000 in
set_option maxHeartbeats 4000000 in
theorem R_X8_get : (∀ (lv : Nat) (st : List Value) (t : LX) (x : Nat) (w : AH), Ex M_X8_get lv 0 (some (.ref x) :: t) st w = Ex M_X8_get lv 1 (some (.ref x) :: t) (.ref x :: st) w)
  ∧ (∀ (lv : Nat) (st : List Value) (t : LX) (w : AH), Ex M_X8_get lv 0 (some (.null) :: t) st w = Ex M_X8_get lv 1 (some (.null) :: t) (.null :: st) w)
  ∧ (∀ (lv : Nat) (st : List Value) (t : LX) (o0 : Option Value) (x : Int32) (w : AH), Ex M_X8_get lv 1 (o0 :: some (.int x) :: t) st w = Ex M_X8_get lv 2 (o0 :: some (.int x) :: t) (.int x :: st) w)
  ∧ (∀ (lv : Nat) (l : LX) (b : Nat) (a0 : Int32) (w : AH), Ex M_X8_get lv 2 l (.int a0 :: .ref b :: []) w = if clK (hg w b) = 7 then (if (Call M_X8_has 60 [.ref b, .int a0] w).isSome = true then Ex M_X8_get lv 5 l (pushR (cV (Call M_X8_has 60 [.ref b, .int a0] w)) []) (cW (Call M_X8_has 60 [.ref b, .int a0] w) w) else none) else none)
  ∧ (∀ (lv : Nat) (l : LX) (st : List Value) (x : Int32) (w : AH), Ex M_X8_get lv 5 l (.int x :: st) w = if x = 0 then Ex M_X8_get lv 17 l st w else Ex M_X8_get lv 8 l st w)
  ∧ (∀ (lv : Nat) (st : List Value) (t : LX) (x : Nat) (w : AH), Ex M_X8_get lv 8 (some (.ref x) :: t) st w = Ex M_X8_get lv 9 (some (.ref x) :: t) (.ref x :: st) w)
  ∧ (∀ (lv : Nat) (st : List Value) (t : LX) (w : AH), Ex M_X8_get lv 8 (some (.null) :: t) st w = Ex M_X8_get lv 9 (some (.null) :: t) (.null :: st) w)
  ∧ (∀ (lv : Nat) (l : LX) (st : List Value) (a : Nat) (w : AH), Ex M_X8_get lv 9 l (.ref a :: st) w = if (gf (hg w a) 7 0).isSome = true then Ex M_X8_get lv 12 l (vV (gf (hg w a) 7 0) :: st) w else none)
  ∧ (∀ (lv : Nat) (st : List Value) (t : LX) (o0 : Option Value) (x : Int32) (w : AH), Ex M_X8_get lv 12 (o0 :: some (.int x) :: t) st w = Ex M_X8_get lv 13 (o0 :: some (.int x) :: t) (.int x :: st) w)
  ∧ (∀ (lv : Nat) (l : LX) (st : List Value) (a : Nat) (i : Int32) (w : AH), Ex M_X8_get lv 13 l (.int i :: .ref a :: st) w = if (aI (hg w a) i).isSome = true then Ex M_X8_get lv 14 l (.int (vI (aI (hg w a) i)) :: st) w else none)
  ∧ (∀ (lv : Nat) (l : LX) (st : List Value) (w : AH), Ex M_X8_get lv 14 l st w = Ex M_X8_get lv 18 l st w)
  ∧ (∀ (lv : Nat) (l : LX) (st : List Value) (w : AH), Ex M_X8_get lv 17 l st w = Ex M_X8_get lv 18 l (.int 0 :: st) w)
  ∧ (∀ (lv : Nat) (l : LX) (x : Int32) (w : AH), Ex M_X8_get lv 18 l [.int x] w = some (some (.int x), w)) :=
  ⟨(fun lv st t x w => Ex_M (i := .aload_n 0) (n := 1) (by decide +kernel) rfl rfl rfl),
   (fun lv st t w => Ex_M (i := .aload_n 0) (n := 1) (by decide +kernel) rfl rfl rfl),
   (fun lv st t o0 x w => Ex_M (i := .iload_n 1) (n := 1) (by decide +kernel) rfl rfl rfl),
   (fun lv l b a0 w => Ex_callV (by decide +kernel : decode M_X8_get.2.1 2 = .ok (.invokevirtual 22, 3)) rfl (by rfl : resM (mCn M_X8_get) 22 = some (2, M_X8_has)) rfl (by rfl) (Nat.le_of_ble_eq_true rfl) (by decide +kernel) (sLv_lt (by decide +kernel))),
   (fun lv l st x w => Ex_if_eq (by decide +kernel : decode M_X8_get.2.1 5 = .ok (.ifCond .eq 12, 3)) rfl rfl),
   (fun lv st t x w => Ex_M (i := .aload_n 0) (n := 1) (by decide +kernel) rfl rfl rfl),
   (fun lv st t w => Ex_M (i := .aload_n 0) (n := 1) (by decide +kernel) rfl rfl rfl),
   (fun lv l st a w => Ex_getf (by decide +kernel : decode M_X8_get.2.1 9 = .ok (.getfield 9, 3)) rfl (by decide +kernel : resF (mCn M_X8_get) 9 = some (7, 0, (.array .int), true))),
   (fun lv st t o0 x w => Ex_M (i := .iload_n 1) (n := 1) (by decide +kernel) rfl rfl rfl),
   (fun lv l st a i w => Ex_ial (by decide +kernel : decode M_X8_get.2.1 13 = .ok (.iaload, 1)) rfl),
   (fun lv l st w => Ex_goto (by decide +kernel : decode M_X8_get.2.1 14 = .ok (.goto 4, 3)) rfl),
   (fun lv l st w => Ex_A (i := .iconst 0) (n := 1) (by decide +kernel) rfl rfl),
   (fun lv l x w => Ex_R (i := .ireturn) (n := 1) (by decide +kernel) rfl rfl rfl rfl rfl)⟩
set_option maxRecDepth 20000 in
set_option maxHeartbeats 4000000 in
theorem R_X8_set : (∀ (lv : Nat) (st : List Value) (t : LX) (x : Nat) (w : AH), Ex M_X8_set lv 0 (some (.ref x) :: t) st w = Ex M_X8_set lv 1 (some (.ref x) :: t) (.ref x :: st) w)
  ∧ (∀ (lv : Nat) (st : List Value) (t : LX) (w : AH), Ex M_X8_set lv 0 (some (.null) :: t) st w = Ex M_X8_set lv 1 (some (.null) :: t) (.null :: st) w)
  ∧ (∀ (lv : Nat) (st : List Value) (t : LX) (o0 : Option Value) (x : Int32) (w : AH), Ex M_X8_set lv 1 (o0 :: some (.int x) :: t) st w = Ex M_X8_set lv 2 (o0 :: some (.int x) :: t) (.int x :: st) w)
  ∧ (∀ (lv : Nat) (l : LX) (b : Nat) (a0 : Int32) (w : AH), Ex M_X8_set lv 2 l (.int a0 :: .ref b :: []) w = if clK (hg w b) = 7 then (if (Call M_X8_has 60 [.ref b, .int a0] w).isSome = true then Ex M_X8_set lv 5 l (pushR (cV (Call M_X8_has 60 [.ref b, .int a0] w)) []) (cW (Call M_X8_has 60 [.ref b, .int a0] w) w) else none) else none)
  ∧ (∀ (lv : Nat) (l : LX) (st : List Value) (x : Int32) (w : AH), Ex M_X8_set lv 5 l (.int x :: st) w = if ¬ x = 0 then Ex M_X8_set lv 9 l st w else Ex M_X8_set lv 8 l st w)
  ∧ (∀ (lv : Nat) (l : LX) (w : AH), Ex M_X8_set lv 8 l [] w = some (none, w))
  ∧ (∀ (lv : Nat) (st : List Value) (t : LX) (x : Nat) (w : AH), Ex M_X8_set lv 9 (some (.ref x) :: t) st w = Ex M_X8_set lv 10 (some (.ref x) :: t) (.ref x :: st) w)
  ∧ (∀ (lv : Nat) (st : List Value) (t : LX) (w : AH), Ex M_X8_set lv 9 (some (.null) :: t) st w = Ex M_X8_set lv 10 (some (.null) :: t) (.null :: st) w)
  ∧ (∀ (lv : Nat) (l : LX) (st : List Value) (a : Nat) (w : AH), Ex M_X8_set lv 10 l (.ref a :: st) w = if (gf (hg w a) 7 0).isSome = true then Ex M_X8_set lv 13 l (vV (gf (hg w a) 7 0) :: st) w else none)
  ∧ (∀ (lv : Nat) (st : List Value) (t : LX) (o0 : Option Value) (x : Int32) (w : AH), Ex M_X8_set lv 13 (o0 :: some (.int x) :: t) st w = Ex M_X8_set lv 14 (o0 :: some (.int x) :: t) (.int x :: st) w)
  ∧ (∀ (lv : Nat) (st : List Value) (t : LX) (x : Nat) (w : AH), Ex M_X8_set lv 14 (some (.ref x) :: t) st w = Ex M_X8_set lv 15 (some (.ref x) :: t) (.ref x :: st) w)
  ∧ (∀ (lv : Nat) (st : List Value) (t : LX) (w : AH), Ex M_X8_set lv 14 (some (.null) :: t) st w = Ex M_X8_set lv 15 (some (.null) :: t) (.null :: st) w)
  ∧ (∀ (lv : Nat) (l : LX) (st : List Value) (a : Nat) (w : AH), Ex M_X8_set lv 15 l (.ref a :: st) w = if (gf (hg w a) 7 1).isSome = true then Ex M_X8_set lv 18 l (vV (gf (hg w a) 7 1) :: st) w else none)
  ∧ (∀ (lv : Nat) (l : LX) (st : List Value) (w : AH), Ex M_X8_set lv 18 l st w = Ex M_X8_set lv 20 l (.int 32 :: st) w)
  ∧ (∀ (lv : Nat) (l : LX) (st : List Value) (x y : Int32) (w : AH), Ex M_X8_set lv 20 l (.int y :: .int x :: st) w = if ¬ x = y then Ex M_X8_set lv 27 l st w else Ex M_X8_set lv 23 l st w)
  ∧ (∀ (lv : Nat) (st : List Value) (t : LX) (o0 o1 : Option Value) (x : Int32) (w : AH), Ex M_X8_set lv 23 (o0 :: o1 :: some (.int x) :: t) st w = Ex M_X8_set lv 24 (o0 :: o1 :: some (.int x) :: t) (.int x :: st) w)
  ∧ (∀ (lv : Nat) (l : LX) (st : List Value) (w : AH), Ex M_X8_set lv 24 l st w = Ex M_X8_set lv 37 l st w)
  ∧ (∀ (lv : Nat) (st : List Value) (t : LX) (o0 o1 : Option Value) (x : Int32) (w : AH), Ex M_X8_set lv 27 (o0 :: o1 :: some (.int x) :: t) st w = Ex M_X8_set lv 28 (o0 :: o1 :: some (.int x) :: t) (.int x :: st) w)
  ∧ (∀ (lv : Nat) (l : LX) (st : List Value) (w : AH), Ex M_X8_set lv 28 l st w = Ex M_X8_set lv 29 l (.int 1 :: st) w)
  ∧ (∀ (lv : Nat) (st : List Value) (t : LX) (x : Nat) (w : AH), Ex M_X8_set lv 29 (some (.ref x) :: t) st w = Ex M_X8_set lv 30 (some (.ref x) :: t) (.ref x :: st) w)
  ∧ (∀ (lv : Nat) (st : List Value) (t : LX) (w : AH), Ex M_X8_set lv 29 (some (.null) :: t) st w = Ex M_X8_set lv 30 (some (.null) :: t) (.null :: st) w)
  ∧ (∀ (lv : Nat) (l : LX) (st : List Value) (a : Nat) (w : AH), Ex M_X8_set lv 30 l (.ref a :: st) w = if (gf (hg w a) 7 1).isSome = true then Ex M_X8_set lv 33 l (vV (gf (hg w a) 7 1) :: st) w else none)
  ∧ (∀ (lv : Nat) (l : LX) (st : List Value) (x y : Int32) (w : AH), Ex M_X8_set lv 33 l (.int y :: .int x :: st) w = Ex M_X8_set lv 34 l (.int (x <<< (y &&& 31)) :: st) w)
  ∧ (∀ (lv : Nat) (l : LX) (st : List Value) (w : AH), Ex M_X8_set lv 34 l st w = Ex M_X8_set lv 35 l (.int 1 :: st) w)
  ∧ (∀ (lv : Nat) (l : LX) (st : List Value) (x y : Int32) (w : AH), Ex M_X8_set lv 35 l (.int y :: .int x :: st) w = Ex M_X8_set lv 36 l (.int (x - y) :: st) w)
  ∧ (∀ (lv : Nat) (l : LX) (st : List Value) (x y : Int32) (w : AH), Ex M_X8_set lv 36 l (.int y :: .int x :: st) w = Ex M_X8_set lv 37 l (.int (x &&& y) :: st) w)
  ∧ (∀ (lv : Nat) (l : LX) (st : List Value) (a : Nat) (i : Int32) (x : Int32) (w : AH), Ex M_X8_set lv 37 l (.int x :: .int i :: .ref a :: st) w = if (uI (hg w a) i x).isSome = true then Ex M_X8_set lv 38 l st (hs w a (vE (uI (hg w a) i x))) else none)
  ∧ (∀ (lv : Nat) (l : LX) (w : AH), Ex M_X8_set lv 38 l [] w = some (none, w)) :=
  ⟨(fun lv st t x w => Ex_M (i := .aload_n 0) (n := 1) (by decide +kernel) rfl rfl rfl),
   (fun lv st t w => Ex_M (i := .aload_n 0) (n := 1) (by decide +kernel) rfl rfl rfl),
   (fun lv st t o0 x w => Ex_M (i := .iload_n 1) (n := 1) (by decide +kernel) rfl rfl rfl),
   (fun lv l b a0 w => Ex_callV (by decide +kernel : decode M_X8_set.2.1 2 = .ok (.invokevirtual 22, 3)) rfl (by rfl : resM (mCn M_X8_set) 22 = some (2, M_X8_has)) rfl (by rfl) (Nat.le_of_ble_eq_true rfl) (by decide +kernel) (sLv_lt (by decide +kernel))),
   (fun lv l st x w => Ex_if_ne (by decide +kernel : decode M_X8_set.2.1 5 = .ok (.ifCond .ne 4, 3)) rfl rfl),
   (fun lv l w => Ex_R (i := .return_) (n := 1) (by decide +kernel) rfl rfl rfl rfl rfl),
   (fun lv st t x w => Ex_M (i := .aload_n 0) (n := 1) (by decide +kernel) rfl rfl rfl),
   (fun lv st t w => Ex_M (i := .aload_n 0) (n := 1) (by decide +kernel) rfl rfl rfl),
   (fun lv l st a w => Ex_getf (by decide +kernel : decode M_X8_set.2.1 10 = .ok (.getfield 9, 3)) rfl (by decide +kernel : resF (mCn M_X8_set) 9 = some (7, 0, (.array .int), true))),
   (fun lv st t o0 x w => Ex_M (i := .iload_n 1) (n := 1) (by decide +kernel) rfl rfl rfl),
   (fun lv st t x w => Ex_M (i := .aload_n 0) (n := 1) (by decide +kernel) rfl rfl rfl),
   (fun lv st t w => Ex_M (i := .aload_n 0) (n := 1) (by decide +kernel) rfl rfl rfl),
   (fun lv l st a w => Ex_getf (by decide +kernel : decode M_X8_set.2.1 15 = .ok (.getfield 15, 3)) rfl (by decide +kernel : resF (mCn M_X8_set) 15 = some (7, 1, .int, false))),
   (fun lv l st w => Ex_A (i := .bipush 32) (n := 2) (by decide +kernel) rfl rfl),
   (fun lv l st x y w => Ex_icmp_ne (by decide +kernel : decode M_X8_set.2.1 20 = .ok (.if_icmp .ne 7, 3)) rfl rfl),
   (fun lv st t o0 o1 x w => Ex_M (i := .iload_n 2) (n := 1) (by decide +kernel) rfl rfl rfl),
   (fun lv l st w => Ex_goto (by decide +kernel : decode M_X8_set.2.1 24 = .ok (.goto 13, 3)) rfl),
   (fun lv st t o0 o1 x w => Ex_M (i := .iload_n 2) (n := 1) (by decide +kernel) rfl rfl rfl),
   (fun lv l st w => Ex_A (i := .iconst 1) (n := 1) (by decide +kernel) rfl rfl),
   (fun lv st t x w => Ex_M (i := .aload_n 0) (n := 1) (by decide +kernel) rfl rfl rfl),
   (fun lv st t w => Ex_M (i := .aload_n 0) (n := 1) (by decide +kernel) rfl rfl rfl),
   (fun lv l st a w => Ex_getf (by decide +kernel : decode M_X8_set.2.1 30 = .ok (.getfield 15, 3)) rfl (by decide +kernel : resF (mCn M_X8_set) 15 = some (7, 1, .int, false))),
   (fun lv l st x y w => Ex_A (i := .ishl) (n := 1) (by decide +kernel) rfl rfl),
   (fun lv l st w => Ex_A (i := .iconst 1) (n := 1) (by decide +kernel) rfl rfl),
   (fun lv l st x y w => Ex_A (i := .isub) (n := 1) (by decide +kernel) rfl rfl),
   (fun lv l st x y w => Ex_A (i := .iand) (n := 1) (by decide +kernel) rfl rfl),
   (fun lv l st a i x w => Ex_ias (by decide +kernel : decode M_X8_set.2.1 37 = .ok (.iastore, 1)) rfl),
   (fun lv l w => Ex_R (i := .return_) (n := 1) (by decide +kernel) rfl rfl rfl rfl rfl)⟩
set_option maxRecDepth 20000 in
theorem H_X8_isCarpet_20 : ∀ (lv : Nat) (st : List Value) (t : LX) (o0 : Option Value) (x : Int32) (w : AH), Ex M_X8_isCarpet lv 20 (o0 :: some (.int x) :: t) st w = Ex M_X8_isCarpet lv 21 (o0 :: some (.int x) :: t) (.int x :: st) w := fun lv st t o0 x w => Ex_M (i := .iload_n 1) (n := 1) (by decide +kernel) rfl rfl rfl
set_option maxRecDepth 20000 in
set_option maxHeartbeats 4000000 in
theorem R_X8_isCarpet : (∀ (lv : Nat) (st : List Value) (t : LX) (x : Nat) (w : AH), Ex M_X8_isCarpet lv 0 (some (.ref x) :: t) st w = Ex M_X8_isCarpet lv 1 (some (.ref x) :: t) (.ref x :: st) w)
  ∧ (∀ (lv : Nat) (st : List Value) (t : LX) (w : AH), Ex M_X8_isCarpet lv 0 (some (.null) :: t) st w = Ex M_X8_isCarpet lv 1 (some (.null) :: t) (.null :: st) w)
  ∧ (∀ (lv : Nat) (l : LX) (b : Nat) (w : AH), Ex M_X8_isCarpet lv 1 l (.ref b :: []) w = if clK (hg w b) = 7 then (if (Call M_X8_isMissing 60 [.ref b] w).isSome = true then Ex M_X8_isCarpet lv 4 l (pushR (cV (Call M_X8_isMissing 60 [.ref b] w)) []) (cW (Call M_X8_isMissing 60 [.ref b] w) w) else none) else none)
  ∧ (∀ (lv : Nat) (l : LX) (st : List Value) (x : Int32) (w : AH), Ex M_X8_isCarpet lv 4 l (.int x :: st) w = if ¬ x = 0 then Ex M_X8_isCarpet lv 16 l st w else Ex M_X8_isCarpet lv 7 l st w)
  ∧ (∀ (lv : Nat) (st : List Value) (t : LX) (x : Nat) (w : AH), Ex M_X8_isCarpet lv 7 (some (.ref x) :: t) st w = Ex M_X8_isCarpet lv 8 (some (.ref x) :: t) (.ref x :: st) w)
  ∧ (∀ (lv : Nat) (st : List Value) (t : LX) (w : AH), Ex M_X8_isCarpet lv 7 (some (.null) :: t) st w = Ex M_X8_isCarpet lv 8 (some (.null) :: t) (.null :: st) w)
  ∧ (∀ (lv : Nat) (l : LX) (st : List Value) (a : Nat) (w : AH), Ex M_X8_isCarpet lv 8 l (.ref a :: st) w = if (gf (hg w a) 7 2).isSome = true then Ex M_X8_isCarpet lv 11 l (vV (gf (hg w a) 7 2) :: st) w else none)
  ∧ (∀ (lv : Nat) (l : LX) (st : List Value) (w : AH), Ex M_X8_isCarpet lv 11 l st w = Ex M_X8_isCarpet lv 13 l (.int 36 :: st) w)
  ∧ (∀ (lv : Nat) (l : LX) (st : List Value) (x y : Int32) (w : AH), Ex M_X8_isCarpet lv 13 l (.int y :: .int x :: st) w = if x = y then Ex M_X8_isCarpet lv 18 l st w else Ex M_X8_isCarpet lv 16 l st w)
  ∧ (∀ (lv : Nat) (l : LX) (st : List Value) (w : AH), Ex M_X8_isCarpet lv 16 l st w = Ex M_X8_isCarpet lv 17 l (.int 0 :: st) w)
  ∧ (∀ (lv : Nat) (l : LX) (x : Int32) (w : AH), Ex M_X8_isCarpet lv 17 l [.int x] w = if x = 0 ∨ x = 1 then some (some (.int x), w) else none)
  ∧ (∀ (lv : Nat) (l : LX) (st : List Value) (w : AH), Ex M_X8_isCarpet lv 18 l st w = Ex M_X8_isCarpet lv 19 l (.int 0 :: st) w)
  ∧ (∀ (lv : Nat) (l : LX) (st : List Value) (x : Int32) (w : AH), Ex M_X8_isCarpet lv 19 l (.int x :: st) w = Ex M_X8_isCarpet lv 20 (ls1 l 1 (.int x)) st w)
  ∧ (∀ (lv : Nat) (l : LX) (st : List Value) (w : AH), Ex M_X8_isCarpet lv 21 l st w = Ex M_X8_isCarpet lv 23 l (.int 36 :: st) w)
  ∧ (∀ (lv : Nat) (l : LX) (st : List Value) (x y : Int32) (w : AH), Ex M_X8_isCarpet lv 23 l (.int y :: .int x :: st) w = if y ≤ x then Ex M_X8_isCarpet lv 46 l st w else Ex M_X8_isCarpet lv 26 l st w)
  ∧ (∀ (lv : Nat) (st : List Value) (t : LX) (x : Nat) (w : AH), Ex M_X8_isCarpet lv 26 (some (.ref x) :: t) st w = Ex M_X8_isCarpet lv 27 (some (.ref x) :: t) (.ref x :: st) w)
  ∧ (∀ (lv : Nat) (st : List Value) (t : LX) (w : AH), Ex M_X8_isCarpet lv 26 (some (.null) :: t) st w = Ex M_X8_isCarpet lv 27 (some (.null) :: t) (.null :: st) w)
  ∧ (∀ (lv : Nat) (l : LX) (st : List Value) (a : Nat) (w : AH), Ex M_X8_isCarpet lv 27 l (.ref a :: st) w = if (gf (hg w a) 7 0).isSome = true then Ex M_X8_isCarpet lv 30 l (vV (gf (hg w a) 7 0) :: st) w else none)
  ∧ (∀ (lv : Nat) (st : List Value) (t : LX) (o0 : Option Value) (x : Int32) (w : AH), Ex M_X8_isCarpet lv 30 (o0 :: some (.int x) :: t) st w = Ex M_X8_isCarpet lv 31 (o0 :: some (.int x) :: t) (.int x :: st) w)
  ∧ (∀ (lv : Nat) (l : LX) (st : List Value) (a : Nat) (i : Int32) (w : AH), Ex M_X8_isCarpet lv 31 l (.int i :: .ref a :: st) w = if (aI (hg w a) i).isSome = true then Ex M_X8_isCarpet lv 32 l (.int (vI (aI (hg w a) i)) :: st) w else none)
  ∧ (∀ (lv : Nat) (l : LX) (a0 : Int32) (w : AH), Ex M_X8_isCarpet lv 32 l (.int a0 :: []) w = if (Call M_X11_isColour 60 [.int a0] w).isSome = true then Ex M_X8_isCarpet lv 35 l (pushR (cV (Call M_X11_isColour 60 [.int a0] w)) []) (cW (Call M_X11_isColour 60 [.int a0] w) w) else none)
  ∧ (∀ (lv : Nat) (l : LX) (st : List Value) (x : Int32) (w : AH), Ex M_X8_isCarpet lv 35 l (.int x :: st) w = if ¬ x = 0 then Ex M_X8_isCarpet lv 40 l st w else Ex M_X8_isCarpet lv 38 l st w)
  ∧ (∀ (lv : Nat) (l : LX) (st : List Value) (w : AH), Ex M_X8_isCarpet lv 38 l st w = Ex M_X8_isCarpet lv 39 l (.int 0 :: st) w)
  ∧ (∀ (lv : Nat) (l : LX) (x : Int32) (w : AH), Ex M_X8_isCarpet lv 39 l [.int x] w = if x = 0 ∨ x = 1 then some (some (.int x), w) else none)
  ∧ (∀ (lv : Nat) (st : List Value) (t : LX) (o0 : Option Value) (x : Int32) (w : AH), Ex M_X8_isCarpet lv 40 (o0 :: some (.int x) :: t) st w = Ex M_X8_isCarpet lv 43 (ls1 (o0 :: some (.int x) :: t) 1 (.int (x + 1))) st w)
  ∧ (∀ (lv : Nat) (l : LX) (st : List Value) (w : AH), Ex M_X8_isCarpet lv 43 l st w = Ex M_X8_isCarpet lv 20 l st w)
  ∧ (∀ (lv : Nat) (l : LX) (st : List Value) (w : AH), Ex M_X8_isCarpet lv 46 l st w = Ex M_X8_isCarpet lv 47 l (.int 1 :: st) w)
  ∧ (∀ (lv : Nat) (l : LX) (x : Int32) (w : AH), Ex M_X8_isCarpet lv 47 l [.int x] w = if x = 0 ∨ x = 1 then some (some (.int x), w) else none) :=
  ⟨(fun lv st t x w => Ex_M (i := .aload_n 0) (n := 1) (by decide +kernel) rfl rfl rfl),
   (fun lv st t w => Ex_M (i := .aload_n 0) (n := 1) (by decide +kernel) rfl rfl rfl),
   (fun lv l b w => Ex_callV (by decide +kernel : decode M_X8_isCarpet.2.1 1 = .ok (.invokevirtual 26, 3)) rfl (by rfl : resM (mCn M_X8_isCarpet) 26 = some (2, M_X8_isMissing)) rfl (by rfl) (Nat.le_of_ble_eq_true rfl) (by decide +kernel) (sLv_lt (by decide +kernel))),
   (fun lv l st x w => Ex_if_ne (by decide +kernel : decode M_X8_isCarpet.2.1 4 = .ok (.ifCond .ne 12, 3)) rfl rfl),
   (fun lv st t x w => Ex_M (i := .aload_n 0) (n := 1) (by decide +kernel) rfl rfl rfl),
   (fun lv st t w => Ex_M (i := .aload_n 0) (n := 1) (by decide +kernel) rfl rfl rfl),
   (fun lv l st a w => Ex_getf (by decide +kernel : decode M_X8_isCarpet.2.1 8 = .ok (.getfield 19, 3)) rfl (by decide +kernel : resF (mCn M_X8_isCarpet) 19 = some (7, 2, .int, false))),
   (fun lv l st w => Ex_A (i := .bipush 36) (n := 2) (by decide +kernel) rfl rfl),
   (fun lv l st x y w => Ex_icmp_eq (by decide +kernel : decode M_X8_isCarpet.2.1 13 = .ok (.if_icmp .eq 5, 3)) rfl rfl),
   (fun lv l st w => Ex_A (i := .iconst 0) (n := 1) (by decide +kernel) rfl rfl),
   (fun lv l x w => Ex_zret (by decide +kernel : decode M_X8_isCarpet.2.1 17 = .ok (.ireturn, 1)) rfl),
   (fun lv l st w => Ex_A (i := .iconst 0) (n := 1) (by decide +kernel) rfl rfl),
   (fun lv l st x w => Ex_M (i := .istore_n 1) (n := 1) (by decide +kernel) rfl rfl rfl),
   (fun lv l st w => Ex_A (i := .bipush 36) (n := 2) (by decide +kernel) rfl rfl),
   (fun lv l st x y w => Ex_icmp_ge (by decide +kernel : decode M_X8_isCarpet.2.1 23 = .ok (.if_icmp .ge 23, 3)) rfl rfl),
   (fun lv st t x w => Ex_M (i := .aload_n 0) (n := 1) (by decide +kernel) rfl rfl rfl),
   (fun lv st t w => Ex_M (i := .aload_n 0) (n := 1) (by decide +kernel) rfl rfl rfl),
   (fun lv l st a w => Ex_getf (by decide +kernel : decode M_X8_isCarpet.2.1 27 = .ok (.getfield 9, 3)) rfl (by decide +kernel : resF (mCn M_X8_isCarpet) 9 = some (7, 0, (.array .int), true))),
   (fun lv st t o0 x w => Ex_M (i := .iload_n 1) (n := 1) (by decide +kernel) rfl rfl rfl),
   (fun lv l st a i w => Ex_ial (by decide +kernel : decode M_X8_isCarpet.2.1 31 = .ok (.iaload, 1)) rfl),
   (fun lv l a0 w => Ex_callS (by decide +kernel : decode M_X8_isCarpet.2.1 32 = .ok (.invokestatic 30, 3)) rfl (by rfl : resM (mCn M_X8_isCarpet) 30 = some (1, M_X11_isColour)) (by decide) rfl (by rfl) (Nat.le_of_ble_eq_true rfl) (sLv_lt (by decide +kernel))),
   (fun lv l st x w => Ex_if_ne (by decide +kernel : decode M_X8_isCarpet.2.1 35 = .ok (.ifCond .ne 5, 3)) rfl rfl),
   (fun lv l st w => Ex_A (i := .iconst 0) (n := 1) (by decide +kernel) rfl rfl),
   (fun lv l x w => Ex_zret (by decide +kernel : decode M_X8_isCarpet.2.1 39 = .ok (.ireturn, 1)) rfl),
   (fun lv st t o0 x w => Ex_iinc (by decide +kernel : decode M_X8_isCarpet.2.1 40 = .ok (.iinc 1 1, 3)) rfl rfl (by decide) (by decide)),
   (fun lv l st w => Ex_goto (by decide +kernel : decode M_X8_isCarpet.2.1 43 = .ok (.goto (-23), 3)) rfl),
   (fun lv l st w => Ex_A (i := .iconst 1) (n := 1) (by decide +kernel) rfl rfl),
   (fun lv l x w => Ex_zret (by decide +kernel : decode M_X8_isCarpet.2.1 47 = .ok (.ireturn, 1)) rfl)⟩
set_option maxRecDepth 20000 in
set_option maxHeartbeats 4000000 in
theorem R_X9_init : (∀ (lv : Nat) (st : List Value) (t : LX) (x : Nat) (w : AH), Ex M_X9_init lv 0 (some (.ref x) :: t) st w = Ex M_X9_init lv 1 (some (.ref x) :: t) (.ref x :: st) w)
  ∧ (∀ (lv : Nat) (st : List Value) (t : LX) (w : AH), Ex M_X9_init lv 0 (some (.null) :: t) st w = Ex M_X9_init lv 1 (some (.null) :: t) (.null :: st) w)
  ∧ (∀ (lv : Nat) (l : LX) (b : Nat) (w : AH), Ex M_X9_init lv 1 l (.ref b :: []) w = Ex M_X9_init lv 4 l [] w)
  ∧ (∀ (lv : Nat) (st : List Value) (t : LX) (x : Nat) (w : AH), Ex M_X9_init lv 4 (some (.ref x) :: t) st w = Ex M_X9_init lv 5 (some (.ref x) :: t) (.ref x :: st) w)
  ∧ (∀ (lv : Nat) (st : List Value) (t : LX) (w : AH), Ex M_X9_init lv 4 (some (.null) :: t) st w = Ex M_X9_init lv 5 (some (.null) :: t) (.null :: st) w)
  ∧ (∀ (lv : Nat) (l : LX) (st : List Value) (w : AH), Ex M_X9_init lv 5 l st w = Ex M_X9_init lv 8 l (.ref w.1 :: st) (hn w (.inr (6, [.null, .int 0])) 2))
  ∧ (∀ (lv : Nat) (l : LX) (st : List Value) (x : Nat) (w : AH), Ex M_X9_init lv 8 l (.ref x :: st) w = Ex M_X9_init lv 9 l (.ref x :: .ref x :: st) w)
  ∧ (∀ (lv : Nat) (l : LX) (st : List Value) (w : AH), Ex M_X9_init lv 9 l st w = Ex M_X9_init lv 11 l (.int 40 :: st) w)
  ∧ (∀ (lv : Nat) (l : LX) (b : Nat) (a0 : Int32) (s0 : Nat) (s1 : Nat) (w : AH), Ex M_X9_init lv 11 l (.int a0 :: .ref b :: [.ref s0, .ref s1]) w = if (Call M_X6_init 60 [.ref b, .int a0] w).isSome = true then Ex M_X9_init lv 14 l (pushR (cV (Call M_X6_init 60 [.ref b, .int a0] w)) [.ref s0, .ref s1]) (cW (Call M_X6_init 60 [.ref b, .int a0] w) w) else none)
  ∧ (∀ (lv : Nat) (l : LX) (st : List Value) (a : Nat) (v : Value) (w : AH), Ex M_X9_init lv 14 l (v :: .ref a :: st) w = if (pf (hg w a) 8 0 (.object "CarpetLands$Row") v).isSome = true then Ex M_X9_init lv 17 l st (hs w a (vE (pf (hg w a) 8 0 (.object "CarpetLands$Row") v))) else none)
  ∧ (∀ (lv : Nat) (st : List Value) (t : LX) (x : Nat) (w : AH), Ex M_X9_init lv 17 (some (.ref x) :: t) st w = Ex M_X9_init lv 18 (some (.ref x) :: t) (.ref x :: st) w)
  ∧ (∀ (lv : Nat) (st : List Value) (t : LX) (w : AH), Ex M_X9_init lv 17 (some (.null) :: t) st w = Ex M_X9_init lv 18 (some (.null) :: t) (.null :: st) w)
  ∧ (∀ (lv : Nat) (l : LX) (st : List Value) (w : AH), Ex M_X9_init lv 18 l st w = Ex M_X9_init lv 19 l (.int 0 :: st) w)
  ∧ (∀ (lv : Nat) (l : LX) (st : List Value) (a : Nat) (v : Value) (w : AH), Ex M_X9_init lv 19 l (v :: .ref a :: st) w = if (pf (hg w a) 8 1 .int v).isSome = true then Ex M_X9_init lv 22 l st (hs w a (vE (pf (hg w a) 8 1 .int v))) else none)
  ∧ (∀ (lv : Nat) (st : List Value) (t : LX) (x : Nat) (w : AH), Ex M_X9_init lv 22 (some (.ref x) :: t) st w = Ex M_X9_init lv 23 (some (.ref x) :: t) (.ref x :: st) w)
  ∧ (∀ (lv : Nat) (st : List Value) (t : LX) (w : AH), Ex M_X9_init lv 22 (some (.null) :: t) st w = Ex M_X9_init lv 23 (some (.null) :: t) (.null :: st) w)
  ∧ (∀ (lv : Nat) (l : LX) (st : List Value) (w : AH), Ex M_X9_init lv 23 l st w = Ex M_X9_init lv 24 l (.int 0 :: st) w)
  ∧ (∀ (lv : Nat) (l : LX) (st : List Value) (a : Nat) (v : Value) (w : AH), Ex M_X9_init lv 24 l (v :: .ref a :: st) w = if (pf (hg w a) 8 2 .int v).isSome = true then Ex M_X9_init lv 27 l st (hs w a (vE (pf (hg w a) 8 2 .int v))) else none)
  ∧ (∀ (lv : Nat) (st : List Value) (t : LX) (x : Nat) (w : AH), Ex M_X9_init lv 27 (some (.ref x) :: t) st w = Ex M_X9_init lv 28 (some (.ref x) :: t) (.ref x :: st) w)
  ∧ (∀ (lv : Nat) (st : List Value) (t : LX) (w : AH), Ex M_X9_init lv 27 (some (.null) :: t) st w = Ex M_X9_init lv 28 (some (.null) :: t) (.null :: st) w)
  ∧ (∀ (lv : Nat) (l : LX) (st : List Value) (w : AH), Ex M_X9_init lv 28 l st w = Ex M_X9_init lv 29 l (.int 0 :: st) w)
  ∧ (∀ (lv : Nat) (l : LX) (st : List Value) (a : Nat) (v : Value) (w : AH), Ex M_X9_init lv 29 l (v :: .ref a :: st) w = if (pf (hg w a) 8 3 .int v).isSome = true then Ex M_X9_init lv 32 l st (hs w a (vE (pf (hg w a) 8 3 .int v))) else none)
  ∧ (∀ (lv : Nat) (l : LX) (w : AH), Ex M_X9_init lv 32 l [] w = some (none, w)) :=
  ⟨(fun lv st t x w => Ex_M (i := .aload_n 0) (n := 1) (by decide +kernel) rfl rfl rfl),
   (fun lv st t w => Ex_M (i := .aload_n 0) (n := 1) (by decide +kernel) rfl rfl rfl),
   (fun lv l b w => Ex_oinit (by decide +kernel : decode M_X9_init.2.1 1 = .ok (.invokespecial 3, 3)) rfl (by rfl : resM (mCn M_X9_init) 3 = some (6, M_X0_init)) (by rfl)),
   (fun lv st t x w => Ex_M (i := .aload_n 0) (n := 1) (by decide +kernel) rfl rfl rfl),
   (fun lv st t w => Ex_M (i := .aload_n 0) (n := 1) (by decide +kernel) rfl rfl rfl),
   (fun lv l st w => Ex_new (by decide +kernel : decode M_X9_init.2.1 5 = .ok (.new 9, 3)) rfl (by decide +kernel) rfl rfl),
   (fun lv l st x w => Ex_A (i := .dup) (n := 1) (by decide +kernel) rfl rfl),
   (fun lv l st w => Ex_A (i := .bipush 40) (n := 2) (by decide +kernel) rfl rfl),
   (fun lv l b a0 s0 s1 w => Ex_callI (by decide +kernel : decode M_X9_init.2.1 11 = .ok (.invokespecial 11, 3)) rfl (by rfl : resM (mCn M_X9_init) 11 = some (3, M_X6_init)) (by decide) rfl (by rfl) (Nat.le_of_ble_eq_true rfl) (sLv_lt (by decide +kernel))),
   (fun lv l st a v w => Ex_putf (by decide +kernel : decode M_X9_init.2.1 14 = .ok (.putfield 14, 3)) rfl (by decide +kernel : resF (mCn M_X9_init) 14 = some (8, 0, (.object "CarpetLands$Row"), true)) (by decide +kernel)),
   (fun lv st t x w => Ex_M (i := .aload_n 0) (n := 1) (by decide +kernel) rfl rfl rfl),
   (fun lv st t w => Ex_M (i := .aload_n 0) (n := 1) (by decide +kernel) rfl rfl rfl),
   (fun lv l st w => Ex_A (i := .iconst 0) (n := 1) (by decide +kernel) rfl rfl),
   (fun lv l st a v w => Ex_putf (by decide +kernel : decode M_X9_init.2.1 19 = .ok (.putfield 20, 3)) rfl (by decide +kernel : resF (mCn M_X9_init) 20 = some (8, 1, .int, false)) (by decide +kernel)),
   (fun lv st t x w => Ex_M (i := .aload_n 0) (n := 1) (by decide +kernel) rfl rfl rfl),
   (fun lv st t w => Ex_M (i := .aload_n 0) (n := 1) (by decide +kernel) rfl rfl rfl),
   (fun lv l st w => Ex_A (i := .iconst 0) (n := 1) (by decide +kernel) rfl rfl),
   (fun lv l st a v w => Ex_putf (by decide +kernel : decode M_X9_init.2.1 24 = .ok (.putfield 24, 3)) rfl (by decide +kernel : resF (mCn M_X9_init) 24 = some (8, 2, .int, false)) (by decide +kernel)),
   (fun lv st t x w => Ex_M (i := .aload_n 0) (n := 1) (by decide +kernel) rfl rfl rfl),
   (fun lv st t w => Ex_M (i := .aload_n 0) (n := 1) (by decide +kernel) rfl rfl rfl),
   (fun lv l st w => Ex_A (i := .iconst 0) (n := 1) (by decide +kernel) rfl rfl),
   (fun lv l st a v w => Ex_putf (by decide +kernel : decode M_X9_init.2.1 29 = .ok (.putfield 27, 3)) rfl (by decide +kernel : resF (mCn M_X9_init) 27 = some (8, 3, .int, false)) (by decide +kernel)),
   (fun lv l w => Ex_R (i := .return_) (n := 1) (by decide +kernel) rfl rfl rfl rfl rfl)⟩
set_option maxRecDepth 20000 in
set_option maxHeartbeats 4000000 in
theorem R_X9_speak : (∀ (lv : Nat) (st : List Value) (t : LX) (x : Nat) (w : AH), Ex M_X9_speak lv 0 (some (.ref x) :: t) st w = Ex M_X9_speak lv 1 (some (.ref x) :: t) (.ref x :: st) w)
  ∧ (∀ (lv : Nat) (st : List Value) (t : LX) (w : AH), Ex M_X9_speak lv 0 (some (.null) :: t) st w = Ex M_X9_speak lv 1 (some (.null) :: t) (.null :: st) w)
  ∧ (∀ (lv : Nat) (l : LX) (st : List Value) (a : Nat) (w : AH), Ex M_X9_speak lv 1 l (.ref a :: st) w = if (gf (hg w a) 8 0).isSome = true then Ex M_X9_speak lv 4 l (vV (gf (hg w a) 8 0) :: st) w else none)
  ∧ (∀ (lv : Nat) (l : LX) (b : Nat) (w : AH), Ex M_X9_speak lv 4 l (.ref b :: []) w = if clK (hg w b) = 6 then (if (Call M_X6_clear 60 [.ref b] w).isSome = true then Ex M_X9_speak lv 7 l (pushR (cV (Call M_X6_clear 60 [.ref b] w)) []) (cW (Call M_X6_clear 60 [.ref b] w) w) else none) else none)
  ∧ (∀ (lv : Nat) (st : List Value) (t : LX) (x : Nat) (w : AH), Ex M_X9_speak lv 7 (some (.ref x) :: t) st w = Ex M_X9_speak lv 8 (some (.ref x) :: t) (.ref x :: st) w)
  ∧ (∀ (lv : Nat) (st : List Value) (t : LX) (w : AH), Ex M_X9_speak lv 7 (some (.null) :: t) st w = Ex M_X9_speak lv 8 (some (.null) :: t) (.null :: st) w)
  ∧ (∀ (lv : Nat) (st : List Value) (t : LX) (o0 : Option Value) (x : Nat) (w : AH), Ex M_X9_speak lv 8 (o0 :: some (.ref x) :: t) st w = Ex M_X9_speak lv 9 (o0 :: some (.ref x) :: t) (.ref x :: st) w)
  ∧ (∀ (lv : Nat) (st : List Value) (t : LX) (o0 : Option Value) (w : AH), Ex M_X9_speak lv 8 (o0 :: some (.null) :: t) st w = Ex M_X9_speak lv 9 (o0 :: some (.null) :: t) (.null :: st) w)
  ∧ (∀ (lv : Nat) (l : LX) (st : List Value) (a : Nat) (w : AH), Ex M_X9_speak lv 9 l (.ref a :: st) w = if (gf (hg w a) 9 0).isSome = true then Ex M_X9_speak lv 12 l (vV (gf (hg w a) 9 0) :: st) w else none)
  ∧ (∀ (lv : Nat) (l : LX) (st : List Value) (a : Nat) (v : Value) (w : AH), Ex M_X9_speak lv 12 l (v :: .ref a :: st) w = if (pf (hg w a) 8 1 .int v).isSome = true then Ex M_X9_speak lv 15 l st (hs w a (vE (pf (hg w a) 8 1 .int v))) else none)
  ∧ (∀ (lv : Nat) (st : List Value) (t : LX) (x : Nat) (w : AH), Ex M_X9_speak lv 15 (some (.ref x) :: t) st w = Ex M_X9_speak lv 16 (some (.ref x) :: t) (.ref x :: st) w)
  ∧ (∀ (lv : Nat) (st : List Value) (t : LX) (w : AH), Ex M_X9_speak lv 15 (some (.null) :: t) st w = Ex M_X9_speak lv 16 (some (.null) :: t) (.null :: st) w)
  ∧ (∀ (lv : Nat) (st : List Value) (t : LX) (o0 o1 : Option Value) (x : Int32) (w : AH), Ex M_X9_speak lv 16 (o0 :: o1 :: some (.int x) :: t) st w = Ex M_X9_speak lv 17 (o0 :: o1 :: some (.int x) :: t) (.int x :: st) w)
  ∧ (∀ (lv : Nat) (l : LX) (st : List Value) (a : Nat) (v : Value) (w : AH), Ex M_X9_speak lv 17 l (v :: .ref a :: st) w = if (pf (hg w a) 8 2 .int v).isSome = true then Ex M_X9_speak lv 20 l st (hs w a (vE (pf (hg w a) 8 2 .int v))) else none)
  ∧ (∀ (lv : Nat) (st : List Value) (t : LX) (x : Nat) (w : AH), Ex M_X9_speak lv 20 (some (.ref x) :: t) st w = Ex M_X9_speak lv 21 (some (.ref x) :: t) (.ref x :: st) w)
  ∧ (∀ (lv : Nat) (st : List Value) (t : LX) (w : AH), Ex M_X9_speak lv 20 (some (.null) :: t) st w = Ex M_X9_speak lv 21 (some (.null) :: t) (.null :: st) w)
  ∧ (∀ (lv : Nat) (st : List Value) (t : LX) (o0 : Option Value) (x : Nat) (w : AH), Ex M_X9_speak lv 21 (o0 :: some (.ref x) :: t) st w = Ex M_X9_speak lv 22 (o0 :: some (.ref x) :: t) (.ref x :: st) w)
  ∧ (∀ (lv : Nat) (st : List Value) (t : LX) (o0 : Option Value) (w : AH), Ex M_X9_speak lv 21 (o0 :: some (.null) :: t) st w = Ex M_X9_speak lv 22 (o0 :: some (.null) :: t) (.null :: st) w)
  ∧ (∀ (lv : Nat) (l : LX) (st : List Value) (a : Nat) (w : AH), Ex M_X9_speak lv 22 l (.ref a :: st) w = if (gf (hg w a) 9 1).isSome = true then Ex M_X9_speak lv 25 l (vV (gf (hg w a) 9 1) :: st) w else none)
  ∧ (∀ (lv : Nat) (l : LX) (st : List Value) (a : Nat) (v : Value) (w : AH), Ex M_X9_speak lv 25 l (v :: .ref a :: st) w = if (pf (hg w a) 8 3 .int v).isSome = true then Ex M_X9_speak lv 28 l st (hs w a (vE (pf (hg w a) 8 3 .int v))) else none)
  ∧ (∀ (lv : Nat) (st : List Value) (t : LX) (x : Nat) (w : AH), Ex M_X9_speak lv 28 (some (.ref x) :: t) st w = Ex M_X9_speak lv 29 (some (.ref x) :: t) (.ref x :: st) w)
  ∧ (∀ (lv : Nat) (st : List Value) (t : LX) (w : AH), Ex M_X9_speak lv 28 (some (.null) :: t) st w = Ex M_X9_speak lv 29 (some (.null) :: t) (.null :: st) w)
  ∧ (∀ (lv : Nat) (st : List Value) (t : LX) (x : Nat) (w : AH), Ex M_X9_speak lv 29 (some (.ref x) :: t) st w = Ex M_X9_speak lv 30 (some (.ref x) :: t) (.ref x :: st) w)
  ∧ (∀ (lv : Nat) (st : List Value) (t : LX) (w : AH), Ex M_X9_speak lv 29 (some (.null) :: t) st w = Ex M_X9_speak lv 30 (some (.null) :: t) (.null :: st) w)
  ∧ (∀ (lv : Nat) (l : LX) (st : List Value) (a : Nat) (w : AH), Ex M_X9_speak lv 30 l (.ref a :: st) w = if (gf (hg w a) 8 1).isSome = true then Ex M_X9_speak lv 33 l (vV (gf (hg w a) 8 1) :: st) w else none)
  ∧ (∀ (lv : Nat) (st : List Value) (t : LX) (o0 o1 o2 : Option Value) (x : Int32) (w : AH), Ex M_X9_speak lv 33 (o0 :: o1 :: o2 :: some (.int x) :: t) st w = Ex M_X9_speak lv 34 (o0 :: o1 :: o2 :: some (.int x) :: t) (.int x :: st) w)
  ∧ (∀ (lv : Nat) (st : List Value) (t : LX) (o0 o1 o2 o3 : Option Value) (x : Int32) (w : AH), Ex M_X9_speak lv 34 (o0 :: o1 :: o2 :: o3 :: some (.int x) :: t) st w = Ex M_X9_speak lv 36 (o0 :: o1 :: o2 :: o3 :: some (.int x) :: t) (.int x :: st) w)
  ∧ (∀ (lv : Nat) (l : LX) (st : List Value) (w : AH), Ex M_X9_speak lv 36 l st w = Ex M_X9_speak lv 37 l (.int 0 :: st) w)
  ∧ (∀ (lv : Nat) (l : LX) (b : Nat) (a0 : Int32) (a1 : Int32) (a2 : Int32) (a3 : Int32) (w : AH), Ex M_X9_speak lv 37 l (.int a3 :: .int a2 :: .int a1 :: .int a0 :: .ref b :: []) w = if clK (hg w b) = 8 then (if (Call M_X9_say 60 [.ref b, .int a0, .int a1, .int a2, .int a3] w).isSome = true then Ex M_X9_speak lv 40 l (pushR (cV (Call M_X9_say 60 [.ref b, .int a0, .int a1, .int a2, .int a3] w)) []) (cW (Call M_X9_say 60 [.ref b, .int a0, .int a1, .int a2, .int a3] w) w) else none) else none)
  ∧ (∀ (lv : Nat) (l : LX) (x : Int32) (w : AH), Ex M_X9_speak lv 40 l [.int x] w = some (some (.int x), w)) :=
  ⟨(fun lv st t x w => Ex_M (i := .aload_n 0) (n := 1) (by decide +kernel) rfl rfl rfl),
   (fun lv st t w => Ex_M (i := .aload_n 0) (n := 1) (by decide +kernel) rfl rfl rfl),
   (fun lv l st a w => Ex_getf (by decide +kernel : decode M_X9_speak.2.1 1 = .ok (.getfield 14, 3)) rfl (by decide +kernel : resF (mCn M_X9_speak) 14 = some (8, 0, (.object "CarpetLands$Row"), true))),
   (fun lv l b w => Ex_callV (by decide +kernel : decode M_X9_speak.2.1 4 = .ok (.invokevirtual 30, 3)) rfl (by rfl : resM (mCn M_X9_speak) 30 = some (2, M_X6_clear)) rfl (by rfl) (Nat.le_of_ble_eq_true rfl) (by decide +kernel) (sLv_lt (by decide +kernel))),
   (fun lv st t x w => Ex_M (i := .aload_n 0) (n := 1) (by decide +kernel) rfl rfl rfl),
   (fun lv st t w => Ex_M (i := .aload_n 0) (n := 1) (by decide +kernel) rfl rfl rfl),
   (fun lv st t o0 x w => Ex_M (i := .aload_n 1) (n := 1) (by decide +kernel) rfl rfl rfl),
   (fun lv st t o0 w => Ex_M (i := .aload_n 1) (n := 1) (by decide +kernel) rfl rfl rfl),
   (fun lv l st a w => Ex_getf (by decide +kernel : decode M_X9_speak.2.1 9 = .ok (.getfield 33, 3)) rfl (by decide +kernel : resF (mCn M_X9_speak) 33 = some (9, 0, .int, false))),
   (fun lv l st a v w => Ex_putf (by decide +kernel : decode M_X9_speak.2.1 12 = .ok (.putfield 20, 3)) rfl (by decide +kernel : resF (mCn M_X9_speak) 20 = some (8, 1, .int, false)) (by decide +kernel)),
   (fun lv st t x w => Ex_M (i := .aload_n 0) (n := 1) (by decide +kernel) rfl rfl rfl),
   (fun lv st t w => Ex_M (i := .aload_n 0) (n := 1) (by decide +kernel) rfl rfl rfl),
   (fun lv st t o0 o1 x w => Ex_M (i := .iload_n 2) (n := 1) (by decide +kernel) rfl rfl rfl),
   (fun lv l st a v w => Ex_putf (by decide +kernel : decode M_X9_speak.2.1 17 = .ok (.putfield 24, 3)) rfl (by decide +kernel : resF (mCn M_X9_speak) 24 = some (8, 2, .int, false)) (by decide +kernel)),
   (fun lv st t x w => Ex_M (i := .aload_n 0) (n := 1) (by decide +kernel) rfl rfl rfl),
   (fun lv st t w => Ex_M (i := .aload_n 0) (n := 1) (by decide +kernel) rfl rfl rfl),
   (fun lv st t o0 x w => Ex_M (i := .aload_n 1) (n := 1) (by decide +kernel) rfl rfl rfl),
   (fun lv st t o0 w => Ex_M (i := .aload_n 1) (n := 1) (by decide +kernel) rfl rfl rfl),
   (fun lv l st a w => Ex_getf (by decide +kernel : decode M_X9_speak.2.1 22 = .ok (.getfield 36, 3)) rfl (by decide +kernel : resF (mCn M_X9_speak) 36 = some (9, 1, .int, false))),
   (fun lv l st a v w => Ex_putf (by decide +kernel : decode M_X9_speak.2.1 25 = .ok (.putfield 27, 3)) rfl (by decide +kernel : resF (mCn M_X9_speak) 27 = some (8, 3, .int, false)) (by decide +kernel)),
   (fun lv st t x w => Ex_M (i := .aload_n 0) (n := 1) (by decide +kernel) rfl rfl rfl),
   (fun lv st t w => Ex_M (i := .aload_n 0) (n := 1) (by decide +kernel) rfl rfl rfl),
   (fun lv st t x w => Ex_M (i := .aload_n 0) (n := 1) (by decide +kernel) rfl rfl rfl),
   (fun lv st t w => Ex_M (i := .aload_n 0) (n := 1) (by decide +kernel) rfl rfl rfl),
   (fun lv l st a w => Ex_getf (by decide +kernel : decode M_X9_speak.2.1 30 = .ok (.getfield 20, 3)) rfl (by decide +kernel : resF (mCn M_X9_speak) 20 = some (8, 1, .int, false))),
   (fun lv st t o0 o1 o2 x w => Ex_M (i := .iload_n 3) (n := 1) (by decide +kernel) rfl rfl rfl),
   (fun lv st t o0 o1 o2 o3 x w => Ex_M (i := .iload 4) (n := 2) (by decide +kernel) rfl rfl rfl),
   (fun lv l st w => Ex_A (i := .iconst 0) (n := 1) (by decide +kernel) rfl rfl),
   (fun lv l b a0 a1 a2 a3 w => Ex_callV (by decide +kernel : decode M_X9_speak.2.1 37 = .ok (.invokevirtual 37, 3)) rfl (by rfl : resM (mCn M_X9_speak) 37 = some (2, M_X9_say)) rfl (by rfl) (Nat.le_of_ble_eq_true rfl) (by decide +kernel) (sLv_lt (by decide +kernel))),
   (fun lv l x w => Ex_R (i := .ireturn) (n := 1) (by decide +kernel) rfl rfl rfl rfl rfl)⟩
set_option maxRecDepth 20000 in
theorem H_X9_bodyOf_4 : ∀ (lv : Nat) (st : List Value) (t : LX) (o0 o1 o2 : Option Value) (x : Int32) (w : AH), Ex M_X9_bodyOf lv 4 (o0 :: o1 :: o2 :: some (.int x) :: t) st w = Ex M_X9_bodyOf lv 5 (o0 :: o1 :: o2 :: some (.int x) :: t) (.int x :: st) w := fun lv st t o0 o1 o2 x w => Ex_M (i := .iload_n 3) (n := 1) (by decide +kernel) rfl rfl rfl
set_option maxRecDepth 20000 in
set_option maxHeartbeats 4000000 in
theorem R_X9_bodyOf : (∀ (lv : Nat) (st : List Value) (t : LX) (x : Int32) (w : AH), Ex M_X9_bodyOf lv 0 (some (.int x) :: t) st w = Ex M_X9_bodyOf lv 1 (some (.int x) :: t) (.int x :: st) w)
  ∧ (∀ (lv : Nat) (l : LX) (st : List Value) (x : Int32) (w : AH), Ex M_X9_bodyOf lv 1 l (.int x :: st) w = Ex M_X9_bodyOf lv 2 (ls1 l 2 (.int x)) st w)
  ∧ (∀ (lv : Nat) (l : LX) (st : List Value) (w : AH), Ex M_X9_bodyOf lv 2 l st w = Ex M_X9_bodyOf lv 3 l (.int 0 :: st) w)
  ∧ (∀ (lv : Nat) (l : LX) (st : List Value) (x : Int32) (w : AH), Ex M_X9_bodyOf lv 3 l (.int x :: st) w = Ex M_X9_bodyOf lv 4 (ls1 l 3 (.int x)) st w)
  ∧ (∀ (lv : Nat) (l : LX) (st : List Value) (w : AH), Ex M_X9_bodyOf lv 5 l st w = Ex M_X9_bodyOf lv 7 l (.int 7 :: st) w)
  ∧ (∀ (lv : Nat) (l : LX) (st : List Value) (x y : Int32) (w : AH), Ex M_X9_bodyOf lv 7 l (.int y :: .int x :: st) w = if y ≤ x then Ex M_X9_bodyOf lv 67 l st w else Ex M_X9_bodyOf lv 10 l st w)
  ∧ (∀ (lv : Nat) (st : List Value) (t : LX) (o0 o1 : Option Value) (x : Int32) (w : AH), Ex M_X9_bodyOf lv 10 (o0 :: o1 :: some (.int x) :: t) st w = Ex M_X9_bodyOf lv 11 (o0 :: o1 :: some (.int x) :: t) (.int x :: st) w)
  ∧ (∀ (lv : Nat) (l : LX) (st : List Value) (x : Int32) (w : AH), Ex M_X9_bodyOf lv 11 l (.int x :: st) w = if x < 0 then Ex M_X9_bodyOf lv 67 l st w else Ex M_X9_bodyOf lv 14 l st w)
  ∧ (∀ (lv : Nat) (st : List Value) (t : LX) (o0 o1 : Option Value) (x : Int32) (w : AH), Ex M_X9_bodyOf lv 14 (o0 :: o1 :: some (.int x) :: t) st w = Ex M_X9_bodyOf lv 15 (o0 :: o1 :: some (.int x) :: t) (.int x :: st) w)
  ∧ (∀ (lv : Nat) (l : LX) (st : List Value) (w : AH), Ex M_X9_bodyOf lv 15 l st w = Ex M_X9_bodyOf lv 16 l (.int 4 :: st) w)
  ∧ (∀ (lv : Nat) (l : LX) (st : List Value) (x y : Int32) (w : AH), Ex M_X9_bodyOf lv 16 l (.int y :: .int x :: st) w = Ex M_X9_bodyOf lv 17 l (.int (x * y) :: st) w)
  ∧ (∀ (lv : Nat) (st : List Value) (t : LX) (o0 : Option Value) (x : Int32) (w : AH), Ex M_X9_bodyOf lv 17 (o0 :: some (.int x) :: t) st w = Ex M_X9_bodyOf lv 18 (o0 :: some (.int x) :: t) (.int x :: st) w)
  ∧ (∀ (lv : Nat) (l : LX) (st : List Value) (x y : Int32) (w : AH), Ex M_X9_bodyOf lv 18 l (.int y :: .int x :: st) w = Ex M_X9_bodyOf lv 19 l (.int (x + y) :: st) w)
  ∧ (∀ (lv : Nat) (l : LX) (st : List Value) (x : Int32) (w : AH), Ex M_X9_bodyOf lv 19 l (.int x :: st) w = Ex M_X9_bodyOf lv 21 (ls1 l 4 (.int x)) st w)
  ∧ (∀ (lv : Nat) (st : List Value) (t : LX) (o0 o1 o2 o3 : Option Value) (x : Int32) (w : AH), Ex M_X9_bodyOf lv 21 (o0 :: o1 :: o2 :: o3 :: some (.int x) :: t) st w = Ex M_X9_bodyOf lv 23 (o0 :: o1 :: o2 :: o3 :: some (.int x) :: t) (.int x :: st) w)
  ∧ (∀ (lv : Nat) (l : LX) (st : List Value) (w : AH), Ex M_X9_bodyOf lv 23 l st w = Ex M_X9_bodyOf lv 24 l (.int 0 :: st) w)
  ∧ (∀ (lv : Nat) (l : LX) (st : List Value) (w : AH), Ex M_X9_bodyOf lv 24 l st w = Ex M_X9_bodyOf lv 27 l (.ref 2 :: st) w)
  ∧ (∀ (lv : Nat) (l : LX) (st : List Value) (a : Nat) (w : AH), Ex M_X9_bodyOf lv 27 l (.ref a :: st) w = if (aL (hg w a)).isSome = true then Ex M_X9_bodyOf lv 28 l (.int (vI (aL (hg w a))) :: st) w else none)
  ∧ (∀ (lv : Nat) (l : LX) (st : List Value) (w : AH), Ex M_X9_bodyOf lv 28 l st w = Ex M_X9_bodyOf lv 29 l (.int 1 :: st) w)
  ∧ (∀ (lv : Nat) (l : LX) (st : List Value) (x y : Int32) (w : AH), Ex M_X9_bodyOf lv 29 l (.int y :: .int x :: st) w = Ex M_X9_bodyOf lv 30 l (.int (x - y) :: st) w)
  ∧ (∀ (lv : Nat) (l : LX) (a0 : Int32) (a1 : Int32) (a2 : Int32) (w : AH), Ex M_X9_bodyOf lv 30 l (.int a2 :: .int a1 :: .int a0 :: []) w = if (Call M_X11_isWithin 60 [.int a0, .int a1, .int a2] w).isSome = true then Ex M_X9_bodyOf lv 33 l (pushR (cV (Call M_X11_isWithin 60 [.int a0, .int a1, .int a2] w)) []) (cW (Call M_X11_isWithin 60 [.int a0, .int a1, .int a2] w) w) else none)
  ∧ (∀ (lv : Nat) (l : LX) (st : List Value) (x : Int32) (w : AH), Ex M_X9_bodyOf lv 33 l (.int x :: st) w = if x = 0 then Ex M_X9_bodyOf lv 45 l st w else Ex M_X9_bodyOf lv 36 l st w)
  ∧ (∀ (lv : Nat) (l : LX) (st : List Value) (w : AH), Ex M_X9_bodyOf lv 36 l st w = Ex M_X9_bodyOf lv 39 l (.ref 2 :: st) w)
  ∧ (∀ (lv : Nat) (st : List Value) (t : LX) (o0 o1 o2 o3 : Option Value) (x : Int32) (w : AH), Ex M_X9_bodyOf lv 39 (o0 :: o1 :: o2 :: o3 :: some (.int x) :: t) st w = Ex M_X9_bodyOf lv 41 (o0 :: o1 :: o2 :: o3 :: some (.int x) :: t) (.int x :: st) w)
  ∧ (∀ (lv : Nat) (l : LX) (st : List Value) (a : Nat) (i : Int32) (w : AH), Ex M_X9_bodyOf lv 41 l (.int i :: .ref a :: st) w = if (aI (hg w a) i).isSome = true then Ex M_X9_bodyOf lv 42 l (.int (vI (aI (hg w a) i)) :: st) w else none)
  ∧ (∀ (lv : Nat) (l : LX) (st : List Value) (w : AH), Ex M_X9_bodyOf lv 42 l st w = Ex M_X9_bodyOf lv 46 l st w)
  ∧ (∀ (lv : Nat) (l : LX) (st : List Value) (w : AH), Ex M_X9_bodyOf lv 45 l st w = Ex M_X9_bodyOf lv 46 l (.int 0 :: st) w)
  ∧ (∀ (lv : Nat) (l : LX) (st : List Value) (x : Int32) (w : AH), Ex M_X9_bodyOf lv 46 l (.int x :: st) w = Ex M_X9_bodyOf lv 48 (ls1 l 5 (.int x)) st w)
  ∧ (∀ (lv : Nat) (st : List Value) (t : LX) (o0 o1 o2 o3 o4 : Option Value) (x : Int32) (w : AH), Ex M_X9_bodyOf lv 48 (o0 :: o1 :: o2 :: o3 :: o4 :: some (.int x) :: t) st w = Ex M_X9_bodyOf lv 50 (o0 :: o1 :: o2 :: o3 :: o4 :: some (.int x) :: t) (.int x :: st) w)
  ∧ (∀ (lv : Nat) (l : LX) (st : List Value) (x : Int32) (w : AH), Ex M_X9_bodyOf lv 50 l (.int x :: st) w = if x = 0 then Ex M_X9_bodyOf lv 56 l st w else Ex M_X9_bodyOf lv 53 l st w)
  ∧ (∀ (lv : Nat) (st : List Value) (t : LX) (o0 o1 o2 o3 o4 : Option Value) (x : Int32) (w : AH), Ex M_X9_bodyOf lv 53 (o0 :: o1 :: o2 :: o3 :: o4 :: some (.int x) :: t) st w = Ex M_X9_bodyOf lv 55 (o0 :: o1 :: o2 :: o3 :: o4 :: some (.int x) :: t) (.int x :: st) w)
  ∧ (∀ (lv : Nat) (l : LX) (x : Int32) (w : AH), Ex M_X9_bodyOf lv 55 l [.int x] w = some (some (.int x), w))
  ∧ (∀ (lv : Nat) (st : List Value) (t : LX) (o0 o1 : Option Value) (x : Int32) (w : AH), Ex M_X9_bodyOf lv 56 (o0 :: o1 :: some (.int x) :: t) st w = Ex M_X9_bodyOf lv 57 (o0 :: o1 :: some (.int x) :: t) (.int x :: st) w)
  ∧ (∀ (lv : Nat) (l : LX) (a0 : Int32) (w : AH), Ex M_X9_bodyOf lv 57 l (.int a0 :: []) w = if (Call M_X10_kindAbove 60 [.int a0] w).isSome = true then Ex M_X9_bodyOf lv 60 l (pushR (cV (Call M_X10_kindAbove 60 [.int a0] w)) []) (cW (Call M_X10_kindAbove 60 [.int a0] w) w) else none)
  ∧ (∀ (lv : Nat) (l : LX) (st : List Value) (x : Int32) (w : AH), Ex M_X9_bodyOf lv 60 l (.int x :: st) w = Ex M_X9_bodyOf lv 61 (ls1 l 2 (.int x)) st w)
  ∧ (∀ (lv : Nat) (st : List Value) (t : LX) (o0 o1 o2 : Option Value) (x : Int32) (w : AH), Ex M_X9_bodyOf lv 61 (o0 :: o1 :: o2 :: some (.int x) :: t) st w = Ex M_X9_bodyOf lv 64 (ls1 (o0 :: o1 :: o2 :: some (.int x) :: t) 3 (.int (x + 1))) st w)
  ∧ (∀ (lv : Nat) (l : LX) (st : List Value) (w : AH), Ex M_X9_bodyOf lv 64 l st w = Ex M_X9_bodyOf lv 4 l st w)
  ∧ (∀ (lv : Nat) (l : LX) (st : List Value) (w : AH), Ex M_X9_bodyOf lv 67 l st w = Ex M_X9_bodyOf lv 68 l (.int 0 :: st) w)
  ∧ (∀ (lv : Nat) (l : LX) (x : Int32) (w : AH), Ex M_X9_bodyOf lv 68 l [.int x] w = some (some (.int x), w)) :=
  ⟨(fun lv st t x w => Ex_M (i := .iload_n 0) (n := 1) (by decide +kernel) rfl rfl rfl),
   (fun lv l st x w => Ex_M (i := .istore_n 2) (n := 1) (by decide +kernel) rfl rfl rfl),
   (fun lv l st w => Ex_A (i := .iconst 0) (n := 1) (by decide +kernel) rfl rfl),
   (fun lv l st x w => Ex_M (i := .istore_n 3) (n := 1) (by decide +kernel) rfl rfl rfl),
   (fun lv l st w => Ex_A (i := .bipush 7) (n := 2) (by decide +kernel) rfl rfl),
   (fun lv l st x y w => Ex_icmp_ge (by decide +kernel : decode M_X9_bodyOf.2.1 7 = .ok (.if_icmp .ge 60, 3)) rfl rfl),
   (fun lv st t o0 o1 x w => Ex_M (i := .iload_n 2) (n := 1) (by decide +kernel) rfl rfl rfl),
   (fun lv l st x w => Ex_if_lt (by decide +kernel : decode M_X9_bodyOf.2.1 11 = .ok (.ifCond .lt 56, 3)) rfl rfl),
   (fun lv st t o0 o1 x w => Ex_M (i := .iload_n 2) (n := 1) (by decide +kernel) rfl rfl rfl),
   (fun lv l st w => Ex_A (i := .iconst 4) (n := 1) (by decide +kernel) rfl rfl),
   (fun lv l st x y w => Ex_A (i := .imul) (n := 1) (by decide +kernel) rfl rfl),
   (fun lv st t o0 x w => Ex_M (i := .iload_n 1) (n := 1) (by decide +kernel) rfl rfl rfl),
   (fun lv l st x y w => Ex_A (i := .iadd) (n := 1) (by decide +kernel) rfl rfl),
   (fun lv l st x w => Ex_M (i := .istore 4) (n := 2) (by decide +kernel) rfl rfl rfl),
   (fun lv st t o0 o1 o2 o3 x w => Ex_M (i := .iload 4) (n := 2) (by decide +kernel) rfl rfl rfl),
   (fun lv l st w => Ex_A (i := .iconst 0) (n := 1) (by decide +kernel) rfl rfl),
   (fun lv l st w => Ex_gets (by decide +kernel : decode M_X9_bodyOf.2.1 24 = .ok (.getstatic 41, 3)) rfl (by decide +kernel)),
   (fun lv l st a w => Ex_alen (by decide +kernel : decode M_X9_bodyOf.2.1 27 = .ok (.arraylength, 1)) rfl),
   (fun lv l st w => Ex_A (i := .iconst 1) (n := 1) (by decide +kernel) rfl rfl),
   (fun lv l st x y w => Ex_A (i := .isub) (n := 1) (by decide +kernel) rfl rfl),
   (fun lv l a0 a1 a2 w => Ex_callS (by decide +kernel : decode M_X9_bodyOf.2.1 30 = .ok (.invokestatic 45, 3)) rfl (by rfl : resM (mCn M_X9_bodyOf) 45 = some (1, M_X11_isWithin)) (by decide) rfl (by rfl) (Nat.le_of_ble_eq_true rfl) (sLv_lt (by decide +kernel))),
   (fun lv l st x w => Ex_if_eq (by decide +kernel : decode M_X9_bodyOf.2.1 33 = .ok (.ifCond .eq 12, 3)) rfl rfl),
   (fun lv l st w => Ex_gets (by decide +kernel : decode M_X9_bodyOf.2.1 36 = .ok (.getstatic 41, 3)) rfl (by decide +kernel)),
   (fun lv st t o0 o1 o2 o3 x w => Ex_M (i := .iload 4) (n := 2) (by decide +kernel) rfl rfl rfl),
   (fun lv l st a i w => Ex_ial (by decide +kernel : decode M_X9_bodyOf.2.1 41 = .ok (.iaload, 1)) rfl),
   (fun lv l st w => Ex_goto (by decide +kernel : decode M_X9_bodyOf.2.1 42 = .ok (.goto 4, 3)) rfl),
   (fun lv l st w => Ex_A (i := .iconst 0) (n := 1) (by decide +kernel) rfl rfl),
   (fun lv l st x w => Ex_M (i := .istore 5) (n := 2) (by decide +kernel) rfl rfl rfl),
   (fun lv st t o0 o1 o2 o3 o4 x w => Ex_M (i := .iload 5) (n := 2) (by decide +kernel) rfl rfl rfl),
   (fun lv l st x w => Ex_if_eq (by decide +kernel : decode M_X9_bodyOf.2.1 50 = .ok (.ifCond .eq 6, 3)) rfl rfl),
   (fun lv st t o0 o1 o2 o3 o4 x w => Ex_M (i := .iload 5) (n := 2) (by decide +kernel) rfl rfl rfl),
   (fun lv l x w => Ex_R (i := .ireturn) (n := 1) (by decide +kernel) rfl rfl rfl rfl rfl),
   (fun lv st t o0 o1 x w => Ex_M (i := .iload_n 2) (n := 1) (by decide +kernel) rfl rfl rfl),
   (fun lv l a0 w => Ex_callS (by decide +kernel : decode M_X9_bodyOf.2.1 57 = .ok (.invokestatic 49, 3)) rfl (by rfl : resM (mCn M_X9_bodyOf) 49 = some (0, M_X10_kindAbove)) (by decide) rfl (by rfl) (Nat.le_of_ble_eq_true rfl) (sLv_lt (by decide +kernel))),
   (fun lv l st x w => Ex_M (i := .istore_n 2) (n := 1) (by decide +kernel) rfl rfl rfl),
   (fun lv st t o0 o1 o2 x w => Ex_iinc (by decide +kernel : decode M_X9_bodyOf.2.1 61 = .ok (.iinc 3 1, 3)) rfl rfl (by decide) (by decide)),
   (fun lv l st w => Ex_goto (by decide +kernel : decode M_X9_bodyOf.2.1 64 = .ok (.goto (-60), 3)) rfl),
   (fun lv l st w => Ex_A (i := .iconst 0) (n := 1) (by decide +kernel) rfl rfl),
   (fun lv l x w => Ex_R (i := .ireturn) (n := 1) (by decide +kernel) rfl rfl rfl rfl rfl)⟩
set_option maxRecDepth 20000 in
set_option maxHeartbeats 4000000 in
theorem R_X9_say_p0 : (∀ (lv : Nat) (st : List Value) (t : LX) (o0 o1 o2 o3 : Option Value) (x : Int32) (w : AH), Ex M_X9_say lv 0 (o0 :: o1 :: o2 :: o3 :: some (.int x) :: t) st w = Ex M_X9_say lv 2 (o0 :: o1 :: o2 :: o3 :: some (.int x) :: t) (.int x :: st) w)
  ∧ (∀ (lv : Nat) (l : LX) (st : List Value) (w : AH), Ex M_X9_say lv 2 l st w = Ex M_X9_say lv 4 l (.int 20 :: st) w)
  ∧ (∀ (lv : Nat) (l : LX) (st : List Value) (x y : Int32) (w : AH), Ex M_X9_say lv 4 l (.int y :: .int x :: st) w = if x ≤ y then Ex M_X9_say lv 9 l st w else Ex M_X9_say lv 7 l st w)
  ∧ (∀ (lv : Nat) (l : LX) (st : List Value) (w : AH), Ex M_X9_say lv 7 l st w = Ex M_X9_say lv 8 l (.int 0 :: st) w)
  ∧ (∀ (lv : Nat) (l : LX) (x : Int32) (w : AH), Ex M_X9_say lv 8 l [.int x] w = some (some (.int x), w))
  ∧ (∀ (lv : Nat) (st : List Value) (t : LX) (o0 : Option Value) (x : Int32) (w : AH), Ex M_X9_say lv 9 (o0 :: some (.int x) :: t) st w = Ex M_X9_say lv 10 (o0 :: some (.int x) :: t) (.int x :: st) w)
  ∧ (∀ (lv : Nat) (st : List Value) (t : LX) (o0 o1 : Option Value) (x : Int32) (w : AH), Ex M_X9_say lv 10 (o0 :: o1 :: some (.int x) :: t) st w = Ex M_X9_say lv 11 (o0 :: o1 :: some (.int x) :: t) (.int x :: st) w)
  ∧ (∀ (lv : Nat) (l : LX) (a0 : Int32) (a1 : Int32) (w : AH), Ex M_X9_say lv 11 l (.int a1 :: .int a0 :: []) w = if (Call M_X9_bodyOf 60 [.int a0, .int a1] w).isSome = true then Ex M_X9_say lv 14 l (pushR (cV (Call M_X9_bodyOf 60 [.int a0, .int a1] w)) []) (cW (Call M_X9_bodyOf 60 [.int a0, .int a1] w) w) else none)
  ∧ (∀ (lv : Nat) (l : LX) (st : List Value) (x : Int32) (w : AH), Ex M_X9_say lv 14 l (.int x :: st) w = Ex M_X9_say lv 16 (ls1 l 5 (.int x)) st w)
  ∧ (∀ (lv : Nat) (st : List Value) (t : LX) (x : Nat) (w : AH), Ex M_X9_say lv 16 (some (.ref x) :: t) st w = Ex M_X9_say lv 17 (some (.ref x) :: t) (.ref x :: st) w)
  ∧ (∀ (lv : Nat) (st : List Value) (t : LX) (w : AH), Ex M_X9_say lv 16 (some (.null) :: t) st w = Ex M_X9_say lv 17 (some (.null) :: t) (.null :: st) w)
  ∧ (∀ (lv : Nat) (l : LX) (st : List Value) (a : Nat) (w : AH), Ex M_X9_say lv 17 l (.ref a :: st) w = if (gf (hg w a) 8 0).isSome = true then Ex M_X9_say lv 20 l (vV (gf (hg w a) 8 0) :: st) w else none)
  ∧ (∀ (lv : Nat) (st : List Value) (t : LX) (o0 o1 o2 o3 o4 : Option Value) (x : Int32) (w : AH), Ex M_X9_say lv 20 (o0 :: o1 :: o2 :: o3 :: o4 :: some (.int x) :: t) st w = Ex M_X9_say lv 22 (o0 :: o1 :: o2 :: o3 :: o4 :: some (.int x) :: t) (.int x :: st) w)
  ∧ (∀ (lv : Nat) (l : LX) (b : Nat) (a0 : Int32) (w : AH), Ex M_X9_say lv 22 l (.int a0 :: .ref b :: []) w = if clK (hg w b) = 6 then (if (Call M_X6_add 60 [.ref b, .int a0] w).isSome = true then Ex M_X9_say lv 25 l (pushR (cV (Call M_X6_add 60 [.ref b, .int a0] w)) []) (cW (Call M_X6_add 60 [.ref b, .int a0] w) w) else none) else none)
  ∧ (∀ (lv : Nat) (l : LX) (st : List Value) (x : Int32) (w : AH), Ex M_X9_say lv 25 l (.int x :: st) w = Ex M_X9_say lv 26 l st w)
  ∧ (∀ (lv : Nat) (st : List Value) (t : LX) (o0 o1 o2 o3 : Option Value) (x : Int32) (w : AH), Ex M_X9_say lv 26 (o0 :: o1 :: o2 :: o3 :: some (.int x) :: t) st w = Ex M_X9_say lv 28 (o0 :: o1 :: o2 :: o3 :: some (.int x) :: t) (.int x :: st) w)
  ∧ (∀ (lv : Nat) (l : LX) (st : List Value) (w : AH), Ex M_X9_say lv 28 l st w = Ex M_X9_say lv 29 l (.int 1 :: st) w)
  ∧ (∀ (lv : Nat) (l : LX) (st : List Value) (x y : Int32) (w : AH), Ex M_X9_say lv 29 l (.int y :: .int x :: st) w = Ex M_X9_say lv 30 l (.int (x + y) :: st) w)
  ∧ (∀ (lv : Nat) (l : LX) (st : List Value) (x : Int32) (w : AH), Ex M_X9_say lv 30 l (.int x :: st) w = Ex M_X9_say lv 32 (ls1 l 6 (.int x)) st w)
  ∧ (∀ (lv : Nat) (st : List Value) (t : LX) (o0 o1 o2 o3 o4 : Option Value) (x : Int32) (w : AH), Ex M_X9_say lv 32 (o0 :: o1 :: o2 :: o3 :: o4 :: some (.int x) :: t) st w = Ex M_X9_say lv 34 (o0 :: o1 :: o2 :: o3 :: o4 :: some (.int x) :: t) (.int x :: st) w)
  ∧ (∀ (lv : Nat) (l : LX) (st : List Value) (x : Int32) (w : AH), Ex M_X9_say lv 34 l (.int x :: st) w = if x = 10 then Ex M_X9_say lv 132 l st w else if x = 11 then Ex M_X9_say lv 139 l st w else if x = 12 then Ex M_X9_say lv 154 l st w else if x = 13 then Ex M_X9_say lv 161 l st w else if x = 20 then Ex M_X9_say lv 187 l st w else if x = 30 then Ex M_X9_say lv 199 l st w else if x = 40 then Ex M_X9_say lv 222 l st w else if x = 50 then Ex M_X9_say lv 233 l st w else if x = 60 then Ex M_X9_say lv 256 l st w else if x = 70 then Ex M_X9_say lv 268 l st w else if x = 71 then Ex M_X9_say lv 283 l st w else Ex M_X9_say lv 306 l st w)
  ∧ (∀ (lv : Nat) (st : List Value) (t : LX) (o0 o1 o2 : Option Value) (x : Int32) (w : AH), Ex M_X9_say lv 132 (o0 :: o1 :: o2 :: some (.int x) :: t) st w = Ex M_X9_say lv 133 (o0 :: o1 :: o2 :: some (.int x) :: t) (.int x :: st) w)
  ∧ (∀ (lv : Nat) (st : List Value) (t : LX) (x : Nat) (w : AH), Ex M_X9_say lv 133 (some (.ref x) :: t) st w = Ex M_X9_say lv 134 (some (.ref x) :: t) (.ref x :: st) w)
  ∧ (∀ (lv : Nat) (st : List Value) (t : LX) (w : AH), Ex M_X9_say lv 133 (some (.null) :: t) st w = Ex M_X9_say lv 134 (some (.null) :: t) (.null :: st) w)
  ∧ (∀ (lv : Nat) (l : LX) (st : List Value) (a : Nat) (w : AH), Ex M_X9_say lv 134 l (.ref a :: st) w = if (gf (hg w a) 8 2).isSome = true then Ex M_X9_say lv 137 l (vV (gf (hg w a) 8 2) :: st) w else none)
  ∧ (∀ (lv : Nat) (l : LX) (st : List Value) (x y : Int32) (w : AH), Ex M_X9_say lv 137 l (.int y :: .int x :: st) w = Ex M_X9_say lv 138 l (.int (x + y) :: st) w)
  ∧ (∀ (lv : Nat) (l : LX) (x : Int32) (w : AH), Ex M_X9_say lv 138 l [.int x] w = some (some (.int x), w))
  ∧ (∀ (lv : Nat) (st : List Value) (t : LX) (x : Nat) (w : AH), Ex M_X9_say lv 139 (some (.ref x) :: t) st w = Ex M_X9_say lv 140 (some (.ref x) :: t) (.ref x :: st) w)
  ∧ (∀ (lv : Nat) (st : List Value) (t : LX) (w : AH), Ex M_X9_say lv 139 (some (.null) :: t) st w = Ex M_X9_say lv 140 (some (.null) :: t) (.null :: st) w)
  ∧ (∀ (lv : Nat) (st : List Value) (t : LX) (x : Nat) (w : AH), Ex M_X9_say lv 140 (some (.ref x) :: t) st w = Ex M_X9_say lv 141 (some (.ref x) :: t) (.ref x :: st) w)
  ∧ (∀ (lv : Nat) (st : List Value) (t : LX) (w : AH), Ex M_X9_say lv 140 (some (.null) :: t) st w = Ex M_X9_say lv 141 (some (.null) :: t) (.null :: st) w)
  ∧ (∀ (lv : Nat) (l : LX) (st : List Value) (a : Nat) (w : AH), Ex M_X9_say lv 141 l (.ref a :: st) w = if (gf (hg w a) 8 1).isSome = true then Ex M_X9_say lv 144 l (vV (gf (hg w a) 8 1) :: st) w else none)
  ∧ (∀ (lv : Nat) (l : LX) (st : List Value) (w : AH), Ex M_X9_say lv 144 l st w = Ex M_X9_say lv 145 l (.int 0 :: st) w)
  ∧ (∀ (lv : Nat) (st : List Value) (t : LX) (o0 o1 o2 : Option Value) (x : Int32) (w : AH), Ex M_X9_say lv 145 (o0 :: o1 :: o2 :: some (.int x) :: t) st w = Ex M_X9_say lv 146 (o0 :: o1 :: o2 :: some (.int x) :: t) (.int x :: st) w)
  ∧ (∀ (lv : Nat) (st : List Value) (t : LX) (o0 o1 o2 o3 o4 o5 : Option Value) (x : Int32) (w : AH), Ex M_X9_say lv 146 (o0 :: o1 :: o2 :: o3 :: o4 :: o5 :: some (.int x) :: t) st w = Ex M_X9_say lv 148 (o0 :: o1 :: o2 :: o3 :: o4 :: o5 :: some (.int x) :: t) (.int x :: st) w)
  ∧ (∀ (lv : Nat) (l : LX) (b : Nat) (a0 : Int32) (a1 : Int32) (a2 : Int32) (a3 : Int32) (w : AH), Ex M_X9_say (lv + 1) 148 l (.int a3 :: .int a2 :: .int a1 :: .int a0 :: .ref b :: []) w = if clK (hg w b) = 8 then (if (Call M_X9_say lv [.ref b, .int a0, .int a1, .int a2, .int a3] w).isSome = true then Ex M_X9_say (lv + 1) 151 l (pushR (cV (Call M_X9_say lv [.ref b, .int a0, .int a1, .int a2, .int a3] w)) []) (cW (Call M_X9_say lv [.ref b, .int a0, .int a1, .int a2, .int a3] w) w) else none) else none)
  ∧ (∀ (lv : Nat) (l : LX) (st : List Value) (w : AH), Ex M_X9_say lv 151 l st w = Ex M_X9_say lv 152 l (.int 2 :: st) w)
  ∧ (∀ (lv : Nat) (l : LX) (st : List Value) (x y : Int32) (w : AH), Ex M_X9_say lv 152 l (.int y :: .int x :: st) w = Ex M_X9_say lv 153 l (.int (x * y) :: st) w)
  ∧ (∀ (lv : Nat) (l : LX) (x : Int32) (w : AH), Ex M_X9_say lv 153 l [.int x] w = some (some (.int x), w))
  ∧ (∀ (lv : Nat) (st : List Value) (t : LX) (o0 o1 o2 : Option Value) (x : Int32) (w : AH), Ex M_X9_say lv 154 (o0 :: o1 :: o2 :: some (.int x) :: t) st w = Ex M_X9_say lv 155 (o0 :: o1 :: o2 :: some (.int x) :: t) (.int x :: st) w)
  ∧ (∀ (lv : Nat) (st : List Value) (t : LX) (x : Nat) (w : AH), Ex M_X9_say lv 155 (some (.ref x) :: t) st w = Ex M_X9_say lv 156 (some (.ref x) :: t) (.ref x :: st) w)
  ∧ (∀ (lv : Nat) (st : List Value) (t : LX) (w : AH), Ex M_X9_say lv 155 (some (.null) :: t) st w = Ex M_X9_say lv 156 (some (.null) :: t) (.null :: st) w)
  ∧ (∀ (lv : Nat) (l : LX) (st : List Value) (a : Nat) (w : AH), Ex M_X9_say lv 156 l (.ref a :: st) w = if (gf (hg w a) 8 3).isSome = true then Ex M_X9_say lv 159 l (vV (gf (hg w a) 8 3) :: st) w else none)
  ∧ (∀ (lv : Nat) (l : LX) (st : List Value) (x y : Int32) (w : AH), Ex M_X9_say lv 159 l (.int y :: .int x :: st) w = Ex M_X9_say lv 160 l (.int (x - y) :: st) w)
  ∧ (∀ (lv : Nat) (l : LX) (x : Int32) (w : AH), Ex M_X9_say lv 160 l [.int x] w = some (some (.int x), w))
  ∧ (∀ (lv : Nat) (st : List Value) (t : LX) (x : Nat) (w : AH), Ex M_X9_say lv 161 (some (.ref x) :: t) st w = Ex M_X9_say lv 162 (some (.ref x) :: t) (.ref x :: st) w)
  ∧ (∀ (lv : Nat) (st : List Value) (t : LX) (w : AH), Ex M_X9_say lv 161 (some (.null) :: t) st w = Ex M_X9_say lv 162 (some (.null) :: t) (.null :: st) w)
  ∧ (∀ (lv : Nat) (st : List Value) (t : LX) (x : Nat) (w : AH), Ex M_X9_say lv 162 (some (.ref x) :: t) st w = Ex M_X9_say lv 163 (some (.ref x) :: t) (.ref x :: st) w)
  ∧ (∀ (lv : Nat) (st : List Value) (t : LX) (w : AH), Ex M_X9_say lv 162 (some (.null) :: t) st w = Ex M_X9_say lv 163 (some (.null) :: t) (.null :: st) w)
  ∧ (∀ (lv : Nat) (l : LX) (st : List Value) (a : Nat) (w : AH), Ex M_X9_say lv 163 l (.ref a :: st) w = if (gf (hg w a) 8 1).isSome = true then Ex M_X9_say lv 166 l (vV (gf (hg w a) 8 1) :: st) w else none)
  ∧ (∀ (lv : Nat) (l : LX) (st : List Value) (w : AH), Ex M_X9_say lv 166 l st w = Ex M_X9_say lv 167 l (.int 1 :: st) w)
  ∧ (∀ (lv : Nat) (st : List Value) (t : LX) (o0 o1 o2 : Option Value) (x : Int32) (w : AH), Ex M_X9_say lv 167 (o0 :: o1 :: o2 :: some (.int x) :: t) st w = Ex M_X9_say lv 168 (o0 :: o1 :: o2 :: some (.int x) :: t) (.int x :: st) w)
  ∧ (∀ (lv : Nat) (st : List Value) (t : LX) (o0 o1 o2 o3 o4 o5 : Option Value) (x : Int32) (w : AH), Ex M_X9_say lv 168 (o0 :: o1 :: o2 :: o3 :: o4 :: o5 :: some (.int x) :: t) st w = Ex M_X9_say lv 170 (o0 :: o1 :: o2 :: o3 :: o4 :: o5 :: some (.int x) :: t) (.int x :: st) w)
  ∧ (∀ (lv : Nat) (l : LX) (b : Nat) (a0 : Int32) (a1 : Int32) (a2 : Int32) (a3 : Int32) (w : AH), Ex M_X9_say (lv + 1) 170 l (.int a3 :: .int a2 :: .int a1 :: .int a0 :: .ref b :: []) w = if clK (hg w b) = 8 then (if (Call M_X9_say lv [.ref b, .int a0, .int a1, .int a2, .int a3] w).isSome = true then Ex M_X9_say (lv + 1) 173 l (pushR (cV (Call M_X9_say lv [.ref b, .int a0, .int a1, .int a2, .int a3] w)) []) (cW (Call M_X9_say lv [.ref b, .int a0, .int a1, .int a2, .int a3] w) w) else none) else none)
  ∧ (∀ (lv : Nat) (st : List Value) (t : LX) (x : Nat) (w : AH), Ex M_X9_say lv 173 (some (.ref x) :: t) st w = Ex M_X9_say lv 174 (some (.ref x) :: t) (.ref x :: st) w)
  ∧ (∀ (lv : Nat) (st : List Value) (t : LX) (w : AH), Ex M_X9_say lv 173 (some (.null) :: t) st w = Ex M_X9_say lv 174 (some (.null) :: t) (.null :: st) w)
  ∧ (∀ (lv : Nat) (st : List Value) (t : LX) (x : Nat) (w : AH), Ex M_X9_say lv 174 (some (.ref x) :: t) st w = Ex M_X9_say lv 175 (some (.ref x) :: t) (.ref x :: st) w)
  ∧ (∀ (lv : Nat) (st : List Value) (t : LX) (w : AH), Ex M_X9_say lv 174 (some (.null) :: t) st w = Ex M_X9_say lv 175 (some (.null) :: t) (.null :: st) w)
  ∧ (∀ (lv : Nat) (l : LX) (st : List Value) (a : Nat) (w : AH), Ex M_X9_say lv 175 l (.ref a :: st) w = if (gf (hg w a) 8 1).isSome = true then Ex M_X9_say lv 178 l (vV (gf (hg w a) 8 1) :: st) w else none)
  ∧ (∀ (lv : Nat) (l : LX) (st : List Value) (w : AH), Ex M_X9_say lv 178 l st w = Ex M_X9_say lv 179 l (.int 2 :: st) w) :=
  ⟨(fun lv st t o0 o1 o2 o3 x w => Ex_M (i := .iload 4) (n := 2) (by decide +kernel) rfl rfl rfl),
   (fun lv l st w => Ex_A (i := .bipush 20) (n := 2) (by decide +kernel) rfl rfl),
   (fun lv l st x y w => Ex_icmp_le (by decide +kernel : decode M_X9_say.2.1 4 = .ok (.if_icmp .le 5, 3)) rfl rfl),
   (fun lv l st w => Ex_A (i := .iconst 0) (n := 1) (by decide +kernel) rfl rfl),
   (fun lv l x w => Ex_R (i := .ireturn) (n := 1) (by decide +kernel) rfl rfl rfl rfl rfl),
   (fun lv st t o0 x w => Ex_M (i := .iload_n 1) (n := 1) (by decide +kernel) rfl rfl rfl),
   (fun lv st t o0 o1 x w => Ex_M (i := .iload_n 2) (n := 1) (by decide +kernel) rfl rfl rfl),
   (fun lv l a0 a1 w => Ex_callS (by decide +kernel : decode M_X9_say.2.1 11 = .ok (.invokestatic 53, 3)) rfl (by rfl : resM (mCn M_X9_say) 53 = some (0, M_X9_bodyOf)) (by decide) rfl (by rfl) (Nat.le_of_ble_eq_true rfl) (sLv_lt (by decide +kernel))),
   (fun lv l st x w => Ex_M (i := .istore 5) (n := 2) (by decide +kernel) rfl rfl rfl),
   (fun lv st t x w => Ex_M (i := .aload_n 0) (n := 1) (by decide +kernel) rfl rfl rfl),
   (fun lv st t w => Ex_M (i := .aload_n 0) (n := 1) (by decide +kernel) rfl rfl rfl),
   (fun lv l st a w => Ex_getf (by decide +kernel : decode M_X9_say.2.1 17 = .ok (.getfield 14, 3)) rfl (by decide +kernel : resF (mCn M_X9_say) 14 = some (8, 0, (.object "CarpetLands$Row"), true))),
   (fun lv st t o0 o1 o2 o3 o4 x w => Ex_M (i := .iload 5) (n := 2) (by decide +kernel) rfl rfl rfl),
   (fun lv l b a0 w => Ex_callV (by decide +kernel : decode M_X9_say.2.1 22 = .ok (.invokevirtual 57, 3)) rfl (by rfl : resM (mCn M_X9_say) 57 = some (2, M_X6_add)) rfl (by rfl) (Nat.le_of_ble_eq_true rfl) (by decide +kernel) (sLv_lt (by decide +kernel))),
   (fun lv l st x w => Ex_A (i := .pop) (n := 1) (by decide +kernel) rfl rfl),
   (fun lv st t o0 o1 o2 o3 x w => Ex_M (i := .iload 4) (n := 2) (by decide +kernel) rfl rfl rfl),
   (fun lv l st w => Ex_A (i := .iconst 1) (n := 1) (by decide +kernel) rfl rfl),
   (fun lv l st x y w => Ex_A (i := .iadd) (n := 1) (by decide +kernel) rfl rfl),
   (fun lv l st x w => Ex_M (i := .istore 6) (n := 2) (by decide +kernel) rfl rfl rfl),
   (fun lv st t o0 o1 o2 o3 o4 x w => Ex_M (i := .iload 5) (n := 2) (by decide +kernel) rfl rfl rfl),
   (fun lv l st x w => (by
      refine it_ite (fun hx0 => ?_) (fun hx0 => ?_)
      · subst hx0; exact Ex_ls (by decide +kernel : decode M_X9_say.2.1 34 = .ok (.lookupswitch 272 #[(10, 98), (11, 105), (12, 120), (13, 127), (20, 153), (30, 165), (40, 188), (50, 199), (60, 222), (70, 234), (71, 249)], 98)) (by decide) rfl rfl
      refine it_ite (fun hx1 => ?_) (fun hx1 => ?_)
      · subst hx1; exact Ex_ls (by decide +kernel : decode M_X9_say.2.1 34 = .ok (.lookupswitch 272 #[(10, 98), (11, 105), (12, 120), (13, 127), (20, 153), (30, 165), (40, 188), (50, 199), (60, 222), (70, 234), (71, 249)], 98)) (by decide) rfl rfl
      refine it_ite (fun hx2 => ?_) (fun hx2 => ?_)
      · subst hx2; exact Ex_ls (by decide +kernel : decode M_X9_say.2.1 34 = .ok (.lookupswitch 272 #[(10, 98), (11, 105), (12, 120), (13, 127), (20, 153), (30, 165), (40, 188), (50, 199), (60, 222), (70, 234), (71, 249)], 98)) (by decide) rfl rfl
      refine it_ite (fun hx3 => ?_) (fun hx3 => ?_)
      · subst hx3; exact Ex_ls (by decide +kernel : decode M_X9_say.2.1 34 = .ok (.lookupswitch 272 #[(10, 98), (11, 105), (12, 120), (13, 127), (20, 153), (30, 165), (40, 188), (50, 199), (60, 222), (70, 234), (71, 249)], 98)) (by decide) rfl rfl
      refine it_ite (fun hx4 => ?_) (fun hx4 => ?_)
      · subst hx4; exact Ex_ls (by decide +kernel : decode M_X9_say.2.1 34 = .ok (.lookupswitch 272 #[(10, 98), (11, 105), (12, 120), (13, 127), (20, 153), (30, 165), (40, 188), (50, 199), (60, 222), (70, 234), (71, 249)], 98)) (by decide) rfl rfl
      refine it_ite (fun hx5 => ?_) (fun hx5 => ?_)
      · subst hx5; exact Ex_ls (by decide +kernel : decode M_X9_say.2.1 34 = .ok (.lookupswitch 272 #[(10, 98), (11, 105), (12, 120), (13, 127), (20, 153), (30, 165), (40, 188), (50, 199), (60, 222), (70, 234), (71, 249)], 98)) (by decide) rfl rfl
      refine it_ite (fun hx6 => ?_) (fun hx6 => ?_)
      · subst hx6; exact Ex_ls (by decide +kernel : decode M_X9_say.2.1 34 = .ok (.lookupswitch 272 #[(10, 98), (11, 105), (12, 120), (13, 127), (20, 153), (30, 165), (40, 188), (50, 199), (60, 222), (70, 234), (71, 249)], 98)) (by decide) rfl rfl
      refine it_ite (fun hx7 => ?_) (fun hx7 => ?_)
      · subst hx7; exact Ex_ls (by decide +kernel : decode M_X9_say.2.1 34 = .ok (.lookupswitch 272 #[(10, 98), (11, 105), (12, 120), (13, 127), (20, 153), (30, 165), (40, 188), (50, 199), (60, 222), (70, 234), (71, 249)], 98)) (by decide) rfl rfl
      refine it_ite (fun hx8 => ?_) (fun hx8 => ?_)
      · subst hx8; exact Ex_ls (by decide +kernel : decode M_X9_say.2.1 34 = .ok (.lookupswitch 272 #[(10, 98), (11, 105), (12, 120), (13, 127), (20, 153), (30, 165), (40, 188), (50, 199), (60, 222), (70, 234), (71, 249)], 98)) (by decide) rfl rfl
      refine it_ite (fun hx9 => ?_) (fun hx9 => ?_)
      · subst hx9; exact Ex_ls (by decide +kernel : decode M_X9_say.2.1 34 = .ok (.lookupswitch 272 #[(10, 98), (11, 105), (12, 120), (13, 127), (20, 153), (30, 165), (40, 188), (50, 199), (60, 222), (70, 234), (71, 249)], 98)) (by decide) rfl rfl
      refine it_ite (fun hx10 => ?_) (fun hx10 => ?_)
      · subst hx10; exact Ex_ls (by decide +kernel : decode M_X9_say.2.1 34 = .ok (.lookupswitch 272 #[(10, 98), (11, 105), (12, 120), (13, 127), (20, 153), (30, 165), (40, 188), (50, 199), (60, 222), (70, 234), (71, 249)], 98)) (by decide) rfl rfl
      exact Ex_ls (by decide +kernel : decode M_X9_say.2.1 34 = .ok (.lookupswitch 272 #[(10, 98), (11, 105), (12, 120), (13, 127), (20, 153), (30, 165), (40, 188), (50, 199), (60, 222), (70, 234), (71, 249)], 98)) (by decide) ((lv_osw hx0 rfl).trans ((lv_osw hx1 rfl).trans ((lv_osw hx2 rfl).trans ((lv_osw hx3 rfl).trans ((lv_osw hx4 rfl).trans ((lv_osw hx5 rfl).trans ((lv_osw hx6 rfl).trans ((lv_osw hx7 rfl).trans ((lv_osw hx8 rfl).trans ((lv_osw hx9 rfl).trans ((lv_osw hx10 rfl).trans (rfl)))))))))))) rfl)),
   (fun lv st t o0 o1 o2 x w => Ex_M (i := .iload_n 3) (n := 1) (by decide +kernel) rfl rfl rfl),
   (fun lv st t x w => Ex_M (i := .aload_n 0) (n := 1) (by decide +kernel) rfl rfl rfl),
   (fun lv st t w => Ex_M (i := .aload_n 0) (n := 1) (by decide +kernel) rfl rfl rfl),
   (fun lv l st a w => Ex_getf (by decide +kernel : decode M_X9_say.2.1 134 = .ok (.getfield 24, 3)) rfl (by decide +kernel : resF (mCn M_X9_say) 24 = some (8, 2, .int, false))),
   (fun lv l st x y w => Ex_A (i := .iadd) (n := 1) (by decide +kernel) rfl rfl),
   (fun lv l x w => Ex_R (i := .ireturn) (n := 1) (by decide +kernel) rfl rfl rfl rfl rfl),
   (fun lv st t x w => Ex_M (i := .aload_n 0) (n := 1) (by decide +kernel) rfl rfl rfl),
   (fun lv st t w => Ex_M (i := .aload_n 0) (n := 1) (by decide +kernel) rfl rfl rfl),
   (fun lv st t x w => Ex_M (i := .aload_n 0) (n := 1) (by decide +kernel) rfl rfl rfl),
   (fun lv st t w => Ex_M (i := .aload_n 0) (n := 1) (by decide +kernel) rfl rfl rfl),
   (fun lv l st a w => Ex_getf (by decide +kernel : decode M_X9_say.2.1 141 = .ok (.getfield 20, 3)) rfl (by decide +kernel : resF (mCn M_X9_say) 20 = some (8, 1, .int, false))),
   (fun lv l st w => Ex_A (i := .iconst 0) (n := 1) (by decide +kernel) rfl rfl),
   (fun lv st t o0 o1 o2 x w => Ex_M (i := .iload_n 3) (n := 1) (by decide +kernel) rfl rfl rfl),
   (fun lv st t o0 o1 o2 o3 o4 o5 x w => Ex_M (i := .iload 6) (n := 2) (by decide +kernel) rfl rfl rfl),
   (fun lv l b a0 a1 a2 a3 w => Ex_callV (by decide +kernel : decode M_X9_say.2.1 148 = .ok (.invokevirtual 37, 3)) rfl (by rfl : resM (mCn M_X9_say) 37 = some (2, M_X9_say)) rfl (by rfl) (Nat.le_of_ble_eq_true rfl) (by decide +kernel) (sLv_eq (by decide +kernel))),
   (fun lv l st w => Ex_A (i := .iconst 2) (n := 1) (by decide +kernel) rfl rfl),
   (fun lv l st x y w => Ex_A (i := .imul) (n := 1) (by decide +kernel) rfl rfl),
   (fun lv l x w => Ex_R (i := .ireturn) (n := 1) (by decide +kernel) rfl rfl rfl rfl rfl),
   (fun lv st t o0 o1 o2 x w => Ex_M (i := .iload_n 3) (n := 1) (by decide +kernel) rfl rfl rfl),
   (fun lv st t x w => Ex_M (i := .aload_n 0) (n := 1) (by decide +kernel) rfl rfl rfl),
   (fun lv st t w => Ex_M (i := .aload_n 0) (n := 1) (by decide +kernel) rfl rfl rfl),
   (fun lv l st a w => Ex_getf (by decide +kernel : decode M_X9_say.2.1 156 = .ok (.getfield 27, 3)) rfl (by decide +kernel : resF (mCn M_X9_say) 27 = some (8, 3, .int, false))),
   (fun lv l st x y w => Ex_A (i := .isub) (n := 1) (by decide +kernel) rfl rfl),
   (fun lv l x w => Ex_R (i := .ireturn) (n := 1) (by decide +kernel) rfl rfl rfl rfl rfl),
   (fun lv st t x w => Ex_M (i := .aload_n 0) (n := 1) (by decide +kernel) rfl rfl rfl),
   (fun lv st t w => Ex_M (i := .aload_n 0) (n := 1) (by decide +kernel) rfl rfl rfl),
   (fun lv st t x w => Ex_M (i := .aload_n 0) (n := 1) (by decide +kernel) rfl rfl rfl),
   (fun lv st t w => Ex_M (i := .aload_n 0) (n := 1) (by decide +kernel) rfl rfl rfl),
   (fun lv l st a w => Ex_getf (by decide +kernel : decode M_X9_say.2.1 163 = .ok (.getfield 20, 3)) rfl (by decide +kernel : resF (mCn M_X9_say) 20 = some (8, 1, .int, false))),
   (fun lv l st w => Ex_A (i := .iconst 1) (n := 1) (by decide +kernel) rfl rfl),
   (fun lv st t o0 o1 o2 x w => Ex_M (i := .iload_n 3) (n := 1) (by decide +kernel) rfl rfl rfl),
   (fun lv st t o0 o1 o2 o3 o4 o5 x w => Ex_M (i := .iload 6) (n := 2) (by decide +kernel) rfl rfl rfl),
   (fun lv l b a0 a1 a2 a3 w => Ex_callV (by decide +kernel : decode M_X9_say.2.1 170 = .ok (.invokevirtual 37, 3)) rfl (by rfl : resM (mCn M_X9_say) 37 = some (2, M_X9_say)) rfl (by rfl) (Nat.le_of_ble_eq_true rfl) (by decide +kernel) (sLv_eq (by decide +kernel))),
   (fun lv st t x w => Ex_M (i := .aload_n 0) (n := 1) (by decide +kernel) rfl rfl rfl),
   (fun lv st t w => Ex_M (i := .aload_n 0) (n := 1) (by decide +kernel) rfl rfl rfl),
   (fun lv st t x w => Ex_M (i := .aload_n 0) (n := 1) (by decide +kernel) rfl rfl rfl),
   (fun lv st t w => Ex_M (i := .aload_n 0) (n := 1) (by decide +kernel) rfl rfl rfl),
   (fun lv l st a w => Ex_getf (by decide +kernel : decode M_X9_say.2.1 175 = .ok (.getfield 20, 3)) rfl (by decide +kernel : resF (mCn M_X9_say) 20 = some (8, 1, .int, false))),
   (fun lv l st w => Ex_A (i := .iconst 2) (n := 1) (by decide +kernel) rfl rfl)⟩
set_option maxRecDepth 20000 in
set_option maxHeartbeats 4000000 in
theorem R_X9_say_p1 : (∀ (lv : Nat) (st : List Value) (t : LX) (o0 o1 o2 : Option Value) (x : Int32) (w : AH), Ex M_X9_say lv 179 (o0 :: o1 :: o2 :: some (.int x) :: t) st w = Ex M_X9_say lv 180 (o0 :: o1 :: o2 :: some (.int x) :: t) (.int x :: st) w)
  ∧ (∀ (lv : Nat) (st : List Value) (t : LX) (o0 o1 o2 o3 o4 o5 : Option Value) (x : Int32) (w : AH), Ex M_X9_say lv 180 (o0 :: o1 :: o2 :: o3 :: o4 :: o5 :: some (.int x) :: t) st w = Ex M_X9_say lv 182 (o0 :: o1 :: o2 :: o3 :: o4 :: o5 :: some (.int x) :: t) (.int x :: st) w)
  ∧ (∀ (lv : Nat) (l : LX) (b : Nat) (a0 : Int32) (a1 : Int32) (a2 : Int32) (a3 : Int32) (s0 : Int32) (w : AH), Ex M_X9_say (lv + 1) 182 l (.int a3 :: .int a2 :: .int a1 :: .int a0 :: .ref b :: [.int s0]) w = if clK (hg w b) = 8 then (if (Call M_X9_say lv [.ref b, .int a0, .int a1, .int a2, .int a3] w).isSome = true then Ex M_X9_say (lv + 1) 185 l (pushR (cV (Call M_X9_say lv [.ref b, .int a0, .int a1, .int a2, .int a3] w)) [.int s0]) (cW (Call M_X9_say lv [.ref b, .int a0, .int a1, .int a2, .int a3] w) w) else none) else none)
  ∧ (∀ (lv : Nat) (l : LX) (st : List Value) (x y : Int32) (w : AH), Ex M_X9_say lv 185 l (.int y :: .int x :: st) w = Ex M_X9_say lv 186 l (.int (x ^^^ y) :: st) w)
  ∧ (∀ (lv : Nat) (l : LX) (x : Int32) (w : AH), Ex M_X9_say lv 186 l [.int x] w = some (some (.int x), w))
  ∧ (∀ (lv : Nat) (st : List Value) (t : LX) (x : Nat) (w : AH), Ex M_X9_say lv 187 (some (.ref x) :: t) st w = Ex M_X9_say lv 188 (some (.ref x) :: t) (.ref x :: st) w)
  ∧ (∀ (lv : Nat) (st : List Value) (t : LX) (w : AH), Ex M_X9_say lv 187 (some (.null) :: t) st w = Ex M_X9_say lv 188 (some (.null) :: t) (.null :: st) w)
  ∧ (∀ (lv : Nat) (l : LX) (st : List Value) (w : AH), Ex M_X9_say lv 188 l st w = Ex M_X9_say lv 189 l (.int 0 :: st) w)
  ∧ (∀ (lv : Nat) (l : LX) (st : List Value) (w : AH), Ex M_X9_say lv 189 l st w = Ex M_X9_say lv 190 l (.int 0 :: st) w)
  ∧ (∀ (lv : Nat) (st : List Value) (t : LX) (o0 o1 o2 : Option Value) (x : Int32) (w : AH), Ex M_X9_say lv 190 (o0 :: o1 :: o2 :: some (.int x) :: t) st w = Ex M_X9_say lv 191 (o0 :: o1 :: o2 :: some (.int x) :: t) (.int x :: st) w)
  ∧ (∀ (lv : Nat) (st : List Value) (t : LX) (o0 o1 o2 o3 o4 o5 : Option Value) (x : Int32) (w : AH), Ex M_X9_say lv 191 (o0 :: o1 :: o2 :: o3 :: o4 :: o5 :: some (.int x) :: t) st w = Ex M_X9_say lv 193 (o0 :: o1 :: o2 :: o3 :: o4 :: o5 :: some (.int x) :: t) (.int x :: st) w)
  ∧ (∀ (lv : Nat) (l : LX) (b : Nat) (a0 : Int32) (a1 : Int32) (a2 : Int32) (a3 : Int32) (w : AH), Ex M_X9_say (lv + 1) 193 l (.int a3 :: .int a2 :: .int a1 :: .int a0 :: .ref b :: []) w = if clK (hg w b) = 8 then (if (Call M_X9_say lv [.ref b, .int a0, .int a1, .int a2, .int a3] w).isSome = true then Ex M_X9_say (lv + 1) 196 l (pushR (cV (Call M_X9_say lv [.ref b, .int a0, .int a1, .int a2, .int a3] w)) []) (cW (Call M_X9_say lv [.ref b, .int a0, .int a1, .int a2, .int a3] w) w) else none) else none)
  ∧ (∀ (lv : Nat) (l : LX) (st : List Value) (w : AH), Ex M_X9_say lv 196 l st w = Ex M_X9_say lv 197 l (.int 3 :: st) w)
  ∧ (∀ (lv : Nat) (l : LX) (st : List Value) (x y : Int32) (w : AH), Ex M_X9_say lv 197 l (.int y :: .int x :: st) w = Ex M_X9_say lv 198 l (.int (x * y) :: st) w)
  ∧ (∀ (lv : Nat) (l : LX) (x : Int32) (w : AH), Ex M_X9_say lv 198 l [.int x] w = some (some (.int x), w))
  ∧ (∀ (lv : Nat) (st : List Value) (t : LX) (x : Nat) (w : AH), Ex M_X9_say lv 199 (some (.ref x) :: t) st w = Ex M_X9_say lv 200 (some (.ref x) :: t) (.ref x :: st) w)
  ∧ (∀ (lv : Nat) (st : List Value) (t : LX) (w : AH), Ex M_X9_say lv 199 (some (.null) :: t) st w = Ex M_X9_say lv 200 (some (.null) :: t) (.null :: st) w)
  ∧ (∀ (lv : Nat) (l : LX) (st : List Value) (w : AH), Ex M_X9_say lv 200 l st w = Ex M_X9_say lv 201 l (.int 0 :: st) w)
  ∧ (∀ (lv : Nat) (l : LX) (st : List Value) (w : AH), Ex M_X9_say lv 201 l st w = Ex M_X9_say lv 202 l (.int 1 :: st) w)
  ∧ (∀ (lv : Nat) (st : List Value) (t : LX) (o0 o1 o2 : Option Value) (x : Int32) (w : AH), Ex M_X9_say lv 202 (o0 :: o1 :: o2 :: some (.int x) :: t) st w = Ex M_X9_say lv 203 (o0 :: o1 :: o2 :: some (.int x) :: t) (.int x :: st) w)
  ∧ (∀ (lv : Nat) (st : List Value) (t : LX) (o0 o1 o2 o3 o4 o5 : Option Value) (x : Int32) (w : AH), Ex M_X9_say lv 203 (o0 :: o1 :: o2 :: o3 :: o4 :: o5 :: some (.int x) :: t) st w = Ex M_X9_say lv 205 (o0 :: o1 :: o2 :: o3 :: o4 :: o5 :: some (.int x) :: t) (.int x :: st) w)
  ∧ (∀ (lv : Nat) (l : LX) (b : Nat) (a0 : Int32) (a1 : Int32) (a2 : Int32) (a3 : Int32) (w : AH), Ex M_X9_say (lv + 1) 205 l (.int a3 :: .int a2 :: .int a1 :: .int a0 :: .ref b :: []) w = if clK (hg w b) = 8 then (if (Call M_X9_say lv [.ref b, .int a0, .int a1, .int a2, .int a3] w).isSome = true then Ex M_X9_say (lv + 1) 208 l (pushR (cV (Call M_X9_say lv [.ref b, .int a0, .int a1, .int a2, .int a3] w)) []) (cW (Call M_X9_say lv [.ref b, .int a0, .int a1, .int a2, .int a3] w) w) else none) else none)
  ∧ (∀ (lv : Nat) (st : List Value) (t : LX) (x : Nat) (w : AH), Ex M_X9_say lv 208 (some (.ref x) :: t) st w = Ex M_X9_say lv 209 (some (.ref x) :: t) (.ref x :: st) w)
  ∧ (∀ (lv : Nat) (st : List Value) (t : LX) (w : AH), Ex M_X9_say lv 208 (some (.null) :: t) st w = Ex M_X9_say lv 209 (some (.null) :: t) (.null :: st) w)
  ∧ (∀ (lv : Nat) (st : List Value) (t : LX) (x : Nat) (w : AH), Ex M_X9_say lv 209 (some (.ref x) :: t) st w = Ex M_X9_say lv 210 (some (.ref x) :: t) (.ref x :: st) w)
  ∧ (∀ (lv : Nat) (st : List Value) (t : LX) (w : AH), Ex M_X9_say lv 209 (some (.null) :: t) st w = Ex M_X9_say lv 210 (some (.null) :: t) (.null :: st) w)
  ∧ (∀ (lv : Nat) (l : LX) (st : List Value) (a : Nat) (w : AH), Ex M_X9_say lv 210 l (.ref a :: st) w = if (gf (hg w a) 8 1).isSome = true then Ex M_X9_say lv 213 l (vV (gf (hg w a) 8 1) :: st) w else none)
  ∧ (∀ (lv : Nat) (l : LX) (st : List Value) (w : AH), Ex M_X9_say lv 213 l st w = Ex M_X9_say lv 214 l (.int 2 :: st) w)
  ∧ (∀ (lv : Nat) (l : LX) (st : List Value) (w : AH), Ex M_X9_say lv 214 l st w = Ex M_X9_say lv 215 l (.int 1 :: st) w)
  ∧ (∀ (lv : Nat) (st : List Value) (t : LX) (o0 o1 o2 o3 o4 o5 : Option Value) (x : Int32) (w : AH), Ex M_X9_say lv 215 (o0 :: o1 :: o2 :: o3 :: o4 :: o5 :: some (.int x) :: t) st w = Ex M_X9_say lv 217 (o0 :: o1 :: o2 :: o3 :: o4 :: o5 :: some (.int x) :: t) (.int x :: st) w)
  ∧ (∀ (lv : Nat) (l : LX) (b : Nat) (a0 : Int32) (a1 : Int32) (a2 : Int32) (a3 : Int32) (s0 : Int32) (w : AH), Ex M_X9_say (lv + 1) 217 l (.int a3 :: .int a2 :: .int a1 :: .int a0 :: .ref b :: [.int s0]) w = if clK (hg w b) = 8 then (if (Call M_X9_say lv [.ref b, .int a0, .int a1, .int a2, .int a3] w).isSome = true then Ex M_X9_say (lv + 1) 220 l (pushR (cV (Call M_X9_say lv [.ref b, .int a0, .int a1, .int a2, .int a3] w)) [.int s0]) (cW (Call M_X9_say lv [.ref b, .int a0, .int a1, .int a2, .int a3] w) w) else none) else none)
  ∧ (∀ (lv : Nat) (l : LX) (st : List Value) (x y : Int32) (w : AH), Ex M_X9_say lv 220 l (.int y :: .int x :: st) w = Ex M_X9_say lv 221 l (.int (x - y) :: st) w)
  ∧ (∀ (lv : Nat) (l : LX) (x : Int32) (w : AH), Ex M_X9_say lv 221 l [.int x] w = some (some (.int x), w))
  ∧ (∀ (lv : Nat) (st : List Value) (t : LX) (x : Nat) (w : AH), Ex M_X9_say lv 222 (some (.ref x) :: t) st w = Ex M_X9_say lv 223 (some (.ref x) :: t) (.ref x :: st) w)
  ∧ (∀ (lv : Nat) (st : List Value) (t : LX) (w : AH), Ex M_X9_say lv 222 (some (.null) :: t) st w = Ex M_X9_say lv 223 (some (.null) :: t) (.null :: st) w)
  ∧ (∀ (lv : Nat) (l : LX) (st : List Value) (w : AH), Ex M_X9_say lv 223 l st w = Ex M_X9_say lv 224 l (.int 0 :: st) w)
  ∧ (∀ (lv : Nat) (l : LX) (st : List Value) (w : AH), Ex M_X9_say lv 224 l st w = Ex M_X9_say lv 225 l (.int 2 :: st) w)
  ∧ (∀ (lv : Nat) (st : List Value) (t : LX) (o0 o1 o2 : Option Value) (x : Int32) (w : AH), Ex M_X9_say lv 225 (o0 :: o1 :: o2 :: some (.int x) :: t) st w = Ex M_X9_say lv 226 (o0 :: o1 :: o2 :: some (.int x) :: t) (.int x :: st) w)
  ∧ (∀ (lv : Nat) (st : List Value) (t : LX) (o0 o1 o2 o3 o4 o5 : Option Value) (x : Int32) (w : AH), Ex M_X9_say lv 226 (o0 :: o1 :: o2 :: o3 :: o4 :: o5 :: some (.int x) :: t) st w = Ex M_X9_say lv 228 (o0 :: o1 :: o2 :: o3 :: o4 :: o5 :: some (.int x) :: t) (.int x :: st) w)
  ∧ (∀ (lv : Nat) (l : LX) (b : Nat) (a0 : Int32) (a1 : Int32) (a2 : Int32) (a3 : Int32) (w : AH), Ex M_X9_say (lv + 1) 228 l (.int a3 :: .int a2 :: .int a1 :: .int a0 :: .ref b :: []) w = if clK (hg w b) = 8 then (if (Call M_X9_say lv [.ref b, .int a0, .int a1, .int a2, .int a3] w).isSome = true then Ex M_X9_say (lv + 1) 231 l (pushR (cV (Call M_X9_say lv [.ref b, .int a0, .int a1, .int a2, .int a3] w)) []) (cW (Call M_X9_say lv [.ref b, .int a0, .int a1, .int a2, .int a3] w) w) else none) else none)
  ∧ (∀ (lv : Nat) (l : LX) (st : List Value) (x : Int32) (w : AH), Ex M_X9_say lv 231 l (.int x :: st) w = Ex M_X9_say lv 232 l (.int (-x) :: st) w)
  ∧ (∀ (lv : Nat) (l : LX) (x : Int32) (w : AH), Ex M_X9_say lv 232 l [.int x] w = some (some (.int x), w))
  ∧ (∀ (lv : Nat) (st : List Value) (t : LX) (x : Nat) (w : AH), Ex M_X9_say lv 233 (some (.ref x) :: t) st w = Ex M_X9_say lv 234 (some (.ref x) :: t) (.ref x :: st) w)
  ∧ (∀ (lv : Nat) (st : List Value) (t : LX) (w : AH), Ex M_X9_say lv 233 (some (.null) :: t) st w = Ex M_X9_say lv 234 (some (.null) :: t) (.null :: st) w)
  ∧ (∀ (lv : Nat) (l : LX) (st : List Value) (w : AH), Ex M_X9_say lv 234 l st w = Ex M_X9_say lv 235 l (.int 1 :: st) w)
  ∧ (∀ (lv : Nat) (l : LX) (st : List Value) (w : AH), Ex M_X9_say lv 235 l st w = Ex M_X9_say lv 236 l (.int 3 :: st) w)
  ∧ (∀ (lv : Nat) (st : List Value) (t : LX) (o0 o1 o2 : Option Value) (x : Int32) (w : AH), Ex M_X9_say lv 236 (o0 :: o1 :: o2 :: some (.int x) :: t) st w = Ex M_X9_say lv 237 (o0 :: o1 :: o2 :: some (.int x) :: t) (.int x :: st) w)
  ∧ (∀ (lv : Nat) (st : List Value) (t : LX) (o0 o1 o2 o3 o4 o5 : Option Value) (x : Int32) (w : AH), Ex M_X9_say lv 237 (o0 :: o1 :: o2 :: o3 :: o4 :: o5 :: some (.int x) :: t) st w = Ex M_X9_say lv 239 (o0 :: o1 :: o2 :: o3 :: o4 :: o5 :: some (.int x) :: t) (.int x :: st) w)
  ∧ (∀ (lv : Nat) (l : LX) (b : Nat) (a0 : Int32) (a1 : Int32) (a2 : Int32) (a3 : Int32) (w : AH), Ex M_X9_say (lv + 1) 239 l (.int a3 :: .int a2 :: .int a1 :: .int a0 :: .ref b :: []) w = if clK (hg w b) = 8 then (if (Call M_X9_say lv [.ref b, .int a0, .int a1, .int a2, .int a3] w).isSome = true then Ex M_X9_say (lv + 1) 242 l (pushR (cV (Call M_X9_say lv [.ref b, .int a0, .int a1, .int a2, .int a3] w)) []) (cW (Call M_X9_say lv [.ref b, .int a0, .int a1, .int a2, .int a3] w) w) else none) else none)
  ∧ (∀ (lv : Nat) (st : List Value) (t : LX) (x : Nat) (w : AH), Ex M_X9_say lv 242 (some (.ref x) :: t) st w = Ex M_X9_say lv 243 (some (.ref x) :: t) (.ref x :: st) w)
  ∧ (∀ (lv : Nat) (st : List Value) (t : LX) (w : AH), Ex M_X9_say lv 242 (some (.null) :: t) st w = Ex M_X9_say lv 243 (some (.null) :: t) (.null :: st) w)
  ∧ (∀ (lv : Nat) (st : List Value) (t : LX) (x : Nat) (w : AH), Ex M_X9_say lv 243 (some (.ref x) :: t) st w = Ex M_X9_say lv 244 (some (.ref x) :: t) (.ref x :: st) w)
  ∧ (∀ (lv : Nat) (st : List Value) (t : LX) (w : AH), Ex M_X9_say lv 243 (some (.null) :: t) st w = Ex M_X9_say lv 244 (some (.null) :: t) (.null :: st) w)
  ∧ (∀ (lv : Nat) (l : LX) (st : List Value) (a : Nat) (w : AH), Ex M_X9_say lv 244 l (.ref a :: st) w = if (gf (hg w a) 8 1).isSome = true then Ex M_X9_say lv 247 l (vV (gf (hg w a) 8 1) :: st) w else none)
  ∧ (∀ (lv : Nat) (l : LX) (st : List Value) (w : AH), Ex M_X9_say lv 247 l st w = Ex M_X9_say lv 248 l (.int 0 :: st) w)
  ∧ (∀ (lv : Nat) (l : LX) (st : List Value) (w : AH), Ex M_X9_say lv 248 l st w = Ex M_X9_say lv 249 l (.int 2 :: st) w)
  ∧ (∀ (lv : Nat) (st : List Value) (t : LX) (o0 o1 o2 o3 o4 o5 : Option Value) (x : Int32) (w : AH), Ex M_X9_say lv 249 (o0 :: o1 :: o2 :: o3 :: o4 :: o5 :: some (.int x) :: t) st w = Ex M_X9_say lv 251 (o0 :: o1 :: o2 :: o3 :: o4 :: o5 :: some (.int x) :: t) (.int x :: st) w)
  ∧ (∀ (lv : Nat) (l : LX) (b : Nat) (a0 : Int32) (a1 : Int32) (a2 : Int32) (a3 : Int32) (s0 : Int32) (w : AH), Ex M_X9_say (lv + 1) 251 l (.int a3 :: .int a2 :: .int a1 :: .int a0 :: .ref b :: [.int s0]) w = if clK (hg w b) = 8 then (if (Call M_X9_say lv [.ref b, .int a0, .int a1, .int a2, .int a3] w).isSome = true then Ex M_X9_say (lv + 1) 254 l (pushR (cV (Call M_X9_say lv [.ref b, .int a0, .int a1, .int a2, .int a3] w)) [.int s0]) (cW (Call M_X9_say lv [.ref b, .int a0, .int a1, .int a2, .int a3] w) w) else none) else none)
  ∧ (∀ (lv : Nat) (l : LX) (st : List Value) (x y : Int32) (w : AH), Ex M_X9_say lv 254 l (.int y :: .int x :: st) w = Ex M_X9_say lv 255 l (.int (x - y) :: st) w)
  ∧ (∀ (lv : Nat) (l : LX) (x : Int32) (w : AH), Ex M_X9_say lv 255 l [.int x] w = some (some (.int x), w)) :=
  ⟨(fun lv st t o0 o1 o2 x w => Ex_M (i := .iload_n 3) (n := 1) (by decide +kernel) rfl rfl rfl),
   (fun lv st t o0 o1 o2 o3 o4 o5 x w => Ex_M (i := .iload 6) (n := 2) (by decide +kernel) rfl rfl rfl),
   (fun lv l b a0 a1 a2 a3 s0 w => Ex_callV (by decide +kernel : decode M_X9_say.2.1 182 = .ok (.invokevirtual 37, 3)) rfl (by rfl : resM (mCn M_X9_say) 37 = some (2, M_X9_say)) rfl (by rfl) (Nat.le_of_ble_eq_true rfl) (by decide +kernel) (sLv_eq (by decide +kernel))),
   (fun lv l st x y w => Ex_A (i := .ixor) (n := 1) (by decide +kernel) rfl rfl),
   (fun lv l x w => Ex_R (i := .ireturn) (n := 1) (by decide +kernel) rfl rfl rfl rfl rfl),
   (fun lv st t x w => Ex_M (i := .aload_n 0) (n := 1) (by decide +kernel) rfl rfl rfl),
   (fun lv st t w => Ex_M (i := .aload_n 0) (n := 1) (by decide +kernel) rfl rfl rfl),
   (fun lv l st w => Ex_A (i := .iconst 0) (n := 1) (by decide +kernel) rfl rfl),
   (fun lv l st w => Ex_A (i := .iconst 0) (n := 1) (by decide +kernel) rfl rfl),
   (fun lv st t o0 o1 o2 x w => Ex_M (i := .iload_n 3) (n := 1) (by decide +kernel) rfl rfl rfl),
   (fun lv st t o0 o1 o2 o3 o4 o5 x w => Ex_M (i := .iload 6) (n := 2) (by decide +kernel) rfl rfl rfl),
   (fun lv l b a0 a1 a2 a3 w => Ex_callV (by decide +kernel : decode M_X9_say.2.1 193 = .ok (.invokevirtual 37, 3)) rfl (by rfl : resM (mCn M_X9_say) 37 = some (2, M_X9_say)) rfl (by rfl) (Nat.le_of_ble_eq_true rfl) (by decide +kernel) (sLv_eq (by decide +kernel))),
   (fun lv l st w => Ex_A (i := .iconst 3) (n := 1) (by decide +kernel) rfl rfl),
   (fun lv l st x y w => Ex_A (i := .imul) (n := 1) (by decide +kernel) rfl rfl),
   (fun lv l x w => Ex_R (i := .ireturn) (n := 1) (by decide +kernel) rfl rfl rfl rfl rfl),
   (fun lv st t x w => Ex_M (i := .aload_n 0) (n := 1) (by decide +kernel) rfl rfl rfl),
   (fun lv st t w => Ex_M (i := .aload_n 0) (n := 1) (by decide +kernel) rfl rfl rfl),
   (fun lv l st w => Ex_A (i := .iconst 0) (n := 1) (by decide +kernel) rfl rfl),
   (fun lv l st w => Ex_A (i := .iconst 1) (n := 1) (by decide +kernel) rfl rfl),
   (fun lv st t o0 o1 o2 x w => Ex_M (i := .iload_n 3) (n := 1) (by decide +kernel) rfl rfl rfl),
   (fun lv st t o0 o1 o2 o3 o4 o5 x w => Ex_M (i := .iload 6) (n := 2) (by decide +kernel) rfl rfl rfl),
   (fun lv l b a0 a1 a2 a3 w => Ex_callV (by decide +kernel : decode M_X9_say.2.1 205 = .ok (.invokevirtual 37, 3)) rfl (by rfl : resM (mCn M_X9_say) 37 = some (2, M_X9_say)) rfl (by rfl) (Nat.le_of_ble_eq_true rfl) (by decide +kernel) (sLv_eq (by decide +kernel))),
   (fun lv st t x w => Ex_M (i := .aload_n 0) (n := 1) (by decide +kernel) rfl rfl rfl),
   (fun lv st t w => Ex_M (i := .aload_n 0) (n := 1) (by decide +kernel) rfl rfl rfl),
   (fun lv st t x w => Ex_M (i := .aload_n 0) (n := 1) (by decide +kernel) rfl rfl rfl),
   (fun lv st t w => Ex_M (i := .aload_n 0) (n := 1) (by decide +kernel) rfl rfl rfl),
   (fun lv l st a w => Ex_getf (by decide +kernel : decode M_X9_say.2.1 210 = .ok (.getfield 20, 3)) rfl (by decide +kernel : resF (mCn M_X9_say) 20 = some (8, 1, .int, false))),
   (fun lv l st w => Ex_A (i := .iconst 2) (n := 1) (by decide +kernel) rfl rfl),
   (fun lv l st w => Ex_A (i := .iconst 1) (n := 1) (by decide +kernel) rfl rfl),
   (fun lv st t o0 o1 o2 o3 o4 o5 x w => Ex_M (i := .iload 6) (n := 2) (by decide +kernel) rfl rfl rfl),
   (fun lv l b a0 a1 a2 a3 s0 w => Ex_callV (by decide +kernel : decode M_X9_say.2.1 217 = .ok (.invokevirtual 37, 3)) rfl (by rfl : resM (mCn M_X9_say) 37 = some (2, M_X9_say)) rfl (by rfl) (Nat.le_of_ble_eq_true rfl) (by decide +kernel) (sLv_eq (by decide +kernel))),
   (fun lv l st x y w => Ex_A (i := .isub) (n := 1) (by decide +kernel) rfl rfl),
   (fun lv l x w => Ex_R (i := .ireturn) (n := 1) (by decide +kernel) rfl rfl rfl rfl rfl),
   (fun lv st t x w => Ex_M (i := .aload_n 0) (n := 1) (by decide +kernel) rfl rfl rfl),
   (fun lv st t w => Ex_M (i := .aload_n 0) (n := 1) (by decide +kernel) rfl rfl rfl),
   (fun lv l st w => Ex_A (i := .iconst 0) (n := 1) (by decide +kernel) rfl rfl),
   (fun lv l st w => Ex_A (i := .iconst 2) (n := 1) (by decide +kernel) rfl rfl),
   (fun lv st t o0 o1 o2 x w => Ex_M (i := .iload_n 3) (n := 1) (by decide +kernel) rfl rfl rfl),
   (fun lv st t o0 o1 o2 o3 o4 o5 x w => Ex_M (i := .iload 6) (n := 2) (by decide +kernel) rfl rfl rfl),
   (fun lv l b a0 a1 a2 a3 w => Ex_callV (by decide +kernel : decode M_X9_say.2.1 228 = .ok (.invokevirtual 37, 3)) rfl (by rfl : resM (mCn M_X9_say) 37 = some (2, M_X9_say)) rfl (by rfl) (Nat.le_of_ble_eq_true rfl) (by decide +kernel) (sLv_eq (by decide +kernel))),
   (fun lv l st x w => Ex_A (i := .ineg) (n := 1) (by decide +kernel) rfl rfl),
   (fun lv l x w => Ex_R (i := .ireturn) (n := 1) (by decide +kernel) rfl rfl rfl rfl rfl),
   (fun lv st t x w => Ex_M (i := .aload_n 0) (n := 1) (by decide +kernel) rfl rfl rfl),
   (fun lv st t w => Ex_M (i := .aload_n 0) (n := 1) (by decide +kernel) rfl rfl rfl),
   (fun lv l st w => Ex_A (i := .iconst 1) (n := 1) (by decide +kernel) rfl rfl),
   (fun lv l st w => Ex_A (i := .iconst 3) (n := 1) (by decide +kernel) rfl rfl),
   (fun lv st t o0 o1 o2 x w => Ex_M (i := .iload_n 3) (n := 1) (by decide +kernel) rfl rfl rfl),
   (fun lv st t o0 o1 o2 o3 o4 o5 x w => Ex_M (i := .iload 6) (n := 2) (by decide +kernel) rfl rfl rfl),
   (fun lv l b a0 a1 a2 a3 w => Ex_callV (by decide +kernel : decode M_X9_say.2.1 239 = .ok (.invokevirtual 37, 3)) rfl (by rfl : resM (mCn M_X9_say) 37 = some (2, M_X9_say)) rfl (by rfl) (Nat.le_of_ble_eq_true rfl) (by decide +kernel) (sLv_eq (by decide +kernel))),
   (fun lv st t x w => Ex_M (i := .aload_n 0) (n := 1) (by decide +kernel) rfl rfl rfl),
   (fun lv st t w => Ex_M (i := .aload_n 0) (n := 1) (by decide +kernel) rfl rfl rfl),
   (fun lv st t x w => Ex_M (i := .aload_n 0) (n := 1) (by decide +kernel) rfl rfl rfl),
   (fun lv st t w => Ex_M (i := .aload_n 0) (n := 1) (by decide +kernel) rfl rfl rfl),
   (fun lv l st a w => Ex_getf (by decide +kernel : decode M_X9_say.2.1 244 = .ok (.getfield 20, 3)) rfl (by decide +kernel : resF (mCn M_X9_say) 20 = some (8, 1, .int, false))),
   (fun lv l st w => Ex_A (i := .iconst 0) (n := 1) (by decide +kernel) rfl rfl),
   (fun lv l st w => Ex_A (i := .iconst 2) (n := 1) (by decide +kernel) rfl rfl),
   (fun lv st t o0 o1 o2 o3 o4 o5 x w => Ex_M (i := .iload 6) (n := 2) (by decide +kernel) rfl rfl rfl),
   (fun lv l b a0 a1 a2 a3 s0 w => Ex_callV (by decide +kernel : decode M_X9_say.2.1 251 = .ok (.invokevirtual 37, 3)) rfl (by rfl : resM (mCn M_X9_say) 37 = some (2, M_X9_say)) rfl (by rfl) (Nat.le_of_ble_eq_true rfl) (by decide +kernel) (sLv_eq (by decide +kernel))),
   (fun lv l st x y w => Ex_A (i := .isub) (n := 1) (by decide +kernel) rfl rfl),
   (fun lv l x w => Ex_R (i := .ireturn) (n := 1) (by decide +kernel) rfl rfl rfl rfl rfl)⟩
set_option maxRecDepth 20000 in
set_option maxHeartbeats 4000000 in
theorem R_X9_say_p2 : (∀ (lv : Nat) (st : List Value) (t : LX) (x : Nat) (w : AH), Ex M_X9_say lv 256 (some (.ref x) :: t) st w = Ex M_X9_say lv 257 (some (.ref x) :: t) (.ref x :: st) w)
  ∧ (∀ (lv : Nat) (st : List Value) (t : LX) (w : AH), Ex M_X9_say lv 256 (some (.null) :: t) st w = Ex M_X9_say lv 257 (some (.null) :: t) (.null :: st) w)
  ∧ (∀ (lv : Nat) (l : LX) (st : List Value) (w : AH), Ex M_X9_say lv 257 l st w = Ex M_X9_say lv 258 l (.int 2 :: st) w)
  ∧ (∀ (lv : Nat) (l : LX) (st : List Value) (w : AH), Ex M_X9_say lv 258 l st w = Ex M_X9_say lv 259 l (.int 1 :: st) w)
  ∧ (∀ (lv : Nat) (st : List Value) (t : LX) (o0 o1 o2 : Option Value) (x : Int32) (w : AH), Ex M_X9_say lv 259 (o0 :: o1 :: o2 :: some (.int x) :: t) st w = Ex M_X9_say lv 260 (o0 :: o1 :: o2 :: some (.int x) :: t) (.int x :: st) w)
  ∧ (∀ (lv : Nat) (l : LX) (st : List Value) (w : AH), Ex M_X9_say lv 260 l st w = Ex M_X9_say lv 261 l (.int 1 :: st) w)
  ∧ (∀ (lv : Nat) (l : LX) (st : List Value) (x y : Int32) (w : AH), Ex M_X9_say lv 261 l (.int y :: .int x :: st) w = Ex M_X9_say lv 262 l (.int (x + y) :: st) w)
  ∧ (∀ (lv : Nat) (st : List Value) (t : LX) (o0 o1 o2 o3 o4 o5 : Option Value) (x : Int32) (w : AH), Ex M_X9_say lv 262 (o0 :: o1 :: o2 :: o3 :: o4 :: o5 :: some (.int x) :: t) st w = Ex M_X9_say lv 264 (o0 :: o1 :: o2 :: o3 :: o4 :: o5 :: some (.int x) :: t) (.int x :: st) w)
  ∧ (∀ (lv : Nat) (l : LX) (b : Nat) (a0 : Int32) (a1 : Int32) (a2 : Int32) (a3 : Int32) (w : AH), Ex M_X9_say (lv + 1) 264 l (.int a3 :: .int a2 :: .int a1 :: .int a0 :: .ref b :: []) w = if clK (hg w b) = 8 then (if (Call M_X9_say lv [.ref b, .int a0, .int a1, .int a2, .int a3] w).isSome = true then Ex M_X9_say (lv + 1) 267 l (pushR (cV (Call M_X9_say lv [.ref b, .int a0, .int a1, .int a2, .int a3] w)) []) (cW (Call M_X9_say lv [.ref b, .int a0, .int a1, .int a2, .int a3] w) w) else none) else none)
  ∧ (∀ (lv : Nat) (l : LX) (x : Int32) (w : AH), Ex M_X9_say lv 267 l [.int x] w = some (some (.int x), w))
  ∧ (∀ (lv : Nat) (st : List Value) (t : LX) (x : Nat) (w : AH), Ex M_X9_say lv 268 (some (.ref x) :: t) st w = Ex M_X9_say lv 269 (some (.ref x) :: t) (.ref x :: st) w)
  ∧ (∀ (lv : Nat) (st : List Value) (t : LX) (w : AH), Ex M_X9_say lv 268 (some (.null) :: t) st w = Ex M_X9_say lv 269 (some (.null) :: t) (.null :: st) w)
  ∧ (∀ (lv : Nat) (l : LX) (st : List Value) (w : AH), Ex M_X9_say lv 269 l st w = Ex M_X9_say lv 270 l (.int 3 :: st) w)
  ∧ (∀ (lv : Nat) (l : LX) (st : List Value) (w : AH), Ex M_X9_say lv 270 l st w = Ex M_X9_say lv 271 l (.int 2 :: st) w)
  ∧ (∀ (lv : Nat) (st : List Value) (t : LX) (o0 o1 o2 : Option Value) (x : Int32) (w : AH), Ex M_X9_say lv 271 (o0 :: o1 :: o2 :: some (.int x) :: t) st w = Ex M_X9_say lv 272 (o0 :: o1 :: o2 :: some (.int x) :: t) (.int x :: st) w)
  ∧ (∀ (lv : Nat) (st : List Value) (t : LX) (o0 o1 o2 o3 o4 o5 : Option Value) (x : Int32) (w : AH), Ex M_X9_say lv 272 (o0 :: o1 :: o2 :: o3 :: o4 :: o5 :: some (.int x) :: t) st w = Ex M_X9_say lv 274 (o0 :: o1 :: o2 :: o3 :: o4 :: o5 :: some (.int x) :: t) (.int x :: st) w)
  ∧ (∀ (lv : Nat) (l : LX) (b : Nat) (a0 : Int32) (a1 : Int32) (a2 : Int32) (a3 : Int32) (w : AH), Ex M_X9_say (lv + 1) 274 l (.int a3 :: .int a2 :: .int a1 :: .int a0 :: .ref b :: []) w = if clK (hg w b) = 8 then (if (Call M_X9_say lv [.ref b, .int a0, .int a1, .int a2, .int a3] w).isSome = true then Ex M_X9_say (lv + 1) 277 l (pushR (cV (Call M_X9_say lv [.ref b, .int a0, .int a1, .int a2, .int a3] w)) []) (cW (Call M_X9_say lv [.ref b, .int a0, .int a1, .int a2, .int a3] w) w) else none) else none)
  ∧ (∀ (lv : Nat) (st : List Value) (t : LX) (x : Nat) (w : AH), Ex M_X9_say lv 277 (some (.ref x) :: t) st w = Ex M_X9_say lv 278 (some (.ref x) :: t) (.ref x :: st) w)
  ∧ (∀ (lv : Nat) (st : List Value) (t : LX) (w : AH), Ex M_X9_say lv 277 (some (.null) :: t) st w = Ex M_X9_say lv 278 (some (.null) :: t) (.null :: st) w)
  ∧ (∀ (lv : Nat) (l : LX) (st : List Value) (a : Nat) (w : AH), Ex M_X9_say lv 278 l (.ref a :: st) w = if (gf (hg w a) 8 2).isSome = true then Ex M_X9_say lv 281 l (vV (gf (hg w a) 8 2) :: st) w else none)
  ∧ (∀ (lv : Nat) (l : LX) (st : List Value) (x y : Int32) (w : AH), Ex M_X9_say lv 281 l (.int y :: .int x :: st) w = Ex M_X9_say lv 282 l (.int (x ^^^ y) :: st) w)
  ∧ (∀ (lv : Nat) (l : LX) (x : Int32) (w : AH), Ex M_X9_say lv 282 l [.int x] w = some (some (.int x), w))
  ∧ (∀ (lv : Nat) (st : List Value) (t : LX) (x : Nat) (w : AH), Ex M_X9_say lv 283 (some (.ref x) :: t) st w = Ex M_X9_say lv 284 (some (.ref x) :: t) (.ref x :: st) w)
  ∧ (∀ (lv : Nat) (st : List Value) (t : LX) (w : AH), Ex M_X9_say lv 283 (some (.null) :: t) st w = Ex M_X9_say lv 284 (some (.null) :: t) (.null :: st) w)
  ∧ (∀ (lv : Nat) (st : List Value) (t : LX) (x : Nat) (w : AH), Ex M_X9_say lv 284 (some (.ref x) :: t) st w = Ex M_X9_say lv 285 (some (.ref x) :: t) (.ref x :: st) w)
  ∧ (∀ (lv : Nat) (st : List Value) (t : LX) (w : AH), Ex M_X9_say lv 284 (some (.null) :: t) st w = Ex M_X9_say lv 285 (some (.null) :: t) (.null :: st) w)
  ∧ (∀ (lv : Nat) (l : LX) (st : List Value) (a : Nat) (w : AH), Ex M_X9_say lv 285 l (.ref a :: st) w = if (gf (hg w a) 8 1).isSome = true then Ex M_X9_say lv 288 l (vV (gf (hg w a) 8 1) :: st) w else none)
  ∧ (∀ (lv : Nat) (l : LX) (st : List Value) (w : AH), Ex M_X9_say lv 288 l st w = Ex M_X9_say lv 289 l (.int 1 :: st) w)
  ∧ (∀ (lv : Nat) (st : List Value) (t : LX) (o0 o1 o2 : Option Value) (x : Int32) (w : AH), Ex M_X9_say lv 289 (o0 :: o1 :: o2 :: some (.int x) :: t) st w = Ex M_X9_say lv 290 (o0 :: o1 :: o2 :: some (.int x) :: t) (.int x :: st) w)
  ∧ (∀ (lv : Nat) (st : List Value) (t : LX) (o0 o1 o2 o3 o4 o5 : Option Value) (x : Int32) (w : AH), Ex M_X9_say lv 290 (o0 :: o1 :: o2 :: o3 :: o4 :: o5 :: some (.int x) :: t) st w = Ex M_X9_say lv 292 (o0 :: o1 :: o2 :: o3 :: o4 :: o5 :: some (.int x) :: t) (.int x :: st) w)
  ∧ (∀ (lv : Nat) (l : LX) (b : Nat) (a0 : Int32) (a1 : Int32) (a2 : Int32) (a3 : Int32) (w : AH), Ex M_X9_say (lv + 1) 292 l (.int a3 :: .int a2 :: .int a1 :: .int a0 :: .ref b :: []) w = if clK (hg w b) = 8 then (if (Call M_X9_say lv [.ref b, .int a0, .int a1, .int a2, .int a3] w).isSome = true then Ex M_X9_say (lv + 1) 295 l (pushR (cV (Call M_X9_say lv [.ref b, .int a0, .int a1, .int a2, .int a3] w)) []) (cW (Call M_X9_say lv [.ref b, .int a0, .int a1, .int a2, .int a3] w) w) else none) else none)
  ∧ (∀ (lv : Nat) (st : List Value) (t : LX) (x : Nat) (w : AH), Ex M_X9_say lv 295 (some (.ref x) :: t) st w = Ex M_X9_say lv 296 (some (.ref x) :: t) (.ref x :: st) w)
  ∧ (∀ (lv : Nat) (st : List Value) (t : LX) (w : AH), Ex M_X9_say lv 295 (some (.null) :: t) st w = Ex M_X9_say lv 296 (some (.null) :: t) (.null :: st) w)
  ∧ (∀ (lv : Nat) (l : LX) (st : List Value) (w : AH), Ex M_X9_say lv 296 l st w = Ex M_X9_say lv 297 l (.int 3 :: st) w)
  ∧ (∀ (lv : Nat) (l : LX) (st : List Value) (w : AH), Ex M_X9_say lv 297 l st w = Ex M_X9_say lv 298 l (.int 3 :: st) w)
  ∧ (∀ (lv : Nat) (st : List Value) (t : LX) (o0 o1 o2 : Option Value) (x : Int32) (w : AH), Ex M_X9_say lv 298 (o0 :: o1 :: o2 :: some (.int x) :: t) st w = Ex M_X9_say lv 299 (o0 :: o1 :: o2 :: some (.int x) :: t) (.int x :: st) w)
  ∧ (∀ (lv : Nat) (st : List Value) (t : LX) (o0 o1 o2 o3 o4 o5 : Option Value) (x : Int32) (w : AH), Ex M_X9_say lv 299 (o0 :: o1 :: o2 :: o3 :: o4 :: o5 :: some (.int x) :: t) st w = Ex M_X9_say lv 301 (o0 :: o1 :: o2 :: o3 :: o4 :: o5 :: some (.int x) :: t) (.int x :: st) w)
  ∧ (∀ (lv : Nat) (l : LX) (b : Nat) (a0 : Int32) (a1 : Int32) (a2 : Int32) (a3 : Int32) (s0 : Int32) (w : AH), Ex M_X9_say (lv + 1) 301 l (.int a3 :: .int a2 :: .int a1 :: .int a0 :: .ref b :: [.int s0]) w = if clK (hg w b) = 8 then (if (Call M_X9_say lv [.ref b, .int a0, .int a1, .int a2, .int a3] w).isSome = true then Ex M_X9_say (lv + 1) 304 l (pushR (cV (Call M_X9_say lv [.ref b, .int a0, .int a1, .int a2, .int a3] w)) [.int s0]) (cW (Call M_X9_say lv [.ref b, .int a0, .int a1, .int a2, .int a3] w) w) else none) else none)
  ∧ (∀ (lv : Nat) (l : LX) (st : List Value) (x y : Int32) (w : AH), Ex M_X9_say lv 304 l (.int y :: .int x :: st) w = Ex M_X9_say lv 305 l (.int (x - y) :: st) w)
  ∧ (∀ (lv : Nat) (l : LX) (x : Int32) (w : AH), Ex M_X9_say lv 305 l [.int x] w = some (some (.int x), w))
  ∧ (∀ (lv : Nat) (l : LX) (st : List Value) (w : AH), Ex M_X9_say lv 306 l st w = Ex M_X9_say lv 307 l (.int 0 :: st) w)
  ∧ (∀ (lv : Nat) (l : LX) (x : Int32) (w : AH), Ex M_X9_say lv 307 l [.int x] w = some (some (.int x), w)) :=
  ⟨(fun lv st t x w => Ex_M (i := .aload_n 0) (n := 1) (by decide +kernel) rfl rfl rfl),
   (fun lv st t w => Ex_M (i := .aload_n 0) (n := 1) (by decide +kernel) rfl rfl rfl),
   (fun lv l st w => Ex_A (i := .iconst 2) (n := 1) (by decide +kernel) rfl rfl),
   (fun lv l st w => Ex_A (i := .iconst 1) (n := 1) (by decide +kernel) rfl rfl),
   (fun lv st t o0 o1 o2 x w => Ex_M (i := .iload_n 3) (n := 1) (by decide +kernel) rfl rfl rfl),
   (fun lv l st w => Ex_A (i := .iconst 1) (n := 1) (by decide +kernel) rfl rfl),
   (fun lv l st x y w => Ex_A (i := .iadd) (n := 1) (by decide +kernel) rfl rfl),
   (fun lv st t o0 o1 o2 o3 o4 o5 x w => Ex_M (i := .iload 6) (n := 2) (by decide +kernel) rfl rfl rfl),
   (fun lv l b a0 a1 a2 a3 w => Ex_callV (by decide +kernel : decode M_X9_say.2.1 264 = .ok (.invokevirtual 37, 3)) rfl (by rfl : resM (mCn M_X9_say) 37 = some (2, M_X9_say)) rfl (by rfl) (Nat.le_of_ble_eq_true rfl) (by decide +kernel) (sLv_eq (by decide +kernel))),
   (fun lv l x w => Ex_R (i := .ireturn) (n := 1) (by decide +kernel) rfl rfl rfl rfl rfl),
   (fun lv st t x w => Ex_M (i := .aload_n 0) (n := 1) (by decide +kernel) rfl rfl rfl),
   (fun lv st t w => Ex_M (i := .aload_n 0) (n := 1) (by decide +kernel) rfl rfl rfl),
   (fun lv l st w => Ex_A (i := .iconst 3) (n := 1) (by decide +kernel) rfl rfl),
   (fun lv l st w => Ex_A (i := .iconst 2) (n := 1) (by decide +kernel) rfl rfl),
   (fun lv st t o0 o1 o2 x w => Ex_M (i := .iload_n 3) (n := 1) (by decide +kernel) rfl rfl rfl),
   (fun lv st t o0 o1 o2 o3 o4 o5 x w => Ex_M (i := .iload 6) (n := 2) (by decide +kernel) rfl rfl rfl),
   (fun lv l b a0 a1 a2 a3 w => Ex_callV (by decide +kernel : decode M_X9_say.2.1 274 = .ok (.invokevirtual 37, 3)) rfl (by rfl : resM (mCn M_X9_say) 37 = some (2, M_X9_say)) rfl (by rfl) (Nat.le_of_ble_eq_true rfl) (by decide +kernel) (sLv_eq (by decide +kernel))),
   (fun lv st t x w => Ex_M (i := .aload_n 0) (n := 1) (by decide +kernel) rfl rfl rfl),
   (fun lv st t w => Ex_M (i := .aload_n 0) (n := 1) (by decide +kernel) rfl rfl rfl),
   (fun lv l st a w => Ex_getf (by decide +kernel : decode M_X9_say.2.1 278 = .ok (.getfield 24, 3)) rfl (by decide +kernel : resF (mCn M_X9_say) 24 = some (8, 2, .int, false))),
   (fun lv l st x y w => Ex_A (i := .ixor) (n := 1) (by decide +kernel) rfl rfl),
   (fun lv l x w => Ex_R (i := .ireturn) (n := 1) (by decide +kernel) rfl rfl rfl rfl rfl),
   (fun lv st t x w => Ex_M (i := .aload_n 0) (n := 1) (by decide +kernel) rfl rfl rfl),
   (fun lv st t w => Ex_M (i := .aload_n 0) (n := 1) (by decide +kernel) rfl rfl rfl),
   (fun lv st t x w => Ex_M (i := .aload_n 0) (n := 1) (by decide +kernel) rfl rfl rfl),
   (fun lv st t w => Ex_M (i := .aload_n 0) (n := 1) (by decide +kernel) rfl rfl rfl),
   (fun lv l st a w => Ex_getf (by decide +kernel : decode M_X9_say.2.1 285 = .ok (.getfield 20, 3)) rfl (by decide +kernel : resF (mCn M_X9_say) 20 = some (8, 1, .int, false))),
   (fun lv l st w => Ex_A (i := .iconst 1) (n := 1) (by decide +kernel) rfl rfl),
   (fun lv st t o0 o1 o2 x w => Ex_M (i := .iload_n 3) (n := 1) (by decide +kernel) rfl rfl rfl),
   (fun lv st t o0 o1 o2 o3 o4 o5 x w => Ex_M (i := .iload 6) (n := 2) (by decide +kernel) rfl rfl rfl),
   (fun lv l b a0 a1 a2 a3 w => Ex_callV (by decide +kernel : decode M_X9_say.2.1 292 = .ok (.invokevirtual 37, 3)) rfl (by rfl : resM (mCn M_X9_say) 37 = some (2, M_X9_say)) rfl (by rfl) (Nat.le_of_ble_eq_true rfl) (by decide +kernel) (sLv_eq (by decide +kernel))),
   (fun lv st t x w => Ex_M (i := .aload_n 0) (n := 1) (by decide +kernel) rfl rfl rfl),
   (fun lv st t w => Ex_M (i := .aload_n 0) (n := 1) (by decide +kernel) rfl rfl rfl),
   (fun lv l st w => Ex_A (i := .iconst 3) (n := 1) (by decide +kernel) rfl rfl),
   (fun lv l st w => Ex_A (i := .iconst 3) (n := 1) (by decide +kernel) rfl rfl),
   (fun lv st t o0 o1 o2 x w => Ex_M (i := .iload_n 3) (n := 1) (by decide +kernel) rfl rfl rfl),
   (fun lv st t o0 o1 o2 o3 o4 o5 x w => Ex_M (i := .iload 6) (n := 2) (by decide +kernel) rfl rfl rfl),
   (fun lv l b a0 a1 a2 a3 s0 w => Ex_callV (by decide +kernel : decode M_X9_say.2.1 301 = .ok (.invokevirtual 37, 3)) rfl (by rfl : resM (mCn M_X9_say) 37 = some (2, M_X9_say)) rfl (by rfl) (Nat.le_of_ble_eq_true rfl) (by decide +kernel) (sLv_eq (by decide +kernel))),
   (fun lv l st x y w => Ex_A (i := .isub) (n := 1) (by decide +kernel) rfl rfl),
   (fun lv l x w => Ex_R (i := .ireturn) (n := 1) (by decide +kernel) rfl rfl rfl rfl rfl),
   (fun lv l st w => Ex_A (i := .iconst 0) (n := 1) (by decide +kernel) rfl rfl),
   (fun lv l x w => Ex_R (i := .ireturn) (n := 1) (by decide +kernel) rfl rfl rfl rfl rfl)⟩
-- R_X9_say: p0 to p2
set_option maxRecDepth 20000 in
set_option maxHeartbeats 4000000 in
theorem R_X10_init : (∀ (lv : Nat) (st : List Value) (t : LX) (x : Nat) (w : AH), Ex M_X10_init lv 0 (some (.ref x) :: t) st w = Ex M_X10_init lv 1 (some (.ref x) :: t) (.ref x :: st) w)
  ∧ (∀ (lv : Nat) (st : List Value) (t : LX) (w : AH), Ex M_X10_init lv 0 (some (.null) :: t) st w = Ex M_X10_init lv 1 (some (.null) :: t) (.null :: st) w)
  ∧ (∀ (lv : Nat) (l : LX) (b : Nat) (w : AH), Ex M_X10_init lv 1 l (.ref b :: []) w = Ex M_X10_init lv 4 l [] w)
  ∧ (∀ (lv : Nat) (st : List Value) (t : LX) (x : Nat) (w : AH), Ex M_X10_init lv 4 (some (.ref x) :: t) st w = Ex M_X10_init lv 5 (some (.ref x) :: t) (.ref x :: st) w)
  ∧ (∀ (lv : Nat) (st : List Value) (t : LX) (w : AH), Ex M_X10_init lv 4 (some (.null) :: t) st w = Ex M_X10_init lv 5 (some (.null) :: t) (.null :: st) w)
  ∧ (∀ (lv : Nat) (l : LX) (st : List Value) (w : AH), Ex M_X10_init lv 5 l st w = Ex M_X10_init lv 6 l (.int 0 :: st) w)
  ∧ (∀ (lv : Nat) (l : LX) (st : List Value) (a : Nat) (v : Value) (w : AH), Ex M_X10_init lv 6 l (v :: .ref a :: st) w = if (pf (hg w a) 9 0 .int v).isSome = true then Ex M_X10_init lv 9 l st (hs w a (vE (pf (hg w a) 9 0 .int v))) else none)
  ∧ (∀ (lv : Nat) (st : List Value) (t : LX) (x : Nat) (w : AH), Ex M_X10_init lv 9 (some (.ref x) :: t) st w = Ex M_X10_init lv 10 (some (.ref x) :: t) (.ref x :: st) w)
  ∧ (∀ (lv : Nat) (st : List Value) (t : LX) (w : AH), Ex M_X10_init lv 9 (some (.null) :: t) st w = Ex M_X10_init lv 10 (some (.null) :: t) (.null :: st) w)
  ∧ (∀ (lv : Nat) (l : LX) (st : List Value) (w : AH), Ex M_X10_init lv 10 l st w = Ex M_X10_init lv 11 l (.int 0 :: st) w)
  ∧ (∀ (lv : Nat) (l : LX) (st : List Value) (a : Nat) (v : Value) (w : AH), Ex M_X10_init lv 11 l (v :: .ref a :: st) w = if (pf (hg w a) 9 1 .int v).isSome = true then Ex M_X10_init lv 14 l st (hs w a (vE (pf (hg w a) 9 1 .int v))) else none)
  ∧ (∀ (lv : Nat) (st : List Value) (t : LX) (x : Nat) (w : AH), Ex M_X10_init lv 14 (some (.ref x) :: t) st w = Ex M_X10_init lv 15 (some (.ref x) :: t) (.ref x :: st) w)
  ∧ (∀ (lv : Nat) (st : List Value) (t : LX) (w : AH), Ex M_X10_init lv 14 (some (.null) :: t) st w = Ex M_X10_init lv 15 (some (.null) :: t) (.null :: st) w)
  ∧ (∀ (lv : Nat) (l : LX) (st : List Value) (w : AH), Ex M_X10_init lv 15 l st w = Ex M_X10_init lv 16 l (.int 0 :: st) w)
  ∧ (∀ (lv : Nat) (l : LX) (st : List Value) (a : Nat) (v : Value) (w : AH), Ex M_X10_init lv 16 l (v :: .ref a :: st) w = if (pf (hg w a) 9 2 .int v).isSome = true then Ex M_X10_init lv 19 l st (hs w a (vE (pf (hg w a) 9 2 .int v))) else none)
  ∧ (∀ (lv : Nat) (st : List Value) (t : LX) (x : Nat) (w : AH), Ex M_X10_init lv 19 (some (.ref x) :: t) st w = Ex M_X10_init lv 20 (some (.ref x) :: t) (.ref x :: st) w)
  ∧ (∀ (lv : Nat) (st : List Value) (t : LX) (w : AH), Ex M_X10_init lv 19 (some (.null) :: t) st w = Ex M_X10_init lv 20 (some (.null) :: t) (.null :: st) w)
  ∧ (∀ (lv : Nat) (l : LX) (st : List Value) (w : AH), Ex M_X10_init lv 20 l st w = Ex M_X10_init lv 21 l (.int 1 :: st) w)
  ∧ (∀ (lv : Nat) (l : LX) (st : List Value) (a : Nat) (v : Value) (w : AH), Ex M_X10_init lv 21 l (v :: .ref a :: st) w = if (pf (hg w a) 9 3 .int v).isSome = true then Ex M_X10_init lv 24 l st (hs w a (vE (pf (hg w a) 9 3 .int v))) else none)
  ∧ (∀ (lv : Nat) (l : LX) (w : AH), Ex M_X10_init lv 24 l [] w = some (none, w)) :=
  ⟨(fun lv st t x w => Ex_M (i := .aload_n 0) (n := 1) (by decide +kernel) rfl rfl rfl),
   (fun lv st t w => Ex_M (i := .aload_n 0) (n := 1) (by decide +kernel) rfl rfl rfl),
   (fun lv l b w => Ex_oinit (by decide +kernel : decode M_X10_init.2.1 1 = .ok (.invokespecial 3, 3)) rfl (by rfl : resM (mCn M_X10_init) 3 = some (6, M_X0_init)) (by rfl)),
   (fun lv st t x w => Ex_M (i := .aload_n 0) (n := 1) (by decide +kernel) rfl rfl rfl),
   (fun lv st t w => Ex_M (i := .aload_n 0) (n := 1) (by decide +kernel) rfl rfl rfl),
   (fun lv l st w => Ex_A (i := .iconst 0) (n := 1) (by decide +kernel) rfl rfl),
   (fun lv l st a v w => Ex_putf (by decide +kernel : decode M_X10_init.2.1 6 = .ok (.putfield 9, 3)) rfl (by decide +kernel : resF (mCn M_X10_init) 9 = some (9, 0, .int, false)) (by decide +kernel)),
   (fun lv st t x w => Ex_M (i := .aload_n 0) (n := 1) (by decide +kernel) rfl rfl rfl),
   (fun lv st t w => Ex_M (i := .aload_n 0) (n := 1) (by decide +kernel) rfl rfl rfl),
   (fun lv l st w => Ex_A (i := .iconst 0) (n := 1) (by decide +kernel) rfl rfl),
   (fun lv l st a v w => Ex_putf (by decide +kernel : decode M_X10_init.2.1 11 = .ok (.putfield 15, 3)) rfl (by decide +kernel : resF (mCn M_X10_init) 15 = some (9, 1, .int, false)) (by decide +kernel)),
   (fun lv st t x w => Ex_M (i := .aload_n 0) (n := 1) (by decide +kernel) rfl rfl rfl),
   (fun lv st t w => Ex_M (i := .aload_n 0) (n := 1) (by decide +kernel) rfl rfl rfl),
   (fun lv l st w => Ex_A (i := .iconst 0) (n := 1) (by decide +kernel) rfl rfl),
   (fun lv l st a v w => Ex_putf (by decide +kernel : decode M_X10_init.2.1 16 = .ok (.putfield 18, 3)) rfl (by decide +kernel : resF (mCn M_X10_init) 18 = some (9, 2, .int, false)) (by decide +kernel)),
   (fun lv st t x w => Ex_M (i := .aload_n 0) (n := 1) (by decide +kernel) rfl rfl rfl),
   (fun lv st t w => Ex_M (i := .aload_n 0) (n := 1) (by decide +kernel) rfl rfl rfl),
   (fun lv l st w => Ex_A (i := .iconst 1) (n := 1) (by decide +kernel) rfl rfl),
   (fun lv l st a v w => Ex_putf (by decide +kernel : decode M_X10_init.2.1 21 = .ok (.putfield 21, 3)) rfl (by decide +kernel : resF (mCn M_X10_init) 21 = some (9, 3, .int, false)) (by decide +kernel)),
   (fun lv l w => Ex_R (i := .return_) (n := 1) (by decide +kernel) rfl rfl rfl rfl rfl)⟩
set_option maxRecDepth 20000 in
set_option maxHeartbeats 4000000 in
theorem R_X10_copyFrom : (∀ (lv : Nat) (st : List Value) (t : LX) (x : Nat) (w : AH), Ex M_X10_copyFrom lv 0 (some (.ref x) :: t) st w = Ex M_X10_copyFrom lv 1 (some (.ref x) :: t) (.ref x :: st) w)
  ∧ (∀ (lv : Nat) (st : List Value) (t : LX) (w : AH), Ex M_X10_copyFrom lv 0 (some (.null) :: t) st w = Ex M_X10_copyFrom lv 1 (some (.null) :: t) (.null :: st) w)
  ∧ (∀ (lv : Nat) (st : List Value) (t : LX) (o0 : Option Value) (x : Nat) (w : AH), Ex M_X10_copyFrom lv 1 (o0 :: some (.ref x) :: t) st w = Ex M_X10_copyFrom lv 2 (o0 :: some (.ref x) :: t) (.ref x :: st) w)
  ∧ (∀ (lv : Nat) (st : List Value) (t : LX) (o0 : Option Value) (w : AH), Ex M_X10_copyFrom lv 1 (o0 :: some (.null) :: t) st w = Ex M_X10_copyFrom lv 2 (o0 :: some (.null) :: t) (.null :: st) w)
  ∧ (∀ (lv : Nat) (l : LX) (st : List Value) (a : Nat) (w : AH), Ex M_X10_copyFrom lv 2 l (.ref a :: st) w = if (gf (hg w a) 9 0).isSome = true then Ex M_X10_copyFrom lv 5 l (vV (gf (hg w a) 9 0) :: st) w else none)
  ∧ (∀ (lv : Nat) (l : LX) (st : List Value) (a : Nat) (v : Value) (w : AH), Ex M_X10_copyFrom lv 5 l (v :: .ref a :: st) w = if (pf (hg w a) 9 0 .int v).isSome = true then Ex M_X10_copyFrom lv 8 l st (hs w a (vE (pf (hg w a) 9 0 .int v))) else none)
  ∧ (∀ (lv : Nat) (st : List Value) (t : LX) (x : Nat) (w : AH), Ex M_X10_copyFrom lv 8 (some (.ref x) :: t) st w = Ex M_X10_copyFrom lv 9 (some (.ref x) :: t) (.ref x :: st) w)
  ∧ (∀ (lv : Nat) (st : List Value) (t : LX) (w : AH), Ex M_X10_copyFrom lv 8 (some (.null) :: t) st w = Ex M_X10_copyFrom lv 9 (some (.null) :: t) (.null :: st) w)
  ∧ (∀ (lv : Nat) (st : List Value) (t : LX) (o0 : Option Value) (x : Nat) (w : AH), Ex M_X10_copyFrom lv 9 (o0 :: some (.ref x) :: t) st w = Ex M_X10_copyFrom lv 10 (o0 :: some (.ref x) :: t) (.ref x :: st) w)
  ∧ (∀ (lv : Nat) (st : List Value) (t : LX) (o0 : Option Value) (w : AH), Ex M_X10_copyFrom lv 9 (o0 :: some (.null) :: t) st w = Ex M_X10_copyFrom lv 10 (o0 :: some (.null) :: t) (.null :: st) w)
  ∧ (∀ (lv : Nat) (l : LX) (st : List Value) (a : Nat) (w : AH), Ex M_X10_copyFrom lv 10 l (.ref a :: st) w = if (gf (hg w a) 9 1).isSome = true then Ex M_X10_copyFrom lv 13 l (vV (gf (hg w a) 9 1) :: st) w else none)
  ∧ (∀ (lv : Nat) (l : LX) (st : List Value) (a : Nat) (v : Value) (w : AH), Ex M_X10_copyFrom lv 13 l (v :: .ref a :: st) w = if (pf (hg w a) 9 1 .int v).isSome = true then Ex M_X10_copyFrom lv 16 l st (hs w a (vE (pf (hg w a) 9 1 .int v))) else none)
  ∧ (∀ (lv : Nat) (st : List Value) (t : LX) (x : Nat) (w : AH), Ex M_X10_copyFrom lv 16 (some (.ref x) :: t) st w = Ex M_X10_copyFrom lv 17 (some (.ref x) :: t) (.ref x :: st) w)
  ∧ (∀ (lv : Nat) (st : List Value) (t : LX) (w : AH), Ex M_X10_copyFrom lv 16 (some (.null) :: t) st w = Ex M_X10_copyFrom lv 17 (some (.null) :: t) (.null :: st) w)
  ∧ (∀ (lv : Nat) (st : List Value) (t : LX) (o0 : Option Value) (x : Nat) (w : AH), Ex M_X10_copyFrom lv 17 (o0 :: some (.ref x) :: t) st w = Ex M_X10_copyFrom lv 18 (o0 :: some (.ref x) :: t) (.ref x :: st) w)
  ∧ (∀ (lv : Nat) (st : List Value) (t : LX) (o0 : Option Value) (w : AH), Ex M_X10_copyFrom lv 17 (o0 :: some (.null) :: t) st w = Ex M_X10_copyFrom lv 18 (o0 :: some (.null) :: t) (.null :: st) w)
  ∧ (∀ (lv : Nat) (l : LX) (st : List Value) (a : Nat) (w : AH), Ex M_X10_copyFrom lv 18 l (.ref a :: st) w = if (gf (hg w a) 9 2).isSome = true then Ex M_X10_copyFrom lv 21 l (vV (gf (hg w a) 9 2) :: st) w else none)
  ∧ (∀ (lv : Nat) (l : LX) (st : List Value) (a : Nat) (v : Value) (w : AH), Ex M_X10_copyFrom lv 21 l (v :: .ref a :: st) w = if (pf (hg w a) 9 2 .int v).isSome = true then Ex M_X10_copyFrom lv 24 l st (hs w a (vE (pf (hg w a) 9 2 .int v))) else none)
  ∧ (∀ (lv : Nat) (st : List Value) (t : LX) (x : Nat) (w : AH), Ex M_X10_copyFrom lv 24 (some (.ref x) :: t) st w = Ex M_X10_copyFrom lv 25 (some (.ref x) :: t) (.ref x :: st) w)
  ∧ (∀ (lv : Nat) (st : List Value) (t : LX) (w : AH), Ex M_X10_copyFrom lv 24 (some (.null) :: t) st w = Ex M_X10_copyFrom lv 25 (some (.null) :: t) (.null :: st) w)
  ∧ (∀ (lv : Nat) (st : List Value) (t : LX) (o0 : Option Value) (x : Nat) (w : AH), Ex M_X10_copyFrom lv 25 (o0 :: some (.ref x) :: t) st w = Ex M_X10_copyFrom lv 26 (o0 :: some (.ref x) :: t) (.ref x :: st) w)
  ∧ (∀ (lv : Nat) (st : List Value) (t : LX) (o0 : Option Value) (w : AH), Ex M_X10_copyFrom lv 25 (o0 :: some (.null) :: t) st w = Ex M_X10_copyFrom lv 26 (o0 :: some (.null) :: t) (.null :: st) w)
  ∧ (∀ (lv : Nat) (l : LX) (st : List Value) (a : Nat) (w : AH), Ex M_X10_copyFrom lv 26 l (.ref a :: st) w = if (gf (hg w a) 9 3).isSome = true then Ex M_X10_copyFrom lv 29 l (vV (gf (hg w a) 9 3) :: st) w else none)
  ∧ (∀ (lv : Nat) (l : LX) (st : List Value) (a : Nat) (v : Value) (w : AH), Ex M_X10_copyFrom lv 29 l (v :: .ref a :: st) w = if (pf (hg w a) 9 3 .int v).isSome = true then Ex M_X10_copyFrom lv 32 l st (hs w a (vE (pf (hg w a) 9 3 .int v))) else none)
  ∧ (∀ (lv : Nat) (l : LX) (w : AH), Ex M_X10_copyFrom lv 32 l [] w = some (none, w)) :=
  ⟨(fun lv st t x w => Ex_M (i := .aload_n 0) (n := 1) (by decide +kernel) rfl rfl rfl),
   (fun lv st t w => Ex_M (i := .aload_n 0) (n := 1) (by decide +kernel) rfl rfl rfl),
   (fun lv st t o0 x w => Ex_M (i := .aload_n 1) (n := 1) (by decide +kernel) rfl rfl rfl),
   (fun lv st t o0 w => Ex_M (i := .aload_n 1) (n := 1) (by decide +kernel) rfl rfl rfl),
   (fun lv l st a w => Ex_getf (by decide +kernel : decode M_X10_copyFrom.2.1 2 = .ok (.getfield 9, 3)) rfl (by decide +kernel : resF (mCn M_X10_copyFrom) 9 = some (9, 0, .int, false))),
   (fun lv l st a v w => Ex_putf (by decide +kernel : decode M_X10_copyFrom.2.1 5 = .ok (.putfield 9, 3)) rfl (by decide +kernel : resF (mCn M_X10_copyFrom) 9 = some (9, 0, .int, false)) (by decide +kernel)),
   (fun lv st t x w => Ex_M (i := .aload_n 0) (n := 1) (by decide +kernel) rfl rfl rfl),
   (fun lv st t w => Ex_M (i := .aload_n 0) (n := 1) (by decide +kernel) rfl rfl rfl),
   (fun lv st t o0 x w => Ex_M (i := .aload_n 1) (n := 1) (by decide +kernel) rfl rfl rfl),
   (fun lv st t o0 w => Ex_M (i := .aload_n 1) (n := 1) (by decide +kernel) rfl rfl rfl),
   (fun lv l st a w => Ex_getf (by decide +kernel : decode M_X10_copyFrom.2.1 10 = .ok (.getfield 15, 3)) rfl (by decide +kernel : resF (mCn M_X10_copyFrom) 15 = some (9, 1, .int, false))),
   (fun lv l st a v w => Ex_putf (by decide +kernel : decode M_X10_copyFrom.2.1 13 = .ok (.putfield 15, 3)) rfl (by decide +kernel : resF (mCn M_X10_copyFrom) 15 = some (9, 1, .int, false)) (by decide +kernel)),
   (fun lv st t x w => Ex_M (i := .aload_n 0) (n := 1) (by decide +kernel) rfl rfl rfl),
   (fun lv st t w => Ex_M (i := .aload_n 0) (n := 1) (by decide +kernel) rfl rfl rfl),
   (fun lv st t o0 x w => Ex_M (i := .aload_n 1) (n := 1) (by decide +kernel) rfl rfl rfl),
   (fun lv st t o0 w => Ex_M (i := .aload_n 1) (n := 1) (by decide +kernel) rfl rfl rfl),
   (fun lv l st a w => Ex_getf (by decide +kernel : decode M_X10_copyFrom.2.1 18 = .ok (.getfield 18, 3)) rfl (by decide +kernel : resF (mCn M_X10_copyFrom) 18 = some (9, 2, .int, false))),
   (fun lv l st a v w => Ex_putf (by decide +kernel : decode M_X10_copyFrom.2.1 21 = .ok (.putfield 18, 3)) rfl (by decide +kernel : resF (mCn M_X10_copyFrom) 18 = some (9, 2, .int, false)) (by decide +kernel)),
   (fun lv st t x w => Ex_M (i := .aload_n 0) (n := 1) (by decide +kernel) rfl rfl rfl),
   (fun lv st t w => Ex_M (i := .aload_n 0) (n := 1) (by decide +kernel) rfl rfl rfl),
   (fun lv st t o0 x w => Ex_M (i := .aload_n 1) (n := 1) (by decide +kernel) rfl rfl rfl),
   (fun lv st t o0 w => Ex_M (i := .aload_n 1) (n := 1) (by decide +kernel) rfl rfl rfl),
   (fun lv l st a w => Ex_getf (by decide +kernel : decode M_X10_copyFrom.2.1 26 = .ok (.getfield 21, 3)) rfl (by decide +kernel : resF (mCn M_X10_copyFrom) 21 = some (9, 3, .int, false))),
   (fun lv l st a v w => Ex_putf (by decide +kernel : decode M_X10_copyFrom.2.1 29 = .ok (.putfield 21, 3)) rfl (by decide +kernel : resF (mCn M_X10_copyFrom) 21 = some (9, 3, .int, false)) (by decide +kernel)),
   (fun lv l w => Ex_R (i := .return_) (n := 1) (by decide +kernel) rfl rfl rfl rfl rfl)⟩
set_option maxRecDepth 20000 in
set_option maxHeartbeats 4000000 in
theorem R_X10_kindAbove : (∀ (lv : Nat) (st : List Value) (t : LX) (x : Int32) (w : AH), Ex M_X10_kindAbove lv 0 (some (.int x) :: t) st w = Ex M_X10_kindAbove lv 1 (some (.int x) :: t) (.int x :: st) w)
  ∧ (∀ (lv : Nat) (l : LX) (st : List Value) (w : AH), Ex M_X10_kindAbove lv 1 l st w = Ex M_X10_kindAbove lv 2 l (.int 0 :: st) w)
  ∧ (∀ (lv : Nat) (l : LX) (st : List Value) (w : AH), Ex M_X10_kindAbove lv 2 l st w = Ex M_X10_kindAbove lv 4 l (.int 6 :: st) w)
  ∧ (∀ (lv : Nat) (l : LX) (a0 : Int32) (a1 : Int32) (a2 : Int32) (w : AH), Ex M_X10_kindAbove lv 4 l (.int a2 :: .int a1 :: .int a0 :: []) w = if (Call M_X11_isWithin 60 [.int a0, .int a1, .int a2] w).isSome = true then Ex M_X10_kindAbove lv 7 l (pushR (cV (Call M_X11_isWithin 60 [.int a0, .int a1, .int a2] w)) []) (cW (Call M_X11_isWithin 60 [.int a0, .int a1, .int a2] w) w) else none)
  ∧ (∀ (lv : Nat) (l : LX) (st : List Value) (x : Int32) (w : AH), Ex M_X10_kindAbove lv 7 l (.int x :: st) w = if x = 0 then Ex M_X10_kindAbove lv 18 l st w else Ex M_X10_kindAbove lv 10 l st w)
  ∧ (∀ (lv : Nat) (l : LX) (st : List Value) (w : AH), Ex M_X10_kindAbove lv 10 l st w = Ex M_X10_kindAbove lv 13 l (.ref 1 :: st) w)
  ∧ (∀ (lv : Nat) (st : List Value) (t : LX) (x : Int32) (w : AH), Ex M_X10_kindAbove lv 13 (some (.int x) :: t) st w = Ex M_X10_kindAbove lv 14 (some (.int x) :: t) (.int x :: st) w)
  ∧ (∀ (lv : Nat) (l : LX) (st : List Value) (a : Nat) (i : Int32) (w : AH), Ex M_X10_kindAbove lv 14 l (.int i :: .ref a :: st) w = if (aI (hg w a) i).isSome = true then Ex M_X10_kindAbove lv 15 l (.int (vI (aI (hg w a) i)) :: st) w else none)
  ∧ (∀ (lv : Nat) (l : LX) (st : List Value) (w : AH), Ex M_X10_kindAbove lv 15 l st w = Ex M_X10_kindAbove lv 19 l st w)
  ∧ (∀ (lv : Nat) (l : LX) (st : List Value) (w : AH), Ex M_X10_kindAbove lv 18 l st w = Ex M_X10_kindAbove lv 19 l (.int (-1) :: st) w)
  ∧ (∀ (lv : Nat) (l : LX) (x : Int32) (w : AH), Ex M_X10_kindAbove lv 19 l [.int x] w = some (some (.int x), w)) :=
  ⟨(fun lv st t x w => Ex_M (i := .iload_n 0) (n := 1) (by decide +kernel) rfl rfl rfl),
   (fun lv l st w => Ex_A (i := .iconst 0) (n := 1) (by decide +kernel) rfl rfl),
   (fun lv l st w => Ex_A (i := .bipush 6) (n := 2) (by decide +kernel) rfl rfl),
   (fun lv l a0 a1 a2 w => Ex_callS (by decide +kernel : decode M_X10_kindAbove.2.1 4 = .ok (.invokestatic 24, 3)) rfl (by rfl : resM (mCn M_X10_kindAbove) 24 = some (1, M_X11_isWithin)) (by decide) rfl (by rfl) (Nat.le_of_ble_eq_true rfl) (sLv_lt (by decide +kernel))),
   (fun lv l st x w => Ex_if_eq (by decide +kernel : decode M_X10_kindAbove.2.1 7 = .ok (.ifCond .eq 11, 3)) rfl rfl),
   (fun lv l st w => Ex_gets (by decide +kernel : decode M_X10_kindAbove.2.1 10 = .ok (.getstatic 28, 3)) rfl (by decide +kernel)),
   (fun lv st t x w => Ex_M (i := .iload_n 0) (n := 1) (by decide +kernel) rfl rfl rfl),
   (fun lv l st a i w => Ex_ial (by decide +kernel : decode M_X10_kindAbove.2.1 14 = .ok (.iaload, 1)) rfl),
   (fun lv l st w => Ex_goto (by decide +kernel : decode M_X10_kindAbove.2.1 15 = .ok (.goto 4, 3)) rfl),
   (fun lv l st w => Ex_A (i := .iconst (-1)) (n := 1) (by decide +kernel) rfl rfl),
   (fun lv l x w => Ex_R (i := .ireturn) (n := 1) (by decide +kernel) rfl rfl rfl rfl rfl)⟩
set_option maxRecDepth 20000 in
theorem H_X10_isOf_7 : ∀ (lv : Nat) (st : List Value) (t : LX) (o0 o1 o2 : Option Value) (x : Int32) (w : AH), Ex M_X10_isOf lv 7 (o0 :: o1 :: o2 :: some (.int x) :: t) st w = Ex M_X10_isOf lv 8 (o0 :: o1 :: o2 :: some (.int x) :: t) (.int x :: st) w := fun lv st t o0 o1 o2 x w => Ex_M (i := .iload_n 3) (n := 1) (by decide +kernel) rfl rfl rfl
set_option maxRecDepth 20000 in
set_option maxHeartbeats 4000000 in
theorem R_X10_isOf : (∀ (lv : Nat) (st : List Value) (t : LX) (x : Nat) (w : AH), Ex M_X10_isOf lv 0 (some (.ref x) :: t) st w = Ex M_X10_isOf lv 1 (some (.ref x) :: t) (.ref x :: st) w)
  ∧ (∀ (lv : Nat) (st : List Value) (t : LX) (w : AH), Ex M_X10_isOf lv 0 (some (.null) :: t) st w = Ex M_X10_isOf lv 1 (some (.null) :: t) (.null :: st) w)
  ∧ (∀ (lv : Nat) (l : LX) (st : List Value) (a : Nat) (w : AH), Ex M_X10_isOf lv 1 l (.ref a :: st) w = if (gf (hg w a) 9 0).isSome = true then Ex M_X10_isOf lv 4 l (vV (gf (hg w a) 9 0) :: st) w else none)
  ∧ (∀ (lv : Nat) (l : LX) (st : List Value) (x : Int32) (w : AH), Ex M_X10_isOf lv 4 l (.int x :: st) w = Ex M_X10_isOf lv 5 (ls1 l 2 (.int x)) st w)
  ∧ (∀ (lv : Nat) (l : LX) (st : List Value) (w : AH), Ex M_X10_isOf lv 5 l st w = Ex M_X10_isOf lv 6 l (.int 0 :: st) w)
  ∧ (∀ (lv : Nat) (l : LX) (st : List Value) (x : Int32) (w : AH), Ex M_X10_isOf lv 6 l (.int x :: st) w = Ex M_X10_isOf lv 7 (ls1 l 3 (.int x)) st w)
  ∧ (∀ (lv : Nat) (l : LX) (st : List Value) (w : AH), Ex M_X10_isOf lv 8 l st w = Ex M_X10_isOf lv 10 l (.int 7 :: st) w)
  ∧ (∀ (lv : Nat) (l : LX) (st : List Value) (x y : Int32) (w : AH), Ex M_X10_isOf lv 10 l (.int y :: .int x :: st) w = if y ≤ x then Ex M_X10_isOf lv 35 l st w else Ex M_X10_isOf lv 13 l st w)
  ∧ (∀ (lv : Nat) (st : List Value) (t : LX) (o0 o1 : Option Value) (x : Int32) (w : AH), Ex M_X10_isOf lv 13 (o0 :: o1 :: some (.int x) :: t) st w = Ex M_X10_isOf lv 14 (o0 :: o1 :: some (.int x) :: t) (.int x :: st) w)
  ∧ (∀ (lv : Nat) (l : LX) (st : List Value) (x : Int32) (w : AH), Ex M_X10_isOf lv 14 l (.int x :: st) w = if x < 0 then Ex M_X10_isOf lv 35 l st w else Ex M_X10_isOf lv 17 l st w)
  ∧ (∀ (lv : Nat) (st : List Value) (t : LX) (o0 o1 : Option Value) (x : Int32) (w : AH), Ex M_X10_isOf lv 17 (o0 :: o1 :: some (.int x) :: t) st w = Ex M_X10_isOf lv 18 (o0 :: o1 :: some (.int x) :: t) (.int x :: st) w)
  ∧ (∀ (lv : Nat) (st : List Value) (t : LX) (o0 : Option Value) (x : Int32) (w : AH), Ex M_X10_isOf lv 18 (o0 :: some (.int x) :: t) st w = Ex M_X10_isOf lv 19 (o0 :: some (.int x) :: t) (.int x :: st) w)
  ∧ (∀ (lv : Nat) (l : LX) (st : List Value) (x y : Int32) (w : AH), Ex M_X10_isOf lv 19 l (.int y :: .int x :: st) w = if ¬ x = y then Ex M_X10_isOf lv 24 l st w else Ex M_X10_isOf lv 22 l st w)
  ∧ (∀ (lv : Nat) (l : LX) (st : List Value) (w : AH), Ex M_X10_isOf lv 22 l st w = Ex M_X10_isOf lv 23 l (.int 1 :: st) w)
  ∧ (∀ (lv : Nat) (l : LX) (x : Int32) (w : AH), Ex M_X10_isOf lv 23 l [.int x] w = if x = 0 ∨ x = 1 then some (some (.int x), w) else none)
  ∧ (∀ (lv : Nat) (st : List Value) (t : LX) (o0 o1 : Option Value) (x : Int32) (w : AH), Ex M_X10_isOf lv 24 (o0 :: o1 :: some (.int x) :: t) st w = Ex M_X10_isOf lv 25 (o0 :: o1 :: some (.int x) :: t) (.int x :: st) w)
  ∧ (∀ (lv : Nat) (l : LX) (a0 : Int32) (w : AH), Ex M_X10_isOf lv 25 l (.int a0 :: []) w = if (Call M_X10_kindAbove 60 [.int a0] w).isSome = true then Ex M_X10_isOf lv 28 l (pushR (cV (Call M_X10_kindAbove 60 [.int a0] w)) []) (cW (Call M_X10_kindAbove 60 [.int a0] w) w) else none)
  ∧ (∀ (lv : Nat) (l : LX) (st : List Value) (x : Int32) (w : AH), Ex M_X10_isOf lv 28 l (.int x :: st) w = Ex M_X10_isOf lv 29 (ls1 l 2 (.int x)) st w)
  ∧ (∀ (lv : Nat) (st : List Value) (t : LX) (o0 o1 o2 : Option Value) (x : Int32) (w : AH), Ex M_X10_isOf lv 29 (o0 :: o1 :: o2 :: some (.int x) :: t) st w = Ex M_X10_isOf lv 32 (ls1 (o0 :: o1 :: o2 :: some (.int x) :: t) 3 (.int (x + 1))) st w)
  ∧ (∀ (lv : Nat) (l : LX) (st : List Value) (w : AH), Ex M_X10_isOf lv 32 l st w = Ex M_X10_isOf lv 7 l st w)
  ∧ (∀ (lv : Nat) (l : LX) (st : List Value) (w : AH), Ex M_X10_isOf lv 35 l st w = Ex M_X10_isOf lv 36 l (.int 0 :: st) w)
  ∧ (∀ (lv : Nat) (l : LX) (x : Int32) (w : AH), Ex M_X10_isOf lv 36 l [.int x] w = if x = 0 ∨ x = 1 then some (some (.int x), w) else none) :=
  ⟨(fun lv st t x w => Ex_M (i := .aload_n 0) (n := 1) (by decide +kernel) rfl rfl rfl),
   (fun lv st t w => Ex_M (i := .aload_n 0) (n := 1) (by decide +kernel) rfl rfl rfl),
   (fun lv l st a w => Ex_getf (by decide +kernel : decode M_X10_isOf.2.1 1 = .ok (.getfield 9, 3)) rfl (by decide +kernel : resF (mCn M_X10_isOf) 9 = some (9, 0, .int, false))),
   (fun lv l st x w => Ex_M (i := .istore_n 2) (n := 1) (by decide +kernel) rfl rfl rfl),
   (fun lv l st w => Ex_A (i := .iconst 0) (n := 1) (by decide +kernel) rfl rfl),
   (fun lv l st x w => Ex_M (i := .istore_n 3) (n := 1) (by decide +kernel) rfl rfl rfl),
   (fun lv l st w => Ex_A (i := .bipush 7) (n := 2) (by decide +kernel) rfl rfl),
   (fun lv l st x y w => Ex_icmp_ge (by decide +kernel : decode M_X10_isOf.2.1 10 = .ok (.if_icmp .ge 25, 3)) rfl rfl),
   (fun lv st t o0 o1 x w => Ex_M (i := .iload_n 2) (n := 1) (by decide +kernel) rfl rfl rfl),
   (fun lv l st x w => Ex_if_lt (by decide +kernel : decode M_X10_isOf.2.1 14 = .ok (.ifCond .lt 21, 3)) rfl rfl),
   (fun lv st t o0 o1 x w => Ex_M (i := .iload_n 2) (n := 1) (by decide +kernel) rfl rfl rfl),
   (fun lv st t o0 x w => Ex_M (i := .iload_n 1) (n := 1) (by decide +kernel) rfl rfl rfl),
   (fun lv l st x y w => Ex_icmp_ne (by decide +kernel : decode M_X10_isOf.2.1 19 = .ok (.if_icmp .ne 5, 3)) rfl rfl),
   (fun lv l st w => Ex_A (i := .iconst 1) (n := 1) (by decide +kernel) rfl rfl),
   (fun lv l x w => Ex_zret (by decide +kernel : decode M_X10_isOf.2.1 23 = .ok (.ireturn, 1)) rfl),
   (fun lv st t o0 o1 x w => Ex_M (i := .iload_n 2) (n := 1) (by decide +kernel) rfl rfl rfl),
   (fun lv l a0 w => Ex_callS (by decide +kernel : decode M_X10_isOf.2.1 25 = .ok (.invokestatic 32, 3)) rfl (by rfl : resM (mCn M_X10_isOf) 32 = some (0, M_X10_kindAbove)) (by decide) rfl (by rfl) (Nat.le_of_ble_eq_true rfl) (sLv_lt (by decide +kernel))),
   (fun lv l st x w => Ex_M (i := .istore_n 2) (n := 1) (by decide +kernel) rfl rfl rfl),
   (fun lv st t o0 o1 o2 x w => Ex_iinc (by decide +kernel : decode M_X10_isOf.2.1 29 = .ok (.iinc 3 1, 3)) rfl rfl (by decide) (by decide)),
   (fun lv l st w => Ex_goto (by decide +kernel : decode M_X10_isOf.2.1 32 = .ok (.goto (-25), 3)) rfl),
   (fun lv l st w => Ex_A (i := .iconst 0) (n := 1) (by decide +kernel) rfl rfl),
   (fun lv l x w => Ex_zret (by decide +kernel : decode M_X10_isOf.2.1 36 = .ok (.ireturn, 1)) rfl)⟩
set_option maxRecDepth 20000 in
set_option maxHeartbeats 4000000 in
theorem R_X10_wearing : (∀ (lv : Nat) (st : List Value) (t : LX) (x : Nat) (w : AH), Ex M_X10_wearing lv 0 (some (.ref x) :: t) st w = Ex M_X10_wearing lv 1 (some (.ref x) :: t) (.ref x :: st) w)
  ∧ (∀ (lv : Nat) (st : List Value) (t : LX) (w : AH), Ex M_X10_wearing lv 0 (some (.null) :: t) st w = Ex M_X10_wearing lv 1 (some (.null) :: t) (.null :: st) w)
  ∧ (∀ (lv : Nat) (l : LX) (st : List Value) (w : AH), Ex M_X10_wearing lv 1 l st w = Ex M_X10_wearing lv 2 l (.int 3 :: st) w)
  ∧ (∀ (lv : Nat) (l : LX) (b : Nat) (a0 : Int32) (w : AH), Ex M_X10_wearing lv 2 l (.int a0 :: .ref b :: []) w = if clK (hg w b) = 9 then (if (Call M_X10_isOf 60 [.ref b, .int a0] w).isSome = true then Ex M_X10_wearing lv 5 l (pushR (cV (Call M_X10_isOf 60 [.ref b, .int a0] w)) []) (cW (Call M_X10_isOf 60 [.ref b, .int a0] w) w) else none) else none)
  ∧ (∀ (lv : Nat) (l : LX) (st : List Value) (x : Int32) (w : AH), Ex M_X10_wearing lv 5 l (.int x :: st) w = if x = 0 then Ex M_X10_wearing lv 10 l st w else Ex M_X10_wearing lv 8 l st w)
  ∧ (∀ (lv : Nat) (l : LX) (st : List Value) (w : AH), Ex M_X10_wearing lv 8 l st w = Ex M_X10_wearing lv 9 l (.int 0 :: st) w)
  ∧ (∀ (lv : Nat) (l : LX) (x : Int32) (w : AH), Ex M_X10_wearing lv 9 l [.int x] w = some (some (.int x), w))
  ∧ (∀ (lv : Nat) (st : List Value) (t : LX) (x : Nat) (w : AH), Ex M_X10_wearing lv 10 (some (.ref x) :: t) st w = Ex M_X10_wearing lv 11 (some (.ref x) :: t) (.ref x :: st) w)
  ∧ (∀ (lv : Nat) (st : List Value) (t : LX) (w : AH), Ex M_X10_wearing lv 10 (some (.null) :: t) st w = Ex M_X10_wearing lv 11 (some (.null) :: t) (.null :: st) w)
  ∧ (∀ (lv : Nat) (l : LX) (st : List Value) (a : Nat) (w : AH), Ex M_X10_wearing lv 11 l (.ref a :: st) w = if (gf (hg w a) 9 0).isSome = true then Ex M_X10_wearing lv 14 l (vV (gf (hg w a) 9 0) :: st) w else none)
  ∧ (∀ (lv : Nat) (l : LX) (st : List Value) (w : AH), Ex M_X10_wearing lv 14 l st w = Ex M_X10_wearing lv 15 l (.int 5 :: st) w)
  ∧ (∀ (lv : Nat) (l : LX) (st : List Value) (x y : Int32) (w : AH), Ex M_X10_wearing lv 15 l (.int y :: .int x :: st) w = if ¬ x = y then Ex M_X10_wearing lv 25 l st w else Ex M_X10_wearing lv 18 l st w)
  ∧ (∀ (lv : Nat) (l : LX) (st : List Value) (w : AH), Ex M_X10_wearing lv 18 l st w = Ex M_X10_wearing lv 19 l (.int 3 :: st) w)
  ∧ (∀ (lv : Nat) (st : List Value) (t : LX) (x : Nat) (w : AH), Ex M_X10_wearing lv 19 (some (.ref x) :: t) st w = Ex M_X10_wearing lv 20 (some (.ref x) :: t) (.ref x :: st) w)
  ∧ (∀ (lv : Nat) (st : List Value) (t : LX) (w : AH), Ex M_X10_wearing lv 19 (some (.null) :: t) st w = Ex M_X10_wearing lv 20 (some (.null) :: t) (.null :: st) w)
  ∧ (∀ (lv : Nat) (l : LX) (st : List Value) (a : Nat) (w : AH), Ex M_X10_wearing lv 20 l (.ref a :: st) w = if (gf (hg w a) 9 1).isSome = true then Ex M_X10_wearing lv 23 l (vV (gf (hg w a) 9 1) :: st) w else none)
  ∧ (∀ (lv : Nat) (l : LX) (st : List Value) (x y : Int32) (w : AH), Ex M_X10_wearing lv 23 l (.int y :: .int x :: st) w = Ex M_X10_wearing lv 24 l (.int (x + y) :: st) w)
  ∧ (∀ (lv : Nat) (l : LX) (x : Int32) (w : AH), Ex M_X10_wearing lv 24 l [.int x] w = some (some (.int x), w))
  ∧ (∀ (lv : Nat) (st : List Value) (t : LX) (x : Nat) (w : AH), Ex M_X10_wearing lv 25 (some (.ref x) :: t) st w = Ex M_X10_wearing lv 26 (some (.ref x) :: t) (.ref x :: st) w)
  ∧ (∀ (lv : Nat) (st : List Value) (t : LX) (w : AH), Ex M_X10_wearing lv 25 (some (.null) :: t) st w = Ex M_X10_wearing lv 26 (some (.null) :: t) (.null :: st) w)
  ∧ (∀ (lv : Nat) (l : LX) (st : List Value) (w : AH), Ex M_X10_wearing lv 26 l st w = Ex M_X10_wearing lv 27 l (.int 2 :: st) w)
  ∧ (∀ (lv : Nat) (l : LX) (b : Nat) (a0 : Int32) (w : AH), Ex M_X10_wearing lv 27 l (.int a0 :: .ref b :: []) w = if clK (hg w b) = 9 then (if (Call M_X10_isOf 60 [.ref b, .int a0] w).isSome = true then Ex M_X10_wearing lv 30 l (pushR (cV (Call M_X10_isOf 60 [.ref b, .int a0] w)) []) (cW (Call M_X10_isOf 60 [.ref b, .int a0] w) w) else none) else none)
  ∧ (∀ (lv : Nat) (l : LX) (st : List Value) (x : Int32) (w : AH), Ex M_X10_wearing lv 30 l (.int x :: st) w = if x = 0 then Ex M_X10_wearing lv 37 l st w else Ex M_X10_wearing lv 33 l st w)
  ∧ (∀ (lv : Nat) (l : LX) (st : List Value) (w : AH), Ex M_X10_wearing lv 33 l st w = Ex M_X10_wearing lv 34 l (.int 3 :: st) w)
  ∧ (∀ (lv : Nat) (l : LX) (st : List Value) (w : AH), Ex M_X10_wearing lv 34 l st w = Ex M_X10_wearing lv 38 l st w)
  ∧ (∀ (lv : Nat) (l : LX) (st : List Value) (w : AH), Ex M_X10_wearing lv 37 l st w = Ex M_X10_wearing lv 38 l (.int 1 :: st) w)
  ∧ (∀ (lv : Nat) (l : LX) (x : Int32) (w : AH), Ex M_X10_wearing lv 38 l [.int x] w = some (some (.int x), w)) :=
  ⟨(fun lv st t x w => Ex_M (i := .aload_n 0) (n := 1) (by decide +kernel) rfl rfl rfl),
   (fun lv st t w => Ex_M (i := .aload_n 0) (n := 1) (by decide +kernel) rfl rfl rfl),
   (fun lv l st w => Ex_A (i := .iconst 3) (n := 1) (by decide +kernel) rfl rfl),
   (fun lv l b a0 w => Ex_callV (by decide +kernel : decode M_X10_wearing.2.1 2 = .ok (.invokevirtual 36, 3)) rfl (by rfl : resM (mCn M_X10_wearing) 36 = some (2, M_X10_isOf)) rfl (by rfl) (Nat.le_of_ble_eq_true rfl) (by decide +kernel) (sLv_lt (by decide +kernel))),
   (fun lv l st x w => Ex_if_eq (by decide +kernel : decode M_X10_wearing.2.1 5 = .ok (.ifCond .eq 5, 3)) rfl rfl),
   (fun lv l st w => Ex_A (i := .iconst 0) (n := 1) (by decide +kernel) rfl rfl),
   (fun lv l x w => Ex_R (i := .ireturn) (n := 1) (by decide +kernel) rfl rfl rfl rfl rfl),
   (fun lv st t x w => Ex_M (i := .aload_n 0) (n := 1) (by decide +kernel) rfl rfl rfl),
   (fun lv st t w => Ex_M (i := .aload_n 0) (n := 1) (by decide +kernel) rfl rfl rfl),
   (fun lv l st a w => Ex_getf (by decide +kernel : decode M_X10_wearing.2.1 11 = .ok (.getfield 9, 3)) rfl (by decide +kernel : resF (mCn M_X10_wearing) 9 = some (9, 0, .int, false))),
   (fun lv l st w => Ex_A (i := .iconst 5) (n := 1) (by decide +kernel) rfl rfl),
   (fun lv l st x y w => Ex_icmp_ne (by decide +kernel : decode M_X10_wearing.2.1 15 = .ok (.if_icmp .ne 10, 3)) rfl rfl),
   (fun lv l st w => Ex_A (i := .iconst 3) (n := 1) (by decide +kernel) rfl rfl),
   (fun lv st t x w => Ex_M (i := .aload_n 0) (n := 1) (by decide +kernel) rfl rfl rfl),
   (fun lv st t w => Ex_M (i := .aload_n 0) (n := 1) (by decide +kernel) rfl rfl rfl),
   (fun lv l st a w => Ex_getf (by decide +kernel : decode M_X10_wearing.2.1 20 = .ok (.getfield 15, 3)) rfl (by decide +kernel : resF (mCn M_X10_wearing) 15 = some (9, 1, .int, false))),
   (fun lv l st x y w => Ex_A (i := .iadd) (n := 1) (by decide +kernel) rfl rfl),
   (fun lv l x w => Ex_R (i := .ireturn) (n := 1) (by decide +kernel) rfl rfl rfl rfl rfl),
   (fun lv st t x w => Ex_M (i := .aload_n 0) (n := 1) (by decide +kernel) rfl rfl rfl),
   (fun lv st t w => Ex_M (i := .aload_n 0) (n := 1) (by decide +kernel) rfl rfl rfl),
   (fun lv l st w => Ex_A (i := .iconst 2) (n := 1) (by decide +kernel) rfl rfl),
   (fun lv l b a0 w => Ex_callV (by decide +kernel : decode M_X10_wearing.2.1 27 = .ok (.invokevirtual 36, 3)) rfl (by rfl : resM (mCn M_X10_wearing) 36 = some (2, M_X10_isOf)) rfl (by rfl) (Nat.le_of_ble_eq_true rfl) (by decide +kernel) (sLv_lt (by decide +kernel))),
   (fun lv l st x w => Ex_if_eq (by decide +kernel : decode M_X10_wearing.2.1 30 = .ok (.ifCond .eq 7, 3)) rfl rfl),
   (fun lv l st w => Ex_A (i := .iconst 3) (n := 1) (by decide +kernel) rfl rfl),
   (fun lv l st w => Ex_goto (by decide +kernel : decode M_X10_wearing.2.1 34 = .ok (.goto 4, 3)) rfl),
   (fun lv l st w => Ex_A (i := .iconst 1) (n := 1) (by decide +kernel) rfl rfl),
   (fun lv l x w => Ex_R (i := .ireturn) (n := 1) (by decide +kernel) rfl rfl rfl rfl rfl)⟩
set_option maxRecDepth 20000 in
set_option maxHeartbeats 4000000 in
theorem R_X10_wouldEat : (∀ (lv : Nat) (st : List Value) (t : LX) (x : Nat) (w : AH), Ex M_X10_wouldEat lv 0 (some (.ref x) :: t) st w = Ex M_X10_wouldEat lv 1 (some (.ref x) :: t) (.ref x :: st) w)
  ∧ (∀ (lv : Nat) (st : List Value) (t : LX) (w : AH), Ex M_X10_wouldEat lv 0 (some (.null) :: t) st w = Ex M_X10_wouldEat lv 1 (some (.null) :: t) (.null :: st) w)
  ∧ (∀ (lv : Nat) (l : LX) (st : List Value) (a : Nat) (w : AH), Ex M_X10_wouldEat lv 1 l (.ref a :: st) w = if (gf (hg w a) 9 0).isSome = true then Ex M_X10_wouldEat lv 4 l (vV (gf (hg w a) 9 0) :: st) w else none)
  ∧ (∀ (lv : Nat) (l : LX) (st : List Value) (w : AH), Ex M_X10_wouldEat lv 4 l st w = Ex M_X10_wouldEat lv 6 l (.int 6 :: st) w)
  ∧ (∀ (lv : Nat) (l : LX) (st : List Value) (x y : Int32) (w : AH), Ex M_X10_wouldEat lv 6 l (.int y :: .int x :: st) w = if x = y then Ex M_X10_wouldEat lv 35 l st w else Ex M_X10_wouldEat lv 9 l st w)
  ∧ (∀ (lv : Nat) (st : List Value) (t : LX) (x : Nat) (w : AH), Ex M_X10_wouldEat lv 9 (some (.ref x) :: t) st w = Ex M_X10_wouldEat lv 10 (some (.ref x) :: t) (.ref x :: st) w)
  ∧ (∀ (lv : Nat) (st : List Value) (t : LX) (w : AH), Ex M_X10_wouldEat lv 9 (some (.null) :: t) st w = Ex M_X10_wouldEat lv 10 (some (.null) :: t) (.null :: st) w)
  ∧ (∀ (lv : Nat) (l : LX) (st : List Value) (a : Nat) (w : AH), Ex M_X10_wouldEat lv 10 l (.ref a :: st) w = if (gf (hg w a) 9 0).isSome = true then Ex M_X10_wouldEat lv 13 l (vV (gf (hg w a) 9 0) :: st) w else none)
  ∧ (∀ (lv : Nat) (l : LX) (st : List Value) (w : AH), Ex M_X10_wouldEat lv 13 l st w = Ex M_X10_wouldEat lv 14 l (.int 3 :: st) w)
  ∧ (∀ (lv : Nat) (l : LX) (st : List Value) (x y : Int32) (w : AH), Ex M_X10_wouldEat lv 14 l (.int y :: .int x :: st) w = if ¬ x = y then Ex M_X10_wouldEat lv 39 l st w else Ex M_X10_wouldEat lv 17 l st w)
  ∧ (∀ (lv : Nat) (st : List Value) (t : LX) (o0 : Option Value) (x : Nat) (w : AH), Ex M_X10_wouldEat lv 17 (o0 :: some (.ref x) :: t) st w = Ex M_X10_wouldEat lv 18 (o0 :: some (.ref x) :: t) (.ref x :: st) w)
  ∧ (∀ (lv : Nat) (st : List Value) (t : LX) (o0 : Option Value) (w : AH), Ex M_X10_wouldEat lv 17 (o0 :: some (.null) :: t) st w = Ex M_X10_wouldEat lv 18 (o0 :: some (.null) :: t) (.null :: st) w)
  ∧ (∀ (lv : Nat) (st : List Value) (t : LX) (x : Nat) (w : AH), Ex M_X10_wouldEat lv 18 (some (.ref x) :: t) st w = Ex M_X10_wouldEat lv 19 (some (.ref x) :: t) (.ref x :: st) w)
  ∧ (∀ (lv : Nat) (st : List Value) (t : LX) (w : AH), Ex M_X10_wouldEat lv 18 (some (.null) :: t) st w = Ex M_X10_wouldEat lv 19 (some (.null) :: t) (.null :: st) w)
  ∧ (∀ (lv : Nat) (l : LX) (st : List Value) (a : Nat) (w : AH), Ex M_X10_wouldEat lv 19 l (.ref a :: st) w = if (gf (hg w a) 9 2).isSome = true then Ex M_X10_wouldEat lv 22 l (vV (gf (hg w a) 9 2) :: st) w else none)
  ∧ (∀ (lv : Nat) (l : LX) (b : Nat) (a0 : Int32) (w : AH), Ex M_X10_wouldEat lv 22 l (.int a0 :: .ref b :: []) w = if clK (hg w b) = 0 then (if (Call M_X0_wearOf 60 [.ref b, .int a0] w).isSome = true then Ex M_X10_wouldEat lv 25 l (pushR (cV (Call M_X0_wearOf 60 [.ref b, .int a0] w)) []) (cW (Call M_X0_wearOf 60 [.ref b, .int a0] w) w) else none) else none)
  ∧ (∀ (lv : Nat) (l : LX) (st : List Value) (w : AH), Ex M_X10_wouldEat lv 25 l st w = Ex M_X10_wouldEat lv 27 l (.int 10 :: st) w)
  ∧ (∀ (lv : Nat) (st : List Value) (t : LX) (x : Nat) (w : AH), Ex M_X10_wouldEat lv 27 (some (.ref x) :: t) st w = Ex M_X10_wouldEat lv 28 (some (.ref x) :: t) (.ref x :: st) w)
  ∧ (∀ (lv : Nat) (st : List Value) (t : LX) (w : AH), Ex M_X10_wouldEat lv 27 (some (.null) :: t) st w = Ex M_X10_wouldEat lv 28 (some (.null) :: t) (.null :: st) w)
  ∧ (∀ (lv : Nat) (l : LX) (st : List Value) (a : Nat) (w : AH), Ex M_X10_wouldEat lv 28 l (.ref a :: st) w = if (gf (hg w a) 9 1).isSome = true then Ex M_X10_wouldEat lv 31 l (vV (gf (hg w a) 9 1) :: st) w else none)
  ∧ (∀ (lv : Nat) (l : LX) (st : List Value) (x y : Int32) (w : AH), Ex M_X10_wouldEat lv 31 l (.int y :: .int x :: st) w = Ex M_X10_wouldEat lv 32 l (.int (x * y) :: st) w)
  ∧ (∀ (lv : Nat) (l : LX) (st : List Value) (x y : Int32) (w : AH), Ex M_X10_wouldEat lv 32 l (.int y :: .int x :: st) w = if x < y then Ex M_X10_wouldEat lv 39 l st w else Ex M_X10_wouldEat lv 35 l st w)
  ∧ (∀ (lv : Nat) (l : LX) (st : List Value) (w : AH), Ex M_X10_wouldEat lv 35 l st w = Ex M_X10_wouldEat lv 36 l (.int 1 :: st) w)
  ∧ (∀ (lv : Nat) (l : LX) (st : List Value) (w : AH), Ex M_X10_wouldEat lv 36 l st w = Ex M_X10_wouldEat lv 40 l st w)
  ∧ (∀ (lv : Nat) (l : LX) (st : List Value) (w : AH), Ex M_X10_wouldEat lv 39 l st w = Ex M_X10_wouldEat lv 40 l (.int 0 :: st) w)
  ∧ (∀ (lv : Nat) (l : LX) (x : Int32) (w : AH), Ex M_X10_wouldEat lv 40 l [.int x] w = if x = 0 ∨ x = 1 then some (some (.int x), w) else none) :=
  ⟨(fun lv st t x w => Ex_M (i := .aload_n 0) (n := 1) (by decide +kernel) rfl rfl rfl),
   (fun lv st t w => Ex_M (i := .aload_n 0) (n := 1) (by decide +kernel) rfl rfl rfl),
   (fun lv l st a w => Ex_getf (by decide +kernel : decode M_X10_wouldEat.2.1 1 = .ok (.getfield 9, 3)) rfl (by decide +kernel : resF (mCn M_X10_wouldEat) 9 = some (9, 0, .int, false))),
   (fun lv l st w => Ex_A (i := .bipush 6) (n := 2) (by decide +kernel) rfl rfl),
   (fun lv l st x y w => Ex_icmp_eq (by decide +kernel : decode M_X10_wouldEat.2.1 6 = .ok (.if_icmp .eq 29, 3)) rfl rfl),
   (fun lv st t x w => Ex_M (i := .aload_n 0) (n := 1) (by decide +kernel) rfl rfl rfl),
   (fun lv st t w => Ex_M (i := .aload_n 0) (n := 1) (by decide +kernel) rfl rfl rfl),
   (fun lv l st a w => Ex_getf (by decide +kernel : decode M_X10_wouldEat.2.1 10 = .ok (.getfield 9, 3)) rfl (by decide +kernel : resF (mCn M_X10_wouldEat) 9 = some (9, 0, .int, false))),
   (fun lv l st w => Ex_A (i := .iconst 3) (n := 1) (by decide +kernel) rfl rfl),
   (fun lv l st x y w => Ex_icmp_ne (by decide +kernel : decode M_X10_wouldEat.2.1 14 = .ok (.if_icmp .ne 25, 3)) rfl rfl),
   (fun lv st t o0 x w => Ex_M (i := .aload_n 1) (n := 1) (by decide +kernel) rfl rfl rfl),
   (fun lv st t o0 w => Ex_M (i := .aload_n 1) (n := 1) (by decide +kernel) rfl rfl rfl),
   (fun lv st t x w => Ex_M (i := .aload_n 0) (n := 1) (by decide +kernel) rfl rfl rfl),
   (fun lv st t w => Ex_M (i := .aload_n 0) (n := 1) (by decide +kernel) rfl rfl rfl),
   (fun lv l st a w => Ex_getf (by decide +kernel : decode M_X10_wouldEat.2.1 19 = .ok (.getfield 18, 3)) rfl (by decide +kernel : resF (mCn M_X10_wouldEat) 18 = some (9, 2, .int, false))),
   (fun lv l b a0 w => Ex_callV (by decide +kernel : decode M_X10_wouldEat.2.1 22 = .ok (.invokevirtual 40, 3)) rfl (by rfl : resM (mCn M_X10_wouldEat) 40 = some (2, M_X0_wearOf)) rfl (by rfl) (Nat.le_of_ble_eq_true rfl) (by decide +kernel) (sLv_lt (by decide +kernel))),
   (fun lv l st w => Ex_A (i := .bipush 10) (n := 2) (by decide +kernel) rfl rfl),
   (fun lv st t x w => Ex_M (i := .aload_n 0) (n := 1) (by decide +kernel) rfl rfl rfl),
   (fun lv st t w => Ex_M (i := .aload_n 0) (n := 1) (by decide +kernel) rfl rfl rfl),
   (fun lv l st a w => Ex_getf (by decide +kernel : decode M_X10_wouldEat.2.1 28 = .ok (.getfield 15, 3)) rfl (by decide +kernel : resF (mCn M_X10_wouldEat) 15 = some (9, 1, .int, false))),
   (fun lv l st x y w => Ex_A (i := .imul) (n := 1) (by decide +kernel) rfl rfl),
   (fun lv l st x y w => Ex_icmp_lt (by decide +kernel : decode M_X10_wouldEat.2.1 32 = .ok (.if_icmp .lt 7, 3)) rfl rfl),
   (fun lv l st w => Ex_A (i := .iconst 1) (n := 1) (by decide +kernel) rfl rfl),
   (fun lv l st w => Ex_goto (by decide +kernel : decode M_X10_wouldEat.2.1 36 = .ok (.goto 4, 3)) rfl),
   (fun lv l st w => Ex_A (i := .iconst 0) (n := 1) (by decide +kernel) rfl rfl),
   (fun lv l x w => Ex_zret (by decide +kernel : decode M_X10_wouldEat.2.1 40 = .ok (.ireturn, 1)) rfl)⟩
set_option maxRecDepth 20000 in
set_option maxHeartbeats 4000000 in
theorem R_X10_step : (∀ (lv : Nat) (st : List Value) (t : LX) (x : Nat) (w : AH), Ex M_X10_step lv 0 (some (.ref x) :: t) st w = Ex M_X10_step lv 1 (some (.ref x) :: t) (.ref x :: st) w)
  ∧ (∀ (lv : Nat) (st : List Value) (t : LX) (w : AH), Ex M_X10_step lv 0 (some (.null) :: t) st w = Ex M_X10_step lv 1 (some (.null) :: t) (.null :: st) w)
  ∧ (∀ (lv : Nat) (l : LX) (st : List Value) (w : AH), Ex M_X10_step lv 1 l st w = Ex M_X10_step lv 2 l (.int 1 :: st) w)
  ∧ (∀ (lv : Nat) (l : LX) (b : Nat) (a0 : Int32) (w : AH), Ex M_X10_step lv 2 l (.int a0 :: .ref b :: []) w = if clK (hg w b) = 9 then (if (Call M_X10_isOf 60 [.ref b, .int a0] w).isSome = true then Ex M_X10_step lv 5 l (pushR (cV (Call M_X10_isOf 60 [.ref b, .int a0] w)) []) (cW (Call M_X10_isOf 60 [.ref b, .int a0] w) w) else none) else none)
  ∧ (∀ (lv : Nat) (l : LX) (st : List Value) (x : Int32) (w : AH), Ex M_X10_step lv 5 l (.int x :: st) w = if x = 0 then Ex M_X10_step lv 30 l st w else Ex M_X10_step lv 8 l st w)
  ∧ (∀ (lv : Nat) (st : List Value) (t : LX) (x : Nat) (w : AH), Ex M_X10_step lv 8 (some (.ref x) :: t) st w = Ex M_X10_step lv 9 (some (.ref x) :: t) (.ref x :: st) w)
  ∧ (∀ (lv : Nat) (st : List Value) (t : LX) (w : AH), Ex M_X10_step lv 8 (some (.null) :: t) st w = Ex M_X10_step lv 9 (some (.null) :: t) (.null :: st) w)
  ∧ (∀ (lv : Nat) (l : LX) (st : List Value) (a : Nat) (w : AH), Ex M_X10_step lv 9 l (.ref a :: st) w = if (gf (hg w a) 9 0).isSome = true then Ex M_X10_step lv 12 l (vV (gf (hg w a) 9 0) :: st) w else none)
  ∧ (∀ (lv : Nat) (l : LX) (st : List Value) (w : AH), Ex M_X10_step lv 12 l st w = Ex M_X10_step lv 13 l (.int 4 :: st) w)
  ∧ (∀ (lv : Nat) (l : LX) (st : List Value) (x y : Int32) (w : AH), Ex M_X10_step lv 13 l (.int y :: .int x :: st) w = if ¬ x = y then Ex M_X10_step lv 22 l st w else Ex M_X10_step lv 16 l st w)
  ∧ (∀ (lv : Nat) (st : List Value) (t : LX) (o0 o1 : Option Value) (x : Int32) (w : AH), Ex M_X10_step lv 16 (o0 :: o1 :: some (.int x) :: t) st w = Ex M_X10_step lv 17 (o0 :: o1 :: some (.int x) :: t) (.int x :: st) w)
  ∧ (∀ (lv : Nat) (l : LX) (st : List Value) (w : AH), Ex M_X10_step lv 17 l st w = Ex M_X10_step lv 18 l (.int 2 :: st) w)
  ∧ (∀ (lv : Nat) (l : LX) (st : List Value) (x y : Int32) (w : AH), Ex M_X10_step lv 18 l (.int y :: .int x :: st) w = if y = 0 then none else Ex M_X10_step lv 19 l (.int (x - x / y * y) :: st) w)
  ∧ (∀ (lv : Nat) (l : LX) (st : List Value) (x : Int32) (w : AH), Ex M_X10_step lv 19 l (.int x :: st) w = if ¬ x = 0 then Ex M_X10_step lv 62 l st w else Ex M_X10_step lv 22 l st w)
  ∧ (∀ (lv : Nat) (st : List Value) (t : LX) (x : Nat) (w : AH), Ex M_X10_step lv 22 (some (.ref x) :: t) st w = Ex M_X10_step lv 23 (some (.ref x) :: t) (.ref x :: st) w)
  ∧ (∀ (lv : Nat) (st : List Value) (t : LX) (w : AH), Ex M_X10_step lv 22 (some (.null) :: t) st w = Ex M_X10_step lv 23 (some (.null) :: t) (.null :: st) w)
  ∧ (∀ (lv : Nat) (st : List Value) (t : LX) (o0 : Option Value) (x : Nat) (w : AH), Ex M_X10_step lv 23 (o0 :: some (.ref x) :: t) st w = Ex M_X10_step lv 24 (o0 :: some (.ref x) :: t) (.ref x :: st) w)
  ∧ (∀ (lv : Nat) (st : List Value) (t : LX) (o0 : Option Value) (w : AH), Ex M_X10_step lv 23 (o0 :: some (.null) :: t) st w = Ex M_X10_step lv 24 (o0 :: some (.null) :: t) (.null :: st) w)
  ∧ (∀ (lv : Nat) (l : LX) (b : Nat) (a0 : Nat) (w : AH), Ex M_X10_step lv 24 l (.ref a0 :: .ref b :: []) w = if clK (hg w b) = 9 then (if (Call M_X10_stepAsCat 60 [.ref b, .ref a0] w).isSome = true then Ex M_X10_step lv 27 l (pushR (cV (Call M_X10_stepAsCat 60 [.ref b, .ref a0] w)) []) (cW (Call M_X10_stepAsCat 60 [.ref b, .ref a0] w) w) else none) else none)
  ∧ (∀ (lv : Nat) (l : LX) (st : List Value) (w : AH), Ex M_X10_step lv 27 l st w = Ex M_X10_step lv 62 l st w)
  ∧ (∀ (lv : Nat) (st : List Value) (t : LX) (x : Nat) (w : AH), Ex M_X10_step lv 30 (some (.ref x) :: t) st w = Ex M_X10_step lv 31 (some (.ref x) :: t) (.ref x :: st) w)
  ∧ (∀ (lv : Nat) (st : List Value) (t : LX) (w : AH), Ex M_X10_step lv 30 (some (.null) :: t) st w = Ex M_X10_step lv 31 (some (.null) :: t) (.null :: st) w)
  ∧ (∀ (lv : Nat) (l : LX) (st : List Value) (w : AH), Ex M_X10_step lv 31 l st w = Ex M_X10_step lv 32 l (.int 3 :: st) w)
  ∧ (∀ (lv : Nat) (l : LX) (b : Nat) (a0 : Int32) (w : AH), Ex M_X10_step lv 32 l (.int a0 :: .ref b :: []) w = if clK (hg w b) = 9 then (if (Call M_X10_isOf 60 [.ref b, .int a0] w).isSome = true then Ex M_X10_step lv 35 l (pushR (cV (Call M_X10_isOf 60 [.ref b, .int a0] w)) []) (cW (Call M_X10_isOf 60 [.ref b, .int a0] w) w) else none) else none)
  ∧ (∀ (lv : Nat) (l : LX) (st : List Value) (x : Int32) (w : AH), Ex M_X10_step lv 35 l (.int x :: st) w = if x = 0 then Ex M_X10_step lv 46 l st w else Ex M_X10_step lv 38 l st w)
  ∧ (∀ (lv : Nat) (st : List Value) (t : LX) (x : Nat) (w : AH), Ex M_X10_step lv 38 (some (.ref x) :: t) st w = Ex M_X10_step lv 39 (some (.ref x) :: t) (.ref x :: st) w)
  ∧ (∀ (lv : Nat) (st : List Value) (t : LX) (w : AH), Ex M_X10_step lv 38 (some (.null) :: t) st w = Ex M_X10_step lv 39 (some (.null) :: t) (.null :: st) w)
  ∧ (∀ (lv : Nat) (st : List Value) (t : LX) (o0 : Option Value) (x : Nat) (w : AH), Ex M_X10_step lv 39 (o0 :: some (.ref x) :: t) st w = Ex M_X10_step lv 40 (o0 :: some (.ref x) :: t) (.ref x :: st) w)
  ∧ (∀ (lv : Nat) (st : List Value) (t : LX) (o0 : Option Value) (w : AH), Ex M_X10_step lv 39 (o0 :: some (.null) :: t) st w = Ex M_X10_step lv 40 (o0 :: some (.null) :: t) (.null :: st) w)
  ∧ (∀ (lv : Nat) (l : LX) (b : Nat) (a0 : Nat) (w : AH), Ex M_X10_step lv 40 l (.ref a0 :: .ref b :: []) w = if clK (hg w b) = 9 then (if (Call M_X10_stepAsMoth 60 [.ref b, .ref a0] w).isSome = true then Ex M_X10_step lv 43 l (pushR (cV (Call M_X10_stepAsMoth 60 [.ref b, .ref a0] w)) []) (cW (Call M_X10_stepAsMoth 60 [.ref b, .ref a0] w) w) else none) else none)
  ∧ (∀ (lv : Nat) (l : LX) (st : List Value) (w : AH), Ex M_X10_step lv 43 l st w = Ex M_X10_step lv 62 l st w)
  ∧ (∀ (lv : Nat) (st : List Value) (t : LX) (x : Nat) (w : AH), Ex M_X10_step lv 46 (some (.ref x) :: t) st w = Ex M_X10_step lv 47 (some (.ref x) :: t) (.ref x :: st) w)
  ∧ (∀ (lv : Nat) (st : List Value) (t : LX) (w : AH), Ex M_X10_step lv 46 (some (.null) :: t) st w = Ex M_X10_step lv 47 (some (.null) :: t) (.null :: st) w)
  ∧ (∀ (lv : Nat) (l : LX) (b : Nat) (w : AH), Ex M_X10_step lv 47 l (.ref b :: []) w = if clK (hg w b) = 9 then (if (Call M_X10_stepAsWalker 60 [.ref b] w).isSome = true then Ex M_X10_step lv 50 l (pushR (cV (Call M_X10_stepAsWalker 60 [.ref b] w)) []) (cW (Call M_X10_stepAsWalker 60 [.ref b] w) w) else none) else none)
  ∧ (∀ (lv : Nat) (st : List Value) (t : LX) (x : Nat) (w : AH), Ex M_X10_step lv 50 (some (.ref x) :: t) st w = Ex M_X10_step lv 51 (some (.ref x) :: t) (.ref x :: st) w)
  ∧ (∀ (lv : Nat) (st : List Value) (t : LX) (w : AH), Ex M_X10_step lv 50 (some (.null) :: t) st w = Ex M_X10_step lv 51 (some (.null) :: t) (.null :: st) w)
  ∧ (∀ (lv : Nat) (l : LX) (st : List Value) (w : AH), Ex M_X10_step lv 51 l st w = Ex M_X10_step lv 52 l (.int 2 :: st) w)
  ∧ (∀ (lv : Nat) (l : LX) (b : Nat) (a0 : Int32) (w : AH), Ex M_X10_step lv 52 l (.int a0 :: .ref b :: []) w = if clK (hg w b) = 9 then (if (Call M_X10_isOf 60 [.ref b, .int a0] w).isSome = true then Ex M_X10_step lv 55 l (pushR (cV (Call M_X10_isOf 60 [.ref b, .int a0] w)) []) (cW (Call M_X10_isOf 60 [.ref b, .int a0] w) w) else none) else none)
  ∧ (∀ (lv : Nat) (l : LX) (st : List Value) (x : Int32) (w : AH), Ex M_X10_step lv 55 l (.int x :: st) w = if x = 0 then Ex M_X10_step lv 62 l st w else Ex M_X10_step lv 58 l st w)
  ∧ (∀ (lv : Nat) (st : List Value) (t : LX) (x : Nat) (w : AH), Ex M_X10_step lv 58 (some (.ref x) :: t) st w = Ex M_X10_step lv 59 (some (.ref x) :: t) (.ref x :: st) w)
  ∧ (∀ (lv : Nat) (st : List Value) (t : LX) (w : AH), Ex M_X10_step lv 58 (some (.null) :: t) st w = Ex M_X10_step lv 59 (some (.null) :: t) (.null :: st) w)
  ∧ (∀ (lv : Nat) (l : LX) (b : Nat) (w : AH), Ex M_X10_step lv 59 l (.ref b :: []) w = if clK (hg w b) = 9 then (if (Call M_X10_stepAsWalker 60 [.ref b] w).isSome = true then Ex M_X10_step lv 62 l (pushR (cV (Call M_X10_stepAsWalker 60 [.ref b] w)) []) (cW (Call M_X10_stepAsWalker 60 [.ref b] w) w) else none) else none)
  ∧ (∀ (lv : Nat) (l : LX) (w : AH), Ex M_X10_step lv 62 l [] w = some (none, w)) :=
  ⟨(fun lv st t x w => Ex_M (i := .aload_n 0) (n := 1) (by decide +kernel) rfl rfl rfl),
   (fun lv st t w => Ex_M (i := .aload_n 0) (n := 1) (by decide +kernel) rfl rfl rfl),
   (fun lv l st w => Ex_A (i := .iconst 1) (n := 1) (by decide +kernel) rfl rfl),
   (fun lv l b a0 w => Ex_callV (by decide +kernel : decode M_X10_step.2.1 2 = .ok (.invokevirtual 36, 3)) rfl (by rfl : resM (mCn M_X10_step) 36 = some (2, M_X10_isOf)) rfl (by rfl) (Nat.le_of_ble_eq_true rfl) (by decide +kernel) (sLv_lt (by decide +kernel))),
   (fun lv l st x w => Ex_if_eq (by decide +kernel : decode M_X10_step.2.1 5 = .ok (.ifCond .eq 25, 3)) rfl rfl),
   (fun lv st t x w => Ex_M (i := .aload_n 0) (n := 1) (by decide +kernel) rfl rfl rfl),
   (fun lv st t w => Ex_M (i := .aload_n 0) (n := 1) (by decide +kernel) rfl rfl rfl),
   (fun lv l st a w => Ex_getf (by decide +kernel : decode M_X10_step.2.1 9 = .ok (.getfield 9, 3)) rfl (by decide +kernel : resF (mCn M_X10_step) 9 = some (9, 0, .int, false))),
   (fun lv l st w => Ex_A (i := .iconst 4) (n := 1) (by decide +kernel) rfl rfl),
   (fun lv l st x y w => Ex_icmp_ne (by decide +kernel : decode M_X10_step.2.1 13 = .ok (.if_icmp .ne 9, 3)) rfl rfl),
   (fun lv st t o0 o1 x w => Ex_M (i := .iload_n 2) (n := 1) (by decide +kernel) rfl rfl rfl),
   (fun lv l st w => Ex_A (i := .iconst 2) (n := 1) (by decide +kernel) rfl rfl),
   (fun lv l st x y w => Ex_irem (by decide +kernel : decode M_X10_step.2.1 18 = .ok (.irem, 1)) rfl),
   (fun lv l st x w => Ex_if_ne (by decide +kernel : decode M_X10_step.2.1 19 = .ok (.ifCond .ne 43, 3)) rfl rfl),
   (fun lv st t x w => Ex_M (i := .aload_n 0) (n := 1) (by decide +kernel) rfl rfl rfl),
   (fun lv st t w => Ex_M (i := .aload_n 0) (n := 1) (by decide +kernel) rfl rfl rfl),
   (fun lv st t o0 x w => Ex_M (i := .aload_n 1) (n := 1) (by decide +kernel) rfl rfl rfl),
   (fun lv st t o0 w => Ex_M (i := .aload_n 1) (n := 1) (by decide +kernel) rfl rfl rfl),
   (fun lv l b a0 w => Ex_callV (by decide +kernel : decode M_X10_step.2.1 24 = .ok (.invokevirtual 45, 3)) rfl (by rfl : resM (mCn M_X10_step) 45 = some (2, M_X10_stepAsCat)) rfl (by rfl) (Nat.le_of_ble_eq_true rfl) (by decide +kernel) (sLv_lt (by decide +kernel))),
   (fun lv l st w => Ex_goto (by decide +kernel : decode M_X10_step.2.1 27 = .ok (.goto 35, 3)) rfl),
   (fun lv st t x w => Ex_M (i := .aload_n 0) (n := 1) (by decide +kernel) rfl rfl rfl),
   (fun lv st t w => Ex_M (i := .aload_n 0) (n := 1) (by decide +kernel) rfl rfl rfl),
   (fun lv l st w => Ex_A (i := .iconst 3) (n := 1) (by decide +kernel) rfl rfl),
   (fun lv l b a0 w => Ex_callV (by decide +kernel : decode M_X10_step.2.1 32 = .ok (.invokevirtual 36, 3)) rfl (by rfl : resM (mCn M_X10_step) 36 = some (2, M_X10_isOf)) rfl (by rfl) (Nat.le_of_ble_eq_true rfl) (by decide +kernel) (sLv_lt (by decide +kernel))),
   (fun lv l st x w => Ex_if_eq (by decide +kernel : decode M_X10_step.2.1 35 = .ok (.ifCond .eq 11, 3)) rfl rfl),
   (fun lv st t x w => Ex_M (i := .aload_n 0) (n := 1) (by decide +kernel) rfl rfl rfl),
   (fun lv st t w => Ex_M (i := .aload_n 0) (n := 1) (by decide +kernel) rfl rfl rfl),
   (fun lv st t o0 x w => Ex_M (i := .aload_n 1) (n := 1) (by decide +kernel) rfl rfl rfl),
   (fun lv st t o0 w => Ex_M (i := .aload_n 1) (n := 1) (by decide +kernel) rfl rfl rfl),
   (fun lv l b a0 w => Ex_callV (by decide +kernel : decode M_X10_step.2.1 40 = .ok (.invokevirtual 49, 3)) rfl (by rfl : resM (mCn M_X10_step) 49 = some (2, M_X10_stepAsMoth)) rfl (by rfl) (Nat.le_of_ble_eq_true rfl) (by decide +kernel) (sLv_lt (by decide +kernel))),
   (fun lv l st w => Ex_goto (by decide +kernel : decode M_X10_step.2.1 43 = .ok (.goto 19, 3)) rfl),
   (fun lv st t x w => Ex_M (i := .aload_n 0) (n := 1) (by decide +kernel) rfl rfl rfl),
   (fun lv st t w => Ex_M (i := .aload_n 0) (n := 1) (by decide +kernel) rfl rfl rfl),
   (fun lv l b w => Ex_callV (by decide +kernel : decode M_X10_step.2.1 47 = .ok (.invokevirtual 52, 3)) rfl (by rfl : resM (mCn M_X10_step) 52 = some (2, M_X10_stepAsWalker)) rfl (by rfl) (Nat.le_of_ble_eq_true rfl) (by decide +kernel) (sLv_lt (by decide +kernel))),
   (fun lv st t x w => Ex_M (i := .aload_n 0) (n := 1) (by decide +kernel) rfl rfl rfl),
   (fun lv st t w => Ex_M (i := .aload_n 0) (n := 1) (by decide +kernel) rfl rfl rfl),
   (fun lv l st w => Ex_A (i := .iconst 2) (n := 1) (by decide +kernel) rfl rfl),
   (fun lv l b a0 w => Ex_callV (by decide +kernel : decode M_X10_step.2.1 52 = .ok (.invokevirtual 36, 3)) rfl (by rfl : resM (mCn M_X10_step) 36 = some (2, M_X10_isOf)) rfl (by rfl) (Nat.le_of_ble_eq_true rfl) (by decide +kernel) (sLv_lt (by decide +kernel))),
   (fun lv l st x w => Ex_if_eq (by decide +kernel : decode M_X10_step.2.1 55 = .ok (.ifCond .eq 7, 3)) rfl rfl),
   (fun lv st t x w => Ex_M (i := .aload_n 0) (n := 1) (by decide +kernel) rfl rfl rfl),
   (fun lv st t w => Ex_M (i := .aload_n 0) (n := 1) (by decide +kernel) rfl rfl rfl),
   (fun lv l b w => Ex_callV (by decide +kernel : decode M_X10_step.2.1 59 = .ok (.invokevirtual 52, 3)) rfl (by rfl : resM (mCn M_X10_step) 52 = some (2, M_X10_stepAsWalker)) rfl (by rfl) (Nat.le_of_ble_eq_true rfl) (by decide +kernel) (sLv_lt (by decide +kernel))),
   (fun lv l w => Ex_R (i := .return_) (n := 1) (by decide +kernel) rfl rfl rfl rfl rfl)⟩
set_option maxRecDepth 20000 in
theorem H_X10_stepAsWalker_2 : ∀ (lv : Nat) (st : List Value) (t : LX) (o0 : Option Value) (x : Int32) (w : AH), Ex M_X10_stepAsWalker lv 2 (o0 :: some (.int x) :: t) st w = Ex M_X10_stepAsWalker lv 3 (o0 :: some (.int x) :: t) (.int x :: st) w := fun lv st t o0 x w => Ex_M (i := .iload_n 1) (n := 1) (by decide +kernel) rfl rfl rfl
set_option maxRecDepth 20000 in
set_option maxHeartbeats 4000000 in
theorem R_X10_stepAsWalker : (∀ (lv : Nat) (l : LX) (st : List Value) (w : AH), Ex M_X10_stepAsWalker lv 0 l st w = Ex M_X10_stepAsWalker lv 1 l (.int 0 :: st) w)
  ∧ (∀ (lv : Nat) (l : LX) (st : List Value) (x : Int32) (w : AH), Ex M_X10_stepAsWalker lv 1 l (.int x :: st) w = Ex M_X10_stepAsWalker lv 2 (ls1 l 1 (.int x)) st w)
  ∧ (∀ (lv : Nat) (l : LX) (st : List Value) (w : AH), Ex M_X10_stepAsWalker lv 3 l st w = Ex M_X10_stepAsWalker lv 4 l (.int 3 :: st) w)
  ∧ (∀ (lv : Nat) (l : LX) (st : List Value) (x y : Int32) (w : AH), Ex M_X10_stepAsWalker lv 4 l (.int y :: .int x :: st) w = if y ≤ x then Ex M_X10_stepAsWalker lv 39 l st w else Ex M_X10_stepAsWalker lv 7 l st w)
  ∧ (∀ (lv : Nat) (st : List Value) (t : LX) (x : Nat) (w : AH), Ex M_X10_stepAsWalker lv 7 (some (.ref x) :: t) st w = Ex M_X10_stepAsWalker lv 8 (some (.ref x) :: t) (.ref x :: st) w)
  ∧ (∀ (lv : Nat) (st : List Value) (t : LX) (w : AH), Ex M_X10_stepAsWalker lv 7 (some (.null) :: t) st w = Ex M_X10_stepAsWalker lv 8 (some (.null) :: t) (.null :: st) w)
  ∧ (∀ (lv : Nat) (l : LX) (st : List Value) (a : Nat) (w : AH), Ex M_X10_stepAsWalker lv 8 l (.ref a :: st) w = if (gf (hg w a) 9 2).isSome = true then Ex M_X10_stepAsWalker lv 11 l (vV (gf (hg w a) 9 2) :: st) w else none)
  ∧ (∀ (lv : Nat) (st : List Value) (t : LX) (x : Nat) (w : AH), Ex M_X10_stepAsWalker lv 11 (some (.ref x) :: t) st w = Ex M_X10_stepAsWalker lv 12 (some (.ref x) :: t) (.ref x :: st) w)
  ∧ (∀ (lv : Nat) (st : List Value) (t : LX) (w : AH), Ex M_X10_stepAsWalker lv 11 (some (.null) :: t) st w = Ex M_X10_stepAsWalker lv 12 (some (.null) :: t) (.null :: st) w)
  ∧ (∀ (lv : Nat) (l : LX) (st : List Value) (a : Nat) (w : AH), Ex M_X10_stepAsWalker lv 12 l (.ref a :: st) w = if (gf (hg w a) 9 3).isSome = true then Ex M_X10_stepAsWalker lv 15 l (vV (gf (hg w a) 9 3) :: st) w else none)
  ∧ (∀ (lv : Nat) (l : LX) (a0 : Int32) (a1 : Int32) (w : AH), Ex M_X10_stepAsWalker lv 15 l (.int a1 :: .int a0 :: []) w = if (Call M_X7_beside 60 [.int a0, .int a1] w).isSome = true then Ex M_X10_stepAsWalker lv 18 l (pushR (cV (Call M_X7_beside 60 [.int a0, .int a1] w)) []) (cW (Call M_X7_beside 60 [.int a0, .int a1] w) w) else none)
  ∧ (∀ (lv : Nat) (l : LX) (st : List Value) (x : Int32) (w : AH), Ex M_X10_stepAsWalker lv 18 l (.int x :: st) w = if 0 ≤ x then Ex M_X10_stepAsWalker lv 39 l st w else Ex M_X10_stepAsWalker lv 21 l st w)
  ∧ (∀ (lv : Nat) (st : List Value) (t : LX) (x : Nat) (w : AH), Ex M_X10_stepAsWalker lv 21 (some (.ref x) :: t) st w = Ex M_X10_stepAsWalker lv 22 (some (.ref x) :: t) (.ref x :: st) w)
  ∧ (∀ (lv : Nat) (st : List Value) (t : LX) (w : AH), Ex M_X10_stepAsWalker lv 21 (some (.null) :: t) st w = Ex M_X10_stepAsWalker lv 22 (some (.null) :: t) (.null :: st) w)
  ∧ (∀ (lv : Nat) (st : List Value) (t : LX) (x : Nat) (w : AH), Ex M_X10_stepAsWalker lv 22 (some (.ref x) :: t) st w = Ex M_X10_stepAsWalker lv 23 (some (.ref x) :: t) (.ref x :: st) w)
  ∧ (∀ (lv : Nat) (st : List Value) (t : LX) (w : AH), Ex M_X10_stepAsWalker lv 22 (some (.null) :: t) st w = Ex M_X10_stepAsWalker lv 23 (some (.null) :: t) (.null :: st) w)
  ∧ (∀ (lv : Nat) (l : LX) (st : List Value) (a : Nat) (w : AH), Ex M_X10_stepAsWalker lv 23 l (.ref a :: st) w = if (gf (hg w a) 9 3).isSome = true then Ex M_X10_stepAsWalker lv 26 l (vV (gf (hg w a) 9 3) :: st) w else none)
  ∧ (∀ (lv : Nat) (l : LX) (st : List Value) (w : AH), Ex M_X10_stepAsWalker lv 26 l st w = Ex M_X10_stepAsWalker lv 27 l (.int 1 :: st) w)
  ∧ (∀ (lv : Nat) (l : LX) (st : List Value) (x y : Int32) (w : AH), Ex M_X10_stepAsWalker lv 27 l (.int y :: .int x :: st) w = Ex M_X10_stepAsWalker lv 28 l (.int (x + y) :: st) w)
  ∧ (∀ (lv : Nat) (l : LX) (st : List Value) (w : AH), Ex M_X10_stepAsWalker lv 28 l st w = Ex M_X10_stepAsWalker lv 29 l (.int 4 :: st) w)
  ∧ (∀ (lv : Nat) (l : LX) (st : List Value) (x y : Int32) (w : AH), Ex M_X10_stepAsWalker lv 29 l (.int y :: .int x :: st) w = if y = 0 then none else Ex M_X10_stepAsWalker lv 30 l (.int (x - x / y * y) :: st) w)
  ∧ (∀ (lv : Nat) (l : LX) (st : List Value) (a : Nat) (v : Value) (w : AH), Ex M_X10_stepAsWalker lv 30 l (v :: .ref a :: st) w = if (pf (hg w a) 9 3 .int v).isSome = true then Ex M_X10_stepAsWalker lv 33 l st (hs w a (vE (pf (hg w a) 9 3 .int v))) else none)
  ∧ (∀ (lv : Nat) (st : List Value) (t : LX) (o0 : Option Value) (x : Int32) (w : AH), Ex M_X10_stepAsWalker lv 33 (o0 :: some (.int x) :: t) st w = Ex M_X10_stepAsWalker lv 36 (ls1 (o0 :: some (.int x) :: t) 1 (.int (x + 1))) st w)
  ∧ (∀ (lv : Nat) (l : LX) (st : List Value) (w : AH), Ex M_X10_stepAsWalker lv 36 l st w = Ex M_X10_stepAsWalker lv 2 l st w)
  ∧ (∀ (lv : Nat) (st : List Value) (t : LX) (x : Nat) (w : AH), Ex M_X10_stepAsWalker lv 39 (some (.ref x) :: t) st w = Ex M_X10_stepAsWalker lv 40 (some (.ref x) :: t) (.ref x :: st) w)
  ∧ (∀ (lv : Nat) (st : List Value) (t : LX) (w : AH), Ex M_X10_stepAsWalker lv 39 (some (.null) :: t) st w = Ex M_X10_stepAsWalker lv 40 (some (.null) :: t) (.null :: st) w)
  ∧ (∀ (lv : Nat) (st : List Value) (t : LX) (x : Nat) (w : AH), Ex M_X10_stepAsWalker lv 40 (some (.ref x) :: t) st w = Ex M_X10_stepAsWalker lv 41 (some (.ref x) :: t) (.ref x :: st) w)
  ∧ (∀ (lv : Nat) (st : List Value) (t : LX) (w : AH), Ex M_X10_stepAsWalker lv 40 (some (.null) :: t) st w = Ex M_X10_stepAsWalker lv 41 (some (.null) :: t) (.null :: st) w)
  ∧ (∀ (lv : Nat) (l : LX) (st : List Value) (a : Nat) (w : AH), Ex M_X10_stepAsWalker lv 41 l (.ref a :: st) w = if (gf (hg w a) 9 3).isSome = true then Ex M_X10_stepAsWalker lv 44 l (vV (gf (hg w a) 9 3) :: st) w else none)
  ∧ (∀ (lv : Nat) (l : LX) (b : Nat) (a0 : Int32) (w : AH), Ex M_X10_stepAsWalker lv 44 l (.int a0 :: .ref b :: []) w = if clK (hg w b) = 9 then (if (Call M_X10_go 60 [.ref b, .int a0] w).isSome = true then Ex M_X10_stepAsWalker lv 47 l (pushR (cV (Call M_X10_go 60 [.ref b, .int a0] w)) []) (cW (Call M_X10_go 60 [.ref b, .int a0] w) w) else none) else none)
  ∧ (∀ (lv : Nat) (l : LX) (w : AH), Ex M_X10_stepAsWalker lv 47 l [] w = some (none, w)) :=
  ⟨(fun lv l st w => Ex_A (i := .iconst 0) (n := 1) (by decide +kernel) rfl rfl),
   (fun lv l st x w => Ex_M (i := .istore_n 1) (n := 1) (by decide +kernel) rfl rfl rfl),
   (fun lv l st w => Ex_A (i := .iconst 3) (n := 1) (by decide +kernel) rfl rfl),
   (fun lv l st x y w => Ex_icmp_ge (by decide +kernel : decode M_X10_stepAsWalker.2.1 4 = .ok (.if_icmp .ge 35, 3)) rfl rfl),
   (fun lv st t x w => Ex_M (i := .aload_n 0) (n := 1) (by decide +kernel) rfl rfl rfl),
   (fun lv st t w => Ex_M (i := .aload_n 0) (n := 1) (by decide +kernel) rfl rfl rfl),
   (fun lv l st a w => Ex_getf (by decide +kernel : decode M_X10_stepAsWalker.2.1 8 = .ok (.getfield 18, 3)) rfl (by decide +kernel : resF (mCn M_X10_stepAsWalker) 18 = some (9, 2, .int, false))),
   (fun lv st t x w => Ex_M (i := .aload_n 0) (n := 1) (by decide +kernel) rfl rfl rfl),
   (fun lv st t w => Ex_M (i := .aload_n 0) (n := 1) (by decide +kernel) rfl rfl rfl),
   (fun lv l st a w => Ex_getf (by decide +kernel : decode M_X10_stepAsWalker.2.1 12 = .ok (.getfield 21, 3)) rfl (by decide +kernel : resF (mCn M_X10_stepAsWalker) 21 = some (9, 3, .int, false))),
   (fun lv l a0 a1 w => Ex_callS (by decide +kernel : decode M_X10_stepAsWalker.2.1 15 = .ok (.invokestatic 55, 3)) rfl (by rfl : resM (mCn M_X10_stepAsWalker) 55 = some (0, M_X7_beside)) (by decide) rfl (by rfl) (Nat.le_of_ble_eq_true rfl) (sLv_lt (by decide +kernel))),
   (fun lv l st x w => Ex_if_ge (by decide +kernel : decode M_X10_stepAsWalker.2.1 18 = .ok (.ifCond .ge 21, 3)) rfl rfl),
   (fun lv st t x w => Ex_M (i := .aload_n 0) (n := 1) (by decide +kernel) rfl rfl rfl),
   (fun lv st t w => Ex_M (i := .aload_n 0) (n := 1) (by decide +kernel) rfl rfl rfl),
   (fun lv st t x w => Ex_M (i := .aload_n 0) (n := 1) (by decide +kernel) rfl rfl rfl),
   (fun lv st t w => Ex_M (i := .aload_n 0) (n := 1) (by decide +kernel) rfl rfl rfl),
   (fun lv l st a w => Ex_getf (by decide +kernel : decode M_X10_stepAsWalker.2.1 23 = .ok (.getfield 21, 3)) rfl (by decide +kernel : resF (mCn M_X10_stepAsWalker) 21 = some (9, 3, .int, false))),
   (fun lv l st w => Ex_A (i := .iconst 1) (n := 1) (by decide +kernel) rfl rfl),
   (fun lv l st x y w => Ex_A (i := .iadd) (n := 1) (by decide +kernel) rfl rfl),
   (fun lv l st w => Ex_A (i := .iconst 4) (n := 1) (by decide +kernel) rfl rfl),
   (fun lv l st x y w => Ex_irem (by decide +kernel : decode M_X10_stepAsWalker.2.1 29 = .ok (.irem, 1)) rfl),
   (fun lv l st a v w => Ex_putf (by decide +kernel : decode M_X10_stepAsWalker.2.1 30 = .ok (.putfield 21, 3)) rfl (by decide +kernel : resF (mCn M_X10_stepAsWalker) 21 = some (9, 3, .int, false)) (by decide +kernel)),
   (fun lv st t o0 x w => Ex_iinc (by decide +kernel : decode M_X10_stepAsWalker.2.1 33 = .ok (.iinc 1 1, 3)) rfl rfl (by decide) (by decide)),
   (fun lv l st w => Ex_goto (by decide +kernel : decode M_X10_stepAsWalker.2.1 36 = .ok (.goto (-34), 3)) rfl),
   (fun lv st t x w => Ex_M (i := .aload_n 0) (n := 1) (by decide +kernel) rfl rfl rfl),
   (fun lv st t w => Ex_M (i := .aload_n 0) (n := 1) (by decide +kernel) rfl rfl rfl),
   (fun lv st t x w => Ex_M (i := .aload_n 0) (n := 1) (by decide +kernel) rfl rfl rfl),
   (fun lv st t w => Ex_M (i := .aload_n 0) (n := 1) (by decide +kernel) rfl rfl rfl),
   (fun lv l st a w => Ex_getf (by decide +kernel : decode M_X10_stepAsWalker.2.1 41 = .ok (.getfield 21, 3)) rfl (by decide +kernel : resF (mCn M_X10_stepAsWalker) 21 = some (9, 3, .int, false))),
   (fun lv l b a0 w => Ex_callV (by decide +kernel : decode M_X10_stepAsWalker.2.1 44 = .ok (.invokevirtual 61, 3)) rfl (by rfl : resM (mCn M_X10_stepAsWalker) 61 = some (2, M_X10_go)) rfl (by rfl) (Nat.le_of_ble_eq_true rfl) (by decide +kernel) (sLv_lt (by decide +kernel))),
   (fun lv l w => Ex_R (i := .return_) (n := 1) (by decide +kernel) rfl rfl rfl rfl rfl)⟩
set_option maxRecDepth 20000 in
theorem H_X10_stepAsCat_11 : ∀ (lv : Nat) (st : List Value) (t : LX) (o0 o1 o2 : Option Value) (x : Int32) (w : AH), Ex M_X10_stepAsCat lv 11 (o0 :: o1 :: o2 :: some (.int x) :: t) st w = Ex M_X10_stepAsCat lv 12 (o0 :: o1 :: o2 :: some (.int x) :: t) (.int x :: st) w := fun lv st t o0 o1 o2 x w => Ex_M (i := .iload_n 3) (n := 1) (by decide +kernel) rfl rfl rfl
set_option maxRecDepth 20000 in
set_option maxHeartbeats 4000000 in
theorem R_X10_stepAsCat : (∀ (lv : Nat) (st : List Value) (t : LX) (o0 : Option Value) (x : Nat) (w : AH), Ex M_X10_stepAsCat lv 0 (o0 :: some (.ref x) :: t) st w = Ex M_X10_stepAsCat lv 1 (o0 :: some (.ref x) :: t) (.ref x :: st) w)
  ∧ (∀ (lv : Nat) (st : List Value) (t : LX) (o0 : Option Value) (w : AH), Ex M_X10_stepAsCat lv 0 (o0 :: some (.null) :: t) st w = Ex M_X10_stepAsCat lv 1 (o0 :: some (.null) :: t) (.null :: st) w)
  ∧ (∀ (lv : Nat) (st : List Value) (t : LX) (x : Nat) (w : AH), Ex M_X10_stepAsCat lv 1 (some (.ref x) :: t) st w = Ex M_X10_stepAsCat lv 2 (some (.ref x) :: t) (.ref x :: st) w)
  ∧ (∀ (lv : Nat) (st : List Value) (t : LX) (w : AH), Ex M_X10_stepAsCat lv 1 (some (.null) :: t) st w = Ex M_X10_stepAsCat lv 2 (some (.null) :: t) (.null :: st) w)
  ∧ (∀ (lv : Nat) (l : LX) (st : List Value) (a : Nat) (w : AH), Ex M_X10_stepAsCat lv 2 l (.ref a :: st) w = if (gf (hg w a) 9 2).isSome = true then Ex M_X10_stepAsCat lv 5 l (vV (gf (hg w a) 9 2) :: st) w else none)
  ∧ (∀ (lv : Nat) (l : LX) (b : Nat) (a0 : Int32) (w : AH), Ex M_X10_stepAsCat lv 5 l (.int a0 :: .ref b :: []) w = if clK (hg w b) = 0 then (if (Call M_X0_colourOf 60 [.ref b, .int a0] w).isSome = true then Ex M_X10_stepAsCat lv 8 l (pushR (cV (Call M_X0_colourOf 60 [.ref b, .int a0] w)) []) (cW (Call M_X0_colourOf 60 [.ref b, .int a0] w) w) else none) else none)
  ∧ (∀ (lv : Nat) (l : LX) (st : List Value) (x : Int32) (w : AH), Ex M_X10_stepAsCat lv 8 l (.int x :: st) w = Ex M_X10_stepAsCat lv 9 (ls1 l 2 (.int x)) st w)
  ∧ (∀ (lv : Nat) (l : LX) (st : List Value) (w : AH), Ex M_X10_stepAsCat lv 9 l st w = Ex M_X10_stepAsCat lv 10 l (.int 0 :: st) w)
  ∧ (∀ (lv : Nat) (l : LX) (st : List Value) (x : Int32) (w : AH), Ex M_X10_stepAsCat lv 10 l (.int x :: st) w = Ex M_X10_stepAsCat lv 11 (ls1 l 3 (.int x)) st w)
  ∧ (∀ (lv : Nat) (l : LX) (st : List Value) (w : AH), Ex M_X10_stepAsCat lv 12 l st w = Ex M_X10_stepAsCat lv 13 l (.int 4 :: st) w)
  ∧ (∀ (lv : Nat) (l : LX) (st : List Value) (x y : Int32) (w : AH), Ex M_X10_stepAsCat lv 13 l (.int y :: .int x :: st) w = if y ≤ x then Ex M_X10_stepAsCat lv 62 l st w else Ex M_X10_stepAsCat lv 16 l st w)
  ∧ (∀ (lv : Nat) (st : List Value) (t : LX) (x : Nat) (w : AH), Ex M_X10_stepAsCat lv 16 (some (.ref x) :: t) st w = Ex M_X10_stepAsCat lv 17 (some (.ref x) :: t) (.ref x :: st) w)
  ∧ (∀ (lv : Nat) (st : List Value) (t : LX) (w : AH), Ex M_X10_stepAsCat lv 16 (some (.null) :: t) st w = Ex M_X10_stepAsCat lv 17 (some (.null) :: t) (.null :: st) w)
  ∧ (∀ (lv : Nat) (st : List Value) (t : LX) (o0 o1 o2 : Option Value) (x : Int32) (w : AH), Ex M_X10_stepAsCat lv 17 (o0 :: o1 :: o2 :: some (.int x) :: t) st w = Ex M_X10_stepAsCat lv 18 (o0 :: o1 :: o2 :: some (.int x) :: t) (.int x :: st) w)
  ∧ (∀ (lv : Nat) (l : LX) (b : Nat) (a0 : Int32) (w : AH), Ex M_X10_stepAsCat lv 18 l (.int a0 :: .ref b :: []) w = if clK (hg w b) = 9 then (if (Call M_X10_turned 60 [.ref b, .int a0] w).isSome = true then Ex M_X10_stepAsCat lv 21 l (pushR (cV (Call M_X10_turned 60 [.ref b, .int a0] w)) []) (cW (Call M_X10_turned 60 [.ref b, .int a0] w) w) else none) else none)
  ∧ (∀ (lv : Nat) (l : LX) (st : List Value) (x : Int32) (w : AH), Ex M_X10_stepAsCat lv 21 l (.int x :: st) w = Ex M_X10_stepAsCat lv 23 (ls1 l 4 (.int x)) st w)
  ∧ (∀ (lv : Nat) (st : List Value) (t : LX) (x : Nat) (w : AH), Ex M_X10_stepAsCat lv 23 (some (.ref x) :: t) st w = Ex M_X10_stepAsCat lv 24 (some (.ref x) :: t) (.ref x :: st) w)
  ∧ (∀ (lv : Nat) (st : List Value) (t : LX) (w : AH), Ex M_X10_stepAsCat lv 23 (some (.null) :: t) st w = Ex M_X10_stepAsCat lv 24 (some (.null) :: t) (.null :: st) w)
  ∧ (∀ (lv : Nat) (l : LX) (st : List Value) (a : Nat) (w : AH), Ex M_X10_stepAsCat lv 24 l (.ref a :: st) w = if (gf (hg w a) 9 2).isSome = true then Ex M_X10_stepAsCat lv 27 l (vV (gf (hg w a) 9 2) :: st) w else none)
  ∧ (∀ (lv : Nat) (st : List Value) (t : LX) (o0 o1 o2 o3 : Option Value) (x : Int32) (w : AH), Ex M_X10_stepAsCat lv 27 (o0 :: o1 :: o2 :: o3 :: some (.int x) :: t) st w = Ex M_X10_stepAsCat lv 29 (o0 :: o1 :: o2 :: o3 :: some (.int x) :: t) (.int x :: st) w)
  ∧ (∀ (lv : Nat) (l : LX) (a0 : Int32) (a1 : Int32) (w : AH), Ex M_X10_stepAsCat lv 29 l (.int a1 :: .int a0 :: []) w = if (Call M_X7_beside 60 [.int a0, .int a1] w).isSome = true then Ex M_X10_stepAsCat lv 32 l (pushR (cV (Call M_X7_beside 60 [.int a0, .int a1] w)) []) (cW (Call M_X7_beside 60 [.int a0, .int a1] w) w) else none)
  ∧ (∀ (lv : Nat) (l : LX) (st : List Value) (x : Int32) (w : AH), Ex M_X10_stepAsCat lv 32 l (.int x :: st) w = Ex M_X10_stepAsCat lv 34 (ls1 l 5 (.int x)) st w)
  ∧ (∀ (lv : Nat) (st : List Value) (t : LX) (o0 o1 o2 o3 o4 : Option Value) (x : Int32) (w : AH), Ex M_X10_stepAsCat lv 34 (o0 :: o1 :: o2 :: o3 :: o4 :: some (.int x) :: t) st w = Ex M_X10_stepAsCat lv 36 (o0 :: o1 :: o2 :: o3 :: o4 :: some (.int x) :: t) (.int x :: st) w)
  ∧ (∀ (lv : Nat) (l : LX) (st : List Value) (x : Int32) (w : AH), Ex M_X10_stepAsCat lv 36 l (.int x :: st) w = if x < 0 then Ex M_X10_stepAsCat lv 56 l st w else Ex M_X10_stepAsCat lv 39 l st w)
  ∧ (∀ (lv : Nat) (st : List Value) (t : LX) (o0 : Option Value) (x : Nat) (w : AH), Ex M_X10_stepAsCat lv 39 (o0 :: some (.ref x) :: t) st w = Ex M_X10_stepAsCat lv 40 (o0 :: some (.ref x) :: t) (.ref x :: st) w)
  ∧ (∀ (lv : Nat) (st : List Value) (t : LX) (o0 : Option Value) (w : AH), Ex M_X10_stepAsCat lv 39 (o0 :: some (.null) :: t) st w = Ex M_X10_stepAsCat lv 40 (o0 :: some (.null) :: t) (.null :: st) w)
  ∧ (∀ (lv : Nat) (st : List Value) (t : LX) (o0 o1 o2 o3 o4 : Option Value) (x : Int32) (w : AH), Ex M_X10_stepAsCat lv 40 (o0 :: o1 :: o2 :: o3 :: o4 :: some (.int x) :: t) st w = Ex M_X10_stepAsCat lv 42 (o0 :: o1 :: o2 :: o3 :: o4 :: some (.int x) :: t) (.int x :: st) w)
  ∧ (∀ (lv : Nat) (l : LX) (b : Nat) (a0 : Int32) (w : AH), Ex M_X10_stepAsCat lv 42 l (.int a0 :: .ref b :: []) w = if clK (hg w b) = 0 then (if (Call M_X0_colourOf 60 [.ref b, .int a0] w).isSome = true then Ex M_X10_stepAsCat lv 45 l (pushR (cV (Call M_X0_colourOf 60 [.ref b, .int a0] w)) []) (cW (Call M_X0_colourOf 60 [.ref b, .int a0] w) w) else none) else none)
  ∧ (∀ (lv : Nat) (st : List Value) (t : LX) (o0 o1 : Option Value) (x : Int32) (w : AH), Ex M_X10_stepAsCat lv 45 (o0 :: o1 :: some (.int x) :: t) st w = Ex M_X10_stepAsCat lv 46 (o0 :: o1 :: some (.int x) :: t) (.int x :: st) w)
  ∧ (∀ (lv : Nat) (l : LX) (st : List Value) (x y : Int32) (w : AH), Ex M_X10_stepAsCat lv 46 l (.int y :: .int x :: st) w = if ¬ x = y then Ex M_X10_stepAsCat lv 56 l st w else Ex M_X10_stepAsCat lv 49 l st w)
  ∧ (∀ (lv : Nat) (st : List Value) (t : LX) (x : Nat) (w : AH), Ex M_X10_stepAsCat lv 49 (some (.ref x) :: t) st w = Ex M_X10_stepAsCat lv 50 (some (.ref x) :: t) (.ref x :: st) w)
  ∧ (∀ (lv : Nat) (st : List Value) (t : LX) (w : AH), Ex M_X10_stepAsCat lv 49 (some (.null) :: t) st w = Ex M_X10_stepAsCat lv 50 (some (.null) :: t) (.null :: st) w)
  ∧ (∀ (lv : Nat) (st : List Value) (t : LX) (o0 o1 o2 o3 : Option Value) (x : Int32) (w : AH), Ex M_X10_stepAsCat lv 50 (o0 :: o1 :: o2 :: o3 :: some (.int x) :: t) st w = Ex M_X10_stepAsCat lv 52 (o0 :: o1 :: o2 :: o3 :: some (.int x) :: t) (.int x :: st) w)
  ∧ (∀ (lv : Nat) (l : LX) (b : Nat) (a0 : Int32) (w : AH), Ex M_X10_stepAsCat lv 52 l (.int a0 :: .ref b :: []) w = if clK (hg w b) = 9 then (if (Call M_X10_go 60 [.ref b, .int a0] w).isSome = true then Ex M_X10_stepAsCat lv 55 l (pushR (cV (Call M_X10_go 60 [.ref b, .int a0] w)) []) (cW (Call M_X10_go 60 [.ref b, .int a0] w) w) else none) else none)
  ∧ (∀ (lv : Nat) (l : LX) (w : AH), Ex M_X10_stepAsCat lv 55 l [] w = some (none, w))
  ∧ (∀ (lv : Nat) (st : List Value) (t : LX) (o0 o1 o2 : Option Value) (x : Int32) (w : AH), Ex M_X10_stepAsCat lv 56 (o0 :: o1 :: o2 :: some (.int x) :: t) st w = Ex M_X10_stepAsCat lv 59 (ls1 (o0 :: o1 :: o2 :: some (.int x) :: t) 3 (.int (x + 1))) st w)
  ∧ (∀ (lv : Nat) (l : LX) (st : List Value) (w : AH), Ex M_X10_stepAsCat lv 59 l st w = Ex M_X10_stepAsCat lv 11 l st w)
  ∧ (∀ (lv : Nat) (l : LX) (w : AH), Ex M_X10_stepAsCat lv 62 l [] w = some (none, w)) :=
  ⟨(fun lv st t o0 x w => Ex_M (i := .aload_n 1) (n := 1) (by decide +kernel) rfl rfl rfl),
   (fun lv st t o0 w => Ex_M (i := .aload_n 1) (n := 1) (by decide +kernel) rfl rfl rfl),
   (fun lv st t x w => Ex_M (i := .aload_n 0) (n := 1) (by decide +kernel) rfl rfl rfl),
   (fun lv st t w => Ex_M (i := .aload_n 0) (n := 1) (by decide +kernel) rfl rfl rfl),
   (fun lv l st a w => Ex_getf (by decide +kernel : decode M_X10_stepAsCat.2.1 2 = .ok (.getfield 18, 3)) rfl (by decide +kernel : resF (mCn M_X10_stepAsCat) 18 = some (9, 2, .int, false))),
   (fun lv l b a0 w => Ex_callV (by decide +kernel : decode M_X10_stepAsCat.2.1 5 = .ok (.invokevirtual 65, 3)) rfl (by rfl : resM (mCn M_X10_stepAsCat) 65 = some (2, M_X0_colourOf)) rfl (by rfl) (Nat.le_of_ble_eq_true rfl) (by decide +kernel) (sLv_lt (by decide +kernel))),
   (fun lv l st x w => Ex_M (i := .istore_n 2) (n := 1) (by decide +kernel) rfl rfl rfl),
   (fun lv l st w => Ex_A (i := .iconst 0) (n := 1) (by decide +kernel) rfl rfl),
   (fun lv l st x w => Ex_M (i := .istore_n 3) (n := 1) (by decide +kernel) rfl rfl rfl),
   (fun lv l st w => Ex_A (i := .iconst 4) (n := 1) (by decide +kernel) rfl rfl),
   (fun lv l st x y w => Ex_icmp_ge (by decide +kernel : decode M_X10_stepAsCat.2.1 13 = .ok (.if_icmp .ge 49, 3)) rfl rfl),
   (fun lv st t x w => Ex_M (i := .aload_n 0) (n := 1) (by decide +kernel) rfl rfl rfl),
   (fun lv st t w => Ex_M (i := .aload_n 0) (n := 1) (by decide +kernel) rfl rfl rfl),
   (fun lv st t o0 o1 o2 x w => Ex_M (i := .iload_n 3) (n := 1) (by decide +kernel) rfl rfl rfl),
   (fun lv l b a0 w => Ex_callV (by decide +kernel : decode M_X10_stepAsCat.2.1 18 = .ok (.invokevirtual 68, 3)) rfl (by rfl : resM (mCn M_X10_stepAsCat) 68 = some (2, M_X10_turned)) rfl (by rfl) (Nat.le_of_ble_eq_true rfl) (by decide +kernel) (sLv_lt (by decide +kernel))),
   (fun lv l st x w => Ex_M (i := .istore 4) (n := 2) (by decide +kernel) rfl rfl rfl),
   (fun lv st t x w => Ex_M (i := .aload_n 0) (n := 1) (by decide +kernel) rfl rfl rfl),
   (fun lv st t w => Ex_M (i := .aload_n 0) (n := 1) (by decide +kernel) rfl rfl rfl),
   (fun lv l st a w => Ex_getf (by decide +kernel : decode M_X10_stepAsCat.2.1 24 = .ok (.getfield 18, 3)) rfl (by decide +kernel : resF (mCn M_X10_stepAsCat) 18 = some (9, 2, .int, false))),
   (fun lv st t o0 o1 o2 o3 x w => Ex_M (i := .iload 4) (n := 2) (by decide +kernel) rfl rfl rfl),
   (fun lv l a0 a1 w => Ex_callS (by decide +kernel : decode M_X10_stepAsCat.2.1 29 = .ok (.invokestatic 55, 3)) rfl (by rfl : resM (mCn M_X10_stepAsCat) 55 = some (0, M_X7_beside)) (by decide) rfl (by rfl) (Nat.le_of_ble_eq_true rfl) (sLv_lt (by decide +kernel))),
   (fun lv l st x w => Ex_M (i := .istore 5) (n := 2) (by decide +kernel) rfl rfl rfl),
   (fun lv st t o0 o1 o2 o3 o4 x w => Ex_M (i := .iload 5) (n := 2) (by decide +kernel) rfl rfl rfl),
   (fun lv l st x w => Ex_if_lt (by decide +kernel : decode M_X10_stepAsCat.2.1 36 = .ok (.ifCond .lt 20, 3)) rfl rfl),
   (fun lv st t o0 x w => Ex_M (i := .aload_n 1) (n := 1) (by decide +kernel) rfl rfl rfl),
   (fun lv st t o0 w => Ex_M (i := .aload_n 1) (n := 1) (by decide +kernel) rfl rfl rfl),
   (fun lv st t o0 o1 o2 o3 o4 x w => Ex_M (i := .iload 5) (n := 2) (by decide +kernel) rfl rfl rfl),
   (fun lv l b a0 w => Ex_callV (by decide +kernel : decode M_X10_stepAsCat.2.1 42 = .ok (.invokevirtual 65, 3)) rfl (by rfl : resM (mCn M_X10_stepAsCat) 65 = some (2, M_X0_colourOf)) rfl (by rfl) (Nat.le_of_ble_eq_true rfl) (by decide +kernel) (sLv_lt (by decide +kernel))),
   (fun lv st t o0 o1 x w => Ex_M (i := .iload_n 2) (n := 1) (by decide +kernel) rfl rfl rfl),
   (fun lv l st x y w => Ex_icmp_ne (by decide +kernel : decode M_X10_stepAsCat.2.1 46 = .ok (.if_icmp .ne 10, 3)) rfl rfl),
   (fun lv st t x w => Ex_M (i := .aload_n 0) (n := 1) (by decide +kernel) rfl rfl rfl),
   (fun lv st t w => Ex_M (i := .aload_n 0) (n := 1) (by decide +kernel) rfl rfl rfl),
   (fun lv st t o0 o1 o2 o3 x w => Ex_M (i := .iload 4) (n := 2) (by decide +kernel) rfl rfl rfl),
   (fun lv l b a0 w => Ex_callV (by decide +kernel : decode M_X10_stepAsCat.2.1 52 = .ok (.invokevirtual 61, 3)) rfl (by rfl : resM (mCn M_X10_stepAsCat) 61 = some (2, M_X10_go)) rfl (by rfl) (Nat.le_of_ble_eq_true rfl) (by decide +kernel) (sLv_lt (by decide +kernel))),
   (fun lv l w => Ex_R (i := .return_) (n := 1) (by decide +kernel) rfl rfl rfl rfl rfl),
   (fun lv st t o0 o1 o2 x w => Ex_iinc (by decide +kernel : decode M_X10_stepAsCat.2.1 56 = .ok (.iinc 3 1, 3)) rfl rfl (by decide) (by decide)),
   (fun lv l st w => Ex_goto (by decide +kernel : decode M_X10_stepAsCat.2.1 59 = .ok (.goto (-48), 3)) rfl),
   (fun lv l w => Ex_R (i := .return_) (n := 1) (by decide +kernel) rfl rfl rfl rfl rfl)⟩
set_option maxRecDepth 20000 in
set_option maxHeartbeats 4000000 in
theorem R_X10_turned : (∀ (lv : Nat) (st : List Value) (t : LX) (o0 : Option Value) (x : Int32) (w : AH), Ex M_X10_turned lv 0 (o0 :: some (.int x) :: t) st w = Ex M_X10_turned lv 1 (o0 :: some (.int x) :: t) (.int x :: st) w)
  ∧ (∀ (lv : Nat) (l : LX) (st : List Value) (x : Int32) (w : AH), Ex M_X10_turned lv 1 l (.int x :: st) w = if x = 0 then Ex M_X10_turned lv 28 l st w else if x = 1 then Ex M_X10_turned lv 33 l st w else if x = 2 then Ex M_X10_turned lv 42 l st w else Ex M_X10_turned lv 51 l st w)
  ∧ (∀ (lv : Nat) (st : List Value) (t : LX) (x : Nat) (w : AH), Ex M_X10_turned lv 28 (some (.ref x) :: t) st w = Ex M_X10_turned lv 29 (some (.ref x) :: t) (.ref x :: st) w)
  ∧ (∀ (lv : Nat) (st : List Value) (t : LX) (w : AH), Ex M_X10_turned lv 28 (some (.null) :: t) st w = Ex M_X10_turned lv 29 (some (.null) :: t) (.null :: st) w)
  ∧ (∀ (lv : Nat) (l : LX) (st : List Value) (a : Nat) (w : AH), Ex M_X10_turned lv 29 l (.ref a :: st) w = if (gf (hg w a) 9 3).isSome = true then Ex M_X10_turned lv 32 l (vV (gf (hg w a) 9 3) :: st) w else none)
  ∧ (∀ (lv : Nat) (l : LX) (x : Int32) (w : AH), Ex M_X10_turned lv 32 l [.int x] w = some (some (.int x), w))
  ∧ (∀ (lv : Nat) (st : List Value) (t : LX) (x : Nat) (w : AH), Ex M_X10_turned lv 33 (some (.ref x) :: t) st w = Ex M_X10_turned lv 34 (some (.ref x) :: t) (.ref x :: st) w)
  ∧ (∀ (lv : Nat) (st : List Value) (t : LX) (w : AH), Ex M_X10_turned lv 33 (some (.null) :: t) st w = Ex M_X10_turned lv 34 (some (.null) :: t) (.null :: st) w)
  ∧ (∀ (lv : Nat) (l : LX) (st : List Value) (a : Nat) (w : AH), Ex M_X10_turned lv 34 l (.ref a :: st) w = if (gf (hg w a) 9 3).isSome = true then Ex M_X10_turned lv 37 l (vV (gf (hg w a) 9 3) :: st) w else none)
  ∧ (∀ (lv : Nat) (l : LX) (st : List Value) (w : AH), Ex M_X10_turned lv 37 l st w = Ex M_X10_turned lv 38 l (.int 1 :: st) w)
  ∧ (∀ (lv : Nat) (l : LX) (st : List Value) (x y : Int32) (w : AH), Ex M_X10_turned lv 38 l (.int y :: .int x :: st) w = Ex M_X10_turned lv 39 l (.int (x + y) :: st) w)
  ∧ (∀ (lv : Nat) (l : LX) (st : List Value) (w : AH), Ex M_X10_turned lv 39 l st w = Ex M_X10_turned lv 40 l (.int 4 :: st) w)
  ∧ (∀ (lv : Nat) (l : LX) (st : List Value) (x y : Int32) (w : AH), Ex M_X10_turned lv 40 l (.int y :: .int x :: st) w = if y = 0 then none else Ex M_X10_turned lv 41 l (.int (x - x / y * y) :: st) w)
  ∧ (∀ (lv : Nat) (l : LX) (x : Int32) (w : AH), Ex M_X10_turned lv 41 l [.int x] w = some (some (.int x), w))
  ∧ (∀ (lv : Nat) (st : List Value) (t : LX) (x : Nat) (w : AH), Ex M_X10_turned lv 42 (some (.ref x) :: t) st w = Ex M_X10_turned lv 43 (some (.ref x) :: t) (.ref x :: st) w)
  ∧ (∀ (lv : Nat) (st : List Value) (t : LX) (w : AH), Ex M_X10_turned lv 42 (some (.null) :: t) st w = Ex M_X10_turned lv 43 (some (.null) :: t) (.null :: st) w)
  ∧ (∀ (lv : Nat) (l : LX) (st : List Value) (a : Nat) (w : AH), Ex M_X10_turned lv 43 l (.ref a :: st) w = if (gf (hg w a) 9 3).isSome = true then Ex M_X10_turned lv 46 l (vV (gf (hg w a) 9 3) :: st) w else none)
  ∧ (∀ (lv : Nat) (l : LX) (st : List Value) (w : AH), Ex M_X10_turned lv 46 l st w = Ex M_X10_turned lv 47 l (.int 3 :: st) w)
  ∧ (∀ (lv : Nat) (l : LX) (st : List Value) (x y : Int32) (w : AH), Ex M_X10_turned lv 47 l (.int y :: .int x :: st) w = Ex M_X10_turned lv 48 l (.int (x + y) :: st) w)
  ∧ (∀ (lv : Nat) (l : LX) (st : List Value) (w : AH), Ex M_X10_turned lv 48 l st w = Ex M_X10_turned lv 49 l (.int 4 :: st) w)
  ∧ (∀ (lv : Nat) (l : LX) (st : List Value) (x y : Int32) (w : AH), Ex M_X10_turned lv 49 l (.int y :: .int x :: st) w = if y = 0 then none else Ex M_X10_turned lv 50 l (.int (x - x / y * y) :: st) w)
  ∧ (∀ (lv : Nat) (l : LX) (x : Int32) (w : AH), Ex M_X10_turned lv 50 l [.int x] w = some (some (.int x), w))
  ∧ (∀ (lv : Nat) (st : List Value) (t : LX) (x : Nat) (w : AH), Ex M_X10_turned lv 51 (some (.ref x) :: t) st w = Ex M_X10_turned lv 52 (some (.ref x) :: t) (.ref x :: st) w)
  ∧ (∀ (lv : Nat) (st : List Value) (t : LX) (w : AH), Ex M_X10_turned lv 51 (some (.null) :: t) st w = Ex M_X10_turned lv 52 (some (.null) :: t) (.null :: st) w)
  ∧ (∀ (lv : Nat) (l : LX) (st : List Value) (a : Nat) (w : AH), Ex M_X10_turned lv 52 l (.ref a :: st) w = if (gf (hg w a) 9 3).isSome = true then Ex M_X10_turned lv 55 l (vV (gf (hg w a) 9 3) :: st) w else none)
  ∧ (∀ (lv : Nat) (l : LX) (st : List Value) (w : AH), Ex M_X10_turned lv 55 l st w = Ex M_X10_turned lv 56 l (.int 2 :: st) w)
  ∧ (∀ (lv : Nat) (l : LX) (st : List Value) (x y : Int32) (w : AH), Ex M_X10_turned lv 56 l (.int y :: .int x :: st) w = Ex M_X10_turned lv 57 l (.int (x + y) :: st) w)
  ∧ (∀ (lv : Nat) (l : LX) (st : List Value) (w : AH), Ex M_X10_turned lv 57 l st w = Ex M_X10_turned lv 58 l (.int 4 :: st) w)
  ∧ (∀ (lv : Nat) (l : LX) (st : List Value) (x y : Int32) (w : AH), Ex M_X10_turned lv 58 l (.int y :: .int x :: st) w = if y = 0 then none else Ex M_X10_turned lv 59 l (.int (x - x / y * y) :: st) w)
  ∧ (∀ (lv : Nat) (l : LX) (x : Int32) (w : AH), Ex M_X10_turned lv 59 l [.int x] w = some (some (.int x), w)) :=
  ⟨(fun lv st t o0 x w => Ex_M (i := .iload_n 1) (n := 1) (by decide +kernel) rfl rfl rfl),
   (fun lv l st x w => (by
      refine it_ite (fun hx0 => ?_) (fun hx0 => ?_)
      · subst hx0; exact Ex_tsIn (by decide +kernel : decode M_X10_turned.2.1 1 = .ok (.tableswitch 50 0 2 #[27, 32, 41], 27)) (by decide) rfl rfl
      refine it_ite (fun hx1 => ?_) (fun hx1 => ?_)
      · subst hx1; exact Ex_tsIn (by decide +kernel : decode M_X10_turned.2.1 1 = .ok (.tableswitch 50 0 2 #[27, 32, 41], 27)) (by decide) rfl rfl
      refine it_ite (fun hx2 => ?_) (fun hx2 => ?_)
      · subst hx2; exact Ex_tsIn (by decide +kernel : decode M_X10_turned.2.1 1 = .ok (.tableswitch 50 0 2 #[27, 32, 41], 27)) (by decide) rfl rfl
      exact Ex_tsOut (by decide +kernel : decode M_X10_turned.2.1 1 = .ok (.tableswitch 50 0 2 #[27, 32, 41], 27)) (ts_out 0 2 (by have := n_toInt (z := 0) rfl hx0; have := n_toInt (z := 1) rfl hx1; have := n_toInt (z := 2) rfl hx2; omega)) rfl)),
   (fun lv st t x w => Ex_M (i := .aload_n 0) (n := 1) (by decide +kernel) rfl rfl rfl),
   (fun lv st t w => Ex_M (i := .aload_n 0) (n := 1) (by decide +kernel) rfl rfl rfl),
   (fun lv l st a w => Ex_getf (by decide +kernel : decode M_X10_turned.2.1 29 = .ok (.getfield 21, 3)) rfl (by decide +kernel : resF (mCn M_X10_turned) 21 = some (9, 3, .int, false))),
   (fun lv l x w => Ex_R (i := .ireturn) (n := 1) (by decide +kernel) rfl rfl rfl rfl rfl),
   (fun lv st t x w => Ex_M (i := .aload_n 0) (n := 1) (by decide +kernel) rfl rfl rfl),
   (fun lv st t w => Ex_M (i := .aload_n 0) (n := 1) (by decide +kernel) rfl rfl rfl),
   (fun lv l st a w => Ex_getf (by decide +kernel : decode M_X10_turned.2.1 34 = .ok (.getfield 21, 3)) rfl (by decide +kernel : resF (mCn M_X10_turned) 21 = some (9, 3, .int, false))),
   (fun lv l st w => Ex_A (i := .iconst 1) (n := 1) (by decide +kernel) rfl rfl),
   (fun lv l st x y w => Ex_A (i := .iadd) (n := 1) (by decide +kernel) rfl rfl),
   (fun lv l st w => Ex_A (i := .iconst 4) (n := 1) (by decide +kernel) rfl rfl),
   (fun lv l st x y w => Ex_irem (by decide +kernel : decode M_X10_turned.2.1 40 = .ok (.irem, 1)) rfl),
   (fun lv l x w => Ex_R (i := .ireturn) (n := 1) (by decide +kernel) rfl rfl rfl rfl rfl),
   (fun lv st t x w => Ex_M (i := .aload_n 0) (n := 1) (by decide +kernel) rfl rfl rfl),
   (fun lv st t w => Ex_M (i := .aload_n 0) (n := 1) (by decide +kernel) rfl rfl rfl),
   (fun lv l st a w => Ex_getf (by decide +kernel : decode M_X10_turned.2.1 43 = .ok (.getfield 21, 3)) rfl (by decide +kernel : resF (mCn M_X10_turned) 21 = some (9, 3, .int, false))),
   (fun lv l st w => Ex_A (i := .iconst 3) (n := 1) (by decide +kernel) rfl rfl),
   (fun lv l st x y w => Ex_A (i := .iadd) (n := 1) (by decide +kernel) rfl rfl),
   (fun lv l st w => Ex_A (i := .iconst 4) (n := 1) (by decide +kernel) rfl rfl),
   (fun lv l st x y w => Ex_irem (by decide +kernel : decode M_X10_turned.2.1 49 = .ok (.irem, 1)) rfl),
   (fun lv l x w => Ex_R (i := .ireturn) (n := 1) (by decide +kernel) rfl rfl rfl rfl rfl),
   (fun lv st t x w => Ex_M (i := .aload_n 0) (n := 1) (by decide +kernel) rfl rfl rfl),
   (fun lv st t w => Ex_M (i := .aload_n 0) (n := 1) (by decide +kernel) rfl rfl rfl),
   (fun lv l st a w => Ex_getf (by decide +kernel : decode M_X10_turned.2.1 52 = .ok (.getfield 21, 3)) rfl (by decide +kernel : resF (mCn M_X10_turned) 21 = some (9, 3, .int, false))),
   (fun lv l st w => Ex_A (i := .iconst 2) (n := 1) (by decide +kernel) rfl rfl),
   (fun lv l st x y w => Ex_A (i := .iadd) (n := 1) (by decide +kernel) rfl rfl),
   (fun lv l st w => Ex_A (i := .iconst 4) (n := 1) (by decide +kernel) rfl rfl),
   (fun lv l st x y w => Ex_irem (by decide +kernel : decode M_X10_turned.2.1 58 = .ok (.irem, 1)) rfl),
   (fun lv l x w => Ex_R (i := .ireturn) (n := 1) (by decide +kernel) rfl rfl rfl rfl rfl)⟩
set_option maxRecDepth 20000 in
theorem H_X10_stepAsMoth_10 : ∀ (lv : Nat) (st : List Value) (t : LX) (o0 o1 o2 o3 : Option Value) (x : Int32) (w : AH), Ex M_X10_stepAsMoth lv 10 (o0 :: o1 :: o2 :: o3 :: some (.int x) :: t) st w = Ex M_X10_stepAsMoth lv 12 (o0 :: o1 :: o2 :: o3 :: some (.int x) :: t) (.int x :: st) w := fun lv st t o0 o1 o2 o3 x w => Ex_M (i := .iload 4) (n := 2) (by decide +kernel) rfl rfl rfl
set_option maxRecDepth 20000 in
set_option maxHeartbeats 4000000 in
theorem R_X10_stepAsMoth : (∀ (lv : Nat) (l : LX) (st : List Value) (w : AH), Ex M_X10_stepAsMoth lv 0 l st w = Ex M_X10_stepAsMoth lv 1 l (.int (-1) :: st) w)
  ∧ (∀ (lv : Nat) (l : LX) (st : List Value) (x : Int32) (w : AH), Ex M_X10_stepAsMoth lv 1 l (.int x :: st) w = Ex M_X10_stepAsMoth lv 2 (ls1 l 2 (.int x)) st w)
  ∧ (∀ (lv : Nat) (st : List Value) (t : LX) (x : Nat) (w : AH), Ex M_X10_stepAsMoth lv 2 (some (.ref x) :: t) st w = Ex M_X10_stepAsMoth lv 3 (some (.ref x) :: t) (.ref x :: st) w)
  ∧ (∀ (lv : Nat) (st : List Value) (t : LX) (w : AH), Ex M_X10_stepAsMoth lv 2 (some (.null) :: t) st w = Ex M_X10_stepAsMoth lv 3 (some (.null) :: t) (.null :: st) w)
  ∧ (∀ (lv : Nat) (l : LX) (st : List Value) (a : Nat) (w : AH), Ex M_X10_stepAsMoth lv 3 l (.ref a :: st) w = if (gf (hg w a) 9 3).isSome = true then Ex M_X10_stepAsMoth lv 6 l (vV (gf (hg w a) 9 3) :: st) w else none)
  ∧ (∀ (lv : Nat) (l : LX) (st : List Value) (x : Int32) (w : AH), Ex M_X10_stepAsMoth lv 6 l (.int x :: st) w = Ex M_X10_stepAsMoth lv 7 (ls1 l 3 (.int x)) st w)
  ∧ (∀ (lv : Nat) (l : LX) (st : List Value) (w : AH), Ex M_X10_stepAsMoth lv 7 l st w = Ex M_X10_stepAsMoth lv 8 l (.int 0 :: st) w)
  ∧ (∀ (lv : Nat) (l : LX) (st : List Value) (x : Int32) (w : AH), Ex M_X10_stepAsMoth lv 8 l (.int x :: st) w = Ex M_X10_stepAsMoth lv 10 (ls1 l 4 (.int x)) st w)
  ∧ (∀ (lv : Nat) (l : LX) (st : List Value) (w : AH), Ex M_X10_stepAsMoth lv 12 l st w = Ex M_X10_stepAsMoth lv 13 l (.int 4 :: st) w)
  ∧ (∀ (lv : Nat) (l : LX) (st : List Value) (x y : Int32) (w : AH), Ex M_X10_stepAsMoth lv 13 l (.int y :: .int x :: st) w = if y ≤ x then Ex M_X10_stepAsMoth lv 58 l st w else Ex M_X10_stepAsMoth lv 16 l st w)
  ∧ (∀ (lv : Nat) (st : List Value) (t : LX) (x : Nat) (w : AH), Ex M_X10_stepAsMoth lv 16 (some (.ref x) :: t) st w = Ex M_X10_stepAsMoth lv 17 (some (.ref x) :: t) (.ref x :: st) w)
  ∧ (∀ (lv : Nat) (st : List Value) (t : LX) (w : AH), Ex M_X10_stepAsMoth lv 16 (some (.null) :: t) st w = Ex M_X10_stepAsMoth lv 17 (some (.null) :: t) (.null :: st) w)
  ∧ (∀ (lv : Nat) (l : LX) (st : List Value) (a : Nat) (w : AH), Ex M_X10_stepAsMoth lv 17 l (.ref a :: st) w = if (gf (hg w a) 9 2).isSome = true then Ex M_X10_stepAsMoth lv 20 l (vV (gf (hg w a) 9 2) :: st) w else none)
  ∧ (∀ (lv : Nat) (st : List Value) (t : LX) (o0 o1 o2 o3 : Option Value) (x : Int32) (w : AH), Ex M_X10_stepAsMoth lv 20 (o0 :: o1 :: o2 :: o3 :: some (.int x) :: t) st w = Ex M_X10_stepAsMoth lv 22 (o0 :: o1 :: o2 :: o3 :: some (.int x) :: t) (.int x :: st) w)
  ∧ (∀ (lv : Nat) (l : LX) (a0 : Int32) (a1 : Int32) (w : AH), Ex M_X10_stepAsMoth lv 22 l (.int a1 :: .int a0 :: []) w = if (Call M_X7_beside 60 [.int a0, .int a1] w).isSome = true then Ex M_X10_stepAsMoth lv 25 l (pushR (cV (Call M_X7_beside 60 [.int a0, .int a1] w)) []) (cW (Call M_X7_beside 60 [.int a0, .int a1] w) w) else none)
  ∧ (∀ (lv : Nat) (l : LX) (st : List Value) (x : Int32) (w : AH), Ex M_X10_stepAsMoth lv 25 l (.int x :: st) w = Ex M_X10_stepAsMoth lv 27 (ls1 l 5 (.int x)) st w)
  ∧ (∀ (lv : Nat) (st : List Value) (t : LX) (o0 o1 o2 o3 o4 : Option Value) (x : Int32) (w : AH), Ex M_X10_stepAsMoth lv 27 (o0 :: o1 :: o2 :: o3 :: o4 :: some (.int x) :: t) st w = Ex M_X10_stepAsMoth lv 29 (o0 :: o1 :: o2 :: o3 :: o4 :: some (.int x) :: t) (.int x :: st) w)
  ∧ (∀ (lv : Nat) (l : LX) (st : List Value) (x : Int32) (w : AH), Ex M_X10_stepAsMoth lv 29 l (.int x :: st) w = if x < 0 then Ex M_X10_stepAsMoth lv 52 l st w else Ex M_X10_stepAsMoth lv 32 l st w)
  ∧ (∀ (lv : Nat) (st : List Value) (t : LX) (o0 : Option Value) (x : Nat) (w : AH), Ex M_X10_stepAsMoth lv 32 (o0 :: some (.ref x) :: t) st w = Ex M_X10_stepAsMoth lv 33 (o0 :: some (.ref x) :: t) (.ref x :: st) w)
  ∧ (∀ (lv : Nat) (st : List Value) (t : LX) (o0 : Option Value) (w : AH), Ex M_X10_stepAsMoth lv 32 (o0 :: some (.null) :: t) st w = Ex M_X10_stepAsMoth lv 33 (o0 :: some (.null) :: t) (.null :: st) w)
  ∧ (∀ (lv : Nat) (st : List Value) (t : LX) (o0 o1 o2 o3 o4 : Option Value) (x : Int32) (w : AH), Ex M_X10_stepAsMoth lv 33 (o0 :: o1 :: o2 :: o3 :: o4 :: some (.int x) :: t) st w = Ex M_X10_stepAsMoth lv 35 (o0 :: o1 :: o2 :: o3 :: o4 :: some (.int x) :: t) (.int x :: st) w)
  ∧ (∀ (lv : Nat) (l : LX) (b : Nat) (a0 : Int32) (w : AH), Ex M_X10_stepAsMoth lv 35 l (.int a0 :: .ref b :: []) w = if clK (hg w b) = 0 then (if (Call M_X0_colourOf 60 [.ref b, .int a0] w).isSome = true then Ex M_X10_stepAsMoth lv 38 l (pushR (cV (Call M_X0_colourOf 60 [.ref b, .int a0] w)) []) (cW (Call M_X0_colourOf 60 [.ref b, .int a0] w) w) else none) else none)
  ∧ (∀ (lv : Nat) (st : List Value) (t : LX) (o0 o1 : Option Value) (x : Int32) (w : AH), Ex M_X10_stepAsMoth lv 38 (o0 :: o1 :: some (.int x) :: t) st w = Ex M_X10_stepAsMoth lv 39 (o0 :: o1 :: some (.int x) :: t) (.int x :: st) w)
  ∧ (∀ (lv : Nat) (l : LX) (st : List Value) (x y : Int32) (w : AH), Ex M_X10_stepAsMoth lv 39 l (.int y :: .int x :: st) w = if x ≤ y then Ex M_X10_stepAsMoth lv 52 l st w else Ex M_X10_stepAsMoth lv 42 l st w)
  ∧ (∀ (lv : Nat) (st : List Value) (t : LX) (o0 : Option Value) (x : Nat) (w : AH), Ex M_X10_stepAsMoth lv 42 (o0 :: some (.ref x) :: t) st w = Ex M_X10_stepAsMoth lv 43 (o0 :: some (.ref x) :: t) (.ref x :: st) w)
  ∧ (∀ (lv : Nat) (st : List Value) (t : LX) (o0 : Option Value) (w : AH), Ex M_X10_stepAsMoth lv 42 (o0 :: some (.null) :: t) st w = Ex M_X10_stepAsMoth lv 43 (o0 :: some (.null) :: t) (.null :: st) w)
  ∧ (∀ (lv : Nat) (st : List Value) (t : LX) (o0 o1 o2 o3 o4 : Option Value) (x : Int32) (w : AH), Ex M_X10_stepAsMoth lv 43 (o0 :: o1 :: o2 :: o3 :: o4 :: some (.int x) :: t) st w = Ex M_X10_stepAsMoth lv 45 (o0 :: o1 :: o2 :: o3 :: o4 :: some (.int x) :: t) (.int x :: st) w)
  ∧ (∀ (lv : Nat) (l : LX) (b : Nat) (a0 : Int32) (w : AH), Ex M_X10_stepAsMoth lv 45 l (.int a0 :: .ref b :: []) w = if clK (hg w b) = 0 then (if (Call M_X0_colourOf 60 [.ref b, .int a0] w).isSome = true then Ex M_X10_stepAsMoth lv 48 l (pushR (cV (Call M_X0_colourOf 60 [.ref b, .int a0] w)) []) (cW (Call M_X0_colourOf 60 [.ref b, .int a0] w) w) else none) else none)
  ∧ (∀ (lv : Nat) (l : LX) (st : List Value) (x : Int32) (w : AH), Ex M_X10_stepAsMoth lv 48 l (.int x :: st) w = Ex M_X10_stepAsMoth lv 49 (ls1 l 2 (.int x)) st w)
  ∧ (∀ (lv : Nat) (st : List Value) (t : LX) (o0 o1 o2 o3 : Option Value) (x : Int32) (w : AH), Ex M_X10_stepAsMoth lv 49 (o0 :: o1 :: o2 :: o3 :: some (.int x) :: t) st w = Ex M_X10_stepAsMoth lv 51 (o0 :: o1 :: o2 :: o3 :: some (.int x) :: t) (.int x :: st) w)
  ∧ (∀ (lv : Nat) (l : LX) (st : List Value) (x : Int32) (w : AH), Ex M_X10_stepAsMoth lv 51 l (.int x :: st) w = Ex M_X10_stepAsMoth lv 52 (ls1 l 3 (.int x)) st w)
  ∧ (∀ (lv : Nat) (st : List Value) (t : LX) (o0 o1 o2 o3 : Option Value) (x : Int32) (w : AH), Ex M_X10_stepAsMoth lv 52 (o0 :: o1 :: o2 :: o3 :: some (.int x) :: t) st w = Ex M_X10_stepAsMoth lv 55 (ls1 (o0 :: o1 :: o2 :: o3 :: some (.int x) :: t) 4 (.int (x + 1))) st w)
  ∧ (∀ (lv : Nat) (l : LX) (st : List Value) (w : AH), Ex M_X10_stepAsMoth lv 55 l st w = Ex M_X10_stepAsMoth lv 10 l st w)
  ∧ (∀ (lv : Nat) (st : List Value) (t : LX) (x : Nat) (w : AH), Ex M_X10_stepAsMoth lv 58 (some (.ref x) :: t) st w = Ex M_X10_stepAsMoth lv 59 (some (.ref x) :: t) (.ref x :: st) w)
  ∧ (∀ (lv : Nat) (st : List Value) (t : LX) (w : AH), Ex M_X10_stepAsMoth lv 58 (some (.null) :: t) st w = Ex M_X10_stepAsMoth lv 59 (some (.null) :: t) (.null :: st) w)
  ∧ (∀ (lv : Nat) (st : List Value) (t : LX) (o0 o1 o2 : Option Value) (x : Int32) (w : AH), Ex M_X10_stepAsMoth lv 59 (o0 :: o1 :: o2 :: some (.int x) :: t) st w = Ex M_X10_stepAsMoth lv 60 (o0 :: o1 :: o2 :: some (.int x) :: t) (.int x :: st) w)
  ∧ (∀ (lv : Nat) (l : LX) (b : Nat) (a0 : Int32) (w : AH), Ex M_X10_stepAsMoth lv 60 l (.int a0 :: .ref b :: []) w = if clK (hg w b) = 9 then (if (Call M_X10_go 60 [.ref b, .int a0] w).isSome = true then Ex M_X10_stepAsMoth lv 63 l (pushR (cV (Call M_X10_go 60 [.ref b, .int a0] w)) []) (cW (Call M_X10_go 60 [.ref b, .int a0] w) w) else none) else none)
  ∧ (∀ (lv : Nat) (l : LX) (w : AH), Ex M_X10_stepAsMoth lv 63 l [] w = some (none, w)) :=
  ⟨(fun lv l st w => Ex_A (i := .iconst (-1)) (n := 1) (by decide +kernel) rfl rfl),
   (fun lv l st x w => Ex_M (i := .istore_n 2) (n := 1) (by decide +kernel) rfl rfl rfl),
   (fun lv st t x w => Ex_M (i := .aload_n 0) (n := 1) (by decide +kernel) rfl rfl rfl),
   (fun lv st t w => Ex_M (i := .aload_n 0) (n := 1) (by decide +kernel) rfl rfl rfl),
   (fun lv l st a w => Ex_getf (by decide +kernel : decode M_X10_stepAsMoth.2.1 3 = .ok (.getfield 21, 3)) rfl (by decide +kernel : resF (mCn M_X10_stepAsMoth) 21 = some (9, 3, .int, false))),
   (fun lv l st x w => Ex_M (i := .istore_n 3) (n := 1) (by decide +kernel) rfl rfl rfl),
   (fun lv l st w => Ex_A (i := .iconst 0) (n := 1) (by decide +kernel) rfl rfl),
   (fun lv l st x w => Ex_M (i := .istore 4) (n := 2) (by decide +kernel) rfl rfl rfl),
   (fun lv l st w => Ex_A (i := .iconst 4) (n := 1) (by decide +kernel) rfl rfl),
   (fun lv l st x y w => Ex_icmp_ge (by decide +kernel : decode M_X10_stepAsMoth.2.1 13 = .ok (.if_icmp .ge 45, 3)) rfl rfl),
   (fun lv st t x w => Ex_M (i := .aload_n 0) (n := 1) (by decide +kernel) rfl rfl rfl),
   (fun lv st t w => Ex_M (i := .aload_n 0) (n := 1) (by decide +kernel) rfl rfl rfl),
   (fun lv l st a w => Ex_getf (by decide +kernel : decode M_X10_stepAsMoth.2.1 17 = .ok (.getfield 18, 3)) rfl (by decide +kernel : resF (mCn M_X10_stepAsMoth) 18 = some (9, 2, .int, false))),
   (fun lv st t o0 o1 o2 o3 x w => Ex_M (i := .iload 4) (n := 2) (by decide +kernel) rfl rfl rfl),
   (fun lv l a0 a1 w => Ex_callS (by decide +kernel : decode M_X10_stepAsMoth.2.1 22 = .ok (.invokestatic 55, 3)) rfl (by rfl : resM (mCn M_X10_stepAsMoth) 55 = some (0, M_X7_beside)) (by decide) rfl (by rfl) (Nat.le_of_ble_eq_true rfl) (sLv_lt (by decide +kernel))),
   (fun lv l st x w => Ex_M (i := .istore 5) (n := 2) (by decide +kernel) rfl rfl rfl),
   (fun lv st t o0 o1 o2 o3 o4 x w => Ex_M (i := .iload 5) (n := 2) (by decide +kernel) rfl rfl rfl),
   (fun lv l st x w => Ex_if_lt (by decide +kernel : decode M_X10_stepAsMoth.2.1 29 = .ok (.ifCond .lt 23, 3)) rfl rfl),
   (fun lv st t o0 x w => Ex_M (i := .aload_n 1) (n := 1) (by decide +kernel) rfl rfl rfl),
   (fun lv st t o0 w => Ex_M (i := .aload_n 1) (n := 1) (by decide +kernel) rfl rfl rfl),
   (fun lv st t o0 o1 o2 o3 o4 x w => Ex_M (i := .iload 5) (n := 2) (by decide +kernel) rfl rfl rfl),
   (fun lv l b a0 w => Ex_callV (by decide +kernel : decode M_X10_stepAsMoth.2.1 35 = .ok (.invokevirtual 65, 3)) rfl (by rfl : resM (mCn M_X10_stepAsMoth) 65 = some (2, M_X0_colourOf)) rfl (by rfl) (Nat.le_of_ble_eq_true rfl) (by decide +kernel) (sLv_lt (by decide +kernel))),
   (fun lv st t o0 o1 x w => Ex_M (i := .iload_n 2) (n := 1) (by decide +kernel) rfl rfl rfl),
   (fun lv l st x y w => Ex_icmp_le (by decide +kernel : decode M_X10_stepAsMoth.2.1 39 = .ok (.if_icmp .le 13, 3)) rfl rfl),
   (fun lv st t o0 x w => Ex_M (i := .aload_n 1) (n := 1) (by decide +kernel) rfl rfl rfl),
   (fun lv st t o0 w => Ex_M (i := .aload_n 1) (n := 1) (by decide +kernel) rfl rfl rfl),
   (fun lv st t o0 o1 o2 o3 o4 x w => Ex_M (i := .iload 5) (n := 2) (by decide +kernel) rfl rfl rfl),
   (fun lv l b a0 w => Ex_callV (by decide +kernel : decode M_X10_stepAsMoth.2.1 45 = .ok (.invokevirtual 65, 3)) rfl (by rfl : resM (mCn M_X10_stepAsMoth) 65 = some (2, M_X0_colourOf)) rfl (by rfl) (Nat.le_of_ble_eq_true rfl) (by decide +kernel) (sLv_lt (by decide +kernel))),
   (fun lv l st x w => Ex_M (i := .istore_n 2) (n := 1) (by decide +kernel) rfl rfl rfl),
   (fun lv st t o0 o1 o2 o3 x w => Ex_M (i := .iload 4) (n := 2) (by decide +kernel) rfl rfl rfl),
   (fun lv l st x w => Ex_M (i := .istore_n 3) (n := 1) (by decide +kernel) rfl rfl rfl),
   (fun lv st t o0 o1 o2 o3 x w => Ex_iinc (by decide +kernel : decode M_X10_stepAsMoth.2.1 52 = .ok (.iinc 4 1, 3)) rfl rfl (by decide) (by decide)),
   (fun lv l st w => Ex_goto (by decide +kernel : decode M_X10_stepAsMoth.2.1 55 = .ok (.goto (-45), 3)) rfl),
   (fun lv st t x w => Ex_M (i := .aload_n 0) (n := 1) (by decide +kernel) rfl rfl rfl),
   (fun lv st t w => Ex_M (i := .aload_n 0) (n := 1) (by decide +kernel) rfl rfl rfl),
   (fun lv st t o0 o1 o2 x w => Ex_M (i := .iload_n 3) (n := 1) (by decide +kernel) rfl rfl rfl),
   (fun lv l b a0 w => Ex_callV (by decide +kernel : decode M_X10_stepAsMoth.2.1 60 = .ok (.invokevirtual 61, 3)) rfl (by rfl : resM (mCn M_X10_stepAsMoth) 61 = some (2, M_X10_go)) rfl (by rfl) (Nat.le_of_ble_eq_true rfl) (by decide +kernel) (sLv_lt (by decide +kernel))),
   (fun lv l w => Ex_R (i := .return_) (n := 1) (by decide +kernel) rfl rfl rfl rfl rfl)⟩
set_option maxRecDepth 20000 in
set_option maxHeartbeats 4000000 in
theorem R_X10_go : (∀ (lv : Nat) (st : List Value) (t : LX) (x : Nat) (w : AH), Ex M_X10_go lv 0 (some (.ref x) :: t) st w = Ex M_X10_go lv 1 (some (.ref x) :: t) (.ref x :: st) w)
  ∧ (∀ (lv : Nat) (st : List Value) (t : LX) (w : AH), Ex M_X10_go lv 0 (some (.null) :: t) st w = Ex M_X10_go lv 1 (some (.null) :: t) (.null :: st) w)
  ∧ (∀ (lv : Nat) (l : LX) (st : List Value) (a : Nat) (w : AH), Ex M_X10_go lv 1 l (.ref a :: st) w = if (gf (hg w a) 9 2).isSome = true then Ex M_X10_go lv 4 l (vV (gf (hg w a) 9 2) :: st) w else none)
  ∧ (∀ (lv : Nat) (st : List Value) (t : LX) (o0 : Option Value) (x : Int32) (w : AH), Ex M_X10_go lv 4 (o0 :: some (.int x) :: t) st w = Ex M_X10_go lv 5 (o0 :: some (.int x) :: t) (.int x :: st) w)
  ∧ (∀ (lv : Nat) (l : LX) (a0 : Int32) (a1 : Int32) (w : AH), Ex M_X10_go lv 5 l (.int a1 :: .int a0 :: []) w = if (Call M_X7_beside 60 [.int a0, .int a1] w).isSome = true then Ex M_X10_go lv 8 l (pushR (cV (Call M_X7_beside 60 [.int a0, .int a1] w)) []) (cW (Call M_X7_beside 60 [.int a0, .int a1] w) w) else none)
  ∧ (∀ (lv : Nat) (l : LX) (st : List Value) (x : Int32) (w : AH), Ex M_X10_go lv 8 l (.int x :: st) w = Ex M_X10_go lv 9 (ls1 l 2 (.int x)) st w)
  ∧ (∀ (lv : Nat) (st : List Value) (t : LX) (o0 o1 : Option Value) (x : Int32) (w : AH), Ex M_X10_go lv 9 (o0 :: o1 :: some (.int x) :: t) st w = Ex M_X10_go lv 10 (o0 :: o1 :: some (.int x) :: t) (.int x :: st) w)
  ∧ (∀ (lv : Nat) (l : LX) (st : List Value) (x : Int32) (w : AH), Ex M_X10_go lv 10 l (.int x :: st) w = if 0 ≤ x then Ex M_X10_go lv 14 l st w else Ex M_X10_go lv 13 l st w)
  ∧ (∀ (lv : Nat) (l : LX) (w : AH), Ex M_X10_go lv 13 l [] w = some (none, w))
  ∧ (∀ (lv : Nat) (st : List Value) (t : LX) (x : Nat) (w : AH), Ex M_X10_go lv 14 (some (.ref x) :: t) st w = Ex M_X10_go lv 15 (some (.ref x) :: t) (.ref x :: st) w)
  ∧ (∀ (lv : Nat) (st : List Value) (t : LX) (w : AH), Ex M_X10_go lv 14 (some (.null) :: t) st w = Ex M_X10_go lv 15 (some (.null) :: t) (.null :: st) w)
  ∧ (∀ (lv : Nat) (st : List Value) (t : LX) (o0 : Option Value) (x : Int32) (w : AH), Ex M_X10_go lv 15 (o0 :: some (.int x) :: t) st w = Ex M_X10_go lv 16 (o0 :: some (.int x) :: t) (.int x :: st) w)
  ∧ (∀ (lv : Nat) (l : LX) (st : List Value) (a : Nat) (v : Value) (w : AH), Ex M_X10_go lv 16 l (v :: .ref a :: st) w = if (pf (hg w a) 9 3 .int v).isSome = true then Ex M_X10_go lv 19 l st (hs w a (vE (pf (hg w a) 9 3 .int v))) else none)
  ∧ (∀ (lv : Nat) (st : List Value) (t : LX) (x : Nat) (w : AH), Ex M_X10_go lv 19 (some (.ref x) :: t) st w = Ex M_X10_go lv 20 (some (.ref x) :: t) (.ref x :: st) w)
  ∧ (∀ (lv : Nat) (st : List Value) (t : LX) (w : AH), Ex M_X10_go lv 19 (some (.null) :: t) st w = Ex M_X10_go lv 20 (some (.null) :: t) (.null :: st) w)
  ∧ (∀ (lv : Nat) (st : List Value) (t : LX) (o0 o1 : Option Value) (x : Int32) (w : AH), Ex M_X10_go lv 20 (o0 :: o1 :: some (.int x) :: t) st w = Ex M_X10_go lv 21 (o0 :: o1 :: some (.int x) :: t) (.int x :: st) w)
  ∧ (∀ (lv : Nat) (l : LX) (st : List Value) (a : Nat) (v : Value) (w : AH), Ex M_X10_go lv 21 l (v :: .ref a :: st) w = if (pf (hg w a) 9 2 .int v).isSome = true then Ex M_X10_go lv 24 l st (hs w a (vE (pf (hg w a) 9 2 .int v))) else none)
  ∧ (∀ (lv : Nat) (l : LX) (w : AH), Ex M_X10_go lv 24 l [] w = some (none, w)) :=
  ⟨(fun lv st t x w => Ex_M (i := .aload_n 0) (n := 1) (by decide +kernel) rfl rfl rfl),
   (fun lv st t w => Ex_M (i := .aload_n 0) (n := 1) (by decide +kernel) rfl rfl rfl),
   (fun lv l st a w => Ex_getf (by decide +kernel : decode M_X10_go.2.1 1 = .ok (.getfield 18, 3)) rfl (by decide +kernel : resF (mCn M_X10_go) 18 = some (9, 2, .int, false))),
   (fun lv st t o0 x w => Ex_M (i := .iload_n 1) (n := 1) (by decide +kernel) rfl rfl rfl),
   (fun lv l a0 a1 w => Ex_callS (by decide +kernel : decode M_X10_go.2.1 5 = .ok (.invokestatic 55, 3)) rfl (by rfl : resM (mCn M_X10_go) 55 = some (0, M_X7_beside)) (by decide) rfl (by rfl) (Nat.le_of_ble_eq_true rfl) (sLv_lt (by decide +kernel))),
   (fun lv l st x w => Ex_M (i := .istore_n 2) (n := 1) (by decide +kernel) rfl rfl rfl),
   (fun lv st t o0 o1 x w => Ex_M (i := .iload_n 2) (n := 1) (by decide +kernel) rfl rfl rfl),
   (fun lv l st x w => Ex_if_ge (by decide +kernel : decode M_X10_go.2.1 10 = .ok (.ifCond .ge 4, 3)) rfl rfl),
   (fun lv l w => Ex_R (i := .return_) (n := 1) (by decide +kernel) rfl rfl rfl rfl rfl),
   (fun lv st t x w => Ex_M (i := .aload_n 0) (n := 1) (by decide +kernel) rfl rfl rfl),
   (fun lv st t w => Ex_M (i := .aload_n 0) (n := 1) (by decide +kernel) rfl rfl rfl),
   (fun lv st t o0 x w => Ex_M (i := .iload_n 1) (n := 1) (by decide +kernel) rfl rfl rfl),
   (fun lv l st a v w => Ex_putf (by decide +kernel : decode M_X10_go.2.1 16 = .ok (.putfield 21, 3)) rfl (by decide +kernel : resF (mCn M_X10_go) 21 = some (9, 3, .int, false)) (by decide +kernel)),
   (fun lv st t x w => Ex_M (i := .aload_n 0) (n := 1) (by decide +kernel) rfl rfl rfl),
   (fun lv st t w => Ex_M (i := .aload_n 0) (n := 1) (by decide +kernel) rfl rfl rfl),
   (fun lv st t o0 o1 x w => Ex_M (i := .iload_n 2) (n := 1) (by decide +kernel) rfl rfl rfl),
   (fun lv l st a v w => Ex_putf (by decide +kernel : decode M_X10_go.2.1 21 = .ok (.putfield 18, 3)) rfl (by decide +kernel : resF (mCn M_X10_go) 18 = some (9, 2, .int, false)) (by decide +kernel)),
   (fun lv l w => Ex_R (i := .return_) (n := 1) (by decide +kernel) rfl rfl rfl rfl rfl)⟩
set_option maxRecDepth 20000 in
set_option maxHeartbeats 4000000 in
theorem R_J13_bitCount_95d88 : (∀ (lv : Nat) (st : List Value) (t : LX) (x : Int64) (w : AH), Ex M_J13_bitCount_95d88 lv 0 (some (.long x) :: t) st w = Ex M_J13_bitCount_95d88 lv 1 (some (.long x) :: t) (.long x :: st) w)
  ∧ (∀ (lv : Nat) (st : List Value) (t : LX) (x : Int64) (w : AH), Ex M_J13_bitCount_95d88 lv 1 (some (.long x) :: t) st w = Ex M_J13_bitCount_95d88 lv 2 (some (.long x) :: t) (.long x :: st) w)
  ∧ (∀ (lv : Nat) (l : LX) (st : List Value) (w : AH), Ex M_J13_bitCount_95d88 lv 2 l st w = Ex M_J13_bitCount_95d88 lv 3 l (.int 1 :: st) w)
  ∧ (∀ (lv : Nat) (l : LX) (st : List Value) (x : Int64) (y : Int32) (w : AH), Ex M_J13_bitCount_95d88 lv 3 l (.int y :: .long x :: st) w = Ex M_J13_bitCount_95d88 lv 4 l (.long ((x.toUInt64 >>> (y.toInt64.toUInt64 &&& Int64.toUInt64 63)).toInt64) :: st) w)
  ∧ (∀ (lv : Nat) (l : LX) (st : List Value) (w : AH), Ex M_J13_bitCount_95d88 lv 4 l st w = Ex M_J13_bitCount_95d88 lv 7 l (.long 6148914691236517205 :: st) w)
  ∧ (∀ (lv : Nat) (l : LX) (st : List Value) (x y : Int64) (w : AH), Ex M_J13_bitCount_95d88 lv 7 l (.long y :: .long x :: st) w = Ex M_J13_bitCount_95d88 lv 8 l (.long (x &&& y) :: st) w)
  ∧ (∀ (lv : Nat) (l : LX) (st : List Value) (x y : Int64) (w : AH), Ex M_J13_bitCount_95d88 lv 8 l (.long y :: .long x :: st) w = Ex M_J13_bitCount_95d88 lv 9 l (.long (x - y) :: st) w)
  ∧ (∀ (lv : Nat) (l : LX) (st : List Value) (x : Int64) (w : AH), Ex M_J13_bitCount_95d88 lv 9 l (.long x :: st) w = Ex M_J13_bitCount_95d88 lv 10 (ls2 l 0 (.long x)) st w)
  ∧ (∀ (lv : Nat) (st : List Value) (t : LX) (x : Int64) (w : AH), Ex M_J13_bitCount_95d88 lv 10 (some (.long x) :: t) st w = Ex M_J13_bitCount_95d88 lv 11 (some (.long x) :: t) (.long x :: st) w)
  ∧ (∀ (lv : Nat) (l : LX) (st : List Value) (w : AH), Ex M_J13_bitCount_95d88 lv 11 l st w = Ex M_J13_bitCount_95d88 lv 14 l (.long 3689348814741910323 :: st) w)
  ∧ (∀ (lv : Nat) (l : LX) (st : List Value) (x y : Int64) (w : AH), Ex M_J13_bitCount_95d88 lv 14 l (.long y :: .long x :: st) w = Ex M_J13_bitCount_95d88 lv 15 l (.long (x &&& y) :: st) w)
  ∧ (∀ (lv : Nat) (st : List Value) (t : LX) (x : Int64) (w : AH), Ex M_J13_bitCount_95d88 lv 15 (some (.long x) :: t) st w = Ex M_J13_bitCount_95d88 lv 16 (some (.long x) :: t) (.long x :: st) w)
  ∧ (∀ (lv : Nat) (l : LX) (st : List Value) (w : AH), Ex M_J13_bitCount_95d88 lv 16 l st w = Ex M_J13_bitCount_95d88 lv 17 l (.int 2 :: st) w)
  ∧ (∀ (lv : Nat) (l : LX) (st : List Value) (x : Int64) (y : Int32) (w : AH), Ex M_J13_bitCount_95d88 lv 17 l (.int y :: .long x :: st) w = Ex M_J13_bitCount_95d88 lv 18 l (.long ((x.toUInt64 >>> (y.toInt64.toUInt64 &&& Int64.toUInt64 63)).toInt64) :: st) w)
  ∧ (∀ (lv : Nat) (l : LX) (st : List Value) (w : AH), Ex M_J13_bitCount_95d88 lv 18 l st w = Ex M_J13_bitCount_95d88 lv 21 l (.long 3689348814741910323 :: st) w)
  ∧ (∀ (lv : Nat) (l : LX) (st : List Value) (x y : Int64) (w : AH), Ex M_J13_bitCount_95d88 lv 21 l (.long y :: .long x :: st) w = Ex M_J13_bitCount_95d88 lv 22 l (.long (x &&& y) :: st) w)
  ∧ (∀ (lv : Nat) (l : LX) (st : List Value) (x y : Int64) (w : AH), Ex M_J13_bitCount_95d88 lv 22 l (.long y :: .long x :: st) w = Ex M_J13_bitCount_95d88 lv 23 l (.long (x + y) :: st) w)
  ∧ (∀ (lv : Nat) (l : LX) (st : List Value) (x : Int64) (w : AH), Ex M_J13_bitCount_95d88 lv 23 l (.long x :: st) w = Ex M_J13_bitCount_95d88 lv 24 (ls2 l 0 (.long x)) st w)
  ∧ (∀ (lv : Nat) (st : List Value) (t : LX) (x : Int64) (w : AH), Ex M_J13_bitCount_95d88 lv 24 (some (.long x) :: t) st w = Ex M_J13_bitCount_95d88 lv 25 (some (.long x) :: t) (.long x :: st) w)
  ∧ (∀ (lv : Nat) (st : List Value) (t : LX) (x : Int64) (w : AH), Ex M_J13_bitCount_95d88 lv 25 (some (.long x) :: t) st w = Ex M_J13_bitCount_95d88 lv 26 (some (.long x) :: t) (.long x :: st) w)
  ∧ (∀ (lv : Nat) (l : LX) (st : List Value) (w : AH), Ex M_J13_bitCount_95d88 lv 26 l st w = Ex M_J13_bitCount_95d88 lv 27 l (.int 4 :: st) w)
  ∧ (∀ (lv : Nat) (l : LX) (st : List Value) (x : Int64) (y : Int32) (w : AH), Ex M_J13_bitCount_95d88 lv 27 l (.int y :: .long x :: st) w = Ex M_J13_bitCount_95d88 lv 28 l (.long ((x.toUInt64 >>> (y.toInt64.toUInt64 &&& Int64.toUInt64 63)).toInt64) :: st) w)
  ∧ (∀ (lv : Nat) (l : LX) (st : List Value) (x y : Int64) (w : AH), Ex M_J13_bitCount_95d88 lv 28 l (.long y :: .long x :: st) w = Ex M_J13_bitCount_95d88 lv 29 l (.long (x + y) :: st) w)
  ∧ (∀ (lv : Nat) (l : LX) (st : List Value) (w : AH), Ex M_J13_bitCount_95d88 lv 29 l st w = Ex M_J13_bitCount_95d88 lv 32 l (.long 1085102592571150095 :: st) w)
  ∧ (∀ (lv : Nat) (l : LX) (st : List Value) (x y : Int64) (w : AH), Ex M_J13_bitCount_95d88 lv 32 l (.long y :: .long x :: st) w = Ex M_J13_bitCount_95d88 lv 33 l (.long (x &&& y) :: st) w)
  ∧ (∀ (lv : Nat) (l : LX) (st : List Value) (x : Int64) (w : AH), Ex M_J13_bitCount_95d88 lv 33 l (.long x :: st) w = Ex M_J13_bitCount_95d88 lv 34 (ls2 l 0 (.long x)) st w)
  ∧ (∀ (lv : Nat) (st : List Value) (t : LX) (x : Int64) (w : AH), Ex M_J13_bitCount_95d88 lv 34 (some (.long x) :: t) st w = Ex M_J13_bitCount_95d88 lv 35 (some (.long x) :: t) (.long x :: st) w)
  ∧ (∀ (lv : Nat) (st : List Value) (t : LX) (x : Int64) (w : AH), Ex M_J13_bitCount_95d88 lv 35 (some (.long x) :: t) st w = Ex M_J13_bitCount_95d88 lv 36 (some (.long x) :: t) (.long x :: st) w)
  ∧ (∀ (lv : Nat) (l : LX) (st : List Value) (w : AH), Ex M_J13_bitCount_95d88 lv 36 l st w = Ex M_J13_bitCount_95d88 lv 38 l (.int 8 :: st) w)
  ∧ (∀ (lv : Nat) (l : LX) (st : List Value) (x : Int64) (y : Int32) (w : AH), Ex M_J13_bitCount_95d88 lv 38 l (.int y :: .long x :: st) w = Ex M_J13_bitCount_95d88 lv 39 l (.long ((x.toUInt64 >>> (y.toInt64.toUInt64 &&& Int64.toUInt64 63)).toInt64) :: st) w)
  ∧ (∀ (lv : Nat) (l : LX) (st : List Value) (x y : Int64) (w : AH), Ex M_J13_bitCount_95d88 lv 39 l (.long y :: .long x :: st) w = Ex M_J13_bitCount_95d88 lv 40 l (.long (x + y) :: st) w)
  ∧ (∀ (lv : Nat) (l : LX) (st : List Value) (x : Int64) (w : AH), Ex M_J13_bitCount_95d88 lv 40 l (.long x :: st) w = Ex M_J13_bitCount_95d88 lv 41 (ls2 l 0 (.long x)) st w)
  ∧ (∀ (lv : Nat) (st : List Value) (t : LX) (x : Int64) (w : AH), Ex M_J13_bitCount_95d88 lv 41 (some (.long x) :: t) st w = Ex M_J13_bitCount_95d88 lv 42 (some (.long x) :: t) (.long x :: st) w)
  ∧ (∀ (lv : Nat) (st : List Value) (t : LX) (x : Int64) (w : AH), Ex M_J13_bitCount_95d88 lv 42 (some (.long x) :: t) st w = Ex M_J13_bitCount_95d88 lv 43 (some (.long x) :: t) (.long x :: st) w)
  ∧ (∀ (lv : Nat) (l : LX) (st : List Value) (w : AH), Ex M_J13_bitCount_95d88 lv 43 l st w = Ex M_J13_bitCount_95d88 lv 45 l (.int 16 :: st) w)
  ∧ (∀ (lv : Nat) (l : LX) (st : List Value) (x : Int64) (y : Int32) (w : AH), Ex M_J13_bitCount_95d88 lv 45 l (.int y :: .long x :: st) w = Ex M_J13_bitCount_95d88 lv 46 l (.long ((x.toUInt64 >>> (y.toInt64.toUInt64 &&& Int64.toUInt64 63)).toInt64) :: st) w)
  ∧ (∀ (lv : Nat) (l : LX) (st : List Value) (x y : Int64) (w : AH), Ex M_J13_bitCount_95d88 lv 46 l (.long y :: .long x :: st) w = Ex M_J13_bitCount_95d88 lv 47 l (.long (x + y) :: st) w)
  ∧ (∀ (lv : Nat) (l : LX) (st : List Value) (x : Int64) (w : AH), Ex M_J13_bitCount_95d88 lv 47 l (.long x :: st) w = Ex M_J13_bitCount_95d88 lv 48 (ls2 l 0 (.long x)) st w)
  ∧ (∀ (lv : Nat) (st : List Value) (t : LX) (x : Int64) (w : AH), Ex M_J13_bitCount_95d88 lv 48 (some (.long x) :: t) st w = Ex M_J13_bitCount_95d88 lv 49 (some (.long x) :: t) (.long x :: st) w)
  ∧ (∀ (lv : Nat) (st : List Value) (t : LX) (x : Int64) (w : AH), Ex M_J13_bitCount_95d88 lv 49 (some (.long x) :: t) st w = Ex M_J13_bitCount_95d88 lv 50 (some (.long x) :: t) (.long x :: st) w)
  ∧ (∀ (lv : Nat) (l : LX) (st : List Value) (w : AH), Ex M_J13_bitCount_95d88 lv 50 l st w = Ex M_J13_bitCount_95d88 lv 52 l (.int 32 :: st) w)
  ∧ (∀ (lv : Nat) (l : LX) (st : List Value) (x : Int64) (y : Int32) (w : AH), Ex M_J13_bitCount_95d88 lv 52 l (.int y :: .long x :: st) w = Ex M_J13_bitCount_95d88 lv 53 l (.long ((x.toUInt64 >>> (y.toInt64.toUInt64 &&& Int64.toUInt64 63)).toInt64) :: st) w)
  ∧ (∀ (lv : Nat) (l : LX) (st : List Value) (x y : Int64) (w : AH), Ex M_J13_bitCount_95d88 lv 53 l (.long y :: .long x :: st) w = Ex M_J13_bitCount_95d88 lv 54 l (.long (x + y) :: st) w)
  ∧ (∀ (lv : Nat) (l : LX) (st : List Value) (x : Int64) (w : AH), Ex M_J13_bitCount_95d88 lv 54 l (.long x :: st) w = Ex M_J13_bitCount_95d88 lv 55 (ls2 l 0 (.long x)) st w)
  ∧ (∀ (lv : Nat) (st : List Value) (t : LX) (x : Int64) (w : AH), Ex M_J13_bitCount_95d88 lv 55 (some (.long x) :: t) st w = Ex M_J13_bitCount_95d88 lv 56 (some (.long x) :: t) (.long x :: st) w)
  ∧ (∀ (lv : Nat) (l : LX) (st : List Value) (x : Int64) (w : AH), Ex M_J13_bitCount_95d88 lv 56 l (.long x :: st) w = Ex M_J13_bitCount_95d88 lv 57 l (.int x.toInt32 :: st) w)
  ∧ (∀ (lv : Nat) (l : LX) (st : List Value) (w : AH), Ex M_J13_bitCount_95d88 lv 57 l st w = Ex M_J13_bitCount_95d88 lv 59 l (.int 127 :: st) w)
  ∧ (∀ (lv : Nat) (l : LX) (st : List Value) (x y : Int32) (w : AH), Ex M_J13_bitCount_95d88 lv 59 l (.int y :: .int x :: st) w = Ex M_J13_bitCount_95d88 lv 60 l (.int (x &&& y) :: st) w)
  ∧ (∀ (lv : Nat) (l : LX) (x : Int32) (w : AH), Ex M_J13_bitCount_95d88 lv 60 l [.int x] w = some (some (.int x), w)) :=
  ⟨(fun lv st t x w => Ex_M (i := .lload_n 0) (n := 1) (by decide +kernel) rfl rfl rfl),
   (fun lv st t x w => Ex_M (i := .lload_n 0) (n := 1) (by decide +kernel) rfl rfl rfl),
   (fun lv l st w => Ex_A (i := .iconst 1) (n := 1) (by decide +kernel) rfl rfl),
   (fun lv l st x y w => Ex_A (i := .lushr) (n := 1) (by decide +kernel) rfl rfl),
   (fun lv l st w => Ex_ldc2 (by decide +kernel : decode M_J13_bitCount_95d88.2.1 4 = .ok (.ldc2_w 314, 3)) rfl (by decide +kernel)),
   (fun lv l st x y w => Ex_A (i := .land) (n := 1) (by decide +kernel) rfl rfl),
   (fun lv l st x y w => Ex_A (i := .lsub) (n := 1) (by decide +kernel) rfl rfl),
   (fun lv l st x w => Ex_M (i := .lstore_n 0) (n := 1) (by decide +kernel) rfl rfl rfl),
   (fun lv st t x w => Ex_M (i := .lload_n 0) (n := 1) (by decide +kernel) rfl rfl rfl),
   (fun lv l st w => Ex_ldc2 (by decide +kernel : decode M_J13_bitCount_95d88.2.1 11 = .ok (.ldc2_w 316, 3)) rfl (by decide +kernel)),
   (fun lv l st x y w => Ex_A (i := .land) (n := 1) (by decide +kernel) rfl rfl),
   (fun lv st t x w => Ex_M (i := .lload_n 0) (n := 1) (by decide +kernel) rfl rfl rfl),
   (fun lv l st w => Ex_A (i := .iconst 2) (n := 1) (by decide +kernel) rfl rfl),
   (fun lv l st x y w => Ex_A (i := .lushr) (n := 1) (by decide +kernel) rfl rfl),
   (fun lv l st w => Ex_ldc2 (by decide +kernel : decode M_J13_bitCount_95d88.2.1 18 = .ok (.ldc2_w 316, 3)) rfl (by decide +kernel)),
   (fun lv l st x y w => Ex_A (i := .land) (n := 1) (by decide +kernel) rfl rfl),
   (fun lv l st x y w => Ex_A (i := .ladd) (n := 1) (by decide +kernel) rfl rfl),
   (fun lv l st x w => Ex_M (i := .lstore_n 0) (n := 1) (by decide +kernel) rfl rfl rfl),
   (fun lv st t x w => Ex_M (i := .lload_n 0) (n := 1) (by decide +kernel) rfl rfl rfl),
   (fun lv st t x w => Ex_M (i := .lload_n 0) (n := 1) (by decide +kernel) rfl rfl rfl),
   (fun lv l st w => Ex_A (i := .iconst 4) (n := 1) (by decide +kernel) rfl rfl),
   (fun lv l st x y w => Ex_A (i := .lushr) (n := 1) (by decide +kernel) rfl rfl),
   (fun lv l st x y w => Ex_A (i := .ladd) (n := 1) (by decide +kernel) rfl rfl),
   (fun lv l st w => Ex_ldc2 (by decide +kernel : decode M_J13_bitCount_95d88.2.1 29 = .ok (.ldc2_w 318, 3)) rfl (by decide +kernel)),
   (fun lv l st x y w => Ex_A (i := .land) (n := 1) (by decide +kernel) rfl rfl),
   (fun lv l st x w => Ex_M (i := .lstore_n 0) (n := 1) (by decide +kernel) rfl rfl rfl),
   (fun lv st t x w => Ex_M (i := .lload_n 0) (n := 1) (by decide +kernel) rfl rfl rfl),
   (fun lv st t x w => Ex_M (i := .lload_n 0) (n := 1) (by decide +kernel) rfl rfl rfl),
   (fun lv l st w => Ex_A (i := .bipush 8) (n := 2) (by decide +kernel) rfl rfl),
   (fun lv l st x y w => Ex_A (i := .lushr) (n := 1) (by decide +kernel) rfl rfl),
   (fun lv l st x y w => Ex_A (i := .ladd) (n := 1) (by decide +kernel) rfl rfl),
   (fun lv l st x w => Ex_M (i := .lstore_n 0) (n := 1) (by decide +kernel) rfl rfl rfl),
   (fun lv st t x w => Ex_M (i := .lload_n 0) (n := 1) (by decide +kernel) rfl rfl rfl),
   (fun lv st t x w => Ex_M (i := .lload_n 0) (n := 1) (by decide +kernel) rfl rfl rfl),
   (fun lv l st w => Ex_A (i := .bipush 16) (n := 2) (by decide +kernel) rfl rfl),
   (fun lv l st x y w => Ex_A (i := .lushr) (n := 1) (by decide +kernel) rfl rfl),
   (fun lv l st x y w => Ex_A (i := .ladd) (n := 1) (by decide +kernel) rfl rfl),
   (fun lv l st x w => Ex_M (i := .lstore_n 0) (n := 1) (by decide +kernel) rfl rfl rfl),
   (fun lv st t x w => Ex_M (i := .lload_n 0) (n := 1) (by decide +kernel) rfl rfl rfl),
   (fun lv st t x w => Ex_M (i := .lload_n 0) (n := 1) (by decide +kernel) rfl rfl rfl),
   (fun lv l st w => Ex_A (i := .bipush 32) (n := 2) (by decide +kernel) rfl rfl),
   (fun lv l st x y w => Ex_A (i := .lushr) (n := 1) (by decide +kernel) rfl rfl),
   (fun lv l st x y w => Ex_A (i := .ladd) (n := 1) (by decide +kernel) rfl rfl),
   (fun lv l st x w => Ex_M (i := .lstore_n 0) (n := 1) (by decide +kernel) rfl rfl rfl),
   (fun lv st t x w => Ex_M (i := .lload_n 0) (n := 1) (by decide +kernel) rfl rfl rfl),
   (fun lv l st x w => Ex_A (i := .l2i) (n := 1) (by decide +kernel) rfl rfl),
   (fun lv l st w => Ex_A (i := .bipush 127) (n := 2) (by decide +kernel) rfl rfl),
   (fun lv l st x y w => Ex_A (i := .iand) (n := 1) (by decide +kernel) rfl rfl),
   (fun lv l x w => Ex_R (i := .ireturn) (n := 1) (by decide +kernel) rfl rfl rfl rfl rfl)⟩
set_option maxRecDepth 20000 in
set_option maxHeartbeats 4000000 in
theorem R_J9_floorMod_7cf53 : (∀ (lv : Nat) (st : List Value) (t : LX) (x : Int32) (w : AH), Ex M_J9_floorMod_7cf53 lv 0 (some (.int x) :: t) st w = Ex M_J9_floorMod_7cf53 lv 1 (some (.int x) :: t) (.int x :: st) w)
  ∧ (∀ (lv : Nat) (st : List Value) (t : LX) (o0 : Option Value) (x : Int32) (w : AH), Ex M_J9_floorMod_7cf53 lv 1 (o0 :: some (.int x) :: t) st w = Ex M_J9_floorMod_7cf53 lv 2 (o0 :: some (.int x) :: t) (.int x :: st) w)
  ∧ (∀ (lv : Nat) (l : LX) (st : List Value) (x y : Int32) (w : AH), Ex M_J9_floorMod_7cf53 lv 2 l (.int y :: .int x :: st) w = if y = 0 then none else Ex M_J9_floorMod_7cf53 lv 3 l (.int (x - x / y * y) :: st) w)
  ∧ (∀ (lv : Nat) (l : LX) (st : List Value) (x : Int32) (w : AH), Ex M_J9_floorMod_7cf53 lv 3 l (.int x :: st) w = Ex M_J9_floorMod_7cf53 lv 4 (ls1 l 2 (.int x)) st w)
  ∧ (∀ (lv : Nat) (st : List Value) (t : LX) (x : Int32) (w : AH), Ex M_J9_floorMod_7cf53 lv 4 (some (.int x) :: t) st w = Ex M_J9_floorMod_7cf53 lv 5 (some (.int x) :: t) (.int x :: st) w)
  ∧ (∀ (lv : Nat) (st : List Value) (t : LX) (o0 : Option Value) (x : Int32) (w : AH), Ex M_J9_floorMod_7cf53 lv 5 (o0 :: some (.int x) :: t) st w = Ex M_J9_floorMod_7cf53 lv 6 (o0 :: some (.int x) :: t) (.int x :: st) w)
  ∧ (∀ (lv : Nat) (l : LX) (st : List Value) (x y : Int32) (w : AH), Ex M_J9_floorMod_7cf53 lv 6 l (.int y :: .int x :: st) w = Ex M_J9_floorMod_7cf53 lv 7 l (.int (x ^^^ y) :: st) w)
  ∧ (∀ (lv : Nat) (l : LX) (st : List Value) (x : Int32) (w : AH), Ex M_J9_floorMod_7cf53 lv 7 l (.int x :: st) w = if 0 ≤ x then Ex M_J9_floorMod_7cf53 lv 18 l st w else Ex M_J9_floorMod_7cf53 lv 10 l st w)
  ∧ (∀ (lv : Nat) (st : List Value) (t : LX) (o0 o1 : Option Value) (x : Int32) (w : AH), Ex M_J9_floorMod_7cf53 lv 10 (o0 :: o1 :: some (.int x) :: t) st w = Ex M_J9_floorMod_7cf53 lv 11 (o0 :: o1 :: some (.int x) :: t) (.int x :: st) w)
  ∧ (∀ (lv : Nat) (l : LX) (st : List Value) (x : Int32) (w : AH), Ex M_J9_floorMod_7cf53 lv 11 l (.int x :: st) w = if x = 0 then Ex M_J9_floorMod_7cf53 lv 18 l st w else Ex M_J9_floorMod_7cf53 lv 14 l st w)
  ∧ (∀ (lv : Nat) (st : List Value) (t : LX) (o0 o1 : Option Value) (x : Int32) (w : AH), Ex M_J9_floorMod_7cf53 lv 14 (o0 :: o1 :: some (.int x) :: t) st w = Ex M_J9_floorMod_7cf53 lv 15 (o0 :: o1 :: some (.int x) :: t) (.int x :: st) w)
  ∧ (∀ (lv : Nat) (st : List Value) (t : LX) (o0 : Option Value) (x : Int32) (w : AH), Ex M_J9_floorMod_7cf53 lv 15 (o0 :: some (.int x) :: t) st w = Ex M_J9_floorMod_7cf53 lv 16 (o0 :: some (.int x) :: t) (.int x :: st) w)
  ∧ (∀ (lv : Nat) (l : LX) (st : List Value) (x y : Int32) (w : AH), Ex M_J9_floorMod_7cf53 lv 16 l (.int y :: .int x :: st) w = Ex M_J9_floorMod_7cf53 lv 17 l (.int (x + y) :: st) w)
  ∧ (∀ (lv : Nat) (l : LX) (x : Int32) (w : AH), Ex M_J9_floorMod_7cf53 lv 17 l [.int x] w = some (some (.int x), w))
  ∧ (∀ (lv : Nat) (st : List Value) (t : LX) (o0 o1 : Option Value) (x : Int32) (w : AH), Ex M_J9_floorMod_7cf53 lv 18 (o0 :: o1 :: some (.int x) :: t) st w = Ex M_J9_floorMod_7cf53 lv 19 (o0 :: o1 :: some (.int x) :: t) (.int x :: st) w)
  ∧ (∀ (lv : Nat) (l : LX) (x : Int32) (w : AH), Ex M_J9_floorMod_7cf53 lv 19 l [.int x] w = some (some (.int x), w)) :=
  ⟨(fun lv st t x w => Ex_M (i := .iload_n 0) (n := 1) (by decide +kernel) rfl rfl rfl),
   (fun lv st t o0 x w => Ex_M (i := .iload_n 1) (n := 1) (by decide +kernel) rfl rfl rfl),
   (fun lv l st x y w => Ex_irem (by decide +kernel : decode M_J9_floorMod_7cf53.2.1 2 = .ok (.irem, 1)) rfl),
   (fun lv l st x w => Ex_M (i := .istore_n 2) (n := 1) (by decide +kernel) rfl rfl rfl),
   (fun lv st t x w => Ex_M (i := .iload_n 0) (n := 1) (by decide +kernel) rfl rfl rfl),
   (fun lv st t o0 x w => Ex_M (i := .iload_n 1) (n := 1) (by decide +kernel) rfl rfl rfl),
   (fun lv l st x y w => Ex_A (i := .ixor) (n := 1) (by decide +kernel) rfl rfl),
   (fun lv l st x w => Ex_if_ge (by decide +kernel : decode M_J9_floorMod_7cf53.2.1 7 = .ok (.ifCond .ge 11, 3)) rfl rfl),
   (fun lv st t o0 o1 x w => Ex_M (i := .iload_n 2) (n := 1) (by decide +kernel) rfl rfl rfl),
   (fun lv l st x w => Ex_if_eq (by decide +kernel : decode M_J9_floorMod_7cf53.2.1 11 = .ok (.ifCond .eq 7, 3)) rfl rfl),
   (fun lv st t o0 o1 x w => Ex_M (i := .iload_n 2) (n := 1) (by decide +kernel) rfl rfl rfl),
   (fun lv st t o0 x w => Ex_M (i := .iload_n 1) (n := 1) (by decide +kernel) rfl rfl rfl),
   (fun lv l st x y w => Ex_A (i := .iadd) (n := 1) (by decide +kernel) rfl rfl),
   (fun lv l x w => Ex_R (i := .ireturn) (n := 1) (by decide +kernel) rfl rfl rfl rfl rfl),
   (fun lv st t o0 o1 x w => Ex_M (i := .iload_n 2) (n := 1) (by decide +kernel) rfl rfl rfl),
   (fun lv l x w => Ex_R (i := .ireturn) (n := 1) (by decide +kernel) rfl rfl rfl rfl rfl)⟩
set_option maxRecDepth 20000 in
set_option maxHeartbeats 4000000 in
theorem R_J9_abs_0f7a4 : (∀ (lv : Nat) (st : List Value) (t : LX) (x : Int32) (w : AH), Ex M_J9_abs_0f7a4 lv 0 (some (.int x) :: t) st w = Ex M_J9_abs_0f7a4 lv 1 (some (.int x) :: t) (.int x :: st) w)
  ∧ (∀ (lv : Nat) (l : LX) (st : List Value) (x : Int32) (w : AH), Ex M_J9_abs_0f7a4 lv 1 l (.int x :: st) w = if 0 ≤ x then Ex M_J9_abs_0f7a4 lv 9 l st w else Ex M_J9_abs_0f7a4 lv 4 l st w)
  ∧ (∀ (lv : Nat) (st : List Value) (t : LX) (x : Int32) (w : AH), Ex M_J9_abs_0f7a4 lv 4 (some (.int x) :: t) st w = Ex M_J9_abs_0f7a4 lv 5 (some (.int x) :: t) (.int x :: st) w)
  ∧ (∀ (lv : Nat) (l : LX) (st : List Value) (x : Int32) (w : AH), Ex M_J9_abs_0f7a4 lv 5 l (.int x :: st) w = Ex M_J9_abs_0f7a4 lv 6 l (.int (-x) :: st) w)
  ∧ (∀ (lv : Nat) (l : LX) (st : List Value) (w : AH), Ex M_J9_abs_0f7a4 lv 6 l st w = Ex M_J9_abs_0f7a4 lv 10 l st w)
  ∧ (∀ (lv : Nat) (st : List Value) (t : LX) (x : Int32) (w : AH), Ex M_J9_abs_0f7a4 lv 9 (some (.int x) :: t) st w = Ex M_J9_abs_0f7a4 lv 10 (some (.int x) :: t) (.int x :: st) w)
  ∧ (∀ (lv : Nat) (l : LX) (x : Int32) (w : AH), Ex M_J9_abs_0f7a4 lv 10 l [.int x] w = some (some (.int x), w)) :=
  ⟨(fun lv st t x w => Ex_M (i := .iload_n 0) (n := 1) (by decide +kernel) rfl rfl rfl),
   (fun lv l st x w => Ex_if_ge (by decide +kernel : decode M_J9_abs_0f7a4.2.1 1 = .ok (.ifCond .ge 8, 3)) rfl rfl),
   (fun lv st t x w => Ex_M (i := .iload_n 0) (n := 1) (by decide +kernel) rfl rfl rfl),
   (fun lv l st x w => Ex_A (i := .ineg) (n := 1) (by decide +kernel) rfl rfl),
   (fun lv l st w => Ex_goto (by decide +kernel : decode M_J9_abs_0f7a4.2.1 6 = .ok (.goto 4, 3)) rfl),
   (fun lv st t x w => Ex_M (i := .iload_n 0) (n := 1) (by decide +kernel) rfl rfl rfl),
   (fun lv l x w => Ex_R (i := .ireturn) (n := 1) (by decide +kernel) rfl rfl rfl rfl rfl)⟩
set_option maxRecDepth 20000 in
set_option maxHeartbeats 4000000 in
theorem R_J9_max_7cf53 : (∀ (lv : Nat) (st : List Value) (t : LX) (x : Int32) (w : AH), Ex M_J9_max_7cf53 lv 0 (some (.int x) :: t) st w = Ex M_J9_max_7cf53 lv 1 (some (.int x) :: t) (.int x :: st) w)
  ∧ (∀ (lv : Nat) (st : List Value) (t : LX) (o0 : Option Value) (x : Int32) (w : AH), Ex M_J9_max_7cf53 lv 1 (o0 :: some (.int x) :: t) st w = Ex M_J9_max_7cf53 lv 2 (o0 :: some (.int x) :: t) (.int x :: st) w)
  ∧ (∀ (lv : Nat) (l : LX) (st : List Value) (x y : Int32) (w : AH), Ex M_J9_max_7cf53 lv 2 l (.int y :: .int x :: st) w = if x < y then Ex M_J9_max_7cf53 lv 9 l st w else Ex M_J9_max_7cf53 lv 5 l st w)
  ∧ (∀ (lv : Nat) (st : List Value) (t : LX) (x : Int32) (w : AH), Ex M_J9_max_7cf53 lv 5 (some (.int x) :: t) st w = Ex M_J9_max_7cf53 lv 6 (some (.int x) :: t) (.int x :: st) w)
  ∧ (∀ (lv : Nat) (l : LX) (st : List Value) (w : AH), Ex M_J9_max_7cf53 lv 6 l st w = Ex M_J9_max_7cf53 lv 10 l st w)
  ∧ (∀ (lv : Nat) (st : List Value) (t : LX) (o0 : Option Value) (x : Int32) (w : AH), Ex M_J9_max_7cf53 lv 9 (o0 :: some (.int x) :: t) st w = Ex M_J9_max_7cf53 lv 10 (o0 :: some (.int x) :: t) (.int x :: st) w)
  ∧ (∀ (lv : Nat) (l : LX) (x : Int32) (w : AH), Ex M_J9_max_7cf53 lv 10 l [.int x] w = some (some (.int x), w)) :=
  ⟨(fun lv st t x w => Ex_M (i := .iload_n 0) (n := 1) (by decide +kernel) rfl rfl rfl),
   (fun lv st t o0 x w => Ex_M (i := .iload_n 1) (n := 1) (by decide +kernel) rfl rfl rfl),
   (fun lv l st x y w => Ex_icmp_lt (by decide +kernel : decode M_J9_max_7cf53.2.1 2 = .ok (.if_icmp .lt 7, 3)) rfl rfl),
   (fun lv st t x w => Ex_M (i := .iload_n 0) (n := 1) (by decide +kernel) rfl rfl rfl),
   (fun lv l st w => Ex_goto (by decide +kernel : decode M_J9_max_7cf53.2.1 6 = .ok (.goto 4, 3)) rfl),
   (fun lv st t o0 x w => Ex_M (i := .iload_n 1) (n := 1) (by decide +kernel) rfl rfl rfl),
   (fun lv l x w => Ex_R (i := .ireturn) (n := 1) (by decide +kernel) rfl rfl rfl rfl rfl)⟩
set_option maxRecDepth 20000 in
set_option maxHeartbeats 4000000 in
theorem R_J9_min_7cf53 : (∀ (lv : Nat) (st : List Value) (t : LX) (x : Int32) (w : AH), Ex M_J9_min_7cf53 lv 0 (some (.int x) :: t) st w = Ex M_J9_min_7cf53 lv 1 (some (.int x) :: t) (.int x :: st) w)
  ∧ (∀ (lv : Nat) (st : List Value) (t : LX) (o0 : Option Value) (x : Int32) (w : AH), Ex M_J9_min_7cf53 lv 1 (o0 :: some (.int x) :: t) st w = Ex M_J9_min_7cf53 lv 2 (o0 :: some (.int x) :: t) (.int x :: st) w)
  ∧ (∀ (lv : Nat) (l : LX) (st : List Value) (x y : Int32) (w : AH), Ex M_J9_min_7cf53 lv 2 l (.int y :: .int x :: st) w = if y < x then Ex M_J9_min_7cf53 lv 9 l st w else Ex M_J9_min_7cf53 lv 5 l st w)
  ∧ (∀ (lv : Nat) (st : List Value) (t : LX) (x : Int32) (w : AH), Ex M_J9_min_7cf53 lv 5 (some (.int x) :: t) st w = Ex M_J9_min_7cf53 lv 6 (some (.int x) :: t) (.int x :: st) w)
  ∧ (∀ (lv : Nat) (l : LX) (st : List Value) (w : AH), Ex M_J9_min_7cf53 lv 6 l st w = Ex M_J9_min_7cf53 lv 10 l st w)
  ∧ (∀ (lv : Nat) (st : List Value) (t : LX) (o0 : Option Value) (x : Int32) (w : AH), Ex M_J9_min_7cf53 lv 9 (o0 :: some (.int x) :: t) st w = Ex M_J9_min_7cf53 lv 10 (o0 :: some (.int x) :: t) (.int x :: st) w)
  ∧ (∀ (lv : Nat) (l : LX) (x : Int32) (w : AH), Ex M_J9_min_7cf53 lv 10 l [.int x] w = some (some (.int x), w)) :=
  ⟨(fun lv st t x w => Ex_M (i := .iload_n 0) (n := 1) (by decide +kernel) rfl rfl rfl),
   (fun lv st t o0 x w => Ex_M (i := .iload_n 1) (n := 1) (by decide +kernel) rfl rfl rfl),
   (fun lv l st x y w => Ex_icmp_gt (by decide +kernel : decode M_J9_min_7cf53.2.1 2 = .ok (.if_icmp .gt 7, 3)) rfl rfl),
   (fun lv st t x w => Ex_M (i := .iload_n 0) (n := 1) (by decide +kernel) rfl rfl rfl),
   (fun lv l st w => Ex_goto (by decide +kernel : decode M_J9_min_7cf53.2.1 6 = .ok (.goto 4, 3)) rfl),
   (fun lv st t o0 x w => Ex_M (i := .iload_n 1) (n := 1) (by decide +kernel) rfl rfl rfl),
   (fun lv l x w => Ex_R (i := .ireturn) (n := 1) (by decide +kernel) rfl rfl rfl rfl rfl)⟩
set_option maxRecDepth 20000 in
set_option maxHeartbeats 4000000 in
theorem R_J0_length_8abf5 : (∀ (lv : Nat) (st : List Value) (t : LX) (x : Nat) (w : AH), Ex M_J0_length_8abf5 lv 0 (some (.ref x) :: t) st w = Ex M_J0_length_8abf5 lv 1 (some (.ref x) :: t) (.ref x :: st) w)
  ∧ (∀ (lv : Nat) (st : List Value) (t : LX) (w : AH), Ex M_J0_length_8abf5 lv 0 (some (.null) :: t) st w = Ex M_J0_length_8abf5 lv 1 (some (.null) :: t) (.null :: st) w)
  ∧ (∀ (lv : Nat) (l : LX) (st : List Value) (a : Nat) (w : AH), Ex M_J0_length_8abf5 lv 1 l (.ref a :: st) w = if (gf (hg w a) 50 0).isSome = true then Ex M_J0_length_8abf5 lv 4 l (vV (gf (hg w a) 50 0) :: st) w else none)
  ∧ (∀ (lv : Nat) (l : LX) (st : List Value) (a : Nat) (w : AH), Ex M_J0_length_8abf5 lv 4 l (.ref a :: st) w = if (aL (hg w a)).isSome = true then Ex M_J0_length_8abf5 lv 5 l (.int (vI (aL (hg w a))) :: st) w else none)
  ∧ (∀ (lv : Nat) (st : List Value) (t : LX) (x : Nat) (w : AH), Ex M_J0_length_8abf5 lv 5 (some (.ref x) :: t) st w = Ex M_J0_length_8abf5 lv 6 (some (.ref x) :: t) (.ref x :: st) w)
  ∧ (∀ (lv : Nat) (st : List Value) (t : LX) (w : AH), Ex M_J0_length_8abf5 lv 5 (some (.null) :: t) st w = Ex M_J0_length_8abf5 lv 6 (some (.null) :: t) (.null :: st) w)
  ∧ (∀ (lv : Nat) (l : LX) (b : Nat) (s0 : Int32) (w : AH), Ex M_J0_length_8abf5 lv 6 l (.ref b :: [.int s0]) w = if clK (hg w b) = 50 then (if (Call M_J0_coder_7d493 60 [.ref b] w).isSome = true then Ex M_J0_length_8abf5 lv 9 l (pushR (cV (Call M_J0_coder_7d493 60 [.ref b] w)) [.int s0]) (cW (Call M_J0_coder_7d493 60 [.ref b] w) w) else none) else none)
  ∧ (∀ (lv : Nat) (l : LX) (st : List Value) (x y : Int32) (w : AH), Ex M_J0_length_8abf5 lv 9 l (.int y :: .int x :: st) w = Ex M_J0_length_8abf5 lv 10 l (.int (x >>> (y &&& 31)) :: st) w)
  ∧ (∀ (lv : Nat) (l : LX) (x : Int32) (w : AH), Ex M_J0_length_8abf5 lv 10 l [.int x] w = some (some (.int x), w)) :=
  ⟨(fun lv st t x w => Ex_M (i := .aload_n 0) (n := 1) (by decide +kernel) rfl rfl rfl),
   (fun lv st t w => Ex_M (i := .aload_n 0) (n := 1) (by decide +kernel) rfl rfl rfl),
   (fun lv l st a w => Ex_getf (by decide +kernel : decode M_J0_length_8abf5.2.1 1 = .ok (.getfield 9, 3)) rfl (by decide +kernel : resF (mCn M_J0_length_8abf5) 9 = some (50, 0, (.array .byte), true))),
   (fun lv l st a w => Ex_alen (by decide +kernel : decode M_J0_length_8abf5.2.1 4 = .ok (.arraylength, 1)) rfl),
   (fun lv st t x w => Ex_M (i := .aload_n 0) (n := 1) (by decide +kernel) rfl rfl rfl),
   (fun lv st t w => Ex_M (i := .aload_n 0) (n := 1) (by decide +kernel) rfl rfl rfl),
   (fun lv l b s0 w => Ex_callV (by decide +kernel : decode M_J0_length_8abf5.2.1 6 = .ok (.invokevirtual 335, 3)) rfl (by rfl : resM (mCn M_J0_length_8abf5) 335 = some (2, M_J0_coder_7d493)) rfl (by rfl) (Nat.le_of_ble_eq_true rfl) (by decide +kernel) (sLv_lt (by decide +kernel))),
   (fun lv l st x y w => Ex_A (i := .ishr) (n := 1) (by decide +kernel) rfl rfl),
   (fun lv l x w => Ex_R (i := .ireturn) (n := 1) (by decide +kernel) rfl rfl rfl rfl rfl)⟩
set_option maxRecDepth 20000 in
set_option maxHeartbeats 4000000 in
theorem R_J0_indexOf_0f7a4 : (∀ (lv : Nat) (st : List Value) (t : LX) (x : Nat) (w : AH), Ex M_J0_indexOf_0f7a4 lv 0 (some (.ref x) :: t) st w = Ex M_J0_indexOf_0f7a4 lv 1 (some (.ref x) :: t) (.ref x :: st) w)
  ∧ (∀ (lv : Nat) (st : List Value) (t : LX) (w : AH), Ex M_J0_indexOf_0f7a4 lv 0 (some (.null) :: t) st w = Ex M_J0_indexOf_0f7a4 lv 1 (some (.null) :: t) (.null :: st) w)
  ∧ (∀ (lv : Nat) (st : List Value) (t : LX) (o0 : Option Value) (x : Int32) (w : AH), Ex M_J0_indexOf_0f7a4 lv 1 (o0 :: some (.int x) :: t) st w = Ex M_J0_indexOf_0f7a4 lv 2 (o0 :: some (.int x) :: t) (.int x :: st) w)
  ∧ (∀ (lv : Nat) (l : LX) (st : List Value) (w : AH), Ex M_J0_indexOf_0f7a4 lv 2 l st w = Ex M_J0_indexOf_0f7a4 lv 3 l (.int 0 :: st) w)
  ∧ (∀ (lv : Nat) (l : LX) (b : Nat) (a0 : Int32) (a1 : Int32) (w : AH), Ex M_J0_indexOf_0f7a4 lv 3 l (.int a1 :: .int a0 :: .ref b :: []) w = if clK (hg w b) = 50 then (if (Call M_J0_indexOf_7cf53 60 [.ref b, .int a0, .int a1] w).isSome = true then Ex M_J0_indexOf_0f7a4 lv 6 l (pushR (cV (Call M_J0_indexOf_7cf53 60 [.ref b, .int a0, .int a1] w)) []) (cW (Call M_J0_indexOf_7cf53 60 [.ref b, .int a0, .int a1] w) w) else none) else none)
  ∧ (∀ (lv : Nat) (l : LX) (x : Int32) (w : AH), Ex M_J0_indexOf_0f7a4 lv 6 l [.int x] w = some (some (.int x), w)) :=
  ⟨(fun lv st t x w => Ex_M (i := .aload_n 0) (n := 1) (by decide +kernel) rfl rfl rfl),
   (fun lv st t w => Ex_M (i := .aload_n 0) (n := 1) (by decide +kernel) rfl rfl rfl),
   (fun lv st t o0 x w => Ex_M (i := .iload_n 1) (n := 1) (by decide +kernel) rfl rfl rfl),
   (fun lv l st w => Ex_A (i := .iconst 0) (n := 1) (by decide +kernel) rfl rfl),
   (fun lv l b a0 a1 w => Ex_callV (by decide +kernel : decode M_J0_indexOf_0f7a4.2.1 3 = .ok (.invokevirtual 633, 3)) rfl (by rfl : resM (mCn M_J0_indexOf_0f7a4) 633 = some (2, M_J0_indexOf_7cf53)) rfl (by rfl) (Nat.le_of_ble_eq_true rfl) (by decide +kernel) (sLv_lt (by decide +kernel))),
   (fun lv l x w => Ex_R (i := .ireturn) (n := 1) (by decide +kernel) rfl rfl rfl rfl rfl)⟩
set_option maxRecDepth 20000 in
set_option maxHeartbeats 4000000 in
theorem R_J0_indexOf_7cf53 : (∀ (lv : Nat) (st : List Value) (t : LX) (x : Nat) (w : AH), Ex M_J0_indexOf_7cf53 lv 0 (some (.ref x) :: t) st w = Ex M_J0_indexOf_7cf53 lv 1 (some (.ref x) :: t) (.ref x :: st) w)
  ∧ (∀ (lv : Nat) (st : List Value) (t : LX) (w : AH), Ex M_J0_indexOf_7cf53 lv 0 (some (.null) :: t) st w = Ex M_J0_indexOf_7cf53 lv 1 (some (.null) :: t) (.null :: st) w)
  ∧ (∀ (lv : Nat) (l : LX) (b : Nat) (w : AH), Ex M_J0_indexOf_7cf53 lv 1 l (.ref b :: []) w = if clK (hg w b) = 50 then (if (Call M_J0_isLatin1_aae02 60 [.ref b] w).isSome = true then Ex M_J0_indexOf_7cf53 lv 4 l (pushR (cV (Call M_J0_isLatin1_aae02 60 [.ref b] w)) []) (cW (Call M_J0_isLatin1_aae02 60 [.ref b] w) w) else none) else none)
  ∧ (∀ (lv : Nat) (l : LX) (st : List Value) (x : Int32) (w : AH), Ex M_J0_indexOf_7cf53 lv 4 l (.int x :: st) w = if x = 0 then Ex M_J0_indexOf_7cf53 lv 23 l st w else Ex M_J0_indexOf_7cf53 lv 7 l st w)
  ∧ (∀ (lv : Nat) (st : List Value) (t : LX) (x : Nat) (w : AH), Ex M_J0_indexOf_7cf53 lv 7 (some (.ref x) :: t) st w = Ex M_J0_indexOf_7cf53 lv 8 (some (.ref x) :: t) (.ref x :: st) w)
  ∧ (∀ (lv : Nat) (st : List Value) (t : LX) (w : AH), Ex M_J0_indexOf_7cf53 lv 7 (some (.null) :: t) st w = Ex M_J0_indexOf_7cf53 lv 8 (some (.null) :: t) (.null :: st) w)
  ∧ (∀ (lv : Nat) (l : LX) (st : List Value) (a : Nat) (w : AH), Ex M_J0_indexOf_7cf53 lv 8 l (.ref a :: st) w = if (gf (hg w a) 50 0).isSome = true then Ex M_J0_indexOf_7cf53 lv 11 l (vV (gf (hg w a) 50 0) :: st) w else none)
  ∧ (∀ (lv : Nat) (st : List Value) (t : LX) (o0 : Option Value) (x : Int32) (w : AH), Ex M_J0_indexOf_7cf53 lv 11 (o0 :: some (.int x) :: t) st w = Ex M_J0_indexOf_7cf53 lv 12 (o0 :: some (.int x) :: t) (.int x :: st) w)
  ∧ (∀ (lv : Nat) (st : List Value) (t : LX) (o0 o1 : Option Value) (x : Int32) (w : AH), Ex M_J0_indexOf_7cf53 lv 12 (o0 :: o1 :: some (.int x) :: t) st w = Ex M_J0_indexOf_7cf53 lv 13 (o0 :: o1 :: some (.int x) :: t) (.int x :: st) w)
  ∧ (∀ (lv : Nat) (st : List Value) (t : LX) (x : Nat) (w : AH), Ex M_J0_indexOf_7cf53 lv 13 (some (.ref x) :: t) st w = Ex M_J0_indexOf_7cf53 lv 14 (some (.ref x) :: t) (.ref x :: st) w)
  ∧ (∀ (lv : Nat) (st : List Value) (t : LX) (w : AH), Ex M_J0_indexOf_7cf53 lv 13 (some (.null) :: t) st w = Ex M_J0_indexOf_7cf53 lv 14 (some (.null) :: t) (.null :: st) w)
  ∧ (∀ (lv : Nat) (l : LX) (b : Nat) (s0 : Int32) (s1 : Int32) (s2 : Nat) (w : AH), Ex M_J0_indexOf_7cf53 lv 14 l (.ref b :: [.int s0, .int s1, .ref s2]) w = if clK (hg w b) = 50 then (if (Call M_J0_length_8abf5 60 [.ref b] w).isSome = true then Ex M_J0_indexOf_7cf53 lv 17 l (pushR (cV (Call M_J0_length_8abf5 60 [.ref b] w)) [.int s0, .int s1, .ref s2]) (cW (Call M_J0_length_8abf5 60 [.ref b] w) w) else none) else none)
  ∧ (∀ (lv : Nat) (l : LX) (a0 : Nat) (a1 : Int32) (a2 : Int32) (a3 : Int32) (w : AH), Ex M_J0_indexOf_7cf53 lv 17 l (.int a3 :: .int a2 :: .int a1 :: .ref a0 :: []) w = if (Call M_J1_indexOf_4cfef 60 [.ref a0, .int a1, .int a2, .int a3] w).isSome = true then Ex M_J0_indexOf_7cf53 lv 20 l (pushR (cV (Call M_J1_indexOf_4cfef 60 [.ref a0, .int a1, .int a2, .int a3] w)) []) (cW (Call M_J1_indexOf_4cfef 60 [.ref a0, .int a1, .int a2, .int a3] w) w) else none)
  ∧ (∀ (lv : Nat) (l : LX) (st : List Value) (w : AH), Ex M_J0_indexOf_7cf53 lv 20 l st w = Ex M_J0_indexOf_7cf53 lv 36 l st w)
  ∧ (∀ (lv : Nat) (st : List Value) (t : LX) (x : Nat) (w : AH), Ex M_J0_indexOf_7cf53 lv 23 (some (.ref x) :: t) st w = Ex M_J0_indexOf_7cf53 lv 24 (some (.ref x) :: t) (.ref x :: st) w)
  ∧ (∀ (lv : Nat) (st : List Value) (t : LX) (w : AH), Ex M_J0_indexOf_7cf53 lv 23 (some (.null) :: t) st w = Ex M_J0_indexOf_7cf53 lv 24 (some (.null) :: t) (.null :: st) w)
  ∧ (∀ (lv : Nat) (l : LX) (st : List Value) (a : Nat) (w : AH), Ex M_J0_indexOf_7cf53 lv 24 l (.ref a :: st) w = if (gf (hg w a) 50 0).isSome = true then Ex M_J0_indexOf_7cf53 lv 27 l (vV (gf (hg w a) 50 0) :: st) w else none)
  ∧ (∀ (lv : Nat) (st : List Value) (t : LX) (o0 : Option Value) (x : Int32) (w : AH), Ex M_J0_indexOf_7cf53 lv 27 (o0 :: some (.int x) :: t) st w = Ex M_J0_indexOf_7cf53 lv 28 (o0 :: some (.int x) :: t) (.int x :: st) w)
  ∧ (∀ (lv : Nat) (st : List Value) (t : LX) (o0 o1 : Option Value) (x : Int32) (w : AH), Ex M_J0_indexOf_7cf53 lv 28 (o0 :: o1 :: some (.int x) :: t) st w = Ex M_J0_indexOf_7cf53 lv 29 (o0 :: o1 :: some (.int x) :: t) (.int x :: st) w)
  ∧ (∀ (lv : Nat) (st : List Value) (t : LX) (x : Nat) (w : AH), Ex M_J0_indexOf_7cf53 lv 29 (some (.ref x) :: t) st w = Ex M_J0_indexOf_7cf53 lv 30 (some (.ref x) :: t) (.ref x :: st) w)
  ∧ (∀ (lv : Nat) (st : List Value) (t : LX) (w : AH), Ex M_J0_indexOf_7cf53 lv 29 (some (.null) :: t) st w = Ex M_J0_indexOf_7cf53 lv 30 (some (.null) :: t) (.null :: st) w)
  ∧ (∀ (lv : Nat) (l : LX) (b : Nat) (s0 : Int32) (s1 : Int32) (s2 : Nat) (w : AH), Ex M_J0_indexOf_7cf53 lv 30 l (.ref b :: [.int s0, .int s1, .ref s2]) w = if clK (hg w b) = 50 then (if (Call M_J0_length_8abf5 60 [.ref b] w).isSome = true then Ex M_J0_indexOf_7cf53 lv 33 l (pushR (cV (Call M_J0_length_8abf5 60 [.ref b] w)) [.int s0, .int s1, .ref s2]) (cW (Call M_J0_length_8abf5 60 [.ref b] w) w) else none) else none)
  ∧ (∀ (lv : Nat) (l : LX) (x : Int32) (w : AH), Ex M_J0_indexOf_7cf53 lv 36 l [.int x] w = some (some (.int x), w)) :=
  ⟨(fun lv st t x w => Ex_M (i := .aload_n 0) (n := 1) (by decide +kernel) rfl rfl rfl),
   (fun lv st t w => Ex_M (i := .aload_n 0) (n := 1) (by decide +kernel) rfl rfl rfl),
   (fun lv l b w => Ex_callV (by decide +kernel : decode M_J0_indexOf_7cf53.2.1 1 = .ok (.invokevirtual 492, 3)) rfl (by rfl : resM (mCn M_J0_indexOf_7cf53) 492 = some (2, M_J0_isLatin1_aae02)) rfl (by rfl) (Nat.le_of_ble_eq_true rfl) (by decide +kernel) (sLv_lt (by decide +kernel))),
   (fun lv l st x w => Ex_if_eq (by decide +kernel : decode M_J0_indexOf_7cf53.2.1 4 = .ok (.ifCond .eq 19, 3)) rfl rfl),
   (fun lv st t x w => Ex_M (i := .aload_n 0) (n := 1) (by decide +kernel) rfl rfl rfl),
   (fun lv st t w => Ex_M (i := .aload_n 0) (n := 1) (by decide +kernel) rfl rfl rfl),
   (fun lv l st a w => Ex_getf (by decide +kernel : decode M_J0_indexOf_7cf53.2.1 8 = .ok (.getfield 9, 3)) rfl (by decide +kernel : resF (mCn M_J0_indexOf_7cf53) 9 = some (50, 0, (.array .byte), true))),
   (fun lv st t o0 x w => Ex_M (i := .iload_n 1) (n := 1) (by decide +kernel) rfl rfl rfl),
   (fun lv st t o0 o1 x w => Ex_M (i := .iload_n 2) (n := 1) (by decide +kernel) rfl rfl rfl),
   (fun lv st t x w => Ex_M (i := .aload_n 0) (n := 1) (by decide +kernel) rfl rfl rfl),
   (fun lv st t w => Ex_M (i := .aload_n 0) (n := 1) (by decide +kernel) rfl rfl rfl),
   (fun lv l b s0 s1 s2 w => Ex_callV (by decide +kernel : decode M_J0_indexOf_7cf53.2.1 14 = .ok (.invokevirtual 505, 3)) rfl (by rfl : resM (mCn M_J0_indexOf_7cf53) 505 = some (2, M_J0_length_8abf5)) rfl (by rfl) (Nat.le_of_ble_eq_true rfl) (by decide +kernel) (sLv_lt (by decide +kernel))),
   (fun lv l a0 a1 a2 a3 w => Ex_callS (by decide +kernel : decode M_J0_indexOf_7cf53.2.1 17 = .ok (.invokestatic 637, 3)) rfl (by rfl : resM (mCn M_J0_indexOf_7cf53) 637 = some (0, M_J1_indexOf_4cfef)) (by decide) rfl (by rfl) (Nat.le_of_ble_eq_true rfl) (sLv_lt (by decide +kernel))),
   (fun lv l st w => Ex_goto (by decide +kernel : decode M_J0_indexOf_7cf53.2.1 20 = .ok (.goto 16, 3)) rfl),
   (fun lv st t x w => Ex_M (i := .aload_n 0) (n := 1) (by decide +kernel) rfl rfl rfl),
   (fun lv st t w => Ex_M (i := .aload_n 0) (n := 1) (by decide +kernel) rfl rfl rfl),
   (fun lv l st a w => Ex_getf (by decide +kernel : decode M_J0_indexOf_7cf53.2.1 24 = .ok (.getfield 9, 3)) rfl (by decide +kernel : resF (mCn M_J0_indexOf_7cf53) 9 = some (50, 0, (.array .byte), true))),
   (fun lv st t o0 x w => Ex_M (i := .iload_n 1) (n := 1) (by decide +kernel) rfl rfl rfl),
   (fun lv st t o0 o1 x w => Ex_M (i := .iload_n 2) (n := 1) (by decide +kernel) rfl rfl rfl),
   (fun lv st t x w => Ex_M (i := .aload_n 0) (n := 1) (by decide +kernel) rfl rfl rfl),
   (fun lv st t w => Ex_M (i := .aload_n 0) (n := 1) (by decide +kernel) rfl rfl rfl),
   (fun lv l b s0 s1 s2 w => Ex_callV (by decide +kernel : decode M_J0_indexOf_7cf53.2.1 30 = .ok (.invokevirtual 505, 3)) rfl (by rfl : resM (mCn M_J0_indexOf_7cf53) 505 = some (2, M_J0_length_8abf5)) rfl (by rfl) (Nat.le_of_ble_eq_true rfl) (by decide +kernel) (sLv_lt (by decide +kernel))),
   (fun lv l x w => Ex_R (i := .ireturn) (n := 1) (by decide +kernel) rfl rfl rfl rfl rfl)⟩
set_option maxRecDepth 20000 in
set_option maxHeartbeats 4000000 in
theorem R_J0_coder_7d493 : (∀ (lv : Nat) (l : LX) (st : List Value) (w : AH), Ex M_J0_coder_7d493 lv 0 l st w = Ex M_J0_coder_7d493 lv 3 l (.int 1 :: st) w)
  ∧ (∀ (lv : Nat) (l : LX) (st : List Value) (x : Int32) (w : AH), Ex M_J0_coder_7d493 lv 3 l (.int x :: st) w = if x = 0 then Ex M_J0_coder_7d493 lv 13 l st w else Ex M_J0_coder_7d493 lv 6 l st w)
  ∧ (∀ (lv : Nat) (st : List Value) (t : LX) (x : Nat) (w : AH), Ex M_J0_coder_7d493 lv 6 (some (.ref x) :: t) st w = Ex M_J0_coder_7d493 lv 7 (some (.ref x) :: t) (.ref x :: st) w)
  ∧ (∀ (lv : Nat) (st : List Value) (t : LX) (w : AH), Ex M_J0_coder_7d493 lv 6 (some (.null) :: t) st w = Ex M_J0_coder_7d493 lv 7 (some (.null) :: t) (.null :: st) w)
  ∧ (∀ (lv : Nat) (l : LX) (st : List Value) (a : Nat) (w : AH), Ex M_J0_coder_7d493 lv 7 l (.ref a :: st) w = if (gf (hg w a) 50 1).isSome = true then Ex M_J0_coder_7d493 lv 10 l (vV (gf (hg w a) 50 1) :: st) w else none)
  ∧ (∀ (lv : Nat) (l : LX) (st : List Value) (w : AH), Ex M_J0_coder_7d493 lv 10 l st w = Ex M_J0_coder_7d493 lv 14 l st w)
  ∧ (∀ (lv : Nat) (l : LX) (st : List Value) (w : AH), Ex M_J0_coder_7d493 lv 13 l st w = Ex M_J0_coder_7d493 lv 14 l (.int 1 :: st) w)
  ∧ (∀ (lv : Nat) (l : LX) (w : AH), Ex M_J0_coder_7d493 lv 14 l [.int 0] w = some (some (.int 0), w)) :=
  ⟨(fun lv l st w => Ex_gets (by decide +kernel : decode M_J0_coder_7d493.2.1 0 = .ok (.getstatic 38, 3)) rfl (by decide +kernel)),
   (fun lv l st x w => Ex_if_eq (by decide +kernel : decode M_J0_coder_7d493.2.1 3 = .ok (.ifCond .eq 10, 3)) rfl rfl),
   (fun lv st t x w => Ex_M (i := .aload_n 0) (n := 1) (by decide +kernel) rfl rfl rfl),
   (fun lv st t w => Ex_M (i := .aload_n 0) (n := 1) (by decide +kernel) rfl rfl rfl),
   (fun lv l st a w => Ex_getf (by decide +kernel : decode M_J0_coder_7d493.2.1 7 = .ok (.getfield 15, 3)) rfl (by decide +kernel : resF (mCn M_J0_coder_7d493) 15 = some (50, 1, .byte, true))),
   (fun lv l st w => Ex_goto (by decide +kernel : decode M_J0_coder_7d493.2.1 10 = .ok (.goto 4, 3)) rfl),
   (fun lv l st w => Ex_A (i := .iconst 1) (n := 1) (by decide +kernel) rfl rfl),
   (fun lv l w => Ex_R (i := .ireturn) (n := 1) (by decide +kernel) rfl rfl rfl rfl rfl)⟩
set_option maxRecDepth 20000 in
set_option maxHeartbeats 4000000 in
theorem R_J0_isLatin1_aae02 : (∀ (lv : Nat) (l : LX) (st : List Value) (w : AH), Ex M_J0_isLatin1_aae02 lv 0 l st w = Ex M_J0_isLatin1_aae02 lv 3 l (.int 1 :: st) w)
  ∧ (∀ (lv : Nat) (l : LX) (st : List Value) (x : Int32) (w : AH), Ex M_J0_isLatin1_aae02 lv 3 l (.int x :: st) w = if x = 0 then Ex M_J0_isLatin1_aae02 lv 17 l st w else Ex M_J0_isLatin1_aae02 lv 6 l st w)
  ∧ (∀ (lv : Nat) (st : List Value) (t : LX) (x : Nat) (w : AH), Ex M_J0_isLatin1_aae02 lv 6 (some (.ref x) :: t) st w = Ex M_J0_isLatin1_aae02 lv 7 (some (.ref x) :: t) (.ref x :: st) w)
  ∧ (∀ (lv : Nat) (st : List Value) (t : LX) (w : AH), Ex M_J0_isLatin1_aae02 lv 6 (some (.null) :: t) st w = Ex M_J0_isLatin1_aae02 lv 7 (some (.null) :: t) (.null :: st) w)
  ∧ (∀ (lv : Nat) (l : LX) (st : List Value) (a : Nat) (w : AH), Ex M_J0_isLatin1_aae02 lv 7 l (.ref a :: st) w = if (gf (hg w a) 50 1).isSome = true then Ex M_J0_isLatin1_aae02 lv 10 l (vV (gf (hg w a) 50 1) :: st) w else none)
  ∧ (∀ (lv : Nat) (l : LX) (st : List Value) (x : Int32) (w : AH), Ex M_J0_isLatin1_aae02 lv 10 l (.int x :: st) w = if ¬ x = 0 then Ex M_J0_isLatin1_aae02 lv 17 l st w else Ex M_J0_isLatin1_aae02 lv 13 l st w)
  ∧ (∀ (lv : Nat) (l : LX) (st : List Value) (w : AH), Ex M_J0_isLatin1_aae02 lv 13 l st w = Ex M_J0_isLatin1_aae02 lv 14 l (.int 1 :: st) w)
  ∧ (∀ (lv : Nat) (l : LX) (st : List Value) (w : AH), Ex M_J0_isLatin1_aae02 lv 14 l st w = Ex M_J0_isLatin1_aae02 lv 18 l st w)
  ∧ (∀ (lv : Nat) (l : LX) (st : List Value) (w : AH), Ex M_J0_isLatin1_aae02 lv 17 l st w = Ex M_J0_isLatin1_aae02 lv 18 l (.int 0 :: st) w)
  ∧ (∀ (lv : Nat) (l : LX) (x : Int32) (w : AH), Ex M_J0_isLatin1_aae02 lv 18 l [.int x] w = if x = 0 ∨ x = 1 then some (some (.int x), w) else none) :=
  ⟨(fun lv l st w => Ex_gets (by decide +kernel : decode M_J0_isLatin1_aae02.2.1 0 = .ok (.getstatic 38, 3)) rfl (by decide +kernel)),
   (fun lv l st x w => Ex_if_eq (by decide +kernel : decode M_J0_isLatin1_aae02.2.1 3 = .ok (.ifCond .eq 14, 3)) rfl rfl),
   (fun lv st t x w => Ex_M (i := .aload_n 0) (n := 1) (by decide +kernel) rfl rfl rfl),
   (fun lv st t w => Ex_M (i := .aload_n 0) (n := 1) (by decide +kernel) rfl rfl rfl),
   (fun lv l st a w => Ex_getf (by decide +kernel : decode M_J0_isLatin1_aae02.2.1 7 = .ok (.getfield 15, 3)) rfl (by decide +kernel : resF (mCn M_J0_isLatin1_aae02) 15 = some (50, 1, .byte, true))),
   (fun lv l st x w => Ex_if_ne (by decide +kernel : decode M_J0_isLatin1_aae02.2.1 10 = .ok (.ifCond .ne 7, 3)) rfl rfl),
   (fun lv l st w => Ex_A (i := .iconst 1) (n := 1) (by decide +kernel) rfl rfl),
   (fun lv l st w => Ex_goto (by decide +kernel : decode M_J0_isLatin1_aae02.2.1 14 = .ok (.goto 4, 3)) rfl),
   (fun lv l st w => Ex_A (i := .iconst 0) (n := 1) (by decide +kernel) rfl rfl),
   (fun lv l x w => Ex_zret (by decide +kernel : decode M_J0_isLatin1_aae02.2.1 18 = .ok (.ireturn, 1)) rfl)⟩
set_option maxRecDepth 20000 in
set_option maxHeartbeats 4000000 in
theorem R_J1_canEncode_9a6ad : (∀ (lv : Nat) (st : List Value) (t : LX) (x : Int32) (w : AH), Ex M_J1_canEncode_9a6ad lv 0 (some (.int x) :: t) st w = Ex M_J1_canEncode_9a6ad lv 1 (some (.int x) :: t) (.int x :: st) w)
  ∧ (∀ (lv : Nat) (l : LX) (st : List Value) (x : Int32) (w : AH), Ex M_J1_canEncode_9a6ad lv 1 l (.int x :: st) w = if x < 0 then Ex M_J1_canEncode_9a6ad lv 15 l st w else Ex M_J1_canEncode_9a6ad lv 4 l st w)
  ∧ (∀ (lv : Nat) (st : List Value) (t : LX) (x : Int32) (w : AH), Ex M_J1_canEncode_9a6ad lv 4 (some (.int x) :: t) st w = Ex M_J1_canEncode_9a6ad lv 5 (some (.int x) :: t) (.int x :: st) w)
  ∧ (∀ (lv : Nat) (l : LX) (st : List Value) (w : AH), Ex M_J1_canEncode_9a6ad lv 5 l st w = Ex M_J1_canEncode_9a6ad lv 8 l (.int 255 :: st) w)
  ∧ (∀ (lv : Nat) (l : LX) (st : List Value) (x y : Int32) (w : AH), Ex M_J1_canEncode_9a6ad lv 8 l (.int y :: .int x :: st) w = if y < x then Ex M_J1_canEncode_9a6ad lv 15 l st w else Ex M_J1_canEncode_9a6ad lv 11 l st w)
  ∧ (∀ (lv : Nat) (l : LX) (st : List Value) (w : AH), Ex M_J1_canEncode_9a6ad lv 11 l st w = Ex M_J1_canEncode_9a6ad lv 12 l (.int 1 :: st) w)
  ∧ (∀ (lv : Nat) (l : LX) (st : List Value) (w : AH), Ex M_J1_canEncode_9a6ad lv 12 l st w = Ex M_J1_canEncode_9a6ad lv 16 l st w)
  ∧ (∀ (lv : Nat) (l : LX) (st : List Value) (w : AH), Ex M_J1_canEncode_9a6ad lv 15 l st w = Ex M_J1_canEncode_9a6ad lv 16 l (.int 0 :: st) w)
  ∧ (∀ (lv : Nat) (l : LX) (x : Int32) (w : AH), Ex M_J1_canEncode_9a6ad lv 16 l [.int x] w = if x = 0 ∨ x = 1 then some (some (.int x), w) else none) :=
  ⟨(fun lv st t x w => Ex_M (i := .iload_n 0) (n := 1) (by decide +kernel) rfl rfl rfl),
   (fun lv l st x w => Ex_if_lt (by decide +kernel : decode M_J1_canEncode_9a6ad.2.1 1 = .ok (.ifCond .lt 14, 3)) rfl rfl),
   (fun lv st t x w => Ex_M (i := .iload_n 0) (n := 1) (by decide +kernel) rfl rfl rfl),
   (fun lv l st w => Ex_A (i := .sipush 255) (n := 3) (by decide +kernel) rfl rfl),
   (fun lv l st x y w => Ex_icmp_gt (by decide +kernel : decode M_J1_canEncode_9a6ad.2.1 8 = .ok (.if_icmp .gt 7, 3)) rfl rfl),
   (fun lv l st w => Ex_A (i := .iconst 1) (n := 1) (by decide +kernel) rfl rfl),
   (fun lv l st w => Ex_goto (by decide +kernel : decode M_J1_canEncode_9a6ad.2.1 12 = .ok (.goto 4, 3)) rfl),
   (fun lv l st w => Ex_A (i := .iconst 0) (n := 1) (by decide +kernel) rfl rfl),
   (fun lv l x w => Ex_zret (by decide +kernel : decode M_J1_canEncode_9a6ad.2.1 16 = .ok (.ireturn, 1)) rfl)⟩
set_option maxRecDepth 20000 in
set_option maxHeartbeats 4000000 in
theorem R_J1_indexOf_4cfef : (∀ (lv : Nat) (st : List Value) (t : LX) (o0 : Option Value) (x : Int32) (w : AH), Ex M_J1_indexOf_4cfef lv 0 (o0 :: some (.int x) :: t) st w = Ex M_J1_indexOf_4cfef lv 1 (o0 :: some (.int x) :: t) (.int x :: st) w)
  ∧ (∀ (lv : Nat) (l : LX) (a0 : Int32) (w : AH), Ex M_J1_indexOf_4cfef lv 1 l (.int a0 :: []) w = if (Call M_J1_canEncode_9a6ad 60 [.int a0] w).isSome = true then Ex M_J1_indexOf_4cfef lv 4 l (pushR (cV (Call M_J1_canEncode_9a6ad 60 [.int a0] w)) []) (cW (Call M_J1_canEncode_9a6ad 60 [.int a0] w) w) else none)
  ∧ (∀ (lv : Nat) (l : LX) (st : List Value) (x : Int32) (w : AH), Ex M_J1_indexOf_4cfef lv 4 l (.int x :: st) w = if ¬ x = 0 then Ex M_J1_indexOf_4cfef lv 9 l st w else Ex M_J1_indexOf_4cfef lv 7 l st w)
  ∧ (∀ (lv : Nat) (l : LX) (st : List Value) (w : AH), Ex M_J1_indexOf_4cfef lv 7 l st w = Ex M_J1_indexOf_4cfef lv 8 l (.int (-1) :: st) w)
  ∧ (∀ (lv : Nat) (l : LX) (x : Int32) (w : AH), Ex M_J1_indexOf_4cfef lv 8 l [.int x] w = some (some (.int x), w))
  ∧ (∀ (lv : Nat) (st : List Value) (t : LX) (o0 o1 : Option Value) (x : Int32) (w : AH), Ex M_J1_indexOf_4cfef lv 9 (o0 :: o1 :: some (.int x) :: t) st w = Ex M_J1_indexOf_4cfef lv 10 (o0 :: o1 :: some (.int x) :: t) (.int x :: st) w)
  ∧ (∀ (lv : Nat) (l : LX) (st : List Value) (w : AH), Ex M_J1_indexOf_4cfef lv 10 l st w = Ex M_J1_indexOf_4cfef lv 11 l (.int 0 :: st) w)
  ∧ (∀ (lv : Nat) (l : LX) (a0 : Int32) (a1 : Int32) (w : AH), Ex M_J1_indexOf_4cfef lv 11 l (.int a1 :: .int a0 :: []) w = if (Call M_J9_max_7cf53 60 [.int a0, .int a1] w).isSome = true then Ex M_J1_indexOf_4cfef lv 14 l (pushR (cV (Call M_J9_max_7cf53 60 [.int a0, .int a1] w)) []) (cW (Call M_J9_max_7cf53 60 [.int a0, .int a1] w) w) else none)
  ∧ (∀ (lv : Nat) (l : LX) (st : List Value) (x : Int32) (w : AH), Ex M_J1_indexOf_4cfef lv 14 l (.int x :: st) w = Ex M_J1_indexOf_4cfef lv 15 (ls1 l 2 (.int x)) st w)
  ∧ (∀ (lv : Nat) (st : List Value) (t : LX) (o0 o1 o2 : Option Value) (x : Int32) (w : AH), Ex M_J1_indexOf_4cfef lv 15 (o0 :: o1 :: o2 :: some (.int x) :: t) st w = Ex M_J1_indexOf_4cfef lv 16 (o0 :: o1 :: o2 :: some (.int x) :: t) (.int x :: st) w)
  ∧ (∀ (lv : Nat) (st : List Value) (t : LX) (x : Nat) (w : AH), Ex M_J1_indexOf_4cfef lv 16 (some (.ref x) :: t) st w = Ex M_J1_indexOf_4cfef lv 17 (some (.ref x) :: t) (.ref x :: st) w)
  ∧ (∀ (lv : Nat) (st : List Value) (t : LX) (w : AH), Ex M_J1_indexOf_4cfef lv 16 (some (.null) :: t) st w = Ex M_J1_indexOf_4cfef lv 17 (some (.null) :: t) (.null :: st) w)
  ∧ (∀ (lv : Nat) (l : LX) (st : List Value) (a : Nat) (w : AH), Ex M_J1_indexOf_4cfef lv 17 l (.ref a :: st) w = if (aL (hg w a)).isSome = true then Ex M_J1_indexOf_4cfef lv 18 l (.int (vI (aL (hg w a))) :: st) w else none)
  ∧ (∀ (lv : Nat) (l : LX) (a0 : Int32) (a1 : Int32) (w : AH), Ex M_J1_indexOf_4cfef lv 18 l (.int a1 :: .int a0 :: []) w = if (Call M_J9_min_7cf53 60 [.int a0, .int a1] w).isSome = true then Ex M_J1_indexOf_4cfef lv 21 l (pushR (cV (Call M_J9_min_7cf53 60 [.int a0, .int a1] w)) []) (cW (Call M_J9_min_7cf53 60 [.int a0, .int a1] w) w) else none)
  ∧ (∀ (lv : Nat) (l : LX) (st : List Value) (x : Int32) (w : AH), Ex M_J1_indexOf_4cfef lv 21 l (.int x :: st) w = Ex M_J1_indexOf_4cfef lv 22 (ls1 l 3 (.int x)) st w)
  ∧ (∀ (lv : Nat) (st : List Value) (t : LX) (o0 o1 : Option Value) (x : Int32) (w : AH), Ex M_J1_indexOf_4cfef lv 22 (o0 :: o1 :: some (.int x) :: t) st w = Ex M_J1_indexOf_4cfef lv 23 (o0 :: o1 :: some (.int x) :: t) (.int x :: st) w)
  ∧ (∀ (lv : Nat) (st : List Value) (t : LX) (o0 o1 o2 : Option Value) (x : Int32) (w : AH), Ex M_J1_indexOf_4cfef lv 23 (o0 :: o1 :: o2 :: some (.int x) :: t) st w = Ex M_J1_indexOf_4cfef lv 24 (o0 :: o1 :: o2 :: some (.int x) :: t) (.int x :: st) w)
  ∧ (∀ (lv : Nat) (l : LX) (st : List Value) (x y : Int32) (w : AH), Ex M_J1_indexOf_4cfef lv 24 l (.int y :: .int x :: st) w = if x < y then Ex M_J1_indexOf_4cfef lv 29 l st w else Ex M_J1_indexOf_4cfef lv 27 l st w)
  ∧ (∀ (lv : Nat) (l : LX) (st : List Value) (w : AH), Ex M_J1_indexOf_4cfef lv 27 l st w = Ex M_J1_indexOf_4cfef lv 28 l (.int (-1) :: st) w)
  ∧ (∀ (lv : Nat) (l : LX) (x : Int32) (w : AH), Ex M_J1_indexOf_4cfef lv 28 l [.int x] w = some (some (.int x), w))
  ∧ (∀ (lv : Nat) (st : List Value) (t : LX) (x : Nat) (w : AH), Ex M_J1_indexOf_4cfef lv 29 (some (.ref x) :: t) st w = Ex M_J1_indexOf_4cfef lv 30 (some (.ref x) :: t) (.ref x :: st) w)
  ∧ (∀ (lv : Nat) (st : List Value) (t : LX) (w : AH), Ex M_J1_indexOf_4cfef lv 29 (some (.null) :: t) st w = Ex M_J1_indexOf_4cfef lv 30 (some (.null) :: t) (.null :: st) w)
  ∧ (∀ (lv : Nat) (st : List Value) (t : LX) (o0 : Option Value) (x : Int32) (w : AH), Ex M_J1_indexOf_4cfef lv 30 (o0 :: some (.int x) :: t) st w = Ex M_J1_indexOf_4cfef lv 31 (o0 :: some (.int x) :: t) (.int x :: st) w)
  ∧ (∀ (lv : Nat) (st : List Value) (t : LX) (o0 o1 : Option Value) (x : Int32) (w : AH), Ex M_J1_indexOf_4cfef lv 31 (o0 :: o1 :: some (.int x) :: t) st w = Ex M_J1_indexOf_4cfef lv 32 (o0 :: o1 :: some (.int x) :: t) (.int x :: st) w)
  ∧ (∀ (lv : Nat) (st : List Value) (t : LX) (o0 o1 o2 : Option Value) (x : Int32) (w : AH), Ex M_J1_indexOf_4cfef lv 32 (o0 :: o1 :: o2 :: some (.int x) :: t) st w = Ex M_J1_indexOf_4cfef lv 33 (o0 :: o1 :: o2 :: some (.int x) :: t) (.int x :: st) w)
  ∧ (∀ (lv : Nat) (l : LX) (a0 : Nat) (a1 : Int32) (a2 : Int32) (a3 : Int32) (w : AH), Ex M_J1_indexOf_4cfef lv 33 l (.int a3 :: .int a2 :: .int a1 :: .ref a0 :: []) w = if (Call M_J1_indexOfChar_4cfef 60 [.ref a0, .int a1, .int a2, .int a3] w).isSome = true then Ex M_J1_indexOf_4cfef lv 36 l (pushR (cV (Call M_J1_indexOfChar_4cfef 60 [.ref a0, .int a1, .int a2, .int a3] w)) []) (cW (Call M_J1_indexOfChar_4cfef 60 [.ref a0, .int a1, .int a2, .int a3] w) w) else none)
  ∧ (∀ (lv : Nat) (l : LX) (x : Int32) (w : AH), Ex M_J1_indexOf_4cfef lv 36 l [.int x] w = some (some (.int x), w)) :=
  ⟨(fun lv st t o0 x w => Ex_M (i := .iload_n 1) (n := 1) (by decide +kernel) rfl rfl rfl),
   (fun lv l a0 w => Ex_callS (by decide +kernel : decode M_J1_indexOf_4cfef.2.1 1 = .ok (.invokestatic 88, 3)) rfl (by rfl : resM (mCn M_J1_indexOf_4cfef) 88 = some (0, M_J1_canEncode_9a6ad)) (by decide) rfl (by rfl) (Nat.le_of_ble_eq_true rfl) (sLv_lt (by decide +kernel))),
   (fun lv l st x w => Ex_if_ne (by decide +kernel : decode M_J1_indexOf_4cfef.2.1 4 = .ok (.ifCond .ne 5, 3)) rfl rfl),
   (fun lv l st w => Ex_A (i := .iconst (-1)) (n := 1) (by decide +kernel) rfl rfl),
   (fun lv l x w => Ex_R (i := .ireturn) (n := 1) (by decide +kernel) rfl rfl rfl rfl rfl),
   (fun lv st t o0 o1 x w => Ex_M (i := .iload_n 2) (n := 1) (by decide +kernel) rfl rfl rfl),
   (fun lv l st w => Ex_A (i := .iconst 0) (n := 1) (by decide +kernel) rfl rfl),
   (fun lv l a0 a1 w => Ex_callS (by decide +kernel : decode M_J1_indexOf_4cfef.2.1 11 = .ok (.invokestatic 92, 3)) rfl (by rfl : resM (mCn M_J1_indexOf_4cfef) 92 = some (0, M_J9_max_7cf53)) (by decide) rfl (by rfl) (Nat.le_of_ble_eq_true rfl) (sLv_lt (by decide +kernel))),
   (fun lv l st x w => Ex_M (i := .istore_n 2) (n := 1) (by decide +kernel) rfl rfl rfl),
   (fun lv st t o0 o1 o2 x w => Ex_M (i := .iload_n 3) (n := 1) (by decide +kernel) rfl rfl rfl),
   (fun lv st t x w => Ex_M (i := .aload_n 0) (n := 1) (by decide +kernel) rfl rfl rfl),
   (fun lv st t w => Ex_M (i := .aload_n 0) (n := 1) (by decide +kernel) rfl rfl rfl),
   (fun lv l st a w => Ex_alen (by decide +kernel : decode M_J1_indexOf_4cfef.2.1 17 = .ok (.arraylength, 1)) rfl),
   (fun lv l a0 a1 w => Ex_callS (by decide +kernel : decode M_J1_indexOf_4cfef.2.1 18 = .ok (.invokestatic 38, 3)) rfl (by rfl : resM (mCn M_J1_indexOf_4cfef) 38 = some (0, M_J9_min_7cf53)) (by decide) rfl (by rfl) (Nat.le_of_ble_eq_true rfl) (sLv_lt (by decide +kernel))),
   (fun lv l st x w => Ex_M (i := .istore_n 3) (n := 1) (by decide +kernel) rfl rfl rfl),
   (fun lv st t o0 o1 x w => Ex_M (i := .iload_n 2) (n := 1) (by decide +kernel) rfl rfl rfl),
   (fun lv st t o0 o1 o2 x w => Ex_M (i := .iload_n 3) (n := 1) (by decide +kernel) rfl rfl rfl),
   (fun lv l st x y w => Ex_icmp_lt (by decide +kernel : decode M_J1_indexOf_4cfef.2.1 24 = .ok (.if_icmp .lt 5, 3)) rfl rfl),
   (fun lv l st w => Ex_A (i := .iconst (-1)) (n := 1) (by decide +kernel) rfl rfl),
   (fun lv l x w => Ex_R (i := .ireturn) (n := 1) (by decide +kernel) rfl rfl rfl rfl rfl),
   (fun lv st t x w => Ex_M (i := .aload_n 0) (n := 1) (by decide +kernel) rfl rfl rfl),
   (fun lv st t w => Ex_M (i := .aload_n 0) (n := 1) (by decide +kernel) rfl rfl rfl),
   (fun lv st t o0 x w => Ex_M (i := .iload_n 1) (n := 1) (by decide +kernel) rfl rfl rfl),
   (fun lv st t o0 o1 x w => Ex_M (i := .iload_n 2) (n := 1) (by decide +kernel) rfl rfl rfl),
   (fun lv st t o0 o1 o2 x w => Ex_M (i := .iload_n 3) (n := 1) (by decide +kernel) rfl rfl rfl),
   (fun lv l a0 a1 a2 a3 w => Ex_callS (by decide +kernel : decode M_J1_indexOf_4cfef.2.1 33 = .ok (.invokestatic 95, 3)) rfl (by rfl : resM (mCn M_J1_indexOf_4cfef) 95 = some (0, M_J1_indexOfChar_4cfef)) (by decide) rfl (by rfl) (Nat.le_of_ble_eq_true rfl) (sLv_lt (by decide +kernel))),
   (fun lv l x w => Ex_R (i := .ireturn) (n := 1) (by decide +kernel) rfl rfl rfl rfl rfl)⟩
set_option maxRecDepth 20000 in
theorem H_J1_indexOfChar_4cfef_7 : ∀ (lv : Nat) (st : List Value) (t : LX) (o0 o1 o2 o3 o4 : Option Value) (x : Int32) (w : AH), Ex M_J1_indexOfChar_4cfef lv 7 (o0 :: o1 :: o2 :: o3 :: o4 :: some (.int x) :: t) st w = Ex M_J1_indexOfChar_4cfef lv 9 (o0 :: o1 :: o2 :: o3 :: o4 :: some (.int x) :: t) (.int x :: st) w := fun lv st t o0 o1 o2 o3 o4 x w => Ex_M (i := .iload 5) (n := 2) (by decide +kernel) rfl rfl rfl
set_option maxRecDepth 20000 in
set_option maxHeartbeats 4000000 in
theorem R_J1_indexOfChar_4cfef : (∀ (lv : Nat) (st : List Value) (t : LX) (o0 : Option Value) (x : Int32) (w : AH), Ex M_J1_indexOfChar_4cfef lv 0 (o0 :: some (.int x) :: t) st w = Ex M_J1_indexOfChar_4cfef lv 1 (o0 :: some (.int x) :: t) (.int x :: st) w)
  ∧ (∀ (lv : Nat) (l : LX) (st : List Value) (x : Int32) (w : AH), Ex M_J1_indexOfChar_4cfef lv 1 l (.int x :: st) w = Ex M_J1_indexOfChar_4cfef lv 2 l (.int x.toInt8.toInt32 :: st) w)
  ∧ (∀ (lv : Nat) (l : LX) (st : List Value) (x : Int32) (w : AH), Ex M_J1_indexOfChar_4cfef lv 2 l (.int x :: st) w = Ex M_J1_indexOfChar_4cfef lv 4 (ls1 l 4 (.int x)) st w)
  ∧ (∀ (lv : Nat) (st : List Value) (t : LX) (o0 o1 : Option Value) (x : Int32) (w : AH), Ex M_J1_indexOfChar_4cfef lv 4 (o0 :: o1 :: some (.int x) :: t) st w = Ex M_J1_indexOfChar_4cfef lv 5 (o0 :: o1 :: some (.int x) :: t) (.int x :: st) w)
  ∧ (∀ (lv : Nat) (l : LX) (st : List Value) (x : Int32) (w : AH), Ex M_J1_indexOfChar_4cfef lv 5 l (.int x :: st) w = Ex M_J1_indexOfChar_4cfef lv 7 (ls1 l 5 (.int x)) st w)
  ∧ (∀ (lv : Nat) (st : List Value) (t : LX) (o0 o1 o2 : Option Value) (x : Int32) (w : AH), Ex M_J1_indexOfChar_4cfef lv 9 (o0 :: o1 :: o2 :: some (.int x) :: t) st w = Ex M_J1_indexOfChar_4cfef lv 10 (o0 :: o1 :: o2 :: some (.int x) :: t) (.int x :: st) w)
  ∧ (∀ (lv : Nat) (l : LX) (st : List Value) (x y : Int32) (w : AH), Ex M_J1_indexOfChar_4cfef lv 10 l (.int y :: .int x :: st) w = if y ≤ x then Ex M_J1_indexOfChar_4cfef lv 31 l st w else Ex M_J1_indexOfChar_4cfef lv 13 l st w)
  ∧ (∀ (lv : Nat) (st : List Value) (t : LX) (x : Nat) (w : AH), Ex M_J1_indexOfChar_4cfef lv 13 (some (.ref x) :: t) st w = Ex M_J1_indexOfChar_4cfef lv 14 (some (.ref x) :: t) (.ref x :: st) w)
  ∧ (∀ (lv : Nat) (st : List Value) (t : LX) (w : AH), Ex M_J1_indexOfChar_4cfef lv 13 (some (.null) :: t) st w = Ex M_J1_indexOfChar_4cfef lv 14 (some (.null) :: t) (.null :: st) w)
  ∧ (∀ (lv : Nat) (st : List Value) (t : LX) (o0 o1 o2 o3 o4 : Option Value) (x : Int32) (w : AH), Ex M_J1_indexOfChar_4cfef lv 14 (o0 :: o1 :: o2 :: o3 :: o4 :: some (.int x) :: t) st w = Ex M_J1_indexOfChar_4cfef lv 16 (o0 :: o1 :: o2 :: o3 :: o4 :: some (.int x) :: t) (.int x :: st) w)
  ∧ (∀ (lv : Nat) (l : LX) (st : List Value) (a : Nat) (i : Int32) (w : AH), Ex M_J1_indexOfChar_4cfef lv 16 l (.int i :: .ref a :: st) w = if (aB (hg w a) i).isSome = true then Ex M_J1_indexOfChar_4cfef lv 17 l (.int (vI (aB (hg w a) i)) :: st) w else none)
  ∧ (∀ (lv : Nat) (st : List Value) (t : LX) (o0 o1 o2 o3 : Option Value) (x : Int32) (w : AH), Ex M_J1_indexOfChar_4cfef lv 17 (o0 :: o1 :: o2 :: o3 :: some (.int x) :: t) st w = Ex M_J1_indexOfChar_4cfef lv 19 (o0 :: o1 :: o2 :: o3 :: some (.int x) :: t) (.int x :: st) w)
  ∧ (∀ (lv : Nat) (l : LX) (st : List Value) (x y : Int32) (w : AH), Ex M_J1_indexOfChar_4cfef lv 19 l (.int y :: .int x :: st) w = if ¬ x = y then Ex M_J1_indexOfChar_4cfef lv 25 l st w else Ex M_J1_indexOfChar_4cfef lv 22 l st w)
  ∧ (∀ (lv : Nat) (st : List Value) (t : LX) (o0 o1 o2 o3 o4 : Option Value) (x : Int32) (w : AH), Ex M_J1_indexOfChar_4cfef lv 22 (o0 :: o1 :: o2 :: o3 :: o4 :: some (.int x) :: t) st w = Ex M_J1_indexOfChar_4cfef lv 24 (o0 :: o1 :: o2 :: o3 :: o4 :: some (.int x) :: t) (.int x :: st) w)
  ∧ (∀ (lv : Nat) (l : LX) (x : Int32) (w : AH), Ex M_J1_indexOfChar_4cfef lv 24 l [.int x] w = some (some (.int x), w))
  ∧ (∀ (lv : Nat) (st : List Value) (t : LX) (o0 o1 o2 o3 o4 : Option Value) (x : Int32) (w : AH), Ex M_J1_indexOfChar_4cfef lv 25 (o0 :: o1 :: o2 :: o3 :: o4 :: some (.int x) :: t) st w = Ex M_J1_indexOfChar_4cfef lv 28 (ls1 (o0 :: o1 :: o2 :: o3 :: o4 :: some (.int x) :: t) 5 (.int (x + 1))) st w)
  ∧ (∀ (lv : Nat) (l : LX) (st : List Value) (w : AH), Ex M_J1_indexOfChar_4cfef lv 28 l st w = Ex M_J1_indexOfChar_4cfef lv 7 l st w)
  ∧ (∀ (lv : Nat) (l : LX) (st : List Value) (w : AH), Ex M_J1_indexOfChar_4cfef lv 31 l st w = Ex M_J1_indexOfChar_4cfef lv 32 l (.int (-1) :: st) w)
  ∧ (∀ (lv : Nat) (l : LX) (x : Int32) (w : AH), Ex M_J1_indexOfChar_4cfef lv 32 l [.int x] w = some (some (.int x), w)) :=
  ⟨(fun lv st t o0 x w => Ex_M (i := .iload_n 1) (n := 1) (by decide +kernel) rfl rfl rfl),
   (fun lv l st x w => Ex_A (i := .i2b) (n := 1) (by decide +kernel) rfl rfl),
   (fun lv l st x w => Ex_M (i := .istore 4) (n := 2) (by decide +kernel) rfl rfl rfl),
   (fun lv st t o0 o1 x w => Ex_M (i := .iload_n 2) (n := 1) (by decide +kernel) rfl rfl rfl),
   (fun lv l st x w => Ex_M (i := .istore 5) (n := 2) (by decide +kernel) rfl rfl rfl),
   (fun lv st t o0 o1 o2 x w => Ex_M (i := .iload_n 3) (n := 1) (by decide +kernel) rfl rfl rfl),
   (fun lv l st x y w => Ex_icmp_ge (by decide +kernel : decode M_J1_indexOfChar_4cfef.2.1 10 = .ok (.if_icmp .ge 21, 3)) rfl rfl),
   (fun lv st t x w => Ex_M (i := .aload_n 0) (n := 1) (by decide +kernel) rfl rfl rfl),
   (fun lv st t w => Ex_M (i := .aload_n 0) (n := 1) (by decide +kernel) rfl rfl rfl),
   (fun lv st t o0 o1 o2 o3 o4 x w => Ex_M (i := .iload 5) (n := 2) (by decide +kernel) rfl rfl rfl),
   (fun lv l st a i w => Ex_bal (by decide +kernel : decode M_J1_indexOfChar_4cfef.2.1 16 = .ok (.baload, 1)) rfl),
   (fun lv st t o0 o1 o2 o3 x w => Ex_M (i := .iload 4) (n := 2) (by decide +kernel) rfl rfl rfl),
   (fun lv l st x y w => Ex_icmp_ne (by decide +kernel : decode M_J1_indexOfChar_4cfef.2.1 19 = .ok (.if_icmp .ne 6, 3)) rfl rfl),
   (fun lv st t o0 o1 o2 o3 o4 x w => Ex_M (i := .iload 5) (n := 2) (by decide +kernel) rfl rfl rfl),
   (fun lv l x w => Ex_R (i := .ireturn) (n := 1) (by decide +kernel) rfl rfl rfl rfl rfl),
   (fun lv st t o0 o1 o2 o3 o4 x w => Ex_iinc (by decide +kernel : decode M_J1_indexOfChar_4cfef.2.1 25 = .ok (.iinc 5 1, 3)) rfl rfl (by decide) (by decide)),
   (fun lv l st w => Ex_goto (by decide +kernel : decode M_J1_indexOfChar_4cfef.2.1 28 = .ok (.goto (-21), 3)) rfl),
   (fun lv l st w => Ex_A (i := .iconst (-1)) (n := 1) (by decide +kernel) rfl rfl),
   (fun lv l x w => Ex_R (i := .ireturn) (n := 1) (by decide +kernel) rfl rfl rfl rfl rfl)⟩
