/-! ===== printed by wip/whole/genrows.py: rows of Ex, a theorem a method ===== -/
set_option maxRecDepth 20000 in
theorem H_X11_init_104 : ∀ (lv : Nat) (st : List Value) (t : LX) (o0 : Option Value) (x : Int32) (w : AH), Ex M_X11_init lv 104 (o0 :: some (.int x) :: t) st w = Ex M_X11_init lv 105 (o0 :: some (.int x) :: t) (.int x :: st) w := fun lv st t o0 x w => Ex_M (i := .iload_n 1) (n := 1) (by decide +kernel) rfl rfl rfl
set_option maxRecDepth 20000 in
set_option maxHeartbeats 4000000 in
theorem R_X11_init_p0 : (∀ (lv : Nat) (st : List Value) (t : LX) (x : Nat) (w : AH), Ex M_X11_init lv 0 (some (.ref x) :: t) st w = Ex M_X11_init lv 1 (some (.ref x) :: t) (.ref x :: st) w)
  ∧ (∀ (lv : Nat) (st : List Value) (t : LX) (w : AH), Ex M_X11_init lv 0 (some (.null) :: t) st w = Ex M_X11_init lv 1 (some (.null) :: t) (.null :: st) w)
  ∧ (∀ (lv : Nat) (l : LX) (b : Nat) (w : AH), Ex M_X11_init lv 1 l (.ref b :: []) w = Ex M_X11_init lv 4 l [] w)
  ∧ (∀ (lv : Nat) (st : List Value) (t : LX) (x : Nat) (w : AH), Ex M_X11_init lv 4 (some (.ref x) :: t) st w = Ex M_X11_init lv 5 (some (.ref x) :: t) (.ref x :: st) w)
  ∧ (∀ (lv : Nat) (st : List Value) (t : LX) (w : AH), Ex M_X11_init lv 4 (some (.null) :: t) st w = Ex M_X11_init lv 5 (some (.null) :: t) (.null :: st) w)
  ∧ (∀ (lv : Nat) (l : LX) (st : List Value) (w : AH), Ex M_X11_init lv 5 l st w = Ex M_X11_init lv 8 l (.ref w.1 :: st) (hn w (.inr (1, [.null, .null, .null, .null, .null, .null, .int 0, .int 0, .int 0])) 9))
  ∧ (∀ (lv : Nat) (l : LX) (st : List Value) (x : Nat) (w : AH), Ex M_X11_init lv 8 l (.ref x :: st) w = Ex M_X11_init lv 9 l (.ref x :: .ref x :: st) w)
  ∧ (∀ (lv : Nat) (l : LX) (b : Nat) (s0 : Nat) (s1 : Nat) (w : AH), Ex M_X11_init lv 9 l (.ref b :: [.ref s0, .ref s1]) w = if (Call M_X1_init 60 [.ref b] w).isSome = true then Ex M_X11_init lv 12 l (pushR (cV (Call M_X1_init 60 [.ref b] w)) [.ref s0, .ref s1]) (cW (Call M_X1_init 60 [.ref b] w) w) else none)
  ∧ (∀ (lv : Nat) (l : LX) (st : List Value) (a : Nat) (v : Value) (w : AH), Ex M_X11_init lv 12 l (v :: .ref a :: st) w = if (pf (hg w a) 10 0 (.object "CarpetLands$Country") v).isSome = true then Ex M_X11_init lv 15 l st (hs w a (vE (pf (hg w a) 10 0 (.object "CarpetLands$Country") v))) else none)
  ∧ (∀ (lv : Nat) (st : List Value) (t : LX) (x : Nat) (w : AH), Ex M_X11_init lv 15 (some (.ref x) :: t) st w = Ex M_X11_init lv 16 (some (.ref x) :: t) (.ref x :: st) w)
  ∧ (∀ (lv : Nat) (st : List Value) (t : LX) (w : AH), Ex M_X11_init lv 15 (some (.null) :: t) st w = Ex M_X11_init lv 16 (some (.null) :: t) (.null :: st) w)
  ∧ (∀ (lv : Nat) (l : LX) (st : List Value) (w : AH), Ex M_X11_init lv 16 l st w = Ex M_X11_init lv 19 l (.ref w.1 :: st) (hn w (.inr (1, [.null, .null, .null, .null, .null, .null, .int 0, .int 0, .int 0])) 9))
  ∧ (∀ (lv : Nat) (l : LX) (st : List Value) (x : Nat) (w : AH), Ex M_X11_init lv 19 l (.ref x :: st) w = Ex M_X11_init lv 20 l (.ref x :: .ref x :: st) w)
  ∧ (∀ (lv : Nat) (l : LX) (b : Nat) (s0 : Nat) (s1 : Nat) (w : AH), Ex M_X11_init lv 20 l (.ref b :: [.ref s0, .ref s1]) w = if (Call M_X1_init 60 [.ref b] w).isSome = true then Ex M_X11_init lv 23 l (pushR (cV (Call M_X1_init 60 [.ref b] w)) [.ref s0, .ref s1]) (cW (Call M_X1_init 60 [.ref b] w) w) else none)
  ∧ (∀ (lv : Nat) (l : LX) (st : List Value) (a : Nat) (v : Value) (w : AH), Ex M_X11_init lv 23 l (v :: .ref a :: st) w = if (pf (hg w a) 10 1 (.object "CarpetLands$Country") v).isSome = true then Ex M_X11_init lv 26 l st (hs w a (vE (pf (hg w a) 10 1 (.object "CarpetLands$Country") v))) else none)
  ∧ (∀ (lv : Nat) (st : List Value) (t : LX) (x : Nat) (w : AH), Ex M_X11_init lv 26 (some (.ref x) :: t) st w = Ex M_X11_init lv 27 (some (.ref x) :: t) (.ref x :: st) w)
  ∧ (∀ (lv : Nat) (st : List Value) (t : LX) (w : AH), Ex M_X11_init lv 26 (some (.null) :: t) st w = Ex M_X11_init lv 27 (some (.null) :: t) (.null :: st) w)
  ∧ (∀ (lv : Nat) (l : LX) (st : List Value) (w : AH), Ex M_X11_init lv 27 l st w = Ex M_X11_init lv 30 l (.ref w.1 :: st) (hn w (.inr (1, [.null, .null, .null, .null, .null, .null, .int 0, .int 0, .int 0])) 9))
  ∧ (∀ (lv : Nat) (l : LX) (st : List Value) (x : Nat) (w : AH), Ex M_X11_init lv 30 l (.ref x :: st) w = Ex M_X11_init lv 31 l (.ref x :: .ref x :: st) w)
  ∧ (∀ (lv : Nat) (l : LX) (b : Nat) (s0 : Nat) (s1 : Nat) (w : AH), Ex M_X11_init lv 31 l (.ref b :: [.ref s0, .ref s1]) w = if (Call M_X1_init 60 [.ref b] w).isSome = true then Ex M_X11_init lv 34 l (pushR (cV (Call M_X1_init 60 [.ref b] w)) [.ref s0, .ref s1]) (cW (Call M_X1_init 60 [.ref b] w) w) else none)
  ∧ (∀ (lv : Nat) (l : LX) (st : List Value) (a : Nat) (v : Value) (w : AH), Ex M_X11_init lv 34 l (v :: .ref a :: st) w = if (pf (hg w a) 10 2 (.object "CarpetLands$Country") v).isSome = true then Ex M_X11_init lv 37 l st (hs w a (vE (pf (hg w a) 10 2 (.object "CarpetLands$Country") v))) else none)
  ∧ (∀ (lv : Nat) (st : List Value) (t : LX) (x : Nat) (w : AH), Ex M_X11_init lv 37 (some (.ref x) :: t) st w = Ex M_X11_init lv 38 (some (.ref x) :: t) (.ref x :: st) w)
  ∧ (∀ (lv : Nat) (st : List Value) (t : LX) (w : AH), Ex M_X11_init lv 37 (some (.null) :: t) st w = Ex M_X11_init lv 38 (some (.null) :: t) (.null :: st) w)
  ∧ (∀ (lv : Nat) (l : LX) (st : List Value) (w : AH), Ex M_X11_init lv 38 l st w = Ex M_X11_init lv 41 l (.ref w.1 :: st) (hn w (.inr (4, [.null, .null, .null, .int 0, .int 0])) 5))
  ∧ (∀ (lv : Nat) (l : LX) (st : List Value) (x : Nat) (w : AH), Ex M_X11_init lv 41 l (.ref x :: st) w = Ex M_X11_init lv 42 l (.ref x :: .ref x :: st) w)
  ∧ (∀ (lv : Nat) (l : LX) (b : Nat) (s0 : Nat) (s1 : Nat) (w : AH), Ex M_X11_init lv 42 l (.ref b :: [.ref s0, .ref s1]) w = if (Call M_X4_init 60 [.ref b] w).isSome = true then Ex M_X11_init lv 45 l (pushR (cV (Call M_X4_init 60 [.ref b] w)) [.ref s0, .ref s1]) (cW (Call M_X4_init 60 [.ref b] w) w) else none)
  ∧ (∀ (lv : Nat) (l : LX) (st : List Value) (a : Nat) (v : Value) (w : AH), Ex M_X11_init lv 45 l (v :: .ref a :: st) w = if (pf (hg w a) 10 3 (.object "CarpetLands$Reader") v).isSome = true then Ex M_X11_init lv 48 l st (hs w a (vE (pf (hg w a) 10 3 (.object "CarpetLands$Reader") v))) else none)
  ∧ (∀ (lv : Nat) (st : List Value) (t : LX) (x : Nat) (w : AH), Ex M_X11_init lv 48 (some (.ref x) :: t) st w = Ex M_X11_init lv 49 (some (.ref x) :: t) (.ref x :: st) w)
  ∧ (∀ (lv : Nat) (st : List Value) (t : LX) (w : AH), Ex M_X11_init lv 48 (some (.null) :: t) st w = Ex M_X11_init lv 49 (some (.null) :: t) (.null :: st) w)
  ∧ (∀ (lv : Nat) (l : LX) (st : List Value) (w : AH), Ex M_X11_init lv 49 l st w = Ex M_X11_init lv 52 l (.ref w.1 :: st) (hn w (.inr (8, [.null, .int 0, .int 0, .int 0])) 4))
  ∧ (∀ (lv : Nat) (l : LX) (st : List Value) (x : Nat) (w : AH), Ex M_X11_init lv 52 l (.ref x :: st) w = Ex M_X11_init lv 53 l (.ref x :: .ref x :: st) w)
  ∧ (∀ (lv : Nat) (l : LX) (b : Nat) (s0 : Nat) (s1 : Nat) (w : AH), Ex M_X11_init lv 53 l (.ref b :: [.ref s0, .ref s1]) w = if (Call M_X9_init 60 [.ref b] w).isSome = true then Ex M_X11_init lv 56 l (pushR (cV (Call M_X9_init 60 [.ref b] w)) [.ref s0, .ref s1]) (cW (Call M_X9_init 60 [.ref b] w) w) else none)
  ∧ (∀ (lv : Nat) (l : LX) (st : List Value) (a : Nat) (v : Value) (w : AH), Ex M_X11_init lv 56 l (v :: .ref a :: st) w = if (pf (hg w a) 10 4 (.object "CarpetLands$Voice") v).isSome = true then Ex M_X11_init lv 59 l st (hs w a (vE (pf (hg w a) 10 4 (.object "CarpetLands$Voice") v))) else none)
  ∧ (∀ (lv : Nat) (st : List Value) (t : LX) (x : Nat) (w : AH), Ex M_X11_init lv 59 (some (.ref x) :: t) st w = Ex M_X11_init lv 60 (some (.ref x) :: t) (.ref x :: st) w)
  ∧ (∀ (lv : Nat) (st : List Value) (t : LX) (w : AH), Ex M_X11_init lv 59 (some (.null) :: t) st w = Ex M_X11_init lv 60 (some (.null) :: t) (.null :: st) w)
  ∧ (∀ (lv : Nat) (l : LX) (st : List Value) (w : AH), Ex M_X11_init lv 60 l st w = Ex M_X11_init lv 63 l (.ref w.1 :: st) (hn w (.inr (5, [.null, .null, .null])) 3))
  ∧ (∀ (lv : Nat) (l : LX) (st : List Value) (x : Nat) (w : AH), Ex M_X11_init lv 63 l (.ref x :: st) w = Ex M_X11_init lv 64 l (.ref x :: .ref x :: st) w)
  ∧ (∀ (lv : Nat) (l : LX) (b : Nat) (s0 : Nat) (s1 : Nat) (w : AH), Ex M_X11_init lv 64 l (.ref b :: [.ref s0, .ref s1]) w = if (Call M_X5_init 60 [.ref b] w).isSome = true then Ex M_X11_init lv 67 l (pushR (cV (Call M_X5_init 60 [.ref b] w)) [.ref s0, .ref s1]) (cW (Call M_X5_init 60 [.ref b] w) w) else none)
  ∧ (∀ (lv : Nat) (l : LX) (st : List Value) (a : Nat) (v : Value) (w : AH), Ex M_X11_init lv 67 l (v :: .ref a :: st) w = if (pf (hg w a) 10 5 (.object "CarpetLands$Roads") v).isSome = true then Ex M_X11_init lv 70 l st (hs w a (vE (pf (hg w a) 10 5 (.object "CarpetLands$Roads") v))) else none)
  ∧ (∀ (lv : Nat) (st : List Value) (t : LX) (x : Nat) (w : AH), Ex M_X11_init lv 70 (some (.ref x) :: t) st w = Ex M_X11_init lv 71 (some (.ref x) :: t) (.ref x :: st) w)
  ∧ (∀ (lv : Nat) (st : List Value) (t : LX) (w : AH), Ex M_X11_init lv 70 (some (.null) :: t) st w = Ex M_X11_init lv 71 (some (.null) :: t) (.null :: st) w)
  ∧ (∀ (lv : Nat) (l : LX) (st : List Value) (w : AH), Ex M_X11_init lv 71 l st w = Ex M_X11_init lv 74 l (.ref w.1 :: st) (hn w (.inr (2, [.null, .null, .null, .int 0])) 4))
  ∧ (∀ (lv : Nat) (l : LX) (st : List Value) (x : Nat) (w : AH), Ex M_X11_init lv 74 l (.ref x :: st) w = Ex M_X11_init lv 75 l (.ref x :: .ref x :: st) w)
  ∧ (∀ (lv : Nat) (l : LX) (b : Nat) (s0 : Nat) (s1 : Nat) (w : AH), Ex M_X11_init lv 75 l (.ref b :: [.ref s0, .ref s1]) w = if (Call M_X2_init 60 [.ref b] w).isSome = true then Ex M_X11_init lv 78 l (pushR (cV (Call M_X2_init 60 [.ref b] w)) [.ref s0, .ref s1]) (cW (Call M_X2_init 60 [.ref b] w) w) else none)
  ∧ (∀ (lv : Nat) (l : LX) (st : List Value) (a : Nat) (v : Value) (w : AH), Ex M_X11_init lv 78 l (v :: .ref a :: st) w = if (pf (hg w a) 10 6 (.object "CarpetLands$Dyeing") v).isSome = true then Ex M_X11_init lv 81 l st (hs w a (vE (pf (hg w a) 10 6 (.object "CarpetLands$Dyeing") v))) else none)
  ∧ (∀ (lv : Nat) (st : List Value) (t : LX) (x : Nat) (w : AH), Ex M_X11_init lv 81 (some (.ref x) :: t) st w = Ex M_X11_init lv 82 (some (.ref x) :: t) (.ref x :: st) w)
  ∧ (∀ (lv : Nat) (st : List Value) (t : LX) (w : AH), Ex M_X11_init lv 81 (some (.null) :: t) st w = Ex M_X11_init lv 82 (some (.null) :: t) (.null :: st) w)
  ∧ (∀ (lv : Nat) (l : LX) (st : List Value) (w : AH), Ex M_X11_init lv 82 l st w = Ex M_X11_init lv 83 l (.int 4 :: st) w)
  ∧ (∀ (lv : Nat) (l : LX) (st : List Value) (w : AH), Ex M_X11_init lv 83 l (.int 4 :: st) w = Ex M_X11_init lv 86 l (.ref w.1 :: st) (hn w (.inl (4, 4, .inr (.inr (.inr (.inr (fun _ => none)))))) 4))
  ∧ (∀ (lv : Nat) (l : LX) (st : List Value) (a : Nat) (v : Value) (w : AH), Ex M_X11_init lv 86 l (v :: .ref a :: st) w = if (pf (hg w a) 10 7 (.array (.object "CarpetLands$Sheet")) v).isSome = true then Ex M_X11_init lv 89 l st (hs w a (vE (pf (hg w a) 10 7 (.array (.object "CarpetLands$Sheet")) v))) else none)
  ∧ (∀ (lv : Nat) (st : List Value) (t : LX) (x : Nat) (w : AH), Ex M_X11_init lv 89 (some (.ref x) :: t) st w = Ex M_X11_init lv 90 (some (.ref x) :: t) (.ref x :: st) w)
  ∧ (∀ (lv : Nat) (st : List Value) (t : LX) (w : AH), Ex M_X11_init lv 89 (some (.null) :: t) st w = Ex M_X11_init lv 90 (some (.null) :: t) (.null :: st) w)
  ∧ (∀ (lv : Nat) (l : LX) (st : List Value) (w : AH), Ex M_X11_init lv 90 l st w = Ex M_X11_init lv 92 l (.int 6 :: st) w)
  ∧ (∀ (lv : Nat) (l : LX) (st : List Value) (w : AH), Ex M_X11_init lv 92 l (.int 6 :: st) w = Ex M_X11_init lv 94 l (.ref w.1 :: st) (hn w (.inl (0, 6, .inl (fun _ => 0))) 6))
  ∧ (∀ (lv : Nat) (l : LX) (st : List Value) (a : Nat) (v : Value) (w : AH), Ex M_X11_init lv 94 l (v :: .ref a :: st) w = if (pf (hg w a) 10 8 (.array .int) v).isSome = true then Ex M_X11_init lv 97 l st (hs w a (vE (pf (hg w a) 10 8 (.array .int) v))) else none)
  ∧ (∀ (lv : Nat) (st : List Value) (t : LX) (x : Nat) (w : AH), Ex M_X11_init lv 97 (some (.ref x) :: t) st w = Ex M_X11_init lv 98 (some (.ref x) :: t) (.ref x :: st) w)
  ∧ (∀ (lv : Nat) (st : List Value) (t : LX) (w : AH), Ex M_X11_init lv 97 (some (.null) :: t) st w = Ex M_X11_init lv 98 (some (.null) :: t) (.null :: st) w)
  ∧ (∀ (lv : Nat) (l : LX) (st : List Value) (w : AH), Ex M_X11_init lv 98 l st w = Ex M_X11_init lv 99 l (.int 0 :: st) w)
  ∧ (∀ (lv : Nat) (l : LX) (st : List Value) (a : Nat) (v : Value) (w : AH), Ex M_X11_init lv 99 l (v :: .ref a :: st) w = if (pf (hg w a) 10 9 .int v).isSome = true then Ex M_X11_init lv 102 l st (hs w a (vE (pf (hg w a) 10 9 .int v))) else none)
  ∧ (∀ (lv : Nat) (l : LX) (st : List Value) (w : AH), Ex M_X11_init lv 102 l st w = Ex M_X11_init lv 103 l (.int 0 :: st) w) :=
  ⟨(fun lv st t x w => Ex_M (i := .aload_n 0) (n := 1) (by decide +kernel) rfl rfl rfl),
   (fun lv st t w => Ex_M (i := .aload_n 0) (n := 1) (by decide +kernel) rfl rfl rfl),
   (fun lv l b w => Ex_oinit (by decide +kernel : decode M_X11_init.2.1 1 = .ok (.invokespecial 3, 3)) rfl (by rfl : resM (mCn M_X11_init) 3 = some (6, M_X0_init)) (by rfl)),
   (fun lv st t x w => Ex_M (i := .aload_n 0) (n := 1) (by decide +kernel) rfl rfl rfl),
   (fun lv st t w => Ex_M (i := .aload_n 0) (n := 1) (by decide +kernel) rfl rfl rfl),
   (fun lv l st w => Ex_new (by decide +kernel : decode M_X11_init.2.1 5 = .ok (.new 9, 3)) rfl (by decide +kernel) rfl rfl),
   (fun lv l st x w => Ex_A (i := .dup) (n := 1) (by decide +kernel) rfl rfl),
   (fun lv l b s0 s1 w => Ex_callI (by decide +kernel : decode M_X11_init.2.1 9 = .ok (.invokespecial 11, 3)) rfl (by rfl : resM (mCn M_X11_init) 11 = some (3, M_X1_init)) (by decide) rfl (by rfl) (Nat.le_of_ble_eq_true rfl) (sLv_lt (by decide +kernel))),
   (fun lv l st a v w => Ex_putf (by decide +kernel : decode M_X11_init.2.1 12 = .ok (.putfield 12, 3)) rfl (by decide +kernel : resF (mCn M_X11_init) 12 = some (10, 0, (.object "CarpetLands$Country"), true)) (by decide +kernel)),
   (fun lv st t x w => Ex_M (i := .aload_n 0) (n := 1) (by decide +kernel) rfl rfl rfl),
   (fun lv st t w => Ex_M (i := .aload_n 0) (n := 1) (by decide +kernel) rfl rfl rfl),
   (fun lv l st w => Ex_new (by decide +kernel : decode M_X11_init.2.1 16 = .ok (.new 9, 3)) rfl (by decide +kernel) rfl rfl),
   (fun lv l st x w => Ex_A (i := .dup) (n := 1) (by decide +kernel) rfl rfl),
   (fun lv l b s0 s1 w => Ex_callI (by decide +kernel : decode M_X11_init.2.1 20 = .ok (.invokespecial 11, 3)) rfl (by rfl : resM (mCn M_X11_init) 11 = some (3, M_X1_init)) (by decide) rfl (by rfl) (Nat.le_of_ble_eq_true rfl) (sLv_lt (by decide +kernel))),
   (fun lv l st a v w => Ex_putf (by decide +kernel : decode M_X11_init.2.1 23 = .ok (.putfield 16, 3)) rfl (by decide +kernel : resF (mCn M_X11_init) 16 = some (10, 1, (.object "CarpetLands$Country"), true)) (by decide +kernel)),
   (fun lv st t x w => Ex_M (i := .aload_n 0) (n := 1) (by decide +kernel) rfl rfl rfl),
   (fun lv st t w => Ex_M (i := .aload_n 0) (n := 1) (by decide +kernel) rfl rfl rfl),
   (fun lv l st w => Ex_new (by decide +kernel : decode M_X11_init.2.1 27 = .ok (.new 9, 3)) rfl (by decide +kernel) rfl rfl),
   (fun lv l st x w => Ex_A (i := .dup) (n := 1) (by decide +kernel) rfl rfl),
   (fun lv l b s0 s1 w => Ex_callI (by decide +kernel : decode M_X11_init.2.1 31 = .ok (.invokespecial 11, 3)) rfl (by rfl : resM (mCn M_X11_init) 11 = some (3, M_X1_init)) (by decide) rfl (by rfl) (Nat.le_of_ble_eq_true rfl) (sLv_lt (by decide +kernel))),
   (fun lv l st a v w => Ex_putf (by decide +kernel : decode M_X11_init.2.1 34 = .ok (.putfield 19, 3)) rfl (by decide +kernel : resF (mCn M_X11_init) 19 = some (10, 2, (.object "CarpetLands$Country"), true)) (by decide +kernel)),
   (fun lv st t x w => Ex_M (i := .aload_n 0) (n := 1) (by decide +kernel) rfl rfl rfl),
   (fun lv st t w => Ex_M (i := .aload_n 0) (n := 1) (by decide +kernel) rfl rfl rfl),
   (fun lv l st w => Ex_new (by decide +kernel : decode M_X11_init.2.1 38 = .ok (.new 22, 3)) rfl (by decide +kernel) rfl rfl),
   (fun lv l st x w => Ex_A (i := .dup) (n := 1) (by decide +kernel) rfl rfl),
   (fun lv l b s0 s1 w => Ex_callI (by decide +kernel : decode M_X11_init.2.1 42 = .ok (.invokespecial 24, 3)) rfl (by rfl : resM (mCn M_X11_init) 24 = some (4, M_X4_init)) (by decide) rfl (by rfl) (Nat.le_of_ble_eq_true rfl) (sLv_lt (by decide +kernel))),
   (fun lv l st a v w => Ex_putf (by decide +kernel : decode M_X11_init.2.1 45 = .ok (.putfield 25, 3)) rfl (by decide +kernel : resF (mCn M_X11_init) 25 = some (10, 3, (.object "CarpetLands$Reader"), true)) (by decide +kernel)),
   (fun lv st t x w => Ex_M (i := .aload_n 0) (n := 1) (by decide +kernel) rfl rfl rfl),
   (fun lv st t w => Ex_M (i := .aload_n 0) (n := 1) (by decide +kernel) rfl rfl rfl),
   (fun lv l st w => Ex_new (by decide +kernel : decode M_X11_init.2.1 49 = .ok (.new 29, 3)) rfl (by decide +kernel) rfl rfl),
   (fun lv l st x w => Ex_A (i := .dup) (n := 1) (by decide +kernel) rfl rfl),
   (fun lv l b s0 s1 w => Ex_callI (by decide +kernel : decode M_X11_init.2.1 53 = .ok (.invokespecial 31, 3)) rfl (by rfl : resM (mCn M_X11_init) 31 = some (4, M_X9_init)) (by decide) rfl (by rfl) (Nat.le_of_ble_eq_true rfl) (sLv_lt (by decide +kernel))),
   (fun lv l st a v w => Ex_putf (by decide +kernel : decode M_X11_init.2.1 56 = .ok (.putfield 32, 3)) rfl (by decide +kernel : resF (mCn M_X11_init) 32 = some (10, 4, (.object "CarpetLands$Voice"), true)) (by decide +kernel)),
   (fun lv st t x w => Ex_M (i := .aload_n 0) (n := 1) (by decide +kernel) rfl rfl rfl),
   (fun lv st t w => Ex_M (i := .aload_n 0) (n := 1) (by decide +kernel) rfl rfl rfl),
   (fun lv l st w => Ex_new (by decide +kernel : decode M_X11_init.2.1 60 = .ok (.new 36, 3)) rfl (by decide +kernel) rfl rfl),
   (fun lv l st x w => Ex_A (i := .dup) (n := 1) (by decide +kernel) rfl rfl),
   (fun lv l b s0 s1 w => Ex_callI (by decide +kernel : decode M_X11_init.2.1 64 = .ok (.invokespecial 38, 3)) rfl (by rfl : resM (mCn M_X11_init) 38 = some (4, M_X5_init)) (by decide) rfl (by rfl) (Nat.le_of_ble_eq_true rfl) (sLv_lt (by decide +kernel))),
   (fun lv l st a v w => Ex_putf (by decide +kernel : decode M_X11_init.2.1 67 = .ok (.putfield 39, 3)) rfl (by decide +kernel : resF (mCn M_X11_init) 39 = some (10, 5, (.object "CarpetLands$Roads"), true)) (by decide +kernel)),
   (fun lv st t x w => Ex_M (i := .aload_n 0) (n := 1) (by decide +kernel) rfl rfl rfl),
   (fun lv st t w => Ex_M (i := .aload_n 0) (n := 1) (by decide +kernel) rfl rfl rfl),
   (fun lv l st w => Ex_new (by decide +kernel : decode M_X11_init.2.1 71 = .ok (.new 43, 3)) rfl (by decide +kernel) rfl rfl),
   (fun lv l st x w => Ex_A (i := .dup) (n := 1) (by decide +kernel) rfl rfl),
   (fun lv l b s0 s1 w => Ex_callI (by decide +kernel : decode M_X11_init.2.1 75 = .ok (.invokespecial 45, 3)) rfl (by rfl : resM (mCn M_X11_init) 45 = some (4, M_X2_init)) (by decide) rfl (by rfl) (Nat.le_of_ble_eq_true rfl) (sLv_lt (by decide +kernel))),
   (fun lv l st a v w => Ex_putf (by decide +kernel : decode M_X11_init.2.1 78 = .ok (.putfield 46, 3)) rfl (by decide +kernel : resF (mCn M_X11_init) 46 = some (10, 6, (.object "CarpetLands$Dyeing"), true)) (by decide +kernel)),
   (fun lv st t x w => Ex_M (i := .aload_n 0) (n := 1) (by decide +kernel) rfl rfl rfl),
   (fun lv st t w => Ex_M (i := .aload_n 0) (n := 1) (by decide +kernel) rfl rfl rfl),
   (fun lv l st w => Ex_A (i := .iconst 4) (n := 1) (by decide +kernel) rfl rfl),
   (fun lv l st w => Ex_anew (by decide +kernel : decode M_X11_init.2.1 83 = .ok (.anewarray 50, 3)) rfl (by decide +kernel) (by decide) (by decide)),
   (fun lv l st a v w => Ex_putf (by decide +kernel : decode M_X11_init.2.1 86 = .ok (.putfield 52, 3)) rfl (by decide +kernel : resF (mCn M_X11_init) 52 = some (10, 7, (.array (.object "CarpetLands$Sheet")), true)) (by decide +kernel)),
   (fun lv st t x w => Ex_M (i := .aload_n 0) (n := 1) (by decide +kernel) rfl rfl rfl),
   (fun lv st t w => Ex_M (i := .aload_n 0) (n := 1) (by decide +kernel) rfl rfl rfl),
   (fun lv l st w => Ex_A (i := .bipush 6) (n := 2) (by decide +kernel) rfl rfl),
   (fun lv l st w => Ex_newa (by decide +kernel : decode M_X11_init.2.1 92 = .ok (.newarray .int, 2)) rfl (by decide) (by decide) rfl),
   (fun lv l st a v w => Ex_putf (by decide +kernel : decode M_X11_init.2.1 94 = .ok (.putfield 56, 3)) rfl (by decide +kernel : resF (mCn M_X11_init) 56 = some (10, 8, (.array .int), true)) (by decide +kernel)),
   (fun lv st t x w => Ex_M (i := .aload_n 0) (n := 1) (by decide +kernel) rfl rfl rfl),
   (fun lv st t w => Ex_M (i := .aload_n 0) (n := 1) (by decide +kernel) rfl rfl rfl),
   (fun lv l st w => Ex_A (i := .iconst 0) (n := 1) (by decide +kernel) rfl rfl),
   (fun lv l st a v w => Ex_putf (by decide +kernel : decode M_X11_init.2.1 99 = .ok (.putfield 60, 3)) rfl (by decide +kernel : resF (mCn M_X11_init) 60 = some (10, 9, .int, false)) (by decide +kernel)),
   (fun lv l st w => Ex_A (i := .iconst 0) (n := 1) (by decide +kernel) rfl rfl)⟩
set_option maxRecDepth 20000 in
set_option maxHeartbeats 4000000 in
theorem R_X11_init_p1 : (∀ (lv : Nat) (l : LX) (st : List Value) (x : Int32) (w : AH), Ex M_X11_init lv 103 l (.int x :: st) w = Ex M_X11_init lv 104 (ls1 l 1 (.int x)) st w)
  ∧ (∀ (lv : Nat) (l : LX) (st : List Value) (w : AH), Ex M_X11_init lv 105 l st w = Ex M_X11_init lv 106 l (.int 4 :: st) w)
  ∧ (∀ (lv : Nat) (l : LX) (st : List Value) (x y : Int32) (w : AH), Ex M_X11_init lv 106 l (.int y :: .int x :: st) w = if y ≤ x then Ex M_X11_init lv 128 l st w else Ex M_X11_init lv 109 l st w)
  ∧ (∀ (lv : Nat) (st : List Value) (t : LX) (x : Nat) (w : AH), Ex M_X11_init lv 109 (some (.ref x) :: t) st w = Ex M_X11_init lv 110 (some (.ref x) :: t) (.ref x :: st) w)
  ∧ (∀ (lv : Nat) (st : List Value) (t : LX) (w : AH), Ex M_X11_init lv 109 (some (.null) :: t) st w = Ex M_X11_init lv 110 (some (.null) :: t) (.null :: st) w)
  ∧ (∀ (lv : Nat) (l : LX) (st : List Value) (a : Nat) (w : AH), Ex M_X11_init lv 110 l (.ref a :: st) w = if (gf (hg w a) 10 7).isSome = true then Ex M_X11_init lv 113 l (vV (gf (hg w a) 10 7) :: st) w else none)
  ∧ (∀ (lv : Nat) (st : List Value) (t : LX) (o0 : Option Value) (x : Int32) (w : AH), Ex M_X11_init lv 113 (o0 :: some (.int x) :: t) st w = Ex M_X11_init lv 114 (o0 :: some (.int x) :: t) (.int x :: st) w)
  ∧ (∀ (lv : Nat) (l : LX) (st : List Value) (w : AH), Ex M_X11_init lv 114 l st w = Ex M_X11_init lv 117 l (.ref w.1 :: st) (hn w (.inr (7, [.null, .int 0, .int 0])) 3))
  ∧ (∀ (lv : Nat) (l : LX) (st : List Value) (x : Nat) (w : AH), Ex M_X11_init lv 117 l (.ref x :: st) w = Ex M_X11_init lv 118 l (.ref x :: .ref x :: st) w)
  ∧ (∀ (lv : Nat) (l : LX) (b : Nat) (s0 : Nat) (s1 : Int32) (s2 : Nat) (w : AH), Ex M_X11_init lv 118 l (.ref b :: [.ref s0, .int s1, .ref s2]) w = if (Call M_X8_init 60 [.ref b] w).isSome = true then Ex M_X11_init lv 121 l (pushR (cV (Call M_X8_init 60 [.ref b] w)) [.ref s0, .int s1, .ref s2]) (cW (Call M_X8_init 60 [.ref b] w) w) else none)
  ∧ (∀ (lv : Nat) (l : LX) (st : List Value) (a : Nat) (i : Int32) (x : Nat) (w : AH), Ex M_X11_init lv 121 l (.ref x :: .int i :: .ref a :: st) w = if (uQ (hg w a) (hg w x) i x).isSome = true then Ex M_X11_init lv 122 l st (hs w a (vE (uQ (hg w a) (hg w x) i x))) else none)
  ∧ (∀ (lv : Nat) (st : List Value) (t : LX) (o0 : Option Value) (x : Int32) (w : AH), Ex M_X11_init lv 122 (o0 :: some (.int x) :: t) st w = Ex M_X11_init lv 125 (ls1 (o0 :: some (.int x) :: t) 1 (.int (x + 1))) st w)
  ∧ (∀ (lv : Nat) (l : LX) (st : List Value) (w : AH), Ex M_X11_init lv 125 l st w = Ex M_X11_init lv 104 l st w)
  ∧ (∀ (lv : Nat) (l : LX) (w : AH), Ex M_X11_init lv 128 l [] w = some (none, w)) :=
  ⟨(fun lv l st x w => Ex_M (i := .istore_n 1) (n := 1) (by decide +kernel) rfl rfl rfl),
   (fun lv l st w => Ex_A (i := .iconst 4) (n := 1) (by decide +kernel) rfl rfl),
   (fun lv l st x y w => Ex_icmp_ge (by decide +kernel : decode M_X11_init.2.1 106 = .ok (.if_icmp .ge 22, 3)) rfl rfl),
   (fun lv st t x w => Ex_M (i := .aload_n 0) (n := 1) (by decide +kernel) rfl rfl rfl),
   (fun lv st t w => Ex_M (i := .aload_n 0) (n := 1) (by decide +kernel) rfl rfl rfl),
   (fun lv l st a w => Ex_getf (by decide +kernel : decode M_X11_init.2.1 110 = .ok (.getfield 52, 3)) rfl (by decide +kernel : resF (mCn M_X11_init) 52 = some (10, 7, (.array (.object "CarpetLands$Sheet")), true))),
   (fun lv st t o0 x w => Ex_M (i := .iload_n 1) (n := 1) (by decide +kernel) rfl rfl rfl),
   (fun lv l st w => Ex_new (by decide +kernel : decode M_X11_init.2.1 114 = .ok (.new 50, 3)) rfl (by decide +kernel) rfl rfl),
   (fun lv l st x w => Ex_A (i := .dup) (n := 1) (by decide +kernel) rfl rfl),
   (fun lv l b s0 s1 s2 w => Ex_callI (by decide +kernel : decode M_X11_init.2.1 118 = .ok (.invokespecial 64, 3)) rfl (by rfl : resM (mCn M_X11_init) 64 = some (4, M_X8_init)) (by decide) rfl (by rfl) (Nat.le_of_ble_eq_true rfl) (sLv_lt (by decide +kernel))),
   (fun lv l st a i x w => Ex_aas (by decide +kernel : decode M_X11_init.2.1 121 = .ok (.aastore, 1)) rfl),
   (fun lv st t o0 x w => Ex_iinc (by decide +kernel : decode M_X11_init.2.1 122 = .ok (.iinc 1 1, 3)) rfl rfl (by decide) (by decide)),
   (fun lv l st w => Ex_goto (by decide +kernel : decode M_X11_init.2.1 125 = .ok (.goto (-21), 3)) rfl),
   (fun lv l w => Ex_R (i := .return_) (n := 1) (by decide +kernel) rfl rfl rfl rfl rfl)⟩
-- R_X11_init: p0 to p1
set_option maxRecDepth 20000 in
set_option maxHeartbeats 4000000 in
theorem R_X11_knot_p0 : (∀ (lv : Nat) (st : List Value) (t : LX) (o0 : Option Value) (x : Int32) (w : AH), Ex M_X11_knot lv 0 (o0 :: some (.int x) :: t) st w = Ex M_X11_knot lv 1 (o0 :: some (.int x) :: t) (.int x :: st) w)
  ∧ (∀ (lv : Nat) (l : LX) (a0 : Int32) (w : AH), Ex M_X11_knot lv 1 l (.int a0 :: []) w = if (Call M_X11_isKnot 60 [.int a0] w).isSome = true then Ex M_X11_knot lv 4 l (pushR (cV (Call M_X11_isKnot 60 [.int a0] w)) []) (cW (Call M_X11_isKnot 60 [.int a0] w) w) else none)
  ∧ (∀ (lv : Nat) (l : LX) (st : List Value) (x : Int32) (w : AH), Ex M_X11_knot lv 4 l (.int x :: st) w = if x = 0 then Ex M_X11_knot lv 16 l st w else Ex M_X11_knot lv 7 l st w)
  ∧ (∀ (lv : Nat) (st : List Value) (t : LX) (o0 o1 : Option Value) (x : Int32) (w : AH), Ex M_X11_knot lv 7 (o0 :: o1 :: some (.int x) :: t) st w = Ex M_X11_knot lv 8 (o0 :: o1 :: some (.int x) :: t) (.int x :: st) w)
  ∧ (∀ (lv : Nat) (l : LX) (st : List Value) (w : AH), Ex M_X11_knot lv 8 l st w = Ex M_X11_knot lv 9 l (.int 0 :: st) w)
  ∧ (∀ (lv : Nat) (l : LX) (st : List Value) (w : AH), Ex M_X11_knot lv 9 l st w = Ex M_X11_knot lv 10 l (.int 1 :: st) w)
  ∧ (∀ (lv : Nat) (l : LX) (a0 : Int32) (a1 : Int32) (a2 : Int32) (w : AH), Ex M_X11_knot lv 10 l (.int a2 :: .int a1 :: .int a0 :: []) w = if (Call M_X11_isWithin 60 [.int a0, .int a1, .int a2] w).isSome = true then Ex M_X11_knot lv 13 l (pushR (cV (Call M_X11_isWithin 60 [.int a0, .int a1, .int a2] w)) []) (cW (Call M_X11_isWithin 60 [.int a0, .int a1, .int a2] w) w) else none)
  ∧ (∀ (lv : Nat) (l : LX) (st : List Value) (x : Int32) (w : AH), Ex M_X11_knot lv 13 l (.int x :: st) w = if ¬ x = 0 then Ex M_X11_knot lv 23 l st w else Ex M_X11_knot lv 16 l st w)
  ∧ (∀ (lv : Nat) (st : List Value) (t : LX) (x : Nat) (w : AH), Ex M_X11_knot lv 16 (some (.ref x) :: t) st w = Ex M_X11_knot lv 17 (some (.ref x) :: t) (.ref x :: st) w)
  ∧ (∀ (lv : Nat) (st : List Value) (t : LX) (w : AH), Ex M_X11_knot lv 16 (some (.null) :: t) st w = Ex M_X11_knot lv 17 (some (.null) :: t) (.null :: st) w)
  ∧ (∀ (lv : Nat) (l : LX) (st : List Value) (w : AH), Ex M_X11_knot lv 17 l st w = Ex M_X11_knot lv 19 l (.int (-1000000001) :: st) w)
  ∧ (∀ (lv : Nat) (l : LX) (b : Nat) (a0 : Int32) (w : AH), Ex M_X11_knot lv 19 l (.int a0 :: .ref b :: []) w = if clK (hg w b) = 10 then (if (Call M_X11_refuse 60 [.ref b, .int a0] w).isSome = true then Ex M_X11_knot lv 22 l (pushR (cV (Call M_X11_refuse 60 [.ref b, .int a0] w)) []) (cW (Call M_X11_refuse 60 [.ref b, .int a0] w) w) else none) else none)
  ∧ (∀ (lv : Nat) (l : LX) (x : Int32) (w : AH), Ex M_X11_knot lv 22 l [.int x] w = some (some (.int x), w))
  ∧ (∀ (lv : Nat) (st : List Value) (t : LX) (o0 o1 o2 : Option Value) (x : Int32) (w : AH), Ex M_X11_knot lv 23 (o0 :: o1 :: o2 :: some (.int x) :: t) st w = Ex M_X11_knot lv 24 (o0 :: o1 :: o2 :: some (.int x) :: t) (.int x :: st) w)
  ∧ (∀ (lv : Nat) (l : LX) (st : List Value) (w : AH), Ex M_X11_knot lv 24 l st w = Ex M_X11_knot lv 25 l (.int 0 :: st) w)
  ∧ (∀ (lv : Nat) (st : List Value) (t : LX) (o0 o1 : Option Value) (x : Int32) (w : AH), Ex M_X11_knot lv 25 (o0 :: o1 :: some (.int x) :: t) st w = Ex M_X11_knot lv 26 (o0 :: o1 :: some (.int x) :: t) (.int x :: st) w)
  ∧ (∀ (lv : Nat) (l : LX) (st : List Value) (x : Int32) (w : AH), Ex M_X11_knot lv 26 l (.int x :: st) w = if ¬ x = 0 then Ex M_X11_knot lv 34 l st w else Ex M_X11_knot lv 29 l st w)
  ∧ (∀ (lv : Nat) (l : LX) (st : List Value) (w : AH), Ex M_X11_knot lv 29 l st w = Ex M_X11_knot lv 31 l (.int 7 :: st) w)
  ∧ (∀ (lv : Nat) (l : LX) (st : List Value) (w : AH), Ex M_X11_knot lv 31 l st w = Ex M_X11_knot lv 36 l st w)
  ∧ (∀ (lv : Nat) (l : LX) (st : List Value) (w : AH), Ex M_X11_knot lv 34 l st w = Ex M_X11_knot lv 36 l (.int 99 :: st) w)
  ∧ (∀ (lv : Nat) (l : LX) (a0 : Int32) (a1 : Int32) (a2 : Int32) (w : AH), Ex M_X11_knot lv 36 l (.int a2 :: .int a1 :: .int a0 :: []) w = if (Call M_X11_isWithin 60 [.int a0, .int a1, .int a2] w).isSome = true then Ex M_X11_knot lv 39 l (pushR (cV (Call M_X11_isWithin 60 [.int a0, .int a1, .int a2] w)) []) (cW (Call M_X11_isWithin 60 [.int a0, .int a1, .int a2] w) w) else none)
  ∧ (∀ (lv : Nat) (l : LX) (st : List Value) (x : Int32) (w : AH), Ex M_X11_knot lv 39 l (.int x :: st) w = if ¬ x = 0 then Ex M_X11_knot lv 49 l st w else Ex M_X11_knot lv 42 l st w)
  ∧ (∀ (lv : Nat) (st : List Value) (t : LX) (x : Nat) (w : AH), Ex M_X11_knot lv 42 (some (.ref x) :: t) st w = Ex M_X11_knot lv 43 (some (.ref x) :: t) (.ref x :: st) w)
  ∧ (∀ (lv : Nat) (st : List Value) (t : LX) (w : AH), Ex M_X11_knot lv 42 (some (.null) :: t) st w = Ex M_X11_knot lv 43 (some (.null) :: t) (.null :: st) w)
  ∧ (∀ (lv : Nat) (l : LX) (st : List Value) (w : AH), Ex M_X11_knot lv 43 l st w = Ex M_X11_knot lv 45 l (.int (-1000000001) :: st) w)
  ∧ (∀ (lv : Nat) (l : LX) (b : Nat) (a0 : Int32) (w : AH), Ex M_X11_knot lv 45 l (.int a0 :: .ref b :: []) w = if clK (hg w b) = 10 then (if (Call M_X11_refuse 60 [.ref b, .int a0] w).isSome = true then Ex M_X11_knot lv 48 l (pushR (cV (Call M_X11_refuse 60 [.ref b, .int a0] w)) []) (cW (Call M_X11_refuse 60 [.ref b, .int a0] w) w) else none) else none)
  ∧ (∀ (lv : Nat) (l : LX) (x : Int32) (w : AH), Ex M_X11_knot lv 48 l [.int x] w = some (some (.int x), w))
  ∧ (∀ (lv : Nat) (st : List Value) (t : LX) (o0 o1 : Option Value) (x : Int32) (w : AH), Ex M_X11_knot lv 49 (o0 :: o1 :: some (.int x) :: t) st w = Ex M_X11_knot lv 50 (o0 :: o1 :: some (.int x) :: t) (.int x :: st) w)
  ∧ (∀ (lv : Nat) (l : LX) (st : List Value) (x : Int32) (w : AH), Ex M_X11_knot lv 50 l (.int x :: st) w = if ¬ x = 0 then Ex M_X11_knot lv 67 l st w else Ex M_X11_knot lv 53 l st w)
  ∧ (∀ (lv : Nat) (st : List Value) (t : LX) (x : Nat) (w : AH), Ex M_X11_knot lv 53 (some (.ref x) :: t) st w = Ex M_X11_knot lv 54 (some (.ref x) :: t) (.ref x :: st) w)
  ∧ (∀ (lv : Nat) (st : List Value) (t : LX) (w : AH), Ex M_X11_knot lv 53 (some (.null) :: t) st w = Ex M_X11_knot lv 54 (some (.null) :: t) (.null :: st) w)
  ∧ (∀ (lv : Nat) (l : LX) (st : List Value) (a : Nat) (w : AH), Ex M_X11_knot lv 54 l (.ref a :: st) w = if (gf (hg w a) 10 0).isSome = true then Ex M_X11_knot lv 57 l (vV (gf (hg w a) 10 0) :: st) w else none)
  ∧ (∀ (lv : Nat) (l : LX) (st : List Value) (a : Nat) (w : AH), Ex M_X11_knot lv 57 l (.ref a :: st) w = if (gf (hg w a) 1 0).isSome = true then Ex M_X11_knot lv 60 l (vV (gf (hg w a) 1 0) :: st) w else none)
  ∧ (∀ (lv : Nat) (st : List Value) (t : LX) (o0 : Option Value) (x : Int32) (w : AH), Ex M_X11_knot lv 60 (o0 :: some (.int x) :: t) st w = Ex M_X11_knot lv 61 (o0 :: some (.int x) :: t) (.int x :: st) w)
  ∧ (∀ (lv : Nat) (l : LX) (b : Nat) (a0 : Int32) (w : AH), Ex M_X11_knot lv 61 l (.int a0 :: .ref b :: []) w = if clK (hg w b) = 0 then (if (Call M_X0_colourOf 60 [.ref b, .int a0] w).isSome = true then Ex M_X11_knot lv 64 l (pushR (cV (Call M_X0_colourOf 60 [.ref b, .int a0] w)) []) (cW (Call M_X0_colourOf 60 [.ref b, .int a0] w) w) else none) else none)
  ∧ (∀ (lv : Nat) (l : LX) (st : List Value) (w : AH), Ex M_X11_knot lv 64 l st w = Ex M_X11_knot lv 78 l st w)
  ∧ (∀ (lv : Nat) (st : List Value) (t : LX) (x : Nat) (w : AH), Ex M_X11_knot lv 67 (some (.ref x) :: t) st w = Ex M_X11_knot lv 68 (some (.ref x) :: t) (.ref x :: st) w)
  ∧ (∀ (lv : Nat) (st : List Value) (t : LX) (w : AH), Ex M_X11_knot lv 67 (some (.null) :: t) st w = Ex M_X11_knot lv 68 (some (.null) :: t) (.null :: st) w)
  ∧ (∀ (lv : Nat) (l : LX) (st : List Value) (a : Nat) (w : AH), Ex M_X11_knot lv 68 l (.ref a :: st) w = if (gf (hg w a) 10 0).isSome = true then Ex M_X11_knot lv 71 l (vV (gf (hg w a) 10 0) :: st) w else none)
  ∧ (∀ (lv : Nat) (l : LX) (st : List Value) (a : Nat) (w : AH), Ex M_X11_knot lv 71 l (.ref a :: st) w = if (gf (hg w a) 1 0).isSome = true then Ex M_X11_knot lv 74 l (vV (gf (hg w a) 1 0) :: st) w else none)
  ∧ (∀ (lv : Nat) (st : List Value) (t : LX) (o0 : Option Value) (x : Int32) (w : AH), Ex M_X11_knot lv 74 (o0 :: some (.int x) :: t) st w = Ex M_X11_knot lv 75 (o0 :: some (.int x) :: t) (.int x :: st) w)
  ∧ (∀ (lv : Nat) (l : LX) (b : Nat) (a0 : Int32) (w : AH), Ex M_X11_knot lv 75 l (.int a0 :: .ref b :: []) w = if clK (hg w b) = 0 then (if (Call M_X0_wearOf 60 [.ref b, .int a0] w).isSome = true then Ex M_X11_knot lv 78 l (pushR (cV (Call M_X0_wearOf 60 [.ref b, .int a0] w)) []) (cW (Call M_X0_wearOf 60 [.ref b, .int a0] w) w) else none) else none)
  ∧ (∀ (lv : Nat) (l : LX) (st : List Value) (x : Int32) (w : AH), Ex M_X11_knot lv 78 l (.int x :: st) w = Ex M_X11_knot lv 80 (ls1 l 4 (.int x)) st w)
  ∧ (∀ (lv : Nat) (st : List Value) (t : LX) (o0 o1 : Option Value) (x : Int32) (w : AH), Ex M_X11_knot lv 80 (o0 :: o1 :: some (.int x) :: t) st w = Ex M_X11_knot lv 81 (o0 :: o1 :: some (.int x) :: t) (.int x :: st) w)
  ∧ (∀ (lv : Nat) (l : LX) (st : List Value) (x : Int32) (w : AH), Ex M_X11_knot lv 81 l (.int x :: st) w = if ¬ x = 0 then Ex M_X11_knot lv 99 l st w else Ex M_X11_knot lv 84 l st w)
  ∧ (∀ (lv : Nat) (st : List Value) (t : LX) (x : Nat) (w : AH), Ex M_X11_knot lv 84 (some (.ref x) :: t) st w = Ex M_X11_knot lv 85 (some (.ref x) :: t) (.ref x :: st) w)
  ∧ (∀ (lv : Nat) (st : List Value) (t : LX) (w : AH), Ex M_X11_knot lv 84 (some (.null) :: t) st w = Ex M_X11_knot lv 85 (some (.null) :: t) (.null :: st) w)
  ∧ (∀ (lv : Nat) (l : LX) (st : List Value) (a : Nat) (w : AH), Ex M_X11_knot lv 85 l (.ref a :: st) w = if (gf (hg w a) 10 0).isSome = true then Ex M_X11_knot lv 88 l (vV (gf (hg w a) 10 0) :: st) w else none)
  ∧ (∀ (lv : Nat) (l : LX) (st : List Value) (a : Nat) (w : AH), Ex M_X11_knot lv 88 l (.ref a :: st) w = if (gf (hg w a) 1 0).isSome = true then Ex M_X11_knot lv 91 l (vV (gf (hg w a) 1 0) :: st) w else none)
  ∧ (∀ (lv : Nat) (st : List Value) (t : LX) (o0 : Option Value) (x : Int32) (w : AH), Ex M_X11_knot lv 91 (o0 :: some (.int x) :: t) st w = Ex M_X11_knot lv 92 (o0 :: some (.int x) :: t) (.int x :: st) w)
  ∧ (∀ (lv : Nat) (st : List Value) (t : LX) (o0 o1 o2 : Option Value) (x : Int32) (w : AH), Ex M_X11_knot lv 92 (o0 :: o1 :: o2 :: some (.int x) :: t) st w = Ex M_X11_knot lv 93 (o0 :: o1 :: o2 :: some (.int x) :: t) (.int x :: st) w)
  ∧ (∀ (lv : Nat) (l : LX) (b : Nat) (a0 : Int32) (a1 : Int32) (w : AH), Ex M_X11_knot lv 93 l (.int a1 :: .int a0 :: .ref b :: []) w = if clK (hg w b) = 0 then (if (Call M_X0_setColour 60 [.ref b, .int a0, .int a1] w).isSome = true then Ex M_X11_knot lv 96 l (pushR (cV (Call M_X0_setColour 60 [.ref b, .int a0, .int a1] w)) []) (cW (Call M_X0_setColour 60 [.ref b, .int a0, .int a1] w) w) else none) else none)
  ∧ (∀ (lv : Nat) (l : LX) (st : List Value) (w : AH), Ex M_X11_knot lv 96 l st w = Ex M_X11_knot lv 111 l st w)
  ∧ (∀ (lv : Nat) (st : List Value) (t : LX) (x : Nat) (w : AH), Ex M_X11_knot lv 99 (some (.ref x) :: t) st w = Ex M_X11_knot lv 100 (some (.ref x) :: t) (.ref x :: st) w)
  ∧ (∀ (lv : Nat) (st : List Value) (t : LX) (w : AH), Ex M_X11_knot lv 99 (some (.null) :: t) st w = Ex M_X11_knot lv 100 (some (.null) :: t) (.null :: st) w)
  ∧ (∀ (lv : Nat) (l : LX) (st : List Value) (a : Nat) (w : AH), Ex M_X11_knot lv 100 l (.ref a :: st) w = if (gf (hg w a) 10 0).isSome = true then Ex M_X11_knot lv 103 l (vV (gf (hg w a) 10 0) :: st) w else none)
  ∧ (∀ (lv : Nat) (l : LX) (st : List Value) (a : Nat) (w : AH), Ex M_X11_knot lv 103 l (.ref a :: st) w = if (gf (hg w a) 1 0).isSome = true then Ex M_X11_knot lv 106 l (vV (gf (hg w a) 1 0) :: st) w else none)
  ∧ (∀ (lv : Nat) (st : List Value) (t : LX) (o0 : Option Value) (x : Int32) (w : AH), Ex M_X11_knot lv 106 (o0 :: some (.int x) :: t) st w = Ex M_X11_knot lv 107 (o0 :: some (.int x) :: t) (.int x :: st) w)
  ∧ (∀ (lv : Nat) (st : List Value) (t : LX) (o0 o1 o2 : Option Value) (x : Int32) (w : AH), Ex M_X11_knot lv 107 (o0 :: o1 :: o2 :: some (.int x) :: t) st w = Ex M_X11_knot lv 108 (o0 :: o1 :: o2 :: some (.int x) :: t) (.int x :: st) w)
  ∧ (∀ (lv : Nat) (l : LX) (b : Nat) (a0 : Int32) (a1 : Int32) (w : AH), Ex M_X11_knot lv 108 l (.int a1 :: .int a0 :: .ref b :: []) w = if clK (hg w b) = 0 then (if (Call M_X0_setWear 60 [.ref b, .int a0, .int a1] w).isSome = true then Ex M_X11_knot lv 111 l (pushR (cV (Call M_X0_setWear 60 [.ref b, .int a0, .int a1] w)) []) (cW (Call M_X0_setWear 60 [.ref b, .int a0, .int a1] w) w) else none) else none) :=
  ⟨(fun lv st t o0 x w => Ex_M (i := .iload_n 1) (n := 1) (by decide +kernel) rfl rfl rfl),
   (fun lv l a0 w => Ex_callS (by decide +kernel : decode M_X11_knot.2.1 1 = .ok (.invokestatic 65, 3)) rfl (by rfl : resM (mCn M_X11_knot) 65 = some (0, M_X11_isKnot)) (by decide) rfl (by rfl) (Nat.le_of_ble_eq_true rfl) (sLv_lt (by decide +kernel))),
   (fun lv l st x w => Ex_if_eq (by decide +kernel : decode M_X11_knot.2.1 4 = .ok (.ifCond .eq 12, 3)) rfl rfl),
   (fun lv st t o0 o1 x w => Ex_M (i := .iload_n 2) (n := 1) (by decide +kernel) rfl rfl rfl),
   (fun lv l st w => Ex_A (i := .iconst 0) (n := 1) (by decide +kernel) rfl rfl),
   (fun lv l st w => Ex_A (i := .iconst 1) (n := 1) (by decide +kernel) rfl rfl),
   (fun lv l a0 a1 a2 w => Ex_callS (by decide +kernel : decode M_X11_knot.2.1 10 = .ok (.invokestatic 69, 3)) rfl (by rfl : resM (mCn M_X11_knot) 69 = some (0, M_X11_isWithin)) (by decide) rfl (by rfl) (Nat.le_of_ble_eq_true rfl) (sLv_lt (by decide +kernel))),
   (fun lv l st x w => Ex_if_ne (by decide +kernel : decode M_X11_knot.2.1 13 = .ok (.ifCond .ne 10, 3)) rfl rfl),
   (fun lv st t x w => Ex_M (i := .aload_n 0) (n := 1) (by decide +kernel) rfl rfl rfl),
   (fun lv st t w => Ex_M (i := .aload_n 0) (n := 1) (by decide +kernel) rfl rfl rfl),
   (fun lv l st w => Ex_ldcI (by decide +kernel : decode M_X11_knot.2.1 17 = .ok (.ldc 73, 2)) rfl (by decide +kernel)),
   (fun lv l b a0 w => Ex_callV (by decide +kernel : decode M_X11_knot.2.1 19 = .ok (.invokevirtual 74, 3)) rfl (by rfl : resM (mCn M_X11_knot) 74 = some (2, M_X11_refuse)) rfl (by rfl) (Nat.le_of_ble_eq_true rfl) (by decide +kernel) (sLv_lt (by decide +kernel))),
   (fun lv l x w => Ex_R (i := .ireturn) (n := 1) (by decide +kernel) rfl rfl rfl rfl rfl),
   (fun lv st t o0 o1 o2 x w => Ex_M (i := .iload_n 3) (n := 1) (by decide +kernel) rfl rfl rfl),
   (fun lv l st w => Ex_A (i := .iconst 0) (n := 1) (by decide +kernel) rfl rfl),
   (fun lv st t o0 o1 x w => Ex_M (i := .iload_n 2) (n := 1) (by decide +kernel) rfl rfl rfl),
   (fun lv l st x w => Ex_if_ne (by decide +kernel : decode M_X11_knot.2.1 26 = .ok (.ifCond .ne 8, 3)) rfl rfl),
   (fun lv l st w => Ex_A (i := .bipush 7) (n := 2) (by decide +kernel) rfl rfl),
   (fun lv l st w => Ex_goto (by decide +kernel : decode M_X11_knot.2.1 31 = .ok (.goto 5, 3)) rfl),
   (fun lv l st w => Ex_A (i := .bipush 99) (n := 2) (by decide +kernel) rfl rfl),
   (fun lv l a0 a1 a2 w => Ex_callS (by decide +kernel : decode M_X11_knot.2.1 36 = .ok (.invokestatic 69, 3)) rfl (by rfl : resM (mCn M_X11_knot) 69 = some (0, M_X11_isWithin)) (by decide) rfl (by rfl) (Nat.le_of_ble_eq_true rfl) (sLv_lt (by decide +kernel))),
   (fun lv l st x w => Ex_if_ne (by decide +kernel : decode M_X11_knot.2.1 39 = .ok (.ifCond .ne 10, 3)) rfl rfl),
   (fun lv st t x w => Ex_M (i := .aload_n 0) (n := 1) (by decide +kernel) rfl rfl rfl),
   (fun lv st t w => Ex_M (i := .aload_n 0) (n := 1) (by decide +kernel) rfl rfl rfl),
   (fun lv l st w => Ex_ldcI (by decide +kernel : decode M_X11_knot.2.1 43 = .ok (.ldc 73, 2)) rfl (by decide +kernel)),
   (fun lv l b a0 w => Ex_callV (by decide +kernel : decode M_X11_knot.2.1 45 = .ok (.invokevirtual 74, 3)) rfl (by rfl : resM (mCn M_X11_knot) 74 = some (2, M_X11_refuse)) rfl (by rfl) (Nat.le_of_ble_eq_true rfl) (by decide +kernel) (sLv_lt (by decide +kernel))),
   (fun lv l x w => Ex_R (i := .ireturn) (n := 1) (by decide +kernel) rfl rfl rfl rfl rfl),
   (fun lv st t o0 o1 x w => Ex_M (i := .iload_n 2) (n := 1) (by decide +kernel) rfl rfl rfl),
   (fun lv l st x w => Ex_if_ne (by decide +kernel : decode M_X11_knot.2.1 50 = .ok (.ifCond .ne 17, 3)) rfl rfl),
   (fun lv st t x w => Ex_M (i := .aload_n 0) (n := 1) (by decide +kernel) rfl rfl rfl),
   (fun lv st t w => Ex_M (i := .aload_n 0) (n := 1) (by decide +kernel) rfl rfl rfl),
   (fun lv l st a w => Ex_getf (by decide +kernel : decode M_X11_knot.2.1 54 = .ok (.getfield 12, 3)) rfl (by decide +kernel : resF (mCn M_X11_knot) 12 = some (10, 0, (.object "CarpetLands$Country"), true))),
   (fun lv l st a w => Ex_getf (by decide +kernel : decode M_X11_knot.2.1 57 = .ok (.getfield 78, 3)) rfl (by decide +kernel : resF (mCn M_X11_knot) 78 = some (1, 0, (.object "CarpetLands$Carpet"), true))),
   (fun lv st t o0 x w => Ex_M (i := .iload_n 1) (n := 1) (by decide +kernel) rfl rfl rfl),
   (fun lv l b a0 w => Ex_callV (by decide +kernel : decode M_X11_knot.2.1 61 = .ok (.invokevirtual 82, 3)) rfl (by rfl : resM (mCn M_X11_knot) 82 = some (2, M_X0_colourOf)) rfl (by rfl) (Nat.le_of_ble_eq_true rfl) (by decide +kernel) (sLv_lt (by decide +kernel))),
   (fun lv l st w => Ex_goto (by decide +kernel : decode M_X11_knot.2.1 64 = .ok (.goto 14, 3)) rfl),
   (fun lv st t x w => Ex_M (i := .aload_n 0) (n := 1) (by decide +kernel) rfl rfl rfl),
   (fun lv st t w => Ex_M (i := .aload_n 0) (n := 1) (by decide +kernel) rfl rfl rfl),
   (fun lv l st a w => Ex_getf (by decide +kernel : decode M_X11_knot.2.1 68 = .ok (.getfield 12, 3)) rfl (by decide +kernel : resF (mCn M_X11_knot) 12 = some (10, 0, (.object "CarpetLands$Country"), true))),
   (fun lv l st a w => Ex_getf (by decide +kernel : decode M_X11_knot.2.1 71 = .ok (.getfield 78, 3)) rfl (by decide +kernel : resF (mCn M_X11_knot) 78 = some (1, 0, (.object "CarpetLands$Carpet"), true))),
   (fun lv st t o0 x w => Ex_M (i := .iload_n 1) (n := 1) (by decide +kernel) rfl rfl rfl),
   (fun lv l b a0 w => Ex_callV (by decide +kernel : decode M_X11_knot.2.1 75 = .ok (.invokevirtual 87, 3)) rfl (by rfl : resM (mCn M_X11_knot) 87 = some (2, M_X0_wearOf)) rfl (by rfl) (Nat.le_of_ble_eq_true rfl) (by decide +kernel) (sLv_lt (by decide +kernel))),
   (fun lv l st x w => Ex_M (i := .istore 4) (n := 2) (by decide +kernel) rfl rfl rfl),
   (fun lv st t o0 o1 x w => Ex_M (i := .iload_n 2) (n := 1) (by decide +kernel) rfl rfl rfl),
   (fun lv l st x w => Ex_if_ne (by decide +kernel : decode M_X11_knot.2.1 81 = .ok (.ifCond .ne 18, 3)) rfl rfl),
   (fun lv st t x w => Ex_M (i := .aload_n 0) (n := 1) (by decide +kernel) rfl rfl rfl),
   (fun lv st t w => Ex_M (i := .aload_n 0) (n := 1) (by decide +kernel) rfl rfl rfl),
   (fun lv l st a w => Ex_getf (by decide +kernel : decode M_X11_knot.2.1 85 = .ok (.getfield 12, 3)) rfl (by decide +kernel : resF (mCn M_X11_knot) 12 = some (10, 0, (.object "CarpetLands$Country"), true))),
   (fun lv l st a w => Ex_getf (by decide +kernel : decode M_X11_knot.2.1 88 = .ok (.getfield 78, 3)) rfl (by decide +kernel : resF (mCn M_X11_knot) 78 = some (1, 0, (.object "CarpetLands$Carpet"), true))),
   (fun lv st t o0 x w => Ex_M (i := .iload_n 1) (n := 1) (by decide +kernel) rfl rfl rfl),
   (fun lv st t o0 o1 o2 x w => Ex_M (i := .iload_n 3) (n := 1) (by decide +kernel) rfl rfl rfl),
   (fun lv l b a0 a1 w => Ex_callV (by decide +kernel : decode M_X11_knot.2.1 93 = .ok (.invokevirtual 90, 3)) rfl (by rfl : resM (mCn M_X11_knot) 90 = some (2, M_X0_setColour)) rfl (by rfl) (Nat.le_of_ble_eq_true rfl) (by decide +kernel) (sLv_lt (by decide +kernel))),
   (fun lv l st w => Ex_goto (by decide +kernel : decode M_X11_knot.2.1 96 = .ok (.goto 15, 3)) rfl),
   (fun lv st t x w => Ex_M (i := .aload_n 0) (n := 1) (by decide +kernel) rfl rfl rfl),
   (fun lv st t w => Ex_M (i := .aload_n 0) (n := 1) (by decide +kernel) rfl rfl rfl),
   (fun lv l st a w => Ex_getf (by decide +kernel : decode M_X11_knot.2.1 100 = .ok (.getfield 12, 3)) rfl (by decide +kernel : resF (mCn M_X11_knot) 12 = some (10, 0, (.object "CarpetLands$Country"), true))),
   (fun lv l st a w => Ex_getf (by decide +kernel : decode M_X11_knot.2.1 103 = .ok (.getfield 78, 3)) rfl (by decide +kernel : resF (mCn M_X11_knot) 78 = some (1, 0, (.object "CarpetLands$Carpet"), true))),
   (fun lv st t o0 x w => Ex_M (i := .iload_n 1) (n := 1) (by decide +kernel) rfl rfl rfl),
   (fun lv st t o0 o1 o2 x w => Ex_M (i := .iload_n 3) (n := 1) (by decide +kernel) rfl rfl rfl),
   (fun lv l b a0 a1 w => Ex_callV (by decide +kernel : decode M_X11_knot.2.1 108 = .ok (.invokevirtual 94, 3)) rfl (by rfl : resM (mCn M_X11_knot) 94 = some (2, M_X0_setWear)) rfl (by rfl) (Nat.le_of_ble_eq_true rfl) (by decide +kernel) (sLv_lt (by decide +kernel)))⟩
set_option maxRecDepth 20000 in
set_option maxHeartbeats 4000000 in
theorem R_X11_knot_p1 : (∀ (lv : Nat) (st : List Value) (t : LX) (o0 o1 o2 o3 : Option Value) (x : Int32) (w : AH), Ex M_X11_knot lv 111 (o0 :: o1 :: o2 :: o3 :: some (.int x) :: t) st w = Ex M_X11_knot lv 113 (o0 :: o1 :: o2 :: o3 :: some (.int x) :: t) (.int x :: st) w)
  ∧ (∀ (lv : Nat) (l : LX) (x : Int32) (w : AH), Ex M_X11_knot lv 113 l [.int x] w = some (some (.int x), w)) :=
  ⟨(fun lv st t o0 o1 o2 o3 x w => Ex_M (i := .iload 4) (n := 2) (by decide +kernel) rfl rfl rfl),
   (fun lv l x w => Ex_R (i := .ireturn) (n := 1) (by decide +kernel) rfl rfl rfl rfl rfl)⟩
-- R_X11_knot: p0 to p1
set_option maxRecDepth 20000 in
set_option maxHeartbeats 4000000 in
theorem R_X11_ofKnot : (∀ (lv : Nat) (st : List Value) (t : LX) (o0 : Option Value) (x : Int32) (w : AH), Ex M_X11_ofKnot lv 0 (o0 :: some (.int x) :: t) st w = Ex M_X11_ofKnot lv 1 (o0 :: some (.int x) :: t) (.int x :: st) w)
  ∧ (∀ (lv : Nat) (l : LX) (a0 : Int32) (w : AH), Ex M_X11_ofKnot lv 1 l (.int a0 :: []) w = if (Call M_X11_isKnot 60 [.int a0] w).isSome = true then Ex M_X11_ofKnot lv 4 l (pushR (cV (Call M_X11_isKnot 60 [.int a0] w)) []) (cW (Call M_X11_isKnot 60 [.int a0] w) w) else none)
  ∧ (∀ (lv : Nat) (l : LX) (st : List Value) (x : Int32) (w : AH), Ex M_X11_ofKnot lv 4 l (.int x :: st) w = if ¬ x = 0 then Ex M_X11_ofKnot lv 14 l st w else Ex M_X11_ofKnot lv 7 l st w)
  ∧ (∀ (lv : Nat) (st : List Value) (t : LX) (x : Nat) (w : AH), Ex M_X11_ofKnot lv 7 (some (.ref x) :: t) st w = Ex M_X11_ofKnot lv 8 (some (.ref x) :: t) (.ref x :: st) w)
  ∧ (∀ (lv : Nat) (st : List Value) (t : LX) (w : AH), Ex M_X11_ofKnot lv 7 (some (.null) :: t) st w = Ex M_X11_ofKnot lv 8 (some (.null) :: t) (.null :: st) w)
  ∧ (∀ (lv : Nat) (l : LX) (st : List Value) (w : AH), Ex M_X11_ofKnot lv 8 l st w = Ex M_X11_ofKnot lv 10 l (.int (-1000000001) :: st) w)
  ∧ (∀ (lv : Nat) (l : LX) (b : Nat) (a0 : Int32) (w : AH), Ex M_X11_ofKnot lv 10 l (.int a0 :: .ref b :: []) w = if clK (hg w b) = 10 then (if (Call M_X11_refuse 60 [.ref b, .int a0] w).isSome = true then Ex M_X11_ofKnot lv 13 l (pushR (cV (Call M_X11_refuse 60 [.ref b, .int a0] w)) []) (cW (Call M_X11_refuse 60 [.ref b, .int a0] w) w) else none) else none)
  ∧ (∀ (lv : Nat) (l : LX) (x : Int32) (w : AH), Ex M_X11_ofKnot lv 13 l [.int x] w = some (some (.int x), w))
  ∧ (∀ (lv : Nat) (st : List Value) (t : LX) (o0 o1 : Option Value) (x : Int32) (w : AH), Ex M_X11_ofKnot lv 14 (o0 :: o1 :: some (.int x) :: t) st w = Ex M_X11_ofKnot lv 15 (o0 :: o1 :: some (.int x) :: t) (.int x :: st) w)
  ∧ (∀ (lv : Nat) (l : LX) (st : List Value) (x : Int32) (w : AH), Ex M_X11_ofKnot lv 15 l (.int x :: st) w = if x = 0 then Ex M_X11_ofKnot lv 52 l st w else if x = 1 then Ex M_X11_ofKnot lv 64 l st w else if x = 2 then Ex M_X11_ofKnot lv 76 l st w else if x = 3 then Ex M_X11_ofKnot lv 85 l st w else if x = 4 then Ex M_X11_ofKnot lv 94 l st w else if x = 5 then Ex M_X11_ofKnot lv 109 l st w else Ex M_X11_ofKnot lv 124 l st w)
  ∧ (∀ (lv : Nat) (st : List Value) (t : LX) (x : Nat) (w : AH), Ex M_X11_ofKnot lv 52 (some (.ref x) :: t) st w = Ex M_X11_ofKnot lv 53 (some (.ref x) :: t) (.ref x :: st) w)
  ∧ (∀ (lv : Nat) (st : List Value) (t : LX) (w : AH), Ex M_X11_ofKnot lv 52 (some (.null) :: t) st w = Ex M_X11_ofKnot lv 53 (some (.null) :: t) (.null :: st) w)
  ∧ (∀ (lv : Nat) (l : LX) (st : List Value) (a : Nat) (w : AH), Ex M_X11_ofKnot lv 53 l (.ref a :: st) w = if (gf (hg w a) 10 0).isSome = true then Ex M_X11_ofKnot lv 56 l (vV (gf (hg w a) 10 0) :: st) w else none)
  ∧ (∀ (lv : Nat) (l : LX) (st : List Value) (a : Nat) (w : AH), Ex M_X11_ofKnot lv 56 l (.ref a :: st) w = if (gf (hg w a) 1 0).isSome = true then Ex M_X11_ofKnot lv 59 l (vV (gf (hg w a) 1 0) :: st) w else none)
  ∧ (∀ (lv : Nat) (st : List Value) (t : LX) (o0 : Option Value) (x : Int32) (w : AH), Ex M_X11_ofKnot lv 59 (o0 :: some (.int x) :: t) st w = Ex M_X11_ofKnot lv 60 (o0 :: some (.int x) :: t) (.int x :: st) w)
  ∧ (∀ (lv : Nat) (l : LX) (b : Nat) (a0 : Int32) (w : AH), Ex M_X11_ofKnot lv 60 l (.int a0 :: .ref b :: []) w = if clK (hg w b) = 0 then (if (Call M_X0_colourOf 60 [.ref b, .int a0] w).isSome = true then Ex M_X11_ofKnot lv 63 l (pushR (cV (Call M_X0_colourOf 60 [.ref b, .int a0] w)) []) (cW (Call M_X0_colourOf 60 [.ref b, .int a0] w) w) else none) else none)
  ∧ (∀ (lv : Nat) (l : LX) (x : Int32) (w : AH), Ex M_X11_ofKnot lv 63 l [.int x] w = some (some (.int x), w))
  ∧ (∀ (lv : Nat) (st : List Value) (t : LX) (x : Nat) (w : AH), Ex M_X11_ofKnot lv 64 (some (.ref x) :: t) st w = Ex M_X11_ofKnot lv 65 (some (.ref x) :: t) (.ref x :: st) w)
  ∧ (∀ (lv : Nat) (st : List Value) (t : LX) (w : AH), Ex M_X11_ofKnot lv 64 (some (.null) :: t) st w = Ex M_X11_ofKnot lv 65 (some (.null) :: t) (.null :: st) w)
  ∧ (∀ (lv : Nat) (l : LX) (st : List Value) (a : Nat) (w : AH), Ex M_X11_ofKnot lv 65 l (.ref a :: st) w = if (gf (hg w a) 10 0).isSome = true then Ex M_X11_ofKnot lv 68 l (vV (gf (hg w a) 10 0) :: st) w else none)
  ∧ (∀ (lv : Nat) (l : LX) (st : List Value) (a : Nat) (w : AH), Ex M_X11_ofKnot lv 68 l (.ref a :: st) w = if (gf (hg w a) 1 0).isSome = true then Ex M_X11_ofKnot lv 71 l (vV (gf (hg w a) 1 0) :: st) w else none)
  ∧ (∀ (lv : Nat) (st : List Value) (t : LX) (o0 : Option Value) (x : Int32) (w : AH), Ex M_X11_ofKnot lv 71 (o0 :: some (.int x) :: t) st w = Ex M_X11_ofKnot lv 72 (o0 :: some (.int x) :: t) (.int x :: st) w)
  ∧ (∀ (lv : Nat) (l : LX) (b : Nat) (a0 : Int32) (w : AH), Ex M_X11_ofKnot lv 72 l (.int a0 :: .ref b :: []) w = if clK (hg w b) = 0 then (if (Call M_X0_wearOf 60 [.ref b, .int a0] w).isSome = true then Ex M_X11_ofKnot lv 75 l (pushR (cV (Call M_X0_wearOf 60 [.ref b, .int a0] w)) []) (cW (Call M_X0_wearOf 60 [.ref b, .int a0] w) w) else none) else none)
  ∧ (∀ (lv : Nat) (l : LX) (x : Int32) (w : AH), Ex M_X11_ofKnot lv 75 l [.int x] w = some (some (.int x), w))
  ∧ (∀ (lv : Nat) (st : List Value) (t : LX) (x : Nat) (w : AH), Ex M_X11_ofKnot lv 76 (some (.ref x) :: t) st w = Ex M_X11_ofKnot lv 77 (some (.ref x) :: t) (.ref x :: st) w)
  ∧ (∀ (lv : Nat) (st : List Value) (t : LX) (w : AH), Ex M_X11_ofKnot lv 76 (some (.null) :: t) st w = Ex M_X11_ofKnot lv 77 (some (.null) :: t) (.null :: st) w)
  ∧ (∀ (lv : Nat) (l : LX) (st : List Value) (a : Nat) (w : AH), Ex M_X11_ofKnot lv 77 l (.ref a :: st) w = if (gf (hg w a) 10 0).isSome = true then Ex M_X11_ofKnot lv 80 l (vV (gf (hg w a) 10 0) :: st) w else none)
  ∧ (∀ (lv : Nat) (st : List Value) (t : LX) (o0 : Option Value) (x : Int32) (w : AH), Ex M_X11_ofKnot lv 80 (o0 :: some (.int x) :: t) st w = Ex M_X11_ofKnot lv 81 (o0 :: some (.int x) :: t) (.int x :: st) w)
  ∧ (∀ (lv : Nat) (l : LX) (b : Nat) (a0 : Int32) (w : AH), Ex M_X11_ofKnot lv 81 l (.int a0 :: .ref b :: []) w = if clK (hg w b) = 1 then (if (Call M_X1_patternOf 60 [.ref b, .int a0] w).isSome = true then Ex M_X11_ofKnot lv 84 l (pushR (cV (Call M_X1_patternOf 60 [.ref b, .int a0] w)) []) (cW (Call M_X1_patternOf 60 [.ref b, .int a0] w) w) else none) else none)
  ∧ (∀ (lv : Nat) (l : LX) (x : Int32) (w : AH), Ex M_X11_ofKnot lv 84 l [.int x] w = some (some (.int x), w))
  ∧ (∀ (lv : Nat) (st : List Value) (t : LX) (x : Nat) (w : AH), Ex M_X11_ofKnot lv 85 (some (.ref x) :: t) st w = Ex M_X11_ofKnot lv 86 (some (.ref x) :: t) (.ref x :: st) w)
  ∧ (∀ (lv : Nat) (st : List Value) (t : LX) (w : AH), Ex M_X11_ofKnot lv 85 (some (.null) :: t) st w = Ex M_X11_ofKnot lv 86 (some (.null) :: t) (.null :: st) w)
  ∧ (∀ (lv : Nat) (l : LX) (st : List Value) (a : Nat) (w : AH), Ex M_X11_ofKnot lv 86 l (.ref a :: st) w = if (gf (hg w a) 10 0).isSome = true then Ex M_X11_ofKnot lv 89 l (vV (gf (hg w a) 10 0) :: st) w else none)
  ∧ (∀ (lv : Nat) (st : List Value) (t : LX) (o0 : Option Value) (x : Int32) (w : AH), Ex M_X11_ofKnot lv 89 (o0 :: some (.int x) :: t) st w = Ex M_X11_ofKnot lv 90 (o0 :: some (.int x) :: t) (.int x :: st) w)
  ∧ (∀ (lv : Nat) (l : LX) (b : Nat) (a0 : Int32) (w : AH), Ex M_X11_ofKnot lv 90 l (.int a0 :: .ref b :: []) w = if clK (hg w b) = 1 then (if (Call M_X1_worthOf 60 [.ref b, .int a0] w).isSome = true then Ex M_X11_ofKnot lv 93 l (pushR (cV (Call M_X1_worthOf 60 [.ref b, .int a0] w)) []) (cW (Call M_X1_worthOf 60 [.ref b, .int a0] w) w) else none) else none)
  ∧ (∀ (lv : Nat) (l : LX) (x : Int32) (w : AH), Ex M_X11_ofKnot lv 93 l [.int x] w = some (some (.int x), w))
  ∧ (∀ (lv : Nat) (st : List Value) (t : LX) (x : Nat) (w : AH), Ex M_X11_ofKnot lv 94 (some (.ref x) :: t) st w = Ex M_X11_ofKnot lv 95 (some (.ref x) :: t) (.ref x :: st) w)
  ∧ (∀ (lv : Nat) (st : List Value) (t : LX) (w : AH), Ex M_X11_ofKnot lv 94 (some (.null) :: t) st w = Ex M_X11_ofKnot lv 95 (some (.null) :: t) (.null :: st) w)
  ∧ (∀ (lv : Nat) (l : LX) (st : List Value) (a : Nat) (w : AH), Ex M_X11_ofKnot lv 95 l (.ref a :: st) w = if (gf (hg w a) 10 0).isSome = true then Ex M_X11_ofKnot lv 98 l (vV (gf (hg w a) 10 0) :: st) w else none)
  ∧ (∀ (lv : Nat) (l : LX) (st : List Value) (a : Nat) (w : AH), Ex M_X11_ofKnot lv 98 l (.ref a :: st) w = if (gf (hg w a) 1 0).isSome = true then Ex M_X11_ofKnot lv 101 l (vV (gf (hg w a) 1 0) :: st) w else none)
  ∧ (∀ (lv : Nat) (st : List Value) (t : LX) (o0 : Option Value) (x : Int32) (w : AH), Ex M_X11_ofKnot lv 101 (o0 :: some (.int x) :: t) st w = Ex M_X11_ofKnot lv 102 (o0 :: some (.int x) :: t) (.int x :: st) w)
  ∧ (∀ (lv : Nat) (l : LX) (b : Nat) (a0 : Int32) (w : AH), Ex M_X11_ofKnot lv 102 l (.int a0 :: .ref b :: []) w = if clK (hg w b) = 0 then (if (Call M_X0_landOf 60 [.ref b, .int a0] w).isSome = true then Ex M_X11_ofKnot lv 105 l (pushR (cV (Call M_X0_landOf 60 [.ref b, .int a0] w)) []) (cW (Call M_X0_landOf 60 [.ref b, .int a0] w) w) else none) else none)
  ∧ (∀ (lv : Nat) (l : LX) (a0 : Int64) (w : AH), Ex M_X11_ofKnot lv 105 l (.long a0 :: []) w = if (Call M_J13_bitCount_95d88 60 [.long a0] w).isSome = true then Ex M_X11_ofKnot lv 108 l (pushR (cV (Call M_J13_bitCount_95d88 60 [.long a0] w)) []) (cW (Call M_J13_bitCount_95d88 60 [.long a0] w) w) else none)
  ∧ (∀ (lv : Nat) (l : LX) (x : Int32) (w : AH), Ex M_X11_ofKnot lv 108 l [.int x] w = some (some (.int x), w))
  ∧ (∀ (lv : Nat) (st : List Value) (t : LX) (x : Nat) (w : AH), Ex M_X11_ofKnot lv 109 (some (.ref x) :: t) st w = Ex M_X11_ofKnot lv 110 (some (.ref x) :: t) (.ref x :: st) w)
  ∧ (∀ (lv : Nat) (st : List Value) (t : LX) (w : AH), Ex M_X11_ofKnot lv 109 (some (.null) :: t) st w = Ex M_X11_ofKnot lv 110 (some (.null) :: t) (.null :: st) w)
  ∧ (∀ (lv : Nat) (l : LX) (st : List Value) (a : Nat) (w : AH), Ex M_X11_ofKnot lv 110 l (.ref a :: st) w = if (gf (hg w a) 10 0).isSome = true then Ex M_X11_ofKnot lv 113 l (vV (gf (hg w a) 10 0) :: st) w else none)
  ∧ (∀ (lv : Nat) (l : LX) (st : List Value) (a : Nat) (w : AH), Ex M_X11_ofKnot lv 113 l (.ref a :: st) w = if (gf (hg w a) 1 0).isSome = true then Ex M_X11_ofKnot lv 116 l (vV (gf (hg w a) 1 0) :: st) w else none)
  ∧ (∀ (lv : Nat) (st : List Value) (t : LX) (o0 : Option Value) (x : Int32) (w : AH), Ex M_X11_ofKnot lv 116 (o0 :: some (.int x) :: t) st w = Ex M_X11_ofKnot lv 117 (o0 :: some (.int x) :: t) (.int x :: st) w)
  ∧ (∀ (lv : Nat) (l : LX) (b : Nat) (a0 : Int32) (w : AH), Ex M_X11_ofKnot lv 117 l (.int a0 :: .ref b :: []) w = if clK (hg w b) = 0 then (if (Call M_X0_landOf 60 [.ref b, .int a0] w).isSome = true then Ex M_X11_ofKnot lv 120 l (pushR (cV (Call M_X0_landOf 60 [.ref b, .int a0] w)) []) (cW (Call M_X0_landOf 60 [.ref b, .int a0] w) w) else none) else none)
  ∧ (∀ (lv : Nat) (l : LX) (a0 : Int64) (w : AH), Ex M_X11_ofKnot lv 120 l (.long a0 :: []) w = if (Call M_X7_least 60 [.long a0] w).isSome = true then Ex M_X11_ofKnot lv 123 l (pushR (cV (Call M_X7_least 60 [.long a0] w)) []) (cW (Call M_X7_least 60 [.long a0] w) w) else none)
  ∧ (∀ (lv : Nat) (l : LX) (x : Int32) (w : AH), Ex M_X11_ofKnot lv 123 l [.int x] w = some (some (.int x), w))
  ∧ (∀ (lv : Nat) (st : List Value) (t : LX) (x : Nat) (w : AH), Ex M_X11_ofKnot lv 124 (some (.ref x) :: t) st w = Ex M_X11_ofKnot lv 125 (some (.ref x) :: t) (.ref x :: st) w)
  ∧ (∀ (lv : Nat) (st : List Value) (t : LX) (w : AH), Ex M_X11_ofKnot lv 124 (some (.null) :: t) st w = Ex M_X11_ofKnot lv 125 (some (.null) :: t) (.null :: st) w)
  ∧ (∀ (lv : Nat) (l : LX) (st : List Value) (w : AH), Ex M_X11_ofKnot lv 125 l st w = Ex M_X11_ofKnot lv 127 l (.int (-1000000001) :: st) w)
  ∧ (∀ (lv : Nat) (l : LX) (b : Nat) (a0 : Int32) (w : AH), Ex M_X11_ofKnot lv 127 l (.int a0 :: .ref b :: []) w = if clK (hg w b) = 10 then (if (Call M_X11_refuse 60 [.ref b, .int a0] w).isSome = true then Ex M_X11_ofKnot lv 130 l (pushR (cV (Call M_X11_refuse 60 [.ref b, .int a0] w)) []) (cW (Call M_X11_refuse 60 [.ref b, .int a0] w) w) else none) else none)
  ∧ (∀ (lv : Nat) (l : LX) (x : Int32) (w : AH), Ex M_X11_ofKnot lv 130 l [.int x] w = some (some (.int x), w)) :=
  ⟨(fun lv st t o0 x w => Ex_M (i := .iload_n 1) (n := 1) (by decide +kernel) rfl rfl rfl),
   (fun lv l a0 w => Ex_callS (by decide +kernel : decode M_X11_ofKnot.2.1 1 = .ok (.invokestatic 65, 3)) rfl (by rfl : resM (mCn M_X11_ofKnot) 65 = some (0, M_X11_isKnot)) (by decide) rfl (by rfl) (Nat.le_of_ble_eq_true rfl) (sLv_lt (by decide +kernel))),
   (fun lv l st x w => Ex_if_ne (by decide +kernel : decode M_X11_ofKnot.2.1 4 = .ok (.ifCond .ne 10, 3)) rfl rfl),
   (fun lv st t x w => Ex_M (i := .aload_n 0) (n := 1) (by decide +kernel) rfl rfl rfl),
   (fun lv st t w => Ex_M (i := .aload_n 0) (n := 1) (by decide +kernel) rfl rfl rfl),
   (fun lv l st w => Ex_ldcI (by decide +kernel : decode M_X11_ofKnot.2.1 8 = .ok (.ldc 73, 2)) rfl (by decide +kernel)),
   (fun lv l b a0 w => Ex_callV (by decide +kernel : decode M_X11_ofKnot.2.1 10 = .ok (.invokevirtual 74, 3)) rfl (by rfl : resM (mCn M_X11_ofKnot) 74 = some (2, M_X11_refuse)) rfl (by rfl) (Nat.le_of_ble_eq_true rfl) (by decide +kernel) (sLv_lt (by decide +kernel))),
   (fun lv l x w => Ex_R (i := .ireturn) (n := 1) (by decide +kernel) rfl rfl rfl rfl rfl),
   (fun lv st t o0 o1 x w => Ex_M (i := .iload_n 2) (n := 1) (by decide +kernel) rfl rfl rfl),
   (fun lv l st x w => (by
      refine it_ite (fun hx0 => ?_) (fun hx0 => ?_)
      · subst hx0; exact Ex_tsIn (by decide +kernel : decode M_X11_ofKnot.2.1 15 = .ok (.tableswitch 109 0 5 #[37, 49, 61, 70, 79, 94], 37)) (by decide) rfl rfl
      refine it_ite (fun hx1 => ?_) (fun hx1 => ?_)
      · subst hx1; exact Ex_tsIn (by decide +kernel : decode M_X11_ofKnot.2.1 15 = .ok (.tableswitch 109 0 5 #[37, 49, 61, 70, 79, 94], 37)) (by decide) rfl rfl
      refine it_ite (fun hx2 => ?_) (fun hx2 => ?_)
      · subst hx2; exact Ex_tsIn (by decide +kernel : decode M_X11_ofKnot.2.1 15 = .ok (.tableswitch 109 0 5 #[37, 49, 61, 70, 79, 94], 37)) (by decide) rfl rfl
      refine it_ite (fun hx3 => ?_) (fun hx3 => ?_)
      · subst hx3; exact Ex_tsIn (by decide +kernel : decode M_X11_ofKnot.2.1 15 = .ok (.tableswitch 109 0 5 #[37, 49, 61, 70, 79, 94], 37)) (by decide) rfl rfl
      refine it_ite (fun hx4 => ?_) (fun hx4 => ?_)
      · subst hx4; exact Ex_tsIn (by decide +kernel : decode M_X11_ofKnot.2.1 15 = .ok (.tableswitch 109 0 5 #[37, 49, 61, 70, 79, 94], 37)) (by decide) rfl rfl
      refine it_ite (fun hx5 => ?_) (fun hx5 => ?_)
      · subst hx5; exact Ex_tsIn (by decide +kernel : decode M_X11_ofKnot.2.1 15 = .ok (.tableswitch 109 0 5 #[37, 49, 61, 70, 79, 94], 37)) (by decide) rfl rfl
      exact Ex_tsOut (by decide +kernel : decode M_X11_ofKnot.2.1 15 = .ok (.tableswitch 109 0 5 #[37, 49, 61, 70, 79, 94], 37)) (ts_out 0 5 (by have := n_toInt (z := 0) rfl hx0; have := n_toInt (z := 1) rfl hx1; have := n_toInt (z := 2) rfl hx2; have := n_toInt (z := 3) rfl hx3; have := n_toInt (z := 4) rfl hx4; have := n_toInt (z := 5) rfl hx5; omega)) rfl)),
   (fun lv st t x w => Ex_M (i := .aload_n 0) (n := 1) (by decide +kernel) rfl rfl rfl),
   (fun lv st t w => Ex_M (i := .aload_n 0) (n := 1) (by decide +kernel) rfl rfl rfl),
   (fun lv l st a w => Ex_getf (by decide +kernel : decode M_X11_ofKnot.2.1 53 = .ok (.getfield 12, 3)) rfl (by decide +kernel : resF (mCn M_X11_ofKnot) 12 = some (10, 0, (.object "CarpetLands$Country"), true))),
   (fun lv l st a w => Ex_getf (by decide +kernel : decode M_X11_ofKnot.2.1 56 = .ok (.getfield 78, 3)) rfl (by decide +kernel : resF (mCn M_X11_ofKnot) 78 = some (1, 0, (.object "CarpetLands$Carpet"), true))),
   (fun lv st t o0 x w => Ex_M (i := .iload_n 1) (n := 1) (by decide +kernel) rfl rfl rfl),
   (fun lv l b a0 w => Ex_callV (by decide +kernel : decode M_X11_ofKnot.2.1 60 = .ok (.invokevirtual 82, 3)) rfl (by rfl : resM (mCn M_X11_ofKnot) 82 = some (2, M_X0_colourOf)) rfl (by rfl) (Nat.le_of_ble_eq_true rfl) (by decide +kernel) (sLv_lt (by decide +kernel))),
   (fun lv l x w => Ex_R (i := .ireturn) (n := 1) (by decide +kernel) rfl rfl rfl rfl rfl),
   (fun lv st t x w => Ex_M (i := .aload_n 0) (n := 1) (by decide +kernel) rfl rfl rfl),
   (fun lv st t w => Ex_M (i := .aload_n 0) (n := 1) (by decide +kernel) rfl rfl rfl),
   (fun lv l st a w => Ex_getf (by decide +kernel : decode M_X11_ofKnot.2.1 65 = .ok (.getfield 12, 3)) rfl (by decide +kernel : resF (mCn M_X11_ofKnot) 12 = some (10, 0, (.object "CarpetLands$Country"), true))),
   (fun lv l st a w => Ex_getf (by decide +kernel : decode M_X11_ofKnot.2.1 68 = .ok (.getfield 78, 3)) rfl (by decide +kernel : resF (mCn M_X11_ofKnot) 78 = some (1, 0, (.object "CarpetLands$Carpet"), true))),
   (fun lv st t o0 x w => Ex_M (i := .iload_n 1) (n := 1) (by decide +kernel) rfl rfl rfl),
   (fun lv l b a0 w => Ex_callV (by decide +kernel : decode M_X11_ofKnot.2.1 72 = .ok (.invokevirtual 87, 3)) rfl (by rfl : resM (mCn M_X11_ofKnot) 87 = some (2, M_X0_wearOf)) rfl (by rfl) (Nat.le_of_ble_eq_true rfl) (by decide +kernel) (sLv_lt (by decide +kernel))),
   (fun lv l x w => Ex_R (i := .ireturn) (n := 1) (by decide +kernel) rfl rfl rfl rfl rfl),
   (fun lv st t x w => Ex_M (i := .aload_n 0) (n := 1) (by decide +kernel) rfl rfl rfl),
   (fun lv st t w => Ex_M (i := .aload_n 0) (n := 1) (by decide +kernel) rfl rfl rfl),
   (fun lv l st a w => Ex_getf (by decide +kernel : decode M_X11_ofKnot.2.1 77 = .ok (.getfield 12, 3)) rfl (by decide +kernel : resF (mCn M_X11_ofKnot) 12 = some (10, 0, (.object "CarpetLands$Country"), true))),
   (fun lv st t o0 x w => Ex_M (i := .iload_n 1) (n := 1) (by decide +kernel) rfl rfl rfl),
   (fun lv l b a0 w => Ex_callV (by decide +kernel : decode M_X11_ofKnot.2.1 81 = .ok (.invokevirtual 97, 3)) rfl (by rfl : resM (mCn M_X11_ofKnot) 97 = some (2, M_X1_patternOf)) rfl (by rfl) (Nat.le_of_ble_eq_true rfl) (by decide +kernel) (sLv_lt (by decide +kernel))),
   (fun lv l x w => Ex_R (i := .ireturn) (n := 1) (by decide +kernel) rfl rfl rfl rfl rfl),
   (fun lv st t x w => Ex_M (i := .aload_n 0) (n := 1) (by decide +kernel) rfl rfl rfl),
   (fun lv st t w => Ex_M (i := .aload_n 0) (n := 1) (by decide +kernel) rfl rfl rfl),
   (fun lv l st a w => Ex_getf (by decide +kernel : decode M_X11_ofKnot.2.1 86 = .ok (.getfield 12, 3)) rfl (by decide +kernel : resF (mCn M_X11_ofKnot) 12 = some (10, 0, (.object "CarpetLands$Country"), true))),
   (fun lv st t o0 x w => Ex_M (i := .iload_n 1) (n := 1) (by decide +kernel) rfl rfl rfl),
   (fun lv l b a0 w => Ex_callV (by decide +kernel : decode M_X11_ofKnot.2.1 90 = .ok (.invokevirtual 100, 3)) rfl (by rfl : resM (mCn M_X11_ofKnot) 100 = some (2, M_X1_worthOf)) rfl (by rfl) (Nat.le_of_ble_eq_true rfl) (by decide +kernel) (sLv_lt (by decide +kernel))),
   (fun lv l x w => Ex_R (i := .ireturn) (n := 1) (by decide +kernel) rfl rfl rfl rfl rfl),
   (fun lv st t x w => Ex_M (i := .aload_n 0) (n := 1) (by decide +kernel) rfl rfl rfl),
   (fun lv st t w => Ex_M (i := .aload_n 0) (n := 1) (by decide +kernel) rfl rfl rfl),
   (fun lv l st a w => Ex_getf (by decide +kernel : decode M_X11_ofKnot.2.1 95 = .ok (.getfield 12, 3)) rfl (by decide +kernel : resF (mCn M_X11_ofKnot) 12 = some (10, 0, (.object "CarpetLands$Country"), true))),
   (fun lv l st a w => Ex_getf (by decide +kernel : decode M_X11_ofKnot.2.1 98 = .ok (.getfield 78, 3)) rfl (by decide +kernel : resF (mCn M_X11_ofKnot) 78 = some (1, 0, (.object "CarpetLands$Carpet"), true))),
   (fun lv st t o0 x w => Ex_M (i := .iload_n 1) (n := 1) (by decide +kernel) rfl rfl rfl),
   (fun lv l b a0 w => Ex_callV (by decide +kernel : decode M_X11_ofKnot.2.1 102 = .ok (.invokevirtual 103, 3)) rfl (by rfl : resM (mCn M_X11_ofKnot) 103 = some (2, M_X0_landOf)) rfl (by rfl) (Nat.le_of_ble_eq_true rfl) (by decide +kernel) (sLv_lt (by decide +kernel))),
   (fun lv l a0 w => Ex_callS (by decide +kernel : decode M_X11_ofKnot.2.1 105 = .ok (.invokestatic 107, 3)) rfl (by rfl : resM (mCn M_X11_ofKnot) 107 = some (0, M_J13_bitCount_95d88)) (by decide) rfl (by rfl) (Nat.le_of_ble_eq_true rfl) (sLv_lt (by decide +kernel))),
   (fun lv l x w => Ex_R (i := .ireturn) (n := 1) (by decide +kernel) rfl rfl rfl rfl rfl),
   (fun lv st t x w => Ex_M (i := .aload_n 0) (n := 1) (by decide +kernel) rfl rfl rfl),
   (fun lv st t w => Ex_M (i := .aload_n 0) (n := 1) (by decide +kernel) rfl rfl rfl),
   (fun lv l st a w => Ex_getf (by decide +kernel : decode M_X11_ofKnot.2.1 110 = .ok (.getfield 12, 3)) rfl (by decide +kernel : resF (mCn M_X11_ofKnot) 12 = some (10, 0, (.object "CarpetLands$Country"), true))),
   (fun lv l st a w => Ex_getf (by decide +kernel : decode M_X11_ofKnot.2.1 113 = .ok (.getfield 78, 3)) rfl (by decide +kernel : resF (mCn M_X11_ofKnot) 78 = some (1, 0, (.object "CarpetLands$Carpet"), true))),
   (fun lv st t o0 x w => Ex_M (i := .iload_n 1) (n := 1) (by decide +kernel) rfl rfl rfl),
   (fun lv l b a0 w => Ex_callV (by decide +kernel : decode M_X11_ofKnot.2.1 117 = .ok (.invokevirtual 103, 3)) rfl (by rfl : resM (mCn M_X11_ofKnot) 103 = some (2, M_X0_landOf)) rfl (by rfl) (Nat.le_of_ble_eq_true rfl) (by decide +kernel) (sLv_lt (by decide +kernel))),
   (fun lv l a0 w => Ex_callS (by decide +kernel : decode M_X11_ofKnot.2.1 120 = .ok (.invokestatic 113, 3)) rfl (by rfl : resM (mCn M_X11_ofKnot) 113 = some (0, M_X7_least)) (by decide) rfl (by rfl) (Nat.le_of_ble_eq_true rfl) (sLv_lt (by decide +kernel))),
   (fun lv l x w => Ex_R (i := .ireturn) (n := 1) (by decide +kernel) rfl rfl rfl rfl rfl),
   (fun lv st t x w => Ex_M (i := .aload_n 0) (n := 1) (by decide +kernel) rfl rfl rfl),
   (fun lv st t w => Ex_M (i := .aload_n 0) (n := 1) (by decide +kernel) rfl rfl rfl),
   (fun lv l st w => Ex_ldcI (by decide +kernel : decode M_X11_ofKnot.2.1 125 = .ok (.ldc 73, 2)) rfl (by decide +kernel)),
   (fun lv l b a0 w => Ex_callV (by decide +kernel : decode M_X11_ofKnot.2.1 127 = .ok (.invokevirtual 74, 3)) rfl (by rfl : resM (mCn M_X11_ofKnot) 74 = some (2, M_X11_refuse)) rfl (by rfl) (Nat.le_of_ble_eq_true rfl) (by decide +kernel) (sLv_lt (by decide +kernel))),
   (fun lv l x w => Ex_R (i := .ireturn) (n := 1) (by decide +kernel) rfl rfl rfl rfl rfl)⟩
set_option maxRecDepth 20000 in
theorem H_X11_weave_10 : ∀ (lv : Nat) (st : List Value) (t : LX) (o0 o1 : Option Value) (x : Int32) (w : AH), Ex M_X11_weave lv 10 (o0 :: o1 :: some (.int x) :: t) st w = Ex M_X11_weave lv 11 (o0 :: o1 :: some (.int x) :: t) (.int x :: st) w := fun lv st t o0 o1 x w => Ex_M (i := .iload_n 2) (n := 1) (by decide +kernel) rfl rfl rfl
set_option maxRecDepth 20000 in
set_option maxHeartbeats 4000000 in
theorem R_X11_weave : (∀ (lv : Nat) (st : List Value) (t : LX) (x : Nat) (w : AH), Ex M_X11_weave lv 0 (some (.ref x) :: t) st w = Ex M_X11_weave lv 1 (some (.ref x) :: t) (.ref x :: st) w)
  ∧ (∀ (lv : Nat) (st : List Value) (t : LX) (w : AH), Ex M_X11_weave lv 0 (some (.null) :: t) st w = Ex M_X11_weave lv 1 (some (.null) :: t) (.null :: st) w)
  ∧ (∀ (lv : Nat) (l : LX) (st : List Value) (a : Nat) (w : AH), Ex M_X11_weave lv 1 l (.ref a :: st) w = if (gf (hg w a) 10 0).isSome = true then Ex M_X11_weave lv 4 l (vV (gf (hg w a) 10 0) :: st) w else none)
  ∧ (∀ (lv : Nat) (l : LX) (b : Nat) (w : AH), Ex M_X11_weave lv 4 l (.ref b :: []) w = if clK (hg w b) = 1 then (if (Call M_X1_countSlips 60 [.ref b] w).isSome = true then Ex M_X11_weave lv 7 l (pushR (cV (Call M_X1_countSlips 60 [.ref b] w)) []) (cW (Call M_X1_countSlips 60 [.ref b] w) w) else none) else none)
  ∧ (∀ (lv : Nat) (l : LX) (st : List Value) (x : Int32) (w : AH), Ex M_X11_weave lv 7 l (.int x :: st) w = Ex M_X11_weave lv 8 (ls1 l 1 (.int x)) st w)
  ∧ (∀ (lv : Nat) (l : LX) (st : List Value) (w : AH), Ex M_X11_weave lv 8 l st w = Ex M_X11_weave lv 9 l (.int 0 :: st) w)
  ∧ (∀ (lv : Nat) (l : LX) (st : List Value) (x : Int32) (w : AH), Ex M_X11_weave lv 9 l (.int x :: st) w = Ex M_X11_weave lv 10 (ls1 l 2 (.int x)) st w)
  ∧ (∀ (lv : Nat) (l : LX) (st : List Value) (w : AH), Ex M_X11_weave lv 11 l st w = Ex M_X11_weave lv 13 l (.int 36 :: st) w)
  ∧ (∀ (lv : Nat) (l : LX) (st : List Value) (x y : Int32) (w : AH), Ex M_X11_weave lv 13 l (.int y :: .int x :: st) w = if y ≤ x then Ex M_X11_weave lv 53 l st w else Ex M_X11_weave lv 16 l st w)
  ∧ (∀ (lv : Nat) (st : List Value) (t : LX) (x : Nat) (w : AH), Ex M_X11_weave lv 16 (some (.ref x) :: t) st w = Ex M_X11_weave lv 17 (some (.ref x) :: t) (.ref x :: st) w)
  ∧ (∀ (lv : Nat) (st : List Value) (t : LX) (w : AH), Ex M_X11_weave lv 16 (some (.null) :: t) st w = Ex M_X11_weave lv 17 (some (.null) :: t) (.null :: st) w)
  ∧ (∀ (lv : Nat) (l : LX) (st : List Value) (a : Nat) (w : AH), Ex M_X11_weave lv 17 l (.ref a :: st) w = if (gf (hg w a) 10 0).isSome = true then Ex M_X11_weave lv 20 l (vV (gf (hg w a) 10 0) :: st) w else none)
  ∧ (∀ (lv : Nat) (l : LX) (st : List Value) (a : Nat) (w : AH), Ex M_X11_weave lv 20 l (.ref a :: st) w = if (gf (hg w a) 1 0).isSome = true then Ex M_X11_weave lv 23 l (vV (gf (hg w a) 1 0) :: st) w else none)
  ∧ (∀ (lv : Nat) (st : List Value) (t : LX) (o0 o1 : Option Value) (x : Int32) (w : AH), Ex M_X11_weave lv 23 (o0 :: o1 :: some (.int x) :: t) st w = Ex M_X11_weave lv 24 (o0 :: o1 :: some (.int x) :: t) (.int x :: st) w)
  ∧ (∀ (lv : Nat) (st : List Value) (t : LX) (x : Nat) (w : AH), Ex M_X11_weave lv 24 (some (.ref x) :: t) st w = Ex M_X11_weave lv 25 (some (.ref x) :: t) (.ref x :: st) w)
  ∧ (∀ (lv : Nat) (st : List Value) (t : LX) (w : AH), Ex M_X11_weave lv 24 (some (.null) :: t) st w = Ex M_X11_weave lv 25 (some (.null) :: t) (.null :: st) w)
  ∧ (∀ (lv : Nat) (l : LX) (st : List Value) (a : Nat) (w : AH), Ex M_X11_weave lv 25 l (.ref a :: st) w = if (gf (hg w a) 10 0).isSome = true then Ex M_X11_weave lv 28 l (vV (gf (hg w a) 10 0) :: st) w else none)
  ∧ (∀ (lv : Nat) (st : List Value) (t : LX) (o0 o1 : Option Value) (x : Int32) (w : AH), Ex M_X11_weave lv 28 (o0 :: o1 :: some (.int x) :: t) st w = Ex M_X11_weave lv 29 (o0 :: o1 :: some (.int x) :: t) (.int x :: st) w)
  ∧ (∀ (lv : Nat) (l : LX) (b : Nat) (a0 : Int32) (s0 : Int32) (s1 : Nat) (w : AH), Ex M_X11_weave lv 29 l (.int a0 :: .ref b :: [.int s0, .ref s1]) w = if clK (hg w b) = 1 then (if (Call M_X1_patternOf 60 [.ref b, .int a0] w).isSome = true then Ex M_X11_weave lv 32 l (pushR (cV (Call M_X1_patternOf 60 [.ref b, .int a0] w)) [.int s0, .ref s1]) (cW (Call M_X1_patternOf 60 [.ref b, .int a0] w) w) else none) else none)
  ∧ (∀ (lv : Nat) (l : LX) (b : Nat) (a0 : Int32) (a1 : Int32) (w : AH), Ex M_X11_weave lv 32 l (.int a1 :: .int a0 :: .ref b :: []) w = if clK (hg w b) = 0 then (if (Call M_X0_setColour 60 [.ref b, .int a0, .int a1] w).isSome = true then Ex M_X11_weave lv 35 l (pushR (cV (Call M_X0_setColour 60 [.ref b, .int a0, .int a1] w)) []) (cW (Call M_X0_setColour 60 [.ref b, .int a0, .int a1] w) w) else none) else none)
  ∧ (∀ (lv : Nat) (st : List Value) (t : LX) (x : Nat) (w : AH), Ex M_X11_weave lv 35 (some (.ref x) :: t) st w = Ex M_X11_weave lv 36 (some (.ref x) :: t) (.ref x :: st) w)
  ∧ (∀ (lv : Nat) (st : List Value) (t : LX) (w : AH), Ex M_X11_weave lv 35 (some (.null) :: t) st w = Ex M_X11_weave lv 36 (some (.null) :: t) (.null :: st) w)
  ∧ (∀ (lv : Nat) (l : LX) (st : List Value) (a : Nat) (w : AH), Ex M_X11_weave lv 36 l (.ref a :: st) w = if (gf (hg w a) 10 0).isSome = true then Ex M_X11_weave lv 39 l (vV (gf (hg w a) 10 0) :: st) w else none)
  ∧ (∀ (lv : Nat) (l : LX) (st : List Value) (a : Nat) (w : AH), Ex M_X11_weave lv 39 l (.ref a :: st) w = if (gf (hg w a) 1 0).isSome = true then Ex M_X11_weave lv 42 l (vV (gf (hg w a) 1 0) :: st) w else none)
  ∧ (∀ (lv : Nat) (st : List Value) (t : LX) (o0 o1 : Option Value) (x : Int32) (w : AH), Ex M_X11_weave lv 42 (o0 :: o1 :: some (.int x) :: t) st w = Ex M_X11_weave lv 43 (o0 :: o1 :: some (.int x) :: t) (.int x :: st) w)
  ∧ (∀ (lv : Nat) (l : LX) (st : List Value) (w : AH), Ex M_X11_weave lv 43 l st w = Ex M_X11_weave lv 44 l (.int 0 :: st) w)
  ∧ (∀ (lv : Nat) (l : LX) (b : Nat) (a0 : Int32) (a1 : Int32) (w : AH), Ex M_X11_weave lv 44 l (.int a1 :: .int a0 :: .ref b :: []) w = if clK (hg w b) = 0 then (if (Call M_X0_setWear 60 [.ref b, .int a0, .int a1] w).isSome = true then Ex M_X11_weave lv 47 l (pushR (cV (Call M_X0_setWear 60 [.ref b, .int a0, .int a1] w)) []) (cW (Call M_X0_setWear 60 [.ref b, .int a0, .int a1] w) w) else none) else none)
  ∧ (∀ (lv : Nat) (st : List Value) (t : LX) (o0 o1 : Option Value) (x : Int32) (w : AH), Ex M_X11_weave lv 47 (o0 :: o1 :: some (.int x) :: t) st w = Ex M_X11_weave lv 50 (ls1 (o0 :: o1 :: some (.int x) :: t) 2 (.int (x + 1))) st w)
  ∧ (∀ (lv : Nat) (l : LX) (st : List Value) (w : AH), Ex M_X11_weave lv 50 l st w = Ex M_X11_weave lv 10 l st w)
  ∧ (∀ (lv : Nat) (st : List Value) (t : LX) (o0 : Option Value) (x : Int32) (w : AH), Ex M_X11_weave lv 53 (o0 :: some (.int x) :: t) st w = Ex M_X11_weave lv 54 (o0 :: some (.int x) :: t) (.int x :: st) w)
  ∧ (∀ (lv : Nat) (l : LX) (x : Int32) (w : AH), Ex M_X11_weave lv 54 l [.int x] w = some (some (.int x), w)) :=
  ⟨(fun lv st t x w => Ex_M (i := .aload_n 0) (n := 1) (by decide +kernel) rfl rfl rfl),
   (fun lv st t w => Ex_M (i := .aload_n 0) (n := 1) (by decide +kernel) rfl rfl rfl),
   (fun lv l st a w => Ex_getf (by decide +kernel : decode M_X11_weave.2.1 1 = .ok (.getfield 12, 3)) rfl (by decide +kernel : resF (mCn M_X11_weave) 12 = some (10, 0, (.object "CarpetLands$Country"), true))),
   (fun lv l b w => Ex_callV (by decide +kernel : decode M_X11_weave.2.1 4 = .ok (.invokevirtual 118, 3)) rfl (by rfl : resM (mCn M_X11_weave) 118 = some (2, M_X1_countSlips)) rfl (by rfl) (Nat.le_of_ble_eq_true rfl) (by decide +kernel) (sLv_lt (by decide +kernel))),
   (fun lv l st x w => Ex_M (i := .istore_n 1) (n := 1) (by decide +kernel) rfl rfl rfl),
   (fun lv l st w => Ex_A (i := .iconst 0) (n := 1) (by decide +kernel) rfl rfl),
   (fun lv l st x w => Ex_M (i := .istore_n 2) (n := 1) (by decide +kernel) rfl rfl rfl),
   (fun lv l st w => Ex_A (i := .bipush 36) (n := 2) (by decide +kernel) rfl rfl),
   (fun lv l st x y w => Ex_icmp_ge (by decide +kernel : decode M_X11_weave.2.1 13 = .ok (.if_icmp .ge 40, 3)) rfl rfl),
   (fun lv st t x w => Ex_M (i := .aload_n 0) (n := 1) (by decide +kernel) rfl rfl rfl),
   (fun lv st t w => Ex_M (i := .aload_n 0) (n := 1) (by decide +kernel) rfl rfl rfl),
   (fun lv l st a w => Ex_getf (by decide +kernel : decode M_X11_weave.2.1 17 = .ok (.getfield 12, 3)) rfl (by decide +kernel : resF (mCn M_X11_weave) 12 = some (10, 0, (.object "CarpetLands$Country"), true))),
   (fun lv l st a w => Ex_getf (by decide +kernel : decode M_X11_weave.2.1 20 = .ok (.getfield 78, 3)) rfl (by decide +kernel : resF (mCn M_X11_weave) 78 = some (1, 0, (.object "CarpetLands$Carpet"), true))),
   (fun lv st t o0 o1 x w => Ex_M (i := .iload_n 2) (n := 1) (by decide +kernel) rfl rfl rfl),
   (fun lv st t x w => Ex_M (i := .aload_n 0) (n := 1) (by decide +kernel) rfl rfl rfl),
   (fun lv st t w => Ex_M (i := .aload_n 0) (n := 1) (by decide +kernel) rfl rfl rfl),
   (fun lv l st a w => Ex_getf (by decide +kernel : decode M_X11_weave.2.1 25 = .ok (.getfield 12, 3)) rfl (by decide +kernel : resF (mCn M_X11_weave) 12 = some (10, 0, (.object "CarpetLands$Country"), true))),
   (fun lv st t o0 o1 x w => Ex_M (i := .iload_n 2) (n := 1) (by decide +kernel) rfl rfl rfl),
   (fun lv l b a0 s0 s1 w => Ex_callV (by decide +kernel : decode M_X11_weave.2.1 29 = .ok (.invokevirtual 97, 3)) rfl (by rfl : resM (mCn M_X11_weave) 97 = some (2, M_X1_patternOf)) rfl (by rfl) (Nat.le_of_ble_eq_true rfl) (by decide +kernel) (sLv_lt (by decide +kernel))),
   (fun lv l b a0 a1 w => Ex_callV (by decide +kernel : decode M_X11_weave.2.1 32 = .ok (.invokevirtual 90, 3)) rfl (by rfl : resM (mCn M_X11_weave) 90 = some (2, M_X0_setColour)) rfl (by rfl) (Nat.le_of_ble_eq_true rfl) (by decide +kernel) (sLv_lt (by decide +kernel))),
   (fun lv st t x w => Ex_M (i := .aload_n 0) (n := 1) (by decide +kernel) rfl rfl rfl),
   (fun lv st t w => Ex_M (i := .aload_n 0) (n := 1) (by decide +kernel) rfl rfl rfl),
   (fun lv l st a w => Ex_getf (by decide +kernel : decode M_X11_weave.2.1 36 = .ok (.getfield 12, 3)) rfl (by decide +kernel : resF (mCn M_X11_weave) 12 = some (10, 0, (.object "CarpetLands$Country"), true))),
   (fun lv l st a w => Ex_getf (by decide +kernel : decode M_X11_weave.2.1 39 = .ok (.getfield 78, 3)) rfl (by decide +kernel : resF (mCn M_X11_weave) 78 = some (1, 0, (.object "CarpetLands$Carpet"), true))),
   (fun lv st t o0 o1 x w => Ex_M (i := .iload_n 2) (n := 1) (by decide +kernel) rfl rfl rfl),
   (fun lv l st w => Ex_A (i := .iconst 0) (n := 1) (by decide +kernel) rfl rfl),
   (fun lv l b a0 a1 w => Ex_callV (by decide +kernel : decode M_X11_weave.2.1 44 = .ok (.invokevirtual 94, 3)) rfl (by rfl : resM (mCn M_X11_weave) 94 = some (2, M_X0_setWear)) rfl (by rfl) (Nat.le_of_ble_eq_true rfl) (by decide +kernel) (sLv_lt (by decide +kernel))),
   (fun lv st t o0 o1 x w => Ex_iinc (by decide +kernel : decode M_X11_weave.2.1 47 = .ok (.iinc 2 1, 3)) rfl rfl (by decide) (by decide)),
   (fun lv l st w => Ex_goto (by decide +kernel : decode M_X11_weave.2.1 50 = .ok (.goto (-40), 3)) rfl),
   (fun lv st t o0 x w => Ex_M (i := .iload_n 1) (n := 1) (by decide +kernel) rfl rfl rfl),
   (fun lv l x w => Ex_R (i := .ireturn) (n := 1) (by decide +kernel) rfl rfl rfl rfl rfl)⟩
set_option maxRecDepth 20000 in
theorem H_X11_mend_13 : ∀ (lv : Nat) (st : List Value) (t : LX) (o0 o1 : Option Value) (x : Int32) (w : AH), Ex M_X11_mend lv 13 (o0 :: o1 :: some (.int x) :: t) st w = Ex M_X11_mend lv 14 (o0 :: o1 :: some (.int x) :: t) (.int x :: st) w := fun lv st t o0 o1 x w => Ex_M (i := .iload_n 2) (n := 1) (by decide +kernel) rfl rfl rfl
set_option maxRecDepth 20000 in
set_option maxHeartbeats 4000000 in
theorem R_X11_mend : (∀ (lv : Nat) (st : List Value) (t : LX) (x : Nat) (w : AH), Ex M_X11_mend lv 0 (some (.ref x) :: t) st w = Ex M_X11_mend lv 1 (some (.ref x) :: t) (.ref x :: st) w)
  ∧ (∀ (lv : Nat) (st : List Value) (t : LX) (w : AH), Ex M_X11_mend lv 0 (some (.null) :: t) st w = Ex M_X11_mend lv 1 (some (.null) :: t) (.null :: st) w)
  ∧ (∀ (lv : Nat) (l : LX) (st : List Value) (a : Nat) (w : AH), Ex M_X11_mend lv 1 l (.ref a :: st) w = if (gf (hg w a) 10 0).isSome = true then Ex M_X11_mend lv 4 l (vV (gf (hg w a) 10 0) :: st) w else none)
  ∧ (∀ (lv : Nat) (l : LX) (st : List Value) (a : Nat) (w : AH), Ex M_X11_mend lv 4 l (.ref a :: st) w = if (gf (hg w a) 1 0).isSome = true then Ex M_X11_mend lv 7 l (vV (gf (hg w a) 1 0) :: st) w else none)
  ∧ (∀ (lv : Nat) (l : LX) (b : Nat) (w : AH), Ex M_X11_mend lv 7 l (.ref b :: []) w = if clK (hg w b) = 0 then (if (Call M_X0_countHoles 60 [.ref b] w).isSome = true then Ex M_X11_mend lv 10 l (pushR (cV (Call M_X0_countHoles 60 [.ref b] w)) []) (cW (Call M_X0_countHoles 60 [.ref b] w) w) else none) else none)
  ∧ (∀ (lv : Nat) (l : LX) (st : List Value) (x : Int32) (w : AH), Ex M_X11_mend lv 10 l (.int x :: st) w = Ex M_X11_mend lv 11 (ls1 l 1 (.int x)) st w)
  ∧ (∀ (lv : Nat) (l : LX) (st : List Value) (w : AH), Ex M_X11_mend lv 11 l st w = Ex M_X11_mend lv 12 l (.int 0 :: st) w)
  ∧ (∀ (lv : Nat) (l : LX) (st : List Value) (x : Int32) (w : AH), Ex M_X11_mend lv 12 l (.int x :: st) w = Ex M_X11_mend lv 13 (ls1 l 2 (.int x)) st w)
  ∧ (∀ (lv : Nat) (l : LX) (st : List Value) (w : AH), Ex M_X11_mend lv 14 l st w = Ex M_X11_mend lv 16 l (.int 36 :: st) w)
  ∧ (∀ (lv : Nat) (l : LX) (st : List Value) (x y : Int32) (w : AH), Ex M_X11_mend lv 16 l (.int y :: .int x :: st) w = if y ≤ x then Ex M_X11_mend lv 58 l st w else Ex M_X11_mend lv 19 l st w)
  ∧ (∀ (lv : Nat) (st : List Value) (t : LX) (x : Nat) (w : AH), Ex M_X11_mend lv 19 (some (.ref x) :: t) st w = Ex M_X11_mend lv 20 (some (.ref x) :: t) (.ref x :: st) w)
  ∧ (∀ (lv : Nat) (st : List Value) (t : LX) (w : AH), Ex M_X11_mend lv 19 (some (.null) :: t) st w = Ex M_X11_mend lv 20 (some (.null) :: t) (.null :: st) w)
  ∧ (∀ (lv : Nat) (l : LX) (st : List Value) (a : Nat) (w : AH), Ex M_X11_mend lv 20 l (.ref a :: st) w = if (gf (hg w a) 10 0).isSome = true then Ex M_X11_mend lv 23 l (vV (gf (hg w a) 10 0) :: st) w else none)
  ∧ (∀ (lv : Nat) (l : LX) (st : List Value) (a : Nat) (w : AH), Ex M_X11_mend lv 23 l (.ref a :: st) w = if (gf (hg w a) 1 0).isSome = true then Ex M_X11_mend lv 26 l (vV (gf (hg w a) 1 0) :: st) w else none)
  ∧ (∀ (lv : Nat) (st : List Value) (t : LX) (o0 o1 : Option Value) (x : Int32) (w : AH), Ex M_X11_mend lv 26 (o0 :: o1 :: some (.int x) :: t) st w = Ex M_X11_mend lv 27 (o0 :: o1 :: some (.int x) :: t) (.int x :: st) w)
  ∧ (∀ (lv : Nat) (l : LX) (b : Nat) (a0 : Int32) (w : AH), Ex M_X11_mend lv 27 l (.int a0 :: .ref b :: []) w = if clK (hg w b) = 0 then (if (Call M_X0_colourOf 60 [.ref b, .int a0] w).isSome = true then Ex M_X11_mend lv 30 l (pushR (cV (Call M_X0_colourOf 60 [.ref b, .int a0] w)) []) (cW (Call M_X0_colourOf 60 [.ref b, .int a0] w) w) else none) else none)
  ∧ (∀ (lv : Nat) (l : LX) (st : List Value) (x : Int32) (w : AH), Ex M_X11_mend lv 30 l (.int x :: st) w = if ¬ x = 0 then Ex M_X11_mend lv 52 l st w else Ex M_X11_mend lv 33 l st w)
  ∧ (∀ (lv : Nat) (st : List Value) (t : LX) (x : Nat) (w : AH), Ex M_X11_mend lv 33 (some (.ref x) :: t) st w = Ex M_X11_mend lv 34 (some (.ref x) :: t) (.ref x :: st) w)
  ∧ (∀ (lv : Nat) (st : List Value) (t : LX) (w : AH), Ex M_X11_mend lv 33 (some (.null) :: t) st w = Ex M_X11_mend lv 34 (some (.null) :: t) (.null :: st) w)
  ∧ (∀ (lv : Nat) (l : LX) (st : List Value) (a : Nat) (w : AH), Ex M_X11_mend lv 34 l (.ref a :: st) w = if (gf (hg w a) 10 0).isSome = true then Ex M_X11_mend lv 37 l (vV (gf (hg w a) 10 0) :: st) w else none)
  ∧ (∀ (lv : Nat) (l : LX) (st : List Value) (a : Nat) (w : AH), Ex M_X11_mend lv 37 l (.ref a :: st) w = if (gf (hg w a) 1 0).isSome = true then Ex M_X11_mend lv 40 l (vV (gf (hg w a) 1 0) :: st) w else none)
  ∧ (∀ (lv : Nat) (st : List Value) (t : LX) (o0 o1 : Option Value) (x : Int32) (w : AH), Ex M_X11_mend lv 40 (o0 :: o1 :: some (.int x) :: t) st w = Ex M_X11_mend lv 41 (o0 :: o1 :: some (.int x) :: t) (.int x :: st) w)
  ∧ (∀ (lv : Nat) (st : List Value) (t : LX) (x : Nat) (w : AH), Ex M_X11_mend lv 41 (some (.ref x) :: t) st w = Ex M_X11_mend lv 42 (some (.ref x) :: t) (.ref x :: st) w)
  ∧ (∀ (lv : Nat) (st : List Value) (t : LX) (w : AH), Ex M_X11_mend lv 41 (some (.null) :: t) st w = Ex M_X11_mend lv 42 (some (.null) :: t) (.null :: st) w)
  ∧ (∀ (lv : Nat) (l : LX) (st : List Value) (a : Nat) (w : AH), Ex M_X11_mend lv 42 l (.ref a :: st) w = if (gf (hg w a) 10 0).isSome = true then Ex M_X11_mend lv 45 l (vV (gf (hg w a) 10 0) :: st) w else none)
  ∧ (∀ (lv : Nat) (st : List Value) (t : LX) (o0 o1 : Option Value) (x : Int32) (w : AH), Ex M_X11_mend lv 45 (o0 :: o1 :: some (.int x) :: t) st w = Ex M_X11_mend lv 46 (o0 :: o1 :: some (.int x) :: t) (.int x :: st) w)
  ∧ (∀ (lv : Nat) (l : LX) (b : Nat) (a0 : Int32) (s0 : Int32) (s1 : Nat) (w : AH), Ex M_X11_mend lv 46 l (.int a0 :: .ref b :: [.int s0, .ref s1]) w = if clK (hg w b) = 1 then (if (Call M_X1_patternOf 60 [.ref b, .int a0] w).isSome = true then Ex M_X11_mend lv 49 l (pushR (cV (Call M_X1_patternOf 60 [.ref b, .int a0] w)) [.int s0, .ref s1]) (cW (Call M_X1_patternOf 60 [.ref b, .int a0] w) w) else none) else none)
  ∧ (∀ (lv : Nat) (l : LX) (b : Nat) (a0 : Int32) (a1 : Int32) (w : AH), Ex M_X11_mend lv 49 l (.int a1 :: .int a0 :: .ref b :: []) w = if clK (hg w b) = 0 then (if (Call M_X0_setColour 60 [.ref b, .int a0, .int a1] w).isSome = true then Ex M_X11_mend lv 52 l (pushR (cV (Call M_X0_setColour 60 [.ref b, .int a0, .int a1] w)) []) (cW (Call M_X0_setColour 60 [.ref b, .int a0, .int a1] w) w) else none) else none)
  ∧ (∀ (lv : Nat) (st : List Value) (t : LX) (o0 o1 : Option Value) (x : Int32) (w : AH), Ex M_X11_mend lv 52 (o0 :: o1 :: some (.int x) :: t) st w = Ex M_X11_mend lv 55 (ls1 (o0 :: o1 :: some (.int x) :: t) 2 (.int (x + 1))) st w)
  ∧ (∀ (lv : Nat) (l : LX) (st : List Value) (w : AH), Ex M_X11_mend lv 55 l st w = Ex M_X11_mend lv 13 l st w)
  ∧ (∀ (lv : Nat) (st : List Value) (t : LX) (o0 : Option Value) (x : Int32) (w : AH), Ex M_X11_mend lv 58 (o0 :: some (.int x) :: t) st w = Ex M_X11_mend lv 59 (o0 :: some (.int x) :: t) (.int x :: st) w)
  ∧ (∀ (lv : Nat) (l : LX) (x : Int32) (w : AH), Ex M_X11_mend lv 59 l [.int x] w = some (some (.int x), w)) :=
  ⟨(fun lv st t x w => Ex_M (i := .aload_n 0) (n := 1) (by decide +kernel) rfl rfl rfl),
   (fun lv st t w => Ex_M (i := .aload_n 0) (n := 1) (by decide +kernel) rfl rfl rfl),
   (fun lv l st a w => Ex_getf (by decide +kernel : decode M_X11_mend.2.1 1 = .ok (.getfield 12, 3)) rfl (by decide +kernel : resF (mCn M_X11_mend) 12 = some (10, 0, (.object "CarpetLands$Country"), true))),
   (fun lv l st a w => Ex_getf (by decide +kernel : decode M_X11_mend.2.1 4 = .ok (.getfield 78, 3)) rfl (by decide +kernel : resF (mCn M_X11_mend) 78 = some (1, 0, (.object "CarpetLands$Carpet"), true))),
   (fun lv l b w => Ex_callV (by decide +kernel : decode M_X11_mend.2.1 7 = .ok (.invokevirtual 122, 3)) rfl (by rfl : resM (mCn M_X11_mend) 122 = some (2, M_X0_countHoles)) rfl (by rfl) (Nat.le_of_ble_eq_true rfl) (by decide +kernel) (sLv_lt (by decide +kernel))),
   (fun lv l st x w => Ex_M (i := .istore_n 1) (n := 1) (by decide +kernel) rfl rfl rfl),
   (fun lv l st w => Ex_A (i := .iconst 0) (n := 1) (by decide +kernel) rfl rfl),
   (fun lv l st x w => Ex_M (i := .istore_n 2) (n := 1) (by decide +kernel) rfl rfl rfl),
   (fun lv l st w => Ex_A (i := .bipush 36) (n := 2) (by decide +kernel) rfl rfl),
   (fun lv l st x y w => Ex_icmp_ge (by decide +kernel : decode M_X11_mend.2.1 16 = .ok (.if_icmp .ge 42, 3)) rfl rfl),
   (fun lv st t x w => Ex_M (i := .aload_n 0) (n := 1) (by decide +kernel) rfl rfl rfl),
   (fun lv st t w => Ex_M (i := .aload_n 0) (n := 1) (by decide +kernel) rfl rfl rfl),
   (fun lv l st a w => Ex_getf (by decide +kernel : decode M_X11_mend.2.1 20 = .ok (.getfield 12, 3)) rfl (by decide +kernel : resF (mCn M_X11_mend) 12 = some (10, 0, (.object "CarpetLands$Country"), true))),
   (fun lv l st a w => Ex_getf (by decide +kernel : decode M_X11_mend.2.1 23 = .ok (.getfield 78, 3)) rfl (by decide +kernel : resF (mCn M_X11_mend) 78 = some (1, 0, (.object "CarpetLands$Carpet"), true))),
   (fun lv st t o0 o1 x w => Ex_M (i := .iload_n 2) (n := 1) (by decide +kernel) rfl rfl rfl),
   (fun lv l b a0 w => Ex_callV (by decide +kernel : decode M_X11_mend.2.1 27 = .ok (.invokevirtual 82, 3)) rfl (by rfl : resM (mCn M_X11_mend) 82 = some (2, M_X0_colourOf)) rfl (by rfl) (Nat.le_of_ble_eq_true rfl) (by decide +kernel) (sLv_lt (by decide +kernel))),
   (fun lv l st x w => Ex_if_ne (by decide +kernel : decode M_X11_mend.2.1 30 = .ok (.ifCond .ne 22, 3)) rfl rfl),
   (fun lv st t x w => Ex_M (i := .aload_n 0) (n := 1) (by decide +kernel) rfl rfl rfl),
   (fun lv st t w => Ex_M (i := .aload_n 0) (n := 1) (by decide +kernel) rfl rfl rfl),
   (fun lv l st a w => Ex_getf (by decide +kernel : decode M_X11_mend.2.1 34 = .ok (.getfield 12, 3)) rfl (by decide +kernel : resF (mCn M_X11_mend) 12 = some (10, 0, (.object "CarpetLands$Country"), true))),
   (fun lv l st a w => Ex_getf (by decide +kernel : decode M_X11_mend.2.1 37 = .ok (.getfield 78, 3)) rfl (by decide +kernel : resF (mCn M_X11_mend) 78 = some (1, 0, (.object "CarpetLands$Carpet"), true))),
   (fun lv st t o0 o1 x w => Ex_M (i := .iload_n 2) (n := 1) (by decide +kernel) rfl rfl rfl),
   (fun lv st t x w => Ex_M (i := .aload_n 0) (n := 1) (by decide +kernel) rfl rfl rfl),
   (fun lv st t w => Ex_M (i := .aload_n 0) (n := 1) (by decide +kernel) rfl rfl rfl),
   (fun lv l st a w => Ex_getf (by decide +kernel : decode M_X11_mend.2.1 42 = .ok (.getfield 12, 3)) rfl (by decide +kernel : resF (mCn M_X11_mend) 12 = some (10, 0, (.object "CarpetLands$Country"), true))),
   (fun lv st t o0 o1 x w => Ex_M (i := .iload_n 2) (n := 1) (by decide +kernel) rfl rfl rfl),
   (fun lv l b a0 s0 s1 w => Ex_callV (by decide +kernel : decode M_X11_mend.2.1 46 = .ok (.invokevirtual 97, 3)) rfl (by rfl : resM (mCn M_X11_mend) 97 = some (2, M_X1_patternOf)) rfl (by rfl) (Nat.le_of_ble_eq_true rfl) (by decide +kernel) (sLv_lt (by decide +kernel))),
   (fun lv l b a0 a1 w => Ex_callV (by decide +kernel : decode M_X11_mend.2.1 49 = .ok (.invokevirtual 90, 3)) rfl (by rfl : resM (mCn M_X11_mend) 90 = some (2, M_X0_setColour)) rfl (by rfl) (Nat.le_of_ble_eq_true rfl) (by decide +kernel) (sLv_lt (by decide +kernel))),
   (fun lv st t o0 o1 x w => Ex_iinc (by decide +kernel : decode M_X11_mend.2.1 52 = .ok (.iinc 2 1, 3)) rfl rfl (by decide) (by decide)),
   (fun lv l st w => Ex_goto (by decide +kernel : decode M_X11_mend.2.1 55 = .ok (.goto (-42), 3)) rfl),
   (fun lv st t o0 x w => Ex_M (i := .iload_n 1) (n := 1) (by decide +kernel) rfl rfl rfl),
   (fun lv l x w => Ex_R (i := .ireturn) (n := 1) (by decide +kernel) rfl rfl rfl rfl rfl)⟩
set_option maxRecDepth 20000 in
set_option maxHeartbeats 4000000 in
theorem R_X11_walker : (∀ (lv : Nat) (st : List Value) (t : LX) (o0 : Option Value) (x : Int32) (w : AH), Ex M_X11_walker lv 0 (o0 :: some (.int x) :: t) st w = Ex M_X11_walker lv 1 (o0 :: some (.int x) :: t) (.int x :: st) w)
  ∧ (∀ (lv : Nat) (l : LX) (a0 : Int32) (w : AH), Ex M_X11_walker lv 1 l (.int a0 :: []) w = if (Call M_X11_isKindAndM 60 [.int a0] w).isSome = true then Ex M_X11_walker lv 4 l (pushR (cV (Call M_X11_isKindAndM 60 [.int a0] w)) []) (cW (Call M_X11_isKindAndM 60 [.int a0] w) w) else none)
  ∧ (∀ (lv : Nat) (l : LX) (st : List Value) (x : Int32) (w : AH), Ex M_X11_walker lv 4 l (.int x :: st) w = if x = 0 then Ex M_X11_walker lv 14 l st w else Ex M_X11_walker lv 7 l st w)
  ∧ (∀ (lv : Nat) (st : List Value) (t : LX) (o0 o1 : Option Value) (x : Int32) (w : AH), Ex M_X11_walker lv 7 (o0 :: o1 :: some (.int x) :: t) st w = Ex M_X11_walker lv 8 (o0 :: o1 :: some (.int x) :: t) (.int x :: st) w)
  ∧ (∀ (lv : Nat) (l : LX) (a0 : Int32) (w : AH), Ex M_X11_walker lv 8 l (.int a0 :: []) w = if (Call M_X11_isKnot 60 [.int a0] w).isSome = true then Ex M_X11_walker lv 11 l (pushR (cV (Call M_X11_isKnot 60 [.int a0] w)) []) (cW (Call M_X11_isKnot 60 [.int a0] w) w) else none)
  ∧ (∀ (lv : Nat) (l : LX) (st : List Value) (x : Int32) (w : AH), Ex M_X11_walker lv 11 l (.int x :: st) w = if ¬ x = 0 then Ex M_X11_walker lv 21 l st w else Ex M_X11_walker lv 14 l st w)
  ∧ (∀ (lv : Nat) (st : List Value) (t : LX) (x : Nat) (w : AH), Ex M_X11_walker lv 14 (some (.ref x) :: t) st w = Ex M_X11_walker lv 15 (some (.ref x) :: t) (.ref x :: st) w)
  ∧ (∀ (lv : Nat) (st : List Value) (t : LX) (w : AH), Ex M_X11_walker lv 14 (some (.null) :: t) st w = Ex M_X11_walker lv 15 (some (.null) :: t) (.null :: st) w)
  ∧ (∀ (lv : Nat) (l : LX) (st : List Value) (w : AH), Ex M_X11_walker lv 15 l st w = Ex M_X11_walker lv 17 l (.int (-1000000001) :: st) w)
  ∧ (∀ (lv : Nat) (l : LX) (b : Nat) (a0 : Int32) (w : AH), Ex M_X11_walker lv 17 l (.int a0 :: .ref b :: []) w = if clK (hg w b) = 10 then (if (Call M_X11_refuse 60 [.ref b, .int a0] w).isSome = true then Ex M_X11_walker lv 20 l (pushR (cV (Call M_X11_refuse 60 [.ref b, .int a0] w)) []) (cW (Call M_X11_refuse 60 [.ref b, .int a0] w) w) else none) else none)
  ∧ (∀ (lv : Nat) (l : LX) (x : Int32) (w : AH), Ex M_X11_walker lv 20 l [.int x] w = some (some (.int x), w))
  ∧ (∀ (lv : Nat) (st : List Value) (t : LX) (x : Nat) (w : AH), Ex M_X11_walker lv 21 (some (.ref x) :: t) st w = Ex M_X11_walker lv 22 (some (.ref x) :: t) (.ref x :: st) w)
  ∧ (∀ (lv : Nat) (st : List Value) (t : LX) (w : AH), Ex M_X11_walker lv 21 (some (.null) :: t) st w = Ex M_X11_walker lv 22 (some (.null) :: t) (.null :: st) w)
  ∧ (∀ (lv : Nat) (l : LX) (st : List Value) (a : Nat) (w : AH), Ex M_X11_walker lv 22 l (.ref a :: st) w = if (gf (hg w a) 10 0).isSome = true then Ex M_X11_walker lv 25 l (vV (gf (hg w a) 10 0) :: st) w else none)
  ∧ (∀ (lv : Nat) (st : List Value) (t : LX) (o0 : Option Value) (x : Int32) (w : AH), Ex M_X11_walker lv 25 (o0 :: some (.int x) :: t) st w = Ex M_X11_walker lv 26 (o0 :: some (.int x) :: t) (.int x :: st) w)
  ∧ (∀ (lv : Nat) (st : List Value) (t : LX) (o0 o1 : Option Value) (x : Int32) (w : AH), Ex M_X11_walker lv 26 (o0 :: o1 :: some (.int x) :: t) st w = Ex M_X11_walker lv 27 (o0 :: o1 :: some (.int x) :: t) (.int x :: st) w)
  ∧ (∀ (lv : Nat) (l : LX) (b : Nat) (a0 : Int32) (a1 : Int32) (w : AH), Ex M_X11_walker lv 27 l (.int a1 :: .int a0 :: .ref b :: []) w = if clK (hg w b) = 1 then (if (Call M_X1_addWalker 60 [.ref b, .int a0, .int a1] w).isSome = true then Ex M_X11_walker lv 30 l (pushR (cV (Call M_X1_addWalker 60 [.ref b, .int a0, .int a1] w)) []) (cW (Call M_X1_addWalker 60 [.ref b, .int a0, .int a1] w) w) else none) else none)
  ∧ (∀ (lv : Nat) (l : LX) (st : List Value) (x : Int32) (w : AH), Ex M_X11_walker lv 30 l (.int x :: st) w = Ex M_X11_walker lv 31 (ls1 l 3 (.int x)) st w)
  ∧ (∀ (lv : Nat) (st : List Value) (t : LX) (o0 o1 o2 : Option Value) (x : Int32) (w : AH), Ex M_X11_walker lv 31 (o0 :: o1 :: o2 :: some (.int x) :: t) st w = Ex M_X11_walker lv 32 (o0 :: o1 :: o2 :: some (.int x) :: t) (.int x :: st) w)
  ∧ (∀ (lv : Nat) (l : LX) (st : List Value) (x : Int32) (w : AH), Ex M_X11_walker lv 32 l (.int x :: st) w = if 0 ≤ x then Ex M_X11_walker lv 44 l st w else Ex M_X11_walker lv 35 l st w)
  ∧ (∀ (lv : Nat) (st : List Value) (t : LX) (x : Nat) (w : AH), Ex M_X11_walker lv 35 (some (.ref x) :: t) st w = Ex M_X11_walker lv 36 (some (.ref x) :: t) (.ref x :: st) w)
  ∧ (∀ (lv : Nat) (st : List Value) (t : LX) (w : AH), Ex M_X11_walker lv 35 (some (.null) :: t) st w = Ex M_X11_walker lv 36 (some (.null) :: t) (.null :: st) w)
  ∧ (∀ (lv : Nat) (l : LX) (st : List Value) (w : AH), Ex M_X11_walker lv 36 l st w = Ex M_X11_walker lv 38 l (.int (-1000000004) :: st) w)
  ∧ (∀ (lv : Nat) (l : LX) (b : Nat) (a0 : Int32) (w : AH), Ex M_X11_walker lv 38 l (.int a0 :: .ref b :: []) w = if clK (hg w b) = 10 then (if (Call M_X11_refuse 60 [.ref b, .int a0] w).isSome = true then Ex M_X11_walker lv 41 l (pushR (cV (Call M_X11_refuse 60 [.ref b, .int a0] w)) []) (cW (Call M_X11_refuse 60 [.ref b, .int a0] w) w) else none) else none)
  ∧ (∀ (lv : Nat) (l : LX) (st : List Value) (w : AH), Ex M_X11_walker lv 41 l st w = Ex M_X11_walker lv 45 l st w)
  ∧ (∀ (lv : Nat) (st : List Value) (t : LX) (o0 o1 o2 : Option Value) (x : Int32) (w : AH), Ex M_X11_walker lv 44 (o0 :: o1 :: o2 :: some (.int x) :: t) st w = Ex M_X11_walker lv 45 (o0 :: o1 :: o2 :: some (.int x) :: t) (.int x :: st) w)
  ∧ (∀ (lv : Nat) (l : LX) (x : Int32) (w : AH), Ex M_X11_walker lv 45 l [.int x] w = some (some (.int x), w)) :=
  ⟨(fun lv st t o0 x w => Ex_M (i := .iload_n 1) (n := 1) (by decide +kernel) rfl rfl rfl),
   (fun lv l a0 w => Ex_callS (by decide +kernel : decode M_X11_walker.2.1 1 = .ok (.invokestatic 125, 3)) rfl (by rfl : resM (mCn M_X11_walker) 125 = some (0, M_X11_isKindAndM)) (by decide) rfl (by rfl) (Nat.le_of_ble_eq_true rfl) (sLv_lt (by decide +kernel))),
   (fun lv l st x w => Ex_if_eq (by decide +kernel : decode M_X11_walker.2.1 4 = .ok (.ifCond .eq 10, 3)) rfl rfl),
   (fun lv st t o0 o1 x w => Ex_M (i := .iload_n 2) (n := 1) (by decide +kernel) rfl rfl rfl),
   (fun lv l a0 w => Ex_callS (by decide +kernel : decode M_X11_walker.2.1 8 = .ok (.invokestatic 65, 3)) rfl (by rfl : resM (mCn M_X11_walker) 65 = some (0, M_X11_isKnot)) (by decide) rfl (by rfl) (Nat.le_of_ble_eq_true rfl) (sLv_lt (by decide +kernel))),
   (fun lv l st x w => Ex_if_ne (by decide +kernel : decode M_X11_walker.2.1 11 = .ok (.ifCond .ne 10, 3)) rfl rfl),
   (fun lv st t x w => Ex_M (i := .aload_n 0) (n := 1) (by decide +kernel) rfl rfl rfl),
   (fun lv st t w => Ex_M (i := .aload_n 0) (n := 1) (by decide +kernel) rfl rfl rfl),
   (fun lv l st w => Ex_ldcI (by decide +kernel : decode M_X11_walker.2.1 15 = .ok (.ldc 73, 2)) rfl (by decide +kernel)),
   (fun lv l b a0 w => Ex_callV (by decide +kernel : decode M_X11_walker.2.1 17 = .ok (.invokevirtual 74, 3)) rfl (by rfl : resM (mCn M_X11_walker) 74 = some (2, M_X11_refuse)) rfl (by rfl) (Nat.le_of_ble_eq_true rfl) (by decide +kernel) (sLv_lt (by decide +kernel))),
   (fun lv l x w => Ex_R (i := .ireturn) (n := 1) (by decide +kernel) rfl rfl rfl rfl rfl),
   (fun lv st t x w => Ex_M (i := .aload_n 0) (n := 1) (by decide +kernel) rfl rfl rfl),
   (fun lv st t w => Ex_M (i := .aload_n 0) (n := 1) (by decide +kernel) rfl rfl rfl),
   (fun lv l st a w => Ex_getf (by decide +kernel : decode M_X11_walker.2.1 22 = .ok (.getfield 12, 3)) rfl (by decide +kernel : resF (mCn M_X11_walker) 12 = some (10, 0, (.object "CarpetLands$Country"), true))),
   (fun lv st t o0 x w => Ex_M (i := .iload_n 1) (n := 1) (by decide +kernel) rfl rfl rfl),
   (fun lv st t o0 o1 x w => Ex_M (i := .iload_n 2) (n := 1) (by decide +kernel) rfl rfl rfl),
   (fun lv l b a0 a1 w => Ex_callV (by decide +kernel : decode M_X11_walker.2.1 27 = .ok (.invokevirtual 128, 3)) rfl (by rfl : resM (mCn M_X11_walker) 128 = some (2, M_X1_addWalker)) rfl (by rfl) (Nat.le_of_ble_eq_true rfl) (by decide +kernel) (sLv_lt (by decide +kernel))),
   (fun lv l st x w => Ex_M (i := .istore_n 3) (n := 1) (by decide +kernel) rfl rfl rfl),
   (fun lv st t o0 o1 o2 x w => Ex_M (i := .iload_n 3) (n := 1) (by decide +kernel) rfl rfl rfl),
   (fun lv l st x w => Ex_if_ge (by decide +kernel : decode M_X11_walker.2.1 32 = .ok (.ifCond .ge 12, 3)) rfl rfl),
   (fun lv st t x w => Ex_M (i := .aload_n 0) (n := 1) (by decide +kernel) rfl rfl rfl),
   (fun lv st t w => Ex_M (i := .aload_n 0) (n := 1) (by decide +kernel) rfl rfl rfl),
   (fun lv l st w => Ex_ldcI (by decide +kernel : decode M_X11_walker.2.1 36 = .ok (.ldc 132, 2)) rfl (by decide +kernel)),
   (fun lv l b a0 w => Ex_callV (by decide +kernel : decode M_X11_walker.2.1 38 = .ok (.invokevirtual 74, 3)) rfl (by rfl : resM (mCn M_X11_walker) 74 = some (2, M_X11_refuse)) rfl (by rfl) (Nat.le_of_ble_eq_true rfl) (by decide +kernel) (sLv_lt (by decide +kernel))),
   (fun lv l st w => Ex_goto (by decide +kernel : decode M_X11_walker.2.1 41 = .ok (.goto 4, 3)) rfl),
   (fun lv st t o0 o1 o2 x w => Ex_M (i := .iload_n 3) (n := 1) (by decide +kernel) rfl rfl rfl),
   (fun lv l x w => Ex_R (i := .ireturn) (n := 1) (by decide +kernel) rfl rfl rfl rfl rfl)⟩
set_option maxRecDepth 20000 in
set_option maxHeartbeats 4000000 in
theorem R_X11_ofWalker : (∀ (lv : Nat) (st : List Value) (t : LX) (x : Nat) (w : AH), Ex M_X11_ofWalker lv 0 (some (.ref x) :: t) st w = Ex M_X11_ofWalker lv 1 (some (.ref x) :: t) (.ref x :: st) w)
  ∧ (∀ (lv : Nat) (st : List Value) (t : LX) (w : AH), Ex M_X11_ofWalker lv 0 (some (.null) :: t) st w = Ex M_X11_ofWalker lv 1 (some (.null) :: t) (.null :: st) w)
  ∧ (∀ (lv : Nat) (l : LX) (st : List Value) (a : Nat) (w : AH), Ex M_X11_ofWalker lv 1 l (.ref a :: st) w = if (gf (hg w a) 10 0).isSome = true then Ex M_X11_ofWalker lv 4 l (vV (gf (hg w a) 10 0) :: st) w else none)
  ∧ (∀ (lv : Nat) (st : List Value) (t : LX) (o0 : Option Value) (x : Int32) (w : AH), Ex M_X11_ofWalker lv 4 (o0 :: some (.int x) :: t) st w = Ex M_X11_ofWalker lv 5 (o0 :: some (.int x) :: t) (.int x :: st) w)
  ∧ (∀ (lv : Nat) (l : LX) (b : Nat) (a0 : Int32) (w : AH), Ex M_X11_ofWalker lv 5 l (.int a0 :: .ref b :: []) w = if clK (hg w b) = 1 then (if (Call M_X1_walkerOf 60 [.ref b, .int a0] w).isSome = true then Ex M_X11_ofWalker lv 8 l (pushR (cV (Call M_X1_walkerOf 60 [.ref b, .int a0] w)) []) (cW (Call M_X1_walkerOf 60 [.ref b, .int a0] w) w) else none) else none)
  ∧ (∀ (lv : Nat) (l : LX) (st : List Value) (x : Nat) (w : AH), Ex M_X11_ofWalker lv 8 l (.ref x :: st) w = Ex M_X11_ofWalker lv 9 (ls1 l 3 (.ref x)) st w)
  ∧ (∀ (lv : Nat) (l : LX) (st : List Value) (w : AH), Ex M_X11_ofWalker lv 8 l (.null :: st) w = Ex M_X11_ofWalker lv 9 (ls1 l 3 (.null)) st w)
  ∧ (∀ (lv : Nat) (st : List Value) (t : LX) (o0 o1 o2 : Option Value) (x : Nat) (w : AH), Ex M_X11_ofWalker lv 9 (o0 :: o1 :: o2 :: some (.ref x) :: t) st w = Ex M_X11_ofWalker lv 10 (o0 :: o1 :: o2 :: some (.ref x) :: t) (.ref x :: st) w)
  ∧ (∀ (lv : Nat) (st : List Value) (t : LX) (o0 o1 o2 : Option Value) (w : AH), Ex M_X11_ofWalker lv 9 (o0 :: o1 :: o2 :: some (.null) :: t) st w = Ex M_X11_ofWalker lv 10 (o0 :: o1 :: o2 :: some (.null) :: t) (.null :: st) w)
  ∧ (∀ (lv : Nat) (l : LX) (st : List Value) (x : Nat) (w : AH), Ex M_X11_ofWalker lv 10 l (.ref x :: st) w = Ex M_X11_ofWalker lv 20 l st w)
  ∧ (∀ (lv : Nat) (l : LX) (st : List Value) (w : AH), Ex M_X11_ofWalker lv 10 l (.null :: st) w = Ex M_X11_ofWalker lv 13 l st w)
  ∧ (∀ (lv : Nat) (st : List Value) (t : LX) (x : Nat) (w : AH), Ex M_X11_ofWalker lv 13 (some (.ref x) :: t) st w = Ex M_X11_ofWalker lv 14 (some (.ref x) :: t) (.ref x :: st) w)
  ∧ (∀ (lv : Nat) (st : List Value) (t : LX) (w : AH), Ex M_X11_ofWalker lv 13 (some (.null) :: t) st w = Ex M_X11_ofWalker lv 14 (some (.null) :: t) (.null :: st) w)
  ∧ (∀ (lv : Nat) (l : LX) (st : List Value) (w : AH), Ex M_X11_ofWalker lv 14 l st w = Ex M_X11_ofWalker lv 16 l (.int (-1000000001) :: st) w)
  ∧ (∀ (lv : Nat) (l : LX) (b : Nat) (a0 : Int32) (w : AH), Ex M_X11_ofWalker lv 16 l (.int a0 :: .ref b :: []) w = if clK (hg w b) = 10 then (if (Call M_X11_refuse 60 [.ref b, .int a0] w).isSome = true then Ex M_X11_ofWalker lv 19 l (pushR (cV (Call M_X11_refuse 60 [.ref b, .int a0] w)) []) (cW (Call M_X11_refuse 60 [.ref b, .int a0] w) w) else none) else none)
  ∧ (∀ (lv : Nat) (l : LX) (x : Int32) (w : AH), Ex M_X11_ofWalker lv 19 l [.int x] w = some (some (.int x), w))
  ∧ (∀ (lv : Nat) (st : List Value) (t : LX) (o0 o1 : Option Value) (x : Int32) (w : AH), Ex M_X11_ofWalker lv 20 (o0 :: o1 :: some (.int x) :: t) st w = Ex M_X11_ofWalker lv 21 (o0 :: o1 :: some (.int x) :: t) (.int x :: st) w)
  ∧ (∀ (lv : Nat) (l : LX) (st : List Value) (x : Int32) (w : AH), Ex M_X11_ofWalker lv 21 l (.int x :: st) w = if x = 0 then Ex M_X11_ofWalker lv 60 l st w else if x = 1 then Ex M_X11_ofWalker lv 65 l st w else if x = 2 then Ex M_X11_ofWalker lv 70 l st w else if x = 3 then Ex M_X11_ofWalker lv 75 l st w else if x = 4 then Ex M_X11_ofWalker lv 80 l st w else if x = 5 then Ex M_X11_ofWalker lv 85 l st w else Ex M_X11_ofWalker lv 105 l st w)
  ∧ (∀ (lv : Nat) (st : List Value) (t : LX) (o0 o1 o2 : Option Value) (x : Nat) (w : AH), Ex M_X11_ofWalker lv 60 (o0 :: o1 :: o2 :: some (.ref x) :: t) st w = Ex M_X11_ofWalker lv 61 (o0 :: o1 :: o2 :: some (.ref x) :: t) (.ref x :: st) w)
  ∧ (∀ (lv : Nat) (st : List Value) (t : LX) (o0 o1 o2 : Option Value) (w : AH), Ex M_X11_ofWalker lv 60 (o0 :: o1 :: o2 :: some (.null) :: t) st w = Ex M_X11_ofWalker lv 61 (o0 :: o1 :: o2 :: some (.null) :: t) (.null :: st) w)
  ∧ (∀ (lv : Nat) (l : LX) (st : List Value) (a : Nat) (w : AH), Ex M_X11_ofWalker lv 61 l (.ref a :: st) w = if (gf (hg w a) 9 0).isSome = true then Ex M_X11_ofWalker lv 64 l (vV (gf (hg w a) 9 0) :: st) w else none)
  ∧ (∀ (lv : Nat) (l : LX) (x : Int32) (w : AH), Ex M_X11_ofWalker lv 64 l [.int x] w = some (some (.int x), w))
  ∧ (∀ (lv : Nat) (st : List Value) (t : LX) (o0 o1 o2 : Option Value) (x : Nat) (w : AH), Ex M_X11_ofWalker lv 65 (o0 :: o1 :: o2 :: some (.ref x) :: t) st w = Ex M_X11_ofWalker lv 66 (o0 :: o1 :: o2 :: some (.ref x) :: t) (.ref x :: st) w)
  ∧ (∀ (lv : Nat) (st : List Value) (t : LX) (o0 o1 o2 : Option Value) (w : AH), Ex M_X11_ofWalker lv 65 (o0 :: o1 :: o2 :: some (.null) :: t) st w = Ex M_X11_ofWalker lv 66 (o0 :: o1 :: o2 :: some (.null) :: t) (.null :: st) w)
  ∧ (∀ (lv : Nat) (l : LX) (st : List Value) (a : Nat) (w : AH), Ex M_X11_ofWalker lv 66 l (.ref a :: st) w = if (gf (hg w a) 9 1).isSome = true then Ex M_X11_ofWalker lv 69 l (vV (gf (hg w a) 9 1) :: st) w else none)
  ∧ (∀ (lv : Nat) (l : LX) (x : Int32) (w : AH), Ex M_X11_ofWalker lv 69 l [.int x] w = some (some (.int x), w))
  ∧ (∀ (lv : Nat) (st : List Value) (t : LX) (o0 o1 o2 : Option Value) (x : Nat) (w : AH), Ex M_X11_ofWalker lv 70 (o0 :: o1 :: o2 :: some (.ref x) :: t) st w = Ex M_X11_ofWalker lv 71 (o0 :: o1 :: o2 :: some (.ref x) :: t) (.ref x :: st) w)
  ∧ (∀ (lv : Nat) (st : List Value) (t : LX) (o0 o1 o2 : Option Value) (w : AH), Ex M_X11_ofWalker lv 70 (o0 :: o1 :: o2 :: some (.null) :: t) st w = Ex M_X11_ofWalker lv 71 (o0 :: o1 :: o2 :: some (.null) :: t) (.null :: st) w)
  ∧ (∀ (lv : Nat) (l : LX) (st : List Value) (a : Nat) (w : AH), Ex M_X11_ofWalker lv 71 l (.ref a :: st) w = if (gf (hg w a) 9 2).isSome = true then Ex M_X11_ofWalker lv 74 l (vV (gf (hg w a) 9 2) :: st) w else none)
  ∧ (∀ (lv : Nat) (l : LX) (x : Int32) (w : AH), Ex M_X11_ofWalker lv 74 l [.int x] w = some (some (.int x), w))
  ∧ (∀ (lv : Nat) (st : List Value) (t : LX) (o0 o1 o2 : Option Value) (x : Nat) (w : AH), Ex M_X11_ofWalker lv 75 (o0 :: o1 :: o2 :: some (.ref x) :: t) st w = Ex M_X11_ofWalker lv 76 (o0 :: o1 :: o2 :: some (.ref x) :: t) (.ref x :: st) w)
  ∧ (∀ (lv : Nat) (st : List Value) (t : LX) (o0 o1 o2 : Option Value) (w : AH), Ex M_X11_ofWalker lv 75 (o0 :: o1 :: o2 :: some (.null) :: t) st w = Ex M_X11_ofWalker lv 76 (o0 :: o1 :: o2 :: some (.null) :: t) (.null :: st) w)
  ∧ (∀ (lv : Nat) (l : LX) (st : List Value) (a : Nat) (w : AH), Ex M_X11_ofWalker lv 76 l (.ref a :: st) w = if (gf (hg w a) 9 3).isSome = true then Ex M_X11_ofWalker lv 79 l (vV (gf (hg w a) 9 3) :: st) w else none)
  ∧ (∀ (lv : Nat) (l : LX) (x : Int32) (w : AH), Ex M_X11_ofWalker lv 79 l [.int x] w = some (some (.int x), w))
  ∧ (∀ (lv : Nat) (st : List Value) (t : LX) (o0 o1 o2 : Option Value) (x : Nat) (w : AH), Ex M_X11_ofWalker lv 80 (o0 :: o1 :: o2 :: some (.ref x) :: t) st w = Ex M_X11_ofWalker lv 81 (o0 :: o1 :: o2 :: some (.ref x) :: t) (.ref x :: st) w)
  ∧ (∀ (lv : Nat) (st : List Value) (t : LX) (o0 o1 o2 : Option Value) (w : AH), Ex M_X11_ofWalker lv 80 (o0 :: o1 :: o2 :: some (.null) :: t) st w = Ex M_X11_ofWalker lv 81 (o0 :: o1 :: o2 :: some (.null) :: t) (.null :: st) w)
  ∧ (∀ (lv : Nat) (l : LX) (b : Nat) (w : AH), Ex M_X11_ofWalker lv 81 l (.ref b :: []) w = if clK (hg w b) = 9 then (if (Call M_X10_wearing 60 [.ref b] w).isSome = true then Ex M_X11_ofWalker lv 84 l (pushR (cV (Call M_X10_wearing 60 [.ref b] w)) []) (cW (Call M_X10_wearing 60 [.ref b] w) w) else none) else none)
  ∧ (∀ (lv : Nat) (l : LX) (x : Int32) (w : AH), Ex M_X11_ofWalker lv 84 l [.int x] w = some (some (.int x), w))
  ∧ (∀ (lv : Nat) (st : List Value) (t : LX) (o0 o1 o2 : Option Value) (x : Nat) (w : AH), Ex M_X11_ofWalker lv 85 (o0 :: o1 :: o2 :: some (.ref x) :: t) st w = Ex M_X11_ofWalker lv 86 (o0 :: o1 :: o2 :: some (.ref x) :: t) (.ref x :: st) w)
  ∧ (∀ (lv : Nat) (st : List Value) (t : LX) (o0 o1 o2 : Option Value) (w : AH), Ex M_X11_ofWalker lv 85 (o0 :: o1 :: o2 :: some (.null) :: t) st w = Ex M_X11_ofWalker lv 86 (o0 :: o1 :: o2 :: some (.null) :: t) (.null :: st) w)
  ∧ (∀ (lv : Nat) (st : List Value) (t : LX) (x : Nat) (w : AH), Ex M_X11_ofWalker lv 86 (some (.ref x) :: t) st w = Ex M_X11_ofWalker lv 87 (some (.ref x) :: t) (.ref x :: st) w)
  ∧ (∀ (lv : Nat) (st : List Value) (t : LX) (w : AH), Ex M_X11_ofWalker lv 86 (some (.null) :: t) st w = Ex M_X11_ofWalker lv 87 (some (.null) :: t) (.null :: st) w)
  ∧ (∀ (lv : Nat) (l : LX) (st : List Value) (a : Nat) (w : AH), Ex M_X11_ofWalker lv 87 l (.ref a :: st) w = if (gf (hg w a) 10 0).isSome = true then Ex M_X11_ofWalker lv 90 l (vV (gf (hg w a) 10 0) :: st) w else none)
  ∧ (∀ (lv : Nat) (l : LX) (st : List Value) (a : Nat) (w : AH), Ex M_X11_ofWalker lv 90 l (.ref a :: st) w = if (gf (hg w a) 1 0).isSome = true then Ex M_X11_ofWalker lv 93 l (vV (gf (hg w a) 1 0) :: st) w else none)
  ∧ (∀ (lv : Nat) (l : LX) (b : Nat) (a0 : Nat) (w : AH), Ex M_X11_ofWalker lv 93 l (.ref a0 :: .ref b :: []) w = if clK (hg w b) = 9 then (if (Call M_X10_wouldEat 60 [.ref b, .ref a0] w).isSome = true then Ex M_X11_ofWalker lv 96 l (pushR (cV (Call M_X10_wouldEat 60 [.ref b, .ref a0] w)) []) (cW (Call M_X10_wouldEat 60 [.ref b, .ref a0] w) w) else none) else none)
  ∧ (∀ (lv : Nat) (l : LX) (st : List Value) (x : Int32) (w : AH), Ex M_X11_ofWalker lv 96 l (.int x :: st) w = if x = 0 then Ex M_X11_ofWalker lv 103 l st w else Ex M_X11_ofWalker lv 99 l st w)
  ∧ (∀ (lv : Nat) (l : LX) (st : List Value) (w : AH), Ex M_X11_ofWalker lv 99 l st w = Ex M_X11_ofWalker lv 100 l (.int 1 :: st) w)
  ∧ (∀ (lv : Nat) (l : LX) (st : List Value) (w : AH), Ex M_X11_ofWalker lv 100 l st w = Ex M_X11_ofWalker lv 104 l st w)
  ∧ (∀ (lv : Nat) (l : LX) (st : List Value) (w : AH), Ex M_X11_ofWalker lv 103 l st w = Ex M_X11_ofWalker lv 104 l (.int 0 :: st) w)
  ∧ (∀ (lv : Nat) (l : LX) (x : Int32) (w : AH), Ex M_X11_ofWalker lv 104 l [.int x] w = some (some (.int x), w))
  ∧ (∀ (lv : Nat) (st : List Value) (t : LX) (x : Nat) (w : AH), Ex M_X11_ofWalker lv 105 (some (.ref x) :: t) st w = Ex M_X11_ofWalker lv 106 (some (.ref x) :: t) (.ref x :: st) w)
  ∧ (∀ (lv : Nat) (st : List Value) (t : LX) (w : AH), Ex M_X11_ofWalker lv 105 (some (.null) :: t) st w = Ex M_X11_ofWalker lv 106 (some (.null) :: t) (.null :: st) w)
  ∧ (∀ (lv : Nat) (l : LX) (st : List Value) (w : AH), Ex M_X11_ofWalker lv 106 l st w = Ex M_X11_ofWalker lv 108 l (.int (-1000000001) :: st) w)
  ∧ (∀ (lv : Nat) (l : LX) (b : Nat) (a0 : Int32) (w : AH), Ex M_X11_ofWalker lv 108 l (.int a0 :: .ref b :: []) w = if clK (hg w b) = 10 then (if (Call M_X11_refuse 60 [.ref b, .int a0] w).isSome = true then Ex M_X11_ofWalker lv 111 l (pushR (cV (Call M_X11_refuse 60 [.ref b, .int a0] w)) []) (cW (Call M_X11_refuse 60 [.ref b, .int a0] w) w) else none) else none)
  ∧ (∀ (lv : Nat) (l : LX) (x : Int32) (w : AH), Ex M_X11_ofWalker lv 111 l [.int x] w = some (some (.int x), w)) :=
  ⟨(fun lv st t x w => Ex_M (i := .aload_n 0) (n := 1) (by decide +kernel) rfl rfl rfl),
   (fun lv st t w => Ex_M (i := .aload_n 0) (n := 1) (by decide +kernel) rfl rfl rfl),
   (fun lv l st a w => Ex_getf (by decide +kernel : decode M_X11_ofWalker.2.1 1 = .ok (.getfield 12, 3)) rfl (by decide +kernel : resF (mCn M_X11_ofWalker) 12 = some (10, 0, (.object "CarpetLands$Country"), true))),
   (fun lv st t o0 x w => Ex_M (i := .iload_n 1) (n := 1) (by decide +kernel) rfl rfl rfl),
   (fun lv l b a0 w => Ex_callV (by decide +kernel : decode M_X11_ofWalker.2.1 5 = .ok (.invokevirtual 133, 3)) rfl (by rfl : resM (mCn M_X11_ofWalker) 133 = some (2, M_X1_walkerOf)) rfl (by rfl) (Nat.le_of_ble_eq_true rfl) (by decide +kernel) (sLv_lt (by decide +kernel))),
   (fun lv l st x w => Ex_M (i := .astore_n 3) (n := 1) (by decide +kernel) rfl rfl rfl),
   (fun lv l st w => Ex_M (i := .astore_n 3) (n := 1) (by decide +kernel) rfl rfl rfl),
   (fun lv st t o0 o1 o2 x w => Ex_M (i := .aload_n 3) (n := 1) (by decide +kernel) rfl rfl rfl),
   (fun lv st t o0 o1 o2 w => Ex_M (i := .aload_n 3) (n := 1) (by decide +kernel) rfl rfl rfl),
   (fun lv l st x w => Ex_ifnonnull_r (by decide +kernel : decode M_X11_ofWalker.2.1 10 = .ok (.ifnonnull 10, 3)) rfl),
   (fun lv l st w => Ex_ifnonnull_n (by decide +kernel : decode M_X11_ofWalker.2.1 10 = .ok (.ifnonnull 10, 3)) rfl),
   (fun lv st t x w => Ex_M (i := .aload_n 0) (n := 1) (by decide +kernel) rfl rfl rfl),
   (fun lv st t w => Ex_M (i := .aload_n 0) (n := 1) (by decide +kernel) rfl rfl rfl),
   (fun lv l st w => Ex_ldcI (by decide +kernel : decode M_X11_ofWalker.2.1 14 = .ok (.ldc 73, 2)) rfl (by decide +kernel)),
   (fun lv l b a0 w => Ex_callV (by decide +kernel : decode M_X11_ofWalker.2.1 16 = .ok (.invokevirtual 74, 3)) rfl (by rfl : resM (mCn M_X11_ofWalker) 74 = some (2, M_X11_refuse)) rfl (by rfl) (Nat.le_of_ble_eq_true rfl) (by decide +kernel) (sLv_lt (by decide +kernel))),
   (fun lv l x w => Ex_R (i := .ireturn) (n := 1) (by decide +kernel) rfl rfl rfl rfl rfl),
   (fun lv st t o0 o1 x w => Ex_M (i := .iload_n 2) (n := 1) (by decide +kernel) rfl rfl rfl),
   (fun lv l st x w => (by
      refine it_ite (fun hx0 => ?_) (fun hx0 => ?_)
      · subst hx0; exact Ex_tsIn (by decide +kernel : decode M_X11_ofWalker.2.1 21 = .ok (.tableswitch 84 0 5 #[39, 44, 49, 54, 59, 64], 39)) (by decide) rfl rfl
      refine it_ite (fun hx1 => ?_) (fun hx1 => ?_)
      · subst hx1; exact Ex_tsIn (by decide +kernel : decode M_X11_ofWalker.2.1 21 = .ok (.tableswitch 84 0 5 #[39, 44, 49, 54, 59, 64], 39)) (by decide) rfl rfl
      refine it_ite (fun hx2 => ?_) (fun hx2 => ?_)
      · subst hx2; exact Ex_tsIn (by decide +kernel : decode M_X11_ofWalker.2.1 21 = .ok (.tableswitch 84 0 5 #[39, 44, 49, 54, 59, 64], 39)) (by decide) rfl rfl
      refine it_ite (fun hx3 => ?_) (fun hx3 => ?_)
      · subst hx3; exact Ex_tsIn (by decide +kernel : decode M_X11_ofWalker.2.1 21 = .ok (.tableswitch 84 0 5 #[39, 44, 49, 54, 59, 64], 39)) (by decide) rfl rfl
      refine it_ite (fun hx4 => ?_) (fun hx4 => ?_)
      · subst hx4; exact Ex_tsIn (by decide +kernel : decode M_X11_ofWalker.2.1 21 = .ok (.tableswitch 84 0 5 #[39, 44, 49, 54, 59, 64], 39)) (by decide) rfl rfl
      refine it_ite (fun hx5 => ?_) (fun hx5 => ?_)
      · subst hx5; exact Ex_tsIn (by decide +kernel : decode M_X11_ofWalker.2.1 21 = .ok (.tableswitch 84 0 5 #[39, 44, 49, 54, 59, 64], 39)) (by decide) rfl rfl
      exact Ex_tsOut (by decide +kernel : decode M_X11_ofWalker.2.1 21 = .ok (.tableswitch 84 0 5 #[39, 44, 49, 54, 59, 64], 39)) (ts_out 0 5 (by have := n_toInt (z := 0) rfl hx0; have := n_toInt (z := 1) rfl hx1; have := n_toInt (z := 2) rfl hx2; have := n_toInt (z := 3) rfl hx3; have := n_toInt (z := 4) rfl hx4; have := n_toInt (z := 5) rfl hx5; omega)) rfl)),
   (fun lv st t o0 o1 o2 x w => Ex_M (i := .aload_n 3) (n := 1) (by decide +kernel) rfl rfl rfl),
   (fun lv st t o0 o1 o2 w => Ex_M (i := .aload_n 3) (n := 1) (by decide +kernel) rfl rfl rfl),
   (fun lv l st a w => Ex_getf (by decide +kernel : decode M_X11_ofWalker.2.1 61 = .ok (.getfield 137, 3)) rfl (by decide +kernel : resF (mCn M_X11_ofWalker) 137 = some (9, 0, .int, false))),
   (fun lv l x w => Ex_R (i := .ireturn) (n := 1) (by decide +kernel) rfl rfl rfl rfl rfl),
   (fun lv st t o0 o1 o2 x w => Ex_M (i := .aload_n 3) (n := 1) (by decide +kernel) rfl rfl rfl),
   (fun lv st t o0 o1 o2 w => Ex_M (i := .aload_n 3) (n := 1) (by decide +kernel) rfl rfl rfl),
   (fun lv l st a w => Ex_getf (by decide +kernel : decode M_X11_ofWalker.2.1 66 = .ok (.getfield 142, 3)) rfl (by decide +kernel : resF (mCn M_X11_ofWalker) 142 = some (9, 1, .int, false))),
   (fun lv l x w => Ex_R (i := .ireturn) (n := 1) (by decide +kernel) rfl rfl rfl rfl rfl),
   (fun lv st t o0 o1 o2 x w => Ex_M (i := .aload_n 3) (n := 1) (by decide +kernel) rfl rfl rfl),
   (fun lv st t o0 o1 o2 w => Ex_M (i := .aload_n 3) (n := 1) (by decide +kernel) rfl rfl rfl),
   (fun lv l st a w => Ex_getf (by decide +kernel : decode M_X11_ofWalker.2.1 71 = .ok (.getfield 145, 3)) rfl (by decide +kernel : resF (mCn M_X11_ofWalker) 145 = some (9, 2, .int, false))),
   (fun lv l x w => Ex_R (i := .ireturn) (n := 1) (by decide +kernel) rfl rfl rfl rfl rfl),
   (fun lv st t o0 o1 o2 x w => Ex_M (i := .aload_n 3) (n := 1) (by decide +kernel) rfl rfl rfl),
   (fun lv st t o0 o1 o2 w => Ex_M (i := .aload_n 3) (n := 1) (by decide +kernel) rfl rfl rfl),
   (fun lv l st a w => Ex_getf (by decide +kernel : decode M_X11_ofWalker.2.1 76 = .ok (.getfield 148, 3)) rfl (by decide +kernel : resF (mCn M_X11_ofWalker) 148 = some (9, 3, .int, false))),
   (fun lv l x w => Ex_R (i := .ireturn) (n := 1) (by decide +kernel) rfl rfl rfl rfl rfl),
   (fun lv st t o0 o1 o2 x w => Ex_M (i := .aload_n 3) (n := 1) (by decide +kernel) rfl rfl rfl),
   (fun lv st t o0 o1 o2 w => Ex_M (i := .aload_n 3) (n := 1) (by decide +kernel) rfl rfl rfl),
   (fun lv l b w => Ex_callV (by decide +kernel : decode M_X11_ofWalker.2.1 81 = .ok (.invokevirtual 151, 3)) rfl (by rfl : resM (mCn M_X11_ofWalker) 151 = some (2, M_X10_wearing)) rfl (by rfl) (Nat.le_of_ble_eq_true rfl) (by decide +kernel) (sLv_lt (by decide +kernel))),
   (fun lv l x w => Ex_R (i := .ireturn) (n := 1) (by decide +kernel) rfl rfl rfl rfl rfl),
   (fun lv st t o0 o1 o2 x w => Ex_M (i := .aload_n 3) (n := 1) (by decide +kernel) rfl rfl rfl),
   (fun lv st t o0 o1 o2 w => Ex_M (i := .aload_n 3) (n := 1) (by decide +kernel) rfl rfl rfl),
   (fun lv st t x w => Ex_M (i := .aload_n 0) (n := 1) (by decide +kernel) rfl rfl rfl),
   (fun lv st t w => Ex_M (i := .aload_n 0) (n := 1) (by decide +kernel) rfl rfl rfl),
   (fun lv l st a w => Ex_getf (by decide +kernel : decode M_X11_ofWalker.2.1 87 = .ok (.getfield 12, 3)) rfl (by decide +kernel : resF (mCn M_X11_ofWalker) 12 = some (10, 0, (.object "CarpetLands$Country"), true))),
   (fun lv l st a w => Ex_getf (by decide +kernel : decode M_X11_ofWalker.2.1 90 = .ok (.getfield 78, 3)) rfl (by decide +kernel : resF (mCn M_X11_ofWalker) 78 = some (1, 0, (.object "CarpetLands$Carpet"), true))),
   (fun lv l b a0 w => Ex_callV (by decide +kernel : decode M_X11_ofWalker.2.1 93 = .ok (.invokevirtual 154, 3)) rfl (by rfl : resM (mCn M_X11_ofWalker) 154 = some (2, M_X10_wouldEat)) rfl (by rfl) (Nat.le_of_ble_eq_true rfl) (by decide +kernel) (sLv_lt (by decide +kernel))),
   (fun lv l st x w => Ex_if_eq (by decide +kernel : decode M_X11_ofWalker.2.1 96 = .ok (.ifCond .eq 7, 3)) rfl rfl),
   (fun lv l st w => Ex_A (i := .iconst 1) (n := 1) (by decide +kernel) rfl rfl),
   (fun lv l st w => Ex_goto (by decide +kernel : decode M_X11_ofWalker.2.1 100 = .ok (.goto 4, 3)) rfl),
   (fun lv l st w => Ex_A (i := .iconst 0) (n := 1) (by decide +kernel) rfl rfl),
   (fun lv l x w => Ex_R (i := .ireturn) (n := 1) (by decide +kernel) rfl rfl rfl rfl rfl),
   (fun lv st t x w => Ex_M (i := .aload_n 0) (n := 1) (by decide +kernel) rfl rfl rfl),
   (fun lv st t w => Ex_M (i := .aload_n 0) (n := 1) (by decide +kernel) rfl rfl rfl),
   (fun lv l st w => Ex_ldcI (by decide +kernel : decode M_X11_ofWalker.2.1 106 = .ok (.ldc 73, 2)) rfl (by decide +kernel)),
   (fun lv l b a0 w => Ex_callV (by decide +kernel : decode M_X11_ofWalker.2.1 108 = .ok (.invokevirtual 74, 3)) rfl (by rfl : resM (mCn M_X11_ofWalker) 74 = some (2, M_X11_refuse)) rfl (by rfl) (Nat.le_of_ble_eq_true rfl) (by decide +kernel) (sLv_lt (by decide +kernel))),
   (fun lv l x w => Ex_R (i := .ireturn) (n := 1) (by decide +kernel) rfl rfl rfl rfl rfl)⟩
set_option maxRecDepth 20000 in
set_option maxHeartbeats 4000000 in
theorem R_X11_put : (∀ (lv : Nat) (st : List Value) (t : LX) (x : Nat) (w : AH), Ex M_X11_put lv 0 (some (.ref x) :: t) st w = Ex M_X11_put lv 1 (some (.ref x) :: t) (.ref x :: st) w)
  ∧ (∀ (lv : Nat) (st : List Value) (t : LX) (w : AH), Ex M_X11_put lv 0 (some (.null) :: t) st w = Ex M_X11_put lv 1 (some (.null) :: t) (.null :: st) w)
  ∧ (∀ (lv : Nat) (l : LX) (st : List Value) (a : Nat) (w : AH), Ex M_X11_put lv 1 l (.ref a :: st) w = if (gf (hg w a) 10 0).isSome = true then Ex M_X11_put lv 4 l (vV (gf (hg w a) 10 0) :: st) w else none)
  ∧ (∀ (lv : Nat) (st : List Value) (t : LX) (o0 : Option Value) (x : Int32) (w : AH), Ex M_X11_put lv 4 (o0 :: some (.int x) :: t) st w = Ex M_X11_put lv 5 (o0 :: some (.int x) :: t) (.int x :: st) w)
  ∧ (∀ (lv : Nat) (l : LX) (b : Nat) (a0 : Int32) (w : AH), Ex M_X11_put lv 5 l (.int a0 :: .ref b :: []) w = if clK (hg w b) = 1 then (if (Call M_X1_walkerOf 60 [.ref b, .int a0] w).isSome = true then Ex M_X11_put lv 8 l (pushR (cV (Call M_X1_walkerOf 60 [.ref b, .int a0] w)) []) (cW (Call M_X1_walkerOf 60 [.ref b, .int a0] w) w) else none) else none)
  ∧ (∀ (lv : Nat) (l : LX) (st : List Value) (x : Nat) (w : AH), Ex M_X11_put lv 8 l (.ref x :: st) w = Ex M_X11_put lv 10 (ls1 l 4 (.ref x)) st w)
  ∧ (∀ (lv : Nat) (l : LX) (st : List Value) (w : AH), Ex M_X11_put lv 8 l (.null :: st) w = Ex M_X11_put lv 10 (ls1 l 4 (.null)) st w)
  ∧ (∀ (lv : Nat) (st : List Value) (t : LX) (o0 o1 o2 o3 : Option Value) (x : Nat) (w : AH), Ex M_X11_put lv 10 (o0 :: o1 :: o2 :: o3 :: some (.ref x) :: t) st w = Ex M_X11_put lv 12 (o0 :: o1 :: o2 :: o3 :: some (.ref x) :: t) (.ref x :: st) w)
  ∧ (∀ (lv : Nat) (st : List Value) (t : LX) (o0 o1 o2 o3 : Option Value) (w : AH), Ex M_X11_put lv 10 (o0 :: o1 :: o2 :: o3 :: some (.null) :: t) st w = Ex M_X11_put lv 12 (o0 :: o1 :: o2 :: o3 :: some (.null) :: t) (.null :: st) w)
  ∧ (∀ (lv : Nat) (l : LX) (st : List Value) (x : Nat) (w : AH), Ex M_X11_put lv 12 l (.ref x :: st) w = Ex M_X11_put lv 15 l st w)
  ∧ (∀ (lv : Nat) (l : LX) (st : List Value) (w : AH), Ex M_X11_put lv 12 l (.null :: st) w = Ex M_X11_put lv 31 l st w)
  ∧ (∀ (lv : Nat) (st : List Value) (t : LX) (o0 o1 : Option Value) (x : Int32) (w : AH), Ex M_X11_put lv 15 (o0 :: o1 :: some (.int x) :: t) st w = Ex M_X11_put lv 16 (o0 :: o1 :: some (.int x) :: t) (.int x :: st) w)
  ∧ (∀ (lv : Nat) (l : LX) (a0 : Int32) (w : AH), Ex M_X11_put lv 16 l (.int a0 :: []) w = if (Call M_X11_isKnot 60 [.int a0] w).isSome = true then Ex M_X11_put lv 19 l (pushR (cV (Call M_X11_isKnot 60 [.int a0] w)) []) (cW (Call M_X11_isKnot 60 [.int a0] w) w) else none)
  ∧ (∀ (lv : Nat) (l : LX) (st : List Value) (x : Int32) (w : AH), Ex M_X11_put lv 19 l (.int x :: st) w = if x = 0 then Ex M_X11_put lv 31 l st w else Ex M_X11_put lv 22 l st w)
  ∧ (∀ (lv : Nat) (st : List Value) (t : LX) (o0 o1 o2 : Option Value) (x : Int32) (w : AH), Ex M_X11_put lv 22 (o0 :: o1 :: o2 :: some (.int x) :: t) st w = Ex M_X11_put lv 23 (o0 :: o1 :: o2 :: some (.int x) :: t) (.int x :: st) w)
  ∧ (∀ (lv : Nat) (l : LX) (st : List Value) (w : AH), Ex M_X11_put lv 23 l st w = Ex M_X11_put lv 24 l (.int 0 :: st) w)
  ∧ (∀ (lv : Nat) (l : LX) (st : List Value) (w : AH), Ex M_X11_put lv 24 l st w = Ex M_X11_put lv 25 l (.int 3 :: st) w)
  ∧ (∀ (lv : Nat) (l : LX) (a0 : Int32) (a1 : Int32) (a2 : Int32) (w : AH), Ex M_X11_put lv 25 l (.int a2 :: .int a1 :: .int a0 :: []) w = if (Call M_X11_isWithin 60 [.int a0, .int a1, .int a2] w).isSome = true then Ex M_X11_put lv 28 l (pushR (cV (Call M_X11_isWithin 60 [.int a0, .int a1, .int a2] w)) []) (cW (Call M_X11_isWithin 60 [.int a0, .int a1, .int a2] w) w) else none)
  ∧ (∀ (lv : Nat) (l : LX) (st : List Value) (x : Int32) (w : AH), Ex M_X11_put lv 28 l (.int x :: st) w = if ¬ x = 0 then Ex M_X11_put lv 38 l st w else Ex M_X11_put lv 31 l st w)
  ∧ (∀ (lv : Nat) (st : List Value) (t : LX) (x : Nat) (w : AH), Ex M_X11_put lv 31 (some (.ref x) :: t) st w = Ex M_X11_put lv 32 (some (.ref x) :: t) (.ref x :: st) w)
  ∧ (∀ (lv : Nat) (st : List Value) (t : LX) (w : AH), Ex M_X11_put lv 31 (some (.null) :: t) st w = Ex M_X11_put lv 32 (some (.null) :: t) (.null :: st) w)
  ∧ (∀ (lv : Nat) (l : LX) (st : List Value) (w : AH), Ex M_X11_put lv 32 l st w = Ex M_X11_put lv 34 l (.int (-1000000001) :: st) w)
  ∧ (∀ (lv : Nat) (l : LX) (b : Nat) (a0 : Int32) (w : AH), Ex M_X11_put lv 34 l (.int a0 :: .ref b :: []) w = if clK (hg w b) = 10 then (if (Call M_X11_refuse 60 [.ref b, .int a0] w).isSome = true then Ex M_X11_put lv 37 l (pushR (cV (Call M_X11_refuse 60 [.ref b, .int a0] w)) []) (cW (Call M_X11_refuse 60 [.ref b, .int a0] w) w) else none) else none)
  ∧ (∀ (lv : Nat) (l : LX) (x : Int32) (w : AH), Ex M_X11_put lv 37 l [.int x] w = some (some (.int x), w))
  ∧ (∀ (lv : Nat) (st : List Value) (t : LX) (o0 o1 o2 o3 : Option Value) (x : Nat) (w : AH), Ex M_X11_put lv 38 (o0 :: o1 :: o2 :: o3 :: some (.ref x) :: t) st w = Ex M_X11_put lv 40 (o0 :: o1 :: o2 :: o3 :: some (.ref x) :: t) (.ref x :: st) w)
  ∧ (∀ (lv : Nat) (st : List Value) (t : LX) (o0 o1 o2 o3 : Option Value) (w : AH), Ex M_X11_put lv 38 (o0 :: o1 :: o2 :: o3 :: some (.null) :: t) st w = Ex M_X11_put lv 40 (o0 :: o1 :: o2 :: o3 :: some (.null) :: t) (.null :: st) w)
  ∧ (∀ (lv : Nat) (l : LX) (st : List Value) (a : Nat) (w : AH), Ex M_X11_put lv 40 l (.ref a :: st) w = if (gf (hg w a) 9 2).isSome = true then Ex M_X11_put lv 43 l (vV (gf (hg w a) 9 2) :: st) w else none)
  ∧ (∀ (lv : Nat) (l : LX) (st : List Value) (x : Int32) (w : AH), Ex M_X11_put lv 43 l (.int x :: st) w = Ex M_X11_put lv 45 (ls1 l 5 (.int x)) st w)
  ∧ (∀ (lv : Nat) (st : List Value) (t : LX) (o0 o1 o2 o3 : Option Value) (x : Nat) (w : AH), Ex M_X11_put lv 45 (o0 :: o1 :: o2 :: o3 :: some (.ref x) :: t) st w = Ex M_X11_put lv 47 (o0 :: o1 :: o2 :: o3 :: some (.ref x) :: t) (.ref x :: st) w)
  ∧ (∀ (lv : Nat) (st : List Value) (t : LX) (o0 o1 o2 o3 : Option Value) (w : AH), Ex M_X11_put lv 45 (o0 :: o1 :: o2 :: o3 :: some (.null) :: t) st w = Ex M_X11_put lv 47 (o0 :: o1 :: o2 :: o3 :: some (.null) :: t) (.null :: st) w)
  ∧ (∀ (lv : Nat) (st : List Value) (t : LX) (o0 o1 : Option Value) (x : Int32) (w : AH), Ex M_X11_put lv 47 (o0 :: o1 :: some (.int x) :: t) st w = Ex M_X11_put lv 48 (o0 :: o1 :: some (.int x) :: t) (.int x :: st) w)
  ∧ (∀ (lv : Nat) (l : LX) (st : List Value) (a : Nat) (v : Value) (w : AH), Ex M_X11_put lv 48 l (v :: .ref a :: st) w = if (pf (hg w a) 9 2 .int v).isSome = true then Ex M_X11_put lv 51 l st (hs w a (vE (pf (hg w a) 9 2 .int v))) else none)
  ∧ (∀ (lv : Nat) (st : List Value) (t : LX) (o0 o1 o2 o3 : Option Value) (x : Nat) (w : AH), Ex M_X11_put lv 51 (o0 :: o1 :: o2 :: o3 :: some (.ref x) :: t) st w = Ex M_X11_put lv 53 (o0 :: o1 :: o2 :: o3 :: some (.ref x) :: t) (.ref x :: st) w)
  ∧ (∀ (lv : Nat) (st : List Value) (t : LX) (o0 o1 o2 o3 : Option Value) (w : AH), Ex M_X11_put lv 51 (o0 :: o1 :: o2 :: o3 :: some (.null) :: t) st w = Ex M_X11_put lv 53 (o0 :: o1 :: o2 :: o3 :: some (.null) :: t) (.null :: st) w)
  ∧ (∀ (lv : Nat) (st : List Value) (t : LX) (o0 o1 o2 : Option Value) (x : Int32) (w : AH), Ex M_X11_put lv 53 (o0 :: o1 :: o2 :: some (.int x) :: t) st w = Ex M_X11_put lv 54 (o0 :: o1 :: o2 :: some (.int x) :: t) (.int x :: st) w)
  ∧ (∀ (lv : Nat) (l : LX) (st : List Value) (a : Nat) (v : Value) (w : AH), Ex M_X11_put lv 54 l (v :: .ref a :: st) w = if (pf (hg w a) 9 3 .int v).isSome = true then Ex M_X11_put lv 57 l st (hs w a (vE (pf (hg w a) 9 3 .int v))) else none)
  ∧ (∀ (lv : Nat) (st : List Value) (t : LX) (o0 o1 o2 o3 o4 : Option Value) (x : Int32) (w : AH), Ex M_X11_put lv 57 (o0 :: o1 :: o2 :: o3 :: o4 :: some (.int x) :: t) st w = Ex M_X11_put lv 59 (o0 :: o1 :: o2 :: o3 :: o4 :: some (.int x) :: t) (.int x :: st) w)
  ∧ (∀ (lv : Nat) (l : LX) (x : Int32) (w : AH), Ex M_X11_put lv 59 l [.int x] w = some (some (.int x), w)) :=
  ⟨(fun lv st t x w => Ex_M (i := .aload_n 0) (n := 1) (by decide +kernel) rfl rfl rfl),
   (fun lv st t w => Ex_M (i := .aload_n 0) (n := 1) (by decide +kernel) rfl rfl rfl),
   (fun lv l st a w => Ex_getf (by decide +kernel : decode M_X11_put.2.1 1 = .ok (.getfield 12, 3)) rfl (by decide +kernel : resF (mCn M_X11_put) 12 = some (10, 0, (.object "CarpetLands$Country"), true))),
   (fun lv st t o0 x w => Ex_M (i := .iload_n 1) (n := 1) (by decide +kernel) rfl rfl rfl),
   (fun lv l b a0 w => Ex_callV (by decide +kernel : decode M_X11_put.2.1 5 = .ok (.invokevirtual 133, 3)) rfl (by rfl : resM (mCn M_X11_put) 133 = some (2, M_X1_walkerOf)) rfl (by rfl) (Nat.le_of_ble_eq_true rfl) (by decide +kernel) (sLv_lt (by decide +kernel))),
   (fun lv l st x w => Ex_M (i := .astore 4) (n := 2) (by decide +kernel) rfl rfl rfl),
   (fun lv l st w => Ex_M (i := .astore 4) (n := 2) (by decide +kernel) rfl rfl rfl),
   (fun lv st t o0 o1 o2 o3 x w => Ex_M (i := .aload 4) (n := 2) (by decide +kernel) rfl rfl rfl),
   (fun lv st t o0 o1 o2 o3 w => Ex_M (i := .aload 4) (n := 2) (by decide +kernel) rfl rfl rfl),
   (fun lv l st x w => Ex_ifnull_r (by decide +kernel : decode M_X11_put.2.1 12 = .ok (.ifnull 19, 3)) rfl),
   (fun lv l st w => Ex_ifnull_n (by decide +kernel : decode M_X11_put.2.1 12 = .ok (.ifnull 19, 3)) rfl),
   (fun lv st t o0 o1 x w => Ex_M (i := .iload_n 2) (n := 1) (by decide +kernel) rfl rfl rfl),
   (fun lv l a0 w => Ex_callS (by decide +kernel : decode M_X11_put.2.1 16 = .ok (.invokestatic 65, 3)) rfl (by rfl : resM (mCn M_X11_put) 65 = some (0, M_X11_isKnot)) (by decide) rfl (by rfl) (Nat.le_of_ble_eq_true rfl) (sLv_lt (by decide +kernel))),
   (fun lv l st x w => Ex_if_eq (by decide +kernel : decode M_X11_put.2.1 19 = .ok (.ifCond .eq 12, 3)) rfl rfl),
   (fun lv st t o0 o1 o2 x w => Ex_M (i := .iload_n 3) (n := 1) (by decide +kernel) rfl rfl rfl),
   (fun lv l st w => Ex_A (i := .iconst 0) (n := 1) (by decide +kernel) rfl rfl),
   (fun lv l st w => Ex_A (i := .iconst 3) (n := 1) (by decide +kernel) rfl rfl),
   (fun lv l a0 a1 a2 w => Ex_callS (by decide +kernel : decode M_X11_put.2.1 25 = .ok (.invokestatic 69, 3)) rfl (by rfl : resM (mCn M_X11_put) 69 = some (0, M_X11_isWithin)) (by decide) rfl (by rfl) (Nat.le_of_ble_eq_true rfl) (sLv_lt (by decide +kernel))),
   (fun lv l st x w => Ex_if_ne (by decide +kernel : decode M_X11_put.2.1 28 = .ok (.ifCond .ne 10, 3)) rfl rfl),
   (fun lv st t x w => Ex_M (i := .aload_n 0) (n := 1) (by decide +kernel) rfl rfl rfl),
   (fun lv st t w => Ex_M (i := .aload_n 0) (n := 1) (by decide +kernel) rfl rfl rfl),
   (fun lv l st w => Ex_ldcI (by decide +kernel : decode M_X11_put.2.1 32 = .ok (.ldc 73, 2)) rfl (by decide +kernel)),
   (fun lv l b a0 w => Ex_callV (by decide +kernel : decode M_X11_put.2.1 34 = .ok (.invokevirtual 74, 3)) rfl (by rfl : resM (mCn M_X11_put) 74 = some (2, M_X11_refuse)) rfl (by rfl) (Nat.le_of_ble_eq_true rfl) (by decide +kernel) (sLv_lt (by decide +kernel))),
   (fun lv l x w => Ex_R (i := .ireturn) (n := 1) (by decide +kernel) rfl rfl rfl rfl rfl),
   (fun lv st t o0 o1 o2 o3 x w => Ex_M (i := .aload 4) (n := 2) (by decide +kernel) rfl rfl rfl),
   (fun lv st t o0 o1 o2 o3 w => Ex_M (i := .aload 4) (n := 2) (by decide +kernel) rfl rfl rfl),
   (fun lv l st a w => Ex_getf (by decide +kernel : decode M_X11_put.2.1 40 = .ok (.getfield 145, 3)) rfl (by decide +kernel : resF (mCn M_X11_put) 145 = some (9, 2, .int, false))),
   (fun lv l st x w => Ex_M (i := .istore 5) (n := 2) (by decide +kernel) rfl rfl rfl),
   (fun lv st t o0 o1 o2 o3 x w => Ex_M (i := .aload 4) (n := 2) (by decide +kernel) rfl rfl rfl),
   (fun lv st t o0 o1 o2 o3 w => Ex_M (i := .aload 4) (n := 2) (by decide +kernel) rfl rfl rfl),
   (fun lv st t o0 o1 x w => Ex_M (i := .iload_n 2) (n := 1) (by decide +kernel) rfl rfl rfl),
   (fun lv l st a v w => Ex_putf (by decide +kernel : decode M_X11_put.2.1 48 = .ok (.putfield 145, 3)) rfl (by decide +kernel : resF (mCn M_X11_put) 145 = some (9, 2, .int, false)) (by decide +kernel)),
   (fun lv st t o0 o1 o2 o3 x w => Ex_M (i := .aload 4) (n := 2) (by decide +kernel) rfl rfl rfl),
   (fun lv st t o0 o1 o2 o3 w => Ex_M (i := .aload 4) (n := 2) (by decide +kernel) rfl rfl rfl),
   (fun lv st t o0 o1 o2 x w => Ex_M (i := .iload_n 3) (n := 1) (by decide +kernel) rfl rfl rfl),
   (fun lv l st a v w => Ex_putf (by decide +kernel : decode M_X11_put.2.1 54 = .ok (.putfield 148, 3)) rfl (by decide +kernel : resF (mCn M_X11_put) 148 = some (9, 3, .int, false)) (by decide +kernel)),
   (fun lv st t o0 o1 o2 o3 o4 x w => Ex_M (i := .iload 5) (n := 2) (by decide +kernel) rfl rfl rfl),
   (fun lv l x w => Ex_R (i := .ireturn) (n := 1) (by decide +kernel) rfl rfl rfl rfl rfl)⟩
set_option maxRecDepth 20000 in
set_option maxHeartbeats 4000000 in
theorem R_X11_become : (∀ (lv : Nat) (st : List Value) (t : LX) (x : Nat) (w : AH), Ex M_X11_become lv 0 (some (.ref x) :: t) st w = Ex M_X11_become lv 1 (some (.ref x) :: t) (.ref x :: st) w)
  ∧ (∀ (lv : Nat) (st : List Value) (t : LX) (w : AH), Ex M_X11_become lv 0 (some (.null) :: t) st w = Ex M_X11_become lv 1 (some (.null) :: t) (.null :: st) w)
  ∧ (∀ (lv : Nat) (l : LX) (st : List Value) (a : Nat) (w : AH), Ex M_X11_become lv 1 l (.ref a :: st) w = if (gf (hg w a) 10 0).isSome = true then Ex M_X11_become lv 4 l (vV (gf (hg w a) 10 0) :: st) w else none)
  ∧ (∀ (lv : Nat) (st : List Value) (t : LX) (o0 : Option Value) (x : Int32) (w : AH), Ex M_X11_become lv 4 (o0 :: some (.int x) :: t) st w = Ex M_X11_become lv 5 (o0 :: some (.int x) :: t) (.int x :: st) w)
  ∧ (∀ (lv : Nat) (l : LX) (b : Nat) (a0 : Int32) (w : AH), Ex M_X11_become lv 5 l (.int a0 :: .ref b :: []) w = if clK (hg w b) = 1 then (if (Call M_X1_walkerOf 60 [.ref b, .int a0] w).isSome = true then Ex M_X11_become lv 8 l (pushR (cV (Call M_X1_walkerOf 60 [.ref b, .int a0] w)) []) (cW (Call M_X1_walkerOf 60 [.ref b, .int a0] w) w) else none) else none)
  ∧ (∀ (lv : Nat) (l : LX) (st : List Value) (x : Nat) (w : AH), Ex M_X11_become lv 8 l (.ref x :: st) w = Ex M_X11_become lv 9 (ls1 l 3 (.ref x)) st w)
  ∧ (∀ (lv : Nat) (l : LX) (st : List Value) (w : AH), Ex M_X11_become lv 8 l (.null :: st) w = Ex M_X11_become lv 9 (ls1 l 3 (.null)) st w)
  ∧ (∀ (lv : Nat) (st : List Value) (t : LX) (o0 o1 o2 : Option Value) (x : Nat) (w : AH), Ex M_X11_become lv 9 (o0 :: o1 :: o2 :: some (.ref x) :: t) st w = Ex M_X11_become lv 10 (o0 :: o1 :: o2 :: some (.ref x) :: t) (.ref x :: st) w)
  ∧ (∀ (lv : Nat) (st : List Value) (t : LX) (o0 o1 o2 : Option Value) (w : AH), Ex M_X11_become lv 9 (o0 :: o1 :: o2 :: some (.null) :: t) st w = Ex M_X11_become lv 10 (o0 :: o1 :: o2 :: some (.null) :: t) (.null :: st) w)
  ∧ (∀ (lv : Nat) (l : LX) (st : List Value) (x : Nat) (w : AH), Ex M_X11_become lv 10 l (.ref x :: st) w = Ex M_X11_become lv 13 l st w)
  ∧ (∀ (lv : Nat) (l : LX) (st : List Value) (w : AH), Ex M_X11_become lv 10 l (.null :: st) w = Ex M_X11_become lv 20 l st w)
  ∧ (∀ (lv : Nat) (st : List Value) (t : LX) (o0 o1 : Option Value) (x : Int32) (w : AH), Ex M_X11_become lv 13 (o0 :: o1 :: some (.int x) :: t) st w = Ex M_X11_become lv 14 (o0 :: o1 :: some (.int x) :: t) (.int x :: st) w)
  ∧ (∀ (lv : Nat) (l : LX) (a0 : Int32) (w : AH), Ex M_X11_become lv 14 l (.int a0 :: []) w = if (Call M_X11_isKindAndM 60 [.int a0] w).isSome = true then Ex M_X11_become lv 17 l (pushR (cV (Call M_X11_isKindAndM 60 [.int a0] w)) []) (cW (Call M_X11_isKindAndM 60 [.int a0] w) w) else none)
  ∧ (∀ (lv : Nat) (l : LX) (st : List Value) (x : Int32) (w : AH), Ex M_X11_become lv 17 l (.int x :: st) w = if ¬ x = 0 then Ex M_X11_become lv 27 l st w else Ex M_X11_become lv 20 l st w)
  ∧ (∀ (lv : Nat) (st : List Value) (t : LX) (x : Nat) (w : AH), Ex M_X11_become lv 20 (some (.ref x) :: t) st w = Ex M_X11_become lv 21 (some (.ref x) :: t) (.ref x :: st) w)
  ∧ (∀ (lv : Nat) (st : List Value) (t : LX) (w : AH), Ex M_X11_become lv 20 (some (.null) :: t) st w = Ex M_X11_become lv 21 (some (.null) :: t) (.null :: st) w)
  ∧ (∀ (lv : Nat) (l : LX) (st : List Value) (w : AH), Ex M_X11_become lv 21 l st w = Ex M_X11_become lv 23 l (.int (-1000000001) :: st) w)
  ∧ (∀ (lv : Nat) (l : LX) (b : Nat) (a0 : Int32) (w : AH), Ex M_X11_become lv 23 l (.int a0 :: .ref b :: []) w = if clK (hg w b) = 10 then (if (Call M_X11_refuse 60 [.ref b, .int a0] w).isSome = true then Ex M_X11_become lv 26 l (pushR (cV (Call M_X11_refuse 60 [.ref b, .int a0] w)) []) (cW (Call M_X11_refuse 60 [.ref b, .int a0] w) w) else none) else none)
  ∧ (∀ (lv : Nat) (l : LX) (x : Int32) (w : AH), Ex M_X11_become lv 26 l [.int x] w = some (some (.int x), w))
  ∧ (∀ (lv : Nat) (st : List Value) (t : LX) (o0 o1 o2 : Option Value) (x : Nat) (w : AH), Ex M_X11_become lv 27 (o0 :: o1 :: o2 :: some (.ref x) :: t) st w = Ex M_X11_become lv 28 (o0 :: o1 :: o2 :: some (.ref x) :: t) (.ref x :: st) w)
  ∧ (∀ (lv : Nat) (st : List Value) (t : LX) (o0 o1 o2 : Option Value) (w : AH), Ex M_X11_become lv 27 (o0 :: o1 :: o2 :: some (.null) :: t) st w = Ex M_X11_become lv 28 (o0 :: o1 :: o2 :: some (.null) :: t) (.null :: st) w)
  ∧ (∀ (lv : Nat) (l : LX) (st : List Value) (a : Nat) (w : AH), Ex M_X11_become lv 28 l (.ref a :: st) w = if (gf (hg w a) 9 0).isSome = true then Ex M_X11_become lv 31 l (vV (gf (hg w a) 9 0) :: st) w else none)
  ∧ (∀ (lv : Nat) (l : LX) (st : List Value) (x : Int32) (w : AH), Ex M_X11_become lv 31 l (.int x :: st) w = Ex M_X11_become lv 33 (ls1 l 4 (.int x)) st w)
  ∧ (∀ (lv : Nat) (st : List Value) (t : LX) (o0 o1 o2 : Option Value) (x : Nat) (w : AH), Ex M_X11_become lv 33 (o0 :: o1 :: o2 :: some (.ref x) :: t) st w = Ex M_X11_become lv 34 (o0 :: o1 :: o2 :: some (.ref x) :: t) (.ref x :: st) w)
  ∧ (∀ (lv : Nat) (st : List Value) (t : LX) (o0 o1 o2 : Option Value) (w : AH), Ex M_X11_become lv 33 (o0 :: o1 :: o2 :: some (.null) :: t) st w = Ex M_X11_become lv 34 (o0 :: o1 :: o2 :: some (.null) :: t) (.null :: st) w)
  ∧ (∀ (lv : Nat) (st : List Value) (t : LX) (o0 o1 : Option Value) (x : Int32) (w : AH), Ex M_X11_become lv 34 (o0 :: o1 :: some (.int x) :: t) st w = Ex M_X11_become lv 35 (o0 :: o1 :: some (.int x) :: t) (.int x :: st) w)
  ∧ (∀ (lv : Nat) (l : LX) (st : List Value) (w : AH), Ex M_X11_become lv 35 l st w = Ex M_X11_become lv 37 l (.int 10 :: st) w)
  ∧ (∀ (lv : Nat) (l : LX) (st : List Value) (x y : Int32) (w : AH), Ex M_X11_become lv 37 l (.int y :: .int x :: st) w = if y = 0 then none else Ex M_X11_become lv 38 l (.int (x / y) :: st) w)
  ∧ (∀ (lv : Nat) (l : LX) (st : List Value) (a : Nat) (v : Value) (w : AH), Ex M_X11_become lv 38 l (v :: .ref a :: st) w = if (pf (hg w a) 9 0 .int v).isSome = true then Ex M_X11_become lv 41 l st (hs w a (vE (pf (hg w a) 9 0 .int v))) else none)
  ∧ (∀ (lv : Nat) (st : List Value) (t : LX) (o0 o1 o2 : Option Value) (x : Nat) (w : AH), Ex M_X11_become lv 41 (o0 :: o1 :: o2 :: some (.ref x) :: t) st w = Ex M_X11_become lv 42 (o0 :: o1 :: o2 :: some (.ref x) :: t) (.ref x :: st) w)
  ∧ (∀ (lv : Nat) (st : List Value) (t : LX) (o0 o1 o2 : Option Value) (w : AH), Ex M_X11_become lv 41 (o0 :: o1 :: o2 :: some (.null) :: t) st w = Ex M_X11_become lv 42 (o0 :: o1 :: o2 :: some (.null) :: t) (.null :: st) w)
  ∧ (∀ (lv : Nat) (st : List Value) (t : LX) (o0 o1 : Option Value) (x : Int32) (w : AH), Ex M_X11_become lv 42 (o0 :: o1 :: some (.int x) :: t) st w = Ex M_X11_become lv 43 (o0 :: o1 :: some (.int x) :: t) (.int x :: st) w)
  ∧ (∀ (lv : Nat) (l : LX) (st : List Value) (w : AH), Ex M_X11_become lv 43 l st w = Ex M_X11_become lv 45 l (.int 10 :: st) w)
  ∧ (∀ (lv : Nat) (l : LX) (st : List Value) (x y : Int32) (w : AH), Ex M_X11_become lv 45 l (.int y :: .int x :: st) w = if y = 0 then none else Ex M_X11_become lv 46 l (.int (x - x / y * y) :: st) w)
  ∧ (∀ (lv : Nat) (l : LX) (st : List Value) (a : Nat) (v : Value) (w : AH), Ex M_X11_become lv 46 l (v :: .ref a :: st) w = if (pf (hg w a) 9 1 .int v).isSome = true then Ex M_X11_become lv 49 l st (hs w a (vE (pf (hg w a) 9 1 .int v))) else none)
  ∧ (∀ (lv : Nat) (st : List Value) (t : LX) (o0 o1 o2 o3 : Option Value) (x : Int32) (w : AH), Ex M_X11_become lv 49 (o0 :: o1 :: o2 :: o3 :: some (.int x) :: t) st w = Ex M_X11_become lv 51 (o0 :: o1 :: o2 :: o3 :: some (.int x) :: t) (.int x :: st) w)
  ∧ (∀ (lv : Nat) (l : LX) (x : Int32) (w : AH), Ex M_X11_become lv 51 l [.int x] w = some (some (.int x), w)) :=
  ⟨(fun lv st t x w => Ex_M (i := .aload_n 0) (n := 1) (by decide +kernel) rfl rfl rfl),
   (fun lv st t w => Ex_M (i := .aload_n 0) (n := 1) (by decide +kernel) rfl rfl rfl),
   (fun lv l st a w => Ex_getf (by decide +kernel : decode M_X11_become.2.1 1 = .ok (.getfield 12, 3)) rfl (by decide +kernel : resF (mCn M_X11_become) 12 = some (10, 0, (.object "CarpetLands$Country"), true))),
   (fun lv st t o0 x w => Ex_M (i := .iload_n 1) (n := 1) (by decide +kernel) rfl rfl rfl),
   (fun lv l b a0 w => Ex_callV (by decide +kernel : decode M_X11_become.2.1 5 = .ok (.invokevirtual 133, 3)) rfl (by rfl : resM (mCn M_X11_become) 133 = some (2, M_X1_walkerOf)) rfl (by rfl) (Nat.le_of_ble_eq_true rfl) (by decide +kernel) (sLv_lt (by decide +kernel))),
   (fun lv l st x w => Ex_M (i := .astore_n 3) (n := 1) (by decide +kernel) rfl rfl rfl),
   (fun lv l st w => Ex_M (i := .astore_n 3) (n := 1) (by decide +kernel) rfl rfl rfl),
   (fun lv st t o0 o1 o2 x w => Ex_M (i := .aload_n 3) (n := 1) (by decide +kernel) rfl rfl rfl),
   (fun lv st t o0 o1 o2 w => Ex_M (i := .aload_n 3) (n := 1) (by decide +kernel) rfl rfl rfl),
   (fun lv l st x w => Ex_ifnull_r (by decide +kernel : decode M_X11_become.2.1 10 = .ok (.ifnull 10, 3)) rfl),
   (fun lv l st w => Ex_ifnull_n (by decide +kernel : decode M_X11_become.2.1 10 = .ok (.ifnull 10, 3)) rfl),
   (fun lv st t o0 o1 x w => Ex_M (i := .iload_n 2) (n := 1) (by decide +kernel) rfl rfl rfl),
   (fun lv l a0 w => Ex_callS (by decide +kernel : decode M_X11_become.2.1 14 = .ok (.invokestatic 125, 3)) rfl (by rfl : resM (mCn M_X11_become) 125 = some (0, M_X11_isKindAndM)) (by decide) rfl (by rfl) (Nat.le_of_ble_eq_true rfl) (sLv_lt (by decide +kernel))),
   (fun lv l st x w => Ex_if_ne (by decide +kernel : decode M_X11_become.2.1 17 = .ok (.ifCond .ne 10, 3)) rfl rfl),
   (fun lv st t x w => Ex_M (i := .aload_n 0) (n := 1) (by decide +kernel) rfl rfl rfl),
   (fun lv st t w => Ex_M (i := .aload_n 0) (n := 1) (by decide +kernel) rfl rfl rfl),
   (fun lv l st w => Ex_ldcI (by decide +kernel : decode M_X11_become.2.1 21 = .ok (.ldc 73, 2)) rfl (by decide +kernel)),
   (fun lv l b a0 w => Ex_callV (by decide +kernel : decode M_X11_become.2.1 23 = .ok (.invokevirtual 74, 3)) rfl (by rfl : resM (mCn M_X11_become) 74 = some (2, M_X11_refuse)) rfl (by rfl) (Nat.le_of_ble_eq_true rfl) (by decide +kernel) (sLv_lt (by decide +kernel))),
   (fun lv l x w => Ex_R (i := .ireturn) (n := 1) (by decide +kernel) rfl rfl rfl rfl rfl),
   (fun lv st t o0 o1 o2 x w => Ex_M (i := .aload_n 3) (n := 1) (by decide +kernel) rfl rfl rfl),
   (fun lv st t o0 o1 o2 w => Ex_M (i := .aload_n 3) (n := 1) (by decide +kernel) rfl rfl rfl),
   (fun lv l st a w => Ex_getf (by decide +kernel : decode M_X11_become.2.1 28 = .ok (.getfield 137, 3)) rfl (by decide +kernel : resF (mCn M_X11_become) 137 = some (9, 0, .int, false))),
   (fun lv l st x w => Ex_M (i := .istore 4) (n := 2) (by decide +kernel) rfl rfl rfl),
   (fun lv st t o0 o1 o2 x w => Ex_M (i := .aload_n 3) (n := 1) (by decide +kernel) rfl rfl rfl),
   (fun lv st t o0 o1 o2 w => Ex_M (i := .aload_n 3) (n := 1) (by decide +kernel) rfl rfl rfl),
   (fun lv st t o0 o1 x w => Ex_M (i := .iload_n 2) (n := 1) (by decide +kernel) rfl rfl rfl),
   (fun lv l st w => Ex_A (i := .bipush 10) (n := 2) (by decide +kernel) rfl rfl),
   (fun lv l st x y w => Ex_idiv (by decide +kernel : decode M_X11_become.2.1 37 = .ok (.idiv, 1)) rfl),
   (fun lv l st a v w => Ex_putf (by decide +kernel : decode M_X11_become.2.1 38 = .ok (.putfield 137, 3)) rfl (by decide +kernel : resF (mCn M_X11_become) 137 = some (9, 0, .int, false)) (by decide +kernel)),
   (fun lv st t o0 o1 o2 x w => Ex_M (i := .aload_n 3) (n := 1) (by decide +kernel) rfl rfl rfl),
   (fun lv st t o0 o1 o2 w => Ex_M (i := .aload_n 3) (n := 1) (by decide +kernel) rfl rfl rfl),
   (fun lv st t o0 o1 x w => Ex_M (i := .iload_n 2) (n := 1) (by decide +kernel) rfl rfl rfl),
   (fun lv l st w => Ex_A (i := .bipush 10) (n := 2) (by decide +kernel) rfl rfl),
   (fun lv l st x y w => Ex_irem (by decide +kernel : decode M_X11_become.2.1 45 = .ok (.irem, 1)) rfl),
   (fun lv l st a v w => Ex_putf (by decide +kernel : decode M_X11_become.2.1 46 = .ok (.putfield 142, 3)) rfl (by decide +kernel : resF (mCn M_X11_become) 142 = some (9, 1, .int, false)) (by decide +kernel)),
   (fun lv st t o0 o1 o2 o3 x w => Ex_M (i := .iload 4) (n := 2) (by decide +kernel) rfl rfl rfl),
   (fun lv l x w => Ex_R (i := .ireturn) (n := 1) (by decide +kernel) rfl rfl rfl rfl rfl)⟩
set_option maxRecDepth 20000 in
set_option maxHeartbeats 4000000 in
theorem R_X11_as : (∀ (lv : Nat) (st : List Value) (t : LX) (x : Nat) (w : AH), Ex M_X11_as lv 0 (some (.ref x) :: t) st w = Ex M_X11_as lv 1 (some (.ref x) :: t) (.ref x :: st) w)
  ∧ (∀ (lv : Nat) (st : List Value) (t : LX) (w : AH), Ex M_X11_as lv 0 (some (.null) :: t) st w = Ex M_X11_as lv 1 (some (.null) :: t) (.null :: st) w)
  ∧ (∀ (lv : Nat) (l : LX) (st : List Value) (a : Nat) (w : AH), Ex M_X11_as lv 1 l (.ref a :: st) w = if (gf (hg w a) 10 0).isSome = true then Ex M_X11_as lv 4 l (vV (gf (hg w a) 10 0) :: st) w else none)
  ∧ (∀ (lv : Nat) (st : List Value) (t : LX) (o0 : Option Value) (x : Int32) (w : AH), Ex M_X11_as lv 4 (o0 :: some (.int x) :: t) st w = Ex M_X11_as lv 5 (o0 :: some (.int x) :: t) (.int x :: st) w)
  ∧ (∀ (lv : Nat) (l : LX) (b : Nat) (a0 : Int32) (w : AH), Ex M_X11_as lv 5 l (.int a0 :: .ref b :: []) w = if clK (hg w b) = 1 then (if (Call M_X1_walkerOf 60 [.ref b, .int a0] w).isSome = true then Ex M_X11_as lv 8 l (pushR (cV (Call M_X1_walkerOf 60 [.ref b, .int a0] w)) []) (cW (Call M_X1_walkerOf 60 [.ref b, .int a0] w) w) else none) else none)
  ∧ (∀ (lv : Nat) (l : LX) (st : List Value) (x : Nat) (w : AH), Ex M_X11_as lv 8 l (.ref x :: st) w = Ex M_X11_as lv 9 (ls1 l 3 (.ref x)) st w)
  ∧ (∀ (lv : Nat) (l : LX) (st : List Value) (w : AH), Ex M_X11_as lv 8 l (.null :: st) w = Ex M_X11_as lv 9 (ls1 l 3 (.null)) st w)
  ∧ (∀ (lv : Nat) (st : List Value) (t : LX) (o0 o1 o2 : Option Value) (x : Nat) (w : AH), Ex M_X11_as lv 9 (o0 :: o1 :: o2 :: some (.ref x) :: t) st w = Ex M_X11_as lv 10 (o0 :: o1 :: o2 :: some (.ref x) :: t) (.ref x :: st) w)
  ∧ (∀ (lv : Nat) (st : List Value) (t : LX) (o0 o1 o2 : Option Value) (w : AH), Ex M_X11_as lv 9 (o0 :: o1 :: o2 :: some (.null) :: t) st w = Ex M_X11_as lv 10 (o0 :: o1 :: o2 :: some (.null) :: t) (.null :: st) w)
  ∧ (∀ (lv : Nat) (l : LX) (st : List Value) (x : Nat) (w : AH), Ex M_X11_as lv 10 l (.ref x :: st) w = Ex M_X11_as lv 13 l st w)
  ∧ (∀ (lv : Nat) (l : LX) (st : List Value) (w : AH), Ex M_X11_as lv 10 l (.null :: st) w = Ex M_X11_as lv 23 l st w)
  ∧ (∀ (lv : Nat) (st : List Value) (t : LX) (o0 o1 : Option Value) (x : Int32) (w : AH), Ex M_X11_as lv 13 (o0 :: o1 :: some (.int x) :: t) st w = Ex M_X11_as lv 14 (o0 :: o1 :: some (.int x) :: t) (.int x :: st) w)
  ∧ (∀ (lv : Nat) (l : LX) (st : List Value) (w : AH), Ex M_X11_as lv 14 l st w = Ex M_X11_as lv 15 l (.int 0 :: st) w)
  ∧ (∀ (lv : Nat) (l : LX) (st : List Value) (w : AH), Ex M_X11_as lv 15 l st w = Ex M_X11_as lv 17 l (.int 6 :: st) w)
  ∧ (∀ (lv : Nat) (l : LX) (a0 : Int32) (a1 : Int32) (a2 : Int32) (w : AH), Ex M_X11_as lv 17 l (.int a2 :: .int a1 :: .int a0 :: []) w = if (Call M_X11_isWithin 60 [.int a0, .int a1, .int a2] w).isSome = true then Ex M_X11_as lv 20 l (pushR (cV (Call M_X11_isWithin 60 [.int a0, .int a1, .int a2] w)) []) (cW (Call M_X11_isWithin 60 [.int a0, .int a1, .int a2] w) w) else none)
  ∧ (∀ (lv : Nat) (l : LX) (st : List Value) (x : Int32) (w : AH), Ex M_X11_as lv 20 l (.int x :: st) w = if ¬ x = 0 then Ex M_X11_as lv 30 l st w else Ex M_X11_as lv 23 l st w)
  ∧ (∀ (lv : Nat) (st : List Value) (t : LX) (x : Nat) (w : AH), Ex M_X11_as lv 23 (some (.ref x) :: t) st w = Ex M_X11_as lv 24 (some (.ref x) :: t) (.ref x :: st) w)
  ∧ (∀ (lv : Nat) (st : List Value) (t : LX) (w : AH), Ex M_X11_as lv 23 (some (.null) :: t) st w = Ex M_X11_as lv 24 (some (.null) :: t) (.null :: st) w)
  ∧ (∀ (lv : Nat) (l : LX) (st : List Value) (w : AH), Ex M_X11_as lv 24 l st w = Ex M_X11_as lv 26 l (.int (-1000000001) :: st) w)
  ∧ (∀ (lv : Nat) (l : LX) (b : Nat) (a0 : Int32) (w : AH), Ex M_X11_as lv 26 l (.int a0 :: .ref b :: []) w = if clK (hg w b) = 10 then (if (Call M_X11_refuse 60 [.ref b, .int a0] w).isSome = true then Ex M_X11_as lv 29 l (pushR (cV (Call M_X11_refuse 60 [.ref b, .int a0] w)) []) (cW (Call M_X11_refuse 60 [.ref b, .int a0] w) w) else none) else none)
  ∧ (∀ (lv : Nat) (l : LX) (x : Int32) (w : AH), Ex M_X11_as lv 29 l [.int x] w = some (some (.int x), w))
  ∧ (∀ (lv : Nat) (st : List Value) (t : LX) (o0 o1 o2 : Option Value) (x : Nat) (w : AH), Ex M_X11_as lv 30 (o0 :: o1 :: o2 :: some (.ref x) :: t) st w = Ex M_X11_as lv 31 (o0 :: o1 :: o2 :: some (.ref x) :: t) (.ref x :: st) w)
  ∧ (∀ (lv : Nat) (st : List Value) (t : LX) (o0 o1 o2 : Option Value) (w : AH), Ex M_X11_as lv 30 (o0 :: o1 :: o2 :: some (.null) :: t) st w = Ex M_X11_as lv 31 (o0 :: o1 :: o2 :: some (.null) :: t) (.null :: st) w)
  ∧ (∀ (lv : Nat) (st : List Value) (t : LX) (o0 o1 : Option Value) (x : Int32) (w : AH), Ex M_X11_as lv 31 (o0 :: o1 :: some (.int x) :: t) st w = Ex M_X11_as lv 32 (o0 :: o1 :: some (.int x) :: t) (.int x :: st) w)
  ∧ (∀ (lv : Nat) (l : LX) (b : Nat) (a0 : Int32) (w : AH), Ex M_X11_as lv 32 l (.int a0 :: .ref b :: []) w = if clK (hg w b) = 9 then (if (Call M_X10_isOf 60 [.ref b, .int a0] w).isSome = true then Ex M_X11_as lv 35 l (pushR (cV (Call M_X10_isOf 60 [.ref b, .int a0] w)) []) (cW (Call M_X10_isOf 60 [.ref b, .int a0] w) w) else none) else none)
  ∧ (∀ (lv : Nat) (l : LX) (st : List Value) (x : Int32) (w : AH), Ex M_X11_as lv 35 l (.int x :: st) w = if x = 0 then Ex M_X11_as lv 45 l st w else Ex M_X11_as lv 38 l st w)
  ∧ (∀ (lv : Nat) (st : List Value) (t : LX) (o0 o1 o2 : Option Value) (x : Nat) (w : AH), Ex M_X11_as lv 38 (o0 :: o1 :: o2 :: some (.ref x) :: t) st w = Ex M_X11_as lv 39 (o0 :: o1 :: o2 :: some (.ref x) :: t) (.ref x :: st) w)
  ∧ (∀ (lv : Nat) (st : List Value) (t : LX) (o0 o1 o2 : Option Value) (w : AH), Ex M_X11_as lv 38 (o0 :: o1 :: o2 :: some (.null) :: t) st w = Ex M_X11_as lv 39 (o0 :: o1 :: o2 :: some (.null) :: t) (.null :: st) w)
  ∧ (∀ (lv : Nat) (l : LX) (st : List Value) (a : Nat) (w : AH), Ex M_X11_as lv 39 l (.ref a :: st) w = if (gf (hg w a) 9 1).isSome = true then Ex M_X11_as lv 42 l (vV (gf (hg w a) 9 1) :: st) w else none)
  ∧ (∀ (lv : Nat) (l : LX) (st : List Value) (w : AH), Ex M_X11_as lv 42 l st w = Ex M_X11_as lv 51 l st w)
  ∧ (∀ (lv : Nat) (st : List Value) (t : LX) (x : Nat) (w : AH), Ex M_X11_as lv 45 (some (.ref x) :: t) st w = Ex M_X11_as lv 46 (some (.ref x) :: t) (.ref x :: st) w)
  ∧ (∀ (lv : Nat) (st : List Value) (t : LX) (w : AH), Ex M_X11_as lv 45 (some (.null) :: t) st w = Ex M_X11_as lv 46 (some (.null) :: t) (.null :: st) w)
  ∧ (∀ (lv : Nat) (l : LX) (st : List Value) (w : AH), Ex M_X11_as lv 46 l st w = Ex M_X11_as lv 48 l (.int (-1000000005) :: st) w)
  ∧ (∀ (lv : Nat) (l : LX) (b : Nat) (a0 : Int32) (w : AH), Ex M_X11_as lv 48 l (.int a0 :: .ref b :: []) w = if clK (hg w b) = 10 then (if (Call M_X11_refuse 60 [.ref b, .int a0] w).isSome = true then Ex M_X11_as lv 51 l (pushR (cV (Call M_X11_refuse 60 [.ref b, .int a0] w)) []) (cW (Call M_X11_refuse 60 [.ref b, .int a0] w) w) else none) else none)
  ∧ (∀ (lv : Nat) (l : LX) (x : Int32) (w : AH), Ex M_X11_as lv 51 l [.int x] w = some (some (.int x), w)) :=
  ⟨(fun lv st t x w => Ex_M (i := .aload_n 0) (n := 1) (by decide +kernel) rfl rfl rfl),
   (fun lv st t w => Ex_M (i := .aload_n 0) (n := 1) (by decide +kernel) rfl rfl rfl),
   (fun lv l st a w => Ex_getf (by decide +kernel : decode M_X11_as.2.1 1 = .ok (.getfield 12, 3)) rfl (by decide +kernel : resF (mCn M_X11_as) 12 = some (10, 0, (.object "CarpetLands$Country"), true))),
   (fun lv st t o0 x w => Ex_M (i := .iload_n 1) (n := 1) (by decide +kernel) rfl rfl rfl),
   (fun lv l b a0 w => Ex_callV (by decide +kernel : decode M_X11_as.2.1 5 = .ok (.invokevirtual 133, 3)) rfl (by rfl : resM (mCn M_X11_as) 133 = some (2, M_X1_walkerOf)) rfl (by rfl) (Nat.le_of_ble_eq_true rfl) (by decide +kernel) (sLv_lt (by decide +kernel))),
   (fun lv l st x w => Ex_M (i := .astore_n 3) (n := 1) (by decide +kernel) rfl rfl rfl),
   (fun lv l st w => Ex_M (i := .astore_n 3) (n := 1) (by decide +kernel) rfl rfl rfl),
   (fun lv st t o0 o1 o2 x w => Ex_M (i := .aload_n 3) (n := 1) (by decide +kernel) rfl rfl rfl),
   (fun lv st t o0 o1 o2 w => Ex_M (i := .aload_n 3) (n := 1) (by decide +kernel) rfl rfl rfl),
   (fun lv l st x w => Ex_ifnull_r (by decide +kernel : decode M_X11_as.2.1 10 = .ok (.ifnull 13, 3)) rfl),
   (fun lv l st w => Ex_ifnull_n (by decide +kernel : decode M_X11_as.2.1 10 = .ok (.ifnull 13, 3)) rfl),
   (fun lv st t o0 o1 x w => Ex_M (i := .iload_n 2) (n := 1) (by decide +kernel) rfl rfl rfl),
   (fun lv l st w => Ex_A (i := .iconst 0) (n := 1) (by decide +kernel) rfl rfl),
   (fun lv l st w => Ex_A (i := .bipush 6) (n := 2) (by decide +kernel) rfl rfl),
   (fun lv l a0 a1 a2 w => Ex_callS (by decide +kernel : decode M_X11_as.2.1 17 = .ok (.invokestatic 69, 3)) rfl (by rfl : resM (mCn M_X11_as) 69 = some (0, M_X11_isWithin)) (by decide) rfl (by rfl) (Nat.le_of_ble_eq_true rfl) (sLv_lt (by decide +kernel))),
   (fun lv l st x w => Ex_if_ne (by decide +kernel : decode M_X11_as.2.1 20 = .ok (.ifCond .ne 10, 3)) rfl rfl),
   (fun lv st t x w => Ex_M (i := .aload_n 0) (n := 1) (by decide +kernel) rfl rfl rfl),
   (fun lv st t w => Ex_M (i := .aload_n 0) (n := 1) (by decide +kernel) rfl rfl rfl),
   (fun lv l st w => Ex_ldcI (by decide +kernel : decode M_X11_as.2.1 24 = .ok (.ldc 73, 2)) rfl (by decide +kernel)),
   (fun lv l b a0 w => Ex_callV (by decide +kernel : decode M_X11_as.2.1 26 = .ok (.invokevirtual 74, 3)) rfl (by rfl : resM (mCn M_X11_as) 74 = some (2, M_X11_refuse)) rfl (by rfl) (Nat.le_of_ble_eq_true rfl) (by decide +kernel) (sLv_lt (by decide +kernel))),
   (fun lv l x w => Ex_R (i := .ireturn) (n := 1) (by decide +kernel) rfl rfl rfl rfl rfl),
   (fun lv st t o0 o1 o2 x w => Ex_M (i := .aload_n 3) (n := 1) (by decide +kernel) rfl rfl rfl),
   (fun lv st t o0 o1 o2 w => Ex_M (i := .aload_n 3) (n := 1) (by decide +kernel) rfl rfl rfl),
   (fun lv st t o0 o1 x w => Ex_M (i := .iload_n 2) (n := 1) (by decide +kernel) rfl rfl rfl),
   (fun lv l b a0 w => Ex_callV (by decide +kernel : decode M_X11_as.2.1 32 = .ok (.invokevirtual 158, 3)) rfl (by rfl : resM (mCn M_X11_as) 158 = some (2, M_X10_isOf)) rfl (by rfl) (Nat.le_of_ble_eq_true rfl) (by decide +kernel) (sLv_lt (by decide +kernel))),
   (fun lv l st x w => Ex_if_eq (by decide +kernel : decode M_X11_as.2.1 35 = .ok (.ifCond .eq 10, 3)) rfl rfl),
   (fun lv st t o0 o1 o2 x w => Ex_M (i := .aload_n 3) (n := 1) (by decide +kernel) rfl rfl rfl),
   (fun lv st t o0 o1 o2 w => Ex_M (i := .aload_n 3) (n := 1) (by decide +kernel) rfl rfl rfl),
   (fun lv l st a w => Ex_getf (by decide +kernel : decode M_X11_as.2.1 39 = .ok (.getfield 142, 3)) rfl (by decide +kernel : resF (mCn M_X11_as) 142 = some (9, 1, .int, false))),
   (fun lv l st w => Ex_goto (by decide +kernel : decode M_X11_as.2.1 42 = .ok (.goto 9, 3)) rfl),
   (fun lv st t x w => Ex_M (i := .aload_n 0) (n := 1) (by decide +kernel) rfl rfl rfl),
   (fun lv st t w => Ex_M (i := .aload_n 0) (n := 1) (by decide +kernel) rfl rfl rfl),
   (fun lv l st w => Ex_ldcI (by decide +kernel : decode M_X11_as.2.1 46 = .ok (.ldc 161, 2)) rfl (by decide +kernel)),
   (fun lv l b a0 w => Ex_callV (by decide +kernel : decode M_X11_as.2.1 48 = .ok (.invokevirtual 74, 3)) rfl (by rfl : resM (mCn M_X11_as) 74 = some (2, M_X11_refuse)) rfl (by rfl) (Nat.le_of_ble_eq_true rfl) (by decide +kernel) (sLv_lt (by decide +kernel))),
   (fun lv l x w => Ex_R (i := .ireturn) (n := 1) (by decide +kernel) rfl rfl rfl rfl rfl)⟩
set_option maxRecDepth 20000 in
theorem H_X11_feed_44 : ∀ (lv : Nat) (st : List Value) (t : LX) (o0 o1 o2 o3 : Option Value) (x : Int32) (w : AH), Ex M_X11_feed lv 44 (o0 :: o1 :: o2 :: o3 :: some (.int x) :: t) st w = Ex M_X11_feed lv 46 (o0 :: o1 :: o2 :: o3 :: some (.int x) :: t) (.int x :: st) w := fun lv st t o0 o1 o2 o3 x w => Ex_M (i := .iload 4) (n := 2) (by decide +kernel) rfl rfl rfl
set_option maxRecDepth 20000 in
set_option maxHeartbeats 4000000 in
theorem R_X11_feed : (∀ (lv : Nat) (st : List Value) (t : LX) (o0 o1 o2 : Option Value) (x : Int32) (w : AH), Ex M_X11_feed lv 0 (o0 :: o1 :: o2 :: some (.int x) :: t) st w = Ex M_X11_feed lv 1 (o0 :: o1 :: o2 :: some (.int x) :: t) (.int x :: st) w)
  ∧ (∀ (lv : Nat) (l : LX) (st : List Value) (w : AH), Ex M_X11_feed lv 1 l st w = Ex M_X11_feed lv 2 l (.int 1 :: st) w)
  ∧ (∀ (lv : Nat) (l : LX) (st : List Value) (w : AH), Ex M_X11_feed lv 2 l st w = Ex M_X11_feed lv 4 l (.int 8 :: st) w)
  ∧ (∀ (lv : Nat) (l : LX) (a0 : Int32) (a1 : Int32) (a2 : Int32) (w : AH), Ex M_X11_feed lv 4 l (.int a2 :: .int a1 :: .int a0 :: []) w = if (Call M_X11_isWithin 60 [.int a0, .int a1, .int a2] w).isSome = true then Ex M_X11_feed lv 7 l (pushR (cV (Call M_X11_isWithin 60 [.int a0, .int a1, .int a2] w)) []) (cW (Call M_X11_isWithin 60 [.int a0, .int a1, .int a2] w) w) else none)
  ∧ (∀ (lv : Nat) (l : LX) (st : List Value) (x : Int32) (w : AH), Ex M_X11_feed lv 7 l (.int x :: st) w = if ¬ x = 0 then Ex M_X11_feed lv 17 l st w else Ex M_X11_feed lv 10 l st w)
  ∧ (∀ (lv : Nat) (st : List Value) (t : LX) (x : Nat) (w : AH), Ex M_X11_feed lv 10 (some (.ref x) :: t) st w = Ex M_X11_feed lv 11 (some (.ref x) :: t) (.ref x :: st) w)
  ∧ (∀ (lv : Nat) (st : List Value) (t : LX) (w : AH), Ex M_X11_feed lv 10 (some (.null) :: t) st w = Ex M_X11_feed lv 11 (some (.null) :: t) (.null :: st) w)
  ∧ (∀ (lv : Nat) (l : LX) (st : List Value) (w : AH), Ex M_X11_feed lv 11 l st w = Ex M_X11_feed lv 13 l (.int (-1000000001) :: st) w)
  ∧ (∀ (lv : Nat) (l : LX) (b : Nat) (a0 : Int32) (w : AH), Ex M_X11_feed lv 13 l (.int a0 :: .ref b :: []) w = if clK (hg w b) = 10 then (if (Call M_X11_refuse 60 [.ref b, .int a0] w).isSome = true then Ex M_X11_feed lv 16 l (pushR (cV (Call M_X11_refuse 60 [.ref b, .int a0] w)) []) (cW (Call M_X11_refuse 60 [.ref b, .int a0] w) w) else none) else none)
  ∧ (∀ (lv : Nat) (l : LX) (x : Int32) (w : AH), Ex M_X11_feed lv 16 l [.int x] w = some (some (.int x), w))
  ∧ (∀ (lv : Nat) (st : List Value) (t : LX) (x : Nat) (w : AH), Ex M_X11_feed lv 17 (some (.ref x) :: t) st w = Ex M_X11_feed lv 18 (some (.ref x) :: t) (.ref x :: st) w)
  ∧ (∀ (lv : Nat) (st : List Value) (t : LX) (w : AH), Ex M_X11_feed lv 17 (some (.null) :: t) st w = Ex M_X11_feed lv 18 (some (.null) :: t) (.null :: st) w)
  ∧ (∀ (lv : Nat) (l : LX) (st : List Value) (a : Nat) (w : AH), Ex M_X11_feed lv 18 l (.ref a :: st) w = if (gf (hg w a) 10 0).isSome = true then Ex M_X11_feed lv 21 l (vV (gf (hg w a) 10 0) :: st) w else none)
  ∧ (∀ (lv : Nat) (l : LX) (st : List Value) (a : Nat) (w : AH), Ex M_X11_feed lv 21 l (.ref a :: st) w = if (gf (hg w a) 1 4).isSome = true then Ex M_X11_feed lv 24 l (vV (gf (hg w a) 1 4) :: st) w else none)
  ∧ (∀ (lv : Nat) (l : LX) (st : List Value) (a : Nat) (w : AH), Ex M_X11_feed lv 24 l (.ref a :: st) w = if (gf (hg w a) 6 1).isSome = true then Ex M_X11_feed lv 27 l (vV (gf (hg w a) 6 1) :: st) w else none)
  ∧ (∀ (lv : Nat) (l : LX) (st : List Value) (w : AH), Ex M_X11_feed lv 27 l st w = Ex M_X11_feed lv 29 l (.int 50 :: st) w)
  ∧ (∀ (lv : Nat) (st : List Value) (t : LX) (o0 o1 o2 : Option Value) (x : Int32) (w : AH), Ex M_X11_feed lv 29 (o0 :: o1 :: o2 :: some (.int x) :: t) st w = Ex M_X11_feed lv 30 (o0 :: o1 :: o2 :: some (.int x) :: t) (.int x :: st) w)
  ∧ (∀ (lv : Nat) (l : LX) (st : List Value) (x y : Int32) (w : AH), Ex M_X11_feed lv 30 l (.int y :: .int x :: st) w = Ex M_X11_feed lv 31 l (.int (x - y) :: st) w)
  ∧ (∀ (lv : Nat) (l : LX) (st : List Value) (x y : Int32) (w : AH), Ex M_X11_feed lv 31 l (.int y :: .int x :: st) w = if x ≤ y then Ex M_X11_feed lv 41 l st w else Ex M_X11_feed lv 34 l st w)
  ∧ (∀ (lv : Nat) (st : List Value) (t : LX) (x : Nat) (w : AH), Ex M_X11_feed lv 34 (some (.ref x) :: t) st w = Ex M_X11_feed lv 35 (some (.ref x) :: t) (.ref x :: st) w)
  ∧ (∀ (lv : Nat) (st : List Value) (t : LX) (w : AH), Ex M_X11_feed lv 34 (some (.null) :: t) st w = Ex M_X11_feed lv 35 (some (.null) :: t) (.null :: st) w)
  ∧ (∀ (lv : Nat) (l : LX) (st : List Value) (w : AH), Ex M_X11_feed lv 35 l st w = Ex M_X11_feed lv 37 l (.int (-1000000004) :: st) w)
  ∧ (∀ (lv : Nat) (l : LX) (b : Nat) (a0 : Int32) (w : AH), Ex M_X11_feed lv 37 l (.int a0 :: .ref b :: []) w = if clK (hg w b) = 10 then (if (Call M_X11_refuse 60 [.ref b, .int a0] w).isSome = true then Ex M_X11_feed lv 40 l (pushR (cV (Call M_X11_refuse 60 [.ref b, .int a0] w)) []) (cW (Call M_X11_refuse 60 [.ref b, .int a0] w) w) else none) else none)
  ∧ (∀ (lv : Nat) (l : LX) (x : Int32) (w : AH), Ex M_X11_feed lv 40 l [.int x] w = some (some (.int x), w))
  ∧ (∀ (lv : Nat) (l : LX) (st : List Value) (w : AH), Ex M_X11_feed lv 41 l st w = Ex M_X11_feed lv 42 l (.int 0 :: st) w)
  ∧ (∀ (lv : Nat) (l : LX) (st : List Value) (x : Int32) (w : AH), Ex M_X11_feed lv 42 l (.int x :: st) w = Ex M_X11_feed lv 44 (ls1 l 4 (.int x)) st w)
  ∧ (∀ (lv : Nat) (st : List Value) (t : LX) (o0 o1 o2 : Option Value) (x : Int32) (w : AH), Ex M_X11_feed lv 46 (o0 :: o1 :: o2 :: some (.int x) :: t) st w = Ex M_X11_feed lv 47 (o0 :: o1 :: o2 :: some (.int x) :: t) (.int x :: st) w)
  ∧ (∀ (lv : Nat) (l : LX) (st : List Value) (x y : Int32) (w : AH), Ex M_X11_feed lv 47 l (.int y :: .int x :: st) w = if y ≤ x then Ex M_X11_feed lv 79 l st w else Ex M_X11_feed lv 50 l st w)
  ∧ (∀ (lv : Nat) (st : List Value) (t : LX) (x : Nat) (w : AH), Ex M_X11_feed lv 50 (some (.ref x) :: t) st w = Ex M_X11_feed lv 51 (some (.ref x) :: t) (.ref x :: st) w)
  ∧ (∀ (lv : Nat) (st : List Value) (t : LX) (w : AH), Ex M_X11_feed lv 50 (some (.null) :: t) st w = Ex M_X11_feed lv 51 (some (.null) :: t) (.null :: st) w)
  ∧ (∀ (lv : Nat) (l : LX) (st : List Value) (a : Nat) (w : AH), Ex M_X11_feed lv 51 l (.ref a :: st) w = if (gf (hg w a) 10 0).isSome = true then Ex M_X11_feed lv 54 l (vV (gf (hg w a) 10 0) :: st) w else none)
  ∧ (∀ (lv : Nat) (l : LX) (st : List Value) (a : Nat) (w : AH), Ex M_X11_feed lv 54 l (.ref a :: st) w = if (gf (hg w a) 1 4).isSome = true then Ex M_X11_feed lv 57 l (vV (gf (hg w a) 1 4) :: st) w else none)
  ∧ (∀ (lv : Nat) (st : List Value) (t : LX) (o0 : Option Value) (x : Int64) (w : AH), Ex M_X11_feed lv 57 (o0 :: some (.long x) :: t) st w = Ex M_X11_feed lv 58 (o0 :: some (.long x) :: t) (.long x :: st) w)
  ∧ (∀ (lv : Nat) (l : LX) (st : List Value) (w : AH), Ex M_X11_feed lv 58 l st w = Ex M_X11_feed lv 60 l (.int 8 :: st) w)
  ∧ (∀ (lv : Nat) (st : List Value) (t : LX) (o0 o1 o2 o3 : Option Value) (x : Int32) (w : AH), Ex M_X11_feed lv 60 (o0 :: o1 :: o2 :: o3 :: some (.int x) :: t) st w = Ex M_X11_feed lv 62 (o0 :: o1 :: o2 :: o3 :: some (.int x) :: t) (.int x :: st) w)
  ∧ (∀ (lv : Nat) (l : LX) (st : List Value) (x y : Int32) (w : AH), Ex M_X11_feed lv 62 l (.int y :: .int x :: st) w = Ex M_X11_feed lv 63 l (.int (x * y) :: st) w)
  ∧ (∀ (lv : Nat) (l : LX) (st : List Value) (x : Int64) (y : Int32) (w : AH), Ex M_X11_feed lv 63 l (.int y :: .long x :: st) w = Ex M_X11_feed lv 64 l (.long ((x.toUInt64 >>> (y.toInt64.toUInt64 &&& Int64.toUInt64 63)).toInt64) :: st) w)
  ∧ (∀ (lv : Nat) (l : LX) (st : List Value) (x : Int64) (w : AH), Ex M_X11_feed lv 64 l (.long x :: st) w = Ex M_X11_feed lv 65 l (.int x.toInt32 :: st) w)
  ∧ (∀ (lv : Nat) (l : LX) (st : List Value) (w : AH), Ex M_X11_feed lv 65 l st w = Ex M_X11_feed lv 68 l (.int 255 :: st) w)
  ∧ (∀ (lv : Nat) (l : LX) (st : List Value) (x y : Int32) (w : AH), Ex M_X11_feed lv 68 l (.int y :: .int x :: st) w = Ex M_X11_feed lv 69 l (.int (x &&& y) :: st) w)
  ∧ (∀ (lv : Nat) (l : LX) (b : Nat) (a0 : Int32) (w : AH), Ex M_X11_feed lv 69 l (.int a0 :: .ref b :: []) w = if clK (hg w b) = 6 then (if (Call M_X6_add 60 [.ref b, .int a0] w).isSome = true then Ex M_X11_feed lv 72 l (pushR (cV (Call M_X6_add 60 [.ref b, .int a0] w)) []) (cW (Call M_X6_add 60 [.ref b, .int a0] w) w) else none) else none)
  ∧ (∀ (lv : Nat) (l : LX) (st : List Value) (x : Int32) (w : AH), Ex M_X11_feed lv 72 l (.int x :: st) w = Ex M_X11_feed lv 73 l st w)
  ∧ (∀ (lv : Nat) (st : List Value) (t : LX) (o0 o1 o2 o3 : Option Value) (x : Int32) (w : AH), Ex M_X11_feed lv 73 (o0 :: o1 :: o2 :: o3 :: some (.int x) :: t) st w = Ex M_X11_feed lv 76 (ls1 (o0 :: o1 :: o2 :: o3 :: some (.int x) :: t) 4 (.int (x + 1))) st w)
  ∧ (∀ (lv : Nat) (l : LX) (st : List Value) (w : AH), Ex M_X11_feed lv 76 l st w = Ex M_X11_feed lv 44 l st w)
  ∧ (∀ (lv : Nat) (st : List Value) (t : LX) (x : Nat) (w : AH), Ex M_X11_feed lv 79 (some (.ref x) :: t) st w = Ex M_X11_feed lv 80 (some (.ref x) :: t) (.ref x :: st) w)
  ∧ (∀ (lv : Nat) (st : List Value) (t : LX) (w : AH), Ex M_X11_feed lv 79 (some (.null) :: t) st w = Ex M_X11_feed lv 80 (some (.null) :: t) (.null :: st) w)
  ∧ (∀ (lv : Nat) (l : LX) (st : List Value) (a : Nat) (w : AH), Ex M_X11_feed lv 80 l (.ref a :: st) w = if (gf (hg w a) 10 0).isSome = true then Ex M_X11_feed lv 83 l (vV (gf (hg w a) 10 0) :: st) w else none)
  ∧ (∀ (lv : Nat) (l : LX) (st : List Value) (a : Nat) (w : AH), Ex M_X11_feed lv 83 l (.ref a :: st) w = if (gf (hg w a) 1 4).isSome = true then Ex M_X11_feed lv 86 l (vV (gf (hg w a) 1 4) :: st) w else none)
  ∧ (∀ (lv : Nat) (l : LX) (st : List Value) (a : Nat) (w : AH), Ex M_X11_feed lv 86 l (.ref a :: st) w = if (gf (hg w a) 6 1).isSome = true then Ex M_X11_feed lv 89 l (vV (gf (hg w a) 6 1) :: st) w else none)
  ∧ (∀ (lv : Nat) (l : LX) (x : Int32) (w : AH), Ex M_X11_feed lv 89 l [.int x] w = some (some (.int x), w)) :=
  ⟨(fun lv st t o0 o1 o2 x w => Ex_M (i := .iload_n 3) (n := 1) (by decide +kernel) rfl rfl rfl),
   (fun lv l st w => Ex_A (i := .iconst 1) (n := 1) (by decide +kernel) rfl rfl),
   (fun lv l st w => Ex_A (i := .bipush 8) (n := 2) (by decide +kernel) rfl rfl),
   (fun lv l a0 a1 a2 w => Ex_callS (by decide +kernel : decode M_X11_feed.2.1 4 = .ok (.invokestatic 69, 3)) rfl (by rfl : resM (mCn M_X11_feed) 69 = some (0, M_X11_isWithin)) (by decide) rfl (by rfl) (Nat.le_of_ble_eq_true rfl) (sLv_lt (by decide +kernel))),
   (fun lv l st x w => Ex_if_ne (by decide +kernel : decode M_X11_feed.2.1 7 = .ok (.ifCond .ne 10, 3)) rfl rfl),
   (fun lv st t x w => Ex_M (i := .aload_n 0) (n := 1) (by decide +kernel) rfl rfl rfl),
   (fun lv st t w => Ex_M (i := .aload_n 0) (n := 1) (by decide +kernel) rfl rfl rfl),
   (fun lv l st w => Ex_ldcI (by decide +kernel : decode M_X11_feed.2.1 11 = .ok (.ldc 73, 2)) rfl (by decide +kernel)),
   (fun lv l b a0 w => Ex_callV (by decide +kernel : decode M_X11_feed.2.1 13 = .ok (.invokevirtual 74, 3)) rfl (by rfl : resM (mCn M_X11_feed) 74 = some (2, M_X11_refuse)) rfl (by rfl) (Nat.le_of_ble_eq_true rfl) (by decide +kernel) (sLv_lt (by decide +kernel))),
   (fun lv l x w => Ex_R (i := .ireturn) (n := 1) (by decide +kernel) rfl rfl rfl rfl rfl),
   (fun lv st t x w => Ex_M (i := .aload_n 0) (n := 1) (by decide +kernel) rfl rfl rfl),
   (fun lv st t w => Ex_M (i := .aload_n 0) (n := 1) (by decide +kernel) rfl rfl rfl),
   (fun lv l st a w => Ex_getf (by decide +kernel : decode M_X11_feed.2.1 18 = .ok (.getfield 12, 3)) rfl (by decide +kernel : resF (mCn M_X11_feed) 12 = some (10, 0, (.object "CarpetLands$Country"), true))),
   (fun lv l st a w => Ex_getf (by decide +kernel : decode M_X11_feed.2.1 21 = .ok (.getfield 162, 3)) rfl (by decide +kernel : resF (mCn M_X11_feed) 162 = some (1, 4, (.object "CarpetLands$Row"), true))),
   (fun lv l st a w => Ex_getf (by decide +kernel : decode M_X11_feed.2.1 24 = .ok (.getfield 166, 3)) rfl (by decide +kernel : resF (mCn M_X11_feed) 166 = some (6, 1, .int, false))),
   (fun lv l st w => Ex_A (i := .bipush 50) (n := 2) (by decide +kernel) rfl rfl),
   (fun lv st t o0 o1 o2 x w => Ex_M (i := .iload_n 3) (n := 1) (by decide +kernel) rfl rfl rfl),
   (fun lv l st x y w => Ex_A (i := .isub) (n := 1) (by decide +kernel) rfl rfl),
   (fun lv l st x y w => Ex_icmp_le (by decide +kernel : decode M_X11_feed.2.1 31 = .ok (.if_icmp .le 10, 3)) rfl rfl),
   (fun lv st t x w => Ex_M (i := .aload_n 0) (n := 1) (by decide +kernel) rfl rfl rfl),
   (fun lv st t w => Ex_M (i := .aload_n 0) (n := 1) (by decide +kernel) rfl rfl rfl),
   (fun lv l st w => Ex_ldcI (by decide +kernel : decode M_X11_feed.2.1 35 = .ok (.ldc 132, 2)) rfl (by decide +kernel)),
   (fun lv l b a0 w => Ex_callV (by decide +kernel : decode M_X11_feed.2.1 37 = .ok (.invokevirtual 74, 3)) rfl (by rfl : resM (mCn M_X11_feed) 74 = some (2, M_X11_refuse)) rfl (by rfl) (Nat.le_of_ble_eq_true rfl) (by decide +kernel) (sLv_lt (by decide +kernel))),
   (fun lv l x w => Ex_R (i := .ireturn) (n := 1) (by decide +kernel) rfl rfl rfl rfl rfl),
   (fun lv l st w => Ex_A (i := .iconst 0) (n := 1) (by decide +kernel) rfl rfl),
   (fun lv l st x w => Ex_M (i := .istore 4) (n := 2) (by decide +kernel) rfl rfl rfl),
   (fun lv st t o0 o1 o2 x w => Ex_M (i := .iload_n 3) (n := 1) (by decide +kernel) rfl rfl rfl),
   (fun lv l st x y w => Ex_icmp_ge (by decide +kernel : decode M_X11_feed.2.1 47 = .ok (.if_icmp .ge 32, 3)) rfl rfl),
   (fun lv st t x w => Ex_M (i := .aload_n 0) (n := 1) (by decide +kernel) rfl rfl rfl),
   (fun lv st t w => Ex_M (i := .aload_n 0) (n := 1) (by decide +kernel) rfl rfl rfl),
   (fun lv l st a w => Ex_getf (by decide +kernel : decode M_X11_feed.2.1 51 = .ok (.getfield 12, 3)) rfl (by decide +kernel : resF (mCn M_X11_feed) 12 = some (10, 0, (.object "CarpetLands$Country"), true))),
   (fun lv l st a w => Ex_getf (by decide +kernel : decode M_X11_feed.2.1 54 = .ok (.getfield 162, 3)) rfl (by decide +kernel : resF (mCn M_X11_feed) 162 = some (1, 4, (.object "CarpetLands$Row"), true))),
   (fun lv st t o0 x w => Ex_M (i := .lload_n 1) (n := 1) (by decide +kernel) rfl rfl rfl),
   (fun lv l st w => Ex_A (i := .bipush 8) (n := 2) (by decide +kernel) rfl rfl),
   (fun lv st t o0 o1 o2 o3 x w => Ex_M (i := .iload 4) (n := 2) (by decide +kernel) rfl rfl rfl),
   (fun lv l st x y w => Ex_A (i := .imul) (n := 1) (by decide +kernel) rfl rfl),
   (fun lv l st x y w => Ex_A (i := .lushr) (n := 1) (by decide +kernel) rfl rfl),
   (fun lv l st x w => Ex_A (i := .l2i) (n := 1) (by decide +kernel) rfl rfl),
   (fun lv l st w => Ex_A (i := .sipush 255) (n := 3) (by decide +kernel) rfl rfl),
   (fun lv l st x y w => Ex_A (i := .iand) (n := 1) (by decide +kernel) rfl rfl),
   (fun lv l b a0 w => Ex_callV (by decide +kernel : decode M_X11_feed.2.1 69 = .ok (.invokevirtual 171, 3)) rfl (by rfl : resM (mCn M_X11_feed) 171 = some (2, M_X6_add)) rfl (by rfl) (Nat.le_of_ble_eq_true rfl) (by decide +kernel) (sLv_lt (by decide +kernel))),
   (fun lv l st x w => Ex_A (i := .pop) (n := 1) (by decide +kernel) rfl rfl),
   (fun lv st t o0 o1 o2 o3 x w => Ex_iinc (by decide +kernel : decode M_X11_feed.2.1 73 = .ok (.iinc 4 1, 3)) rfl rfl (by decide) (by decide)),
   (fun lv l st w => Ex_goto (by decide +kernel : decode M_X11_feed.2.1 76 = .ok (.goto (-32), 3)) rfl),
   (fun lv st t x w => Ex_M (i := .aload_n 0) (n := 1) (by decide +kernel) rfl rfl rfl),
   (fun lv st t w => Ex_M (i := .aload_n 0) (n := 1) (by decide +kernel) rfl rfl rfl),
   (fun lv l st a w => Ex_getf (by decide +kernel : decode M_X11_feed.2.1 80 = .ok (.getfield 12, 3)) rfl (by decide +kernel : resF (mCn M_X11_feed) 12 = some (10, 0, (.object "CarpetLands$Country"), true))),
   (fun lv l st a w => Ex_getf (by decide +kernel : decode M_X11_feed.2.1 83 = .ok (.getfield 162, 3)) rfl (by decide +kernel : resF (mCn M_X11_feed) 162 = some (1, 4, (.object "CarpetLands$Row"), true))),
   (fun lv l st a w => Ex_getf (by decide +kernel : decode M_X11_feed.2.1 86 = .ok (.getfield 166, 3)) rfl (by decide +kernel : resF (mCn M_X11_feed) 166 = some (6, 1, .int, false))),
   (fun lv l x w => Ex_R (i := .ireturn) (n := 1) (by decide +kernel) rfl rfl rfl rfl rfl)⟩
set_option maxRecDepth 20000 in
set_option maxHeartbeats 4000000 in
theorem R_X11_text : (∀ (lv : Nat) (st : List Value) (t : LX) (o0 : Option Value) (x : Int32) (w : AH), Ex M_X11_text lv 0 (o0 :: some (.int x) :: t) st w = Ex M_X11_text lv 1 (o0 :: some (.int x) :: t) (.int x :: st) w)
  ∧ (∀ (lv : Nat) (l : LX) (a0 : Int32) (w : AH), Ex M_X11_text lv 1 l (.int a0 :: []) w = if (Call M_X11_isUse 60 [.int a0] w).isSome = true then Ex M_X11_text lv 4 l (pushR (cV (Call M_X11_isUse 60 [.int a0] w)) []) (cW (Call M_X11_isUse 60 [.int a0] w) w) else none)
  ∧ (∀ (lv : Nat) (l : LX) (st : List Value) (x : Int32) (w : AH), Ex M_X11_text lv 4 l (.int x :: st) w = if ¬ x = 0 then Ex M_X11_text lv 14 l st w else Ex M_X11_text lv 7 l st w)
  ∧ (∀ (lv : Nat) (st : List Value) (t : LX) (x : Nat) (w : AH), Ex M_X11_text lv 7 (some (.ref x) :: t) st w = Ex M_X11_text lv 8 (some (.ref x) :: t) (.ref x :: st) w)
  ∧ (∀ (lv : Nat) (st : List Value) (t : LX) (w : AH), Ex M_X11_text lv 7 (some (.null) :: t) st w = Ex M_X11_text lv 8 (some (.null) :: t) (.null :: st) w)
  ∧ (∀ (lv : Nat) (l : LX) (st : List Value) (w : AH), Ex M_X11_text lv 8 l st w = Ex M_X11_text lv 10 l (.int (-1000000001) :: st) w)
  ∧ (∀ (lv : Nat) (l : LX) (b : Nat) (a0 : Int32) (w : AH), Ex M_X11_text lv 10 l (.int a0 :: .ref b :: []) w = if clK (hg w b) = 10 then (if (Call M_X11_refuse 60 [.ref b, .int a0] w).isSome = true then Ex M_X11_text lv 13 l (pushR (cV (Call M_X11_refuse 60 [.ref b, .int a0] w)) []) (cW (Call M_X11_refuse 60 [.ref b, .int a0] w) w) else none) else none)
  ∧ (∀ (lv : Nat) (l : LX) (x : Int32) (w : AH), Ex M_X11_text lv 13 l [.int x] w = some (some (.int x), w))
  ∧ (∀ (lv : Nat) (st : List Value) (t : LX) (x : Nat) (w : AH), Ex M_X11_text lv 14 (some (.ref x) :: t) st w = Ex M_X11_text lv 15 (some (.ref x) :: t) (.ref x :: st) w)
  ∧ (∀ (lv : Nat) (st : List Value) (t : LX) (w : AH), Ex M_X11_text lv 14 (some (.null) :: t) st w = Ex M_X11_text lv 15 (some (.null) :: t) (.null :: st) w)
  ∧ (∀ (lv : Nat) (l : LX) (st : List Value) (a : Nat) (w : AH), Ex M_X11_text lv 15 l (.ref a :: st) w = if (gf (hg w a) 10 3).isSome = true then Ex M_X11_text lv 18 l (vV (gf (hg w a) 10 3) :: st) w else none)
  ∧ (∀ (lv : Nat) (st : List Value) (t : LX) (x : Nat) (w : AH), Ex M_X11_text lv 18 (some (.ref x) :: t) st w = Ex M_X11_text lv 19 (some (.ref x) :: t) (.ref x :: st) w)
  ∧ (∀ (lv : Nat) (st : List Value) (t : LX) (w : AH), Ex M_X11_text lv 18 (some (.null) :: t) st w = Ex M_X11_text lv 19 (some (.null) :: t) (.null :: st) w)
  ∧ (∀ (lv : Nat) (l : LX) (st : List Value) (a : Nat) (w : AH), Ex M_X11_text lv 19 l (.ref a :: st) w = if (gf (hg w a) 10 0).isSome = true then Ex M_X11_text lv 22 l (vV (gf (hg w a) 10 0) :: st) w else none)
  ∧ (∀ (lv : Nat) (l : LX) (st : List Value) (a : Nat) (w : AH), Ex M_X11_text lv 22 l (.ref a :: st) w = if (gf (hg w a) 1 4).isSome = true then Ex M_X11_text lv 25 l (vV (gf (hg w a) 1 4) :: st) w else none)
  ∧ (∀ (lv : Nat) (st : List Value) (t : LX) (o0 : Option Value) (x : Int32) (w : AH), Ex M_X11_text lv 25 (o0 :: some (.int x) :: t) st w = Ex M_X11_text lv 26 (o0 :: some (.int x) :: t) (.int x :: st) w)
  ∧ (∀ (lv : Nat) (l : LX) (b : Nat) (a0 : Nat) (a1 : Int32) (w : AH), Ex M_X11_text lv 26 l (.int a1 :: .ref a0 :: .ref b :: []) w = if clK (hg w b) = 4 then (if (Call M_X4_faultOf 60 [.ref b, .ref a0, .int a1] w).isSome = true then Ex M_X11_text lv 29 l (pushR (cV (Call M_X4_faultOf 60 [.ref b, .ref a0, .int a1] w)) []) (cW (Call M_X4_faultOf 60 [.ref b, .ref a0, .int a1] w) w) else none) else none)
  ∧ (∀ (lv : Nat) (l : LX) (st : List Value) (x : Int32) (w : AH), Ex M_X11_text lv 29 l (.int x :: st) w = Ex M_X11_text lv 30 (ls1 l 2 (.int x)) st w)
  ∧ (∀ (lv : Nat) (st : List Value) (t : LX) (x : Nat) (w : AH), Ex M_X11_text lv 30 (some (.ref x) :: t) st w = Ex M_X11_text lv 31 (some (.ref x) :: t) (.ref x :: st) w)
  ∧ (∀ (lv : Nat) (st : List Value) (t : LX) (w : AH), Ex M_X11_text lv 30 (some (.null) :: t) st w = Ex M_X11_text lv 31 (some (.null) :: t) (.null :: st) w)
  ∧ (∀ (lv : Nat) (l : LX) (st : List Value) (a : Nat) (w : AH), Ex M_X11_text lv 31 l (.ref a :: st) w = if (gf (hg w a) 10 0).isSome = true then Ex M_X11_text lv 34 l (vV (gf (hg w a) 10 0) :: st) w else none)
  ∧ (∀ (lv : Nat) (l : LX) (st : List Value) (a : Nat) (w : AH), Ex M_X11_text lv 34 l (.ref a :: st) w = if (gf (hg w a) 1 4).isSome = true then Ex M_X11_text lv 37 l (vV (gf (hg w a) 1 4) :: st) w else none)
  ∧ (∀ (lv : Nat) (l : LX) (b : Nat) (w : AH), Ex M_X11_text lv 37 l (.ref b :: []) w = if clK (hg w b) = 6 then (if (Call M_X6_clear 60 [.ref b] w).isSome = true then Ex M_X11_text lv 40 l (pushR (cV (Call M_X6_clear 60 [.ref b] w)) []) (cW (Call M_X6_clear 60 [.ref b] w) w) else none) else none)
  ∧ (∀ (lv : Nat) (st : List Value) (t : LX) (o0 o1 : Option Value) (x : Int32) (w : AH), Ex M_X11_text lv 40 (o0 :: o1 :: some (.int x) :: t) st w = Ex M_X11_text lv 41 (o0 :: o1 :: some (.int x) :: t) (.int x :: st) w)
  ∧ (∀ (lv : Nat) (l : LX) (st : List Value) (x : Int32) (w : AH), Ex M_X11_text lv 41 l (.int x :: st) w = if x < 0 then Ex M_X11_text lv 49 l st w else Ex M_X11_text lv 44 l st w)
  ∧ (∀ (lv : Nat) (l : LX) (st : List Value) (w : AH), Ex M_X11_text lv 44 l st w = Ex M_X11_text lv 46 l (.int (-10) :: st) w)
  ∧ (∀ (lv : Nat) (st : List Value) (t : LX) (o0 o1 : Option Value) (x : Int32) (w : AH), Ex M_X11_text lv 46 (o0 :: o1 :: some (.int x) :: t) st w = Ex M_X11_text lv 47 (o0 :: o1 :: some (.int x) :: t) (.int x :: st) w)
  ∧ (∀ (lv : Nat) (l : LX) (st : List Value) (x y : Int32) (w : AH), Ex M_X11_text lv 47 l (.int y :: .int x :: st) w = Ex M_X11_text lv 48 l (.int (x - y) :: st) w)
  ∧ (∀ (lv : Nat) (l : LX) (x : Int32) (w : AH), Ex M_X11_text lv 48 l [.int x] w = some (some (.int x), w))
  ∧ (∀ (lv : Nat) (st : List Value) (t : LX) (x : Nat) (w : AH), Ex M_X11_text lv 49 (some (.ref x) :: t) st w = Ex M_X11_text lv 50 (some (.ref x) :: t) (.ref x :: st) w)
  ∧ (∀ (lv : Nat) (st : List Value) (t : LX) (w : AH), Ex M_X11_text lv 49 (some (.null) :: t) st w = Ex M_X11_text lv 50 (some (.null) :: t) (.null :: st) w)
  ∧ (∀ (lv : Nat) (l : LX) (st : List Value) (a : Nat) (w : AH), Ex M_X11_text lv 50 l (.ref a :: st) w = if (gf (hg w a) 10 0).isSome = true then Ex M_X11_text lv 53 l (vV (gf (hg w a) 10 0) :: st) w else none)
  ∧ (∀ (lv : Nat) (st : List Value) (t : LX) (o0 : Option Value) (x : Int32) (w : AH), Ex M_X11_text lv 53 (o0 :: some (.int x) :: t) st w = Ex M_X11_text lv 54 (o0 :: some (.int x) :: t) (.int x :: st) w)
  ∧ (∀ (lv : Nat) (l : LX) (b : Nat) (a0 : Int32) (w : AH), Ex M_X11_text lv 54 l (.int a0 :: .ref b :: []) w = if clK (hg w b) = 1 then (if (Call M_X1_lawOf 60 [.ref b, .int a0] w).isSome = true then Ex M_X11_text lv 57 l (pushR (cV (Call M_X1_lawOf 60 [.ref b, .int a0] w)) []) (cW (Call M_X1_lawOf 60 [.ref b, .int a0] w) w) else none) else none)
  ∧ (∀ (lv : Nat) (st : List Value) (t : LX) (x : Nat) (w : AH), Ex M_X11_text lv 57 (some (.ref x) :: t) st w = Ex M_X11_text lv 58 (some (.ref x) :: t) (.ref x :: st) w)
  ∧ (∀ (lv : Nat) (st : List Value) (t : LX) (w : AH), Ex M_X11_text lv 57 (some (.null) :: t) st w = Ex M_X11_text lv 58 (some (.null) :: t) (.null :: st) w)
  ∧ (∀ (lv : Nat) (l : LX) (st : List Value) (a : Nat) (w : AH), Ex M_X11_text lv 58 l (.ref a :: st) w = if (gf (hg w a) 10 3).isSome = true then Ex M_X11_text lv 61 l (vV (gf (hg w a) 10 3) :: st) w else none)
  ∧ (∀ (lv : Nat) (l : LX) (st : List Value) (a : Nat) (w : AH), Ex M_X11_text lv 61 l (.ref a :: st) w = if (gf (hg w a) 4 0).isSome = true then Ex M_X11_text lv 64 l (vV (gf (hg w a) 4 0) :: st) w else none)
  ∧ (∀ (lv : Nat) (l : LX) (b : Nat) (a0 : Nat) (w : AH), Ex M_X11_text lv 64 l (.ref a0 :: .ref b :: []) w = if clK (hg w b) = 3 then (if (Call M_X3_learn 60 [.ref b, .ref a0] w).isSome = true then Ex M_X11_text lv 67 l (pushR (cV (Call M_X3_learn 60 [.ref b, .ref a0] w)) []) (cW (Call M_X3_learn 60 [.ref b, .ref a0] w) w) else none) else none)
  ∧ (∀ (lv : Nat) (l : LX) (st : List Value) (w : AH), Ex M_X11_text lv 67 l st w = Ex M_X11_text lv 68 l (.int 1 :: st) w)
  ∧ (∀ (lv : Nat) (l : LX) (x : Int32) (w : AH), Ex M_X11_text lv 68 l [.int x] w = some (some (.int x), w)) :=
  ⟨(fun lv st t o0 x w => Ex_M (i := .iload_n 1) (n := 1) (by decide +kernel) rfl rfl rfl),
   (fun lv l a0 w => Ex_callS (by decide +kernel : decode M_X11_text.2.1 1 = .ok (.invokestatic 174, 3)) rfl (by rfl : resM (mCn M_X11_text) 174 = some (0, M_X11_isUse)) (by decide) rfl (by rfl) (Nat.le_of_ble_eq_true rfl) (sLv_lt (by decide +kernel))),
   (fun lv l st x w => Ex_if_ne (by decide +kernel : decode M_X11_text.2.1 4 = .ok (.ifCond .ne 10, 3)) rfl rfl),
   (fun lv st t x w => Ex_M (i := .aload_n 0) (n := 1) (by decide +kernel) rfl rfl rfl),
   (fun lv st t w => Ex_M (i := .aload_n 0) (n := 1) (by decide +kernel) rfl rfl rfl),
   (fun lv l st w => Ex_ldcI (by decide +kernel : decode M_X11_text.2.1 8 = .ok (.ldc 73, 2)) rfl (by decide +kernel)),
   (fun lv l b a0 w => Ex_callV (by decide +kernel : decode M_X11_text.2.1 10 = .ok (.invokevirtual 74, 3)) rfl (by rfl : resM (mCn M_X11_text) 74 = some (2, M_X11_refuse)) rfl (by rfl) (Nat.le_of_ble_eq_true rfl) (by decide +kernel) (sLv_lt (by decide +kernel))),
   (fun lv l x w => Ex_R (i := .ireturn) (n := 1) (by decide +kernel) rfl rfl rfl rfl rfl),
   (fun lv st t x w => Ex_M (i := .aload_n 0) (n := 1) (by decide +kernel) rfl rfl rfl),
   (fun lv st t w => Ex_M (i := .aload_n 0) (n := 1) (by decide +kernel) rfl rfl rfl),
   (fun lv l st a w => Ex_getf (by decide +kernel : decode M_X11_text.2.1 15 = .ok (.getfield 25, 3)) rfl (by decide +kernel : resF (mCn M_X11_text) 25 = some (10, 3, (.object "CarpetLands$Reader"), true))),
   (fun lv st t x w => Ex_M (i := .aload_n 0) (n := 1) (by decide +kernel) rfl rfl rfl),
   (fun lv st t w => Ex_M (i := .aload_n 0) (n := 1) (by decide +kernel) rfl rfl rfl),
   (fun lv l st a w => Ex_getf (by decide +kernel : decode M_X11_text.2.1 19 = .ok (.getfield 12, 3)) rfl (by decide +kernel : resF (mCn M_X11_text) 12 = some (10, 0, (.object "CarpetLands$Country"), true))),
   (fun lv l st a w => Ex_getf (by decide +kernel : decode M_X11_text.2.1 22 = .ok (.getfield 162, 3)) rfl (by decide +kernel : resF (mCn M_X11_text) 162 = some (1, 4, (.object "CarpetLands$Row"), true))),
   (fun lv st t o0 x w => Ex_M (i := .iload_n 1) (n := 1) (by decide +kernel) rfl rfl rfl),
   (fun lv l b a0 a1 w => Ex_callV (by decide +kernel : decode M_X11_text.2.1 26 = .ok (.invokevirtual 177, 3)) rfl (by rfl : resM (mCn M_X11_text) 177 = some (2, M_X4_faultOf)) rfl (by rfl) (Nat.le_of_ble_eq_true rfl) (by decide +kernel) (sLv_lt (by decide +kernel))),
   (fun lv l st x w => Ex_M (i := .istore_n 2) (n := 1) (by decide +kernel) rfl rfl rfl),
   (fun lv st t x w => Ex_M (i := .aload_n 0) (n := 1) (by decide +kernel) rfl rfl rfl),
   (fun lv st t w => Ex_M (i := .aload_n 0) (n := 1) (by decide +kernel) rfl rfl rfl),
   (fun lv l st a w => Ex_getf (by decide +kernel : decode M_X11_text.2.1 31 = .ok (.getfield 12, 3)) rfl (by decide +kernel : resF (mCn M_X11_text) 12 = some (10, 0, (.object "CarpetLands$Country"), true))),
   (fun lv l st a w => Ex_getf (by decide +kernel : decode M_X11_text.2.1 34 = .ok (.getfield 162, 3)) rfl (by decide +kernel : resF (mCn M_X11_text) 162 = some (1, 4, (.object "CarpetLands$Row"), true))),
   (fun lv l b w => Ex_callV (by decide +kernel : decode M_X11_text.2.1 37 = .ok (.invokevirtual 181, 3)) rfl (by rfl : resM (mCn M_X11_text) 181 = some (2, M_X6_clear)) rfl (by rfl) (Nat.le_of_ble_eq_true rfl) (by decide +kernel) (sLv_lt (by decide +kernel))),
   (fun lv st t o0 o1 x w => Ex_M (i := .iload_n 2) (n := 1) (by decide +kernel) rfl rfl rfl),
   (fun lv l st x w => Ex_if_lt (by decide +kernel : decode M_X11_text.2.1 41 = .ok (.ifCond .lt 8, 3)) rfl rfl),
   (fun lv l st w => Ex_A (i := .bipush (-10)) (n := 2) (by decide +kernel) rfl rfl),
   (fun lv st t o0 o1 x w => Ex_M (i := .iload_n 2) (n := 1) (by decide +kernel) rfl rfl rfl),
   (fun lv l st x y w => Ex_A (i := .isub) (n := 1) (by decide +kernel) rfl rfl),
   (fun lv l x w => Ex_R (i := .ireturn) (n := 1) (by decide +kernel) rfl rfl rfl rfl rfl),
   (fun lv st t x w => Ex_M (i := .aload_n 0) (n := 1) (by decide +kernel) rfl rfl rfl),
   (fun lv st t w => Ex_M (i := .aload_n 0) (n := 1) (by decide +kernel) rfl rfl rfl),
   (fun lv l st a w => Ex_getf (by decide +kernel : decode M_X11_text.2.1 50 = .ok (.getfield 12, 3)) rfl (by decide +kernel : resF (mCn M_X11_text) 12 = some (10, 0, (.object "CarpetLands$Country"), true))),
   (fun lv st t o0 x w => Ex_M (i := .iload_n 1) (n := 1) (by decide +kernel) rfl rfl rfl),
   (fun lv l b a0 w => Ex_callV (by decide +kernel : decode M_X11_text.2.1 54 = .ok (.invokevirtual 184, 3)) rfl (by rfl : resM (mCn M_X11_text) 184 = some (2, M_X1_lawOf)) rfl (by rfl) (Nat.le_of_ble_eq_true rfl) (by decide +kernel) (sLv_lt (by decide +kernel))),
   (fun lv st t x w => Ex_M (i := .aload_n 0) (n := 1) (by decide +kernel) rfl rfl rfl),
   (fun lv st t w => Ex_M (i := .aload_n 0) (n := 1) (by decide +kernel) rfl rfl rfl),
   (fun lv l st a w => Ex_getf (by decide +kernel : decode M_X11_text.2.1 58 = .ok (.getfield 25, 3)) rfl (by decide +kernel : resF (mCn M_X11_text) 25 = some (10, 3, (.object "CarpetLands$Reader"), true))),
   (fun lv l st a w => Ex_getf (by decide +kernel : decode M_X11_text.2.1 61 = .ok (.getfield 188, 3)) rfl (by decide +kernel : resF (mCn M_X11_text) 188 = some (4, 0, (.object "CarpetLands$Row"), true))),
   (fun lv l b a0 w => Ex_callV (by decide +kernel : decode M_X11_text.2.1 64 = .ok (.invokevirtual 191, 3)) rfl (by rfl : resM (mCn M_X11_text) 191 = some (2, M_X3_learn)) rfl (by rfl) (Nat.le_of_ble_eq_true rfl) (by decide +kernel) (sLv_lt (by decide +kernel))),
   (fun lv l st w => Ex_A (i := .iconst 1) (n := 1) (by decide +kernel) rfl rfl),
   (fun lv l x w => Ex_R (i := .ireturn) (n := 1) (by decide +kernel) rfl rfl rfl rfl rfl)⟩
set_option maxRecDepth 20000 in
set_option maxHeartbeats 4000000 in
theorem R_X11_law : (∀ (lv : Nat) (st : List Value) (t : LX) (o0 : Option Value) (x : Int32) (w : AH), Ex M_X11_law lv 0 (o0 :: some (.int x) :: t) st w = Ex M_X11_law lv 1 (o0 :: some (.int x) :: t) (.int x :: st) w)
  ∧ (∀ (lv : Nat) (l : LX) (a0 : Int32) (w : AH), Ex M_X11_law lv 1 l (.int a0 :: []) w = if (Call M_X11_isUse 60 [.int a0] w).isSome = true then Ex M_X11_law lv 4 l (pushR (cV (Call M_X11_isUse 60 [.int a0] w)) []) (cW (Call M_X11_isUse 60 [.int a0] w) w) else none)
  ∧ (∀ (lv : Nat) (l : LX) (st : List Value) (x : Int32) (w : AH), Ex M_X11_law lv 4 l (.int x :: st) w = if x = 0 then Ex M_X11_law lv 22 l st w else Ex M_X11_law lv 7 l st w)
  ∧ (∀ (lv : Nat) (st : List Value) (t : LX) (x : Nat) (w : AH), Ex M_X11_law lv 7 (some (.ref x) :: t) st w = Ex M_X11_law lv 8 (some (.ref x) :: t) (.ref x :: st) w)
  ∧ (∀ (lv : Nat) (st : List Value) (t : LX) (w : AH), Ex M_X11_law lv 7 (some (.null) :: t) st w = Ex M_X11_law lv 8 (some (.null) :: t) (.null :: st) w)
  ∧ (∀ (lv : Nat) (l : LX) (st : List Value) (a : Nat) (w : AH), Ex M_X11_law lv 8 l (.ref a :: st) w = if (gf (hg w a) 10 0).isSome = true then Ex M_X11_law lv 11 l (vV (gf (hg w a) 10 0) :: st) w else none)
  ∧ (∀ (lv : Nat) (st : List Value) (t : LX) (o0 : Option Value) (x : Int32) (w : AH), Ex M_X11_law lv 11 (o0 :: some (.int x) :: t) st w = Ex M_X11_law lv 12 (o0 :: some (.int x) :: t) (.int x :: st) w)
  ∧ (∀ (lv : Nat) (st : List Value) (t : LX) (o0 o1 : Option Value) (x : Int32) (w : AH), Ex M_X11_law lv 12 (o0 :: o1 :: some (.int x) :: t) st w = Ex M_X11_law lv 13 (o0 :: o1 :: some (.int x) :: t) (.int x :: st) w)
  ∧ (∀ (lv : Nat) (st : List Value) (t : LX) (o0 o1 o2 : Option Value) (x : Int32) (w : AH), Ex M_X11_law lv 13 (o0 :: o1 :: o2 :: some (.int x) :: t) st w = Ex M_X11_law lv 14 (o0 :: o1 :: o2 :: some (.int x) :: t) (.int x :: st) w)
  ∧ (∀ (lv : Nat) (st : List Value) (t : LX) (o0 o1 o2 o3 : Option Value) (x : Int32) (w : AH), Ex M_X11_law lv 14 (o0 :: o1 :: o2 :: o3 :: some (.int x) :: t) st w = Ex M_X11_law lv 16 (o0 :: o1 :: o2 :: o3 :: some (.int x) :: t) (.int x :: st) w)
  ∧ (∀ (lv : Nat) (l : LX) (b : Nat) (a0 : Int32) (a1 : Int32) (a2 : Int32) (a3 : Int32) (w : AH), Ex M_X11_law lv 16 l (.int a3 :: .int a2 :: .int a1 :: .int a0 :: .ref b :: []) w = if clK (hg w b) = 1 then (if (Call M_X1_given 60 [.ref b, .int a0, .int a1, .int a2, .int a3] w).isSome = true then Ex M_X11_law lv 19 l (pushR (cV (Call M_X1_given 60 [.ref b, .int a0, .int a1, .int a2, .int a3] w)) []) (cW (Call M_X1_given 60 [.ref b, .int a0, .int a1, .int a2, .int a3] w) w) else none) else none)
  ∧ (∀ (lv : Nat) (l : LX) (st : List Value) (w : AH), Ex M_X11_law lv 19 l st w = Ex M_X11_law lv 28 l st w)
  ∧ (∀ (lv : Nat) (st : List Value) (t : LX) (x : Nat) (w : AH), Ex M_X11_law lv 22 (some (.ref x) :: t) st w = Ex M_X11_law lv 23 (some (.ref x) :: t) (.ref x :: st) w)
  ∧ (∀ (lv : Nat) (st : List Value) (t : LX) (w : AH), Ex M_X11_law lv 22 (some (.null) :: t) st w = Ex M_X11_law lv 23 (some (.null) :: t) (.null :: st) w)
  ∧ (∀ (lv : Nat) (l : LX) (st : List Value) (w : AH), Ex M_X11_law lv 23 l st w = Ex M_X11_law lv 25 l (.int (-1000000001) :: st) w)
  ∧ (∀ (lv : Nat) (l : LX) (b : Nat) (a0 : Int32) (w : AH), Ex M_X11_law lv 25 l (.int a0 :: .ref b :: []) w = if clK (hg w b) = 10 then (if (Call M_X11_refuse 60 [.ref b, .int a0] w).isSome = true then Ex M_X11_law lv 28 l (pushR (cV (Call M_X11_refuse 60 [.ref b, .int a0] w)) []) (cW (Call M_X11_refuse 60 [.ref b, .int a0] w) w) else none) else none)
  ∧ (∀ (lv : Nat) (l : LX) (x : Int32) (w : AH), Ex M_X11_law lv 28 l [.int x] w = some (some (.int x), w)) :=
  ⟨(fun lv st t o0 x w => Ex_M (i := .iload_n 1) (n := 1) (by decide +kernel) rfl rfl rfl),
   (fun lv l a0 w => Ex_callS (by decide +kernel : decode M_X11_law.2.1 1 = .ok (.invokestatic 174, 3)) rfl (by rfl : resM (mCn M_X11_law) 174 = some (0, M_X11_isUse)) (by decide) rfl (by rfl) (Nat.le_of_ble_eq_true rfl) (sLv_lt (by decide +kernel))),
   (fun lv l st x w => Ex_if_eq (by decide +kernel : decode M_X11_law.2.1 4 = .ok (.ifCond .eq 18, 3)) rfl rfl),
   (fun lv st t x w => Ex_M (i := .aload_n 0) (n := 1) (by decide +kernel) rfl rfl rfl),
   (fun lv st t w => Ex_M (i := .aload_n 0) (n := 1) (by decide +kernel) rfl rfl rfl),
   (fun lv l st a w => Ex_getf (by decide +kernel : decode M_X11_law.2.1 8 = .ok (.getfield 12, 3)) rfl (by decide +kernel : resF (mCn M_X11_law) 12 = some (10, 0, (.object "CarpetLands$Country"), true))),
   (fun lv st t o0 x w => Ex_M (i := .iload_n 1) (n := 1) (by decide +kernel) rfl rfl rfl),
   (fun lv st t o0 o1 x w => Ex_M (i := .iload_n 2) (n := 1) (by decide +kernel) rfl rfl rfl),
   (fun lv st t o0 o1 o2 x w => Ex_M (i := .iload_n 3) (n := 1) (by decide +kernel) rfl rfl rfl),
   (fun lv st t o0 o1 o2 o3 x w => Ex_M (i := .iload 4) (n := 2) (by decide +kernel) rfl rfl rfl),
   (fun lv l b a0 a1 a2 a3 w => Ex_callV (by decide +kernel : decode M_X11_law.2.1 16 = .ok (.invokevirtual 197, 3)) rfl (by rfl : resM (mCn M_X11_law) 197 = some (2, M_X1_given)) rfl (by rfl) (Nat.le_of_ble_eq_true rfl) (by decide +kernel) (sLv_lt (by decide +kernel))),
   (fun lv l st w => Ex_goto (by decide +kernel : decode M_X11_law.2.1 19 = .ok (.goto 9, 3)) rfl),
   (fun lv st t x w => Ex_M (i := .aload_n 0) (n := 1) (by decide +kernel) rfl rfl rfl),
   (fun lv st t w => Ex_M (i := .aload_n 0) (n := 1) (by decide +kernel) rfl rfl rfl),
   (fun lv l st w => Ex_ldcI (by decide +kernel : decode M_X11_law.2.1 23 = .ok (.ldc 73, 2)) rfl (by decide +kernel)),
   (fun lv l b a0 w => Ex_callV (by decide +kernel : decode M_X11_law.2.1 25 = .ok (.invokevirtual 74, 3)) rfl (by rfl : resM (mCn M_X11_law) 74 = some (2, M_X11_refuse)) rfl (by rfl) (Nat.le_of_ble_eq_true rfl) (by decide +kernel) (sLv_lt (by decide +kernel))),
   (fun lv l x w => Ex_R (i := .ireturn) (n := 1) (by decide +kernel) rfl rfl rfl rfl rfl)⟩
set_option maxRecDepth 20000 in
theorem H_X11_days_41 : ∀ (lv : Nat) (st : List Value) (t : LX) (o0 o1 : Option Value) (x : Int32) (w : AH), Ex M_X11_days lv 41 (o0 :: o1 :: some (.int x) :: t) st w = Ex M_X11_days lv 42 (o0 :: o1 :: some (.int x) :: t) (.int x :: st) w := fun lv st t o0 o1 x w => Ex_M (i := .iload_n 2) (n := 1) (by decide +kernel) rfl rfl rfl
set_option maxRecDepth 20000 in
set_option maxHeartbeats 4000000 in
theorem R_X11_days : (∀ (lv : Nat) (st : List Value) (t : LX) (o0 : Option Value) (x : Int32) (w : AH), Ex M_X11_days lv 0 (o0 :: some (.int x) :: t) st w = Ex M_X11_days lv 1 (o0 :: some (.int x) :: t) (.int x :: st) w)
  ∧ (∀ (lv : Nat) (l : LX) (st : List Value) (w : AH), Ex M_X11_days lv 1 l st w = Ex M_X11_days lv 2 l (.int 1 :: st) w)
  ∧ (∀ (lv : Nat) (l : LX) (st : List Value) (w : AH), Ex M_X11_days lv 2 l st w = Ex M_X11_days lv 4 l (.int 100 :: st) w)
  ∧ (∀ (lv : Nat) (l : LX) (a0 : Int32) (a1 : Int32) (a2 : Int32) (w : AH), Ex M_X11_days lv 4 l (.int a2 :: .int a1 :: .int a0 :: []) w = if (Call M_X11_isWithin 60 [.int a0, .int a1, .int a2] w).isSome = true then Ex M_X11_days lv 7 l (pushR (cV (Call M_X11_isWithin 60 [.int a0, .int a1, .int a2] w)) []) (cW (Call M_X11_isWithin 60 [.int a0, .int a1, .int a2] w) w) else none)
  ∧ (∀ (lv : Nat) (l : LX) (st : List Value) (x : Int32) (w : AH), Ex M_X11_days lv 7 l (.int x :: st) w = if ¬ x = 0 then Ex M_X11_days lv 17 l st w else Ex M_X11_days lv 10 l st w)
  ∧ (∀ (lv : Nat) (st : List Value) (t : LX) (x : Nat) (w : AH), Ex M_X11_days lv 10 (some (.ref x) :: t) st w = Ex M_X11_days lv 11 (some (.ref x) :: t) (.ref x :: st) w)
  ∧ (∀ (lv : Nat) (st : List Value) (t : LX) (w : AH), Ex M_X11_days lv 10 (some (.null) :: t) st w = Ex M_X11_days lv 11 (some (.null) :: t) (.null :: st) w)
  ∧ (∀ (lv : Nat) (l : LX) (st : List Value) (w : AH), Ex M_X11_days lv 11 l st w = Ex M_X11_days lv 13 l (.int (-1000000001) :: st) w)
  ∧ (∀ (lv : Nat) (l : LX) (b : Nat) (a0 : Int32) (w : AH), Ex M_X11_days lv 13 l (.int a0 :: .ref b :: []) w = if clK (hg w b) = 10 then (if (Call M_X11_refuse 60 [.ref b, .int a0] w).isSome = true then Ex M_X11_days lv 16 l (pushR (cV (Call M_X11_refuse 60 [.ref b, .int a0] w)) []) (cW (Call M_X11_refuse 60 [.ref b, .int a0] w) w) else none) else none)
  ∧ (∀ (lv : Nat) (l : LX) (x : Int32) (w : AH), Ex M_X11_days lv 16 l [.int x] w = some (some (.int x), w))
  ∧ (∀ (lv : Nat) (st : List Value) (t : LX) (x : Nat) (w : AH), Ex M_X11_days lv 17 (some (.ref x) :: t) st w = Ex M_X11_days lv 18 (some (.ref x) :: t) (.ref x :: st) w)
  ∧ (∀ (lv : Nat) (st : List Value) (t : LX) (w : AH), Ex M_X11_days lv 17 (some (.null) :: t) st w = Ex M_X11_days lv 18 (some (.null) :: t) (.null :: st) w)
  ∧ (∀ (lv : Nat) (l : LX) (st : List Value) (a : Nat) (w : AH), Ex M_X11_days lv 18 l (.ref a :: st) w = if (gf (hg w a) 10 0).isSome = true then Ex M_X11_days lv 21 l (vV (gf (hg w a) 10 0) :: st) w else none)
  ∧ (∀ (lv : Nat) (l : LX) (st : List Value) (a : Nat) (w : AH), Ex M_X11_days lv 21 l (.ref a :: st) w = if (gf (hg w a) 1 7).isSome = true then Ex M_X11_days lv 24 l (vV (gf (hg w a) 1 7) :: st) w else none)
  ∧ (∀ (lv : Nat) (l : LX) (st : List Value) (w : AH), Ex M_X11_days lv 24 l st w = Ex M_X11_days lv 27 l (.int 9999 :: st) w)
  ∧ (∀ (lv : Nat) (st : List Value) (t : LX) (o0 : Option Value) (x : Int32) (w : AH), Ex M_X11_days lv 27 (o0 :: some (.int x) :: t) st w = Ex M_X11_days lv 28 (o0 :: some (.int x) :: t) (.int x :: st) w)
  ∧ (∀ (lv : Nat) (l : LX) (st : List Value) (x y : Int32) (w : AH), Ex M_X11_days lv 28 l (.int y :: .int x :: st) w = Ex M_X11_days lv 29 l (.int (x - y) :: st) w)
  ∧ (∀ (lv : Nat) (l : LX) (st : List Value) (x y : Int32) (w : AH), Ex M_X11_days lv 29 l (.int y :: .int x :: st) w = if x ≤ y then Ex M_X11_days lv 39 l st w else Ex M_X11_days lv 32 l st w)
  ∧ (∀ (lv : Nat) (st : List Value) (t : LX) (x : Nat) (w : AH), Ex M_X11_days lv 32 (some (.ref x) :: t) st w = Ex M_X11_days lv 33 (some (.ref x) :: t) (.ref x :: st) w)
  ∧ (∀ (lv : Nat) (st : List Value) (t : LX) (w : AH), Ex M_X11_days lv 32 (some (.null) :: t) st w = Ex M_X11_days lv 33 (some (.null) :: t) (.null :: st) w)
  ∧ (∀ (lv : Nat) (l : LX) (st : List Value) (w : AH), Ex M_X11_days lv 33 l st w = Ex M_X11_days lv 35 l (.int (-1000000003) :: st) w)
  ∧ (∀ (lv : Nat) (l : LX) (b : Nat) (a0 : Int32) (w : AH), Ex M_X11_days lv 35 l (.int a0 :: .ref b :: []) w = if clK (hg w b) = 10 then (if (Call M_X11_refuse 60 [.ref b, .int a0] w).isSome = true then Ex M_X11_days lv 38 l (pushR (cV (Call M_X11_refuse 60 [.ref b, .int a0] w)) []) (cW (Call M_X11_refuse 60 [.ref b, .int a0] w) w) else none) else none)
  ∧ (∀ (lv : Nat) (l : LX) (x : Int32) (w : AH), Ex M_X11_days lv 38 l [.int x] w = some (some (.int x), w))
  ∧ (∀ (lv : Nat) (l : LX) (st : List Value) (w : AH), Ex M_X11_days lv 39 l st w = Ex M_X11_days lv 40 l (.int 0 :: st) w)
  ∧ (∀ (lv : Nat) (l : LX) (st : List Value) (x : Int32) (w : AH), Ex M_X11_days lv 40 l (.int x :: st) w = Ex M_X11_days lv 41 (ls1 l 2 (.int x)) st w)
  ∧ (∀ (lv : Nat) (st : List Value) (t : LX) (o0 : Option Value) (x : Int32) (w : AH), Ex M_X11_days lv 42 (o0 :: some (.int x) :: t) st w = Ex M_X11_days lv 43 (o0 :: some (.int x) :: t) (.int x :: st) w)
  ∧ (∀ (lv : Nat) (l : LX) (st : List Value) (x y : Int32) (w : AH), Ex M_X11_days lv 43 l (.int y :: .int x :: st) w = if y ≤ x then Ex M_X11_days lv 59 l st w else Ex M_X11_days lv 46 l st w)
  ∧ (∀ (lv : Nat) (st : List Value) (t : LX) (x : Nat) (w : AH), Ex M_X11_days lv 46 (some (.ref x) :: t) st w = Ex M_X11_days lv 47 (some (.ref x) :: t) (.ref x :: st) w)
  ∧ (∀ (lv : Nat) (st : List Value) (t : LX) (w : AH), Ex M_X11_days lv 46 (some (.null) :: t) st w = Ex M_X11_days lv 47 (some (.null) :: t) (.null :: st) w)
  ∧ (∀ (lv : Nat) (l : LX) (st : List Value) (a : Nat) (w : AH), Ex M_X11_days lv 47 l (.ref a :: st) w = if (gf (hg w a) 10 0).isSome = true then Ex M_X11_days lv 50 l (vV (gf (hg w a) 10 0) :: st) w else none)
  ∧ (∀ (lv : Nat) (l : LX) (b : Nat) (w : AH), Ex M_X11_days lv 50 l (.ref b :: []) w = if clK (hg w b) = 1 then (if (Call M_X1_passDay 60 [.ref b] w).isSome = true then Ex M_X11_days lv 53 l (pushR (cV (Call M_X1_passDay 60 [.ref b] w)) []) (cW (Call M_X1_passDay 60 [.ref b] w) w) else none) else none)
  ∧ (∀ (lv : Nat) (st : List Value) (t : LX) (o0 o1 : Option Value) (x : Int32) (w : AH), Ex M_X11_days lv 53 (o0 :: o1 :: some (.int x) :: t) st w = Ex M_X11_days lv 56 (ls1 (o0 :: o1 :: some (.int x) :: t) 2 (.int (x + 1))) st w)
  ∧ (∀ (lv : Nat) (l : LX) (st : List Value) (w : AH), Ex M_X11_days lv 56 l st w = Ex M_X11_days lv 41 l st w)
  ∧ (∀ (lv : Nat) (st : List Value) (t : LX) (x : Nat) (w : AH), Ex M_X11_days lv 59 (some (.ref x) :: t) st w = Ex M_X11_days lv 60 (some (.ref x) :: t) (.ref x :: st) w)
  ∧ (∀ (lv : Nat) (st : List Value) (t : LX) (w : AH), Ex M_X11_days lv 59 (some (.null) :: t) st w = Ex M_X11_days lv 60 (some (.null) :: t) (.null :: st) w)
  ∧ (∀ (lv : Nat) (l : LX) (st : List Value) (a : Nat) (w : AH), Ex M_X11_days lv 60 l (.ref a :: st) w = if (gf (hg w a) 10 0).isSome = true then Ex M_X11_days lv 63 l (vV (gf (hg w a) 10 0) :: st) w else none)
  ∧ (∀ (lv : Nat) (l : LX) (st : List Value) (a : Nat) (w : AH), Ex M_X11_days lv 63 l (.ref a :: st) w = if (gf (hg w a) 1 0).isSome = true then Ex M_X11_days lv 66 l (vV (gf (hg w a) 1 0) :: st) w else none)
  ∧ (∀ (lv : Nat) (l : LX) (b : Nat) (w : AH), Ex M_X11_days lv 66 l (.ref b :: []) w = if clK (hg w b) = 0 then (if (Call M_X0_countHoles 60 [.ref b] w).isSome = true then Ex M_X11_days lv 69 l (pushR (cV (Call M_X0_countHoles 60 [.ref b] w)) []) (cW (Call M_X0_countHoles 60 [.ref b] w) w) else none) else none)
  ∧ (∀ (lv : Nat) (l : LX) (x : Int32) (w : AH), Ex M_X11_days lv 69 l [.int x] w = some (some (.int x), w)) :=
  ⟨(fun lv st t o0 x w => Ex_M (i := .iload_n 1) (n := 1) (by decide +kernel) rfl rfl rfl),
   (fun lv l st w => Ex_A (i := .iconst 1) (n := 1) (by decide +kernel) rfl rfl),
   (fun lv l st w => Ex_A (i := .bipush 100) (n := 2) (by decide +kernel) rfl rfl),
   (fun lv l a0 a1 a2 w => Ex_callS (by decide +kernel : decode M_X11_days.2.1 4 = .ok (.invokestatic 69, 3)) rfl (by rfl : resM (mCn M_X11_days) 69 = some (0, M_X11_isWithin)) (by decide) rfl (by rfl) (Nat.le_of_ble_eq_true rfl) (sLv_lt (by decide +kernel))),
   (fun lv l st x w => Ex_if_ne (by decide +kernel : decode M_X11_days.2.1 7 = .ok (.ifCond .ne 10, 3)) rfl rfl),
   (fun lv st t x w => Ex_M (i := .aload_n 0) (n := 1) (by decide +kernel) rfl rfl rfl),
   (fun lv st t w => Ex_M (i := .aload_n 0) (n := 1) (by decide +kernel) rfl rfl rfl),
   (fun lv l st w => Ex_ldcI (by decide +kernel : decode M_X11_days.2.1 11 = .ok (.ldc 73, 2)) rfl (by decide +kernel)),
   (fun lv l b a0 w => Ex_callV (by decide +kernel : decode M_X11_days.2.1 13 = .ok (.invokevirtual 74, 3)) rfl (by rfl : resM (mCn M_X11_days) 74 = some (2, M_X11_refuse)) rfl (by rfl) (Nat.le_of_ble_eq_true rfl) (by decide +kernel) (sLv_lt (by decide +kernel))),
   (fun lv l x w => Ex_R (i := .ireturn) (n := 1) (by decide +kernel) rfl rfl rfl rfl rfl),
   (fun lv st t x w => Ex_M (i := .aload_n 0) (n := 1) (by decide +kernel) rfl rfl rfl),
   (fun lv st t w => Ex_M (i := .aload_n 0) (n := 1) (by decide +kernel) rfl rfl rfl),
   (fun lv l st a w => Ex_getf (by decide +kernel : decode M_X11_days.2.1 18 = .ok (.getfield 12, 3)) rfl (by decide +kernel : resF (mCn M_X11_days) 12 = some (10, 0, (.object "CarpetLands$Country"), true))),
   (fun lv l st a w => Ex_getf (by decide +kernel : decode M_X11_days.2.1 21 = .ok (.getfield 201, 3)) rfl (by decide +kernel : resF (mCn M_X11_days) 201 = some (1, 7, .int, false))),
   (fun lv l st w => Ex_A (i := .sipush 9999) (n := 3) (by decide +kernel) rfl rfl),
   (fun lv st t o0 x w => Ex_M (i := .iload_n 1) (n := 1) (by decide +kernel) rfl rfl rfl),
   (fun lv l st x y w => Ex_A (i := .isub) (n := 1) (by decide +kernel) rfl rfl),
   (fun lv l st x y w => Ex_icmp_le (by decide +kernel : decode M_X11_days.2.1 29 = .ok (.if_icmp .le 10, 3)) rfl rfl),
   (fun lv st t x w => Ex_M (i := .aload_n 0) (n := 1) (by decide +kernel) rfl rfl rfl),
   (fun lv st t w => Ex_M (i := .aload_n 0) (n := 1) (by decide +kernel) rfl rfl rfl),
   (fun lv l st w => Ex_ldcI (by decide +kernel : decode M_X11_days.2.1 33 = .ok (.ldc 204, 2)) rfl (by decide +kernel)),
   (fun lv l b a0 w => Ex_callV (by decide +kernel : decode M_X11_days.2.1 35 = .ok (.invokevirtual 74, 3)) rfl (by rfl : resM (mCn M_X11_days) 74 = some (2, M_X11_refuse)) rfl (by rfl) (Nat.le_of_ble_eq_true rfl) (by decide +kernel) (sLv_lt (by decide +kernel))),
   (fun lv l x w => Ex_R (i := .ireturn) (n := 1) (by decide +kernel) rfl rfl rfl rfl rfl),
   (fun lv l st w => Ex_A (i := .iconst 0) (n := 1) (by decide +kernel) rfl rfl),
   (fun lv l st x w => Ex_M (i := .istore_n 2) (n := 1) (by decide +kernel) rfl rfl rfl),
   (fun lv st t o0 x w => Ex_M (i := .iload_n 1) (n := 1) (by decide +kernel) rfl rfl rfl),
   (fun lv l st x y w => Ex_icmp_ge (by decide +kernel : decode M_X11_days.2.1 43 = .ok (.if_icmp .ge 16, 3)) rfl rfl),
   (fun lv st t x w => Ex_M (i := .aload_n 0) (n := 1) (by decide +kernel) rfl rfl rfl),
   (fun lv st t w => Ex_M (i := .aload_n 0) (n := 1) (by decide +kernel) rfl rfl rfl),
   (fun lv l st a w => Ex_getf (by decide +kernel : decode M_X11_days.2.1 47 = .ok (.getfield 12, 3)) rfl (by decide +kernel : resF (mCn M_X11_days) 12 = some (10, 0, (.object "CarpetLands$Country"), true))),
   (fun lv l b w => Ex_callV (by decide +kernel : decode M_X11_days.2.1 50 = .ok (.invokevirtual 205, 3)) rfl (by rfl : resM (mCn M_X11_days) 205 = some (2, M_X1_passDay)) rfl (by rfl) (Nat.le_of_ble_eq_true rfl) (by decide +kernel) (sLv_lt (by decide +kernel))),
   (fun lv st t o0 o1 x w => Ex_iinc (by decide +kernel : decode M_X11_days.2.1 53 = .ok (.iinc 2 1, 3)) rfl rfl (by decide) (by decide)),
   (fun lv l st w => Ex_goto (by decide +kernel : decode M_X11_days.2.1 56 = .ok (.goto (-15), 3)) rfl),
   (fun lv st t x w => Ex_M (i := .aload_n 0) (n := 1) (by decide +kernel) rfl rfl rfl),
   (fun lv st t w => Ex_M (i := .aload_n 0) (n := 1) (by decide +kernel) rfl rfl rfl),
   (fun lv l st a w => Ex_getf (by decide +kernel : decode M_X11_days.2.1 60 = .ok (.getfield 12, 3)) rfl (by decide +kernel : resF (mCn M_X11_days) 12 = some (10, 0, (.object "CarpetLands$Country"), true))),
   (fun lv l st a w => Ex_getf (by decide +kernel : decode M_X11_days.2.1 63 = .ok (.getfield 78, 3)) rfl (by decide +kernel : resF (mCn M_X11_days) 78 = some (1, 0, (.object "CarpetLands$Carpet"), true))),
   (fun lv l b w => Ex_callV (by decide +kernel : decode M_X11_days.2.1 66 = .ok (.invokevirtual 122, 3)) rfl (by rfl : resM (mCn M_X11_days) 122 = some (2, M_X0_countHoles)) rfl (by rfl) (Nat.le_of_ble_eq_true rfl) (by decide +kernel) (sLv_lt (by decide +kernel))),
   (fun lv l x w => Ex_R (i := .ireturn) (n := 1) (by decide +kernel) rfl rfl rfl rfl rfl)⟩
set_option maxRecDepth 20000 in
theorem H_X11_loose_41 : ∀ (lv : Nat) (st : List Value) (t : LX) (o0 o1 : Option Value) (x : Int32) (w : AH), Ex M_X11_loose lv 41 (o0 :: o1 :: some (.int x) :: t) st w = Ex M_X11_loose lv 42 (o0 :: o1 :: some (.int x) :: t) (.int x :: st) w := fun lv st t o0 o1 x w => Ex_M (i := .iload_n 2) (n := 1) (by decide +kernel) rfl rfl rfl
set_option maxRecDepth 20000 in
set_option maxHeartbeats 4000000 in
theorem R_X11_loose : (∀ (lv : Nat) (st : List Value) (t : LX) (o0 : Option Value) (x : Int32) (w : AH), Ex M_X11_loose lv 0 (o0 :: some (.int x) :: t) st w = Ex M_X11_loose lv 1 (o0 :: some (.int x) :: t) (.int x :: st) w)
  ∧ (∀ (lv : Nat) (l : LX) (st : List Value) (w : AH), Ex M_X11_loose lv 1 l st w = Ex M_X11_loose lv 2 l (.int 1 :: st) w)
  ∧ (∀ (lv : Nat) (l : LX) (st : List Value) (w : AH), Ex M_X11_loose lv 2 l st w = Ex M_X11_loose lv 4 l (.int 40 :: st) w)
  ∧ (∀ (lv : Nat) (l : LX) (a0 : Int32) (a1 : Int32) (a2 : Int32) (w : AH), Ex M_X11_loose lv 4 l (.int a2 :: .int a1 :: .int a0 :: []) w = if (Call M_X11_isWithin 60 [.int a0, .int a1, .int a2] w).isSome = true then Ex M_X11_loose lv 7 l (pushR (cV (Call M_X11_isWithin 60 [.int a0, .int a1, .int a2] w)) []) (cW (Call M_X11_isWithin 60 [.int a0, .int a1, .int a2] w) w) else none)
  ∧ (∀ (lv : Nat) (l : LX) (st : List Value) (x : Int32) (w : AH), Ex M_X11_loose lv 7 l (.int x :: st) w = if ¬ x = 0 then Ex M_X11_loose lv 17 l st w else Ex M_X11_loose lv 10 l st w)
  ∧ (∀ (lv : Nat) (st : List Value) (t : LX) (x : Nat) (w : AH), Ex M_X11_loose lv 10 (some (.ref x) :: t) st w = Ex M_X11_loose lv 11 (some (.ref x) :: t) (.ref x :: st) w)
  ∧ (∀ (lv : Nat) (st : List Value) (t : LX) (w : AH), Ex M_X11_loose lv 10 (some (.null) :: t) st w = Ex M_X11_loose lv 11 (some (.null) :: t) (.null :: st) w)
  ∧ (∀ (lv : Nat) (l : LX) (st : List Value) (w : AH), Ex M_X11_loose lv 11 l st w = Ex M_X11_loose lv 13 l (.int (-1000000001) :: st) w)
  ∧ (∀ (lv : Nat) (l : LX) (b : Nat) (a0 : Int32) (w : AH), Ex M_X11_loose lv 13 l (.int a0 :: .ref b :: []) w = if clK (hg w b) = 10 then (if (Call M_X11_refuse 60 [.ref b, .int a0] w).isSome = true then Ex M_X11_loose lv 16 l (pushR (cV (Call M_X11_refuse 60 [.ref b, .int a0] w)) []) (cW (Call M_X11_refuse 60 [.ref b, .int a0] w) w) else none) else none)
  ∧ (∀ (lv : Nat) (l : LX) (x : Int32) (w : AH), Ex M_X11_loose lv 16 l [.int x] w = some (some (.int x), w))
  ∧ (∀ (lv : Nat) (st : List Value) (t : LX) (x : Nat) (w : AH), Ex M_X11_loose lv 17 (some (.ref x) :: t) st w = Ex M_X11_loose lv 18 (some (.ref x) :: t) (.ref x :: st) w)
  ∧ (∀ (lv : Nat) (st : List Value) (t : LX) (w : AH), Ex M_X11_loose lv 17 (some (.null) :: t) st w = Ex M_X11_loose lv 18 (some (.null) :: t) (.null :: st) w)
  ∧ (∀ (lv : Nat) (l : LX) (st : List Value) (a : Nat) (w : AH), Ex M_X11_loose lv 18 l (.ref a :: st) w = if (gf (hg w a) 10 0).isSome = true then Ex M_X11_loose lv 21 l (vV (gf (hg w a) 10 0) :: st) w else none)
  ∧ (∀ (lv : Nat) (l : LX) (st : List Value) (a : Nat) (w : AH), Ex M_X11_loose lv 21 l (.ref a :: st) w = if (gf (hg w a) 1 7).isSome = true then Ex M_X11_loose lv 24 l (vV (gf (hg w a) 1 7) :: st) w else none)
  ∧ (∀ (lv : Nat) (l : LX) (st : List Value) (w : AH), Ex M_X11_loose lv 24 l st w = Ex M_X11_loose lv 27 l (.int 9999 :: st) w)
  ∧ (∀ (lv : Nat) (st : List Value) (t : LX) (o0 : Option Value) (x : Int32) (w : AH), Ex M_X11_loose lv 27 (o0 :: some (.int x) :: t) st w = Ex M_X11_loose lv 28 (o0 :: some (.int x) :: t) (.int x :: st) w)
  ∧ (∀ (lv : Nat) (l : LX) (st : List Value) (x y : Int32) (w : AH), Ex M_X11_loose lv 28 l (.int y :: .int x :: st) w = Ex M_X11_loose lv 29 l (.int (x - y) :: st) w)
  ∧ (∀ (lv : Nat) (l : LX) (st : List Value) (x y : Int32) (w : AH), Ex M_X11_loose lv 29 l (.int y :: .int x :: st) w = if x ≤ y then Ex M_X11_loose lv 39 l st w else Ex M_X11_loose lv 32 l st w)
  ∧ (∀ (lv : Nat) (st : List Value) (t : LX) (x : Nat) (w : AH), Ex M_X11_loose lv 32 (some (.ref x) :: t) st w = Ex M_X11_loose lv 33 (some (.ref x) :: t) (.ref x :: st) w)
  ∧ (∀ (lv : Nat) (st : List Value) (t : LX) (w : AH), Ex M_X11_loose lv 32 (some (.null) :: t) st w = Ex M_X11_loose lv 33 (some (.null) :: t) (.null :: st) w)
  ∧ (∀ (lv : Nat) (l : LX) (st : List Value) (w : AH), Ex M_X11_loose lv 33 l st w = Ex M_X11_loose lv 35 l (.int (-1000000003) :: st) w)
  ∧ (∀ (lv : Nat) (l : LX) (b : Nat) (a0 : Int32) (w : AH), Ex M_X11_loose lv 35 l (.int a0 :: .ref b :: []) w = if clK (hg w b) = 10 then (if (Call M_X11_refuse 60 [.ref b, .int a0] w).isSome = true then Ex M_X11_loose lv 38 l (pushR (cV (Call M_X11_refuse 60 [.ref b, .int a0] w)) []) (cW (Call M_X11_refuse 60 [.ref b, .int a0] w) w) else none) else none)
  ∧ (∀ (lv : Nat) (l : LX) (x : Int32) (w : AH), Ex M_X11_loose lv 38 l [.int x] w = some (some (.int x), w))
  ∧ (∀ (lv : Nat) (l : LX) (st : List Value) (w : AH), Ex M_X11_loose lv 39 l st w = Ex M_X11_loose lv 40 l (.int 0 :: st) w)
  ∧ (∀ (lv : Nat) (l : LX) (st : List Value) (x : Int32) (w : AH), Ex M_X11_loose lv 40 l (.int x :: st) w = Ex M_X11_loose lv 41 (ls1 l 2 (.int x)) st w)
  ∧ (∀ (lv : Nat) (st : List Value) (t : LX) (o0 : Option Value) (x : Int32) (w : AH), Ex M_X11_loose lv 42 (o0 :: some (.int x) :: t) st w = Ex M_X11_loose lv 43 (o0 :: some (.int x) :: t) (.int x :: st) w)
  ∧ (∀ (lv : Nat) (l : LX) (st : List Value) (x y : Int32) (w : AH), Ex M_X11_loose lv 43 l (.int y :: .int x :: st) w = if y ≤ x then Ex M_X11_loose lv 59 l st w else Ex M_X11_loose lv 46 l st w)
  ∧ (∀ (lv : Nat) (st : List Value) (t : LX) (x : Nat) (w : AH), Ex M_X11_loose lv 46 (some (.ref x) :: t) st w = Ex M_X11_loose lv 47 (some (.ref x) :: t) (.ref x :: st) w)
  ∧ (∀ (lv : Nat) (st : List Value) (t : LX) (w : AH), Ex M_X11_loose lv 46 (some (.null) :: t) st w = Ex M_X11_loose lv 47 (some (.null) :: t) (.null :: st) w)
  ∧ (∀ (lv : Nat) (l : LX) (st : List Value) (a : Nat) (w : AH), Ex M_X11_loose lv 47 l (.ref a :: st) w = if (gf (hg w a) 10 0).isSome = true then Ex M_X11_loose lv 50 l (vV (gf (hg w a) 10 0) :: st) w else none)
  ∧ (∀ (lv : Nat) (l : LX) (b : Nat) (w : AH), Ex M_X11_loose lv 50 l (.ref b :: []) w = if clK (hg w b) = 1 then (if (Call M_X1_passLooseDay 60 [.ref b] w).isSome = true then Ex M_X11_loose lv 53 l (pushR (cV (Call M_X1_passLooseDay 60 [.ref b] w)) []) (cW (Call M_X1_passLooseDay 60 [.ref b] w) w) else none) else none)
  ∧ (∀ (lv : Nat) (st : List Value) (t : LX) (o0 o1 : Option Value) (x : Int32) (w : AH), Ex M_X11_loose lv 53 (o0 :: o1 :: some (.int x) :: t) st w = Ex M_X11_loose lv 56 (ls1 (o0 :: o1 :: some (.int x) :: t) 2 (.int (x + 1))) st w)
  ∧ (∀ (lv : Nat) (l : LX) (st : List Value) (w : AH), Ex M_X11_loose lv 56 l st w = Ex M_X11_loose lv 41 l st w)
  ∧ (∀ (lv : Nat) (st : List Value) (t : LX) (x : Nat) (w : AH), Ex M_X11_loose lv 59 (some (.ref x) :: t) st w = Ex M_X11_loose lv 60 (some (.ref x) :: t) (.ref x :: st) w)
  ∧ (∀ (lv : Nat) (st : List Value) (t : LX) (w : AH), Ex M_X11_loose lv 59 (some (.null) :: t) st w = Ex M_X11_loose lv 60 (some (.null) :: t) (.null :: st) w)
  ∧ (∀ (lv : Nat) (l : LX) (st : List Value) (a : Nat) (w : AH), Ex M_X11_loose lv 60 l (.ref a :: st) w = if (gf (hg w a) 10 0).isSome = true then Ex M_X11_loose lv 63 l (vV (gf (hg w a) 10 0) :: st) w else none)
  ∧ (∀ (lv : Nat) (l : LX) (st : List Value) (a : Nat) (w : AH), Ex M_X11_loose lv 63 l (.ref a :: st) w = if (gf (hg w a) 1 0).isSome = true then Ex M_X11_loose lv 66 l (vV (gf (hg w a) 1 0) :: st) w else none)
  ∧ (∀ (lv : Nat) (l : LX) (b : Nat) (w : AH), Ex M_X11_loose lv 66 l (.ref b :: []) w = if clK (hg w b) = 0 then (if (Call M_X0_countHoles 60 [.ref b] w).isSome = true then Ex M_X11_loose lv 69 l (pushR (cV (Call M_X0_countHoles 60 [.ref b] w)) []) (cW (Call M_X0_countHoles 60 [.ref b] w) w) else none) else none)
  ∧ (∀ (lv : Nat) (l : LX) (x : Int32) (w : AH), Ex M_X11_loose lv 69 l [.int x] w = some (some (.int x), w)) :=
  ⟨(fun lv st t o0 x w => Ex_M (i := .iload_n 1) (n := 1) (by decide +kernel) rfl rfl rfl),
   (fun lv l st w => Ex_A (i := .iconst 1) (n := 1) (by decide +kernel) rfl rfl),
   (fun lv l st w => Ex_A (i := .bipush 40) (n := 2) (by decide +kernel) rfl rfl),
   (fun lv l a0 a1 a2 w => Ex_callS (by decide +kernel : decode M_X11_loose.2.1 4 = .ok (.invokestatic 69, 3)) rfl (by rfl : resM (mCn M_X11_loose) 69 = some (0, M_X11_isWithin)) (by decide) rfl (by rfl) (Nat.le_of_ble_eq_true rfl) (sLv_lt (by decide +kernel))),
   (fun lv l st x w => Ex_if_ne (by decide +kernel : decode M_X11_loose.2.1 7 = .ok (.ifCond .ne 10, 3)) rfl rfl),
   (fun lv st t x w => Ex_M (i := .aload_n 0) (n := 1) (by decide +kernel) rfl rfl rfl),
   (fun lv st t w => Ex_M (i := .aload_n 0) (n := 1) (by decide +kernel) rfl rfl rfl),
   (fun lv l st w => Ex_ldcI (by decide +kernel : decode M_X11_loose.2.1 11 = .ok (.ldc 73, 2)) rfl (by decide +kernel)),
   (fun lv l b a0 w => Ex_callV (by decide +kernel : decode M_X11_loose.2.1 13 = .ok (.invokevirtual 74, 3)) rfl (by rfl : resM (mCn M_X11_loose) 74 = some (2, M_X11_refuse)) rfl (by rfl) (Nat.le_of_ble_eq_true rfl) (by decide +kernel) (sLv_lt (by decide +kernel))),
   (fun lv l x w => Ex_R (i := .ireturn) (n := 1) (by decide +kernel) rfl rfl rfl rfl rfl),
   (fun lv st t x w => Ex_M (i := .aload_n 0) (n := 1) (by decide +kernel) rfl rfl rfl),
   (fun lv st t w => Ex_M (i := .aload_n 0) (n := 1) (by decide +kernel) rfl rfl rfl),
   (fun lv l st a w => Ex_getf (by decide +kernel : decode M_X11_loose.2.1 18 = .ok (.getfield 12, 3)) rfl (by decide +kernel : resF (mCn M_X11_loose) 12 = some (10, 0, (.object "CarpetLands$Country"), true))),
   (fun lv l st a w => Ex_getf (by decide +kernel : decode M_X11_loose.2.1 21 = .ok (.getfield 201, 3)) rfl (by decide +kernel : resF (mCn M_X11_loose) 201 = some (1, 7, .int, false))),
   (fun lv l st w => Ex_A (i := .sipush 9999) (n := 3) (by decide +kernel) rfl rfl),
   (fun lv st t o0 x w => Ex_M (i := .iload_n 1) (n := 1) (by decide +kernel) rfl rfl rfl),
   (fun lv l st x y w => Ex_A (i := .isub) (n := 1) (by decide +kernel) rfl rfl),
   (fun lv l st x y w => Ex_icmp_le (by decide +kernel : decode M_X11_loose.2.1 29 = .ok (.if_icmp .le 10, 3)) rfl rfl),
   (fun lv st t x w => Ex_M (i := .aload_n 0) (n := 1) (by decide +kernel) rfl rfl rfl),
   (fun lv st t w => Ex_M (i := .aload_n 0) (n := 1) (by decide +kernel) rfl rfl rfl),
   (fun lv l st w => Ex_ldcI (by decide +kernel : decode M_X11_loose.2.1 33 = .ok (.ldc 204, 2)) rfl (by decide +kernel)),
   (fun lv l b a0 w => Ex_callV (by decide +kernel : decode M_X11_loose.2.1 35 = .ok (.invokevirtual 74, 3)) rfl (by rfl : resM (mCn M_X11_loose) 74 = some (2, M_X11_refuse)) rfl (by rfl) (Nat.le_of_ble_eq_true rfl) (by decide +kernel) (sLv_lt (by decide +kernel))),
   (fun lv l x w => Ex_R (i := .ireturn) (n := 1) (by decide +kernel) rfl rfl rfl rfl rfl),
   (fun lv l st w => Ex_A (i := .iconst 0) (n := 1) (by decide +kernel) rfl rfl),
   (fun lv l st x w => Ex_M (i := .istore_n 2) (n := 1) (by decide +kernel) rfl rfl rfl),
   (fun lv st t o0 x w => Ex_M (i := .iload_n 1) (n := 1) (by decide +kernel) rfl rfl rfl),
   (fun lv l st x y w => Ex_icmp_ge (by decide +kernel : decode M_X11_loose.2.1 43 = .ok (.if_icmp .ge 16, 3)) rfl rfl),
   (fun lv st t x w => Ex_M (i := .aload_n 0) (n := 1) (by decide +kernel) rfl rfl rfl),
   (fun lv st t w => Ex_M (i := .aload_n 0) (n := 1) (by decide +kernel) rfl rfl rfl),
   (fun lv l st a w => Ex_getf (by decide +kernel : decode M_X11_loose.2.1 47 = .ok (.getfield 12, 3)) rfl (by decide +kernel : resF (mCn M_X11_loose) 12 = some (10, 0, (.object "CarpetLands$Country"), true))),
   (fun lv l b w => Ex_callV (by decide +kernel : decode M_X11_loose.2.1 50 = .ok (.invokevirtual 208, 3)) rfl (by rfl : resM (mCn M_X11_loose) 208 = some (2, M_X1_passLooseDay)) rfl (by rfl) (Nat.le_of_ble_eq_true rfl) (by decide +kernel) (sLv_lt (by decide +kernel))),
   (fun lv st t o0 o1 x w => Ex_iinc (by decide +kernel : decode M_X11_loose.2.1 53 = .ok (.iinc 2 1, 3)) rfl rfl (by decide) (by decide)),
   (fun lv l st w => Ex_goto (by decide +kernel : decode M_X11_loose.2.1 56 = .ok (.goto (-15), 3)) rfl),
   (fun lv st t x w => Ex_M (i := .aload_n 0) (n := 1) (by decide +kernel) rfl rfl rfl),
   (fun lv st t w => Ex_M (i := .aload_n 0) (n := 1) (by decide +kernel) rfl rfl rfl),
   (fun lv l st a w => Ex_getf (by decide +kernel : decode M_X11_loose.2.1 60 = .ok (.getfield 12, 3)) rfl (by decide +kernel : resF (mCn M_X11_loose) 12 = some (10, 0, (.object "CarpetLands$Country"), true))),
   (fun lv l st a w => Ex_getf (by decide +kernel : decode M_X11_loose.2.1 63 = .ok (.getfield 78, 3)) rfl (by decide +kernel : resF (mCn M_X11_loose) 78 = some (1, 0, (.object "CarpetLands$Carpet"), true))),
   (fun lv l b w => Ex_callV (by decide +kernel : decode M_X11_loose.2.1 66 = .ok (.invokevirtual 122, 3)) rfl (by rfl : resM (mCn M_X11_loose) 122 = some (2, M_X0_countHoles)) rfl (by rfl) (Nat.le_of_ble_eq_true rfl) (by decide +kernel) (sLv_lt (by decide +kernel))),
   (fun lv l x w => Ex_R (i := .ireturn) (n := 1) (by decide +kernel) rfl rfl rfl rfl rfl)⟩
set_option maxRecDepth 20000 in
theorem H_X11_lands_37 : ∀ (lv : Nat) (st : List Value) (t : LX) (o0 o1 o2 : Option Value) (x : Int32) (w : AH), Ex M_X11_lands lv 37 (o0 :: o1 :: o2 :: some (.int x) :: t) st w = Ex M_X11_lands lv 38 (o0 :: o1 :: o2 :: some (.int x) :: t) (.int x :: st) w := fun lv st t o0 o1 o2 x w => Ex_M (i := .iload_n 3) (n := 1) (by decide +kernel) rfl rfl rfl
set_option maxRecDepth 20000 in
set_option maxHeartbeats 4000000 in
theorem R_X11_lands : (∀ (lv : Nat) (st : List Value) (t : LX) (o0 : Option Value) (x : Int32) (w : AH), Ex M_X11_lands lv 0 (o0 :: some (.int x) :: t) st w = Ex M_X11_lands lv 1 (o0 :: some (.int x) :: t) (.int x :: st) w)
  ∧ (∀ (lv : Nat) (l : LX) (st : List Value) (w : AH), Ex M_X11_lands lv 1 l st w = Ex M_X11_lands lv 2 l (.int (-1) :: st) w)
  ∧ (∀ (lv : Nat) (l : LX) (st : List Value) (w : AH), Ex M_X11_lands lv 2 l st w = Ex M_X11_lands lv 4 l (.int 7 :: st) w)
  ∧ (∀ (lv : Nat) (l : LX) (a0 : Int32) (a1 : Int32) (a2 : Int32) (w : AH), Ex M_X11_lands lv 4 l (.int a2 :: .int a1 :: .int a0 :: []) w = if (Call M_X11_isWithin 60 [.int a0, .int a1, .int a2] w).isSome = true then Ex M_X11_lands lv 7 l (pushR (cV (Call M_X11_isWithin 60 [.int a0, .int a1, .int a2] w)) []) (cW (Call M_X11_isWithin 60 [.int a0, .int a1, .int a2] w) w) else none)
  ∧ (∀ (lv : Nat) (l : LX) (st : List Value) (x : Int32) (w : AH), Ex M_X11_lands lv 7 l (.int x :: st) w = if ¬ x = 0 then Ex M_X11_lands lv 17 l st w else Ex M_X11_lands lv 10 l st w)
  ∧ (∀ (lv : Nat) (st : List Value) (t : LX) (x : Nat) (w : AH), Ex M_X11_lands lv 10 (some (.ref x) :: t) st w = Ex M_X11_lands lv 11 (some (.ref x) :: t) (.ref x :: st) w)
  ∧ (∀ (lv : Nat) (st : List Value) (t : LX) (w : AH), Ex M_X11_lands lv 10 (some (.null) :: t) st w = Ex M_X11_lands lv 11 (some (.null) :: t) (.null :: st) w)
  ∧ (∀ (lv : Nat) (l : LX) (st : List Value) (w : AH), Ex M_X11_lands lv 11 l st w = Ex M_X11_lands lv 13 l (.int (-1000000001) :: st) w)
  ∧ (∀ (lv : Nat) (l : LX) (b : Nat) (a0 : Int32) (w : AH), Ex M_X11_lands lv 13 l (.int a0 :: .ref b :: []) w = if clK (hg w b) = 10 then (if (Call M_X11_refuse 60 [.ref b, .int a0] w).isSome = true then Ex M_X11_lands lv 16 l (pushR (cV (Call M_X11_refuse 60 [.ref b, .int a0] w)) []) (cW (Call M_X11_refuse 60 [.ref b, .int a0] w) w) else none) else none)
  ∧ (∀ (lv : Nat) (l : LX) (x : Int32) (w : AH), Ex M_X11_lands lv 16 l [.int x] w = some (some (.int x), w))
  ∧ (∀ (lv : Nat) (st : List Value) (t : LX) (o0 : Option Value) (x : Int32) (w : AH), Ex M_X11_lands lv 17 (o0 :: some (.int x) :: t) st w = Ex M_X11_lands lv 18 (o0 :: some (.int x) :: t) (.int x :: st) w)
  ∧ (∀ (lv : Nat) (l : LX) (st : List Value) (x : Int32) (w : AH), Ex M_X11_lands lv 18 l (.int x :: st) w = if x < 0 then Ex M_X11_lands lv 33 l st w else Ex M_X11_lands lv 21 l st w)
  ∧ (∀ (lv : Nat) (st : List Value) (t : LX) (x : Nat) (w : AH), Ex M_X11_lands lv 21 (some (.ref x) :: t) st w = Ex M_X11_lands lv 22 (some (.ref x) :: t) (.ref x :: st) w)
  ∧ (∀ (lv : Nat) (st : List Value) (t : LX) (w : AH), Ex M_X11_lands lv 21 (some (.null) :: t) st w = Ex M_X11_lands lv 22 (some (.null) :: t) (.null :: st) w)
  ∧ (∀ (lv : Nat) (l : LX) (st : List Value) (a : Nat) (w : AH), Ex M_X11_lands lv 22 l (.ref a :: st) w = if (gf (hg w a) 10 0).isSome = true then Ex M_X11_lands lv 25 l (vV (gf (hg w a) 10 0) :: st) w else none)
  ∧ (∀ (lv : Nat) (l : LX) (st : List Value) (a : Nat) (w : AH), Ex M_X11_lands lv 25 l (.ref a :: st) w = if (gf (hg w a) 1 0).isSome = true then Ex M_X11_lands lv 28 l (vV (gf (hg w a) 1 0) :: st) w else none)
  ∧ (∀ (lv : Nat) (st : List Value) (t : LX) (o0 : Option Value) (x : Int32) (w : AH), Ex M_X11_lands lv 28 (o0 :: some (.int x) :: t) st w = Ex M_X11_lands lv 29 (o0 :: some (.int x) :: t) (.int x :: st) w)
  ∧ (∀ (lv : Nat) (l : LX) (b : Nat) (a0 : Int32) (w : AH), Ex M_X11_lands lv 29 l (.int a0 :: .ref b :: []) w = if clK (hg w b) = 0 then (if (Call M_X0_countLands 60 [.ref b, .int a0] w).isSome = true then Ex M_X11_lands lv 32 l (pushR (cV (Call M_X0_countLands 60 [.ref b, .int a0] w)) []) (cW (Call M_X0_countLands 60 [.ref b, .int a0] w) w) else none) else none)
  ∧ (∀ (lv : Nat) (l : LX) (x : Int32) (w : AH), Ex M_X11_lands lv 32 l [.int x] w = some (some (.int x), w))
  ∧ (∀ (lv : Nat) (l : LX) (st : List Value) (w : AH), Ex M_X11_lands lv 33 l st w = Ex M_X11_lands lv 34 l (.int 0 :: st) w)
  ∧ (∀ (lv : Nat) (l : LX) (st : List Value) (x : Int32) (w : AH), Ex M_X11_lands lv 34 l (.int x :: st) w = Ex M_X11_lands lv 35 (ls1 l 2 (.int x)) st w)
  ∧ (∀ (lv : Nat) (l : LX) (st : List Value) (w : AH), Ex M_X11_lands lv 35 l st w = Ex M_X11_lands lv 36 l (.int 1 :: st) w)
  ∧ (∀ (lv : Nat) (l : LX) (st : List Value) (x : Int32) (w : AH), Ex M_X11_lands lv 36 l (.int x :: st) w = Ex M_X11_lands lv 37 (ls1 l 3 (.int x)) st w)
  ∧ (∀ (lv : Nat) (l : LX) (st : List Value) (w : AH), Ex M_X11_lands lv 38 l st w = Ex M_X11_lands lv 40 l (.int 8 :: st) w)
  ∧ (∀ (lv : Nat) (l : LX) (st : List Value) (x y : Int32) (w : AH), Ex M_X11_lands lv 40 l (.int y :: .int x :: st) w = if y ≤ x then Ex M_X11_lands lv 63 l st w else Ex M_X11_lands lv 43 l st w)
  ∧ (∀ (lv : Nat) (st : List Value) (t : LX) (o0 o1 : Option Value) (x : Int32) (w : AH), Ex M_X11_lands lv 43 (o0 :: o1 :: some (.int x) :: t) st w = Ex M_X11_lands lv 44 (o0 :: o1 :: some (.int x) :: t) (.int x :: st) w)
  ∧ (∀ (lv : Nat) (st : List Value) (t : LX) (x : Nat) (w : AH), Ex M_X11_lands lv 44 (some (.ref x) :: t) st w = Ex M_X11_lands lv 45 (some (.ref x) :: t) (.ref x :: st) w)
  ∧ (∀ (lv : Nat) (st : List Value) (t : LX) (w : AH), Ex M_X11_lands lv 44 (some (.null) :: t) st w = Ex M_X11_lands lv 45 (some (.null) :: t) (.null :: st) w)
  ∧ (∀ (lv : Nat) (l : LX) (st : List Value) (a : Nat) (w : AH), Ex M_X11_lands lv 45 l (.ref a :: st) w = if (gf (hg w a) 10 0).isSome = true then Ex M_X11_lands lv 48 l (vV (gf (hg w a) 10 0) :: st) w else none)
  ∧ (∀ (lv : Nat) (l : LX) (st : List Value) (a : Nat) (w : AH), Ex M_X11_lands lv 48 l (.ref a :: st) w = if (gf (hg w a) 1 0).isSome = true then Ex M_X11_lands lv 51 l (vV (gf (hg w a) 1 0) :: st) w else none)
  ∧ (∀ (lv : Nat) (st : List Value) (t : LX) (o0 o1 o2 : Option Value) (x : Int32) (w : AH), Ex M_X11_lands lv 51 (o0 :: o1 :: o2 :: some (.int x) :: t) st w = Ex M_X11_lands lv 52 (o0 :: o1 :: o2 :: some (.int x) :: t) (.int x :: st) w)
  ∧ (∀ (lv : Nat) (l : LX) (b : Nat) (a0 : Int32) (s0 : Int32) (w : AH), Ex M_X11_lands lv 52 l (.int a0 :: .ref b :: [.int s0]) w = if clK (hg w b) = 0 then (if (Call M_X0_countLands 60 [.ref b, .int a0] w).isSome = true then Ex M_X11_lands lv 55 l (pushR (cV (Call M_X0_countLands 60 [.ref b, .int a0] w)) [.int s0]) (cW (Call M_X0_countLands 60 [.ref b, .int a0] w) w) else none) else none)
  ∧ (∀ (lv : Nat) (l : LX) (st : List Value) (x y : Int32) (w : AH), Ex M_X11_lands lv 55 l (.int y :: .int x :: st) w = Ex M_X11_lands lv 56 l (.int (x + y) :: st) w)
  ∧ (∀ (lv : Nat) (l : LX) (st : List Value) (x : Int32) (w : AH), Ex M_X11_lands lv 56 l (.int x :: st) w = Ex M_X11_lands lv 57 (ls1 l 2 (.int x)) st w)
  ∧ (∀ (lv : Nat) (st : List Value) (t : LX) (o0 o1 o2 : Option Value) (x : Int32) (w : AH), Ex M_X11_lands lv 57 (o0 :: o1 :: o2 :: some (.int x) :: t) st w = Ex M_X11_lands lv 60 (ls1 (o0 :: o1 :: o2 :: some (.int x) :: t) 3 (.int (x + 1))) st w)
  ∧ (∀ (lv : Nat) (l : LX) (st : List Value) (w : AH), Ex M_X11_lands lv 60 l st w = Ex M_X11_lands lv 37 l st w)
  ∧ (∀ (lv : Nat) (st : List Value) (t : LX) (o0 o1 : Option Value) (x : Int32) (w : AH), Ex M_X11_lands lv 63 (o0 :: o1 :: some (.int x) :: t) st w = Ex M_X11_lands lv 64 (o0 :: o1 :: some (.int x) :: t) (.int x :: st) w)
  ∧ (∀ (lv : Nat) (l : LX) (x : Int32) (w : AH), Ex M_X11_lands lv 64 l [.int x] w = some (some (.int x), w)) :=
  ⟨(fun lv st t o0 x w => Ex_M (i := .iload_n 1) (n := 1) (by decide +kernel) rfl rfl rfl),
   (fun lv l st w => Ex_A (i := .iconst (-1)) (n := 1) (by decide +kernel) rfl rfl),
   (fun lv l st w => Ex_A (i := .bipush 7) (n := 2) (by decide +kernel) rfl rfl),
   (fun lv l a0 a1 a2 w => Ex_callS (by decide +kernel : decode M_X11_lands.2.1 4 = .ok (.invokestatic 69, 3)) rfl (by rfl : resM (mCn M_X11_lands) 69 = some (0, M_X11_isWithin)) (by decide) rfl (by rfl) (Nat.le_of_ble_eq_true rfl) (sLv_lt (by decide +kernel))),
   (fun lv l st x w => Ex_if_ne (by decide +kernel : decode M_X11_lands.2.1 7 = .ok (.ifCond .ne 10, 3)) rfl rfl),
   (fun lv st t x w => Ex_M (i := .aload_n 0) (n := 1) (by decide +kernel) rfl rfl rfl),
   (fun lv st t w => Ex_M (i := .aload_n 0) (n := 1) (by decide +kernel) rfl rfl rfl),
   (fun lv l st w => Ex_ldcI (by decide +kernel : decode M_X11_lands.2.1 11 = .ok (.ldc 73, 2)) rfl (by decide +kernel)),
   (fun lv l b a0 w => Ex_callV (by decide +kernel : decode M_X11_lands.2.1 13 = .ok (.invokevirtual 74, 3)) rfl (by rfl : resM (mCn M_X11_lands) 74 = some (2, M_X11_refuse)) rfl (by rfl) (Nat.le_of_ble_eq_true rfl) (by decide +kernel) (sLv_lt (by decide +kernel))),
   (fun lv l x w => Ex_R (i := .ireturn) (n := 1) (by decide +kernel) rfl rfl rfl rfl rfl),
   (fun lv st t o0 x w => Ex_M (i := .iload_n 1) (n := 1) (by decide +kernel) rfl rfl rfl),
   (fun lv l st x w => Ex_if_lt (by decide +kernel : decode M_X11_lands.2.1 18 = .ok (.ifCond .lt 15, 3)) rfl rfl),
   (fun lv st t x w => Ex_M (i := .aload_n 0) (n := 1) (by decide +kernel) rfl rfl rfl),
   (fun lv st t w => Ex_M (i := .aload_n 0) (n := 1) (by decide +kernel) rfl rfl rfl),
   (fun lv l st a w => Ex_getf (by decide +kernel : decode M_X11_lands.2.1 22 = .ok (.getfield 12, 3)) rfl (by decide +kernel : resF (mCn M_X11_lands) 12 = some (10, 0, (.object "CarpetLands$Country"), true))),
   (fun lv l st a w => Ex_getf (by decide +kernel : decode M_X11_lands.2.1 25 = .ok (.getfield 78, 3)) rfl (by decide +kernel : resF (mCn M_X11_lands) 78 = some (1, 0, (.object "CarpetLands$Carpet"), true))),
   (fun lv st t o0 x w => Ex_M (i := .iload_n 1) (n := 1) (by decide +kernel) rfl rfl rfl),
   (fun lv l b a0 w => Ex_callV (by decide +kernel : decode M_X11_lands.2.1 29 = .ok (.invokevirtual 211, 3)) rfl (by rfl : resM (mCn M_X11_lands) 211 = some (2, M_X0_countLands)) rfl (by rfl) (Nat.le_of_ble_eq_true rfl) (by decide +kernel) (sLv_lt (by decide +kernel))),
   (fun lv l x w => Ex_R (i := .ireturn) (n := 1) (by decide +kernel) rfl rfl rfl rfl rfl),
   (fun lv l st w => Ex_A (i := .iconst 0) (n := 1) (by decide +kernel) rfl rfl),
   (fun lv l st x w => Ex_M (i := .istore_n 2) (n := 1) (by decide +kernel) rfl rfl rfl),
   (fun lv l st w => Ex_A (i := .iconst 1) (n := 1) (by decide +kernel) rfl rfl),
   (fun lv l st x w => Ex_M (i := .istore_n 3) (n := 1) (by decide +kernel) rfl rfl rfl),
   (fun lv l st w => Ex_A (i := .bipush 8) (n := 2) (by decide +kernel) rfl rfl),
   (fun lv l st x y w => Ex_icmp_ge (by decide +kernel : decode M_X11_lands.2.1 40 = .ok (.if_icmp .ge 23, 3)) rfl rfl),
   (fun lv st t o0 o1 x w => Ex_M (i := .iload_n 2) (n := 1) (by decide +kernel) rfl rfl rfl),
   (fun lv st t x w => Ex_M (i := .aload_n 0) (n := 1) (by decide +kernel) rfl rfl rfl),
   (fun lv st t w => Ex_M (i := .aload_n 0) (n := 1) (by decide +kernel) rfl rfl rfl),
   (fun lv l st a w => Ex_getf (by decide +kernel : decode M_X11_lands.2.1 45 = .ok (.getfield 12, 3)) rfl (by decide +kernel : resF (mCn M_X11_lands) 12 = some (10, 0, (.object "CarpetLands$Country"), true))),
   (fun lv l st a w => Ex_getf (by decide +kernel : decode M_X11_lands.2.1 48 = .ok (.getfield 78, 3)) rfl (by decide +kernel : resF (mCn M_X11_lands) 78 = some (1, 0, (.object "CarpetLands$Carpet"), true))),
   (fun lv st t o0 o1 o2 x w => Ex_M (i := .iload_n 3) (n := 1) (by decide +kernel) rfl rfl rfl),
   (fun lv l b a0 s0 w => Ex_callV (by decide +kernel : decode M_X11_lands.2.1 52 = .ok (.invokevirtual 211, 3)) rfl (by rfl : resM (mCn M_X11_lands) 211 = some (2, M_X0_countLands)) rfl (by rfl) (Nat.le_of_ble_eq_true rfl) (by decide +kernel) (sLv_lt (by decide +kernel))),
   (fun lv l st x y w => Ex_A (i := .iadd) (n := 1) (by decide +kernel) rfl rfl),
   (fun lv l st x w => Ex_M (i := .istore_n 2) (n := 1) (by decide +kernel) rfl rfl rfl),
   (fun lv st t o0 o1 o2 x w => Ex_iinc (by decide +kernel : decode M_X11_lands.2.1 57 = .ok (.iinc 3 1, 3)) rfl rfl (by decide) (by decide)),
   (fun lv l st w => Ex_goto (by decide +kernel : decode M_X11_lands.2.1 60 = .ok (.goto (-23), 3)) rfl),
   (fun lv st t o0 o1 x w => Ex_M (i := .iload_n 2) (n := 1) (by decide +kernel) rfl rfl rfl),
   (fun lv l x w => Ex_R (i := .ireturn) (n := 1) (by decide +kernel) rfl rfl rfl rfl rfl)⟩
set_option maxRecDepth 20000 in
set_option maxHeartbeats 4000000 in
theorem R_X11_greatest : (∀ (lv : Nat) (st : List Value) (t : LX) (o0 : Option Value) (x : Int32) (w : AH), Ex M_X11_greatest lv 0 (o0 :: some (.int x) :: t) st w = Ex M_X11_greatest lv 1 (o0 :: some (.int x) :: t) (.int x :: st) w)
  ∧ (∀ (lv : Nat) (l : LX) (st : List Value) (w : AH), Ex M_X11_greatest lv 1 l st w = Ex M_X11_greatest lv 2 l (.int 0 :: st) w)
  ∧ (∀ (lv : Nat) (l : LX) (st : List Value) (w : AH), Ex M_X11_greatest lv 2 l st w = Ex M_X11_greatest lv 3 l (.int 1 :: st) w)
  ∧ (∀ (lv : Nat) (l : LX) (a0 : Int32) (a1 : Int32) (a2 : Int32) (w : AH), Ex M_X11_greatest lv 3 l (.int a2 :: .int a1 :: .int a0 :: []) w = if (Call M_X11_isWithin 60 [.int a0, .int a1, .int a2] w).isSome = true then Ex M_X11_greatest lv 6 l (pushR (cV (Call M_X11_isWithin 60 [.int a0, .int a1, .int a2] w)) []) (cW (Call M_X11_isWithin 60 [.int a0, .int a1, .int a2] w) w) else none)
  ∧ (∀ (lv : Nat) (l : LX) (st : List Value) (x : Int32) (w : AH), Ex M_X11_greatest lv 6 l (.int x :: st) w = if ¬ x = 0 then Ex M_X11_greatest lv 16 l st w else Ex M_X11_greatest lv 9 l st w)
  ∧ (∀ (lv : Nat) (st : List Value) (t : LX) (x : Nat) (w : AH), Ex M_X11_greatest lv 9 (some (.ref x) :: t) st w = Ex M_X11_greatest lv 10 (some (.ref x) :: t) (.ref x :: st) w)
  ∧ (∀ (lv : Nat) (st : List Value) (t : LX) (w : AH), Ex M_X11_greatest lv 9 (some (.null) :: t) st w = Ex M_X11_greatest lv 10 (some (.null) :: t) (.null :: st) w)
  ∧ (∀ (lv : Nat) (l : LX) (st : List Value) (w : AH), Ex M_X11_greatest lv 10 l st w = Ex M_X11_greatest lv 12 l (.int (-1000000001) :: st) w)
  ∧ (∀ (lv : Nat) (l : LX) (b : Nat) (a0 : Int32) (w : AH), Ex M_X11_greatest lv 12 l (.int a0 :: .ref b :: []) w = if clK (hg w b) = 10 then (if (Call M_X11_refuse 60 [.ref b, .int a0] w).isSome = true then Ex M_X11_greatest lv 15 l (pushR (cV (Call M_X11_refuse 60 [.ref b, .int a0] w)) []) (cW (Call M_X11_refuse 60 [.ref b, .int a0] w) w) else none) else none)
  ∧ (∀ (lv : Nat) (l : LX) (x : Int32) (w : AH), Ex M_X11_greatest lv 15 l [.int x] w = some (some (.int x), w))
  ∧ (∀ (lv : Nat) (st : List Value) (t : LX) (x : Nat) (w : AH), Ex M_X11_greatest lv 16 (some (.ref x) :: t) st w = Ex M_X11_greatest lv 17 (some (.ref x) :: t) (.ref x :: st) w)
  ∧ (∀ (lv : Nat) (st : List Value) (t : LX) (w : AH), Ex M_X11_greatest lv 16 (some (.null) :: t) st w = Ex M_X11_greatest lv 17 (some (.null) :: t) (.null :: st) w)
  ∧ (∀ (lv : Nat) (l : LX) (st : List Value) (a : Nat) (w : AH), Ex M_X11_greatest lv 17 l (.ref a :: st) w = if (gf (hg w a) 10 0).isSome = true then Ex M_X11_greatest lv 20 l (vV (gf (hg w a) 10 0) :: st) w else none)
  ∧ (∀ (lv : Nat) (l : LX) (st : List Value) (a : Nat) (w : AH), Ex M_X11_greatest lv 20 l (.ref a :: st) w = if (gf (hg w a) 1 0).isSome = true then Ex M_X11_greatest lv 23 l (vV (gf (hg w a) 1 0) :: st) w else none)
  ∧ (∀ (lv : Nat) (l : LX) (b : Nat) (w : AH), Ex M_X11_greatest lv 23 l (.ref b :: []) w = if clK (hg w b) = 0 then (if (Call M_X0_greatestLand 60 [.ref b] w).isSome = true then Ex M_X11_greatest lv 26 l (pushR (cV (Call M_X0_greatestLand 60 [.ref b] w)) []) (cW (Call M_X0_greatestLand 60 [.ref b] w) w) else none) else none)
  ∧ (∀ (lv : Nat) (l : LX) (st : List Value) (x : Int64) (w : AH), Ex M_X11_greatest lv 26 l (.long x :: st) w = Ex M_X11_greatest lv 27 (ls2 l 2 (.long x)) st w)
  ∧ (∀ (lv : Nat) (st : List Value) (t : LX) (o0 o1 : Option Value) (x : Int64) (w : AH), Ex M_X11_greatest lv 27 (o0 :: o1 :: some (.long x) :: t) st w = Ex M_X11_greatest lv 28 (o0 :: o1 :: some (.long x) :: t) (.long x :: st) w)
  ∧ (∀ (lv : Nat) (l : LX) (st : List Value) (w : AH), Ex M_X11_greatest lv 28 l st w = Ex M_X11_greatest lv 29 l (.long 0 :: st) w)
  ∧ (∀ (lv : Nat) (l : LX) (st : List Value) (x y : Int64) (w : AH), Ex M_X11_greatest lv 29 l (.long y :: .long x :: st) w = Ex M_X11_greatest lv 30 l (.int (lg_cmp x y) :: st) w)
  ∧ (∀ (lv : Nat) (l : LX) (st : List Value) (x : Int32) (w : AH), Ex M_X11_greatest lv 30 l (.int x :: st) w = if ¬ x = 0 then Ex M_X11_greatest lv 40 l st w else Ex M_X11_greatest lv 33 l st w)
  ∧ (∀ (lv : Nat) (st : List Value) (t : LX) (x : Nat) (w : AH), Ex M_X11_greatest lv 33 (some (.ref x) :: t) st w = Ex M_X11_greatest lv 34 (some (.ref x) :: t) (.ref x :: st) w)
  ∧ (∀ (lv : Nat) (st : List Value) (t : LX) (w : AH), Ex M_X11_greatest lv 33 (some (.null) :: t) st w = Ex M_X11_greatest lv 34 (some (.null) :: t) (.null :: st) w)
  ∧ (∀ (lv : Nat) (l : LX) (st : List Value) (w : AH), Ex M_X11_greatest lv 34 l st w = Ex M_X11_greatest lv 36 l (.int (-1000000002) :: st) w)
  ∧ (∀ (lv : Nat) (l : LX) (b : Nat) (a0 : Int32) (w : AH), Ex M_X11_greatest lv 36 l (.int a0 :: .ref b :: []) w = if clK (hg w b) = 10 then (if (Call M_X11_refuse 60 [.ref b, .int a0] w).isSome = true then Ex M_X11_greatest lv 39 l (pushR (cV (Call M_X11_refuse 60 [.ref b, .int a0] w)) []) (cW (Call M_X11_refuse 60 [.ref b, .int a0] w) w) else none) else none)
  ∧ (∀ (lv : Nat) (l : LX) (x : Int32) (w : AH), Ex M_X11_greatest lv 39 l [.int x] w = some (some (.int x), w))
  ∧ (∀ (lv : Nat) (st : List Value) (t : LX) (o0 : Option Value) (x : Int32) (w : AH), Ex M_X11_greatest lv 40 (o0 :: some (.int x) :: t) st w = Ex M_X11_greatest lv 41 (o0 :: some (.int x) :: t) (.int x :: st) w)
  ∧ (∀ (lv : Nat) (l : LX) (st : List Value) (x : Int32) (w : AH), Ex M_X11_greatest lv 41 l (.int x :: st) w = if ¬ x = 0 then Ex M_X11_greatest lv 51 l st w else Ex M_X11_greatest lv 44 l st w)
  ∧ (∀ (lv : Nat) (st : List Value) (t : LX) (o0 o1 : Option Value) (x : Int64) (w : AH), Ex M_X11_greatest lv 44 (o0 :: o1 :: some (.long x) :: t) st w = Ex M_X11_greatest lv 45 (o0 :: o1 :: some (.long x) :: t) (.long x :: st) w)
  ∧ (∀ (lv : Nat) (l : LX) (a0 : Int64) (w : AH), Ex M_X11_greatest lv 45 l (.long a0 :: []) w = if (Call M_J13_bitCount_95d88 60 [.long a0] w).isSome = true then Ex M_X11_greatest lv 48 l (pushR (cV (Call M_J13_bitCount_95d88 60 [.long a0] w)) []) (cW (Call M_J13_bitCount_95d88 60 [.long a0] w) w) else none)
  ∧ (∀ (lv : Nat) (l : LX) (st : List Value) (w : AH), Ex M_X11_greatest lv 48 l st w = Ex M_X11_greatest lv 55 l st w)
  ∧ (∀ (lv : Nat) (st : List Value) (t : LX) (o0 o1 : Option Value) (x : Int64) (w : AH), Ex M_X11_greatest lv 51 (o0 :: o1 :: some (.long x) :: t) st w = Ex M_X11_greatest lv 52 (o0 :: o1 :: some (.long x) :: t) (.long x :: st) w)
  ∧ (∀ (lv : Nat) (l : LX) (a0 : Int64) (w : AH), Ex M_X11_greatest lv 52 l (.long a0 :: []) w = if (Call M_X7_least 60 [.long a0] w).isSome = true then Ex M_X11_greatest lv 55 l (pushR (cV (Call M_X7_least 60 [.long a0] w)) []) (cW (Call M_X7_least 60 [.long a0] w) w) else none)
  ∧ (∀ (lv : Nat) (l : LX) (x : Int32) (w : AH), Ex M_X11_greatest lv 55 l [.int x] w = some (some (.int x), w)) :=
  ⟨(fun lv st t o0 x w => Ex_M (i := .iload_n 1) (n := 1) (by decide +kernel) rfl rfl rfl),
   (fun lv l st w => Ex_A (i := .iconst 0) (n := 1) (by decide +kernel) rfl rfl),
   (fun lv l st w => Ex_A (i := .iconst 1) (n := 1) (by decide +kernel) rfl rfl),
   (fun lv l a0 a1 a2 w => Ex_callS (by decide +kernel : decode M_X11_greatest.2.1 3 = .ok (.invokestatic 69, 3)) rfl (by rfl : resM (mCn M_X11_greatest) 69 = some (0, M_X11_isWithin)) (by decide) rfl (by rfl) (Nat.le_of_ble_eq_true rfl) (sLv_lt (by decide +kernel))),
   (fun lv l st x w => Ex_if_ne (by decide +kernel : decode M_X11_greatest.2.1 6 = .ok (.ifCond .ne 10, 3)) rfl rfl),
   (fun lv st t x w => Ex_M (i := .aload_n 0) (n := 1) (by decide +kernel) rfl rfl rfl),
   (fun lv st t w => Ex_M (i := .aload_n 0) (n := 1) (by decide +kernel) rfl rfl rfl),
   (fun lv l st w => Ex_ldcI (by decide +kernel : decode M_X11_greatest.2.1 10 = .ok (.ldc 73, 2)) rfl (by decide +kernel)),
   (fun lv l b a0 w => Ex_callV (by decide +kernel : decode M_X11_greatest.2.1 12 = .ok (.invokevirtual 74, 3)) rfl (by rfl : resM (mCn M_X11_greatest) 74 = some (2, M_X11_refuse)) rfl (by rfl) (Nat.le_of_ble_eq_true rfl) (by decide +kernel) (sLv_lt (by decide +kernel))),
   (fun lv l x w => Ex_R (i := .ireturn) (n := 1) (by decide +kernel) rfl rfl rfl rfl rfl),
   (fun lv st t x w => Ex_M (i := .aload_n 0) (n := 1) (by decide +kernel) rfl rfl rfl),
   (fun lv st t w => Ex_M (i := .aload_n 0) (n := 1) (by decide +kernel) rfl rfl rfl),
   (fun lv l st a w => Ex_getf (by decide +kernel : decode M_X11_greatest.2.1 17 = .ok (.getfield 12, 3)) rfl (by decide +kernel : resF (mCn M_X11_greatest) 12 = some (10, 0, (.object "CarpetLands$Country"), true))),
   (fun lv l st a w => Ex_getf (by decide +kernel : decode M_X11_greatest.2.1 20 = .ok (.getfield 78, 3)) rfl (by decide +kernel : resF (mCn M_X11_greatest) 78 = some (1, 0, (.object "CarpetLands$Carpet"), true))),
   (fun lv l b w => Ex_callV (by decide +kernel : decode M_X11_greatest.2.1 23 = .ok (.invokevirtual 214, 3)) rfl (by rfl : resM (mCn M_X11_greatest) 214 = some (2, M_X0_greatestLand)) rfl (by rfl) (Nat.le_of_ble_eq_true rfl) (by decide +kernel) (sLv_lt (by decide +kernel))),
   (fun lv l st x w => Ex_M (i := .lstore_n 2) (n := 1) (by decide +kernel) rfl rfl rfl),
   (fun lv st t o0 o1 x w => Ex_M (i := .lload_n 2) (n := 1) (by decide +kernel) rfl rfl rfl),
   (fun lv l st w => Ex_A (i := .lconst 0) (n := 1) (by decide +kernel) rfl rfl),
   (fun lv l st x y w => Ex_A (i := .lcmp) (n := 1) (by decide +kernel) rfl rfl),
   (fun lv l st x w => Ex_if_ne (by decide +kernel : decode M_X11_greatest.2.1 30 = .ok (.ifCond .ne 10, 3)) rfl rfl),
   (fun lv st t x w => Ex_M (i := .aload_n 0) (n := 1) (by decide +kernel) rfl rfl rfl),
   (fun lv st t w => Ex_M (i := .aload_n 0) (n := 1) (by decide +kernel) rfl rfl rfl),
   (fun lv l st w => Ex_ldcI (by decide +kernel : decode M_X11_greatest.2.1 34 = .ok (.ldc 218, 2)) rfl (by decide +kernel)),
   (fun lv l b a0 w => Ex_callV (by decide +kernel : decode M_X11_greatest.2.1 36 = .ok (.invokevirtual 74, 3)) rfl (by rfl : resM (mCn M_X11_greatest) 74 = some (2, M_X11_refuse)) rfl (by rfl) (Nat.le_of_ble_eq_true rfl) (by decide +kernel) (sLv_lt (by decide +kernel))),
   (fun lv l x w => Ex_R (i := .ireturn) (n := 1) (by decide +kernel) rfl rfl rfl rfl rfl),
   (fun lv st t o0 x w => Ex_M (i := .iload_n 1) (n := 1) (by decide +kernel) rfl rfl rfl),
   (fun lv l st x w => Ex_if_ne (by decide +kernel : decode M_X11_greatest.2.1 41 = .ok (.ifCond .ne 10, 3)) rfl rfl),
   (fun lv st t o0 o1 x w => Ex_M (i := .lload_n 2) (n := 1) (by decide +kernel) rfl rfl rfl),
   (fun lv l a0 w => Ex_callS (by decide +kernel : decode M_X11_greatest.2.1 45 = .ok (.invokestatic 107, 3)) rfl (by rfl : resM (mCn M_X11_greatest) 107 = some (0, M_J13_bitCount_95d88)) (by decide) rfl (by rfl) (Nat.le_of_ble_eq_true rfl) (sLv_lt (by decide +kernel))),
   (fun lv l st w => Ex_goto (by decide +kernel : decode M_X11_greatest.2.1 48 = .ok (.goto 7, 3)) rfl),
   (fun lv st t o0 o1 x w => Ex_M (i := .lload_n 2) (n := 1) (by decide +kernel) rfl rfl rfl),
   (fun lv l a0 w => Ex_callS (by decide +kernel : decode M_X11_greatest.2.1 52 = .ok (.invokestatic 113, 3)) rfl (by rfl : resM (mCn M_X11_greatest) 113 = some (0, M_X7_least)) (by decide) rfl (by rfl) (Nat.le_of_ble_eq_true rfl) (sLv_lt (by decide +kernel))),
   (fun lv l x w => Ex_R (i := .ireturn) (n := 1) (by decide +kernel) rfl rfl rfl rfl rfl)⟩
set_option maxRecDepth 20000 in
set_option maxHeartbeats 4000000 in
theorem R_X11_nextTo : (∀ (lv : Nat) (st : List Value) (t : LX) (o0 : Option Value) (x : Int32) (w : AH), Ex M_X11_nextTo lv 0 (o0 :: some (.int x) :: t) st w = Ex M_X11_nextTo lv 1 (o0 :: some (.int x) :: t) (.int x :: st) w)
  ∧ (∀ (lv : Nat) (l : LX) (a0 : Int32) (w : AH), Ex M_X11_nextTo lv 1 l (.int a0 :: []) w = if (Call M_X11_isKnot 60 [.int a0] w).isSome = true then Ex M_X11_nextTo lv 4 l (pushR (cV (Call M_X11_isKnot 60 [.int a0] w)) []) (cW (Call M_X11_isKnot 60 [.int a0] w) w) else none)
  ∧ (∀ (lv : Nat) (l : LX) (st : List Value) (x : Int32) (w : AH), Ex M_X11_nextTo lv 4 l (.int x :: st) w = if x = 0 then Ex M_X11_nextTo lv 21 l st w else Ex M_X11_nextTo lv 7 l st w)
  ∧ (∀ (lv : Nat) (st : List Value) (t : LX) (x : Nat) (w : AH), Ex M_X11_nextTo lv 7 (some (.ref x) :: t) st w = Ex M_X11_nextTo lv 8 (some (.ref x) :: t) (.ref x :: st) w)
  ∧ (∀ (lv : Nat) (st : List Value) (t : LX) (w : AH), Ex M_X11_nextTo lv 7 (some (.null) :: t) st w = Ex M_X11_nextTo lv 8 (some (.null) :: t) (.null :: st) w)
  ∧ (∀ (lv : Nat) (l : LX) (st : List Value) (a : Nat) (w : AH), Ex M_X11_nextTo lv 8 l (.ref a :: st) w = if (gf (hg w a) 10 0).isSome = true then Ex M_X11_nextTo lv 11 l (vV (gf (hg w a) 10 0) :: st) w else none)
  ∧ (∀ (lv : Nat) (l : LX) (st : List Value) (a : Nat) (w : AH), Ex M_X11_nextTo lv 11 l (.ref a :: st) w = if (gf (hg w a) 1 0).isSome = true then Ex M_X11_nextTo lv 14 l (vV (gf (hg w a) 1 0) :: st) w else none)
  ∧ (∀ (lv : Nat) (st : List Value) (t : LX) (o0 : Option Value) (x : Int32) (w : AH), Ex M_X11_nextTo lv 14 (o0 :: some (.int x) :: t) st w = Ex M_X11_nextTo lv 15 (o0 :: some (.int x) :: t) (.int x :: st) w)
  ∧ (∀ (lv : Nat) (l : LX) (b : Nat) (a0 : Int32) (w : AH), Ex M_X11_nextTo lv 15 l (.int a0 :: .ref b :: []) w = if clK (hg w b) = 0 then (if (Call M_X0_coloursBeside 60 [.ref b, .int a0] w).isSome = true then Ex M_X11_nextTo lv 18 l (pushR (cV (Call M_X0_coloursBeside 60 [.ref b, .int a0] w)) []) (cW (Call M_X0_coloursBeside 60 [.ref b, .int a0] w) w) else none) else none)
  ∧ (∀ (lv : Nat) (l : LX) (st : List Value) (w : AH), Ex M_X11_nextTo lv 18 l st w = Ex M_X11_nextTo lv 27 l st w)
  ∧ (∀ (lv : Nat) (st : List Value) (t : LX) (x : Nat) (w : AH), Ex M_X11_nextTo lv 21 (some (.ref x) :: t) st w = Ex M_X11_nextTo lv 22 (some (.ref x) :: t) (.ref x :: st) w)
  ∧ (∀ (lv : Nat) (st : List Value) (t : LX) (w : AH), Ex M_X11_nextTo lv 21 (some (.null) :: t) st w = Ex M_X11_nextTo lv 22 (some (.null) :: t) (.null :: st) w)
  ∧ (∀ (lv : Nat) (l : LX) (st : List Value) (w : AH), Ex M_X11_nextTo lv 22 l st w = Ex M_X11_nextTo lv 24 l (.int (-1000000001) :: st) w)
  ∧ (∀ (lv : Nat) (l : LX) (b : Nat) (a0 : Int32) (w : AH), Ex M_X11_nextTo lv 24 l (.int a0 :: .ref b :: []) w = if clK (hg w b) = 10 then (if (Call M_X11_refuse 60 [.ref b, .int a0] w).isSome = true then Ex M_X11_nextTo lv 27 l (pushR (cV (Call M_X11_refuse 60 [.ref b, .int a0] w)) []) (cW (Call M_X11_refuse 60 [.ref b, .int a0] w) w) else none) else none)
  ∧ (∀ (lv : Nat) (l : LX) (x : Int32) (w : AH), Ex M_X11_nextTo lv 27 l [.int x] w = some (some (.int x), w)) :=
  ⟨(fun lv st t o0 x w => Ex_M (i := .iload_n 1) (n := 1) (by decide +kernel) rfl rfl rfl),
   (fun lv l a0 w => Ex_callS (by decide +kernel : decode M_X11_nextTo.2.1 1 = .ok (.invokestatic 65, 3)) rfl (by rfl : resM (mCn M_X11_nextTo) 65 = some (0, M_X11_isKnot)) (by decide) rfl (by rfl) (Nat.le_of_ble_eq_true rfl) (sLv_lt (by decide +kernel))),
   (fun lv l st x w => Ex_if_eq (by decide +kernel : decode M_X11_nextTo.2.1 4 = .ok (.ifCond .eq 17, 3)) rfl rfl),
   (fun lv st t x w => Ex_M (i := .aload_n 0) (n := 1) (by decide +kernel) rfl rfl rfl),
   (fun lv st t w => Ex_M (i := .aload_n 0) (n := 1) (by decide +kernel) rfl rfl rfl),
   (fun lv l st a w => Ex_getf (by decide +kernel : decode M_X11_nextTo.2.1 8 = .ok (.getfield 12, 3)) rfl (by decide +kernel : resF (mCn M_X11_nextTo) 12 = some (10, 0, (.object "CarpetLands$Country"), true))),
   (fun lv l st a w => Ex_getf (by decide +kernel : decode M_X11_nextTo.2.1 11 = .ok (.getfield 78, 3)) rfl (by decide +kernel : resF (mCn M_X11_nextTo) 78 = some (1, 0, (.object "CarpetLands$Carpet"), true))),
   (fun lv st t o0 x w => Ex_M (i := .iload_n 1) (n := 1) (by decide +kernel) rfl rfl rfl),
   (fun lv l b a0 w => Ex_callV (by decide +kernel : decode M_X11_nextTo.2.1 15 = .ok (.invokevirtual 219, 3)) rfl (by rfl : resM (mCn M_X11_nextTo) 219 = some (2, M_X0_coloursBeside)) rfl (by rfl) (Nat.le_of_ble_eq_true rfl) (by decide +kernel) (sLv_lt (by decide +kernel))),
   (fun lv l st w => Ex_goto (by decide +kernel : decode M_X11_nextTo.2.1 18 = .ok (.goto 9, 3)) rfl),
   (fun lv st t x w => Ex_M (i := .aload_n 0) (n := 1) (by decide +kernel) rfl rfl rfl),
   (fun lv st t w => Ex_M (i := .aload_n 0) (n := 1) (by decide +kernel) rfl rfl rfl),
   (fun lv l st w => Ex_ldcI (by decide +kernel : decode M_X11_nextTo.2.1 22 = .ok (.ldc 73, 2)) rfl (by decide +kernel)),
   (fun lv l b a0 w => Ex_callV (by decide +kernel : decode M_X11_nextTo.2.1 24 = .ok (.invokevirtual 74, 3)) rfl (by rfl : resM (mCn M_X11_nextTo) 74 = some (2, M_X11_refuse)) rfl (by rfl) (Nat.le_of_ble_eq_true rfl) (by decide +kernel) (sLv_lt (by decide +kernel))),
   (fun lv l x w => Ex_R (i := .ireturn) (n := 1) (by decide +kernel) rfl rfl rfl rfl rfl)⟩
set_option maxRecDepth 20000 in
set_option maxHeartbeats 4000000 in
theorem R_X11_frontier : (∀ (lv : Nat) (st : List Value) (t : LX) (o0 : Option Value) (x : Int32) (w : AH), Ex M_X11_frontier lv 0 (o0 :: some (.int x) :: t) st w = Ex M_X11_frontier lv 1 (o0 :: some (.int x) :: t) (.int x :: st) w)
  ∧ (∀ (lv : Nat) (l : LX) (a0 : Int32) (w : AH), Ex M_X11_frontier lv 1 l (.int a0 :: []) w = if (Call M_X11_isColour 60 [.int a0] w).isSome = true then Ex M_X11_frontier lv 4 l (pushR (cV (Call M_X11_isColour 60 [.int a0] w)) []) (cW (Call M_X11_isColour 60 [.int a0] w) w) else none)
  ∧ (∀ (lv : Nat) (l : LX) (st : List Value) (x : Int32) (w : AH), Ex M_X11_frontier lv 4 l (.int x :: st) w = if x = 0 then Ex M_X11_frontier lv 19 l st w else Ex M_X11_frontier lv 7 l st w)
  ∧ (∀ (lv : Nat) (st : List Value) (t : LX) (o0 o1 : Option Value) (x : Int32) (w : AH), Ex M_X11_frontier lv 7 (o0 :: o1 :: some (.int x) :: t) st w = Ex M_X11_frontier lv 8 (o0 :: o1 :: some (.int x) :: t) (.int x :: st) w)
  ∧ (∀ (lv : Nat) (l : LX) (a0 : Int32) (w : AH), Ex M_X11_frontier lv 8 l (.int a0 :: []) w = if (Call M_X11_isColour 60 [.int a0] w).isSome = true then Ex M_X11_frontier lv 11 l (pushR (cV (Call M_X11_isColour 60 [.int a0] w)) []) (cW (Call M_X11_isColour 60 [.int a0] w) w) else none)
  ∧ (∀ (lv : Nat) (l : LX) (st : List Value) (x : Int32) (w : AH), Ex M_X11_frontier lv 11 l (.int x :: st) w = if x = 0 then Ex M_X11_frontier lv 19 l st w else Ex M_X11_frontier lv 14 l st w)
  ∧ (∀ (lv : Nat) (st : List Value) (t : LX) (o0 : Option Value) (x : Int32) (w : AH), Ex M_X11_frontier lv 14 (o0 :: some (.int x) :: t) st w = Ex M_X11_frontier lv 15 (o0 :: some (.int x) :: t) (.int x :: st) w)
  ∧ (∀ (lv : Nat) (st : List Value) (t : LX) (o0 o1 : Option Value) (x : Int32) (w : AH), Ex M_X11_frontier lv 15 (o0 :: o1 :: some (.int x) :: t) st w = Ex M_X11_frontier lv 16 (o0 :: o1 :: some (.int x) :: t) (.int x :: st) w)
  ∧ (∀ (lv : Nat) (l : LX) (st : List Value) (x y : Int32) (w : AH), Ex M_X11_frontier lv 16 l (.int y :: .int x :: st) w = if ¬ x = y then Ex M_X11_frontier lv 26 l st w else Ex M_X11_frontier lv 19 l st w)
  ∧ (∀ (lv : Nat) (st : List Value) (t : LX) (x : Nat) (w : AH), Ex M_X11_frontier lv 19 (some (.ref x) :: t) st w = Ex M_X11_frontier lv 20 (some (.ref x) :: t) (.ref x :: st) w)
  ∧ (∀ (lv : Nat) (st : List Value) (t : LX) (w : AH), Ex M_X11_frontier lv 19 (some (.null) :: t) st w = Ex M_X11_frontier lv 20 (some (.null) :: t) (.null :: st) w)
  ∧ (∀ (lv : Nat) (l : LX) (st : List Value) (w : AH), Ex M_X11_frontier lv 20 l st w = Ex M_X11_frontier lv 22 l (.int (-1000000001) :: st) w)
  ∧ (∀ (lv : Nat) (l : LX) (b : Nat) (a0 : Int32) (w : AH), Ex M_X11_frontier lv 22 l (.int a0 :: .ref b :: []) w = if clK (hg w b) = 10 then (if (Call M_X11_refuse 60 [.ref b, .int a0] w).isSome = true then Ex M_X11_frontier lv 25 l (pushR (cV (Call M_X11_refuse 60 [.ref b, .int a0] w)) []) (cW (Call M_X11_refuse 60 [.ref b, .int a0] w) w) else none) else none)
  ∧ (∀ (lv : Nat) (l : LX) (x : Int32) (w : AH), Ex M_X11_frontier lv 25 l [.int x] w = some (some (.int x), w))
  ∧ (∀ (lv : Nat) (st : List Value) (t : LX) (x : Nat) (w : AH), Ex M_X11_frontier lv 26 (some (.ref x) :: t) st w = Ex M_X11_frontier lv 27 (some (.ref x) :: t) (.ref x :: st) w)
  ∧ (∀ (lv : Nat) (st : List Value) (t : LX) (w : AH), Ex M_X11_frontier lv 26 (some (.null) :: t) st w = Ex M_X11_frontier lv 27 (some (.null) :: t) (.null :: st) w)
  ∧ (∀ (lv : Nat) (l : LX) (st : List Value) (a : Nat) (w : AH), Ex M_X11_frontier lv 27 l (.ref a :: st) w = if (gf (hg w a) 10 0).isSome = true then Ex M_X11_frontier lv 30 l (vV (gf (hg w a) 10 0) :: st) w else none)
  ∧ (∀ (lv : Nat) (l : LX) (st : List Value) (a : Nat) (w : AH), Ex M_X11_frontier lv 30 l (.ref a :: st) w = if (gf (hg w a) 1 0).isSome = true then Ex M_X11_frontier lv 33 l (vV (gf (hg w a) 1 0) :: st) w else none)
  ∧ (∀ (lv : Nat) (st : List Value) (t : LX) (o0 : Option Value) (x : Int32) (w : AH), Ex M_X11_frontier lv 33 (o0 :: some (.int x) :: t) st w = Ex M_X11_frontier lv 34 (o0 :: some (.int x) :: t) (.int x :: st) w)
  ∧ (∀ (lv : Nat) (st : List Value) (t : LX) (o0 o1 : Option Value) (x : Int32) (w : AH), Ex M_X11_frontier lv 34 (o0 :: o1 :: some (.int x) :: t) st w = Ex M_X11_frontier lv 35 (o0 :: o1 :: some (.int x) :: t) (.int x :: st) w)
  ∧ (∀ (lv : Nat) (l : LX) (b : Nat) (a0 : Int32) (a1 : Int32) (w : AH), Ex M_X11_frontier lv 35 l (.int a1 :: .int a0 :: .ref b :: []) w = if clK (hg w b) = 0 then (if (Call M_X0_countPairs 60 [.ref b, .int a0, .int a1] w).isSome = true then Ex M_X11_frontier lv 38 l (pushR (cV (Call M_X0_countPairs 60 [.ref b, .int a0, .int a1] w)) []) (cW (Call M_X0_countPairs 60 [.ref b, .int a0, .int a1] w) w) else none) else none)
  ∧ (∀ (lv : Nat) (l : LX) (x : Int32) (w : AH), Ex M_X11_frontier lv 38 l [.int x] w = some (some (.int x), w)) :=
  ⟨(fun lv st t o0 x w => Ex_M (i := .iload_n 1) (n := 1) (by decide +kernel) rfl rfl rfl),
   (fun lv l a0 w => Ex_callS (by decide +kernel : decode M_X11_frontier.2.1 1 = .ok (.invokestatic 222, 3)) rfl (by rfl : resM (mCn M_X11_frontier) 222 = some (0, M_X11_isColour)) (by decide) rfl (by rfl) (Nat.le_of_ble_eq_true rfl) (sLv_lt (by decide +kernel))),
   (fun lv l st x w => Ex_if_eq (by decide +kernel : decode M_X11_frontier.2.1 4 = .ok (.ifCond .eq 15, 3)) rfl rfl),
   (fun lv st t o0 o1 x w => Ex_M (i := .iload_n 2) (n := 1) (by decide +kernel) rfl rfl rfl),
   (fun lv l a0 w => Ex_callS (by decide +kernel : decode M_X11_frontier.2.1 8 = .ok (.invokestatic 222, 3)) rfl (by rfl : resM (mCn M_X11_frontier) 222 = some (0, M_X11_isColour)) (by decide) rfl (by rfl) (Nat.le_of_ble_eq_true rfl) (sLv_lt (by decide +kernel))),
   (fun lv l st x w => Ex_if_eq (by decide +kernel : decode M_X11_frontier.2.1 11 = .ok (.ifCond .eq 8, 3)) rfl rfl),
   (fun lv st t o0 x w => Ex_M (i := .iload_n 1) (n := 1) (by decide +kernel) rfl rfl rfl),
   (fun lv st t o0 o1 x w => Ex_M (i := .iload_n 2) (n := 1) (by decide +kernel) rfl rfl rfl),
   (fun lv l st x y w => Ex_icmp_ne (by decide +kernel : decode M_X11_frontier.2.1 16 = .ok (.if_icmp .ne 10, 3)) rfl rfl),
   (fun lv st t x w => Ex_M (i := .aload_n 0) (n := 1) (by decide +kernel) rfl rfl rfl),
   (fun lv st t w => Ex_M (i := .aload_n 0) (n := 1) (by decide +kernel) rfl rfl rfl),
   (fun lv l st w => Ex_ldcI (by decide +kernel : decode M_X11_frontier.2.1 20 = .ok (.ldc 73, 2)) rfl (by decide +kernel)),
   (fun lv l b a0 w => Ex_callV (by decide +kernel : decode M_X11_frontier.2.1 22 = .ok (.invokevirtual 74, 3)) rfl (by rfl : resM (mCn M_X11_frontier) 74 = some (2, M_X11_refuse)) rfl (by rfl) (Nat.le_of_ble_eq_true rfl) (by decide +kernel) (sLv_lt (by decide +kernel))),
   (fun lv l x w => Ex_R (i := .ireturn) (n := 1) (by decide +kernel) rfl rfl rfl rfl rfl),
   (fun lv st t x w => Ex_M (i := .aload_n 0) (n := 1) (by decide +kernel) rfl rfl rfl),
   (fun lv st t w => Ex_M (i := .aload_n 0) (n := 1) (by decide +kernel) rfl rfl rfl),
   (fun lv l st a w => Ex_getf (by decide +kernel : decode M_X11_frontier.2.1 27 = .ok (.getfield 12, 3)) rfl (by decide +kernel : resF (mCn M_X11_frontier) 12 = some (10, 0, (.object "CarpetLands$Country"), true))),
   (fun lv l st a w => Ex_getf (by decide +kernel : decode M_X11_frontier.2.1 30 = .ok (.getfield 78, 3)) rfl (by decide +kernel : resF (mCn M_X11_frontier) 78 = some (1, 0, (.object "CarpetLands$Carpet"), true))),
   (fun lv st t o0 x w => Ex_M (i := .iload_n 1) (n := 1) (by decide +kernel) rfl rfl rfl),
   (fun lv st t o0 o1 x w => Ex_M (i := .iload_n 2) (n := 1) (by decide +kernel) rfl rfl rfl),
   (fun lv l b a0 a1 w => Ex_callV (by decide +kernel : decode M_X11_frontier.2.1 35 = .ok (.invokevirtual 225, 3)) rfl (by rfl : resM (mCn M_X11_frontier) 225 = some (2, M_X0_countPairs)) rfl (by rfl) (Nat.le_of_ble_eq_true rfl) (by decide +kernel) (sLv_lt (by decide +kernel))),
   (fun lv l x w => Ex_R (i := .ireturn) (n := 1) (by decide +kernel) rfl rfl rfl rfl rfl)⟩
set_option maxRecDepth 20000 in
set_option maxHeartbeats 4000000 in
theorem R_X11_slips : (∀ (lv : Nat) (st : List Value) (t : LX) (x : Nat) (w : AH), Ex M_X11_slips lv 0 (some (.ref x) :: t) st w = Ex M_X11_slips lv 1 (some (.ref x) :: t) (.ref x :: st) w)
  ∧ (∀ (lv : Nat) (st : List Value) (t : LX) (w : AH), Ex M_X11_slips lv 0 (some (.null) :: t) st w = Ex M_X11_slips lv 1 (some (.null) :: t) (.null :: st) w)
  ∧ (∀ (lv : Nat) (l : LX) (st : List Value) (a : Nat) (w : AH), Ex M_X11_slips lv 1 l (.ref a :: st) w = if (gf (hg w a) 10 0).isSome = true then Ex M_X11_slips lv 4 l (vV (gf (hg w a) 10 0) :: st) w else none)
  ∧ (∀ (lv : Nat) (l : LX) (b : Nat) (w : AH), Ex M_X11_slips lv 4 l (.ref b :: []) w = if clK (hg w b) = 1 then (if (Call M_X1_countSlips 60 [.ref b] w).isSome = true then Ex M_X11_slips lv 7 l (pushR (cV (Call M_X1_countSlips 60 [.ref b] w)) []) (cW (Call M_X1_countSlips 60 [.ref b] w) w) else none) else none)
  ∧ (∀ (lv : Nat) (l : LX) (x : Int32) (w : AH), Ex M_X11_slips lv 7 l [.int x] w = some (some (.int x), w)) :=
  ⟨(fun lv st t x w => Ex_M (i := .aload_n 0) (n := 1) (by decide +kernel) rfl rfl rfl),
   (fun lv st t w => Ex_M (i := .aload_n 0) (n := 1) (by decide +kernel) rfl rfl rfl),
   (fun lv l st a w => Ex_getf (by decide +kernel : decode M_X11_slips.2.1 1 = .ok (.getfield 12, 3)) rfl (by decide +kernel : resF (mCn M_X11_slips) 12 = some (10, 0, (.object "CarpetLands$Country"), true))),
   (fun lv l b w => Ex_callV (by decide +kernel : decode M_X11_slips.2.1 4 = .ok (.invokevirtual 118, 3)) rfl (by rfl : resM (mCn M_X11_slips) 118 = some (2, M_X1_countSlips)) rfl (by rfl) (Nat.le_of_ble_eq_true rfl) (by decide +kernel) (sLv_lt (by decide +kernel))),
   (fun lv l x w => Ex_R (i := .ireturn) (n := 1) (by decide +kernel) rfl rfl rfl rfl rfl)⟩
set_option maxRecDepth 20000 in
set_option maxHeartbeats 4000000 in
theorem R_X11_mends : (∀ (lv : Nat) (st : List Value) (t : LX) (o0 : Option Value) (x : Int32) (w : AH), Ex M_X11_mends lv 0 (o0 :: some (.int x) :: t) st w = Ex M_X11_mends lv 1 (o0 :: some (.int x) :: t) (.int x :: st) w)
  ∧ (∀ (lv : Nat) (l : LX) (a0 : Int32) (w : AH), Ex M_X11_mends lv 1 l (.int a0 :: []) w = if (Call M_X11_isColour 60 [.int a0] w).isSome = true then Ex M_X11_mends lv 4 l (pushR (cV (Call M_X11_isColour 60 [.int a0] w)) []) (cW (Call M_X11_isColour 60 [.int a0] w) w) else none)
  ∧ (∀ (lv : Nat) (l : LX) (st : List Value) (x : Int32) (w : AH), Ex M_X11_mends lv 4 l (.int x :: st) w = if x = 0 then Ex M_X11_mends lv 22 l st w else Ex M_X11_mends lv 7 l st w)
  ∧ (∀ (lv : Nat) (st : List Value) (t : LX) (o0 : Option Value) (x : Int32) (w : AH), Ex M_X11_mends lv 7 (o0 :: some (.int x) :: t) st w = Ex M_X11_mends lv 8 (o0 :: some (.int x) :: t) (.int x :: st) w)
  ∧ (∀ (lv : Nat) (l : LX) (st : List Value) (x : Int32) (w : AH), Ex M_X11_mends lv 8 l (.int x :: st) w = if x = 0 then Ex M_X11_mends lv 22 l st w else Ex M_X11_mends lv 11 l st w)
  ∧ (∀ (lv : Nat) (st : List Value) (t : LX) (x : Nat) (w : AH), Ex M_X11_mends lv 11 (some (.ref x) :: t) st w = Ex M_X11_mends lv 12 (some (.ref x) :: t) (.ref x :: st) w)
  ∧ (∀ (lv : Nat) (st : List Value) (t : LX) (w : AH), Ex M_X11_mends lv 11 (some (.null) :: t) st w = Ex M_X11_mends lv 12 (some (.null) :: t) (.null :: st) w)
  ∧ (∀ (lv : Nat) (l : LX) (st : List Value) (a : Nat) (w : AH), Ex M_X11_mends lv 12 l (.ref a :: st) w = if (gf (hg w a) 10 0).isSome = true then Ex M_X11_mends lv 15 l (vV (gf (hg w a) 10 0) :: st) w else none)
  ∧ (∀ (lv : Nat) (st : List Value) (t : LX) (o0 : Option Value) (x : Int32) (w : AH), Ex M_X11_mends lv 15 (o0 :: some (.int x) :: t) st w = Ex M_X11_mends lv 16 (o0 :: some (.int x) :: t) (.int x :: st) w)
  ∧ (∀ (lv : Nat) (l : LX) (b : Nat) (a0 : Int32) (w : AH), Ex M_X11_mends lv 16 l (.int a0 :: .ref b :: []) w = if clK (hg w b) = 1 then (if (Call M_X1_countMends 60 [.ref b, .int a0] w).isSome = true then Ex M_X11_mends lv 19 l (pushR (cV (Call M_X1_countMends 60 [.ref b, .int a0] w)) []) (cW (Call M_X1_countMends 60 [.ref b, .int a0] w) w) else none) else none)
  ∧ (∀ (lv : Nat) (l : LX) (st : List Value) (w : AH), Ex M_X11_mends lv 19 l st w = Ex M_X11_mends lv 28 l st w)
  ∧ (∀ (lv : Nat) (st : List Value) (t : LX) (x : Nat) (w : AH), Ex M_X11_mends lv 22 (some (.ref x) :: t) st w = Ex M_X11_mends lv 23 (some (.ref x) :: t) (.ref x :: st) w)
  ∧ (∀ (lv : Nat) (st : List Value) (t : LX) (w : AH), Ex M_X11_mends lv 22 (some (.null) :: t) st w = Ex M_X11_mends lv 23 (some (.null) :: t) (.null :: st) w)
  ∧ (∀ (lv : Nat) (l : LX) (st : List Value) (w : AH), Ex M_X11_mends lv 23 l st w = Ex M_X11_mends lv 25 l (.int (-1000000001) :: st) w)
  ∧ (∀ (lv : Nat) (l : LX) (b : Nat) (a0 : Int32) (w : AH), Ex M_X11_mends lv 25 l (.int a0 :: .ref b :: []) w = if clK (hg w b) = 10 then (if (Call M_X11_refuse 60 [.ref b, .int a0] w).isSome = true then Ex M_X11_mends lv 28 l (pushR (cV (Call M_X11_refuse 60 [.ref b, .int a0] w)) []) (cW (Call M_X11_refuse 60 [.ref b, .int a0] w) w) else none) else none)
  ∧ (∀ (lv : Nat) (l : LX) (x : Int32) (w : AH), Ex M_X11_mends lv 28 l [.int x] w = some (some (.int x), w)) :=
  ⟨(fun lv st t o0 x w => Ex_M (i := .iload_n 1) (n := 1) (by decide +kernel) rfl rfl rfl),
   (fun lv l a0 w => Ex_callS (by decide +kernel : decode M_X11_mends.2.1 1 = .ok (.invokestatic 222, 3)) rfl (by rfl : resM (mCn M_X11_mends) 222 = some (0, M_X11_isColour)) (by decide) rfl (by rfl) (Nat.le_of_ble_eq_true rfl) (sLv_lt (by decide +kernel))),
   (fun lv l st x w => Ex_if_eq (by decide +kernel : decode M_X11_mends.2.1 4 = .ok (.ifCond .eq 18, 3)) rfl rfl),
   (fun lv st t o0 x w => Ex_M (i := .iload_n 1) (n := 1) (by decide +kernel) rfl rfl rfl),
   (fun lv l st x w => Ex_if_eq (by decide +kernel : decode M_X11_mends.2.1 8 = .ok (.ifCond .eq 14, 3)) rfl rfl),
   (fun lv st t x w => Ex_M (i := .aload_n 0) (n := 1) (by decide +kernel) rfl rfl rfl),
   (fun lv st t w => Ex_M (i := .aload_n 0) (n := 1) (by decide +kernel) rfl rfl rfl),
   (fun lv l st a w => Ex_getf (by decide +kernel : decode M_X11_mends.2.1 12 = .ok (.getfield 12, 3)) rfl (by decide +kernel : resF (mCn M_X11_mends) 12 = some (10, 0, (.object "CarpetLands$Country"), true))),
   (fun lv st t o0 x w => Ex_M (i := .iload_n 1) (n := 1) (by decide +kernel) rfl rfl rfl),
   (fun lv l b a0 w => Ex_callV (by decide +kernel : decode M_X11_mends.2.1 16 = .ok (.invokevirtual 228, 3)) rfl (by rfl : resM (mCn M_X11_mends) 228 = some (2, M_X1_countMends)) rfl (by rfl) (Nat.le_of_ble_eq_true rfl) (by decide +kernel) (sLv_lt (by decide +kernel))),
   (fun lv l st w => Ex_goto (by decide +kernel : decode M_X11_mends.2.1 19 = .ok (.goto 9, 3)) rfl),
   (fun lv st t x w => Ex_M (i := .aload_n 0) (n := 1) (by decide +kernel) rfl rfl rfl),
   (fun lv st t w => Ex_M (i := .aload_n 0) (n := 1) (by decide +kernel) rfl rfl rfl),
   (fun lv l st w => Ex_ldcI (by decide +kernel : decode M_X11_mends.2.1 23 = .ok (.ldc 73, 2)) rfl (by decide +kernel)),
   (fun lv l b a0 w => Ex_callV (by decide +kernel : decode M_X11_mends.2.1 25 = .ok (.invokevirtual 74, 3)) rfl (by rfl : resM (mCn M_X11_mends) 74 = some (2, M_X11_refuse)) rfl (by rfl) (Nat.le_of_ble_eq_true rfl) (by decide +kernel) (sLv_lt (by decide +kernel))),
   (fun lv l x w => Ex_R (i := .ireturn) (n := 1) (by decide +kernel) rfl rfl rfl rfl rfl)⟩
set_option maxRecDepth 20000 in
set_option maxHeartbeats 4000000 in
theorem R_X11_again : (∀ (lv : Nat) (st : List Value) (t : LX) (o0 : Option Value) (x : Int32) (w : AH), Ex M_X11_again lv 0 (o0 :: some (.int x) :: t) st w = Ex M_X11_again lv 1 (o0 :: some (.int x) :: t) (.int x :: st) w)
  ∧ (∀ (lv : Nat) (l : LX) (st : List Value) (w : AH), Ex M_X11_again lv 1 l st w = Ex M_X11_again lv 2 l (.int 0 :: st) w)
  ∧ (∀ (lv : Nat) (l : LX) (st : List Value) (w : AH), Ex M_X11_again lv 2 l st w = Ex M_X11_again lv 3 l (.int 1 :: st) w)
  ∧ (∀ (lv : Nat) (l : LX) (a0 : Int32) (a1 : Int32) (a2 : Int32) (w : AH), Ex M_X11_again lv 3 l (.int a2 :: .int a1 :: .int a0 :: []) w = if (Call M_X11_isWithin 60 [.int a0, .int a1, .int a2] w).isSome = true then Ex M_X11_again lv 6 l (pushR (cV (Call M_X11_isWithin 60 [.int a0, .int a1, .int a2] w)) []) (cW (Call M_X11_isWithin 60 [.int a0, .int a1, .int a2] w) w) else none)
  ∧ (∀ (lv : Nat) (l : LX) (st : List Value) (x : Int32) (w : AH), Ex M_X11_again lv 6 l (.int x :: st) w = if ¬ x = 0 then Ex M_X11_again lv 16 l st w else Ex M_X11_again lv 9 l st w)
  ∧ (∀ (lv : Nat) (st : List Value) (t : LX) (x : Nat) (w : AH), Ex M_X11_again lv 9 (some (.ref x) :: t) st w = Ex M_X11_again lv 10 (some (.ref x) :: t) (.ref x :: st) w)
  ∧ (∀ (lv : Nat) (st : List Value) (t : LX) (w : AH), Ex M_X11_again lv 9 (some (.null) :: t) st w = Ex M_X11_again lv 10 (some (.null) :: t) (.null :: st) w)
  ∧ (∀ (lv : Nat) (l : LX) (st : List Value) (w : AH), Ex M_X11_again lv 10 l st w = Ex M_X11_again lv 12 l (.int (-1000000001) :: st) w)
  ∧ (∀ (lv : Nat) (l : LX) (b : Nat) (a0 : Int32) (w : AH), Ex M_X11_again lv 12 l (.int a0 :: .ref b :: []) w = if clK (hg w b) = 10 then (if (Call M_X11_refuse 60 [.ref b, .int a0] w).isSome = true then Ex M_X11_again lv 15 l (pushR (cV (Call M_X11_refuse 60 [.ref b, .int a0] w)) []) (cW (Call M_X11_refuse 60 [.ref b, .int a0] w) w) else none) else none)
  ∧ (∀ (lv : Nat) (l : LX) (x : Int32) (w : AH), Ex M_X11_again lv 15 l [.int x] w = some (some (.int x), w))
  ∧ (∀ (lv : Nat) (st : List Value) (t : LX) (x : Nat) (w : AH), Ex M_X11_again lv 16 (some (.ref x) :: t) st w = Ex M_X11_again lv 17 (some (.ref x) :: t) (.ref x :: st) w)
  ∧ (∀ (lv : Nat) (st : List Value) (t : LX) (w : AH), Ex M_X11_again lv 16 (some (.null) :: t) st w = Ex M_X11_again lv 17 (some (.null) :: t) (.null :: st) w)
  ∧ (∀ (lv : Nat) (l : LX) (st : List Value) (a : Nat) (w : AH), Ex M_X11_again lv 17 l (.ref a :: st) w = if (gf (hg w a) 10 0).isSome = true then Ex M_X11_again lv 20 l (vV (gf (hg w a) 10 0) :: st) w else none)
  ∧ (∀ (lv : Nat) (l : LX) (st : List Value) (a : Nat) (w : AH), Ex M_X11_again lv 20 l (.ref a :: st) w = if (gf (hg w a) 1 0).isSome = true then Ex M_X11_again lv 23 l (vV (gf (hg w a) 1 0) :: st) w else none)
  ∧ (∀ (lv : Nat) (st : List Value) (t : LX) (o0 : Option Value) (x : Int32) (w : AH), Ex M_X11_again lv 23 (o0 :: some (.int x) :: t) st w = Ex M_X11_again lv 24 (o0 :: some (.int x) :: t) (.int x :: st) w)
  ∧ (∀ (lv : Nat) (l : LX) (st : List Value) (x : Int32) (w : AH), Ex M_X11_again lv 24 l (.int x :: st) w = if ¬ x = 0 then Ex M_X11_again lv 31 l st w else Ex M_X11_again lv 27 l st w)
  ∧ (∀ (lv : Nat) (l : LX) (st : List Value) (w : AH), Ex M_X11_again lv 27 l st w = Ex M_X11_again lv 28 l (.int 1 :: st) w)
  ∧ (∀ (lv : Nat) (l : LX) (st : List Value) (w : AH), Ex M_X11_again lv 28 l st w = Ex M_X11_again lv 32 l st w)
  ∧ (∀ (lv : Nat) (l : LX) (st : List Value) (w : AH), Ex M_X11_again lv 31 l st w = Ex M_X11_again lv 32 l (.int 0 :: st) w)
  ∧ (∀ (lv : Nat) (l : LX) (b : Nat) (a0 : Int32) (w : AH), Ex M_X11_again lv 32 l (.int a0 :: .ref b :: []) w = if clK (hg w b) = 0 then (if (Call M_X0_leastPeriod 60 [.ref b, .int a0] w).isSome = true then Ex M_X11_again lv 35 l (pushR (cV (Call M_X0_leastPeriod 60 [.ref b, .int a0] w)) []) (cW (Call M_X0_leastPeriod 60 [.ref b, .int a0] w) w) else none) else none)
  ∧ (∀ (lv : Nat) (l : LX) (x : Int32) (w : AH), Ex M_X11_again lv 35 l [.int x] w = some (some (.int x), w)) :=
  ⟨(fun lv st t o0 x w => Ex_M (i := .iload_n 1) (n := 1) (by decide +kernel) rfl rfl rfl),
   (fun lv l st w => Ex_A (i := .iconst 0) (n := 1) (by decide +kernel) rfl rfl),
   (fun lv l st w => Ex_A (i := .iconst 1) (n := 1) (by decide +kernel) rfl rfl),
   (fun lv l a0 a1 a2 w => Ex_callS (by decide +kernel : decode M_X11_again.2.1 3 = .ok (.invokestatic 69, 3)) rfl (by rfl : resM (mCn M_X11_again) 69 = some (0, M_X11_isWithin)) (by decide) rfl (by rfl) (Nat.le_of_ble_eq_true rfl) (sLv_lt (by decide +kernel))),
   (fun lv l st x w => Ex_if_ne (by decide +kernel : decode M_X11_again.2.1 6 = .ok (.ifCond .ne 10, 3)) rfl rfl),
   (fun lv st t x w => Ex_M (i := .aload_n 0) (n := 1) (by decide +kernel) rfl rfl rfl),
   (fun lv st t w => Ex_M (i := .aload_n 0) (n := 1) (by decide +kernel) rfl rfl rfl),
   (fun lv l st w => Ex_ldcI (by decide +kernel : decode M_X11_again.2.1 10 = .ok (.ldc 73, 2)) rfl (by decide +kernel)),
   (fun lv l b a0 w => Ex_callV (by decide +kernel : decode M_X11_again.2.1 12 = .ok (.invokevirtual 74, 3)) rfl (by rfl : resM (mCn M_X11_again) 74 = some (2, M_X11_refuse)) rfl (by rfl) (Nat.le_of_ble_eq_true rfl) (by decide +kernel) (sLv_lt (by decide +kernel))),
   (fun lv l x w => Ex_R (i := .ireturn) (n := 1) (by decide +kernel) rfl rfl rfl rfl rfl),
   (fun lv st t x w => Ex_M (i := .aload_n 0) (n := 1) (by decide +kernel) rfl rfl rfl),
   (fun lv st t w => Ex_M (i := .aload_n 0) (n := 1) (by decide +kernel) rfl rfl rfl),
   (fun lv l st a w => Ex_getf (by decide +kernel : decode M_X11_again.2.1 17 = .ok (.getfield 12, 3)) rfl (by decide +kernel : resF (mCn M_X11_again) 12 = some (10, 0, (.object "CarpetLands$Country"), true))),
   (fun lv l st a w => Ex_getf (by decide +kernel : decode M_X11_again.2.1 20 = .ok (.getfield 78, 3)) rfl (by decide +kernel : resF (mCn M_X11_again) 78 = some (1, 0, (.object "CarpetLands$Carpet"), true))),
   (fun lv st t o0 x w => Ex_M (i := .iload_n 1) (n := 1) (by decide +kernel) rfl rfl rfl),
   (fun lv l st x w => Ex_if_ne (by decide +kernel : decode M_X11_again.2.1 24 = .ok (.ifCond .ne 7, 3)) rfl rfl),
   (fun lv l st w => Ex_A (i := .iconst 1) (n := 1) (by decide +kernel) rfl rfl),
   (fun lv l st w => Ex_goto (by decide +kernel : decode M_X11_again.2.1 28 = .ok (.goto 4, 3)) rfl),
   (fun lv l st w => Ex_A (i := .iconst 0) (n := 1) (by decide +kernel) rfl rfl),
   (fun lv l b a0 w => Ex_callV (by decide +kernel : decode M_X11_again.2.1 32 = .ok (.invokevirtual 231, 3)) rfl (by rfl : resM (mCn M_X11_again) 231 = some (2, M_X0_leastPeriod)) rfl (by rfl) (Nat.le_of_ble_eq_true rfl) (by decide +kernel) (sLv_lt (by decide +kernel))),
   (fun lv l x w => Ex_R (i := .ireturn) (n := 1) (by decide +kernel) rfl rfl rfl rfl rfl)⟩
set_option maxRecDepth 20000 in
theorem H_X11_stays_4 : ∀ (lv : Nat) (st : List Value) (t : LX) (o0 o1 : Option Value) (x : Int32) (w : AH), Ex M_X11_stays lv 4 (o0 :: o1 :: some (.int x) :: t) st w = Ex M_X11_stays lv 5 (o0 :: o1 :: some (.int x) :: t) (.int x :: st) w := fun lv st t o0 o1 x w => Ex_M (i := .iload_n 2) (n := 1) (by decide +kernel) rfl rfl rfl
set_option maxRecDepth 20000 in
set_option maxHeartbeats 4000000 in
theorem R_X11_stays : (∀ (lv : Nat) (l : LX) (st : List Value) (w : AH), Ex M_X11_stays lv 0 l st w = Ex M_X11_stays lv 1 l (.int 0 :: st) w)
  ∧ (∀ (lv : Nat) (l : LX) (st : List Value) (x : Int32) (w : AH), Ex M_X11_stays lv 1 l (.int x :: st) w = Ex M_X11_stays lv 2 (ls1 l 1 (.int x)) st w)
  ∧ (∀ (lv : Nat) (l : LX) (st : List Value) (w : AH), Ex M_X11_stays lv 2 l st w = Ex M_X11_stays lv 3 l (.int 0 :: st) w)
  ∧ (∀ (lv : Nat) (l : LX) (st : List Value) (x : Int32) (w : AH), Ex M_X11_stays lv 3 l (.int x :: st) w = Ex M_X11_stays lv 4 (ls1 l 2 (.int x)) st w)
  ∧ (∀ (lv : Nat) (l : LX) (st : List Value) (w : AH), Ex M_X11_stays lv 5 l st w = Ex M_X11_stays lv 7 l (.int 8 :: st) w)
  ∧ (∀ (lv : Nat) (l : LX) (st : List Value) (x y : Int32) (w : AH), Ex M_X11_stays lv 7 l (.int y :: .int x :: st) w = if y ≤ x then Ex M_X11_stays lv 36 l st w else Ex M_X11_stays lv 10 l st w)
  ∧ (∀ (lv : Nat) (st : List Value) (t : LX) (x : Nat) (w : AH), Ex M_X11_stays lv 10 (some (.ref x) :: t) st w = Ex M_X11_stays lv 11 (some (.ref x) :: t) (.ref x :: st) w)
  ∧ (∀ (lv : Nat) (st : List Value) (t : LX) (w : AH), Ex M_X11_stays lv 10 (some (.null) :: t) st w = Ex M_X11_stays lv 11 (some (.null) :: t) (.null :: st) w)
  ∧ (∀ (lv : Nat) (l : LX) (st : List Value) (a : Nat) (w : AH), Ex M_X11_stays lv 11 l (.ref a :: st) w = if (gf (hg w a) 10 0).isSome = true then Ex M_X11_stays lv 14 l (vV (gf (hg w a) 10 0) :: st) w else none)
  ∧ (∀ (lv : Nat) (l : LX) (st : List Value) (a : Nat) (w : AH), Ex M_X11_stays lv 14 l (.ref a :: st) w = if (gf (hg w a) 1 0).isSome = true then Ex M_X11_stays lv 17 l (vV (gf (hg w a) 1 0) :: st) w else none)
  ∧ (∀ (lv : Nat) (st : List Value) (t : LX) (o0 o1 : Option Value) (x : Int32) (w : AH), Ex M_X11_stays lv 17 (o0 :: o1 :: some (.int x) :: t) st w = Ex M_X11_stays lv 18 (o0 :: o1 :: some (.int x) :: t) (.int x :: st) w)
  ∧ (∀ (lv : Nat) (l : LX) (b : Nat) (a0 : Int32) (w : AH), Ex M_X11_stays lv 18 l (.int a0 :: .ref b :: []) w = if clK (hg w b) = 0 then (if (Call M_X0_staysBy 60 [.ref b, .int a0] w).isSome = true then Ex M_X11_stays lv 21 l (pushR (cV (Call M_X0_staysBy 60 [.ref b, .int a0] w)) []) (cW (Call M_X0_staysBy 60 [.ref b, .int a0] w) w) else none) else none)
  ∧ (∀ (lv : Nat) (l : LX) (st : List Value) (x : Int32) (w : AH), Ex M_X11_stays lv 21 l (.int x :: st) w = if x = 0 then Ex M_X11_stays lv 30 l st w else Ex M_X11_stays lv 24 l st w)
  ∧ (∀ (lv : Nat) (st : List Value) (t : LX) (o0 : Option Value) (x : Int32) (w : AH), Ex M_X11_stays lv 24 (o0 :: some (.int x) :: t) st w = Ex M_X11_stays lv 25 (o0 :: some (.int x) :: t) (.int x :: st) w)
  ∧ (∀ (lv : Nat) (l : LX) (st : List Value) (w : AH), Ex M_X11_stays lv 25 l st w = Ex M_X11_stays lv 26 l (.int 1 :: st) w)
  ∧ (∀ (lv : Nat) (st : List Value) (t : LX) (o0 o1 : Option Value) (x : Int32) (w : AH), Ex M_X11_stays lv 26 (o0 :: o1 :: some (.int x) :: t) st w = Ex M_X11_stays lv 27 (o0 :: o1 :: some (.int x) :: t) (.int x :: st) w)
  ∧ (∀ (lv : Nat) (l : LX) (st : List Value) (x y : Int32) (w : AH), Ex M_X11_stays lv 27 l (.int y :: .int x :: st) w = Ex M_X11_stays lv 28 l (.int (x <<< (y &&& 31)) :: st) w)
  ∧ (∀ (lv : Nat) (l : LX) (st : List Value) (x y : Int32) (w : AH), Ex M_X11_stays lv 28 l (.int y :: .int x :: st) w = Ex M_X11_stays lv 29 l (.int (x ||| y) :: st) w)
  ∧ (∀ (lv : Nat) (l : LX) (st : List Value) (x : Int32) (w : AH), Ex M_X11_stays lv 29 l (.int x :: st) w = Ex M_X11_stays lv 30 (ls1 l 1 (.int x)) st w)
  ∧ (∀ (lv : Nat) (st : List Value) (t : LX) (o0 o1 : Option Value) (x : Int32) (w : AH), Ex M_X11_stays lv 30 (o0 :: o1 :: some (.int x) :: t) st w = Ex M_X11_stays lv 33 (ls1 (o0 :: o1 :: some (.int x) :: t) 2 (.int (x + 1))) st w)
  ∧ (∀ (lv : Nat) (l : LX) (st : List Value) (w : AH), Ex M_X11_stays lv 33 l st w = Ex M_X11_stays lv 4 l st w)
  ∧ (∀ (lv : Nat) (st : List Value) (t : LX) (o0 : Option Value) (x : Int32) (w : AH), Ex M_X11_stays lv 36 (o0 :: some (.int x) :: t) st w = Ex M_X11_stays lv 37 (o0 :: some (.int x) :: t) (.int x :: st) w)
  ∧ (∀ (lv : Nat) (l : LX) (x : Int32) (w : AH), Ex M_X11_stays lv 37 l [.int x] w = some (some (.int x), w)) :=
  ⟨(fun lv l st w => Ex_A (i := .iconst 0) (n := 1) (by decide +kernel) rfl rfl),
   (fun lv l st x w => Ex_M (i := .istore_n 1) (n := 1) (by decide +kernel) rfl rfl rfl),
   (fun lv l st w => Ex_A (i := .iconst 0) (n := 1) (by decide +kernel) rfl rfl),
   (fun lv l st x w => Ex_M (i := .istore_n 2) (n := 1) (by decide +kernel) rfl rfl rfl),
   (fun lv l st w => Ex_A (i := .bipush 8) (n := 2) (by decide +kernel) rfl rfl),
   (fun lv l st x y w => Ex_icmp_ge (by decide +kernel : decode M_X11_stays.2.1 7 = .ok (.if_icmp .ge 29, 3)) rfl rfl),
   (fun lv st t x w => Ex_M (i := .aload_n 0) (n := 1) (by decide +kernel) rfl rfl rfl),
   (fun lv st t w => Ex_M (i := .aload_n 0) (n := 1) (by decide +kernel) rfl rfl rfl),
   (fun lv l st a w => Ex_getf (by decide +kernel : decode M_X11_stays.2.1 11 = .ok (.getfield 12, 3)) rfl (by decide +kernel : resF (mCn M_X11_stays) 12 = some (10, 0, (.object "CarpetLands$Country"), true))),
   (fun lv l st a w => Ex_getf (by decide +kernel : decode M_X11_stays.2.1 14 = .ok (.getfield 78, 3)) rfl (by decide +kernel : resF (mCn M_X11_stays) 78 = some (1, 0, (.object "CarpetLands$Carpet"), true))),
   (fun lv st t o0 o1 x w => Ex_M (i := .iload_n 2) (n := 1) (by decide +kernel) rfl rfl rfl),
   (fun lv l b a0 w => Ex_callV (by decide +kernel : decode M_X11_stays.2.1 18 = .ok (.invokevirtual 235, 3)) rfl (by rfl : resM (mCn M_X11_stays) 235 = some (2, M_X0_staysBy)) rfl (by rfl) (Nat.le_of_ble_eq_true rfl) (by decide +kernel) (sLv_lt (by decide +kernel))),
   (fun lv l st x w => Ex_if_eq (by decide +kernel : decode M_X11_stays.2.1 21 = .ok (.ifCond .eq 9, 3)) rfl rfl),
   (fun lv st t o0 x w => Ex_M (i := .iload_n 1) (n := 1) (by decide +kernel) rfl rfl rfl),
   (fun lv l st w => Ex_A (i := .iconst 1) (n := 1) (by decide +kernel) rfl rfl),
   (fun lv st t o0 o1 x w => Ex_M (i := .iload_n 2) (n := 1) (by decide +kernel) rfl rfl rfl),
   (fun lv l st x y w => Ex_A (i := .ishl) (n := 1) (by decide +kernel) rfl rfl),
   (fun lv l st x y w => Ex_A (i := .ior) (n := 1) (by decide +kernel) rfl rfl),
   (fun lv l st x w => Ex_M (i := .istore_n 1) (n := 1) (by decide +kernel) rfl rfl rfl),
   (fun lv st t o0 o1 x w => Ex_iinc (by decide +kernel : decode M_X11_stays.2.1 30 = .ok (.iinc 2 1, 3)) rfl rfl (by decide) (by decide)),
   (fun lv l st w => Ex_goto (by decide +kernel : decode M_X11_stays.2.1 33 = .ok (.goto (-29), 3)) rfl),
   (fun lv st t o0 x w => Ex_M (i := .iload_n 1) (n := 1) (by decide +kernel) rfl rfl rfl),
   (fun lv l x w => Ex_R (i := .ireturn) (n := 1) (by decide +kernel) rfl rfl rfl rfl rfl)⟩
set_option maxRecDepth 20000 in
theorem H_X11_road_38 : ∀ (lv : Nat) (st : List Value) (t : LX) (o0 o1 o2 o3 o4 o5 : Option Value) (x : Int32) (w : AH), Ex M_X11_road lv 38 (o0 :: o1 :: o2 :: o3 :: o4 :: o5 :: some (.int x) :: t) st w = Ex M_X11_road lv 40 (o0 :: o1 :: o2 :: o3 :: o4 :: o5 :: some (.int x) :: t) (.int x :: st) w := fun lv st t o0 o1 o2 o3 o4 o5 x w => Ex_M (i := .iload 6) (n := 2) (by decide +kernel) rfl rfl rfl
set_option maxRecDepth 20000 in
set_option maxHeartbeats 4000000 in
theorem R_X11_road : (∀ (lv : Nat) (st : List Value) (t : LX) (o0 : Option Value) (x : Int32) (w : AH), Ex M_X11_road lv 0 (o0 :: some (.int x) :: t) st w = Ex M_X11_road lv 1 (o0 :: some (.int x) :: t) (.int x :: st) w)
  ∧ (∀ (lv : Nat) (l : LX) (a0 : Int32) (w : AH), Ex M_X11_road lv 1 l (.int a0 :: []) w = if (Call M_X11_isKnot 60 [.int a0] w).isSome = true then Ex M_X11_road lv 4 l (pushR (cV (Call M_X11_isKnot 60 [.int a0] w)) []) (cW (Call M_X11_isKnot 60 [.int a0] w) w) else none)
  ∧ (∀ (lv : Nat) (l : LX) (st : List Value) (x : Int32) (w : AH), Ex M_X11_road lv 4 l (.int x :: st) w = if x = 0 then Ex M_X11_road lv 25 l st w else Ex M_X11_road lv 7 l st w)
  ∧ (∀ (lv : Nat) (st : List Value) (t : LX) (o0 o1 : Option Value) (x : Int32) (w : AH), Ex M_X11_road lv 7 (o0 :: o1 :: some (.int x) :: t) st w = Ex M_X11_road lv 8 (o0 :: o1 :: some (.int x) :: t) (.int x :: st) w)
  ∧ (∀ (lv : Nat) (l : LX) (a0 : Int32) (w : AH), Ex M_X11_road lv 8 l (.int a0 :: []) w = if (Call M_X11_isKnot 60 [.int a0] w).isSome = true then Ex M_X11_road lv 11 l (pushR (cV (Call M_X11_isKnot 60 [.int a0] w)) []) (cW (Call M_X11_isKnot 60 [.int a0] w) w) else none)
  ∧ (∀ (lv : Nat) (l : LX) (st : List Value) (x : Int32) (w : AH), Ex M_X11_road lv 11 l (.int x :: st) w = if x = 0 then Ex M_X11_road lv 25 l st w else Ex M_X11_road lv 14 l st w)
  ∧ (∀ (lv : Nat) (st : List Value) (t : LX) (o0 o1 o2 : Option Value) (x : Int32) (w : AH), Ex M_X11_road lv 14 (o0 :: o1 :: o2 :: some (.int x) :: t) st w = Ex M_X11_road lv 15 (o0 :: o1 :: o2 :: some (.int x) :: t) (.int x :: st) w)
  ∧ (∀ (lv : Nat) (l : LX) (st : List Value) (w : AH), Ex M_X11_road lv 15 l st w = Ex M_X11_road lv 16 l (.int 0 :: st) w)
  ∧ (∀ (lv : Nat) (l : LX) (st : List Value) (w : AH), Ex M_X11_road lv 16 l st w = Ex M_X11_road lv 19 l (.int 255 :: st) w)
  ∧ (∀ (lv : Nat) (l : LX) (a0 : Int32) (a1 : Int32) (a2 : Int32) (w : AH), Ex M_X11_road lv 19 l (.int a2 :: .int a1 :: .int a0 :: []) w = if (Call M_X11_isWithin 60 [.int a0, .int a1, .int a2] w).isSome = true then Ex M_X11_road lv 22 l (pushR (cV (Call M_X11_isWithin 60 [.int a0, .int a1, .int a2] w)) []) (cW (Call M_X11_isWithin 60 [.int a0, .int a1, .int a2] w) w) else none)
  ∧ (∀ (lv : Nat) (l : LX) (st : List Value) (x : Int32) (w : AH), Ex M_X11_road lv 22 l (.int x :: st) w = if ¬ x = 0 then Ex M_X11_road lv 32 l st w else Ex M_X11_road lv 25 l st w)
  ∧ (∀ (lv : Nat) (st : List Value) (t : LX) (x : Nat) (w : AH), Ex M_X11_road lv 25 (some (.ref x) :: t) st w = Ex M_X11_road lv 26 (some (.ref x) :: t) (.ref x :: st) w)
  ∧ (∀ (lv : Nat) (st : List Value) (t : LX) (w : AH), Ex M_X11_road lv 25 (some (.null) :: t) st w = Ex M_X11_road lv 26 (some (.null) :: t) (.null :: st) w)
  ∧ (∀ (lv : Nat) (l : LX) (st : List Value) (w : AH), Ex M_X11_road lv 26 l st w = Ex M_X11_road lv 28 l (.int (-1000000001) :: st) w)
  ∧ (∀ (lv : Nat) (l : LX) (b : Nat) (a0 : Int32) (w : AH), Ex M_X11_road lv 28 l (.int a0 :: .ref b :: []) w = if clK (hg w b) = 10 then (if (Call M_X11_refuse 60 [.ref b, .int a0] w).isSome = true then Ex M_X11_road lv 31 l (pushR (cV (Call M_X11_refuse 60 [.ref b, .int a0] w)) []) (cW (Call M_X11_refuse 60 [.ref b, .int a0] w) w) else none) else none)
  ∧ (∀ (lv : Nat) (l : LX) (x : Int32) (w : AH), Ex M_X11_road lv 31 l [.int x] w = some (some (.int x), w))
  ∧ (∀ (lv : Nat) (l : LX) (st : List Value) (w : AH), Ex M_X11_road lv 32 l st w = Ex M_X11_road lv 33 l (.long 0 :: st) w)
  ∧ (∀ (lv : Nat) (l : LX) (st : List Value) (x : Int64) (w : AH), Ex M_X11_road lv 33 l (.long x :: st) w = Ex M_X11_road lv 35 (ls2 l 4 (.long x)) st w)
  ∧ (∀ (lv : Nat) (l : LX) (st : List Value) (w : AH), Ex M_X11_road lv 35 l st w = Ex M_X11_road lv 36 l (.int 0 :: st) w)
  ∧ (∀ (lv : Nat) (l : LX) (st : List Value) (x : Int32) (w : AH), Ex M_X11_road lv 36 l (.int x :: st) w = Ex M_X11_road lv 38 (ls1 l 6 (.int x)) st w)
  ∧ (∀ (lv : Nat) (l : LX) (st : List Value) (w : AH), Ex M_X11_road lv 40 l st w = Ex M_X11_road lv 42 l (.int 8 :: st) w)
  ∧ (∀ (lv : Nat) (l : LX) (st : List Value) (x y : Int32) (w : AH), Ex M_X11_road lv 42 l (.int y :: .int x :: st) w = if y ≤ x then Ex M_X11_road lv 77 l st w else Ex M_X11_road lv 45 l st w)
  ∧ (∀ (lv : Nat) (st : List Value) (t : LX) (o0 o1 o2 : Option Value) (x : Int32) (w : AH), Ex M_X11_road lv 45 (o0 :: o1 :: o2 :: some (.int x) :: t) st w = Ex M_X11_road lv 46 (o0 :: o1 :: o2 :: some (.int x) :: t) (.int x :: st) w)
  ∧ (∀ (lv : Nat) (st : List Value) (t : LX) (o0 o1 o2 o3 o4 o5 : Option Value) (x : Int32) (w : AH), Ex M_X11_road lv 46 (o0 :: o1 :: o2 :: o3 :: o4 :: o5 :: some (.int x) :: t) st w = Ex M_X11_road lv 48 (o0 :: o1 :: o2 :: o3 :: o4 :: o5 :: some (.int x) :: t) (.int x :: st) w)
  ∧ (∀ (lv : Nat) (l : LX) (st : List Value) (x y : Int32) (w : AH), Ex M_X11_road lv 48 l (.int y :: .int x :: st) w = Ex M_X11_road lv 49 l (.int (x >>> (y &&& 31)) :: st) w)
  ∧ (∀ (lv : Nat) (l : LX) (st : List Value) (w : AH), Ex M_X11_road lv 49 l st w = Ex M_X11_road lv 50 l (.int 1 :: st) w)
  ∧ (∀ (lv : Nat) (l : LX) (st : List Value) (x y : Int32) (w : AH), Ex M_X11_road lv 50 l (.int y :: .int x :: st) w = Ex M_X11_road lv 51 l (.int (x &&& y) :: st) w)
  ∧ (∀ (lv : Nat) (l : LX) (st : List Value) (x : Int32) (w : AH), Ex M_X11_road lv 51 l (.int x :: st) w = if x = 0 then Ex M_X11_road lv 71 l st w else Ex M_X11_road lv 54 l st w)
  ∧ (∀ (lv : Nat) (st : List Value) (t : LX) (o0 o1 o2 o3 : Option Value) (x : Int64) (w : AH), Ex M_X11_road lv 54 (o0 :: o1 :: o2 :: o3 :: some (.long x) :: t) st w = Ex M_X11_road lv 56 (o0 :: o1 :: o2 :: o3 :: some (.long x) :: t) (.long x :: st) w)
  ∧ (∀ (lv : Nat) (st : List Value) (t : LX) (x : Nat) (w : AH), Ex M_X11_road lv 56 (some (.ref x) :: t) st w = Ex M_X11_road lv 57 (some (.ref x) :: t) (.ref x :: st) w)
  ∧ (∀ (lv : Nat) (st : List Value) (t : LX) (w : AH), Ex M_X11_road lv 56 (some (.null) :: t) st w = Ex M_X11_road lv 57 (some (.null) :: t) (.null :: st) w)
  ∧ (∀ (lv : Nat) (l : LX) (st : List Value) (a : Nat) (w : AH), Ex M_X11_road lv 57 l (.ref a :: st) w = if (gf (hg w a) 10 0).isSome = true then Ex M_X11_road lv 60 l (vV (gf (hg w a) 10 0) :: st) w else none)
  ∧ (∀ (lv : Nat) (l : LX) (st : List Value) (a : Nat) (w : AH), Ex M_X11_road lv 60 l (.ref a :: st) w = if (gf (hg w a) 1 0).isSome = true then Ex M_X11_road lv 63 l (vV (gf (hg w a) 1 0) :: st) w else none)
  ∧ (∀ (lv : Nat) (st : List Value) (t : LX) (o0 o1 o2 o3 o4 o5 : Option Value) (x : Int32) (w : AH), Ex M_X11_road lv 63 (o0 :: o1 :: o2 :: o3 :: o4 :: o5 :: some (.int x) :: t) st w = Ex M_X11_road lv 65 (o0 :: o1 :: o2 :: o3 :: o4 :: o5 :: some (.int x) :: t) (.int x :: st) w)
  ∧ (∀ (lv : Nat) (l : LX) (b : Nat) (a0 : Int32) (s0 : Int64) (w : AH), Ex M_X11_road lv 65 l (.int a0 :: .ref b :: [.long s0]) w = if clK (hg w b) = 0 then (if (Call M_X0_ofColour 60 [.ref b, .int a0] w).isSome = true then Ex M_X11_road lv 68 l (pushR (cV (Call M_X0_ofColour 60 [.ref b, .int a0] w)) [.long s0]) (cW (Call M_X0_ofColour 60 [.ref b, .int a0] w) w) else none) else none)
  ∧ (∀ (lv : Nat) (l : LX) (st : List Value) (x y : Int64) (w : AH), Ex M_X11_road lv 68 l (.long y :: .long x :: st) w = Ex M_X11_road lv 69 l (.long (x ||| y) :: st) w)
  ∧ (∀ (lv : Nat) (l : LX) (st : List Value) (x : Int64) (w : AH), Ex M_X11_road lv 69 l (.long x :: st) w = Ex M_X11_road lv 71 (ls2 l 4 (.long x)) st w)
  ∧ (∀ (lv : Nat) (st : List Value) (t : LX) (o0 o1 o2 o3 o4 o5 : Option Value) (x : Int32) (w : AH), Ex M_X11_road lv 71 (o0 :: o1 :: o2 :: o3 :: o4 :: o5 :: some (.int x) :: t) st w = Ex M_X11_road lv 74 (ls1 (o0 :: o1 :: o2 :: o3 :: o4 :: o5 :: some (.int x) :: t) 6 (.int (x + 1))) st w)
  ∧ (∀ (lv : Nat) (l : LX) (st : List Value) (w : AH), Ex M_X11_road lv 74 l st w = Ex M_X11_road lv 38 l st w)
  ∧ (∀ (lv : Nat) (st : List Value) (t : LX) (x : Nat) (w : AH), Ex M_X11_road lv 77 (some (.ref x) :: t) st w = Ex M_X11_road lv 78 (some (.ref x) :: t) (.ref x :: st) w)
  ∧ (∀ (lv : Nat) (st : List Value) (t : LX) (w : AH), Ex M_X11_road lv 77 (some (.null) :: t) st w = Ex M_X11_road lv 78 (some (.null) :: t) (.null :: st) w)
  ∧ (∀ (lv : Nat) (l : LX) (st : List Value) (a : Nat) (w : AH), Ex M_X11_road lv 78 l (.ref a :: st) w = if (gf (hg w a) 10 5).isSome = true then Ex M_X11_road lv 81 l (vV (gf (hg w a) 10 5) :: st) w else none)
  ∧ (∀ (lv : Nat) (st : List Value) (t : LX) (o0 : Option Value) (x : Int32) (w : AH), Ex M_X11_road lv 81 (o0 :: some (.int x) :: t) st w = Ex M_X11_road lv 82 (o0 :: some (.int x) :: t) (.int x :: st) w)
  ∧ (∀ (lv : Nat) (st : List Value) (t : LX) (o0 o1 : Option Value) (x : Int32) (w : AH), Ex M_X11_road lv 82 (o0 :: o1 :: some (.int x) :: t) st w = Ex M_X11_road lv 83 (o0 :: o1 :: some (.int x) :: t) (.int x :: st) w)
  ∧ (∀ (lv : Nat) (st : List Value) (t : LX) (o0 o1 o2 o3 : Option Value) (x : Int64) (w : AH), Ex M_X11_road lv 83 (o0 :: o1 :: o2 :: o3 :: some (.long x) :: t) st w = Ex M_X11_road lv 85 (o0 :: o1 :: o2 :: o3 :: some (.long x) :: t) (.long x :: st) w)
  ∧ (∀ (lv : Nat) (l : LX) (b : Nat) (a0 : Int32) (a1 : Int32) (a2 : Int64) (w : AH), Ex M_X11_road lv 85 l (.long a2 :: .int a1 :: .int a0 :: .ref b :: []) w = if clK (hg w b) = 5 then (if (Call M_X5_fewestSteps 60 [.ref b, .int a0, .int a1, .long a2] w).isSome = true then Ex M_X11_road lv 88 l (pushR (cV (Call M_X5_fewestSteps 60 [.ref b, .int a0, .int a1, .long a2] w)) []) (cW (Call M_X5_fewestSteps 60 [.ref b, .int a0, .int a1, .long a2] w) w) else none) else none)
  ∧ (∀ (lv : Nat) (l : LX) (st : List Value) (x : Int32) (w : AH), Ex M_X11_road lv 88 l (.int x :: st) w = Ex M_X11_road lv 90 (ls1 l 6 (.int x)) st w)
  ∧ (∀ (lv : Nat) (st : List Value) (t : LX) (o0 o1 o2 o3 o4 o5 : Option Value) (x : Int32) (w : AH), Ex M_X11_road lv 90 (o0 :: o1 :: o2 :: o3 :: o4 :: o5 :: some (.int x) :: t) st w = Ex M_X11_road lv 92 (o0 :: o1 :: o2 :: o3 :: o4 :: o5 :: some (.int x) :: t) (.int x :: st) w)
  ∧ (∀ (lv : Nat) (l : LX) (st : List Value) (x : Int32) (w : AH), Ex M_X11_road lv 92 l (.int x :: st) w = if 0 ≤ x then Ex M_X11_road lv 104 l st w else Ex M_X11_road lv 95 l st w)
  ∧ (∀ (lv : Nat) (st : List Value) (t : LX) (x : Nat) (w : AH), Ex M_X11_road lv 95 (some (.ref x) :: t) st w = Ex M_X11_road lv 96 (some (.ref x) :: t) (.ref x :: st) w)
  ∧ (∀ (lv : Nat) (st : List Value) (t : LX) (w : AH), Ex M_X11_road lv 95 (some (.null) :: t) st w = Ex M_X11_road lv 96 (some (.null) :: t) (.null :: st) w)
  ∧ (∀ (lv : Nat) (l : LX) (st : List Value) (w : AH), Ex M_X11_road lv 96 l st w = Ex M_X11_road lv 98 l (.int (-1000000002) :: st) w)
  ∧ (∀ (lv : Nat) (l : LX) (b : Nat) (a0 : Int32) (w : AH), Ex M_X11_road lv 98 l (.int a0 :: .ref b :: []) w = if clK (hg w b) = 10 then (if (Call M_X11_refuse 60 [.ref b, .int a0] w).isSome = true then Ex M_X11_road lv 101 l (pushR (cV (Call M_X11_refuse 60 [.ref b, .int a0] w)) []) (cW (Call M_X11_refuse 60 [.ref b, .int a0] w) w) else none) else none)
  ∧ (∀ (lv : Nat) (l : LX) (st : List Value) (w : AH), Ex M_X11_road lv 101 l st w = Ex M_X11_road lv 106 l st w)
  ∧ (∀ (lv : Nat) (st : List Value) (t : LX) (o0 o1 o2 o3 o4 o5 : Option Value) (x : Int32) (w : AH), Ex M_X11_road lv 104 (o0 :: o1 :: o2 :: o3 :: o4 :: o5 :: some (.int x) :: t) st w = Ex M_X11_road lv 106 (o0 :: o1 :: o2 :: o3 :: o4 :: o5 :: some (.int x) :: t) (.int x :: st) w)
  ∧ (∀ (lv : Nat) (l : LX) (x : Int32) (w : AH), Ex M_X11_road lv 106 l [.int x] w = some (some (.int x), w)) :=
  ⟨(fun lv st t o0 x w => Ex_M (i := .iload_n 1) (n := 1) (by decide +kernel) rfl rfl rfl),
   (fun lv l a0 w => Ex_callS (by decide +kernel : decode M_X11_road.2.1 1 = .ok (.invokestatic 65, 3)) rfl (by rfl : resM (mCn M_X11_road) 65 = some (0, M_X11_isKnot)) (by decide) rfl (by rfl) (Nat.le_of_ble_eq_true rfl) (sLv_lt (by decide +kernel))),
   (fun lv l st x w => Ex_if_eq (by decide +kernel : decode M_X11_road.2.1 4 = .ok (.ifCond .eq 21, 3)) rfl rfl),
   (fun lv st t o0 o1 x w => Ex_M (i := .iload_n 2) (n := 1) (by decide +kernel) rfl rfl rfl),
   (fun lv l a0 w => Ex_callS (by decide +kernel : decode M_X11_road.2.1 8 = .ok (.invokestatic 65, 3)) rfl (by rfl : resM (mCn M_X11_road) 65 = some (0, M_X11_isKnot)) (by decide) rfl (by rfl) (Nat.le_of_ble_eq_true rfl) (sLv_lt (by decide +kernel))),
   (fun lv l st x w => Ex_if_eq (by decide +kernel : decode M_X11_road.2.1 11 = .ok (.ifCond .eq 14, 3)) rfl rfl),
   (fun lv st t o0 o1 o2 x w => Ex_M (i := .iload_n 3) (n := 1) (by decide +kernel) rfl rfl rfl),
   (fun lv l st w => Ex_A (i := .iconst 0) (n := 1) (by decide +kernel) rfl rfl),
   (fun lv l st w => Ex_A (i := .sipush 255) (n := 3) (by decide +kernel) rfl rfl),
   (fun lv l a0 a1 a2 w => Ex_callS (by decide +kernel : decode M_X11_road.2.1 19 = .ok (.invokestatic 69, 3)) rfl (by rfl : resM (mCn M_X11_road) 69 = some (0, M_X11_isWithin)) (by decide) rfl (by rfl) (Nat.le_of_ble_eq_true rfl) (sLv_lt (by decide +kernel))),
   (fun lv l st x w => Ex_if_ne (by decide +kernel : decode M_X11_road.2.1 22 = .ok (.ifCond .ne 10, 3)) rfl rfl),
   (fun lv st t x w => Ex_M (i := .aload_n 0) (n := 1) (by decide +kernel) rfl rfl rfl),
   (fun lv st t w => Ex_M (i := .aload_n 0) (n := 1) (by decide +kernel) rfl rfl rfl),
   (fun lv l st w => Ex_ldcI (by decide +kernel : decode M_X11_road.2.1 26 = .ok (.ldc 73, 2)) rfl (by decide +kernel)),
   (fun lv l b a0 w => Ex_callV (by decide +kernel : decode M_X11_road.2.1 28 = .ok (.invokevirtual 74, 3)) rfl (by rfl : resM (mCn M_X11_road) 74 = some (2, M_X11_refuse)) rfl (by rfl) (Nat.le_of_ble_eq_true rfl) (by decide +kernel) (sLv_lt (by decide +kernel))),
   (fun lv l x w => Ex_R (i := .ireturn) (n := 1) (by decide +kernel) rfl rfl rfl rfl rfl),
   (fun lv l st w => Ex_A (i := .lconst 0) (n := 1) (by decide +kernel) rfl rfl),
   (fun lv l st x w => Ex_M (i := .lstore 4) (n := 2) (by decide +kernel) rfl rfl rfl),
   (fun lv l st w => Ex_A (i := .iconst 0) (n := 1) (by decide +kernel) rfl rfl),
   (fun lv l st x w => Ex_M (i := .istore 6) (n := 2) (by decide +kernel) rfl rfl rfl),
   (fun lv l st w => Ex_A (i := .bipush 8) (n := 2) (by decide +kernel) rfl rfl),
   (fun lv l st x y w => Ex_icmp_ge (by decide +kernel : decode M_X11_road.2.1 42 = .ok (.if_icmp .ge 35, 3)) rfl rfl),
   (fun lv st t o0 o1 o2 x w => Ex_M (i := .iload_n 3) (n := 1) (by decide +kernel) rfl rfl rfl),
   (fun lv st t o0 o1 o2 o3 o4 o5 x w => Ex_M (i := .iload 6) (n := 2) (by decide +kernel) rfl rfl rfl),
   (fun lv l st x y w => Ex_A (i := .ishr) (n := 1) (by decide +kernel) rfl rfl),
   (fun lv l st w => Ex_A (i := .iconst 1) (n := 1) (by decide +kernel) rfl rfl),
   (fun lv l st x y w => Ex_A (i := .iand) (n := 1) (by decide +kernel) rfl rfl),
   (fun lv l st x w => Ex_if_eq (by decide +kernel : decode M_X11_road.2.1 51 = .ok (.ifCond .eq 20, 3)) rfl rfl),
   (fun lv st t o0 o1 o2 o3 x w => Ex_M (i := .lload 4) (n := 2) (by decide +kernel) rfl rfl rfl),
   (fun lv st t x w => Ex_M (i := .aload_n 0) (n := 1) (by decide +kernel) rfl rfl rfl),
   (fun lv st t w => Ex_M (i := .aload_n 0) (n := 1) (by decide +kernel) rfl rfl rfl),
   (fun lv l st a w => Ex_getf (by decide +kernel : decode M_X11_road.2.1 57 = .ok (.getfield 12, 3)) rfl (by decide +kernel : resF (mCn M_X11_road) 12 = some (10, 0, (.object "CarpetLands$Country"), true))),
   (fun lv l st a w => Ex_getf (by decide +kernel : decode M_X11_road.2.1 60 = .ok (.getfield 78, 3)) rfl (by decide +kernel : resF (mCn M_X11_road) 78 = some (1, 0, (.object "CarpetLands$Carpet"), true))),
   (fun lv st t o0 o1 o2 o3 o4 o5 x w => Ex_M (i := .iload 6) (n := 2) (by decide +kernel) rfl rfl rfl),
   (fun lv l b a0 s0 w => Ex_callV (by decide +kernel : decode M_X11_road.2.1 65 = .ok (.invokevirtual 238, 3)) rfl (by rfl : resM (mCn M_X11_road) 238 = some (2, M_X0_ofColour)) rfl (by rfl) (Nat.le_of_ble_eq_true rfl) (by decide +kernel) (sLv_lt (by decide +kernel))),
   (fun lv l st x y w => Ex_A (i := .lor) (n := 1) (by decide +kernel) rfl rfl),
   (fun lv l st x w => Ex_M (i := .lstore 4) (n := 2) (by decide +kernel) rfl rfl rfl),
   (fun lv st t o0 o1 o2 o3 o4 o5 x w => Ex_iinc (by decide +kernel : decode M_X11_road.2.1 71 = .ok (.iinc 6 1, 3)) rfl rfl (by decide) (by decide)),
   (fun lv l st w => Ex_goto (by decide +kernel : decode M_X11_road.2.1 74 = .ok (.goto (-36), 3)) rfl),
   (fun lv st t x w => Ex_M (i := .aload_n 0) (n := 1) (by decide +kernel) rfl rfl rfl),
   (fun lv st t w => Ex_M (i := .aload_n 0) (n := 1) (by decide +kernel) rfl rfl rfl),
   (fun lv l st a w => Ex_getf (by decide +kernel : decode M_X11_road.2.1 78 = .ok (.getfield 39, 3)) rfl (by decide +kernel : resF (mCn M_X11_road) 39 = some (10, 5, (.object "CarpetLands$Roads"), true))),
   (fun lv st t o0 x w => Ex_M (i := .iload_n 1) (n := 1) (by decide +kernel) rfl rfl rfl),
   (fun lv st t o0 o1 x w => Ex_M (i := .iload_n 2) (n := 1) (by decide +kernel) rfl rfl rfl),
   (fun lv st t o0 o1 o2 o3 x w => Ex_M (i := .lload 4) (n := 2) (by decide +kernel) rfl rfl rfl),
   (fun lv l b a0 a1 a2 w => Ex_callV (by decide +kernel : decode M_X11_road.2.1 85 = .ok (.invokevirtual 241, 3)) rfl (by rfl : resM (mCn M_X11_road) 241 = some (2, M_X5_fewestSteps)) rfl (by rfl) (Nat.le_of_ble_eq_true rfl) (by decide +kernel) (sLv_lt (by decide +kernel))),
   (fun lv l st x w => Ex_M (i := .istore 6) (n := 2) (by decide +kernel) rfl rfl rfl),
   (fun lv st t o0 o1 o2 o3 o4 o5 x w => Ex_M (i := .iload 6) (n := 2) (by decide +kernel) rfl rfl rfl),
   (fun lv l st x w => Ex_if_ge (by decide +kernel : decode M_X11_road.2.1 92 = .ok (.ifCond .ge 12, 3)) rfl rfl),
   (fun lv st t x w => Ex_M (i := .aload_n 0) (n := 1) (by decide +kernel) rfl rfl rfl),
   (fun lv st t w => Ex_M (i := .aload_n 0) (n := 1) (by decide +kernel) rfl rfl rfl),
   (fun lv l st w => Ex_ldcI (by decide +kernel : decode M_X11_road.2.1 96 = .ok (.ldc 218, 2)) rfl (by decide +kernel)),
   (fun lv l b a0 w => Ex_callV (by decide +kernel : decode M_X11_road.2.1 98 = .ok (.invokevirtual 74, 3)) rfl (by rfl : resM (mCn M_X11_road) 74 = some (2, M_X11_refuse)) rfl (by rfl) (Nat.le_of_ble_eq_true rfl) (by decide +kernel) (sLv_lt (by decide +kernel))),
   (fun lv l st w => Ex_goto (by decide +kernel : decode M_X11_road.2.1 101 = .ok (.goto 5, 3)) rfl),
   (fun lv st t o0 o1 o2 o3 o4 o5 x w => Ex_M (i := .iload 6) (n := 2) (by decide +kernel) rfl rfl rfl),
   (fun lv l x w => Ex_R (i := .ireturn) (n := 1) (by decide +kernel) rfl rfl rfl rfl rfl)⟩
set_option maxRecDepth 20000 in
set_option maxHeartbeats 4000000 in
theorem R_X11_fits : (∀ (lv : Nat) (st : List Value) (t : LX) (x : Nat) (w : AH), Ex M_X11_fits lv 0 (some (.ref x) :: t) st w = Ex M_X11_fits lv 1 (some (.ref x) :: t) (.ref x :: st) w)
  ∧ (∀ (lv : Nat) (st : List Value) (t : LX) (w : AH), Ex M_X11_fits lv 0 (some (.null) :: t) st w = Ex M_X11_fits lv 1 (some (.null) :: t) (.null :: st) w)
  ∧ (∀ (lv : Nat) (st : List Value) (t : LX) (o0 : Option Value) (x : Int32) (w : AH), Ex M_X11_fits lv 1 (o0 :: some (.int x) :: t) st w = Ex M_X11_fits lv 2 (o0 :: some (.int x) :: t) (.int x :: st) w)
  ∧ (∀ (lv : Nat) (l : LX) (b : Nat) (a0 : Int32) (w : AH), Ex M_X11_fits lv 2 l (.int a0 :: .ref b :: []) w = if clK (hg w b) = 10 then (if (Call M_X11_sheetOf 60 [.ref b, .int a0] w).isSome = true then Ex M_X11_fits lv 5 l (pushR (cV (Call M_X11_sheetOf 60 [.ref b, .int a0] w)) []) (cW (Call M_X11_sheetOf 60 [.ref b, .int a0] w) w) else none) else none)
  ∧ (∀ (lv : Nat) (l : LX) (st : List Value) (x : Nat) (w : AH), Ex M_X11_fits lv 5 l (.ref x :: st) w = Ex M_X11_fits lv 7 (ls1 l 4 (.ref x)) st w)
  ∧ (∀ (lv : Nat) (l : LX) (st : List Value) (w : AH), Ex M_X11_fits lv 5 l (.null :: st) w = Ex M_X11_fits lv 7 (ls1 l 4 (.null)) st w)
  ∧ (∀ (lv : Nat) (st : List Value) (t : LX) (o0 o1 o2 o3 : Option Value) (x : Nat) (w : AH), Ex M_X11_fits lv 7 (o0 :: o1 :: o2 :: o3 :: some (.ref x) :: t) st w = Ex M_X11_fits lv 9 (o0 :: o1 :: o2 :: o3 :: some (.ref x) :: t) (.ref x :: st) w)
  ∧ (∀ (lv : Nat) (st : List Value) (t : LX) (o0 o1 o2 o3 : Option Value) (w : AH), Ex M_X11_fits lv 7 (o0 :: o1 :: o2 :: o3 :: some (.null) :: t) st w = Ex M_X11_fits lv 9 (o0 :: o1 :: o2 :: o3 :: some (.null) :: t) (.null :: st) w)
  ∧ (∀ (lv : Nat) (l : LX) (st : List Value) (x : Nat) (w : AH), Ex M_X11_fits lv 9 l (.ref x :: st) w = Ex M_X11_fits lv 12 l st w)
  ∧ (∀ (lv : Nat) (l : LX) (st : List Value) (w : AH), Ex M_X11_fits lv 9 l (.null :: st) w = Ex M_X11_fits lv 32 l st w)
  ∧ (∀ (lv : Nat) (st : List Value) (t : LX) (o0 o1 : Option Value) (x : Int32) (w : AH), Ex M_X11_fits lv 12 (o0 :: o1 :: some (.int x) :: t) st w = Ex M_X11_fits lv 13 (o0 :: o1 :: some (.int x) :: t) (.int x :: st) w)
  ∧ (∀ (lv : Nat) (l : LX) (st : List Value) (w : AH), Ex M_X11_fits lv 13 l st w = Ex M_X11_fits lv 15 l (.int (-5) :: st) w)
  ∧ (∀ (lv : Nat) (l : LX) (st : List Value) (w : AH), Ex M_X11_fits lv 15 l st w = Ex M_X11_fits lv 16 l (.int 5 :: st) w)
  ∧ (∀ (lv : Nat) (l : LX) (a0 : Int32) (a1 : Int32) (a2 : Int32) (w : AH), Ex M_X11_fits lv 16 l (.int a2 :: .int a1 :: .int a0 :: []) w = if (Call M_X11_isWithin 60 [.int a0, .int a1, .int a2] w).isSome = true then Ex M_X11_fits lv 19 l (pushR (cV (Call M_X11_isWithin 60 [.int a0, .int a1, .int a2] w)) []) (cW (Call M_X11_isWithin 60 [.int a0, .int a1, .int a2] w) w) else none)
  ∧ (∀ (lv : Nat) (l : LX) (st : List Value) (x : Int32) (w : AH), Ex M_X11_fits lv 19 l (.int x :: st) w = if x = 0 then Ex M_X11_fits lv 32 l st w else Ex M_X11_fits lv 22 l st w)
  ∧ (∀ (lv : Nat) (st : List Value) (t : LX) (o0 o1 o2 : Option Value) (x : Int32) (w : AH), Ex M_X11_fits lv 22 (o0 :: o1 :: o2 :: some (.int x) :: t) st w = Ex M_X11_fits lv 23 (o0 :: o1 :: o2 :: some (.int x) :: t) (.int x :: st) w)
  ∧ (∀ (lv : Nat) (l : LX) (st : List Value) (w : AH), Ex M_X11_fits lv 23 l st w = Ex M_X11_fits lv 25 l (.int (-5) :: st) w)
  ∧ (∀ (lv : Nat) (l : LX) (st : List Value) (w : AH), Ex M_X11_fits lv 25 l st w = Ex M_X11_fits lv 26 l (.int 5 :: st) w)
  ∧ (∀ (lv : Nat) (l : LX) (a0 : Int32) (a1 : Int32) (a2 : Int32) (w : AH), Ex M_X11_fits lv 26 l (.int a2 :: .int a1 :: .int a0 :: []) w = if (Call M_X11_isWithin 60 [.int a0, .int a1, .int a2] w).isSome = true then Ex M_X11_fits lv 29 l (pushR (cV (Call M_X11_isWithin 60 [.int a0, .int a1, .int a2] w)) []) (cW (Call M_X11_isWithin 60 [.int a0, .int a1, .int a2] w) w) else none)
  ∧ (∀ (lv : Nat) (l : LX) (st : List Value) (x : Int32) (w : AH), Ex M_X11_fits lv 29 l (.int x :: st) w = if ¬ x = 0 then Ex M_X11_fits lv 39 l st w else Ex M_X11_fits lv 32 l st w)
  ∧ (∀ (lv : Nat) (st : List Value) (t : LX) (x : Nat) (w : AH), Ex M_X11_fits lv 32 (some (.ref x) :: t) st w = Ex M_X11_fits lv 33 (some (.ref x) :: t) (.ref x :: st) w)
  ∧ (∀ (lv : Nat) (st : List Value) (t : LX) (w : AH), Ex M_X11_fits lv 32 (some (.null) :: t) st w = Ex M_X11_fits lv 33 (some (.null) :: t) (.null :: st) w)
  ∧ (∀ (lv : Nat) (l : LX) (st : List Value) (w : AH), Ex M_X11_fits lv 33 l st w = Ex M_X11_fits lv 35 l (.int (-1000000001) :: st) w)
  ∧ (∀ (lv : Nat) (l : LX) (b : Nat) (a0 : Int32) (w : AH), Ex M_X11_fits lv 35 l (.int a0 :: .ref b :: []) w = if clK (hg w b) = 10 then (if (Call M_X11_refuse 60 [.ref b, .int a0] w).isSome = true then Ex M_X11_fits lv 38 l (pushR (cV (Call M_X11_refuse 60 [.ref b, .int a0] w)) []) (cW (Call M_X11_refuse 60 [.ref b, .int a0] w) w) else none) else none)
  ∧ (∀ (lv : Nat) (l : LX) (x : Int32) (w : AH), Ex M_X11_fits lv 38 l [.int x] w = some (some (.int x), w))
  ∧ (∀ (lv : Nat) (st : List Value) (t : LX) (o0 o1 o2 o3 : Option Value) (x : Nat) (w : AH), Ex M_X11_fits lv 39 (o0 :: o1 :: o2 :: o3 :: some (.ref x) :: t) st w = Ex M_X11_fits lv 41 (o0 :: o1 :: o2 :: o3 :: some (.ref x) :: t) (.ref x :: st) w)
  ∧ (∀ (lv : Nat) (st : List Value) (t : LX) (o0 o1 o2 o3 : Option Value) (w : AH), Ex M_X11_fits lv 39 (o0 :: o1 :: o2 :: o3 :: some (.null) :: t) st w = Ex M_X11_fits lv 41 (o0 :: o1 :: o2 :: o3 :: some (.null) :: t) (.null :: st) w)
  ∧ (∀ (lv : Nat) (l : LX) (b : Nat) (w : AH), Ex M_X11_fits lv 41 l (.ref b :: []) w = if clK (hg w b) = 7 then (if (Call M_X8_isCarpet 60 [.ref b] w).isSome = true then Ex M_X11_fits lv 44 l (pushR (cV (Call M_X8_isCarpet 60 [.ref b] w)) []) (cW (Call M_X8_isCarpet 60 [.ref b] w) w) else none) else none)
  ∧ (∀ (lv : Nat) (l : LX) (st : List Value) (x : Int32) (w : AH), Ex M_X11_fits lv 44 l (.int x :: st) w = if ¬ x = 0 then Ex M_X11_fits lv 54 l st w else Ex M_X11_fits lv 47 l st w)
  ∧ (∀ (lv : Nat) (st : List Value) (t : LX) (x : Nat) (w : AH), Ex M_X11_fits lv 47 (some (.ref x) :: t) st w = Ex M_X11_fits lv 48 (some (.ref x) :: t) (.ref x :: st) w)
  ∧ (∀ (lv : Nat) (st : List Value) (t : LX) (w : AH), Ex M_X11_fits lv 47 (some (.null) :: t) st w = Ex M_X11_fits lv 48 (some (.null) :: t) (.null :: st) w)
  ∧ (∀ (lv : Nat) (l : LX) (st : List Value) (w : AH), Ex M_X11_fits lv 48 l st w = Ex M_X11_fits lv 50 l (.int (-1000000002) :: st) w)
  ∧ (∀ (lv : Nat) (l : LX) (b : Nat) (a0 : Int32) (w : AH), Ex M_X11_fits lv 50 l (.int a0 :: .ref b :: []) w = if clK (hg w b) = 10 then (if (Call M_X11_refuse 60 [.ref b, .int a0] w).isSome = true then Ex M_X11_fits lv 53 l (pushR (cV (Call M_X11_refuse 60 [.ref b, .int a0] w)) []) (cW (Call M_X11_refuse 60 [.ref b, .int a0] w) w) else none) else none)
  ∧ (∀ (lv : Nat) (l : LX) (x : Int32) (w : AH), Ex M_X11_fits lv 53 l [.int x] w = some (some (.int x), w))
  ∧ (∀ (lv : Nat) (st : List Value) (t : LX) (x : Nat) (w : AH), Ex M_X11_fits lv 54 (some (.ref x) :: t) st w = Ex M_X11_fits lv 55 (some (.ref x) :: t) (.ref x :: st) w)
  ∧ (∀ (lv : Nat) (st : List Value) (t : LX) (w : AH), Ex M_X11_fits lv 54 (some (.null) :: t) st w = Ex M_X11_fits lv 55 (some (.null) :: t) (.null :: st) w)
  ∧ (∀ (lv : Nat) (l : LX) (st : List Value) (a : Nat) (w : AH), Ex M_X11_fits lv 55 l (.ref a :: st) w = if (gf (hg w a) 10 0).isSome = true then Ex M_X11_fits lv 58 l (vV (gf (hg w a) 10 0) :: st) w else none)
  ∧ (∀ (lv : Nat) (l : LX) (st : List Value) (a : Nat) (w : AH), Ex M_X11_fits lv 58 l (.ref a :: st) w = if (gf (hg w a) 1 0).isSome = true then Ex M_X11_fits lv 61 l (vV (gf (hg w a) 1 0) :: st) w else none)
  ∧ (∀ (lv : Nat) (st : List Value) (t : LX) (o0 o1 o2 o3 : Option Value) (x : Nat) (w : AH), Ex M_X11_fits lv 61 (o0 :: o1 :: o2 :: o3 :: some (.ref x) :: t) st w = Ex M_X11_fits lv 63 (o0 :: o1 :: o2 :: o3 :: some (.ref x) :: t) (.ref x :: st) w)
  ∧ (∀ (lv : Nat) (st : List Value) (t : LX) (o0 o1 o2 o3 : Option Value) (w : AH), Ex M_X11_fits lv 61 (o0 :: o1 :: o2 :: o3 :: some (.null) :: t) st w = Ex M_X11_fits lv 63 (o0 :: o1 :: o2 :: o3 :: some (.null) :: t) (.null :: st) w)
  ∧ (∀ (lv : Nat) (st : List Value) (t : LX) (o0 o1 : Option Value) (x : Int32) (w : AH), Ex M_X11_fits lv 63 (o0 :: o1 :: some (.int x) :: t) st w = Ex M_X11_fits lv 64 (o0 :: o1 :: some (.int x) :: t) (.int x :: st) w)
  ∧ (∀ (lv : Nat) (st : List Value) (t : LX) (o0 o1 o2 : Option Value) (x : Int32) (w : AH), Ex M_X11_fits lv 64 (o0 :: o1 :: o2 :: some (.int x) :: t) st w = Ex M_X11_fits lv 65 (o0 :: o1 :: o2 :: some (.int x) :: t) (.int x :: st) w)
  ∧ (∀ (lv : Nat) (l : LX) (b : Nat) (a0 : Nat) (a1 : Int32) (a2 : Int32) (w : AH), Ex M_X11_fits lv 65 l (.int a2 :: .int a1 :: .ref a0 :: .ref b :: []) w = if clK (hg w b) = 0 then (if (Call M_X0_fitsBy 60 [.ref b, .ref a0, .int a1, .int a2] w).isSome = true then Ex M_X11_fits lv 68 l (pushR (cV (Call M_X0_fitsBy 60 [.ref b, .ref a0, .int a1, .int a2] w)) []) (cW (Call M_X0_fitsBy 60 [.ref b, .ref a0, .int a1, .int a2] w) w) else none) else none)
  ∧ (∀ (lv : Nat) (l : LX) (st : List Value) (x : Int32) (w : AH), Ex M_X11_fits lv 68 l (.int x :: st) w = if x = 0 then Ex M_X11_fits lv 75 l st w else Ex M_X11_fits lv 71 l st w)
  ∧ (∀ (lv : Nat) (l : LX) (st : List Value) (w : AH), Ex M_X11_fits lv 71 l st w = Ex M_X11_fits lv 72 l (.int 1 :: st) w)
  ∧ (∀ (lv : Nat) (l : LX) (st : List Value) (w : AH), Ex M_X11_fits lv 72 l st w = Ex M_X11_fits lv 76 l st w)
  ∧ (∀ (lv : Nat) (l : LX) (st : List Value) (w : AH), Ex M_X11_fits lv 75 l st w = Ex M_X11_fits lv 76 l (.int 0 :: st) w)
  ∧ (∀ (lv : Nat) (l : LX) (x : Int32) (w : AH), Ex M_X11_fits lv 76 l [.int x] w = some (some (.int x), w)) :=
  ⟨(fun lv st t x w => Ex_M (i := .aload_n 0) (n := 1) (by decide +kernel) rfl rfl rfl),
   (fun lv st t w => Ex_M (i := .aload_n 0) (n := 1) (by decide +kernel) rfl rfl rfl),
   (fun lv st t o0 x w => Ex_M (i := .iload_n 1) (n := 1) (by decide +kernel) rfl rfl rfl),
   (fun lv l b a0 w => Ex_callV (by decide +kernel : decode M_X11_fits.2.1 2 = .ok (.invokevirtual 245, 3)) rfl (by rfl : resM (mCn M_X11_fits) 245 = some (2, M_X11_sheetOf)) rfl (by rfl) (Nat.le_of_ble_eq_true rfl) (by decide +kernel) (sLv_lt (by decide +kernel))),
   (fun lv l st x w => Ex_M (i := .astore 4) (n := 2) (by decide +kernel) rfl rfl rfl),
   (fun lv l st w => Ex_M (i := .astore 4) (n := 2) (by decide +kernel) rfl rfl rfl),
   (fun lv st t o0 o1 o2 o3 x w => Ex_M (i := .aload 4) (n := 2) (by decide +kernel) rfl rfl rfl),
   (fun lv st t o0 o1 o2 o3 w => Ex_M (i := .aload 4) (n := 2) (by decide +kernel) rfl rfl rfl),
   (fun lv l st x w => Ex_ifnull_r (by decide +kernel : decode M_X11_fits.2.1 9 = .ok (.ifnull 23, 3)) rfl),
   (fun lv l st w => Ex_ifnull_n (by decide +kernel : decode M_X11_fits.2.1 9 = .ok (.ifnull 23, 3)) rfl),
   (fun lv st t o0 o1 x w => Ex_M (i := .iload_n 2) (n := 1) (by decide +kernel) rfl rfl rfl),
   (fun lv l st w => Ex_A (i := .bipush (-5)) (n := 2) (by decide +kernel) rfl rfl),
   (fun lv l st w => Ex_A (i := .iconst 5) (n := 1) (by decide +kernel) rfl rfl),
   (fun lv l a0 a1 a2 w => Ex_callS (by decide +kernel : decode M_X11_fits.2.1 16 = .ok (.invokestatic 69, 3)) rfl (by rfl : resM (mCn M_X11_fits) 69 = some (0, M_X11_isWithin)) (by decide) rfl (by rfl) (Nat.le_of_ble_eq_true rfl) (sLv_lt (by decide +kernel))),
   (fun lv l st x w => Ex_if_eq (by decide +kernel : decode M_X11_fits.2.1 19 = .ok (.ifCond .eq 13, 3)) rfl rfl),
   (fun lv st t o0 o1 o2 x w => Ex_M (i := .iload_n 3) (n := 1) (by decide +kernel) rfl rfl rfl),
   (fun lv l st w => Ex_A (i := .bipush (-5)) (n := 2) (by decide +kernel) rfl rfl),
   (fun lv l st w => Ex_A (i := .iconst 5) (n := 1) (by decide +kernel) rfl rfl),
   (fun lv l a0 a1 a2 w => Ex_callS (by decide +kernel : decode M_X11_fits.2.1 26 = .ok (.invokestatic 69, 3)) rfl (by rfl : resM (mCn M_X11_fits) 69 = some (0, M_X11_isWithin)) (by decide) rfl (by rfl) (Nat.le_of_ble_eq_true rfl) (sLv_lt (by decide +kernel))),
   (fun lv l st x w => Ex_if_ne (by decide +kernel : decode M_X11_fits.2.1 29 = .ok (.ifCond .ne 10, 3)) rfl rfl),
   (fun lv st t x w => Ex_M (i := .aload_n 0) (n := 1) (by decide +kernel) rfl rfl rfl),
   (fun lv st t w => Ex_M (i := .aload_n 0) (n := 1) (by decide +kernel) rfl rfl rfl),
   (fun lv l st w => Ex_ldcI (by decide +kernel : decode M_X11_fits.2.1 33 = .ok (.ldc 73, 2)) rfl (by decide +kernel)),
   (fun lv l b a0 w => Ex_callV (by decide +kernel : decode M_X11_fits.2.1 35 = .ok (.invokevirtual 74, 3)) rfl (by rfl : resM (mCn M_X11_fits) 74 = some (2, M_X11_refuse)) rfl (by rfl) (Nat.le_of_ble_eq_true rfl) (by decide +kernel) (sLv_lt (by decide +kernel))),
   (fun lv l x w => Ex_R (i := .ireturn) (n := 1) (by decide +kernel) rfl rfl rfl rfl rfl),
   (fun lv st t o0 o1 o2 o3 x w => Ex_M (i := .aload 4) (n := 2) (by decide +kernel) rfl rfl rfl),
   (fun lv st t o0 o1 o2 o3 w => Ex_M (i := .aload 4) (n := 2) (by decide +kernel) rfl rfl rfl),
   (fun lv l b w => Ex_callV (by decide +kernel : decode M_X11_fits.2.1 41 = .ok (.invokevirtual 249, 3)) rfl (by rfl : resM (mCn M_X11_fits) 249 = some (2, M_X8_isCarpet)) rfl (by rfl) (Nat.le_of_ble_eq_true rfl) (by decide +kernel) (sLv_lt (by decide +kernel))),
   (fun lv l st x w => Ex_if_ne (by decide +kernel : decode M_X11_fits.2.1 44 = .ok (.ifCond .ne 10, 3)) rfl rfl),
   (fun lv st t x w => Ex_M (i := .aload_n 0) (n := 1) (by decide +kernel) rfl rfl rfl),
   (fun lv st t w => Ex_M (i := .aload_n 0) (n := 1) (by decide +kernel) rfl rfl rfl),
   (fun lv l st w => Ex_ldcI (by decide +kernel : decode M_X11_fits.2.1 48 = .ok (.ldc 218, 2)) rfl (by decide +kernel)),
   (fun lv l b a0 w => Ex_callV (by decide +kernel : decode M_X11_fits.2.1 50 = .ok (.invokevirtual 74, 3)) rfl (by rfl : resM (mCn M_X11_fits) 74 = some (2, M_X11_refuse)) rfl (by rfl) (Nat.le_of_ble_eq_true rfl) (by decide +kernel) (sLv_lt (by decide +kernel))),
   (fun lv l x w => Ex_R (i := .ireturn) (n := 1) (by decide +kernel) rfl rfl rfl rfl rfl),
   (fun lv st t x w => Ex_M (i := .aload_n 0) (n := 1) (by decide +kernel) rfl rfl rfl),
   (fun lv st t w => Ex_M (i := .aload_n 0) (n := 1) (by decide +kernel) rfl rfl rfl),
   (fun lv l st a w => Ex_getf (by decide +kernel : decode M_X11_fits.2.1 55 = .ok (.getfield 12, 3)) rfl (by decide +kernel : resF (mCn M_X11_fits) 12 = some (10, 0, (.object "CarpetLands$Country"), true))),
   (fun lv l st a w => Ex_getf (by decide +kernel : decode M_X11_fits.2.1 58 = .ok (.getfield 78, 3)) rfl (by decide +kernel : resF (mCn M_X11_fits) 78 = some (1, 0, (.object "CarpetLands$Carpet"), true))),
   (fun lv st t o0 o1 o2 o3 x w => Ex_M (i := .aload 4) (n := 2) (by decide +kernel) rfl rfl rfl),
   (fun lv st t o0 o1 o2 o3 w => Ex_M (i := .aload 4) (n := 2) (by decide +kernel) rfl rfl rfl),
   (fun lv st t o0 o1 x w => Ex_M (i := .iload_n 2) (n := 1) (by decide +kernel) rfl rfl rfl),
   (fun lv st t o0 o1 o2 x w => Ex_M (i := .iload_n 3) (n := 1) (by decide +kernel) rfl rfl rfl),
   (fun lv l b a0 a1 a2 w => Ex_callV (by decide +kernel : decode M_X11_fits.2.1 65 = .ok (.invokevirtual 253, 3)) rfl (by rfl : resM (mCn M_X11_fits) 253 = some (2, M_X0_fitsBy)) rfl (by rfl) (Nat.le_of_ble_eq_true rfl) (by decide +kernel) (sLv_lt (by decide +kernel))),
   (fun lv l st x w => Ex_if_eq (by decide +kernel : decode M_X11_fits.2.1 68 = .ok (.ifCond .eq 7, 3)) rfl rfl),
   (fun lv l st w => Ex_A (i := .iconst 1) (n := 1) (by decide +kernel) rfl rfl),
   (fun lv l st w => Ex_goto (by decide +kernel : decode M_X11_fits.2.1 72 = .ok (.goto 4, 3)) rfl),
   (fun lv l st w => Ex_A (i := .iconst 0) (n := 1) (by decide +kernel) rfl rfl),
   (fun lv l x w => Ex_R (i := .ireturn) (n := 1) (by decide +kernel) rfl rfl rfl rfl rfl)⟩
set_option maxRecDepth 20000 in
set_option maxHeartbeats 4000000 in
theorem R_X11_layings : (∀ (lv : Nat) (st : List Value) (t : LX) (x : Nat) (w : AH), Ex M_X11_layings lv 0 (some (.ref x) :: t) st w = Ex M_X11_layings lv 1 (some (.ref x) :: t) (.ref x :: st) w)
  ∧ (∀ (lv : Nat) (st : List Value) (t : LX) (w : AH), Ex M_X11_layings lv 0 (some (.null) :: t) st w = Ex M_X11_layings lv 1 (some (.null) :: t) (.null :: st) w)
  ∧ (∀ (lv : Nat) (st : List Value) (t : LX) (o0 : Option Value) (x : Int32) (w : AH), Ex M_X11_layings lv 1 (o0 :: some (.int x) :: t) st w = Ex M_X11_layings lv 2 (o0 :: some (.int x) :: t) (.int x :: st) w)
  ∧ (∀ (lv : Nat) (l : LX) (b : Nat) (a0 : Int32) (w : AH), Ex M_X11_layings lv 2 l (.int a0 :: .ref b :: []) w = if clK (hg w b) = 10 then (if (Call M_X11_sheetOf 60 [.ref b, .int a0] w).isSome = true then Ex M_X11_layings lv 5 l (pushR (cV (Call M_X11_sheetOf 60 [.ref b, .int a0] w)) []) (cW (Call M_X11_sheetOf 60 [.ref b, .int a0] w) w) else none) else none)
  ∧ (∀ (lv : Nat) (l : LX) (st : List Value) (x : Nat) (w : AH), Ex M_X11_layings lv 5 l (.ref x :: st) w = Ex M_X11_layings lv 6 (ls1 l 3 (.ref x)) st w)
  ∧ (∀ (lv : Nat) (l : LX) (st : List Value) (w : AH), Ex M_X11_layings lv 5 l (.null :: st) w = Ex M_X11_layings lv 6 (ls1 l 3 (.null)) st w)
  ∧ (∀ (lv : Nat) (st : List Value) (t : LX) (o0 o1 o2 : Option Value) (x : Nat) (w : AH), Ex M_X11_layings lv 6 (o0 :: o1 :: o2 :: some (.ref x) :: t) st w = Ex M_X11_layings lv 7 (o0 :: o1 :: o2 :: some (.ref x) :: t) (.ref x :: st) w)
  ∧ (∀ (lv : Nat) (st : List Value) (t : LX) (o0 o1 o2 : Option Value) (w : AH), Ex M_X11_layings lv 6 (o0 :: o1 :: o2 :: some (.null) :: t) st w = Ex M_X11_layings lv 7 (o0 :: o1 :: o2 :: some (.null) :: t) (.null :: st) w)
  ∧ (∀ (lv : Nat) (l : LX) (st : List Value) (x : Nat) (w : AH), Ex M_X11_layings lv 7 l (.ref x :: st) w = Ex M_X11_layings lv 10 l st w)
  ∧ (∀ (lv : Nat) (l : LX) (st : List Value) (w : AH), Ex M_X11_layings lv 7 l (.null :: st) w = Ex M_X11_layings lv 19 l st w)
  ∧ (∀ (lv : Nat) (st : List Value) (t : LX) (o0 o1 : Option Value) (x : Int32) (w : AH), Ex M_X11_layings lv 10 (o0 :: o1 :: some (.int x) :: t) st w = Ex M_X11_layings lv 11 (o0 :: o1 :: some (.int x) :: t) (.int x :: st) w)
  ∧ (∀ (lv : Nat) (l : LX) (st : List Value) (w : AH), Ex M_X11_layings lv 11 l st w = Ex M_X11_layings lv 12 l (.int 0 :: st) w)
  ∧ (∀ (lv : Nat) (l : LX) (st : List Value) (w : AH), Ex M_X11_layings lv 12 l st w = Ex M_X11_layings lv 13 l (.int 1 :: st) w)
  ∧ (∀ (lv : Nat) (l : LX) (a0 : Int32) (a1 : Int32) (a2 : Int32) (w : AH), Ex M_X11_layings lv 13 l (.int a2 :: .int a1 :: .int a0 :: []) w = if (Call M_X11_isWithin 60 [.int a0, .int a1, .int a2] w).isSome = true then Ex M_X11_layings lv 16 l (pushR (cV (Call M_X11_isWithin 60 [.int a0, .int a1, .int a2] w)) []) (cW (Call M_X11_isWithin 60 [.int a0, .int a1, .int a2] w) w) else none)
  ∧ (∀ (lv : Nat) (l : LX) (st : List Value) (x : Int32) (w : AH), Ex M_X11_layings lv 16 l (.int x :: st) w = if ¬ x = 0 then Ex M_X11_layings lv 26 l st w else Ex M_X11_layings lv 19 l st w)
  ∧ (∀ (lv : Nat) (st : List Value) (t : LX) (x : Nat) (w : AH), Ex M_X11_layings lv 19 (some (.ref x) :: t) st w = Ex M_X11_layings lv 20 (some (.ref x) :: t) (.ref x :: st) w)
  ∧ (∀ (lv : Nat) (st : List Value) (t : LX) (w : AH), Ex M_X11_layings lv 19 (some (.null) :: t) st w = Ex M_X11_layings lv 20 (some (.null) :: t) (.null :: st) w)
  ∧ (∀ (lv : Nat) (l : LX) (st : List Value) (w : AH), Ex M_X11_layings lv 20 l st w = Ex M_X11_layings lv 22 l (.int (-1000000001) :: st) w)
  ∧ (∀ (lv : Nat) (l : LX) (b : Nat) (a0 : Int32) (w : AH), Ex M_X11_layings lv 22 l (.int a0 :: .ref b :: []) w = if clK (hg w b) = 10 then (if (Call M_X11_refuse 60 [.ref b, .int a0] w).isSome = true then Ex M_X11_layings lv 25 l (pushR (cV (Call M_X11_refuse 60 [.ref b, .int a0] w)) []) (cW (Call M_X11_refuse 60 [.ref b, .int a0] w) w) else none) else none)
  ∧ (∀ (lv : Nat) (l : LX) (x : Int32) (w : AH), Ex M_X11_layings lv 25 l [.int x] w = some (some (.int x), w))
  ∧ (∀ (lv : Nat) (st : List Value) (t : LX) (o0 o1 o2 : Option Value) (x : Nat) (w : AH), Ex M_X11_layings lv 26 (o0 :: o1 :: o2 :: some (.ref x) :: t) st w = Ex M_X11_layings lv 27 (o0 :: o1 :: o2 :: some (.ref x) :: t) (.ref x :: st) w)
  ∧ (∀ (lv : Nat) (st : List Value) (t : LX) (o0 o1 o2 : Option Value) (w : AH), Ex M_X11_layings lv 26 (o0 :: o1 :: o2 :: some (.null) :: t) st w = Ex M_X11_layings lv 27 (o0 :: o1 :: o2 :: some (.null) :: t) (.null :: st) w)
  ∧ (∀ (lv : Nat) (l : LX) (b : Nat) (w : AH), Ex M_X11_layings lv 27 l (.ref b :: []) w = if clK (hg w b) = 7 then (if (Call M_X8_isCarpet 60 [.ref b] w).isSome = true then Ex M_X11_layings lv 30 l (pushR (cV (Call M_X8_isCarpet 60 [.ref b] w)) []) (cW (Call M_X8_isCarpet 60 [.ref b] w) w) else none) else none)
  ∧ (∀ (lv : Nat) (l : LX) (st : List Value) (x : Int32) (w : AH), Ex M_X11_layings lv 30 l (.int x :: st) w = if ¬ x = 0 then Ex M_X11_layings lv 40 l st w else Ex M_X11_layings lv 33 l st w)
  ∧ (∀ (lv : Nat) (st : List Value) (t : LX) (x : Nat) (w : AH), Ex M_X11_layings lv 33 (some (.ref x) :: t) st w = Ex M_X11_layings lv 34 (some (.ref x) :: t) (.ref x :: st) w)
  ∧ (∀ (lv : Nat) (st : List Value) (t : LX) (w : AH), Ex M_X11_layings lv 33 (some (.null) :: t) st w = Ex M_X11_layings lv 34 (some (.null) :: t) (.null :: st) w)
  ∧ (∀ (lv : Nat) (l : LX) (st : List Value) (w : AH), Ex M_X11_layings lv 34 l st w = Ex M_X11_layings lv 36 l (.int (-1000000002) :: st) w)
  ∧ (∀ (lv : Nat) (l : LX) (b : Nat) (a0 : Int32) (w : AH), Ex M_X11_layings lv 36 l (.int a0 :: .ref b :: []) w = if clK (hg w b) = 10 then (if (Call M_X11_refuse 60 [.ref b, .int a0] w).isSome = true then Ex M_X11_layings lv 39 l (pushR (cV (Call M_X11_refuse 60 [.ref b, .int a0] w)) []) (cW (Call M_X11_refuse 60 [.ref b, .int a0] w) w) else none) else none)
  ∧ (∀ (lv : Nat) (l : LX) (x : Int32) (w : AH), Ex M_X11_layings lv 39 l [.int x] w = some (some (.int x), w))
  ∧ (∀ (lv : Nat) (st : List Value) (t : LX) (o0 o1 : Option Value) (x : Int32) (w : AH), Ex M_X11_layings lv 40 (o0 :: o1 :: some (.int x) :: t) st w = Ex M_X11_layings lv 41 (o0 :: o1 :: some (.int x) :: t) (.int x :: st) w)
  ∧ (∀ (lv : Nat) (l : LX) (st : List Value) (x : Int32) (w : AH), Ex M_X11_layings lv 41 l (.int x :: st) w = if ¬ x = 0 then Ex M_X11_layings lv 56 l st w else Ex M_X11_layings lv 44 l st w)
  ∧ (∀ (lv : Nat) (st : List Value) (t : LX) (x : Nat) (w : AH), Ex M_X11_layings lv 44 (some (.ref x) :: t) st w = Ex M_X11_layings lv 45 (some (.ref x) :: t) (.ref x :: st) w)
  ∧ (∀ (lv : Nat) (st : List Value) (t : LX) (w : AH), Ex M_X11_layings lv 44 (some (.null) :: t) st w = Ex M_X11_layings lv 45 (some (.null) :: t) (.null :: st) w)
  ∧ (∀ (lv : Nat) (l : LX) (st : List Value) (a : Nat) (w : AH), Ex M_X11_layings lv 45 l (.ref a :: st) w = if (gf (hg w a) 10 0).isSome = true then Ex M_X11_layings lv 48 l (vV (gf (hg w a) 10 0) :: st) w else none)
  ∧ (∀ (lv : Nat) (l : LX) (st : List Value) (a : Nat) (w : AH), Ex M_X11_layings lv 48 l (.ref a :: st) w = if (gf (hg w a) 1 0).isSome = true then Ex M_X11_layings lv 51 l (vV (gf (hg w a) 1 0) :: st) w else none)
  ∧ (∀ (lv : Nat) (st : List Value) (t : LX) (o0 o1 o2 : Option Value) (x : Nat) (w : AH), Ex M_X11_layings lv 51 (o0 :: o1 :: o2 :: some (.ref x) :: t) st w = Ex M_X11_layings lv 52 (o0 :: o1 :: o2 :: some (.ref x) :: t) (.ref x :: st) w)
  ∧ (∀ (lv : Nat) (st : List Value) (t : LX) (o0 o1 o2 : Option Value) (w : AH), Ex M_X11_layings lv 51 (o0 :: o1 :: o2 :: some (.null) :: t) st w = Ex M_X11_layings lv 52 (o0 :: o1 :: o2 :: some (.null) :: t) (.null :: st) w)
  ∧ (∀ (lv : Nat) (l : LX) (b : Nat) (a0 : Nat) (w : AH), Ex M_X11_layings lv 52 l (.ref a0 :: .ref b :: []) w = if clK (hg w b) = 0 then (if (Call M_X0_countLayings 60 [.ref b, .ref a0] w).isSome = true then Ex M_X11_layings lv 55 l (pushR (cV (Call M_X0_countLayings 60 [.ref b, .ref a0] w)) []) (cW (Call M_X0_countLayings 60 [.ref b, .ref a0] w) w) else none) else none)
  ∧ (∀ (lv : Nat) (l : LX) (x : Int32) (w : AH), Ex M_X11_layings lv 55 l [.int x] w = some (some (.int x), w))
  ∧ (∀ (lv : Nat) (st : List Value) (t : LX) (x : Nat) (w : AH), Ex M_X11_layings lv 56 (some (.ref x) :: t) st w = Ex M_X11_layings lv 57 (some (.ref x) :: t) (.ref x :: st) w)
  ∧ (∀ (lv : Nat) (st : List Value) (t : LX) (w : AH), Ex M_X11_layings lv 56 (some (.null) :: t) st w = Ex M_X11_layings lv 57 (some (.null) :: t) (.null :: st) w)
  ∧ (∀ (lv : Nat) (l : LX) (st : List Value) (a : Nat) (w : AH), Ex M_X11_layings lv 57 l (.ref a :: st) w = if (gf (hg w a) 10 0).isSome = true then Ex M_X11_layings lv 60 l (vV (gf (hg w a) 10 0) :: st) w else none)
  ∧ (∀ (lv : Nat) (l : LX) (st : List Value) (a : Nat) (w : AH), Ex M_X11_layings lv 60 l (.ref a :: st) w = if (gf (hg w a) 1 0).isSome = true then Ex M_X11_layings lv 63 l (vV (gf (hg w a) 1 0) :: st) w else none)
  ∧ (∀ (lv : Nat) (st : List Value) (t : LX) (o0 o1 o2 : Option Value) (x : Nat) (w : AH), Ex M_X11_layings lv 63 (o0 :: o1 :: o2 :: some (.ref x) :: t) st w = Ex M_X11_layings lv 64 (o0 :: o1 :: o2 :: some (.ref x) :: t) (.ref x :: st) w)
  ∧ (∀ (lv : Nat) (st : List Value) (t : LX) (o0 o1 o2 : Option Value) (w : AH), Ex M_X11_layings lv 63 (o0 :: o1 :: o2 :: some (.null) :: t) st w = Ex M_X11_layings lv 64 (o0 :: o1 :: o2 :: some (.null) :: t) (.null :: st) w)
  ∧ (∀ (lv : Nat) (l : LX) (b : Nat) (a0 : Nat) (w : AH), Ex M_X11_layings lv 64 l (.ref a0 :: .ref b :: []) w = if clK (hg w b) = 0 then (if (Call M_X0_bestLaying 60 [.ref b, .ref a0] w).isSome = true then Ex M_X11_layings lv 67 l (pushR (cV (Call M_X0_bestLaying 60 [.ref b, .ref a0] w)) []) (cW (Call M_X0_bestLaying 60 [.ref b, .ref a0] w) w) else none) else none)
  ∧ (∀ (lv : Nat) (l : LX) (st : List Value) (x : Int32) (w : AH), Ex M_X11_layings lv 67 l (.int x :: st) w = Ex M_X11_layings lv 69 (ls1 l 4 (.int x)) st w)
  ∧ (∀ (lv : Nat) (st : List Value) (t : LX) (o0 o1 o2 o3 : Option Value) (x : Int32) (w : AH), Ex M_X11_layings lv 69 (o0 :: o1 :: o2 :: o3 :: some (.int x) :: t) st w = Ex M_X11_layings lv 71 (o0 :: o1 :: o2 :: o3 :: some (.int x) :: t) (.int x :: st) w)
  ∧ (∀ (lv : Nat) (l : LX) (st : List Value) (x : Int32) (w : AH), Ex M_X11_layings lv 71 l (.int x :: st) w = if 0 ≤ x then Ex M_X11_layings lv 83 l st w else Ex M_X11_layings lv 74 l st w)
  ∧ (∀ (lv : Nat) (st : List Value) (t : LX) (x : Nat) (w : AH), Ex M_X11_layings lv 74 (some (.ref x) :: t) st w = Ex M_X11_layings lv 75 (some (.ref x) :: t) (.ref x :: st) w)
  ∧ (∀ (lv : Nat) (st : List Value) (t : LX) (w : AH), Ex M_X11_layings lv 74 (some (.null) :: t) st w = Ex M_X11_layings lv 75 (some (.null) :: t) (.null :: st) w)
  ∧ (∀ (lv : Nat) (l : LX) (st : List Value) (w : AH), Ex M_X11_layings lv 75 l st w = Ex M_X11_layings lv 77 l (.int (-1000000002) :: st) w)
  ∧ (∀ (lv : Nat) (l : LX) (b : Nat) (a0 : Int32) (w : AH), Ex M_X11_layings lv 77 l (.int a0 :: .ref b :: []) w = if clK (hg w b) = 10 then (if (Call M_X11_refuse 60 [.ref b, .int a0] w).isSome = true then Ex M_X11_layings lv 80 l (pushR (cV (Call M_X11_refuse 60 [.ref b, .int a0] w)) []) (cW (Call M_X11_refuse 60 [.ref b, .int a0] w) w) else none) else none)
  ∧ (∀ (lv : Nat) (l : LX) (st : List Value) (w : AH), Ex M_X11_layings lv 80 l st w = Ex M_X11_layings lv 85 l st w)
  ∧ (∀ (lv : Nat) (st : List Value) (t : LX) (o0 o1 o2 o3 : Option Value) (x : Int32) (w : AH), Ex M_X11_layings lv 83 (o0 :: o1 :: o2 :: o3 :: some (.int x) :: t) st w = Ex M_X11_layings lv 85 (o0 :: o1 :: o2 :: o3 :: some (.int x) :: t) (.int x :: st) w)
  ∧ (∀ (lv : Nat) (l : LX) (x : Int32) (w : AH), Ex M_X11_layings lv 85 l [.int x] w = some (some (.int x), w)) :=
  ⟨(fun lv st t x w => Ex_M (i := .aload_n 0) (n := 1) (by decide +kernel) rfl rfl rfl),
   (fun lv st t w => Ex_M (i := .aload_n 0) (n := 1) (by decide +kernel) rfl rfl rfl),
   (fun lv st t o0 x w => Ex_M (i := .iload_n 1) (n := 1) (by decide +kernel) rfl rfl rfl),
   (fun lv l b a0 w => Ex_callV (by decide +kernel : decode M_X11_layings.2.1 2 = .ok (.invokevirtual 245, 3)) rfl (by rfl : resM (mCn M_X11_layings) 245 = some (2, M_X11_sheetOf)) rfl (by rfl) (Nat.le_of_ble_eq_true rfl) (by decide +kernel) (sLv_lt (by decide +kernel))),
   (fun lv l st x w => Ex_M (i := .astore_n 3) (n := 1) (by decide +kernel) rfl rfl rfl),
   (fun lv l st w => Ex_M (i := .astore_n 3) (n := 1) (by decide +kernel) rfl rfl rfl),
   (fun lv st t o0 o1 o2 x w => Ex_M (i := .aload_n 3) (n := 1) (by decide +kernel) rfl rfl rfl),
   (fun lv st t o0 o1 o2 w => Ex_M (i := .aload_n 3) (n := 1) (by decide +kernel) rfl rfl rfl),
   (fun lv l st x w => Ex_ifnull_r (by decide +kernel : decode M_X11_layings.2.1 7 = .ok (.ifnull 12, 3)) rfl),
   (fun lv l st w => Ex_ifnull_n (by decide +kernel : decode M_X11_layings.2.1 7 = .ok (.ifnull 12, 3)) rfl),
   (fun lv st t o0 o1 x w => Ex_M (i := .iload_n 2) (n := 1) (by decide +kernel) rfl rfl rfl),
   (fun lv l st w => Ex_A (i := .iconst 0) (n := 1) (by decide +kernel) rfl rfl),
   (fun lv l st w => Ex_A (i := .iconst 1) (n := 1) (by decide +kernel) rfl rfl),
   (fun lv l a0 a1 a2 w => Ex_callS (by decide +kernel : decode M_X11_layings.2.1 13 = .ok (.invokestatic 69, 3)) rfl (by rfl : resM (mCn M_X11_layings) 69 = some (0, M_X11_isWithin)) (by decide) rfl (by rfl) (Nat.le_of_ble_eq_true rfl) (sLv_lt (by decide +kernel))),
   (fun lv l st x w => Ex_if_ne (by decide +kernel : decode M_X11_layings.2.1 16 = .ok (.ifCond .ne 10, 3)) rfl rfl),
   (fun lv st t x w => Ex_M (i := .aload_n 0) (n := 1) (by decide +kernel) rfl rfl rfl),
   (fun lv st t w => Ex_M (i := .aload_n 0) (n := 1) (by decide +kernel) rfl rfl rfl),
   (fun lv l st w => Ex_ldcI (by decide +kernel : decode M_X11_layings.2.1 20 = .ok (.ldc 73, 2)) rfl (by decide +kernel)),
   (fun lv l b a0 w => Ex_callV (by decide +kernel : decode M_X11_layings.2.1 22 = .ok (.invokevirtual 74, 3)) rfl (by rfl : resM (mCn M_X11_layings) 74 = some (2, M_X11_refuse)) rfl (by rfl) (Nat.le_of_ble_eq_true rfl) (by decide +kernel) (sLv_lt (by decide +kernel))),
   (fun lv l x w => Ex_R (i := .ireturn) (n := 1) (by decide +kernel) rfl rfl rfl rfl rfl),
   (fun lv st t o0 o1 o2 x w => Ex_M (i := .aload_n 3) (n := 1) (by decide +kernel) rfl rfl rfl),
   (fun lv st t o0 o1 o2 w => Ex_M (i := .aload_n 3) (n := 1) (by decide +kernel) rfl rfl rfl),
   (fun lv l b w => Ex_callV (by decide +kernel : decode M_X11_layings.2.1 27 = .ok (.invokevirtual 249, 3)) rfl (by rfl : resM (mCn M_X11_layings) 249 = some (2, M_X8_isCarpet)) rfl (by rfl) (Nat.le_of_ble_eq_true rfl) (by decide +kernel) (sLv_lt (by decide +kernel))),
   (fun lv l st x w => Ex_if_ne (by decide +kernel : decode M_X11_layings.2.1 30 = .ok (.ifCond .ne 10, 3)) rfl rfl),
   (fun lv st t x w => Ex_M (i := .aload_n 0) (n := 1) (by decide +kernel) rfl rfl rfl),
   (fun lv st t w => Ex_M (i := .aload_n 0) (n := 1) (by decide +kernel) rfl rfl rfl),
   (fun lv l st w => Ex_ldcI (by decide +kernel : decode M_X11_layings.2.1 34 = .ok (.ldc 218, 2)) rfl (by decide +kernel)),
   (fun lv l b a0 w => Ex_callV (by decide +kernel : decode M_X11_layings.2.1 36 = .ok (.invokevirtual 74, 3)) rfl (by rfl : resM (mCn M_X11_layings) 74 = some (2, M_X11_refuse)) rfl (by rfl) (Nat.le_of_ble_eq_true rfl) (by decide +kernel) (sLv_lt (by decide +kernel))),
   (fun lv l x w => Ex_R (i := .ireturn) (n := 1) (by decide +kernel) rfl rfl rfl rfl rfl),
   (fun lv st t o0 o1 x w => Ex_M (i := .iload_n 2) (n := 1) (by decide +kernel) rfl rfl rfl),
   (fun lv l st x w => Ex_if_ne (by decide +kernel : decode M_X11_layings.2.1 41 = .ok (.ifCond .ne 15, 3)) rfl rfl),
   (fun lv st t x w => Ex_M (i := .aload_n 0) (n := 1) (by decide +kernel) rfl rfl rfl),
   (fun lv st t w => Ex_M (i := .aload_n 0) (n := 1) (by decide +kernel) rfl rfl rfl),
   (fun lv l st a w => Ex_getf (by decide +kernel : decode M_X11_layings.2.1 45 = .ok (.getfield 12, 3)) rfl (by decide +kernel : resF (mCn M_X11_layings) 12 = some (10, 0, (.object "CarpetLands$Country"), true))),
   (fun lv l st a w => Ex_getf (by decide +kernel : decode M_X11_layings.2.1 48 = .ok (.getfield 78, 3)) rfl (by decide +kernel : resF (mCn M_X11_layings) 78 = some (1, 0, (.object "CarpetLands$Carpet"), true))),
   (fun lv st t o0 o1 o2 x w => Ex_M (i := .aload_n 3) (n := 1) (by decide +kernel) rfl rfl rfl),
   (fun lv st t o0 o1 o2 w => Ex_M (i := .aload_n 3) (n := 1) (by decide +kernel) rfl rfl rfl),
   (fun lv l b a0 w => Ex_callV (by decide +kernel : decode M_X11_layings.2.1 52 = .ok (.invokevirtual 257, 3)) rfl (by rfl : resM (mCn M_X11_layings) 257 = some (2, M_X0_countLayings)) rfl (by rfl) (Nat.le_of_ble_eq_true rfl) (by decide +kernel) (sLv_lt (by decide +kernel))),
   (fun lv l x w => Ex_R (i := .ireturn) (n := 1) (by decide +kernel) rfl rfl rfl rfl rfl),
   (fun lv st t x w => Ex_M (i := .aload_n 0) (n := 1) (by decide +kernel) rfl rfl rfl),
   (fun lv st t w => Ex_M (i := .aload_n 0) (n := 1) (by decide +kernel) rfl rfl rfl),
   (fun lv l st a w => Ex_getf (by decide +kernel : decode M_X11_layings.2.1 57 = .ok (.getfield 12, 3)) rfl (by decide +kernel : resF (mCn M_X11_layings) 12 = some (10, 0, (.object "CarpetLands$Country"), true))),
   (fun lv l st a w => Ex_getf (by decide +kernel : decode M_X11_layings.2.1 60 = .ok (.getfield 78, 3)) rfl (by decide +kernel : resF (mCn M_X11_layings) 78 = some (1, 0, (.object "CarpetLands$Carpet"), true))),
   (fun lv st t o0 o1 o2 x w => Ex_M (i := .aload_n 3) (n := 1) (by decide +kernel) rfl rfl rfl),
   (fun lv st t o0 o1 o2 w => Ex_M (i := .aload_n 3) (n := 1) (by decide +kernel) rfl rfl rfl),
   (fun lv l b a0 w => Ex_callV (by decide +kernel : decode M_X11_layings.2.1 64 = .ok (.invokevirtual 261, 3)) rfl (by rfl : resM (mCn M_X11_layings) 261 = some (2, M_X0_bestLaying)) rfl (by rfl) (Nat.le_of_ble_eq_true rfl) (by decide +kernel) (sLv_lt (by decide +kernel))),
   (fun lv l st x w => Ex_M (i := .istore 4) (n := 2) (by decide +kernel) rfl rfl rfl),
   (fun lv st t o0 o1 o2 o3 x w => Ex_M (i := .iload 4) (n := 2) (by decide +kernel) rfl rfl rfl),
   (fun lv l st x w => Ex_if_ge (by decide +kernel : decode M_X11_layings.2.1 71 = .ok (.ifCond .ge 12, 3)) rfl rfl),
   (fun lv st t x w => Ex_M (i := .aload_n 0) (n := 1) (by decide +kernel) rfl rfl rfl),
   (fun lv st t w => Ex_M (i := .aload_n 0) (n := 1) (by decide +kernel) rfl rfl rfl),
   (fun lv l st w => Ex_ldcI (by decide +kernel : decode M_X11_layings.2.1 75 = .ok (.ldc 218, 2)) rfl (by decide +kernel)),
   (fun lv l b a0 w => Ex_callV (by decide +kernel : decode M_X11_layings.2.1 77 = .ok (.invokevirtual 74, 3)) rfl (by rfl : resM (mCn M_X11_layings) 74 = some (2, M_X11_refuse)) rfl (by rfl) (Nat.le_of_ble_eq_true rfl) (by decide +kernel) (sLv_lt (by decide +kernel))),
   (fun lv l st w => Ex_goto (by decide +kernel : decode M_X11_layings.2.1 80 = .ok (.goto 5, 3)) rfl),
   (fun lv st t o0 o1 o2 o3 x w => Ex_M (i := .iload 4) (n := 2) (by decide +kernel) rfl rfl rfl),
   (fun lv l x w => Ex_R (i := .ireturn) (n := 1) (by decide +kernel) rfl rfl rfl rfl rfl)⟩
set_option maxRecDepth 20000 in
theorem H_X11_cut_20 : ∀ (lv : Nat) (st : List Value) (t : LX) (o0 o1 o2 : Option Value) (x : Int32) (w : AH), Ex M_X11_cut lv 20 (o0 :: o1 :: o2 :: some (.int x) :: t) st w = Ex M_X11_cut lv 21 (o0 :: o1 :: o2 :: some (.int x) :: t) (.int x :: st) w := fun lv st t o0 o1 o2 x w => Ex_M (i := .iload_n 3) (n := 1) (by decide +kernel) rfl rfl rfl
set_option maxRecDepth 20000 in
theorem H_X11_cut_54 : ∀ (lv : Nat) (st : List Value) (t : LX) (o0 o1 o2 o3 o4 o5 : Option Value) (x : Int32) (w : AH), Ex M_X11_cut lv 54 (o0 :: o1 :: o2 :: o3 :: o4 :: o5 :: some (.int x) :: t) st w = Ex M_X11_cut lv 56 (o0 :: o1 :: o2 :: o3 :: o4 :: o5 :: some (.int x) :: t) (.int x :: st) w := fun lv st t o0 o1 o2 o3 o4 o5 x w => Ex_M (i := .iload 6) (n := 2) (by decide +kernel) rfl rfl rfl
set_option maxRecDepth 20000 in
set_option maxHeartbeats 4000000 in
theorem R_X11_cut_p0 : (∀ (lv : Nat) (st : List Value) (t : LX) (o0 : Option Value) (x : Int32) (w : AH), Ex M_X11_cut lv 0 (o0 :: some (.int x) :: t) st w = Ex M_X11_cut lv 1 (o0 :: some (.int x) :: t) (.int x :: st) w)
  ∧ (∀ (lv : Nat) (l : LX) (st : List Value) (w : AH), Ex M_X11_cut lv 1 l st w = Ex M_X11_cut lv 2 l (.int 0 :: st) w)
  ∧ (∀ (lv : Nat) (l : LX) (st : List Value) (w : AH), Ex M_X11_cut lv 2 l st w = Ex M_X11_cut lv 3 l (.int 1 :: st) w)
  ∧ (∀ (lv : Nat) (l : LX) (a0 : Int32) (a1 : Int32) (a2 : Int32) (w : AH), Ex M_X11_cut lv 3 l (.int a2 :: .int a1 :: .int a0 :: []) w = if (Call M_X11_isWithin 60 [.int a0, .int a1, .int a2] w).isSome = true then Ex M_X11_cut lv 6 l (pushR (cV (Call M_X11_isWithin 60 [.int a0, .int a1, .int a2] w)) []) (cW (Call M_X11_isWithin 60 [.int a0, .int a1, .int a2] w) w) else none)
  ∧ (∀ (lv : Nat) (l : LX) (st : List Value) (x : Int32) (w : AH), Ex M_X11_cut lv 6 l (.int x :: st) w = if ¬ x = 0 then Ex M_X11_cut lv 16 l st w else Ex M_X11_cut lv 9 l st w)
  ∧ (∀ (lv : Nat) (st : List Value) (t : LX) (x : Nat) (w : AH), Ex M_X11_cut lv 9 (some (.ref x) :: t) st w = Ex M_X11_cut lv 10 (some (.ref x) :: t) (.ref x :: st) w)
  ∧ (∀ (lv : Nat) (st : List Value) (t : LX) (w : AH), Ex M_X11_cut lv 9 (some (.null) :: t) st w = Ex M_X11_cut lv 10 (some (.null) :: t) (.null :: st) w)
  ∧ (∀ (lv : Nat) (l : LX) (st : List Value) (w : AH), Ex M_X11_cut lv 10 l st w = Ex M_X11_cut lv 12 l (.int (-1000000001) :: st) w)
  ∧ (∀ (lv : Nat) (l : LX) (b : Nat) (a0 : Int32) (w : AH), Ex M_X11_cut lv 12 l (.int a0 :: .ref b :: []) w = if clK (hg w b) = 10 then (if (Call M_X11_refuse 60 [.ref b, .int a0] w).isSome = true then Ex M_X11_cut lv 15 l (pushR (cV (Call M_X11_refuse 60 [.ref b, .int a0] w)) []) (cW (Call M_X11_refuse 60 [.ref b, .int a0] w) w) else none) else none)
  ∧ (∀ (lv : Nat) (l : LX) (x : Int32) (w : AH), Ex M_X11_cut lv 15 l [.int x] w = some (some (.int x), w))
  ∧ (∀ (lv : Nat) (l : LX) (st : List Value) (w : AH), Ex M_X11_cut lv 16 l st w = Ex M_X11_cut lv 17 l (.int 0 :: st) w)
  ∧ (∀ (lv : Nat) (l : LX) (st : List Value) (x : Int32) (w : AH), Ex M_X11_cut lv 17 l (.int x :: st) w = Ex M_X11_cut lv 18 (ls1 l 2 (.int x)) st w)
  ∧ (∀ (lv : Nat) (l : LX) (st : List Value) (w : AH), Ex M_X11_cut lv 18 l st w = Ex M_X11_cut lv 19 l (.int 0 :: st) w)
  ∧ (∀ (lv : Nat) (l : LX) (st : List Value) (x : Int32) (w : AH), Ex M_X11_cut lv 19 l (.int x :: st) w = Ex M_X11_cut lv 20 (ls1 l 3 (.int x)) st w)
  ∧ (∀ (lv : Nat) (l : LX) (st : List Value) (w : AH), Ex M_X11_cut lv 21 l st w = Ex M_X11_cut lv 23 l (.int 6 :: st) w)
  ∧ (∀ (lv : Nat) (l : LX) (st : List Value) (x y : Int32) (w : AH), Ex M_X11_cut lv 23 l (.int y :: .int x :: st) w = if y ≤ x then Ex M_X11_cut lv 43 l st w else Ex M_X11_cut lv 26 l st w)
  ∧ (∀ (lv : Nat) (st : List Value) (t : LX) (o0 o1 : Option Value) (x : Int32) (w : AH), Ex M_X11_cut lv 26 (o0 :: o1 :: some (.int x) :: t) st w = Ex M_X11_cut lv 27 (o0 :: o1 :: some (.int x) :: t) (.int x :: st) w)
  ∧ (∀ (lv : Nat) (st : List Value) (t : LX) (x : Nat) (w : AH), Ex M_X11_cut lv 27 (some (.ref x) :: t) st w = Ex M_X11_cut lv 28 (some (.ref x) :: t) (.ref x :: st) w)
  ∧ (∀ (lv : Nat) (st : List Value) (t : LX) (w : AH), Ex M_X11_cut lv 27 (some (.null) :: t) st w = Ex M_X11_cut lv 28 (some (.null) :: t) (.null :: st) w)
  ∧ (∀ (lv : Nat) (l : LX) (st : List Value) (a : Nat) (w : AH), Ex M_X11_cut lv 28 l (.ref a :: st) w = if (gf (hg w a) 10 0).isSome = true then Ex M_X11_cut lv 31 l (vV (gf (hg w a) 10 0) :: st) w else none)
  ∧ (∀ (lv : Nat) (st : List Value) (t : LX) (o0 o1 o2 : Option Value) (x : Int32) (w : AH), Ex M_X11_cut lv 31 (o0 :: o1 :: o2 :: some (.int x) :: t) st w = Ex M_X11_cut lv 32 (o0 :: o1 :: o2 :: some (.int x) :: t) (.int x :: st) w)
  ∧ (∀ (lv : Nat) (l : LX) (b : Nat) (a0 : Int32) (s0 : Int32) (w : AH), Ex M_X11_cut lv 32 l (.int a0 :: .ref b :: [.int s0]) w = if clK (hg w b) = 1 then (if (Call M_X1_worthOfColumn 60 [.ref b, .int a0] w).isSome = true then Ex M_X11_cut lv 35 l (pushR (cV (Call M_X1_worthOfColumn 60 [.ref b, .int a0] w)) [.int s0]) (cW (Call M_X1_worthOfColumn 60 [.ref b, .int a0] w) w) else none) else none)
  ∧ (∀ (lv : Nat) (l : LX) (st : List Value) (x y : Int32) (w : AH), Ex M_X11_cut lv 35 l (.int y :: .int x :: st) w = Ex M_X11_cut lv 36 l (.int (x + y) :: st) w)
  ∧ (∀ (lv : Nat) (l : LX) (st : List Value) (x : Int32) (w : AH), Ex M_X11_cut lv 36 l (.int x :: st) w = Ex M_X11_cut lv 37 (ls1 l 2 (.int x)) st w)
  ∧ (∀ (lv : Nat) (st : List Value) (t : LX) (o0 o1 o2 : Option Value) (x : Int32) (w : AH), Ex M_X11_cut lv 37 (o0 :: o1 :: o2 :: some (.int x) :: t) st w = Ex M_X11_cut lv 40 (ls1 (o0 :: o1 :: o2 :: some (.int x) :: t) 3 (.int (x + 1))) st w)
  ∧ (∀ (lv : Nat) (l : LX) (st : List Value) (w : AH), Ex M_X11_cut lv 40 l st w = Ex M_X11_cut lv 20 l st w)
  ∧ (∀ (lv : Nat) (l : LX) (st : List Value) (w : AH), Ex M_X11_cut lv 43 l st w = Ex M_X11_cut lv 44 l (.int 0 :: st) w)
  ∧ (∀ (lv : Nat) (l : LX) (st : List Value) (x : Int32) (w : AH), Ex M_X11_cut lv 44 l (.int x :: st) w = Ex M_X11_cut lv 45 (ls1 l 3 (.int x)) st w)
  ∧ (∀ (lv : Nat) (l : LX) (st : List Value) (w : AH), Ex M_X11_cut lv 45 l st w = Ex M_X11_cut lv 46 l (.int (-1) :: st) w)
  ∧ (∀ (lv : Nat) (l : LX) (st : List Value) (x : Int32) (w : AH), Ex M_X11_cut lv 46 l (.int x :: st) w = Ex M_X11_cut lv 48 (ls1 l 4 (.int x)) st w)
  ∧ (∀ (lv : Nat) (l : LX) (st : List Value) (w : AH), Ex M_X11_cut lv 48 l st w = Ex M_X11_cut lv 49 l (.int 0 :: st) w)
  ∧ (∀ (lv : Nat) (l : LX) (st : List Value) (x : Int32) (w : AH), Ex M_X11_cut lv 49 l (.int x :: st) w = Ex M_X11_cut lv 51 (ls1 l 5 (.int x)) st w)
  ∧ (∀ (lv : Nat) (l : LX) (st : List Value) (w : AH), Ex M_X11_cut lv 51 l st w = Ex M_X11_cut lv 52 l (.int 0 :: st) w)
  ∧ (∀ (lv : Nat) (l : LX) (st : List Value) (x : Int32) (w : AH), Ex M_X11_cut lv 52 l (.int x :: st) w = Ex M_X11_cut lv 54 (ls1 l 6 (.int x)) st w)
  ∧ (∀ (lv : Nat) (l : LX) (st : List Value) (w : AH), Ex M_X11_cut lv 56 l st w = Ex M_X11_cut lv 57 l (.int 5 :: st) w)
  ∧ (∀ (lv : Nat) (l : LX) (st : List Value) (x y : Int32) (w : AH), Ex M_X11_cut lv 57 l (.int y :: .int x :: st) w = if y ≤ x then Ex M_X11_cut lv 108 l st w else Ex M_X11_cut lv 60 l st w)
  ∧ (∀ (lv : Nat) (st : List Value) (t : LX) (o0 o1 o2 : Option Value) (x : Int32) (w : AH), Ex M_X11_cut lv 60 (o0 :: o1 :: o2 :: some (.int x) :: t) st w = Ex M_X11_cut lv 61 (o0 :: o1 :: o2 :: some (.int x) :: t) (.int x :: st) w)
  ∧ (∀ (lv : Nat) (st : List Value) (t : LX) (x : Nat) (w : AH), Ex M_X11_cut lv 61 (some (.ref x) :: t) st w = Ex M_X11_cut lv 62 (some (.ref x) :: t) (.ref x :: st) w)
  ∧ (∀ (lv : Nat) (st : List Value) (t : LX) (w : AH), Ex M_X11_cut lv 61 (some (.null) :: t) st w = Ex M_X11_cut lv 62 (some (.null) :: t) (.null :: st) w)
  ∧ (∀ (lv : Nat) (l : LX) (st : List Value) (a : Nat) (w : AH), Ex M_X11_cut lv 62 l (.ref a :: st) w = if (gf (hg w a) 10 0).isSome = true then Ex M_X11_cut lv 65 l (vV (gf (hg w a) 10 0) :: st) w else none)
  ∧ (∀ (lv : Nat) (st : List Value) (t : LX) (o0 o1 o2 o3 o4 o5 : Option Value) (x : Int32) (w : AH), Ex M_X11_cut lv 65 (o0 :: o1 :: o2 :: o3 :: o4 :: o5 :: some (.int x) :: t) st w = Ex M_X11_cut lv 67 (o0 :: o1 :: o2 :: o3 :: o4 :: o5 :: some (.int x) :: t) (.int x :: st) w)
  ∧ (∀ (lv : Nat) (l : LX) (b : Nat) (a0 : Int32) (s0 : Int32) (w : AH), Ex M_X11_cut lv 67 l (.int a0 :: .ref b :: [.int s0]) w = if clK (hg w b) = 1 then (if (Call M_X1_worthOfColumn 60 [.ref b, .int a0] w).isSome = true then Ex M_X11_cut lv 70 l (pushR (cV (Call M_X1_worthOfColumn 60 [.ref b, .int a0] w)) [.int s0]) (cW (Call M_X1_worthOfColumn 60 [.ref b, .int a0] w) w) else none) else none)
  ∧ (∀ (lv : Nat) (l : LX) (st : List Value) (x y : Int32) (w : AH), Ex M_X11_cut lv 70 l (.int y :: .int x :: st) w = Ex M_X11_cut lv 71 l (.int (x + y) :: st) w)
  ∧ (∀ (lv : Nat) (l : LX) (st : List Value) (x : Int32) (w : AH), Ex M_X11_cut lv 71 l (.int x :: st) w = Ex M_X11_cut lv 72 (ls1 l 3 (.int x)) st w)
  ∧ (∀ (lv : Nat) (st : List Value) (t : LX) (o0 o1 : Option Value) (x : Int32) (w : AH), Ex M_X11_cut lv 72 (o0 :: o1 :: some (.int x) :: t) st w = Ex M_X11_cut lv 73 (o0 :: o1 :: some (.int x) :: t) (.int x :: st) w)
  ∧ (∀ (lv : Nat) (st : List Value) (t : LX) (o0 o1 o2 : Option Value) (x : Int32) (w : AH), Ex M_X11_cut lv 73 (o0 :: o1 :: o2 :: some (.int x) :: t) st w = Ex M_X11_cut lv 74 (o0 :: o1 :: o2 :: some (.int x) :: t) (.int x :: st) w)
  ∧ (∀ (lv : Nat) (l : LX) (st : List Value) (x y : Int32) (w : AH), Ex M_X11_cut lv 74 l (.int y :: .int x :: st) w = Ex M_X11_cut lv 75 l (.int (x - y) :: st) w)
  ∧ (∀ (lv : Nat) (st : List Value) (t : LX) (o0 o1 o2 : Option Value) (x : Int32) (w : AH), Ex M_X11_cut lv 75 (o0 :: o1 :: o2 :: some (.int x) :: t) st w = Ex M_X11_cut lv 76 (o0 :: o1 :: o2 :: some (.int x) :: t) (.int x :: st) w)
  ∧ (∀ (lv : Nat) (l : LX) (st : List Value) (x y : Int32) (w : AH), Ex M_X11_cut lv 76 l (.int y :: .int x :: st) w = Ex M_X11_cut lv 77 l (.int (x - y) :: st) w)
  ∧ (∀ (lv : Nat) (l : LX) (a0 : Int32) (w : AH), Ex M_X11_cut lv 77 l (.int a0 :: []) w = if (Call M_J9_abs_0f7a4 60 [.int a0] w).isSome = true then Ex M_X11_cut lv 80 l (pushR (cV (Call M_J9_abs_0f7a4 60 [.int a0] w)) []) (cW (Call M_J9_abs_0f7a4 60 [.int a0] w) w) else none)
  ∧ (∀ (lv : Nat) (l : LX) (st : List Value) (x : Int32) (w : AH), Ex M_X11_cut lv 80 l (.int x :: st) w = Ex M_X11_cut lv 82 (ls1 l 7 (.int x)) st w)
  ∧ (∀ (lv : Nat) (st : List Value) (t : LX) (o0 o1 o2 o3 : Option Value) (x : Int32) (w : AH), Ex M_X11_cut lv 82 (o0 :: o1 :: o2 :: o3 :: some (.int x) :: t) st w = Ex M_X11_cut lv 84 (o0 :: o1 :: o2 :: o3 :: some (.int x) :: t) (.int x :: st) w)
  ∧ (∀ (lv : Nat) (l : LX) (st : List Value) (x : Int32) (w : AH), Ex M_X11_cut lv 84 l (.int x :: st) w = if x < 0 then Ex M_X11_cut lv 94 l st w else Ex M_X11_cut lv 87 l st w)
  ∧ (∀ (lv : Nat) (st : List Value) (t : LX) (o0 o1 o2 o3 o4 o5 o6 : Option Value) (x : Int32) (w : AH), Ex M_X11_cut lv 87 (o0 :: o1 :: o2 :: o3 :: o4 :: o5 :: o6 :: some (.int x) :: t) st w = Ex M_X11_cut lv 89 (o0 :: o1 :: o2 :: o3 :: o4 :: o5 :: o6 :: some (.int x) :: t) (.int x :: st) w)
  ∧ (∀ (lv : Nat) (st : List Value) (t : LX) (o0 o1 o2 o3 o4 : Option Value) (x : Int32) (w : AH), Ex M_X11_cut lv 89 (o0 :: o1 :: o2 :: o3 :: o4 :: some (.int x) :: t) st w = Ex M_X11_cut lv 91 (o0 :: o1 :: o2 :: o3 :: o4 :: some (.int x) :: t) (.int x :: st) w)
  ∧ (∀ (lv : Nat) (l : LX) (st : List Value) (x y : Int32) (w : AH), Ex M_X11_cut lv 91 l (.int y :: .int x :: st) w = if y ≤ x then Ex M_X11_cut lv 102 l st w else Ex M_X11_cut lv 94 l st w)
  ∧ (∀ (lv : Nat) (st : List Value) (t : LX) (o0 o1 o2 o3 o4 o5 o6 : Option Value) (x : Int32) (w : AH), Ex M_X11_cut lv 94 (o0 :: o1 :: o2 :: o3 :: o4 :: o5 :: o6 :: some (.int x) :: t) st w = Ex M_X11_cut lv 96 (o0 :: o1 :: o2 :: o3 :: o4 :: o5 :: o6 :: some (.int x) :: t) (.int x :: st) w)
  ∧ (∀ (lv : Nat) (l : LX) (st : List Value) (x : Int32) (w : AH), Ex M_X11_cut lv 96 l (.int x :: st) w = Ex M_X11_cut lv 98 (ls1 l 5 (.int x)) st w)
  ∧ (∀ (lv : Nat) (st : List Value) (t : LX) (o0 o1 o2 o3 o4 o5 : Option Value) (x : Int32) (w : AH), Ex M_X11_cut lv 98 (o0 :: o1 :: o2 :: o3 :: o4 :: o5 :: some (.int x) :: t) st w = Ex M_X11_cut lv 100 (o0 :: o1 :: o2 :: o3 :: o4 :: o5 :: some (.int x) :: t) (.int x :: st) w)
  ∧ (∀ (lv : Nat) (l : LX) (st : List Value) (x : Int32) (w : AH), Ex M_X11_cut lv 100 l (.int x :: st) w = Ex M_X11_cut lv 102 (ls1 l 4 (.int x)) st w) :=
  ⟨(fun lv st t o0 x w => Ex_M (i := .iload_n 1) (n := 1) (by decide +kernel) rfl rfl rfl),
   (fun lv l st w => Ex_A (i := .iconst 0) (n := 1) (by decide +kernel) rfl rfl),
   (fun lv l st w => Ex_A (i := .iconst 1) (n := 1) (by decide +kernel) rfl rfl),
   (fun lv l a0 a1 a2 w => Ex_callS (by decide +kernel : decode M_X11_cut.2.1 3 = .ok (.invokestatic 69, 3)) rfl (by rfl : resM (mCn M_X11_cut) 69 = some (0, M_X11_isWithin)) (by decide) rfl (by rfl) (Nat.le_of_ble_eq_true rfl) (sLv_lt (by decide +kernel))),
   (fun lv l st x w => Ex_if_ne (by decide +kernel : decode M_X11_cut.2.1 6 = .ok (.ifCond .ne 10, 3)) rfl rfl),
   (fun lv st t x w => Ex_M (i := .aload_n 0) (n := 1) (by decide +kernel) rfl rfl rfl),
   (fun lv st t w => Ex_M (i := .aload_n 0) (n := 1) (by decide +kernel) rfl rfl rfl),
   (fun lv l st w => Ex_ldcI (by decide +kernel : decode M_X11_cut.2.1 10 = .ok (.ldc 73, 2)) rfl (by decide +kernel)),
   (fun lv l b a0 w => Ex_callV (by decide +kernel : decode M_X11_cut.2.1 12 = .ok (.invokevirtual 74, 3)) rfl (by rfl : resM (mCn M_X11_cut) 74 = some (2, M_X11_refuse)) rfl (by rfl) (Nat.le_of_ble_eq_true rfl) (by decide +kernel) (sLv_lt (by decide +kernel))),
   (fun lv l x w => Ex_R (i := .ireturn) (n := 1) (by decide +kernel) rfl rfl rfl rfl rfl),
   (fun lv l st w => Ex_A (i := .iconst 0) (n := 1) (by decide +kernel) rfl rfl),
   (fun lv l st x w => Ex_M (i := .istore_n 2) (n := 1) (by decide +kernel) rfl rfl rfl),
   (fun lv l st w => Ex_A (i := .iconst 0) (n := 1) (by decide +kernel) rfl rfl),
   (fun lv l st x w => Ex_M (i := .istore_n 3) (n := 1) (by decide +kernel) rfl rfl rfl),
   (fun lv l st w => Ex_A (i := .bipush 6) (n := 2) (by decide +kernel) rfl rfl),
   (fun lv l st x y w => Ex_icmp_ge (by decide +kernel : decode M_X11_cut.2.1 23 = .ok (.if_icmp .ge 20, 3)) rfl rfl),
   (fun lv st t o0 o1 x w => Ex_M (i := .iload_n 2) (n := 1) (by decide +kernel) rfl rfl rfl),
   (fun lv st t x w => Ex_M (i := .aload_n 0) (n := 1) (by decide +kernel) rfl rfl rfl),
   (fun lv st t w => Ex_M (i := .aload_n 0) (n := 1) (by decide +kernel) rfl rfl rfl),
   (fun lv l st a w => Ex_getf (by decide +kernel : decode M_X11_cut.2.1 28 = .ok (.getfield 12, 3)) rfl (by decide +kernel : resF (mCn M_X11_cut) 12 = some (10, 0, (.object "CarpetLands$Country"), true))),
   (fun lv st t o0 o1 o2 x w => Ex_M (i := .iload_n 3) (n := 1) (by decide +kernel) rfl rfl rfl),
   (fun lv l b a0 s0 w => Ex_callV (by decide +kernel : decode M_X11_cut.2.1 32 = .ok (.invokevirtual 264, 3)) rfl (by rfl : resM (mCn M_X11_cut) 264 = some (2, M_X1_worthOfColumn)) rfl (by rfl) (Nat.le_of_ble_eq_true rfl) (by decide +kernel) (sLv_lt (by decide +kernel))),
   (fun lv l st x y w => Ex_A (i := .iadd) (n := 1) (by decide +kernel) rfl rfl),
   (fun lv l st x w => Ex_M (i := .istore_n 2) (n := 1) (by decide +kernel) rfl rfl rfl),
   (fun lv st t o0 o1 o2 x w => Ex_iinc (by decide +kernel : decode M_X11_cut.2.1 37 = .ok (.iinc 3 1, 3)) rfl rfl (by decide) (by decide)),
   (fun lv l st w => Ex_goto (by decide +kernel : decode M_X11_cut.2.1 40 = .ok (.goto (-20), 3)) rfl),
   (fun lv l st w => Ex_A (i := .iconst 0) (n := 1) (by decide +kernel) rfl rfl),
   (fun lv l st x w => Ex_M (i := .istore_n 3) (n := 1) (by decide +kernel) rfl rfl rfl),
   (fun lv l st w => Ex_A (i := .iconst (-1)) (n := 1) (by decide +kernel) rfl rfl),
   (fun lv l st x w => Ex_M (i := .istore 4) (n := 2) (by decide +kernel) rfl rfl rfl),
   (fun lv l st w => Ex_A (i := .iconst 0) (n := 1) (by decide +kernel) rfl rfl),
   (fun lv l st x w => Ex_M (i := .istore 5) (n := 2) (by decide +kernel) rfl rfl rfl),
   (fun lv l st w => Ex_A (i := .iconst 0) (n := 1) (by decide +kernel) rfl rfl),
   (fun lv l st x w => Ex_M (i := .istore 6) (n := 2) (by decide +kernel) rfl rfl rfl),
   (fun lv l st w => Ex_A (i := .iconst 5) (n := 1) (by decide +kernel) rfl rfl),
   (fun lv l st x y w => Ex_icmp_ge (by decide +kernel : decode M_X11_cut.2.1 57 = .ok (.if_icmp .ge 51, 3)) rfl rfl),
   (fun lv st t o0 o1 o2 x w => Ex_M (i := .iload_n 3) (n := 1) (by decide +kernel) rfl rfl rfl),
   (fun lv st t x w => Ex_M (i := .aload_n 0) (n := 1) (by decide +kernel) rfl rfl rfl),
   (fun lv st t w => Ex_M (i := .aload_n 0) (n := 1) (by decide +kernel) rfl rfl rfl),
   (fun lv l st a w => Ex_getf (by decide +kernel : decode M_X11_cut.2.1 62 = .ok (.getfield 12, 3)) rfl (by decide +kernel : resF (mCn M_X11_cut) 12 = some (10, 0, (.object "CarpetLands$Country"), true))),
   (fun lv st t o0 o1 o2 o3 o4 o5 x w => Ex_M (i := .iload 6) (n := 2) (by decide +kernel) rfl rfl rfl),
   (fun lv l b a0 s0 w => Ex_callV (by decide +kernel : decode M_X11_cut.2.1 67 = .ok (.invokevirtual 264, 3)) rfl (by rfl : resM (mCn M_X11_cut) 264 = some (2, M_X1_worthOfColumn)) rfl (by rfl) (Nat.le_of_ble_eq_true rfl) (by decide +kernel) (sLv_lt (by decide +kernel))),
   (fun lv l st x y w => Ex_A (i := .iadd) (n := 1) (by decide +kernel) rfl rfl),
   (fun lv l st x w => Ex_M (i := .istore_n 3) (n := 1) (by decide +kernel) rfl rfl rfl),
   (fun lv st t o0 o1 x w => Ex_M (i := .iload_n 2) (n := 1) (by decide +kernel) rfl rfl rfl),
   (fun lv st t o0 o1 o2 x w => Ex_M (i := .iload_n 3) (n := 1) (by decide +kernel) rfl rfl rfl),
   (fun lv l st x y w => Ex_A (i := .isub) (n := 1) (by decide +kernel) rfl rfl),
   (fun lv st t o0 o1 o2 x w => Ex_M (i := .iload_n 3) (n := 1) (by decide +kernel) rfl rfl rfl),
   (fun lv l st x y w => Ex_A (i := .isub) (n := 1) (by decide +kernel) rfl rfl),
   (fun lv l a0 w => Ex_callS (by decide +kernel : decode M_X11_cut.2.1 77 = .ok (.invokestatic 267, 3)) rfl (by rfl : resM (mCn M_X11_cut) 267 = some (0, M_J9_abs_0f7a4)) (by decide) rfl (by rfl) (Nat.le_of_ble_eq_true rfl) (sLv_lt (by decide +kernel))),
   (fun lv l st x w => Ex_M (i := .istore 7) (n := 2) (by decide +kernel) rfl rfl rfl),
   (fun lv st t o0 o1 o2 o3 x w => Ex_M (i := .iload 4) (n := 2) (by decide +kernel) rfl rfl rfl),
   (fun lv l st x w => Ex_if_lt (by decide +kernel : decode M_X11_cut.2.1 84 = .ok (.ifCond .lt 10, 3)) rfl rfl),
   (fun lv st t o0 o1 o2 o3 o4 o5 o6 x w => Ex_M (i := .iload 7) (n := 2) (by decide +kernel) rfl rfl rfl),
   (fun lv st t o0 o1 o2 o3 o4 x w => Ex_M (i := .iload 5) (n := 2) (by decide +kernel) rfl rfl rfl),
   (fun lv l st x y w => Ex_icmp_ge (by decide +kernel : decode M_X11_cut.2.1 91 = .ok (.if_icmp .ge 11, 3)) rfl rfl),
   (fun lv st t o0 o1 o2 o3 o4 o5 o6 x w => Ex_M (i := .iload 7) (n := 2) (by decide +kernel) rfl rfl rfl),
   (fun lv l st x w => Ex_M (i := .istore 5) (n := 2) (by decide +kernel) rfl rfl rfl),
   (fun lv st t o0 o1 o2 o3 o4 o5 x w => Ex_M (i := .iload 6) (n := 2) (by decide +kernel) rfl rfl rfl),
   (fun lv l st x w => Ex_M (i := .istore 4) (n := 2) (by decide +kernel) rfl rfl rfl)⟩
set_option maxRecDepth 20000 in
set_option maxHeartbeats 4000000 in
theorem R_X11_cut_p1 : (∀ (lv : Nat) (st : List Value) (t : LX) (o0 o1 o2 o3 o4 o5 : Option Value) (x : Int32) (w : AH), Ex M_X11_cut lv 102 (o0 :: o1 :: o2 :: o3 :: o4 :: o5 :: some (.int x) :: t) st w = Ex M_X11_cut lv 105 (ls1 (o0 :: o1 :: o2 :: o3 :: o4 :: o5 :: some (.int x) :: t) 6 (.int (x + 1))) st w)
  ∧ (∀ (lv : Nat) (l : LX) (st : List Value) (w : AH), Ex M_X11_cut lv 105 l st w = Ex M_X11_cut lv 54 l st w)
  ∧ (∀ (lv : Nat) (st : List Value) (t : LX) (o0 : Option Value) (x : Int32) (w : AH), Ex M_X11_cut lv 108 (o0 :: some (.int x) :: t) st w = Ex M_X11_cut lv 109 (o0 :: some (.int x) :: t) (.int x :: st) w)
  ∧ (∀ (lv : Nat) (l : LX) (st : List Value) (x : Int32) (w : AH), Ex M_X11_cut lv 109 l (.int x :: st) w = if ¬ x = 0 then Ex M_X11_cut lv 117 l st w else Ex M_X11_cut lv 112 l st w)
  ∧ (∀ (lv : Nat) (st : List Value) (t : LX) (o0 o1 o2 o3 : Option Value) (x : Int32) (w : AH), Ex M_X11_cut lv 112 (o0 :: o1 :: o2 :: o3 :: some (.int x) :: t) st w = Ex M_X11_cut lv 114 (o0 :: o1 :: o2 :: o3 :: some (.int x) :: t) (.int x :: st) w)
  ∧ (∀ (lv : Nat) (l : LX) (st : List Value) (w : AH), Ex M_X11_cut lv 114 l st w = Ex M_X11_cut lv 119 l st w)
  ∧ (∀ (lv : Nat) (st : List Value) (t : LX) (o0 o1 o2 o3 o4 : Option Value) (x : Int32) (w : AH), Ex M_X11_cut lv 117 (o0 :: o1 :: o2 :: o3 :: o4 :: some (.int x) :: t) st w = Ex M_X11_cut lv 119 (o0 :: o1 :: o2 :: o3 :: o4 :: some (.int x) :: t) (.int x :: st) w)
  ∧ (∀ (lv : Nat) (l : LX) (x : Int32) (w : AH), Ex M_X11_cut lv 119 l [.int x] w = some (some (.int x), w)) :=
  ⟨(fun lv st t o0 o1 o2 o3 o4 o5 x w => Ex_iinc (by decide +kernel : decode M_X11_cut.2.1 102 = .ok (.iinc 6 1, 3)) rfl rfl (by decide) (by decide)),
   (fun lv l st w => Ex_goto (by decide +kernel : decode M_X11_cut.2.1 105 = .ok (.goto (-51), 3)) rfl),
   (fun lv st t o0 x w => Ex_M (i := .iload_n 1) (n := 1) (by decide +kernel) rfl rfl rfl),
   (fun lv l st x w => Ex_if_ne (by decide +kernel : decode M_X11_cut.2.1 109 = .ok (.ifCond .ne 8, 3)) rfl rfl),
   (fun lv st t o0 o1 o2 o3 x w => Ex_M (i := .iload 4) (n := 2) (by decide +kernel) rfl rfl rfl),
   (fun lv l st w => Ex_goto (by decide +kernel : decode M_X11_cut.2.1 114 = .ok (.goto 5, 3)) rfl),
   (fun lv st t o0 o1 o2 o3 o4 x w => Ex_M (i := .iload 5) (n := 2) (by decide +kernel) rfl rfl rfl),
   (fun lv l x w => Ex_R (i := .ireturn) (n := 1) (by decide +kernel) rfl rfl rfl rfl rfl)⟩
-- R_X11_cut: p0 to p1
set_option maxRecDepth 20000 in
set_option maxHeartbeats 4000000 in
theorem R_X11_dyed : (∀ (lv : Nat) (st : List Value) (t : LX) (o0 : Option Value) (x : Int32) (w : AH), Ex M_X11_dyed lv 0 (o0 :: some (.int x) :: t) st w = Ex M_X11_dyed lv 1 (o0 :: some (.int x) :: t) (.int x :: st) w)
  ∧ (∀ (lv : Nat) (l : LX) (a0 : Int32) (w : AH), Ex M_X11_dyed lv 1 l (.int a0 :: []) w = if (Call M_X11_isKnot 60 [.int a0] w).isSome = true then Ex M_X11_dyed lv 4 l (pushR (cV (Call M_X11_isKnot 60 [.int a0] w)) []) (cW (Call M_X11_isKnot 60 [.int a0] w) w) else none)
  ∧ (∀ (lv : Nat) (l : LX) (st : List Value) (x : Int32) (w : AH), Ex M_X11_dyed lv 4 l (.int x :: st) w = if x = 0 then Ex M_X11_dyed lv 27 l st w else Ex M_X11_dyed lv 7 l st w)
  ∧ (∀ (lv : Nat) (st : List Value) (t : LX) (o0 o1 : Option Value) (x : Int32) (w : AH), Ex M_X11_dyed lv 7 (o0 :: o1 :: some (.int x) :: t) st w = Ex M_X11_dyed lv 8 (o0 :: o1 :: some (.int x) :: t) (.int x :: st) w)
  ∧ (∀ (lv : Nat) (l : LX) (st : List Value) (w : AH), Ex M_X11_dyed lv 8 l st w = Ex M_X11_dyed lv 9 l (.int 1 :: st) w)
  ∧ (∀ (lv : Nat) (l : LX) (st : List Value) (w : AH), Ex M_X11_dyed lv 9 l st w = Ex M_X11_dyed lv 10 l (.int 3 :: st) w)
  ∧ (∀ (lv : Nat) (l : LX) (a0 : Int32) (a1 : Int32) (a2 : Int32) (w : AH), Ex M_X11_dyed lv 10 l (.int a2 :: .int a1 :: .int a0 :: []) w = if (Call M_X11_isWithin 60 [.int a0, .int a1, .int a2] w).isSome = true then Ex M_X11_dyed lv 13 l (pushR (cV (Call M_X11_isWithin 60 [.int a0, .int a1, .int a2] w)) []) (cW (Call M_X11_isWithin 60 [.int a0, .int a1, .int a2] w) w) else none)
  ∧ (∀ (lv : Nat) (l : LX) (st : List Value) (x : Int32) (w : AH), Ex M_X11_dyed lv 13 l (.int x :: st) w = if x = 0 then Ex M_X11_dyed lv 27 l st w else Ex M_X11_dyed lv 16 l st w)
  ∧ (∀ (lv : Nat) (st : List Value) (t : LX) (o0 o1 o2 : Option Value) (x : Int32) (w : AH), Ex M_X11_dyed lv 16 (o0 :: o1 :: o2 :: some (.int x) :: t) st w = Ex M_X11_dyed lv 17 (o0 :: o1 :: o2 :: some (.int x) :: t) (.int x :: st) w)
  ∧ (∀ (lv : Nat) (l : LX) (st : List Value) (w : AH), Ex M_X11_dyed lv 17 l st w = Ex M_X11_dyed lv 18 l (.int (-1) :: st) w)
  ∧ (∀ (lv : Nat) (st : List Value) (t : LX) (o0 o1 : Option Value) (x : Int32) (w : AH), Ex M_X11_dyed lv 18 (o0 :: o1 :: some (.int x) :: t) st w = Ex M_X11_dyed lv 19 (o0 :: o1 :: some (.int x) :: t) (.int x :: st) w)
  ∧ (∀ (lv : Nat) (l : LX) (st : List Value) (w : AH), Ex M_X11_dyed lv 19 l st w = Ex M_X11_dyed lv 20 l (.int 1 :: st) w)
  ∧ (∀ (lv : Nat) (l : LX) (st : List Value) (x y : Int32) (w : AH), Ex M_X11_dyed lv 20 l (.int y :: .int x :: st) w = Ex M_X11_dyed lv 21 l (.int (x - y) :: st) w)
  ∧ (∀ (lv : Nat) (l : LX) (a0 : Int32) (a1 : Int32) (a2 : Int32) (w : AH), Ex M_X11_dyed lv 21 l (.int a2 :: .int a1 :: .int a0 :: []) w = if (Call M_X11_isWithin 60 [.int a0, .int a1, .int a2] w).isSome = true then Ex M_X11_dyed lv 24 l (pushR (cV (Call M_X11_isWithin 60 [.int a0, .int a1, .int a2] w)) []) (cW (Call M_X11_isWithin 60 [.int a0, .int a1, .int a2] w) w) else none)
  ∧ (∀ (lv : Nat) (l : LX) (st : List Value) (x : Int32) (w : AH), Ex M_X11_dyed lv 24 l (.int x :: st) w = if ¬ x = 0 then Ex M_X11_dyed lv 34 l st w else Ex M_X11_dyed lv 27 l st w)
  ∧ (∀ (lv : Nat) (st : List Value) (t : LX) (x : Nat) (w : AH), Ex M_X11_dyed lv 27 (some (.ref x) :: t) st w = Ex M_X11_dyed lv 28 (some (.ref x) :: t) (.ref x :: st) w)
  ∧ (∀ (lv : Nat) (st : List Value) (t : LX) (w : AH), Ex M_X11_dyed lv 27 (some (.null) :: t) st w = Ex M_X11_dyed lv 28 (some (.null) :: t) (.null :: st) w)
  ∧ (∀ (lv : Nat) (l : LX) (st : List Value) (w : AH), Ex M_X11_dyed lv 28 l st w = Ex M_X11_dyed lv 30 l (.int (-1000000001) :: st) w)
  ∧ (∀ (lv : Nat) (l : LX) (b : Nat) (a0 : Int32) (w : AH), Ex M_X11_dyed lv 30 l (.int a0 :: .ref b :: []) w = if clK (hg w b) = 10 then (if (Call M_X11_refuse 60 [.ref b, .int a0] w).isSome = true then Ex M_X11_dyed lv 33 l (pushR (cV (Call M_X11_refuse 60 [.ref b, .int a0] w)) []) (cW (Call M_X11_refuse 60 [.ref b, .int a0] w) w) else none) else none)
  ∧ (∀ (lv : Nat) (l : LX) (x : Int32) (w : AH), Ex M_X11_dyed lv 33 l [.int x] w = some (some (.int x), w))
  ∧ (∀ (lv : Nat) (st : List Value) (t : LX) (x : Nat) (w : AH), Ex M_X11_dyed lv 34 (some (.ref x) :: t) st w = Ex M_X11_dyed lv 35 (some (.ref x) :: t) (.ref x :: st) w)
  ∧ (∀ (lv : Nat) (st : List Value) (t : LX) (w : AH), Ex M_X11_dyed lv 34 (some (.null) :: t) st w = Ex M_X11_dyed lv 35 (some (.null) :: t) (.null :: st) w)
  ∧ (∀ (lv : Nat) (l : LX) (st : List Value) (a : Nat) (w : AH), Ex M_X11_dyed lv 35 l (.ref a :: st) w = if (gf (hg w a) 10 6).isSome = true then Ex M_X11_dyed lv 38 l (vV (gf (hg w a) 10 6) :: st) w else none)
  ∧ (∀ (lv : Nat) (st : List Value) (t : LX) (x : Nat) (w : AH), Ex M_X11_dyed lv 38 (some (.ref x) :: t) st w = Ex M_X11_dyed lv 39 (some (.ref x) :: t) (.ref x :: st) w)
  ∧ (∀ (lv : Nat) (st : List Value) (t : LX) (w : AH), Ex M_X11_dyed lv 38 (some (.null) :: t) st w = Ex M_X11_dyed lv 39 (some (.null) :: t) (.null :: st) w)
  ∧ (∀ (lv : Nat) (l : LX) (st : List Value) (a : Nat) (w : AH), Ex M_X11_dyed lv 39 l (.ref a :: st) w = if (gf (hg w a) 10 0).isSome = true then Ex M_X11_dyed lv 42 l (vV (gf (hg w a) 10 0) :: st) w else none)
  ∧ (∀ (lv : Nat) (l : LX) (st : List Value) (a : Nat) (w : AH), Ex M_X11_dyed lv 42 l (.ref a :: st) w = if (gf (hg w a) 1 0).isSome = true then Ex M_X11_dyed lv 45 l (vV (gf (hg w a) 1 0) :: st) w else none)
  ∧ (∀ (lv : Nat) (st : List Value) (t : LX) (o0 : Option Value) (x : Int32) (w : AH), Ex M_X11_dyed lv 45 (o0 :: some (.int x) :: t) st w = Ex M_X11_dyed lv 46 (o0 :: some (.int x) :: t) (.int x :: st) w)
  ∧ (∀ (lv : Nat) (st : List Value) (t : LX) (o0 o1 : Option Value) (x : Int32) (w : AH), Ex M_X11_dyed lv 46 (o0 :: o1 :: some (.int x) :: t) st w = Ex M_X11_dyed lv 47 (o0 :: o1 :: some (.int x) :: t) (.int x :: st) w)
  ∧ (∀ (lv : Nat) (l : LX) (b : Nat) (a0 : Nat) (a1 : Int32) (a2 : Int32) (w : AH), Ex M_X11_dyed lv 47 l (.int a2 :: .int a1 :: .ref a0 :: .ref b :: []) w = if clK (hg w b) = 2 then (if (Call M_X2_tryAll 60 [.ref b, .ref a0, .int a1, .int a2] w).isSome = true then Ex M_X11_dyed lv 50 l (pushR (cV (Call M_X2_tryAll 60 [.ref b, .ref a0, .int a1, .int a2] w)) []) (cW (Call M_X2_tryAll 60 [.ref b, .ref a0, .int a1, .int a2] w) w) else none) else none)
  ∧ (∀ (lv : Nat) (st : List Value) (t : LX) (o0 o1 o2 : Option Value) (x : Int32) (w : AH), Ex M_X11_dyed lv 50 (o0 :: o1 :: o2 :: some (.int x) :: t) st w = Ex M_X11_dyed lv 51 (o0 :: o1 :: o2 :: some (.int x) :: t) (.int x :: st) w)
  ∧ (∀ (lv : Nat) (l : LX) (st : List Value) (x : Int32) (w : AH), Ex M_X11_dyed lv 51 l (.int x :: st) w = if 0 ≤ x then Ex M_X11_dyed lv 64 l st w else Ex M_X11_dyed lv 54 l st w)
  ∧ (∀ (lv : Nat) (st : List Value) (t : LX) (x : Nat) (w : AH), Ex M_X11_dyed lv 54 (some (.ref x) :: t) st w = Ex M_X11_dyed lv 55 (some (.ref x) :: t) (.ref x :: st) w)
  ∧ (∀ (lv : Nat) (st : List Value) (t : LX) (w : AH), Ex M_X11_dyed lv 54 (some (.null) :: t) st w = Ex M_X11_dyed lv 55 (some (.null) :: t) (.null :: st) w)
  ∧ (∀ (lv : Nat) (l : LX) (st : List Value) (a : Nat) (w : AH), Ex M_X11_dyed lv 55 l (.ref a :: st) w = if (gf (hg w a) 10 6).isSome = true then Ex M_X11_dyed lv 58 l (vV (gf (hg w a) 10 6) :: st) w else none)
  ∧ (∀ (lv : Nat) (l : LX) (st : List Value) (a : Nat) (w : AH), Ex M_X11_dyed lv 58 l (.ref a :: st) w = if (gf (hg w a) 2 3).isSome = true then Ex M_X11_dyed lv 61 l (vV (gf (hg w a) 2 3) :: st) w else none)
  ∧ (∀ (lv : Nat) (l : LX) (st : List Value) (w : AH), Ex M_X11_dyed lv 61 l st w = Ex M_X11_dyed lv 72 l st w)
  ∧ (∀ (lv : Nat) (st : List Value) (t : LX) (x : Nat) (w : AH), Ex M_X11_dyed lv 64 (some (.ref x) :: t) st w = Ex M_X11_dyed lv 65 (some (.ref x) :: t) (.ref x :: st) w)
  ∧ (∀ (lv : Nat) (st : List Value) (t : LX) (w : AH), Ex M_X11_dyed lv 64 (some (.null) :: t) st w = Ex M_X11_dyed lv 65 (some (.null) :: t) (.null :: st) w)
  ∧ (∀ (lv : Nat) (l : LX) (st : List Value) (a : Nat) (w : AH), Ex M_X11_dyed lv 65 l (.ref a :: st) w = if (gf (hg w a) 10 6).isSome = true then Ex M_X11_dyed lv 68 l (vV (gf (hg w a) 10 6) :: st) w else none)
  ∧ (∀ (lv : Nat) (st : List Value) (t : LX) (o0 o1 o2 : Option Value) (x : Int32) (w : AH), Ex M_X11_dyed lv 68 (o0 :: o1 :: o2 :: some (.int x) :: t) st w = Ex M_X11_dyed lv 69 (o0 :: o1 :: o2 :: some (.int x) :: t) (.int x :: st) w)
  ∧ (∀ (lv : Nat) (l : LX) (b : Nat) (a0 : Int32) (w : AH), Ex M_X11_dyed lv 69 l (.int a0 :: .ref b :: []) w = if clK (hg w b) = 2 then (if (Call M_X2_colourOfFlood 60 [.ref b, .int a0] w).isSome = true then Ex M_X11_dyed lv 72 l (pushR (cV (Call M_X2_colourOfFlood 60 [.ref b, .int a0] w)) []) (cW (Call M_X2_colourOfFlood 60 [.ref b, .int a0] w) w) else none) else none)
  ∧ (∀ (lv : Nat) (l : LX) (x : Int32) (w : AH), Ex M_X11_dyed lv 72 l [.int x] w = some (some (.int x), w)) :=
  ⟨(fun lv st t o0 x w => Ex_M (i := .iload_n 1) (n := 1) (by decide +kernel) rfl rfl rfl),
   (fun lv l a0 w => Ex_callS (by decide +kernel : decode M_X11_dyed.2.1 1 = .ok (.invokestatic 65, 3)) rfl (by rfl : resM (mCn M_X11_dyed) 65 = some (0, M_X11_isKnot)) (by decide) rfl (by rfl) (Nat.le_of_ble_eq_true rfl) (sLv_lt (by decide +kernel))),
   (fun lv l st x w => Ex_if_eq (by decide +kernel : decode M_X11_dyed.2.1 4 = .ok (.ifCond .eq 23, 3)) rfl rfl),
   (fun lv st t o0 o1 x w => Ex_M (i := .iload_n 2) (n := 1) (by decide +kernel) rfl rfl rfl),
   (fun lv l st w => Ex_A (i := .iconst 1) (n := 1) (by decide +kernel) rfl rfl),
   (fun lv l st w => Ex_A (i := .iconst 3) (n := 1) (by decide +kernel) rfl rfl),
   (fun lv l a0 a1 a2 w => Ex_callS (by decide +kernel : decode M_X11_dyed.2.1 10 = .ok (.invokestatic 69, 3)) rfl (by rfl : resM (mCn M_X11_dyed) 69 = some (0, M_X11_isWithin)) (by decide) rfl (by rfl) (Nat.le_of_ble_eq_true rfl) (sLv_lt (by decide +kernel))),
   (fun lv l st x w => Ex_if_eq (by decide +kernel : decode M_X11_dyed.2.1 13 = .ok (.ifCond .eq 14, 3)) rfl rfl),
   (fun lv st t o0 o1 o2 x w => Ex_M (i := .iload_n 3) (n := 1) (by decide +kernel) rfl rfl rfl),
   (fun lv l st w => Ex_A (i := .iconst (-1)) (n := 1) (by decide +kernel) rfl rfl),
   (fun lv st t o0 o1 x w => Ex_M (i := .iload_n 2) (n := 1) (by decide +kernel) rfl rfl rfl),
   (fun lv l st w => Ex_A (i := .iconst 1) (n := 1) (by decide +kernel) rfl rfl),
   (fun lv l st x y w => Ex_A (i := .isub) (n := 1) (by decide +kernel) rfl rfl),
   (fun lv l a0 a1 a2 w => Ex_callS (by decide +kernel : decode M_X11_dyed.2.1 21 = .ok (.invokestatic 69, 3)) rfl (by rfl : resM (mCn M_X11_dyed) 69 = some (0, M_X11_isWithin)) (by decide) rfl (by rfl) (Nat.le_of_ble_eq_true rfl) (sLv_lt (by decide +kernel))),
   (fun lv l st x w => Ex_if_ne (by decide +kernel : decode M_X11_dyed.2.1 24 = .ok (.ifCond .ne 10, 3)) rfl rfl),
   (fun lv st t x w => Ex_M (i := .aload_n 0) (n := 1) (by decide +kernel) rfl rfl rfl),
   (fun lv st t w => Ex_M (i := .aload_n 0) (n := 1) (by decide +kernel) rfl rfl rfl),
   (fun lv l st w => Ex_ldcI (by decide +kernel : decode M_X11_dyed.2.1 28 = .ok (.ldc 73, 2)) rfl (by decide +kernel)),
   (fun lv l b a0 w => Ex_callV (by decide +kernel : decode M_X11_dyed.2.1 30 = .ok (.invokevirtual 74, 3)) rfl (by rfl : resM (mCn M_X11_dyed) 74 = some (2, M_X11_refuse)) rfl (by rfl) (Nat.le_of_ble_eq_true rfl) (by decide +kernel) (sLv_lt (by decide +kernel))),
   (fun lv l x w => Ex_R (i := .ireturn) (n := 1) (by decide +kernel) rfl rfl rfl rfl rfl),
   (fun lv st t x w => Ex_M (i := .aload_n 0) (n := 1) (by decide +kernel) rfl rfl rfl),
   (fun lv st t w => Ex_M (i := .aload_n 0) (n := 1) (by decide +kernel) rfl rfl rfl),
   (fun lv l st a w => Ex_getf (by decide +kernel : decode M_X11_dyed.2.1 35 = .ok (.getfield 46, 3)) rfl (by decide +kernel : resF (mCn M_X11_dyed) 46 = some (10, 6, (.object "CarpetLands$Dyeing"), true))),
   (fun lv st t x w => Ex_M (i := .aload_n 0) (n := 1) (by decide +kernel) rfl rfl rfl),
   (fun lv st t w => Ex_M (i := .aload_n 0) (n := 1) (by decide +kernel) rfl rfl rfl),
   (fun lv l st a w => Ex_getf (by decide +kernel : decode M_X11_dyed.2.1 39 = .ok (.getfield 12, 3)) rfl (by decide +kernel : resF (mCn M_X11_dyed) 12 = some (10, 0, (.object "CarpetLands$Country"), true))),
   (fun lv l st a w => Ex_getf (by decide +kernel : decode M_X11_dyed.2.1 42 = .ok (.getfield 78, 3)) rfl (by decide +kernel : resF (mCn M_X11_dyed) 78 = some (1, 0, (.object "CarpetLands$Carpet"), true))),
   (fun lv st t o0 x w => Ex_M (i := .iload_n 1) (n := 1) (by decide +kernel) rfl rfl rfl),
   (fun lv st t o0 o1 x w => Ex_M (i := .iload_n 2) (n := 1) (by decide +kernel) rfl rfl rfl),
   (fun lv l b a0 a1 a2 w => Ex_callV (by decide +kernel : decode M_X11_dyed.2.1 47 = .ok (.invokevirtual 272, 3)) rfl (by rfl : resM (mCn M_X11_dyed) 272 = some (2, M_X2_tryAll)) rfl (by rfl) (Nat.le_of_ble_eq_true rfl) (by decide +kernel) (sLv_lt (by decide +kernel))),
   (fun lv st t o0 o1 o2 x w => Ex_M (i := .iload_n 3) (n := 1) (by decide +kernel) rfl rfl rfl),
   (fun lv l st x w => Ex_if_ge (by decide +kernel : decode M_X11_dyed.2.1 51 = .ok (.ifCond .ge 13, 3)) rfl rfl),
   (fun lv st t x w => Ex_M (i := .aload_n 0) (n := 1) (by decide +kernel) rfl rfl rfl),
   (fun lv st t w => Ex_M (i := .aload_n 0) (n := 1) (by decide +kernel) rfl rfl rfl),
   (fun lv l st a w => Ex_getf (by decide +kernel : decode M_X11_dyed.2.1 55 = .ok (.getfield 46, 3)) rfl (by decide +kernel : resF (mCn M_X11_dyed) 46 = some (10, 6, (.object "CarpetLands$Dyeing"), true))),
   (fun lv l st a w => Ex_getf (by decide +kernel : decode M_X11_dyed.2.1 58 = .ok (.getfield 276, 3)) rfl (by decide +kernel : resF (mCn M_X11_dyed) 276 = some (2, 3, .int, false))),
   (fun lv l st w => Ex_goto (by decide +kernel : decode M_X11_dyed.2.1 61 = .ok (.goto 11, 3)) rfl),
   (fun lv st t x w => Ex_M (i := .aload_n 0) (n := 1) (by decide +kernel) rfl rfl rfl),
   (fun lv st t w => Ex_M (i := .aload_n 0) (n := 1) (by decide +kernel) rfl rfl rfl),
   (fun lv l st a w => Ex_getf (by decide +kernel : decode M_X11_dyed.2.1 65 = .ok (.getfield 46, 3)) rfl (by decide +kernel : resF (mCn M_X11_dyed) 46 = some (10, 6, (.object "CarpetLands$Dyeing"), true))),
   (fun lv st t o0 o1 o2 x w => Ex_M (i := .iload_n 3) (n := 1) (by decide +kernel) rfl rfl rfl),
   (fun lv l b a0 w => Ex_callV (by decide +kernel : decode M_X11_dyed.2.1 69 = .ok (.invokevirtual 279, 3)) rfl (by rfl : resM (mCn M_X11_dyed) 279 = some (2, M_X2_colourOfFlood)) rfl (by rfl) (Nat.le_of_ble_eq_true rfl) (by decide +kernel) (sLv_lt (by decide +kernel))),
   (fun lv l x w => Ex_R (i := .ireturn) (n := 1) (by decide +kernel) rfl rfl rfl rfl rfl)⟩
set_option maxRecDepth 20000 in
theorem H_X11_then_51 : ∀ (lv : Nat) (st : List Value) (t : LX) (o0 o1 o2 o3 : Option Value) (x : Int32) (w : AH), Ex M_X11_then lv 51 (o0 :: o1 :: o2 :: o3 :: some (.int x) :: t) st w = Ex M_X11_then lv 53 (o0 :: o1 :: o2 :: o3 :: some (.int x) :: t) (.int x :: st) w := fun lv st t o0 o1 o2 o3 x w => Ex_M (i := .iload 4) (n := 2) (by decide +kernel) rfl rfl rfl
set_option maxRecDepth 20000 in
set_option maxHeartbeats 4000000 in
theorem R_X11_then_p0 : (∀ (lv : Nat) (st : List Value) (t : LX) (o0 : Option Value) (x : Int32) (w : AH), Ex M_X11_then lv 0 (o0 :: some (.int x) :: t) st w = Ex M_X11_then lv 1 (o0 :: some (.int x) :: t) (.int x :: st) w)
  ∧ (∀ (lv : Nat) (l : LX) (st : List Value) (w : AH), Ex M_X11_then lv 1 l st w = Ex M_X11_then lv 2 l (.int 0 :: st) w)
  ∧ (∀ (lv : Nat) (l : LX) (st : List Value) (w : AH), Ex M_X11_then lv 2 l st w = Ex M_X11_then lv 4 l (.int 100 :: st) w)
  ∧ (∀ (lv : Nat) (l : LX) (a0 : Int32) (a1 : Int32) (a2 : Int32) (w : AH), Ex M_X11_then lv 4 l (.int a2 :: .int a1 :: .int a0 :: []) w = if (Call M_X11_isWithin 60 [.int a0, .int a1, .int a2] w).isSome = true then Ex M_X11_then lv 7 l (pushR (cV (Call M_X11_isWithin 60 [.int a0, .int a1, .int a2] w)) []) (cW (Call M_X11_isWithin 60 [.int a0, .int a1, .int a2] w) w) else none)
  ∧ (∀ (lv : Nat) (l : LX) (st : List Value) (x : Int32) (w : AH), Ex M_X11_then lv 7 l (.int x :: st) w = if x = 0 then Ex M_X11_then lv 30 l st w else Ex M_X11_then lv 10 l st w)
  ∧ (∀ (lv : Nat) (st : List Value) (t : LX) (x : Nat) (w : AH), Ex M_X11_then lv 10 (some (.ref x) :: t) st w = Ex M_X11_then lv 11 (some (.ref x) :: t) (.ref x :: st) w)
  ∧ (∀ (lv : Nat) (st : List Value) (t : LX) (w : AH), Ex M_X11_then lv 10 (some (.null) :: t) st w = Ex M_X11_then lv 11 (some (.null) :: t) (.null :: st) w)
  ∧ (∀ (lv : Nat) (l : LX) (st : List Value) (a : Nat) (w : AH), Ex M_X11_then lv 11 l (.ref a :: st) w = if (gf (hg w a) 10 0).isSome = true then Ex M_X11_then lv 14 l (vV (gf (hg w a) 10 0) :: st) w else none)
  ∧ (∀ (lv : Nat) (st : List Value) (t : LX) (o0 o1 : Option Value) (x : Int32) (w : AH), Ex M_X11_then lv 14 (o0 :: o1 :: some (.int x) :: t) st w = Ex M_X11_then lv 15 (o0 :: o1 :: some (.int x) :: t) (.int x :: st) w)
  ∧ (∀ (lv : Nat) (l : LX) (b : Nat) (a0 : Int32) (w : AH), Ex M_X11_then lv 15 l (.int a0 :: .ref b :: []) w = if clK (hg w b) = 1 then (if (Call M_X1_walkerOf 60 [.ref b, .int a0] w).isSome = true then Ex M_X11_then lv 18 l (pushR (cV (Call M_X1_walkerOf 60 [.ref b, .int a0] w)) []) (cW (Call M_X1_walkerOf 60 [.ref b, .int a0] w) w) else none) else none)
  ∧ (∀ (lv : Nat) (l : LX) (st : List Value) (x : Nat) (w : AH), Ex M_X11_then lv 18 l (.ref x :: st) w = Ex M_X11_then lv 21 l st w)
  ∧ (∀ (lv : Nat) (l : LX) (st : List Value) (w : AH), Ex M_X11_then lv 18 l (.null :: st) w = Ex M_X11_then lv 30 l st w)
  ∧ (∀ (lv : Nat) (st : List Value) (t : LX) (o0 o1 o2 : Option Value) (x : Int32) (w : AH), Ex M_X11_then lv 21 (o0 :: o1 :: o2 :: some (.int x) :: t) st w = Ex M_X11_then lv 22 (o0 :: o1 :: o2 :: some (.int x) :: t) (.int x :: st) w)
  ∧ (∀ (lv : Nat) (l : LX) (st : List Value) (w : AH), Ex M_X11_then lv 22 l st w = Ex M_X11_then lv 23 l (.int 0 :: st) w)
  ∧ (∀ (lv : Nat) (l : LX) (st : List Value) (w : AH), Ex M_X11_then lv 23 l st w = Ex M_X11_then lv 24 l (.int 1 :: st) w)
  ∧ (∀ (lv : Nat) (l : LX) (a0 : Int32) (a1 : Int32) (a2 : Int32) (w : AH), Ex M_X11_then lv 24 l (.int a2 :: .int a1 :: .int a0 :: []) w = if (Call M_X11_isWithin 60 [.int a0, .int a1, .int a2] w).isSome = true then Ex M_X11_then lv 27 l (pushR (cV (Call M_X11_isWithin 60 [.int a0, .int a1, .int a2] w)) []) (cW (Call M_X11_isWithin 60 [.int a0, .int a1, .int a2] w) w) else none)
  ∧ (∀ (lv : Nat) (l : LX) (st : List Value) (x : Int32) (w : AH), Ex M_X11_then lv 27 l (.int x :: st) w = if ¬ x = 0 then Ex M_X11_then lv 37 l st w else Ex M_X11_then lv 30 l st w)
  ∧ (∀ (lv : Nat) (st : List Value) (t : LX) (x : Nat) (w : AH), Ex M_X11_then lv 30 (some (.ref x) :: t) st w = Ex M_X11_then lv 31 (some (.ref x) :: t) (.ref x :: st) w)
  ∧ (∀ (lv : Nat) (st : List Value) (t : LX) (w : AH), Ex M_X11_then lv 30 (some (.null) :: t) st w = Ex M_X11_then lv 31 (some (.null) :: t) (.null :: st) w)
  ∧ (∀ (lv : Nat) (l : LX) (st : List Value) (w : AH), Ex M_X11_then lv 31 l st w = Ex M_X11_then lv 33 l (.int (-1000000001) :: st) w)
  ∧ (∀ (lv : Nat) (l : LX) (b : Nat) (a0 : Int32) (w : AH), Ex M_X11_then lv 33 l (.int a0 :: .ref b :: []) w = if clK (hg w b) = 10 then (if (Call M_X11_refuse 60 [.ref b, .int a0] w).isSome = true then Ex M_X11_then lv 36 l (pushR (cV (Call M_X11_refuse 60 [.ref b, .int a0] w)) []) (cW (Call M_X11_refuse 60 [.ref b, .int a0] w) w) else none) else none)
  ∧ (∀ (lv : Nat) (l : LX) (x : Int32) (w : AH), Ex M_X11_then lv 36 l [.int x] w = some (some (.int x), w))
  ∧ (∀ (lv : Nat) (st : List Value) (t : LX) (x : Nat) (w : AH), Ex M_X11_then lv 37 (some (.ref x) :: t) st w = Ex M_X11_then lv 38 (some (.ref x) :: t) (.ref x :: st) w)
  ∧ (∀ (lv : Nat) (st : List Value) (t : LX) (w : AH), Ex M_X11_then lv 37 (some (.null) :: t) st w = Ex M_X11_then lv 38 (some (.null) :: t) (.null :: st) w)
  ∧ (∀ (lv : Nat) (l : LX) (st : List Value) (a : Nat) (w : AH), Ex M_X11_then lv 38 l (.ref a :: st) w = if (gf (hg w a) 10 2).isSome = true then Ex M_X11_then lv 41 l (vV (gf (hg w a) 10 2) :: st) w else none)
  ∧ (∀ (lv : Nat) (st : List Value) (t : LX) (x : Nat) (w : AH), Ex M_X11_then lv 41 (some (.ref x) :: t) st w = Ex M_X11_then lv 42 (some (.ref x) :: t) (.ref x :: st) w)
  ∧ (∀ (lv : Nat) (st : List Value) (t : LX) (w : AH), Ex M_X11_then lv 41 (some (.null) :: t) st w = Ex M_X11_then lv 42 (some (.null) :: t) (.null :: st) w)
  ∧ (∀ (lv : Nat) (l : LX) (st : List Value) (a : Nat) (w : AH), Ex M_X11_then lv 42 l (.ref a :: st) w = if (gf (hg w a) 10 0).isSome = true then Ex M_X11_then lv 45 l (vV (gf (hg w a) 10 0) :: st) w else none)
  ∧ (∀ (lv : Nat) (l : LX) (b : Nat) (a0 : Nat) (w : AH), Ex M_X11_then lv 45 l (.ref a0 :: .ref b :: []) w = if clK (hg w b) = 1 then (if (Call M_X1_copyFrom 60 [.ref b, .ref a0] w).isSome = true then Ex M_X11_then lv 48 l (pushR (cV (Call M_X1_copyFrom 60 [.ref b, .ref a0] w)) []) (cW (Call M_X1_copyFrom 60 [.ref b, .ref a0] w) w) else none) else none)
  ∧ (∀ (lv : Nat) (l : LX) (st : List Value) (w : AH), Ex M_X11_then lv 48 l st w = Ex M_X11_then lv 49 l (.int 0 :: st) w)
  ∧ (∀ (lv : Nat) (l : LX) (st : List Value) (x : Int32) (w : AH), Ex M_X11_then lv 49 l (.int x :: st) w = Ex M_X11_then lv 51 (ls1 l 4 (.int x)) st w)
  ∧ (∀ (lv : Nat) (st : List Value) (t : LX) (o0 : Option Value) (x : Int32) (w : AH), Ex M_X11_then lv 53 (o0 :: some (.int x) :: t) st w = Ex M_X11_then lv 54 (o0 :: some (.int x) :: t) (.int x :: st) w)
  ∧ (∀ (lv : Nat) (l : LX) (st : List Value) (x y : Int32) (w : AH), Ex M_X11_then lv 54 l (.int y :: .int x :: st) w = if y ≤ x then Ex M_X11_then lv 70 l st w else Ex M_X11_then lv 57 l st w)
  ∧ (∀ (lv : Nat) (st : List Value) (t : LX) (x : Nat) (w : AH), Ex M_X11_then lv 57 (some (.ref x) :: t) st w = Ex M_X11_then lv 58 (some (.ref x) :: t) (.ref x :: st) w)
  ∧ (∀ (lv : Nat) (st : List Value) (t : LX) (w : AH), Ex M_X11_then lv 57 (some (.null) :: t) st w = Ex M_X11_then lv 58 (some (.null) :: t) (.null :: st) w)
  ∧ (∀ (lv : Nat) (l : LX) (st : List Value) (a : Nat) (w : AH), Ex M_X11_then lv 58 l (.ref a :: st) w = if (gf (hg w a) 10 2).isSome = true then Ex M_X11_then lv 61 l (vV (gf (hg w a) 10 2) :: st) w else none)
  ∧ (∀ (lv : Nat) (l : LX) (b : Nat) (w : AH), Ex M_X11_then lv 61 l (.ref b :: []) w = if clK (hg w b) = 1 then (if (Call M_X1_passDay 60 [.ref b] w).isSome = true then Ex M_X11_then lv 64 l (pushR (cV (Call M_X1_passDay 60 [.ref b] w)) []) (cW (Call M_X1_passDay 60 [.ref b] w) w) else none) else none)
  ∧ (∀ (lv : Nat) (st : List Value) (t : LX) (o0 o1 o2 o3 : Option Value) (x : Int32) (w : AH), Ex M_X11_then lv 64 (o0 :: o1 :: o2 :: o3 :: some (.int x) :: t) st w = Ex M_X11_then lv 67 (ls1 (o0 :: o1 :: o2 :: o3 :: some (.int x) :: t) 4 (.int (x + 1))) st w)
  ∧ (∀ (lv : Nat) (l : LX) (st : List Value) (w : AH), Ex M_X11_then lv 67 l st w = Ex M_X11_then lv 51 l st w)
  ∧ (∀ (lv : Nat) (st : List Value) (t : LX) (x : Nat) (w : AH), Ex M_X11_then lv 70 (some (.ref x) :: t) st w = Ex M_X11_then lv 71 (some (.ref x) :: t) (.ref x :: st) w)
  ∧ (∀ (lv : Nat) (st : List Value) (t : LX) (w : AH), Ex M_X11_then lv 70 (some (.null) :: t) st w = Ex M_X11_then lv 71 (some (.null) :: t) (.null :: st) w)
  ∧ (∀ (lv : Nat) (l : LX) (st : List Value) (a : Nat) (w : AH), Ex M_X11_then lv 71 l (.ref a :: st) w = if (gf (hg w a) 10 2).isSome = true then Ex M_X11_then lv 74 l (vV (gf (hg w a) 10 2) :: st) w else none)
  ∧ (∀ (lv : Nat) (st : List Value) (t : LX) (o0 o1 : Option Value) (x : Int32) (w : AH), Ex M_X11_then lv 74 (o0 :: o1 :: some (.int x) :: t) st w = Ex M_X11_then lv 75 (o0 :: o1 :: some (.int x) :: t) (.int x :: st) w)
  ∧ (∀ (lv : Nat) (l : LX) (b : Nat) (a0 : Int32) (w : AH), Ex M_X11_then lv 75 l (.int a0 :: .ref b :: []) w = if clK (hg w b) = 1 then (if (Call M_X1_walkerOf 60 [.ref b, .int a0] w).isSome = true then Ex M_X11_then lv 78 l (pushR (cV (Call M_X1_walkerOf 60 [.ref b, .int a0] w)) []) (cW (Call M_X1_walkerOf 60 [.ref b, .int a0] w) w) else none) else none)
  ∧ (∀ (lv : Nat) (l : LX) (st : List Value) (x : Nat) (w : AH), Ex M_X11_then lv 78 l (.ref x :: st) w = Ex M_X11_then lv 80 (ls1 l 4 (.ref x)) st w)
  ∧ (∀ (lv : Nat) (l : LX) (st : List Value) (w : AH), Ex M_X11_then lv 78 l (.null :: st) w = Ex M_X11_then lv 80 (ls1 l 4 (.null)) st w)
  ∧ (∀ (lv : Nat) (st : List Value) (t : LX) (o0 o1 o2 o3 : Option Value) (x : Nat) (w : AH), Ex M_X11_then lv 80 (o0 :: o1 :: o2 :: o3 :: some (.ref x) :: t) st w = Ex M_X11_then lv 82 (o0 :: o1 :: o2 :: o3 :: some (.ref x) :: t) (.ref x :: st) w)
  ∧ (∀ (lv : Nat) (st : List Value) (t : LX) (o0 o1 o2 o3 : Option Value) (w : AH), Ex M_X11_then lv 80 (o0 :: o1 :: o2 :: o3 :: some (.null) :: t) st w = Ex M_X11_then lv 82 (o0 :: o1 :: o2 :: o3 :: some (.null) :: t) (.null :: st) w)
  ∧ (∀ (lv : Nat) (l : LX) (st : List Value) (x : Nat) (w : AH), Ex M_X11_then lv 82 l (.ref x :: st) w = Ex M_X11_then lv 92 l st w)
  ∧ (∀ (lv : Nat) (l : LX) (st : List Value) (w : AH), Ex M_X11_then lv 82 l (.null :: st) w = Ex M_X11_then lv 85 l st w)
  ∧ (∀ (lv : Nat) (st : List Value) (t : LX) (x : Nat) (w : AH), Ex M_X11_then lv 85 (some (.ref x) :: t) st w = Ex M_X11_then lv 86 (some (.ref x) :: t) (.ref x :: st) w)
  ∧ (∀ (lv : Nat) (st : List Value) (t : LX) (w : AH), Ex M_X11_then lv 85 (some (.null) :: t) st w = Ex M_X11_then lv 86 (some (.null) :: t) (.null :: st) w)
  ∧ (∀ (lv : Nat) (l : LX) (st : List Value) (w : AH), Ex M_X11_then lv 86 l st w = Ex M_X11_then lv 88 l (.int (-1000000001) :: st) w)
  ∧ (∀ (lv : Nat) (l : LX) (b : Nat) (a0 : Int32) (w : AH), Ex M_X11_then lv 88 l (.int a0 :: .ref b :: []) w = if clK (hg w b) = 10 then (if (Call M_X11_refuse 60 [.ref b, .int a0] w).isSome = true then Ex M_X11_then lv 91 l (pushR (cV (Call M_X11_refuse 60 [.ref b, .int a0] w)) []) (cW (Call M_X11_refuse 60 [.ref b, .int a0] w) w) else none) else none)
  ∧ (∀ (lv : Nat) (l : LX) (x : Int32) (w : AH), Ex M_X11_then lv 91 l [.int x] w = some (some (.int x), w))
  ∧ (∀ (lv : Nat) (st : List Value) (t : LX) (o0 o1 o2 : Option Value) (x : Int32) (w : AH), Ex M_X11_then lv 92 (o0 :: o1 :: o2 :: some (.int x) :: t) st w = Ex M_X11_then lv 93 (o0 :: o1 :: o2 :: some (.int x) :: t) (.int x :: st) w)
  ∧ (∀ (lv : Nat) (l : LX) (st : List Value) (x : Int32) (w : AH), Ex M_X11_then lv 93 l (.int x :: st) w = if ¬ x = 0 then Ex M_X11_then lv 104 l st w else Ex M_X11_then lv 96 l st w)
  ∧ (∀ (lv : Nat) (st : List Value) (t : LX) (o0 o1 o2 o3 : Option Value) (x : Nat) (w : AH), Ex M_X11_then lv 96 (o0 :: o1 :: o2 :: o3 :: some (.ref x) :: t) st w = Ex M_X11_then lv 98 (o0 :: o1 :: o2 :: o3 :: some (.ref x) :: t) (.ref x :: st) w)
  ∧ (∀ (lv : Nat) (st : List Value) (t : LX) (o0 o1 o2 o3 : Option Value) (w : AH), Ex M_X11_then lv 96 (o0 :: o1 :: o2 :: o3 :: some (.null) :: t) st w = Ex M_X11_then lv 98 (o0 :: o1 :: o2 :: o3 :: some (.null) :: t) (.null :: st) w)
  ∧ (∀ (lv : Nat) (l : LX) (st : List Value) (a : Nat) (w : AH), Ex M_X11_then lv 98 l (.ref a :: st) w = if (gf (hg w a) 9 2).isSome = true then Ex M_X11_then lv 101 l (vV (gf (hg w a) 9 2) :: st) w else none) :=
  ⟨(fun lv st t o0 x w => Ex_M (i := .iload_n 1) (n := 1) (by decide +kernel) rfl rfl rfl),
   (fun lv l st w => Ex_A (i := .iconst 0) (n := 1) (by decide +kernel) rfl rfl),
   (fun lv l st w => Ex_A (i := .bipush 100) (n := 2) (by decide +kernel) rfl rfl),
   (fun lv l a0 a1 a2 w => Ex_callS (by decide +kernel : decode M_X11_then.2.1 4 = .ok (.invokestatic 69, 3)) rfl (by rfl : resM (mCn M_X11_then) 69 = some (0, M_X11_isWithin)) (by decide) rfl (by rfl) (Nat.le_of_ble_eq_true rfl) (sLv_lt (by decide +kernel))),
   (fun lv l st x w => Ex_if_eq (by decide +kernel : decode M_X11_then.2.1 7 = .ok (.ifCond .eq 23, 3)) rfl rfl),
   (fun lv st t x w => Ex_M (i := .aload_n 0) (n := 1) (by decide +kernel) rfl rfl rfl),
   (fun lv st t w => Ex_M (i := .aload_n 0) (n := 1) (by decide +kernel) rfl rfl rfl),
   (fun lv l st a w => Ex_getf (by decide +kernel : decode M_X11_then.2.1 11 = .ok (.getfield 12, 3)) rfl (by decide +kernel : resF (mCn M_X11_then) 12 = some (10, 0, (.object "CarpetLands$Country"), true))),
   (fun lv st t o0 o1 x w => Ex_M (i := .iload_n 2) (n := 1) (by decide +kernel) rfl rfl rfl),
   (fun lv l b a0 w => Ex_callV (by decide +kernel : decode M_X11_then.2.1 15 = .ok (.invokevirtual 133, 3)) rfl (by rfl : resM (mCn M_X11_then) 133 = some (2, M_X1_walkerOf)) rfl (by rfl) (Nat.le_of_ble_eq_true rfl) (by decide +kernel) (sLv_lt (by decide +kernel))),
   (fun lv l st x w => Ex_ifnull_r (by decide +kernel : decode M_X11_then.2.1 18 = .ok (.ifnull 12, 3)) rfl),
   (fun lv l st w => Ex_ifnull_n (by decide +kernel : decode M_X11_then.2.1 18 = .ok (.ifnull 12, 3)) rfl),
   (fun lv st t o0 o1 o2 x w => Ex_M (i := .iload_n 3) (n := 1) (by decide +kernel) rfl rfl rfl),
   (fun lv l st w => Ex_A (i := .iconst 0) (n := 1) (by decide +kernel) rfl rfl),
   (fun lv l st w => Ex_A (i := .iconst 1) (n := 1) (by decide +kernel) rfl rfl),
   (fun lv l a0 a1 a2 w => Ex_callS (by decide +kernel : decode M_X11_then.2.1 24 = .ok (.invokestatic 69, 3)) rfl (by rfl : resM (mCn M_X11_then) 69 = some (0, M_X11_isWithin)) (by decide) rfl (by rfl) (Nat.le_of_ble_eq_true rfl) (sLv_lt (by decide +kernel))),
   (fun lv l st x w => Ex_if_ne (by decide +kernel : decode M_X11_then.2.1 27 = .ok (.ifCond .ne 10, 3)) rfl rfl),
   (fun lv st t x w => Ex_M (i := .aload_n 0) (n := 1) (by decide +kernel) rfl rfl rfl),
   (fun lv st t w => Ex_M (i := .aload_n 0) (n := 1) (by decide +kernel) rfl rfl rfl),
   (fun lv l st w => Ex_ldcI (by decide +kernel : decode M_X11_then.2.1 31 = .ok (.ldc 73, 2)) rfl (by decide +kernel)),
   (fun lv l b a0 w => Ex_callV (by decide +kernel : decode M_X11_then.2.1 33 = .ok (.invokevirtual 74, 3)) rfl (by rfl : resM (mCn M_X11_then) 74 = some (2, M_X11_refuse)) rfl (by rfl) (Nat.le_of_ble_eq_true rfl) (by decide +kernel) (sLv_lt (by decide +kernel))),
   (fun lv l x w => Ex_R (i := .ireturn) (n := 1) (by decide +kernel) rfl rfl rfl rfl rfl),
   (fun lv st t x w => Ex_M (i := .aload_n 0) (n := 1) (by decide +kernel) rfl rfl rfl),
   (fun lv st t w => Ex_M (i := .aload_n 0) (n := 1) (by decide +kernel) rfl rfl rfl),
   (fun lv l st a w => Ex_getf (by decide +kernel : decode M_X11_then.2.1 38 = .ok (.getfield 19, 3)) rfl (by decide +kernel : resF (mCn M_X11_then) 19 = some (10, 2, (.object "CarpetLands$Country"), true))),
   (fun lv st t x w => Ex_M (i := .aload_n 0) (n := 1) (by decide +kernel) rfl rfl rfl),
   (fun lv st t w => Ex_M (i := .aload_n 0) (n := 1) (by decide +kernel) rfl rfl rfl),
   (fun lv l st a w => Ex_getf (by decide +kernel : decode M_X11_then.2.1 42 = .ok (.getfield 12, 3)) rfl (by decide +kernel : resF (mCn M_X11_then) 12 = some (10, 0, (.object "CarpetLands$Country"), true))),
   (fun lv l b a0 w => Ex_callV (by decide +kernel : decode M_X11_then.2.1 45 = .ok (.invokevirtual 282, 3)) rfl (by rfl : resM (mCn M_X11_then) 282 = some (2, M_X1_copyFrom)) rfl (by rfl) (Nat.le_of_ble_eq_true rfl) (by decide +kernel) (sLv_lt (by decide +kernel))),
   (fun lv l st w => Ex_A (i := .iconst 0) (n := 1) (by decide +kernel) rfl rfl),
   (fun lv l st x w => Ex_M (i := .istore 4) (n := 2) (by decide +kernel) rfl rfl rfl),
   (fun lv st t o0 x w => Ex_M (i := .iload_n 1) (n := 1) (by decide +kernel) rfl rfl rfl),
   (fun lv l st x y w => Ex_icmp_ge (by decide +kernel : decode M_X11_then.2.1 54 = .ok (.if_icmp .ge 16, 3)) rfl rfl),
   (fun lv st t x w => Ex_M (i := .aload_n 0) (n := 1) (by decide +kernel) rfl rfl rfl),
   (fun lv st t w => Ex_M (i := .aload_n 0) (n := 1) (by decide +kernel) rfl rfl rfl),
   (fun lv l st a w => Ex_getf (by decide +kernel : decode M_X11_then.2.1 58 = .ok (.getfield 19, 3)) rfl (by decide +kernel : resF (mCn M_X11_then) 19 = some (10, 2, (.object "CarpetLands$Country"), true))),
   (fun lv l b w => Ex_callV (by decide +kernel : decode M_X11_then.2.1 61 = .ok (.invokevirtual 205, 3)) rfl (by rfl : resM (mCn M_X11_then) 205 = some (2, M_X1_passDay)) rfl (by rfl) (Nat.le_of_ble_eq_true rfl) (by decide +kernel) (sLv_lt (by decide +kernel))),
   (fun lv st t o0 o1 o2 o3 x w => Ex_iinc (by decide +kernel : decode M_X11_then.2.1 64 = .ok (.iinc 4 1, 3)) rfl rfl (by decide) (by decide)),
   (fun lv l st w => Ex_goto (by decide +kernel : decode M_X11_then.2.1 67 = .ok (.goto (-16), 3)) rfl),
   (fun lv st t x w => Ex_M (i := .aload_n 0) (n := 1) (by decide +kernel) rfl rfl rfl),
   (fun lv st t w => Ex_M (i := .aload_n 0) (n := 1) (by decide +kernel) rfl rfl rfl),
   (fun lv l st a w => Ex_getf (by decide +kernel : decode M_X11_then.2.1 71 = .ok (.getfield 19, 3)) rfl (by decide +kernel : resF (mCn M_X11_then) 19 = some (10, 2, (.object "CarpetLands$Country"), true))),
   (fun lv st t o0 o1 x w => Ex_M (i := .iload_n 2) (n := 1) (by decide +kernel) rfl rfl rfl),
   (fun lv l b a0 w => Ex_callV (by decide +kernel : decode M_X11_then.2.1 75 = .ok (.invokevirtual 133, 3)) rfl (by rfl : resM (mCn M_X11_then) 133 = some (2, M_X1_walkerOf)) rfl (by rfl) (Nat.le_of_ble_eq_true rfl) (by decide +kernel) (sLv_lt (by decide +kernel))),
   (fun lv l st x w => Ex_M (i := .astore 4) (n := 2) (by decide +kernel) rfl rfl rfl),
   (fun lv l st w => Ex_M (i := .astore 4) (n := 2) (by decide +kernel) rfl rfl rfl),
   (fun lv st t o0 o1 o2 o3 x w => Ex_M (i := .aload 4) (n := 2) (by decide +kernel) rfl rfl rfl),
   (fun lv st t o0 o1 o2 o3 w => Ex_M (i := .aload 4) (n := 2) (by decide +kernel) rfl rfl rfl),
   (fun lv l st x w => Ex_ifnonnull_r (by decide +kernel : decode M_X11_then.2.1 82 = .ok (.ifnonnull 10, 3)) rfl),
   (fun lv l st w => Ex_ifnonnull_n (by decide +kernel : decode M_X11_then.2.1 82 = .ok (.ifnonnull 10, 3)) rfl),
   (fun lv st t x w => Ex_M (i := .aload_n 0) (n := 1) (by decide +kernel) rfl rfl rfl),
   (fun lv st t w => Ex_M (i := .aload_n 0) (n := 1) (by decide +kernel) rfl rfl rfl),
   (fun lv l st w => Ex_ldcI (by decide +kernel : decode M_X11_then.2.1 86 = .ok (.ldc 73, 2)) rfl (by decide +kernel)),
   (fun lv l b a0 w => Ex_callV (by decide +kernel : decode M_X11_then.2.1 88 = .ok (.invokevirtual 74, 3)) rfl (by rfl : resM (mCn M_X11_then) 74 = some (2, M_X11_refuse)) rfl (by rfl) (Nat.le_of_ble_eq_true rfl) (by decide +kernel) (sLv_lt (by decide +kernel))),
   (fun lv l x w => Ex_R (i := .ireturn) (n := 1) (by decide +kernel) rfl rfl rfl rfl rfl),
   (fun lv st t o0 o1 o2 x w => Ex_M (i := .iload_n 3) (n := 1) (by decide +kernel) rfl rfl rfl),
   (fun lv l st x w => Ex_if_ne (by decide +kernel : decode M_X11_then.2.1 93 = .ok (.ifCond .ne 11, 3)) rfl rfl),
   (fun lv st t o0 o1 o2 o3 x w => Ex_M (i := .aload 4) (n := 2) (by decide +kernel) rfl rfl rfl),
   (fun lv st t o0 o1 o2 o3 w => Ex_M (i := .aload 4) (n := 2) (by decide +kernel) rfl rfl rfl),
   (fun lv l st a w => Ex_getf (by decide +kernel : decode M_X11_then.2.1 98 = .ok (.getfield 145, 3)) rfl (by decide +kernel : resF (mCn M_X11_then) 145 = some (9, 2, .int, false)))⟩
set_option maxRecDepth 20000 in
set_option maxHeartbeats 4000000 in
theorem R_X11_then_p1 : (∀ (lv : Nat) (l : LX) (st : List Value) (w : AH), Ex M_X11_then lv 101 l st w = Ex M_X11_then lv 109 l st w)
  ∧ (∀ (lv : Nat) (st : List Value) (t : LX) (o0 o1 o2 o3 : Option Value) (x : Nat) (w : AH), Ex M_X11_then lv 104 (o0 :: o1 :: o2 :: o3 :: some (.ref x) :: t) st w = Ex M_X11_then lv 106 (o0 :: o1 :: o2 :: o3 :: some (.ref x) :: t) (.ref x :: st) w)
  ∧ (∀ (lv : Nat) (st : List Value) (t : LX) (o0 o1 o2 o3 : Option Value) (w : AH), Ex M_X11_then lv 104 (o0 :: o1 :: o2 :: o3 :: some (.null) :: t) st w = Ex M_X11_then lv 106 (o0 :: o1 :: o2 :: o3 :: some (.null) :: t) (.null :: st) w)
  ∧ (∀ (lv : Nat) (l : LX) (st : List Value) (a : Nat) (w : AH), Ex M_X11_then lv 106 l (.ref a :: st) w = if (gf (hg w a) 9 3).isSome = true then Ex M_X11_then lv 109 l (vV (gf (hg w a) 9 3) :: st) w else none)
  ∧ (∀ (lv : Nat) (l : LX) (x : Int32) (w : AH), Ex M_X11_then lv 109 l [.int x] w = some (some (.int x), w)) :=
  ⟨(fun lv l st w => Ex_goto (by decide +kernel : decode M_X11_then.2.1 101 = .ok (.goto 8, 3)) rfl),
   (fun lv st t o0 o1 o2 o3 x w => Ex_M (i := .aload 4) (n := 2) (by decide +kernel) rfl rfl rfl),
   (fun lv st t o0 o1 o2 o3 w => Ex_M (i := .aload 4) (n := 2) (by decide +kernel) rfl rfl rfl),
   (fun lv l st a w => Ex_getf (by decide +kernel : decode M_X11_then.2.1 106 = .ok (.getfield 148, 3)) rfl (by decide +kernel : resF (mCn M_X11_then) 148 = some (9, 3, .int, false))),
   (fun lv l x w => Ex_R (i := .ireturn) (n := 1) (by decide +kernel) rfl rfl rfl rfl rfl)⟩
-- R_X11_then: p0 to p1
set_option maxRecDepth 20000 in
set_option maxHeartbeats 4000000 in
theorem R_X11_seed : (∀ (lv : Nat) (st : List Value) (t : LX) (x : Nat) (w : AH), Ex M_X11_seed lv 0 (some (.ref x) :: t) st w = Ex M_X11_seed lv 1 (some (.ref x) :: t) (.ref x :: st) w)
  ∧ (∀ (lv : Nat) (st : List Value) (t : LX) (w : AH), Ex M_X11_seed lv 0 (some (.null) :: t) st w = Ex M_X11_seed lv 1 (some (.null) :: t) (.null :: st) w)
  ∧ (∀ (lv : Nat) (l : LX) (st : List Value) (a : Nat) (w : AH), Ex M_X11_seed lv 1 l (.ref a :: st) w = if (gf (hg w a) 10 0).isSome = true then Ex M_X11_seed lv 4 l (vV (gf (hg w a) 10 0) :: st) w else none)
  ∧ (∀ (lv : Nat) (l : LX) (st : List Value) (a : Nat) (w : AH), Ex M_X11_seed lv 4 l (.ref a :: st) w = if (gf (hg w a) 1 8).isSome = true then Ex M_X11_seed lv 7 l (vV (gf (hg w a) 1 8) :: st) w else none)
  ∧ (∀ (lv : Nat) (l : LX) (st : List Value) (x : Int32) (w : AH), Ex M_X11_seed lv 7 l (.int x :: st) w = Ex M_X11_seed lv 8 (ls1 l 2 (.int x)) st w)
  ∧ (∀ (lv : Nat) (st : List Value) (t : LX) (x : Nat) (w : AH), Ex M_X11_seed lv 8 (some (.ref x) :: t) st w = Ex M_X11_seed lv 9 (some (.ref x) :: t) (.ref x :: st) w)
  ∧ (∀ (lv : Nat) (st : List Value) (t : LX) (w : AH), Ex M_X11_seed lv 8 (some (.null) :: t) st w = Ex M_X11_seed lv 9 (some (.null) :: t) (.null :: st) w)
  ∧ (∀ (lv : Nat) (l : LX) (st : List Value) (a : Nat) (w : AH), Ex M_X11_seed lv 9 l (.ref a :: st) w = if (gf (hg w a) 10 0).isSome = true then Ex M_X11_seed lv 12 l (vV (gf (hg w a) 10 0) :: st) w else none)
  ∧ (∀ (lv : Nat) (st : List Value) (t : LX) (o0 : Option Value) (x : Int32) (w : AH), Ex M_X11_seed lv 12 (o0 :: some (.int x) :: t) st w = Ex M_X11_seed lv 13 (o0 :: some (.int x) :: t) (.int x :: st) w)
  ∧ (∀ (lv : Nat) (l : LX) (st : List Value) (a : Nat) (v : Value) (w : AH), Ex M_X11_seed lv 13 l (v :: .ref a :: st) w = if (pf (hg w a) 1 8 .int v).isSome = true then Ex M_X11_seed lv 16 l st (hs w a (vE (pf (hg w a) 1 8 .int v))) else none)
  ∧ (∀ (lv : Nat) (st : List Value) (t : LX) (o0 o1 : Option Value) (x : Int32) (w : AH), Ex M_X11_seed lv 16 (o0 :: o1 :: some (.int x) :: t) st w = Ex M_X11_seed lv 17 (o0 :: o1 :: some (.int x) :: t) (.int x :: st) w)
  ∧ (∀ (lv : Nat) (l : LX) (x : Int32) (w : AH), Ex M_X11_seed lv 17 l [.int x] w = some (some (.int x), w)) :=
  ⟨(fun lv st t x w => Ex_M (i := .aload_n 0) (n := 1) (by decide +kernel) rfl rfl rfl),
   (fun lv st t w => Ex_M (i := .aload_n 0) (n := 1) (by decide +kernel) rfl rfl rfl),
   (fun lv l st a w => Ex_getf (by decide +kernel : decode M_X11_seed.2.1 1 = .ok (.getfield 12, 3)) rfl (by decide +kernel : resF (mCn M_X11_seed) 12 = some (10, 0, (.object "CarpetLands$Country"), true))),
   (fun lv l st a w => Ex_getf (by decide +kernel : decode M_X11_seed.2.1 4 = .ok (.getfield 286, 3)) rfl (by decide +kernel : resF (mCn M_X11_seed) 286 = some (1, 8, .int, false))),
   (fun lv l st x w => Ex_M (i := .istore_n 2) (n := 1) (by decide +kernel) rfl rfl rfl),
   (fun lv st t x w => Ex_M (i := .aload_n 0) (n := 1) (by decide +kernel) rfl rfl rfl),
   (fun lv st t w => Ex_M (i := .aload_n 0) (n := 1) (by decide +kernel) rfl rfl rfl),
   (fun lv l st a w => Ex_getf (by decide +kernel : decode M_X11_seed.2.1 9 = .ok (.getfield 12, 3)) rfl (by decide +kernel : resF (mCn M_X11_seed) 12 = some (10, 0, (.object "CarpetLands$Country"), true))),
   (fun lv st t o0 x w => Ex_M (i := .iload_n 1) (n := 1) (by decide +kernel) rfl rfl rfl),
   (fun lv l st a v w => Ex_putf (by decide +kernel : decode M_X11_seed.2.1 13 = .ok (.putfield 286, 3)) rfl (by decide +kernel : resF (mCn M_X11_seed) 286 = some (1, 8, .int, false)) (by decide +kernel)),
   (fun lv st t o0 o1 x w => Ex_M (i := .iload_n 2) (n := 1) (by decide +kernel) rfl rfl rfl),
   (fun lv l x w => Ex_R (i := .ireturn) (n := 1) (by decide +kernel) rfl rfl rfl rfl rfl)⟩
set_option maxRecDepth 20000 in
set_option maxHeartbeats 4000000 in
theorem R_X11_voice : (∀ (lv : Nat) (st : List Value) (t : LX) (x : Nat) (w : AH), Ex M_X11_voice lv 0 (some (.ref x) :: t) st w = Ex M_X11_voice lv 1 (some (.ref x) :: t) (.ref x :: st) w)
  ∧ (∀ (lv : Nat) (st : List Value) (t : LX) (w : AH), Ex M_X11_voice lv 0 (some (.null) :: t) st w = Ex M_X11_voice lv 1 (some (.null) :: t) (.null :: st) w)
  ∧ (∀ (lv : Nat) (l : LX) (st : List Value) (a : Nat) (w : AH), Ex M_X11_voice lv 1 l (.ref a :: st) w = if (gf (hg w a) 10 0).isSome = true then Ex M_X11_voice lv 4 l (vV (gf (hg w a) 10 0) :: st) w else none)
  ∧ (∀ (lv : Nat) (st : List Value) (t : LX) (o0 : Option Value) (x : Int32) (w : AH), Ex M_X11_voice lv 4 (o0 :: some (.int x) :: t) st w = Ex M_X11_voice lv 5 (o0 :: some (.int x) :: t) (.int x :: st) w)
  ∧ (∀ (lv : Nat) (l : LX) (b : Nat) (a0 : Int32) (w : AH), Ex M_X11_voice lv 5 l (.int a0 :: .ref b :: []) w = if clK (hg w b) = 1 then (if (Call M_X1_walkerOf 60 [.ref b, .int a0] w).isSome = true then Ex M_X11_voice lv 8 l (pushR (cV (Call M_X1_walkerOf 60 [.ref b, .int a0] w)) []) (cW (Call M_X1_walkerOf 60 [.ref b, .int a0] w) w) else none) else none)
  ∧ (∀ (lv : Nat) (l : LX) (st : List Value) (x : Nat) (w : AH), Ex M_X11_voice lv 8 l (.ref x :: st) w = Ex M_X11_voice lv 10 (ls1 l 4 (.ref x)) st w)
  ∧ (∀ (lv : Nat) (l : LX) (st : List Value) (w : AH), Ex M_X11_voice lv 8 l (.null :: st) w = Ex M_X11_voice lv 10 (ls1 l 4 (.null)) st w)
  ∧ (∀ (lv : Nat) (st : List Value) (t : LX) (o0 o1 o2 o3 : Option Value) (x : Nat) (w : AH), Ex M_X11_voice lv 10 (o0 :: o1 :: o2 :: o3 :: some (.ref x) :: t) st w = Ex M_X11_voice lv 12 (o0 :: o1 :: o2 :: o3 :: some (.ref x) :: t) (.ref x :: st) w)
  ∧ (∀ (lv : Nat) (st : List Value) (t : LX) (o0 o1 o2 o3 : Option Value) (w : AH), Ex M_X11_voice lv 10 (o0 :: o1 :: o2 :: o3 :: some (.null) :: t) st w = Ex M_X11_voice lv 12 (o0 :: o1 :: o2 :: o3 :: some (.null) :: t) (.null :: st) w)
  ∧ (∀ (lv : Nat) (l : LX) (st : List Value) (x : Nat) (w : AH), Ex M_X11_voice lv 12 l (.ref x :: st) w = Ex M_X11_voice lv 15 l st w)
  ∧ (∀ (lv : Nat) (l : LX) (st : List Value) (w : AH), Ex M_X11_voice lv 12 l (.null :: st) w = Ex M_X11_voice lv 24 l st w)
  ∧ (∀ (lv : Nat) (st : List Value) (t : LX) (o0 o1 : Option Value) (x : Int32) (w : AH), Ex M_X11_voice lv 15 (o0 :: o1 :: some (.int x) :: t) st w = Ex M_X11_voice lv 16 (o0 :: o1 :: some (.int x) :: t) (.int x :: st) w)
  ∧ (∀ (lv : Nat) (l : LX) (st : List Value) (w : AH), Ex M_X11_voice lv 16 l st w = Ex M_X11_voice lv 17 l (.int 0 :: st) w)
  ∧ (∀ (lv : Nat) (l : LX) (st : List Value) (w : AH), Ex M_X11_voice lv 17 l st w = Ex M_X11_voice lv 18 l (.int 3 :: st) w)
  ∧ (∀ (lv : Nat) (l : LX) (a0 : Int32) (a1 : Int32) (a2 : Int32) (w : AH), Ex M_X11_voice lv 18 l (.int a2 :: .int a1 :: .int a0 :: []) w = if (Call M_X11_isWithin 60 [.int a0, .int a1, .int a2] w).isSome = true then Ex M_X11_voice lv 21 l (pushR (cV (Call M_X11_isWithin 60 [.int a0, .int a1, .int a2] w)) []) (cW (Call M_X11_isWithin 60 [.int a0, .int a1, .int a2] w) w) else none)
  ∧ (∀ (lv : Nat) (l : LX) (st : List Value) (x : Int32) (w : AH), Ex M_X11_voice lv 21 l (.int x :: st) w = if ¬ x = 0 then Ex M_X11_voice lv 31 l st w else Ex M_X11_voice lv 24 l st w)
  ∧ (∀ (lv : Nat) (st : List Value) (t : LX) (x : Nat) (w : AH), Ex M_X11_voice lv 24 (some (.ref x) :: t) st w = Ex M_X11_voice lv 25 (some (.ref x) :: t) (.ref x :: st) w)
  ∧ (∀ (lv : Nat) (st : List Value) (t : LX) (w : AH), Ex M_X11_voice lv 24 (some (.null) :: t) st w = Ex M_X11_voice lv 25 (some (.null) :: t) (.null :: st) w)
  ∧ (∀ (lv : Nat) (l : LX) (st : List Value) (w : AH), Ex M_X11_voice lv 25 l st w = Ex M_X11_voice lv 27 l (.int (-1000000001) :: st) w)
  ∧ (∀ (lv : Nat) (l : LX) (b : Nat) (a0 : Int32) (w : AH), Ex M_X11_voice lv 27 l (.int a0 :: .ref b :: []) w = if clK (hg w b) = 10 then (if (Call M_X11_refuse 60 [.ref b, .int a0] w).isSome = true then Ex M_X11_voice lv 30 l (pushR (cV (Call M_X11_refuse 60 [.ref b, .int a0] w)) []) (cW (Call M_X11_refuse 60 [.ref b, .int a0] w) w) else none) else none)
  ∧ (∀ (lv : Nat) (l : LX) (x : Int32) (w : AH), Ex M_X11_voice lv 30 l [.int x] w = some (some (.int x), w))
  ∧ (∀ (lv : Nat) (st : List Value) (t : LX) (x : Nat) (w : AH), Ex M_X11_voice lv 31 (some (.ref x) :: t) st w = Ex M_X11_voice lv 32 (some (.ref x) :: t) (.ref x :: st) w)
  ∧ (∀ (lv : Nat) (st : List Value) (t : LX) (w : AH), Ex M_X11_voice lv 31 (some (.null) :: t) st w = Ex M_X11_voice lv 32 (some (.null) :: t) (.null :: st) w)
  ∧ (∀ (lv : Nat) (l : LX) (st : List Value) (a : Nat) (w : AH), Ex M_X11_voice lv 32 l (.ref a :: st) w = if (gf (hg w a) 10 4).isSome = true then Ex M_X11_voice lv 35 l (vV (gf (hg w a) 10 4) :: st) w else none)
  ∧ (∀ (lv : Nat) (st : List Value) (t : LX) (o0 o1 o2 o3 : Option Value) (x : Nat) (w : AH), Ex M_X11_voice lv 35 (o0 :: o1 :: o2 :: o3 :: some (.ref x) :: t) st w = Ex M_X11_voice lv 37 (o0 :: o1 :: o2 :: o3 :: some (.ref x) :: t) (.ref x :: st) w)
  ∧ (∀ (lv : Nat) (st : List Value) (t : LX) (o0 o1 o2 o3 : Option Value) (w : AH), Ex M_X11_voice lv 35 (o0 :: o1 :: o2 :: o3 :: some (.null) :: t) st w = Ex M_X11_voice lv 37 (o0 :: o1 :: o2 :: o3 :: some (.null) :: t) (.null :: st) w)
  ∧ (∀ (lv : Nat) (st : List Value) (t : LX) (o0 : Option Value) (x : Int32) (w : AH), Ex M_X11_voice lv 37 (o0 :: some (.int x) :: t) st w = Ex M_X11_voice lv 38 (o0 :: some (.int x) :: t) (.int x :: st) w)
  ∧ (∀ (lv : Nat) (st : List Value) (t : LX) (o0 o1 : Option Value) (x : Int32) (w : AH), Ex M_X11_voice lv 38 (o0 :: o1 :: some (.int x) :: t) st w = Ex M_X11_voice lv 39 (o0 :: o1 :: some (.int x) :: t) (.int x :: st) w)
  ∧ (∀ (lv : Nat) (st : List Value) (t : LX) (o0 o1 o2 : Option Value) (x : Int32) (w : AH), Ex M_X11_voice lv 39 (o0 :: o1 :: o2 :: some (.int x) :: t) st w = Ex M_X11_voice lv 40 (o0 :: o1 :: o2 :: some (.int x) :: t) (.int x :: st) w)
  ∧ (∀ (lv : Nat) (l : LX) (b : Nat) (a0 : Nat) (a1 : Int32) (a2 : Int32) (a3 : Int32) (w : AH), Ex M_X11_voice lv 40 l (.int a3 :: .int a2 :: .int a1 :: .ref a0 :: .ref b :: []) w = if clK (hg w b) = 8 then (if (Call M_X9_speak 60 [.ref b, .ref a0, .int a1, .int a2, .int a3] w).isSome = true then Ex M_X11_voice lv 43 l (pushR (cV (Call M_X9_speak 60 [.ref b, .ref a0, .int a1, .int a2, .int a3] w)) []) (cW (Call M_X9_speak 60 [.ref b, .ref a0, .int a1, .int a2, .int a3] w) w) else none) else none)
  ∧ (∀ (lv : Nat) (l : LX) (x : Int32) (w : AH), Ex M_X11_voice lv 43 l [.int x] w = some (some (.int x), w)) :=
  ⟨(fun lv st t x w => Ex_M (i := .aload_n 0) (n := 1) (by decide +kernel) rfl rfl rfl),
   (fun lv st t w => Ex_M (i := .aload_n 0) (n := 1) (by decide +kernel) rfl rfl rfl),
   (fun lv l st a w => Ex_getf (by decide +kernel : decode M_X11_voice.2.1 1 = .ok (.getfield 12, 3)) rfl (by decide +kernel : resF (mCn M_X11_voice) 12 = some (10, 0, (.object "CarpetLands$Country"), true))),
   (fun lv st t o0 x w => Ex_M (i := .iload_n 1) (n := 1) (by decide +kernel) rfl rfl rfl),
   (fun lv l b a0 w => Ex_callV (by decide +kernel : decode M_X11_voice.2.1 5 = .ok (.invokevirtual 133, 3)) rfl (by rfl : resM (mCn M_X11_voice) 133 = some (2, M_X1_walkerOf)) rfl (by rfl) (Nat.le_of_ble_eq_true rfl) (by decide +kernel) (sLv_lt (by decide +kernel))),
   (fun lv l st x w => Ex_M (i := .astore 4) (n := 2) (by decide +kernel) rfl rfl rfl),
   (fun lv l st w => Ex_M (i := .astore 4) (n := 2) (by decide +kernel) rfl rfl rfl),
   (fun lv st t o0 o1 o2 o3 x w => Ex_M (i := .aload 4) (n := 2) (by decide +kernel) rfl rfl rfl),
   (fun lv st t o0 o1 o2 o3 w => Ex_M (i := .aload 4) (n := 2) (by decide +kernel) rfl rfl rfl),
   (fun lv l st x w => Ex_ifnull_r (by decide +kernel : decode M_X11_voice.2.1 12 = .ok (.ifnull 12, 3)) rfl),
   (fun lv l st w => Ex_ifnull_n (by decide +kernel : decode M_X11_voice.2.1 12 = .ok (.ifnull 12, 3)) rfl),
   (fun lv st t o0 o1 x w => Ex_M (i := .iload_n 2) (n := 1) (by decide +kernel) rfl rfl rfl),
   (fun lv l st w => Ex_A (i := .iconst 0) (n := 1) (by decide +kernel) rfl rfl),
   (fun lv l st w => Ex_A (i := .iconst 3) (n := 1) (by decide +kernel) rfl rfl),
   (fun lv l a0 a1 a2 w => Ex_callS (by decide +kernel : decode M_X11_voice.2.1 18 = .ok (.invokestatic 69, 3)) rfl (by rfl : resM (mCn M_X11_voice) 69 = some (0, M_X11_isWithin)) (by decide) rfl (by rfl) (Nat.le_of_ble_eq_true rfl) (sLv_lt (by decide +kernel))),
   (fun lv l st x w => Ex_if_ne (by decide +kernel : decode M_X11_voice.2.1 21 = .ok (.ifCond .ne 10, 3)) rfl rfl),
   (fun lv st t x w => Ex_M (i := .aload_n 0) (n := 1) (by decide +kernel) rfl rfl rfl),
   (fun lv st t w => Ex_M (i := .aload_n 0) (n := 1) (by decide +kernel) rfl rfl rfl),
   (fun lv l st w => Ex_ldcI (by decide +kernel : decode M_X11_voice.2.1 25 = .ok (.ldc 73, 2)) rfl (by decide +kernel)),
   (fun lv l b a0 w => Ex_callV (by decide +kernel : decode M_X11_voice.2.1 27 = .ok (.invokevirtual 74, 3)) rfl (by rfl : resM (mCn M_X11_voice) 74 = some (2, M_X11_refuse)) rfl (by rfl) (Nat.le_of_ble_eq_true rfl) (by decide +kernel) (sLv_lt (by decide +kernel))),
   (fun lv l x w => Ex_R (i := .ireturn) (n := 1) (by decide +kernel) rfl rfl rfl rfl rfl),
   (fun lv st t x w => Ex_M (i := .aload_n 0) (n := 1) (by decide +kernel) rfl rfl rfl),
   (fun lv st t w => Ex_M (i := .aload_n 0) (n := 1) (by decide +kernel) rfl rfl rfl),
   (fun lv l st a w => Ex_getf (by decide +kernel : decode M_X11_voice.2.1 32 = .ok (.getfield 32, 3)) rfl (by decide +kernel : resF (mCn M_X11_voice) 32 = some (10, 4, (.object "CarpetLands$Voice"), true))),
   (fun lv st t o0 o1 o2 o3 x w => Ex_M (i := .aload 4) (n := 2) (by decide +kernel) rfl rfl rfl),
   (fun lv st t o0 o1 o2 o3 w => Ex_M (i := .aload 4) (n := 2) (by decide +kernel) rfl rfl rfl),
   (fun lv st t o0 x w => Ex_M (i := .iload_n 1) (n := 1) (by decide +kernel) rfl rfl rfl),
   (fun lv st t o0 o1 x w => Ex_M (i := .iload_n 2) (n := 1) (by decide +kernel) rfl rfl rfl),
   (fun lv st t o0 o1 o2 x w => Ex_M (i := .iload_n 3) (n := 1) (by decide +kernel) rfl rfl rfl),
   (fun lv l b a0 a1 a2 a3 w => Ex_callV (by decide +kernel : decode M_X11_voice.2.1 40 = .ok (.invokevirtual 289, 3)) rfl (by rfl : resM (mCn M_X11_voice) 289 = some (2, M_X9_speak)) rfl (by rfl) (Nat.le_of_ble_eq_true rfl) (by decide +kernel) (sLv_lt (by decide +kernel))),
   (fun lv l x w => Ex_R (i := .ireturn) (n := 1) (by decide +kernel) rfl rfl rfl rfl rfl)⟩
set_option maxRecDepth 20000 in
set_option maxHeartbeats 4000000 in
theorem R_X11_trace : (∀ (lv : Nat) (st : List Value) (t : LX) (x : Nat) (w : AH), Ex M_X11_trace lv 0 (some (.ref x) :: t) st w = Ex M_X11_trace lv 1 (some (.ref x) :: t) (.ref x :: st) w)
  ∧ (∀ (lv : Nat) (st : List Value) (t : LX) (w : AH), Ex M_X11_trace lv 0 (some (.null) :: t) st w = Ex M_X11_trace lv 1 (some (.null) :: t) (.null :: st) w)
  ∧ (∀ (lv : Nat) (l : LX) (st : List Value) (a : Nat) (w : AH), Ex M_X11_trace lv 1 l (.ref a :: st) w = if (gf (hg w a) 10 4).isSome = true then Ex M_X11_trace lv 4 l (vV (gf (hg w a) 10 4) :: st) w else none)
  ∧ (∀ (lv : Nat) (l : LX) (st : List Value) (a : Nat) (w : AH), Ex M_X11_trace lv 4 l (.ref a :: st) w = if (gf (hg w a) 8 0).isSome = true then Ex M_X11_trace lv 7 l (vV (gf (hg w a) 8 0) :: st) w else none)
  ∧ (∀ (lv : Nat) (st : List Value) (t : LX) (o0 : Option Value) (x : Int32) (w : AH), Ex M_X11_trace lv 7 (o0 :: some (.int x) :: t) st w = Ex M_X11_trace lv 8 (o0 :: some (.int x) :: t) (.int x :: st) w)
  ∧ (∀ (lv : Nat) (l : LX) (b : Nat) (a0 : Int32) (w : AH), Ex M_X11_trace lv 8 l (.int a0 :: .ref b :: []) w = if clK (hg w b) = 6 then (if (Call M_X6_has 60 [.ref b, .int a0] w).isSome = true then Ex M_X11_trace lv 11 l (pushR (cV (Call M_X6_has 60 [.ref b, .int a0] w)) []) (cW (Call M_X6_has 60 [.ref b, .int a0] w) w) else none) else none)
  ∧ (∀ (lv : Nat) (l : LX) (st : List Value) (x : Int32) (w : AH), Ex M_X11_trace lv 11 l (.int x :: st) w = if x = 0 then Ex M_X11_trace lv 28 l st w else Ex M_X11_trace lv 14 l st w)
  ∧ (∀ (lv : Nat) (st : List Value) (t : LX) (x : Nat) (w : AH), Ex M_X11_trace lv 14 (some (.ref x) :: t) st w = Ex M_X11_trace lv 15 (some (.ref x) :: t) (.ref x :: st) w)
  ∧ (∀ (lv : Nat) (st : List Value) (t : LX) (w : AH), Ex M_X11_trace lv 14 (some (.null) :: t) st w = Ex M_X11_trace lv 15 (some (.null) :: t) (.null :: st) w)
  ∧ (∀ (lv : Nat) (l : LX) (st : List Value) (a : Nat) (w : AH), Ex M_X11_trace lv 15 l (.ref a :: st) w = if (gf (hg w a) 10 4).isSome = true then Ex M_X11_trace lv 18 l (vV (gf (hg w a) 10 4) :: st) w else none)
  ∧ (∀ (lv : Nat) (l : LX) (st : List Value) (a : Nat) (w : AH), Ex M_X11_trace lv 18 l (.ref a :: st) w = if (gf (hg w a) 8 0).isSome = true then Ex M_X11_trace lv 21 l (vV (gf (hg w a) 8 0) :: st) w else none)
  ∧ (∀ (lv : Nat) (st : List Value) (t : LX) (o0 : Option Value) (x : Int32) (w : AH), Ex M_X11_trace lv 21 (o0 :: some (.int x) :: t) st w = Ex M_X11_trace lv 22 (o0 :: some (.int x) :: t) (.int x :: st) w)
  ∧ (∀ (lv : Nat) (l : LX) (b : Nat) (a0 : Int32) (w : AH), Ex M_X11_trace lv 22 l (.int a0 :: .ref b :: []) w = if clK (hg w b) = 6 then (if (Call M_X6_get 60 [.ref b, .int a0] w).isSome = true then Ex M_X11_trace lv 25 l (pushR (cV (Call M_X6_get 60 [.ref b, .int a0] w)) []) (cW (Call M_X6_get 60 [.ref b, .int a0] w) w) else none) else none)
  ∧ (∀ (lv : Nat) (l : LX) (st : List Value) (w : AH), Ex M_X11_trace lv 25 l st w = Ex M_X11_trace lv 34 l st w)
  ∧ (∀ (lv : Nat) (st : List Value) (t : LX) (x : Nat) (w : AH), Ex M_X11_trace lv 28 (some (.ref x) :: t) st w = Ex M_X11_trace lv 29 (some (.ref x) :: t) (.ref x :: st) w)
  ∧ (∀ (lv : Nat) (st : List Value) (t : LX) (w : AH), Ex M_X11_trace lv 28 (some (.null) :: t) st w = Ex M_X11_trace lv 29 (some (.null) :: t) (.null :: st) w)
  ∧ (∀ (lv : Nat) (l : LX) (st : List Value) (w : AH), Ex M_X11_trace lv 29 l st w = Ex M_X11_trace lv 31 l (.int (-1000000002) :: st) w)
  ∧ (∀ (lv : Nat) (l : LX) (b : Nat) (a0 : Int32) (w : AH), Ex M_X11_trace lv 31 l (.int a0 :: .ref b :: []) w = if clK (hg w b) = 10 then (if (Call M_X11_refuse 60 [.ref b, .int a0] w).isSome = true then Ex M_X11_trace lv 34 l (pushR (cV (Call M_X11_refuse 60 [.ref b, .int a0] w)) []) (cW (Call M_X11_refuse 60 [.ref b, .int a0] w) w) else none) else none)
  ∧ (∀ (lv : Nat) (l : LX) (x : Int32) (w : AH), Ex M_X11_trace lv 34 l [.int x] w = some (some (.int x), w)) :=
  ⟨(fun lv st t x w => Ex_M (i := .aload_n 0) (n := 1) (by decide +kernel) rfl rfl rfl),
   (fun lv st t w => Ex_M (i := .aload_n 0) (n := 1) (by decide +kernel) rfl rfl rfl),
   (fun lv l st a w => Ex_getf (by decide +kernel : decode M_X11_trace.2.1 1 = .ok (.getfield 32, 3)) rfl (by decide +kernel : resF (mCn M_X11_trace) 32 = some (10, 4, (.object "CarpetLands$Voice"), true))),
   (fun lv l st a w => Ex_getf (by decide +kernel : decode M_X11_trace.2.1 4 = .ok (.getfield 293, 3)) rfl (by decide +kernel : resF (mCn M_X11_trace) 293 = some (8, 0, (.object "CarpetLands$Row"), true))),
   (fun lv st t o0 x w => Ex_M (i := .iload_n 1) (n := 1) (by decide +kernel) rfl rfl rfl),
   (fun lv l b a0 w => Ex_callV (by decide +kernel : decode M_X11_trace.2.1 8 = .ok (.invokevirtual 296, 3)) rfl (by rfl : resM (mCn M_X11_trace) 296 = some (2, M_X6_has)) rfl (by rfl) (Nat.le_of_ble_eq_true rfl) (by decide +kernel) (sLv_lt (by decide +kernel))),
   (fun lv l st x w => Ex_if_eq (by decide +kernel : decode M_X11_trace.2.1 11 = .ok (.ifCond .eq 17, 3)) rfl rfl),
   (fun lv st t x w => Ex_M (i := .aload_n 0) (n := 1) (by decide +kernel) rfl rfl rfl),
   (fun lv st t w => Ex_M (i := .aload_n 0) (n := 1) (by decide +kernel) rfl rfl rfl),
   (fun lv l st a w => Ex_getf (by decide +kernel : decode M_X11_trace.2.1 15 = .ok (.getfield 32, 3)) rfl (by decide +kernel : resF (mCn M_X11_trace) 32 = some (10, 4, (.object "CarpetLands$Voice"), true))),
   (fun lv l st a w => Ex_getf (by decide +kernel : decode M_X11_trace.2.1 18 = .ok (.getfield 293, 3)) rfl (by decide +kernel : resF (mCn M_X11_trace) 293 = some (8, 0, (.object "CarpetLands$Row"), true))),
   (fun lv st t o0 x w => Ex_M (i := .iload_n 1) (n := 1) (by decide +kernel) rfl rfl rfl),
   (fun lv l b a0 w => Ex_callV (by decide +kernel : decode M_X11_trace.2.1 22 = .ok (.invokevirtual 299, 3)) rfl (by rfl : resM (mCn M_X11_trace) 299 = some (2, M_X6_get)) rfl (by rfl) (Nat.le_of_ble_eq_true rfl) (by decide +kernel) (sLv_lt (by decide +kernel))),
   (fun lv l st w => Ex_goto (by decide +kernel : decode M_X11_trace.2.1 25 = .ok (.goto 9, 3)) rfl),
   (fun lv st t x w => Ex_M (i := .aload_n 0) (n := 1) (by decide +kernel) rfl rfl rfl),
   (fun lv st t w => Ex_M (i := .aload_n 0) (n := 1) (by decide +kernel) rfl rfl rfl),
   (fun lv l st w => Ex_ldcI (by decide +kernel : decode M_X11_trace.2.1 29 = .ok (.ldc 218, 2)) rfl (by decide +kernel)),
   (fun lv l b a0 w => Ex_callV (by decide +kernel : decode M_X11_trace.2.1 31 = .ok (.invokevirtual 74, 3)) rfl (by rfl : resM (mCn M_X11_trace) 74 = some (2, M_X11_refuse)) rfl (by rfl) (Nat.le_of_ble_eq_true rfl) (by decide +kernel) (sLv_lt (by decide +kernel))),
   (fun lv l x w => Ex_R (i := .ireturn) (n := 1) (by decide +kernel) rfl rfl rfl rfl rfl)⟩
set_option maxRecDepth 20000 in
set_option maxHeartbeats 4000000 in
theorem R_X11_sheet : (∀ (lv : Nat) (st : List Value) (t : LX) (x : Nat) (w : AH), Ex M_X11_sheet lv 0 (some (.ref x) :: t) st w = Ex M_X11_sheet lv 1 (some (.ref x) :: t) (.ref x :: st) w)
  ∧ (∀ (lv : Nat) (st : List Value) (t : LX) (w : AH), Ex M_X11_sheet lv 0 (some (.null) :: t) st w = Ex M_X11_sheet lv 1 (some (.null) :: t) (.null :: st) w)
  ∧ (∀ (lv : Nat) (st : List Value) (t : LX) (o0 : Option Value) (x : Int32) (w : AH), Ex M_X11_sheet lv 1 (o0 :: some (.int x) :: t) st w = Ex M_X11_sheet lv 2 (o0 :: some (.int x) :: t) (.int x :: st) w)
  ∧ (∀ (lv : Nat) (l : LX) (b : Nat) (a0 : Int32) (w : AH), Ex M_X11_sheet lv 2 l (.int a0 :: .ref b :: []) w = if clK (hg w b) = 10 then (if (Call M_X11_sheetOf 60 [.ref b, .int a0] w).isSome = true then Ex M_X11_sheet lv 5 l (pushR (cV (Call M_X11_sheetOf 60 [.ref b, .int a0] w)) []) (cW (Call M_X11_sheetOf 60 [.ref b, .int a0] w) w) else none) else none)
  ∧ (∀ (lv : Nat) (l : LX) (st : List Value) (x : Nat) (w : AH), Ex M_X11_sheet lv 5 l (.ref x :: st) w = Ex M_X11_sheet lv 7 (ls1 l 4 (.ref x)) st w)
  ∧ (∀ (lv : Nat) (l : LX) (st : List Value) (w : AH), Ex M_X11_sheet lv 5 l (.null :: st) w = Ex M_X11_sheet lv 7 (ls1 l 4 (.null)) st w)
  ∧ (∀ (lv : Nat) (st : List Value) (t : LX) (o0 o1 o2 o3 : Option Value) (x : Nat) (w : AH), Ex M_X11_sheet lv 7 (o0 :: o1 :: o2 :: o3 :: some (.ref x) :: t) st w = Ex M_X11_sheet lv 9 (o0 :: o1 :: o2 :: o3 :: some (.ref x) :: t) (.ref x :: st) w)
  ∧ (∀ (lv : Nat) (st : List Value) (t : LX) (o0 o1 o2 o3 : Option Value) (w : AH), Ex M_X11_sheet lv 7 (o0 :: o1 :: o2 :: o3 :: some (.null) :: t) st w = Ex M_X11_sheet lv 9 (o0 :: o1 :: o2 :: o3 :: some (.null) :: t) (.null :: st) w)
  ∧ (∀ (lv : Nat) (l : LX) (st : List Value) (x : Nat) (w : AH), Ex M_X11_sheet lv 9 l (.ref x :: st) w = Ex M_X11_sheet lv 12 l st w)
  ∧ (∀ (lv : Nat) (l : LX) (st : List Value) (w : AH), Ex M_X11_sheet lv 9 l (.null :: st) w = Ex M_X11_sheet lv 34 l st w)
  ∧ (∀ (lv : Nat) (st : List Value) (t : LX) (o0 o1 : Option Value) (x : Int32) (w : AH), Ex M_X11_sheet lv 12 (o0 :: o1 :: some (.int x) :: t) st w = Ex M_X11_sheet lv 13 (o0 :: o1 :: some (.int x) :: t) (.int x :: st) w)
  ∧ (∀ (lv : Nat) (l : LX) (st : List Value) (x : Int32) (w : AH), Ex M_X11_sheet lv 13 l (.int x :: st) w = if x = 0 then Ex M_X11_sheet lv 41 l st w else Ex M_X11_sheet lv 16 l st w)
  ∧ (∀ (lv : Nat) (st : List Value) (t : LX) (o0 o1 : Option Value) (x : Int32) (w : AH), Ex M_X11_sheet lv 16 (o0 :: o1 :: some (.int x) :: t) st w = Ex M_X11_sheet lv 17 (o0 :: o1 :: some (.int x) :: t) (.int x :: st) w)
  ∧ (∀ (lv : Nat) (l : LX) (st : List Value) (w : AH), Ex M_X11_sheet lv 17 l st w = Ex M_X11_sheet lv 19 l (.int 8 :: st) w)
  ∧ (∀ (lv : Nat) (l : LX) (st : List Value) (x y : Int32) (w : AH), Ex M_X11_sheet lv 19 l (.int y :: .int x :: st) w = if x = y then Ex M_X11_sheet lv 41 l st w else Ex M_X11_sheet lv 22 l st w)
  ∧ (∀ (lv : Nat) (st : List Value) (t : LX) (o0 o1 : Option Value) (x : Int32) (w : AH), Ex M_X11_sheet lv 22 (o0 :: o1 :: some (.int x) :: t) st w = Ex M_X11_sheet lv 23 (o0 :: o1 :: some (.int x) :: t) (.int x :: st) w)
  ∧ (∀ (lv : Nat) (l : LX) (st : List Value) (w : AH), Ex M_X11_sheet lv 23 l st w = Ex M_X11_sheet lv 25 l (.int 16 :: st) w)
  ∧ (∀ (lv : Nat) (l : LX) (st : List Value) (x y : Int32) (w : AH), Ex M_X11_sheet lv 25 l (.int y :: .int x :: st) w = if x = y then Ex M_X11_sheet lv 41 l st w else Ex M_X11_sheet lv 28 l st w)
  ∧ (∀ (lv : Nat) (st : List Value) (t : LX) (o0 o1 : Option Value) (x : Int32) (w : AH), Ex M_X11_sheet lv 28 (o0 :: o1 :: some (.int x) :: t) st w = Ex M_X11_sheet lv 29 (o0 :: o1 :: some (.int x) :: t) (.int x :: st) w)
  ∧ (∀ (lv : Nat) (l : LX) (st : List Value) (w : AH), Ex M_X11_sheet lv 29 l st w = Ex M_X11_sheet lv 31 l (.int 32 :: st) w)
  ∧ (∀ (lv : Nat) (l : LX) (st : List Value) (x y : Int32) (w : AH), Ex M_X11_sheet lv 31 l (.int y :: .int x :: st) w = if x = y then Ex M_X11_sheet lv 41 l st w else Ex M_X11_sheet lv 34 l st w)
  ∧ (∀ (lv : Nat) (st : List Value) (t : LX) (x : Nat) (w : AH), Ex M_X11_sheet lv 34 (some (.ref x) :: t) st w = Ex M_X11_sheet lv 35 (some (.ref x) :: t) (.ref x :: st) w)
  ∧ (∀ (lv : Nat) (st : List Value) (t : LX) (w : AH), Ex M_X11_sheet lv 34 (some (.null) :: t) st w = Ex M_X11_sheet lv 35 (some (.null) :: t) (.null :: st) w)
  ∧ (∀ (lv : Nat) (l : LX) (st : List Value) (w : AH), Ex M_X11_sheet lv 35 l st w = Ex M_X11_sheet lv 37 l (.int (-1000000001) :: st) w)
  ∧ (∀ (lv : Nat) (l : LX) (b : Nat) (a0 : Int32) (w : AH), Ex M_X11_sheet lv 37 l (.int a0 :: .ref b :: []) w = if clK (hg w b) = 10 then (if (Call M_X11_refuse 60 [.ref b, .int a0] w).isSome = true then Ex M_X11_sheet lv 40 l (pushR (cV (Call M_X11_refuse 60 [.ref b, .int a0] w)) []) (cW (Call M_X11_refuse 60 [.ref b, .int a0] w) w) else none) else none)
  ∧ (∀ (lv : Nat) (l : LX) (x : Int32) (w : AH), Ex M_X11_sheet lv 40 l [.int x] w = some (some (.int x), w))
  ∧ (∀ (lv : Nat) (st : List Value) (t : LX) (o0 o1 : Option Value) (x : Int32) (w : AH), Ex M_X11_sheet lv 41 (o0 :: o1 :: some (.int x) :: t) st w = Ex M_X11_sheet lv 42 (o0 :: o1 :: some (.int x) :: t) (.int x :: st) w)
  ∧ (∀ (lv : Nat) (l : LX) (st : List Value) (x : Int32) (w : AH), Ex M_X11_sheet lv 42 l (.int x :: st) w = if x = 0 then Ex M_X11_sheet lv 56 l st w else Ex M_X11_sheet lv 45 l st w)
  ∧ (∀ (lv : Nat) (st : List Value) (t : LX) (o0 o1 o2 : Option Value) (x : Int32) (w : AH), Ex M_X11_sheet lv 45 (o0 :: o1 :: o2 :: some (.int x) :: t) st w = Ex M_X11_sheet lv 46 (o0 :: o1 :: o2 :: some (.int x) :: t) (.int x :: st) w)
  ∧ (∀ (lv : Nat) (l : LX) (st : List Value) (x : Int32) (w : AH), Ex M_X11_sheet lv 46 l (.int x :: st) w = if 0 ≤ x then Ex M_X11_sheet lv 56 l st w else Ex M_X11_sheet lv 49 l st w)
  ∧ (∀ (lv : Nat) (st : List Value) (t : LX) (x : Nat) (w : AH), Ex M_X11_sheet lv 49 (some (.ref x) :: t) st w = Ex M_X11_sheet lv 50 (some (.ref x) :: t) (.ref x :: st) w)
  ∧ (∀ (lv : Nat) (st : List Value) (t : LX) (w : AH), Ex M_X11_sheet lv 49 (some (.null) :: t) st w = Ex M_X11_sheet lv 50 (some (.null) :: t) (.null :: st) w)
  ∧ (∀ (lv : Nat) (l : LX) (st : List Value) (w : AH), Ex M_X11_sheet lv 50 l st w = Ex M_X11_sheet lv 52 l (.int (-1000000003) :: st) w)
  ∧ (∀ (lv : Nat) (l : LX) (b : Nat) (a0 : Int32) (w : AH), Ex M_X11_sheet lv 52 l (.int a0 :: .ref b :: []) w = if clK (hg w b) = 10 then (if (Call M_X11_refuse 60 [.ref b, .int a0] w).isSome = true then Ex M_X11_sheet lv 55 l (pushR (cV (Call M_X11_refuse 60 [.ref b, .int a0] w)) []) (cW (Call M_X11_refuse 60 [.ref b, .int a0] w) w) else none) else none)
  ∧ (∀ (lv : Nat) (l : LX) (x : Int32) (w : AH), Ex M_X11_sheet lv 55 l [.int x] w = some (some (.int x), w))
  ∧ (∀ (lv : Nat) (st : List Value) (t : LX) (o0 o1 : Option Value) (x : Int32) (w : AH), Ex M_X11_sheet lv 56 (o0 :: o1 :: some (.int x) :: t) st w = Ex M_X11_sheet lv 57 (o0 :: o1 :: some (.int x) :: t) (.int x :: st) w)
  ∧ (∀ (lv : Nat) (l : LX) (st : List Value) (x : Int32) (w : AH), Ex M_X11_sheet lv 57 l (.int x :: st) w = if x = 0 then Ex M_X11_sheet lv 73 l st w else Ex M_X11_sheet lv 60 l st w)
  ∧ (∀ (lv : Nat) (st : List Value) (t : LX) (o0 o1 o2 : Option Value) (x : Int32) (w : AH), Ex M_X11_sheet lv 60 (o0 :: o1 :: o2 :: some (.int x) :: t) st w = Ex M_X11_sheet lv 61 (o0 :: o1 :: o2 :: some (.int x) :: t) (.int x :: st) w)
  ∧ (∀ (lv : Nat) (l : LX) (st : List Value) (w : AH), Ex M_X11_sheet lv 61 l st w = Ex M_X11_sheet lv 63 l (.int 40 :: st) w)
  ∧ (∀ (lv : Nat) (l : LX) (st : List Value) (x y : Int32) (w : AH), Ex M_X11_sheet lv 63 l (.int y :: .int x :: st) w = if x ≤ y then Ex M_X11_sheet lv 73 l st w else Ex M_X11_sheet lv 66 l st w)
  ∧ (∀ (lv : Nat) (st : List Value) (t : LX) (x : Nat) (w : AH), Ex M_X11_sheet lv 66 (some (.ref x) :: t) st w = Ex M_X11_sheet lv 67 (some (.ref x) :: t) (.ref x :: st) w)
  ∧ (∀ (lv : Nat) (st : List Value) (t : LX) (w : AH), Ex M_X11_sheet lv 66 (some (.null) :: t) st w = Ex M_X11_sheet lv 67 (some (.null) :: t) (.null :: st) w)
  ∧ (∀ (lv : Nat) (l : LX) (st : List Value) (w : AH), Ex M_X11_sheet lv 67 l st w = Ex M_X11_sheet lv 69 l (.int (-1000000001) :: st) w)
  ∧ (∀ (lv : Nat) (l : LX) (b : Nat) (a0 : Int32) (w : AH), Ex M_X11_sheet lv 69 l (.int a0 :: .ref b :: []) w = if clK (hg w b) = 10 then (if (Call M_X11_refuse 60 [.ref b, .int a0] w).isSome = true then Ex M_X11_sheet lv 72 l (pushR (cV (Call M_X11_refuse 60 [.ref b, .int a0] w)) []) (cW (Call M_X11_refuse 60 [.ref b, .int a0] w) w) else none) else none)
  ∧ (∀ (lv : Nat) (l : LX) (x : Int32) (w : AH), Ex M_X11_sheet lv 72 l [.int x] w = some (some (.int x), w))
  ∧ (∀ (lv : Nat) (st : List Value) (t : LX) (o0 o1 o2 o3 : Option Value) (x : Nat) (w : AH), Ex M_X11_sheet lv 73 (o0 :: o1 :: o2 :: o3 :: some (.ref x) :: t) st w = Ex M_X11_sheet lv 75 (o0 :: o1 :: o2 :: o3 :: some (.ref x) :: t) (.ref x :: st) w)
  ∧ (∀ (lv : Nat) (st : List Value) (t : LX) (o0 o1 o2 o3 : Option Value) (w : AH), Ex M_X11_sheet lv 73 (o0 :: o1 :: o2 :: o3 :: some (.null) :: t) st w = Ex M_X11_sheet lv 75 (o0 :: o1 :: o2 :: o3 :: some (.null) :: t) (.null :: st) w)
  ∧ (∀ (lv : Nat) (st : List Value) (t : LX) (o0 o1 : Option Value) (x : Int32) (w : AH), Ex M_X11_sheet lv 75 (o0 :: o1 :: some (.int x) :: t) st w = Ex M_X11_sheet lv 76 (o0 :: o1 :: some (.int x) :: t) (.int x :: st) w)
  ∧ (∀ (lv : Nat) (st : List Value) (t : LX) (o0 o1 : Option Value) (x : Int32) (w : AH), Ex M_X11_sheet lv 76 (o0 :: o1 :: some (.int x) :: t) st w = Ex M_X11_sheet lv 77 (o0 :: o1 :: some (.int x) :: t) (.int x :: st) w)
  ∧ (∀ (lv : Nat) (l : LX) (st : List Value) (x : Int32) (w : AH), Ex M_X11_sheet lv 77 l (.int x :: st) w = if ¬ x = 0 then Ex M_X11_sheet lv 84 l st w else Ex M_X11_sheet lv 80 l st w)
  ∧ (∀ (lv : Nat) (l : LX) (st : List Value) (w : AH), Ex M_X11_sheet lv 80 l st w = Ex M_X11_sheet lv 81 l (.int 0 :: st) w)
  ∧ (∀ (lv : Nat) (l : LX) (st : List Value) (w : AH), Ex M_X11_sheet lv 81 l st w = Ex M_X11_sheet lv 85 l st w)
  ∧ (∀ (lv : Nat) (st : List Value) (t : LX) (o0 o1 o2 : Option Value) (x : Int32) (w : AH), Ex M_X11_sheet lv 84 (o0 :: o1 :: o2 :: some (.int x) :: t) st w = Ex M_X11_sheet lv 85 (o0 :: o1 :: o2 :: some (.int x) :: t) (.int x :: st) w)
  ∧ (∀ (lv : Nat) (l : LX) (b : Nat) (a0 : Int32) (a1 : Int32) (w : AH), Ex M_X11_sheet lv 85 l (.int a1 :: .int a0 :: .ref b :: []) w = if clK (hg w b) = 7 then (if (Call M_X8_make 60 [.ref b, .int a0, .int a1] w).isSome = true then Ex M_X11_sheet lv 88 l (pushR (cV (Call M_X8_make 60 [.ref b, .int a0, .int a1] w)) []) (cW (Call M_X8_make 60 [.ref b, .int a0, .int a1] w) w) else none) else none)
  ∧ (∀ (lv : Nat) (l : LX) (st : List Value) (w : AH), Ex M_X11_sheet lv 88 l st w = Ex M_X11_sheet lv 89 l (.int 1 :: st) w)
  ∧ (∀ (lv : Nat) (l : LX) (x : Int32) (w : AH), Ex M_X11_sheet lv 89 l [.int x] w = some (some (.int x), w)) :=
  ⟨(fun lv st t x w => Ex_M (i := .aload_n 0) (n := 1) (by decide +kernel) rfl rfl rfl),
   (fun lv st t w => Ex_M (i := .aload_n 0) (n := 1) (by decide +kernel) rfl rfl rfl),
   (fun lv st t o0 x w => Ex_M (i := .iload_n 1) (n := 1) (by decide +kernel) rfl rfl rfl),
   (fun lv l b a0 w => Ex_callV (by decide +kernel : decode M_X11_sheet.2.1 2 = .ok (.invokevirtual 245, 3)) rfl (by rfl : resM (mCn M_X11_sheet) 245 = some (2, M_X11_sheetOf)) rfl (by rfl) (Nat.le_of_ble_eq_true rfl) (by decide +kernel) (sLv_lt (by decide +kernel))),
   (fun lv l st x w => Ex_M (i := .astore 4) (n := 2) (by decide +kernel) rfl rfl rfl),
   (fun lv l st w => Ex_M (i := .astore 4) (n := 2) (by decide +kernel) rfl rfl rfl),
   (fun lv st t o0 o1 o2 o3 x w => Ex_M (i := .aload 4) (n := 2) (by decide +kernel) rfl rfl rfl),
   (fun lv st t o0 o1 o2 o3 w => Ex_M (i := .aload 4) (n := 2) (by decide +kernel) rfl rfl rfl),
   (fun lv l st x w => Ex_ifnull_r (by decide +kernel : decode M_X11_sheet.2.1 9 = .ok (.ifnull 25, 3)) rfl),
   (fun lv l st w => Ex_ifnull_n (by decide +kernel : decode M_X11_sheet.2.1 9 = .ok (.ifnull 25, 3)) rfl),
   (fun lv st t o0 o1 x w => Ex_M (i := .iload_n 2) (n := 1) (by decide +kernel) rfl rfl rfl),
   (fun lv l st x w => Ex_if_eq (by decide +kernel : decode M_X11_sheet.2.1 13 = .ok (.ifCond .eq 28, 3)) rfl rfl),
   (fun lv st t o0 o1 x w => Ex_M (i := .iload_n 2) (n := 1) (by decide +kernel) rfl rfl rfl),
   (fun lv l st w => Ex_A (i := .bipush 8) (n := 2) (by decide +kernel) rfl rfl),
   (fun lv l st x y w => Ex_icmp_eq (by decide +kernel : decode M_X11_sheet.2.1 19 = .ok (.if_icmp .eq 22, 3)) rfl rfl),
   (fun lv st t o0 o1 x w => Ex_M (i := .iload_n 2) (n := 1) (by decide +kernel) rfl rfl rfl),
   (fun lv l st w => Ex_A (i := .bipush 16) (n := 2) (by decide +kernel) rfl rfl),
   (fun lv l st x y w => Ex_icmp_eq (by decide +kernel : decode M_X11_sheet.2.1 25 = .ok (.if_icmp .eq 16, 3)) rfl rfl),
   (fun lv st t o0 o1 x w => Ex_M (i := .iload_n 2) (n := 1) (by decide +kernel) rfl rfl rfl),
   (fun lv l st w => Ex_A (i := .bipush 32) (n := 2) (by decide +kernel) rfl rfl),
   (fun lv l st x y w => Ex_icmp_eq (by decide +kernel : decode M_X11_sheet.2.1 31 = .ok (.if_icmp .eq 10, 3)) rfl rfl),
   (fun lv st t x w => Ex_M (i := .aload_n 0) (n := 1) (by decide +kernel) rfl rfl rfl),
   (fun lv st t w => Ex_M (i := .aload_n 0) (n := 1) (by decide +kernel) rfl rfl rfl),
   (fun lv l st w => Ex_ldcI (by decide +kernel : decode M_X11_sheet.2.1 35 = .ok (.ldc 73, 2)) rfl (by decide +kernel)),
   (fun lv l b a0 w => Ex_callV (by decide +kernel : decode M_X11_sheet.2.1 37 = .ok (.invokevirtual 74, 3)) rfl (by rfl : resM (mCn M_X11_sheet) 74 = some (2, M_X11_refuse)) rfl (by rfl) (Nat.le_of_ble_eq_true rfl) (by decide +kernel) (sLv_lt (by decide +kernel))),
   (fun lv l x w => Ex_R (i := .ireturn) (n := 1) (by decide +kernel) rfl rfl rfl rfl rfl),
   (fun lv st t o0 o1 x w => Ex_M (i := .iload_n 2) (n := 1) (by decide +kernel) rfl rfl rfl),
   (fun lv l st x w => Ex_if_eq (by decide +kernel : decode M_X11_sheet.2.1 42 = .ok (.ifCond .eq 14, 3)) rfl rfl),
   (fun lv st t o0 o1 o2 x w => Ex_M (i := .iload_n 3) (n := 1) (by decide +kernel) rfl rfl rfl),
   (fun lv l st x w => Ex_if_ge (by decide +kernel : decode M_X11_sheet.2.1 46 = .ok (.ifCond .ge 10, 3)) rfl rfl),
   (fun lv st t x w => Ex_M (i := .aload_n 0) (n := 1) (by decide +kernel) rfl rfl rfl),
   (fun lv st t w => Ex_M (i := .aload_n 0) (n := 1) (by decide +kernel) rfl rfl rfl),
   (fun lv l st w => Ex_ldcI (by decide +kernel : decode M_X11_sheet.2.1 50 = .ok (.ldc 204, 2)) rfl (by decide +kernel)),
   (fun lv l b a0 w => Ex_callV (by decide +kernel : decode M_X11_sheet.2.1 52 = .ok (.invokevirtual 74, 3)) rfl (by rfl : resM (mCn M_X11_sheet) 74 = some (2, M_X11_refuse)) rfl (by rfl) (Nat.le_of_ble_eq_true rfl) (by decide +kernel) (sLv_lt (by decide +kernel))),
   (fun lv l x w => Ex_R (i := .ireturn) (n := 1) (by decide +kernel) rfl rfl rfl rfl rfl),
   (fun lv st t o0 o1 x w => Ex_M (i := .iload_n 2) (n := 1) (by decide +kernel) rfl rfl rfl),
   (fun lv l st x w => Ex_if_eq (by decide +kernel : decode M_X11_sheet.2.1 57 = .ok (.ifCond .eq 16, 3)) rfl rfl),
   (fun lv st t o0 o1 o2 x w => Ex_M (i := .iload_n 3) (n := 1) (by decide +kernel) rfl rfl rfl),
   (fun lv l st w => Ex_A (i := .bipush 40) (n := 2) (by decide +kernel) rfl rfl),
   (fun lv l st x y w => Ex_icmp_le (by decide +kernel : decode M_X11_sheet.2.1 63 = .ok (.if_icmp .le 10, 3)) rfl rfl),
   (fun lv st t x w => Ex_M (i := .aload_n 0) (n := 1) (by decide +kernel) rfl rfl rfl),
   (fun lv st t w => Ex_M (i := .aload_n 0) (n := 1) (by decide +kernel) rfl rfl rfl),
   (fun lv l st w => Ex_ldcI (by decide +kernel : decode M_X11_sheet.2.1 67 = .ok (.ldc 73, 2)) rfl (by decide +kernel)),
   (fun lv l b a0 w => Ex_callV (by decide +kernel : decode M_X11_sheet.2.1 69 = .ok (.invokevirtual 74, 3)) rfl (by rfl : resM (mCn M_X11_sheet) 74 = some (2, M_X11_refuse)) rfl (by rfl) (Nat.le_of_ble_eq_true rfl) (by decide +kernel) (sLv_lt (by decide +kernel))),
   (fun lv l x w => Ex_R (i := .ireturn) (n := 1) (by decide +kernel) rfl rfl rfl rfl rfl),
   (fun lv st t o0 o1 o2 o3 x w => Ex_M (i := .aload 4) (n := 2) (by decide +kernel) rfl rfl rfl),
   (fun lv st t o0 o1 o2 o3 w => Ex_M (i := .aload 4) (n := 2) (by decide +kernel) rfl rfl rfl),
   (fun lv st t o0 o1 x w => Ex_M (i := .iload_n 2) (n := 1) (by decide +kernel) rfl rfl rfl),
   (fun lv st t o0 o1 x w => Ex_M (i := .iload_n 2) (n := 1) (by decide +kernel) rfl rfl rfl),
   (fun lv l st x w => Ex_if_ne (by decide +kernel : decode M_X11_sheet.2.1 77 = .ok (.ifCond .ne 7, 3)) rfl rfl),
   (fun lv l st w => Ex_A (i := .iconst 0) (n := 1) (by decide +kernel) rfl rfl),
   (fun lv l st w => Ex_goto (by decide +kernel : decode M_X11_sheet.2.1 81 = .ok (.goto 4, 3)) rfl),
   (fun lv st t o0 o1 o2 x w => Ex_M (i := .iload_n 3) (n := 1) (by decide +kernel) rfl rfl rfl),
   (fun lv l b a0 a1 w => Ex_callV (by decide +kernel : decode M_X11_sheet.2.1 85 = .ok (.invokevirtual 302, 3)) rfl (by rfl : resM (mCn M_X11_sheet) 302 = some (2, M_X8_make)) rfl (by rfl) (Nat.le_of_ble_eq_true rfl) (by decide +kernel) (sLv_lt (by decide +kernel))),
   (fun lv l st w => Ex_A (i := .iconst 1) (n := 1) (by decide +kernel) rfl rfl),
   (fun lv l x w => Ex_R (i := .ireturn) (n := 1) (by decide +kernel) rfl rfl rfl rfl rfl)⟩
set_option maxRecDepth 20000 in
set_option maxHeartbeats 4000000 in
theorem R_X11_write : (∀ (lv : Nat) (st : List Value) (t : LX) (x : Nat) (w : AH), Ex M_X11_write lv 0 (some (.ref x) :: t) st w = Ex M_X11_write lv 1 (some (.ref x) :: t) (.ref x :: st) w)
  ∧ (∀ (lv : Nat) (st : List Value) (t : LX) (w : AH), Ex M_X11_write lv 0 (some (.null) :: t) st w = Ex M_X11_write lv 1 (some (.null) :: t) (.null :: st) w)
  ∧ (∀ (lv : Nat) (st : List Value) (t : LX) (o0 : Option Value) (x : Int32) (w : AH), Ex M_X11_write lv 1 (o0 :: some (.int x) :: t) st w = Ex M_X11_write lv 2 (o0 :: some (.int x) :: t) (.int x :: st) w)
  ∧ (∀ (lv : Nat) (l : LX) (b : Nat) (a0 : Int32) (w : AH), Ex M_X11_write lv 2 l (.int a0 :: .ref b :: []) w = if clK (hg w b) = 10 then (if (Call M_X11_sheetOf 60 [.ref b, .int a0] w).isSome = true then Ex M_X11_write lv 5 l (pushR (cV (Call M_X11_sheetOf 60 [.ref b, .int a0] w)) []) (cW (Call M_X11_sheetOf 60 [.ref b, .int a0] w) w) else none) else none)
  ∧ (∀ (lv : Nat) (l : LX) (st : List Value) (x : Nat) (w : AH), Ex M_X11_write lv 5 l (.ref x :: st) w = Ex M_X11_write lv 7 (ls1 l 4 (.ref x)) st w)
  ∧ (∀ (lv : Nat) (l : LX) (st : List Value) (w : AH), Ex M_X11_write lv 5 l (.null :: st) w = Ex M_X11_write lv 7 (ls1 l 4 (.null)) st w)
  ∧ (∀ (lv : Nat) (st : List Value) (t : LX) (o0 o1 o2 o3 : Option Value) (x : Nat) (w : AH), Ex M_X11_write lv 7 (o0 :: o1 :: o2 :: o3 :: some (.ref x) :: t) st w = Ex M_X11_write lv 9 (o0 :: o1 :: o2 :: o3 :: some (.ref x) :: t) (.ref x :: st) w)
  ∧ (∀ (lv : Nat) (st : List Value) (t : LX) (o0 o1 o2 o3 : Option Value) (w : AH), Ex M_X11_write lv 7 (o0 :: o1 :: o2 :: o3 :: some (.null) :: t) st w = Ex M_X11_write lv 9 (o0 :: o1 :: o2 :: o3 :: some (.null) :: t) (.null :: st) w)
  ∧ (∀ (lv : Nat) (l : LX) (st : List Value) (x : Nat) (w : AH), Ex M_X11_write lv 9 l (.ref x :: st) w = Ex M_X11_write lv 19 l st w)
  ∧ (∀ (lv : Nat) (l : LX) (st : List Value) (w : AH), Ex M_X11_write lv 9 l (.null :: st) w = Ex M_X11_write lv 12 l st w)
  ∧ (∀ (lv : Nat) (st : List Value) (t : LX) (x : Nat) (w : AH), Ex M_X11_write lv 12 (some (.ref x) :: t) st w = Ex M_X11_write lv 13 (some (.ref x) :: t) (.ref x :: st) w)
  ∧ (∀ (lv : Nat) (st : List Value) (t : LX) (w : AH), Ex M_X11_write lv 12 (some (.null) :: t) st w = Ex M_X11_write lv 13 (some (.null) :: t) (.null :: st) w)
  ∧ (∀ (lv : Nat) (l : LX) (st : List Value) (w : AH), Ex M_X11_write lv 13 l st w = Ex M_X11_write lv 15 l (.int (-1000000001) :: st) w)
  ∧ (∀ (lv : Nat) (l : LX) (b : Nat) (a0 : Int32) (w : AH), Ex M_X11_write lv 15 l (.int a0 :: .ref b :: []) w = if clK (hg w b) = 10 then (if (Call M_X11_refuse 60 [.ref b, .int a0] w).isSome = true then Ex M_X11_write lv 18 l (pushR (cV (Call M_X11_refuse 60 [.ref b, .int a0] w)) []) (cW (Call M_X11_refuse 60 [.ref b, .int a0] w) w) else none) else none)
  ∧ (∀ (lv : Nat) (l : LX) (x : Int32) (w : AH), Ex M_X11_write lv 18 l [.int x] w = some (some (.int x), w))
  ∧ (∀ (lv : Nat) (st : List Value) (t : LX) (o0 o1 o2 o3 : Option Value) (x : Nat) (w : AH), Ex M_X11_write lv 19 (o0 :: o1 :: o2 :: o3 :: some (.ref x) :: t) st w = Ex M_X11_write lv 21 (o0 :: o1 :: o2 :: o3 :: some (.ref x) :: t) (.ref x :: st) w)
  ∧ (∀ (lv : Nat) (st : List Value) (t : LX) (o0 o1 o2 o3 : Option Value) (w : AH), Ex M_X11_write lv 19 (o0 :: o1 :: o2 :: o3 :: some (.null) :: t) st w = Ex M_X11_write lv 21 (o0 :: o1 :: o2 :: o3 :: some (.null) :: t) (.null :: st) w)
  ∧ (∀ (lv : Nat) (l : LX) (b : Nat) (w : AH), Ex M_X11_write lv 21 l (.ref b :: []) w = if clK (hg w b) = 7 then (if (Call M_X8_isMissing 60 [.ref b] w).isSome = true then Ex M_X11_write lv 24 l (pushR (cV (Call M_X8_isMissing 60 [.ref b] w)) []) (cW (Call M_X8_isMissing 60 [.ref b] w) w) else none) else none)
  ∧ (∀ (lv : Nat) (l : LX) (st : List Value) (x : Int32) (w : AH), Ex M_X11_write lv 24 l (.int x :: st) w = if x = 0 then Ex M_X11_write lv 34 l st w else Ex M_X11_write lv 27 l st w)
  ∧ (∀ (lv : Nat) (st : List Value) (t : LX) (x : Nat) (w : AH), Ex M_X11_write lv 27 (some (.ref x) :: t) st w = Ex M_X11_write lv 28 (some (.ref x) :: t) (.ref x :: st) w)
  ∧ (∀ (lv : Nat) (st : List Value) (t : LX) (w : AH), Ex M_X11_write lv 27 (some (.null) :: t) st w = Ex M_X11_write lv 28 (some (.null) :: t) (.null :: st) w)
  ∧ (∀ (lv : Nat) (l : LX) (st : List Value) (w : AH), Ex M_X11_write lv 28 l st w = Ex M_X11_write lv 30 l (.int (-1000000002) :: st) w)
  ∧ (∀ (lv : Nat) (l : LX) (b : Nat) (a0 : Int32) (w : AH), Ex M_X11_write lv 30 l (.int a0 :: .ref b :: []) w = if clK (hg w b) = 10 then (if (Call M_X11_refuse 60 [.ref b, .int a0] w).isSome = true then Ex M_X11_write lv 33 l (pushR (cV (Call M_X11_refuse 60 [.ref b, .int a0] w)) []) (cW (Call M_X11_refuse 60 [.ref b, .int a0] w) w) else none) else none)
  ∧ (∀ (lv : Nat) (l : LX) (x : Int32) (w : AH), Ex M_X11_write lv 33 l [.int x] w = some (some (.int x), w))
  ∧ (∀ (lv : Nat) (st : List Value) (t : LX) (o0 o1 o2 o3 : Option Value) (x : Nat) (w : AH), Ex M_X11_write lv 34 (o0 :: o1 :: o2 :: o3 :: some (.ref x) :: t) st w = Ex M_X11_write lv 36 (o0 :: o1 :: o2 :: o3 :: some (.ref x) :: t) (.ref x :: st) w)
  ∧ (∀ (lv : Nat) (st : List Value) (t : LX) (o0 o1 o2 o3 : Option Value) (w : AH), Ex M_X11_write lv 34 (o0 :: o1 :: o2 :: o3 :: some (.null) :: t) st w = Ex M_X11_write lv 36 (o0 :: o1 :: o2 :: o3 :: some (.null) :: t) (.null :: st) w)
  ∧ (∀ (lv : Nat) (st : List Value) (t : LX) (o0 o1 : Option Value) (x : Int32) (w : AH), Ex M_X11_write lv 36 (o0 :: o1 :: some (.int x) :: t) st w = Ex M_X11_write lv 37 (o0 :: o1 :: some (.int x) :: t) (.int x :: st) w)
  ∧ (∀ (lv : Nat) (l : LX) (b : Nat) (a0 : Int32) (w : AH), Ex M_X11_write lv 37 l (.int a0 :: .ref b :: []) w = if clK (hg w b) = 7 then (if (Call M_X8_has 60 [.ref b, .int a0] w).isSome = true then Ex M_X11_write lv 40 l (pushR (cV (Call M_X8_has 60 [.ref b, .int a0] w)) []) (cW (Call M_X8_has 60 [.ref b, .int a0] w) w) else none) else none)
  ∧ (∀ (lv : Nat) (l : LX) (st : List Value) (x : Int32) (w : AH), Ex M_X11_write lv 40 l (.int x :: st) w = if ¬ x = 0 then Ex M_X11_write lv 50 l st w else Ex M_X11_write lv 43 l st w)
  ∧ (∀ (lv : Nat) (st : List Value) (t : LX) (x : Nat) (w : AH), Ex M_X11_write lv 43 (some (.ref x) :: t) st w = Ex M_X11_write lv 44 (some (.ref x) :: t) (.ref x :: st) w)
  ∧ (∀ (lv : Nat) (st : List Value) (t : LX) (w : AH), Ex M_X11_write lv 43 (some (.null) :: t) st w = Ex M_X11_write lv 44 (some (.null) :: t) (.null :: st) w)
  ∧ (∀ (lv : Nat) (l : LX) (st : List Value) (w : AH), Ex M_X11_write lv 44 l st w = Ex M_X11_write lv 46 l (.int (-1000000001) :: st) w)
  ∧ (∀ (lv : Nat) (l : LX) (b : Nat) (a0 : Int32) (w : AH), Ex M_X11_write lv 46 l (.int a0 :: .ref b :: []) w = if clK (hg w b) = 10 then (if (Call M_X11_refuse 60 [.ref b, .int a0] w).isSome = true then Ex M_X11_write lv 49 l (pushR (cV (Call M_X11_refuse 60 [.ref b, .int a0] w)) []) (cW (Call M_X11_refuse 60 [.ref b, .int a0] w) w) else none) else none)
  ∧ (∀ (lv : Nat) (l : LX) (x : Int32) (w : AH), Ex M_X11_write lv 49 l [.int x] w = some (some (.int x), w))
  ∧ (∀ (lv : Nat) (st : List Value) (t : LX) (o0 o1 o2 o3 : Option Value) (x : Nat) (w : AH), Ex M_X11_write lv 50 (o0 :: o1 :: o2 :: o3 :: some (.ref x) :: t) st w = Ex M_X11_write lv 52 (o0 :: o1 :: o2 :: o3 :: some (.ref x) :: t) (.ref x :: st) w)
  ∧ (∀ (lv : Nat) (st : List Value) (t : LX) (o0 o1 o2 o3 : Option Value) (w : AH), Ex M_X11_write lv 50 (o0 :: o1 :: o2 :: o3 :: some (.null) :: t) st w = Ex M_X11_write lv 52 (o0 :: o1 :: o2 :: o3 :: some (.null) :: t) (.null :: st) w)
  ∧ (∀ (lv : Nat) (st : List Value) (t : LX) (o0 o1 : Option Value) (x : Int32) (w : AH), Ex M_X11_write lv 52 (o0 :: o1 :: some (.int x) :: t) st w = Ex M_X11_write lv 53 (o0 :: o1 :: some (.int x) :: t) (.int x :: st) w)
  ∧ (∀ (lv : Nat) (st : List Value) (t : LX) (o0 o1 o2 : Option Value) (x : Int32) (w : AH), Ex M_X11_write lv 53 (o0 :: o1 :: o2 :: some (.int x) :: t) st w = Ex M_X11_write lv 54 (o0 :: o1 :: o2 :: some (.int x) :: t) (.int x :: st) w)
  ∧ (∀ (lv : Nat) (l : LX) (b : Nat) (a0 : Int32) (a1 : Int32) (w : AH), Ex M_X11_write lv 54 l (.int a1 :: .int a0 :: .ref b :: []) w = if clK (hg w b) = 7 then (if (Call M_X8_set 60 [.ref b, .int a0, .int a1] w).isSome = true then Ex M_X11_write lv 57 l (pushR (cV (Call M_X8_set 60 [.ref b, .int a0, .int a1] w)) []) (cW (Call M_X8_set 60 [.ref b, .int a0, .int a1] w) w) else none) else none)
  ∧ (∀ (lv : Nat) (l : LX) (st : List Value) (w : AH), Ex M_X11_write lv 57 l st w = Ex M_X11_write lv 58 l (.int 1 :: st) w)
  ∧ (∀ (lv : Nat) (l : LX) (x : Int32) (w : AH), Ex M_X11_write lv 58 l [.int x] w = some (some (.int x), w)) :=
  ⟨(fun lv st t x w => Ex_M (i := .aload_n 0) (n := 1) (by decide +kernel) rfl rfl rfl),
   (fun lv st t w => Ex_M (i := .aload_n 0) (n := 1) (by decide +kernel) rfl rfl rfl),
   (fun lv st t o0 x w => Ex_M (i := .iload_n 1) (n := 1) (by decide +kernel) rfl rfl rfl),
   (fun lv l b a0 w => Ex_callV (by decide +kernel : decode M_X11_write.2.1 2 = .ok (.invokevirtual 245, 3)) rfl (by rfl : resM (mCn M_X11_write) 245 = some (2, M_X11_sheetOf)) rfl (by rfl) (Nat.le_of_ble_eq_true rfl) (by decide +kernel) (sLv_lt (by decide +kernel))),
   (fun lv l st x w => Ex_M (i := .astore 4) (n := 2) (by decide +kernel) rfl rfl rfl),
   (fun lv l st w => Ex_M (i := .astore 4) (n := 2) (by decide +kernel) rfl rfl rfl),
   (fun lv st t o0 o1 o2 o3 x w => Ex_M (i := .aload 4) (n := 2) (by decide +kernel) rfl rfl rfl),
   (fun lv st t o0 o1 o2 o3 w => Ex_M (i := .aload 4) (n := 2) (by decide +kernel) rfl rfl rfl),
   (fun lv l st x w => Ex_ifnonnull_r (by decide +kernel : decode M_X11_write.2.1 9 = .ok (.ifnonnull 10, 3)) rfl),
   (fun lv l st w => Ex_ifnonnull_n (by decide +kernel : decode M_X11_write.2.1 9 = .ok (.ifnonnull 10, 3)) rfl),
   (fun lv st t x w => Ex_M (i := .aload_n 0) (n := 1) (by decide +kernel) rfl rfl rfl),
   (fun lv st t w => Ex_M (i := .aload_n 0) (n := 1) (by decide +kernel) rfl rfl rfl),
   (fun lv l st w => Ex_ldcI (by decide +kernel : decode M_X11_write.2.1 13 = .ok (.ldc 73, 2)) rfl (by decide +kernel)),
   (fun lv l b a0 w => Ex_callV (by decide +kernel : decode M_X11_write.2.1 15 = .ok (.invokevirtual 74, 3)) rfl (by rfl : resM (mCn M_X11_write) 74 = some (2, M_X11_refuse)) rfl (by rfl) (Nat.le_of_ble_eq_true rfl) (by decide +kernel) (sLv_lt (by decide +kernel))),
   (fun lv l x w => Ex_R (i := .ireturn) (n := 1) (by decide +kernel) rfl rfl rfl rfl rfl),
   (fun lv st t o0 o1 o2 o3 x w => Ex_M (i := .aload 4) (n := 2) (by decide +kernel) rfl rfl rfl),
   (fun lv st t o0 o1 o2 o3 w => Ex_M (i := .aload 4) (n := 2) (by decide +kernel) rfl rfl rfl),
   (fun lv l b w => Ex_callV (by decide +kernel : decode M_X11_write.2.1 21 = .ok (.invokevirtual 305, 3)) rfl (by rfl : resM (mCn M_X11_write) 305 = some (2, M_X8_isMissing)) rfl (by rfl) (Nat.le_of_ble_eq_true rfl) (by decide +kernel) (sLv_lt (by decide +kernel))),
   (fun lv l st x w => Ex_if_eq (by decide +kernel : decode M_X11_write.2.1 24 = .ok (.ifCond .eq 10, 3)) rfl rfl),
   (fun lv st t x w => Ex_M (i := .aload_n 0) (n := 1) (by decide +kernel) rfl rfl rfl),
   (fun lv st t w => Ex_M (i := .aload_n 0) (n := 1) (by decide +kernel) rfl rfl rfl),
   (fun lv l st w => Ex_ldcI (by decide +kernel : decode M_X11_write.2.1 28 = .ok (.ldc 218, 2)) rfl (by decide +kernel)),
   (fun lv l b a0 w => Ex_callV (by decide +kernel : decode M_X11_write.2.1 30 = .ok (.invokevirtual 74, 3)) rfl (by rfl : resM (mCn M_X11_write) 74 = some (2, M_X11_refuse)) rfl (by rfl) (Nat.le_of_ble_eq_true rfl) (by decide +kernel) (sLv_lt (by decide +kernel))),
   (fun lv l x w => Ex_R (i := .ireturn) (n := 1) (by decide +kernel) rfl rfl rfl rfl rfl),
   (fun lv st t o0 o1 o2 o3 x w => Ex_M (i := .aload 4) (n := 2) (by decide +kernel) rfl rfl rfl),
   (fun lv st t o0 o1 o2 o3 w => Ex_M (i := .aload 4) (n := 2) (by decide +kernel) rfl rfl rfl),
   (fun lv st t o0 o1 x w => Ex_M (i := .iload_n 2) (n := 1) (by decide +kernel) rfl rfl rfl),
   (fun lv l b a0 w => Ex_callV (by decide +kernel : decode M_X11_write.2.1 37 = .ok (.invokevirtual 308, 3)) rfl (by rfl : resM (mCn M_X11_write) 308 = some (2, M_X8_has)) rfl (by rfl) (Nat.le_of_ble_eq_true rfl) (by decide +kernel) (sLv_lt (by decide +kernel))),
   (fun lv l st x w => Ex_if_ne (by decide +kernel : decode M_X11_write.2.1 40 = .ok (.ifCond .ne 10, 3)) rfl rfl),
   (fun lv st t x w => Ex_M (i := .aload_n 0) (n := 1) (by decide +kernel) rfl rfl rfl),
   (fun lv st t w => Ex_M (i := .aload_n 0) (n := 1) (by decide +kernel) rfl rfl rfl),
   (fun lv l st w => Ex_ldcI (by decide +kernel : decode M_X11_write.2.1 44 = .ok (.ldc 73, 2)) rfl (by decide +kernel)),
   (fun lv l b a0 w => Ex_callV (by decide +kernel : decode M_X11_write.2.1 46 = .ok (.invokevirtual 74, 3)) rfl (by rfl : resM (mCn M_X11_write) 74 = some (2, M_X11_refuse)) rfl (by rfl) (Nat.le_of_ble_eq_true rfl) (by decide +kernel) (sLv_lt (by decide +kernel))),
   (fun lv l x w => Ex_R (i := .ireturn) (n := 1) (by decide +kernel) rfl rfl rfl rfl rfl),
   (fun lv st t o0 o1 o2 o3 x w => Ex_M (i := .aload 4) (n := 2) (by decide +kernel) rfl rfl rfl),
   (fun lv st t o0 o1 o2 o3 w => Ex_M (i := .aload 4) (n := 2) (by decide +kernel) rfl rfl rfl),
   (fun lv st t o0 o1 x w => Ex_M (i := .iload_n 2) (n := 1) (by decide +kernel) rfl rfl rfl),
   (fun lv st t o0 o1 o2 x w => Ex_M (i := .iload_n 3) (n := 1) (by decide +kernel) rfl rfl rfl),
   (fun lv l b a0 a1 w => Ex_callV (by decide +kernel : decode M_X11_write.2.1 54 = .ok (.invokevirtual 309, 3)) rfl (by rfl : resM (mCn M_X11_write) 309 = some (2, M_X8_set)) rfl (by rfl) (Nat.le_of_ble_eq_true rfl) (by decide +kernel) (sLv_lt (by decide +kernel))),
   (fun lv l st w => Ex_A (i := .iconst 1) (n := 1) (by decide +kernel) rfl rfl),
   (fun lv l x w => Ex_R (i := .ireturn) (n := 1) (by decide +kernel) rfl rfl rfl rfl rfl)⟩
set_option maxRecDepth 20000 in
set_option maxHeartbeats 4000000 in
theorem R_X11_move_p0 : (∀ (lv : Nat) (st : List Value) (t : LX) (x : Nat) (w : AH), Ex M_X11_move lv 0 (some (.ref x) :: t) st w = Ex M_X11_move lv 1 (some (.ref x) :: t) (.ref x :: st) w)
  ∧ (∀ (lv : Nat) (st : List Value) (t : LX) (w : AH), Ex M_X11_move lv 0 (some (.null) :: t) st w = Ex M_X11_move lv 1 (some (.null) :: t) (.null :: st) w)
  ∧ (∀ (lv : Nat) (st : List Value) (t : LX) (o0 : Option Value) (x : Int32) (w : AH), Ex M_X11_move lv 1 (o0 :: some (.int x) :: t) st w = Ex M_X11_move lv 2 (o0 :: some (.int x) :: t) (.int x :: st) w)
  ∧ (∀ (lv : Nat) (l : LX) (b : Nat) (a0 : Int32) (w : AH), Ex M_X11_move lv 2 l (.int a0 :: .ref b :: []) w = if clK (hg w b) = 10 then (if (Call M_X11_sheetOf 60 [.ref b, .int a0] w).isSome = true then Ex M_X11_move lv 5 l (pushR (cV (Call M_X11_sheetOf 60 [.ref b, .int a0] w)) []) (cW (Call M_X11_sheetOf 60 [.ref b, .int a0] w) w) else none) else none)
  ∧ (∀ (lv : Nat) (l : LX) (st : List Value) (x : Nat) (w : AH), Ex M_X11_move lv 5 l (.ref x :: st) w = Ex M_X11_move lv 7 (ls1 l 6 (.ref x)) st w)
  ∧ (∀ (lv : Nat) (l : LX) (st : List Value) (w : AH), Ex M_X11_move lv 5 l (.null :: st) w = Ex M_X11_move lv 7 (ls1 l 6 (.null)) st w)
  ∧ (∀ (lv : Nat) (st : List Value) (t : LX) (x : Nat) (w : AH), Ex M_X11_move lv 7 (some (.ref x) :: t) st w = Ex M_X11_move lv 8 (some (.ref x) :: t) (.ref x :: st) w)
  ∧ (∀ (lv : Nat) (st : List Value) (t : LX) (w : AH), Ex M_X11_move lv 7 (some (.null) :: t) st w = Ex M_X11_move lv 8 (some (.null) :: t) (.null :: st) w)
  ∧ (∀ (lv : Nat) (st : List Value) (t : LX) (o0 o1 o2 : Option Value) (x : Int32) (w : AH), Ex M_X11_move lv 8 (o0 :: o1 :: o2 :: some (.int x) :: t) st w = Ex M_X11_move lv 9 (o0 :: o1 :: o2 :: some (.int x) :: t) (.int x :: st) w)
  ∧ (∀ (lv : Nat) (l : LX) (b : Nat) (a0 : Int32) (w : AH), Ex M_X11_move lv 9 l (.int a0 :: .ref b :: []) w = if clK (hg w b) = 10 then (if (Call M_X11_sheetOf 60 [.ref b, .int a0] w).isSome = true then Ex M_X11_move lv 12 l (pushR (cV (Call M_X11_sheetOf 60 [.ref b, .int a0] w)) []) (cW (Call M_X11_sheetOf 60 [.ref b, .int a0] w) w) else none) else none)
  ∧ (∀ (lv : Nat) (l : LX) (st : List Value) (x : Nat) (w : AH), Ex M_X11_move lv 12 l (.ref x :: st) w = Ex M_X11_move lv 14 (ls1 l 7 (.ref x)) st w)
  ∧ (∀ (lv : Nat) (l : LX) (st : List Value) (w : AH), Ex M_X11_move lv 12 l (.null :: st) w = Ex M_X11_move lv 14 (ls1 l 7 (.null)) st w)
  ∧ (∀ (lv : Nat) (st : List Value) (t : LX) (o0 o1 o2 o3 o4 o5 : Option Value) (x : Nat) (w : AH), Ex M_X11_move lv 14 (o0 :: o1 :: o2 :: o3 :: o4 :: o5 :: some (.ref x) :: t) st w = Ex M_X11_move lv 16 (o0 :: o1 :: o2 :: o3 :: o4 :: o5 :: some (.ref x) :: t) (.ref x :: st) w)
  ∧ (∀ (lv : Nat) (st : List Value) (t : LX) (o0 o1 o2 o3 o4 o5 : Option Value) (w : AH), Ex M_X11_move lv 14 (o0 :: o1 :: o2 :: o3 :: o4 :: o5 :: some (.null) :: t) st w = Ex M_X11_move lv 16 (o0 :: o1 :: o2 :: o3 :: o4 :: o5 :: some (.null) :: t) (.null :: st) w)
  ∧ (∀ (lv : Nat) (l : LX) (st : List Value) (x : Nat) (w : AH), Ex M_X11_move lv 16 l (.ref x :: st) w = Ex M_X11_move lv 19 l st w)
  ∧ (∀ (lv : Nat) (l : LX) (st : List Value) (w : AH), Ex M_X11_move lv 16 l (.null :: st) w = Ex M_X11_move lv 24 l st w)
  ∧ (∀ (lv : Nat) (st : List Value) (t : LX) (o0 o1 o2 o3 o4 o5 o6 : Option Value) (x : Nat) (w : AH), Ex M_X11_move lv 19 (o0 :: o1 :: o2 :: o3 :: o4 :: o5 :: o6 :: some (.ref x) :: t) st w = Ex M_X11_move lv 21 (o0 :: o1 :: o2 :: o3 :: o4 :: o5 :: o6 :: some (.ref x) :: t) (.ref x :: st) w)
  ∧ (∀ (lv : Nat) (st : List Value) (t : LX) (o0 o1 o2 o3 o4 o5 o6 : Option Value) (w : AH), Ex M_X11_move lv 19 (o0 :: o1 :: o2 :: o3 :: o4 :: o5 :: o6 :: some (.null) :: t) st w = Ex M_X11_move lv 21 (o0 :: o1 :: o2 :: o3 :: o4 :: o5 :: o6 :: some (.null) :: t) (.null :: st) w)
  ∧ (∀ (lv : Nat) (l : LX) (st : List Value) (x : Nat) (w : AH), Ex M_X11_move lv 21 l (.ref x :: st) w = Ex M_X11_move lv 31 l st w)
  ∧ (∀ (lv : Nat) (l : LX) (st : List Value) (w : AH), Ex M_X11_move lv 21 l (.null :: st) w = Ex M_X11_move lv 24 l st w)
  ∧ (∀ (lv : Nat) (st : List Value) (t : LX) (x : Nat) (w : AH), Ex M_X11_move lv 24 (some (.ref x) :: t) st w = Ex M_X11_move lv 25 (some (.ref x) :: t) (.ref x :: st) w)
  ∧ (∀ (lv : Nat) (st : List Value) (t : LX) (w : AH), Ex M_X11_move lv 24 (some (.null) :: t) st w = Ex M_X11_move lv 25 (some (.null) :: t) (.null :: st) w)
  ∧ (∀ (lv : Nat) (l : LX) (st : List Value) (w : AH), Ex M_X11_move lv 25 l st w = Ex M_X11_move lv 27 l (.int (-1000000001) :: st) w)
  ∧ (∀ (lv : Nat) (l : LX) (b : Nat) (a0 : Int32) (w : AH), Ex M_X11_move lv 27 l (.int a0 :: .ref b :: []) w = if clK (hg w b) = 10 then (if (Call M_X11_refuse 60 [.ref b, .int a0] w).isSome = true then Ex M_X11_move lv 30 l (pushR (cV (Call M_X11_refuse 60 [.ref b, .int a0] w)) []) (cW (Call M_X11_refuse 60 [.ref b, .int a0] w) w) else none) else none)
  ∧ (∀ (lv : Nat) (l : LX) (x : Int32) (w : AH), Ex M_X11_move lv 30 l [.int x] w = some (some (.int x), w))
  ∧ (∀ (lv : Nat) (st : List Value) (t : LX) (o0 o1 o2 o3 o4 o5 : Option Value) (x : Nat) (w : AH), Ex M_X11_move lv 31 (o0 :: o1 :: o2 :: o3 :: o4 :: o5 :: some (.ref x) :: t) st w = Ex M_X11_move lv 33 (o0 :: o1 :: o2 :: o3 :: o4 :: o5 :: some (.ref x) :: t) (.ref x :: st) w)
  ∧ (∀ (lv : Nat) (st : List Value) (t : LX) (o0 o1 o2 o3 o4 o5 : Option Value) (w : AH), Ex M_X11_move lv 31 (o0 :: o1 :: o2 :: o3 :: o4 :: o5 :: some (.null) :: t) st w = Ex M_X11_move lv 33 (o0 :: o1 :: o2 :: o3 :: o4 :: o5 :: some (.null) :: t) (.null :: st) w)
  ∧ (∀ (lv : Nat) (l : LX) (b : Nat) (w : AH), Ex M_X11_move lv 33 l (.ref b :: []) w = if clK (hg w b) = 7 then (if (Call M_X8_isMissing 60 [.ref b] w).isSome = true then Ex M_X11_move lv 36 l (pushR (cV (Call M_X8_isMissing 60 [.ref b] w)) []) (cW (Call M_X8_isMissing 60 [.ref b] w) w) else none) else none)
  ∧ (∀ (lv : Nat) (l : LX) (st : List Value) (x : Int32) (w : AH), Ex M_X11_move lv 36 l (.int x :: st) w = if ¬ x = 0 then Ex M_X11_move lv 47 l st w else Ex M_X11_move lv 39 l st w)
  ∧ (∀ (lv : Nat) (st : List Value) (t : LX) (o0 o1 o2 o3 o4 o5 o6 : Option Value) (x : Nat) (w : AH), Ex M_X11_move lv 39 (o0 :: o1 :: o2 :: o3 :: o4 :: o5 :: o6 :: some (.ref x) :: t) st w = Ex M_X11_move lv 41 (o0 :: o1 :: o2 :: o3 :: o4 :: o5 :: o6 :: some (.ref x) :: t) (.ref x :: st) w)
  ∧ (∀ (lv : Nat) (st : List Value) (t : LX) (o0 o1 o2 o3 o4 o5 o6 : Option Value) (w : AH), Ex M_X11_move lv 39 (o0 :: o1 :: o2 :: o3 :: o4 :: o5 :: o6 :: some (.null) :: t) st w = Ex M_X11_move lv 41 (o0 :: o1 :: o2 :: o3 :: o4 :: o5 :: o6 :: some (.null) :: t) (.null :: st) w)
  ∧ (∀ (lv : Nat) (l : LX) (b : Nat) (w : AH), Ex M_X11_move lv 41 l (.ref b :: []) w = if clK (hg w b) = 7 then (if (Call M_X8_isMissing 60 [.ref b] w).isSome = true then Ex M_X11_move lv 44 l (pushR (cV (Call M_X8_isMissing 60 [.ref b] w)) []) (cW (Call M_X8_isMissing 60 [.ref b] w) w) else none) else none)
  ∧ (∀ (lv : Nat) (l : LX) (st : List Value) (x : Int32) (w : AH), Ex M_X11_move lv 44 l (.int x :: st) w = if x = 0 then Ex M_X11_move lv 54 l st w else Ex M_X11_move lv 47 l st w)
  ∧ (∀ (lv : Nat) (st : List Value) (t : LX) (x : Nat) (w : AH), Ex M_X11_move lv 47 (some (.ref x) :: t) st w = Ex M_X11_move lv 48 (some (.ref x) :: t) (.ref x :: st) w)
  ∧ (∀ (lv : Nat) (st : List Value) (t : LX) (w : AH), Ex M_X11_move lv 47 (some (.null) :: t) st w = Ex M_X11_move lv 48 (some (.null) :: t) (.null :: st) w)
  ∧ (∀ (lv : Nat) (l : LX) (st : List Value) (w : AH), Ex M_X11_move lv 48 l st w = Ex M_X11_move lv 50 l (.int (-1000000002) :: st) w)
  ∧ (∀ (lv : Nat) (l : LX) (b : Nat) (a0 : Int32) (w : AH), Ex M_X11_move lv 50 l (.int a0 :: .ref b :: []) w = if clK (hg w b) = 10 then (if (Call M_X11_refuse 60 [.ref b, .int a0] w).isSome = true then Ex M_X11_move lv 53 l (pushR (cV (Call M_X11_refuse 60 [.ref b, .int a0] w)) []) (cW (Call M_X11_refuse 60 [.ref b, .int a0] w) w) else none) else none)
  ∧ (∀ (lv : Nat) (l : LX) (x : Int32) (w : AH), Ex M_X11_move lv 53 l [.int x] w = some (some (.int x), w))
  ∧ (∀ (lv : Nat) (st : List Value) (t : LX) (o0 o1 o2 o3 o4 o5 : Option Value) (x : Nat) (w : AH), Ex M_X11_move lv 54 (o0 :: o1 :: o2 :: o3 :: o4 :: o5 :: some (.ref x) :: t) st w = Ex M_X11_move lv 56 (o0 :: o1 :: o2 :: o3 :: o4 :: o5 :: some (.ref x) :: t) (.ref x :: st) w)
  ∧ (∀ (lv : Nat) (st : List Value) (t : LX) (o0 o1 o2 o3 o4 o5 : Option Value) (w : AH), Ex M_X11_move lv 54 (o0 :: o1 :: o2 :: o3 :: o4 :: o5 :: some (.null) :: t) st w = Ex M_X11_move lv 56 (o0 :: o1 :: o2 :: o3 :: o4 :: o5 :: some (.null) :: t) (.null :: st) w)
  ∧ (∀ (lv : Nat) (l : LX) (st : List Value) (a : Nat) (w : AH), Ex M_X11_move lv 56 l (.ref a :: st) w = if (gf (hg w a) 7 1).isSome = true then Ex M_X11_move lv 59 l (vV (gf (hg w a) 7 1) :: st) w else none)
  ∧ (∀ (lv : Nat) (st : List Value) (t : LX) (o0 o1 o2 o3 o4 o5 o6 : Option Value) (x : Nat) (w : AH), Ex M_X11_move lv 59 (o0 :: o1 :: o2 :: o3 :: o4 :: o5 :: o6 :: some (.ref x) :: t) st w = Ex M_X11_move lv 61 (o0 :: o1 :: o2 :: o3 :: o4 :: o5 :: o6 :: some (.ref x) :: t) (.ref x :: st) w)
  ∧ (∀ (lv : Nat) (st : List Value) (t : LX) (o0 o1 o2 o3 o4 o5 o6 : Option Value) (w : AH), Ex M_X11_move lv 59 (o0 :: o1 :: o2 :: o3 :: o4 :: o5 :: o6 :: some (.null) :: t) st w = Ex M_X11_move lv 61 (o0 :: o1 :: o2 :: o3 :: o4 :: o5 :: o6 :: some (.null) :: t) (.null :: st) w)
  ∧ (∀ (lv : Nat) (l : LX) (st : List Value) (a : Nat) (w : AH), Ex M_X11_move lv 61 l (.ref a :: st) w = if (gf (hg w a) 7 1).isSome = true then Ex M_X11_move lv 64 l (vV (gf (hg w a) 7 1) :: st) w else none)
  ∧ (∀ (lv : Nat) (l : LX) (st : List Value) (x y : Int32) (w : AH), Ex M_X11_move lv 64 l (.int y :: .int x :: st) w = if x = y then Ex M_X11_move lv 74 l st w else Ex M_X11_move lv 67 l st w)
  ∧ (∀ (lv : Nat) (st : List Value) (t : LX) (x : Nat) (w : AH), Ex M_X11_move lv 67 (some (.ref x) :: t) st w = Ex M_X11_move lv 68 (some (.ref x) :: t) (.ref x :: st) w)
  ∧ (∀ (lv : Nat) (st : List Value) (t : LX) (w : AH), Ex M_X11_move lv 67 (some (.null) :: t) st w = Ex M_X11_move lv 68 (some (.null) :: t) (.null :: st) w)
  ∧ (∀ (lv : Nat) (l : LX) (st : List Value) (w : AH), Ex M_X11_move lv 68 l st w = Ex M_X11_move lv 70 l (.int (-1000000005) :: st) w)
  ∧ (∀ (lv : Nat) (l : LX) (b : Nat) (a0 : Int32) (w : AH), Ex M_X11_move lv 70 l (.int a0 :: .ref b :: []) w = if clK (hg w b) = 10 then (if (Call M_X11_refuse 60 [.ref b, .int a0] w).isSome = true then Ex M_X11_move lv 73 l (pushR (cV (Call M_X11_refuse 60 [.ref b, .int a0] w)) []) (cW (Call M_X11_refuse 60 [.ref b, .int a0] w) w) else none) else none)
  ∧ (∀ (lv : Nat) (l : LX) (x : Int32) (w : AH), Ex M_X11_move lv 73 l [.int x] w = some (some (.int x), w))
  ∧ (∀ (lv : Nat) (st : List Value) (t : LX) (o0 o1 o2 o3 o4 o5 : Option Value) (x : Nat) (w : AH), Ex M_X11_move lv 74 (o0 :: o1 :: o2 :: o3 :: o4 :: o5 :: some (.ref x) :: t) st w = Ex M_X11_move lv 76 (o0 :: o1 :: o2 :: o3 :: o4 :: o5 :: some (.ref x) :: t) (.ref x :: st) w)
  ∧ (∀ (lv : Nat) (st : List Value) (t : LX) (o0 o1 o2 o3 o4 o5 : Option Value) (w : AH), Ex M_X11_move lv 74 (o0 :: o1 :: o2 :: o3 :: o4 :: o5 :: some (.null) :: t) st w = Ex M_X11_move lv 76 (o0 :: o1 :: o2 :: o3 :: o4 :: o5 :: some (.null) :: t) (.null :: st) w)
  ∧ (∀ (lv : Nat) (st : List Value) (t : LX) (o0 o1 : Option Value) (x : Int32) (w : AH), Ex M_X11_move lv 76 (o0 :: o1 :: some (.int x) :: t) st w = Ex M_X11_move lv 77 (o0 :: o1 :: some (.int x) :: t) (.int x :: st) w)
  ∧ (∀ (lv : Nat) (st : List Value) (t : LX) (o0 o1 o2 o3 o4 : Option Value) (x : Int32) (w : AH), Ex M_X11_move lv 77 (o0 :: o1 :: o2 :: o3 :: o4 :: some (.int x) :: t) st w = Ex M_X11_move lv 79 (o0 :: o1 :: o2 :: o3 :: o4 :: some (.int x) :: t) (.int x :: st) w)
  ∧ (∀ (lv : Nat) (l : LX) (b : Nat) (a0 : Int32) (a1 : Int32) (w : AH), Ex M_X11_move lv 79 l (.int a1 :: .int a0 :: .ref b :: []) w = if clK (hg w b) = 7 then (if (Call M_X8_hasAll 60 [.ref b, .int a0, .int a1] w).isSome = true then Ex M_X11_move lv 82 l (pushR (cV (Call M_X8_hasAll 60 [.ref b, .int a0, .int a1] w)) []) (cW (Call M_X8_hasAll 60 [.ref b, .int a0, .int a1] w) w) else none) else none)
  ∧ (∀ (lv : Nat) (l : LX) (st : List Value) (x : Int32) (w : AH), Ex M_X11_move lv 82 l (.int x :: st) w = if x = 0 then Ex M_X11_move lv 97 l st w else Ex M_X11_move lv 85 l st w)
  ∧ (∀ (lv : Nat) (st : List Value) (t : LX) (o0 o1 o2 o3 o4 o5 o6 : Option Value) (x : Nat) (w : AH), Ex M_X11_move lv 85 (o0 :: o1 :: o2 :: o3 :: o4 :: o5 :: o6 :: some (.ref x) :: t) st w = Ex M_X11_move lv 87 (o0 :: o1 :: o2 :: o3 :: o4 :: o5 :: o6 :: some (.ref x) :: t) (.ref x :: st) w)
  ∧ (∀ (lv : Nat) (st : List Value) (t : LX) (o0 o1 o2 o3 o4 o5 o6 : Option Value) (w : AH), Ex M_X11_move lv 85 (o0 :: o1 :: o2 :: o3 :: o4 :: o5 :: o6 :: some (.null) :: t) st w = Ex M_X11_move lv 87 (o0 :: o1 :: o2 :: o3 :: o4 :: o5 :: o6 :: some (.null) :: t) (.null :: st) w)
  ∧ (∀ (lv : Nat) (st : List Value) (t : LX) (o0 o1 o2 o3 : Option Value) (x : Int32) (w : AH), Ex M_X11_move lv 87 (o0 :: o1 :: o2 :: o3 :: some (.int x) :: t) st w = Ex M_X11_move lv 89 (o0 :: o1 :: o2 :: o3 :: some (.int x) :: t) (.int x :: st) w)
  ∧ (∀ (lv : Nat) (st : List Value) (t : LX) (o0 o1 o2 o3 o4 : Option Value) (x : Int32) (w : AH), Ex M_X11_move lv 89 (o0 :: o1 :: o2 :: o3 :: o4 :: some (.int x) :: t) st w = Ex M_X11_move lv 91 (o0 :: o1 :: o2 :: o3 :: o4 :: some (.int x) :: t) (.int x :: st) w) :=
  ⟨(fun lv st t x w => Ex_M (i := .aload_n 0) (n := 1) (by decide +kernel) rfl rfl rfl),
   (fun lv st t w => Ex_M (i := .aload_n 0) (n := 1) (by decide +kernel) rfl rfl rfl),
   (fun lv st t o0 x w => Ex_M (i := .iload_n 1) (n := 1) (by decide +kernel) rfl rfl rfl),
   (fun lv l b a0 w => Ex_callV (by decide +kernel : decode M_X11_move.2.1 2 = .ok (.invokevirtual 245, 3)) rfl (by rfl : resM (mCn M_X11_move) 245 = some (2, M_X11_sheetOf)) rfl (by rfl) (Nat.le_of_ble_eq_true rfl) (by decide +kernel) (sLv_lt (by decide +kernel))),
   (fun lv l st x w => Ex_M (i := .astore 6) (n := 2) (by decide +kernel) rfl rfl rfl),
   (fun lv l st w => Ex_M (i := .astore 6) (n := 2) (by decide +kernel) rfl rfl rfl),
   (fun lv st t x w => Ex_M (i := .aload_n 0) (n := 1) (by decide +kernel) rfl rfl rfl),
   (fun lv st t w => Ex_M (i := .aload_n 0) (n := 1) (by decide +kernel) rfl rfl rfl),
   (fun lv st t o0 o1 o2 x w => Ex_M (i := .iload_n 3) (n := 1) (by decide +kernel) rfl rfl rfl),
   (fun lv l b a0 w => Ex_callV (by decide +kernel : decode M_X11_move.2.1 9 = .ok (.invokevirtual 245, 3)) rfl (by rfl : resM (mCn M_X11_move) 245 = some (2, M_X11_sheetOf)) rfl (by rfl) (Nat.le_of_ble_eq_true rfl) (by decide +kernel) (sLv_lt (by decide +kernel))),
   (fun lv l st x w => Ex_M (i := .astore 7) (n := 2) (by decide +kernel) rfl rfl rfl),
   (fun lv l st w => Ex_M (i := .astore 7) (n := 2) (by decide +kernel) rfl rfl rfl),
   (fun lv st t o0 o1 o2 o3 o4 o5 x w => Ex_M (i := .aload 6) (n := 2) (by decide +kernel) rfl rfl rfl),
   (fun lv st t o0 o1 o2 o3 o4 o5 w => Ex_M (i := .aload 6) (n := 2) (by decide +kernel) rfl rfl rfl),
   (fun lv l st x w => Ex_ifnull_r (by decide +kernel : decode M_X11_move.2.1 16 = .ok (.ifnull 8, 3)) rfl),
   (fun lv l st w => Ex_ifnull_n (by decide +kernel : decode M_X11_move.2.1 16 = .ok (.ifnull 8, 3)) rfl),
   (fun lv st t o0 o1 o2 o3 o4 o5 o6 x w => Ex_M (i := .aload 7) (n := 2) (by decide +kernel) rfl rfl rfl),
   (fun lv st t o0 o1 o2 o3 o4 o5 o6 w => Ex_M (i := .aload 7) (n := 2) (by decide +kernel) rfl rfl rfl),
   (fun lv l st x w => Ex_ifnonnull_r (by decide +kernel : decode M_X11_move.2.1 21 = .ok (.ifnonnull 10, 3)) rfl),
   (fun lv l st w => Ex_ifnonnull_n (by decide +kernel : decode M_X11_move.2.1 21 = .ok (.ifnonnull 10, 3)) rfl),
   (fun lv st t x w => Ex_M (i := .aload_n 0) (n := 1) (by decide +kernel) rfl rfl rfl),
   (fun lv st t w => Ex_M (i := .aload_n 0) (n := 1) (by decide +kernel) rfl rfl rfl),
   (fun lv l st w => Ex_ldcI (by decide +kernel : decode M_X11_move.2.1 25 = .ok (.ldc 73, 2)) rfl (by decide +kernel)),
   (fun lv l b a0 w => Ex_callV (by decide +kernel : decode M_X11_move.2.1 27 = .ok (.invokevirtual 74, 3)) rfl (by rfl : resM (mCn M_X11_move) 74 = some (2, M_X11_refuse)) rfl (by rfl) (Nat.le_of_ble_eq_true rfl) (by decide +kernel) (sLv_lt (by decide +kernel))),
   (fun lv l x w => Ex_R (i := .ireturn) (n := 1) (by decide +kernel) rfl rfl rfl rfl rfl),
   (fun lv st t o0 o1 o2 o3 o4 o5 x w => Ex_M (i := .aload 6) (n := 2) (by decide +kernel) rfl rfl rfl),
   (fun lv st t o0 o1 o2 o3 o4 o5 w => Ex_M (i := .aload 6) (n := 2) (by decide +kernel) rfl rfl rfl),
   (fun lv l b w => Ex_callV (by decide +kernel : decode M_X11_move.2.1 33 = .ok (.invokevirtual 305, 3)) rfl (by rfl : resM (mCn M_X11_move) 305 = some (2, M_X8_isMissing)) rfl (by rfl) (Nat.le_of_ble_eq_true rfl) (by decide +kernel) (sLv_lt (by decide +kernel))),
   (fun lv l st x w => Ex_if_ne (by decide +kernel : decode M_X11_move.2.1 36 = .ok (.ifCond .ne 11, 3)) rfl rfl),
   (fun lv st t o0 o1 o2 o3 o4 o5 o6 x w => Ex_M (i := .aload 7) (n := 2) (by decide +kernel) rfl rfl rfl),
   (fun lv st t o0 o1 o2 o3 o4 o5 o6 w => Ex_M (i := .aload 7) (n := 2) (by decide +kernel) rfl rfl rfl),
   (fun lv l b w => Ex_callV (by decide +kernel : decode M_X11_move.2.1 41 = .ok (.invokevirtual 305, 3)) rfl (by rfl : resM (mCn M_X11_move) 305 = some (2, M_X8_isMissing)) rfl (by rfl) (Nat.le_of_ble_eq_true rfl) (by decide +kernel) (sLv_lt (by decide +kernel))),
   (fun lv l st x w => Ex_if_eq (by decide +kernel : decode M_X11_move.2.1 44 = .ok (.ifCond .eq 10, 3)) rfl rfl),
   (fun lv st t x w => Ex_M (i := .aload_n 0) (n := 1) (by decide +kernel) rfl rfl rfl),
   (fun lv st t w => Ex_M (i := .aload_n 0) (n := 1) (by decide +kernel) rfl rfl rfl),
   (fun lv l st w => Ex_ldcI (by decide +kernel : decode M_X11_move.2.1 48 = .ok (.ldc 218, 2)) rfl (by decide +kernel)),
   (fun lv l b a0 w => Ex_callV (by decide +kernel : decode M_X11_move.2.1 50 = .ok (.invokevirtual 74, 3)) rfl (by rfl : resM (mCn M_X11_move) 74 = some (2, M_X11_refuse)) rfl (by rfl) (Nat.le_of_ble_eq_true rfl) (by decide +kernel) (sLv_lt (by decide +kernel))),
   (fun lv l x w => Ex_R (i := .ireturn) (n := 1) (by decide +kernel) rfl rfl rfl rfl rfl),
   (fun lv st t o0 o1 o2 o3 o4 o5 x w => Ex_M (i := .aload 6) (n := 2) (by decide +kernel) rfl rfl rfl),
   (fun lv st t o0 o1 o2 o3 o4 o5 w => Ex_M (i := .aload 6) (n := 2) (by decide +kernel) rfl rfl rfl),
   (fun lv l st a w => Ex_getf (by decide +kernel : decode M_X11_move.2.1 56 = .ok (.getfield 312, 3)) rfl (by decide +kernel : resF (mCn M_X11_move) 312 = some (7, 1, .int, false))),
   (fun lv st t o0 o1 o2 o3 o4 o5 o6 x w => Ex_M (i := .aload 7) (n := 2) (by decide +kernel) rfl rfl rfl),
   (fun lv st t o0 o1 o2 o3 o4 o5 o6 w => Ex_M (i := .aload 7) (n := 2) (by decide +kernel) rfl rfl rfl),
   (fun lv l st a w => Ex_getf (by decide +kernel : decode M_X11_move.2.1 61 = .ok (.getfield 312, 3)) rfl (by decide +kernel : resF (mCn M_X11_move) 312 = some (7, 1, .int, false))),
   (fun lv l st x y w => Ex_icmp_eq (by decide +kernel : decode M_X11_move.2.1 64 = .ok (.if_icmp .eq 10, 3)) rfl rfl),
   (fun lv st t x w => Ex_M (i := .aload_n 0) (n := 1) (by decide +kernel) rfl rfl rfl),
   (fun lv st t w => Ex_M (i := .aload_n 0) (n := 1) (by decide +kernel) rfl rfl rfl),
   (fun lv l st w => Ex_ldcI (by decide +kernel : decode M_X11_move.2.1 68 = .ok (.ldc 161, 2)) rfl (by decide +kernel)),
   (fun lv l b a0 w => Ex_callV (by decide +kernel : decode M_X11_move.2.1 70 = .ok (.invokevirtual 74, 3)) rfl (by rfl : resM (mCn M_X11_move) 74 = some (2, M_X11_refuse)) rfl (by rfl) (Nat.le_of_ble_eq_true rfl) (by decide +kernel) (sLv_lt (by decide +kernel))),
   (fun lv l x w => Ex_R (i := .ireturn) (n := 1) (by decide +kernel) rfl rfl rfl rfl rfl),
   (fun lv st t o0 o1 o2 o3 o4 o5 x w => Ex_M (i := .aload 6) (n := 2) (by decide +kernel) rfl rfl rfl),
   (fun lv st t o0 o1 o2 o3 o4 o5 w => Ex_M (i := .aload 6) (n := 2) (by decide +kernel) rfl rfl rfl),
   (fun lv st t o0 o1 x w => Ex_M (i := .iload_n 2) (n := 1) (by decide +kernel) rfl rfl rfl),
   (fun lv st t o0 o1 o2 o3 o4 x w => Ex_M (i := .iload 5) (n := 2) (by decide +kernel) rfl rfl rfl),
   (fun lv l b a0 a1 w => Ex_callV (by decide +kernel : decode M_X11_move.2.1 79 = .ok (.invokevirtual 315, 3)) rfl (by rfl : resM (mCn M_X11_move) 315 = some (2, M_X8_hasAll)) rfl (by rfl) (Nat.le_of_ble_eq_true rfl) (by decide +kernel) (sLv_lt (by decide +kernel))),
   (fun lv l st x w => Ex_if_eq (by decide +kernel : decode M_X11_move.2.1 82 = .ok (.ifCond .eq 15, 3)) rfl rfl),
   (fun lv st t o0 o1 o2 o3 o4 o5 o6 x w => Ex_M (i := .aload 7) (n := 2) (by decide +kernel) rfl rfl rfl),
   (fun lv st t o0 o1 o2 o3 o4 o5 o6 w => Ex_M (i := .aload 7) (n := 2) (by decide +kernel) rfl rfl rfl),
   (fun lv st t o0 o1 o2 o3 x w => Ex_M (i := .iload 4) (n := 2) (by decide +kernel) rfl rfl rfl),
   (fun lv st t o0 o1 o2 o3 o4 x w => Ex_M (i := .iload 5) (n := 2) (by decide +kernel) rfl rfl rfl)⟩
set_option maxRecDepth 20000 in
set_option maxHeartbeats 4000000 in
theorem R_X11_move_p1 : (∀ (lv : Nat) (l : LX) (b : Nat) (a0 : Int32) (a1 : Int32) (w : AH), Ex M_X11_move lv 91 l (.int a1 :: .int a0 :: .ref b :: []) w = if clK (hg w b) = 7 then (if (Call M_X8_hasAll 60 [.ref b, .int a0, .int a1] w).isSome = true then Ex M_X11_move lv 94 l (pushR (cV (Call M_X8_hasAll 60 [.ref b, .int a0, .int a1] w)) []) (cW (Call M_X8_hasAll 60 [.ref b, .int a0, .int a1] w) w) else none) else none)
  ∧ (∀ (lv : Nat) (l : LX) (st : List Value) (x : Int32) (w : AH), Ex M_X11_move lv 94 l (.int x :: st) w = if ¬ x = 0 then Ex M_X11_move lv 104 l st w else Ex M_X11_move lv 97 l st w)
  ∧ (∀ (lv : Nat) (st : List Value) (t : LX) (x : Nat) (w : AH), Ex M_X11_move lv 97 (some (.ref x) :: t) st w = Ex M_X11_move lv 98 (some (.ref x) :: t) (.ref x :: st) w)
  ∧ (∀ (lv : Nat) (st : List Value) (t : LX) (w : AH), Ex M_X11_move lv 97 (some (.null) :: t) st w = Ex M_X11_move lv 98 (some (.null) :: t) (.null :: st) w)
  ∧ (∀ (lv : Nat) (l : LX) (st : List Value) (w : AH), Ex M_X11_move lv 98 l st w = Ex M_X11_move lv 100 l (.int (-1000000001) :: st) w)
  ∧ (∀ (lv : Nat) (l : LX) (b : Nat) (a0 : Int32) (w : AH), Ex M_X11_move lv 100 l (.int a0 :: .ref b :: []) w = if clK (hg w b) = 10 then (if (Call M_X11_refuse 60 [.ref b, .int a0] w).isSome = true then Ex M_X11_move lv 103 l (pushR (cV (Call M_X11_refuse 60 [.ref b, .int a0] w)) []) (cW (Call M_X11_refuse 60 [.ref b, .int a0] w) w) else none) else none)
  ∧ (∀ (lv : Nat) (l : LX) (x : Int32) (w : AH), Ex M_X11_move lv 103 l [.int x] w = some (some (.int x), w))
  ∧ (∀ (lv : Nat) (st : List Value) (t : LX) (o0 o1 o2 o3 o4 o5 : Option Value) (x : Nat) (w : AH), Ex M_X11_move lv 104 (o0 :: o1 :: o2 :: o3 :: o4 :: o5 :: some (.ref x) :: t) st w = Ex M_X11_move lv 106 (o0 :: o1 :: o2 :: o3 :: o4 :: o5 :: some (.ref x) :: t) (.ref x :: st) w)
  ∧ (∀ (lv : Nat) (st : List Value) (t : LX) (o0 o1 o2 o3 o4 o5 : Option Value) (w : AH), Ex M_X11_move lv 104 (o0 :: o1 :: o2 :: o3 :: o4 :: o5 :: some (.null) :: t) st w = Ex M_X11_move lv 106 (o0 :: o1 :: o2 :: o3 :: o4 :: o5 :: some (.null) :: t) (.null :: st) w)
  ∧ (∀ (lv : Nat) (l : LX) (st : List Value) (a : Nat) (w : AH), Ex M_X11_move lv 106 l (.ref a :: st) w = if (gf (hg w a) 7 0).isSome = true then Ex M_X11_move lv 109 l (vV (gf (hg w a) 7 0) :: st) w else none)
  ∧ (∀ (lv : Nat) (st : List Value) (t : LX) (o0 o1 : Option Value) (x : Int32) (w : AH), Ex M_X11_move lv 109 (o0 :: o1 :: some (.int x) :: t) st w = Ex M_X11_move lv 110 (o0 :: o1 :: some (.int x) :: t) (.int x :: st) w)
  ∧ (∀ (lv : Nat) (st : List Value) (t : LX) (o0 o1 o2 o3 o4 o5 o6 : Option Value) (x : Nat) (w : AH), Ex M_X11_move lv 110 (o0 :: o1 :: o2 :: o3 :: o4 :: o5 :: o6 :: some (.ref x) :: t) st w = Ex M_X11_move lv 112 (o0 :: o1 :: o2 :: o3 :: o4 :: o5 :: o6 :: some (.ref x) :: t) (.ref x :: st) w)
  ∧ (∀ (lv : Nat) (st : List Value) (t : LX) (o0 o1 o2 o3 o4 o5 o6 : Option Value) (w : AH), Ex M_X11_move lv 110 (o0 :: o1 :: o2 :: o3 :: o4 :: o5 :: o6 :: some (.null) :: t) st w = Ex M_X11_move lv 112 (o0 :: o1 :: o2 :: o3 :: o4 :: o5 :: o6 :: some (.null) :: t) (.null :: st) w)
  ∧ (∀ (lv : Nat) (l : LX) (st : List Value) (a : Nat) (w : AH), Ex M_X11_move lv 112 l (.ref a :: st) w = if (gf (hg w a) 7 0).isSome = true then Ex M_X11_move lv 115 l (vV (gf (hg w a) 7 0) :: st) w else none)
  ∧ (∀ (lv : Nat) (st : List Value) (t : LX) (o0 o1 o2 o3 : Option Value) (x : Int32) (w : AH), Ex M_X11_move lv 115 (o0 :: o1 :: o2 :: o3 :: some (.int x) :: t) st w = Ex M_X11_move lv 117 (o0 :: o1 :: o2 :: o3 :: some (.int x) :: t) (.int x :: st) w)
  ∧ (∀ (lv : Nat) (st : List Value) (t : LX) (o0 o1 o2 o3 o4 : Option Value) (x : Int32) (w : AH), Ex M_X11_move lv 117 (o0 :: o1 :: o2 :: o3 :: o4 :: some (.int x) :: t) st w = Ex M_X11_move lv 119 (o0 :: o1 :: o2 :: o3 :: o4 :: some (.int x) :: t) (.int x :: st) w)
  ∧ (∀ (lv : Nat) (l : LX) (a b : Nat) (sp dp k : Int32) (w : AH), Ex M_X11_move lv 119 l (.int k :: .int dp :: .ref b :: .int sp :: .ref a :: []) w = if (aC (hg w a) (hg w b) sp dp k).isSome = true then Ex M_X11_move lv 122 l [] (hs w b (vE (aC (hg w a) (hg w b) sp dp k))) else none)
  ∧ (∀ (lv : Nat) (st : List Value) (t : LX) (o0 o1 o2 o3 o4 : Option Value) (x : Int32) (w : AH), Ex M_X11_move lv 122 (o0 :: o1 :: o2 :: o3 :: o4 :: some (.int x) :: t) st w = Ex M_X11_move lv 124 (o0 :: o1 :: o2 :: o3 :: o4 :: some (.int x) :: t) (.int x :: st) w)
  ∧ (∀ (lv : Nat) (l : LX) (x : Int32) (w : AH), Ex M_X11_move lv 124 l [.int x] w = some (some (.int x), w)) :=
  ⟨(fun lv l b a0 a1 w => Ex_callV (by decide +kernel : decode M_X11_move.2.1 91 = .ok (.invokevirtual 315, 3)) rfl (by rfl : resM (mCn M_X11_move) 315 = some (2, M_X8_hasAll)) rfl (by rfl) (Nat.le_of_ble_eq_true rfl) (by decide +kernel) (sLv_lt (by decide +kernel))),
   (fun lv l st x w => Ex_if_ne (by decide +kernel : decode M_X11_move.2.1 94 = .ok (.ifCond .ne 10, 3)) rfl rfl),
   (fun lv st t x w => Ex_M (i := .aload_n 0) (n := 1) (by decide +kernel) rfl rfl rfl),
   (fun lv st t w => Ex_M (i := .aload_n 0) (n := 1) (by decide +kernel) rfl rfl rfl),
   (fun lv l st w => Ex_ldcI (by decide +kernel : decode M_X11_move.2.1 98 = .ok (.ldc 73, 2)) rfl (by decide +kernel)),
   (fun lv l b a0 w => Ex_callV (by decide +kernel : decode M_X11_move.2.1 100 = .ok (.invokevirtual 74, 3)) rfl (by rfl : resM (mCn M_X11_move) 74 = some (2, M_X11_refuse)) rfl (by rfl) (Nat.le_of_ble_eq_true rfl) (by decide +kernel) (sLv_lt (by decide +kernel))),
   (fun lv l x w => Ex_R (i := .ireturn) (n := 1) (by decide +kernel) rfl rfl rfl rfl rfl),
   (fun lv st t o0 o1 o2 o3 o4 o5 x w => Ex_M (i := .aload 6) (n := 2) (by decide +kernel) rfl rfl rfl),
   (fun lv st t o0 o1 o2 o3 o4 o5 w => Ex_M (i := .aload 6) (n := 2) (by decide +kernel) rfl rfl rfl),
   (fun lv l st a w => Ex_getf (by decide +kernel : decode M_X11_move.2.1 106 = .ok (.getfield 319, 3)) rfl (by decide +kernel : resF (mCn M_X11_move) 319 = some (7, 0, (.array .int), true))),
   (fun lv st t o0 o1 x w => Ex_M (i := .iload_n 2) (n := 1) (by decide +kernel) rfl rfl rfl),
   (fun lv st t o0 o1 o2 o3 o4 o5 o6 x w => Ex_M (i := .aload 7) (n := 2) (by decide +kernel) rfl rfl rfl),
   (fun lv st t o0 o1 o2 o3 o4 o5 o6 w => Ex_M (i := .aload 7) (n := 2) (by decide +kernel) rfl rfl rfl),
   (fun lv l st a w => Ex_getf (by decide +kernel : decode M_X11_move.2.1 112 = .ok (.getfield 319, 3)) rfl (by decide +kernel : resF (mCn M_X11_move) 319 = some (7, 0, (.array .int), true))),
   (fun lv st t o0 o1 o2 o3 x w => Ex_M (i := .iload 4) (n := 2) (by decide +kernel) rfl rfl rfl),
   (fun lv st t o0 o1 o2 o3 o4 x w => Ex_M (i := .iload 5) (n := 2) (by decide +kernel) rfl rfl rfl),
   (fun lv l a b sp dp k w => Ex_acopy (by decide +kernel : decode M_X11_move.2.1 119 = .ok (.invokestatic 322, 3)) rfl (by rfl : resM (mCn M_X11_move) 322 = some (7, M_X0_init)) (by rfl)),
   (fun lv st t o0 o1 o2 o3 o4 x w => Ex_M (i := .iload 5) (n := 2) (by decide +kernel) rfl rfl rfl),
   (fun lv l x w => Ex_R (i := .ireturn) (n := 1) (by decide +kernel) rfl rfl rfl rfl rfl)⟩
-- R_X11_move: p0 to p1
set_option maxRecDepth 20000 in
theorem H_X11_colours_33 : ∀ (lv : Nat) (st : List Value) (t : LX) (o0 o1 o2 : Option Value) (x : Int32) (w : AH), Ex M_X11_colours lv 33 (o0 :: o1 :: o2 :: some (.int x) :: t) st w = Ex M_X11_colours lv 34 (o0 :: o1 :: o2 :: some (.int x) :: t) (.int x :: st) w := fun lv st t o0 o1 o2 x w => Ex_M (i := .iload_n 3) (n := 1) (by decide +kernel) rfl rfl rfl
set_option maxRecDepth 20000 in
set_option maxHeartbeats 4000000 in
theorem R_X11_colours : (∀ (lv : Nat) (st : List Value) (t : LX) (x : Nat) (w : AH), Ex M_X11_colours lv 0 (some (.ref x) :: t) st w = Ex M_X11_colours lv 1 (some (.ref x) :: t) (.ref x :: st) w)
  ∧ (∀ (lv : Nat) (st : List Value) (t : LX) (w : AH), Ex M_X11_colours lv 0 (some (.null) :: t) st w = Ex M_X11_colours lv 1 (some (.null) :: t) (.null :: st) w)
  ∧ (∀ (lv : Nat) (st : List Value) (t : LX) (o0 : Option Value) (x : Int32) (w : AH), Ex M_X11_colours lv 1 (o0 :: some (.int x) :: t) st w = Ex M_X11_colours lv 2 (o0 :: some (.int x) :: t) (.int x :: st) w)
  ∧ (∀ (lv : Nat) (l : LX) (b : Nat) (a0 : Int32) (w : AH), Ex M_X11_colours lv 2 l (.int a0 :: .ref b :: []) w = if clK (hg w b) = 10 then (if (Call M_X11_sheetOf 60 [.ref b, .int a0] w).isSome = true then Ex M_X11_colours lv 5 l (pushR (cV (Call M_X11_sheetOf 60 [.ref b, .int a0] w)) []) (cW (Call M_X11_sheetOf 60 [.ref b, .int a0] w) w) else none) else none)
  ∧ (∀ (lv : Nat) (l : LX) (st : List Value) (x : Nat) (w : AH), Ex M_X11_colours lv 5 l (.ref x :: st) w = Ex M_X11_colours lv 6 (ls1 l 2 (.ref x)) st w)
  ∧ (∀ (lv : Nat) (l : LX) (st : List Value) (w : AH), Ex M_X11_colours lv 5 l (.null :: st) w = Ex M_X11_colours lv 6 (ls1 l 2 (.null)) st w)
  ∧ (∀ (lv : Nat) (st : List Value) (t : LX) (o0 o1 : Option Value) (x : Nat) (w : AH), Ex M_X11_colours lv 6 (o0 :: o1 :: some (.ref x) :: t) st w = Ex M_X11_colours lv 7 (o0 :: o1 :: some (.ref x) :: t) (.ref x :: st) w)
  ∧ (∀ (lv : Nat) (st : List Value) (t : LX) (o0 o1 : Option Value) (w : AH), Ex M_X11_colours lv 6 (o0 :: o1 :: some (.null) :: t) st w = Ex M_X11_colours lv 7 (o0 :: o1 :: some (.null) :: t) (.null :: st) w)
  ∧ (∀ (lv : Nat) (l : LX) (st : List Value) (x : Nat) (w : AH), Ex M_X11_colours lv 7 l (.ref x :: st) w = Ex M_X11_colours lv 17 l st w)
  ∧ (∀ (lv : Nat) (l : LX) (st : List Value) (w : AH), Ex M_X11_colours lv 7 l (.null :: st) w = Ex M_X11_colours lv 10 l st w)
  ∧ (∀ (lv : Nat) (st : List Value) (t : LX) (x : Nat) (w : AH), Ex M_X11_colours lv 10 (some (.ref x) :: t) st w = Ex M_X11_colours lv 11 (some (.ref x) :: t) (.ref x :: st) w)
  ∧ (∀ (lv : Nat) (st : List Value) (t : LX) (w : AH), Ex M_X11_colours lv 10 (some (.null) :: t) st w = Ex M_X11_colours lv 11 (some (.null) :: t) (.null :: st) w)
  ∧ (∀ (lv : Nat) (l : LX) (st : List Value) (w : AH), Ex M_X11_colours lv 11 l st w = Ex M_X11_colours lv 13 l (.int (-1000000001) :: st) w)
  ∧ (∀ (lv : Nat) (l : LX) (b : Nat) (a0 : Int32) (w : AH), Ex M_X11_colours lv 13 l (.int a0 :: .ref b :: []) w = if clK (hg w b) = 10 then (if (Call M_X11_refuse 60 [.ref b, .int a0] w).isSome = true then Ex M_X11_colours lv 16 l (pushR (cV (Call M_X11_refuse 60 [.ref b, .int a0] w)) []) (cW (Call M_X11_refuse 60 [.ref b, .int a0] w) w) else none) else none)
  ∧ (∀ (lv : Nat) (l : LX) (x : Int32) (w : AH), Ex M_X11_colours lv 16 l [.int x] w = some (some (.int x), w))
  ∧ (∀ (lv : Nat) (st : List Value) (t : LX) (o0 o1 : Option Value) (x : Nat) (w : AH), Ex M_X11_colours lv 17 (o0 :: o1 :: some (.ref x) :: t) st w = Ex M_X11_colours lv 18 (o0 :: o1 :: some (.ref x) :: t) (.ref x :: st) w)
  ∧ (∀ (lv : Nat) (st : List Value) (t : LX) (o0 o1 : Option Value) (w : AH), Ex M_X11_colours lv 17 (o0 :: o1 :: some (.null) :: t) st w = Ex M_X11_colours lv 18 (o0 :: o1 :: some (.null) :: t) (.null :: st) w)
  ∧ (∀ (lv : Nat) (l : LX) (b : Nat) (w : AH), Ex M_X11_colours lv 18 l (.ref b :: []) w = if clK (hg w b) = 7 then (if (Call M_X8_isMissing 60 [.ref b] w).isSome = true then Ex M_X11_colours lv 21 l (pushR (cV (Call M_X8_isMissing 60 [.ref b] w)) []) (cW (Call M_X8_isMissing 60 [.ref b] w) w) else none) else none)
  ∧ (∀ (lv : Nat) (l : LX) (st : List Value) (x : Int32) (w : AH), Ex M_X11_colours lv 21 l (.int x :: st) w = if x = 0 then Ex M_X11_colours lv 31 l st w else Ex M_X11_colours lv 24 l st w)
  ∧ (∀ (lv : Nat) (st : List Value) (t : LX) (x : Nat) (w : AH), Ex M_X11_colours lv 24 (some (.ref x) :: t) st w = Ex M_X11_colours lv 25 (some (.ref x) :: t) (.ref x :: st) w)
  ∧ (∀ (lv : Nat) (st : List Value) (t : LX) (w : AH), Ex M_X11_colours lv 24 (some (.null) :: t) st w = Ex M_X11_colours lv 25 (some (.null) :: t) (.null :: st) w)
  ∧ (∀ (lv : Nat) (l : LX) (st : List Value) (w : AH), Ex M_X11_colours lv 25 l st w = Ex M_X11_colours lv 27 l (.int (-1000000002) :: st) w)
  ∧ (∀ (lv : Nat) (l : LX) (b : Nat) (a0 : Int32) (w : AH), Ex M_X11_colours lv 27 l (.int a0 :: .ref b :: []) w = if clK (hg w b) = 10 then (if (Call M_X11_refuse 60 [.ref b, .int a0] w).isSome = true then Ex M_X11_colours lv 30 l (pushR (cV (Call M_X11_refuse 60 [.ref b, .int a0] w)) []) (cW (Call M_X11_refuse 60 [.ref b, .int a0] w) w) else none) else none)
  ∧ (∀ (lv : Nat) (l : LX) (x : Int32) (w : AH), Ex M_X11_colours lv 30 l [.int x] w = some (some (.int x), w))
  ∧ (∀ (lv : Nat) (l : LX) (st : List Value) (w : AH), Ex M_X11_colours lv 31 l st w = Ex M_X11_colours lv 32 l (.int 0 :: st) w)
  ∧ (∀ (lv : Nat) (l : LX) (st : List Value) (x : Int32) (w : AH), Ex M_X11_colours lv 32 l (.int x :: st) w = Ex M_X11_colours lv 33 (ls1 l 3 (.int x)) st w)
  ∧ (∀ (lv : Nat) (l : LX) (st : List Value) (w : AH), Ex M_X11_colours lv 34 l st w = Ex M_X11_colours lv 36 l (.int 36 :: st) w)
  ∧ (∀ (lv : Nat) (l : LX) (st : List Value) (x y : Int32) (w : AH), Ex M_X11_colours lv 36 l (.int y :: .int x :: st) w = if y ≤ x then Ex M_X11_colours lv 80 l st w else Ex M_X11_colours lv 39 l st w)
  ∧ (∀ (lv : Nat) (st : List Value) (t : LX) (o0 o1 : Option Value) (x : Nat) (w : AH), Ex M_X11_colours lv 39 (o0 :: o1 :: some (.ref x) :: t) st w = Ex M_X11_colours lv 40 (o0 :: o1 :: some (.ref x) :: t) (.ref x :: st) w)
  ∧ (∀ (lv : Nat) (st : List Value) (t : LX) (o0 o1 : Option Value) (w : AH), Ex M_X11_colours lv 39 (o0 :: o1 :: some (.null) :: t) st w = Ex M_X11_colours lv 40 (o0 :: o1 :: some (.null) :: t) (.null :: st) w)
  ∧ (∀ (lv : Nat) (st : List Value) (t : LX) (o0 o1 o2 : Option Value) (x : Int32) (w : AH), Ex M_X11_colours lv 40 (o0 :: o1 :: o2 :: some (.int x) :: t) st w = Ex M_X11_colours lv 41 (o0 :: o1 :: o2 :: some (.int x) :: t) (.int x :: st) w)
  ∧ (∀ (lv : Nat) (l : LX) (b : Nat) (a0 : Int32) (w : AH), Ex M_X11_colours lv 41 l (.int a0 :: .ref b :: []) w = if clK (hg w b) = 7 then (if (Call M_X8_has 60 [.ref b, .int a0] w).isSome = true then Ex M_X11_colours lv 44 l (pushR (cV (Call M_X8_has 60 [.ref b, .int a0] w)) []) (cW (Call M_X8_has 60 [.ref b, .int a0] w) w) else none) else none)
  ∧ (∀ (lv : Nat) (l : LX) (st : List Value) (x : Int32) (w : AH), Ex M_X11_colours lv 44 l (.int x :: st) w = if x = 0 then Ex M_X11_colours lv 80 l st w else Ex M_X11_colours lv 47 l st w)
  ∧ (∀ (lv : Nat) (st : List Value) (t : LX) (o0 o1 : Option Value) (x : Nat) (w : AH), Ex M_X11_colours lv 47 (o0 :: o1 :: some (.ref x) :: t) st w = Ex M_X11_colours lv 48 (o0 :: o1 :: some (.ref x) :: t) (.ref x :: st) w)
  ∧ (∀ (lv : Nat) (st : List Value) (t : LX) (o0 o1 : Option Value) (w : AH), Ex M_X11_colours lv 47 (o0 :: o1 :: some (.null) :: t) st w = Ex M_X11_colours lv 48 (o0 :: o1 :: some (.null) :: t) (.null :: st) w)
  ∧ (∀ (lv : Nat) (st : List Value) (t : LX) (o0 o1 o2 : Option Value) (x : Int32) (w : AH), Ex M_X11_colours lv 48 (o0 :: o1 :: o2 :: some (.int x) :: t) st w = Ex M_X11_colours lv 49 (o0 :: o1 :: o2 :: some (.int x) :: t) (.int x :: st) w)
  ∧ (∀ (lv : Nat) (l : LX) (b : Nat) (a0 : Int32) (w : AH), Ex M_X11_colours lv 49 l (.int a0 :: .ref b :: []) w = if clK (hg w b) = 7 then (if (Call M_X8_get 60 [.ref b, .int a0] w).isSome = true then Ex M_X11_colours lv 52 l (pushR (cV (Call M_X8_get 60 [.ref b, .int a0] w)) []) (cW (Call M_X8_get 60 [.ref b, .int a0] w) w) else none) else none)
  ∧ (∀ (lv : Nat) (l : LX) (a0 : Int32) (w : AH), Ex M_X11_colours lv 52 l (.int a0 :: []) w = if (Call M_X11_isColour 60 [.int a0] w).isSome = true then Ex M_X11_colours lv 55 l (pushR (cV (Call M_X11_isColour 60 [.int a0] w)) []) (cW (Call M_X11_isColour 60 [.int a0] w) w) else none)
  ∧ (∀ (lv : Nat) (l : LX) (st : List Value) (x : Int32) (w : AH), Ex M_X11_colours lv 55 l (.int x :: st) w = if x = 0 then Ex M_X11_colours lv 80 l st w else Ex M_X11_colours lv 58 l st w)
  ∧ (∀ (lv : Nat) (st : List Value) (t : LX) (x : Nat) (w : AH), Ex M_X11_colours lv 58 (some (.ref x) :: t) st w = Ex M_X11_colours lv 59 (some (.ref x) :: t) (.ref x :: st) w)
  ∧ (∀ (lv : Nat) (st : List Value) (t : LX) (w : AH), Ex M_X11_colours lv 58 (some (.null) :: t) st w = Ex M_X11_colours lv 59 (some (.null) :: t) (.null :: st) w)
  ∧ (∀ (lv : Nat) (l : LX) (st : List Value) (a : Nat) (w : AH), Ex M_X11_colours lv 59 l (.ref a :: st) w = if (gf (hg w a) 10 0).isSome = true then Ex M_X11_colours lv 62 l (vV (gf (hg w a) 10 0) :: st) w else none)
  ∧ (∀ (lv : Nat) (l : LX) (st : List Value) (a : Nat) (w : AH), Ex M_X11_colours lv 62 l (.ref a :: st) w = if (gf (hg w a) 1 0).isSome = true then Ex M_X11_colours lv 65 l (vV (gf (hg w a) 1 0) :: st) w else none)
  ∧ (∀ (lv : Nat) (st : List Value) (t : LX) (o0 o1 o2 : Option Value) (x : Int32) (w : AH), Ex M_X11_colours lv 65 (o0 :: o1 :: o2 :: some (.int x) :: t) st w = Ex M_X11_colours lv 66 (o0 :: o1 :: o2 :: some (.int x) :: t) (.int x :: st) w)
  ∧ (∀ (lv : Nat) (st : List Value) (t : LX) (o0 o1 : Option Value) (x : Nat) (w : AH), Ex M_X11_colours lv 66 (o0 :: o1 :: some (.ref x) :: t) st w = Ex M_X11_colours lv 67 (o0 :: o1 :: some (.ref x) :: t) (.ref x :: st) w)
  ∧ (∀ (lv : Nat) (st : List Value) (t : LX) (o0 o1 : Option Value) (w : AH), Ex M_X11_colours lv 66 (o0 :: o1 :: some (.null) :: t) st w = Ex M_X11_colours lv 67 (o0 :: o1 :: some (.null) :: t) (.null :: st) w)
  ∧ (∀ (lv : Nat) (st : List Value) (t : LX) (o0 o1 o2 : Option Value) (x : Int32) (w : AH), Ex M_X11_colours lv 67 (o0 :: o1 :: o2 :: some (.int x) :: t) st w = Ex M_X11_colours lv 68 (o0 :: o1 :: o2 :: some (.int x) :: t) (.int x :: st) w)
  ∧ (∀ (lv : Nat) (l : LX) (b : Nat) (a0 : Int32) (s0 : Int32) (s1 : Nat) (w : AH), Ex M_X11_colours lv 68 l (.int a0 :: .ref b :: [.int s0, .ref s1]) w = if clK (hg w b) = 7 then (if (Call M_X8_get 60 [.ref b, .int a0] w).isSome = true then Ex M_X11_colours lv 71 l (pushR (cV (Call M_X8_get 60 [.ref b, .int a0] w)) [.int s0, .ref s1]) (cW (Call M_X8_get 60 [.ref b, .int a0] w) w) else none) else none)
  ∧ (∀ (lv : Nat) (l : LX) (b : Nat) (a0 : Int32) (a1 : Int32) (w : AH), Ex M_X11_colours lv 71 l (.int a1 :: .int a0 :: .ref b :: []) w = if clK (hg w b) = 0 then (if (Call M_X0_setColour 60 [.ref b, .int a0, .int a1] w).isSome = true then Ex M_X11_colours lv 74 l (pushR (cV (Call M_X0_setColour 60 [.ref b, .int a0, .int a1] w)) []) (cW (Call M_X0_setColour 60 [.ref b, .int a0, .int a1] w) w) else none) else none)
  ∧ (∀ (lv : Nat) (st : List Value) (t : LX) (o0 o1 o2 : Option Value) (x : Int32) (w : AH), Ex M_X11_colours lv 74 (o0 :: o1 :: o2 :: some (.int x) :: t) st w = Ex M_X11_colours lv 77 (ls1 (o0 :: o1 :: o2 :: some (.int x) :: t) 3 (.int (x + 1))) st w)
  ∧ (∀ (lv : Nat) (l : LX) (st : List Value) (w : AH), Ex M_X11_colours lv 77 l st w = Ex M_X11_colours lv 33 l st w)
  ∧ (∀ (lv : Nat) (st : List Value) (t : LX) (o0 o1 o2 : Option Value) (x : Int32) (w : AH), Ex M_X11_colours lv 80 (o0 :: o1 :: o2 :: some (.int x) :: t) st w = Ex M_X11_colours lv 81 (o0 :: o1 :: o2 :: some (.int x) :: t) (.int x :: st) w)
  ∧ (∀ (lv : Nat) (l : LX) (x : Int32) (w : AH), Ex M_X11_colours lv 81 l [.int x] w = some (some (.int x), w)) :=
  ⟨(fun lv st t x w => Ex_M (i := .aload_n 0) (n := 1) (by decide +kernel) rfl rfl rfl),
   (fun lv st t w => Ex_M (i := .aload_n 0) (n := 1) (by decide +kernel) rfl rfl rfl),
   (fun lv st t o0 x w => Ex_M (i := .iload_n 1) (n := 1) (by decide +kernel) rfl rfl rfl),
   (fun lv l b a0 w => Ex_callV (by decide +kernel : decode M_X11_colours.2.1 2 = .ok (.invokevirtual 245, 3)) rfl (by rfl : resM (mCn M_X11_colours) 245 = some (2, M_X11_sheetOf)) rfl (by rfl) (Nat.le_of_ble_eq_true rfl) (by decide +kernel) (sLv_lt (by decide +kernel))),
   (fun lv l st x w => Ex_M (i := .astore_n 2) (n := 1) (by decide +kernel) rfl rfl rfl),
   (fun lv l st w => Ex_M (i := .astore_n 2) (n := 1) (by decide +kernel) rfl rfl rfl),
   (fun lv st t o0 o1 x w => Ex_M (i := .aload_n 2) (n := 1) (by decide +kernel) rfl rfl rfl),
   (fun lv st t o0 o1 w => Ex_M (i := .aload_n 2) (n := 1) (by decide +kernel) rfl rfl rfl),
   (fun lv l st x w => Ex_ifnonnull_r (by decide +kernel : decode M_X11_colours.2.1 7 = .ok (.ifnonnull 10, 3)) rfl),
   (fun lv l st w => Ex_ifnonnull_n (by decide +kernel : decode M_X11_colours.2.1 7 = .ok (.ifnonnull 10, 3)) rfl),
   (fun lv st t x w => Ex_M (i := .aload_n 0) (n := 1) (by decide +kernel) rfl rfl rfl),
   (fun lv st t w => Ex_M (i := .aload_n 0) (n := 1) (by decide +kernel) rfl rfl rfl),
   (fun lv l st w => Ex_ldcI (by decide +kernel : decode M_X11_colours.2.1 11 = .ok (.ldc 73, 2)) rfl (by decide +kernel)),
   (fun lv l b a0 w => Ex_callV (by decide +kernel : decode M_X11_colours.2.1 13 = .ok (.invokevirtual 74, 3)) rfl (by rfl : resM (mCn M_X11_colours) 74 = some (2, M_X11_refuse)) rfl (by rfl) (Nat.le_of_ble_eq_true rfl) (by decide +kernel) (sLv_lt (by decide +kernel))),
   (fun lv l x w => Ex_R (i := .ireturn) (n := 1) (by decide +kernel) rfl rfl rfl rfl rfl),
   (fun lv st t o0 o1 x w => Ex_M (i := .aload_n 2) (n := 1) (by decide +kernel) rfl rfl rfl),
   (fun lv st t o0 o1 w => Ex_M (i := .aload_n 2) (n := 1) (by decide +kernel) rfl rfl rfl),
   (fun lv l b w => Ex_callV (by decide +kernel : decode M_X11_colours.2.1 18 = .ok (.invokevirtual 305, 3)) rfl (by rfl : resM (mCn M_X11_colours) 305 = some (2, M_X8_isMissing)) rfl (by rfl) (Nat.le_of_ble_eq_true rfl) (by decide +kernel) (sLv_lt (by decide +kernel))),
   (fun lv l st x w => Ex_if_eq (by decide +kernel : decode M_X11_colours.2.1 21 = .ok (.ifCond .eq 10, 3)) rfl rfl),
   (fun lv st t x w => Ex_M (i := .aload_n 0) (n := 1) (by decide +kernel) rfl rfl rfl),
   (fun lv st t w => Ex_M (i := .aload_n 0) (n := 1) (by decide +kernel) rfl rfl rfl),
   (fun lv l st w => Ex_ldcI (by decide +kernel : decode M_X11_colours.2.1 25 = .ok (.ldc 218, 2)) rfl (by decide +kernel)),
   (fun lv l b a0 w => Ex_callV (by decide +kernel : decode M_X11_colours.2.1 27 = .ok (.invokevirtual 74, 3)) rfl (by rfl : resM (mCn M_X11_colours) 74 = some (2, M_X11_refuse)) rfl (by rfl) (Nat.le_of_ble_eq_true rfl) (by decide +kernel) (sLv_lt (by decide +kernel))),
   (fun lv l x w => Ex_R (i := .ireturn) (n := 1) (by decide +kernel) rfl rfl rfl rfl rfl),
   (fun lv l st w => Ex_A (i := .iconst 0) (n := 1) (by decide +kernel) rfl rfl),
   (fun lv l st x w => Ex_M (i := .istore_n 3) (n := 1) (by decide +kernel) rfl rfl rfl),
   (fun lv l st w => Ex_A (i := .bipush 36) (n := 2) (by decide +kernel) rfl rfl),
   (fun lv l st x y w => Ex_icmp_ge (by decide +kernel : decode M_X11_colours.2.1 36 = .ok (.if_icmp .ge 44, 3)) rfl rfl),
   (fun lv st t o0 o1 x w => Ex_M (i := .aload_n 2) (n := 1) (by decide +kernel) rfl rfl rfl),
   (fun lv st t o0 o1 w => Ex_M (i := .aload_n 2) (n := 1) (by decide +kernel) rfl rfl rfl),
   (fun lv st t o0 o1 o2 x w => Ex_M (i := .iload_n 3) (n := 1) (by decide +kernel) rfl rfl rfl),
   (fun lv l b a0 w => Ex_callV (by decide +kernel : decode M_X11_colours.2.1 41 = .ok (.invokevirtual 308, 3)) rfl (by rfl : resM (mCn M_X11_colours) 308 = some (2, M_X8_has)) rfl (by rfl) (Nat.le_of_ble_eq_true rfl) (by decide +kernel) (sLv_lt (by decide +kernel))),
   (fun lv l st x w => Ex_if_eq (by decide +kernel : decode M_X11_colours.2.1 44 = .ok (.ifCond .eq 36, 3)) rfl rfl),
   (fun lv st t o0 o1 x w => Ex_M (i := .aload_n 2) (n := 1) (by decide +kernel) rfl rfl rfl),
   (fun lv st t o0 o1 w => Ex_M (i := .aload_n 2) (n := 1) (by decide +kernel) rfl rfl rfl),
   (fun lv st t o0 o1 o2 x w => Ex_M (i := .iload_n 3) (n := 1) (by decide +kernel) rfl rfl rfl),
   (fun lv l b a0 w => Ex_callV (by decide +kernel : decode M_X11_colours.2.1 49 = .ok (.invokevirtual 328, 3)) rfl (by rfl : resM (mCn M_X11_colours) 328 = some (2, M_X8_get)) rfl (by rfl) (Nat.le_of_ble_eq_true rfl) (by decide +kernel) (sLv_lt (by decide +kernel))),
   (fun lv l a0 w => Ex_callS (by decide +kernel : decode M_X11_colours.2.1 52 = .ok (.invokestatic 222, 3)) rfl (by rfl : resM (mCn M_X11_colours) 222 = some (0, M_X11_isColour)) (by decide) rfl (by rfl) (Nat.le_of_ble_eq_true rfl) (sLv_lt (by decide +kernel))),
   (fun lv l st x w => Ex_if_eq (by decide +kernel : decode M_X11_colours.2.1 55 = .ok (.ifCond .eq 25, 3)) rfl rfl),
   (fun lv st t x w => Ex_M (i := .aload_n 0) (n := 1) (by decide +kernel) rfl rfl rfl),
   (fun lv st t w => Ex_M (i := .aload_n 0) (n := 1) (by decide +kernel) rfl rfl rfl),
   (fun lv l st a w => Ex_getf (by decide +kernel : decode M_X11_colours.2.1 59 = .ok (.getfield 12, 3)) rfl (by decide +kernel : resF (mCn M_X11_colours) 12 = some (10, 0, (.object "CarpetLands$Country"), true))),
   (fun lv l st a w => Ex_getf (by decide +kernel : decode M_X11_colours.2.1 62 = .ok (.getfield 78, 3)) rfl (by decide +kernel : resF (mCn M_X11_colours) 78 = some (1, 0, (.object "CarpetLands$Carpet"), true))),
   (fun lv st t o0 o1 o2 x w => Ex_M (i := .iload_n 3) (n := 1) (by decide +kernel) rfl rfl rfl),
   (fun lv st t o0 o1 x w => Ex_M (i := .aload_n 2) (n := 1) (by decide +kernel) rfl rfl rfl),
   (fun lv st t o0 o1 w => Ex_M (i := .aload_n 2) (n := 1) (by decide +kernel) rfl rfl rfl),
   (fun lv st t o0 o1 o2 x w => Ex_M (i := .iload_n 3) (n := 1) (by decide +kernel) rfl rfl rfl),
   (fun lv l b a0 s0 s1 w => Ex_callV (by decide +kernel : decode M_X11_colours.2.1 68 = .ok (.invokevirtual 328, 3)) rfl (by rfl : resM (mCn M_X11_colours) 328 = some (2, M_X8_get)) rfl (by rfl) (Nat.le_of_ble_eq_true rfl) (by decide +kernel) (sLv_lt (by decide +kernel))),
   (fun lv l b a0 a1 w => Ex_callV (by decide +kernel : decode M_X11_colours.2.1 71 = .ok (.invokevirtual 90, 3)) rfl (by rfl : resM (mCn M_X11_colours) 90 = some (2, M_X0_setColour)) rfl (by rfl) (Nat.le_of_ble_eq_true rfl) (by decide +kernel) (sLv_lt (by decide +kernel))),
   (fun lv st t o0 o1 o2 x w => Ex_iinc (by decide +kernel : decode M_X11_colours.2.1 74 = .ok (.iinc 3 1, 3)) rfl rfl (by decide) (by decide)),
   (fun lv l st w => Ex_goto (by decide +kernel : decode M_X11_colours.2.1 77 = .ok (.goto (-44), 3)) rfl),
   (fun lv st t o0 o1 o2 x w => Ex_M (i := .iload_n 3) (n := 1) (by decide +kernel) rfl rfl rfl),
   (fun lv l x w => Ex_R (i := .ireturn) (n := 1) (by decide +kernel) rfl rfl rfl rfl rfl)⟩
set_option maxRecDepth 20000 in
theorem H_X11_judge_33 : ∀ (lv : Nat) (st : List Value) (t : LX) (o0 o1 o2 : Option Value) (x : Int32) (w : AH), Ex M_X11_judge lv 33 (o0 :: o1 :: o2 :: some (.int x) :: t) st w = Ex M_X11_judge lv 34 (o0 :: o1 :: o2 :: some (.int x) :: t) (.int x :: st) w := fun lv st t o0 o1 o2 x w => Ex_M (i := .iload_n 3) (n := 1) (by decide +kernel) rfl rfl rfl
set_option maxRecDepth 20000 in
set_option maxHeartbeats 4000000 in
theorem R_X11_judge : (∀ (lv : Nat) (st : List Value) (t : LX) (x : Nat) (w : AH), Ex M_X11_judge lv 0 (some (.ref x) :: t) st w = Ex M_X11_judge lv 1 (some (.ref x) :: t) (.ref x :: st) w)
  ∧ (∀ (lv : Nat) (st : List Value) (t : LX) (w : AH), Ex M_X11_judge lv 0 (some (.null) :: t) st w = Ex M_X11_judge lv 1 (some (.null) :: t) (.null :: st) w)
  ∧ (∀ (lv : Nat) (st : List Value) (t : LX) (o0 : Option Value) (x : Int32) (w : AH), Ex M_X11_judge lv 1 (o0 :: some (.int x) :: t) st w = Ex M_X11_judge lv 2 (o0 :: some (.int x) :: t) (.int x :: st) w)
  ∧ (∀ (lv : Nat) (l : LX) (b : Nat) (a0 : Int32) (w : AH), Ex M_X11_judge lv 2 l (.int a0 :: .ref b :: []) w = if clK (hg w b) = 10 then (if (Call M_X11_sheetOf 60 [.ref b, .int a0] w).isSome = true then Ex M_X11_judge lv 5 l (pushR (cV (Call M_X11_sheetOf 60 [.ref b, .int a0] w)) []) (cW (Call M_X11_sheetOf 60 [.ref b, .int a0] w) w) else none) else none)
  ∧ (∀ (lv : Nat) (l : LX) (st : List Value) (x : Nat) (w : AH), Ex M_X11_judge lv 5 l (.ref x :: st) w = Ex M_X11_judge lv 6 (ls1 l 2 (.ref x)) st w)
  ∧ (∀ (lv : Nat) (l : LX) (st : List Value) (w : AH), Ex M_X11_judge lv 5 l (.null :: st) w = Ex M_X11_judge lv 6 (ls1 l 2 (.null)) st w)
  ∧ (∀ (lv : Nat) (st : List Value) (t : LX) (o0 o1 : Option Value) (x : Nat) (w : AH), Ex M_X11_judge lv 6 (o0 :: o1 :: some (.ref x) :: t) st w = Ex M_X11_judge lv 7 (o0 :: o1 :: some (.ref x) :: t) (.ref x :: st) w)
  ∧ (∀ (lv : Nat) (st : List Value) (t : LX) (o0 o1 : Option Value) (w : AH), Ex M_X11_judge lv 6 (o0 :: o1 :: some (.null) :: t) st w = Ex M_X11_judge lv 7 (o0 :: o1 :: some (.null) :: t) (.null :: st) w)
  ∧ (∀ (lv : Nat) (l : LX) (st : List Value) (x : Nat) (w : AH), Ex M_X11_judge lv 7 l (.ref x :: st) w = Ex M_X11_judge lv 17 l st w)
  ∧ (∀ (lv : Nat) (l : LX) (st : List Value) (w : AH), Ex M_X11_judge lv 7 l (.null :: st) w = Ex M_X11_judge lv 10 l st w)
  ∧ (∀ (lv : Nat) (st : List Value) (t : LX) (x : Nat) (w : AH), Ex M_X11_judge lv 10 (some (.ref x) :: t) st w = Ex M_X11_judge lv 11 (some (.ref x) :: t) (.ref x :: st) w)
  ∧ (∀ (lv : Nat) (st : List Value) (t : LX) (w : AH), Ex M_X11_judge lv 10 (some (.null) :: t) st w = Ex M_X11_judge lv 11 (some (.null) :: t) (.null :: st) w)
  ∧ (∀ (lv : Nat) (l : LX) (st : List Value) (w : AH), Ex M_X11_judge lv 11 l st w = Ex M_X11_judge lv 13 l (.int (-1000000001) :: st) w)
  ∧ (∀ (lv : Nat) (l : LX) (b : Nat) (a0 : Int32) (w : AH), Ex M_X11_judge lv 13 l (.int a0 :: .ref b :: []) w = if clK (hg w b) = 10 then (if (Call M_X11_refuse 60 [.ref b, .int a0] w).isSome = true then Ex M_X11_judge lv 16 l (pushR (cV (Call M_X11_refuse 60 [.ref b, .int a0] w)) []) (cW (Call M_X11_refuse 60 [.ref b, .int a0] w) w) else none) else none)
  ∧ (∀ (lv : Nat) (l : LX) (x : Int32) (w : AH), Ex M_X11_judge lv 16 l [.int x] w = some (some (.int x), w))
  ∧ (∀ (lv : Nat) (st : List Value) (t : LX) (o0 o1 : Option Value) (x : Nat) (w : AH), Ex M_X11_judge lv 17 (o0 :: o1 :: some (.ref x) :: t) st w = Ex M_X11_judge lv 18 (o0 :: o1 :: some (.ref x) :: t) (.ref x :: st) w)
  ∧ (∀ (lv : Nat) (st : List Value) (t : LX) (o0 o1 : Option Value) (w : AH), Ex M_X11_judge lv 17 (o0 :: o1 :: some (.null) :: t) st w = Ex M_X11_judge lv 18 (o0 :: o1 :: some (.null) :: t) (.null :: st) w)
  ∧ (∀ (lv : Nat) (l : LX) (b : Nat) (w : AH), Ex M_X11_judge lv 18 l (.ref b :: []) w = if clK (hg w b) = 7 then (if (Call M_X8_isMissing 60 [.ref b] w).isSome = true then Ex M_X11_judge lv 21 l (pushR (cV (Call M_X8_isMissing 60 [.ref b] w)) []) (cW (Call M_X8_isMissing 60 [.ref b] w) w) else none) else none)
  ∧ (∀ (lv : Nat) (l : LX) (st : List Value) (x : Int32) (w : AH), Ex M_X11_judge lv 21 l (.int x :: st) w = if x = 0 then Ex M_X11_judge lv 31 l st w else Ex M_X11_judge lv 24 l st w)
  ∧ (∀ (lv : Nat) (st : List Value) (t : LX) (x : Nat) (w : AH), Ex M_X11_judge lv 24 (some (.ref x) :: t) st w = Ex M_X11_judge lv 25 (some (.ref x) :: t) (.ref x :: st) w)
  ∧ (∀ (lv : Nat) (st : List Value) (t : LX) (w : AH), Ex M_X11_judge lv 24 (some (.null) :: t) st w = Ex M_X11_judge lv 25 (some (.null) :: t) (.null :: st) w)
  ∧ (∀ (lv : Nat) (l : LX) (st : List Value) (w : AH), Ex M_X11_judge lv 25 l st w = Ex M_X11_judge lv 27 l (.int (-1000000002) :: st) w)
  ∧ (∀ (lv : Nat) (l : LX) (b : Nat) (a0 : Int32) (w : AH), Ex M_X11_judge lv 27 l (.int a0 :: .ref b :: []) w = if clK (hg w b) = 10 then (if (Call M_X11_refuse 60 [.ref b, .int a0] w).isSome = true then Ex M_X11_judge lv 30 l (pushR (cV (Call M_X11_refuse 60 [.ref b, .int a0] w)) []) (cW (Call M_X11_refuse 60 [.ref b, .int a0] w) w) else none) else none)
  ∧ (∀ (lv : Nat) (l : LX) (x : Int32) (w : AH), Ex M_X11_judge lv 30 l [.int x] w = some (some (.int x), w))
  ∧ (∀ (lv : Nat) (l : LX) (st : List Value) (w : AH), Ex M_X11_judge lv 31 l st w = Ex M_X11_judge lv 32 l (.int 0 :: st) w)
  ∧ (∀ (lv : Nat) (l : LX) (st : List Value) (x : Int32) (w : AH), Ex M_X11_judge lv 32 l (.int x :: st) w = Ex M_X11_judge lv 33 (ls1 l 3 (.int x)) st w)
  ∧ (∀ (lv : Nat) (l : LX) (st : List Value) (w : AH), Ex M_X11_judge lv 34 l st w = Ex M_X11_judge lv 36 l (.int 36 :: st) w)
  ∧ (∀ (lv : Nat) (l : LX) (st : List Value) (x y : Int32) (w : AH), Ex M_X11_judge lv 36 l (.int y :: .int x :: st) w = if y ≤ x then Ex M_X11_judge lv 74 l st w else Ex M_X11_judge lv 39 l st w)
  ∧ (∀ (lv : Nat) (st : List Value) (t : LX) (o0 o1 : Option Value) (x : Nat) (w : AH), Ex M_X11_judge lv 39 (o0 :: o1 :: some (.ref x) :: t) st w = Ex M_X11_judge lv 40 (o0 :: o1 :: some (.ref x) :: t) (.ref x :: st) w)
  ∧ (∀ (lv : Nat) (st : List Value) (t : LX) (o0 o1 : Option Value) (w : AH), Ex M_X11_judge lv 39 (o0 :: o1 :: some (.null) :: t) st w = Ex M_X11_judge lv 40 (o0 :: o1 :: some (.null) :: t) (.null :: st) w)
  ∧ (∀ (lv : Nat) (st : List Value) (t : LX) (o0 o1 o2 : Option Value) (x : Int32) (w : AH), Ex M_X11_judge lv 40 (o0 :: o1 :: o2 :: some (.int x) :: t) st w = Ex M_X11_judge lv 41 (o0 :: o1 :: o2 :: some (.int x) :: t) (.int x :: st) w)
  ∧ (∀ (lv : Nat) (l : LX) (b : Nat) (a0 : Int32) (w : AH), Ex M_X11_judge lv 41 l (.int a0 :: .ref b :: []) w = if clK (hg w b) = 7 then (if (Call M_X8_has 60 [.ref b, .int a0] w).isSome = true then Ex M_X11_judge lv 44 l (pushR (cV (Call M_X8_has 60 [.ref b, .int a0] w)) []) (cW (Call M_X8_has 60 [.ref b, .int a0] w) w) else none) else none)
  ∧ (∀ (lv : Nat) (l : LX) (st : List Value) (x : Int32) (w : AH), Ex M_X11_judge lv 44 l (.int x :: st) w = if x = 0 then Ex M_X11_judge lv 66 l st w else Ex M_X11_judge lv 47 l st w)
  ∧ (∀ (lv : Nat) (st : List Value) (t : LX) (o0 o1 : Option Value) (x : Nat) (w : AH), Ex M_X11_judge lv 47 (o0 :: o1 :: some (.ref x) :: t) st w = Ex M_X11_judge lv 48 (o0 :: o1 :: some (.ref x) :: t) (.ref x :: st) w)
  ∧ (∀ (lv : Nat) (st : List Value) (t : LX) (o0 o1 : Option Value) (w : AH), Ex M_X11_judge lv 47 (o0 :: o1 :: some (.null) :: t) st w = Ex M_X11_judge lv 48 (o0 :: o1 :: some (.null) :: t) (.null :: st) w)
  ∧ (∀ (lv : Nat) (st : List Value) (t : LX) (o0 o1 o2 : Option Value) (x : Int32) (w : AH), Ex M_X11_judge lv 48 (o0 :: o1 :: o2 :: some (.int x) :: t) st w = Ex M_X11_judge lv 49 (o0 :: o1 :: o2 :: some (.int x) :: t) (.int x :: st) w)
  ∧ (∀ (lv : Nat) (l : LX) (b : Nat) (a0 : Int32) (w : AH), Ex M_X11_judge lv 49 l (.int a0 :: .ref b :: []) w = if clK (hg w b) = 7 then (if (Call M_X8_get 60 [.ref b, .int a0] w).isSome = true then Ex M_X11_judge lv 52 l (pushR (cV (Call M_X8_get 60 [.ref b, .int a0] w)) []) (cW (Call M_X8_get 60 [.ref b, .int a0] w) w) else none) else none)
  ∧ (∀ (lv : Nat) (st : List Value) (t : LX) (x : Nat) (w : AH), Ex M_X11_judge lv 52 (some (.ref x) :: t) st w = Ex M_X11_judge lv 53 (some (.ref x) :: t) (.ref x :: st) w)
  ∧ (∀ (lv : Nat) (st : List Value) (t : LX) (w : AH), Ex M_X11_judge lv 52 (some (.null) :: t) st w = Ex M_X11_judge lv 53 (some (.null) :: t) (.null :: st) w)
  ∧ (∀ (lv : Nat) (l : LX) (st : List Value) (a : Nat) (w : AH), Ex M_X11_judge lv 53 l (.ref a :: st) w = if (gf (hg w a) 10 0).isSome = true then Ex M_X11_judge lv 56 l (vV (gf (hg w a) 10 0) :: st) w else none)
  ∧ (∀ (lv : Nat) (l : LX) (st : List Value) (a : Nat) (w : AH), Ex M_X11_judge lv 56 l (.ref a :: st) w = if (gf (hg w a) 1 0).isSome = true then Ex M_X11_judge lv 59 l (vV (gf (hg w a) 1 0) :: st) w else none)
  ∧ (∀ (lv : Nat) (st : List Value) (t : LX) (o0 o1 o2 : Option Value) (x : Int32) (w : AH), Ex M_X11_judge lv 59 (o0 :: o1 :: o2 :: some (.int x) :: t) st w = Ex M_X11_judge lv 60 (o0 :: o1 :: o2 :: some (.int x) :: t) (.int x :: st) w)
  ∧ (∀ (lv : Nat) (l : LX) (b : Nat) (a0 : Int32) (s0 : Int32) (w : AH), Ex M_X11_judge lv 60 l (.int a0 :: .ref b :: [.int s0]) w = if clK (hg w b) = 0 then (if (Call M_X0_colourOf 60 [.ref b, .int a0] w).isSome = true then Ex M_X11_judge lv 63 l (pushR (cV (Call M_X0_colourOf 60 [.ref b, .int a0] w)) [.int s0]) (cW (Call M_X0_colourOf 60 [.ref b, .int a0] w) w) else none) else none)
  ∧ (∀ (lv : Nat) (l : LX) (st : List Value) (x y : Int32) (w : AH), Ex M_X11_judge lv 63 l (.int y :: .int x :: st) w = if x = y then Ex M_X11_judge lv 68 l st w else Ex M_X11_judge lv 66 l st w)
  ∧ (∀ (lv : Nat) (st : List Value) (t : LX) (o0 o1 o2 : Option Value) (x : Int32) (w : AH), Ex M_X11_judge lv 66 (o0 :: o1 :: o2 :: some (.int x) :: t) st w = Ex M_X11_judge lv 67 (o0 :: o1 :: o2 :: some (.int x) :: t) (.int x :: st) w)
  ∧ (∀ (lv : Nat) (l : LX) (x : Int32) (w : AH), Ex M_X11_judge lv 67 l [.int x] w = some (some (.int x), w))
  ∧ (∀ (lv : Nat) (st : List Value) (t : LX) (o0 o1 o2 : Option Value) (x : Int32) (w : AH), Ex M_X11_judge lv 68 (o0 :: o1 :: o2 :: some (.int x) :: t) st w = Ex M_X11_judge lv 71 (ls1 (o0 :: o1 :: o2 :: some (.int x) :: t) 3 (.int (x + 1))) st w)
  ∧ (∀ (lv : Nat) (l : LX) (st : List Value) (w : AH), Ex M_X11_judge lv 71 l st w = Ex M_X11_judge lv 33 l st w)
  ∧ (∀ (lv : Nat) (st : List Value) (t : LX) (o0 o1 : Option Value) (x : Nat) (w : AH), Ex M_X11_judge lv 74 (o0 :: o1 :: some (.ref x) :: t) st w = Ex M_X11_judge lv 75 (o0 :: o1 :: some (.ref x) :: t) (.ref x :: st) w)
  ∧ (∀ (lv : Nat) (st : List Value) (t : LX) (o0 o1 : Option Value) (w : AH), Ex M_X11_judge lv 74 (o0 :: o1 :: some (.null) :: t) st w = Ex M_X11_judge lv 75 (o0 :: o1 :: some (.null) :: t) (.null :: st) w)
  ∧ (∀ (lv : Nat) (l : LX) (st : List Value) (w : AH), Ex M_X11_judge lv 75 l st w = Ex M_X11_judge lv 77 l (.int 36 :: st) w)
  ∧ (∀ (lv : Nat) (l : LX) (b : Nat) (a0 : Int32) (w : AH), Ex M_X11_judge lv 77 l (.int a0 :: .ref b :: []) w = if clK (hg w b) = 7 then (if (Call M_X8_has 60 [.ref b, .int a0] w).isSome = true then Ex M_X11_judge lv 80 l (pushR (cV (Call M_X8_has 60 [.ref b, .int a0] w)) []) (cW (Call M_X8_has 60 [.ref b, .int a0] w) w) else none) else none)
  ∧ (∀ (lv : Nat) (l : LX) (st : List Value) (x : Int32) (w : AH), Ex M_X11_judge lv 80 l (.int x :: st) w = if x = 0 then Ex M_X11_judge lv 88 l st w else Ex M_X11_judge lv 83 l st w)
  ∧ (∀ (lv : Nat) (l : LX) (st : List Value) (w : AH), Ex M_X11_judge lv 83 l st w = Ex M_X11_judge lv 85 l (.int 36 :: st) w)
  ∧ (∀ (lv : Nat) (l : LX) (st : List Value) (w : AH), Ex M_X11_judge lv 85 l st w = Ex M_X11_judge lv 89 l st w)
  ∧ (∀ (lv : Nat) (l : LX) (st : List Value) (w : AH), Ex M_X11_judge lv 88 l st w = Ex M_X11_judge lv 89 l (.int (-1) :: st) w)
  ∧ (∀ (lv : Nat) (l : LX) (x : Int32) (w : AH), Ex M_X11_judge lv 89 l [.int x] w = some (some (.int x), w)) :=
  ⟨(fun lv st t x w => Ex_M (i := .aload_n 0) (n := 1) (by decide +kernel) rfl rfl rfl),
   (fun lv st t w => Ex_M (i := .aload_n 0) (n := 1) (by decide +kernel) rfl rfl rfl),
   (fun lv st t o0 x w => Ex_M (i := .iload_n 1) (n := 1) (by decide +kernel) rfl rfl rfl),
   (fun lv l b a0 w => Ex_callV (by decide +kernel : decode M_X11_judge.2.1 2 = .ok (.invokevirtual 245, 3)) rfl (by rfl : resM (mCn M_X11_judge) 245 = some (2, M_X11_sheetOf)) rfl (by rfl) (Nat.le_of_ble_eq_true rfl) (by decide +kernel) (sLv_lt (by decide +kernel))),
   (fun lv l st x w => Ex_M (i := .astore_n 2) (n := 1) (by decide +kernel) rfl rfl rfl),
   (fun lv l st w => Ex_M (i := .astore_n 2) (n := 1) (by decide +kernel) rfl rfl rfl),
   (fun lv st t o0 o1 x w => Ex_M (i := .aload_n 2) (n := 1) (by decide +kernel) rfl rfl rfl),
   (fun lv st t o0 o1 w => Ex_M (i := .aload_n 2) (n := 1) (by decide +kernel) rfl rfl rfl),
   (fun lv l st x w => Ex_ifnonnull_r (by decide +kernel : decode M_X11_judge.2.1 7 = .ok (.ifnonnull 10, 3)) rfl),
   (fun lv l st w => Ex_ifnonnull_n (by decide +kernel : decode M_X11_judge.2.1 7 = .ok (.ifnonnull 10, 3)) rfl),
   (fun lv st t x w => Ex_M (i := .aload_n 0) (n := 1) (by decide +kernel) rfl rfl rfl),
   (fun lv st t w => Ex_M (i := .aload_n 0) (n := 1) (by decide +kernel) rfl rfl rfl),
   (fun lv l st w => Ex_ldcI (by decide +kernel : decode M_X11_judge.2.1 11 = .ok (.ldc 73, 2)) rfl (by decide +kernel)),
   (fun lv l b a0 w => Ex_callV (by decide +kernel : decode M_X11_judge.2.1 13 = .ok (.invokevirtual 74, 3)) rfl (by rfl : resM (mCn M_X11_judge) 74 = some (2, M_X11_refuse)) rfl (by rfl) (Nat.le_of_ble_eq_true rfl) (by decide +kernel) (sLv_lt (by decide +kernel))),
   (fun lv l x w => Ex_R (i := .ireturn) (n := 1) (by decide +kernel) rfl rfl rfl rfl rfl),
   (fun lv st t o0 o1 x w => Ex_M (i := .aload_n 2) (n := 1) (by decide +kernel) rfl rfl rfl),
   (fun lv st t o0 o1 w => Ex_M (i := .aload_n 2) (n := 1) (by decide +kernel) rfl rfl rfl),
   (fun lv l b w => Ex_callV (by decide +kernel : decode M_X11_judge.2.1 18 = .ok (.invokevirtual 305, 3)) rfl (by rfl : resM (mCn M_X11_judge) 305 = some (2, M_X8_isMissing)) rfl (by rfl) (Nat.le_of_ble_eq_true rfl) (by decide +kernel) (sLv_lt (by decide +kernel))),
   (fun lv l st x w => Ex_if_eq (by decide +kernel : decode M_X11_judge.2.1 21 = .ok (.ifCond .eq 10, 3)) rfl rfl),
   (fun lv st t x w => Ex_M (i := .aload_n 0) (n := 1) (by decide +kernel) rfl rfl rfl),
   (fun lv st t w => Ex_M (i := .aload_n 0) (n := 1) (by decide +kernel) rfl rfl rfl),
   (fun lv l st w => Ex_ldcI (by decide +kernel : decode M_X11_judge.2.1 25 = .ok (.ldc 218, 2)) rfl (by decide +kernel)),
   (fun lv l b a0 w => Ex_callV (by decide +kernel : decode M_X11_judge.2.1 27 = .ok (.invokevirtual 74, 3)) rfl (by rfl : resM (mCn M_X11_judge) 74 = some (2, M_X11_refuse)) rfl (by rfl) (Nat.le_of_ble_eq_true rfl) (by decide +kernel) (sLv_lt (by decide +kernel))),
   (fun lv l x w => Ex_R (i := .ireturn) (n := 1) (by decide +kernel) rfl rfl rfl rfl rfl),
   (fun lv l st w => Ex_A (i := .iconst 0) (n := 1) (by decide +kernel) rfl rfl),
   (fun lv l st x w => Ex_M (i := .istore_n 3) (n := 1) (by decide +kernel) rfl rfl rfl),
   (fun lv l st w => Ex_A (i := .bipush 36) (n := 2) (by decide +kernel) rfl rfl),
   (fun lv l st x y w => Ex_icmp_ge (by decide +kernel : decode M_X11_judge.2.1 36 = .ok (.if_icmp .ge 38, 3)) rfl rfl),
   (fun lv st t o0 o1 x w => Ex_M (i := .aload_n 2) (n := 1) (by decide +kernel) rfl rfl rfl),
   (fun lv st t o0 o1 w => Ex_M (i := .aload_n 2) (n := 1) (by decide +kernel) rfl rfl rfl),
   (fun lv st t o0 o1 o2 x w => Ex_M (i := .iload_n 3) (n := 1) (by decide +kernel) rfl rfl rfl),
   (fun lv l b a0 w => Ex_callV (by decide +kernel : decode M_X11_judge.2.1 41 = .ok (.invokevirtual 308, 3)) rfl (by rfl : resM (mCn M_X11_judge) 308 = some (2, M_X8_has)) rfl (by rfl) (Nat.le_of_ble_eq_true rfl) (by decide +kernel) (sLv_lt (by decide +kernel))),
   (fun lv l st x w => Ex_if_eq (by decide +kernel : decode M_X11_judge.2.1 44 = .ok (.ifCond .eq 22, 3)) rfl rfl),
   (fun lv st t o0 o1 x w => Ex_M (i := .aload_n 2) (n := 1) (by decide +kernel) rfl rfl rfl),
   (fun lv st t o0 o1 w => Ex_M (i := .aload_n 2) (n := 1) (by decide +kernel) rfl rfl rfl),
   (fun lv st t o0 o1 o2 x w => Ex_M (i := .iload_n 3) (n := 1) (by decide +kernel) rfl rfl rfl),
   (fun lv l b a0 w => Ex_callV (by decide +kernel : decode M_X11_judge.2.1 49 = .ok (.invokevirtual 328, 3)) rfl (by rfl : resM (mCn M_X11_judge) 328 = some (2, M_X8_get)) rfl (by rfl) (Nat.le_of_ble_eq_true rfl) (by decide +kernel) (sLv_lt (by decide +kernel))),
   (fun lv st t x w => Ex_M (i := .aload_n 0) (n := 1) (by decide +kernel) rfl rfl rfl),
   (fun lv st t w => Ex_M (i := .aload_n 0) (n := 1) (by decide +kernel) rfl rfl rfl),
   (fun lv l st a w => Ex_getf (by decide +kernel : decode M_X11_judge.2.1 53 = .ok (.getfield 12, 3)) rfl (by decide +kernel : resF (mCn M_X11_judge) 12 = some (10, 0, (.object "CarpetLands$Country"), true))),
   (fun lv l st a w => Ex_getf (by decide +kernel : decode M_X11_judge.2.1 56 = .ok (.getfield 78, 3)) rfl (by decide +kernel : resF (mCn M_X11_judge) 78 = some (1, 0, (.object "CarpetLands$Carpet"), true))),
   (fun lv st t o0 o1 o2 x w => Ex_M (i := .iload_n 3) (n := 1) (by decide +kernel) rfl rfl rfl),
   (fun lv l b a0 s0 w => Ex_callV (by decide +kernel : decode M_X11_judge.2.1 60 = .ok (.invokevirtual 82, 3)) rfl (by rfl : resM (mCn M_X11_judge) 82 = some (2, M_X0_colourOf)) rfl (by rfl) (Nat.le_of_ble_eq_true rfl) (by decide +kernel) (sLv_lt (by decide +kernel))),
   (fun lv l st x y w => Ex_icmp_eq (by decide +kernel : decode M_X11_judge.2.1 63 = .ok (.if_icmp .eq 5, 3)) rfl rfl),
   (fun lv st t o0 o1 o2 x w => Ex_M (i := .iload_n 3) (n := 1) (by decide +kernel) rfl rfl rfl),
   (fun lv l x w => Ex_R (i := .ireturn) (n := 1) (by decide +kernel) rfl rfl rfl rfl rfl),
   (fun lv st t o0 o1 o2 x w => Ex_iinc (by decide +kernel : decode M_X11_judge.2.1 68 = .ok (.iinc 3 1, 3)) rfl rfl (by decide) (by decide)),
   (fun lv l st w => Ex_goto (by decide +kernel : decode M_X11_judge.2.1 71 = .ok (.goto (-38), 3)) rfl),
   (fun lv st t o0 o1 x w => Ex_M (i := .aload_n 2) (n := 1) (by decide +kernel) rfl rfl rfl),
   (fun lv st t o0 o1 w => Ex_M (i := .aload_n 2) (n := 1) (by decide +kernel) rfl rfl rfl),
   (fun lv l st w => Ex_A (i := .bipush 36) (n := 2) (by decide +kernel) rfl rfl),
   (fun lv l b a0 w => Ex_callV (by decide +kernel : decode M_X11_judge.2.1 77 = .ok (.invokevirtual 308, 3)) rfl (by rfl : resM (mCn M_X11_judge) 308 = some (2, M_X8_has)) rfl (by rfl) (Nat.le_of_ble_eq_true rfl) (by decide +kernel) (sLv_lt (by decide +kernel))),
   (fun lv l st x w => Ex_if_eq (by decide +kernel : decode M_X11_judge.2.1 80 = .ok (.ifCond .eq 8, 3)) rfl rfl),
   (fun lv l st w => Ex_A (i := .bipush 36) (n := 2) (by decide +kernel) rfl rfl),
   (fun lv l st w => Ex_goto (by decide +kernel : decode M_X11_judge.2.1 85 = .ok (.goto 4, 3)) rfl),
   (fun lv l st w => Ex_A (i := .iconst (-1)) (n := 1) (by decide +kernel) rfl rfl),
   (fun lv l x w => Ex_R (i := .ireturn) (n := 1) (by decide +kernel) rfl rfl rfl rfl rfl)⟩
set_option maxRecDepth 20000 in
set_option maxHeartbeats 4000000 in
theorem R_X11_image : (∀ (lv : Nat) (st : List Value) (t : LX) (x : Nat) (w : AH), Ex M_X11_image lv 0 (some (.ref x) :: t) st w = Ex M_X11_image lv 1 (some (.ref x) :: t) (.ref x :: st) w)
  ∧ (∀ (lv : Nat) (st : List Value) (t : LX) (w : AH), Ex M_X11_image lv 0 (some (.null) :: t) st w = Ex M_X11_image lv 1 (some (.null) :: t) (.null :: st) w)
  ∧ (∀ (lv : Nat) (l : LX) (st : List Value) (a : Nat) (w : AH), Ex M_X11_image lv 1 l (.ref a :: st) w = if (gf (hg w a) 10 1).isSome = true then Ex M_X11_image lv 4 l (vV (gf (hg w a) 10 1) :: st) w else none)
  ∧ (∀ (lv : Nat) (st : List Value) (t : LX) (x : Nat) (w : AH), Ex M_X11_image lv 4 (some (.ref x) :: t) st w = Ex M_X11_image lv 5 (some (.ref x) :: t) (.ref x :: st) w)
  ∧ (∀ (lv : Nat) (st : List Value) (t : LX) (w : AH), Ex M_X11_image lv 4 (some (.null) :: t) st w = Ex M_X11_image lv 5 (some (.null) :: t) (.null :: st) w)
  ∧ (∀ (lv : Nat) (l : LX) (st : List Value) (a : Nat) (w : AH), Ex M_X11_image lv 5 l (.ref a :: st) w = if (gf (hg w a) 10 0).isSome = true then Ex M_X11_image lv 8 l (vV (gf (hg w a) 10 0) :: st) w else none)
  ∧ (∀ (lv : Nat) (l : LX) (b : Nat) (a0 : Nat) (w : AH), Ex M_X11_image lv 8 l (.ref a0 :: .ref b :: []) w = if clK (hg w b) = 1 then (if (Call M_X1_copyFrom 60 [.ref b, .ref a0] w).isSome = true then Ex M_X11_image lv 11 l (pushR (cV (Call M_X1_copyFrom 60 [.ref b, .ref a0] w)) []) (cW (Call M_X1_copyFrom 60 [.ref b, .ref a0] w) w) else none) else none)
  ∧ (∀ (lv : Nat) (st : List Value) (t : LX) (x : Nat) (w : AH), Ex M_X11_image lv 11 (some (.ref x) :: t) st w = Ex M_X11_image lv 12 (some (.ref x) :: t) (.ref x :: st) w)
  ∧ (∀ (lv : Nat) (st : List Value) (t : LX) (w : AH), Ex M_X11_image lv 11 (some (.null) :: t) st w = Ex M_X11_image lv 12 (some (.null) :: t) (.null :: st) w)
  ∧ (∀ (lv : Nat) (l : LX) (st : List Value) (x : Nat) (w : AH), Ex M_X11_image lv 12 l (.ref x :: st) w = Ex M_X11_image lv 13 l (.ref x :: .ref x :: st) w)
  ∧ (∀ (lv : Nat) (l : LX) (st : List Value) (a : Nat) (w : AH), Ex M_X11_image lv 13 l (.ref a :: st) w = if (gf (hg w a) 10 9).isSome = true then Ex M_X11_image lv 16 l (vV (gf (hg w a) 10 9) :: st) w else none)
  ∧ (∀ (lv : Nat) (l : LX) (st : List Value) (w : AH), Ex M_X11_image lv 16 l st w = Ex M_X11_image lv 17 l (.int 1 :: st) w)
  ∧ (∀ (lv : Nat) (l : LX) (st : List Value) (x y : Int32) (w : AH), Ex M_X11_image lv 17 l (.int y :: .int x :: st) w = Ex M_X11_image lv 18 l (.int (x + y) :: st) w)
  ∧ (∀ (lv : Nat) (l : LX) (st : List Value) (a : Nat) (v : Value) (w : AH), Ex M_X11_image lv 18 l (v :: .ref a :: st) w = if (pf (hg w a) 10 9 .int v).isSome = true then Ex M_X11_image lv 21 l st (hs w a (vE (pf (hg w a) 10 9 .int v))) else none)
  ∧ (∀ (lv : Nat) (st : List Value) (t : LX) (x : Nat) (w : AH), Ex M_X11_image lv 21 (some (.ref x) :: t) st w = Ex M_X11_image lv 22 (some (.ref x) :: t) (.ref x :: st) w)
  ∧ (∀ (lv : Nat) (st : List Value) (t : LX) (w : AH), Ex M_X11_image lv 21 (some (.null) :: t) st w = Ex M_X11_image lv 22 (some (.null) :: t) (.null :: st) w)
  ∧ (∀ (lv : Nat) (l : LX) (st : List Value) (a : Nat) (w : AH), Ex M_X11_image lv 22 l (.ref a :: st) w = if (gf (hg w a) 10 9).isSome = true then Ex M_X11_image lv 25 l (vV (gf (hg w a) 10 9) :: st) w else none)
  ∧ (∀ (lv : Nat) (l : LX) (x : Int32) (w : AH), Ex M_X11_image lv 25 l [.int x] w = some (some (.int x), w)) :=
  ⟨(fun lv st t x w => Ex_M (i := .aload_n 0) (n := 1) (by decide +kernel) rfl rfl rfl),
   (fun lv st t w => Ex_M (i := .aload_n 0) (n := 1) (by decide +kernel) rfl rfl rfl),
   (fun lv l st a w => Ex_getf (by decide +kernel : decode M_X11_image.2.1 1 = .ok (.getfield 16, 3)) rfl (by decide +kernel : resF (mCn M_X11_image) 16 = some (10, 1, (.object "CarpetLands$Country"), true))),
   (fun lv st t x w => Ex_M (i := .aload_n 0) (n := 1) (by decide +kernel) rfl rfl rfl),
   (fun lv st t w => Ex_M (i := .aload_n 0) (n := 1) (by decide +kernel) rfl rfl rfl),
   (fun lv l st a w => Ex_getf (by decide +kernel : decode M_X11_image.2.1 5 = .ok (.getfield 12, 3)) rfl (by decide +kernel : resF (mCn M_X11_image) 12 = some (10, 0, (.object "CarpetLands$Country"), true))),
   (fun lv l b a0 w => Ex_callV (by decide +kernel : decode M_X11_image.2.1 8 = .ok (.invokevirtual 282, 3)) rfl (by rfl : resM (mCn M_X11_image) 282 = some (2, M_X1_copyFrom)) rfl (by rfl) (Nat.le_of_ble_eq_true rfl) (by decide +kernel) (sLv_lt (by decide +kernel))),
   (fun lv st t x w => Ex_M (i := .aload_n 0) (n := 1) (by decide +kernel) rfl rfl rfl),
   (fun lv st t w => Ex_M (i := .aload_n 0) (n := 1) (by decide +kernel) rfl rfl rfl),
   (fun lv l st x w => Ex_A (i := .dup) (n := 1) (by decide +kernel) rfl rfl),
   (fun lv l st a w => Ex_getf (by decide +kernel : decode M_X11_image.2.1 13 = .ok (.getfield 60, 3)) rfl (by decide +kernel : resF (mCn M_X11_image) 60 = some (10, 9, .int, false))),
   (fun lv l st w => Ex_A (i := .iconst 1) (n := 1) (by decide +kernel) rfl rfl),
   (fun lv l st x y w => Ex_A (i := .iadd) (n := 1) (by decide +kernel) rfl rfl),
   (fun lv l st a v w => Ex_putf (by decide +kernel : decode M_X11_image.2.1 18 = .ok (.putfield 60, 3)) rfl (by decide +kernel : resF (mCn M_X11_image) 60 = some (10, 9, .int, false)) (by decide +kernel)),
   (fun lv st t x w => Ex_M (i := .aload_n 0) (n := 1) (by decide +kernel) rfl rfl rfl),
   (fun lv st t w => Ex_M (i := .aload_n 0) (n := 1) (by decide +kernel) rfl rfl rfl),
   (fun lv l st a w => Ex_getf (by decide +kernel : decode M_X11_image.2.1 22 = .ok (.getfield 60, 3)) rfl (by decide +kernel : resF (mCn M_X11_image) 60 = some (10, 9, .int, false))),
   (fun lv l x w => Ex_R (i := .ireturn) (n := 1) (by decide +kernel) rfl rfl rfl rfl rfl)⟩
set_option maxRecDepth 20000 in
set_option maxHeartbeats 4000000 in
theorem R_X11_restore : (∀ (lv : Nat) (st : List Value) (t : LX) (x : Nat) (w : AH), Ex M_X11_restore lv 0 (some (.ref x) :: t) st w = Ex M_X11_restore lv 1 (some (.ref x) :: t) (.ref x :: st) w)
  ∧ (∀ (lv : Nat) (st : List Value) (t : LX) (w : AH), Ex M_X11_restore lv 0 (some (.null) :: t) st w = Ex M_X11_restore lv 1 (some (.null) :: t) (.null :: st) w)
  ∧ (∀ (lv : Nat) (l : LX) (st : List Value) (a : Nat) (w : AH), Ex M_X11_restore lv 1 l (.ref a :: st) w = if (gf (hg w a) 10 9).isSome = true then Ex M_X11_restore lv 4 l (vV (gf (hg w a) 10 9) :: st) w else none)
  ∧ (∀ (lv : Nat) (l : LX) (st : List Value) (x : Int32) (w : AH), Ex M_X11_restore lv 4 l (.int x :: st) w = if ¬ x = 0 then Ex M_X11_restore lv 14 l st w else Ex M_X11_restore lv 7 l st w)
  ∧ (∀ (lv : Nat) (st : List Value) (t : LX) (x : Nat) (w : AH), Ex M_X11_restore lv 7 (some (.ref x) :: t) st w = Ex M_X11_restore lv 8 (some (.ref x) :: t) (.ref x :: st) w)
  ∧ (∀ (lv : Nat) (st : List Value) (t : LX) (w : AH), Ex M_X11_restore lv 7 (some (.null) :: t) st w = Ex M_X11_restore lv 8 (some (.null) :: t) (.null :: st) w)
  ∧ (∀ (lv : Nat) (l : LX) (st : List Value) (w : AH), Ex M_X11_restore lv 8 l st w = Ex M_X11_restore lv 10 l (.int (-1000000002) :: st) w)
  ∧ (∀ (lv : Nat) (l : LX) (b : Nat) (a0 : Int32) (w : AH), Ex M_X11_restore lv 10 l (.int a0 :: .ref b :: []) w = if clK (hg w b) = 10 then (if (Call M_X11_refuse 60 [.ref b, .int a0] w).isSome = true then Ex M_X11_restore lv 13 l (pushR (cV (Call M_X11_refuse 60 [.ref b, .int a0] w)) []) (cW (Call M_X11_refuse 60 [.ref b, .int a0] w) w) else none) else none)
  ∧ (∀ (lv : Nat) (l : LX) (x : Int32) (w : AH), Ex M_X11_restore lv 13 l [.int x] w = some (some (.int x), w))
  ∧ (∀ (lv : Nat) (st : List Value) (t : LX) (x : Nat) (w : AH), Ex M_X11_restore lv 14 (some (.ref x) :: t) st w = Ex M_X11_restore lv 15 (some (.ref x) :: t) (.ref x :: st) w)
  ∧ (∀ (lv : Nat) (st : List Value) (t : LX) (w : AH), Ex M_X11_restore lv 14 (some (.null) :: t) st w = Ex M_X11_restore lv 15 (some (.null) :: t) (.null :: st) w)
  ∧ (∀ (lv : Nat) (l : LX) (st : List Value) (a : Nat) (w : AH), Ex M_X11_restore lv 15 l (.ref a :: st) w = if (gf (hg w a) 10 0).isSome = true then Ex M_X11_restore lv 18 l (vV (gf (hg w a) 10 0) :: st) w else none)
  ∧ (∀ (lv : Nat) (st : List Value) (t : LX) (x : Nat) (w : AH), Ex M_X11_restore lv 18 (some (.ref x) :: t) st w = Ex M_X11_restore lv 19 (some (.ref x) :: t) (.ref x :: st) w)
  ∧ (∀ (lv : Nat) (st : List Value) (t : LX) (w : AH), Ex M_X11_restore lv 18 (some (.null) :: t) st w = Ex M_X11_restore lv 19 (some (.null) :: t) (.null :: st) w)
  ∧ (∀ (lv : Nat) (l : LX) (st : List Value) (a : Nat) (w : AH), Ex M_X11_restore lv 19 l (.ref a :: st) w = if (gf (hg w a) 10 1).isSome = true then Ex M_X11_restore lv 22 l (vV (gf (hg w a) 10 1) :: st) w else none)
  ∧ (∀ (lv : Nat) (l : LX) (b : Nat) (a0 : Nat) (w : AH), Ex M_X11_restore lv 22 l (.ref a0 :: .ref b :: []) w = if clK (hg w b) = 1 then (if (Call M_X1_copyFrom 60 [.ref b, .ref a0] w).isSome = true then Ex M_X11_restore lv 25 l (pushR (cV (Call M_X1_copyFrom 60 [.ref b, .ref a0] w)) []) (cW (Call M_X1_copyFrom 60 [.ref b, .ref a0] w) w) else none) else none)
  ∧ (∀ (lv : Nat) (st : List Value) (t : LX) (x : Nat) (w : AH), Ex M_X11_restore lv 25 (some (.ref x) :: t) st w = Ex M_X11_restore lv 26 (some (.ref x) :: t) (.ref x :: st) w)
  ∧ (∀ (lv : Nat) (st : List Value) (t : LX) (w : AH), Ex M_X11_restore lv 25 (some (.null) :: t) st w = Ex M_X11_restore lv 26 (some (.null) :: t) (.null :: st) w)
  ∧ (∀ (lv : Nat) (l : LX) (st : List Value) (a : Nat) (w : AH), Ex M_X11_restore lv 26 l (.ref a :: st) w = if (gf (hg w a) 10 0).isSome = true then Ex M_X11_restore lv 29 l (vV (gf (hg w a) 10 0) :: st) w else none)
  ∧ (∀ (lv : Nat) (l : LX) (st : List Value) (a : Nat) (w : AH), Ex M_X11_restore lv 29 l (.ref a :: st) w = if (gf (hg w a) 1 7).isSome = true then Ex M_X11_restore lv 32 l (vV (gf (hg w a) 1 7) :: st) w else none)
  ∧ (∀ (lv : Nat) (l : LX) (x : Int32) (w : AH), Ex M_X11_restore lv 32 l [.int x] w = some (some (.int x), w)) :=
  ⟨(fun lv st t x w => Ex_M (i := .aload_n 0) (n := 1) (by decide +kernel) rfl rfl rfl),
   (fun lv st t w => Ex_M (i := .aload_n 0) (n := 1) (by decide +kernel) rfl rfl rfl),
   (fun lv l st a w => Ex_getf (by decide +kernel : decode M_X11_restore.2.1 1 = .ok (.getfield 60, 3)) rfl (by decide +kernel : resF (mCn M_X11_restore) 60 = some (10, 9, .int, false))),
   (fun lv l st x w => Ex_if_ne (by decide +kernel : decode M_X11_restore.2.1 4 = .ok (.ifCond .ne 10, 3)) rfl rfl),
   (fun lv st t x w => Ex_M (i := .aload_n 0) (n := 1) (by decide +kernel) rfl rfl rfl),
   (fun lv st t w => Ex_M (i := .aload_n 0) (n := 1) (by decide +kernel) rfl rfl rfl),
   (fun lv l st w => Ex_ldcI (by decide +kernel : decode M_X11_restore.2.1 8 = .ok (.ldc 218, 2)) rfl (by decide +kernel)),
   (fun lv l b a0 w => Ex_callV (by decide +kernel : decode M_X11_restore.2.1 10 = .ok (.invokevirtual 74, 3)) rfl (by rfl : resM (mCn M_X11_restore) 74 = some (2, M_X11_refuse)) rfl (by rfl) (Nat.le_of_ble_eq_true rfl) (by decide +kernel) (sLv_lt (by decide +kernel))),
   (fun lv l x w => Ex_R (i := .ireturn) (n := 1) (by decide +kernel) rfl rfl rfl rfl rfl),
   (fun lv st t x w => Ex_M (i := .aload_n 0) (n := 1) (by decide +kernel) rfl rfl rfl),
   (fun lv st t w => Ex_M (i := .aload_n 0) (n := 1) (by decide +kernel) rfl rfl rfl),
   (fun lv l st a w => Ex_getf (by decide +kernel : decode M_X11_restore.2.1 15 = .ok (.getfield 12, 3)) rfl (by decide +kernel : resF (mCn M_X11_restore) 12 = some (10, 0, (.object "CarpetLands$Country"), true))),
   (fun lv st t x w => Ex_M (i := .aload_n 0) (n := 1) (by decide +kernel) rfl rfl rfl),
   (fun lv st t w => Ex_M (i := .aload_n 0) (n := 1) (by decide +kernel) rfl rfl rfl),
   (fun lv l st a w => Ex_getf (by decide +kernel : decode M_X11_restore.2.1 19 = .ok (.getfield 16, 3)) rfl (by decide +kernel : resF (mCn M_X11_restore) 16 = some (10, 1, (.object "CarpetLands$Country"), true))),
   (fun lv l b a0 w => Ex_callV (by decide +kernel : decode M_X11_restore.2.1 22 = .ok (.invokevirtual 282, 3)) rfl (by rfl : resM (mCn M_X11_restore) 282 = some (2, M_X1_copyFrom)) rfl (by rfl) (Nat.le_of_ble_eq_true rfl) (by decide +kernel) (sLv_lt (by decide +kernel))),
   (fun lv st t x w => Ex_M (i := .aload_n 0) (n := 1) (by decide +kernel) rfl rfl rfl),
   (fun lv st t w => Ex_M (i := .aload_n 0) (n := 1) (by decide +kernel) rfl rfl rfl),
   (fun lv l st a w => Ex_getf (by decide +kernel : decode M_X11_restore.2.1 26 = .ok (.getfield 12, 3)) rfl (by decide +kernel : resF (mCn M_X11_restore) 12 = some (10, 0, (.object "CarpetLands$Country"), true))),
   (fun lv l st a w => Ex_getf (by decide +kernel : decode M_X11_restore.2.1 29 = .ok (.getfield 201, 3)) rfl (by decide +kernel : resF (mCn M_X11_restore) 201 = some (1, 7, .int, false))),
   (fun lv l x w => Ex_R (i := .ireturn) (n := 1) (by decide +kernel) rfl rfl rfl rfl rfl)⟩
set_option maxRecDepth 20000 in
set_option maxHeartbeats 4000000 in
theorem R_X11_tell : (∀ (lv : Nat) (st : List Value) (t : LX) (x : Nat) (w : AH), Ex M_X11_tell lv 0 (some (.ref x) :: t) st w = Ex M_X11_tell lv 1 (some (.ref x) :: t) (.ref x :: st) w)
  ∧ (∀ (lv : Nat) (st : List Value) (t : LX) (w : AH), Ex M_X11_tell lv 0 (some (.null) :: t) st w = Ex M_X11_tell lv 1 (some (.null) :: t) (.null :: st) w)
  ∧ (∀ (lv : Nat) (l : LX) (st : List Value) (a : Nat) (w : AH), Ex M_X11_tell lv 1 l (.ref a :: st) w = if (gf (hg w a) 10 0).isSome = true then Ex M_X11_tell lv 4 l (vV (gf (hg w a) 10 0) :: st) w else none)
  ∧ (∀ (lv : Nat) (l : LX) (st : List Value) (a : Nat) (w : AH), Ex M_X11_tell lv 4 l (.ref a :: st) w = if (gf (hg w a) 1 5).isSome = true then Ex M_X11_tell lv 7 l (vV (gf (hg w a) 1 5) :: st) w else none)
  ∧ (∀ (lv : Nat) (st : List Value) (t : LX) (o0 : Option Value) (x : Int32) (w : AH), Ex M_X11_tell lv 7 (o0 :: some (.int x) :: t) st w = Ex M_X11_tell lv 8 (o0 :: some (.int x) :: t) (.int x :: st) w)
  ∧ (∀ (lv : Nat) (l : LX) (b : Nat) (a0 : Int32) (w : AH), Ex M_X11_tell lv 8 l (.int a0 :: .ref b :: []) w = if clK (hg w b) = 6 then (if (Call M_X6_add 60 [.ref b, .int a0] w).isSome = true then Ex M_X11_tell lv 11 l (pushR (cV (Call M_X6_add 60 [.ref b, .int a0] w)) []) (cW (Call M_X6_add 60 [.ref b, .int a0] w) w) else none) else none)
  ∧ (∀ (lv : Nat) (l : LX) (st : List Value) (x : Int32) (w : AH), Ex M_X11_tell lv 11 l (.int x :: st) w = if x = 0 then Ex M_X11_tell lv 27 l st w else Ex M_X11_tell lv 14 l st w)
  ∧ (∀ (lv : Nat) (st : List Value) (t : LX) (x : Nat) (w : AH), Ex M_X11_tell lv 14 (some (.ref x) :: t) st w = Ex M_X11_tell lv 15 (some (.ref x) :: t) (.ref x :: st) w)
  ∧ (∀ (lv : Nat) (st : List Value) (t : LX) (w : AH), Ex M_X11_tell lv 14 (some (.null) :: t) st w = Ex M_X11_tell lv 15 (some (.null) :: t) (.null :: st) w)
  ∧ (∀ (lv : Nat) (l : LX) (st : List Value) (a : Nat) (w : AH), Ex M_X11_tell lv 15 l (.ref a :: st) w = if (gf (hg w a) 10 0).isSome = true then Ex M_X11_tell lv 18 l (vV (gf (hg w a) 10 0) :: st) w else none)
  ∧ (∀ (lv : Nat) (l : LX) (st : List Value) (a : Nat) (w : AH), Ex M_X11_tell lv 18 l (.ref a :: st) w = if (gf (hg w a) 1 5).isSome = true then Ex M_X11_tell lv 21 l (vV (gf (hg w a) 1 5) :: st) w else none)
  ∧ (∀ (lv : Nat) (l : LX) (st : List Value) (a : Nat) (w : AH), Ex M_X11_tell lv 21 l (.ref a :: st) w = if (gf (hg w a) 6 1).isSome = true then Ex M_X11_tell lv 24 l (vV (gf (hg w a) 6 1) :: st) w else none)
  ∧ (∀ (lv : Nat) (l : LX) (st : List Value) (w : AH), Ex M_X11_tell lv 24 l st w = Ex M_X11_tell lv 33 l st w)
  ∧ (∀ (lv : Nat) (st : List Value) (t : LX) (x : Nat) (w : AH), Ex M_X11_tell lv 27 (some (.ref x) :: t) st w = Ex M_X11_tell lv 28 (some (.ref x) :: t) (.ref x :: st) w)
  ∧ (∀ (lv : Nat) (st : List Value) (t : LX) (w : AH), Ex M_X11_tell lv 27 (some (.null) :: t) st w = Ex M_X11_tell lv 28 (some (.null) :: t) (.null :: st) w)
  ∧ (∀ (lv : Nat) (l : LX) (st : List Value) (w : AH), Ex M_X11_tell lv 28 l st w = Ex M_X11_tell lv 30 l (.int (-1000000004) :: st) w)
  ∧ (∀ (lv : Nat) (l : LX) (b : Nat) (a0 : Int32) (w : AH), Ex M_X11_tell lv 30 l (.int a0 :: .ref b :: []) w = if clK (hg w b) = 10 then (if (Call M_X11_refuse 60 [.ref b, .int a0] w).isSome = true then Ex M_X11_tell lv 33 l (pushR (cV (Call M_X11_refuse 60 [.ref b, .int a0] w)) []) (cW (Call M_X11_refuse 60 [.ref b, .int a0] w) w) else none) else none)
  ∧ (∀ (lv : Nat) (l : LX) (x : Int32) (w : AH), Ex M_X11_tell lv 33 l [.int x] w = some (some (.int x), w)) :=
  ⟨(fun lv st t x w => Ex_M (i := .aload_n 0) (n := 1) (by decide +kernel) rfl rfl rfl),
   (fun lv st t w => Ex_M (i := .aload_n 0) (n := 1) (by decide +kernel) rfl rfl rfl),
   (fun lv l st a w => Ex_getf (by decide +kernel : decode M_X11_tell.2.1 1 = .ok (.getfield 12, 3)) rfl (by decide +kernel : resF (mCn M_X11_tell) 12 = some (10, 0, (.object "CarpetLands$Country"), true))),
   (fun lv l st a w => Ex_getf (by decide +kernel : decode M_X11_tell.2.1 4 = .ok (.getfield 329, 3)) rfl (by decide +kernel : resF (mCn M_X11_tell) 329 = some (1, 5, (.object "CarpetLands$Row"), true))),
   (fun lv st t o0 x w => Ex_M (i := .iload_n 1) (n := 1) (by decide +kernel) rfl rfl rfl),
   (fun lv l b a0 w => Ex_callV (by decide +kernel : decode M_X11_tell.2.1 8 = .ok (.invokevirtual 171, 3)) rfl (by rfl : resM (mCn M_X11_tell) 171 = some (2, M_X6_add)) rfl (by rfl) (Nat.le_of_ble_eq_true rfl) (by decide +kernel) (sLv_lt (by decide +kernel))),
   (fun lv l st x w => Ex_if_eq (by decide +kernel : decode M_X11_tell.2.1 11 = .ok (.ifCond .eq 16, 3)) rfl rfl),
   (fun lv st t x w => Ex_M (i := .aload_n 0) (n := 1) (by decide +kernel) rfl rfl rfl),
   (fun lv st t w => Ex_M (i := .aload_n 0) (n := 1) (by decide +kernel) rfl rfl rfl),
   (fun lv l st a w => Ex_getf (by decide +kernel : decode M_X11_tell.2.1 15 = .ok (.getfield 12, 3)) rfl (by decide +kernel : resF (mCn M_X11_tell) 12 = some (10, 0, (.object "CarpetLands$Country"), true))),
   (fun lv l st a w => Ex_getf (by decide +kernel : decode M_X11_tell.2.1 18 = .ok (.getfield 329, 3)) rfl (by decide +kernel : resF (mCn M_X11_tell) 329 = some (1, 5, (.object "CarpetLands$Row"), true))),
   (fun lv l st a w => Ex_getf (by decide +kernel : decode M_X11_tell.2.1 21 = .ok (.getfield 166, 3)) rfl (by decide +kernel : resF (mCn M_X11_tell) 166 = some (6, 1, .int, false))),
   (fun lv l st w => Ex_goto (by decide +kernel : decode M_X11_tell.2.1 24 = .ok (.goto 9, 3)) rfl),
   (fun lv st t x w => Ex_M (i := .aload_n 0) (n := 1) (by decide +kernel) rfl rfl rfl),
   (fun lv st t w => Ex_M (i := .aload_n 0) (n := 1) (by decide +kernel) rfl rfl rfl),
   (fun lv l st w => Ex_ldcI (by decide +kernel : decode M_X11_tell.2.1 28 = .ok (.ldc 132, 2)) rfl (by decide +kernel)),
   (fun lv l b a0 w => Ex_callV (by decide +kernel : decode M_X11_tell.2.1 30 = .ok (.invokevirtual 74, 3)) rfl (by rfl : resM (mCn M_X11_tell) 74 = some (2, M_X11_refuse)) rfl (by rfl) (Nat.le_of_ble_eq_true rfl) (by decide +kernel) (sLv_lt (by decide +kernel))),
   (fun lv l x w => Ex_R (i := .ireturn) (n := 1) (by decide +kernel) rfl rfl rfl rfl rfl)⟩
set_option maxRecDepth 20000 in
theorem H_X11_check_23 : ∀ (lv : Nat) (st : List Value) (t : LX) (o0 : Option Value) (x : Int32) (w : AH), Ex M_X11_check lv 23 (o0 :: some (.int x) :: t) st w = Ex M_X11_check lv 24 (o0 :: some (.int x) :: t) (.int x :: st) w := fun lv st t o0 x w => Ex_M (i := .iload_n 1) (n := 1) (by decide +kernel) rfl rfl rfl
set_option maxRecDepth 20000 in
set_option maxHeartbeats 4000000 in
theorem R_X11_check : (∀ (lv : Nat) (st : List Value) (t : LX) (x : Nat) (w : AH), Ex M_X11_check lv 0 (some (.ref x) :: t) st w = Ex M_X11_check lv 1 (some (.ref x) :: t) (.ref x :: st) w)
  ∧ (∀ (lv : Nat) (st : List Value) (t : LX) (w : AH), Ex M_X11_check lv 0 (some (.null) :: t) st w = Ex M_X11_check lv 1 (some (.null) :: t) (.null :: st) w)
  ∧ (∀ (lv : Nat) (l : LX) (st : List Value) (a : Nat) (w : AH), Ex M_X11_check lv 1 l (.ref a :: st) w = if (gf (hg w a) 10 2).isSome = true then Ex M_X11_check lv 4 l (vV (gf (hg w a) 10 2) :: st) w else none)
  ∧ (∀ (lv : Nat) (st : List Value) (t : LX) (x : Nat) (w : AH), Ex M_X11_check lv 4 (some (.ref x) :: t) st w = Ex M_X11_check lv 5 (some (.ref x) :: t) (.ref x :: st) w)
  ∧ (∀ (lv : Nat) (st : List Value) (t : LX) (w : AH), Ex M_X11_check lv 4 (some (.null) :: t) st w = Ex M_X11_check lv 5 (some (.null) :: t) (.null :: st) w)
  ∧ (∀ (lv : Nat) (l : LX) (st : List Value) (a : Nat) (w : AH), Ex M_X11_check lv 5 l (.ref a :: st) w = if (gf (hg w a) 10 0).isSome = true then Ex M_X11_check lv 8 l (vV (gf (hg w a) 10 0) :: st) w else none)
  ∧ (∀ (lv : Nat) (l : LX) (b : Nat) (a0 : Nat) (w : AH), Ex M_X11_check lv 8 l (.ref a0 :: .ref b :: []) w = if clK (hg w b) = 1 then (if (Call M_X1_copyFrom 60 [.ref b, .ref a0] w).isSome = true then Ex M_X11_check lv 11 l (pushR (cV (Call M_X1_copyFrom 60 [.ref b, .ref a0] w)) []) (cW (Call M_X1_copyFrom 60 [.ref b, .ref a0] w) w) else none) else none)
  ∧ (∀ (lv : Nat) (st : List Value) (t : LX) (x : Nat) (w : AH), Ex M_X11_check lv 11 (some (.ref x) :: t) st w = Ex M_X11_check lv 12 (some (.ref x) :: t) (.ref x :: st) w)
  ∧ (∀ (lv : Nat) (st : List Value) (t : LX) (w : AH), Ex M_X11_check lv 11 (some (.null) :: t) st w = Ex M_X11_check lv 12 (some (.null) :: t) (.null :: st) w)
  ∧ (∀ (lv : Nat) (l : LX) (st : List Value) (a : Nat) (w : AH), Ex M_X11_check lv 12 l (.ref a :: st) w = if (gf (hg w a) 10 0).isSome = true then Ex M_X11_check lv 15 l (vV (gf (hg w a) 10 0) :: st) w else none)
  ∧ (∀ (lv : Nat) (l : LX) (st : List Value) (a : Nat) (w : AH), Ex M_X11_check lv 15 l (.ref a :: st) w = if (gf (hg w a) 1 5).isSome = true then Ex M_X11_check lv 18 l (vV (gf (hg w a) 1 5) :: st) w else none)
  ∧ (∀ (lv : Nat) (l : LX) (b : Nat) (w : AH), Ex M_X11_check lv 18 l (.ref b :: []) w = if clK (hg w b) = 6 then (if (Call M_X6_clear 60 [.ref b] w).isSome = true then Ex M_X11_check lv 21 l (pushR (cV (Call M_X6_clear 60 [.ref b] w)) []) (cW (Call M_X6_clear 60 [.ref b] w) w) else none) else none)
  ∧ (∀ (lv : Nat) (l : LX) (st : List Value) (w : AH), Ex M_X11_check lv 21 l st w = Ex M_X11_check lv 22 l (.int 0 :: st) w)
  ∧ (∀ (lv : Nat) (l : LX) (st : List Value) (x : Int32) (w : AH), Ex M_X11_check lv 22 l (.int x :: st) w = Ex M_X11_check lv 23 (ls1 l 1 (.int x)) st w)
  ∧ (∀ (lv : Nat) (st : List Value) (t : LX) (x : Nat) (w : AH), Ex M_X11_check lv 24 (some (.ref x) :: t) st w = Ex M_X11_check lv 25 (some (.ref x) :: t) (.ref x :: st) w)
  ∧ (∀ (lv : Nat) (st : List Value) (t : LX) (w : AH), Ex M_X11_check lv 24 (some (.null) :: t) st w = Ex M_X11_check lv 25 (some (.null) :: t) (.null :: st) w)
  ∧ (∀ (lv : Nat) (l : LX) (st : List Value) (a : Nat) (w : AH), Ex M_X11_check lv 25 l (.ref a :: st) w = if (gf (hg w a) 10 2).isSome = true then Ex M_X11_check lv 28 l (vV (gf (hg w a) 10 2) :: st) w else none)
  ∧ (∀ (lv : Nat) (l : LX) (st : List Value) (a : Nat) (w : AH), Ex M_X11_check lv 28 l (.ref a :: st) w = if (gf (hg w a) 1 5).isSome = true then Ex M_X11_check lv 31 l (vV (gf (hg w a) 1 5) :: st) w else none)
  ∧ (∀ (lv : Nat) (l : LX) (st : List Value) (a : Nat) (w : AH), Ex M_X11_check lv 31 l (.ref a :: st) w = if (gf (hg w a) 6 1).isSome = true then Ex M_X11_check lv 34 l (vV (gf (hg w a) 6 1) :: st) w else none)
  ∧ (∀ (lv : Nat) (l : LX) (st : List Value) (x y : Int32) (w : AH), Ex M_X11_check lv 34 l (.int y :: .int x :: st) w = if y ≤ x then Ex M_X11_check lv 78 l st w else Ex M_X11_check lv 37 l st w)
  ∧ (∀ (lv : Nat) (st : List Value) (t : LX) (x : Nat) (w : AH), Ex M_X11_check lv 37 (some (.ref x) :: t) st w = Ex M_X11_check lv 38 (some (.ref x) :: t) (.ref x :: st) w)
  ∧ (∀ (lv : Nat) (st : List Value) (t : LX) (w : AH), Ex M_X11_check lv 37 (some (.null) :: t) st w = Ex M_X11_check lv 38 (some (.null) :: t) (.null :: st) w)
  ∧ (∀ (lv : Nat) (l : LX) (st : List Value) (a : Nat) (w : AH), Ex M_X11_check lv 38 l (.ref a :: st) w = if (gf (hg w a) 10 2).isSome = true then Ex M_X11_check lv 41 l (vV (gf (hg w a) 10 2) :: st) w else none)
  ∧ (∀ (lv : Nat) (l : LX) (b : Nat) (w : AH), Ex M_X11_check lv 41 l (.ref b :: []) w = if clK (hg w b) = 1 then (if (Call M_X1_passDay 60 [.ref b] w).isSome = true then Ex M_X11_check lv 44 l (pushR (cV (Call M_X1_passDay 60 [.ref b] w)) []) (cW (Call M_X1_passDay 60 [.ref b] w) w) else none) else none)
  ∧ (∀ (lv : Nat) (st : List Value) (t : LX) (x : Nat) (w : AH), Ex M_X11_check lv 44 (some (.ref x) :: t) st w = Ex M_X11_check lv 45 (some (.ref x) :: t) (.ref x :: st) w)
  ∧ (∀ (lv : Nat) (st : List Value) (t : LX) (w : AH), Ex M_X11_check lv 44 (some (.null) :: t) st w = Ex M_X11_check lv 45 (some (.null) :: t) (.null :: st) w)
  ∧ (∀ (lv : Nat) (l : LX) (st : List Value) (a : Nat) (w : AH), Ex M_X11_check lv 45 l (.ref a :: st) w = if (gf (hg w a) 10 2).isSome = true then Ex M_X11_check lv 48 l (vV (gf (hg w a) 10 2) :: st) w else none)
  ∧ (∀ (lv : Nat) (l : LX) (st : List Value) (a : Nat) (w : AH), Ex M_X11_check lv 48 l (.ref a :: st) w = if (gf (hg w a) 1 5).isSome = true then Ex M_X11_check lv 51 l (vV (gf (hg w a) 1 5) :: st) w else none)
  ∧ (∀ (lv : Nat) (st : List Value) (t : LX) (o0 : Option Value) (x : Int32) (w : AH), Ex M_X11_check lv 51 (o0 :: some (.int x) :: t) st w = Ex M_X11_check lv 52 (o0 :: some (.int x) :: t) (.int x :: st) w)
  ∧ (∀ (lv : Nat) (l : LX) (b : Nat) (a0 : Int32) (w : AH), Ex M_X11_check lv 52 l (.int a0 :: .ref b :: []) w = if clK (hg w b) = 6 then (if (Call M_X6_get 60 [.ref b, .int a0] w).isSome = true then Ex M_X11_check lv 55 l (pushR (cV (Call M_X6_get 60 [.ref b, .int a0] w)) []) (cW (Call M_X6_get 60 [.ref b, .int a0] w) w) else none) else none)
  ∧ (∀ (lv : Nat) (st : List Value) (t : LX) (x : Nat) (w : AH), Ex M_X11_check lv 55 (some (.ref x) :: t) st w = Ex M_X11_check lv 56 (some (.ref x) :: t) (.ref x :: st) w)
  ∧ (∀ (lv : Nat) (st : List Value) (t : LX) (w : AH), Ex M_X11_check lv 55 (some (.null) :: t) st w = Ex M_X11_check lv 56 (some (.null) :: t) (.null :: st) w)
  ∧ (∀ (lv : Nat) (l : LX) (st : List Value) (a : Nat) (w : AH), Ex M_X11_check lv 56 l (.ref a :: st) w = if (gf (hg w a) 10 2).isSome = true then Ex M_X11_check lv 59 l (vV (gf (hg w a) 10 2) :: st) w else none)
  ∧ (∀ (lv : Nat) (l : LX) (st : List Value) (a : Nat) (w : AH), Ex M_X11_check lv 59 l (.ref a :: st) w = if (gf (hg w a) 1 0).isSome = true then Ex M_X11_check lv 62 l (vV (gf (hg w a) 1 0) :: st) w else none)
  ∧ (∀ (lv : Nat) (l : LX) (b : Nat) (s0 : Int32) (w : AH), Ex M_X11_check lv 62 l (.ref b :: [.int s0]) w = if clK (hg w b) = 0 then (if (Call M_X0_countHoles 60 [.ref b] w).isSome = true then Ex M_X11_check lv 65 l (pushR (cV (Call M_X0_countHoles 60 [.ref b] w)) [.int s0]) (cW (Call M_X0_countHoles 60 [.ref b] w) w) else none) else none)
  ∧ (∀ (lv : Nat) (l : LX) (st : List Value) (x y : Int32) (w : AH), Ex M_X11_check lv 65 l (.int y :: .int x :: st) w = if x = y then Ex M_X11_check lv 72 l st w else Ex M_X11_check lv 68 l st w)
  ∧ (∀ (lv : Nat) (l : LX) (st : List Value) (w : AH), Ex M_X11_check lv 68 l st w = Ex M_X11_check lv 69 l (.int 1 :: st) w)
  ∧ (∀ (lv : Nat) (st : List Value) (t : LX) (o0 : Option Value) (x : Int32) (w : AH), Ex M_X11_check lv 69 (o0 :: some (.int x) :: t) st w = Ex M_X11_check lv 70 (o0 :: some (.int x) :: t) (.int x :: st) w)
  ∧ (∀ (lv : Nat) (l : LX) (st : List Value) (x y : Int32) (w : AH), Ex M_X11_check lv 70 l (.int y :: .int x :: st) w = Ex M_X11_check lv 71 l (.int (x + y) :: st) w)
  ∧ (∀ (lv : Nat) (l : LX) (x : Int32) (w : AH), Ex M_X11_check lv 71 l [.int x] w = some (some (.int x), w))
  ∧ (∀ (lv : Nat) (st : List Value) (t : LX) (o0 : Option Value) (x : Int32) (w : AH), Ex M_X11_check lv 72 (o0 :: some (.int x) :: t) st w = Ex M_X11_check lv 75 (ls1 (o0 :: some (.int x) :: t) 1 (.int (x + 1))) st w)
  ∧ (∀ (lv : Nat) (l : LX) (st : List Value) (w : AH), Ex M_X11_check lv 75 l st w = Ex M_X11_check lv 23 l st w)
  ∧ (∀ (lv : Nat) (l : LX) (st : List Value) (w : AH), Ex M_X11_check lv 78 l st w = Ex M_X11_check lv 79 l (.int 0 :: st) w)
  ∧ (∀ (lv : Nat) (l : LX) (x : Int32) (w : AH), Ex M_X11_check lv 79 l [.int x] w = some (some (.int x), w)) :=
  ⟨(fun lv st t x w => Ex_M (i := .aload_n 0) (n := 1) (by decide +kernel) rfl rfl rfl),
   (fun lv st t w => Ex_M (i := .aload_n 0) (n := 1) (by decide +kernel) rfl rfl rfl),
   (fun lv l st a w => Ex_getf (by decide +kernel : decode M_X11_check.2.1 1 = .ok (.getfield 19, 3)) rfl (by decide +kernel : resF (mCn M_X11_check) 19 = some (10, 2, (.object "CarpetLands$Country"), true))),
   (fun lv st t x w => Ex_M (i := .aload_n 0) (n := 1) (by decide +kernel) rfl rfl rfl),
   (fun lv st t w => Ex_M (i := .aload_n 0) (n := 1) (by decide +kernel) rfl rfl rfl),
   (fun lv l st a w => Ex_getf (by decide +kernel : decode M_X11_check.2.1 5 = .ok (.getfield 12, 3)) rfl (by decide +kernel : resF (mCn M_X11_check) 12 = some (10, 0, (.object "CarpetLands$Country"), true))),
   (fun lv l b a0 w => Ex_callV (by decide +kernel : decode M_X11_check.2.1 8 = .ok (.invokevirtual 282, 3)) rfl (by rfl : resM (mCn M_X11_check) 282 = some (2, M_X1_copyFrom)) rfl (by rfl) (Nat.le_of_ble_eq_true rfl) (by decide +kernel) (sLv_lt (by decide +kernel))),
   (fun lv st t x w => Ex_M (i := .aload_n 0) (n := 1) (by decide +kernel) rfl rfl rfl),
   (fun lv st t w => Ex_M (i := .aload_n 0) (n := 1) (by decide +kernel) rfl rfl rfl),
   (fun lv l st a w => Ex_getf (by decide +kernel : decode M_X11_check.2.1 12 = .ok (.getfield 12, 3)) rfl (by decide +kernel : resF (mCn M_X11_check) 12 = some (10, 0, (.object "CarpetLands$Country"), true))),
   (fun lv l st a w => Ex_getf (by decide +kernel : decode M_X11_check.2.1 15 = .ok (.getfield 329, 3)) rfl (by decide +kernel : resF (mCn M_X11_check) 329 = some (1, 5, (.object "CarpetLands$Row"), true))),
   (fun lv l b w => Ex_callV (by decide +kernel : decode M_X11_check.2.1 18 = .ok (.invokevirtual 181, 3)) rfl (by rfl : resM (mCn M_X11_check) 181 = some (2, M_X6_clear)) rfl (by rfl) (Nat.le_of_ble_eq_true rfl) (by decide +kernel) (sLv_lt (by decide +kernel))),
   (fun lv l st w => Ex_A (i := .iconst 0) (n := 1) (by decide +kernel) rfl rfl),
   (fun lv l st x w => Ex_M (i := .istore_n 1) (n := 1) (by decide +kernel) rfl rfl rfl),
   (fun lv st t x w => Ex_M (i := .aload_n 0) (n := 1) (by decide +kernel) rfl rfl rfl),
   (fun lv st t w => Ex_M (i := .aload_n 0) (n := 1) (by decide +kernel) rfl rfl rfl),
   (fun lv l st a w => Ex_getf (by decide +kernel : decode M_X11_check.2.1 25 = .ok (.getfield 19, 3)) rfl (by decide +kernel : resF (mCn M_X11_check) 19 = some (10, 2, (.object "CarpetLands$Country"), true))),
   (fun lv l st a w => Ex_getf (by decide +kernel : decode M_X11_check.2.1 28 = .ok (.getfield 329, 3)) rfl (by decide +kernel : resF (mCn M_X11_check) 329 = some (1, 5, (.object "CarpetLands$Row"), true))),
   (fun lv l st a w => Ex_getf (by decide +kernel : decode M_X11_check.2.1 31 = .ok (.getfield 166, 3)) rfl (by decide +kernel : resF (mCn M_X11_check) 166 = some (6, 1, .int, false))),
   (fun lv l st x y w => Ex_icmp_ge (by decide +kernel : decode M_X11_check.2.1 34 = .ok (.if_icmp .ge 44, 3)) rfl rfl),
   (fun lv st t x w => Ex_M (i := .aload_n 0) (n := 1) (by decide +kernel) rfl rfl rfl),
   (fun lv st t w => Ex_M (i := .aload_n 0) (n := 1) (by decide +kernel) rfl rfl rfl),
   (fun lv l st a w => Ex_getf (by decide +kernel : decode M_X11_check.2.1 38 = .ok (.getfield 19, 3)) rfl (by decide +kernel : resF (mCn M_X11_check) 19 = some (10, 2, (.object "CarpetLands$Country"), true))),
   (fun lv l b w => Ex_callV (by decide +kernel : decode M_X11_check.2.1 41 = .ok (.invokevirtual 205, 3)) rfl (by rfl : resM (mCn M_X11_check) 205 = some (2, M_X1_passDay)) rfl (by rfl) (Nat.le_of_ble_eq_true rfl) (by decide +kernel) (sLv_lt (by decide +kernel))),
   (fun lv st t x w => Ex_M (i := .aload_n 0) (n := 1) (by decide +kernel) rfl rfl rfl),
   (fun lv st t w => Ex_M (i := .aload_n 0) (n := 1) (by decide +kernel) rfl rfl rfl),
   (fun lv l st a w => Ex_getf (by decide +kernel : decode M_X11_check.2.1 45 = .ok (.getfield 19, 3)) rfl (by decide +kernel : resF (mCn M_X11_check) 19 = some (10, 2, (.object "CarpetLands$Country"), true))),
   (fun lv l st a w => Ex_getf (by decide +kernel : decode M_X11_check.2.1 48 = .ok (.getfield 329, 3)) rfl (by decide +kernel : resF (mCn M_X11_check) 329 = some (1, 5, (.object "CarpetLands$Row"), true))),
   (fun lv st t o0 x w => Ex_M (i := .iload_n 1) (n := 1) (by decide +kernel) rfl rfl rfl),
   (fun lv l b a0 w => Ex_callV (by decide +kernel : decode M_X11_check.2.1 52 = .ok (.invokevirtual 299, 3)) rfl (by rfl : resM (mCn M_X11_check) 299 = some (2, M_X6_get)) rfl (by rfl) (Nat.le_of_ble_eq_true rfl) (by decide +kernel) (sLv_lt (by decide +kernel))),
   (fun lv st t x w => Ex_M (i := .aload_n 0) (n := 1) (by decide +kernel) rfl rfl rfl),
   (fun lv st t w => Ex_M (i := .aload_n 0) (n := 1) (by decide +kernel) rfl rfl rfl),
   (fun lv l st a w => Ex_getf (by decide +kernel : decode M_X11_check.2.1 56 = .ok (.getfield 19, 3)) rfl (by decide +kernel : resF (mCn M_X11_check) 19 = some (10, 2, (.object "CarpetLands$Country"), true))),
   (fun lv l st a w => Ex_getf (by decide +kernel : decode M_X11_check.2.1 59 = .ok (.getfield 78, 3)) rfl (by decide +kernel : resF (mCn M_X11_check) 78 = some (1, 0, (.object "CarpetLands$Carpet"), true))),
   (fun lv l b s0 w => Ex_callV (by decide +kernel : decode M_X11_check.2.1 62 = .ok (.invokevirtual 122, 3)) rfl (by rfl : resM (mCn M_X11_check) 122 = some (2, M_X0_countHoles)) rfl (by rfl) (Nat.le_of_ble_eq_true rfl) (by decide +kernel) (sLv_lt (by decide +kernel))),
   (fun lv l st x y w => Ex_icmp_eq (by decide +kernel : decode M_X11_check.2.1 65 = .ok (.if_icmp .eq 7, 3)) rfl rfl),
   (fun lv l st w => Ex_A (i := .iconst 1) (n := 1) (by decide +kernel) rfl rfl),
   (fun lv st t o0 x w => Ex_M (i := .iload_n 1) (n := 1) (by decide +kernel) rfl rfl rfl),
   (fun lv l st x y w => Ex_A (i := .iadd) (n := 1) (by decide +kernel) rfl rfl),
   (fun lv l x w => Ex_R (i := .ireturn) (n := 1) (by decide +kernel) rfl rfl rfl rfl rfl),
   (fun lv st t o0 x w => Ex_iinc (by decide +kernel : decode M_X11_check.2.1 72 = .ok (.iinc 1 1, 3)) rfl rfl (by decide) (by decide)),
   (fun lv l st w => Ex_goto (by decide +kernel : decode M_X11_check.2.1 75 = .ok (.goto (-52), 3)) rfl),
   (fun lv l st w => Ex_A (i := .iconst 0) (n := 1) (by decide +kernel) rfl rfl),
   (fun lv l x w => Ex_R (i := .ireturn) (n := 1) (by decide +kernel) rfl rfl rfl rfl rfl)⟩
set_option maxRecDepth 20000 in
set_option maxHeartbeats 4000000 in
theorem R_X11_count_p0 : (∀ (lv : Nat) (st : List Value) (t : LX) (o0 : Option Value) (x : Int32) (w : AH), Ex M_X11_count lv 0 (o0 :: some (.int x) :: t) st w = Ex M_X11_count lv 1 (o0 :: some (.int x) :: t) (.int x :: st) w)
  ∧ (∀ (lv : Nat) (l : LX) (st : List Value) (x : Int32) (w : AH), Ex M_X11_count lv 1 l (.int x :: st) w = if x = 0 then Ex M_X11_count lv 52 l st w else if x = 1 then Ex M_X11_count lv 60 l st w else if x = 2 then Ex M_X11_count lv 68 l st w else if x = 3 then Ex M_X11_count lv 79 l st w else if x = 4 then Ex M_X11_count lv 90 l st w else if x = 5 then Ex M_X11_count lv 107 l st w else if x = 6 then Ex M_X11_count lv 118 l st w else if x = 7 then Ex M_X11_count lv 129 l st w else if x = 8 then Ex M_X11_count lv 140 l st w else Ex M_X11_count lv 148 l st w)
  ∧ (∀ (lv : Nat) (st : List Value) (t : LX) (x : Nat) (w : AH), Ex M_X11_count lv 52 (some (.ref x) :: t) st w = Ex M_X11_count lv 53 (some (.ref x) :: t) (.ref x :: st) w)
  ∧ (∀ (lv : Nat) (st : List Value) (t : LX) (w : AH), Ex M_X11_count lv 52 (some (.null) :: t) st w = Ex M_X11_count lv 53 (some (.null) :: t) (.null :: st) w)
  ∧ (∀ (lv : Nat) (l : LX) (st : List Value) (a : Nat) (w : AH), Ex M_X11_count lv 53 l (.ref a :: st) w = if (gf (hg w a) 10 0).isSome = true then Ex M_X11_count lv 56 l (vV (gf (hg w a) 10 0) :: st) w else none)
  ∧ (∀ (lv : Nat) (l : LX) (st : List Value) (a : Nat) (w : AH), Ex M_X11_count lv 56 l (.ref a :: st) w = if (gf (hg w a) 1 6).isSome = true then Ex M_X11_count lv 59 l (vV (gf (hg w a) 1 6) :: st) w else none)
  ∧ (∀ (lv : Nat) (l : LX) (x : Int32) (w : AH), Ex M_X11_count lv 59 l [.int x] w = some (some (.int x), w))
  ∧ (∀ (lv : Nat) (st : List Value) (t : LX) (x : Nat) (w : AH), Ex M_X11_count lv 60 (some (.ref x) :: t) st w = Ex M_X11_count lv 61 (some (.ref x) :: t) (.ref x :: st) w)
  ∧ (∀ (lv : Nat) (st : List Value) (t : LX) (w : AH), Ex M_X11_count lv 60 (some (.null) :: t) st w = Ex M_X11_count lv 61 (some (.null) :: t) (.null :: st) w)
  ∧ (∀ (lv : Nat) (l : LX) (st : List Value) (a : Nat) (w : AH), Ex M_X11_count lv 61 l (.ref a :: st) w = if (gf (hg w a) 10 0).isSome = true then Ex M_X11_count lv 64 l (vV (gf (hg w a) 10 0) :: st) w else none)
  ∧ (∀ (lv : Nat) (l : LX) (st : List Value) (a : Nat) (w : AH), Ex M_X11_count lv 64 l (.ref a :: st) w = if (gf (hg w a) 1 7).isSome = true then Ex M_X11_count lv 67 l (vV (gf (hg w a) 1 7) :: st) w else none)
  ∧ (∀ (lv : Nat) (l : LX) (x : Int32) (w : AH), Ex M_X11_count lv 67 l [.int x] w = some (some (.int x), w))
  ∧ (∀ (lv : Nat) (st : List Value) (t : LX) (x : Nat) (w : AH), Ex M_X11_count lv 68 (some (.ref x) :: t) st w = Ex M_X11_count lv 69 (some (.ref x) :: t) (.ref x :: st) w)
  ∧ (∀ (lv : Nat) (st : List Value) (t : LX) (w : AH), Ex M_X11_count lv 68 (some (.null) :: t) st w = Ex M_X11_count lv 69 (some (.null) :: t) (.null :: st) w)
  ∧ (∀ (lv : Nat) (l : LX) (st : List Value) (a : Nat) (w : AH), Ex M_X11_count lv 69 l (.ref a :: st) w = if (gf (hg w a) 10 0).isSome = true then Ex M_X11_count lv 72 l (vV (gf (hg w a) 10 0) :: st) w else none)
  ∧ (∀ (lv : Nat) (l : LX) (st : List Value) (a : Nat) (w : AH), Ex M_X11_count lv 72 l (.ref a :: st) w = if (gf (hg w a) 1 0).isSome = true then Ex M_X11_count lv 75 l (vV (gf (hg w a) 1 0) :: st) w else none)
  ∧ (∀ (lv : Nat) (l : LX) (b : Nat) (w : AH), Ex M_X11_count lv 75 l (.ref b :: []) w = if clK (hg w b) = 0 then (if (Call M_X0_countHoles 60 [.ref b] w).isSome = true then Ex M_X11_count lv 78 l (pushR (cV (Call M_X0_countHoles 60 [.ref b] w)) []) (cW (Call M_X0_countHoles 60 [.ref b] w) w) else none) else none)
  ∧ (∀ (lv : Nat) (l : LX) (x : Int32) (w : AH), Ex M_X11_count lv 78 l [.int x] w = some (some (.int x), w))
  ∧ (∀ (lv : Nat) (st : List Value) (t : LX) (x : Nat) (w : AH), Ex M_X11_count lv 79 (some (.ref x) :: t) st w = Ex M_X11_count lv 80 (some (.ref x) :: t) (.ref x :: st) w)
  ∧ (∀ (lv : Nat) (st : List Value) (t : LX) (w : AH), Ex M_X11_count lv 79 (some (.null) :: t) st w = Ex M_X11_count lv 80 (some (.null) :: t) (.null :: st) w)
  ∧ (∀ (lv : Nat) (l : LX) (st : List Value) (a : Nat) (w : AH), Ex M_X11_count lv 80 l (.ref a :: st) w = if (gf (hg w a) 10 0).isSome = true then Ex M_X11_count lv 83 l (vV (gf (hg w a) 10 0) :: st) w else none)
  ∧ (∀ (lv : Nat) (l : LX) (st : List Value) (a : Nat) (w : AH), Ex M_X11_count lv 83 l (.ref a :: st) w = if (gf (hg w a) 1 0).isSome = true then Ex M_X11_count lv 86 l (vV (gf (hg w a) 1 0) :: st) w else none)
  ∧ (∀ (lv : Nat) (l : LX) (b : Nat) (w : AH), Ex M_X11_count lv 86 l (.ref b :: []) w = if clK (hg w b) = 0 then (if (Call M_X0_wearOfAll 60 [.ref b] w).isSome = true then Ex M_X11_count lv 89 l (pushR (cV (Call M_X0_wearOfAll 60 [.ref b] w)) []) (cW (Call M_X0_wearOfAll 60 [.ref b] w) w) else none) else none)
  ∧ (∀ (lv : Nat) (l : LX) (x : Int32) (w : AH), Ex M_X11_count lv 89 l [.int x] w = some (some (.int x), w))
  ∧ (∀ (lv : Nat) (st : List Value) (t : LX) (x : Nat) (w : AH), Ex M_X11_count lv 90 (some (.ref x) :: t) st w = Ex M_X11_count lv 91 (some (.ref x) :: t) (.ref x :: st) w)
  ∧ (∀ (lv : Nat) (st : List Value) (t : LX) (w : AH), Ex M_X11_count lv 90 (some (.null) :: t) st w = Ex M_X11_count lv 91 (some (.null) :: t) (.null :: st) w)
  ∧ (∀ (lv : Nat) (l : LX) (st : List Value) (a : Nat) (w : AH), Ex M_X11_count lv 91 l (.ref a :: st) w = if (gf (hg w a) 10 0).isSome = true then Ex M_X11_count lv 94 l (vV (gf (hg w a) 10 0) :: st) w else none)
  ∧ (∀ (lv : Nat) (l : LX) (st : List Value) (a : Nat) (w : AH), Ex M_X11_count lv 94 l (.ref a :: st) w = if (gf (hg w a) 1 0).isSome = true then Ex M_X11_count lv 97 l (vV (gf (hg w a) 1 0) :: st) w else none)
  ∧ (∀ (lv : Nat) (l : LX) (st : List Value) (w : AH), Ex M_X11_count lv 97 l st w = Ex M_X11_count lv 100 l (.long 68719476735 :: st) w)
  ∧ (∀ (lv : Nat) (l : LX) (b : Nat) (a0 : Int64) (w : AH), Ex M_X11_count lv 100 l (.long a0 :: .ref b :: []) w = if clK (hg w b) = 0 then (if (Call M_X0_coloursIn 60 [.ref b, .long a0] w).isSome = true then Ex M_X11_count lv 103 l (pushR (cV (Call M_X0_coloursIn 60 [.ref b, .long a0] w)) []) (cW (Call M_X0_coloursIn 60 [.ref b, .long a0] w) w) else none) else none)
  ∧ (∀ (lv : Nat) (l : LX) (st : List Value) (w : AH), Ex M_X11_count lv 103 l st w = Ex M_X11_count lv 105 l (.int (-2) :: st) w)
  ∧ (∀ (lv : Nat) (l : LX) (st : List Value) (x y : Int32) (w : AH), Ex M_X11_count lv 105 l (.int y :: .int x :: st) w = Ex M_X11_count lv 106 l (.int (x &&& y) :: st) w)
  ∧ (∀ (lv : Nat) (l : LX) (x : Int32) (w : AH), Ex M_X11_count lv 106 l [.int x] w = some (some (.int x), w))
  ∧ (∀ (lv : Nat) (st : List Value) (t : LX) (x : Nat) (w : AH), Ex M_X11_count lv 107 (some (.ref x) :: t) st w = Ex M_X11_count lv 108 (some (.ref x) :: t) (.ref x :: st) w)
  ∧ (∀ (lv : Nat) (st : List Value) (t : LX) (w : AH), Ex M_X11_count lv 107 (some (.null) :: t) st w = Ex M_X11_count lv 108 (some (.null) :: t) (.null :: st) w)
  ∧ (∀ (lv : Nat) (l : LX) (st : List Value) (a : Nat) (w : AH), Ex M_X11_count lv 108 l (.ref a :: st) w = if (gf (hg w a) 10 0).isSome = true then Ex M_X11_count lv 111 l (vV (gf (hg w a) 10 0) :: st) w else none)
  ∧ (∀ (lv : Nat) (l : LX) (st : List Value) (a : Nat) (w : AH), Ex M_X11_count lv 111 l (.ref a :: st) w = if (gf (hg w a) 1 4).isSome = true then Ex M_X11_count lv 114 l (vV (gf (hg w a) 1 4) :: st) w else none)
  ∧ (∀ (lv : Nat) (l : LX) (st : List Value) (a : Nat) (w : AH), Ex M_X11_count lv 114 l (.ref a :: st) w = if (gf (hg w a) 6 1).isSome = true then Ex M_X11_count lv 117 l (vV (gf (hg w a) 6 1) :: st) w else none)
  ∧ (∀ (lv : Nat) (l : LX) (x : Int32) (w : AH), Ex M_X11_count lv 117 l [.int x] w = some (some (.int x), w))
  ∧ (∀ (lv : Nat) (st : List Value) (t : LX) (x : Nat) (w : AH), Ex M_X11_count lv 118 (some (.ref x) :: t) st w = Ex M_X11_count lv 119 (some (.ref x) :: t) (.ref x :: st) w)
  ∧ (∀ (lv : Nat) (st : List Value) (t : LX) (w : AH), Ex M_X11_count lv 118 (some (.null) :: t) st w = Ex M_X11_count lv 119 (some (.null) :: t) (.null :: st) w)
  ∧ (∀ (lv : Nat) (l : LX) (st : List Value) (a : Nat) (w : AH), Ex M_X11_count lv 119 l (.ref a :: st) w = if (gf (hg w a) 10 0).isSome = true then Ex M_X11_count lv 122 l (vV (gf (hg w a) 10 0) :: st) w else none)
  ∧ (∀ (lv : Nat) (l : LX) (st : List Value) (a : Nat) (w : AH), Ex M_X11_count lv 122 l (.ref a :: st) w = if (gf (hg w a) 1 5).isSome = true then Ex M_X11_count lv 125 l (vV (gf (hg w a) 1 5) :: st) w else none)
  ∧ (∀ (lv : Nat) (l : LX) (st : List Value) (a : Nat) (w : AH), Ex M_X11_count lv 125 l (.ref a :: st) w = if (gf (hg w a) 6 1).isSome = true then Ex M_X11_count lv 128 l (vV (gf (hg w a) 6 1) :: st) w else none)
  ∧ (∀ (lv : Nat) (l : LX) (x : Int32) (w : AH), Ex M_X11_count lv 128 l [.int x] w = some (some (.int x), w))
  ∧ (∀ (lv : Nat) (st : List Value) (t : LX) (x : Nat) (w : AH), Ex M_X11_count lv 129 (some (.ref x) :: t) st w = Ex M_X11_count lv 130 (some (.ref x) :: t) (.ref x :: st) w)
  ∧ (∀ (lv : Nat) (st : List Value) (t : LX) (w : AH), Ex M_X11_count lv 129 (some (.null) :: t) st w = Ex M_X11_count lv 130 (some (.null) :: t) (.null :: st) w)
  ∧ (∀ (lv : Nat) (l : LX) (st : List Value) (a : Nat) (w : AH), Ex M_X11_count lv 130 l (.ref a :: st) w = if (gf (hg w a) 10 4).isSome = true then Ex M_X11_count lv 133 l (vV (gf (hg w a) 10 4) :: st) w else none)
  ∧ (∀ (lv : Nat) (l : LX) (st : List Value) (a : Nat) (w : AH), Ex M_X11_count lv 133 l (.ref a :: st) w = if (gf (hg w a) 8 0).isSome = true then Ex M_X11_count lv 136 l (vV (gf (hg w a) 8 0) :: st) w else none)
  ∧ (∀ (lv : Nat) (l : LX) (st : List Value) (a : Nat) (w : AH), Ex M_X11_count lv 136 l (.ref a :: st) w = if (gf (hg w a) 6 1).isSome = true then Ex M_X11_count lv 139 l (vV (gf (hg w a) 6 1) :: st) w else none)
  ∧ (∀ (lv : Nat) (l : LX) (x : Int32) (w : AH), Ex M_X11_count lv 139 l [.int x] w = some (some (.int x), w))
  ∧ (∀ (lv : Nat) (st : List Value) (t : LX) (x : Nat) (w : AH), Ex M_X11_count lv 140 (some (.ref x) :: t) st w = Ex M_X11_count lv 141 (some (.ref x) :: t) (.ref x :: st) w)
  ∧ (∀ (lv : Nat) (st : List Value) (t : LX) (w : AH), Ex M_X11_count lv 140 (some (.null) :: t) st w = Ex M_X11_count lv 141 (some (.null) :: t) (.null :: st) w)
  ∧ (∀ (lv : Nat) (l : LX) (st : List Value) (a : Nat) (w : AH), Ex M_X11_count lv 141 l (.ref a :: st) w = if (gf (hg w a) 10 0).isSome = true then Ex M_X11_count lv 144 l (vV (gf (hg w a) 10 0) :: st) w else none)
  ∧ (∀ (lv : Nat) (l : LX) (st : List Value) (a : Nat) (w : AH), Ex M_X11_count lv 144 l (.ref a :: st) w = if (gf (hg w a) 1 8).isSome = true then Ex M_X11_count lv 147 l (vV (gf (hg w a) 1 8) :: st) w else none)
  ∧ (∀ (lv : Nat) (l : LX) (x : Int32) (w : AH), Ex M_X11_count lv 147 l [.int x] w = some (some (.int x), w))
  ∧ (∀ (lv : Nat) (st : List Value) (t : LX) (x : Nat) (w : AH), Ex M_X11_count lv 148 (some (.ref x) :: t) st w = Ex M_X11_count lv 149 (some (.ref x) :: t) (.ref x :: st) w)
  ∧ (∀ (lv : Nat) (st : List Value) (t : LX) (w : AH), Ex M_X11_count lv 148 (some (.null) :: t) st w = Ex M_X11_count lv 149 (some (.null) :: t) (.null :: st) w)
  ∧ (∀ (lv : Nat) (l : LX) (st : List Value) (w : AH), Ex M_X11_count lv 149 l st w = Ex M_X11_count lv 151 l (.int (-1000000001) :: st) w)
  ∧ (∀ (lv : Nat) (l : LX) (b : Nat) (a0 : Int32) (w : AH), Ex M_X11_count lv 151 l (.int a0 :: .ref b :: []) w = if clK (hg w b) = 10 then (if (Call M_X11_refuse 60 [.ref b, .int a0] w).isSome = true then Ex M_X11_count lv 154 l (pushR (cV (Call M_X11_refuse 60 [.ref b, .int a0] w)) []) (cW (Call M_X11_refuse 60 [.ref b, .int a0] w) w) else none) else none) :=
  ⟨(fun lv st t o0 x w => Ex_M (i := .iload_n 1) (n := 1) (by decide +kernel) rfl rfl rfl),
   (fun lv l st x w => (by
      refine it_ite (fun hx0 => ?_) (fun hx0 => ?_)
      · subst hx0; exact Ex_tsIn (by decide +kernel : decode M_X11_count.2.1 1 = .ok (.tableswitch 147 0 8 #[51, 59, 67, 78, 89, 106, 117, 128, 139], 51)) (by decide) rfl rfl
      refine it_ite (fun hx1 => ?_) (fun hx1 => ?_)
      · subst hx1; exact Ex_tsIn (by decide +kernel : decode M_X11_count.2.1 1 = .ok (.tableswitch 147 0 8 #[51, 59, 67, 78, 89, 106, 117, 128, 139], 51)) (by decide) rfl rfl
      refine it_ite (fun hx2 => ?_) (fun hx2 => ?_)
      · subst hx2; exact Ex_tsIn (by decide +kernel : decode M_X11_count.2.1 1 = .ok (.tableswitch 147 0 8 #[51, 59, 67, 78, 89, 106, 117, 128, 139], 51)) (by decide) rfl rfl
      refine it_ite (fun hx3 => ?_) (fun hx3 => ?_)
      · subst hx3; exact Ex_tsIn (by decide +kernel : decode M_X11_count.2.1 1 = .ok (.tableswitch 147 0 8 #[51, 59, 67, 78, 89, 106, 117, 128, 139], 51)) (by decide) rfl rfl
      refine it_ite (fun hx4 => ?_) (fun hx4 => ?_)
      · subst hx4; exact Ex_tsIn (by decide +kernel : decode M_X11_count.2.1 1 = .ok (.tableswitch 147 0 8 #[51, 59, 67, 78, 89, 106, 117, 128, 139], 51)) (by decide) rfl rfl
      refine it_ite (fun hx5 => ?_) (fun hx5 => ?_)
      · subst hx5; exact Ex_tsIn (by decide +kernel : decode M_X11_count.2.1 1 = .ok (.tableswitch 147 0 8 #[51, 59, 67, 78, 89, 106, 117, 128, 139], 51)) (by decide) rfl rfl
      refine it_ite (fun hx6 => ?_) (fun hx6 => ?_)
      · subst hx6; exact Ex_tsIn (by decide +kernel : decode M_X11_count.2.1 1 = .ok (.tableswitch 147 0 8 #[51, 59, 67, 78, 89, 106, 117, 128, 139], 51)) (by decide) rfl rfl
      refine it_ite (fun hx7 => ?_) (fun hx7 => ?_)
      · subst hx7; exact Ex_tsIn (by decide +kernel : decode M_X11_count.2.1 1 = .ok (.tableswitch 147 0 8 #[51, 59, 67, 78, 89, 106, 117, 128, 139], 51)) (by decide) rfl rfl
      refine it_ite (fun hx8 => ?_) (fun hx8 => ?_)
      · subst hx8; exact Ex_tsIn (by decide +kernel : decode M_X11_count.2.1 1 = .ok (.tableswitch 147 0 8 #[51, 59, 67, 78, 89, 106, 117, 128, 139], 51)) (by decide) rfl rfl
      exact Ex_tsOut (by decide +kernel : decode M_X11_count.2.1 1 = .ok (.tableswitch 147 0 8 #[51, 59, 67, 78, 89, 106, 117, 128, 139], 51)) (ts_out 0 8 (by have := n_toInt (z := 0) rfl hx0; have := n_toInt (z := 1) rfl hx1; have := n_toInt (z := 2) rfl hx2; have := n_toInt (z := 3) rfl hx3; have := n_toInt (z := 4) rfl hx4; have := n_toInt (z := 5) rfl hx5; have := n_toInt (z := 6) rfl hx6; have := n_toInt (z := 7) rfl hx7; have := n_toInt (z := 8) rfl hx8; omega)) rfl)),
   (fun lv st t x w => Ex_M (i := .aload_n 0) (n := 1) (by decide +kernel) rfl rfl rfl),
   (fun lv st t w => Ex_M (i := .aload_n 0) (n := 1) (by decide +kernel) rfl rfl rfl),
   (fun lv l st a w => Ex_getf (by decide +kernel : decode M_X11_count.2.1 53 = .ok (.getfield 12, 3)) rfl (by decide +kernel : resF (mCn M_X11_count) 12 = some (10, 0, (.object "CarpetLands$Country"), true))),
   (fun lv l st a w => Ex_getf (by decide +kernel : decode M_X11_count.2.1 56 = .ok (.getfield 332, 3)) rfl (by decide +kernel : resF (mCn M_X11_count) 332 = some (1, 6, .int, false))),
   (fun lv l x w => Ex_R (i := .ireturn) (n := 1) (by decide +kernel) rfl rfl rfl rfl rfl),
   (fun lv st t x w => Ex_M (i := .aload_n 0) (n := 1) (by decide +kernel) rfl rfl rfl),
   (fun lv st t w => Ex_M (i := .aload_n 0) (n := 1) (by decide +kernel) rfl rfl rfl),
   (fun lv l st a w => Ex_getf (by decide +kernel : decode M_X11_count.2.1 61 = .ok (.getfield 12, 3)) rfl (by decide +kernel : resF (mCn M_X11_count) 12 = some (10, 0, (.object "CarpetLands$Country"), true))),
   (fun lv l st a w => Ex_getf (by decide +kernel : decode M_X11_count.2.1 64 = .ok (.getfield 201, 3)) rfl (by decide +kernel : resF (mCn M_X11_count) 201 = some (1, 7, .int, false))),
   (fun lv l x w => Ex_R (i := .ireturn) (n := 1) (by decide +kernel) rfl rfl rfl rfl rfl),
   (fun lv st t x w => Ex_M (i := .aload_n 0) (n := 1) (by decide +kernel) rfl rfl rfl),
   (fun lv st t w => Ex_M (i := .aload_n 0) (n := 1) (by decide +kernel) rfl rfl rfl),
   (fun lv l st a w => Ex_getf (by decide +kernel : decode M_X11_count.2.1 69 = .ok (.getfield 12, 3)) rfl (by decide +kernel : resF (mCn M_X11_count) 12 = some (10, 0, (.object "CarpetLands$Country"), true))),
   (fun lv l st a w => Ex_getf (by decide +kernel : decode M_X11_count.2.1 72 = .ok (.getfield 78, 3)) rfl (by decide +kernel : resF (mCn M_X11_count) 78 = some (1, 0, (.object "CarpetLands$Carpet"), true))),
   (fun lv l b w => Ex_callV (by decide +kernel : decode M_X11_count.2.1 75 = .ok (.invokevirtual 122, 3)) rfl (by rfl : resM (mCn M_X11_count) 122 = some (2, M_X0_countHoles)) rfl (by rfl) (Nat.le_of_ble_eq_true rfl) (by decide +kernel) (sLv_lt (by decide +kernel))),
   (fun lv l x w => Ex_R (i := .ireturn) (n := 1) (by decide +kernel) rfl rfl rfl rfl rfl),
   (fun lv st t x w => Ex_M (i := .aload_n 0) (n := 1) (by decide +kernel) rfl rfl rfl),
   (fun lv st t w => Ex_M (i := .aload_n 0) (n := 1) (by decide +kernel) rfl rfl rfl),
   (fun lv l st a w => Ex_getf (by decide +kernel : decode M_X11_count.2.1 80 = .ok (.getfield 12, 3)) rfl (by decide +kernel : resF (mCn M_X11_count) 12 = some (10, 0, (.object "CarpetLands$Country"), true))),
   (fun lv l st a w => Ex_getf (by decide +kernel : decode M_X11_count.2.1 83 = .ok (.getfield 78, 3)) rfl (by decide +kernel : resF (mCn M_X11_count) 78 = some (1, 0, (.object "CarpetLands$Carpet"), true))),
   (fun lv l b w => Ex_callV (by decide +kernel : decode M_X11_count.2.1 86 = .ok (.invokevirtual 335, 3)) rfl (by rfl : resM (mCn M_X11_count) 335 = some (2, M_X0_wearOfAll)) rfl (by rfl) (Nat.le_of_ble_eq_true rfl) (by decide +kernel) (sLv_lt (by decide +kernel))),
   (fun lv l x w => Ex_R (i := .ireturn) (n := 1) (by decide +kernel) rfl rfl rfl rfl rfl),
   (fun lv st t x w => Ex_M (i := .aload_n 0) (n := 1) (by decide +kernel) rfl rfl rfl),
   (fun lv st t w => Ex_M (i := .aload_n 0) (n := 1) (by decide +kernel) rfl rfl rfl),
   (fun lv l st a w => Ex_getf (by decide +kernel : decode M_X11_count.2.1 91 = .ok (.getfield 12, 3)) rfl (by decide +kernel : resF (mCn M_X11_count) 12 = some (10, 0, (.object "CarpetLands$Country"), true))),
   (fun lv l st a w => Ex_getf (by decide +kernel : decode M_X11_count.2.1 94 = .ok (.getfield 78, 3)) rfl (by decide +kernel : resF (mCn M_X11_count) 78 = some (1, 0, (.object "CarpetLands$Carpet"), true))),
   (fun lv l st w => Ex_ldc2 (by decide +kernel : decode M_X11_count.2.1 97 = .ok (.ldc2_w 338, 3)) rfl (by decide +kernel)),
   (fun lv l b a0 w => Ex_callV (by decide +kernel : decode M_X11_count.2.1 100 = .ok (.invokevirtual 340, 3)) rfl (by rfl : resM (mCn M_X11_count) 340 = some (2, M_X0_coloursIn)) rfl (by rfl) (Nat.le_of_ble_eq_true rfl) (by decide +kernel) (sLv_lt (by decide +kernel))),
   (fun lv l st w => Ex_A (i := .bipush (-2)) (n := 2) (by decide +kernel) rfl rfl),
   (fun lv l st x y w => Ex_A (i := .iand) (n := 1) (by decide +kernel) rfl rfl),
   (fun lv l x w => Ex_R (i := .ireturn) (n := 1) (by decide +kernel) rfl rfl rfl rfl rfl),
   (fun lv st t x w => Ex_M (i := .aload_n 0) (n := 1) (by decide +kernel) rfl rfl rfl),
   (fun lv st t w => Ex_M (i := .aload_n 0) (n := 1) (by decide +kernel) rfl rfl rfl),
   (fun lv l st a w => Ex_getf (by decide +kernel : decode M_X11_count.2.1 108 = .ok (.getfield 12, 3)) rfl (by decide +kernel : resF (mCn M_X11_count) 12 = some (10, 0, (.object "CarpetLands$Country"), true))),
   (fun lv l st a w => Ex_getf (by decide +kernel : decode M_X11_count.2.1 111 = .ok (.getfield 162, 3)) rfl (by decide +kernel : resF (mCn M_X11_count) 162 = some (1, 4, (.object "CarpetLands$Row"), true))),
   (fun lv l st a w => Ex_getf (by decide +kernel : decode M_X11_count.2.1 114 = .ok (.getfield 166, 3)) rfl (by decide +kernel : resF (mCn M_X11_count) 166 = some (6, 1, .int, false))),
   (fun lv l x w => Ex_R (i := .ireturn) (n := 1) (by decide +kernel) rfl rfl rfl rfl rfl),
   (fun lv st t x w => Ex_M (i := .aload_n 0) (n := 1) (by decide +kernel) rfl rfl rfl),
   (fun lv st t w => Ex_M (i := .aload_n 0) (n := 1) (by decide +kernel) rfl rfl rfl),
   (fun lv l st a w => Ex_getf (by decide +kernel : decode M_X11_count.2.1 119 = .ok (.getfield 12, 3)) rfl (by decide +kernel : resF (mCn M_X11_count) 12 = some (10, 0, (.object "CarpetLands$Country"), true))),
   (fun lv l st a w => Ex_getf (by decide +kernel : decode M_X11_count.2.1 122 = .ok (.getfield 329, 3)) rfl (by decide +kernel : resF (mCn M_X11_count) 329 = some (1, 5, (.object "CarpetLands$Row"), true))),
   (fun lv l st a w => Ex_getf (by decide +kernel : decode M_X11_count.2.1 125 = .ok (.getfield 166, 3)) rfl (by decide +kernel : resF (mCn M_X11_count) 166 = some (6, 1, .int, false))),
   (fun lv l x w => Ex_R (i := .ireturn) (n := 1) (by decide +kernel) rfl rfl rfl rfl rfl),
   (fun lv st t x w => Ex_M (i := .aload_n 0) (n := 1) (by decide +kernel) rfl rfl rfl),
   (fun lv st t w => Ex_M (i := .aload_n 0) (n := 1) (by decide +kernel) rfl rfl rfl),
   (fun lv l st a w => Ex_getf (by decide +kernel : decode M_X11_count.2.1 130 = .ok (.getfield 32, 3)) rfl (by decide +kernel : resF (mCn M_X11_count) 32 = some (10, 4, (.object "CarpetLands$Voice"), true))),
   (fun lv l st a w => Ex_getf (by decide +kernel : decode M_X11_count.2.1 133 = .ok (.getfield 293, 3)) rfl (by decide +kernel : resF (mCn M_X11_count) 293 = some (8, 0, (.object "CarpetLands$Row"), true))),
   (fun lv l st a w => Ex_getf (by decide +kernel : decode M_X11_count.2.1 136 = .ok (.getfield 166, 3)) rfl (by decide +kernel : resF (mCn M_X11_count) 166 = some (6, 1, .int, false))),
   (fun lv l x w => Ex_R (i := .ireturn) (n := 1) (by decide +kernel) rfl rfl rfl rfl rfl),
   (fun lv st t x w => Ex_M (i := .aload_n 0) (n := 1) (by decide +kernel) rfl rfl rfl),
   (fun lv st t w => Ex_M (i := .aload_n 0) (n := 1) (by decide +kernel) rfl rfl rfl),
   (fun lv l st a w => Ex_getf (by decide +kernel : decode M_X11_count.2.1 141 = .ok (.getfield 12, 3)) rfl (by decide +kernel : resF (mCn M_X11_count) 12 = some (10, 0, (.object "CarpetLands$Country"), true))),
   (fun lv l st a w => Ex_getf (by decide +kernel : decode M_X11_count.2.1 144 = .ok (.getfield 286, 3)) rfl (by decide +kernel : resF (mCn M_X11_count) 286 = some (1, 8, .int, false))),
   (fun lv l x w => Ex_R (i := .ireturn) (n := 1) (by decide +kernel) rfl rfl rfl rfl rfl),
   (fun lv st t x w => Ex_M (i := .aload_n 0) (n := 1) (by decide +kernel) rfl rfl rfl),
   (fun lv st t w => Ex_M (i := .aload_n 0) (n := 1) (by decide +kernel) rfl rfl rfl),
   (fun lv l st w => Ex_ldcI (by decide +kernel : decode M_X11_count.2.1 149 = .ok (.ldc 73, 2)) rfl (by decide +kernel)),
   (fun lv l b a0 w => Ex_callV (by decide +kernel : decode M_X11_count.2.1 151 = .ok (.invokevirtual 74, 3)) rfl (by rfl : resM (mCn M_X11_count) 74 = some (2, M_X11_refuse)) rfl (by rfl) (Nat.le_of_ble_eq_true rfl) (by decide +kernel) (sLv_lt (by decide +kernel)))⟩
set_option maxRecDepth 20000 in
set_option maxHeartbeats 4000000 in
theorem R_X11_count_p1 : (∀ (lv : Nat) (l : LX) (x : Int32) (w : AH), Ex M_X11_count lv 154 l [.int x] w = some (some (.int x), w)) :=
  fun lv l x w => Ex_R (i := .ireturn) (n := 1) (by decide +kernel) rfl rfl rfl rfl rfl
-- R_X11_count: p0 to p1
set_option maxRecDepth 20000 in
set_option maxHeartbeats 4000000 in
theorem R_X11_told : (∀ (lv : Nat) (st : List Value) (t : LX) (o0 : Option Value) (x : Int32) (w : AH), Ex M_X11_told lv 0 (o0 :: some (.int x) :: t) st w = Ex M_X11_told lv 1 (o0 :: some (.int x) :: t) (.int x :: st) w)
  ∧ (∀ (lv : Nat) (l : LX) (st : List Value) (w : AH), Ex M_X11_told lv 1 l st w = Ex M_X11_told lv 2 l (.int 1 :: st) w)
  ∧ (∀ (lv : Nat) (l : LX) (st : List Value) (w : AH), Ex M_X11_told lv 2 l st w = Ex M_X11_told lv 3 l (.int 5 :: st) w)
  ∧ (∀ (lv : Nat) (l : LX) (a0 : Int32) (a1 : Int32) (a2 : Int32) (w : AH), Ex M_X11_told lv 3 l (.int a2 :: .int a1 :: .int a0 :: []) w = if (Call M_X11_isWithin 60 [.int a0, .int a1, .int a2] w).isSome = true then Ex M_X11_told lv 6 l (pushR (cV (Call M_X11_isWithin 60 [.int a0, .int a1, .int a2] w)) []) (cW (Call M_X11_isWithin 60 [.int a0, .int a1, .int a2] w) w) else none)
  ∧ (∀ (lv : Nat) (l : LX) (st : List Value) (x : Int32) (w : AH), Ex M_X11_told lv 6 l (.int x :: st) w = if x = 0 then Ex M_X11_told lv 18 l st w else Ex M_X11_told lv 9 l st w)
  ∧ (∀ (lv : Nat) (st : List Value) (t : LX) (x : Nat) (w : AH), Ex M_X11_told lv 9 (some (.ref x) :: t) st w = Ex M_X11_told lv 10 (some (.ref x) :: t) (.ref x :: st) w)
  ∧ (∀ (lv : Nat) (st : List Value) (t : LX) (w : AH), Ex M_X11_told lv 9 (some (.null) :: t) st w = Ex M_X11_told lv 10 (some (.null) :: t) (.null :: st) w)
  ∧ (∀ (lv : Nat) (l : LX) (st : List Value) (a : Nat) (w : AH), Ex M_X11_told lv 10 l (.ref a :: st) w = if (gf (hg w a) 10 8).isSome = true then Ex M_X11_told lv 13 l (vV (gf (hg w a) 10 8) :: st) w else none)
  ∧ (∀ (lv : Nat) (st : List Value) (t : LX) (o0 : Option Value) (x : Int32) (w : AH), Ex M_X11_told lv 13 (o0 :: some (.int x) :: t) st w = Ex M_X11_told lv 14 (o0 :: some (.int x) :: t) (.int x :: st) w)
  ∧ (∀ (lv : Nat) (l : LX) (st : List Value) (a : Nat) (i : Int32) (w : AH), Ex M_X11_told lv 14 l (.int i :: .ref a :: st) w = if (aI (hg w a) i).isSome = true then Ex M_X11_told lv 15 l (.int (vI (aI (hg w a) i)) :: st) w else none)
  ∧ (∀ (lv : Nat) (l : LX) (st : List Value) (w : AH), Ex M_X11_told lv 15 l st w = Ex M_X11_told lv 24 l st w)
  ∧ (∀ (lv : Nat) (st : List Value) (t : LX) (x : Nat) (w : AH), Ex M_X11_told lv 18 (some (.ref x) :: t) st w = Ex M_X11_told lv 19 (some (.ref x) :: t) (.ref x :: st) w)
  ∧ (∀ (lv : Nat) (st : List Value) (t : LX) (w : AH), Ex M_X11_told lv 18 (some (.null) :: t) st w = Ex M_X11_told lv 19 (some (.null) :: t) (.null :: st) w)
  ∧ (∀ (lv : Nat) (l : LX) (st : List Value) (w : AH), Ex M_X11_told lv 19 l st w = Ex M_X11_told lv 21 l (.int (-1000000001) :: st) w)
  ∧ (∀ (lv : Nat) (l : LX) (b : Nat) (a0 : Int32) (w : AH), Ex M_X11_told lv 21 l (.int a0 :: .ref b :: []) w = if clK (hg w b) = 10 then (if (Call M_X11_refuse 60 [.ref b, .int a0] w).isSome = true then Ex M_X11_told lv 24 l (pushR (cV (Call M_X11_refuse 60 [.ref b, .int a0] w)) []) (cW (Call M_X11_refuse 60 [.ref b, .int a0] w) w) else none) else none)
  ∧ (∀ (lv : Nat) (l : LX) (x : Int32) (w : AH), Ex M_X11_told lv 24 l [.int x] w = some (some (.int x), w)) :=
  ⟨(fun lv st t o0 x w => Ex_M (i := .iload_n 1) (n := 1) (by decide +kernel) rfl rfl rfl),
   (fun lv l st w => Ex_A (i := .iconst 1) (n := 1) (by decide +kernel) rfl rfl),
   (fun lv l st w => Ex_A (i := .iconst 5) (n := 1) (by decide +kernel) rfl rfl),
   (fun lv l a0 a1 a2 w => Ex_callS (by decide +kernel : decode M_X11_told.2.1 3 = .ok (.invokestatic 69, 3)) rfl (by rfl : resM (mCn M_X11_told) 69 = some (0, M_X11_isWithin)) (by decide) rfl (by rfl) (Nat.le_of_ble_eq_true rfl) (sLv_lt (by decide +kernel))),
   (fun lv l st x w => Ex_if_eq (by decide +kernel : decode M_X11_told.2.1 6 = .ok (.ifCond .eq 12, 3)) rfl rfl),
   (fun lv st t x w => Ex_M (i := .aload_n 0) (n := 1) (by decide +kernel) rfl rfl rfl),
   (fun lv st t w => Ex_M (i := .aload_n 0) (n := 1) (by decide +kernel) rfl rfl rfl),
   (fun lv l st a w => Ex_getf (by decide +kernel : decode M_X11_told.2.1 10 = .ok (.getfield 56, 3)) rfl (by decide +kernel : resF (mCn M_X11_told) 56 = some (10, 8, (.array .int), true))),
   (fun lv st t o0 x w => Ex_M (i := .iload_n 1) (n := 1) (by decide +kernel) rfl rfl rfl),
   (fun lv l st a i w => Ex_ial (by decide +kernel : decode M_X11_told.2.1 14 = .ok (.iaload, 1)) rfl),
   (fun lv l st w => Ex_goto (by decide +kernel : decode M_X11_told.2.1 15 = .ok (.goto 9, 3)) rfl),
   (fun lv st t x w => Ex_M (i := .aload_n 0) (n := 1) (by decide +kernel) rfl rfl rfl),
   (fun lv st t w => Ex_M (i := .aload_n 0) (n := 1) (by decide +kernel) rfl rfl rfl),
   (fun lv l st w => Ex_ldcI (by decide +kernel : decode M_X11_told.2.1 19 = .ok (.ldc 73, 2)) rfl (by decide +kernel)),
   (fun lv l b a0 w => Ex_callV (by decide +kernel : decode M_X11_told.2.1 21 = .ok (.invokevirtual 74, 3)) rfl (by rfl : resM (mCn M_X11_told) 74 = some (2, M_X11_refuse)) rfl (by rfl) (Nat.le_of_ble_eq_true rfl) (by decide +kernel) (sLv_lt (by decide +kernel))),
   (fun lv l x w => Ex_R (i := .ireturn) (n := 1) (by decide +kernel) rfl rfl rfl rfl rfl)⟩
set_option maxRecDepth 20000 in
set_option maxHeartbeats 4000000 in
theorem R_X11_refuse : (∀ (lv : Nat) (l : LX) (st : List Value) (w : AH), Ex M_X11_refuse lv 0 l st w = Ex M_X11_refuse lv 3 l (.int (-1000000000) :: st) w)
  ∧ (∀ (lv : Nat) (st : List Value) (t : LX) (o0 : Option Value) (x : Int32) (w : AH), Ex M_X11_refuse lv 3 (o0 :: some (.int x) :: t) st w = Ex M_X11_refuse lv 4 (o0 :: some (.int x) :: t) (.int x :: st) w)
  ∧ (∀ (lv : Nat) (l : LX) (st : List Value) (x y : Int32) (w : AH), Ex M_X11_refuse lv 4 l (.int y :: .int x :: st) w = Ex M_X11_refuse lv 5 l (.int (x - y) :: st) w)
  ∧ (∀ (lv : Nat) (l : LX) (st : List Value) (x : Int32) (w : AH), Ex M_X11_refuse lv 5 l (.int x :: st) w = Ex M_X11_refuse lv 6 (ls1 l 2 (.int x)) st w)
  ∧ (∀ (lv : Nat) (st : List Value) (t : LX) (o0 o1 : Option Value) (x : Int32) (w : AH), Ex M_X11_refuse lv 6 (o0 :: o1 :: some (.int x) :: t) st w = Ex M_X11_refuse lv 7 (o0 :: o1 :: some (.int x) :: t) (.int x :: st) w)
  ∧ (∀ (lv : Nat) (l : LX) (st : List Value) (w : AH), Ex M_X11_refuse lv 7 l st w = Ex M_X11_refuse lv 8 l (.int 1 :: st) w)
  ∧ (∀ (lv : Nat) (l : LX) (st : List Value) (w : AH), Ex M_X11_refuse lv 8 l st w = Ex M_X11_refuse lv 9 l (.int 5 :: st) w)
  ∧ (∀ (lv : Nat) (l : LX) (a0 : Int32) (a1 : Int32) (a2 : Int32) (w : AH), Ex M_X11_refuse lv 9 l (.int a2 :: .int a1 :: .int a0 :: []) w = if (Call M_X11_isWithin 60 [.int a0, .int a1, .int a2] w).isSome = true then Ex M_X11_refuse lv 12 l (pushR (cV (Call M_X11_isWithin 60 [.int a0, .int a1, .int a2] w)) []) (cW (Call M_X11_isWithin 60 [.int a0, .int a1, .int a2] w) w) else none)
  ∧ (∀ (lv : Nat) (l : LX) (st : List Value) (x : Int32) (w : AH), Ex M_X11_refuse lv 12 l (.int x :: st) w = if x = 0 then Ex M_X11_refuse lv 25 l st w else Ex M_X11_refuse lv 15 l st w)
  ∧ (∀ (lv : Nat) (st : List Value) (t : LX) (x : Nat) (w : AH), Ex M_X11_refuse lv 15 (some (.ref x) :: t) st w = Ex M_X11_refuse lv 16 (some (.ref x) :: t) (.ref x :: st) w)
  ∧ (∀ (lv : Nat) (st : List Value) (t : LX) (w : AH), Ex M_X11_refuse lv 15 (some (.null) :: t) st w = Ex M_X11_refuse lv 16 (some (.null) :: t) (.null :: st) w)
  ∧ (∀ (lv : Nat) (l : LX) (st : List Value) (a : Nat) (w : AH), Ex M_X11_refuse lv 16 l (.ref a :: st) w = if (gf (hg w a) 10 8).isSome = true then Ex M_X11_refuse lv 19 l (vV (gf (hg w a) 10 8) :: st) w else none)
  ∧ (∀ (lv : Nat) (st : List Value) (t : LX) (o0 o1 : Option Value) (x : Int32) (w : AH), Ex M_X11_refuse lv 19 (o0 :: o1 :: some (.int x) :: t) st w = Ex M_X11_refuse lv 20 (o0 :: o1 :: some (.int x) :: t) (.int x :: st) w)
  ∧ (∀ (lv : Nat) (l : LX) (st : List Value) (x : Int32) (y : Nat) (w : AH), Ex M_X11_refuse lv 20 l (.int x :: .ref y :: st) w = Ex M_X11_refuse lv 21 l (.int x :: .ref y :: .int x :: .ref y :: st) w)
  ∧ (∀ (lv : Nat) (l : LX) (st : List Value) (a : Nat) (i : Int32) (w : AH), Ex M_X11_refuse lv 21 l (.int i :: .ref a :: st) w = if (aI (hg w a) i).isSome = true then Ex M_X11_refuse lv 22 l (.int (vI (aI (hg w a) i)) :: st) w else none)
  ∧ (∀ (lv : Nat) (l : LX) (st : List Value) (w : AH), Ex M_X11_refuse lv 22 l st w = Ex M_X11_refuse lv 23 l (.int 1 :: st) w)
  ∧ (∀ (lv : Nat) (l : LX) (st : List Value) (x y : Int32) (w : AH), Ex M_X11_refuse lv 23 l (.int y :: .int x :: st) w = Ex M_X11_refuse lv 24 l (.int (x + y) :: st) w)
  ∧ (∀ (lv : Nat) (l : LX) (st : List Value) (a : Nat) (i : Int32) (x : Int32) (w : AH), Ex M_X11_refuse lv 24 l (.int x :: .int i :: .ref a :: st) w = if (uI (hg w a) i x).isSome = true then Ex M_X11_refuse lv 25 l st (hs w a (vE (uI (hg w a) i x))) else none)
  ∧ (∀ (lv : Nat) (st : List Value) (t : LX) (o0 : Option Value) (x : Int32) (w : AH), Ex M_X11_refuse lv 25 (o0 :: some (.int x) :: t) st w = Ex M_X11_refuse lv 26 (o0 :: some (.int x) :: t) (.int x :: st) w)
  ∧ (∀ (lv : Nat) (l : LX) (x : Int32) (w : AH), Ex M_X11_refuse lv 26 l [.int x] w = some (some (.int x), w)) :=
  ⟨(fun lv l st w => Ex_ldcw (by decide +kernel : decode M_X11_refuse.2.1 0 = .ok (.ldc_w 343, 3)) rfl (by decide +kernel)),
   (fun lv st t o0 x w => Ex_M (i := .iload_n 1) (n := 1) (by decide +kernel) rfl rfl rfl),
   (fun lv l st x y w => Ex_A (i := .isub) (n := 1) (by decide +kernel) rfl rfl),
   (fun lv l st x w => Ex_M (i := .istore_n 2) (n := 1) (by decide +kernel) rfl rfl rfl),
   (fun lv st t o0 o1 x w => Ex_M (i := .iload_n 2) (n := 1) (by decide +kernel) rfl rfl rfl),
   (fun lv l st w => Ex_A (i := .iconst 1) (n := 1) (by decide +kernel) rfl rfl),
   (fun lv l st w => Ex_A (i := .iconst 5) (n := 1) (by decide +kernel) rfl rfl),
   (fun lv l a0 a1 a2 w => Ex_callS (by decide +kernel : decode M_X11_refuse.2.1 9 = .ok (.invokestatic 69, 3)) rfl (by rfl : resM (mCn M_X11_refuse) 69 = some (0, M_X11_isWithin)) (by decide) rfl (by rfl) (Nat.le_of_ble_eq_true rfl) (sLv_lt (by decide +kernel))),
   (fun lv l st x w => Ex_if_eq (by decide +kernel : decode M_X11_refuse.2.1 12 = .ok (.ifCond .eq 13, 3)) rfl rfl),
   (fun lv st t x w => Ex_M (i := .aload_n 0) (n := 1) (by decide +kernel) rfl rfl rfl),
   (fun lv st t w => Ex_M (i := .aload_n 0) (n := 1) (by decide +kernel) rfl rfl rfl),
   (fun lv l st a w => Ex_getf (by decide +kernel : decode M_X11_refuse.2.1 16 = .ok (.getfield 56, 3)) rfl (by decide +kernel : resF (mCn M_X11_refuse) 56 = some (10, 8, (.array .int), true))),
   (fun lv st t o0 o1 x w => Ex_M (i := .iload_n 2) (n := 1) (by decide +kernel) rfl rfl rfl),
   (fun lv l st x y w => Ex_A (i := .dup2) (n := 1) (by decide +kernel) rfl rfl),
   (fun lv l st a i w => Ex_ial (by decide +kernel : decode M_X11_refuse.2.1 21 = .ok (.iaload, 1)) rfl),
   (fun lv l st w => Ex_A (i := .iconst 1) (n := 1) (by decide +kernel) rfl rfl),
   (fun lv l st x y w => Ex_A (i := .iadd) (n := 1) (by decide +kernel) rfl rfl),
   (fun lv l st a i x w => Ex_ias (by decide +kernel : decode M_X11_refuse.2.1 24 = .ok (.iastore, 1)) rfl),
   (fun lv st t o0 x w => Ex_M (i := .iload_n 1) (n := 1) (by decide +kernel) rfl rfl rfl),
   (fun lv l x w => Ex_R (i := .ireturn) (n := 1) (by decide +kernel) rfl rfl rfl rfl rfl)⟩
set_option maxRecDepth 20000 in
set_option maxHeartbeats 4000000 in
theorem R_X11_sheetOf : (∀ (lv : Nat) (st : List Value) (t : LX) (o0 : Option Value) (x : Int32) (w : AH), Ex M_X11_sheetOf lv 0 (o0 :: some (.int x) :: t) st w = Ex M_X11_sheetOf lv 1 (o0 :: some (.int x) :: t) (.int x :: st) w)
  ∧ (∀ (lv : Nat) (l : LX) (st : List Value) (w : AH), Ex M_X11_sheetOf lv 1 l st w = Ex M_X11_sheetOf lv 2 l (.int 0 :: st) w)
  ∧ (∀ (lv : Nat) (l : LX) (st : List Value) (w : AH), Ex M_X11_sheetOf lv 2 l st w = Ex M_X11_sheetOf lv 3 l (.int 3 :: st) w)
  ∧ (∀ (lv : Nat) (l : LX) (a0 : Int32) (a1 : Int32) (a2 : Int32) (w : AH), Ex M_X11_sheetOf lv 3 l (.int a2 :: .int a1 :: .int a0 :: []) w = if (Call M_X11_isWithin 60 [.int a0, .int a1, .int a2] w).isSome = true then Ex M_X11_sheetOf lv 6 l (pushR (cV (Call M_X11_isWithin 60 [.int a0, .int a1, .int a2] w)) []) (cW (Call M_X11_isWithin 60 [.int a0, .int a1, .int a2] w) w) else none)
  ∧ (∀ (lv : Nat) (l : LX) (st : List Value) (x : Int32) (w : AH), Ex M_X11_sheetOf lv 6 l (.int x :: st) w = if x = 0 then Ex M_X11_sheetOf lv 18 l st w else Ex M_X11_sheetOf lv 9 l st w)
  ∧ (∀ (lv : Nat) (st : List Value) (t : LX) (x : Nat) (w : AH), Ex M_X11_sheetOf lv 9 (some (.ref x) :: t) st w = Ex M_X11_sheetOf lv 10 (some (.ref x) :: t) (.ref x :: st) w)
  ∧ (∀ (lv : Nat) (st : List Value) (t : LX) (w : AH), Ex M_X11_sheetOf lv 9 (some (.null) :: t) st w = Ex M_X11_sheetOf lv 10 (some (.null) :: t) (.null :: st) w)
  ∧ (∀ (lv : Nat) (l : LX) (st : List Value) (a : Nat) (w : AH), Ex M_X11_sheetOf lv 10 l (.ref a :: st) w = if (gf (hg w a) 10 7).isSome = true then Ex M_X11_sheetOf lv 13 l (vV (gf (hg w a) 10 7) :: st) w else none)
  ∧ (∀ (lv : Nat) (st : List Value) (t : LX) (o0 : Option Value) (x : Int32) (w : AH), Ex M_X11_sheetOf lv 13 (o0 :: some (.int x) :: t) st w = Ex M_X11_sheetOf lv 14 (o0 :: some (.int x) :: t) (.int x :: st) w)
  ∧ (∀ (lv : Nat) (l : LX) (st : List Value) (a : Nat) (i : Int32) (w : AH), Ex M_X11_sheetOf lv 14 l (.int i :: .ref a :: st) w = if (aQ (hg w a) i).isSome = true then Ex M_X11_sheetOf lv 15 l (vV (aQ (hg w a) i) :: st) w else none)
  ∧ (∀ (lv : Nat) (l : LX) (st : List Value) (w : AH), Ex M_X11_sheetOf lv 15 l st w = Ex M_X11_sheetOf lv 19 l st w)
  ∧ (∀ (lv : Nat) (l : LX) (st : List Value) (w : AH), Ex M_X11_sheetOf lv 18 l st w = Ex M_X11_sheetOf lv 19 l (.null :: st) w)
  ∧ (∀ (lv : Nat) (l : LX) (x : Nat) (w : AH), Ex M_X11_sheetOf lv 19 l [.ref x] w = some (some (.ref x), w))
  ∧ (∀ (lv : Nat) (l : LX) (w : AH), Ex M_X11_sheetOf lv 19 l [.null] w = some (some .null, w)) :=
  ⟨(fun lv st t o0 x w => Ex_M (i := .iload_n 1) (n := 1) (by decide +kernel) rfl rfl rfl),
   (fun lv l st w => Ex_A (i := .iconst 0) (n := 1) (by decide +kernel) rfl rfl),
   (fun lv l st w => Ex_A (i := .iconst 3) (n := 1) (by decide +kernel) rfl rfl),
   (fun lv l a0 a1 a2 w => Ex_callS (by decide +kernel : decode M_X11_sheetOf.2.1 3 = .ok (.invokestatic 69, 3)) rfl (by rfl : resM (mCn M_X11_sheetOf) 69 = some (0, M_X11_isWithin)) (by decide) rfl (by rfl) (Nat.le_of_ble_eq_true rfl) (sLv_lt (by decide +kernel))),
   (fun lv l st x w => Ex_if_eq (by decide +kernel : decode M_X11_sheetOf.2.1 6 = .ok (.ifCond .eq 12, 3)) rfl rfl),
   (fun lv st t x w => Ex_M (i := .aload_n 0) (n := 1) (by decide +kernel) rfl rfl rfl),
   (fun lv st t w => Ex_M (i := .aload_n 0) (n := 1) (by decide +kernel) rfl rfl rfl),
   (fun lv l st a w => Ex_getf (by decide +kernel : decode M_X11_sheetOf.2.1 10 = .ok (.getfield 52, 3)) rfl (by decide +kernel : resF (mCn M_X11_sheetOf) 52 = some (10, 7, (.array (.object "CarpetLands$Sheet")), true))),
   (fun lv st t o0 x w => Ex_M (i := .iload_n 1) (n := 1) (by decide +kernel) rfl rfl rfl),
   (fun lv l st a i w => Ex_aal (by decide +kernel : decode M_X11_sheetOf.2.1 14 = .ok (.aaload, 1)) rfl),
   (fun lv l st w => Ex_goto (by decide +kernel : decode M_X11_sheetOf.2.1 15 = .ok (.goto 4, 3)) rfl),
   (fun lv l st w => Ex_A (i := .aconst_null) (n := 1) (by decide +kernel) rfl rfl),
   (fun lv l x w => Ex_R (i := .areturn) (n := 1) (by decide +kernel) rfl rfl rfl rfl rfl),
   (fun lv l w => Ex_R (i := .areturn) (n := 1) (by decide +kernel) rfl rfl rfl rfl rfl)⟩
set_option maxRecDepth 20000 in
set_option maxHeartbeats 4000000 in
theorem R_X11_isWithin : (∀ (lv : Nat) (st : List Value) (t : LX) (x : Int32) (w : AH), Ex M_X11_isWithin lv 0 (some (.int x) :: t) st w = Ex M_X11_isWithin lv 1 (some (.int x) :: t) (.int x :: st) w)
  ∧ (∀ (lv : Nat) (st : List Value) (t : LX) (o0 : Option Value) (x : Int32) (w : AH), Ex M_X11_isWithin lv 1 (o0 :: some (.int x) :: t) st w = Ex M_X11_isWithin lv 2 (o0 :: some (.int x) :: t) (.int x :: st) w)
  ∧ (∀ (lv : Nat) (l : LX) (st : List Value) (x y : Int32) (w : AH), Ex M_X11_isWithin lv 2 l (.int y :: .int x :: st) w = if x < y then Ex M_X11_isWithin lv 14 l st w else Ex M_X11_isWithin lv 5 l st w)
  ∧ (∀ (lv : Nat) (st : List Value) (t : LX) (x : Int32) (w : AH), Ex M_X11_isWithin lv 5 (some (.int x) :: t) st w = Ex M_X11_isWithin lv 6 (some (.int x) :: t) (.int x :: st) w)
  ∧ (∀ (lv : Nat) (st : List Value) (t : LX) (o0 o1 : Option Value) (x : Int32) (w : AH), Ex M_X11_isWithin lv 6 (o0 :: o1 :: some (.int x) :: t) st w = Ex M_X11_isWithin lv 7 (o0 :: o1 :: some (.int x) :: t) (.int x :: st) w)
  ∧ (∀ (lv : Nat) (l : LX) (st : List Value) (x y : Int32) (w : AH), Ex M_X11_isWithin lv 7 l (.int y :: .int x :: st) w = if y < x then Ex M_X11_isWithin lv 14 l st w else Ex M_X11_isWithin lv 10 l st w)
  ∧ (∀ (lv : Nat) (l : LX) (st : List Value) (w : AH), Ex M_X11_isWithin lv 10 l st w = Ex M_X11_isWithin lv 11 l (.int 1 :: st) w)
  ∧ (∀ (lv : Nat) (l : LX) (st : List Value) (w : AH), Ex M_X11_isWithin lv 11 l st w = Ex M_X11_isWithin lv 15 l st w)
  ∧ (∀ (lv : Nat) (l : LX) (st : List Value) (w : AH), Ex M_X11_isWithin lv 14 l st w = Ex M_X11_isWithin lv 15 l (.int 0 :: st) w)
  ∧ (∀ (lv : Nat) (l : LX) (x : Int32) (w : AH), Ex M_X11_isWithin lv 15 l [.int x] w = if x = 0 ∨ x = 1 then some (some (.int x), w) else none) :=
  ⟨(fun lv st t x w => Ex_M (i := .iload_n 0) (n := 1) (by decide +kernel) rfl rfl rfl),
   (fun lv st t o0 x w => Ex_M (i := .iload_n 1) (n := 1) (by decide +kernel) rfl rfl rfl),
   (fun lv l st x y w => Ex_icmp_lt (by decide +kernel : decode M_X11_isWithin.2.1 2 = .ok (.if_icmp .lt 12, 3)) rfl rfl),
   (fun lv st t x w => Ex_M (i := .iload_n 0) (n := 1) (by decide +kernel) rfl rfl rfl),
   (fun lv st t o0 o1 x w => Ex_M (i := .iload_n 2) (n := 1) (by decide +kernel) rfl rfl rfl),
   (fun lv l st x y w => Ex_icmp_gt (by decide +kernel : decode M_X11_isWithin.2.1 7 = .ok (.if_icmp .gt 7, 3)) rfl rfl),
   (fun lv l st w => Ex_A (i := .iconst 1) (n := 1) (by decide +kernel) rfl rfl),
   (fun lv l st w => Ex_goto (by decide +kernel : decode M_X11_isWithin.2.1 11 = .ok (.goto 4, 3)) rfl),
   (fun lv l st w => Ex_A (i := .iconst 0) (n := 1) (by decide +kernel) rfl rfl),
   (fun lv l x w => Ex_zret (by decide +kernel : decode M_X11_isWithin.2.1 15 = .ok (.ireturn, 1)) rfl)⟩
set_option maxRecDepth 20000 in
set_option maxHeartbeats 4000000 in
theorem R_X11_isKnot : (∀ (lv : Nat) (st : List Value) (t : LX) (x : Int32) (w : AH), Ex M_X11_isKnot lv 0 (some (.int x) :: t) st w = Ex M_X11_isKnot lv 1 (some (.int x) :: t) (.int x :: st) w)
  ∧ (∀ (lv : Nat) (l : LX) (st : List Value) (x : Int32) (w : AH), Ex M_X11_isKnot lv 1 l (.int x :: st) w = if x < 0 then Ex M_X11_isKnot lv 14 l st w else Ex M_X11_isKnot lv 4 l st w)
  ∧ (∀ (lv : Nat) (st : List Value) (t : LX) (x : Int32) (w : AH), Ex M_X11_isKnot lv 4 (some (.int x) :: t) st w = Ex M_X11_isKnot lv 5 (some (.int x) :: t) (.int x :: st) w)
  ∧ (∀ (lv : Nat) (l : LX) (st : List Value) (w : AH), Ex M_X11_isKnot lv 5 l st w = Ex M_X11_isKnot lv 7 l (.int 36 :: st) w)
  ∧ (∀ (lv : Nat) (l : LX) (st : List Value) (x y : Int32) (w : AH), Ex M_X11_isKnot lv 7 l (.int y :: .int x :: st) w = if y ≤ x then Ex M_X11_isKnot lv 14 l st w else Ex M_X11_isKnot lv 10 l st w)
  ∧ (∀ (lv : Nat) (l : LX) (st : List Value) (w : AH), Ex M_X11_isKnot lv 10 l st w = Ex M_X11_isKnot lv 11 l (.int 1 :: st) w)
  ∧ (∀ (lv : Nat) (l : LX) (st : List Value) (w : AH), Ex M_X11_isKnot lv 11 l st w = Ex M_X11_isKnot lv 15 l st w)
  ∧ (∀ (lv : Nat) (l : LX) (st : List Value) (w : AH), Ex M_X11_isKnot lv 14 l st w = Ex M_X11_isKnot lv 15 l (.int 0 :: st) w)
  ∧ (∀ (lv : Nat) (l : LX) (x : Int32) (w : AH), Ex M_X11_isKnot lv 15 l [.int x] w = if x = 0 ∨ x = 1 then some (some (.int x), w) else none) :=
  ⟨(fun lv st t x w => Ex_M (i := .iload_n 0) (n := 1) (by decide +kernel) rfl rfl rfl),
   (fun lv l st x w => Ex_if_lt (by decide +kernel : decode M_X11_isKnot.2.1 1 = .ok (.ifCond .lt 13, 3)) rfl rfl),
   (fun lv st t x w => Ex_M (i := .iload_n 0) (n := 1) (by decide +kernel) rfl rfl rfl),
   (fun lv l st w => Ex_A (i := .bipush 36) (n := 2) (by decide +kernel) rfl rfl),
   (fun lv l st x y w => Ex_icmp_ge (by decide +kernel : decode M_X11_isKnot.2.1 7 = .ok (.if_icmp .ge 7, 3)) rfl rfl),
   (fun lv l st w => Ex_A (i := .iconst 1) (n := 1) (by decide +kernel) rfl rfl),
   (fun lv l st w => Ex_goto (by decide +kernel : decode M_X11_isKnot.2.1 11 = .ok (.goto 4, 3)) rfl),
   (fun lv l st w => Ex_A (i := .iconst 0) (n := 1) (by decide +kernel) rfl rfl),
   (fun lv l x w => Ex_zret (by decide +kernel : decode M_X11_isKnot.2.1 15 = .ok (.ireturn, 1)) rfl)⟩
set_option maxRecDepth 20000 in
set_option maxHeartbeats 4000000 in
theorem R_X11_isColour : (∀ (lv : Nat) (st : List Value) (t : LX) (x : Int32) (w : AH), Ex M_X11_isColour lv 0 (some (.int x) :: t) st w = Ex M_X11_isColour lv 1 (some (.int x) :: t) (.int x :: st) w)
  ∧ (∀ (lv : Nat) (l : LX) (st : List Value) (w : AH), Ex M_X11_isColour lv 1 l st w = Ex M_X11_isColour lv 2 l (.int 0 :: st) w)
  ∧ (∀ (lv : Nat) (l : LX) (st : List Value) (w : AH), Ex M_X11_isColour lv 2 l st w = Ex M_X11_isColour lv 4 l (.int 7 :: st) w)
  ∧ (∀ (lv : Nat) (l : LX) (a0 : Int32) (a1 : Int32) (a2 : Int32) (w : AH), Ex M_X11_isColour lv 4 l (.int a2 :: .int a1 :: .int a0 :: []) w = if (Call M_X11_isWithin 60 [.int a0, .int a1, .int a2] w).isSome = true then Ex M_X11_isColour lv 7 l (pushR (cV (Call M_X11_isWithin 60 [.int a0, .int a1, .int a2] w)) []) (cW (Call M_X11_isWithin 60 [.int a0, .int a1, .int a2] w) w) else none)
  ∧ (∀ (lv : Nat) (l : LX) (x : Int32) (w : AH), Ex M_X11_isColour lv 7 l [.int x] w = if x = 0 ∨ x = 1 then some (some (.int x), w) else none) :=
  ⟨(fun lv st t x w => Ex_M (i := .iload_n 0) (n := 1) (by decide +kernel) rfl rfl rfl),
   (fun lv l st w => Ex_A (i := .iconst 0) (n := 1) (by decide +kernel) rfl rfl),
   (fun lv l st w => Ex_A (i := .bipush 7) (n := 2) (by decide +kernel) rfl rfl),
   (fun lv l a0 a1 a2 w => Ex_callS (by decide +kernel : decode M_X11_isColour.2.1 4 = .ok (.invokestatic 69, 3)) rfl (by rfl : resM (mCn M_X11_isColour) 69 = some (0, M_X11_isWithin)) (by decide) rfl (by rfl) (Nat.le_of_ble_eq_true rfl) (sLv_lt (by decide +kernel))),
   (fun lv l x w => Ex_zret (by decide +kernel : decode M_X11_isColour.2.1 7 = .ok (.ireturn, 1)) rfl)⟩
set_option maxRecDepth 20000 in
set_option maxHeartbeats 4000000 in
theorem R_X11_isKindAndM : (∀ (lv : Nat) (st : List Value) (t : LX) (x : Int32) (w : AH), Ex M_X11_isKindAndM lv 0 (some (.int x) :: t) st w = Ex M_X11_isKindAndM lv 1 (some (.int x) :: t) (.int x :: st) w)
  ∧ (∀ (lv : Nat) (l : LX) (st : List Value) (w : AH), Ex M_X11_isKindAndM lv 1 l st w = Ex M_X11_isKindAndM lv 2 l (.int 0 :: st) w)
  ∧ (∀ (lv : Nat) (l : LX) (st : List Value) (w : AH), Ex M_X11_isKindAndM lv 2 l st w = Ex M_X11_isKindAndM lv 4 l (.int 69 :: st) w)
  ∧ (∀ (lv : Nat) (l : LX) (a0 : Int32) (a1 : Int32) (a2 : Int32) (w : AH), Ex M_X11_isKindAndM lv 4 l (.int a2 :: .int a1 :: .int a0 :: []) w = if (Call M_X11_isWithin 60 [.int a0, .int a1, .int a2] w).isSome = true then Ex M_X11_isKindAndM lv 7 l (pushR (cV (Call M_X11_isWithin 60 [.int a0, .int a1, .int a2] w)) []) (cW (Call M_X11_isWithin 60 [.int a0, .int a1, .int a2] w) w) else none)
  ∧ (∀ (lv : Nat) (l : LX) (x : Int32) (w : AH), Ex M_X11_isKindAndM lv 7 l [.int x] w = if x = 0 ∨ x = 1 then some (some (.int x), w) else none) :=
  ⟨(fun lv st t x w => Ex_M (i := .iload_n 0) (n := 1) (by decide +kernel) rfl rfl rfl),
   (fun lv l st w => Ex_A (i := .iconst 0) (n := 1) (by decide +kernel) rfl rfl),
   (fun lv l st w => Ex_A (i := .bipush 69) (n := 2) (by decide +kernel) rfl rfl),
   (fun lv l a0 a1 a2 w => Ex_callS (by decide +kernel : decode M_X11_isKindAndM.2.1 4 = .ok (.invokestatic 69, 3)) rfl (by rfl : resM (mCn M_X11_isKindAndM) 69 = some (0, M_X11_isWithin)) (by decide) rfl (by rfl) (Nat.le_of_ble_eq_true rfl) (sLv_lt (by decide +kernel))),
   (fun lv l x w => Ex_zret (by decide +kernel : decode M_X11_isKindAndM.2.1 7 = .ok (.ireturn, 1)) rfl)⟩
set_option maxRecDepth 20000 in
set_option maxHeartbeats 4000000 in
theorem R_X11_isUse : (∀ (lv : Nat) (st : List Value) (t : LX) (x : Int32) (w : AH), Ex M_X11_isUse lv 0 (some (.int x) :: t) st w = Ex M_X11_isUse lv 1 (some (.int x) :: t) (.int x :: st) w)
  ∧ (∀ (lv : Nat) (l : LX) (st : List Value) (x : Int32) (w : AH), Ex M_X11_isUse lv 1 l (.int x :: st) w = if x = 0 then Ex M_X11_isUse lv 9 l st w else Ex M_X11_isUse lv 4 l st w)
  ∧ (∀ (lv : Nat) (st : List Value) (t : LX) (x : Int32) (w : AH), Ex M_X11_isUse lv 4 (some (.int x) :: t) st w = Ex M_X11_isUse lv 5 (some (.int x) :: t) (.int x :: st) w)
  ∧ (∀ (lv : Nat) (l : LX) (st : List Value) (w : AH), Ex M_X11_isUse lv 5 l st w = Ex M_X11_isUse lv 6 l (.int 1 :: st) w)
  ∧ (∀ (lv : Nat) (l : LX) (st : List Value) (x y : Int32) (w : AH), Ex M_X11_isUse lv 6 l (.int y :: .int x :: st) w = if ¬ x = y then Ex M_X11_isUse lv 13 l st w else Ex M_X11_isUse lv 9 l st w)
  ∧ (∀ (lv : Nat) (l : LX) (st : List Value) (w : AH), Ex M_X11_isUse lv 9 l st w = Ex M_X11_isUse lv 10 l (.int 1 :: st) w)
  ∧ (∀ (lv : Nat) (l : LX) (st : List Value) (w : AH), Ex M_X11_isUse lv 10 l st w = Ex M_X11_isUse lv 14 l st w)
  ∧ (∀ (lv : Nat) (l : LX) (st : List Value) (w : AH), Ex M_X11_isUse lv 13 l st w = Ex M_X11_isUse lv 14 l (.int 0 :: st) w)
  ∧ (∀ (lv : Nat) (l : LX) (x : Int32) (w : AH), Ex M_X11_isUse lv 14 l [.int x] w = if x = 0 ∨ x = 1 then some (some (.int x), w) else none) :=
  ⟨(fun lv st t x w => Ex_M (i := .iload_n 0) (n := 1) (by decide +kernel) rfl rfl rfl),
   (fun lv l st x w => Ex_if_eq (by decide +kernel : decode M_X11_isUse.2.1 1 = .ok (.ifCond .eq 8, 3)) rfl rfl),
   (fun lv st t x w => Ex_M (i := .iload_n 0) (n := 1) (by decide +kernel) rfl rfl rfl),
   (fun lv l st w => Ex_A (i := .iconst 1) (n := 1) (by decide +kernel) rfl rfl),
   (fun lv l st x y w => Ex_icmp_ne (by decide +kernel : decode M_X11_isUse.2.1 6 = .ok (.if_icmp .ne 7, 3)) rfl rfl),
   (fun lv l st w => Ex_A (i := .iconst 1) (n := 1) (by decide +kernel) rfl rfl),
   (fun lv l st w => Ex_goto (by decide +kernel : decode M_X11_isUse.2.1 10 = .ok (.goto 4, 3)) rfl),
   (fun lv l st w => Ex_A (i := .iconst 0) (n := 1) (by decide +kernel) rfl rfl),
   (fun lv l x w => Ex_zret (by decide +kernel : decode M_X11_isUse.2.1 14 = .ok (.ireturn, 1)) rfl)⟩
