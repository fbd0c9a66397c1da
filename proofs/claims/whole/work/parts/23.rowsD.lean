/-! ===== printed by wip/whole/genrows.py: rows of Ex, a theorem a method ===== -/
set_option maxRecDepth 20000 in
theorem H_L_law_18 : ∀ (lv : Nat) (st : List Value) (t : LX) (o0 o1 o2 : Option Value) (x : Int32) (w : AH), Ex M_L_law lv 18 (o0 :: o1 :: o2 :: some (.int x) :: t) st w = Ex M_L_law lv 19 (o0 :: o1 :: o2 :: some (.int x) :: t) (.int x :: st) w := fun lv st t o0 o1 o2 x w => Ex_M (i := .iload_n 3) (n := 1) (by decide +kernel) rfl rfl rfl
set_option maxRecDepth 20000 in
set_option maxHeartbeats 4000000 in
theorem R_L_law_p0 : (∀ (lv : Nat) (l : LX) (st : List Value) (w : AH), Ex M_L_law lv 0 l st w = Ex M_L_law lv 3 l (.ref w.1 :: st) (hn w (.inr (10, [.null, .null, .null, .null, .null, .null, .null, .null, .null, .int 0])) 10))
  ∧ (∀ (lv : Nat) (l : LX) (st : List Value) (x : Nat) (w : AH), Ex M_L_law lv 3 l (.ref x :: st) w = Ex M_L_law lv 4 l (.ref x :: .ref x :: st) w)
  ∧ (∀ (lv : Nat) (l : LX) (b : Nat) (s0 : Nat) (w : AH), Ex M_L_law lv 4 l (.ref b :: [.ref s0]) w = if (Call M_X11_init 60 [.ref b] w).isSome = true then Ex M_L_law lv 7 l (pushR (cV (Call M_X11_init 60 [.ref b] w)) [.ref s0]) (cW (Call M_X11_init 60 [.ref b] w) w) else none)
  ∧ (∀ (lv : Nat) (l : LX) (st : List Value) (x : Nat) (w : AH), Ex M_L_law lv 7 l (.ref x :: st) w = Ex M_L_law lv 8 (ls1 l 1 (.ref x)) st w)
  ∧ (∀ (lv : Nat) (l : LX) (st : List Value) (w : AH), Ex M_L_law lv 7 l (.null :: st) w = Ex M_L_law lv 8 (ls1 l 1 (.null)) st w)
  ∧ (∀ (lv : Nat) (l : LX) (st : List Value) (w : AH), Ex M_L_law lv 8 l st w = Ex M_L_law lv 11 l (.ref w.1 :: st) (hn w (.inr (11, [.null, .null, .int 0, .null, .null, .int 0, .int 0, .int 0, .int 0, .int 0, .int 0, .null, .null, .int 0, .null, .int 0, .int 0, .int 0, .null, .null, .null, .int 0, .int 0, .null, .null, .null, .null])) 27))
  ∧ (∀ (lv : Nat) (l : LX) (st : List Value) (x : Nat) (w : AH), Ex M_L_law lv 11 l (.ref x :: st) w = Ex M_L_law lv 12 l (.ref x :: .ref x :: st) w)
  ∧ (∀ (lv : Nat) (l : LX) (b : Nat) (s0 : Nat) (w : AH), Ex M_L_law lv 12 l (.ref b :: [.ref s0]) w = if (Call M_X12_init 60 [.ref b] w).isSome = true then Ex M_L_law lv 15 l (pushR (cV (Call M_X12_init 60 [.ref b] w)) [.ref s0]) (cW (Call M_X12_init 60 [.ref b] w) w) else none)
  ∧ (∀ (lv : Nat) (l : LX) (st : List Value) (x : Nat) (w : AH), Ex M_L_law lv 15 l (.ref x :: st) w = Ex M_L_law lv 16 (ls1 l 2 (.ref x)) st w)
  ∧ (∀ (lv : Nat) (l : LX) (st : List Value) (w : AH), Ex M_L_law lv 15 l (.null :: st) w = Ex M_L_law lv 16 (ls1 l 2 (.null)) st w)
  ∧ (∀ (lv : Nat) (l : LX) (st : List Value) (w : AH), Ex M_L_law lv 16 l st w = Ex M_L_law lv 17 l (.int 0 :: st) w)
  ∧ (∀ (lv : Nat) (l : LX) (st : List Value) (x : Int32) (w : AH), Ex M_L_law lv 17 l (.int x :: st) w = Ex M_L_law lv 18 (ls1 l 3 (.int x)) st w)
  ∧ (∀ (lv : Nat) (st : List Value) (t : LX) (x : Nat) (w : AH), Ex M_L_law lv 19 (some (.ref x) :: t) st w = Ex M_L_law lv 20 (some (.ref x) :: t) (.ref x :: st) w)
  ∧ (∀ (lv : Nat) (st : List Value) (t : LX) (w : AH), Ex M_L_law lv 19 (some (.null) :: t) st w = Ex M_L_law lv 20 (some (.null) :: t) (.null :: st) w)
  ∧ (∀ (lv : Nat) (l : LX) (st : List Value) (a : Nat) (w : AH), Ex M_L_law lv 20 l (.ref a :: st) w = if (aL (hg w a)).isSome = true then Ex M_L_law lv 21 l (.int (vI (aL (hg w a))) :: st) w else none)
  ∧ (∀ (lv : Nat) (l : LX) (st : List Value) (w : AH), Ex M_L_law lv 21 l st w = Ex M_L_law lv 23 l (.int 6 :: st) w)
  ∧ (∀ (lv : Nat) (l : LX) (st : List Value) (x y : Int32) (w : AH), Ex M_L_law lv 23 l (.int y :: .int x :: st) w = Ex M_L_law lv 24 l (.int (x - y) :: st) w)
  ∧ (∀ (lv : Nat) (l : LX) (st : List Value) (x y : Int32) (w : AH), Ex M_L_law lv 24 l (.int y :: .int x :: st) w = if y < x then Ex M_L_law lv 1478 l st w else Ex M_L_law lv 27 l st w)
  ∧ (∀ (lv : Nat) (st : List Value) (t : LX) (x : Nat) (w : AH), Ex M_L_law lv 27 (some (.ref x) :: t) st w = Ex M_L_law lv 28 (some (.ref x) :: t) (.ref x :: st) w)
  ∧ (∀ (lv : Nat) (st : List Value) (t : LX) (w : AH), Ex M_L_law lv 27 (some (.null) :: t) st w = Ex M_L_law lv 28 (some (.null) :: t) (.null :: st) w)
  ∧ (∀ (lv : Nat) (st : List Value) (t : LX) (o0 o1 o2 : Option Value) (x : Int32) (w : AH), Ex M_L_law lv 28 (o0 :: o1 :: o2 :: some (.int x) :: t) st w = Ex M_L_law lv 29 (o0 :: o1 :: o2 :: some (.int x) :: t) (.int x :: st) w)
  ∧ (∀ (lv : Nat) (l : LX) (st : List Value) (a : Nat) (i : Int32) (w : AH), Ex M_L_law lv 29 l (.int i :: .ref a :: st) w = if (aI (hg w a) i).isSome = true then Ex M_L_law lv 30 l (.int (vI (aI (hg w a) i)) :: st) w else none)
  ∧ (∀ (lv : Nat) (l : LX) (st : List Value) (w : AH), Ex M_L_law lv 30 l st w = Ex M_L_law lv 32 l (.int 63 :: st) w)
  ∧ (∀ (lv : Nat) (l : LX) (st : List Value) (x y : Int32) (w : AH), Ex M_L_law lv 32 l (.int y :: .int x :: st) w = Ex M_L_law lv 33 l (.int (x &&& y) :: st) w)
  ∧ (∀ (lv : Nat) (l : LX) (st : List Value) (x : Int32) (w : AH), Ex M_L_law lv 33 l (.int x :: st) w = if x = 0 then Ex M_L_law lv 216 l st w else if x = 1 then Ex M_L_law lv 259 l st w else if x = 2 then Ex M_L_law lv 292 l st w else if x = 3 then Ex M_L_law lv 305 l st w else if x = 4 then Ex M_L_law lv 318 l st w else if x = 5 then Ex M_L_law lv 351 l st w else if x = 6 then Ex M_L_law lv 384 l st w else if x = 7 then Ex M_L_law lv 427 l st w else if x = 8 then Ex M_L_law lv 460 l st w else if x = 9 then Ex M_L_law lv 493 l st w else if x = 10 then Ex M_L_law lv 556 l st w else if x = 11 then Ex M_L_law lv 579 l st w else if x = 12 then Ex M_L_law lv 632 l st w else if x = 13 then Ex M_L_law lv 655 l st w else if x = 14 then Ex M_L_law lv 678 l st w else if x = 15 then Ex M_L_law lv 701 l st w else if x = 16 then Ex M_L_law lv 724 l st w else if x = 17 then Ex M_L_law lv 747 l st w else if x = 18 then Ex M_L_law lv 780 l st w else if x = 19 then Ex M_L_law lv 793 l st w else if x = 20 then Ex M_L_law lv 816 l st w else if x = 21 then Ex M_L_law lv 839 l st w else if x = 22 then Ex M_L_law lv 852 l st w else if x = 23 then Ex M_L_law lv 895 l st w else if x = 24 then Ex M_L_law lv 938 l st w else if x = 25 then Ex M_L_law lv 971 l st w else if x = 26 then Ex M_L_law lv 994 l st w else if x = 27 then Ex M_L_law lv 1037 l st w else if x = 28 then Ex M_L_law lv 1080 l st w else if x = 29 then Ex M_L_law lv 1103 l st w else if x = 30 then Ex M_L_law lv 1146 l st w else if x = 31 then Ex M_L_law lv 1169 l st w else if x = 32 then Ex M_L_law lv 1212 l st w else if x = 33 then Ex M_L_law lv 1255 l st w else if x = 34 then Ex M_L_law lv 1318 l st w else if x = 35 then Ex M_L_law lv 1341 l st w else if x = 36 then Ex M_L_law lv 1364 l st w else if x = 37 then Ex M_L_law lv 1377 l st w else if x = 38 then Ex M_L_law lv 1390 l st w else if x = 39 then Ex M_L_law lv 1413 l st w else if x = 40 then Ex M_L_law lv 1426 l st w else if x = 41 then Ex M_L_law lv 1449 l st w else Ex M_L_law lv 1472 l st w)
  ∧ (∀ (lv : Nat) (st : List Value) (t : LX) (o0 : Option Value) (x : Nat) (w : AH), Ex M_L_law lv 216 (o0 :: some (.ref x) :: t) st w = Ex M_L_law lv 217 (o0 :: some (.ref x) :: t) (.ref x :: st) w)
  ∧ (∀ (lv : Nat) (st : List Value) (t : LX) (o0 : Option Value) (w : AH), Ex M_L_law lv 216 (o0 :: some (.null) :: t) st w = Ex M_L_law lv 217 (o0 :: some (.null) :: t) (.null :: st) w)
  ∧ (∀ (lv : Nat) (st : List Value) (t : LX) (x : Nat) (w : AH), Ex M_L_law lv 217 (some (.ref x) :: t) st w = Ex M_L_law lv 218 (some (.ref x) :: t) (.ref x :: st) w)
  ∧ (∀ (lv : Nat) (st : List Value) (t : LX) (w : AH), Ex M_L_law lv 217 (some (.null) :: t) st w = Ex M_L_law lv 218 (some (.null) :: t) (.null :: st) w)
  ∧ (∀ (lv : Nat) (st : List Value) (t : LX) (o0 o1 o2 : Option Value) (x : Int32) (w : AH), Ex M_L_law lv 218 (o0 :: o1 :: o2 :: some (.int x) :: t) st w = Ex M_L_law lv 219 (o0 :: o1 :: o2 :: some (.int x) :: t) (.int x :: st) w)
  ∧ (∀ (lv : Nat) (l : LX) (st : List Value) (w : AH), Ex M_L_law lv 219 l st w = Ex M_L_law lv 220 l (.int 1 :: st) w)
  ∧ (∀ (lv : Nat) (l : LX) (st : List Value) (x y : Int32) (w : AH), Ex M_L_law lv 220 l (.int y :: .int x :: st) w = Ex M_L_law lv 221 l (.int (x + y) :: st) w)
  ∧ (∀ (lv : Nat) (l : LX) (st : List Value) (a : Nat) (i : Int32) (w : AH), Ex M_L_law lv 221 l (.int i :: .ref a :: st) w = if (aI (hg w a) i).isSome = true then Ex M_L_law lv 222 l (.int (vI (aI (hg w a) i)) :: st) w else none)
  ∧ (∀ (lv : Nat) (st : List Value) (t : LX) (x : Nat) (w : AH), Ex M_L_law lv 222 (some (.ref x) :: t) st w = Ex M_L_law lv 223 (some (.ref x) :: t) (.ref x :: st) w)
  ∧ (∀ (lv : Nat) (st : List Value) (t : LX) (w : AH), Ex M_L_law lv 222 (some (.null) :: t) st w = Ex M_L_law lv 223 (some (.null) :: t) (.null :: st) w)
  ∧ (∀ (lv : Nat) (st : List Value) (t : LX) (o0 o1 o2 : Option Value) (x : Int32) (w : AH), Ex M_L_law lv 223 (o0 :: o1 :: o2 :: some (.int x) :: t) st w = Ex M_L_law lv 224 (o0 :: o1 :: o2 :: some (.int x) :: t) (.int x :: st) w)
  ∧ (∀ (lv : Nat) (l : LX) (st : List Value) (w : AH), Ex M_L_law lv 224 l st w = Ex M_L_law lv 225 l (.int 2 :: st) w)
  ∧ (∀ (lv : Nat) (l : LX) (st : List Value) (x y : Int32) (w : AH), Ex M_L_law lv 225 l (.int y :: .int x :: st) w = Ex M_L_law lv 226 l (.int (x + y) :: st) w)
  ∧ (∀ (lv : Nat) (l : LX) (st : List Value) (a : Nat) (i : Int32) (w : AH), Ex M_L_law lv 226 l (.int i :: .ref a :: st) w = if (aI (hg w a) i).isSome = true then Ex M_L_law lv 227 l (.int (vI (aI (hg w a) i)) :: st) w else none)
  ∧ (∀ (lv : Nat) (st : List Value) (t : LX) (x : Nat) (w : AH), Ex M_L_law lv 227 (some (.ref x) :: t) st w = Ex M_L_law lv 228 (some (.ref x) :: t) (.ref x :: st) w)
  ∧ (∀ (lv : Nat) (st : List Value) (t : LX) (w : AH), Ex M_L_law lv 227 (some (.null) :: t) st w = Ex M_L_law lv 228 (some (.null) :: t) (.null :: st) w)
  ∧ (∀ (lv : Nat) (st : List Value) (t : LX) (o0 o1 o2 : Option Value) (x : Int32) (w : AH), Ex M_L_law lv 228 (o0 :: o1 :: o2 :: some (.int x) :: t) st w = Ex M_L_law lv 229 (o0 :: o1 :: o2 :: some (.int x) :: t) (.int x :: st) w)
  ∧ (∀ (lv : Nat) (l : LX) (st : List Value) (w : AH), Ex M_L_law lv 229 l st w = Ex M_L_law lv 230 l (.int 3 :: st) w)
  ∧ (∀ (lv : Nat) (l : LX) (st : List Value) (x y : Int32) (w : AH), Ex M_L_law lv 230 l (.int y :: .int x :: st) w = Ex M_L_law lv 231 l (.int (x + y) :: st) w)
  ∧ (∀ (lv : Nat) (l : LX) (st : List Value) (a : Nat) (i : Int32) (w : AH), Ex M_L_law lv 231 l (.int i :: .ref a :: st) w = if (aI (hg w a) i).isSome = true then Ex M_L_law lv 232 l (.int (vI (aI (hg w a) i)) :: st) w else none)
  ∧ (∀ (lv : Nat) (l : LX) (b : Nat) (a0 : Int32) (a1 : Int32) (a2 : Int32) (w : AH), Ex M_L_law lv 232 l (.int a2 :: .int a1 :: .int a0 :: .ref b :: []) w = if clK (hg w b) = 10 then (if (Call M_X11_knot 60 [.ref b, .int a0, .int a1, .int a2] w).isSome = true then Ex M_L_law lv 235 l (pushR (cV (Call M_X11_knot 60 [.ref b, .int a0, .int a1, .int a2] w)) []) (cW (Call M_X11_knot 60 [.ref b, .int a0, .int a1, .int a2] w) w) else none) else none)
  ∧ (∀ (lv : Nat) (st : List Value) (t : LX) (o0 o1 : Option Value) (x : Nat) (w : AH), Ex M_L_law lv 235 (o0 :: o1 :: some (.ref x) :: t) st w = Ex M_L_law lv 236 (o0 :: o1 :: some (.ref x) :: t) (.ref x :: st) w)
  ∧ (∀ (lv : Nat) (st : List Value) (t : LX) (o0 o1 : Option Value) (w : AH), Ex M_L_law lv 235 (o0 :: o1 :: some (.null) :: t) st w = Ex M_L_law lv 236 (o0 :: o1 :: some (.null) :: t) (.null :: st) w)
  ∧ (∀ (lv : Nat) (st : List Value) (t : LX) (x : Nat) (w : AH), Ex M_L_law lv 236 (some (.ref x) :: t) st w = Ex M_L_law lv 237 (some (.ref x) :: t) (.ref x :: st) w)
  ∧ (∀ (lv : Nat) (st : List Value) (t : LX) (w : AH), Ex M_L_law lv 236 (some (.null) :: t) st w = Ex M_L_law lv 237 (some (.null) :: t) (.null :: st) w)
  ∧ (∀ (lv : Nat) (st : List Value) (t : LX) (o0 o1 o2 : Option Value) (x : Int32) (w : AH), Ex M_L_law lv 237 (o0 :: o1 :: o2 :: some (.int x) :: t) st w = Ex M_L_law lv 238 (o0 :: o1 :: o2 :: some (.int x) :: t) (.int x :: st) w)
  ∧ (∀ (lv : Nat) (l : LX) (st : List Value) (w : AH), Ex M_L_law lv 238 l st w = Ex M_L_law lv 239 l (.int 1 :: st) w)
  ∧ (∀ (lv : Nat) (l : LX) (st : List Value) (x y : Int32) (w : AH), Ex M_L_law lv 239 l (.int y :: .int x :: st) w = Ex M_L_law lv 240 l (.int (x + y) :: st) w)
  ∧ (∀ (lv : Nat) (l : LX) (st : List Value) (a : Nat) (i : Int32) (w : AH), Ex M_L_law lv 240 l (.int i :: .ref a :: st) w = if (aI (hg w a) i).isSome = true then Ex M_L_law lv 241 l (.int (vI (aI (hg w a) i)) :: st) w else none)
  ∧ (∀ (lv : Nat) (st : List Value) (t : LX) (x : Nat) (w : AH), Ex M_L_law lv 241 (some (.ref x) :: t) st w = Ex M_L_law lv 242 (some (.ref x) :: t) (.ref x :: st) w)
  ∧ (∀ (lv : Nat) (st : List Value) (t : LX) (w : AH), Ex M_L_law lv 241 (some (.null) :: t) st w = Ex M_L_law lv 242 (some (.null) :: t) (.null :: st) w)
  ∧ (∀ (lv : Nat) (st : List Value) (t : LX) (o0 o1 o2 : Option Value) (x : Int32) (w : AH), Ex M_L_law lv 242 (o0 :: o1 :: o2 :: some (.int x) :: t) st w = Ex M_L_law lv 243 (o0 :: o1 :: o2 :: some (.int x) :: t) (.int x :: st) w)
  ∧ (∀ (lv : Nat) (l : LX) (st : List Value) (w : AH), Ex M_L_law lv 243 l st w = Ex M_L_law lv 244 l (.int 2 :: st) w)
  ∧ (∀ (lv : Nat) (l : LX) (st : List Value) (x y : Int32) (w : AH), Ex M_L_law lv 244 l (.int y :: .int x :: st) w = Ex M_L_law lv 245 l (.int (x + y) :: st) w)
  ∧ (∀ (lv : Nat) (l : LX) (st : List Value) (a : Nat) (i : Int32) (w : AH), Ex M_L_law lv 245 l (.int i :: .ref a :: st) w = if (aI (hg w a) i).isSome = true then Ex M_L_law lv 246 l (.int (vI (aI (hg w a) i)) :: st) w else none) :=
  ⟨(fun lv l st w => Ex_new (by decide +kernel : decode M_L_law.2.1 0 = .ok (.new 7, 3)) rfl (by decide +kernel) rfl rfl),
   (fun lv l st x w => Ex_A (i := .dup) (n := 1) (by decide +kernel) rfl rfl),
   (fun lv l b s0 w => Ex_callI (by decide +kernel : decode M_L_law.2.1 4 = .ok (.invokespecial 9, 3)) rfl (by rfl : resM (mCn M_L_law) 9 = some (3, M_X11_init)) (by decide) rfl (by rfl) (Nat.le_of_ble_eq_true rfl) (sLv_lt (by decide +kernel))),
   (fun lv l st x w => Ex_M (i := .astore_n 1) (n := 1) (by decide +kernel) rfl rfl rfl),
   (fun lv l st w => Ex_M (i := .astore_n 1) (n := 1) (by decide +kernel) rfl rfl rfl),
   (fun lv l st w => Ex_new (by decide +kernel : decode M_L_law.2.1 8 = .ok (.new 10, 3)) rfl (by decide +kernel) rfl rfl),
   (fun lv l st x w => Ex_A (i := .dup) (n := 1) (by decide +kernel) rfl rfl),
   (fun lv l b s0 w => Ex_callI (by decide +kernel : decode M_L_law.2.1 12 = .ok (.invokespecial 12, 3)) rfl (by rfl : resM (mCn M_L_law) 12 = some (3, M_X12_init)) (by decide) rfl (by rfl) (Nat.le_of_ble_eq_true rfl) (sLv_lt (by decide +kernel))),
   (fun lv l st x w => Ex_M (i := .astore_n 2) (n := 1) (by decide +kernel) rfl rfl rfl),
   (fun lv l st w => Ex_M (i := .astore_n 2) (n := 1) (by decide +kernel) rfl rfl rfl),
   (fun lv l st w => Ex_A (i := .iconst 0) (n := 1) (by decide +kernel) rfl rfl),
   (fun lv l st x w => Ex_M (i := .istore_n 3) (n := 1) (by decide +kernel) rfl rfl rfl),
   (fun lv st t x w => Ex_M (i := .aload_n 0) (n := 1) (by decide +kernel) rfl rfl rfl),
   (fun lv st t w => Ex_M (i := .aload_n 0) (n := 1) (by decide +kernel) rfl rfl rfl),
   (fun lv l st a w => Ex_alen (by decide +kernel : decode M_L_law.2.1 20 = .ok (.arraylength, 1)) rfl),
   (fun lv l st w => Ex_A (i := .bipush 6) (n := 2) (by decide +kernel) rfl rfl),
   (fun lv l st x y w => Ex_A (i := .isub) (n := 1) (by decide +kernel) rfl rfl),
   (fun lv l st x y w => Ex_icmp_gt (by decide +kernel : decode M_L_law.2.1 24 = .ok (.if_icmp .gt 1454, 3)) rfl rfl),
   (fun lv st t x w => Ex_M (i := .aload_n 0) (n := 1) (by decide +kernel) rfl rfl rfl),
   (fun lv st t w => Ex_M (i := .aload_n 0) (n := 1) (by decide +kernel) rfl rfl rfl),
   (fun lv st t o0 o1 o2 x w => Ex_M (i := .iload_n 3) (n := 1) (by decide +kernel) rfl rfl rfl),
   (fun lv l st a i w => Ex_ial (by decide +kernel : decode M_L_law.2.1 29 = .ok (.iaload, 1)) rfl),
   (fun lv l st w => Ex_A (i := .bipush 63) (n := 2) (by decide +kernel) rfl rfl),
   (fun lv l st x y w => Ex_A (i := .iand) (n := 1) (by decide +kernel) rfl rfl),
   (fun lv l st x w => (by
      refine it_ite (fun hx0 => ?_) (fun hx0 => ?_)
      · subst hx0; exact Ex_tsIn (by decide +kernel : decode M_L_law.2.1 33 = .ok (.tableswitch 1439 0 41 #[183, 226, 259, 272, 285, 318, 351, 394, 427, 460, 523, 546, 599, 622, 645, 668, 691, 714, 747, 760, 783, 806, 819, 862, 905, 938, 961, 1004, 1047, 1070, 1113, 1136, 1179, 1222, 1285, 1308, 1331, 1344, 1357, 1380, 1393, 1416], 183)) (by decide) rfl rfl
      refine it_ite (fun hx1 => ?_) (fun hx1 => ?_)
      · subst hx1; exact Ex_tsIn (by decide +kernel : decode M_L_law.2.1 33 = .ok (.tableswitch 1439 0 41 #[183, 226, 259, 272, 285, 318, 351, 394, 427, 460, 523, 546, 599, 622, 645, 668, 691, 714, 747, 760, 783, 806, 819, 862, 905, 938, 961, 1004, 1047, 1070, 1113, 1136, 1179, 1222, 1285, 1308, 1331, 1344, 1357, 1380, 1393, 1416], 183)) (by decide) rfl rfl
      refine it_ite (fun hx2 => ?_) (fun hx2 => ?_)
      · subst hx2; exact Ex_tsIn (by decide +kernel : decode M_L_law.2.1 33 = .ok (.tableswitch 1439 0 41 #[183, 226, 259, 272, 285, 318, 351, 394, 427, 460, 523, 546, 599, 622, 645, 668, 691, 714, 747, 760, 783, 806, 819, 862, 905, 938, 961, 1004, 1047, 1070, 1113, 1136, 1179, 1222, 1285, 1308, 1331, 1344, 1357, 1380, 1393, 1416], 183)) (by decide) rfl rfl
      refine it_ite (fun hx3 => ?_) (fun hx3 => ?_)
      · subst hx3; exact Ex_tsIn (by decide +kernel : decode M_L_law.2.1 33 = .ok (.tableswitch 1439 0 41 #[183, 226, 259, 272, 285, 318, 351, 394, 427, 460, 523, 546, 599, 622, 645, 668, 691, 714, 747, 760, 783, 806, 819, 862, 905, 938, 961, 1004, 1047, 1070, 1113, 1136, 1179, 1222, 1285, 1308, 1331, 1344, 1357, 1380, 1393, 1416], 183)) (by decide) rfl rfl
      refine it_ite (fun hx4 => ?_) (fun hx4 => ?_)
      · subst hx4; exact Ex_tsIn (by decide +kernel : decode M_L_law.2.1 33 = .ok (.tableswitch 1439 0 41 #[183, 226, 259, 272, 285, 318, 351, 394, 427, 460, 523, 546, 599, 622, 645, 668, 691, 714, 747, 760, 783, 806, 819, 862, 905, 938, 961, 1004, 1047, 1070, 1113, 1136, 1179, 1222, 1285, 1308, 1331, 1344, 1357, 1380, 1393, 1416], 183)) (by decide) rfl rfl
      refine it_ite (fun hx5 => ?_) (fun hx5 => ?_)
      · subst hx5; exact Ex_tsIn (by decide +kernel : decode M_L_law.2.1 33 = .ok (.tableswitch 1439 0 41 #[183, 226, 259, 272, 285, 318, 351, 394, 427, 460, 523, 546, 599, 622, 645, 668, 691, 714, 747, 760, 783, 806, 819, 862, 905, 938, 961, 1004, 1047, 1070, 1113, 1136, 1179, 1222, 1285, 1308, 1331, 1344, 1357, 1380, 1393, 1416], 183)) (by decide) rfl rfl
      refine it_ite (fun hx6 => ?_) (fun hx6 => ?_)
      · subst hx6; exact Ex_tsIn (by decide +kernel : decode M_L_law.2.1 33 = .ok (.tableswitch 1439 0 41 #[183, 226, 259, 272, 285, 318, 351, 394, 427, 460, 523, 546, 599, 622, 645, 668, 691, 714, 747, 760, 783, 806, 819, 862, 905, 938, 961, 1004, 1047, 1070, 1113, 1136, 1179, 1222, 1285, 1308, 1331, 1344, 1357, 1380, 1393, 1416], 183)) (by decide) rfl rfl
      refine it_ite (fun hx7 => ?_) (fun hx7 => ?_)
      · subst hx7; exact Ex_tsIn (by decide +kernel : decode M_L_law.2.1 33 = .ok (.tableswitch 1439 0 41 #[183, 226, 259, 272, 285, 318, 351, 394, 427, 460, 523, 546, 599, 622, 645, 668, 691, 714, 747, 760, 783, 806, 819, 862, 905, 938, 961, 1004, 1047, 1070, 1113, 1136, 1179, 1222, 1285, 1308, 1331, 1344, 1357, 1380, 1393, 1416], 183)) (by decide) rfl rfl
      refine it_ite (fun hx8 => ?_) (fun hx8 => ?_)
      · subst hx8; exact Ex_tsIn (by decide +kernel : decode M_L_law.2.1 33 = .ok (.tableswitch 1439 0 41 #[183, 226, 259, 272, 285, 318, 351, 394, 427, 460, 523, 546, 599, 622, 645, 668, 691, 714, 747, 760, 783, 806, 819, 862, 905, 938, 961, 1004, 1047, 1070, 1113, 1136, 1179, 1222, 1285, 1308, 1331, 1344, 1357, 1380, 1393, 1416], 183)) (by decide) rfl rfl
      refine it_ite (fun hx9 => ?_) (fun hx9 => ?_)
      · subst hx9; exact Ex_tsIn (by decide +kernel : decode M_L_law.2.1 33 = .ok (.tableswitch 1439 0 41 #[183, 226, 259, 272, 285, 318, 351, 394, 427, 460, 523, 546, 599, 622, 645, 668, 691, 714, 747, 760, 783, 806, 819, 862, 905, 938, 961, 1004, 1047, 1070, 1113, 1136, 1179, 1222, 1285, 1308, 1331, 1344, 1357, 1380, 1393, 1416], 183)) (by decide) rfl rfl
      refine it_ite (fun hx10 => ?_) (fun hx10 => ?_)
      · subst hx10; exact Ex_tsIn (by decide +kernel : decode M_L_law.2.1 33 = .ok (.tableswitch 1439 0 41 #[183, 226, 259, 272, 285, 318, 351, 394, 427, 460, 523, 546, 599, 622, 645, 668, 691, 714, 747, 760, 783, 806, 819, 862, 905, 938, 961, 1004, 1047, 1070, 1113, 1136, 1179, 1222, 1285, 1308, 1331, 1344, 1357, 1380, 1393, 1416], 183)) (by decide) rfl rfl
      refine it_ite (fun hx11 => ?_) (fun hx11 => ?_)
      · subst hx11; exact Ex_tsIn (by decide +kernel : decode M_L_law.2.1 33 = .ok (.tableswitch 1439 0 41 #[183, 226, 259, 272, 285, 318, 351, 394, 427, 460, 523, 546, 599, 622, 645, 668, 691, 714, 747, 760, 783, 806, 819, 862, 905, 938, 961, 1004, 1047, 1070, 1113, 1136, 1179, 1222, 1285, 1308, 1331, 1344, 1357, 1380, 1393, 1416], 183)) (by decide) rfl rfl
      refine it_ite (fun hx12 => ?_) (fun hx12 => ?_)
      · subst hx12; exact Ex_tsIn (by decide +kernel : decode M_L_law.2.1 33 = .ok (.tableswitch 1439 0 41 #[183, 226, 259, 272, 285, 318, 351, 394, 427, 460, 523, 546, 599, 622, 645, 668, 691, 714, 747, 760, 783, 806, 819, 862, 905, 938, 961, 1004, 1047, 1070, 1113, 1136, 1179, 1222, 1285, 1308, 1331, 1344, 1357, 1380, 1393, 1416], 183)) (by decide) rfl rfl
      refine it_ite (fun hx13 => ?_) (fun hx13 => ?_)
      · subst hx13; exact Ex_tsIn (by decide +kernel : decode M_L_law.2.1 33 = .ok (.tableswitch 1439 0 41 #[183, 226, 259, 272, 285, 318, 351, 394, 427, 460, 523, 546, 599, 622, 645, 668, 691, 714, 747, 760, 783, 806, 819, 862, 905, 938, 961, 1004, 1047, 1070, 1113, 1136, 1179, 1222, 1285, 1308, 1331, 1344, 1357, 1380, 1393, 1416], 183)) (by decide) rfl rfl
      refine it_ite (fun hx14 => ?_) (fun hx14 => ?_)
      · subst hx14; exact Ex_tsIn (by decide +kernel : decode M_L_law.2.1 33 = .ok (.tableswitch 1439 0 41 #[183, 226, 259, 272, 285, 318, 351, 394, 427, 460, 523, 546, 599, 622, 645, 668, 691, 714, 747, 760, 783, 806, 819, 862, 905, 938, 961, 1004, 1047, 1070, 1113, 1136, 1179, 1222, 1285, 1308, 1331, 1344, 1357, 1380, 1393, 1416], 183)) (by decide) rfl rfl
      refine it_ite (fun hx15 => ?_) (fun hx15 => ?_)
      · subst hx15; exact Ex_tsIn (by decide +kernel : decode M_L_law.2.1 33 = .ok (.tableswitch 1439 0 41 #[183, 226, 259, 272, 285, 318, 351, 394, 427, 460, 523, 546, 599, 622, 645, 668, 691, 714, 747, 760, 783, 806, 819, 862, 905, 938, 961, 1004, 1047, 1070, 1113, 1136, 1179, 1222, 1285, 1308, 1331, 1344, 1357, 1380, 1393, 1416], 183)) (by decide) rfl rfl
      refine it_ite (fun hx16 => ?_) (fun hx16 => ?_)
      · subst hx16; exact Ex_tsIn (by decide +kernel : decode M_L_law.2.1 33 = .ok (.tableswitch 1439 0 41 #[183, 226, 259, 272, 285, 318, 351, 394, 427, 460, 523, 546, 599, 622, 645, 668, 691, 714, 747, 760, 783, 806, 819, 862, 905, 938, 961, 1004, 1047, 1070, 1113, 1136, 1179, 1222, 1285, 1308, 1331, 1344, 1357, 1380, 1393, 1416], 183)) (by decide) rfl rfl
      refine it_ite (fun hx17 => ?_) (fun hx17 => ?_)
      · subst hx17; exact Ex_tsIn (by decide +kernel : decode M_L_law.2.1 33 = .ok (.tableswitch 1439 0 41 #[183, 226, 259, 272, 285, 318, 351, 394, 427, 460, 523, 546, 599, 622, 645, 668, 691, 714, 747, 760, 783, 806, 819, 862, 905, 938, 961, 1004, 1047, 1070, 1113, 1136, 1179, 1222, 1285, 1308, 1331, 1344, 1357, 1380, 1393, 1416], 183)) (by decide) rfl rfl
      refine it_ite (fun hx18 => ?_) (fun hx18 => ?_)
      · subst hx18; exact Ex_tsIn (by decide +kernel : decode M_L_law.2.1 33 = .ok (.tableswitch 1439 0 41 #[183, 226, 259, 272, 285, 318, 351, 394, 427, 460, 523, 546, 599, 622, 645, 668, 691, 714, 747, 760, 783, 806, 819, 862, 905, 938, 961, 1004, 1047, 1070, 1113, 1136, 1179, 1222, 1285, 1308, 1331, 1344, 1357, 1380, 1393, 1416], 183)) (by decide) rfl rfl
      refine it_ite (fun hx19 => ?_) (fun hx19 => ?_)
      · subst hx19; exact Ex_tsIn (by decide +kernel : decode M_L_law.2.1 33 = .ok (.tableswitch 1439 0 41 #[183, 226, 259, 272, 285, 318, 351, 394, 427, 460, 523, 546, 599, 622, 645, 668, 691, 714, 747, 760, 783, 806, 819, 862, 905, 938, 961, 1004, 1047, 1070, 1113, 1136, 1179, 1222, 1285, 1308, 1331, 1344, 1357, 1380, 1393, 1416], 183)) (by decide) rfl rfl
      refine it_ite (fun hx20 => ?_) (fun hx20 => ?_)
      · subst hx20; exact Ex_tsIn (by decide +kernel : decode M_L_law.2.1 33 = .ok (.tableswitch 1439 0 41 #[183, 226, 259, 272, 285, 318, 351, 394, 427, 460, 523, 546, 599, 622, 645, 668, 691, 714, 747, 760, 783, 806, 819, 862, 905, 938, 961, 1004, 1047, 1070, 1113, 1136, 1179, 1222, 1285, 1308, 1331, 1344, 1357, 1380, 1393, 1416], 183)) (by decide) rfl rfl
      refine it_ite (fun hx21 => ?_) (fun hx21 => ?_)
      · subst hx21; exact Ex_tsIn (by decide +kernel : decode M_L_law.2.1 33 = .ok (.tableswitch 1439 0 41 #[183, 226, 259, 272, 285, 318, 351, 394, 427, 460, 523, 546, 599, 622, 645, 668, 691, 714, 747, 760, 783, 806, 819, 862, 905, 938, 961, 1004, 1047, 1070, 1113, 1136, 1179, 1222, 1285, 1308, 1331, 1344, 1357, 1380, 1393, 1416], 183)) (by decide) rfl rfl
      refine it_ite (fun hx22 => ?_) (fun hx22 => ?_)
      · subst hx22; exact Ex_tsIn (by decide +kernel : decode M_L_law.2.1 33 = .ok (.tableswitch 1439 0 41 #[183, 226, 259, 272, 285, 318, 351, 394, 427, 460, 523, 546, 599, 622, 645, 668, 691, 714, 747, 760, 783, 806, 819, 862, 905, 938, 961, 1004, 1047, 1070, 1113, 1136, 1179, 1222, 1285, 1308, 1331, 1344, 1357, 1380, 1393, 1416], 183)) (by decide) rfl rfl
      refine it_ite (fun hx23 => ?_) (fun hx23 => ?_)
      · subst hx23; exact Ex_tsIn (by decide +kernel : decode M_L_law.2.1 33 = .ok (.tableswitch 1439 0 41 #[183, 226, 259, 272, 285, 318, 351, 394, 427, 460, 523, 546, 599, 622, 645, 668, 691, 714, 747, 760, 783, 806, 819, 862, 905, 938, 961, 1004, 1047, 1070, 1113, 1136, 1179, 1222, 1285, 1308, 1331, 1344, 1357, 1380, 1393, 1416], 183)) (by decide) rfl rfl
      refine it_ite (fun hx24 => ?_) (fun hx24 => ?_)
      · subst hx24; exact Ex_tsIn (by decide +kernel : decode M_L_law.2.1 33 = .ok (.tableswitch 1439 0 41 #[183, 226, 259, 272, 285, 318, 351, 394, 427, 460, 523, 546, 599, 622, 645, 668, 691, 714, 747, 760, 783, 806, 819, 862, 905, 938, 961, 1004, 1047, 1070, 1113, 1136, 1179, 1222, 1285, 1308, 1331, 1344, 1357, 1380, 1393, 1416], 183)) (by decide) rfl rfl
      refine it_ite (fun hx25 => ?_) (fun hx25 => ?_)
      · subst hx25; exact Ex_tsIn (by decide +kernel : decode M_L_law.2.1 33 = .ok (.tableswitch 1439 0 41 #[183, 226, 259, 272, 285, 318, 351, 394, 427, 460, 523, 546, 599, 622, 645, 668, 691, 714, 747, 760, 783, 806, 819, 862, 905, 938, 961, 1004, 1047, 1070, 1113, 1136, 1179, 1222, 1285, 1308, 1331, 1344, 1357, 1380, 1393, 1416], 183)) (by decide) rfl rfl
      refine it_ite (fun hx26 => ?_) (fun hx26 => ?_)
      · subst hx26; exact Ex_tsIn (by decide +kernel : decode M_L_law.2.1 33 = .ok (.tableswitch 1439 0 41 #[183, 226, 259, 272, 285, 318, 351, 394, 427, 460, 523, 546, 599, 622, 645, 668, 691, 714, 747, 760, 783, 806, 819, 862, 905, 938, 961, 1004, 1047, 1070, 1113, 1136, 1179, 1222, 1285, 1308, 1331, 1344, 1357, 1380, 1393, 1416], 183)) (by decide) rfl rfl
      refine it_ite (fun hx27 => ?_) (fun hx27 => ?_)
      · subst hx27; exact Ex_tsIn (by decide +kernel : decode M_L_law.2.1 33 = .ok (.tableswitch 1439 0 41 #[183, 226, 259, 272, 285, 318, 351, 394, 427, 460, 523, 546, 599, 622, 645, 668, 691, 714, 747, 760, 783, 806, 819, 862, 905, 938, 961, 1004, 1047, 1070, 1113, 1136, 1179, 1222, 1285, 1308, 1331, 1344, 1357, 1380, 1393, 1416], 183)) (by decide) rfl rfl
      refine it_ite (fun hx28 => ?_) (fun hx28 => ?_)
      · subst hx28; exact Ex_tsIn (by decide +kernel : decode M_L_law.2.1 33 = .ok (.tableswitch 1439 0 41 #[183, 226, 259, 272, 285, 318, 351, 394, 427, 460, 523, 546, 599, 622, 645, 668, 691, 714, 747, 760, 783, 806, 819, 862, 905, 938, 961, 1004, 1047, 1070, 1113, 1136, 1179, 1222, 1285, 1308, 1331, 1344, 1357, 1380, 1393, 1416], 183)) (by decide) rfl rfl
      refine it_ite (fun hx29 => ?_) (fun hx29 => ?_)
      · subst hx29; exact Ex_tsIn (by decide +kernel : decode M_L_law.2.1 33 = .ok (.tableswitch 1439 0 41 #[183, 226, 259, 272, 285, 318, 351, 394, 427, 460, 523, 546, 599, 622, 645, 668, 691, 714, 747, 760, 783, 806, 819, 862, 905, 938, 961, 1004, 1047, 1070, 1113, 1136, 1179, 1222, 1285, 1308, 1331, 1344, 1357, 1380, 1393, 1416], 183)) (by decide) rfl rfl
      refine it_ite (fun hx30 => ?_) (fun hx30 => ?_)
      · subst hx30; exact Ex_tsIn (by decide +kernel : decode M_L_law.2.1 33 = .ok (.tableswitch 1439 0 41 #[183, 226, 259, 272, 285, 318, 351, 394, 427, 460, 523, 546, 599, 622, 645, 668, 691, 714, 747, 760, 783, 806, 819, 862, 905, 938, 961, 1004, 1047, 1070, 1113, 1136, 1179, 1222, 1285, 1308, 1331, 1344, 1357, 1380, 1393, 1416], 183)) (by decide) rfl rfl
      refine it_ite (fun hx31 => ?_) (fun hx31 => ?_)
      · subst hx31; exact Ex_tsIn (by decide +kernel : decode M_L_law.2.1 33 = .ok (.tableswitch 1439 0 41 #[183, 226, 259, 272, 285, 318, 351, 394, 427, 460, 523, 546, 599, 622, 645, 668, 691, 714, 747, 760, 783, 806, 819, 862, 905, 938, 961, 1004, 1047, 1070, 1113, 1136, 1179, 1222, 1285, 1308, 1331, 1344, 1357, 1380, 1393, 1416], 183)) (by decide) rfl rfl
      refine it_ite (fun hx32 => ?_) (fun hx32 => ?_)
      · subst hx32; exact Ex_tsIn (by decide +kernel : decode M_L_law.2.1 33 = .ok (.tableswitch 1439 0 41 #[183, 226, 259, 272, 285, 318, 351, 394, 427, 460, 523, 546, 599, 622, 645, 668, 691, 714, 747, 760, 783, 806, 819, 862, 905, 938, 961, 1004, 1047, 1070, 1113, 1136, 1179, 1222, 1285, 1308, 1331, 1344, 1357, 1380, 1393, 1416], 183)) (by decide) rfl rfl
      refine it_ite (fun hx33 => ?_) (fun hx33 => ?_)
      · subst hx33; exact Ex_tsIn (by decide +kernel : decode M_L_law.2.1 33 = .ok (.tableswitch 1439 0 41 #[183, 226, 259, 272, 285, 318, 351, 394, 427, 460, 523, 546, 599, 622, 645, 668, 691, 714, 747, 760, 783, 806, 819, 862, 905, 938, 961, 1004, 1047, 1070, 1113, 1136, 1179, 1222, 1285, 1308, 1331, 1344, 1357, 1380, 1393, 1416], 183)) (by decide) rfl rfl
      refine it_ite (fun hx34 => ?_) (fun hx34 => ?_)
      · subst hx34; exact Ex_tsIn (by decide +kernel : decode M_L_law.2.1 33 = .ok (.tableswitch 1439 0 41 #[183, 226, 259, 272, 285, 318, 351, 394, 427, 460, 523, 546, 599, 622, 645, 668, 691, 714, 747, 760, 783, 806, 819, 862, 905, 938, 961, 1004, 1047, 1070, 1113, 1136, 1179, 1222, 1285, 1308, 1331, 1344, 1357, 1380, 1393, 1416], 183)) (by decide) rfl rfl
      refine it_ite (fun hx35 => ?_) (fun hx35 => ?_)
      · subst hx35; exact Ex_tsIn (by decide +kernel : decode M_L_law.2.1 33 = .ok (.tableswitch 1439 0 41 #[183, 226, 259, 272, 285, 318, 351, 394, 427, 460, 523, 546, 599, 622, 645, 668, 691, 714, 747, 760, 783, 806, 819, 862, 905, 938, 961, 1004, 1047, 1070, 1113, 1136, 1179, 1222, 1285, 1308, 1331, 1344, 1357, 1380, 1393, 1416], 183)) (by decide) rfl rfl
      refine it_ite (fun hx36 => ?_) (fun hx36 => ?_)
      · subst hx36; exact Ex_tsIn (by decide +kernel : decode M_L_law.2.1 33 = .ok (.tableswitch 1439 0 41 #[183, 226, 259, 272, 285, 318, 351, 394, 427, 460, 523, 546, 599, 622, 645, 668, 691, 714, 747, 760, 783, 806, 819, 862, 905, 938, 961, 1004, 1047, 1070, 1113, 1136, 1179, 1222, 1285, 1308, 1331, 1344, 1357, 1380, 1393, 1416], 183)) (by decide) rfl rfl
      refine it_ite (fun hx37 => ?_) (fun hx37 => ?_)
      · subst hx37; exact Ex_tsIn (by decide +kernel : decode M_L_law.2.1 33 = .ok (.tableswitch 1439 0 41 #[183, 226, 259, 272, 285, 318, 351, 394, 427, 460, 523, 546, 599, 622, 645, 668, 691, 714, 747, 760, 783, 806, 819, 862, 905, 938, 961, 1004, 1047, 1070, 1113, 1136, 1179, 1222, 1285, 1308, 1331, 1344, 1357, 1380, 1393, 1416], 183)) (by decide) rfl rfl
      refine it_ite (fun hx38 => ?_) (fun hx38 => ?_)
      · subst hx38; exact Ex_tsIn (by decide +kernel : decode M_L_law.2.1 33 = .ok (.tableswitch 1439 0 41 #[183, 226, 259, 272, 285, 318, 351, 394, 427, 460, 523, 546, 599, 622, 645, 668, 691, 714, 747, 760, 783, 806, 819, 862, 905, 938, 961, 1004, 1047, 1070, 1113, 1136, 1179, 1222, 1285, 1308, 1331, 1344, 1357, 1380, 1393, 1416], 183)) (by decide) rfl rfl
      refine it_ite (fun hx39 => ?_) (fun hx39 => ?_)
      · subst hx39; exact Ex_tsIn (by decide +kernel : decode M_L_law.2.1 33 = .ok (.tableswitch 1439 0 41 #[183, 226, 259, 272, 285, 318, 351, 394, 427, 460, 523, 546, 599, 622, 645, 668, 691, 714, 747, 760, 783, 806, 819, 862, 905, 938, 961, 1004, 1047, 1070, 1113, 1136, 1179, 1222, 1285, 1308, 1331, 1344, 1357, 1380, 1393, 1416], 183)) (by decide) rfl rfl
      refine it_ite (fun hx40 => ?_) (fun hx40 => ?_)
      · subst hx40; exact Ex_tsIn (by decide +kernel : decode M_L_law.2.1 33 = .ok (.tableswitch 1439 0 41 #[183, 226, 259, 272, 285, 318, 351, 394, 427, 460, 523, 546, 599, 622, 645, 668, 691, 714, 747, 760, 783, 806, 819, 862, 905, 938, 961, 1004, 1047, 1070, 1113, 1136, 1179, 1222, 1285, 1308, 1331, 1344, 1357, 1380, 1393, 1416], 183)) (by decide) rfl rfl
      refine it_ite (fun hx41 => ?_) (fun hx41 => ?_)
      · subst hx41; exact Ex_tsIn (by decide +kernel : decode M_L_law.2.1 33 = .ok (.tableswitch 1439 0 41 #[183, 226, 259, 272, 285, 318, 351, 394, 427, 460, 523, 546, 599, 622, 645, 668, 691, 714, 747, 760, 783, 806, 819, 862, 905, 938, 961, 1004, 1047, 1070, 1113, 1136, 1179, 1222, 1285, 1308, 1331, 1344, 1357, 1380, 1393, 1416], 183)) (by decide) rfl rfl
      exact Ex_tsOut (by decide +kernel : decode M_L_law.2.1 33 = .ok (.tableswitch 1439 0 41 #[183, 226, 259, 272, 285, 318, 351, 394, 427, 460, 523, 546, 599, 622, 645, 668, 691, 714, 747, 760, 783, 806, 819, 862, 905, 938, 961, 1004, 1047, 1070, 1113, 1136, 1179, 1222, 1285, 1308, 1331, 1344, 1357, 1380, 1393, 1416], 183)) (ts_out 0 41 (by have := n_toInt (z := 0) rfl hx0; have := n_toInt (z := 1) rfl hx1; have := n_toInt (z := 2) rfl hx2; have := n_toInt (z := 3) rfl hx3; have := n_toInt (z := 4) rfl hx4; have := n_toInt (z := 5) rfl hx5; have := n_toInt (z := 6) rfl hx6; have := n_toInt (z := 7) rfl hx7; have := n_toInt (z := 8) rfl hx8; have := n_toInt (z := 9) rfl hx9; have := n_toInt (z := 10) rfl hx10; have := n_toInt (z := 11) rfl hx11; have := n_toInt (z := 12) rfl hx12; have := n_toInt (z := 13) rfl hx13; have := n_toInt (z := 14) rfl hx14; have := n_toInt (z := 15) rfl hx15; have := n_toInt (z := 16) rfl hx16; have := n_toInt (z := 17) rfl hx17; have := n_toInt (z := 18) rfl hx18; have := n_toInt (z := 19) rfl hx19; have := n_toInt (z := 20) rfl hx20; have := n_toInt (z := 21) rfl hx21; have := n_toInt (z := 22) rfl hx22; have := n_toInt (z := 23) rfl hx23; have := n_toInt (z := 24) rfl hx24; have := n_toInt (z := 25) rfl hx25; have := n_toInt (z := 26) rfl hx26; have := n_toInt (z := 27) rfl hx27; have := n_toInt (z := 28) rfl hx28; have := n_toInt (z := 29) rfl hx29; have := n_toInt (z := 30) rfl hx30; have := n_toInt (z := 31) rfl hx31; have := n_toInt (z := 32) rfl hx32; have := n_toInt (z := 33) rfl hx33; have := n_toInt (z := 34) rfl hx34; have := n_toInt (z := 35) rfl hx35; have := n_toInt (z := 36) rfl hx36; have := n_toInt (z := 37) rfl hx37; have := n_toInt (z := 38) rfl hx38; have := n_toInt (z := 39) rfl hx39; have := n_toInt (z := 40) rfl hx40; have := n_toInt (z := 41) rfl hx41; omega)) rfl)),
   (fun lv st t o0 x w => Ex_M (i := .aload_n 1) (n := 1) (by decide +kernel) rfl rfl rfl),
   (fun lv st t o0 w => Ex_M (i := .aload_n 1) (n := 1) (by decide +kernel) rfl rfl rfl),
   (fun lv st t x w => Ex_M (i := .aload_n 0) (n := 1) (by decide +kernel) rfl rfl rfl),
   (fun lv st t w => Ex_M (i := .aload_n 0) (n := 1) (by decide +kernel) rfl rfl rfl),
   (fun lv st t o0 o1 o2 x w => Ex_M (i := .iload_n 3) (n := 1) (by decide +kernel) rfl rfl rfl),
   (fun lv l st w => Ex_A (i := .iconst 1) (n := 1) (by decide +kernel) rfl rfl),
   (fun lv l st x y w => Ex_A (i := .iadd) (n := 1) (by decide +kernel) rfl rfl),
   (fun lv l st a i w => Ex_ial (by decide +kernel : decode M_L_law.2.1 221 = .ok (.iaload, 1)) rfl),
   (fun lv st t x w => Ex_M (i := .aload_n 0) (n := 1) (by decide +kernel) rfl rfl rfl),
   (fun lv st t w => Ex_M (i := .aload_n 0) (n := 1) (by decide +kernel) rfl rfl rfl),
   (fun lv st t o0 o1 o2 x w => Ex_M (i := .iload_n 3) (n := 1) (by decide +kernel) rfl rfl rfl),
   (fun lv l st w => Ex_A (i := .iconst 2) (n := 1) (by decide +kernel) rfl rfl),
   (fun lv l st x y w => Ex_A (i := .iadd) (n := 1) (by decide +kernel) rfl rfl),
   (fun lv l st a i w => Ex_ial (by decide +kernel : decode M_L_law.2.1 226 = .ok (.iaload, 1)) rfl),
   (fun lv st t x w => Ex_M (i := .aload_n 0) (n := 1) (by decide +kernel) rfl rfl rfl),
   (fun lv st t w => Ex_M (i := .aload_n 0) (n := 1) (by decide +kernel) rfl rfl rfl),
   (fun lv st t o0 o1 o2 x w => Ex_M (i := .iload_n 3) (n := 1) (by decide +kernel) rfl rfl rfl),
   (fun lv l st w => Ex_A (i := .iconst 3) (n := 1) (by decide +kernel) rfl rfl),
   (fun lv l st x y w => Ex_A (i := .iadd) (n := 1) (by decide +kernel) rfl rfl),
   (fun lv l st a i w => Ex_ial (by decide +kernel : decode M_L_law.2.1 231 = .ok (.iaload, 1)) rfl),
   (fun lv l b a0 a1 a2 w => Ex_callV (by decide +kernel : decode M_L_law.2.1 232 = .ok (.invokevirtual 13, 3)) rfl (by rfl : resM (mCn M_L_law) 13 = some (2, M_X11_knot)) rfl (by rfl) (Nat.le_of_ble_eq_true rfl) (by decide +kernel) (sLv_lt (by decide +kernel))),
   (fun lv st t o0 o1 x w => Ex_M (i := .aload_n 2) (n := 1) (by decide +kernel) rfl rfl rfl),
   (fun lv st t o0 o1 w => Ex_M (i := .aload_n 2) (n := 1) (by decide +kernel) rfl rfl rfl),
   (fun lv st t x w => Ex_M (i := .aload_n 0) (n := 1) (by decide +kernel) rfl rfl rfl),
   (fun lv st t w => Ex_M (i := .aload_n 0) (n := 1) (by decide +kernel) rfl rfl rfl),
   (fun lv st t o0 o1 o2 x w => Ex_M (i := .iload_n 3) (n := 1) (by decide +kernel) rfl rfl rfl),
   (fun lv l st w => Ex_A (i := .iconst 1) (n := 1) (by decide +kernel) rfl rfl),
   (fun lv l st x y w => Ex_A (i := .iadd) (n := 1) (by decide +kernel) rfl rfl),
   (fun lv l st a i w => Ex_ial (by decide +kernel : decode M_L_law.2.1 240 = .ok (.iaload, 1)) rfl),
   (fun lv st t x w => Ex_M (i := .aload_n 0) (n := 1) (by decide +kernel) rfl rfl rfl),
   (fun lv st t w => Ex_M (i := .aload_n 0) (n := 1) (by decide +kernel) rfl rfl rfl),
   (fun lv st t o0 o1 o2 x w => Ex_M (i := .iload_n 3) (n := 1) (by decide +kernel) rfl rfl rfl),
   (fun lv l st w => Ex_A (i := .iconst 2) (n := 1) (by decide +kernel) rfl rfl),
   (fun lv l st x y w => Ex_A (i := .iadd) (n := 1) (by decide +kernel) rfl rfl),
   (fun lv l st a i w => Ex_ial (by decide +kernel : decode M_L_law.2.1 245 = .ok (.iaload, 1)) rfl)⟩
set_option maxRecDepth 20000 in
set_option maxHeartbeats 4000000 in
theorem R_L_law_p1 : (∀ (lv : Nat) (st : List Value) (t : LX) (x : Nat) (w : AH), Ex M_L_law lv 246 (some (.ref x) :: t) st w = Ex M_L_law lv 247 (some (.ref x) :: t) (.ref x :: st) w)
  ∧ (∀ (lv : Nat) (st : List Value) (t : LX) (w : AH), Ex M_L_law lv 246 (some (.null) :: t) st w = Ex M_L_law lv 247 (some (.null) :: t) (.null :: st) w)
  ∧ (∀ (lv : Nat) (st : List Value) (t : LX) (o0 o1 o2 : Option Value) (x : Int32) (w : AH), Ex M_L_law lv 247 (o0 :: o1 :: o2 :: some (.int x) :: t) st w = Ex M_L_law lv 248 (o0 :: o1 :: o2 :: some (.int x) :: t) (.int x :: st) w)
  ∧ (∀ (lv : Nat) (l : LX) (st : List Value) (w : AH), Ex M_L_law lv 248 l st w = Ex M_L_law lv 249 l (.int 3 :: st) w)
  ∧ (∀ (lv : Nat) (l : LX) (st : List Value) (x y : Int32) (w : AH), Ex M_L_law lv 249 l (.int y :: .int x :: st) w = Ex M_L_law lv 250 l (.int (x + y) :: st) w)
  ∧ (∀ (lv : Nat) (l : LX) (st : List Value) (a : Nat) (i : Int32) (w : AH), Ex M_L_law lv 250 l (.int i :: .ref a :: st) w = if (aI (hg w a) i).isSome = true then Ex M_L_law lv 251 l (.int (vI (aI (hg w a) i)) :: st) w else none)
  ∧ (∀ (lv : Nat) (l : LX) (b : Nat) (a0 : Int32) (a1 : Int32) (a2 : Int32) (s0 : Int32) (w : AH), Ex M_L_law lv 251 l (.int a2 :: .int a1 :: .int a0 :: .ref b :: [.int s0]) w = if clK (hg w b) = 11 then (if (Call M_X12_knot 60 [.ref b, .int a0, .int a1, .int a2] w).isSome = true then Ex M_L_law lv 254 l (pushR (cV (Call M_X12_knot 60 [.ref b, .int a0, .int a1, .int a2] w)) [.int s0]) (cW (Call M_X12_knot 60 [.ref b, .int a0, .int a1, .int a2] w) w) else none) else none)
  ∧ (∀ (lv : Nat) (l : LX) (st : List Value) (x y : Int32) (w : AH), Ex M_L_law lv 254 l (.int y :: .int x :: st) w = if x = y then Ex M_L_law lv 1472 l st w else Ex M_L_law lv 257 l st w)
  ∧ (∀ (lv : Nat) (l : LX) (st : List Value) (w : AH), Ex M_L_law lv 257 l st w = Ex M_L_law lv 258 l (.int 0 :: st) w)
  ∧ (∀ (lv : Nat) (l : LX) (x : Int32) (w : AH), Ex M_L_law lv 258 l [.int x] w = if x = 0 ∨ x = 1 then some (some (.int x), w) else none)
  ∧ (∀ (lv : Nat) (st : List Value) (t : LX) (o0 : Option Value) (x : Nat) (w : AH), Ex M_L_law lv 259 (o0 :: some (.ref x) :: t) st w = Ex M_L_law lv 260 (o0 :: some (.ref x) :: t) (.ref x :: st) w)
  ∧ (∀ (lv : Nat) (st : List Value) (t : LX) (o0 : Option Value) (w : AH), Ex M_L_law lv 259 (o0 :: some (.null) :: t) st w = Ex M_L_law lv 260 (o0 :: some (.null) :: t) (.null :: st) w)
  ∧ (∀ (lv : Nat) (st : List Value) (t : LX) (x : Nat) (w : AH), Ex M_L_law lv 260 (some (.ref x) :: t) st w = Ex M_L_law lv 261 (some (.ref x) :: t) (.ref x :: st) w)
  ∧ (∀ (lv : Nat) (st : List Value) (t : LX) (w : AH), Ex M_L_law lv 260 (some (.null) :: t) st w = Ex M_L_law lv 261 (some (.null) :: t) (.null :: st) w)
  ∧ (∀ (lv : Nat) (st : List Value) (t : LX) (o0 o1 o2 : Option Value) (x : Int32) (w : AH), Ex M_L_law lv 261 (o0 :: o1 :: o2 :: some (.int x) :: t) st w = Ex M_L_law lv 262 (o0 :: o1 :: o2 :: some (.int x) :: t) (.int x :: st) w)
  ∧ (∀ (lv : Nat) (l : LX) (st : List Value) (w : AH), Ex M_L_law lv 262 l st w = Ex M_L_law lv 263 l (.int 1 :: st) w)
  ∧ (∀ (lv : Nat) (l : LX) (st : List Value) (x y : Int32) (w : AH), Ex M_L_law lv 263 l (.int y :: .int x :: st) w = Ex M_L_law lv 264 l (.int (x + y) :: st) w)
  ∧ (∀ (lv : Nat) (l : LX) (st : List Value) (a : Nat) (i : Int32) (w : AH), Ex M_L_law lv 264 l (.int i :: .ref a :: st) w = if (aI (hg w a) i).isSome = true then Ex M_L_law lv 265 l (.int (vI (aI (hg w a) i)) :: st) w else none)
  ∧ (∀ (lv : Nat) (st : List Value) (t : LX) (x : Nat) (w : AH), Ex M_L_law lv 265 (some (.ref x) :: t) st w = Ex M_L_law lv 266 (some (.ref x) :: t) (.ref x :: st) w)
  ∧ (∀ (lv : Nat) (st : List Value) (t : LX) (w : AH), Ex M_L_law lv 265 (some (.null) :: t) st w = Ex M_L_law lv 266 (some (.null) :: t) (.null :: st) w)
  ∧ (∀ (lv : Nat) (st : List Value) (t : LX) (o0 o1 o2 : Option Value) (x : Int32) (w : AH), Ex M_L_law lv 266 (o0 :: o1 :: o2 :: some (.int x) :: t) st w = Ex M_L_law lv 267 (o0 :: o1 :: o2 :: some (.int x) :: t) (.int x :: st) w)
  ∧ (∀ (lv : Nat) (l : LX) (st : List Value) (w : AH), Ex M_L_law lv 267 l st w = Ex M_L_law lv 268 l (.int 2 :: st) w)
  ∧ (∀ (lv : Nat) (l : LX) (st : List Value) (x y : Int32) (w : AH), Ex M_L_law lv 268 l (.int y :: .int x :: st) w = Ex M_L_law lv 269 l (.int (x + y) :: st) w)
  ∧ (∀ (lv : Nat) (l : LX) (st : List Value) (a : Nat) (i : Int32) (w : AH), Ex M_L_law lv 269 l (.int i :: .ref a :: st) w = if (aI (hg w a) i).isSome = true then Ex M_L_law lv 270 l (.int (vI (aI (hg w a) i)) :: st) w else none)
  ∧ (∀ (lv : Nat) (l : LX) (b : Nat) (a0 : Int32) (a1 : Int32) (w : AH), Ex M_L_law lv 270 l (.int a1 :: .int a0 :: .ref b :: []) w = if clK (hg w b) = 10 then (if (Call M_X11_ofKnot 60 [.ref b, .int a0, .int a1] w).isSome = true then Ex M_L_law lv 273 l (pushR (cV (Call M_X11_ofKnot 60 [.ref b, .int a0, .int a1] w)) []) (cW (Call M_X11_ofKnot 60 [.ref b, .int a0, .int a1] w) w) else none) else none)
  ∧ (∀ (lv : Nat) (st : List Value) (t : LX) (o0 o1 : Option Value) (x : Nat) (w : AH), Ex M_L_law lv 273 (o0 :: o1 :: some (.ref x) :: t) st w = Ex M_L_law lv 274 (o0 :: o1 :: some (.ref x) :: t) (.ref x :: st) w)
  ∧ (∀ (lv : Nat) (st : List Value) (t : LX) (o0 o1 : Option Value) (w : AH), Ex M_L_law lv 273 (o0 :: o1 :: some (.null) :: t) st w = Ex M_L_law lv 274 (o0 :: o1 :: some (.null) :: t) (.null :: st) w)
  ∧ (∀ (lv : Nat) (st : List Value) (t : LX) (x : Nat) (w : AH), Ex M_L_law lv 274 (some (.ref x) :: t) st w = Ex M_L_law lv 275 (some (.ref x) :: t) (.ref x :: st) w)
  ∧ (∀ (lv : Nat) (st : List Value) (t : LX) (w : AH), Ex M_L_law lv 274 (some (.null) :: t) st w = Ex M_L_law lv 275 (some (.null) :: t) (.null :: st) w)
  ∧ (∀ (lv : Nat) (st : List Value) (t : LX) (o0 o1 o2 : Option Value) (x : Int32) (w : AH), Ex M_L_law lv 275 (o0 :: o1 :: o2 :: some (.int x) :: t) st w = Ex M_L_law lv 276 (o0 :: o1 :: o2 :: some (.int x) :: t) (.int x :: st) w)
  ∧ (∀ (lv : Nat) (l : LX) (st : List Value) (w : AH), Ex M_L_law lv 276 l st w = Ex M_L_law lv 277 l (.int 1 :: st) w)
  ∧ (∀ (lv : Nat) (l : LX) (st : List Value) (x y : Int32) (w : AH), Ex M_L_law lv 277 l (.int y :: .int x :: st) w = Ex M_L_law lv 278 l (.int (x + y) :: st) w)
  ∧ (∀ (lv : Nat) (l : LX) (st : List Value) (a : Nat) (i : Int32) (w : AH), Ex M_L_law lv 278 l (.int i :: .ref a :: st) w = if (aI (hg w a) i).isSome = true then Ex M_L_law lv 279 l (.int (vI (aI (hg w a) i)) :: st) w else none)
  ∧ (∀ (lv : Nat) (st : List Value) (t : LX) (x : Nat) (w : AH), Ex M_L_law lv 279 (some (.ref x) :: t) st w = Ex M_L_law lv 280 (some (.ref x) :: t) (.ref x :: st) w)
  ∧ (∀ (lv : Nat) (st : List Value) (t : LX) (w : AH), Ex M_L_law lv 279 (some (.null) :: t) st w = Ex M_L_law lv 280 (some (.null) :: t) (.null :: st) w)
  ∧ (∀ (lv : Nat) (st : List Value) (t : LX) (o0 o1 o2 : Option Value) (x : Int32) (w : AH), Ex M_L_law lv 280 (o0 :: o1 :: o2 :: some (.int x) :: t) st w = Ex M_L_law lv 281 (o0 :: o1 :: o2 :: some (.int x) :: t) (.int x :: st) w)
  ∧ (∀ (lv : Nat) (l : LX) (st : List Value) (w : AH), Ex M_L_law lv 281 l st w = Ex M_L_law lv 282 l (.int 2 :: st) w)
  ∧ (∀ (lv : Nat) (l : LX) (st : List Value) (x y : Int32) (w : AH), Ex M_L_law lv 282 l (.int y :: .int x :: st) w = Ex M_L_law lv 283 l (.int (x + y) :: st) w)
  ∧ (∀ (lv : Nat) (l : LX) (st : List Value) (a : Nat) (i : Int32) (w : AH), Ex M_L_law lv 283 l (.int i :: .ref a :: st) w = if (aI (hg w a) i).isSome = true then Ex M_L_law lv 284 l (.int (vI (aI (hg w a) i)) :: st) w else none)
  ∧ (∀ (lv : Nat) (l : LX) (b : Nat) (a0 : Int32) (a1 : Int32) (s0 : Int32) (w : AH), Ex M_L_law lv 284 l (.int a1 :: .int a0 :: .ref b :: [.int s0]) w = if clK (hg w b) = 11 then (if (Call M_X12_ofKnot 60 [.ref b, .int a0, .int a1] w).isSome = true then Ex M_L_law lv 287 l (pushR (cV (Call M_X12_ofKnot 60 [.ref b, .int a0, .int a1] w)) [.int s0]) (cW (Call M_X12_ofKnot 60 [.ref b, .int a0, .int a1] w) w) else none) else none)
  ∧ (∀ (lv : Nat) (l : LX) (st : List Value) (x y : Int32) (w : AH), Ex M_L_law lv 287 l (.int y :: .int x :: st) w = if x = y then Ex M_L_law lv 1472 l st w else Ex M_L_law lv 290 l st w)
  ∧ (∀ (lv : Nat) (l : LX) (st : List Value) (w : AH), Ex M_L_law lv 290 l st w = Ex M_L_law lv 291 l (.int 0 :: st) w)
  ∧ (∀ (lv : Nat) (l : LX) (x : Int32) (w : AH), Ex M_L_law lv 291 l [.int x] w = if x = 0 ∨ x = 1 then some (some (.int x), w) else none)
  ∧ (∀ (lv : Nat) (st : List Value) (t : LX) (o0 : Option Value) (x : Nat) (w : AH), Ex M_L_law lv 292 (o0 :: some (.ref x) :: t) st w = Ex M_L_law lv 293 (o0 :: some (.ref x) :: t) (.ref x :: st) w)
  ∧ (∀ (lv : Nat) (st : List Value) (t : LX) (o0 : Option Value) (w : AH), Ex M_L_law lv 292 (o0 :: some (.null) :: t) st w = Ex M_L_law lv 293 (o0 :: some (.null) :: t) (.null :: st) w)
  ∧ (∀ (lv : Nat) (l : LX) (b : Nat) (w : AH), Ex M_L_law lv 293 l (.ref b :: []) w = if clK (hg w b) = 10 then (if (Call M_X11_weave 60 [.ref b] w).isSome = true then Ex M_L_law lv 296 l (pushR (cV (Call M_X11_weave 60 [.ref b] w)) []) (cW (Call M_X11_weave 60 [.ref b] w) w) else none) else none)
  ∧ (∀ (lv : Nat) (st : List Value) (t : LX) (o0 o1 : Option Value) (x : Nat) (w : AH), Ex M_L_law lv 296 (o0 :: o1 :: some (.ref x) :: t) st w = Ex M_L_law lv 297 (o0 :: o1 :: some (.ref x) :: t) (.ref x :: st) w)
  ∧ (∀ (lv : Nat) (st : List Value) (t : LX) (o0 o1 : Option Value) (w : AH), Ex M_L_law lv 296 (o0 :: o1 :: some (.null) :: t) st w = Ex M_L_law lv 297 (o0 :: o1 :: some (.null) :: t) (.null :: st) w)
  ∧ (∀ (lv : Nat) (l : LX) (b : Nat) (s0 : Int32) (w : AH), Ex M_L_law lv 297 l (.ref b :: [.int s0]) w = if clK (hg w b) = 11 then (if (Call M_X12_weave 60 [.ref b] w).isSome = true then Ex M_L_law lv 300 l (pushR (cV (Call M_X12_weave 60 [.ref b] w)) [.int s0]) (cW (Call M_X12_weave 60 [.ref b] w) w) else none) else none)
  ∧ (∀ (lv : Nat) (l : LX) (st : List Value) (x y : Int32) (w : AH), Ex M_L_law lv 300 l (.int y :: .int x :: st) w = if x = y then Ex M_L_law lv 1472 l st w else Ex M_L_law lv 303 l st w)
  ∧ (∀ (lv : Nat) (l : LX) (st : List Value) (w : AH), Ex M_L_law lv 303 l st w = Ex M_L_law lv 304 l (.int 0 :: st) w)
  ∧ (∀ (lv : Nat) (l : LX) (x : Int32) (w : AH), Ex M_L_law lv 304 l [.int x] w = if x = 0 ∨ x = 1 then some (some (.int x), w) else none)
  ∧ (∀ (lv : Nat) (st : List Value) (t : LX) (o0 : Option Value) (x : Nat) (w : AH), Ex M_L_law lv 305 (o0 :: some (.ref x) :: t) st w = Ex M_L_law lv 306 (o0 :: some (.ref x) :: t) (.ref x :: st) w)
  ∧ (∀ (lv : Nat) (st : List Value) (t : LX) (o0 : Option Value) (w : AH), Ex M_L_law lv 305 (o0 :: some (.null) :: t) st w = Ex M_L_law lv 306 (o0 :: some (.null) :: t) (.null :: st) w)
  ∧ (∀ (lv : Nat) (l : LX) (b : Nat) (w : AH), Ex M_L_law lv 306 l (.ref b :: []) w = if clK (hg w b) = 10 then (if (Call M_X11_mend 60 [.ref b] w).isSome = true then Ex M_L_law lv 309 l (pushR (cV (Call M_X11_mend 60 [.ref b] w)) []) (cW (Call M_X11_mend 60 [.ref b] w) w) else none) else none)
  ∧ (∀ (lv : Nat) (st : List Value) (t : LX) (o0 o1 : Option Value) (x : Nat) (w : AH), Ex M_L_law lv 309 (o0 :: o1 :: some (.ref x) :: t) st w = Ex M_L_law lv 310 (o0 :: o1 :: some (.ref x) :: t) (.ref x :: st) w)
  ∧ (∀ (lv : Nat) (st : List Value) (t : LX) (o0 o1 : Option Value) (w : AH), Ex M_L_law lv 309 (o0 :: o1 :: some (.null) :: t) st w = Ex M_L_law lv 310 (o0 :: o1 :: some (.null) :: t) (.null :: st) w)
  ∧ (∀ (lv : Nat) (l : LX) (b : Nat) (s0 : Int32) (w : AH), Ex M_L_law lv 310 l (.ref b :: [.int s0]) w = if clK (hg w b) = 11 then (if (Call M_X12_mend 60 [.ref b] w).isSome = true then Ex M_L_law lv 313 l (pushR (cV (Call M_X12_mend 60 [.ref b] w)) [.int s0]) (cW (Call M_X12_mend 60 [.ref b] w) w) else none) else none)
  ∧ (∀ (lv : Nat) (l : LX) (st : List Value) (x y : Int32) (w : AH), Ex M_L_law lv 313 l (.int y :: .int x :: st) w = if x = y then Ex M_L_law lv 1472 l st w else Ex M_L_law lv 316 l st w)
  ∧ (∀ (lv : Nat) (l : LX) (st : List Value) (w : AH), Ex M_L_law lv 316 l st w = Ex M_L_law lv 317 l (.int 0 :: st) w) :=
  ⟨(fun lv st t x w => Ex_M (i := .aload_n 0) (n := 1) (by decide +kernel) rfl rfl rfl),
   (fun lv st t w => Ex_M (i := .aload_n 0) (n := 1) (by decide +kernel) rfl rfl rfl),
   (fun lv st t o0 o1 o2 x w => Ex_M (i := .iload_n 3) (n := 1) (by decide +kernel) rfl rfl rfl),
   (fun lv l st w => Ex_A (i := .iconst 3) (n := 1) (by decide +kernel) rfl rfl),
   (fun lv l st x y w => Ex_A (i := .iadd) (n := 1) (by decide +kernel) rfl rfl),
   (fun lv l st a i w => Ex_ial (by decide +kernel : decode M_L_law.2.1 250 = .ok (.iaload, 1)) rfl),
   (fun lv l b a0 a1 a2 s0 w => Ex_callV (by decide +kernel : decode M_L_law.2.1 251 = .ok (.invokevirtual 17, 3)) rfl (by rfl : resM (mCn M_L_law) 17 = some (2, M_X12_knot)) rfl (by rfl) (Nat.le_of_ble_eq_true rfl) (by decide +kernel) (sLv_lt (by decide +kernel))),
   (fun lv l st x y w => Ex_icmp_eq (by decide +kernel : decode M_L_law.2.1 254 = .ok (.if_icmp .eq 1218, 3)) rfl rfl),
   (fun lv l st w => Ex_A (i := .iconst 0) (n := 1) (by decide +kernel) rfl rfl),
   (fun lv l x w => Ex_zret (by decide +kernel : decode M_L_law.2.1 258 = .ok (.ireturn, 1)) rfl),
   (fun lv st t o0 x w => Ex_M (i := .aload_n 1) (n := 1) (by decide +kernel) rfl rfl rfl),
   (fun lv st t o0 w => Ex_M (i := .aload_n 1) (n := 1) (by decide +kernel) rfl rfl rfl),
   (fun lv st t x w => Ex_M (i := .aload_n 0) (n := 1) (by decide +kernel) rfl rfl rfl),
   (fun lv st t w => Ex_M (i := .aload_n 0) (n := 1) (by decide +kernel) rfl rfl rfl),
   (fun lv st t o0 o1 o2 x w => Ex_M (i := .iload_n 3) (n := 1) (by decide +kernel) rfl rfl rfl),
   (fun lv l st w => Ex_A (i := .iconst 1) (n := 1) (by decide +kernel) rfl rfl),
   (fun lv l st x y w => Ex_A (i := .iadd) (n := 1) (by decide +kernel) rfl rfl),
   (fun lv l st a i w => Ex_ial (by decide +kernel : decode M_L_law.2.1 264 = .ok (.iaload, 1)) rfl),
   (fun lv st t x w => Ex_M (i := .aload_n 0) (n := 1) (by decide +kernel) rfl rfl rfl),
   (fun lv st t w => Ex_M (i := .aload_n 0) (n := 1) (by decide +kernel) rfl rfl rfl),
   (fun lv st t o0 o1 o2 x w => Ex_M (i := .iload_n 3) (n := 1) (by decide +kernel) rfl rfl rfl),
   (fun lv l st w => Ex_A (i := .iconst 2) (n := 1) (by decide +kernel) rfl rfl),
   (fun lv l st x y w => Ex_A (i := .iadd) (n := 1) (by decide +kernel) rfl rfl),
   (fun lv l st a i w => Ex_ial (by decide +kernel : decode M_L_law.2.1 269 = .ok (.iaload, 1)) rfl),
   (fun lv l b a0 a1 w => Ex_callV (by decide +kernel : decode M_L_law.2.1 270 = .ok (.invokevirtual 18, 3)) rfl (by rfl : resM (mCn M_L_law) 18 = some (2, M_X11_ofKnot)) rfl (by rfl) (Nat.le_of_ble_eq_true rfl) (by decide +kernel) (sLv_lt (by decide +kernel))),
   (fun lv st t o0 o1 x w => Ex_M (i := .aload_n 2) (n := 1) (by decide +kernel) rfl rfl rfl),
   (fun lv st t o0 o1 w => Ex_M (i := .aload_n 2) (n := 1) (by decide +kernel) rfl rfl rfl),
   (fun lv st t x w => Ex_M (i := .aload_n 0) (n := 1) (by decide +kernel) rfl rfl rfl),
   (fun lv st t w => Ex_M (i := .aload_n 0) (n := 1) (by decide +kernel) rfl rfl rfl),
   (fun lv st t o0 o1 o2 x w => Ex_M (i := .iload_n 3) (n := 1) (by decide +kernel) rfl rfl rfl),
   (fun lv l st w => Ex_A (i := .iconst 1) (n := 1) (by decide +kernel) rfl rfl),
   (fun lv l st x y w => Ex_A (i := .iadd) (n := 1) (by decide +kernel) rfl rfl),
   (fun lv l st a i w => Ex_ial (by decide +kernel : decode M_L_law.2.1 278 = .ok (.iaload, 1)) rfl),
   (fun lv st t x w => Ex_M (i := .aload_n 0) (n := 1) (by decide +kernel) rfl rfl rfl),
   (fun lv st t w => Ex_M (i := .aload_n 0) (n := 1) (by decide +kernel) rfl rfl rfl),
   (fun lv st t o0 o1 o2 x w => Ex_M (i := .iload_n 3) (n := 1) (by decide +kernel) rfl rfl rfl),
   (fun lv l st w => Ex_A (i := .iconst 2) (n := 1) (by decide +kernel) rfl rfl),
   (fun lv l st x y w => Ex_A (i := .iadd) (n := 1) (by decide +kernel) rfl rfl),
   (fun lv l st a i w => Ex_ial (by decide +kernel : decode M_L_law.2.1 283 = .ok (.iaload, 1)) rfl),
   (fun lv l b a0 a1 s0 w => Ex_callV (by decide +kernel : decode M_L_law.2.1 284 = .ok (.invokevirtual 22, 3)) rfl (by rfl : resM (mCn M_L_law) 22 = some (2, M_X12_ofKnot)) rfl (by rfl) (Nat.le_of_ble_eq_true rfl) (by decide +kernel) (sLv_lt (by decide +kernel))),
   (fun lv l st x y w => Ex_icmp_eq (by decide +kernel : decode M_L_law.2.1 287 = .ok (.if_icmp .eq 1185, 3)) rfl rfl),
   (fun lv l st w => Ex_A (i := .iconst 0) (n := 1) (by decide +kernel) rfl rfl),
   (fun lv l x w => Ex_zret (by decide +kernel : decode M_L_law.2.1 291 = .ok (.ireturn, 1)) rfl),
   (fun lv st t o0 x w => Ex_M (i := .aload_n 1) (n := 1) (by decide +kernel) rfl rfl rfl),
   (fun lv st t o0 w => Ex_M (i := .aload_n 1) (n := 1) (by decide +kernel) rfl rfl rfl),
   (fun lv l b w => Ex_callV (by decide +kernel : decode M_L_law.2.1 293 = .ok (.invokevirtual 23, 3)) rfl (by rfl : resM (mCn M_L_law) 23 = some (2, M_X11_weave)) rfl (by rfl) (Nat.le_of_ble_eq_true rfl) (by decide +kernel) (sLv_lt (by decide +kernel))),
   (fun lv st t o0 o1 x w => Ex_M (i := .aload_n 2) (n := 1) (by decide +kernel) rfl rfl rfl),
   (fun lv st t o0 o1 w => Ex_M (i := .aload_n 2) (n := 1) (by decide +kernel) rfl rfl rfl),
   (fun lv l b s0 w => Ex_callV (by decide +kernel : decode M_L_law.2.1 297 = .ok (.invokevirtual 27, 3)) rfl (by rfl : resM (mCn M_L_law) 27 = some (2, M_X12_weave)) rfl (by rfl) (Nat.le_of_ble_eq_true rfl) (by decide +kernel) (sLv_lt (by decide +kernel))),
   (fun lv l st x y w => Ex_icmp_eq (by decide +kernel : decode M_L_law.2.1 300 = .ok (.if_icmp .eq 1172, 3)) rfl rfl),
   (fun lv l st w => Ex_A (i := .iconst 0) (n := 1) (by decide +kernel) rfl rfl),
   (fun lv l x w => Ex_zret (by decide +kernel : decode M_L_law.2.1 304 = .ok (.ireturn, 1)) rfl),
   (fun lv st t o0 x w => Ex_M (i := .aload_n 1) (n := 1) (by decide +kernel) rfl rfl rfl),
   (fun lv st t o0 w => Ex_M (i := .aload_n 1) (n := 1) (by decide +kernel) rfl rfl rfl),
   (fun lv l b w => Ex_callV (by decide +kernel : decode M_L_law.2.1 306 = .ok (.invokevirtual 28, 3)) rfl (by rfl : resM (mCn M_L_law) 28 = some (2, M_X11_mend)) rfl (by rfl) (Nat.le_of_ble_eq_true rfl) (by decide +kernel) (sLv_lt (by decide +kernel))),
   (fun lv st t o0 o1 x w => Ex_M (i := .aload_n 2) (n := 1) (by decide +kernel) rfl rfl rfl),
   (fun lv st t o0 o1 w => Ex_M (i := .aload_n 2) (n := 1) (by decide +kernel) rfl rfl rfl),
   (fun lv l b s0 w => Ex_callV (by decide +kernel : decode M_L_law.2.1 310 = .ok (.invokevirtual 31, 3)) rfl (by rfl : resM (mCn M_L_law) 31 = some (2, M_X12_mend)) rfl (by rfl) (Nat.le_of_ble_eq_true rfl) (by decide +kernel) (sLv_lt (by decide +kernel))),
   (fun lv l st x y w => Ex_icmp_eq (by decide +kernel : decode M_L_law.2.1 313 = .ok (.if_icmp .eq 1159, 3)) rfl rfl),
   (fun lv l st w => Ex_A (i := .iconst 0) (n := 1) (by decide +kernel) rfl rfl)⟩
set_option maxRecDepth 20000 in
set_option maxHeartbeats 4000000 in
theorem R_L_law_p2 : (∀ (lv : Nat) (l : LX) (x : Int32) (w : AH), Ex M_L_law lv 317 l [.int x] w = if x = 0 ∨ x = 1 then some (some (.int x), w) else none)
  ∧ (∀ (lv : Nat) (st : List Value) (t : LX) (o0 : Option Value) (x : Nat) (w : AH), Ex M_L_law lv 318 (o0 :: some (.ref x) :: t) st w = Ex M_L_law lv 319 (o0 :: some (.ref x) :: t) (.ref x :: st) w)
  ∧ (∀ (lv : Nat) (st : List Value) (t : LX) (o0 : Option Value) (w : AH), Ex M_L_law lv 318 (o0 :: some (.null) :: t) st w = Ex M_L_law lv 319 (o0 :: some (.null) :: t) (.null :: st) w)
  ∧ (∀ (lv : Nat) (st : List Value) (t : LX) (x : Nat) (w : AH), Ex M_L_law lv 319 (some (.ref x) :: t) st w = Ex M_L_law lv 320 (some (.ref x) :: t) (.ref x :: st) w)
  ∧ (∀ (lv : Nat) (st : List Value) (t : LX) (w : AH), Ex M_L_law lv 319 (some (.null) :: t) st w = Ex M_L_law lv 320 (some (.null) :: t) (.null :: st) w)
  ∧ (∀ (lv : Nat) (st : List Value) (t : LX) (o0 o1 o2 : Option Value) (x : Int32) (w : AH), Ex M_L_law lv 320 (o0 :: o1 :: o2 :: some (.int x) :: t) st w = Ex M_L_law lv 321 (o0 :: o1 :: o2 :: some (.int x) :: t) (.int x :: st) w)
  ∧ (∀ (lv : Nat) (l : LX) (st : List Value) (w : AH), Ex M_L_law lv 321 l st w = Ex M_L_law lv 322 l (.int 1 :: st) w)
  ∧ (∀ (lv : Nat) (l : LX) (st : List Value) (x y : Int32) (w : AH), Ex M_L_law lv 322 l (.int y :: .int x :: st) w = Ex M_L_law lv 323 l (.int (x + y) :: st) w)
  ∧ (∀ (lv : Nat) (l : LX) (st : List Value) (a : Nat) (i : Int32) (w : AH), Ex M_L_law lv 323 l (.int i :: .ref a :: st) w = if (aI (hg w a) i).isSome = true then Ex M_L_law lv 324 l (.int (vI (aI (hg w a) i)) :: st) w else none)
  ∧ (∀ (lv : Nat) (st : List Value) (t : LX) (x : Nat) (w : AH), Ex M_L_law lv 324 (some (.ref x) :: t) st w = Ex M_L_law lv 325 (some (.ref x) :: t) (.ref x :: st) w)
  ∧ (∀ (lv : Nat) (st : List Value) (t : LX) (w : AH), Ex M_L_law lv 324 (some (.null) :: t) st w = Ex M_L_law lv 325 (some (.null) :: t) (.null :: st) w)
  ∧ (∀ (lv : Nat) (st : List Value) (t : LX) (o0 o1 o2 : Option Value) (x : Int32) (w : AH), Ex M_L_law lv 325 (o0 :: o1 :: o2 :: some (.int x) :: t) st w = Ex M_L_law lv 326 (o0 :: o1 :: o2 :: some (.int x) :: t) (.int x :: st) w)
  ∧ (∀ (lv : Nat) (l : LX) (st : List Value) (w : AH), Ex M_L_law lv 326 l st w = Ex M_L_law lv 327 l (.int 2 :: st) w)
  ∧ (∀ (lv : Nat) (l : LX) (st : List Value) (x y : Int32) (w : AH), Ex M_L_law lv 327 l (.int y :: .int x :: st) w = Ex M_L_law lv 328 l (.int (x + y) :: st) w)
  ∧ (∀ (lv : Nat) (l : LX) (st : List Value) (a : Nat) (i : Int32) (w : AH), Ex M_L_law lv 328 l (.int i :: .ref a :: st) w = if (aI (hg w a) i).isSome = true then Ex M_L_law lv 329 l (.int (vI (aI (hg w a) i)) :: st) w else none)
  ∧ (∀ (lv : Nat) (l : LX) (b : Nat) (a0 : Int32) (a1 : Int32) (w : AH), Ex M_L_law lv 329 l (.int a1 :: .int a0 :: .ref b :: []) w = if clK (hg w b) = 10 then (if (Call M_X11_walker 60 [.ref b, .int a0, .int a1] w).isSome = true then Ex M_L_law lv 332 l (pushR (cV (Call M_X11_walker 60 [.ref b, .int a0, .int a1] w)) []) (cW (Call M_X11_walker 60 [.ref b, .int a0, .int a1] w) w) else none) else none)
  ∧ (∀ (lv : Nat) (st : List Value) (t : LX) (o0 o1 : Option Value) (x : Nat) (w : AH), Ex M_L_law lv 332 (o0 :: o1 :: some (.ref x) :: t) st w = Ex M_L_law lv 333 (o0 :: o1 :: some (.ref x) :: t) (.ref x :: st) w)
  ∧ (∀ (lv : Nat) (st : List Value) (t : LX) (o0 o1 : Option Value) (w : AH), Ex M_L_law lv 332 (o0 :: o1 :: some (.null) :: t) st w = Ex M_L_law lv 333 (o0 :: o1 :: some (.null) :: t) (.null :: st) w)
  ∧ (∀ (lv : Nat) (st : List Value) (t : LX) (x : Nat) (w : AH), Ex M_L_law lv 333 (some (.ref x) :: t) st w = Ex M_L_law lv 334 (some (.ref x) :: t) (.ref x :: st) w)
  ∧ (∀ (lv : Nat) (st : List Value) (t : LX) (w : AH), Ex M_L_law lv 333 (some (.null) :: t) st w = Ex M_L_law lv 334 (some (.null) :: t) (.null :: st) w)
  ∧ (∀ (lv : Nat) (st : List Value) (t : LX) (o0 o1 o2 : Option Value) (x : Int32) (w : AH), Ex M_L_law lv 334 (o0 :: o1 :: o2 :: some (.int x) :: t) st w = Ex M_L_law lv 335 (o0 :: o1 :: o2 :: some (.int x) :: t) (.int x :: st) w)
  ∧ (∀ (lv : Nat) (l : LX) (st : List Value) (w : AH), Ex M_L_law lv 335 l st w = Ex M_L_law lv 336 l (.int 1 :: st) w)
  ∧ (∀ (lv : Nat) (l : LX) (st : List Value) (x y : Int32) (w : AH), Ex M_L_law lv 336 l (.int y :: .int x :: st) w = Ex M_L_law lv 337 l (.int (x + y) :: st) w)
  ∧ (∀ (lv : Nat) (l : LX) (st : List Value) (a : Nat) (i : Int32) (w : AH), Ex M_L_law lv 337 l (.int i :: .ref a :: st) w = if (aI (hg w a) i).isSome = true then Ex M_L_law lv 338 l (.int (vI (aI (hg w a) i)) :: st) w else none)
  ∧ (∀ (lv : Nat) (st : List Value) (t : LX) (x : Nat) (w : AH), Ex M_L_law lv 338 (some (.ref x) :: t) st w = Ex M_L_law lv 339 (some (.ref x) :: t) (.ref x :: st) w)
  ∧ (∀ (lv : Nat) (st : List Value) (t : LX) (w : AH), Ex M_L_law lv 338 (some (.null) :: t) st w = Ex M_L_law lv 339 (some (.null) :: t) (.null :: st) w)
  ∧ (∀ (lv : Nat) (st : List Value) (t : LX) (o0 o1 o2 : Option Value) (x : Int32) (w : AH), Ex M_L_law lv 339 (o0 :: o1 :: o2 :: some (.int x) :: t) st w = Ex M_L_law lv 340 (o0 :: o1 :: o2 :: some (.int x) :: t) (.int x :: st) w)
  ∧ (∀ (lv : Nat) (l : LX) (st : List Value) (w : AH), Ex M_L_law lv 340 l st w = Ex M_L_law lv 341 l (.int 2 :: st) w)
  ∧ (∀ (lv : Nat) (l : LX) (st : List Value) (x y : Int32) (w : AH), Ex M_L_law lv 341 l (.int y :: .int x :: st) w = Ex M_L_law lv 342 l (.int (x + y) :: st) w)
  ∧ (∀ (lv : Nat) (l : LX) (st : List Value) (a : Nat) (i : Int32) (w : AH), Ex M_L_law lv 342 l (.int i :: .ref a :: st) w = if (aI (hg w a) i).isSome = true then Ex M_L_law lv 343 l (.int (vI (aI (hg w a) i)) :: st) w else none)
  ∧ (∀ (lv : Nat) (l : LX) (b : Nat) (a0 : Int32) (a1 : Int32) (s0 : Int32) (w : AH), Ex M_L_law lv 343 l (.int a1 :: .int a0 :: .ref b :: [.int s0]) w = if clK (hg w b) = 11 then (if (Call M_X12_walker 60 [.ref b, .int a0, .int a1] w).isSome = true then Ex M_L_law lv 346 l (pushR (cV (Call M_X12_walker 60 [.ref b, .int a0, .int a1] w)) [.int s0]) (cW (Call M_X12_walker 60 [.ref b, .int a0, .int a1] w) w) else none) else none)
  ∧ (∀ (lv : Nat) (l : LX) (st : List Value) (x y : Int32) (w : AH), Ex M_L_law lv 346 l (.int y :: .int x :: st) w = if x = y then Ex M_L_law lv 1472 l st w else Ex M_L_law lv 349 l st w)
  ∧ (∀ (lv : Nat) (l : LX) (st : List Value) (w : AH), Ex M_L_law lv 349 l st w = Ex M_L_law lv 350 l (.int 0 :: st) w)
  ∧ (∀ (lv : Nat) (l : LX) (x : Int32) (w : AH), Ex M_L_law lv 350 l [.int x] w = if x = 0 ∨ x = 1 then some (some (.int x), w) else none)
  ∧ (∀ (lv : Nat) (st : List Value) (t : LX) (o0 : Option Value) (x : Nat) (w : AH), Ex M_L_law lv 351 (o0 :: some (.ref x) :: t) st w = Ex M_L_law lv 352 (o0 :: some (.ref x) :: t) (.ref x :: st) w)
  ∧ (∀ (lv : Nat) (st : List Value) (t : LX) (o0 : Option Value) (w : AH), Ex M_L_law lv 351 (o0 :: some (.null) :: t) st w = Ex M_L_law lv 352 (o0 :: some (.null) :: t) (.null :: st) w)
  ∧ (∀ (lv : Nat) (st : List Value) (t : LX) (x : Nat) (w : AH), Ex M_L_law lv 352 (some (.ref x) :: t) st w = Ex M_L_law lv 353 (some (.ref x) :: t) (.ref x :: st) w)
  ∧ (∀ (lv : Nat) (st : List Value) (t : LX) (w : AH), Ex M_L_law lv 352 (some (.null) :: t) st w = Ex M_L_law lv 353 (some (.null) :: t) (.null :: st) w)
  ∧ (∀ (lv : Nat) (st : List Value) (t : LX) (o0 o1 o2 : Option Value) (x : Int32) (w : AH), Ex M_L_law lv 353 (o0 :: o1 :: o2 :: some (.int x) :: t) st w = Ex M_L_law lv 354 (o0 :: o1 :: o2 :: some (.int x) :: t) (.int x :: st) w)
  ∧ (∀ (lv : Nat) (l : LX) (st : List Value) (w : AH), Ex M_L_law lv 354 l st w = Ex M_L_law lv 355 l (.int 1 :: st) w)
  ∧ (∀ (lv : Nat) (l : LX) (st : List Value) (x y : Int32) (w : AH), Ex M_L_law lv 355 l (.int y :: .int x :: st) w = Ex M_L_law lv 356 l (.int (x + y) :: st) w)
  ∧ (∀ (lv : Nat) (l : LX) (st : List Value) (a : Nat) (i : Int32) (w : AH), Ex M_L_law lv 356 l (.int i :: .ref a :: st) w = if (aI (hg w a) i).isSome = true then Ex M_L_law lv 357 l (.int (vI (aI (hg w a) i)) :: st) w else none)
  ∧ (∀ (lv : Nat) (st : List Value) (t : LX) (x : Nat) (w : AH), Ex M_L_law lv 357 (some (.ref x) :: t) st w = Ex M_L_law lv 358 (some (.ref x) :: t) (.ref x :: st) w)
  ∧ (∀ (lv : Nat) (st : List Value) (t : LX) (w : AH), Ex M_L_law lv 357 (some (.null) :: t) st w = Ex M_L_law lv 358 (some (.null) :: t) (.null :: st) w)
  ∧ (∀ (lv : Nat) (st : List Value) (t : LX) (o0 o1 o2 : Option Value) (x : Int32) (w : AH), Ex M_L_law lv 358 (o0 :: o1 :: o2 :: some (.int x) :: t) st w = Ex M_L_law lv 359 (o0 :: o1 :: o2 :: some (.int x) :: t) (.int x :: st) w)
  ∧ (∀ (lv : Nat) (l : LX) (st : List Value) (w : AH), Ex M_L_law lv 359 l st w = Ex M_L_law lv 360 l (.int 2 :: st) w)
  ∧ (∀ (lv : Nat) (l : LX) (st : List Value) (x y : Int32) (w : AH), Ex M_L_law lv 360 l (.int y :: .int x :: st) w = Ex M_L_law lv 361 l (.int (x + y) :: st) w)
  ∧ (∀ (lv : Nat) (l : LX) (st : List Value) (a : Nat) (i : Int32) (w : AH), Ex M_L_law lv 361 l (.int i :: .ref a :: st) w = if (aI (hg w a) i).isSome = true then Ex M_L_law lv 362 l (.int (vI (aI (hg w a) i)) :: st) w else none)
  ∧ (∀ (lv : Nat) (l : LX) (b : Nat) (a0 : Int32) (a1 : Int32) (w : AH), Ex M_L_law lv 362 l (.int a1 :: .int a0 :: .ref b :: []) w = if clK (hg w b) = 10 then (if (Call M_X11_ofWalker 60 [.ref b, .int a0, .int a1] w).isSome = true then Ex M_L_law lv 365 l (pushR (cV (Call M_X11_ofWalker 60 [.ref b, .int a0, .int a1] w)) []) (cW (Call M_X11_ofWalker 60 [.ref b, .int a0, .int a1] w) w) else none) else none)
  ∧ (∀ (lv : Nat) (st : List Value) (t : LX) (o0 o1 : Option Value) (x : Nat) (w : AH), Ex M_L_law lv 365 (o0 :: o1 :: some (.ref x) :: t) st w = Ex M_L_law lv 366 (o0 :: o1 :: some (.ref x) :: t) (.ref x :: st) w)
  ∧ (∀ (lv : Nat) (st : List Value) (t : LX) (o0 o1 : Option Value) (w : AH), Ex M_L_law lv 365 (o0 :: o1 :: some (.null) :: t) st w = Ex M_L_law lv 366 (o0 :: o1 :: some (.null) :: t) (.null :: st) w)
  ∧ (∀ (lv : Nat) (st : List Value) (t : LX) (x : Nat) (w : AH), Ex M_L_law lv 366 (some (.ref x) :: t) st w = Ex M_L_law lv 367 (some (.ref x) :: t) (.ref x :: st) w)
  ∧ (∀ (lv : Nat) (st : List Value) (t : LX) (w : AH), Ex M_L_law lv 366 (some (.null) :: t) st w = Ex M_L_law lv 367 (some (.null) :: t) (.null :: st) w)
  ∧ (∀ (lv : Nat) (st : List Value) (t : LX) (o0 o1 o2 : Option Value) (x : Int32) (w : AH), Ex M_L_law lv 367 (o0 :: o1 :: o2 :: some (.int x) :: t) st w = Ex M_L_law lv 368 (o0 :: o1 :: o2 :: some (.int x) :: t) (.int x :: st) w)
  ∧ (∀ (lv : Nat) (l : LX) (st : List Value) (w : AH), Ex M_L_law lv 368 l st w = Ex M_L_law lv 369 l (.int 1 :: st) w)
  ∧ (∀ (lv : Nat) (l : LX) (st : List Value) (x y : Int32) (w : AH), Ex M_L_law lv 369 l (.int y :: .int x :: st) w = Ex M_L_law lv 370 l (.int (x + y) :: st) w)
  ∧ (∀ (lv : Nat) (l : LX) (st : List Value) (a : Nat) (i : Int32) (w : AH), Ex M_L_law lv 370 l (.int i :: .ref a :: st) w = if (aI (hg w a) i).isSome = true then Ex M_L_law lv 371 l (.int (vI (aI (hg w a) i)) :: st) w else none)
  ∧ (∀ (lv : Nat) (st : List Value) (t : LX) (x : Nat) (w : AH), Ex M_L_law lv 371 (some (.ref x) :: t) st w = Ex M_L_law lv 372 (some (.ref x) :: t) (.ref x :: st) w)
  ∧ (∀ (lv : Nat) (st : List Value) (t : LX) (w : AH), Ex M_L_law lv 371 (some (.null) :: t) st w = Ex M_L_law lv 372 (some (.null) :: t) (.null :: st) w)
  ∧ (∀ (lv : Nat) (st : List Value) (t : LX) (o0 o1 o2 : Option Value) (x : Int32) (w : AH), Ex M_L_law lv 372 (o0 :: o1 :: o2 :: some (.int x) :: t) st w = Ex M_L_law lv 373 (o0 :: o1 :: o2 :: some (.int x) :: t) (.int x :: st) w) :=
  ⟨(fun lv l x w => Ex_zret (by decide +kernel : decode M_L_law.2.1 317 = .ok (.ireturn, 1)) rfl),
   (fun lv st t o0 x w => Ex_M (i := .aload_n 1) (n := 1) (by decide +kernel) rfl rfl rfl),
   (fun lv st t o0 w => Ex_M (i := .aload_n 1) (n := 1) (by decide +kernel) rfl rfl rfl),
   (fun lv st t x w => Ex_M (i := .aload_n 0) (n := 1) (by decide +kernel) rfl rfl rfl),
   (fun lv st t w => Ex_M (i := .aload_n 0) (n := 1) (by decide +kernel) rfl rfl rfl),
   (fun lv st t o0 o1 o2 x w => Ex_M (i := .iload_n 3) (n := 1) (by decide +kernel) rfl rfl rfl),
   (fun lv l st w => Ex_A (i := .iconst 1) (n := 1) (by decide +kernel) rfl rfl),
   (fun lv l st x y w => Ex_A (i := .iadd) (n := 1) (by decide +kernel) rfl rfl),
   (fun lv l st a i w => Ex_ial (by decide +kernel : decode M_L_law.2.1 323 = .ok (.iaload, 1)) rfl),
   (fun lv st t x w => Ex_M (i := .aload_n 0) (n := 1) (by decide +kernel) rfl rfl rfl),
   (fun lv st t w => Ex_M (i := .aload_n 0) (n := 1) (by decide +kernel) rfl rfl rfl),
   (fun lv st t o0 o1 o2 x w => Ex_M (i := .iload_n 3) (n := 1) (by decide +kernel) rfl rfl rfl),
   (fun lv l st w => Ex_A (i := .iconst 2) (n := 1) (by decide +kernel) rfl rfl),
   (fun lv l st x y w => Ex_A (i := .iadd) (n := 1) (by decide +kernel) rfl rfl),
   (fun lv l st a i w => Ex_ial (by decide +kernel : decode M_L_law.2.1 328 = .ok (.iaload, 1)) rfl),
   (fun lv l b a0 a1 w => Ex_callV (by decide +kernel : decode M_L_law.2.1 329 = .ok (.invokevirtual 32, 3)) rfl (by rfl : resM (mCn M_L_law) 32 = some (2, M_X11_walker)) rfl (by rfl) (Nat.le_of_ble_eq_true rfl) (by decide +kernel) (sLv_lt (by decide +kernel))),
   (fun lv st t o0 o1 x w => Ex_M (i := .aload_n 2) (n := 1) (by decide +kernel) rfl rfl rfl),
   (fun lv st t o0 o1 w => Ex_M (i := .aload_n 2) (n := 1) (by decide +kernel) rfl rfl rfl),
   (fun lv st t x w => Ex_M (i := .aload_n 0) (n := 1) (by decide +kernel) rfl rfl rfl),
   (fun lv st t w => Ex_M (i := .aload_n 0) (n := 1) (by decide +kernel) rfl rfl rfl),
   (fun lv st t o0 o1 o2 x w => Ex_M (i := .iload_n 3) (n := 1) (by decide +kernel) rfl rfl rfl),
   (fun lv l st w => Ex_A (i := .iconst 1) (n := 1) (by decide +kernel) rfl rfl),
   (fun lv l st x y w => Ex_A (i := .iadd) (n := 1) (by decide +kernel) rfl rfl),
   (fun lv l st a i w => Ex_ial (by decide +kernel : decode M_L_law.2.1 337 = .ok (.iaload, 1)) rfl),
   (fun lv st t x w => Ex_M (i := .aload_n 0) (n := 1) (by decide +kernel) rfl rfl rfl),
   (fun lv st t w => Ex_M (i := .aload_n 0) (n := 1) (by decide +kernel) rfl rfl rfl),
   (fun lv st t o0 o1 o2 x w => Ex_M (i := .iload_n 3) (n := 1) (by decide +kernel) rfl rfl rfl),
   (fun lv l st w => Ex_A (i := .iconst 2) (n := 1) (by decide +kernel) rfl rfl),
   (fun lv l st x y w => Ex_A (i := .iadd) (n := 1) (by decide +kernel) rfl rfl),
   (fun lv l st a i w => Ex_ial (by decide +kernel : decode M_L_law.2.1 342 = .ok (.iaload, 1)) rfl),
   (fun lv l b a0 a1 s0 w => Ex_callV (by decide +kernel : decode M_L_law.2.1 343 = .ok (.invokevirtual 35, 3)) rfl (by rfl : resM (mCn M_L_law) 35 = some (2, M_X12_walker)) rfl (by rfl) (Nat.le_of_ble_eq_true rfl) (by decide +kernel) (sLv_lt (by decide +kernel))),
   (fun lv l st x y w => Ex_icmp_eq (by decide +kernel : decode M_L_law.2.1 346 = .ok (.if_icmp .eq 1126, 3)) rfl rfl),
   (fun lv l st w => Ex_A (i := .iconst 0) (n := 1) (by decide +kernel) rfl rfl),
   (fun lv l x w => Ex_zret (by decide +kernel : decode M_L_law.2.1 350 = .ok (.ireturn, 1)) rfl),
   (fun lv st t o0 x w => Ex_M (i := .aload_n 1) (n := 1) (by decide +kernel) rfl rfl rfl),
   (fun lv st t o0 w => Ex_M (i := .aload_n 1) (n := 1) (by decide +kernel) rfl rfl rfl),
   (fun lv st t x w => Ex_M (i := .aload_n 0) (n := 1) (by decide +kernel) rfl rfl rfl),
   (fun lv st t w => Ex_M (i := .aload_n 0) (n := 1) (by decide +kernel) rfl rfl rfl),
   (fun lv st t o0 o1 o2 x w => Ex_M (i := .iload_n 3) (n := 1) (by decide +kernel) rfl rfl rfl),
   (fun lv l st w => Ex_A (i := .iconst 1) (n := 1) (by decide +kernel) rfl rfl),
   (fun lv l st x y w => Ex_A (i := .iadd) (n := 1) (by decide +kernel) rfl rfl),
   (fun lv l st a i w => Ex_ial (by decide +kernel : decode M_L_law.2.1 356 = .ok (.iaload, 1)) rfl),
   (fun lv st t x w => Ex_M (i := .aload_n 0) (n := 1) (by decide +kernel) rfl rfl rfl),
   (fun lv st t w => Ex_M (i := .aload_n 0) (n := 1) (by decide +kernel) rfl rfl rfl),
   (fun lv st t o0 o1 o2 x w => Ex_M (i := .iload_n 3) (n := 1) (by decide +kernel) rfl rfl rfl),
   (fun lv l st w => Ex_A (i := .iconst 2) (n := 1) (by decide +kernel) rfl rfl),
   (fun lv l st x y w => Ex_A (i := .iadd) (n := 1) (by decide +kernel) rfl rfl),
   (fun lv l st a i w => Ex_ial (by decide +kernel : decode M_L_law.2.1 361 = .ok (.iaload, 1)) rfl),
   (fun lv l b a0 a1 w => Ex_callV (by decide +kernel : decode M_L_law.2.1 362 = .ok (.invokevirtual 36, 3)) rfl (by rfl : resM (mCn M_L_law) 36 = some (2, M_X11_ofWalker)) rfl (by rfl) (Nat.le_of_ble_eq_true rfl) (by decide +kernel) (sLv_lt (by decide +kernel))),
   (fun lv st t o0 o1 x w => Ex_M (i := .aload_n 2) (n := 1) (by decide +kernel) rfl rfl rfl),
   (fun lv st t o0 o1 w => Ex_M (i := .aload_n 2) (n := 1) (by decide +kernel) rfl rfl rfl),
   (fun lv st t x w => Ex_M (i := .aload_n 0) (n := 1) (by decide +kernel) rfl rfl rfl),
   (fun lv st t w => Ex_M (i := .aload_n 0) (n := 1) (by decide +kernel) rfl rfl rfl),
   (fun lv st t o0 o1 o2 x w => Ex_M (i := .iload_n 3) (n := 1) (by decide +kernel) rfl rfl rfl),
   (fun lv l st w => Ex_A (i := .iconst 1) (n := 1) (by decide +kernel) rfl rfl),
   (fun lv l st x y w => Ex_A (i := .iadd) (n := 1) (by decide +kernel) rfl rfl),
   (fun lv l st a i w => Ex_ial (by decide +kernel : decode M_L_law.2.1 370 = .ok (.iaload, 1)) rfl),
   (fun lv st t x w => Ex_M (i := .aload_n 0) (n := 1) (by decide +kernel) rfl rfl rfl),
   (fun lv st t w => Ex_M (i := .aload_n 0) (n := 1) (by decide +kernel) rfl rfl rfl),
   (fun lv st t o0 o1 o2 x w => Ex_M (i := .iload_n 3) (n := 1) (by decide +kernel) rfl rfl rfl)⟩
set_option maxRecDepth 20000 in
set_option maxHeartbeats 4000000 in
theorem R_L_law_p3 : (∀ (lv : Nat) (l : LX) (st : List Value) (w : AH), Ex M_L_law lv 373 l st w = Ex M_L_law lv 374 l (.int 2 :: st) w)
  ∧ (∀ (lv : Nat) (l : LX) (st : List Value) (x y : Int32) (w : AH), Ex M_L_law lv 374 l (.int y :: .int x :: st) w = Ex M_L_law lv 375 l (.int (x + y) :: st) w)
  ∧ (∀ (lv : Nat) (l : LX) (st : List Value) (a : Nat) (i : Int32) (w : AH), Ex M_L_law lv 375 l (.int i :: .ref a :: st) w = if (aI (hg w a) i).isSome = true then Ex M_L_law lv 376 l (.int (vI (aI (hg w a) i)) :: st) w else none)
  ∧ (∀ (lv : Nat) (l : LX) (b : Nat) (a0 : Int32) (a1 : Int32) (s0 : Int32) (w : AH), Ex M_L_law lv 376 l (.int a1 :: .int a0 :: .ref b :: [.int s0]) w = if clK (hg w b) = 11 then (if (Call M_X12_ofWalker 60 [.ref b, .int a0, .int a1] w).isSome = true then Ex M_L_law lv 379 l (pushR (cV (Call M_X12_ofWalker 60 [.ref b, .int a0, .int a1] w)) [.int s0]) (cW (Call M_X12_ofWalker 60 [.ref b, .int a0, .int a1] w) w) else none) else none)
  ∧ (∀ (lv : Nat) (l : LX) (st : List Value) (x y : Int32) (w : AH), Ex M_L_law lv 379 l (.int y :: .int x :: st) w = if x = y then Ex M_L_law lv 1472 l st w else Ex M_L_law lv 382 l st w)
  ∧ (∀ (lv : Nat) (l : LX) (st : List Value) (w : AH), Ex M_L_law lv 382 l st w = Ex M_L_law lv 383 l (.int 0 :: st) w)
  ∧ (∀ (lv : Nat) (l : LX) (x : Int32) (w : AH), Ex M_L_law lv 383 l [.int x] w = if x = 0 ∨ x = 1 then some (some (.int x), w) else none)
  ∧ (∀ (lv : Nat) (st : List Value) (t : LX) (o0 : Option Value) (x : Nat) (w : AH), Ex M_L_law lv 384 (o0 :: some (.ref x) :: t) st w = Ex M_L_law lv 385 (o0 :: some (.ref x) :: t) (.ref x :: st) w)
  ∧ (∀ (lv : Nat) (st : List Value) (t : LX) (o0 : Option Value) (w : AH), Ex M_L_law lv 384 (o0 :: some (.null) :: t) st w = Ex M_L_law lv 385 (o0 :: some (.null) :: t) (.null :: st) w)
  ∧ (∀ (lv : Nat) (st : List Value) (t : LX) (x : Nat) (w : AH), Ex M_L_law lv 385 (some (.ref x) :: t) st w = Ex M_L_law lv 386 (some (.ref x) :: t) (.ref x :: st) w)
  ∧ (∀ (lv : Nat) (st : List Value) (t : LX) (w : AH), Ex M_L_law lv 385 (some (.null) :: t) st w = Ex M_L_law lv 386 (some (.null) :: t) (.null :: st) w)
  ∧ (∀ (lv : Nat) (st : List Value) (t : LX) (o0 o1 o2 : Option Value) (x : Int32) (w : AH), Ex M_L_law lv 386 (o0 :: o1 :: o2 :: some (.int x) :: t) st w = Ex M_L_law lv 387 (o0 :: o1 :: o2 :: some (.int x) :: t) (.int x :: st) w)
  ∧ (∀ (lv : Nat) (l : LX) (st : List Value) (w : AH), Ex M_L_law lv 387 l st w = Ex M_L_law lv 388 l (.int 1 :: st) w)
  ∧ (∀ (lv : Nat) (l : LX) (st : List Value) (x y : Int32) (w : AH), Ex M_L_law lv 388 l (.int y :: .int x :: st) w = Ex M_L_law lv 389 l (.int (x + y) :: st) w)
  ∧ (∀ (lv : Nat) (l : LX) (st : List Value) (a : Nat) (i : Int32) (w : AH), Ex M_L_law lv 389 l (.int i :: .ref a :: st) w = if (aI (hg w a) i).isSome = true then Ex M_L_law lv 390 l (.int (vI (aI (hg w a) i)) :: st) w else none)
  ∧ (∀ (lv : Nat) (st : List Value) (t : LX) (x : Nat) (w : AH), Ex M_L_law lv 390 (some (.ref x) :: t) st w = Ex M_L_law lv 391 (some (.ref x) :: t) (.ref x :: st) w)
  ∧ (∀ (lv : Nat) (st : List Value) (t : LX) (w : AH), Ex M_L_law lv 390 (some (.null) :: t) st w = Ex M_L_law lv 391 (some (.null) :: t) (.null :: st) w)
  ∧ (∀ (lv : Nat) (st : List Value) (t : LX) (o0 o1 o2 : Option Value) (x : Int32) (w : AH), Ex M_L_law lv 391 (o0 :: o1 :: o2 :: some (.int x) :: t) st w = Ex M_L_law lv 392 (o0 :: o1 :: o2 :: some (.int x) :: t) (.int x :: st) w)
  ∧ (∀ (lv : Nat) (l : LX) (st : List Value) (w : AH), Ex M_L_law lv 392 l st w = Ex M_L_law lv 393 l (.int 2 :: st) w)
  ∧ (∀ (lv : Nat) (l : LX) (st : List Value) (x y : Int32) (w : AH), Ex M_L_law lv 393 l (.int y :: .int x :: st) w = Ex M_L_law lv 394 l (.int (x + y) :: st) w)
  ∧ (∀ (lv : Nat) (l : LX) (st : List Value) (a : Nat) (i : Int32) (w : AH), Ex M_L_law lv 394 l (.int i :: .ref a :: st) w = if (aI (hg w a) i).isSome = true then Ex M_L_law lv 395 l (.int (vI (aI (hg w a) i)) :: st) w else none)
  ∧ (∀ (lv : Nat) (st : List Value) (t : LX) (x : Nat) (w : AH), Ex M_L_law lv 395 (some (.ref x) :: t) st w = Ex M_L_law lv 396 (some (.ref x) :: t) (.ref x :: st) w)
  ∧ (∀ (lv : Nat) (st : List Value) (t : LX) (w : AH), Ex M_L_law lv 395 (some (.null) :: t) st w = Ex M_L_law lv 396 (some (.null) :: t) (.null :: st) w)
  ∧ (∀ (lv : Nat) (st : List Value) (t : LX) (o0 o1 o2 : Option Value) (x : Int32) (w : AH), Ex M_L_law lv 396 (o0 :: o1 :: o2 :: some (.int x) :: t) st w = Ex M_L_law lv 397 (o0 :: o1 :: o2 :: some (.int x) :: t) (.int x :: st) w)
  ∧ (∀ (lv : Nat) (l : LX) (st : List Value) (w : AH), Ex M_L_law lv 397 l st w = Ex M_L_law lv 398 l (.int 3 :: st) w)
  ∧ (∀ (lv : Nat) (l : LX) (st : List Value) (x y : Int32) (w : AH), Ex M_L_law lv 398 l (.int y :: .int x :: st) w = Ex M_L_law lv 399 l (.int (x + y) :: st) w)
  ∧ (∀ (lv : Nat) (l : LX) (st : List Value) (a : Nat) (i : Int32) (w : AH), Ex M_L_law lv 399 l (.int i :: .ref a :: st) w = if (aI (hg w a) i).isSome = true then Ex M_L_law lv 400 l (.int (vI (aI (hg w a) i)) :: st) w else none)
  ∧ (∀ (lv : Nat) (l : LX) (b : Nat) (a0 : Int32) (a1 : Int32) (a2 : Int32) (w : AH), Ex M_L_law lv 400 l (.int a2 :: .int a1 :: .int a0 :: .ref b :: []) w = if clK (hg w b) = 10 then (if (Call M_X11_put 60 [.ref b, .int a0, .int a1, .int a2] w).isSome = true then Ex M_L_law lv 403 l (pushR (cV (Call M_X11_put 60 [.ref b, .int a0, .int a1, .int a2] w)) []) (cW (Call M_X11_put 60 [.ref b, .int a0, .int a1, .int a2] w) w) else none) else none)
  ∧ (∀ (lv : Nat) (st : List Value) (t : LX) (o0 o1 : Option Value) (x : Nat) (w : AH), Ex M_L_law lv 403 (o0 :: o1 :: some (.ref x) :: t) st w = Ex M_L_law lv 404 (o0 :: o1 :: some (.ref x) :: t) (.ref x :: st) w)
  ∧ (∀ (lv : Nat) (st : List Value) (t : LX) (o0 o1 : Option Value) (w : AH), Ex M_L_law lv 403 (o0 :: o1 :: some (.null) :: t) st w = Ex M_L_law lv 404 (o0 :: o1 :: some (.null) :: t) (.null :: st) w)
  ∧ (∀ (lv : Nat) (st : List Value) (t : LX) (x : Nat) (w : AH), Ex M_L_law lv 404 (some (.ref x) :: t) st w = Ex M_L_law lv 405 (some (.ref x) :: t) (.ref x :: st) w)
  ∧ (∀ (lv : Nat) (st : List Value) (t : LX) (w : AH), Ex M_L_law lv 404 (some (.null) :: t) st w = Ex M_L_law lv 405 (some (.null) :: t) (.null :: st) w)
  ∧ (∀ (lv : Nat) (st : List Value) (t : LX) (o0 o1 o2 : Option Value) (x : Int32) (w : AH), Ex M_L_law lv 405 (o0 :: o1 :: o2 :: some (.int x) :: t) st w = Ex M_L_law lv 406 (o0 :: o1 :: o2 :: some (.int x) :: t) (.int x :: st) w)
  ∧ (∀ (lv : Nat) (l : LX) (st : List Value) (w : AH), Ex M_L_law lv 406 l st w = Ex M_L_law lv 407 l (.int 1 :: st) w)
  ∧ (∀ (lv : Nat) (l : LX) (st : List Value) (x y : Int32) (w : AH), Ex M_L_law lv 407 l (.int y :: .int x :: st) w = Ex M_L_law lv 408 l (.int (x + y) :: st) w)
  ∧ (∀ (lv : Nat) (l : LX) (st : List Value) (a : Nat) (i : Int32) (w : AH), Ex M_L_law lv 408 l (.int i :: .ref a :: st) w = if (aI (hg w a) i).isSome = true then Ex M_L_law lv 409 l (.int (vI (aI (hg w a) i)) :: st) w else none)
  ∧ (∀ (lv : Nat) (st : List Value) (t : LX) (x : Nat) (w : AH), Ex M_L_law lv 409 (some (.ref x) :: t) st w = Ex M_L_law lv 410 (some (.ref x) :: t) (.ref x :: st) w)
  ∧ (∀ (lv : Nat) (st : List Value) (t : LX) (w : AH), Ex M_L_law lv 409 (some (.null) :: t) st w = Ex M_L_law lv 410 (some (.null) :: t) (.null :: st) w)
  ∧ (∀ (lv : Nat) (st : List Value) (t : LX) (o0 o1 o2 : Option Value) (x : Int32) (w : AH), Ex M_L_law lv 410 (o0 :: o1 :: o2 :: some (.int x) :: t) st w = Ex M_L_law lv 411 (o0 :: o1 :: o2 :: some (.int x) :: t) (.int x :: st) w)
  ∧ (∀ (lv : Nat) (l : LX) (st : List Value) (w : AH), Ex M_L_law lv 411 l st w = Ex M_L_law lv 412 l (.int 2 :: st) w)
  ∧ (∀ (lv : Nat) (l : LX) (st : List Value) (x y : Int32) (w : AH), Ex M_L_law lv 412 l (.int y :: .int x :: st) w = Ex M_L_law lv 413 l (.int (x + y) :: st) w)
  ∧ (∀ (lv : Nat) (l : LX) (st : List Value) (a : Nat) (i : Int32) (w : AH), Ex M_L_law lv 413 l (.int i :: .ref a :: st) w = if (aI (hg w a) i).isSome = true then Ex M_L_law lv 414 l (.int (vI (aI (hg w a) i)) :: st) w else none)
  ∧ (∀ (lv : Nat) (st : List Value) (t : LX) (x : Nat) (w : AH), Ex M_L_law lv 414 (some (.ref x) :: t) st w = Ex M_L_law lv 415 (some (.ref x) :: t) (.ref x :: st) w)
  ∧ (∀ (lv : Nat) (st : List Value) (t : LX) (w : AH), Ex M_L_law lv 414 (some (.null) :: t) st w = Ex M_L_law lv 415 (some (.null) :: t) (.null :: st) w)
  ∧ (∀ (lv : Nat) (st : List Value) (t : LX) (o0 o1 o2 : Option Value) (x : Int32) (w : AH), Ex M_L_law lv 415 (o0 :: o1 :: o2 :: some (.int x) :: t) st w = Ex M_L_law lv 416 (o0 :: o1 :: o2 :: some (.int x) :: t) (.int x :: st) w)
  ∧ (∀ (lv : Nat) (l : LX) (st : List Value) (w : AH), Ex M_L_law lv 416 l st w = Ex M_L_law lv 417 l (.int 3 :: st) w)
  ∧ (∀ (lv : Nat) (l : LX) (st : List Value) (x y : Int32) (w : AH), Ex M_L_law lv 417 l (.int y :: .int x :: st) w = Ex M_L_law lv 418 l (.int (x + y) :: st) w)
  ∧ (∀ (lv : Nat) (l : LX) (st : List Value) (a : Nat) (i : Int32) (w : AH), Ex M_L_law lv 418 l (.int i :: .ref a :: st) w = if (aI (hg w a) i).isSome = true then Ex M_L_law lv 419 l (.int (vI (aI (hg w a) i)) :: st) w else none)
  ∧ (∀ (lv : Nat) (l : LX) (b : Nat) (a0 : Int32) (a1 : Int32) (a2 : Int32) (s0 : Int32) (w : AH), Ex M_L_law lv 419 l (.int a2 :: .int a1 :: .int a0 :: .ref b :: [.int s0]) w = if clK (hg w b) = 11 then (if (Call M_X12_put 60 [.ref b, .int a0, .int a1, .int a2] w).isSome = true then Ex M_L_law lv 422 l (pushR (cV (Call M_X12_put 60 [.ref b, .int a0, .int a1, .int a2] w)) [.int s0]) (cW (Call M_X12_put 60 [.ref b, .int a0, .int a1, .int a2] w) w) else none) else none)
  ∧ (∀ (lv : Nat) (l : LX) (st : List Value) (x y : Int32) (w : AH), Ex M_L_law lv 422 l (.int y :: .int x :: st) w = if x = y then Ex M_L_law lv 1472 l st w else Ex M_L_law lv 425 l st w)
  ∧ (∀ (lv : Nat) (l : LX) (st : List Value) (w : AH), Ex M_L_law lv 425 l st w = Ex M_L_law lv 426 l (.int 0 :: st) w)
  ∧ (∀ (lv : Nat) (l : LX) (x : Int32) (w : AH), Ex M_L_law lv 426 l [.int x] w = if x = 0 ∨ x = 1 then some (some (.int x), w) else none)
  ∧ (∀ (lv : Nat) (st : List Value) (t : LX) (o0 : Option Value) (x : Nat) (w : AH), Ex M_L_law lv 427 (o0 :: some (.ref x) :: t) st w = Ex M_L_law lv 428 (o0 :: some (.ref x) :: t) (.ref x :: st) w)
  ∧ (∀ (lv : Nat) (st : List Value) (t : LX) (o0 : Option Value) (w : AH), Ex M_L_law lv 427 (o0 :: some (.null) :: t) st w = Ex M_L_law lv 428 (o0 :: some (.null) :: t) (.null :: st) w)
  ∧ (∀ (lv : Nat) (st : List Value) (t : LX) (x : Nat) (w : AH), Ex M_L_law lv 428 (some (.ref x) :: t) st w = Ex M_L_law lv 429 (some (.ref x) :: t) (.ref x :: st) w)
  ∧ (∀ (lv : Nat) (st : List Value) (t : LX) (w : AH), Ex M_L_law lv 428 (some (.null) :: t) st w = Ex M_L_law lv 429 (some (.null) :: t) (.null :: st) w)
  ∧ (∀ (lv : Nat) (st : List Value) (t : LX) (o0 o1 o2 : Option Value) (x : Int32) (w : AH), Ex M_L_law lv 429 (o0 :: o1 :: o2 :: some (.int x) :: t) st w = Ex M_L_law lv 430 (o0 :: o1 :: o2 :: some (.int x) :: t) (.int x :: st) w)
  ∧ (∀ (lv : Nat) (l : LX) (st : List Value) (w : AH), Ex M_L_law lv 430 l st w = Ex M_L_law lv 431 l (.int 1 :: st) w)
  ∧ (∀ (lv : Nat) (l : LX) (st : List Value) (x y : Int32) (w : AH), Ex M_L_law lv 431 l (.int y :: .int x :: st) w = Ex M_L_law lv 432 l (.int (x + y) :: st) w)
  ∧ (∀ (lv : Nat) (l : LX) (st : List Value) (a : Nat) (i : Int32) (w : AH), Ex M_L_law lv 432 l (.int i :: .ref a :: st) w = if (aI (hg w a) i).isSome = true then Ex M_L_law lv 433 l (.int (vI (aI (hg w a) i)) :: st) w else none) :=
  ⟨(fun lv l st w => Ex_A (i := .iconst 2) (n := 1) (by decide +kernel) rfl rfl),
   (fun lv l st x y w => Ex_A (i := .iadd) (n := 1) (by decide +kernel) rfl rfl),
   (fun lv l st a i w => Ex_ial (by decide +kernel : decode M_L_law.2.1 375 = .ok (.iaload, 1)) rfl),
   (fun lv l b a0 a1 s0 w => Ex_callV (by decide +kernel : decode M_L_law.2.1 376 = .ok (.invokevirtual 39, 3)) rfl (by rfl : resM (mCn M_L_law) 39 = some (2, M_X12_ofWalker)) rfl (by rfl) (Nat.le_of_ble_eq_true rfl) (by decide +kernel) (sLv_lt (by decide +kernel))),
   (fun lv l st x y w => Ex_icmp_eq (by decide +kernel : decode M_L_law.2.1 379 = .ok (.if_icmp .eq 1093, 3)) rfl rfl),
   (fun lv l st w => Ex_A (i := .iconst 0) (n := 1) (by decide +kernel) rfl rfl),
   (fun lv l x w => Ex_zret (by decide +kernel : decode M_L_law.2.1 383 = .ok (.ireturn, 1)) rfl),
   (fun lv st t o0 x w => Ex_M (i := .aload_n 1) (n := 1) (by decide +kernel) rfl rfl rfl),
   (fun lv st t o0 w => Ex_M (i := .aload_n 1) (n := 1) (by decide +kernel) rfl rfl rfl),
   (fun lv st t x w => Ex_M (i := .aload_n 0) (n := 1) (by decide +kernel) rfl rfl rfl),
   (fun lv st t w => Ex_M (i := .aload_n 0) (n := 1) (by decide +kernel) rfl rfl rfl),
   (fun lv st t o0 o1 o2 x w => Ex_M (i := .iload_n 3) (n := 1) (by decide +kernel) rfl rfl rfl),
   (fun lv l st w => Ex_A (i := .iconst 1) (n := 1) (by decide +kernel) rfl rfl),
   (fun lv l st x y w => Ex_A (i := .iadd) (n := 1) (by decide +kernel) rfl rfl),
   (fun lv l st a i w => Ex_ial (by decide +kernel : decode M_L_law.2.1 389 = .ok (.iaload, 1)) rfl),
   (fun lv st t x w => Ex_M (i := .aload_n 0) (n := 1) (by decide +kernel) rfl rfl rfl),
   (fun lv st t w => Ex_M (i := .aload_n 0) (n := 1) (by decide +kernel) rfl rfl rfl),
   (fun lv st t o0 o1 o2 x w => Ex_M (i := .iload_n 3) (n := 1) (by decide +kernel) rfl rfl rfl),
   (fun lv l st w => Ex_A (i := .iconst 2) (n := 1) (by decide +kernel) rfl rfl),
   (fun lv l st x y w => Ex_A (i := .iadd) (n := 1) (by decide +kernel) rfl rfl),
   (fun lv l st a i w => Ex_ial (by decide +kernel : decode M_L_law.2.1 394 = .ok (.iaload, 1)) rfl),
   (fun lv st t x w => Ex_M (i := .aload_n 0) (n := 1) (by decide +kernel) rfl rfl rfl),
   (fun lv st t w => Ex_M (i := .aload_n 0) (n := 1) (by decide +kernel) rfl rfl rfl),
   (fun lv st t o0 o1 o2 x w => Ex_M (i := .iload_n 3) (n := 1) (by decide +kernel) rfl rfl rfl),
   (fun lv l st w => Ex_A (i := .iconst 3) (n := 1) (by decide +kernel) rfl rfl),
   (fun lv l st x y w => Ex_A (i := .iadd) (n := 1) (by decide +kernel) rfl rfl),
   (fun lv l st a i w => Ex_ial (by decide +kernel : decode M_L_law.2.1 399 = .ok (.iaload, 1)) rfl),
   (fun lv l b a0 a1 a2 w => Ex_callV (by decide +kernel : decode M_L_law.2.1 400 = .ok (.invokevirtual 40, 3)) rfl (by rfl : resM (mCn M_L_law) 40 = some (2, M_X11_put)) rfl (by rfl) (Nat.le_of_ble_eq_true rfl) (by decide +kernel) (sLv_lt (by decide +kernel))),
   (fun lv st t o0 o1 x w => Ex_M (i := .aload_n 2) (n := 1) (by decide +kernel) rfl rfl rfl),
   (fun lv st t o0 o1 w => Ex_M (i := .aload_n 2) (n := 1) (by decide +kernel) rfl rfl rfl),
   (fun lv st t x w => Ex_M (i := .aload_n 0) (n := 1) (by decide +kernel) rfl rfl rfl),
   (fun lv st t w => Ex_M (i := .aload_n 0) (n := 1) (by decide +kernel) rfl rfl rfl),
   (fun lv st t o0 o1 o2 x w => Ex_M (i := .iload_n 3) (n := 1) (by decide +kernel) rfl rfl rfl),
   (fun lv l st w => Ex_A (i := .iconst 1) (n := 1) (by decide +kernel) rfl rfl),
   (fun lv l st x y w => Ex_A (i := .iadd) (n := 1) (by decide +kernel) rfl rfl),
   (fun lv l st a i w => Ex_ial (by decide +kernel : decode M_L_law.2.1 408 = .ok (.iaload, 1)) rfl),
   (fun lv st t x w => Ex_M (i := .aload_n 0) (n := 1) (by decide +kernel) rfl rfl rfl),
   (fun lv st t w => Ex_M (i := .aload_n 0) (n := 1) (by decide +kernel) rfl rfl rfl),
   (fun lv st t o0 o1 o2 x w => Ex_M (i := .iload_n 3) (n := 1) (by decide +kernel) rfl rfl rfl),
   (fun lv l st w => Ex_A (i := .iconst 2) (n := 1) (by decide +kernel) rfl rfl),
   (fun lv l st x y w => Ex_A (i := .iadd) (n := 1) (by decide +kernel) rfl rfl),
   (fun lv l st a i w => Ex_ial (by decide +kernel : decode M_L_law.2.1 413 = .ok (.iaload, 1)) rfl),
   (fun lv st t x w => Ex_M (i := .aload_n 0) (n := 1) (by decide +kernel) rfl rfl rfl),
   (fun lv st t w => Ex_M (i := .aload_n 0) (n := 1) (by decide +kernel) rfl rfl rfl),
   (fun lv st t o0 o1 o2 x w => Ex_M (i := .iload_n 3) (n := 1) (by decide +kernel) rfl rfl rfl),
   (fun lv l st w => Ex_A (i := .iconst 3) (n := 1) (by decide +kernel) rfl rfl),
   (fun lv l st x y w => Ex_A (i := .iadd) (n := 1) (by decide +kernel) rfl rfl),
   (fun lv l st a i w => Ex_ial (by decide +kernel : decode M_L_law.2.1 418 = .ok (.iaload, 1)) rfl),
   (fun lv l b a0 a1 a2 s0 w => Ex_callV (by decide +kernel : decode M_L_law.2.1 419 = .ok (.invokevirtual 43, 3)) rfl (by rfl : resM (mCn M_L_law) 43 = some (2, M_X12_put)) rfl (by rfl) (Nat.le_of_ble_eq_true rfl) (by decide +kernel) (sLv_lt (by decide +kernel))),
   (fun lv l st x y w => Ex_icmp_eq (by decide +kernel : decode M_L_law.2.1 422 = .ok (.if_icmp .eq 1050, 3)) rfl rfl),
   (fun lv l st w => Ex_A (i := .iconst 0) (n := 1) (by decide +kernel) rfl rfl),
   (fun lv l x w => Ex_zret (by decide +kernel : decode M_L_law.2.1 426 = .ok (.ireturn, 1)) rfl),
   (fun lv st t o0 x w => Ex_M (i := .aload_n 1) (n := 1) (by decide +kernel) rfl rfl rfl),
   (fun lv st t o0 w => Ex_M (i := .aload_n 1) (n := 1) (by decide +kernel) rfl rfl rfl),
   (fun lv st t x w => Ex_M (i := .aload_n 0) (n := 1) (by decide +kernel) rfl rfl rfl),
   (fun lv st t w => Ex_M (i := .aload_n 0) (n := 1) (by decide +kernel) rfl rfl rfl),
   (fun lv st t o0 o1 o2 x w => Ex_M (i := .iload_n 3) (n := 1) (by decide +kernel) rfl rfl rfl),
   (fun lv l st w => Ex_A (i := .iconst 1) (n := 1) (by decide +kernel) rfl rfl),
   (fun lv l st x y w => Ex_A (i := .iadd) (n := 1) (by decide +kernel) rfl rfl),
   (fun lv l st a i w => Ex_ial (by decide +kernel : decode M_L_law.2.1 432 = .ok (.iaload, 1)) rfl)⟩
set_option maxRecDepth 20000 in
set_option maxHeartbeats 4000000 in
theorem R_L_law_p4 : (∀ (lv : Nat) (st : List Value) (t : LX) (x : Nat) (w : AH), Ex M_L_law lv 433 (some (.ref x) :: t) st w = Ex M_L_law lv 434 (some (.ref x) :: t) (.ref x :: st) w)
  ∧ (∀ (lv : Nat) (st : List Value) (t : LX) (w : AH), Ex M_L_law lv 433 (some (.null) :: t) st w = Ex M_L_law lv 434 (some (.null) :: t) (.null :: st) w)
  ∧ (∀ (lv : Nat) (st : List Value) (t : LX) (o0 o1 o2 : Option Value) (x : Int32) (w : AH), Ex M_L_law lv 434 (o0 :: o1 :: o2 :: some (.int x) :: t) st w = Ex M_L_law lv 435 (o0 :: o1 :: o2 :: some (.int x) :: t) (.int x :: st) w)
  ∧ (∀ (lv : Nat) (l : LX) (st : List Value) (w : AH), Ex M_L_law lv 435 l st w = Ex M_L_law lv 436 l (.int 2 :: st) w)
  ∧ (∀ (lv : Nat) (l : LX) (st : List Value) (x y : Int32) (w : AH), Ex M_L_law lv 436 l (.int y :: .int x :: st) w = Ex M_L_law lv 437 l (.int (x + y) :: st) w)
  ∧ (∀ (lv : Nat) (l : LX) (st : List Value) (a : Nat) (i : Int32) (w : AH), Ex M_L_law lv 437 l (.int i :: .ref a :: st) w = if (aI (hg w a) i).isSome = true then Ex M_L_law lv 438 l (.int (vI (aI (hg w a) i)) :: st) w else none)
  ∧ (∀ (lv : Nat) (l : LX) (b : Nat) (a0 : Int32) (a1 : Int32) (w : AH), Ex M_L_law lv 438 l (.int a1 :: .int a0 :: .ref b :: []) w = if clK (hg w b) = 10 then (if (Call M_X11_become 60 [.ref b, .int a0, .int a1] w).isSome = true then Ex M_L_law lv 441 l (pushR (cV (Call M_X11_become 60 [.ref b, .int a0, .int a1] w)) []) (cW (Call M_X11_become 60 [.ref b, .int a0, .int a1] w) w) else none) else none)
  ∧ (∀ (lv : Nat) (st : List Value) (t : LX) (o0 o1 : Option Value) (x : Nat) (w : AH), Ex M_L_law lv 441 (o0 :: o1 :: some (.ref x) :: t) st w = Ex M_L_law lv 442 (o0 :: o1 :: some (.ref x) :: t) (.ref x :: st) w)
  ∧ (∀ (lv : Nat) (st : List Value) (t : LX) (o0 o1 : Option Value) (w : AH), Ex M_L_law lv 441 (o0 :: o1 :: some (.null) :: t) st w = Ex M_L_law lv 442 (o0 :: o1 :: some (.null) :: t) (.null :: st) w)
  ∧ (∀ (lv : Nat) (st : List Value) (t : LX) (x : Nat) (w : AH), Ex M_L_law lv 442 (some (.ref x) :: t) st w = Ex M_L_law lv 443 (some (.ref x) :: t) (.ref x :: st) w)
  ∧ (∀ (lv : Nat) (st : List Value) (t : LX) (w : AH), Ex M_L_law lv 442 (some (.null) :: t) st w = Ex M_L_law lv 443 (some (.null) :: t) (.null :: st) w)
  ∧ (∀ (lv : Nat) (st : List Value) (t : LX) (o0 o1 o2 : Option Value) (x : Int32) (w : AH), Ex M_L_law lv 443 (o0 :: o1 :: o2 :: some (.int x) :: t) st w = Ex M_L_law lv 444 (o0 :: o1 :: o2 :: some (.int x) :: t) (.int x :: st) w)
  ∧ (∀ (lv : Nat) (l : LX) (st : List Value) (w : AH), Ex M_L_law lv 444 l st w = Ex M_L_law lv 445 l (.int 1 :: st) w)
  ∧ (∀ (lv : Nat) (l : LX) (st : List Value) (x y : Int32) (w : AH), Ex M_L_law lv 445 l (.int y :: .int x :: st) w = Ex M_L_law lv 446 l (.int (x + y) :: st) w)
  ∧ (∀ (lv : Nat) (l : LX) (st : List Value) (a : Nat) (i : Int32) (w : AH), Ex M_L_law lv 446 l (.int i :: .ref a :: st) w = if (aI (hg w a) i).isSome = true then Ex M_L_law lv 447 l (.int (vI (aI (hg w a) i)) :: st) w else none)
  ∧ (∀ (lv : Nat) (st : List Value) (t : LX) (x : Nat) (w : AH), Ex M_L_law lv 447 (some (.ref x) :: t) st w = Ex M_L_law lv 448 (some (.ref x) :: t) (.ref x :: st) w)
  ∧ (∀ (lv : Nat) (st : List Value) (t : LX) (w : AH), Ex M_L_law lv 447 (some (.null) :: t) st w = Ex M_L_law lv 448 (some (.null) :: t) (.null :: st) w)
  ∧ (∀ (lv : Nat) (st : List Value) (t : LX) (o0 o1 o2 : Option Value) (x : Int32) (w : AH), Ex M_L_law lv 448 (o0 :: o1 :: o2 :: some (.int x) :: t) st w = Ex M_L_law lv 449 (o0 :: o1 :: o2 :: some (.int x) :: t) (.int x :: st) w)
  ∧ (∀ (lv : Nat) (l : LX) (st : List Value) (w : AH), Ex M_L_law lv 449 l st w = Ex M_L_law lv 450 l (.int 2 :: st) w)
  ∧ (∀ (lv : Nat) (l : LX) (st : List Value) (x y : Int32) (w : AH), Ex M_L_law lv 450 l (.int y :: .int x :: st) w = Ex M_L_law lv 451 l (.int (x + y) :: st) w)
  ∧ (∀ (lv : Nat) (l : LX) (st : List Value) (a : Nat) (i : Int32) (w : AH), Ex M_L_law lv 451 l (.int i :: .ref a :: st) w = if (aI (hg w a) i).isSome = true then Ex M_L_law lv 452 l (.int (vI (aI (hg w a) i)) :: st) w else none)
  ∧ (∀ (lv : Nat) (l : LX) (b : Nat) (a0 : Int32) (a1 : Int32) (s0 : Int32) (w : AH), Ex M_L_law lv 452 l (.int a1 :: .int a0 :: .ref b :: [.int s0]) w = if clK (hg w b) = 11 then (if (Call M_X12_become 60 [.ref b, .int a0, .int a1] w).isSome = true then Ex M_L_law lv 455 l (pushR (cV (Call M_X12_become 60 [.ref b, .int a0, .int a1] w)) [.int s0]) (cW (Call M_X12_become 60 [.ref b, .int a0, .int a1] w) w) else none) else none)
  ∧ (∀ (lv : Nat) (l : LX) (st : List Value) (x y : Int32) (w : AH), Ex M_L_law lv 455 l (.int y :: .int x :: st) w = if x = y then Ex M_L_law lv 1472 l st w else Ex M_L_law lv 458 l st w)
  ∧ (∀ (lv : Nat) (l : LX) (st : List Value) (w : AH), Ex M_L_law lv 458 l st w = Ex M_L_law lv 459 l (.int 0 :: st) w)
  ∧ (∀ (lv : Nat) (l : LX) (x : Int32) (w : AH), Ex M_L_law lv 459 l [.int x] w = if x = 0 ∨ x = 1 then some (some (.int x), w) else none)
  ∧ (∀ (lv : Nat) (st : List Value) (t : LX) (o0 : Option Value) (x : Nat) (w : AH), Ex M_L_law lv 460 (o0 :: some (.ref x) :: t) st w = Ex M_L_law lv 461 (o0 :: some (.ref x) :: t) (.ref x :: st) w)
  ∧ (∀ (lv : Nat) (st : List Value) (t : LX) (o0 : Option Value) (w : AH), Ex M_L_law lv 460 (o0 :: some (.null) :: t) st w = Ex M_L_law lv 461 (o0 :: some (.null) :: t) (.null :: st) w)
  ∧ (∀ (lv : Nat) (st : List Value) (t : LX) (x : Nat) (w : AH), Ex M_L_law lv 461 (some (.ref x) :: t) st w = Ex M_L_law lv 462 (some (.ref x) :: t) (.ref x :: st) w)
  ∧ (∀ (lv : Nat) (st : List Value) (t : LX) (w : AH), Ex M_L_law lv 461 (some (.null) :: t) st w = Ex M_L_law lv 462 (some (.null) :: t) (.null :: st) w)
  ∧ (∀ (lv : Nat) (st : List Value) (t : LX) (o0 o1 o2 : Option Value) (x : Int32) (w : AH), Ex M_L_law lv 462 (o0 :: o1 :: o2 :: some (.int x) :: t) st w = Ex M_L_law lv 463 (o0 :: o1 :: o2 :: some (.int x) :: t) (.int x :: st) w)
  ∧ (∀ (lv : Nat) (l : LX) (st : List Value) (w : AH), Ex M_L_law lv 463 l st w = Ex M_L_law lv 464 l (.int 1 :: st) w)
  ∧ (∀ (lv : Nat) (l : LX) (st : List Value) (x y : Int32) (w : AH), Ex M_L_law lv 464 l (.int y :: .int x :: st) w = Ex M_L_law lv 465 l (.int (x + y) :: st) w)
  ∧ (∀ (lv : Nat) (l : LX) (st : List Value) (a : Nat) (i : Int32) (w : AH), Ex M_L_law lv 465 l (.int i :: .ref a :: st) w = if (aI (hg w a) i).isSome = true then Ex M_L_law lv 466 l (.int (vI (aI (hg w a) i)) :: st) w else none)
  ∧ (∀ (lv : Nat) (st : List Value) (t : LX) (x : Nat) (w : AH), Ex M_L_law lv 466 (some (.ref x) :: t) st w = Ex M_L_law lv 467 (some (.ref x) :: t) (.ref x :: st) w)
  ∧ (∀ (lv : Nat) (st : List Value) (t : LX) (w : AH), Ex M_L_law lv 466 (some (.null) :: t) st w = Ex M_L_law lv 467 (some (.null) :: t) (.null :: st) w)
  ∧ (∀ (lv : Nat) (st : List Value) (t : LX) (o0 o1 o2 : Option Value) (x : Int32) (w : AH), Ex M_L_law lv 467 (o0 :: o1 :: o2 :: some (.int x) :: t) st w = Ex M_L_law lv 468 (o0 :: o1 :: o2 :: some (.int x) :: t) (.int x :: st) w)
  ∧ (∀ (lv : Nat) (l : LX) (st : List Value) (w : AH), Ex M_L_law lv 468 l st w = Ex M_L_law lv 469 l (.int 2 :: st) w)
  ∧ (∀ (lv : Nat) (l : LX) (st : List Value) (x y : Int32) (w : AH), Ex M_L_law lv 469 l (.int y :: .int x :: st) w = Ex M_L_law lv 470 l (.int (x + y) :: st) w)
  ∧ (∀ (lv : Nat) (l : LX) (st : List Value) (a : Nat) (i : Int32) (w : AH), Ex M_L_law lv 470 l (.int i :: .ref a :: st) w = if (aI (hg w a) i).isSome = true then Ex M_L_law lv 471 l (.int (vI (aI (hg w a) i)) :: st) w else none)
  ∧ (∀ (lv : Nat) (l : LX) (b : Nat) (a0 : Int32) (a1 : Int32) (w : AH), Ex M_L_law lv 471 l (.int a1 :: .int a0 :: .ref b :: []) w = if clK (hg w b) = 10 then (if (Call M_X11_as 60 [.ref b, .int a0, .int a1] w).isSome = true then Ex M_L_law lv 474 l (pushR (cV (Call M_X11_as 60 [.ref b, .int a0, .int a1] w)) []) (cW (Call M_X11_as 60 [.ref b, .int a0, .int a1] w) w) else none) else none)
  ∧ (∀ (lv : Nat) (st : List Value) (t : LX) (o0 o1 : Option Value) (x : Nat) (w : AH), Ex M_L_law lv 474 (o0 :: o1 :: some (.ref x) :: t) st w = Ex M_L_law lv 475 (o0 :: o1 :: some (.ref x) :: t) (.ref x :: st) w)
  ∧ (∀ (lv : Nat) (st : List Value) (t : LX) (o0 o1 : Option Value) (w : AH), Ex M_L_law lv 474 (o0 :: o1 :: some (.null) :: t) st w = Ex M_L_law lv 475 (o0 :: o1 :: some (.null) :: t) (.null :: st) w)
  ∧ (∀ (lv : Nat) (st : List Value) (t : LX) (x : Nat) (w : AH), Ex M_L_law lv 475 (some (.ref x) :: t) st w = Ex M_L_law lv 476 (some (.ref x) :: t) (.ref x :: st) w)
  ∧ (∀ (lv : Nat) (st : List Value) (t : LX) (w : AH), Ex M_L_law lv 475 (some (.null) :: t) st w = Ex M_L_law lv 476 (some (.null) :: t) (.null :: st) w)
  ∧ (∀ (lv : Nat) (st : List Value) (t : LX) (o0 o1 o2 : Option Value) (x : Int32) (w : AH), Ex M_L_law lv 476 (o0 :: o1 :: o2 :: some (.int x) :: t) st w = Ex M_L_law lv 477 (o0 :: o1 :: o2 :: some (.int x) :: t) (.int x :: st) w)
  ∧ (∀ (lv : Nat) (l : LX) (st : List Value) (w : AH), Ex M_L_law lv 477 l st w = Ex M_L_law lv 478 l (.int 1 :: st) w)
  ∧ (∀ (lv : Nat) (l : LX) (st : List Value) (x y : Int32) (w : AH), Ex M_L_law lv 478 l (.int y :: .int x :: st) w = Ex M_L_law lv 479 l (.int (x + y) :: st) w)
  ∧ (∀ (lv : Nat) (l : LX) (st : List Value) (a : Nat) (i : Int32) (w : AH), Ex M_L_law lv 479 l (.int i :: .ref a :: st) w = if (aI (hg w a) i).isSome = true then Ex M_L_law lv 480 l (.int (vI (aI (hg w a) i)) :: st) w else none)
  ∧ (∀ (lv : Nat) (st : List Value) (t : LX) (x : Nat) (w : AH), Ex M_L_law lv 480 (some (.ref x) :: t) st w = Ex M_L_law lv 481 (some (.ref x) :: t) (.ref x :: st) w)
  ∧ (∀ (lv : Nat) (st : List Value) (t : LX) (w : AH), Ex M_L_law lv 480 (some (.null) :: t) st w = Ex M_L_law lv 481 (some (.null) :: t) (.null :: st) w)
  ∧ (∀ (lv : Nat) (st : List Value) (t : LX) (o0 o1 o2 : Option Value) (x : Int32) (w : AH), Ex M_L_law lv 481 (o0 :: o1 :: o2 :: some (.int x) :: t) st w = Ex M_L_law lv 482 (o0 :: o1 :: o2 :: some (.int x) :: t) (.int x :: st) w)
  ∧ (∀ (lv : Nat) (l : LX) (st : List Value) (w : AH), Ex M_L_law lv 482 l st w = Ex M_L_law lv 483 l (.int 2 :: st) w)
  ∧ (∀ (lv : Nat) (l : LX) (st : List Value) (x y : Int32) (w : AH), Ex M_L_law lv 483 l (.int y :: .int x :: st) w = Ex M_L_law lv 484 l (.int (x + y) :: st) w)
  ∧ (∀ (lv : Nat) (l : LX) (st : List Value) (a : Nat) (i : Int32) (w : AH), Ex M_L_law lv 484 l (.int i :: .ref a :: st) w = if (aI (hg w a) i).isSome = true then Ex M_L_law lv 485 l (.int (vI (aI (hg w a) i)) :: st) w else none)
  ∧ (∀ (lv : Nat) (l : LX) (b : Nat) (a0 : Int32) (a1 : Int32) (s0 : Int32) (w : AH), Ex M_L_law lv 485 l (.int a1 :: .int a0 :: .ref b :: [.int s0]) w = if clK (hg w b) = 11 then (if (Call M_X12_as 60 [.ref b, .int a0, .int a1] w).isSome = true then Ex M_L_law lv 488 l (pushR (cV (Call M_X12_as 60 [.ref b, .int a0, .int a1] w)) [.int s0]) (cW (Call M_X12_as 60 [.ref b, .int a0, .int a1] w) w) else none) else none)
  ∧ (∀ (lv : Nat) (l : LX) (st : List Value) (x y : Int32) (w : AH), Ex M_L_law lv 488 l (.int y :: .int x :: st) w = if x = y then Ex M_L_law lv 1472 l st w else Ex M_L_law lv 491 l st w)
  ∧ (∀ (lv : Nat) (l : LX) (st : List Value) (w : AH), Ex M_L_law lv 491 l st w = Ex M_L_law lv 492 l (.int 0 :: st) w)
  ∧ (∀ (lv : Nat) (l : LX) (x : Int32) (w : AH), Ex M_L_law lv 492 l [.int x] w = if x = 0 ∨ x = 1 then some (some (.int x), w) else none)
  ∧ (∀ (lv : Nat) (st : List Value) (t : LX) (o0 : Option Value) (x : Nat) (w : AH), Ex M_L_law lv 493 (o0 :: some (.ref x) :: t) st w = Ex M_L_law lv 494 (o0 :: some (.ref x) :: t) (.ref x :: st) w)
  ∧ (∀ (lv : Nat) (st : List Value) (t : LX) (o0 : Option Value) (w : AH), Ex M_L_law lv 493 (o0 :: some (.null) :: t) st w = Ex M_L_law lv 494 (o0 :: some (.null) :: t) (.null :: st) w) :=
  ⟨(fun lv st t x w => Ex_M (i := .aload_n 0) (n := 1) (by decide +kernel) rfl rfl rfl),
   (fun lv st t w => Ex_M (i := .aload_n 0) (n := 1) (by decide +kernel) rfl rfl rfl),
   (fun lv st t o0 o1 o2 x w => Ex_M (i := .iload_n 3) (n := 1) (by decide +kernel) rfl rfl rfl),
   (fun lv l st w => Ex_A (i := .iconst 2) (n := 1) (by decide +kernel) rfl rfl),
   (fun lv l st x y w => Ex_A (i := .iadd) (n := 1) (by decide +kernel) rfl rfl),
   (fun lv l st a i w => Ex_ial (by decide +kernel : decode M_L_law.2.1 437 = .ok (.iaload, 1)) rfl),
   (fun lv l b a0 a1 w => Ex_callV (by decide +kernel : decode M_L_law.2.1 438 = .ok (.invokevirtual 44, 3)) rfl (by rfl : resM (mCn M_L_law) 44 = some (2, M_X11_become)) rfl (by rfl) (Nat.le_of_ble_eq_true rfl) (by decide +kernel) (sLv_lt (by decide +kernel))),
   (fun lv st t o0 o1 x w => Ex_M (i := .aload_n 2) (n := 1) (by decide +kernel) rfl rfl rfl),
   (fun lv st t o0 o1 w => Ex_M (i := .aload_n 2) (n := 1) (by decide +kernel) rfl rfl rfl),
   (fun lv st t x w => Ex_M (i := .aload_n 0) (n := 1) (by decide +kernel) rfl rfl rfl),
   (fun lv st t w => Ex_M (i := .aload_n 0) (n := 1) (by decide +kernel) rfl rfl rfl),
   (fun lv st t o0 o1 o2 x w => Ex_M (i := .iload_n 3) (n := 1) (by decide +kernel) rfl rfl rfl),
   (fun lv l st w => Ex_A (i := .iconst 1) (n := 1) (by decide +kernel) rfl rfl),
   (fun lv l st x y w => Ex_A (i := .iadd) (n := 1) (by decide +kernel) rfl rfl),
   (fun lv l st a i w => Ex_ial (by decide +kernel : decode M_L_law.2.1 446 = .ok (.iaload, 1)) rfl),
   (fun lv st t x w => Ex_M (i := .aload_n 0) (n := 1) (by decide +kernel) rfl rfl rfl),
   (fun lv st t w => Ex_M (i := .aload_n 0) (n := 1) (by decide +kernel) rfl rfl rfl),
   (fun lv st t o0 o1 o2 x w => Ex_M (i := .iload_n 3) (n := 1) (by decide +kernel) rfl rfl rfl),
   (fun lv l st w => Ex_A (i := .iconst 2) (n := 1) (by decide +kernel) rfl rfl),
   (fun lv l st x y w => Ex_A (i := .iadd) (n := 1) (by decide +kernel) rfl rfl),
   (fun lv l st a i w => Ex_ial (by decide +kernel : decode M_L_law.2.1 451 = .ok (.iaload, 1)) rfl),
   (fun lv l b a0 a1 s0 w => Ex_callV (by decide +kernel : decode M_L_law.2.1 452 = .ok (.invokevirtual 47, 3)) rfl (by rfl : resM (mCn M_L_law) 47 = some (2, M_X12_become)) rfl (by rfl) (Nat.le_of_ble_eq_true rfl) (by decide +kernel) (sLv_lt (by decide +kernel))),
   (fun lv l st x y w => Ex_icmp_eq (by decide +kernel : decode M_L_law.2.1 455 = .ok (.if_icmp .eq 1017, 3)) rfl rfl),
   (fun lv l st w => Ex_A (i := .iconst 0) (n := 1) (by decide +kernel) rfl rfl),
   (fun lv l x w => Ex_zret (by decide +kernel : decode M_L_law.2.1 459 = .ok (.ireturn, 1)) rfl),
   (fun lv st t o0 x w => Ex_M (i := .aload_n 1) (n := 1) (by decide +kernel) rfl rfl rfl),
   (fun lv st t o0 w => Ex_M (i := .aload_n 1) (n := 1) (by decide +kernel) rfl rfl rfl),
   (fun lv st t x w => Ex_M (i := .aload_n 0) (n := 1) (by decide +kernel) rfl rfl rfl),
   (fun lv st t w => Ex_M (i := .aload_n 0) (n := 1) (by decide +kernel) rfl rfl rfl),
   (fun lv st t o0 o1 o2 x w => Ex_M (i := .iload_n 3) (n := 1) (by decide +kernel) rfl rfl rfl),
   (fun lv l st w => Ex_A (i := .iconst 1) (n := 1) (by decide +kernel) rfl rfl),
   (fun lv l st x y w => Ex_A (i := .iadd) (n := 1) (by decide +kernel) rfl rfl),
   (fun lv l st a i w => Ex_ial (by decide +kernel : decode M_L_law.2.1 465 = .ok (.iaload, 1)) rfl),
   (fun lv st t x w => Ex_M (i := .aload_n 0) (n := 1) (by decide +kernel) rfl rfl rfl),
   (fun lv st t w => Ex_M (i := .aload_n 0) (n := 1) (by decide +kernel) rfl rfl rfl),
   (fun lv st t o0 o1 o2 x w => Ex_M (i := .iload_n 3) (n := 1) (by decide +kernel) rfl rfl rfl),
   (fun lv l st w => Ex_A (i := .iconst 2) (n := 1) (by decide +kernel) rfl rfl),
   (fun lv l st x y w => Ex_A (i := .iadd) (n := 1) (by decide +kernel) rfl rfl),
   (fun lv l st a i w => Ex_ial (by decide +kernel : decode M_L_law.2.1 470 = .ok (.iaload, 1)) rfl),
   (fun lv l b a0 a1 w => Ex_callV (by decide +kernel : decode M_L_law.2.1 471 = .ok (.invokevirtual 48, 3)) rfl (by rfl : resM (mCn M_L_law) 48 = some (2, M_X11_as)) rfl (by rfl) (Nat.le_of_ble_eq_true rfl) (by decide +kernel) (sLv_lt (by decide +kernel))),
   (fun lv st t o0 o1 x w => Ex_M (i := .aload_n 2) (n := 1) (by decide +kernel) rfl rfl rfl),
   (fun lv st t o0 o1 w => Ex_M (i := .aload_n 2) (n := 1) (by decide +kernel) rfl rfl rfl),
   (fun lv st t x w => Ex_M (i := .aload_n 0) (n := 1) (by decide +kernel) rfl rfl rfl),
   (fun lv st t w => Ex_M (i := .aload_n 0) (n := 1) (by decide +kernel) rfl rfl rfl),
   (fun lv st t o0 o1 o2 x w => Ex_M (i := .iload_n 3) (n := 1) (by decide +kernel) rfl rfl rfl),
   (fun lv l st w => Ex_A (i := .iconst 1) (n := 1) (by decide +kernel) rfl rfl),
   (fun lv l st x y w => Ex_A (i := .iadd) (n := 1) (by decide +kernel) rfl rfl),
   (fun lv l st a i w => Ex_ial (by decide +kernel : decode M_L_law.2.1 479 = .ok (.iaload, 1)) rfl),
   (fun lv st t x w => Ex_M (i := .aload_n 0) (n := 1) (by decide +kernel) rfl rfl rfl),
   (fun lv st t w => Ex_M (i := .aload_n 0) (n := 1) (by decide +kernel) rfl rfl rfl),
   (fun lv st t o0 o1 o2 x w => Ex_M (i := .iload_n 3) (n := 1) (by decide +kernel) rfl rfl rfl),
   (fun lv l st w => Ex_A (i := .iconst 2) (n := 1) (by decide +kernel) rfl rfl),
   (fun lv l st x y w => Ex_A (i := .iadd) (n := 1) (by decide +kernel) rfl rfl),
   (fun lv l st a i w => Ex_ial (by decide +kernel : decode M_L_law.2.1 484 = .ok (.iaload, 1)) rfl),
   (fun lv l b a0 a1 s0 w => Ex_callV (by decide +kernel : decode M_L_law.2.1 485 = .ok (.invokevirtual 51, 3)) rfl (by rfl : resM (mCn M_L_law) 51 = some (2, M_X12_as)) rfl (by rfl) (Nat.le_of_ble_eq_true rfl) (by decide +kernel) (sLv_lt (by decide +kernel))),
   (fun lv l st x y w => Ex_icmp_eq (by decide +kernel : decode M_L_law.2.1 488 = .ok (.if_icmp .eq 984, 3)) rfl rfl),
   (fun lv l st w => Ex_A (i := .iconst 0) (n := 1) (by decide +kernel) rfl rfl),
   (fun lv l x w => Ex_zret (by decide +kernel : decode M_L_law.2.1 492 = .ok (.ireturn, 1)) rfl),
   (fun lv st t o0 x w => Ex_M (i := .aload_n 1) (n := 1) (by decide +kernel) rfl rfl rfl),
   (fun lv st t o0 w => Ex_M (i := .aload_n 1) (n := 1) (by decide +kernel) rfl rfl rfl)⟩
set_option maxRecDepth 20000 in
set_option maxHeartbeats 4000000 in
theorem R_L_law_p5 : (∀ (lv : Nat) (st : List Value) (t : LX) (x : Nat) (w : AH), Ex M_L_law lv 494 (some (.ref x) :: t) st w = Ex M_L_law lv 495 (some (.ref x) :: t) (.ref x :: st) w)
  ∧ (∀ (lv : Nat) (st : List Value) (t : LX) (w : AH), Ex M_L_law lv 494 (some (.null) :: t) st w = Ex M_L_law lv 495 (some (.null) :: t) (.null :: st) w)
  ∧ (∀ (lv : Nat) (st : List Value) (t : LX) (o0 o1 o2 : Option Value) (x : Int32) (w : AH), Ex M_L_law lv 495 (o0 :: o1 :: o2 :: some (.int x) :: t) st w = Ex M_L_law lv 496 (o0 :: o1 :: o2 :: some (.int x) :: t) (.int x :: st) w)
  ∧ (∀ (lv : Nat) (l : LX) (st : List Value) (w : AH), Ex M_L_law lv 496 l st w = Ex M_L_law lv 497 l (.int 1 :: st) w)
  ∧ (∀ (lv : Nat) (l : LX) (st : List Value) (x y : Int32) (w : AH), Ex M_L_law lv 497 l (.int y :: .int x :: st) w = Ex M_L_law lv 498 l (.int (x + y) :: st) w)
  ∧ (∀ (lv : Nat) (l : LX) (st : List Value) (a : Nat) (i : Int32) (w : AH), Ex M_L_law lv 498 l (.int i :: .ref a :: st) w = if (aI (hg w a) i).isSome = true then Ex M_L_law lv 499 l (.int (vI (aI (hg w a) i)) :: st) w else none)
  ∧ (∀ (lv : Nat) (l : LX) (st : List Value) (x : Int32) (w : AH), Ex M_L_law lv 499 l (.int x :: st) w = Ex M_L_law lv 500 l (.long x.toInt64 :: st) w)
  ∧ (∀ (lv : Nat) (l : LX) (st : List Value) (w : AH), Ex M_L_law lv 500 l st w = Ex M_L_law lv 502 l (.int 32 :: st) w)
  ∧ (∀ (lv : Nat) (l : LX) (st : List Value) (x : Int64) (y : Int32) (w : AH), Ex M_L_law lv 502 l (.int y :: .long x :: st) w = Ex M_L_law lv 503 l (.long (x <<< (y.toInt64 &&& 63)) :: st) w)
  ∧ (∀ (lv : Nat) (st : List Value) (t : LX) (x : Nat) (w : AH), Ex M_L_law lv 503 (some (.ref x) :: t) st w = Ex M_L_law lv 504 (some (.ref x) :: t) (.ref x :: st) w)
  ∧ (∀ (lv : Nat) (st : List Value) (t : LX) (w : AH), Ex M_L_law lv 503 (some (.null) :: t) st w = Ex M_L_law lv 504 (some (.null) :: t) (.null :: st) w)
  ∧ (∀ (lv : Nat) (st : List Value) (t : LX) (o0 o1 o2 : Option Value) (x : Int32) (w : AH), Ex M_L_law lv 504 (o0 :: o1 :: o2 :: some (.int x) :: t) st w = Ex M_L_law lv 505 (o0 :: o1 :: o2 :: some (.int x) :: t) (.int x :: st) w)
  ∧ (∀ (lv : Nat) (l : LX) (st : List Value) (w : AH), Ex M_L_law lv 505 l st w = Ex M_L_law lv 506 l (.int 2 :: st) w)
  ∧ (∀ (lv : Nat) (l : LX) (st : List Value) (x y : Int32) (w : AH), Ex M_L_law lv 506 l (.int y :: .int x :: st) w = Ex M_L_law lv 507 l (.int (x + y) :: st) w)
  ∧ (∀ (lv : Nat) (l : LX) (st : List Value) (a : Nat) (i : Int32) (w : AH), Ex M_L_law lv 507 l (.int i :: .ref a :: st) w = if (aI (hg w a) i).isSome = true then Ex M_L_law lv 508 l (.int (vI (aI (hg w a) i)) :: st) w else none)
  ∧ (∀ (lv : Nat) (l : LX) (st : List Value) (x : Int32) (w : AH), Ex M_L_law lv 508 l (.int x :: st) w = Ex M_L_law lv 509 l (.long x.toInt64 :: st) w)
  ∧ (∀ (lv : Nat) (l : LX) (st : List Value) (w : AH), Ex M_L_law lv 509 l st w = Ex M_L_law lv 512 l (.long 4294967295 :: st) w)
  ∧ (∀ (lv : Nat) (l : LX) (st : List Value) (x y : Int64) (w : AH), Ex M_L_law lv 512 l (.long y :: .long x :: st) w = Ex M_L_law lv 513 l (.long (x &&& y) :: st) w)
  ∧ (∀ (lv : Nat) (l : LX) (st : List Value) (x y : Int64) (w : AH), Ex M_L_law lv 513 l (.long y :: .long x :: st) w = Ex M_L_law lv 514 l (.long (x ||| y) :: st) w)
  ∧ (∀ (lv : Nat) (st : List Value) (t : LX) (x : Nat) (w : AH), Ex M_L_law lv 514 (some (.ref x) :: t) st w = Ex M_L_law lv 515 (some (.ref x) :: t) (.ref x :: st) w)
  ∧ (∀ (lv : Nat) (st : List Value) (t : LX) (w : AH), Ex M_L_law lv 514 (some (.null) :: t) st w = Ex M_L_law lv 515 (some (.null) :: t) (.null :: st) w)
  ∧ (∀ (lv : Nat) (st : List Value) (t : LX) (o0 o1 o2 : Option Value) (x : Int32) (w : AH), Ex M_L_law lv 515 (o0 :: o1 :: o2 :: some (.int x) :: t) st w = Ex M_L_law lv 516 (o0 :: o1 :: o2 :: some (.int x) :: t) (.int x :: st) w)
  ∧ (∀ (lv : Nat) (l : LX) (st : List Value) (w : AH), Ex M_L_law lv 516 l st w = Ex M_L_law lv 517 l (.int 3 :: st) w)
  ∧ (∀ (lv : Nat) (l : LX) (st : List Value) (x y : Int32) (w : AH), Ex M_L_law lv 517 l (.int y :: .int x :: st) w = Ex M_L_law lv 518 l (.int (x + y) :: st) w)
  ∧ (∀ (lv : Nat) (l : LX) (st : List Value) (a : Nat) (i : Int32) (w : AH), Ex M_L_law lv 518 l (.int i :: .ref a :: st) w = if (aI (hg w a) i).isSome = true then Ex M_L_law lv 519 l (.int (vI (aI (hg w a) i)) :: st) w else none)
  ∧ (∀ (lv : Nat) (l : LX) (b : Nat) (a0 : Int64) (a1 : Int32) (w : AH), Ex M_L_law lv 519 l (.int a1 :: .long a0 :: .ref b :: []) w = if clK (hg w b) = 10 then (if (Call M_X11_feed 60 [.ref b, .long a0, .int a1] w).isSome = true then Ex M_L_law lv 522 l (pushR (cV (Call M_X11_feed 60 [.ref b, .long a0, .int a1] w)) []) (cW (Call M_X11_feed 60 [.ref b, .long a0, .int a1] w) w) else none) else none)
  ∧ (∀ (lv : Nat) (st : List Value) (t : LX) (o0 o1 : Option Value) (x : Nat) (w : AH), Ex M_L_law lv 522 (o0 :: o1 :: some (.ref x) :: t) st w = Ex M_L_law lv 523 (o0 :: o1 :: some (.ref x) :: t) (.ref x :: st) w)
  ∧ (∀ (lv : Nat) (st : List Value) (t : LX) (o0 o1 : Option Value) (w : AH), Ex M_L_law lv 522 (o0 :: o1 :: some (.null) :: t) st w = Ex M_L_law lv 523 (o0 :: o1 :: some (.null) :: t) (.null :: st) w)
  ∧ (∀ (lv : Nat) (st : List Value) (t : LX) (x : Nat) (w : AH), Ex M_L_law lv 523 (some (.ref x) :: t) st w = Ex M_L_law lv 524 (some (.ref x) :: t) (.ref x :: st) w)
  ∧ (∀ (lv : Nat) (st : List Value) (t : LX) (w : AH), Ex M_L_law lv 523 (some (.null) :: t) st w = Ex M_L_law lv 524 (some (.null) :: t) (.null :: st) w)
  ∧ (∀ (lv : Nat) (st : List Value) (t : LX) (o0 o1 o2 : Option Value) (x : Int32) (w : AH), Ex M_L_law lv 524 (o0 :: o1 :: o2 :: some (.int x) :: t) st w = Ex M_L_law lv 525 (o0 :: o1 :: o2 :: some (.int x) :: t) (.int x :: st) w)
  ∧ (∀ (lv : Nat) (l : LX) (st : List Value) (w : AH), Ex M_L_law lv 525 l st w = Ex M_L_law lv 526 l (.int 1 :: st) w)
  ∧ (∀ (lv : Nat) (l : LX) (st : List Value) (x y : Int32) (w : AH), Ex M_L_law lv 526 l (.int y :: .int x :: st) w = Ex M_L_law lv 527 l (.int (x + y) :: st) w)
  ∧ (∀ (lv : Nat) (l : LX) (st : List Value) (a : Nat) (i : Int32) (w : AH), Ex M_L_law lv 527 l (.int i :: .ref a :: st) w = if (aI (hg w a) i).isSome = true then Ex M_L_law lv 528 l (.int (vI (aI (hg w a) i)) :: st) w else none)
  ∧ (∀ (lv : Nat) (l : LX) (st : List Value) (x : Int32) (w : AH), Ex M_L_law lv 528 l (.int x :: st) w = Ex M_L_law lv 529 l (.long x.toInt64 :: st) w)
  ∧ (∀ (lv : Nat) (l : LX) (st : List Value) (w : AH), Ex M_L_law lv 529 l st w = Ex M_L_law lv 531 l (.int 32 :: st) w)
  ∧ (∀ (lv : Nat) (l : LX) (st : List Value) (x : Int64) (y : Int32) (w : AH), Ex M_L_law lv 531 l (.int y :: .long x :: st) w = Ex M_L_law lv 532 l (.long (x <<< (y.toInt64 &&& 63)) :: st) w)
  ∧ (∀ (lv : Nat) (st : List Value) (t : LX) (x : Nat) (w : AH), Ex M_L_law lv 532 (some (.ref x) :: t) st w = Ex M_L_law lv 533 (some (.ref x) :: t) (.ref x :: st) w)
  ∧ (∀ (lv : Nat) (st : List Value) (t : LX) (w : AH), Ex M_L_law lv 532 (some (.null) :: t) st w = Ex M_L_law lv 533 (some (.null) :: t) (.null :: st) w)
  ∧ (∀ (lv : Nat) (st : List Value) (t : LX) (o0 o1 o2 : Option Value) (x : Int32) (w : AH), Ex M_L_law lv 533 (o0 :: o1 :: o2 :: some (.int x) :: t) st w = Ex M_L_law lv 534 (o0 :: o1 :: o2 :: some (.int x) :: t) (.int x :: st) w)
  ∧ (∀ (lv : Nat) (l : LX) (st : List Value) (w : AH), Ex M_L_law lv 534 l st w = Ex M_L_law lv 535 l (.int 2 :: st) w)
  ∧ (∀ (lv : Nat) (l : LX) (st : List Value) (x y : Int32) (w : AH), Ex M_L_law lv 535 l (.int y :: .int x :: st) w = Ex M_L_law lv 536 l (.int (x + y) :: st) w)
  ∧ (∀ (lv : Nat) (l : LX) (st : List Value) (a : Nat) (i : Int32) (w : AH), Ex M_L_law lv 536 l (.int i :: .ref a :: st) w = if (aI (hg w a) i).isSome = true then Ex M_L_law lv 537 l (.int (vI (aI (hg w a) i)) :: st) w else none)
  ∧ (∀ (lv : Nat) (l : LX) (st : List Value) (x : Int32) (w : AH), Ex M_L_law lv 537 l (.int x :: st) w = Ex M_L_law lv 538 l (.long x.toInt64 :: st) w)
  ∧ (∀ (lv : Nat) (l : LX) (st : List Value) (w : AH), Ex M_L_law lv 538 l st w = Ex M_L_law lv 541 l (.long 4294967295 :: st) w)
  ∧ (∀ (lv : Nat) (l : LX) (st : List Value) (x y : Int64) (w : AH), Ex M_L_law lv 541 l (.long y :: .long x :: st) w = Ex M_L_law lv 542 l (.long (x &&& y) :: st) w)
  ∧ (∀ (lv : Nat) (l : LX) (st : List Value) (x y : Int64) (w : AH), Ex M_L_law lv 542 l (.long y :: .long x :: st) w = Ex M_L_law lv 543 l (.long (x ||| y) :: st) w)
  ∧ (∀ (lv : Nat) (st : List Value) (t : LX) (x : Nat) (w : AH), Ex M_L_law lv 543 (some (.ref x) :: t) st w = Ex M_L_law lv 544 (some (.ref x) :: t) (.ref x :: st) w)
  ∧ (∀ (lv : Nat) (st : List Value) (t : LX) (w : AH), Ex M_L_law lv 543 (some (.null) :: t) st w = Ex M_L_law lv 544 (some (.null) :: t) (.null :: st) w)
  ∧ (∀ (lv : Nat) (st : List Value) (t : LX) (o0 o1 o2 : Option Value) (x : Int32) (w : AH), Ex M_L_law lv 544 (o0 :: o1 :: o2 :: some (.int x) :: t) st w = Ex M_L_law lv 545 (o0 :: o1 :: o2 :: some (.int x) :: t) (.int x :: st) w)
  ∧ (∀ (lv : Nat) (l : LX) (st : List Value) (w : AH), Ex M_L_law lv 545 l st w = Ex M_L_law lv 546 l (.int 3 :: st) w)
  ∧ (∀ (lv : Nat) (l : LX) (st : List Value) (x y : Int32) (w : AH), Ex M_L_law lv 546 l (.int y :: .int x :: st) w = Ex M_L_law lv 547 l (.int (x + y) :: st) w)
  ∧ (∀ (lv : Nat) (l : LX) (st : List Value) (a : Nat) (i : Int32) (w : AH), Ex M_L_law lv 547 l (.int i :: .ref a :: st) w = if (aI (hg w a) i).isSome = true then Ex M_L_law lv 548 l (.int (vI (aI (hg w a) i)) :: st) w else none)
  ∧ (∀ (lv : Nat) (l : LX) (b : Nat) (a0 : Int64) (a1 : Int32) (s0 : Int32) (w : AH), Ex M_L_law lv 548 l (.int a1 :: .long a0 :: .ref b :: [.int s0]) w = if clK (hg w b) = 11 then (if (Call M_X12_feed 60 [.ref b, .long a0, .int a1] w).isSome = true then Ex M_L_law lv 551 l (pushR (cV (Call M_X12_feed 60 [.ref b, .long a0, .int a1] w)) [.int s0]) (cW (Call M_X12_feed 60 [.ref b, .long a0, .int a1] w) w) else none) else none)
  ∧ (∀ (lv : Nat) (l : LX) (st : List Value) (x y : Int32) (w : AH), Ex M_L_law lv 551 l (.int y :: .int x :: st) w = if x = y then Ex M_L_law lv 1472 l st w else Ex M_L_law lv 554 l st w)
  ∧ (∀ (lv : Nat) (l : LX) (st : List Value) (w : AH), Ex M_L_law lv 554 l st w = Ex M_L_law lv 555 l (.int 0 :: st) w)
  ∧ (∀ (lv : Nat) (l : LX) (x : Int32) (w : AH), Ex M_L_law lv 555 l [.int x] w = if x = 0 ∨ x = 1 then some (some (.int x), w) else none)
  ∧ (∀ (lv : Nat) (st : List Value) (t : LX) (o0 : Option Value) (x : Nat) (w : AH), Ex M_L_law lv 556 (o0 :: some (.ref x) :: t) st w = Ex M_L_law lv 557 (o0 :: some (.ref x) :: t) (.ref x :: st) w)
  ∧ (∀ (lv : Nat) (st : List Value) (t : LX) (o0 : Option Value) (w : AH), Ex M_L_law lv 556 (o0 :: some (.null) :: t) st w = Ex M_L_law lv 557 (o0 :: some (.null) :: t) (.null :: st) w)
  ∧ (∀ (lv : Nat) (st : List Value) (t : LX) (x : Nat) (w : AH), Ex M_L_law lv 557 (some (.ref x) :: t) st w = Ex M_L_law lv 558 (some (.ref x) :: t) (.ref x :: st) w) :=
  ⟨(fun lv st t x w => Ex_M (i := .aload_n 0) (n := 1) (by decide +kernel) rfl rfl rfl),
   (fun lv st t w => Ex_M (i := .aload_n 0) (n := 1) (by decide +kernel) rfl rfl rfl),
   (fun lv st t o0 o1 o2 x w => Ex_M (i := .iload_n 3) (n := 1) (by decide +kernel) rfl rfl rfl),
   (fun lv l st w => Ex_A (i := .iconst 1) (n := 1) (by decide +kernel) rfl rfl),
   (fun lv l st x y w => Ex_A (i := .iadd) (n := 1) (by decide +kernel) rfl rfl),
   (fun lv l st a i w => Ex_ial (by decide +kernel : decode M_L_law.2.1 498 = .ok (.iaload, 1)) rfl),
   (fun lv l st x w => Ex_A (i := .i2l) (n := 1) (by decide +kernel) rfl rfl),
   (fun lv l st w => Ex_A (i := .bipush 32) (n := 2) (by decide +kernel) rfl rfl),
   (fun lv l st x y w => Ex_A (i := .lshl) (n := 1) (by decide +kernel) rfl rfl),
   (fun lv st t x w => Ex_M (i := .aload_n 0) (n := 1) (by decide +kernel) rfl rfl rfl),
   (fun lv st t w => Ex_M (i := .aload_n 0) (n := 1) (by decide +kernel) rfl rfl rfl),
   (fun lv st t o0 o1 o2 x w => Ex_M (i := .iload_n 3) (n := 1) (by decide +kernel) rfl rfl rfl),
   (fun lv l st w => Ex_A (i := .iconst 2) (n := 1) (by decide +kernel) rfl rfl),
   (fun lv l st x y w => Ex_A (i := .iadd) (n := 1) (by decide +kernel) rfl rfl),
   (fun lv l st a i w => Ex_ial (by decide +kernel : decode M_L_law.2.1 507 = .ok (.iaload, 1)) rfl),
   (fun lv l st x w => Ex_A (i := .i2l) (n := 1) (by decide +kernel) rfl rfl),
   (fun lv l st w => Ex_ldc2 (by decide +kernel : decode M_L_law.2.1 509 = .ok (.ldc2_w 52, 3)) rfl (by decide +kernel)),
   (fun lv l st x y w => Ex_A (i := .land) (n := 1) (by decide +kernel) rfl rfl),
   (fun lv l st x y w => Ex_A (i := .lor) (n := 1) (by decide +kernel) rfl rfl),
   (fun lv st t x w => Ex_M (i := .aload_n 0) (n := 1) (by decide +kernel) rfl rfl rfl),
   (fun lv st t w => Ex_M (i := .aload_n 0) (n := 1) (by decide +kernel) rfl rfl rfl),
   (fun lv st t o0 o1 o2 x w => Ex_M (i := .iload_n 3) (n := 1) (by decide +kernel) rfl rfl rfl),
   (fun lv l st w => Ex_A (i := .iconst 3) (n := 1) (by decide +kernel) rfl rfl),
   (fun lv l st x y w => Ex_A (i := .iadd) (n := 1) (by decide +kernel) rfl rfl),
   (fun lv l st a i w => Ex_ial (by decide +kernel : decode M_L_law.2.1 518 = .ok (.iaload, 1)) rfl),
   (fun lv l b a0 a1 w => Ex_callV (by decide +kernel : decode M_L_law.2.1 519 = .ok (.invokevirtual 54, 3)) rfl (by rfl : resM (mCn M_L_law) 54 = some (2, M_X11_feed)) rfl (by rfl) (Nat.le_of_ble_eq_true rfl) (by decide +kernel) (sLv_lt (by decide +kernel))),
   (fun lv st t o0 o1 x w => Ex_M (i := .aload_n 2) (n := 1) (by decide +kernel) rfl rfl rfl),
   (fun lv st t o0 o1 w => Ex_M (i := .aload_n 2) (n := 1) (by decide +kernel) rfl rfl rfl),
   (fun lv st t x w => Ex_M (i := .aload_n 0) (n := 1) (by decide +kernel) rfl rfl rfl),
   (fun lv st t w => Ex_M (i := .aload_n 0) (n := 1) (by decide +kernel) rfl rfl rfl),
   (fun lv st t o0 o1 o2 x w => Ex_M (i := .iload_n 3) (n := 1) (by decide +kernel) rfl rfl rfl),
   (fun lv l st w => Ex_A (i := .iconst 1) (n := 1) (by decide +kernel) rfl rfl),
   (fun lv l st x y w => Ex_A (i := .iadd) (n := 1) (by decide +kernel) rfl rfl),
   (fun lv l st a i w => Ex_ial (by decide +kernel : decode M_L_law.2.1 527 = .ok (.iaload, 1)) rfl),
   (fun lv l st x w => Ex_A (i := .i2l) (n := 1) (by decide +kernel) rfl rfl),
   (fun lv l st w => Ex_A (i := .bipush 32) (n := 2) (by decide +kernel) rfl rfl),
   (fun lv l st x y w => Ex_A (i := .lshl) (n := 1) (by decide +kernel) rfl rfl),
   (fun lv st t x w => Ex_M (i := .aload_n 0) (n := 1) (by decide +kernel) rfl rfl rfl),
   (fun lv st t w => Ex_M (i := .aload_n 0) (n := 1) (by decide +kernel) rfl rfl rfl),
   (fun lv st t o0 o1 o2 x w => Ex_M (i := .iload_n 3) (n := 1) (by decide +kernel) rfl rfl rfl),
   (fun lv l st w => Ex_A (i := .iconst 2) (n := 1) (by decide +kernel) rfl rfl),
   (fun lv l st x y w => Ex_A (i := .iadd) (n := 1) (by decide +kernel) rfl rfl),
   (fun lv l st a i w => Ex_ial (by decide +kernel : decode M_L_law.2.1 536 = .ok (.iaload, 1)) rfl),
   (fun lv l st x w => Ex_A (i := .i2l) (n := 1) (by decide +kernel) rfl rfl),
   (fun lv l st w => Ex_ldc2 (by decide +kernel : decode M_L_law.2.1 538 = .ok (.ldc2_w 52, 3)) rfl (by decide +kernel)),
   (fun lv l st x y w => Ex_A (i := .land) (n := 1) (by decide +kernel) rfl rfl),
   (fun lv l st x y w => Ex_A (i := .lor) (n := 1) (by decide +kernel) rfl rfl),
   (fun lv st t x w => Ex_M (i := .aload_n 0) (n := 1) (by decide +kernel) rfl rfl rfl),
   (fun lv st t w => Ex_M (i := .aload_n 0) (n := 1) (by decide +kernel) rfl rfl rfl),
   (fun lv st t o0 o1 o2 x w => Ex_M (i := .iload_n 3) (n := 1) (by decide +kernel) rfl rfl rfl),
   (fun lv l st w => Ex_A (i := .iconst 3) (n := 1) (by decide +kernel) rfl rfl),
   (fun lv l st x y w => Ex_A (i := .iadd) (n := 1) (by decide +kernel) rfl rfl),
   (fun lv l st a i w => Ex_ial (by decide +kernel : decode M_L_law.2.1 547 = .ok (.iaload, 1)) rfl),
   (fun lv l b a0 a1 s0 w => Ex_callV (by decide +kernel : decode M_L_law.2.1 548 = .ok (.invokevirtual 58, 3)) rfl (by rfl : resM (mCn M_L_law) 58 = some (2, M_X12_feed)) rfl (by rfl) (Nat.le_of_ble_eq_true rfl) (by decide +kernel) (sLv_lt (by decide +kernel))),
   (fun lv l st x y w => Ex_icmp_eq (by decide +kernel : decode M_L_law.2.1 551 = .ok (.if_icmp .eq 921, 3)) rfl rfl),
   (fun lv l st w => Ex_A (i := .iconst 0) (n := 1) (by decide +kernel) rfl rfl),
   (fun lv l x w => Ex_zret (by decide +kernel : decode M_L_law.2.1 555 = .ok (.ireturn, 1)) rfl),
   (fun lv st t o0 x w => Ex_M (i := .aload_n 1) (n := 1) (by decide +kernel) rfl rfl rfl),
   (fun lv st t o0 w => Ex_M (i := .aload_n 1) (n := 1) (by decide +kernel) rfl rfl rfl),
   (fun lv st t x w => Ex_M (i := .aload_n 0) (n := 1) (by decide +kernel) rfl rfl rfl)⟩
set_option maxRecDepth 20000 in
set_option maxHeartbeats 4000000 in
theorem R_L_law_p6 : (∀ (lv : Nat) (st : List Value) (t : LX) (w : AH), Ex M_L_law lv 557 (some (.null) :: t) st w = Ex M_L_law lv 558 (some (.null) :: t) (.null :: st) w)
  ∧ (∀ (lv : Nat) (st : List Value) (t : LX) (o0 o1 o2 : Option Value) (x : Int32) (w : AH), Ex M_L_law lv 558 (o0 :: o1 :: o2 :: some (.int x) :: t) st w = Ex M_L_law lv 559 (o0 :: o1 :: o2 :: some (.int x) :: t) (.int x :: st) w)
  ∧ (∀ (lv : Nat) (l : LX) (st : List Value) (w : AH), Ex M_L_law lv 559 l st w = Ex M_L_law lv 560 l (.int 1 :: st) w)
  ∧ (∀ (lv : Nat) (l : LX) (st : List Value) (x y : Int32) (w : AH), Ex M_L_law lv 560 l (.int y :: .int x :: st) w = Ex M_L_law lv 561 l (.int (x + y) :: st) w)
  ∧ (∀ (lv : Nat) (l : LX) (st : List Value) (a : Nat) (i : Int32) (w : AH), Ex M_L_law lv 561 l (.int i :: .ref a :: st) w = if (aI (hg w a) i).isSome = true then Ex M_L_law lv 562 l (.int (vI (aI (hg w a) i)) :: st) w else none)
  ∧ (∀ (lv : Nat) (l : LX) (b : Nat) (a0 : Int32) (w : AH), Ex M_L_law lv 562 l (.int a0 :: .ref b :: []) w = if clK (hg w b) = 10 then (if (Call M_X11_text 60 [.ref b, .int a0] w).isSome = true then Ex M_L_law lv 565 l (pushR (cV (Call M_X11_text 60 [.ref b, .int a0] w)) []) (cW (Call M_X11_text 60 [.ref b, .int a0] w) w) else none) else none)
  ∧ (∀ (lv : Nat) (st : List Value) (t : LX) (o0 o1 : Option Value) (x : Nat) (w : AH), Ex M_L_law lv 565 (o0 :: o1 :: some (.ref x) :: t) st w = Ex M_L_law lv 566 (o0 :: o1 :: some (.ref x) :: t) (.ref x :: st) w)
  ∧ (∀ (lv : Nat) (st : List Value) (t : LX) (o0 o1 : Option Value) (w : AH), Ex M_L_law lv 565 (o0 :: o1 :: some (.null) :: t) st w = Ex M_L_law lv 566 (o0 :: o1 :: some (.null) :: t) (.null :: st) w)
  ∧ (∀ (lv : Nat) (st : List Value) (t : LX) (x : Nat) (w : AH), Ex M_L_law lv 566 (some (.ref x) :: t) st w = Ex M_L_law lv 567 (some (.ref x) :: t) (.ref x :: st) w)
  ∧ (∀ (lv : Nat) (st : List Value) (t : LX) (w : AH), Ex M_L_law lv 566 (some (.null) :: t) st w = Ex M_L_law lv 567 (some (.null) :: t) (.null :: st) w)
  ∧ (∀ (lv : Nat) (st : List Value) (t : LX) (o0 o1 o2 : Option Value) (x : Int32) (w : AH), Ex M_L_law lv 567 (o0 :: o1 :: o2 :: some (.int x) :: t) st w = Ex M_L_law lv 568 (o0 :: o1 :: o2 :: some (.int x) :: t) (.int x :: st) w)
  ∧ (∀ (lv : Nat) (l : LX) (st : List Value) (w : AH), Ex M_L_law lv 568 l st w = Ex M_L_law lv 569 l (.int 1 :: st) w)
  ∧ (∀ (lv : Nat) (l : LX) (st : List Value) (x y : Int32) (w : AH), Ex M_L_law lv 569 l (.int y :: .int x :: st) w = Ex M_L_law lv 570 l (.int (x + y) :: st) w)
  ∧ (∀ (lv : Nat) (l : LX) (st : List Value) (a : Nat) (i : Int32) (w : AH), Ex M_L_law lv 570 l (.int i :: .ref a :: st) w = if (aI (hg w a) i).isSome = true then Ex M_L_law lv 571 l (.int (vI (aI (hg w a) i)) :: st) w else none)
  ∧ (∀ (lv : Nat) (l : LX) (b : Nat) (a0 : Int32) (s0 : Int32) (w : AH), Ex M_L_law lv 571 l (.int a0 :: .ref b :: [.int s0]) w = if clK (hg w b) = 11 then (if (Call M_X12_text 60 [.ref b, .int a0] w).isSome = true then Ex M_L_law lv 574 l (pushR (cV (Call M_X12_text 60 [.ref b, .int a0] w)) [.int s0]) (cW (Call M_X12_text 60 [.ref b, .int a0] w) w) else none) else none)
  ∧ (∀ (lv : Nat) (l : LX) (st : List Value) (x y : Int32) (w : AH), Ex M_L_law lv 574 l (.int y :: .int x :: st) w = if x = y then Ex M_L_law lv 1472 l st w else Ex M_L_law lv 577 l st w)
  ∧ (∀ (lv : Nat) (l : LX) (st : List Value) (w : AH), Ex M_L_law lv 577 l st w = Ex M_L_law lv 578 l (.int 0 :: st) w)
  ∧ (∀ (lv : Nat) (l : LX) (x : Int32) (w : AH), Ex M_L_law lv 578 l [.int x] w = if x = 0 ∨ x = 1 then some (some (.int x), w) else none)
  ∧ (∀ (lv : Nat) (st : List Value) (t : LX) (o0 : Option Value) (x : Nat) (w : AH), Ex M_L_law lv 579 (o0 :: some (.ref x) :: t) st w = Ex M_L_law lv 580 (o0 :: some (.ref x) :: t) (.ref x :: st) w)
  ∧ (∀ (lv : Nat) (st : List Value) (t : LX) (o0 : Option Value) (w : AH), Ex M_L_law lv 579 (o0 :: some (.null) :: t) st w = Ex M_L_law lv 580 (o0 :: some (.null) :: t) (.null :: st) w)
  ∧ (∀ (lv : Nat) (st : List Value) (t : LX) (x : Nat) (w : AH), Ex M_L_law lv 580 (some (.ref x) :: t) st w = Ex M_L_law lv 581 (some (.ref x) :: t) (.ref x :: st) w)
  ∧ (∀ (lv : Nat) (st : List Value) (t : LX) (w : AH), Ex M_L_law lv 580 (some (.null) :: t) st w = Ex M_L_law lv 581 (some (.null) :: t) (.null :: st) w)
  ∧ (∀ (lv : Nat) (st : List Value) (t : LX) (o0 o1 o2 : Option Value) (x : Int32) (w : AH), Ex M_L_law lv 581 (o0 :: o1 :: o2 :: some (.int x) :: t) st w = Ex M_L_law lv 582 (o0 :: o1 :: o2 :: some (.int x) :: t) (.int x :: st) w)
  ∧ (∀ (lv : Nat) (l : LX) (st : List Value) (w : AH), Ex M_L_law lv 582 l st w = Ex M_L_law lv 583 l (.int 1 :: st) w)
  ∧ (∀ (lv : Nat) (l : LX) (st : List Value) (x y : Int32) (w : AH), Ex M_L_law lv 583 l (.int y :: .int x :: st) w = Ex M_L_law lv 584 l (.int (x + y) :: st) w)
  ∧ (∀ (lv : Nat) (l : LX) (st : List Value) (a : Nat) (i : Int32) (w : AH), Ex M_L_law lv 584 l (.int i :: .ref a :: st) w = if (aI (hg w a) i).isSome = true then Ex M_L_law lv 585 l (.int (vI (aI (hg w a) i)) :: st) w else none)
  ∧ (∀ (lv : Nat) (st : List Value) (t : LX) (x : Nat) (w : AH), Ex M_L_law lv 585 (some (.ref x) :: t) st w = Ex M_L_law lv 586 (some (.ref x) :: t) (.ref x :: st) w)
  ∧ (∀ (lv : Nat) (st : List Value) (t : LX) (w : AH), Ex M_L_law lv 585 (some (.null) :: t) st w = Ex M_L_law lv 586 (some (.null) :: t) (.null :: st) w)
  ∧ (∀ (lv : Nat) (st : List Value) (t : LX) (o0 o1 o2 : Option Value) (x : Int32) (w : AH), Ex M_L_law lv 586 (o0 :: o1 :: o2 :: some (.int x) :: t) st w = Ex M_L_law lv 587 (o0 :: o1 :: o2 :: some (.int x) :: t) (.int x :: st) w)
  ∧ (∀ (lv : Nat) (l : LX) (st : List Value) (w : AH), Ex M_L_law lv 587 l st w = Ex M_L_law lv 588 l (.int 2 :: st) w)
  ∧ (∀ (lv : Nat) (l : LX) (st : List Value) (x y : Int32) (w : AH), Ex M_L_law lv 588 l (.int y :: .int x :: st) w = Ex M_L_law lv 589 l (.int (x + y) :: st) w)
  ∧ (∀ (lv : Nat) (l : LX) (st : List Value) (a : Nat) (i : Int32) (w : AH), Ex M_L_law lv 589 l (.int i :: .ref a :: st) w = if (aI (hg w a) i).isSome = true then Ex M_L_law lv 590 l (.int (vI (aI (hg w a) i)) :: st) w else none)
  ∧ (∀ (lv : Nat) (st : List Value) (t : LX) (x : Nat) (w : AH), Ex M_L_law lv 590 (some (.ref x) :: t) st w = Ex M_L_law lv 591 (some (.ref x) :: t) (.ref x :: st) w)
  ∧ (∀ (lv : Nat) (st : List Value) (t : LX) (w : AH), Ex M_L_law lv 590 (some (.null) :: t) st w = Ex M_L_law lv 591 (some (.null) :: t) (.null :: st) w)
  ∧ (∀ (lv : Nat) (st : List Value) (t : LX) (o0 o1 o2 : Option Value) (x : Int32) (w : AH), Ex M_L_law lv 591 (o0 :: o1 :: o2 :: some (.int x) :: t) st w = Ex M_L_law lv 592 (o0 :: o1 :: o2 :: some (.int x) :: t) (.int x :: st) w)
  ∧ (∀ (lv : Nat) (l : LX) (st : List Value) (w : AH), Ex M_L_law lv 592 l st w = Ex M_L_law lv 593 l (.int 3 :: st) w)
  ∧ (∀ (lv : Nat) (l : LX) (st : List Value) (x y : Int32) (w : AH), Ex M_L_law lv 593 l (.int y :: .int x :: st) w = Ex M_L_law lv 594 l (.int (x + y) :: st) w)
  ∧ (∀ (lv : Nat) (l : LX) (st : List Value) (a : Nat) (i : Int32) (w : AH), Ex M_L_law lv 594 l (.int i :: .ref a :: st) w = if (aI (hg w a) i).isSome = true then Ex M_L_law lv 595 l (.int (vI (aI (hg w a) i)) :: st) w else none)
  ∧ (∀ (lv : Nat) (st : List Value) (t : LX) (x : Nat) (w : AH), Ex M_L_law lv 595 (some (.ref x) :: t) st w = Ex M_L_law lv 596 (some (.ref x) :: t) (.ref x :: st) w)
  ∧ (∀ (lv : Nat) (st : List Value) (t : LX) (w : AH), Ex M_L_law lv 595 (some (.null) :: t) st w = Ex M_L_law lv 596 (some (.null) :: t) (.null :: st) w)
  ∧ (∀ (lv : Nat) (st : List Value) (t : LX) (o0 o1 o2 : Option Value) (x : Int32) (w : AH), Ex M_L_law lv 596 (o0 :: o1 :: o2 :: some (.int x) :: t) st w = Ex M_L_law lv 597 (o0 :: o1 :: o2 :: some (.int x) :: t) (.int x :: st) w)
  ∧ (∀ (lv : Nat) (l : LX) (st : List Value) (w : AH), Ex M_L_law lv 597 l st w = Ex M_L_law lv 598 l (.int 4 :: st) w)
  ∧ (∀ (lv : Nat) (l : LX) (st : List Value) (x y : Int32) (w : AH), Ex M_L_law lv 598 l (.int y :: .int x :: st) w = Ex M_L_law lv 599 l (.int (x + y) :: st) w)
  ∧ (∀ (lv : Nat) (l : LX) (st : List Value) (a : Nat) (i : Int32) (w : AH), Ex M_L_law lv 599 l (.int i :: .ref a :: st) w = if (aI (hg w a) i).isSome = true then Ex M_L_law lv 600 l (.int (vI (aI (hg w a) i)) :: st) w else none)
  ∧ (∀ (lv : Nat) (l : LX) (b : Nat) (a0 : Int32) (a1 : Int32) (a2 : Int32) (a3 : Int32) (w : AH), Ex M_L_law lv 600 l (.int a3 :: .int a2 :: .int a1 :: .int a0 :: .ref b :: []) w = if clK (hg w b) = 10 then (if (Call M_X11_law 60 [.ref b, .int a0, .int a1, .int a2, .int a3] w).isSome = true then Ex M_L_law lv 603 l (pushR (cV (Call M_X11_law 60 [.ref b, .int a0, .int a1, .int a2, .int a3] w)) []) (cW (Call M_X11_law 60 [.ref b, .int a0, .int a1, .int a2, .int a3] w) w) else none) else none)
  ∧ (∀ (lv : Nat) (st : List Value) (t : LX) (o0 o1 : Option Value) (x : Nat) (w : AH), Ex M_L_law lv 603 (o0 :: o1 :: some (.ref x) :: t) st w = Ex M_L_law lv 604 (o0 :: o1 :: some (.ref x) :: t) (.ref x :: st) w)
  ∧ (∀ (lv : Nat) (st : List Value) (t : LX) (o0 o1 : Option Value) (w : AH), Ex M_L_law lv 603 (o0 :: o1 :: some (.null) :: t) st w = Ex M_L_law lv 604 (o0 :: o1 :: some (.null) :: t) (.null :: st) w)
  ∧ (∀ (lv : Nat) (st : List Value) (t : LX) (x : Nat) (w : AH), Ex M_L_law lv 604 (some (.ref x) :: t) st w = Ex M_L_law lv 605 (some (.ref x) :: t) (.ref x :: st) w)
  ∧ (∀ (lv : Nat) (st : List Value) (t : LX) (w : AH), Ex M_L_law lv 604 (some (.null) :: t) st w = Ex M_L_law lv 605 (some (.null) :: t) (.null :: st) w)
  ∧ (∀ (lv : Nat) (st : List Value) (t : LX) (o0 o1 o2 : Option Value) (x : Int32) (w : AH), Ex M_L_law lv 605 (o0 :: o1 :: o2 :: some (.int x) :: t) st w = Ex M_L_law lv 606 (o0 :: o1 :: o2 :: some (.int x) :: t) (.int x :: st) w)
  ∧ (∀ (lv : Nat) (l : LX) (st : List Value) (w : AH), Ex M_L_law lv 606 l st w = Ex M_L_law lv 607 l (.int 1 :: st) w)
  ∧ (∀ (lv : Nat) (l : LX) (st : List Value) (x y : Int32) (w : AH), Ex M_L_law lv 607 l (.int y :: .int x :: st) w = Ex M_L_law lv 608 l (.int (x + y) :: st) w)
  ∧ (∀ (lv : Nat) (l : LX) (st : List Value) (a : Nat) (i : Int32) (w : AH), Ex M_L_law lv 608 l (.int i :: .ref a :: st) w = if (aI (hg w a) i).isSome = true then Ex M_L_law lv 609 l (.int (vI (aI (hg w a) i)) :: st) w else none)
  ∧ (∀ (lv : Nat) (st : List Value) (t : LX) (x : Nat) (w : AH), Ex M_L_law lv 609 (some (.ref x) :: t) st w = Ex M_L_law lv 610 (some (.ref x) :: t) (.ref x :: st) w)
  ∧ (∀ (lv : Nat) (st : List Value) (t : LX) (w : AH), Ex M_L_law lv 609 (some (.null) :: t) st w = Ex M_L_law lv 610 (some (.null) :: t) (.null :: st) w)
  ∧ (∀ (lv : Nat) (st : List Value) (t : LX) (o0 o1 o2 : Option Value) (x : Int32) (w : AH), Ex M_L_law lv 610 (o0 :: o1 :: o2 :: some (.int x) :: t) st w = Ex M_L_law lv 611 (o0 :: o1 :: o2 :: some (.int x) :: t) (.int x :: st) w)
  ∧ (∀ (lv : Nat) (l : LX) (st : List Value) (w : AH), Ex M_L_law lv 611 l st w = Ex M_L_law lv 612 l (.int 2 :: st) w)
  ∧ (∀ (lv : Nat) (l : LX) (st : List Value) (x y : Int32) (w : AH), Ex M_L_law lv 612 l (.int y :: .int x :: st) w = Ex M_L_law lv 613 l (.int (x + y) :: st) w)
  ∧ (∀ (lv : Nat) (l : LX) (st : List Value) (a : Nat) (i : Int32) (w : AH), Ex M_L_law lv 613 l (.int i :: .ref a :: st) w = if (aI (hg w a) i).isSome = true then Ex M_L_law lv 614 l (.int (vI (aI (hg w a) i)) :: st) w else none)
  ∧ (∀ (lv : Nat) (st : List Value) (t : LX) (x : Nat) (w : AH), Ex M_L_law lv 614 (some (.ref x) :: t) st w = Ex M_L_law lv 615 (some (.ref x) :: t) (.ref x :: st) w) :=
  ⟨(fun lv st t w => Ex_M (i := .aload_n 0) (n := 1) (by decide +kernel) rfl rfl rfl),
   (fun lv st t o0 o1 o2 x w => Ex_M (i := .iload_n 3) (n := 1) (by decide +kernel) rfl rfl rfl),
   (fun lv l st w => Ex_A (i := .iconst 1) (n := 1) (by decide +kernel) rfl rfl),
   (fun lv l st x y w => Ex_A (i := .iadd) (n := 1) (by decide +kernel) rfl rfl),
   (fun lv l st a i w => Ex_ial (by decide +kernel : decode M_L_law.2.1 561 = .ok (.iaload, 1)) rfl),
   (fun lv l b a0 w => Ex_callV (by decide +kernel : decode M_L_law.2.1 562 = .ok (.invokevirtual 59, 3)) rfl (by rfl : resM (mCn M_L_law) 59 = some (2, M_X11_text)) rfl (by rfl) (Nat.le_of_ble_eq_true rfl) (by decide +kernel) (sLv_lt (by decide +kernel))),
   (fun lv st t o0 o1 x w => Ex_M (i := .aload_n 2) (n := 1) (by decide +kernel) rfl rfl rfl),
   (fun lv st t o0 o1 w => Ex_M (i := .aload_n 2) (n := 1) (by decide +kernel) rfl rfl rfl),
   (fun lv st t x w => Ex_M (i := .aload_n 0) (n := 1) (by decide +kernel) rfl rfl rfl),
   (fun lv st t w => Ex_M (i := .aload_n 0) (n := 1) (by decide +kernel) rfl rfl rfl),
   (fun lv st t o0 o1 o2 x w => Ex_M (i := .iload_n 3) (n := 1) (by decide +kernel) rfl rfl rfl),
   (fun lv l st w => Ex_A (i := .iconst 1) (n := 1) (by decide +kernel) rfl rfl),
   (fun lv l st x y w => Ex_A (i := .iadd) (n := 1) (by decide +kernel) rfl rfl),
   (fun lv l st a i w => Ex_ial (by decide +kernel : decode M_L_law.2.1 570 = .ok (.iaload, 1)) rfl),
   (fun lv l b a0 s0 w => Ex_callV (by decide +kernel : decode M_L_law.2.1 571 = .ok (.invokevirtual 63, 3)) rfl (by rfl : resM (mCn M_L_law) 63 = some (2, M_X12_text)) rfl (by rfl) (Nat.le_of_ble_eq_true rfl) (by decide +kernel) (sLv_lt (by decide +kernel))),
   (fun lv l st x y w => Ex_icmp_eq (by decide +kernel : decode M_L_law.2.1 574 = .ok (.if_icmp .eq 898, 3)) rfl rfl),
   (fun lv l st w => Ex_A (i := .iconst 0) (n := 1) (by decide +kernel) rfl rfl),
   (fun lv l x w => Ex_zret (by decide +kernel : decode M_L_law.2.1 578 = .ok (.ireturn, 1)) rfl),
   (fun lv st t o0 x w => Ex_M (i := .aload_n 1) (n := 1) (by decide +kernel) rfl rfl rfl),
   (fun lv st t o0 w => Ex_M (i := .aload_n 1) (n := 1) (by decide +kernel) rfl rfl rfl),
   (fun lv st t x w => Ex_M (i := .aload_n 0) (n := 1) (by decide +kernel) rfl rfl rfl),
   (fun lv st t w => Ex_M (i := .aload_n 0) (n := 1) (by decide +kernel) rfl rfl rfl),
   (fun lv st t o0 o1 o2 x w => Ex_M (i := .iload_n 3) (n := 1) (by decide +kernel) rfl rfl rfl),
   (fun lv l st w => Ex_A (i := .iconst 1) (n := 1) (by decide +kernel) rfl rfl),
   (fun lv l st x y w => Ex_A (i := .iadd) (n := 1) (by decide +kernel) rfl rfl),
   (fun lv l st a i w => Ex_ial (by decide +kernel : decode M_L_law.2.1 584 = .ok (.iaload, 1)) rfl),
   (fun lv st t x w => Ex_M (i := .aload_n 0) (n := 1) (by decide +kernel) rfl rfl rfl),
   (fun lv st t w => Ex_M (i := .aload_n 0) (n := 1) (by decide +kernel) rfl rfl rfl),
   (fun lv st t o0 o1 o2 x w => Ex_M (i := .iload_n 3) (n := 1) (by decide +kernel) rfl rfl rfl),
   (fun lv l st w => Ex_A (i := .iconst 2) (n := 1) (by decide +kernel) rfl rfl),
   (fun lv l st x y w => Ex_A (i := .iadd) (n := 1) (by decide +kernel) rfl rfl),
   (fun lv l st a i w => Ex_ial (by decide +kernel : decode M_L_law.2.1 589 = .ok (.iaload, 1)) rfl),
   (fun lv st t x w => Ex_M (i := .aload_n 0) (n := 1) (by decide +kernel) rfl rfl rfl),
   (fun lv st t w => Ex_M (i := .aload_n 0) (n := 1) (by decide +kernel) rfl rfl rfl),
   (fun lv st t o0 o1 o2 x w => Ex_M (i := .iload_n 3) (n := 1) (by decide +kernel) rfl rfl rfl),
   (fun lv l st w => Ex_A (i := .iconst 3) (n := 1) (by decide +kernel) rfl rfl),
   (fun lv l st x y w => Ex_A (i := .iadd) (n := 1) (by decide +kernel) rfl rfl),
   (fun lv l st a i w => Ex_ial (by decide +kernel : decode M_L_law.2.1 594 = .ok (.iaload, 1)) rfl),
   (fun lv st t x w => Ex_M (i := .aload_n 0) (n := 1) (by decide +kernel) rfl rfl rfl),
   (fun lv st t w => Ex_M (i := .aload_n 0) (n := 1) (by decide +kernel) rfl rfl rfl),
   (fun lv st t o0 o1 o2 x w => Ex_M (i := .iload_n 3) (n := 1) (by decide +kernel) rfl rfl rfl),
   (fun lv l st w => Ex_A (i := .iconst 4) (n := 1) (by decide +kernel) rfl rfl),
   (fun lv l st x y w => Ex_A (i := .iadd) (n := 1) (by decide +kernel) rfl rfl),
   (fun lv l st a i w => Ex_ial (by decide +kernel : decode M_L_law.2.1 599 = .ok (.iaload, 1)) rfl),
   (fun lv l b a0 a1 a2 a3 w => Ex_callV (by decide +kernel : decode M_L_law.2.1 600 = .ok (.invokevirtual 64, 3)) rfl (by rfl : resM (mCn M_L_law) 64 = some (2, M_X11_law)) rfl (by rfl) (Nat.le_of_ble_eq_true rfl) (by decide +kernel) (sLv_lt (by decide +kernel))),
   (fun lv st t o0 o1 x w => Ex_M (i := .aload_n 2) (n := 1) (by decide +kernel) rfl rfl rfl),
   (fun lv st t o0 o1 w => Ex_M (i := .aload_n 2) (n := 1) (by decide +kernel) rfl rfl rfl),
   (fun lv st t x w => Ex_M (i := .aload_n 0) (n := 1) (by decide +kernel) rfl rfl rfl),
   (fun lv st t w => Ex_M (i := .aload_n 0) (n := 1) (by decide +kernel) rfl rfl rfl),
   (fun lv st t o0 o1 o2 x w => Ex_M (i := .iload_n 3) (n := 1) (by decide +kernel) rfl rfl rfl),
   (fun lv l st w => Ex_A (i := .iconst 1) (n := 1) (by decide +kernel) rfl rfl),
   (fun lv l st x y w => Ex_A (i := .iadd) (n := 1) (by decide +kernel) rfl rfl),
   (fun lv l st a i w => Ex_ial (by decide +kernel : decode M_L_law.2.1 608 = .ok (.iaload, 1)) rfl),
   (fun lv st t x w => Ex_M (i := .aload_n 0) (n := 1) (by decide +kernel) rfl rfl rfl),
   (fun lv st t w => Ex_M (i := .aload_n 0) (n := 1) (by decide +kernel) rfl rfl rfl),
   (fun lv st t o0 o1 o2 x w => Ex_M (i := .iload_n 3) (n := 1) (by decide +kernel) rfl rfl rfl),
   (fun lv l st w => Ex_A (i := .iconst 2) (n := 1) (by decide +kernel) rfl rfl),
   (fun lv l st x y w => Ex_A (i := .iadd) (n := 1) (by decide +kernel) rfl rfl),
   (fun lv l st a i w => Ex_ial (by decide +kernel : decode M_L_law.2.1 613 = .ok (.iaload, 1)) rfl),
   (fun lv st t x w => Ex_M (i := .aload_n 0) (n := 1) (by decide +kernel) rfl rfl rfl)⟩
set_option maxRecDepth 20000 in
set_option maxHeartbeats 4000000 in
theorem R_L_law_p7 : (∀ (lv : Nat) (st : List Value) (t : LX) (w : AH), Ex M_L_law lv 614 (some (.null) :: t) st w = Ex M_L_law lv 615 (some (.null) :: t) (.null :: st) w)
  ∧ (∀ (lv : Nat) (st : List Value) (t : LX) (o0 o1 o2 : Option Value) (x : Int32) (w : AH), Ex M_L_law lv 615 (o0 :: o1 :: o2 :: some (.int x) :: t) st w = Ex M_L_law lv 616 (o0 :: o1 :: o2 :: some (.int x) :: t) (.int x :: st) w)
  ∧ (∀ (lv : Nat) (l : LX) (st : List Value) (w : AH), Ex M_L_law lv 616 l st w = Ex M_L_law lv 617 l (.int 3 :: st) w)
  ∧ (∀ (lv : Nat) (l : LX) (st : List Value) (x y : Int32) (w : AH), Ex M_L_law lv 617 l (.int y :: .int x :: st) w = Ex M_L_law lv 618 l (.int (x + y) :: st) w)
  ∧ (∀ (lv : Nat) (l : LX) (st : List Value) (a : Nat) (i : Int32) (w : AH), Ex M_L_law lv 618 l (.int i :: .ref a :: st) w = if (aI (hg w a) i).isSome = true then Ex M_L_law lv 619 l (.int (vI (aI (hg w a) i)) :: st) w else none)
  ∧ (∀ (lv : Nat) (st : List Value) (t : LX) (x : Nat) (w : AH), Ex M_L_law lv 619 (some (.ref x) :: t) st w = Ex M_L_law lv 620 (some (.ref x) :: t) (.ref x :: st) w)
  ∧ (∀ (lv : Nat) (st : List Value) (t : LX) (w : AH), Ex M_L_law lv 619 (some (.null) :: t) st w = Ex M_L_law lv 620 (some (.null) :: t) (.null :: st) w)
  ∧ (∀ (lv : Nat) (st : List Value) (t : LX) (o0 o1 o2 : Option Value) (x : Int32) (w : AH), Ex M_L_law lv 620 (o0 :: o1 :: o2 :: some (.int x) :: t) st w = Ex M_L_law lv 621 (o0 :: o1 :: o2 :: some (.int x) :: t) (.int x :: st) w)
  ∧ (∀ (lv : Nat) (l : LX) (st : List Value) (w : AH), Ex M_L_law lv 621 l st w = Ex M_L_law lv 622 l (.int 4 :: st) w)
  ∧ (∀ (lv : Nat) (l : LX) (st : List Value) (x y : Int32) (w : AH), Ex M_L_law lv 622 l (.int y :: .int x :: st) w = Ex M_L_law lv 623 l (.int (x + y) :: st) w)
  ∧ (∀ (lv : Nat) (l : LX) (st : List Value) (a : Nat) (i : Int32) (w : AH), Ex M_L_law lv 623 l (.int i :: .ref a :: st) w = if (aI (hg w a) i).isSome = true then Ex M_L_law lv 624 l (.int (vI (aI (hg w a) i)) :: st) w else none)
  ∧ (∀ (lv : Nat) (l : LX) (b : Nat) (a0 : Int32) (a1 : Int32) (a2 : Int32) (a3 : Int32) (s0 : Int32) (w : AH), Ex M_L_law lv 624 l (.int a3 :: .int a2 :: .int a1 :: .int a0 :: .ref b :: [.int s0]) w = if clK (hg w b) = 11 then (if (Call M_X12_law 60 [.ref b, .int a0, .int a1, .int a2, .int a3] w).isSome = true then Ex M_L_law lv 627 l (pushR (cV (Call M_X12_law 60 [.ref b, .int a0, .int a1, .int a2, .int a3] w)) [.int s0]) (cW (Call M_X12_law 60 [.ref b, .int a0, .int a1, .int a2, .int a3] w) w) else none) else none)
  ∧ (∀ (lv : Nat) (l : LX) (st : List Value) (x y : Int32) (w : AH), Ex M_L_law lv 627 l (.int y :: .int x :: st) w = if x = y then Ex M_L_law lv 1472 l st w else Ex M_L_law lv 630 l st w)
  ∧ (∀ (lv : Nat) (l : LX) (st : List Value) (w : AH), Ex M_L_law lv 630 l st w = Ex M_L_law lv 631 l (.int 0 :: st) w)
  ∧ (∀ (lv : Nat) (l : LX) (x : Int32) (w : AH), Ex M_L_law lv 631 l [.int x] w = if x = 0 ∨ x = 1 then some (some (.int x), w) else none)
  ∧ (∀ (lv : Nat) (st : List Value) (t : LX) (o0 : Option Value) (x : Nat) (w : AH), Ex M_L_law lv 632 (o0 :: some (.ref x) :: t) st w = Ex M_L_law lv 633 (o0 :: some (.ref x) :: t) (.ref x :: st) w)
  ∧ (∀ (lv : Nat) (st : List Value) (t : LX) (o0 : Option Value) (w : AH), Ex M_L_law lv 632 (o0 :: some (.null) :: t) st w = Ex M_L_law lv 633 (o0 :: some (.null) :: t) (.null :: st) w)
  ∧ (∀ (lv : Nat) (st : List Value) (t : LX) (x : Nat) (w : AH), Ex M_L_law lv 633 (some (.ref x) :: t) st w = Ex M_L_law lv 634 (some (.ref x) :: t) (.ref x :: st) w)
  ∧ (∀ (lv : Nat) (st : List Value) (t : LX) (w : AH), Ex M_L_law lv 633 (some (.null) :: t) st w = Ex M_L_law lv 634 (some (.null) :: t) (.null :: st) w)
  ∧ (∀ (lv : Nat) (st : List Value) (t : LX) (o0 o1 o2 : Option Value) (x : Int32) (w : AH), Ex M_L_law lv 634 (o0 :: o1 :: o2 :: some (.int x) :: t) st w = Ex M_L_law lv 635 (o0 :: o1 :: o2 :: some (.int x) :: t) (.int x :: st) w)
  ∧ (∀ (lv : Nat) (l : LX) (st : List Value) (w : AH), Ex M_L_law lv 635 l st w = Ex M_L_law lv 636 l (.int 1 :: st) w)
  ∧ (∀ (lv : Nat) (l : LX) (st : List Value) (x y : Int32) (w : AH), Ex M_L_law lv 636 l (.int y :: .int x :: st) w = Ex M_L_law lv 637 l (.int (x + y) :: st) w)
  ∧ (∀ (lv : Nat) (l : LX) (st : List Value) (a : Nat) (i : Int32) (w : AH), Ex M_L_law lv 637 l (.int i :: .ref a :: st) w = if (aI (hg w a) i).isSome = true then Ex M_L_law lv 638 l (.int (vI (aI (hg w a) i)) :: st) w else none)
  ∧ (∀ (lv : Nat) (l : LX) (b : Nat) (a0 : Int32) (w : AH), Ex M_L_law lv 638 l (.int a0 :: .ref b :: []) w = if clK (hg w b) = 10 then (if (Call M_X11_days 60 [.ref b, .int a0] w).isSome = true then Ex M_L_law lv 641 l (pushR (cV (Call M_X11_days 60 [.ref b, .int a0] w)) []) (cW (Call M_X11_days 60 [.ref b, .int a0] w) w) else none) else none)
  ∧ (∀ (lv : Nat) (st : List Value) (t : LX) (o0 o1 : Option Value) (x : Nat) (w : AH), Ex M_L_law lv 641 (o0 :: o1 :: some (.ref x) :: t) st w = Ex M_L_law lv 642 (o0 :: o1 :: some (.ref x) :: t) (.ref x :: st) w)
  ∧ (∀ (lv : Nat) (st : List Value) (t : LX) (o0 o1 : Option Value) (w : AH), Ex M_L_law lv 641 (o0 :: o1 :: some (.null) :: t) st w = Ex M_L_law lv 642 (o0 :: o1 :: some (.null) :: t) (.null :: st) w)
  ∧ (∀ (lv : Nat) (st : List Value) (t : LX) (x : Nat) (w : AH), Ex M_L_law lv 642 (some (.ref x) :: t) st w = Ex M_L_law lv 643 (some (.ref x) :: t) (.ref x :: st) w)
  ∧ (∀ (lv : Nat) (st : List Value) (t : LX) (w : AH), Ex M_L_law lv 642 (some (.null) :: t) st w = Ex M_L_law lv 643 (some (.null) :: t) (.null :: st) w)
  ∧ (∀ (lv : Nat) (st : List Value) (t : LX) (o0 o1 o2 : Option Value) (x : Int32) (w : AH), Ex M_L_law lv 643 (o0 :: o1 :: o2 :: some (.int x) :: t) st w = Ex M_L_law lv 644 (o0 :: o1 :: o2 :: some (.int x) :: t) (.int x :: st) w)
  ∧ (∀ (lv : Nat) (l : LX) (st : List Value) (w : AH), Ex M_L_law lv 644 l st w = Ex M_L_law lv 645 l (.int 1 :: st) w)
  ∧ (∀ (lv : Nat) (l : LX) (st : List Value) (x y : Int32) (w : AH), Ex M_L_law lv 645 l (.int y :: .int x :: st) w = Ex M_L_law lv 646 l (.int (x + y) :: st) w)
  ∧ (∀ (lv : Nat) (l : LX) (st : List Value) (a : Nat) (i : Int32) (w : AH), Ex M_L_law lv 646 l (.int i :: .ref a :: st) w = if (aI (hg w a) i).isSome = true then Ex M_L_law lv 647 l (.int (vI (aI (hg w a) i)) :: st) w else none)
  ∧ (∀ (lv : Nat) (l : LX) (b : Nat) (a0 : Int32) (s0 : Int32) (w : AH), Ex M_L_law lv 647 l (.int a0 :: .ref b :: [.int s0]) w = if clK (hg w b) = 11 then (if (Call M_X12_days 60 [.ref b, .int a0] w).isSome = true then Ex M_L_law lv 650 l (pushR (cV (Call M_X12_days 60 [.ref b, .int a0] w)) [.int s0]) (cW (Call M_X12_days 60 [.ref b, .int a0] w) w) else none) else none)
  ∧ (∀ (lv : Nat) (l : LX) (st : List Value) (x y : Int32) (w : AH), Ex M_L_law lv 650 l (.int y :: .int x :: st) w = if x = y then Ex M_L_law lv 1472 l st w else Ex M_L_law lv 653 l st w)
  ∧ (∀ (lv : Nat) (l : LX) (st : List Value) (w : AH), Ex M_L_law lv 653 l st w = Ex M_L_law lv 654 l (.int 0 :: st) w)
  ∧ (∀ (lv : Nat) (l : LX) (x : Int32) (w : AH), Ex M_L_law lv 654 l [.int x] w = if x = 0 ∨ x = 1 then some (some (.int x), w) else none)
  ∧ (∀ (lv : Nat) (st : List Value) (t : LX) (o0 : Option Value) (x : Nat) (w : AH), Ex M_L_law lv 655 (o0 :: some (.ref x) :: t) st w = Ex M_L_law lv 656 (o0 :: some (.ref x) :: t) (.ref x :: st) w)
  ∧ (∀ (lv : Nat) (st : List Value) (t : LX) (o0 : Option Value) (w : AH), Ex M_L_law lv 655 (o0 :: some (.null) :: t) st w = Ex M_L_law lv 656 (o0 :: some (.null) :: t) (.null :: st) w)
  ∧ (∀ (lv : Nat) (st : List Value) (t : LX) (x : Nat) (w : AH), Ex M_L_law lv 656 (some (.ref x) :: t) st w = Ex M_L_law lv 657 (some (.ref x) :: t) (.ref x :: st) w)
  ∧ (∀ (lv : Nat) (st : List Value) (t : LX) (w : AH), Ex M_L_law lv 656 (some (.null) :: t) st w = Ex M_L_law lv 657 (some (.null) :: t) (.null :: st) w)
  ∧ (∀ (lv : Nat) (st : List Value) (t : LX) (o0 o1 o2 : Option Value) (x : Int32) (w : AH), Ex M_L_law lv 657 (o0 :: o1 :: o2 :: some (.int x) :: t) st w = Ex M_L_law lv 658 (o0 :: o1 :: o2 :: some (.int x) :: t) (.int x :: st) w)
  ∧ (∀ (lv : Nat) (l : LX) (st : List Value) (w : AH), Ex M_L_law lv 658 l st w = Ex M_L_law lv 659 l (.int 1 :: st) w)
  ∧ (∀ (lv : Nat) (l : LX) (st : List Value) (x y : Int32) (w : AH), Ex M_L_law lv 659 l (.int y :: .int x :: st) w = Ex M_L_law lv 660 l (.int (x + y) :: st) w)
  ∧ (∀ (lv : Nat) (l : LX) (st : List Value) (a : Nat) (i : Int32) (w : AH), Ex M_L_law lv 660 l (.int i :: .ref a :: st) w = if (aI (hg w a) i).isSome = true then Ex M_L_law lv 661 l (.int (vI (aI (hg w a) i)) :: st) w else none)
  ∧ (∀ (lv : Nat) (l : LX) (b : Nat) (a0 : Int32) (w : AH), Ex M_L_law lv 661 l (.int a0 :: .ref b :: []) w = if clK (hg w b) = 10 then (if (Call M_X11_loose 60 [.ref b, .int a0] w).isSome = true then Ex M_L_law lv 664 l (pushR (cV (Call M_X11_loose 60 [.ref b, .int a0] w)) []) (cW (Call M_X11_loose 60 [.ref b, .int a0] w) w) else none) else none)
  ∧ (∀ (lv : Nat) (st : List Value) (t : LX) (o0 o1 : Option Value) (x : Nat) (w : AH), Ex M_L_law lv 664 (o0 :: o1 :: some (.ref x) :: t) st w = Ex M_L_law lv 665 (o0 :: o1 :: some (.ref x) :: t) (.ref x :: st) w)
  ∧ (∀ (lv : Nat) (st : List Value) (t : LX) (o0 o1 : Option Value) (w : AH), Ex M_L_law lv 664 (o0 :: o1 :: some (.null) :: t) st w = Ex M_L_law lv 665 (o0 :: o1 :: some (.null) :: t) (.null :: st) w)
  ∧ (∀ (lv : Nat) (st : List Value) (t : LX) (x : Nat) (w : AH), Ex M_L_law lv 665 (some (.ref x) :: t) st w = Ex M_L_law lv 666 (some (.ref x) :: t) (.ref x :: st) w)
  ∧ (∀ (lv : Nat) (st : List Value) (t : LX) (w : AH), Ex M_L_law lv 665 (some (.null) :: t) st w = Ex M_L_law lv 666 (some (.null) :: t) (.null :: st) w)
  ∧ (∀ (lv : Nat) (st : List Value) (t : LX) (o0 o1 o2 : Option Value) (x : Int32) (w : AH), Ex M_L_law lv 666 (o0 :: o1 :: o2 :: some (.int x) :: t) st w = Ex M_L_law lv 667 (o0 :: o1 :: o2 :: some (.int x) :: t) (.int x :: st) w)
  ∧ (∀ (lv : Nat) (l : LX) (st : List Value) (w : AH), Ex M_L_law lv 667 l st w = Ex M_L_law lv 668 l (.int 1 :: st) w)
  ∧ (∀ (lv : Nat) (l : LX) (st : List Value) (x y : Int32) (w : AH), Ex M_L_law lv 668 l (.int y :: .int x :: st) w = Ex M_L_law lv 669 l (.int (x + y) :: st) w)
  ∧ (∀ (lv : Nat) (l : LX) (st : List Value) (a : Nat) (i : Int32) (w : AH), Ex M_L_law lv 669 l (.int i :: .ref a :: st) w = if (aI (hg w a) i).isSome = true then Ex M_L_law lv 670 l (.int (vI (aI (hg w a) i)) :: st) w else none)
  ∧ (∀ (lv : Nat) (l : LX) (b : Nat) (a0 : Int32) (s0 : Int32) (w : AH), Ex M_L_law lv 670 l (.int a0 :: .ref b :: [.int s0]) w = if clK (hg w b) = 11 then (if (Call M_X12_loose 60 [.ref b, .int a0] w).isSome = true then Ex M_L_law lv 673 l (pushR (cV (Call M_X12_loose 60 [.ref b, .int a0] w)) [.int s0]) (cW (Call M_X12_loose 60 [.ref b, .int a0] w) w) else none) else none)
  ∧ (∀ (lv : Nat) (l : LX) (st : List Value) (x y : Int32) (w : AH), Ex M_L_law lv 673 l (.int y :: .int x :: st) w = if x = y then Ex M_L_law lv 1472 l st w else Ex M_L_law lv 676 l st w)
  ∧ (∀ (lv : Nat) (l : LX) (st : List Value) (w : AH), Ex M_L_law lv 676 l st w = Ex M_L_law lv 677 l (.int 0 :: st) w)
  ∧ (∀ (lv : Nat) (l : LX) (x : Int32) (w : AH), Ex M_L_law lv 677 l [.int x] w = if x = 0 ∨ x = 1 then some (some (.int x), w) else none)
  ∧ (∀ (lv : Nat) (st : List Value) (t : LX) (o0 : Option Value) (x : Nat) (w : AH), Ex M_L_law lv 678 (o0 :: some (.ref x) :: t) st w = Ex M_L_law lv 679 (o0 :: some (.ref x) :: t) (.ref x :: st) w)
  ∧ (∀ (lv : Nat) (st : List Value) (t : LX) (o0 : Option Value) (w : AH), Ex M_L_law lv 678 (o0 :: some (.null) :: t) st w = Ex M_L_law lv 679 (o0 :: some (.null) :: t) (.null :: st) w)
  ∧ (∀ (lv : Nat) (st : List Value) (t : LX) (x : Nat) (w : AH), Ex M_L_law lv 679 (some (.ref x) :: t) st w = Ex M_L_law lv 680 (some (.ref x) :: t) (.ref x :: st) w) :=
  ⟨(fun lv st t w => Ex_M (i := .aload_n 0) (n := 1) (by decide +kernel) rfl rfl rfl),
   (fun lv st t o0 o1 o2 x w => Ex_M (i := .iload_n 3) (n := 1) (by decide +kernel) rfl rfl rfl),
   (fun lv l st w => Ex_A (i := .iconst 3) (n := 1) (by decide +kernel) rfl rfl),
   (fun lv l st x y w => Ex_A (i := .iadd) (n := 1) (by decide +kernel) rfl rfl),
   (fun lv l st a i w => Ex_ial (by decide +kernel : decode M_L_law.2.1 618 = .ok (.iaload, 1)) rfl),
   (fun lv st t x w => Ex_M (i := .aload_n 0) (n := 1) (by decide +kernel) rfl rfl rfl),
   (fun lv st t w => Ex_M (i := .aload_n 0) (n := 1) (by decide +kernel) rfl rfl rfl),
   (fun lv st t o0 o1 o2 x w => Ex_M (i := .iload_n 3) (n := 1) (by decide +kernel) rfl rfl rfl),
   (fun lv l st w => Ex_A (i := .iconst 4) (n := 1) (by decide +kernel) rfl rfl),
   (fun lv l st x y w => Ex_A (i := .iadd) (n := 1) (by decide +kernel) rfl rfl),
   (fun lv l st a i w => Ex_ial (by decide +kernel : decode M_L_law.2.1 623 = .ok (.iaload, 1)) rfl),
   (fun lv l b a0 a1 a2 a3 s0 w => Ex_callV (by decide +kernel : decode M_L_law.2.1 624 = .ok (.invokevirtual 68, 3)) rfl (by rfl : resM (mCn M_L_law) 68 = some (2, M_X12_law)) rfl (by rfl) (Nat.le_of_ble_eq_true rfl) (by decide +kernel) (sLv_lt (by decide +kernel))),
   (fun lv l st x y w => Ex_icmp_eq (by decide +kernel : decode M_L_law.2.1 627 = .ok (.if_icmp .eq 845, 3)) rfl rfl),
   (fun lv l st w => Ex_A (i := .iconst 0) (n := 1) (by decide +kernel) rfl rfl),
   (fun lv l x w => Ex_zret (by decide +kernel : decode M_L_law.2.1 631 = .ok (.ireturn, 1)) rfl),
   (fun lv st t o0 x w => Ex_M (i := .aload_n 1) (n := 1) (by decide +kernel) rfl rfl rfl),
   (fun lv st t o0 w => Ex_M (i := .aload_n 1) (n := 1) (by decide +kernel) rfl rfl rfl),
   (fun lv st t x w => Ex_M (i := .aload_n 0) (n := 1) (by decide +kernel) rfl rfl rfl),
   (fun lv st t w => Ex_M (i := .aload_n 0) (n := 1) (by decide +kernel) rfl rfl rfl),
   (fun lv st t o0 o1 o2 x w => Ex_M (i := .iload_n 3) (n := 1) (by decide +kernel) rfl rfl rfl),
   (fun lv l st w => Ex_A (i := .iconst 1) (n := 1) (by decide +kernel) rfl rfl),
   (fun lv l st x y w => Ex_A (i := .iadd) (n := 1) (by decide +kernel) rfl rfl),
   (fun lv l st a i w => Ex_ial (by decide +kernel : decode M_L_law.2.1 637 = .ok (.iaload, 1)) rfl),
   (fun lv l b a0 w => Ex_callV (by decide +kernel : decode M_L_law.2.1 638 = .ok (.invokevirtual 69, 3)) rfl (by rfl : resM (mCn M_L_law) 69 = some (2, M_X11_days)) rfl (by rfl) (Nat.le_of_ble_eq_true rfl) (by decide +kernel) (sLv_lt (by decide +kernel))),
   (fun lv st t o0 o1 x w => Ex_M (i := .aload_n 2) (n := 1) (by decide +kernel) rfl rfl rfl),
   (fun lv st t o0 o1 w => Ex_M (i := .aload_n 2) (n := 1) (by decide +kernel) rfl rfl rfl),
   (fun lv st t x w => Ex_M (i := .aload_n 0) (n := 1) (by decide +kernel) rfl rfl rfl),
   (fun lv st t w => Ex_M (i := .aload_n 0) (n := 1) (by decide +kernel) rfl rfl rfl),
   (fun lv st t o0 o1 o2 x w => Ex_M (i := .iload_n 3) (n := 1) (by decide +kernel) rfl rfl rfl),
   (fun lv l st w => Ex_A (i := .iconst 1) (n := 1) (by decide +kernel) rfl rfl),
   (fun lv l st x y w => Ex_A (i := .iadd) (n := 1) (by decide +kernel) rfl rfl),
   (fun lv l st a i w => Ex_ial (by decide +kernel : decode M_L_law.2.1 646 = .ok (.iaload, 1)) rfl),
   (fun lv l b a0 s0 w => Ex_callV (by decide +kernel : decode M_L_law.2.1 647 = .ok (.invokevirtual 72, 3)) rfl (by rfl : resM (mCn M_L_law) 72 = some (2, M_X12_days)) rfl (by rfl) (Nat.le_of_ble_eq_true rfl) (by decide +kernel) (sLv_lt (by decide +kernel))),
   (fun lv l st x y w => Ex_icmp_eq (by decide +kernel : decode M_L_law.2.1 650 = .ok (.if_icmp .eq 822, 3)) rfl rfl),
   (fun lv l st w => Ex_A (i := .iconst 0) (n := 1) (by decide +kernel) rfl rfl),
   (fun lv l x w => Ex_zret (by decide +kernel : decode M_L_law.2.1 654 = .ok (.ireturn, 1)) rfl),
   (fun lv st t o0 x w => Ex_M (i := .aload_n 1) (n := 1) (by decide +kernel) rfl rfl rfl),
   (fun lv st t o0 w => Ex_M (i := .aload_n 1) (n := 1) (by decide +kernel) rfl rfl rfl),
   (fun lv st t x w => Ex_M (i := .aload_n 0) (n := 1) (by decide +kernel) rfl rfl rfl),
   (fun lv st t w => Ex_M (i := .aload_n 0) (n := 1) (by decide +kernel) rfl rfl rfl),
   (fun lv st t o0 o1 o2 x w => Ex_M (i := .iload_n 3) (n := 1) (by decide +kernel) rfl rfl rfl),
   (fun lv l st w => Ex_A (i := .iconst 1) (n := 1) (by decide +kernel) rfl rfl),
   (fun lv l st x y w => Ex_A (i := .iadd) (n := 1) (by decide +kernel) rfl rfl),
   (fun lv l st a i w => Ex_ial (by decide +kernel : decode M_L_law.2.1 660 = .ok (.iaload, 1)) rfl),
   (fun lv l b a0 w => Ex_callV (by decide +kernel : decode M_L_law.2.1 661 = .ok (.invokevirtual 73, 3)) rfl (by rfl : resM (mCn M_L_law) 73 = some (2, M_X11_loose)) rfl (by rfl) (Nat.le_of_ble_eq_true rfl) (by decide +kernel) (sLv_lt (by decide +kernel))),
   (fun lv st t o0 o1 x w => Ex_M (i := .aload_n 2) (n := 1) (by decide +kernel) rfl rfl rfl),
   (fun lv st t o0 o1 w => Ex_M (i := .aload_n 2) (n := 1) (by decide +kernel) rfl rfl rfl),
   (fun lv st t x w => Ex_M (i := .aload_n 0) (n := 1) (by decide +kernel) rfl rfl rfl),
   (fun lv st t w => Ex_M (i := .aload_n 0) (n := 1) (by decide +kernel) rfl rfl rfl),
   (fun lv st t o0 o1 o2 x w => Ex_M (i := .iload_n 3) (n := 1) (by decide +kernel) rfl rfl rfl),
   (fun lv l st w => Ex_A (i := .iconst 1) (n := 1) (by decide +kernel) rfl rfl),
   (fun lv l st x y w => Ex_A (i := .iadd) (n := 1) (by decide +kernel) rfl rfl),
   (fun lv l st a i w => Ex_ial (by decide +kernel : decode M_L_law.2.1 669 = .ok (.iaload, 1)) rfl),
   (fun lv l b a0 s0 w => Ex_callV (by decide +kernel : decode M_L_law.2.1 670 = .ok (.invokevirtual 76, 3)) rfl (by rfl : resM (mCn M_L_law) 76 = some (2, M_X12_loose)) rfl (by rfl) (Nat.le_of_ble_eq_true rfl) (by decide +kernel) (sLv_lt (by decide +kernel))),
   (fun lv l st x y w => Ex_icmp_eq (by decide +kernel : decode M_L_law.2.1 673 = .ok (.if_icmp .eq 799, 3)) rfl rfl),
   (fun lv l st w => Ex_A (i := .iconst 0) (n := 1) (by decide +kernel) rfl rfl),
   (fun lv l x w => Ex_zret (by decide +kernel : decode M_L_law.2.1 677 = .ok (.ireturn, 1)) rfl),
   (fun lv st t o0 x w => Ex_M (i := .aload_n 1) (n := 1) (by decide +kernel) rfl rfl rfl),
   (fun lv st t o0 w => Ex_M (i := .aload_n 1) (n := 1) (by decide +kernel) rfl rfl rfl),
   (fun lv st t x w => Ex_M (i := .aload_n 0) (n := 1) (by decide +kernel) rfl rfl rfl)⟩
set_option maxRecDepth 20000 in
set_option maxHeartbeats 4000000 in
theorem R_L_law_p8 : (∀ (lv : Nat) (st : List Value) (t : LX) (w : AH), Ex M_L_law lv 679 (some (.null) :: t) st w = Ex M_L_law lv 680 (some (.null) :: t) (.null :: st) w)
  ∧ (∀ (lv : Nat) (st : List Value) (t : LX) (o0 o1 o2 : Option Value) (x : Int32) (w : AH), Ex M_L_law lv 680 (o0 :: o1 :: o2 :: some (.int x) :: t) st w = Ex M_L_law lv 681 (o0 :: o1 :: o2 :: some (.int x) :: t) (.int x :: st) w)
  ∧ (∀ (lv : Nat) (l : LX) (st : List Value) (w : AH), Ex M_L_law lv 681 l st w = Ex M_L_law lv 682 l (.int 1 :: st) w)
  ∧ (∀ (lv : Nat) (l : LX) (st : List Value) (x y : Int32) (w : AH), Ex M_L_law lv 682 l (.int y :: .int x :: st) w = Ex M_L_law lv 683 l (.int (x + y) :: st) w)
  ∧ (∀ (lv : Nat) (l : LX) (st : List Value) (a : Nat) (i : Int32) (w : AH), Ex M_L_law lv 683 l (.int i :: .ref a :: st) w = if (aI (hg w a) i).isSome = true then Ex M_L_law lv 684 l (.int (vI (aI (hg w a) i)) :: st) w else none)
  ∧ (∀ (lv : Nat) (l : LX) (b : Nat) (a0 : Int32) (w : AH), Ex M_L_law lv 684 l (.int a0 :: .ref b :: []) w = if clK (hg w b) = 10 then (if (Call M_X11_lands 60 [.ref b, .int a0] w).isSome = true then Ex M_L_law lv 687 l (pushR (cV (Call M_X11_lands 60 [.ref b, .int a0] w)) []) (cW (Call M_X11_lands 60 [.ref b, .int a0] w) w) else none) else none)
  ∧ (∀ (lv : Nat) (st : List Value) (t : LX) (o0 o1 : Option Value) (x : Nat) (w : AH), Ex M_L_law lv 687 (o0 :: o1 :: some (.ref x) :: t) st w = Ex M_L_law lv 688 (o0 :: o1 :: some (.ref x) :: t) (.ref x :: st) w)
  ∧ (∀ (lv : Nat) (st : List Value) (t : LX) (o0 o1 : Option Value) (w : AH), Ex M_L_law lv 687 (o0 :: o1 :: some (.null) :: t) st w = Ex M_L_law lv 688 (o0 :: o1 :: some (.null) :: t) (.null :: st) w)
  ∧ (∀ (lv : Nat) (st : List Value) (t : LX) (x : Nat) (w : AH), Ex M_L_law lv 688 (some (.ref x) :: t) st w = Ex M_L_law lv 689 (some (.ref x) :: t) (.ref x :: st) w)
  ∧ (∀ (lv : Nat) (st : List Value) (t : LX) (w : AH), Ex M_L_law lv 688 (some (.null) :: t) st w = Ex M_L_law lv 689 (some (.null) :: t) (.null :: st) w)
  ∧ (∀ (lv : Nat) (st : List Value) (t : LX) (o0 o1 o2 : Option Value) (x : Int32) (w : AH), Ex M_L_law lv 689 (o0 :: o1 :: o2 :: some (.int x) :: t) st w = Ex M_L_law lv 690 (o0 :: o1 :: o2 :: some (.int x) :: t) (.int x :: st) w)
  ∧ (∀ (lv : Nat) (l : LX) (st : List Value) (w : AH), Ex M_L_law lv 690 l st w = Ex M_L_law lv 691 l (.int 1 :: st) w)
  ∧ (∀ (lv : Nat) (l : LX) (st : List Value) (x y : Int32) (w : AH), Ex M_L_law lv 691 l (.int y :: .int x :: st) w = Ex M_L_law lv 692 l (.int (x + y) :: st) w)
  ∧ (∀ (lv : Nat) (l : LX) (st : List Value) (a : Nat) (i : Int32) (w : AH), Ex M_L_law lv 692 l (.int i :: .ref a :: st) w = if (aI (hg w a) i).isSome = true then Ex M_L_law lv 693 l (.int (vI (aI (hg w a) i)) :: st) w else none)
  ∧ (∀ (lv : Nat) (l : LX) (b : Nat) (a0 : Int32) (s0 : Int32) (w : AH), Ex M_L_law lv 693 l (.int a0 :: .ref b :: [.int s0]) w = if clK (hg w b) = 11 then (if (Call M_X12_lands 60 [.ref b, .int a0] w).isSome = true then Ex M_L_law lv 696 l (pushR (cV (Call M_X12_lands 60 [.ref b, .int a0] w)) [.int s0]) (cW (Call M_X12_lands 60 [.ref b, .int a0] w) w) else none) else none)
  ∧ (∀ (lv : Nat) (l : LX) (st : List Value) (x y : Int32) (w : AH), Ex M_L_law lv 696 l (.int y :: .int x :: st) w = if x = y then Ex M_L_law lv 1472 l st w else Ex M_L_law lv 699 l st w)
  ∧ (∀ (lv : Nat) (l : LX) (st : List Value) (w : AH), Ex M_L_law lv 699 l st w = Ex M_L_law lv 700 l (.int 0 :: st) w)
  ∧ (∀ (lv : Nat) (l : LX) (x : Int32) (w : AH), Ex M_L_law lv 700 l [.int x] w = if x = 0 ∨ x = 1 then some (some (.int x), w) else none)
  ∧ (∀ (lv : Nat) (st : List Value) (t : LX) (o0 : Option Value) (x : Nat) (w : AH), Ex M_L_law lv 701 (o0 :: some (.ref x) :: t) st w = Ex M_L_law lv 702 (o0 :: some (.ref x) :: t) (.ref x :: st) w)
  ∧ (∀ (lv : Nat) (st : List Value) (t : LX) (o0 : Option Value) (w : AH), Ex M_L_law lv 701 (o0 :: some (.null) :: t) st w = Ex M_L_law lv 702 (o0 :: some (.null) :: t) (.null :: st) w)
  ∧ (∀ (lv : Nat) (st : List Value) (t : LX) (x : Nat) (w : AH), Ex M_L_law lv 702 (some (.ref x) :: t) st w = Ex M_L_law lv 703 (some (.ref x) :: t) (.ref x :: st) w)
  ∧ (∀ (lv : Nat) (st : List Value) (t : LX) (w : AH), Ex M_L_law lv 702 (some (.null) :: t) st w = Ex M_L_law lv 703 (some (.null) :: t) (.null :: st) w)
  ∧ (∀ (lv : Nat) (st : List Value) (t : LX) (o0 o1 o2 : Option Value) (x : Int32) (w : AH), Ex M_L_law lv 703 (o0 :: o1 :: o2 :: some (.int x) :: t) st w = Ex M_L_law lv 704 (o0 :: o1 :: o2 :: some (.int x) :: t) (.int x :: st) w)
  ∧ (∀ (lv : Nat) (l : LX) (st : List Value) (w : AH), Ex M_L_law lv 704 l st w = Ex M_L_law lv 705 l (.int 1 :: st) w)
  ∧ (∀ (lv : Nat) (l : LX) (st : List Value) (x y : Int32) (w : AH), Ex M_L_law lv 705 l (.int y :: .int x :: st) w = Ex M_L_law lv 706 l (.int (x + y) :: st) w)
  ∧ (∀ (lv : Nat) (l : LX) (st : List Value) (a : Nat) (i : Int32) (w : AH), Ex M_L_law lv 706 l (.int i :: .ref a :: st) w = if (aI (hg w a) i).isSome = true then Ex M_L_law lv 707 l (.int (vI (aI (hg w a) i)) :: st) w else none)
  ∧ (∀ (lv : Nat) (l : LX) (b : Nat) (a0 : Int32) (w : AH), Ex M_L_law lv 707 l (.int a0 :: .ref b :: []) w = if clK (hg w b) = 10 then (if (Call M_X11_greatest 60 [.ref b, .int a0] w).isSome = true then Ex M_L_law lv 710 l (pushR (cV (Call M_X11_greatest 60 [.ref b, .int a0] w)) []) (cW (Call M_X11_greatest 60 [.ref b, .int a0] w) w) else none) else none)
  ∧ (∀ (lv : Nat) (st : List Value) (t : LX) (o0 o1 : Option Value) (x : Nat) (w : AH), Ex M_L_law lv 710 (o0 :: o1 :: some (.ref x) :: t) st w = Ex M_L_law lv 711 (o0 :: o1 :: some (.ref x) :: t) (.ref x :: st) w)
  ∧ (∀ (lv : Nat) (st : List Value) (t : LX) (o0 o1 : Option Value) (w : AH), Ex M_L_law lv 710 (o0 :: o1 :: some (.null) :: t) st w = Ex M_L_law lv 711 (o0 :: o1 :: some (.null) :: t) (.null :: st) w)
  ∧ (∀ (lv : Nat) (st : List Value) (t : LX) (x : Nat) (w : AH), Ex M_L_law lv 711 (some (.ref x) :: t) st w = Ex M_L_law lv 712 (some (.ref x) :: t) (.ref x :: st) w)
  ∧ (∀ (lv : Nat) (st : List Value) (t : LX) (w : AH), Ex M_L_law lv 711 (some (.null) :: t) st w = Ex M_L_law lv 712 (some (.null) :: t) (.null :: st) w)
  ∧ (∀ (lv : Nat) (st : List Value) (t : LX) (o0 o1 o2 : Option Value) (x : Int32) (w : AH), Ex M_L_law lv 712 (o0 :: o1 :: o2 :: some (.int x) :: t) st w = Ex M_L_law lv 713 (o0 :: o1 :: o2 :: some (.int x) :: t) (.int x :: st) w)
  ∧ (∀ (lv : Nat) (l : LX) (st : List Value) (w : AH), Ex M_L_law lv 713 l st w = Ex M_L_law lv 714 l (.int 1 :: st) w)
  ∧ (∀ (lv : Nat) (l : LX) (st : List Value) (x y : Int32) (w : AH), Ex M_L_law lv 714 l (.int y :: .int x :: st) w = Ex M_L_law lv 715 l (.int (x + y) :: st) w)
  ∧ (∀ (lv : Nat) (l : LX) (st : List Value) (a : Nat) (i : Int32) (w : AH), Ex M_L_law lv 715 l (.int i :: .ref a :: st) w = if (aI (hg w a) i).isSome = true then Ex M_L_law lv 716 l (.int (vI (aI (hg w a) i)) :: st) w else none)
  ∧ (∀ (lv : Nat) (l : LX) (b : Nat) (a0 : Int32) (s0 : Int32) (w : AH), Ex M_L_law lv 716 l (.int a0 :: .ref b :: [.int s0]) w = if clK (hg w b) = 11 then (if (Call M_X12_greatest 60 [.ref b, .int a0] w).isSome = true then Ex M_L_law lv 719 l (pushR (cV (Call M_X12_greatest 60 [.ref b, .int a0] w)) [.int s0]) (cW (Call M_X12_greatest 60 [.ref b, .int a0] w) w) else none) else none)
  ∧ (∀ (lv : Nat) (l : LX) (st : List Value) (x y : Int32) (w : AH), Ex M_L_law lv 719 l (.int y :: .int x :: st) w = if x = y then Ex M_L_law lv 1472 l st w else Ex M_L_law lv 722 l st w)
  ∧ (∀ (lv : Nat) (l : LX) (st : List Value) (w : AH), Ex M_L_law lv 722 l st w = Ex M_L_law lv 723 l (.int 0 :: st) w)
  ∧ (∀ (lv : Nat) (l : LX) (x : Int32) (w : AH), Ex M_L_law lv 723 l [.int x] w = if x = 0 ∨ x = 1 then some (some (.int x), w) else none)
  ∧ (∀ (lv : Nat) (st : List Value) (t : LX) (o0 : Option Value) (x : Nat) (w : AH), Ex M_L_law lv 724 (o0 :: some (.ref x) :: t) st w = Ex M_L_law lv 725 (o0 :: some (.ref x) :: t) (.ref x :: st) w)
  ∧ (∀ (lv : Nat) (st : List Value) (t : LX) (o0 : Option Value) (w : AH), Ex M_L_law lv 724 (o0 :: some (.null) :: t) st w = Ex M_L_law lv 725 (o0 :: some (.null) :: t) (.null :: st) w)
  ∧ (∀ (lv : Nat) (st : List Value) (t : LX) (x : Nat) (w : AH), Ex M_L_law lv 725 (some (.ref x) :: t) st w = Ex M_L_law lv 726 (some (.ref x) :: t) (.ref x :: st) w)
  ∧ (∀ (lv : Nat) (st : List Value) (t : LX) (w : AH), Ex M_L_law lv 725 (some (.null) :: t) st w = Ex M_L_law lv 726 (some (.null) :: t) (.null :: st) w)
  ∧ (∀ (lv : Nat) (st : List Value) (t : LX) (o0 o1 o2 : Option Value) (x : Int32) (w : AH), Ex M_L_law lv 726 (o0 :: o1 :: o2 :: some (.int x) :: t) st w = Ex M_L_law lv 727 (o0 :: o1 :: o2 :: some (.int x) :: t) (.int x :: st) w)
  ∧ (∀ (lv : Nat) (l : LX) (st : List Value) (w : AH), Ex M_L_law lv 727 l st w = Ex M_L_law lv 728 l (.int 1 :: st) w)
  ∧ (∀ (lv : Nat) (l : LX) (st : List Value) (x y : Int32) (w : AH), Ex M_L_law lv 728 l (.int y :: .int x :: st) w = Ex M_L_law lv 729 l (.int (x + y) :: st) w)
  ∧ (∀ (lv : Nat) (l : LX) (st : List Value) (a : Nat) (i : Int32) (w : AH), Ex M_L_law lv 729 l (.int i :: .ref a :: st) w = if (aI (hg w a) i).isSome = true then Ex M_L_law lv 730 l (.int (vI (aI (hg w a) i)) :: st) w else none)
  ∧ (∀ (lv : Nat) (l : LX) (b : Nat) (a0 : Int32) (w : AH), Ex M_L_law lv 730 l (.int a0 :: .ref b :: []) w = if clK (hg w b) = 10 then (if (Call M_X11_nextTo 60 [.ref b, .int a0] w).isSome = true then Ex M_L_law lv 733 l (pushR (cV (Call M_X11_nextTo 60 [.ref b, .int a0] w)) []) (cW (Call M_X11_nextTo 60 [.ref b, .int a0] w) w) else none) else none)
  ∧ (∀ (lv : Nat) (st : List Value) (t : LX) (o0 o1 : Option Value) (x : Nat) (w : AH), Ex M_L_law lv 733 (o0 :: o1 :: some (.ref x) :: t) st w = Ex M_L_law lv 734 (o0 :: o1 :: some (.ref x) :: t) (.ref x :: st) w)
  ∧ (∀ (lv : Nat) (st : List Value) (t : LX) (o0 o1 : Option Value) (w : AH), Ex M_L_law lv 733 (o0 :: o1 :: some (.null) :: t) st w = Ex M_L_law lv 734 (o0 :: o1 :: some (.null) :: t) (.null :: st) w)
  ∧ (∀ (lv : Nat) (st : List Value) (t : LX) (x : Nat) (w : AH), Ex M_L_law lv 734 (some (.ref x) :: t) st w = Ex M_L_law lv 735 (some (.ref x) :: t) (.ref x :: st) w)
  ∧ (∀ (lv : Nat) (st : List Value) (t : LX) (w : AH), Ex M_L_law lv 734 (some (.null) :: t) st w = Ex M_L_law lv 735 (some (.null) :: t) (.null :: st) w)
  ∧ (∀ (lv : Nat) (st : List Value) (t : LX) (o0 o1 o2 : Option Value) (x : Int32) (w : AH), Ex M_L_law lv 735 (o0 :: o1 :: o2 :: some (.int x) :: t) st w = Ex M_L_law lv 736 (o0 :: o1 :: o2 :: some (.int x) :: t) (.int x :: st) w)
  ∧ (∀ (lv : Nat) (l : LX) (st : List Value) (w : AH), Ex M_L_law lv 736 l st w = Ex M_L_law lv 737 l (.int 1 :: st) w)
  ∧ (∀ (lv : Nat) (l : LX) (st : List Value) (x y : Int32) (w : AH), Ex M_L_law lv 737 l (.int y :: .int x :: st) w = Ex M_L_law lv 738 l (.int (x + y) :: st) w)
  ∧ (∀ (lv : Nat) (l : LX) (st : List Value) (a : Nat) (i : Int32) (w : AH), Ex M_L_law lv 738 l (.int i :: .ref a :: st) w = if (aI (hg w a) i).isSome = true then Ex M_L_law lv 739 l (.int (vI (aI (hg w a) i)) :: st) w else none)
  ∧ (∀ (lv : Nat) (l : LX) (b : Nat) (a0 : Int32) (s0 : Int32) (w : AH), Ex M_L_law lv 739 l (.int a0 :: .ref b :: [.int s0]) w = if clK (hg w b) = 11 then (if (Call M_X12_nextTo 60 [.ref b, .int a0] w).isSome = true then Ex M_L_law lv 742 l (pushR (cV (Call M_X12_nextTo 60 [.ref b, .int a0] w)) [.int s0]) (cW (Call M_X12_nextTo 60 [.ref b, .int a0] w) w) else none) else none)
  ∧ (∀ (lv : Nat) (l : LX) (st : List Value) (x y : Int32) (w : AH), Ex M_L_law lv 742 l (.int y :: .int x :: st) w = if x = y then Ex M_L_law lv 1472 l st w else Ex M_L_law lv 745 l st w)
  ∧ (∀ (lv : Nat) (l : LX) (st : List Value) (w : AH), Ex M_L_law lv 745 l st w = Ex M_L_law lv 746 l (.int 0 :: st) w)
  ∧ (∀ (lv : Nat) (l : LX) (x : Int32) (w : AH), Ex M_L_law lv 746 l [.int x] w = if x = 0 ∨ x = 1 then some (some (.int x), w) else none) :=
  ⟨(fun lv st t w => Ex_M (i := .aload_n 0) (n := 1) (by decide +kernel) rfl rfl rfl),
   (fun lv st t o0 o1 o2 x w => Ex_M (i := .iload_n 3) (n := 1) (by decide +kernel) rfl rfl rfl),
   (fun lv l st w => Ex_A (i := .iconst 1) (n := 1) (by decide +kernel) rfl rfl),
   (fun lv l st x y w => Ex_A (i := .iadd) (n := 1) (by decide +kernel) rfl rfl),
   (fun lv l st a i w => Ex_ial (by decide +kernel : decode M_L_law.2.1 683 = .ok (.iaload, 1)) rfl),
   (fun lv l b a0 w => Ex_callV (by decide +kernel : decode M_L_law.2.1 684 = .ok (.invokevirtual 77, 3)) rfl (by rfl : resM (mCn M_L_law) 77 = some (2, M_X11_lands)) rfl (by rfl) (Nat.le_of_ble_eq_true rfl) (by decide +kernel) (sLv_lt (by decide +kernel))),
   (fun lv st t o0 o1 x w => Ex_M (i := .aload_n 2) (n := 1) (by decide +kernel) rfl rfl rfl),
   (fun lv st t o0 o1 w => Ex_M (i := .aload_n 2) (n := 1) (by decide +kernel) rfl rfl rfl),
   (fun lv st t x w => Ex_M (i := .aload_n 0) (n := 1) (by decide +kernel) rfl rfl rfl),
   (fun lv st t w => Ex_M (i := .aload_n 0) (n := 1) (by decide +kernel) rfl rfl rfl),
   (fun lv st t o0 o1 o2 x w => Ex_M (i := .iload_n 3) (n := 1) (by decide +kernel) rfl rfl rfl),
   (fun lv l st w => Ex_A (i := .iconst 1) (n := 1) (by decide +kernel) rfl rfl),
   (fun lv l st x y w => Ex_A (i := .iadd) (n := 1) (by decide +kernel) rfl rfl),
   (fun lv l st a i w => Ex_ial (by decide +kernel : decode M_L_law.2.1 692 = .ok (.iaload, 1)) rfl),
   (fun lv l b a0 s0 w => Ex_callV (by decide +kernel : decode M_L_law.2.1 693 = .ok (.invokevirtual 80, 3)) rfl (by rfl : resM (mCn M_L_law) 80 = some (2, M_X12_lands)) rfl (by rfl) (Nat.le_of_ble_eq_true rfl) (by decide +kernel) (sLv_lt (by decide +kernel))),
   (fun lv l st x y w => Ex_icmp_eq (by decide +kernel : decode M_L_law.2.1 696 = .ok (.if_icmp .eq 776, 3)) rfl rfl),
   (fun lv l st w => Ex_A (i := .iconst 0) (n := 1) (by decide +kernel) rfl rfl),
   (fun lv l x w => Ex_zret (by decide +kernel : decode M_L_law.2.1 700 = .ok (.ireturn, 1)) rfl),
   (fun lv st t o0 x w => Ex_M (i := .aload_n 1) (n := 1) (by decide +kernel) rfl rfl rfl),
   (fun lv st t o0 w => Ex_M (i := .aload_n 1) (n := 1) (by decide +kernel) rfl rfl rfl),
   (fun lv st t x w => Ex_M (i := .aload_n 0) (n := 1) (by decide +kernel) rfl rfl rfl),
   (fun lv st t w => Ex_M (i := .aload_n 0) (n := 1) (by decide +kernel) rfl rfl rfl),
   (fun lv st t o0 o1 o2 x w => Ex_M (i := .iload_n 3) (n := 1) (by decide +kernel) rfl rfl rfl),
   (fun lv l st w => Ex_A (i := .iconst 1) (n := 1) (by decide +kernel) rfl rfl),
   (fun lv l st x y w => Ex_A (i := .iadd) (n := 1) (by decide +kernel) rfl rfl),
   (fun lv l st a i w => Ex_ial (by decide +kernel : decode M_L_law.2.1 706 = .ok (.iaload, 1)) rfl),
   (fun lv l b a0 w => Ex_callV (by decide +kernel : decode M_L_law.2.1 707 = .ok (.invokevirtual 81, 3)) rfl (by rfl : resM (mCn M_L_law) 81 = some (2, M_X11_greatest)) rfl (by rfl) (Nat.le_of_ble_eq_true rfl) (by decide +kernel) (sLv_lt (by decide +kernel))),
   (fun lv st t o0 o1 x w => Ex_M (i := .aload_n 2) (n := 1) (by decide +kernel) rfl rfl rfl),
   (fun lv st t o0 o1 w => Ex_M (i := .aload_n 2) (n := 1) (by decide +kernel) rfl rfl rfl),
   (fun lv st t x w => Ex_M (i := .aload_n 0) (n := 1) (by decide +kernel) rfl rfl rfl),
   (fun lv st t w => Ex_M (i := .aload_n 0) (n := 1) (by decide +kernel) rfl rfl rfl),
   (fun lv st t o0 o1 o2 x w => Ex_M (i := .iload_n 3) (n := 1) (by decide +kernel) rfl rfl rfl),
   (fun lv l st w => Ex_A (i := .iconst 1) (n := 1) (by decide +kernel) rfl rfl),
   (fun lv l st x y w => Ex_A (i := .iadd) (n := 1) (by decide +kernel) rfl rfl),
   (fun lv l st a i w => Ex_ial (by decide +kernel : decode M_L_law.2.1 715 = .ok (.iaload, 1)) rfl),
   (fun lv l b a0 s0 w => Ex_callV (by decide +kernel : decode M_L_law.2.1 716 = .ok (.invokevirtual 84, 3)) rfl (by rfl : resM (mCn M_L_law) 84 = some (2, M_X12_greatest)) rfl (by rfl) (Nat.le_of_ble_eq_true rfl) (by decide +kernel) (sLv_lt (by decide +kernel))),
   (fun lv l st x y w => Ex_icmp_eq (by decide +kernel : decode M_L_law.2.1 719 = .ok (.if_icmp .eq 753, 3)) rfl rfl),
   (fun lv l st w => Ex_A (i := .iconst 0) (n := 1) (by decide +kernel) rfl rfl),
   (fun lv l x w => Ex_zret (by decide +kernel : decode M_L_law.2.1 723 = .ok (.ireturn, 1)) rfl),
   (fun lv st t o0 x w => Ex_M (i := .aload_n 1) (n := 1) (by decide +kernel) rfl rfl rfl),
   (fun lv st t o0 w => Ex_M (i := .aload_n 1) (n := 1) (by decide +kernel) rfl rfl rfl),
   (fun lv st t x w => Ex_M (i := .aload_n 0) (n := 1) (by decide +kernel) rfl rfl rfl),
   (fun lv st t w => Ex_M (i := .aload_n 0) (n := 1) (by decide +kernel) rfl rfl rfl),
   (fun lv st t o0 o1 o2 x w => Ex_M (i := .iload_n 3) (n := 1) (by decide +kernel) rfl rfl rfl),
   (fun lv l st w => Ex_A (i := .iconst 1) (n := 1) (by decide +kernel) rfl rfl),
   (fun lv l st x y w => Ex_A (i := .iadd) (n := 1) (by decide +kernel) rfl rfl),
   (fun lv l st a i w => Ex_ial (by decide +kernel : decode M_L_law.2.1 729 = .ok (.iaload, 1)) rfl),
   (fun lv l b a0 w => Ex_callV (by decide +kernel : decode M_L_law.2.1 730 = .ok (.invokevirtual 85, 3)) rfl (by rfl : resM (mCn M_L_law) 85 = some (2, M_X11_nextTo)) rfl (by rfl) (Nat.le_of_ble_eq_true rfl) (by decide +kernel) (sLv_lt (by decide +kernel))),
   (fun lv st t o0 o1 x w => Ex_M (i := .aload_n 2) (n := 1) (by decide +kernel) rfl rfl rfl),
   (fun lv st t o0 o1 w => Ex_M (i := .aload_n 2) (n := 1) (by decide +kernel) rfl rfl rfl),
   (fun lv st t x w => Ex_M (i := .aload_n 0) (n := 1) (by decide +kernel) rfl rfl rfl),
   (fun lv st t w => Ex_M (i := .aload_n 0) (n := 1) (by decide +kernel) rfl rfl rfl),
   (fun lv st t o0 o1 o2 x w => Ex_M (i := .iload_n 3) (n := 1) (by decide +kernel) rfl rfl rfl),
   (fun lv l st w => Ex_A (i := .iconst 1) (n := 1) (by decide +kernel) rfl rfl),
   (fun lv l st x y w => Ex_A (i := .iadd) (n := 1) (by decide +kernel) rfl rfl),
   (fun lv l st a i w => Ex_ial (by decide +kernel : decode M_L_law.2.1 738 = .ok (.iaload, 1)) rfl),
   (fun lv l b a0 s0 w => Ex_callV (by decide +kernel : decode M_L_law.2.1 739 = .ok (.invokevirtual 88, 3)) rfl (by rfl : resM (mCn M_L_law) 88 = some (2, M_X12_nextTo)) rfl (by rfl) (Nat.le_of_ble_eq_true rfl) (by decide +kernel) (sLv_lt (by decide +kernel))),
   (fun lv l st x y w => Ex_icmp_eq (by decide +kernel : decode M_L_law.2.1 742 = .ok (.if_icmp .eq 730, 3)) rfl rfl),
   (fun lv l st w => Ex_A (i := .iconst 0) (n := 1) (by decide +kernel) rfl rfl),
   (fun lv l x w => Ex_zret (by decide +kernel : decode M_L_law.2.1 746 = .ok (.ireturn, 1)) rfl)⟩
set_option maxRecDepth 20000 in
set_option maxHeartbeats 4000000 in
theorem R_L_law_p9 : (∀ (lv : Nat) (st : List Value) (t : LX) (o0 : Option Value) (x : Nat) (w : AH), Ex M_L_law lv 747 (o0 :: some (.ref x) :: t) st w = Ex M_L_law lv 748 (o0 :: some (.ref x) :: t) (.ref x :: st) w)
  ∧ (∀ (lv : Nat) (st : List Value) (t : LX) (o0 : Option Value) (w : AH), Ex M_L_law lv 747 (o0 :: some (.null) :: t) st w = Ex M_L_law lv 748 (o0 :: some (.null) :: t) (.null :: st) w)
  ∧ (∀ (lv : Nat) (st : List Value) (t : LX) (x : Nat) (w : AH), Ex M_L_law lv 748 (some (.ref x) :: t) st w = Ex M_L_law lv 749 (some (.ref x) :: t) (.ref x :: st) w)
  ∧ (∀ (lv : Nat) (st : List Value) (t : LX) (w : AH), Ex M_L_law lv 748 (some (.null) :: t) st w = Ex M_L_law lv 749 (some (.null) :: t) (.null :: st) w)
  ∧ (∀ (lv : Nat) (st : List Value) (t : LX) (o0 o1 o2 : Option Value) (x : Int32) (w : AH), Ex M_L_law lv 749 (o0 :: o1 :: o2 :: some (.int x) :: t) st w = Ex M_L_law lv 750 (o0 :: o1 :: o2 :: some (.int x) :: t) (.int x :: st) w)
  ∧ (∀ (lv : Nat) (l : LX) (st : List Value) (w : AH), Ex M_L_law lv 750 l st w = Ex M_L_law lv 751 l (.int 1 :: st) w)
  ∧ (∀ (lv : Nat) (l : LX) (st : List Value) (x y : Int32) (w : AH), Ex M_L_law lv 751 l (.int y :: .int x :: st) w = Ex M_L_law lv 752 l (.int (x + y) :: st) w)
  ∧ (∀ (lv : Nat) (l : LX) (st : List Value) (a : Nat) (i : Int32) (w : AH), Ex M_L_law lv 752 l (.int i :: .ref a :: st) w = if (aI (hg w a) i).isSome = true then Ex M_L_law lv 753 l (.int (vI (aI (hg w a) i)) :: st) w else none)
  ∧ (∀ (lv : Nat) (st : List Value) (t : LX) (x : Nat) (w : AH), Ex M_L_law lv 753 (some (.ref x) :: t) st w = Ex M_L_law lv 754 (some (.ref x) :: t) (.ref x :: st) w)
  ∧ (∀ (lv : Nat) (st : List Value) (t : LX) (w : AH), Ex M_L_law lv 753 (some (.null) :: t) st w = Ex M_L_law lv 754 (some (.null) :: t) (.null :: st) w)
  ∧ (∀ (lv : Nat) (st : List Value) (t : LX) (o0 o1 o2 : Option Value) (x : Int32) (w : AH), Ex M_L_law lv 754 (o0 :: o1 :: o2 :: some (.int x) :: t) st w = Ex M_L_law lv 755 (o0 :: o1 :: o2 :: some (.int x) :: t) (.int x :: st) w)
  ∧ (∀ (lv : Nat) (l : LX) (st : List Value) (w : AH), Ex M_L_law lv 755 l st w = Ex M_L_law lv 756 l (.int 2 :: st) w)
  ∧ (∀ (lv : Nat) (l : LX) (st : List Value) (x y : Int32) (w : AH), Ex M_L_law lv 756 l (.int y :: .int x :: st) w = Ex M_L_law lv 757 l (.int (x + y) :: st) w)
  ∧ (∀ (lv : Nat) (l : LX) (st : List Value) (a : Nat) (i : Int32) (w : AH), Ex M_L_law lv 757 l (.int i :: .ref a :: st) w = if (aI (hg w a) i).isSome = true then Ex M_L_law lv 758 l (.int (vI (aI (hg w a) i)) :: st) w else none)
  ∧ (∀ (lv : Nat) (l : LX) (b : Nat) (a0 : Int32) (a1 : Int32) (w : AH), Ex M_L_law lv 758 l (.int a1 :: .int a0 :: .ref b :: []) w = if clK (hg w b) = 10 then (if (Call M_X11_frontier 60 [.ref b, .int a0, .int a1] w).isSome = true then Ex M_L_law lv 761 l (pushR (cV (Call M_X11_frontier 60 [.ref b, .int a0, .int a1] w)) []) (cW (Call M_X11_frontier 60 [.ref b, .int a0, .int a1] w) w) else none) else none)
  ∧ (∀ (lv : Nat) (st : List Value) (t : LX) (o0 o1 : Option Value) (x : Nat) (w : AH), Ex M_L_law lv 761 (o0 :: o1 :: some (.ref x) :: t) st w = Ex M_L_law lv 762 (o0 :: o1 :: some (.ref x) :: t) (.ref x :: st) w)
  ∧ (∀ (lv : Nat) (st : List Value) (t : LX) (o0 o1 : Option Value) (w : AH), Ex M_L_law lv 761 (o0 :: o1 :: some (.null) :: t) st w = Ex M_L_law lv 762 (o0 :: o1 :: some (.null) :: t) (.null :: st) w)
  ∧ (∀ (lv : Nat) (st : List Value) (t : LX) (x : Nat) (w : AH), Ex M_L_law lv 762 (some (.ref x) :: t) st w = Ex M_L_law lv 763 (some (.ref x) :: t) (.ref x :: st) w)
  ∧ (∀ (lv : Nat) (st : List Value) (t : LX) (w : AH), Ex M_L_law lv 762 (some (.null) :: t) st w = Ex M_L_law lv 763 (some (.null) :: t) (.null :: st) w)
  ∧ (∀ (lv : Nat) (st : List Value) (t : LX) (o0 o1 o2 : Option Value) (x : Int32) (w : AH), Ex M_L_law lv 763 (o0 :: o1 :: o2 :: some (.int x) :: t) st w = Ex M_L_law lv 764 (o0 :: o1 :: o2 :: some (.int x) :: t) (.int x :: st) w)
  ∧ (∀ (lv : Nat) (l : LX) (st : List Value) (w : AH), Ex M_L_law lv 764 l st w = Ex M_L_law lv 765 l (.int 1 :: st) w)
  ∧ (∀ (lv : Nat) (l : LX) (st : List Value) (x y : Int32) (w : AH), Ex M_L_law lv 765 l (.int y :: .int x :: st) w = Ex M_L_law lv 766 l (.int (x + y) :: st) w)
  ∧ (∀ (lv : Nat) (l : LX) (st : List Value) (a : Nat) (i : Int32) (w : AH), Ex M_L_law lv 766 l (.int i :: .ref a :: st) w = if (aI (hg w a) i).isSome = true then Ex M_L_law lv 767 l (.int (vI (aI (hg w a) i)) :: st) w else none)
  ∧ (∀ (lv : Nat) (st : List Value) (t : LX) (x : Nat) (w : AH), Ex M_L_law lv 767 (some (.ref x) :: t) st w = Ex M_L_law lv 768 (some (.ref x) :: t) (.ref x :: st) w)
  ∧ (∀ (lv : Nat) (st : List Value) (t : LX) (w : AH), Ex M_L_law lv 767 (some (.null) :: t) st w = Ex M_L_law lv 768 (some (.null) :: t) (.null :: st) w)
  ∧ (∀ (lv : Nat) (st : List Value) (t : LX) (o0 o1 o2 : Option Value) (x : Int32) (w : AH), Ex M_L_law lv 768 (o0 :: o1 :: o2 :: some (.int x) :: t) st w = Ex M_L_law lv 769 (o0 :: o1 :: o2 :: some (.int x) :: t) (.int x :: st) w)
  ∧ (∀ (lv : Nat) (l : LX) (st : List Value) (w : AH), Ex M_L_law lv 769 l st w = Ex M_L_law lv 770 l (.int 2 :: st) w)
  ∧ (∀ (lv : Nat) (l : LX) (st : List Value) (x y : Int32) (w : AH), Ex M_L_law lv 770 l (.int y :: .int x :: st) w = Ex M_L_law lv 771 l (.int (x + y) :: st) w)
  ∧ (∀ (lv : Nat) (l : LX) (st : List Value) (a : Nat) (i : Int32) (w : AH), Ex M_L_law lv 771 l (.int i :: .ref a :: st) w = if (aI (hg w a) i).isSome = true then Ex M_L_law lv 772 l (.int (vI (aI (hg w a) i)) :: st) w else none)
  ∧ (∀ (lv : Nat) (l : LX) (b : Nat) (a0 : Int32) (a1 : Int32) (s0 : Int32) (w : AH), Ex M_L_law lv 772 l (.int a1 :: .int a0 :: .ref b :: [.int s0]) w = if clK (hg w b) = 11 then (if (Call M_X12_frontier 60 [.ref b, .int a0, .int a1] w).isSome = true then Ex M_L_law lv 775 l (pushR (cV (Call M_X12_frontier 60 [.ref b, .int a0, .int a1] w)) [.int s0]) (cW (Call M_X12_frontier 60 [.ref b, .int a0, .int a1] w) w) else none) else none)
  ∧ (∀ (lv : Nat) (l : LX) (st : List Value) (x y : Int32) (w : AH), Ex M_L_law lv 775 l (.int y :: .int x :: st) w = if x = y then Ex M_L_law lv 1472 l st w else Ex M_L_law lv 778 l st w)
  ∧ (∀ (lv : Nat) (l : LX) (st : List Value) (w : AH), Ex M_L_law lv 778 l st w = Ex M_L_law lv 779 l (.int 0 :: st) w)
  ∧ (∀ (lv : Nat) (l : LX) (x : Int32) (w : AH), Ex M_L_law lv 779 l [.int x] w = if x = 0 ∨ x = 1 then some (some (.int x), w) else none)
  ∧ (∀ (lv : Nat) (st : List Value) (t : LX) (o0 : Option Value) (x : Nat) (w : AH), Ex M_L_law lv 780 (o0 :: some (.ref x) :: t) st w = Ex M_L_law lv 781 (o0 :: some (.ref x) :: t) (.ref x :: st) w)
  ∧ (∀ (lv : Nat) (st : List Value) (t : LX) (o0 : Option Value) (w : AH), Ex M_L_law lv 780 (o0 :: some (.null) :: t) st w = Ex M_L_law lv 781 (o0 :: some (.null) :: t) (.null :: st) w)
  ∧ (∀ (lv : Nat) (l : LX) (b : Nat) (w : AH), Ex M_L_law lv 781 l (.ref b :: []) w = if clK (hg w b) = 10 then (if (Call M_X11_slips 60 [.ref b] w).isSome = true then Ex M_L_law lv 784 l (pushR (cV (Call M_X11_slips 60 [.ref b] w)) []) (cW (Call M_X11_slips 60 [.ref b] w) w) else none) else none)
  ∧ (∀ (lv : Nat) (st : List Value) (t : LX) (o0 o1 : Option Value) (x : Nat) (w : AH), Ex M_L_law lv 784 (o0 :: o1 :: some (.ref x) :: t) st w = Ex M_L_law lv 785 (o0 :: o1 :: some (.ref x) :: t) (.ref x :: st) w)
  ∧ (∀ (lv : Nat) (st : List Value) (t : LX) (o0 o1 : Option Value) (w : AH), Ex M_L_law lv 784 (o0 :: o1 :: some (.null) :: t) st w = Ex M_L_law lv 785 (o0 :: o1 :: some (.null) :: t) (.null :: st) w)
  ∧ (∀ (lv : Nat) (l : LX) (b : Nat) (s0 : Int32) (w : AH), Ex M_L_law lv 785 l (.ref b :: [.int s0]) w = if clK (hg w b) = 11 then (if (Call M_X12_slips 60 [.ref b] w).isSome = true then Ex M_L_law lv 788 l (pushR (cV (Call M_X12_slips 60 [.ref b] w)) [.int s0]) (cW (Call M_X12_slips 60 [.ref b] w) w) else none) else none)
  ∧ (∀ (lv : Nat) (l : LX) (st : List Value) (x y : Int32) (w : AH), Ex M_L_law lv 788 l (.int y :: .int x :: st) w = if x = y then Ex M_L_law lv 1472 l st w else Ex M_L_law lv 791 l st w)
  ∧ (∀ (lv : Nat) (l : LX) (st : List Value) (w : AH), Ex M_L_law lv 791 l st w = Ex M_L_law lv 792 l (.int 0 :: st) w)
  ∧ (∀ (lv : Nat) (l : LX) (x : Int32) (w : AH), Ex M_L_law lv 792 l [.int x] w = if x = 0 ∨ x = 1 then some (some (.int x), w) else none)
  ∧ (∀ (lv : Nat) (st : List Value) (t : LX) (o0 : Option Value) (x : Nat) (w : AH), Ex M_L_law lv 793 (o0 :: some (.ref x) :: t) st w = Ex M_L_law lv 794 (o0 :: some (.ref x) :: t) (.ref x :: st) w)
  ∧ (∀ (lv : Nat) (st : List Value) (t : LX) (o0 : Option Value) (w : AH), Ex M_L_law lv 793 (o0 :: some (.null) :: t) st w = Ex M_L_law lv 794 (o0 :: some (.null) :: t) (.null :: st) w)
  ∧ (∀ (lv : Nat) (st : List Value) (t : LX) (x : Nat) (w : AH), Ex M_L_law lv 794 (some (.ref x) :: t) st w = Ex M_L_law lv 795 (some (.ref x) :: t) (.ref x :: st) w)
  ∧ (∀ (lv : Nat) (st : List Value) (t : LX) (w : AH), Ex M_L_law lv 794 (some (.null) :: t) st w = Ex M_L_law lv 795 (some (.null) :: t) (.null :: st) w)
  ∧ (∀ (lv : Nat) (st : List Value) (t : LX) (o0 o1 o2 : Option Value) (x : Int32) (w : AH), Ex M_L_law lv 795 (o0 :: o1 :: o2 :: some (.int x) :: t) st w = Ex M_L_law lv 796 (o0 :: o1 :: o2 :: some (.int x) :: t) (.int x :: st) w)
  ∧ (∀ (lv : Nat) (l : LX) (st : List Value) (w : AH), Ex M_L_law lv 796 l st w = Ex M_L_law lv 797 l (.int 1 :: st) w)
  ∧ (∀ (lv : Nat) (l : LX) (st : List Value) (x y : Int32) (w : AH), Ex M_L_law lv 797 l (.int y :: .int x :: st) w = Ex M_L_law lv 798 l (.int (x + y) :: st) w)
  ∧ (∀ (lv : Nat) (l : LX) (st : List Value) (a : Nat) (i : Int32) (w : AH), Ex M_L_law lv 798 l (.int i :: .ref a :: st) w = if (aI (hg w a) i).isSome = true then Ex M_L_law lv 799 l (.int (vI (aI (hg w a) i)) :: st) w else none)
  ∧ (∀ (lv : Nat) (l : LX) (b : Nat) (a0 : Int32) (w : AH), Ex M_L_law lv 799 l (.int a0 :: .ref b :: []) w = if clK (hg w b) = 10 then (if (Call M_X11_mends 60 [.ref b, .int a0] w).isSome = true then Ex M_L_law lv 802 l (pushR (cV (Call M_X11_mends 60 [.ref b, .int a0] w)) []) (cW (Call M_X11_mends 60 [.ref b, .int a0] w) w) else none) else none)
  ∧ (∀ (lv : Nat) (st : List Value) (t : LX) (o0 o1 : Option Value) (x : Nat) (w : AH), Ex M_L_law lv 802 (o0 :: o1 :: some (.ref x) :: t) st w = Ex M_L_law lv 803 (o0 :: o1 :: some (.ref x) :: t) (.ref x :: st) w)
  ∧ (∀ (lv : Nat) (st : List Value) (t : LX) (o0 o1 : Option Value) (w : AH), Ex M_L_law lv 802 (o0 :: o1 :: some (.null) :: t) st w = Ex M_L_law lv 803 (o0 :: o1 :: some (.null) :: t) (.null :: st) w)
  ∧ (∀ (lv : Nat) (st : List Value) (t : LX) (x : Nat) (w : AH), Ex M_L_law lv 803 (some (.ref x) :: t) st w = Ex M_L_law lv 804 (some (.ref x) :: t) (.ref x :: st) w)
  ∧ (∀ (lv : Nat) (st : List Value) (t : LX) (w : AH), Ex M_L_law lv 803 (some (.null) :: t) st w = Ex M_L_law lv 804 (some (.null) :: t) (.null :: st) w)
  ∧ (∀ (lv : Nat) (st : List Value) (t : LX) (o0 o1 o2 : Option Value) (x : Int32) (w : AH), Ex M_L_law lv 804 (o0 :: o1 :: o2 :: some (.int x) :: t) st w = Ex M_L_law lv 805 (o0 :: o1 :: o2 :: some (.int x) :: t) (.int x :: st) w)
  ∧ (∀ (lv : Nat) (l : LX) (st : List Value) (w : AH), Ex M_L_law lv 805 l st w = Ex M_L_law lv 806 l (.int 1 :: st) w)
  ∧ (∀ (lv : Nat) (l : LX) (st : List Value) (x y : Int32) (w : AH), Ex M_L_law lv 806 l (.int y :: .int x :: st) w = Ex M_L_law lv 807 l (.int (x + y) :: st) w)
  ∧ (∀ (lv : Nat) (l : LX) (st : List Value) (a : Nat) (i : Int32) (w : AH), Ex M_L_law lv 807 l (.int i :: .ref a :: st) w = if (aI (hg w a) i).isSome = true then Ex M_L_law lv 808 l (.int (vI (aI (hg w a) i)) :: st) w else none)
  ∧ (∀ (lv : Nat) (l : LX) (b : Nat) (a0 : Int32) (s0 : Int32) (w : AH), Ex M_L_law lv 808 l (.int a0 :: .ref b :: [.int s0]) w = if clK (hg w b) = 11 then (if (Call M_X12_mends 60 [.ref b, .int a0] w).isSome = true then Ex M_L_law lv 811 l (pushR (cV (Call M_X12_mends 60 [.ref b, .int a0] w)) [.int s0]) (cW (Call M_X12_mends 60 [.ref b, .int a0] w) w) else none) else none) :=
  ⟨(fun lv st t o0 x w => Ex_M (i := .aload_n 1) (n := 1) (by decide +kernel) rfl rfl rfl),
   (fun lv st t o0 w => Ex_M (i := .aload_n 1) (n := 1) (by decide +kernel) rfl rfl rfl),
   (fun lv st t x w => Ex_M (i := .aload_n 0) (n := 1) (by decide +kernel) rfl rfl rfl),
   (fun lv st t w => Ex_M (i := .aload_n 0) (n := 1) (by decide +kernel) rfl rfl rfl),
   (fun lv st t o0 o1 o2 x w => Ex_M (i := .iload_n 3) (n := 1) (by decide +kernel) rfl rfl rfl),
   (fun lv l st w => Ex_A (i := .iconst 1) (n := 1) (by decide +kernel) rfl rfl),
   (fun lv l st x y w => Ex_A (i := .iadd) (n := 1) (by decide +kernel) rfl rfl),
   (fun lv l st a i w => Ex_ial (by decide +kernel : decode M_L_law.2.1 752 = .ok (.iaload, 1)) rfl),
   (fun lv st t x w => Ex_M (i := .aload_n 0) (n := 1) (by decide +kernel) rfl rfl rfl),
   (fun lv st t w => Ex_M (i := .aload_n 0) (n := 1) (by decide +kernel) rfl rfl rfl),
   (fun lv st t o0 o1 o2 x w => Ex_M (i := .iload_n 3) (n := 1) (by decide +kernel) rfl rfl rfl),
   (fun lv l st w => Ex_A (i := .iconst 2) (n := 1) (by decide +kernel) rfl rfl),
   (fun lv l st x y w => Ex_A (i := .iadd) (n := 1) (by decide +kernel) rfl rfl),
   (fun lv l st a i w => Ex_ial (by decide +kernel : decode M_L_law.2.1 757 = .ok (.iaload, 1)) rfl),
   (fun lv l b a0 a1 w => Ex_callV (by decide +kernel : decode M_L_law.2.1 758 = .ok (.invokevirtual 89, 3)) rfl (by rfl : resM (mCn M_L_law) 89 = some (2, M_X11_frontier)) rfl (by rfl) (Nat.le_of_ble_eq_true rfl) (by decide +kernel) (sLv_lt (by decide +kernel))),
   (fun lv st t o0 o1 x w => Ex_M (i := .aload_n 2) (n := 1) (by decide +kernel) rfl rfl rfl),
   (fun lv st t o0 o1 w => Ex_M (i := .aload_n 2) (n := 1) (by decide +kernel) rfl rfl rfl),
   (fun lv st t x w => Ex_M (i := .aload_n 0) (n := 1) (by decide +kernel) rfl rfl rfl),
   (fun lv st t w => Ex_M (i := .aload_n 0) (n := 1) (by decide +kernel) rfl rfl rfl),
   (fun lv st t o0 o1 o2 x w => Ex_M (i := .iload_n 3) (n := 1) (by decide +kernel) rfl rfl rfl),
   (fun lv l st w => Ex_A (i := .iconst 1) (n := 1) (by decide +kernel) rfl rfl),
   (fun lv l st x y w => Ex_A (i := .iadd) (n := 1) (by decide +kernel) rfl rfl),
   (fun lv l st a i w => Ex_ial (by decide +kernel : decode M_L_law.2.1 766 = .ok (.iaload, 1)) rfl),
   (fun lv st t x w => Ex_M (i := .aload_n 0) (n := 1) (by decide +kernel) rfl rfl rfl),
   (fun lv st t w => Ex_M (i := .aload_n 0) (n := 1) (by decide +kernel) rfl rfl rfl),
   (fun lv st t o0 o1 o2 x w => Ex_M (i := .iload_n 3) (n := 1) (by decide +kernel) rfl rfl rfl),
   (fun lv l st w => Ex_A (i := .iconst 2) (n := 1) (by decide +kernel) rfl rfl),
   (fun lv l st x y w => Ex_A (i := .iadd) (n := 1) (by decide +kernel) rfl rfl),
   (fun lv l st a i w => Ex_ial (by decide +kernel : decode M_L_law.2.1 771 = .ok (.iaload, 1)) rfl),
   (fun lv l b a0 a1 s0 w => Ex_callV (by decide +kernel : decode M_L_law.2.1 772 = .ok (.invokevirtual 92, 3)) rfl (by rfl : resM (mCn M_L_law) 92 = some (2, M_X12_frontier)) rfl (by rfl) (Nat.le_of_ble_eq_true rfl) (by decide +kernel) (sLv_lt (by decide +kernel))),
   (fun lv l st x y w => Ex_icmp_eq (by decide +kernel : decode M_L_law.2.1 775 = .ok (.if_icmp .eq 697, 3)) rfl rfl),
   (fun lv l st w => Ex_A (i := .iconst 0) (n := 1) (by decide +kernel) rfl rfl),
   (fun lv l x w => Ex_zret (by decide +kernel : decode M_L_law.2.1 779 = .ok (.ireturn, 1)) rfl),
   (fun lv st t o0 x w => Ex_M (i := .aload_n 1) (n := 1) (by decide +kernel) rfl rfl rfl),
   (fun lv st t o0 w => Ex_M (i := .aload_n 1) (n := 1) (by decide +kernel) rfl rfl rfl),
   (fun lv l b w => Ex_callV (by decide +kernel : decode M_L_law.2.1 781 = .ok (.invokevirtual 93, 3)) rfl (by rfl : resM (mCn M_L_law) 93 = some (2, M_X11_slips)) rfl (by rfl) (Nat.le_of_ble_eq_true rfl) (by decide +kernel) (sLv_lt (by decide +kernel))),
   (fun lv st t o0 o1 x w => Ex_M (i := .aload_n 2) (n := 1) (by decide +kernel) rfl rfl rfl),
   (fun lv st t o0 o1 w => Ex_M (i := .aload_n 2) (n := 1) (by decide +kernel) rfl rfl rfl),
   (fun lv l b s0 w => Ex_callV (by decide +kernel : decode M_L_law.2.1 785 = .ok (.invokevirtual 96, 3)) rfl (by rfl : resM (mCn M_L_law) 96 = some (2, M_X12_slips)) rfl (by rfl) (Nat.le_of_ble_eq_true rfl) (by decide +kernel) (sLv_lt (by decide +kernel))),
   (fun lv l st x y w => Ex_icmp_eq (by decide +kernel : decode M_L_law.2.1 788 = .ok (.if_icmp .eq 684, 3)) rfl rfl),
   (fun lv l st w => Ex_A (i := .iconst 0) (n := 1) (by decide +kernel) rfl rfl),
   (fun lv l x w => Ex_zret (by decide +kernel : decode M_L_law.2.1 792 = .ok (.ireturn, 1)) rfl),
   (fun lv st t o0 x w => Ex_M (i := .aload_n 1) (n := 1) (by decide +kernel) rfl rfl rfl),
   (fun lv st t o0 w => Ex_M (i := .aload_n 1) (n := 1) (by decide +kernel) rfl rfl rfl),
   (fun lv st t x w => Ex_M (i := .aload_n 0) (n := 1) (by decide +kernel) rfl rfl rfl),
   (fun lv st t w => Ex_M (i := .aload_n 0) (n := 1) (by decide +kernel) rfl rfl rfl),
   (fun lv st t o0 o1 o2 x w => Ex_M (i := .iload_n 3) (n := 1) (by decide +kernel) rfl rfl rfl),
   (fun lv l st w => Ex_A (i := .iconst 1) (n := 1) (by decide +kernel) rfl rfl),
   (fun lv l st x y w => Ex_A (i := .iadd) (n := 1) (by decide +kernel) rfl rfl),
   (fun lv l st a i w => Ex_ial (by decide +kernel : decode M_L_law.2.1 798 = .ok (.iaload, 1)) rfl),
   (fun lv l b a0 w => Ex_callV (by decide +kernel : decode M_L_law.2.1 799 = .ok (.invokevirtual 97, 3)) rfl (by rfl : resM (mCn M_L_law) 97 = some (2, M_X11_mends)) rfl (by rfl) (Nat.le_of_ble_eq_true rfl) (by decide +kernel) (sLv_lt (by decide +kernel))),
   (fun lv st t o0 o1 x w => Ex_M (i := .aload_n 2) (n := 1) (by decide +kernel) rfl rfl rfl),
   (fun lv st t o0 o1 w => Ex_M (i := .aload_n 2) (n := 1) (by decide +kernel) rfl rfl rfl),
   (fun lv st t x w => Ex_M (i := .aload_n 0) (n := 1) (by decide +kernel) rfl rfl rfl),
   (fun lv st t w => Ex_M (i := .aload_n 0) (n := 1) (by decide +kernel) rfl rfl rfl),
   (fun lv st t o0 o1 o2 x w => Ex_M (i := .iload_n 3) (n := 1) (by decide +kernel) rfl rfl rfl),
   (fun lv l st w => Ex_A (i := .iconst 1) (n := 1) (by decide +kernel) rfl rfl),
   (fun lv l st x y w => Ex_A (i := .iadd) (n := 1) (by decide +kernel) rfl rfl),
   (fun lv l st a i w => Ex_ial (by decide +kernel : decode M_L_law.2.1 807 = .ok (.iaload, 1)) rfl),
   (fun lv l b a0 s0 w => Ex_callV (by decide +kernel : decode M_L_law.2.1 808 = .ok (.invokevirtual 100, 3)) rfl (by rfl : resM (mCn M_L_law) 100 = some (2, M_X12_mends)) rfl (by rfl) (Nat.le_of_ble_eq_true rfl) (by decide +kernel) (sLv_lt (by decide +kernel)))⟩
set_option maxRecDepth 20000 in
set_option maxHeartbeats 4000000 in
theorem R_L_law_p10 : (∀ (lv : Nat) (l : LX) (st : List Value) (x y : Int32) (w : AH), Ex M_L_law lv 811 l (.int y :: .int x :: st) w = if x = y then Ex M_L_law lv 1472 l st w else Ex M_L_law lv 814 l st w)
  ∧ (∀ (lv : Nat) (l : LX) (st : List Value) (w : AH), Ex M_L_law lv 814 l st w = Ex M_L_law lv 815 l (.int 0 :: st) w)
  ∧ (∀ (lv : Nat) (l : LX) (x : Int32) (w : AH), Ex M_L_law lv 815 l [.int x] w = if x = 0 ∨ x = 1 then some (some (.int x), w) else none)
  ∧ (∀ (lv : Nat) (st : List Value) (t : LX) (o0 : Option Value) (x : Nat) (w : AH), Ex M_L_law lv 816 (o0 :: some (.ref x) :: t) st w = Ex M_L_law lv 817 (o0 :: some (.ref x) :: t) (.ref x :: st) w)
  ∧ (∀ (lv : Nat) (st : List Value) (t : LX) (o0 : Option Value) (w : AH), Ex M_L_law lv 816 (o0 :: some (.null) :: t) st w = Ex M_L_law lv 817 (o0 :: some (.null) :: t) (.null :: st) w)
  ∧ (∀ (lv : Nat) (st : List Value) (t : LX) (x : Nat) (w : AH), Ex M_L_law lv 817 (some (.ref x) :: t) st w = Ex M_L_law lv 818 (some (.ref x) :: t) (.ref x :: st) w)
  ∧ (∀ (lv : Nat) (st : List Value) (t : LX) (w : AH), Ex M_L_law lv 817 (some (.null) :: t) st w = Ex M_L_law lv 818 (some (.null) :: t) (.null :: st) w)
  ∧ (∀ (lv : Nat) (st : List Value) (t : LX) (o0 o1 o2 : Option Value) (x : Int32) (w : AH), Ex M_L_law lv 818 (o0 :: o1 :: o2 :: some (.int x) :: t) st w = Ex M_L_law lv 819 (o0 :: o1 :: o2 :: some (.int x) :: t) (.int x :: st) w)
  ∧ (∀ (lv : Nat) (l : LX) (st : List Value) (w : AH), Ex M_L_law lv 819 l st w = Ex M_L_law lv 820 l (.int 1 :: st) w)
  ∧ (∀ (lv : Nat) (l : LX) (st : List Value) (x y : Int32) (w : AH), Ex M_L_law lv 820 l (.int y :: .int x :: st) w = Ex M_L_law lv 821 l (.int (x + y) :: st) w)
  ∧ (∀ (lv : Nat) (l : LX) (st : List Value) (a : Nat) (i : Int32) (w : AH), Ex M_L_law lv 821 l (.int i :: .ref a :: st) w = if (aI (hg w a) i).isSome = true then Ex M_L_law lv 822 l (.int (vI (aI (hg w a) i)) :: st) w else none)
  ∧ (∀ (lv : Nat) (l : LX) (b : Nat) (a0 : Int32) (w : AH), Ex M_L_law lv 822 l (.int a0 :: .ref b :: []) w = if clK (hg w b) = 10 then (if (Call M_X11_again 60 [.ref b, .int a0] w).isSome = true then Ex M_L_law lv 825 l (pushR (cV (Call M_X11_again 60 [.ref b, .int a0] w)) []) (cW (Call M_X11_again 60 [.ref b, .int a0] w) w) else none) else none)
  ∧ (∀ (lv : Nat) (st : List Value) (t : LX) (o0 o1 : Option Value) (x : Nat) (w : AH), Ex M_L_law lv 825 (o0 :: o1 :: some (.ref x) :: t) st w = Ex M_L_law lv 826 (o0 :: o1 :: some (.ref x) :: t) (.ref x :: st) w)
  ∧ (∀ (lv : Nat) (st : List Value) (t : LX) (o0 o1 : Option Value) (w : AH), Ex M_L_law lv 825 (o0 :: o1 :: some (.null) :: t) st w = Ex M_L_law lv 826 (o0 :: o1 :: some (.null) :: t) (.null :: st) w)
  ∧ (∀ (lv : Nat) (st : List Value) (t : LX) (x : Nat) (w : AH), Ex M_L_law lv 826 (some (.ref x) :: t) st w = Ex M_L_law lv 827 (some (.ref x) :: t) (.ref x :: st) w)
  ∧ (∀ (lv : Nat) (st : List Value) (t : LX) (w : AH), Ex M_L_law lv 826 (some (.null) :: t) st w = Ex M_L_law lv 827 (some (.null) :: t) (.null :: st) w)
  ∧ (∀ (lv : Nat) (st : List Value) (t : LX) (o0 o1 o2 : Option Value) (x : Int32) (w : AH), Ex M_L_law lv 827 (o0 :: o1 :: o2 :: some (.int x) :: t) st w = Ex M_L_law lv 828 (o0 :: o1 :: o2 :: some (.int x) :: t) (.int x :: st) w)
  ∧ (∀ (lv : Nat) (l : LX) (st : List Value) (w : AH), Ex M_L_law lv 828 l st w = Ex M_L_law lv 829 l (.int 1 :: st) w)
  ∧ (∀ (lv : Nat) (l : LX) (st : List Value) (x y : Int32) (w : AH), Ex M_L_law lv 829 l (.int y :: .int x :: st) w = Ex M_L_law lv 830 l (.int (x + y) :: st) w)
  ∧ (∀ (lv : Nat) (l : LX) (st : List Value) (a : Nat) (i : Int32) (w : AH), Ex M_L_law lv 830 l (.int i :: .ref a :: st) w = if (aI (hg w a) i).isSome = true then Ex M_L_law lv 831 l (.int (vI (aI (hg w a) i)) :: st) w else none)
  ∧ (∀ (lv : Nat) (l : LX) (b : Nat) (a0 : Int32) (s0 : Int32) (w : AH), Ex M_L_law lv 831 l (.int a0 :: .ref b :: [.int s0]) w = if clK (hg w b) = 11 then (if (Call M_X12_again 60 [.ref b, .int a0] w).isSome = true then Ex M_L_law lv 834 l (pushR (cV (Call M_X12_again 60 [.ref b, .int a0] w)) [.int s0]) (cW (Call M_X12_again 60 [.ref b, .int a0] w) w) else none) else none)
  ∧ (∀ (lv : Nat) (l : LX) (st : List Value) (x y : Int32) (w : AH), Ex M_L_law lv 834 l (.int y :: .int x :: st) w = if x = y then Ex M_L_law lv 1472 l st w else Ex M_L_law lv 837 l st w)
  ∧ (∀ (lv : Nat) (l : LX) (st : List Value) (w : AH), Ex M_L_law lv 837 l st w = Ex M_L_law lv 838 l (.int 0 :: st) w)
  ∧ (∀ (lv : Nat) (l : LX) (x : Int32) (w : AH), Ex M_L_law lv 838 l [.int x] w = if x = 0 ∨ x = 1 then some (some (.int x), w) else none)
  ∧ (∀ (lv : Nat) (st : List Value) (t : LX) (o0 : Option Value) (x : Nat) (w : AH), Ex M_L_law lv 839 (o0 :: some (.ref x) :: t) st w = Ex M_L_law lv 840 (o0 :: some (.ref x) :: t) (.ref x :: st) w)
  ∧ (∀ (lv : Nat) (st : List Value) (t : LX) (o0 : Option Value) (w : AH), Ex M_L_law lv 839 (o0 :: some (.null) :: t) st w = Ex M_L_law lv 840 (o0 :: some (.null) :: t) (.null :: st) w)
  ∧ (∀ (lv : Nat) (l : LX) (b : Nat) (w : AH), Ex M_L_law lv 840 l (.ref b :: []) w = if clK (hg w b) = 10 then (if (Call M_X11_stays 60 [.ref b] w).isSome = true then Ex M_L_law lv 843 l (pushR (cV (Call M_X11_stays 60 [.ref b] w)) []) (cW (Call M_X11_stays 60 [.ref b] w) w) else none) else none)
  ∧ (∀ (lv : Nat) (st : List Value) (t : LX) (o0 o1 : Option Value) (x : Nat) (w : AH), Ex M_L_law lv 843 (o0 :: o1 :: some (.ref x) :: t) st w = Ex M_L_law lv 844 (o0 :: o1 :: some (.ref x) :: t) (.ref x :: st) w)
  ∧ (∀ (lv : Nat) (st : List Value) (t : LX) (o0 o1 : Option Value) (w : AH), Ex M_L_law lv 843 (o0 :: o1 :: some (.null) :: t) st w = Ex M_L_law lv 844 (o0 :: o1 :: some (.null) :: t) (.null :: st) w)
  ∧ (∀ (lv : Nat) (l : LX) (b : Nat) (s0 : Int32) (w : AH), Ex M_L_law lv 844 l (.ref b :: [.int s0]) w = if clK (hg w b) = 11 then (if (Call M_X12_stays 60 [.ref b] w).isSome = true then Ex M_L_law lv 847 l (pushR (cV (Call M_X12_stays 60 [.ref b] w)) [.int s0]) (cW (Call M_X12_stays 60 [.ref b] w) w) else none) else none)
  ∧ (∀ (lv : Nat) (l : LX) (st : List Value) (x y : Int32) (w : AH), Ex M_L_law lv 847 l (.int y :: .int x :: st) w = if x = y then Ex M_L_law lv 1472 l st w else Ex M_L_law lv 850 l st w)
  ∧ (∀ (lv : Nat) (l : LX) (st : List Value) (w : AH), Ex M_L_law lv 850 l st w = Ex M_L_law lv 851 l (.int 0 :: st) w)
  ∧ (∀ (lv : Nat) (l : LX) (x : Int32) (w : AH), Ex M_L_law lv 851 l [.int x] w = if x = 0 ∨ x = 1 then some (some (.int x), w) else none)
  ∧ (∀ (lv : Nat) (st : List Value) (t : LX) (o0 : Option Value) (x : Nat) (w : AH), Ex M_L_law lv 852 (o0 :: some (.ref x) :: t) st w = Ex M_L_law lv 853 (o0 :: some (.ref x) :: t) (.ref x :: st) w)
  ∧ (∀ (lv : Nat) (st : List Value) (t : LX) (o0 : Option Value) (w : AH), Ex M_L_law lv 852 (o0 :: some (.null) :: t) st w = Ex M_L_law lv 853 (o0 :: some (.null) :: t) (.null :: st) w)
  ∧ (∀ (lv : Nat) (st : List Value) (t : LX) (x : Nat) (w : AH), Ex M_L_law lv 853 (some (.ref x) :: t) st w = Ex M_L_law lv 854 (some (.ref x) :: t) (.ref x :: st) w)
  ∧ (∀ (lv : Nat) (st : List Value) (t : LX) (w : AH), Ex M_L_law lv 853 (some (.null) :: t) st w = Ex M_L_law lv 854 (some (.null) :: t) (.null :: st) w)
  ∧ (∀ (lv : Nat) (st : List Value) (t : LX) (o0 o1 o2 : Option Value) (x : Int32) (w : AH), Ex M_L_law lv 854 (o0 :: o1 :: o2 :: some (.int x) :: t) st w = Ex M_L_law lv 855 (o0 :: o1 :: o2 :: some (.int x) :: t) (.int x :: st) w)
  ∧ (∀ (lv : Nat) (l : LX) (st : List Value) (w : AH), Ex M_L_law lv 855 l st w = Ex M_L_law lv 856 l (.int 1 :: st) w)
  ∧ (∀ (lv : Nat) (l : LX) (st : List Value) (x y : Int32) (w : AH), Ex M_L_law lv 856 l (.int y :: .int x :: st) w = Ex M_L_law lv 857 l (.int (x + y) :: st) w)
  ∧ (∀ (lv : Nat) (l : LX) (st : List Value) (a : Nat) (i : Int32) (w : AH), Ex M_L_law lv 857 l (.int i :: .ref a :: st) w = if (aI (hg w a) i).isSome = true then Ex M_L_law lv 858 l (.int (vI (aI (hg w a) i)) :: st) w else none)
  ∧ (∀ (lv : Nat) (st : List Value) (t : LX) (x : Nat) (w : AH), Ex M_L_law lv 858 (some (.ref x) :: t) st w = Ex M_L_law lv 859 (some (.ref x) :: t) (.ref x :: st) w)
  ∧ (∀ (lv : Nat) (st : List Value) (t : LX) (w : AH), Ex M_L_law lv 858 (some (.null) :: t) st w = Ex M_L_law lv 859 (some (.null) :: t) (.null :: st) w)
  ∧ (∀ (lv : Nat) (st : List Value) (t : LX) (o0 o1 o2 : Option Value) (x : Int32) (w : AH), Ex M_L_law lv 859 (o0 :: o1 :: o2 :: some (.int x) :: t) st w = Ex M_L_law lv 860 (o0 :: o1 :: o2 :: some (.int x) :: t) (.int x :: st) w)
  ∧ (∀ (lv : Nat) (l : LX) (st : List Value) (w : AH), Ex M_L_law lv 860 l st w = Ex M_L_law lv 861 l (.int 2 :: st) w)
  ∧ (∀ (lv : Nat) (l : LX) (st : List Value) (x y : Int32) (w : AH), Ex M_L_law lv 861 l (.int y :: .int x :: st) w = Ex M_L_law lv 862 l (.int (x + y) :: st) w)
  ∧ (∀ (lv : Nat) (l : LX) (st : List Value) (a : Nat) (i : Int32) (w : AH), Ex M_L_law lv 862 l (.int i :: .ref a :: st) w = if (aI (hg w a) i).isSome = true then Ex M_L_law lv 863 l (.int (vI (aI (hg w a) i)) :: st) w else none)
  ∧ (∀ (lv : Nat) (st : List Value) (t : LX) (x : Nat) (w : AH), Ex M_L_law lv 863 (some (.ref x) :: t) st w = Ex M_L_law lv 864 (some (.ref x) :: t) (.ref x :: st) w)
  ∧ (∀ (lv : Nat) (st : List Value) (t : LX) (w : AH), Ex M_L_law lv 863 (some (.null) :: t) st w = Ex M_L_law lv 864 (some (.null) :: t) (.null :: st) w)
  ∧ (∀ (lv : Nat) (st : List Value) (t : LX) (o0 o1 o2 : Option Value) (x : Int32) (w : AH), Ex M_L_law lv 864 (o0 :: o1 :: o2 :: some (.int x) :: t) st w = Ex M_L_law lv 865 (o0 :: o1 :: o2 :: some (.int x) :: t) (.int x :: st) w)
  ∧ (∀ (lv : Nat) (l : LX) (st : List Value) (w : AH), Ex M_L_law lv 865 l st w = Ex M_L_law lv 866 l (.int 3 :: st) w)
  ∧ (∀ (lv : Nat) (l : LX) (st : List Value) (x y : Int32) (w : AH), Ex M_L_law lv 866 l (.int y :: .int x :: st) w = Ex M_L_law lv 867 l (.int (x + y) :: st) w)
  ∧ (∀ (lv : Nat) (l : LX) (st : List Value) (a : Nat) (i : Int32) (w : AH), Ex M_L_law lv 867 l (.int i :: .ref a :: st) w = if (aI (hg w a) i).isSome = true then Ex M_L_law lv 868 l (.int (vI (aI (hg w a) i)) :: st) w else none)
  ∧ (∀ (lv : Nat) (l : LX) (b : Nat) (a0 : Int32) (a1 : Int32) (a2 : Int32) (w : AH), Ex M_L_law lv 868 l (.int a2 :: .int a1 :: .int a0 :: .ref b :: []) w = if clK (hg w b) = 10 then (if (Call M_X11_road 60 [.ref b, .int a0, .int a1, .int a2] w).isSome = true then Ex M_L_law lv 871 l (pushR (cV (Call M_X11_road 60 [.ref b, .int a0, .int a1, .int a2] w)) []) (cW (Call M_X11_road 60 [.ref b, .int a0, .int a1, .int a2] w) w) else none) else none)
  ∧ (∀ (lv : Nat) (st : List Value) (t : LX) (o0 o1 : Option Value) (x : Nat) (w : AH), Ex M_L_law lv 871 (o0 :: o1 :: some (.ref x) :: t) st w = Ex M_L_law lv 872 (o0 :: o1 :: some (.ref x) :: t) (.ref x :: st) w)
  ∧ (∀ (lv : Nat) (st : List Value) (t : LX) (o0 o1 : Option Value) (w : AH), Ex M_L_law lv 871 (o0 :: o1 :: some (.null) :: t) st w = Ex M_L_law lv 872 (o0 :: o1 :: some (.null) :: t) (.null :: st) w)
  ∧ (∀ (lv : Nat) (st : List Value) (t : LX) (x : Nat) (w : AH), Ex M_L_law lv 872 (some (.ref x) :: t) st w = Ex M_L_law lv 873 (some (.ref x) :: t) (.ref x :: st) w)
  ∧ (∀ (lv : Nat) (st : List Value) (t : LX) (w : AH), Ex M_L_law lv 872 (some (.null) :: t) st w = Ex M_L_law lv 873 (some (.null) :: t) (.null :: st) w)
  ∧ (∀ (lv : Nat) (st : List Value) (t : LX) (o0 o1 o2 : Option Value) (x : Int32) (w : AH), Ex M_L_law lv 873 (o0 :: o1 :: o2 :: some (.int x) :: t) st w = Ex M_L_law lv 874 (o0 :: o1 :: o2 :: some (.int x) :: t) (.int x :: st) w)
  ∧ (∀ (lv : Nat) (l : LX) (st : List Value) (w : AH), Ex M_L_law lv 874 l st w = Ex M_L_law lv 875 l (.int 1 :: st) w) :=
  ⟨(fun lv l st x y w => Ex_icmp_eq (by decide +kernel : decode M_L_law.2.1 811 = .ok (.if_icmp .eq 661, 3)) rfl rfl),
   (fun lv l st w => Ex_A (i := .iconst 0) (n := 1) (by decide +kernel) rfl rfl),
   (fun lv l x w => Ex_zret (by decide +kernel : decode M_L_law.2.1 815 = .ok (.ireturn, 1)) rfl),
   (fun lv st t o0 x w => Ex_M (i := .aload_n 1) (n := 1) (by decide +kernel) rfl rfl rfl),
   (fun lv st t o0 w => Ex_M (i := .aload_n 1) (n := 1) (by decide +kernel) rfl rfl rfl),
   (fun lv st t x w => Ex_M (i := .aload_n 0) (n := 1) (by decide +kernel) rfl rfl rfl),
   (fun lv st t w => Ex_M (i := .aload_n 0) (n := 1) (by decide +kernel) rfl rfl rfl),
   (fun lv st t o0 o1 o2 x w => Ex_M (i := .iload_n 3) (n := 1) (by decide +kernel) rfl rfl rfl),
   (fun lv l st w => Ex_A (i := .iconst 1) (n := 1) (by decide +kernel) rfl rfl),
   (fun lv l st x y w => Ex_A (i := .iadd) (n := 1) (by decide +kernel) rfl rfl),
   (fun lv l st a i w => Ex_ial (by decide +kernel : decode M_L_law.2.1 821 = .ok (.iaload, 1)) rfl),
   (fun lv l b a0 w => Ex_callV (by decide +kernel : decode M_L_law.2.1 822 = .ok (.invokevirtual 101, 3)) rfl (by rfl : resM (mCn M_L_law) 101 = some (2, M_X11_again)) rfl (by rfl) (Nat.le_of_ble_eq_true rfl) (by decide +kernel) (sLv_lt (by decide +kernel))),
   (fun lv st t o0 o1 x w => Ex_M (i := .aload_n 2) (n := 1) (by decide +kernel) rfl rfl rfl),
   (fun lv st t o0 o1 w => Ex_M (i := .aload_n 2) (n := 1) (by decide +kernel) rfl rfl rfl),
   (fun lv st t x w => Ex_M (i := .aload_n 0) (n := 1) (by decide +kernel) rfl rfl rfl),
   (fun lv st t w => Ex_M (i := .aload_n 0) (n := 1) (by decide +kernel) rfl rfl rfl),
   (fun lv st t o0 o1 o2 x w => Ex_M (i := .iload_n 3) (n := 1) (by decide +kernel) rfl rfl rfl),
   (fun lv l st w => Ex_A (i := .iconst 1) (n := 1) (by decide +kernel) rfl rfl),
   (fun lv l st x y w => Ex_A (i := .iadd) (n := 1) (by decide +kernel) rfl rfl),
   (fun lv l st a i w => Ex_ial (by decide +kernel : decode M_L_law.2.1 830 = .ok (.iaload, 1)) rfl),
   (fun lv l b a0 s0 w => Ex_callV (by decide +kernel : decode M_L_law.2.1 831 = .ok (.invokevirtual 104, 3)) rfl (by rfl : resM (mCn M_L_law) 104 = some (2, M_X12_again)) rfl (by rfl) (Nat.le_of_ble_eq_true rfl) (by decide +kernel) (sLv_lt (by decide +kernel))),
   (fun lv l st x y w => Ex_icmp_eq (by decide +kernel : decode M_L_law.2.1 834 = .ok (.if_icmp .eq 638, 3)) rfl rfl),
   (fun lv l st w => Ex_A (i := .iconst 0) (n := 1) (by decide +kernel) rfl rfl),
   (fun lv l x w => Ex_zret (by decide +kernel : decode M_L_law.2.1 838 = .ok (.ireturn, 1)) rfl),
   (fun lv st t o0 x w => Ex_M (i := .aload_n 1) (n := 1) (by decide +kernel) rfl rfl rfl),
   (fun lv st t o0 w => Ex_M (i := .aload_n 1) (n := 1) (by decide +kernel) rfl rfl rfl),
   (fun lv l b w => Ex_callV (by decide +kernel : decode M_L_law.2.1 840 = .ok (.invokevirtual 105, 3)) rfl (by rfl : resM (mCn M_L_law) 105 = some (2, M_X11_stays)) rfl (by rfl) (Nat.le_of_ble_eq_true rfl) (by decide +kernel) (sLv_lt (by decide +kernel))),
   (fun lv st t o0 o1 x w => Ex_M (i := .aload_n 2) (n := 1) (by decide +kernel) rfl rfl rfl),
   (fun lv st t o0 o1 w => Ex_M (i := .aload_n 2) (n := 1) (by decide +kernel) rfl rfl rfl),
   (fun lv l b s0 w => Ex_callV (by decide +kernel : decode M_L_law.2.1 844 = .ok (.invokevirtual 108, 3)) rfl (by rfl : resM (mCn M_L_law) 108 = some (2, M_X12_stays)) rfl (by rfl) (Nat.le_of_ble_eq_true rfl) (by decide +kernel) (sLv_lt (by decide +kernel))),
   (fun lv l st x y w => Ex_icmp_eq (by decide +kernel : decode M_L_law.2.1 847 = .ok (.if_icmp .eq 625, 3)) rfl rfl),
   (fun lv l st w => Ex_A (i := .iconst 0) (n := 1) (by decide +kernel) rfl rfl),
   (fun lv l x w => Ex_zret (by decide +kernel : decode M_L_law.2.1 851 = .ok (.ireturn, 1)) rfl),
   (fun lv st t o0 x w => Ex_M (i := .aload_n 1) (n := 1) (by decide +kernel) rfl rfl rfl),
   (fun lv st t o0 w => Ex_M (i := .aload_n 1) (n := 1) (by decide +kernel) rfl rfl rfl),
   (fun lv st t x w => Ex_M (i := .aload_n 0) (n := 1) (by decide +kernel) rfl rfl rfl),
   (fun lv st t w => Ex_M (i := .aload_n 0) (n := 1) (by decide +kernel) rfl rfl rfl),
   (fun lv st t o0 o1 o2 x w => Ex_M (i := .iload_n 3) (n := 1) (by decide +kernel) rfl rfl rfl),
   (fun lv l st w => Ex_A (i := .iconst 1) (n := 1) (by decide +kernel) rfl rfl),
   (fun lv l st x y w => Ex_A (i := .iadd) (n := 1) (by decide +kernel) rfl rfl),
   (fun lv l st a i w => Ex_ial (by decide +kernel : decode M_L_law.2.1 857 = .ok (.iaload, 1)) rfl),
   (fun lv st t x w => Ex_M (i := .aload_n 0) (n := 1) (by decide +kernel) rfl rfl rfl),
   (fun lv st t w => Ex_M (i := .aload_n 0) (n := 1) (by decide +kernel) rfl rfl rfl),
   (fun lv st t o0 o1 o2 x w => Ex_M (i := .iload_n 3) (n := 1) (by decide +kernel) rfl rfl rfl),
   (fun lv l st w => Ex_A (i := .iconst 2) (n := 1) (by decide +kernel) rfl rfl),
   (fun lv l st x y w => Ex_A (i := .iadd) (n := 1) (by decide +kernel) rfl rfl),
   (fun lv l st a i w => Ex_ial (by decide +kernel : decode M_L_law.2.1 862 = .ok (.iaload, 1)) rfl),
   (fun lv st t x w => Ex_M (i := .aload_n 0) (n := 1) (by decide +kernel) rfl rfl rfl),
   (fun lv st t w => Ex_M (i := .aload_n 0) (n := 1) (by decide +kernel) rfl rfl rfl),
   (fun lv st t o0 o1 o2 x w => Ex_M (i := .iload_n 3) (n := 1) (by decide +kernel) rfl rfl rfl),
   (fun lv l st w => Ex_A (i := .iconst 3) (n := 1) (by decide +kernel) rfl rfl),
   (fun lv l st x y w => Ex_A (i := .iadd) (n := 1) (by decide +kernel) rfl rfl),
   (fun lv l st a i w => Ex_ial (by decide +kernel : decode M_L_law.2.1 867 = .ok (.iaload, 1)) rfl),
   (fun lv l b a0 a1 a2 w => Ex_callV (by decide +kernel : decode M_L_law.2.1 868 = .ok (.invokevirtual 109, 3)) rfl (by rfl : resM (mCn M_L_law) 109 = some (2, M_X11_road)) rfl (by rfl) (Nat.le_of_ble_eq_true rfl) (by decide +kernel) (sLv_lt (by decide +kernel))),
   (fun lv st t o0 o1 x w => Ex_M (i := .aload_n 2) (n := 1) (by decide +kernel) rfl rfl rfl),
   (fun lv st t o0 o1 w => Ex_M (i := .aload_n 2) (n := 1) (by decide +kernel) rfl rfl rfl),
   (fun lv st t x w => Ex_M (i := .aload_n 0) (n := 1) (by decide +kernel) rfl rfl rfl),
   (fun lv st t w => Ex_M (i := .aload_n 0) (n := 1) (by decide +kernel) rfl rfl rfl),
   (fun lv st t o0 o1 o2 x w => Ex_M (i := .iload_n 3) (n := 1) (by decide +kernel) rfl rfl rfl),
   (fun lv l st w => Ex_A (i := .iconst 1) (n := 1) (by decide +kernel) rfl rfl)⟩
set_option maxRecDepth 20000 in
set_option maxHeartbeats 4000000 in
theorem R_L_law_p11 : (∀ (lv : Nat) (l : LX) (st : List Value) (x y : Int32) (w : AH), Ex M_L_law lv 875 l (.int y :: .int x :: st) w = Ex M_L_law lv 876 l (.int (x + y) :: st) w)
  ∧ (∀ (lv : Nat) (l : LX) (st : List Value) (a : Nat) (i : Int32) (w : AH), Ex M_L_law lv 876 l (.int i :: .ref a :: st) w = if (aI (hg w a) i).isSome = true then Ex M_L_law lv 877 l (.int (vI (aI (hg w a) i)) :: st) w else none)
  ∧ (∀ (lv : Nat) (st : List Value) (t : LX) (x : Nat) (w : AH), Ex M_L_law lv 877 (some (.ref x) :: t) st w = Ex M_L_law lv 878 (some (.ref x) :: t) (.ref x :: st) w)
  ∧ (∀ (lv : Nat) (st : List Value) (t : LX) (w : AH), Ex M_L_law lv 877 (some (.null) :: t) st w = Ex M_L_law lv 878 (some (.null) :: t) (.null :: st) w)
  ∧ (∀ (lv : Nat) (st : List Value) (t : LX) (o0 o1 o2 : Option Value) (x : Int32) (w : AH), Ex M_L_law lv 878 (o0 :: o1 :: o2 :: some (.int x) :: t) st w = Ex M_L_law lv 879 (o0 :: o1 :: o2 :: some (.int x) :: t) (.int x :: st) w)
  ∧ (∀ (lv : Nat) (l : LX) (st : List Value) (w : AH), Ex M_L_law lv 879 l st w = Ex M_L_law lv 880 l (.int 2 :: st) w)
  ∧ (∀ (lv : Nat) (l : LX) (st : List Value) (x y : Int32) (w : AH), Ex M_L_law lv 880 l (.int y :: .int x :: st) w = Ex M_L_law lv 881 l (.int (x + y) :: st) w)
  ∧ (∀ (lv : Nat) (l : LX) (st : List Value) (a : Nat) (i : Int32) (w : AH), Ex M_L_law lv 881 l (.int i :: .ref a :: st) w = if (aI (hg w a) i).isSome = true then Ex M_L_law lv 882 l (.int (vI (aI (hg w a) i)) :: st) w else none)
  ∧ (∀ (lv : Nat) (st : List Value) (t : LX) (x : Nat) (w : AH), Ex M_L_law lv 882 (some (.ref x) :: t) st w = Ex M_L_law lv 883 (some (.ref x) :: t) (.ref x :: st) w)
  ∧ (∀ (lv : Nat) (st : List Value) (t : LX) (w : AH), Ex M_L_law lv 882 (some (.null) :: t) st w = Ex M_L_law lv 883 (some (.null) :: t) (.null :: st) w)
  ∧ (∀ (lv : Nat) (st : List Value) (t : LX) (o0 o1 o2 : Option Value) (x : Int32) (w : AH), Ex M_L_law lv 883 (o0 :: o1 :: o2 :: some (.int x) :: t) st w = Ex M_L_law lv 884 (o0 :: o1 :: o2 :: some (.int x) :: t) (.int x :: st) w)
  ∧ (∀ (lv : Nat) (l : LX) (st : List Value) (w : AH), Ex M_L_law lv 884 l st w = Ex M_L_law lv 885 l (.int 3 :: st) w)
  ∧ (∀ (lv : Nat) (l : LX) (st : List Value) (x y : Int32) (w : AH), Ex M_L_law lv 885 l (.int y :: .int x :: st) w = Ex M_L_law lv 886 l (.int (x + y) :: st) w)
  ∧ (∀ (lv : Nat) (l : LX) (st : List Value) (a : Nat) (i : Int32) (w : AH), Ex M_L_law lv 886 l (.int i :: .ref a :: st) w = if (aI (hg w a) i).isSome = true then Ex M_L_law lv 887 l (.int (vI (aI (hg w a) i)) :: st) w else none)
  ∧ (∀ (lv : Nat) (l : LX) (b : Nat) (a0 : Int32) (a1 : Int32) (a2 : Int32) (s0 : Int32) (w : AH), Ex M_L_law lv 887 l (.int a2 :: .int a1 :: .int a0 :: .ref b :: [.int s0]) w = if clK (hg w b) = 11 then (if (Call M_X12_road 60 [.ref b, .int a0, .int a1, .int a2] w).isSome = true then Ex M_L_law lv 890 l (pushR (cV (Call M_X12_road 60 [.ref b, .int a0, .int a1, .int a2] w)) [.int s0]) (cW (Call M_X12_road 60 [.ref b, .int a0, .int a1, .int a2] w) w) else none) else none)
  ∧ (∀ (lv : Nat) (l : LX) (st : List Value) (x y : Int32) (w : AH), Ex M_L_law lv 890 l (.int y :: .int x :: st) w = if x = y then Ex M_L_law lv 1472 l st w else Ex M_L_law lv 893 l st w)
  ∧ (∀ (lv : Nat) (l : LX) (st : List Value) (w : AH), Ex M_L_law lv 893 l st w = Ex M_L_law lv 894 l (.int 0 :: st) w)
  ∧ (∀ (lv : Nat) (l : LX) (x : Int32) (w : AH), Ex M_L_law lv 894 l [.int x] w = if x = 0 ∨ x = 1 then some (some (.int x), w) else none)
  ∧ (∀ (lv : Nat) (st : List Value) (t : LX) (o0 : Option Value) (x : Nat) (w : AH), Ex M_L_law lv 895 (o0 :: some (.ref x) :: t) st w = Ex M_L_law lv 896 (o0 :: some (.ref x) :: t) (.ref x :: st) w)
  ∧ (∀ (lv : Nat) (st : List Value) (t : LX) (o0 : Option Value) (w : AH), Ex M_L_law lv 895 (o0 :: some (.null) :: t) st w = Ex M_L_law lv 896 (o0 :: some (.null) :: t) (.null :: st) w)
  ∧ (∀ (lv : Nat) (st : List Value) (t : LX) (x : Nat) (w : AH), Ex M_L_law lv 896 (some (.ref x) :: t) st w = Ex M_L_law lv 897 (some (.ref x) :: t) (.ref x :: st) w)
  ∧ (∀ (lv : Nat) (st : List Value) (t : LX) (w : AH), Ex M_L_law lv 896 (some (.null) :: t) st w = Ex M_L_law lv 897 (some (.null) :: t) (.null :: st) w)
  ∧ (∀ (lv : Nat) (st : List Value) (t : LX) (o0 o1 o2 : Option Value) (x : Int32) (w : AH), Ex M_L_law lv 897 (o0 :: o1 :: o2 :: some (.int x) :: t) st w = Ex M_L_law lv 898 (o0 :: o1 :: o2 :: some (.int x) :: t) (.int x :: st) w)
  ∧ (∀ (lv : Nat) (l : LX) (st : List Value) (w : AH), Ex M_L_law lv 898 l st w = Ex M_L_law lv 899 l (.int 1 :: st) w)
  ∧ (∀ (lv : Nat) (l : LX) (st : List Value) (x y : Int32) (w : AH), Ex M_L_law lv 899 l (.int y :: .int x :: st) w = Ex M_L_law lv 900 l (.int (x + y) :: st) w)
  ∧ (∀ (lv : Nat) (l : LX) (st : List Value) (a : Nat) (i : Int32) (w : AH), Ex M_L_law lv 900 l (.int i :: .ref a :: st) w = if (aI (hg w a) i).isSome = true then Ex M_L_law lv 901 l (.int (vI (aI (hg w a) i)) :: st) w else none)
  ∧ (∀ (lv : Nat) (st : List Value) (t : LX) (x : Nat) (w : AH), Ex M_L_law lv 901 (some (.ref x) :: t) st w = Ex M_L_law lv 902 (some (.ref x) :: t) (.ref x :: st) w)
  ∧ (∀ (lv : Nat) (st : List Value) (t : LX) (w : AH), Ex M_L_law lv 901 (some (.null) :: t) st w = Ex M_L_law lv 902 (some (.null) :: t) (.null :: st) w)
  ∧ (∀ (lv : Nat) (st : List Value) (t : LX) (o0 o1 o2 : Option Value) (x : Int32) (w : AH), Ex M_L_law lv 902 (o0 :: o1 :: o2 :: some (.int x) :: t) st w = Ex M_L_law lv 903 (o0 :: o1 :: o2 :: some (.int x) :: t) (.int x :: st) w)
  ∧ (∀ (lv : Nat) (l : LX) (st : List Value) (w : AH), Ex M_L_law lv 903 l st w = Ex M_L_law lv 904 l (.int 2 :: st) w)
  ∧ (∀ (lv : Nat) (l : LX) (st : List Value) (x y : Int32) (w : AH), Ex M_L_law lv 904 l (.int y :: .int x :: st) w = Ex M_L_law lv 905 l (.int (x + y) :: st) w)
  ∧ (∀ (lv : Nat) (l : LX) (st : List Value) (a : Nat) (i : Int32) (w : AH), Ex M_L_law lv 905 l (.int i :: .ref a :: st) w = if (aI (hg w a) i).isSome = true then Ex M_L_law lv 906 l (.int (vI (aI (hg w a) i)) :: st) w else none)
  ∧ (∀ (lv : Nat) (st : List Value) (t : LX) (x : Nat) (w : AH), Ex M_L_law lv 906 (some (.ref x) :: t) st w = Ex M_L_law lv 907 (some (.ref x) :: t) (.ref x :: st) w)
  ∧ (∀ (lv : Nat) (st : List Value) (t : LX) (w : AH), Ex M_L_law lv 906 (some (.null) :: t) st w = Ex M_L_law lv 907 (some (.null) :: t) (.null :: st) w)
  ∧ (∀ (lv : Nat) (st : List Value) (t : LX) (o0 o1 o2 : Option Value) (x : Int32) (w : AH), Ex M_L_law lv 907 (o0 :: o1 :: o2 :: some (.int x) :: t) st w = Ex M_L_law lv 908 (o0 :: o1 :: o2 :: some (.int x) :: t) (.int x :: st) w)
  ∧ (∀ (lv : Nat) (l : LX) (st : List Value) (w : AH), Ex M_L_law lv 908 l st w = Ex M_L_law lv 909 l (.int 3 :: st) w)
  ∧ (∀ (lv : Nat) (l : LX) (st : List Value) (x y : Int32) (w : AH), Ex M_L_law lv 909 l (.int y :: .int x :: st) w = Ex M_L_law lv 910 l (.int (x + y) :: st) w)
  ∧ (∀ (lv : Nat) (l : LX) (st : List Value) (a : Nat) (i : Int32) (w : AH), Ex M_L_law lv 910 l (.int i :: .ref a :: st) w = if (aI (hg w a) i).isSome = true then Ex M_L_law lv 911 l (.int (vI (aI (hg w a) i)) :: st) w else none)
  ∧ (∀ (lv : Nat) (l : LX) (b : Nat) (a0 : Int32) (a1 : Int32) (a2 : Int32) (w : AH), Ex M_L_law lv 911 l (.int a2 :: .int a1 :: .int a0 :: .ref b :: []) w = if clK (hg w b) = 10 then (if (Call M_X11_fits 60 [.ref b, .int a0, .int a1, .int a2] w).isSome = true then Ex M_L_law lv 914 l (pushR (cV (Call M_X11_fits 60 [.ref b, .int a0, .int a1, .int a2] w)) []) (cW (Call M_X11_fits 60 [.ref b, .int a0, .int a1, .int a2] w) w) else none) else none)
  ∧ (∀ (lv : Nat) (st : List Value) (t : LX) (o0 o1 : Option Value) (x : Nat) (w : AH), Ex M_L_law lv 914 (o0 :: o1 :: some (.ref x) :: t) st w = Ex M_L_law lv 915 (o0 :: o1 :: some (.ref x) :: t) (.ref x :: st) w)
  ∧ (∀ (lv : Nat) (st : List Value) (t : LX) (o0 o1 : Option Value) (w : AH), Ex M_L_law lv 914 (o0 :: o1 :: some (.null) :: t) st w = Ex M_L_law lv 915 (o0 :: o1 :: some (.null) :: t) (.null :: st) w)
  ∧ (∀ (lv : Nat) (st : List Value) (t : LX) (x : Nat) (w : AH), Ex M_L_law lv 915 (some (.ref x) :: t) st w = Ex M_L_law lv 916 (some (.ref x) :: t) (.ref x :: st) w)
  ∧ (∀ (lv : Nat) (st : List Value) (t : LX) (w : AH), Ex M_L_law lv 915 (some (.null) :: t) st w = Ex M_L_law lv 916 (some (.null) :: t) (.null :: st) w)
  ∧ (∀ (lv : Nat) (st : List Value) (t : LX) (o0 o1 o2 : Option Value) (x : Int32) (w : AH), Ex M_L_law lv 916 (o0 :: o1 :: o2 :: some (.int x) :: t) st w = Ex M_L_law lv 917 (o0 :: o1 :: o2 :: some (.int x) :: t) (.int x :: st) w)
  ∧ (∀ (lv : Nat) (l : LX) (st : List Value) (w : AH), Ex M_L_law lv 917 l st w = Ex M_L_law lv 918 l (.int 1 :: st) w)
  ∧ (∀ (lv : Nat) (l : LX) (st : List Value) (x y : Int32) (w : AH), Ex M_L_law lv 918 l (.int y :: .int x :: st) w = Ex M_L_law lv 919 l (.int (x + y) :: st) w)
  ∧ (∀ (lv : Nat) (l : LX) (st : List Value) (a : Nat) (i : Int32) (w : AH), Ex M_L_law lv 919 l (.int i :: .ref a :: st) w = if (aI (hg w a) i).isSome = true then Ex M_L_law lv 920 l (.int (vI (aI (hg w a) i)) :: st) w else none)
  ∧ (∀ (lv : Nat) (st : List Value) (t : LX) (x : Nat) (w : AH), Ex M_L_law lv 920 (some (.ref x) :: t) st w = Ex M_L_law lv 921 (some (.ref x) :: t) (.ref x :: st) w)
  ∧ (∀ (lv : Nat) (st : List Value) (t : LX) (w : AH), Ex M_L_law lv 920 (some (.null) :: t) st w = Ex M_L_law lv 921 (some (.null) :: t) (.null :: st) w)
  ∧ (∀ (lv : Nat) (st : List Value) (t : LX) (o0 o1 o2 : Option Value) (x : Int32) (w : AH), Ex M_L_law lv 921 (o0 :: o1 :: o2 :: some (.int x) :: t) st w = Ex M_L_law lv 922 (o0 :: o1 :: o2 :: some (.int x) :: t) (.int x :: st) w)
  ∧ (∀ (lv : Nat) (l : LX) (st : List Value) (w : AH), Ex M_L_law lv 922 l st w = Ex M_L_law lv 923 l (.int 2 :: st) w)
  ∧ (∀ (lv : Nat) (l : LX) (st : List Value) (x y : Int32) (w : AH), Ex M_L_law lv 923 l (.int y :: .int x :: st) w = Ex M_L_law lv 924 l (.int (x + y) :: st) w)
  ∧ (∀ (lv : Nat) (l : LX) (st : List Value) (a : Nat) (i : Int32) (w : AH), Ex M_L_law lv 924 l (.int i :: .ref a :: st) w = if (aI (hg w a) i).isSome = true then Ex M_L_law lv 925 l (.int (vI (aI (hg w a) i)) :: st) w else none)
  ∧ (∀ (lv : Nat) (st : List Value) (t : LX) (x : Nat) (w : AH), Ex M_L_law lv 925 (some (.ref x) :: t) st w = Ex M_L_law lv 926 (some (.ref x) :: t) (.ref x :: st) w)
  ∧ (∀ (lv : Nat) (st : List Value) (t : LX) (w : AH), Ex M_L_law lv 925 (some (.null) :: t) st w = Ex M_L_law lv 926 (some (.null) :: t) (.null :: st) w)
  ∧ (∀ (lv : Nat) (st : List Value) (t : LX) (o0 o1 o2 : Option Value) (x : Int32) (w : AH), Ex M_L_law lv 926 (o0 :: o1 :: o2 :: some (.int x) :: t) st w = Ex M_L_law lv 927 (o0 :: o1 :: o2 :: some (.int x) :: t) (.int x :: st) w)
  ∧ (∀ (lv : Nat) (l : LX) (st : List Value) (w : AH), Ex M_L_law lv 927 l st w = Ex M_L_law lv 928 l (.int 3 :: st) w)
  ∧ (∀ (lv : Nat) (l : LX) (st : List Value) (x y : Int32) (w : AH), Ex M_L_law lv 928 l (.int y :: .int x :: st) w = Ex M_L_law lv 929 l (.int (x + y) :: st) w)
  ∧ (∀ (lv : Nat) (l : LX) (st : List Value) (a : Nat) (i : Int32) (w : AH), Ex M_L_law lv 929 l (.int i :: .ref a :: st) w = if (aI (hg w a) i).isSome = true then Ex M_L_law lv 930 l (.int (vI (aI (hg w a) i)) :: st) w else none)
  ∧ (∀ (lv : Nat) (l : LX) (b : Nat) (a0 : Int32) (a1 : Int32) (a2 : Int32) (s0 : Int32) (w : AH), Ex M_L_law lv 930 l (.int a2 :: .int a1 :: .int a0 :: .ref b :: [.int s0]) w = if clK (hg w b) = 11 then (if (Call M_X12_fits 60 [.ref b, .int a0, .int a1, .int a2] w).isSome = true then Ex M_L_law lv 933 l (pushR (cV (Call M_X12_fits 60 [.ref b, .int a0, .int a1, .int a2] w)) [.int s0]) (cW (Call M_X12_fits 60 [.ref b, .int a0, .int a1, .int a2] w) w) else none) else none) :=
  ⟨(fun lv l st x y w => Ex_A (i := .iadd) (n := 1) (by decide +kernel) rfl rfl),
   (fun lv l st a i w => Ex_ial (by decide +kernel : decode M_L_law.2.1 876 = .ok (.iaload, 1)) rfl),
   (fun lv st t x w => Ex_M (i := .aload_n 0) (n := 1) (by decide +kernel) rfl rfl rfl),
   (fun lv st t w => Ex_M (i := .aload_n 0) (n := 1) (by decide +kernel) rfl rfl rfl),
   (fun lv st t o0 o1 o2 x w => Ex_M (i := .iload_n 3) (n := 1) (by decide +kernel) rfl rfl rfl),
   (fun lv l st w => Ex_A (i := .iconst 2) (n := 1) (by decide +kernel) rfl rfl),
   (fun lv l st x y w => Ex_A (i := .iadd) (n := 1) (by decide +kernel) rfl rfl),
   (fun lv l st a i w => Ex_ial (by decide +kernel : decode M_L_law.2.1 881 = .ok (.iaload, 1)) rfl),
   (fun lv st t x w => Ex_M (i := .aload_n 0) (n := 1) (by decide +kernel) rfl rfl rfl),
   (fun lv st t w => Ex_M (i := .aload_n 0) (n := 1) (by decide +kernel) rfl rfl rfl),
   (fun lv st t o0 o1 o2 x w => Ex_M (i := .iload_n 3) (n := 1) (by decide +kernel) rfl rfl rfl),
   (fun lv l st w => Ex_A (i := .iconst 3) (n := 1) (by decide +kernel) rfl rfl),
   (fun lv l st x y w => Ex_A (i := .iadd) (n := 1) (by decide +kernel) rfl rfl),
   (fun lv l st a i w => Ex_ial (by decide +kernel : decode M_L_law.2.1 886 = .ok (.iaload, 1)) rfl),
   (fun lv l b a0 a1 a2 s0 w => Ex_callV (by decide +kernel : decode M_L_law.2.1 887 = .ok (.invokevirtual 112, 3)) rfl (by rfl : resM (mCn M_L_law) 112 = some (2, M_X12_road)) rfl (by rfl) (Nat.le_of_ble_eq_true rfl) (by decide +kernel) (sLv_lt (by decide +kernel))),
   (fun lv l st x y w => Ex_icmp_eq (by decide +kernel : decode M_L_law.2.1 890 = .ok (.if_icmp .eq 582, 3)) rfl rfl),
   (fun lv l st w => Ex_A (i := .iconst 0) (n := 1) (by decide +kernel) rfl rfl),
   (fun lv l x w => Ex_zret (by decide +kernel : decode M_L_law.2.1 894 = .ok (.ireturn, 1)) rfl),
   (fun lv st t o0 x w => Ex_M (i := .aload_n 1) (n := 1) (by decide +kernel) rfl rfl rfl),
   (fun lv st t o0 w => Ex_M (i := .aload_n 1) (n := 1) (by decide +kernel) rfl rfl rfl),
   (fun lv st t x w => Ex_M (i := .aload_n 0) (n := 1) (by decide +kernel) rfl rfl rfl),
   (fun lv st t w => Ex_M (i := .aload_n 0) (n := 1) (by decide +kernel) rfl rfl rfl),
   (fun lv st t o0 o1 o2 x w => Ex_M (i := .iload_n 3) (n := 1) (by decide +kernel) rfl rfl rfl),
   (fun lv l st w => Ex_A (i := .iconst 1) (n := 1) (by decide +kernel) rfl rfl),
   (fun lv l st x y w => Ex_A (i := .iadd) (n := 1) (by decide +kernel) rfl rfl),
   (fun lv l st a i w => Ex_ial (by decide +kernel : decode M_L_law.2.1 900 = .ok (.iaload, 1)) rfl),
   (fun lv st t x w => Ex_M (i := .aload_n 0) (n := 1) (by decide +kernel) rfl rfl rfl),
   (fun lv st t w => Ex_M (i := .aload_n 0) (n := 1) (by decide +kernel) rfl rfl rfl),
   (fun lv st t o0 o1 o2 x w => Ex_M (i := .iload_n 3) (n := 1) (by decide +kernel) rfl rfl rfl),
   (fun lv l st w => Ex_A (i := .iconst 2) (n := 1) (by decide +kernel) rfl rfl),
   (fun lv l st x y w => Ex_A (i := .iadd) (n := 1) (by decide +kernel) rfl rfl),
   (fun lv l st a i w => Ex_ial (by decide +kernel : decode M_L_law.2.1 905 = .ok (.iaload, 1)) rfl),
   (fun lv st t x w => Ex_M (i := .aload_n 0) (n := 1) (by decide +kernel) rfl rfl rfl),
   (fun lv st t w => Ex_M (i := .aload_n 0) (n := 1) (by decide +kernel) rfl rfl rfl),
   (fun lv st t o0 o1 o2 x w => Ex_M (i := .iload_n 3) (n := 1) (by decide +kernel) rfl rfl rfl),
   (fun lv l st w => Ex_A (i := .iconst 3) (n := 1) (by decide +kernel) rfl rfl),
   (fun lv l st x y w => Ex_A (i := .iadd) (n := 1) (by decide +kernel) rfl rfl),
   (fun lv l st a i w => Ex_ial (by decide +kernel : decode M_L_law.2.1 910 = .ok (.iaload, 1)) rfl),
   (fun lv l b a0 a1 a2 w => Ex_callV (by decide +kernel : decode M_L_law.2.1 911 = .ok (.invokevirtual 113, 3)) rfl (by rfl : resM (mCn M_L_law) 113 = some (2, M_X11_fits)) rfl (by rfl) (Nat.le_of_ble_eq_true rfl) (by decide +kernel) (sLv_lt (by decide +kernel))),
   (fun lv st t o0 o1 x w => Ex_M (i := .aload_n 2) (n := 1) (by decide +kernel) rfl rfl rfl),
   (fun lv st t o0 o1 w => Ex_M (i := .aload_n 2) (n := 1) (by decide +kernel) rfl rfl rfl),
   (fun lv st t x w => Ex_M (i := .aload_n 0) (n := 1) (by decide +kernel) rfl rfl rfl),
   (fun lv st t w => Ex_M (i := .aload_n 0) (n := 1) (by decide +kernel) rfl rfl rfl),
   (fun lv st t o0 o1 o2 x w => Ex_M (i := .iload_n 3) (n := 1) (by decide +kernel) rfl rfl rfl),
   (fun lv l st w => Ex_A (i := .iconst 1) (n := 1) (by decide +kernel) rfl rfl),
   (fun lv l st x y w => Ex_A (i := .iadd) (n := 1) (by decide +kernel) rfl rfl),
   (fun lv l st a i w => Ex_ial (by decide +kernel : decode M_L_law.2.1 919 = .ok (.iaload, 1)) rfl),
   (fun lv st t x w => Ex_M (i := .aload_n 0) (n := 1) (by decide +kernel) rfl rfl rfl),
   (fun lv st t w => Ex_M (i := .aload_n 0) (n := 1) (by decide +kernel) rfl rfl rfl),
   (fun lv st t o0 o1 o2 x w => Ex_M (i := .iload_n 3) (n := 1) (by decide +kernel) rfl rfl rfl),
   (fun lv l st w => Ex_A (i := .iconst 2) (n := 1) (by decide +kernel) rfl rfl),
   (fun lv l st x y w => Ex_A (i := .iadd) (n := 1) (by decide +kernel) rfl rfl),
   (fun lv l st a i w => Ex_ial (by decide +kernel : decode M_L_law.2.1 924 = .ok (.iaload, 1)) rfl),
   (fun lv st t x w => Ex_M (i := .aload_n 0) (n := 1) (by decide +kernel) rfl rfl rfl),
   (fun lv st t w => Ex_M (i := .aload_n 0) (n := 1) (by decide +kernel) rfl rfl rfl),
   (fun lv st t o0 o1 o2 x w => Ex_M (i := .iload_n 3) (n := 1) (by decide +kernel) rfl rfl rfl),
   (fun lv l st w => Ex_A (i := .iconst 3) (n := 1) (by decide +kernel) rfl rfl),
   (fun lv l st x y w => Ex_A (i := .iadd) (n := 1) (by decide +kernel) rfl rfl),
   (fun lv l st a i w => Ex_ial (by decide +kernel : decode M_L_law.2.1 929 = .ok (.iaload, 1)) rfl),
   (fun lv l b a0 a1 a2 s0 w => Ex_callV (by decide +kernel : decode M_L_law.2.1 930 = .ok (.invokevirtual 116, 3)) rfl (by rfl : resM (mCn M_L_law) 116 = some (2, M_X12_fits)) rfl (by rfl) (Nat.le_of_ble_eq_true rfl) (by decide +kernel) (sLv_lt (by decide +kernel)))⟩
set_option maxRecDepth 20000 in
set_option maxHeartbeats 4000000 in
theorem R_L_law_p12 : (∀ (lv : Nat) (l : LX) (st : List Value) (x y : Int32) (w : AH), Ex M_L_law lv 933 l (.int y :: .int x :: st) w = if x = y then Ex M_L_law lv 1472 l st w else Ex M_L_law lv 936 l st w)
  ∧ (∀ (lv : Nat) (l : LX) (st : List Value) (w : AH), Ex M_L_law lv 936 l st w = Ex M_L_law lv 937 l (.int 0 :: st) w)
  ∧ (∀ (lv : Nat) (l : LX) (x : Int32) (w : AH), Ex M_L_law lv 937 l [.int x] w = if x = 0 ∨ x = 1 then some (some (.int x), w) else none)
  ∧ (∀ (lv : Nat) (st : List Value) (t : LX) (o0 : Option Value) (x : Nat) (w : AH), Ex M_L_law lv 938 (o0 :: some (.ref x) :: t) st w = Ex M_L_law lv 939 (o0 :: some (.ref x) :: t) (.ref x :: st) w)
  ∧ (∀ (lv : Nat) (st : List Value) (t : LX) (o0 : Option Value) (w : AH), Ex M_L_law lv 938 (o0 :: some (.null) :: t) st w = Ex M_L_law lv 939 (o0 :: some (.null) :: t) (.null :: st) w)
  ∧ (∀ (lv : Nat) (st : List Value) (t : LX) (x : Nat) (w : AH), Ex M_L_law lv 939 (some (.ref x) :: t) st w = Ex M_L_law lv 940 (some (.ref x) :: t) (.ref x :: st) w)
  ∧ (∀ (lv : Nat) (st : List Value) (t : LX) (w : AH), Ex M_L_law lv 939 (some (.null) :: t) st w = Ex M_L_law lv 940 (some (.null) :: t) (.null :: st) w)
  ∧ (∀ (lv : Nat) (st : List Value) (t : LX) (o0 o1 o2 : Option Value) (x : Int32) (w : AH), Ex M_L_law lv 940 (o0 :: o1 :: o2 :: some (.int x) :: t) st w = Ex M_L_law lv 941 (o0 :: o1 :: o2 :: some (.int x) :: t) (.int x :: st) w)
  ∧ (∀ (lv : Nat) (l : LX) (st : List Value) (w : AH), Ex M_L_law lv 941 l st w = Ex M_L_law lv 942 l (.int 1 :: st) w)
  ∧ (∀ (lv : Nat) (l : LX) (st : List Value) (x y : Int32) (w : AH), Ex M_L_law lv 942 l (.int y :: .int x :: st) w = Ex M_L_law lv 943 l (.int (x + y) :: st) w)
  ∧ (∀ (lv : Nat) (l : LX) (st : List Value) (a : Nat) (i : Int32) (w : AH), Ex M_L_law lv 943 l (.int i :: .ref a :: st) w = if (aI (hg w a) i).isSome = true then Ex M_L_law lv 944 l (.int (vI (aI (hg w a) i)) :: st) w else none)
  ∧ (∀ (lv : Nat) (st : List Value) (t : LX) (x : Nat) (w : AH), Ex M_L_law lv 944 (some (.ref x) :: t) st w = Ex M_L_law lv 945 (some (.ref x) :: t) (.ref x :: st) w)
  ∧ (∀ (lv : Nat) (st : List Value) (t : LX) (w : AH), Ex M_L_law lv 944 (some (.null) :: t) st w = Ex M_L_law lv 945 (some (.null) :: t) (.null :: st) w)
  ∧ (∀ (lv : Nat) (st : List Value) (t : LX) (o0 o1 o2 : Option Value) (x : Int32) (w : AH), Ex M_L_law lv 945 (o0 :: o1 :: o2 :: some (.int x) :: t) st w = Ex M_L_law lv 946 (o0 :: o1 :: o2 :: some (.int x) :: t) (.int x :: st) w)
  ∧ (∀ (lv : Nat) (l : LX) (st : List Value) (w : AH), Ex M_L_law lv 946 l st w = Ex M_L_law lv 947 l (.int 2 :: st) w)
  ∧ (∀ (lv : Nat) (l : LX) (st : List Value) (x y : Int32) (w : AH), Ex M_L_law lv 947 l (.int y :: .int x :: st) w = Ex M_L_law lv 948 l (.int (x + y) :: st) w)
  ∧ (∀ (lv : Nat) (l : LX) (st : List Value) (a : Nat) (i : Int32) (w : AH), Ex M_L_law lv 948 l (.int i :: .ref a :: st) w = if (aI (hg w a) i).isSome = true then Ex M_L_law lv 949 l (.int (vI (aI (hg w a) i)) :: st) w else none)
  ∧ (∀ (lv : Nat) (l : LX) (b : Nat) (a0 : Int32) (a1 : Int32) (w : AH), Ex M_L_law lv 949 l (.int a1 :: .int a0 :: .ref b :: []) w = if clK (hg w b) = 10 then (if (Call M_X11_layings 60 [.ref b, .int a0, .int a1] w).isSome = true then Ex M_L_law lv 952 l (pushR (cV (Call M_X11_layings 60 [.ref b, .int a0, .int a1] w)) []) (cW (Call M_X11_layings 60 [.ref b, .int a0, .int a1] w) w) else none) else none)
  ∧ (∀ (lv : Nat) (st : List Value) (t : LX) (o0 o1 : Option Value) (x : Nat) (w : AH), Ex M_L_law lv 952 (o0 :: o1 :: some (.ref x) :: t) st w = Ex M_L_law lv 953 (o0 :: o1 :: some (.ref x) :: t) (.ref x :: st) w)
  ∧ (∀ (lv : Nat) (st : List Value) (t : LX) (o0 o1 : Option Value) (w : AH), Ex M_L_law lv 952 (o0 :: o1 :: some (.null) :: t) st w = Ex M_L_law lv 953 (o0 :: o1 :: some (.null) :: t) (.null :: st) w)
  ∧ (∀ (lv : Nat) (st : List Value) (t : LX) (x : Nat) (w : AH), Ex M_L_law lv 953 (some (.ref x) :: t) st w = Ex M_L_law lv 954 (some (.ref x) :: t) (.ref x :: st) w)
  ∧ (∀ (lv : Nat) (st : List Value) (t : LX) (w : AH), Ex M_L_law lv 953 (some (.null) :: t) st w = Ex M_L_law lv 954 (some (.null) :: t) (.null :: st) w)
  ∧ (∀ (lv : Nat) (st : List Value) (t : LX) (o0 o1 o2 : Option Value) (x : Int32) (w : AH), Ex M_L_law lv 954 (o0 :: o1 :: o2 :: some (.int x) :: t) st w = Ex M_L_law lv 955 (o0 :: o1 :: o2 :: some (.int x) :: t) (.int x :: st) w)
  ∧ (∀ (lv : Nat) (l : LX) (st : List Value) (w : AH), Ex M_L_law lv 955 l st w = Ex M_L_law lv 956 l (.int 1 :: st) w)
  ∧ (∀ (lv : Nat) (l : LX) (st : List Value) (x y : Int32) (w : AH), Ex M_L_law lv 956 l (.int y :: .int x :: st) w = Ex M_L_law lv 957 l (.int (x + y) :: st) w)
  ∧ (∀ (lv : Nat) (l : LX) (st : List Value) (a : Nat) (i : Int32) (w : AH), Ex M_L_law lv 957 l (.int i :: .ref a :: st) w = if (aI (hg w a) i).isSome = true then Ex M_L_law lv 958 l (.int (vI (aI (hg w a) i)) :: st) w else none)
  ∧ (∀ (lv : Nat) (st : List Value) (t : LX) (x : Nat) (w : AH), Ex M_L_law lv 958 (some (.ref x) :: t) st w = Ex M_L_law lv 959 (some (.ref x) :: t) (.ref x :: st) w)
  ∧ (∀ (lv : Nat) (st : List Value) (t : LX) (w : AH), Ex M_L_law lv 958 (some (.null) :: t) st w = Ex M_L_law lv 959 (some (.null) :: t) (.null :: st) w)
  ∧ (∀ (lv : Nat) (st : List Value) (t : LX) (o0 o1 o2 : Option Value) (x : Int32) (w : AH), Ex M_L_law lv 959 (o0 :: o1 :: o2 :: some (.int x) :: t) st w = Ex M_L_law lv 960 (o0 :: o1 :: o2 :: some (.int x) :: t) (.int x :: st) w)
  ∧ (∀ (lv : Nat) (l : LX) (st : List Value) (w : AH), Ex M_L_law lv 960 l st w = Ex M_L_law lv 961 l (.int 2 :: st) w)
  ∧ (∀ (lv : Nat) (l : LX) (st : List Value) (x y : Int32) (w : AH), Ex M_L_law lv 961 l (.int y :: .int x :: st) w = Ex M_L_law lv 962 l (.int (x + y) :: st) w)
  ∧ (∀ (lv : Nat) (l : LX) (st : List Value) (a : Nat) (i : Int32) (w : AH), Ex M_L_law lv 962 l (.int i :: .ref a :: st) w = if (aI (hg w a) i).isSome = true then Ex M_L_law lv 963 l (.int (vI (aI (hg w a) i)) :: st) w else none)
  ∧ (∀ (lv : Nat) (l : LX) (b : Nat) (a0 : Int32) (a1 : Int32) (s0 : Int32) (w : AH), Ex M_L_law lv 963 l (.int a1 :: .int a0 :: .ref b :: [.int s0]) w = if clK (hg w b) = 11 then (if (Call M_X12_layings 60 [.ref b, .int a0, .int a1] w).isSome = true then Ex M_L_law lv 966 l (pushR (cV (Call M_X12_layings 60 [.ref b, .int a0, .int a1] w)) [.int s0]) (cW (Call M_X12_layings 60 [.ref b, .int a0, .int a1] w) w) else none) else none)
  ∧ (∀ (lv : Nat) (l : LX) (st : List Value) (x y : Int32) (w : AH), Ex M_L_law lv 966 l (.int y :: .int x :: st) w = if x = y then Ex M_L_law lv 1472 l st w else Ex M_L_law lv 969 l st w)
  ∧ (∀ (lv : Nat) (l : LX) (st : List Value) (w : AH), Ex M_L_law lv 969 l st w = Ex M_L_law lv 970 l (.int 0 :: st) w)
  ∧ (∀ (lv : Nat) (l : LX) (x : Int32) (w : AH), Ex M_L_law lv 970 l [.int x] w = if x = 0 ∨ x = 1 then some (some (.int x), w) else none)
  ∧ (∀ (lv : Nat) (st : List Value) (t : LX) (o0 : Option Value) (x : Nat) (w : AH), Ex M_L_law lv 971 (o0 :: some (.ref x) :: t) st w = Ex M_L_law lv 972 (o0 :: some (.ref x) :: t) (.ref x :: st) w)
  ∧ (∀ (lv : Nat) (st : List Value) (t : LX) (o0 : Option Value) (w : AH), Ex M_L_law lv 971 (o0 :: some (.null) :: t) st w = Ex M_L_law lv 972 (o0 :: some (.null) :: t) (.null :: st) w)
  ∧ (∀ (lv : Nat) (st : List Value) (t : LX) (x : Nat) (w : AH), Ex M_L_law lv 972 (some (.ref x) :: t) st w = Ex M_L_law lv 973 (some (.ref x) :: t) (.ref x :: st) w)
  ∧ (∀ (lv : Nat) (st : List Value) (t : LX) (w : AH), Ex M_L_law lv 972 (some (.null) :: t) st w = Ex M_L_law lv 973 (some (.null) :: t) (.null :: st) w)
  ∧ (∀ (lv : Nat) (st : List Value) (t : LX) (o0 o1 o2 : Option Value) (x : Int32) (w : AH), Ex M_L_law lv 973 (o0 :: o1 :: o2 :: some (.int x) :: t) st w = Ex M_L_law lv 974 (o0 :: o1 :: o2 :: some (.int x) :: t) (.int x :: st) w)
  ∧ (∀ (lv : Nat) (l : LX) (st : List Value) (w : AH), Ex M_L_law lv 974 l st w = Ex M_L_law lv 975 l (.int 1 :: st) w)
  ∧ (∀ (lv : Nat) (l : LX) (st : List Value) (x y : Int32) (w : AH), Ex M_L_law lv 975 l (.int y :: .int x :: st) w = Ex M_L_law lv 976 l (.int (x + y) :: st) w)
  ∧ (∀ (lv : Nat) (l : LX) (st : List Value) (a : Nat) (i : Int32) (w : AH), Ex M_L_law lv 976 l (.int i :: .ref a :: st) w = if (aI (hg w a) i).isSome = true then Ex M_L_law lv 977 l (.int (vI (aI (hg w a) i)) :: st) w else none)
  ∧ (∀ (lv : Nat) (l : LX) (b : Nat) (a0 : Int32) (w : AH), Ex M_L_law lv 977 l (.int a0 :: .ref b :: []) w = if clK (hg w b) = 10 then (if (Call M_X11_cut 60 [.ref b, .int a0] w).isSome = true then Ex M_L_law lv 980 l (pushR (cV (Call M_X11_cut 60 [.ref b, .int a0] w)) []) (cW (Call M_X11_cut 60 [.ref b, .int a0] w) w) else none) else none)
  ∧ (∀ (lv : Nat) (st : List Value) (t : LX) (o0 o1 : Option Value) (x : Nat) (w : AH), Ex M_L_law lv 980 (o0 :: o1 :: some (.ref x) :: t) st w = Ex M_L_law lv 981 (o0 :: o1 :: some (.ref x) :: t) (.ref x :: st) w)
  ∧ (∀ (lv : Nat) (st : List Value) (t : LX) (o0 o1 : Option Value) (w : AH), Ex M_L_law lv 980 (o0 :: o1 :: some (.null) :: t) st w = Ex M_L_law lv 981 (o0 :: o1 :: some (.null) :: t) (.null :: st) w)
  ∧ (∀ (lv : Nat) (st : List Value) (t : LX) (x : Nat) (w : AH), Ex M_L_law lv 981 (some (.ref x) :: t) st w = Ex M_L_law lv 982 (some (.ref x) :: t) (.ref x :: st) w)
  ∧ (∀ (lv : Nat) (st : List Value) (t : LX) (w : AH), Ex M_L_law lv 981 (some (.null) :: t) st w = Ex M_L_law lv 982 (some (.null) :: t) (.null :: st) w)
  ∧ (∀ (lv : Nat) (st : List Value) (t : LX) (o0 o1 o2 : Option Value) (x : Int32) (w : AH), Ex M_L_law lv 982 (o0 :: o1 :: o2 :: some (.int x) :: t) st w = Ex M_L_law lv 983 (o0 :: o1 :: o2 :: some (.int x) :: t) (.int x :: st) w)
  ∧ (∀ (lv : Nat) (l : LX) (st : List Value) (w : AH), Ex M_L_law lv 983 l st w = Ex M_L_law lv 984 l (.int 1 :: st) w)
  ∧ (∀ (lv : Nat) (l : LX) (st : List Value) (x y : Int32) (w : AH), Ex M_L_law lv 984 l (.int y :: .int x :: st) w = Ex M_L_law lv 985 l (.int (x + y) :: st) w)
  ∧ (∀ (lv : Nat) (l : LX) (st : List Value) (a : Nat) (i : Int32) (w : AH), Ex M_L_law lv 985 l (.int i :: .ref a :: st) w = if (aI (hg w a) i).isSome = true then Ex M_L_law lv 986 l (.int (vI (aI (hg w a) i)) :: st) w else none)
  ∧ (∀ (lv : Nat) (l : LX) (b : Nat) (a0 : Int32) (s0 : Int32) (w : AH), Ex M_L_law lv 986 l (.int a0 :: .ref b :: [.int s0]) w = if clK (hg w b) = 11 then (if (Call M_X12_cut 60 [.ref b, .int a0] w).isSome = true then Ex M_L_law lv 989 l (pushR (cV (Call M_X12_cut 60 [.ref b, .int a0] w)) [.int s0]) (cW (Call M_X12_cut 60 [.ref b, .int a0] w) w) else none) else none)
  ∧ (∀ (lv : Nat) (l : LX) (st : List Value) (x y : Int32) (w : AH), Ex M_L_law lv 989 l (.int y :: .int x :: st) w = if x = y then Ex M_L_law lv 1472 l st w else Ex M_L_law lv 992 l st w)
  ∧ (∀ (lv : Nat) (l : LX) (st : List Value) (w : AH), Ex M_L_law lv 992 l st w = Ex M_L_law lv 993 l (.int 0 :: st) w)
  ∧ (∀ (lv : Nat) (l : LX) (x : Int32) (w : AH), Ex M_L_law lv 993 l [.int x] w = if x = 0 ∨ x = 1 then some (some (.int x), w) else none)
  ∧ (∀ (lv : Nat) (st : List Value) (t : LX) (o0 : Option Value) (x : Nat) (w : AH), Ex M_L_law lv 994 (o0 :: some (.ref x) :: t) st w = Ex M_L_law lv 995 (o0 :: some (.ref x) :: t) (.ref x :: st) w)
  ∧ (∀ (lv : Nat) (st : List Value) (t : LX) (o0 : Option Value) (w : AH), Ex M_L_law lv 994 (o0 :: some (.null) :: t) st w = Ex M_L_law lv 995 (o0 :: some (.null) :: t) (.null :: st) w)
  ∧ (∀ (lv : Nat) (st : List Value) (t : LX) (x : Nat) (w : AH), Ex M_L_law lv 995 (some (.ref x) :: t) st w = Ex M_L_law lv 996 (some (.ref x) :: t) (.ref x :: st) w) :=
  ⟨(fun lv l st x y w => Ex_icmp_eq (by decide +kernel : decode M_L_law.2.1 933 = .ok (.if_icmp .eq 539, 3)) rfl rfl),
   (fun lv l st w => Ex_A (i := .iconst 0) (n := 1) (by decide +kernel) rfl rfl),
   (fun lv l x w => Ex_zret (by decide +kernel : decode M_L_law.2.1 937 = .ok (.ireturn, 1)) rfl),
   (fun lv st t o0 x w => Ex_M (i := .aload_n 1) (n := 1) (by decide +kernel) rfl rfl rfl),
   (fun lv st t o0 w => Ex_M (i := .aload_n 1) (n := 1) (by decide +kernel) rfl rfl rfl),
   (fun lv st t x w => Ex_M (i := .aload_n 0) (n := 1) (by decide +kernel) rfl rfl rfl),
   (fun lv st t w => Ex_M (i := .aload_n 0) (n := 1) (by decide +kernel) rfl rfl rfl),
   (fun lv st t o0 o1 o2 x w => Ex_M (i := .iload_n 3) (n := 1) (by decide +kernel) rfl rfl rfl),
   (fun lv l st w => Ex_A (i := .iconst 1) (n := 1) (by decide +kernel) rfl rfl),
   (fun lv l st x y w => Ex_A (i := .iadd) (n := 1) (by decide +kernel) rfl rfl),
   (fun lv l st a i w => Ex_ial (by decide +kernel : decode M_L_law.2.1 943 = .ok (.iaload, 1)) rfl),
   (fun lv st t x w => Ex_M (i := .aload_n 0) (n := 1) (by decide +kernel) rfl rfl rfl),
   (fun lv st t w => Ex_M (i := .aload_n 0) (n := 1) (by decide +kernel) rfl rfl rfl),
   (fun lv st t o0 o1 o2 x w => Ex_M (i := .iload_n 3) (n := 1) (by decide +kernel) rfl rfl rfl),
   (fun lv l st w => Ex_A (i := .iconst 2) (n := 1) (by decide +kernel) rfl rfl),
   (fun lv l st x y w => Ex_A (i := .iadd) (n := 1) (by decide +kernel) rfl rfl),
   (fun lv l st a i w => Ex_ial (by decide +kernel : decode M_L_law.2.1 948 = .ok (.iaload, 1)) rfl),
   (fun lv l b a0 a1 w => Ex_callV (by decide +kernel : decode M_L_law.2.1 949 = .ok (.invokevirtual 117, 3)) rfl (by rfl : resM (mCn M_L_law) 117 = some (2, M_X11_layings)) rfl (by rfl) (Nat.le_of_ble_eq_true rfl) (by decide +kernel) (sLv_lt (by decide +kernel))),
   (fun lv st t o0 o1 x w => Ex_M (i := .aload_n 2) (n := 1) (by decide +kernel) rfl rfl rfl),
   (fun lv st t o0 o1 w => Ex_M (i := .aload_n 2) (n := 1) (by decide +kernel) rfl rfl rfl),
   (fun lv st t x w => Ex_M (i := .aload_n 0) (n := 1) (by decide +kernel) rfl rfl rfl),
   (fun lv st t w => Ex_M (i := .aload_n 0) (n := 1) (by decide +kernel) rfl rfl rfl),
   (fun lv st t o0 o1 o2 x w => Ex_M (i := .iload_n 3) (n := 1) (by decide +kernel) rfl rfl rfl),
   (fun lv l st w => Ex_A (i := .iconst 1) (n := 1) (by decide +kernel) rfl rfl),
   (fun lv l st x y w => Ex_A (i := .iadd) (n := 1) (by decide +kernel) rfl rfl),
   (fun lv l st a i w => Ex_ial (by decide +kernel : decode M_L_law.2.1 957 = .ok (.iaload, 1)) rfl),
   (fun lv st t x w => Ex_M (i := .aload_n 0) (n := 1) (by decide +kernel) rfl rfl rfl),
   (fun lv st t w => Ex_M (i := .aload_n 0) (n := 1) (by decide +kernel) rfl rfl rfl),
   (fun lv st t o0 o1 o2 x w => Ex_M (i := .iload_n 3) (n := 1) (by decide +kernel) rfl rfl rfl),
   (fun lv l st w => Ex_A (i := .iconst 2) (n := 1) (by decide +kernel) rfl rfl),
   (fun lv l st x y w => Ex_A (i := .iadd) (n := 1) (by decide +kernel) rfl rfl),
   (fun lv l st a i w => Ex_ial (by decide +kernel : decode M_L_law.2.1 962 = .ok (.iaload, 1)) rfl),
   (fun lv l b a0 a1 s0 w => Ex_callV (by decide +kernel : decode M_L_law.2.1 963 = .ok (.invokevirtual 120, 3)) rfl (by rfl : resM (mCn M_L_law) 120 = some (2, M_X12_layings)) rfl (by rfl) (Nat.le_of_ble_eq_true rfl) (by decide +kernel) (sLv_lt (by decide +kernel))),
   (fun lv l st x y w => Ex_icmp_eq (by decide +kernel : decode M_L_law.2.1 966 = .ok (.if_icmp .eq 506, 3)) rfl rfl),
   (fun lv l st w => Ex_A (i := .iconst 0) (n := 1) (by decide +kernel) rfl rfl),
   (fun lv l x w => Ex_zret (by decide +kernel : decode M_L_law.2.1 970 = .ok (.ireturn, 1)) rfl),
   (fun lv st t o0 x w => Ex_M (i := .aload_n 1) (n := 1) (by decide +kernel) rfl rfl rfl),
   (fun lv st t o0 w => Ex_M (i := .aload_n 1) (n := 1) (by decide +kernel) rfl rfl rfl),
   (fun lv st t x w => Ex_M (i := .aload_n 0) (n := 1) (by decide +kernel) rfl rfl rfl),
   (fun lv st t w => Ex_M (i := .aload_n 0) (n := 1) (by decide +kernel) rfl rfl rfl),
   (fun lv st t o0 o1 o2 x w => Ex_M (i := .iload_n 3) (n := 1) (by decide +kernel) rfl rfl rfl),
   (fun lv l st w => Ex_A (i := .iconst 1) (n := 1) (by decide +kernel) rfl rfl),
   (fun lv l st x y w => Ex_A (i := .iadd) (n := 1) (by decide +kernel) rfl rfl),
   (fun lv l st a i w => Ex_ial (by decide +kernel : decode M_L_law.2.1 976 = .ok (.iaload, 1)) rfl),
   (fun lv l b a0 w => Ex_callV (by decide +kernel : decode M_L_law.2.1 977 = .ok (.invokevirtual 121, 3)) rfl (by rfl : resM (mCn M_L_law) 121 = some (2, M_X11_cut)) rfl (by rfl) (Nat.le_of_ble_eq_true rfl) (by decide +kernel) (sLv_lt (by decide +kernel))),
   (fun lv st t o0 o1 x w => Ex_M (i := .aload_n 2) (n := 1) (by decide +kernel) rfl rfl rfl),
   (fun lv st t o0 o1 w => Ex_M (i := .aload_n 2) (n := 1) (by decide +kernel) rfl rfl rfl),
   (fun lv st t x w => Ex_M (i := .aload_n 0) (n := 1) (by decide +kernel) rfl rfl rfl),
   (fun lv st t w => Ex_M (i := .aload_n 0) (n := 1) (by decide +kernel) rfl rfl rfl),
   (fun lv st t o0 o1 o2 x w => Ex_M (i := .iload_n 3) (n := 1) (by decide +kernel) rfl rfl rfl),
   (fun lv l st w => Ex_A (i := .iconst 1) (n := 1) (by decide +kernel) rfl rfl),
   (fun lv l st x y w => Ex_A (i := .iadd) (n := 1) (by decide +kernel) rfl rfl),
   (fun lv l st a i w => Ex_ial (by decide +kernel : decode M_L_law.2.1 985 = .ok (.iaload, 1)) rfl),
   (fun lv l b a0 s0 w => Ex_callV (by decide +kernel : decode M_L_law.2.1 986 = .ok (.invokevirtual 124, 3)) rfl (by rfl : resM (mCn M_L_law) 124 = some (2, M_X12_cut)) rfl (by rfl) (Nat.le_of_ble_eq_true rfl) (by decide +kernel) (sLv_lt (by decide +kernel))),
   (fun lv l st x y w => Ex_icmp_eq (by decide +kernel : decode M_L_law.2.1 989 = .ok (.if_icmp .eq 483, 3)) rfl rfl),
   (fun lv l st w => Ex_A (i := .iconst 0) (n := 1) (by decide +kernel) rfl rfl),
   (fun lv l x w => Ex_zret (by decide +kernel : decode M_L_law.2.1 993 = .ok (.ireturn, 1)) rfl),
   (fun lv st t o0 x w => Ex_M (i := .aload_n 1) (n := 1) (by decide +kernel) rfl rfl rfl),
   (fun lv st t o0 w => Ex_M (i := .aload_n 1) (n := 1) (by decide +kernel) rfl rfl rfl),
   (fun lv st t x w => Ex_M (i := .aload_n 0) (n := 1) (by decide +kernel) rfl rfl rfl)⟩
set_option maxRecDepth 20000 in
set_option maxHeartbeats 4000000 in
theorem R_L_law_p13 : (∀ (lv : Nat) (st : List Value) (t : LX) (w : AH), Ex M_L_law lv 995 (some (.null) :: t) st w = Ex M_L_law lv 996 (some (.null) :: t) (.null :: st) w)
  ∧ (∀ (lv : Nat) (st : List Value) (t : LX) (o0 o1 o2 : Option Value) (x : Int32) (w : AH), Ex M_L_law lv 996 (o0 :: o1 :: o2 :: some (.int x) :: t) st w = Ex M_L_law lv 997 (o0 :: o1 :: o2 :: some (.int x) :: t) (.int x :: st) w)
  ∧ (∀ (lv : Nat) (l : LX) (st : List Value) (w : AH), Ex M_L_law lv 997 l st w = Ex M_L_law lv 998 l (.int 1 :: st) w)
  ∧ (∀ (lv : Nat) (l : LX) (st : List Value) (x y : Int32) (w : AH), Ex M_L_law lv 998 l (.int y :: .int x :: st) w = Ex M_L_law lv 999 l (.int (x + y) :: st) w)
  ∧ (∀ (lv : Nat) (l : LX) (st : List Value) (a : Nat) (i : Int32) (w : AH), Ex M_L_law lv 999 l (.int i :: .ref a :: st) w = if (aI (hg w a) i).isSome = true then Ex M_L_law lv 1000 l (.int (vI (aI (hg w a) i)) :: st) w else none)
  ∧ (∀ (lv : Nat) (st : List Value) (t : LX) (x : Nat) (w : AH), Ex M_L_law lv 1000 (some (.ref x) :: t) st w = Ex M_L_law lv 1001 (some (.ref x) :: t) (.ref x :: st) w)
  ∧ (∀ (lv : Nat) (st : List Value) (t : LX) (w : AH), Ex M_L_law lv 1000 (some (.null) :: t) st w = Ex M_L_law lv 1001 (some (.null) :: t) (.null :: st) w)
  ∧ (∀ (lv : Nat) (st : List Value) (t : LX) (o0 o1 o2 : Option Value) (x : Int32) (w : AH), Ex M_L_law lv 1001 (o0 :: o1 :: o2 :: some (.int x) :: t) st w = Ex M_L_law lv 1002 (o0 :: o1 :: o2 :: some (.int x) :: t) (.int x :: st) w)
  ∧ (∀ (lv : Nat) (l : LX) (st : List Value) (w : AH), Ex M_L_law lv 1002 l st w = Ex M_L_law lv 1003 l (.int 2 :: st) w)
  ∧ (∀ (lv : Nat) (l : LX) (st : List Value) (x y : Int32) (w : AH), Ex M_L_law lv 1003 l (.int y :: .int x :: st) w = Ex M_L_law lv 1004 l (.int (x + y) :: st) w)
  ∧ (∀ (lv : Nat) (l : LX) (st : List Value) (a : Nat) (i : Int32) (w : AH), Ex M_L_law lv 1004 l (.int i :: .ref a :: st) w = if (aI (hg w a) i).isSome = true then Ex M_L_law lv 1005 l (.int (vI (aI (hg w a) i)) :: st) w else none)
  ∧ (∀ (lv : Nat) (st : List Value) (t : LX) (x : Nat) (w : AH), Ex M_L_law lv 1005 (some (.ref x) :: t) st w = Ex M_L_law lv 1006 (some (.ref x) :: t) (.ref x :: st) w)
  ∧ (∀ (lv : Nat) (st : List Value) (t : LX) (w : AH), Ex M_L_law lv 1005 (some (.null) :: t) st w = Ex M_L_law lv 1006 (some (.null) :: t) (.null :: st) w)
  ∧ (∀ (lv : Nat) (st : List Value) (t : LX) (o0 o1 o2 : Option Value) (x : Int32) (w : AH), Ex M_L_law lv 1006 (o0 :: o1 :: o2 :: some (.int x) :: t) st w = Ex M_L_law lv 1007 (o0 :: o1 :: o2 :: some (.int x) :: t) (.int x :: st) w)
  ∧ (∀ (lv : Nat) (l : LX) (st : List Value) (w : AH), Ex M_L_law lv 1007 l st w = Ex M_L_law lv 1008 l (.int 3 :: st) w)
  ∧ (∀ (lv : Nat) (l : LX) (st : List Value) (x y : Int32) (w : AH), Ex M_L_law lv 1008 l (.int y :: .int x :: st) w = Ex M_L_law lv 1009 l (.int (x + y) :: st) w)
  ∧ (∀ (lv : Nat) (l : LX) (st : List Value) (a : Nat) (i : Int32) (w : AH), Ex M_L_law lv 1009 l (.int i :: .ref a :: st) w = if (aI (hg w a) i).isSome = true then Ex M_L_law lv 1010 l (.int (vI (aI (hg w a) i)) :: st) w else none)
  ∧ (∀ (lv : Nat) (l : LX) (b : Nat) (a0 : Int32) (a1 : Int32) (a2 : Int32) (w : AH), Ex M_L_law lv 1010 l (.int a2 :: .int a1 :: .int a0 :: .ref b :: []) w = if clK (hg w b) = 10 then (if (Call M_X11_dyed 60 [.ref b, .int a0, .int a1, .int a2] w).isSome = true then Ex M_L_law lv 1013 l (pushR (cV (Call M_X11_dyed 60 [.ref b, .int a0, .int a1, .int a2] w)) []) (cW (Call M_X11_dyed 60 [.ref b, .int a0, .int a1, .int a2] w) w) else none) else none)
  ∧ (∀ (lv : Nat) (st : List Value) (t : LX) (o0 o1 : Option Value) (x : Nat) (w : AH), Ex M_L_law lv 1013 (o0 :: o1 :: some (.ref x) :: t) st w = Ex M_L_law lv 1014 (o0 :: o1 :: some (.ref x) :: t) (.ref x :: st) w)
  ∧ (∀ (lv : Nat) (st : List Value) (t : LX) (o0 o1 : Option Value) (w : AH), Ex M_L_law lv 1013 (o0 :: o1 :: some (.null) :: t) st w = Ex M_L_law lv 1014 (o0 :: o1 :: some (.null) :: t) (.null :: st) w)
  ∧ (∀ (lv : Nat) (st : List Value) (t : LX) (x : Nat) (w : AH), Ex M_L_law lv 1014 (some (.ref x) :: t) st w = Ex M_L_law lv 1015 (some (.ref x) :: t) (.ref x :: st) w)
  ∧ (∀ (lv : Nat) (st : List Value) (t : LX) (w : AH), Ex M_L_law lv 1014 (some (.null) :: t) st w = Ex M_L_law lv 1015 (some (.null) :: t) (.null :: st) w)
  ∧ (∀ (lv : Nat) (st : List Value) (t : LX) (o0 o1 o2 : Option Value) (x : Int32) (w : AH), Ex M_L_law lv 1015 (o0 :: o1 :: o2 :: some (.int x) :: t) st w = Ex M_L_law lv 1016 (o0 :: o1 :: o2 :: some (.int x) :: t) (.int x :: st) w)
  ∧ (∀ (lv : Nat) (l : LX) (st : List Value) (w : AH), Ex M_L_law lv 1016 l st w = Ex M_L_law lv 1017 l (.int 1 :: st) w)
  ∧ (∀ (lv : Nat) (l : LX) (st : List Value) (x y : Int32) (w : AH), Ex M_L_law lv 1017 l (.int y :: .int x :: st) w = Ex M_L_law lv 1018 l (.int (x + y) :: st) w)
  ∧ (∀ (lv : Nat) (l : LX) (st : List Value) (a : Nat) (i : Int32) (w : AH), Ex M_L_law lv 1018 l (.int i :: .ref a :: st) w = if (aI (hg w a) i).isSome = true then Ex M_L_law lv 1019 l (.int (vI (aI (hg w a) i)) :: st) w else none)
  ∧ (∀ (lv : Nat) (st : List Value) (t : LX) (x : Nat) (w : AH), Ex M_L_law lv 1019 (some (.ref x) :: t) st w = Ex M_L_law lv 1020 (some (.ref x) :: t) (.ref x :: st) w)
  ∧ (∀ (lv : Nat) (st : List Value) (t : LX) (w : AH), Ex M_L_law lv 1019 (some (.null) :: t) st w = Ex M_L_law lv 1020 (some (.null) :: t) (.null :: st) w)
  ∧ (∀ (lv : Nat) (st : List Value) (t : LX) (o0 o1 o2 : Option Value) (x : Int32) (w : AH), Ex M_L_law lv 1020 (o0 :: o1 :: o2 :: some (.int x) :: t) st w = Ex M_L_law lv 1021 (o0 :: o1 :: o2 :: some (.int x) :: t) (.int x :: st) w)
  ∧ (∀ (lv : Nat) (l : LX) (st : List Value) (w : AH), Ex M_L_law lv 1021 l st w = Ex M_L_law lv 1022 l (.int 2 :: st) w)
  ∧ (∀ (lv : Nat) (l : LX) (st : List Value) (x y : Int32) (w : AH), Ex M_L_law lv 1022 l (.int y :: .int x :: st) w = Ex M_L_law lv 1023 l (.int (x + y) :: st) w)
  ∧ (∀ (lv : Nat) (l : LX) (st : List Value) (a : Nat) (i : Int32) (w : AH), Ex M_L_law lv 1023 l (.int i :: .ref a :: st) w = if (aI (hg w a) i).isSome = true then Ex M_L_law lv 1024 l (.int (vI (aI (hg w a) i)) :: st) w else none)
  ∧ (∀ (lv : Nat) (st : List Value) (t : LX) (x : Nat) (w : AH), Ex M_L_law lv 1024 (some (.ref x) :: t) st w = Ex M_L_law lv 1025 (some (.ref x) :: t) (.ref x :: st) w)
  ∧ (∀ (lv : Nat) (st : List Value) (t : LX) (w : AH), Ex M_L_law lv 1024 (some (.null) :: t) st w = Ex M_L_law lv 1025 (some (.null) :: t) (.null :: st) w)
  ∧ (∀ (lv : Nat) (st : List Value) (t : LX) (o0 o1 o2 : Option Value) (x : Int32) (w : AH), Ex M_L_law lv 1025 (o0 :: o1 :: o2 :: some (.int x) :: t) st w = Ex M_L_law lv 1026 (o0 :: o1 :: o2 :: some (.int x) :: t) (.int x :: st) w)
  ∧ (∀ (lv : Nat) (l : LX) (st : List Value) (w : AH), Ex M_L_law lv 1026 l st w = Ex M_L_law lv 1027 l (.int 3 :: st) w)
  ∧ (∀ (lv : Nat) (l : LX) (st : List Value) (x y : Int32) (w : AH), Ex M_L_law lv 1027 l (.int y :: .int x :: st) w = Ex M_L_law lv 1028 l (.int (x + y) :: st) w)
  ∧ (∀ (lv : Nat) (l : LX) (st : List Value) (a : Nat) (i : Int32) (w : AH), Ex M_L_law lv 1028 l (.int i :: .ref a :: st) w = if (aI (hg w a) i).isSome = true then Ex M_L_law lv 1029 l (.int (vI (aI (hg w a) i)) :: st) w else none)
  ∧ (∀ (lv : Nat) (l : LX) (b : Nat) (a0 : Int32) (a1 : Int32) (a2 : Int32) (s0 : Int32) (w : AH), Ex M_L_law lv 1029 l (.int a2 :: .int a1 :: .int a0 :: .ref b :: [.int s0]) w = if clK (hg w b) = 11 then (if (Call M_X12_dyed 60 [.ref b, .int a0, .int a1, .int a2] w).isSome = true then Ex M_L_law lv 1032 l (pushR (cV (Call M_X12_dyed 60 [.ref b, .int a0, .int a1, .int a2] w)) [.int s0]) (cW (Call M_X12_dyed 60 [.ref b, .int a0, .int a1, .int a2] w) w) else none) else none)
  ∧ (∀ (lv : Nat) (l : LX) (st : List Value) (x y : Int32) (w : AH), Ex M_L_law lv 1032 l (.int y :: .int x :: st) w = if x = y then Ex M_L_law lv 1472 l st w else Ex M_L_law lv 1035 l st w)
  ∧ (∀ (lv : Nat) (l : LX) (st : List Value) (w : AH), Ex M_L_law lv 1035 l st w = Ex M_L_law lv 1036 l (.int 0 :: st) w)
  ∧ (∀ (lv : Nat) (l : LX) (x : Int32) (w : AH), Ex M_L_law lv 1036 l [.int x] w = if x = 0 ∨ x = 1 then some (some (.int x), w) else none)
  ∧ (∀ (lv : Nat) (st : List Value) (t : LX) (o0 : Option Value) (x : Nat) (w : AH), Ex M_L_law lv 1037 (o0 :: some (.ref x) :: t) st w = Ex M_L_law lv 1038 (o0 :: some (.ref x) :: t) (.ref x :: st) w)
  ∧ (∀ (lv : Nat) (st : List Value) (t : LX) (o0 : Option Value) (w : AH), Ex M_L_law lv 1037 (o0 :: some (.null) :: t) st w = Ex M_L_law lv 1038 (o0 :: some (.null) :: t) (.null :: st) w)
  ∧ (∀ (lv : Nat) (st : List Value) (t : LX) (x : Nat) (w : AH), Ex M_L_law lv 1038 (some (.ref x) :: t) st w = Ex M_L_law lv 1039 (some (.ref x) :: t) (.ref x :: st) w)
  ∧ (∀ (lv : Nat) (st : List Value) (t : LX) (w : AH), Ex M_L_law lv 1038 (some (.null) :: t) st w = Ex M_L_law lv 1039 (some (.null) :: t) (.null :: st) w)
  ∧ (∀ (lv : Nat) (st : List Value) (t : LX) (o0 o1 o2 : Option Value) (x : Int32) (w : AH), Ex M_L_law lv 1039 (o0 :: o1 :: o2 :: some (.int x) :: t) st w = Ex M_L_law lv 1040 (o0 :: o1 :: o2 :: some (.int x) :: t) (.int x :: st) w)
  ∧ (∀ (lv : Nat) (l : LX) (st : List Value) (w : AH), Ex M_L_law lv 1040 l st w = Ex M_L_law lv 1041 l (.int 1 :: st) w)
  ∧ (∀ (lv : Nat) (l : LX) (st : List Value) (x y : Int32) (w : AH), Ex M_L_law lv 1041 l (.int y :: .int x :: st) w = Ex M_L_law lv 1042 l (.int (x + y) :: st) w)
  ∧ (∀ (lv : Nat) (l : LX) (st : List Value) (a : Nat) (i : Int32) (w : AH), Ex M_L_law lv 1042 l (.int i :: .ref a :: st) w = if (aI (hg w a) i).isSome = true then Ex M_L_law lv 1043 l (.int (vI (aI (hg w a) i)) :: st) w else none)
  ∧ (∀ (lv : Nat) (st : List Value) (t : LX) (x : Nat) (w : AH), Ex M_L_law lv 1043 (some (.ref x) :: t) st w = Ex M_L_law lv 1044 (some (.ref x) :: t) (.ref x :: st) w)
  ∧ (∀ (lv : Nat) (st : List Value) (t : LX) (w : AH), Ex M_L_law lv 1043 (some (.null) :: t) st w = Ex M_L_law lv 1044 (some (.null) :: t) (.null :: st) w)
  ∧ (∀ (lv : Nat) (st : List Value) (t : LX) (o0 o1 o2 : Option Value) (x : Int32) (w : AH), Ex M_L_law lv 1044 (o0 :: o1 :: o2 :: some (.int x) :: t) st w = Ex M_L_law lv 1045 (o0 :: o1 :: o2 :: some (.int x) :: t) (.int x :: st) w)
  ∧ (∀ (lv : Nat) (l : LX) (st : List Value) (w : AH), Ex M_L_law lv 1045 l st w = Ex M_L_law lv 1046 l (.int 2 :: st) w)
  ∧ (∀ (lv : Nat) (l : LX) (st : List Value) (x y : Int32) (w : AH), Ex M_L_law lv 1046 l (.int y :: .int x :: st) w = Ex M_L_law lv 1047 l (.int (x + y) :: st) w)
  ∧ (∀ (lv : Nat) (l : LX) (st : List Value) (a : Nat) (i : Int32) (w : AH), Ex M_L_law lv 1047 l (.int i :: .ref a :: st) w = if (aI (hg w a) i).isSome = true then Ex M_L_law lv 1048 l (.int (vI (aI (hg w a) i)) :: st) w else none)
  ∧ (∀ (lv : Nat) (st : List Value) (t : LX) (x : Nat) (w : AH), Ex M_L_law lv 1048 (some (.ref x) :: t) st w = Ex M_L_law lv 1049 (some (.ref x) :: t) (.ref x :: st) w)
  ∧ (∀ (lv : Nat) (st : List Value) (t : LX) (w : AH), Ex M_L_law lv 1048 (some (.null) :: t) st w = Ex M_L_law lv 1049 (some (.null) :: t) (.null :: st) w)
  ∧ (∀ (lv : Nat) (st : List Value) (t : LX) (o0 o1 o2 : Option Value) (x : Int32) (w : AH), Ex M_L_law lv 1049 (o0 :: o1 :: o2 :: some (.int x) :: t) st w = Ex M_L_law lv 1050 (o0 :: o1 :: o2 :: some (.int x) :: t) (.int x :: st) w)
  ∧ (∀ (lv : Nat) (l : LX) (st : List Value) (w : AH), Ex M_L_law lv 1050 l st w = Ex M_L_law lv 1051 l (.int 3 :: st) w) :=
  ⟨(fun lv st t w => Ex_M (i := .aload_n 0) (n := 1) (by decide +kernel) rfl rfl rfl),
   (fun lv st t o0 o1 o2 x w => Ex_M (i := .iload_n 3) (n := 1) (by decide +kernel) rfl rfl rfl),
   (fun lv l st w => Ex_A (i := .iconst 1) (n := 1) (by decide +kernel) rfl rfl),
   (fun lv l st x y w => Ex_A (i := .iadd) (n := 1) (by decide +kernel) rfl rfl),
   (fun lv l st a i w => Ex_ial (by decide +kernel : decode M_L_law.2.1 999 = .ok (.iaload, 1)) rfl),
   (fun lv st t x w => Ex_M (i := .aload_n 0) (n := 1) (by decide +kernel) rfl rfl rfl),
   (fun lv st t w => Ex_M (i := .aload_n 0) (n := 1) (by decide +kernel) rfl rfl rfl),
   (fun lv st t o0 o1 o2 x w => Ex_M (i := .iload_n 3) (n := 1) (by decide +kernel) rfl rfl rfl),
   (fun lv l st w => Ex_A (i := .iconst 2) (n := 1) (by decide +kernel) rfl rfl),
   (fun lv l st x y w => Ex_A (i := .iadd) (n := 1) (by decide +kernel) rfl rfl),
   (fun lv l st a i w => Ex_ial (by decide +kernel : decode M_L_law.2.1 1004 = .ok (.iaload, 1)) rfl),
   (fun lv st t x w => Ex_M (i := .aload_n 0) (n := 1) (by decide +kernel) rfl rfl rfl),
   (fun lv st t w => Ex_M (i := .aload_n 0) (n := 1) (by decide +kernel) rfl rfl rfl),
   (fun lv st t o0 o1 o2 x w => Ex_M (i := .iload_n 3) (n := 1) (by decide +kernel) rfl rfl rfl),
   (fun lv l st w => Ex_A (i := .iconst 3) (n := 1) (by decide +kernel) rfl rfl),
   (fun lv l st x y w => Ex_A (i := .iadd) (n := 1) (by decide +kernel) rfl rfl),
   (fun lv l st a i w => Ex_ial (by decide +kernel : decode M_L_law.2.1 1009 = .ok (.iaload, 1)) rfl),
   (fun lv l b a0 a1 a2 w => Ex_callV (by decide +kernel : decode M_L_law.2.1 1010 = .ok (.invokevirtual 125, 3)) rfl (by rfl : resM (mCn M_L_law) 125 = some (2, M_X11_dyed)) rfl (by rfl) (Nat.le_of_ble_eq_true rfl) (by decide +kernel) (sLv_lt (by decide +kernel))),
   (fun lv st t o0 o1 x w => Ex_M (i := .aload_n 2) (n := 1) (by decide +kernel) rfl rfl rfl),
   (fun lv st t o0 o1 w => Ex_M (i := .aload_n 2) (n := 1) (by decide +kernel) rfl rfl rfl),
   (fun lv st t x w => Ex_M (i := .aload_n 0) (n := 1) (by decide +kernel) rfl rfl rfl),
   (fun lv st t w => Ex_M (i := .aload_n 0) (n := 1) (by decide +kernel) rfl rfl rfl),
   (fun lv st t o0 o1 o2 x w => Ex_M (i := .iload_n 3) (n := 1) (by decide +kernel) rfl rfl rfl),
   (fun lv l st w => Ex_A (i := .iconst 1) (n := 1) (by decide +kernel) rfl rfl),
   (fun lv l st x y w => Ex_A (i := .iadd) (n := 1) (by decide +kernel) rfl rfl),
   (fun lv l st a i w => Ex_ial (by decide +kernel : decode M_L_law.2.1 1018 = .ok (.iaload, 1)) rfl),
   (fun lv st t x w => Ex_M (i := .aload_n 0) (n := 1) (by decide +kernel) rfl rfl rfl),
   (fun lv st t w => Ex_M (i := .aload_n 0) (n := 1) (by decide +kernel) rfl rfl rfl),
   (fun lv st t o0 o1 o2 x w => Ex_M (i := .iload_n 3) (n := 1) (by decide +kernel) rfl rfl rfl),
   (fun lv l st w => Ex_A (i := .iconst 2) (n := 1) (by decide +kernel) rfl rfl),
   (fun lv l st x y w => Ex_A (i := .iadd) (n := 1) (by decide +kernel) rfl rfl),
   (fun lv l st a i w => Ex_ial (by decide +kernel : decode M_L_law.2.1 1023 = .ok (.iaload, 1)) rfl),
   (fun lv st t x w => Ex_M (i := .aload_n 0) (n := 1) (by decide +kernel) rfl rfl rfl),
   (fun lv st t w => Ex_M (i := .aload_n 0) (n := 1) (by decide +kernel) rfl rfl rfl),
   (fun lv st t o0 o1 o2 x w => Ex_M (i := .iload_n 3) (n := 1) (by decide +kernel) rfl rfl rfl),
   (fun lv l st w => Ex_A (i := .iconst 3) (n := 1) (by decide +kernel) rfl rfl),
   (fun lv l st x y w => Ex_A (i := .iadd) (n := 1) (by decide +kernel) rfl rfl),
   (fun lv l st a i w => Ex_ial (by decide +kernel : decode M_L_law.2.1 1028 = .ok (.iaload, 1)) rfl),
   (fun lv l b a0 a1 a2 s0 w => Ex_callV (by decide +kernel : decode M_L_law.2.1 1029 = .ok (.invokevirtual 128, 3)) rfl (by rfl : resM (mCn M_L_law) 128 = some (2, M_X12_dyed)) rfl (by rfl) (Nat.le_of_ble_eq_true rfl) (by decide +kernel) (sLv_lt (by decide +kernel))),
   (fun lv l st x y w => Ex_icmp_eq (by decide +kernel : decode M_L_law.2.1 1032 = .ok (.if_icmp .eq 440, 3)) rfl rfl),
   (fun lv l st w => Ex_A (i := .iconst 0) (n := 1) (by decide +kernel) rfl rfl),
   (fun lv l x w => Ex_zret (by decide +kernel : decode M_L_law.2.1 1036 = .ok (.ireturn, 1)) rfl),
   (fun lv st t o0 x w => Ex_M (i := .aload_n 1) (n := 1) (by decide +kernel) rfl rfl rfl),
   (fun lv st t o0 w => Ex_M (i := .aload_n 1) (n := 1) (by decide +kernel) rfl rfl rfl),
   (fun lv st t x w => Ex_M (i := .aload_n 0) (n := 1) (by decide +kernel) rfl rfl rfl),
   (fun lv st t w => Ex_M (i := .aload_n 0) (n := 1) (by decide +kernel) rfl rfl rfl),
   (fun lv st t o0 o1 o2 x w => Ex_M (i := .iload_n 3) (n := 1) (by decide +kernel) rfl rfl rfl),
   (fun lv l st w => Ex_A (i := .iconst 1) (n := 1) (by decide +kernel) rfl rfl),
   (fun lv l st x y w => Ex_A (i := .iadd) (n := 1) (by decide +kernel) rfl rfl),
   (fun lv l st a i w => Ex_ial (by decide +kernel : decode M_L_law.2.1 1042 = .ok (.iaload, 1)) rfl),
   (fun lv st t x w => Ex_M (i := .aload_n 0) (n := 1) (by decide +kernel) rfl rfl rfl),
   (fun lv st t w => Ex_M (i := .aload_n 0) (n := 1) (by decide +kernel) rfl rfl rfl),
   (fun lv st t o0 o1 o2 x w => Ex_M (i := .iload_n 3) (n := 1) (by decide +kernel) rfl rfl rfl),
   (fun lv l st w => Ex_A (i := .iconst 2) (n := 1) (by decide +kernel) rfl rfl),
   (fun lv l st x y w => Ex_A (i := .iadd) (n := 1) (by decide +kernel) rfl rfl),
   (fun lv l st a i w => Ex_ial (by decide +kernel : decode M_L_law.2.1 1047 = .ok (.iaload, 1)) rfl),
   (fun lv st t x w => Ex_M (i := .aload_n 0) (n := 1) (by decide +kernel) rfl rfl rfl),
   (fun lv st t w => Ex_M (i := .aload_n 0) (n := 1) (by decide +kernel) rfl rfl rfl),
   (fun lv st t o0 o1 o2 x w => Ex_M (i := .iload_n 3) (n := 1) (by decide +kernel) rfl rfl rfl),
   (fun lv l st w => Ex_A (i := .iconst 3) (n := 1) (by decide +kernel) rfl rfl)⟩
set_option maxRecDepth 20000 in
set_option maxHeartbeats 4000000 in
theorem R_L_law_p14 : (∀ (lv : Nat) (l : LX) (st : List Value) (x y : Int32) (w : AH), Ex M_L_law lv 1051 l (.int y :: .int x :: st) w = Ex M_L_law lv 1052 l (.int (x + y) :: st) w)
  ∧ (∀ (lv : Nat) (l : LX) (st : List Value) (a : Nat) (i : Int32) (w : AH), Ex M_L_law lv 1052 l (.int i :: .ref a :: st) w = if (aI (hg w a) i).isSome = true then Ex M_L_law lv 1053 l (.int (vI (aI (hg w a) i)) :: st) w else none)
  ∧ (∀ (lv : Nat) (l : LX) (b : Nat) (a0 : Int32) (a1 : Int32) (a2 : Int32) (w : AH), Ex M_L_law lv 1053 l (.int a2 :: .int a1 :: .int a0 :: .ref b :: []) w = if clK (hg w b) = 10 then (if (Call M_X11_then 60 [.ref b, .int a0, .int a1, .int a2] w).isSome = true then Ex M_L_law lv 1056 l (pushR (cV (Call M_X11_then 60 [.ref b, .int a0, .int a1, .int a2] w)) []) (cW (Call M_X11_then 60 [.ref b, .int a0, .int a1, .int a2] w) w) else none) else none)
  ∧ (∀ (lv : Nat) (st : List Value) (t : LX) (o0 o1 : Option Value) (x : Nat) (w : AH), Ex M_L_law lv 1056 (o0 :: o1 :: some (.ref x) :: t) st w = Ex M_L_law lv 1057 (o0 :: o1 :: some (.ref x) :: t) (.ref x :: st) w)
  ∧ (∀ (lv : Nat) (st : List Value) (t : LX) (o0 o1 : Option Value) (w : AH), Ex M_L_law lv 1056 (o0 :: o1 :: some (.null) :: t) st w = Ex M_L_law lv 1057 (o0 :: o1 :: some (.null) :: t) (.null :: st) w)
  ∧ (∀ (lv : Nat) (st : List Value) (t : LX) (x : Nat) (w : AH), Ex M_L_law lv 1057 (some (.ref x) :: t) st w = Ex M_L_law lv 1058 (some (.ref x) :: t) (.ref x :: st) w)
  ∧ (∀ (lv : Nat) (st : List Value) (t : LX) (w : AH), Ex M_L_law lv 1057 (some (.null) :: t) st w = Ex M_L_law lv 1058 (some (.null) :: t) (.null :: st) w)
  ∧ (∀ (lv : Nat) (st : List Value) (t : LX) (o0 o1 o2 : Option Value) (x : Int32) (w : AH), Ex M_L_law lv 1058 (o0 :: o1 :: o2 :: some (.int x) :: t) st w = Ex M_L_law lv 1059 (o0 :: o1 :: o2 :: some (.int x) :: t) (.int x :: st) w)
  ∧ (∀ (lv : Nat) (l : LX) (st : List Value) (w : AH), Ex M_L_law lv 1059 l st w = Ex M_L_law lv 1060 l (.int 1 :: st) w)
  ∧ (∀ (lv : Nat) (l : LX) (st : List Value) (x y : Int32) (w : AH), Ex M_L_law lv 1060 l (.int y :: .int x :: st) w = Ex M_L_law lv 1061 l (.int (x + y) :: st) w)
  ∧ (∀ (lv : Nat) (l : LX) (st : List Value) (a : Nat) (i : Int32) (w : AH), Ex M_L_law lv 1061 l (.int i :: .ref a :: st) w = if (aI (hg w a) i).isSome = true then Ex M_L_law lv 1062 l (.int (vI (aI (hg w a) i)) :: st) w else none)
  ∧ (∀ (lv : Nat) (st : List Value) (t : LX) (x : Nat) (w : AH), Ex M_L_law lv 1062 (some (.ref x) :: t) st w = Ex M_L_law lv 1063 (some (.ref x) :: t) (.ref x :: st) w)
  ∧ (∀ (lv : Nat) (st : List Value) (t : LX) (w : AH), Ex M_L_law lv 1062 (some (.null) :: t) st w = Ex M_L_law lv 1063 (some (.null) :: t) (.null :: st) w)
  ∧ (∀ (lv : Nat) (st : List Value) (t : LX) (o0 o1 o2 : Option Value) (x : Int32) (w : AH), Ex M_L_law lv 1063 (o0 :: o1 :: o2 :: some (.int x) :: t) st w = Ex M_L_law lv 1064 (o0 :: o1 :: o2 :: some (.int x) :: t) (.int x :: st) w)
  ∧ (∀ (lv : Nat) (l : LX) (st : List Value) (w : AH), Ex M_L_law lv 1064 l st w = Ex M_L_law lv 1065 l (.int 2 :: st) w)
  ∧ (∀ (lv : Nat) (l : LX) (st : List Value) (x y : Int32) (w : AH), Ex M_L_law lv 1065 l (.int y :: .int x :: st) w = Ex M_L_law lv 1066 l (.int (x + y) :: st) w)
  ∧ (∀ (lv : Nat) (l : LX) (st : List Value) (a : Nat) (i : Int32) (w : AH), Ex M_L_law lv 1066 l (.int i :: .ref a :: st) w = if (aI (hg w a) i).isSome = true then Ex M_L_law lv 1067 l (.int (vI (aI (hg w a) i)) :: st) w else none)
  ∧ (∀ (lv : Nat) (st : List Value) (t : LX) (x : Nat) (w : AH), Ex M_L_law lv 1067 (some (.ref x) :: t) st w = Ex M_L_law lv 1068 (some (.ref x) :: t) (.ref x :: st) w)
  ∧ (∀ (lv : Nat) (st : List Value) (t : LX) (w : AH), Ex M_L_law lv 1067 (some (.null) :: t) st w = Ex M_L_law lv 1068 (some (.null) :: t) (.null :: st) w)
  ∧ (∀ (lv : Nat) (st : List Value) (t : LX) (o0 o1 o2 : Option Value) (x : Int32) (w : AH), Ex M_L_law lv 1068 (o0 :: o1 :: o2 :: some (.int x) :: t) st w = Ex M_L_law lv 1069 (o0 :: o1 :: o2 :: some (.int x) :: t) (.int x :: st) w)
  ∧ (∀ (lv : Nat) (l : LX) (st : List Value) (w : AH), Ex M_L_law lv 1069 l st w = Ex M_L_law lv 1070 l (.int 3 :: st) w)
  ∧ (∀ (lv : Nat) (l : LX) (st : List Value) (x y : Int32) (w : AH), Ex M_L_law lv 1070 l (.int y :: .int x :: st) w = Ex M_L_law lv 1071 l (.int (x + y) :: st) w)
  ∧ (∀ (lv : Nat) (l : LX) (st : List Value) (a : Nat) (i : Int32) (w : AH), Ex M_L_law lv 1071 l (.int i :: .ref a :: st) w = if (aI (hg w a) i).isSome = true then Ex M_L_law lv 1072 l (.int (vI (aI (hg w a) i)) :: st) w else none)
  ∧ (∀ (lv : Nat) (l : LX) (b : Nat) (a0 : Int32) (a1 : Int32) (a2 : Int32) (s0 : Int32) (w : AH), Ex M_L_law lv 1072 l (.int a2 :: .int a1 :: .int a0 :: .ref b :: [.int s0]) w = if clK (hg w b) = 11 then (if (Call M_X12_then 60 [.ref b, .int a0, .int a1, .int a2] w).isSome = true then Ex M_L_law lv 1075 l (pushR (cV (Call M_X12_then 60 [.ref b, .int a0, .int a1, .int a2] w)) [.int s0]) (cW (Call M_X12_then 60 [.ref b, .int a0, .int a1, .int a2] w) w) else none) else none)
  ∧ (∀ (lv : Nat) (l : LX) (st : List Value) (x y : Int32) (w : AH), Ex M_L_law lv 1075 l (.int y :: .int x :: st) w = if x = y then Ex M_L_law lv 1472 l st w else Ex M_L_law lv 1078 l st w)
  ∧ (∀ (lv : Nat) (l : LX) (st : List Value) (w : AH), Ex M_L_law lv 1078 l st w = Ex M_L_law lv 1079 l (.int 0 :: st) w)
  ∧ (∀ (lv : Nat) (l : LX) (x : Int32) (w : AH), Ex M_L_law lv 1079 l [.int x] w = if x = 0 ∨ x = 1 then some (some (.int x), w) else none)
  ∧ (∀ (lv : Nat) (st : List Value) (t : LX) (o0 : Option Value) (x : Nat) (w : AH), Ex M_L_law lv 1080 (o0 :: some (.ref x) :: t) st w = Ex M_L_law lv 1081 (o0 :: some (.ref x) :: t) (.ref x :: st) w)
  ∧ (∀ (lv : Nat) (st : List Value) (t : LX) (o0 : Option Value) (w : AH), Ex M_L_law lv 1080 (o0 :: some (.null) :: t) st w = Ex M_L_law lv 1081 (o0 :: some (.null) :: t) (.null :: st) w)
  ∧ (∀ (lv : Nat) (st : List Value) (t : LX) (x : Nat) (w : AH), Ex M_L_law lv 1081 (some (.ref x) :: t) st w = Ex M_L_law lv 1082 (some (.ref x) :: t) (.ref x :: st) w)
  ∧ (∀ (lv : Nat) (st : List Value) (t : LX) (w : AH), Ex M_L_law lv 1081 (some (.null) :: t) st w = Ex M_L_law lv 1082 (some (.null) :: t) (.null :: st) w)
  ∧ (∀ (lv : Nat) (st : List Value) (t : LX) (o0 o1 o2 : Option Value) (x : Int32) (w : AH), Ex M_L_law lv 1082 (o0 :: o1 :: o2 :: some (.int x) :: t) st w = Ex M_L_law lv 1083 (o0 :: o1 :: o2 :: some (.int x) :: t) (.int x :: st) w)
  ∧ (∀ (lv : Nat) (l : LX) (st : List Value) (w : AH), Ex M_L_law lv 1083 l st w = Ex M_L_law lv 1084 l (.int 1 :: st) w)
  ∧ (∀ (lv : Nat) (l : LX) (st : List Value) (x y : Int32) (w : AH), Ex M_L_law lv 1084 l (.int y :: .int x :: st) w = Ex M_L_law lv 1085 l (.int (x + y) :: st) w)
  ∧ (∀ (lv : Nat) (l : LX) (st : List Value) (a : Nat) (i : Int32) (w : AH), Ex M_L_law lv 1085 l (.int i :: .ref a :: st) w = if (aI (hg w a) i).isSome = true then Ex M_L_law lv 1086 l (.int (vI (aI (hg w a) i)) :: st) w else none)
  ∧ (∀ (lv : Nat) (l : LX) (b : Nat) (a0 : Int32) (w : AH), Ex M_L_law lv 1086 l (.int a0 :: .ref b :: []) w = if clK (hg w b) = 10 then (if (Call M_X11_seed 60 [.ref b, .int a0] w).isSome = true then Ex M_L_law lv 1089 l (pushR (cV (Call M_X11_seed 60 [.ref b, .int a0] w)) []) (cW (Call M_X11_seed 60 [.ref b, .int a0] w) w) else none) else none)
  ∧ (∀ (lv : Nat) (st : List Value) (t : LX) (o0 o1 : Option Value) (x : Nat) (w : AH), Ex M_L_law lv 1089 (o0 :: o1 :: some (.ref x) :: t) st w = Ex M_L_law lv 1090 (o0 :: o1 :: some (.ref x) :: t) (.ref x :: st) w)
  ∧ (∀ (lv : Nat) (st : List Value) (t : LX) (o0 o1 : Option Value) (w : AH), Ex M_L_law lv 1089 (o0 :: o1 :: some (.null) :: t) st w = Ex M_L_law lv 1090 (o0 :: o1 :: some (.null) :: t) (.null :: st) w)
  ∧ (∀ (lv : Nat) (st : List Value) (t : LX) (x : Nat) (w : AH), Ex M_L_law lv 1090 (some (.ref x) :: t) st w = Ex M_L_law lv 1091 (some (.ref x) :: t) (.ref x :: st) w)
  ∧ (∀ (lv : Nat) (st : List Value) (t : LX) (w : AH), Ex M_L_law lv 1090 (some (.null) :: t) st w = Ex M_L_law lv 1091 (some (.null) :: t) (.null :: st) w)
  ∧ (∀ (lv : Nat) (st : List Value) (t : LX) (o0 o1 o2 : Option Value) (x : Int32) (w : AH), Ex M_L_law lv 1091 (o0 :: o1 :: o2 :: some (.int x) :: t) st w = Ex M_L_law lv 1092 (o0 :: o1 :: o2 :: some (.int x) :: t) (.int x :: st) w)
  ∧ (∀ (lv : Nat) (l : LX) (st : List Value) (w : AH), Ex M_L_law lv 1092 l st w = Ex M_L_law lv 1093 l (.int 1 :: st) w)
  ∧ (∀ (lv : Nat) (l : LX) (st : List Value) (x y : Int32) (w : AH), Ex M_L_law lv 1093 l (.int y :: .int x :: st) w = Ex M_L_law lv 1094 l (.int (x + y) :: st) w)
  ∧ (∀ (lv : Nat) (l : LX) (st : List Value) (a : Nat) (i : Int32) (w : AH), Ex M_L_law lv 1094 l (.int i :: .ref a :: st) w = if (aI (hg w a) i).isSome = true then Ex M_L_law lv 1095 l (.int (vI (aI (hg w a) i)) :: st) w else none)
  ∧ (∀ (lv : Nat) (l : LX) (b : Nat) (a0 : Int32) (s0 : Int32) (w : AH), Ex M_L_law lv 1095 l (.int a0 :: .ref b :: [.int s0]) w = if clK (hg w b) = 11 then (if (Call M_X12_seed 60 [.ref b, .int a0] w).isSome = true then Ex M_L_law lv 1098 l (pushR (cV (Call M_X12_seed 60 [.ref b, .int a0] w)) [.int s0]) (cW (Call M_X12_seed 60 [.ref b, .int a0] w) w) else none) else none)
  ∧ (∀ (lv : Nat) (l : LX) (st : List Value) (x y : Int32) (w : AH), Ex M_L_law lv 1098 l (.int y :: .int x :: st) w = if x = y then Ex M_L_law lv 1472 l st w else Ex M_L_law lv 1101 l st w)
  ∧ (∀ (lv : Nat) (l : LX) (st : List Value) (w : AH), Ex M_L_law lv 1101 l st w = Ex M_L_law lv 1102 l (.int 0 :: st) w)
  ∧ (∀ (lv : Nat) (l : LX) (x : Int32) (w : AH), Ex M_L_law lv 1102 l [.int x] w = if x = 0 ∨ x = 1 then some (some (.int x), w) else none)
  ∧ (∀ (lv : Nat) (st : List Value) (t : LX) (o0 : Option Value) (x : Nat) (w : AH), Ex M_L_law lv 1103 (o0 :: some (.ref x) :: t) st w = Ex M_L_law lv 1104 (o0 :: some (.ref x) :: t) (.ref x :: st) w)
  ∧ (∀ (lv : Nat) (st : List Value) (t : LX) (o0 : Option Value) (w : AH), Ex M_L_law lv 1103 (o0 :: some (.null) :: t) st w = Ex M_L_law lv 1104 (o0 :: some (.null) :: t) (.null :: st) w)
  ∧ (∀ (lv : Nat) (st : List Value) (t : LX) (x : Nat) (w : AH), Ex M_L_law lv 1104 (some (.ref x) :: t) st w = Ex M_L_law lv 1105 (some (.ref x) :: t) (.ref x :: st) w)
  ∧ (∀ (lv : Nat) (st : List Value) (t : LX) (w : AH), Ex M_L_law lv 1104 (some (.null) :: t) st w = Ex M_L_law lv 1105 (some (.null) :: t) (.null :: st) w)
  ∧ (∀ (lv : Nat) (st : List Value) (t : LX) (o0 o1 o2 : Option Value) (x : Int32) (w : AH), Ex M_L_law lv 1105 (o0 :: o1 :: o2 :: some (.int x) :: t) st w = Ex M_L_law lv 1106 (o0 :: o1 :: o2 :: some (.int x) :: t) (.int x :: st) w)
  ∧ (∀ (lv : Nat) (l : LX) (st : List Value) (w : AH), Ex M_L_law lv 1106 l st w = Ex M_L_law lv 1107 l (.int 1 :: st) w)
  ∧ (∀ (lv : Nat) (l : LX) (st : List Value) (x y : Int32) (w : AH), Ex M_L_law lv 1107 l (.int y :: .int x :: st) w = Ex M_L_law lv 1108 l (.int (x + y) :: st) w)
  ∧ (∀ (lv : Nat) (l : LX) (st : List Value) (a : Nat) (i : Int32) (w : AH), Ex M_L_law lv 1108 l (.int i :: .ref a :: st) w = if (aI (hg w a) i).isSome = true then Ex M_L_law lv 1109 l (.int (vI (aI (hg w a) i)) :: st) w else none)
  ∧ (∀ (lv : Nat) (st : List Value) (t : LX) (x : Nat) (w : AH), Ex M_L_law lv 1109 (some (.ref x) :: t) st w = Ex M_L_law lv 1110 (some (.ref x) :: t) (.ref x :: st) w)
  ∧ (∀ (lv : Nat) (st : List Value) (t : LX) (w : AH), Ex M_L_law lv 1109 (some (.null) :: t) st w = Ex M_L_law lv 1110 (some (.null) :: t) (.null :: st) w)
  ∧ (∀ (lv : Nat) (st : List Value) (t : LX) (o0 o1 o2 : Option Value) (x : Int32) (w : AH), Ex M_L_law lv 1110 (o0 :: o1 :: o2 :: some (.int x) :: t) st w = Ex M_L_law lv 1111 (o0 :: o1 :: o2 :: some (.int x) :: t) (.int x :: st) w)
  ∧ (∀ (lv : Nat) (l : LX) (st : List Value) (w : AH), Ex M_L_law lv 1111 l st w = Ex M_L_law lv 1112 l (.int 2 :: st) w) :=
  ⟨(fun lv l st x y w => Ex_A (i := .iadd) (n := 1) (by decide +kernel) rfl rfl),
   (fun lv l st a i w => Ex_ial (by decide +kernel : decode M_L_law.2.1 1052 = .ok (.iaload, 1)) rfl),
   (fun lv l b a0 a1 a2 w => Ex_callV (by decide +kernel : decode M_L_law.2.1 1053 = .ok (.invokevirtual 129, 3)) rfl (by rfl : resM (mCn M_L_law) 129 = some (2, M_X11_then)) rfl (by rfl) (Nat.le_of_ble_eq_true rfl) (by decide +kernel) (sLv_lt (by decide +kernel))),
   (fun lv st t o0 o1 x w => Ex_M (i := .aload_n 2) (n := 1) (by decide +kernel) rfl rfl rfl),
   (fun lv st t o0 o1 w => Ex_M (i := .aload_n 2) (n := 1) (by decide +kernel) rfl rfl rfl),
   (fun lv st t x w => Ex_M (i := .aload_n 0) (n := 1) (by decide +kernel) rfl rfl rfl),
   (fun lv st t w => Ex_M (i := .aload_n 0) (n := 1) (by decide +kernel) rfl rfl rfl),
   (fun lv st t o0 o1 o2 x w => Ex_M (i := .iload_n 3) (n := 1) (by decide +kernel) rfl rfl rfl),
   (fun lv l st w => Ex_A (i := .iconst 1) (n := 1) (by decide +kernel) rfl rfl),
   (fun lv l st x y w => Ex_A (i := .iadd) (n := 1) (by decide +kernel) rfl rfl),
   (fun lv l st a i w => Ex_ial (by decide +kernel : decode M_L_law.2.1 1061 = .ok (.iaload, 1)) rfl),
   (fun lv st t x w => Ex_M (i := .aload_n 0) (n := 1) (by decide +kernel) rfl rfl rfl),
   (fun lv st t w => Ex_M (i := .aload_n 0) (n := 1) (by decide +kernel) rfl rfl rfl),
   (fun lv st t o0 o1 o2 x w => Ex_M (i := .iload_n 3) (n := 1) (by decide +kernel) rfl rfl rfl),
   (fun lv l st w => Ex_A (i := .iconst 2) (n := 1) (by decide +kernel) rfl rfl),
   (fun lv l st x y w => Ex_A (i := .iadd) (n := 1) (by decide +kernel) rfl rfl),
   (fun lv l st a i w => Ex_ial (by decide +kernel : decode M_L_law.2.1 1066 = .ok (.iaload, 1)) rfl),
   (fun lv st t x w => Ex_M (i := .aload_n 0) (n := 1) (by decide +kernel) rfl rfl rfl),
   (fun lv st t w => Ex_M (i := .aload_n 0) (n := 1) (by decide +kernel) rfl rfl rfl),
   (fun lv st t o0 o1 o2 x w => Ex_M (i := .iload_n 3) (n := 1) (by decide +kernel) rfl rfl rfl),
   (fun lv l st w => Ex_A (i := .iconst 3) (n := 1) (by decide +kernel) rfl rfl),
   (fun lv l st x y w => Ex_A (i := .iadd) (n := 1) (by decide +kernel) rfl rfl),
   (fun lv l st a i w => Ex_ial (by decide +kernel : decode M_L_law.2.1 1071 = .ok (.iaload, 1)) rfl),
   (fun lv l b a0 a1 a2 s0 w => Ex_callV (by decide +kernel : decode M_L_law.2.1 1072 = .ok (.invokevirtual 132, 3)) rfl (by rfl : resM (mCn M_L_law) 132 = some (2, M_X12_then)) rfl (by rfl) (Nat.le_of_ble_eq_true rfl) (by decide +kernel) (sLv_lt (by decide +kernel))),
   (fun lv l st x y w => Ex_icmp_eq (by decide +kernel : decode M_L_law.2.1 1075 = .ok (.if_icmp .eq 397, 3)) rfl rfl),
   (fun lv l st w => Ex_A (i := .iconst 0) (n := 1) (by decide +kernel) rfl rfl),
   (fun lv l x w => Ex_zret (by decide +kernel : decode M_L_law.2.1 1079 = .ok (.ireturn, 1)) rfl),
   (fun lv st t o0 x w => Ex_M (i := .aload_n 1) (n := 1) (by decide +kernel) rfl rfl rfl),
   (fun lv st t o0 w => Ex_M (i := .aload_n 1) (n := 1) (by decide +kernel) rfl rfl rfl),
   (fun lv st t x w => Ex_M (i := .aload_n 0) (n := 1) (by decide +kernel) rfl rfl rfl),
   (fun lv st t w => Ex_M (i := .aload_n 0) (n := 1) (by decide +kernel) rfl rfl rfl),
   (fun lv st t o0 o1 o2 x w => Ex_M (i := .iload_n 3) (n := 1) (by decide +kernel) rfl rfl rfl),
   (fun lv l st w => Ex_A (i := .iconst 1) (n := 1) (by decide +kernel) rfl rfl),
   (fun lv l st x y w => Ex_A (i := .iadd) (n := 1) (by decide +kernel) rfl rfl),
   (fun lv l st a i w => Ex_ial (by decide +kernel : decode M_L_law.2.1 1085 = .ok (.iaload, 1)) rfl),
   (fun lv l b a0 w => Ex_callV (by decide +kernel : decode M_L_law.2.1 1086 = .ok (.invokevirtual 133, 3)) rfl (by rfl : resM (mCn M_L_law) 133 = some (2, M_X11_seed)) rfl (by rfl) (Nat.le_of_ble_eq_true rfl) (by decide +kernel) (sLv_lt (by decide +kernel))),
   (fun lv st t o0 o1 x w => Ex_M (i := .aload_n 2) (n := 1) (by decide +kernel) rfl rfl rfl),
   (fun lv st t o0 o1 w => Ex_M (i := .aload_n 2) (n := 1) (by decide +kernel) rfl rfl rfl),
   (fun lv st t x w => Ex_M (i := .aload_n 0) (n := 1) (by decide +kernel) rfl rfl rfl),
   (fun lv st t w => Ex_M (i := .aload_n 0) (n := 1) (by decide +kernel) rfl rfl rfl),
   (fun lv st t o0 o1 o2 x w => Ex_M (i := .iload_n 3) (n := 1) (by decide +kernel) rfl rfl rfl),
   (fun lv l st w => Ex_A (i := .iconst 1) (n := 1) (by decide +kernel) rfl rfl),
   (fun lv l st x y w => Ex_A (i := .iadd) (n := 1) (by decide +kernel) rfl rfl),
   (fun lv l st a i w => Ex_ial (by decide +kernel : decode M_L_law.2.1 1094 = .ok (.iaload, 1)) rfl),
   (fun lv l b a0 s0 w => Ex_callV (by decide +kernel : decode M_L_law.2.1 1095 = .ok (.invokevirtual 136, 3)) rfl (by rfl : resM (mCn M_L_law) 136 = some (2, M_X12_seed)) rfl (by rfl) (Nat.le_of_ble_eq_true rfl) (by decide +kernel) (sLv_lt (by decide +kernel))),
   (fun lv l st x y w => Ex_icmp_eq (by decide +kernel : decode M_L_law.2.1 1098 = .ok (.if_icmp .eq 374, 3)) rfl rfl),
   (fun lv l st w => Ex_A (i := .iconst 0) (n := 1) (by decide +kernel) rfl rfl),
   (fun lv l x w => Ex_zret (by decide +kernel : decode M_L_law.2.1 1102 = .ok (.ireturn, 1)) rfl),
   (fun lv st t o0 x w => Ex_M (i := .aload_n 1) (n := 1) (by decide +kernel) rfl rfl rfl),
   (fun lv st t o0 w => Ex_M (i := .aload_n 1) (n := 1) (by decide +kernel) rfl rfl rfl),
   (fun lv st t x w => Ex_M (i := .aload_n 0) (n := 1) (by decide +kernel) rfl rfl rfl),
   (fun lv st t w => Ex_M (i := .aload_n 0) (n := 1) (by decide +kernel) rfl rfl rfl),
   (fun lv st t o0 o1 o2 x w => Ex_M (i := .iload_n 3) (n := 1) (by decide +kernel) rfl rfl rfl),
   (fun lv l st w => Ex_A (i := .iconst 1) (n := 1) (by decide +kernel) rfl rfl),
   (fun lv l st x y w => Ex_A (i := .iadd) (n := 1) (by decide +kernel) rfl rfl),
   (fun lv l st a i w => Ex_ial (by decide +kernel : decode M_L_law.2.1 1108 = .ok (.iaload, 1)) rfl),
   (fun lv st t x w => Ex_M (i := .aload_n 0) (n := 1) (by decide +kernel) rfl rfl rfl),
   (fun lv st t w => Ex_M (i := .aload_n 0) (n := 1) (by decide +kernel) rfl rfl rfl),
   (fun lv st t o0 o1 o2 x w => Ex_M (i := .iload_n 3) (n := 1) (by decide +kernel) rfl rfl rfl),
   (fun lv l st w => Ex_A (i := .iconst 2) (n := 1) (by decide +kernel) rfl rfl)⟩
set_option maxRecDepth 20000 in
set_option maxHeartbeats 4000000 in
theorem R_L_law_p15 : (∀ (lv : Nat) (l : LX) (st : List Value) (x y : Int32) (w : AH), Ex M_L_law lv 1112 l (.int y :: .int x :: st) w = Ex M_L_law lv 1113 l (.int (x + y) :: st) w)
  ∧ (∀ (lv : Nat) (l : LX) (st : List Value) (a : Nat) (i : Int32) (w : AH), Ex M_L_law lv 1113 l (.int i :: .ref a :: st) w = if (aI (hg w a) i).isSome = true then Ex M_L_law lv 1114 l (.int (vI (aI (hg w a) i)) :: st) w else none)
  ∧ (∀ (lv : Nat) (st : List Value) (t : LX) (x : Nat) (w : AH), Ex M_L_law lv 1114 (some (.ref x) :: t) st w = Ex M_L_law lv 1115 (some (.ref x) :: t) (.ref x :: st) w)
  ∧ (∀ (lv : Nat) (st : List Value) (t : LX) (w : AH), Ex M_L_law lv 1114 (some (.null) :: t) st w = Ex M_L_law lv 1115 (some (.null) :: t) (.null :: st) w)
  ∧ (∀ (lv : Nat) (st : List Value) (t : LX) (o0 o1 o2 : Option Value) (x : Int32) (w : AH), Ex M_L_law lv 1115 (o0 :: o1 :: o2 :: some (.int x) :: t) st w = Ex M_L_law lv 1116 (o0 :: o1 :: o2 :: some (.int x) :: t) (.int x :: st) w)
  ∧ (∀ (lv : Nat) (l : LX) (st : List Value) (w : AH), Ex M_L_law lv 1116 l st w = Ex M_L_law lv 1117 l (.int 3 :: st) w)
  ∧ (∀ (lv : Nat) (l : LX) (st : List Value) (x y : Int32) (w : AH), Ex M_L_law lv 1117 l (.int y :: .int x :: st) w = Ex M_L_law lv 1118 l (.int (x + y) :: st) w)
  ∧ (∀ (lv : Nat) (l : LX) (st : List Value) (a : Nat) (i : Int32) (w : AH), Ex M_L_law lv 1118 l (.int i :: .ref a :: st) w = if (aI (hg w a) i).isSome = true then Ex M_L_law lv 1119 l (.int (vI (aI (hg w a) i)) :: st) w else none)
  ∧ (∀ (lv : Nat) (l : LX) (b : Nat) (a0 : Int32) (a1 : Int32) (a2 : Int32) (w : AH), Ex M_L_law lv 1119 l (.int a2 :: .int a1 :: .int a0 :: .ref b :: []) w = if clK (hg w b) = 10 then (if (Call M_X11_voice 60 [.ref b, .int a0, .int a1, .int a2] w).isSome = true then Ex M_L_law lv 1122 l (pushR (cV (Call M_X11_voice 60 [.ref b, .int a0, .int a1, .int a2] w)) []) (cW (Call M_X11_voice 60 [.ref b, .int a0, .int a1, .int a2] w) w) else none) else none)
  ∧ (∀ (lv : Nat) (st : List Value) (t : LX) (o0 o1 : Option Value) (x : Nat) (w : AH), Ex M_L_law lv 1122 (o0 :: o1 :: some (.ref x) :: t) st w = Ex M_L_law lv 1123 (o0 :: o1 :: some (.ref x) :: t) (.ref x :: st) w)
  ∧ (∀ (lv : Nat) (st : List Value) (t : LX) (o0 o1 : Option Value) (w : AH), Ex M_L_law lv 1122 (o0 :: o1 :: some (.null) :: t) st w = Ex M_L_law lv 1123 (o0 :: o1 :: some (.null) :: t) (.null :: st) w)
  ∧ (∀ (lv : Nat) (st : List Value) (t : LX) (x : Nat) (w : AH), Ex M_L_law lv 1123 (some (.ref x) :: t) st w = Ex M_L_law lv 1124 (some (.ref x) :: t) (.ref x :: st) w)
  ∧ (∀ (lv : Nat) (st : List Value) (t : LX) (w : AH), Ex M_L_law lv 1123 (some (.null) :: t) st w = Ex M_L_law lv 1124 (some (.null) :: t) (.null :: st) w)
  ∧ (∀ (lv : Nat) (st : List Value) (t : LX) (o0 o1 o2 : Option Value) (x : Int32) (w : AH), Ex M_L_law lv 1124 (o0 :: o1 :: o2 :: some (.int x) :: t) st w = Ex M_L_law lv 1125 (o0 :: o1 :: o2 :: some (.int x) :: t) (.int x :: st) w)
  ∧ (∀ (lv : Nat) (l : LX) (st : List Value) (w : AH), Ex M_L_law lv 1125 l st w = Ex M_L_law lv 1126 l (.int 1 :: st) w)
  ∧ (∀ (lv : Nat) (l : LX) (st : List Value) (x y : Int32) (w : AH), Ex M_L_law lv 1126 l (.int y :: .int x :: st) w = Ex M_L_law lv 1127 l (.int (x + y) :: st) w)
  ∧ (∀ (lv : Nat) (l : LX) (st : List Value) (a : Nat) (i : Int32) (w : AH), Ex M_L_law lv 1127 l (.int i :: .ref a :: st) w = if (aI (hg w a) i).isSome = true then Ex M_L_law lv 1128 l (.int (vI (aI (hg w a) i)) :: st) w else none)
  ∧ (∀ (lv : Nat) (st : List Value) (t : LX) (x : Nat) (w : AH), Ex M_L_law lv 1128 (some (.ref x) :: t) st w = Ex M_L_law lv 1129 (some (.ref x) :: t) (.ref x :: st) w)
  ∧ (∀ (lv : Nat) (st : List Value) (t : LX) (w : AH), Ex M_L_law lv 1128 (some (.null) :: t) st w = Ex M_L_law lv 1129 (some (.null) :: t) (.null :: st) w)
  ∧ (∀ (lv : Nat) (st : List Value) (t : LX) (o0 o1 o2 : Option Value) (x : Int32) (w : AH), Ex M_L_law lv 1129 (o0 :: o1 :: o2 :: some (.int x) :: t) st w = Ex M_L_law lv 1130 (o0 :: o1 :: o2 :: some (.int x) :: t) (.int x :: st) w)
  ∧ (∀ (lv : Nat) (l : LX) (st : List Value) (w : AH), Ex M_L_law lv 1130 l st w = Ex M_L_law lv 1131 l (.int 2 :: st) w)
  ∧ (∀ (lv : Nat) (l : LX) (st : List Value) (x y : Int32) (w : AH), Ex M_L_law lv 1131 l (.int y :: .int x :: st) w = Ex M_L_law lv 1132 l (.int (x + y) :: st) w)
  ∧ (∀ (lv : Nat) (l : LX) (st : List Value) (a : Nat) (i : Int32) (w : AH), Ex M_L_law lv 1132 l (.int i :: .ref a :: st) w = if (aI (hg w a) i).isSome = true then Ex M_L_law lv 1133 l (.int (vI (aI (hg w a) i)) :: st) w else none)
  ∧ (∀ (lv : Nat) (st : List Value) (t : LX) (x : Nat) (w : AH), Ex M_L_law lv 1133 (some (.ref x) :: t) st w = Ex M_L_law lv 1134 (some (.ref x) :: t) (.ref x :: st) w)
  ∧ (∀ (lv : Nat) (st : List Value) (t : LX) (w : AH), Ex M_L_law lv 1133 (some (.null) :: t) st w = Ex M_L_law lv 1134 (some (.null) :: t) (.null :: st) w)
  ∧ (∀ (lv : Nat) (st : List Value) (t : LX) (o0 o1 o2 : Option Value) (x : Int32) (w : AH), Ex M_L_law lv 1134 (o0 :: o1 :: o2 :: some (.int x) :: t) st w = Ex M_L_law lv 1135 (o0 :: o1 :: o2 :: some (.int x) :: t) (.int x :: st) w)
  ∧ (∀ (lv : Nat) (l : LX) (st : List Value) (w : AH), Ex M_L_law lv 1135 l st w = Ex M_L_law lv 1136 l (.int 3 :: st) w)
  ∧ (∀ (lv : Nat) (l : LX) (st : List Value) (x y : Int32) (w : AH), Ex M_L_law lv 1136 l (.int y :: .int x :: st) w = Ex M_L_law lv 1137 l (.int (x + y) :: st) w)
  ∧ (∀ (lv : Nat) (l : LX) (st : List Value) (a : Nat) (i : Int32) (w : AH), Ex M_L_law lv 1137 l (.int i :: .ref a :: st) w = if (aI (hg w a) i).isSome = true then Ex M_L_law lv 1138 l (.int (vI (aI (hg w a) i)) :: st) w else none)
  ∧ (∀ (lv : Nat) (l : LX) (b : Nat) (a0 : Int32) (a1 : Int32) (a2 : Int32) (s0 : Int32) (w : AH), Ex M_L_law lv 1138 l (.int a2 :: .int a1 :: .int a0 :: .ref b :: [.int s0]) w = if clK (hg w b) = 11 then (if (Call M_X12_voice 60 [.ref b, .int a0, .int a1, .int a2] w).isSome = true then Ex M_L_law lv 1141 l (pushR (cV (Call M_X12_voice 60 [.ref b, .int a0, .int a1, .int a2] w)) [.int s0]) (cW (Call M_X12_voice 60 [.ref b, .int a0, .int a1, .int a2] w) w) else none) else none)
  ∧ (∀ (lv : Nat) (l : LX) (st : List Value) (x y : Int32) (w : AH), Ex M_L_law lv 1141 l (.int y :: .int x :: st) w = if x = y then Ex M_L_law lv 1472 l st w else Ex M_L_law lv 1144 l st w)
  ∧ (∀ (lv : Nat) (l : LX) (st : List Value) (w : AH), Ex M_L_law lv 1144 l st w = Ex M_L_law lv 1145 l (.int 0 :: st) w)
  ∧ (∀ (lv : Nat) (l : LX) (x : Int32) (w : AH), Ex M_L_law lv 1145 l [.int x] w = if x = 0 ∨ x = 1 then some (some (.int x), w) else none)
  ∧ (∀ (lv : Nat) (st : List Value) (t : LX) (o0 : Option Value) (x : Nat) (w : AH), Ex M_L_law lv 1146 (o0 :: some (.ref x) :: t) st w = Ex M_L_law lv 1147 (o0 :: some (.ref x) :: t) (.ref x :: st) w)
  ∧ (∀ (lv : Nat) (st : List Value) (t : LX) (o0 : Option Value) (w : AH), Ex M_L_law lv 1146 (o0 :: some (.null) :: t) st w = Ex M_L_law lv 1147 (o0 :: some (.null) :: t) (.null :: st) w)
  ∧ (∀ (lv : Nat) (st : List Value) (t : LX) (x : Nat) (w : AH), Ex M_L_law lv 1147 (some (.ref x) :: t) st w = Ex M_L_law lv 1148 (some (.ref x) :: t) (.ref x :: st) w)
  ∧ (∀ (lv : Nat) (st : List Value) (t : LX) (w : AH), Ex M_L_law lv 1147 (some (.null) :: t) st w = Ex M_L_law lv 1148 (some (.null) :: t) (.null :: st) w)
  ∧ (∀ (lv : Nat) (st : List Value) (t : LX) (o0 o1 o2 : Option Value) (x : Int32) (w : AH), Ex M_L_law lv 1148 (o0 :: o1 :: o2 :: some (.int x) :: t) st w = Ex M_L_law lv 1149 (o0 :: o1 :: o2 :: some (.int x) :: t) (.int x :: st) w)
  ∧ (∀ (lv : Nat) (l : LX) (st : List Value) (w : AH), Ex M_L_law lv 1149 l st w = Ex M_L_law lv 1150 l (.int 1 :: st) w)
  ∧ (∀ (lv : Nat) (l : LX) (st : List Value) (x y : Int32) (w : AH), Ex M_L_law lv 1150 l (.int y :: .int x :: st) w = Ex M_L_law lv 1151 l (.int (x + y) :: st) w)
  ∧ (∀ (lv : Nat) (l : LX) (st : List Value) (a : Nat) (i : Int32) (w : AH), Ex M_L_law lv 1151 l (.int i :: .ref a :: st) w = if (aI (hg w a) i).isSome = true then Ex M_L_law lv 1152 l (.int (vI (aI (hg w a) i)) :: st) w else none)
  ∧ (∀ (lv : Nat) (l : LX) (b : Nat) (a0 : Int32) (w : AH), Ex M_L_law lv 1152 l (.int a0 :: .ref b :: []) w = if clK (hg w b) = 10 then (if (Call M_X11_trace 60 [.ref b, .int a0] w).isSome = true then Ex M_L_law lv 1155 l (pushR (cV (Call M_X11_trace 60 [.ref b, .int a0] w)) []) (cW (Call M_X11_trace 60 [.ref b, .int a0] w) w) else none) else none)
  ∧ (∀ (lv : Nat) (st : List Value) (t : LX) (o0 o1 : Option Value) (x : Nat) (w : AH), Ex M_L_law lv 1155 (o0 :: o1 :: some (.ref x) :: t) st w = Ex M_L_law lv 1156 (o0 :: o1 :: some (.ref x) :: t) (.ref x :: st) w)
  ∧ (∀ (lv : Nat) (st : List Value) (t : LX) (o0 o1 : Option Value) (w : AH), Ex M_L_law lv 1155 (o0 :: o1 :: some (.null) :: t) st w = Ex M_L_law lv 1156 (o0 :: o1 :: some (.null) :: t) (.null :: st) w)
  ∧ (∀ (lv : Nat) (st : List Value) (t : LX) (x : Nat) (w : AH), Ex M_L_law lv 1156 (some (.ref x) :: t) st w = Ex M_L_law lv 1157 (some (.ref x) :: t) (.ref x :: st) w)
  ∧ (∀ (lv : Nat) (st : List Value) (t : LX) (w : AH), Ex M_L_law lv 1156 (some (.null) :: t) st w = Ex M_L_law lv 1157 (some (.null) :: t) (.null :: st) w)
  ∧ (∀ (lv : Nat) (st : List Value) (t : LX) (o0 o1 o2 : Option Value) (x : Int32) (w : AH), Ex M_L_law lv 1157 (o0 :: o1 :: o2 :: some (.int x) :: t) st w = Ex M_L_law lv 1158 (o0 :: o1 :: o2 :: some (.int x) :: t) (.int x :: st) w)
  ∧ (∀ (lv : Nat) (l : LX) (st : List Value) (w : AH), Ex M_L_law lv 1158 l st w = Ex M_L_law lv 1159 l (.int 1 :: st) w)
  ∧ (∀ (lv : Nat) (l : LX) (st : List Value) (x y : Int32) (w : AH), Ex M_L_law lv 1159 l (.int y :: .int x :: st) w = Ex M_L_law lv 1160 l (.int (x + y) :: st) w)
  ∧ (∀ (lv : Nat) (l : LX) (st : List Value) (a : Nat) (i : Int32) (w : AH), Ex M_L_law lv 1160 l (.int i :: .ref a :: st) w = if (aI (hg w a) i).isSome = true then Ex M_L_law lv 1161 l (.int (vI (aI (hg w a) i)) :: st) w else none)
  ∧ (∀ (lv : Nat) (l : LX) (b : Nat) (a0 : Int32) (s0 : Int32) (w : AH), Ex M_L_law lv 1161 l (.int a0 :: .ref b :: [.int s0]) w = if clK (hg w b) = 11 then (if (Call M_X12_trace 60 [.ref b, .int a0] w).isSome = true then Ex M_L_law lv 1164 l (pushR (cV (Call M_X12_trace 60 [.ref b, .int a0] w)) [.int s0]) (cW (Call M_X12_trace 60 [.ref b, .int a0] w) w) else none) else none)
  ∧ (∀ (lv : Nat) (l : LX) (st : List Value) (x y : Int32) (w : AH), Ex M_L_law lv 1164 l (.int y :: .int x :: st) w = if x = y then Ex M_L_law lv 1472 l st w else Ex M_L_law lv 1167 l st w)
  ∧ (∀ (lv : Nat) (l : LX) (st : List Value) (w : AH), Ex M_L_law lv 1167 l st w = Ex M_L_law lv 1168 l (.int 0 :: st) w)
  ∧ (∀ (lv : Nat) (l : LX) (x : Int32) (w : AH), Ex M_L_law lv 1168 l [.int x] w = if x = 0 ∨ x = 1 then some (some (.int x), w) else none)
  ∧ (∀ (lv : Nat) (st : List Value) (t : LX) (o0 : Option Value) (x : Nat) (w : AH), Ex M_L_law lv 1169 (o0 :: some (.ref x) :: t) st w = Ex M_L_law lv 1170 (o0 :: some (.ref x) :: t) (.ref x :: st) w)
  ∧ (∀ (lv : Nat) (st : List Value) (t : LX) (o0 : Option Value) (w : AH), Ex M_L_law lv 1169 (o0 :: some (.null) :: t) st w = Ex M_L_law lv 1170 (o0 :: some (.null) :: t) (.null :: st) w)
  ∧ (∀ (lv : Nat) (st : List Value) (t : LX) (x : Nat) (w : AH), Ex M_L_law lv 1170 (some (.ref x) :: t) st w = Ex M_L_law lv 1171 (some (.ref x) :: t) (.ref x :: st) w)
  ∧ (∀ (lv : Nat) (st : List Value) (t : LX) (w : AH), Ex M_L_law lv 1170 (some (.null) :: t) st w = Ex M_L_law lv 1171 (some (.null) :: t) (.null :: st) w)
  ∧ (∀ (lv : Nat) (st : List Value) (t : LX) (o0 o1 o2 : Option Value) (x : Int32) (w : AH), Ex M_L_law lv 1171 (o0 :: o1 :: o2 :: some (.int x) :: t) st w = Ex M_L_law lv 1172 (o0 :: o1 :: o2 :: some (.int x) :: t) (.int x :: st) w)
  ∧ (∀ (lv : Nat) (l : LX) (st : List Value) (w : AH), Ex M_L_law lv 1172 l st w = Ex M_L_law lv 1173 l (.int 1 :: st) w) :=
  ⟨(fun lv l st x y w => Ex_A (i := .iadd) (n := 1) (by decide +kernel) rfl rfl),
   (fun lv l st a i w => Ex_ial (by decide +kernel : decode M_L_law.2.1 1113 = .ok (.iaload, 1)) rfl),
   (fun lv st t x w => Ex_M (i := .aload_n 0) (n := 1) (by decide +kernel) rfl rfl rfl),
   (fun lv st t w => Ex_M (i := .aload_n 0) (n := 1) (by decide +kernel) rfl rfl rfl),
   (fun lv st t o0 o1 o2 x w => Ex_M (i := .iload_n 3) (n := 1) (by decide +kernel) rfl rfl rfl),
   (fun lv l st w => Ex_A (i := .iconst 3) (n := 1) (by decide +kernel) rfl rfl),
   (fun lv l st x y w => Ex_A (i := .iadd) (n := 1) (by decide +kernel) rfl rfl),
   (fun lv l st a i w => Ex_ial (by decide +kernel : decode M_L_law.2.1 1118 = .ok (.iaload, 1)) rfl),
   (fun lv l b a0 a1 a2 w => Ex_callV (by decide +kernel : decode M_L_law.2.1 1119 = .ok (.invokevirtual 137, 3)) rfl (by rfl : resM (mCn M_L_law) 137 = some (2, M_X11_voice)) rfl (by rfl) (Nat.le_of_ble_eq_true rfl) (by decide +kernel) (sLv_lt (by decide +kernel))),
   (fun lv st t o0 o1 x w => Ex_M (i := .aload_n 2) (n := 1) (by decide +kernel) rfl rfl rfl),
   (fun lv st t o0 o1 w => Ex_M (i := .aload_n 2) (n := 1) (by decide +kernel) rfl rfl rfl),
   (fun lv st t x w => Ex_M (i := .aload_n 0) (n := 1) (by decide +kernel) rfl rfl rfl),
   (fun lv st t w => Ex_M (i := .aload_n 0) (n := 1) (by decide +kernel) rfl rfl rfl),
   (fun lv st t o0 o1 o2 x w => Ex_M (i := .iload_n 3) (n := 1) (by decide +kernel) rfl rfl rfl),
   (fun lv l st w => Ex_A (i := .iconst 1) (n := 1) (by decide +kernel) rfl rfl),
   (fun lv l st x y w => Ex_A (i := .iadd) (n := 1) (by decide +kernel) rfl rfl),
   (fun lv l st a i w => Ex_ial (by decide +kernel : decode M_L_law.2.1 1127 = .ok (.iaload, 1)) rfl),
   (fun lv st t x w => Ex_M (i := .aload_n 0) (n := 1) (by decide +kernel) rfl rfl rfl),
   (fun lv st t w => Ex_M (i := .aload_n 0) (n := 1) (by decide +kernel) rfl rfl rfl),
   (fun lv st t o0 o1 o2 x w => Ex_M (i := .iload_n 3) (n := 1) (by decide +kernel) rfl rfl rfl),
   (fun lv l st w => Ex_A (i := .iconst 2) (n := 1) (by decide +kernel) rfl rfl),
   (fun lv l st x y w => Ex_A (i := .iadd) (n := 1) (by decide +kernel) rfl rfl),
   (fun lv l st a i w => Ex_ial (by decide +kernel : decode M_L_law.2.1 1132 = .ok (.iaload, 1)) rfl),
   (fun lv st t x w => Ex_M (i := .aload_n 0) (n := 1) (by decide +kernel) rfl rfl rfl),
   (fun lv st t w => Ex_M (i := .aload_n 0) (n := 1) (by decide +kernel) rfl rfl rfl),
   (fun lv st t o0 o1 o2 x w => Ex_M (i := .iload_n 3) (n := 1) (by decide +kernel) rfl rfl rfl),
   (fun lv l st w => Ex_A (i := .iconst 3) (n := 1) (by decide +kernel) rfl rfl),
   (fun lv l st x y w => Ex_A (i := .iadd) (n := 1) (by decide +kernel) rfl rfl),
   (fun lv l st a i w => Ex_ial (by decide +kernel : decode M_L_law.2.1 1137 = .ok (.iaload, 1)) rfl),
   (fun lv l b a0 a1 a2 s0 w => Ex_callV (by decide +kernel : decode M_L_law.2.1 1138 = .ok (.invokevirtual 140, 3)) rfl (by rfl : resM (mCn M_L_law) 140 = some (2, M_X12_voice)) rfl (by rfl) (Nat.le_of_ble_eq_true rfl) (by decide +kernel) (sLv_lt (by decide +kernel))),
   (fun lv l st x y w => Ex_icmp_eq (by decide +kernel : decode M_L_law.2.1 1141 = .ok (.if_icmp .eq 331, 3)) rfl rfl),
   (fun lv l st w => Ex_A (i := .iconst 0) (n := 1) (by decide +kernel) rfl rfl),
   (fun lv l x w => Ex_zret (by decide +kernel : decode M_L_law.2.1 1145 = .ok (.ireturn, 1)) rfl),
   (fun lv st t o0 x w => Ex_M (i := .aload_n 1) (n := 1) (by decide +kernel) rfl rfl rfl),
   (fun lv st t o0 w => Ex_M (i := .aload_n 1) (n := 1) (by decide +kernel) rfl rfl rfl),
   (fun lv st t x w => Ex_M (i := .aload_n 0) (n := 1) (by decide +kernel) rfl rfl rfl),
   (fun lv st t w => Ex_M (i := .aload_n 0) (n := 1) (by decide +kernel) rfl rfl rfl),
   (fun lv st t o0 o1 o2 x w => Ex_M (i := .iload_n 3) (n := 1) (by decide +kernel) rfl rfl rfl),
   (fun lv l st w => Ex_A (i := .iconst 1) (n := 1) (by decide +kernel) rfl rfl),
   (fun lv l st x y w => Ex_A (i := .iadd) (n := 1) (by decide +kernel) rfl rfl),
   (fun lv l st a i w => Ex_ial (by decide +kernel : decode M_L_law.2.1 1151 = .ok (.iaload, 1)) rfl),
   (fun lv l b a0 w => Ex_callV (by decide +kernel : decode M_L_law.2.1 1152 = .ok (.invokevirtual 141, 3)) rfl (by rfl : resM (mCn M_L_law) 141 = some (2, M_X11_trace)) rfl (by rfl) (Nat.le_of_ble_eq_true rfl) (by decide +kernel) (sLv_lt (by decide +kernel))),
   (fun lv st t o0 o1 x w => Ex_M (i := .aload_n 2) (n := 1) (by decide +kernel) rfl rfl rfl),
   (fun lv st t o0 o1 w => Ex_M (i := .aload_n 2) (n := 1) (by decide +kernel) rfl rfl rfl),
   (fun lv st t x w => Ex_M (i := .aload_n 0) (n := 1) (by decide +kernel) rfl rfl rfl),
   (fun lv st t w => Ex_M (i := .aload_n 0) (n := 1) (by decide +kernel) rfl rfl rfl),
   (fun lv st t o0 o1 o2 x w => Ex_M (i := .iload_n 3) (n := 1) (by decide +kernel) rfl rfl rfl),
   (fun lv l st w => Ex_A (i := .iconst 1) (n := 1) (by decide +kernel) rfl rfl),
   (fun lv l st x y w => Ex_A (i := .iadd) (n := 1) (by decide +kernel) rfl rfl),
   (fun lv l st a i w => Ex_ial (by decide +kernel : decode M_L_law.2.1 1160 = .ok (.iaload, 1)) rfl),
   (fun lv l b a0 s0 w => Ex_callV (by decide +kernel : decode M_L_law.2.1 1161 = .ok (.invokevirtual 144, 3)) rfl (by rfl : resM (mCn M_L_law) 144 = some (2, M_X12_trace)) rfl (by rfl) (Nat.le_of_ble_eq_true rfl) (by decide +kernel) (sLv_lt (by decide +kernel))),
   (fun lv l st x y w => Ex_icmp_eq (by decide +kernel : decode M_L_law.2.1 1164 = .ok (.if_icmp .eq 308, 3)) rfl rfl),
   (fun lv l st w => Ex_A (i := .iconst 0) (n := 1) (by decide +kernel) rfl rfl),
   (fun lv l x w => Ex_zret (by decide +kernel : decode M_L_law.2.1 1168 = .ok (.ireturn, 1)) rfl),
   (fun lv st t o0 x w => Ex_M (i := .aload_n 1) (n := 1) (by decide +kernel) rfl rfl rfl),
   (fun lv st t o0 w => Ex_M (i := .aload_n 1) (n := 1) (by decide +kernel) rfl rfl rfl),
   (fun lv st t x w => Ex_M (i := .aload_n 0) (n := 1) (by decide +kernel) rfl rfl rfl),
   (fun lv st t w => Ex_M (i := .aload_n 0) (n := 1) (by decide +kernel) rfl rfl rfl),
   (fun lv st t o0 o1 o2 x w => Ex_M (i := .iload_n 3) (n := 1) (by decide +kernel) rfl rfl rfl),
   (fun lv l st w => Ex_A (i := .iconst 1) (n := 1) (by decide +kernel) rfl rfl)⟩
set_option maxRecDepth 20000 in
set_option maxHeartbeats 4000000 in
theorem R_L_law_p16 : (∀ (lv : Nat) (l : LX) (st : List Value) (x y : Int32) (w : AH), Ex M_L_law lv 1173 l (.int y :: .int x :: st) w = Ex M_L_law lv 1174 l (.int (x + y) :: st) w)
  ∧ (∀ (lv : Nat) (l : LX) (st : List Value) (a : Nat) (i : Int32) (w : AH), Ex M_L_law lv 1174 l (.int i :: .ref a :: st) w = if (aI (hg w a) i).isSome = true then Ex M_L_law lv 1175 l (.int (vI (aI (hg w a) i)) :: st) w else none)
  ∧ (∀ (lv : Nat) (st : List Value) (t : LX) (x : Nat) (w : AH), Ex M_L_law lv 1175 (some (.ref x) :: t) st w = Ex M_L_law lv 1176 (some (.ref x) :: t) (.ref x :: st) w)
  ∧ (∀ (lv : Nat) (st : List Value) (t : LX) (w : AH), Ex M_L_law lv 1175 (some (.null) :: t) st w = Ex M_L_law lv 1176 (some (.null) :: t) (.null :: st) w)
  ∧ (∀ (lv : Nat) (st : List Value) (t : LX) (o0 o1 o2 : Option Value) (x : Int32) (w : AH), Ex M_L_law lv 1176 (o0 :: o1 :: o2 :: some (.int x) :: t) st w = Ex M_L_law lv 1177 (o0 :: o1 :: o2 :: some (.int x) :: t) (.int x :: st) w)
  ∧ (∀ (lv : Nat) (l : LX) (st : List Value) (w : AH), Ex M_L_law lv 1177 l st w = Ex M_L_law lv 1178 l (.int 2 :: st) w)
  ∧ (∀ (lv : Nat) (l : LX) (st : List Value) (x y : Int32) (w : AH), Ex M_L_law lv 1178 l (.int y :: .int x :: st) w = Ex M_L_law lv 1179 l (.int (x + y) :: st) w)
  ∧ (∀ (lv : Nat) (l : LX) (st : List Value) (a : Nat) (i : Int32) (w : AH), Ex M_L_law lv 1179 l (.int i :: .ref a :: st) w = if (aI (hg w a) i).isSome = true then Ex M_L_law lv 1180 l (.int (vI (aI (hg w a) i)) :: st) w else none)
  ∧ (∀ (lv : Nat) (st : List Value) (t : LX) (x : Nat) (w : AH), Ex M_L_law lv 1180 (some (.ref x) :: t) st w = Ex M_L_law lv 1181 (some (.ref x) :: t) (.ref x :: st) w)
  ∧ (∀ (lv : Nat) (st : List Value) (t : LX) (w : AH), Ex M_L_law lv 1180 (some (.null) :: t) st w = Ex M_L_law lv 1181 (some (.null) :: t) (.null :: st) w)
  ∧ (∀ (lv : Nat) (st : List Value) (t : LX) (o0 o1 o2 : Option Value) (x : Int32) (w : AH), Ex M_L_law lv 1181 (o0 :: o1 :: o2 :: some (.int x) :: t) st w = Ex M_L_law lv 1182 (o0 :: o1 :: o2 :: some (.int x) :: t) (.int x :: st) w)
  ∧ (∀ (lv : Nat) (l : LX) (st : List Value) (w : AH), Ex M_L_law lv 1182 l st w = Ex M_L_law lv 1183 l (.int 3 :: st) w)
  ∧ (∀ (lv : Nat) (l : LX) (st : List Value) (x y : Int32) (w : AH), Ex M_L_law lv 1183 l (.int y :: .int x :: st) w = Ex M_L_law lv 1184 l (.int (x + y) :: st) w)
  ∧ (∀ (lv : Nat) (l : LX) (st : List Value) (a : Nat) (i : Int32) (w : AH), Ex M_L_law lv 1184 l (.int i :: .ref a :: st) w = if (aI (hg w a) i).isSome = true then Ex M_L_law lv 1185 l (.int (vI (aI (hg w a) i)) :: st) w else none)
  ∧ (∀ (lv : Nat) (l : LX) (b : Nat) (a0 : Int32) (a1 : Int32) (a2 : Int32) (w : AH), Ex M_L_law lv 1185 l (.int a2 :: .int a1 :: .int a0 :: .ref b :: []) w = if clK (hg w b) = 10 then (if (Call M_X11_sheet 60 [.ref b, .int a0, .int a1, .int a2] w).isSome = true then Ex M_L_law lv 1188 l (pushR (cV (Call M_X11_sheet 60 [.ref b, .int a0, .int a1, .int a2] w)) []) (cW (Call M_X11_sheet 60 [.ref b, .int a0, .int a1, .int a2] w) w) else none) else none)
  ∧ (∀ (lv : Nat) (st : List Value) (t : LX) (o0 o1 : Option Value) (x : Nat) (w : AH), Ex M_L_law lv 1188 (o0 :: o1 :: some (.ref x) :: t) st w = Ex M_L_law lv 1189 (o0 :: o1 :: some (.ref x) :: t) (.ref x :: st) w)
  ∧ (∀ (lv : Nat) (st : List Value) (t : LX) (o0 o1 : Option Value) (w : AH), Ex M_L_law lv 1188 (o0 :: o1 :: some (.null) :: t) st w = Ex M_L_law lv 1189 (o0 :: o1 :: some (.null) :: t) (.null :: st) w)
  ∧ (∀ (lv : Nat) (st : List Value) (t : LX) (x : Nat) (w : AH), Ex M_L_law lv 1189 (some (.ref x) :: t) st w = Ex M_L_law lv 1190 (some (.ref x) :: t) (.ref x :: st) w)
  ∧ (∀ (lv : Nat) (st : List Value) (t : LX) (w : AH), Ex M_L_law lv 1189 (some (.null) :: t) st w = Ex M_L_law lv 1190 (some (.null) :: t) (.null :: st) w)
  ∧ (∀ (lv : Nat) (st : List Value) (t : LX) (o0 o1 o2 : Option Value) (x : Int32) (w : AH), Ex M_L_law lv 1190 (o0 :: o1 :: o2 :: some (.int x) :: t) st w = Ex M_L_law lv 1191 (o0 :: o1 :: o2 :: some (.int x) :: t) (.int x :: st) w)
  ∧ (∀ (lv : Nat) (l : LX) (st : List Value) (w : AH), Ex M_L_law lv 1191 l st w = Ex M_L_law lv 1192 l (.int 1 :: st) w)
  ∧ (∀ (lv : Nat) (l : LX) (st : List Value) (x y : Int32) (w : AH), Ex M_L_law lv 1192 l (.int y :: .int x :: st) w = Ex M_L_law lv 1193 l (.int (x + y) :: st) w)
  ∧ (∀ (lv : Nat) (l : LX) (st : List Value) (a : Nat) (i : Int32) (w : AH), Ex M_L_law lv 1193 l (.int i :: .ref a :: st) w = if (aI (hg w a) i).isSome = true then Ex M_L_law lv 1194 l (.int (vI (aI (hg w a) i)) :: st) w else none)
  ∧ (∀ (lv : Nat) (st : List Value) (t : LX) (x : Nat) (w : AH), Ex M_L_law lv 1194 (some (.ref x) :: t) st w = Ex M_L_law lv 1195 (some (.ref x) :: t) (.ref x :: st) w)
  ∧ (∀ (lv : Nat) (st : List Value) (t : LX) (w : AH), Ex M_L_law lv 1194 (some (.null) :: t) st w = Ex M_L_law lv 1195 (some (.null) :: t) (.null :: st) w)
  ∧ (∀ (lv : Nat) (st : List Value) (t : LX) (o0 o1 o2 : Option Value) (x : Int32) (w : AH), Ex M_L_law lv 1195 (o0 :: o1 :: o2 :: some (.int x) :: t) st w = Ex M_L_law lv 1196 (o0 :: o1 :: o2 :: some (.int x) :: t) (.int x :: st) w)
  ∧ (∀ (lv : Nat) (l : LX) (st : List Value) (w : AH), Ex M_L_law lv 1196 l st w = Ex M_L_law lv 1197 l (.int 2 :: st) w)
  ∧ (∀ (lv : Nat) (l : LX) (st : List Value) (x y : Int32) (w : AH), Ex M_L_law lv 1197 l (.int y :: .int x :: st) w = Ex M_L_law lv 1198 l (.int (x + y) :: st) w)
  ∧ (∀ (lv : Nat) (l : LX) (st : List Value) (a : Nat) (i : Int32) (w : AH), Ex M_L_law lv 1198 l (.int i :: .ref a :: st) w = if (aI (hg w a) i).isSome = true then Ex M_L_law lv 1199 l (.int (vI (aI (hg w a) i)) :: st) w else none)
  ∧ (∀ (lv : Nat) (st : List Value) (t : LX) (x : Nat) (w : AH), Ex M_L_law lv 1199 (some (.ref x) :: t) st w = Ex M_L_law lv 1200 (some (.ref x) :: t) (.ref x :: st) w)
  ∧ (∀ (lv : Nat) (st : List Value) (t : LX) (w : AH), Ex M_L_law lv 1199 (some (.null) :: t) st w = Ex M_L_law lv 1200 (some (.null) :: t) (.null :: st) w)
  ∧ (∀ (lv : Nat) (st : List Value) (t : LX) (o0 o1 o2 : Option Value) (x : Int32) (w : AH), Ex M_L_law lv 1200 (o0 :: o1 :: o2 :: some (.int x) :: t) st w = Ex M_L_law lv 1201 (o0 :: o1 :: o2 :: some (.int x) :: t) (.int x :: st) w)
  ∧ (∀ (lv : Nat) (l : LX) (st : List Value) (w : AH), Ex M_L_law lv 1201 l st w = Ex M_L_law lv 1202 l (.int 3 :: st) w)
  ∧ (∀ (lv : Nat) (l : LX) (st : List Value) (x y : Int32) (w : AH), Ex M_L_law lv 1202 l (.int y :: .int x :: st) w = Ex M_L_law lv 1203 l (.int (x + y) :: st) w)
  ∧ (∀ (lv : Nat) (l : LX) (st : List Value) (a : Nat) (i : Int32) (w : AH), Ex M_L_law lv 1203 l (.int i :: .ref a :: st) w = if (aI (hg w a) i).isSome = true then Ex M_L_law lv 1204 l (.int (vI (aI (hg w a) i)) :: st) w else none)
  ∧ (∀ (lv : Nat) (l : LX) (b : Nat) (a0 : Int32) (a1 : Int32) (a2 : Int32) (s0 : Int32) (w : AH), Ex M_L_law lv 1204 l (.int a2 :: .int a1 :: .int a0 :: .ref b :: [.int s0]) w = if clK (hg w b) = 11 then (if (Call M_X12_sheet 60 [.ref b, .int a0, .int a1, .int a2] w).isSome = true then Ex M_L_law lv 1207 l (pushR (cV (Call M_X12_sheet 60 [.ref b, .int a0, .int a1, .int a2] w)) [.int s0]) (cW (Call M_X12_sheet 60 [.ref b, .int a0, .int a1, .int a2] w) w) else none) else none)
  ∧ (∀ (lv : Nat) (l : LX) (st : List Value) (x y : Int32) (w : AH), Ex M_L_law lv 1207 l (.int y :: .int x :: st) w = if x = y then Ex M_L_law lv 1472 l st w else Ex M_L_law lv 1210 l st w)
  ∧ (∀ (lv : Nat) (l : LX) (st : List Value) (w : AH), Ex M_L_law lv 1210 l st w = Ex M_L_law lv 1211 l (.int 0 :: st) w)
  ∧ (∀ (lv : Nat) (l : LX) (x : Int32) (w : AH), Ex M_L_law lv 1211 l [.int x] w = if x = 0 ∨ x = 1 then some (some (.int x), w) else none)
  ∧ (∀ (lv : Nat) (st : List Value) (t : LX) (o0 : Option Value) (x : Nat) (w : AH), Ex M_L_law lv 1212 (o0 :: some (.ref x) :: t) st w = Ex M_L_law lv 1213 (o0 :: some (.ref x) :: t) (.ref x :: st) w)
  ∧ (∀ (lv : Nat) (st : List Value) (t : LX) (o0 : Option Value) (w : AH), Ex M_L_law lv 1212 (o0 :: some (.null) :: t) st w = Ex M_L_law lv 1213 (o0 :: some (.null) :: t) (.null :: st) w)
  ∧ (∀ (lv : Nat) (st : List Value) (t : LX) (x : Nat) (w : AH), Ex M_L_law lv 1213 (some (.ref x) :: t) st w = Ex M_L_law lv 1214 (some (.ref x) :: t) (.ref x :: st) w)
  ∧ (∀ (lv : Nat) (st : List Value) (t : LX) (w : AH), Ex M_L_law lv 1213 (some (.null) :: t) st w = Ex M_L_law lv 1214 (some (.null) :: t) (.null :: st) w)
  ∧ (∀ (lv : Nat) (st : List Value) (t : LX) (o0 o1 o2 : Option Value) (x : Int32) (w : AH), Ex M_L_law lv 1214 (o0 :: o1 :: o2 :: some (.int x) :: t) st w = Ex M_L_law lv 1215 (o0 :: o1 :: o2 :: some (.int x) :: t) (.int x :: st) w)
  ∧ (∀ (lv : Nat) (l : LX) (st : List Value) (w : AH), Ex M_L_law lv 1215 l st w = Ex M_L_law lv 1216 l (.int 1 :: st) w)
  ∧ (∀ (lv : Nat) (l : LX) (st : List Value) (x y : Int32) (w : AH), Ex M_L_law lv 1216 l (.int y :: .int x :: st) w = Ex M_L_law lv 1217 l (.int (x + y) :: st) w)
  ∧ (∀ (lv : Nat) (l : LX) (st : List Value) (a : Nat) (i : Int32) (w : AH), Ex M_L_law lv 1217 l (.int i :: .ref a :: st) w = if (aI (hg w a) i).isSome = true then Ex M_L_law lv 1218 l (.int (vI (aI (hg w a) i)) :: st) w else none)
  ∧ (∀ (lv : Nat) (st : List Value) (t : LX) (x : Nat) (w : AH), Ex M_L_law lv 1218 (some (.ref x) :: t) st w = Ex M_L_law lv 1219 (some (.ref x) :: t) (.ref x :: st) w)
  ∧ (∀ (lv : Nat) (st : List Value) (t : LX) (w : AH), Ex M_L_law lv 1218 (some (.null) :: t) st w = Ex M_L_law lv 1219 (some (.null) :: t) (.null :: st) w)
  ∧ (∀ (lv : Nat) (st : List Value) (t : LX) (o0 o1 o2 : Option Value) (x : Int32) (w : AH), Ex M_L_law lv 1219 (o0 :: o1 :: o2 :: some (.int x) :: t) st w = Ex M_L_law lv 1220 (o0 :: o1 :: o2 :: some (.int x) :: t) (.int x :: st) w)
  ∧ (∀ (lv : Nat) (l : LX) (st : List Value) (w : AH), Ex M_L_law lv 1220 l st w = Ex M_L_law lv 1221 l (.int 2 :: st) w)
  ∧ (∀ (lv : Nat) (l : LX) (st : List Value) (x y : Int32) (w : AH), Ex M_L_law lv 1221 l (.int y :: .int x :: st) w = Ex M_L_law lv 1222 l (.int (x + y) :: st) w)
  ∧ (∀ (lv : Nat) (l : LX) (st : List Value) (a : Nat) (i : Int32) (w : AH), Ex M_L_law lv 1222 l (.int i :: .ref a :: st) w = if (aI (hg w a) i).isSome = true then Ex M_L_law lv 1223 l (.int (vI (aI (hg w a) i)) :: st) w else none)
  ∧ (∀ (lv : Nat) (st : List Value) (t : LX) (x : Nat) (w : AH), Ex M_L_law lv 1223 (some (.ref x) :: t) st w = Ex M_L_law lv 1224 (some (.ref x) :: t) (.ref x :: st) w)
  ∧ (∀ (lv : Nat) (st : List Value) (t : LX) (w : AH), Ex M_L_law lv 1223 (some (.null) :: t) st w = Ex M_L_law lv 1224 (some (.null) :: t) (.null :: st) w)
  ∧ (∀ (lv : Nat) (st : List Value) (t : LX) (o0 o1 o2 : Option Value) (x : Int32) (w : AH), Ex M_L_law lv 1224 (o0 :: o1 :: o2 :: some (.int x) :: t) st w = Ex M_L_law lv 1225 (o0 :: o1 :: o2 :: some (.int x) :: t) (.int x :: st) w)
  ∧ (∀ (lv : Nat) (l : LX) (st : List Value) (w : AH), Ex M_L_law lv 1225 l st w = Ex M_L_law lv 1226 l (.int 3 :: st) w)
  ∧ (∀ (lv : Nat) (l : LX) (st : List Value) (x y : Int32) (w : AH), Ex M_L_law lv 1226 l (.int y :: .int x :: st) w = Ex M_L_law lv 1227 l (.int (x + y) :: st) w)
  ∧ (∀ (lv : Nat) (l : LX) (st : List Value) (a : Nat) (i : Int32) (w : AH), Ex M_L_law lv 1227 l (.int i :: .ref a :: st) w = if (aI (hg w a) i).isSome = true then Ex M_L_law lv 1228 l (.int (vI (aI (hg w a) i)) :: st) w else none)
  ∧ (∀ (lv : Nat) (l : LX) (b : Nat) (a0 : Int32) (a1 : Int32) (a2 : Int32) (w : AH), Ex M_L_law lv 1228 l (.int a2 :: .int a1 :: .int a0 :: .ref b :: []) w = if clK (hg w b) = 10 then (if (Call M_X11_write 60 [.ref b, .int a0, .int a1, .int a2] w).isSome = true then Ex M_L_law lv 1231 l (pushR (cV (Call M_X11_write 60 [.ref b, .int a0, .int a1, .int a2] w)) []) (cW (Call M_X11_write 60 [.ref b, .int a0, .int a1, .int a2] w) w) else none) else none) :=
  ⟨(fun lv l st x y w => Ex_A (i := .iadd) (n := 1) (by decide +kernel) rfl rfl),
   (fun lv l st a i w => Ex_ial (by decide +kernel : decode M_L_law.2.1 1174 = .ok (.iaload, 1)) rfl),
   (fun lv st t x w => Ex_M (i := .aload_n 0) (n := 1) (by decide +kernel) rfl rfl rfl),
   (fun lv st t w => Ex_M (i := .aload_n 0) (n := 1) (by decide +kernel) rfl rfl rfl),
   (fun lv st t o0 o1 o2 x w => Ex_M (i := .iload_n 3) (n := 1) (by decide +kernel) rfl rfl rfl),
   (fun lv l st w => Ex_A (i := .iconst 2) (n := 1) (by decide +kernel) rfl rfl),
   (fun lv l st x y w => Ex_A (i := .iadd) (n := 1) (by decide +kernel) rfl rfl),
   (fun lv l st a i w => Ex_ial (by decide +kernel : decode M_L_law.2.1 1179 = .ok (.iaload, 1)) rfl),
   (fun lv st t x w => Ex_M (i := .aload_n 0) (n := 1) (by decide +kernel) rfl rfl rfl),
   (fun lv st t w => Ex_M (i := .aload_n 0) (n := 1) (by decide +kernel) rfl rfl rfl),
   (fun lv st t o0 o1 o2 x w => Ex_M (i := .iload_n 3) (n := 1) (by decide +kernel) rfl rfl rfl),
   (fun lv l st w => Ex_A (i := .iconst 3) (n := 1) (by decide +kernel) rfl rfl),
   (fun lv l st x y w => Ex_A (i := .iadd) (n := 1) (by decide +kernel) rfl rfl),
   (fun lv l st a i w => Ex_ial (by decide +kernel : decode M_L_law.2.1 1184 = .ok (.iaload, 1)) rfl),
   (fun lv l b a0 a1 a2 w => Ex_callV (by decide +kernel : decode M_L_law.2.1 1185 = .ok (.invokevirtual 145, 3)) rfl (by rfl : resM (mCn M_L_law) 145 = some (2, M_X11_sheet)) rfl (by rfl) (Nat.le_of_ble_eq_true rfl) (by decide +kernel) (sLv_lt (by decide +kernel))),
   (fun lv st t o0 o1 x w => Ex_M (i := .aload_n 2) (n := 1) (by decide +kernel) rfl rfl rfl),
   (fun lv st t o0 o1 w => Ex_M (i := .aload_n 2) (n := 1) (by decide +kernel) rfl rfl rfl),
   (fun lv st t x w => Ex_M (i := .aload_n 0) (n := 1) (by decide +kernel) rfl rfl rfl),
   (fun lv st t w => Ex_M (i := .aload_n 0) (n := 1) (by decide +kernel) rfl rfl rfl),
   (fun lv st t o0 o1 o2 x w => Ex_M (i := .iload_n 3) (n := 1) (by decide +kernel) rfl rfl rfl),
   (fun lv l st w => Ex_A (i := .iconst 1) (n := 1) (by decide +kernel) rfl rfl),
   (fun lv l st x y w => Ex_A (i := .iadd) (n := 1) (by decide +kernel) rfl rfl),
   (fun lv l st a i w => Ex_ial (by decide +kernel : decode M_L_law.2.1 1193 = .ok (.iaload, 1)) rfl),
   (fun lv st t x w => Ex_M (i := .aload_n 0) (n := 1) (by decide +kernel) rfl rfl rfl),
   (fun lv st t w => Ex_M (i := .aload_n 0) (n := 1) (by decide +kernel) rfl rfl rfl),
   (fun lv st t o0 o1 o2 x w => Ex_M (i := .iload_n 3) (n := 1) (by decide +kernel) rfl rfl rfl),
   (fun lv l st w => Ex_A (i := .iconst 2) (n := 1) (by decide +kernel) rfl rfl),
   (fun lv l st x y w => Ex_A (i := .iadd) (n := 1) (by decide +kernel) rfl rfl),
   (fun lv l st a i w => Ex_ial (by decide +kernel : decode M_L_law.2.1 1198 = .ok (.iaload, 1)) rfl),
   (fun lv st t x w => Ex_M (i := .aload_n 0) (n := 1) (by decide +kernel) rfl rfl rfl),
   (fun lv st t w => Ex_M (i := .aload_n 0) (n := 1) (by decide +kernel) rfl rfl rfl),
   (fun lv st t o0 o1 o2 x w => Ex_M (i := .iload_n 3) (n := 1) (by decide +kernel) rfl rfl rfl),
   (fun lv l st w => Ex_A (i := .iconst 3) (n := 1) (by decide +kernel) rfl rfl),
   (fun lv l st x y w => Ex_A (i := .iadd) (n := 1) (by decide +kernel) rfl rfl),
   (fun lv l st a i w => Ex_ial (by decide +kernel : decode M_L_law.2.1 1203 = .ok (.iaload, 1)) rfl),
   (fun lv l b a0 a1 a2 s0 w => Ex_callV (by decide +kernel : decode M_L_law.2.1 1204 = .ok (.invokevirtual 148, 3)) rfl (by rfl : resM (mCn M_L_law) 148 = some (2, M_X12_sheet)) rfl (by rfl) (Nat.le_of_ble_eq_true rfl) (by decide +kernel) (sLv_lt (by decide +kernel))),
   (fun lv l st x y w => Ex_icmp_eq (by decide +kernel : decode M_L_law.2.1 1207 = .ok (.if_icmp .eq 265, 3)) rfl rfl),
   (fun lv l st w => Ex_A (i := .iconst 0) (n := 1) (by decide +kernel) rfl rfl),
   (fun lv l x w => Ex_zret (by decide +kernel : decode M_L_law.2.1 1211 = .ok (.ireturn, 1)) rfl),
   (fun lv st t o0 x w => Ex_M (i := .aload_n 1) (n := 1) (by decide +kernel) rfl rfl rfl),
   (fun lv st t o0 w => Ex_M (i := .aload_n 1) (n := 1) (by decide +kernel) rfl rfl rfl),
   (fun lv st t x w => Ex_M (i := .aload_n 0) (n := 1) (by decide +kernel) rfl rfl rfl),
   (fun lv st t w => Ex_M (i := .aload_n 0) (n := 1) (by decide +kernel) rfl rfl rfl),
   (fun lv st t o0 o1 o2 x w => Ex_M (i := .iload_n 3) (n := 1) (by decide +kernel) rfl rfl rfl),
   (fun lv l st w => Ex_A (i := .iconst 1) (n := 1) (by decide +kernel) rfl rfl),
   (fun lv l st x y w => Ex_A (i := .iadd) (n := 1) (by decide +kernel) rfl rfl),
   (fun lv l st a i w => Ex_ial (by decide +kernel : decode M_L_law.2.1 1217 = .ok (.iaload, 1)) rfl),
   (fun lv st t x w => Ex_M (i := .aload_n 0) (n := 1) (by decide +kernel) rfl rfl rfl),
   (fun lv st t w => Ex_M (i := .aload_n 0) (n := 1) (by decide +kernel) rfl rfl rfl),
   (fun lv st t o0 o1 o2 x w => Ex_M (i := .iload_n 3) (n := 1) (by decide +kernel) rfl rfl rfl),
   (fun lv l st w => Ex_A (i := .iconst 2) (n := 1) (by decide +kernel) rfl rfl),
   (fun lv l st x y w => Ex_A (i := .iadd) (n := 1) (by decide +kernel) rfl rfl),
   (fun lv l st a i w => Ex_ial (by decide +kernel : decode M_L_law.2.1 1222 = .ok (.iaload, 1)) rfl),
   (fun lv st t x w => Ex_M (i := .aload_n 0) (n := 1) (by decide +kernel) rfl rfl rfl),
   (fun lv st t w => Ex_M (i := .aload_n 0) (n := 1) (by decide +kernel) rfl rfl rfl),
   (fun lv st t o0 o1 o2 x w => Ex_M (i := .iload_n 3) (n := 1) (by decide +kernel) rfl rfl rfl),
   (fun lv l st w => Ex_A (i := .iconst 3) (n := 1) (by decide +kernel) rfl rfl),
   (fun lv l st x y w => Ex_A (i := .iadd) (n := 1) (by decide +kernel) rfl rfl),
   (fun lv l st a i w => Ex_ial (by decide +kernel : decode M_L_law.2.1 1227 = .ok (.iaload, 1)) rfl),
   (fun lv l b a0 a1 a2 w => Ex_callV (by decide +kernel : decode M_L_law.2.1 1228 = .ok (.invokevirtual 149, 3)) rfl (by rfl : resM (mCn M_L_law) 149 = some (2, M_X11_write)) rfl (by rfl) (Nat.le_of_ble_eq_true rfl) (by decide +kernel) (sLv_lt (by decide +kernel)))⟩
set_option maxRecDepth 20000 in
set_option maxHeartbeats 4000000 in
theorem R_L_law_p17 : (∀ (lv : Nat) (st : List Value) (t : LX) (o0 o1 : Option Value) (x : Nat) (w : AH), Ex M_L_law lv 1231 (o0 :: o1 :: some (.ref x) :: t) st w = Ex M_L_law lv 1232 (o0 :: o1 :: some (.ref x) :: t) (.ref x :: st) w)
  ∧ (∀ (lv : Nat) (st : List Value) (t : LX) (o0 o1 : Option Value) (w : AH), Ex M_L_law lv 1231 (o0 :: o1 :: some (.null) :: t) st w = Ex M_L_law lv 1232 (o0 :: o1 :: some (.null) :: t) (.null :: st) w)
  ∧ (∀ (lv : Nat) (st : List Value) (t : LX) (x : Nat) (w : AH), Ex M_L_law lv 1232 (some (.ref x) :: t) st w = Ex M_L_law lv 1233 (some (.ref x) :: t) (.ref x :: st) w)
  ∧ (∀ (lv : Nat) (st : List Value) (t : LX) (w : AH), Ex M_L_law lv 1232 (some (.null) :: t) st w = Ex M_L_law lv 1233 (some (.null) :: t) (.null :: st) w)
  ∧ (∀ (lv : Nat) (st : List Value) (t : LX) (o0 o1 o2 : Option Value) (x : Int32) (w : AH), Ex M_L_law lv 1233 (o0 :: o1 :: o2 :: some (.int x) :: t) st w = Ex M_L_law lv 1234 (o0 :: o1 :: o2 :: some (.int x) :: t) (.int x :: st) w)
  ∧ (∀ (lv : Nat) (l : LX) (st : List Value) (w : AH), Ex M_L_law lv 1234 l st w = Ex M_L_law lv 1235 l (.int 1 :: st) w)
  ∧ (∀ (lv : Nat) (l : LX) (st : List Value) (x y : Int32) (w : AH), Ex M_L_law lv 1235 l (.int y :: .int x :: st) w = Ex M_L_law lv 1236 l (.int (x + y) :: st) w)
  ∧ (∀ (lv : Nat) (l : LX) (st : List Value) (a : Nat) (i : Int32) (w : AH), Ex M_L_law lv 1236 l (.int i :: .ref a :: st) w = if (aI (hg w a) i).isSome = true then Ex M_L_law lv 1237 l (.int (vI (aI (hg w a) i)) :: st) w else none)
  ∧ (∀ (lv : Nat) (st : List Value) (t : LX) (x : Nat) (w : AH), Ex M_L_law lv 1237 (some (.ref x) :: t) st w = Ex M_L_law lv 1238 (some (.ref x) :: t) (.ref x :: st) w)
  ∧ (∀ (lv : Nat) (st : List Value) (t : LX) (w : AH), Ex M_L_law lv 1237 (some (.null) :: t) st w = Ex M_L_law lv 1238 (some (.null) :: t) (.null :: st) w)
  ∧ (∀ (lv : Nat) (st : List Value) (t : LX) (o0 o1 o2 : Option Value) (x : Int32) (w : AH), Ex M_L_law lv 1238 (o0 :: o1 :: o2 :: some (.int x) :: t) st w = Ex M_L_law lv 1239 (o0 :: o1 :: o2 :: some (.int x) :: t) (.int x :: st) w)
  ∧ (∀ (lv : Nat) (l : LX) (st : List Value) (w : AH), Ex M_L_law lv 1239 l st w = Ex M_L_law lv 1240 l (.int 2 :: st) w)
  ∧ (∀ (lv : Nat) (l : LX) (st : List Value) (x y : Int32) (w : AH), Ex M_L_law lv 1240 l (.int y :: .int x :: st) w = Ex M_L_law lv 1241 l (.int (x + y) :: st) w)
  ∧ (∀ (lv : Nat) (l : LX) (st : List Value) (a : Nat) (i : Int32) (w : AH), Ex M_L_law lv 1241 l (.int i :: .ref a :: st) w = if (aI (hg w a) i).isSome = true then Ex M_L_law lv 1242 l (.int (vI (aI (hg w a) i)) :: st) w else none)
  ∧ (∀ (lv : Nat) (st : List Value) (t : LX) (x : Nat) (w : AH), Ex M_L_law lv 1242 (some (.ref x) :: t) st w = Ex M_L_law lv 1243 (some (.ref x) :: t) (.ref x :: st) w)
  ∧ (∀ (lv : Nat) (st : List Value) (t : LX) (w : AH), Ex M_L_law lv 1242 (some (.null) :: t) st w = Ex M_L_law lv 1243 (some (.null) :: t) (.null :: st) w)
  ∧ (∀ (lv : Nat) (st : List Value) (t : LX) (o0 o1 o2 : Option Value) (x : Int32) (w : AH), Ex M_L_law lv 1243 (o0 :: o1 :: o2 :: some (.int x) :: t) st w = Ex M_L_law lv 1244 (o0 :: o1 :: o2 :: some (.int x) :: t) (.int x :: st) w)
  ∧ (∀ (lv : Nat) (l : LX) (st : List Value) (w : AH), Ex M_L_law lv 1244 l st w = Ex M_L_law lv 1245 l (.int 3 :: st) w)
  ∧ (∀ (lv : Nat) (l : LX) (st : List Value) (x y : Int32) (w : AH), Ex M_L_law lv 1245 l (.int y :: .int x :: st) w = Ex M_L_law lv 1246 l (.int (x + y) :: st) w)
  ∧ (∀ (lv : Nat) (l : LX) (st : List Value) (a : Nat) (i : Int32) (w : AH), Ex M_L_law lv 1246 l (.int i :: .ref a :: st) w = if (aI (hg w a) i).isSome = true then Ex M_L_law lv 1247 l (.int (vI (aI (hg w a) i)) :: st) w else none)
  ∧ (∀ (lv : Nat) (l : LX) (b : Nat) (a0 : Int32) (a1 : Int32) (a2 : Int32) (s0 : Int32) (w : AH), Ex M_L_law lv 1247 l (.int a2 :: .int a1 :: .int a0 :: .ref b :: [.int s0]) w = if clK (hg w b) = 11 then (if (Call M_X12_write 60 [.ref b, .int a0, .int a1, .int a2] w).isSome = true then Ex M_L_law lv 1250 l (pushR (cV (Call M_X12_write 60 [.ref b, .int a0, .int a1, .int a2] w)) [.int s0]) (cW (Call M_X12_write 60 [.ref b, .int a0, .int a1, .int a2] w) w) else none) else none)
  ∧ (∀ (lv : Nat) (l : LX) (st : List Value) (x y : Int32) (w : AH), Ex M_L_law lv 1250 l (.int y :: .int x :: st) w = if x = y then Ex M_L_law lv 1472 l st w else Ex M_L_law lv 1253 l st w)
  ∧ (∀ (lv : Nat) (l : LX) (st : List Value) (w : AH), Ex M_L_law lv 1253 l st w = Ex M_L_law lv 1254 l (.int 0 :: st) w)
  ∧ (∀ (lv : Nat) (l : LX) (x : Int32) (w : AH), Ex M_L_law lv 1254 l [.int x] w = if x = 0 ∨ x = 1 then some (some (.int x), w) else none)
  ∧ (∀ (lv : Nat) (st : List Value) (t : LX) (o0 : Option Value) (x : Nat) (w : AH), Ex M_L_law lv 1255 (o0 :: some (.ref x) :: t) st w = Ex M_L_law lv 1256 (o0 :: some (.ref x) :: t) (.ref x :: st) w)
  ∧ (∀ (lv : Nat) (st : List Value) (t : LX) (o0 : Option Value) (w : AH), Ex M_L_law lv 1255 (o0 :: some (.null) :: t) st w = Ex M_L_law lv 1256 (o0 :: some (.null) :: t) (.null :: st) w)
  ∧ (∀ (lv : Nat) (st : List Value) (t : LX) (x : Nat) (w : AH), Ex M_L_law lv 1256 (some (.ref x) :: t) st w = Ex M_L_law lv 1257 (some (.ref x) :: t) (.ref x :: st) w)
  ∧ (∀ (lv : Nat) (st : List Value) (t : LX) (w : AH), Ex M_L_law lv 1256 (some (.null) :: t) st w = Ex M_L_law lv 1257 (some (.null) :: t) (.null :: st) w)
  ∧ (∀ (lv : Nat) (st : List Value) (t : LX) (o0 o1 o2 : Option Value) (x : Int32) (w : AH), Ex M_L_law lv 1257 (o0 :: o1 :: o2 :: some (.int x) :: t) st w = Ex M_L_law lv 1258 (o0 :: o1 :: o2 :: some (.int x) :: t) (.int x :: st) w)
  ∧ (∀ (lv : Nat) (l : LX) (st : List Value) (w : AH), Ex M_L_law lv 1258 l st w = Ex M_L_law lv 1259 l (.int 1 :: st) w)
  ∧ (∀ (lv : Nat) (l : LX) (st : List Value) (x y : Int32) (w : AH), Ex M_L_law lv 1259 l (.int y :: .int x :: st) w = Ex M_L_law lv 1260 l (.int (x + y) :: st) w)
  ∧ (∀ (lv : Nat) (l : LX) (st : List Value) (a : Nat) (i : Int32) (w : AH), Ex M_L_law lv 1260 l (.int i :: .ref a :: st) w = if (aI (hg w a) i).isSome = true then Ex M_L_law lv 1261 l (.int (vI (aI (hg w a) i)) :: st) w else none)
  ∧ (∀ (lv : Nat) (st : List Value) (t : LX) (x : Nat) (w : AH), Ex M_L_law lv 1261 (some (.ref x) :: t) st w = Ex M_L_law lv 1262 (some (.ref x) :: t) (.ref x :: st) w)
  ∧ (∀ (lv : Nat) (st : List Value) (t : LX) (w : AH), Ex M_L_law lv 1261 (some (.null) :: t) st w = Ex M_L_law lv 1262 (some (.null) :: t) (.null :: st) w)
  ∧ (∀ (lv : Nat) (st : List Value) (t : LX) (o0 o1 o2 : Option Value) (x : Int32) (w : AH), Ex M_L_law lv 1262 (o0 :: o1 :: o2 :: some (.int x) :: t) st w = Ex M_L_law lv 1263 (o0 :: o1 :: o2 :: some (.int x) :: t) (.int x :: st) w)
  ∧ (∀ (lv : Nat) (l : LX) (st : List Value) (w : AH), Ex M_L_law lv 1263 l st w = Ex M_L_law lv 1264 l (.int 2 :: st) w)
  ∧ (∀ (lv : Nat) (l : LX) (st : List Value) (x y : Int32) (w : AH), Ex M_L_law lv 1264 l (.int y :: .int x :: st) w = Ex M_L_law lv 1265 l (.int (x + y) :: st) w)
  ∧ (∀ (lv : Nat) (l : LX) (st : List Value) (a : Nat) (i : Int32) (w : AH), Ex M_L_law lv 1265 l (.int i :: .ref a :: st) w = if (aI (hg w a) i).isSome = true then Ex M_L_law lv 1266 l (.int (vI (aI (hg w a) i)) :: st) w else none)
  ∧ (∀ (lv : Nat) (st : List Value) (t : LX) (x : Nat) (w : AH), Ex M_L_law lv 1266 (some (.ref x) :: t) st w = Ex M_L_law lv 1267 (some (.ref x) :: t) (.ref x :: st) w)
  ∧ (∀ (lv : Nat) (st : List Value) (t : LX) (w : AH), Ex M_L_law lv 1266 (some (.null) :: t) st w = Ex M_L_law lv 1267 (some (.null) :: t) (.null :: st) w)
  ∧ (∀ (lv : Nat) (st : List Value) (t : LX) (o0 o1 o2 : Option Value) (x : Int32) (w : AH), Ex M_L_law lv 1267 (o0 :: o1 :: o2 :: some (.int x) :: t) st w = Ex M_L_law lv 1268 (o0 :: o1 :: o2 :: some (.int x) :: t) (.int x :: st) w)
  ∧ (∀ (lv : Nat) (l : LX) (st : List Value) (w : AH), Ex M_L_law lv 1268 l st w = Ex M_L_law lv 1269 l (.int 3 :: st) w)
  ∧ (∀ (lv : Nat) (l : LX) (st : List Value) (x y : Int32) (w : AH), Ex M_L_law lv 1269 l (.int y :: .int x :: st) w = Ex M_L_law lv 1270 l (.int (x + y) :: st) w)
  ∧ (∀ (lv : Nat) (l : LX) (st : List Value) (a : Nat) (i : Int32) (w : AH), Ex M_L_law lv 1270 l (.int i :: .ref a :: st) w = if (aI (hg w a) i).isSome = true then Ex M_L_law lv 1271 l (.int (vI (aI (hg w a) i)) :: st) w else none)
  ∧ (∀ (lv : Nat) (st : List Value) (t : LX) (x : Nat) (w : AH), Ex M_L_law lv 1271 (some (.ref x) :: t) st w = Ex M_L_law lv 1272 (some (.ref x) :: t) (.ref x :: st) w)
  ∧ (∀ (lv : Nat) (st : List Value) (t : LX) (w : AH), Ex M_L_law lv 1271 (some (.null) :: t) st w = Ex M_L_law lv 1272 (some (.null) :: t) (.null :: st) w)
  ∧ (∀ (lv : Nat) (st : List Value) (t : LX) (o0 o1 o2 : Option Value) (x : Int32) (w : AH), Ex M_L_law lv 1272 (o0 :: o1 :: o2 :: some (.int x) :: t) st w = Ex M_L_law lv 1273 (o0 :: o1 :: o2 :: some (.int x) :: t) (.int x :: st) w)
  ∧ (∀ (lv : Nat) (l : LX) (st : List Value) (w : AH), Ex M_L_law lv 1273 l st w = Ex M_L_law lv 1274 l (.int 4 :: st) w)
  ∧ (∀ (lv : Nat) (l : LX) (st : List Value) (x y : Int32) (w : AH), Ex M_L_law lv 1274 l (.int y :: .int x :: st) w = Ex M_L_law lv 1275 l (.int (x + y) :: st) w)
  ∧ (∀ (lv : Nat) (l : LX) (st : List Value) (a : Nat) (i : Int32) (w : AH), Ex M_L_law lv 1275 l (.int i :: .ref a :: st) w = if (aI (hg w a) i).isSome = true then Ex M_L_law lv 1276 l (.int (vI (aI (hg w a) i)) :: st) w else none)
  ∧ (∀ (lv : Nat) (st : List Value) (t : LX) (x : Nat) (w : AH), Ex M_L_law lv 1276 (some (.ref x) :: t) st w = Ex M_L_law lv 1277 (some (.ref x) :: t) (.ref x :: st) w)
  ∧ (∀ (lv : Nat) (st : List Value) (t : LX) (w : AH), Ex M_L_law lv 1276 (some (.null) :: t) st w = Ex M_L_law lv 1277 (some (.null) :: t) (.null :: st) w)
  ∧ (∀ (lv : Nat) (st : List Value) (t : LX) (o0 o1 o2 : Option Value) (x : Int32) (w : AH), Ex M_L_law lv 1277 (o0 :: o1 :: o2 :: some (.int x) :: t) st w = Ex M_L_law lv 1278 (o0 :: o1 :: o2 :: some (.int x) :: t) (.int x :: st) w)
  ∧ (∀ (lv : Nat) (l : LX) (st : List Value) (w : AH), Ex M_L_law lv 1278 l st w = Ex M_L_law lv 1279 l (.int 5 :: st) w)
  ∧ (∀ (lv : Nat) (l : LX) (st : List Value) (x y : Int32) (w : AH), Ex M_L_law lv 1279 l (.int y :: .int x :: st) w = Ex M_L_law lv 1280 l (.int (x + y) :: st) w)
  ∧ (∀ (lv : Nat) (l : LX) (st : List Value) (a : Nat) (i : Int32) (w : AH), Ex M_L_law lv 1280 l (.int i :: .ref a :: st) w = if (aI (hg w a) i).isSome = true then Ex M_L_law lv 1281 l (.int (vI (aI (hg w a) i)) :: st) w else none)
  ∧ (∀ (lv : Nat) (l : LX) (b : Nat) (a0 : Int32) (a1 : Int32) (a2 : Int32) (a3 : Int32) (a4 : Int32) (w : AH), Ex M_L_law lv 1281 l (.int a4 :: .int a3 :: .int a2 :: .int a1 :: .int a0 :: .ref b :: []) w = if clK (hg w b) = 10 then (if (Call M_X11_move 60 [.ref b, .int a0, .int a1, .int a2, .int a3, .int a4] w).isSome = true then Ex M_L_law lv 1284 l (pushR (cV (Call M_X11_move 60 [.ref b, .int a0, .int a1, .int a2, .int a3, .int a4] w)) []) (cW (Call M_X11_move 60 [.ref b, .int a0, .int a1, .int a2, .int a3, .int a4] w) w) else none) else none)
  ∧ (∀ (lv : Nat) (st : List Value) (t : LX) (o0 o1 : Option Value) (x : Nat) (w : AH), Ex M_L_law lv 1284 (o0 :: o1 :: some (.ref x) :: t) st w = Ex M_L_law lv 1285 (o0 :: o1 :: some (.ref x) :: t) (.ref x :: st) w)
  ∧ (∀ (lv : Nat) (st : List Value) (t : LX) (o0 o1 : Option Value) (w : AH), Ex M_L_law lv 1284 (o0 :: o1 :: some (.null) :: t) st w = Ex M_L_law lv 1285 (o0 :: o1 :: some (.null) :: t) (.null :: st) w)
  ∧ (∀ (lv : Nat) (st : List Value) (t : LX) (x : Nat) (w : AH), Ex M_L_law lv 1285 (some (.ref x) :: t) st w = Ex M_L_law lv 1286 (some (.ref x) :: t) (.ref x :: st) w) :=
  ⟨(fun lv st t o0 o1 x w => Ex_M (i := .aload_n 2) (n := 1) (by decide +kernel) rfl rfl rfl),
   (fun lv st t o0 o1 w => Ex_M (i := .aload_n 2) (n := 1) (by decide +kernel) rfl rfl rfl),
   (fun lv st t x w => Ex_M (i := .aload_n 0) (n := 1) (by decide +kernel) rfl rfl rfl),
   (fun lv st t w => Ex_M (i := .aload_n 0) (n := 1) (by decide +kernel) rfl rfl rfl),
   (fun lv st t o0 o1 o2 x w => Ex_M (i := .iload_n 3) (n := 1) (by decide +kernel) rfl rfl rfl),
   (fun lv l st w => Ex_A (i := .iconst 1) (n := 1) (by decide +kernel) rfl rfl),
   (fun lv l st x y w => Ex_A (i := .iadd) (n := 1) (by decide +kernel) rfl rfl),
   (fun lv l st a i w => Ex_ial (by decide +kernel : decode M_L_law.2.1 1236 = .ok (.iaload, 1)) rfl),
   (fun lv st t x w => Ex_M (i := .aload_n 0) (n := 1) (by decide +kernel) rfl rfl rfl),
   (fun lv st t w => Ex_M (i := .aload_n 0) (n := 1) (by decide +kernel) rfl rfl rfl),
   (fun lv st t o0 o1 o2 x w => Ex_M (i := .iload_n 3) (n := 1) (by decide +kernel) rfl rfl rfl),
   (fun lv l st w => Ex_A (i := .iconst 2) (n := 1) (by decide +kernel) rfl rfl),
   (fun lv l st x y w => Ex_A (i := .iadd) (n := 1) (by decide +kernel) rfl rfl),
   (fun lv l st a i w => Ex_ial (by decide +kernel : decode M_L_law.2.1 1241 = .ok (.iaload, 1)) rfl),
   (fun lv st t x w => Ex_M (i := .aload_n 0) (n := 1) (by decide +kernel) rfl rfl rfl),
   (fun lv st t w => Ex_M (i := .aload_n 0) (n := 1) (by decide +kernel) rfl rfl rfl),
   (fun lv st t o0 o1 o2 x w => Ex_M (i := .iload_n 3) (n := 1) (by decide +kernel) rfl rfl rfl),
   (fun lv l st w => Ex_A (i := .iconst 3) (n := 1) (by decide +kernel) rfl rfl),
   (fun lv l st x y w => Ex_A (i := .iadd) (n := 1) (by decide +kernel) rfl rfl),
   (fun lv l st a i w => Ex_ial (by decide +kernel : decode M_L_law.2.1 1246 = .ok (.iaload, 1)) rfl),
   (fun lv l b a0 a1 a2 s0 w => Ex_callV (by decide +kernel : decode M_L_law.2.1 1247 = .ok (.invokevirtual 152, 3)) rfl (by rfl : resM (mCn M_L_law) 152 = some (2, M_X12_write)) rfl (by rfl) (Nat.le_of_ble_eq_true rfl) (by decide +kernel) (sLv_lt (by decide +kernel))),
   (fun lv l st x y w => Ex_icmp_eq (by decide +kernel : decode M_L_law.2.1 1250 = .ok (.if_icmp .eq 222, 3)) rfl rfl),
   (fun lv l st w => Ex_A (i := .iconst 0) (n := 1) (by decide +kernel) rfl rfl),
   (fun lv l x w => Ex_zret (by decide +kernel : decode M_L_law.2.1 1254 = .ok (.ireturn, 1)) rfl),
   (fun lv st t o0 x w => Ex_M (i := .aload_n 1) (n := 1) (by decide +kernel) rfl rfl rfl),
   (fun lv st t o0 w => Ex_M (i := .aload_n 1) (n := 1) (by decide +kernel) rfl rfl rfl),
   (fun lv st t x w => Ex_M (i := .aload_n 0) (n := 1) (by decide +kernel) rfl rfl rfl),
   (fun lv st t w => Ex_M (i := .aload_n 0) (n := 1) (by decide +kernel) rfl rfl rfl),
   (fun lv st t o0 o1 o2 x w => Ex_M (i := .iload_n 3) (n := 1) (by decide +kernel) rfl rfl rfl),
   (fun lv l st w => Ex_A (i := .iconst 1) (n := 1) (by decide +kernel) rfl rfl),
   (fun lv l st x y w => Ex_A (i := .iadd) (n := 1) (by decide +kernel) rfl rfl),
   (fun lv l st a i w => Ex_ial (by decide +kernel : decode M_L_law.2.1 1260 = .ok (.iaload, 1)) rfl),
   (fun lv st t x w => Ex_M (i := .aload_n 0) (n := 1) (by decide +kernel) rfl rfl rfl),
   (fun lv st t w => Ex_M (i := .aload_n 0) (n := 1) (by decide +kernel) rfl rfl rfl),
   (fun lv st t o0 o1 o2 x w => Ex_M (i := .iload_n 3) (n := 1) (by decide +kernel) rfl rfl rfl),
   (fun lv l st w => Ex_A (i := .iconst 2) (n := 1) (by decide +kernel) rfl rfl),
   (fun lv l st x y w => Ex_A (i := .iadd) (n := 1) (by decide +kernel) rfl rfl),
   (fun lv l st a i w => Ex_ial (by decide +kernel : decode M_L_law.2.1 1265 = .ok (.iaload, 1)) rfl),
   (fun lv st t x w => Ex_M (i := .aload_n 0) (n := 1) (by decide +kernel) rfl rfl rfl),
   (fun lv st t w => Ex_M (i := .aload_n 0) (n := 1) (by decide +kernel) rfl rfl rfl),
   (fun lv st t o0 o1 o2 x w => Ex_M (i := .iload_n 3) (n := 1) (by decide +kernel) rfl rfl rfl),
   (fun lv l st w => Ex_A (i := .iconst 3) (n := 1) (by decide +kernel) rfl rfl),
   (fun lv l st x y w => Ex_A (i := .iadd) (n := 1) (by decide +kernel) rfl rfl),
   (fun lv l st a i w => Ex_ial (by decide +kernel : decode M_L_law.2.1 1270 = .ok (.iaload, 1)) rfl),
   (fun lv st t x w => Ex_M (i := .aload_n 0) (n := 1) (by decide +kernel) rfl rfl rfl),
   (fun lv st t w => Ex_M (i := .aload_n 0) (n := 1) (by decide +kernel) rfl rfl rfl),
   (fun lv st t o0 o1 o2 x w => Ex_M (i := .iload_n 3) (n := 1) (by decide +kernel) rfl rfl rfl),
   (fun lv l st w => Ex_A (i := .iconst 4) (n := 1) (by decide +kernel) rfl rfl),
   (fun lv l st x y w => Ex_A (i := .iadd) (n := 1) (by decide +kernel) rfl rfl),
   (fun lv l st a i w => Ex_ial (by decide +kernel : decode M_L_law.2.1 1275 = .ok (.iaload, 1)) rfl),
   (fun lv st t x w => Ex_M (i := .aload_n 0) (n := 1) (by decide +kernel) rfl rfl rfl),
   (fun lv st t w => Ex_M (i := .aload_n 0) (n := 1) (by decide +kernel) rfl rfl rfl),
   (fun lv st t o0 o1 o2 x w => Ex_M (i := .iload_n 3) (n := 1) (by decide +kernel) rfl rfl rfl),
   (fun lv l st w => Ex_A (i := .iconst 5) (n := 1) (by decide +kernel) rfl rfl),
   (fun lv l st x y w => Ex_A (i := .iadd) (n := 1) (by decide +kernel) rfl rfl),
   (fun lv l st a i w => Ex_ial (by decide +kernel : decode M_L_law.2.1 1280 = .ok (.iaload, 1)) rfl),
   (fun lv l b a0 a1 a2 a3 a4 w => Ex_callV (by decide +kernel : decode M_L_law.2.1 1281 = .ok (.invokevirtual 153, 3)) rfl (by rfl : resM (mCn M_L_law) 153 = some (2, M_X11_move)) rfl (by rfl) (Nat.le_of_ble_eq_true rfl) (by decide +kernel) (sLv_lt (by decide +kernel))),
   (fun lv st t o0 o1 x w => Ex_M (i := .aload_n 2) (n := 1) (by decide +kernel) rfl rfl rfl),
   (fun lv st t o0 o1 w => Ex_M (i := .aload_n 2) (n := 1) (by decide +kernel) rfl rfl rfl),
   (fun lv st t x w => Ex_M (i := .aload_n 0) (n := 1) (by decide +kernel) rfl rfl rfl)⟩
set_option maxRecDepth 20000 in
set_option maxHeartbeats 4000000 in
theorem R_L_law_p18 : (∀ (lv : Nat) (st : List Value) (t : LX) (w : AH), Ex M_L_law lv 1285 (some (.null) :: t) st w = Ex M_L_law lv 1286 (some (.null) :: t) (.null :: st) w)
  ∧ (∀ (lv : Nat) (st : List Value) (t : LX) (o0 o1 o2 : Option Value) (x : Int32) (w : AH), Ex M_L_law lv 1286 (o0 :: o1 :: o2 :: some (.int x) :: t) st w = Ex M_L_law lv 1287 (o0 :: o1 :: o2 :: some (.int x) :: t) (.int x :: st) w)
  ∧ (∀ (lv : Nat) (l : LX) (st : List Value) (w : AH), Ex M_L_law lv 1287 l st w = Ex M_L_law lv 1288 l (.int 1 :: st) w)
  ∧ (∀ (lv : Nat) (l : LX) (st : List Value) (x y : Int32) (w : AH), Ex M_L_law lv 1288 l (.int y :: .int x :: st) w = Ex M_L_law lv 1289 l (.int (x + y) :: st) w)
  ∧ (∀ (lv : Nat) (l : LX) (st : List Value) (a : Nat) (i : Int32) (w : AH), Ex M_L_law lv 1289 l (.int i :: .ref a :: st) w = if (aI (hg w a) i).isSome = true then Ex M_L_law lv 1290 l (.int (vI (aI (hg w a) i)) :: st) w else none)
  ∧ (∀ (lv : Nat) (st : List Value) (t : LX) (x : Nat) (w : AH), Ex M_L_law lv 1290 (some (.ref x) :: t) st w = Ex M_L_law lv 1291 (some (.ref x) :: t) (.ref x :: st) w)
  ∧ (∀ (lv : Nat) (st : List Value) (t : LX) (w : AH), Ex M_L_law lv 1290 (some (.null) :: t) st w = Ex M_L_law lv 1291 (some (.null) :: t) (.null :: st) w)
  ∧ (∀ (lv : Nat) (st : List Value) (t : LX) (o0 o1 o2 : Option Value) (x : Int32) (w : AH), Ex M_L_law lv 1291 (o0 :: o1 :: o2 :: some (.int x) :: t) st w = Ex M_L_law lv 1292 (o0 :: o1 :: o2 :: some (.int x) :: t) (.int x :: st) w)
  ∧ (∀ (lv : Nat) (l : LX) (st : List Value) (w : AH), Ex M_L_law lv 1292 l st w = Ex M_L_law lv 1293 l (.int 2 :: st) w)
  ∧ (∀ (lv : Nat) (l : LX) (st : List Value) (x y : Int32) (w : AH), Ex M_L_law lv 1293 l (.int y :: .int x :: st) w = Ex M_L_law lv 1294 l (.int (x + y) :: st) w)
  ∧ (∀ (lv : Nat) (l : LX) (st : List Value) (a : Nat) (i : Int32) (w : AH), Ex M_L_law lv 1294 l (.int i :: .ref a :: st) w = if (aI (hg w a) i).isSome = true then Ex M_L_law lv 1295 l (.int (vI (aI (hg w a) i)) :: st) w else none)
  ∧ (∀ (lv : Nat) (st : List Value) (t : LX) (x : Nat) (w : AH), Ex M_L_law lv 1295 (some (.ref x) :: t) st w = Ex M_L_law lv 1296 (some (.ref x) :: t) (.ref x :: st) w)
  ∧ (∀ (lv : Nat) (st : List Value) (t : LX) (w : AH), Ex M_L_law lv 1295 (some (.null) :: t) st w = Ex M_L_law lv 1296 (some (.null) :: t) (.null :: st) w)
  ∧ (∀ (lv : Nat) (st : List Value) (t : LX) (o0 o1 o2 : Option Value) (x : Int32) (w : AH), Ex M_L_law lv 1296 (o0 :: o1 :: o2 :: some (.int x) :: t) st w = Ex M_L_law lv 1297 (o0 :: o1 :: o2 :: some (.int x) :: t) (.int x :: st) w)
  ∧ (∀ (lv : Nat) (l : LX) (st : List Value) (w : AH), Ex M_L_law lv 1297 l st w = Ex M_L_law lv 1298 l (.int 3 :: st) w)
  ∧ (∀ (lv : Nat) (l : LX) (st : List Value) (x y : Int32) (w : AH), Ex M_L_law lv 1298 l (.int y :: .int x :: st) w = Ex M_L_law lv 1299 l (.int (x + y) :: st) w)
  ∧ (∀ (lv : Nat) (l : LX) (st : List Value) (a : Nat) (i : Int32) (w : AH), Ex M_L_law lv 1299 l (.int i :: .ref a :: st) w = if (aI (hg w a) i).isSome = true then Ex M_L_law lv 1300 l (.int (vI (aI (hg w a) i)) :: st) w else none)
  ∧ (∀ (lv : Nat) (st : List Value) (t : LX) (x : Nat) (w : AH), Ex M_L_law lv 1300 (some (.ref x) :: t) st w = Ex M_L_law lv 1301 (some (.ref x) :: t) (.ref x :: st) w)
  ∧ (∀ (lv : Nat) (st : List Value) (t : LX) (w : AH), Ex M_L_law lv 1300 (some (.null) :: t) st w = Ex M_L_law lv 1301 (some (.null) :: t) (.null :: st) w)
  ∧ (∀ (lv : Nat) (st : List Value) (t : LX) (o0 o1 o2 : Option Value) (x : Int32) (w : AH), Ex M_L_law lv 1301 (o0 :: o1 :: o2 :: some (.int x) :: t) st w = Ex M_L_law lv 1302 (o0 :: o1 :: o2 :: some (.int x) :: t) (.int x :: st) w)
  ∧ (∀ (lv : Nat) (l : LX) (st : List Value) (w : AH), Ex M_L_law lv 1302 l st w = Ex M_L_law lv 1303 l (.int 4 :: st) w)
  ∧ (∀ (lv : Nat) (l : LX) (st : List Value) (x y : Int32) (w : AH), Ex M_L_law lv 1303 l (.int y :: .int x :: st) w = Ex M_L_law lv 1304 l (.int (x + y) :: st) w)
  ∧ (∀ (lv : Nat) (l : LX) (st : List Value) (a : Nat) (i : Int32) (w : AH), Ex M_L_law lv 1304 l (.int i :: .ref a :: st) w = if (aI (hg w a) i).isSome = true then Ex M_L_law lv 1305 l (.int (vI (aI (hg w a) i)) :: st) w else none)
  ∧ (∀ (lv : Nat) (st : List Value) (t : LX) (x : Nat) (w : AH), Ex M_L_law lv 1305 (some (.ref x) :: t) st w = Ex M_L_law lv 1306 (some (.ref x) :: t) (.ref x :: st) w)
  ∧ (∀ (lv : Nat) (st : List Value) (t : LX) (w : AH), Ex M_L_law lv 1305 (some (.null) :: t) st w = Ex M_L_law lv 1306 (some (.null) :: t) (.null :: st) w)
  ∧ (∀ (lv : Nat) (st : List Value) (t : LX) (o0 o1 o2 : Option Value) (x : Int32) (w : AH), Ex M_L_law lv 1306 (o0 :: o1 :: o2 :: some (.int x) :: t) st w = Ex M_L_law lv 1307 (o0 :: o1 :: o2 :: some (.int x) :: t) (.int x :: st) w)
  ∧ (∀ (lv : Nat) (l : LX) (st : List Value) (w : AH), Ex M_L_law lv 1307 l st w = Ex M_L_law lv 1308 l (.int 5 :: st) w)
  ∧ (∀ (lv : Nat) (l : LX) (st : List Value) (x y : Int32) (w : AH), Ex M_L_law lv 1308 l (.int y :: .int x :: st) w = Ex M_L_law lv 1309 l (.int (x + y) :: st) w)
  ∧ (∀ (lv : Nat) (l : LX) (st : List Value) (a : Nat) (i : Int32) (w : AH), Ex M_L_law lv 1309 l (.int i :: .ref a :: st) w = if (aI (hg w a) i).isSome = true then Ex M_L_law lv 1310 l (.int (vI (aI (hg w a) i)) :: st) w else none)
  ∧ (∀ (lv : Nat) (l : LX) (b : Nat) (a0 : Int32) (a1 : Int32) (a2 : Int32) (a3 : Int32) (a4 : Int32) (s0 : Int32) (w : AH), Ex M_L_law lv 1310 l (.int a4 :: .int a3 :: .int a2 :: .int a1 :: .int a0 :: .ref b :: [.int s0]) w = if clK (hg w b) = 11 then (if (Call M_X12_move 60 [.ref b, .int a0, .int a1, .int a2, .int a3, .int a4] w).isSome = true then Ex M_L_law lv 1313 l (pushR (cV (Call M_X12_move 60 [.ref b, .int a0, .int a1, .int a2, .int a3, .int a4] w)) [.int s0]) (cW (Call M_X12_move 60 [.ref b, .int a0, .int a1, .int a2, .int a3, .int a4] w) w) else none) else none)
  ∧ (∀ (lv : Nat) (l : LX) (st : List Value) (x y : Int32) (w : AH), Ex M_L_law lv 1313 l (.int y :: .int x :: st) w = if x = y then Ex M_L_law lv 1472 l st w else Ex M_L_law lv 1316 l st w)
  ∧ (∀ (lv : Nat) (l : LX) (st : List Value) (w : AH), Ex M_L_law lv 1316 l st w = Ex M_L_law lv 1317 l (.int 0 :: st) w)
  ∧ (∀ (lv : Nat) (l : LX) (x : Int32) (w : AH), Ex M_L_law lv 1317 l [.int x] w = if x = 0 ∨ x = 1 then some (some (.int x), w) else none)
  ∧ (∀ (lv : Nat) (st : List Value) (t : LX) (o0 : Option Value) (x : Nat) (w : AH), Ex M_L_law lv 1318 (o0 :: some (.ref x) :: t) st w = Ex M_L_law lv 1319 (o0 :: some (.ref x) :: t) (.ref x :: st) w)
  ∧ (∀ (lv : Nat) (st : List Value) (t : LX) (o0 : Option Value) (w : AH), Ex M_L_law lv 1318 (o0 :: some (.null) :: t) st w = Ex M_L_law lv 1319 (o0 :: some (.null) :: t) (.null :: st) w)
  ∧ (∀ (lv : Nat) (st : List Value) (t : LX) (x : Nat) (w : AH), Ex M_L_law lv 1319 (some (.ref x) :: t) st w = Ex M_L_law lv 1320 (some (.ref x) :: t) (.ref x :: st) w)
  ∧ (∀ (lv : Nat) (st : List Value) (t : LX) (w : AH), Ex M_L_law lv 1319 (some (.null) :: t) st w = Ex M_L_law lv 1320 (some (.null) :: t) (.null :: st) w)
  ∧ (∀ (lv : Nat) (st : List Value) (t : LX) (o0 o1 o2 : Option Value) (x : Int32) (w : AH), Ex M_L_law lv 1320 (o0 :: o1 :: o2 :: some (.int x) :: t) st w = Ex M_L_law lv 1321 (o0 :: o1 :: o2 :: some (.int x) :: t) (.int x :: st) w)
  ∧ (∀ (lv : Nat) (l : LX) (st : List Value) (w : AH), Ex M_L_law lv 1321 l st w = Ex M_L_law lv 1322 l (.int 1 :: st) w)
  ∧ (∀ (lv : Nat) (l : LX) (st : List Value) (x y : Int32) (w : AH), Ex M_L_law lv 1322 l (.int y :: .int x :: st) w = Ex M_L_law lv 1323 l (.int (x + y) :: st) w)
  ∧ (∀ (lv : Nat) (l : LX) (st : List Value) (a : Nat) (i : Int32) (w : AH), Ex M_L_law lv 1323 l (.int i :: .ref a :: st) w = if (aI (hg w a) i).isSome = true then Ex M_L_law lv 1324 l (.int (vI (aI (hg w a) i)) :: st) w else none)
  ∧ (∀ (lv : Nat) (l : LX) (b : Nat) (a0 : Int32) (w : AH), Ex M_L_law lv 1324 l (.int a0 :: .ref b :: []) w = if clK (hg w b) = 10 then (if (Call M_X11_colours 60 [.ref b, .int a0] w).isSome = true then Ex M_L_law lv 1327 l (pushR (cV (Call M_X11_colours 60 [.ref b, .int a0] w)) []) (cW (Call M_X11_colours 60 [.ref b, .int a0] w) w) else none) else none)
  ∧ (∀ (lv : Nat) (st : List Value) (t : LX) (o0 o1 : Option Value) (x : Nat) (w : AH), Ex M_L_law lv 1327 (o0 :: o1 :: some (.ref x) :: t) st w = Ex M_L_law lv 1328 (o0 :: o1 :: some (.ref x) :: t) (.ref x :: st) w)
  ∧ (∀ (lv : Nat) (st : List Value) (t : LX) (o0 o1 : Option Value) (w : AH), Ex M_L_law lv 1327 (o0 :: o1 :: some (.null) :: t) st w = Ex M_L_law lv 1328 (o0 :: o1 :: some (.null) :: t) (.null :: st) w)
  ∧ (∀ (lv : Nat) (st : List Value) (t : LX) (x : Nat) (w : AH), Ex M_L_law lv 1328 (some (.ref x) :: t) st w = Ex M_L_law lv 1329 (some (.ref x) :: t) (.ref x :: st) w)
  ∧ (∀ (lv : Nat) (st : List Value) (t : LX) (w : AH), Ex M_L_law lv 1328 (some (.null) :: t) st w = Ex M_L_law lv 1329 (some (.null) :: t) (.null :: st) w)
  ∧ (∀ (lv : Nat) (st : List Value) (t : LX) (o0 o1 o2 : Option Value) (x : Int32) (w : AH), Ex M_L_law lv 1329 (o0 :: o1 :: o2 :: some (.int x) :: t) st w = Ex M_L_law lv 1330 (o0 :: o1 :: o2 :: some (.int x) :: t) (.int x :: st) w)
  ∧ (∀ (lv : Nat) (l : LX) (st : List Value) (w : AH), Ex M_L_law lv 1330 l st w = Ex M_L_law lv 1331 l (.int 1 :: st) w)
  ∧ (∀ (lv : Nat) (l : LX) (st : List Value) (x y : Int32) (w : AH), Ex M_L_law lv 1331 l (.int y :: .int x :: st) w = Ex M_L_law lv 1332 l (.int (x + y) :: st) w)
  ∧ (∀ (lv : Nat) (l : LX) (st : List Value) (a : Nat) (i : Int32) (w : AH), Ex M_L_law lv 1332 l (.int i :: .ref a :: st) w = if (aI (hg w a) i).isSome = true then Ex M_L_law lv 1333 l (.int (vI (aI (hg w a) i)) :: st) w else none)
  ∧ (∀ (lv : Nat) (l : LX) (b : Nat) (a0 : Int32) (s0 : Int32) (w : AH), Ex M_L_law lv 1333 l (.int a0 :: .ref b :: [.int s0]) w = if clK (hg w b) = 11 then (if (Call M_X12_colours 60 [.ref b, .int a0] w).isSome = true then Ex M_L_law lv 1336 l (pushR (cV (Call M_X12_colours 60 [.ref b, .int a0] w)) [.int s0]) (cW (Call M_X12_colours 60 [.ref b, .int a0] w) w) else none) else none)
  ∧ (∀ (lv : Nat) (l : LX) (st : List Value) (x y : Int32) (w : AH), Ex M_L_law lv 1336 l (.int y :: .int x :: st) w = if x = y then Ex M_L_law lv 1472 l st w else Ex M_L_law lv 1339 l st w)
  ∧ (∀ (lv : Nat) (l : LX) (st : List Value) (w : AH), Ex M_L_law lv 1339 l st w = Ex M_L_law lv 1340 l (.int 0 :: st) w)
  ∧ (∀ (lv : Nat) (l : LX) (x : Int32) (w : AH), Ex M_L_law lv 1340 l [.int x] w = if x = 0 ∨ x = 1 then some (some (.int x), w) else none)
  ∧ (∀ (lv : Nat) (st : List Value) (t : LX) (o0 : Option Value) (x : Nat) (w : AH), Ex M_L_law lv 1341 (o0 :: some (.ref x) :: t) st w = Ex M_L_law lv 1342 (o0 :: some (.ref x) :: t) (.ref x :: st) w)
  ∧ (∀ (lv : Nat) (st : List Value) (t : LX) (o0 : Option Value) (w : AH), Ex M_L_law lv 1341 (o0 :: some (.null) :: t) st w = Ex M_L_law lv 1342 (o0 :: some (.null) :: t) (.null :: st) w)
  ∧ (∀ (lv : Nat) (st : List Value) (t : LX) (x : Nat) (w : AH), Ex M_L_law lv 1342 (some (.ref x) :: t) st w = Ex M_L_law lv 1343 (some (.ref x) :: t) (.ref x :: st) w)
  ∧ (∀ (lv : Nat) (st : List Value) (t : LX) (w : AH), Ex M_L_law lv 1342 (some (.null) :: t) st w = Ex M_L_law lv 1343 (some (.null) :: t) (.null :: st) w)
  ∧ (∀ (lv : Nat) (st : List Value) (t : LX) (o0 o1 o2 : Option Value) (x : Int32) (w : AH), Ex M_L_law lv 1343 (o0 :: o1 :: o2 :: some (.int x) :: t) st w = Ex M_L_law lv 1344 (o0 :: o1 :: o2 :: some (.int x) :: t) (.int x :: st) w)
  ∧ (∀ (lv : Nat) (l : LX) (st : List Value) (w : AH), Ex M_L_law lv 1344 l st w = Ex M_L_law lv 1345 l (.int 1 :: st) w) :=
  ⟨(fun lv st t w => Ex_M (i := .aload_n 0) (n := 1) (by decide +kernel) rfl rfl rfl),
   (fun lv st t o0 o1 o2 x w => Ex_M (i := .iload_n 3) (n := 1) (by decide +kernel) rfl rfl rfl),
   (fun lv l st w => Ex_A (i := .iconst 1) (n := 1) (by decide +kernel) rfl rfl),
   (fun lv l st x y w => Ex_A (i := .iadd) (n := 1) (by decide +kernel) rfl rfl),
   (fun lv l st a i w => Ex_ial (by decide +kernel : decode M_L_law.2.1 1289 = .ok (.iaload, 1)) rfl),
   (fun lv st t x w => Ex_M (i := .aload_n 0) (n := 1) (by decide +kernel) rfl rfl rfl),
   (fun lv st t w => Ex_M (i := .aload_n 0) (n := 1) (by decide +kernel) rfl rfl rfl),
   (fun lv st t o0 o1 o2 x w => Ex_M (i := .iload_n 3) (n := 1) (by decide +kernel) rfl rfl rfl),
   (fun lv l st w => Ex_A (i := .iconst 2) (n := 1) (by decide +kernel) rfl rfl),
   (fun lv l st x y w => Ex_A (i := .iadd) (n := 1) (by decide +kernel) rfl rfl),
   (fun lv l st a i w => Ex_ial (by decide +kernel : decode M_L_law.2.1 1294 = .ok (.iaload, 1)) rfl),
   (fun lv st t x w => Ex_M (i := .aload_n 0) (n := 1) (by decide +kernel) rfl rfl rfl),
   (fun lv st t w => Ex_M (i := .aload_n 0) (n := 1) (by decide +kernel) rfl rfl rfl),
   (fun lv st t o0 o1 o2 x w => Ex_M (i := .iload_n 3) (n := 1) (by decide +kernel) rfl rfl rfl),
   (fun lv l st w => Ex_A (i := .iconst 3) (n := 1) (by decide +kernel) rfl rfl),
   (fun lv l st x y w => Ex_A (i := .iadd) (n := 1) (by decide +kernel) rfl rfl),
   (fun lv l st a i w => Ex_ial (by decide +kernel : decode M_L_law.2.1 1299 = .ok (.iaload, 1)) rfl),
   (fun lv st t x w => Ex_M (i := .aload_n 0) (n := 1) (by decide +kernel) rfl rfl rfl),
   (fun lv st t w => Ex_M (i := .aload_n 0) (n := 1) (by decide +kernel) rfl rfl rfl),
   (fun lv st t o0 o1 o2 x w => Ex_M (i := .iload_n 3) (n := 1) (by decide +kernel) rfl rfl rfl),
   (fun lv l st w => Ex_A (i := .iconst 4) (n := 1) (by decide +kernel) rfl rfl),
   (fun lv l st x y w => Ex_A (i := .iadd) (n := 1) (by decide +kernel) rfl rfl),
   (fun lv l st a i w => Ex_ial (by decide +kernel : decode M_L_law.2.1 1304 = .ok (.iaload, 1)) rfl),
   (fun lv st t x w => Ex_M (i := .aload_n 0) (n := 1) (by decide +kernel) rfl rfl rfl),
   (fun lv st t w => Ex_M (i := .aload_n 0) (n := 1) (by decide +kernel) rfl rfl rfl),
   (fun lv st t o0 o1 o2 x w => Ex_M (i := .iload_n 3) (n := 1) (by decide +kernel) rfl rfl rfl),
   (fun lv l st w => Ex_A (i := .iconst 5) (n := 1) (by decide +kernel) rfl rfl),
   (fun lv l st x y w => Ex_A (i := .iadd) (n := 1) (by decide +kernel) rfl rfl),
   (fun lv l st a i w => Ex_ial (by decide +kernel : decode M_L_law.2.1 1309 = .ok (.iaload, 1)) rfl),
   (fun lv l b a0 a1 a2 a3 a4 s0 w => Ex_callV (by decide +kernel : decode M_L_law.2.1 1310 = .ok (.invokevirtual 157, 3)) rfl (by rfl : resM (mCn M_L_law) 157 = some (2, M_X12_move)) rfl (by rfl) (Nat.le_of_ble_eq_true rfl) (by decide +kernel) (sLv_lt (by decide +kernel))),
   (fun lv l st x y w => Ex_icmp_eq (by decide +kernel : decode M_L_law.2.1 1313 = .ok (.if_icmp .eq 159, 3)) rfl rfl),
   (fun lv l st w => Ex_A (i := .iconst 0) (n := 1) (by decide +kernel) rfl rfl),
   (fun lv l x w => Ex_zret (by decide +kernel : decode M_L_law.2.1 1317 = .ok (.ireturn, 1)) rfl),
   (fun lv st t o0 x w => Ex_M (i := .aload_n 1) (n := 1) (by decide +kernel) rfl rfl rfl),
   (fun lv st t o0 w => Ex_M (i := .aload_n 1) (n := 1) (by decide +kernel) rfl rfl rfl),
   (fun lv st t x w => Ex_M (i := .aload_n 0) (n := 1) (by decide +kernel) rfl rfl rfl),
   (fun lv st t w => Ex_M (i := .aload_n 0) (n := 1) (by decide +kernel) rfl rfl rfl),
   (fun lv st t o0 o1 o2 x w => Ex_M (i := .iload_n 3) (n := 1) (by decide +kernel) rfl rfl rfl),
   (fun lv l st w => Ex_A (i := .iconst 1) (n := 1) (by decide +kernel) rfl rfl),
   (fun lv l st x y w => Ex_A (i := .iadd) (n := 1) (by decide +kernel) rfl rfl),
   (fun lv l st a i w => Ex_ial (by decide +kernel : decode M_L_law.2.1 1323 = .ok (.iaload, 1)) rfl),
   (fun lv l b a0 w => Ex_callV (by decide +kernel : decode M_L_law.2.1 1324 = .ok (.invokevirtual 158, 3)) rfl (by rfl : resM (mCn M_L_law) 158 = some (2, M_X11_colours)) rfl (by rfl) (Nat.le_of_ble_eq_true rfl) (by decide +kernel) (sLv_lt (by decide +kernel))),
   (fun lv st t o0 o1 x w => Ex_M (i := .aload_n 2) (n := 1) (by decide +kernel) rfl rfl rfl),
   (fun lv st t o0 o1 w => Ex_M (i := .aload_n 2) (n := 1) (by decide +kernel) rfl rfl rfl),
   (fun lv st t x w => Ex_M (i := .aload_n 0) (n := 1) (by decide +kernel) rfl rfl rfl),
   (fun lv st t w => Ex_M (i := .aload_n 0) (n := 1) (by decide +kernel) rfl rfl rfl),
   (fun lv st t o0 o1 o2 x w => Ex_M (i := .iload_n 3) (n := 1) (by decide +kernel) rfl rfl rfl),
   (fun lv l st w => Ex_A (i := .iconst 1) (n := 1) (by decide +kernel) rfl rfl),
   (fun lv l st x y w => Ex_A (i := .iadd) (n := 1) (by decide +kernel) rfl rfl),
   (fun lv l st a i w => Ex_ial (by decide +kernel : decode M_L_law.2.1 1332 = .ok (.iaload, 1)) rfl),
   (fun lv l b a0 s0 w => Ex_callV (by decide +kernel : decode M_L_law.2.1 1333 = .ok (.invokevirtual 161, 3)) rfl (by rfl : resM (mCn M_L_law) 161 = some (2, M_X12_colours)) rfl (by rfl) (Nat.le_of_ble_eq_true rfl) (by decide +kernel) (sLv_lt (by decide +kernel))),
   (fun lv l st x y w => Ex_icmp_eq (by decide +kernel : decode M_L_law.2.1 1336 = .ok (.if_icmp .eq 136, 3)) rfl rfl),
   (fun lv l st w => Ex_A (i := .iconst 0) (n := 1) (by decide +kernel) rfl rfl),
   (fun lv l x w => Ex_zret (by decide +kernel : decode M_L_law.2.1 1340 = .ok (.ireturn, 1)) rfl),
   (fun lv st t o0 x w => Ex_M (i := .aload_n 1) (n := 1) (by decide +kernel) rfl rfl rfl),
   (fun lv st t o0 w => Ex_M (i := .aload_n 1) (n := 1) (by decide +kernel) rfl rfl rfl),
   (fun lv st t x w => Ex_M (i := .aload_n 0) (n := 1) (by decide +kernel) rfl rfl rfl),
   (fun lv st t w => Ex_M (i := .aload_n 0) (n := 1) (by decide +kernel) rfl rfl rfl),
   (fun lv st t o0 o1 o2 x w => Ex_M (i := .iload_n 3) (n := 1) (by decide +kernel) rfl rfl rfl),
   (fun lv l st w => Ex_A (i := .iconst 1) (n := 1) (by decide +kernel) rfl rfl)⟩
set_option maxRecDepth 20000 in
set_option maxHeartbeats 4000000 in
theorem R_L_law_p19 : (∀ (lv : Nat) (l : LX) (st : List Value) (x y : Int32) (w : AH), Ex M_L_law lv 1345 l (.int y :: .int x :: st) w = Ex M_L_law lv 1346 l (.int (x + y) :: st) w)
  ∧ (∀ (lv : Nat) (l : LX) (st : List Value) (a : Nat) (i : Int32) (w : AH), Ex M_L_law lv 1346 l (.int i :: .ref a :: st) w = if (aI (hg w a) i).isSome = true then Ex M_L_law lv 1347 l (.int (vI (aI (hg w a) i)) :: st) w else none)
  ∧ (∀ (lv : Nat) (l : LX) (b : Nat) (a0 : Int32) (w : AH), Ex M_L_law lv 1347 l (.int a0 :: .ref b :: []) w = if clK (hg w b) = 10 then (if (Call M_X11_judge 60 [.ref b, .int a0] w).isSome = true then Ex M_L_law lv 1350 l (pushR (cV (Call M_X11_judge 60 [.ref b, .int a0] w)) []) (cW (Call M_X11_judge 60 [.ref b, .int a0] w) w) else none) else none)
  ∧ (∀ (lv : Nat) (st : List Value) (t : LX) (o0 o1 : Option Value) (x : Nat) (w : AH), Ex M_L_law lv 1350 (o0 :: o1 :: some (.ref x) :: t) st w = Ex M_L_law lv 1351 (o0 :: o1 :: some (.ref x) :: t) (.ref x :: st) w)
  ∧ (∀ (lv : Nat) (st : List Value) (t : LX) (o0 o1 : Option Value) (w : AH), Ex M_L_law lv 1350 (o0 :: o1 :: some (.null) :: t) st w = Ex M_L_law lv 1351 (o0 :: o1 :: some (.null) :: t) (.null :: st) w)
  ∧ (∀ (lv : Nat) (st : List Value) (t : LX) (x : Nat) (w : AH), Ex M_L_law lv 1351 (some (.ref x) :: t) st w = Ex M_L_law lv 1352 (some (.ref x) :: t) (.ref x :: st) w)
  ∧ (∀ (lv : Nat) (st : List Value) (t : LX) (w : AH), Ex M_L_law lv 1351 (some (.null) :: t) st w = Ex M_L_law lv 1352 (some (.null) :: t) (.null :: st) w)
  ∧ (∀ (lv : Nat) (st : List Value) (t : LX) (o0 o1 o2 : Option Value) (x : Int32) (w : AH), Ex M_L_law lv 1352 (o0 :: o1 :: o2 :: some (.int x) :: t) st w = Ex M_L_law lv 1353 (o0 :: o1 :: o2 :: some (.int x) :: t) (.int x :: st) w)
  ∧ (∀ (lv : Nat) (l : LX) (st : List Value) (w : AH), Ex M_L_law lv 1353 l st w = Ex M_L_law lv 1354 l (.int 1 :: st) w)
  ∧ (∀ (lv : Nat) (l : LX) (st : List Value) (x y : Int32) (w : AH), Ex M_L_law lv 1354 l (.int y :: .int x :: st) w = Ex M_L_law lv 1355 l (.int (x + y) :: st) w)
  ∧ (∀ (lv : Nat) (l : LX) (st : List Value) (a : Nat) (i : Int32) (w : AH), Ex M_L_law lv 1355 l (.int i :: .ref a :: st) w = if (aI (hg w a) i).isSome = true then Ex M_L_law lv 1356 l (.int (vI (aI (hg w a) i)) :: st) w else none)
  ∧ (∀ (lv : Nat) (l : LX) (b : Nat) (a0 : Int32) (s0 : Int32) (w : AH), Ex M_L_law lv 1356 l (.int a0 :: .ref b :: [.int s0]) w = if clK (hg w b) = 11 then (if (Call M_X12_judge 60 [.ref b, .int a0] w).isSome = true then Ex M_L_law lv 1359 l (pushR (cV (Call M_X12_judge 60 [.ref b, .int a0] w)) [.int s0]) (cW (Call M_X12_judge 60 [.ref b, .int a0] w) w) else none) else none)
  ∧ (∀ (lv : Nat) (l : LX) (st : List Value) (x y : Int32) (w : AH), Ex M_L_law lv 1359 l (.int y :: .int x :: st) w = if x = y then Ex M_L_law lv 1472 l st w else Ex M_L_law lv 1362 l st w)
  ∧ (∀ (lv : Nat) (l : LX) (st : List Value) (w : AH), Ex M_L_law lv 1362 l st w = Ex M_L_law lv 1363 l (.int 0 :: st) w)
  ∧ (∀ (lv : Nat) (l : LX) (x : Int32) (w : AH), Ex M_L_law lv 1363 l [.int x] w = if x = 0 ∨ x = 1 then some (some (.int x), w) else none)
  ∧ (∀ (lv : Nat) (st : List Value) (t : LX) (o0 : Option Value) (x : Nat) (w : AH), Ex M_L_law lv 1364 (o0 :: some (.ref x) :: t) st w = Ex M_L_law lv 1365 (o0 :: some (.ref x) :: t) (.ref x :: st) w)
  ∧ (∀ (lv : Nat) (st : List Value) (t : LX) (o0 : Option Value) (w : AH), Ex M_L_law lv 1364 (o0 :: some (.null) :: t) st w = Ex M_L_law lv 1365 (o0 :: some (.null) :: t) (.null :: st) w)
  ∧ (∀ (lv : Nat) (l : LX) (b : Nat) (w : AH), Ex M_L_law lv 1365 l (.ref b :: []) w = if clK (hg w b) = 10 then (if (Call M_X11_image 60 [.ref b] w).isSome = true then Ex M_L_law lv 1368 l (pushR (cV (Call M_X11_image 60 [.ref b] w)) []) (cW (Call M_X11_image 60 [.ref b] w) w) else none) else none)
  ∧ (∀ (lv : Nat) (st : List Value) (t : LX) (o0 o1 : Option Value) (x : Nat) (w : AH), Ex M_L_law lv 1368 (o0 :: o1 :: some (.ref x) :: t) st w = Ex M_L_law lv 1369 (o0 :: o1 :: some (.ref x) :: t) (.ref x :: st) w)
  ∧ (∀ (lv : Nat) (st : List Value) (t : LX) (o0 o1 : Option Value) (w : AH), Ex M_L_law lv 1368 (o0 :: o1 :: some (.null) :: t) st w = Ex M_L_law lv 1369 (o0 :: o1 :: some (.null) :: t) (.null :: st) w)
  ∧ (∀ (lv : Nat) (l : LX) (b : Nat) (s0 : Int32) (w : AH), Ex M_L_law lv 1369 l (.ref b :: [.int s0]) w = if clK (hg w b) = 11 then (if (Call M_X12_image 60 [.ref b] w).isSome = true then Ex M_L_law lv 1372 l (pushR (cV (Call M_X12_image 60 [.ref b] w)) [.int s0]) (cW (Call M_X12_image 60 [.ref b] w) w) else none) else none)
  ∧ (∀ (lv : Nat) (l : LX) (st : List Value) (x y : Int32) (w : AH), Ex M_L_law lv 1372 l (.int y :: .int x :: st) w = if x = y then Ex M_L_law lv 1472 l st w else Ex M_L_law lv 1375 l st w)
  ∧ (∀ (lv : Nat) (l : LX) (st : List Value) (w : AH), Ex M_L_law lv 1375 l st w = Ex M_L_law lv 1376 l (.int 0 :: st) w)
  ∧ (∀ (lv : Nat) (l : LX) (x : Int32) (w : AH), Ex M_L_law lv 1376 l [.int x] w = if x = 0 ∨ x = 1 then some (some (.int x), w) else none)
  ∧ (∀ (lv : Nat) (st : List Value) (t : LX) (o0 : Option Value) (x : Nat) (w : AH), Ex M_L_law lv 1377 (o0 :: some (.ref x) :: t) st w = Ex M_L_law lv 1378 (o0 :: some (.ref x) :: t) (.ref x :: st) w)
  ∧ (∀ (lv : Nat) (st : List Value) (t : LX) (o0 : Option Value) (w : AH), Ex M_L_law lv 1377 (o0 :: some (.null) :: t) st w = Ex M_L_law lv 1378 (o0 :: some (.null) :: t) (.null :: st) w)
  ∧ (∀ (lv : Nat) (l : LX) (b : Nat) (w : AH), Ex M_L_law lv 1378 l (.ref b :: []) w = if clK (hg w b) = 10 then (if (Call M_X11_restore 60 [.ref b] w).isSome = true then Ex M_L_law lv 1381 l (pushR (cV (Call M_X11_restore 60 [.ref b] w)) []) (cW (Call M_X11_restore 60 [.ref b] w) w) else none) else none)
  ∧ (∀ (lv : Nat) (st : List Value) (t : LX) (o0 o1 : Option Value) (x : Nat) (w : AH), Ex M_L_law lv 1381 (o0 :: o1 :: some (.ref x) :: t) st w = Ex M_L_law lv 1382 (o0 :: o1 :: some (.ref x) :: t) (.ref x :: st) w)
  ∧ (∀ (lv : Nat) (st : List Value) (t : LX) (o0 o1 : Option Value) (w : AH), Ex M_L_law lv 1381 (o0 :: o1 :: some (.null) :: t) st w = Ex M_L_law lv 1382 (o0 :: o1 :: some (.null) :: t) (.null :: st) w)
  ∧ (∀ (lv : Nat) (l : LX) (b : Nat) (s0 : Int32) (w : AH), Ex M_L_law lv 1382 l (.ref b :: [.int s0]) w = if clK (hg w b) = 11 then (if (Call M_X12_restore 60 [.ref b] w).isSome = true then Ex M_L_law lv 1385 l (pushR (cV (Call M_X12_restore 60 [.ref b] w)) [.int s0]) (cW (Call M_X12_restore 60 [.ref b] w) w) else none) else none)
  ∧ (∀ (lv : Nat) (l : LX) (st : List Value) (x y : Int32) (w : AH), Ex M_L_law lv 1385 l (.int y :: .int x :: st) w = if x = y then Ex M_L_law lv 1472 l st w else Ex M_L_law lv 1388 l st w)
  ∧ (∀ (lv : Nat) (l : LX) (st : List Value) (w : AH), Ex M_L_law lv 1388 l st w = Ex M_L_law lv 1389 l (.int 0 :: st) w)
  ∧ (∀ (lv : Nat) (l : LX) (x : Int32) (w : AH), Ex M_L_law lv 1389 l [.int x] w = if x = 0 ∨ x = 1 then some (some (.int x), w) else none)
  ∧ (∀ (lv : Nat) (st : List Value) (t : LX) (o0 : Option Value) (x : Nat) (w : AH), Ex M_L_law lv 1390 (o0 :: some (.ref x) :: t) st w = Ex M_L_law lv 1391 (o0 :: some (.ref x) :: t) (.ref x :: st) w)
  ∧ (∀ (lv : Nat) (st : List Value) (t : LX) (o0 : Option Value) (w : AH), Ex M_L_law lv 1390 (o0 :: some (.null) :: t) st w = Ex M_L_law lv 1391 (o0 :: some (.null) :: t) (.null :: st) w)
  ∧ (∀ (lv : Nat) (st : List Value) (t : LX) (x : Nat) (w : AH), Ex M_L_law lv 1391 (some (.ref x) :: t) st w = Ex M_L_law lv 1392 (some (.ref x) :: t) (.ref x :: st) w)
  ∧ (∀ (lv : Nat) (st : List Value) (t : LX) (w : AH), Ex M_L_law lv 1391 (some (.null) :: t) st w = Ex M_L_law lv 1392 (some (.null) :: t) (.null :: st) w)
  ∧ (∀ (lv : Nat) (st : List Value) (t : LX) (o0 o1 o2 : Option Value) (x : Int32) (w : AH), Ex M_L_law lv 1392 (o0 :: o1 :: o2 :: some (.int x) :: t) st w = Ex M_L_law lv 1393 (o0 :: o1 :: o2 :: some (.int x) :: t) (.int x :: st) w)
  ∧ (∀ (lv : Nat) (l : LX) (st : List Value) (w : AH), Ex M_L_law lv 1393 l st w = Ex M_L_law lv 1394 l (.int 1 :: st) w)
  ∧ (∀ (lv : Nat) (l : LX) (st : List Value) (x y : Int32) (w : AH), Ex M_L_law lv 1394 l (.int y :: .int x :: st) w = Ex M_L_law lv 1395 l (.int (x + y) :: st) w)
  ∧ (∀ (lv : Nat) (l : LX) (st : List Value) (a : Nat) (i : Int32) (w : AH), Ex M_L_law lv 1395 l (.int i :: .ref a :: st) w = if (aI (hg w a) i).isSome = true then Ex M_L_law lv 1396 l (.int (vI (aI (hg w a) i)) :: st) w else none)
  ∧ (∀ (lv : Nat) (l : LX) (b : Nat) (a0 : Int32) (w : AH), Ex M_L_law lv 1396 l (.int a0 :: .ref b :: []) w = if clK (hg w b) = 10 then (if (Call M_X11_tell 60 [.ref b, .int a0] w).isSome = true then Ex M_L_law lv 1399 l (pushR (cV (Call M_X11_tell 60 [.ref b, .int a0] w)) []) (cW (Call M_X11_tell 60 [.ref b, .int a0] w) w) else none) else none)
  ∧ (∀ (lv : Nat) (st : List Value) (t : LX) (o0 o1 : Option Value) (x : Nat) (w : AH), Ex M_L_law lv 1399 (o0 :: o1 :: some (.ref x) :: t) st w = Ex M_L_law lv 1400 (o0 :: o1 :: some (.ref x) :: t) (.ref x :: st) w)
  ∧ (∀ (lv : Nat) (st : List Value) (t : LX) (o0 o1 : Option Value) (w : AH), Ex M_L_law lv 1399 (o0 :: o1 :: some (.null) :: t) st w = Ex M_L_law lv 1400 (o0 :: o1 :: some (.null) :: t) (.null :: st) w)
  ∧ (∀ (lv : Nat) (st : List Value) (t : LX) (x : Nat) (w : AH), Ex M_L_law lv 1400 (some (.ref x) :: t) st w = Ex M_L_law lv 1401 (some (.ref x) :: t) (.ref x :: st) w)
  ∧ (∀ (lv : Nat) (st : List Value) (t : LX) (w : AH), Ex M_L_law lv 1400 (some (.null) :: t) st w = Ex M_L_law lv 1401 (some (.null) :: t) (.null :: st) w)
  ∧ (∀ (lv : Nat) (st : List Value) (t : LX) (o0 o1 o2 : Option Value) (x : Int32) (w : AH), Ex M_L_law lv 1401 (o0 :: o1 :: o2 :: some (.int x) :: t) st w = Ex M_L_law lv 1402 (o0 :: o1 :: o2 :: some (.int x) :: t) (.int x :: st) w)
  ∧ (∀ (lv : Nat) (l : LX) (st : List Value) (w : AH), Ex M_L_law lv 1402 l st w = Ex M_L_law lv 1403 l (.int 1 :: st) w)
  ∧ (∀ (lv : Nat) (l : LX) (st : List Value) (x y : Int32) (w : AH), Ex M_L_law lv 1403 l (.int y :: .int x :: st) w = Ex M_L_law lv 1404 l (.int (x + y) :: st) w)
  ∧ (∀ (lv : Nat) (l : LX) (st : List Value) (a : Nat) (i : Int32) (w : AH), Ex M_L_law lv 1404 l (.int i :: .ref a :: st) w = if (aI (hg w a) i).isSome = true then Ex M_L_law lv 1405 l (.int (vI (aI (hg w a) i)) :: st) w else none)
  ∧ (∀ (lv : Nat) (l : LX) (b : Nat) (a0 : Int32) (s0 : Int32) (w : AH), Ex M_L_law lv 1405 l (.int a0 :: .ref b :: [.int s0]) w = if clK (hg w b) = 11 then (if (Call M_X12_tell 60 [.ref b, .int a0] w).isSome = true then Ex M_L_law lv 1408 l (pushR (cV (Call M_X12_tell 60 [.ref b, .int a0] w)) [.int s0]) (cW (Call M_X12_tell 60 [.ref b, .int a0] w) w) else none) else none)
  ∧ (∀ (lv : Nat) (l : LX) (st : List Value) (x y : Int32) (w : AH), Ex M_L_law lv 1408 l (.int y :: .int x :: st) w = if x = y then Ex M_L_law lv 1472 l st w else Ex M_L_law lv 1411 l st w)
  ∧ (∀ (lv : Nat) (l : LX) (st : List Value) (w : AH), Ex M_L_law lv 1411 l st w = Ex M_L_law lv 1412 l (.int 0 :: st) w)
  ∧ (∀ (lv : Nat) (l : LX) (x : Int32) (w : AH), Ex M_L_law lv 1412 l [.int x] w = if x = 0 ∨ x = 1 then some (some (.int x), w) else none)
  ∧ (∀ (lv : Nat) (st : List Value) (t : LX) (o0 : Option Value) (x : Nat) (w : AH), Ex M_L_law lv 1413 (o0 :: some (.ref x) :: t) st w = Ex M_L_law lv 1414 (o0 :: some (.ref x) :: t) (.ref x :: st) w)
  ∧ (∀ (lv : Nat) (st : List Value) (t : LX) (o0 : Option Value) (w : AH), Ex M_L_law lv 1413 (o0 :: some (.null) :: t) st w = Ex M_L_law lv 1414 (o0 :: some (.null) :: t) (.null :: st) w)
  ∧ (∀ (lv : Nat) (l : LX) (b : Nat) (w : AH), Ex M_L_law lv 1414 l (.ref b :: []) w = if clK (hg w b) = 10 then (if (Call M_X11_check 60 [.ref b] w).isSome = true then Ex M_L_law lv 1417 l (pushR (cV (Call M_X11_check 60 [.ref b] w)) []) (cW (Call M_X11_check 60 [.ref b] w) w) else none) else none)
  ∧ (∀ (lv : Nat) (st : List Value) (t : LX) (o0 o1 : Option Value) (x : Nat) (w : AH), Ex M_L_law lv 1417 (o0 :: o1 :: some (.ref x) :: t) st w = Ex M_L_law lv 1418 (o0 :: o1 :: some (.ref x) :: t) (.ref x :: st) w)
  ∧ (∀ (lv : Nat) (st : List Value) (t : LX) (o0 o1 : Option Value) (w : AH), Ex M_L_law lv 1417 (o0 :: o1 :: some (.null) :: t) st w = Ex M_L_law lv 1418 (o0 :: o1 :: some (.null) :: t) (.null :: st) w)
  ∧ (∀ (lv : Nat) (l : LX) (b : Nat) (s0 : Int32) (w : AH), Ex M_L_law lv 1418 l (.ref b :: [.int s0]) w = if clK (hg w b) = 11 then (if (Call M_X12_check 60 [.ref b] w).isSome = true then Ex M_L_law lv 1421 l (pushR (cV (Call M_X12_check 60 [.ref b] w)) [.int s0]) (cW (Call M_X12_check 60 [.ref b] w) w) else none) else none) :=
  ⟨(fun lv l st x y w => Ex_A (i := .iadd) (n := 1) (by decide +kernel) rfl rfl),
   (fun lv l st a i w => Ex_ial (by decide +kernel : decode M_L_law.2.1 1346 = .ok (.iaload, 1)) rfl),
   (fun lv l b a0 w => Ex_callV (by decide +kernel : decode M_L_law.2.1 1347 = .ok (.invokevirtual 162, 3)) rfl (by rfl : resM (mCn M_L_law) 162 = some (2, M_X11_judge)) rfl (by rfl) (Nat.le_of_ble_eq_true rfl) (by decide +kernel) (sLv_lt (by decide +kernel))),
   (fun lv st t o0 o1 x w => Ex_M (i := .aload_n 2) (n := 1) (by decide +kernel) rfl rfl rfl),
   (fun lv st t o0 o1 w => Ex_M (i := .aload_n 2) (n := 1) (by decide +kernel) rfl rfl rfl),
   (fun lv st t x w => Ex_M (i := .aload_n 0) (n := 1) (by decide +kernel) rfl rfl rfl),
   (fun lv st t w => Ex_M (i := .aload_n 0) (n := 1) (by decide +kernel) rfl rfl rfl),
   (fun lv st t o0 o1 o2 x w => Ex_M (i := .iload_n 3) (n := 1) (by decide +kernel) rfl rfl rfl),
   (fun lv l st w => Ex_A (i := .iconst 1) (n := 1) (by decide +kernel) rfl rfl),
   (fun lv l st x y w => Ex_A (i := .iadd) (n := 1) (by decide +kernel) rfl rfl),
   (fun lv l st a i w => Ex_ial (by decide +kernel : decode M_L_law.2.1 1355 = .ok (.iaload, 1)) rfl),
   (fun lv l b a0 s0 w => Ex_callV (by decide +kernel : decode M_L_law.2.1 1356 = .ok (.invokevirtual 165, 3)) rfl (by rfl : resM (mCn M_L_law) 165 = some (2, M_X12_judge)) rfl (by rfl) (Nat.le_of_ble_eq_true rfl) (by decide +kernel) (sLv_lt (by decide +kernel))),
   (fun lv l st x y w => Ex_icmp_eq (by decide +kernel : decode M_L_law.2.1 1359 = .ok (.if_icmp .eq 113, 3)) rfl rfl),
   (fun lv l st w => Ex_A (i := .iconst 0) (n := 1) (by decide +kernel) rfl rfl),
   (fun lv l x w => Ex_zret (by decide +kernel : decode M_L_law.2.1 1363 = .ok (.ireturn, 1)) rfl),
   (fun lv st t o0 x w => Ex_M (i := .aload_n 1) (n := 1) (by decide +kernel) rfl rfl rfl),
   (fun lv st t o0 w => Ex_M (i := .aload_n 1) (n := 1) (by decide +kernel) rfl rfl rfl),
   (fun lv l b w => Ex_callV (by decide +kernel : decode M_L_law.2.1 1365 = .ok (.invokevirtual 166, 3)) rfl (by rfl : resM (mCn M_L_law) 166 = some (2, M_X11_image)) rfl (by rfl) (Nat.le_of_ble_eq_true rfl) (by decide +kernel) (sLv_lt (by decide +kernel))),
   (fun lv st t o0 o1 x w => Ex_M (i := .aload_n 2) (n := 1) (by decide +kernel) rfl rfl rfl),
   (fun lv st t o0 o1 w => Ex_M (i := .aload_n 2) (n := 1) (by decide +kernel) rfl rfl rfl),
   (fun lv l b s0 w => Ex_callV (by decide +kernel : decode M_L_law.2.1 1369 = .ok (.invokevirtual 169, 3)) rfl (by rfl : resM (mCn M_L_law) 169 = some (2, M_X12_image)) rfl (by rfl) (Nat.le_of_ble_eq_true rfl) (by decide +kernel) (sLv_lt (by decide +kernel))),
   (fun lv l st x y w => Ex_icmp_eq (by decide +kernel : decode M_L_law.2.1 1372 = .ok (.if_icmp .eq 100, 3)) rfl rfl),
   (fun lv l st w => Ex_A (i := .iconst 0) (n := 1) (by decide +kernel) rfl rfl),
   (fun lv l x w => Ex_zret (by decide +kernel : decode M_L_law.2.1 1376 = .ok (.ireturn, 1)) rfl),
   (fun lv st t o0 x w => Ex_M (i := .aload_n 1) (n := 1) (by decide +kernel) rfl rfl rfl),
   (fun lv st t o0 w => Ex_M (i := .aload_n 1) (n := 1) (by decide +kernel) rfl rfl rfl),
   (fun lv l b w => Ex_callV (by decide +kernel : decode M_L_law.2.1 1378 = .ok (.invokevirtual 170, 3)) rfl (by rfl : resM (mCn M_L_law) 170 = some (2, M_X11_restore)) rfl (by rfl) (Nat.le_of_ble_eq_true rfl) (by decide +kernel) (sLv_lt (by decide +kernel))),
   (fun lv st t o0 o1 x w => Ex_M (i := .aload_n 2) (n := 1) (by decide +kernel) rfl rfl rfl),
   (fun lv st t o0 o1 w => Ex_M (i := .aload_n 2) (n := 1) (by decide +kernel) rfl rfl rfl),
   (fun lv l b s0 w => Ex_callV (by decide +kernel : decode M_L_law.2.1 1382 = .ok (.invokevirtual 173, 3)) rfl (by rfl : resM (mCn M_L_law) 173 = some (2, M_X12_restore)) rfl (by rfl) (Nat.le_of_ble_eq_true rfl) (by decide +kernel) (sLv_lt (by decide +kernel))),
   (fun lv l st x y w => Ex_icmp_eq (by decide +kernel : decode M_L_law.2.1 1385 = .ok (.if_icmp .eq 87, 3)) rfl rfl),
   (fun lv l st w => Ex_A (i := .iconst 0) (n := 1) (by decide +kernel) rfl rfl),
   (fun lv l x w => Ex_zret (by decide +kernel : decode M_L_law.2.1 1389 = .ok (.ireturn, 1)) rfl),
   (fun lv st t o0 x w => Ex_M (i := .aload_n 1) (n := 1) (by decide +kernel) rfl rfl rfl),
   (fun lv st t o0 w => Ex_M (i := .aload_n 1) (n := 1) (by decide +kernel) rfl rfl rfl),
   (fun lv st t x w => Ex_M (i := .aload_n 0) (n := 1) (by decide +kernel) rfl rfl rfl),
   (fun lv st t w => Ex_M (i := .aload_n 0) (n := 1) (by decide +kernel) rfl rfl rfl),
   (fun lv st t o0 o1 o2 x w => Ex_M (i := .iload_n 3) (n := 1) (by decide +kernel) rfl rfl rfl),
   (fun lv l st w => Ex_A (i := .iconst 1) (n := 1) (by decide +kernel) rfl rfl),
   (fun lv l st x y w => Ex_A (i := .iadd) (n := 1) (by decide +kernel) rfl rfl),
   (fun lv l st a i w => Ex_ial (by decide +kernel : decode M_L_law.2.1 1395 = .ok (.iaload, 1)) rfl),
   (fun lv l b a0 w => Ex_callV (by decide +kernel : decode M_L_law.2.1 1396 = .ok (.invokevirtual 174, 3)) rfl (by rfl : resM (mCn M_L_law) 174 = some (2, M_X11_tell)) rfl (by rfl) (Nat.le_of_ble_eq_true rfl) (by decide +kernel) (sLv_lt (by decide +kernel))),
   (fun lv st t o0 o1 x w => Ex_M (i := .aload_n 2) (n := 1) (by decide +kernel) rfl rfl rfl),
   (fun lv st t o0 o1 w => Ex_M (i := .aload_n 2) (n := 1) (by decide +kernel) rfl rfl rfl),
   (fun lv st t x w => Ex_M (i := .aload_n 0) (n := 1) (by decide +kernel) rfl rfl rfl),
   (fun lv st t w => Ex_M (i := .aload_n 0) (n := 1) (by decide +kernel) rfl rfl rfl),
   (fun lv st t o0 o1 o2 x w => Ex_M (i := .iload_n 3) (n := 1) (by decide +kernel) rfl rfl rfl),
   (fun lv l st w => Ex_A (i := .iconst 1) (n := 1) (by decide +kernel) rfl rfl),
   (fun lv l st x y w => Ex_A (i := .iadd) (n := 1) (by decide +kernel) rfl rfl),
   (fun lv l st a i w => Ex_ial (by decide +kernel : decode M_L_law.2.1 1404 = .ok (.iaload, 1)) rfl),
   (fun lv l b a0 s0 w => Ex_callV (by decide +kernel : decode M_L_law.2.1 1405 = .ok (.invokevirtual 177, 3)) rfl (by rfl : resM (mCn M_L_law) 177 = some (2, M_X12_tell)) rfl (by rfl) (Nat.le_of_ble_eq_true rfl) (by decide +kernel) (sLv_lt (by decide +kernel))),
   (fun lv l st x y w => Ex_icmp_eq (by decide +kernel : decode M_L_law.2.1 1408 = .ok (.if_icmp .eq 64, 3)) rfl rfl),
   (fun lv l st w => Ex_A (i := .iconst 0) (n := 1) (by decide +kernel) rfl rfl),
   (fun lv l x w => Ex_zret (by decide +kernel : decode M_L_law.2.1 1412 = .ok (.ireturn, 1)) rfl),
   (fun lv st t o0 x w => Ex_M (i := .aload_n 1) (n := 1) (by decide +kernel) rfl rfl rfl),
   (fun lv st t o0 w => Ex_M (i := .aload_n 1) (n := 1) (by decide +kernel) rfl rfl rfl),
   (fun lv l b w => Ex_callV (by decide +kernel : decode M_L_law.2.1 1414 = .ok (.invokevirtual 178, 3)) rfl (by rfl : resM (mCn M_L_law) 178 = some (2, M_X11_check)) rfl (by rfl) (Nat.le_of_ble_eq_true rfl) (by decide +kernel) (sLv_lt (by decide +kernel))),
   (fun lv st t o0 o1 x w => Ex_M (i := .aload_n 2) (n := 1) (by decide +kernel) rfl rfl rfl),
   (fun lv st t o0 o1 w => Ex_M (i := .aload_n 2) (n := 1) (by decide +kernel) rfl rfl rfl),
   (fun lv l b s0 w => Ex_callV (by decide +kernel : decode M_L_law.2.1 1418 = .ok (.invokevirtual 181, 3)) rfl (by rfl : resM (mCn M_L_law) 181 = some (2, M_X12_check)) rfl (by rfl) (Nat.le_of_ble_eq_true rfl) (by decide +kernel) (sLv_lt (by decide +kernel)))⟩
set_option maxRecDepth 20000 in
set_option maxHeartbeats 4000000 in
theorem R_L_law_p20 : (∀ (lv : Nat) (l : LX) (st : List Value) (x y : Int32) (w : AH), Ex M_L_law lv 1421 l (.int y :: .int x :: st) w = if x = y then Ex M_L_law lv 1472 l st w else Ex M_L_law lv 1424 l st w)
  ∧ (∀ (lv : Nat) (l : LX) (st : List Value) (w : AH), Ex M_L_law lv 1424 l st w = Ex M_L_law lv 1425 l (.int 0 :: st) w)
  ∧ (∀ (lv : Nat) (l : LX) (x : Int32) (w : AH), Ex M_L_law lv 1425 l [.int x] w = if x = 0 ∨ x = 1 then some (some (.int x), w) else none)
  ∧ (∀ (lv : Nat) (st : List Value) (t : LX) (o0 : Option Value) (x : Nat) (w : AH), Ex M_L_law lv 1426 (o0 :: some (.ref x) :: t) st w = Ex M_L_law lv 1427 (o0 :: some (.ref x) :: t) (.ref x :: st) w)
  ∧ (∀ (lv : Nat) (st : List Value) (t : LX) (o0 : Option Value) (w : AH), Ex M_L_law lv 1426 (o0 :: some (.null) :: t) st w = Ex M_L_law lv 1427 (o0 :: some (.null) :: t) (.null :: st) w)
  ∧ (∀ (lv : Nat) (st : List Value) (t : LX) (x : Nat) (w : AH), Ex M_L_law lv 1427 (some (.ref x) :: t) st w = Ex M_L_law lv 1428 (some (.ref x) :: t) (.ref x :: st) w)
  ∧ (∀ (lv : Nat) (st : List Value) (t : LX) (w : AH), Ex M_L_law lv 1427 (some (.null) :: t) st w = Ex M_L_law lv 1428 (some (.null) :: t) (.null :: st) w)
  ∧ (∀ (lv : Nat) (st : List Value) (t : LX) (o0 o1 o2 : Option Value) (x : Int32) (w : AH), Ex M_L_law lv 1428 (o0 :: o1 :: o2 :: some (.int x) :: t) st w = Ex M_L_law lv 1429 (o0 :: o1 :: o2 :: some (.int x) :: t) (.int x :: st) w)
  ∧ (∀ (lv : Nat) (l : LX) (st : List Value) (w : AH), Ex M_L_law lv 1429 l st w = Ex M_L_law lv 1430 l (.int 1 :: st) w)
  ∧ (∀ (lv : Nat) (l : LX) (st : List Value) (x y : Int32) (w : AH), Ex M_L_law lv 1430 l (.int y :: .int x :: st) w = Ex M_L_law lv 1431 l (.int (x + y) :: st) w)
  ∧ (∀ (lv : Nat) (l : LX) (st : List Value) (a : Nat) (i : Int32) (w : AH), Ex M_L_law lv 1431 l (.int i :: .ref a :: st) w = if (aI (hg w a) i).isSome = true then Ex M_L_law lv 1432 l (.int (vI (aI (hg w a) i)) :: st) w else none)
  ∧ (∀ (lv : Nat) (l : LX) (b : Nat) (a0 : Int32) (w : AH), Ex M_L_law lv 1432 l (.int a0 :: .ref b :: []) w = if clK (hg w b) = 10 then (if (Call M_X11_count 60 [.ref b, .int a0] w).isSome = true then Ex M_L_law lv 1435 l (pushR (cV (Call M_X11_count 60 [.ref b, .int a0] w)) []) (cW (Call M_X11_count 60 [.ref b, .int a0] w) w) else none) else none)
  ∧ (∀ (lv : Nat) (st : List Value) (t : LX) (o0 o1 : Option Value) (x : Nat) (w : AH), Ex M_L_law lv 1435 (o0 :: o1 :: some (.ref x) :: t) st w = Ex M_L_law lv 1436 (o0 :: o1 :: some (.ref x) :: t) (.ref x :: st) w)
  ∧ (∀ (lv : Nat) (st : List Value) (t : LX) (o0 o1 : Option Value) (w : AH), Ex M_L_law lv 1435 (o0 :: o1 :: some (.null) :: t) st w = Ex M_L_law lv 1436 (o0 :: o1 :: some (.null) :: t) (.null :: st) w)
  ∧ (∀ (lv : Nat) (st : List Value) (t : LX) (x : Nat) (w : AH), Ex M_L_law lv 1436 (some (.ref x) :: t) st w = Ex M_L_law lv 1437 (some (.ref x) :: t) (.ref x :: st) w)
  ∧ (∀ (lv : Nat) (st : List Value) (t : LX) (w : AH), Ex M_L_law lv 1436 (some (.null) :: t) st w = Ex M_L_law lv 1437 (some (.null) :: t) (.null :: st) w)
  ∧ (∀ (lv : Nat) (st : List Value) (t : LX) (o0 o1 o2 : Option Value) (x : Int32) (w : AH), Ex M_L_law lv 1437 (o0 :: o1 :: o2 :: some (.int x) :: t) st w = Ex M_L_law lv 1438 (o0 :: o1 :: o2 :: some (.int x) :: t) (.int x :: st) w)
  ∧ (∀ (lv : Nat) (l : LX) (st : List Value) (w : AH), Ex M_L_law lv 1438 l st w = Ex M_L_law lv 1439 l (.int 1 :: st) w)
  ∧ (∀ (lv : Nat) (l : LX) (st : List Value) (x y : Int32) (w : AH), Ex M_L_law lv 1439 l (.int y :: .int x :: st) w = Ex M_L_law lv 1440 l (.int (x + y) :: st) w)
  ∧ (∀ (lv : Nat) (l : LX) (st : List Value) (a : Nat) (i : Int32) (w : AH), Ex M_L_law lv 1440 l (.int i :: .ref a :: st) w = if (aI (hg w a) i).isSome = true then Ex M_L_law lv 1441 l (.int (vI (aI (hg w a) i)) :: st) w else none)
  ∧ (∀ (lv : Nat) (l : LX) (b : Nat) (a0 : Int32) (s0 : Int32) (w : AH), Ex M_L_law lv 1441 l (.int a0 :: .ref b :: [.int s0]) w = if clK (hg w b) = 11 then (if (Call M_X12_count 60 [.ref b, .int a0] w).isSome = true then Ex M_L_law lv 1444 l (pushR (cV (Call M_X12_count 60 [.ref b, .int a0] w)) [.int s0]) (cW (Call M_X12_count 60 [.ref b, .int a0] w) w) else none) else none)
  ∧ (∀ (lv : Nat) (l : LX) (st : List Value) (x y : Int32) (w : AH), Ex M_L_law lv 1444 l (.int y :: .int x :: st) w = if x = y then Ex M_L_law lv 1472 l st w else Ex M_L_law lv 1447 l st w)
  ∧ (∀ (lv : Nat) (l : LX) (st : List Value) (w : AH), Ex M_L_law lv 1447 l st w = Ex M_L_law lv 1448 l (.int 0 :: st) w)
  ∧ (∀ (lv : Nat) (l : LX) (x : Int32) (w : AH), Ex M_L_law lv 1448 l [.int x] w = if x = 0 ∨ x = 1 then some (some (.int x), w) else none)
  ∧ (∀ (lv : Nat) (st : List Value) (t : LX) (o0 : Option Value) (x : Nat) (w : AH), Ex M_L_law lv 1449 (o0 :: some (.ref x) :: t) st w = Ex M_L_law lv 1450 (o0 :: some (.ref x) :: t) (.ref x :: st) w)
  ∧ (∀ (lv : Nat) (st : List Value) (t : LX) (o0 : Option Value) (w : AH), Ex M_L_law lv 1449 (o0 :: some (.null) :: t) st w = Ex M_L_law lv 1450 (o0 :: some (.null) :: t) (.null :: st) w)
  ∧ (∀ (lv : Nat) (st : List Value) (t : LX) (x : Nat) (w : AH), Ex M_L_law lv 1450 (some (.ref x) :: t) st w = Ex M_L_law lv 1451 (some (.ref x) :: t) (.ref x :: st) w)
  ∧ (∀ (lv : Nat) (st : List Value) (t : LX) (w : AH), Ex M_L_law lv 1450 (some (.null) :: t) st w = Ex M_L_law lv 1451 (some (.null) :: t) (.null :: st) w)
  ∧ (∀ (lv : Nat) (st : List Value) (t : LX) (o0 o1 o2 : Option Value) (x : Int32) (w : AH), Ex M_L_law lv 1451 (o0 :: o1 :: o2 :: some (.int x) :: t) st w = Ex M_L_law lv 1452 (o0 :: o1 :: o2 :: some (.int x) :: t) (.int x :: st) w)
  ∧ (∀ (lv : Nat) (l : LX) (st : List Value) (w : AH), Ex M_L_law lv 1452 l st w = Ex M_L_law lv 1453 l (.int 1 :: st) w)
  ∧ (∀ (lv : Nat) (l : LX) (st : List Value) (x y : Int32) (w : AH), Ex M_L_law lv 1453 l (.int y :: .int x :: st) w = Ex M_L_law lv 1454 l (.int (x + y) :: st) w)
  ∧ (∀ (lv : Nat) (l : LX) (st : List Value) (a : Nat) (i : Int32) (w : AH), Ex M_L_law lv 1454 l (.int i :: .ref a :: st) w = if (aI (hg w a) i).isSome = true then Ex M_L_law lv 1455 l (.int (vI (aI (hg w a) i)) :: st) w else none)
  ∧ (∀ (lv : Nat) (l : LX) (b : Nat) (a0 : Int32) (w : AH), Ex M_L_law lv 1455 l (.int a0 :: .ref b :: []) w = if clK (hg w b) = 10 then (if (Call M_X11_told 60 [.ref b, .int a0] w).isSome = true then Ex M_L_law lv 1458 l (pushR (cV (Call M_X11_told 60 [.ref b, .int a0] w)) []) (cW (Call M_X11_told 60 [.ref b, .int a0] w) w) else none) else none)
  ∧ (∀ (lv : Nat) (st : List Value) (t : LX) (o0 o1 : Option Value) (x : Nat) (w : AH), Ex M_L_law lv 1458 (o0 :: o1 :: some (.ref x) :: t) st w = Ex M_L_law lv 1459 (o0 :: o1 :: some (.ref x) :: t) (.ref x :: st) w)
  ∧ (∀ (lv : Nat) (st : List Value) (t : LX) (o0 o1 : Option Value) (w : AH), Ex M_L_law lv 1458 (o0 :: o1 :: some (.null) :: t) st w = Ex M_L_law lv 1459 (o0 :: o1 :: some (.null) :: t) (.null :: st) w)
  ∧ (∀ (lv : Nat) (st : List Value) (t : LX) (x : Nat) (w : AH), Ex M_L_law lv 1459 (some (.ref x) :: t) st w = Ex M_L_law lv 1460 (some (.ref x) :: t) (.ref x :: st) w)
  ∧ (∀ (lv : Nat) (st : List Value) (t : LX) (w : AH), Ex M_L_law lv 1459 (some (.null) :: t) st w = Ex M_L_law lv 1460 (some (.null) :: t) (.null :: st) w)
  ∧ (∀ (lv : Nat) (st : List Value) (t : LX) (o0 o1 o2 : Option Value) (x : Int32) (w : AH), Ex M_L_law lv 1460 (o0 :: o1 :: o2 :: some (.int x) :: t) st w = Ex M_L_law lv 1461 (o0 :: o1 :: o2 :: some (.int x) :: t) (.int x :: st) w)
  ∧ (∀ (lv : Nat) (l : LX) (st : List Value) (w : AH), Ex M_L_law lv 1461 l st w = Ex M_L_law lv 1462 l (.int 1 :: st) w)
  ∧ (∀ (lv : Nat) (l : LX) (st : List Value) (x y : Int32) (w : AH), Ex M_L_law lv 1462 l (.int y :: .int x :: st) w = Ex M_L_law lv 1463 l (.int (x + y) :: st) w)
  ∧ (∀ (lv : Nat) (l : LX) (st : List Value) (a : Nat) (i : Int32) (w : AH), Ex M_L_law lv 1463 l (.int i :: .ref a :: st) w = if (aI (hg w a) i).isSome = true then Ex M_L_law lv 1464 l (.int (vI (aI (hg w a) i)) :: st) w else none)
  ∧ (∀ (lv : Nat) (l : LX) (b : Nat) (a0 : Int32) (s0 : Int32) (w : AH), Ex M_L_law lv 1464 l (.int a0 :: .ref b :: [.int s0]) w = if clK (hg w b) = 11 then (if (Call M_X12_told 60 [.ref b, .int a0] w).isSome = true then Ex M_L_law lv 1467 l (pushR (cV (Call M_X12_told 60 [.ref b, .int a0] w)) [.int s0]) (cW (Call M_X12_told 60 [.ref b, .int a0] w) w) else none) else none)
  ∧ (∀ (lv : Nat) (l : LX) (st : List Value) (x y : Int32) (w : AH), Ex M_L_law lv 1467 l (.int y :: .int x :: st) w = if x = y then Ex M_L_law lv 1472 l st w else Ex M_L_law lv 1470 l st w)
  ∧ (∀ (lv : Nat) (l : LX) (st : List Value) (w : AH), Ex M_L_law lv 1470 l st w = Ex M_L_law lv 1471 l (.int 0 :: st) w)
  ∧ (∀ (lv : Nat) (l : LX) (x : Int32) (w : AH), Ex M_L_law lv 1471 l [.int x] w = if x = 0 ∨ x = 1 then some (some (.int x), w) else none)
  ∧ (∀ (lv : Nat) (st : List Value) (t : LX) (o0 o1 o2 : Option Value) (x : Int32) (w : AH), Ex M_L_law lv 1472 (o0 :: o1 :: o2 :: some (.int x) :: t) st w = Ex M_L_law lv 1475 (ls1 (o0 :: o1 :: o2 :: some (.int x) :: t) 3 (.int (x + 6))) st w)
  ∧ (∀ (lv : Nat) (l : LX) (st : List Value) (w : AH), Ex M_L_law lv 1475 l st w = Ex M_L_law lv 18 l st w)
  ∧ (∀ (lv : Nat) (l : LX) (st : List Value) (w : AH), Ex M_L_law lv 1478 l st w = Ex M_L_law lv 1479 l (.int 1 :: st) w)
  ∧ (∀ (lv : Nat) (l : LX) (x : Int32) (w : AH), Ex M_L_law lv 1479 l [.int x] w = if x = 0 ∨ x = 1 then some (some (.int x), w) else none) :=
  ⟨(fun lv l st x y w => Ex_icmp_eq (by decide +kernel : decode M_L_law.2.1 1421 = .ok (.if_icmp .eq 51, 3)) rfl rfl),
   (fun lv l st w => Ex_A (i := .iconst 0) (n := 1) (by decide +kernel) rfl rfl),
   (fun lv l x w => Ex_zret (by decide +kernel : decode M_L_law.2.1 1425 = .ok (.ireturn, 1)) rfl),
   (fun lv st t o0 x w => Ex_M (i := .aload_n 1) (n := 1) (by decide +kernel) rfl rfl rfl),
   (fun lv st t o0 w => Ex_M (i := .aload_n 1) (n := 1) (by decide +kernel) rfl rfl rfl),
   (fun lv st t x w => Ex_M (i := .aload_n 0) (n := 1) (by decide +kernel) rfl rfl rfl),
   (fun lv st t w => Ex_M (i := .aload_n 0) (n := 1) (by decide +kernel) rfl rfl rfl),
   (fun lv st t o0 o1 o2 x w => Ex_M (i := .iload_n 3) (n := 1) (by decide +kernel) rfl rfl rfl),
   (fun lv l st w => Ex_A (i := .iconst 1) (n := 1) (by decide +kernel) rfl rfl),
   (fun lv l st x y w => Ex_A (i := .iadd) (n := 1) (by decide +kernel) rfl rfl),
   (fun lv l st a i w => Ex_ial (by decide +kernel : decode M_L_law.2.1 1431 = .ok (.iaload, 1)) rfl),
   (fun lv l b a0 w => Ex_callV (by decide +kernel : decode M_L_law.2.1 1432 = .ok (.invokevirtual 182, 3)) rfl (by rfl : resM (mCn M_L_law) 182 = some (2, M_X11_count)) rfl (by rfl) (Nat.le_of_ble_eq_true rfl) (by decide +kernel) (sLv_lt (by decide +kernel))),
   (fun lv st t o0 o1 x w => Ex_M (i := .aload_n 2) (n := 1) (by decide +kernel) rfl rfl rfl),
   (fun lv st t o0 o1 w => Ex_M (i := .aload_n 2) (n := 1) (by decide +kernel) rfl rfl rfl),
   (fun lv st t x w => Ex_M (i := .aload_n 0) (n := 1) (by decide +kernel) rfl rfl rfl),
   (fun lv st t w => Ex_M (i := .aload_n 0) (n := 1) (by decide +kernel) rfl rfl rfl),
   (fun lv st t o0 o1 o2 x w => Ex_M (i := .iload_n 3) (n := 1) (by decide +kernel) rfl rfl rfl),
   (fun lv l st w => Ex_A (i := .iconst 1) (n := 1) (by decide +kernel) rfl rfl),
   (fun lv l st x y w => Ex_A (i := .iadd) (n := 1) (by decide +kernel) rfl rfl),
   (fun lv l st a i w => Ex_ial (by decide +kernel : decode M_L_law.2.1 1440 = .ok (.iaload, 1)) rfl),
   (fun lv l b a0 s0 w => Ex_callV (by decide +kernel : decode M_L_law.2.1 1441 = .ok (.invokevirtual 185, 3)) rfl (by rfl : resM (mCn M_L_law) 185 = some (2, M_X12_count)) rfl (by rfl) (Nat.le_of_ble_eq_true rfl) (by decide +kernel) (sLv_lt (by decide +kernel))),
   (fun lv l st x y w => Ex_icmp_eq (by decide +kernel : decode M_L_law.2.1 1444 = .ok (.if_icmp .eq 28, 3)) rfl rfl),
   (fun lv l st w => Ex_A (i := .iconst 0) (n := 1) (by decide +kernel) rfl rfl),
   (fun lv l x w => Ex_zret (by decide +kernel : decode M_L_law.2.1 1448 = .ok (.ireturn, 1)) rfl),
   (fun lv st t o0 x w => Ex_M (i := .aload_n 1) (n := 1) (by decide +kernel) rfl rfl rfl),
   (fun lv st t o0 w => Ex_M (i := .aload_n 1) (n := 1) (by decide +kernel) rfl rfl rfl),
   (fun lv st t x w => Ex_M (i := .aload_n 0) (n := 1) (by decide +kernel) rfl rfl rfl),
   (fun lv st t w => Ex_M (i := .aload_n 0) (n := 1) (by decide +kernel) rfl rfl rfl),
   (fun lv st t o0 o1 o2 x w => Ex_M (i := .iload_n 3) (n := 1) (by decide +kernel) rfl rfl rfl),
   (fun lv l st w => Ex_A (i := .iconst 1) (n := 1) (by decide +kernel) rfl rfl),
   (fun lv l st x y w => Ex_A (i := .iadd) (n := 1) (by decide +kernel) rfl rfl),
   (fun lv l st a i w => Ex_ial (by decide +kernel : decode M_L_law.2.1 1454 = .ok (.iaload, 1)) rfl),
   (fun lv l b a0 w => Ex_callV (by decide +kernel : decode M_L_law.2.1 1455 = .ok (.invokevirtual 186, 3)) rfl (by rfl : resM (mCn M_L_law) 186 = some (2, M_X11_told)) rfl (by rfl) (Nat.le_of_ble_eq_true rfl) (by decide +kernel) (sLv_lt (by decide +kernel))),
   (fun lv st t o0 o1 x w => Ex_M (i := .aload_n 2) (n := 1) (by decide +kernel) rfl rfl rfl),
   (fun lv st t o0 o1 w => Ex_M (i := .aload_n 2) (n := 1) (by decide +kernel) rfl rfl rfl),
   (fun lv st t x w => Ex_M (i := .aload_n 0) (n := 1) (by decide +kernel) rfl rfl rfl),
   (fun lv st t w => Ex_M (i := .aload_n 0) (n := 1) (by decide +kernel) rfl rfl rfl),
   (fun lv st t o0 o1 o2 x w => Ex_M (i := .iload_n 3) (n := 1) (by decide +kernel) rfl rfl rfl),
   (fun lv l st w => Ex_A (i := .iconst 1) (n := 1) (by decide +kernel) rfl rfl),
   (fun lv l st x y w => Ex_A (i := .iadd) (n := 1) (by decide +kernel) rfl rfl),
   (fun lv l st a i w => Ex_ial (by decide +kernel : decode M_L_law.2.1 1463 = .ok (.iaload, 1)) rfl),
   (fun lv l b a0 s0 w => Ex_callV (by decide +kernel : decode M_L_law.2.1 1464 = .ok (.invokevirtual 189, 3)) rfl (by rfl : resM (mCn M_L_law) 189 = some (2, M_X12_told)) rfl (by rfl) (Nat.le_of_ble_eq_true rfl) (by decide +kernel) (sLv_lt (by decide +kernel))),
   (fun lv l st x y w => Ex_icmp_eq (by decide +kernel : decode M_L_law.2.1 1467 = .ok (.if_icmp .eq 5, 3)) rfl rfl),
   (fun lv l st w => Ex_A (i := .iconst 0) (n := 1) (by decide +kernel) rfl rfl),
   (fun lv l x w => Ex_zret (by decide +kernel : decode M_L_law.2.1 1471 = .ok (.ireturn, 1)) rfl),
   (fun lv st t o0 o1 o2 x w => Ex_iinc (by decide +kernel : decode M_L_law.2.1 1472 = .ok (.iinc 3 6, 3)) rfl rfl (by decide) (by decide)),
   (fun lv l st w => Ex_goto (by decide +kernel : decode M_L_law.2.1 1475 = .ok (.goto (-1457), 3)) rfl),
   (fun lv l st w => Ex_A (i := .iconst 1) (n := 1) (by decide +kernel) rfl rfl),
   (fun lv l x w => Ex_zret (by decide +kernel : decode M_L_law.2.1 1479 = .ok (.ireturn, 1)) rfl)⟩
-- R_L_law: p0 to p20
