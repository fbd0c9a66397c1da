/-! ===== cells, calls, the step, the run and its limit ===== -/
def clK (e : va_E) : Nat := match e with
  | .inr o => o.1
  | .inl _ => 1000
def gf (e : va_E) (ci k : Nat) : Option Value := match e with
  | .inr o => if o.1 = ci then o.2[k]? else none
  | .inl _ => none
def pf (e : va_E) (ci k : Nat) (ty : FieldType) (v : Value) : Option va_E := match e with
  | .inr o => if o.1 = ci ∧ k < o.2.length ∧ narrow ty v = v ∧ fits ty v = true then some (.inr (ci, o.2.set k v)) else none
  | .inl _ => none
def aI (e : va_E) (i : Int32) : Option Int32 := match e with
  | .inl (t, n, .inl f) => if (t = 0 ∨ t = 10) ∧ 0 ≤ i.toInt ∧ i.toInt < n then some (f i.toNatClampNeg) else none
  | _ => none
def aB (e : va_E) (i : Int32) : Option Int32 := match e with
  | .inl (t, n, .inl f) => if (t = 2 ∨ t = 11) ∧ 0 ≤ i.toInt ∧ i.toInt < n then some (f i.toNatClampNeg) else none
  | _ => none
def aJ (e : va_E) (i : Int32) : Option Int64 := match e with
  | .inl (t, n, .inr (.inl f)) => if t = 1 ∧ 0 ≤ i.toInt ∧ i.toInt < n then some (f i.toNatClampNeg) else none
  | _ => none
def aQ (e : va_E) (i : Int32) : Option Value := match e with
  | .inl (t, n, .inr (.inr (.inr (.inr f)))) => if (t = 3 ∨ t = 4) ∧ 0 ≤ i.toInt ∧ i.toInt < n then some (va_rf (f i.toNatClampNeg)) else none
  | _ => none
def uI (e : va_E) (i x : Int32) : Option va_E := match e with
  | .inl (t, n, .inl f) => if t = 0 ∧ 0 ≤ i.toInt ∧ i.toInt < n then some (.inl (t, n, .inl (upd f i.toNatClampNeg x))) else none
  | _ => none
def uB (e : va_E) (i x : Int32) : Option va_E := match e with
  | .inl (t, n, .inl f) => if t = 2 ∧ (0 ≤ i.toInt ∧ i.toInt < n) ∧ (x = 0 ∨ x = 1) then some (.inl (t, n, .inl (upd f i.toNatClampNeg x))) else none
  | _ => none
def uJ (e : va_E) (i : Int32) (x : Int64) : Option va_E := match e with
  | .inl (t, n, .inr (.inl f)) => if t = 1 ∧ 0 ≤ i.toInt ∧ i.toInt < n then some (.inl (t, n, .inr (.inl (vp_updL f i.toNatClampNeg x)))) else none
  | _ => none
def qk (t : Nat) : Nat := if t = 3 then 9 else 7
def uQ (e e2 : va_E) (i : Int32) (v : Nat) : Option va_E := match e with
  | .inl (t, n, .inr (.inr (.inr (.inr f)))) => if (t = 3 ∨ t = 4) ∧ (0 ≤ i.toInt ∧ i.toInt < n) ∧ clK e2 = qk t then some (.inl (t, n, .inr (.inr (.inr (.inr (va_up f i.toNatClampNeg (some v))))))) else none
  | _ => none
def aL (e : va_E) : Option Int32 := match e with
  | .inl (t, x) => if t ≤ 4 ∨ t = 10 ∨ t = 11 then some (Int32.ofNat x.1) else none
  | _ => none
/-- arraycopy of ints: source, destination -/
def aC (e e2 : va_E) (sp dp n : Int32) : Option va_E := match e, e2 with
  | .inl (t, m, .inl f), .inl (t2, m2, .inl g) => if t = 0 ∧ t2 = 0 ∧ (¬ sp < 0) ∧ (¬ dp < 0) ∧ (¬ n < 0) ∧ sp.toNatClampNeg + n.toNatClampNeg ≤ m ∧ dp.toNatClampNeg + n.toNatClampNeg ≤ m2 then some (.inl (t2, m2, .inl (va_cpy f g sp.toNatClampNeg dp.toNatClampNeg n.toNatClampNeg))) else none
  | _, _ => none
def nA (a : ArrayType) (n : Nat) : Option va_E := match a with
  | .int => some (.inl (0, n, .inl (fun _ => 0)))
  | .long => some (.inl (1, n, .inr (.inl (fun _ => 0))))
  | .boolean => some (.inl (2, n, .inl (fun _ => 0)))
  | _ => none
/-- statics: what getstatic gives -/
def resG (cn ix : Nat) : Option Value := if cn = 10 ∧ ix = 28 then some (.ref 1) else if cn = 9 ∧ ix = 41 then some (.ref 2) else if cn = 14 ∧ ix = 38 then some (.int 1) else none
def mCn (M : MI) : Nat := M.2.2.2.2.1
def mRk (M : MI) : Nat := M.2.2.2.2.2.1
def mNp (M : MI) : Nat := M.2.2.2.2.2.2
def mL (M : MI) : Nat := M.2.2.1
def mRet (M : MI) : Option FieldType := M.2.2.2.1
/-- what a class's objects are, as receivers: its kind (50: String) -/
def mKi (M : MI) : Nat := match mCn M with
  | 0 => 0 | 1 => 1 | 2 => 2 | 3 => 3 | 4 => 4 | 5 => 5 | 6 => 6 | 8 => 7 | 9 => 8 | 10 => 9 | 11 => 10 | 12 => 11 | 14 => 50 | _ => 999
/-- constants and cells: length, new stack, new cells -/
def sH (M : MI) (i : Instr) (st : List Value) (w : AH) : Option (Nat × List Value × AH) := match i with
  | .ldc ix => match resK (mCn M) ix with
    | some (.int v) => some (2, .int v :: st, w)
    | some _ => none
    | none => match resS (mCn M) ix with
      | some j => some (2, .ref (3 + j) :: st, w)
      | none => none
  | .ldc_w ix => match resK (mCn M) ix with
    | some (.int v) => some (3, .int v :: st, w)
    | _ => none
  | .ldc2_w ix => match resK (mCn M) ix with
    | some (.long v) => some (3, .long v :: st, w)
    | _ => none
  | .getstatic ix => match resG (mCn M) ix with
    | some v => some (3, v :: st, w)
    | none => none
  | .getfield ix => match resF (mCn M) ix, st with
    | some q, .ref a :: r => ob (gf (hg w a) q.1 q.2.1) (fun v => some (3, v :: r, w))
    | _, _ => none
  | .putfield ix => match resF (mCn M) ix, st with
    | some q, v :: .ref a :: r => if q.1 < 12 ∧ (q.2.2.2 = false ∨ (M.1.name = "<init>" ∧ ((clOf q.1).2.1 q.2.1).1 = M.1.cls)) then ob (pf (hg w a) q.1 q.2.1 q.2.2.1 v) (fun e => some (3, r, hs w a e)) else none
    | _, _ => none
  | .iaload => match st with
    | .int i :: .ref a :: r => ob (aI (hg w a) i) (fun x => some (1, .int x :: r, w))
    | _ => none
  | .baload => match st with
    | .int i :: .ref a :: r => ob (aB (hg w a) i) (fun x => some (1, .int x :: r, w))
    | _ => none
  | .laload => match st with
    | .int i :: .ref a :: r => ob (aJ (hg w a) i) (fun x => some (1, .long x :: r, w))
    | _ => none
  | .aaload => match st with
    | .int i :: .ref a :: r => ob (aQ (hg w a) i) (fun x => some (1, x :: r, w))
    | _ => none
  | .iastore => match st with
    | .int x :: .int i :: .ref a :: r => ob (uI (hg w a) i x) (fun e => some (1, r, hs w a e))
    | _ => none
  | .bastore => match st with
    | .int x :: .int i :: .ref a :: r => ob (uB (hg w a) i x) (fun e => some (1, r, hs w a e))
    | _ => none
  | .lastore => match st with
    | .long x :: .int i :: .ref a :: r => ob (uJ (hg w a) i x) (fun e => some (1, r, hs w a e))
    | _ => none
  | .aastore => match st with
    | .ref v :: .int i :: .ref a :: r => ob (uQ (hg w a) (hg w v) i v) (fun e => some (1, r, hs w a e))
    | _ => none
  | .arraylength => match st with
    | .ref a :: r => ob (aL (hg w a)) (fun x => some (1, .int x :: r, w))
    | _ => none
  | .newarray t => match st with
    | .int n :: r => if 0 ≤ n.toInt ∧ n.toInt ≤ 65536 then ob (nA t n.toNatClampNeg) (fun e => some (2, .ref w.1 :: r, hn w e n.toNatClampNeg)) else none
    | _ => none
  | .anewarray ix => match resA (mCn M) ix, st with
    | some t, .int n :: r => if 0 ≤ n.toInt ∧ n.toInt ≤ 65536 then some (3, .ref w.1 :: r, hn w (.inl (t, n.toNatClampNeg, .inr (.inr (.inr (.inr (fun _ => none)))))) n.toNatClampNeg) else none
    | _, _ => none
  | .new ix => match resN (mCn M) ix with
    | some ci => some (3, .ref w.1 :: st, hn w (.inr (ci, dfs ci)) (clOf ci).2.2)
    | none => none
  | .invokespecial ix => match resM (mCn M) ix, st with
    | some (6, _), .ref _ :: r => if stOK r = true then some (3, r, w) else none
    | _, _ => none
  | .invokestatic ix => match resM (mCn M) ix, st with
    | some (7, _), .int n :: .int dp :: .ref b :: .int sp :: .ref a :: r => if stOK r = true then ob (aC (hg w a) (hg w b) sp dp n) (fun e => some (3, r, hs w b e)) else none
    | _, _ => none
  | _ => none
def sR (M : MI) (i : Instr) (n : Nat) (st : List Value) : Option (Option Value) := match i with
  | .ireturn => match st, mRet M with
    | [.int v], some .int => if n = 1 then some (some (.int v)) else none
    | [.int v], some .boolean => if n = 1 ∧ (v = 0 ∨ v = 1) then some (some (.int v)) else none
    | [.int v], some .byte => if n = 1 ∧ v = 0 then some (some (.int v)) else none
    | _, _ => none
  | .lreturn => match st, mRet M with
    | [.long v], some .long => if n = 1 then some (some (.long v)) else none
    | _, _ => none
  | .areturn => match st, mRet M with
    | [.ref a], some (.object _) => if n = 1 then some (some (.ref a)) else none
    | [.null], some (.object _) => if n = 1 then some (some .null) else none
    | _, _ => none
  | .return_ => match st, mRet M with
    | [], none => if n = 1 then some none else none
    | _, _ => none
  | _ => none
/-- a callee's level: lower ranks begin at 60, the same rank goes on counting down -/
def sLv (M M2 : MI) (lv : Nat) : Option Nat := if mRk M2 < mRk M then some 60 else if mRk M2 = mRk M ∧ 0 < lv then some (lv - 1) else none
def sC (M : MI) (lv : Nat) (i : Instr) (n : Nat) (st : List Value) (w : AH) : Option (MI × Nat × List Value × List Value) := match i with
  | .invokestatic ix => match resM (mCn M) ix with
    | some (k, M2) => if (k = 0 ∨ k = 1) ∧ n = 3 then ob (spl (mNp M2) [] st) (fun q => if stOK q.2 = true ∧ (ent q.1).length ≤ mL M2 then ob (sLv M M2 lv) (fun lv2 => some (M2, lv2, q.1, q.2)) else none) else none
    | none => none
  | .invokevirtual ix => match resM (mCn M) ix with
    | some (k, M2) => if k = 2 ∧ n = 3 then ob (spl (mNp M2) [] st) (fun q => match q.2 with
      | .ref b :: r => if (stOK r = true ∧ (ent (.ref b :: q.1)).length ≤ mL M2) ∧ clK (hg w b) = mKi M2 then ob (sLv M M2 lv) (fun lv2 => some (M2, lv2, .ref b :: q.1, r)) else none
      | _ => none) else none
    | none => none
  | .invokespecial ix => match resM (mCn M) ix with
    | some (k, M2) => if (k = 3 ∨ k = 4) ∧ n = 3 then ob (spl (mNp M2) [] st) (fun q => match q.2 with
      | .ref b :: r => if stOK r = true ∧ (ent (.ref b :: q.1)).length ≤ mL M2 then ob (sLv M M2 lv) (fun lv2 => some (M2, lv2, .ref b :: q.1, r)) else none
      | _ => none) else none
    | none => none
  | _ => none
def brN (b : Bool) (pc n : Nat) (off : Int) (st : List Value) : Option (Nat × List Value) := if 0 ≤ (pc : Int) + off then some (if b = true then ((pc : Int) + off).toNat else pc + n, st) else none
/-- branches: the next place -/
def sBN (i : Instr) (n pc : Nat) (st : List Value) : Option (Nat × List Value) := match i with
  | .goto off => if n = 3 then tg pc off st else none
  | .ifCond c off => match st with
    | .int x :: r => if n = 3 then (match c with
      | .eq => brN (decide (x = 0)) pc 3 off r
      | .ne => brN (decide (¬ x = 0)) pc 3 off r
      | .lt => brN (decide (x < 0)) pc 3 off r
      | .ge => brN (decide (0 ≤ x)) pc 3 off r
      | .gt => brN (decide (0 < x)) pc 3 off r
      | .le => brN (decide (x ≤ 0)) pc 3 off r) else none
    | _ => none
  | .if_icmp c off => match st with
    | .int y :: .int x :: r => if n = 3 then (match c with
      | .eq => brN (decide (x = y)) pc 3 off r
      | .ne => brN (decide (¬ x = y)) pc 3 off r
      | .lt => brN (decide (x < y)) pc 3 off r
      | .ge => brN (decide (y ≤ x)) pc 3 off r
      | .gt => brN (decide (y < x)) pc 3 off r
      | .le => brN (decide (x ≤ y)) pc 3 off r) else none
    | _ => none
  | .ifnull off => match st with
    | .ref _ :: r => if n = 3 then some (pc + 3, r) else none
    | .null :: r => if n = 3 then tg pc off r else none
    | _ => none
  | .ifnonnull off => match st with
    | .ref _ :: r => if n = 3 then tg pc off r else none
    | .null :: r => if n = 3 then some (pc + 3, r) else none
    | _ => none
  | .tableswitch dflt lo hi offs => match st with
    | .int x :: r => if x.toInt < lo ∨ hi < x.toInt then tg pc dflt r else (match offs[(x.toInt - lo).toNat]? with
      | some off => tg pc off r
      | none => none)
    | _ => none
  | .lookupswitch dflt ps => match st with
    | .int x :: r => if (ps.toList.zip (ps.toList.drop 1)).all (fun q => decide (q.1.1 < q.2.1)) = true then tg pc (Op.lookupswitch.offset ps.toList dflt x.toInt) r else none
    | _ => none
  | _ => none
abbrev Ou : Type := (Cf × AH) ⊕ ((Option Value × AH) ⊕ (Cf × Cf))
def stepI (M : MI) (lv pc : Nat) (l : LX) (st : List Value) (w : AH) (i : Instr) (n : Nat) : Option Ou :=
  match sA i st with
  | some q => if q.1 = n then some (.inl ((M, lv, pc + n, l, q.2), w)) else none
  | none => match sM i (mL M) l st with
    | some q => if q.1 = n then some (.inl ((M, lv, pc + n, q.2.1, q.2.2), w)) else none
    | none => match sBN i n pc st with
      | some q => some (.inl ((M, lv, q.1, l, q.2), w))
      | none => match sH M i st w with
        | some q => if q.1 = n then some (.inl ((M, lv, pc + n, l, q.2.1), q.2.2)) else none
        | none => match sR M i n st with
          | some v => some (.inr (.inl (v, w)))
          | none => match sC M lv i n st w with
            | some q => some (.inr (.inr ((q.1, q.2.1, 0, ent q.2.2.1, []), (M, lv, pc + n, l, q.2.2.2))))
            | none => none
def step (c : Cf) (w : AH) : Option Ou := match decode c.1.2.1 c.2.2.1 with
  | .ok q => stepI c.1 c.2.1 c.2.2.1 c.2.2.2.1 c.2.2.2.2 w q.1 q.2
  | .error _ => none
def back (c : Cf) (v : Option Value) : Cf := (c.1, c.2.1, c.2.2.1, c.2.2.2.1, pushR v c.2.2.2.2)
def run : Nat → Cf → AH → Option (Option Value × AH)
  | 0, _, _ => none
  | n + 1, c, w => match step c w with
    | none => none
    | some (.inl q) => run n q.1 q.2
    | some (.inr (.inl r)) => some r
    | some (.inr (.inr q)) => match run n q.1 w with
      | none => none
      | some r => run n (back q.2 r.1) r.2
theorem run_mono : ∀ (n : Nat) (c : Cf) (w : AH) (x : Option Value × AH), run n c w = some x → run (n + 1) c w = some x := by
  intro n
  induction n with
  | zero => intro c w x h; cases h
  | succ n ih =>
    intro c w x h
    rw [run] at h ⊢
    cases hs : step c w with
    | none => rw [hs] at h; cases h
    | some o =>
      rw [hs] at h
      rcases o with q | r | q
      · exact ih _ _ _ h
      · exact h
      · dsimp only at h ⊢
        cases h1 : run n q.1 w with
        | none => rw [h1] at h; cases h
        | some r =>
          rw [h1] at h
          rw [ih _ _ _ h1]
          exact ih _ _ _ h
theorem run_le {n m : Nat} (hm : n ≤ m) {c : Cf} {w : AH} {x : Option Value × AH} (h : run n c w = some x) : run m c w = some x := by
  induction m with
  | zero => rw [Nat.le_zero.mp hm] at h; exact h
  | succ m ih =>
    rcases Nat.lt_or_ge m n with q | q
    · rw [show m + 1 = n by omega]; exact h
    · exact run_mono _ _ _ _ (ih q)
noncomputable def ExC (c : Cf) (w : AH) : Option (Option Value × AH) := @dite _ (∃ (x : Option Value × AH) (n : Nat), run n c w = some x) (Classical.propDecidable _) (fun h => some (Classical.choose h)) (fun _ => none)
theorem ExC_of {n : Nat} {c : Cf} {w : AH} {x : Option Value × AH} (h : run n c w = some x) : ExC c w = some x := by
  have hx : ∃ (x : Option Value × AH) (n : Nat), run n c w = some x := ⟨x, n, h⟩
  unfold ExC
  rw [dif_pos hx]
  obtain ⟨m, hm⟩ := Classical.choose_spec hx
  have h1 := run_le (Nat.le_max_left n m) h
  have h2 := run_le (Nat.le_max_right n m) hm
  rw [h2] at h1
  exact h1
theorem ExC_to {c : Cf} {w : AH} {x : Option Value × AH} (h : ExC c w = some x) : ∃ n, run n c w = some x := by
  unfold ExC at h
  by_cases hx : ∃ (x : Option Value × AH) (n : Nat), run n c w = some x
  · rw [dif_pos hx] at h
    obtain ⟨m, hm⟩ := Classical.choose_spec hx
    exact ⟨m, by rw [hm]; exact h⟩
  · rw [dif_neg hx] at h; cases h
theorem opt_ext {α : Type} {a b : Option α} (h1 : ∀ x, a = some x → b = some x) (h2 : ∀ x, b = some x → a = some x) : a = b := by
  cases a with
  | some x => exact (h1 x rfl).symm
  | none => cases b with
    | none => rfl
    | some y => exact h2 y rfl
theorem ExC_next {c c2 : Cf} {w w2 : AH} (h : step c w = some (.inl (c2, w2))) : ExC c w = ExC c2 w2 := by
  apply opt_ext
  · intro x hx
    obtain ⟨n, hn⟩ := ExC_to hx
    cases n with
    | zero => cases hn
    | succ n => rw [run, h] at hn; exact ExC_of hn
  · intro x hx
    obtain ⟨n, hn⟩ := ExC_to hx
    exact ExC_of (n := n + 1) (by rw [run, h]; exact hn)
theorem ExC_ret {c : Cf} {w : AH} {r : Option Value × AH} (h : step c w = some (.inr (.inl r))) : ExC c w = some r :=
  ExC_of (n := 1) (by rw [run, h])
theorem ExC_call {c c1 c2 : Cf} {w : AH} (h : step c w = some (.inr (.inr (c1, c2)))) : ExC c w = ob (ExC c1 w) (fun r => ExC (back c2 r.1) r.2) := by
  apply opt_ext
  · intro x hx
    obtain ⟨n, hn⟩ := ExC_to hx
    cases n with
    | zero => cases hn
    | succ n =>
      rw [run, h] at hn
      dsimp only at hn
      cases h1 : run n c1 w with
      | none => rw [h1] at hn; cases hn
      | some r =>
        rw [h1] at hn
        rw [ExC_of h1]
        exact ExC_of hn
  · intro x hx
    cases h1 : ExC c1 w with
    | none => rw [h1] at hx; cases hx
    | some r =>
      rw [h1, ob_some] at hx
      obtain ⟨n, hn⟩ := ExC_to h1
      obtain ⟨m, hm⟩ := ExC_to hx
      refine ExC_of (n := (max n m) + 1) ?_
      rw [run, h]
      dsimp only
      rw [run_le (Nat.le_max_left n m) hn]
      exact run_le (Nat.le_max_right n m) hm
noncomputable def Ex (M : MI) (lv pc : Nat) (l : LX) (st : List Value) (w : AH) : Option (Option Value × AH) := ExC (M, lv, pc, l, st) w
noncomputable def Call (M : MI) (lv : Nat) (a : List Value) (w : AH) : Option (Option Value × AH) := ExC (M, lv, 0, ent a, []) w
