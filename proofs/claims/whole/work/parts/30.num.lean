/-! ===== numbers, truth values, folds ===== -/
def bI (b : Bool) : Int32 := if b = true then 1 else 0
theorem bI_t : bI true = 1 := rfl
theorem bI_f : bI false = 0 := rfl
theorem bI_01 (b : Bool) : bI b = 0 ∨ bI b = 1 := by cases b <;> decide
theorem bI_e0 (b : Bool) : (bI b = 0) = (b = false) := by cases b <;> decide
theorem bI_e1 (b : Bool) : (bI b = 1) = (b = true) := by cases b <;> decide
theorem bI_n0 (b : Bool) : (¬ bI b = 0) = (b = true) := by cases b <;> decide
theorem nI_t {k : Nat} (h : k < 2147483648) : (nI k).toInt = (k : Int) := nI_toInt h
theorem nI_c {k : Nat} (h : k < 2147483648) : (nI k).toNatClampNeg = k := nI_clamp h
theorem lit_t (n : Nat) (h : n < 2147483648) : (OfNat.ofNat n : Int32).toInt = (n : Int) := nI_toInt h
theorem lit_nI (n : Nat) : (OfNat.ofNat n : Int32) = nI (OfNat.ofNat n) := rfl
theorem le_t (a b : Int32) : (a ≤ b) = (a.toInt ≤ b.toInt) := propext Int32.le_iff_toInt_le
theorem lt_t (a b : Int32) : (a < b) = (a.toInt < b.toInt) := propext Int32.lt_iff_toInt_lt
theorem eq_t (a b : Int32) : (a = b) = (a.toInt = b.toInt) := propext Int32.toInt_inj.symm
theorem eq_nI {a b : Nat} (ha : a < 2147483648) (hb : b < 2147483648) : (nI a = nI b) = (a = b) := propext (nI_eq ha hb)
theorem le_nI {a b : Nat} (ha : a < 2147483648) (hb : b < 2147483648) : (nI a ≤ nI b) = (a ≤ b) := propext (nI_leI ha hb)
theorem lt_nI {a b : Nat} (ha : a < 2147483648) (hb : b < 2147483648) : (nI a < nI b) = (a < b) := propext (nI_ltI ha hb)
/-- is x one of 0 .. n-1 -/
def inR (x : Int32) (n : Nat) : Bool := decide (0 ≤ x.toInt ∧ x.toInt < n)
theorem inR_nI {k n : Nat} (hk : k < 2147483648) : inR (nI k) n = decide (k < n) := by
  unfold inR
  rw [nI_toInt hk]
  by_cases h : k < n
  · simp [h]
  · simp [h]
theorem inR_of {x : Int32} {n : Nat} (h : inR x n = true) : ∃ k, k < n ∧ k < 2147483648 ∧ x = nI k := by
  have h1 := of_decide_eq_true h
  have h2 : x.toInt < 2147483648 := Int32.toInt_lt x
  refine ⟨x.toInt.toNat, by omega, by omega, ?_⟩
  apply Int32.toInt_inj.mp
  rw [nI_toInt (by omega)]
  omega
theorem aI_0 {n : Nat} {f : Nat → Int32} {k : Nat} (h : k < n) (hn : n ≤ 2147483648) : aI (.inl (0, n, .inl f)) (nI k) = some (f k) := by
  unfold aI
  dsimp only
  rw [nI_toInt (by omega), nI_clamp (by omega), if_pos ⟨Or.inl rfl, by omega, by omega⟩]
theorem aI_10 {n : Nat} {f : Nat → Int32} {k : Nat} (h : k < n) (hn : n ≤ 2147483648) : aI (.inl (10, n, .inl f)) (nI k) = some (f k) := by
  unfold aI
  dsimp only
  rw [nI_toInt (by omega), nI_clamp (by omega), if_pos ⟨Or.inr rfl, by omega, by omega⟩]
theorem aB_2 {n : Nat} {f : Nat → Int32} {k : Nat} (h : k < n) (hn : n ≤ 2147483648) : aB (.inl (2, n, .inl f)) (nI k) = some (f k) := by
  unfold aB
  dsimp only
  rw [nI_toInt (by omega), nI_clamp (by omega), if_pos ⟨Or.inl rfl, by omega, by omega⟩]
theorem aB_11 {n : Nat} {f : Nat → Int32} {k : Nat} (h : k < n) (hn : n ≤ 2147483648) : aB (.inl (11, n, .inl f)) (nI k) = some (f k) := by
  unfold aB
  dsimp only
  rw [nI_toInt (by omega), nI_clamp (by omega), if_pos ⟨Or.inr rfl, by omega, by omega⟩]
theorem aJ_1 {n : Nat} {f : Nat → Int64} {k : Nat} (h : k < n) (hn : n ≤ 2147483648) : aJ (.inl (1, n, .inr (.inl f))) (nI k) = some (f k) := by
  unfold aJ
  dsimp only
  rw [nI_toInt (by omega), nI_clamp (by omega), if_pos ⟨rfl, by omega, by omega⟩]
theorem aQ_3 {n : Nat} {f : Nat → Option Nat} {k : Nat} (h : k < n) (hn : n ≤ 2147483648) : aQ (.inl (3, n, .inr (.inr (.inr (.inr f))))) (nI k) = some (va_rf (f k)) := by
  unfold aQ
  dsimp only
  rw [nI_toInt (by omega), nI_clamp (by omega), if_pos ⟨Or.inl rfl, by omega, by omega⟩]
theorem aQ_4 {n : Nat} {f : Nat → Option Nat} {k : Nat} (h : k < n) (hn : n ≤ 2147483648) : aQ (.inl (4, n, .inr (.inr (.inr (.inr f))))) (nI k) = some (va_rf (f k)) := by
  unfold aQ
  dsimp only
  rw [nI_toInt (by omega), nI_clamp (by omega), if_pos ⟨Or.inr rfl, by omega, by omega⟩]
theorem uI_0 {n : Nat} {f : Nat → Int32} {k : Nat} {x : Int32} (h : k < n) (hn : n ≤ 2147483648) : uI (.inl (0, n, .inl f)) (nI k) x = some (.inl (0, n, .inl (upd f k x))) := by
  unfold uI
  dsimp only
  rw [nI_toInt (by omega), nI_clamp (by omega), if_pos ⟨rfl, by omega, by omega⟩]
theorem uB_2 {n : Nat} {f : Nat → Int32} {k : Nat} {x : Int32} (h : k < n) (hn : n ≤ 2147483648) (hx : x = 0 ∨ x = 1) : uB (.inl (2, n, .inl f)) (nI k) x = some (.inl (2, n, .inl (upd f k x))) := by
  unfold uB
  dsimp only
  rw [nI_toInt (by omega), nI_clamp (by omega), if_pos ⟨rfl, ⟨by omega, by omega⟩, hx⟩]
theorem uJ_1 {n : Nat} {f : Nat → Int64} {k : Nat} {x : Int64} (h : k < n) (hn : n ≤ 2147483648) : uJ (.inl (1, n, .inr (.inl f))) (nI k) x = some (.inl (1, n, .inr (.inl (vp_updL f k x)))) := by
  unfold uJ
  dsimp only
  rw [nI_toInt (by omega), nI_clamp (by omega), if_pos ⟨rfl, by omega, by omega⟩]
theorem aL_0 {n : Nat} {f : Nat → Int32} : aL (.inl (0, n, .inl f)) = some (nI n) := rfl
theorem aL_10 {n : Nat} {f : Nat → Int32} : aL (.inl (10, n, .inl f)) = some (nI n) := rfl
theorem aL_11 {n : Nat} {f : Nat → Int32} : aL (.inl (11, n, .inl f)) = some (nI n) := rfl
theorem upd_eq (f : Nat → Int32) (k j : Nat) (x : Int32) : upd f k x j = if j = k then x else f j := rfl
theorem rf_some (a : Nat) : va_rf (some a) = .ref a := rfl
theorem rf_none : va_rf none = .null := rfl
/-- one name for the rules that hold without a condition -/
theorem SB : (∀ v : Value, vV (some v) = v) ∧ (∀ v : Int32, vI (some v) = v) ∧ (∀ v : Int64, vJ (some v) = v) ∧ (∀ v : va_E, vE (some v) = v) ∧ (∀ (v : Option Value) (w : AH), cV (some (v, w)) = v) ∧ (∀ (v : Option Value) (w w0 : AH), cW (some (v, w)) w0 = w) ∧ (∀ st : List Value, pushR none st = st) ∧ (∀ (v : Value) (st : List Value), pushR (some v) st = v :: st) ∧ (ent [] = []) ∧ (∀ (x : Int32) (t : List Value), ent (.int x :: t) = some (.int x) :: ent t) ∧ (∀ (x : Nat) (t : List Value), ent (.ref x :: t) = some (.ref x) :: ent t) ∧ (∀ (x : Int64) (t : List Value), ent (.long x :: t) = some (.long x) :: none :: ent t) ∧ (clr none = none) ∧ (∀ x, clr (some (.int x)) = some (.int x)) ∧ (∀ x, clr (some (.ref x)) = some (.ref x)) ∧ (clr (some .null) = some .null) ∧ (∀ x, clr (some (.long x)) = none) ∧ (∀ {α : Type} (x : α), (some x).isSome = true) ∧ (∀ {α : Type}, (none : Option α).isSome = false) ∧ (∀ (w : AH) (a : Nat) (e : va_E), hg (hs w a e) a = e) ∧ (∀ a : Nat, va_rf (some a) = .ref a) ∧ (va_rf none = .null) :=
  ⟨fun _ => rfl, fun _ => rfl, fun _ => rfl, fun _ => rfl, fun _ _ => rfl, fun _ _ _ => rfl, fun _ => rfl, fun _ _ => rfl, rfl, fun _ _ => rfl, fun _ _ => rfl, fun _ _ => rfl, rfl, fun _ => rfl, fun _ => rfl, rfl, fun _ => rfl, fun _ => rfl, rfl, hs_eq, fun _ => rfl, rfl⟩
/-- a loop that counts up: from 0 to N, by a fold over what the state is -/
def foldN {σ : Type} (F : Nat → σ → σ) : Nat → σ → σ
  | 0, s => s
  | n + 1, s => F n (foldN F n s)
theorem for_up {σ R : Type} (E : Nat → σ → R) (F : Nat → σ → σ) (I : Nat → σ → Prop) (N : Nat) (h : ∀ k s, k < N → I k s → E k s = E (k + 1) (F k s) ∧ I (k + 1) (F k s)) : ∀ n s, n ≤ N → I 0 s → E 0 s = E n (foldN F n s) ∧ I n (foldN F n s) := by
  intro n
  induction n with
  | zero => intro s _ h0; exact ⟨rfl, h0⟩
  | succ n ih =>
    intro s hn h0
    obtain ⟨h1, h2⟩ := ih s (by omega) h0
    obtain ⟨h3, h4⟩ := h n (foldN F n s) (by omega) h2
    exact ⟨h1.trans h3, h4⟩
theorem for_up0 {σ R : Type} (E : Nat → σ → R) (F : Nat → σ → σ) (N : Nat) (h : ∀ k s, k < N → E k s = E (k + 1) (F k s)) (s : σ) : E 0 s = E N (foldN F N s) :=
  (for_up E F (fun _ _ => True) N (fun k s hk _ => ⟨h k s hk, trivial⟩) N s (Nat.le_refl _) trivial).1
/-! small methods of CarpetLands -/
theorem s_isWithin (v lo hi : Int32) (w : AH) (lv : Nat) : Call M_X11_isWithin lv [.int v, .int lo, .int hi] w = some (some (.int (bI (decide (lo.toInt ≤ v.toInt ∧ v.toInt ≤ hi.toInt)))), w) := by
  simp only [Call_eq, R_X11_isWithin, SB, lt_t]
  by_cases h1 : v.toInt < lo.toInt
  · simp [h1, bI, Int.not_le.mpr h1]
  · by_cases h2 : hi.toInt < v.toInt
    · simp [h1, h2, bI, Int.not_le.mpr h2]
    · simp [h1, h2, bI, Int.not_lt.mp h1, Int.not_lt.mp h2]
theorem s_isKnot (v : Int32) (w : AH) (lv : Nat) : Call M_X11_isKnot lv [.int v] w = some (some (.int (bI (inR v 36))), w) := by
  simp only [Call_eq M_X11_isKnot, R_X11_isKnot, SB, lt_t, le_t, show (0 : Int32).toInt = 0 from rfl, show (36 : Int32).toInt = 36 from rfl]
  by_cases h1 : v.toInt < 0
  · have e : inR v 36 = false := decide_eq_false (by omega)
    simp [h1, e, bI]
  · by_cases h2 : 36 ≤ v.toInt
    · have e : inR v 36 = false := decide_eq_false (by omega)
      simp [h1, h2, e, bI]
    · have e : inR v 36 = true := decide_eq_true (by omega)
      simp [h1, h2, e, bI]
theorem s_isColour (v : Int32) (w : AH) (lv : Nat) : Call M_X11_isColour lv [.int v] w = some (some (.int (bI (inR v 8))), w) := by
  simp only [Call_eq M_X11_isColour, R_X11_isColour, SB, s_isWithin, bI_01, if_true]
  rw [show inR v 8 = decide ((0 : Int32).toInt ≤ v.toInt ∧ v.toInt ≤ (7 : Int32).toInt) from by
    unfold inR
    congr 1
    show (_ : Prop) = _
    rw [show (0 : Int32).toInt = 0 from rfl, show (7 : Int32).toInt = 7 from rfl]
    apply propext; omega]
theorem s_isKindAndM (v : Int32) (w : AH) (lv : Nat) : Call M_X11_isKindAndM lv [.int v] w = some (some (.int (bI (inR v 70))), w) := by
  simp only [Call_eq M_X11_isKindAndM, R_X11_isKindAndM, SB, s_isWithin, bI_01, if_true]
  rw [show inR v 70 = decide ((0 : Int32).toInt ≤ v.toInt ∧ v.toInt ≤ (69 : Int32).toInt) from by
    unfold inR
    congr 1
    show (_ : Prop) = _
    rw [show (0 : Int32).toInt = 0 from rfl, show (69 : Int32).toInt = 69 from rfl]
    apply propext; omega]
theorem s_isUse (v : Int32) (w : AH) (lv : Nat) : Call M_X11_isUse lv [.int v] w = some (some (.int (bI (inR v 2))), w) := by
  simp only [Call_eq M_X11_isUse, R_X11_isUse, SB]
  by_cases h0 : v = 0
  · subst h0; rfl
  · by_cases h1 : v = 1
    · subst h1; rfl
    · have e : inR v 2 = false := by
        unfold inR
        rw [eq_t] at h0 h1
        have a0 : (0 : Int32).toInt = 0 := rfl
        have a1 : (1 : Int32).toInt = 1 := rfl
        apply decide_eq_false
        omega
      simp [h0, h1, e, bI]
