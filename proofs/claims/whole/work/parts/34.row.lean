/-! ===== Row ===== -/
theorem AH_ext {w v : AH} (h1 : w.1 = v.1) (h2 : w.2.1 = v.2.1) (h3 : ∀ j, hg w j = hg v j) : w = v := by
  obtain ⟨a, b, f⟩ := w
  obtain ⟨c, d, g⟩ := v
  cases h1; cases h2
  have : f = g := funext h3
  rw [this]
theorem fput_put (e : va_E) (k : Nat) (u v : Value) : fput (fput e k u) k v = fput e k v := by
  cases e with
  | inl x => rfl
  | inr o => simp [fput]
theorem hs_comm (w : AH) {a b : Nat} (h : a ≠ b) (e x : va_E) : hs (hs w a e) b x = hs (hs w b x) a e := by
  refine AH_ext ?_ ?_ (fun j => ?_)
  · rfl
  · rfl
  simp only [hg_hs]
  by_cases h1 : j = b
  · subst h1; simp [Ne.symm h]
  · by_cases h2 : j = a
    · subst h2; simp [h]
    · simp [h1, h2]
/-- a Row at r, its numbers at a: n places, L of them in use, f what they hold -/
def RowAt (w : AH) (r a n L : Nat) (f : Nat → Int32) : Prop := gf (hg w r) 6 0 = some (.ref a) ∧ gf (hg w r) 6 1 = some (.int (nI L)) ∧ hg w a = .inl (0, n, .inl f) ∧ r ≠ a ∧ L ≤ n ∧ n < 1000
def setRow (w : AH) (r a n L : Nat) (f : Nat → Int32) : AH := hs (hs w a (.inl (0, n, .inl f))) r (fput (hg w r) 1 (.int (nI L)))
theorem RowAt.set {w : AH} {r a n L L2 : Nat} {f g : Nat → Int32} (h : RowAt w r a n L f) (hL : L2 ≤ n) : RowAt (setRow w r a n L2 g) r a n L2 g := by
  obtain ⟨h1, h2, h3, h4, h5, h6⟩ := h
  refine ⟨?_, ?_, ?_, h4, hL, h6⟩
  · unfold setRow; rw [hs_eq, gf_put_n (by decide)]; exact h1
  · unfold setRow; rw [hs_eq]; exact gf_put_s h2
  · unfold setRow; rw [hs_ne _ _ (Ne.symm h4), hs_eq]
theorem RowAt.keep {w v : AH} {r a n L : Nat} {f : Nat → Int32} (h : RowAt w r a n L f) (h1 : hg v r = hg w r) (h2 : hg v a = hg w a) : RowAt v r a n L f := by
  unfold RowAt
  rw [h1, h2]
  exact h
theorem setRow_ne (w : AH) (r a n L : Nat) (f : Nat → Int32) {j : Nat} (h1 : j ≠ r) (h2 : j ≠ a) : hg (setRow w r a n L f) j = hg w j := by
  unfold setRow
  rw [hs_ne _ _ h1, hs_ne _ _ h2]
theorem setRow_set {w : AH} {r a n L L2 : Nat} {f g : Nat → Int32} (h : r ≠ a) : setRow (setRow w r a n L f) r a n L2 g = setRow w r a n L2 g := by
  refine AH_ext ?_ ?_ (fun j => ?_)
  · rfl
  · rfl
  by_cases h1 : j = r
  · subst h1
    simp only [setRow, hs_eq, fput_put]
  · by_cases h2 : j = a
    · subst h2
      simp only [setRow]
      rw [hs_ne _ _ h1, hs_eq, hs_ne _ _ h1, hs_eq]
    · rw [setRow_ne _ _ _ _ _ _ h1 h2, setRow_ne _ _ _ _ _ _ h1 h2, setRow_ne _ _ _ _ _ _ h1 h2]
theorem s_Row_has {w : AH} {r a n L : Nat} {f : Nat → Int32} (h : RowAt w r a n L f) (i : Int32) (lv : Nat) : Call M_X6_has lv [.ref r, .int i] w = some (some (.int (bI (inR i L))), w) := by
  obtain ⟨h1, h2, h3, h4, h5, h6⟩ := h
  simp only [C_X6_has, R_X6_has, SB, h1, h2, h3, aL_0, lt_t, le_t, nI_t (show L < 2147483648 by omega), nI_t (show n < 2147483648 by omega), show (0 : Int32).toInt = 0 from rfl, if_true]
  unfold inR
  by_cases g1 : i.toInt < 0
  · simp [g1, bI, show ¬ (0 ≤ i.toInt) by omega]
  · by_cases g2 : (L : Int) ≤ i.toInt
    · simp [g1, g2, bI, show ¬ (i.toInt < L) by omega]
    · simp [g1, g2, bI, show ¬ ((n : Int) ≤ i.toInt) by omega, show (0 ≤ i.toInt) by omega, show i.toInt < L by omega]
theorem s_Row_get {w : AH} {r a n L : Nat} {f : Nat → Int32} (h : RowAt w r a n L f) (i : Int32) (lv : Nat) : Call M_X6_get lv [.ref r, .int i] w = some (some (.int (if inR i L = true then f i.toNatClampNeg else 0)), w) := by
  have hh := h
  obtain ⟨h1, h2, h3, h4, h5, h6⟩ := h
  simp only [C_X6_get, R_X6_get, SB, s_Row_has hh, clK_gf h1, h1, h3, if_true, bI_e0]
  cases g : inR i L with
  | false => simp
  | true =>
    obtain ⟨k, g1, g2, rfl⟩ := inR_of g
    simp only [aI_0 (show k < n by omega) (show n ≤ 2147483648 by omega), SB, Bool.true_eq_false, if_false, if_true, nI_c g2]
theorem s_Row_add {w : AH} {r a n L : Nat} {f : Nat → Int32} (h : RowAt w r a n L f) (v : Int32) (lv : Nat) : Call M_X6_add lv [.ref r, .int v] w = if L < n then some (some (.int 1), setRow w r a n (L + 1) (upd f L v)) else some (some (.int 0), w) := by
  obtain ⟨h1, h2, h3, h4, h5, h6⟩ := h
  have e1 : (nI L < 0) = False := by rw [show (0 : Int32) = nI 0 from rfl, lt_nI (by omega) (by decide)]; simp
  simp only [C_X6_add, R_X6_add, SB, h1, h2, h3, aL_0, e1, le_nI (show n < 2147483648 by omega) (show L < 2147483648 by omega), lt_nI (show L < 2147483648 by omega) (show n < 2147483648 by omega), if_true, if_false]
  by_cases g : n ≤ L
  · simp [g, Nat.not_lt.mpr g]
  · have g2 : L < n := Nat.not_le.mp g
    simp only [R_X6_add, g, g2, if_true, if_false, uI_0 g2 (show n ≤ 2147483648 by omega), SB, hs_ne _ _ h4, h2, pf_i h2, nI_1, setRow, or_true, if_true]
theorem s_Row_clear {w : AH} {r a n L : Nat} {f : Nat → Int32} (h : RowAt w r a n L f) (lv : Nat) : Call M_X6_clear lv [.ref r] w = some (none, setRow w r a n 0 f) := by
  obtain ⟨h1, h2, h3, h4, h5, h6⟩ := h
  simp only [C_X6_clear, R_X6_clear, SB, pf_i h2, if_true]
  unfold setRow
  rw [← h3, hs_same]
  rfl
/-- what lies in a row behind copyFrom -/
def cpyF (g f : Nat → Int32) (k : Nat) : Nat → Int32 := fun j => if j < k then g j else f j
theorem cpyF_0 (g f : Nat → Int32) : cpyF g f 0 = f := by funext j; simp [cpyF]
theorem cpyF_s (g f : Nat → Int32) (k : Nat) : upd (cpyF g f k) k (g k) = cpyF g f (k + 1) := by
  funext j
  unfold upd cpyF
  by_cases h : j = k
  · subst h; simp
  · simp [h]
    by_cases h2 : j < k
    · simp [h2, show j < k + 1 by omega]
    · simp [h2, show ¬ j < k + 1 by omega]
theorem l_Row_copy {w : AH} {r a n L r2 a2 n2 L2 : Nat} {f g : Nat → Int32} (h : RowAt w r a n L f) (h2 : RowAt w r2 a2 n2 L2 g) (hd : r2 ≠ r ∧ r2 ≠ a ∧ a2 ≠ r ∧ a2 ≠ a) (hL : L2 ≤ n) (lv : Nat) : ∀ m i, i + m = L2 → Ex M_X6_copyFrom lv 6 [some (.ref r), some (.ref r2), some (.int (nI i))] [] (setRow w r a n i (cpyF g f i)) = some (none, setRow w r a n L2 (cpyF g f L2)) := by
  intro m
  induction m with
  | zero =>
    intro i hi
    have : i = L2 := by omega
    subst this
    have k2 : RowAt (setRow w r a n i (cpyF g f i)) r2 a2 n2 i g := h2.keep (setRow_ne _ _ _ _ _ _ hd.1 hd.2.1) (setRow_ne _ _ _ _ _ _ hd.2.2.1 hd.2.2.2)
    rw [H_X6_copyFrom_6]
    simp only [R_X6_copyFrom, k2.2.1, SB, Int32.le_refl, if_true]
  | succ m ih =>
    intro i hi
    have k1 := h.set (L2 := i) (g := cpyF g f i) (by omega)
    have k2 : RowAt (setRow w r a n i (cpyF g f i)) r2 a2 n2 L2 g := h2.keep (setRow_ne _ _ _ _ _ _ hd.1 hd.2.1) (setRow_ne _ _ _ _ _ _ hd.2.2.1 hd.2.2.2)
    have b1 := h.2.2.2.2.2
    have b2 := h2.2.2.2.2.2
    have b3 := h2.2.2.2.2.1
    have e1 : (nI L2 ≤ nI i) = False := by rw [le_nI (by omega) (by omega)]; simp; omega
    rw [H_X6_copyFrom_6]
    simp only [R_X6_copyFrom, k2.2.1, SB, e1, if_false, if_true, clK_gf k1.1, clK_gf k2.1, s_Row_get k2, inR_nI (show i < 2147483648 by omega), decide_eq_true (show i < L2 by omega), nI_c (show i < 2147483648 by omega), s_Row_add k1, show i < n by omega, ls1s, nI_1, cpyF_s, setRow_set h.2.2.2.1]
    exact ih (i + 1) (by omega)
theorem s_Row_copy {w : AH} {r a n L r2 a2 n2 L2 : Nat} {f g : Nat → Int32} (h : RowAt w r a n L f) (h2 : RowAt w r2 a2 n2 L2 g) (hd : r2 ≠ r ∧ r2 ≠ a ∧ a2 ≠ r ∧ a2 ≠ a) (hL : L2 ≤ n) (lv : Nat) : Call M_X6_copyFrom lv [.ref r, .ref r2] w = some (none, setRow w r a n L2 (cpyF g f L2)) := by
  have := l_Row_copy h h2 hd hL lv L2 0 (by omega)
  rw [cpyF_0] at this
  simp only [C_X6_copyFrom, R_X6_copyFrom, SB, clK_gf h.1, s_Row_clear h, if_true, ls1s]
  exact this
