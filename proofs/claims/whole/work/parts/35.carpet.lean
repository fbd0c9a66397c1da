/-! ===== Carpet: what it tells ===== -/
/-- an array of n ints at a that holds the numbers f -/
def IA (w : AH) (a n : Nat) (f : Nat → Nat) : Prop := ∃ F : Nat → Int32, hg w a = .inl (0, n, .inl F) ∧ ∀ k, k < n → F k = nI (f k)
theorem IA.keep {w v : AH} {a n : Nat} {f : Nat → Nat} (h : IA w a n f) (e : hg v a = hg w a) : IA v a n f := by
  unfold IA
  rw [e]
  exact h
theorem IA.get {w : AH} {a n : Nat} {f : Nat → Nat} (h : IA w a n f) (hn : n ≤ 2147483648) {k : Nat} (hk : k < n) : aI (hg w a) (nI k) = some (nI (f k)) := by
  obtain ⟨F, e, hF⟩ := h
  rw [e, aI_0 hk hn, hF k hk]
def updN (f : Nat → Nat) (k v : Nat) : Nat → Nat := fun j => if j = k then v else f j
theorem updN_s (f : Nat → Nat) (k v : Nat) : updN f k v k = v := by simp [updN]
theorem updN_n (f : Nat → Nat) {k j : Nat} (v : Nat) (h : j ≠ k) : updN f k v j = f j := by simp [updN, h]
theorem IA.put {w : AH} {a n : Nat} {f : Nat → Nat} (h : IA w a n f) (hn : n ≤ 2147483648) {k : Nat} (hk : k < n) (v : Nat) : ∃ e, uI (hg w a) (nI k) (nI v) = some e ∧ IA (hs w a e) a n (updN f k v) := by
  obtain ⟨F, e, hF⟩ := h
  refine ⟨_, by rw [e]; exact uI_0 hk hn, upd F k (nI v), hs_eq _ _ _, ?_⟩
  intro j hj
  unfold upd updN
  by_cases g : j = k
  · simp [g]
  · simp [g, hF j hj]
def CarAt (w : AH) (c : Nat) (col wear : Nat → Nat) : Prop := (gf (hg w c) 0 0 = some (.ref (c + 1))) ∧ (gf (hg w c) 0 1 = some (.ref (c + 2))) ∧ (IA w (c + 1) 36 col) ∧ (IA w (c + 2) 36 wear) ∧ (∀ k, k < 36 → col k < 8) ∧ (∀ k, k < 36 → wear k < 100)
theorem CarAt.p0 {w : AH} {c : Nat} {col wear : Nat → Nat} (h : CarAt w c col wear) : gf (hg w c) 0 0 = some (.ref (c + 1)) := h.1
theorem CarAt.p1 {w : AH} {c : Nat} {col wear : Nat → Nat} (h : CarAt w c col wear) : gf (hg w c) 0 1 = some (.ref (c + 2)) := h.2.1
theorem CarAt.q0 {w : AH} {c : Nat} {col wear : Nat → Nat} (h : CarAt w c col wear) : IA w (c + 1) 36 col := h.2.2.1
theorem CarAt.q1 {w : AH} {c : Nat} {col wear : Nat → Nat} (h : CarAt w c col wear) : IA w (c + 2) 36 wear := h.2.2.2.1
theorem CarAt.r0 {w : AH} {c : Nat} {col wear : Nat → Nat} (h : CarAt w c col wear) : ∀ k, k < 36 → col k < 8 := h.2.2.2.2.1
theorem CarAt.r1 {w : AH} {c : Nat} {col wear : Nat → Nat} (h : CarAt w c col wear) : ∀ k, k < 36 → wear k < 100 := h.2.2.2.2.2
theorem CarAt.keep {w v : AH} {c : Nat} {col wear : Nat → Nat} (h : CarAt w c col wear) (e0 : hg v c = hg w c) (e1 : hg v (c + 1) = hg w (c + 1)) (e2 : hg v (c + 2) = hg w (c + 2)) : CarAt v c col wear :=
  ⟨by rw [e0]; exact h.p0, by rw [e0]; exact h.p1, h.q0.keep e1, h.q1.keep e2, h.r0, h.r1⟩
theorem s_colourOf {w : AH} {c : Nat} {col wear : Nat → Nat} (h : CarAt w c col wear) {k : Nat} (hk : k < 36) (lv : Nat) : Call M_X0_colourOf lv [.ref c, .int (nI k)] w = some (some (.int (nI (col k))), w) := by
  simp only [C_X0_colourOf, R_X0_colourOf, SB, s_isKnot, inR_nI (show k < 2147483648 by omega), hk, decide_true, bI_e0, Bool.true_eq_false, if_true, if_false, h.p0, h.q0.get (by decide) hk]
theorem s_wearOf {w : AH} {c : Nat} {col wear : Nat → Nat} (h : CarAt w c col wear) {k : Nat} (hk : k < 36) (lv : Nat) : Call M_X0_wearOf lv [.ref c, .int (nI k)] w = some (some (.int (nI (wear k))), w) := by
  simp only [C_X0_wearOf, R_X0_wearOf, SB, s_isKnot, inR_nI (show k < 2147483648 by omega), hk, decide_true, bI_e0, Bool.true_eq_false, if_true, if_false, h.p1, h.q1.get (by decide) hk]
theorem s_setColour {w : AH} {c : Nat} {col wear : Nat → Nat} (h : CarAt w c col wear) {k v : Nat} (hk : k < 36) (hv : v < 8) (lv : Nat) : ∃ e, Call M_X0_setColour lv [.ref c, .int (nI k), .int (nI v)] w = some (none, hs w (c + 1) e) ∧ CarAt (hs w (c + 1) e) c (updN col k v) wear := by
  obtain ⟨e, h1, h2⟩ := h.q0.put (by decide) hk v
  refine ⟨e, ?_, ?_⟩
  · simp only [C_X0_setColour, R_X0_setColour, SB, s_isKnot, inR_nI (show k < 2147483648 by omega), hk, decide_true, bI_e0, Bool.true_eq_false, if_true, if_false, h.p0, h1]
  · refine ⟨?_, ?_, h2, ?_, ?_, h.r1⟩
    · rw [hs_ne _ _ (by omega)]; exact h.p0
    · rw [hs_ne _ _ (by omega)]; exact h.p1
    · exact h.q1.keep (hs_ne _ _ (by omega))
    · intro j hj
      unfold updN
      split
      · exact hv
      · exact h.r0 j hj
theorem s_min (a b : Int32) (w : AH) (lv : Nat) : Call M_J9_min_7cf53 lv [.int a, .int b] w = some (some (.int (if a.toInt ≤ b.toInt then a else b)), w) := by
  simp only [C_J9_min_7cf53, R_J9_min_7cf53, SB, le_t, lt_t]
  by_cases g : a.toInt ≤ b.toInt
  · simp [g, Int.not_lt.mpr g]
  · simp [g, Int.not_le.mp g]
theorem s_setWear {w : AH} {c : Nat} {col wear : Nat → Nat} (h : CarAt w c col wear) {k v : Nat} (hk : k < 36) (hv : v < 2147483648) (lv : Nat) : ∃ e, Call M_X0_setWear lv [.ref c, .int (nI k), .int (nI v)] w = some (none, hs w (c + 2) e) ∧ CarAt (hs w (c + 2) e) c col (updN wear k (min v 99)) := by
  obtain ⟨e, h1, h2⟩ := h.q1.put (by decide) hk (min v 99)
  have e1 : (if (nI v).toInt ≤ (99 : Int32).toInt then nI v else 99) = nI (min v 99) := by
    rw [show (99 : Int32) = nI 99 from rfl, nI_t hv, nI_t (by decide)]
    by_cases g : v ≤ 99
    · rw [if_pos (by omega), Nat.min_eq_left g]
    · rw [if_neg (by omega), Nat.min_eq_right (by omega)]
  refine ⟨e, ?_, ?_⟩
  · simp only [C_X0_setWear, R_X0_setWear, SB, s_isKnot, inR_nI (show k < 2147483648 by omega), hk, decide_true, bI_e0, Bool.true_eq_false, if_true, if_false, h.p1, s_min, e1, h1]
  · refine ⟨?_, ?_, ?_, h2, h.r0, ?_⟩
    · rw [hs_ne _ _ (by omega)]; exact h.p0
    · rw [hs_ne _ _ (by omega)]; exact h.p1
    · exact h.q0.keep (hs_ne _ _ (by omega))
    · intro j hj
      unfold updN
      split
      · omega
      · exact h.r1 j hj
/-- the knots of a colour -/
def csF (col : Nat → Nat) (x : Nat) : Nat → Nat → Nat := fun k s => if col k = x then s ||| 2 ^ k else s
def csN (col : Nat → Nat) (x : Nat) : Nat := foldN (csF col x) 36 0
theorem csF_b (col : Nat → Nat) (x : Nat) : ∀ n j, (foldN (csF col x) n 0).testBit j = (decide (j < n) && decide (col j = x)) := by
  intro n
  induction n with
  | zero => intro j; simp [foldN]
  | succ n ih =>
    intro j
    show (if col n = x then foldN (csF col x) n 0 ||| 2 ^ n else foldN (csF col x) n 0).testBit j = _
    by_cases g : col n = x
    · rw [if_pos g, Nat.testBit_or, ih, Nat.testBit_two_pow]
      by_cases g2 : n = j
      · subst g2; simp [g]
      · by_cases g3 : j < n
        · simp [g2, g3, show j < n + 1 by omega]
        · simp [g2, g3, show ¬ j < n + 1 by omega]
    · rw [if_neg g, ih]
      by_cases g2 : n = j
      · subst g2; simp [g]
      · by_cases g3 : j < n
        · simp [g3, show j < n + 1 by omega]
        · simp [g3, show ¬ j < n + 1 by omega]
theorem csN_b (col : Nat → Nat) (x j : Nat) : (csN col x).testBit j = (decide (j < 36) && decide (col j = x)) := csF_b col x 36 j
theorem csN_lt (col : Nat → Nat) (x : Nat) : csN col x < 2 ^ 36 := lt36 (fun k hk => by rw [csN_b]; simp; omega)
theorem csF_lt (col : Nat → Nat) (x : Nat) {k s : Nat} (hk : k < 36) (hs : s < 2 ^ 36) : csF col x k s < 2 ^ 36 := by
  unfold csF
  split
  · exact Nat.or_lt_two_pow hs (Nat.pow_lt_pow_right (by decide) hk)
  · exact hs
theorem s_ofColour {w : AH} {c : Nat} {col wear : Nat → Nat} (h : CarAt w c col wear) {x : Nat} (hx : x < 8) (lv : Nat) : Call M_X0_ofColour lv [.ref c, .int (nI x)] w = some (some (.long (lN (csN col x))), w) := by
  have hl := (for_up (fun k s => Ex M_X0_ofColour lv 5 [some (.ref c), some (.int (nI x)), some (.long (lN s)), none, some (.int (nI k))] [] w) (csF col x) (fun _ s => s < 2 ^ 36) 36 (by
    intro k s hk hs0
    refine ⟨?_, csF_lt col x hk hs0⟩
    have hc := h.r0 k hk
    have e1 : ((36 : Int32) ≤ nI k) = False := by rw [show (36 : Int32) = nI 36 from rfl, le_nI (by decide) (by omega)]; simp; omega
    rw [H_X0_ofColour_5]
    simp only [R_X0_ofColour, SB, e1, h.p0, h.q0.get (by decide) hk, if_true, if_false, eq_nI (show col k < 2147483648 by omega) (show x < 2147483648 by omega), ls1s, ls2s, nI_1, show (1 : Int64) = lN 1 from rfl, wb_shl 1 (show k < 64 by omega), Nat.one_mul, wb_or (show s < 2 ^ 64 by omega) (wb_lt2 (show k < 64 by omega))]
    unfold csF
    by_cases g : col k = x
    · simp [g]
    · simp [g]) 36 0 (Nat.le_refl _) (by decide)).1
  have e2 : ((36 : Int32) ≤ nI 36) = True := by rw [show (36 : Int32) = nI 36 from rfl]; simp
  simp only [C_X0_ofColour, R_X0_ofColour, SB, ls1s, ls2s, show (0 : Int64) = lN 0 from rfl, show (0 : Int32) = nI 0 from rfl]
  refine hl.trans ?_
  rw [H_X0_ofColour_5]
  simp only [R_X0_ofColour, SB, e2, if_true, csN]
