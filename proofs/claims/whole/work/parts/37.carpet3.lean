/-! ===== Carpet: turns, periods ===== -/
theorem pk_rem2 {a d : Nat} (ha : a < 2 ^ 31) (h0 : 0 < d) (hd : d < 2 ^ 31) : nI a - nI (a / d) * nI d = nI (a % d) := by
  rw [← pk_div ha h0 hd]
  exact pk_rem ha h0 hd
def meB (a b : Nat) : Bool := decide (a = b ∨ a = 0 ∨ b = 0)
theorem s_meets {a b : Nat} (ha : a < 8) (hb : b < 8) (w : AH) (lv : Nat) : Call M_X0_meets lv [.int (nI a), .int (nI b)] w = some (some (.int (bI (meB a b))), w) := by
  simp only [C_X0_meets, R_X0_meets, SB, show (0 : Int32) = nI 0 from rfl, show (1 : Int32) = nI 1 from rfl, eq_nI (show a < 2147483648 by omega) (show b < 2147483648 by omega), eq_nI (show a < 2147483648 by omega) (show 0 < 2147483648 by omega), eq_nI (show b < 2147483648 by omega) (show 0 < 2147483648 by omega), true_or, or_true, if_true]
  unfold meB bI
  by_cases g1 : a = b
  · simp [g1]; rfl
  · by_cases g2 : a = 0
    · simp [g2]; rfl
    · by_cases g3 : b = 0
      · simp [g1, g2, g3]; rfl
      · simp [g1, g2, g3]; rfl
def rtF : Nat → Nat × Nat → Nat × Nat := fun _ s => (s.2, 5 - s.1)
def cmt (k t : Nat) : Nat := (foldN rtF (t % 4) (k / 6, if t < 4 then k % 6 else 5 - k % 6)).1 * 6 + (foldN rtF (t % 4) (k / 6, if t < 4 then k % 6 else 5 - k % 6)).2
theorem cmt_lt : ∀ k, k < 36 → ∀ t, t < 8 → cmt k t < 36 := by decide +kernel
theorem s_comesTo {k t : Nat} (hk : k < 36) (ht : t < 8) (w : AH) (lv : Nat) : Call M_X0_comesTo lv [.int (nI k), .int (nI t)] w = some (some (.int (nI (cmt k t))), w) := by
  have h4 : t % 4 < 4 := Nat.mod_lt _ (by decide)
  have hl : ∀ (r0 c0 : Nat), r0 ≤ 5 → c0 ≤ 5 → ∀ n i, i + n = t % 4 → ∀ (o : Option Value), (foldN rtF i (r0, c0)).1 ≤ 5 ∧ (foldN rtF i (r0, c0)).2 ≤ 5 → Ex M_X0_comesTo lv 27 [some (.int (nI k)), some (.int (nI t)), some (.int (nI (foldN rtF i (r0, c0)).1)), some (.int (nI (foldN rtF i (r0, c0)).2)), some (.int (nI i)), o] [] w = some (some (.int (nI ((foldN rtF (t % 4) (r0, c0)).1 * 6 + (foldN rtF (t % 4) (r0, c0)).2))), w) := by
    intro r0 c0 hr hc n
    induction n with
    | zero =>
      intro i hi o hb
      have : i = t % 4 := by omega
      subst this
      rw [H_X0_comesTo_27]
      simp only [R_X0_comesTo, show (4 : Int32) = nI 4 from rfl, show (6 : Int32) = nI 6 from rfl, show (0 : Int32) = nI 0 from rfl, eq_nI (show 4 < 2147483648 by decide) (show 0 < 2147483648 by decide), show (4 = 0) = False from by simp, if_false, pk_rem (show t < 2 ^ 31 by omega) (show 0 < 4 by decide) (show 4 < 2 ^ 31 by decide), Int32.le_refl, if_true, pk_mul, nI_add]
    | succ n ih =>
      intro i hi o hb
      have e1 : (nI (t % 4) ≤ nI i) = False := by rw [le_nI (by omega) (by omega)]; simp; omega
      rw [H_X0_comesTo_27]
      simp only [R_X0_comesTo, show (4 : Int32) = nI 4 from rfl, show (6 : Int32) = nI 6 from rfl, show (5 : Int32) = nI 5 from rfl, show (0 : Int32) = nI 0 from rfl, eq_nI (show 4 < 2147483648 by decide) (show 0 < 2147483648 by decide), show (4 = 0) = False from by simp, if_false, pk_rem (show t < 2 ^ 31 by omega) (show 0 < 4 by decide) (show 4 < 2 ^ 31 by decide), e1, ls1s, SB, nI_1, pk_sub hb.1]
      exact ih (i + 1) (by omega) _ ⟨hb.2, Nat.sub_le _ _⟩
  have h6 : k % 6 < 6 := Nat.mod_lt _ (by decide)
  have e4 : ((4 : Int32) ≤ nI t) = (4 ≤ t) := le_nI (by decide) (by omega)
  simp only [C_X0_comesTo, R_X0_comesTo, show (6 : Int32) = nI 6 from rfl, show (0 : Int32) = nI 0 from rfl, show (5 : Int32) = nI 5 from rfl, eq_nI (show 6 < 2147483648 by decide) (show 0 < 2147483648 by decide), show (6 = 0) = False from by simp, if_false, pk_div (show k < 2 ^ 31 by omega) (show 0 < 6 by decide) (show 6 < 2 ^ 31 by decide), pk_rem2 (show k < 2 ^ 31 by omega) (show 0 < 6 by decide) (show 6 < 2 ^ 31 by decide), ls1s, SB, e4, pk_sub (show k % 6 ≤ 5 by omega)]
  unfold cmt
  by_cases g : t < 4
  · rw [if_pos g, if_neg (by omega)]
    exact hl (k / 6) (k % 6) (by omega) (by omega) (t % 4) 0 (by omega) _ ⟨by show k / 6 ≤ 5; omega, by show k % 6 ≤ 5; omega⟩
  · rw [if_neg g, if_pos (by omega)]
    exact hl (k / 6) (5 - k % 6) (by omega) (by omega) (t % 4) 0 (by omega) _ ⟨by show k / 6 ≤ 5; omega, by show 5 - k % 6 ≤ 5; omega⟩
def stB (col : Nat → Nat) (t : Nat) : Bool := allB (fun k => decide (col k = col (cmt k t))) 36
theorem s_staysBy {w : AH} {c : Nat} {col wear : Nat → Nat} (h : CarAt w c col wear) {t : Nat} (ht : t < 8) (lv : Nat) : Call M_X0_staysBy lv [.ref c, .int (nI t)] w = some (some (.int (bI (stB col t))), w) := by
  have hl := for_all (fun k => Ex M_X0_staysBy lv 2 [some (.ref c), some (.int (nI t)), some (.int (nI k))] [] w) (fun k => decide (col k = col (cmt k t))) 36 (some (some (.int 1), w)) (some (some (.int 0), w)) (by
    intro k hk
    have e1 : ((36 : Int32) ≤ nI k) = False := by rw [show (36 : Int32) = nI 36 from rfl, le_nI (by decide) (by omega)]; simp; omega
    have hc := h.r0 k hk
    have hc2 := h.r0 _ (cmt_lt k hk t ht)
    rw [H_X0_staysBy_2]
    simp only [R_X0_staysBy, SB, e1, clK_gf h.p0, s_colourOf h hk, s_comesTo hk ht, s_colourOf h (cmt_lt k hk t ht), eq_nI (show col k < 2147483648 by omega) (show col (cmt k t) < 2147483648 by omega), if_true, if_false, ls1s, nI_1, true_or, decide_eq_true_eq]) (by
    have e2 : ((36 : Int32) ≤ nI 36) = True := by rw [show (36 : Int32) = nI 36 from rfl]; simp
    rw [H_X0_staysBy_2]
    simp only [R_X0_staysBy, SB, e2, if_true, or_true])
  simp only [C_X0_staysBy, R_X0_staysBy, SB, ls1s, show (0 : Int32) = nI 0 from rfl]
  refine hl.trans ?_
  unfold stB bI
  split <;> rfl
/-- the same for a loop whose other locals hold what an earlier round left -/
theorem for_allD {R δ : Type} (E : Nat → δ → R) (I : Nat → δ → Prop) (P : Nat → Bool) (N : Nat) (rT rF : R) (h : ∀ k d, k < N → I k d → ∃ d2, E k d = (if P k = true then E (k + 1) d2 else rF) ∧ I (k + 1) d2) (hN : ∀ d, I N d → E N d = rT) (d : δ) (hd : I 0 d) : E 0 d = if allB P N = true then rT else rF := by
  have key : ∀ m k, k + m = N → ∀ d, I k d → ((∀ j, k ≤ j → j < N → P j = true) → E k d = rT) ∧ ((∃ j, k ≤ j ∧ j < N ∧ P j = false) → E k d = rF) := by
    intro m
    induction m with
    | zero =>
      intro k hk d hd
      have : k = N := by omega
      subst this
      exact ⟨fun _ => hN d hd, fun ⟨j, h1, h2, _⟩ => absurd h1 (by omega)⟩
    | succ m ih =>
      intro k hk d hd
      obtain ⟨d2, e, hd2⟩ := h k d (by omega) hd
      obtain ⟨i1, i2⟩ := ih (k + 1) (by omega) d2 hd2
      rw [e]
      cases g : P k with
      | false =>
        simp only [Bool.false_eq_true, if_false, implies_true, and_true]
        intro hh
        have := hh k (Nat.le_refl _) (by omega)
        rw [g] at this
        cases this
      | true =>
        simp only [if_true]
        refine ⟨fun hh => i1 (fun j h1 h2 => hh j (by omega) h2), ?_⟩
        rintro ⟨j, h1, h2, h3⟩
        refine i2 ⟨j, ?_, h2, h3⟩
        by_cases e : j = k
        · rw [e, g] at h3; cases h3
        · omega
  obtain ⟨k1, k2⟩ := key N 0 (by omega) d hd
  cases g : allB P N with
  | true => simp only [if_true]; exact k1 (fun j _ hj => (allB_iff P N).mp g j hj)
  | false =>
    simp only [Bool.false_eq_true, if_false]
    apply k2
    apply Classical.byContradiction
    intro hn
    have : allB P N = true := (allB_iff P N).mpr (fun k hk => by
      cases e : P k with
      | true => rfl
      | false => exact absurd ⟨k, Nat.zero_le _, hk, e⟩ hn)
    rw [g] at this
    cases this
/-- does a carpet come again after p, along the rows (al = 1, ac = 6) or the columns -/
def cgR (col : Nat → Nat) (al ac p i : Nat) : Bool := allB (fun j => meB (col (i * ac + j * al)) (col (i * ac + j * al + p * al))) (6 - p)
def cgB (col : Nat → Nat) (al ac p : Nat) : Bool := allB (cgR col al ac p) 6
theorem s_comesAgain {w : AH} {c : Nat} {col wear : Nat → Nat} (h : CarAt w c col wear) {p al ac : Nat} (hp : 1 ≤ p ∧ p < 6) {b : Int32} (hb : b = 1 ∧ al = 1 ∧ ac = 6 ∨ b = 0 ∧ al = 6 ∧ ac = 1) (lv : Nat) : Call M_X0_comesAgain lv [.ref c, .int b, .int (nI p)] w = some (some (.int (bI (cgB col al ac p))), w) := by
  have hin : ∀ i j, i < 6 → j + p < 6 → i * ac + j * al < 36 ∧ i * ac + j * al + p * al < 36 := by
    intro i j hi hj
    rcases hb with ⟨-, rfl, rfl⟩ | ⟨-, rfl, rfl⟩ <;> omega
  have e6 : ∀ k, k < 6 → ((6 : Int32) ≤ nI k) = False := fun k hk => by rw [show (6 : Int32) = nI 6 from rfl, le_nI (by decide) (by omega)]; simp; omega
  have e7 : ∀ k, 6 ≤ k → k < 20 → ((6 : Int32) ≤ nI k) = True := fun k hk hk2 => by rw [show (6 : Int32) = nI 6 from rfl, le_nI (by decide) (by omega)]; simp; omega
  have h1 : ∀ i, i < 6 → ∀ o : Option Value, Ex M_X0_comesAgain lv 36 [some (.ref c), some (.int b), some (.int (nI p)), some (.int (nI al)), some (.int (nI ac)), some (.int (nI i)), some (.int (nI 0)), o] [] w = if cgR col al ac p i = true then Ex M_X0_comesAgain lv 26 [some (.ref c), some (.int b), some (.int (nI p)), some (.int (nI al)), some (.int (nI ac)), some (.int (nI (i + 1))), some (.int (nI (6 - p))), some (.int (nI (i * ac + (6 - p - 1) * al)))] [] w else some (some (.int 0), w) := by
    intro i hi o
    have hl := for_allD (fun j (o : Option Value) => Ex M_X0_comesAgain lv 36 [some (.ref c), some (.int b), some (.int (nI p)), some (.int (nI al)), some (.int (nI ac)), some (.int (nI i)), some (.int (nI j)), o] [] w) (fun j o => 0 < j → o = some (.int (nI (i * ac + (j - 1) * al)))) (fun j => meB (col (i * ac + j * al)) (col (i * ac + j * al + p * al))) (6 - p) (Ex M_X0_comesAgain lv 26 [some (.ref c), some (.int b), some (.int (nI p)), some (.int (nI al)), some (.int (nI ac)), some (.int (nI (i + 1))), some (.int (nI (6 - p))), some (.int (nI (i * ac + (6 - p - 1) * al)))] [] w) (some (some (.int 0), w)) (by
      intro j o hj hI
      obtain ⟨g1, g2⟩ := hin i j hi (by omega)
      refine ⟨some (.int (nI (i * ac + j * al))), ?_, fun _ => rfl⟩
      rw [H_X0_comesAgain_36]
      simp only [R_X0_comesAgain, SB, ls1s, nI_add, pk_mul, nI_1, e6 (j + p) (by omega), if_false, clK_gf h.p0, s_colourOf h g1, s_colourOf h g2, s_meets (h.r0 _ g1) (h.r0 _ g2), bI_n0, if_true, true_or]) (by
      intro o hI
      have := hI (by omega)
      subst this
      rw [H_X0_comesAgain_36]
      simp only [R_X0_comesAgain, SB, ls1s, nI_add, nI_1, e7 (6 - p + p) (by omega) (by omega), if_true])
    exact hl o (fun h => absurd h (by decide))
  have hl := for_allD (fun i (o : Option Value × Option Value) => Ex M_X0_comesAgain lv 26 [some (.ref c), some (.int b), some (.int (nI p)), some (.int (nI al)), some (.int (nI ac)), some (.int (nI i)), o.1, o.2] [] w) (fun _ o => clr o.1 = o.1 ∧ clr o.2 = o.2) (cgR col al ac p) 6 (some (some (.int 1), w)) (some (some (.int 0), w)) (by
    intro i o hi hI
    refine ⟨(some (.int (nI (6 - p))), some (.int (nI (i * ac + (6 - p - 1) * al)))), ?_, rfl, rfl⟩
    rw [H_X0_comesAgain_26]
    simp only [R_X0_comesAgain, SB, e6 i hi, if_false, ls1s, show (0 : Int32) = nI 0 from rfl]
    exact h1 i hi _) (by
    intro o hI
    rw [H_X0_comesAgain_26]
    simp only [R_X0_comesAgain, SB, e7 6 (by decide) (by decide), if_true, or_true])
  unfold cgB bI
  refine Eq.trans ?_ ((hl (none, none) ⟨rfl, rfl⟩).trans (by split <;> rfl))
  rcases hb with ⟨rfl, rfl, rfl⟩ | ⟨rfl, rfl, rfl⟩
  · simp only [C_X0_comesAgain, R_X0_comesAgain, SB, ls1s, show ((1 : Int32) = 0) = False from by simp, if_false]
    rfl
  · simp only [C_X0_comesAgain, R_X0_comesAgain, SB, ls1s, if_true]
    rfl
def lpN (col : Nat → Nat) (al ac : Nat) : Nat := if cgB col al ac 1 = true then 1 else if cgB col al ac 2 = true then 2 else if cgB col al ac 3 = true then 3 else if cgB col al ac 4 = true then 4 else if cgB col al ac 5 = true then 5 else 6
theorem s_leastPeriod {w : AH} {c : Nat} {col wear : Nat → Nat} (h : CarAt w c col wear) {al ac : Nat} {b : Int32} (hb : b = 1 ∧ al = 1 ∧ ac = 6 ∨ b = 0 ∧ al = 6 ∧ ac = 1) (lv : Nat) : Call M_X0_leastPeriod lv [.ref c, .int b] w = some (some (.int (nI (lpN col al ac))), w) := by
  have st : ∀ p, 1 ≤ p → p < 6 → Ex M_X0_leastPeriod lv 2 [some (.ref c), some (.int b), some (.int (nI p))] [] w = if cgB col al ac p = true then some (some (.int (nI p)), w) else Ex M_X0_leastPeriod lv 2 [some (.ref c), some (.int b), some (.int (nI (p + 1)))] [] w := by
    intro p h1 h2
    have e1 : ((6 : Int32) ≤ nI p) = False := by rw [show (6 : Int32) = nI 6 from rfl, le_nI (by decide) (by omega)]; simp; omega
    rw [H_X0_leastPeriod_2]
    simp only [R_X0_leastPeriod, SB, e1, if_false, clK_gf h.p0, s_comesAgain h ⟨h1, h2⟩ hb, bI_e0, if_true, ls1s, nI_1]
    cases cgB col al ac p <;> simp
  simp only [C_X0_leastPeriod, R_X0_leastPeriod, SB, ls1s, show (1 : Int32) = nI 1 from rfl]
  rw [st 1 (by decide) (by decide), st 2 (by decide) (by decide), st 3 (by decide) (by decide), st 4 (by decide) (by decide), st 5 (by decide) (by decide)]
  rw [H_X0_leastPeriod_2]
  simp only [R_X0_leastPeriod, SB, show ((6 : Int32) ≤ nI (5 + 1)) = True from by rw [show (6 : Int32) = nI 6 from rfl]; simp, if_true]
  unfold lpN
  repeat (first | rfl | split)
