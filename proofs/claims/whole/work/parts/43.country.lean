/-! ===== Country ===== -/
/-- nothing but the cells of P has changed -/
def Fr (P : Nat → Prop) (w v : AH) : Prop := v.1 = w.1 ∧ v.2.1 = w.2.1 ∧ ∀ j, ¬ P j → hg v j = hg w j
theorem Fr.refl (P : Nat → Prop) (w : AH) : Fr P w w := ⟨rfl, rfl, fun _ _ => rfl⟩
theorem Fr.trans {P : Nat → Prop} {u v w : AH} (h1 : Fr P u v) (h2 : Fr P v w) : Fr P u w := ⟨h2.1.trans h1.1, h2.2.1.trans h1.2.1, fun j hj => (h2.2.2 j hj).trans (h1.2.2 j hj)⟩
theorem Fr.hs {P : Nat → Prop} {w : AH} {a : Nat} (h : P a) (e : va_E) : Fr P w (hs w a e) := ⟨rfl, rfl, fun j hj => hs_ne _ _ (fun x => hj (by rw [x]; exact h))⟩
theorem Fr.wide {P Q : Nat → Prop} {w v : AH} (h : Fr P w v) (g : ∀ j, P j → Q j) : Fr Q w v := ⟨h.1, h.2.1, fun j hj => h.2.2 j (fun x => hj (g j x))⟩
theorem for_ex {R σ : Type} (E : Nat → σ → AH → R) (F : Nat → σ → σ) (I : Nat → σ → AH → Prop) (N : Nat) (h : ∀ k s w, k < N → I k s w → ∃ v, E k s w = E (k + 1) (F k s) v ∧ I (k + 1) (F k s) v) : ∀ n, n ≤ N → ∀ s w, I 0 s w → ∃ v, E 0 s w = E n (foldN F n s) v ∧ I n (foldN F n s) v := by
  intro n
  induction n with
  | zero => intro _ s w h0; exact ⟨w, rfl, h0⟩
  | succ n ih =>
    intro hn s w h0
    obtain ⟨v, h1, h2⟩ := ih (by omega) s w h0
    obtain ⟨u, h3, h4⟩ := h n _ v (by omega) h2
    exact ⟨u, h1.trans h3, h4⟩
abbrev Tx : Type := Bool × (Int32 → Int32 → Int32 → Int32)
/-- colours, wears, walkers; their number, day, z; tape, waiting; the two texts -/
abbrev Co : Type := (Nat → Nat) × (Nat → Nat) × (Nat → Nat → Nat) × (Nat × Nat × Int32) × (Nat × (Nat → Int32)) × (Nat × (Nat → Int32)) × Tx × Tx
def Co.col (S : Co) : Nat → Nat := S.1
def Co.wear (S : Co) : Nat → Nat := S.2.1
def Co.wk (S : Co) : Nat → Nat → Nat := S.2.2.1
def Co.nw (S : Co) : Nat := S.2.2.2.1.1
def Co.day (S : Co) : Nat := S.2.2.2.1.2.1
def Co.z (S : Co) : Int32 := S.2.2.2.1.2.2
def Co.tape (S : Co) : Nat × (Nat → Int32) := S.2.2.2.2.1
def Co.wait (S : Co) : Nat × (Nat → Int32) := S.2.2.2.2.2.1
def Co.pat (S : Co) : Tx := S.2.2.2.2.2.2.1
def Co.wor (S : Co) : Tx := S.2.2.2.2.2.2.2
/-- a Law at l that holds the text t -/
def LawV (w : AH) (l : Nat) (t : Tx) : Prop := ∃ (L : Nat) (f : Nat → Int32), LwAt w l L f ∧ t.1 = decide (0 < L) ∧ (0 < L → ∀ G a b c, evI L f G a b c = t.2 a b c)
theorem LawV.keep {w v : AH} {l : Nat} {t : Tx} (h : LawV w l t) (e0 : hg v l = hg w l) (e1 : hg v (l + 1) = hg w (l + 1)) (e2 : hg v (l + 2) = hg w (l + 2)) (e3 : hg v (l + 3) = hg w (l + 3)) : LawV v l t := by
  obtain ⟨L, f, h1, h2, h3⟩ := h
  exact ⟨L, f, h1.keep e0 e1 e2 e3, h2, h3⟩
def CoAt (w : AH) (g : Nat) (S : Co) : Prop := (gf (hg w g) 1 0 = some (.ref (g + 1))) ∧ (gf (hg w g) 1 1 = some (.ref (g + 4))) ∧ (gf (hg w g) 1 2 = some (.ref (g + 5))) ∧ (gf (hg w g) 1 3 = some (.ref (g + 9))) ∧ (gf (hg w g) 1 4 = some (.ref (g + 13))) ∧ (gf (hg w g) 1 5 = some (.ref (g + 15))) ∧ (gf (hg w g) 1 6 = some (.int (nI S.nw))) ∧ (gf (hg w g) 1 7 = some (.int (nI S.day))) ∧ (gf (hg w g) 1 8 = some (.int S.z)) ∧ (CarAt w (g + 1) S.col S.wear) ∧ (∃ W : Nat → Option Nat, hg w (g + 4) = .inl (3, 5, .inr (.inr (.inr (.inr W)))) ∧ ∀ k, k < 5 → W k = some (g + 17 + k)) ∧ (∀ k, k < 5 → WkAt w (g + 17 + k) (S.wk k 0) (S.wk k 1) (S.wk k 2) (S.wk k 3)) ∧ (LawV w (g + 5) S.pat) ∧ (LawV w (g + 9) S.wor) ∧ (RowAt w (g + 13) (g + 14) 50 S.tape.1 S.tape.2) ∧ (RowAt w (g + 15) (g + 16) 20 S.wait.1 S.wait.2) ∧ (S.nw ≤ 5) ∧ (S.day < 100000)
theorem CoAt.k0 {w : AH} {g : Nat} {S : Co} (h : CoAt w g S) : gf (hg w g) 1 0 = some (.ref (g + 1)) := h.1
theorem CoAt.k1 {w : AH} {g : Nat} {S : Co} (h : CoAt w g S) : gf (hg w g) 1 1 = some (.ref (g + 4)) := h.2.1
theorem CoAt.k2 {w : AH} {g : Nat} {S : Co} (h : CoAt w g S) : gf (hg w g) 1 2 = some (.ref (g + 5)) := h.2.2.1
theorem CoAt.k3 {w : AH} {g : Nat} {S : Co} (h : CoAt w g S) : gf (hg w g) 1 3 = some (.ref (g + 9)) := h.2.2.2.1
theorem CoAt.k4 {w : AH} {g : Nat} {S : Co} (h : CoAt w g S) : gf (hg w g) 1 4 = some (.ref (g + 13)) := h.2.2.2.2.1
theorem CoAt.k5 {w : AH} {g : Nat} {S : Co} (h : CoAt w g S) : gf (hg w g) 1 5 = some (.ref (g + 15)) := h.2.2.2.2.2.1
theorem CoAt.k6 {w : AH} {g : Nat} {S : Co} (h : CoAt w g S) : gf (hg w g) 1 6 = some (.int (nI S.nw)) := h.2.2.2.2.2.2.1
theorem CoAt.k7 {w : AH} {g : Nat} {S : Co} (h : CoAt w g S) : gf (hg w g) 1 7 = some (.int (nI S.day)) := h.2.2.2.2.2.2.2.1
theorem CoAt.k8 {w : AH} {g : Nat} {S : Co} (h : CoAt w g S) : gf (hg w g) 1 8 = some (.int S.z) := h.2.2.2.2.2.2.2.2.1
theorem CoAt.car {w : AH} {g : Nat} {S : Co} (h : CoAt w g S) : CarAt w (g + 1) S.col S.wear := h.2.2.2.2.2.2.2.2.2.1
theorem CoAt.wks {w : AH} {g : Nat} {S : Co} (h : CoAt w g S) : ∃ W : Nat → Option Nat, hg w (g + 4) = .inl (3, 5, .inr (.inr (.inr (.inr W)))) ∧ ∀ k, k < 5 → W k = some (g + 17 + k) := h.2.2.2.2.2.2.2.2.2.2.1
theorem CoAt.wk {w : AH} {g : Nat} {S : Co} (h : CoAt w g S) : ∀ k, k < 5 → WkAt w (g + 17 + k) (S.wk k 0) (S.wk k 1) (S.wk k 2) (S.wk k 3) := h.2.2.2.2.2.2.2.2.2.2.2.1
theorem CoAt.pat {w : AH} {g : Nat} {S : Co} (h : CoAt w g S) : LawV w (g + 5) S.pat := h.2.2.2.2.2.2.2.2.2.2.2.2.1
theorem CoAt.wor {w : AH} {g : Nat} {S : Co} (h : CoAt w g S) : LawV w (g + 9) S.wor := h.2.2.2.2.2.2.2.2.2.2.2.2.2.1
theorem CoAt.tape {w : AH} {g : Nat} {S : Co} (h : CoAt w g S) : RowAt w (g + 13) (g + 14) 50 S.tape.1 S.tape.2 := h.2.2.2.2.2.2.2.2.2.2.2.2.2.2.1
theorem CoAt.wait {w : AH} {g : Nat} {S : Co} (h : CoAt w g S) : RowAt w (g + 15) (g + 16) 20 S.wait.1 S.wait.2 := h.2.2.2.2.2.2.2.2.2.2.2.2.2.2.2.1
theorem CoAt.rn {w : AH} {g : Nat} {S : Co} (h : CoAt w g S) : S.nw ≤ 5 := h.2.2.2.2.2.2.2.2.2.2.2.2.2.2.2.2.1
theorem CoAt.rd {w : AH} {g : Nat} {S : Co} (h : CoAt w g S) : S.day < 100000 := h.2.2.2.2.2.2.2.2.2.2.2.2.2.2.2.2.2
theorem CoAt.keep {w v : AH} {g : Nat} {S : Co} (h : CoAt w g S) (e : ∀ j, g ≤ j → j < g + 22 → hg v j = hg w j) : CoAt v g S := by
  have e0 := e g (Nat.le_refl _) (by omega)
  refine ⟨by rw [e0]; exact h.k0, by rw [e0]; exact h.k1, by rw [e0]; exact h.k2, by rw [e0]; exact h.k3, by rw [e0]; exact h.k4, by rw [e0]; exact h.k5, by rw [e0]; exact h.k6, by rw [e0]; exact h.k7, by rw [e0]; exact h.k8, h.car.keep (e _ (by omega) (by omega)) (e _ (by omega) (by omega)) (e _ (by omega) (by omega)), by rw [e (g + 4) (by omega) (by omega)]; exact h.wks, fun k hk => (h.wk k hk).keep (e _ (by omega) (by omega)), h.pat.keep (e _ (by omega) (by omega)) (e _ (by omega) (by omega)) (e _ (by omega) (by omega)) (e _ (by omega) (by omega)), h.wor.keep (e _ (by omega) (by omega)) (e _ (by omega) (by omega)) (e _ (by omega) (by omega)) (e _ (by omega) (by omega)), h.tape.keep (e _ (by omega) (by omega)) (e _ (by omega) (by omega)), h.wait.keep (e _ (by omega) (by omega)) (e _ (by omega) (by omega)), h.rn, h.rd⟩
theorem CoAt.mk2 {w v : AH} {g : Nat} {S : Co} (h : CoAt w g S) (e : ∀ j, g ≤ j → j < g + 22 → j ≠ g + 8 → j ≠ g + 12 → hg v j = hg w j) (hp : LawV v (g + 5) S.pat) (ho : LawV v (g + 9) S.wor) : CoAt v g S := by
  have e0 := e g (Nat.le_refl _) (by omega) (by omega) (by omega)
  refine ⟨by rw [e0]; exact h.k0, by rw [e0]; exact h.k1, by rw [e0]; exact h.k2, by rw [e0]; exact h.k3, by rw [e0]; exact h.k4, by rw [e0]; exact h.k5, by rw [e0]; exact h.k6, by rw [e0]; exact h.k7, by rw [e0]; exact h.k8, h.car.keep (e _ (by omega) (by omega) (by omega) (by omega)) (e _ (by omega) (by omega) (by omega) (by omega)) (e _ (by omega) (by omega) (by omega) (by omega)), by rw [e (g + 4) (by omega) (by omega) (by omega) (by omega)]; exact h.wks, fun k hk => (h.wk k hk).keep (e _ (by omega) (by omega) (by omega) (by omega)), hp, ho, h.tape.keep (e _ (by omega) (by omega) (by omega) (by omega)) (e _ (by omega) (by omega) (by omega) (by omega)), h.wait.keep (e _ (by omega) (by omega) (by omega) (by omega)) (e _ (by omega) (by omega) (by omega) (by omega)), h.rn, h.rd⟩
theorem s_walkerOf {w : AH} {g : Nat} {S : Co} (h : CoAt w g S) (i : Int32) (lv : Nat) : Call M_X1_walkerOf lv [.ref g, .int i] w = some (some (if inR i S.nw = true then .ref (g + 17 + i.toNatClampNeg) else .null), w) := by
  have hn := h.rn
  obtain ⟨W, e, hW⟩ := h.wks
  by_cases q : inR i S.nw = true
  · obtain ⟨k, q1, q2, rfl⟩ := inR_of q
    have e1 : (nI k < 0) = False := by rw [show (0 : Int32) = nI 0 from rfl, lt_nI (by omega) (by decide)]; simp
    have e2 : (nI S.nw ≤ nI k) = False := by rw [le_nI (by omega) (by omega)]; simp; omega
    have e3 : ((5 : Int32) ≤ nI k) = False := by rw [show (5 : Int32) = nI 5 from rfl, le_nI (by decide) (by omega)]; simp; omega
    rw [if_pos q, nI_c q2]
    simp only [C_X1_walkerOf, R_X1_walkerOf, SB, h.k6, h.k1, e1, e2, e3, e, aQ_3 (show k < 5 by omega) (show 5 ≤ 2147483648 by decide), hW k (by omega), if_true, if_false]
  · rw [if_neg q]
    simp only [C_X1_walkerOf, R_X1_walkerOf, SB, h.k6, lt_t, le_t, nI_t (show S.nw < 2147483648 by omega), show (0 : Int32).toInt = 0 from rfl, if_true]
    by_cases q1 : i.toInt < 0
    · simp [q1]
    · have q2 : (S.nw : Int) ≤ i.toInt := by
        apply Int.not_lt.mp
        intro q3
        exact q (decide_eq_true ⟨by omega, q3⟩)
      simp [q1, q2]
def gv0 (S : Co) (a b c : Int32) : Nat := pcN (if S.pat.1 = true then S.pat.2 a b c else a + b)
def gv1 (S : Co) (a b c : Int32) : Nat := hdN (if S.wor.1 = true then S.wor.2 a b c else a)
/-- the stacks of the two texts -/
def StP (g : Nat) : Nat → Prop := fun j => j = g + 8 ∨ j = g + 12
theorem LawV.work {w : AH} {l : Nat} {t : Tx} (h : LawV w l t) (ht : t.1 = true) (a b c : Int32) (lv : Nat) : ∃ e, Call M_X3_workedOut lv [.ref l, .int a, .int b, .int c] w = some (some (.int (t.2 a b c)), hs w (l + 3) e) ∧ LawV (hs w (l + 3) e) l t := by
  obtain ⟨L, f, h1, h2, h3⟩ := h
  obtain ⟨G, hG⟩ := h1.s
  have hL : 0 < L := by rw [h2] at ht; exact of_decide_eq_true ht
  have := s_workedOut h1 hG a b c lv
  refine ⟨_, by rw [this, ← h3 hL G a b c]; rfl, L, f, ?_, h2, h3⟩
  exact ⟨by rw [hs_ne _ _ (by omega)]; exact h1.p0, by rw [hs_ne _ _ (by omega)]; exact h1.p1, h1.q.keep (hs_ne _ _ (by omega)) (hs_ne _ _ (by omega)), ⟨_, hs_eq _ _ _⟩⟩
theorem s_given0 {w : AH} {g : Nat} {S : Co} (h : CoAt w g S) (a b c : Int32) (lv : Nat) : ∃ v, Call M_X1_given lv [.ref g, .int 0, .int a, .int b, .int c] w = some (some (.int (nI (gv0 S a b c))), v) ∧ CoAt v g S ∧ Fr (StP g) w v := by
  obtain ⟨L, f, h1, h2, h3⟩ := h.pat
  have it := s_Law_isThere h1 60
  have pp : ∀ v : Int32, nI (pcN v - 1) + 1 = nI (pcN v) := fun v => by rw [nI_1]; congr 1
  by_cases q : S.pat.1 = true
  · obtain ⟨e, h4, h5⟩ := h.pat.work q a b c 60
    refine ⟨hs w (g + 8) e, ?_, ?_, Fr.hs (Or.inl rfl) e⟩
    · rw [← h2, q] at it
      simp only [C_X1_given, R_X1_given, SB, not_true_eq_false, if_false, if_true, h.k2, clK_gf h1.p0, it, bI_e0, Bool.true_eq_false, h4, s_floorMod7, pp, gv0, q]
    · exact h.mk2 (fun j _ _ h8 _ => hs_ne _ _ h8) h5 (h.wor.keep (hs_ne _ _ (by omega)) (hs_ne _ _ (by omega)) (hs_ne _ _ (by omega)) (hs_ne _ _ (by omega)))
  · refine ⟨w, ?_, h, Fr.refl _ _⟩
    rw [← h2, Bool.eq_false_iff.mpr q] at it
    simp only [C_X1_given, R_X1_given, SB, not_true_eq_false, if_false, if_true, h.k2, clK_gf h1.p0, it, bI_e0, s_floorMod7, pp, gv0, q, Bool.false_eq_true]
theorem s_given1 {w : AH} {g : Nat} {S : Co} (h : CoAt w g S) (a b c : Int32) (lv : Nat) : ∃ v, Call M_X1_given lv [.ref g, .int 1, .int a, .int b, .int c] w = some (some (.int (nI (gv1 S a b c))), v) ∧ CoAt v g S ∧ Fr (StP g) w v := by
  obtain ⟨L, f, h1, h2, h3⟩ := h.wor
  have it := s_Law_isThere h1 60
  by_cases q : S.wor.1 = true
  · obtain ⟨e, h4, h5⟩ := h.wor.work q a b c 60
    refine ⟨hs w (g + 12) e, ?_, ?_, Fr.hs (Or.inr rfl) e⟩
    · rw [← h2, q] at it
      simp only [C_X1_given, R_X1_given, SB, show ((1 : Int32) = 0) = False from by simp, not_false_eq_true, if_false, if_true, h.k3, clK_gf h1.p0, it, bI_e0, Bool.true_eq_false, h4, s_min, s_max, ls1s, hd_I, gv1, q]
    · exact h.mk2 (fun j _ _ _ h8 => hs_ne _ _ h8) (h.pat.keep (hs_ne _ _ (by omega)) (hs_ne _ _ (by omega)) (hs_ne _ _ (by omega)) (hs_ne _ _ (by omega))) h5
  · refine ⟨w, ?_, h, Fr.refl _ _⟩
    rw [← h2, Bool.eq_false_iff.mpr q] at it
    simp only [C_X1_given, R_X1_given, SB, show ((1 : Int32) = 0) = False from by simp, not_false_eq_true, if_false, if_true, h.k3, clK_gf h1.p0, it, bI_e0, s_min, s_max, ls1s, hd_I, gv1, q, Bool.false_eq_true]
def ptN (S : Co) (k : Nat) : Nat := gv0 S (nI (k / 6)) (nI (k % 6)) (nI S.day)
def woN (S : Co) (k : Nat) : Nat := gv1 S (nI (S.col k)) (nI (S.wear k)) (nI (k % 6))
theorem ptN_lt (S : Co) (k : Nat) : ptN S k < 8 := pcN_lt _
theorem woN_lt (S : Co) (k : Nat) : woN S k < 100 := hdN_lt _
theorem s_patternOf {w : AH} {g : Nat} {S : Co} (h : CoAt w g S) {k : Nat} (hk : k < 36) (lv : Nat) : ∃ v, Call M_X1_patternOf lv [.ref g, .int (nI k)] w = some (some (.int (nI (ptN S k))), v) ∧ CoAt v g S ∧ Fr (StP g) w v := by
  obtain ⟨v, h1, h2, h3⟩ := s_given0 h (nI (k / 6)) (nI (k % 6)) (nI S.day) 60
  refine ⟨v, ?_, h2, h3⟩
  have d6 : nI k / 6 = nI (k / 6) := pk_div (show k < 2 ^ 31 by omega) (show 0 < 6 by decide) (show 6 < 2 ^ 31 by decide)
  have r6 : nI k - nI (k / 6) * 6 = nI (k % 6) := pk_rem2 (show k < 2 ^ 31 by omega) (show 0 < 6 by decide) (show 6 < 2 ^ 31 by decide)
  simp only [C_X1_patternOf, R_X1_patternOf, SB, show ((6 : Int32) = 0) = False from by simp, if_false, if_true, d6, r6, h.k7, clK_gf h.k0, h1, ptN]
theorem s_worthOf {w : AH} {g : Nat} {S : Co} (h : CoAt w g S) {k : Nat} (hk : k < 36) (lv : Nat) : ∃ v, Call M_X1_worthOf lv [.ref g, .int (nI k)] w = some (some (.int (nI (woN S k))), v) ∧ CoAt v g S ∧ Fr (StP g) w v := by
  obtain ⟨v, h1, h2, h3⟩ := s_given1 h (nI (S.col k)) (nI (S.wear k)) (nI (k % 6)) 60
  refine ⟨v, ?_, h2, h3⟩
  have r6 : nI k - nI k / 6 * 6 = nI (k % 6) := pk_rem (show k < 2 ^ 31 by omega) (show 0 < 6 by decide) (show 6 < 2 ^ 31 by decide)
  simp only [C_X1_worthOf, R_X1_worthOf, SB, show ((6 : Int32) = 0) = False from by simp, if_false, if_true, r6, h.k0, clK_gf h.car.p0, s_colourOf h.car hk, s_wearOf h.car hk, clK_gf h.k0, h1, woN]
