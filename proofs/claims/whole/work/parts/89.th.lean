/-! ===== voices: the class ===== -/
def bofN (k act : Nat) : Nat := if bdN (k * 4 + act) ≠ 0 then bdN (k * 4 + act) else if bdN (abv k * 4 + act) ≠ 0 then bdN (abv k * 4 + act) else bdN (abv (abv k) * 4 + act)
theorem s_bodyOf {w : AH} (h : StA w bdN) {k act : Nat} (hk : k < 7) (ha : act < 4) (lv : Nat) : Call M_X9_bodyOf lv [.int (nI k), .int (nI act)] w = some (some (.int (nI (bofN k act))), w) := by
  obtain ⟨F, e, hF⟩ := h.a2
  have aL2 : aL (.inl (10, 28, .inl F)) = some 28 := rfl
  have i27 := fun v => iwR v 27 28 (by decide) w 60
  have st : ∀ k0 j i o4 o5, j < 7 → i < 7 → Ex M_X9_bodyOf lv 4 [some (.int (nI k0)), some (.int (nI act)), some (.int (nI j)), some (.int (nI i)), o4, o5] [] w = if bdN (j * 4 + act) ≠ 0 then some (some (.int (nI (bdN (j * 4 + act)))), w) else Ex M_X9_bodyOf lv 4 [some (.int (nI k0)), some (.int (nI act)), some (.int (abI j)), some (.int (nI (i + 1))), some (.int (nI (j * 4 + act))), some (.int (nI (bdN (j * 4 + act))))] [] w := by
    intro k0 j i o4 o5 hj hi
    have e1 : ((7 : Int32) ≤ nI i) = False := by rw [show (7 : Int32) = nI 7 from rfl, le_nI (by decide) (by omega)]; apply eq_false; omega
    have e2 : (nI j < (0 : Int32)) = False := eq_false (nI_pos (by omega))
    have p : nI j * 4 + nI act = nI (j * 4 + act) := by rw [show (4 : Int32) = nI 4 from rfl, pk_mul, nI_add]
    have q : inR (nI (j * 4 + act)) 28 = true := by rw [inR_nI (by omega)]; exact decide_eq_true (by omega)
    have hb : bdN (j * 4 + act) < 100 := (by decide : ∀ k, k < 28 → bdN k < 100) _ (by omega)
    have z0 : (nI (bdN (j * 4 + act)) = (0 : Int32)) = (bdN (j * 4 + act) = 0) := by rw [show (0 : Int32) = nI 0 from rfl, eq_nI (by omega) (by decide)]
    rw [H_X9_bodyOf_4]
    by_cases z : bdN (j * 4 + act) = 0
    · rw [if_neg (fun x => x z)]
      simp only [R_X9_bodyOf, SB, e1, e2, p, aL2, show (28 : Int32) - 1 = 27 from by decide, i27, q, bI_t, i10, e, aI_10 (show j * 4 + act < 28 by omega) (show 28 ≤ 2147483648 by decide), hF _ (show j * 4 + act < 28 by omega), z0, eq_true z, s_kindAbove h hj, ls1s, if_true, if_false, nI_1]
    · rw [if_pos z]
      simp only [R_X9_bodyOf, SB, e1, e2, p, aL2, show (28 : Int32) - 1 = 27 from by decide, i27, q, bI_t, i10, e, aI_10 (show j * 4 + act < 28 by omega) (show 28 ≤ 2147483648 by decide), hF _ (show j * 4 + act < 28 by omega), z0, eq_false z, ls1s, if_true, if_false]
  have b0 : bdN (0 * 4 + act) ≠ 0 := (by decide : ∀ a, a < 4 → bdN (0 * 4 + a) ≠ 0) act ha
  have ab2 : abv (abv k) = 0 := (by decide : ∀ k, k < 7 → abv (abv k) = 0) k hk
  simp only [C_X9_bodyOf, R_X9_bodyOf, SB, ls1s]
  refine (show _ = _ from rfl).trans ((st k k 0 none none hk (by decide)).trans ?_)
  unfold bofN
  by_cases z : bdN (k * 4 + act) = 0
  · rw [if_neg (fun x => x z), if_neg (fun x => x z)]
    have k0 : k ≠ 0 := fun x => b0 (by subst x; exact z)
    rw [show abI k = nI (abv k) from if_neg k0, st k (abv k) 1 _ _ (abv_lt hk) (by decide)]
    by_cases z2 : bdN (abv k * 4 + act) = 0
    · rw [if_neg (fun x => x z2), if_neg (fun x => x z2)]
      have k1 : abv k ≠ 0 := fun x => b0 (by rw [x] at z2; exact z2)
      rw [show abI (abv k) = nI (abv (abv k)) from if_neg k1, ab2, st k 0 2 _ _ (by decide) (by decide), if_pos b0]
    · rw [if_pos z2, if_pos z2]
  · rw [if_pos z, if_pos z]
abbrev TrT : Type := Nat × (Nat → Int32)
def VP : Nat → Prop := fun j => j = 103 ∨ j = 104
def VB (w : AH) (n m kd : Nat) (t : TrT) : Prop := (gf (hg w 102) 8 0 = some (.ref 103)) ∧ (gf (hg w 102) 8 1 = some (.int (nI kd))) ∧ (gf (hg w 102) 8 2 = some (.int (nI n))) ∧ (gf (hg w 102) 8 3 = some (.int (nI m))) ∧ (RowAt w 103 104 40 t.1 t.2) ∧ (StA w bdN)
theorem VB.p0 {w : AH} {n m kd : Nat} {t : TrT} (h : VB w n m kd t) : gf (hg w 102) 8 0 = some (.ref 103) := h.1
theorem VB.p1 {w : AH} {n m kd : Nat} {t : TrT} (h : VB w n m kd t) : gf (hg w 102) 8 1 = some (.int (nI kd)) := h.2.1
theorem VB.p2 {w : AH} {n m kd : Nat} {t : TrT} (h : VB w n m kd t) : gf (hg w 102) 8 2 = some (.int (nI n)) := h.2.2.1
theorem VB.p3 {w : AH} {n m kd : Nat} {t : TrT} (h : VB w n m kd t) : gf (hg w 102) 8 3 = some (.int (nI m)) := h.2.2.2.1
theorem VB.row {w : AH} {n m kd : Nat} {t : TrT} (h : VB w n m kd t) : RowAt w 103 104 40 t.1 t.2 := h.2.2.2.2.1
theorem VB.sta {w : AH} {n m kd : Nat} {t : TrT} (h : VB w n m kd t) : StA w bdN := h.2.2.2.2.2
def SayS (n m kd k act lv D : Nat) (V : Int32 → TrT → Int32 × TrT) : Prop := ∀ w x t dp, dp ≤ D → VB w n m kd t → ∃ v, Call M_X9_say lv [.ref 102, .int (nI k), .int (nI act), .int x, .int (nI dp)] w = some (some (.int (V x t).1), v) ∧ VB v n m kd (V x t).2 ∧ Fr VP w v
theorem VB.add {w : AH} {n m kd : Nat} {t : TrT} (h : VB w n m kd t) (b : Nat) : ∃ u r, Call M_X6_add 60 [.ref 103, .int (nI b)] w = some (some (.int r), u) ∧ VB u n m kd (tA t b) ∧ Fr VP w u := by
  have ad := s_Row_add h.row (nI b) 60
  unfold tA
  by_cases q : t.1 < 40
  · rw [if_pos q] at ad
    rw [if_pos q]
    have e : ∀ j, j ≠ 103 → j ≠ 104 → hg (setRow w 103 104 40 (t.1 + 1) (upd t.2 t.1 (nI b))) j = hg w j := fun j a c => setRow_ne _ _ _ _ _ _ a c
    refine ⟨_, _, ad, ⟨by rw [e _ (by decide) (by decide)]; exact h.p0, by rw [e _ (by decide) (by decide)]; exact h.p1, by rw [e _ (by decide) (by decide)]; exact h.p2, by rw [e _ (by decide) (by decide)]; exact h.p3, h.row.set (by omega), h.sta.keep (e _ (by decide) (by decide)) (e _ (by decide) (by decide))⟩, setRow_fr _ _ _ _ _ _ (Or.inl rfl) (Or.inr rfl)⟩
  · rw [if_neg q] at ad
    rw [if_neg q]
    exact ⟨w, _, ad, h, Fr.refl _ _⟩
theorem say_pre {w : AH} {n m kd : Nat} {t : TrT} (h : VB w n m kd t) {k act dp : Nat} (hk : k < 7) (ha : act < 4) (hd : dp ≤ 20) (x : Int32) : ∃ u, VB u n m kd (tA t (bofN k act)) ∧ Fr VP w u ∧ ∀ lv, Call M_X9_say lv [.ref 102, .int (nI k), .int (nI act), .int x, .int (nI dp)] w = Ex M_X9_say lv 32 [some (.ref 102), some (.int (nI k)), some (.int (nI act)), some (.int x), some (.int (nI dp)), some (.int (nI (bofN k act))), some (.int (nI (dp + 1)))] [] u := by
  obtain ⟨u, r, a1, a2, a3⟩ := h.add (bofN k act)
  refine ⟨u, a2, a3, fun lv => ?_⟩
  have bo := s_bodyOf h.sta hk ha 60
  have e1 : (nI dp ≤ (20 : Int32)) = True := by rw [show (20 : Int32) = nI 20 from rfl, le_nI (by omega) (by decide)]; exact eq_true hd
  obtain ⟨r0, r2, r4, r7, r8, r9, r10, r11, r14, r16, r17, r20, r22, r25, r26, r28, r29, r30, r31, -⟩ := R_X9_say_p0
  simp only [C_X9_say, r0, r2, r4, r7, r8, r9, r10, r11, r14, r16, r17, r20, r22, r25, r26, r28, r29, r30, r31, SB, e1, bo, h.p0, clK_gf h.row.1, a1, ls1s, if_true, nI_1]
