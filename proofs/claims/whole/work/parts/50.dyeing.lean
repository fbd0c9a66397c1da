/-! ===== Dyeing ===== -/
def DyAt (w : AH) (d : Nat) (sets row brow : Nat → Nat) (best : Nat) : Prop := (gf (hg w d) 2 0 = some (.ref (d + 1))) ∧ (gf (hg w d) 2 1 = some (.ref (d + 2))) ∧ (gf (hg w d) 2 2 = some (.ref (d + 3))) ∧ (gf (hg w d) 2 3 = some (.int (nI best))) ∧ (∃ G : Nat → Int64, hg w (d + 1) = .inl (1, 8, .inr (.inl G)) ∧ ∀ k, k < 8 → G k = lN (sets k)) ∧ (IA w (d + 2) 3 row) ∧ (IA w (d + 3) 3 brow) ∧ (best < 1000)
theorem DyAt.p0 {w : AH} {d : Nat} {sets row brow : Nat → Nat} {best : Nat} (h : DyAt w d sets row brow best) : gf (hg w d) 2 0 = some (.ref (d + 1)) := h.1
theorem DyAt.p1 {w : AH} {d : Nat} {sets row brow : Nat → Nat} {best : Nat} (h : DyAt w d sets row brow best) : gf (hg w d) 2 1 = some (.ref (d + 2)) := h.2.1
theorem DyAt.p2 {w : AH} {d : Nat} {sets row brow : Nat → Nat} {best : Nat} (h : DyAt w d sets row brow best) : gf (hg w d) 2 2 = some (.ref (d + 3)) := h.2.2.1
theorem DyAt.p3 {w : AH} {d : Nat} {sets row brow : Nat → Nat} {best : Nat} (h : DyAt w d sets row brow best) : gf (hg w d) 2 3 = some (.int (nI best)) := h.2.2.2.1
theorem DyAt.q0 {w : AH} {d : Nat} {sets row brow : Nat → Nat} {best : Nat} (h : DyAt w d sets row brow best) : ∃ G : Nat → Int64, hg w (d + 1) = .inl (1, 8, .inr (.inl G)) ∧ ∀ k, k < 8 → G k = lN (sets k) := h.2.2.2.2.1
theorem DyAt.q1 {w : AH} {d : Nat} {sets row brow : Nat → Nat} {best : Nat} (h : DyAt w d sets row brow best) : IA w (d + 2) 3 row := h.2.2.2.2.2.1
theorem DyAt.q2 {w : AH} {d : Nat} {sets row brow : Nat → Nat} {best : Nat} (h : DyAt w d sets row brow best) : IA w (d + 3) 3 brow := h.2.2.2.2.2.2.1
theorem DyAt.r {w : AH} {d : Nat} {sets row brow : Nat → Nat} {best : Nat} (h : DyAt w d sets row brow best) : best < 1000 := h.2.2.2.2.2.2.2
def DyP (d : Nat) : Nat → Prop := fun j => d ≤ j ∧ j < d + 4
theorem s_keepIfBetter {w : AH} {d : Nat} {sets row brow : Nat → Nat} {best : Nat} (h : DyAt w d sets row brow best) {x : Nat} (hx : x < 1000) (lv : Nat) : ∃ v, Call M_X2_keepIfBetter lv [.ref d, .int (nI x)] w = some (none, v) ∧ DyAt v d sets row (if best < x then row else brow) (if best < x then x else best) ∧ Fr (DyP d) w v := by
  have hr := h.r
  have e0 : (nI best < nI x) = (best < x) := lt_nI (by omega) (by omega)
  by_cases q : best < x
  · have n1 : ∀ e j, j ≠ d → hg (hs w d e) j = hg w j := fun e j x => hs_ne _ _ x
    obtain ⟨c, hc⟩ : ∃ c, c = fput (hg w d) 3 (.int (nI x)) := ⟨_, rfl⟩
    have k1 : IA (hs w d c) (d + 2) 3 row := h.q1.keep (n1 _ _ (by omega))
    have k2 : IA (hs w d c) (d + 3) 3 brow := h.q2.keep (n1 _ _ (by omega))
    obtain ⟨e, b1, b2⟩ := k2.copy k1 (by decide)
    have b1 : aC (hg (hs w d c) (d + 2)) (hg (hs w d c) (d + 3)) 0 0 3 = some e := b1
    have g1 : gf c 2 1 = some (.ref (d + 2)) := by rw [hc, gf_put_n (by decide)]; exact h.p1
    have g2 : gf c 2 2 = some (.ref (d + 3)) := by rw [hc, gf_put_n (by decide)]; exact h.p2
    refine ⟨hs (hs w d c) (d + 3) e, ?_, ?_, (Fr.hs (show DyP d d from ⟨by omega, by omega⟩) c).trans (Fr.hs (show DyP d (d + 3) from ⟨by omega, by omega⟩) e)⟩
    · have pc1 := pf_i h.p3 (nI x)
      rw [← hc] at pc1
      simp only [C_X2_keepIfBetter, R_X2_keepIfBetter, SB, h.p3, e0, eq_true q, pc1, g1, g2, b1, if_true]
    · rw [if_pos q, if_pos q]
      refine ⟨?_, ?_, ?_, ?_, ?_, ?_, b2, hx⟩
      · rw [hs_ne _ _ (by omega), hs_eq, hc, gf_put_n (by decide)]; exact h.p0
      · rw [hs_ne _ _ (by omega), hs_eq]; exact g1
      · rw [hs_ne _ _ (by omega), hs_eq]; exact g2
      · rw [hs_ne _ _ (by omega), hs_eq, hc]; exact gf_put_s h.p3
      · rw [hs_ne _ _ (by omega), n1 _ _ (by omega)]; exact h.q0
      · exact k1.keep (hs_ne _ _ (by omega))
  · refine ⟨w, ?_, ?_, Fr.refl _ _⟩
    · simp only [C_X2_keepIfBetter, R_X2_keepIfBetter, SB, h.p3, e0, eq_false q, if_true, if_false]
    · rw [if_neg q, if_neg q]; exact h
theorem s_colourOfFlood {w : AH} {d : Nat} {sets row brow : Nat → Nat} {best : Nat} (h : DyAt w d sets row brow best) {k : Nat} (hk : k < 3) (lv : Nat) : Call M_X2_colourOfFlood lv [.ref d, .int (nI k)] w = some (some (.int (nI (brow k))), w) := by
  have q1 : ((0 : Int32).toInt ≤ (nI k).toInt ∧ (nI k).toInt ≤ (2 : Int32).toInt) = True := by
    rw [nI_t (by omega), show (0 : Int32).toInt = 0 from rfl, show (2 : Int32).toInt = 2 from rfl]
    simp; omega
  simp only [C_X2_colourOfFlood, R_X2_colourOfFlood, SB, s_isWithin, q1, decide_true, bI_e0, Bool.true_eq_false, if_true, if_false, h.p2, h.q2.get (by decide) hk]
