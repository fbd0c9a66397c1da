/-! ===== Sheet: make ===== -/
theorem s_Sheet_make {w : AH} {s bits n : Nat} {F : Nat → Int32} (h : ShAt w s bits n F) {b m : Nat} (hb : b = 0 ∨ b = 8 ∨ b = 16 ∨ b = 32) (hm : m ≤ 40) (lv : Nat) : ∃ v G, Call M_X8_make lv [.ref s, .int (nI b), .int (nI m)] w = some (none, v) ∧ ShAt v s b m G ∧ (∀ k, k < 40 → G k = 0) ∧ Fr (fun j => j = s ∨ j = s + 1) w v := by
  have g2 : gf (fput (hg w s) 1 (.int (nI b))) 7 2 = some (.int (nI n)) := by rw [gf_put_n (by decide)]; exact h.p2
  obtain ⟨e, he⟩ : ∃ e, e = fput (fput (hg w s) 1 (.int (nI b))) 2 (.int (nI m)) := ⟨_, rfl⟩
  have D : ShAt (hs w s e) s b m F := by
    refine ⟨?_, ?_, ?_, ?_, hb, hm⟩
    · rw [hs_eq, he, gf_put_n (by decide), gf_put_n (by decide)]; exact h.p0
    · rw [hs_eq, he, gf_put_n (by decide)]; exact gf_put_s h.p1
    · rw [hs_eq, he]; exact gf_put_s g2
    · rw [hs_ne _ _ (by omega)]; exact h.q
  obtain ⟨v, b1, ⟨G, b2, b3⟩, b4⟩ := for_ex (fun i (_ : Unit) u => Ex M_X8_make lv 12 [some (.ref s), some (.int (nI b)), some (.int (nI m)), some (.int (nI i))] [] u) (fun _ t => t) (fun i _ u => (∃ G, ShAt u s b m G ∧ ∀ k, k < i → G k = 0) ∧ Fr (fun j => j = s ∨ j = s + 1) w u) 40 (by
    intro i _ u hi hI
    obtain ⟨⟨G, i1, i2⟩, i3⟩ := hI
    have e1 : ((40 : Int32) ≤ nI i) = False := by rw [show (40 : Int32) = nI 40 from rfl, le_nI (by decide) (by omega)]; simp; omega
    refine ⟨hs u (s + 1) (.inl (0, 40, .inl (upd G i 0))), ?_, ⟨upd G i 0, ⟨by rw [hs_ne _ _ (by omega)]; exact i1.p0, by rw [hs_ne _ _ (by omega)]; exact i1.p1, by rw [hs_ne _ _ (by omega)]; exact i1.p2, hs_eq _ _ _, hb, hm⟩, ?_⟩, i3.trans (Fr.hs (Or.inr rfl) _)⟩
    · rw [H_X8_make_12]
      simp only [R_X8_make, SB, e1, if_false, if_true, i1.p0, i1.q, uI_0 hi (show 40 ≤ 2147483648 by decide), ls1s, nI_1]
    · intro k hk
      unfold upd
      by_cases q : k = i
      · simp [q]
      · simp [q, i2 k (by omega)]) 40 (Nat.le_refl _) () (hs w s e) ⟨⟨F, D, fun k hk => absurd hk (by omega)⟩, Fr.hs (Or.inl rfl) e⟩
  refine ⟨v, G, ?_, b2, b3, b4⟩
  have p1 := pf_i h.p1 (nI b)
  have p2 := pf_i g2 (nI m)
  rw [← he] at p2
  simp only [C_X8_make, R_X8_make, SB, p1, p2, hs_hs, ls1s, if_true, show (0 : Int32) = nI 0 from rfl]
  refine (show _ = _ from rfl).trans (b1.trans ?_)
  rw [H_X8_make_12]
  simp only [R_X8_make, SB, show ((40 : Int32) ≤ nI 40) = True from by rw [show (40 : Int32) = nI 40 from rfl]; simp, if_true]
