/-! ===== Country: copyFrom ===== -/
def cpS (S T : Co) : Co := (T.1, T.2.1, T.2.2.1, T.2.2.2.1, (T.tape.1, cpyF T.tape.2 S.tape.2 T.tape.1), (T.wait.1, cpyF T.wait.2 S.wait.2 T.wait.1), T.2.2.2.2.2.2)
/-- the walkers of the one at g as those of T, the first n of them -/
theorem l_walkers {w : AH} {g h : Nat} {S T : Co} (hg1 : CoAt w g S) (hh : CoAt w h T) (hd : g + 22 ≤ h ∨ h + 22 ≤ g) (lv : Nat) : ∃ v, Ex M_X1_copyFrom lv 13 [some (.ref g), some (.ref h), some (.int (nI 0))] [] w = Ex M_X1_copyFrom lv 13 [some (.ref g), some (.ref h), some (.int (nI 5))] [] v ∧ (∀ k, k < 5 → WkAt v (g + 17 + k) (T.wk k 0) (T.wk k 1) (T.wk k 2) (T.wk k 3)) ∧ Fr (fun j => g + 17 ≤ j ∧ j < g + 22) w v := by
  obtain ⟨v, h1, h2, h3, h4⟩ := for_ex (fun k (_ : Unit) u => Ex M_X1_copyFrom lv 13 [some (.ref g), some (.ref h), some (.int (nI k))] [] u) (fun _ s => s) (fun n _ u => (∀ k, k < n → WkAt u (g + 17 + k) (T.wk k 0) (T.wk k 1) (T.wk k 2) (T.wk k 3)) ∧ (∀ k, n ≤ k → k < 5 → hg u (g + 17 + k) = hg w (g + 17 + k)) ∧ Fr (fun j => g + 17 ≤ j ∧ j < g + 22) w u) 5 (by
    intro k _ u hk hI
    obtain ⟨i1, i2, i3⟩ := hI
    have fr : ∀ j, ¬ (g + 17 ≤ j ∧ j < g + 22) → hg u j = hg w j := i3.2.2
    have a1 : WkAt u (g + 17 + k) (S.wk k 0) (S.wk k 1) (S.wk k 2) (S.wk k 3) := (hg1.wk k hk).keep (i2 k (Nat.le_refl _) hk)
    have a2 : WkAt u (h + 17 + k) (T.wk k 0) (T.wk k 1) (T.wk k 2) (T.wk k 3) := (hh.wk k hk).keep (fr _ (by omega))
    obtain ⟨e, c1, c2⟩ := s_Walker_copy a1 a2 (by omega) 60
    refine ⟨hs u (g + 17 + k) e, ?_, ?_, ?_, i3.trans (Fr.hs ⟨by omega, by omega⟩ e)⟩
    · obtain ⟨W, b1, b2⟩ := hg1.wks
      obtain ⟨V, b3, b4⟩ := hh.wks
      have g1 : gf (hg u g) 1 1 = some (.ref (g + 4)) := by rw [fr _ (by omega)]; exact hg1.k1
      have g2 : gf (hg u h) 1 1 = some (.ref (h + 4)) := by rw [fr _ (by omega)]; exact hh.k1
      have g3 : hg u (g + 4) = .inl (3, 5, .inr (.inr (.inr (.inr W)))) := by rw [fr _ (by omega)]; exact b1
      have g4 : hg u (h + 4) = .inl (3, 5, .inr (.inr (.inr (.inr V)))) := by rw [fr _ (by omega)]; exact b3
      have e2 : ((5 : Int32) ≤ nI k) = False := by rw [show (5 : Int32) = nI 5 from rfl, le_nI (by decide) (by omega)]; simp; omega
      rw [H_X1_copyFrom_13]
      simp only [R_X1_copyFrom_p0, SB, e2, if_false, if_true, g1, g2, g3, g4, aQ_3 hk (show 5 ≤ 2147483648 by decide), b2 k hk, b4 k hk, clK_gf a1.p0, c1, ls1s, nI_1]
    · intro j hj
      by_cases q : j = k
      · subst q; exact c2
      · exact (i1 j (by omega)).keep (hs_ne _ _ (by omega))
    · intro j hj hj5
      rw [hs_ne _ _ (by omega)]
      exact i2 j (by omega) hj5) 5 (Nat.le_refl _) () w ⟨fun k hk => absurd hk (by omega), fun _ _ _ => rfl, Fr.refl _ _⟩
  exact ⟨v, h1, h2, h4⟩
theorem Row_copy_fr {w : AH} {r a n L r2 a2 n2 L2 : Nat} {f g : Nat → Int32} (h : RowAt w r a n L f) (h2 : RowAt w r2 a2 n2 L2 g) (hd : r2 ≠ r ∧ r2 ≠ a ∧ a2 ≠ r ∧ a2 ≠ a) (hL : L2 ≤ n) (lv : Nat) : ∃ v, Call M_X6_copyFrom lv [.ref r, .ref r2] w = some (none, v) ∧ RowAt v r a n L2 (cpyF g f L2) ∧ Fr (fun j => j = r ∨ j = a) w v :=
  ⟨_, s_Row_copy h h2 hd hL lv, h.set hL, setRow_fr _ _ _ _ _ _ (Or.inl rfl) (Or.inr rfl)⟩
