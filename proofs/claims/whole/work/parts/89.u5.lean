/-! ===== the law, from its start ===== -/
theorem law_run {w : AH} {L : Nat} {xs : Nat → Int32} (hw : w.1 = 32) (hm : w.2.1 = 0) (h0 : hg w 0 = scE L xs) (hst : StA w bdN) (hsr : StrA w) (hL : L ≤ 3072) : ∃ w', Call M_L_law 60 [.ref 0] w = some (some (.int 1), w') ∧ w'.1 ≤ 600032 ∧ w'.2.1 ≤ 7302250 := by
  have f1 : ∀ j, j < 32 → hg (hn w (clE 0) 10) j = hg w j := fun j hj => hn_ne _ _ _ (by omega)
  obtain ⟨v1, c1, c2, c3, c4, c5⟩ := s_newClass (w := hn w (clE 0) 10) (by rw [hn_1, hw]) (hn_eq _ _ _ hw.symm) (hst.keep (f1 _ (by omega)) (f1 _ (by omega))) (hsr.keep f1)
  rw [hn_2, hm] at c3
  obtain ⟨v2, D, d1, d2, d3, d4, d5, d6⟩ := s_newModel (w := hn v1 (moE 0) 27) (by rw [hn_1, c2]) (hn_eq _ _ _ c2.symm)
  rw [hn_2, c3] at d3
  have f2 : ∀ j, j < 123 → hg v2 j = hg v1 j := fun j hj => (d4 j hj).trans (hn_ne _ _ _ (by omega))
  have hJ : Jn v2 := ⟨X0c, fun _ => 0, _, v2, d6, c4.keep f2, Md0 d5⟩
  have e0 : hg v2 0 = scE L xs := by rw [f2 0 (by decide), c5 0 (by decide), f1 0 (by decide), h0]
  obtain ⟨v3, l1, l2, l3⟩ := law_loop hJ e0 hL
  refine ⟨v3, ?_, by omega, by omega⟩
  have n1 : (hn w (clE 0) 10).1 = 33 := by rw [hn_1, hw]
  have c1 : Call M_X11_init 60 [.ref 32] (hn w (.inr (10, [.null, .null, .null, .null, .null, .null, .null, .null, .null, .int 0])) 10) = some (none, v1) := c1
  have d1 : Call M_X12_init 60 [.ref 123] (hn v1 (.inr (11, [.null, .null, .int 0, .null, .null, .int 0, .int 0, .int 0, .int 0, .int 0, .int 0, .null, .null, .int 0, .null, .int 0, .int 0, .int 0, .null, .null, .null, .int 0, .int 0, .null, .null, .null, .null])) 27) = some (none, v2) := d1
  simp only [C_L_law, R_L_law_p0, SB, hw, c1, c2, d1, ls1s, if_true]
  exact l1
