/-! ===== the other constructors ===== -/
theorem s_newReader {w : AH} {b : Nat} (hb : w.1 = b + 1) (h : hg w b = .inr (4, [.null, .null, .null, .int 0, .int 0])) : ∃ v, Call M_X4_init 60 [.ref b] w = some (none, v) ∧ Nw w v b 2 52 ∧ hg v b = .inr (4, [.ref (b + 1), .ref (b + 1), .ref 3, .int 0, .int 0]) ∧ hg v (b + 1) = .inr (6, [.ref (b + 2), .int 0]) ∧ hg v (b + 2) = nwA 50 (fun _ => 0) := by
  have es : hs w b (hg w b) = w := hs_same _ _
  obtain ⟨v1, c1, N1, A1, B1⟩ := s_newRow (w := hn w (.inr (6, [.null, .int 0])) 2) (b := b + 1) (k := 50) (by rw [hn_1]; omega) (hn_eq _ _ _ hb.symm) (by decide)
  rw [← es, ← hb] at N1
  obtain ⟨s1, m1, f1, g1⟩ := N1.fr
  have g1 := g1 (by omega)
  rw [h] at g1
  have c1 : Call M_X6_init 60 [.ref (b + 1), .int 50] (hn w (.inr (6, [.null, .int 0])) 2) = some (none, v1) := c1
  have p1 : pf (hg v1 b) 4 0 (.object "CarpetLands$Row") (.ref (b + 1)) = some (.inr (4, [.ref (b + 1), .null, .null, .int 0, .int 0])) := by rw [g1]; exact pf_o rfl _
  have q1 : gf (.inr (4, [.ref (b + 1), .null, .null, .int 0, .int 0])) 4 0 = some (.ref (b + 1)) := rfl
  have p2 : pf (.inr (4, [.ref (b + 1), .null, .null, .int 0, .int 0])) 4 1 (.object "CarpetLands$Row") (.ref (b + 1)) = some (.inr (4, [.ref (b + 1), .ref (b + 1), .null, .int 0, .int 0])) := pf_o rfl _
  have p3 : pf (.inr (4, [.ref (b + 1), .ref (b + 1), .null, .int 0, .int 0])) 4 2 (.object "java/lang/String") (.ref 3) = some (.inr (4, [.ref (b + 1), .ref (b + 1), .ref 3, .int 0, .int 0])) := pf_o rfl _
  have p4 : pf (.inr (4, [.ref (b + 1), .ref (b + 1), .ref 3, .int 0, .int 0])) 4 3 .int (.int 0) = some (.inr (4, [.ref (b + 1), .ref (b + 1), .ref 3, .int 0, .int 0])) := pf_i rfl _
  have p5 : pf (.inr (4, [.ref (b + 1), .ref (b + 1), .ref 3, .int 0, .int 0])) 4 4 .boolean (.int 0) = some (.inr (4, [.ref (b + 1), .ref (b + 1), .ref 3, .int 0, .int 0])) := pf_z rfl (Or.inl rfl)
  refine ⟨hs v1 b (.inr (4, [.ref (b + 1), .ref (b + 1), .ref 3, .int 0, .int 0])), ?_, ⟨by rw [hs_1, s1], by rw [hs_2, m1], fun j j1 j2 => by rw [hs_ne _ _ j2, f1 j j1 j2]⟩, hs_eq _ _ _, by rw [hs_ne _ _ (by omega), B1], by rw [hs_ne _ _ (by omega)]; exact A1.2.2.1⟩
  simp only [C_X4_init, R_X4_init, SB, hb, c1, p1, q1, p2, p3, p4, p5, hs_eq, hs_hs, if_true]
theorem s_newVoice {w : AH} {b : Nat} (hb : w.1 = b + 1) (h : hg w b = .inr (8, [.null, .int 0, .int 0, .int 0])) : ∃ v, Call M_X9_init 60 [.ref b] w = some (none, v) ∧ Nw w v b 2 42 ∧ hg v b = .inr (8, [.ref (b + 1), .int 0, .int 0, .int 0]) ∧ RowAt v (b + 1) (b + 2) 40 0 (fun _ => 0) := by
  have es : hs w b (hg w b) = w := hs_same _ _
  obtain ⟨v1, c1, N1, A1, B1⟩ := s_newRow (w := hn w (.inr (6, [.null, .int 0])) 2) (b := b + 1) (k := 40) (by rw [hn_1]; omega) (hn_eq _ _ _ hb.symm) (by decide)
  rw [← es, ← hb] at N1
  obtain ⟨s1, m1, f1, g1⟩ := N1.fr
  have g1 := g1 (by omega)
  rw [h] at g1
  have c1 : Call M_X6_init 60 [.ref (b + 1), .int 40] (hn w (.inr (6, [.null, .int 0])) 2) = some (none, v1) := c1
  have p1 : pf (hg v1 b) 8 0 (.object "CarpetLands$Row") (.ref (b + 1)) = some (.inr (8, [.ref (b + 1), .int 0, .int 0, .int 0])) := by rw [g1]; exact pf_o rfl _
  have p2 : pf (.inr (8, [.ref (b + 1), .int 0, .int 0, .int 0])) 8 1 .int (.int 0) = some (.inr (8, [.ref (b + 1), .int 0, .int 0, .int 0])) := pf_i rfl _
  have p3 : pf (.inr (8, [.ref (b + 1), .int 0, .int 0, .int 0])) 8 2 .int (.int 0) = some (.inr (8, [.ref (b + 1), .int 0, .int 0, .int 0])) := pf_i rfl _
  have p4 : pf (.inr (8, [.ref (b + 1), .int 0, .int 0, .int 0])) 8 3 .int (.int 0) = some (.inr (8, [.ref (b + 1), .int 0, .int 0, .int 0])) := pf_i rfl _
  refine ⟨hs v1 b (.inr (8, [.ref (b + 1), .int 0, .int 0, .int 0])), ?_, ⟨by rw [hs_1, s1], by rw [hs_2, m1], fun j j1 j2 => by rw [hs_ne _ _ j2, f1 j j1 j2]⟩, hs_eq _ _ _, A1.keep (hs_ne _ _ (by omega)) (hs_ne _ _ (by omega))⟩
  simp only [C_X9_init, R_X9_init, SB, hb, c1, p1, p2, p3, p4, hs_eq, hs_hs, if_true]
abbrev arL (n : Nat) (F : Nat → Int64) : va_E := .inl (1, n, .inr (.inl F))
theorem s_newRoads {w : AH} {b : Nat} (hb : w.1 = b + 1) (h : hg w b = .inr (5, [.null, .null, .null])) : ∃ v, Call M_X5_init 60 [.ref b] w = some (none, v) ∧ Nw w v b 3 12 ∧ hg v b = .inr (5, [.ref (b + 1), .ref (b + 2), .ref (b + 3)]) ∧ ∀ j, j < 3 → hg v (b + 1 + j) = arL 4 (fun _ => 0) := by
  obtain ⟨w1, h1⟩ : ∃ w1, w1 = hs (hn w (arL 4 (fun _ => 0)) 4) b (.inr (5, [.ref (b + 1), .null, .null])) := ⟨_, rfl⟩
  obtain ⟨w2, h2⟩ : ∃ w2, w2 = hs (hn w1 (arL 4 (fun _ => 0)) 4) b (.inr (5, [.ref (b + 1), .ref (b + 2), .null])) := ⟨_, rfl⟩
  have n1 : w1.1 = b + 2 := by rw [h1, hs_1, hn_1]; omega
  have n2 : w2.1 = b + 3 := by rw [h2, hs_1, hn_1]; omega
  have p1 : pf (hg (hn w (arL 4 (fun _ => 0)) 4) b) 5 0 (.array .long) (.ref (b + 1)) = some (.inr (5, [.ref (b + 1), .null, .null])) := by rw [hn_ne _ _ _ (by omega), h]; exact pf_a rfl _
  have p2 : pf (hg (hn w1 (arL 4 (fun _ => 0)) 4) b) 5 1 (.array .long) (.ref (b + 2)) = some (.inr (5, [.ref (b + 1), .ref (b + 2), .null])) := by rw [hn_ne _ _ _ (by omega), h1, hs_eq]; exact pf_a rfl _
  have p3 : pf (hg (hn w2 (arL 4 (fun _ => 0)) 4) b) 5 2 (.array .long) (.ref (b + 3)) = some (.inr (5, [.ref (b + 1), .ref (b + 2), .ref (b + 3)])) := by rw [hn_ne _ _ _ (by omega), h2, hs_eq]; exact pf_a rfl _
  refine ⟨hs (hn w2 (arL 4 (fun _ => 0)) 4) b (.inr (5, [.ref (b + 1), .ref (b + 2), .ref (b + 3)])), ?_, ⟨by rw [hs_1, hn_1, n2, hb], by rw [hs_2, hn_2, h2, hs_2, hn_2, h1, hs_2, hn_2], fun j j1 j2 => by rw [hs_ne _ _ j2, hn_ne _ _ _ (by omega), h2, hs_ne _ _ j2, hn_ne _ _ _ (by omega), h1, hs_ne _ _ j2, hn_ne _ _ _ (by omega)]⟩, hs_eq _ _ _, fun j hj => ?_⟩
  · simp only [C_X5_init, R_X5_init, SB, hb, p1, ← h1, n1, p2, ← h2, n2, p3, if_true]
  · rcases (show j = 0 ∨ j = 1 ∨ j = 2 by omega) with rfl | rfl | rfl
    · rw [hs_ne _ _ (by omega), hn_ne _ _ _ (by omega), h2, hs_ne _ _ (by omega), hn_ne _ _ _ (by omega), h1, hs_ne _ _ (by omega), hn_eq _ _ _ (by omega)]
    · rw [hs_ne _ _ (by omega), hn_ne _ _ _ (by omega), h2, hs_ne _ _ (by omega), hn_eq _ _ _ (by omega)]
    · rw [hs_ne _ _ (by omega), hn_eq _ _ _ (by omega)]
theorem s_newDyeing {w : AH} {b : Nat} (hb : w.1 = b + 1) (h : hg w b = .inr (2, [.null, .null, .null, .int 0])) : ∃ v, Call M_X2_init 60 [.ref b] w = some (none, v) ∧ Nw w v b 3 14 ∧ DyAt v b (fun _ => 0) (fun _ => 0) (fun _ => 0) 0 := by
  obtain ⟨w1, h1⟩ : ∃ w1, w1 = hs (hn w (arL 8 (fun _ => 0)) 8) b (.inr (2, [.ref (b + 1), .null, .null, .int 0])) := ⟨_, rfl⟩
  obtain ⟨w2, h2⟩ : ∃ w2, w2 = hs (hn w1 (nwA 3 (fun _ => 0)) 3) b (.inr (2, [.ref (b + 1), .ref (b + 2), .null, .int 0])) := ⟨_, rfl⟩
  have n1 : w1.1 = b + 2 := by rw [h1, hs_1, hn_1]; omega
  have n2 : w2.1 = b + 3 := by rw [h2, hs_1, hn_1]; omega
  have p1 : pf (hg (hn w (arL 8 (fun _ => 0)) 8) b) 2 0 (.array .long) (.ref (b + 1)) = some (.inr (2, [.ref (b + 1), .null, .null, .int 0])) := by rw [hn_ne _ _ _ (by omega), h]; exact pf_a rfl _
  have p2 : pf (hg (hn w1 (nwA 3 (fun _ => 0)) 3) b) 2 1 (.array .int) (.ref (b + 2)) = some (.inr (2, [.ref (b + 1), .ref (b + 2), .null, .int 0])) := by rw [hn_ne _ _ _ (by omega), h1, hs_eq]; exact pf_a rfl _
  have p3 : pf (hg (hn w2 (nwA 3 (fun _ => 0)) 3) b) 2 2 (.array .int) (.ref (b + 3)) = some (.inr (2, [.ref (b + 1), .ref (b + 2), .ref (b + 3), .int 0])) := by rw [hn_ne _ _ _ (by omega), h2, hs_eq]; exact pf_a rfl _
  have p4 : pf (.inr (2, [.ref (b + 1), .ref (b + 2), .ref (b + 3), .int 0])) 2 3 .int (.int 0) = some (.inr (2, [.ref (b + 1), .ref (b + 2), .ref (b + 3), .int 0])) := pf_i rfl _
  refine ⟨hs (hn w2 (nwA 3 (fun _ => 0)) 3) b (.inr (2, [.ref (b + 1), .ref (b + 2), .ref (b + 3), .int 0])), ?_, ⟨by rw [hs_1, hn_1, n2, hb], by rw [hs_2, hn_2, h2, hs_2, hn_2, h1, hs_2, hn_2], fun j j1 j2 => by rw [hs_ne _ _ j2, hn_ne _ _ _ (by omega), h2, hs_ne _ _ j2, hn_ne _ _ _ (by omega), h1, hs_ne _ _ j2, hn_ne _ _ _ (by omega)]⟩, by rw [hs_eq]; rfl, by rw [hs_eq]; rfl, by rw [hs_eq]; rfl, by rw [hs_eq]; rfl, ⟨fun _ => 0, ?_, fun _ _ => rfl⟩, ⟨fun _ => 0, ?_, fun _ _ => rfl⟩, ⟨fun _ => 0, ?_, fun _ _ => rfl⟩, by decide⟩
  · simp only [C_X2_init, R_X2_init, SB, hb, p1, ← h1, n1, p2, ← h2, n2, p3, p4, hs_eq, hs_hs, if_true]
  · rw [hs_ne _ _ (by omega), hn_ne _ _ _ (by omega), h2, hs_ne _ _ (by omega), hn_ne _ _ _ (by omega), h1, hs_ne _ _ (by omega), hn_eq _ _ _ (by omega)]
  · rw [hs_ne _ _ (by omega), hn_ne _ _ _ (by omega), h2, hs_ne _ _ (by omega), hn_eq _ _ _ (by omega)]
  · rw [hs_ne _ _ (by omega), hn_eq _ _ _ (by omega)]
theorem s_newSheet {w : AH} {b : Nat} (hb : w.1 = b + 1) (h : hg w b = .inr (7, [.null, .int 0, .int 0])) : ∃ v, Call M_X8_init 60 [.ref b] w = some (none, v) ∧ Nw w v b 1 40 ∧ ShAt v b 0 0 (fun _ => 0) ∧ clK (hg v b) = 7 := by
  have p1 : pf (hg (hn w (nwA 40 (fun _ => 0)) 40) b) 7 0 (.array .int) (.ref (b + 1)) = some (.inr (7, [.ref (b + 1), .int 0, .int 0])) := by rw [hn_ne _ _ _ (by omega), h]; exact pf_a rfl _
  have p2 : pf (.inr (7, [.ref (b + 1), .int 0, .int 0])) 7 1 .int (.int 0) = some (.inr (7, [.ref (b + 1), .int 0, .int 0])) := pf_i rfl _
  have p3 : pf (.inr (7, [.ref (b + 1), .int 0, .int 0])) 7 2 .int (.int 0) = some (.inr (7, [.ref (b + 1), .int 0, .int 0])) := pf_i rfl _
  refine ⟨hs (hn w (nwA 40 (fun _ => 0)) 40) b (.inr (7, [.ref (b + 1), .int 0, .int 0])), ?_, ⟨by rw [hs_1, hn_1], by rw [hs_2, hn_2], fun j j1 j2 => by rw [hs_ne _ _ j2, hn_ne _ _ _ (by omega)]⟩, ⟨by rw [hs_eq]; rfl, by rw [hs_eq]; rfl, by rw [hs_eq]; rfl, by rw [hs_ne _ _ (by omega), hn_eq _ _ _ (by omega)], Or.inl rfl, by decide⟩, by rw [hs_eq]; rfl⟩
  simp only [C_X8_init, R_X8_init, SB, hb, p1, p2, p3, hs_eq, hs_hs, if_true]
