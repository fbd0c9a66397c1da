/-! ===== the class, new ===== -/
def clE : Nat → va_E
  | 0 => .inr (10, [.null, .null, .null, .null, .null, .null, .null, .null, .null, .int 0])
  | 1 => .inr (10, [.ref 33, .null, .null, .null, .null, .null, .null, .null, .null, .int 0])
  | 2 => .inr (10, [.ref 33, .ref 55, .null, .null, .null, .null, .null, .null, .null, .int 0])
  | 3 => .inr (10, [.ref 33, .ref 55, .ref 77, .null, .null, .null, .null, .null, .null, .int 0])
  | 4 => .inr (10, [.ref 33, .ref 55, .ref 77, .ref 99, .null, .null, .null, .null, .null, .int 0])
  | 5 => .inr (10, [.ref 33, .ref 55, .ref 77, .ref 99, .ref 102, .null, .null, .null, .null, .int 0])
  | 6 => .inr (10, [.ref 33, .ref 55, .ref 77, .ref 99, .ref 102, .ref 105, .null, .null, .null, .int 0])
  | 7 => .inr (10, [.ref 33, .ref 55, .ref 77, .ref 99, .ref 102, .ref 105, .ref 109, .null, .null, .int 0])
  | 8 => .inr (10, [.ref 33, .ref 55, .ref 77, .ref 99, .ref 102, .ref 105, .ref 109, .ref 113, .null, .int 0])
  | _ => .inr (10, [.ref 33, .ref 55, .ref 77, .ref 99, .ref 102, .ref 105, .ref 109, .ref 113, .ref 114, .int 0])
def X0c : Cx := (Co0, Co0, 0, fun _ => 0, (0, fun _ => 0), fun _ => (0, 0, fun _ => 0))
theorem s_newClass {w : AH} (hw : w.1 = 33) (h : hg w 32 = clE 0) (hst : StA w bdN) (hsr : StrA w) : ∃ v, Call M_X11_init 60 [.ref 32] w = some (none, v) ∧ v.1 = 123 ∧ v.2.1 = w.2.1 + 1488 ∧ ClAt v X0c ∧ ∀ j, j < 32 → hg v j = hg w j := by
  have es : hs w 32 (clE 0) = w := by rw [← h, hs_same]
  obtain ⟨v1, c1, N1, A1⟩ := s_newCountry (w := hn (hs w 32 (clE 0)) (.inr (1, [.null, .null, .null, .null, .null, .null, .int 0, .int 0, .int 0])) 9) (b := 33) (by rw [hn_1, hs_1, hw]) (hn_eq _ _ _ (by rw [hs_1, hw]))
  have N1 : Nw (hn (hs w 32 (clE 0)) (.inr (1, [.null, .null, .null, .null, .null, .null, .int 0, .int 0, .int 0])) 9) v1 w.1 21 381 := by rw [hw]; exact N1
  obtain ⟨s1, m1, f1, g1⟩ := N1.fr
  have g1 := g1 (by rw [hw]; decide)
  rw [hw] at s1 f1
  have s1 : v1.1 = 55 := s1
  have p1 : pf (hg v1 32) 10 0 (.object "CarpetLands$Country") (.ref 33) = some (clE 1) := by rw [g1]; exact pf_o rfl _
  rw [es] at c1
  obtain ⟨v2, c2, N2, A2⟩ := s_newCountry (w := hn (hs v1 32 (clE 1)) (.inr (1, [.null, .null, .null, .null, .null, .null, .int 0, .int 0, .int 0])) 9) (b := 55) (by rw [hn_1, hs_1, s1]) (hn_eq _ _ _ (by rw [hs_1, s1]))
  have N2 : Nw (hn (hs v1 32 (clE 1)) (.inr (1, [.null, .null, .null, .null, .null, .null, .int 0, .int 0, .int 0])) 9) v2 v1.1 21 381 := by rw [s1]; exact N2
  obtain ⟨s2, m2, f2, g2⟩ := N2.fr
  have g2 := g2 (by rw [s1]; decide)
  rw [s1] at s2 f2
  have s2 : v2.1 = 77 := s2
  have p2 : pf (hg v2 32) 10 1 (.object "CarpetLands$Country") (.ref 55) = some (clE 2) := by rw [g2]; exact pf_o rfl _
  obtain ⟨v3, c3, N3, A3⟩ := s_newCountry (w := hn (hs v2 32 (clE 2)) (.inr (1, [.null, .null, .null, .null, .null, .null, .int 0, .int 0, .int 0])) 9) (b := 77) (by rw [hn_1, hs_1, s2]) (hn_eq _ _ _ (by rw [hs_1, s2]))
  have N3 : Nw (hn (hs v2 32 (clE 2)) (.inr (1, [.null, .null, .null, .null, .null, .null, .int 0, .int 0, .int 0])) 9) v3 v2.1 21 381 := by rw [s2]; exact N3
  obtain ⟨s3, m3, f3, g3⟩ := N3.fr
  have g3 := g3 (by rw [s2]; decide)
  rw [s2] at s3 f3
  have s3 : v3.1 = 99 := s3
  have p3 : pf (hg v3 32) 10 2 (.object "CarpetLands$Country") (.ref 77) = some (clE 3) := by rw [g3]; exact pf_o rfl _
  obtain ⟨v4, c4, N4, A4⟩ := s_newReader (w := hn (hs v3 32 (clE 3)) (.inr (4, [.null, .null, .null, .int 0, .int 0])) 5) (b := 99) (by rw [hn_1, hs_1, s3]) (hn_eq _ _ _ (by rw [hs_1, s3]))
  have N4 : Nw (hn (hs v3 32 (clE 3)) (.inr (4, [.null, .null, .null, .int 0, .int 0])) 5) v4 v3.1 2 52 := by rw [s3]; exact N4
  obtain ⟨s4, m4, f4, g4⟩ := N4.fr
  have g4 := g4 (by rw [s3]; decide)
  rw [s3] at s4 f4
  have s4 : v4.1 = 102 := s4
  have p4 : pf (hg v4 32) 10 3 (.object "CarpetLands$Reader") (.ref 99) = some (clE 4) := by rw [g4]; exact pf_o rfl _
  obtain ⟨v5, c5, N5, A5⟩ := s_newVoice (w := hn (hs v4 32 (clE 4)) (.inr (8, [.null, .int 0, .int 0, .int 0])) 4) (b := 102) (by rw [hn_1, hs_1, s4]) (hn_eq _ _ _ (by rw [hs_1, s4]))
  have N5 : Nw (hn (hs v4 32 (clE 4)) (.inr (8, [.null, .int 0, .int 0, .int 0])) 4) v5 v4.1 2 42 := by rw [s4]; exact N5
  obtain ⟨s5, m5, f5, g5⟩ := N5.fr
  have g5 := g5 (by rw [s4]; decide)
  rw [s4] at s5 f5
  have s5 : v5.1 = 105 := s5
  have p5 : pf (hg v5 32) 10 4 (.object "CarpetLands$Voice") (.ref 102) = some (clE 5) := by rw [g5]; exact pf_o rfl _
  obtain ⟨v6, c6, N6, A6⟩ := s_newRoads (w := hn (hs v5 32 (clE 5)) (.inr (5, [.null, .null, .null])) 3) (b := 105) (by rw [hn_1, hs_1, s5]) (hn_eq _ _ _ (by rw [hs_1, s5]))
  have N6 : Nw (hn (hs v5 32 (clE 5)) (.inr (5, [.null, .null, .null])) 3) v6 v5.1 3 12 := by rw [s5]; exact N6
  obtain ⟨s6, m6, f6, g6⟩ := N6.fr
  have g6 := g6 (by rw [s5]; decide)
  rw [s5] at s6 f6
  have s6 : v6.1 = 109 := s6
  have p6 : pf (hg v6 32) 10 5 (.object "CarpetLands$Roads") (.ref 105) = some (clE 6) := by rw [g6]; exact pf_o rfl _
  obtain ⟨v7, c7, N7, A7⟩ := s_newDyeing (w := hn (hs v6 32 (clE 6)) (.inr (2, [.null, .null, .null, .int 0])) 4) (b := 109) (by rw [hn_1, hs_1, s6]) (hn_eq _ _ _ (by rw [hs_1, s6]))
  have N7 : Nw (hn (hs v6 32 (clE 6)) (.inr (2, [.null, .null, .null, .int 0])) 4) v7 v6.1 3 14 := by rw [s6]; exact N7
  obtain ⟨s7, m7, f7, g7⟩ := N7.fr
  have g7 := g7 (by rw [s6]; decide)
  rw [s6] at s7 f7
  have s7 : v7.1 = 113 := s7
  have p7 : pf (hg v7 32) 10 6 (.object "CarpetLands$Dyeing") (.ref 109) = some (clE 7) := by rw [g7]; exact pf_o rfl _
  obtain ⟨u1, hu1⟩ : ∃ u1, u1 = hn (hs v7 32 (clE 7)) (rfA 4 4 (fun _ => none)) 4 := ⟨_, rfl⟩
  have t1 : u1.1 = 114 := by rw [hu1, hn_1, hs_1, s7]
  have b1 : hg u1 32 = clE 7 := by rw [hu1, hn_ne _ _ _ (by rw [hs_1, s7]; decide), hs_eq]
  have p8 : pf (hg u1 32) 10 7 (.array (.object "CarpetLands$Sheet")) (.ref 113) = some (clE 8) := by rw [b1]; exact pf_a rfl _
  obtain ⟨u2, hu2⟩ : ∃ u2, u2 = hn (hs u1 32 (clE 8)) (nwA 6 (fun _ => 0)) 6 := ⟨_, rfl⟩
  have t2 : u2.1 = 115 := by rw [hu2, hn_1, hs_1, t1]
  have b2 : hg u2 32 = clE 8 := by rw [hu2, hn_ne _ _ _ (by rw [hs_1, t1]; decide), hs_eq]
  have p9 : pf (hg u2 32) 10 8 (.array .int) (.ref 114) = some (clE 9) := by rw [b2]; exact pf_a rfl _
  have p10 : pf (clE 9) 10 9 .int (.int 0) = some (clE 9) := pf_i rfl _
  obtain ⟨w9, hw9⟩ : ∃ w9, w9 = hs u2 32 (clE 9) := ⟨_, rfl⟩
  have n9 : w9.1 = 115 := by rw [hw9, hs_1, t2]
  have nm9 : w9.2.1 = v7.2.1 + 4 + 6 := by rw [hw9, hs_2, hu2, hn_2, hs_2, hu1, hn_2, hs_2]
  have b9 : hg w9 32 = clE 9 := by rw [hw9, hs_eq]
  have p11 : pf (hg w9 32) 10 9 .int (.int 0) = some (clE 9) := by rw [b9]; exact pf_i rfl _
  have e9 : hs w9 32 (clE 9) = w9 := by rw [← b9, hs_same]
  have e113 : hg w9 113 = rfA 4 4 (fun _ => none) := by rw [hw9, hs_ne _ _ (by decide), hu2, hn_ne _ _ _ (by rw [hs_1, t1]; decide), hs_ne _ _ (by decide), hu1, hn_eq _ _ _ (by rw [hs_1, s7])]
  have e114 : hg w9 114 = nwA 6 (fun _ => 0) := by rw [hw9, hs_ne _ _ (by decide), hu2, hn_eq _ _ _ (by rw [hs_1, t1])]
  have fr9 : ∀ j, j < 113 → j ≠ 32 → hg w9 j = hg v7 j := fun j j1 j2 => by rw [hw9, hs_ne _ _ j2, hu2, hn_ne _ _ _ (by rw [hs_1, t1]; omega), hs_ne _ _ j2, hu1, hn_ne _ _ _ (by rw [hs_1, s7]; omega), hs_ne _ _ j2]
  obtain ⟨u, l1, l2, l3, l4, ⟨W, l5, l6⟩, l7⟩ := loopE (fun k (u : AH) => Ex M_X11_init 60 104 [some (.ref 32), some (.int (nI k))] [] u) (fun k u => u.1 = 115 + 2 * k ∧ u.2.1 = w9.2.1 + 43 * k ∧ (∀ j, j < 115 → j ≠ 113 → hg u j = hg w9 j) ∧ (∃ W, hg u 113 = rfA 4 4 W ∧ ∀ j, j < k → W j = some (115 + 2 * j)) ∧ ∀ j, j < k → ShAt u (115 + 2 * j) 0 0 (fun _ => 0)) 4 (by
    intro k u hk ⟨i1, i2, i3, ⟨W, i4, i5⟩, i6⟩
    have q1 : ((4 : Int32) ≤ nI k) = False := by rw [show (4 : Int32) = nI 4 from rfl, le_nI (by decide) (by omega)]; apply eq_false; omega
    have g0 : gf (hg u 32) 10 7 = some (.ref 113) := by rw [i3 32 (by omega) (by omega), b9]; rfl
    obtain ⟨v, d1, ⟨d2, d3, d4⟩, d5, d6⟩ := s_newSheet (w := hn u (.inr (7, [.null, .int 0, .int 0])) 3) (b := 115 + 2 * k) (by rw [hn_1, i1]) (hn_eq _ _ _ i1.symm)
    rw [hn_1] at d2 d4
    rw [hn_2] at d3
    have e4 : hg v 113 = rfA 4 4 W := by rw [d4 113 (by omega) (by omega), hn_ne _ _ _ (by omega), i4]
    have uq := uQ_3 (t := 4) (n := 4) (W := W) (e := hg v (115 + 2 * k)) (k := k) (x := 115 + 2 * k) (Or.inr rfl) d6 hk (by decide)
    refine ⟨hs v 113 (rfA 4 4 (va_up W k (some (115 + 2 * k)))), ?_, by rw [hs_1]; omega, by rw [hs_2]; omega, fun j j1 j2 => by rw [hs_ne _ _ j2, d4 j (by omega) (by omega), hn_ne _ _ _ (by omega), i3 j j1 j2], ⟨_, hs_eq _ _ _, fun j hj => ?_⟩, fun j hj => ?_⟩
    · rw [H_X11_init_104]
      simp only [R_X11_init_p0, R_X11_init_p1, SB, q1, if_false, if_true, g0, i1, d1, e4, uq, ls1s, nI_1]
    · unfold va_up
      by_cases z : j = k
      · rw [if_pos z, z]
      · rw [if_neg z]; exact i5 j (by omega)
    · by_cases z : j = k
      · rw [z]; exact d5.keep (hs_ne _ _ (by omega)) (hs_ne _ _ (by omega))
      · refine (i6 j (by omega)).keep ?_ ?_
        · rw [hs_ne _ _ (by omega), d4 _ (by omega) (by omega), hn_ne _ _ _ (by omega)]
        · rw [hs_ne _ _ (by omega), d4 _ (by omega) (by omega), hn_ne _ _ _ (by omega)]) w9 ⟨by rw [n9], by omega, fun _ _ _ => rfl, ⟨fun _ => none, e113, fun j hj => absurd hj (by omega)⟩, fun j hj => absurd hj (by omega)⟩
  have F7 : ∀ j, j < 113 → j ≠ 32 → hg u j = hg v7 j := fun j a1 a2 => by rw [l4 j (by omega) (by omega), fr9 j a1 a2]
  have F6 : ∀ j, j < 109 → j ≠ 32 → hg u j = hg v6 j := fun j a1 a2 => by rw [F7 j (by omega) a2, f7 j (by omega) a2]
  have F5 : ∀ j, j < 105 → j ≠ 32 → hg u j = hg v5 j := fun j a1 a2 => by rw [F6 j (by omega) a2, f6 j (by omega) a2]
  have F4 : ∀ j, j < 102 → j ≠ 32 → hg u j = hg v4 j := fun j a1 a2 => by rw [F5 j (by omega) a2, f5 j (by omega) a2]
  have F3 : ∀ j, j < 99 → j ≠ 32 → hg u j = hg v3 j := fun j a1 a2 => by rw [F4 j (by omega) a2, f4 j (by omega) a2]
  have F2 : ∀ j, j < 77 → j ≠ 32 → hg u j = hg v2 j := fun j a1 a2 => by rw [F3 j (by omega) a2, f3 j (by omega) a2]
  have F1 : ∀ j, j < 55 → j ≠ 32 → hg u j = hg v1 j := fun j a1 a2 => by rw [F2 j (by omega) a2, f2 j (by omega) a2]
  have F0 : ∀ j, j < 32 → hg u j = hg w j := fun j a1 => by rw [F1 j (by omega) (by omega), f1 j (by omega) (by omega)]
  have ub : hg u 32 = clE 9 := by rw [l4 32 (by omega) (by omega), b9]
  have A4 : hg v4 99 = .inr (4, [.ref 100, .ref 100, .ref 3, .int 0, .int 0]) ∧ hg v4 100 = .inr (6, [.ref 101, .int 0]) ∧ hg v4 101 = nwA 50 (fun _ => 0) := A4
  have A5 : hg v5 102 = .inr (8, [.ref 103, .int 0, .int 0, .int 0]) ∧ RowAt v5 103 104 40 0 (fun _ => 0) := A5
  have A6 : hg v6 105 = .inr (5, [.ref 106, .ref 107, .ref 108]) ∧ ∀ j, j < 3 → hg v6 (106 + j) = arL 4 (fun _ => 0) := A6
  have r4 : RdAt u 0 (fun _ => 0) := by
    unfold RdAt
    rw [F4 99 (by omega) (by omega), F4 100 (by omega) (by omega), F4 101 (by omega) (by omega)]
    exact ⟨⟨_, _, _, _, A4.1⟩, A4.2.1, A4.2.2, by decide⟩
  have r5 : VoA u (0, fun _ => 0) := by
    refine VoA.keep (w := v5) ⟨by rw [A5.1]; rfl, ⟨0, 0, 0, by rw [A5.1]; rfl, by rw [A5.1]; rfl, by rw [A5.1]; rfl⟩, A5.2⟩ (fun j _ _ => F5 j (by omega) (by omega))
  have r6 : RoA u := by
    refine RoA.keep (w := v6) ⟨by rw [A6.1]; rfl, by rw [A6.1]; rfl, by rw [A6.1]; rfl, fun j hj => ⟨_, A6.2 j hj⟩⟩ (fun j _ _ => F6 j (by omega) (by omega))
  refine ⟨u, ?_, l2, by omega, ⟨by rw [ub]; rfl, by rw [ub]; rfl, by rw [ub]; rfl, by rw [ub]; rfl, by rw [ub]; rfl, by rw [ub]; rfl, by rw [ub]; rfl, by rw [ub]; rfl, by rw [ub]; rfl, by rw [ub]; rfl, A1.keep (fun j _ _ => F1 j (by omega) (by omega)), A2.keep (fun j _ _ => F2 j (by omega) (by omega)), ⟨_, A3.keep (fun j _ _ => F3 j (by omega) (by omega))⟩, ⟨_, _, r4⟩, r5, r6, ⟨_, _, _, _, A7.keep (fun j _ _ => F7 j (by omega) (by omega))⟩, ⟨W, l5, l6⟩, fun k hk => l7 k hk, by rw [l4 114 (by omega) (by omega)]; exact e114, hst.keep (F0 _ (by omega)) (F0 _ (by omega)), hsr.keep (fun j hj => F0 j hj)⟩, F0⟩
  simp only [C_X11_init, R_X11_init_p0, R_X11_init_p1, SB, hw, c1, p1, hs_1, s1, c2, p2, s2, c3, p3, s3, c4, p4, s4, c5, p5, s5, c6, p6, s6, c7, p7, s7, ← hu1, p8, t1, ← hu2, p9, t2, ← hw9, p11, e9, ls1s, if_true]
  refine (show _ = _ from rfl).trans (l1.trans ?_)
  rw [H_X11_init_104]
  simp only [R_X11_init_p0, R_X11_init_p1, SB, show ((4 : Int32) ≤ nI 4) = True from by decide, if_true]
