/-! ===== the model, new ===== -/
def moE : Nat → va_E
  | 0 => .inr (11, [.null, .null, .int 0, .null, .null, .int 0, .int 0, .int 0, .int 0, .int 0, .int 0, .null, .null, .int 0, .null, .int 0, .int 0, .int 0, .null, .null, .null, .int 0, .int 0, .null, .null, .null, .null])
  | 1 => .inr (11, [.ref 124, .null, .int 0, .null, .null, .int 0, .int 0, .int 0, .int 0, .int 0, .int 0, .null, .null, .int 0, .null, .int 0, .int 0, .int 0, .null, .null, .null, .int 0, .int 0, .null, .null, .null, .null])
  | 2 => .inr (11, [.ref 124, .ref 125, .int 0, .null, .null, .int 0, .int 0, .int 0, .int 0, .int 0, .int 0, .null, .null, .int 0, .null, .int 0, .int 0, .int 0, .null, .null, .null, .int 0, .int 0, .null, .null, .null, .null])
  | 3 => .inr (11, [.ref 124, .ref 125, .int 0, .ref 126, .null, .int 0, .int 0, .int 0, .int 0, .int 0, .int 0, .null, .null, .int 0, .null, .int 0, .int 0, .int 0, .null, .null, .null, .int 0, .int 0, .null, .null, .null, .null])
  | 4 => .inr (11, [.ref 124, .ref 125, .int 0, .ref 126, .ref 127, .int 0, .int 0, .int 0, .int 0, .int 0, .int 0, .null, .null, .int 0, .null, .int 0, .int 0, .int 0, .null, .null, .null, .int 0, .int 0, .null, .null, .null, .null])
  | 5 => .inr (11, [.ref 124, .ref 125, .int 0, .ref 126, .ref 127, .int 0, .int 0, .int 0, .int 0, .int 0, .int 0, .ref 128, .null, .int 0, .null, .int 0, .int 0, .int 0, .null, .null, .null, .int 0, .int 0, .null, .null, .null, .null])
  | 6 => .inr (11, [.ref 124, .ref 125, .int 0, .ref 126, .ref 127, .int 0, .int 0, .int 0, .int 0, .int 0, .int 0, .ref 128, .ref 129, .int 0, .null, .int 0, .int 0, .int 0, .null, .null, .null, .int 0, .int 0, .null, .null, .null, .null])
  | 7 => .inr (11, [.ref 124, .ref 125, .int 0, .ref 126, .ref 127, .int 0, .int 0, .int 0, .int 0, .int 0, .int 0, .ref 128, .ref 129, .int 0, .ref 130, .int 0, .int 0, .int 0, .null, .null, .null, .int 0, .int 0, .null, .null, .null, .null])
  | 8 => .inr (11, [.ref 124, .ref 125, .int 0, .ref 126, .ref 127, .int 0, .int 0, .int 0, .int 0, .int 0, .int 0, .ref 128, .ref 129, .int 0, .ref 130, .int 0, .int 0, .int 0, .ref 131, .null, .null, .int 0, .int 0, .null, .null, .null, .null])
  | 9 => .inr (11, [.ref 124, .ref 125, .int 0, .ref 126, .ref 127, .int 0, .int 0, .int 0, .int 0, .int 0, .int 0, .ref 128, .ref 129, .int 0, .ref 130, .int 0, .int 0, .int 0, .ref 131, .ref 132, .null, .int 0, .int 0, .null, .null, .null, .null])
  | 10 => .inr (11, [.ref 124, .ref 125, .int 0, .ref 126, .ref 127, .int 0, .int 0, .int 0, .int 0, .int 0, .int 0, .ref 128, .ref 129, .int 0, .ref 130, .int 0, .int 0, .int 0, .ref 131, .ref 132, .ref 133, .int 0, .int 0, .null, .null, .null, .null])
  | 11 => .inr (11, [.ref 124, .ref 125, .int 0, .ref 126, .ref 127, .int 0, .int 0, .int 0, .int 0, .int 0, .int 0, .ref 128, .ref 129, .int 0, .ref 130, .int 0, .int 0, .int 0, .ref 131, .ref 132, .ref 133, .int 0, .int 0, .ref 134, .null, .null, .null])
  | 12 => .inr (11, [.ref 124, .ref 125, .int 0, .ref 126, .ref 127, .int 0, .int 0, .int 0, .int 0, .int 0, .int 0, .ref 128, .ref 129, .int 0, .ref 130, .int 0, .int 0, .int 0, .ref 131, .ref 132, .ref 133, .int 0, .int 0, .ref 134, .ref 135, .null, .null])
  | 13 => .inr (11, [.ref 124, .ref 125, .int 0, .ref 126, .ref 127, .int 0, .int 0, .int 0, .int 0, .int 0, .int 0, .ref 128, .ref 129, .int 0, .ref 130, .int 0, .int 0, .int 0, .ref 131, .ref 132, .ref 133, .int 0, .int 0, .ref 134, .ref 135, .ref 136, .null])
  | _ => .inr (11, [.ref 124, .ref 125, .int 0, .ref 126, .ref 127, .int 0, .int 0, .int 0, .int 0, .int 0, .int 0, .ref 128, .ref 129, .int 0, .ref 130, .int 0, .int 0, .int 0, .ref 131, .ref 132, .ref 133, .int 0, .int 0, .ref 134, .ref 135, .ref 136, .ref 137])
theorem mkarr {w : AH} {b n : Nat} {F X : va_E} (hw : w.1 = b) (hb : 123 < b) : ∃ u, u = hs (hn w X n) 123 F ∧ u.1 = b + 1 ∧ u.2.1 = w.2.1 + n ∧ hg u 123 = F ∧ hg u b = X ∧ ∀ j, j ≠ 123 → j ≠ b → hg u j = hg w j :=
  ⟨_, rfl, by rw [hs_1, hn_1, hw], by rw [hs_2, hn_2], hs_eq _ _ _, by rw [hs_ne _ _ (by omega), hn_eq _ _ _ hw.symm], fun j j1 j2 => by rw [hs_ne _ _ j1, hn_ne _ _ _ (by omega)]⟩
abbrev arT (t n : Nat) (F : Nat → Int32) : va_E := .inl (t, n, .inl F)
def D0f (D : Nat → Int32) : Prop := (∀ k, k < 36 → D (5 + k) = 1) ∧ D 2 = 1 ∧ ∀ j, j ≠ 2 → j < 5 ∨ 41 ≤ j → D j = 0
theorem s_newModel {w : AH} (hw : w.1 = 124) (h : hg w 123 = moE 0) : ∃ v D, Call M_X12_init 60 [.ref 123] w = some (none, v) ∧ v.1 = 138 ∧ v.2.1 ≤ w.2.1 + 2000 ∧ (∀ j, j < 123 → hg v j = hg w j) ∧ D0f D ∧ v = mw v (fun _ => 0) (upA (fun _ _ => 0) 0 D) := by
  have p1 : pf (hg (hn w (arT 0 269 (fun _ => 0)) 269) 123) 11 0 (.array .int) (.ref 124) = some (moE 1) := by rw [hn_ne _ _ _ (by rw [hw]; decide), h]; exact pf_a rfl _
  obtain ⟨w1, e1, s1, m1, g1, a1, f1⟩ := mkarr (w := w) (b := 124) (n := 269) (F := moE 1) (X := arT 0 269 (fun _ => 0)) hw (by decide)
  have p2 : pf (hg (hn w1 (arT 0 269 (fun _ => 0)) 269) 123) 11 1 (.array .int) (.ref 125) = some (moE 2) := by rw [hn_ne _ _ _ (by rw [s1]; decide), g1]; exact pf_a rfl _
  obtain ⟨w2, e2, s2, m2, g2, a2, f2⟩ := mkarr (w := w1) (b := 125) (n := 269) (F := moE 2) (X := arT 0 269 (fun _ => 0)) s1 (by decide)
  have p3 : pf (hg (hn w2 (arT 0 6 (fun _ => 0)) 6) 123) 11 3 (.array .int) (.ref 126) = some (moE 3) := by rw [hn_ne _ _ _ (by rw [s2]; decide), g2]; exact pf_a rfl _
  obtain ⟨w3, e3, s3, m3, g3, a3, f3⟩ := mkarr (w := w2) (b := 126) (n := 6) (F := moE 3) (X := arT 0 6 (fun _ => 0)) s2 (by decide)
  have p4 : pf (hg (hn w3 (arT 0 97 (fun _ => 0)) 97) 123) 11 4 (.array .int) (.ref 127) = some (moE 4) := by rw [hn_ne _ _ _ (by rw [s3]; decide), g3]; exact pf_a rfl _
  obtain ⟨w4, e4, s4, m4, g4, a4, f4⟩ := mkarr (w := w3) (b := 127) (n := 97) (F := moE 4) (X := arT 0 97 (fun _ => 0)) s3 (by decide)
  have p5 : pf (hg (hn w4 (arT 0 3 (fun _ => 0)) 3) 123) 11 11 (.array .int) (.ref 128) = some (moE 5) := by rw [hn_ne _ _ _ (by rw [s4]; decide), g4]; exact pf_a rfl _
  obtain ⟨w5, e5, s5, m5, g5, a5, f5⟩ := mkarr (w := w4) (b := 128) (n := 3) (F := moE 5) (X := arT 0 3 (fun _ => 0)) s4 (by decide)
  have p6 : pf (hg (hn w5 (arT 0 36 (fun _ => 0)) 36) 123) 11 12 (.array .int) (.ref 129) = some (moE 6) := by rw [hn_ne _ _ _ (by rw [s5]; decide), g5]; exact pf_a rfl _
  obtain ⟨w6, e6, s6, m6, g6, a6, f6⟩ := mkarr (w := w5) (b := 129) (n := 36) (F := moE 6) (X := arT 0 36 (fun _ => 0)) s5 (by decide)
  have p7 : pf (hg (hn w6 (arT 2 36 (fun _ => 0)) 36) 123) 11 14 (.array .boolean) (.ref 130) = some (moE 7) := by rw [hn_ne _ _ _ (by rw [s6]; decide), g6]; exact pf_a rfl _
  obtain ⟨w7, e7, s7, m7, g7, a7, f7⟩ := mkarr (w := w6) (b := 130) (n := 36) (F := moE 7) (X := arT 2 36 (fun _ => 0)) s6 (by decide)
  have p8 : pf (hg (hn w7 (arT 0 180 (fun _ => 0)) 180) 123) 11 18 (.array .int) (.ref 131) = some (moE 8) := by rw [hn_ne _ _ _ (by rw [s7]; decide), g7]; exact pf_a rfl _
  obtain ⟨w8, e8, s8, m8, g8, a8, f8⟩ := mkarr (w := w7) (b := 131) (n := 180) (F := moE 8) (X := arT 0 180 (fun _ => 0)) s7 (by decide)
  have p9 : pf (hg (hn w8 (arT 0 180 (fun _ => 0)) 180) 123) 11 19 (.array .int) (.ref 132) = some (moE 9) := by rw [hn_ne _ _ _ (by rw [s8]; decide), g8]; exact pf_a rfl _
  obtain ⟨w9, e9, s9, m9, g9, a9, f9⟩ := mkarr (w := w8) (b := 132) (n := 180) (F := moE 9) (X := arT 0 180 (fun _ => 0)) s8 (by decide)
  have p10 : pf (hg (hn w9 (arT 0 40 (fun _ => 0)) 40) 123) 11 20 (.array .int) (.ref 133) = some (moE 10) := by rw [hn_ne _ _ _ (by rw [s9]; decide), g9]; exact pf_a rfl _
  obtain ⟨w10, e10, s10, m10, g10, a10, f10⟩ := mkarr (w := w9) (b := 133) (n := 40) (F := moE 10) (X := arT 0 40 (fun _ => 0)) s9 (by decide)
  have p11 : pf (hg (hn w10 (arT 0 4 (fun _ => 0)) 4) 123) 11 23 (.array .int) (.ref 134) = some (moE 11) := by rw [hn_ne _ _ _ (by rw [s10]; decide), g10]; exact pf_a rfl _
  obtain ⟨w11, e11, s11, m11, g11, a11, f11⟩ := mkarr (w := w10) (b := 134) (n := 4) (F := moE 11) (X := arT 0 4 (fun _ => 0)) s10 (by decide)
  have p12 : pf (hg (hn w11 (arT 0 4 (fun _ => 0)) 4) 123) 11 24 (.array .int) (.ref 135) = some (moE 12) := by rw [hn_ne _ _ _ (by rw [s11]; decide), g11]; exact pf_a rfl _
  obtain ⟨w12, e12, s12, m12, g12, a12, f12⟩ := mkarr (w := w11) (b := 135) (n := 4) (F := moE 12) (X := arT 0 4 (fun _ => 0)) s11 (by decide)
  have p13 : pf (hg (hn w12 (arT 0 160 (fun _ => 0)) 160) 123) 11 25 (.array .int) (.ref 136) = some (moE 13) := by rw [hn_ne _ _ _ (by rw [s12]; decide), g12]; exact pf_a rfl _
  obtain ⟨w13, e13, s13, m13, g13, a13, f13⟩ := mkarr (w := w12) (b := 136) (n := 160) (F := moE 13) (X := arT 0 160 (fun _ => 0)) s12 (by decide)
  have p14 : pf (hg (hn w13 (arT 0 40 (fun _ => 0)) 40) 123) 11 26 (.array .int) (.ref 137) = some (moE 14) := by rw [hn_ne _ _ _ (by rw [s13]; decide), g13]; exact pf_a rfl _
  obtain ⟨w14, e14, s14, m14, g14, a14, f14⟩ := mkarr (w := w13) (b := 137) (n := 40) (F := moE 14) (X := arT 0 40 (fun _ => 0)) s13 (by decide)
  have G : ∀ j, j < 14 → hg w14 (124 + j) = mar (fun _ _ => 0) j := by
    intro j hj
    rcases (show j = 0 ∨ j = 1 ∨ j = 2 ∨ j = 3 ∨ j = 4 ∨ j = 5 ∨ j = 6 ∨ j = 7 ∨ j = 8 ∨ j = 9 ∨ j = 10 ∨ j = 11 ∨ j = 12 ∨ j = 13 by omega) with rfl | rfl | rfl | rfl | rfl | rfl | rfl | rfl | rfl | rfl | rfl | rfl | rfl | rfl
    · show hg w14 124 = _
      rw [f14 124 (by decide) (by decide), f13 124 (by decide) (by decide), f12 124 (by decide) (by decide), f11 124 (by decide) (by decide), f10 124 (by decide) (by decide), f9 124 (by decide) (by decide), f8 124 (by decide) (by decide), f7 124 (by decide) (by decide), f6 124 (by decide) (by decide), f5 124 (by decide) (by decide), f4 124 (by decide) (by decide), f3 124 (by decide) (by decide), f2 124 (by decide) (by decide), a1]; rfl
    · show hg w14 125 = _
      rw [f14 125 (by decide) (by decide), f13 125 (by decide) (by decide), f12 125 (by decide) (by decide), f11 125 (by decide) (by decide), f10 125 (by decide) (by decide), f9 125 (by decide) (by decide), f8 125 (by decide) (by decide), f7 125 (by decide) (by decide), f6 125 (by decide) (by decide), f5 125 (by decide) (by decide), f4 125 (by decide) (by decide), f3 125 (by decide) (by decide), a2]; rfl
    · show hg w14 126 = _
      rw [f14 126 (by decide) (by decide), f13 126 (by decide) (by decide), f12 126 (by decide) (by decide), f11 126 (by decide) (by decide), f10 126 (by decide) (by decide), f9 126 (by decide) (by decide), f8 126 (by decide) (by decide), f7 126 (by decide) (by decide), f6 126 (by decide) (by decide), f5 126 (by decide) (by decide), f4 126 (by decide) (by decide), a3]; rfl
    · show hg w14 127 = _
      rw [f14 127 (by decide) (by decide), f13 127 (by decide) (by decide), f12 127 (by decide) (by decide), f11 127 (by decide) (by decide), f10 127 (by decide) (by decide), f9 127 (by decide) (by decide), f8 127 (by decide) (by decide), f7 127 (by decide) (by decide), f6 127 (by decide) (by decide), f5 127 (by decide) (by decide), a4]; rfl
    · show hg w14 128 = _
      rw [f14 128 (by decide) (by decide), f13 128 (by decide) (by decide), f12 128 (by decide) (by decide), f11 128 (by decide) (by decide), f10 128 (by decide) (by decide), f9 128 (by decide) (by decide), f8 128 (by decide) (by decide), f7 128 (by decide) (by decide), f6 128 (by decide) (by decide), a5]; rfl
    · show hg w14 129 = _
      rw [f14 129 (by decide) (by decide), f13 129 (by decide) (by decide), f12 129 (by decide) (by decide), f11 129 (by decide) (by decide), f10 129 (by decide) (by decide), f9 129 (by decide) (by decide), f8 129 (by decide) (by decide), f7 129 (by decide) (by decide), a6]; rfl
    · show hg w14 130 = _
      rw [f14 130 (by decide) (by decide), f13 130 (by decide) (by decide), f12 130 (by decide) (by decide), f11 130 (by decide) (by decide), f10 130 (by decide) (by decide), f9 130 (by decide) (by decide), f8 130 (by decide) (by decide), a7]; rfl
    · show hg w14 131 = _
      rw [f14 131 (by decide) (by decide), f13 131 (by decide) (by decide), f12 131 (by decide) (by decide), f11 131 (by decide) (by decide), f10 131 (by decide) (by decide), f9 131 (by decide) (by decide), a8]; rfl
    · show hg w14 132 = _
      rw [f14 132 (by decide) (by decide), f13 132 (by decide) (by decide), f12 132 (by decide) (by decide), f11 132 (by decide) (by decide), f10 132 (by decide) (by decide), a9]; rfl
    · show hg w14 133 = _
      rw [f14 133 (by decide) (by decide), f13 133 (by decide) (by decide), f12 133 (by decide) (by decide), f11 133 (by decide) (by decide), a10]; rfl
    · show hg w14 134 = _
      rw [f14 134 (by decide) (by decide), f13 134 (by decide) (by decide), f12 134 (by decide) (by decide), a11]; rfl
    · show hg w14 135 = _
      rw [f14 135 (by decide) (by decide), f13 135 (by decide) (by decide), a12]; rfl
    · show hg w14 136 = _
      rw [f14 136 (by decide) (by decide), a13]; rfl
    · show hg w14 137 = _
      rw [a14]; rfl
  have G0 : hg w14 124 = arT 0 269 (fun _ => 0) := G 0 (by decide)
  have gd : ∀ D : Nat → Int32, gf (hg (hs w14 124 (arT 0 269 D)) 123) 11 0 = some (.ref 124) := fun D => by rw [hs_ne _ _ (by decide), g14]; rfl
  have gd0 : gf (hg w14 123) 11 0 = some (.ref 124) := by rw [g14]; rfl
  have gd1 : gf (moE 14) 11 0 = some (.ref 124) := rfl
  have u2 : uI (arT 0 269 (fun _ => 0)) 2 1 = some (arT 0 269 (upd (fun _ => 0) 2 1)) := uI_0 (k := 2) (by decide) (by decide)
  obtain ⟨D, l1, l2, l3⟩ := loopE (fun k (D : Nat → Int32) => Ex M_X12_init 60 127 [some (.ref 123), some (.int (nI k))] [] (hs w14 124 (arT 0 269 D))) (fun k D => (∀ j, j < k → D (5 + j) = 1) ∧ ∀ j, j < 5 ∨ 41 ≤ j → D j = upd (fun _ => 0) 2 1 j) 36 (by
    intro k D hk ⟨i1, i2⟩
    have q1 : ((36 : Int32) ≤ nI k) = False := by rw [show (36 : Int32) = nI 36 from rfl, le_nI (by decide) (by omega)]; apply eq_false; omega
    have q2 : (5 : Int32) + nI k = nI (5 + k) := nI_add 5 k
    refine ⟨upd D (5 + k) 1, ?_, fun j hj => ?_, fun j hj => ?_⟩
    · rw [H_X12_init_127]
      simp only [R_X12_init_p0, R_X12_init_p1, SB, q1, if_false, if_true, gd, q2, hs_eq, uI_0 (show 5 + k < 269 by omega) (show 269 ≤ 2147483648 by decide), hs_hs, ls1s, nI_1]
    · unfold upd
      by_cases z : j = k
      · rw [if_pos (by rw [z])]
      · rw [if_neg (by omega)]; exact i1 j (by omega)
    · rw [upd_n (by omega)]; exact i2 j hj) (upd (fun _ => 0) 2 1) ⟨fun j hj => absurd hj (by omega), fun _ _ => rfl⟩
  have K : ∀ j, j ≠ 124 → hg (hs w14 124 (arT 0 269 D)) j = hg w14 j := fun j hj => hs_ne _ _ hj
  refine ⟨hs w14 124 (arT 0 269 D), D, ?_, by rw [hs_1, s14], by rw [hs_2]; omega, fun j hj => ?_, ⟨l2, by rw [l3 2 (by omega)]; rfl, fun j j1 j2 => by rw [l3 j j2]; exact upd_n j1⟩, (mw_same ?_ (fun j hj => ?_)).symm⟩
  · simp only [C_X12_init, R_X12_init_p0, R_X12_init_p1, SB, hw, p1, ← e1, s1, p2, ← e2, s2, p3, ← e3, s3, p4, ← e4, s4, p5, ← e5, s5, p6, ← e6, s6, p7, ← e7, s7, p8, ← e8, s8, p9, ← e9, s9, p10, ← e10, s10, p11, ← e11, s11, p12, ← e12, s12, p13, ← e13, s13, p14, ← e14, s14, gd0, G0, u2, ls1s, if_true]
    refine (show _ = _ from rfl).trans (l1.trans ?_)
    rw [H_X12_init_127]
    simp only [R_X12_init_p0, R_X12_init_p1, SB, show ((36 : Int32) ≤ nI 36) = True from by decide, if_true]
  · rw [K j (by omega), f14 j (by omega) (by omega), f13 j (by omega) (by omega), f12 j (by omega) (by omega), f11 j (by omega) (by omega), f10 j (by omega) (by omega), f9 j (by omega) (by omega), f8 j (by omega) (by omega), f7 j (by omega) (by omega), f6 j (by omega) (by omega), f5 j (by omega) (by omega), f4 j (by omega) (by omega), f3 j (by omega) (by omega), f2 j (by omega) (by omega), f1 j (by omega) (by omega)]
  · rw [K 123 (by decide), g14]; rfl
  · by_cases z : j = 0
    · subst z
      exact hs_eq _ _ _
    · rw [K (124 + j) (by omega), G j hj]
      unfold mar
      rw [upA_n z]
theorem Md0 {D : Nat → Int32} (h : D0f D) : Md (fun _ => 0) (upA (fun _ _ => 0) 0 D) X0c := by
  obtain ⟨h1, h2, h3⟩ := h
  have z : ∀ j, j ≠ 2 → j < 5 ∨ 41 ≤ j → D j = nI 0 := fun j j1 j2 => h3 j j1 j2
  refine ⟨?_, fun x => absurd rfl x, rfl, by decide, by decide, fun _ _ => rfl, rfl, by decide, fun _ _ => rfl, fun _ _ => rfl, fun _ _ => rfl, fun _ _ _ i => absurd i (Nat.not_lt_zero _), fun _ _ _ i => absurd i (Nat.not_lt_zero _)⟩
  show DR D Co0
  refine ⟨z 0 (by decide) (by decide), z 1 (by decide) (by decide), h2, z 3 (by decide) (by decide), z 4 (by decide) (by decide), fun k hk => h1 k hk, fun k hk => z _ (by omega) (by omega), fun i hi => absurd hi (Nat.not_lt_zero _), ?_, ?_, fun k hk => absurd hk (Nat.not_lt_zero _), fun k hk => absurd hk (Nat.not_lt_zero _), fun _ _ => (by decide : (1 : Nat) < 8), fun _ _ => (by decide : (0 : Nat) < 100), fun i hi => absurd hi (Nat.not_lt_zero _), by decide, by decide, by decide, by decide, fun k hk => absurd hk (Nat.not_lt_zero _)⟩
  · exact ⟨0, z _ (by omega) (by omega), by decide, rfl, fun x => absurd x (by decide)⟩
  · exact ⟨0, z _ (by omega) (by omega), by decide, rfl, fun x => absurd x (by decide)⟩
