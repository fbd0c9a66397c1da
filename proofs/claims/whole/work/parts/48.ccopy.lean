/-! ===== Country: copyFrom ===== -/
def cpS (S T : Co) : Co := (T.1, T.2.1, T.2.2.1, T.2.2.2.1, (T.tape.1, cpyF T.tape.2 S.tape.2 T.tape.1), (T.wait.1, cpyF T.wait.2 S.wait.2 T.wait.1), T.2.2.2.2.2.2)
/-- the walkers of the one at g as those of T, the first n of them -/
theorem l_walkers {w : AH} {g h : Nat} {S T : Co} (hg1 : CoAt w g S) (hh : CoAt w h T) (hd : g + 22 ≤ h ∨ h + 22 ≤ g) (lv : Nat) : ∃ v, Ex M_X1_copyFrom lv 13 [some (.ref g), some (.ref h), some (.int (nI 0))] [] w = Ex M_X1_copyFrom lv 13 [some (.ref g), some (.ref h), some (.int (nI 5))] [] v ∧ (∀ k, k < 5 → WkAt v (g + 17 + k) (T.wk k 0) (T.wk k 1) (T.wk k 2) (T.wk k 3)) ∧ Fr (fun j => g + 17 ≤ j ∧ j < g + 22) w v := by
  obtain ⟨v, h1, h2, h3, h4⟩ := for_ex (fun k (_ : Unit) u => Ex M_X1_copyFrom lv 13 [some (.ref g), some (.ref h), some (.int (nI k))] [] u) (fun _ s => s) (fun n _ u => (∀ k, k < n → WkAt u (g + 17 + k) (T.wk k 0) (T.wk k 1) (T.wk k 2) (T.wk k 3)) ∧ (∀ k, n ≤ k → k < 5 → hg u (g + 17 + k) = hg w (g + 17 + k)) ∧ Fr (fun j => g + 17 ≤ j ∧ j < g + 22) w u) 5 (by
    intro k _ u hk hI
    obtain ⟨i1, i2, i3⟩ := hI
    have fr : ∀ j, ¬ (g + 17 ≤ j ∧ j < g + 22) → hg u j = hg w j := i3.2.2
    have a1 : WkAt u (g + 17 + k) (S.wk k 0) (S.wk k 1) (S.wk k 2) (S.wk k 3) := (hg1.wk k hk).keep (i2 k (Nat.le_refl _) hk)
    have a2 : WkAt u (h + 17 + k) (T.wk k 0) (T.wk k 1) (T.wk k 2) (T.wk k 3) := (hh.wk k hk).keep (fr _ (by omega))
    obtain ⟨e, c1, c2⟩ := s_Walker_copy a1 a2 (by omega) 60
    refine ⟨hs u (g + 17 + k) e, ?_, ?_, ?_, i3.trans (Fr.hs ⟨by omega, by omega⟩ e)⟩
    · obtain ⟨W, b1, b2⟩ := hg1.wks
      obtain ⟨V, b3, b4⟩ := hh.wks
      have g1 : gf (hg u g) 1 1 = some (.ref (g + 4)) := by rw [fr _ (by omega)]; exact hg1.k1
      have g2 : gf (hg u h) 1 1 = some (.ref (h + 4)) := by rw [fr _ (by omega)]; exact hh.k1
      have g3 : hg u (g + 4) = .inl (3, 5, .inr (.inr (.inr (.inr W)))) := by rw [fr _ (by omega)]; exact b1
      have g4 : hg u (h + 4) = .inl (3, 5, .inr (.inr (.inr (.inr V)))) := by rw [fr _ (by omega)]; exact b3
      have e2 : ((5 : Int32) ≤ nI k) = False := by rw [show (5 : Int32) = nI 5 from rfl, le_nI (by decide) (by omega)]; simp; omega
      rw [H_X1_copyFrom_13]
      simp only [R_X1_copyFrom_p0, SB, e2, if_false, if_true, g1, g2, g3, g4, aQ_3 hk (show 5 ≤ 2147483648 by decide), b2 k hk, b4 k hk, clK_gf a1.p0, c1, ls1s, nI_1]
    · intro j hj
      by_cases q : j = k
      · subst q; exact c2
      · exact (i1 j (by omega)).keep (hs_ne _ _ (by omega))
    · intro j hj hj5
      rw [hs_ne _ _ (by omega)]
      exact i2 j (by omega) hj5) 5 (Nat.le_refl _) () w ⟨fun k hk => absurd hk (by omega), fun _ _ _ => rfl, Fr.refl _ _⟩
  exact ⟨v, h1, h2, h4⟩
theorem Row_copy_fr {w : AH} {r a n L r2 a2 n2 L2 : Nat} {f g : Nat → Int32} (h : RowAt w r a n L f) (h2 : RowAt w r2 a2 n2 L2 g) (hd : r2 ≠ r ∧ r2 ≠ a ∧ a2 ≠ r ∧ a2 ≠ a) (hL : L2 ≤ n) (lv : Nat) : ∃ v, Call M_X6_copyFrom lv [.ref r, .ref r2] w = some (none, v) ∧ RowAt v r a n L2 (cpyF g f L2) ∧ Fr (fun j => j = r ∨ j = a) w v :=
  ⟨_, s_Row_copy h h2 hd hL lv, h.set hL, setRow_fr _ _ _ _ _ _ (Or.inl rfl) (Or.inr rfl)⟩
theorem s_Country_copy {w : AH} {g h : Nat} {S T : Co} (hg1 : CoAt w g S) (hh : CoAt w h T) (hd : g + 22 ≤ h ∨ h + 22 ≤ g) (lv : Nat) : ∃ v, Call M_X1_copyFrom lv [.ref g, .ref h] w = some (none, v) ∧ CoAt v g (cpS S T) ∧ Fr (CoP g) w v := by
  obtain ⟨v1, a1, a2, F1⟩ := s_Carpet_copy hg1.car hh.car (by omega) 60
  have f1 : ∀ j, j ≠ g + 2 → j ≠ g + 3 → hg v1 j = hg w j := fun j x y => F1.2.2 j (by omega)
  have H1 : CoAt v1 h T := hh.keep (fun j _ _ => f1 j (by omega) (by omega))
  have C1 : CoAt v1 g (S.upd3 T.col T.wear S.wk) := hg1.mk3 (fun j _ _ x y => f1 j x y) a2 (fun k hk => (hg1.wk k hk).keep (f1 _ (by omega) (by omega)))
  obtain ⟨v2, b1, b2, F2⟩ := l_walkers C1 H1 hd lv
  have f2 : ∀ j, ¬ (g + 17 ≤ j ∧ j < g + 22) → hg v2 j = hg v1 j := F2.2.2
  have H2 : CoAt v2 h T := H1.keep (fun j _ _ => f2 j (by omega))
  have p2 : LawV v2 (g + 5) S.pat := C1.pat.keep (f2 _ (by omega)) (f2 _ (by omega)) (f2 _ (by omega)) (f2 _ (by omega))
  obtain ⟨v3, c1, c2, F3⟩ := p2.learn H2.pat (by omega) 60
  have f3 : ∀ j, j ≠ g + 6 → j ≠ g + 7 → hg v3 j = hg v2 j := fun j x y => F3.2.2 j (by omega)
  have H3 : CoAt v3 h T := H2.keep (fun j _ _ => f3 j (by omega) (by omega))
  have p3 : LawV v3 (g + 9) S.wor := (C1.wor.keep (f2 _ (by omega)) (f2 _ (by omega)) (f2 _ (by omega)) (f2 _ (by omega))).keep (f3 _ (by omega) (by omega)) (f3 _ (by omega) (by omega)) (f3 _ (by omega) (by omega)) (f3 _ (by omega) (by omega))
  obtain ⟨v4, d1, d2, F4⟩ := p3.learn H3.wor (by omega) 60
  have f4 : ∀ j, j ≠ g + 10 → j ≠ g + 11 → hg v4 j = hg v3 j := fun j x y => F4.2.2 j (by omega)
  have H4 : CoAt v4 h T := H3.keep (fun j _ _ => f4 j (by omega) (by omega))
  have p4 : RowAt v4 (g + 13) (g + 14) 50 S.tape.1 S.tape.2 := hg1.tape.keep (by rw [f4 _ (by omega) (by omega), f3 _ (by omega) (by omega), f2 _ (by omega), f1 _ (by omega) (by omega)]) (by rw [f4 _ (by omega) (by omega), f3 _ (by omega) (by omega), f2 _ (by omega), f1 _ (by omega) (by omega)])
  obtain ⟨v5, x1, x2, F5⟩ := Row_copy_fr p4 H4.tape (by omega) H4.tape.2.2.2.2.1 60
  have f5 : ∀ j, j ≠ g + 13 → j ≠ g + 14 → hg v5 j = hg v4 j := fun j x y => F5.2.2 j (by omega)
  have H5 : CoAt v5 h T := H4.keep (fun j _ _ => f5 j (by omega) (by omega))
  have p5 : RowAt v5 (g + 15) (g + 16) 20 S.wait.1 S.wait.2 := hg1.wait.keep (by rw [f5 _ (by omega) (by omega), f4 _ (by omega) (by omega), f3 _ (by omega) (by omega), f2 _ (by omega), f1 _ (by omega) (by omega)]) (by rw [f5 _ (by omega) (by omega), f4 _ (by omega) (by omega), f3 _ (by omega) (by omega), f2 _ (by omega), f1 _ (by omega) (by omega)])
  obtain ⟨v6, y1, y2, F6⟩ := Row_copy_fr p5 H5.wait (by omega) H5.wait.2.2.2.2.1 60
  have f6 : ∀ j, j ≠ g + 15 → j ≠ g + 16 → hg v6 j = hg v5 j := fun j x y => F6.2.2 j (by omega)
  have H6 : CoAt v6 h T := H5.keep (fun j _ _ => f6 j (by omega) (by omega))
  have G2 : hg v2 g = hg w g := by rw [f2 _ (by omega), f1 _ (by omega) (by omega)]
  have G3 : hg v3 g = hg w g := by rw [f3 _ (by omega) (by omega), G2]
  have G4 : hg v4 g = hg w g := by rw [f4 _ (by omega) (by omega), G3]
  have G5 : hg v5 g = hg w g := by rw [f5 _ (by omega) (by omega), G4]
  have G6 : hg v6 g = hg w g := by rw [f6 _ (by omega) (by omega), G5]
  have t7 : gf (fput (hg w g) 6 (.int (nI T.nw))) 1 7 = some (.int (nI S.day)) := by rw [gf_put_n (by decide)]; exact hg1.k7
  have t8 : gf (fput (fput (hg w g) 6 (.int (nI T.nw))) 7 (.int (nI T.day))) 1 8 = some (.int S.z) := by rw [gf_put_n (by decide), gf_put_n (by decide)]; exact hg1.k8
  have nh : ∀ (u : AH) e, hg (hs u g e) h = hg u h := fun u e => hs_ne _ _ (by omega)
  have cp : ∀ (u : AH) (l : Nat) (t : Tx), LawV u l t → clK (hg u l) = 3 ∧ gf (hg u l) 3 0 = some (.ref (l + 1)) := fun u l t ⟨L, f, z, _, _⟩ => ⟨clK_gf z.p0, z.p0⟩
  have q2 := cp _ _ _ p2
  have q3 := cp _ _ _ p3
  have r2 := cp _ _ _ H2.pat
  have r3 := cp _ _ _ H3.wor
  refine ⟨hs v6 g (fput (fput (fput (hg w g) 6 (.int (nI T.nw))) 7 (.int (nI T.day))) 8 (.int T.z)), ?_, ?_, ?_⟩
  · simp only [C_X1_copyFrom, R_X1_copyFrom_p0, SB, hg1.k0, hh.k0, clK_gf hg1.car.p0, a1, if_true, ls1s, show (0 : Int32) = nI 0 from rfl]
    rw [b1, H_X1_copyFrom_13]
    simp only [R_X1_copyFrom_p0, R_X1_copyFrom_p1, SB, show ((5 : Int32) ≤ nI 5) = True from by rw [show (5 : Int32) = nI 5 from rfl]; simp, if_true, G2, G3, G4, G5, G6, hg1.k2, hg1.k3, hg1.k4, hg1.k5, H2.k2, H3.k3, H4.k4, H5.k5, r2.2, r3.2, q2.1, q3.1, c1, d1, clK_gf p4.1, clK_gf p5.1, x1, y1, H6.k6, H6.k7, H6.k8, pf_i hg1.k6, nh, pf_i t7, pf_i t8, hs_hs]
  · have z6 : ∀ e j, j ≠ g → hg (hs v6 g e) j = hg v6 j := fun e j x => hs_ne _ _ x
    have z5 : ∀ e j, g < j → j < g + 15 → hg (hs v6 g e) j = hg v5 j := fun e j x y => by rw [z6 _ _ (by omega), f6 _ (by omega) (by omega)]
    have z4 : ∀ e j, g < j → j < g + 13 → hg (hs v6 g e) j = hg v4 j := fun e j x y => by rw [z5 _ _ (by omega) (by omega), f5 _ (by omega) (by omega)]
    have z3 : ∀ e j, g < j → j < g + 10 → hg (hs v6 g e) j = hg v3 j := fun e j x y => by rw [z4 _ _ (by omega) (by omega), f4 _ (by omega) (by omega)]
    have z2 : ∀ e j, g < j → j < g + 6 → hg (hs v6 g e) j = hg v2 j := fun e j x y => by rw [z3 _ _ (by omega) (by omega), f3 _ (by omega) (by omega)]
    have z1 : ∀ e j, g < j → j < g + 6 → hg (hs v6 g e) j = hg v1 j := fun e j x y => by rw [z2 _ _ (by omega) (by omega), f2 _ (by omega)]
    have zk : ∀ e j, g + 17 ≤ j → j < g + 22 → hg (hs v6 g e) j = hg v2 j := fun e j x y => by rw [z6 _ _ (by omega), f6 _ (by omega) (by omega), f5 _ (by omega) (by omega), f4 _ (by omega) (by omega), f3 _ (by omega) (by omega)]
    refine ⟨?_, ?_, ?_, ?_, ?_, ?_, ?_, ?_, ?_, a2.keep (z1 _ _ (by omega) (by omega)) (z1 _ _ (by omega) (by omega)) (z1 _ _ (by omega) (by omega)), ?_, fun k hk => (b2 k hk).keep (zk _ _ (by omega) (by omega)), c2.keep (z3 _ _ (by omega) (by omega)) (z3 _ _ (by omega) (by omega)) (z3 _ _ (by omega) (by omega)) (z3 _ _ (by omega) (by omega)), d2.keep (z4 _ _ (by omega) (by omega)) (z4 _ _ (by omega) (by omega)) (z4 _ _ (by omega) (by omega)) (z4 _ _ (by omega) (by omega)), x2.keep (z5 _ _ (by omega) (by omega)) (z5 _ _ (by omega) (by omega)), y2.keep (z6 _ _ (by omega)) (z6 _ _ (by omega)), hh.rn, hh.rd⟩
    · rw [hs_eq, gf_put_n (by decide), gf_put_n (by decide), gf_put_n (by decide)]; exact hg1.k0
    · rw [hs_eq, gf_put_n (by decide), gf_put_n (by decide), gf_put_n (by decide)]; exact hg1.k1
    · rw [hs_eq, gf_put_n (by decide), gf_put_n (by decide), gf_put_n (by decide)]; exact hg1.k2
    · rw [hs_eq, gf_put_n (by decide), gf_put_n (by decide), gf_put_n (by decide)]; exact hg1.k3
    · rw [hs_eq, gf_put_n (by decide), gf_put_n (by decide), gf_put_n (by decide)]; exact hg1.k4
    · rw [hs_eq, gf_put_n (by decide), gf_put_n (by decide), gf_put_n (by decide)]; exact hg1.k5
    · rw [hs_eq, gf_put_n (by decide), gf_put_n (by decide)]; exact gf_put_s hg1.k6
    · rw [hs_eq, gf_put_n (by decide)]; exact gf_put_s t7
    · rw [hs_eq]; exact gf_put_s t8
    · rw [z1 _ _ (by omega) (by omega), f1 _ (by omega) (by omega)]; exact hg1.wks
  · have w1 : ∀ j, j = g + 1 + 1 ∨ j = g + 1 + 2 → CoP g j := fun j x => ⟨by omega, by omega⟩
    have w2 : ∀ j, g + 17 ≤ j ∧ j < g + 22 → CoP g j := fun j x => ⟨by omega, by omega⟩
    have w3 : ∀ j, j = g + 5 + 1 ∨ j = g + 5 + 2 → CoP g j := fun j x => ⟨by omega, by omega⟩
    have w4 : ∀ j, j = g + 9 + 1 ∨ j = g + 9 + 2 → CoP g j := fun j x => ⟨by omega, by omega⟩
    have w5 : ∀ j, j = g + 13 ∨ j = g + 14 → CoP g j := fun j x => ⟨by omega, by omega⟩
    have w6 : ∀ j, j = g + 15 ∨ j = g + 16 → CoP g j := fun j x => ⟨by omega, by omega⟩
    exact ((((((F1.wide w1).trans (F2.wide w2)).trans (F3.wide w3)).trans (F4.wide w4)).trans (F5.wide w5)).trans (F6.wide w6)).trans (Fr.hs (show CoP g g from ⟨by omega, by omega⟩) _)
