/-! ===== Dyeing: the floods ===== -/
abbrev DyS : Type := (Nat → Nat) × (Nat → Nat) × Nat
def lnN (sets : Nat → Nat) (land k : Nat) : Nat := gro (land ||| sets k) 36 (land &&& (land ||| sets k))
def flP (sets : Nat → Nat) : Nat → Nat → Nat → DyS → DyS
  | 0, land, _, s => (s.1, if s.2.2 < pc land then s.1 else s.2.1, if s.2.2 < pc land then pc land else s.2.2)
  | r + 1, land, dn, s => foldN (fun i t => flP sets r (lnN sets land (i + 1)) (dn + 1) (updN t.1 dn (i + 1), t.2)) 7 s
theorem lnN_lt {sets : Nat → Nat} {land k : Nat} (h : land < 2 ^ 36) (h2 : sets k < 2 ^ 36) : lnN sets land k < 2 ^ 36 := (gro_all h (Nat.or_lt_two_pow h h2)).1
theorem s_flood {d : Nat} {sets : Nat → Nat} (hs0 : ∀ k, k < 8 → sets k < 2 ^ 36) : ∀ (r lv land dn : Nat) (w : AH) (s : DyS), r ≤ lv → dn + r ≤ 3 → land < 2 ^ 36 → DyAt w d sets s.1 s.2.1 s.2.2 → ∃ v, Call M_X2_flood lv [.ref d, .long (lN land), .int (nI dn), .int (nI (dn + r))] w = some (none, v) ∧ DyAt v d sets (flP sets r land dn s).1 (flP sets r land dn s).2.1 (flP sets r land dn s).2.2 ∧ Fr (DyP d) w v := by
  intro r
  induction r with
  | zero =>
    intro lv land dn w s h1 h2 h3 h4
    have h5 : pc land < 1000 := Nat.lt_of_le_of_lt (cnt_le _ 40) (by decide)
    obtain ⟨v, a1, a2, a3⟩ := s_keepIfBetter h4 h5 60
    refine ⟨v, ?_, a2, a3⟩
    simp only [C_X2_flood, R_X2_flood, SB, Nat.add_zero, Int32.le_refl, if_true, s_bitCount land (Nat.lt_trans h3 (by decide)), clK_gf h4.p0, a1]
  | succ r ih =>
    intro lv land dn w s h1 h2 h3 h4
    obtain ⟨lv, rfl⟩ : ∃ l, lv = l + 1 := ⟨lv - 1, by omega⟩
    obtain ⟨v, b1, b2, b3⟩ := for_ex (fun i (t : DyS) u => Ex M_X2_flood (lv + 1) 23 [some (.ref d), some (.long (lN land)), none, some (.int (nI dn)), some (.int (nI (dn + (r + 1)))), some (.int (nI (i + 1)))] [] u) (fun i t => flP sets r (lnN sets land (i + 1)) (dn + 1) (updN t.1 dn (i + 1), t.2)) (fun _ t u => DyAt u d sets t.1 t.2.1 t.2.2 ∧ Fr (DyP d) w u) 7 (by
      intro i t u hi hI
      obtain ⟨i1, i2⟩ := hI
      have e1 : ((8 : Int32) ≤ nI (i + 1)) = False := by rw [show (8 : Int32) = nI 8 from rfl, le_nI (by decide) (by omega)]; simp; omega
      obtain ⟨e, p1, p2⟩ := i1.q1.put (by decide) (show dn < 3 by omega) (i + 1)
      have D2 : DyAt (hs u (d + 2) e) d sets (updN t.1 dn (i + 1)) t.2.1 t.2.2 := ⟨by rw [hs_ne _ _ (by omega)]; exact i1.p0, by rw [hs_ne _ _ (by omega)]; exact i1.p1, by rw [hs_ne _ _ (by omega)]; exact i1.p2, by rw [hs_ne _ _ (by omega)]; exact i1.p3, by rw [hs_ne _ _ (by omega)]; exact i1.q0, p2, i1.q2.keep (hs_ne _ _ (by omega)), i1.r⟩
      obtain ⟨G, q1, q2⟩ := D2.q0
      have l1 := hs0 (i + 1) (by omega)
      obtain ⟨v, c1, c2, c3⟩ := ih lv (lnN sets land (i + 1)) (dn + 1) _ (updN t.1 dn (i + 1), t.2) (by omega) (by omega) (lnN_lt h3 l1) D2
      refine ⟨v, ?_, c2, (i2.trans (Fr.hs (show DyP d (d + 2) from ⟨by omega, by omega⟩) e)).trans c3⟩
      rw [show dn + 1 + r = dn + (r + 1) by omega] at c1
      unfold lnN at c1
      rw [H_X2_flood_23]
      simp only [R_X2_flood, SB, e1, if_false, if_true, i1.p1, p1, D2.p0, q1, aJ_1 (show i + 1 < 8 by omega) (show 8 ≤ 2147483648 by decide), q2 (i + 1) (by omega), wb_or (show land < 2 ^ 64 by omega) (show sets (i + 1) < 2 ^ 64 by omega), s_grown h3 (Nat.or_lt_two_pow h3 l1), nI_1, clK_gf D2.p0, c1, ls1s]) 7 (Nat.le_refl _) s w ⟨h4, Fr.refl _ _⟩
    refine ⟨v, ?_, b2, b3⟩
    have e1 : (nI (dn + (r + 1)) ≤ nI dn) = False := by rw [le_nI (by omega) (by omega)]; simp
    have e2 : (nI dn < 3) = True := by rw [show (3 : Int32) = nI 3 from rfl, lt_nI (by omega) (by decide)]; simp; omega
    simp only [C_X2_flood, R_X2_flood, SB, e1, e2, if_true, if_false, ls1s, show (1 : Int32) = nI (0 + 1) from rfl]
    refine (show _ = _ from rfl).trans (b1.trans ?_)
    rw [H_X2_flood_23]
    simp only [R_X2_flood, SB, show ((8 : Int32) ≤ nI (7 + 1)) = True from by rw [show (8 : Int32) = nI 8 from rfl]; simp, if_true]
