/-! ===== Roads: fewestSteps ===== -/
def rdN (op from_ : Nat) : Nat → (Nat → Nat) × (Nat → Nat)
  | 0 => (fun y => stN (2 ^ from_) y &&& op, fun y => stN (2 ^ from_) y &&& op)
  | s + 1 => (fun k => (rdN op from_ s).1 k ||| nxN (rdN op from_ s).2 (rdN op from_ s).1 op k, nxN (rdN op from_ s).2 (rdN op from_ s).1 op)
theorem rdN_lt {op from_ : Nat} (ho : op < 2 ^ 36) : ∀ s, (∀ k, k < 4 → (rdN op from_ s).1 k < 2 ^ 36) ∧ ∀ k, k < 4 → (rdN op from_ s).2 k < 2 ^ 36 := by
  intro s
  induction s with
  | zero => exact ⟨fun k _ => Nat.lt_of_le_of_lt Nat.and_le_right ho, fun k _ => Nat.lt_of_le_of_lt Nat.and_le_right ho⟩
  | succ s ih => exact ⟨fun k hk => Nat.or_lt_two_pow (ih.1 k hk) (nxN_lt ho k), fun k _ => nxN_lt ho k⟩
def frO (f : Nat → Nat) : Nat := f 0 ||| f 1 ||| f 2 ||| f 3
def htB (op from_ to s : Nat) : Bool := (frO (rdN op from_ s).2).testBit to
def RoL (v : AH) : Prop := RoF v ∧ (∃ f, LJ v 106 0 f) ∧ (∃ f, LJ v 107 0 f) ∧ ∃ f, LJ v 108 0 f
theorem LJ.low {w : AH} {a j : Nat} {f : Nat → Nat} (h : LJ w a j f) : ∃ f, LJ w a 0 f := by
  obtain ⟨G, e, _⟩ := h
  exact ⟨f, G, e, fun k hk => absurd hk (Nat.not_lt_zero k)⟩
theorem l_fewest {op from_ to : Nat} (ho : op < 2 ^ 36) (ht : to < 36) (w : AH) (lv : Nat) : ∀ m s v, s + m = 144 → RoF v → LJ v 106 4 (rdN op from_ s).1 → LJ v 107 4 (rdN op from_ s).2 → (∃ f, LJ v 108 0 f) → Fr RdP w v → ∃ v2 r, Ex M_X5_fewestSteps lv 75 [some (.ref 105), some (.int (nI from_)), some (.int (nI to)), some (.long (lN op)), none, some (.int (nI (s + 1)))] [] v = some (some (.int r), v2) ∧ RoL v2 ∧ Fr RdP w v2 ∧ ((∃ q, s ≤ q ∧ q < 144 ∧ r = nI (q + 1) ∧ htB op from_ to q = true ∧ ∀ p, s ≤ p → p < q → htB op from_ to p = false) ∨ (r = -1 ∧ ∀ p, s ≤ p → p < 144 → htB op from_ to p = false)) := by
  intro m
  induction m with
  | zero =>
    intro s v hs hF h0 h1 h2 h3
    have : s = 144 := by omega
    subst this
    refine ⟨v, -1, ?_, ⟨hF, h0.low, h1.low, h2⟩, h3, Or.inr ⟨rfl, fun p a b => by omega⟩⟩
    rw [H_X5_fewestSteps_75]
    simp only [R_X5_fewestSteps_p0, R_X5_fewestSteps_p1, SB, show ((144 : Int32) < nI (144 + 1)) = True from by decide, if_true]
  | succ m ih =>
    intro s v hs hF h0 h1 ⟨f8, h2⟩ h3
    obtain ⟨b1, b2⟩ := rdN_lt (from_ := from_) ho s
    have e1 : ((144 : Int32) < nI (s + 1)) = False := by rw [show (144 : Int32) = nI 144 from rfl, lt_nI (by decide) (by omega)]; apply eq_false; omega
    have g0 : aJ (hg v 107) 0 = some (lN ((rdN op from_ s).2 0)) := h1.get (k := 0) (by decide) (by decide)
    have g1 : aJ (hg v 107) 1 = some (lN ((rdN op from_ s).2 1)) := h1.get (k := 1) (by decide) (by decide)
    have g2 : aJ (hg v 107) 2 = some (lN ((rdN op from_ s).2 2)) := h1.get (k := 2) (by decide) (by decide)
    have g3 : aJ (hg v 107) 3 = some (lN ((rdN op from_ s).2 3)) := h1.get (k := 3) (by decide) (by decide)
    have c0 := b2 0 (by decide)
    have c1 := b2 1 (by decide)
    have c2 := b2 2 (by decide)
    have c3 := b2 3 (by decide)
    have d1 : (rdN op from_ s).2 0 ||| (rdN op from_ s).2 1 < 2 ^ 36 := Nat.or_lt_two_pow c0 c1
    have d2 : (rdN op from_ s).2 0 ||| (rdN op from_ s).2 1 ||| (rdN op from_ s).2 2 < 2 ^ 36 := Nat.or_lt_two_pow d1 c2
    have d3 : frO (rdN op from_ s).2 < 2 ^ 36 := Nat.or_lt_two_pow d2 c3
    have w1 : lN ((rdN op from_ s).2 0) ||| lN ((rdN op from_ s).2 1) = lN ((rdN op from_ s).2 0 ||| (rdN op from_ s).2 1) := wb_or (by omega) (by omega)
    have w2 : lN ((rdN op from_ s).2 0 ||| (rdN op from_ s).2 1) ||| lN ((rdN op from_ s).2 2) = lN ((rdN op from_ s).2 0 ||| (rdN op from_ s).2 1 ||| (rdN op from_ s).2 2) := wb_or (by omega) (by omega)
    have w3 : lN ((rdN op from_ s).2 0 ||| (rdN op from_ s).2 1 ||| (rdN op from_ s).2 2) ||| lN ((rdN op from_ s).2 3) = lN (frO (rdN op from_ s).2) := wb_or (by omega) (by omega)
    have sh := s_has d3 ht v 60
    cases q : htB op from_ to s with
    | true =>
      rw [show (frO (rdN op from_ s).2).testBit to = true from q] at sh
      refine ⟨v, nI (s + 1), ?_, ⟨hF, h0.low, h1.low, ⟨f8, h2⟩⟩, h3, Or.inl ⟨s, Nat.le_refl _, by omega, rfl, q, fun p a b => by omega⟩⟩
      rw [H_X5_fewestSteps_75]
      simp only [R_X5_fewestSteps_p0, R_X5_fewestSteps_p1, SB, e1, hF.2.1, g0, g1, g2, g3, w1, w2, w3, sh, bI_t, i10, if_true, if_false]
    | false =>
      rw [show (frO (rdN op from_ s).2).testBit to = false from q] at sh
      obtain ⟨u, u1, uF, u2, u3, u4, u5⟩ := s_goOn ho hF h0 h1 (h2.congr (fun k hk => absurd hk (Nat.not_lt_zero k))) b1 b2 60
      obtain ⟨v2, r, r1, r2, r3, r4⟩ := ih (s + 1) u (by omega) uF u2 u3 u4.low (h3.trans u5)
      refine ⟨v2, r, ?_, r2, r3, ?_⟩
      · rw [← r1, H_X5_fewestSteps_75]
        simp only [R_X5_fewestSteps_p0, R_X5_fewestSteps_p1, SB, e1, hF.2.1, g0, g1, g2, g3, w1, w2, w3, sh, bI_f, clK_gf hF.1, u1, if_true, if_false, ls1s, nI_1]
      · rcases r4 with ⟨z, z1, z2, z3, z4, z5⟩ | ⟨z1, z2⟩
        · refine Or.inl ⟨z, by omega, z2, z3, z4, fun p a b => ?_⟩
          by_cases y : p = s
          · rw [y]; exact q
          · exact z5 p (by omega) b
        · refine Or.inr ⟨z1, fun p a b => ?_⟩
          by_cases y : p = s
          · rw [y]; exact q
          · exact z2 p (by omega) b
theorem s_fewest {w : AH} {op from_ to : Nat} (ho : op < 2 ^ 36) (hf : from_ < 36) (ht : to < 36) (hR : RoL w) (lv : Nat) : ∃ v r, Call M_X5_fewestSteps lv [.ref 105, .int (nI from_), .int (nI to), .long (lN op)] w = some (some (.int r), v) ∧ RoL v ∧ Fr RdP w v ∧ ((¬ (op.testBit from_ = true ∧ op.testBit to = true) ∧ r = -1) ∨ ((op.testBit from_ = true ∧ op.testBit to = true) ∧ ((from_ = to ∧ r = 0) ∨ (from_ ≠ to ∧ ((∃ q, q < 144 ∧ r = nI (q + 1) ∧ htB op from_ to q = true ∧ ∀ p, p < q → htB op from_ to p = false) ∨ (r = -1 ∧ ∀ p, p < 144 → htB op from_ to p = false)))))) := by
  have sf := s_has ho hf w 60
  have st := s_has ho ht w 60
  cases q1 : op.testBit from_ with
  | false =>
    rw [q1] at sf
    refine ⟨w, -1, ?_, hR, Fr.refl _ _, Or.inl ⟨fun x => absurd x.1 (by decide), rfl⟩⟩
    simp only [C_X5_fewestSteps, R_X5_fewestSteps_p0, R_X5_fewestSteps_p1, SB, sf, bI_f, if_true, if_false]
  | true =>
    rw [q1] at sf
    cases q2 : op.testBit to with
    | false =>
      rw [q2] at st
      refine ⟨w, -1, ?_, hR, Fr.refl _ _, Or.inl ⟨fun x => absurd x.2 (by decide), rfl⟩⟩
      simp only [C_X5_fewestSteps, R_X5_fewestSteps_p0, R_X5_fewestSteps_p1, SB, sf, st, bI_t, bI_f, i10, if_true, if_false, not_true_eq_false]
    | true =>
      rw [q2] at st
      have e1 : (nI from_ = nI to) = (from_ = to) := eq_nI (by omega) (by omega)
      by_cases q3 : from_ = to
      · refine ⟨w, 0, ?_, hR, Fr.refl _ _, Or.inr ⟨⟨rfl, rfl⟩, Or.inl ⟨q3, rfl⟩⟩⟩
        simp only [C_X5_fewestSteps, R_X5_fewestSteps_p0, R_X5_fewestSteps_p1, SB, sf, st, bI_t, i10, e1, eq_true q3, if_true, if_false, not_true_eq_false, not_false_eq_true]
      · obtain ⟨hF, ⟨fa, ha⟩, ⟨fb, hb⟩, hc⟩ := hR
        obtain ⟨v1, a1, aF, a2, a3, a4, a5⟩ := loopE (fun y (v : AH) => Ex M_X5_fewestSteps lv 28 [some (.ref 105), some (.int (nI from_)), some (.int (nI to)), some (.long (lN op)), none, some (.int (nI y))] [] v) (fun y v => RoF v ∧ LJ v 106 y (rdN op from_ 0).1 ∧ LJ v 107 y (rdN op from_ 0).2 ∧ (∃ f, LJ v 108 0 f) ∧ Fr RdP w v) 4 (by
          intro y v hy ⟨iF, i0, i1, ⟨f8, i2⟩, i3⟩
          have e4 : ((4 : Int32) ≤ nI y) = False := by rw [show (4 : Int32) = nI 4 from rfl, le_nI (by decide) (by omega)]; apply eq_false; omega
          have so := s_of (nI from_) v 60
          rw [inR_nI (by omega), decide_eq_true hf, if_pos rfl, nI_c (by omega)] at so
          have ss := s_stepped (two_lt hf) v 60 y hy
          have sl := stN_lt (two_lt hf) y hy
          have wa : lN (stN (2 ^ from_) y) &&& lN op = lN (stN (2 ^ from_) y &&& op) := wb_and (by omega) (by omega)
          obtain ⟨ea, u1, u2⟩ := i1.set (k := y) (i := y + 1) (x := stN (2 ^ from_) y &&& op) (g := (rdN op from_ 0).2) hy (fun q _ => by
            by_cases z : q = y
            · rw [if_pos z, z]; rfl
            · rw [if_neg z]) (fun q hq => by omega)
          obtain ⟨eb, u3, u4⟩ := i0.set (k := y) (i := y + 1) (x := stN (2 ^ from_) y &&& op) (g := (rdN op from_ 0).1) hy (fun q _ => by
            by_cases z : q = y
            · rw [if_pos z, z]; rfl
            · rw [if_neg z]) (fun q hq => by omega)
          have n5 : hg (hs v 107 ea) 105 = hg v 105 := hs_ne _ _ (by decide)
          have n6 : hg (hs v 107 ea) 106 = hg v 106 := hs_ne _ _ (by decide)
          have n8 : hg (hs v 107 ea) 108 = hg v 108 := hs_ne _ _ (by decide)
          have gn : aJ (hg (hs v 107 ea) 107) (nI y) = some (lN (stN (2 ^ from_) y &&& op)) := (u2 v).get (by omega) hy
          rw [hs_eq] at gn
          refine ⟨hs (hs v 107 ea) 106 eb, ?_, (iF.keep n5).keep (hs_ne _ _ (by decide)), u4 _, (u2 v).keep (hs_ne _ _ (by decide)), ⟨f8, (i2.keep n8).keep (hs_ne _ _ (by decide))⟩, i3.trans ((Fr.hs (Or.inr (Or.inl rfl)) ea).trans (Fr.hs (Or.inl rfl) eb))⟩
          rw [H_X5_fewestSteps_28]
          simp only [R_X5_fewestSteps_p0, R_X5_fewestSteps_p1, SB, e4, iF.2.1, iF.1, so, ss, wa, u1, n5, n6, hs_eq, gn, u3, if_true, if_false, ls1s, nI_1]) w ⟨hF, ha.congr (fun k hk => absurd hk (Nat.not_lt_zero k)), hb.congr (fun k hk => absurd hk (Nat.not_lt_zero k)), hc, Fr.refl _ _⟩
        obtain ⟨v2, r, r1, r2, r3, r4⟩ := l_fewest (from_ := from_) ho ht w lv 144 0 v1 rfl aF a2 a3 a4 a5
        refine ⟨v2, r, ?_, r2, r3, Or.inr ⟨⟨rfl, rfl⟩, Or.inr ⟨q3, ?_⟩⟩⟩
        · simp only [C_X5_fewestSteps, R_X5_fewestSteps_p0, R_X5_fewestSteps_p1, SB, sf, st, bI_t, i10, e1, eq_false q3, if_true, if_false, not_true_eq_false, not_false_eq_true, ls1s]
          refine (show _ = _ from rfl).trans (a1.trans ?_)
          rw [H_X5_fewestSteps_28]
          simp only [R_X5_fewestSteps_p0, R_X5_fewestSteps_p1, SB, show ((4 : Int32) ≤ nI 4) = True from by rw [show (4 : Int32) = nI 4 from rfl]; simp, if_true, ls1s]
          exact r1
        · rcases r4 with ⟨z, z1, z2, z3, z4, z5⟩ | ⟨z1, z2⟩
          · exact Or.inl ⟨z, z2, z3, z4, fun p hp => z5 p (Nat.zero_le _) hp⟩
          · exact Or.inr ⟨z1, fun p hp => z2 p (Nat.zero_le _) hp⟩
