/-! ===== pairs: road ===== -/
def opF (col : Nat → Nat) (c : Nat) : Nat → Nat → Nat := fun k s => if c.testBit k = true then s ||| csN col k else s
theorem opF_lt (col : Nat → Nat) (c : Nat) : ∀ n, foldN (opF col c) n 0 < 2 ^ 36 := by
  intro n
  induction n with
  | zero => exact (by decide : (0 : Nat) < 2 ^ 36)
  | succ n ih =>
    rw [foldN_s]
    unfold opF
    split
    · exact Nat.or_lt_two_pow ih (csN_lt col n)
    · exact ih
theorem opF_b (col : Nat → Nat) (c j : Nat) (hj : j < 36) : ∀ n, (foldN (opF col c) n 0).testBit j = (decide (col j < n) && c.testBit (col j)) := by
  intro n
  induction n with
  | zero =>
    show (0 : Nat).testBit j = _
    simp
  | succ n ih =>
    have e : foldN (opF col c) (n + 1) 0 = (if c.testBit n = true then foldN (opF col c) n 0 ||| csN col n else foldN (opF col c) n 0) := foldN_s _ _ _
    rw [e]
    by_cases q : col j = n
    · cases z : c.testBit n with
      | true => simp [Nat.testBit_or, ih, csN_b, hj, q, z]
      | false => simp [ih, q, z]
    · have e2 : decide (col j < n + 1) = decide (col j < n) := decide_eq_decide.mpr (by omega)
      rw [e2]
      cases z : c.testBit n with
      | true => simp [Nat.testBit_or, ih, csN_b, hj, q]
      | false => simp [ih]
theorem ClAt.setRo {w v : AH} {X : Cx} (h : ClAt w X) (hF : Fr RdP w v) (hT : RoL v) : ClAt v X := by
  have e : ∀ j, j < 106 ∨ 109 ≤ j → hg v j = hg w j := fun j hj => hF.2.2 j (fun x => by rcases x with x | x | x <;> omega)
  have e0 := e 32 (by omega)
  refine ⟨by rw [e0]; exact h.f0, by rw [e0]; exact h.f1, by rw [e0]; exact h.f2, by rw [e0]; exact h.f3, by rw [e0]; exact h.f4, by rw [e0]; exact h.f5, by rw [e0]; exact h.f6, by rw [e0]; exact h.f7, by rw [e0]; exact h.f8, by rw [e0]; exact h.f9, h.now.keep (fun j _ _ => e j (by omega)), h.kept.keep (fun j _ _ => e j (by omega)), ?_, ?_, h.vo.keep (fun j _ _ => e j (by omega)), ?_, ?_, by rw [e 113 (by omega)]; exact h.shs, ?_, by rw [e 114 (by omega)]; exact h.err, h.sta.keep (e _ (by omega)) (e _ (by omega)), h.str.keep (fun j hj => e j (by omega))⟩
  · obtain ⟨T, hT⟩ := h.tho; exact ⟨T, hT.keep (fun j _ _ => e j (by omega))⟩
  · obtain ⟨L, f, hT⟩ := h.rd; exact ⟨L, f, hT.keep (fun j _ _ => e j (by omega))⟩
  · obtain ⟨hF, ⟨fa, Ga, ea, _⟩, ⟨fb, Gb, eb, _⟩, ⟨fc, Gc, ec, _⟩⟩ := hT
    refine ⟨hF.1, hF.2.1, hF.2.2, fun j hj => ?_⟩
    have h3 : j = 0 ∨ j = 1 ∨ j = 2 := by omega
    rcases h3 with rfl | rfl | rfl
    · exact ⟨Ga, ea⟩
    · exact ⟨Gb, eb⟩
    · exact ⟨Gc, ec⟩
  · obtain ⟨a, b, c, d, hT⟩ := h.dy; exact ⟨a, b, c, d, hT.keep (fun j _ _ => e j (by omega))⟩
  · intro j hj
    exact (h.she j hj).keep (e _ (by omega)) (e _ (by omega))
theorem RoA.l {w : AH} (h : RoA w) : RoL w := by
  obtain ⟨h0, h1, h2, h3⟩ := h
  obtain ⟨Ga, ea⟩ := h3 0 (by decide)
  obtain ⟨Gb, eb⟩ := h3 1 (by decide)
  obtain ⟨Gc, ec⟩ := h3 2 (by decide)
  exact ⟨⟨h0, h1, h2⟩, ⟨fun _ => 0, Ga, ea, fun k hk => absurd hk (Nat.not_lt_zero k)⟩, ⟨fun _ => 0, Gb, eb, fun k hk => absurd hk (Nat.not_lt_zero k)⟩, ⟨fun _ => 0, Gc, ec, fun k hk => absurd hk (Nat.not_lt_zero k)⟩⟩
theorem BJ.base (op : Nat) {fr to : Nat} (hf : fr < 36) : BJ op fr to 0 0 1 (fun _ => 5 * fr + 4) (fun q => if q = 5 * fr + 4 then 1 else 0) := by
  have z : ∀ q, (if q = 5 * fr + 4 then 1 else 0) ≠ 0 → q = 5 * fr + 4 := fun q h => by
    by_cases x : q = 5 * fr + 4
    · exact x
    · rw [if_neg x] at h; exact absurd rfl h
  refine ⟨?_, by decide, ?_, ?_, ?_, ?_, ?_, ?_, ?_, ?_, ?_, ?_⟩
  · have e := cnt_u (fun _ => false) (5 * fr + 4) rfl 180
    rw [cnt_false, if_pos (by omega)] at e
    have e : cnt (uB1 (fun _ => false) (5 * fr + 4)) 180 = 1 := e
    refine e.symm.trans (cnt_congr ?_)
    intro q hq
    unfold uB1
    by_cases x : q = 5 * fr + 4
    · simp [x]
    · simp [x]
  · intro j _
    exact ⟨by show 5 * fr + 4 < 180; omega, by simp⟩
  · intro q _ h
    exact ⟨0, by decide, (z q h).symm⟩
  · intro j j2 _ _; exact Nat.le_refl _
  · intro _ j _; simp
  · intro j _; simp
  · intro q _ h
    have := z q h
    subst this
    dsimp only
    rw [if_pos rfl]
    exact ⟨by omega, by omega⟩
  · intro j z hz; omega
  · intro j hj; omega
  · simp
  · intro q _ h; exact Or.inr (z q h)
theorem upA_87 (A : Nat → Nat → Int32) (P R S : Nat → Int32) : upA (upA (upA A 8 P) 7 R) 8 S = upA (upA A 7 R) 8 S := by
  funext j
  unfold upA
  by_cases q : j = 7
  · subst q; simp
  · by_cases q2 : j = 8
    · subst q2; simp
    · simp [q, q2]
theorem m_road {S : Co} {I : Nat → Int32} {A : Nat → Nat → Int32} (hD : DR (A 0) S) {fr to c op : Nat} (hf : fr < 36) (ht : to < 36) (hc : c < 256) (ho : ∀ k, k < 36 → op.testBit k = c.testBit (S.col k)) (w : AH) (lv : Nat) (o1 : c.testBit (S.col fr) = true) (o2 : c.testBit (S.col to) = true) : ∃ QB FB, (∃ f y, Call M_X12_road lv [.ref 123, .int (nI fr), .int (nI to), .int (nI c)] (mw w I A) = some (some (.int (nI f)), mw w I (upA (upA A 7 QB) 8 FB)) ∧ f ≤ 144 ∧ Wk op fr f to y ∧ ∀ g, g < f → ∀ y, ¬ Wk op fr g to y) ∨ (Call M_X12_road lv [.ref 123, .int (nI fr), .int (nI to), .int (nI c)] (mw w I A) = some (some (.int (loI 2)), mw w I (erA (upA (upA A 7 QB) 8 FB) 2)) ∧ ∀ g y, ¬ Wk op fr g to y) := by
  have i1 := m_isOf (I := I) hD hf hc w 60
  have i2 := m_isOf (I := I) hD ht hc w 60
  rw [o1] at i1
  rw [o2] at i2
  have k1 : inR (nI fr) 36 = true := by rw [inR_nI (by omega)]; exact decide_eq_true hf
  have k2 : inR (nI to) 36 = true := by rw [inR_nI (by omega)]; exact decide_eq_true ht
  have k3 : inR (nI c) 256 = true := by rw [inR_nI (by omega)]; exact decide_eq_true hc
  obtain ⟨FA, a1, a2⟩ := loopE (fun j (FA : Nat → Int32) => Ex M_X12_road lv 59 [some (.ref 123), some (.int (nI fr)), some (.int (nI to)), some (.int (nI c)), some (.int (nI j)), none, none, none, none, none, none] [] (mw w I (upA A 8 FA))) (fun j FA => ∀ q, q < j → FA q = -1) 180 (by
    intro j FA hj hI
    have e1 : ((180 : Int32) ≤ nI j) = False := by rw [show (180 : Int32) = nI 180 from rfl, le_nI (by decide) (by omega)]; apply eq_false; omega
    refine ⟨upd FA j (-1), ?_, fun q hq => ?_⟩
    · rw [H_X12_road_59]
      simp (disch := omega) only [R_X12_road_p0, R_X12_road_p1, R_X12_road_p2, SB, mw_o, mw_a, mo_g, mo_p, mo_pz, mw_so, mw_sa, upA_eq, upA_upA, upd_upd, m_isKnot, m_isSheet, mi_1, mi_3, mi_5, mi_6, mi_7, mi_69, mi_99, mi_100, mi_255, m_f1, m_f2, m_f3, m_f4, m_f5, bI_e0, bI_n0, b_ft, bI_01, bI_t, bI_f, i10, i01, if_true, if_false, Bool.true_eq_false, Bool.false_eq_true, or_true, true_or, not_true_eq_false, not_false_eq_true, ls1s, e1, uI_0, nI_1]
    · by_cases x : q = j
      · rw [x, upd_s]
      · rw [upd_n x]; exact hI q (by omega)) (A 8) (fun q hq => by omega)
  rw [upA_same] at a1
  have a2 : ∀ q, q < 180 → FA q = -1 := a2
  have e0 : upd (A 7) 0 (nI (5 * fr + 4)) 0 = nI (5 * fr + 4) := upd_s _ _ _
  have L := m_roadL (I := I) hD hf ht hc ho w lv 146 0 1 (fun _ => 5 * fr + 4) (fun q => if q = 5 * fr + 4 then 1 else 0) (upd (A 7) 0 (nI (5 * fr + 4))) (upd FA (5 * fr + 4) 0) none none none none none rfl (BJ.base op hf) (fun j hj => by
    have : j = 0 := by omega
    subst this
    exact upd_s _ _ _) (fun q hq => by
    show _ = farI (if q = 5 * fr + 4 then 1 else 0)
    by_cases x : q = 5 * fr + 4
    · rw [if_pos x, x, upd_s]; rfl
    · rw [if_neg x, upd_n x]; exact a2 q hq)
  have s : Call M_X12_road lv [.ref 123, .int (nI fr), .int (nI to), .int (nI c)] (mw w I A) = Ex M_X12_road lv 110 [some (.ref 123), some (.int (nI fr)), some (.int (nI to)), some (.int (nI c)), some (.int (nI 1)), some (.int (nI 0)), none, none, none, none, none] [] (mw w I (upA (upA A 7 (upd (A 7) 0 (nI (5 * fr + 4)))) 8 (upd FA (5 * fr + 4) 0))) := by
    simp (maxSteps := 400000) (disch := omega) only [C_X12_road, R_X12_road_p0, R_X12_road_p1, R_X12_road_p2, SB, mw_o, mw_a, mo_g, mo_p, mo_pz, mw_so, mw_sa, upA_eq, upA_upA, upd_upd, m_isKnot, m_isSheet, mi_1, mi_3, mi_5, mi_6, mi_7, mi_69, mi_99, mi_100, mi_255, m_f1, m_f2, m_f3, m_f4, m_f5, bI_e0, bI_n0, b_ft, bI_01, bI_t, bI_f, i10, i01, if_true, if_false, Bool.true_eq_false, Bool.false_eq_true, or_true, true_or, not_true_eq_false, not_false_eq_true, ls1s, k1, k2, k3, i1, i2]
    refine (show _ = _ from rfl).trans (a1.trans ?_)
    rw [H_X12_road_59]
    simp (maxSteps := 400000) (disch := omega) only [R_X12_road_p0, R_X12_road_p1, R_X12_road_p2, SB, mw_o, mw_a, mo_g, mo_p, mo_pz, mw_so, mw_sa, upA_eq, upA_upA, upd_upd, m_isKnot, m_isSheet, mi_1, mi_3, mi_5, mi_6, mi_7, mi_69, mi_99, mi_100, mi_255, m_f1, m_f2, m_f3, m_f4, m_f5, bI_e0, bI_n0, b_ft, bI_01, bI_t, bI_f, i10, i01, if_true, if_false, Bool.true_eq_false, Bool.false_eq_true, or_true, true_or, not_true_eq_false, not_false_eq_true, ls1s, show ((180 : Int32) ≤ nI 180) = True from by rw [show (180 : Int32) = nI 180 from rfl]; simp, lit_mul, add_lit, uI_l, aI_l, upd_s, uI_0, show ((7 : Nat) = 8) = False from by simp, show ((8 : Nat) = 7) = False from by simp, upA_87, e0]
    rfl
  rw [s]
  exact L
