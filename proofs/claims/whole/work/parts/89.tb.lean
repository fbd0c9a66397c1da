/-! ===== pairs: lands, greatest ===== -/
theorem pc_le {n : Nat} (h : n < 2 ^ 36) : pc n ≤ 36 := by rw [pc_36 h]; exact cnt_le _ _
def seB (col : Nat → Nat) (k : Nat) : Bool := decide (col k ≠ 0) && lkB col k
def gbF (col : Nat → Nat) : Nat → Nat → Nat := fun k b => if seB col k = true ∧ pc b < pc (land col k) then land col k else b
def gbN (col : Nat → Nat) (n : Nat) : Nat := foldN (gbF col) n 0
theorem gbN_s (col : Nat → Nat) (n : Nat) : gbN col (n + 1) = gbF col n (gbN col n) := foldN_s _ _ _
theorem gbN_lt (col : Nat → Nat) : ∀ n, n ≤ 36 → gbN col n < 2 ^ 36 := by
  intro n
  induction n with
  | zero => intro _; exact (by decide : (0 : Nat) < 2 ^ 36)
  | succ n ih =>
    intro h
    rw [gbN_s]
    unfold gbF
    split
    · exact land_lt col (by omega)
    · exact ih (by omega)
/-- what greatestLand has seen before k -/
def SnP (col : Nat → Nat) (k seen : Nat) : Prop := seen < 2 ^ 36 ∧ ∀ i, i < 36 → (seen.testBit i = true ↔ col i = 0 ∨ low (land col i) < k)
theorem SnP.skip {col : Nat → Nat} {k seen : Nat} (h : SnP col k seen) (hk : k < 36) (hs : seen.testBit k = true) : SnP col (k + 1) seen ∧ seB col k = false := by
  obtain ⟨h1, h2⟩ := h
  have hs := (h2 k hk).mp hs
  obtain ⟨a, b, c, d⟩ := low_of (land_pos col hk) (land_lt col hk)
  refine ⟨⟨h1, fun i hi => ?_⟩, ?_⟩
  · rw [h2 i hi]
    constructor
    · rintro (q | q)
      · exact Or.inl q
      · exact Or.inr (by omega)
    · rintro (q | q)
      · exact Or.inl q
      · by_cases z : low (land col i) = k
        · obtain ⟨l1, l2, l3, l4⟩ := land_low col hi
          have li := low_of (land_pos col hi) (land_lt col hi)
          have ci := land_c col hi _ l1 li.2.1
          rw [z] at l3 ci
          rcases hs with hs | hs
          · exact Or.inl (by rw [← ci]; exact hs)
          · rw [l3, z] at hs; omega
        · exact Or.inr (by omega)
  · unfold seB lkB
    rcases hs with hs | hs
    · simp [hs]
    · rw [decide_eq_false (show ¬ low (land col k) = k by omega)]; simp
theorem SnP.add {col : Nat → Nat} {k seen : Nat} (h : SnP col k seen) (hk : k < 36) (hs : seen.testBit k = false) : SnP col (k + 1) (seen ||| land col k) ∧ seB col k = true := by
  obtain ⟨h1, h2⟩ := h
  have hs : ¬ (col k = 0 ∨ low (land col k) < k) := fun x => by
    have := (h2 k hk).mpr x
    rw [hs] at this; cases this
  obtain ⟨l1, l2, l3, l4⟩ := land_low col hk
  have lk : low (land col k) = k := by omega
  have l5 := low_of (land_pos col hk) (land_lt col hk)
  refine ⟨⟨Nat.or_lt_two_pow h1 (land_lt col hk), fun i hi => ?_⟩, ?_⟩
  · rw [Nat.testBit_or, Bool.or_eq_true, h2 i hi]
    obtain ⟨m1, m2, m3, m4⟩ := land_low col hi
    constructor
    · rintro ((q | q) | q)
      · exact Or.inl q
      · exact Or.inr (by omega)
      · right
        rw [land_eq col hk hi q, lk]; omega
    · rintro (q | q)
      · exact Or.inl (Or.inl q)
      · by_cases z : low (land col i) = k
        · right
          rw [z] at m3
          rw [m3]
          exact land_self col hi
        · exact Or.inl (Or.inr (by omega))
  · unfold seB lkB
    rw [decide_eq_true lk, decide_eq_true (show col k ≠ 0 from fun x => hs (Or.inl x))]; rfl
theorem s_greatestLand {w : AH} {c : Nat} {col wear : Nat → Nat} (h : CarAt w c col wear) (lv : Nat) : Call M_X0_greatestLand lv [.ref c] w = some (some (.long (lN (gbN col 36))), w) := by
  obtain ⟨⟨seen, o⟩, a1, a2⟩ := loopE (fun k (s : Nat × Option Value) => Ex M_X0_greatestLand lv 11 [some (.ref c), some (.long (lN (gbN col k))), none, some (.long (lN s.1)), none, some (.int (nI k)), s.2, none] [] w) (fun k s => SnP col k s.1) 36 (by
    intro k s hk hI
    obtain ⟨seen, o⟩ := s
    have hI : SnP col k seen := hI
    have hs := hI.1
    have e1 : ((36 : Int32) ≤ nI k) = False := by rw [show (36 : Int32) = nI 36 from rfl, le_nI (by decide) (by omega)]; apply eq_false; omega
    have lh := s_has hs hk w 60
    have gl := gbN_lt col k (by omega)
    have ll := land_lt col hk
    cases q : seen.testBit k with
    | true =>
      rw [q] at lh
      obtain ⟨n1, n2⟩ := hI.skip hk q
      refine ⟨(seen, o), ?_, n1⟩
      rw [H_X0_greatestLand_11, gbN_s]
      unfold gbF
      rw [n2, if_neg (fun x => by cases x.1)]
      simp only [R_X0_greatestLand, SB, e1, lh, if_true, if_false, bI_t, i10, nI_1, ls1s, ls2s]
    | false =>
      rw [q] at lh
      obtain ⟨n1, n2⟩ := hI.add hk q
      refine ⟨(seen ||| land col k, some (.long (lN (land col k)))), ?_, n1⟩
      rw [H_X0_greatestLand_11, gbN_s]
      unfold gbF
      rw [n2]
      have lo := s_landOf h hk 60
      have p1 := pc_le ll
      have p2 := pc_le gl
      have c1 : (nI (pc (land col k)) ≤ nI (pc (gbN col k))) = (pc (land col k) ≤ pc (gbN col k)) := le_nI (by omega) (by omega)
      have wo : lN seen ||| lN (land col k) = lN (seen ||| land col k) := wb_or (by omega) (by omega)
      by_cases z : pc (gbN col k) < pc (land col k)
      · rw [if_pos ⟨rfl, z⟩]
        simp only [R_X0_greatestLand, SB, e1, lh, if_true, if_false, bI_f, clK_gf h.p0, lo, wo, s_bitCount _ (show land col k < 2 ^ 40 by omega), s_bitCount _ (show gbN col k < 2 ^ 40 by omega), c1, eq_false (Nat.not_le.mpr z), nI_1, ls1s, ls2s]
      · rw [if_neg (fun x => z x.2)]
        simp only [R_X0_greatestLand, SB, e1, lh, if_true, if_false, bI_f, clK_gf h.p0, lo, wo, s_bitCount _ (show land col k < 2 ^ 40 by omega), s_bitCount _ (show gbN col k < 2 ^ 40 by omega), c1, eq_true (Nat.not_lt.mp z), nI_1, ls1s, ls2s]) (csN col 0, none) ⟨csN_lt col 0, fun i hi => by rw [csN_b]; simp [hi]⟩
  have o := s_ofColour h (show 0 < 8 by decide) 60
  have o : Call M_X0_ofColour 60 [.ref c, .int 0] w = some (some (.long (lN (csN col 0))), w) := o
  simp only [C_X0_greatestLand, R_X0_greatestLand, SB, clK_gf h.p0, o, ls1s, ls2s, if_true]
  refine (show _ = _ from rfl).trans (a1.trans ?_)
  rw [H_X0_greatestLand_11]
  simp only [R_X0_greatestLand, SB, show ((36 : Int32) ≤ nI 36) = True from by rw [show (36 : Int32) = nI 36 from rfl]; simp, if_true]
/-- the model's counting of lands: how many, the most knots, where -/
def flF (col : Nat → Nat) (q : Nat → Bool) : Nat → Nat × Nat × Nat → Nat × Nat × Nat := fun k s => if (q k && lkB col k) = true then (s.1 + 1, if s.2.1 < pc (land col k) then (pc (land col k), k) else s.2) else s
def flN (col : Nat → Nat) (q : Nat → Bool) (n : Nat) : Nat × Nat × Nat := foldN (flF col q) n (0, 0, 0)
theorem flN_s (col : Nat → Nat) (q : Nat → Bool) (n : Nat) : flN col q (n + 1) = flF col q n (flN col q n) := foldN_s _ _ _
theorem flN_cnt (col : Nat → Nat) (q : Nat → Bool) : ∀ n, n ≤ 36 → (flN col q n).1 = cnt (fun k => q k && lkB col k) n ∧ (flN col q n).2.1 ≤ 36 := by
  intro n
  induction n with
  | zero => intro _; exact ⟨rfl, (by decide : (0 : Nat) ≤ 36)⟩
  | succ n ih =>
    intro h
    obtain ⟨i1, i2⟩ := ih (by omega)
    have p := pc_le (land_lt col (show n < 36 by omega))
    rw [flN_s, cnt_s]
    unfold flF
    by_cases z : (q n && lkB col n) = true
    · rw [if_pos z, if_pos z, i1]
      refine ⟨rfl, ?_⟩
      show (if _ then _ else _ : Nat × Nat).1 ≤ 36
      split
      · exact p
      · exact i2
    · rw [if_neg z, if_neg z]
      exact ⟨i1, i2⟩
theorem fl_gb (col : Nat → Nat) : ∀ n, n ≤ 36 → (flN col (fun k => decide (col k ≠ 0)) n).2.1 = pc (gbN col n) ∧ (gbN col n ≠ 0 → (flN col (fun k => decide (col k ≠ 0)) n).2.2 = low (gbN col n)) ∧ (gbN col n = 0 ↔ (flN col (fun k => decide (col k ≠ 0)) n).1 = 0) := by
  intro n
  induction n with
  | zero => intro _; exact ⟨(by decide : (0 : Nat) = pc 0), fun x => absurd rfl x, ⟨fun _ => rfl, fun _ => rfl⟩⟩
  | succ n ih =>
    intro h
    obtain ⟨i1, i2, i3⟩ := ih (by omega)
    have hn : n < 36 := by omega
    have lp := land_pos col hn
    have p1 : 0 < pc (land col n) := by
      rw [pc_36 (land_lt col hn)]
      have := cnt_lt (P := fun _ => false) (Q := fun k => (land col n).testBit k) (n := 36) (fun _ _ h => by cases h) ⟨n, hn, rfl, land_self col hn⟩
      rw [cnt_false] at this
      exact this
    rw [flN_s, gbN_s]
    unfold flF gbF
    by_cases z : (decide (col n ≠ 0) && lkB col n) = true
    · rw [if_pos z]
      have z2 : seB col n = true := z
      have zl : low (land col n) = n := by
        rw [Bool.and_eq_true] at z
        exact of_decide_eq_true z.2
      rw [z2, i1]
      by_cases c : pc (gbN col n) < pc (land col n)
      · rw [if_pos c, if_pos ⟨rfl, c⟩]
        exact ⟨rfl, fun _ => zl.symm, ⟨fun x => by omega, fun x => by have x : _ + 1 = 0 := x; omega⟩⟩
      · rw [if_neg c, if_neg (fun x => c x.2)]
        have g0 : gbN col n ≠ 0 := fun x => by
          rw [x, show pc 0 = 0 from by decide] at c; omega
        exact ⟨i1, i2, ⟨fun x => absurd x g0, fun x => by have x : _ + 1 = 0 := x; omega⟩⟩
    · rw [if_neg z, if_neg (fun x => z x.1)]
      exact ⟨i1, i2, i3⟩
/-- the model's world while it counts lands -/
def FlJ (I : Nat → Int32) (A : Nat → Nat → Int32) (s : Nat × Nat × Nat) (J : Nat → Int32) (B : Nat → Nat → Int32) : Prop := J 15 = nI s.1 ∧ J 16 = nI s.2.1 ∧ J 17 = nI s.2.2 ∧ J 2 = I 2 ∧ J 21 = I 21 ∧ ∀ j, j ≠ 5 ∧ j ≠ 6 → B j = A j
theorem m_pass {S : Co} {J : Nat → Int32} {B : Nat → Nat → Int32} (hD : DR (B 0) S) {a : Int32} {q : Nat → Bool} (hq : (((0 : Int32) ≤ a) = False ∧ ∀ k, q k = decide (S.col k ≠ 0)) ∨ (∃ c, c < 8 ∧ a = nI c ∧ ∀ k, q k = decide (S.col k = c))) {k : Nat} (hk : k < 36) (o : Option Value) (w : AH) (lv : Nat) : Ex M_X12_findLands lv 17 [some (.ref 123), some (.int a), some (.int (nI k)), o] [] (mw w J B) = Ex M_X12_findLands lv (if q k = true then 51 else 101) [some (.ref 123), some (.int a), some (.int (nI k)), some (.int (nI (S.col k)))] [] (mw w J B) := by
  have ck := hD.rc k hk
  have e1 : ((36 : Int32) ≤ nI k) = False := by rw [show (36 : Int32) = nI 36 from rfl, le_nI (by decide) (by omega)]; apply eq_false; omega
  rw [H_X12_findLands_17]
  rcases hq with ⟨h1, h2⟩ | ⟨c, c1, rfl, h2⟩
  · have e0 : (nI (S.col k) = (0 : Int32)) = (S.col k = 0) := by rw [show (0 : Int32) = nI 0 from rfl, eq_nI (by omega) (by decide)]
    rw [h2 k]
    by_cases z : S.col k = 0
    · rw [if_neg (by simp [z])]
      simp (disch := omega) only [R_X12_findLands_p0, R_X12_findLands_p1, SB, mw_o, mw_a, mo_g, mo_p, mo_pz, mw_so, mw_sa, upA_eq, upA_upA, upd_upd, m_isKnot, m_isSheet, mi_1, mi_3, mi_5, mi_6, mi_7, mi_69, mi_99, mi_100, mi_255, m_f1, m_f2, m_f3, m_f4, m_f5, bI_e0, bI_n0, b_ft, bI_01, bI_t, bI_f, i10, i01, if_true, if_false, Bool.true_eq_false, Bool.false_eq_true, or_true, true_or, not_true_eq_false, not_false_eq_true, ls1s, e1, h1, lit_add, aI_a, hD.col k hk, e0, eq_true z]
    · rw [if_pos (by simp [z])]
      simp (disch := omega) only [R_X12_findLands_p0, R_X12_findLands_p1, SB, mw_o, mw_a, mo_g, mo_p, mo_pz, mw_so, mw_sa, upA_eq, upA_upA, upd_upd, m_isKnot, m_isSheet, mi_1, mi_3, mi_5, mi_6, mi_7, mi_69, mi_99, mi_100, mi_255, m_f1, m_f2, m_f3, m_f4, m_f5, bI_e0, bI_n0, b_ft, bI_01, bI_t, bI_f, i10, i01, if_true, if_false, Bool.true_eq_false, Bool.false_eq_true, or_true, true_or, not_true_eq_false, not_false_eq_true, ls1s, e1, h1, lit_add, aI_a, hD.col k hk, e0, eq_false z]
  · have h1 : ((0 : Int32) ≤ nI c) = True := by rw [show (0 : Int32) = nI 0 from rfl, le_nI (by decide) (by omega)]; apply eq_true; omega
    have e0 : (nI (S.col k) = nI c) = (S.col k = c) := eq_nI (by omega) (by omega)
    rw [h2 k]
    by_cases z : S.col k = c
    · rw [if_pos (by simp [z])]
      simp (disch := omega) only [R_X12_findLands_p0, R_X12_findLands_p1, SB, mw_o, mw_a, mo_g, mo_p, mo_pz, mw_so, mw_sa, upA_eq, upA_upA, upd_upd, m_isKnot, m_isSheet, mi_1, mi_3, mi_5, mi_6, mi_7, mi_69, mi_99, mi_100, mi_255, m_f1, m_f2, m_f3, m_f4, m_f5, bI_e0, bI_n0, b_ft, bI_01, bI_t, bI_f, i10, i01, if_true, if_false, Bool.true_eq_false, Bool.false_eq_true, or_true, true_or, not_true_eq_false, not_false_eq_true, ls1s, e1, h1, lit_add, aI_a, hD.col k hk, e0, eq_true z]
    · rw [if_neg (by simp [z])]
      simp (disch := omega) only [R_X12_findLands_p0, R_X12_findLands_p1, SB, mw_o, mw_a, mo_g, mo_p, mo_pz, mw_so, mw_sa, upA_eq, upA_upA, upd_upd, m_isKnot, m_isSheet, mi_1, mi_3, mi_5, mi_6, mi_7, mi_69, mi_99, mi_100, mi_255, m_f1, m_f2, m_f3, m_f4, m_f5, bI_e0, bI_n0, b_ft, bI_01, bI_t, bI_f, i10, i01, if_true, if_false, Bool.true_eq_false, Bool.false_eq_true, or_true, true_or, not_true_eq_false, not_false_eq_true, ls1s, e1, h1, lit_add, aI_a, hD.col k hk, e0, eq_false z]
