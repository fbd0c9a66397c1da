/-! ===== pairs: layings, move ===== -/
theorem foldS {σ : Type} (F : Nat → σ → σ) (n : Nat) (s : σ) : F n (foldN F n s) = foldN F (n + 1) s := rfl
theorem blI_le {col f : Nat → Nat} {a : Nat} (ha : a < 11) : ∀ b, b ≤ 11 → ∀ s : Nat × Int32, s.1 ≤ 36 → (foldN (blF col f a) b s).1 ≤ 36 := by
  intro b
  induction b with
  | zero => intro _ s h; exact h
  | succ b ih => intro hb s h; rw [foldN_s]; exact blF_le ha (by omega) (ih (by omega) s h)
def clP (col f : Nat → Nat) (a : Nat) : Nat := foldN (fun a s => foldN (clF col f a) 11 s) a 0
def blP (col f : Nat → Nat) (i0 : Int32) (a : Nat) : Nat × Int32 := foldN (fun a s => foldN (blF col f a) 11 s) a (0, i0)
theorem clP_s (col f : Nat → Nat) (a : Nat) : clP col f (a + 1) = foldN (clF col f a) 11 (clP col f a) := foldN_s _ a _
theorem blP_s (col f : Nat → Nat) (i0 : Int32) (a : Nat) : blP col f i0 (a + 1) = foldN (blF col f a) 11 (blP col f i0 a) := foldN_s _ a _
theorem blP_le (col f : Nat → Nat) (i0 : Int32) : ∀ a, a ≤ 11 → (blP col f i0 a).1 ≤ 36 := by
  intro a
  induction a with
  | zero => intro _; exact Nat.zero_le _
  | succ a ih => intro ha; rw [blP_s]; exact blI_le (by omega) 11 (Nat.le_refl _) _ (ih (by omega))
theorem clI_le {col f : Nat → Nat} {a : Nat} : ∀ b n, foldN (clF col f a) b n ≤ n + b := by
  intro b
  induction b with
  | zero => intro n; exact Nat.le_refl _
  | succ b ih =>
    intro n
    have := ih n
    rw [foldN_s]
    generalize foldN (clF col f a) b n = m at *
    show (if ftB col f a b = true then m + 1 else m) ≤ _
    split <;> omega
theorem clP_le (col f : Nat → Nat) : ∀ a, clP col f a ≤ 11 * a := by
  intro a
  induction a with
  | zero => exact Nat.le_refl _
  | succ a ih =>
    have := clI_le (col := col) (f := f) (a := a) 11 (clP col f a)
    rw [clP_s]
    omega
/-- the two searches side by side -/
def BR (c : Nat) (s t : Nat × Int32) : Prop := s.1 = t.1 ∧ (c = 0 ↔ s.1 = 0) ∧ (s.1 = 0 → s.2 = -1) ∧ (s.1 ≠ 0 → s.2 = t.2 ∧ ∃ m, m < 2000 ∧ s.2 = nI m)
theorem cov_pos : ∀ a, a < 11 → 1 ≤ cov a := by decide +kernel
theorem BR.step {col f : Nat → Nat} {a b : Nat} (ha : a < 11) (hb : b < 11) {c : Nat} {s t : Nat × Int32} (h : BR c s t) : BR (clF col f a b c) (blF col f a b s) (blF col f a b t) := by
  obtain ⟨h1, h2, h3, h4⟩ := h
  have p : 1 ≤ cov a * cov b := Nat.mul_pos (cov_pos a ha) (cov_pos b hb)
  unfold clF blF
  rw [← h1]
  cases q : ftB col f a b with
  | false =>
    simp only [Bool.false_eq_true, and_false, if_false]
    exact ⟨h1, h2, h3, h4⟩
  | true =>
    simp only [if_true, and_true]
    by_cases q2 : s.1 < cov a * cov b
    · rw [if_pos q2, if_pos q2]
      refine ⟨rfl, ?_, fun z => ?_, fun _ => ⟨rfl, 100 * a + b, by omega, rfl⟩⟩
      · show c + 1 = 0 ↔ cov a * cov b = 0
        omega
      · have z : cov a * cov b = 0 := z
        omega
    · rw [if_neg q2, if_neg q2]
      refine ⟨h1, ?_, fun z => by omega, h4⟩
      omega
theorem BR.inner {col f : Nat → Nat} {a : Nat} (ha : a < 11) {c : Nat} {s t : Nat × Int32} (h : BR c s t) : ∀ b, b ≤ 11 → BR (foldN (clF col f a) b c) (foldN (blF col f a) b s) (foldN (blF col f a) b t) := by
  intro b
  induction b with
  | zero => intro _; exact h
  | succ b ih => intro hb; rw [foldN_s, foldN_s, foldN_s]; exact (ih (by omega)).step ha (by omega)
theorem BR.all (col f : Nat → Nat) : ∀ a, a ≤ 11 → BR (clP col f a) (blP col f (-1) a) (blP col f 0 a) := by
  intro a
  induction a with
  | zero => intro _; exact ⟨rfl, ⟨fun _ => rfl, fun _ => rfl⟩, fun _ => rfl, fun z => absurd rfl z⟩
  | succ a ih =>
    intro ha
    have h := (ih (by omega)).inner (col := col) (f := f) (a := a) (by omega) 11 (Nat.le_refl _)
    rw [clP_s, blP_s, blP_s]
    exact h
theorem cov_m : ∀ a, a < 11 → (5 ≤ a → (6 : Int32) - mF a = nI (cov a)) ∧ (¬ 5 ≤ a → (6 : Int32) - -mF a = nI (cov a)) := by decide +kernel
theorem mF_ge0 {a : Nat} (h : a < 1000) : ((0 : Int32) ≤ mF a) = (5 ≤ a) := by
  rw [le_t, mF_t h, show (0 : Int32).toInt = 0 from rfl]
  apply propext; omega
theorem m_laysIn {S : Co} {I : Nat → Int32} {A : Nat → Nat → Int32} (hD : DR (A 0) S) {k : Nat} (hk : k < 4) {f : Nat → Nat} (hf : ∀ i, i < 36 → A 12 (40 * k + i) = nI (f i) ∧ f i < 8) (w : AH) (x : Int32) {a : Nat} (ha : a < 11) (n : Nat) (s : Nat × Int32) (hs0 : s.1 ≤ 36) (o8 o9 : Option Value) : ∃ p8 p9, Ex M_X12_layings 60 59 [some (.ref 123), some (.int (nI k)), some (.int x), some (.int (nI n)), some (.int (nI s.1)), some (.int s.2), some (.int (mF a)), some (.int (mF 0)), o8, o9] [] (mw w I A) = Ex M_X12_layings 60 59 [some (.ref 123), some (.int (nI k)), some (.int x), some (.int (nI (foldN (clF S.col f a) 11 n))), some (.int (nI (foldN (blF S.col f a) 11 s).1)), some (.int (foldN (blF S.col f a) 11 s).2), some (.int (mF a)), some (.int (mF 11)), p8, p9] [] (mw w I A) := by
  obtain ⟨⟨p8, p9⟩, h1, -⟩ := loopE (fun b (o : Option Value × Option Value) => Ex M_X12_layings 60 59 [some (.ref 123), some (.int (nI k)), some (.int x), some (.int (nI (foldN (clF S.col f a) b n))), some (.int (nI (foldN (blF S.col f a) b s).1)), some (.int (foldN (blF S.col f a) b s).2), some (.int (mF a)), some (.int (mF b)), o.1, o.2] [] (mw w I A)) (fun _ _ => True) 11 (by
    intro b o hb _
    obtain ⟨o8, o9⟩ := o
    have e1 : ((5 : Int32) < mF b) = False := by rw [mF_gt (by omega)]; apply eq_false; omega
    have c1 : cov a * cov b ≤ 36 := Nat.mul_le_mul (cov_le a ha) (cov_le b hb)
    have lb := blI_le (col := S.col) (f := f) ha b (by omega) s hs0
    have mf := m_isFit (I := I) hD hk hf (show a ≤ 10 by omega) (show b ≤ 10 by omega) w 60
    have ga := mF_ge0 (show a < 1000 by omega)
    have gb := mF_ge0 (show b < 1000 by omega)
    have n1 : (100 : Int32) * nI a + mF b + 5 = nI (100 * a + b) := by
      rw [show (100 : Int32) = nI 100 from rfl, pk_mul, mF_add, mF_5]
    have rw1 : foldN (clF S.col f a) (b + 1) n = clF S.col f a b (foldN (clF S.col f a) b n) := rfl
    have rw2 : foldN (blF S.col f a) (b + 1) s = blF S.col f a b (foldN (blF S.col f a) b s) := rfl
    generalize foldN (clF S.col f a) b n = m at *
    generalize foldN (blF S.col f a) b s = t at *
    obtain ⟨ca, ca2⟩ := cov_m a ha
    obtain ⟨cb, cb2⟩ := cov_m b hb
    refine ⟨(some (.int (nI (cov a * cov b))), some (.int (bI (ftB S.col f a b)))), ?_, trivial⟩
    rw [rw1, rw2, H_X12_layings_59]
    have pre : ∀ (R : Option (Option Value × AH)), Ex M_X12_layings 60 100 [some (.ref 123), some (.int (nI k)), some (.int x), some (.int (nI m)), some (.int (nI t.1)), some (.int t.2), some (.int (mF a)), some (.int (mF b)), some (.int (nI (cov a * cov b))), o9] [] (mw w I A) = R → Ex M_X12_layings 60 61 [some (.ref 123), some (.int (nI k)), some (.int x), some (.int (nI m)), some (.int (nI t.1)), some (.int t.2), some (.int (mF a)), some (.int (mF b)), o8, o9] [.int (mF b)] (mw w I A) = R := by
      intro R hR
      rw [← hR]
      by_cases qa : 5 ≤ a
      · by_cases qb : 5 ≤ b
        · simp only [R_X12_layings_p0, SB, e1, if_false, if_true, ga, gb, eq_true qa, eq_true qb, ca qa, cb qb, pk_mul, ls1s]
        · simp only [R_X12_layings_p0, SB, e1, if_false, if_true, ga, gb, eq_true qa, eq_false qb, ca qa, cb2 qb, pk_mul, ls1s]
      · by_cases qb : 5 ≤ b
        · simp only [R_X12_layings_p0, SB, e1, if_false, if_true, ga, gb, eq_false qa, eq_true qb, ca2 qa, cb qb, pk_mul, ls1s]
        · simp only [R_X12_layings_p0, SB, e1, if_false, if_true, ga, gb, eq_false qa, eq_false qb, ca2 qa, cb2 qb, pk_mul, ls1s]
    apply pre
    unfold clF blF
    cases q : ftB S.col f a b with
    | false =>
      rw [q] at mf
      simp (disch := omega) only [R_X12_layings_p0, R_X12_layings_p1, SB, mw_o, mo_g, mf, bI_f, if_true, if_false, ls1s, mF_1, Bool.false_eq_true, and_false, add_lit, Nat.add_zero]
    | true =>
      rw [q] at mf
      by_cases q2 : t.1 < cov a * cov b
      · have q3 : (cov a * cov b ≤ t.1) = False := eq_false (by omega)
        simp (disch := omega) only [R_X12_layings_p0, R_X12_layings_p1, SB, mw_o, mo_g, mf, bI_t, i10, if_true, if_false, ls1s, mF_1, and_true, le_nI, q3, eq_true q2, mF_5, n1, nI_1]
      · have q3 : (cov a * cov b ≤ t.1) = True := eq_true (by omega)
        simp (disch := omega) only [R_X12_layings_p0, R_X12_layings_p1, SB, mw_o, mo_g, mf, bI_t, i10, if_true, if_false, ls1s, mF_1, and_true, le_nI, q3, eq_false q2, nI_1]) (o8, o9) trivial
  exact ⟨p8, p9, h1⟩
theorem j_layings (a b : Int32) : JO M_X11_layings M_X12_layings [.int a, .int b] := by
  apply JO.mk
  intro W X I A hC hM
  have e11 : ((5 : Int32) < mF 11) = True := by rw [mF_gt (by omega)]; simp
  by_cases q1 : inR a 4 = true
  · obtain ⟨k, k1, k2, rfl⟩ := inR_of q1
    have so := s_sheetOf hC q1 k1 60
    have sh := hC.she k k1
    by_cases qb : inR b 2 = true
    · have ic := s_Sheet_isCarpet sh 60
      have mc := fun w => m_isCarpet hC hM k1 w 60
      have shv := hM.shv k k1
      have shr := hM.shr k k1
      by_cases qi : isC (X.2.2.2.2.2 k).2.1 (X.2.2.2.2.2 k).1 (X.2.2.2.2.2 k).2.2 = true
      · rw [qi] at ic
        simp only [qi] at mc
        obtain ⟨z1, z2, f, hf⟩ := isC_f qi
        have rb := sh.rb
        have hb : (X.2.2.2.2.2 k).1 = 8 ∨ (X.2.2.2.2.2 k).1 = 16 ∨ (X.2.2.2.2.2 k).1 = 32 := by omega
        have hfm : ∀ i, i < 36 → A 12 (40 * k + i) = nI (f i) ∧ f i < 8 := fun i hi => by
          obtain ⟨f1, f2⟩ := hf i hi
          refine ⟨?_, f2⟩
          rw [shv i (by omega), sx_small hb (shr i (by omega)) (by omega)]
          exact f1
        have sh2 : ShAt W (115 + 2 * k) (X.2.2.2.2.2 k).1 36 (X.2.2.2.2.2 k).2.2 := by rw [← z2]; exact sh
        have cl : Call M_X0_countLayings 60 [.ref 34, .ref (115 + 2 * k)] W = some (some (.int (nI (clP X.1.col f 11))), W) := s_countLayings hC.now.car sh2 hf 60
        have bl : Call M_X0_bestLaying 60 [.ref 34, .ref (115 + 2 * k)] W = some (some (.int (blP X.1.col f (-1) 11).2), W) := s_bestLaying hC.now.car sh2 hf 60
        have g0 : gf (hg W 33) 1 0 = some (.ref 34) := hC.now.k0
        have k34 : clK (hg W 34) = 0 := clK_gf hC.now.car.p0
        have run : ∀ (w : AH) (x : Int32), ∃ o6 o7 o8 o9, Ex M_X12_layings 60 49 [some (.ref 123), some (.int (nI k)), some (.int x), some (.int (nI 0)), some (.int (nI 0)), some (.int 0), some (.int (mF 0)), none, none, none] [] (mw w I A) = Ex M_X12_layings 60 166 [some (.ref 123), some (.int (nI k)), some (.int x), some (.int (nI (clP X.1.col f 11))), some (.int (nI (blP X.1.col f 0 11).1)), some (.int (blP X.1.col f 0 11).2), o6, o7, o8, o9] [] (mw w I A) := by
          intro w x
          obtain ⟨⟨o7, o8, o9⟩, h1, -⟩ := loopE (fun a (o : Option Value × Option Value × Option Value) => Ex M_X12_layings 60 49 [some (.ref 123), some (.int (nI k)), some (.int x), some (.int (nI (clP X.1.col f a))), some (.int (nI (blP X.1.col f 0 a).1)), some (.int (blP X.1.col f 0 a).2), some (.int (mF a)), o.1, o.2.1, o.2.2] [] (mw w I A)) (fun _ _ => True) 11 (by
            intro a o ha _
            obtain ⟨o7, o8, o9⟩ := o
            have e1 : ((5 : Int32) < mF a) = False := by rw [mF_gt (by omega)]; apply eq_false; omega
            obtain ⟨p8, p9, g1⟩ := m_laysIn (I := I) hM.now k1 hfm w x ha (clP X.1.col f a) (blP X.1.col f 0 a) (blP_le _ _ _ a (by omega)) o8 o9
            refine ⟨(some (.int (mF 11)), p8, p9), ?_, trivial⟩
            rw [H_X12_layings_49]
            simp only [R_X12_layings_p0, SB, e1, if_false, ls1s, mF_m5]
            refine g1.trans ?_
            rw [H_X12_layings_59]
            simp only [R_X12_layings_p0, R_X12_layings_p1, SB, e11, if_true, ls1s, mF_1, clP_s, blP_s]) (none, none, none) trivial
          refine ⟨some (.int (mF 11)), o7, o8, o9, h1.trans ?_⟩
          rw [H_X12_layings_49]
          simp only [R_X12_layings_p0, R_X12_layings_p1, SB, e11, if_true]
        have rel := BR.all X.1.col f 11 (Nat.le_refl _)
        have cle := clP_le X.1.col f 11
        obtain ⟨m, m1, m2, rfl⟩ := inR_of qb
        obtain hm : m = 0 ∨ m = 1 := by omega
        rcases hm with rfl | rfl
        · refine JS.ro hC hM (r := nI (clP X.1.col f 11)) ?_ (fun w => ⟨I, A, ?_, hM⟩)
          · simp only [C_X11_layings, R_X11_layings, SB, hC.f0, hC.f1, hC.f2, hC.f3, hC.f4, hC.f5, hC.f6, hC.f7, hC.f8, hC.f9, clK_gf hC.f0, s_isKnot, s_isColour, s_isKindAndM, s_isUse, iw_1, iw_3, iw_6, iw_7, iw_99, iw_100, iw_255, s_rf1 hC, s_rf2 hC, s_rf3 hC, s_rf4 hC, s_rf5 hC, bI_e0, bI_n0, b_ft, bI_01, bI_t, bI_f, i10, i01, if_true, if_false, Bool.true_eq_false, Bool.false_eq_true, or_true, true_or, not_true_eq_false, not_false_eq_true, ls1s, so, qb, clK_gf sh.p0, ic, show (nI 0 = (0 : Int32)) = True from by decide, g0, k34, cl]
          · obtain ⟨o6, o7, o8, o9, g⟩ := run w (nI 0)
            simp only [C_X12_layings, R_X12_layings_p0, R_X12_layings_p1, SB, mw_o, mw_a, mo_g, mo_p, mo_pz, mw_so, mw_sa, upA_eq, upA_upA, upd_upd, m_isKnot, m_isSheet, mi_1, mi_3, mi_5, mi_6, mi_7, mi_69, mi_99, mi_100, mi_255, m_f1, m_f2, m_f3, m_f4, m_f5, bI_e0, bI_n0, b_ft, bI_01, bI_t, bI_f, i10, i01, if_true, if_false, Bool.true_eq_false, Bool.false_eq_true, or_true, true_or, not_true_eq_false, not_false_eq_true, ls1s, q1, qb, mc, mF_m5]
            refine (show _ = _ from rfl).trans (g.trans ?_)
            simp only [R_X12_layings_p0, R_X12_layings_p1, SB, show (nI 0 = (0 : Int32)) = True from by decide, not_true_eq_false, if_true, if_false]
        · by_cases z0 : clP X.1.col f 11 = 0
          · have b2 : (blP X.1.col f (-1) 11).2 = -1 := rel.2.2.1 (rel.2.1.mp z0)
            rw [b2] at bl
            have ng : ((0 : Int32) ≤ -1) = False := by decide
            refine JS.er hC hM (k := 2) (by decide) ?_ (fun w => ?_)
            · generalize (-1 : Int32) = mm at bl ng
              simp only [C_X11_layings, R_X11_layings, SB, hC.f0, hC.f1, hC.f2, hC.f3, hC.f4, hC.f5, hC.f6, hC.f7, hC.f8, hC.f9, clK_gf hC.f0, s_isKnot, s_isColour, s_isKindAndM, s_isUse, iw_1, iw_3, iw_6, iw_7, iw_99, iw_100, iw_255, s_rf1 hC, s_rf2 hC, s_rf3 hC, s_rf4 hC, s_rf5 hC, bI_e0, bI_n0, b_ft, bI_01, bI_t, bI_f, i10, i01, if_true, if_false, Bool.true_eq_false, Bool.false_eq_true, or_true, true_or, not_true_eq_false, not_false_eq_true, ls1s, so, qb, clK_gf sh.p0, ic, show (nI 1 = (0 : Int32)) = False from by decide, g0, k34, bl, ng]
            · obtain ⟨o6, o7, o8, o9, g⟩ := run w (nI 1)
              simp only [C_X12_layings, R_X12_layings_p0, R_X12_layings_p1, SB, mw_o, mw_a, mo_g, mo_p, mo_pz, mw_so, mw_sa, upA_eq, upA_upA, upd_upd, m_isKnot, m_isSheet, mi_1, mi_3, mi_5, mi_6, mi_7, mi_69, mi_99, mi_100, mi_255, m_f1, m_f2, m_f3, m_f4, m_f5, bI_e0, bI_n0, b_ft, bI_01, bI_t, bI_f, i10, i01, if_true, if_false, Bool.true_eq_false, Bool.false_eq_true, or_true, true_or, not_true_eq_false, not_false_eq_true, ls1s, q1, qb, mc, mF_m5]
              refine (show _ = _ from rfl).trans (g.trans ?_)
              simp only [R_X12_layings_p0, R_X12_layings_p1, SB, mw_o, mo_g, m_f2, show (nI 1 = (0 : Int32)) = False from by decide, not_false_eq_true, if_true, if_false, z0, show (nI 0 = (0 : Int32)) = True from by decide, not_true_eq_false]
          · have nz : (blP X.1.col f (-1) 11).1 ≠ 0 := fun x => z0 (rel.2.1.mpr x)
            obtain ⟨b2, m, mm, b3⟩ := rel.2.2.2 nz
            rw [b3] at bl b2
            have pos : ((0 : Int32) ≤ nI m) = True := by rw [show (0 : Int32) = nI 0 from rfl, le_nI (by decide) (by omega)]; simp
            have cz : (nI (clP X.1.col f 11) = (0 : Int32)) = False := by rw [show (0 : Int32) = nI 0 from rfl, eq_nI (by omega) (by decide)]; exact eq_false z0
            refine JS.ro hC hM (r := nI m) ?_ (fun w => ⟨I, A, ?_, hM⟩)
            · simp only [C_X11_layings, R_X11_layings, SB, hC.f0, hC.f1, hC.f2, hC.f3, hC.f4, hC.f5, hC.f6, hC.f7, hC.f8, hC.f9, clK_gf hC.f0, s_isKnot, s_isColour, s_isKindAndM, s_isUse, iw_1, iw_3, iw_6, iw_7, iw_99, iw_100, iw_255, s_rf1 hC, s_rf2 hC, s_rf3 hC, s_rf4 hC, s_rf5 hC, bI_e0, bI_n0, b_ft, bI_01, bI_t, bI_f, i10, i01, if_true, if_false, Bool.true_eq_false, Bool.false_eq_true, or_true, true_or, not_true_eq_false, not_false_eq_true, ls1s, so, qb, clK_gf sh.p0, ic, show (nI 1 = (0 : Int32)) = False from by decide, g0, k34, bl, pos]
            · obtain ⟨o6, o7, o8, o9, g⟩ := run w (nI 1)
              simp only [C_X12_layings, R_X12_layings_p0, R_X12_layings_p1, SB, mw_o, mw_a, mo_g, mo_p, mo_pz, mw_so, mw_sa, upA_eq, upA_upA, upd_upd, m_isKnot, m_isSheet, mi_1, mi_3, mi_5, mi_6, mi_7, mi_69, mi_99, mi_100, mi_255, m_f1, m_f2, m_f3, m_f4, m_f5, bI_e0, bI_n0, b_ft, bI_01, bI_t, bI_f, i10, i01, if_true, if_false, Bool.true_eq_false, Bool.false_eq_true, or_true, true_or, not_true_eq_false, not_false_eq_true, ls1s, q1, qb, mc, mF_m5]
              refine (show _ = _ from rfl).trans (g.trans ?_)
              simp only [R_X12_layings_p0, R_X12_layings_p1, SB, show (nI 1 = (0 : Int32)) = False from by decide, not_false_eq_true, if_true, if_false, cz, ← b2]
      · rw [Bool.eq_false_iff.mpr qi] at ic
        simp only [Bool.eq_false_iff.mpr qi] at mc
        refine JS.er hC hM (k := 2) (by decide) ?_ (fun w => ?_)
        · simp only [C_X11_layings, R_X11_layings, SB, hC.f0, hC.f1, hC.f2, hC.f3, hC.f4, hC.f5, hC.f6, hC.f7, hC.f8, hC.f9, clK_gf hC.f0, s_isKnot, s_isColour, s_isKindAndM, s_isUse, iw_1, iw_3, iw_6, iw_7, iw_99, iw_100, iw_255, s_rf1 hC, s_rf2 hC, s_rf3 hC, s_rf4 hC, s_rf5 hC, bI_e0, bI_n0, b_ft, bI_01, bI_t, bI_f, i10, i01, if_true, if_false, Bool.true_eq_false, Bool.false_eq_true, or_true, true_or, not_true_eq_false, not_false_eq_true, ls1s, so, qb, clK_gf sh.p0, ic]
        · simp only [C_X12_layings, R_X12_layings_p0, R_X12_layings_p1, SB, mw_o, mw_a, mo_g, mo_p, mo_pz, mw_so, mw_sa, upA_eq, upA_upA, upd_upd, m_isKnot, m_isSheet, mi_1, mi_3, mi_5, mi_6, mi_7, mi_69, mi_99, mi_100, mi_255, m_f1, m_f2, m_f3, m_f4, m_f5, bI_e0, bI_n0, b_ft, bI_01, bI_t, bI_f, i10, i01, if_true, if_false, Bool.true_eq_false, Bool.false_eq_true, or_true, true_or, not_true_eq_false, not_false_eq_true, ls1s, q1, qb, mc]
    · refine JS.er hC hM (k := 1) (by decide) ?_ (fun w => ?_)
      · simp only [C_X11_layings, R_X11_layings, SB, hC.f0, hC.f1, hC.f2, hC.f3, hC.f4, hC.f5, hC.f6, hC.f7, hC.f8, hC.f9, clK_gf hC.f0, s_isKnot, s_isColour, s_isKindAndM, s_isUse, iw_1, iw_3, iw_6, iw_7, iw_99, iw_100, iw_255, s_rf1 hC, s_rf2 hC, s_rf3 hC, s_rf4 hC, s_rf5 hC, bI_e0, bI_n0, b_ft, bI_01, bI_t, bI_f, i10, i01, if_true, if_false, Bool.true_eq_false, Bool.false_eq_true, or_true, true_or, not_true_eq_false, not_false_eq_true, ls1s, so, inR_f qb]
      · simp only [C_X12_layings, R_X12_layings_p0, R_X12_layings_p1, SB, mw_o, mw_a, mo_g, mo_p, mo_pz, mw_so, mw_sa, upA_eq, upA_upA, upd_upd, m_isKnot, m_isSheet, mi_1, mi_3, mi_5, mi_6, mi_7, mi_69, mi_99, mi_100, mi_255, m_f1, m_f2, m_f3, m_f4, m_f5, bI_e0, bI_n0, b_ft, bI_01, bI_t, bI_f, i10, i01, if_true, if_false, Bool.true_eq_false, Bool.false_eq_true, or_true, true_or, not_true_eq_false, not_false_eq_true, ls1s, q1, inR_f qb]
  · have so := s_sheetOf_n hC q1 60
    refine JS.er hC hM (k := 1) (by decide) ?_ (fun w => ?_)
    · simp only [C_X11_layings, R_X11_layings, SB, hC.f0, hC.f1, hC.f2, hC.f3, hC.f4, hC.f5, hC.f6, hC.f7, hC.f8, hC.f9, clK_gf hC.f0, s_isKnot, s_isColour, s_isKindAndM, s_isUse, iw_1, iw_3, iw_6, iw_7, iw_99, iw_100, iw_255, s_rf1 hC, s_rf2 hC, s_rf3 hC, s_rf4 hC, s_rf5 hC, bI_e0, bI_n0, b_ft, bI_01, bI_t, bI_f, i10, i01, if_true, if_false, Bool.true_eq_false, Bool.false_eq_true, or_true, true_or, not_true_eq_false, not_false_eq_true, ls1s, so]
    · simp only [C_X12_layings, R_X12_layings_p0, R_X12_layings_p1, SB, mw_o, mw_a, mo_g, mo_p, mo_pz, mw_so, mw_sa, upA_eq, upA_upA, upd_upd, m_isKnot, m_isSheet, mi_1, mi_3, mi_5, mi_6, mi_7, mi_69, mi_99, mi_100, mi_255, m_f1, m_f2, m_f3, m_f4, m_f5, bI_e0, bI_n0, b_ft, bI_01, bI_t, bI_f, i10, i01, if_true, if_false, Bool.true_eq_false, Bool.false_eq_true, or_true, true_or, not_true_eq_false, not_false_eq_true, ls1s, inR_f q1]
