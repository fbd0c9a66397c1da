/-! ===== pairs: cut ===== -/
theorem absN {z : Int} (h : -100000 < z ∧ z < 100000) : (if (iz z).toInt < 0 then -(iz z) else iz z) = nI z.natAbs := by
  rw [iz_toInt (by omega) (by omega)]
  split
  · rw [iz_neg, nI_iz]; congr 1; omega
  · rw [nI_iz]; congr 1; omega
theorem absM {z : Int} (h : -100000 < z ∧ z < 100000) : (if (0 : Int32) ≤ iz z then iz z else -(iz z)) = nI z.natAbs := by
  have e : ((0 : Int32) ≤ iz z) = (0 ≤ z) := by rw [le_t, iz_toInt (by omega) (by omega)]; rfl
  simp only [e]
  split
  · rw [nI_iz]; congr 1; omega
  · rw [iz_neg, nI_iz]; congr 1; omega
def sgI (f : Nat → Nat) (b : Nat) : Nat → Int
  | 0 => 0
  | n + 1 => sgI f b n + (if n % 6 ≤ b then (f n : Int) else -(f n : Int))
theorem sgI_eq (f : Nat → Nat) : ∀ b, b < 5 → sgI f b 36 = 2 * (sumN (fun c => sumN (fun r => f (r * 6 + c)) 6) (b + 1) : Int) - (sumN (fun c => sumN (fun r => f (r * 6 + c)) 6) 6 : Int) := by
  intro b hb
  have h : b = 0 ∨ b = 1 ∨ b = 2 ∨ b = 3 ∨ b = 4 := by omega
  rcases h with rfl | rfl | rfl | rfl | rfl <;> simp [sgI, sumN] <;> omega
theorem sgI_b (f : Nat → Nat) (b : Nat) (hf : ∀ k, f k < 100) : ∀ n : Nat, -(100 * n : Int) ≤ sgI f b n ∧ sgI f b n ≤ 100 * n := by
  intro n
  induction n with
  | zero => simp [sgI]
  | succ n ih =>
    have := hf n
    unfold sgI
    split <;> omega
def totN (S : Co) : Nat := sumN (wcN S) 6
def ofN (S : Co) (b : Nat) : Nat := (2 * (sumN (wcN S) (b + 1) : Int) - (totN S : Int)).natAbs
def cuF (S : Co) : Nat → Int32 × Nat → Int32 × Nat := fun b s => if s.1 < 0 ∨ ofN S b < s.2 then (nI b, ofN S b) else s
def cuN (S : Co) (n : Nat) : Int32 × Nat := foldN (cuF S) n (-1, 0)
theorem wc_lt (S : Co) (c : Nat) : wcN S c ≤ 6 * 99 := sumN_le 6 (fun k _ => by have := woN_lt S (k * 6 + c); omega)
theorem wcs_le (S : Co) {n : Nat} (h : n ≤ 6) : sumN (wcN S) n ≤ 3600 := by
  have := sumN_le (f := wcN S) (m := 6 * 99) n (fun k _ => wc_lt S k)
  have : n * (6 * 99) ≤ 6 * (6 * 99) := Nat.mul_le_mul_right _ h
  omega
theorem of_lt (S : Co) {b : Nat} (h : b < 6) : ofN S b < 10000 := by
  have h1 := wcs_le S (n := b + 1) (by omega)
  have h2 := wcs_le S (n := 6) (by omega)
  unfold ofN totN
  omega
theorem cuN_s (S : Co) (n : Nat) : cuN S (n + 1) = cuF S n (cuN S n) := foldN_s _ _ _
theorem cuN_lt (S : Co) : ∀ n, n ≤ 6 → (cuN S n).2 < 10000 := by
  intro n
  induction n with
  | zero => intro _; exact (by decide : (0 : Nat) < 10000)
  | succ n ih =>
    intro h
    rw [cuN_s]
    unfold cuF
    split
    · exact of_lt S (by omega)
    · exact ih (by omega)
theorem j_cut (a : Int32) : JO M_X11_cut M_X12_cut [.int a] := by
  apply JO.mk
  intro W X I A hC hM
  have hD := hM.now
  by_cases q : inR a 2 = true
  · -- the class: all columns
    obtain ⟨v, a1, a2⟩ := loopE (fun k (v : AH) => Ex M_X11_cut 60 20 [some (.ref 32), some (.int a), some (.int (nI (sumN (wcN X.1) k))), some (.int (nI k)), none, none, none, none] [] v) (fun _ v => CoAt v 33 X.1 ∧ Fr (StP 33) W v) 6 (by
      intro k v hk ⟨i1, i2⟩
      have hC := hC.same i2 i1
      obtain ⟨u, p1, p2, p3⟩ := s_worthOfColumn i1 hk 60
      refine ⟨u, ?_, p2, i2.trans p3⟩
      have e1 : ((6 : Int32) ≤ nI k) = False := by rw [show (6 : Int32) = nI 6 from rfl, le_nI (by decide) (by omega)]; simp; omega
      rw [H_X11_cut_20]
      simp only [R_X11_cut_p0, R_X11_cut_p1, SB, hC.f0, hC.f1, hC.f2, hC.f3, hC.f4, hC.f5, hC.f6, hC.f7, hC.f8, hC.f9, clK_gf hC.f0, s_isKnot, s_isColour, s_isKindAndM, s_isUse, iw_1, iw_3, iw_6, iw_7, iw_99, iw_100, iw_255, s_rf1 hC, s_rf2 hC, s_rf3 hC, s_rf4 hC, s_rf5 hC, bI_e0, bI_n0, b_ft, bI_01, bI_t, bI_f, i10, i01, if_true, if_false, Bool.true_eq_false, Bool.false_eq_true, or_true, true_or, not_true_eq_false, not_false_eq_true, ls1s, e1, clK_gf i1.k0, p1, nI_add, nI_1]
      rfl) W ⟨hC.now, Fr.refl _ _⟩
    obtain ⟨⟨v2, o⟩, b1, b2⟩ := loopE (fun k (s : AH × Option Value) => Ex M_X11_cut 60 54 [some (.ref 32), some (.int a), some (.int (nI (totN X.1))), some (.int (nI (sumN (wcN X.1) k))), some (.int (cuN X.1 k).1), some (.int (nI (cuN X.1 k).2)), some (.int (nI k)), s.2] [] s.1) (fun _ s => CoAt s.1 33 X.1 ∧ Fr (StP 33) W s.1) 5 (by
      intro k s hk ⟨i1, i2⟩
      obtain ⟨v, o⟩ := s
      have i1 : CoAt v 33 X.1 := i1
      have i2 : Fr (StP 33) W v := i2
      have hC := hC.same i2 i1
      obtain ⟨u, p1, p2, p3⟩ := s_worthOfColumn i1 (show k < 6 by omega) 60
      refine ⟨(u, some (.int (nI (ofN X.1 k)))), ?_, p2, i2.trans p3⟩
      have e1 : ((5 : Int32) ≤ nI k) = False := by rw [show (5 : Int32) = nI 5 from rfl, le_nI (by decide) (by omega)]; simp; omega
      have t1 := wcs_le X.1 (n := k + 1) (by omega)
      have t2 := wcs_le X.1 (n := 6) (by omega)
      have ab : Call M_J9_abs_0f7a4 60 [.int (nI (totN X.1) - nI (sumN (wcN X.1) k + wcN X.1 k) - nI (sumN (wcN X.1) k + wcN X.1 k))] u = some (some (.int (nI (ofN X.1 k))), u) := by
        rw [s_abs, nI_iz, nI_iz, iz_sub, iz_sub]
        have t1 : sumN (wcN X.1) k + wcN X.1 k ≤ 3600 := t1
        have t2 : totN X.1 ≤ 3600 := t2
        rw [absN ⟨by omega, by omega⟩]
        unfold ofN
        have : sumN (wcN X.1) (k + 1) = sumN (wcN X.1) k + wcN X.1 k := rfl
        rw [this, show ((totN X.1 : Int) - (sumN (wcN X.1) k + wcN X.1 k : Nat) - (sumN (wcN X.1) k + wcN X.1 k : Nat)).natAbs = (2 * ((sumN (wcN X.1) k + wcN X.1 k : Nat) : Int) - (totN X.1 : Int)).natAbs by omega]
      have l1 := cuN_lt X.1 k (by omega)
      have l2 := of_lt X.1 (b := k) (by omega)
      have e2 : (nI (cuN X.1 k).2 ≤ nI (ofN X.1 k)) = ((cuN X.1 k).2 ≤ ofN X.1 k) := le_nI (by omega) (by omega)
      rw [H_X11_cut_54, cuN_s]
      unfold cuF
      by_cases c1 : (cuN X.1 k).1 < 0
      · rw [if_pos (Or.inl c1)]
        simp only [R_X11_cut_p0, R_X11_cut_p1, SB, hC.f0, hC.f1, hC.f2, hC.f3, hC.f4, hC.f5, hC.f6, hC.f7, hC.f8, hC.f9, clK_gf hC.f0, s_isKnot, s_isColour, s_isKindAndM, s_isUse, iw_1, iw_3, iw_6, iw_7, iw_99, iw_100, iw_255, s_rf1 hC, s_rf2 hC, s_rf3 hC, s_rf4 hC, s_rf5 hC, bI_e0, bI_n0, b_ft, bI_01, bI_t, bI_f, i10, i01, if_true, if_false, Bool.true_eq_false, Bool.false_eq_true, or_true, true_or, not_true_eq_false, not_false_eq_true, ls1s, e1, clK_gf i1.k0, p1, nI_add, ab, eq_true c1, nI_1]
        rfl
      · by_cases c2 : ofN X.1 k < (cuN X.1 k).2
        · rw [if_pos (Or.inr c2)]
          simp only [R_X11_cut_p0, R_X11_cut_p1, SB, hC.f0, hC.f1, hC.f2, hC.f3, hC.f4, hC.f5, hC.f6, hC.f7, hC.f8, hC.f9, clK_gf hC.f0, s_isKnot, s_isColour, s_isKindAndM, s_isUse, iw_1, iw_3, iw_6, iw_7, iw_99, iw_100, iw_255, s_rf1 hC, s_rf2 hC, s_rf3 hC, s_rf4 hC, s_rf5 hC, bI_e0, bI_n0, b_ft, bI_01, bI_t, bI_f, i10, i01, if_true, if_false, Bool.true_eq_false, Bool.false_eq_true, or_true, true_or, not_true_eq_false, not_false_eq_true, ls1s, e1, clK_gf i1.k0, p1, nI_add, ab, eq_false c1, e2, eq_false (Nat.not_le.mpr c2), nI_1]
          rfl
        · rw [if_neg (fun x => x.elim c1 c2)]
          simp only [R_X11_cut_p0, R_X11_cut_p1, SB, hC.f0, hC.f1, hC.f2, hC.f3, hC.f4, hC.f5, hC.f6, hC.f7, hC.f8, hC.f9, clK_gf hC.f0, s_isKnot, s_isColour, s_isKindAndM, s_isUse, iw_1, iw_3, iw_6, iw_7, iw_99, iw_100, iw_255, s_rf1 hC, s_rf2 hC, s_rf3 hC, s_rf4 hC, s_rf5 hC, bI_e0, bI_n0, b_ft, bI_01, bI_t, bI_f, i10, i01, if_true, if_false, Bool.true_eq_false, Bool.false_eq_true, or_true, true_or, not_true_eq_false, not_false_eq_true, ls1s, e1, clK_gf i1.k0, p1, nI_add, ab, eq_false c1, e2, eq_true (Nat.not_lt.mp c2), nI_1]
          rfl) (v, none) a2
    obtain ⟨b2, b3⟩ := b2
    have e6 : ((6 : Int32) ≤ nI 6) = True := by rw [show (6 : Int32) = nI 6 from rfl]; simp
    have e5 : ((5 : Int32) ≤ nI 5) = True := by rw [show (5 : Int32) = nI 5 from rfl]; simp
    refine ⟨if ¬ a = 0 then nI (cuN X.1 5).2 else (cuN X.1 5).1, X, ⟨v2, ?_, hC.same b3 b2, b3.wide CxP_st⟩, fun w => ?_⟩
    · simp only [C_X11_cut, R_X11_cut_p0, R_X11_cut_p1, SB, hC.f0, hC.f1, hC.f2, hC.f3, hC.f4, hC.f5, hC.f6, hC.f7, hC.f8, hC.f9, clK_gf hC.f0, s_isKnot, s_isColour, s_isKindAndM, s_isUse, iw_1, iw_3, iw_6, iw_7, iw_99, iw_100, iw_255, s_rf1 hC, s_rf2 hC, s_rf3 hC, s_rf4 hC, s_rf5 hC, bI_e0, bI_n0, b_ft, bI_01, bI_t, bI_f, i10, i01, if_true, if_false, Bool.true_eq_false, Bool.false_eq_true, or_true, true_or, not_true_eq_false, not_false_eq_true, ls1s, q]
      refine (show _ = _ from rfl).trans (a1.trans ?_)
      rw [H_X11_cut_20]
      simp only [R_X11_cut_p0, R_X11_cut_p1, SB, e6, if_true, ls1s]
      refine (show _ = _ from rfl).trans (b1.trans ?_)
      rw [H_X11_cut_54]
      by_cases z : a = 0
      · simp only [R_X11_cut_p0, R_X11_cut_p1, SB, e5, if_true, if_false, eq_true z, not_true_eq_false]
      · simp only [R_X11_cut_p0, R_X11_cut_p1, SB, e5, if_true, if_false, eq_false z, not_false_eq_true]
    · obtain ⟨⟨J, B, o5, o6⟩, m1, m2⟩ := loopE (fun k (s : (Nat → Int32) × (Nat → Nat → Int32) × Option Value × Option Value) => Ex M_X12_cut 60 23 [some (.ref 123), some (.int a), some (.int (cuN X.1 k).1), some (.int (nI (cuN X.1 k).2)), some (.int (nI k)), s.2.2.1, s.2.2.2] [] (mw w s.1 s.2.1)) (fun _ s => Kp I A s.1 s.2.1) 5 (by
        intro k s hk hI
        obtain ⟨J, B, o5, o6⟩ := s
        have hI : Kp I A J B := hI
        have e1 : ((5 : Int32) ≤ nI k) = False := by rw [show (5 : Int32) = nI 5 from rfl, le_nI (by decide) (by omega)]; simp; omega
        obtain ⟨⟨J2, B2⟩, n1, n2⟩ := loopE (fun j (s : (Nat → Int32) × (Nat → Nat → Int32)) => Ex M_X12_cut 60 35 [some (.ref 123), some (.int a), some (.int (cuN X.1 k).1), some (.int (nI (cuN X.1 k).2)), some (.int (nI k)), some (.int (iz (sgI (woN X.1) k j))), some (.int (nI j))] [] (mw w s.1 s.2)) (fun _ s => Kp I A s.1 s.2) 36 (by
          intro j s hj hI
          obtain ⟨J, B⟩ := s
          have hI : Kp I A J B := hI
          have hB : DR (B 0) X.1 := by rw [hI.a0]; exact hD
          have e1 : ((36 : Int32) ≤ nI j) = False := by rw [show (36 : Int32) = nI 36 from rfl, le_nI (by decide) (by omega)]; simp; omega
          have r6 : nI j - nI j / 6 * 6 = nI (j % 6) := pk_rem (show j < 2 ^ 31 by omega) (show 0 < 6 by decide) (show 6 < 2 ^ 31 by decide)
          obtain ⟨J2, B2, p1, p2⟩ := m_worthOf (w := w) (I := J) hB hj 60
          have e2 : (nI k < nI (j % 6)) = (k < j % 6) := lt_nI (by omega) (by omega)
          refine ⟨(J2, B2), ?_, hI.trans p2⟩
          rw [H_X12_cut_35]
          by_cases z : j % 6 ≤ k
          · rw [show sgI (woN X.1) k (j + 1) = sgI (woN X.1) k j + (woN X.1 j : Int) from by show _ + _ = _; rw [if_pos z], ← iz_add, ← nI_iz]
            simp only [R_X12_cut_p0, R_X12_cut_p1, SB, mw_o, mw_a, mo_g, mo_p, mo_pz, mw_so, mw_sa, upA_eq, upA_upA, upd_upd, m_isKnot, m_isSheet, mi_1, mi_3, mi_5, mi_6, mi_7, mi_69, mi_99, mi_100, mi_255, m_f1, m_f2, m_f3, m_f4, m_f5, bI_e0, bI_n0, b_ft, bI_01, bI_t, bI_f, i10, i01, if_true, if_false, Bool.true_eq_false, Bool.false_eq_true, or_true, true_or, not_true_eq_false, not_false_eq_true, ls1s, e1, show ((6 : Int32) = 0) = False from by simp, r6, e2, eq_false (Nat.not_lt.mpr z), p1, nI_1]
          · rw [show sgI (woN X.1) k (j + 1) = sgI (woN X.1) k j + -(woN X.1 j : Int) from by show _ + _ = _; rw [if_neg z], ← iz_add, ← iz_neg, ← nI_iz]
            simp only [R_X12_cut_p0, R_X12_cut_p1, SB, mw_o, mw_a, mo_g, mo_p, mo_pz, mw_so, mw_sa, upA_eq, upA_upA, upd_upd, m_isKnot, m_isSheet, mi_1, mi_3, mi_5, mi_6, mi_7, mi_69, mi_99, mi_100, mi_255, m_f1, m_f2, m_f3, m_f4, m_f5, bI_e0, bI_n0, b_ft, bI_01, bI_t, bI_f, i10, i01, if_true, if_false, Bool.true_eq_false, Bool.false_eq_true, or_true, true_or, not_true_eq_false, not_false_eq_true, ls1s, e1, show ((6 : Int32) = 0) = False from by simp, r6, e2, eq_true (Nat.not_le.mp z), p1, nI_1]) (J, B) hI
        have n2 : Kp I A J2 B2 := n2
        have sz := sgI_eq (woN X.1) k hk
        have sb := sgI_b (woN X.1) k (fun k => woN_lt _ _) 36
        have am := absM (z := sgI (woN X.1) k 36) ⟨by omega, by omega⟩
        have so : (sgI (woN X.1) k 36).natAbs = ofN X.1 k := by rw [sz]; rfl
        rw [so] at am
        refine ⟨(J2, B2, some (.int (iz (sgI (woN X.1) k 36))), some (.int (nI (ofN X.1 k)))), ?_, n2⟩
        have e36 : ((36 : Int32) ≤ nI 36) = True := by rw [show (36 : Int32) = nI 36 from rfl]; simp
        have l1 := cuN_lt X.1 k (by omega)
        have l2 := of_lt X.1 (b := k) (by omega)
        have e2 : (nI (cuN X.1 k).2 ≤ nI (ofN X.1 k)) = ((cuN X.1 k).2 ≤ ofN X.1 k) := le_nI (by omega) (by omega)
        rw [H_X12_cut_23, cuN_s]
        simp only [R_X12_cut_p0, R_X12_cut_p1, SB, e1, if_false, if_true, ls1s]
        refine (show _ = _ from rfl).trans (n1.trans ?_)
        rw [H_X12_cut_35]
        unfold cuF
        by_cases s0 : (0 : Int32) ≤ iz (sgI (woN X.1) k 36)
        · rw [if_pos s0] at am
          have s1 : ((0 : Int32) ≤ nI (ofN X.1 k)) = True := by rw [← am]; exact eq_true s0
          by_cases c1 : (cuN X.1 k).1 < 0
          · rw [if_pos (Or.inl c1)]
            simp only [R_X12_cut_p0, R_X12_cut_p1, SB, e36, if_false, if_true, ls1s, s1, am, eq_true c1, nI_1]
          · by_cases c2 : ofN X.1 k < (cuN X.1 k).2
            · rw [if_pos (Or.inr c2)]
              simp only [R_X12_cut_p0, R_X12_cut_p1, SB, e36, if_false, if_true, ls1s, s1, am, eq_false c1, e2, eq_false (Nat.not_le.mpr c2), nI_1]
            · rw [if_neg (fun x => x.elim c1 c2)]
              simp only [R_X12_cut_p0, R_X12_cut_p1, SB, e36, if_false, if_true, ls1s, s1, am, eq_false c1, e2, eq_true (Nat.not_lt.mp c2), nI_1]
        · rw [if_neg s0] at am
          by_cases c1 : (cuN X.1 k).1 < 0
          · rw [if_pos (Or.inl c1)]
            simp only [R_X12_cut_p0, R_X12_cut_p1, SB, e36, if_false, if_true, ls1s, eq_false s0, am, eq_true c1, nI_1]
          · by_cases c2 : ofN X.1 k < (cuN X.1 k).2
            · rw [if_pos (Or.inr c2)]
              simp only [R_X12_cut_p0, R_X12_cut_p1, SB, e36, if_false, if_true, ls1s, eq_false s0, am, eq_false c1, e2, eq_false (Nat.not_le.mpr c2), nI_1]
            · rw [if_neg (fun x => x.elim c1 c2)]
              simp only [R_X12_cut_p0, R_X12_cut_p1, SB, e36, if_false, if_true, ls1s, eq_false s0, am, eq_false c1, e2, eq_true (Nat.not_lt.mp c2), nI_1]) (I, A, none, none) (Kp.refl _ _)
      refine ⟨J, B, ?_, hM.kq m2⟩
      simp only [C_X12_cut, R_X12_cut_p0, R_X12_cut_p1, SB, mw_o, mw_a, mo_g, mo_p, mo_pz, mw_so, mw_sa, upA_eq, upA_upA, upd_upd, m_isKnot, m_isSheet, mi_1, mi_3, mi_5, mi_6, mi_7, mi_69, mi_99, mi_100, mi_255, m_f1, m_f2, m_f3, m_f4, m_f5, bI_e0, bI_n0, b_ft, bI_01, bI_t, bI_f, i10, i01, if_true, if_false, Bool.true_eq_false, Bool.false_eq_true, or_true, true_or, not_true_eq_false, not_false_eq_true, ls1s, q]
      refine (show _ = _ from rfl).trans (m1.trans ?_)
      rw [H_X12_cut_23]
      by_cases z : a = 0
      · simp only [R_X12_cut_p0, R_X12_cut_p1, SB, e5, if_true, if_false, eq_true z, not_true_eq_false]
      · simp only [R_X12_cut_p0, R_X12_cut_p1, SB, e5, if_true, if_false, eq_false z, not_false_eq_true]
  · refine JS.er hC hM (k := 1) (by decide) ?_ (fun w => ?_)
    · simp only [C_X11_cut, R_X11_cut_p0, R_X11_cut_p1, SB, hC.f0, hC.f1, hC.f2, hC.f3, hC.f4, hC.f5, hC.f6, hC.f7, hC.f8, hC.f9, clK_gf hC.f0, s_isKnot, s_isColour, s_isKindAndM, s_isUse, iw_1, iw_3, iw_6, iw_7, iw_99, iw_100, iw_255, s_rf1 hC, s_rf2 hC, s_rf3 hC, s_rf4 hC, s_rf5 hC, bI_e0, bI_n0, b_ft, bI_01, bI_t, bI_f, i10, i01, if_true, if_false, Bool.true_eq_false, Bool.false_eq_true, or_true, true_or, not_true_eq_false, not_false_eq_true, ls1s, inR_f q]
    · simp only [C_X12_cut, R_X12_cut_p0, R_X12_cut_p1, SB, mw_o, mw_a, mo_g, mo_p, mo_pz, mw_so, mw_sa, upA_eq, upA_upA, upd_upd, m_isKnot, m_isSheet, mi_1, mi_3, mi_5, mi_6, mi_7, mi_69, mi_99, mi_100, mi_255, m_f1, m_f2, m_f3, m_f4, m_f5, bI_e0, bI_n0, b_ft, bI_01, bI_t, bI_f, i10, i01, if_true, if_false, Bool.true_eq_false, Bool.false_eq_true, or_true, true_or, not_true_eq_false, not_false_eq_true, ls1s, inR_f q]
