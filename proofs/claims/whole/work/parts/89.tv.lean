/-! ===== Dyeing: the model's codes ===== -/
def colS (col : Nat → Nat) (k : Nat) (cs : Nat → Nat) : Nat → Nat → Nat
  | 0 => col
  | i + 1 => fdN (colS col k cs i) k (cs i)
theorem colS_land (col : Nat → Nat) {k : Nat} (hk : k < 36) (cs : Nat → Nat) : ∀ i, land (colS col k cs i) k = lnS (csN col) (land col k) cs i ∧ ∀ j, j < 36 → (land (colS col k cs i) k).testBit j = false → colS col k cs i j = col j := by
  intro i
  induction i with
  | zero => exact ⟨rfl, fun j _ _ => rfl⟩
  | succ i ih =>
    obtain ⟨i1, i2⟩ := ih
    have e := flood_land col (colS col k cs i) (cs i) hk i2
    refine ⟨?_, fun j hj h => ?_⟩
    · show land (fdN _ _ _) k = lnN _ (lnS _ _ _ i) _
      rw [e, i1]
    · have h : (land (fdN (colS col k cs i) k (cs i)) k).testBit j = false := h
      rw [e] at h
      have lj : (land (colS col k cs i) k).testBit j = false := by
        cases z : (land (colS col k cs i) k).testBit j with
        | false => rfl
        | true =>
          have ll := land_lt (colS col k cs i) hk
          have wl : land (colS col k cs i) k ||| csN col (cs i) < 2 ^ 36 := Nat.or_lt_two_pow ll (csN_lt col _)
          have := (gro_all ll wl).2.2.1 j hj z (by rw [Nat.testBit_or, z]; rfl)
          have h : (gro (land (colS col k cs i) k ||| csN col (cs i)) 36 (land (colS col k cs i) k &&& (land (colS col k cs i) k ||| csN col (cs i)))).testBit j = false := h
          rw [this] at h
          cases h
      show (if (land (colS col k cs i) k).testBit j = true then cs i else colS col k cs i j) = col j
      rw [lj, if_neg (by decide)]
      exact i2 j hj lj
def oFN (n i : Nat) : Nat := 7 ^ (n - 1) / 7 ^ i
theorem oFN_s (n i : Nat) : oFN n i / 7 = oFN n (i + 1) := by
  unfold oFN
  rw [Nat.div_div_eq_div_mul, Nat.pow_succ]
theorem oFN_dg {n i code : Nat} (hi : i < n) : code / oFN n i % 7 + 1 = dgN n code i ∧ 0 < oFN n i := by
  unfold oFN dgN
  rw [Nat.pow_div (by omega) (by decide)]
  exact ⟨rfl, Nat.pow_pos (by decide)⟩
theorem oFN_lt {n i : Nat} (hn : n ≤ 3) : oFN n i < 1000 := by
  unfold oFN
  have h1 : 7 ^ (n - 1) ≤ 7 ^ 2 := Nat.pow_le_pow_right (by decide) (by omega)
  have h2 := Nat.div_le_self (7 ^ (n - 1)) (7 ^ i)
  have h3 : 7 ^ 2 = 49 := by decide
  omega
theorem DR.rcol {D : Nat → Int32} {S : Co} (h : DR D S) {col : Nat → Nat} (e : col = S.col) : DR D (S.upd3 col S.wear S.wk) := by
  subst e; exact h
theorem m_dyeI {S : Co} {I : Nat → Int32} {A : Nat → Nat → Int32} (hD : DR (A 0) S) {k n code : Nat} (hk : k < 36) (hn : 1 ≤ n ∧ n ≤ 3) (hc : code < 343) (o2 o4 o5 o6 : Int32) (w : AH) (lv : Nat) : ∃ J B, Ex M_X12_dyed lv 95 [some (.ref 123), some (.int (nI k)), some (.int (nI n)), some (.int o2), some (.int o4), some (.int o5), some (.int o6), some (.int (nI code)), some (.int (nI (oFN n 0))), some (.int (nI 0))] [] (mw w I A) = Ex M_X12_dyed lv 95 [some (.ref 123), some (.int (nI k)), some (.int (nI n)), some (.int o2), some (.int o4), some (.int o5), some (.int o6), some (.int (nI code)), some (.int (nI (oFN n n))), some (.int (nI n))] [] (mw w J B) ∧ DR (B 0) (S.upd3 (colS S.col k (dgN n code) n) S.wear S.wk) ∧ Lo (A 0) (B 0) ∧ (∀ j, j ≠ 13 → J j = I j) ∧ ∀ j, j ≠ 0 ∧ j ≠ 5 ∧ j ≠ 6 → B j = A j := by
  obtain ⟨⟨J, B⟩, a1, a2, a3, a4, a5⟩ := loopE (fun i (s : (Nat → Int32) × (Nat → Nat → Int32)) => Ex M_X12_dyed lv 95 [some (.ref 123), some (.int (nI k)), some (.int (nI n)), some (.int o2), some (.int o4), some (.int o5), some (.int o6), some (.int (nI code)), some (.int (nI (oFN n i))), some (.int (nI i))] [] (mw w s.1 s.2)) (fun i s => DR (s.2 0) (S.upd3 (colS S.col k (dgN n code) i) S.wear S.wk) ∧ Lo (A 0) (s.2 0) ∧ (∀ j, j ≠ 13 → s.1 j = I j) ∧ ∀ j, j ≠ 0 ∧ j ≠ 5 ∧ j ≠ 6 → s.2 j = A j) n (by
    intro i s hi hI
    obtain ⟨J, B⟩ := s
    obtain ⟨i1, i2, i3, i4⟩ : DR (B 0) (S.upd3 (colS S.col k (dgN n code) i) S.wear S.wk) ∧ Lo (A 0) (B 0) ∧ (∀ j, j ≠ 13 → J j = I j) ∧ ∀ j, j ≠ 0 ∧ j ≠ 5 ∧ j ≠ 6 → B j = A j := hI
    obtain ⟨d1, d2⟩ := oFN_dg (code := code) hi
    have ol := oFN_lt (i := i) hn.2
    have dl : dgN n code i < 8 := by unfold dgN; omega
    obtain ⟨J2, B2, f1, f2, f3, f4, f5⟩ := m_floods (I := J) i1 hk dl w 60
    have e1 : (nI n ≤ nI i) = False := by rw [le_nI (by omega) (by omega)]; apply eq_false; omega
    have z0 : (nI (oFN n i) = (0 : Int32)) = False := by rw [show (0 : Int32) = nI 0 from rfl, eq_nI (by omega) (by decide)]; apply eq_false; omega
    have q1 : nI code / nI (oFN n i) = nI (code / oFN n i) := pk_div (show code < 2 ^ 31 by omega) d2 (show oFN n i < 2 ^ 31 by omega)
    have cl : code / oFN n i < 2 ^ 31 := by have := Nat.div_le_self code (oFN n i); omega
    have q2 : nI (code / oFN n i) - nI (code / oFN n i) / 7 * 7 = nI (code / oFN n i % 7) := pk_rem cl (show 0 < 7 by decide) (show 7 < 2 ^ 31 by decide)
    have q3 : nI (code / oFN n i % 7) + 1 = nI (dgN n code i) := by rw [nI_1, d1]
    have q4 : nI (oFN n i) / 7 = nI (oFN n (i + 1)) := by
      rw [← oFN_s]
      exact pk_div (show oFN n i < 2 ^ 31 by omega) (show 0 < 7 by decide) (show 7 < 2 ^ 31 by decide)
    refine ⟨(J2, B2), ?_, f2, i2.trans f3, fun j hj => (f4 j hj).trans (i3 j hj), fun j hj => (f5 j hj).trans (i4 j hj)⟩
    rw [H_X12_dyed_95]
    simp only [R_X12_dyed_p0, R_X12_dyed_p1, SB, mw_o, mw_a, mo_g, mo_p, mo_pz, mw_so, mw_sa, upA_eq, upA_upA, upd_upd, m_isKnot, m_isSheet, mi_1, mi_3, mi_5, mi_6, mi_7, mi_69, mi_99, mi_100, mi_255, m_f1, m_f2, m_f3, m_f4, m_f5, bI_e0, bI_n0, b_ft, bI_01, bI_t, bI_f, i10, i01, if_true, if_false, Bool.true_eq_false, Bool.false_eq_true, or_true, true_or, not_true_eq_false, not_false_eq_true, ls1s, e1, z0, q1, q2, q3, show ((7 : Int32) = 0) = False from by decide, f1, q4, nI_1]) (I, A) ⟨hD.rcol rfl, Lo.refl _, fun _ _ => rfl, fun _ _ => rfl⟩
  exact ⟨J, B, a1, a2, a3, a4, a5⟩
