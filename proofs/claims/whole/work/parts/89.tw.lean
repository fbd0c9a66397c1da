/-! ===== pairs: dyed ===== -/
def dyeN (col : Nat → Nat) (k n m : Nat) : Nat × Nat := foldN (dyeF (csN col) (land col k) n) m (0, 0)
theorem dyeN_s (col : Nat → Nat) (k n m : Nat) : dyeN col k n (m + 1) = dyeF (csN col) (land col k) n m (dyeN col k n m) := foldN_s _ _ _
theorem lf_col (col : Nat → Nat) {k : Nat} (hk : k < 36) (n code : Nat) : lfN (csN col) (land col k) n code = pc (land (colS col k (dgN n code) n) k) := by
  unfold lfN
  rw [(colS_land col hk (dgN n code) n).1]
theorem lf_le (col : Nat → Nat) {k : Nat} (hk : k < 36) (n code : Nat) : 0 < lfN (csN col) (land col k) n code ∧ lfN (csN col) (land col k) n code ≤ 36 := by
  rw [lf_col col hk]
  refine ⟨?_, pc_le (land_lt _ hk)⟩
  rw [pc_36 (land_lt _ hk)]
  have := cnt_lt (P := fun _ => false) (Q := fun j => (land (colS col k (dgN n code) n) k).testBit j) (n := 36) (fun _ _ h => by cases h) ⟨k, hk, rfl, land_self _ hk⟩
  rw [cnt_false] at this
  exact this
theorem dyeN_b (col : Nat → Nat) {k : Nat} (hk : k < 36) (n : Nat) : ∀ m, (dyeN col k n m).1 ≤ 36 ∧ (0 < m → 0 < (dyeN col k n m).1) ∧ (dyeN col k n m).2 ≤ m := by
  intro m
  induction m with
  | zero => exact ⟨(by decide : (0 : Nat) ≤ 36), fun h => by omega, Nat.le_refl _⟩
  | succ m ih =>
    obtain ⟨i1, i2, i3⟩ := ih
    obtain ⟨l1, l2⟩ := lf_le col hk n m
    rw [dyeN_s]
    unfold dyeF
    by_cases q : (dyeN col k n m).1 < lfN (csN col) (land col k) n m
    · rw [if_pos q]; exact ⟨l2, fun _ => l1, by show m ≤ m + 1; omega⟩
    · rw [if_neg q]; exact ⟨i1, fun _ => by omega, by omega⟩
theorem m_dyeO {S : Co} {I : Nat → Int32} {A : Nat → Nat → Int32} (hD : DR (A 0) S) {k n : Nat} (hk : k < 36) (hn : 1 ≤ n ∧ n ≤ 3) (o2 : Int32) (w : AH) (lv : Nat) : ∃ J B o8 o9, Ex M_X12_dyed lv 74 [some (.ref 123), some (.int (nI k)), some (.int (nI n)), some (.int o2), some (.int (nI (7 ^ n))), some (.int (nI 0)), some (.int (nI 0)), some (.int (nI 0)), none, none] [] (mw w I A) = Ex M_X12_dyed lv 74 [some (.ref 123), some (.int (nI k)), some (.int (nI n)), some (.int o2), some (.int (nI (7 ^ n))), some (.int (nI (dyeN S.col k n (7 ^ n)).2)), some (.int (nI (dyeN S.col k n (7 ^ n)).1)), some (.int (nI (7 ^ n))), o8, o9] [] (mw w J B) ∧ (∀ j, j ≠ 13 → J j = I j) ∧ ∀ j, j ≠ 3 ∧ j ≠ 5 ∧ j ≠ 6 → B j = A j := by
  have p7 : 7 ^ n ≤ 343 := by
    have h1 : 7 ^ n ≤ 7 ^ 3 := Nat.pow_le_pow_right (by decide) hn.2
    have h3 : 7 ^ 3 = 343 := by decide
    omega
  obtain ⟨⟨J, B, o8, o9⟩, a1, a2, a3⟩ := loopE (fun m (s : (Nat → Int32) × (Nat → Nat → Int32) × Option Value × Option Value) => Ex M_X12_dyed lv 74 [some (.ref 123), some (.int (nI k)), some (.int (nI n)), some (.int o2), some (.int (nI (7 ^ n))), some (.int (nI (dyeN S.col k n m).2)), some (.int (nI (dyeN S.col k n m).1)), some (.int (nI m)), s.2.2.1, s.2.2.2] [] (mw w s.1 s.2.1)) (fun m s => (∀ j, j ≠ 13 → s.1 j = I j) ∧ ∀ j, j ≠ 3 ∧ j ≠ 5 ∧ j ≠ 6 → s.2.1 j = A j) (7 ^ n) (by
    intro m s hm hI
    obtain ⟨J, B, o8, o9⟩ := s
    obtain ⟨i1, i2⟩ : (∀ j, j ≠ 13 → J j = I j) ∧ ∀ j, j ≠ 3 ∧ j ≠ 5 ∧ j ≠ 6 → B j = A j := hI
    have hB0 : B 0 = A 0 := i2 0 (by decide)
    have hDB : DR (upA B 3 (cpyF (B 0) (B 3) 97) 0) S := by rw [upA_n (by decide), hB0]; exact hD
    obtain ⟨J2, B2, d1, d2, d3, d4, d5⟩ := m_dyeI (I := J) (A := upA B 3 (cpyF (B 0) (B 3) 97)) (code := m) hDB hk hn (by omega) o2 (nI (7 ^ n)) (nI (dyeN S.col k n m).2) (nI (dyeN S.col k n m).1) w lv
    obtain ⟨F, R, r, q, s1, s2⟩ := m_spreads (I := J2) d2 hk w 60
    have me := s2.m_eq hk
    have me : q = lfN (csN S.col) (land S.col k) n m := by rw [lf_col S.col hk]; exact me
    obtain ⟨b1, b2, b3⟩ := dyeN_b S.col hk n m
    obtain ⟨l1, l2⟩ := lf_le S.col hk n m
    have ka := m_keepAside J B w 60
    have pb := m_putBack (upd J2 13 (nI q)) (upA (upA B2 5 R) 6 F) w 60
    have e3 : (upA (upA B2 5 R) 6 F) 3 = cpyF (B 0) (B 3) 97 := by
      rw [upA_n (by decide), upA_n (by decide), d5 3 (by decide)]; rfl
    have e00 : (upA (upA B2 5 R) 6 F) 0 = B2 0 := by rw [upA_n (by decide), upA_n (by decide)]
    rw [e3, e00, back_eq (show Lo (B 0) (B2 0) from d3)] at pb
    have e1 : (nI (7 ^ n) ≤ nI m) = False := by rw [le_nI (by omega) (by omega)]; apply eq_false; omega
    have e7 : nI (7 ^ n) / 7 = nI (oFN n 0) := by
      have : 7 ^ n / 7 = oFN n 0 := by
        unfold oFN
        rw [Nat.pow_zero, Nat.div_one]
        obtain ⟨n1, rfl⟩ : ∃ n1, n = n1 + 1 := ⟨n - 1, by omega⟩
        rw [Nat.pow_succ, Nat.mul_div_cancel _ (by decide)]
        rfl
      rw [← this]
      exact pk_div (show 7 ^ n < 2 ^ 31 by omega) (show 0 < 7 by decide) (show 7 < 2 ^ 31 by decide)
    have nn : (nI n ≤ nI n) = True := by simp
    have c1 : (nI q ≤ nI (dyeN S.col k n m).1) = (q ≤ (dyeN S.col k n m).1) := le_nI (by omega) (by omega)
    have step : Ex M_X12_dyed lv 74 [some (.ref 123), some (.int (nI k)), some (.int (nI n)), some (.int o2), some (.int (nI (7 ^ n))), some (.int (nI (dyeN S.col k n m).2)), some (.int (nI (dyeN S.col k n m).1)), some (.int (nI m)), o8, o9] [] (mw w J B) = Ex M_X12_dyed lv 95 [some (.ref 123), some (.int (nI k)), some (.int (nI n)), some (.int o2), some (.int (nI (7 ^ n))), some (.int (nI (dyeN S.col k n m).2)), some (.int (nI (dyeN S.col k n m).1)), some (.int (nI m)), some (.int (nI (oFN n n))), some (.int (nI n))] [] (mw w J2 B2) := by
      rw [H_X12_dyed_74]
      simp only [R_X12_dyed_p0, R_X12_dyed_p1, SB, mw_o, mw_a, mo_g, mo_p, mo_pz, mw_so, mw_sa, upA_eq, upA_upA, upd_upd, m_isKnot, m_isSheet, mi_1, mi_3, mi_5, mi_6, mi_7, mi_69, mi_99, mi_100, mi_255, m_f1, m_f2, m_f3, m_f4, m_f5, bI_e0, bI_n0, b_ft, bI_01, bI_t, bI_f, i10, i01, if_true, if_false, Bool.true_eq_false, Bool.false_eq_true, or_true, true_or, not_true_eq_false, not_false_eq_true, ls1s, e1, ka, e7, show ((7 : Int32) = 0) = False from by decide]
      exact d1
    refine ⟨(upd J2 13 (nI q), upA (upA (upA B2 5 R) 6 F) 0 (B 0), some (.int (nI (oFN n n))), some (.int (nI n))), ?_, fun j hj => ?_, fun j hj => ?_⟩
    · rw [step, dyeN_s, H_X12_dyed_95]
      unfold dyeF
      rw [← me]
      by_cases z : (dyeN S.col k n m).1 < q
      · rw [if_pos z]
        simp only [R_X12_dyed_p0, R_X12_dyed_p1, SB, mw_o, mw_a, mo_g, mo_p, mo_pz, mw_so, mw_sa, upA_eq, upA_upA, upd_upd, m_isKnot, m_isSheet, mi_1, mi_3, mi_5, mi_6, mi_7, mi_69, mi_99, mi_100, mi_255, m_f1, m_f2, m_f3, m_f4, m_f5, bI_e0, bI_n0, b_ft, bI_01, bI_t, bI_f, i10, i01, if_true, if_false, Bool.true_eq_false, Bool.false_eq_true, or_true, true_or, not_true_eq_false, not_false_eq_true, ls1s, nn, s1, pb, upd_s, c1, eq_false (Nat.not_le.mpr z), nI_1]
      · rw [if_neg z]
        simp only [R_X12_dyed_p0, R_X12_dyed_p1, SB, mw_o, mw_a, mo_g, mo_p, mo_pz, mw_so, mw_sa, upA_eq, upA_upA, upd_upd, m_isKnot, m_isSheet, mi_1, mi_3, mi_5, mi_6, mi_7, mi_69, mi_99, mi_100, mi_255, m_f1, m_f2, m_f3, m_f4, m_f5, bI_e0, bI_n0, b_ft, bI_01, bI_t, bI_f, i10, i01, if_true, if_false, Bool.true_eq_false, Bool.false_eq_true, or_true, true_or, not_true_eq_false, not_false_eq_true, ls1s, nn, s1, pb, upd_s, c1, eq_true (Nat.not_lt.mp z), nI_1]
    · show upd J2 13 (nI q) j = I j
      rw [upd_n hj, d4 j hj]; exact i1 j hj
    · show upA (upA (upA B2 5 R) 6 F) 0 (B 0) j = A j
      by_cases z : j = 0
      · subst z; exact hB0
      · rw [upA_n z, upA_n hj.2.2, upA_n hj.2.1, d5 j ⟨z, hj.2.1, hj.2.2⟩, upA_n hj.1]
        exact i2 j hj) (I, A, none, none) ⟨fun _ _ => rfl, fun _ _ => rfl⟩
  exact ⟨J, B, o8, o9, a1, a2, a3⟩
