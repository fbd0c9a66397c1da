/-! ===== pairs: lands, greatest: the model ===== -/
theorem m_findLands {S : Co} {I : Nat → Int32} {A : Nat → Nat → Int32} (hD : DR (A 0) S) {a : Int32} {q : Nat → Bool} (hq : (((0 : Int32) ≤ a) = False ∧ ∀ k, q k = decide (S.col k ≠ 0)) ∨ (∃ c, c < 8 ∧ a = nI c ∧ ∀ k, q k = decide (S.col k = c))) (w : AH) (lv : Nat) : ∃ J B, Call M_X12_findLands lv [.ref 123, .int a] (mw w I A) = some (none, mw w J B) ∧ FlJ I A (flN S.col q 36) J B := by
  obtain ⟨⟨J, B, o⟩, a1, a2⟩ := loopE (fun k (s : (Nat → Int32) × (Nat → Nat → Int32) × Option Value) => Ex M_X12_findLands lv 17 [some (.ref 123), some (.int a), some (.int (nI k)), s.2.2] [] (mw w s.1 s.2.1)) (fun k s => FlJ I A (flN S.col q k) s.1 s.2.1) 36 (by
    intro k s hk hI
    obtain ⟨J, B, o⟩ := s
    obtain ⟨h15, h16, h17, h2, h21, hB⟩ := hI
    have h15 : J 15 = _ := h15
    have h16 : J 16 = _ := h16
    have h17 : J 17 = _ := h17
    have hB : ∀ j, j ≠ 5 ∧ j ≠ 6 → B j = A j := hB
    have hD2 : DR (B 0) S := by rw [hB 0 ⟨by decide, by decide⟩]; exact hD
    have e1 : ((36 : Int32) ≤ nI k) = False := by rw [show (36 : Int32) = nI 36 from rfl, le_nI (by decide) (by omega)]; apply eq_false; omega
    have mp := m_pass (J := J) hD2 hq hk o w lv
    obtain ⟨f1, f2⟩ := flN_cnt S.col q k (by omega)
    rw [flN_s]
    unfold flF
    cases z : q k with
    | false =>
      rw [z, if_neg (by decide)] at mp
      refine ⟨(J, B, some (.int (nI (S.col k)))), ?_, ⟨h15, h16, h17, h2, h21, hB⟩⟩
      refine (show _ = _ from rfl).trans (mp.trans ?_)
      simp only [R_X12_findLands_p0, R_X12_findLands_p1, SB, ls1s, nI_1]
    | true =>
      rw [z, if_pos rfl] at mp
      obtain ⟨F, R, r, m, s1, s2⟩ := m_spreads (I := J) hD2 hk w 60
      have me := s2.m_eq hk
      have ll := land_lt S.col hk
      have lp := pc_le ll
      have ml := m_leastSpread (I := upd J 13 (nI m)) (A := upA (upA B 5 R) 6 F) hk s2.2.1 w 60
      obtain ⟨l1, l2, l3, l4⟩ := land_low S.col hk
      have c1 : (nI k ≤ nI (low (land S.col k))) = (k ≤ low (land S.col k)) := le_nI (by omega) (by omega)
      have hB2 : ∀ j, j ≠ 5 ∧ j ≠ 6 → upA (upA B 5 R) 6 F j = A j := fun j hj => by rw [upA_n hj.2, upA_n hj.1]; exact hB j hj
      by_cases y : low (land S.col k) = k
      · have ly : lkB S.col k = true := decide_eq_true y
        rw [ly]
        have c2 : (nI m ≤ nI (flN S.col q k).2.1) = (m ≤ (flN S.col q k).2.1) := le_nI (by omega) (by omega)
        by_cases x : (flN S.col q k).2.1 < pc (land S.col k)
        · refine ⟨(upd (upd (upd (upd J 13 (nI m)) 15 (nI ((flN S.col q k).1 + 1))) 16 (nI m)) 17 (nI k), upA (upA B 5 R) 6 F, some (.int (nI (S.col k)))), ?_, ?_⟩
          · refine (show _ = _ from rfl).trans (mp.trans ?_)
            simp (disch := omega) only [R_X12_findLands_p0, R_X12_findLands_p1, SB, mw_o, mw_a, mo_g, mo_p, mo_pz, mw_so, mw_sa, upA_eq, upA_upA, upd_upd, m_isKnot, m_isSheet, mi_1, mi_3, mi_5, mi_6, mi_7, mi_69, mi_99, mi_100, mi_255, m_f1, m_f2, m_f3, m_f4, m_f5, bI_e0, bI_n0, b_ft, bI_01, bI_t, bI_f, i10, i01, if_true, if_false, Bool.true_eq_false, Bool.false_eq_true, or_true, true_or, not_true_eq_false, not_false_eq_true, ls1s, s1, ml, c1, eq_true (show k ≤ low (land S.col k) by omega), upd_s, upd_n, h15, h16, nI_1, c2, eq_false (show ¬ m ≤ (flN S.col q k).2.1 by omega)]
          · show FlJ I A (if _ then _ else _ : Nat × Nat × Nat) _ _
            rw [if_pos (by decide), if_pos x]
            refine ⟨?_, ?_, ?_, ?_, ?_, hB2⟩
            · dsimp only; rw [upd_n (by decide), upd_n (by decide), upd_s]
            · dsimp only; rw [upd_n (by decide), upd_s, me]
            · dsimp only; rw [upd_s]
            · dsimp only; rw [upd_n (by decide), upd_n (by decide), upd_n (by decide), upd_n (by decide)]; exact h2
            · dsimp only; rw [upd_n (by decide), upd_n (by decide), upd_n (by decide), upd_n (by decide)]; exact h21
        · refine ⟨(upd (upd J 13 (nI m)) 15 (nI ((flN S.col q k).1 + 1)), upA (upA B 5 R) 6 F, some (.int (nI (S.col k)))), ?_, ?_⟩
          · refine (show _ = _ from rfl).trans (mp.trans ?_)
            simp (disch := omega) only [R_X12_findLands_p0, R_X12_findLands_p1, SB, mw_o, mw_a, mo_g, mo_p, mo_pz, mw_so, mw_sa, upA_eq, upA_upA, upd_upd, m_isKnot, m_isSheet, mi_1, mi_3, mi_5, mi_6, mi_7, mi_69, mi_99, mi_100, mi_255, m_f1, m_f2, m_f3, m_f4, m_f5, bI_e0, bI_n0, b_ft, bI_01, bI_t, bI_f, i10, i01, if_true, if_false, Bool.true_eq_false, Bool.false_eq_true, or_true, true_or, not_true_eq_false, not_false_eq_true, ls1s, s1, ml, c1, eq_true (show k ≤ low (land S.col k) by omega), upd_s, upd_n, h15, h16, nI_1, c2, eq_true (show m ≤ (flN S.col q k).2.1 by omega)]
          · show FlJ I A (if _ then _ else _ : Nat × Nat × Nat) _ _
            rw [if_pos (by decide), if_neg x]
            refine ⟨?_, ?_, ?_, ?_, ?_, hB2⟩
            · dsimp only; rw [upd_s]
            · dsimp only; rw [upd_n (by decide), upd_n (by decide)]; exact h16
            · dsimp only; rw [upd_n (by decide), upd_n (by decide)]; exact h17
            · dsimp only; rw [upd_n (by decide), upd_n (by decide)]; exact h2
            · dsimp only; rw [upd_n (by decide), upd_n (by decide)]; exact h21
      · have ly : lkB S.col k = false := decide_eq_false y
        rw [ly]
        refine ⟨(upd J 13 (nI m), upA (upA B 5 R) 6 F, some (.int (nI (S.col k)))), ?_, ?_⟩
        · refine (show _ = _ from rfl).trans (mp.trans ?_)
          simp (disch := omega) only [R_X12_findLands_p0, R_X12_findLands_p1, SB, mw_o, mw_a, mo_g, mo_p, mo_pz, mw_so, mw_sa, upA_eq, upA_upA, upd_upd, m_isKnot, m_isSheet, mi_1, mi_3, mi_5, mi_6, mi_7, mi_69, mi_99, mi_100, mi_255, m_f1, m_f2, m_f3, m_f4, m_f5, bI_e0, bI_n0, b_ft, bI_01, bI_t, bI_f, i10, i01, if_true, if_false, Bool.true_eq_false, Bool.false_eq_true, or_true, true_or, not_true_eq_false, not_false_eq_true, ls1s, s1, ml, c1, eq_false (show ¬ k ≤ low (land S.col k) by omega), nI_1]
        · show FlJ I A (if _ then _ else _ : Nat × Nat × Nat) _ _
          rw [if_neg (by decide)]
          refine ⟨?_, ?_, ?_, ?_, ?_, hB2⟩
          · dsimp only; rw [upd_n (by decide)]; exact h15
          · dsimp only; rw [upd_n (by decide)]; exact h16
          · dsimp only; rw [upd_n (by decide)]; exact h17
          · dsimp only; rw [upd_n (by decide)]; exact h2
          · dsimp only; rw [upd_n (by decide)]; exact h21) (upd (upd (upd I 15 0) 16 0) 17 0, A, none) (by
    refine ⟨?_, ?_, ?_, ?_, ?_, fun _ _ => rfl⟩
    · show upd (upd (upd I 15 0) 16 0) 17 0 15 = _
      rw [upd_n (by decide), upd_n (by decide), upd_s]; rfl
    · show upd (upd (upd I 15 0) 16 0) 17 0 16 = _
      rw [upd_n (by decide), upd_s]; rfl
    · show upd (upd (upd I 15 0) 16 0) 17 0 17 = _
      rw [upd_s]; rfl
    · show upd (upd (upd I 15 0) 16 0) 17 0 2 = _
      rw [upd_n (by decide), upd_n (by decide), upd_n (by decide)]
    · show upd (upd (upd I 15 0) 16 0) 17 0 21 = _
      rw [upd_n (by decide), upd_n (by decide), upd_n (by decide)])
  refine ⟨J, B, ?_, a2⟩
  simp only [C_X12_findLands, R_X12_findLands_p0, R_X12_findLands_p1, SB, mw_o, mw_a, mo_g, mo_p, mo_pz, mw_so, mw_sa, upA_eq, upA_upA, upd_upd, m_isKnot, m_isSheet, mi_1, mi_3, mi_5, mi_6, mi_7, mi_69, mi_99, mi_100, mi_255, m_f1, m_f2, m_f3, m_f4, m_f5, bI_e0, bI_n0, b_ft, bI_01, bI_t, bI_f, i10, i01, if_true, if_false, Bool.true_eq_false, Bool.false_eq_true, or_true, true_or, not_true_eq_false, not_false_eq_true, ls1s]
  refine (show _ = _ from rfl).trans (a1.trans ?_)
  rw [H_X12_findLands_17]
  simp only [R_X12_findLands_p0, R_X12_findLands_p1, SB, show ((36 : Int32) ≤ nI 36) = True from by rw [show (36 : Int32) = nI 36 from rfl]; simp, if_true]
theorem FlJ.md {I : Nat → Int32} {A : Nat → Nat → Int32} {s : Nat × Nat × Nat} {J : Nat → Int32} {B : Nat → Nat → Int32} (h : FlJ I A s J B) {X : Cx} (hM : Md I A X) : Md J B X := hM.kp h.2.2.2.1 h.2.2.2.2.1 (fun j hj => h.2.2.2.2.2 j (by omega))
theorem sum_col (col : Nat → Nat) (hc : ∀ k, k < 36 → col k < 8) (P : Nat → Bool) : ∀ n, n ≤ 36 → sumN (fun c => cnt (fun k => decide (col k = c + 1) && P k) n) 7 = cnt (fun k => decide (col k ≠ 0) && P k) n := by
  intro n
  induction n with
  | zero => intro _; rfl
  | succ n ih =>
    intro h
    have c := hc n (by omega)
    have ih := ih (by omega)
    simp only [cnt_s, sumN] at ih ⊢
    rw [← ih]
    cases P n with
    | false => simp only [Bool.and_false, Bool.false_eq_true, if_false]; omega
    | true =>
      simp only [Bool.and_true, decide_eq_true_eq]
      have : col n = 0 ∨ col n = 1 ∨ col n = 2 ∨ col n = 3 ∨ col n = 4 ∨ col n = 5 ∨ col n = 6 ∨ col n = 7 := by omega
      rcases this with e | e | e | e | e | e | e | e <;> simp [e] <;> omega
theorem iw_m7 (v : Int32) (w : AH) (lv : Nat) : Call M_X11_isWithin lv [.int v, .int (-1), .int 7] w = some (some (.int (bI (decide (-1 ≤ v.toInt ∧ v.toInt ≤ 7)))), w) := s_isWithin v (-1) 7 w lv
theorem mi_m7 (v : Int32) (w : AH) (lv : Nat) : Call M_X12_in lv [.long v.toInt64, .long (-1), .long 7] w = some (some (.int (bI (decide (-1 ≤ v.toInt ∧ v.toInt ≤ 7)))), w) := by
  rw [s_m_in, i64_of]; rfl
theorem j_lands (a : Int32) : JO M_X11_lands M_X12_lands [.int a] := by
  apply JO.mk
  intro W X I A hC hM
  have hD := hM.now
  have g0 := hC.g0
  have k34 := hC.k34
  have iw := iw_m7 a
  have mi := mi_m7 a
  by_cases q : -1 ≤ a.toInt ∧ a.toInt ≤ 7
  · rw [decide_eq_true q] at iw mi
    by_cases z : a.toInt < 0
    · have l0 : (a < 0) = True := by rw [lt_t]; exact eq_true z
      have l1 : ((0 : Int32) ≤ a) = False := by rw [le_t]; apply eq_false; show ¬ (0 : Int) ≤ a.toInt; omega
      have sc := sum_col X.1.col hD.rc (lkB X.1.col) 36 (Nat.le_refl _)
      refine JS.ro hC hM (r := nI (cnt (fun k => decide (X.1.col k ≠ 0) && lkB X.1.col k) 36)) ?_ (fun w => ?_)
      · have hl := for_up0 (fun k (s : Nat) => Ex M_X11_lands 60 37 [some (.ref 32), some (.int a), some (.int (nI s)), some (.int (nI (k + 1)))] [] W) (fun c s => s + cnt (fun k => decide (X.1.col k = c + 1) && lkB X.1.col k) 36) 7 (by
          intro k s hk
          have e1 : ((8 : Int32) ≤ nI (k + 1)) = False := by rw [show (8 : Int32) = nI 8 from rfl, le_nI (by decide) (by omega)]; apply eq_false; omega
          have sl := s_countLands hC.car (x := k + 1) (by omega) 60
          rw [H_X11_lands_37]
          simp only [R_X11_lands, SB, hC.f0, hC.f1, hC.f2, hC.f3, hC.f4, hC.f5, hC.f6, hC.f7, hC.f8, hC.f9, clK_gf hC.f0, s_isKnot, s_isColour, s_isKindAndM, s_isUse, iw_1, iw_3, iw_6, iw_7, iw_99, iw_100, iw_255, s_rf1 hC, s_rf2 hC, s_rf3 hC, s_rf4 hC, s_rf5 hC, bI_e0, bI_n0, b_ft, bI_01, bI_t, bI_f, i10, i01, if_true, if_false, Bool.true_eq_false, Bool.false_eq_true, or_true, true_or, not_true_eq_false, not_false_eq_true, ls1s, e1, g0, k34, sl, nI_add, nI_1]) 0
        simp only [C_X11_lands, R_X11_lands, SB, hC.f0, hC.f1, hC.f2, hC.f3, hC.f4, hC.f5, hC.f6, hC.f7, hC.f8, hC.f9, clK_gf hC.f0, s_isKnot, s_isColour, s_isKindAndM, s_isUse, iw_1, iw_3, iw_6, iw_7, iw_99, iw_100, iw_255, s_rf1 hC, s_rf2 hC, s_rf3 hC, s_rf4 hC, s_rf5 hC, bI_e0, bI_n0, b_ft, bI_01, bI_t, bI_f, i10, i01, if_true, if_false, Bool.true_eq_false, Bool.false_eq_true, or_true, true_or, not_true_eq_false, not_false_eq_true, ls1s, iw, l0]
        refine (show _ = _ from rfl).trans (hl.trans ?_)
        rw [H_X11_lands_37, sumN_fold, sc]
        simp only [R_X11_lands, SB, show ((8 : Int32) ≤ nI (7 + 1)) = True from by decide, if_true]
      · obtain ⟨J, B, m1, m2⟩ := m_findLands (I := I) hD (a := a) (q := fun k => decide (X.1.col k ≠ 0)) (Or.inl ⟨l1, fun _ => rfl⟩) w 60
        refine ⟨J, B, ?_, m2.md hM⟩
        have h15 := m2.1
        rw [(flN_cnt X.1.col (fun k => decide (X.1.col k ≠ 0)) 36 (Nat.le_refl _)).1] at h15
        simp only [C_X12_lands, R_X12_lands, SB, mw_o, mw_a, mo_g, mo_p, mo_pz, mw_so, mw_sa, upA_eq, upA_upA, upd_upd, m_isKnot, m_isSheet, mi_1, mi_3, mi_5, mi_6, mi_7, mi_69, mi_99, mi_100, mi_255, m_f1, m_f2, m_f3, m_f4, m_f5, bI_e0, bI_n0, b_ft, bI_01, bI_t, bI_f, i10, i01, if_true, if_false, Bool.true_eq_false, Bool.false_eq_true, or_true, true_or, not_true_eq_false, not_false_eq_true, ls1s, mi, m1, h15]
    · obtain ⟨c, c1, rfl⟩ : ∃ c, c < 8 ∧ a = nI c := ⟨a.toInt.toNat, by omega, nI_nat (by omega)⟩
      have l0 : (nI c < (0 : Int32)) = False := by rw [lt_t]; exact eq_false z
      refine JS.ro hC hM (r := nI (cnt (fun k => decide (X.1.col k = c) && lkB X.1.col k) 36)) ?_ (fun w => ?_)
      · simp only [C_X11_lands, R_X11_lands, SB, hC.f0, hC.f1, hC.f2, hC.f3, hC.f4, hC.f5, hC.f6, hC.f7, hC.f8, hC.f9, clK_gf hC.f0, s_isKnot, s_isColour, s_isKindAndM, s_isUse, iw_1, iw_3, iw_6, iw_7, iw_99, iw_100, iw_255, s_rf1 hC, s_rf2 hC, s_rf3 hC, s_rf4 hC, s_rf5 hC, bI_e0, bI_n0, b_ft, bI_01, bI_t, bI_f, i10, i01, if_true, if_false, Bool.true_eq_false, Bool.false_eq_true, or_true, true_or, not_true_eq_false, not_false_eq_true, ls1s, iw, l0, g0, k34, s_countLands hC.car c1]
      · obtain ⟨J, B, m1, m2⟩ := m_findLands (I := I) hD (a := nI c) (q := fun k => decide (X.1.col k = c)) (Or.inr ⟨c, c1, rfl, fun _ => rfl⟩) w 60
        refine ⟨J, B, ?_, m2.md hM⟩
        have h15 := m2.1
        rw [(flN_cnt X.1.col (fun k => decide (X.1.col k = c)) 36 (Nat.le_refl _)).1] at h15
        simp only [C_X12_lands, R_X12_lands, SB, mw_o, mw_a, mo_g, mo_p, mo_pz, mw_so, mw_sa, upA_eq, upA_upA, upd_upd, m_isKnot, m_isSheet, mi_1, mi_3, mi_5, mi_6, mi_7, mi_69, mi_99, mi_100, mi_255, m_f1, m_f2, m_f3, m_f4, m_f5, bI_e0, bI_n0, b_ft, bI_01, bI_t, bI_f, i10, i01, if_true, if_false, Bool.true_eq_false, Bool.false_eq_true, or_true, true_or, not_true_eq_false, not_false_eq_true, ls1s, mi, m1, h15]
  · rw [decide_eq_false q] at iw mi
    refine JS.er hC hM (k := 1) (by decide) ?_ (fun w => ?_)
    · simp only [C_X11_lands, R_X11_lands, SB, hC.f0, hC.f1, hC.f2, hC.f3, hC.f4, hC.f5, hC.f6, hC.f7, hC.f8, hC.f9, clK_gf hC.f0, s_isKnot, s_isColour, s_isKindAndM, s_isUse, iw_1, iw_3, iw_6, iw_7, iw_99, iw_100, iw_255, s_rf1 hC, s_rf2 hC, s_rf3 hC, s_rf4 hC, s_rf5 hC, bI_e0, bI_n0, b_ft, bI_01, bI_t, bI_f, i10, i01, if_true, if_false, Bool.true_eq_false, Bool.false_eq_true, or_true, true_or, not_true_eq_false, not_false_eq_true, ls1s, iw]
    · simp only [C_X12_lands, R_X12_lands, SB, mw_o, mw_a, mo_g, mo_p, mo_pz, mw_so, mw_sa, upA_eq, upA_upA, upd_upd, m_isKnot, m_isSheet, mi_1, mi_3, mi_5, mi_6, mi_7, mi_69, mi_99, mi_100, mi_255, m_f1, m_f2, m_f3, m_f4, m_f5, bI_e0, bI_n0, b_ft, bI_01, bI_t, bI_f, i10, i01, if_true, if_false, Bool.true_eq_false, Bool.false_eq_true, or_true, true_or, not_true_eq_false, not_false_eq_true, ls1s, mi]
theorem j_greatest (a : Int32) : JO M_X11_greatest M_X12_greatest [.int a] := by
  apply JO.mk
  intro W X I A hC hM
  have hD := hM.now
  have g0 := hC.g0
  have k34 := hC.k34
  by_cases q : inR a 2 = true
  · have gl := gbN_lt X.1.col 36 (Nat.le_refl _)
    have gr := s_greatestLand hC.car 60
    obtain ⟨r1, r2, r3⟩ := fl_gb X.1.col 36 (Nat.le_refl _)
    have fl := (flN_cnt X.1.col (fun k => decide (X.1.col k ≠ 0)) 36 (Nat.le_refl _)).1
    have cl := cnt_le (fun k => decide (X.1.col k ≠ 0) && lkB X.1.col k) 36
    have lc := lcmp0 (show gbN X.1.col 36 < 2 ^ 64 by omega) (show 0 < 2 ^ 64 by decide)
    have mf : ∀ w, ∃ J B, Call M_X12_findLands 60 [.ref 123, .int (-1)] (mw w I A) = some (none, mw w J B) ∧ FlJ I A (flN X.1.col (fun k => decide (X.1.col k ≠ 0)) 36) J B := fun w => m_findLands (I := I) hD (a := -1) (q := fun k => decide (X.1.col k ≠ 0)) (Or.inl ⟨by decide, fun _ => rfl⟩) w 60
    generalize gbN X.1.col 36 = gb at *
    generalize flN X.1.col (fun k => decide (X.1.col k ≠ 0)) 36 = f at *
    by_cases z : gb = 0
    · refine ⟨loI 2, erX X 2, ⟨_, ?_, hC.er 2, Fr.hs ⟨by omega, by omega⟩ _⟩, fun w => ?_⟩
      · simp only [C_X11_greatest, R_X11_greatest, SB, hC.f0, hC.f1, hC.f2, hC.f3, hC.f4, hC.f5, hC.f6, hC.f7, hC.f8, hC.f9, clK_gf hC.f0, s_isKnot, s_isColour, s_isKindAndM, s_isUse, iw_1, iw_3, iw_6, iw_7, iw_99, iw_100, iw_255, s_rf1 hC, s_rf2 hC, s_rf3 hC, s_rf4 hC, s_rf5 hC, bI_e0, bI_n0, b_ft, bI_01, bI_t, bI_f, i10, i01, if_true, if_false, Bool.true_eq_false, Bool.false_eq_true, or_true, true_or, not_true_eq_false, not_false_eq_true, ls1s, q, g0, k34, gr, ls2s, show (0 : Int64) = lN 0 from rfl, lc, eq_true z]
      · obtain ⟨J, B, m1, m2⟩ := mf w
        refine ⟨J, erA B 2, ?_, (m2.md hM).er (by decide)⟩
        have h15 := m2.1
        rw [r3.mp z] at h15
        simp only [C_X12_greatest, R_X12_greatest, SB, mw_o, mw_a, mo_g, mo_p, mo_pz, mw_so, mw_sa, upA_eq, upA_upA, upd_upd, m_isKnot, m_isSheet, mi_1, mi_3, mi_5, mi_6, mi_7, mi_69, mi_99, mi_100, mi_255, m_f1, m_f2, m_f3, m_f4, m_f5, bI_e0, bI_n0, b_ft, bI_01, bI_t, bI_f, i10, i01, if_true, if_false, Bool.true_eq_false, Bool.false_eq_true, or_true, true_or, not_true_eq_false, not_false_eq_true, ls1s, q, m1, h15, show (nI 0 = (0 : Int32)) = True from by decide]
    · have f0 : (nI f.1 = (0 : Int32)) = False := by rw [show (0 : Int32) = nI 0 from rfl, eq_nI (by omega) (by decide)]; exact eq_false (fun x => z (r3.mpr x))
      by_cases y : a = 0
      · refine JS.ro hC hM (r := nI (pc gb)) ?_ (fun w => ?_)
        · simp only [C_X11_greatest, R_X11_greatest, SB, hC.f0, hC.f1, hC.f2, hC.f3, hC.f4, hC.f5, hC.f6, hC.f7, hC.f8, hC.f9, clK_gf hC.f0, s_isKnot, s_isColour, s_isKindAndM, s_isUse, iw_1, iw_3, iw_6, iw_7, iw_99, iw_100, iw_255, s_rf1 hC, s_rf2 hC, s_rf3 hC, s_rf4 hC, s_rf5 hC, bI_e0, bI_n0, b_ft, bI_01, bI_t, bI_f, i10, i01, if_true, if_false, Bool.true_eq_false, Bool.false_eq_true, or_true, true_or, not_true_eq_false, not_false_eq_true, ls1s, q, g0, k34, gr, ls2s, show (0 : Int64) = lN 0 from rfl, lc, eq_false z, eq_true y, s_bitCount _ (show gb < 2 ^ 40 by omega)]
        · obtain ⟨J, B, m1, m2⟩ := mf w
          refine ⟨J, B, ?_, m2.md hM⟩
          have h15 := m2.1
          have h16 := m2.2.1
          rw [r1] at h16
          simp only [C_X12_greatest, R_X12_greatest, SB, mw_o, mw_a, mo_g, mo_p, mo_pz, mw_so, mw_sa, upA_eq, upA_upA, upd_upd, m_isKnot, m_isSheet, mi_1, mi_3, mi_5, mi_6, mi_7, mi_69, mi_99, mi_100, mi_255, m_f1, m_f2, m_f3, m_f4, m_f5, bI_e0, bI_n0, b_ft, bI_01, bI_t, bI_f, i10, i01, if_true, if_false, Bool.true_eq_false, Bool.false_eq_true, or_true, true_or, not_true_eq_false, not_false_eq_true, ls1s, q, m1, h15, f0, h16, eq_true y]
      · refine JS.ro hC hM (r := nI (low gb)) ?_ (fun w => ?_)
        · have sl := s_least gl W 60
          rw [if_neg z] at sl
          simp only [C_X11_greatest, R_X11_greatest, SB, hC.f0, hC.f1, hC.f2, hC.f3, hC.f4, hC.f5, hC.f6, hC.f7, hC.f8, hC.f9, clK_gf hC.f0, s_isKnot, s_isColour, s_isKindAndM, s_isUse, iw_1, iw_3, iw_6, iw_7, iw_99, iw_100, iw_255, s_rf1 hC, s_rf2 hC, s_rf3 hC, s_rf4 hC, s_rf5 hC, bI_e0, bI_n0, b_ft, bI_01, bI_t, bI_f, i10, i01, if_true, if_false, Bool.true_eq_false, Bool.false_eq_true, or_true, true_or, not_true_eq_false, not_false_eq_true, ls1s, q, g0, k34, gr, ls2s, show (0 : Int64) = lN 0 from rfl, lc, eq_false z, eq_false y, sl]
        · obtain ⟨J, B, m1, m2⟩ := mf w
          refine ⟨J, B, ?_, m2.md hM⟩
          have h15 := m2.1
          have h17 := m2.2.2.1
          rw [r2 z] at h17
          simp only [C_X12_greatest, R_X12_greatest, SB, mw_o, mw_a, mo_g, mo_p, mo_pz, mw_so, mw_sa, upA_eq, upA_upA, upd_upd, m_isKnot, m_isSheet, mi_1, mi_3, mi_5, mi_6, mi_7, mi_69, mi_99, mi_100, mi_255, m_f1, m_f2, m_f3, m_f4, m_f5, bI_e0, bI_n0, b_ft, bI_01, bI_t, bI_f, i10, i01, if_true, if_false, Bool.true_eq_false, Bool.false_eq_true, or_true, true_or, not_true_eq_false, not_false_eq_true, ls1s, q, m1, h15, f0, h17, eq_false y]
  · refine JS.er hC hM (k := 1) (by decide) ?_ (fun w => ?_)
    · simp only [C_X11_greatest, R_X11_greatest, SB, hC.f0, hC.f1, hC.f2, hC.f3, hC.f4, hC.f5, hC.f6, hC.f7, hC.f8, hC.f9, clK_gf hC.f0, s_isKnot, s_isColour, s_isKindAndM, s_isUse, iw_1, iw_3, iw_6, iw_7, iw_99, iw_100, iw_255, s_rf1 hC, s_rf2 hC, s_rf3 hC, s_rf4 hC, s_rf5 hC, bI_e0, bI_n0, b_ft, bI_01, bI_t, bI_f, i10, i01, if_true, if_false, Bool.true_eq_false, Bool.false_eq_true, or_true, true_or, not_true_eq_false, not_false_eq_true, ls1s, inR_f q]
    · simp only [C_X12_greatest, R_X12_greatest, SB, mw_o, mw_a, mo_g, mo_p, mo_pz, mw_so, mw_sa, upA_eq, upA_upA, upd_upd, m_isKnot, m_isSheet, mi_1, mi_3, mi_5, mi_6, mi_7, mi_69, mi_99, mi_100, mi_255, m_f1, m_f2, m_f3, m_f4, m_f5, bI_e0, bI_n0, b_ft, bI_01, bI_t, bI_f, i10, i01, if_true, if_false, Bool.true_eq_false, Bool.false_eq_true, or_true, true_or, not_true_eq_false, not_false_eq_true, ls1s, inR_f q]
