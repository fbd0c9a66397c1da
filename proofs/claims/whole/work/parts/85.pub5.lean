/-! ===== pairs: days ===== -/
def dnN (n : Nat) (S : Co) : Co := foldN (fun _ T => dyN T) n S
theorem fd_nw : ∀ n (S : Co), (foldN dyF n S).nw = S.nw ∧ (foldN dyF n S).day = S.day := by
  intro n
  induction n with
  | zero => intro S; exact ⟨rfl, rfl⟩
  | succ n ih => intro S; rw [foldN_s]; exact ih S
theorem dyN_day (S : Co) : (dyN S).day = S.day + 1 ∧ (dyN S).nw = S.nw := by
  obtain ⟨a, b⟩ := fd_nw S.nw S
  exact ⟨congrArg (· + 1) b, a⟩
theorem dnN_day : ∀ n (S : Co), (dnN n S).day = S.day + n ∧ (dnN n S).nw = S.nw := by
  intro n
  induction n with
  | zero => intro S; exact ⟨rfl, rfl⟩
  | succ n ih =>
    intro S
    obtain ⟨a, b⟩ := ih S
    have e : dnN (n + 1) S = dyN (dnN n S) := rfl
    rw [e, (dyN_day _).1, (dyN_day _).2, a, b]
    exact ⟨rfl, rfl⟩
theorem iw1c (v : Int32) (w : AH) (lv : Nat) : Call M_X11_isWithin lv [.int v, .int 1, .int 100] w = some (some (.int (bI (decide (1 ≤ v.toInt ∧ v.toInt ≤ 100)))), w) := s_isWithin v 1 100 w lv
theorem mi1c (x : Int32) (w : AH) (lv : Nat) : Call M_X12_in lv [.long x.toInt64, .long 1, .long 100] w = some (some (.int (bI (decide (1 ≤ x.toInt ∧ x.toInt ≤ 100)))), w) := by rw [s_m_in, i64_of]; rfl
theorem iw140 (v : Int32) (w : AH) (lv : Nat) : Call M_X11_isWithin lv [.int v, .int 1, .int 40] w = some (some (.int (bI (decide (1 ≤ v.toInt ∧ v.toInt ≤ 40)))), w) := s_isWithin v 1 40 w lv
theorem mi140 (x : Int32) (w : AH) (lv : Nat) : Call M_X12_in lv [.long x.toInt64, .long 1, .long 40] w = some (some (.int (bI (decide (1 ≤ x.toInt ∧ x.toInt ≤ 40)))), w) := by rw [s_m_in, i64_of]; rfl
theorem ClAt.holes {W : AH} {X : Cx} (hC : ClAt W X) (lv : Nat) : Call M_X0_countHoles lv [.ref 34] W = some (some (.int (nI (hoN X.1))), W) := s_countHoles hC.now.car lv
theorem ClAt.day {W : AH} {X : Cx} (hC : ClAt W X) (hd : X.1.day + 1 < 100000) (lv : Nat) : ∃ V, Call M_X1_passDay lv [.ref 33] W = some (none, V) ∧ ClAt V (dyN X.1, X.2) ∧ Fr (CoP 33) W V := by
  obtain ⟨v, a, b, c⟩ := s_passDay hC.sta (by decide) hC.now hd lv
  exact ⟨v, a, hC.setNow c b, c⟩
theorem sub9999 {n : Nat} (hn : n ≤ 9999) : (9999 : Int32) - nI n = nI (9999 - n) := pk_sub (a := 9999) (b := n) hn
theorem m_daysLoop {S : Co} {I : Nat → Int32} {A : Nat → Nat → Int32} (h : DR (A 0) S) (w : AH) {R : Type} (E : Nat → AH → R) (n : Nat) (hd : S.day + n < 100000) (step : ∀ k B v, k < n → Call M_X12_dayGoes 60 [.ref 123] (mw w I B) = some (none, v) → E k (mw w I B) = E (k + 1) v) : ∃ D, E 0 (mw w I A) = E n (mw w I (upA A 0 D)) ∧ DR D (dnN n S) ∧ Lo (A 0) D := by
  obtain ⟨D, h1, h2, h3⟩ := loopE (fun k (D : Nat → Int32) => E k (mw w I (upA A 0 D))) (fun k D => DR D (dnN k S) ∧ Lo (A 0) D) n (by
    intro k D hk hI
    obtain ⟨i1, i2⟩ := hI
    obtain ⟨D2, a, b, c⟩ := m_dayGoes (I := I) (A := upA A 0 D) (S := dnN k S) i1 (by rw [(dnN_day k S).1]; omega) w 60
    rw [upA_upA] at a
    refine ⟨D2, step k _ _ hk a, b, i2.trans c⟩) (A 0) ⟨h, Lo.refl _⟩
  rw [upA_same] at h1
  exact ⟨D, h1, h2, h3⟩
theorem j_days (a : Int32) : JO M_X11_days M_X12_days [.int a] := by
  apply JO.mk
  intro W X I A hC hM
  have hD := hM.now
  have dn := hM.dn
  by_cases q : 1 ≤ a.toInt ∧ a.toInt ≤ 100
  · obtain ⟨n, k1, k2, rfl⟩ : ∃ k : Nat, 1 ≤ k ∧ k < 101 ∧ a = nI k := ⟨a.toInt.toNat, by omega, by omega, nI_nat (by omega)⟩
    have e9 := sub9999 (show n ≤ 9999 by omega)
    by_cases q2 : X.1.day + n ≤ 9999
    · obtain ⟨V, l1, l2, l3⟩ := loopE (fun k (u : AH) => Ex M_X11_days 60 41 [some (.ref 32), some (.int (nI n)), some (.int (nI k))] [] u) (fun k u => ClAt u (dnN k X.1, X.2) ∧ Fr CxP W u) n (by
        intro k u hk hI
        obtain ⟨hC, hF⟩ := hI
        obtain ⟨v, p1, p2, p3⟩ := hC.day (by show (dnN k X.1).day + 1 < 100000; rw [(dnN_day k X.1).1]; omega) 60
        refine ⟨v, ?_, p2, hF.trans (p3.wide CxP_co)⟩
        have e1 : (nI n ≤ nI k) = False := by rw [le_nI (by omega) (by omega)]; apply eq_false; omega
        rw [H_X11_days_41]
        simp only [R_X11_days, SB, e1, if_false, if_true, hC.f0, clK_gf hC.now.k0, p1, ls1s, nI_1]) W ⟨hC, Fr.refl _ _⟩
      have e2 : (nI X.1.day ≤ nI (9999 - n)) = True := by rw [le_nI (by omega) (by omega)]; apply eq_true; omega
      have e3 : (nI (X.1.day + n) ≤ (9999 : Int32)) = True := by rw [show (9999 : Int32) = nI 9999 from rfl, le_nI (by omega) (by decide)]; apply eq_true; omega
      refine ⟨nI (hoN (dnN n X.1)), (dnN n X.1, X.2), ⟨V, ?_, l2, l3⟩, fun w => ?_⟩
      · simp only [C_X11_days, R_X11_days, SB, hC.f0, hC.f1, hC.f2, hC.f3, hC.f4, hC.f5, hC.f6, hC.f7, hC.f8, hC.f9, clK_gf hC.f0, s_isKnot, s_isColour, s_isKindAndM, s_isUse, iw_1, iw_3, iw_6, iw_7, iw_99, iw_100, iw_255, s_rf1 hC, s_rf2 hC, s_rf3 hC, s_rf4 hC, s_rf5 hC, bI_e0, bI_n0, b_ft, bI_01, bI_t, bI_f, i10, i01, if_true, if_false, Bool.true_eq_false, Bool.false_eq_true, or_true, true_or, not_true_eq_false, not_false_eq_true, ls1s, iw1c, q, and_self, decide_true, hC.now.k7, e9, e2]
        refine (show _ = _ from rfl).trans (l1.trans ?_)
        rw [H_X11_days_41]
        have g1 : gf (hg V 33) 1 0 = some (.ref 34) := l2.now.k0
        have k1 : clK (hg V 34) = 0 := clK_gf l2.now.car.p0
        simp only [R_X11_days, SB, Int32.le_refl, if_true, l2.f0, g1, k1, l2.holes]
      · obtain ⟨D, m1, m2, m3⟩ := m_daysLoop (I := I) hD w (fun k u => Ex M_X12_days 60 40 [some (.ref 123), some (.int (nI n)), some (.int (nI k))] [] u) n (by omega) (by
          intro k B v hk g
          have e1 : (nI n ≤ nI k) = False := by rw [le_nI (by omega) (by omega)]; apply eq_false; omega
          rw [H_X12_days_40]
          simp only [R_X12_days, SB, mw_o, mo_g, e1, if_false, if_true, g, ls1s, nI_1])
        have ho := m_holes (I := I) (A := upA A 0 D) (S := dnN n X.1) m2 w 60
        refine ⟨I, upA A 0 D, ?_, hM.set0 m2 (Or.inr (by rw [(dnN_day n X.1).1]; exact q2))⟩
        simp (disch := omega) only [C_X12_days, R_X12_days, SB, mw_o, mw_a, mo_g, mo_p, mo_pz, mw_so, mw_sa, upA_eq, upA_upA, upd_upd, m_isKnot, m_isSheet, mi_1, mi_3, mi_5, mi_6, mi_7, mi_69, mi_99, mi_100, mi_255, m_f1, m_f2, m_f3, m_f4, m_f5, bI_e0, bI_n0, b_ft, bI_01, bI_t, bI_f, i10, i01, if_true, if_false, Bool.true_eq_false, Bool.false_eq_true, or_true, true_or, not_true_eq_false, not_false_eq_true, ls1s, mi1c, q, and_self, decide_true, aI_l, hD.day, nI_add, e3]
        refine (show _ = _ from rfl).trans (m1.trans ?_)
        rw [H_X12_days_40]
        simp only [R_X12_days, SB, mw_o, mo_g, Int32.le_refl, if_true, ho]
    · have e2 : (nI X.1.day ≤ nI (9999 - n)) = False := by rw [le_nI (by omega) (by omega)]; apply eq_false; omega
      have e3 : (nI (X.1.day + n) ≤ (9999 : Int32)) = False := by rw [show (9999 : Int32) = nI 9999 from rfl, le_nI (by omega) (by decide)]; apply eq_false; omega
      refine JS.er hC hM (k := 3) (by decide) ?_ (fun w => ?_)
      · simp only [C_X11_days, R_X11_days, SB, hC.f0, hC.f1, hC.f2, hC.f3, hC.f4, hC.f5, hC.f6, hC.f7, hC.f8, hC.f9, clK_gf hC.f0, s_isKnot, s_isColour, s_isKindAndM, s_isUse, iw_1, iw_3, iw_6, iw_7, iw_99, iw_100, iw_255, s_rf1 hC, s_rf2 hC, s_rf3 hC, s_rf4 hC, s_rf5 hC, bI_e0, bI_n0, b_ft, bI_01, bI_t, bI_f, i10, i01, if_true, if_false, Bool.true_eq_false, Bool.false_eq_true, or_true, true_or, not_true_eq_false, not_false_eq_true, ls1s, iw1c, q, and_self, decide_true, hC.now.k7, e9, e2]
      · simp (disch := omega) only [C_X12_days, R_X12_days, SB, mw_o, mw_a, mo_g, mo_p, mo_pz, mw_so, mw_sa, upA_eq, upA_upA, upd_upd, m_isKnot, m_isSheet, mi_1, mi_3, mi_5, mi_6, mi_7, mi_69, mi_99, mi_100, mi_255, m_f1, m_f2, m_f3, m_f4, m_f5, bI_e0, bI_n0, b_ft, bI_01, bI_t, bI_f, i10, i01, if_true, if_false, Bool.true_eq_false, Bool.false_eq_true, or_true, true_or, not_true_eq_false, not_false_eq_true, ls1s, mi1c, q, and_self, decide_true, aI_l, hD.day, nI_add, e3]
  · refine JS.er hC hM (k := 1) (by decide) ?_ (fun w => ?_)
    · simp only [C_X11_days, R_X11_days, SB, hC.f0, hC.f1, hC.f2, hC.f3, hC.f4, hC.f5, hC.f6, hC.f7, hC.f8, hC.f9, clK_gf hC.f0, s_isKnot, s_isColour, s_isKindAndM, s_isUse, iw_1, iw_3, iw_6, iw_7, iw_99, iw_100, iw_255, s_rf1 hC, s_rf2 hC, s_rf3 hC, s_rf4 hC, s_rf5 hC, bI_e0, bI_n0, b_ft, bI_01, bI_t, bI_f, i10, i01, if_true, if_false, Bool.true_eq_false, Bool.false_eq_true, or_true, true_or, not_true_eq_false, not_false_eq_true, ls1s, iw1c, q, decide_false]
    · simp only [C_X12_days, R_X12_days, SB, mw_o, mw_a, mo_g, mo_p, mo_pz, mw_so, mw_sa, upA_eq, upA_upA, upd_upd, m_isKnot, m_isSheet, mi_1, mi_3, mi_5, mi_6, mi_7, mi_69, mi_99, mi_100, mi_255, m_f1, m_f2, m_f3, m_f4, m_f5, bI_e0, bI_n0, b_ft, bI_01, bI_t, bI_f, i10, i01, if_true, if_false, Bool.true_eq_false, Bool.false_eq_true, or_true, true_or, not_true_eq_false, not_false_eq_true, ls1s, mi1c, q, decide_false]
/-! days by draws -/
def dlnN (n : Nat) (S : Co) : Co := foldN (fun _ T => dlN T) n S
theorem day_mk (a b : Nat → Nat) (c : Nat → Nat → Nat) (n d : Nat) (z : Int32) (r : (Nat × (Nat → Int32)) × (Nat × (Nat → Int32)) × Tx × Tx) : Co.day (a, b, c, (n, d, z), r) = d := rfl
theorem dlS_day (S : Co) : (dlS S).day = S.day := by
  unfold dlS
  exact day_mk _ _ _ _ _ _ _
theorem dlN_day (S : Co) : (dlN S).day = S.day + 1 := by
  unfold dlN
  rw [(dyN_day _).1, dlS_day]
theorem dlnN_day : ∀ n (S : Co), (dlnN n S).day = S.day + n := by
  intro n
  induction n with
  | zero => intro S; rfl
  | succ n ih =>
    intro S
    have e : dlnN (n + 1) S = dlN (dlnN n S) := rfl
    rw [e, dlN_day, ih S]
    rfl
theorem DR.setZ {D : Nat → Int32} {S : Co} (h : DR D S) (z : Int32) : DR (upd D 2 z) (S.1, S.2.1, S.2.2.1, (S.nw, S.day, z), S.2.2.2.2) :=
  h.mkL (Lo.up (by decide) _) (upd_n (by decide)) (upd_n (by decide)) ((upd_n (by decide)).trans h.nw) ((upd_n (by decide)).trans h.day) (upd_s _ _ _) (fun j hj => (upd_n (by omega)).trans (h.col j hj)) (fun j hj => (upd_n (by omega)).trans (h.wear j hj)) (fun i hi x hx => (upd_n (by omega)).trans (h.wk i hi x hx)) h.rc h.rw h.rk h.rn h.rd
theorem m_drawn {S : Co} {I : Nat → Int32} {A : Nat → Nat → Int32} (h : DR (A 0) S) (z : Int32) (hz : z = zN S.z) (w : AH) (lv : Nat) : Call M_X12_drawn lv [.ref 123] (mw w I A) = some (some (.int (nI (drN z))), mw w I (upA A 0 (upd (A 0) 2 z))) := by
  have e1 : S.z * 1103515245 + 12345 = z := by rw [hz]; rfl
  simp (disch := omega) only [C_X12_drawn, R_X12_drawn, SB, mw_o, mw_a, mo_g, mo_p, mo_pz, mw_so, mw_sa, upA_eq, upA_upA, upd_upd, aI_l, uI_l, if_true, h.z, e1, upd_s, ushr8]
theorem m_looseDay {S : Co} {I : Nat → Int32} {A : Nat → Nat → Int32} (h : DR (A 0) S) (hd : S.day + 1 < 100000) (w : AH) (n : Int32) (k : Nat) (o : Option Value) (e1 : (n ≤ nI k) = False) : ∃ D o2, Ex M_X12_loose 60 40 [some (.ref 123), some (.int n), some (.int (nI k)), o] [] (mw w I A) = Ex M_X12_loose 60 40 [some (.ref 123), some (.int n), some (.int (nI (k + 1))), o2] [] (mw w I (upA A 0 D)) ∧ DR D (dlN S) ∧ Lo (A 0) D := by
  obtain ⟨z1, hz1⟩ : ∃ z, z = zN S.z := ⟨_, rfl⟩
  obtain ⟨z2, hz2⟩ : ∃ z, z = zN z1 := ⟨_, rfl⟩
  have a1 := m_drawn (I := I) h z1 hz1 w 60
  have d1 := h.setZ z1
  have a2 := m_drawn (I := I) (A := upA A 0 (upd (A 0) 2 z1)) d1 z2 hz2 w 60
  rw [upA_upA] at a2
  have d2 := d1.setZ z2
  have d3 := d2.setC (show drN z1 % 36 < 36 from Nat.mod_lt _ (by decide)) (show drN z2 % 8 < 8 from Nat.mod_lt _ (by decide))
  have l1 := drN_lt z1
  have l2 := drN_lt z2
  have r36 : nI (drN z1) - nI (drN z1) / 36 * 36 = nI (drN z1 % 36) := pk_rem (show drN z1 < 2 ^ 31 by omega) (show 0 < 36 by decide) (show 36 < 2 ^ 31 by decide)
  have r8 : nI (drN z2) - nI (drN z2) / 8 * 8 = nI (drN z2 % 8) := pk_rem (show drN z2 < 2 ^ 31 by omega) (show 0 < 8 by decide) (show 8 < 2 ^ 31 by decide)
  have m36 : drN z1 % 36 < 36 := Nat.mod_lt _ (by decide)
  generalize hD3 : upd (upd (upd (A 0) 2 z1) 2 z2) (5 + drN z1 % 36) (nI (drN z2 % 8)) = D3 at d3
  have d3 : DR D3 (dlS S) := by unfold dlS; rw [← hz1, ← hz2]; exact d3
  obtain ⟨D4, b1, b2, b3⟩ := m_dayGoes (I := I) (A := upA A 0 D3) (S := dlS S) d3 (by rw [dlS_day]; exact hd) w 60
  rw [upA_upA] at b1
  refine ⟨D4, some (.int (nI (drN z1 % 36))), ?_, b2, ?_⟩
  · rw [H_X12_loose_40]
    generalize drN z1 % 36 = p at *
    generalize drN z2 % 8 = y at *
    have a2 : Call M_X12_drawn 60 [.ref 123] (mw w I (upA A 0 (upd (A 0) 2 z1))) = some (some (.int (nI (drN z2))), mw w I (upA A 0 (upd (upd (A 0) 2 z1) 2 z2))) := a2
    have e3 : upA (upA A 0 (upd (upd (A 0) 2 z1) 2 z2)) 0 (upd (upd (upd (A 0) 2 z1) 2 z2) (5 + p) (nI y)) = upA A 0 D3 := by rw [upA_upA, hD3]
    simp (disch := omega) only [R_X12_loose, SB, mw_o, mw_a, mo_g, mw_sa, e1, if_false, if_true, a1, r36, show ((36 : Int32) = 0) = False from by decide, show ((8 : Int32) = 0) = False from by decide, ls1s, lit_add, a2, r8, uI_0, upA_eq, hD3, e3, upA_upA, b1, nI_1]
  · intro j hj
    rw [b3 j hj]
    show D3 j = A 0 j
    rw [← hD3, upd_n (by omega), upd_n (by omega), upd_n (by omega)]
theorem j_loose (a : Int32) : JO M_X11_loose M_X12_loose [.int a] := by
  apply JO.mk
  intro W X I A hC hM
  have hD := hM.now
  have dn := hM.dn
  by_cases q : 1 ≤ a.toInt ∧ a.toInt ≤ 40
  · obtain ⟨n, k1, k2, rfl⟩ : ∃ k : Nat, 1 ≤ k ∧ k < 41 ∧ a = nI k := ⟨a.toInt.toNat, by omega, by omega, nI_nat (by omega)⟩
    have e9 := sub9999 (show n ≤ 9999 by omega)
    by_cases q2 : X.1.day + n ≤ 9999
    · obtain ⟨V, l1, l2, l3⟩ := loopE (fun k (u : AH) => Ex M_X11_loose 60 41 [some (.ref 32), some (.int (nI n)), some (.int (nI k))] [] u) (fun k u => ClAt u (dlnN k X.1, X.2) ∧ Fr CxP W u) n (by
        intro k u hk hI
        obtain ⟨hC, hF⟩ := hI
        obtain ⟨v, p1, p2, p3⟩ := s_passLooseDay hC.sta (by decide) hC.now (by show (dlnN k X.1).day + 1 < 100000; rw [dlnN_day k X.1]; omega) 60
        refine ⟨v, ?_, hC.setNow p3 p2, hF.trans (p3.wide CxP_co)⟩
        have e1 : (nI n ≤ nI k) = False := by rw [le_nI (by omega) (by omega)]; apply eq_false; omega
        rw [H_X11_loose_41]
        simp only [R_X11_loose, SB, e1, if_false, if_true, hC.f0, clK_gf hC.now.k0, p1, ls1s, nI_1]) W ⟨hC, Fr.refl _ _⟩
      have e2 : (nI X.1.day ≤ nI (9999 - n)) = True := by rw [le_nI (by omega) (by omega)]; apply eq_true; omega
      have e3 : (nI (X.1.day + n) ≤ (9999 : Int32)) = True := by rw [show (9999 : Int32) = nI 9999 from rfl, le_nI (by omega) (by decide)]; apply eq_true; omega
      refine ⟨nI (hoN (dlnN n X.1)), (dlnN n X.1, X.2), ⟨V, ?_, l2, l3⟩, fun w => ?_⟩
      · simp only [C_X11_loose, R_X11_loose, SB, hC.f0, hC.f1, hC.f2, hC.f3, hC.f4, hC.f5, hC.f6, hC.f7, hC.f8, hC.f9, clK_gf hC.f0, s_isKnot, s_isColour, s_isKindAndM, s_isUse, iw_1, iw_3, iw_6, iw_7, iw_99, iw_100, iw_255, s_rf1 hC, s_rf2 hC, s_rf3 hC, s_rf4 hC, s_rf5 hC, bI_e0, bI_n0, b_ft, bI_01, bI_t, bI_f, i10, i01, if_true, if_false, Bool.true_eq_false, Bool.false_eq_true, or_true, true_or, not_true_eq_false, not_false_eq_true, ls1s, iw140, q, and_self, decide_true, hC.now.k7, e9, e2]
        refine (show _ = _ from rfl).trans (l1.trans ?_)
        rw [H_X11_loose_41]
        have g1 : gf (hg V 33) 1 0 = some (.ref 34) := l2.now.k0
        have k1 : clK (hg V 34) = 0 := clK_gf l2.now.car.p0
        simp only [R_X11_loose, SB, Int32.le_refl, if_true, l2.f0, g1, k1, l2.holes]
      · obtain ⟨⟨D, o⟩, m1, m2, m3⟩ := loopE (fun k (s : (Nat → Int32) × Option Value) => Ex M_X12_loose 60 40 [some (.ref 123), some (.int (nI n)), some (.int (nI k)), s.2] [] (mw w I (upA A 0 s.1))) (fun k s => DR s.1 (dlnN k X.1) ∧ Lo (A 0) s.1) n (by
          intro k s hk hI
          obtain ⟨D, o⟩ := s
          obtain ⟨i1, i2⟩ := hI
          have e1 : (nI n ≤ nI k) = False := by rw [le_nI (by omega) (by omega)]; apply eq_false; omega
          obtain ⟨D2, o2, c1, c2, c3⟩ := m_looseDay (I := I) (A := upA A 0 D) (S := dlnN k X.1) i1 (by rw [dlnN_day]; omega) w (nI n) k o e1
          rw [upA_upA] at c1
          exact ⟨(D2, o2), c1, c2, i2.trans c3⟩) (A 0, none) ⟨hD, Lo.refl _⟩
        have m2 : DR D (dlnN n X.1) := m2
        have ho := m_holes (I := I) (A := upA A 0 D) (S := dlnN n X.1) m2 w 60
        refine ⟨I, upA A 0 D, ?_, hM.set0 m2 (Or.inr (by rw [dlnN_day n X.1]; exact q2))⟩
        simp (disch := omega) only [C_X12_loose, R_X12_loose, SB, mw_o, mw_a, mo_g, mo_p, mo_pz, mw_so, mw_sa, upA_eq, upA_upA, upd_upd, m_isKnot, m_isSheet, mi_1, mi_3, mi_5, mi_6, mi_7, mi_69, mi_99, mi_100, mi_255, m_f1, m_f2, m_f3, m_f4, m_f5, bI_e0, bI_n0, b_ft, bI_01, bI_t, bI_f, i10, i01, if_true, if_false, Bool.true_eq_false, Bool.false_eq_true, or_true, true_or, not_true_eq_false, not_false_eq_true, ls1s, mi140, q, and_self, decide_true, aI_l, hD.day, nI_add, e3]
        rw [show upA A 0 ((A 0, (none : Option Value)).1) = A from upA_same A 0] at m1
        refine (show _ = _ from rfl).trans (m1.trans ?_)
        rw [H_X12_loose_40]
        simp only [R_X12_loose, SB, mw_o, mo_g, Int32.le_refl, if_true, ho]
    · have e2 : (nI X.1.day ≤ nI (9999 - n)) = False := by rw [le_nI (by omega) (by omega)]; apply eq_false; omega
      have e3 : (nI (X.1.day + n) ≤ (9999 : Int32)) = False := by rw [show (9999 : Int32) = nI 9999 from rfl, le_nI (by omega) (by decide)]; apply eq_false; omega
      refine JS.er hC hM (k := 3) (by decide) ?_ (fun w => ?_)
      · simp only [C_X11_loose, R_X11_loose, SB, hC.f0, hC.f1, hC.f2, hC.f3, hC.f4, hC.f5, hC.f6, hC.f7, hC.f8, hC.f9, clK_gf hC.f0, s_isKnot, s_isColour, s_isKindAndM, s_isUse, iw_1, iw_3, iw_6, iw_7, iw_99, iw_100, iw_255, s_rf1 hC, s_rf2 hC, s_rf3 hC, s_rf4 hC, s_rf5 hC, bI_e0, bI_n0, b_ft, bI_01, bI_t, bI_f, i10, i01, if_true, if_false, Bool.true_eq_false, Bool.false_eq_true, or_true, true_or, not_true_eq_false, not_false_eq_true, ls1s, iw140, q, and_self, decide_true, hC.now.k7, e9, e2]
      · simp (disch := omega) only [C_X12_loose, R_X12_loose, SB, mw_o, mw_a, mo_g, mo_p, mo_pz, mw_so, mw_sa, upA_eq, upA_upA, upd_upd, m_isKnot, m_isSheet, mi_1, mi_3, mi_5, mi_6, mi_7, mi_69, mi_99, mi_100, mi_255, m_f1, m_f2, m_f3, m_f4, m_f5, bI_e0, bI_n0, b_ft, bI_01, bI_t, bI_f, i10, i01, if_true, if_false, Bool.true_eq_false, Bool.false_eq_true, or_true, true_or, not_true_eq_false, not_false_eq_true, ls1s, mi140, q, and_self, decide_true, aI_l, hD.day, nI_add, e3]
  · refine JS.er hC hM (k := 1) (by decide) ?_ (fun w => ?_)
    · simp only [C_X11_loose, R_X11_loose, SB, hC.f0, hC.f1, hC.f2, hC.f3, hC.f4, hC.f5, hC.f6, hC.f7, hC.f8, hC.f9, clK_gf hC.f0, s_isKnot, s_isColour, s_isKindAndM, s_isUse, iw_1, iw_3, iw_6, iw_7, iw_99, iw_100, iw_255, s_rf1 hC, s_rf2 hC, s_rf3 hC, s_rf4 hC, s_rf5 hC, bI_e0, bI_n0, b_ft, bI_01, bI_t, bI_f, i10, i01, if_true, if_false, Bool.true_eq_false, Bool.false_eq_true, or_true, true_or, not_true_eq_false, not_false_eq_true, ls1s, iw140, q, decide_false]
    · simp only [C_X12_loose, R_X12_loose, SB, mw_o, mw_a, mo_g, mo_p, mo_pz, mw_so, mw_sa, upA_eq, upA_upA, upd_upd, m_isKnot, m_isSheet, mi_1, mi_3, mi_5, mi_6, mi_7, mi_69, mi_99, mi_100, mi_255, m_f1, m_f2, m_f3, m_f4, m_f5, bI_e0, bI_n0, b_ft, bI_01, bI_t, bI_f, i10, i01, if_true, if_false, Bool.true_eq_false, Bool.false_eq_true, or_true, true_or, not_true_eq_false, not_false_eq_true, ls1s, mi140, q, decide_false]
