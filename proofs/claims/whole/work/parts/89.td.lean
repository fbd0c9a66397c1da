/-! ===== pairs: feed ===== -/
def bwI (word : Int64) (i : Nat) : Int32 := ((word.toUInt64 >>> ((8 * nI i).toInt64.toUInt64 &&& Int64.toUInt64 63)).toInt64).toInt32 &&& 255
theorem bw_bits (W : BitVec 64) (s : Nat) (hs : s ≤ 56) : (W >>> s).setWidth 32 &&& 255#32 = ((W.sshiftRight s) &&& 255#64).setWidth 32 := by
  apply BitVec.eq_of_getLsbD_eq
  intro j hj
  have c : ∀ k, k < 64 → (255#64).getLsbD k = decide (k < 8) := by decide
  have d : ∀ k, k < 32 → (255#32).getLsbD k = decide (k < 8) := by decide
  simp only [BitVec.getLsbD_and, BitVec.getLsbD_setWidth, BitVec.getLsbD_ushiftRight, BitVec.getLsbD_sshiftRight, c j (by omega), d j hj, hj, decide_true, Bool.true_and]
  by_cases q : j < 8
  · simp [q, show s + j < 64 by omega, show ¬ 64 ≤ j by omega]
  · simp [q]
theorem sh_i (W k : Int64) (s : Nat) (h : (k.toBitVec.smod 64).toNat = s) : (W >>> k).toBitVec = W.toBitVec.sshiftRight s := by
  rw [Int64.toBitVec_shiftRight]
  show BitVec.sshiftRight _ _ = _
  rw [h]
theorem sh_u (W k : UInt64) (s : Nat) (h : (k.toBitVec % 64).toNat = s) : (W >>> k).toBitVec = W.toBitVec >>> s := by
  rw [UInt64.toBitVec_shiftRight]
  show BitVec.ushiftRight _ _ = _
  rw [h]
  rfl
theorem i64_32 (x : Int64) : x.toInt32.toBitVec = x.toBitVec.setWidth 32 := by
  rw [Int64.toBitVec_toInt32, BitVec.signExtend_eq_setWidth_of_le _ (by decide)]
theorem bw_at (word k1 : Int64) (k2 : UInt64) (s : Nat) (h1 : (k1.toBitVec.smod 64).toNat = s) (h2 : (k2.toBitVec % 64).toNat = s) (hs : s ≤ 56) : (word >>> k1 &&& 255).toInt32 = ((word.toUInt64 >>> k2).toInt64).toInt32 &&& 255 := by
  apply Int32.toBitVec_inj.mp
  rw [Int32.toBitVec_and, i64_32, i64_32, Int64.toBitVec_and, sh_i word k1 s h1]
  have e : (word.toUInt64 >>> k2).toInt64.toBitVec = (word.toUInt64 >>> k2).toBitVec := rfl
  rw [e, sh_u word.toUInt64 k2 s h2]
  exact (bw_bits word.toBitVec s hs).symm
theorem bw_m (word : Int64) (i : Nat) (hi : i < 8) : (word >>> ((8 * nI i).toInt64 &&& 63) &&& 255).toInt32 = bwI word i := by
  have key : ∀ i, i < 8 → (((8 * nI i).toInt64 &&& 63).toBitVec.smod 64).toNat = 8 * i ∧ (((8 * nI i).toInt64.toUInt64 &&& Int64.toUInt64 63).toBitVec % 64).toNat = 8 * i := by decide +kernel
  obtain ⟨h1, h2⟩ := key i hi
  exact bw_at word _ _ (8 * i) h1 h2 (by omega)
theorem bw_in (word : Int64) (i : Nat) : inR (bwI word i) 256 = true := by
  have e := and_lo (((word.toUInt64 >>> ((8 * nI i).toInt64.toUInt64 &&& Int64.toUInt64 63)).toInt64).toInt32) 8 (by decide)
  have e : bwI word i = nI (_ % 256) := e
  rw [e, inR_nI (by omega)]
  exact decide_eq_true (Nat.mod_lt _ (by decide))
def tpN (word : Int64) (L : Nat) (f : Nat → Int32) : Nat → Nat → Int32
  | 0 => f
  | i + 1 => upd (tpN word L f i) (L + i) (bwI word i)
/-- the country with another tape -/
def tpS (S : Co) (t : Nat × (Nat → Int32)) : Co := (S.1, S.2.1, S.2.2.1, S.2.2.2.1, t, S.2.2.2.2.2)
theorem DR.addT {D : Nat → Int32} {S : Co} (hD : DR D S) (q : S.tape.1 < 50) {b : Int32} (hb : inR b 256 = true) : DR (upd (upd D (219 + S.tape.1) b) 3 (nI (S.tape.1 + 1))) (tpS S (S.tape.1 + 1, upd S.tape.2 S.tape.1 b)) := by
  have u : ∀ j, j ≠ 3 → (∀ i, j ≠ 219 + i ∨ i ≠ S.tape.1) → upd (upd D (219 + S.tape.1) b) 3 (nI (S.tape.1 + 1)) j = D j := fun j h1 h2 => by
    rw [upd_n h1, upd_n (by rcases h2 S.tape.1 with x | x <;> omega)]
  have tx : ∀ u t, u < 2 → TxR D u t → TxR (upd (upd D (219 + S.tape.1) b) 3 (nI (S.tape.1 + 1))) u t := by
    intro u0 t hu ⟨n, n1, n2, n3, n4⟩
    refine ⟨n, (u _ (by omega) (fun i => by omega)).trans n1, n2, n3, fun h => ?_⟩
    have e1 : pT u0 n (fun k => upd (upd D (219 + S.tape.1) b) 3 (nI (S.tape.1 + 1)) (119 + 50 * u0 + k)) = pT u0 n (fun k => D (119 + 50 * u0 + k)) := pT_congr (fun k hk => u _ (by omega) (fun i => by omega))
    rw [e1]
    exact n4 h
  have rn := hD.rn
  refine ⟨(u _ (by omega) (fun i => by omega)).trans hD.nw, (u _ (by omega) (fun i => by omega)).trans hD.day, (u _ (by omega) (fun i => by omega)).trans hD.z, upd_s _ _ _, (u _ (by omega) (fun i => by omega)).trans hD.wn, fun k hk => (u _ (by omega) (fun i => by omega)).trans (hD.col k hk), fun k hk => (u _ (by omega) (fun i => by omega)).trans (hD.wear k hk), fun i hi x hx => (u _ (by have h2 : i < S.nw := hi; omega) (fun i2 => by have h2 : i < S.nw := hi; omega)).trans (hD.wk i hi x hx), tx 0 _ (by decide) hD.pat, tx 1 _ (by decide) hD.wor, fun k hk => (u _ (by have := hD.rv; have h2 : k < S.wait.1 := hk; omega) (fun i => by have := hD.rv; have h2 : k < S.wait.1 := hk; omega)).trans (hD.wt k hk), ?_, hD.rc, hD.rw, hD.rk, hD.rn, hD.rd, by show S.tape.1 + 1 ≤ 50; omega, hD.rv, ?_⟩
  · intro k hk
    show upd (upd D (219 + S.tape.1) b) 3 (nI (S.tape.1 + 1)) (219 + k) = upd S.tape.2 S.tape.1 b k
    have hk : k < S.tape.1 + 1 := hk
    rw [upd_n (by omega)]
    by_cases z : k = S.tape.1
    · rw [z, upd_s, upd_s]
    · rw [upd_n (by omega), upd_n z]; exact hD.tp k (by omega)
  · intro k hk
    show inR (upd S.tape.2 S.tape.1 b k) 256 = true
    have hk : k < S.tape.1 + 1 := hk
    by_cases z : k = S.tape.1
    · rw [z, upd_s]; exact hb
    · rw [upd_n z]; exact hD.tb k (by omega)
theorem iw18 (v : Int32) (w : AH) (lv : Nat) : Call M_X11_isWithin lv [.int v, .int 1, .int 8] w = some (some (.int (bI (decide (1 ≤ v.toInt ∧ v.toInt ≤ 8)))), w) := s_isWithin v 1 8 w lv
theorem mi18 (v : Int32) (w : AH) (lv : Nat) : Call M_X12_in lv [.long v.toInt64, .long 1, .long 8] w = some (some (.int (bI (decide (1 ≤ v.toInt ∧ v.toInt ≤ 8)))), w) := by
  rw [s_m_in, i64_of]; rfl
theorem j_feed (word : Int64) (a : Int32) : JO M_X11_feed M_X12_feed [.long word, .int a] := by
  apply JO.mk
  intro W X I A hC hM
  have hD := hM.now
  have hN := hC.now
  have rt := hD.rt
  have iw := iw18 a
  have mi := mi18 a
  by_cases q : 1 ≤ a.toInt ∧ a.toInt ≤ 8
  · rw [decide_eq_true q] at iw mi
    obtain ⟨n, n1, rfl⟩ : ∃ n, n < 9 ∧ a = nI n := ⟨a.toInt.toNat, by omega, nI_nat (by omega)⟩
    have g4 : gf (hg W 33) 1 4 = some (.ref 46) := hN.k4
    have hr : RowAt W 46 47 50 X.1.tape.1 X.1.tape.2 := hN.tape
    have s1 : (50 : Int32) - nI n = nI (50 - n) := by rw [show (50 : Int32) = nI 50 from rfl, pk_sub (by omega)]
    have c1 : (nI X.1.tape.1 ≤ nI (50 - n)) = (X.1.tape.1 ≤ 50 - n) := le_nI (by omega) (by omega)
    have c2 : (nI (X.1.tape.1 + n) ≤ (50 : Int32)) = (X.1.tape.1 + n ≤ 50) := by rw [show (50 : Int32) = nI 50 from rfl, le_nI (by omega) (by decide)]
    by_cases z : X.1.tape.1 + n ≤ 50
    · have nn : (nI n ≤ nI n) = True := by simp
      obtain ⟨v, a1, a2, a3⟩ := loopE (fun i (v : AH) => Ex M_X11_feed 60 44 [some (.ref 32), some (.long word), none, some (.int (nI n)), some (.int (nI i))] [] v) (fun i v => CoAt v 33 (tpS X.1 (X.1.tape.1 + i, tpN word X.1.tape.1 X.1.tape.2 i)) ∧ Fr (CoP 33) W v) n (by
        intro i v hi ⟨i1, i2⟩
        have hC := hC.setNow i2 i1
        have hr : RowAt v 46 47 50 (X.1.tape.1 + i) (tpN word X.1.tape.1 X.1.tape.2 i) := i1.tape
        have g4 : gf (hg v 33) 1 4 = some (.ref 46) := i1.k4
        have ad := s_Row_add hr (bwI word i) 60
        rw [if_pos (by omega)] at ad
        have h2 := hr.set (L2 := X.1.tape.1 + i + 1) (g := upd (tpN word X.1.tape.1 X.1.tape.2 i) (X.1.tape.1 + i) (bwI word i)) (by omega)
        have e1 : (nI n ≤ nI i) = False := by rw [le_nI (by omega) (by omega)]; apply eq_false; omega
        refine ⟨_, ?_, i1.setTape (fun j _ _ h1 h2 => setRow_ne _ _ _ _ _ _ h1 h2) h2, i2.trans (setRow_fr _ _ _ _ _ _ ⟨by omega, by omega⟩ ⟨by omega, by omega⟩)⟩
        rw [H_X11_feed_44]
        unfold bwI at ad
        simp only [R_X11_feed, SB, hC.f0, hC.f1, hC.f2, hC.f3, hC.f4, hC.f5, hC.f6, hC.f7, hC.f8, hC.f9, clK_gf hC.f0, s_isKnot, s_isColour, s_isKindAndM, s_isUse, iw_1, iw_3, iw_6, iw_7, iw_99, iw_100, iw_255, s_rf1 hC, s_rf2 hC, s_rf3 hC, s_rf4 hC, s_rf5 hC, bI_e0, bI_n0, b_ft, bI_01, bI_t, bI_f, i10, i01, if_true, if_false, Bool.true_eq_false, Bool.false_eq_true, or_true, true_or, not_true_eq_false, not_false_eq_true, ls1s, e1, g4, clK_gf hr.1, ad, nI_1]
        rfl) W ⟨hN, Fr.refl _ _⟩
      obtain ⟨a2, a3⟩ : CoAt v 33 _ ∧ Fr (CoP 33) W v := ⟨a2, a3⟩
      refine ⟨nI (X.1.tape.1 + n), (tpS X.1 (X.1.tape.1 + n, tpN word X.1.tape.1 X.1.tape.2 n), X.2), ⟨v, ?_, hC.setNow a3 a2, a3.wide CxP_co⟩, fun w => ?_⟩
      · simp only [C_X11_feed, R_X11_feed, SB, hC.f0, hC.f1, hC.f2, hC.f3, hC.f4, hC.f5, hC.f6, hC.f7, hC.f8, hC.f9, clK_gf hC.f0, s_isKnot, s_isColour, s_isKindAndM, s_isUse, iw_1, iw_3, iw_6, iw_7, iw_99, iw_100, iw_255, s_rf1 hC, s_rf2 hC, s_rf3 hC, s_rf4 hC, s_rf5 hC, bI_e0, bI_n0, b_ft, bI_01, bI_t, bI_f, i10, i01, if_true, if_false, Bool.true_eq_false, Bool.false_eq_true, or_true, true_or, not_true_eq_false, not_false_eq_true, ls1s, iw, g4, hr.2.1, s1, c1, eq_true (show X.1.tape.1 ≤ 50 - n by omega)]
        refine (show _ = _ from rfl).trans (a1.trans ?_)
        rw [H_X11_feed_44]
        have hC := hC.setNow a3 a2
        have g4 : gf (hg v 33) 1 4 = some (.ref 46) := a2.k4
        have hr : RowAt v 46 47 50 (X.1.tape.1 + n) (tpN word X.1.tape.1 X.1.tape.2 n) := a2.tape
        simp only [R_X11_feed, SB, hC.f0, hC.f1, hC.f2, hC.f3, hC.f4, hC.f5, hC.f6, hC.f7, hC.f8, hC.f9, clK_gf hC.f0, s_isKnot, s_isColour, s_isKindAndM, s_isUse, iw_1, iw_3, iw_6, iw_7, iw_99, iw_100, iw_255, s_rf1 hC, s_rf2 hC, s_rf3 hC, s_rf4 hC, s_rf5 hC, bI_e0, bI_n0, b_ft, bI_01, bI_t, bI_f, i10, i01, if_true, if_false, Bool.true_eq_false, Bool.false_eq_true, or_true, true_or, not_true_eq_false, not_false_eq_true, ls1s, nn, g4, hr.2.1]
      · obtain ⟨D, b1, b2⟩ := loopE (fun i (D : Nat → Int32) => Ex M_X12_feed 60 40 [some (.ref 123), some (.long word), none, some (.int (nI n)), some (.int (nI i))] [] (mw w I (upA A 0 D))) (fun i D => DR D (tpS X.1 (X.1.tape.1 + i, tpN word X.1.tape.1 X.1.tape.2 i))) n (by
          intro i D hi hI
          have d3 : D 3 = nI (X.1.tape.1 + i) := hI.tn
          have e1 : (nI n ≤ nI i) = False := by rw [le_nI (by omega) (by omega)]; apply eq_false; omega
          refine ⟨_, ?_, hI.addT (b := bwI word i) (by show X.1.tape.1 + i < 50; omega) (bw_in word i)⟩
          have e6 : upd D (219 + (X.1.tape.1 + i)) (bwI word i) 3 = nI (X.1.tape.1 + i) := (upd_n (by omega)).trans d3
          have bm := bw_m word i (by omega)
          rw [H_X12_feed_40]
          simp (disch := omega) only [R_X12_feed_p0, R_X12_feed_p1, SB, mw_o, mw_a, mo_g, mo_p, mo_pz, mw_so, mw_sa, upA_eq, upA_upA, upd_upd, m_isKnot, m_isSheet, mi_1, mi_3, mi_5, mi_6, mi_7, mi_69, mi_99, mi_100, mi_255, m_f1, m_f2, m_f3, m_f4, m_f5, bI_e0, bI_n0, b_ft, bI_01, bI_t, bI_f, i10, i01, if_true, if_false, Bool.true_eq_false, Bool.false_eq_true, or_true, true_or, not_true_eq_false, not_false_eq_true, ls1s, e1, aI_l, uI_l, uI_0, d3, lit_add, bm, e6, nI_1]
          rfl) (A 0) hD
        rw [upA_same] at b1
        refine ⟨I, upA A 0 D, ?_, hM.set0 b2⟩
        have d3 : D 3 = nI (X.1.tape.1 + n) := b2.tn
        simp (disch := omega) only [C_X12_feed, R_X12_feed_p0, R_X12_feed_p1, SB, mw_o, mw_a, mo_g, mo_p, mo_pz, mw_so, mw_sa, upA_eq, upA_upA, upd_upd, m_isKnot, m_isSheet, mi_1, mi_3, mi_5, mi_6, mi_7, mi_69, mi_99, mi_100, mi_255, m_f1, m_f2, m_f3, m_f4, m_f5, bI_e0, bI_n0, b_ft, bI_01, bI_t, bI_f, i10, i01, if_true, if_false, Bool.true_eq_false, Bool.false_eq_true, or_true, true_or, not_true_eq_false, not_false_eq_true, ls1s, mi, aI_l, hD.tn, nI_add, c2, eq_true z]
        refine (show _ = _ from rfl).trans (b1.trans ?_)
        rw [H_X12_feed_40]
        simp (disch := omega) only [R_X12_feed_p0, R_X12_feed_p1, SB, mw_o, mw_a, mo_g, mo_p, mo_pz, mw_so, mw_sa, upA_eq, upA_upA, upd_upd, m_isKnot, m_isSheet, mi_1, mi_3, mi_5, mi_6, mi_7, mi_69, mi_99, mi_100, mi_255, m_f1, m_f2, m_f3, m_f4, m_f5, bI_e0, bI_n0, b_ft, bI_01, bI_t, bI_f, i10, i01, if_true, if_false, Bool.true_eq_false, Bool.false_eq_true, or_true, true_or, not_true_eq_false, not_false_eq_true, ls1s, nn, aI_l, d3]
    · refine JS.er hC hM (k := 4) (by decide) ?_ (fun w => ?_)
      · simp only [C_X11_feed, R_X11_feed, SB, hC.f0, hC.f1, hC.f2, hC.f3, hC.f4, hC.f5, hC.f6, hC.f7, hC.f8, hC.f9, clK_gf hC.f0, s_isKnot, s_isColour, s_isKindAndM, s_isUse, iw_1, iw_3, iw_6, iw_7, iw_99, iw_100, iw_255, s_rf1 hC, s_rf2 hC, s_rf3 hC, s_rf4 hC, s_rf5 hC, bI_e0, bI_n0, b_ft, bI_01, bI_t, bI_f, i10, i01, if_true, if_false, Bool.true_eq_false, Bool.false_eq_true, or_true, true_or, not_true_eq_false, not_false_eq_true, ls1s, iw, g4, hr.2.1, s1, c1, eq_false (show ¬ X.1.tape.1 ≤ 50 - n by omega)]
      · simp (disch := omega) only [C_X12_feed, R_X12_feed_p0, R_X12_feed_p1, SB, mw_o, mw_a, mo_g, mo_p, mo_pz, mw_so, mw_sa, upA_eq, upA_upA, upd_upd, m_isKnot, m_isSheet, mi_1, mi_3, mi_5, mi_6, mi_7, mi_69, mi_99, mi_100, mi_255, m_f1, m_f2, m_f3, m_f4, m_f5, bI_e0, bI_n0, b_ft, bI_01, bI_t, bI_f, i10, i01, if_true, if_false, Bool.true_eq_false, Bool.false_eq_true, or_true, true_or, not_true_eq_false, not_false_eq_true, ls1s, mi, aI_l, hD.tn, nI_add, c2, eq_false z]
  · rw [decide_eq_false q] at iw mi
    refine JS.er hC hM (k := 1) (by decide) ?_ (fun w => ?_)
    · simp only [C_X11_feed, R_X11_feed, SB, hC.f0, hC.f1, hC.f2, hC.f3, hC.f4, hC.f5, hC.f6, hC.f7, hC.f8, hC.f9, clK_gf hC.f0, s_isKnot, s_isColour, s_isKindAndM, s_isUse, iw_1, iw_3, iw_6, iw_7, iw_99, iw_100, iw_255, s_rf1 hC, s_rf2 hC, s_rf3 hC, s_rf4 hC, s_rf5 hC, bI_e0, bI_n0, b_ft, bI_01, bI_t, bI_f, i10, i01, if_true, if_false, Bool.true_eq_false, Bool.false_eq_true, or_true, true_or, not_true_eq_false, not_false_eq_true, ls1s, iw]
    · simp only [C_X12_feed, R_X12_feed_p0, R_X12_feed_p1, SB, mw_o, mw_a, mo_g, mo_p, mo_pz, mw_so, mw_sa, upA_eq, upA_upA, upd_upd, m_isKnot, m_isSheet, mi_1, mi_3, mi_5, mi_6, mi_7, mi_69, mi_99, mi_100, mi_255, m_f1, m_f2, m_f3, m_f4, m_f5, bI_e0, bI_n0, b_ft, bI_01, bI_t, bI_f, i10, i01, if_true, if_false, Bool.true_eq_false, Bool.false_eq_true, or_true, true_or, not_true_eq_false, not_false_eq_true, ls1s, mi]
