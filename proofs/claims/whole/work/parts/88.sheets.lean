/-! ===== pairs: sheets ===== -/
theorem cm8 : (1 : Int32) <<< (nI 8 &&& 31) - 1 = 255 := by decide
theorem cm16 : (1 : Int32) <<< (nI 16 &&& 31) - 1 = 65535 := by decide
theorem msk8 (v : Int32) : mskI 8 v = v &&& 255 := by
  unfold mskI; rw [if_neg (by decide), cm8]
theorem msk16 (v : Int32) : mskI 16 v = v &&& 65535 := by
  unfold mskI; rw [if_neg (by decide), cm16]
theorem msk32 (v : Int32) : mskI 32 v = v := by unfold mskI; rw [if_pos rfl]
theorem and_lo (v : Int32) (k : Nat) (hk : k < 32) : v &&& nI (2 ^ k - 1) = nI (v.toBitVec.toNat % 2 ^ k) := by
  have hv := v.toBitVec.isLt
  have h2 : 2 ^ k < 2 ^ 32 := Nat.pow_lt_pow_right (by decide) hk
  have h3 : 0 < 2 ^ k := Nat.two_pow_pos k
  apply Int32.toBitVec_inj.mp
  rw [Int32.toBitVec_and]
  apply BitVec.eq_of_toNat_eq
  show (v.toBitVec &&& BitVec.ofNat 32 (2 ^ k - 1)).toNat = (BitVec.ofNat 32 (v.toBitVec.toNat % 2 ^ k)).toNat
  rw [BitVec.toNat_and, BitVec.toNat_ofNat, BitVec.toNat_ofNat, Nat.mod_eq_of_lt (show 2 ^ k - 1 < 2 ^ 32 by omega), Nat.and_two_pow_sub_one_eq_mod, Nat.mod_eq_of_lt (Nat.lt_trans (Nat.mod_lt _ h3) h2)]
theorem msk8_n (v : Int32) : mskI 8 v = nI (v.toBitVec.toNat % 256) := by rw [msk8]; exact and_lo v 8 (by decide)
theorem msk16_n (v : Int32) : mskI 16 v = nI (v.toBitVec.toNat % 65536) := by rw [msk16]; exact and_lo v 16 (by decide)
theorem nI_bv (m : Nat) (h : m < 2147483648) : (nI m).toBitVec.toNat = m := by
  show (BitVec.ofNat 32 m).toNat = m
  rw [BitVec.toNat_ofNat, Nat.mod_eq_of_lt (by omega)]
theorem msk_msk {b : Nat} (hb : b = 8 ∨ b = 16 ∨ b = 32) (v : Int32) : mskI b (mskI b v) = mskI b v := by
  rcases hb with rfl | rfl | rfl
  · have := v.toBitVec.isLt
    rw [msk8_n v, msk8_n, nI_bv _ (by omega), Nat.mod_mod]
  · have := v.toBitVec.isLt
    rw [msk16_n v, msk16_n, nI_bv _ (by omega), Nat.mod_mod]
  · rw [msk32, msk32]
theorem bv_int (x : Int32) : (x.toBitVec.toNat : Int) = if x.toInt < 0 then x.toInt + 4294967296 else x.toInt := by
  have h := BitVec.toInt_eq_toNat_cond x.toBitVec
  have e : x.toInt = x.toBitVec.toInt := rfl
  have hl := x.toBitVec.isLt
  rw [e, h]
  split
  · rename_i q; rw [if_neg (by omega)]
  · rename_i q; rw [if_pos (by omega)]; omega
theorem sx8_t (x : Int32) : (x.toInt8.toInt32).toInt = x.toInt.bmod 256 := by
  rw [Int8.toInt_toInt32, Int32.toInt_toInt8]
theorem sx16_t (x : Int32) : (x.toInt16.toInt32).toInt = x.toInt.bmod 65536 := by
  rw [Int16.toInt_toInt32, Int32.toInt_toInt16]
theorem sx_msk {b : Nat} (hb : b = 8 ∨ b = 16 ∨ b = 32) (v : Int32) : sxI b (mskI b v) = sxI b v := by
  have hv := bv_int v
  have hl := v.toBitVec.isLt
  rcases hb with rfl | rfl | rfl
  · unfold sxI
    rw [if_pos rfl, if_pos rfl]
    apply Int32.toInt_inj.mp
    rw [sx8_t, sx8_t, msk8_n, nI_t (by omega)]
    unfold Int.bmod
    have e : ((v.toBitVec.toNat % 256 : Nat) : Int) % ((256 : Nat) : Int) = v.toInt % ((256 : Nat) : Int) := by omega
    rw [e]
  · unfold sxI
    rw [if_neg (by decide), if_pos rfl, if_neg (by decide), if_pos rfl]
    apply Int32.toInt_inj.mp
    rw [sx16_t, sx16_t, msk16_n, nI_t (by omega)]
    unfold Int.bmod
    have e : ((v.toBitVec.toNat % 65536 : Nat) : Int) % ((65536 : Nat) : Int) = v.toInt % ((65536 : Nat) : Int) := by omega
    rw [e]
  · rw [msk32]
/-- a number of b bits that is small one way is so the other way -/
theorem sx_small {b : Nat} (hb : b = 8 ∨ b = 16 ∨ b = 32) {x : Int32} (hx : mskI b x = x) {c : Nat} (hc : c < 100) : (sxI b x = nI c) = (x = nI c) := by
  rcases hb with rfl | rfl | rfl
  · rw [msk8_n] at hx
    generalize x.toBitVec.toNat = m at hx
    have hm : m % 256 < 256 := Nat.mod_lt _ (by decide)
    generalize m % 256 = m at hx hm
    subst hx
    unfold sxI
    rw [if_pos rfl, eq_t, sx8_t, nI_t (by omega), nI_t (by omega), eq_nI (by omega) (by omega)]
    unfold Int.bmod
    apply propext
    dsimp only
    split <;> omega
  · rw [msk16_n] at hx
    generalize x.toBitVec.toNat = m at hx
    have hm : m % 65536 < 65536 := Nat.mod_lt _ (by decide)
    generalize m % 65536 = m at hx hm
    subst hx
    unfold sxI
    rw [if_neg (by decide), if_pos rfl, eq_t, sx16_t, nI_t (by omega), nI_t (by omega), eq_nI (by omega) (by omega)]
    unfold Int.bmod
    apply propext
    dsimp only
    split <;> omega
  · rfl
theorem sx_in {b : Nat} (hb : b = 8 ∨ b = 16 ∨ b = 32) {x : Int32} (hx : mskI b x = x) : inR (sxI b x) 8 = inR x 8 := by
  apply Bool.eq_iff_iff.mpr
  constructor
  · intro h
    obtain ⟨k, k1, k2, e⟩ := inR_of h
    rw [sx_small hb hx (by omega)] at e
    rw [e, inR_nI (by omega)]; exact decide_eq_true k1
  · intro h
    obtain ⟨k, k1, k2, e⟩ := inR_of h
    rw [← sx_small hb hx (by omega)] at e
    rw [e, inR_nI (by omega)]; exact decide_eq_true k1
theorem s_sheetOf {W : AH} {X : Cx} (hC : ClAt W X) {k : Nat} (hk : inR (nI k) 4 = true) (h4 : k < 4) (lv : Nat) : Call M_X11_sheetOf lv [.ref 32, .int (nI k)] W = some (some (.ref (115 + 2 * k)), W) := by
  obtain ⟨U, u1, u2⟩ := hC.shs
  simp (disch := omega) only [C_X11_sheetOf, R_X11_sheetOf, SB, hC.f0, hC.f1, hC.f2, hC.f3, hC.f4, hC.f5, hC.f6, hC.f7, hC.f8, hC.f9, clK_gf hC.f0, s_isKnot, s_isColour, s_isKindAndM, s_isUse, iw_1, iw_3, iw_6, iw_7, iw_99, iw_100, iw_255, s_rf1 hC, s_rf2 hC, s_rf3 hC, s_rf4 hC, s_rf5 hC, bI_e0, bI_n0, b_ft, bI_01, bI_t, bI_f, i10, i01, if_true, if_false, Bool.true_eq_false, Bool.false_eq_true, or_true, true_or, not_true_eq_false, not_false_eq_true, ls1s, hk, u1, aQ_4, u2 k h4]
theorem s_sheetOf_n {W : AH} {X : Cx} (hC : ClAt W X) {a : Int32} (hk : ¬ inR a 4 = true) (lv : Nat) : Call M_X11_sheetOf lv [.ref 32, .int a] W = some (some .null, W) := by
  simp only [C_X11_sheetOf, R_X11_sheetOf, SB, hC.f0, hC.f1, hC.f2, hC.f3, hC.f4, hC.f5, hC.f6, hC.f7, hC.f8, hC.f9, clK_gf hC.f0, s_isKnot, s_isColour, s_isKindAndM, s_isUse, iw_1, iw_3, iw_6, iw_7, iw_99, iw_100, iw_255, s_rf1 hC, s_rf2 hC, s_rf3 hC, s_rf4 hC, s_rf5 hC, bI_e0, bI_n0, b_ft, bI_01, bI_t, bI_f, i10, i01, if_true, if_false, Bool.true_eq_false, Bool.false_eq_true, or_true, true_or, not_true_eq_false, not_false_eq_true, ls1s, inR_f hk]
def upS (sh : ShS) (k : Nat) (v : Nat × Nat × (Nat → Int32)) : ShS := fun j => if j = k then v else sh j
theorem ClAt.setSheet {w v : AH} {X : Cx} (h : ClAt w X) {k : Nat} (hk : k < 4) {b n : Nat} {G : Nat → Int32} (hF : Fr (fun j => j = 115 + 2 * k ∨ j = 115 + 2 * k + 1) w v) (hS : ShAt v (115 + 2 * k) b n G) : ClAt v (X.1, X.2.1, X.2.2.1, X.2.2.2.1, X.2.2.2.2.1, upS X.2.2.2.2.2 k (b, n, G)) := by
  have e : ∀ j, j < 115 ∨ 123 ≤ j → hg v j = hg w j := fun j hj => hF.2.2 j (by omega)
  have e0 := e 32 (by omega)
  refine ⟨by rw [e0]; exact h.f0, by rw [e0]; exact h.f1, by rw [e0]; exact h.f2, by rw [e0]; exact h.f3, by rw [e0]; exact h.f4, by rw [e0]; exact h.f5, by rw [e0]; exact h.f6, by rw [e0]; exact h.f7, by rw [e0]; exact h.f8, by rw [e0]; exact h.f9, h.now.keep (fun j _ _ => e j (by omega)), h.kept.keep (fun j _ _ => e j (by omega)), ?_, ?_, h.vo.keep (fun j _ _ => e j (by omega)), h.ro.keep (fun j _ _ => e j (by omega)), ?_, by rw [e 113 (by omega)]; exact h.shs, ?_, by rw [e 114 (by omega)]; exact h.err, h.sta.keep (e _ (by omega)) (e _ (by omega)), h.str.keep (fun j hj => e j (by omega))⟩
  · obtain ⟨T, hT⟩ := h.tho; exact ⟨T, hT.keep (fun j _ _ => e j (by omega))⟩
  · obtain ⟨L, f, hT⟩ := h.rd; exact ⟨L, f, hT.keep (fun j _ _ => e j (by omega))⟩
  · obtain ⟨a, b, c, d, hT⟩ := h.dy; exact ⟨a, b, c, d, hT.keep (fun j _ _ => e j (by omega))⟩
  · intro j hj
    show ShAt v (115 + 2 * j) (upS X.2.2.2.2.2 k (b, n, G) j).1 (upS X.2.2.2.2.2 k (b, n, G) j).2.1 (upS X.2.2.2.2.2 k (b, n, G) j).2.2
    unfold upS
    by_cases q : j = k
    · subst q; rw [if_pos rfl]; exact hS
    · rw [if_neg q]
      exact (h.she j hj).keep (hF.2.2 _ (by omega)) (hF.2.2 _ (by omega))
theorem Md.setSheet {I : Nat → Int32} {A B : Nat → Nat → Int32} {X : Cx} (h : Md I A X) {W : AH} (hC : ClAt W X) {k : Nat} (hk : k < 4) {b n : Nat} {G : Nat → Int32} (hn : n ≤ 40) (hA : ∀ j, j < 3 ∨ j = 9 → B j = A j) (b10 : ∀ j, j < 4 → B 10 j = if j = k then nI b else A 10 j) (b11 : ∀ j, j < 4 → B 11 j = if j = k then nI n else A 11 j) (b12 : ∀ i, i < n → B 12 (40 * k + i) = sxI b (G i)) (b12n : ∀ j, j < 40 * k ∨ 40 * k + 40 ≤ j → B 12 j = A 12 j) (hm : ∀ i, i < n → mskI b (G i) = G i) : Md I B (X.1, X.2.1, X.2.2.1, X.2.2.2.1, X.2.2.2.2.1, upS X.2.2.2.2.2 k (b, n, G)) := by
  refine ⟨by rw [hA 0 (by omega)]; exact h.now, by rw [hA 1 (by omega)]; exact h.kept, h.im, h.dn, h.dk, by rw [hA 2 (by omega)]; exact h.err, h.tl, h.tm, by rw [hA 9 (by omega)]; exact h.tr, ?_, ?_, ?_, ?_⟩
  · intro j hj
    show B 10 j = nI (upS X.2.2.2.2.2 k (b, n, G) j).1
    rw [b10 j hj]; unfold upS
    by_cases q : j = k
    · rw [if_pos q, if_pos q]
    · rw [if_neg q, if_neg q]; exact h.shb j hj
  · intro j hj
    show B 11 j = nI (upS X.2.2.2.2.2 k (b, n, G) j).2.1
    rw [b11 j hj]; unfold upS
    by_cases q : j = k
    · rw [if_pos q, if_pos q]
    · rw [if_neg q, if_neg q]; exact h.shn j hj
  · intro j hj i hi
    have hi : i < (upS X.2.2.2.2.2 k (b, n, G) j).2.1 := hi
    show B 12 (40 * j + i) = sxI (upS X.2.2.2.2.2 k (b, n, G) j).1 ((upS X.2.2.2.2.2 k (b, n, G) j).2.2 i)
    unfold upS at hi ⊢
    by_cases q : j = k
    · subst q; rw [if_pos rfl] at hi ⊢; exact b12 i hi
    · rw [if_neg q] at hi ⊢
      have := (hC.she j hj).rn
      rw [b12n _ (by omega)]
      exact h.shv j hj i hi
  · intro j hj i hi
    have hi : i < (upS X.2.2.2.2.2 k (b, n, G) j).2.1 := hi
    show mskI (upS X.2.2.2.2.2 k (b, n, G) j).1 ((upS X.2.2.2.2.2 k (b, n, G) j).2.2 i) = (upS X.2.2.2.2.2 k (b, n, G) j).2.2 i
    unfold upS at hi ⊢
    by_cases q : j = k
    · subst q; rw [if_pos rfl] at hi ⊢; exact hm i hi
    · rw [if_neg q] at hi ⊢; exact h.shr j hj i hi
theorem CxP_sh {k : Nat} (hk : k < 4) (j : Nat) (h : j = 115 + 2 * k ∨ j = 115 + 2 * k + 1) : CxP j := ⟨by omega, by omega⟩
theorem msk_0 {b : Nat} (hb : b = 0 ∨ b = 8 ∨ b = 16 ∨ b = 32) : sxI b 0 = 0 := by
  rcases hb with rfl | rfl | rfl | rfl <;> decide
theorem msk_00 {b : Nat} (hb : b = 8 ∨ b = 16 ∨ b = 32) : mskI b 0 = 0 := by
  rcases hb with rfl | rfl | rfl
  · rw [msk8]; decide
  · rw [msk16]; decide
  · rw [msk32]
theorem j_sheet (a b c : Int32) : JO M_X11_sheet M_X12_sheet [.int a, .int b, .int c] := by
  apply JO.mk
  intro W X I A hC hM
  by_cases q1 : inR a 4 = true
  · obtain ⟨k, k1, k2, rfl⟩ := inR_of q1
    have so := s_sheetOf hC q1 k1 60
    have sh := hC.she k k1
    -- the making of one of bt bits, nn numbers
    have mk : ∀ bt nn : Nat, (bt = 0 ∨ bt = 8 ∨ bt = 16 ∨ bt = 32) → nn ≤ 40 → (bt = 0 → nn = 0) → ∃ V G, Call M_X8_make 60 [.ref (115 + 2 * k), .int (nI bt), .int (nI nn)] W = some (none, V) ∧ ClAt V (X.1, X.2.1, X.2.2.1, X.2.2.2.1, X.2.2.2.2.1, upS X.2.2.2.2.2 k (bt, nn, G)) ∧ Fr CxP W V ∧ ∀ w (I2 : Nat → Int32), ∃ B, Ex M_X12_sheet 60 90 [some (.ref 123), some (.int (nI k)), some (.int (nI bt)), some (.int c), some (.int (nI 0))] [] (mw w I (upA (upA A 10 (upd (A 10) k (nI bt))) 11 (upd (A 11) k (nI nn)))) = some (some (.int 1), mw w I B) ∧ Md I B (X.1, X.2.1, X.2.2.1, X.2.2.2.1, X.2.2.2.2.1, upS X.2.2.2.2.2 k (bt, nn, G)) := by
      intro bt nn hb hn h0
      obtain ⟨V, G, a1, a2, a3, a4⟩ := s_Sheet_make sh hb hn 60
      refine ⟨V, G, a1, hC.setSheet k1 a4 a2, a4.wide (CxP_sh k1), fun w I2 => ?_⟩
      obtain ⟨N, l1, l2, l3⟩ := loopE (fun j (N : Nat → Int32) => Ex M_X12_sheet 60 90 [some (.ref 123), some (.int (nI k)), some (.int (nI bt)), some (.int c), some (.int (nI j))] [] (mw w I (upA (upA (upA A 10 (upd (A 10) k (nI bt))) 11 (upd (A 11) k (nI nn))) 12 N))) (fun j N => (∀ i, i < j → N (40 * k + i) = 0) ∧ ∀ i, i < 40 * k ∨ 40 * k + 40 ≤ i → N i = A 12 i) 40 (by
        intro j N hj hI
        obtain ⟨i1, i2⟩ := hI
        have e1 : ((40 : Int32) ≤ nI j) = False := by rw [show (40 : Int32) = nI 40 from rfl, le_nI (by decide) (by omega)]; simp; omega
        refine ⟨upd N (40 * k + j) 0, ?_, fun i hi => ?_, fun i hi => ?_⟩
        · rw [H_X12_sheet_90]
          simp (disch := omega) only [R_X12_sheet_p0, R_X12_sheet_p1, SB, mw_o, mw_a, mo_g, mo_p, mo_pz, mw_so, mw_sa, upA_eq, upA_upA, upd_upd, e1, if_false, if_true, lit_mul, nI_add, uI_0, ls1s, nI_1]
        · by_cases z : i = j
          · subst z; exact upd_s _ _ _
          · rw [upd_n (by omega)]; exact i1 i (by omega)
        · rw [upd_n (by omega)]; exact i2 i hi) (A 12) ⟨fun i hi => absurd hi (by omega), fun _ _ => rfl⟩
      have A12 : upA (upA (upA A 10 (upd (A 10) k (nI bt))) 11 (upd (A 11) k (nI nn))) 12 (A 12) = upA (upA A 10 (upd (A 10) k (nI bt))) 11 (upd (A 11) k (nI nn)) := by
        funext j; unfold upA
        by_cases z : j = 12
        · subst z; rfl
        · rw [if_neg z]
      rw [A12] at l1
      refine ⟨upA (upA (upA A 10 (upd (A 10) k (nI bt))) 11 (upd (A 11) k (nI nn))) 12 N, ?_, hM.setSheet hC k1 hn (fun j hj => by rw [upA_n (by omega), upA_n (by omega), upA_n (by omega)]) (fun j hj => rfl) (fun j hj => rfl) (fun i hi => ?_) (fun j hj => l3 j hj) (fun i hi => ?_)⟩
      · refine l1.trans ?_
        rw [H_X12_sheet_90]
        simp only [R_X12_sheet_p0, R_X12_sheet_p1, SB, show ((40 : Int32) ≤ nI 40) = True from by rw [show (40 : Int32) = nI 40 from rfl]; simp, if_true]
      · rw [a3 i (by omega), msk_0 hb]
        exact l2 i (by omega)
      · rw [a3 i (by omega)]
        rcases hb with rfl | hb
        · have := h0 rfl; omega
        · exact msk_00 hb
    by_cases qb : b = 0 ∨ b = 8 ∨ b = 16 ∨ b = 32
    · rcases qb with rfl | qb
      · obtain ⟨V, G, a1, a2, a3, a4⟩ := mk 0 0 (Or.inl rfl) (by decide) (fun _ => rfl)
        refine ⟨1, _, ⟨V, ?_, a2, a3⟩, fun w => ?_⟩
        · have a1 : Call M_X8_make 60 [.ref (115 + 2 * k), .int 0, .int 0] W = some (none, V) := a1
          simp only [C_X11_sheet, R_X11_sheet, SB, hC.f0, hC.f1, hC.f2, hC.f3, hC.f4, hC.f5, hC.f6, hC.f7, hC.f8, hC.f9, clK_gf hC.f0, s_isKnot, s_isColour, s_isKindAndM, s_isUse, iw_1, iw_3, iw_6, iw_7, iw_99, iw_100, iw_255, s_rf1 hC, s_rf2 hC, s_rf3 hC, s_rf4 hC, s_rf5 hC, bI_e0, bI_n0, b_ft, bI_01, bI_t, bI_f, i10, i01, if_true, if_false, Bool.true_eq_false, Bool.false_eq_true, or_true, true_or, not_true_eq_false, not_false_eq_true, ls1s, so, clK_gf sh.p0, a1]
        · obtain ⟨B, m1, m2⟩ := a4 w I
          refine ⟨I, B, ?_, m2⟩
          simp (disch := omega) only [C_X12_sheet, R_X12_sheet_p0, R_X12_sheet_p1, SB, mw_o, mw_a, mo_g, mo_p, mo_pz, mw_so, mw_sa, upA_eq, upA_upA, upd_upd, m_isKnot, m_isSheet, mi_1, mi_3, mi_5, mi_6, mi_7, mi_69, mi_99, mi_100, mi_255, m_f1, m_f2, m_f3, m_f4, m_f5, bI_e0, bI_n0, b_ft, bI_01, bI_t, bI_f, i10, i01, if_true, if_false, Bool.true_eq_false, Bool.false_eq_true, or_true, true_or, not_true_eq_false, not_false_eq_true, ls1s, q1, uI_0, show ((10 : Nat) = 11) = False from by simp, show ((11 : Nat) = 10) = False from by simp]
          exact m1
      · by_cases qn : c.toInt < 0
        · have e0 : (c < 0) = True := by rw [lt_t, show (0 : Int32).toInt = 0 from rfl]; exact eq_true qn
          have e1 : ((0 : Int32) ≤ c) = False := by rw [le_t, show (0 : Int32).toInt = 0 from rfl]; apply eq_false; omega
          refine JS.er hC hM (k := 3) (by decide) ?_ (fun w => ?_)
          · rcases qb with rfl | rfl | rfl <;> simp only [C_X11_sheet, R_X11_sheet, SB, hC.f0, hC.f1, hC.f2, hC.f3, hC.f4, hC.f5, hC.f6, hC.f7, hC.f8, hC.f9, clK_gf hC.f0, s_isKnot, s_isColour, s_isKindAndM, s_isUse, iw_1, iw_3, iw_6, iw_7, iw_99, iw_100, iw_255, s_rf1 hC, s_rf2 hC, s_rf3 hC, s_rf4 hC, s_rf5 hC, bI_e0, bI_n0, b_ft, bI_01, bI_t, bI_f, i10, i01, if_true, if_false, Bool.true_eq_false, Bool.false_eq_true, or_true, true_or, not_true_eq_false, not_false_eq_true, ls1s, so, e0, e1, show ((8 : Int32) = 0) = False from by decide, show ((16 : Int32) = 0) = False from by decide, show ((32 : Int32) = 0) = False from by decide, show ((16 : Int32) = 8) = False from by decide, show ((32 : Int32) = 8) = False from by decide, show ((32 : Int32) = 16) = False from by decide]
          · rcases qb with rfl | rfl | rfl <;> simp only [C_X12_sheet, R_X12_sheet_p0, R_X12_sheet_p1, SB, mw_o, mw_a, mo_g, mo_p, mo_pz, mw_so, mw_sa, upA_eq, upA_upA, upd_upd, m_isKnot, m_isSheet, mi_1, mi_3, mi_5, mi_6, mi_7, mi_69, mi_99, mi_100, mi_255, m_f1, m_f2, m_f3, m_f4, m_f5, bI_e0, bI_n0, b_ft, bI_01, bI_t, bI_f, i10, i01, if_true, if_false, Bool.true_eq_false, Bool.false_eq_true, or_true, true_or, not_true_eq_false, not_false_eq_true, ls1s, q1, e0, e1, show ((8 : Int32) = 0) = False from by decide, show ((16 : Int32) = 0) = False from by decide, show ((32 : Int32) = 0) = False from by decide, show ((16 : Int32) = 8) = False from by decide, show ((32 : Int32) = 8) = False from by decide, show ((32 : Int32) = 16) = False from by decide]
        · have e0 : (c < 0) = False := by rw [lt_t, show (0 : Int32).toInt = 0 from rfl]; exact eq_false qn
          have e1 : ((0 : Int32) ≤ c) = True := by rw [le_t, show (0 : Int32).toInt = 0 from rfl]; apply eq_true; omega
          have ec := nI_nat (x := c) (by omega)
          by_cases qm : 40 < c.toInt
          · have e2 : ((40 : Int32) < c) = True := by rw [lt_t, show (40 : Int32).toInt = 40 from rfl]; exact eq_true qm
            have e3 : (c ≤ (40 : Int32)) = False := by rw [le_t, show (40 : Int32).toInt = 40 from rfl]; apply eq_false; omega
            refine JS.er hC hM (k := 1) (by decide) ?_ (fun w => ?_)
            · rcases qb with rfl | rfl | rfl <;> simp only [C_X11_sheet, R_X11_sheet, SB, hC.f0, hC.f1, hC.f2, hC.f3, hC.f4, hC.f5, hC.f6, hC.f7, hC.f8, hC.f9, clK_gf hC.f0, s_isKnot, s_isColour, s_isKindAndM, s_isUse, iw_1, iw_3, iw_6, iw_7, iw_99, iw_100, iw_255, s_rf1 hC, s_rf2 hC, s_rf3 hC, s_rf4 hC, s_rf5 hC, bI_e0, bI_n0, b_ft, bI_01, bI_t, bI_f, i10, i01, if_true, if_false, Bool.true_eq_false, Bool.false_eq_true, or_true, true_or, not_true_eq_false, not_false_eq_true, ls1s, so, e0, e1, e2, e3, show ((8 : Int32) = 0) = False from by decide, show ((16 : Int32) = 0) = False from by decide, show ((32 : Int32) = 0) = False from by decide, show ((16 : Int32) = 8) = False from by decide, show ((32 : Int32) = 8) = False from by decide, show ((32 : Int32) = 16) = False from by decide]
            · rcases qb with rfl | rfl | rfl <;> simp only [C_X12_sheet, R_X12_sheet_p0, R_X12_sheet_p1, SB, mw_o, mw_a, mo_g, mo_p, mo_pz, mw_so, mw_sa, upA_eq, upA_upA, upd_upd, m_isKnot, m_isSheet, mi_1, mi_3, mi_5, mi_6, mi_7, mi_69, mi_99, mi_100, mi_255, m_f1, m_f2, m_f3, m_f4, m_f5, bI_e0, bI_n0, b_ft, bI_01, bI_t, bI_f, i10, i01, if_true, if_false, Bool.true_eq_false, Bool.false_eq_true, or_true, true_or, not_true_eq_false, not_false_eq_true, ls1s, q1, e0, e1, e2, e3, show ((8 : Int32) = 0) = False from by decide, show ((16 : Int32) = 0) = False from by decide, show ((32 : Int32) = 0) = False from by decide, show ((16 : Int32) = 8) = False from by decide, show ((32 : Int32) = 8) = False from by decide, show ((32 : Int32) = 16) = False from by decide]
          · have e2 : ((40 : Int32) < c) = False := by rw [lt_t, show (40 : Int32).toInt = 40 from rfl]; exact eq_false qm
            have e3 : (c ≤ (40 : Int32)) = True := by rw [le_t, show (40 : Int32).toInt = 40 from rfl]; apply eq_true; omega
            obtain ⟨bt, hbt, rfl⟩ : ∃ bt : Nat, (bt = 8 ∨ bt = 16 ∨ bt = 32) ∧ b = nI bt := by
              rcases qb with rfl | rfl | rfl
              · exact ⟨8, by decide, rfl⟩
              · exact ⟨16, by decide, rfl⟩
              · exact ⟨32, by decide, rfl⟩
            obtain ⟨V, G, a1, a2, a3, a4⟩ := mk bt c.toInt.toNat (by omega) (by omega) (fun z => by omega)
            rw [← ec] at a1 a4
            refine ⟨1, _, ⟨V, ?_, a2, a3⟩, fun w => ?_⟩
            · rcases hbt with rfl | rfl | rfl
              · have a1 : Call M_X8_make 60 [.ref (115 + 2 * k), .int 8, .int c] W = some (none, V) := a1
                simp only [C_X11_sheet, R_X11_sheet, SB, hC.f0, hC.f1, hC.f2, hC.f3, hC.f4, hC.f5, hC.f6, hC.f7, hC.f8, hC.f9, clK_gf hC.f0, s_isKnot, s_isColour, s_isKindAndM, s_isUse, iw_1, iw_3, iw_6, iw_7, iw_99, iw_100, iw_255, s_rf1 hC, s_rf2 hC, s_rf3 hC, s_rf4 hC, s_rf5 hC, bI_e0, bI_n0, b_ft, bI_01, bI_t, bI_f, i10, i01, if_true, if_false, Bool.true_eq_false, Bool.false_eq_true, or_true, true_or, not_true_eq_false, not_false_eq_true, ls1s, so, clK_gf sh.p0, e0, e1, e2, e3, show nI 8 = (8 : Int32) from rfl, show ((8 : Int32) = 0) = False from by decide, a1]
              · have a1 : Call M_X8_make 60 [.ref (115 + 2 * k), .int 16, .int c] W = some (none, V) := a1
                simp only [C_X11_sheet, R_X11_sheet, SB, hC.f0, hC.f1, hC.f2, hC.f3, hC.f4, hC.f5, hC.f6, hC.f7, hC.f8, hC.f9, clK_gf hC.f0, s_isKnot, s_isColour, s_isKindAndM, s_isUse, iw_1, iw_3, iw_6, iw_7, iw_99, iw_100, iw_255, s_rf1 hC, s_rf2 hC, s_rf3 hC, s_rf4 hC, s_rf5 hC, bI_e0, bI_n0, b_ft, bI_01, bI_t, bI_f, i10, i01, if_true, if_false, Bool.true_eq_false, Bool.false_eq_true, or_true, true_or, not_true_eq_false, not_false_eq_true, ls1s, so, clK_gf sh.p0, e0, e1, e2, e3, show nI 16 = (16 : Int32) from rfl, show ((16 : Int32) = 0) = False from by decide, show ((16 : Int32) = 8) = False from by decide, a1]
              · have a1 : Call M_X8_make 60 [.ref (115 + 2 * k), .int 32, .int c] W = some (none, V) := a1
                simp only [C_X11_sheet, R_X11_sheet, SB, hC.f0, hC.f1, hC.f2, hC.f3, hC.f4, hC.f5, hC.f6, hC.f7, hC.f8, hC.f9, clK_gf hC.f0, s_isKnot, s_isColour, s_isKindAndM, s_isUse, iw_1, iw_3, iw_6, iw_7, iw_99, iw_100, iw_255, s_rf1 hC, s_rf2 hC, s_rf3 hC, s_rf4 hC, s_rf5 hC, bI_e0, bI_n0, b_ft, bI_01, bI_t, bI_f, i10, i01, if_true, if_false, Bool.true_eq_false, Bool.false_eq_true, or_true, true_or, not_true_eq_false, not_false_eq_true, ls1s, so, clK_gf sh.p0, e0, e1, e2, e3, show nI 32 = (32 : Int32) from rfl, show ((32 : Int32) = 0) = False from by decide, show ((32 : Int32) = 8) = False from by decide, show ((32 : Int32) = 16) = False from by decide, a1]
            · obtain ⟨B, m1, m2⟩ := a4 w I
              refine ⟨I, B, ?_, m2⟩
              rcases hbt with rfl | rfl | rfl
              · simp (disch := omega) only [C_X12_sheet, R_X12_sheet_p0, R_X12_sheet_p1, SB, mw_o, mw_a, mo_g, mo_p, mo_pz, mw_so, mw_sa, upA_eq, upA_upA, upd_upd, m_isKnot, m_isSheet, mi_1, mi_3, mi_5, mi_6, mi_7, mi_69, mi_99, mi_100, mi_255, m_f1, m_f2, m_f3, m_f4, m_f5, bI_e0, bI_n0, b_ft, bI_01, bI_t, bI_f, i10, i01, if_true, if_false, Bool.true_eq_false, Bool.false_eq_true, or_true, true_or, not_true_eq_false, not_false_eq_true, ls1s, q1, uI_0, e0, e1, e2, e3, show (nI 8 = (0 : Int32)) = False from by decide, show (nI 8 = (8 : Int32)) = True from by decide, show ((10 : Nat) = 11) = False from by simp, show ((11 : Nat) = 10) = False from by simp]
                exact m1
              · simp (disch := omega) only [C_X12_sheet, R_X12_sheet_p0, R_X12_sheet_p1, SB, mw_o, mw_a, mo_g, mo_p, mo_pz, mw_so, mw_sa, upA_eq, upA_upA, upd_upd, m_isKnot, m_isSheet, mi_1, mi_3, mi_5, mi_6, mi_7, mi_69, mi_99, mi_100, mi_255, m_f1, m_f2, m_f3, m_f4, m_f5, bI_e0, bI_n0, b_ft, bI_01, bI_t, bI_f, i10, i01, if_true, if_false, Bool.true_eq_false, Bool.false_eq_true, or_true, true_or, not_true_eq_false, not_false_eq_true, ls1s, q1, uI_0, e0, e1, e2, e3, show (nI 16 = (0 : Int32)) = False from by decide, show (nI 16 = (8 : Int32)) = False from by decide, show (nI 16 = (16 : Int32)) = True from by decide, show ((10 : Nat) = 11) = False from by simp, show ((11 : Nat) = 10) = False from by simp]
                exact m1
              · simp (disch := omega) only [C_X12_sheet, R_X12_sheet_p0, R_X12_sheet_p1, SB, mw_o, mw_a, mo_g, mo_p, mo_pz, mw_so, mw_sa, upA_eq, upA_upA, upd_upd, m_isKnot, m_isSheet, mi_1, mi_3, mi_5, mi_6, mi_7, mi_69, mi_99, mi_100, mi_255, m_f1, m_f2, m_f3, m_f4, m_f5, bI_e0, bI_n0, b_ft, bI_01, bI_t, bI_f, i10, i01, if_true, if_false, Bool.true_eq_false, Bool.false_eq_true, or_true, true_or, not_true_eq_false, not_false_eq_true, ls1s, q1, uI_0, e0, e1, e2, e3, show (nI 32 = (0 : Int32)) = False from by decide, show (nI 32 = (8 : Int32)) = False from by decide, show (nI 32 = (16 : Int32)) = False from by decide, show (nI 32 = (32 : Int32)) = True from by decide, show ((10 : Nat) = 11) = False from by simp, show ((11 : Nat) = 10) = False from by simp]
                exact m1
    · have n0 : (b = 0) = False := eq_false (fun z => qb (Or.inl z))
      have n8 : (b = 8) = False := eq_false (fun z => qb (Or.inr (Or.inl z)))
      have n16 : (b = 16) = False := eq_false (fun z => qb (Or.inr (Or.inr (Or.inl z))))
      have n32 : (b = 32) = False := eq_false (fun z => qb (Or.inr (Or.inr (Or.inr z))))
      refine JS.er hC hM (k := 1) (by decide) ?_ (fun w => ?_)
      · simp only [C_X11_sheet, R_X11_sheet, SB, hC.f0, hC.f1, hC.f2, hC.f3, hC.f4, hC.f5, hC.f6, hC.f7, hC.f8, hC.f9, clK_gf hC.f0, s_isKnot, s_isColour, s_isKindAndM, s_isUse, iw_1, iw_3, iw_6, iw_7, iw_99, iw_100, iw_255, s_rf1 hC, s_rf2 hC, s_rf3 hC, s_rf4 hC, s_rf5 hC, bI_e0, bI_n0, b_ft, bI_01, bI_t, bI_f, i10, i01, if_true, if_false, Bool.true_eq_false, Bool.false_eq_true, or_true, true_or, not_true_eq_false, not_false_eq_true, ls1s, so, n0, n8, n16, n32]
      · simp only [C_X12_sheet, R_X12_sheet_p0, R_X12_sheet_p1, SB, mw_o, mw_a, mo_g, mo_p, mo_pz, mw_so, mw_sa, upA_eq, upA_upA, upd_upd, m_isKnot, m_isSheet, mi_1, mi_3, mi_5, mi_6, mi_7, mi_69, mi_99, mi_100, mi_255, m_f1, m_f2, m_f3, m_f4, m_f5, bI_e0, bI_n0, b_ft, bI_01, bI_t, bI_f, i10, i01, if_true, if_false, Bool.true_eq_false, Bool.false_eq_true, or_true, true_or, not_true_eq_false, not_false_eq_true, ls1s, q1, n0, n8, n16, n32]
  · have so := s_sheetOf_n hC q1 60
    refine JS.er hC hM (k := 1) (by decide) ?_ (fun w => ?_)
    · simp only [C_X11_sheet, R_X11_sheet, SB, hC.f0, hC.f1, hC.f2, hC.f3, hC.f4, hC.f5, hC.f6, hC.f7, hC.f8, hC.f9, clK_gf hC.f0, s_isKnot, s_isColour, s_isKindAndM, s_isUse, iw_1, iw_3, iw_6, iw_7, iw_99, iw_100, iw_255, s_rf1 hC, s_rf2 hC, s_rf3 hC, s_rf4 hC, s_rf5 hC, bI_e0, bI_n0, b_ft, bI_01, bI_t, bI_f, i10, i01, if_true, if_false, Bool.true_eq_false, Bool.false_eq_true, or_true, true_or, not_true_eq_false, not_false_eq_true, ls1s, so]
    · simp only [C_X12_sheet, R_X12_sheet_p0, R_X12_sheet_p1, SB, mw_o, mw_a, mo_g, mo_p, mo_pz, mw_so, mw_sa, upA_eq, upA_upA, upd_upd, m_isKnot, m_isSheet, mi_1, mi_3, mi_5, mi_6, mi_7, mi_69, mi_99, mi_100, mi_255, m_f1, m_f2, m_f3, m_f4, m_f5, bI_e0, bI_n0, b_ft, bI_01, bI_t, bI_f, i10, i01, if_true, if_false, Bool.true_eq_false, Bool.false_eq_true, or_true, true_or, not_true_eq_false, not_false_eq_true, ls1s, inR_f q1]
