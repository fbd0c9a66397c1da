/-! ===== Country: a day ===== -/
theorem StA.keep {w v : AH} {bod : Nat → Nat} (h : StA w bod) (e1 : hg v 1 = hg w 1) (e2 : hg v 2 = hg w 2) : StA v bod := by
  unfold StA
  rw [e1, e2]
  exact h
def Co.upd3 (S : Co) (col wear : Nat → Nat) (wk : Nat → Nat → Nat) : Co := (col, wear, wk, S.2.2.2)
theorem CoAt.mk3 {w v : AH} {g : Nat} {S : Co} {col wear : Nat → Nat} {wk : Nat → Nat → Nat} (h : CoAt w g S) (e : ∀ j, g ≤ j → j < g + 17 → j ≠ g + 2 → j ≠ g + 3 → hg v j = hg w j) (hc : CarAt v (g + 1) col wear) (hk : ∀ k, k < 5 → WkAt v (g + 17 + k) (wk k 0) (wk k 1) (wk k 2) (wk k 3)) : CoAt v g (S.upd3 col wear wk) := by
  have e0 := e g (Nat.le_refl _) (by omega) (by omega) (by omega)
  refine ⟨by rw [e0]; exact h.k0, by rw [e0]; exact h.k1, by rw [e0]; exact h.k2, by rw [e0]; exact h.k3, by rw [e0]; exact h.k4, by rw [e0]; exact h.k5, by rw [e0]; exact h.k6, by rw [e0]; exact h.k7, by rw [e0]; exact h.k8, hc, by rw [e (g + 4) (by omega) (by omega) (by omega) (by omega)]; exact h.wks, hk, h.pat.keep (e _ (by omega) (by omega) (by omega) (by omega)) (e _ (by omega) (by omega) (by omega) (by omega)) (e _ (by omega) (by omega) (by omega) (by omega)) (e _ (by omega) (by omega) (by omega) (by omega)), h.wor.keep (e _ (by omega) (by omega) (by omega) (by omega)) (e _ (by omega) (by omega) (by omega) (by omega)) (e _ (by omega) (by omega) (by omega) (by omega)) (e _ (by omega) (by omega) (by omega) (by omega)), h.tape.keep (e _ (by omega) (by omega) (by omega) (by omega)) (e _ (by omega) (by omega) (by omega) (by omega)), h.wait.keep (e _ (by omega) (by omega) (by omega) (by omega)) (e _ (by omega) (by omega) (by omega) (by omega)), h.rn, h.rd⟩
def setPW (wk : Nat → Nat → Nat) (i p y : Nat) : Nat → Nat → Nat := fun k x => if k = i then (if x = 2 then p else if x = 3 then y else wk k x) else wk k x
def dyP (S : Co) (i : Nat) : Nat × Nat := stP (S.wk i 0) S.day S.col (S.wk i 2) (S.wk i 3)
def dyW (S : Co) (i : Nat) : Nat → Nat := updN S.wear (dyP S i).1 (min (S.wear (dyP S i).1 + wrN (S.wk i 0) (S.wk i 1)) 99)
def dyC (S : Co) (i : Nat) : Nat → Nat := if etB (S.wk i 0) (S.wk i 1) (dyW S i (dyP S i).1) = true then updN S.col (dyP S i).1 0 else S.col
/-- what one walker does in a day -/
def dyF (i : Nat) (S : Co) : Co := S.upd3 (dyC S i) (dyW S i) (setPW S.wk i (dyP S i).1 (dyP S i).2)
def CoP (g : Nat) : Nat → Prop := fun j => g ≤ j ∧ j < g + 22
theorem dy_one {u : AH} {bod : Nat → Nat} {g : Nat} {S : Co} (hS : StA u bod) (hg0 : 2 < g) (h : CoAt u g S) {i : Nat} (hi : i < 5) (lv : Nat) (o : Option Value) : ∃ v, Ex M_X1_passDay lv 21 [some (.ref g), some (.int (nI i)), o] [.ref (g + 17 + i)] u = Ex M_X1_passDay lv 84 [some (.ref g), some (.int (nI i)), some (.ref (g + 17 + i))] [] v ∧ CoAt v g (dyF i S) ∧ Fr (CoP g) u v := by
  have hw := h.wk i hi
  have hd := h.rd
  obtain ⟨e1, c1, w1⟩ := s_step hS h.car hw (show 2 < g + 17 + i by omega) (show S.day < 2147483648 by omega) 60
  have w1 : WkAt (hs u (g + 17 + i) e1) (g + 17 + i) (S.wk i 0) (S.wk i 1) (dyP S i).1 (dyP S i).2 := w1
  have x0 : clK e1 = 9 := by have := clK_gf w1.p0; rw [hs_eq] at this; exact this
  have x2 : gf e1 9 2 = some (.int (nI (dyP S i).1)) := by have := w1.p2; rw [hs_eq] at this; exact this
  have C1 : CoAt (hs u (g + 17 + i) e1) g (S.upd3 S.col S.wear (setPW S.wk i (dyP S i).1 (dyP S i).2)) := by
    refine h.mk3 (fun j _ _ _ _ => hs_ne _ _ (by omega)) (h.car.keep (hs_ne _ _ (by omega)) (hs_ne _ _ (by omega)) (hs_ne _ _ (by omega))) ?_
    intro k hk
    by_cases q : k = i
    · subst q
      simp only [setPW, if_true, show ((0 : Nat) = 2) = False from by simp, show ((0 : Nat) = 3) = False from by simp, show ((1 : Nat) = 2) = False from by simp, show ((1 : Nat) = 3) = False from by simp, show ((3 : Nat) = 2) = False from by simp, if_false]
      exact w1
    · simp only [setPW, q, if_false]
      exact (h.wk k hk).keep (hs_ne _ _ (by omega))
  have S1 : StA (hs u (g + 17 + i) e1) bod := hS.keep (hs_ne _ _ (by omega)) (hs_ne _ _ (by omega))
  have hp : (dyP S i).1 < 36 := w1.r2
  have hwr : S.wear (dyP S i).1 < 100 := h.car.r1 _ hp
  have hm := hw.r1
  have hwn : wrN (S.wk i 0) (S.wk i 1) < 100 := by unfold wrN; repeat (first | omega | split)
  obtain ⟨e2, c2, w2⟩ := s_setWear (v := S.wear (dyP S i).1 + wrN (S.wk i 0) (S.wk i 1)) C1.car hp (by omega) 60
  have W2 : WkAt (hs (hs u (g + 17 + i) e1) (g + 1 + 2) e2) (g + 17 + i) (S.wk i 0) (S.wk i 1) (dyP S i).1 (dyP S i).2 := w1.keep (hs_ne _ _ (by omega))
  have C2 : CoAt (hs (hs u (g + 17 + i) e1) (g + 1 + 2) e2) g (S.upd3 S.col (dyW S i) (setPW S.wk i (dyP S i).1 (dyP S i).2)) :=
    C1.mk3 (fun j _ _ _ _ => hs_ne _ _ (by omega)) w2 (fun k hk => (C1.wk k hk).keep (hs_ne _ _ (by omega)))
  have r3 := s_wearing S1 w1 60
  have r4 : Call M_X10_wouldEat 60 [.ref (g + 17 + i), .ref (g + 1)] (hs (hs u (g + 17 + i) e1) (g + 1 + 2) e2) = some (some (.int (bI (etB (S.wk i 0) (S.wk i 1) (dyW S i (dyP S i).1)))), hs (hs u (g + 17 + i) e1) (g + 1 + 2) e2) := s_wouldEat w2 W2 60
  have r5 : Call M_X0_wearOf 60 [.ref (g + 1), .int (nI (dyP S i).1)] (hs u (g + 17 + i) e1) = some (some (.int (nI (S.wear (dyP S i).1))), hs u (g + 17 + i) e1) := s_wearOf C1.car hp 60
  by_cases q : etB (S.wk i 0) (S.wk i 1) (dyW S i (dyP S i).1) = true
  · obtain ⟨e3, c3, w3⟩ := s_setColour C2.car hp (show 0 < 8 by decide) 60
    refine ⟨hs (hs (hs u (g + 17 + i) e1) (g + 1 + 2) e2) (g + 1 + 1) e3, ?_, ?_, ?_⟩
    · simp only [R_X1_passDay_p0, SB, ls1s, h.k0, h.k7, clK_gf hw.p0, c1, C1.k0, x0, x2, clK_gf C1.car.p0, r5, r3, nI_add, c2, C2.k0, clK_gf W2.p0, r4, q, bI_e0, Bool.true_eq_false, W2.p2, clK_gf C2.car.p0, show (0 : Int32) = nI 0 from rfl, show (bI true = nI 0) = False from eq_false (by decide), c3, if_true, if_false]
    · have := C2.mk3 (fun j _ _ _ _ => hs_ne _ _ (by omega)) w3 (fun k hk => (C2.wk k hk).keep (hs_ne _ _ (by omega)))
      unfold dyF dyC
      rw [if_pos q]
      exact this
    · exact ((Fr.hs (show CoP g (g + 17 + i) from ⟨by omega, by omega⟩) e1).trans (Fr.hs (show CoP g (g + 1 + 2) from ⟨by omega, by omega⟩) e2)).trans (Fr.hs (show CoP g (g + 1 + 1) from ⟨by omega, by omega⟩) e3)
  · refine ⟨hs (hs u (g + 17 + i) e1) (g + 1 + 2) e2, ?_, ?_, ?_⟩
    · simp only [R_X1_passDay_p0, SB, ls1s, h.k0, h.k7, clK_gf hw.p0, c1, C1.k0, x0, x2, clK_gf C1.car.p0, r5, r3, nI_add, c2, C2.k0, clK_gf W2.p0, r4, Bool.eq_false_iff.mpr q, bI_e0, if_true]
    · unfold dyF dyC
      rw [if_neg q]
      exact C2
    · exact (Fr.hs (show CoP g (g + 17 + i) from ⟨by omega, by omega⟩) e1).trans (Fr.hs (show CoP g (g + 1 + 2) from ⟨by omega, by omega⟩) e2)
theorem dyF_nw (S : Co) (i : Nat) : (dyF i S).nw = S.nw := rfl
theorem dyF_day (S : Co) (i : Nat) : (dyF i S).day = S.day := rfl
def Co.next (S : Co) : Co := (S.1, S.2.1, S.2.2.1, (S.nw, S.day + 1, S.z), S.2.2.2.2)
def dyN (S : Co) : Co := Co.next (foldN dyF S.nw S)
theorem CoAt.mk4 {w : AH} {g : Nat} {S : Co} (h : CoAt w g S) {e : va_E} (n d : Nat) (z : Int32) (f : ∀ k, k < 6 → gf e 1 k = gf (hg w g) 1 k) (f6 : gf e 1 6 = some (.int (nI n))) (f7 : gf e 1 7 = some (.int (nI d))) (f8 : gf e 1 8 = some (.int z)) (hn : n ≤ 5) (hd : d < 100000) : CoAt (hs w g e) g (S.1, S.2.1, S.2.2.1, (n, d, z), S.2.2.2.2) := by
  have q : ∀ j, g < j → hg (hs w g e) j = hg w j := fun j hj => hs_ne _ _ (by omega)
  refine ⟨?_, ?_, ?_, ?_, ?_, ?_, ?_, ?_, ?_, h.car.keep (q _ (by omega)) (q _ (by omega)) (q _ (by omega)), by rw [q _ (by omega)]; exact h.wks, fun k hk => (h.wk k hk).keep (q _ (by omega)), h.pat.keep (q _ (by omega)) (q _ (by omega)) (q _ (by omega)) (q _ (by omega)), h.wor.keep (q _ (by omega)) (q _ (by omega)) (q _ (by omega)) (q _ (by omega)), h.tape.keep (q _ (by omega)) (q _ (by omega)), h.wait.keep (q _ (by omega)) (q _ (by omega)), hn, hd⟩
  · rw [hs_eq, f 0 (by decide)]; exact h.k0
  · rw [hs_eq, f 1 (by decide)]; exact h.k1
  · rw [hs_eq, f 2 (by decide)]; exact h.k2
  · rw [hs_eq, f 3 (by decide)]; exact h.k3
  · rw [hs_eq, f 4 (by decide)]; exact h.k4
  · rw [hs_eq, f 5 (by decide)]; exact h.k5
  · rw [hs_eq]; exact f6
  · rw [hs_eq]; exact f7
  · rw [hs_eq]; exact f8
theorem s_passDay {w : AH} {bod : Nat → Nat} {g : Nat} {S : Co} (hS : StA w bod) (hg0 : 2 < g) (h : CoAt w g S) (hd : S.day + 1 < 100000) (lv : Nat) : ∃ v, Call M_X1_passDay lv [.ref g] w = some (none, v) ∧ CoAt v g (dyN S) ∧ Fr (CoP g) w v := by
  obtain ⟨v, h1, h2, hF, h4, h5⟩ := for_ex (fun i T u => Ex M_X1_passDay lv 2 [some (.ref g), some (.int (nI i)), if i = 0 then none else some (.ref (g + 17 + (i - 1)))] [] u) dyF (fun _ T u => CoAt u g T ∧ Fr (CoP g) w u ∧ T.nw = S.nw ∧ T.day = S.day) S.nw (by
    intro i T u hi hI
    obtain ⟨i1, i2, i3, i4⟩ := hI
    have hn := h.rn
    have hu : StA u bod := hS.keep (i2.2.2 1 (fun x => by have := x.1; omega)) (i2.2.2 2 (fun x => by have := x.1; omega))
    obtain ⟨v, q1, q2, q3⟩ := dy_one hu hg0 i1 (show i < 5 by omega) lv (if i = 0 then none else some (.ref (g + 17 + (i - 1))))
    refine ⟨v, ?_, q2, i2.trans q3, i3, i4⟩
    obtain ⟨W, e, hW⟩ := i1.wks
    have e1 : (nI S.nw ≤ nI i) = False := by rw [le_nI (by omega) (by omega)]; simp; omega
    have e2 : ((5 : Int32) ≤ nI i) = False := by rw [show (5 : Int32) = nI 5 from rfl, le_nI (by decide) (by omega)]; simp; omega
    have k6 := i1.k6
    rw [i3] at k6
    rw [H_X1_passDay_2]
    simp only [R_X1_passDay_p0, SB, ls1s, k6, e1, e2, if_true, if_false, i1.k1, e, aQ_3 (show i < 5 by omega) (show 5 ≤ 2147483648 by decide), hW i (by omega), nI_1, Nat.succ_ne_zero, Nat.add_sub_cancel] at q1 ⊢
    exact q1) S.nw (Nat.le_refl _) S w ⟨h, Fr.refl _ _, rfl, rfl⟩
  have h3 : CoAt v g (foldN dyF S.nw S) := h2
  have hk6 := h3.k6
  rw [h4] at hk6
  have hk7 := h3.k7
  rw [h5] at hk7
  refine ⟨hs v g (fput (hg v g) 7 (.int (nI (S.day + 1)))), ?_, ?_, ?_⟩
  · simp only [C_X1_passDay, R_X1_passDay_p0, SB, ls1s, show (0 : Int32) = nI 0 from rfl]
    refine (show _ = _ from rfl).trans (h1.trans ?_)
    rw [H_X1_passDay_2]
    simp only [R_X1_passDay_p0, R_X1_passDay_p1, SB, hk6, Int32.le_refl, if_true, hk7, pf_i hk7, nI_1]
  · have hd2 : (foldN dyF S.nw S).day = S.day := h5
    have := h3.mk4 (e := fput (hg v g) 7 (.int (nI (S.day + 1)))) (foldN dyF S.nw S).nw (S.day + 1) (foldN dyF S.nw S).z (fun k hk => gf_put_n (by omega)) (by rw [gf_put_n (by decide)]; exact h3.k6) (gf_put_s h3.k7) (by rw [gf_put_n (by decide)]; exact h3.k8) h3.rn hd
    unfold dyN Co.next
    rw [hd2]
    exact this
  · exact Fr.trans hF (Fr.hs (show CoP g g from ⟨by omega, by omega⟩) _)
/-- the number drawn from z -/
def drN (z : Int32) : Nat := z.toBitVec.toNat / 256
def zN (z : Int32) : Int32 := z * 1103515245 + 12345
theorem drN_lt (z : Int32) : drN z < 2 ^ 24 := by
  have := z.toBitVec.isLt
  unfold drN
  omega
theorem ushr8 (x : Int32) : (x.toUInt32 >>> ((8 : Int32).toUInt32 &&& Int32.toUInt32 31)).toInt32 = nI (drN x) := by
  apply Int32.toBitVec_inj.mp
  apply BitVec.eq_of_toNat_eq
  show (x.toUInt32 >>> ((8 : Int32).toUInt32 &&& Int32.toUInt32 31)).toNat = (BitVec.ofNat 32 (drN x)).toNat
  have h1 : ((8 : Int32).toUInt32 &&& Int32.toUInt32 31).toNat = 8 := by decide +kernel
  have h2 : x.toUInt32.toNat = x.toBitVec.toNat := rfl
  have h3 := drN_lt x
  rw [UInt32.toNat_shiftRight, h1, h2, Nat.shiftRight_eq_div_pow, BitVec.toNat_ofNat, Nat.mod_eq_of_lt (show drN x < 2 ^ 32 by omega)]
  rfl
theorem s_draw {w : AH} {g : Nat} {S : Co} (h : CoAt w g S) (lv : Nat) : ∃ v, Call M_X1_draw lv [.ref g] w = some (some (.int (nI (drN (zN S.z)))), v) ∧ CoAt v g (S.1, S.2.1, S.2.2.1, (S.nw, S.day, zN S.z), S.2.2.2.2) ∧ Fr (CoP g) w v := by
  refine ⟨hs w g (fput (hg w g) 8 (.int (zN S.z))), ?_, ?_, Fr.hs ⟨by omega, by omega⟩ _⟩
  · have e1 : S.z * 1103515245 + 12345 = zN S.z := rfl
    have e2 : gf (fput (hg w g) 8 (.int (zN S.z))) 1 8 = some (.int (zN S.z)) := gf_put_s h.k8
    simp only [C_X1_draw, R_X1_draw, SB, h.k8, pf_i h.k8, e1, e2, ushr8, if_true]
  · exact h.mk4 (e := fput (hg w g) 8 (.int (zN S.z))) S.nw S.day (zN S.z) (fun k hk => gf_put_n (by omega)) (by rw [gf_put_n (by decide)]; exact h.k6) (by rw [gf_put_n (by decide)]; exact h.k7) (gf_put_s h.k8) h.rn h.rd
def dlS (S : Co) : Co := (updN S.1 (drN (zN S.z) % 36) (drN (zN (zN S.z)) % 8), S.2.1, S.2.2.1, (S.nw, S.day, zN (zN S.z)), S.2.2.2.2)
def dlN (S : Co) : Co := dyN (dlS S)
theorem s_draw2 {w : AH} {g : Nat} {S : Co} (h : CoAt w g S) (z : Int32) (hz : z = zN S.z) (lv : Nat) : ∃ v, Call M_X1_draw lv [.ref g] w = some (some (.int (nI (drN z))), v) ∧ CoAt v g (S.1, S.2.1, S.2.2.1, (S.nw, S.day, z), S.2.2.2.2) ∧ Fr (CoP g) w v := by
  rw [hz]
  exact s_draw h lv
theorem s_passLooseDay {w : AH} {bod : Nat → Nat} {g : Nat} {S : Co} (hS : StA w bod) (hg0 : 2 < g) (h : CoAt w g S) (hd : S.day + 1 < 100000) (lv : Nat) : ∃ v, Call M_X1_passLooseDay lv [.ref g] w = some (none, v) ∧ CoAt v g (dlN S) ∧ Fr (CoP g) w v := by
  obtain ⟨z1, hz1⟩ : ∃ z, z = zN S.z := ⟨_, rfl⟩
  obtain ⟨z2, hz2⟩ : ∃ z, z = zN z1 := ⟨_, rfl⟩
  obtain ⟨v1, a1, a2, a3⟩ := s_draw2 h z1 hz1 60
  obtain ⟨v2, b1, b2, b3⟩ := s_draw2 a2 z2 hz2 60
  have b2 : CoAt v2 g (S.1, S.2.1, S.2.2.1, (S.nw, S.day, z2), S.2.2.2.2) := b2
  obtain ⟨e3, c1, c2⟩ := s_setColour b2.car (show drN z1 % 36 < 36 from Nat.mod_lt _ (by decide)) (show drN z2 % 8 < 8 from Nat.mod_lt _ (by decide)) 60
  have C3 := b2.mk3 (v := hs v2 (g + 1 + 1) e3) (fun j _ _ _ _ => hs_ne _ _ (by omega)) c2 (fun k hk => (b2.wk k hk).keep (hs_ne _ _ (by omega)))
  have C3 : CoAt (hs v2 (g + 1 + 1) e3) g (updN S.1 (drN z1 % 36) (drN z2 % 8), S.2.1, S.2.2.1, (S.nw, S.day, z2), S.2.2.2.2) := C3
  have F3 : Fr (CoP g) w (hs v2 (g + 1 + 1) e3) := (a3.trans b3).trans (Fr.hs ⟨by omega, by omega⟩ e3)
  have S3 : StA (hs v2 (g + 1 + 1) e3) bod := hS.keep (F3.2.2 1 (fun x => by have := x.1; omega)) (F3.2.2 2 (fun x => by have := x.1; omega))
  obtain ⟨v4, d1, d2, d3⟩ := s_passDay S3 hg0 C3 hd 60
  refine ⟨v4, ?_, by unfold dlN dlS; rw [← hz1, ← hz2]; exact d2, F3.trans d3⟩
  have l1 := drN_lt z1
  have l2 := drN_lt z2
  have r36 : nI (drN z1) - nI (drN z1) / 36 * 36 = nI (drN z1 % 36) := pk_rem (show drN z1 < 2 ^ 31 by omega) (show 0 < 36 by decide) (show 36 < 2 ^ 31 by decide)
  have r8 : nI (drN z2) - nI (drN z2) / 8 * 8 = nI (drN z2 % 8) := pk_rem (show drN z2 < 2 ^ 31 by omega) (show 0 < 8 by decide) (show 8 < 2 ^ 31 by decide)
  simp only [C_X1_passLooseDay, R_X1_passLooseDay, SB, clK_gf h.k0, a1, clK_gf a2.k0, b1, show ((36 : Int32) = 0) = False from by simp, show ((8 : Int32) = 0) = False from by simp, if_true, if_false, r36, r8, ls1s, b2.k0, clK_gf b2.car.p0, c1, clK_gf C3.k0, d1]
def adS (S : Co) (km kn : Nat) : Co := (S.1, S.2.1, (fun k x => if k = S.nw then (if x = 0 then km / 10 else if x = 1 then km % 10 else if x = 2 then kn else 1) else S.wk k x), (S.nw + 1, S.day, S.z), S.2.2.2.2)
theorem s_addWalker {w : AH} {g : Nat} {S : Co} (h : CoAt w g S) {km kn : Nat} (h1 : km < 70) (h2 : kn < 36) (lv : Nat) : ∃ v, Call M_X1_addWalker lv [.ref g, .int (nI km), .int (nI kn)] w = some (some (.int (if S.nw < 5 then nI S.nw else -1)), v) ∧ CoAt v g (if S.nw < 5 then adS S km kn else S) ∧ Fr (CoP g) w v := by
  have hn := h.rn
  have q1 : ((0 : Int32).toInt ≤ (nI S.nw).toInt ∧ (nI S.nw).toInt ≤ (4 : Int32).toInt) = (S.nw < 5) := by
    rw [nI_t (by omega), show (0 : Int32).toInt = 0 from rfl, show (4 : Int32).toInt = 4 from rfl]
    apply propext; omega
  by_cases q : S.nw < 5
  · have hw := h.wk S.nw q
    obtain ⟨W, e, hW⟩ := h.wks
    have d10 : nI km / 10 = nI (km / 10) := pk_div (show km < 2 ^ 31 by omega) (show 0 < 10 by decide) (show 10 < 2 ^ 31 by decide)
    have r10 : nI km - nI (km / 10) * 10 = nI (km % 10) := pk_rem2 (show km < 2 ^ 31 by omega) (show 0 < 10 by decide) (show 10 < 2 ^ 31 by decide)
    have f0 := hw.p0
    have f1 : gf (fput (hg w (g + 17 + S.nw)) 0 (.int (nI (km / 10)))) 9 1 = some (.int (nI (S.wk S.nw 1))) := by rw [gf_put_n (by decide)]; exact hw.p1
    have f2 : gf (fput (fput (hg w (g + 17 + S.nw)) 0 (.int (nI (km / 10)))) 1 (.int (nI (km % 10)))) 9 2 = some (.int (nI (S.wk S.nw 2))) := by rw [gf_put_n (by decide), gf_put_n (by decide)]; exact hw.p2
    have f3 : gf (fput (fput (fput (hg w (g + 17 + S.nw)) 0 (.int (nI (km / 10)))) 1 (.int (nI (km % 10)))) 2 (.int (nI kn))) 9 3 = some (.int (nI (S.wk S.nw 3))) := by rw [gf_put_n (by decide), gf_put_n (by decide), gf_put_n (by decide)]; exact hw.p3
    obtain ⟨e4, he4⟩ : ∃ e, e = fput (fput (fput (fput (hg w (g + 17 + S.nw)) 0 (.int (nI (km / 10)))) 1 (.int (nI (km % 10)))) 2 (.int (nI kn))) 3 (.int 1) := ⟨_, rfl⟩
    have W4 : WkAt (hs w (g + 17 + S.nw) e4) (g + 17 + S.nw) (km / 10) (km % 10) kn 1 := by
      refine ⟨?_, ?_, ?_, ?_, by omega, by omega, h2, by decide⟩
      · rw [hs_eq, he4, gf_put_n (by decide), gf_put_n (by decide), gf_put_n (by decide)]; exact gf_put_s f0
      · rw [hs_eq, he4, gf_put_n (by decide), gf_put_n (by decide)]; exact gf_put_s f1
      · rw [hs_eq, he4, gf_put_n (by decide)]; exact gf_put_s f2
      · rw [hs_eq, he4]; exact gf_put_s f3
    have C1 : CoAt (hs w (g + 17 + S.nw) e4) g (S.upd3 S.col S.wear (adS S km kn).wk) := by
      refine h.mk3 (fun j _ _ _ _ => hs_ne _ _ (by omega)) (h.car.keep (hs_ne _ _ (by omega)) (hs_ne _ _ (by omega)) (hs_ne _ _ (by omega))) ?_
      intro k hk
      by_cases c : k = S.nw
      · subst c
        simp only [adS, Co.wk, if_true, show ((1 : Nat) = 0) = False from by simp, show ((2 : Nat) = 0) = False from by simp, show ((2 : Nat) = 1) = False from by simp, show ((3 : Nat) = 0) = False from by simp, show ((3 : Nat) = 1) = False from by simp, show ((3 : Nat) = 2) = False from by simp, if_false]
        exact W4
      · simp only [adS, Co.wk, c, if_false]
        exact (h.wk k hk).keep (hs_ne _ _ (by omega))
    have hne : ∀ e, hg (hs w (g + 17 + S.nw) e) g = hg w g := fun e => hs_ne _ _ (by omega)
    refine ⟨hs (hs w (g + 17 + S.nw) e4) g (fput (hg w g) 6 (.int (nI (S.nw + 1)))), ?_, ?_, (Fr.hs (show CoP g (g + 17 + S.nw) from ⟨by omega, by omega⟩) e4).trans (Fr.hs (show CoP g g from ⟨by omega, by omega⟩) _)⟩
    · have g6 : gf (fput (hg w g) 6 (.int (nI (S.nw + 1)))) 1 6 = some (.int (nI (S.nw + 1))) := gf_put_s h.k6
      simp only [C_X1_addWalker, R_X1_addWalker, SB, h.k6, h.k1, e, aQ_3 q (show 5 ≤ 2147483648 by decide), hW S.nw q, if_true, s_isWithin, q1, q, decide_true, bI_t, show ((1 : Int32) = 0) = False from by simp, not_false_eq_true, ls1s, show ((10 : Int32) = 0) = False from by simp, if_false, d10, r10, pf_i f0, pf_i f1, pf_i f2, pf_i f3, hs_hs, hne, pf_i h.k6, nI_1, g6, nI_pred, he4]
    · rw [if_pos q]
      have := C1.mk4 (e := fput (hg w g) 6 (.int (nI (S.nw + 1)))) (S.nw + 1) S.day S.z (fun k hk => by rw [gf_put_n (by omega), hne]) (gf_put_s h.k6) (by rw [gf_put_n (by decide)]; exact h.k7) (by rw [gf_put_n (by decide)]; exact h.k8) (by omega) h.rd
      exact this
  · refine ⟨w, ?_, ?_, Fr.refl _ _⟩
    · simp only [C_X1_addWalker, R_X1_addWalker, SB, h.k6, if_true, s_isWithin, q1, q, decide_false, bI_f, not_true_eq_false, if_false]
    · rw [if_neg q]; exact h
