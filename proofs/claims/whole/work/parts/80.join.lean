/-! ===== both sides together ===== -/
abbrev ShS : Type := Nat → Nat × Nat × (Nat → Int32)
/-- now, kept, images, errors told, the trace, sheets -/
abbrev Cx : Type := Co × Co × Int32 × (Nat → Int32) × (Nat × (Nat → Int32)) × ShS
def bdN (k : Nat) : Nat := ([10, 11, 12, 13, 20, 0, 0, 0, 0, 30, 0, 0, 0, 0, 40, 0, 0, 0, 0, 50, 0, 60, 0, 0, 0, 0, 70, 71] : List Nat).getD k 0
def RoA (w : AH) : Prop := gf (hg w 105) 5 0 = some (.ref 106) ∧ gf (hg w 105) 5 1 = some (.ref 107) ∧ gf (hg w 105) 5 2 = some (.ref 108) ∧ ∀ j, j < 3 → ∃ G : Nat → Int64, hg w (106 + j) = .inl (1, 4, .inr (.inl G))
def VoA (w : AH) (t : Nat × (Nat → Int32)) : Prop := gf (hg w 102) 8 0 = some (.ref 103) ∧ (∃ k n m : Int32, gf (hg w 102) 8 1 = some (.int k) ∧ gf (hg w 102) 8 2 = some (.int n) ∧ gf (hg w 102) 8 3 = some (.int m)) ∧ RowAt w 103 104 40 t.1 t.2
def ClAt (w : AH) (X : Cx) : Prop := (gf (hg w 32) 10 0 = some (.ref 33)) ∧ (gf (hg w 32) 10 1 = some (.ref 55)) ∧ (gf (hg w 32) 10 2 = some (.ref 77)) ∧ (gf (hg w 32) 10 3 = some (.ref 99)) ∧ (gf (hg w 32) 10 4 = some (.ref 102)) ∧ (gf (hg w 32) 10 5 = some (.ref 105)) ∧ (gf (hg w 32) 10 6 = some (.ref 109)) ∧ (gf (hg w 32) 10 7 = some (.ref 113)) ∧ (gf (hg w 32) 10 8 = some (.ref 114)) ∧ (gf (hg w 32) 10 9 = some (.int X.2.2.1)) ∧ (CoAt w 33 X.1) ∧ (CoAt w 55 X.2.1) ∧ (∃ T, CoAt w 77 T) ∧ (∃ L f, RdAt w L f) ∧ (VoA w X.2.2.2.2.1) ∧ (RoA w) ∧ (∃ sets row brow best, DyAt w 109 sets row brow best) ∧ (∃ W : Nat → Option Nat, hg w 113 = .inl (4, 4, .inr (.inr (.inr (.inr W)))) ∧ ∀ k, k < 4 → W k = some (115 + 2 * k)) ∧ (∀ k, k < 4 → ShAt w (115 + 2 * k) (X.2.2.2.2.2 k).1 (X.2.2.2.2.2 k).2.1 (X.2.2.2.2.2 k).2.2) ∧ (hg w 114 = .inl (0, 6, .inl X.2.2.2.1)) ∧ (StA w bdN) ∧ (StrA w)
theorem ClAt.f0 {w : AH} {X : Cx} (h : ClAt w X) : gf (hg w 32) 10 0 = some (.ref 33) := h.1
theorem ClAt.f1 {w : AH} {X : Cx} (h : ClAt w X) : gf (hg w 32) 10 1 = some (.ref 55) := h.2.1
theorem ClAt.f2 {w : AH} {X : Cx} (h : ClAt w X) : gf (hg w 32) 10 2 = some (.ref 77) := h.2.2.1
theorem ClAt.f3 {w : AH} {X : Cx} (h : ClAt w X) : gf (hg w 32) 10 3 = some (.ref 99) := h.2.2.2.1
theorem ClAt.f4 {w : AH} {X : Cx} (h : ClAt w X) : gf (hg w 32) 10 4 = some (.ref 102) := h.2.2.2.2.1
theorem ClAt.f5 {w : AH} {X : Cx} (h : ClAt w X) : gf (hg w 32) 10 5 = some (.ref 105) := h.2.2.2.2.2.1
theorem ClAt.f6 {w : AH} {X : Cx} (h : ClAt w X) : gf (hg w 32) 10 6 = some (.ref 109) := h.2.2.2.2.2.2.1
theorem ClAt.f7 {w : AH} {X : Cx} (h : ClAt w X) : gf (hg w 32) 10 7 = some (.ref 113) := h.2.2.2.2.2.2.2.1
theorem ClAt.f8 {w : AH} {X : Cx} (h : ClAt w X) : gf (hg w 32) 10 8 = some (.ref 114) := h.2.2.2.2.2.2.2.2.1
theorem ClAt.f9 {w : AH} {X : Cx} (h : ClAt w X) : gf (hg w 32) 10 9 = some (.int X.2.2.1) := h.2.2.2.2.2.2.2.2.2.1
theorem ClAt.now {w : AH} {X : Cx} (h : ClAt w X) : CoAt w 33 X.1 := h.2.2.2.2.2.2.2.2.2.2.1
theorem ClAt.kept {w : AH} {X : Cx} (h : ClAt w X) : CoAt w 55 X.2.1 := h.2.2.2.2.2.2.2.2.2.2.2.1
theorem ClAt.tho {w : AH} {X : Cx} (h : ClAt w X) : ∃ T, CoAt w 77 T := h.2.2.2.2.2.2.2.2.2.2.2.2.1
theorem ClAt.rd {w : AH} {X : Cx} (h : ClAt w X) : ∃ L f, RdAt w L f := h.2.2.2.2.2.2.2.2.2.2.2.2.2.1
theorem ClAt.vo {w : AH} {X : Cx} (h : ClAt w X) : VoA w X.2.2.2.2.1 := h.2.2.2.2.2.2.2.2.2.2.2.2.2.2.1
theorem ClAt.ro {w : AH} {X : Cx} (h : ClAt w X) : RoA w := h.2.2.2.2.2.2.2.2.2.2.2.2.2.2.2.1
theorem ClAt.dy {w : AH} {X : Cx} (h : ClAt w X) : ∃ sets row brow best, DyAt w 109 sets row brow best := h.2.2.2.2.2.2.2.2.2.2.2.2.2.2.2.2.1
theorem ClAt.shs {w : AH} {X : Cx} (h : ClAt w X) : ∃ W : Nat → Option Nat, hg w 113 = .inl (4, 4, .inr (.inr (.inr (.inr W)))) ∧ ∀ k, k < 4 → W k = some (115 + 2 * k) := h.2.2.2.2.2.2.2.2.2.2.2.2.2.2.2.2.2.1
theorem ClAt.she {w : AH} {X : Cx} (h : ClAt w X) : ∀ k, k < 4 → ShAt w (115 + 2 * k) (X.2.2.2.2.2 k).1 (X.2.2.2.2.2 k).2.1 (X.2.2.2.2.2 k).2.2 := h.2.2.2.2.2.2.2.2.2.2.2.2.2.2.2.2.2.2.1
theorem ClAt.err {w : AH} {X : Cx} (h : ClAt w X) : hg w 114 = .inl (0, 6, .inl X.2.2.2.1) := h.2.2.2.2.2.2.2.2.2.2.2.2.2.2.2.2.2.2.2.1
theorem ClAt.sta {w : AH} {X : Cx} (h : ClAt w X) : StA w bdN := h.2.2.2.2.2.2.2.2.2.2.2.2.2.2.2.2.2.2.2.2.1
theorem ClAt.str {w : AH} {X : Cx} (h : ClAt w X) : StrA w := h.2.2.2.2.2.2.2.2.2.2.2.2.2.2.2.2.2.2.2.2.2
theorem DyAt.keep {w v : AH} {d : Nat} {sets row brow : Nat → Nat} {best : Nat} (h : DyAt w d sets row brow best) (e : ∀ j, d ≤ j → j < d + 4 → hg v j = hg w j) : DyAt v d sets row brow best := by
  have e0 := e d (Nat.le_refl _) (by omega)
  exact ⟨by rw [e0]; exact h.p0, by rw [e0]; exact h.p1, by rw [e0]; exact h.p2, by rw [e0]; exact h.p3, by rw [e (d + 1) (by omega) (by omega)]; exact h.q0, h.q1.keep (e _ (by omega) (by omega)), h.q2.keep (e _ (by omega) (by omega)), h.r⟩
theorem RdAt.keep {w v : AH} {L : Nat} {f : Nat → Int32} (h : RdAt w L f) (e : ∀ j, 99 ≤ j → j < 102 → hg v j = hg w j) : RdAt v L f := by
  unfold RdAt
  rw [e 99 (by omega) (by omega), e 100 (by omega) (by omega), e 101 (by omega) (by omega)]
  exact h
theorem VoA.keep {w v : AH} {t : Nat × (Nat → Int32)} (h : VoA w t) (e : ∀ j, 102 ≤ j → j < 105 → hg v j = hg w j) : VoA v t := by
  unfold VoA at h ⊢
  rw [e 102 (by omega) (by omega)]
  exact ⟨h.1, h.2.1, h.2.2.keep (e _ (by omega) (by omega)) (e _ (by omega) (by omega))⟩
theorem RoA.keep {w v : AH} (h : RoA w) (e : ∀ j, 105 ≤ j → j < 109 → hg v j = hg w j) : RoA v := by
  unfold RoA at h ⊢
  rw [e 105 (by omega) (by omega)]
  exact ⟨h.1, h.2.1, h.2.2.1, fun j hj => by rw [e _ (by omega) (by omega)]; exact h.2.2.2 j hj⟩
theorem StrA.keep {w v : AH} (h : StrA w) (e : ∀ j, j < 32 → hg v j = hg w j) : StrA v := fun j hj => by
  rw [e _ (by omega), e _ (by omega)]
  exact h j hj
/-- the parts that stay where the cells from a on (but less than b) alone have changed -/
theorem ClAt.keep {w v : AH} {X : Cx} (h : ClAt w X) (e : ∀ j, j < 123 → hg v j = hg w j) : ClAt v X := by
  have e0 := e 32 (by omega)
  refine ⟨by rw [e0]; exact h.f0, by rw [e0]; exact h.f1, by rw [e0]; exact h.f2, by rw [e0]; exact h.f3, by rw [e0]; exact h.f4, by rw [e0]; exact h.f5, by rw [e0]; exact h.f6, by rw [e0]; exact h.f7, by rw [e0]; exact h.f8, by rw [e0]; exact h.f9, h.now.keep (fun j _ _ => e j (by omega)), h.kept.keep (fun j _ _ => e j (by omega)), ?_, ?_, h.vo.keep (fun j _ _ => e j (by omega)), h.ro.keep (fun j _ _ => e j (by omega)), ?_, by rw [e 113 (by omega)]; exact h.shs, fun k hk => (h.she k hk).keep (e _ (by omega)) (e _ (by omega)), by rw [e 114 (by omega)]; exact h.err, h.sta.keep (e _ (by omega)) (e _ (by omega)), h.str.keep (fun j hj => e j (by omega))⟩
  · obtain ⟨T, hT⟩ := h.tho; exact ⟨T, hT.keep (fun j _ _ => e j (by omega))⟩
  · obtain ⟨L, f, hT⟩ := h.rd; exact ⟨L, f, hT.keep (fun j _ _ => e j (by omega))⟩
  · obtain ⟨a, b, c, d, hT⟩ := h.dy; exact ⟨a, b, c, d, hT.keep (fun j _ _ => e j (by omega))⟩
/-- the present country alone has changed -/
theorem ClAt.setNow {w v : AH} {X : Cx} (h : ClAt w X) {S : Co} (hF : Fr (CoP 33) w v) (hS : CoAt v 33 S) : ClAt v (S, X.2) := by
  have e : ∀ j, j < 33 ∨ 55 ≤ j → hg v j = hg w j := fun j hj => hF.2.2 j (fun x => by have := x.1; have := x.2; omega)
  have e0 := e 32 (by omega)
  refine ⟨by rw [e0]; exact h.f0, by rw [e0]; exact h.f1, by rw [e0]; exact h.f2, by rw [e0]; exact h.f3, by rw [e0]; exact h.f4, by rw [e0]; exact h.f5, by rw [e0]; exact h.f6, by rw [e0]; exact h.f7, by rw [e0]; exact h.f8, by rw [e0]; exact h.f9, hS, h.kept.keep (fun j _ _ => e j (by omega)), ?_, ?_, h.vo.keep (fun j _ _ => e j (by omega)), h.ro.keep (fun j _ _ => e j (by omega)), ?_, by rw [e 113 (by omega)]; exact h.shs, fun k hk => (h.she k hk).keep (e _ (by omega)) (e _ (by omega)), by rw [e 114 (by omega)]; exact h.err, h.sta.keep (e _ (by omega)) (e _ (by omega)), h.str.keep (fun j hj => e j (by omega))⟩
  · obtain ⟨T, hT⟩ := h.tho; exact ⟨T, hT.keep (fun j _ _ => e j (by omega))⟩
  · obtain ⟨L, f, hT⟩ := h.rd; exact ⟨L, f, hT.keep (fun j _ _ => e j (by omega))⟩
  · obtain ⟨a, b, c, d, hT⟩ := h.dy; exact ⟨a, b, c, d, hT.keep (fun j _ _ => e j (by omega))⟩
theorem ClAt.same {w v : AH} {X : Cx} (h : ClAt w X) (hF : Fr (StP 33) w v) (hS : CoAt v 33 X.1) : ClAt v X := h.setNow (hF.wide (fun j hj => by rcases hj with x | x <;> subst x <;> exact ⟨by omega, by omega⟩)) hS
def CxP : Nat → Prop := fun j => 32 ≤ j ∧ j < 123
theorem CxP_co (j : Nat) (h : CoP 33 j) : CxP j := by have h1 := h.1; have h2 := h.2; exact ⟨by omega, by omega⟩
theorem CxP_st (j : Nat) (h : StP 33 j) : CxP j := by rcases h with x | x <;> subst x <;> exact ⟨by omega, by omega⟩
/-- numbers of b bits -/
def sxI (b : Nat) (x : Int32) : Int32 := if b = 8 then x.toInt8.toInt32 else if b = 16 then x.toInt16.toInt32 else x
def Md (I : Nat → Int32) (A : Nat → Nat → Int32) (X : Cx) : Prop := (DR (A 0) X.1) ∧ (X.2.2.1 ≠ 0 → DR (A 1) X.2.1) ∧ (I 2 = X.2.2.1) ∧ (X.1.day ≤ 9999) ∧ (X.2.1.day ≤ 9999) ∧ (∀ k, k < 6 → A 2 k = X.2.2.2.1 k) ∧ (I 21 = nI X.2.2.2.2.1.1) ∧ (X.2.2.2.2.1.1 ≤ 40) ∧ (∀ k, k < X.2.2.2.2.1.1 → A 9 k = X.2.2.2.2.1.2 k) ∧ (∀ k, k < 4 → A 10 k = nI (X.2.2.2.2.2 k).1) ∧ (∀ k, k < 4 → A 11 k = nI (X.2.2.2.2.2 k).2.1) ∧ (∀ k, k < 4 → ∀ i, i < (X.2.2.2.2.2 k).2.1 → A 12 (40 * k + i) = sxI (X.2.2.2.2.2 k).1 ((X.2.2.2.2.2 k).2.2 i)) ∧ (∀ k, k < 4 → ∀ i, i < (X.2.2.2.2.2 k).2.1 → mskI (X.2.2.2.2.2 k).1 ((X.2.2.2.2.2 k).2.2 i) = (X.2.2.2.2.2 k).2.2 i)
theorem Md.now {I : Nat → Int32} {A : Nat → Nat → Int32} {X : Cx} (h : Md I A X) : DR (A 0) X.1 := h.1
theorem Md.kept {I : Nat → Int32} {A : Nat → Nat → Int32} {X : Cx} (h : Md I A X) : X.2.2.1 ≠ 0 → DR (A 1) X.2.1 := h.2.1
theorem Md.im {I : Nat → Int32} {A : Nat → Nat → Int32} {X : Cx} (h : Md I A X) : I 2 = X.2.2.1 := h.2.2.1
theorem Md.dn {I : Nat → Int32} {A : Nat → Nat → Int32} {X : Cx} (h : Md I A X) : X.1.day ≤ 9999 := h.2.2.2.1
theorem Md.dk {I : Nat → Int32} {A : Nat → Nat → Int32} {X : Cx} (h : Md I A X) : X.2.1.day ≤ 9999 := h.2.2.2.2.1
theorem Md.err {I : Nat → Int32} {A : Nat → Nat → Int32} {X : Cx} (h : Md I A X) : ∀ k, k < 6 → A 2 k = X.2.2.2.1 k := h.2.2.2.2.2.1
theorem Md.tl {I : Nat → Int32} {A : Nat → Nat → Int32} {X : Cx} (h : Md I A X) : I 21 = nI X.2.2.2.2.1.1 := h.2.2.2.2.2.2.1
theorem Md.tm {I : Nat → Int32} {A : Nat → Nat → Int32} {X : Cx} (h : Md I A X) : X.2.2.2.2.1.1 ≤ 40 := h.2.2.2.2.2.2.2.1
theorem Md.tr {I : Nat → Int32} {A : Nat → Nat → Int32} {X : Cx} (h : Md I A X) : ∀ k, k < X.2.2.2.2.1.1 → A 9 k = X.2.2.2.2.1.2 k := h.2.2.2.2.2.2.2.2.1
theorem Md.shb {I : Nat → Int32} {A : Nat → Nat → Int32} {X : Cx} (h : Md I A X) : ∀ k, k < 4 → A 10 k = nI (X.2.2.2.2.2 k).1 := h.2.2.2.2.2.2.2.2.2.1
theorem Md.shn {I : Nat → Int32} {A : Nat → Nat → Int32} {X : Cx} (h : Md I A X) : ∀ k, k < 4 → A 11 k = nI (X.2.2.2.2.2 k).2.1 := h.2.2.2.2.2.2.2.2.2.2.1
theorem Md.shv {I : Nat → Int32} {A : Nat → Nat → Int32} {X : Cx} (h : Md I A X) : ∀ k, k < 4 → ∀ i, i < (X.2.2.2.2.2 k).2.1 → A 12 (40 * k + i) = sxI (X.2.2.2.2.2 k).1 ((X.2.2.2.2.2 k).2.2 i) := h.2.2.2.2.2.2.2.2.2.2.2.1
theorem Md.shr {I : Nat → Int32} {A : Nat → Nat → Int32} {X : Cx} (h : Md I A X) : ∀ k, k < 4 → ∀ i, i < (X.2.2.2.2.2 k).2.1 → mskI (X.2.2.2.2.2 k).1 ((X.2.2.2.2.2 k).2.2 i) = (X.2.2.2.2.2 k).2.2 i := h.2.2.2.2.2.2.2.2.2.2.2.2
theorem Md.kp {I J : Nat → Int32} {A B : Nat → Nat → Int32} {X : Cx} (h : Md I A X) (h2 : J 2 = I 2) (h21 : J 21 = I 21) (hA : ∀ j, j < 3 ∨ 9 ≤ j ∧ j < 13 → B j = A j) : Md J B X := by
  refine ⟨by rw [hA 0 (by omega)]; exact h.now, by rw [hA 1 (by omega)]; exact h.kept, by rw [h2]; exact h.im, h.dn, h.dk, by rw [hA 2 (by omega)]; exact h.err, by rw [h21]; exact h.tl, h.tm, by rw [hA 9 (by omega)]; exact h.tr, by rw [hA 10 (by omega)]; exact h.shb, by rw [hA 11 (by omega)]; exact h.shn, by rw [hA 12 (by omega)]; exact h.shv, h.shr⟩
theorem Md.kq {I J : Nat → Int32} {A B : Nat → Nat → Int32} {X : Cx} (h : Md I A X) (g : Kp I A J B) : Md J B X := h.kp (g.1 2 (by omega)) (g.1 21 (by omega)) (fun j hj => g.2 j (by omega))
/-- the present country alone has changed -/
theorem Md.setNow {I J : Nat → Int32} {A B : Nat → Nat → Int32} {X : Cx} (h : Md I A X) {S : Co} (hS : DR (B 0) S) (h2 : J 2 = I 2) (h21 : J 21 = I 21) (hA : ∀ j, j = 1 ∨ j = 2 ∨ 9 ≤ j ∧ j < 13 → B j = A j) (hd : S.day = X.1.day ∨ S.day ≤ 9999 := by exact Or.inl rfl) : Md J B (S, X.2) := by
  refine ⟨hS, by rw [hA 1 (by omega)]; exact h.kept, by rw [h2]; exact h.im, (by rcases hd with e | e; (show S.day ≤ 9999; rw [e]; exact h.dn); exact e), h.dk, by rw [hA 2 (by omega)]; exact h.err, by rw [h21]; exact h.tl, h.tm, by rw [hA 9 (by omega)]; exact h.tr, by rw [hA 10 (by omega)]; exact h.shb, by rw [hA 11 (by omega)]; exact h.shn, by rw [hA 12 (by omega)]; exact h.shv, h.shr⟩
theorem upA_n {A : Nat → Nat → Int32} {j i : Nat} {F : Nat → Int32} (h : i ≠ j) : upA A j F i = A i := if_neg h
theorem Md.set0 {I : Nat → Int32} {A : Nat → Nat → Int32} {X : Cx} (h : Md I A X) {S : Co} {D : Nat → Int32} (hS : DR D S) (hd : S.day = X.1.day ∨ S.day ≤ 9999 := by exact Or.inl rfl) : Md I (upA A 0 D) (S, X.2) := h.setNow hS rfl rfl (fun j hj => upA_n (by omega)) hd
/-- both sides stand as X -/
def Jn (W : AH) : Prop := ∃ X I A w, W = mw w I A ∧ ClAt W X ∧ Md I A X
def JO (M1 M2 : MI) (a : List Value) : Prop := ∀ W, Jn W → ∃ r V1 V2, Call M1 60 (.ref 32 :: a) W = some (some (.int r), V1) ∧ Call M2 60 (.ref 123 :: a) V1 = some (some (.int r), V2) ∧ Jn V2 ∧ V2.1 = W.1 ∧ V2.2.1 = W.2.1 ∧ hg V2 0 = hg W 0 ∧ hg V1 0 = hg W 0 ∧ hg V1 123 = hg W 123
/-- what a pair of methods does at X: the answer, the state behind it -/
def JS (M1 M2 : MI) (a : List Value) (W : AH) (X : Cx) (I : Nat → Int32) (A : Nat → Nat → Int32) : Prop := ∃ r X2, (∃ V, Call M1 60 (.ref 32 :: a) W = some (some (.int r), V) ∧ ClAt V X2 ∧ Fr CxP W V) ∧ (∀ w, ∃ J B, Call M2 60 (.ref 123 :: a) (mw w I A) = some (some (.int r), mw w J B) ∧ Md J B X2)
theorem JO.mk {M1 M2 : MI} {a : List Value} (h : ∀ W X I A, ClAt W X → Md I A X → JS M1 M2 a W X I A) : JO M1 M2 a := by
  intro W ⟨X, I, A, w, hW, hC, hM⟩
  obtain ⟨r, X2, ⟨V, c1, c2, c3⟩, g⟩ := h W X I A hC hM
  obtain ⟨J, B, m1, m2⟩ := g V
  have hV : mw V I A = V := by
    apply mw_same
    · rw [c3.2.2 123 (fun x => by have := x.2; omega), hW]; rfl
    · intro j hj
      rw [c3.2.2 (124 + j) (fun x => by have := x.2; omega), hW]
      unfold hg mw; dsimp only; rw [if_neg (by omega), if_pos (by omega), Nat.add_sub_cancel_left]
  rw [hV] at m1
  refine ⟨r, V, mw V J B, c1, m1, ⟨X2, J, B, V, rfl, c2.keep (fun j hj => mw_n (Or.inl hj)), m2⟩, c3.1, c3.2.1, (mw_n (by omega)).trans (c3.2.2 0 (fun x => absurd x.1 (by decide))), c3.2.2 0 (fun x => absurd x.1 (by decide)), c3.2.2 123 (fun x => absurd x.2 (by decide))⟩
/-! errors -/
def erX (X : Cx) (k : Nat) : Cx := (X.1, X.2.1, X.2.2.1, upd X.2.2.2.1 k (X.2.2.2.1 k + 1), X.2.2.2.2)
theorem ClAt.er {w : AH} {X : Cx} (h : ClAt w X) (k : Nat) : ClAt (hs w 114 (.inl (0, 6, .inl (upd X.2.2.2.1 k (X.2.2.2.1 k + 1))))) (erX X k) := by
  have e : ∀ j, j ≠ 114 → hg (hs w 114 (.inl (0, 6, .inl (upd X.2.2.2.1 k (X.2.2.2.1 k + 1))))) j = hg w j := fun j hj => hs_ne _ _ hj
  have e0 := e 32 (by omega)
  refine ⟨by rw [e0]; exact h.f0, by rw [e0]; exact h.f1, by rw [e0]; exact h.f2, by rw [e0]; exact h.f3, by rw [e0]; exact h.f4, by rw [e0]; exact h.f5, by rw [e0]; exact h.f6, by rw [e0]; exact h.f7, by rw [e0]; exact h.f8, by rw [e0]; exact h.f9, h.now.keep (fun j _ _ => e j (by omega)), h.kept.keep (fun j _ _ => e j (by omega)), ?_, ?_, h.vo.keep (fun j _ _ => e j (by omega)), h.ro.keep (fun j _ _ => e j (by omega)), ?_, by rw [e 113 (by omega)]; exact h.shs, fun k hk => (h.she k hk).keep (e _ (by omega)) (e _ (by omega)), hs_eq _ _ _, h.sta.keep (e _ (by omega)) (e _ (by omega)), h.str.keep (fun j hj => e j (by omega))⟩
  · obtain ⟨T, hT⟩ := h.tho; exact ⟨T, hT.keep (fun j _ _ => e j (by omega))⟩
  · obtain ⟨L, f, hT⟩ := h.rd; exact ⟨L, f, hT.keep (fun j _ _ => e j (by omega))⟩
  · obtain ⟨a, b, c, d, hT⟩ := h.dy; exact ⟨a, b, c, d, hT.keep (fun j _ _ => e j (by omega))⟩
theorem Md.er {I : Nat → Int32} {A : Nat → Nat → Int32} {X : Cx} (h : Md I A X) {k : Nat} (hk : k < 6) : Md I (erA A k) (erX X k) := by
  have n : ∀ j, j ≠ 2 → erA A k j = A j := fun j hj => upA_n hj
  refine ⟨by rw [n 0 (by omega)]; exact h.now, by rw [n 1 (by omega)]; exact h.kept, h.im, h.dn, h.dk, ?_, h.tl, h.tm, by rw [n 9 (by omega)]; exact h.tr, by rw [n 10 (by omega)]; exact h.shb, by rw [n 11 (by omega)]; exact h.shn, by rw [n 12 (by omega)]; exact h.shv, h.shr⟩
  intro j hj
  show upd (A 2) k (A 2 k + 1) j = upd X.2.2.2.1 k (X.2.2.2.1 k + 1) j
  unfold upd
  split
  · rw [h.err k hk]
  · exact h.err j hj
def loI (k : Nat) : Int32 := -1000000000 - nI k
theorem s_refuse {w : AH} {X : Cx} (h : ClAt w X) {k : Nat} (h1 : 1 ≤ k) (h2 : k < 6) (lv : Nat) : Call M_X11_refuse lv [.ref 32, .int (loI k)] w = some (some (.int (loI k)), hs w 114 (.inl (0, 6, .inl (upd X.2.2.2.1 k (X.2.2.2.1 k + 1))))) := by
  have e : (-1000000000 : Int32) - loI k = nI k := by
    obtain hk : k = 1 ∨ k = 2 ∨ k = 3 ∨ k = 4 ∨ k = 5 := by omega
    rcases hk with rfl | rfl | rfl | rfl | rfl <;> decide
  have q1 : ((1 : Int32).toInt ≤ (nI k).toInt ∧ (nI k).toInt ≤ (5 : Int32).toInt) = True := by
    rw [nI_t (by omega), show (1 : Int32).toInt = 1 from rfl, show (5 : Int32).toInt = 5 from rfl]
    apply eq_true; omega
  simp (disch := omega) only [C_X11_refuse, R_X11_refuse, SB, e, ls1s, s_isWithin, q1, decide_true, bI_t, i10, if_false, if_true, h.f8, h.err, aI_a, uI_0]
theorem lo1 : (-1000000001 : Int32) = loI 1 := by decide
theorem lo2 : (-1000000002 : Int32) = loI 2 := by decide
theorem lo3 : (-1000000003 : Int32) = loI 3 := by decide
theorem lo4 : (-1000000004 : Int32) = loI 4 := by decide
theorem lo5 : (-1000000005 : Int32) = loI 5 := by decide
theorem m_f1 (I : Nat → Int32) (A : Nat → Nat → Int32) (w : AH) (lv : Nat) : Call M_X12_finds lv [.ref 123, .int 1] (mw w I A) = some (some (.int (loI 1)), mw w I (erA A 1)) := m_finds I A w lv 1 (by decide) (by decide)
theorem m_f2 (I : Nat → Int32) (A : Nat → Nat → Int32) (w : AH) (lv : Nat) : Call M_X12_finds lv [.ref 123, .int 2] (mw w I A) = some (some (.int (loI 2)), mw w I (erA A 2)) := m_finds I A w lv 2 (by decide) (by decide)
theorem m_f3 (I : Nat → Int32) (A : Nat → Nat → Int32) (w : AH) (lv : Nat) : Call M_X12_finds lv [.ref 123, .int 3] (mw w I A) = some (some (.int (loI 3)), mw w I (erA A 3)) := m_finds I A w lv 3 (by decide) (by decide)
theorem m_f4 (I : Nat → Int32) (A : Nat → Nat → Int32) (w : AH) (lv : Nat) : Call M_X12_finds lv [.ref 123, .int 4] (mw w I A) = some (some (.int (loI 4)), mw w I (erA A 4)) := m_finds I A w lv 4 (by decide) (by decide)
theorem m_f5 (I : Nat → Int32) (A : Nat → Nat → Int32) (w : AH) (lv : Nat) : Call M_X12_finds lv [.ref 123, .int 5] (mw w I A) = some (some (.int (loI 5)), mw w I (erA A 5)) := m_finds I A w lv 5 (by decide) (by decide)
/-- both tell error k, and nothing else -/
theorem JS.er {M1 M2 : MI} {a : List Value} {W : AH} {X : Cx} {I : Nat → Int32} {A : Nat → Nat → Int32} (hC : ClAt W X) (hM : Md I A X) {k : Nat} (hk : k < 6) (c : Call M1 60 (.ref 32 :: a) W = some (some (.int (loI k)), hs W 114 (.inl (0, 6, .inl (upd X.2.2.2.1 k (X.2.2.2.1 k + 1)))))) (m : ∀ w, Call M2 60 (.ref 123 :: a) (mw w I A) = some (some (.int (loI k)), mw w I (erA A k))) : JS M1 M2 a W X I A :=
  ⟨loI k, erX X k, ⟨_, c, hC.er k, Fr.hs ⟨by omega, by omega⟩ _⟩, fun w => ⟨I, erA A k, m w, hM.er hk⟩⟩
/-- both answer r, and nothing that counts changes -/
theorem JS.ro {M1 M2 : MI} {a : List Value} {W : AH} {X : Cx} {I : Nat → Int32} {A : Nat → Nat → Int32} (hC : ClAt W X) (hM : Md I A X) {r : Int32} (c : Call M1 60 (.ref 32 :: a) W = some (some (.int r), W)) (m : ∀ w, ∃ J B, Call M2 60 (.ref 123 :: a) (mw w I A) = some (some (.int r), mw w J B) ∧ Md J B X) : JS M1 M2 a W X I A :=
  ⟨r, X, ⟨W, c, hC, Fr.refl _ _⟩, m⟩
theorem iwR (v : Int32) (hi : Int32) (n : Nat) (h : hi.toInt + 1 = n) (w : AH) (lv : Nat) : Call M_X11_isWithin lv [.int v, .int 0, .int hi] w = some (some (.int (bI (inR v n))), w) := by
  rw [s_isWithin]
  unfold inR
  have e : ((0 : Int32).toInt ≤ v.toInt ∧ v.toInt ≤ hi.toInt) = (0 ≤ v.toInt ∧ v.toInt < n) := by
    rw [show (0 : Int32).toInt = 0 from rfl]
    apply propext; omega
  simp only [e]
theorem inR_f {x : Int32} {n : Nat} (h : ¬ inR x n = true) : inR x n = false := Bool.eq_false_iff.mpr h

/-- the country that is only thought of has changed -/
theorem ClAt.setTho {w v : AH} {X : Cx} (h : ClAt w X) {T : Co} (hF : Fr (CoP 77) w v) (hT : CoAt v 77 T) : ClAt v X := by
  have e : ∀ j, j < 77 ∨ 99 ≤ j → hg v j = hg w j := fun j hj => hF.2.2 j (fun x => by have := x.1; have := x.2; omega)
  have e0 := e 32 (by omega)
  refine ⟨by rw [e0]; exact h.f0, by rw [e0]; exact h.f1, by rw [e0]; exact h.f2, by rw [e0]; exact h.f3, by rw [e0]; exact h.f4, by rw [e0]; exact h.f5, by rw [e0]; exact h.f6, by rw [e0]; exact h.f7, by rw [e0]; exact h.f8, by rw [e0]; exact h.f9, h.now.keep (fun j _ _ => e j (by omega)), h.kept.keep (fun j _ _ => e j (by omega)), ⟨T, hT⟩, ?_, h.vo.keep (fun j _ _ => e j (by omega)), h.ro.keep (fun j _ _ => e j (by omega)), ?_, by rw [e 113 (by omega)]; exact h.shs, fun k hk => (h.she k hk).keep (e _ (by omega)) (e _ (by omega)), by rw [e 114 (by omega)]; exact h.err, h.sta.keep (e _ (by omega)) (e _ (by omega)), h.str.keep (fun j hj => e j (by omega))⟩
  · obtain ⟨L, f, hT⟩ := h.rd; exact ⟨L, f, hT.keep (fun j _ _ => e j (by omega))⟩
  · obtain ⟨a, b, c, d, hT⟩ := h.dy; exact ⟨a, b, c, d, hT.keep (fun j _ _ => e j (by omega))⟩
/-- the kept country has changed, and how many images there were -/
theorem ClAt.setKept {w v : AH} {X : Cx} (h : ClAt w X) {K : Co} (hF : Fr (CoP 55) w v) (hT : CoAt v 55 K) : ClAt v (X.1, K, X.2.2) := by
  have e : ∀ j, j < 55 ∨ 77 ≤ j → hg v j = hg w j := fun j hj => hF.2.2 j (fun x => by have := x.1; have := x.2; omega)
  have e0 := e 32 (by omega)
  refine ⟨by rw [e0]; exact h.f0, by rw [e0]; exact h.f1, by rw [e0]; exact h.f2, by rw [e0]; exact h.f3, by rw [e0]; exact h.f4, by rw [e0]; exact h.f5, by rw [e0]; exact h.f6, by rw [e0]; exact h.f7, by rw [e0]; exact h.f8, by rw [e0]; exact h.f9, h.now.keep (fun j _ _ => e j (by omega)), hT, ?_, ?_, h.vo.keep (fun j _ _ => e j (by omega)), h.ro.keep (fun j _ _ => e j (by omega)), ?_, by rw [e 113 (by omega)]; exact h.shs, fun k hk => (h.she k hk).keep (e _ (by omega)) (e _ (by omega)), by rw [e 114 (by omega)]; exact h.err, h.sta.keep (e _ (by omega)) (e _ (by omega)), h.str.keep (fun j hj => e j (by omega))⟩
  · obtain ⟨T, hT⟩ := h.tho; exact ⟨T, hT.keep (fun j _ _ => e j (by omega))⟩
  · obtain ⟨L, f, hT⟩ := h.rd; exact ⟨L, f, hT.keep (fun j _ _ => e j (by omega))⟩
  · obtain ⟨a, b, c, d, hT⟩ := h.dy; exact ⟨a, b, c, d, hT.keep (fun j _ _ => e j (by omega))⟩
theorem ClAt.setIm {w : AH} {X : Cx} (h : ClAt w X) (x : Int32) : ClAt (hs w 32 (fput (hg w 32) 9 (.int x))) (X.1, X.2.1, x, X.2.2.2) := by
  have e : ∀ j, j ≠ 32 → hg (hs w 32 (fput (hg w 32) 9 (.int x))) j = hg w j := fun j hj => hs_ne _ _ hj
  have n : ∀ {j}, j ≠ 9 → gf (hg (hs w 32 (fput (hg w 32) 9 (.int x))) 32) 10 j = gf (hg w 32) 10 j := fun hj => by rw [hs_eq, gf_put_n (Ne.symm hj)]
  refine ⟨by rw [n (by decide)]; exact h.f0, by rw [n (by decide)]; exact h.f1, by rw [n (by decide)]; exact h.f2, by rw [n (by decide)]; exact h.f3, by rw [n (by decide)]; exact h.f4, by rw [n (by decide)]; exact h.f5, by rw [n (by decide)]; exact h.f6, by rw [n (by decide)]; exact h.f7, by rw [n (by decide)]; exact h.f8, by rw [hs_eq]; exact gf_put_s h.f9, h.now.keep (fun j _ _ => e j (by omega)), h.kept.keep (fun j _ _ => e j (by omega)), ?_, ?_, h.vo.keep (fun j _ _ => e j (by omega)), h.ro.keep (fun j _ _ => e j (by omega)), ?_, by rw [e 113 (by omega)]; exact h.shs, fun k hk => (h.she k hk).keep (e _ (by omega)) (e _ (by omega)), by rw [e 114 (by omega)]; exact h.err, h.sta.keep (e _ (by omega)) (e _ (by omega)), h.str.keep (fun j hj => e j (by omega))⟩
  · obtain ⟨T, hT⟩ := h.tho; exact ⟨T, hT.keep (fun j _ _ => e j (by omega))⟩
  · obtain ⟨L, f, hT⟩ := h.rd; exact ⟨L, f, hT.keep (fun j _ _ => e j (by omega))⟩
  · obtain ⟨a, b, c, d, hT⟩ := h.dy; exact ⟨a, b, c, d, hT.keep (fun j _ _ => e j (by omega))⟩
theorem CxP_th (j : Nat) (h : CoP 77 j) : CxP j := by have h1 := h.1; have h2 := h.2; exact ⟨by omega, by omega⟩
theorem CxP_kp (j : Nat) (h : CoP 55 j) : CxP j := by have h1 := h.1; have h2 := h.2; exact ⟨by omega, by omega⟩
