/-! ===== the constructors ===== -/
/-- k new cells, m new fields and elements; of the old cells only b has changed -/
def Nw (w v : AH) (b k m : Nat) : Prop := v.1 = w.1 + k ∧ v.2.1 = w.2.1 + m ∧ ∀ j, j < w.1 → j ≠ b → hg v j = hg w j
theorem hn_eq (w : AH) {j : Nat} (e : va_E) (n : Nat) (h : j = w.1) : hg (hn w e n) j = e := by rw [hg_hn, if_pos h]
theorem hn_ne (w : AH) {j : Nat} (e : va_E) (n : Nat) (h : j ≠ w.1) : hg (hn w e n) j = hg w j := by rw [hg_hn, if_neg h]
theorem hs_qq (w : AH) {a b : Nat} (e : va_E) (h : b = a) : hg (hs w a e) b = e := by rw [h]; exact hs_eq _ _ _
theorem hn_1 (w : AH) (e : va_E) (n : Nat) : (hn w e n).1 = w.1 + 1 := rfl
theorem hn_2 (w : AH) (e : va_E) (n : Nat) : (hn w e n).2.1 = w.2.1 + n := rfl
theorem hs_2 (w : AH) (a : Nat) (e : va_E) : (hs w a e).2.1 = w.2.1 := rfl
abbrev nwA (n : Nat) (F : Nat → Int32) : va_E := .inl (0, n, .inl F)
theorem row15 (lv : Nat) (l : LX) (st : List Value) (x : Int32) (k : Nat) (hk : x.toNatClampNeg = k ∧ 0 ≤ x.toInt ∧ x.toInt ≤ 65536) (w : AH) : Ex M_X6_init lv 15 l (.int x :: st) w = Ex M_X6_init lv 17 l (.ref w.1 :: st) (hn w (.inl (0, k, .inl (fun _ => 0))) k) := by
  have h := R_X6_init
  repeat (first | exact h.1 lv l st x k hk w | replace h := h.2)
theorem s_newRow {w : AH} {b k : Nat} (hb : w.1 = b + 1) (h : hg w b = .inr (6, [.null, .int 0])) (hk : k < 1000) : ∃ v, Call M_X6_init 60 [.ref b, .int (nI k)] w = some (none, v) ∧ Nw w v b 1 k ∧ RowAt v b (b + 1) k 0 (fun _ => 0) ∧ hg v b = .inr (6, [.ref (b + 1), .int 0]) := by
  have p1 : pf (hg w b) 6 1 .int (.int 0) = some (hg w b) := by rw [h]; exact pf_i rfl _
  have kt := nI_t (show k < 2147483648 by omega)
  have mx := s_max (nI k) 0 w 60
  rw [if_neg (by rw [kt, show (0 : Int32).toInt = 0 from rfl]; omega)] at mx
  have r15 := fun l st w => row15 60 l st (nI k) k ⟨nI_c (by omega), by rw [kt]; omega, by rw [kt]; omega⟩ w
  have p2 : pf (hg (hn w (nwA k (fun _ => 0)) k) b) 6 0 (.array .int) (.ref w.1) = some (.inr (6, [.ref w.1, .int 0])) := by rw [hn_ne _ _ _ (by omega), h]; exact pf_a rfl _
  refine ⟨hs (hn w (nwA k (fun _ => 0)) k) b (.inr (6, [.ref w.1, .int 0])), ?_, ⟨rfl, rfl, fun j h1 h2 => by rw [hs_ne _ _ h2, hn_ne _ _ _ (by omega)]⟩, ⟨?_, ?_, ?_, by omega, by omega, hk⟩, by rw [hs_eq, hb]⟩
  · simp only [C_X6_init, R_X6_init, SB, p1, hs_same, mx, r15, p2, if_true]
  · rw [hs_eq, hb]; rfl
  · rw [hs_eq]; rfl
  · rw [hs_ne _ _ (by omega), hn_eq _ _ _ (by omega)]
theorem s_newCarpet {w : AH} {b : Nat} (hb : w.1 = b + 1) (h : hg w b = .inr (0, [.null, .null])) : ∃ v, Call M_X0_init 60 [.ref b] w = some (none, v) ∧ Nw w v b 2 72 ∧ CarAt v b (fun _ => 1) (fun _ => 0) := by
  obtain ⟨w2, hw2⟩ : ∃ w2, w2 = hs (hn w (nwA 36 (fun _ => 0)) 36) b (.inr (0, [.ref w.1, .null])) := ⟨_, rfl⟩
  obtain ⟨w4, hw4⟩ : ∃ w4, w4 = hs (hn w2 (nwA 36 (fun _ => 0)) 36) b (.inr (0, [.ref (b + 1), .ref (b + 2)])) := ⟨_, rfl⟩
  have p1 : pf (hg (hn w (nwA 36 (fun _ => 0)) 36) b) 0 0 (.array .int) (.ref w.1) = some (.inr (0, [.ref w.1, .null])) := by rw [hn_ne _ _ _ (by omega), h]; exact pf_a rfl _
  have n2 : w2.1 = b + 2 := by rw [hw2, hs_1, hn_1]; omega
  have p2 : pf (hg (hn w2 (nwA 36 (fun _ => 0)) 36) b) 0 1 (.array .int) (.ref (b + 2)) = some (.inr (0, [.ref (b + 1), .ref (b + 2)])) := by rw [hn_ne _ _ _ (by omega), hw2, hs_eq, hb]; exact pf_a rfl _
  have e1 : hg w4 (b + 1) = nwA 36 (fun _ => 0) := by rw [hw4, hs_ne _ _ (by omega), hn_ne _ _ _ (by omega), hw2, hs_ne _ _ (by omega), hn_eq _ _ _ (by omega)]
  have e2 : hg w4 (b + 2) = nwA 36 (fun _ => 0) := by rw [hw4, hs_ne _ _ (by omega), hn_eq _ _ _ (by omega)]
  have e0 : hg w4 b = .inr (0, [.ref (b + 1), .ref (b + 2)]) := by rw [hw4, hs_eq]
  obtain ⟨F, a1, a2⟩ := loopE (fun k (F : Nat → Int32) => Ex M_X0_init 60 22 [some (.ref b), some (.int (nI k))] [] (hs w4 (b + 1) (nwA 36 F))) (fun k F => ∀ j, j < k → F j = 1) 36 (by
    intro k F hk hF
    have q1 : ((36 : Int32) ≤ nI k) = False := by rw [show (36 : Int32) = nI 36 from rfl, le_nI (by decide) (by omega)]; apply eq_false; omega
    have g0 : gf (hg (hs w4 (b + 1) (nwA 36 F)) b) 0 0 = some (.ref (b + 1)) := by rw [hs_ne _ _ (by omega), e0]; rfl
    refine ⟨upd F k 1, ?_, fun j hj => ?_⟩
    · rw [H_X0_init_22]
      simp only [R_X0_init, SB, q1, if_false, if_true, g0, hs_eq, uI_0 hk (show 36 ≤ 2147483648 by decide), hs_hs, ls1s, nI_1]
    · unfold upd; split; rfl; exact hF j (by omega)) (fun _ => 0) (fun j hj => absurd hj (by omega))
  have es : hs w4 (b + 1) (nwA 36 (fun _ => 0)) = w4 := by rw [← e1, hs_same]
  rw [es] at a1
  refine ⟨hs w4 (b + 1) (nwA 36 F), ?_, ⟨?_, ?_, fun j h1 h2 => ?_⟩, ?_, ?_, ⟨F, hs_eq _ _ _, fun k hk => a2 k hk⟩, ⟨fun _ => 0, by rw [hs_ne _ _ (by omega), e2], fun k hk => rfl⟩, fun _ _ => (by decide : (1 : Nat) < 8), fun _ _ => (by decide : (0 : Nat) < 100)⟩
  · simp only [C_X0_init, R_X0_init, SB, p1, ← hw2, n2, p2, ← hw4, ls1s, if_true]
    refine (show _ = _ from rfl).trans (a1.trans ?_)
    rw [H_X0_init_22]
    simp only [R_X0_init, SB, show ((36 : Int32) ≤ nI 36) = True from by decide, if_true]
  · rw [hs_1, hw4, hs_1, hn_1, n2, hb]
  · rw [hs_2, hw4, hs_2, hn_2, hw2, hs_2, hn_2]
  · rw [hs_ne _ _ (by omega), hw4, hs_ne _ _ h2, hn_ne _ _ _ (by omega), hw2, hs_ne _ _ h2, hn_ne _ _ _ (by omega)]
  · rw [hs_ne _ _ (by omega), e0]; rfl
  · rw [hs_ne _ _ (by omega), e0]; rfl
theorem s_newLaw {w : AH} {b : Nat} (hb : w.1 = b + 1) (h : hg w b = .inr (3, [.null, .null])) : ∃ v, Call M_X3_init 60 [.ref b] w = some (none, v) ∧ Nw w v b 3 102 ∧ LawV v b (false, fun _ _ _ => 0) := by
  obtain ⟨w1, hw1⟩ : ∃ w1, w1 = hn w (.inr (6, [.null, .int 0])) 2 := ⟨_, rfl⟩
  have n1 : w1.1 = b + 2 := by rw [hw1, hn_1]; omega
  obtain ⟨v1, c1, ⟨c2, c3, c4⟩, c5, _⟩ := s_newRow (w := w1) (b := b + 1) (k := 50) n1 (by rw [hw1, hn_eq _ _ _ hb.symm]) (by decide)
  have eb : hg v1 b = .inr (3, [.null, .null]) := by rw [c4 b (by omega) (by omega), hw1, hn_ne _ _ _ (by omega), h]
  obtain ⟨w2, hw2⟩ : ∃ w2, w2 = hs v1 b (.inr (3, [.ref (b + 1), .null])) := ⟨_, rfl⟩
  have p1 : pf (hg v1 b) 3 0 (.object "CarpetLands$Row") (.ref (b + 1)) = some (.inr (3, [.ref (b + 1), .null])) := by rw [eb]; exact pf_o rfl _
  have n2 : w2.1 = b + 3 := by rw [hw2, hs_1, c2]; omega
  have p2 : pf (hg (hn w2 (nwA 50 (fun _ => 0)) 50) b) 3 1 (.array .int) (.ref (b + 3)) = some (.inr (3, [.ref (b + 1), .ref (b + 3)])) := by rw [hn_ne _ _ _ (by omega), hw2, hs_eq]; exact pf_a rfl _
  have c1 : Call M_X6_init 60 [.ref (b + 1), .int 50] w1 = some (none, v1) := c1
  refine ⟨hs (hn w2 (nwA 50 (fun _ => 0)) 50) b (.inr (3, [.ref (b + 1), .ref (b + 3)])), ?_, ⟨?_, ?_, fun j h1 h2 => ?_⟩, 0, fun _ => 0, ⟨by rw [hs_eq]; rfl, by rw [hs_eq]; rfl, ?_, fun _ => 0, by rw [hs_ne _ _ (by omega), hn_eq _ _ _ (by omega)]⟩, rfl, fun z => absurd z (by decide)⟩
  · simp only [C_X3_init, R_X3_init, SB, ← hw1, hb, clK_gf (show gf (hg w1 (b + 1)) 6 1 = some (.int 0) from by rw [hw1, hn_eq _ _ _ hb.symm]; rfl), if_true, c1, p1, ← hw2, n2, p2]
  · rw [hs_1, hn_1, n2, hb]
  · rw [hs_2, hn_2, hw2, hs_2, c3, hw1, hn_2]
  · rw [hs_ne _ _ h2, hn_ne _ _ _ (by omega), hw2, hs_ne _ _ h2, c4 j (by omega) (by omega), hw1, hn_ne _ _ _ (by omega)]
  · refine c5.keep ?_ ?_
    · rw [hs_ne _ _ (by omega), hn_ne _ _ _ (by omega), hw2, hs_ne _ _ (by omega)]
    · rw [hs_ne _ _ (by omega), hn_ne _ _ _ (by omega), hw2, hs_ne _ _ (by omega)]
theorem s_newWalker {w : AH} {b : Nat} (h : hg w b = .inr (9, [.int 0, .int 0, .int 0, .int 0])) : Call M_X10_init 60 [.ref b] w = some (none, hs w b (.inr (9, [.int 0, .int 0, .int 0, .int 1]))) := by
  have p0 : pf (hg w b) 9 0 .int (.int 0) = some (hg w b) := by rw [h]; exact pf_i rfl _
  have p1 : pf (hg w b) 9 1 .int (.int 0) = some (hg w b) := by rw [h]; exact pf_i rfl _
  have p2 : pf (hg w b) 9 2 .int (.int 0) = some (hg w b) := by rw [h]; exact pf_i rfl _
  have p3 : pf (hg w b) 9 3 .int (.int 1) = some (.inr (9, [.int 0, .int 0, .int 0, .int 1])) := by rw [h]; exact pf_i rfl _
  simp only [C_X10_init, R_X10_init, SB, p0, p1, p2, p3, hs_same, if_true]
theorem Nw.fr {v u : AH} {b k m n : Nat} {E X : va_E} (h : Nw (hn (hs v b E) X n) u v.1 k m) : u.1 = v.1 + 1 + k ∧ u.2.1 = v.2.1 + n + m ∧ (∀ j, j < v.1 → j ≠ b → hg u j = hg v j) ∧ (b < v.1 → hg u b = E) := by
  obtain ⟨h1, h2, h3⟩ := h
  rw [hn_1, hs_1] at h1 h3
  rw [hn_2, hs_2] at h2
  refine ⟨h1, h2, fun j j1 j2 => ?_, fun j1 => ?_⟩
  · rw [h3 j (by omega) (by omega), hn_ne _ _ _ (by rw [hs_1]; omega), hs_ne _ _ j2]
  · rw [h3 b (by omega) (by omega), hn_ne _ _ _ (by rw [hs_1]; omega), hs_eq]
theorem uQ_3 {t n : Nat} {W : Nat → Option Nat} {e : va_E} {k x : Nat} (ht : t = 3 ∨ t = 4) (h : clK e = qk t) (hk : k < n) (hn : n < 2147483648) : uQ (.inl (t, n, .inr (.inr (.inr (.inr W))))) e (nI k) x = some (.inl (t, n, .inr (.inr (.inr (.inr (va_up W k (some x))))))) := by
  unfold uQ
  dsimp only
  rw [if_pos ⟨ht, ⟨by rw [nI_t (by omega)]; omega, by rw [nI_t (by omega)]; omega⟩, h⟩, nI_c (by omega)]
def Co0 : Co := (fun _ => 1, fun _ => 0, fun _ x => if x = 3 then 1 else 0, (0, 0, 1), (0, fun _ => 0), (0, fun _ => 0), (false, fun _ _ _ => 0), (false, fun _ _ _ => 0))
def coE (b : Nat) : Nat → va_E
  | 0 => .inr (1, [.null, .null, .null, .null, .null, .null, .int 0, .int 0, .int 0])
  | 1 => .inr (1, [.ref (b + 1), .null, .null, .null, .null, .null, .int 0, .int 0, .int 0])
  | 2 => .inr (1, [.ref (b + 1), .ref (b + 4), .null, .null, .null, .null, .int 0, .int 0, .int 0])
  | 3 => .inr (1, [.ref (b + 1), .ref (b + 4), .ref (b + 5), .null, .null, .null, .int 0, .int 0, .int 0])
  | 4 => .inr (1, [.ref (b + 1), .ref (b + 4), .ref (b + 5), .ref (b + 9), .null, .null, .int 0, .int 0, .int 0])
  | 5 => .inr (1, [.ref (b + 1), .ref (b + 4), .ref (b + 5), .ref (b + 9), .ref (b + 13), .null, .int 0, .int 0, .int 0])
  | 6 => .inr (1, [.ref (b + 1), .ref (b + 4), .ref (b + 5), .ref (b + 9), .ref (b + 13), .ref (b + 15), .int 0, .int 0, .int 0])
  | _ => .inr (1, [.ref (b + 1), .ref (b + 4), .ref (b + 5), .ref (b + 9), .ref (b + 13), .ref (b + 15), .int 0, .int 0, .int 1])
abbrev wkE0 : va_E := .inr (9, [.int 0, .int 0, .int 0, .int 0])
abbrev wkE : va_E := .inr (9, [.int 0, .int 0, .int 0, .int 1])
abbrev rfA (t n : Nat) (W : Nat → Option Nat) : va_E := .inl (t, n, .inr (.inr (.inr (.inr W))))
theorem s_newCountry {w : AH} {b : Nat} (hb : w.1 = b + 1) (h : hg w b = coE b 0) : ∃ v, Call M_X1_init 60 [.ref b] w = some (none, v) ∧ Nw w v b 21 381 ∧ CoAt v b Co0 := by
  have es : hs w b (coE b 0) = w := by rw [← h, hs_same]
  -- the carpet
  obtain ⟨v1, c1, N1, A1⟩ := s_newCarpet (w := hn w (.inr (0, [.null, .null])) 2) (b := b + 1) (by rw [hn_1]; omega) (hn_eq _ _ _ hb.symm)
  rw [← es, ← hb] at N1
  obtain ⟨s1, m1, f1, g1⟩ := N1.fr
  have g1 := g1 (by omega)
  rw [hb] at s1
  have p1 : pf (hg v1 b) 1 0 (.object "CarpetLands$Carpet") (.ref (b + 1)) = some (coE b 1) := by rw [g1]; exact pf_o rfl _
  -- the walkers' array
  obtain ⟨u1, hu1⟩ : ∃ u1, u1 = hn (hs v1 b (coE b 1)) (rfA 3 5 (fun _ => none)) 5 := ⟨_, rfl⟩
  have t1 : u1.1 = b + 5 := by rw [hu1, hn_1, hs_1]; omega
  have tm1 : u1.2.1 = v1.2.1 + 5 := by rw [hu1, hn_2, hs_2]
  have tf1 : ∀ j, j < b + 4 → j ≠ b → hg u1 j = hg v1 j := fun j j1 j2 => by rw [hu1, hn_ne _ _ _ (by rw [hs_1]; omega), hs_ne _ _ j2]
  have ta1 : hg u1 (b + 4) = rfA 3 5 (fun _ => none) := by rw [hu1, hn_eq _ _ _ (by rw [hs_1]; omega)]
  have tb1 : hg u1 b = coE b 1 := by rw [hu1, hn_ne _ _ _ (by rw [hs_1]; omega), hs_eq]
  have p2 : pf (hg u1 b) 1 1 (.array (.object "CarpetLands$Walker")) (.ref (b + 4)) = some (coE b 2) := by rw [tb1]; exact pf_a rfl _
  -- the laws
  obtain ⟨v2, c2, N2, A2⟩ := s_newLaw (w := hn (hs u1 b (coE b 2)) (.inr (3, [.null, .null])) 2) (b := b + 5) (by rw [hn_1, hs_1, t1]) (hn_eq _ _ _ (by rw [hs_1, t1]))
  rw [← t1] at N2
  obtain ⟨s2, m2, f2, g2⟩ := N2.fr
  have g2 := g2 (by omega)
  rw [t1] at s2 f2
  have p3 : pf (hg v2 b) 1 2 (.object "CarpetLands$Law") (.ref (b + 5)) = some (coE b 3) := by rw [g2]; exact pf_o rfl _
  obtain ⟨v3, c3, N3, A3⟩ := s_newLaw (w := hn (hs v2 b (coE b 3)) (.inr (3, [.null, .null])) 2) (b := b + 9) (by rw [hn_1, hs_1, s2]) (hn_eq _ _ _ (by rw [hs_1, s2]))
  rw [show b + 9 = v2.1 from s2.symm] at N3
  obtain ⟨s3, m3, f3, g3⟩ := N3.fr
  have g3 := g3 (by omega)
  rw [s2] at s3 f3
  have p4 : pf (hg v3 b) 1 3 (.object "CarpetLands$Law") (.ref (b + 9)) = some (coE b 4) := by rw [g3]; exact pf_o rfl _
  -- tape, waiting
  obtain ⟨v4, c4, N4, A4, _⟩ := s_newRow (w := hn (hs v3 b (coE b 4)) (.inr (6, [.null, .int 0])) 2) (b := b + 13) (k := 50) (by rw [hn_1, hs_1, s3]) (hn_eq _ _ _ (by rw [hs_1, s3])) (by decide)
  rw [show b + 13 = v3.1 from s3.symm] at N4
  obtain ⟨s4, m4, f4, g4⟩ := N4.fr
  have g4 := g4 (by omega)
  rw [s3] at s4 f4
  have p5 : pf (hg v4 b) 1 4 (.object "CarpetLands$Row") (.ref (b + 13)) = some (coE b 5) := by rw [g4]; exact pf_o rfl _
  obtain ⟨v5, c5, N5, A5, _⟩ := s_newRow (w := hn (hs v4 b (coE b 5)) (.inr (6, [.null, .int 0])) 2) (b := b + 15) (k := 20) (by rw [hn_1, hs_1, s4]) (hn_eq _ _ _ (by rw [hs_1, s4])) (by decide)
  rw [show b + 15 = v4.1 from s4.symm] at N5
  obtain ⟨s5, m5, f5, g5⟩ := N5.fr
  have g5 := g5 (by omega)
  rw [s4] at s5 f5
  have p6 : pf (hg v5 b) 1 5 (.object "CarpetLands$Row") (.ref (b + 15)) = some (coE b 6) := by rw [g5]; exact pf_o rfl _
  have p7 : pf (coE b 6) 1 6 .int (.int 0) = some (coE b 6) := pf_i rfl _
  have p8 : pf (coE b 6) 1 7 .int (.int 0) = some (coE b 6) := pf_i rfl _
  have p9 : pf (coE b 6) 1 8 .int (.int 1) = some (coE b 7) := pf_i rfl _
  obtain ⟨w6, hw6⟩ : ∃ w6, w6 = hs v5 b (coE b 7) := ⟨_, rfl⟩
  have n6 : w6.1 = b + 17 := by rw [hw6, hs_1, s5]
  have nm6 : w6.2.1 = v5.2.1 := by rw [hw6, hs_2]
  have b6 : hg w6 b = coE b 7 := by rw [hw6, hs_eq]
  have fr6 : ∀ j, j ≠ b → hg w6 j = hg v5 j := fun j hj => by rw [hw6, hs_ne _ _ hj]
  have c1 : Call M_X0_init 60 [.ref (b + 1)] (hn w (.inr (0, [.null, .null])) 2) = some (none, v1) := c1
  have c4 : Call M_X6_init 60 [.ref (b + 13), .int 50] (hn (hs v3 b (coE b 4)) (.inr (6, [.null, .int 0])) 2) = some (none, v4) := c4
  have c5 : Call M_X6_init 60 [.ref (b + 15), .int 20] (hn (hs v4 b (coE b 5)) (.inr (6, [.null, .int 0])) 2) = some (none, v5) := c5
  -- the walkers
  obtain ⟨u, l1, l2, l3, l4, ⟨W, l5, l6⟩, l7⟩ := loopE (fun k (u : AH) => Ex M_X1_init 60 88 [some (.ref b), some (.int (nI k))] [] u) (fun k u => u.1 = b + 17 + k ∧ u.2.1 = w6.2.1 + 4 * k ∧ (∀ j, j < b + 17 → j ≠ b + 4 → hg u j = hg w6 j) ∧ (∃ W, hg u (b + 4) = rfA 3 5 W ∧ ∀ j, j < k → W j = some (b + 17 + j)) ∧ ∀ j, j < k → hg u (b + 17 + j) = wkE) 5 (by
    intro k u hk ⟨i1, i2, i3, ⟨W, i4, i5⟩, i6⟩
    have q1 : ((5 : Int32) ≤ nI k) = False := by rw [show (5 : Int32) = nI 5 from rfl, le_nI (by decide) (by omega)]; apply eq_false; omega
    have g0 : gf (hg u b) 1 1 = some (.ref (b + 4)) := by rw [i3 b (by omega) (by omega), b6]; rfl
    have nw := s_newWalker (w := hn u wkE0 4) (b := b + 17 + k) (hn_eq _ _ _ i1.symm)
    have e4 : hg (hs (hn u wkE0 4) (b + 17 + k) wkE) (b + 4) = rfA 3 5 W := by rw [hs_ne _ _ (by omega), hn_ne _ _ _ (by omega), i4]
    have uq := uQ_3 (t := 3) (n := 5) (W := W) (e := wkE) (k := k) (x := b + 17 + k) (Or.inl rfl) rfl hk (by decide)
    refine ⟨hs (hs (hn u wkE0 4) (b + 17 + k) wkE) (b + 4) (rfA 3 5 (va_up W k (some (b + 17 + k)))), ?_, ?_, ?_, fun j j1 j2 => ?_, ⟨_, hs_eq _ _ _, fun j hj => ?_⟩, fun j hj => ?_⟩
    · rw [H_X1_init_88]
      simp only [R_X1_init_p0, R_X1_init_p1, SB, q1, if_false, if_true, g0, i1, nw, e4, hs_eq, uq, ls1s, nI_1]
    · rw [hs_1, hs_1, hn_1, i1]; rfl
    · rw [hs_2, hs_2, hn_2, i2]; omega
    · rw [hs_ne _ _ j2, hs_ne _ _ (by omega), hn_ne _ _ _ (by omega), i3 j j1 j2]
    · unfold va_up
      by_cases z : j = k
      · rw [if_pos z, z]
      · rw [if_neg z]; exact i5 j (by omega)
    · rw [hs_ne _ _ (by omega)]
      by_cases z : j = k
      · rw [z, hs_eq]
      · rw [hs_ne _ _ (by omega), hn_ne _ _ _ (by omega)]; exact i6 j (by omega)) w6 ⟨by rw [n6], by omega, fun _ _ _ => rfl, ⟨fun _ => none, by rw [fr6 _ (by omega), f5 _ (by omega) (by omega), f4 _ (by omega) (by omega), f3 _ (by omega) (by omega), f2 _ (by omega) (by omega), ta1], fun j hj => absurd hj (by omega)⟩, fun j hj => absurd hj (by omega)⟩
  have F5 : ∀ j, j < b + 17 → j ≠ b → j ≠ b + 4 → hg u j = hg v5 j := fun j a1 a2 a3 => by rw [l4 j a1 a3, fr6 j a2]
  have F4 : ∀ j, j < b + 15 → j ≠ b → j ≠ b + 4 → hg u j = hg v4 j := fun j a1 a2 a3 => by rw [F5 j (by omega) a2 a3, f5 j a1 a2]
  have F3 : ∀ j, j < b + 13 → j ≠ b → j ≠ b + 4 → hg u j = hg v3 j := fun j a1 a2 a3 => by rw [F4 j (by omega) a2 a3, f4 j a1 a2]
  have F2 : ∀ j, j < b + 9 → j ≠ b → j ≠ b + 4 → hg u j = hg v2 j := fun j a1 a2 a3 => by rw [F3 j (by omega) a2 a3, f3 j a1 a2]
  have F1 : ∀ j, j < b + 4 → j ≠ b → hg u j = hg v1 j := fun j a1 a2 => by rw [F2 j (by omega) a2 (by omega), f2 j (by omega) a2, tf1 j a1 a2]
  have ub : hg u b = coE b 7 := by rw [l4 b (by omega) (by omega), b6]
  refine ⟨u, ?_, ⟨by omega, by omega, fun j j1 j2 => ?_⟩, by rw [ub]; rfl, by rw [ub]; rfl, by rw [ub]; rfl, by rw [ub]; rfl, by rw [ub]; rfl, by rw [ub]; rfl, by rw [ub]; rfl, by rw [ub]; rfl, by rw [ub]; rfl, A1.keep (F1 _ (by omega) (by omega)) (F1 _ (by omega) (by omega)) (F1 _ (by omega) (by omega)), ⟨W, l5, l6⟩, fun k hk => ⟨by rw [l7 k hk]; rfl, by rw [l7 k hk]; rfl, by rw [l7 k hk]; rfl, by rw [l7 k hk]; rfl, (by decide : (0 : Nat) < 7), (by decide : (0 : Nat) < 10), (by decide : (0 : Nat) < 36), (by decide : (1 : Nat) < 4)⟩, A2.keep (F2 _ (by omega) (by omega) (by omega)) (F2 _ (by omega) (by omega) (by omega)) (F2 _ (by omega) (by omega) (by omega)) (F2 _ (by omega) (by omega) (by omega)), A3.keep (F3 _ (by omega) (by omega) (by omega)) (F3 _ (by omega) (by omega) (by omega)) (F3 _ (by omega) (by omega) (by omega)) (F3 _ (by omega) (by omega) (by omega)), A4.keep (F4 _ (by omega) (by omega) (by omega)) (F4 _ (by omega) (by omega) (by omega)), A5.keep (F5 _ (by omega) (by omega) (by omega)) (F5 _ (by omega) (by omega) (by omega)), by decide, by decide⟩
  · simp only [C_X1_init, R_X1_init_p0, R_X1_init_p1, SB, hb, c1, p1, hs_1, s1, ← hu1, p2, t1, c2, p3, s2, c3, p4, s3, c4, p5, s4, c5, p6, hs_eq, p7, p8, p9, hs_hs, ← hw6, ls1s, if_true]
    refine (show _ = _ from rfl).trans (l1.trans ?_)
    rw [H_X1_init_88]
    simp only [R_X1_init_p0, R_X1_init_p1, SB, show ((5 : Int32) ≤ nI 5) = True from by decide, if_true]
  · have j1 : j < b + 1 := by omega
    rw [F1 j (by omega) j2, f1 j (by omega) j2]
