/-! ===== Law: what a text works out ===== -/
def vlI (s a b c : Int32) : Int32 := if s = -1 then a else if s = -2 then b else if s = -3 then c else s
theorem s_valueOf (s a b c : Int32) (w : AH) (lv : Nat) : Call M_X3_valueOf lv [.int s, .int a, .int b, .int c] w = some (some (.int (vlI s a b c)), w) := by
  simp only [C_X3_valueOf, R_X3_valueOf, SB]
  unfold vlI
  by_cases g1 : s = -1
  · subst g1; simp
  · by_cases g2 : s = -2
    · subst g2; simp
    · by_cases g3 : s = -3
      · subst g3; simp
      · simp [g1, g2, g3]
def jnI (op x y : Int32) : Int32 :=
  if op = 124 then bI (decide (x ≠ 0 ∨ y ≠ 0)) else if op = 38 then bI (decide (x ≠ 0 ∧ y ≠ 0)) else if op = 60 then bI (decide (¬ y ≤ x)) else if op = 61 then bI (decide (x = y)) else if op = 62 then bI (decide (¬ x ≤ y)) else if op = 43 then x + y else if op = 45 then x - y else if op = 42 then x * y else if op = 47 then (if y = 0 then 0 else x / y) else (if y = 0 then 0 else x - x / y * y)
theorem s_joined (op x y : Int32) (w : AH) (lv : Nat) : Call M_X3_joined lv [.int op, .int x, .int y] w = some (some (.int (jnI op x y)), w) := by
  simp only [C_X3_joined, R_X3_joined_p0, R_X3_joined_p1, SB]
  unfold jnI bI
  by_cases g1 : op = 124
  · subst g1; by_cases q1 : x = 0 <;> by_cases q2 : y = 0 <;> simp [q1, q2]
  · by_cases g2 : op = 38
    · subst g2; by_cases q1 : x = 0 <;> by_cases q2 : y = 0 <;> simp [q1, q2]
    · by_cases g3 : op = 60
      · subst g3; by_cases q1 : y ≤ x <;> simp [q1]
      · by_cases g4 : op = 61
        · subst g4; by_cases q1 : x = y <;> simp [q1]
        · by_cases g5 : op = 62
          · subst g5; by_cases q1 : x ≤ y <;> simp [q1]
          · by_cases g6 : op = 43
            · subst g6; simp
            · by_cases g7 : op = 45
              · subst g7; simp
              · by_cases g8 : op = 42
                · subst g8; simp
                · by_cases g9 : op = 47
                  · subst g9; by_cases q1 : y = 0 <;> simp [q1]
                  · by_cases q1 : y = 0 <;> simp [g1, g2, g3, g4, g5, g6, g7, g8, g9, q1]
def LwAt (w : AH) (l L : Nat) (f : Nat → Int32) : Prop := (gf (hg w l) 3 0 = some (.ref (l + 1))) ∧ (gf (hg w l) 3 1 = some (.ref (l + 3))) ∧ (RowAt w (l + 1) (l + 2) 50 L f) ∧ (∃ G : Nat → Int32, hg w (l + 3) = .inl (0, 50, .inl G))
theorem LwAt.p0 {w : AH} {l L : Nat} {f : Nat → Int32} (h : LwAt w l L f) : gf (hg w l) 3 0 = some (.ref (l + 1)) := h.1
theorem LwAt.p1 {w : AH} {l L : Nat} {f : Nat → Int32} (h : LwAt w l L f) : gf (hg w l) 3 1 = some (.ref (l + 3)) := h.2.1
theorem LwAt.q {w : AH} {l L : Nat} {f : Nat → Int32} (h : LwAt w l L f) : RowAt w (l + 1) (l + 2) 50 L f := h.2.2.1
theorem LwAt.s {w : AH} {l L : Nat} {f : Nat → Int32} (h : LwAt w l L f) : ∃ G : Nat → Int32, hg w (l + 3) = .inl (0, 50, .inl G) := h.2.2.2
theorem LwAt.keep {w v : AH} {l L : Nat} {f : Nat → Int32} (h : LwAt w l L f) (e0 : hg v l = hg w l) (e1 : hg v (l + 1) = hg w (l + 1)) (e2 : hg v (l + 2) = hg w (l + 2)) (e3 : hg v (l + 3) = hg w (l + 3)) : LwAt v l L f := by
  refine ⟨by rw [e0]; exact h.p0, by rw [e0]; exact h.p1, h.q.keep e1 e2, by rw [e3]; exact h.s⟩
def wsG (x a b c : Int32) (s : Nat × (Nat → Int32)) : Nat × (Nat → Int32) :=
  if (10000 : Int32) ≤ x then
    (if x = 10033 then (if 0 < s.1 then (s.1, upd s.2 (s.1 - 1) (if s.2 (s.1 - 1) = 0 then 1 else 0)) else s)
     else if 1 < s.1 then (s.1 - 1, upd s.2 (s.1 - 2) (jnI (x - 10000) (s.2 (s.1 - 2)) (s.2 (s.1 - 1)))) else s)
  else if s.1 < 50 then (s.1 + 1, upd s.2 s.1 (vlI x a b c)) else s
def wsF (f : Nat → Int32) (a b c : Int32) : Nat → Nat × (Nat → Int32) → Nat × (Nat → Int32) := fun i s => wsG (f i) a b c s
theorem wsF_le {f : Nat → Int32} {a b c : Int32} {i : Nat} {s : Nat × (Nat → Int32)} (h : s.1 ≤ 50) : (wsF f a b c i s).1 ≤ 50 := by
  unfold wsF wsG
  split
  · split
    · split
      · exact h
      · exact h
    · split
      · show s.1 - 1 ≤ 50; omega
      · exact h
  · split
    · show s.1 + 1 ≤ 50; omega
    · exact h
theorem s_workedOut {w : AH} {l L : Nat} {f G0 : Nat → Int32} (h : LwAt w l L f) (hG : hg w (l + 3) = .inl (0, 50, .inl G0)) (a b c : Int32) (lv : Nat) : Call M_X3_workedOut lv [.ref l, .int a, .int b, .int c] w = some (some (.int ((foldN (wsF f a b c) L (0, G0)).2 0)), hs w (l + 3) (.inl (0, 50, .inl (foldN (wsF f a b c) L (0, G0)).2))) := by
  have hL : L ≤ 50 := h.q.2.2.2.2.1
  have keep : ∀ e, LwAt (hs w (l + 3) (.inl (0, 50, .inl e))) l L f := fun e => ⟨by rw [hs_ne _ _ (by omega)]; exact h.p0, by rw [hs_ne _ _ (by omega)]; exact h.p1, h.q.keep (hs_ne _ _ (by omega)) (hs_ne _ _ (by omega)), ⟨e, hs_eq _ _ _⟩⟩
  have hl := for_up (fun i (s : Nat × (Nat → Int32)) => Ex M_X3_workedOut lv 6 [some (.ref l), some (.int a), some (.int b), some (.int c), some (.int (nI s.1)), some (.int (nI i)), if i = 0 then none else some (.int (f (i - 1)))] [] (hs w (l + 3) (.inl (0, 50, .inl s.2)))) (wsF f a b c) (fun _ s => s.1 ≤ 50) L (by
    intro i s hi ht
    obtain ⟨t, G⟩ := s
    have ht : t ≤ 50 := ht
    refine ⟨?_, wsF_le ht⟩
    have k := keep G
    have e1 : (nI L ≤ nI i) = False := by rw [le_nI (by omega) (by omega)]; simp; omega
    have gt : Call M_X6_get 60 [.ref (l + 1), .int (nI i)] (hs w (l + 3) (.inl (0, 50, .inl G))) = some (some (.int (f i)), hs w (l + 3) (.inl (0, 50, .inl G))) := by
      rw [s_Row_get k.q, inR_nI (by omega), decide_eq_true hi, if_pos rfl, nI_c (by omega)]
    have e50 : (nI 50 ≤ nI t) = (50 ≤ t) := le_nI (by decide) (by omega)
    have e0 : (nI t ≤ 0) = (t = 0) := by rw [show (0 : Int32) = nI 0 from rfl, le_nI (by omega) (by decide)]; apply propext; omega
    have e2 : (nI t ≤ 1) = (t ≤ 1) := by rw [show (1 : Int32) = nI 1 from rfl, le_nI (by omega) (by decide)]
    by_cases c1 : (10000 : Int32) ≤ f i
    · by_cases c2 : f i = 10033
      · by_cases c3 : 0 < t
        · have t1 : nI t - 1 = nI (t - 1) := pk_sub (a := t) (b := 1) c3
          have q : wsF f a b c i (t, G) = (t, upd G (t - 1) (if G (t - 1) = 0 then 1 else 0)) := by
            unfold wsF wsG; rw [if_pos c1, if_pos c2, if_pos c3]
          have c4 : (t = 0) = False := by simp; omega
          rw [q, H_X3_workedOut_6]
          simp only [R_X3_workedOut_p0, R_X3_workedOut_p1, SB, k.p0, k.p1, k.q.2.1, e1, clK_gf k.q.1, gt, if_true, if_false, ls1s, eq_true c1, eq_true c2, not_true_eq_false, e0, c4, t1, aI_0 (show t - 1 < 50 by omega) (show 50 ≤ 2147483648 by decide), uI_0 (show t - 1 < 50 by omega) (show 50 ≤ 2147483648 by decide), hs_hs, nI_1, Nat.succ_ne_zero, Nat.add_sub_cancel]
          by_cases c5 : G (t - 1) = 0 <;> simp [c5]
        · have q : wsF f a b c i (t, G) = (t, G) := by
            unfold wsF wsG; rw [if_pos c1, if_pos c2, if_neg c3]
          have c4 : (t = 0) = True := by simp; omega
          rw [q, H_X3_workedOut_6]
          simp only [R_X3_workedOut_p0, R_X3_workedOut_p1, SB, k.p0, k.p1, k.q.2.1, e1, clK_gf k.q.1, gt, if_true, if_false, ls1s, eq_true c1, eq_true c2, not_true_eq_false, e0, c4, nI_1, Nat.succ_ne_zero, Nat.add_sub_cancel]
      · by_cases c3 : 1 < t
        · have t1 : nI t - 1 = nI (t - 1) := pk_sub (a := t) (b := 1) (by omega)
          have t2 : nI (t - 1) - 1 = nI (t - 2) := pk_sub (a := t - 1) (b := 1) (by omega)
          have t3 : nI t + (-1) = nI (t - 1) := by
            have := pk_m1 (t - 1)
            rw [show t - 1 + 1 = t by omega] at this
            exact this
          have q : wsF f a b c i (t, G) = (t - 1, upd G (t - 2) (jnI (f i - 10000) (G (t - 2)) (G (t - 1)))) := by
            unfold wsF wsG; rw [if_pos c1, if_neg c2, if_pos c3]
          have c4 : (t ≤ 1) = False := by simp; omega
          rw [q, H_X3_workedOut_6]
          simp only [R_X3_workedOut_p0, R_X3_workedOut_p1, SB, k.p0, k.p1, k.q.2.1, e1, clK_gf k.q.1, gt, if_true, if_false, ls1s, eq_true c1, eq_false c2, not_false_eq_true, e2, c4, t3, t2, aI_0 (show t - 1 < 50 by omega) (show 50 ≤ 2147483648 by decide), aI_0 (show t - 2 < 50 by omega) (show 50 ≤ 2147483648 by decide), s_joined, uI_0 (show t - 2 < 50 by omega) (show 50 ≤ 2147483648 by decide), hs_hs, nI_1, Nat.succ_ne_zero, Nat.add_sub_cancel]
        · have q : wsF f a b c i (t, G) = (t, G) := by
            unfold wsF wsG; rw [if_pos c1, if_neg c2, if_neg c3]
          have c4 : (t ≤ 1) = True := by simp; omega
          rw [q, H_X3_workedOut_6]
          simp only [R_X3_workedOut_p0, R_X3_workedOut_p1, SB, k.p0, k.p1, k.q.2.1, e1, clK_gf k.q.1, gt, if_true, if_false, ls1s, eq_true c1, eq_false c2, not_false_eq_true, e2, c4, nI_1, Nat.succ_ne_zero, Nat.add_sub_cancel]
    · by_cases c3 : t < 50
      · have q : wsF f a b c i (t, G) = (t + 1, upd G t (vlI (f i) a b c)) := by
          unfold wsF wsG; rw [if_neg c1, if_pos c3]
        have c4 : (50 ≤ t) = False := by simp; omega
        rw [q, H_X3_workedOut_6]
        simp only [R_X3_workedOut_p0, R_X3_workedOut_p1, SB, k.p0, k.p1, k.q.2.1, e1, clK_gf k.q.1, gt, if_true, if_false, ls1s, eq_false c1, aL_0, e50, c4, s_valueOf, uI_0 c3 (show 50 ≤ 2147483648 by decide), hs_hs, nI_1, Nat.succ_ne_zero, Nat.add_sub_cancel]
      · have q : wsF f a b c i (t, G) = (t, G) := by
          unfold wsF wsG; rw [if_neg c1, if_neg c3]
        have c4 : (50 ≤ t) = True := by simp; omega
        rw [q, H_X3_workedOut_6]
        simp only [R_X3_workedOut_p0, R_X3_workedOut_p1, SB, k.p0, k.p1, k.q.2.1, e1, clK_gf k.q.1, gt, if_true, if_false, ls1s, eq_false c1, aL_0, e50, c4, nI_1, Nat.succ_ne_zero, Nat.add_sub_cancel]) L (0, G0) (Nat.le_refl _) (Nat.zero_le _)
  have hw : hs w (l + 3) (.inl (0, 50, .inl G0)) = w := by rw [← hG, hs_same]
  have k := keep (foldN (wsF f a b c) L (0, G0)).2
  have hl1 := hl.1
  rw [show (0, G0).2 = G0 from rfl, hw] at hl1
  simp only [C_X3_workedOut, R_X3_workedOut_p0, SB, ls1s, show (0 : Int32) = nI 0 from rfl]
  refine (show _ = _ from rfl).trans (hl1.trans ?_)
  rw [H_X3_workedOut_6]
  simp only [R_X3_workedOut_p0, R_X3_workedOut_p1, SB, k.p0, k.p1, k.q.2.1, Int32.le_refl, if_true, show (0 : Int32) = nI 0 from rfl, aI_0 (show 0 < 50 by decide) (show 50 ≤ 2147483648 by decide)]
