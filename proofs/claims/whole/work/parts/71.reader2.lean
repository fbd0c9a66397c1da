/-! ===== the Reader: levels and factors ===== -/
theorem s_opsOf (w : AH) (lv : Nat) : ∀ l, l < 5 → Call M_X4_operatorsOf lv [.int (nI l)] w = some (some (.ref (3 + (4 + l))), w) := by
  intro l hl
  have n2 : ∀ k j, k < 7 → j < 7 → (nI k = nI j) = (k = j) := fun k j a b => eq_nI (by omega) (by omega)
  match l, hl with
  | 0, _ => simp only [C_X4_operatorsOf, R_X4_operatorsOf, SB, show (0 : Int32) = nI 0 from rfl, if_true]
  | 1, _ => simp only [C_X4_operatorsOf, R_X4_operatorsOf, SB, show (nI 1 = (0 : Int32)) = False from by decide, show (nI 1 = (1 : Int32)) = True from by decide, if_true, if_false]
  | 2, _ => simp only [C_X4_operatorsOf, R_X4_operatorsOf, SB, show (nI 2 = (0 : Int32)) = False from by decide, show (nI 2 = (1 : Int32)) = False from by decide, show (nI 2 = (2 : Int32)) = True from by decide, if_true, if_false]
  | 3, _ => simp only [C_X4_operatorsOf, R_X4_operatorsOf, SB, show (nI 3 = (0 : Int32)) = False from by decide, show (nI 3 = (1 : Int32)) = False from by decide, show (nI 3 = (2 : Int32)) = False from by decide, show (nI 3 = (3 : Int32)) = True from by decide, if_true, if_false]
  | 4, _ => simp only [C_X4_operatorsOf, R_X4_operatorsOf, SB, show (nI 4 = (0 : Int32)) = False from by decide, show (nI 4 = (1 : Int32)) = False from by decide, show (nI 4 = (2 : Int32)) = False from by decide, show (nI 4 = (3 : Int32)) = False from by decide, if_false]
  | l + 5, h => exact absurd h (by omega)
/-- what reading level 5 - d with o opens left does -/
def RdL (w : AH) (n nm : Nat) (B F0 : Nat → Int32) (o : Nat) (P : Nat → PR) (d : Nat) : Prop := ∀ lv p s, 7 * o + d + 1 ≤ lv → p ≤ n → s.length ≤ p → Call M_X4_readLevel lv [.ref 99, .int (nI (5 - d)), .int (nI (5 - o))] (rW w nm F0 p false s) = some (none, rW w nm F0 (P p).2.1 (!(P p).1) (s ++ (P p).2.2.1))
def RdF (w : AH) (n nm : Nat) (B F0 : Nat → Int32) (o : Nat) (P : Nat → PR) : Prop := ∀ lv p s, 7 * o ≤ lv → p ≤ n → s.length ≤ p → Call M_X4_readFactor lv [.ref 99, .int (nI (5 - o))] (rW w nm F0 p false s) = some (none, rW w nm F0 (P p).2.1 (!(P p).1) (s ++ (P p).2.2.1))
theorem rd_lev {w : AH} {n nm : Nat} {B F0 : Nat → Int32} (h : RB w n B) (hn : n ≤ 50) {o : Nat} (ho : o ≤ 5) {P : Nat → PR} (hP : ∀ p, p ≤ n → pW n p (P p)) (hF : RdF w n nm B F0 o P) : ∀ d, d ≤ 5 → RdL w n nm B F0 o (pLv (cB n B) P d) d := by
  intro d
  induction d with
  | zero =>
    intro _ lv p s h1 h2 h3
    obtain ⟨lv, rfl⟩ : ∃ l, lv = l + 1 := ⟨lv - 1, by omega⟩
    have r0 : hg (rW w nm F0 p false s) 99 = rob nm p false := rfl
    have := hF lv p s (by omega) h2 h3
    simp only [C_X4_readLevel, R_X4_readLevel_p0, SB, show (nI (5 - 0) < (5 : Int32)) = False from by decide, if_false, r0, rd_g, this, if_true]
    rfl
  | succ d ih =>
    intro hd lv p s h1 h2 h3
    obtain ⟨lv, rfl⟩ : ∃ l, lv = l + 1 := ⟨lv - 1, by omega⟩
    have ih := ih (by omega)
    have e0 : nI (5 - (d + 1)) + 1 = nI (5 - d) := by rw [nI_1]; congr 1; omega
    have e1 : (nI (5 - (d + 1)) < (5 : Int32)) = True := by rw [show (5 : Int32) = nI 5 from rfl, lt_nI (by omega) (by decide)]; simp; omega
    have e2 : (nI (5 - (d + 1)) = (2 : Int32)) = (d = 2) := by rw [show (2 : Int32) = nI 2 from rfl, eq_nI (by omega) (by decide)]; apply propext; omega
    have r0 : ∀ p fl s, hg (rW w nm F0 p fl s) 99 = rob nm p fl := fun _ _ _ => rfl
    have r1 : ∀ p fl s, gf (hg (rW w nm F0 p fl s) 100) 6 0 = some (.ref 101) := fun _ _ _ => rfl
    have hW : ∀ p, p ≤ n → pW n p (pLv (cB n B) P d p) := fun p hp => pLv_w hP d p hp
    have hl : ∀ f i (r : PR) (o5 : Option Value), i + f = (if d = 2 then 1 else 50) → pW n p r → Ex M_X4_readLevel (lv + 1) 34 [some (.ref 99), some (.int (nI (5 - (d + 1)))), some (.int (nI (5 - o))), some (.int (nI (if d = 2 then 1 else 50))), some (.int (nI i)), o5] [] (rW w nm F0 r.2.1 (!r.1) (s ++ r.2.2.1)) = some (none, rW w nm F0 (pLp (cB n B) (4 - d) (pLv (cB n B) P d) f r).2.1 (!(pLp (cB n B) (4 - d) (pLv (cB n B) P d) f r).1) (s ++ (pLp (cB n B) (4 - d) (pLv (cB n B) P d) f r).2.2.1)) := by
      intro f
      induction f with
      | zero =>
        intro i r o5 hi hr
        have : i = (if d = 2 then 1 else 50) := by omega
        subst this
        rw [H_X4_readLevel_34]
        simp only [R_X4_readLevel_p0, R_X4_readLevel_p1, SB, Int32.le_refl, if_true, pLp]
      | succ f ihf =>
        intro i r o5 hi hr
        have hm : (if d = 2 then 1 else 50) ≤ 50 := by split <;> omega
        have e3 : (nI (if d = 2 then 1 else 50) ≤ nI i) = False := by rw [le_nI (by omega) (by omega)]; simp; omega
        have hr2 := hr
        obtain ⟨w1, w2, w3⟩ := hr
        by_cases q0 : r.1 = true
        · have ia := s_isAhead (nm := nm) (F0 := F0) (fl := !r.1) (s := s ++ r.2.2.1) h (show r.2.1 ≤ 50 by omega) (j := 4 + (5 - (d + 1))) (by omega) 60
          have ah := s_ahead (nm := nm) (F0 := F0) (fl := !r.1) (s := s ++ r.2.2.1) h (show r.2.1 ≤ 50 by omega) 60
          have so := s_opsOf (rW w nm F0 r.2.1 (!r.1) (s ++ r.2.2.1)) 60 (5 - (d + 1)) (by omega)
          have stb : stsB (4 + (5 - (d + 1))) (cB n B r.2.1) = isOp (4 - d) (cB n B r.2.1) := by
            unfold stsB
            rw [if_neg (by omega), if_neg (by omega), if_neg (by omega), if_neg (by omega)]
            congr 1; omega
          rw [stb] at ia
          by_cases q1 : isOp (4 - d) (cB n B r.2.1) = true
          · have q2 := isOp_lt q1
            have q3 := (hW (r.2.1 + 1) (by omega))
            have e5 : pLp (cB n B) (4 - d) (pLv (cB n B) P d) (f + 1) r = pLp (cB n B) (4 - d) (pLv (cB n B) P d) f (pJn (cB n B r.2.1) r (pLv (cB n B) P d (r.2.1 + 1))) := by
              show (if _ then _ else _) = _
              rw [if_pos ⟨q0, q1⟩]
            have hW2 : pW n p (pJn (cB n B r.2.1) r (pLv (cB n B) P d (r.2.1 + 1))) := by
              unfold pW at q3 ⊢
              unfold pJn
              dsimp only
              rw [List.length_append, List.length_append]
              show _ ∧ _ ∧ _ + _ + 1 + _ ≤ _
              omega
            have nx := ihf (i + 1) (pJn (cB n B r.2.1) r (pLv (cB n B) P d (r.2.1 + 1))) (some (.int (cB n B r.2.1))) (by omega) hW2
            rw [e5, ← nx]
            have cb : cB n B r.2.1 = B r.2.1 := by unfold cB; rw [if_pos q2]
            rw [if_pos q2, ← cb] at ah
            have st : ∀ q f, hs (rW w nm F0 r.2.1 (!r.1) (s ++ r.2.2.1)) 99 (rob nm q f) = rW w nm F0 q f (s ++ r.2.2.1) := fun q f => rd_s _ _ _ _ _ _ _ _
            have l1 : (s ++ r.2.2.1).length ≤ r.2.1 + 1 := by rw [List.length_append]; omega
            have rl := ih lv (r.2.1 + 1) (s ++ r.2.2.1) (by omega) (by omega) l1
            have q3b := q3
            unfold pW at q3b
            have ad := rW_add (w := w) (nm := nm) (p := (pLv (cB n B) P d (r.2.1 + 1)).2.1) (F0 := F0) (fl := !(pLv (cB n B) P d (r.2.1 + 1)).1) (s := s ++ r.2.2.1 ++ (pLv (cB n B) P d (r.2.1 + 1)).2.2.1) (by rw [List.length_append, List.length_append]; omega) (10000 + cB n B r.2.1) 60
            rw [q1] at ia
            rw [H_X4_readLevel_34]
            rw [q0] at ia ah so st ⊢
            simp only [Bool.not_true] at ia ah so st ⊢
            simp only [List.append_assoc] at ad rl
            simp only [R_X4_readLevel_p0, R_X4_readLevel_p1, SB, e3, if_false, if_true, r0, rd_g, Bool.not_true, bI_f, not_true_eq_false, so, ia, bI_e0, Bool.true_eq_false, ah, ls1s, nI_1, rd_p3, rd_p4, st, e0, rl, clK_gf (r1 _ _ _), ad, List.append_assoc, pJn]
          · have e5 : pLp (cB n B) (4 - d) (pLv (cB n B) P d) (f + 1) r = r := by
              show (if _ then _ else _) = _
              rw [if_neg (fun x => q1 x.2)]
            rw [e5, H_X4_readLevel_34]
            rw [Bool.eq_false_iff.mpr q1] at ia
            rw [q0] at ia so ⊢
            simp only [Bool.not_true] at ia so ⊢
            simp only [R_X4_readLevel_p0, R_X4_readLevel_p1, SB, e3, if_false, if_true, r0, rd_g, Bool.not_true, bI_f, not_true_eq_false, so, ia, bI_e0]
        · have e5 : pLp (cB n B) (4 - d) (pLv (cB n B) P d) (f + 1) r = r := by
            show (if _ then _ else _) = _
            rw [if_neg (fun x => q0 x.1)]
          rw [e5, H_X4_readLevel_34]
          rw [Bool.eq_false_iff.mpr q0]
          simp only [R_X4_readLevel_p0, R_X4_readLevel_p1, SB, e3, if_false, if_true, r0, rd_g, Bool.not_false, bI_t, show ((1 : Int32) = 0) = False from by simp, not_false_eq_true]
    have rl := ih lv p s (by omega) h2 h3
    have nx := hl (if d = 2 then 1 else 50) 0 (pLv (cB n B) P d p) none (by omega) (hW p h2)
    simp only [C_X4_readLevel, R_X4_readLevel_p0, SB, e1, if_true, e0, r0, rd_g, rl, e2, ls1s]
    by_cases q : d = 2
    · subst q
      simp only [not_true_eq_false, if_false, ls1s, SB, show (1 : Int32) = nI 1 from rfl, show (0 : Int32) = nI 0 from rfl, if_true, R_X4_readLevel_p0] at nx ⊢
      exact nx
    · simp only [q, not_false_eq_true, if_true, ls1s, SB, show (50 : Int32) = nI 50 from rfl, show (0 : Int32) = nI 0 from rfl, if_false, R_X4_readLevel_p0] at nx ⊢
      refine nx.trans ?_
      show _ = some (none, rW w nm F0 (pLp (cB n B) (4 - d) (pLv (cB n B) P d) (if d = 2 then 1 else 50) (pLv (cB n B) P d p)).2.1 _ _)
      rw [if_neg q]
      show _ = some (none, rW w nm F0 _ (!(pLp (cB n B) (4 - d) (pLv (cB n B) P d) (if d = 2 then 1 else 50) (pLv (cB n B) P d p)).1) (s ++ (pLp (cB n B) (4 - d) (pLv (cB n B) P d) (if d = 2 then 1 else 50) (pLv (cB n B) P d p)).2.2.1))
      rw [if_neg q]
theorem rd_fac {w : AH} {n u : Nat} {B F0 : Nat → Int32} (h : RB w n B) (hn : n ≤ 50) (hu : u < 2) : ∀ o, o ≤ 5 → RdF w n (4 + u) B F0 o (pFc (cB n B) u o) := by
  have r0 : ∀ p fl s, hg (rW w (4 + u) F0 p fl s) 99 = rob (4 + u) p fl := fun _ _ _ => rfl
  have r1 : ∀ p fl s, gf (hg (rW w (4 + u) F0 p fl s) 100) 6 0 = some (.ref 101) := fun _ _ _ => rfl
  have stw : ∀ p fl s q f, hs (rW w (4 + u) F0 p fl s) 99 (rob (4 + u) q f) = rW w (4 + u) F0 q f s := fun _ _ _ _ _ => rd_s _ _ _ _ _ _ _ _
  -- numbers and names, ahead of the rest
  have num : ∀ lv p s o, p ≤ n → s.length ≤ p → isDg (cB n B p) = true → Call M_X4_readFactor lv [.ref 99, .int (nI (5 - o))] (rW w (4 + u) F0 p false s) = some (none, rW w (4 + u) F0 (pNum (cB n B) p).2.1 (!(pNum (cB n B) p).1) (s ++ (pNum (cB n B) p).2.2.1)) := by
    intro lv p s o hp hl g
    have q1 := isDg_lt g
    have ia : Call M_X4_isAhead 60 [.ref 99, .ref 6] (rW w (4 + u) F0 p false s) = some (some (.int (bI (isDg (cB n B p)))), rW w (4 + u) F0 p false s) := s_isAhead (nm := 4 + u) (F0 := F0) (fl := false) (s := s) h (show p ≤ 50 by omega) (j := 3) (by decide) 60
    rw [g] at ia
    have rn := s_readNumber (nm := 4 + u) (F0 := F0) (s := s) h hn hp (by omega) 60
    simp only [C_X4_readFactor, R_X4_readFactor_p0, R_X4_readFactor_p1, SB, r0, rd_g, if_true, ia, bI_e0, Bool.true_eq_false, if_false, rn, pNum, Bool.not_true]
  have nam : ∀ lv p s o, p ≤ n → s.length ≤ p → ¬ isDg (cB n B p) = true → nmN u (cB n B p) < 3 → Call M_X4_readFactor lv [.ref 99, .int (nI (5 - o))] (rW w (4 + u) F0 p false s) = some (none, rW w (4 + u) F0 (pNam (nmN u (cB n B p)) p).2.1 (!(pNam (nmN u (cB n B p)) p).1) (s ++ (pNam (nmN u (cB n B p)) p).2.2.1)) := by
    intro lv p s o hp hl g g2
    have q1 := nmN_lt g2
    have ia : Call M_X4_isAhead 60 [.ref 99, .ref 6] (rW w (4 + u) F0 p false s) = some (some (.int (bI (isDg (cB n B p)))), rW w (4 + u) F0 p false s) := s_isAhead (nm := 4 + u) (F0 := F0) (fl := false) (s := s) h (show p ≤ 50 by omega) (j := 3) (by decide) 60
    rw [Bool.eq_false_iff.mpr g] at ia
    have ib := s_isAhead (nm := 4 + u) (F0 := F0) (fl := false) (s := s) h (show p ≤ 50 by omega) (j := 1 + u) (by omega) 60
    have sb : stsB (1 + u) (cB n B p) = true := by
      have : u = 0 ∨ u = 1 := by omega
      rcases this with rfl | rfl
      · unfold stsB; rw [if_neg (by decide), if_pos (by decide)]; exact decide_eq_true g2
      · unfold stsB; rw [if_neg (by decide), if_neg (by decide), if_pos (by decide)]; exact decide_eq_true g2
    rw [sb, show 3 + (1 + u) = 4 + u by omega] at ib
    have ah := s_ahead (nm := 4 + u) (F0 := F0) (fl := false) (s := s) h (show p ≤ 50 by omega) 60
    obtain ⟨m, m1, m2⟩ := h.2.2 p q1
    have c : cB n B p = nI m := by unfold cB; rw [if_pos q1, m2]
    rw [if_pos q1, m2] at ah
    obtain ⟨t1, t2⟩ := h.2.1 (1 + u) (by omega)
    rw [show 3 + (1 + u) = 4 + u by omega] at t1
    have u1 : hg (rW w (4 + u) F0 p false s) (4 + u) = .inr (50, [.ref (12 + (1 + u)), .int 0]) := by unfold rW; rw [rd_n (by omega)]; exact t1
    have u2 : hg (rW w (4 + u) F0 p false s) (12 + (1 + u)) = .inl (11, sbN (1 + u), .inl (sbF (1 + u))) := by unfold rW; rw [rd_n (by omega)]; exact t2
    have u3 : clK (hg (rW w (4 + u) F0 p false s) (4 + u)) = 50 := by rw [u1]; rfl
    have ix := s_indexOf u1 u2 (sbN_lt (1 + u) (by omega)) m1 60
    rw [nm_tab u hu m m1 (by rw [← c]; exact g2), ← c] at ix
    have ad := rW_add (w := w) (nm := 4 + u) (p := p) (F0 := F0) (fl := false) (s := s) (by omega) (-1 - nI (nmN u (cB n B p))) 60
    rw [← c] at ah
    have i2 : ((cB n B p).toUInt32 % 65536).toInt32 = cB n B p := by rw [c]; exact i2c_tab m m1
    simp only [C_X4_readFactor, R_X4_readFactor_p0, R_X4_readFactor_p1, SB, r0, rd_g, if_true, ia, bI_e0, if_false, ib, Bool.true_eq_false, ah, i2, u3, ix, clK_gf (r1 _ _ _), ad, nI_1, rd_p3, rd_p4, stw, pNam, Bool.not_true]
  -- neither
  have non : ∀ lv p s o, p ≤ n → ¬ isDg (cB n B p) = true → ¬ nmN u (cB n B p) < 3 → Call M_X4_readFactor lv [.ref 99, .int (nI (5 - o))] (rW w (4 + u) F0 p false s) = Ex M_X4_readFactor lv 62 [some (.ref 99), some (.int (nI (5 - o)))] [] (rW w (4 + u) F0 p false s) := by
    intro lv p s o hp g g2
    have ia : Call M_X4_isAhead 60 [.ref 99, .ref 6] (rW w (4 + u) F0 p false s) = some (some (.int (bI (isDg (cB n B p)))), rW w (4 + u) F0 p false s) := s_isAhead (nm := 4 + u) (F0 := F0) (fl := false) (s := s) h (show p ≤ 50 by omega) (j := 3) (by decide) 60
    rw [Bool.eq_false_iff.mpr g] at ia
    have ib := s_isAhead (nm := 4 + u) (F0 := F0) (fl := false) (s := s) h (show p ≤ 50 by omega) (j := 1 + u) (by omega) 60
    have sb : stsB (1 + u) (cB n B p) = false := by
      have : u = 0 ∨ u = 1 := by omega
      rcases this with rfl | rfl
      · unfold stsB; rw [if_neg (by decide), if_pos (by decide)]; exact decide_eq_false g2
      · unfold stsB; rw [if_neg (by decide), if_neg (by decide), if_pos (by decide)]; exact decide_eq_false g2
    rw [sb, show 3 + (1 + u) = 4 + u by omega] at ib
    simp only [C_X4_readFactor, R_X4_readFactor_p0, R_X4_readFactor_p1, SB, r0, rd_g, if_true, ia, bI_e0, if_false, ib, Bool.true_eq_false]
  have fail : ∀ lv p s o, Ex M_X4_readFactor lv 146 [some (.ref 99), some (.int (nI (5 - o)))] [] (rW w (4 + u) F0 p false s) = some (none, rW w (4 + u) F0 (pFail p).2.1 (!(pFail p).1) (s ++ (pFail p).2.2.1)) := by
    intro lv p s o
    simp only [R_X4_readFactor_p0, R_X4_readFactor_p1, SB, r0, rd_g, rd_p3, rd_p4, stw, if_true, pFail, Bool.not_false, List.append_nil]
  intro o
  induction o with
  | zero =>
    intro _ lv p s h1 h2 h3
    show _ = some (none, rW w (4 + u) F0 (pAt (cB n B) u p (pFail p)).2.1 (!(pAt (cB n B) u p (pFail p)).1) (s ++ (pAt (cB n B) u p (pFail p)).2.2.1))
    unfold pAt
    by_cases g : isDg (cB n B p) = true
    · rw [if_pos g]; exact num lv p s 0 h2 h3 g
    · rw [if_neg g]
      by_cases g2 : nmN u (cB n B p) < 3
      · rw [if_pos g2]; exact nam lv p s 0 h2 h3 g g2
      · rw [if_neg g2, non lv p s 0 h2 g g2, ← fail lv p s 0]
        simp only [R_X4_readFactor_p0, R_X4_readFactor_p1, SB, show ((5 : Int32) ≤ nI (5 - 0)) = True from by decide, if_true]
  | succ o ih =>
    intro ho lv p s h1 h2 h3
    have ih := ih (by omega)
    obtain ⟨lv, rfl⟩ : ∃ l, lv = l + 1 := ⟨lv - 1, by omega⟩
    have e0 : nI (5 - (o + 1)) + 1 = nI (5 - o) := by rw [nI_1]; congr 1; omega
    have e1 : ((5 : Int32) ≤ nI (5 - (o + 1))) = False := by rw [show (5 : Int32) = nI 5 from rfl, le_nI (by decide) (by omega)]; simp; omega
    have ah := s_ahead (nm := 4 + u) (F0 := F0) (fl := false) (s := s) h (show p ≤ 50 by omega) 60
    have z : ∀ k : Nat, 0 < k → k < 1000 → ((if p < n then B p else 0) = nI k) = (cB n B p = nI k) := by
      intro k hk hk2
      unfold cB
      by_cases q : p < n
      · rw [if_pos q, if_pos q]
      · rw [if_neg q, if_neg q]
        apply propext
        constructor
        · intro x; rw [show (0 : Int32) = nI 0 from rfl, eq_nI (by decide) (by omega)] at x; omega
        · intro x
          have := congrArg Int32.toInt x
          rw [nI_t (by omega), show (-1 : Int32).toInt = -1 from by decide] at this
          omega
    have z33 := z 33 (by decide) (by decide)
    have z40 := z 40 (by decide) (by decide)
    show _ = some (none, rW w (4 + u) F0 (pAt (cB n B) u p (if cB n B p = 33 then pNot (pFc (cB n B) u o (p + 1)) else if cB n B p = 40 then pCl (cB n B) (pLv (cB n B) (pFc (cB n B) u o) 5 (p + 1)) else pFail p)).2.1 (!(pAt (cB n B) u p (if cB n B p = 33 then pNot (pFc (cB n B) u o (p + 1)) else if cB n B p = 40 then pCl (cB n B) (pLv (cB n B) (pFc (cB n B) u o) 5 (p + 1)) else pFail p)).1) (s ++ (pAt (cB n B) u p (if cB n B p = 33 then pNot (pFc (cB n B) u o (p + 1)) else if cB n B p = 40 then pCl (cB n B) (pLv (cB n B) (pFc (cB n B) u o) 5 (p + 1)) else pFail p)).2.2.1))
    unfold pAt
    by_cases g : isDg (cB n B p) = true
    · rw [if_pos g]; exact num _ p s (o + 1) h2 h3 g
    · rw [if_neg g]
      by_cases g2 : nmN u (cB n B p) < 3
      · rw [if_pos g2]; exact nam _ p s (o + 1) h2 h3 g g2
      · rw [if_neg g2, non _ p s (o + 1) h2 g g2]
        by_cases g3 : cB n B p = 33
        · rw [if_pos g3]
          have q1 : p < n := cB_lt (by rw [g3]; decide)
          have y : ((if p < n then B p else 0) = (33 : Int32)) = True := by rw [show (33 : Int32) = nI 33 from rfl, z33]; exact eq_true g3
          have fa := ih lv (p + 1) s (by omega) (by omega) (by omega)
          have wq := pFc_w (B := B) (u := u) o (p + 1) (show p + 1 ≤ n by omega)
          unfold pW at wq
          have ad := rW_add (w := w) (nm := 4 + u) (p := (pFc (cB n B) u o (p + 1)).2.1) (F0 := F0) (fl := !(pFc (cB n B) u o (p + 1)).1) (s := s ++ (pFc (cB n B) u o (p + 1)).2.2.1) (by rw [List.length_append]; omega) 10033 60
          simp only [R_X4_readFactor_p0, R_X4_readFactor_p1, SB, e1, if_false, if_true, r0, rd_g, ah, y, not_true_eq_false, nI_1, rd_p3, rd_p4, stw, e0, fa, clK_gf (r1 _ _ _), ad, pNot, List.append_assoc]
        · rw [if_neg g3]
          have y3 : ((if p < n then B p else 0) = (33 : Int32)) = False := by rw [show (33 : Int32) = nI 33 from rfl, z33]; exact eq_false g3
          by_cases g4 : cB n B p = 40
          · rw [if_pos g4]
            have q1 : p < n := cB_lt (by rw [g4]; decide)
            have y : ((if p < n then B p else 0) = (40 : Int32)) = True := by rw [show (40 : Int32) = nI 40 from rfl, z40]; exact eq_true g4
            have rl : Call M_X4_readLevel lv [.ref 99, .int 0, .int (nI (5 - o))] (rW w (4 + u) F0 (p + 1) false s) = _ := rd_lev h hn (show o ≤ 5 by omega) (fun p hp => pFc_w o p hp) ih 5 (Nat.le_refl _) lv (p + 1) s (by omega) (by omega) (by omega)
            have wq := pLv_w (B := B) (P := pFc (cB n B) u o) (fun p hp => pFc_w o p hp) 5 (p + 1) (show p + 1 ≤ n by omega)
            generalize pLv (cB n B) (pFc (cB n B) u o) 5 (p + 1) = r at rl wq ⊢
            unfold pW at wq
            have cl := s_close (nm := 4 + u) (F0 := F0) (s := s ++ r.2.2.1) (fl := !r.1) h (show r.2.1 ≤ 50 by omega) 60
            simp only [R_X4_readFactor_p0, R_X4_readFactor_p1, SB, e1, if_false, if_true, r0, rd_g, ah, y3, y, not_true_eq_false, not_false_eq_true, nI_1, rd_p3, rd_p4, stw, e0, rl, cl]
            unfold pCl
            cases hr : r.1 with
            | false => simp
            | true =>
              by_cases q4 : cB n B r.2.1 = 41
              · simp [q4]
              · simp [q4]
          · rw [if_neg g4]
            have y : ((if p < n then B p else 0) = (40 : Int32)) = False := by rw [show (40 : Int32) = nI 40 from rfl, z40]; exact eq_false g4
            rw [← fail (lv + 1) p s (o + 1)]
            simp only [R_X4_readFactor_p0, R_X4_readFactor_p1, SB, e1, if_false, if_true, r0, rd_g, ah, y3, y, not_false_eq_true]
/-- what is read of the tape: 4 + u, the names of the use u -/
theorem s_readAll {w : AH} {n u : Nat} {B F0 : Nat → Int32} (h : RB w n B) (hn : n ≤ 50) (hu : u < 2) : Call M_X4_readLevel 60 [.ref 99, .int 0, .int 0] (rW w (4 + u) F0 0 false []) = some (none, rW w (4 + u) F0 (pT u n B).2.1 (!(pT u n B).1) (pT u n B).2.2.1) := by
  have := rd_lev h hn (show 5 ≤ 5 by omega) (fun p hp => pFc_w 5 p hp) (rd_fac (F0 := F0) h hn hu 5 (by omega)) 5 (Nat.le_refl _) 60 0 [] (by omega) (Nat.zero_le _) (Nat.le_refl _)
  exact this
/-- a Reader at 99, its signs: L of them, f -/
def RdAt (w : AH) (L : Nat) (f : Nat → Int32) : Prop := (∃ b nm p fl, hg w 99 = .inr (4, [.ref 100, .ref b, .ref nm, .int p, .int fl])) ∧ hg w 100 = .inr (6, [.ref 101, .int (nI L)]) ∧ hg w 101 = .inl (0, 50, .inl f) ∧ L ≤ 50
theorem RdAt.row {w : AH} {L : Nat} {f : Nat → Int32} (h : RdAt w L f) : RowAt w 100 101 50 L f := ⟨by rw [h.2.1]; rfl, by rw [h.2.1]; rfl, h.2.2.1, by decide, h.2.2.2, by decide⟩
theorem rowL_0 (f : Nat → Int32) : rowL f [] = f := by
  funext k; unfold rowL; rw [if_neg (by show ¬ k < 0; omega)]
theorem s_faultOf {w : AH} {n u L : Nat} {B f : Nat → Int32} (hr : RdAt w L f) (h : RB w n B) (hn : n ≤ 50) (hu : u < 2) (lv : Nat) : ∃ v g, Call M_X4_faultOf lv [.ref 99, .ref 46, .int (nI u)] w = some (some (.int (if (pT u n B).1 = true ∧ n ≤ (pT u n B).2.1 then -1 else nI (pT u n B).2.1)), v) ∧ RdAt v (pT u n B).2.2.1.length g ∧ (∀ k, k < (pT u n B).2.2.1.length → g k = (pT u n B).2.2.1.getD k 0) ∧ Fr (fun j => j = 99 ∨ j = 100 ∨ j = 101) w v := by
  have hrow := hr.row
  obtain ⟨⟨b, nm, p, fl, e⟩, o1, o2, o3⟩ := hr
  have wq := pT_w u n B
  unfold pW at wq
  have ra := s_readAll (F0 := f) h hn hu
  generalize pT u n B = r at wq ra ⊢
  refine ⟨rW w (4 + u) f r.2.1 (!r.1) r.2.2.1, rowL f r.2.2.1, ?_, ⟨⟨46, 4 + u, nI r.2.1, bI (!r.1), rfl⟩, rfl, rfl, by omega⟩, fun k hk => by unfold rowL; rw [if_pos hk], ?_⟩
  · obtain ⟨e1, he1⟩ : ∃ e1 : va_E, e1 = .inr (4, [.ref 100, .ref 46, .ref nm, .int p, .int fl]) := ⟨_, rfl⟩
    obtain ⟨e2, he2⟩ : ∃ e2 : va_E, e2 = .inr (4, [.ref 100, .ref 46, .ref (4 + u), .int p, .int fl]) := ⟨_, rfl⟩
    obtain ⟨e3, he3⟩ : ∃ e3 : va_E, e3 = .inr (4, [.ref 100, .ref 46, .ref (4 + u), .int 0, .int fl]) := ⟨_, rfl⟩
    have p1 : pf (hg w 99) 4 1 (.object "CarpetLands$Row") (.ref 46) = some e1 := by rw [pf_o (u := .ref b) (by rw [e]; rfl), e, he1]; rfl
    have p2 : pf e1 4 2 (.object "java/lang/String") (.ref (4 + u)) = some e2 := by rw [pf_o (u := .ref nm) (by rw [he1]; rfl), he1, he2]; rfl
    have p3 : pf e2 4 3 .int (.int 0) = some e3 := by rw [pf_i (u := .int p) (by rw [he2]; rfl), he2, he3]; rfl
    have p4 : pf e3 4 4 .boolean (.int 0) = some (rob (4 + u) 0 false) := by rw [pf_z (u := .int fl) (by rw [he3]; rfl) (Or.inl rfl), he3]; rfl
    have g0 : gf e2 4 0 = some (.ref 100) := by rw [he2]; rfl
    have rw2 : RowAt (hs w 99 e2) 100 101 50 L f := hrow.keep (hs_ne _ _ (by decide)) (hs_ne _ _ (by decide))
    have cl := s_Row_clear rw2 60
    have k0 : hg (setRow (hs w 99 e2) 100 101 50 0 f) 99 = e2 := by rw [setRow_ne _ _ _ _ _ _ (by decide) (by decide), hs_eq]
    have fin : hs (setRow (hs w 99 e2) 100 101 50 0 f) 99 (rob (4 + u) 0 false) = rW w (4 + u) f 0 false [] := by
      refine AH_ext rfl rfl (fun j => ?_)
      rw [hg_hs]
      by_cases h9 : j = 99
      · subst h9; rfl
      · rw [if_neg h9]
        by_cases h0 : j = 100
        · subst h0
          unfold setRow; rw [hs_eq, hs_ne _ _ (by decide), o1]; rfl
        · by_cases h1 : j = 101
          · subst h1
            unfold setRow rW; rw [hs_ne _ _ (by decide), hs_eq, rowL_0]; rfl
          · rw [setRow_ne _ _ _ _ _ _ h0 h1, hs_ne _ _ h9]
            unfold rW; rw [rd_n (by omega)]
    have r0 : ∀ p fl s, hg (rW w (4 + u) f p fl s) 99 = rob (4 + u) p fl := fun _ _ _ => rfl
    have r1 : gf (hg (rW w (4 + u) f r.2.1 (!r.1) r.2.2.1) 46) 6 1 = some (.int (nI n)) := (rW_row h).2.1
    have ce6 : ∀ e, gf (hg (hs w 99 e) 100) 6 0 = some (.ref 101) := fun e => by rw [hs_ne _ _ (by decide), o1]; rfl
    have hu2 : u = 0 ∨ u = 1 := by omega
    have e5 : (nI n ≤ nI r.2.1) = (n ≤ r.2.1) := le_nI (by omega) (by omega)
    have fin2 : some (some (Value.int (if (!r.1) = true then nI r.2.1 else if n ≤ r.2.1 then -1 else nI r.2.1)), rW w (4 + u) f r.2.1 (!r.1) r.2.2.1) = some (some (Value.int (if r.1 = true ∧ n ≤ r.2.1 then -1 else nI r.2.1)), rW w (4 + u) f r.2.1 (!r.1) r.2.2.1) := by
      cases r.1 <;> simp
    rw [← fin2]
    rcases hu2 with rfl | rfl
    · simp only [C_X4_faultOf, R_X4_faultOf, SB, p1, p2, hs_hs, if_true, show (¬ nI 0 = (0 : Int32)) = False from by decide, if_false, g0, clK_gf (ce6 _), cl, k0, p3, p4, fin, r0, rd_g, ra, r1, e5, bI_n0]
      cases r.1 with
      | false => simp
      | true =>
        by_cases q : n ≤ r.2.1 <;> simp [q]
    · simp only [C_X4_faultOf, R_X4_faultOf, SB, p1, p2, hs_hs, if_true, show (¬ nI 1 = (0 : Int32)) = True from by decide, if_false, g0, clK_gf (ce6 _), cl, k0, p3, p4, fin, r0, rd_g, ra, r1, e5, bI_n0]
      cases r.1 with
      | false => simp
      | true =>
        by_cases q : n ≤ r.2.1 <;> simp [q]
  · refine ⟨rfl, rfl, fun j hj => ?_⟩
    exact rd_n (by omega)
