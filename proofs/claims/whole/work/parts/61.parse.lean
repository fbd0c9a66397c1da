/-! ===== texts: the pure parser ===== -/
abbrev PR : Type := Bool × Nat × List Int32 × (Int32 → Int32 → Int32 → Int32)
def cB (n : Nat) (B : Nat → Int32) (p : Nat) : Int32 := if p < n then B p else -1
def isDg (x : Int32) : Bool := decide (48 ≤ x.toInt ∧ x.toInt ≤ 57)
def nmN (u : Nat) (x : Int32) : Nat := if u = 1 then (if x = 107 then 0 else if x = 119 then 1 else if x = 99 then 2 else 3) else (if x = 114 then 0 else if x = 99 then 1 else if x = 100 then 2 else 3)
def nmV (k : Nat) (a b c : Int32) : Int32 := if k = 0 then a else if k = 1 then b else c
def isOp (l : Nat) (x : Int32) : Bool := if l = 0 then decide (x = 124) else if l = 1 then decide (x = 38) else if l = 2 then decide (x = 60 ∨ x = 61 ∨ x = 62) else if l = 3 then decide (x = 43 ∨ x = 45) else decide (x = 42 ∨ x = 47 ∨ x = 37)
def pNm (c : Nat → Int32) : Nat → Nat → Nat → Nat × Nat
  | 0, p, v => (p, v)
  | f + 1, p, v => if isDg (c p) = true then pNm c f (p + 1) (v * 10 + ((c p).toInt - 48).toNat) else (p, v)
def pJn (op : Int32) (r q : PR) : PR := (q.1, q.2.1, r.2.2.1 ++ q.2.2.1 ++ [10000 + op], fun a b c => jnI op (r.2.2.2 a b c) (q.2.2.2 a b c))
def pLp (c : Nat → Int32) (l : Nat) (P : Nat → PR) : Nat → PR → PR
  | 0, r => r
  | f + 1, r => if r.1 = true ∧ isOp l (c r.2.1) = true then pLp c l P f (pJn (c r.2.1) r (P (r.2.1 + 1))) else r
def pLv (c : Nat → Int32) (P : Nat → PR) : Nat → Nat → PR
  | 0, p => P p
  | d + 1, p => pLp c (4 - d) (pLv c P d) (if d = 2 then 1 else 50) (pLv c P d p)
def pFail (p : Nat) : PR := (false, p, [], fun _ _ _ => 0)
def pNum (c : Nat → Int32) (p : Nat) : PR := (true, (pNm c 4 p 0).1, [nI (pNm c 4 p 0).2], fun _ _ _ => nI (pNm c 4 p 0).2)
def pNam (k p : Nat) : PR := (true, p + 1, [-1 - nI k], nmV k)
def pNot (r : PR) : PR := (r.1, r.2.1, r.2.2.1 ++ [10033], fun x y z => if r.2.2.2 x y z = 0 then 1 else 0)
def pCl (c : Nat → Int32) (r : PR) : PR := if r.1 = true ∧ c r.2.1 = 41 then (true, r.2.1 + 1, r.2.2.1, r.2.2.2) else (false, r.2.1, r.2.2.1, r.2.2.2)
def pAt (c : Nat → Int32) (u p : Nat) (r : PR) : PR := if isDg (c p) = true then pNum c p else if nmN u (c p) < 3 then pNam (nmN u (c p)) p else r
def pFc (c : Nat → Int32) (u : Nat) : Nat → Nat → PR
  | 0, p => pAt c u p (pFail p)
  | o + 1, p => pAt c u p (if c p = 33 then pNot (pFc c u o (p + 1)) else if c p = 40 then pCl c (pLv c (pFc c u o) 5 (p + 1)) else pFail p)
def pT (u n : Nat) (B : Nat → Int32) : PR := pLv (cB n B) (pFc (cB n B) u 5) 5 0
/-! how far it comes, how many signs -/
def pW (n p : Nat) (r : PR) : Prop := p ≤ r.2.1 ∧ r.2.1 ≤ n ∧ r.2.2.1.length + p ≤ r.2.1
theorem cB_lt {n : Nat} {B : Nat → Int32} {p : Nat} (h : cB n B p ≠ -1) : p < n := by
  unfold cB at h
  by_cases q : p < n
  · exact q
  · rw [if_neg q] at h; exact absurd rfl h
theorem isOp_m1 (l : Nat) : isOp l (-1) = false := by
  unfold isOp
  by_cases h0 : l = 0
  · rw [if_pos h0]; decide
  · rw [if_neg h0]
    by_cases h1 : l = 1
    · rw [if_pos h1]; decide
    · rw [if_neg h1]
      by_cases h2 : l = 2
      · rw [if_pos h2]; decide
      · rw [if_neg h2]
        by_cases h3 : l = 3
        · rw [if_pos h3]; decide
        · rw [if_neg h3]; decide
theorem isOp_lt {l n : Nat} {B : Nat → Int32} {p : Nat} (h : isOp l (cB n B p) = true) : p < n := cB_lt (fun e => by rw [e, isOp_m1] at h; cases h)
theorem isDg_lt {n : Nat} {B : Nat → Int32} {p : Nat} (h : isDg (cB n B p) = true) : p < n := cB_lt (fun e => by rw [e] at h; exact absurd h (by decide))
theorem nmN_lt {u n : Nat} {B : Nat → Int32} {p : Nat} (h : nmN u (cB n B p) < 3) : p < n := cB_lt (fun e => by
  rw [e] at h
  unfold nmN at h
  split at h <;> exact absurd h (by decide))
theorem isOp_or {l : Nat} {x : Int32} (h : isOp l x = true) : x = 124 ∨ x = 38 ∨ x = 60 ∨ x = 61 ∨ x = 62 ∨ x = 43 ∨ x = 45 ∨ x = 42 ∨ x = 47 ∨ x = 37 := by
  unfold isOp at h
  split at h
  · have := of_decide_eq_true h; simp [this]
  · split at h
    · have := of_decide_eq_true h; simp [this]
    · split at h
      · have := of_decide_eq_true h; rcases this with h | h | h <;> simp [h]
      · split at h
        · have := of_decide_eq_true h; rcases this with h | h <;> simp [h]
        · have := of_decide_eq_true h; rcases this with h | h | h <;> simp [h]
theorem pNm_w {n : Nat} {B : Nat → Int32} : ∀ f p v, p ≤ n → p ≤ (pNm (cB n B) f p v).1 ∧ (pNm (cB n B) f p v).1 ≤ n := by
  intro f
  induction f with
  | zero => intro p v h; exact ⟨Nat.le_refl _, h⟩
  | succ f ih =>
    intro p v h
    unfold pNm
    by_cases q : isDg (cB n B p) = true
    · rw [if_pos q]
      have := isDg_lt q
      have := ih (p + 1) (v * 10 + ((cB n B p).toInt - 48).toNat) (by omega)
      omega
    · rw [if_neg q]; exact ⟨Nat.le_refl _, h⟩
theorem pNm_v {c : Nat → Int32} : ∀ f p v, (pNm c f p v).2 < (v + 1) * 10 ^ f := by
  intro f
  induction f with
  | zero => intro p v; unfold pNm; show v < _; omega
  | succ f ih =>
    intro p v
    unfold pNm
    by_cases q : isDg (c p) = true
    · rw [if_pos q]
      have q2 := of_decide_eq_true q
      have := ih (p + 1) (v * 10 + ((c p).toInt - 48).toNat)
      refine Nat.lt_of_lt_of_le this ?_
      rw [Nat.pow_succ, Nat.mul_comm (10 ^ f) 10, ← Nat.mul_assoc]
      exact Nat.mul_le_mul_right _ (by omega)
    · rw [if_neg q]
      show v < _
      have : 1 ≤ 10 ^ (f + 1) := Nat.pow_pos (by decide)
      have := Nat.mul_le_mul_left (v + 1) this
      omega
theorem pNum_v (c : Nat → Int32) (p : Nat) : (pNm c 4 p 0).2 < 10000 := by
  have := pNm_v (c := c) 4 p 0
  simpa using this
theorem pNum_w {n : Nat} {B : Nat → Int32} {p : Nat} (h : isDg (cB n B p) = true) : pW n p (pNum (cB n B) p) := by
  have h1 := isDg_lt h
  have e : pNm (cB n B) 4 p 0 = pNm (cB n B) 3 (p + 1) (0 * 10 + ((cB n B p).toInt - 48).toNat) := by
    show (if isDg (cB n B p) = true then _ else _) = _
    rw [if_pos h]
  have := pNm_w (n := n) (B := B) 3 (p + 1) (0 * 10 + ((cB n B p).toInt - 48).toNat) (by omega)
  unfold pW pNum
  rw [e]
  show p ≤ (pNm _ _ _ _).1 ∧ (pNm _ _ _ _).1 ≤ n ∧ 1 + p ≤ (pNm _ _ _ _).1
  omega
theorem pLp_w {n : Nat} {B : Nat → Int32} {l : Nat} {P : Nat → PR} (hP : ∀ p, p ≤ n → pW n p (P p)) : ∀ f p r, pW n p r → pW n p (pLp (cB n B) l P f r) := by
  intro f
  induction f with
  | zero => intro p r h; exact h
  | succ f ih =>
    intro p r h
    unfold pLp
    by_cases q : r.1 = true ∧ isOp l (cB n B r.2.1) = true
    · rw [if_pos q]
      apply ih
      have h1 := isOp_lt q.2
      have h2 := hP (r.2.1 + 1) (by omega)
      unfold pW at h h2 ⊢
      unfold pJn
      dsimp only
      rw [List.length_append, List.length_append]
      show _ ∧ _ ∧ _ + _ + 1 + _ ≤ _
      omega
    · rw [if_neg q]; exact h
theorem pLv_w {n : Nat} {B : Nat → Int32} {P : Nat → PR} (hP : ∀ p, p ≤ n → pW n p (P p)) : ∀ d p, p ≤ n → pW n p (pLv (cB n B) P d p) := by
  intro d
  induction d with
  | zero => intro p h; exact hP p h
  | succ d ih => intro p h; exact pLp_w ih _ p _ (ih p h)
theorem pAt_w {n : Nat} {B : Nat → Int32} {u p : Nat} (hp : p ≤ n) {r : PR} (h : pW n p r) : pW n p (pAt (cB n B) u p r) := by
  unfold pAt
  by_cases q : isDg (cB n B p) = true
  · rw [if_pos q]; exact pNum_w q
  · rw [if_neg q]
    by_cases q2 : nmN u (cB n B p) < 3
    · rw [if_pos q2]
      have := nmN_lt q2
      unfold pW pNam
      show p ≤ p + 1 ∧ p + 1 ≤ n ∧ 1 + p ≤ p + 1
      omega
    · rw [if_neg q2]; exact h
theorem pFail_w {n p : Nat} (hp : p ≤ n) : pW n p (pFail p) := ⟨Nat.le_refl _, hp, by show 0 + p ≤ p; omega⟩
theorem pFc_w {n : Nat} {B : Nat → Int32} {u : Nat} : ∀ o p, p ≤ n → pW n p (pFc (cB n B) u o p) := by
  intro o
  induction o with
  | zero => intro p hp; exact pAt_w hp (pFail_w hp)
  | succ o ih =>
    intro p hp
    unfold pFc
    apply pAt_w hp
    by_cases q : cB n B p = 33
    · rw [if_pos q]
      have h1 : p < n := cB_lt (by rw [q]; decide)
      have h2 := ih (p + 1) (by omega)
      unfold pW at h2 ⊢
      unfold pNot
      dsimp only
      rw [List.length_append]
      show _ ∧ _ ∧ _ + 1 + _ ≤ _
      omega
    · rw [if_neg q]
      by_cases q2 : cB n B p = 40
      · rw [if_pos q2]
        have h1 : p < n := cB_lt (by rw [q2]; decide)
        have h2 := pLv_w (B := B) ih 5 (p + 1) (by omega)
        generalize pLv (cB n B) (pFc (cB n B) u o) 5 (p + 1) = r at h2 ⊢
        unfold pCl
        by_cases q3 : r.1 = true ∧ cB n B r.2.1 = 41
        · rw [if_pos q3]
          have h3 : r.2.1 < n := cB_lt (by rw [q3.2]; decide)
          unfold pW at h2 ⊢
          dsimp only
          omega
        · rw [if_neg q3]
          unfold pW at h2 ⊢
          dsimp only
          omega
      · rw [if_neg q2]; exact pFail_w hp
theorem pT_w (u n : Nat) (B : Nat → Int32) : pW n 0 (pT u n B) := pLv_w (fun p hp => pFc_w 5 p hp) 5 0 (Nat.zero_le _)
/-! what its signs work out -/
def wsL (a b c : Int32) (s : List Int32) (t : Nat × (Nat → Int32)) : Nat × (Nat → Int32) := s.foldl (fun t x => wsG x a b c t) t
def pE (r : PR) : Prop := r.1 = true → ∀ (a b c : Int32) (t : Nat) (G : Nat → Int32), t + r.2.2.1.length ≤ 50 → ∃ G2, wsL a b c r.2.2.1 (t, G) = (t + 1, G2) ∧ G2 t = r.2.2.2 a b c ∧ ∀ j, j < t → G2 j = G j
theorem wsL_app (a b c : Int32) (s r : List Int32) (t : Nat × (Nat → Int32)) : wsL a b c (s ++ r) t = wsL a b c r (wsL a b c s t) := List.foldl_append
theorem wsL_1 (a b c x : Int32) (t : Nat × (Nat → Int32)) : wsL a b c [x] t = wsG x a b c t := rfl
theorem nI_small : ∀ m, m < 10000 → ((10000 : Int32) ≤ nI m) = False ∧ nI m ≠ -1 ∧ nI m ≠ -2 ∧ nI m ≠ -3 := by
  intro m hm
  have e : (nI m).toInt = m := nI_t (by omega)
  refine ⟨?_, ?_, ?_, ?_⟩
  · rw [le_t, e, show (10000 : Int32).toInt = 10000 from by decide]; apply eq_false; omega
  · intro h; rw [h, show (-1 : Int32).toInt = -1 from by decide] at e; omega
  · intro h; rw [h, show (-2 : Int32).toInt = -2 from by decide] at e; omega
  · intro h; rw [h, show (-3 : Int32).toInt = -3 from by decide] at e; omega
theorem pNum_e (c : Nat → Int32) (p : Nat) : pE (pNum c p) := by
  intro _ a b c2 t G ht
  obtain ⟨h1, h2, h3, h4⟩ := nI_small _ (pNum_v c p)
  unfold pNum at ht ⊢
  dsimp only at ht ⊢
  have ht : t + 1 ≤ 50 := ht
  refine ⟨upd G t (nI (pNm c 4 p 0).2), ?_, ?_, ?_⟩
  · rw [wsL_1]
    unfold wsG vlI
    rw [if_neg (by rw [h1]; exact id), if_pos (show t < 50 by omega), if_neg h2, if_neg h3, if_neg h4]
  · simp [upd]
  · intro j hj; unfold upd; rw [if_neg (by omega)]
theorem nam_tab : ∀ k, k < 3 → (((10000 : Int32) ≤ -1 - nI k) = False) ∧ (∀ a b c : Int32, vlI (-1 - nI k) a b c = nmV k a b c) := by
  intro k hk
  match k, hk with
  | 0, _ =>
    have e : (-1 - nI 0 : Int32) = -1 := by decide
    rw [e]; exact ⟨eq_false (by decide +kernel), fun a b c => by unfold vlI nmV; simp⟩
  | 1, _ =>
    have e : (-1 - nI 1 : Int32) = -2 := by decide
    rw [e]; exact ⟨eq_false (by decide +kernel), fun a b c => by unfold vlI nmV; simp⟩
  | 2, _ =>
    have e : (-1 - nI 2 : Int32) = -3 := by decide
    rw [e]; exact ⟨eq_false (by decide +kernel), fun a b c => by unfold vlI nmV; simp⟩
  | k + 3, h => exact absurd h (by omega)
theorem pNam_e {k : Nat} (hk : k < 3) (p : Nat) : pE (pNam k p) := by
  intro _ a b c2 t G ht
  obtain ⟨h1, h2⟩ := nam_tab k hk
  unfold pNam at ht ⊢
  dsimp only at ht ⊢
  have ht : t + 1 ≤ 50 := ht
  refine ⟨upd G t (nmV k a b c2), ?_, ?_, ?_⟩
  · rw [wsL_1]
    unfold wsG
    rw [if_neg (by rw [h1]; exact id), if_pos (show t < 50 by omega), h2]
  · simp [upd]
  · intro j hj; unfold upd; rw [if_neg (by omega)]
theorem pNot_e {r : PR} (h : pE r) : pE (pNot r) := by
  intro hr a b c2 t G ht
  unfold pNot at hr ht ⊢
  dsimp only at hr ht ⊢
  rw [List.length_append] at ht
  have ht : t + (r.2.2.1.length + 1) ≤ 50 := ht
  obtain ⟨G2, e1, e2, e3⟩ := h hr a b c2 t G (by omega)
  refine ⟨upd G2 t (if G2 t = 0 then 1 else 0), ?_, ?_, ?_⟩
  · rw [wsL_app, e1, wsL_1]
    unfold wsG
    rw [if_pos (by decide), if_pos rfl, if_pos (show 0 < t + 1 by omega)]
    rfl
  · simp [upd, e2]
  · intro j hj; unfold upd; rw [if_neg (by omega), e3 j hj]
theorem op_tab {x : Int32} (h : x = 124 ∨ x = 38 ∨ x = 60 ∨ x = 61 ∨ x = 62 ∨ x = 43 ∨ x = 45 ∨ x = 42 ∨ x = 47 ∨ x = 37) : ((10000 : Int32) ≤ 10000 + x) = True ∧ (10000 + x ≠ 10033) ∧ 10000 + x - 10000 = x := by
  rcases h with h | h | h | h | h | h | h | h | h | h <;> subst h <;> exact ⟨eq_true (by decide), by decide, by decide⟩
theorem pJn_e {r q : PR} (h : pE r) (h2 : pE q) (hr : r.1 = true) {l : Nat} {x : Int32} (hx : isOp l x = true) : pE (pJn x r q) := by
  intro hq a b c2 t G ht
  unfold pJn at hq ht ⊢
  dsimp only at hq ht ⊢
  rw [List.length_append, List.length_append] at ht
  have ht : t + (r.2.2.1.length + q.2.2.1.length + 1) ≤ 50 := ht
  obtain ⟨o1, o2, o3⟩ := op_tab (isOp_or hx)
  obtain ⟨G2, e1, e2, e3⟩ := h hr a b c2 t G (by omega)
  have hl : 0 < r.2.2.1.length ∨ r.2.2.1.length = 0 := by omega
  have hl2 : 1 ≤ r.2.2.1.length := by
    rcases hl with g | g
    · exact g
    · have : r.2.2.1 = [] := List.eq_nil_of_length_eq_zero g
      rw [this] at e1
      have : t = t + 1 := congrArg Prod.fst e1
      omega
  obtain ⟨G3, f1, f2, f3⟩ := h2 hq a b c2 (t + 1) G2 (by omega)
  refine ⟨upd G3 t (jnI x (G3 t) (G3 (t + 1))), ?_, ?_, ?_⟩
  · rw [wsL_app, wsL_app, e1, f1, wsL_1]
    unfold wsG
    rw [if_pos (by rw [o1]; trivial), if_neg o2, if_pos (show 1 < t + 1 + 1 by omega), o3]
    rfl
  · unfold upd; rw [if_pos rfl, f2, f3 t (by omega), e2]
  · intro j hj; unfold upd; rw [if_neg (by omega), f3 j (by omega), e3 j hj]
theorem pLp_e {c : Nat → Int32} {l : Nat} {P : Nat → PR} (hP : ∀ p, pE (P p)) : ∀ f r, pE r → pE (pLp c l P f r) := by
  intro f
  induction f with
  | zero => intro r h; exact h
  | succ f ih =>
    intro r h
    unfold pLp
    by_cases q : r.1 = true ∧ isOp l (c r.2.1) = true
    · rw [if_pos q]; exact ih _ (pJn_e h (hP _) q.1 q.2)
    · rw [if_neg q]; exact h
theorem pLv_e {c : Nat → Int32} {P : Nat → PR} (hP : ∀ p, pE (P p)) : ∀ d p, pE (pLv c P d p) := by
  intro d
  induction d with
  | zero => intro p; exact hP p
  | succ d ih => intro p; exact pLp_e ih _ _ (ih p)
theorem pFail_e (p : Nat) : pE (pFail p) := fun h => absurd h (by simp [pFail])
theorem pAt_e {c : Nat → Int32} {u p : Nat} {r : PR} (h : pE r) : pE (pAt c u p r) := by
  unfold pAt
  by_cases q : isDg (c p) = true
  · rw [if_pos q]; exact pNum_e _ _
  · rw [if_neg q]
    by_cases q2 : nmN u (c p) < 3
    · rw [if_pos q2]; exact pNam_e q2 _
    · rw [if_neg q2]; exact h
theorem pFc_e {c : Nat → Int32} {u : Nat} : ∀ o p, pE (pFc c u o p) := by
  intro o
  induction o with
  | zero => intro p; exact pAt_e (pFail_e p)
  | succ o ih =>
    intro p
    unfold pFc
    apply pAt_e
    by_cases q : c p = 33
    · rw [if_pos q]; exact pNot_e (ih _)
    · rw [if_neg q]
      by_cases q2 : c p = 40
      · rw [if_pos q2]
        have h2 := pLv_e (c := c) ih 5 (p + 1)
        generalize pLv c (pFc c u o) 5 (p + 1) = r at h2 ⊢
        unfold pCl
        by_cases q3 : r.1 = true ∧ c r.2.1 = 41
        · rw [if_pos q3]; exact fun _ => h2 q3.1
        · rw [if_neg q3]; intro h; cases h
      · rw [if_neg q2]; exact pFail_e p
theorem pT_e (u n : Nat) (B : Nat → Int32) : pE (pT u n B) := pLv_e (fun p => pFc_e 5 p) 5 0
theorem wsL_take (a b c : Int32) (f : Nat → Int32) (s : List Int32) (hf : ∀ k, k < s.length → f k = s.getD k 0) (t : Nat × (Nat → Int32)) : ∀ L, L ≤ s.length → foldN (wsF f a b c) L t = wsL a b c (s.take L) t := by
  intro L
  induction L with
  | zero => intro _; rfl
  | succ L ih =>
    intro h
    rw [foldN_s, ih (by omega), List.take_succ_eq_append_getElem (by omega), wsL_app, wsL_1]
    show wsG (f L) a b c _ = _
    rw [hf L (by omega)]
    congr 1
    simp [List.getD_eq_getElem?_getD, show L < s.length by omega]
/-- the signs of a whole text, worked out -/
theorem evI_pT {u n : Nat} {B : Nat → Int32} (hn : n ≤ 50) (h : (pT u n B).1 = true) {f : Nat → Int32} (hf : ∀ k, k < (pT u n B).2.2.1.length → f k = (pT u n B).2.2.1.getD k 0) (G : Nat → Int32) (a b c : Int32) : evI (pT u n B).2.2.1.length f G a b c = (pT u n B).2.2.2 a b c := by
  obtain ⟨w1, w2, w3⟩ := pT_w u n B
  obtain ⟨G2, e1, e2, -⟩ := pT_e u n B h a b c 0 G (by omega)
  unfold evI
  rw [wsL_take a b c f _ hf (0, G) _ (Nat.le_refl _), List.take_length, e1]
  exact e2
theorem pT_pos {u n : Nat} {B : Nat → Int32} (h : (pT u n B).1 = true) : 0 < (pT u n B).2.2.1.length := by
  apply Nat.pos_of_ne_zero
  intro g
  obtain ⟨G2, e1, e2, -⟩ := pT_e u n B h 0 0 0 0 (fun _ => 0) (by omega)
  have : (pT u n B).2.2.1 = [] := List.eq_nil_of_length_eq_zero g
  rw [this] at e1
  have : 0 = 0 + 1 := congrArg Prod.fst e1
  omega
