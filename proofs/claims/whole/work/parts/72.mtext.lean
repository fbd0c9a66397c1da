/-! ===== the model reads a text ===== -/
def mI (I : Nat → Int32) (p f o : Int32) : Nat → Int32 := upd (upd (upd I 6 p) 8 f) 9 o
theorem mI_g (I : Nat → Int32) (p f o : Int32) : mI I p f o 6 = p ∧ mI I p f o 8 = f ∧ mI I p f o 9 = o ∧ mI I p f o 5 = I 5 ∧ mI I p f o 7 = I 7 ∧ mI I p f o 10 = I 10 := ⟨rfl, rfl, rfl, rfl, rfl, rfl⟩
theorem mI_6 (I : Nat → Int32) (p f o x : Int32) : upd (mI I p f o) 6 x = mI I x f o := by
  funext k; unfold mI upd
  by_cases h6 : k = 6
  · subst h6; rfl
  · simp [h6]
theorem mI_8 (I : Nat → Int32) (p f o x : Int32) : upd (mI I p f o) 8 x = mI I p x o := by
  funext k; unfold mI upd
  by_cases h8 : k = 8
  · subst h8; rfl
  · simp [h8]
theorem mI_9 (I : Nat → Int32) (p f o x : Int32) : upd (mI I p f o) 9 x = mI I p f x := by
  funext k; unfold mI upd
  by_cases h8 : k = 9
  · subst h8; rfl
  · simp [h8]
/-- the text of n bytes from bs on, of use u, its names a b c -/
def MB (I : Nat → Int32) (A : Nat → Nat → Int32) (bs n u : Nat) (a b c : Int32) : Prop := (I 5 = nI bs) ∧ (I 7 = nI n) ∧ (I 10 = nI u) ∧ (bs + n ≤ 269) ∧ (n ≤ 50) ∧ (u < 2) ∧ (A 4 0 = a) ∧ (A 4 1 = b) ∧ (A 4 2 = c)
theorem MB.i5 {I : Nat → Int32} {A : Nat → Nat → Int32} {bs n u : Nat} {a b c : Int32} (h : MB I A bs n u a b c) : I 5 = nI bs := h.1
theorem MB.i7 {I : Nat → Int32} {A : Nat → Nat → Int32} {bs n u : Nat} {a b c : Int32} (h : MB I A bs n u a b c) : I 7 = nI n := h.2.1
theorem MB.i10 {I : Nat → Int32} {A : Nat → Nat → Int32} {bs n u : Nat} {a b c : Int32} (h : MB I A bs n u a b c) : I 10 = nI u := h.2.2.1
theorem MB.le {I : Nat → Int32} {A : Nat → Nat → Int32} {bs n u : Nat} {a b c : Int32} (h : MB I A bs n u a b c) : bs + n ≤ 269 := h.2.2.2.1
theorem MB.ln {I : Nat → Int32} {A : Nat → Nat → Int32} {bs n u : Nat} {a b c : Int32} (h : MB I A bs n u a b c) : n ≤ 50 := h.2.2.2.2.1
theorem MB.lu {I : Nat → Int32} {A : Nat → Nat → Int32} {bs n u : Nat} {a b c : Int32} (h : MB I A bs n u a b c) : u < 2 := h.2.2.2.2.2.1
theorem MB.n0 {I : Nat → Int32} {A : Nat → Nat → Int32} {bs n u : Nat} {a b c : Int32} (h : MB I A bs n u a b c) : A 4 0 = a := h.2.2.2.2.2.2.1
theorem MB.n1 {I : Nat → Int32} {A : Nat → Nat → Int32} {bs n u : Nat} {a b c : Int32} (h : MB I A bs n u a b c) : A 4 1 = b := h.2.2.2.2.2.2.2.1
theorem MB.n2 {I : Nat → Int32} {A : Nat → Nat → Int32} {bs n u : Nat} {a b c : Int32} (h : MB I A bs n u a b c) : A 4 2 = c := h.2.2.2.2.2.2.2.2
abbrev mBy (A : Nat → Nat → Int32) (bs : Nat) : Nat → Int32 := fun k => A 0 (bs + k)
theorem m_here {I : Nat → Int32} {A : Nat → Nat → Int32} {bs n u : Nat} {a b c : Int32} (h : MB I A bs n u a b c) {p : Nat} (hp : p ≤ 50) (o : Int32) (w : AH) (lv : Nat) : Call M_X12_here lv [.ref 123] (mw w (mI I (nI p) (-1) o) A) = some (some (.int (cB n (mBy A bs) p)), mw w (mI I (nI p) (-1) o) A) := by
  have l1 := h.le
  have l2 := h.ln
  unfold cB
  by_cases q : p < n
  · simp (disch := omega) only [C_X12_here, R_X12_here, SB, mw_o, mw_a, mo_g, mo_p, mw_so, mw_sa, upA_eq, upA_upA, upd_upd, mI_g, h.i5, h.i7, le_nI, Nat.not_le.mpr q, if_false, if_true, show ((0 : Int32) ≤ -1) = False from by simp, nI_add, aI_a, q]
  · simp (disch := omega) only [C_X12_here, R_X12_here, SB, mw_o, mw_a, mo_g, mo_p, mw_so, mw_sa, upA_eq, upA_upA, upd_upd, mI_g, h.i5, h.i7, le_nI, Nat.not_lt.mp q, if_false, if_true, q]
theorem m_here_f {I : Nat → Int32} {A : Nat → Nat → Int32} {bs n u : Nat} {a b c : Int32} (h : MB I A bs n u a b c) {p q : Nat} (hp : p ≤ 50) (hq : q ≤ 50) (o : Int32) (w : AH) (lv : Nat) : Call M_X12_here lv [.ref 123] (mw w (mI I (nI p) (nI q) o) A) = some (some (.int (-1)), mw w (mI I (nI p) (nI q) o) A) := by
  have l2 := h.ln
  have e0 : ((0 : Int32) ≤ nI q) = True := by rw [show (0 : Int32) = nI 0 from rfl, le_nI (by decide) (by omega)]; simp
  by_cases g : p < n
  · simp (disch := omega) only [C_X12_here, R_X12_here, SB, mw_o, mw_a, mo_g, mo_p, mw_so, mw_sa, upA_eq, upA_upA, upd_upd, mI_g, h.i7, le_nI, Nat.not_le.mpr g, if_false, if_true, e0]
  · simp (disch := omega) only [C_X12_here, R_X12_here, SB, mw_o, mw_a, mo_g, mo_p, mw_so, mw_sa, upA_eq, upA_upA, upd_upd, mI_g, h.i7, le_nI, Nat.not_lt.mp g, if_true]
theorem m_wrong (I : Nat → Int32) (A : Nat → Nat → Int32) (p : Int32) (o : Int32) (w : AH) (lv : Nat) : Call M_X12_wrong lv [.ref 123] (mw w (mI I p (-1) o) A) = some (some (.int 0), mw w (mI I p p o) A) := by
  simp only [C_X12_wrong, R_X12_wrong, SB, mw_o, mw_a, mo_g, mo_p, mw_so, mw_sa, upA_eq, upA_upA, upd_upd, mI_g, mI_8, if_true, if_false, show ((0 : Int32) ≤ -1) = False from by simp]
theorem m_wrong_f (I : Nat → Int32) (A : Nat → Nat → Int32) (p : Int32) {q : Nat} (hq : q ≤ 50) (o : Int32) (w : AH) (lv : Nat) : Call M_X12_wrong lv [.ref 123] (mw w (mI I p (nI q) o) A) = some (some (.int 0), mw w (mI I p (nI q) o) A) := by
  have e0 : ((0 : Int32) ≤ nI q) = True := by rw [show (0 : Int32) = nI 0 from rfl, le_nI (by decide) (by omega)]; simp
  simp only [C_X12_wrong, R_X12_wrong, SB, mw_o, mw_a, mo_g, mo_p, mw_so, mw_sa, upA_eq, upA_upA, upd_upd, mI_g, mI_8, if_true, e0]
theorem m_takes {I : Nat → Int32} {A : Nat → Nat → Int32} {bs n u : Nat} {a b c : Int32} (h : MB I A bs n u a b c) {p : Nat} (hp : p ≤ 50) (o x : Int32) (w : AH) (lv : Nat) : Call M_X12_takes lv [.ref 123, .int x] (mw w (mI I (nI p) (-1) o) A) = some (some (.int (bI (decide (cB n (mBy A bs) p = x)))), mw w (mI I (nI (if cB n (mBy A bs) p = x then p + 1 else p)) (-1) o) A) := by
  by_cases q : cB n (mBy A bs) p = x
  · simp only [C_X12_takes, R_X12_takes, SB, mw_o, mo_g, mo_p, mw_so, m_here h hp, q, if_true, mI_g, nI_1, mI_6, or_true, decide_true, bI_t]
  · simp only [C_X12_takes, R_X12_takes, SB, mw_o, mo_g, m_here h hp, q, if_true, if_false, true_or, decide_false, bI_f]
theorem m_takes_f {I : Nat → Int32} {A : Nat → Nat → Int32} {bs n u : Nat} {a b c : Int32} (h : MB I A bs n u a b c) {p q : Nat} (hp : p ≤ 50) (hq : q ≤ 50) (o : Int32) {x : Int32} (hx : ((-1 : Int32) = x) = False) (w : AH) (lv : Nat) : Call M_X12_takes lv [.ref 123, .int x] (mw w (mI I (nI p) (nI q) o) A) = some (some (.int 0), mw w (mI I (nI p) (nI q) o) A) := by
  simp only [C_X12_takes, R_X12_takes, SB, mw_o, mo_g, m_here_f h hp hq, hx, if_true, if_false, true_or]
theorem m_nameOf {I : Nat → Int32} {A : Nat → Nat → Int32} {bs n u : Nat} {a b c : Int32} (h : MB I A bs n u a b c) (p f o x : Int32) (w : AH) (lv : Nat) : Call M_X12_nameOf lv [.ref 123, .int x] (mw w (mI I p f o) A) = some (some (.int (if nmN u x < 3 then nI (nmN u x) else -1)), mw w (mI I p f o) A) := by
  have hu : u = 0 ∨ u = 1 := by have := h.lu; omega
  have i10 := h.i10
  rcases hu with rfl | rfl
  · simp only [C_X12_nameOf, R_X12_nameOf, SB, mw_o, mo_g, mI_g, i10, show (nI 0 = (0 : Int32)) = True from by decide, if_true]
    rw [show nmN 0 x = (if x = 114 then 0 else if x = 99 then 1 else if x = 100 then 2 else 3) from rfl]
    by_cases g1 : x = 114
    · simp [g1]; rfl
    · by_cases g2 : x = 99
      · simp [g2]; rfl
      · by_cases g3 : x = 100
        · simp [g3]; rfl
        · simp [g1, g2, g3]
  · simp only [C_X12_nameOf, R_X12_nameOf, SB, mw_o, mo_g, mI_g, i10, show (nI 1 = (0 : Int32)) = False from by decide, if_true, if_false]
    rw [show nmN 1 x = (if x = 107 then 0 else if x = 119 then 1 else if x = 99 then 2 else 3) from rfl]
    by_cases g1 : x = 107
    · simp [g1]; rfl
    · by_cases g2 : x = 119
      · simp [g2]; rfl
      · by_cases g3 : x = 99
        · simp [g3]; rfl
        · simp [g1, g2, g3]
/-- what a reading ends with -/
def MR (w : AH) (I : Nat → Int32) (A : Nat → Nat → Int32) (a b c : Int32) (o : Nat) (q : PR) (x : Option (Option Value × AH)) : Prop := (q.1 = true → x = some (some (.int (q.2.2.2 a b c)), mw w (mI I (nI q.2.1) (-1) (nI (5 - o))) A)) ∧ (q.1 = false → ∃ v oo, x = some (some (.int v), mw w (mI I (nI q.2.1) (nI q.2.1) oo) A))
def MdM (M : MI) (w : AH) (I : Nat → Int32) (A : Nat → Nat → Int32) (n : Nat) (a b c : Int32) (o d : Nat) (P : Nat → PR) : Prop := ∀ lv p, 6 * o + d ≤ lv → p ≤ n → MR w I A a b c o (P p) (Call M lv [.ref 123] (mw w (mI I (nI p) (-1) (nI (5 - o))) A))
theorem isOp_3 (x : Int32) : isOp 3 x = decide (x = 43 ∨ x = 45) := rfl
theorem isOp_4 (x : Int32) : isOp 4 x = decide (x = 42 ∨ x = 47 ∨ x = 37) := rfl
theorem pLp_bad {c : Nat → Int32} {l : Nat} {P : Nat → PR} {f : Nat} {r : PR} (h : r.1 = false) : pLp c l P f r = r := by
  cases f with
  | zero => rfl
  | succ f => show (if _ then _ else _) = _; rw [if_neg (by rw [h]; simp)]
theorem pLp_no {c : Nat → Int32} {l : Nat} {P : Nat → PR} {f : Nat} {r : PR} (h : isOp l (c r.2.1) = false) : pLp c l P f r = r := by
  cases f with
  | zero => rfl
  | succ f => show (if _ then _ else _) = _; rw [if_neg (by rw [h]; simp)]
theorem pLp_yes {c : Nat → Int32} {l : Nat} {P : Nat → PR} {f : Nat} {r : PR} (h0 : r.1 = true) (h : isOp l (c r.2.1) = true) : pLp c l P (f + 1) r = pLp c l P f (pJn (c r.2.1) r (P (r.2.1 + 1))) := by
  show (if _ then _ else _) = _; rw [if_pos ⟨h0, h⟩]
theorem pJn_w {n p : Nat} {x : Int32} {r q : PR} (h : pW n p r) (h2 : pW n (r.2.1 + 1) q) : pW n p (pJn x r q) := by
  unfold pW at h h2 ⊢
  unfold pJn
  dsimp only
  rw [List.length_append, List.length_append]
  show _ ∧ _ ∧ _ + _ + 1 + _ ≤ _
  omega
theorem MR.good {w : AH} {I : Nat → Int32} {A : Nat → Nat → Int32} {a b c : Int32} {o : Nat} {q : PR} {x : Option (Option Value × AH)} (h : q.1 = true) (e : x = some (some (.int (q.2.2.2 a b c)), mw w (mI I (nI q.2.1) (-1) (nI (5 - o))) A)) : MR w I A a b c o q x := ⟨fun _ => e, fun z => (by rw [h] at z; cases z)⟩
theorem MR.bad {w : AH} {I : Nat → Int32} {A : Nat → Nat → Int32} {a b c : Int32} {o : Nat} {q : PR} {x : Option (Option Value × AH)} (h : q.1 = false) (e : ∃ v oo, x = some (some (.int v), mw w (mI I (nI q.2.1) (nI q.2.1) oo) A)) : MR w I A a b c o q x := ⟨fun z => (by rw [h] at z; cases z), fun _ => e⟩
/-- a method that reads P, then as long as an operator stands there one more P -/
theorem m_level {M : MI} {w : AH} {I : Nat → Int32} {A : Nat → Nat → Int32} {bs n u : Nat} {a b c : Int32} (h : MB I A bs n u a b c) {o d l : Nat} {P : Nat → PR} (hW : ∀ p, p ≤ n → pW n p (P p)) (E : Nat → Int32 → Option Value → Option Value → AH → Option (Option Value × AH)) {M2 : MI}
    (hP : MdM M2 w I A n a b c o d P)
    (start : ∀ lv p v W2, Call M2 lv [.ref 123] (mw w (mI I (nI p) (-1) (nI (5 - o))) A) = some (some (.int v), W2) → Call M (lv + 1) [.ref 123] (mw w (mI I (nI p) (-1) (nI (5 - o))) A) = E (lv + 1) v none none W2)
    (stop : ∀ lv v o2 o3 p, p ≤ 50 → isOp l (cB n (mBy A bs) p) = false → E (lv + 1) v o2 o3 (mw w (mI I (nI p) (-1) (nI (5 - o))) A) = some (some (.int v), mw w (mI I (nI p) (-1) (nI (5 - o))) A))
    (stopf : ∀ lv v o2 o3 p q oo, p ≤ 50 → q ≤ 50 → E (lv + 1) v o2 o3 (mw w (mI I (nI p) (nI q) oo) A) = some (some (.int v), mw w (mI I (nI p) (nI q) oo) A))
    (goon : ∀ lv v o2 o3 p y W2, p ≤ 50 → isOp l (cB n (mBy A bs) p) = true → Call M2 lv [.ref 123] (mw w (mI I (nI (p + 1)) (-1) (nI (5 - o))) A) = some (some (.int y), W2) → ∃ o2' o3', E (lv + 1) v o2 o3 (mw w (mI I (nI p) (-1) (nI (5 - o))) A) = E (lv + 1) (jnI (cB n (mBy A bs) p) v y) o2' o3' W2)
    : MdM M w I A n a b c o (d + 1) (fun p => pLp (cB n (mBy A bs)) l P 50 (P p)) := by
  have ln := h.ln
  have loop : ∀ lv, 6 * o + d ≤ lv → ∀ f (p : Nat) (r : PR) o2 o3, r.1 = true → pW n p r → n ≤ r.2.1 + f → MR w I A a b c o (pLp (cB n (mBy A bs)) l P f r) (E (lv + 1) (r.2.2.2 a b c) o2 o3 (mw w (mI I (nI r.2.1) (-1) (nI (5 - o))) A)) := by
    intro lv hlv f
    induction f with
    | zero =>
      intro p r o2 o3 hr hw hf
      have hw2 := hw
      unfold pW at hw2
      have q : isOp l (cB n (mBy A bs) r.2.1) = false := by
        cases e : isOp l (cB n (mBy A bs) r.2.1) with
        | false => rfl
        | true => have := isOp_lt e; omega
      rw [pLp_no q]
      exact MR.good hr (stop lv _ o2 o3 r.2.1 (by omega) q)
    | succ f ih =>
      intro p r o2 o3 hr hw hf
      have hw2 := hw
      unfold pW at hw2
      cases e : isOp l (cB n (mBy A bs) r.2.1) with
      | false =>
        rw [pLp_no e]
        exact MR.good hr (stop lv _ o2 o3 r.2.1 (by omega) e)
      | true =>
        have q1 := isOp_lt e
        rw [pLp_yes hr e]
        have sub := hP lv (r.2.1 + 1) hlv (by omega)
        have wj := pJn_w (x := cB n (mBy A bs) r.2.1) hw (hW (r.2.1 + 1) (by omega))
        have wP := hW (r.2.1 + 1) (by omega)
        unfold pW at wP
        cases e2 : (P (r.2.1 + 1)).1 with
        | true =>
          obtain ⟨o2', o3', g⟩ := goon lv (r.2.2.2 a b c) o2 o3 r.2.1 _ _ (by omega) e (sub.1 e2)
          rw [g]
          exact ih p (pJn (cB n (mBy A bs) r.2.1) r (P (r.2.1 + 1))) o2' o3' e2 wj (by show n ≤ (P (r.2.1 + 1)).2.1 + f; omega)
        | false =>
          obtain ⟨v, oo, g0⟩ := sub.2 e2
          obtain ⟨o2', o3', g⟩ := goon lv (r.2.2.2 a b c) o2 o3 r.2.1 _ _ (by omega) e g0
          rw [g, pLp_bad (show (pJn (cB n (mBy A bs) r.2.1) r (P (r.2.1 + 1))).1 = false from e2)]
          exact MR.bad e2 ⟨_, oo, stopf lv _ o2' o3' (P (r.2.1 + 1)).2.1 (P (r.2.1 + 1)).2.1 oo (by omega) (by omega)⟩
  intro lv p hlv hp
  obtain ⟨lv, rfl⟩ : ∃ k, lv = k + 1 := ⟨lv - 1, by omega⟩
  have sub := hP lv p (by omega) hp
  have wP := hW p hp
  have wP2 := wP
  unfold pW at wP2
  cases e2 : (P p).1 with
  | true =>
    rw [start lv _ _ _ (sub.1 e2)]
    exact loop lv (by omega) 50 p (P p) none none e2 wP (by omega)
  | false =>
    obtain ⟨v, oo, g0⟩ := sub.2 e2
    show MR w I A a b c o (pLp (cB n (mBy A bs)) l P 50 (P p)) _
    rw [start lv _ _ _ g0, pLp_bad e2]
    exact MR.bad e2 ⟨_, oo, stopf lv _ none none (P p).2.1 (P p).2.1 oo (by omega) (by omega)⟩

theorem m_either {w : AH} {I : Nat → Int32} {A : Nat → Nat → Int32} {bs n u : Nat} {a b c : Int32} (h : MB I A bs n u a b c) {o d : Nat} {P : Nat → PR} (hW : ∀ p, p ≤ n → pW n p (P p)) (hP : MdM M_X12_both w I A n a b c o d P) : MdM M_X12_either w I A n a b c o (d + 1) (fun p => pLp (cB n (mBy A bs)) 0 P 50 (P p)) := by
  refine m_level h hW (fun lv v o2 o3 W => Ex M_X12_either lv 5 [some (.ref 123), some (.int v), o2] [] W) hP ?_ ?_ ?_ ?_
  · intro lv p v W2 g
    simp only [C_X12_either, R_X12_either, SB, mw_o, mo_g, g, if_true, ls1s]
  · intro lv v o2 o3 p hp q
    have q2 : (cB n (mBy A bs) p = 124) = False := eq_false (of_decide_eq_false q)
    have t := m_takes h hp (nI (5 - o)) 124 w 60
    simp only [q2, decide_false, if_false] at t
    rw [H_X12_either_5.1]
    simp only [R_X12_either, SB, mw_o, mo_g, if_true, t, bI_f]
  · intro lv v o2 o3 p q oo hp hq
    have t := m_takes_f h hp hq oo (x := 124) (eq_false (by decide)) w 60
    rw [H_X12_either_5.1]
    simp only [R_X12_either, SB, mw_o, mo_g, if_true, t]
  · intro lv v o2 o3 p y W2 hp q g
    have q1 : cB n (mBy A bs) p = 124 := of_decide_eq_true q
    have t := m_takes h hp (nI (5 - o)) 124 w 60
    simp only [q1, decide_true, if_true] at t
    refine ⟨some (.int y), o3, ?_⟩
    rw [H_X12_either_5.1, q1]
    simp only [R_X12_either, SB, mw_o, mo_g, if_true, t, bI_t, i10, if_false, g, ls1s]
    unfold jnI bI
    by_cases v0 : v = 0 <;> by_cases y0 : y = 0 <;> simp [v0, y0]
theorem m_both {w : AH} {I : Nat → Int32} {A : Nat → Nat → Int32} {bs n u : Nat} {a b c : Int32} (h : MB I A bs n u a b c) {o d : Nat} {P : Nat → PR} (hW : ∀ p, p ≤ n → pW n p (P p)) (hP : MdM M_X12_compared w I A n a b c o d P) : MdM M_X12_both w I A n a b c o (d + 1) (fun p => pLp (cB n (mBy A bs)) 1 P 50 (P p)) := by
  refine m_level h hW (fun lv v o2 o3 W => Ex M_X12_both lv 5 [some (.ref 123), some (.int v), o2] [] W) hP ?_ ?_ ?_ ?_
  · intro lv p v W2 g
    simp only [C_X12_both, R_X12_both, SB, mw_o, mo_g, g, if_true, ls1s]
  · intro lv v o2 o3 p hp q
    have q2 : (cB n (mBy A bs) p = 38) = False := eq_false (of_decide_eq_false q)
    have t := m_takes h hp (nI (5 - o)) 38 w 60
    simp only [q2, decide_false, if_false] at t
    rw [H_X12_both_5.1]
    simp only [R_X12_both, SB, mw_o, mo_g, if_true, t, bI_f]
  · intro lv v o2 o3 p q oo hp hq
    have t := m_takes_f h hp hq oo (x := 38) (eq_false (by decide)) w 60
    rw [H_X12_both_5.1]
    simp only [R_X12_both, SB, mw_o, mo_g, if_true, t]
  · intro lv v o2 o3 p y W2 hp q g
    have q1 : cB n (mBy A bs) p = 38 := of_decide_eq_true q
    have t := m_takes h hp (nI (5 - o)) 38 w 60
    simp only [q1, decide_true, if_true] at t
    refine ⟨some (.int y), o3, ?_⟩
    rw [H_X12_both_5.1, q1]
    simp only [R_X12_both, SB, mw_o, mo_g, if_true, t, bI_t, i10, if_false, g, ls1s]
    unfold jnI bI
    by_cases v0 : v = 0 <;> by_cases y0 : y = 0 <;> simp [v0, y0]
theorem m_sum {w : AH} {I : Nat → Int32} {A : Nat → Nat → Int32} {bs n u : Nat} {a b c : Int32} (h : MB I A bs n u a b c) {o d : Nat} {P : Nat → PR} (hW : ∀ p, p ≤ n → pW n p (P p)) (hP : MdM M_X12_product w I A n a b c o d P) : MdM M_X12_sum w I A n a b c o (d + 1) (fun p => pLp (cB n (mBy A bs)) 3 P 50 (P p)) := by
  refine m_level h hW (fun lv v o2 o3 W => Ex M_X12_sum lv 5 [some (.ref 123), some (.int v), o2, o3] [] W) hP ?_ ?_ ?_ ?_
  · intro lv p v W2 g
    simp only [C_X12_sum, R_X12_sum, SB, mw_o, mo_g, g, if_true, ls1s]
  · intro lv v o2 o3 p hp q
    have q2 := of_decide_eq_false q
    have t := m_here h hp (nI (5 - o)) w 60
    rw [H_X12_sum_5.1]
    simp only [R_X12_sum, SB, mw_o, mo_g, if_true, t, show (cB n (mBy A bs) p = 43) = False from eq_false (fun x => q2 (Or.inl x)), show (cB n (mBy A bs) p = 45) = False from eq_false (fun x => q2 (Or.inr x)), if_false, not_false_eq_true]
  · intro lv v o2 o3 p q oo hp hq
    have t := m_here_f h hp hq oo w 60
    rw [H_X12_sum_5.1]
    simp only [R_X12_sum, SB, mw_o, mo_g, if_true, t, show ((-1 : Int32) = 43) = False from eq_false (by decide), show ((-1 : Int32) = 45) = False from eq_false (by decide), if_false, not_false_eq_true]
  · intro lv v o2 o3 p y W2 hp q g
    have q1 := of_decide_eq_true q
    have t := m_here h hp (nI (5 - o)) w 60
    refine ⟨some (.int (cB n (mBy A bs) p)), some (.int y), ?_⟩
    rcases q1 with q1 | q1 <;> rw [q1] at t ⊢ <;> rw [H_X12_sum_5.1]
    · simp only [R_X12_sum, SB, mw_o, mo_g, mo_p, mw_so, mI_g, mI_6, nI_1, if_true, t, g, ls1s, not_true_eq_false, if_false]
      rfl
    · simp only [R_X12_sum, SB, mw_o, mo_g, mo_p, mw_so, mI_g, mI_6, nI_1, if_true, t, g, ls1s, not_true_eq_false, not_false_eq_true, if_false, show ((45 : Int32) = 43) = False from eq_false (by decide)]
      rfl
theorem m_product {w : AH} {I : Nat → Int32} {A : Nat → Nat → Int32} {bs n u : Nat} {a b c : Int32} (h : MB I A bs n u a b c) {o d : Nat} {P : Nat → PR} (hW : ∀ p, p ≤ n → pW n p (P p)) (hP : MdM M_X12_unit w I A n a b c o d P) : MdM M_X12_product w I A n a b c o (d + 1) (fun p => pLp (cB n (mBy A bs)) 4 P 50 (P p)) := by
  refine m_level h hW (fun lv v o2 o3 W => Ex M_X12_product lv 5 [some (.ref 123), some (.int v), o2, o3] [] W) hP ?_ ?_ ?_ ?_
  · intro lv p v W2 g
    simp only [C_X12_product, R_X12_product, SB, mw_o, mo_g, g, if_true, ls1s]
  · intro lv v o2 o3 p hp q
    have q2 := of_decide_eq_false q
    have t := m_here h hp (nI (5 - o)) w 60
    rw [H_X12_product_5.1]
    simp only [R_X12_product, SB, mw_o, mo_g, if_true, t, show (cB n (mBy A bs) p = 42) = False from eq_false (fun x => q2 (Or.inl x)), show (cB n (mBy A bs) p = 47) = False from eq_false (fun x => q2 (Or.inr (Or.inl x))), show (cB n (mBy A bs) p = 37) = False from eq_false (fun x => q2 (Or.inr (Or.inr x))), if_false, not_false_eq_true]
  · intro lv v o2 o3 p q oo hp hq
    have t := m_here_f h hp hq oo w 60
    rw [H_X12_product_5.1]
    simp only [R_X12_product, SB, mw_o, mo_g, if_true, t, show ((-1 : Int32) = 42) = False from eq_false (by decide), show ((-1 : Int32) = 47) = False from eq_false (by decide), show ((-1 : Int32) = 37) = False from eq_false (by decide), if_false, not_false_eq_true]
  · intro lv v o2 o3 p y W2 hp q g
    have q1 := of_decide_eq_true q
    have t := m_here h hp (nI (5 - o)) w 60
    refine ⟨some (.int (cB n (mBy A bs) p)), some (.int y), ?_⟩
    rcases q1 with q1 | q1 | q1 <;> rw [q1] at t ⊢ <;> rw [H_X12_product_5.1]
    · simp only [R_X12_product, SB, mw_o, mo_g, mo_p, mw_so, mI_g, mI_6, nI_1, if_true, t, g, ls1s, not_true_eq_false, if_false]
      rfl
    · rw [show jnI 47 v y = (if y = 0 then 0 else v / y) from rfl]
      by_cases y0 : y = 0
      · simp only [R_X12_product, SB, mw_o, mo_g, mo_p, mw_so, mI_g, mI_6, nI_1, if_true, t, g, ls1s, not_true_eq_false, not_false_eq_true, if_false, show ((47 : Int32) = 42) = False from eq_false (by decide), y0]
      · simp only [R_X12_product, SB, mw_o, mo_g, mo_p, mw_so, mI_g, mI_6, nI_1, if_true, t, g, ls1s, not_true_eq_false, not_false_eq_true, if_false, show ((47 : Int32) = 42) = False from eq_false (by decide), y0]
    · rw [show jnI 37 v y = (if y = 0 then 0 else v - v / y * y) from rfl]
      by_cases y0 : y = 0
      · simp only [R_X12_product, SB, mw_o, mo_g, mo_p, mw_so, mI_g, mI_6, nI_1, if_true, t, g, ls1s, not_true_eq_false, not_false_eq_true, if_false, show ((37 : Int32) = 42) = False from eq_false (by decide), show ((37 : Int32) = 47) = False from eq_false (by decide), y0]
      · simp only [R_X12_product, SB, mw_o, mo_g, mo_p, mw_so, mI_g, mI_6, nI_1, if_true, t, g, ls1s, not_true_eq_false, not_false_eq_true, if_false, show ((37 : Int32) = 42) = False from eq_false (by decide), show ((37 : Int32) = 47) = False from eq_false (by decide), y0]
theorem m_compared {w : AH} {I : Nat → Int32} {A : Nat → Nat → Int32} {bs n u : Nat} {a b c : Int32} (h : MB I A bs n u a b c) {o d : Nat} {P : Nat → PR} (hW : ∀ p, p ≤ n → pW n p (P p)) (hP : MdM M_X12_sum w I A n a b c o d P) : MdM M_X12_compared w I A n a b c o (d + 1) (fun p => pLp (cB n (mBy A bs)) 2 P 1 (P p)) := by
  have ln := h.ln
  intro lv p hlv hp
  obtain ⟨lv, rfl⟩ : ∃ k, lv = k + 1 := ⟨lv - 1, by omega⟩
  have sub := hP lv p (by omega) hp
  have wP := hW p hp
  unfold pW at wP
  show MR w I A a b c o (pLp (cB n (mBy A bs)) 2 P 1 (P p)) _
  cases e2 : (P p).1 with
  | false =>
    obtain ⟨v, oo, g0⟩ := sub.2 e2
    rw [pLp_bad e2]
    refine MR.bad e2 ⟨v, oo, ?_⟩
    have t := m_here_f h (show (P p).2.1 ≤ 50 by omega) (show (P p).2.1 ≤ 50 by omega) oo w 60
    simp only [C_X12_compared, R_X12_compared, SB, mw_o, mo_g, g0, if_true, ls1s, t, show ((-1 : Int32) = 60) = False from eq_false (by decide), show ((-1 : Int32) = 61) = False from eq_false (by decide), show ((-1 : Int32) = 62) = False from eq_false (by decide), if_false, not_false_eq_true]
  | true =>
    have g := sub.1 e2
    have t := m_here h (show (P p).2.1 ≤ 50 by omega) (nI (5 - o)) w 60
    cases e : isOp 2 (cB n (mBy A bs) (P p).2.1) with
    | false =>
      rw [pLp_no e]
      have q2 := of_decide_eq_false e
      refine MR.good e2 ?_
      simp only [C_X12_compared, R_X12_compared, SB, mw_o, mo_g, g, if_true, ls1s, t, show (cB n (mBy A bs) (P p).2.1 = 60) = False from eq_false (fun x => q2 (Or.inl x)), show (cB n (mBy A bs) (P p).2.1 = 61) = False from eq_false (fun x => q2 (Or.inr (Or.inl x))), show (cB n (mBy A bs) (P p).2.1 = 62) = False from eq_false (fun x => q2 (Or.inr (Or.inr x))), if_false, not_false_eq_true]
    | true =>
      have q1 := isOp_lt e
      rw [pLp_yes e2 e]
      show MR w I A a b c o (pJn (cB n (mBy A bs) (P p).2.1) (P p) (P ((P p).2.1 + 1))) _
      have sub2 := hP lv ((P p).2.1 + 1) (by omega) (by omega)
      have go : ∀ y W2, Call M_X12_sum lv [.ref 123] (mw w (mI I (nI ((P p).2.1 + 1)) (-1) (nI (5 - o))) A) = some (some (.int y), W2) → Call M_X12_compared (lv + 1) [.ref 123] (mw w (mI I (nI p) (-1) (nI (5 - o))) A) = some (some (.int (jnI (cB n (mBy A bs) (P p).2.1) ((P p).2.2.2 a b c) y)), W2) := by
        intro y W2 gy
        have q1 := of_decide_eq_true e
        rcases q1 with q1 | q1 | q1 <;> rw [q1] at t ⊢
        · rw [show jnI 60 ((P p).2.2.2 a b c) y = bI (decide (¬ y ≤ (P p).2.2.2 a b c)) from rfl]
          by_cases z : y ≤ (P p).2.2.2 a b c <;> simp [C_X12_compared, R_X12_compared, SB, mw_o, mo_g, mo_p, mw_so, mI_g, mI_6, nI_1, g, ls1s, t, gy, z, bI]
        · rw [show jnI 61 ((P p).2.2.2 a b c) y = bI (decide ((P p).2.2.2 a b c = y)) from rfl]
          by_cases z : (P p).2.2.2 a b c = y <;> simp [C_X12_compared, R_X12_compared, SB, mw_o, mo_g, mo_p, mw_so, mI_g, mI_6, nI_1, g, ls1s, t, gy, z, bI]
        · rw [show jnI 62 ((P p).2.2.2 a b c) y = bI (decide (¬ (P p).2.2.2 a b c ≤ y)) from rfl]
          by_cases z : (P p).2.2.2 a b c ≤ y <;> simp [C_X12_compared, R_X12_compared, SB, mw_o, mo_g, mo_p, mw_so, mI_g, mI_6, nI_1, g, ls1s, t, gy, z, bI]
      cases e3 : (P ((P p).2.1 + 1)).1 with
      | true => exact MR.good e3 (go _ _ (sub2.1 e3))
      | false =>
        obtain ⟨v, oo, g0⟩ := sub2.2 e3
        exact MR.bad e3 ⟨_, oo, go _ _ g0⟩
theorem m_levels {w : AH} {I : Nat → Int32} {A : Nat → Nat → Int32} {bs n u : Nat} {a b c : Int32} (h : MB I A bs n u a b c) {o : Nat} {P : Nat → PR} (hW : ∀ p, p ≤ n → pW n p (P p)) (hP : MdM M_X12_unit w I A n a b c o 0 P) : MdM M_X12_either w I A n a b c o 5 (pLv (cB n (mBy A bs)) P 5) := by
  have w1 := fun p hp => pLv_w (B := mBy A bs) hW 1 p hp
  have w2 := fun p hp => pLv_w (B := mBy A bs) hW 2 p hp
  have w3 := fun p hp => pLv_w (B := mBy A bs) hW 3 p hp
  have w4 := fun p hp => pLv_w (B := mBy A bs) hW 4 p hp
  exact m_either h w4 (m_both h w3 (m_compared h w2 (m_sum h w1 (m_product h hW hP))))
