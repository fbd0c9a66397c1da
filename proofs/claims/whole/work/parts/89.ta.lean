/-! ===== lands: what they are ===== -/
theorem land_c (col : Nat → Nat) {k : Nat} (hk : k < 36) : ∀ j, j < 36 → (land col k).testBit j = true → col j = col k := by
  obtain ⟨c1, c2, c3, c4, c5⟩ := gro_all (two_lt hk) (csN_lt col (col k))
  intro j hj h
  have := c2 j hj h
  rw [csN_b] at this
  simp [hj] at this
  exact this
theorem land_clos (col : Nat → Nat) {k : Nat} (hk : k < 36) {i y : Nat} (hi : i < 36) (hc : col i = col k) (hy : y < 4) (h1 : nbN i y < 36) (h2 : (land col k).testBit (nbN i y) = true) : (land col k).testBit i = true := by
  obtain ⟨c1, c2, c3, c4, c5⟩ := gro_all (two_lt hk) (csN_lt col (col k))
  exact c4 i hi (by rw [csN_b, hc]; simp [hi]) ⟨y, hy, h1, h2⟩
/-- the least: what is closed and holds the knot holds its land -/
theorem land_min (col : Nat → Nat) {k : Nat} (hk : k < 36) {x : Nat} (hx : x.testBit k = true) (hcl : ∀ i, i < 36 → col i = col k → (∃ y, y < 4 ∧ nbN i y < 36 ∧ x.testBit (nbN i y) = true ∧ col (nbN i y) = col k) → x.testBit i = true) : ∀ j, j < 36 → (land col k).testBit j = true → x.testBit j = true := by
  obtain ⟨c1, c2, c3, c4, c5⟩ := gro_all (two_lt hk) (csN_lt col (col k))
  have key : ∀ j, j < 36 → (land col k).testBit j = true → (x &&& csN col (col k)).testBit j = true := by
    refine c5 _ ?_ ?_
    · intro i hi hw ⟨y, y1, y2, y3⟩
      rw [Nat.testBit_and, Bool.and_eq_true] at y3 ⊢
      refine ⟨?_, hw⟩
      rw [csN_b] at hw y3
      simp [hi] at hw
      simp [y2] at y3
      exact hcl i hi hw ⟨y, y1, y2, y3.1, y3.2⟩
    · intro i hi h1 h2
      rw [Nat.testBit_two_pow] at h1
      have : k = i := by simpa using h1
      subst this
      rw [Nat.testBit_and, hx, h2]; rfl
  intro j hj h
  have := key j hj h
  rw [Nat.testBit_and, Bool.and_eq_true] at this
  exact this.1
theorem land_eq (col : Nat → Nat) {k j : Nat} (hk : k < 36) (hj : j < 36) (h : (land col k).testBit j = true) : land col j = land col k := by
  have hc := land_c col hk j hj h
  have sub : ∀ i, i < 36 → (land col j).testBit i = true → (land col k).testBit i = true := land_min col hj h (fun i hi hic ⟨y, y1, y2, y3, y4⟩ => land_clos col hk hi (by rw [hic, hc]) y1 y2 y3)
  have hkj : (land col j).testBit k = true := by
    apply Classical.byContradiction
    intro hn
    have all := land_min col hk (x := dfN (land col k) (land col j)) (by rw [dfN_b, land_self col hk]; cases z : (land col j).testBit k with | false => rfl | true => exact absurd z hn) (by
      intro i hi hic ⟨y, y1, y2, y3, y4⟩
      rw [dfN_b, Bool.and_eq_true] at y3 ⊢
      refine ⟨land_clos col hk hi hic y1 y2 y3.1, ?_⟩
      cases z : (land col j).testBit i with
      | false => rfl
      | true =>
        obtain ⟨o1, o2⟩ := nb_opp i hi y y1 y2
        have := land_clos col hj (i := nbN i y) (y := opp y) y2 (by rw [y4, hc]) o2 (by rw [o1]; exact hi) (by rw [o1]; exact z)
        rw [this] at y3
        exact absurd y3.2 (by decide)) j hj h
    rw [dfN_b, land_self col hj] at all
    simp at all
  apply bit_ext (land_lt col hj) (land_lt col hk)
  intro i hi
  constructor
  · exact sub i hi
  · intro q
    exact land_min col hk hkj (fun i hi hic ⟨y, y1, y2, y3, y4⟩ => land_clos col hj hi (by rw [hic, hc]) y1 y2 y3) i hi q
theorem land_pos (col : Nat → Nat) {k : Nat} (hk : k < 36) : 0 < land col k := by
  have := land_self col hk
  apply Nat.pos_of_ne_zero
  intro z
  rw [z] at this
  simp at this
/-- the least knot of its land -/
def lkB (col : Nat → Nat) (k : Nat) : Bool := decide (low (land col k) = k)
theorem low_le {n k : Nat} (h0 : 0 < n) (h : n < 2 ^ 36) (hk : n.testBit k = true) : low n ≤ k := by
  obtain ⟨a, b, c, d⟩ := low_of h0 h
  apply Nat.le_of_not_lt
  intro q
  have := c k q
  rw [hk] at this
  cases this
theorem land_low (col : Nat → Nat) {k : Nat} (hk : k < 36) : low (land col k) < 36 ∧ low (land col k) ≤ k ∧ land col (low (land col k)) = land col k ∧ lkB col (low (land col k)) = true := by
  obtain ⟨a, b, c, d⟩ := low_of (land_pos col hk) (land_lt col hk)
  have e := land_eq col hk a b
  exact ⟨a, low_le (land_pos col hk) (land_lt col hk) (land_self col hk), e, decide_eq_true (by rw [e])⟩
/-- a set of knots of one colour that holds each land whole -/
def whl (col : Nat → Nat) (c rest : Nat) : Prop := rest < 2 ^ 36 ∧ ∀ i, i < 36 → rest.testBit i = true → col i = c ∧ ∀ j, j < 36 → (land col i).testBit j = true → rest.testBit j = true
theorem whl_all (col : Nat → Nat) (c : Nat) : whl col c (csN col c) := by
  refine ⟨csN_lt col c, fun i hi h => ?_⟩
  rw [csN_b] at h
  simp [hi] at h
  refine ⟨h, fun j hj q => ?_⟩
  rw [csN_b, land_c col hi j hj q, h]
  simp [hj]
theorem whl_gro {col : Nat → Nat} {c rest l : Nat} (h : whl col c rest) (hl : l < 36) (hr : rest.testBit l = true) : gro rest 36 (2 ^ l &&& rest) = land col l := by
  obtain ⟨h1, h2⟩ := h
  obtain ⟨c1, c2, c3, c4, c5⟩ := gro_all (two_lt hl) h1
  obtain ⟨l1, l2⟩ := h2 l hl hr
  apply bit_ext c1 (land_lt col hl)
  intro i hi
  constructor
  · intro q
    refine c5 _ ?_ ?_ i hi q
    · intro j hj hw ⟨y, y1, y2, y3⟩
      exact land_clos col hl hj (by rw [(h2 j hj hw).1, l1]) y1 y2 y3
    · intro j hj t1 t2
      rw [Nat.testBit_two_pow] at t1
      have : l = j := by simpa using t1
      rw [← this]; exact land_self col hl
  · intro q
    refine land_min col hl (c3 l hl (by rw [Nat.testBit_two_pow]; simp) hr) ?_ i hi q
    intro j hj hc ⟨y, y1, y2, y3, y4⟩
    have r2 := c2 _ y2 y3
    have lj : (land col (nbN j y)).testBit j = true := land_clos col y2 hj (by rw [hc, y4]) y1 y2 (land_self col y2)
    exact c4 j hj ((h2 _ y2 r2).2 j hj lj) ⟨y, y1, y2, y3⟩
theorem whl_df {col : Nat → Nat} {c rest l : Nat} (h : whl col c rest) (hl : l < 36) : whl col c (dfN rest (land col l)) := by
  obtain ⟨h1, h2⟩ := h
  refine ⟨dfN_lt h1, fun i hi q => ?_⟩
  rw [dfN_b, Bool.and_eq_true] at q
  refine ⟨(h2 i hi q.1).1, fun j hj r => ?_⟩
  rw [dfN_b, Bool.and_eq_true]
  refine ⟨(h2 i hi q.1).2 j hj r, ?_⟩
  cases z : (land col l).testBit j with
  | false => rfl
  | true =>
    have e : land col i = land col l := (land_eq col hi hj r).symm.trans (land_eq col hl hj z)
    have := land_self col hi
    rw [e] at this
    rw [this] at q
    exact absurd q.2 (by decide)
def lkR (col : Nat → Nat) (rest : Nat) (k : Nat) : Bool := rest.testBit k && lkB col k
theorem cnt_del {P Q : Nat → Bool} {n : Nat} (hP : P n = true) (hQ : ∀ k, Q k = (if k = n then false else P k)) {N : Nat} (h : n < N) : cnt P N = cnt Q N + 1 := by
  have e := cnt_u Q n (by rw [hQ, if_pos rfl]) N
  rw [if_pos h] at e
  rw [← e]
  apply cnt_congr
  intro k hk
  unfold uB1
  by_cases q : k = n
  · rw [if_pos q, q]; exact hP
  · rw [if_neg q, hQ, if_neg q]
theorem lk_df {col : Nat → Nat} {c rest : Nat} (h : whl col c rest) (h0 : 0 < rest) : cnt (lkR col rest) 36 = cnt (lkR col (dfN rest (land col (low rest)))) 36 + 1 := by
  obtain ⟨a, b, c0, d⟩ := low_of h0 h.1
  obtain ⟨l1, l2, l3, l4⟩ := land_low col a
  have e : low (land col (low rest)) = low rest := by
    have h3 := (low_of (land_pos col a) (land_lt col a)).2.1
    have h4 := (h.2 _ a b).2 _ l1 h3
    have := low_le h0 h.1 h4
    omega
  refine cnt_del (n := low rest) ?_ ?_ a
  · unfold lkR
    rw [b]; unfold lkB; rw [e]; simp
  · intro k
    unfold lkR
    rw [dfN_b]
    by_cases q : k = low rest
    · rw [if_pos q, q, land_self col a]; simp
    · rw [if_neg q]
      cases z : (land col (low rest)).testBit k with
      | false => simp
      | true =>
        by_cases hk : k < 36
        · have e2 := land_eq col a hk z
          have : lkB col k = false := by
            unfold lkB
            rw [e2, e]
            exact decide_eq_false (fun x => q x.symm)
          rw [this]; simp
        · rw [tb36 (land_lt col a) (by omega)] at z; cases z
theorem s_countLands {w : AH} {c : Nat} {col wear : Nat → Nat} (h : CarAt w c col wear) {x : Nat} (hx : x < 8) (lv : Nat) : Call M_X0_countLands lv [.ref c, .int (nI x)] w = some (some (.int (nI (cnt (fun k => decide (col k = x) && lkB col k) 36))), w) := by
  have key : ∀ m rest n, cnt (lkR col rest) 36 = m → n + m ≤ 36 → whl col x rest → Ex M_X0_countLands lv 12 [some (.ref c), some (.int (nI x)), some (.long (lN rest)), none, some (.int (nI n)), some (.int (nI n))] [] w = some (some (.int (nI (n + m))), w) := by
    intro m
    induction m with
    | zero =>
      intro rest n hm hn hw
      have r0 : rest = 0 := by
        apply Classical.byContradiction
        intro z
        have := lk_df hw (Nat.pos_of_ne_zero z)
        omega
      subst r0
      rw [H_X0_countLands_12]
      by_cases q : 36 ≤ n
      · have e1 : ((36 : Int32) ≤ nI n) = True := by rw [show (36 : Int32) = nI 36 from rfl, le_nI (by decide) (by omega)]; exact eq_true q
        simp only [R_X0_countLands, SB, e1, if_true, Nat.add_zero]
      · have e1 : ((36 : Int32) ≤ nI n) = False := by rw [show (36 : Int32) = nI 36 from rfl, le_nI (by decide) (by omega)]; exact eq_false q
        simp only [R_X0_countLands, SB, e1, if_true, if_false, Nat.add_zero, show (0 : Int64) = lN 0 from rfl, lcmp0 (show 0 < 2 ^ 64 by decide) (show 0 < 2 ^ 64 by decide)]
    | succ m ih =>
      intro rest n hm hn hw
      have h36 := hw.1
      have r0 : 0 < rest := by
        apply Nat.pos_of_ne_zero
        intro z
        subst z
        have : cnt (lkR col 0) 36 = 0 := cnt_false' (fun k _ => by unfold lkR; rw [Nat.zero_testBit]; rfl)
        omega
      have ld := lk_df hw r0
      obtain ⟨a, b, c0, d⟩ := low_of r0 h36
      have e1 : ((36 : Int32) ≤ nI n) = False := by rw [show (36 : Int32) = nI 36 from rfl, le_nI (by decide) (by omega)]; apply eq_false; omega
      have e2 : lN rest &&& -lN rest = lN (2 ^ low rest) := by
        rw [lN_neg (by omega), wb_and (by omega) (by omega), d]
      have e3 := s_grown (two_lt a) h36 w 60
      rw [whl_gro hw a b] at e3
      rw [H_X0_countLands_12]
      have ll := land_lt col a
      have r1 : (rest = 0) = False := eq_false (by omega)
      simp only [R_X0_countLands, SB, e1, if_true, if_false, show (0 : Int64) = lN 0 from rfl, lcmp0 (show rest < 2 ^ 64 by omega) (show 0 < 2 ^ 64 by decide), r1, e2, e3, lN_df h36 ll, ls1s, ls2s, nI_1]
      refine (show _ = _ from rfl).trans ((ih (dfN rest (land col (low rest))) (n + 1) (by omega) (by omega) (whl_df hw a)).trans ?_)
      rw [show n + 1 + m = n + (m + 1) by omega]
  have e : cnt (lkR col (csN col x)) 36 = cnt (fun k => decide (col k = x) && lkB col k) 36 := cnt_congr (fun k hk => by
    unfold lkR
    rw [csN_b, decide_eq_true hk, Bool.true_and])
  have k2 := key _ (csN col x) 0 e (by have := cnt_le (fun k => decide (col k = x) && lkB col k) 36; omega) (whl_all col x)
  rw [Nat.zero_add] at k2
  simp only [C_X0_countLands, R_X0_countLands, SB, clK_gf h.p0, s_ofColour h hx, ls1s, ls2s, if_true]
  exact k2
