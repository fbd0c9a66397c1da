/-! ===== how the model's numbers tell a country ===== -/
/-- the text u that the numbers D hold -/
def TxR (D : Nat → Int32) (u : Nat) (t : Tx) : Prop := ∃ n : Nat, D (97 + u) = nI n ∧ n ≤ 50 ∧ t.1 = decide (0 < n) ∧ (0 < n → (pT u n (fun k => D (119 + 50 * u + k))).1 = true ∧ (pT u n (fun k => D (119 + 50 * u + k))).2.1 = n ∧ (pT u n (fun k => D (119 + 50 * u + k))).2.2.2 = t.2)
def DR (D : Nat → Int32) (S : Co) : Prop := (D 0 = nI S.nw) ∧ (D 1 = nI S.day) ∧ (D 2 = S.z) ∧ (D 3 = nI S.tape.1) ∧ (D 4 = nI S.wait.1) ∧ (∀ k, k < 36 → D (5 + k) = nI (S.col k)) ∧ (∀ k, k < 36 → D (41 + k) = nI (S.wear k)) ∧ (∀ i, i < S.nw → ∀ x, x < 4 → D (77 + 4 * i + x) = nI (S.wk i x)) ∧ (TxR D 0 S.pat) ∧ (TxR D 1 S.wor) ∧ (∀ k, k < S.wait.1 → D (99 + k) = S.wait.2 k) ∧ (∀ k, k < S.tape.1 → D (219 + k) = S.tape.2 k) ∧ (∀ k, k < 36 → S.col k < 8) ∧ (∀ k, k < 36 → S.wear k < 100) ∧ (∀ i, i < S.nw → S.wk i 0 < 7 ∧ S.wk i 1 < 10 ∧ S.wk i 2 < 36 ∧ S.wk i 3 < 4) ∧ (S.nw ≤ 5) ∧ (S.day < 100000) ∧ (S.tape.1 ≤ 50) ∧ (S.wait.1 ≤ 20) ∧ (∀ k, k < S.tape.1 → inR (S.tape.2 k) 256 = true)
theorem DR.nw {D : Nat → Int32} {S : Co} (h : DR D S) : D 0 = nI S.nw := h.1
theorem DR.day {D : Nat → Int32} {S : Co} (h : DR D S) : D 1 = nI S.day := h.2.1
theorem DR.z {D : Nat → Int32} {S : Co} (h : DR D S) : D 2 = S.z := h.2.2.1
theorem DR.tn {D : Nat → Int32} {S : Co} (h : DR D S) : D 3 = nI S.tape.1 := h.2.2.2.1
theorem DR.wn {D : Nat → Int32} {S : Co} (h : DR D S) : D 4 = nI S.wait.1 := h.2.2.2.2.1
theorem DR.col {D : Nat → Int32} {S : Co} (h : DR D S) : ∀ k, k < 36 → D (5 + k) = nI (S.col k) := h.2.2.2.2.2.1
theorem DR.wear {D : Nat → Int32} {S : Co} (h : DR D S) : ∀ k, k < 36 → D (41 + k) = nI (S.wear k) := h.2.2.2.2.2.2.1
theorem DR.wk {D : Nat → Int32} {S : Co} (h : DR D S) : ∀ i, i < S.nw → ∀ x, x < 4 → D (77 + 4 * i + x) = nI (S.wk i x) := h.2.2.2.2.2.2.2.1
theorem DR.pat {D : Nat → Int32} {S : Co} (h : DR D S) : TxR D 0 S.pat := h.2.2.2.2.2.2.2.2.1
theorem DR.wor {D : Nat → Int32} {S : Co} (h : DR D S) : TxR D 1 S.wor := h.2.2.2.2.2.2.2.2.2.1
theorem DR.wt {D : Nat → Int32} {S : Co} (h : DR D S) : ∀ k, k < S.wait.1 → D (99 + k) = S.wait.2 k := h.2.2.2.2.2.2.2.2.2.2.1
theorem DR.tp {D : Nat → Int32} {S : Co} (h : DR D S) : ∀ k, k < S.tape.1 → D (219 + k) = S.tape.2 k := h.2.2.2.2.2.2.2.2.2.2.2.1
theorem DR.rc {D : Nat → Int32} {S : Co} (h : DR D S) : ∀ k, k < 36 → S.col k < 8 := h.2.2.2.2.2.2.2.2.2.2.2.2.1
theorem DR.rw {D : Nat → Int32} {S : Co} (h : DR D S) : ∀ k, k < 36 → S.wear k < 100 := h.2.2.2.2.2.2.2.2.2.2.2.2.2.1
theorem DR.rk {D : Nat → Int32} {S : Co} (h : DR D S) : ∀ i, i < S.nw → S.wk i 0 < 7 ∧ S.wk i 1 < 10 ∧ S.wk i 2 < 36 ∧ S.wk i 3 < 4 := h.2.2.2.2.2.2.2.2.2.2.2.2.2.2.1
theorem DR.rn {D : Nat → Int32} {S : Co} (h : DR D S) : S.nw ≤ 5 := h.2.2.2.2.2.2.2.2.2.2.2.2.2.2.2.1
theorem DR.rd {D : Nat → Int32} {S : Co} (h : DR D S) : S.day < 100000 := h.2.2.2.2.2.2.2.2.2.2.2.2.2.2.2.2.1
theorem DR.rt {D : Nat → Int32} {S : Co} (h : DR D S) : S.tape.1 ≤ 50 := h.2.2.2.2.2.2.2.2.2.2.2.2.2.2.2.2.2.1
theorem DR.rv {D : Nat → Int32} {S : Co} (h : DR D S) : S.wait.1 ≤ 20 := h.2.2.2.2.2.2.2.2.2.2.2.2.2.2.2.2.2.2.1
theorem DR.tb {D : Nat → Int32} {S : Co} (h : DR D S) : ∀ k, k < S.tape.1 → inR (S.tape.2 k) 256 = true := h.2.2.2.2.2.2.2.2.2.2.2.2.2.2.2.2.2.2.2
theorem TxR.keep {D E : Nat → Int32} {u : Nat} {t : Tx} (h : TxR D u t) (e : ∀ k, 97 ≤ k → E k = D k) : TxR E u t := by
  have e1 : (fun k => E (119 + 50 * u + k)) = (fun k => D (119 + 50 * u + k)) := funext (fun k => e _ (by omega))
  unfold TxR
  rw [e1, e (97 + u) (by omega)]
  exact h
theorem DR.mkL {D E : Nat → Int32} {S : Co} (h : DR D S) {col wear : Nat → Nat} {wk : Nat → Nat → Nat} {nw day : Nat} {z : Int32} (e : ∀ k, 97 ≤ k → E k = D k) (e3 : E 3 = D 3) (e4 : E 4 = D 4) (a0 : E 0 = nI nw) (a1 : E 1 = nI day) (a2 : E 2 = z) (b0 : ∀ k, k < 36 → E (5 + k) = nI (col k)) (b1 : ∀ k, k < 36 → E (41 + k) = nI (wear k)) (b2 : ∀ i, i < nw → ∀ x, x < 4 → E (77 + 4 * i + x) = nI (wk i x)) (c0 : ∀ k, k < 36 → col k < 8) (c1 : ∀ k, k < 36 → wear k < 100) (c2 : ∀ i, i < nw → wk i 0 < 7 ∧ wk i 1 < 10 ∧ wk i 2 < 36 ∧ wk i 3 < 4) (c3 : nw ≤ 5) (c4 : day < 100000) : DR E (col, wear, wk, (nw, day, z), S.2.2.2.2) :=
  ⟨a0, a1, a2, e3.trans h.tn, e4.trans h.wn, b0, b1, b2, h.pat.keep e, h.wor.keep e, fun k hk => (e _ (by omega)).trans (h.wt k hk), fun k hk => (e _ (by omega)).trans (h.tp k hk), c0, c1, c2, c3, c4, h.rt, h.rv, h.tb⟩
/-- nothing from 97 on has changed -/
def Lo (D E : Nat → Int32) : Prop := ∀ k, 97 ≤ k → E k = D k
theorem Lo.refl (D : Nat → Int32) : Lo D D := fun _ _ => rfl
theorem Lo.trans {D E F : Nat → Int32} (h : Lo D E) (g : Lo E F) : Lo D F := fun k hk => (g k hk).trans (h k hk)
theorem Lo.up {D : Nat → Int32} {k : Nat} (h : k < 97) (x : Int32) : Lo D (upd D k x) := fun j hj => by unfold upd; rw [if_neg (by omega)]
theorem upd_n {D : Nat → Int32} {k j : Nat} {x : Int32} (h : j ≠ k) : upd D k x j = D j := if_neg h
theorem upd_s (D : Nat → Int32) (k : Nat) (x : Int32) : upd D k x k = x := if_pos rfl
theorem DR.setC {D : Nat → Int32} {S : Co} (h : DR D S) {k v : Nat} (hk : k < 36) (hv : v < 8) : DR (upd D (5 + k) (nI v)) (S.upd3 (updN S.col k v) S.wear S.wk) := by
  have hn := h.rn
  refine h.mkL (Lo.up (by omega) _) (upd_n (by omega)) (upd_n (by omega)) ((upd_n (by omega)).trans h.nw) ((upd_n (by omega)).trans h.day) ((upd_n (by omega)).trans h.z) ?_ (fun j hj => (upd_n (by omega)).trans (h.wear j hj)) (fun i hi x hx => (upd_n (by omega)).trans (h.wk i hi x hx)) ?_ h.rw h.rk h.rn h.rd
  · intro j hj
    by_cases q : j = k
    · subst q; rw [upd_s, updN_s]
    · rw [upd_n (by omega), updN_n _ _ q]; exact h.col j hj
  · intro j hj
    by_cases q : j = k
    · subst q; rw [updN_s]; exact hv
    · rw [updN_n _ _ q]; exact h.rc j hj
theorem DR.setW {D : Nat → Int32} {S : Co} (h : DR D S) {k v : Nat} (hk : k < 36) (hv : v < 100) : DR (upd D (41 + k) (nI v)) (S.upd3 S.col (updN S.wear k v) S.wk) := by
  have hn := h.rn
  refine h.mkL (Lo.up (by omega) _) (upd_n (by omega)) (upd_n (by omega)) ((upd_n (by omega)).trans h.nw) ((upd_n (by omega)).trans h.day) ((upd_n (by omega)).trans h.z) (fun j hj => (upd_n (by omega)).trans (h.col j hj)) ?_ (fun i hi x hx => (upd_n (by omega)).trans (h.wk i hi x hx)) h.rc ?_ h.rk h.rn h.rd
  · intro j hj
    by_cases q : j = k
    · subst q; rw [upd_s, updN_s]
    · rw [upd_n (by omega), updN_n _ _ q]; exact h.wear j hj
  · intro j hj
    by_cases q : j = k
    · subst q; rw [updN_s]; exact hv
    · rw [updN_n _ _ q]; exact h.rw j hj
/-- number x of walker i -/
def wkK (wk : Nat → Nat → Nat) (i x v : Nat) : Nat → Nat → Nat := fun j y => if j = i ∧ y = x then v else wk j y
theorem setPW_K (wk : Nat → Nat → Nat) (i p y : Nat) : setPW wk i p y = wkK (wkK wk i 3 y) i 2 p := by
  funext j x
  unfold setPW wkK
  by_cases q : j = i
  · by_cases q2 : x = 2
    · simp [q, q2]
    · by_cases q3 : x = 3 <;> simp [q, q2, q3]
  · simp [q]
theorem DR.setK {D : Nat → Int32} {S : Co} (h : DR D S) {i x v : Nat} (hi : i < S.nw) (hx : x < 4) (hv : (x = 0 → v < 7) ∧ (x = 1 → v < 10) ∧ (x = 2 → v < 36) ∧ (x = 3 → v < 4)) : DR (upd D (77 + 4 * i + x) (nI v)) (S.upd3 S.col S.wear (wkK S.wk i x v)) := by
  have hn := h.rn
  refine h.mkL (Lo.up (by omega) _) (upd_n (by omega)) (upd_n (by omega)) ((upd_n (by omega)).trans h.nw) ((upd_n (by omega)).trans h.day) ((upd_n (by omega)).trans h.z) (fun j hj => (upd_n (by omega)).trans (h.col j hj)) (fun j hj => (upd_n (by omega)).trans (h.wear j hj)) ?_ h.rc h.rw ?_ h.rn h.rd
  · intro j hj y hy
    unfold wkK
    by_cases q : j = i ∧ y = x
    · obtain ⟨rfl, rfl⟩ := q; rw [upd_s, if_pos ⟨rfl, rfl⟩]
    · rw [if_neg q, upd_n (by omega)]; exact h.wk j hj y hy
  · intro j hj
    obtain ⟨r0, r1, r2, r3⟩ := h.rk j hj
    obtain ⟨v0, v1, v2, v3⟩ := hv
    unfold wkK
    refine ⟨?_, ?_, ?_, ?_⟩
    · by_cases q : j = i ∧ 0 = x
      · rw [if_pos q]; exact v0 q.2.symm
      · rw [if_neg q]; exact r0
    · by_cases q : j = i ∧ 1 = x
      · rw [if_pos q]; exact v1 q.2.symm
      · rw [if_neg q]; exact r1
    · by_cases q : j = i ∧ 2 = x
      · rw [if_pos q]; exact v2 q.2.symm
      · rw [if_neg q]; exact r2
    · by_cases q : j = i ∧ 3 = x
      · rw [if_pos q]; exact v3 q.2.symm
      · rw [if_neg q]; exact r3
/-! small methods of the model -/
theorem m_isKnot (v : Int32) (w : AH) (lv : Nat) : Call M_X12_isKnot lv [.int v] w = some (some (.int (bI (inR v 36))), w) := by
  simp only [C_X12_isKnot, R_X12_isKnot, SB, s_m_inR v 35 36 (by decide), bI_01, if_true]
theorem m_isSheet (v : Int32) (w : AH) (lv : Nat) : Call M_X12_isSheet lv [.int v] w = some (some (.int (bI (inR v 4))), w) := by
  simp only [C_X12_isSheet, R_X12_isSheet, SB, s_m_inR v 3 4 (by decide), bI_01, if_true]
theorem pk_m1n {n : Nat} (h : n < 1000) : ((nI n - 1).toInt64).toInt + 1 = n := by
  rw [i64_of, show (1 : Int32) = nI 1 from rfl, nI_iz, nI_iz, iz_sub, iz_toInt (by omega) (by omega)]
  omega
theorem m_isWalker {S : Co} {I : Nat → Int32} {A : Nat → Nat → Int32} (h : DR (A 0) S) (v : Int32) (w : AH) (lv : Nat) : Call M_X12_isWalker lv [.ref 123, .int v] (mw w I A) = some (some (.int (bI (inR v S.nw))), mw w I A) := by
  have hn := h.rn
  simp (disch := omega) only [C_X12_isWalker, R_X12_isWalker, SB, mw_o, mw_a, mo_g, mo_p, mo_pz, mw_so, mw_sa, upA_eq, upA_upA, upd_upd, lit_le, le_lit, lit_lt, lt_lit, eq_lit, le_nI, lt_nI, eq_nI, lit_add, add_lit, nI_add, lit_sub, sub_lit, sub_nI, lit_mul, mul_lit, pk_mul, div_lit, nI_c, aI_a, aI_l, uI_0, uI_l, aB_2, uB_2, bI_e0, bI_e1, bI_n0, bI_n1, bI_01, b_ft, i10, i01, bI_t, bI_f, if_true, if_false, dec_t, dec_f, Bool.true_eq_false, Bool.false_eq_true, or_true, true_or, not_true_eq_false, not_false_eq_true, h.nw, s_m_inR v _ S.nw (pk_m1n (show S.nw < 1000 by omega))]
theorem m_of {S : Co} {I : Nat → Int32} {A : Nat → Nat → Int32} (h : DR (A 0) S) {i x : Nat} (hi : i < S.nw) (hx : x < 4) (w : AH) (lv : Nat) : Call M_X12_of lv [.ref 123, .int (nI i), .int (nI x)] (mw w I A) = some (some (.int (nI (S.wk i x))), mw w I A) := by
  have hn := h.rn
  simp (disch := omega) only [C_X12_of, R_X12_of, SB, mw_o, mw_a, mo_g, mo_p, mo_pz, mw_so, mw_sa, upA_eq, upA_upA, upd_upd, lit_le, le_lit, lit_lt, lt_lit, eq_lit, le_nI, lt_nI, eq_nI, lit_add, add_lit, nI_add, lit_sub, sub_lit, sub_nI, lit_mul, mul_lit, pk_mul, div_lit, nI_c, aI_a, aI_l, uI_0, uI_l, aB_2, uB_2, bI_e0, bI_e1, bI_n0, bI_n1, bI_01, b_ft, i10, i01, bI_t, bI_f, if_true, if_false, dec_t, dec_f, Bool.true_eq_false, Bool.false_eq_true, or_true, true_or, not_true_eq_false, not_false_eq_true, h.wk i hi x hx]
theorem m_of0 {S : Co} {I : Nat → Int32} {A : Nat → Nat → Int32} (h : DR (A 0) S) {i : Nat} (hi : i < S.nw) (w : AH) (lv : Nat) : Call M_X12_of lv [.ref 123, .int (nI i), .int 0] (mw w I A) = some (some (.int (nI (S.wk i 0))), mw w I A) := m_of h hi (x := 0) (by decide) w lv
theorem m_of1 {S : Co} {I : Nat → Int32} {A : Nat → Nat → Int32} (h : DR (A 0) S) {i : Nat} (hi : i < S.nw) (w : AH) (lv : Nat) : Call M_X12_of lv [.ref 123, .int (nI i), .int 1] (mw w I A) = some (some (.int (nI (S.wk i 1))), mw w I A) := m_of h hi (x := 1) (by decide) w lv
theorem m_of2 {S : Co} {I : Nat → Int32} {A : Nat → Nat → Int32} (h : DR (A 0) S) {i : Nat} (hi : i < S.nw) (w : AH) (lv : Nat) : Call M_X12_of lv [.ref 123, .int (nI i), .int 2] (mw w I A) = some (some (.int (nI (S.wk i 2))), mw w I A) := m_of h hi (x := 2) (by decide) w lv
theorem m_of3 {S : Co} {I : Nat → Int32} {A : Nat → Nat → Int32} (h : DR (A 0) S) {i : Nat} (hi : i < S.nw) (w : AH) (lv : Nat) : Call M_X12_of lv [.ref 123, .int (nI i), .int 3] (mw w I A) = some (some (.int (nI (S.wk i 3))), mw w I A) := m_of h hi (x := 3) (by decide) w lv
theorem m_sets {I : Nat → Int32} {A : Nat → Nat → Int32} {i x : Nat} (hi : i < 5) (hx : x < 4) (v : Int32) (w : AH) (lv : Nat) : Call M_X12_sets lv [.ref 123, .int (nI i), .int (nI x), .int v] (mw w I A) = some (none, mw w I (upA A 0 (upd (A 0) (77 + 4 * i + x) v))) := by
  simp (disch := omega) only [C_X12_sets, R_X12_sets, SB, mw_o, mw_a, mo_g, mo_p, mo_pz, mw_so, mw_sa, upA_eq, upA_upA, upd_upd, lit_le, le_lit, lit_lt, lt_lit, eq_lit, le_nI, lt_nI, eq_nI, lit_add, add_lit, nI_add, lit_sub, sub_lit, sub_nI, lit_mul, mul_lit, pk_mul, div_lit, nI_c, aI_a, aI_l, uI_0, uI_l, aB_2, uB_2, bI_e0, bI_e1, bI_n0, bI_n1, bI_01, b_ft, i10, i01, bI_t, bI_f, if_true, if_false, dec_t, dec_f, Bool.true_eq_false, Bool.false_eq_true, or_true, true_or, not_true_eq_false, not_false_eq_true]
theorem m_sets0 {I : Nat → Int32} {A : Nat → Nat → Int32} {i : Nat} (hi : i < 5) (v : Int32) (w : AH) (lv : Nat) : Call M_X12_sets lv [.ref 123, .int (nI i), .int 0, .int v] (mw w I A) = some (none, mw w I (upA A 0 (upd (A 0) (77 + 4 * i + 0) v))) := m_sets hi (x := 0) (by decide) v w lv
theorem m_sets1 {I : Nat → Int32} {A : Nat → Nat → Int32} {i : Nat} (hi : i < 5) (v : Int32) (w : AH) (lv : Nat) : Call M_X12_sets lv [.ref 123, .int (nI i), .int 1, .int v] (mw w I A) = some (none, mw w I (upA A 0 (upd (A 0) (77 + 4 * i + 1) v))) := m_sets hi (x := 1) (by decide) v w lv
theorem m_sets2 {I : Nat → Int32} {A : Nat → Nat → Int32} {i : Nat} (hi : i < 5) (v : Int32) (w : AH) (lv : Nat) : Call M_X12_sets lv [.ref 123, .int (nI i), .int 2, .int v] (mw w I A) = some (none, mw w I (upA A 0 (upd (A 0) (77 + 4 * i + 2) v))) := m_sets hi (x := 2) (by decide) v w lv
theorem m_sets3 {I : Nat → Int32} {A : Nat → Nat → Int32} {i : Nat} (hi : i < 5) (v : Int32) (w : AH) (lv : Nat) : Call M_X12_sets lv [.ref 123, .int (nI i), .int 3, .int v] (mw w I A) = some (none, mw w I (upA A 0 (upd (A 0) (77 + 4 * i + 3) v))) := m_sets hi (x := 3) (by decide) v w lv
/-- one error more -/
def erA (A : Nat → Nat → Int32) (k : Nat) : Nat → Nat → Int32 := upA A 2 (upd (A 2) k (A 2 k + 1))
theorem m_finds (I : Nat → Int32) (A : Nat → Nat → Int32) (w : AH) (lv : Nat) : ∀ k, 1 ≤ k → k < 6 → Call M_X12_finds lv [.ref 123, .int (nI k)] (mw w I A) = some (some (.int (-1000000000 - nI k)), mw w I (erA A k)) := by
  intro k h1 h2
  simp (disch := omega) only [C_X12_finds, R_X12_finds, SB, mw_o, mw_a, mo_g, mo_p, mo_pz, mw_so, mw_sa, upA_eq, upA_upA, upd_upd, aI_a, uI_0, if_true, erA]
theorem bes_tab : ∀ way, way < 4 → ∀ k, k < 36 → (if inR (nI k / 6 + (if way = 0 then -1 else if way = 2 then 1 else 0)) 6 = true ∧ inR (nI k - nI k / 6 * 6 + (if way = 1 then 1 else if way = 3 then -1 else 0)) 6 = true then 6 * (nI k / 6 + (if way = 0 then -1 else if way = 2 then 1 else 0)) + (nI k - nI k / 6 * 6 + (if way = 1 then 1 else if way = 3 then -1 else 0)) else -1) = nbI k way := by decide +kernel
theorem m_beside {k way : Nat} (hk : k < 36) (hw : way < 4) (w : AH) (lv : Nat) : Call M_X12_beside lv [.int (nI k), .int (nI way)] w = some (some (.int (nbI k way)), w) := by
  have q : way = 0 ∨ way = 1 ∨ way = 2 ∨ way = 3 := by omega
  rcases q with rfl | rfl | rfl | rfl
  · have e := bes_tab 0 (by decide) k hk
    simp only [show ((0 : Nat) = 1) = False from by decide, show ((0 : Nat) = 3) = False from by decide, if_true, if_false] at e
    rw [← e]
    simp only [C_X12_beside, R_X12_beside, SB, show nI 0 = (0 : Int32) from rfl, show ((6 : Int32) = 0) = False from by decide, show ((0 : Int32) = 1) = False from by decide, show ((0 : Int32) = 3) = False from by decide, not_true_eq_false, not_false_eq_true, if_false, if_true, ls1s, s_m_inR _ 5 6 (by decide), bI_e0]
    cases inR (nI k / 6 + -1) 6 <;> cases inR (nI k - nI k / 6 * 6 + 0) 6 <;> simp
  · have e := bes_tab 1 (by decide) k hk
    simp only [show ((1 : Nat) = 0) = False from by decide, show ((1 : Nat) = 2) = False from by decide, if_true, if_false] at e
    rw [← e]
    simp only [C_X12_beside, R_X12_beside, SB, show nI 1 = (1 : Int32) from rfl, show ((6 : Int32) = 0) = False from by decide, show ((1 : Int32) = 0) = False from by decide, show ((1 : Int32) = 2) = False from by decide, not_true_eq_false, not_false_eq_true, if_false, if_true, ls1s, s_m_inR _ 5 6 (by decide), bI_e0]
    cases inR (nI k / 6 + 0) 6 <;> cases inR (nI k - nI k / 6 * 6 + 1) 6 <;> simp
  · have e := bes_tab 2 (by decide) k hk
    simp only [show ((2 : Nat) = 0) = False from by decide, show ((2 : Nat) = 1) = False from by decide, show ((2 : Nat) = 3) = False from by decide, if_true, if_false] at e
    rw [← e]
    simp only [C_X12_beside, R_X12_beside, SB, show nI 2 = (2 : Int32) from rfl, show ((6 : Int32) = 0) = False from by decide, show ((2 : Int32) = 0) = False from by decide, show ((2 : Int32) = 1) = False from by decide, show ((2 : Int32) = 3) = False from by decide, not_true_eq_false, not_false_eq_true, if_false, if_true, ls1s, s_m_inR _ 5 6 (by decide), bI_e0]
    cases inR (nI k / 6 + 1) 6 <;> cases inR (nI k - nI k / 6 * 6 + 0) 6 <;> simp
  · have e := bes_tab 3 (by decide) k hk
    simp only [show ((3 : Nat) = 0) = False from by decide, show ((3 : Nat) = 1) = False from by decide, show ((3 : Nat) = 2) = False from by decide, if_true, if_false] at e
    rw [← e]
    simp only [C_X12_beside, R_X12_beside, SB, show nI 3 = (3 : Int32) from rfl, show ((6 : Int32) = 0) = False from by decide, show ((3 : Int32) = 0) = False from by decide, show ((3 : Int32) = 1) = False from by decide, show ((3 : Int32) = 2) = False from by decide, not_true_eq_false, not_false_eq_true, if_false, if_true, ls1s, s_m_inR _ 5 6 (by decide), bI_e0]
    cases inR (nI k / 6 + 0) 6 <;> cases inR (nI k - nI k / 6 * 6 + -1) 6 <;> simp
