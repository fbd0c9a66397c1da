/-! ===== Sheet; layings ===== -/
theorem nI_iz (n : Nat) : nI n = iz (n : Int) := by
  unfold iz
  apply Int32.toBitVec_inj.mp
  show BitVec.ofNat 32 n = BitVec.ofInt 32 n
  exact (BitVec.ofInt_natCast (w := 32) (n := n)).symm
/-- five less -/
def mF (a : Nat) : Int32 := iz ((a : Int) - 5)
theorem mF_add (x a : Nat) : nI x + mF a = mF (x + a) := by
  unfold mF
  rw [nI_iz, iz_add]
  congr 1
  omega
theorem mF_1 (a : Nat) : mF a + 1 = mF (a + 1) := by
  unfold mF
  rw [show (1 : Int32) = iz 1 from rfl, iz_add]
  congr 1
  omega
theorem mF_5 {a : Nat} : mF a + 5 = nI a := by
  unfold mF
  rw [show (5 : Int32) = iz 5 from rfl, iz_add, nI_iz]
  congr 1
  omega
theorem mF_t {a : Nat} (h : a < 1000) : (mF a).toInt = (a : Int) - 5 := iz_toInt (by omega) (by omega)
theorem mF_nI {a : Nat} (h : 5 ≤ a) : mF a = nI (a - 5) := by
  rw [nI_iz]
  unfold mF
  congr 1
  omega
def ShAt (w : AH) (s bits n : Nat) (F : Nat → Int32) : Prop := (gf (hg w s) 7 0 = some (.ref (s + 1))) ∧ (gf (hg w s) 7 1 = some (.int (nI bits))) ∧ (gf (hg w s) 7 2 = some (.int (nI n))) ∧ (hg w (s + 1) = .inl (0, 40, .inl F)) ∧ (bits = 0 ∨ bits = 8 ∨ bits = 16 ∨ bits = 32) ∧ (n ≤ 40)
theorem ShAt.p0 {w : AH} {s bits n : Nat} {F : Nat → Int32} (h : ShAt w s bits n F) : gf (hg w s) 7 0 = some (.ref (s + 1)) := h.1
theorem ShAt.p1 {w : AH} {s bits n : Nat} {F : Nat → Int32} (h : ShAt w s bits n F) : gf (hg w s) 7 1 = some (.int (nI bits)) := h.2.1
theorem ShAt.p2 {w : AH} {s bits n : Nat} {F : Nat → Int32} (h : ShAt w s bits n F) : gf (hg w s) 7 2 = some (.int (nI n)) := h.2.2.1
theorem ShAt.q {w : AH} {s bits n : Nat} {F : Nat → Int32} (h : ShAt w s bits n F) : hg w (s + 1) = .inl (0, 40, .inl F) := h.2.2.2.1
theorem ShAt.rb {w : AH} {s bits n : Nat} {F : Nat → Int32} (h : ShAt w s bits n F) : bits = 0 ∨ bits = 8 ∨ bits = 16 ∨ bits = 32 := h.2.2.2.2.1
theorem ShAt.rn {w : AH} {s bits n : Nat} {F : Nat → Int32} (h : ShAt w s bits n F) : n ≤ 40 := h.2.2.2.2.2
theorem ShAt.keep {w v : AH} {s bits n : Nat} {F : Nat → Int32} (h : ShAt w s bits n F) (e0 : hg v s = hg w s) (e1 : hg v (s + 1) = hg w (s + 1)) : ShAt v s bits n F := by
  unfold ShAt
  rw [e0, e1]
  exact h
theorem s_Sheet_has {w : AH} {s bits n : Nat} {F : Nat → Int32} (h : ShAt w s bits n F) (i : Int32) (lv : Nat) : Call M_X8_has lv [.ref s, .int i] w = some (some (.int (bI (inR i n))), w) := by
  have hn := h.rn
  simp only [C_X8_has, R_X8_has, SB, h.p2, lt_t, le_t, nI_t (show n < 2147483648 by omega), show (0 : Int32).toInt = 0 from rfl, show (40 : Int32).toInt = 40 from rfl, if_true]
  unfold inR
  by_cases g1 : i.toInt < 0
  · simp [g1, bI, show ¬ (0 ≤ i.toInt) by omega]
  · by_cases g2 : (n : Int) ≤ i.toInt
    · simp [g1, g2, bI, show ¬ (i.toInt < n) by omega]
    · simp [g1, g2, bI, show ¬ ((40 : Int) ≤ i.toInt) by omega, show (0 ≤ i.toInt) by omega, show i.toInt < n by omega]
theorem s_Sheet_get {w : AH} {s bits n : Nat} {F : Nat → Int32} (h : ShAt w s bits n F) {k : Nat} (hk : k < n) (lv : Nat) : Call M_X8_get lv [.ref s, .int (nI k)] w = some (some (.int (F k)), w) := by
  have hn := h.rn
  simp only [C_X8_get, R_X8_get, SB, s_Sheet_has h, clK_gf h.p0, h.p0, h.q, if_true, bI_e0, inR_nI (show k < 2147483648 by omega), hk, decide_true, Bool.true_eq_false, if_false, aI_0 (show k < 40 by omega) (show 40 ≤ 2147483648 by decide)]
theorem s_Sheet_missing {w : AH} {s bits n : Nat} {F : Nat → Int32} (h : ShAt w s bits n F) (lv : Nat) : Call M_X8_isMissing lv [.ref s] w = some (some (.int (bI (decide (bits = 0)))), w) := by
  simp only [C_X8_isMissing, R_X8_isMissing, SB, h.p1, if_true]
  rcases h.rb with rfl | rfl | rfl | rfl <;> simp [bI, nI] <;> decide
def isC (n bits : Nat) (F : Nat → Int32) : Bool := decide (bits ≠ 0) && decide (n = 36) && allB (fun k => inR (F k) 8) 36
theorem s_Sheet_isCarpet {w : AH} {s bits n : Nat} {F : Nat → Int32} (h : ShAt w s bits n F) (lv : Nat) : Call M_X8_isCarpet lv [.ref s] w = some (some (.int (bI (isC n bits F))), w) := by
  have hn := h.rn
  have hl := for_all (fun k => Ex M_X8_isCarpet lv 20 [some (.ref s), some (.int (nI k))] [] w) (fun k => inR (F k) 8) 36 (some (some (.int 1), w)) (some (some (.int 0), w)) (by
    intro k hk
    have e1 : ((36 : Int32) ≤ nI k) = False := by rw [show (36 : Int32) = nI 36 from rfl, le_nI (by decide) (by omega)]; simp; omega
    rw [H_X8_isCarpet_20]
    simp only [R_X8_isCarpet, SB, e1, h.p0, h.q, aI_0 (show k < 40 by omega) (show 40 ≤ 2147483648 by decide), s_isColour, bI_n0, if_true, if_false, ls1s, nI_1, true_or]) (by
    have e2 : ((36 : Int32) ≤ nI 36) = True := by rw [show (36 : Int32) = nI 36 from rfl]; simp
    rw [H_X8_isCarpet_20]
    simp only [R_X8_isCarpet, SB, e2, if_true, or_true])
  simp only [C_X8_isCarpet, R_X8_isCarpet, SB, clK_gf h.p0, s_Sheet_missing h, bI_n0, h.p2, show (36 : Int32) = nI 36 from rfl, eq_nI (show n < 2147483648 by omega) (show 36 < 2147483648 by decide), if_true, ls1s, show (0 : Int32) = nI 0 from rfl]
  unfold isC
  by_cases g1 : bits = 0
  · simp [g1, bI]; rfl
  · by_cases g2 : n = 36
    · simp only [g1, g2, decide_false, Bool.false_eq_true, if_false, not_true_eq_false]
      refine hl.trans ?_
      simp only [bI, not_false_eq_true, decide_true, Bool.true_and]
      cases allB (fun k => inR (F k) 8) 36 <;> simp [g1]
    · simp [g1, g2, bI]; rfl
def ftP (col f : Nat → Nat) (a b k : Nat) : Bool := if 5 ≤ k / 6 + a ∧ k / 6 + a ≤ 10 ∧ 5 ≤ k % 6 + b ∧ k % 6 + b ≤ 10 then meB (f k) (col ((k / 6 + a - 5) * 6 + (k % 6 + b - 5))) else true
def ftB (col f : Nat → Nat) (a b : Nat) : Bool := allB (ftP col f a b) 36
theorem s_fitsBy {w : AH} {c s bits : Nat} {col wear f : Nat → Nat} {F : Nat → Int32} (h : CarAt w c col wear) (g : ShAt w s bits 36 F) (hf : ∀ k, k < 36 → F k = nI (f k) ∧ f k < 8) {a b : Nat} (ha : a ≤ 10) (hb : b ≤ 10) (lv : Nat) : Call M_X0_fitsBy lv [.ref c, .ref s, .int (mF a), .int (mF b)] w = some (some (.int (bI (ftB col f a b))), w) := by
  have hl := for_allD (fun k (o : Option Value × Option Value × Option Value) => Ex M_X0_fitsBy lv 3 [some (.ref c), some (.ref s), some (.int (mF a)), some (.int (mF b)), some (.int (nI k)), o.1, o.2.1, o.2.2] [] w) (fun _ _ => True) (ftP col f a b) 36 (some (some (.int 1), w)) (some (some (.int 0), w)) (by
    intro k o hk _
    have e1 : ((36 : Int32) ≤ nI k) = False := by rw [show (36 : Int32) = nI 36 from rfl, le_nI (by decide) (by omega)]; simp; omega
    refine ⟨(some (.int (mF (k / 6 + a))), some (.int (mF (k % 6 + b))), some (.int (bI (decide (5 ≤ k / 6 + a ∧ k / 6 + a ≤ 10 ∧ 5 ≤ k % 6 + b ∧ k % 6 + b ≤ 10))))), ?_, trivial⟩
    have q1 : ((0 : Int32).toInt ≤ (mF (k / 6 + a)).toInt ∧ (mF (k / 6 + a)).toInt ≤ (5 : Int32).toInt) = (5 ≤ k / 6 + a ∧ k / 6 + a ≤ 10) := by
      rw [mF_t (by omega), show (0 : Int32).toInt = 0 from rfl, show (5 : Int32).toInt = 5 from rfl]
      apply propext; omega
    have q2 : ((0 : Int32).toInt ≤ (mF (k % 6 + b)).toInt ∧ (mF (k % 6 + b)).toInt ≤ (5 : Int32).toInt) = (5 ≤ k % 6 + b ∧ k % 6 + b ≤ 10) := by
      rw [mF_t (by omega), show (0 : Int32).toInt = 0 from rfl, show (5 : Int32).toInt = 5 from rfl]
      apply propext; omega
    have d6 : nI k / 6 = nI (k / 6) := pk_div (show k < 2 ^ 31 by omega) (show 0 < 6 by decide) (show 6 < 2 ^ 31 by decide)
    have r6 : nI k - nI (k / 6) * 6 = nI (k % 6) := pk_rem2 (show k < 2 ^ 31 by omega) (show 0 < 6 by decide) (show 6 < 2 ^ 31 by decide)
    rw [H_X0_fitsBy_3]
    simp only [R_X0_fitsBy, SB, e1, if_false, ls1s, show ((6 : Int32) = 0) = False from by simp, d6, r6, mF_add, s_isWithin, q1, q2, bI_e0, if_true]
    by_cases c1 : 5 ≤ k / 6 + a ∧ k / 6 + a ≤ 10
    · by_cases c2 : 5 ≤ k % 6 + b ∧ k % 6 + b ≤ 10
      · have c3 : (5 ≤ k / 6 + a ∧ k / 6 + a ≤ 10 ∧ 5 ≤ k % 6 + b ∧ k % 6 + b ≤ 10) = True := by simp [c1, c2]
        have c4 : (k / 6 + a - 5) * 6 + (k % 6 + b - 5) < 36 := by omega
        obtain ⟨f1, f2⟩ := hf k hk
        have d7 : mF (k / 6 + a) * 6 + mF (k % 6 + b) = nI ((k / 6 + a - 5) * 6 + (k % 6 + b - 5)) := by
          rw [mF_nI c1.1, mF_nI c2.1, show (6 : Int32) = nI 6 from rfl, pk_mul, nI_add]
        simp only [c1, c2, c3, decide_true, Bool.true_eq_false, if_false, and_self, bI_t, d7, clK_gf h.p0, clK_gf g.p0, s_Sheet_get g hk, f1, s_colourOf h c4, s_meets f2 (h.r0 _ c4), bI_n0, if_true, ftP, show ((1 : Int32) = 0) = False from by simp, R_X0_fitsBy, SB, ls1s, nI_1, true_or]
      · have c3 : (5 ≤ k / 6 + a ∧ k / 6 + a ≤ 10 ∧ 5 ≤ k % 6 + b ∧ k % 6 + b ≤ 10) = False := by simp [c2]
        simp only [and_false, c1, c2, c3, decide_true, decide_false, Bool.true_eq_false, if_false, and_self, bI_f, if_true, ftP, R_X0_fitsBy, SB, ls1s, nI_1]
    · have c3 : (5 ≤ k / 6 + a ∧ k / 6 + a ≤ 10 ∧ 5 ≤ k % 6 + b ∧ k % 6 + b ≤ 10) = False := by
        apply eq_false; rintro ⟨x1, x2, -⟩; exact c1 ⟨x1, x2⟩
      simp only [c1, c3, decide_true, decide_false, Bool.true_eq_false, if_false, and_self, bI_f, if_true, ftP, R_X0_fitsBy, SB, ls1s, nI_1]
    ) (by
    intro o _
    have e2 : ((36 : Int32) ≤ nI 36) = True := by rw [show (36 : Int32) = nI 36 from rfl]; simp
    rw [H_X0_fitsBy_3]
    simp only [R_X0_fitsBy, SB, e2, if_true, or_true]) (none, none, none) trivial
  simp only [C_X0_fitsBy, R_X0_fitsBy, SB, ls1s, show (0 : Int32) = nI 0 from rfl]
  refine hl.trans ?_
  unfold ftB bI
  split <;> rfl
def clF (col f : Nat → Nat) : Nat → Nat → Nat → Nat := fun a b s => if ftB col f a b = true then s + 1 else s
def clN (col f : Nat → Nat) : Nat := foldN (fun a s => foldN (clF col f a) 11 s) 11 0
def oC (a : Nat) : Option Value := if a = 0 then none else some (.int (mF 11))
theorem mF_m5 : (-5 : Int32) = mF 0 := by decide +kernel
theorem mF_gt {a : Nat} (h : a < 1000) : ((5 : Int32) < mF a) = (10 < a) := by
  rw [lt_t, mF_t h, show (5 : Int32).toInt = 5 from rfl]
  apply propext; omega
theorem s_countLayings {w : AH} {c s bits : Nat} {col wear f : Nat → Nat} {F : Nat → Int32} (h : CarAt w c col wear) (g : ShAt w s bits 36 F) (hf : ∀ k, k < 36 → F k = nI (f k) ∧ f k < 8) (lv : Nat) : Call M_X0_countLayings lv [.ref c, .ref s] w = some (some (.int (nI (clN col f))), w) := by
  have hi : ∀ a, a < 11 → ∀ n : Nat, Ex M_X0_countLayings lv 14 [some (.ref c), some (.ref s), some (.int (nI n)), some (.int (mF a)), some (.int (mF 0))] [] w = Ex M_X0_countLayings lv 14 [some (.ref c), some (.ref s), some (.int (nI (foldN (clF col f a) 11 n))), some (.int (mF a)), some (.int (mF 11))] [] w := by
    intro a ha n
    refine for_up0 (fun b n => Ex M_X0_countLayings lv 14 [some (.ref c), some (.ref s), some (.int (nI n)), some (.int (mF a)), some (.int (mF b))] [] w) (clF col f a) 11 ?_ n
    intro b n hb
    have e1 : ((5 : Int32) < mF b) = False := by rw [mF_gt (by omega)]; simp; omega
    rw [H_X0_countLayings_14]
    simp only [R_X0_countLayings, SB, e1, if_false, if_true, clK_gf h.p0, s_fitsBy h g hf (show a ≤ 10 by omega) (show b ≤ 10 by omega), bI_e0, ls1s, mF_1, nI_1, clF]
    cases ftB col f a b <;> simp
  have ho := for_up0 (fun a n => Ex M_X0_countLayings lv 5 [some (.ref c), some (.ref s), some (.int (nI n)), some (.int (mF a)), oC a] [] w) (fun a n => foldN (clF col f a) 11 n) 11 (by
    intro a n ha
    have e1 : ((5 : Int32) < mF a) = False := by rw [mF_gt (by omega)]; simp; omega
    have e2 : ((5 : Int32) < mF 11) = True := by rw [mF_gt (by omega)]; simp
    rw [H_X0_countLayings_5]
    simp only [R_X0_countLayings, SB, e1, if_false, ls1s, mF_m5]
    rw [hi a ha n, H_X0_countLayings_14]
    simp only [R_X0_countLayings, SB, e2, if_true, ls1s, mF_1]
    rfl) 0
  have e2 : ((5 : Int32) < mF 11) = True := by rw [mF_gt (by omega)]; simp
  simp only [C_X0_countLayings, R_X0_countLayings, SB, ls1s, show (0 : Int32) = nI 0 from rfl, mF_m5]
  refine (show _ = _ from rfl).trans (ho.trans ?_)
  rw [H_X0_countLayings_5]
  simp only [R_X0_countLayings, SB, e2, if_true, clN]
theorem s_abs (a : Int32) (w : AH) (lv : Nat) : Call M_J9_abs_0f7a4 lv [.int a] w = some (some (.int (if a.toInt < 0 then -a else a)), w) := by
  simp only [C_J9_abs_0f7a4, R_J9_abs_0f7a4, SB, lt_t, le_t, show (0 : Int32).toInt = 0 from rfl]
  by_cases g : a.toInt < 0
  · simp [g, Int.not_le.mpr g]
  · simp [g, Int.not_lt.mp g]
def cov (a : Nat) : Nat := if a ≤ 5 then a + 1 else 11 - a
theorem cov_I : ∀ a, a < 11 → (6 : Int32) - (if (mF a).toInt < 0 then -mF a else mF a) = nI (cov a) := by decide +kernel
theorem cov_le : ∀ a, a < 11 → cov a ≤ 6 := by decide +kernel
def blF (col f : Nat → Nat) : Nat → Nat → Nat × Int32 → Nat × Int32 := fun a b s => if s.1 < cov a * cov b ∧ ftB col f a b = true then (cov a * cov b, nI (100 * a + b)) else s
def blN (col f : Nat → Nat) (i0 : Int32) : Nat × Int32 := foldN (fun a s => foldN (blF col f a) 11 s) 11 (0, i0)
def oD (a b : Nat) : Option Value := if a = 0 ∧ b = 0 then none else some (.int (nI (cov (if b = 0 then a - 1 else a) * cov (if b = 0 then 10 else b - 1))))
theorem blF_le {col f : Nat → Nat} {a b : Nat} (ha : a < 11) (hb : b < 11) {s : Nat × Int32} (h : s.1 ≤ 36) : (blF col f a b s).1 ≤ 36 := by
  unfold blF
  split
  · exact Nat.mul_le_mul (cov_le a ha) (cov_le b hb)
  · exact h
theorem s_bestLaying {w : AH} {c s bits : Nat} {col wear f : Nat → Nat} {F : Nat → Int32} (h : CarAt w c col wear) (g : ShAt w s bits 36 F) (hf : ∀ k, k < 36 → F k = nI (f k) ∧ f k < 8) (lv : Nat) : Call M_X0_bestLaying lv [.ref c, .ref s] w = some (some (.int (blN col f (-1)).2), w) := by
  have hi : ∀ a, a < 11 → ∀ n : Nat × Int32, n.1 ≤ 36 → Ex M_X0_bestLaying lv 18 [some (.ref c), some (.ref s), some (.int (nI n.1)), some (.int n.2), some (.int (mF a)), some (.int (mF 0)), oD a 0] [] w = Ex M_X0_bestLaying lv 18 [some (.ref c), some (.ref s), some (.int (nI (foldN (blF col f a) 11 n).1)), some (.int (foldN (blF col f a) 11 n).2), some (.int (mF a)), some (.int (mF 11)), oD a 11] [] w ∧ (foldN (blF col f a) 11 n).1 ≤ 36 := by
    intro a ha n hn
    refine for_up (fun b (n : Nat × Int32) => Ex M_X0_bestLaying lv 18 [some (.ref c), some (.ref s), some (.int (nI n.1)), some (.int n.2), some (.int (mF a)), some (.int (mF b)), oD a b] [] w) (blF col f a) (fun _ n => n.1 ≤ 36) 11 ?_ 11 n (Nat.le_refl _) hn
    intro b n hb hn
    refine ⟨?_, blF_le ha hb hn⟩
    have e1 : ((5 : Int32) < mF b) = False := by rw [mF_gt (by omega)]; simp; omega
    have c1 : cov a * cov b ≤ 36 := Nat.mul_le_mul (cov_le a ha) (cov_le b hb)
    have o1 : oD a (b + 1) = some (.int (nI (cov a * cov b))) := by unfold oD; simp
    have n1 : (100 : Int32) * nI a + mF b + 5 = nI (100 * a + b) := by
      rw [show (100 : Int32) = nI 100 from rfl, pk_mul, mF_add, mF_5]
    rw [H_X0_bestLaying_18, o1]
    simp only [R_X0_bestLaying, SB, e1, if_false, if_true, s_abs, cov_I a ha, cov_I b hb, pk_mul, le_nI (show cov a * cov b < 2147483648 by omega) (show n.1 < 2147483648 by omega), clK_gf h.p0, s_fitsBy h g hf (show a ≤ 10 by omega) (show b ≤ 10 by omega), bI_e0, ls1s, mF_1, mF_5, n1, blF]
    by_cases k1 : cov a * cov b ≤ n.1
    · simp [k1, Nat.not_lt.mpr k1]
    · cases k2 : ftB col f a b <;> simp [k1, Nat.not_le.mp k1]
  have ho := for_up (fun a (n : Nat × Int32) => Ex M_X0_bestLaying lv 8 [some (.ref c), some (.ref s), some (.int (nI n.1)), some (.int n.2), some (.int (mF a)), oC a, oD a 0] [] w) (fun a n => foldN (blF col f a) 11 n) (fun _ n => n.1 ≤ 36) 11 (by
    intro a n ha hn
    have e1 : ((5 : Int32) < mF a) = False := by rw [mF_gt (by omega)]; simp; omega
    have e2 : ((5 : Int32) < mF 11) = True := by rw [mF_gt (by omega)]; simp
    refine ⟨?_, (hi a ha n hn).2⟩
    rw [H_X0_bestLaying_8]
    simp only [R_X0_bestLaying, SB, e1, if_false, ls1s, mF_m5]
    rw [(hi a ha n hn).1, H_X0_bestLaying_18]
    have o2 : oD a 11 = oD (a + 1) 0 := by unfold oD; simp
    simp only [R_X0_bestLaying, SB, e2, if_true, ls1s, mF_1, o2]
    rfl) 11 (0, -1) (Nat.le_refl _) (by decide)
  have e2 : ((5 : Int32) < mF 11) = True := by rw [mF_gt (by omega)]; simp
  simp only [C_X0_bestLaying, R_X0_bestLaying, SB, ls1s, show (0 : Int32) = nI 0 from rfl, mF_m5]
  refine (show _ = _ from rfl).trans (ho.1.trans ?_)
  rw [H_X0_bestLaying_8]
  simp only [R_X0_bestLaying, SB, e2, if_true, blN]
