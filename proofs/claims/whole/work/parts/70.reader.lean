/-! ===== strings; the Reader ===== -/
def sbL : List (List Int32) := [[], [114, 99, 100], [107, 119, 99], [48, 49, 50, 51, 52, 53, 54, 55, 56, 57], [124], [38], [60, 61, 62], [43, 45], [42, 47, 37]]
def sbF (j : Nat) : Nat → Int32 := fun i => (sbL.getD j []).getD i 0
def sbN (j : Nat) : Nat := (sbL.getD j []).length
def StrA (w : AH) : Prop := ∀ j, j < 9 → hg w (3 + j) = .inr (50, [.ref (12 + j), .int 0]) ∧ hg w (12 + j) = .inl (11, sbN j, .inl (sbF j))
def ixF (f : Nat → Int32) (x : Int32) : Nat → Nat → Int32
  | 0, _ => -1
  | k + 1, i => if f i = x then nI i else ixF f x k (i + 1)
theorem aB_l {n : Nat} {f : Nat → Int32} {k : Nat} (h : k < n) (hn : n ≤ 2147483648) : aB (.inl (11, n, .inl f)) (nI k) = some (f k) := aB_11 h hn
theorem sh0 (n : Nat) : nI n >>> ((0 : Int32) &&& 31) = nI n := by
  rw [show ((0 : Int32) &&& 31) = 0 from by decide]
  apply Int32.toBitVec_inj.mp
  simp
theorem s_indexOfChar {w : AH} {a n : Nat} {f : Nat → Int32} (h : hg w a = .inl (11, n, .inl f)) (hn : n < 1000) (x : Int32) (lv : Nat) : Call M_J1_indexOfChar_4cfef lv [.ref a, .int x, .int 0, .int (nI n)] w = some (some (.int (ixF f x.toInt8.toInt32 n 0)), w) := by
  have hl : ∀ k i, i + k = n → Ex M_J1_indexOfChar_4cfef lv 7 [some (.ref a), some (.int x), some (.int 0), some (.int (nI n)), some (.int x.toInt8.toInt32), some (.int (nI i))] [] w = some (some (.int (ixF f x.toInt8.toInt32 k i)), w) := by
    intro k
    induction k with
    | zero =>
      intro i hi
      have : i = n := by omega
      subst this
      rw [H_J1_indexOfChar_4cfef_7]
      simp only [R_J1_indexOfChar_4cfef, SB, Int32.le_refl, if_true, ixF]
    | succ k ih =>
      intro i hi
      have e1 : (nI n ≤ nI i) = False := by rw [le_nI (by omega) (by omega)]; simp; omega
      rw [H_J1_indexOfChar_4cfef_7]
      simp only [R_J1_indexOfChar_4cfef, SB, e1, if_false, if_true, h, aB_l (show i < n by omega) (show n ≤ 2147483648 by omega), ls1s, nI_1, ixF]
      by_cases q : f i = x.toInt8.toInt32
      · simp only [q, not_true_eq_false, if_false, if_true, R_J1_indexOfChar_4cfef, SB]
      · simp only [q, not_false_eq_true, if_true, if_false]
        exact ih (i + 1) (by omega)
  simp only [C_J1_indexOfChar_4cfef, R_J1_indexOfChar_4cfef, SB, ls1s]
  exact hl n 0 (by omega)
theorem s_indexOf {w : AH} {a b n : Nat} {f : Nat → Int32} (h1 : hg w a = .inr (50, [.ref b, .int 0])) (h2 : hg w b = .inl (11, n, .inl f)) (hn : n < 1000) {m : Nat} (hm : m < 256) (lv : Nat) : Call M_J0_indexOf_0f7a4 lv [.ref a, .int (nI m)] w = some (some (.int (ixF f (nI m).toInt8.toInt32 n 0)), w) := by
  have g0 : gf (hg w a) 50 0 = some (.ref b) := by rw [h1]; rfl
  have g1 : gf (hg w a) 50 1 = some (.int 0) := by rw [h1]; rfl
  have gc : clK (hg w a) = 50 := by rw [h1]; rfl
  have lat : ∀ lv, Call M_J0_isLatin1_aae02 lv [.ref a] w = some (some (.int 1), w) := fun lv => by
    simp only [C_J0_isLatin1_aae02, R_J0_isLatin1_aae02, SB, g1, show ((1 : Int32) = 0) = False from by simp, if_false, if_true, not_true_eq_false, or_true]
  have cod : ∀ lv, Call M_J0_coder_7d493 lv [.ref a] w = some (some (.int 0), w) := fun lv => by
    simp only [C_J0_coder_7d493, R_J0_coder_7d493, SB, g1, show ((1 : Int32) = 0) = False from by simp, if_false, if_true]
  have len : ∀ lv, Call M_J0_length_8abf5 lv [.ref a] w = some (some (.int (nI n)), w) := fun lv => by
    simp only [C_J0_length_8abf5, R_J0_length_8abf5, SB, g0, h2, aL_11, gc, cod, sh0, if_true]
  have enc : ∀ lv, Call M_J1_canEncode_9a6ad lv [.int (nI m)] w = some (some (.int 1), w) := fun lv => by
    have e1 : (nI m < 0) = False := by rw [show (0 : Int32) = nI 0 from rfl, lt_nI (by omega) (by decide)]; simp
    have e2 : ((255 : Int32) < nI m) = False := by rw [show (255 : Int32) = nI 255 from rfl, lt_nI (by decide) (by omega)]; simp; omega
    simp only [C_J1_canEncode_9a6ad, R_J1_canEncode_9a6ad, SB, e1, e2, if_false, or_true, if_true]
  have ix2 : ∀ lv, Call M_J1_indexOf_4cfef lv [.ref b, .int (nI m), .int 0, .int (nI n)] w = some (some (.int (ixF f (nI m).toInt8.toInt32 n 0)), w) := fun lv => by
    have e0 : (nI n).toInt = (n : Int) := nI_t (by omega)
    by_cases q : n = 0
    · subst q
      simp only [C_J1_indexOf_4cfef, R_J1_indexOf_4cfef, SB, enc, show ((1 : Int32) = 0) = False from by simp, not_false_eq_true, if_true, s_max, s_min, ls1s, h2, aL_11, show nI 0 = (0 : Int32) from rfl, Int.le_refl, show ((0 : Int32) < 0) = False from by simp, if_false, Int.lt_irrefl, ixF]
    · have e3 : ((0 : Int32) < nI n) = True := by rw [show (0 : Int32) = nI 0 from rfl, lt_nI (by decide) (by omega)]; simp; omega
      simp only [C_J1_indexOf_4cfef, R_J1_indexOf_4cfef, SB, enc, show ((1 : Int32) = 0) = False from by simp, not_false_eq_true, if_true, s_max, s_min, ls1s, h2, aL_11, Int.le_refl, Int.lt_irrefl, if_false, e3, s_indexOfChar h2 hn]
  have ix1 : ∀ lv, Call M_J0_indexOf_7cf53 lv [.ref a, .int (nI m), .int 0] w = some (some (.int (ixF f (nI m).toInt8.toInt32 n 0)), w) := fun lv => by
    simp only [C_J0_indexOf_7cf53, R_J0_indexOf_7cf53, SB, gc, lat, show ((1 : Int32) = 0) = False from by simp, if_false, if_true, g0, len, ix2]
  simp only [C_J0_indexOf_0f7a4, R_J0_indexOf_0f7a4, SB, gc, ix1, if_true]
/-- does string j hold x -/
def stsB (j : Nat) (x : Int32) : Bool := if j = 0 then false else if j = 1 then decide (nmN 0 x < 3) else if j = 2 then decide (nmN 1 x < 3) else if j = 3 then isDg x else isOp (j - 4) x
theorem sts_tab : ∀ j, j < 9 → ∀ m, m < 256 → decide (ixF (sbF j) (nI m).toInt8.toInt32 (sbN j) 0 < 0) = !(stsB j (nI m)) := by decide +kernel
theorem nm_tab : ∀ u, u < 2 → ∀ m, m < 256 → nmN u (nI m) < 3 → ixF (sbF (1 + u)) (nI m).toInt8.toInt32 (sbN (1 + u)) 0 = nI (nmN u (nI m)) := by decide +kernel
theorem i2c_tab : ∀ m, m < 256 → ((nI m).toUInt32 % 65536).toInt32 = nI m := by decide +kernel
theorem sbN_lt : ∀ j, j < 9 → sbN j < 1000 := by decide +kernel
theorem sts_m1 : ∀ j, j < 9 → stsB j (-1) = false := by decide +kernel
/-! the world in which it reads -/
def rob (nm p : Nat) (fl : Bool) : va_E := .inr (4, [.ref 100, .ref 46, .ref nm, .int (nI p), .int (bI fl)])
def rdw (w : AH) (nm p : Nat) (fl : Bool) (F : Nat → Int32) (L : Nat) : AH := (w.1, w.2.1, fun j => if j = 99 then rob nm p fl else if j = 100 then .inr (6, [.ref 101, .int (nI L)]) else if j = 101 then .inl (0, 50, .inl F) else w.2.2 j)
theorem rd_0 (w : AH) (nm p : Nat) (fl : Bool) (F : Nat → Int32) (L : Nat) : hg (rdw w nm p fl F L) 99 = rob nm p fl := rfl
theorem rd_g (nm p : Nat) (fl : Bool) : gf (rob nm p fl) 4 0 = some (.ref 100) ∧ gf (rob nm p fl) 4 1 = some (.ref 46) ∧ gf (rob nm p fl) 4 2 = some (.ref nm) ∧ gf (rob nm p fl) 4 3 = some (.int (nI p)) ∧ gf (rob nm p fl) 4 4 = some (.int (bI fl)) ∧ clK (rob nm p fl) = 4 := ⟨rfl, rfl, rfl, rfl, rfl, rfl⟩
theorem rd_p3 (nm p : Nat) (fl : Bool) (q : Nat) : pf (rob nm p fl) 4 3 .int (.int (nI q)) = some (rob nm q fl) := by rw [pf_i (u := .int (nI p)) rfl]; rfl
theorem rd_p4 (nm p : Nat) (fl : Bool) : pf (rob nm p fl) 4 4 .boolean (.int 1) = some (rob nm p true) := by rw [pf_z (u := .int (bI fl)) rfl (Or.inr rfl)]; rfl
theorem rd_n {w : AH} {nm p : Nat} {fl : Bool} {F : Nat → Int32} {L j : Nat} (h : j < 99 ∨ 102 ≤ j) : hg (rdw w nm p fl F L) j = hg w j := by
  unfold hg rdw; dsimp only; rw [if_neg (by omega), if_neg (by omega), if_neg (by omega)]
theorem rd_s (w : AH) (nm p q : Nat) (fl fl2 : Bool) (F : Nat → Int32) (L : Nat) : hs (rdw w nm p fl F L) 99 (rob nm q fl2) = rdw w nm q fl2 F L := by
  refine AH_ext rfl rfl (fun j => ?_)
  rw [hg_hs]
  by_cases h : j = 99
  · subst h; rfl
  · rw [if_neg h]
    unfold hg rdw; dsimp only; rw [if_neg h, if_neg h]
theorem rd_row {w : AH} {nm p : Nat} {fl : Bool} {F : Nat → Int32} {L : Nat} (h : L ≤ 50) : RowAt (rdw w nm p fl F L) 100 101 50 L F := ⟨rfl, rfl, rfl, by decide, h, by decide⟩
theorem rd_set (w : AH) (nm p : Nat) (fl : Bool) (F G : Nat → Int32) (L L2 : Nat) : setRow (rdw w nm p fl F L) 100 101 50 L2 G = rdw w nm p fl G L2 := by
  refine AH_ext rfl rfl (fun j => ?_)
  by_cases h0 : j = 100
  · subst h0; unfold setRow; rw [hs_eq]; rfl
  · by_cases h1 : j = 101
    · subst h1; unfold setRow; rw [hs_ne _ _ (by decide), hs_eq]; rfl
    · rw [setRow_ne _ _ _ _ _ _ h0 h1]
      unfold hg rdw; dsimp only
      by_cases h2 : j = 99
      · rw [if_pos h2, if_pos h2]
      · rw [if_neg h2, if_neg h2, if_neg h0, if_neg h0, if_neg h1, if_neg h1]
def rowL (F0 : Nat → Int32) (s : List Int32) : Nat → Int32 := fun k => if k < s.length then s.getD k 0 else F0 k
theorem rowL_s (F0 : Nat → Int32) (s : List Int32) (v : Int32) : upd (rowL F0 s) s.length v = rowL F0 (s ++ [v]) := by
  funext k
  unfold upd rowL
  rw [List.length_append]
  by_cases q : k = s.length
  · subst q
    rw [if_pos rfl, if_pos (by show _ < _ + 1; omega)]
    simp [List.getD_eq_getElem?_getD]
  · rw [if_neg q]
    by_cases q2 : k < s.length
    · rw [if_pos q2, if_pos (by show _ < _ + 1; omega)]
      simp [List.getD_eq_getElem?_getD, List.getElem?_append, q2]
    · rw [if_neg q2, if_neg (by show ¬ _ < _ + 1; omega)]
/-- the reader at place p, signs s so far -/
def rW (w : AH) (nm : Nat) (F0 : Nat → Int32) (p : Nat) (fl : Bool) (s : List Int32) : AH := rdw w nm p fl (rowL F0 s) s.length
/-- tape and strings -/
def RB (w : AH) (n : Nat) (B : Nat → Int32) : Prop := RowAt w 46 47 50 n B ∧ StrA w ∧ (∀ k, k < n → ∃ m, m < 256 ∧ B k = nI m)
theorem rW_row {w : AH} {n nm p : Nat} {B F0 : Nat → Int32} {fl : Bool} {s : List Int32} (h : RB w n B) : RowAt (rW w nm F0 p fl s) 46 47 50 n B := h.1.keep (rd_n (by omega)) (rd_n (by omega))
theorem rW_add {w : AH} {nm p : Nat} {F0 : Nat → Int32} {fl : Bool} {s : List Int32} (hs0 : s.length < 50) (v : Int32) (lv : Nat) : Call M_X6_add lv [.ref 100, .int v] (rW w nm F0 p fl s) = some (some (.int 1), rW w nm F0 p fl (s ++ [v])) := by
  unfold rW
  rw [s_Row_add (rd_row (by omega)), if_pos hs0, rd_set, rowL_s, List.length_append]
  rfl
theorem s_ahead {w : AH} {n nm p : Nat} {B F0 : Nat → Int32} {fl : Bool} {s : List Int32} (h : RB w n B) (hp : p ≤ 50) (lv : Nat) : Call M_X4_ahead lv [.ref 99] (rW w nm F0 p fl s) = some (some (.int (if p < n then B p else 0)), rW w nm F0 p fl s) := by
  have r := rW_row (nm := nm) (p := p) (F0 := F0) (fl := fl) (s := s) h
  have r0 : hg (rW w nm F0 p fl s) 99 = rob nm p fl := rfl
  have g := s_Row_get r (nI p) 60
  rw [inR_nI (show p < 2147483648 by omega), nI_c (show p < 2147483648 by omega)] at g
  simp only [dec_t] at g
  simp only [C_X4_ahead, R_X4_ahead, SB, r0, rd_g, clK_gf r.1, g, if_true]
theorem sts_0 : ∀ j, j < 9 → stsB j (nI 0) = false := by decide +kernel
theorem s_isAhead {w : AH} {n nm p : Nat} {B F0 : Nat → Int32} {fl : Bool} {s : List Int32} (h : RB w n B) (hp : p ≤ 50) {j : Nat} (hj : j < 9) (lv : Nat) : Call M_X4_isAhead lv [.ref 99, .ref (3 + j)] (rW w nm F0 p fl s) = some (some (.int (bI (stsB j (cB n B p)))), rW w nm F0 p fl s) := by
  have r := rW_row (nm := nm) (p := p) (F0 := F0) (fl := fl) (s := s) h
  have r0 : hg (rW w nm F0 p fl s) 99 = rob nm p fl := rfl
  have g := s_Row_get r (nI p) 60
  rw [inR_nI (show p < 2147483648 by omega), nI_c (show p < 2147483648 by omega)] at g
  simp only [dec_t] at g
  obtain ⟨t1, t2⟩ := h.2.1 j hj
  have u1 : hg (rW w nm F0 p fl s) (3 + j) = .inr (50, [.ref (12 + j), .int 0]) := by unfold rW; rw [rd_n (by omega)]; exact t1
  have u2 : hg (rW w nm F0 p fl s) (12 + j) = .inl (11, sbN j, .inl (sbF j)) := by unfold rW; rw [rd_n (by omega)]; exact t2
  have u3 : clK (hg (rW w nm F0 p fl s) (3 + j)) = 50 := by rw [u1]; rfl
  obtain ⟨m, m1, m2, m3⟩ : ∃ m, m < 256 ∧ (if p < n then B p else 0) = nI m ∧ stsB j (cB n B p) = stsB j (nI m) := by
    by_cases q : p < n
    · obtain ⟨m, m1, m2⟩ := h.2.2 p q
      exact ⟨m, m1, by rw [if_pos q, m2], by unfold cB; rw [if_pos q, m2]⟩
    · exact ⟨0, by decide, by rw [if_neg q]; rfl, by unfold cB; rw [if_neg q, sts_m1 j hj, sts_0 j hj]⟩
  rw [m2] at g
  rw [m3]
  have ix := s_indexOf u1 u2 (sbN_lt j hj) m1 60
  have tb := sts_tab j hj m m1
  simp only [C_X4_isAhead, R_X4_isAhead, SB, r0, rd_g, clK_gf r.1, g, if_true, i2c_tab m m1, u3, ix]
  cases e : stsB j (nI m) with
  | true =>
    rw [e] at tb
    have : ¬ ixF (sbF j) (nI m).toInt8.toInt32 (sbN j) 0 < 0 := of_decide_eq_false tb
    simp [this, bI]
  | false =>
    rw [e] at tb
    have : ixF (sbF j) (nI m).toInt8.toInt32 (sbN j) 0 < 0 := of_decide_eq_true tb
    simp [this, bI]
theorem s_readNumber {w : AH} {n nm p : Nat} {B F0 : Nat → Int32} {s : List Int32} (h : RB w n B) (hn : n ≤ 50) (hp : p ≤ n) (hs0 : s.length < 50) (lv : Nat) : Call M_X4_readNumber lv [.ref 99] (rW w nm F0 p false s) = some (none, rW w nm F0 (pNm (cB n B) 4 p 0).1 false (s ++ [nI (pNm (cB n B) 4 p 0).2])) := by
  have hl : ∀ f i q v, i + f = 4 → q ≤ n → v < 10 ^ i → Ex M_X4_readNumber lv 4 [some (.ref 99), some (.int (nI v)), some (.int (nI i))] [] (rW w nm F0 q false s) = some (none, rW w nm F0 (pNm (cB n B) f q v).1 false (s ++ [nI (pNm (cB n B) f q v).2])) := by
    intro f
    induction f with
    | zero =>
      intro i q v hi hq hv
      have : i = 4 := by omega
      subst this
      have r0 : hg (rW w nm F0 q false s) 99 = rob nm q false := rfl
      have r1 : gf (hg (rW w nm F0 q false s) 100) 6 0 = some (.ref 101) := rfl
      rw [H_X4_readNumber_4]
      simp only [R_X4_readNumber, SB, show ((4 : Int32) ≤ nI 4) = True from by rw [show (4 : Int32) = nI 4 from rfl]; simp, if_true, r0, rd_g, clK_gf r1, rW_add hs0, pNm]
    | succ f ih =>
      intro i q v hi hq hv
      have hv2 : v < 10000 := Nat.lt_of_lt_of_le hv (by have := Nat.pow_le_pow_right (n := 10) (by decide) (show i ≤ 4 by omega); simpa using this)
      have r0 : hg (rW w nm F0 q false s) 99 = rob nm q false := rfl
      have r1 : gf (hg (rW w nm F0 q false s) 100) 6 0 = some (.ref 101) := rfl
      have e1 : ((4 : Int32) ≤ nI i) = False := by rw [show (4 : Int32) = nI 4 from rfl, le_nI (by decide) (by omega)]; simp; omega
      have ia : Call M_X4_isAhead 60 [.ref 99, .ref 6] (rW w nm F0 q false s) = some (some (.int (bI (isDg (cB n B q)))), rW w nm F0 q false s) := s_isAhead (nm := nm) (F0 := F0) (fl := false) (s := s) h (show q ≤ 50 by omega) (j := 3) (by decide) 60
      have ah := s_ahead (nm := nm) (F0 := F0) (fl := false) (s := s) h (show q ≤ 50 by omega) 60
      by_cases g : isDg (cB n B q) = true
      · have q1 := isDg_lt g
        obtain ⟨m, m1, m2⟩ := h.2.2 q q1
        have c : cB n B q = nI m := by unfold cB; rw [if_pos q1, m2]
        have g2 := g
        rw [c] at g2
        have g2 := of_decide_eq_true g2
        rw [nI_t (show m < 2147483648 by omega)] at g2
        rw [if_pos q1, m2] at ah
        have e5 : pNm (cB n B) (f + 1) q v = pNm (cB n B) f (q + 1) (v * 10 + (m - 48)) := by
          show (if isDg (cB n B q) = true then _ else _) = _
          rw [if_pos g, c, nI_t (show m < 2147483648 by omega)]
          congr 2
          omega
        rw [e5, ← ih (i + 1) (q + 1) (v * 10 + (m - 48)) (by omega) (by omega) (by rw [Nat.pow_succ]; omega)]
        rw [H_X4_readNumber_4]
        have st : hs (rW w nm F0 q false s) 99 (rob nm (q + 1) false) = rW w nm F0 (q + 1) false s := rd_s _ _ _ _ _ _ _ _
        rw [g] at ia
        simp (disch := omega) only [R_X4_readNumber, SB, e1, if_true, if_false, r0, rd_g, ia, bI_e0, Bool.true_eq_false, ah, mul_lit, sub_lit, nI_add, ls1s, nI_1, rd_p3, rd_p4, st]
      · have e5 : pNm (cB n B) (f + 1) q v = (q, v) := by
          show (if isDg (cB n B q) = true then _ else _) = _
          rw [if_neg g]
        rw [e5, H_X4_readNumber_4]
        rw [Bool.eq_false_iff.mpr g] at ia
        simp only [R_X4_readNumber, SB, e1, if_true, if_false, r0, rd_g, ia, bI_e0, clK_gf r1, rW_add hs0]
  simp only [C_X4_readNumber, R_X4_readNumber, SB, ls1s, show (0 : Int32) = nI 0 from rfl]
  exact hl 4 0 p 0 (by omega) hp (by decide)
theorem s_close {w : AH} {n nm p : Nat} {B F0 : Nat → Int32} {s : List Int32} {fl : Bool} (h : RB w n B) (hp : p ≤ 50) (lv : Nat) : Call M_X4_close lv [.ref 99] (rW w nm F0 p fl s) = some (none, rW w nm F0 (if fl = false ∧ cB n B p = 41 then p + 1 else p) (fl || !(decide (cB n B p = 41))) s) := by
  have r0 : hg (rW w nm F0 p fl s) 99 = rob nm p fl := rfl
  have ah := s_ahead (nm := nm) (F0 := F0) (fl := fl) (s := s) h hp 60
  have st : ∀ q f, hs (rW w nm F0 p fl s) 99 (rob nm q f) = rW w nm F0 q f s := fun q f => rd_s _ _ _ _ _ _ _ _
  cases fl with
  | true =>
    simp only [C_X4_close, R_X4_close, SB, r0, rd_g, bI_t, show ((1 : Int32) = 0) = False from by simp, if_false, if_true, Bool.true_or, Bool.true_eq_false, false_and]
  | false =>
    by_cases q : cB n B p = 41
    · have q1 : p < n := cB_lt (by rw [q]; decide)
      have c : B p = 41 := by unfold cB at q; rw [if_pos q1] at q; exact q
      rw [if_pos q1, c] at ah
      simp only [C_X4_close, R_X4_close, SB, r0, rd_g, bI_f, if_true, ah, not_true_eq_false, if_false, nI_1, rd_p3, rd_p4, st, q, and_self, decide_true, Bool.not_true, Bool.or_false]
    · have c : (if p < n then B p else 0) ≠ 41 := by
        unfold cB at q
        by_cases q1 : p < n
        · rw [if_pos q1] at q ⊢; exact q
        · rw [if_neg q1]; decide
      simp only [C_X4_close, R_X4_close, SB, r0, rd_g, bI_f, if_true, ah, c, q, not_false_eq_true, rd_p3, rd_p4, st, and_false, if_false, decide_false, Bool.not_false, Bool.or_true]
