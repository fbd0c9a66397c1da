/-! ===== Roads: the class ===== -/
def LJ (w : AH) (a j : Nat) (f : Nat → Nat) : Prop := ∃ G : Nat → Int64, hg w a = .inl (1, 4, .inr (.inl G)) ∧ ∀ k, k < j → G k = lN (f k)
theorem LJ.get {w : AH} {a j : Nat} {f : Nat → Nat} (h : LJ w a j f) {k : Nat} (hk : k < j) (h4 : k < 4) : aJ (hg w a) (nI k) = some (lN (f k)) := by
  obtain ⟨G, e, hG⟩ := h
  rw [e, aJ_1 h4 (by decide), hG k hk]
theorem LJ.set {w : AH} {a j : Nat} {f : Nat → Nat} (h : LJ w a j f) {k i : Nat} (hk : k < 4) {x : Nat} {g : Nat → Nat} (hgq : ∀ q, q < i → g q = if q = k then x else f q) (hi : ∀ q, q < i → q = k ∨ q < j) : ∃ e, uJ (hg w a) (nI k) (lN x) = some e ∧ ∀ w', LJ (hs w' a e) a i g := by
  obtain ⟨G, e, hG⟩ := h
  refine ⟨.inl (1, 4, .inr (.inl (vp_updL G k (lN x)))), by rw [e, uJ_1 hk (by decide)], fun w' => ⟨_, hs_eq _ _ _, fun q hq => ?_⟩⟩
  rw [hgq q hq]
  show (if q = k then _ else _) = _
  by_cases z : q = k
  · rw [if_pos z, if_pos z]
  · rw [if_neg z, if_neg z]
    rcases hi q hq with y | y
    · exact absurd y z
    · exact hG q y
theorem LJ.keep {w v : AH} {a j : Nat} {f : Nat → Nat} (h : LJ w a j f) (e : hg v a = hg w a) : LJ v a j f := by
  obtain ⟨G, e2, hG⟩ := h
  exact ⟨G, e.trans e2, hG⟩
theorem LJ.congr {w : AH} {a j : Nat} {f g : Nat → Nat} (h : LJ w a j f) (e : ∀ k, k < j → f k = g k) : LJ w a j g := by
  obtain ⟨G, e2, hG⟩ := h
  exact ⟨G, e2, fun k hk => by rw [hG k hk, e k hk]⟩
def RdP : Nat → Prop := fun j => j = 106 ∨ j = 107 ∨ j = 108
def RoF (w : AH) : Prop := gf (hg w 105) 5 0 = some (.ref 106) ∧ gf (hg w 105) 5 1 = some (.ref 107) ∧ gf (hg w 105) 5 2 = some (.ref 108)
theorem RoF.keep {w v : AH} (h : RoF w) (e : hg v 105 = hg w 105) : RoF v := by
  unfold RoF; rw [e]; exact h
def otF (fr : Nat → Nat) (y : Nat) : Nat → Nat → Nat := fun z s => if z = y then s else s ||| fr z
def otN (fr : Nat → Nat) (y : Nat) : Nat := foldN (otF fr y) 4 0
theorem otF_lt {fr : Nat → Nat} (hf : ∀ k, k < 4 → fr k < 2 ^ 36) (y : Nat) : ∀ n, n ≤ 4 → foldN (otF fr y) n 0 < 2 ^ 36 := by
  intro n
  induction n with
  | zero => intro _; exact (by decide : (0 : Nat) < 2 ^ 36)
  | succ n ih =>
    intro h
    rw [foldN_s]
    unfold otF
    split
    · exact ih (by omega)
    · exact Nat.or_lt_two_pow (ih (by omega)) (hf n (by omega))
def nxN (fr sn : Nat → Nat) (op : Nat) (y : Nat) : Nat := dfN (stN (otN fr y) y &&& op) (sn y)
theorem nxN_lt {fr sn : Nat → Nat} {op : Nat} (ho : op < 2 ^ 36) (y : Nat) : nxN fr sn op y < 2 ^ 36 := dfN_lt (Nat.lt_of_le_of_lt Nat.and_le_right ho)
theorem s_goOn {w : AH} {sn fr : Nat → Nat} {op : Nat} (ho : op < 2 ^ 36) (hF : RoF w) (h0 : LJ w 106 4 sn) (h1 : LJ w 107 4 fr) (h2 : LJ w 108 0 fr) (hs4 : ∀ k, k < 4 → sn k < 2 ^ 36) (hf4 : ∀ k, k < 4 → fr k < 2 ^ 36) (lv : Nat) : ∃ v, Call M_X5_goOn lv [.ref 105, .long (lN op)] w = some (none, v) ∧ RoF v ∧ LJ v 106 4 (fun k => sn k ||| nxN fr sn op k) ∧ LJ v 107 4 (nxN fr sn op) ∧ LJ v 108 0 fr ∧ Fr RdP w v := by
  obtain ⟨⟨v1, o4, o6⟩, a1, aF, a0, a2, a3, a4⟩ := loopE (fun y (s : AH × Option Value × Option Value) => Ex M_X5_goOn lv 2 [some (.ref 105), some (.long (lN op)), none, some (.int (nI y)), s.2.1, none, s.2.2] [] s.1) (fun y s => RoF s.1 ∧ LJ s.1 106 4 sn ∧ LJ s.1 107 4 fr ∧ LJ s.1 108 y (nxN fr sn op) ∧ Fr RdP w s.1) 4 (by
    intro y s hy hI
    obtain ⟨v, o4, o6⟩ := s
    obtain ⟨iF, i0, i1, i2, i3⟩ : RoF v ∧ LJ v 106 4 sn ∧ LJ v 107 4 fr ∧ LJ v 108 y (nxN fr sn op) ∧ Fr RdP w v := hI
    have e1 : ((4 : Int32) ≤ nI y) = False := by rw [show (4 : Int32) = nI 4 from rfl, le_nI (by decide) (by omega)]; apply eq_false; omega
    have inn := (for_up (fun z n => Ex M_X5_goOn lv 13 [some (.ref 105), some (.long (lN op)), none, some (.int (nI y)), some (.long (lN n)), none, some (.int (nI z))] [] v) (otF fr y) (fun _ n => n < 2 ^ 36) 4 (by
      intro z n hz hn
      have hb : otF fr y z n < 2 ^ 36 := by
        unfold otF
        split
        · exact hn
        · exact Nat.or_lt_two_pow hn (hf4 z hz)
      refine ⟨?_, hb⟩
      have e1 : ((4 : Int32) ≤ nI z) = False := by rw [show (4 : Int32) = nI 4 from rfl, le_nI (by decide) (by omega)]; apply eq_false; omega
      have e2 : (nI z = nI y) = (z = y) := eq_nI (by omega) (by omega)
      have g := i1.get hz hz
      have hf := hf4 z hz
      rw [H_X5_goOn_13]
      unfold otF
      by_cases q : z = y
      · rw [if_pos q]
        simp only [R_X5_goOn_p0, R_X5_goOn_p1, SB, e1, e2, eq_true q, if_true, if_false, ls1s, nI_1]
      · rw [if_neg q]
        have wo : lN n ||| lN (fr z) = lN (n ||| fr z) := wb_or (by omega) (by omega)
        simp only [R_X5_goOn_p0, R_X5_goOn_p1, SB, e1, e2, eq_false q, iF.2.1, g, wo, if_true, if_false, ls1s, ls2s, nI_1]) 4 0 (Nat.le_refl _) (by decide)).1
    have ol := otF_lt hf4 y 4 (Nat.le_refl _)
    have st := s_stepped ol v 60 y hy
    have sl := stN_lt ol y hy
    have wa : lN (stN (otN fr y) y) &&& lN op = lN (stN (otN fr y) y &&& op) := wb_and (by have : stN (otN fr y) y < 2 ^ 36 := sl; omega) (by omega)
    have df := lN_df (show stN (otN fr y) y &&& op < 2 ^ 36 from Nat.lt_of_le_of_lt Nat.and_le_right ho) (hs4 y hy)
    have gs := i0.get hy hy
    obtain ⟨e, u1, u2⟩ := i2.set (k := y) (i := y + 1) (x := nxN fr sn op y) (g := nxN fr sn op) hy (fun q _ => by by_cases z : q = y <;> simp [z]) (fun q hq => by omega)
    refine ⟨(hs v 108 e, some (.long (lN (otN fr y))), some (.int (nI 4))), ?_, iF.keep (hs_ne _ _ (by decide)), i0.keep (hs_ne _ _ (by decide)), i1.keep (hs_ne _ _ (by decide)), u2 v, i3.trans (Fr.hs (Or.inr (Or.inr rfl)) e)⟩
    rw [H_X5_goOn_2]
    simp only [R_X5_goOn_p0, R_X5_goOn_p1, SB, e1, if_true, if_false, ls1s, ls2s]
    refine (show _ = _ from rfl).trans (inn.trans ?_)
    rw [H_X5_goOn_13]
    have st : Call M_X7_stepped 60 [.long (lN (otN fr y)), .int (nI y)] v = some (some (.long (lN (stN (otN fr y) y))), v) := st
    show Ex M_X5_goOn lv 15 [some (.ref 105), some (.long (lN op)), none, some (.int (nI y)), some (.long (lN (otN fr y))), none, some (.int (nI 4))] [.int (nI 4)] v = _
    unfold nxN at u1
    simp only [R_X5_goOn_p0, R_X5_goOn_p1, SB, show ((4 : Int32) ≤ nI 4) = True from by rw [show (4 : Int32) = nI 4 from rfl]; simp, iF.1, iF.2.2, st, wa, gs, df, u1, if_true, ls1s, nI_1]) (w, none, none) ⟨hF, h0, h1, h2.congr (fun k hk => absurd hk (Nat.not_lt_zero k)), Fr.refl _ _⟩
  obtain ⟨v2, b1, bF, b0, b2, b3, b4⟩ := loopE (fun y (v : AH) => Ex M_X5_goOn lv 76 [some (.ref 105), some (.long (lN op)), none, some (.int (nI y)), o4, none, o6] [] v) (fun y v => RoF v ∧ LJ v 106 4 (fun k => if k < y then sn k ||| nxN fr sn op k else sn k) ∧ LJ v 107 4 (fun k => if k < y then nxN fr sn op k else fr k) ∧ LJ v 108 4 (nxN fr sn op) ∧ Fr RdP w v) 4 (by
    intro y v hy ⟨iF, i0, i1, i2, i3⟩
    have e1 : ((4 : Int32) ≤ nI y) = False := by rw [show (4 : Int32) = nI 4 from rfl, le_nI (by decide) (by omega)]; apply eq_false; omega
    have g2 := i2.get hy hy
    have g0 := i0.get hy hy
    rw [if_neg (Nat.lt_irrefl y)] at g0
    obtain ⟨ea, u1, u2⟩ := i1.set (k := y) (i := 4) (x := nxN fr sn op y) (g := fun k => if k < y + 1 then nxN fr sn op k else fr k) hy (fun q _ => by
      by_cases z : q = y
      · subst z; simp
      · by_cases z2 : q < y
        · simp [z, z2, show q < y + 1 by omega]
        · simp [z, z2, show ¬ q < y + 1 by omega]) (fun q hq => Or.inr hq)
    obtain ⟨eb, u3, u4⟩ := i0.set (k := y) (i := 4) (x := sn y ||| nxN fr sn op y) (g := fun k => if k < y + 1 then sn k ||| nxN fr sn op k else sn k) hy (fun q _ => by
      by_cases z : q = y
      · subst z; simp
      · by_cases z2 : q < y
        · simp [z, z2, show q < y + 1 by omega]
        · simp [z, z2, show ¬ q < y + 1 by omega]) (fun q hq => Or.inr hq)
    have n5 : hg (hs v 107 ea) 105 = hg v 105 := hs_ne _ _ (by decide)
    have n6 : hg (hs v 107 ea) 106 = hg v 106 := hs_ne _ _ (by decide)
    have n8 : hg (hs v 107 ea) 108 = hg v 108 := hs_ne _ _ (by decide)
    have nl := nxN_lt (fr := fr) (sn := sn) ho y
    have sl := hs4 y hy
    have wo : lN (sn y) ||| lN (nxN fr sn op y) = lN (sn y ||| nxN fr sn op y) := wb_or (by omega) (by omega)
    refine ⟨hs (hs v 107 ea) 106 eb, ?_, (iF.keep n5).keep (hs_ne _ _ (by decide)), u4 _, (u2 v).keep (hs_ne _ _ (by decide)), (i2.keep n8).keep (hs_ne _ _ (by decide)), i3.trans ((Fr.hs (Or.inr (Or.inl rfl)) ea).trans (Fr.hs (Or.inl rfl) eb))⟩
    rw [H_X5_goOn_76]
    simp only [R_X5_goOn_p0, R_X5_goOn_p1, SB, e1, iF.1, iF.2.1, iF.2.2, g2, u1, n5, n6, n8, g0, wo, u3, if_true, if_false, ls1s, nI_1]) v1 ⟨aF, a0.congr (fun k hk => by simp), a2.congr (fun k hk => by simp), a3, a4⟩
  refine ⟨v2, ?_, bF, b0.congr (fun k hk => by simp [hk]), b2.congr (fun k hk => by simp [hk]), ?_, b4⟩
  · simp only [C_X5_goOn, R_X5_goOn_p0, R_X5_goOn_p1, SB, ls1s]
    refine (show _ = _ from rfl).trans (a1.trans ?_)
    rw [H_X5_goOn_2]
    simp only [R_X5_goOn_p0, R_X5_goOn_p1, SB, show ((4 : Int32) ≤ nI 4) = True from by rw [show (4 : Int32) = nI 4 from rfl]; simp, if_true, ls1s]
    refine (show _ = _ from rfl).trans (b1.trans ?_)
    rw [H_X5_goOn_76]
    simp only [R_X5_goOn_p0, R_X5_goOn_p1, SB, show ((4 : Int32) ≤ nI 4) = True from by rw [show (4 : Int32) = nI 4 from rfl]; simp, if_true]
  · obtain ⟨G, e, _⟩ := b3
    exact ⟨G, e, fun k hk => absurd hk (Nat.not_lt_zero k)⟩
