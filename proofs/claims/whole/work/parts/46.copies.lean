/-! ===== copies ===== -/
theorem aC_0 {f g : Nat → Int32} {m m2 sp dp n : Nat} (h1 : sp + n ≤ m) (h2 : dp + n ≤ m2) (h3 : sp + n < 2147483648) (h4 : dp + n < 2147483648) : aC (.inl (0, m, .inl f)) (.inl (0, m2, .inl g)) (nI sp) (nI dp) (nI n) = some (.inl (0, m2, .inl (va_cpy f g sp dp n))) := by
  unfold aC
  dsimp only
  rw [nI_c (by omega), nI_c (by omega), nI_c (by omega), if_pos ⟨rfl, rfl, nI_pos (by omega), nI_pos (by omega), nI_pos (by omega), h1, h2⟩]
theorem IA.copy {w : AH} {a b n : Nat} {f g : Nat → Nat} (h : IA w a n f) (h2 : IA w b n g) (hn : n < 2147483648) : ∃ e, aC (hg w b) (hg w a) 0 0 (nI n) = some e ∧ IA (hs w a e) a n g := by
  obtain ⟨F, e1, hF⟩ := h
  obtain ⟨G, e2, hG⟩ := h2
  refine ⟨_, by rw [e1, e2]; exact aC_0 (sp := 0) (dp := 0) (by omega) (by omega) (by omega) (by omega), va_cpy G F 0 0 n, hs_eq _ _ _, ?_⟩
  intro k hk
  rw [pk_cpy_in (Nat.zero_le _) (by omega), Nat.sub_zero, Nat.zero_add]
  exact hG k hk
theorem s_Carpet_copy {w : AH} {c c2 : Nat} {col wear col2 wear2 : Nat → Nat} (h : CarAt w c col wear) (h2 : CarAt w c2 col2 wear2) (hd : c + 22 ≤ c2 ∨ c2 + 22 ≤ c) (lv : Nat) : ∃ v, Call M_X0_copyFrom lv [.ref c, .ref c2] w = some (none, v) ∧ CarAt v c col2 wear2 ∧ Fr (fun j => j = c + 1 ∨ j = c + 2) w v := by
  obtain ⟨e1, a1, a2⟩ := h.q0.copy h2.q0 (by decide)
  have k1 : IA (hs w (c + 1) e1) (c + 2) 36 wear := h.q1.keep (hs_ne _ _ (by omega))
  have k2 : IA (hs w (c + 1) e1) (c2 + 2) 36 wear2 := h2.q1.keep (hs_ne _ _ (by omega))
  obtain ⟨e2, b1, b2⟩ := k1.copy k2 (by decide)
  have n1 : ∀ e, hg (hs w (c + 1) e) c = hg w c := fun e => hs_ne _ _ (by omega)
  have n2 : ∀ e, hg (hs w (c + 1) e) c2 = hg w c2 := fun e => hs_ne _ _ (by omega)
  refine ⟨hs (hs w (c + 1) e1) (c + 2) e2, ?_, ?_, (Fr.hs (Or.inl rfl) e1).trans (Fr.hs (Or.inr rfl) e2)⟩
  · have a1 : aC (hg w (c2 + 1)) (hg w (c + 1)) 0 0 36 = some e1 := a1
    have b1 : aC (hg (hs w (c + 1) e1) (c2 + 2)) (hg (hs w (c + 1) e1) (c + 2)) 0 0 36 = some e2 := b1
    simp only [C_X0_copyFrom, R_X0_copyFrom, SB, h.p0, h2.p0, a1, n1, n2, h.p1, h2.p1, b1, if_true]
  · exact ⟨by rw [hs_ne _ _ (by omega), n1]; exact h.p0, by rw [hs_ne _ _ (by omega), n1]; exact h.p1, a2.keep (hs_ne _ _ (by omega)), b2, h2.r0, h2.r1⟩
theorem s_Walker_copy {w : AH} {a b kd m pl way kd2 m2 pl2 way2 : Nat} (h : WkAt w a kd m pl way) (h2 : WkAt w b kd2 m2 pl2 way2) (hd : a ≠ b) (lv : Nat) : ∃ e, Call M_X10_copyFrom lv [.ref a, .ref b] w = some (none, hs w a e) ∧ WkAt (hs w a e) a kd2 m2 pl2 way2 := by
  have f0 := h.p0
  have f1 : gf (fput (hg w a) 0 (.int (nI kd2))) 9 1 = some (.int (nI m)) := by rw [gf_put_n (by decide)]; exact h.p1
  have f2 : gf (fput (fput (hg w a) 0 (.int (nI kd2))) 1 (.int (nI m2))) 9 2 = some (.int (nI pl)) := by rw [gf_put_n (by decide), gf_put_n (by decide)]; exact h.p2
  have f3 : gf (fput (fput (fput (hg w a) 0 (.int (nI kd2))) 1 (.int (nI m2))) 2 (.int (nI pl2))) 9 3 = some (.int (nI way)) := by rw [gf_put_n (by decide), gf_put_n (by decide), gf_put_n (by decide)]; exact h.p3
  have nb : ∀ e, hg (hs w a e) b = hg w b := fun e => hs_ne _ _ (Ne.symm hd)
  refine ⟨fput (fput (fput (fput (hg w a) 0 (.int (nI kd2))) 1 (.int (nI m2))) 2 (.int (nI pl2))) 3 (.int (nI way2)), ?_, ?_⟩
  · simp only [C_X10_copyFrom, R_X10_copyFrom, SB, h2.p0, h2.p1, h2.p2, h2.p3, nb, pf_i f0, pf_i f1, pf_i f2, pf_i f3, hs_hs, if_true]
  · refine ⟨?_, ?_, ?_, ?_, h2.r0, h2.r1, h2.r2, h2.r3⟩
    · rw [hs_eq, gf_put_n (by decide), gf_put_n (by decide), gf_put_n (by decide)]; exact gf_put_s f0
    · rw [hs_eq, gf_put_n (by decide), gf_put_n (by decide)]; exact gf_put_s f1
    · rw [hs_eq, gf_put_n (by decide)]; exact gf_put_s f2
    · rw [hs_eq]; exact gf_put_s f3
theorem RowAt.fr {w v : AH} {r a n L : Nat} {f : Nat → Int32} (h : RowAt w r a n L f) {P : Nat → Prop} (hF : Fr P w v) (h1 : ¬ P r) (h2 : ¬ P a) : RowAt v r a n L f := h.keep (hF.2.2 r h1) (hF.2.2 a h2)
theorem setRow_fr (w : AH) (r a n L : Nat) (f : Nat → Int32) {P : Nat → Prop} (h1 : P r) (h2 : P a) : Fr P w (setRow w r a n L f) := (Fr.hs h2 _).trans (Fr.hs h1 _)
theorem foldN_s {σ : Type} (F : Nat → σ → σ) (n : Nat) (s : σ) : foldN F (n + 1) s = F n (foldN F n s) := rfl
theorem foldN_0 {σ : Type} (F : Nat → σ → σ) (s : σ) : foldN F 0 s = s := rfl
theorem wsF_congr {f f2 : Nat → Int32} {a b c : Int32} : ∀ (L : Nat) (s : Nat × (Nat → Int32)), (∀ k, k < L → f k = f2 k) → foldN (wsF f a b c) L s = foldN (wsF f2 a b c) L s := by
  intro L
  induction L with
  | zero => intro s _; rw [foldN_0, foldN_0]
  | succ n ih =>
    intro s h
    have e : wsF f a b c n = wsF f2 a b c n := by
      funext t
      show wsG (f n) a b c t = wsG (f2 n) a b c t
      rw [h n (Nat.lt_succ_self n)]
    rw [foldN_s, foldN_s, ih s (fun k hk => h k (Nat.lt_succ_of_lt hk)), e]
/-- a Law learns what lies in a Row -/
theorem s_learn {w : AH} {l r2 a2 n2 L L2 : Nat} {f g : Nat → Int32} (h : LwAt w l L f) (h2 : RowAt w r2 a2 n2 L2 g) (hd : r2 ≠ l + 1 ∧ r2 ≠ l + 2 ∧ a2 ≠ l + 1 ∧ a2 ≠ l + 2) (hL : L2 ≤ 50) (lv : Nat) : ∃ v, Call M_X3_learn lv [.ref l, .ref r2] w = some (none, v) ∧ LwAt v l L2 (cpyF g f L2) ∧ Fr (fun j => j = l + 1 ∨ j = l + 2) w v := by
  refine ⟨setRow w (l + 1) (l + 2) 50 L2 (cpyF g f L2), ?_, ?_, setRow_fr _ _ _ _ _ _ (Or.inl rfl) (Or.inr rfl)⟩
  · simp only [C_X3_learn, R_X3_learn, SB, h.p0, clK_gf h.q.1, s_Row_copy h.q h2 hd hL, if_true]
  · exact ⟨by rw [setRow_ne _ _ _ _ _ _ (by omega) (by omega)]; exact h.p0, by rw [setRow_ne _ _ _ _ _ _ (by omega) (by omega)]; exact h.p1, h.q.set hL, by rw [setRow_ne _ _ _ _ _ _ (by omega) (by omega)]; exact h.s⟩
theorem LawV.learn {w : AH} {l l2 : Nat} {t t2 : Tx} (h : LawV w l t) (h2 : LawV w l2 t2) (hd : l + 22 ≤ l2 ∨ l2 + 22 ≤ l) (lv : Nat) : ∃ v, Call M_X3_learn lv [.ref l, .ref (l2 + 1)] w = some (none, v) ∧ LawV v l t2 ∧ Fr (fun j => j = l + 1 ∨ j = l + 2) w v := by
  obtain ⟨L, f, h3, -, -⟩ := h
  obtain ⟨L2, f2, g1, g2, g3⟩ := h2
  obtain ⟨v, a1, a2, a3⟩ := s_learn h3 g1.q (by omega) g1.q.2.2.2.2.1 lv
  refine ⟨v, a1, ⟨L2, _, a2, g2, ?_⟩, a3⟩
  intro hL G a b c
  rw [← g3 hL G a b c]
  unfold evI
  rw [wsF_congr (f := cpyF f2 f L2) (f2 := f2) L2 (0, G) (fun k hk => by simp [cpyF, hk])]
