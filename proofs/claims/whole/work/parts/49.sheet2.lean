/-! ===== Sheet: what is written ===== -/
def mskI (bits : Nat) (v : Int32) : Int32 := if bits = 32 then v else v &&& ((1 <<< (nI bits &&& 31)) - 1)
theorem s_Sheet_set {w : AH} {s bits n : Nat} {F : Nat → Int32} (h : ShAt w s bits n F) {k : Nat} (hk : k < n) (v : Int32) (lv : Nat) : ∃ e, Call M_X8_set lv [.ref s, .int (nI k), .int v] w = some (none, hs w (s + 1) e) ∧ ShAt (hs w (s + 1) e) s bits n (upd F k (mskI bits v)) := by
  have hn := h.rn
  have hb := h.rb
  have e32 : (nI bits = 32) = (bits = 32) := by rw [show (32 : Int32) = nI 32 from rfl, eq_nI (by omega) (by decide)]
  refine ⟨.inl (0, 40, .inl (upd F k (mskI bits v))), ?_, ?_⟩
  · by_cases q : bits = 32
    · simp only [C_X8_set, R_X8_set, SB, clK_gf h.p0, s_Sheet_has h, inR_nI (show k < 2147483648 by omega), hk, decide_true, bI_n0, if_true, h.p0, h.p1, e32, eq_true q, not_true_eq_false, if_false, h.q, uI_0 (show k < 40 by omega) (show 40 ≤ 2147483648 by decide), mskI]
    · simp only [C_X8_set, R_X8_set, SB, clK_gf h.p0, s_Sheet_has h, inR_nI (show k < 2147483648 by omega), hk, decide_true, bI_n0, if_true, h.p0, h.p1, e32, eq_false q, not_false_eq_true, if_false, h.q, uI_0 (show k < 40 by omega) (show 40 ≤ 2147483648 by decide), mskI]
  · exact ⟨by rw [hs_ne _ _ (by omega)]; exact h.p0, by rw [hs_ne _ _ (by omega)]; exact h.p1, by rw [hs_ne _ _ (by omega)]; exact h.p2, hs_eq _ _ _, h.rb, h.rn⟩
theorem s_lawOf0 {w : AH} {g : Nat} {S : Co} (h : CoAt w g S) (lv : Nat) : Call M_X1_lawOf lv [.ref g, .int 0] w = some (some (.ref (g + 5)), w) := by
  simp only [C_X1_lawOf, R_X1_lawOf, SB, not_true_eq_false, if_false, if_true, h.k2]
theorem s_lawOf1 {w : AH} {g : Nat} {S : Co} (h : CoAt w g S) (lv : Nat) : Call M_X1_lawOf lv [.ref g, .int 1] w = some (some (.ref (g + 9)), w) := by
  simp only [C_X1_lawOf, R_X1_lawOf, SB, show ((1 : Int32) = 0) = False from by simp, not_false_eq_true, if_true, h.k3]
