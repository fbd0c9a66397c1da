/-! ===== pairs: text ===== -/
theorem ClAt.setRd {w v : AH} {X : Cx} (h : ClAt w X) (hF : Fr (fun j => j = 99 ∨ j = 100 ∨ j = 101) w v) {L : Nat} {f : Nat → Int32} (hT : RdAt v L f) : ClAt v X := by
  have e : ∀ j, j < 99 ∨ 102 ≤ j → hg v j = hg w j := fun j hj => hF.2.2 j (by omega)
  have e0 := e 32 (by omega)
  refine ⟨by rw [e0]; exact h.f0, by rw [e0]; exact h.f1, by rw [e0]; exact h.f2, by rw [e0]; exact h.f3, by rw [e0]; exact h.f4, by rw [e0]; exact h.f5, by rw [e0]; exact h.f6, by rw [e0]; exact h.f7, by rw [e0]; exact h.f8, by rw [e0]; exact h.f9, h.now.keep (fun j _ _ => e j (by omega)), h.kept.keep (fun j _ _ => e j (by omega)), ?_, ⟨L, f, hT⟩, h.vo.keep (fun j _ _ => e j (by omega)), h.ro.keep (fun j _ _ => e j (by omega)), ?_, by rw [e 113 (by omega)]; exact h.shs, ?_, by rw [e 114 (by omega)]; exact h.err, h.sta.keep (e _ (by omega)) (e _ (by omega)), h.str.keep (fun j hj => e j (by omega))⟩
  · obtain ⟨T, hT⟩ := h.tho; exact ⟨T, hT.keep (fun j _ _ => e j (by omega))⟩
  · obtain ⟨a, b, c, d, hT⟩ := h.dy; exact ⟨a, b, c, d, hT.keep (fun j _ _ => e j (by omega))⟩
  · intro j hj
    exact (h.she j hj).keep (e _ (by omega)) (e _ (by omega))
/-- the country with another text -/
def txS (S : Co) : Nat → Tx → Co
  | 0, t => (S.1, S.2.1, S.2.2.1, S.2.2.2.1, S.2.2.2.2.1, S.2.2.2.2.2.1, t, S.2.2.2.2.2.2.2)
  | _ + 1, t => (S.1, S.2.1, S.2.2.1, S.2.2.2.1, S.2.2.2.2.1, S.2.2.2.2.2.1, S.2.2.2.2.2.2.1, t)
theorem CoAt.setTx {w v : AH} {g : Nat} {S : Co} (h : CoAt w g S) {u : Nat} (hu : u < 2) {t : Tx} (e : ∀ j, g ≤ j → j < g + 22 → j ≠ g + 6 + 4 * u → j ≠ g + 7 + 4 * u → hg v j = hg w j) (hr : LawV v (g + 5 + 4 * u) t) : CoAt v g (txS S u t) := by
  have e0 := e g (by omega) (by omega) (by omega) (by omega)
  have c1 : CarAt v (g + 1) S.col S.wear := h.car.keep (e _ (by omega) (by omega) (by omega) (by omega)) (e _ (by omega) (by omega) (by omega) (by omega)) (e _ (by omega) (by omega) (by omega) (by omega))
  have c2 : ∃ W : Nat → Option Nat, hg v (g + 4) = .inl (3, 5, .inr (.inr (.inr (.inr W)))) ∧ ∀ k, k < 5 → W k = some (g + 17 + k) := by rw [e (g + 4) (by omega) (by omega) (by omega) (by omega)]; exact h.wks
  have c3 : ∀ k, k < 5 → WkAt v (g + 17 + k) (S.wk k 0) (S.wk k 1) (S.wk k 2) (S.wk k 3) := fun k hk => (h.wk k hk).keep (e _ (by omega) (by omega) (by omega) (by omega))
  have c4 : RowAt v (g + 13) (g + 14) 50 S.tape.1 S.tape.2 := h.tape.keep (e _ (by omega) (by omega) (by omega) (by omega)) (e _ (by omega) (by omega) (by omega) (by omega))
  have c5 : RowAt v (g + 15) (g + 16) 20 S.wait.1 S.wait.2 := h.wait.keep (e _ (by omega) (by omega) (by omega) (by omega)) (e _ (by omega) (by omega) (by omega) (by omega))
  obtain h2 : u = 0 ∨ u = 1 := by omega
  rcases h2 with rfl | rfl
  · exact ⟨by rw [e0]; exact h.k0, by rw [e0]; exact h.k1, by rw [e0]; exact h.k2, by rw [e0]; exact h.k3, by rw [e0]; exact h.k4, by rw [e0]; exact h.k5, by rw [e0]; exact h.k6, by rw [e0]; exact h.k7, by rw [e0]; exact h.k8, c1, c2, c3, hr, h.wor.keep (e _ (by omega) (by omega) (by omega) (by omega)) (e _ (by omega) (by omega) (by omega) (by omega)) (e _ (by omega) (by omega) (by omega) (by omega)) (e _ (by omega) (by omega) (by omega) (by omega)), c4, c5, h.rn, h.rd⟩
  · exact ⟨by rw [e0]; exact h.k0, by rw [e0]; exact h.k1, by rw [e0]; exact h.k2, by rw [e0]; exact h.k3, by rw [e0]; exact h.k4, by rw [e0]; exact h.k5, by rw [e0]; exact h.k6, by rw [e0]; exact h.k7, by rw [e0]; exact h.k8, c1, c2, c3, h.pat.keep (e _ (by omega) (by omega) (by omega) (by omega)) (e _ (by omega) (by omega) (by omega) (by omega)) (e _ (by omega) (by omega) (by omega) (by omega)) (e _ (by omega) (by omega) (by omega) (by omega)), hr, c4, c5, h.rn, h.rd⟩
theorem CoAt.tx {w : AH} {g : Nat} {S : Co} (h : CoAt w g S) {u : Nat} (hu : u < 2) : ∃ L f, LwAt w (g + 5 + 4 * u) L f := by
  obtain h2 : u = 0 ∨ u = 1 := by omega
  rcases h2 with rfl | rfl
  · obtain ⟨L, f, a, _⟩ := h.pat; exact ⟨L, f, a⟩
  · obtain ⟨L, f, a, _⟩ := h.wor; exact ⟨L, f, a⟩
theorem s_lawOfU {w : AH} {g : Nat} {S : Co} (h : CoAt w g S) {u : Nat} (hu : u < 2) (lv : Nat) : Call M_X1_lawOf lv [.ref g, .int (nI u)] w = some (some (.ref (g + 5 + 4 * u)), w) := by
  obtain h2 : u = 0 ∨ u = 1 := by omega
  rcases h2 with rfl | rfl
  · exact s_lawOf0 h lv
  · exact s_lawOf1 h lv
theorem DR.clear {D : Nat → Int32} {S : Co} (hD : DR D S) (f : Nat → Int32) : DR (upd D 3 0) (tpS S (0, f)) := by
  have u : ∀ j, j ≠ 3 → upd D 3 0 j = D j := fun j h1 => upd_n h1
  have tx : ∀ u t, u < 2 → TxR D u t → TxR (upd D 3 0) u t := by
    intro u0 t hu ⟨n, n1, n2, n3, n4⟩
    refine ⟨n, (u _ (by omega)).trans n1, n2, n3, fun h => ?_⟩
    have e1 : pT u0 n (fun k => upd D 3 0 (119 + 50 * u0 + k)) = pT u0 n (fun k => D (119 + 50 * u0 + k)) := pT_congr (fun k hk => u _ (by omega))
    rw [e1]
    exact n4 h
  exact ⟨(u _ (by omega)).trans hD.nw, (u _ (by omega)).trans hD.day, (u _ (by omega)).trans hD.z, upd_s _ _ _, (u _ (by omega)).trans hD.wn, fun k hk => (u _ (by omega)).trans (hD.col k hk), fun k hk => (u _ (by omega)).trans (hD.wear k hk), fun i hi x hx => (u _ (by omega)).trans (hD.wk i hi x hx), tx 0 _ (by decide) hD.pat, tx 1 _ (by decide) hD.wor, fun k hk => (u _ (by omega)).trans (hD.wt k hk), fun k hk => absurd hk (Nat.not_lt_zero k), hD.rc, hD.rw, hD.rk, hD.rn, hD.rd, Nat.zero_le _, hD.rv, fun k hk => absurd hk (Nat.not_lt_zero k)⟩
theorem DR.setTx {D E : Nat → Int32} {S : Co} (hD : DR D S) {u : Nat} (hu : u < 2) {t : Tx} (e : ∀ j, j ≠ 97 + u → (j < 119 + 50 * u ∨ 169 + 50 * u ≤ j) → E j = D j) (ht : TxR E u t) : DR E (txS S u t) := by
  have tx : ∀ u0 t, u0 < 2 → u0 ≠ u → TxR D u0 t → TxR E u0 t := by
    intro u0 t hu0 hne ⟨n, n1, n2, n3, n4⟩
    refine ⟨n, (e _ (by omega) (by omega)).trans n1, n2, n3, fun h => ?_⟩
    have e1 : pT u0 n (fun k => E (119 + 50 * u0 + k)) = pT u0 n (fun k => D (119 + 50 * u0 + k)) := pT_congr (fun k hk => e _ (by omega) (by omega))
    rw [e1]
    exact n4 h
  have rn := hD.rn
  have rv := hD.rv
  have rt := hD.rt
  have c1 : ∀ i, i < S.nw → ∀ x, x < 4 → E (77 + 4 * i + x) = nI (S.wk i x) := fun i hi x hx => (e _ (by omega) (by omega)).trans (hD.wk i hi x hx)
  have c2 : ∀ k, k < S.wait.1 → E (99 + k) = S.wait.2 k := fun k hk => (e _ (by omega) (by omega)).trans (hD.wt k hk)
  have c3 : ∀ k, k < S.tape.1 → E (219 + k) = S.tape.2 k := fun k hk => (e _ (by omega) (by omega)).trans (hD.tp k hk)
  have c4 : ∀ k, k < 36 → E (5 + k) = nI (S.col k) := fun k hk => (e _ (by omega) (by omega)).trans (hD.col k hk)
  have c5 : ∀ k, k < 36 → E (41 + k) = nI (S.wear k) := fun k hk => (e _ (by omega) (by omega)).trans (hD.wear k hk)
  obtain h2 : u = 0 ∨ u = 1 := by omega
  rcases h2 with rfl | rfl
  · exact ⟨(e _ (by omega) (by omega)).trans hD.nw, (e _ (by omega) (by omega)).trans hD.day, (e _ (by omega) (by omega)).trans hD.z, (e _ (by omega) (by omega)).trans hD.tn, (e _ (by omega) (by omega)).trans hD.wn, c4, c5, c1, ht, tx 1 _ (by decide) (by decide) hD.wor, c2, c3, hD.rc, hD.rw, hD.rk, hD.rn, hD.rd, hD.rt, hD.rv, hD.tb⟩
  · exact ⟨(e _ (by omega) (by omega)).trans hD.nw, (e _ (by omega) (by omega)).trans hD.day, (e _ (by omega) (by omega)).trans hD.z, (e _ (by omega) (by omega)).trans hD.tn, (e _ (by omega) (by omega)).trans hD.wn, c4, c5, c1, tx 0 _ (by decide) (by decide) hD.pat, ht, c2, c3, hD.rc, hD.rw, hD.rk, hD.rn, hD.rd, hD.rt, hD.rv, hD.tb⟩
