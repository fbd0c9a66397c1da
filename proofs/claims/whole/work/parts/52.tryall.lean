/-! ===== Dyeing: all rows of floods ===== -/
/-- what the search for the best row of n floods ends with; s: the rows before -/
def trN (col : Nat → Nat) (k n : Nat) (s : DyS) : DyS := flP (csN col) n (land col k) 0 (s.1, s.2.1, 0)
theorem s_tryAll {w : AH} {d c : Nat} {sets col wear : Nat → Nat} {s : DyS} (h : DyAt w d sets s.1 s.2.1 s.2.2) (hc : CarAt w c col wear) (hd : c + 3 ≤ d ∨ d + 4 ≤ c) {k n : Nat} (hk : k < 36) (hn : n ≤ 3) (lv : Nat) : ∃ v, Call M_X2_tryAll lv [.ref d, .ref c, .int (nI k), .int (nI n)] w = some (none, v) ∧ DyAt v d (csN col) (trN col k n s).1 (trN col k n s).2.1 (trN col k n s).2.2 ∧ Fr (DyP d) w v := by
  obtain ⟨v, b1, b2, b3⟩ := for_ex (fun i (_ : Unit) u => Ex M_X2_tryAll lv 3 [some (.ref d), some (.ref c), some (.int (nI k)), some (.int (nI n)), some (.int (nI i))] [] u) (fun _ t => t) (fun m _ u => DyAt u d (fun j => if j < m then csN col j else sets j) s.1 s.2.1 s.2.2 ∧ Fr (DyP d) w u) 8 (by
    intro i _ u hi hI
    obtain ⟨i1, i2⟩ := hI
    have e1 : ((8 : Int32) ≤ nI i) = False := by rw [show (8 : Int32) = nI 8 from rfl, le_nI (by decide) (by omega)]; simp; omega
    have C : CarAt u c col wear := hc.keep (i2.2.2 _ (fun x => by have := x.1; have := x.2; omega)) (i2.2.2 _ (fun x => by have := x.1; have := x.2; omega)) (i2.2.2 _ (fun x => by have := x.1; have := x.2; omega))
    obtain ⟨G, q1, q2⟩ := i1.q0
    refine ⟨hs u (d + 1) (.inl (1, 8, .inr (.inl (vp_updL G i (lN (csN col i)))))), ?_, ⟨by rw [hs_ne _ _ (by omega)]; exact i1.p0, by rw [hs_ne _ _ (by omega)]; exact i1.p1, by rw [hs_ne _ _ (by omega)]; exact i1.p2, by rw [hs_ne _ _ (by omega)]; exact i1.p3, ⟨_, hs_eq _ _ _, ?_⟩, i1.q1.keep (hs_ne _ _ (by omega)), i1.q2.keep (hs_ne _ _ (by omega)), i1.r⟩, i2.trans (Fr.hs (show DyP d (d + 1) from ⟨by omega, by omega⟩) _)⟩
    · rw [H_X2_tryAll_3]
      simp only [R_X2_tryAll, SB, e1, if_false, if_true, i1.p0, clK_gf C.p0, s_ofColour C hi, q1, uJ_1 hi (show 8 ≤ 2147483648 by decide), ls1s, nI_1]
    · intro j hj
      have := q2 j hj
      unfold vp_updL
      by_cases q : j = i
      · subst q; simp
      · by_cases q3 : j < i
        · simp only [q3, if_true] at this
          simp [q, this, show j < i + 1 by omega]
        · simp only [q3, if_false] at this
          simp [q, this, show ¬ j < i + 1 by omega]) 8 (Nat.le_refl _) () w ⟨by simpa using h, Fr.refl _ _⟩
  have n1 : ∀ e j, j ≠ d → hg (hs v d e) j = hg v j := fun e j x => hs_ne _ _ x
  obtain ⟨e, he⟩ : ∃ e, e = fput (hg v d) 3 (.int 0) := ⟨_, rfl⟩
  have D2 : DyAt (hs v d e) d (csN col) s.1 s.2.1 0 := by
    refine ⟨?_, ?_, ?_, ?_, ?_, b2.q1.keep (n1 _ _ (by omega)), b2.q2.keep (n1 _ _ (by omega)), by decide⟩
    · rw [hs_eq, he, gf_put_n (by decide)]; exact b2.p0
    · rw [hs_eq, he, gf_put_n (by decide)]; exact b2.p1
    · rw [hs_eq, he, gf_put_n (by decide)]; exact b2.p2
    · rw [hs_eq, he]; exact gf_put_s b2.p3
    · obtain ⟨G, q1, q2⟩ := b2.q0
      refine ⟨G, by rw [n1 _ _ (by omega)]; exact q1, fun j hj => ?_⟩
      have := q2 j hj
      simp only [hj, if_true] at this
      exact this
  have F2 : Fr (DyP d) w (hs v d e) := b3.trans (Fr.hs (show DyP d d from ⟨by omega, by omega⟩) e)
  have C2 : CarAt (hs v d e) c col wear := hc.keep (F2.2.2 _ (fun x => by have := x.1; have := x.2; omega)) (F2.2.2 _ (fun x => by have := x.1; have := x.2; omega)) (F2.2.2 _ (fun x => by have := x.1; have := x.2; omega))
  obtain ⟨u, c1, c2, c3⟩ := s_flood (fun j _ => csN_lt col j) n 60 (land col k) 0 (hs v d e) (s.1, s.2.1, 0) (by omega) (by omega) (land_lt col hk) D2
  rw [Nat.zero_add] at c1
  refine ⟨u, ?_, c2, F2.trans c3⟩
  simp only [C_X2_tryAll, R_X2_tryAll, SB, ls1s, show (0 : Int32) = nI 0 from rfl]
  refine (show _ = _ from rfl).trans (b1.trans ?_)
  rw [H_X2_tryAll_3]
  have pe := pf_i b2.p3 0
  rw [← he] at pe
  have pe : pf (hg v d) 2 3 .int (.int (nI 0)) = some e := pe
  have ce : clK e = 2 := by have := clK_gf D2.p0; rw [hs_eq] at this; exact this
  simp only [R_X2_tryAll, SB, show ((8 : Int32) ≤ nI 8) = True from by rw [show (8 : Int32) = nI 8 from rfl]; simp, if_true, show (0 : Int32) = nI 0 from rfl, pe, clK_gf C2.p0, s_landOf C2 hk, ce, c1]
