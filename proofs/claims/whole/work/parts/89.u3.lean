/-! ===== the law, call by call (printed by wip/whole/genu3.py) ===== -/
abbrev lwL (i : Nat) : LX := [some (.ref 0), some (.ref 32), some (.ref 123), some (.int (nI i))]
def LawS (p i : Nat) (u : AH) : Prop := ∃ v, Ex M_L_law 60 p (lwL i) [] u = Ex M_L_law 60 1472 (lwL i) [] v ∧ Jn v ∧ v.1 = u.1 ∧ v.2.1 = u.2.1 ∧ hg v 0 = hg u 0
abbrev scE (L : Nat) (xs : Nat → Int32) : va_E := .inl (10, L, .inl xs)
theorem aI_s {L k : Nat} {xs : Nat → Int32} (hk : k < L) (hL : L ≤ 3072) : aI (scE L xs) (nI k) = some (xs k) := by
  unfold aI
  dsimp only
  rw [if_pos ⟨Or.inr rfl, by rw [nI_t (by omega)]; omega, by rw [nI_t (by omega)]; omega⟩, nI_c (by omega)]
theorem lawA {L i : Nat} {xs : Nat → Int32} (hi : i + 6 ≤ L) (hL : L ≤ 3072) : aI (scE L xs) (nI i) = some (xs i) ∧ aI (scE L xs) (nI i + 1) = some (xs (i + 1)) ∧ aI (scE L xs) (nI i + 2) = some (xs (i + 2)) ∧ aI (scE L xs) (nI i + 3) = some (xs (i + 3)) ∧ aI (scE L xs) (nI i + 4) = some (xs (i + 4)) ∧ aI (scE L xs) (nI i + 5) = some (xs (i + 5)) := by
  refine ⟨aI_s (by omega) hL, ?_, ?_, ?_, ?_, ?_⟩
  · rw [show nI i + 1 = nI (i + 1) from nI_add i 1]; exact aI_s (by omega) hL
  · rw [show nI i + 2 = nI (i + 2) from nI_add i 2]; exact aI_s (by omega) hL
  · rw [show nI i + 3 = nI (i + 3) from nI_add i 3]; exact aI_s (by omega) hL
  · rw [show nI i + 4 = nI (i + 4) from nI_add i 4]; exact aI_s (by omega) hL
  · rw [show nI i + 5 = nI (i + 5) from nI_add i 5]; exact aI_s (by omega) hL
theorem Jn.k {u : AH} (h : Jn u) : clK (hg u 32) = 10 ∧ clK (hg u 123) = 11 := by
  obtain ⟨X, I, A, w, hW, hC, hM⟩ := h
  exact ⟨clK_gf hC.f0, by rw [hW]; rfl⟩
theorem law_c0 {u : AH} {L i : Nat} {xs : Nat → Int32} (hJ : Jn u) (h0 : hg u 0 = scE L xs) (hi : i + 6 ≤ L) (hL : L ≤ 3072) : LawS 216 i u := by
  obtain ⟨a0, a1, a2, a3, a4, a5⟩ := lawA (xs := xs) hi hL
  obtain ⟨r, V1, V2, c1, c2, c3, c4, c5, c6, c7, c8⟩ := j_knot (xs (i + 1)) (xs (i + 2)) (xs (i + 3)) u hJ
  have k1 := hJ.k.1
  have k2 := hJ.k.2
  rw [← c8] at k2
  rw [h0] at c7
  refine ⟨V2, ?_, c3, c4, c5, c6⟩
  simp only [R_L_law_p0, R_L_law_p1, SB, h0, a1, a2, a3, k1, c1, c7, k2, c2, if_true, eq_self]
theorem law_c1 {u : AH} {L i : Nat} {xs : Nat → Int32} (hJ : Jn u) (h0 : hg u 0 = scE L xs) (hi : i + 6 ≤ L) (hL : L ≤ 3072) : LawS 259 i u := by
  obtain ⟨a0, a1, a2, a3, a4, a5⟩ := lawA (xs := xs) hi hL
  obtain ⟨r, V1, V2, c1, c2, c3, c4, c5, c6, c7, c8⟩ := j_ofKnot (xs (i + 1)) (xs (i + 2)) u hJ
  have k1 := hJ.k.1
  have k2 := hJ.k.2
  rw [← c8] at k2
  rw [h0] at c7
  refine ⟨V2, ?_, c3, c4, c5, c6⟩
  simp only [R_L_law_p1, SB, h0, a1, a2, k1, c1, c7, k2, c2, if_true, eq_self]
theorem law_c2 {u : AH} {L i : Nat} {xs : Nat → Int32} (hJ : Jn u) (h0 : hg u 0 = scE L xs) (hi : i + 6 ≤ L) (hL : L ≤ 3072) : LawS 292 i u := by
  obtain ⟨a0, a1, a2, a3, a4, a5⟩ := lawA (xs := xs) hi hL
  obtain ⟨r, V1, V2, c1, c2, c3, c4, c5, c6, c7, c8⟩ := j_weave  u hJ
  have k1 := hJ.k.1
  have k2 := hJ.k.2
  rw [← c8] at k2
  rw [h0] at c7
  refine ⟨V2, ?_, c3, c4, c5, c6⟩
  simp only [R_L_law_p1, SB, k1, c1, k2, c2, if_true, eq_self]
theorem law_c3 {u : AH} {L i : Nat} {xs : Nat → Int32} (hJ : Jn u) (h0 : hg u 0 = scE L xs) (hi : i + 6 ≤ L) (hL : L ≤ 3072) : LawS 305 i u := by
  obtain ⟨a0, a1, a2, a3, a4, a5⟩ := lawA (xs := xs) hi hL
  obtain ⟨r, V1, V2, c1, c2, c3, c4, c5, c6, c7, c8⟩ := j_mend  u hJ
  have k1 := hJ.k.1
  have k2 := hJ.k.2
  rw [← c8] at k2
  rw [h0] at c7
  refine ⟨V2, ?_, c3, c4, c5, c6⟩
  simp only [R_L_law_p1, R_L_law_p2, SB, k1, c1, k2, c2, if_true, eq_self]
theorem law_c4 {u : AH} {L i : Nat} {xs : Nat → Int32} (hJ : Jn u) (h0 : hg u 0 = scE L xs) (hi : i + 6 ≤ L) (hL : L ≤ 3072) : LawS 318 i u := by
  obtain ⟨a0, a1, a2, a3, a4, a5⟩ := lawA (xs := xs) hi hL
  obtain ⟨r, V1, V2, c1, c2, c3, c4, c5, c6, c7, c8⟩ := j_walker (xs (i + 1)) (xs (i + 2)) u hJ
  have k1 := hJ.k.1
  have k2 := hJ.k.2
  rw [← c8] at k2
  rw [h0] at c7
  refine ⟨V2, ?_, c3, c4, c5, c6⟩
  simp only [R_L_law_p2, SB, h0, a1, a2, k1, c1, c7, k2, c2, if_true, eq_self]
theorem law_c5 {u : AH} {L i : Nat} {xs : Nat → Int32} (hJ : Jn u) (h0 : hg u 0 = scE L xs) (hi : i + 6 ≤ L) (hL : L ≤ 3072) : LawS 351 i u := by
  obtain ⟨a0, a1, a2, a3, a4, a5⟩ := lawA (xs := xs) hi hL
  obtain ⟨r, V1, V2, c1, c2, c3, c4, c5, c6, c7, c8⟩ := j_ofWalker (xs (i + 1)) (xs (i + 2)) u hJ
  have k1 := hJ.k.1
  have k2 := hJ.k.2
  rw [← c8] at k2
  rw [h0] at c7
  refine ⟨V2, ?_, c3, c4, c5, c6⟩
  simp only [R_L_law_p2, R_L_law_p3, SB, h0, a1, a2, k1, c1, c7, k2, c2, if_true, eq_self]
theorem law_c6 {u : AH} {L i : Nat} {xs : Nat → Int32} (hJ : Jn u) (h0 : hg u 0 = scE L xs) (hi : i + 6 ≤ L) (hL : L ≤ 3072) : LawS 384 i u := by
  obtain ⟨a0, a1, a2, a3, a4, a5⟩ := lawA (xs := xs) hi hL
  obtain ⟨r, V1, V2, c1, c2, c3, c4, c5, c6, c7, c8⟩ := j_put (xs (i + 1)) (xs (i + 2)) (xs (i + 3)) u hJ
  have k1 := hJ.k.1
  have k2 := hJ.k.2
  rw [← c8] at k2
  rw [h0] at c7
  refine ⟨V2, ?_, c3, c4, c5, c6⟩
  simp only [R_L_law_p3, SB, h0, a1, a2, a3, k1, c1, c7, k2, c2, if_true, eq_self]
theorem law_c7 {u : AH} {L i : Nat} {xs : Nat → Int32} (hJ : Jn u) (h0 : hg u 0 = scE L xs) (hi : i + 6 ≤ L) (hL : L ≤ 3072) : LawS 427 i u := by
  obtain ⟨a0, a1, a2, a3, a4, a5⟩ := lawA (xs := xs) hi hL
  obtain ⟨r, V1, V2, c1, c2, c3, c4, c5, c6, c7, c8⟩ := j_become (xs (i + 1)) (xs (i + 2)) u hJ
  have k1 := hJ.k.1
  have k2 := hJ.k.2
  rw [← c8] at k2
  rw [h0] at c7
  refine ⟨V2, ?_, c3, c4, c5, c6⟩
  simp only [R_L_law_p3, R_L_law_p4, SB, h0, a1, a2, k1, c1, c7, k2, c2, if_true, eq_self]
theorem law_c8 {u : AH} {L i : Nat} {xs : Nat → Int32} (hJ : Jn u) (h0 : hg u 0 = scE L xs) (hi : i + 6 ≤ L) (hL : L ≤ 3072) : LawS 460 i u := by
  obtain ⟨a0, a1, a2, a3, a4, a5⟩ := lawA (xs := xs) hi hL
  obtain ⟨r, V1, V2, c1, c2, c3, c4, c5, c6, c7, c8⟩ := j_as (xs (i + 1)) (xs (i + 2)) u hJ
  have k1 := hJ.k.1
  have k2 := hJ.k.2
  rw [← c8] at k2
  rw [h0] at c7
  refine ⟨V2, ?_, c3, c4, c5, c6⟩
  simp only [R_L_law_p4, SB, h0, a1, a2, k1, c1, c7, k2, c2, if_true, eq_self]
theorem law_c9 {u : AH} {L i : Nat} {xs : Nat → Int32} (hJ : Jn u) (h0 : hg u 0 = scE L xs) (hi : i + 6 ≤ L) (hL : L ≤ 3072) : LawS 493 i u := by
  obtain ⟨a0, a1, a2, a3, a4, a5⟩ := lawA (xs := xs) hi hL
  obtain ⟨r, V1, V2, c1, c2, c3, c4, c5, c6, c7, c8⟩ := j_feed ((xs (i + 1)).toInt64 <<< (Int32.toInt64 32 &&& 63) ||| (xs (i + 2)).toInt64 &&& 4294967295) (xs (i + 3)) u hJ
  have k1 := hJ.k.1
  have k2 := hJ.k.2
  rw [← c8] at k2
  rw [h0] at c7
  refine ⟨V2, ?_, c3, c4, c5, c6⟩
  simp only [R_L_law_p4, R_L_law_p5, SB, h0, a1, a2, a3, k1, c1, c7, k2, c2, if_true, eq_self]
theorem law_c10 {u : AH} {L i : Nat} {xs : Nat → Int32} (hJ : Jn u) (h0 : hg u 0 = scE L xs) (hi : i + 6 ≤ L) (hL : L ≤ 3072) : LawS 556 i u := by
  obtain ⟨a0, a1, a2, a3, a4, a5⟩ := lawA (xs := xs) hi hL
  obtain ⟨r, V1, V2, c1, c2, c3, c4, c5, c6, c7, c8⟩ := j_text (xs (i + 1)) u hJ
  have k1 := hJ.k.1
  have k2 := hJ.k.2
  rw [← c8] at k2
  rw [h0] at c7
  refine ⟨V2, ?_, c3, c4, c5, c6⟩
  simp only [R_L_law_p5, R_L_law_p6, SB, h0, a1, k1, c1, c7, k2, c2, if_true, eq_self]
theorem law_c11 {u : AH} {L i : Nat} {xs : Nat → Int32} (hJ : Jn u) (h0 : hg u 0 = scE L xs) (hi : i + 6 ≤ L) (hL : L ≤ 3072) : LawS 579 i u := by
  obtain ⟨a0, a1, a2, a3, a4, a5⟩ := lawA (xs := xs) hi hL
  obtain ⟨r, V1, V2, c1, c2, c3, c4, c5, c6, c7, c8⟩ := j_law (xs (i + 1)) (xs (i + 2)) (xs (i + 3)) (xs (i + 4)) u hJ
  have k1 := hJ.k.1
  have k2 := hJ.k.2
  rw [← c8] at k2
  rw [h0] at c7
  refine ⟨V2, ?_, c3, c4, c5, c6⟩
  simp only [R_L_law_p6, R_L_law_p7, SB, h0, a1, a2, a3, a4, k1, c1, c7, k2, c2, if_true, eq_self]
theorem law_c12 {u : AH} {L i : Nat} {xs : Nat → Int32} (hJ : Jn u) (h0 : hg u 0 = scE L xs) (hi : i + 6 ≤ L) (hL : L ≤ 3072) : LawS 632 i u := by
  obtain ⟨a0, a1, a2, a3, a4, a5⟩ := lawA (xs := xs) hi hL
  obtain ⟨r, V1, V2, c1, c2, c3, c4, c5, c6, c7, c8⟩ := j_days (xs (i + 1)) u hJ
  have k1 := hJ.k.1
  have k2 := hJ.k.2
  rw [← c8] at k2
  rw [h0] at c7
  refine ⟨V2, ?_, c3, c4, c5, c6⟩
  simp only [R_L_law_p7, SB, h0, a1, k1, c1, c7, k2, c2, if_true, eq_self]
theorem law_c13 {u : AH} {L i : Nat} {xs : Nat → Int32} (hJ : Jn u) (h0 : hg u 0 = scE L xs) (hi : i + 6 ≤ L) (hL : L ≤ 3072) : LawS 655 i u := by
  obtain ⟨a0, a1, a2, a3, a4, a5⟩ := lawA (xs := xs) hi hL
  obtain ⟨r, V1, V2, c1, c2, c3, c4, c5, c6, c7, c8⟩ := j_loose (xs (i + 1)) u hJ
  have k1 := hJ.k.1
  have k2 := hJ.k.2
  rw [← c8] at k2
  rw [h0] at c7
  refine ⟨V2, ?_, c3, c4, c5, c6⟩
  simp only [R_L_law_p7, SB, h0, a1, k1, c1, c7, k2, c2, if_true, eq_self]
theorem law_c14 {u : AH} {L i : Nat} {xs : Nat → Int32} (hJ : Jn u) (h0 : hg u 0 = scE L xs) (hi : i + 6 ≤ L) (hL : L ≤ 3072) : LawS 678 i u := by
  obtain ⟨a0, a1, a2, a3, a4, a5⟩ := lawA (xs := xs) hi hL
  obtain ⟨r, V1, V2, c1, c2, c3, c4, c5, c6, c7, c8⟩ := j_lands (xs (i + 1)) u hJ
  have k1 := hJ.k.1
  have k2 := hJ.k.2
  rw [← c8] at k2
  rw [h0] at c7
  refine ⟨V2, ?_, c3, c4, c5, c6⟩
  simp only [R_L_law_p7, R_L_law_p8, SB, h0, a1, k1, c1, c7, k2, c2, if_true, eq_self]
theorem law_c15 {u : AH} {L i : Nat} {xs : Nat → Int32} (hJ : Jn u) (h0 : hg u 0 = scE L xs) (hi : i + 6 ≤ L) (hL : L ≤ 3072) : LawS 701 i u := by
  obtain ⟨a0, a1, a2, a3, a4, a5⟩ := lawA (xs := xs) hi hL
  obtain ⟨r, V1, V2, c1, c2, c3, c4, c5, c6, c7, c8⟩ := j_greatest (xs (i + 1)) u hJ
  have k1 := hJ.k.1
  have k2 := hJ.k.2
  rw [← c8] at k2
  rw [h0] at c7
  refine ⟨V2, ?_, c3, c4, c5, c6⟩
  simp only [R_L_law_p8, SB, h0, a1, k1, c1, c7, k2, c2, if_true, eq_self]
theorem law_c16 {u : AH} {L i : Nat} {xs : Nat → Int32} (hJ : Jn u) (h0 : hg u 0 = scE L xs) (hi : i + 6 ≤ L) (hL : L ≤ 3072) : LawS 724 i u := by
  obtain ⟨a0, a1, a2, a3, a4, a5⟩ := lawA (xs := xs) hi hL
  obtain ⟨r, V1, V2, c1, c2, c3, c4, c5, c6, c7, c8⟩ := j_nextTo (xs (i + 1)) u hJ
  have k1 := hJ.k.1
  have k2 := hJ.k.2
  rw [← c8] at k2
  rw [h0] at c7
  refine ⟨V2, ?_, c3, c4, c5, c6⟩
  simp only [R_L_law_p8, SB, h0, a1, k1, c1, c7, k2, c2, if_true, eq_self]
theorem law_c17 {u : AH} {L i : Nat} {xs : Nat → Int32} (hJ : Jn u) (h0 : hg u 0 = scE L xs) (hi : i + 6 ≤ L) (hL : L ≤ 3072) : LawS 747 i u := by
  obtain ⟨a0, a1, a2, a3, a4, a5⟩ := lawA (xs := xs) hi hL
  obtain ⟨r, V1, V2, c1, c2, c3, c4, c5, c6, c7, c8⟩ := j_frontier (xs (i + 1)) (xs (i + 2)) u hJ
  have k1 := hJ.k.1
  have k2 := hJ.k.2
  rw [← c8] at k2
  rw [h0] at c7
  refine ⟨V2, ?_, c3, c4, c5, c6⟩
  simp only [R_L_law_p9, SB, h0, a1, a2, k1, c1, c7, k2, c2, if_true, eq_self]
theorem law_c18 {u : AH} {L i : Nat} {xs : Nat → Int32} (hJ : Jn u) (h0 : hg u 0 = scE L xs) (hi : i + 6 ≤ L) (hL : L ≤ 3072) : LawS 780 i u := by
  obtain ⟨a0, a1, a2, a3, a4, a5⟩ := lawA (xs := xs) hi hL
  obtain ⟨r, V1, V2, c1, c2, c3, c4, c5, c6, c7, c8⟩ := j_slips  u hJ
  have k1 := hJ.k.1
  have k2 := hJ.k.2
  rw [← c8] at k2
  rw [h0] at c7
  refine ⟨V2, ?_, c3, c4, c5, c6⟩
  simp only [R_L_law_p9, SB, k1, c1, k2, c2, if_true, eq_self]
theorem law_c19 {u : AH} {L i : Nat} {xs : Nat → Int32} (hJ : Jn u) (h0 : hg u 0 = scE L xs) (hi : i + 6 ≤ L) (hL : L ≤ 3072) : LawS 793 i u := by
  obtain ⟨a0, a1, a2, a3, a4, a5⟩ := lawA (xs := xs) hi hL
  obtain ⟨r, V1, V2, c1, c2, c3, c4, c5, c6, c7, c8⟩ := j_mends (xs (i + 1)) u hJ
  have k1 := hJ.k.1
  have k2 := hJ.k.2
  rw [← c8] at k2
  rw [h0] at c7
  refine ⟨V2, ?_, c3, c4, c5, c6⟩
  simp only [R_L_law_p9, R_L_law_p10, SB, h0, a1, k1, c1, c7, k2, c2, if_true, eq_self]
theorem law_c20 {u : AH} {L i : Nat} {xs : Nat → Int32} (hJ : Jn u) (h0 : hg u 0 = scE L xs) (hi : i + 6 ≤ L) (hL : L ≤ 3072) : LawS 816 i u := by
  obtain ⟨a0, a1, a2, a3, a4, a5⟩ := lawA (xs := xs) hi hL
  obtain ⟨r, V1, V2, c1, c2, c3, c4, c5, c6, c7, c8⟩ := j_again (xs (i + 1)) u hJ
  have k1 := hJ.k.1
  have k2 := hJ.k.2
  rw [← c8] at k2
  rw [h0] at c7
  refine ⟨V2, ?_, c3, c4, c5, c6⟩
  simp only [R_L_law_p10, SB, h0, a1, k1, c1, c7, k2, c2, if_true, eq_self]
theorem law_c21 {u : AH} {L i : Nat} {xs : Nat → Int32} (hJ : Jn u) (h0 : hg u 0 = scE L xs) (hi : i + 6 ≤ L) (hL : L ≤ 3072) : LawS 839 i u := by
  obtain ⟨a0, a1, a2, a3, a4, a5⟩ := lawA (xs := xs) hi hL
  obtain ⟨r, V1, V2, c1, c2, c3, c4, c5, c6, c7, c8⟩ := j_stays  u hJ
  have k1 := hJ.k.1
  have k2 := hJ.k.2
  rw [← c8] at k2
  rw [h0] at c7
  refine ⟨V2, ?_, c3, c4, c5, c6⟩
  simp only [R_L_law_p10, SB, k1, c1, k2, c2, if_true, eq_self]
theorem law_c22 {u : AH} {L i : Nat} {xs : Nat → Int32} (hJ : Jn u) (h0 : hg u 0 = scE L xs) (hi : i + 6 ≤ L) (hL : L ≤ 3072) : LawS 852 i u := by
  obtain ⟨a0, a1, a2, a3, a4, a5⟩ := lawA (xs := xs) hi hL
  obtain ⟨r, V1, V2, c1, c2, c3, c4, c5, c6, c7, c8⟩ := j_road (xs (i + 1)) (xs (i + 2)) (xs (i + 3)) u hJ
  have k1 := hJ.k.1
  have k2 := hJ.k.2
  rw [← c8] at k2
  rw [h0] at c7
  refine ⟨V2, ?_, c3, c4, c5, c6⟩
  simp only [R_L_law_p10, R_L_law_p11, SB, h0, a1, a2, a3, k1, c1, c7, k2, c2, if_true, eq_self]
theorem law_c23 {u : AH} {L i : Nat} {xs : Nat → Int32} (hJ : Jn u) (h0 : hg u 0 = scE L xs) (hi : i + 6 ≤ L) (hL : L ≤ 3072) : LawS 895 i u := by
  obtain ⟨a0, a1, a2, a3, a4, a5⟩ := lawA (xs := xs) hi hL
  obtain ⟨r, V1, V2, c1, c2, c3, c4, c5, c6, c7, c8⟩ := j_fits (xs (i + 1)) (xs (i + 2)) (xs (i + 3)) u hJ
  have k1 := hJ.k.1
  have k2 := hJ.k.2
  rw [← c8] at k2
  rw [h0] at c7
  refine ⟨V2, ?_, c3, c4, c5, c6⟩
  simp only [R_L_law_p11, R_L_law_p12, SB, h0, a1, a2, a3, k1, c1, c7, k2, c2, if_true, eq_self]
theorem law_c24 {u : AH} {L i : Nat} {xs : Nat → Int32} (hJ : Jn u) (h0 : hg u 0 = scE L xs) (hi : i + 6 ≤ L) (hL : L ≤ 3072) : LawS 938 i u := by
  obtain ⟨a0, a1, a2, a3, a4, a5⟩ := lawA (xs := xs) hi hL
  obtain ⟨r, V1, V2, c1, c2, c3, c4, c5, c6, c7, c8⟩ := j_layings (xs (i + 1)) (xs (i + 2)) u hJ
  have k1 := hJ.k.1
  have k2 := hJ.k.2
  rw [← c8] at k2
  rw [h0] at c7
  refine ⟨V2, ?_, c3, c4, c5, c6⟩
  simp only [R_L_law_p12, SB, h0, a1, a2, k1, c1, c7, k2, c2, if_true, eq_self]
theorem law_c25 {u : AH} {L i : Nat} {xs : Nat → Int32} (hJ : Jn u) (h0 : hg u 0 = scE L xs) (hi : i + 6 ≤ L) (hL : L ≤ 3072) : LawS 971 i u := by
  obtain ⟨a0, a1, a2, a3, a4, a5⟩ := lawA (xs := xs) hi hL
  obtain ⟨r, V1, V2, c1, c2, c3, c4, c5, c6, c7, c8⟩ := j_cut (xs (i + 1)) u hJ
  have k1 := hJ.k.1
  have k2 := hJ.k.2
  rw [← c8] at k2
  rw [h0] at c7
  refine ⟨V2, ?_, c3, c4, c5, c6⟩
  simp only [R_L_law_p12, SB, h0, a1, k1, c1, c7, k2, c2, if_true, eq_self]
theorem law_c26 {u : AH} {L i : Nat} {xs : Nat → Int32} (hJ : Jn u) (h0 : hg u 0 = scE L xs) (hi : i + 6 ≤ L) (hL : L ≤ 3072) : LawS 994 i u := by
  obtain ⟨a0, a1, a2, a3, a4, a5⟩ := lawA (xs := xs) hi hL
  obtain ⟨r, V1, V2, c1, c2, c3, c4, c5, c6, c7, c8⟩ := j_dyed (xs (i + 1)) (xs (i + 2)) (xs (i + 3)) u hJ
  have k1 := hJ.k.1
  have k2 := hJ.k.2
  rw [← c8] at k2
  rw [h0] at c7
  refine ⟨V2, ?_, c3, c4, c5, c6⟩
  simp only [R_L_law_p12, R_L_law_p13, SB, h0, a1, a2, a3, k1, c1, c7, k2, c2, if_true, eq_self]
theorem law_c27 {u : AH} {L i : Nat} {xs : Nat → Int32} (hJ : Jn u) (h0 : hg u 0 = scE L xs) (hi : i + 6 ≤ L) (hL : L ≤ 3072) : LawS 1037 i u := by
  obtain ⟨a0, a1, a2, a3, a4, a5⟩ := lawA (xs := xs) hi hL
  obtain ⟨r, V1, V2, c1, c2, c3, c4, c5, c6, c7, c8⟩ := j_then (xs (i + 1)) (xs (i + 2)) (xs (i + 3)) u hJ
  have k1 := hJ.k.1
  have k2 := hJ.k.2
  rw [← c8] at k2
  rw [h0] at c7
  refine ⟨V2, ?_, c3, c4, c5, c6⟩
  simp only [R_L_law_p13, R_L_law_p14, SB, h0, a1, a2, a3, k1, c1, c7, k2, c2, if_true, eq_self]
theorem law_c28 {u : AH} {L i : Nat} {xs : Nat → Int32} (hJ : Jn u) (h0 : hg u 0 = scE L xs) (hi : i + 6 ≤ L) (hL : L ≤ 3072) : LawS 1080 i u := by
  obtain ⟨a0, a1, a2, a3, a4, a5⟩ := lawA (xs := xs) hi hL
  obtain ⟨r, V1, V2, c1, c2, c3, c4, c5, c6, c7, c8⟩ := j_seed (xs (i + 1)) u hJ
  have k1 := hJ.k.1
  have k2 := hJ.k.2
  rw [← c8] at k2
  rw [h0] at c7
  refine ⟨V2, ?_, c3, c4, c5, c6⟩
  simp only [R_L_law_p14, SB, h0, a1, k1, c1, c7, k2, c2, if_true, eq_self]
theorem law_c29 {u : AH} {L i : Nat} {xs : Nat → Int32} (hJ : Jn u) (h0 : hg u 0 = scE L xs) (hi : i + 6 ≤ L) (hL : L ≤ 3072) : LawS 1103 i u := by
  obtain ⟨a0, a1, a2, a3, a4, a5⟩ := lawA (xs := xs) hi hL
  obtain ⟨r, V1, V2, c1, c2, c3, c4, c5, c6, c7, c8⟩ := j_voice (xs (i + 1)) (xs (i + 2)) (xs (i + 3)) u hJ
  have k1 := hJ.k.1
  have k2 := hJ.k.2
  rw [← c8] at k2
  rw [h0] at c7
  refine ⟨V2, ?_, c3, c4, c5, c6⟩
  simp only [R_L_law_p14, R_L_law_p15, SB, h0, a1, a2, a3, k1, c1, c7, k2, c2, if_true, eq_self]
theorem law_c30 {u : AH} {L i : Nat} {xs : Nat → Int32} (hJ : Jn u) (h0 : hg u 0 = scE L xs) (hi : i + 6 ≤ L) (hL : L ≤ 3072) : LawS 1146 i u := by
  obtain ⟨a0, a1, a2, a3, a4, a5⟩ := lawA (xs := xs) hi hL
  obtain ⟨r, V1, V2, c1, c2, c3, c4, c5, c6, c7, c8⟩ := j_trace (xs (i + 1)) u hJ
  have k1 := hJ.k.1
  have k2 := hJ.k.2
  rw [← c8] at k2
  rw [h0] at c7
  refine ⟨V2, ?_, c3, c4, c5, c6⟩
  simp only [R_L_law_p15, SB, h0, a1, k1, c1, c7, k2, c2, if_true, eq_self]
theorem law_c31 {u : AH} {L i : Nat} {xs : Nat → Int32} (hJ : Jn u) (h0 : hg u 0 = scE L xs) (hi : i + 6 ≤ L) (hL : L ≤ 3072) : LawS 1169 i u := by
  obtain ⟨a0, a1, a2, a3, a4, a5⟩ := lawA (xs := xs) hi hL
  obtain ⟨r, V1, V2, c1, c2, c3, c4, c5, c6, c7, c8⟩ := j_sheet (xs (i + 1)) (xs (i + 2)) (xs (i + 3)) u hJ
  have k1 := hJ.k.1
  have k2 := hJ.k.2
  rw [← c8] at k2
  rw [h0] at c7
  refine ⟨V2, ?_, c3, c4, c5, c6⟩
  simp only [R_L_law_p15, R_L_law_p16, SB, h0, a1, a2, a3, k1, c1, c7, k2, c2, if_true, eq_self]
theorem law_c32 {u : AH} {L i : Nat} {xs : Nat → Int32} (hJ : Jn u) (h0 : hg u 0 = scE L xs) (hi : i + 6 ≤ L) (hL : L ≤ 3072) : LawS 1212 i u := by
  obtain ⟨a0, a1, a2, a3, a4, a5⟩ := lawA (xs := xs) hi hL
  obtain ⟨r, V1, V2, c1, c2, c3, c4, c5, c6, c7, c8⟩ := j_write (xs (i + 1)) (xs (i + 2)) (xs (i + 3)) u hJ
  have k1 := hJ.k.1
  have k2 := hJ.k.2
  rw [← c8] at k2
  rw [h0] at c7
  refine ⟨V2, ?_, c3, c4, c5, c6⟩
  simp only [R_L_law_p16, R_L_law_p17, SB, h0, a1, a2, a3, k1, c1, c7, k2, c2, if_true, eq_self]
theorem law_c33 {u : AH} {L i : Nat} {xs : Nat → Int32} (hJ : Jn u) (h0 : hg u 0 = scE L xs) (hi : i + 6 ≤ L) (hL : L ≤ 3072) : LawS 1255 i u := by
  obtain ⟨a0, a1, a2, a3, a4, a5⟩ := lawA (xs := xs) hi hL
  obtain ⟨r, V1, V2, c1, c2, c3, c4, c5, c6, c7, c8⟩ := j_move (xs (i + 1)) (xs (i + 2)) (xs (i + 3)) (xs (i + 4)) (xs (i + 5)) u hJ
  have k1 := hJ.k.1
  have k2 := hJ.k.2
  rw [← c8] at k2
  rw [h0] at c7
  refine ⟨V2, ?_, c3, c4, c5, c6⟩
  simp only [R_L_law_p17, R_L_law_p18, SB, h0, a1, a2, a3, a4, a5, k1, c1, c7, k2, c2, if_true, eq_self]
theorem law_c34 {u : AH} {L i : Nat} {xs : Nat → Int32} (hJ : Jn u) (h0 : hg u 0 = scE L xs) (hi : i + 6 ≤ L) (hL : L ≤ 3072) : LawS 1318 i u := by
  obtain ⟨a0, a1, a2, a3, a4, a5⟩ := lawA (xs := xs) hi hL
  obtain ⟨r, V1, V2, c1, c2, c3, c4, c5, c6, c7, c8⟩ := j_colours (xs (i + 1)) u hJ
  have k1 := hJ.k.1
  have k2 := hJ.k.2
  rw [← c8] at k2
  rw [h0] at c7
  refine ⟨V2, ?_, c3, c4, c5, c6⟩
  simp only [R_L_law_p18, SB, h0, a1, k1, c1, c7, k2, c2, if_true, eq_self]
theorem law_c35 {u : AH} {L i : Nat} {xs : Nat → Int32} (hJ : Jn u) (h0 : hg u 0 = scE L xs) (hi : i + 6 ≤ L) (hL : L ≤ 3072) : LawS 1341 i u := by
  obtain ⟨a0, a1, a2, a3, a4, a5⟩ := lawA (xs := xs) hi hL
  obtain ⟨r, V1, V2, c1, c2, c3, c4, c5, c6, c7, c8⟩ := j_judge (xs (i + 1)) u hJ
  have k1 := hJ.k.1
  have k2 := hJ.k.2
  rw [← c8] at k2
  rw [h0] at c7
  refine ⟨V2, ?_, c3, c4, c5, c6⟩
  simp only [R_L_law_p18, R_L_law_p19, SB, h0, a1, k1, c1, c7, k2, c2, if_true, eq_self]
theorem law_c36 {u : AH} {L i : Nat} {xs : Nat → Int32} (hJ : Jn u) (h0 : hg u 0 = scE L xs) (hi : i + 6 ≤ L) (hL : L ≤ 3072) : LawS 1364 i u := by
  obtain ⟨a0, a1, a2, a3, a4, a5⟩ := lawA (xs := xs) hi hL
  obtain ⟨r, V1, V2, c1, c2, c3, c4, c5, c6, c7, c8⟩ := j_image  u hJ
  have k1 := hJ.k.1
  have k2 := hJ.k.2
  rw [← c8] at k2
  rw [h0] at c7
  refine ⟨V2, ?_, c3, c4, c5, c6⟩
  simp only [R_L_law_p19, SB, k1, c1, k2, c2, if_true, eq_self]
theorem law_c37 {u : AH} {L i : Nat} {xs : Nat → Int32} (hJ : Jn u) (h0 : hg u 0 = scE L xs) (hi : i + 6 ≤ L) (hL : L ≤ 3072) : LawS 1377 i u := by
  obtain ⟨a0, a1, a2, a3, a4, a5⟩ := lawA (xs := xs) hi hL
  obtain ⟨r, V1, V2, c1, c2, c3, c4, c5, c6, c7, c8⟩ := j_restore  u hJ
  have k1 := hJ.k.1
  have k2 := hJ.k.2
  rw [← c8] at k2
  rw [h0] at c7
  refine ⟨V2, ?_, c3, c4, c5, c6⟩
  simp only [R_L_law_p19, SB, k1, c1, k2, c2, if_true, eq_self]
theorem law_c38 {u : AH} {L i : Nat} {xs : Nat → Int32} (hJ : Jn u) (h0 : hg u 0 = scE L xs) (hi : i + 6 ≤ L) (hL : L ≤ 3072) : LawS 1390 i u := by
  obtain ⟨a0, a1, a2, a3, a4, a5⟩ := lawA (xs := xs) hi hL
  obtain ⟨r, V1, V2, c1, c2, c3, c4, c5, c6, c7, c8⟩ := j_tell (xs (i + 1)) u hJ
  have k1 := hJ.k.1
  have k2 := hJ.k.2
  rw [← c8] at k2
  rw [h0] at c7
  refine ⟨V2, ?_, c3, c4, c5, c6⟩
  simp only [R_L_law_p19, SB, h0, a1, k1, c1, c7, k2, c2, if_true, eq_self]
theorem law_c39 {u : AH} {L i : Nat} {xs : Nat → Int32} (hJ : Jn u) (h0 : hg u 0 = scE L xs) (hi : i + 6 ≤ L) (hL : L ≤ 3072) : LawS 1413 i u := by
  obtain ⟨a0, a1, a2, a3, a4, a5⟩ := lawA (xs := xs) hi hL
  obtain ⟨r, V1, V2, c1, c2, c3, c4, c5, c6, c7, c8⟩ := j_check  u hJ
  have k1 := hJ.k.1
  have k2 := hJ.k.2
  rw [← c8] at k2
  rw [h0] at c7
  refine ⟨V2, ?_, c3, c4, c5, c6⟩
  simp only [R_L_law_p19, R_L_law_p20, SB, k1, c1, k2, c2, if_true, eq_self]
theorem law_c40 {u : AH} {L i : Nat} {xs : Nat → Int32} (hJ : Jn u) (h0 : hg u 0 = scE L xs) (hi : i + 6 ≤ L) (hL : L ≤ 3072) : LawS 1426 i u := by
  obtain ⟨a0, a1, a2, a3, a4, a5⟩ := lawA (xs := xs) hi hL
  obtain ⟨r, V1, V2, c1, c2, c3, c4, c5, c6, c7, c8⟩ := j_count (xs (i + 1)) u hJ
  have k1 := hJ.k.1
  have k2 := hJ.k.2
  rw [← c8] at k2
  rw [h0] at c7
  refine ⟨V2, ?_, c3, c4, c5, c6⟩
  simp only [R_L_law_p20, SB, h0, a1, k1, c1, c7, k2, c2, if_true, eq_self]
theorem law_c41 {u : AH} {L i : Nat} {xs : Nat → Int32} (hJ : Jn u) (h0 : hg u 0 = scE L xs) (hi : i + 6 ≤ L) (hL : L ≤ 3072) : LawS 1449 i u := by
  obtain ⟨a0, a1, a2, a3, a4, a5⟩ := lawA (xs := xs) hi hL
  obtain ⟨r, V1, V2, c1, c2, c3, c4, c5, c6, c7, c8⟩ := j_told (xs (i + 1)) u hJ
  have k1 := hJ.k.1
  have k2 := hJ.k.2
  rw [← c8] at k2
  rw [h0] at c7
  refine ⟨V2, ?_, c3, c4, c5, c6⟩
  simp only [R_L_law_p20, SB, h0, a1, k1, c1, c7, k2, c2, if_true, eq_self]
