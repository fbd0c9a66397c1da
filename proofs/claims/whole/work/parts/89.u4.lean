/-! ===== the law: its loop ===== -/
theorem law33 (lv : Nat) (l : LX) (st : List Value) (x : Int32) (w : AH) : Ex M_L_law lv 33 l (.int x :: st) w = if x = 0 then Ex M_L_law lv 216 l st w else if x = 1 then Ex M_L_law lv 259 l st w else if x = 2 then Ex M_L_law lv 292 l st w else if x = 3 then Ex M_L_law lv 305 l st w else if x = 4 then Ex M_L_law lv 318 l st w else if x = 5 then Ex M_L_law lv 351 l st w else if x = 6 then Ex M_L_law lv 384 l st w else if x = 7 then Ex M_L_law lv 427 l st w else if x = 8 then Ex M_L_law lv 460 l st w else if x = 9 then Ex M_L_law lv 493 l st w else if x = 10 then Ex M_L_law lv 556 l st w else if x = 11 then Ex M_L_law lv 579 l st w else if x = 12 then Ex M_L_law lv 632 l st w else if x = 13 then Ex M_L_law lv 655 l st w else if x = 14 then Ex M_L_law lv 678 l st w else if x = 15 then Ex M_L_law lv 701 l st w else if x = 16 then Ex M_L_law lv 724 l st w else if x = 17 then Ex M_L_law lv 747 l st w else if x = 18 then Ex M_L_law lv 780 l st w else if x = 19 then Ex M_L_law lv 793 l st w else if x = 20 then Ex M_L_law lv 816 l st w else if x = 21 then Ex M_L_law lv 839 l st w else if x = 22 then Ex M_L_law lv 852 l st w else if x = 23 then Ex M_L_law lv 895 l st w else if x = 24 then Ex M_L_law lv 938 l st w else if x = 25 then Ex M_L_law lv 971 l st w else if x = 26 then Ex M_L_law lv 994 l st w else if x = 27 then Ex M_L_law lv 1037 l st w else if x = 28 then Ex M_L_law lv 1080 l st w else if x = 29 then Ex M_L_law lv 1103 l st w else if x = 30 then Ex M_L_law lv 1146 l st w else if x = 31 then Ex M_L_law lv 1169 l st w else if x = 32 then Ex M_L_law lv 1212 l st w else if x = 33 then Ex M_L_law lv 1255 l st w else if x = 34 then Ex M_L_law lv 1318 l st w else if x = 35 then Ex M_L_law lv 1341 l st w else if x = 36 then Ex M_L_law lv 1364 l st w else if x = 37 then Ex M_L_law lv 1377 l st w else if x = 38 then Ex M_L_law lv 1390 l st w else if x = 39 then Ex M_L_law lv 1413 l st w else if x = 40 then Ex M_L_law lv 1426 l st w else if x = 41 then Ex M_L_law lv 1449 l st w else Ex M_L_law lv 1472 l st w := by
  have h := R_L_law_p0
  repeat (first | exact h.1 lv l st x w | replace h := h.2)
theorem law_sw {u : AH} {L i : Nat} {xs : Nat → Int32} (hJ : Jn u) (h0 : hg u 0 = scE L xs) (hi : i + 6 ≤ L) (hL : L ≤ 3072) (x : Int32) : ∃ v, Ex M_L_law 60 33 (lwL i) [.int x] u = Ex M_L_law 60 1472 (lwL i) [] v ∧ Jn v ∧ v.1 = u.1 ∧ v.2.1 = u.2.1 ∧ hg v 0 = hg u 0 := by
  rw [law33]
  by_cases z : x = 0
  · rw [if_pos z]; exact law_c0 hJ h0 hi hL
  rw [if_neg z]; clear z
  by_cases z : x = 1
  · rw [if_pos z]; exact law_c1 hJ h0 hi hL
  rw [if_neg z]; clear z
  by_cases z : x = 2
  · rw [if_pos z]; exact law_c2 hJ h0 hi hL
  rw [if_neg z]; clear z
  by_cases z : x = 3
  · rw [if_pos z]; exact law_c3 hJ h0 hi hL
  rw [if_neg z]; clear z
  by_cases z : x = 4
  · rw [if_pos z]; exact law_c4 hJ h0 hi hL
  rw [if_neg z]; clear z
  by_cases z : x = 5
  · rw [if_pos z]; exact law_c5 hJ h0 hi hL
  rw [if_neg z]; clear z
  by_cases z : x = 6
  · rw [if_pos z]; exact law_c6 hJ h0 hi hL
  rw [if_neg z]; clear z
  by_cases z : x = 7
  · rw [if_pos z]; exact law_c7 hJ h0 hi hL
  rw [if_neg z]; clear z
  by_cases z : x = 8
  · rw [if_pos z]; exact law_c8 hJ h0 hi hL
  rw [if_neg z]; clear z
  by_cases z : x = 9
  · rw [if_pos z]; exact law_c9 hJ h0 hi hL
  rw [if_neg z]; clear z
  by_cases z : x = 10
  · rw [if_pos z]; exact law_c10 hJ h0 hi hL
  rw [if_neg z]; clear z
  by_cases z : x = 11
  · rw [if_pos z]; exact law_c11 hJ h0 hi hL
  rw [if_neg z]; clear z
  by_cases z : x = 12
  · rw [if_pos z]; exact law_c12 hJ h0 hi hL
  rw [if_neg z]; clear z
  by_cases z : x = 13
  · rw [if_pos z]; exact law_c13 hJ h0 hi hL
  rw [if_neg z]; clear z
  by_cases z : x = 14
  · rw [if_pos z]; exact law_c14 hJ h0 hi hL
  rw [if_neg z]; clear z
  by_cases z : x = 15
  · rw [if_pos z]; exact law_c15 hJ h0 hi hL
  rw [if_neg z]; clear z
  by_cases z : x = 16
  · rw [if_pos z]; exact law_c16 hJ h0 hi hL
  rw [if_neg z]; clear z
  by_cases z : x = 17
  · rw [if_pos z]; exact law_c17 hJ h0 hi hL
  rw [if_neg z]; clear z
  by_cases z : x = 18
  · rw [if_pos z]; exact law_c18 hJ h0 hi hL
  rw [if_neg z]; clear z
  by_cases z : x = 19
  · rw [if_pos z]; exact law_c19 hJ h0 hi hL
  rw [if_neg z]; clear z
  by_cases z : x = 20
  · rw [if_pos z]; exact law_c20 hJ h0 hi hL
  rw [if_neg z]; clear z
  by_cases z : x = 21
  · rw [if_pos z]; exact law_c21 hJ h0 hi hL
  rw [if_neg z]; clear z
  by_cases z : x = 22
  · rw [if_pos z]; exact law_c22 hJ h0 hi hL
  rw [if_neg z]; clear z
  by_cases z : x = 23
  · rw [if_pos z]; exact law_c23 hJ h0 hi hL
  rw [if_neg z]; clear z
  by_cases z : x = 24
  · rw [if_pos z]; exact law_c24 hJ h0 hi hL
  rw [if_neg z]; clear z
  by_cases z : x = 25
  · rw [if_pos z]; exact law_c25 hJ h0 hi hL
  rw [if_neg z]; clear z
  by_cases z : x = 26
  · rw [if_pos z]; exact law_c26 hJ h0 hi hL
  rw [if_neg z]; clear z
  by_cases z : x = 27
  · rw [if_pos z]; exact law_c27 hJ h0 hi hL
  rw [if_neg z]; clear z
  by_cases z : x = 28
  · rw [if_pos z]; exact law_c28 hJ h0 hi hL
  rw [if_neg z]; clear z
  by_cases z : x = 29
  · rw [if_pos z]; exact law_c29 hJ h0 hi hL
  rw [if_neg z]; clear z
  by_cases z : x = 30
  · rw [if_pos z]; exact law_c30 hJ h0 hi hL
  rw [if_neg z]; clear z
  by_cases z : x = 31
  · rw [if_pos z]; exact law_c31 hJ h0 hi hL
  rw [if_neg z]; clear z
  by_cases z : x = 32
  · rw [if_pos z]; exact law_c32 hJ h0 hi hL
  rw [if_neg z]; clear z
  by_cases z : x = 33
  · rw [if_pos z]; exact law_c33 hJ h0 hi hL
  rw [if_neg z]; clear z
  by_cases z : x = 34
  · rw [if_pos z]; exact law_c34 hJ h0 hi hL
  rw [if_neg z]; clear z
  by_cases z : x = 35
  · rw [if_pos z]; exact law_c35 hJ h0 hi hL
  rw [if_neg z]; clear z
  by_cases z : x = 36
  · rw [if_pos z]; exact law_c36 hJ h0 hi hL
  rw [if_neg z]; clear z
  by_cases z : x = 37
  · rw [if_pos z]; exact law_c37 hJ h0 hi hL
  rw [if_neg z]; clear z
  by_cases z : x = 38
  · rw [if_pos z]; exact law_c38 hJ h0 hi hL
  rw [if_neg z]; clear z
  by_cases z : x = 39
  · rw [if_pos z]; exact law_c39 hJ h0 hi hL
  rw [if_neg z]; clear z
  by_cases z : x = 40
  · rw [if_pos z]; exact law_c40 hJ h0 hi hL
  rw [if_neg z]; clear z
  by_cases z : x = 41
  · rw [if_pos z]; exact law_c41 hJ h0 hi hL
  rw [if_neg z]; clear z
  exact ⟨u, rfl, hJ, rfl, rfl, rfl⟩
theorem law_t {L k : Nat} (hL : L ≤ 3072) (hk : k ≤ 3072) : (nI L - 6 < nI k) = (L < k + 6) := by
  have e : (nI L - 6).toInt = (L : Int) - 6 := by
    rw [Int32.toInt_sub, nI_t (by omega), show (6 : Int32).toInt = 6 from rfl]
    simp only [Int.bmod]
    omega
  rw [lt_t, e, nI_t (by omega)]
  apply propext; omega
theorem C_L_law (w : AH) : Call M_L_law 60 [.ref 0] w = Ex M_L_law 60 0 [some (.ref 0), none, none, none] [] w := Call_pad (n := 3) rfl
theorem aL_s (L : Nat) (xs : Nat → Int32) : aL (scE L xs) = some (nI L) := rfl
theorem law_loop {u : AH} {L : Nat} {xs : Nat → Int32} (hJ : Jn u) (h0 : hg u 0 = scE L xs) (hL : L ≤ 3072) : ∃ v, Ex M_L_law 60 18 (lwL 0) [] u = some (some (.int 1), v) ∧ v.1 = u.1 ∧ v.2.1 = u.2.1 := by
  obtain ⟨v, l1, l2, l3, l4, l5⟩ := loopE (fun k (v : AH) => Ex M_L_law 60 18 (lwL (6 * k)) [] v) (fun _ v => Jn v ∧ v.1 = u.1 ∧ v.2.1 = u.2.1 ∧ hg v 0 = hg u 0) (L / 6) (by
    intro k v hk ⟨i1, i2, i3, i4⟩
    have hv : hg v 0 = scE L xs := i4.trans h0
    have hi : 6 * k + 6 ≤ L := by omega
    have e1 : (nI L - 6 < nI (6 * k)) = False := by rw [law_t hL (by omega)]; apply eq_false; omega
    obtain ⟨y, s1, s2, s3, s4, s5⟩ := law_sw i1 hv hi hL (xs (6 * k) &&& 63)
    have a0 := (lawA (xs := xs) hi hL).1
    refine ⟨y, ?_, s2, s3.trans i2, s4.trans i3, s5.trans i4⟩
    have e2 : Ex M_L_law 60 18 (lwL (6 * k)) [] v = Ex M_L_law 60 33 (lwL (6 * k)) [.int (xs (6 * k) &&& 63)] v := by
      rw [H_L_law_18]
      simp only [R_L_law_p0, SB, hv, aL_s, e1, a0, if_false, if_true]
    have e3 : Ex M_L_law 60 1472 (lwL (6 * k)) [] y = Ex M_L_law 60 18 (lwL (6 * (k + 1))) [] y := by
      have : nI (6 * k) + 6 = nI (6 * (k + 1)) := nI_add (6 * k) 6
      simp only [R_L_law_p20, SB, this, ls1s]
    rw [e2, s1, e3]) u ⟨hJ, rfl, rfl, rfl⟩
  refine ⟨v, ?_, l3, l4⟩
  refine (show _ = _ from rfl).trans (l1.trans ?_)
  have e1 : (nI L - 6 < nI (6 * (L / 6))) = True := by rw [law_t hL (by omega)]; apply eq_true; omega
  rw [H_L_law_18]
  simp only [R_L_law_p0, R_L_law_p20, SB, l5, h0, aL_s, e1, if_true, show ((1 : Int32) = 0) = False from by decide, show ((1 : Int32) = 1) = True from by decide, or_true]
