/-! ===== voices: the class, act by act ===== -/
theorem sb10 {n m kd k act : Nat} (hd7 : kd < 7) (hk : k < 7) (ha : act < 4) (hb : bofN k act = 10) (lv : Nat) : SayS n m kd k act (lv) 20 (fun x t => (x + nI n, tA t 10)) := by
  intro w x t dp hd h
  obtain ⟨w0, q0, f0, u3⟩ := say_pre (dp := dp) h hk ha (by omega) x
  rw [hb] at q0
  refine ⟨w0, ?_, q0, f0⟩
  rw [u3, hb]
  simp only [R_X9_say_p0, R_X9_say_p1, R_X9_say_p2, SB, show (nI 10 = (10 : Int32)) = True from by decide, q0.p1, q0.p2, q0.p3, clK_gf q0.p0, if_true, if_false, ls1s]
theorem sb12 {n m kd k act : Nat} (hd7 : kd < 7) (hk : k < 7) (ha : act < 4) (hb : bofN k act = 12) (lv : Nat) : SayS n m kd k act (lv) 20 (fun x t => (x - nI m, tA t 12)) := by
  intro w x t dp hd h
  obtain ⟨w0, q0, f0, u3⟩ := say_pre (dp := dp) h hk ha (by omega) x
  rw [hb] at q0
  refine ⟨w0, ?_, q0, f0⟩
  rw [u3, hb]
  simp only [R_X9_say_p0, R_X9_say_p1, R_X9_say_p2, SB, show (nI 12 = (10 : Int32)) = False from by decide, show (nI 12 = (11 : Int32)) = False from by decide, show (nI 12 = (12 : Int32)) = True from by decide, q0.p1, q0.p2, q0.p3, clK_gf q0.p0, if_true, if_false, ls1s]
theorem sb20 {n m kd k act : Nat} (hd7 : kd < 7) (hk : k < 7) (ha : act < 4) (hb : bofN k act = 20) (lv : Nat) : SayS n m kd k act (lv + 1) 19 (fun x t => ((x + nI n) * 3, tA (tA t 20) 10)) := by
  intro w x t dp hd h
  obtain ⟨w0, q0, f0, u3⟩ := say_pre (dp := dp) h hk ha (by omega) x
  rw [hb] at q0
  obtain ⟨w1, c1, q1, f1⟩ := sb10 (k := 0) (act := 0) hd7 (by decide) (by decide) (by decide) lv w0 (x) _ (dp + 1) (by omega) q0
  have c1 : Call M_X9_say (lv) [.ref 102, .int 0, .int 0, .int (x), .int (nI (dp + 1))] w0 = _ := c1
  refine ⟨w1, ?_, q1, (f0).trans f1⟩
  rw [u3, hb]
  simp only [R_X9_say_p0, R_X9_say_p1, R_X9_say_p2, SB, show (nI 20 = (10 : Int32)) = False from by decide, show (nI 20 = (11 : Int32)) = False from by decide, show (nI 20 = (12 : Int32)) = False from by decide, show (nI 20 = (13 : Int32)) = False from by decide, show (nI 20 = (20 : Int32)) = True from by decide, q0.p1, q0.p2, q0.p3, clK_gf q0.p0, q1.p1, q1.p2, q1.p3, clK_gf q1.p0, c1, if_true, if_false, ls1s]
  try rfl
theorem sb40 {n m kd k act : Nat} (hd7 : kd < 7) (hk : k < 7) (ha : act < 4) (hb : bofN k act = 40) (lv : Nat) : SayS n m kd k act (lv + 1) 19 (fun x t => (-(x - nI m), tA (tA t 40) 12)) := by
  intro w x t dp hd h
  obtain ⟨w0, q0, f0, u3⟩ := say_pre (dp := dp) h hk ha (by omega) x
  rw [hb] at q0
  obtain ⟨w1, c1, q1, f1⟩ := sb12 (k := 0) (act := 2) hd7 (by decide) (by decide) (by decide) lv w0 (x) _ (dp + 1) (by omega) q0
  have c1 : Call M_X9_say (lv) [.ref 102, .int 0, .int 2, .int (x), .int (nI (dp + 1))] w0 = _ := c1
  refine ⟨w1, ?_, q1, (f0).trans f1⟩
  rw [u3, hb]
  simp only [R_X9_say_p0, R_X9_say_p1, R_X9_say_p2, SB, show (nI 40 = (10 : Int32)) = False from by decide, show (nI 40 = (11 : Int32)) = False from by decide, show (nI 40 = (12 : Int32)) = False from by decide, show (nI 40 = (13 : Int32)) = False from by decide, show (nI 40 = (20 : Int32)) = False from by decide, show (nI 40 = (30 : Int32)) = False from by decide, show (nI 40 = (40 : Int32)) = True from by decide, q0.p1, q0.p2, q0.p3, clK_gf q0.p0, q1.p1, q1.p2, q1.p3, clK_gf q1.p0, c1, if_true, if_false, ls1s]
  try rfl
theorem sb70 {n m kd k act : Nat} (hd7 : kd < 7) (hk : k < 7) (ha : act < 4) (hb : bofN k act = 70) (lv : Nat) : SayS n m kd k act (lv + 2) 18 (fun x t => (-(x - nI m) ^^^ nI n, tA (tA (tA t 70) 40) 12)) := by
  intro w x t dp hd h
  obtain ⟨w0, q0, f0, u3⟩ := say_pre (dp := dp) h hk ha (by omega) x
  rw [hb] at q0
  obtain ⟨w1, c1, q1, f1⟩ := sb40 (k := 3) (act := 2) hd7 (by decide) (by decide) (by decide) lv w0 (x) _ (dp + 1) (by omega) q0
  have c1 : Call M_X9_say (lv + 1) [.ref 102, .int 3, .int 2, .int (x), .int (nI (dp + 1))] w0 = _ := c1
  refine ⟨w1, ?_, q1, (f0).trans f1⟩
  rw [u3, hb]
  simp only [R_X9_say_p0, R_X9_say_p1, R_X9_say_p2, SB, show (nI 70 = (10 : Int32)) = False from by decide, show (nI 70 = (11 : Int32)) = False from by decide, show (nI 70 = (12 : Int32)) = False from by decide, show (nI 70 = (13 : Int32)) = False from by decide, show (nI 70 = (20 : Int32)) = False from by decide, show (nI 70 = (30 : Int32)) = False from by decide, show (nI 70 = (40 : Int32)) = False from by decide, show (nI 70 = (50 : Int32)) = False from by decide, show (nI 70 = (60 : Int32)) = False from by decide, show (nI 70 = (70 : Int32)) = True from by decide, q0.p1, q0.p2, q0.p3, clK_gf q0.p0, q1.p1, q1.p2, q1.p3, clK_gf q1.p0, c1, if_true, if_false, ls1s]
  try rfl
theorem sv_walks {n m kd k : Nat} (hd7 : kd < 7) (hk : k < 7) (lv : Nat) : SayS n m kd k 0 (lv + 1) 19 (wkV n k) := by
  have e := (by decide : ∀ k, k < 7 → bofN k 0 = if k = 1 ∨ k = 4 then 20 else 10) k hk
  have w : wkV n k = if k = 1 ∨ k = 4 then (fun x t => ((x + nI n) * 3, tA (tA t 20) 10)) else (fun x t => (x + nI n, tA t 10)) := by
    funext x t; unfold wkV; split <;> rfl
  rw [w]
  by_cases q : k = 1 ∨ k = 4
  · rw [if_pos q] at e ⊢
    exact sb20 hd7 hk (by decide) e lv
  · rw [if_neg q] at e ⊢
    exact fun w x t dp h => sb10 hd7 hk (by decide) e (lv + 1) w x t dp (by omega)
theorem sv_eats {n m kd k : Nat} (hd7 : kd < 7) (hk : k < 7) (lv : Nat) : SayS n m kd k 2 (lv + 2) 18 (eaV n m k) := by
  have e := (by decide : ∀ k, k < 7 → bofN k 2 = if k = 3 then 40 else if k = 6 then 70 else 12) k hk
  have w : eaV n m k = if k = 3 then (fun x t => (-(x - nI m), tA (tA t 40) 12)) else if k = 6 then (fun x t => (-(x - nI m) ^^^ nI n, tA (tA (tA t 70) 40) 12)) else (fun x t => (x - nI m, tA t 12)) := by
    funext x t; unfold eaV; split
    · rfl
    · split <;> rfl
  rw [w]
  by_cases q : k = 3
  · rw [if_pos q] at e ⊢
    exact fun w x t dp h => sb40 hd7 hk (by decide) e (lv + 1) w x t dp (by omega)
  · rw [if_neg q] at e ⊢
    by_cases q2 : k = 6
    · rw [if_pos q2] at e ⊢
      exact sb70 hd7 hk (by decide) e lv
    · rw [if_neg q2] at e ⊢
      exact fun w x t dp h => sb12 hd7 hk (by decide) e (lv + 2) w x t dp (by omega)
theorem sb11 {n m kd k act : Nat} (hd7 : kd < 7) (hk : k < 7) (ha : act < 4) (hb : bofN k act = 11) (lv : Nat) : SayS n m kd k act (lv + 2) 18 (we0 n kd) := by
  intro w x t dp hd h
  obtain ⟨w0, q0, f0, u3⟩ := say_pre (dp := dp) h hk ha (by omega) x
  rw [hb] at q0
  obtain ⟨w1, c1, q1, f1⟩ := sv_walks (k := kd) hd7 hd7 lv w0 (x) _ (dp + 1) (by omega) q0
  have c1 : Call M_X9_say (lv + 1) [.ref 102, .int (nI kd), .int 0, .int (x), .int (nI (dp + 1))] w0 = _ := c1
  refine ⟨w1, ?_, q1, (f0).trans f1⟩
  rw [u3, hb]
  simp only [R_X9_say_p0, R_X9_say_p1, R_X9_say_p2, SB, show (nI 11 = (10 : Int32)) = False from by decide, show (nI 11 = (11 : Int32)) = True from by decide, q0.p1, q0.p2, q0.p3, clK_gf q0.p0, q1.p1, q1.p2, q1.p3, clK_gf q1.p0, c1, if_true, if_false, ls1s]
  try rfl
theorem sb30 {n m kd k act : Nat} (hd7 : kd < 7) (hk : k < 7) (ha : act < 4) (hb : bofN k act = 30) (lv : Nat) : SayS n m kd k act (lv + 3) 17 (we2 n m kd) := by
  intro w x t dp hd h
  obtain ⟨w0, q0, f0, u3⟩ := say_pre (dp := dp) h hk ha (by omega) x
  rw [hb] at q0
  obtain ⟨w1, c1, q1, f1⟩ := sb11 (k := 0) (act := 1) hd7 (by decide) (by decide) (by decide) lv w0 (x) _ (dp + 1) (by omega) q0
  have c1 : Call M_X9_say (lv + 2) [.ref 102, .int 0, .int 1, .int (x), .int (nI (dp + 1))] w0 = _ := c1
  obtain ⟨w2, c2, q2, f2⟩ := sv_eats (k := kd) hd7 hd7 lv w1 (1) _ (dp + 1) (by omega) q1
  have c2 : Call M_X9_say (lv + 2) [.ref 102, .int (nI kd), .int 2, .int (1), .int (nI (dp + 1))] w1 = _ := c2
  refine ⟨w2, ?_, q2, ((f0).trans f1).trans f2⟩
  rw [u3, hb]
  simp only [R_X9_say_p0, R_X9_say_p1, R_X9_say_p2, SB, show (nI 30 = (10 : Int32)) = False from by decide, show (nI 30 = (11 : Int32)) = False from by decide, show (nI 30 = (12 : Int32)) = False from by decide, show (nI 30 = (13 : Int32)) = False from by decide, show (nI 30 = (20 : Int32)) = False from by decide, show (nI 30 = (30 : Int32)) = True from by decide, q0.p1, q0.p2, q0.p3, clK_gf q0.p0, q1.p1, q1.p2, q1.p3, clK_gf q1.p0, q2.p1, q2.p2, q2.p3, clK_gf q2.p0, c1, c2, if_true, if_false, ls1s]
  try rfl
theorem sb60 {n m kd k act : Nat} (hd7 : kd < 7) (hk : k < 7) (ha : act < 4) (hb : bofN k act = 60) (lv : Nat) : SayS n m kd k act (lv + 4) 16 (fun x t => we2 n m kd (x + 1) (tA t 60)) := by
  intro w x t dp hd h
  obtain ⟨w0, q0, f0, u3⟩ := say_pre (dp := dp) h hk ha (by omega) x
  rw [hb] at q0
  obtain ⟨w1, c1, q1, f1⟩ := sb30 (k := 2) (act := 1) hd7 (by decide) (by decide) (by decide) lv w0 (x + 1) _ (dp + 1) (by omega) q0
  have c1 : Call M_X9_say (lv + 3) [.ref 102, .int 2, .int 1, .int (x + 1), .int (nI (dp + 1))] w0 = _ := c1
  refine ⟨w1, ?_, q1, (f0).trans f1⟩
  rw [u3, hb]
  simp only [R_X9_say_p0, R_X9_say_p1, R_X9_say_p2, SB, show (nI 60 = (10 : Int32)) = False from by decide, show (nI 60 = (11 : Int32)) = False from by decide, show (nI 60 = (12 : Int32)) = False from by decide, show (nI 60 = (13 : Int32)) = False from by decide, show (nI 60 = (20 : Int32)) = False from by decide, show (nI 60 = (30 : Int32)) = False from by decide, show (nI 60 = (40 : Int32)) = False from by decide, show (nI 60 = (50 : Int32)) = False from by decide, show (nI 60 = (60 : Int32)) = True from by decide, q0.p1, q0.p2, q0.p3, clK_gf q0.p0, q1.p1, q1.p2, q1.p3, clK_gf q1.p0, c1, if_true, if_false, ls1s]
  try rfl
theorem sv_wears {n m kd k : Nat} (hd7 : kd < 7) (hk : k < 7) (lv : Nat) : SayS n m kd k 1 (lv + 4) 16 (weV n m kd k) := by
  have e := (by decide : ∀ k, k < 7 → bofN k 1 = if k = 2 then 30 else if k = 5 then 60 else 11) k hk
  have w : weV n m kd k = if k = 2 then we2 n m kd else if k = 5 then (fun x t => we2 n m kd (x + 1) (tA t 60)) else we0 n kd := by
    funext x t; unfold weV; split
    · rfl
    · split <;> rfl
  rw [w]
  by_cases q : k = 2
  · rw [if_pos q] at e ⊢
    exact fun w x t dp h => sb30 hd7 hk (by decide) e (lv + 1) w x t dp (by omega)
  · rw [if_neg q] at e ⊢
    by_cases q2 : k = 5
    · rw [if_pos q2] at e ⊢
      exact sb60 hd7 hk (by decide) e lv
    · rw [if_neg q2] at e ⊢
      exact fun w x t dp h => sb11 hd7 hk (by decide) e (lv + 2) w x t dp (by omega)
theorem sb13 {n m kd k act : Nat} (hd7 : kd < 7) (hk : k < 7) (ha : act < 4) (hb : bofN k act = 13) (lv : Nat) : SayS n m kd k act (lv + 5) 15 (te0 n m kd) := by
  intro w x t dp hd h
  obtain ⟨w0, q0, f0, u3⟩ := say_pre (dp := dp) h hk ha (by omega) x
  rw [hb] at q0
  obtain ⟨w1, c1, q1, f1⟩ := sv_wears (k := kd) hd7 hd7 lv w0 (x) _ (dp + 1) (by omega) q0
  have c1 : Call M_X9_say (lv + 4) [.ref 102, .int (nI kd), .int 1, .int (x), .int (nI (dp + 1))] w0 = _ := c1
  obtain ⟨w2, c2, q2, f2⟩ := sv_eats (k := kd) hd7 hd7 (lv + 2) w1 (x) _ (dp + 1) (by omega) q1
  have c2 : Call M_X9_say (lv + 4) [.ref 102, .int (nI kd), .int 2, .int (x), .int (nI (dp + 1))] w1 = _ := c2
  refine ⟨w2, ?_, q2, ((f0).trans f1).trans f2⟩
  rw [u3, hb]
  simp only [R_X9_say_p0, R_X9_say_p1, R_X9_say_p2, SB, show (nI 13 = (10 : Int32)) = False from by decide, show (nI 13 = (11 : Int32)) = False from by decide, show (nI 13 = (12 : Int32)) = False from by decide, show (nI 13 = (13 : Int32)) = True from by decide, q0.p1, q0.p2, q0.p3, clK_gf q0.p0, q1.p1, q1.p2, q1.p3, clK_gf q1.p0, q2.p1, q2.p2, q2.p3, clK_gf q2.p0, c1, c2, if_true, if_false, ls1s]
  try rfl
theorem sb50 {n m kd k act : Nat} (hd7 : kd < 7) (hk : k < 7) (ha : act < 4) (hb : bofN k act = 50) (lv : Nat) : SayS n m kd k act (lv + 6) 14 (fun x t => ((te0 n m kd x (tA t 50)).1 - (wkV n kd 2 (te0 n m kd x (tA t 50)).2).1, (wkV n kd 2 (te0 n m kd x (tA t 50)).2).2)) := by
  intro w x t dp hd h
  obtain ⟨w0, q0, f0, u3⟩ := say_pre (dp := dp) h hk ha (by omega) x
  rw [hb] at q0
  obtain ⟨w1, c1, q1, f1⟩ := sb13 (k := 1) (act := 3) hd7 (by decide) (by decide) (by decide) lv w0 (x) _ (dp + 1) (by omega) q0
  have c1 : Call M_X9_say (lv + 5) [.ref 102, .int 1, .int 3, .int (x), .int (nI (dp + 1))] w0 = _ := c1
  obtain ⟨w2, c2, q2, f2⟩ := sv_walks (k := kd) hd7 hd7 (lv + 4) w1 (2) _ (dp + 1) (by omega) q1
  have c2 : Call M_X9_say (lv + 5) [.ref 102, .int (nI kd), .int 0, .int (2), .int (nI (dp + 1))] w1 = _ := c2
  refine ⟨w2, ?_, q2, ((f0).trans f1).trans f2⟩
  rw [u3, hb]
  simp only [R_X9_say_p0, R_X9_say_p1, R_X9_say_p2, SB, show (nI 50 = (10 : Int32)) = False from by decide, show (nI 50 = (11 : Int32)) = False from by decide, show (nI 50 = (12 : Int32)) = False from by decide, show (nI 50 = (13 : Int32)) = False from by decide, show (nI 50 = (20 : Int32)) = False from by decide, show (nI 50 = (30 : Int32)) = False from by decide, show (nI 50 = (40 : Int32)) = False from by decide, show (nI 50 = (50 : Int32)) = True from by decide, q0.p1, q0.p2, q0.p3, clK_gf q0.p0, q1.p1, q1.p2, q1.p3, clK_gf q1.p0, q2.p1, q2.p2, q2.p3, clK_gf q2.p0, c1, c2, if_true, if_false, ls1s]
  try rfl
theorem sb71 {n m kd k act : Nat} (hd7 : kd < 7) (hk : k < 7) (ha : act < 4) (hb : bofN k act = 71) (lv : Nat) : SayS n m kd k act (lv + 6) 14 (fun x t => ((weV n m kd kd x (tA t 71)).1 - (te0 n m kd x (weV n m kd kd x (tA t 71)).2).1, (te0 n m kd x (weV n m kd kd x (tA t 71)).2).2)) := by
  intro w x t dp hd h
  obtain ⟨w0, q0, f0, u3⟩ := say_pre (dp := dp) h hk ha (by omega) x
  rw [hb] at q0
  obtain ⟨w1, c1, q1, f1⟩ := sv_wears (k := kd) hd7 hd7 (lv + 1) w0 (x) _ (dp + 1) (by omega) q0
  have c1 : Call M_X9_say (lv + 5) [.ref 102, .int (nI kd), .int 1, .int (x), .int (nI (dp + 1))] w0 = _ := c1
  obtain ⟨w2, c2, q2, f2⟩ := sb13 (k := 3) (act := 3) hd7 (by decide) (by decide) (by decide) lv w1 (x) _ (dp + 1) (by omega) q1
  have c2 : Call M_X9_say (lv + 5) [.ref 102, .int 3, .int 3, .int (x), .int (nI (dp + 1))] w1 = _ := c2
  refine ⟨w2, ?_, q2, ((f0).trans f1).trans f2⟩
  rw [u3, hb]
  simp only [R_X9_say_p0, R_X9_say_p1, R_X9_say_p2, SB, show (nI 71 = (10 : Int32)) = False from by decide, show (nI 71 = (11 : Int32)) = False from by decide, show (nI 71 = (12 : Int32)) = False from by decide, show (nI 71 = (13 : Int32)) = False from by decide, show (nI 71 = (20 : Int32)) = False from by decide, show (nI 71 = (30 : Int32)) = False from by decide, show (nI 71 = (40 : Int32)) = False from by decide, show (nI 71 = (50 : Int32)) = False from by decide, show (nI 71 = (60 : Int32)) = False from by decide, show (nI 71 = (70 : Int32)) = False from by decide, show (nI 71 = (71 : Int32)) = True from by decide, q0.p1, q0.p2, q0.p3, clK_gf q0.p0, q1.p1, q1.p2, q1.p3, clK_gf q1.p0, q2.p1, q2.p2, q2.p3, clK_gf q2.p0, c1, c2, if_true, if_false, ls1s]
  try rfl
theorem sv_tells {n m kd k : Nat} (hd7 : kd < 7) (hk : k < 7) (lv : Nat) : SayS n m kd k 3 (lv + 6) 14 (teV n m kd k) := by
  have e := (by decide : ∀ k, k < 7 → bofN k 3 = if k = 4 then 50 else if k = 6 then 71 else 13) k hk
  have w : teV n m kd k = if k = 4 then (fun x t => ((te0 n m kd x (tA t 50)).1 - (wkV n kd 2 (te0 n m kd x (tA t 50)).2).1, (wkV n kd 2 (te0 n m kd x (tA t 50)).2).2)) else if k = 6 then (fun x t => ((weV n m kd kd x (tA t 71)).1 - (te0 n m kd x (weV n m kd kd x (tA t 71)).2).1, (te0 n m kd x (weV n m kd kd x (tA t 71)).2).2)) else te0 n m kd := by
    funext x t; unfold teV; split
    · rfl
    · split <;> rfl
  rw [w]
  by_cases q : k = 4
  · rw [if_pos q] at e ⊢
    exact sb50 hd7 hk (by decide) e lv
  · rw [if_neg q] at e ⊢
    by_cases q2 : k = 6
    · rw [if_pos q2] at e ⊢
      exact sb71 hd7 hk (by decide) e lv
    · rw [if_neg q2] at e ⊢
      exact fun w x t dp h => sb13 hd7 hk (by decide) e (lv + 1) w x t dp (by omega)
