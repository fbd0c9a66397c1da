/-! ===== pairs: voice ===== -/
def Ag (t s : TrT) : Prop := t.1 = s.1 ∧ ∀ k, k < t.1 → t.2 k = s.2 k
theorem Ag.a {t s : TrT} (h : Ag t s) (b : Nat) : Ag (tA t b) (tA s b) := by
  obtain ⟨h1, h2⟩ := h
  unfold tA
  rw [← h1]
  split
  · refine ⟨rfl, fun k hk => ?_⟩
    have hk : k < t.1 + 1 := hk
    show upd t.2 t.1 (nI b) k = upd s.2 t.1 (nI b) k
    by_cases q : k = t.1
    · rw [q, upd_s, upd_s]
    · rw [upd_n q, upd_n q]; exact h2 k (by omega)
  · exact ⟨h1, h2⟩
def AgV (p q : Int32 × TrT) : Prop := p.1 = q.1 ∧ Ag p.2 q.2
theorem ag_wk {n k : Nat} {x : Int32} {t s : TrT} (h : Ag t s) : AgV (wkV n k x t) (wkV n k x s) := by
  unfold wkV
  split
  · exact ⟨rfl, (h.a _).a _⟩
  · exact ⟨rfl, h.a _⟩
theorem ag_ea {n m k : Nat} {x : Int32} {t s : TrT} (h : Ag t s) : AgV (eaV n m k x t) (eaV n m k x s) := by
  unfold eaV
  split
  · exact ⟨rfl, (h.a _).a _⟩
  · split
    · exact ⟨rfl, ((h.a _).a _).a _⟩
    · exact ⟨rfl, h.a _⟩
theorem ag_we0 {n kd : Nat} {x : Int32} {t s : TrT} (h : Ag t s) : AgV (we0 n kd x t) (we0 n kd x s) := by
  have w := ag_wk (n := n) (k := kd) (x := x) (h.a 11)
  exact ⟨by show _ * _ = _ * _; rw [w.1], w.2⟩
theorem ag_we2 {n m kd : Nat} {x : Int32} {t s : TrT} (h : Ag t s) : AgV (we2 n m kd x t) (we2 n m kd x s) := by
  have w := ag_we0 (n := n) (kd := kd) (x := x) (h.a 30)
  have e := ag_ea (n := n) (m := m) (k := kd) (x := 1) w.2
  exact ⟨by show _ - _ = _ - _; rw [w.1, e.1], e.2⟩
theorem ag_we {n m kd k : Nat} {x : Int32} {t s : TrT} (h : Ag t s) : AgV (weV n m kd k x t) (weV n m kd k x s) := by
  unfold weV
  split
  · exact ag_we2 h
  · split
    · exact ag_we2 (h.a _)
    · exact ag_we0 h
theorem ag_te0 {n m kd : Nat} {x : Int32} {t s : TrT} (h : Ag t s) : AgV (te0 n m kd x t) (te0 n m kd x s) := by
  have w := ag_we (n := n) (m := m) (kd := kd) (k := kd) (x := x) (h.a 13)
  have e := ag_ea (n := n) (m := m) (k := kd) (x := x) w.2
  exact ⟨by show _ ^^^ _ = _ ^^^ _; rw [w.1, e.1], e.2⟩
theorem ag_te {n m kd k : Nat} {x : Int32} {t s : TrT} (h : Ag t s) : AgV (teV n m kd k x t) (teV n m kd k x s) := by
  unfold teV
  split
  · have w := ag_te0 (n := n) (m := m) (kd := kd) (x := x) (h.a 50)
    have e := ag_wk (n := n) (k := kd) (x := 2) w.2
    exact ⟨by show _ - _ = _ - _; rw [w.1, e.1], e.2⟩
  · split
    · have w := ag_we (n := n) (m := m) (kd := kd) (k := kd) (x := x) (h.a 71)
      have e := ag_te0 (n := n) (m := m) (kd := kd) (x := x) w.2
      exact ⟨by show _ - _ = _ - _; rw [w.1, e.1], e.2⟩
    · exact ag_te0 h
/-- what a walker's voice is -/
def voV (n m kd act : Nat) (x : Int32) (t : TrT) : Int32 × TrT := if act = 0 then wkV n kd x t else if act = 1 then weV n m kd kd x t else if act = 2 then eaV n m kd x t else teV n m kd kd x t
theorem ag_vo {n m kd act : Nat} {x : Int32} {t s : TrT} (h : Ag t s) : AgV (voV n m kd act x t) (voV n m kd act x s) := by
  unfold voV
  split
  · exact ag_wk h
  · split
    · exact ag_we h
    · split
      · exact ag_ea h
      · exact ag_te h
theorem voV_le {n m kd act : Nat} {x : Int32} {t : TrT} (h : t.1 ≤ 40) : (voV n m kd act x t).2.1 ≤ 40 := by
  unfold voV
  split
  · exact wkV_le h
  · split
    · exact weV_le h
    · split
      · exact eaV_le h
      · exact teV_le h
theorem sv_all {n m kd act : Nat} (hd7 : kd < 7) (ha : act < 4) : SayS n m kd kd act 60 10 (voV n m kd act) := by
  have h : act = 0 ∨ act = 1 ∨ act = 2 ∨ act = 3 := by omega
  rcases h with rfl | rfl | rfl | rfl
  · intro w x t dp hd h
    exact sv_walks hd7 hd7 59 w x t dp (by omega) h
  · intro w x t dp hd h
    exact sv_wears hd7 hd7 56 w x t dp (by omega) h
  · intro w x t dp hd h
    exact sv_eats hd7 hd7 58 w x t dp (by omega) h
  · intro w x t dp hd h
    exact sv_tells hd7 hd7 54 w x t dp (by omega) h
theorem ClAt.setVo {w v : AH} {X : Cx} (h : ClAt w X) (hF : Fr (fun j => j = 102 ∨ j = 103 ∨ j = 104) w v) {t : TrT} (hT : VoA v t) : ClAt v (X.1, X.2.1, X.2.2.1, X.2.2.2.1, t, X.2.2.2.2.2) := by
  have e : ∀ j, j < 102 ∨ 105 ≤ j → hg v j = hg w j := fun j hj => hF.2.2 j (by omega)
  have e0 := e 32 (by omega)
  refine ⟨by rw [e0]; exact h.f0, by rw [e0]; exact h.f1, by rw [e0]; exact h.f2, by rw [e0]; exact h.f3, by rw [e0]; exact h.f4, by rw [e0]; exact h.f5, by rw [e0]; exact h.f6, by rw [e0]; exact h.f7, by rw [e0]; exact h.f8, by rw [e0]; exact h.f9, h.now.keep (fun j _ _ => e j (by omega)), h.kept.keep (fun j _ _ => e j (by omega)), ?_, ?_, hT, h.ro.keep (fun j _ _ => e j (by omega)), ?_, by rw [e 113 (by omega)]; exact h.shs, ?_, by rw [e 114 (by omega)]; exact h.err, h.sta.keep (e _ (by omega)) (e _ (by omega)), h.str.keep (fun j hj => e j (by omega))⟩
  · obtain ⟨T, hT⟩ := h.tho; exact ⟨T, hT.keep (fun j _ _ => e j (by omega))⟩
  · obtain ⟨L, f, hT⟩ := h.rd; exact ⟨L, f, hT.keep (fun j _ _ => e j (by omega))⟩
  · obtain ⟨a, b, c, d, hT⟩ := h.dy; exact ⟨a, b, c, d, hT.keep (fun j _ _ => e j (by omega))⟩
  · intro j hj
    exact (h.she j hj).keep (e _ (by omega)) (e _ (by omega))
theorem s_speak {w : AH} {X : Cx} (hC : ClAt w X) {i act : Nat} (hi : i < X.1.nw) (ha : act < 4) (x : Int32) (lv : Nat) : ∃ v, Call M_X9_speak lv [.ref 102, .ref (50 + i), .int (nI i), .int (nI act), .int x] w = some (some (.int (voV i (X.1.wk i 1) (X.1.wk i 0) act x (0, X.2.2.2.2.1.2)).1), v) ∧ VoA v (voV i (X.1.wk i 1) (X.1.wk i 0) act x (0, X.2.2.2.2.1.2)).2 ∧ Fr (fun j => j = 102 ∨ j = 103 ∨ j = 104) w v := by
  obtain ⟨h0, ⟨k, n, m, h1, h2, h3⟩, hr⟩ := hC.vo
  have hn := hC.now.rn
  have wk : WkAt w (50 + i) (X.1.wk i 0) (X.1.wk i 1) (X.1.wk i 2) (X.1.wk i 3) := hC.now.wk i (by omega)
  have cl := s_Row_clear hr 60
  have hr2 := hr.set (L2 := 0) (g := X.2.2.2.2.1.2) (Nat.zero_le _)
  have e1 : ∀ j, j ≠ 103 → j ≠ 104 → hg (setRow w 103 104 40 0 X.2.2.2.2.1.2) j = hg w j := fun j a c => setRow_ne _ _ _ _ _ _ a c
  have F1 : Fr (fun j => j = 102 ∨ j = 103 ∨ j = 104) w (setRow w 103 104 40 0 X.2.2.2.2.1.2) := setRow_fr _ _ _ _ _ _ (Or.inr (Or.inl rfl)) (Or.inr (Or.inr rfl))
  have st := hC.sta
  generalize setRow w 103 104 40 0 X.2.2.2.2.1.2 = v1 at *
  have g0 : gf (hg v1 102) 8 0 = some (.ref 103) := by rw [e1 _ (by decide) (by decide)]; exact h0
  have g1 : gf (hg v1 102) 8 1 = some (.int k) := by rw [e1 _ (by decide) (by decide)]; exact h1
  have g2 : gf (fput (hg v1 102) 1 (.int (nI (X.1.wk i 0)))) 8 2 = some (.int n) := by rw [gf_put_n (by decide), e1 _ (by decide) (by decide)]; exact h2
  have g3 : gf (fput (fput (hg v1 102) 1 (.int (nI (X.1.wk i 0)))) 2 (.int (nI i))) 8 3 = some (.int m) := by rw [gf_put_n (by decide), gf_put_n (by decide), e1 _ (by decide) (by decide)]; exact h3
  have wk0 : gf (hg v1 (50 + i)) 9 0 = some (.int (nI (X.1.wk i 0))) := by rw [e1 _ (by omega) (by omega)]; exact wk.p0
  have wk1 : gf (hg v1 (50 + i)) 9 1 = some (.int (nI (X.1.wk i 1))) := by rw [e1 _ (by omega) (by omega)]; exact wk.p1
  obtain ⟨e, he⟩ : ∃ e, e = fput (fput (fput (hg v1 102) 1 (.int (nI (X.1.wk i 0)))) 2 (.int (nI i))) 3 (.int (nI (X.1.wk i 1))) := ⟨_, rfl⟩
  have q1 : gf e 8 1 = some (.int (nI (X.1.wk i 0))) := by rw [he, gf_put_n (by decide), gf_put_n (by decide)]; exact gf_put_s g1
  have q0 : gf e 8 0 = some (.ref 103) := by rw [he, gf_put_n (by decide), gf_put_n (by decide), gf_put_n (by decide)]; exact g0
  have vb : VB (hs v1 102 e) i (X.1.wk i 1) (X.1.wk i 0) (0, X.2.2.2.2.1.2) := by
    refine ⟨?_, ?_, ?_, ?_, hr2.keep (hs_ne _ _ (by decide)) (hs_ne _ _ (by decide)), st.keep ?_ ?_⟩
    · rw [hs_eq]; exact q0
    · rw [hs_eq]; exact q1
    · rw [hs_eq, he, gf_put_n (by decide)]; exact gf_put_s g2
    · rw [hs_eq, he]; exact gf_put_s g3
    · rw [hs_ne _ _ (by decide), e1 _ (by decide) (by decide)]
    · rw [hs_ne _ _ (by decide), e1 _ (by decide) (by decide)]
  obtain ⟨v, a1, a2, a3⟩ := sv_all wk.r0 ha (hs v1 102 e) x _ 0 (by decide) vb
  have a1 : Call M_X9_say 60 [.ref 102, .int (nI (X.1.wk i 0)), .int (nI act), .int x, .int 0] (hs v1 102 e) = _ := a1
  refine ⟨v, ?_, ⟨a2.p0, ⟨_, _, _, a2.p1, a2.p2, a2.p3⟩, a2.row⟩, F1.trans ((Fr.hs (Or.inl rfl) e).trans (a3.wide (fun j hj => Or.inr hj)))⟩
  have n1 : ∀ e, hg (hs v1 102 e) (50 + i) = hg v1 (50 + i) := fun e => hs_ne _ _ (by omega)
  have p3 := pf_i (x := nI (X.1.wk i 1)) g3
  rw [← he] at p3
  simp only [C_X9_speak, R_X9_speak, SB, h0, clK_gf hr.1, cl, wk0, wk1, n1, pf_i g1, pf_i g2, p3, hs_hs, q1, clK_gf q0, a1, if_true]
