/-! ===== cells: each instruction (printed by wip/whole/gen09.py) ===== -/
section I4
variable {b0 : Nat} {sa : Nat → Nat} {D : va_G} {dA : Nat → ClassId} {stc : Nat → va_E}
variable {p : Program} {l : Launch} {e : Env} {R : Room} {s : State} {m : MethodId} {args : Array Value} {below : List Frame} {meth : Method} {c : Code} {H : Heap} {locs : List Loc} {cells slots : Nat} {Q : State → Prop}
variable {M : MI} {pc n : Nat} {ls : Array Slot} {st st' r : List Value} {w w' : AH}
theorem al_own {a : Nat} (h : 32 ≤ a) : al b0 sa a = b0 + (a - 32) := by unfold al; rw [if_neg (by omega)]
theorem al_sta {a : Nat} (h : a < 32) : al b0 sa a = sa a := by unfold al; rw [if_pos h]
theorem tg1 {t : Nat} (h : t = 0 ∨ t = 10) (g : t = 10 ∨ t = 11) : t = 10 := by omega
theorem tg2 {t : Nat} (h : t = 0 ∨ t = 10) (g : t ≤ 4) : t = 0 := by omega
theorem tg3 {t : Nat} (h : t = 2 ∨ t = 11) (g : t = 10 ∨ t = 11) : t = 11 := by omega
theorem tg4 {t : Nat} (h : t = 2 ∨ t = 11) (g : t ≤ 4) : t = 2 := by omega
theorem tg5 {t : Nat} (h : t = 3 ∨ t = 4) (g : t = 10 ∨ t = 11) : False := by omega
theorem tg6 {t : Nat} (h : t = 3 ∨ t = 4) : t ≤ 4 := by omega
theorem vpi {i : Int32} {k : Nat} (h : 0 ≤ i.toInt ∧ i.toInt < k) : vp_in i k := vp_in_iff.mpr h

theorem snd_getf {ix a ci k : Nat} {ty : FieldType} {fn : Bool} {v : Value} (hx : p.tables.exec = Jvm.exec) (hb : c.code = M.2.1) (hml : c.maxLocals = mL M) (hown : s.vm.findClass (nmC (mCn M)) = some m.cls) (hts : ∀ w ∈ GT, w.before args s = true) (hE : EnvF b0 sa D dA stc s s.heap) (hIn : M.1.name = "<init>" → meth.name = "<init>") (hCl : M.1.cls = nmC (mCn M)) (hd : decode M.2.1 pc = .ok (.getfield ix, 3)) (hq : resF (mCn M) ix = some (ci, k, ty, fn)) (hg0 : gf (hg w a) ci k = some v) (hRl : RelH b0 sa D dA stc w H) (hS : va_S (fun q => b0 ≤ q) s.heap H locs) (hcc : s.heap.size + cells = H.size)
    (kk : W p l e R s m args below meth c H locs cells slots Q (F0 m (pc + 3) ls (vm (al b0 sa) v :: r))) : W p l e R s m args below meth c H locs cells slots Q (F0 m pc ls (.ref (al b0 sa a) :: r)) := by
  have hm := resF_in hq
  have hw := FT_w _ hm
  have hk := FT_k _ hm
  simp only [okF, Bool.and_eq_true, Bool.or_eq_true, decide_eq_true_eq] at hk
  obtain ⟨⟨⟨⟨hk1, hk2⟩, hk3⟩, hk4⟩, -⟩ := hk
  have hlink := hts _ (hw _ (by unfold wdF; exact List.mem_cons_self))
  unfold gf at hg0
  split at hg0
  · rename_i o ho
    split at hg0
    · rename_i hci
      subst hci
      rcases Nat.lt_or_ge a 32 with hlt | hge
      · have hst : stc a = .inr o := by rw [← hRl.2.2.2.1 a hlt]; exact ho
        rcases hE.2.2.1 a hlt o hst with rfl | ⟨h50, v0, hv0, f1, f2, f3⟩
        · cases hg0
        · rw [h50] at hlink hk1
          rw [hv0] at hg0
          rw [al_sta hlt]
          match k, hg0 with
          | 0, hg0 =>
            cases hg0
            exact va_getX (N := 1) (v := fun _ => .ref (al b0 sa v0)) (ad := fun _ => sa a) (i := 0) hx hb (fun _ _ => f1) (by decide) hS hown hlink (fun _ h => h) hd kk
          | 1, hg0 =>
            cases hg0
            exact va_getX (N := 1) (v := fun _ => .int 0) (ad := fun _ => sa a) (i := 0) hx hb (fun _ _ => f2) (by decide) hS hown hlink (fun _ h => h) hd kk
          | k + 2, hg0 => simp at hg0
      · have hlive : a < w.1 := hRl.live (by intro z; rw [z] at ho; unfold dead at ho; cases ho; cases hg0)
        have hki := hRl.kind hge hlive ho
        obtain ⟨c1, c2, -⟩ := cls_all o.1 hki
        have hat := ws_at (b0 := b0) (sa := sa) (dA := dA) hge hlive
        rw [ho] at hat
        exact va_get (C := (clOf o.1).1) (T := (clOf o.1).2.1) (N := (clOf o.1).2.2) hx hb hts c2 hown hE.1 hRl.P (a - 32) hat c1 k hk1 hlink (fun _ h => h) (v := vm (al b0 sa) v) (by show (o.2.map _)[k]? = _; rw [List.getElem?_map, hg0]; rfl) hd kk
    · cases hg0
  · cases hg0
theorem snd_putf {ix a ci k : Nat} {ty : FieldType} {fn : Bool} {v : Value} {e1 : va_E} (hx : p.tables.exec = Jvm.exec) (hb : c.code = M.2.1) (hml : c.maxLocals = mL M) (hown : s.vm.findClass (nmC (mCn M)) = some m.cls) (hts : ∀ w ∈ GT, w.before args s = true) (hE : EnvF b0 sa D dA stc s s.heap) (hIn : M.1.name = "<init>" → meth.name = "<init>") (hCl : M.1.cls = nmC (mCn M)) (hd : decode M.2.1 pc = .ok (.putfield ix, 3)) (hq : resF (mCn M) ix = some (ci, k, ty, fn)) (hf : ci < 12 ∧ (fn = false ∨ (M.1.name = "<init>" ∧ ((clOf ci).2.1 k).1 = M.1.cls))) (hg0 : pf (hg w a) ci k ty v = some e1) (hRl : RelH b0 sa D dA stc w H) (hS : va_S (fun q => b0 ≤ q) s.heap H locs) (hcc : s.heap.size + cells = H.size)
    (kk : ∀ (H1 : Heap) (locs1 : List Loc), RelH b0 sa D dA stc (hs w a e1) H1 → va_S (fun q => b0 ≤ q) s.heap H1 locs1 → s.heap.size + cells = H1.size → W p l e R s m args below meth c H1 locs1 cells slots Q (F0 m (pc + 3) ls r)) : W p l e R s m args below meth c H locs cells slots Q (F0 m pc ls (vm (al b0 sa) v :: .ref (al b0 sa a) :: r)) := by
  have hm := resF_in hq
  have hw := FT_w _ hm
  have hk := FT_k _ hm
  simp only [okF, Bool.and_eq_true, Bool.or_eq_true, decide_eq_true_eq] at hk
  obtain ⟨⟨⟨⟨hk1, hk2⟩, hk3⟩, hk4⟩, -⟩ := hk
  have hlink := hts _ (hw _ (by unfold wdF; exact List.mem_cons_self))
  unfold pf at hg0
  split at hg0
  · rename_i o ho
    split at hg0
    · rename_i hc0
      obtain ⟨hci, hlen, hn, hft⟩ := hc0
      subst hci
      cases hg0
      have hge : 32 ≤ a := by
        rcases Nat.lt_or_ge a 32 with hlt | hge
        · exfalso
          have hst : stc a = .inr o := by rw [← hRl.2.2.2.1 a hlt]; exact ho
          rcases hE.2.2.1 a hlt o hst with rfl | ⟨h50, -⟩
          · exact absurd hf.1 (by decide)
          · rw [h50] at hf; exact absurd hf.1 (by decide)
        · exact hge
      have hlive : a < w.1 := hRl.live (by intro z; rw [z] at ho; unfold dead at ho; cases ho; exact absurd hf.1 (by decide))
      obtain ⟨c1, c2, c3, c4, -⟩ := cls_all o.1 hf.1
      have hat := ws_at (b0 := b0) (sa := sa) (dA := dA) hge hlive
      rw [ho] at hat
      have hfin : ∀ (H1 : Heap) (locs1 : List Loc), va_P D vwCl ((wsOf b0 sa dA w).set (a - 32) (al b0 sa a, .inr (o.1, (o.2.map (vm (al b0 sa))).set k (vm (al b0 sa) v)))) H1 → va_D (fun q => b0 ≤ q) ((wsOf b0 sa dA w).set (a - 32) (al b0 sa a, .inr (o.1, (o.2.map (vm (al b0 sa))).set k (vm (al b0 sa) v)))) → va_S (fun q => b0 ≤ q) s.heap H1 locs1 → W p l e R s m args below meth c H1 locs1 cells slots Q (F0 m (pc + 3) ls r) := by
        intro H1 locs1 hP1 _ hS1
        refine W_size fun hz => ?_
        rw [← List.map_set] at hP1
        obtain ⟨g1, g2⟩ := hRl.set (e := .inr (o.1, o.2.set k v)) hge hlive hP1 hcc hz (fun t x h => by cases h)
        exact kk H1 locs1 g1 hS1 g2.symm
      rcases hf.2 with hff | ⟨hi1, hi2⟩
      · exact va_put (C := (clOf o.1).1) (T := (clOf o.1).2.1) (N := (clOf o.1).2.2) hx hb hts c2 (tyOf o.1) c3 c4 hown hE.1 hRl.P ws_D hS (a - 32) hat c1 k hk1 hlink (fun _ h => h) (by rw [hk3]; exact hff) hk2 (nar_vm hn) (fit_vm hft) (by rw [List.length_map]; exact hlen) hd hfin
      · cases hfv : fn with
        | false => exact va_put (C := (clOf o.1).1) (T := (clOf o.1).2.1) (N := (clOf o.1).2.2) hx hb hts c2 (tyOf o.1) c3 c4 hown hE.1 hRl.P ws_D hS (a - 32) hat c1 k hk1 hlink (fun _ h => h) (by rw [hk3]; exact hfv) hk2 (nar_vm hn) (fit_vm hft) (by rw [List.length_map]; exact hlen) hd hfin
        | true => exact va_putF (C := (clOf o.1).1) (T := (clOf o.1).2.1) (N := (clOf o.1).2.2) hx hb hts c2 (tyOf o.1) c3 c4 hown hE.1 hRl.P ws_D hS (a - 32) hat c1 k hk1 hlink (fun _ h => h) (by rw [hk3]; exact hfv) (hIn hi1) (hi2.trans hCl) hk2 (nar_vm hn) (fit_vm hft) (by rw [List.length_map]; exact hlen) hd hfin
    · cases hg0
  · cases hg0
theorem snd_ial {a : Nat} {i v : Int32} (hx : p.tables.exec = Jvm.exec) (hb : c.code = M.2.1) (hml : c.maxLocals = mL M) (hown : s.vm.findClass (nmC (mCn M)) = some m.cls) (hts : ∀ w ∈ GT, w.before args s = true) (hE : EnvF b0 sa D dA stc s s.heap) (hIn : M.1.name = "<init>" → meth.name = "<init>") (hCl : M.1.cls = nmC (mCn M)) (hd : decode M.2.1 pc = .ok (.iaload, 1)) (hg0 : aI (hg w a) i = some v) (hRl : RelH b0 sa D dA stc w H) (hS : va_S (fun q => b0 ≤ q) s.heap H locs) (hcc : s.heap.size + cells = H.size)
    (kk : W p l e R s m args below meth c H locs cells slots Q (F0 m (pc + 1) ls (.int v :: r))) : W p l e R s m args below meth c H locs cells slots Q (F0 m pc ls (.int i :: .ref (al b0 sa a) :: r)) := by
  unfold aI at hg0
  split at hg0
  · rename_i t k f ho
    split at hg0
    · rename_i hc0
      cases hg0
      rcases Nat.lt_or_ge a 32 with hlt | hge
      · have hst : stc a = .inl (t, k, .inl f) := by rw [← hRl.2.2.2.1 a hlt]; exact ho
        obtain ⟨g1, k1, f1, hxx, hT⟩ := hE.2.1 a hlt _ _ hst
        cases hxx
        have ht : t = 10 := tg1 hc0.1 g1
        subst ht
        rw [al_sta hlt]
        exact va_ti hx hb hT hS (vpi hc0.2) rfl hd kk
      · have hlive : a < w.1 := hRl.live (by intro z; rw [z] at ho; cases ho)
        have ht4 := hRl.2.2.2.2.1 a _ _ hge ho
        have ht : t = 0 := tg2 hc0.1 ht4
        subst ht
        have hat := ws_at (b0 := b0) (sa := sa) (dA := dA) hge hlive
        rw [ho] at hat
        exact va_iald hx hb hE.1 hRl.P (a - 32) 0 hat rfl (vpi hc0.2) hd kk
    · cases hg0
  · cases hg0
theorem snd_bal {a : Nat} {i v : Int32} (hx : p.tables.exec = Jvm.exec) (hb : c.code = M.2.1) (hml : c.maxLocals = mL M) (hown : s.vm.findClass (nmC (mCn M)) = some m.cls) (hts : ∀ w ∈ GT, w.before args s = true) (hE : EnvF b0 sa D dA stc s s.heap) (hIn : M.1.name = "<init>" → meth.name = "<init>") (hCl : M.1.cls = nmC (mCn M)) (hd : decode M.2.1 pc = .ok (.baload, 1)) (hg0 : aB (hg w a) i = some v) (hRl : RelH b0 sa D dA stc w H) (hS : va_S (fun q => b0 ≤ q) s.heap H locs) (hcc : s.heap.size + cells = H.size)
    (kk : W p l e R s m args below meth c H locs cells slots Q (F0 m (pc + 1) ls (.int v :: r))) : W p l e R s m args below meth c H locs cells slots Q (F0 m pc ls (.int i :: .ref (al b0 sa a) :: r)) := by
  unfold aB at hg0
  split at hg0
  · rename_i t k f ho
    split at hg0
    · rename_i hc0
      cases hg0
      rcases Nat.lt_or_ge a 32 with hlt | hge
      · have hst : stc a = .inl (t, k, .inl f) := by rw [← hRl.2.2.2.1 a hlt]; exact ho
        obtain ⟨g1, k1, f1, hxx, hT⟩ := hE.2.1 a hlt _ _ hst
        cases hxx
        have ht : t = 11 := tg3 hc0.1 g1
        subst ht
        rw [al_sta hlt]
        exact va_tb hx hb hT hS (vpi hc0.2) rfl hd kk
      · have hlive : a < w.1 := hRl.live (by intro z; rw [z] at ho; cases ho)
        have ht4 := hRl.2.2.2.2.1 a _ _ hge ho
        have ht : t = 2 := tg4 hc0.1 ht4
        subst ht
        have hat := ws_at (b0 := b0) (sa := sa) (dA := dA) hge hlive
        rw [ho] at hat
        exact va_zald hx hb hE.1 hRl.P (a - 32) 2 hat rfl (vpi hc0.2) hd kk
    · cases hg0
  · cases hg0
theorem snd_lal {a : Nat} {i : Int32} {v : Int64} (hx : p.tables.exec = Jvm.exec) (hb : c.code = M.2.1) (hml : c.maxLocals = mL M) (hown : s.vm.findClass (nmC (mCn M)) = some m.cls) (hts : ∀ w ∈ GT, w.before args s = true) (hE : EnvF b0 sa D dA stc s s.heap) (hIn : M.1.name = "<init>" → meth.name = "<init>") (hCl : M.1.cls = nmC (mCn M)) (hd : decode M.2.1 pc = .ok (.laload, 1)) (hg0 : aJ (hg w a) i = some v) (hRl : RelH b0 sa D dA stc w H) (hS : va_S (fun q => b0 ≤ q) s.heap H locs) (hcc : s.heap.size + cells = H.size)
    (kk : W p l e R s m args below meth c H locs cells slots Q (F0 m (pc + 1) ls (.long v :: r))) : W p l e R s m args below meth c H locs cells slots Q (F0 m pc ls (.int i :: .ref (al b0 sa a) :: r)) := by
  unfold aJ at hg0
  split at hg0
  · rename_i t k f ho
    split at hg0
    · rename_i hc0
      cases hg0
      obtain ⟨rfl, hc1⟩ := hc0
      rcases Nat.lt_or_ge a 32 with hlt | hge
      · have hst : stc a = .inl (1, k, .inr (.inl f)) := by rw [← hRl.2.2.2.1 a hlt]; exact ho
        obtain ⟨g1, -⟩ := hE.2.1 a hlt _ _ hst
        exact absurd g1 (by decide)
      · have hlive : a < w.1 := hRl.live (by intro z; rw [z] at ho; cases ho)
        have hat := ws_at (b0 := b0) (sa := sa) (dA := dA) hge hlive
        rw [ho] at hat
        exact va_lald hx hb hE.1 hRl.P (a - 32) 1 hat rfl (vpi hc1) hd kk
    · cases hg0
  · cases hg0
theorem snd_aal {a : Nat} {i : Int32} {v : Value} (hx : p.tables.exec = Jvm.exec) (hb : c.code = M.2.1) (hml : c.maxLocals = mL M) (hown : s.vm.findClass (nmC (mCn M)) = some m.cls) (hts : ∀ w ∈ GT, w.before args s = true) (hE : EnvF b0 sa D dA stc s s.heap) (hIn : M.1.name = "<init>" → meth.name = "<init>") (hCl : M.1.cls = nmC (mCn M)) (hd : decode M.2.1 pc = .ok (.aaload, 1)) (hg0 : aQ (hg w a) i = some v) (hRl : RelH b0 sa D dA stc w H) (hS : va_S (fun q => b0 ≤ q) s.heap H locs) (hcc : s.heap.size + cells = H.size)
    (kk : W p l e R s m args below meth c H locs cells slots Q (F0 m (pc + 1) ls (vm (al b0 sa) v :: r))) : W p l e R s m args below meth c H locs cells slots Q (F0 m pc ls (.int i :: .ref (al b0 sa a) :: r)) := by
  unfold aQ at hg0
  split at hg0
  · rename_i t k f ho
    split at hg0
    · rename_i hc0
      cases hg0
      obtain ⟨ht, hc1⟩ := hc0
      rw [← va_rf_vm] at kk
      rcases Nat.lt_or_ge a 32 with hlt | hge
      · have hst : stc a = .inl (t, k, .inr (.inr (.inr (.inr f)))) := by rw [← hRl.2.2.2.1 a hlt]; exact ho
        obtain ⟨g1, -⟩ := hE.2.1 a hlt _ _ hst
        exact (tg5 ht g1).elim
      · have hlive : a < w.1 := hRl.live (by intro z; rw [z] at ho; cases ho)
        have hat := ws_at (b0 := b0) (sa := sa) (dA := dA) hge hlive
        rw [ho] at hat
        rcases ht with rfl | rfl
        · exact va_aldq hx hb hE.1 hRl.P (a - 32) 3 hat rfl (vpi hc1) hd kk
        · exact va_aldq hx hb hE.1 hRl.P (a - 32) 4 hat rfl (vpi hc1) hd kk
    · cases hg0
  · cases hg0
theorem snd_ias {a : Nat} {i : Int32} {x : Int32} {e1 : va_E} (hx : p.tables.exec = Jvm.exec) (hb : c.code = M.2.1) (hml : c.maxLocals = mL M) (hown : s.vm.findClass (nmC (mCn M)) = some m.cls) (hts : ∀ w ∈ GT, w.before args s = true) (hE : EnvF b0 sa D dA stc s s.heap) (hIn : M.1.name = "<init>" → meth.name = "<init>") (hCl : M.1.cls = nmC (mCn M)) (hd : decode M.2.1 pc = .ok (.iastore, 1)) (hg0 : uI (hg w a) i x = some e1) (hRl : RelH b0 sa D dA stc w H) (hS : va_S (fun q => b0 ≤ q) s.heap H locs) (hcc : s.heap.size + cells = H.size)
    (kk : ∀ (H1 : Heap) (locs1 : List Loc), RelH b0 sa D dA stc (hs w a e1) H1 → va_S (fun q => b0 ≤ q) s.heap H1 locs1 → s.heap.size + cells = H1.size → W p l e R s m args below meth c H1 locs1 cells slots Q (F0 m (pc + 1) ls r)) : W p l e R s m args below meth c H locs cells slots Q (F0 m pc ls (.int x :: .int i :: .ref (al b0 sa a) :: r)) := by
  unfold uI at hg0
  split at hg0
  · rename_i t k f ho
    split at hg0
    · rename_i hc0
      cases hg0
      obtain ⟨rfl, hc1⟩ := hc0
      have hge : 32 ≤ a := by
        rcases Nat.lt_or_ge a 32 with hlt | hge
        · exfalso
          obtain ⟨g1, -⟩ := hE.2.1 a hlt _ _ ((hRl.2.2.2.1 a hlt).symm.trans ho)
          exact absurd g1 (by decide)
        · exact hge
      have hlive : a < w.1 := hRl.live (by intro z; rw [z] at ho; cases ho)
      have hat := ws_at (b0 := b0) (sa := sa) (dA := dA) hge hlive
      rw [ho] at hat
      refine va_iast hx hb hE.1 hRl.P ws_D hS (a - 32) 0 hat rfl (vpi hc1) hd (fun H1 locs1 hP1 _ hS1 => W_size fun hz => ?_)
      obtain ⟨g1, g2⟩ := hRl.set (e := .inl (0, k, .inl (upd f i.toNatClampNeg x))) hge hlive hP1 hcc hz (fun t y h => by cases h; decide)
      exact kk H1 locs1 g1 hS1 g2.symm
    · cases hg0
  · cases hg0
theorem snd_las {a : Nat} {i : Int32} {x : Int64} {e1 : va_E} (hx : p.tables.exec = Jvm.exec) (hb : c.code = M.2.1) (hml : c.maxLocals = mL M) (hown : s.vm.findClass (nmC (mCn M)) = some m.cls) (hts : ∀ w ∈ GT, w.before args s = true) (hE : EnvF b0 sa D dA stc s s.heap) (hIn : M.1.name = "<init>" → meth.name = "<init>") (hCl : M.1.cls = nmC (mCn M)) (hd : decode M.2.1 pc = .ok (.lastore, 1)) (hg0 : uJ (hg w a) i x = some e1) (hRl : RelH b0 sa D dA stc w H) (hS : va_S (fun q => b0 ≤ q) s.heap H locs) (hcc : s.heap.size + cells = H.size)
    (kk : ∀ (H1 : Heap) (locs1 : List Loc), RelH b0 sa D dA stc (hs w a e1) H1 → va_S (fun q => b0 ≤ q) s.heap H1 locs1 → s.heap.size + cells = H1.size → W p l e R s m args below meth c H1 locs1 cells slots Q (F0 m (pc + 1) ls r)) : W p l e R s m args below meth c H locs cells slots Q (F0 m pc ls (.long x :: .int i :: .ref (al b0 sa a) :: r)) := by
  unfold uJ at hg0
  split at hg0
  · rename_i t k f ho
    split at hg0
    · rename_i hc0
      cases hg0
      obtain ⟨rfl, hc1⟩ := hc0
      have hge : 32 ≤ a := by
        rcases Nat.lt_or_ge a 32 with hlt | hge
        · exfalso
          obtain ⟨g1, -⟩ := hE.2.1 a hlt _ _ ((hRl.2.2.2.1 a hlt).symm.trans ho)
          exact absurd g1 (by decide)
        · exact hge
      have hlive : a < w.1 := hRl.live (by intro z; rw [z] at ho; cases ho)
      have hat := ws_at (b0 := b0) (sa := sa) (dA := dA) hge hlive
      rw [ho] at hat
      refine va_last hx hb hE.1 hRl.P ws_D hS (a - 32) 1 hat rfl (vpi hc1) hd (fun H1 locs1 hP1 _ hS1 => W_size fun hz => ?_)
      obtain ⟨g1, g2⟩ := hRl.set (e := .inl (1, k, .inr (.inl (vp_updL f i.toNatClampNeg x)))) hge hlive hP1 hcc hz (fun t y h => by cases h; decide)
      exact kk H1 locs1 g1 hS1 g2.symm
    · cases hg0
  · cases hg0
theorem snd_bas {a : Nat} {i : Int32} {x : Int32} {e1 : va_E} (hx : p.tables.exec = Jvm.exec) (hb : c.code = M.2.1) (hml : c.maxLocals = mL M) (hown : s.vm.findClass (nmC (mCn M)) = some m.cls) (hts : ∀ w ∈ GT, w.before args s = true) (hE : EnvF b0 sa D dA stc s s.heap) (hIn : M.1.name = "<init>" → meth.name = "<init>") (hCl : M.1.cls = nmC (mCn M)) (hd : decode M.2.1 pc = .ok (.bastore, 1)) (hg0 : uB (hg w a) i x = some e1) (hRl : RelH b0 sa D dA stc w H) (hS : va_S (fun q => b0 ≤ q) s.heap H locs) (hcc : s.heap.size + cells = H.size)
    (kk : ∀ (H1 : Heap) (locs1 : List Loc), RelH b0 sa D dA stc (hs w a e1) H1 → va_S (fun q => b0 ≤ q) s.heap H1 locs1 → s.heap.size + cells = H1.size → W p l e R s m args below meth c H1 locs1 cells slots Q (F0 m (pc + 1) ls r)) : W p l e R s m args below meth c H locs cells slots Q (F0 m pc ls (.int x :: .int i :: .ref (al b0 sa a) :: r)) := by
  unfold uB at hg0
  split at hg0
  · rename_i t k f ho
    split at hg0
    · rename_i hc0
      cases hg0
      obtain ⟨rfl, hc1⟩ := hc0
      have hge : 32 ≤ a := by
        rcases Nat.lt_or_ge a 32 with hlt | hge
        · exfalso
          obtain ⟨g1, -⟩ := hE.2.1 a hlt _ _ ((hRl.2.2.2.1 a hlt).symm.trans ho)
          exact absurd g1 (by decide)
        · exact hge
      have hlive : a < w.1 := hRl.live (by intro z; rw [z] at ho; cases ho)
      have hat := ws_at (b0 := b0) (sa := sa) (dA := dA) hge hlive
      rw [ho] at hat
      refine va_zast hx hb hE.1 hRl.P ws_D hS (a - 32) 2 hat rfl (vpi hc1.1) hd (fun H1 locs1 hP1 _ hS1 => W_size fun hz => ?_)
      rw [vp_nar_bool hc1.2] at hP1
      obtain ⟨g1, g2⟩ := hRl.set (e := .inl (2, k, .inl (upd f i.toNatClampNeg x))) hge hlive hP1 hcc hz (fun t y h => by cases h; decide)
      exact kk H1 locs1 g1 hS1 g2.symm
    · cases hg0
  · cases hg0
theorem va_up_map {f : Nat → Nat} {g : Nat → Option Nat} {j v : Nat} : (fun i => (va_up g j (some v) i).map f) = va_up (fun i => (g i).map f) j (some (f v)) := by
  funext i
  unfold va_up
  split <;> rfl
theorem snd_aas {a x : Nat} {i : Int32} {e1 : va_E} (hx : p.tables.exec = Jvm.exec) (hb : c.code = M.2.1) (hml : c.maxLocals = mL M) (hown : s.vm.findClass (nmC (mCn M)) = some m.cls) (hts : ∀ w ∈ GT, w.before args s = true) (hE : EnvF b0 sa D dA stc s s.heap) (hIn : M.1.name = "<init>" → meth.name = "<init>") (hCl : M.1.cls = nmC (mCn M)) (hd : decode M.2.1 pc = .ok (.aastore, 1)) (hg0 : uQ (hg w a) (hg w x) i x = some e1) (hRl : RelH b0 sa D dA stc w H) (hS : va_S (fun q => b0 ≤ q) s.heap H locs) (hcc : s.heap.size + cells = H.size)
    (kk : ∀ (H1 : Heap) (locs1 : List Loc), RelH b0 sa D dA stc (hs w a e1) H1 → va_S (fun q => b0 ≤ q) s.heap H1 locs1 → s.heap.size + cells = H1.size → W p l e R s m args below meth c H1 locs1 cells slots Q (F0 m (pc + 1) ls r)) : W p l e R s m args below meth c H locs cells slots Q (F0 m pc ls (.ref (al b0 sa x) :: .int i :: .ref (al b0 sa a) :: r)) := by
  unfold uQ at hg0
  split at hg0
  · rename_i t k f ho
    split at hg0
    · rename_i hc0
      cases hg0
      obtain ⟨ht, hc1, hc2⟩ := hc0
      have hge : 32 ≤ a := by
        rcases Nat.lt_or_ge a 32 with hlt | hge
        · exfalso
          obtain ⟨g1, -⟩ := hE.2.1 a hlt _ _ ((hRl.2.2.2.1 a hlt).symm.trans ho)
          exact tg5 ht g1
        · exact hge
      have hlive : a < w.1 := hRl.live (by intro z; rw [z] at ho; cases ho)
      have hat := ws_at (b0 := b0) (sa := sa) (dA := dA) hge hlive
      rw [ho] at hat
      have hqk : qk t = 9 ∨ qk t = 7 := by rcases ht with rfl | rfl <;> decide
      obtain ⟨o, hox⟩ : ∃ o, hg w x = .inr o := by
        unfold clK at hc2
        split at hc2
        · exact ⟨_, by assumption⟩
        · omega
      rw [hox] at hc2
      have hoq : o.1 = qk t := hc2
      have hgx : 32 ≤ x := by
        rcases Nat.lt_or_ge x 32 with hlt | hge
        · exfalso
          rcases hE.2.2.1 x hlt o ((hRl.2.2.2.1 x hlt).symm.trans hox) with rfl | ⟨h50, -⟩
          · have : (99 : Nat) = qk t := hoq
            omega
          · omega
        · exact hge
      have hlx : x < w.1 := hRl.live (by intro z; rw [z] at hox; unfold dead at hox; cases hox; have : (99 : Nat) = qk t := hoq; omega)
      have hax := ws_at (b0 := b0) (sa := sa) (dA := dA) hgx hlx
      rw [hox] at hax
      have hfin : ∀ (H1 : Heap) (locs1 : List Loc), va_P D vwCl ((wsOf b0 sa dA w).set (a - 32) (al b0 sa a, .inl (dA t, k, .inr (.inr (.inr (.inr (va_up (fun i => (f i).map (al b0 sa)) i.toNatClampNeg (some (al b0 sa x))))))))) H1 → va_D (fun q => b0 ≤ q) ((wsOf b0 sa dA w).set (a - 32) (al b0 sa a, .inl (dA t, k, .inr (.inr (.inr (.inr (va_up (fun i => (f i).map (al b0 sa)) i.toNatClampNeg (some (al b0 sa x))))))))) → va_S (fun q => b0 ≤ q) s.heap H1 locs1 → W p l e R s m args below meth c H1 locs1 cells slots Q (F0 m (pc + 1) ls r) := by
        intro H1 locs1 hP1 _ hS1
        refine W_size fun hz => ?_
        rw [← va_up_map] at hP1
        obtain ⟨g1, g2⟩ := hRl.set (e := .inl (t, k, .inr (.inr (.inr (.inr (va_up f i.toNatClampNeg (some x))))))) hge hlive hP1 hcc hz (fun t y h => by cases h; exact tg6 ht)
        exact kk H1 locs1 g1 hS1 g2.symm
      rcases ht with rfl | rfl
      · exact va_astq (r := (RX10, TX10, 4)) hx hb hE.1 hRl.P ws_D hS (a - 32) 3 (x - 32) o.1 hat rfl hax (by rw [hoq]; rfl) (vpi hc1) hd hfin
      · exact va_astq (r := (RX8, TX8, 3)) hx hb hE.1 hRl.P ws_D hS (a - 32) 4 (x - 32) o.1 hat rfl hax (by rw [hoq]; rfl) (vpi hc1) hd hfin
    · cases hg0
  · cases hg0
theorem em_len {f : Nat → Nat} (t : Nat) (y : vp_A) : ∃ y', em dA f (.inl (t, y)) = .inl (dA t, y') ∧ y'.1 = y.1 := by
  obtain ⟨n, g | g | g | g | g⟩ := y
  · exact ⟨_, rfl, rfl⟩
  · exact ⟨_, rfl, rfl⟩
  · exact ⟨_, rfl, rfl⟩
  · exact ⟨_, rfl, rfl⟩
  · exact ⟨_, rfl, rfl⟩
theorem snd_alen {a : Nat} {v : Int32} (hx : p.tables.exec = Jvm.exec) (hb : c.code = M.2.1) (hml : c.maxLocals = mL M) (hown : s.vm.findClass (nmC (mCn M)) = some m.cls) (hts : ∀ w ∈ GT, w.before args s = true) (hE : EnvF b0 sa D dA stc s s.heap) (hIn : M.1.name = "<init>" → meth.name = "<init>") (hCl : M.1.cls = nmC (mCn M)) (hd : decode M.2.1 pc = .ok (.arraylength, 1)) (hg0 : aL (hg w a) = some v) (hRl : RelH b0 sa D dA stc w H) (hS : va_S (fun q => b0 ≤ q) s.heap H locs) (hcc : s.heap.size + cells = H.size)
    (kk : W p l e R s m args below meth c H locs cells slots Q (F0 m (pc + 1) ls (.int v :: r))) : W p l e R s m args below meth c H locs cells slots Q (F0 m pc ls (.ref (al b0 sa a) :: r)) := by
  unfold aL at hg0
  split at hg0
  · rename_i t y ho
    split at hg0
    · rename_i hc0
      cases hg0
      rcases Nat.lt_or_ge a 32 with hlt | hge
      · obtain ⟨g1, k1, f1, hxx, hT⟩ := hE.2.1 a hlt _ _ ((hRl.2.2.2.1 a hlt).symm.trans ho)
        subst hxx
        rw [al_sta hlt]
        exact va_tlen hx hb hT hS rfl hd kk
      · have hlive : a < w.1 := hRl.live (by intro z; rw [z] at ho; cases ho)
        have ht4 := hRl.2.2.2.2.1 a _ _ hge ho
        have hat := ws_at (b0 := b0) (sa := sa) (dA := dA) hge hlive
        rw [ho] at hat
        obtain ⟨y', h1, h2⟩ := em_len (dA := dA) (f := al b0 sa) t y
        rw [h1] at hat
        have hty : ∃ ty, (tysL dA)[t]? = some (dA t, ty) := by
          match t, ht4 with
          | 0, _ => exact ⟨_, rfl⟩
          | 1, _ => exact ⟨_, rfl⟩
          | 2, _ => exact ⟨_, rfl⟩
          | 3, _ => exact ⟨_, rfl⟩
          | 4, _ => exact ⟨_, rfl⟩
          | t + 5, h => exact absurd h (Nat.not_le.mpr (Nat.le_add_left 5 t))
        obtain ⟨ty, hty⟩ := hty
        exact va_alen hx hb hE.1 hRl.P (a - 32) t hat hty (by rw [h2]) hd kk
    · cases hg0
  · cases hg0
theorem dA_of {t : Nat} {cA : ClassId} {ty : FieldType} {tys : List (ClassId × FieldType)} (h : va_K D vwCl (tysL dA) s) (ht : (tysL dA)[t]? = some (dA t, ty)) (h2 : va_K D vwCl (tys ++ [(cA, ty)]) s) : cA = dA t := by
  have h3 := (h2.2 tys.length (cA, ty) (by rw [List.getElem?_append_right (Nat.le_refl _), Nat.sub_self]; rfl)).2
  have h4 := (h.2 t _ ht).2
  cases ty with
  | object C =>
    obtain ⟨_, _, -, -, -, e1⟩ := h3
    obtain ⟨_, _, -, -, -, e2⟩ := h4
    exact Option.some.inj (e1.symm.trans e2)
  | _ => exact Option.some.inj (h3.symm.trans h4)
theorem clampN {k : Int32} (h : 0 ≤ k.toInt ∧ k.toInt ≤ 65536) : ¬ k < 0 ∧ k.toNatClampNeg ≤ 65536 := by
  refine ⟨fun z => ?_, ?_⟩
  · have := Int32.lt_iff_toInt_lt.mp z
    rw [show (0 : Int32).toInt = 0 from rfl] at this
    omega
  · show k.toInt.toNat ≤ 65536
    omega
theorem snd_newa {t : ArrayType} {k : Int32} {e1 : va_E} (hx : p.tables.exec = Jvm.exec) (hb : c.code = M.2.1) (hml : c.maxLocals = mL M) (hown : s.vm.findClass (nmC (mCn M)) = some m.cls) (hts : ∀ w ∈ GT, w.before args s = true) (hE : EnvF b0 sa D dA stc s s.heap) (hIn : M.1.name = "<init>" → meth.name = "<init>") (hCl : M.1.cls = nmC (mCn M)) (hd : decode M.2.1 pc = .ok (.newarray t, 2)) (hk : 0 ≤ k.toInt ∧ k.toInt ≤ 65536) (hg0 : nA t k.toNatClampNeg = some e1) (hRl : RelH b0 sa D dA stc w H) (hS : va_S (fun q => b0 ≤ q) s.heap H locs) (hcc : s.heap.size + cells = H.size) (hr1 : cells + 1 ≤ R.cells) (hr2 : slots + k.toNatClampNeg ≤ R.slots)
    (kk : ∀ (H1 : Heap), RelH b0 sa D dA stc (hn w e1 k.toNatClampNeg) H1 → va_S (fun q => b0 ≤ q) s.heap H1 locs → s.heap.size + (cells + 1) = H1.size → W p l e R s m args below meth c H1 locs (cells + 1) (slots + k.toNatClampNeg) Q (F0 m (pc + 2) ls (.ref (al b0 sa w.1) :: r))) : W p l e R s m args below meth c H locs cells slots Q (F0 m pc ls (.int k :: r)) := by
  obtain ⟨hk0, hk1⟩ := clampN hk
  have hA : ∀ q, s.heap.size ≤ q → b0 ≤ q := fun q h => Nat.le_trans hE.2.2.2.2.2 h
  unfold nA at hg0
  split at hg0
  · cases hg0
    refine va_newa (atype := .int) (a0 := (k.toNatClampNeg, .inl (fun _ => 0))) hx hb (hts _ ac_int) rfl hE.1 hRl.P ws_D hS hA (fun _ => rfl) hk0 rfl (by show k.toNatClampNeg * 4 ≤ _; omega) hr1 hr2 hd (fun q cA H1 hK1 hP1 hD1 hS1 => W_size fun hz => ?_)
    have hcA := dA_of (t := 0) hE.1 rfl hK1
    subst hcA
    obtain ⟨g0, g1, g2⟩ := hRl.new (n := k.toNatClampNeg) (e := .inl (0, k.toNatClampNeg, .inl (fun _ => 0))) hP1 hD1 hcc (by omega) (fun t y h => by cases h; decide)
    subst g0
    exact kk H1 g1 hS1 (by omega)
  · cases hg0
    refine va_newa (atype := .long) (a0 := (k.toNatClampNeg, .inr (.inl (fun _ => 0)))) hx hb (hts _ ac_long) rfl hE.1 hRl.P ws_D hS hA (fun _ => rfl) hk0 rfl (by show k.toNatClampNeg * 8 ≤ _; omega) hr1 hr2 hd (fun q cA H1 hK1 hP1 hD1 hS1 => W_size fun hz => ?_)
    have hcA := dA_of (t := 1) hE.1 rfl hK1
    subst hcA
    obtain ⟨g0, g1, g2⟩ := hRl.new (n := k.toNatClampNeg) (e := .inl (1, k.toNatClampNeg, .inr (.inl (fun _ => 0)))) hP1 hD1 hcc (by omega) (fun t y h => by cases h; decide)
    subst g0
    exact kk H1 g1 hS1 (by omega)
  · cases hg0
    refine va_newa (atype := .boolean) (a0 := (k.toNatClampNeg, .inl (fun _ => 0))) hx hb (hts _ ac_boolean) rfl hE.1 hRl.P ws_D hS hA (fun _ => rfl) hk0 rfl (by show k.toNatClampNeg * 1 ≤ _; omega) hr1 hr2 hd (fun q cA H1 hK1 hP1 hD1 hS1 => W_size fun hz => ?_)
    have hcA := dA_of (t := 2) hE.1 rfl hK1
    subst hcA
    obtain ⟨g0, g1, g2⟩ := hRl.new (n := k.toNatClampNeg) (e := .inl (2, k.toNatClampNeg, .inl (fun _ => 0))) hP1 hD1 hcc (by omega) (fun t y h => by cases h; decide)
    subst g0
    exact kk H1 g1 hS1 (by omega)
  · cases hg0
theorem snd_anew {t ix : Nat} {k : Int32} (hx : p.tables.exec = Jvm.exec) (hb : c.code = M.2.1) (hml : c.maxLocals = mL M) (hown : s.vm.findClass (nmC (mCn M)) = some m.cls) (hts : ∀ w ∈ GT, w.before args s = true) (hE : EnvF b0 sa D dA stc s s.heap) (hIn : M.1.name = "<init>" → meth.name = "<init>") (hCl : M.1.cls = nmC (mCn M)) (hd : decode M.2.1 pc = .ok (.anewarray ix, 3)) (hq : resA (mCn M) ix = some t) (hk : 0 ≤ k.toInt ∧ k.toInt ≤ 65536) (hRl : RelH b0 sa D dA stc w H) (hS : va_S (fun q => b0 ≤ q) s.heap H locs) (hcc : s.heap.size + cells = H.size) (hr1 : cells + 1 ≤ R.cells) (hr2 : slots + k.toNatClampNeg ≤ R.slots)
    (kk : ∀ (H1 : Heap), RelH b0 sa D dA stc (hn w (.inl (t, k.toNatClampNeg, .inr (.inr (.inr (.inr (fun _ => none)))))) k.toNatClampNeg) H1 → va_S (fun q => b0 ≤ q) s.heap H1 locs → s.heap.size + (cells + 1) = H1.size → W p l e R s m args below meth c H1 locs (cells + 1) (slots + k.toNatClampNeg) Q (F0 m (pc + 3) ls (.ref (al b0 sa w.1) :: r))) : W p l e R s m args below meth c H locs cells slots Q (F0 m pc ls (.int k :: r)) := by
  obtain ⟨hk0, hk1⟩ := clampN hk
  have hA : ∀ q, s.heap.size ≤ q → b0 ≤ q := fun q h => Nat.le_trans hE.2.2.2.2.2 h
  have hm := resA_in hq
  have hlink := hts _ (AT_w _ hm _ (by unfold wdA; exact List.mem_cons_self))
  have hfin : ∀ (ty : FieldType), (tysL dA)[t]? = some (dA t, ty) → ty = .object (aqN t) → t ≤ 4 → va_AO (aqN t) s → W p l e R s m args below meth c H locs cells slots Q (F0 m pc ls (.int k :: r)) := by
    intro ty hty hty2 ht4 hao
    subst hty2
    refine va_newq (C := aqN t) hx hb hown hlink hao hE.1 hRl.P ws_D hS hA hk0 rfl (by omega) hr1 hr2 hd (fun q cA H1 hK1 hP1 hD1 hS1 => W_size fun hz => ?_)
    have hcA := dA_of (t := t) hE.1 hty hK1
    subst hcA
    obtain ⟨g0, g1, g2⟩ := hRl.new (n := k.toNatClampNeg) (e := .inl (t, k.toNatClampNeg, .inr (.inr (.inr (.inr (fun _ => none)))))) hP1 hD1 hcc (by omega) (fun t y h => by cases h; exact ht4)
    subst g0
    exact kk H1 g1 hS1 (by omega)
  have ht : t = 3 ∨ t = 4 := AT_k _ hm
  rcases ht with rfl | rfl
  · exact hfin _ rfl rfl (by decide) hE.2.2.2.2.1.2.2.2.1
  · exact hfin _ rfl rfl (by decide) hE.2.2.2.2.1.2.2.2.2
theorem snd_new {ci ix : Nat} (hx : p.tables.exec = Jvm.exec) (hb : c.code = M.2.1) (hml : c.maxLocals = mL M) (hown : s.vm.findClass (nmC (mCn M)) = some m.cls) (hts : ∀ w ∈ GT, w.before args s = true) (hE : EnvF b0 sa D dA stc s s.heap) (hIn : M.1.name = "<init>" → meth.name = "<init>") (hCl : M.1.cls = nmC (mCn M)) (hd : decode M.2.1 pc = .ok (.new ix, 3)) (hq : resN (mCn M) ix = some ci) (hRl : RelH b0 sa D dA stc w H) (hS : va_S (fun q => b0 ≤ q) s.heap H locs) (hcc : s.heap.size + cells = H.size) (hr1 : cells + 1 ≤ R.cells) (hr2 : slots + (clOf ci).2.2 ≤ R.slots)
    (kk : ∀ (H1 : Heap), RelH b0 sa D dA stc (hn w (.inr (ci, dfs ci)) (clOf ci).2.2) H1 → va_S (fun q => b0 ≤ q) s.heap H1 locs → s.heap.size + (cells + 1) = H1.size → W p l e R s m args below meth c H1 locs (cells + 1) (slots + (clOf ci).2.2) Q (F0 m (pc + 3) ls (.ref (al b0 sa w.1) :: r))) : W p l e R s m args below meth c H locs cells slots Q (F0 m pc ls r) := by
  have hA : ∀ q, s.heap.size ≤ q → b0 ≤ q := fun q h => Nat.le_trans hE.2.2.2.2.2 h
  have hm := resN_in hq
  have hw := NT_w _ hm
  have hci : ci < 12 := NT_k _ hm
  obtain ⟨c1, c2, c3, c4, c5, c6⟩ := cls_all ci hci
  refine va_new (C := (clOf ci).1) (T := (clOf ci).2.1) (N := (clOf ci).2.2) hx hb hts c2 (tyOf ci) c3 hown (hts _ (hw _ (by simp [wdN]))) (hts _ (hw _ (by simp [wdN]))) (hts _ (hw _ (by simp [wdN]))) hE.1 hRl.P ws_D hS hA c1 (fs := dfs ci) c5 hr1 hr2 hd (fun q H1 hP1 hD1 hS1 => W_size fun hz => ?_)
  have he : em dA (al b0 sa) (.inr (ci, dfs ci)) = .inr (ci, dfs ci) := by
    show Sum.inr (ci, (dfs ci).map (vm (al b0 sa))) = _
    rw [c6]
  obtain ⟨g0, g1, g2⟩ := hRl.new (n := (clOf ci).2.2) (e := .inr (ci, dfs ci)) (by rw [he]; exact hP1) (by rw [he]; exact hD1) hcc (by omega) (fun t y h => by cases h)
  subst g0
  exact kk H1 g1 hS1 (by omega)
theorem stOK_le {q : List Value} (h : stOK q = true) (f : Nat → Nat) : ((q.map (vm f)).map fun v => v.category).sum ≤ 8 := by
  have h1 := of_decide_eq_true h
  rw [List.map_map]
  have : ((fun v : Value => v.category) ∘ vm f) = (fun v : Value => v.category) := by funext v; exact vm_cat f v
  rw [this]
  exact h1
theorem snd_oinit {ix a : Nat} {M2 : MI} (hx : p.tables.exec = Jvm.exec) (hb : c.code = M.2.1) (hml : c.maxLocals = mL M) (hown : s.vm.findClass (nmC (mCn M)) = some m.cls) (hts : ∀ w ∈ GT, w.before args s = true) (hE : EnvF b0 sa D dA stc s s.heap) (hIn : M.1.name = "<init>" → meth.name = "<init>") (hCl : M.1.cls = nmC (mCn M)) (hd : decode M.2.1 pc = .ok (.invokespecial ix, 3)) (hq : resM (mCn M) ix = some (6, M2)) (hk : stOK r = true) (hls : ls.size = mL M) (hf : 2 ≤ R.frames) (hlo : 80 ≤ R.locals)
    (kk : W p l e R s m args below meth c H locs cells slots Q (F0 m (pc + 3) ls (r.map (vm (al b0 sa))))) : W p l e R s m args below meth c H locs cells slots Q (F0 m pc ls (.ref (al b0 sa a) :: r.map (vm (al b0 sa)))) := by
  have hm := resM_in hq
  have hw := MT_w _ hm
  have h8 := stOK_le hk (al b0 sa)
  refine W.objInit hx hb hown (hts _ (hw _ (by simp [wdM]))) (hts _ (hw _ (by simp [wdM]))) (hts _ (hw _ (by simp [wdM]))) (g := F0 m pc ls (.ref (al b0 sa a) :: r.map (vm (al b0 sa)))) rfl (by rw [hml]; exact hls) rfl hd (by omega) (by show 2 * 0 + _ + 12 ≤ _; omega) ?_
  exact kk
theorem snd_acopy {ix a b : Nat} {sp dp k : Int32} {e1 : va_E} {M2 : MI} (hx : p.tables.exec = Jvm.exec) (hb : c.code = M.2.1) (hml : c.maxLocals = mL M) (hown : s.vm.findClass (nmC (mCn M)) = some m.cls) (hts : ∀ w ∈ GT, w.before args s = true) (hE : EnvF b0 sa D dA stc s s.heap) (hIn : M.1.name = "<init>" → meth.name = "<init>") (hCl : M.1.cls = nmC (mCn M)) (hd : decode M.2.1 pc = .ok (.invokestatic ix, 3)) (hq : resM (mCn M) ix = some (7, M2)) (hk : stOK r = true) (hls : ls.size = mL M) (hf : 2 ≤ R.frames) (hlo : 80 ≤ R.locals) (hg0 : aC (hg w a) (hg w b) sp dp k = some e1) (hRl : RelH b0 sa D dA stc w H) (hS : va_S (fun q => b0 ≤ q) s.heap H locs) (hcc : s.heap.size + cells = H.size)
    (kk : ∀ (H1 : Heap) (locs1 : List Loc), RelH b0 sa D dA stc (hs w b e1) H1 → va_S (fun q => b0 ≤ q) s.heap H1 locs1 → s.heap.size + cells = H1.size → W p l e R s m args below meth c H1 locs1 cells slots Q (F0 m (pc + 3) ls (r.map (vm (al b0 sa))))) : W p l e R s m args below meth c H locs cells slots Q (F0 m pc ls (.int k :: .int dp :: .ref (al b0 sa b) :: .int sp :: .ref (al b0 sa a) :: r.map (vm (al b0 sa)))) := by
  have hm := resM_in hq
  have hw := MT_w _ hm
  have h8 := stOK_le hk (al b0 sa)
  unfold aC at hg0
  split at hg0
  · rename_i t n1 f t2 n2 g ho1 ho2
    split at hg0
    · rename_i hc0
      cases hg0
      obtain ⟨rfl, rfl, z1, z2, z3, z4, z5⟩ := hc0
      have own : ∀ x n f, hg w x = .inl (0, n, .inl f) → 32 ≤ x ∧ x < w.1 := by
        intro x n f ho
        refine ⟨?_, hRl.live (by intro z; rw [z] at ho; cases ho)⟩
        rcases Nat.lt_or_ge x 32 with hlt | hge
        · exfalso
          obtain ⟨g1, -⟩ := hE.2.1 x hlt _ _ ((hRl.2.2.2.1 x hlt).symm.trans ho)
          exact absurd g1 (by decide)
        · exact hge
      obtain ⟨a1, a2⟩ := own a _ _ ho1
      obtain ⟨b1, b2⟩ := own b _ _ ho2
      have hat := ws_at (b0 := b0) (sa := sa) (dA := dA) a1 a2
      rw [ho1] at hat
      have hbt := ws_at (b0 := b0) (sa := sa) (dA := dA) b1 b2
      rw [ho2] at hbt
      have hnw : nativeFrameWords "java/lang/System" "arraycopy" 5 ≤ 60 := by decide +kernel
      refine va_copyi (ty := .int) hx hb (hml.trans hls.symm) hown (hts _ (hw _ (by simp [wdM]))) (hts _ (hw _ (by simp [wdM]))) (hts _ (hw _ (by simp [wdM]))) (hts _ (hw _ (by simp [wdM]))) hE.1 hRl.P ws_D hS (a - 32) (b - 32) 0 0 hat hbt rfl rfl rfl z1 z2 z3 z4 z5 (fun _ _ => rfl) (by omega) (by omega) hd (fun H1 locs1 hP1 _ hS1 => W_size fun hz => ?_)
      obtain ⟨g1, g2⟩ := hRl.set (e := .inl (0, n2, .inl (va_cpy f g sp.toNatClampNeg dp.toNatClampNeg k.toNatClampNeg))) b1 b2 hP1 hcc hz (fun t y h => by cases h; decide)
      exact kk H1 locs1 g1 hS1 g2.symm
    · cases hg0
  · cases hg0
end I4
