/-! ===== the soundness of run ===== -/
theorem MT_v : ∀ q ∈ MT, q.2.2.1 = 2 → ((clOf (mKi q.2.2.2)).1 = q.2.2.2.1.cls ∧ (mKi q.2.2.2 < 12 ∨ mKi q.2.2.2 = 50)) := by decide +kernel
theorem MT_s : ∀ q ∈ MT, q.2.2.1 = 0 ∨ q.2.2.1 = 1 ∨ q.2.2.1 = 2 ∨ q.2.2.1 = 3 ∨ q.2.2.1 = 4 ∨ q.2.2.1 = 6 ∨ q.2.2.1 = 7 := by decide +kernel
set_option maxRecDepth 20000 in
theorem gs_bodies : Cond.fieldLink (nmC 9) 41 "CarpetLands$Voice" "BODIES" "[I" ∈ GT := in_GT (ws := [Cond.fieldLink (nmC 9) 41 "CarpetLands$Voice" "BODIES" "[I"]) [973] (by decide +kernel) (by decide +kernel) _ List.mem_cons_self
set_option maxRecDepth 20000 in
theorem gs_compact : Cond.fieldLink (nmC 14) 38 "java/lang/String" "COMPACT_STRINGS" "Z" ∈ GT := in_GT (ws := [Cond.fieldLink (nmC 14) 38 "java/lang/String" "COMPACT_STRINGS" "Z"]) [580] (by decide +kernel) (by decide +kernel) _ List.mem_cons_self
theorem MT_c : ∀ q ∈ MT, (q.2.2.1 ≤ 4) → codeW q.2.2.2 ∈ GT := by
  intro q hq hk
  have h := MT_w q hq
  have hk2 := MT_s q hq
  obtain ⟨a, b, k, M⟩ := q
  rcases hk2 with rfl | rfl | rfl | rfl | rfl | rfl | rfl <;> first | exact absurd (show 6 ≤ 4 from hk) (by decide) | exact absurd (show 7 ≤ 4 from hk) (by decide) | exact h _ (by simp [wdM])
section S5
variable {b0 : Nat} {sa : Nat → Nat} {D : va_G} {dA : Nat → ClassId} {stc : Nat → va_E}
def rmOf (M : MI) (lv mc ms : Nat) : Room := { frames := 64 * mRk M + lv + 2, cells := mc, slots := ms, locals := 40 * (64 * mRk M + lv + 2) }
def wsM (M : MI) : List Cond := codeW M :: GT
def PcM (b0 : Nat) (sa : Nat → Nat) (D : va_G) (dA : Nat → ClassId) (stc : Nat → va_E) (a : List Value) (w : AH) : Array Value → State → Prop := fun v U => v = (a.map (vm (al b0 sa))).toArray ∧ RelH b0 sa D dA stc w U.heap ∧ EnvF b0 sa D dA stc U U.heap
def QcM (b0 : Nat) (sa : Nat → Nat) (D : va_G) (dA : Nat → ClassId) (stc : Nat → va_E) (r : Option Value × AH) : Array Value → State → Outcome → State → Prop := fun _ st oc t => oc = .returned (r.1.map (vm (al b0 sa))) ∧ RelH b0 sa D dA stc r.2 t.heap ∧ va_F (fun q => b0 ≤ q) st t
def SndP (b0 : Nat) (sa : Nat → Nat) (D : va_G) (dA : Nat → ClassId) (stc : Nat → va_E) (l : Launch) (n : Nat) : Prop :=
  ∀ (M : MI) (lv pc : Nat) (lx : LX) (st : List Value) (w : AH) (r : Option Value × AH), run n (M, lv, pc, lx, st) w = some r → okMI M = true →
    ∀ (p : Program) (e : Env) (R : Room) (s : State) (m : MethodId) (args : Array Value) (below : List Frame) (meth : Method) (c : Code) (H : Heap) (locs : List Loc) (cells slots C S : Nat) (Q : State → Prop) (ls : Array Slot),
      p.tables.exec = Jvm.exec → c.code = M.2.1 → c.maxLocals = mL M → s.vm.findClass (nmC (mCn M)) = some m.cls → (∀ w ∈ GT, w.before args s = true) → EnvF b0 sa D dA stc s s.heap → (M.1.name = "<init>" → meth.name = "<init>") →
      64 * mRk M + lv + 2 ≤ R.frames → 40 * (64 * mRk M + lv + 2) ≤ R.locals → RelH b0 sa D dA stc w H → va_S (fun q => b0 ≤ q) s.heap H locs → s.heap.size + cells = H.size → lv_has ls (mL M) (ents (al b0 sa) lx 0) →
      cells + r.2.1 = C + w.1 → slots + r.2.2.1 = S + w.2.1 → C ≤ R.cells → S ≤ R.slots →
      (∀ (pc2 n2 : Nat) (i2 : Instr) (st2 : List Value) (H2 : Heap) (locs2 : List Loc) (ls2 : Array Slot), decode M.2.1 pc2 = .ok (i2, n2) → sR M i2 n2 st2 = some r.1 → RelH b0 sa D dA stc r.2 H2 → va_S (fun q => b0 ≤ q) s.heap H2 locs2 → s.heap.size + C = H2.size → W p l e R s m args below meth c H2 locs2 C S Q (F0 m pc2 ls2 (st2.map (vm (al b0 sa))))) →
      W p l e R s m args below meth c H locs cells slots Q (F0 m pc ls (st.map (vm (al b0 sa))))
theorem okMI_e {M : MI} (h : okMI M = true) : plainFor M.1 = true ∧ (M.1.cls ≠ "java/lang/invoke/MethodHandle" ∧ M.1.cls ≠ "java/lang/invoke/VarHandle" ∧ (parseMethodDescriptor M.1.desc).map (fun d => d.parameters.length) = some (mNp M)) ∧ mL M ≤ 21 ∧ nmC (mCn M) = M.1.cls := by
  simp only [okMI, Bool.and_eq_true, decide_eq_true_eq] at h
  obtain ⟨⟨⟨⟨⟨⟨h1, h2⟩, h3⟩, h4⟩, h5⟩, h6⟩, h7⟩ := h
  exact ⟨h1, ⟨h2, h3, h4⟩, h5, h6⟩
set_option maxHeartbeats 4000000 in
theorem met_of {l : Launch} {n : Nat} (ih : SndP b0 sa D dA stc l n) {M : MI} {lv : Nat} {a : List Value} {w : AH} {r : Option Value × AH} (h : run n (M, lv, 0, ent a, []) w = some r) (hM : okMI M = true) (hc : codeW M ∈ GT) (hn : (ent a).length ≤ mL M) :
    Met l M.1 (wsM M) (rmOf M lv (r.2.1 - w.1) (r.2.2.1 - w.2.1)) (PcM b0 sa D dA stc a w) (QcM b0 sa D dA stc r) (r.2.1 - w.1) (r.2.2.1 - w.2.1) (fun q => b0 ≤ q) := by
  obtain ⟨hy, -, hmx, hcl⟩ := okMI_e hM
  have hgr := run_grow h
  refine metW (cc := M.2.1) (mx := mL M) (ret := mRet M) hy rfl ?_
  intro p e s m args below meth c s₁ B hml hP
  obtain ⟨rfl, hRl, hE⟩ := hP
  have hts0 := atoms_spec (ws := wsM M) B.pre
  have hown : s.vm.findClass M.1.cls = some m.cls := findClass_of_methodNamed B.named
  have hlocks := B.notSynchronized
  have hin := (name_of_methodNamed B.named B.method).1
  have hl := lv_entry (a.map (vm (al b0 sa))) (n := mL M) (by rw [ent_len]; exact hn)
  rw [lg_entry_eq]
  generalize (lg_sl (a.map (vm (al b0 sa))) ++ List.replicate (mL M - (lg_sl (a.map (vm (al b0 sa)))).length) Slot.unset).toArray = ls at hl ⊢
  rw [← ents_ent] at hl
  have hr := B.returns
  refine ih M lv 0 (ent a) [] w r h hM p e _ s m _ below meth c s.heap [] 0 0 (r.2.1 - w.1) (r.2.2.1 - w.2.1) _ ls B.exec B.bytes hml (by rw [hcl]; exact hown) (fun w hw => hts0 w (List.mem_cons_of_mem _ hw)) hE (fun z => hin.trans z) (Nat.le_refl _) (Nat.le_refl _) hRl va_S.rf rfl hl (by omega) (by omega) (Nat.le_refl _) (Nat.le_refl _) ?_
  intro pc2 n2 i2 st2 H2 locs2 ls2 hd hsr hR2 hS2 hz
  have hb := B.bytes
  have hx := B.exec
  unfold sR at hsr
  split at hsr
  · split at hsr
    · rename_i v hret
      split at hsr
      · rename_i h1
        subst h1
        have hv : _ = r.1 := Option.some.inj hsr
        exact W.iret (v := v) hx hb (hr.trans hret) (fun t ht hW => ⟨by rw [← hv]; rfl, by rw [ht]; exact hR2, hS2.F ht⟩) hS2.2.2 hd
      · cases hsr
    · rename_i v hret
      split at hsr
      · rename_i h1
        obtain ⟨rfl, h2⟩ := h1
        have hv : _ = r.1 := Option.some.inj hsr
        exact W.zret (v := v) hx hb (hr.trans hret) (by rcases h2 with rfl | rfl <;> rfl) (fun t ht hW => ⟨by rw [← hv]; rfl, by rw [ht]; exact hR2, hS2.F ht⟩) hS2.2.2 hd
      · cases hsr
    · rename_i v hret
      split at hsr
      · rename_i h1
        obtain ⟨rfl, rfl⟩ := h1
        have hv : _ = r.1 := Option.some.inj hsr
        exact W.zret (v := 0) hx hb (hr.trans hret) rfl (fun t ht hW => ⟨by rw [← hv]; rfl, by rw [ht]; exact hR2, hS2.F ht⟩) hS2.2.2 hd
      · cases hsr
    · cases hsr
  · split at hsr
    · rename_i v hret
      split at hsr
      · rename_i h1
        subst h1
        have hv : _ = r.1 := Option.some.inj hsr
        exact W.lret (v := v) hx hb (hr.trans hret) (fun t ht hW => ⟨by rw [← hv]; rfl, by rw [ht]; exact hR2, hS2.F ht⟩) hS2.2.2 hd
      · cases hsr
    · cases hsr
  · split at hsr
    · rename_i v C hret
      split at hsr
      · rename_i h1
        subst h1
        have hv : _ = r.1 := Option.some.inj hsr
        exact W.aret (v := .ref (al b0 sa v)) hx hb (hr.trans hret) (Or.inl ⟨_, rfl⟩) (Or.inr ⟨_, rfl⟩) (fun t ht hW => ⟨by rw [← hv]; rfl, by rw [ht]; exact hR2, hS2.F ht⟩) hS2.2.2 hd
      · cases hsr
    · rename_i C hret
      split at hsr
      · rename_i h1
        subst h1
        have hv : _ = r.1 := Option.some.inj hsr
        exact W.aret (v := .null) hx hb (hr.trans hret) (Or.inl ⟨_, rfl⟩) (Or.inl rfl) (fun t ht hW => ⟨by rw [← hv]; rfl, by rw [ht]; exact hR2, hS2.F ht⟩) hS2.2.2 hd
      · cases hsr
    · cases hsr
  · split at hsr
    · rename_i hret
      split at hsr
      · rename_i h1
        subst h1
        have hv : _ = r.1 := Option.some.inj hsr
        exact W.vret hx hb (hr.trans hret) (fun t ht hW => ⟨by rw [← hv]; rfl, by rw [ht]; exact hR2, hS2.F ht⟩) hS2.2.2 hd
      · cases hsr
    · cases hsr
  · cases hsr
theorem pc_blind {a : List Value} {w : AH} : FrameBlind (PcM b0 sa D dA stc a w) := by
  intro v U g mk h
  obtain ⟨h1, h2, h3⟩ := h
  exact ⟨h1, h2, EnvF.same (u := U) h3 rfl⟩
theorem pushR_map (f : Nat → Nat) (v : Option Value) (q : List Value) : (pushR v q).map (vm f) = (v.map (vm f)).toList ++ q.map (vm f) := by cases v <;> rfl
theorem call_go {p : Program} {l : Launch} {e : Env} {R : Room} {s : State} {m : MethodId} {args : Array Value} {below : List Frame} {meth : Method} {c : Code} {H : Heap} {locs : List Loc} {cells slots mc ms pc : Nat} {Q : State → Prop} {ls : Array Slot} {st0 rest : List Value} {r : Option Value × AH} {a : Array Value}
    (hr : va_Run p l e R s m args below meth c H locs cells slots mc ms (F0 m pc ls st0) rest (QcM b0 sa D dA stc r a) (fun q => b0 ≤ q)) (hS : va_S (fun q => b0 ≤ q) s.heap H locs)
    (kk : ∀ (H1 : Heap) (locs1 : List Loc), RelH b0 sa D dA stc r.2 H1 → va_S (fun q => b0 ≤ q) s.heap H1 locs1 → W p l e R s m args below meth c H1 locs1 (cells + mc) (slots + ms) Q (F0 m (pc + 3) ls ((r.1.map (vm (al b0 sa))).toList ++ rest))) : W p l e R s m args below meth c H locs cells slots Q (F0 m pc ls st0) := by
  intro T hT X
  obtain ⟨v, st₀, t, T', L, h0, X', hL, e1, e2, ⟨hv, hR1, hz, hk⟩, st⟩ := hr T hT X
  cases hv
  rw [h0] at hz hk
  rw [← e1] at hR1 hz hk
  obtain ⟨t2, a1, b1⟩ := kk T'.heap (locs ++ L) hR1 ⟨Nat.le_trans hS.1 hz, fun q h1 h2 => (hk q (Nat.lt_of_lt_of_le h1 hS.1) h2).trans (hS.2.1 q h1 h2), fun q hq => (List.mem_append.mp hq).elim (hS.2.2 q) (hL q)⟩ T' rfl X'
  exact ⟨t2, st t2 a1, b1⟩
theorem sLv_room {M M2 : MI} {lv lv2 : Nat} (h : sLv M M2 lv = some lv2) : 64 * mRk M2 + lv2 + 2 + 1 ≤ 64 * mRk M + lv + 2 := by
  unfold sLv at h
  split at h
  · cases h; omega
  · split at h
    · cases h; omega
    · cases h
set_option maxHeartbeats 4000000 in
theorem snd_H {l : Launch} {n : Nat} (_ : SndP b0 sa D dA stc l n) {p : Program} {e : Env} {R : Room} {s : State} {m : MethodId} {args : Array Value} {below : List Frame} {meth : Method} {c : Code} {H : Heap} {locs : List Loc} {cells slots C S k pc lv : Nat} {Q : State → Prop} {ls : Array Slot} {M : MI} {i : Instr} {st st2 : List Value} {w w2 : AH} {r : Option Value × AH} {lx : LX}
    (hx : p.tables.exec = Jvm.exec) (hb : c.code = M.2.1) (hml : c.maxLocals = mL M) (hown : s.vm.findClass (nmC (mCn M)) = some m.cls) (hts : ∀ w ∈ GT, w.before args s = true) (hE : EnvF b0 sa D dA stc s s.heap) (hIn : M.1.name = "<init>" → meth.name = "<init>") (hCl : M.1.cls = nmC (mCn M)) (hR1 : 64 * mRk M + lv + 2 ≤ R.frames) (hR2 : 40 * (64 * mRk M + lv + 2) ≤ R.locals)
    (hd : decode M.2.1 pc = .ok (i, k)) (h : sH M i st w = some (k, st2, w2)) (hRl : RelH b0 sa D dA stc w H) (hS : va_S (fun q => b0 ≤ q) s.heap H locs) (hcc : s.heap.size + cells = H.size) (hl : lv_has ls (mL M) (ents (al b0 sa) lx 0)) (hC1 : cells + r.2.1 = C + w.1) (hS1 : slots + r.2.2.1 = S + w.2.1) (hC2 : C ≤ R.cells) (hS2 : S ≤ R.slots) (hgr : w2.1 ≤ r.2.1 ∧ w2.2.1 ≤ r.2.2.1)
    (cont : ∀ (H2 : Heap) (locs2 : List Loc) (cells2 slots2 : Nat), RelH b0 sa D dA stc w2 H2 → va_S (fun q => b0 ≤ q) s.heap H2 locs2 → s.heap.size + cells2 = H2.size → cells2 + r.2.1 = C + w2.1 → slots2 + r.2.2.1 = S + w2.2.1 → W p l e R s m args below meth c H2 locs2 cells2 slots2 Q (F0 m (pc + k) ls (st2.map (vm (al b0 sa))))) :
    W p l e R s m args below meth c H locs cells slots Q (F0 m pc ls (st.map (vm (al b0 sa)))) := by
  have hls : ls.size = mL M := hl.1
  have hf2 : 2 ≤ R.frames := by omega
  have hl80 : 80 ≤ R.locals := by omega
  unfold sH at h
  split at h
  · rename_i ix
    split at h
    · rename_i v hv
      cases h
      exact lv_ldc hx hb hown (hts _ (KT_w _ (resK_in hv) _ (by simp [wdK]))) hd (cont H locs cells slots hRl hS hcc hC1 hS1)
    · cases h
    · split at h
      · rename_i j hj
        cases h
        have hcn : mCn M = 4 := by
          unfold resS at hj
          split at hj
          · assumption
          · cases hj
        rw [hcn] at hj hown
        obtain ⟨h9, tx, hv⟩ := hE.2.2.2.2.1.1 _ _ hj
        refine va_ldcS hx hb hown hv hd ?_
        have := cont H locs cells slots hRl hS hcc hC1 hS1
        have e1 : al b0 sa (3 + j) = sa (3 + j) := al_sta (by omega)
        simp only [List.map_cons, vm, e1] at this
        exact this
      · cases h
  · rename_i ix
    split at h
    · rename_i v hv
      cases h
      exact lv_ldcw hx hb hown (hts _ (KT_w _ (resK_in hv) _ (by simp [wdK]))) hd (cont H locs cells slots hRl hS hcc hC1 hS1)
    · cases h
  · rename_i ix
    split at h
    · rename_i v hv
      cases h
      exact lv_ldc2 hx hb hown (hts _ (KT_w _ (resK_in hv) _ (by simp [wdK]))) hd (cont H locs cells slots hRl hS hcc hC1 hS1)
    · cases h
  · rename_i ix
    split at h
    · rename_i v hv
      cases h
      obtain ⟨z1, z2, z3⟩ := hE.2.2.2.1
      unfold resG at hv
      split at hv
      · rename_i hc
        obtain ⟨hc1, rfl⟩ := hc
        cases hv
        rw [hc1] at hown
        have := cont H locs cells slots hRl hS hcc hC1 hS1
        have e1 : al b0 sa 1 = sa 1 := al_sta (by decide)
        simp only [List.map_cons, vm, e1] at this
        exact va_getsN hx hb z1 hS hown (va_Nw.use rfl hE.2.2.2.2.1.2.2.1) (fun _ h => h) hd this
      · split at hv
        · rename_i hc
          obtain ⟨hc1, rfl⟩ := hc
          cases hv
          rw [hc1] at hown
          have := cont H locs cells slots hRl hS hcc hC1 hS1
          have e1 : al b0 sa 2 = sa 2 := al_sta (by decide)
          simp only [List.map_cons, vm, e1] at this
          exact va_gets hx hb z2 hS hown (hts _ gs_bodies) (fun _ h => h) hd this
        · split at hv
          · rename_i hc
            obtain ⟨hc1, rfl⟩ := hc
            cases hv
            rw [hc1] at hown
            exact va_gets hx hb z3 hS hown (hts _ gs_compact) (fun _ h => h) hd (cont H locs cells slots hRl hS hcc hC1 hS1)
          · cases hv
    · cases h
  · split at h
    · rename_i ix q a rr hq
      obtain ⟨v, hv, h⟩ := ob_inv h
      cases h
      exact snd_getf hx hb hml hown hts hE hIn hCl hd hq hv hRl hS hcc (cont H locs cells slots hRl hS hcc hC1 hS1)
    · cases h
  · split at h
    · rename_i ix q v a rr hq
      split at h
      · rename_i hf
        obtain ⟨e1, hv, h⟩ := ob_inv h
        cases h
        exact snd_putf hx hb hml hown hts hE hIn hCl hd hq hf hv hRl hS hcc (fun H1 locs1 y1 y2 y3 => cont H1 locs1 cells slots y1 y2 y3 hC1 hS1)
      · cases h
    · cases h
  · split at h
    · obtain ⟨v, hv, h⟩ := ob_inv h
      cases h
      exact snd_ial hx hb hml hown hts hE hIn hCl hd hv hRl hS hcc (cont H locs cells slots hRl hS hcc hC1 hS1)
    · cases h
  · split at h
    · obtain ⟨v, hv, h⟩ := ob_inv h
      cases h
      exact snd_bal hx hb hml hown hts hE hIn hCl hd hv hRl hS hcc (cont H locs cells slots hRl hS hcc hC1 hS1)
    · cases h
  · split at h
    · obtain ⟨v, hv, h⟩ := ob_inv h
      cases h
      exact snd_lal hx hb hml hown hts hE hIn hCl hd hv hRl hS hcc (cont H locs cells slots hRl hS hcc hC1 hS1)
    · cases h
  · split at h
    · obtain ⟨v, hv, h⟩ := ob_inv h
      cases h
      exact snd_aal hx hb hml hown hts hE hIn hCl hd hv hRl hS hcc (cont H locs cells slots hRl hS hcc hC1 hS1)
    · cases h
  · split at h
    · obtain ⟨v, hv, h⟩ := ob_inv h
      cases h
      exact snd_ias hx hb hml hown hts hE hIn hCl hd hv hRl hS hcc (fun H1 locs1 y1 y2 y3 => cont H1 locs1 cells slots y1 y2 y3 hC1 hS1)
    · cases h
  · split at h
    · obtain ⟨v, hv, h⟩ := ob_inv h
      cases h
      exact snd_bas hx hb hml hown hts hE hIn hCl hd hv hRl hS hcc (fun H1 locs1 y1 y2 y3 => cont H1 locs1 cells slots y1 y2 y3 hC1 hS1)
    · cases h
  · split at h
    · obtain ⟨v, hv, h⟩ := ob_inv h
      cases h
      exact snd_las hx hb hml hown hts hE hIn hCl hd hv hRl hS hcc (fun H1 locs1 y1 y2 y3 => cont H1 locs1 cells slots y1 y2 y3 hC1 hS1)
    · cases h
  · split at h
    · obtain ⟨v, hv, h⟩ := ob_inv h
      cases h
      exact snd_aas hx hb hml hown hts hE hIn hCl hd hv hRl hS hcc (fun H1 locs1 y1 y2 y3 => cont H1 locs1 cells slots y1 y2 y3 hC1 hS1)
    · cases h
  · split at h
    · obtain ⟨v, hv, h⟩ := ob_inv h
      cases h
      exact snd_alen hx hb hml hown hts hE hIn hCl hd hv hRl hS hcc (cont H locs cells slots hRl hS hcc hC1 hS1)
    · cases h
  · split at h
    · rename_i t z rr
      split at h
      · rename_i hz
        obtain ⟨v, hv, h⟩ := ob_inv h
        cases h
        have g1 : w.1 + 1 ≤ r.2.1 := hgr.1
        have g2 : w.2.1 + z.toNatClampNeg ≤ r.2.2.1 := hgr.2
        exact snd_newa hx hb hml hown hts hE hIn hCl hd hz hv hRl hS hcc (by omega) (by omega) (fun H1 y1 y2 y3 => cont H1 locs (cells + 1) (slots + z.toNatClampNeg) y1 y2 y3 (by show _ = C + (w.1 + 1); omega) (by show _ = S + (w.2.1 + z.toNatClampNeg); omega))
      · cases h
    · cases h
  · split at h
    · rename_i ix t z rr hq
      split at h
      · rename_i hz
        cases h
        have g1 : w.1 + 1 ≤ r.2.1 := hgr.1
        have g2 : w.2.1 + z.toNatClampNeg ≤ r.2.2.1 := hgr.2
        exact snd_anew hx hb hml hown hts hE hIn hCl hd hq hz hRl hS hcc (by omega) (by omega) (fun H1 y1 y2 y3 => cont H1 locs (cells + 1) (slots + z.toNatClampNeg) y1 y2 y3 (by show _ = C + (w.1 + 1); omega) (by show _ = S + (w.2.1 + z.toNatClampNeg); omega))
      · cases h
    · cases h
  · split at h
    · rename_i ix ci hq
      cases h
      have g1 : w.1 + 1 ≤ r.2.1 := hgr.1
      have g2 : w.2.1 + (clOf ci).2.2 ≤ r.2.2.1 := hgr.2
      exact snd_new hx hb hml hown hts hE hIn hCl hd hq hRl hS hcc (by omega) (by omega) (fun H1 y1 y2 y3 => cont H1 locs (cells + 1) (slots + (clOf ci).2.2) y1 y2 y3 (by show _ = C + (w.1 + 1); omega) (by show _ = S + (w.2.1 + (clOf ci).2.2); omega))
    · cases h
  · split at h
    · rename_i ix M2 a rr hq
      split at h
      · rename_i hk
        cases h
        exact snd_oinit (a := a) hx hb hml hown hts hE hIn hCl hd hq hk hls hf2 hl80 (cont H locs cells slots hRl hS hcc hC1 hS1)
      · cases h
    · cases h
  · split at h
    · rename_i ix M2 z dp b sp a rr hq
      split at h
      · rename_i hk
        obtain ⟨e1, hv, h⟩ := ob_inv h
        cases h
        exact snd_acopy hx hb hml hown hts hE hIn hCl hd hq hk hls hf2 hl80 hv hRl hS hcc (fun H1 locs1 y1 y2 y3 => cont H1 locs1 cells slots y1 y2 y3 hC1 hS1)
      · cases h
    · cases h
  · cases h
set_option maxHeartbeats 4000000 in
theorem snd_C {l : Launch} {n : Nat} (ih : SndP b0 sa D dA stc l n) {p : Program} {e : Env} {R : Room} {s : State} {m : MethodId} {args : Array Value} {below : List Frame} {meth : Method} {c : Code} {H : Heap} {locs : List Loc} {cells slots k pc lv : Nat} {Q : State → Prop} {ls : Array Slot} {M : MI} {i : Instr} {st : List Value} {w : AH} {r1 : Option Value × AH} {lx : LX} {q : MI × Nat × List Value × List Value}
    (hx : p.tables.exec = Jvm.exec) (hb : c.code = M.2.1) (hml : c.maxLocals = mL M) (hown : s.vm.findClass (nmC (mCn M)) = some m.cls) (hts : ∀ w ∈ GT, w.before args s = true) (hE : EnvF b0 sa D dA stc s s.heap) (hIn : M.1.name = "<init>" → meth.name = "<init>") (hCl : M.1.cls = nmC (mCn M)) (hR1 : 64 * mRk M + lv + 2 ≤ R.frames) (hR2 : 40 * (64 * mRk M + lv + 2) ≤ R.locals)
    (hd : decode M.2.1 pc = .ok (i, k)) (h : sC M lv i k st w = some q) (hRl : RelH b0 sa D dA stc w H) (hS : va_S (fun q => b0 ≤ q) s.heap H locs) (hcc : s.heap.size + cells = H.size) (hl : lv_has ls (mL M) (ents (al b0 sa) lx 0)) (hr1 : run n (q.1, q.2.1, 0, ent q.2.2.1, []) w = some r1) (hC : cells + (r1.2.1 - w.1) ≤ R.cells) (hSl : slots + (r1.2.2.1 - w.2.1) ≤ R.slots)
    (cont : ∀ (H2 : Heap) (locs2 : List Loc), RelH b0 sa D dA stc r1.2 H2 → va_S (fun q => b0 ≤ q) s.heap H2 locs2 → W p l e R s m args below meth c H2 locs2 (cells + (r1.2.1 - w.1)) (slots + (r1.2.2.1 - w.2.1)) Q (F0 m (pc + k) ls ((r1.1.map (vm (al b0 sa))).toList ++ q.2.2.2.map (vm (al b0 sa))))) :
    W p l e R s m args below meth c H locs cells slots Q (F0 m pc ls (st.map (vm (al b0 sa)))) := by
  have hls : ls.size = mL M := hl.1
  have hPre : ∀ (a : List Value), PreS s H (PcM b0 sa D dA stc a w) (a.map (vm (al b0 sa))) := fun a => ⟨pc_blind, fun U hU hW => ⟨rfl, by rw [hU]; exact hRl, by rw [hU]; exact hE.go hS hW⟩⟩
  unfold sC at h
  split at h
  · rename_i ix
    split at h
    · rename_i kd M2 hq
      split at h
      · rename_i hk
        obtain ⟨hk, rfl⟩ := hk
        obtain ⟨q1, hsp, h⟩ := ob_inv h
        split at h
        · rename_i hok
          obtain ⟨lv2, hlv, h⟩ := ob_inv h
          cases h
          obtain ⟨hst, hlen⟩ := spl_st hsp
          have hm := resM_in hq
          have hw := MT_w _ hm
          have hkm := MT_k _ hm
          have hok2 : okMI M2 = true := by unfold okM at hkm; exact (Bool.and_eq_true _ _ ▸ hkm).1
          obtain ⟨-, hd2, hmx2, hcl2⟩ := okMI_e hok2
          have hcode : codeW M2 ∈ GT := MT_c _ hm (by show kd ≤ 4; rcases hk with rfl | rfl <;> decide)
          have hMet := met_of ih hr1 hok2 hcode hok.2
          have hroom := sLv_room hlv
          have hRoom : (rmOf M2 lv2 (r1.2.1 - w.1) (r1.2.2.1 - w.2.1)).frames + 1 ≤ R.frames ∧ 8 + (mL M2 + 11) + (rmOf M2 lv2 (r1.2.1 - w.1) (r1.2.2.1 - w.2.1)).locals ≤ R.locals := by
            constructor
            · show 64 * mRk M2 + lv2 + 2 + 1 ≤ R.frames; omega
            · show 8 + (mL M2 + 11) + 40 * (64 * mRk M2 + lv2 + 2) ≤ R.locals; omega
          have hstk : (st.map (vm (al b0 sa))) = (q1.1.map (vm (al b0 sa))).reverse ++ q1.2.map (vm (al b0 sa)) := by rw [hst, List.map_append, List.map_reverse]
          have hgW : ∀ x ∈ wsM M2, x ∈ GT := by
            intro x hx
            rcases List.mem_cons.mp hx with z | z
            · rw [z]; exact hcode
            · exact z
          rcases hk with rfl | rfl
          · have hgS : ∀ x ∈ va_wsS (nmC (mCn M)) ix M2.1 (wsM M2), x ∈ GT := by
              intro x hx
              unfold va_wsS at hx
              rcases List.mem_append.mp hx with z | z
              · refine hw x ?_
                simp only [List.mem_cons, List.not_mem_nil, or_false] at z
                simp only [wdM, List.mem_cons, List.not_mem_nil, or_false]
                rcases z with z | z | z <;> simp [z]
              · exact hgW x z
            exact call_go (va_runS (As := q1.1.map (vm (al b0 sa))) (rest := q1.2.map (vm (al b0 sa))) (Ts := GT) (own := nmC (mCn M)) (nL := mL M) ⟨hx, hb, hml, hown, hts⟩ hMet (va_cwS (mNp M2) hts (goodGT hgS) rfl rfl rfl hd2 hRoom) (hPre q1.1) rfl (by rw [List.length_map]; exact hlen) hls hstk (lv_room (stOK_le hok.1 _)) hd ⟨hC, hSl⟩) hS cont
          · have hnest := hE.2.2.2.2.1.2.1 _ hm (Or.inl rfl)
            exact call_go (va_runSN (As := q1.1.map (vm (al b0 sa))) (rest := q1.2.map (vm (al b0 sa))) (Ts := GT) (own := nmC (mCn M)) (nL := mL M) ⟨hx, hb, hml, hown, hts⟩ hMet ⟨va_cnB (mNp M2) hts (goodGT hgW) rfl rfl rfl hnest (hts _ (hw _ (by simp [wdM]))) hd2 hRoom, hts _ (hw _ (by simp [wdM])), trivial⟩ (hPre q1.1) rfl (by rw [List.length_map]; exact hlen) hls hstk (lv_room (stOK_le hok.1 _)) hd ⟨hC, hSl⟩) hS cont
        · cases h
      · cases h
    · cases h
  · rename_i ix
    split at h
    · rename_i kd M2 hq
      split at h
      · rename_i hk
        obtain ⟨rfl, rfl⟩ := hk
        obtain ⟨q1, hsp, h⟩ := ob_inv h
        split at h
        · rename_i b rr hrest
          split at h
          · rename_i hok
            obtain ⟨hok, hki⟩ := hok
            obtain ⟨lv2, hlv, h⟩ := ob_inv h
            cases h
            obtain ⟨hst, hlen⟩ := spl_st hsp
            rw [hrest] at hst
            have hm := resM_in hq
            have hw := MT_w _ hm
            have hkm := MT_k _ hm
            have hok2 : okMI M2 = true := by unfold okM at hkm; exact (Bool.and_eq_true _ _ ▸ hkm).1
            obtain ⟨-, hd2, hmx2, hcl2⟩ := okMI_e hok2
            have hcode : codeW M2 ∈ GT := MT_c _ hm (by show 2 ≤ 4; decide)
            have hMet := met_of ih hr1 hok2 hcode hok.2
            have hroom := sLv_room hlv
            have hRoom : (rmOf M2 lv2 (r1.2.1 - w.1) (r1.2.2.1 - w.2.1)).frames + 1 ≤ R.frames ∧ 8 + (mL M2 + 11) + (rmOf M2 lv2 (r1.2.1 - w.1) (r1.2.2.1 - w.2.1)).locals ≤ R.locals := by
              constructor
              · show 64 * mRk M2 + lv2 + 2 + 1 ≤ R.frames; omega
              · show 8 + (mL M2 + 11) + 40 * (64 * mRk M2 + lv2 + 2) ≤ R.locals; omega
            have hstk : (st.map (vm (al b0 sa))) = (q1.1.map (vm (al b0 sa))).reverse ++ .ref (al b0 sa b) :: rr.map (vm (al b0 sa)) := by rw [hst, List.map_append, List.map_reverse]; rfl
            obtain ⟨hv1, hv2⟩ := MT_v _ hm rfl
            have hgW : ∀ x ∈ wsM M2, x ∈ GT := by
              intro x hx
              rcases List.mem_cons.mp hx with z | z
              · rw [z]; exact hcode
              · exact z
            have hgV : ∀ x ∈ wsV (nmC (mCn M)) ix M2.1.cls M2.1 (wsM M2), x ∈ GT := by
              intro x hx
              unfold wsV at hx
              rcases List.mem_append.mp hx with z | z
              · refine hw x ?_
                simp only [List.mem_cons, List.not_mem_nil, or_false] at z
                simp only [wdM, List.mem_cons, List.not_mem_nil, or_false]
                rcases z with z | z | z | z <;> simp [z]
              · exact hgW x z
            have hcell : ∃ cellB : Cell, H[al b0 sa b]? = some cellB ∧ cellB.vm.isStatics = false ∧ s.vm.findClass M2.1.cls = some cellB.cls := by
              obtain ⟨o, hox⟩ : ∃ o, hg w b = .inr o := by
                unfold clK at hki
                split at hki
                · exact ⟨_, by assumption⟩
                · dsimp only at hv2; omega
              rw [hox] at hki
              have hoq : o.1 = mKi M2 := hki
              rcases Nat.lt_or_ge b 32 with hlt | hge
              · rcases hE.2.2.1 b hlt o ((hRl.2.2.2.1 b hlt).symm.trans hox) with rfl | ⟨h50, v, -, -, -, f3⟩
                · dsimp only at hv2
                  have : (99 : Nat) = mKi M2 := hoq
                  omega
                · obtain ⟨cell, g1, g2, g3, g4⟩ := f3
                  rw [al_sta hlt]
                  refine ⟨cell, by rw [hS.2.1 _ (Array.getElem?_eq_some_iff.mp g1).1 g4]; exact g1, g2, ?_⟩
                  dsimp only at hv1
                  rw [← hv1, ← hoq, h50]
                  exact g3
              · have hlive : b < w.1 := hRl.live (by intro z; rw [z] at hox; unfold dead at hox; cases hox; dsimp only at hv2; have : (99 : Nat) = mKi M2 := hoq; omega)
                have hki2 := hRl.kind hge hlive hox
                obtain ⟨c1, -⟩ := cls_all o.1 hki2
                have hat := ws_at (b0 := b0) (sa := sa) (dA := dA) hge hlive
                rw [hox] at hat
                obtain ⟨cell, g1, g2, g3⟩ := va_recv hE.1 hRl.P c1 hat
                refine ⟨cell, g1, g2, ?_⟩
                dsimp only at hv1
                rw [← hv1, ← hoq]
                exact g3
            exact call_go (va_runV (C := M2.1.cls) (As := q1.1.map (vm (al b0 sa))) (rest := rr.map (vm (al b0 sa))) (Ts := GT) (own := nmC (mCn M)) (nL := mL M) ⟨hx, hb, hml, hown, hts⟩ hMet (cwV (mNp M2) hts (goodGT hgV) rfl rfl rfl ⟨rfl, hd2⟩ hRoom) ⟨pc_blind, hcell, (hPre (.ref b :: q1.1)).2⟩ rfl (by rw [List.length_map]; exact hlen) hls hstk (lv_room (stOK_le hok.1 _)) hd ⟨hC, hSl⟩) hS cont
          · cases h
        · cases h
      · cases h
    · cases h
  · rename_i ix
    split at h
    · rename_i kd M2 hq
      split at h
      · rename_i hk
        obtain ⟨hk, rfl⟩ := hk
        obtain ⟨q1, hsp, h⟩ := ob_inv h
        split at h
        · rename_i b rr hrest
          split at h
          · rename_i hok
            obtain ⟨lv2, hlv, h⟩ := ob_inv h
            cases h
            obtain ⟨hst, hlen⟩ := spl_st hsp
            rw [hrest] at hst
            have hm := resM_in hq
            have hw := MT_w _ hm
            have hkm := MT_k _ hm
            have hok2 : okMI M2 = true := by unfold okM at hkm; exact (Bool.and_eq_true _ _ ▸ hkm).1
            obtain ⟨-, hd2, hmx2, hcl2⟩ := okMI_e hok2
            have hcode : codeW M2 ∈ GT := MT_c _ hm (by show kd ≤ 4; rcases hk with rfl | rfl <;> decide)
            have hMet := met_of ih hr1 hok2 hcode hok.2
            have hroom := sLv_room hlv
            have hRoom : (rmOf M2 lv2 (r1.2.1 - w.1) (r1.2.2.1 - w.2.1)).frames + 1 ≤ R.frames ∧ 8 + (mL M2 + 11) + (rmOf M2 lv2 (r1.2.1 - w.1) (r1.2.2.1 - w.2.1)).locals ≤ R.locals := by
              constructor
              · show 64 * mRk M2 + lv2 + 2 + 1 ≤ R.frames; omega
              · show 8 + (mL M2 + 11) + 40 * (64 * mRk M2 + lv2 + 2) ≤ R.locals; omega
            have hstk : (st.map (vm (al b0 sa))) = (q1.1.map (vm (al b0 sa))).reverse ++ .ref (al b0 sa b) :: rr.map (vm (al b0 sa)) := by rw [hst, List.map_append, List.map_reverse]; rfl
            have hini : M2.1.name = "<init>" ∧ M2.2.2.2.1 = none := by
              unfold okM at hkm
              have := (Bool.and_eq_true _ _ ▸ hkm).2
              rcases hk with rfl | rfl <;> simpa using this
            have hcw : codeW M2 = Cond.code M2.1 M2.2.1 M2.2.2.1 none := by unfold codeW; rw [hini.2]
            have hwsM : wsM M2 = Cond.code M2.1 M2.2.1 (mL M2) none :: GT := by unfold wsM; rw [hcw]; rfl
            have hGG : GoodIn GT (wsM M2) := goodGT (by
              intro x hx
              rcases List.mem_cons.mp hx with z | z
              · rw [z]; exact hcode
              · exact z)
            rcases hk with rfl | rfl
            · exact call_go (va_runI (b := al b0 sa b) (As := q1.1.map (vm (al b0 sa))) (rest := rr.map (vm (al b0 sa))) (Ts := GT) (own := nmC (mCn M)) (nL := mL M) ⟨hx, hb, hml, hown, hts⟩ hMet (cwI (mNp M2) hts hGG hwsM rfl rfl (hts _ (hw _ (by simp [wdM]))) (hts _ (hw _ (by simp [wdM]))) (hts _ (hw _ (by simp [wdM]))) hini.1 hd2 hRoom) (hPre (.ref b :: q1.1)) rfl (by rw [List.length_map]; exact hlen) hls hstk (lv_room (stOK_le hok.1 _)) hd ⟨hC, hSl⟩) hS cont
            · have hnest := hE.2.2.2.2.1.2.1 _ hm (Or.inr rfl)
              exact call_go (va_runIN (b := al b0 sa b) (As := q1.1.map (vm (al b0 sa))) (rest := rr.map (vm (al b0 sa))) (Ts := GT) (own := nmC (mCn M)) (nL := mL M) ⟨hx, hb, hml, hown, hts⟩ hMet ⟨va_cnB (mNp M2) hts hGG hwsM rfl rfl hnest (hts _ (hw _ (by simp [wdM]))) hd2 hRoom, hini.1, hts _ (hw _ (by simp [wdM]))⟩ (hPre (.ref b :: q1.1)) rfl (by rw [List.length_map]; exact hlen) hls hstk (lv_room (stOK_le hok.1 _)) hd ⟨hC, hSl⟩) hS cont
          · cases h
        · cases h
      · cases h
    · cases h
  · cases h
set_option maxHeartbeats 4000000 in
theorem snd (l : Launch) : ∀ n, SndP b0 sa D dA stc l n := by
  intro n
  induction n with
  | zero => intro M lv pc lx st w r h; cases h
  | succ n ih =>
    intro M lv pc lx st w r h hM p e R s m args below meth c H locs cells slots C S Q ls hx hb hml hown hts hE hIn hR1 hR2 hRl hS hcc hl hC1 hS1 hC2 hS2 hend
    have hCl : M.1.cls = nmC (mCn M) := (okMI_e hM).2.2.2.symm
    rw [run] at h
    cases hst : step (M, lv, pc, lx, st) w with
    | none => rw [hst] at h; cases h
    | some o =>
      rw [hst] at h
      unfold step at hst
      dsimp only at hst
      cases hd0 : decode M.2.1 pc with
      | error x => rw [hd0] at hst; cases hst
      | ok q0 =>
        obtain ⟨i, k⟩ := q0
        rw [hd0] at hst
        dsimp only at hst
        unfold stepI at hst
        have go : ∀ (pc2 : Nat) (lx2 : LX) (st2 : List Value) (w2 : AH), run n (M, lv, pc2, lx2, st2) w2 = some r → ∀ (H2 : Heap) (locs2 : List Loc) (cells2 slots2 : Nat) (ls2 : Array Slot), RelH b0 sa D dA stc w2 H2 → va_S (fun q => b0 ≤ q) s.heap H2 locs2 → s.heap.size + cells2 = H2.size → lv_has ls2 (mL M) (ents (al b0 sa) lx2 0) → cells2 + r.2.1 = C + w2.1 → slots2 + r.2.2.1 = S + w2.2.1 → W p l e R s m args below meth c H2 locs2 cells2 slots2 Q (F0 m pc2 ls2 (st2.map (vm (al b0 sa)))) := by
          intro pc2 lx2 st2 w2 hrun H2 locs2 cells2 slots2 ls2 y1 y2 y3 y4 y5 y6
          exact ih M lv pc2 lx2 st2 w2 r hrun hM p e R s m args below meth c H2 locs2 cells2 slots2 C S Q ls2 hx hb hml hown hts hE hIn hR1 hR2 y1 y2 y3 y4 y5 y6 hC2 hS2 hend
        split at hst
        · rename_i q hq
          split at hst
          · rename_i hk
            subst hk
            cases hst
            exact snd_A hx hb hd0 hq (go _ _ _ _ h H locs cells slots ls hRl hS hcc hl hC1 hS1)
          · cases hst
        · split at hst
          · rename_i q hq
            split at hst
            · rename_i hk
              subst hk
              cases hst
              exact snd_M hx hb hd0 hq hl (fun ls' hl' => go _ _ _ _ h H locs cells slots ls' hRl hS hcc hl' hC1 hS1)
            · cases hst
          · split at hst
            · rename_i q hq
              cases hst
              exact snd_B hx hb hd0 hq (go _ _ _ _ h H locs cells slots ls hRl hS hcc hl hC1 hS1)
            · split at hst
              · rename_i q hq
                split at hst
                · rename_i hk
                  subst hk
                  cases hst
                  have hgr := run_grow h
                  obtain ⟨k, st2, w2⟩ := q
                  dsimp only at h hgr hd0
                  have cont : ∀ (H2 : Heap) (locs2 : List Loc) (cells2 slots2 : Nat), RelH b0 sa D dA stc w2 H2 → va_S (fun q => b0 ≤ q) s.heap H2 locs2 → s.heap.size + cells2 = H2.size → cells2 + r.2.1 = C + w2.1 → slots2 + r.2.2.1 = S + w2.2.1 → W p l e R s m args below meth c H2 locs2 cells2 slots2 Q (F0 m (pc + k) ls (st2.map (vm (al b0 sa)))) :=
                    fun H2 locs2 cells2 slots2 y1 y2 y3 y4 y5 => go _ _ _ _ h H2 locs2 cells2 slots2 ls y1 y2 y3 hl y4 y5
                  exact snd_H ih hx hb hml hown hts hE hIn hCl hR1 hR2 hd0 hq hRl hS hcc hl hC1 hS1 hC2 hS2 hgr cont
                · cases hst
              · split at hst
                · rename_i v hq
                  cases hst
                  cases h
                  have hCe : cells = C := by dsimp only at hC1; omega
                  have hSe : slots = S := by dsimp only at hS1; omega
                  subst hCe; subst hSe
                  exact hend pc k i st H locs ls hd0 hq hRl hS hcc
                · split at hst
                  · rename_i q hq
                    cases hst
                    dsimp only at h
                    cases hr1 : run n (q.1, q.2.1, 0, ent q.2.2.1, []) w with
                    | none => rw [hr1] at h; cases h
                    | some r1 =>
                      rw [hr1] at h
                      dsimp only [back] at h
                      have hg1 := run_grow hr1
                      have hg2 := run_grow h
                      refine snd_C ih hx hb hml hown hts hE hIn hCl hR1 hR2 hd0 hq hRl hS hcc hl hr1 (by omega) (by omega) ?_
                      intro H2 locs2 y1 y2
                      rw [← pushR_map]
                      refine go _ _ _ _ h H2 locs2 _ _ ls y1 y2 ?_ hl (by omega) (by omega)
                      have e1 := y1.1
                      have e2 := hRl.1
                      have e3 := hRl.2.1
                      omega
                  · cases hst
end S5
