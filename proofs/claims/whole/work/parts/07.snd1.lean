/-! ===== each instruction without cells: the small machine's step is the machine's (printed by wip/whole/gen07.py) ===== -/
theorem pI1_inv {g : Int32 → Value} {st st' : List Value} {k n : Nat} (h : (pI1 g st).map (fun s => (k, s)) = some (n, st')) : ∃ x r, st = .int x :: r ∧ n = k ∧ st' = g x :: r := by
  unfold pI1 at h
  split at h
  · cases h; exact ⟨_, _, rfl, rfl, rfl⟩
  · cases h
theorem pI2_inv {g : Int32 → Int32 → Option Value} {st st' : List Value} {k n : Nat} (h : (pI2 g st).map (fun s => (k, s)) = some (n, st')) : ∃ x y r v, st = .int y :: .int x :: r ∧ g x y = some v ∧ n = k ∧ st' = v :: r := by
  unfold pI2 at h
  split at h
  · rename_i y x r
    cases hg : g x y with
    | none => rw [hg] at h; cases h
    | some v => rw [hg] at h; cases h; exact ⟨_, _, _, _, rfl, hg, rfl, rfl⟩
  · cases h
theorem pJ1_inv {g : Int64 → Value} {st st' : List Value} {k n : Nat} (h : (pJ1 g st).map (fun s => (k, s)) = some (n, st')) : ∃ x r, st = .long x :: r ∧ n = k ∧ st' = g x :: r := by
  unfold pJ1 at h
  split at h
  · cases h; exact ⟨_, _, rfl, rfl, rfl⟩
  · cases h
theorem pJ2_inv {g : Int64 → Int64 → Value} {st st' : List Value} {k n : Nat} (h : (pJ2 g st).map (fun s => (k, s)) = some (n, st')) : ∃ x y r, st = .long y :: .long x :: r ∧ n = k ∧ st' = g x y :: r := by
  unfold pJ2 at h
  split at h
  · cases h; exact ⟨_, _, _, rfl, rfl, rfl⟩
  · cases h
theorem pJI_inv {g : Int64 → Int32 → Value} {st st' : List Value} {k n : Nat} (h : (pJI g st).map (fun s => (k, s)) = some (n, st')) : ∃ x y r, st = .int y :: .long x :: r ∧ n = k ∧ st' = g x y :: r := by
  unfold pJI at h
  split at h
  · cases h; exact ⟨_, _, _, rfl, rfl, rfl⟩
  · cases h
section I1
variable {p : Program} {l : Launch} {e : Env} {R : Room} {s : State} {m : MethodId} {args : Array Value} {below : List Frame} {meth : Method} {c : Code} {H : Heap} {locs : List Loc} {cells slots : Nat} {Q : State → Prop}
variable {M : MI} {pc n : Nat} {ls : Array Slot} {st st' : List Value} {i : Instr} {f : Nat → Nat}
set_option maxHeartbeats 4000000 in
theorem snd_A (hx : p.tables.exec = Jvm.exec) (hb : c.code = M.2.1) (hd : decode M.2.1 pc = .ok (i, n)) (hs : sA i st = some (n, st'))
    (kk : W p l e R s m args below meth c H locs cells slots Q (F0 m (pc + n) ls (st'.map (vm f)))) : W p l e R s m args below meth c H locs cells slots Q (F0 m pc ls (st.map (vm f))) := by
  unfold sA at hs
  split at hs
  · cases hs; exact lv_iconst hx hb hd rfl kk
  · cases hs; exact lv_bipush hx hb hd rfl kk
  · cases hs; exact lv_sipush hx hb hd rfl kk
  · cases hs; exact lv_lconst hx hb hd rfl kk
  · cases hs; exact lv_null hx hb hd kk
  · obtain ⟨x, y, r, v, rfl, hv, rfl, rfl⟩ := pI2_inv hs; cases hv; exact lv_iadd hx hb hd kk
  · obtain ⟨x, y, r, v, rfl, hv, rfl, rfl⟩ := pI2_inv hs; cases hv; exact lv_isub hx hb hd kk
  · obtain ⟨x, y, r, v, rfl, hv, rfl, rfl⟩ := pI2_inv hs; cases hv; exact lv_imul hx hb hd kk
  · obtain ⟨x, y, r, v, rfl, hv, rfl, rfl⟩ := pI2_inv hs; cases hv; exact lv_iand hx hb hd kk
  · obtain ⟨x, y, r, v, rfl, hv, rfl, rfl⟩ := pI2_inv hs; cases hv; exact lv_ior hx hb hd kk
  · obtain ⟨x, y, r, v, rfl, hv, rfl, rfl⟩ := pI2_inv hs; cases hv; exact lv_ixor hx hb hd kk
  · obtain ⟨x, y, r, v, rfl, hv, rfl, rfl⟩ := pI2_inv hs
    by_cases hy : y = 0
    · rw [if_pos hy] at hv; cases hv
    · rw [if_neg hy] at hv; cases hv; exact lv_idiv hx hb hd hy kk
  · obtain ⟨x, y, r, v, rfl, hv, rfl, rfl⟩ := pI2_inv hs
    by_cases hy : y = 0
    · rw [if_pos hy] at hv; cases hv
    · rw [if_neg hy] at hv; cases hv; exact lv_irem hx hb hd hy kk
  · obtain ⟨x, y, r, v, rfl, hv, rfl, rfl⟩ := pI2_inv hs; cases hv; exact lv_ishl hx hb hd kk
  · obtain ⟨x, y, r, v, rfl, hv, rfl, rfl⟩ := pI2_inv hs; cases hv; exact lv_ishr hx hb hd kk
  · obtain ⟨x, y, r, v, rfl, hv, rfl, rfl⟩ := pI2_inv hs; cases hv; exact lv_iushr hx hb hd rfl kk
  · obtain ⟨x, r, rfl, rfl, rfl⟩ := pI1_inv hs; exact lv_ineg hx hb hd kk
  · obtain ⟨x, r, rfl, rfl, rfl⟩ := pI1_inv hs; exact lv_i2l hx hb hd rfl kk
  · obtain ⟨x, r, rfl, rfl, rfl⟩ := pI1_inv hs; exact lv_i2b hx hb hd rfl kk
  · obtain ⟨x, r, rfl, rfl, rfl⟩ := pI1_inv hs; exact lv_i2s hx hb hd rfl kk
  · obtain ⟨x, r, rfl, rfl, rfl⟩ := pI1_inv hs; exact lv_i2c hx hb hd rfl kk
  · obtain ⟨x, r, rfl, rfl, rfl⟩ := pJ1_inv hs; exact lv_l2i hx hb hd rfl kk
  · obtain ⟨x, r, rfl, rfl, rfl⟩ := pJ1_inv hs; exact lv_lneg hx hb hd kk
  · obtain ⟨x, y, r, rfl, rfl, rfl⟩ := pJ2_inv hs; exact lv_ladd hx hb hd kk
  · obtain ⟨x, y, r, rfl, rfl, rfl⟩ := pJ2_inv hs; exact lv_lsub hx hb hd kk
  · obtain ⟨x, y, r, rfl, rfl, rfl⟩ := pJ2_inv hs; exact lv_land hx hb hd kk
  · obtain ⟨x, y, r, rfl, rfl, rfl⟩ := pJ2_inv hs; exact lv_lor hx hb hd kk
  · obtain ⟨x, y, r, rfl, rfl, rfl⟩ := pJ2_inv hs; exact lv_lxor hx hb hd kk
  · obtain ⟨x, y, r, rfl, rfl, rfl⟩ := pJ2_inv hs; exact W.lcmp hx hb hd kk
  · obtain ⟨x, y, r, rfl, rfl, rfl⟩ := pJI_inv hs; exact lv_lshl hx hb hd rfl kk
  · obtain ⟨x, y, r, rfl, rfl, rfl⟩ := pJI_inv hs; exact lv_lshr hx hb hd rfl kk
  · obtain ⟨x, y, r, rfl, rfl, rfl⟩ := pJI_inv hs; exact lv_lushr hx hb hd rfl kk
  · split at hs
    · rename_i v r
      by_cases hc : v.category = 1
      · rw [if_pos hc] at hs; cases hs; exact lv_dup hx hb hd (by rw [vm_cat]; exact hc) kk
      · rw [if_neg hc] at hs; cases hs
    · cases hs
  · split at hs
    · rename_i v u r
      by_cases hc : v.category = 1 ∧ u.category = 1
      · rw [if_pos hc] at hs; cases hs; exact lv_dup2_11 hx hb hd (by rw [vm_cat]; exact hc.1) (by rw [vm_cat]; exact hc.2) kk
      · rw [if_neg hc] at hs; cases hs
    · cases hs
  · split at hs
    · rename_i v r
      by_cases hc : v.category = 1
      · rw [if_pos hc] at hs; cases hs; exact lv_pop hx hb hd (by rw [vm_cat]; exact hc) kk
      · rw [if_neg hc] at hs; cases hs
    · cases hs
  · cases hs
theorem ldI_inv {lx l' : LX} {k j : Nat} (h : ldI lx k j st = some (n, l', st')) : ∃ x, lget lx k = some (.int x) ∧ n = j ∧ l' = lx ∧ st' = .int x :: st := by
  unfold ldI at h
  split at h
  · rename_i x hg; cases h; exact ⟨x, hg, rfl, rfl, rfl⟩
  · cases h
theorem ldJ_inv {lx l' : LX} {k j : Nat} (h : ldJ lx k j st = some (n, l', st')) : ∃ x, lget lx k = some (.long x) ∧ n = j ∧ l' = lx ∧ st' = .long x :: st := by
  unfold ldJ at h
  split at h
  · rename_i x hg; cases h; exact ⟨x, hg, rfl, rfl, rfl⟩
  · cases h
theorem ldA_inv {lx l' : LX} {k j : Nat} (h : ldA lx k j st = some (n, l', st')) : (∃ x, lget lx k = some (.ref x) ∧ n = j ∧ l' = lx ∧ st' = .ref x :: st) ∨ (lget lx k = some .null ∧ n = j ∧ l' = lx ∧ st' = .null :: st) := by
  unfold ldA at h
  split at h
  · rename_i x hg; cases h; exact Or.inl ⟨x, hg, rfl, rfl, rfl⟩
  · rename_i hg; cases h; exact Or.inr ⟨hg, rfl, rfl, rfl⟩
  · cases h
theorem stI_inv {lx l' : LX} {k j mx : Nat} (h : stI lx k j mx st = some (n, l', st')) : ∃ x, st = .int x :: st' ∧ k < mx ∧ n = j ∧ l' = ls1 lx k (.int x) := by
  unfold stI at h
  split at h
  · split at h
    · rename_i hc; cases h; exact ⟨_, rfl, hc, rfl, rfl⟩
    · cases h
  · cases h
theorem stJ_inv {lx l' : LX} {k j mx : Nat} (h : stJ lx k j mx st = some (n, l', st')) : ∃ x, st = .long x :: st' ∧ k + 1 < mx ∧ n = j ∧ l' = ls2 lx k (.long x) := by
  unfold stJ at h
  split at h
  · split at h
    · rename_i hc; cases h; exact ⟨_, rfl, hc, rfl, rfl⟩
    · cases h
  · cases h
theorem stA_inv {lx l' : LX} {k j mx : Nat} (h : stA lx k j mx st = some (n, l', st')) : (∃ x, st = .ref x :: st' ∧ k < mx ∧ n = j ∧ l' = ls1 lx k (.ref x)) ∨ (st = .null :: st' ∧ k < mx ∧ n = j ∧ l' = ls1 lx k .null) := by
  unfold stA at h
  split at h
  · split at h
    · rename_i hc; cases h; exact Or.inl ⟨_, rfl, hc, rfl, rfl⟩
    · cases h
  · split at h
    · rename_i hc; cases h; exact Or.inr ⟨rfl, hc, rfl, rfl⟩
    · cases h
  · cases h
variable {lx l' : LX}
set_option maxHeartbeats 4000000 in
theorem snd_M (hx : p.tables.exec = Jvm.exec) (hb : c.code = M.2.1) (hd : decode M.2.1 pc = .ok (i, n)) (hs : sM i (mL M) lx st = some (n, l', st')) (hl : lv_has ls (mL M) (ents f lx 0))
    (kk : ∀ ls' : Array Slot, lv_has ls' (mL M) (ents f l' 0) → W p l e R s m args below meth c H locs cells slots Q (F0 m (pc + n) ls' (st'.map (vm f)))) : W p l e R s m args below meth c H locs cells slots Q (F0 m pc ls (st.map (vm f))) := by
  unfold sM at hs
  split at hs
  · obtain ⟨x, h1, rfl, rfl, rfl⟩ := ldI_inv hs; exact lv_iload_n hx hb hd rfl (has_get hl h1) (kk ls hl)
  · obtain ⟨x, h1, rfl, rfl, rfl⟩ := ldI_inv hs; exact lv_iload hx hb hd (has_get hl h1) (kk ls hl)
  · obtain ⟨x, h1, rfl, rfl, rfl⟩ := ldJ_inv hs; exact lv_lload_n hx hb hd rfl (has_get hl h1) (kk ls hl)
  · obtain ⟨x, h1, rfl, rfl, rfl⟩ := ldJ_inv hs; exact lv_lload hx hb hd (has_get hl h1) (kk ls hl)
  · rcases ldA_inv hs with ⟨x, h1, rfl, rfl, rfl⟩ | ⟨h1, rfl, rfl, rfl⟩
    · exact lv_aload_n hx hb hd rfl (has_get hl h1) (kk ls hl)
    · exact lv_aload_nN hx hb hd rfl (has_get hl h1) (kk ls hl)
  · rcases ldA_inv hs with ⟨x, h1, rfl, rfl, rfl⟩ | ⟨h1, rfl, rfl, rfl⟩
    · exact lv_aload hx hb hd (has_get hl h1) (kk ls hl)
    · exact lv_aloadN hx hb hd (has_get hl h1) (kk ls hl)
  · obtain ⟨x, rfl, h1, rfl, rfl⟩ := stI_inv hs; exact lv_istore_n hx hb hd rfl hl h1 rfl (fun ls' h => kk ls' (has_ls1 (v := .int x) h))
  · obtain ⟨x, rfl, h1, rfl, rfl⟩ := stI_inv hs; exact lv_istore hx hb hd hl h1 rfl (fun ls' h => kk ls' (has_ls1 (v := .int x) h))
  · obtain ⟨x, rfl, h1, rfl, rfl⟩ := stJ_inv hs; exact lv_lstore_n hx hb hd rfl hl h1 rfl (fun ls' h => kk ls' (has_ls2 (v := .long x) h))
  · obtain ⟨x, rfl, h1, rfl, rfl⟩ := stJ_inv hs; exact lv_lstore hx hb hd hl h1 rfl (fun ls' h => kk ls' (has_ls2 (v := .long x) h))
  · rcases stA_inv hs with ⟨x, rfl, h1, rfl, rfl⟩ | ⟨rfl, h1, rfl, rfl⟩
    · exact lv_astore_n hx hb hd rfl hl h1 rfl (fun ls' h => kk ls' (has_ls1 (v := .ref x) h))
    · exact lv_astore_nN hx hb hd rfl hl h1 rfl (fun ls' h => kk ls' (has_ls1 (v := .null) h))
  · rcases stA_inv hs with ⟨x, rfl, h1, rfl, rfl⟩ | ⟨rfl, h1, rfl, rfl⟩
    · exact lv_astore hx hb hd hl h1 rfl (fun ls' h => kk ls' (has_ls1 (v := .ref x) h))
    · exact lv_astoreN hx hb hd hl h1 rfl (fun ls' h => kk ls' (has_ls1 (v := .null) h))
  · rename_i k z
    split at hs
    · rename_i x hg
      split at hs
      · rename_i hc
        cases hs
        obtain ⟨q, hq⟩ := List.getElem?_of_mem (ents_in (f := f) (k := 0) hg)
        rw [Nat.zero_add] at hq
        exact lv_iinc hx hb hd hl (k := q) hq rfl hc rfl (fun ls' h => kk ls' (has_ls1 (v := .int (x + Int32.ofInt z)) h))
      · cases hs
    · cases hs
  · cases hs
theorem tg_inv {q : Nat} {off : Int} (h : tg pc off st = some (q, st')) : (pc : Int) + off = (q : Int) ∧ st' = st := by
  unfold tg at h
  split at h
  · rename_i hc; cases h; exact ⟨(Int.toNat_of_nonneg hc).symm, rfl⟩
  · cases h
theorem br_inv {P : Prop} {q k : Nat} {off : Int} {dP : Decidable P} (h : brN (@decide P dP) pc k off st = some (q, st')) : ∃ t : Nat, (pc : Int) + off = (t : Int) ∧ st' = st ∧ ((P ∧ q = t) ∨ (¬ P ∧ q = pc + k)) := by
  unfold brN at h
  split at h
  · rename_i hc
    refine ⟨((pc : Int) + off).toNat, (Int.toNat_of_nonneg hc).symm, ?_⟩
    by_cases hp : P
    · rw [if_pos (by simp [hp])] at h
      cases h
      exact ⟨rfl, Or.inl ⟨hp, rfl⟩⟩
    · rw [if_neg (by simp [hp])] at h
      cases h
      exact ⟨rfl, Or.inr ⟨hp, rfl⟩⟩
  · cases h
set_option maxHeartbeats 4000000 in
theorem snd_B {q : Nat} (hx : p.tables.exec = Jvm.exec) (hb : c.code = M.2.1) (hd : decode M.2.1 pc = .ok (i, n)) (hs : sBN i n pc st = some (q, st'))
    (kk : W p l e R s m args below meth c H locs cells slots Q (F0 m q ls (st'.map (vm f)))) : W p l e R s m args below meth c H locs cells slots Q (F0 m pc ls (st.map (vm f))) := by
  unfold sBN at hs
  split at hs
  · split at hs
    · rename_i h3; subst h3
      obtain ⟨a, rfl⟩ := tg_inv hs
      exact lv_goto hx hb hd a kk
    · cases hs
  · split at hs
    · split at hs
      · rename_i h3; subst h3
        split at hs
        · obtain ⟨t, a, rfl, ⟨hc, rfl⟩ | ⟨hc, rfl⟩⟩ := br_inv hs
          · exact lv_if_eq hx hb hd a (fun _ => kk) (fun z => absurd hc z)
          · exact lv_if_eq hx hb hd a (fun z => absurd z hc) (fun _ => kk)
        · obtain ⟨t, a, rfl, ⟨hc, rfl⟩ | ⟨hc, rfl⟩⟩ := br_inv hs
          · exact lv_if_ne hx hb hd a (fun _ => kk) (fun z => absurd z hc)
          · exact lv_if_ne hx hb hd a (fun z => absurd z hc) (fun _ => kk)
        · obtain ⟨t, a, rfl, ⟨hc, rfl⟩ | ⟨hc, rfl⟩⟩ := br_inv hs
          · exact lv_if_lt hx hb hd a (fun _ => kk) (fun z => absurd hc z)
          · exact lv_if_lt hx hb hd a (fun z => absurd z hc) (fun _ => kk)
        · obtain ⟨t, a, rfl, ⟨hc, rfl⟩ | ⟨hc, rfl⟩⟩ := br_inv hs
          · exact lv_if_ge hx hb hd a (fun _ => kk) (fun z => absurd hc z)
          · exact lv_if_ge hx hb hd a (fun z => absurd z hc) (fun _ => kk)
        · obtain ⟨t, a, rfl, ⟨hc, rfl⟩ | ⟨hc, rfl⟩⟩ := br_inv hs
          · exact lv_if_gt hx hb hd a (fun _ => kk) (fun z => absurd hc z)
          · exact lv_if_gt hx hb hd a (fun z => absurd z hc) (fun _ => kk)
        · obtain ⟨t, a, rfl, ⟨hc, rfl⟩ | ⟨hc, rfl⟩⟩ := br_inv hs
          · exact lv_if_le hx hb hd a (fun _ => kk) (fun z => absurd hc z)
          · exact lv_if_le hx hb hd a (fun z => absurd z hc) (fun _ => kk)
      · cases hs
    · cases hs
  · split at hs
    · split at hs
      · rename_i h3; subst h3
        split at hs
        · obtain ⟨t, a, rfl, ⟨hc, rfl⟩ | ⟨hc, rfl⟩⟩ := br_inv hs
          · exact lv_icmp_eq hx hb hd a (fun _ => kk) (fun z => absurd hc z)
          · exact lv_icmp_eq hx hb hd a (fun z => absurd z hc) (fun _ => kk)
        · obtain ⟨t, a, rfl, ⟨hc, rfl⟩ | ⟨hc, rfl⟩⟩ := br_inv hs
          · exact lv_icmp_ne hx hb hd a (fun _ => kk) (fun z => absurd z hc)
          · exact lv_icmp_ne hx hb hd a (fun z => absurd z hc) (fun _ => kk)
        · obtain ⟨t, a, rfl, ⟨hc, rfl⟩ | ⟨hc, rfl⟩⟩ := br_inv hs
          · exact lv_icmp_lt hx hb hd a (fun _ => kk) (fun z => absurd hc z)
          · exact lv_icmp_lt hx hb hd a (fun z => absurd z hc) (fun _ => kk)
        · obtain ⟨t, a, rfl, ⟨hc, rfl⟩ | ⟨hc, rfl⟩⟩ := br_inv hs
          · exact lv_icmp_ge hx hb hd a (fun _ => kk) (fun z => absurd hc z)
          · exact lv_icmp_ge hx hb hd a (fun z => absurd z hc) (fun _ => kk)
        · obtain ⟨t, a, rfl, ⟨hc, rfl⟩ | ⟨hc, rfl⟩⟩ := br_inv hs
          · exact lv_icmp_gt hx hb hd a (fun _ => kk) (fun z => absurd hc z)
          · exact lv_icmp_gt hx hb hd a (fun z => absurd z hc) (fun _ => kk)
        · obtain ⟨t, a, rfl, ⟨hc, rfl⟩ | ⟨hc, rfl⟩⟩ := br_inv hs
          · exact lv_icmp_le hx hb hd a (fun _ => kk) (fun z => absurd hc z)
          · exact lv_icmp_le hx hb hd a (fun z => absurd z hc) (fun _ => kk)
      · cases hs
    · cases hs
  · split at hs
    · split at hs
      · rename_i h3; subst h3; cases hs; exact lv_ifnull hx hb hd kk
      · cases hs
    · split at hs
      · rename_i h3; subst h3
        obtain ⟨a, rfl⟩ := tg_inv hs
        exact lv_ifnullN hx hb hd a kk
      · cases hs
    · cases hs
  · split at hs
    · split at hs
      · rename_i h3; subst h3
        obtain ⟨a, rfl⟩ := tg_inv hs
        exact lv_ifnonnull hx hb hd a kk
      · cases hs
    · split at hs
      · rename_i h3; subst h3; cases hs; exact lv_ifnonnullN hx hb hd kk
      · cases hs
    · cases hs
  · split at hs
    · split at hs
      · rename_i h3
        obtain ⟨a, rfl⟩ := tg_inv hs
        exact lv_tableOut hx hb hd h3 a kk
      · rename_i h3
        split at hs
        · rename_i off ho
          obtain ⟨a, rfl⟩ := tg_inv hs
          exact lv_tableIn hx hb hd (fun z => h3 (Or.inl z)) (fun z => h3 (Or.inr z)) ho a kk
        · cases hs
    · cases hs
  · split at hs
    · split at hs
      · rename_i h3
        obtain ⟨a, rfl⟩ := tg_inv hs
        exact lv_lookup hx hb hd h3 rfl a kk
      · cases hs
    · cases hs
  · cases hs
end I1
