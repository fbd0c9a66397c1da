/-! ===== a run of the small machine is a run of the machine ===== -/
theorem ob_inv {α β : Type} {o : Option α} {f : α → Option β} {b : β} (h : ob o f = some b) : ∃ a, o = some a ∧ f a = some b := by
  cases o with
  | none => cases h
  | some a => exact ⟨a, rfl, h⟩
theorem spl_inv : ∀ {k : Nat} {acc st a r : List Value}, spl k acc st = some (a, r) → ∃ x, x.length = k ∧ st = x ++ r ∧ a = x.reverse ++ acc
  | 0, acc, st, a, r, h => by cases h; exact ⟨[], rfl, rfl, rfl⟩
  | k + 1, acc, [], a, r, h => by cases h
  | k + 1, acc, v :: st, a, r, h => by
    obtain ⟨x, h1, h2, h3⟩ := spl_inv (k := k) (acc := v :: acc) (st := st) h
    exact ⟨v :: x, by simp [h1], by rw [h2]; rfl, by rw [h3]; simp⟩
theorem spl_st {k : Nat} {st a r : List Value} (h : spl k [] st = some (a, r)) : st = a.reverse ++ r ∧ a.length = k := by
  obtain ⟨x, h1, h2, h3⟩ := spl_inv h
  rw [List.append_nil] at h3
  subst h3
  exact ⟨by rw [List.reverse_reverse]; exact h2, by rw [List.length_reverse]; exact h1⟩
theorem ents_ent (f : Nat → Nat) : ∀ (a : List Value) (k : Nat), ents f (ent a) k = lv_args k (a.map (vm f))
  | [], _ => rfl
  | v :: t, k => by
    by_cases h : v.category = 2
    · have h1 : isL (some v) = true := (isL_cat v).mpr h
      have h2 : (vm f v).category = 2 := by rw [vm_cat]; exact h
      simp only [ent, h1, if_true, ents, List.map_cons, lv_args, h2, ents_ent f t]
    · have h1 : ¬ isL (some v) = true := fun z => h ((isL_cat v).mp z)
      have h2 : ¬ (vm f v).category = 2 := by rw [vm_cat]; exact h
      simp only [ent, if_neg h1, ents, List.map_cons, lv_args, if_neg h2, ents_ent f t]
theorem ent_len (f : Nat → Nat) : ∀ (a : List Value), (lg_sl (a.map (vm f))).length = (ent a).length
  | [] => rfl
  | v :: t => by
    have ih := ent_len f t
    cases v <;> simp_all [ent, lg_sl, isL, vm, Value.category]
theorem sH_grow {M : MI} {i : Instr} {st st' : List Value} {w w' : AH} {n : Nat} (h : sH M i st w = some (n, st', w')) : w.1 ≤ w'.1 ∧ w.2.1 ≤ w'.2.1 := by
  have r : w.1 ≤ w.1 ∧ w.2.1 ≤ w.2.1 := ⟨Nat.le_refl _, Nat.le_refl _⟩
  have g : ∀ (e : va_E) (k : Nat), w.1 ≤ (hn w e k).1 ∧ w.2.1 ≤ (hn w e k).2.1 := fun e k => ⟨Nat.le_succ _, Nat.le_add_right _ _⟩
  unfold sH at h
  split at h
  · split at h
    · cases h; exact r
    · cases h
    · split at h
      · cases h; exact r
      · cases h
  · split at h
    · cases h; exact r
    · cases h
  · split at h
    · cases h; exact r
    · cases h
  · split at h
    · cases h; exact r
    · cases h
  · split at h
    · obtain ⟨a, -, h⟩ := ob_inv h; cases h; exact r
    · cases h
  · split at h
    · split at h
      · obtain ⟨a, -, h⟩ := ob_inv h; cases h; exact r
      · cases h
    · cases h
  · split at h
    · obtain ⟨a, -, h⟩ := ob_inv h; cases h; exact r
    · cases h
  · split at h
    · obtain ⟨a, -, h⟩ := ob_inv h; cases h; exact r
    · cases h
  · split at h
    · obtain ⟨a, -, h⟩ := ob_inv h; cases h; exact r
    · cases h
  · split at h
    · obtain ⟨a, -, h⟩ := ob_inv h; cases h; exact r
    · cases h
  · split at h
    · obtain ⟨a, -, h⟩ := ob_inv h; cases h; exact r
    · cases h
  · split at h
    · obtain ⟨a, -, h⟩ := ob_inv h; cases h; exact r
    · cases h
  · split at h
    · obtain ⟨a, -, h⟩ := ob_inv h; cases h; exact r
    · cases h
  · split at h
    · obtain ⟨a, -, h⟩ := ob_inv h; cases h; exact r
    · cases h
  · split at h
    · obtain ⟨a, -, h⟩ := ob_inv h; cases h; exact r
    · cases h
  · split at h
    · split at h
      · obtain ⟨a, -, h⟩ := ob_inv h; cases h; exact g _ _
      · cases h
    · cases h
  · split at h
    · split at h
      · cases h; exact g _ _
      · cases h
    · cases h
  · split at h
    · cases h; exact g _ _
    · cases h
  · split at h
    · split at h
      · cases h; exact r
      · cases h
    · cases h
  · split at h
    · split at h
      · obtain ⟨a, -, h⟩ := ob_inv h; cases h; exact r
      · cases h
    · cases h
  · cases h
theorem step_grow {c c' : Cf} {w w' : AH} (h : step c w = some (.inl (c', w'))) : w.1 ≤ w'.1 ∧ w.2.1 ≤ w'.2.1 := by
  have r : w.1 ≤ w.1 ∧ w.2.1 ≤ w.2.1 := ⟨Nat.le_refl _, Nat.le_refl _⟩
  unfold step at h
  split at h
  · unfold stepI at h
    split at h
    · split at h
      · cases h; exact r
      · cases h
    · split at h
      · split at h
        · cases h; exact r
        · cases h
      · split at h
        · cases h; exact r
        · split at h
          · rename_i q hq
            split at h
            · cases h
              exact sH_grow (n := q.1) (st' := q.2.1) (w' := q.2.2) hq
            · cases h
          · split at h
            · cases h
            · split at h
              · cases h
              · cases h
  · cases h
theorem run_grow : ∀ {n : Nat} {c : Cf} {w : AH} {r : Option Value × AH}, run n c w = some r → w.1 ≤ r.2.1 ∧ w.2.1 ≤ r.2.2.1
  | 0, _, _, _, h => by cases h
  | n + 1, c, w, r, h => by
    rw [run] at h
    cases hs : step c w with
    | none => rw [hs] at h; cases h
    | some o =>
      rw [hs] at h
      rcases o with q | q | q
      · have h1 := step_grow (c' := q.1) (w' := q.2) hs
        have h2 := run_grow (n := n) h
        exact ⟨Nat.le_trans h1.1 h2.1, Nat.le_trans h1.2 h2.2⟩
      · have hw : q.2 = w := by
          unfold step at hs
          split at hs
          · unfold stepI at hs
            split at hs
            · split at hs <;> cases hs
            · split at hs
              · split at hs <;> cases hs
              · split at hs
                · cases hs
                · split at hs
                  · split at hs <;> cases hs
                  · split at hs
                    · cases hs; rfl
                    · split at hs <;> cases hs
          · cases hs
        cases h
        rw [hw]
        exact ⟨Nat.le_refl _, Nat.le_refl _⟩
      · dsimp only at h
        cases h1 : run n q.1 w with
        | none => rw [h1] at h; cases h
        | some r1 =>
          rw [h1] at h
          have g1 := run_grow h1
          have g2 := run_grow (n := n) h
          exact ⟨Nat.le_trans g1.1 g2.1, Nat.le_trans g1.2 g2.2⟩
theorem goodGT {ws : List Cond} (h : ∀ w ∈ ws, w ∈ GT) : GoodIn GT ws := fun w hw => ⟨h w hw, good_of_word (List.mem_filter.mp (h w hw)).2⟩
/-- a method's contract out of its body's walk: any method that no entry runs instead -/
theorem metW {l : Launch} {y : MethodName} {ws ws' : List Cond} {rm : Room} {Pc : Array Value → State → Prop} {Qc : Array Value → State → Outcome → State → Prop} {mc ms : Nat} {free : Addr → Prop} {cc : ByteArray} {mx : Nat} {ret : Option FieldType} (hy : plainFor y = true) (hw : ws = Cond.code y cc mx ret :: ws')
    (body : ∀ p e s m args below meth c s₁, BodyLoose p l y (headSpec ws rm) cc mx ret e s m args below meth c s₁ → c.maxLocals = mx → Pc args s → W p l e (headSpec ws rm).room s m args below meth c s.heap [] 0 0 (MQ below Qc args s mc ms free) (entryFrame m args mx)) : Met l y ws rm Pc Qc mc ms free := by
  refine MetFree.of_bodySF (code := cc) (maxLocals := mx) (ret := ret) hy ?_ ?_
  · intro args s m h hn
    obtain ⟨meth, c, g⟩ := Cond.code_spec hn (atoms_spec (ws := ws) h _ (hw ▸ List.mem_cons_self))
    exact ⟨meth, c, g.1, g.2.1, g.2.2.1, g.2.2.2.1, g.2.2.2.2.1, g.2.2.2.2.2.1⟩
  · intro p e s m args below meth c s₁ B hml hP _
    have hh : s₁.heap = s.heap := by rw [B.state]; rfl
    obtain ⟨t, a1, o, b1, b2, b3⟩ := body p e s m args below meth c s₁ B hml hP s₁ hh (Stand.of_body B)
    exact ⟨t, o, a1, b1, b2, b3⟩
