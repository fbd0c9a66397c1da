/-! ===== what the small machine's cells are in the machine's heap ===== -/
def al (b0 : Nat) (sa : Nat → Nat) (a : Nat) : Nat := if a < 32 then sa a else b0 + (a - 32)
def vm (f : Nat → Nat) : Value → Value
  | .ref a => .ref (f a)
  | v => v
def em (dA : Nat → ClassId) (f : Nat → Nat) : va_E → va_E
  | .inl (t, n, .inr (.inr (.inr (.inr g)))) => .inl (dA t, n, .inr (.inr (.inr (.inr (fun i => (g i).map f)))))
  | .inl (t, x) => .inl (dA t, x)
  | .inr o => .inr (o.1, o.2.map (vm f))
def tysL (dA : Nat → ClassId) : List (ClassId × FieldType) := [(dA 0, .int), (dA 1, .long), (dA 2, .boolean), (dA 3, .object "CarpetLands$Walker"), (dA 4, .object "CarpetLands$Sheet")]
def wsOf (b0 : Nat) (sa : Nat → Nat) (dA : Nat → ClassId) (w : AH) : va_W := (List.range (w.1 - 32)).map (fun i => (b0 + i, em dA (al b0 sa) (w.2.2 (32 + i))))
def dead : va_E := .inr (99, [])
def RelH (b0 : Nat) (sa : Nat → Nat) (D : va_G) (dA : Nat → ClassId) (stc : Nat → va_E) (w : AH) (H : Heap) : Prop :=
  H.size = b0 + (w.1 - 32) ∧ 32 ≤ w.1 ∧ (∀ a, w.1 ≤ a → w.2.2 a = dead) ∧ (∀ a, a < 32 → w.2.2 a = stc a) ∧ (∀ a t x, 32 ≤ a → w.2.2 a = .inl (t, x) → t ≤ 4) ∧ va_P D vwCl (wsOf b0 sa dA w) H
def sty (t : Nat) : FieldType := if t = 10 then .int else .byte
def SArr (b0 : Nat) (sa : Nat → Nat) (stc : Nat → va_E) (U : State) (H : Heap) : Prop :=
  ∀ a, a < 32 → ∀ t x, stc a = .inl (t, x) → (t = 10 ∨ t = 11) ∧ ∃ (n : Nat) (f : Nat → Int32), x = (n, .inl f) ∧ va_T (sty t) (sa a) n (fun j => .int (f j)) (fun q => b0 ≤ q) U H
def SObj (b0 : Nat) (sa : Nat → Nat) (stc : Nat → va_E) (U : State) (H : Heap) : Prop :=
  ∀ a, a < 32 → ∀ o, stc a = .inr o → o = (99, []) ∨ (o.1 = 50 ∧ ∃ v, o.2 = [.ref v, .int 0] ∧ va_OF "java/lang/String" "value" "[B" (.ref (al b0 sa v)) (sa a) (fun q => b0 ≤ q) U H ∧ va_OF "java/lang/String" "coder" "B" (.int 0) (sa a) (fun q => b0 ≤ q) U H ∧ va_O "java/lang/String" (sa a) (fun q => b0 ≤ q) U H)
def SSta (b0 : Nat) (sa : Nat → Nat) (U : State) (H : Heap) : Prop :=
  va_Z "CarpetLands" "ABOVE" "[I" (.ref (sa 1)) (fun q => b0 ≤ q) U H ∧ va_Z "CarpetLands$Voice" "BODIES" "[I" (.ref (sa 2)) (fun q => b0 ≤ q) U H ∧ va_Z "java/lang/String" "COMPACT_STRINGS" "Z" (.int 1) (fun q => b0 ≤ q) U H
def STab (sa : Nat → Nat) (U : State) : Prop :=
  (∀ ix j, resS 4 ix = some j → j < 9 ∧ ∃ tx, vk_R RX4 ix tx (sa (3 + j)) U) ∧
  (∀ q ∈ MT, (q.2.2.1 = 1 ∨ q.2.2.1 = 4) → va_Nw (.methodLinkNest (nmC q.1) q.2.1 q.2.2.2.1 "CarpetLands") U) ∧
  va_Nw (.fieldLinkNest RX10 28 "CarpetLands" "ABOVE" "[I" "CarpetLands") U ∧ va_AO "CarpetLands$Walker" U ∧ va_AO "CarpetLands$Sheet" U
def EnvF (b0 : Nat) (sa : Nat → Nat) (D : va_G) (dA : Nat → ClassId) (stc : Nat → va_E) (U : State) (H : Heap) : Prop :=
  va_K D vwCl (tysL dA) U ∧ SArr b0 sa stc U H ∧ SObj b0 sa stc U H ∧ SSta b0 sa U H ∧ STab sa U ∧ b0 ≤ H.size
theorem EnvF.go {b0 : Nat} {sa : Nat → Nat} {D : va_G} {dA : Nat → ClassId} {stc : Nat → va_E} {s U : State} {H : Heap} {locs : List Loc} (h : EnvF b0 sa D dA stc s s.heap) (hS : va_S (fun q => b0 ≤ q) s.heap H locs) (hW : s.WarmedH U.vm) : EnvF b0 sa D dA stc U H := by
  obtain ⟨h1, h2, h3, h4, h5, h6⟩ := h
  have ha := hW.alike
  have hq : ∀ a : Nat, a < s.heap.size → ¬ (fun q => b0 ≤ q) a → H[a]? = s.heap[a]? := fun a x y => hS.2.1 a x y
  refine ⟨va_K.moved ha h1, ?_, ?_, ?_, ?_, Nat.le_trans h6 hS.1⟩
  · intro a hl t x e
    obtain ⟨g1, n, f, g2, g3⟩ := h2 a hl t x e
    exact ⟨g1, n, f, g2, (va_T.moved ha g3).kept hq⟩
  · intro a hl o e
    rcases h3 a hl o e with g | ⟨g1, v, g2, g3, g4, g5⟩
    · exact Or.inl g
    · exact Or.inr ⟨g1, v, g2, (va_OF.moved ha g3).kept hq, (va_OF.moved ha g4).kept hq, (va_O.moved ha g5).kept hq⟩
  · exact ⟨(va_Z.moved ha h4.1).kept hq, (va_Z.moved ha h4.2.1).kept hq, (va_Z.moved ha h4.2.2).kept hq⟩
  · obtain ⟨g1, g2, g3, g4, g5⟩ := h5
    refine ⟨fun ix j e => ?_, fun q hq k => va_Nw.warmM hW (g2 q hq k), va_Nw.warmF hW g3, va_AO.moved ha g4, va_AO.moved ha g5⟩
    obtain ⟨z, tx, y⟩ := g1 ix j e
    exact ⟨z, tx, vk_R.warm hW y⟩
theorem EnvF.same {b0 : Nat} {sa : Nat → Nat} {D : va_G} {dA : Nat → ClassId} {stc : Nat → va_E} {u U : State} {H : Heap} (h : EnvF b0 sa D dA stc u H) (hv : U.vm = u.vm) : EnvF b0 sa D dA stc U H := by
  obtain ⟨h1, h2, h3, h4, h5, h6⟩ := h
  have ha : u.vm.Alike U.vm := by rw [hv]; exact Vm.Alike.refl _
  refine ⟨va_K.moved ha h1, ?_, ?_, ?_, ?_, h6⟩
  · intro a hl t x e
    obtain ⟨g1, n, f, g2, g3⟩ := h2 a hl t x e
    exact ⟨g1, n, f, g2, va_T.moved ha g3⟩
  · intro a hl o e
    rcases h3 a hl o e with g | ⟨g1, v, g2, g3, g4, g5⟩
    · exact Or.inl g
    · exact Or.inr ⟨g1, v, g2, va_OF.moved ha g3, va_OF.moved ha g4, va_O.moved ha g5⟩
  · exact ⟨va_Z.moved ha h4.1, va_Z.moved ha h4.2.1, va_Z.moved ha h4.2.2⟩
  · obtain ⟨g1, g2, g3, g4, g5⟩ := h5
    refine ⟨fun ix j e => ?_, fun q hq k => va_Nw.same rfl hv.symm (g2 q hq k), va_Nw.same rfl hv.symm g3, va_AO.moved ha g4, va_AO.moved ha g5⟩
    obtain ⟨z, tx, y⟩ := g1 ix j e
    exact ⟨z, tx, vk_R.same hv y⟩
/-! locals -/
def ents (f : Nat → Nat) : LX → Nat → List (Nat × Value)
  | [], _ => []
  | some v :: t, k => (k, vm f v) :: ents f t (k + 1)
  | none :: t, k => ents f t (k + 1)
theorem ents_mem {f : Nat → Nat} : ∀ {l : LX} {k j : Nat} {u : Value}, (j, u) ∈ ents f l k → ∃ i v, j = k + i ∧ lget l i = some v ∧ u = vm f v
  | [], _, _, _, h => by cases h
  | some v :: t, k, j, u, h => by
    rcases List.mem_cons.mp h with e | e
    · cases e; exact ⟨0, v, rfl, rfl, rfl⟩
    · obtain ⟨i, v', h1, h2, h3⟩ := ents_mem e
      exact ⟨i + 1, v', by omega, h2, h3⟩
  | none :: t, k, j, u, h => by
    obtain ⟨i, v', h1, h2, h3⟩ := ents_mem (l := t) h
    exact ⟨i + 1, v', by omega, h2, h3⟩
theorem ents_in {f : Nat → Nat} : ∀ {l : LX} {k i : Nat} {v : Value}, lget l i = some v → (k + i, vm f v) ∈ ents f l k
  | [], _, _, _, h => by cases h
  | some u :: t, k, 0, v, h => by cases h; exact List.mem_cons_self
  | some u :: t, k, i + 1, v, h => List.mem_cons_of_mem _ (by have := ents_in (f := f) (l := t) (k := k + 1) h; rwa [Nat.add_right_comm] at this)
  | none :: t, k, 0, v, h => by cases h
  | none :: t, k, i + 1, v, h => by have := ents_in (f := f) (l := t) (k := k + 1) h; rwa [Nat.add_right_comm] at this
theorem lv_mono {ls : Array Slot} {n : Nat} {l1 l2 : List (Nat × Value)} (h : lv_has ls n l1) (hm : ∀ q ∈ l2, q ∈ l1) : lv_has ls n l2 := ⟨h.1, h.2.1, fun q hq => h.2.2 q (hm q hq)⟩
theorem vm_cat (f : Nat → Nat) (v : Value) : (vm f v).category = v.category := by cases v <;> rfl
theorem isL_cat (v : Value) : isL (some v) = true ↔ v.category = 2 := by cases v <;> simp [isL, Value.category]
theorem ls1_get : ∀ {l : LX} {i j : Nat} {v u : Value}, lget (ls1 l i v) j = some u → (j = i ∧ u = v) ∨ (j ≠ i ∧ lget l j = some u ∧ ¬ (j + 1 = i ∧ isL (some u) = true))
  | [], 0, 0, v, u, h => by cases h; exact Or.inl ⟨rfl, rfl⟩
  | [], 0, j + 1, v, u, h => by cases h
  | [], i + 1, 0, v, u, h => by cases h
  | [], i + 1, j + 1, v, u, h => by
    rcases ls1_get (l := []) (i := i) (j := j) h with ⟨a, b⟩ | ⟨a, b, c⟩
    · exact Or.inl ⟨by omega, b⟩
    · cases b
  | a :: t, 0, 0, v, u, h => by cases h; exact Or.inl ⟨rfl, rfl⟩
  | a :: t, 0, j + 1, v, u, h => Or.inr ⟨by omega, h, by omega⟩
  | a :: t, i + 1, 0, v, u, h => by
    simp only [ls1, lget] at h
    split at h
    · cases h
    · rename_i hc
      subst h
      exact Or.inr ⟨by omega, rfl, fun z => hc ⟨by omega, z.2⟩⟩
  | a :: t, i + 1, j + 1, v, u, h => by
    rcases ls1_get (l := t) (i := i) (j := j) h with ⟨a, b⟩ | ⟨a, b, c⟩
    · exact Or.inl ⟨by omega, b⟩
    · exact Or.inr ⟨by omega, b, fun z => c ⟨by omega, z.2⟩⟩
theorem ls2_get : ∀ {l : LX} {i j : Nat} {v u : Value}, lget (ls2 l i v) j = some u → (j = i ∧ u = v) ∨ (j ≠ i ∧ j ≠ i + 1 ∧ lget l j = some u ∧ ¬ (j + 1 = i ∧ isL (some u) = true))
  | [], 0, 0, v, u, h => by cases h; exact Or.inl ⟨rfl, rfl⟩
  | [], 0, j + 1, v, u, h => by cases h
  | [], i + 1, 0, v, u, h => by cases h
  | [], i + 1, j + 1, v, u, h => by
    rcases ls2_get (l := []) (i := i) (j := j) h with ⟨a, b⟩ | ⟨a, b, c, d⟩
    · exact Or.inl ⟨by omega, b⟩
    · cases c
  | [a], 0, 0, v, u, h => by cases h; exact Or.inl ⟨rfl, rfl⟩
  | [a], 0, j + 1, v, u, h => by cases h
  | a :: b :: t, 0, 0, v, u, h => by cases h; exact Or.inl ⟨rfl, rfl⟩
  | a :: b :: t, 0, 1, v, u, h => by cases h
  | a :: b :: t, 0, j + 2, v, u, h => Or.inr ⟨by omega, by omega, h, by omega⟩
  | a :: t, i + 1, 0, v, u, h => by
    simp only [ls2, lget] at h
    split at h
    · cases h
    · rename_i hc
      subst h
      exact Or.inr ⟨by omega, by omega, rfl, fun z => hc ⟨by omega, z.2⟩⟩
  | a :: t, i + 1, j + 1, v, u, h => by
    have h' : lget (ls2 t i v) j = some u := by simpa only [ls2, lget] using h
    rcases ls2_get (l := t) (i := i) (j := j) h' with ⟨a, b⟩ | ⟨a, b, c, d⟩
    · exact Or.inl ⟨by omega, b⟩
    · exact Or.inr ⟨by omega, by omega, c, fun z => d ⟨by omega, z.2⟩⟩
theorem has_get {f : Nat → Nat} {ls : Array Slot} {n : Nat} {l : LX} (h : lv_has ls n (ents f l 0)) {i : Nat} {v : Value} (hg : lget l i = some v) : ls[i]? = some (.val (vm f v)) := by
  have := h.2.2 _ (ents_in (f := f) (k := 0) hg)
  rwa [Nat.zero_add] at this
theorem has_ls1 {f : Nat → Nat} {ls : Array Slot} {n i : Nat} {l : LX} {v : Value} (h : lv_has ls n ((i, vm f v) :: (ents f l 0).filter (fun q => !(q.1 == i) && !(q.1 + 1 == i && q.2.category == 2)))) : lv_has ls n (ents f (ls1 l i v) 0) := by
  refine lv_mono h fun q hq => ?_
  obtain ⟨j, u⟩ := q
  obtain ⟨k, v', h1, h2, h3⟩ := ents_mem hq
  rw [Nat.zero_add] at h1
  subst h1; subst h3
  rcases ls1_get h2 with ⟨rfl, rfl⟩ | ⟨g1, g2, g3⟩
  · exact List.mem_cons_self
  · refine List.mem_cons_of_mem _ (List.mem_filter.mpr ⟨by have := ents_in (f := f) (k := 0) g2; rwa [Nat.zero_add] at this, ?_⟩)
    rw [isL_cat] at g3
    simp only [vm_cat]
    by_cases e : j + 1 = i
    · have : v'.category ≠ 2 := fun z => g3 ⟨e, z⟩
      simp [g1, e, this]
    · simp [g1, e]
theorem has_ls2 {f : Nat → Nat} {ls : Array Slot} {n i : Nat} {l : LX} {v : Value} (h : lv_has ls n ((i, vm f v) :: (ents f l 0).filter (fun q => !(q.1 == i) && (!(q.1 == i + 1) && !(q.1 + 1 == i && q.2.category == 2))))) : lv_has ls n (ents f (ls2 l i v) 0) := by
  refine lv_mono h fun q hq => ?_
  obtain ⟨j, u⟩ := q
  obtain ⟨k, v', h1, h2, h3⟩ := ents_mem hq
  rw [Nat.zero_add] at h1
  subst h1; subst h3
  rcases ls2_get h2 with ⟨rfl, rfl⟩ | ⟨g1, g0, g2, g3⟩
  · exact List.mem_cons_self
  · refine List.mem_cons_of_mem _ (List.mem_filter.mpr ⟨by have := ents_in (f := f) (k := 0) g2; rwa [Nat.zero_add] at this, ?_⟩)
    rw [isL_cat] at g3
    simp only [vm_cat]
    by_cases e : j + 1 = i
    · have : v'.category ≠ 2 := fun z => g3 ⟨e, z⟩
      simp [g1, g0, e, this]
    · simp [g1, g0, e]
/-! the world as a list -/
theorem ws_len {b0 : Nat} {sa : Nat → Nat} {dA : Nat → ClassId} {w : AH} : (wsOf b0 sa dA w).length = w.1 - 32 := by simp [wsOf]
theorem ws_get {b0 : Nat} {sa : Nat → Nat} {dA : Nat → ClassId} {w : AH} {i : Nat} (hi : i < w.1 - 32) : (wsOf b0 sa dA w)[i]? = some (b0 + i, em dA (al b0 sa) (w.2.2 (32 + i))) := by
  simp [wsOf, hi]
theorem ws_at {b0 : Nat} {sa : Nat → Nat} {dA : Nat → ClassId} {w : AH} {a : Nat} (h1 : 32 ≤ a) (h2 : a < w.1) : (wsOf b0 sa dA w)[a - 32]? = some (al b0 sa a, em dA (al b0 sa) (hg w a)) := by
  rw [ws_get (by omega)]
  unfold al hg
  rw [if_neg (by omega), show 32 + (a - 32) = a by omega]
theorem ws_D {b0 : Nat} {sa : Nat → Nat} {dA : Nat → ClassId} {w : AH} : va_D (fun q => b0 ≤ q) (wsOf b0 sa dA w) := by
  have key : ∀ (i : Nat) (q : Nat × va_E), (wsOf b0 sa dA w)[i]? = some q → q.1 = b0 + i := by
    intro i q h
    have hl : i < w.1 - 32 := by
      have := (List.getElem?_eq_some_iff.mp h).1
      rwa [ws_len] at this
    rw [ws_get hl] at h
    cases h
    rfl
  refine ⟨fun i j p q hi hj e => ?_, fun k q hk => ?_⟩
  · rw [key i p hi, key j q hj] at e
    omega
  · show b0 ≤ q.1
    rw [key k q hk]
    omega
theorem ws_set {b0 : Nat} {sa : Nat → Nat} {dA : Nat → ClassId} {w : AH} {a : Nat} {e : va_E} (h1 : 32 ≤ a) (h2 : a < w.1) : wsOf b0 sa dA (hs w a e) = (wsOf b0 sa dA w).set (a - 32) (al b0 sa a, em dA (al b0 sa) e) := by
  apply List.ext_getElem?
  intro i
  by_cases hi : i < w.1 - 32
  · rw [ws_get (w := hs w a e) hi]
    by_cases e1 : i = a - 32
    · subst e1
      rw [List.getElem?_set_self (by rw [ws_len]; exact hi)]
      unfold al hs
      rw [if_neg (by omega), show 32 + (a - 32) = a by omega]
      simp
    · rw [List.getElem?_set_ne (Ne.symm e1), ws_get hi]
      simp only [hs]
      rw [if_neg (by omega)]
  · rw [List.getElem?_eq_none (by rw [ws_len]; show w.1 - 32 ≤ i; omega), List.getElem?_eq_none (by rw [List.length_set, ws_len]; omega)]
theorem ws_new {b0 : Nat} {sa : Nat → Nat} {dA : Nat → ClassId} {w : AH} {n : Nat} {e : va_E} (h : 32 ≤ w.1) : wsOf b0 sa dA (hn w e n) = wsOf b0 sa dA w ++ [(al b0 sa w.1, em dA (al b0 sa) e)] := by
  apply List.ext_getElem?
  intro i
  by_cases hi : i < w.1 - 32
  · rw [ws_get (w := hn w e n) (by show i < w.1 + 1 - 32; omega), List.getElem?_append_left (by rw [ws_len]; exact hi), ws_get hi]
    simp only [hn]
    rw [if_neg (by omega)]
  · rw [List.getElem?_append_right (by rw [ws_len]; omega), ws_len]
    by_cases e1 : i = w.1 - 32
    · subst e1
      rw [ws_get (w := hn w e n) (by show w.1 - 32 < w.1 + 1 - 32; omega), Nat.sub_self]
      simp only [hn, al]
      rw [if_pos (by omega), if_neg (by omega)]
      rfl
    · rw [List.getElem?_eq_none (by rw [ws_len]; show w.1 + 1 - 32 ≤ i; omega), List.getElem?_eq_none (by simp; omega)]
