/-! ===== cells: the small machine's step is the machine's ===== -/
def tyOf (ci : Nat) : Nat → FieldType := match ci with
  | 0 => tyX0 | 1 => tyX1 | 2 => tyX2 | 3 => tyX3 | 4 => tyX4 | 5 => tyX5 | 6 => tyX6 | 7 => tyX8 | 8 => tyX9 | 9 => tyX10 | 10 => tyX11 | _ => tyX12
def clsP (ci : Nat) : Prop := vwCl[ci]? = some (clOf ci) ∧ (∀ w ∈ u_ws (clOf ci).1 (clOf ci).2.1 (clOf ci).2.2, w ∈ GT) ∧ (∀ k, k < (clOf ci).2.2 → parseFieldDescriptor ((clOf ci).2.1 k).2.2.1 = some (tyOf ci k)) ∧ (∀ a, a < (clOf ci).2.2 → ∀ b, b < (clOf ci).2.2 → a ≠ b → ((clOf ci).2.1 a).2.1 ≠ ((clOf ci).2.1 b).2.1) ∧ (∀ j, j < (clOf ci).2.2 → defaultValue (tyOf ci j) = vp_V (dfs ci) j) ∧ ∀ f, (dfs ci).map (vm f) = dfs ci
theorem cls_all : ∀ ci, ci < 12 → clsP ci
  | 0, _ => ⟨rfl, ly0, tyX0_ok, nmX0, by decide +kernel, fun _ => rfl⟩
  | 1, _ => ⟨rfl, ly1, tyX1_ok, nmX1, by decide +kernel, fun _ => rfl⟩
  | 2, _ => ⟨rfl, ly2, tyX2_ok, nmX2, by decide +kernel, fun _ => rfl⟩
  | 3, _ => ⟨rfl, ly3, tyX3_ok, nmX3, by decide +kernel, fun _ => rfl⟩
  | 4, _ => ⟨rfl, ly4, tyX4_ok, nmX4, by decide +kernel, fun _ => rfl⟩
  | 5, _ => ⟨rfl, ly5, tyX5_ok, nmX5, by decide +kernel, fun _ => rfl⟩
  | 6, _ => ⟨rfl, ly6, tyX6_ok, nmX6, by decide +kernel, fun _ => rfl⟩
  | 7, _ => ⟨rfl, ly7, tyX8_ok, nmX8, by decide +kernel, fun _ => rfl⟩
  | 8, _ => ⟨rfl, ly8, tyX9_ok, nmX9, by decide +kernel, fun _ => rfl⟩
  | 9, _ => ⟨rfl, ly9, tyX10_ok, nmX10, by decide +kernel, fun _ => rfl⟩
  | 10, _ => ⟨rfl, ly10, tyX11_ok, nmX11, by decide +kernel, fun _ => rfl⟩
  | 11, _ => ⟨rfl, ly11, tyX12_ok, nmX12, by decide +kernel, fun _ => rfl⟩
  | n + 12, h => absurd h (by omega)
theorem find_mem {α : Type} {P : α → Bool} {l : List α} {β : Type} {g : α → β} {b : β} (h : (l.find? P).map g = some b) : ∃ a ∈ l, P a = true ∧ g a = b := by
  cases hf : l.find? P with
  | none => rw [hf] at h; cases h
  | some a =>
    rw [hf] at h
    cases h
    exact ⟨a, List.mem_of_find?_eq_some hf, List.find?_some hf, rfl⟩
theorem resM_in {cn ix : Nat} {k : Nat} {M2 : MI} (h : resM cn ix = some (k, M2)) : (cn, ix, k, M2) ∈ MT := by
  obtain ⟨⟨a, b, c⟩, hm, hp, he⟩ := find_mem h
  simp only [Bool.and_eq_true, beq_iff_eq] at hp
  obtain ⟨rfl, rfl⟩ := hp
  cases he
  exact hm
theorem resF_in {cn ix : Nat} {q : Nat × Nat × FieldType × Bool} (h : resF cn ix = some q) : (cn, ix, q) ∈ FT := by
  obtain ⟨⟨a, b, c⟩, hm, hp, he⟩ := find_mem h
  simp only [Bool.and_eq_true, beq_iff_eq] at hp
  obtain ⟨rfl, rfl⟩ := hp
  cases he
  exact hm
theorem resK_in {cn ix : Nat} {v : Value} (h : resK cn ix = some v) : (cn, ix, v) ∈ KT := by
  obtain ⟨⟨a, b, c⟩, hm, hp, he⟩ := find_mem h
  simp only [Bool.and_eq_true, beq_iff_eq] at hp
  obtain ⟨rfl, rfl⟩ := hp
  cases he
  exact hm
theorem resN_in {cn ix ci : Nat} (h : resN cn ix = some ci) : (cn, ix, ci) ∈ NT := by
  obtain ⟨⟨a, b, c⟩, hm, hp, he⟩ := find_mem h
  simp only [Bool.and_eq_true, beq_iff_eq] at hp
  obtain ⟨rfl, rfl⟩ := hp
  cases he
  exact hm
theorem resA_in {cn ix ci : Nat} (h : resA cn ix = some ci) : (cn, ix, ci) ∈ AT := by
  obtain ⟨⟨a, b, c⟩, hm, hp, he⟩ := find_mem h
  simp only [Bool.and_eq_true, beq_iff_eq] at hp
  obtain ⟨rfl, rfl⟩ := hp
  cases he
  exact hm
section I2
variable {b0 : Nat} {sa : Nat → Nat} {D : va_G} {dA : Nat → ClassId} {stc : Nat → va_E}
theorem RelH.live {w : AH} {H : Heap} {a : Nat} (h : RelH b0 sa D dA stc w H) (hd : hg w a ≠ dead) : a < w.1 := by
  rcases Nat.lt_or_ge a w.1 with q | q
  · exact q
  · exact absurd (h.2.2.1 a q) hd
theorem RelH.P {w : AH} {H : Heap} (h : RelH b0 sa D dA stc w H) : va_P D vwCl (wsOf b0 sa dA w) H := h.2.2.2.2.2
/-- an own object's kind is one of the twelve -/
theorem RelH.kind {w : AH} {H : Heap} {a : Nat} {o : Nat × List Value} (h : RelH b0 sa D dA stc w H) (ha : 32 ≤ a) (hl : a < w.1) (he : hg w a = .inr o) : o.1 < 12 := by
  obtain ⟨r, h1, -⟩ := h.P _ _ (by have := ws_at (b0 := b0) (sa := sa) (dA := dA) ha hl; rw [he] at this; exact this)
  exact (List.getElem?_eq_some_iff.mp h1).1
theorem RelH.set {w : AH} {H H1 : Heap} {a z : Nat} {e : va_E} (h : RelH b0 sa D dA stc w H) (ha : 32 ≤ a) (hl : a < w.1) (hP : va_P D vwCl ((wsOf b0 sa dA w).set (a - 32) (al b0 sa a, em dA (al b0 sa) e)) H1) (hz : z = H.size) (hz1 : H1.size ≤ z) (ht : ∀ t x, e = .inl (t, x) → t ≤ 4) : RelH b0 sa D dA stc (hs w a e) H1 ∧ H1.size = z := by
  rw [← ws_set ha hl] at hP
  obtain ⟨h1, h2, h3, h4, h5, h6⟩ := h
  have hs1 : (hs w a e).1 = w.1 := rfl
  have hlow : b0 + (w.1 - 33) < H1.size := by
    have hi : w.1 - 33 < (hs w a e).1 - 32 := by rw [hs1]; omega
    have := (hP _ _ (ws_get (b0 := b0) (sa := sa) (dA := dA) hi)).lt
    exact this
  have hsz : H1.size = z := by omega
  refine ⟨⟨by rw [hsz, hz, h1, hs1], h2, fun x hx => ?_, fun x hx => ?_, fun x t y hx hxe => ?_, hP⟩, hsz⟩
  · simp only [hs]
    rw [if_neg (by rw [hs1] at hx; omega)]
    exact h3 x hx
  · simp only [hs]
    rw [if_neg (by omega)]
    exact h4 x hx
  · simp only [hs] at hxe
    split at hxe
    · exact ht t y hxe
    · exact h5 x t y hx hxe
theorem RelH.new {w : AH} {H H1 : Heap} {q z n : Nat} {e : va_E} (h : RelH b0 sa D dA stc w H) (hP : va_P D vwCl (wsOf b0 sa dA w ++ [(q, em dA (al b0 sa) e)]) H1) (hD : va_D (fun x => b0 ≤ x) (wsOf b0 sa dA w ++ [(q, em dA (al b0 sa) e)])) (hz : z = H.size) (hz1 : H1.size ≤ z + 1) (ht : ∀ t x, e = .inl (t, x) → t ≤ 4) : q = al b0 sa w.1 ∧ RelH b0 sa D dA stc (hn w e n) H1 ∧ H1.size = z + 1 := by
  obtain ⟨h1, h2, h3, h4, h5, h6⟩ := h
  have hlast : (wsOf b0 sa dA w ++ [(q, em dA (al b0 sa) e)])[w.1 - 32]? = some (q, em dA (al b0 sa) e) := by
    rw [List.getElem?_append_right (by rw [ws_len]; omega), ws_len, Nat.sub_self]; rfl
  have hq1 : b0 ≤ q := hD.2 _ _ hlast
  have hq2 : q < H1.size := (hP _ _ hlast).lt
  have hq3 : q = b0 + (w.1 - 32) := by
    rcases Nat.lt_or_ge q (b0 + (w.1 - 32)) with y | y
    · exfalso
      have hi : q - b0 < w.1 - 32 := by omega
      have hg1 := ws_get (b0 := b0) (sa := sa) (dA := dA) (w := w) hi
      have hg2 : (wsOf b0 sa dA w ++ [(q, em dA (al b0 sa) e)])[q - b0]? = some (b0 + (q - b0), em dA (al b0 sa) (w.2.2 (32 + (q - b0)))) := by
        rw [List.getElem?_append_left (by rw [ws_len]; exact hi)]; exact hg1
      have := hD.1 _ _ _ _ hg2 hlast (by show b0 + (q - b0) = q; omega)
      omega
    · omega
  have hal : q = al b0 sa w.1 := by
    unfold al
    rw [if_neg (by omega)]
    exact hq3
  subst hal
  rw [← ws_new h2] at hP
  have hsz : H1.size = z + 1 := by omega
  refine ⟨rfl, ⟨?_, by show 32 ≤ w.1 + 1; omega, fun x hx => ?_, fun x hx => ?_, fun x t y hx hxe => ?_, hP⟩, hsz⟩
  · show H1.size = b0 + (w.1 + 1 - 32)
    omega
  · have hx' : w.1 + 1 ≤ x := hx
    simp only [hn]
    rw [if_neg (by omega)]
    exact h3 x (by omega)
  · simp only [hn]
    rw [if_neg (by omega)]
    exact h4 x hx
  · simp only [hn] at hxe
    split at hxe
    · exact ht t y hxe
    · exact h5 x t y hx hxe
end I2
theorem va_rf_vm (f : Nat → Nat) (r : Option Nat) : va_rf (r.map f) = vm f (va_rf r) := by cases r <;> rfl
theorem nar_vm {f : Nat → Nat} {ty : FieldType} {v : Value} (h : narrow ty v = v) : narrow ty (vm f v) = vm f v := by
  cases v <;> first | exact h | rfl | (cases ty <;> rfl)
theorem fit_vm {f : Nat → Nat} {ty : FieldType} {v : Value} (h : fits ty v = true) : fits ty (vm f v) = true := by
  cases v <;> first | exact h | (cases ty <;> first | exact h | rfl | cases h)
theorem vp_nar_bool {x : Int32} (h : x = 0 ∨ x = 1) : vp_nar .boolean x = x := by
  rcases h with rfl | rfl <;> rfl
section I3
variable {p : Program} {l : Launch} {e : Env} {R : Room} {s : State} {m : MethodId} {args : Array Value} {below : List Frame} {meth : Method} {c : Code} {H : Heap} {locs : List Loc} {cells slots : Nat} {Q : State → Prop}
theorem W_size {g : JFrame} (k : H.size ≤ s.heap.size + cells → W p l e R s m args below meth c H locs cells slots Q g) : W p l e R s m args below meth c H locs cells slots Q g := by
  intro T hT X
  refine k ?_ T hT X
  have := X.same.2.2.1
  rw [← hT]
  exact this
end I3
