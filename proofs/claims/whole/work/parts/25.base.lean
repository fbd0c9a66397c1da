/-! ===== rewriting rules (printed by wip/whole/gen25.py) ===== -/
theorem ls1s : (∀ (o0 : Option Value) (t : LX) (v : Value), ls1 (o0 :: t) 0 v = some v :: t)
  ∧ (∀ (v : Value), ls1 [] 0 v = [some v])
  ∧ (∀ (o0 o1 : Option Value) (t : LX) (v : Value), ls1 (o0 :: o1 :: t) 1 v = clr o0 :: some v :: t)
  ∧ (∀ (v : Value), ls1 [] 1 v = [none, some v])
  ∧ (∀ (o0 : Option Value) (v : Value), ls1 [o0] 1 v = [clr o0, some v])
  ∧ (∀ (o0 o1 o2 : Option Value) (t : LX) (v : Value), ls1 (o0 :: o1 :: o2 :: t) 2 v = o0 :: clr o1 :: some v :: t)
  ∧ (∀ (v : Value), ls1 [] 2 v = [none, none, some v])
  ∧ (∀ (o0 : Option Value) (v : Value), ls1 [o0] 2 v = [o0, none, some v])
  ∧ (∀ (o0 o1 : Option Value) (v : Value), ls1 [o0, o1] 2 v = [o0, clr o1, some v])
  ∧ (∀ (o0 o1 o2 o3 : Option Value) (t : LX) (v : Value), ls1 (o0 :: o1 :: o2 :: o3 :: t) 3 v = o0 :: o1 :: clr o2 :: some v :: t)
  ∧ (∀ (v : Value), ls1 [] 3 v = [none, none, none, some v])
  ∧ (∀ (o0 : Option Value) (v : Value), ls1 [o0] 3 v = [o0, none, none, some v])
  ∧ (∀ (o0 o1 : Option Value) (v : Value), ls1 [o0, o1] 3 v = [o0, o1, none, some v])
  ∧ (∀ (o0 o1 o2 : Option Value) (v : Value), ls1 [o0, o1, o2] 3 v = [o0, o1, clr o2, some v])
  ∧ (∀ (o0 o1 o2 o3 o4 : Option Value) (t : LX) (v : Value), ls1 (o0 :: o1 :: o2 :: o3 :: o4 :: t) 4 v = o0 :: o1 :: o2 :: clr o3 :: some v :: t)
  ∧ (∀ (v : Value), ls1 [] 4 v = [none, none, none, none, some v])
  ∧ (∀ (o0 : Option Value) (v : Value), ls1 [o0] 4 v = [o0, none, none, none, some v])
  ∧ (∀ (o0 o1 : Option Value) (v : Value), ls1 [o0, o1] 4 v = [o0, o1, none, none, some v])
  ∧ (∀ (o0 o1 o2 : Option Value) (v : Value), ls1 [o0, o1, o2] 4 v = [o0, o1, o2, none, some v])
  ∧ (∀ (o0 o1 o2 o3 : Option Value) (v : Value), ls1 [o0, o1, o2, o3] 4 v = [o0, o1, o2, clr o3, some v])
  ∧ (∀ (o0 o1 o2 o3 o4 o5 : Option Value) (t : LX) (v : Value), ls1 (o0 :: o1 :: o2 :: o3 :: o4 :: o5 :: t) 5 v = o0 :: o1 :: o2 :: o3 :: clr o4 :: some v :: t)
  ∧ (∀ (v : Value), ls1 [] 5 v = [none, none, none, none, none, some v])
  ∧ (∀ (o0 : Option Value) (v : Value), ls1 [o0] 5 v = [o0, none, none, none, none, some v])
  ∧ (∀ (o0 o1 : Option Value) (v : Value), ls1 [o0, o1] 5 v = [o0, o1, none, none, none, some v])
  ∧ (∀ (o0 o1 o2 : Option Value) (v : Value), ls1 [o0, o1, o2] 5 v = [o0, o1, o2, none, none, some v])
  ∧ (∀ (o0 o1 o2 o3 : Option Value) (v : Value), ls1 [o0, o1, o2, o3] 5 v = [o0, o1, o2, o3, none, some v])
  ∧ (∀ (o0 o1 o2 o3 o4 : Option Value) (v : Value), ls1 [o0, o1, o2, o3, o4] 5 v = [o0, o1, o2, o3, clr o4, some v])
  ∧ (∀ (o0 o1 o2 o3 o4 o5 o6 : Option Value) (t : LX) (v : Value), ls1 (o0 :: o1 :: o2 :: o3 :: o4 :: o5 :: o6 :: t) 6 v = o0 :: o1 :: o2 :: o3 :: o4 :: clr o5 :: some v :: t)
  ∧ (∀ (v : Value), ls1 [] 6 v = [none, none, none, none, none, none, some v])
  ∧ (∀ (o0 : Option Value) (v : Value), ls1 [o0] 6 v = [o0, none, none, none, none, none, some v])
  ∧ (∀ (o0 o1 : Option Value) (v : Value), ls1 [o0, o1] 6 v = [o0, o1, none, none, none, none, some v])
  ∧ (∀ (o0 o1 o2 : Option Value) (v : Value), ls1 [o0, o1, o2] 6 v = [o0, o1, o2, none, none, none, some v])
  ∧ (∀ (o0 o1 o2 o3 : Option Value) (v : Value), ls1 [o0, o1, o2, o3] 6 v = [o0, o1, o2, o3, none, none, some v])
  ∧ (∀ (o0 o1 o2 o3 o4 : Option Value) (v : Value), ls1 [o0, o1, o2, o3, o4] 6 v = [o0, o1, o2, o3, o4, none, some v])
  ∧ (∀ (o0 o1 o2 o3 o4 o5 : Option Value) (v : Value), ls1 [o0, o1, o2, o3, o4, o5] 6 v = [o0, o1, o2, o3, o4, clr o5, some v])
  ∧ (∀ (o0 o1 o2 o3 o4 o5 o6 o7 : Option Value) (t : LX) (v : Value), ls1 (o0 :: o1 :: o2 :: o3 :: o4 :: o5 :: o6 :: o7 :: t) 7 v = o0 :: o1 :: o2 :: o3 :: o4 :: o5 :: clr o6 :: some v :: t)
  ∧ (∀ (v : Value), ls1 [] 7 v = [none, none, none, none, none, none, none, some v])
  ∧ (∀ (o0 : Option Value) (v : Value), ls1 [o0] 7 v = [o0, none, none, none, none, none, none, some v])
  ∧ (∀ (o0 o1 : Option Value) (v : Value), ls1 [o0, o1] 7 v = [o0, o1, none, none, none, none, none, some v])
  ∧ (∀ (o0 o1 o2 : Option Value) (v : Value), ls1 [o0, o1, o2] 7 v = [o0, o1, o2, none, none, none, none, some v])
  ∧ (∀ (o0 o1 o2 o3 : Option Value) (v : Value), ls1 [o0, o1, o2, o3] 7 v = [o0, o1, o2, o3, none, none, none, some v])
  ∧ (∀ (o0 o1 o2 o3 o4 : Option Value) (v : Value), ls1 [o0, o1, o2, o3, o4] 7 v = [o0, o1, o2, o3, o4, none, none, some v])
  ∧ (∀ (o0 o1 o2 o3 o4 o5 : Option Value) (v : Value), ls1 [o0, o1, o2, o3, o4, o5] 7 v = [o0, o1, o2, o3, o4, o5, none, some v])
  ∧ (∀ (o0 o1 o2 o3 o4 o5 o6 : Option Value) (v : Value), ls1 [o0, o1, o2, o3, o4, o5, o6] 7 v = [o0, o1, o2, o3, o4, o5, clr o6, some v])
  ∧ (∀ (o0 o1 o2 o3 o4 o5 o6 o7 o8 : Option Value) (t : LX) (v : Value), ls1 (o0 :: o1 :: o2 :: o3 :: o4 :: o5 :: o6 :: o7 :: o8 :: t) 8 v = o0 :: o1 :: o2 :: o3 :: o4 :: o5 :: o6 :: clr o7 :: some v :: t)
  ∧ (∀ (v : Value), ls1 [] 8 v = [none, none, none, none, none, none, none, none, some v])
  ∧ (∀ (o0 : Option Value) (v : Value), ls1 [o0] 8 v = [o0, none, none, none, none, none, none, none, some v])
  ∧ (∀ (o0 o1 : Option Value) (v : Value), ls1 [o0, o1] 8 v = [o0, o1, none, none, none, none, none, none, some v])
  ∧ (∀ (o0 o1 o2 : Option Value) (v : Value), ls1 [o0, o1, o2] 8 v = [o0, o1, o2, none, none, none, none, none, some v])
  ∧ (∀ (o0 o1 o2 o3 : Option Value) (v : Value), ls1 [o0, o1, o2, o3] 8 v = [o0, o1, o2, o3, none, none, none, none, some v])
  ∧ (∀ (o0 o1 o2 o3 o4 : Option Value) (v : Value), ls1 [o0, o1, o2, o3, o4] 8 v = [o0, o1, o2, o3, o4, none, none, none, some v])
  ∧ (∀ (o0 o1 o2 o3 o4 o5 : Option Value) (v : Value), ls1 [o0, o1, o2, o3, o4, o5] 8 v = [o0, o1, o2, o3, o4, o5, none, none, some v])
  ∧ (∀ (o0 o1 o2 o3 o4 o5 o6 : Option Value) (v : Value), ls1 [o0, o1, o2, o3, o4, o5, o6] 8 v = [o0, o1, o2, o3, o4, o5, o6, none, some v])
  ∧ (∀ (o0 o1 o2 o3 o4 o5 o6 o7 : Option Value) (v : Value), ls1 [o0, o1, o2, o3, o4, o5, o6, o7] 8 v = [o0, o1, o2, o3, o4, o5, o6, clr o7, some v])
  ∧ (∀ (o0 o1 o2 o3 o4 o5 o6 o7 o8 o9 : Option Value) (t : LX) (v : Value), ls1 (o0 :: o1 :: o2 :: o3 :: o4 :: o5 :: o6 :: o7 :: o8 :: o9 :: t) 9 v = o0 :: o1 :: o2 :: o3 :: o4 :: o5 :: o6 :: o7 :: clr o8 :: some v :: t)
  ∧ (∀ (v : Value), ls1 [] 9 v = [none, none, none, none, none, none, none, none, none, some v])
  ∧ (∀ (o0 : Option Value) (v : Value), ls1 [o0] 9 v = [o0, none, none, none, none, none, none, none, none, some v])
  ∧ (∀ (o0 o1 : Option Value) (v : Value), ls1 [o0, o1] 9 v = [o0, o1, none, none, none, none, none, none, none, some v])
  ∧ (∀ (o0 o1 o2 : Option Value) (v : Value), ls1 [o0, o1, o2] 9 v = [o0, o1, o2, none, none, none, none, none, none, some v])
  ∧ (∀ (o0 o1 o2 o3 : Option Value) (v : Value), ls1 [o0, o1, o2, o3] 9 v = [o0, o1, o2, o3, none, none, none, none, none, some v])
  ∧ (∀ (o0 o1 o2 o3 o4 : Option Value) (v : Value), ls1 [o0, o1, o2, o3, o4] 9 v = [o0, o1, o2, o3, o4, none, none, none, none, some v])
  ∧ (∀ (o0 o1 o2 o3 o4 o5 : Option Value) (v : Value), ls1 [o0, o1, o2, o3, o4, o5] 9 v = [o0, o1, o2, o3, o4, o5, none, none, none, some v])
  ∧ (∀ (o0 o1 o2 o3 o4 o5 o6 : Option Value) (v : Value), ls1 [o0, o1, o2, o3, o4, o5, o6] 9 v = [o0, o1, o2, o3, o4, o5, o6, none, none, some v])
  ∧ (∀ (o0 o1 o2 o3 o4 o5 o6 o7 : Option Value) (v : Value), ls1 [o0, o1, o2, o3, o4, o5, o6, o7] 9 v = [o0, o1, o2, o3, o4, o5, o6, o7, none, some v])
  ∧ (∀ (o0 o1 o2 o3 o4 o5 o6 o7 o8 : Option Value) (v : Value), ls1 [o0, o1, o2, o3, o4, o5, o6, o7, o8] 9 v = [o0, o1, o2, o3, o4, o5, o6, o7, clr o8, some v])
  ∧ (∀ (o0 o1 o2 o3 o4 o5 o6 o7 o8 o9 o10 : Option Value) (t : LX) (v : Value), ls1 (o0 :: o1 :: o2 :: o3 :: o4 :: o5 :: o6 :: o7 :: o8 :: o9 :: o10 :: t) 10 v = o0 :: o1 :: o2 :: o3 :: o4 :: o5 :: o6 :: o7 :: o8 :: clr o9 :: some v :: t)
  ∧ (∀ (v : Value), ls1 [] 10 v = [none, none, none, none, none, none, none, none, none, none, some v])
  ∧ (∀ (o0 : Option Value) (v : Value), ls1 [o0] 10 v = [o0, none, none, none, none, none, none, none, none, none, some v])
  ∧ (∀ (o0 o1 : Option Value) (v : Value), ls1 [o0, o1] 10 v = [o0, o1, none, none, none, none, none, none, none, none, some v])
  ∧ (∀ (o0 o1 o2 : Option Value) (v : Value), ls1 [o0, o1, o2] 10 v = [o0, o1, o2, none, none, none, none, none, none, none, some v])
  ∧ (∀ (o0 o1 o2 o3 : Option Value) (v : Value), ls1 [o0, o1, o2, o3] 10 v = [o0, o1, o2, o3, none, none, none, none, none, none, some v])
  ∧ (∀ (o0 o1 o2 o3 o4 : Option Value) (v : Value), ls1 [o0, o1, o2, o3, o4] 10 v = [o0, o1, o2, o3, o4, none, none, none, none, none, some v])
  ∧ (∀ (o0 o1 o2 o3 o4 o5 : Option Value) (v : Value), ls1 [o0, o1, o2, o3, o4, o5] 10 v = [o0, o1, o2, o3, o4, o5, none, none, none, none, some v])
  ∧ (∀ (o0 o1 o2 o3 o4 o5 o6 : Option Value) (v : Value), ls1 [o0, o1, o2, o3, o4, o5, o6] 10 v = [o0, o1, o2, o3, o4, o5, o6, none, none, none, some v])
  ∧ (∀ (o0 o1 o2 o3 o4 o5 o6 o7 : Option Value) (v : Value), ls1 [o0, o1, o2, o3, o4, o5, o6, o7] 10 v = [o0, o1, o2, o3, o4, o5, o6, o7, none, none, some v])
  ∧ (∀ (o0 o1 o2 o3 o4 o5 o6 o7 o8 : Option Value) (v : Value), ls1 [o0, o1, o2, o3, o4, o5, o6, o7, o8] 10 v = [o0, o1, o2, o3, o4, o5, o6, o7, o8, none, some v])
  ∧ (∀ (o0 o1 o2 o3 o4 o5 o6 o7 o8 o9 : Option Value) (v : Value), ls1 [o0, o1, o2, o3, o4, o5, o6, o7, o8, o9] 10 v = [o0, o1, o2, o3, o4, o5, o6, o7, o8, clr o9, some v]) :=
  ⟨(fun o0 t v => by simp [ls1, clr]),
   (fun v => by simp [ls1, clr]),
   (fun o0 o1 t v => by simp [ls1, clr]),
   (fun v => by simp [ls1, clr]),
   (fun o0 v => by simp [ls1, clr]),
   (fun o0 o1 o2 t v => by simp [ls1, clr]),
   (fun v => by simp [ls1, clr]),
   (fun o0 v => by simp [ls1, clr]),
   (fun o0 o1 v => by simp [ls1, clr]),
   (fun o0 o1 o2 o3 t v => by simp [ls1, clr]),
   (fun v => by simp [ls1, clr]),
   (fun o0 v => by simp [ls1, clr]),
   (fun o0 o1 v => by simp [ls1, clr]),
   (fun o0 o1 o2 v => by simp [ls1, clr]),
   (fun o0 o1 o2 o3 o4 t v => by simp [ls1, clr]),
   (fun v => by simp [ls1, clr]),
   (fun o0 v => by simp [ls1, clr]),
   (fun o0 o1 v => by simp [ls1, clr]),
   (fun o0 o1 o2 v => by simp [ls1, clr]),
   (fun o0 o1 o2 o3 v => by simp [ls1, clr]),
   (fun o0 o1 o2 o3 o4 o5 t v => by simp [ls1, clr]),
   (fun v => by simp [ls1, clr]),
   (fun o0 v => by simp [ls1, clr]),
   (fun o0 o1 v => by simp [ls1, clr]),
   (fun o0 o1 o2 v => by simp [ls1, clr]),
   (fun o0 o1 o2 o3 v => by simp [ls1, clr]),
   (fun o0 o1 o2 o3 o4 v => by simp [ls1, clr]),
   (fun o0 o1 o2 o3 o4 o5 o6 t v => by simp [ls1, clr]),
   (fun v => by simp [ls1, clr]),
   (fun o0 v => by simp [ls1, clr]),
   (fun o0 o1 v => by simp [ls1, clr]),
   (fun o0 o1 o2 v => by simp [ls1, clr]),
   (fun o0 o1 o2 o3 v => by simp [ls1, clr]),
   (fun o0 o1 o2 o3 o4 v => by simp [ls1, clr]),
   (fun o0 o1 o2 o3 o4 o5 v => by simp [ls1, clr]),
   (fun o0 o1 o2 o3 o4 o5 o6 o7 t v => by simp [ls1, clr]),
   (fun v => by simp [ls1, clr]),
   (fun o0 v => by simp [ls1, clr]),
   (fun o0 o1 v => by simp [ls1, clr]),
   (fun o0 o1 o2 v => by simp [ls1, clr]),
   (fun o0 o1 o2 o3 v => by simp [ls1, clr]),
   (fun o0 o1 o2 o3 o4 v => by simp [ls1, clr]),
   (fun o0 o1 o2 o3 o4 o5 v => by simp [ls1, clr]),
   (fun o0 o1 o2 o3 o4 o5 o6 v => by simp [ls1, clr]),
   (fun o0 o1 o2 o3 o4 o5 o6 o7 o8 t v => by simp [ls1, clr]),
   (fun v => by simp [ls1, clr]),
   (fun o0 v => by simp [ls1, clr]),
   (fun o0 o1 v => by simp [ls1, clr]),
   (fun o0 o1 o2 v => by simp [ls1, clr]),
   (fun o0 o1 o2 o3 v => by simp [ls1, clr]),
   (fun o0 o1 o2 o3 o4 v => by simp [ls1, clr]),
   (fun o0 o1 o2 o3 o4 o5 v => by simp [ls1, clr]),
   (fun o0 o1 o2 o3 o4 o5 o6 v => by simp [ls1, clr]),
   (fun o0 o1 o2 o3 o4 o5 o6 o7 v => by simp [ls1, clr]),
   (fun o0 o1 o2 o3 o4 o5 o6 o7 o8 o9 t v => by simp [ls1, clr]),
   (fun v => by simp [ls1, clr]),
   (fun o0 v => by simp [ls1, clr]),
   (fun o0 o1 v => by simp [ls1, clr]),
   (fun o0 o1 o2 v => by simp [ls1, clr]),
   (fun o0 o1 o2 o3 v => by simp [ls1, clr]),
   (fun o0 o1 o2 o3 o4 v => by simp [ls1, clr]),
   (fun o0 o1 o2 o3 o4 o5 v => by simp [ls1, clr]),
   (fun o0 o1 o2 o3 o4 o5 o6 v => by simp [ls1, clr]),
   (fun o0 o1 o2 o3 o4 o5 o6 o7 v => by simp [ls1, clr]),
   (fun o0 o1 o2 o3 o4 o5 o6 o7 o8 v => by simp [ls1, clr]),
   (fun o0 o1 o2 o3 o4 o5 o6 o7 o8 o9 o10 t v => by simp [ls1, clr]),
   (fun v => by simp [ls1, clr]),
   (fun o0 v => by simp [ls1, clr]),
   (fun o0 o1 v => by simp [ls1, clr]),
   (fun o0 o1 o2 v => by simp [ls1, clr]),
   (fun o0 o1 o2 o3 v => by simp [ls1, clr]),
   (fun o0 o1 o2 o3 o4 v => by simp [ls1, clr]),
   (fun o0 o1 o2 o3 o4 o5 v => by simp [ls1, clr]),
   (fun o0 o1 o2 o3 o4 o5 o6 v => by simp [ls1, clr]),
   (fun o0 o1 o2 o3 o4 o5 o6 o7 v => by simp [ls1, clr]),
   (fun o0 o1 o2 o3 o4 o5 o6 o7 o8 v => by simp [ls1, clr]),
   (fun o0 o1 o2 o3 o4 o5 o6 o7 o8 o9 v => by simp [ls1, clr])⟩
theorem ls2s : (∀ (o0 o1 : Option Value) (t : LX) (v : Value), ls2 (o0 :: o1 :: t) 0 v = some v :: none :: t)
  ∧ (∀ (v : Value), ls2 [] 0 v = [some v])
  ∧ (∀ (o0 : Option Value) (v : Value), ls2 [o0] 0 v = [some v])
  ∧ (∀ (o0 o1 o2 : Option Value) (t : LX) (v : Value), ls2 (o0 :: o1 :: o2 :: t) 1 v = clr o0 :: some v :: none :: t)
  ∧ (∀ (v : Value), ls2 [] 1 v = [none, some v])
  ∧ (∀ (o0 : Option Value) (v : Value), ls2 [o0] 1 v = [clr o0, some v])
  ∧ (∀ (o0 o1 : Option Value) (v : Value), ls2 [o0, o1] 1 v = [clr o0, some v])
  ∧ (∀ (o0 o1 o2 o3 : Option Value) (t : LX) (v : Value), ls2 (o0 :: o1 :: o2 :: o3 :: t) 2 v = o0 :: clr o1 :: some v :: none :: t)
  ∧ (∀ (v : Value), ls2 [] 2 v = [none, none, some v])
  ∧ (∀ (o0 : Option Value) (v : Value), ls2 [o0] 2 v = [o0, none, some v])
  ∧ (∀ (o0 o1 : Option Value) (v : Value), ls2 [o0, o1] 2 v = [o0, clr o1, some v])
  ∧ (∀ (o0 o1 o2 : Option Value) (v : Value), ls2 [o0, o1, o2] 2 v = [o0, clr o1, some v])
  ∧ (∀ (o0 o1 o2 o3 o4 : Option Value) (t : LX) (v : Value), ls2 (o0 :: o1 :: o2 :: o3 :: o4 :: t) 3 v = o0 :: o1 :: clr o2 :: some v :: none :: t)
  ∧ (∀ (v : Value), ls2 [] 3 v = [none, none, none, some v])
  ∧ (∀ (o0 : Option Value) (v : Value), ls2 [o0] 3 v = [o0, none, none, some v])
  ∧ (∀ (o0 o1 : Option Value) (v : Value), ls2 [o0, o1] 3 v = [o0, o1, none, some v])
  ∧ (∀ (o0 o1 o2 : Option Value) (v : Value), ls2 [o0, o1, o2] 3 v = [o0, o1, clr o2, some v])
  ∧ (∀ (o0 o1 o2 o3 : Option Value) (v : Value), ls2 [o0, o1, o2, o3] 3 v = [o0, o1, clr o2, some v])
  ∧ (∀ (o0 o1 o2 o3 o4 o5 : Option Value) (t : LX) (v : Value), ls2 (o0 :: o1 :: o2 :: o3 :: o4 :: o5 :: t) 4 v = o0 :: o1 :: o2 :: clr o3 :: some v :: none :: t)
  ∧ (∀ (v : Value), ls2 [] 4 v = [none, none, none, none, some v])
  ∧ (∀ (o0 : Option Value) (v : Value), ls2 [o0] 4 v = [o0, none, none, none, some v])
  ∧ (∀ (o0 o1 : Option Value) (v : Value), ls2 [o0, o1] 4 v = [o0, o1, none, none, some v])
  ∧ (∀ (o0 o1 o2 : Option Value) (v : Value), ls2 [o0, o1, o2] 4 v = [o0, o1, o2, none, some v])
  ∧ (∀ (o0 o1 o2 o3 : Option Value) (v : Value), ls2 [o0, o1, o2, o3] 4 v = [o0, o1, o2, clr o3, some v])
  ∧ (∀ (o0 o1 o2 o3 o4 : Option Value) (v : Value), ls2 [o0, o1, o2, o3, o4] 4 v = [o0, o1, o2, clr o3, some v])
  ∧ (∀ (o0 o1 o2 o3 o4 o5 o6 : Option Value) (t : LX) (v : Value), ls2 (o0 :: o1 :: o2 :: o3 :: o4 :: o5 :: o6 :: t) 5 v = o0 :: o1 :: o2 :: o3 :: clr o4 :: some v :: none :: t)
  ∧ (∀ (v : Value), ls2 [] 5 v = [none, none, none, none, none, some v])
  ∧ (∀ (o0 : Option Value) (v : Value), ls2 [o0] 5 v = [o0, none, none, none, none, some v])
  ∧ (∀ (o0 o1 : Option Value) (v : Value), ls2 [o0, o1] 5 v = [o0, o1, none, none, none, some v])
  ∧ (∀ (o0 o1 o2 : Option Value) (v : Value), ls2 [o0, o1, o2] 5 v = [o0, o1, o2, none, none, some v])
  ∧ (∀ (o0 o1 o2 o3 : Option Value) (v : Value), ls2 [o0, o1, o2, o3] 5 v = [o0, o1, o2, o3, none, some v])
  ∧ (∀ (o0 o1 o2 o3 o4 : Option Value) (v : Value), ls2 [o0, o1, o2, o3, o4] 5 v = [o0, o1, o2, o3, clr o4, some v])
  ∧ (∀ (o0 o1 o2 o3 o4 o5 : Option Value) (v : Value), ls2 [o0, o1, o2, o3, o4, o5] 5 v = [o0, o1, o2, o3, clr o4, some v])
  ∧ (∀ (o0 o1 o2 o3 o4 o5 o6 o7 : Option Value) (t : LX) (v : Value), ls2 (o0 :: o1 :: o2 :: o3 :: o4 :: o5 :: o6 :: o7 :: t) 6 v = o0 :: o1 :: o2 :: o3 :: o4 :: clr o5 :: some v :: none :: t)
  ∧ (∀ (v : Value), ls2 [] 6 v = [none, none, none, none, none, none, some v])
  ∧ (∀ (o0 : Option Value) (v : Value), ls2 [o0] 6 v = [o0, none, none, none, none, none, some v])
  ∧ (∀ (o0 o1 : Option Value) (v : Value), ls2 [o0, o1] 6 v = [o0, o1, none, none, none, none, some v])
  ∧ (∀ (o0 o1 o2 : Option Value) (v : Value), ls2 [o0, o1, o2] 6 v = [o0, o1, o2, none, none, none, some v])
  ∧ (∀ (o0 o1 o2 o3 : Option Value) (v : Value), ls2 [o0, o1, o2, o3] 6 v = [o0, o1, o2, o3, none, none, some v])
  ∧ (∀ (o0 o1 o2 o3 o4 : Option Value) (v : Value), ls2 [o0, o1, o2, o3, o4] 6 v = [o0, o1, o2, o3, o4, none, some v])
  ∧ (∀ (o0 o1 o2 o3 o4 o5 : Option Value) (v : Value), ls2 [o0, o1, o2, o3, o4, o5] 6 v = [o0, o1, o2, o3, o4, clr o5, some v])
  ∧ (∀ (o0 o1 o2 o3 o4 o5 o6 : Option Value) (v : Value), ls2 [o0, o1, o2, o3, o4, o5, o6] 6 v = [o0, o1, o2, o3, o4, clr o5, some v])
  ∧ (∀ (o0 o1 o2 o3 o4 o5 o6 o7 o8 : Option Value) (t : LX) (v : Value), ls2 (o0 :: o1 :: o2 :: o3 :: o4 :: o5 :: o6 :: o7 :: o8 :: t) 7 v = o0 :: o1 :: o2 :: o3 :: o4 :: o5 :: clr o6 :: some v :: none :: t)
  ∧ (∀ (v : Value), ls2 [] 7 v = [none, none, none, none, none, none, none, some v])
  ∧ (∀ (o0 : Option Value) (v : Value), ls2 [o0] 7 v = [o0, none, none, none, none, none, none, some v])
  ∧ (∀ (o0 o1 : Option Value) (v : Value), ls2 [o0, o1] 7 v = [o0, o1, none, none, none, none, none, some v])
  ∧ (∀ (o0 o1 o2 : Option Value) (v : Value), ls2 [o0, o1, o2] 7 v = [o0, o1, o2, none, none, none, none, some v])
  ∧ (∀ (o0 o1 o2 o3 : Option Value) (v : Value), ls2 [o0, o1, o2, o3] 7 v = [o0, o1, o2, o3, none, none, none, some v])
  ∧ (∀ (o0 o1 o2 o3 o4 : Option Value) (v : Value), ls2 [o0, o1, o2, o3, o4] 7 v = [o0, o1, o2, o3, o4, none, none, some v])
  ∧ (∀ (o0 o1 o2 o3 o4 o5 : Option Value) (v : Value), ls2 [o0, o1, o2, o3, o4, o5] 7 v = [o0, o1, o2, o3, o4, o5, none, some v])
  ∧ (∀ (o0 o1 o2 o3 o4 o5 o6 : Option Value) (v : Value), ls2 [o0, o1, o2, o3, o4, o5, o6] 7 v = [o0, o1, o2, o3, o4, o5, clr o6, some v])
  ∧ (∀ (o0 o1 o2 o3 o4 o5 o6 o7 : Option Value) (v : Value), ls2 [o0, o1, o2, o3, o4, o5, o6, o7] 7 v = [o0, o1, o2, o3, o4, o5, clr o6, some v])
  ∧ (∀ (o0 o1 o2 o3 o4 o5 o6 o7 o8 o9 : Option Value) (t : LX) (v : Value), ls2 (o0 :: o1 :: o2 :: o3 :: o4 :: o5 :: o6 :: o7 :: o8 :: o9 :: t) 8 v = o0 :: o1 :: o2 :: o3 :: o4 :: o5 :: o6 :: clr o7 :: some v :: none :: t)
  ∧ (∀ (v : Value), ls2 [] 8 v = [none, none, none, none, none, none, none, none, some v])
  ∧ (∀ (o0 : Option Value) (v : Value), ls2 [o0] 8 v = [o0, none, none, none, none, none, none, none, some v])
  ∧ (∀ (o0 o1 : Option Value) (v : Value), ls2 [o0, o1] 8 v = [o0, o1, none, none, none, none, none, none, some v])
  ∧ (∀ (o0 o1 o2 : Option Value) (v : Value), ls2 [o0, o1, o2] 8 v = [o0, o1, o2, none, none, none, none, none, some v])
  ∧ (∀ (o0 o1 o2 o3 : Option Value) (v : Value), ls2 [o0, o1, o2, o3] 8 v = [o0, o1, o2, o3, none, none, none, none, some v])
  ∧ (∀ (o0 o1 o2 o3 o4 : Option Value) (v : Value), ls2 [o0, o1, o2, o3, o4] 8 v = [o0, o1, o2, o3, o4, none, none, none, some v])
  ∧ (∀ (o0 o1 o2 o3 o4 o5 : Option Value) (v : Value), ls2 [o0, o1, o2, o3, o4, o5] 8 v = [o0, o1, o2, o3, o4, o5, none, none, some v])
  ∧ (∀ (o0 o1 o2 o3 o4 o5 o6 : Option Value) (v : Value), ls2 [o0, o1, o2, o3, o4, o5, o6] 8 v = [o0, o1, o2, o3, o4, o5, o6, none, some v])
  ∧ (∀ (o0 o1 o2 o3 o4 o5 o6 o7 : Option Value) (v : Value), ls2 [o0, o1, o2, o3, o4, o5, o6, o7] 8 v = [o0, o1, o2, o3, o4, o5, o6, clr o7, some v])
  ∧ (∀ (o0 o1 o2 o3 o4 o5 o6 o7 o8 : Option Value) (v : Value), ls2 [o0, o1, o2, o3, o4, o5, o6, o7, o8] 8 v = [o0, o1, o2, o3, o4, o5, o6, clr o7, some v])
  ∧ (∀ (o0 o1 o2 o3 o4 o5 o6 o7 o8 o9 o10 : Option Value) (t : LX) (v : Value), ls2 (o0 :: o1 :: o2 :: o3 :: o4 :: o5 :: o6 :: o7 :: o8 :: o9 :: o10 :: t) 9 v = o0 :: o1 :: o2 :: o3 :: o4 :: o5 :: o6 :: o7 :: clr o8 :: some v :: none :: t)
  ∧ (∀ (v : Value), ls2 [] 9 v = [none, none, none, none, none, none, none, none, none, some v])
  ∧ (∀ (o0 : Option Value) (v : Value), ls2 [o0] 9 v = [o0, none, none, none, none, none, none, none, none, some v])
  ∧ (∀ (o0 o1 : Option Value) (v : Value), ls2 [o0, o1] 9 v = [o0, o1, none, none, none, none, none, none, none, some v])
  ∧ (∀ (o0 o1 o2 : Option Value) (v : Value), ls2 [o0, o1, o2] 9 v = [o0, o1, o2, none, none, none, none, none, none, some v])
  ∧ (∀ (o0 o1 o2 o3 : Option Value) (v : Value), ls2 [o0, o1, o2, o3] 9 v = [o0, o1, o2, o3, none, none, none, none, none, some v])
  ∧ (∀ (o0 o1 o2 o3 o4 : Option Value) (v : Value), ls2 [o0, o1, o2, o3, o4] 9 v = [o0, o1, o2, o3, o4, none, none, none, none, some v])
  ∧ (∀ (o0 o1 o2 o3 o4 o5 : Option Value) (v : Value), ls2 [o0, o1, o2, o3, o4, o5] 9 v = [o0, o1, o2, o3, o4, o5, none, none, none, some v])
  ∧ (∀ (o0 o1 o2 o3 o4 o5 o6 : Option Value) (v : Value), ls2 [o0, o1, o2, o3, o4, o5, o6] 9 v = [o0, o1, o2, o3, o4, o5, o6, none, none, some v])
  ∧ (∀ (o0 o1 o2 o3 o4 o5 o6 o7 : Option Value) (v : Value), ls2 [o0, o1, o2, o3, o4, o5, o6, o7] 9 v = [o0, o1, o2, o3, o4, o5, o6, o7, none, some v])
  ∧ (∀ (o0 o1 o2 o3 o4 o5 o6 o7 o8 : Option Value) (v : Value), ls2 [o0, o1, o2, o3, o4, o5, o6, o7, o8] 9 v = [o0, o1, o2, o3, o4, o5, o6, o7, clr o8, some v])
  ∧ (∀ (o0 o1 o2 o3 o4 o5 o6 o7 o8 o9 : Option Value) (v : Value), ls2 [o0, o1, o2, o3, o4, o5, o6, o7, o8, o9] 9 v = [o0, o1, o2, o3, o4, o5, o6, o7, clr o8, some v])
  ∧ (∀ (o0 o1 o2 o3 o4 o5 o6 o7 o8 o9 o10 o11 : Option Value) (t : LX) (v : Value), ls2 (o0 :: o1 :: o2 :: o3 :: o4 :: o5 :: o6 :: o7 :: o8 :: o9 :: o10 :: o11 :: t) 10 v = o0 :: o1 :: o2 :: o3 :: o4 :: o5 :: o6 :: o7 :: o8 :: clr o9 :: some v :: none :: t)
  ∧ (∀ (v : Value), ls2 [] 10 v = [none, none, none, none, none, none, none, none, none, none, some v])
  ∧ (∀ (o0 : Option Value) (v : Value), ls2 [o0] 10 v = [o0, none, none, none, none, none, none, none, none, none, some v])
  ∧ (∀ (o0 o1 : Option Value) (v : Value), ls2 [o0, o1] 10 v = [o0, o1, none, none, none, none, none, none, none, none, some v])
  ∧ (∀ (o0 o1 o2 : Option Value) (v : Value), ls2 [o0, o1, o2] 10 v = [o0, o1, o2, none, none, none, none, none, none, none, some v])
  ∧ (∀ (o0 o1 o2 o3 : Option Value) (v : Value), ls2 [o0, o1, o2, o3] 10 v = [o0, o1, o2, o3, none, none, none, none, none, none, some v])
  ∧ (∀ (o0 o1 o2 o3 o4 : Option Value) (v : Value), ls2 [o0, o1, o2, o3, o4] 10 v = [o0, o1, o2, o3, o4, none, none, none, none, none, some v])
  ∧ (∀ (o0 o1 o2 o3 o4 o5 : Option Value) (v : Value), ls2 [o0, o1, o2, o3, o4, o5] 10 v = [o0, o1, o2, o3, o4, o5, none, none, none, none, some v])
  ∧ (∀ (o0 o1 o2 o3 o4 o5 o6 : Option Value) (v : Value), ls2 [o0, o1, o2, o3, o4, o5, o6] 10 v = [o0, o1, o2, o3, o4, o5, o6, none, none, none, some v])
  ∧ (∀ (o0 o1 o2 o3 o4 o5 o6 o7 : Option Value) (v : Value), ls2 [o0, o1, o2, o3, o4, o5, o6, o7] 10 v = [o0, o1, o2, o3, o4, o5, o6, o7, none, none, some v])
  ∧ (∀ (o0 o1 o2 o3 o4 o5 o6 o7 o8 : Option Value) (v : Value), ls2 [o0, o1, o2, o3, o4, o5, o6, o7, o8] 10 v = [o0, o1, o2, o3, o4, o5, o6, o7, o8, none, some v])
  ∧ (∀ (o0 o1 o2 o3 o4 o5 o6 o7 o8 o9 : Option Value) (v : Value), ls2 [o0, o1, o2, o3, o4, o5, o6, o7, o8, o9] 10 v = [o0, o1, o2, o3, o4, o5, o6, o7, o8, clr o9, some v])
  ∧ (∀ (o0 o1 o2 o3 o4 o5 o6 o7 o8 o9 o10 : Option Value) (v : Value), ls2 [o0, o1, o2, o3, o4, o5, o6, o7, o8, o9, o10] 10 v = [o0, o1, o2, o3, o4, o5, o6, o7, o8, clr o9, some v]) :=
  ⟨(fun o0 o1 t v => by simp [ls2, clr]),
   (fun v => by simp [ls2, clr]),
   (fun o0 v => by simp [ls2, clr]),
   (fun o0 o1 o2 t v => by simp [ls2, clr]),
   (fun v => by simp [ls2, clr]),
   (fun o0 v => by simp [ls2, clr]),
   (fun o0 o1 v => by simp [ls2, clr]),
   (fun o0 o1 o2 o3 t v => by simp [ls2, clr]),
   (fun v => by simp [ls2, clr]),
   (fun o0 v => by simp [ls2, clr]),
   (fun o0 o1 v => by simp [ls2, clr]),
   (fun o0 o1 o2 v => by simp [ls2, clr]),
   (fun o0 o1 o2 o3 o4 t v => by simp [ls2, clr]),
   (fun v => by simp [ls2, clr]),
   (fun o0 v => by simp [ls2, clr]),
   (fun o0 o1 v => by simp [ls2, clr]),
   (fun o0 o1 o2 v => by simp [ls2, clr]),
   (fun o0 o1 o2 o3 v => by simp [ls2, clr]),
   (fun o0 o1 o2 o3 o4 o5 t v => by simp [ls2, clr]),
   (fun v => by simp [ls2, clr]),
   (fun o0 v => by simp [ls2, clr]),
   (fun o0 o1 v => by simp [ls2, clr]),
   (fun o0 o1 o2 v => by simp [ls2, clr]),
   (fun o0 o1 o2 o3 v => by simp [ls2, clr]),
   (fun o0 o1 o2 o3 o4 v => by simp [ls2, clr]),
   (fun o0 o1 o2 o3 o4 o5 o6 t v => by simp [ls2, clr]),
   (fun v => by simp [ls2, clr]),
   (fun o0 v => by simp [ls2, clr]),
   (fun o0 o1 v => by simp [ls2, clr]),
   (fun o0 o1 o2 v => by simp [ls2, clr]),
   (fun o0 o1 o2 o3 v => by simp [ls2, clr]),
   (fun o0 o1 o2 o3 o4 v => by simp [ls2, clr]),
   (fun o0 o1 o2 o3 o4 o5 v => by simp [ls2, clr]),
   (fun o0 o1 o2 o3 o4 o5 o6 o7 t v => by simp [ls2, clr]),
   (fun v => by simp [ls2, clr]),
   (fun o0 v => by simp [ls2, clr]),
   (fun o0 o1 v => by simp [ls2, clr]),
   (fun o0 o1 o2 v => by simp [ls2, clr]),
   (fun o0 o1 o2 o3 v => by simp [ls2, clr]),
   (fun o0 o1 o2 o3 o4 v => by simp [ls2, clr]),
   (fun o0 o1 o2 o3 o4 o5 v => by simp [ls2, clr]),
   (fun o0 o1 o2 o3 o4 o5 o6 v => by simp [ls2, clr]),
   (fun o0 o1 o2 o3 o4 o5 o6 o7 o8 t v => by simp [ls2, clr]),
   (fun v => by simp [ls2, clr]),
   (fun o0 v => by simp [ls2, clr]),
   (fun o0 o1 v => by simp [ls2, clr]),
   (fun o0 o1 o2 v => by simp [ls2, clr]),
   (fun o0 o1 o2 o3 v => by simp [ls2, clr]),
   (fun o0 o1 o2 o3 o4 v => by simp [ls2, clr]),
   (fun o0 o1 o2 o3 o4 o5 v => by simp [ls2, clr]),
   (fun o0 o1 o2 o3 o4 o5 o6 v => by simp [ls2, clr]),
   (fun o0 o1 o2 o3 o4 o5 o6 o7 v => by simp [ls2, clr]),
   (fun o0 o1 o2 o3 o4 o5 o6 o7 o8 o9 t v => by simp [ls2, clr]),
   (fun v => by simp [ls2, clr]),
   (fun o0 v => by simp [ls2, clr]),
   (fun o0 o1 v => by simp [ls2, clr]),
   (fun o0 o1 o2 v => by simp [ls2, clr]),
   (fun o0 o1 o2 o3 v => by simp [ls2, clr]),
   (fun o0 o1 o2 o3 o4 v => by simp [ls2, clr]),
   (fun o0 o1 o2 o3 o4 o5 v => by simp [ls2, clr]),
   (fun o0 o1 o2 o3 o4 o5 o6 v => by simp [ls2, clr]),
   (fun o0 o1 o2 o3 o4 o5 o6 o7 v => by simp [ls2, clr]),
   (fun o0 o1 o2 o3 o4 o5 o6 o7 o8 v => by simp [ls2, clr]),
   (fun o0 o1 o2 o3 o4 o5 o6 o7 o8 o9 o10 t v => by simp [ls2, clr]),
   (fun v => by simp [ls2, clr]),
   (fun o0 v => by simp [ls2, clr]),
   (fun o0 o1 v => by simp [ls2, clr]),
   (fun o0 o1 o2 v => by simp [ls2, clr]),
   (fun o0 o1 o2 o3 v => by simp [ls2, clr]),
   (fun o0 o1 o2 o3 o4 v => by simp [ls2, clr]),
   (fun o0 o1 o2 o3 o4 o5 v => by simp [ls2, clr]),
   (fun o0 o1 o2 o3 o4 o5 o6 v => by simp [ls2, clr]),
   (fun o0 o1 o2 o3 o4 o5 o6 o7 v => by simp [ls2, clr]),
   (fun o0 o1 o2 o3 o4 o5 o6 o7 o8 v => by simp [ls2, clr]),
   (fun o0 o1 o2 o3 o4 o5 o6 o7 o8 o9 v => by simp [ls2, clr]),
   (fun o0 o1 o2 o3 o4 o5 o6 o7 o8 o9 o10 o11 t v => by simp [ls2, clr]),
   (fun v => by simp [ls2, clr]),
   (fun o0 v => by simp [ls2, clr]),
   (fun o0 o1 v => by simp [ls2, clr]),
   (fun o0 o1 o2 v => by simp [ls2, clr]),
   (fun o0 o1 o2 o3 v => by simp [ls2, clr]),
   (fun o0 o1 o2 o3 o4 v => by simp [ls2, clr]),
   (fun o0 o1 o2 o3 o4 o5 v => by simp [ls2, clr]),
   (fun o0 o1 o2 o3 o4 o5 o6 v => by simp [ls2, clr]),
   (fun o0 o1 o2 o3 o4 o5 o6 o7 v => by simp [ls2, clr]),
   (fun o0 o1 o2 o3 o4 o5 o6 o7 o8 v => by simp [ls2, clr]),
   (fun o0 o1 o2 o3 o4 o5 o6 o7 o8 o9 v => by simp [ls2, clr]),
   (fun o0 o1 o2 o3 o4 o5 o6 o7 o8 o9 o10 v => by simp [ls2, clr])⟩
theorem ent_nil : ent [] = [] := rfl
theorem ent_int (x : Int32) (t : List Value) : ent (.int x :: t) = some (.int x) :: ent t := rfl
theorem ent_ref (x : Nat) (t : List Value) : ent (.ref x :: t) = some (.ref x) :: ent t := rfl
theorem ent_long (x : Int64) (t : List Value) : ent (.long x :: t) = some (.long x) :: none :: ent t := rfl
theorem Call_eq (M : MI) (lv : Nat) (a : List Value) (w : AH) : Call M lv a w = Ex M lv 0 (ent a) [] w := rfl
/-- a field of an object put -/
def fput (e : va_E) (k : Nat) (v : Value) : va_E := match e with
  | .inr o => .inr (o.1, o.2.set k v)
  | .inl x => .inl x
theorem gf_lt {e : va_E} {ci k : Nat} {u : Value} (h : gf e ci k = some u) : ∃ o : Nat × List Value, e = .inr o ∧ o.1 = ci ∧ o.2[k]? = some u := by
  unfold gf at h
  split at h
  · rename_i o
    split at h
    · rename_i hc; exact ⟨o, rfl, hc, h⟩
    · cases h
  · cases h
theorem clK_gf {e : va_E} {ci k : Nat} {u : Value} (h : gf e ci k = some u) : clK e = ci := by
  obtain ⟨o, rfl, h1, -⟩ := gf_lt h
  exact h1
theorem pf_gf {e : va_E} {ci k : Nat} {u v : Value} {ty : FieldType} (h : gf e ci k = some u) (hn : narrow ty v = v) (hf : fits ty v = true) : pf e ci k ty v = some (fput e k v) := by
  obtain ⟨o, rfl, rfl, h2⟩ := gf_lt h
  have hl := (List.getElem?_eq_some_iff.mp h2).1
  simp only [pf, fput]
  rw [if_pos ⟨trivial, hl, hn, hf⟩]
theorem pf_i {e : va_E} {ci k : Nat} {u : Value} (h : gf e ci k = some u) (x : Int32) : pf e ci k .int (.int x) = some (fput e k (.int x)) := pf_gf h rfl rfl
theorem pf_z {e : va_E} {ci k : Nat} {u : Value} (h : gf e ci k = some u) {x : Int32} (hx : x = 0 ∨ x = 1) : pf e ci k .boolean (.int x) = some (fput e k (.int x)) := pf_gf h (by rcases hx with rfl | rfl <;> rfl) (by rcases hx with rfl | rfl <;> rfl)
theorem pf_o {e : va_E} {ci k : Nat} {u : Value} {C : String} (h : gf e ci k = some u) (x : Nat) : pf e ci k (.object C) (.ref x) = some (fput e k (.ref x)) := pf_gf h rfl rfl
theorem pf_a {e : va_E} {ci k : Nat} {u : Value} {t : FieldType} (h : gf e ci k = some u) (x : Nat) : pf e ci k (.array t) (.ref x) = some (fput e k (.ref x)) := pf_gf h rfl rfl
theorem gf_put_s {e : va_E} {ci k : Nat} {u v : Value} (h : gf e ci k = some u) : gf (fput e k v) ci k = some v := by
  obtain ⟨o, rfl, rfl, h2⟩ := gf_lt h
  have hl := (List.getElem?_eq_some_iff.mp h2).1
  simp only [fput, gf, if_true]
  rw [List.getElem?_set_self hl]
theorem gf_put_n {e : va_E} {ci k j : Nat} {v : Value} (h : k ≠ j) : gf (fput e k v) ci j = gf e ci j := by
  cases e with
  | inl x => rfl
  | inr o =>
    simp only [fput, gf]
    rw [List.getElem?_set_ne h]
theorem clK_put (e : va_E) (k : Nat) (v : Value) : clK (fput e k v) = clK e := by cases e <;> rfl
theorem hs_eq (w : AH) (a : Nat) (e : va_E) : hg (hs w a e) a = e := by simp [hg, hs]
theorem hs_ne (w : AH) {a b : Nat} (e : va_E) (h : b ≠ a) : hg (hs w a e) b = hg w b := by simp [hg, hs, h]
theorem hs_1 (w : AH) (a : Nat) (e : va_E) : (hs w a e).1 = w.1 := rfl
theorem hs_hs (w : AH) (a : Nat) (e e2 : va_E) : hs (hs w a e) a e2 = hs w a e2 := by
  simp only [hs]
  congr 2
  funext j
  split <;> rfl
theorem hs_same (w : AH) (a : Nat) : hs w a (hg w a) = w := by
  obtain ⟨a1, a2, f⟩ := w
  simp only [hs, hg]
  congr 2
  funext j
  split
  · rename_i h; rw [h]
  · rfl
/-! ints as integers -/
def iz (z : Int) : Int32 := Int32.ofInt z
theorem iz_toInt {z : Int} (h1 : -2147483648 ≤ z) (h2 : z < 2147483648) : (iz z).toInt = z := Int32.toInt_ofInt_of_le h1 h2
theorem iz_of (x : Int32) : iz x.toInt = x := Int32.ofInt_toInt x
theorem iz_add (a b : Int) : iz a + iz b = iz (a + b) := (Int32.ofInt_add a b).symm
theorem iz_sub (a b : Int) : iz a - iz b = iz (a - b) := (Int32.ofInt_sub a b).symm
theorem iz_mul (a b : Int) : iz a * iz b = iz (a * b) := (Int32.ofInt_mul a b).symm
theorem iz_neg (a : Int) : -iz a = iz (-a) := (Int32.ofInt_neg a).symm
theorem iz_lit (n : Nat) : (OfNat.ofNat n : Int32) = iz (OfNat.ofNat n) := rfl

