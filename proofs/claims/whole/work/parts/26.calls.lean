/-! ===== locals count by what they hold; how a call begins (printed by wip/whole/gen26.py) ===== -/
def leq (a b : LX) : Prop := ∀ i, lget a i = lget b i
theorem ls1_lget : ∀ (l : LX) (i : Nat) (v : Value) (j : Nat), lget (ls1 l i v) j = if j = i then some v else if j + 1 = i ∧ isL (lget l j) = true then none else lget l j
  | [], 0, v, 0 => rfl
  | [], 0, v, j + 1 => by simp [ls1, lget]
  | [], i + 1, v, 0 => by simp [ls1, lget]
  | [], i + 1, v, j + 1 => by
    have h := ls1_lget [] i v j
    simp only [ls1, lget] at h ⊢
    rw [h]
    simp [isL]
  | a :: t, 0, v, 0 => rfl
  | a :: t, 0, v, j + 1 => by simp [ls1, lget]
  | a :: t, i + 1, v, 0 => by
    simp only [ls1, lget]
    by_cases h : i = 0
    · subst h; simp
    · simp [h, Ne.symm h]
  | a :: t, i + 1, v, j + 1 => by
    have h := ls1_lget t i v j
    simp only [ls1, lget] at h ⊢
    rw [h]
    simp
theorem ls2_lget : ∀ (l : LX) (i : Nat) (v : Value) (j : Nat), lget (ls2 l i v) j = if j = i then some v else if j = i + 1 then none else if j + 1 = i ∧ isL (lget l j) = true then none else lget l j
  | [], 0, v, 0 => rfl
  | [], 0, v, j + 1 => by simp [ls2, lget]
  | [], i + 1, v, 0 => by simp [ls2, lget]
  | [], i + 1, v, j + 1 => by
    have h := ls2_lget [] i v j
    simp only [ls2, lget] at h ⊢
    rw [h]
    simp [isL]
  | [a], 0, v, 0 => rfl
  | [a], 0, v, j + 1 => by simp [ls2, lget]
  | a :: b :: t, 0, v, 0 => rfl
  | a :: b :: t, 0, v, 1 => rfl
  | a :: b :: t, 0, v, j + 2 => by simp [ls2, lget]
  | a :: t, i + 1, v, 0 => by
    simp only [ls2, lget]
    by_cases h : i = 0
    · subst h; simp
    · simp [h, Ne.symm h]
  | a :: t, i + 1, v, j + 1 => by
    have h := ls2_lget t i v j
    simp only [ls2, lget] at h ⊢
    rw [h]
    simp
theorem leq1 {a b : LX} (h : leq a b) (i : Nat) (v : Value) : leq (ls1 a i v) (ls1 b i v) := fun j => by rw [ls1_lget, ls1_lget, h j]
theorem leq2 {a b : LX} (h : leq a b) (i : Nat) (v : Value) : leq (ls2 a i v) (ls2 b i v) := fun j => by rw [ls2_lget, ls2_lget, h j]
theorem sM_leq {a b : LX} (h : leq a b) (i : Instr) (m : Nat) (st : List Value) : (sM i m a st = none ∧ sM i m b st = none) ∨ ∃ n a' b' st', sM i m a st = some (n, a', st') ∧ sM i m b st = some (n, b', st') ∧ leq a' b' := by
  have hI : ∀ k n, (ldI a k n st = none ∧ ldI b k n st = none) ∨ ∃ n' a' b' st', ldI a k n st = some (n', a', st') ∧ ldI b k n st = some (n', b', st') ∧ leq a' b' := by
    intro k n
    unfold ldI
    rw [h k]
    split
    · exact Or.inr ⟨_, _, _, _, rfl, rfl, h⟩
    · exact Or.inl ⟨rfl, rfl⟩
  have hJ : ∀ k n, (ldJ a k n st = none ∧ ldJ b k n st = none) ∨ ∃ n' a' b' st', ldJ a k n st = some (n', a', st') ∧ ldJ b k n st = some (n', b', st') ∧ leq a' b' := by
    intro k n
    unfold ldJ
    rw [h k]
    split
    · exact Or.inr ⟨_, _, _, _, rfl, rfl, h⟩
    · exact Or.inl ⟨rfl, rfl⟩
  have hA : ∀ k n, (ldA a k n st = none ∧ ldA b k n st = none) ∨ ∃ n' a' b' st', ldA a k n st = some (n', a', st') ∧ ldA b k n st = some (n', b', st') ∧ leq a' b' := by
    intro k n
    unfold ldA
    rw [h k]
    split
    · exact Or.inr ⟨_, _, _, _, rfl, rfl, h⟩
    · exact Or.inr ⟨_, _, _, _, rfl, rfl, h⟩
    · exact Or.inl ⟨rfl, rfl⟩
  have gI : ∀ k n, (stI a k n m st = none ∧ stI b k n m st = none) ∨ ∃ n' a' b' st', stI a k n m st = some (n', a', st') ∧ stI b k n m st = some (n', b', st') ∧ leq a' b' := by
    intro k n
    unfold stI
    split
    · split
      · exact Or.inr ⟨_, _, _, _, rfl, rfl, leq1 h _ _⟩
      · exact Or.inl ⟨rfl, rfl⟩
    · exact Or.inl ⟨rfl, rfl⟩
  have gJ : ∀ k n, (stJ a k n m st = none ∧ stJ b k n m st = none) ∨ ∃ n' a' b' st', stJ a k n m st = some (n', a', st') ∧ stJ b k n m st = some (n', b', st') ∧ leq a' b' := by
    intro k n
    unfold stJ
    split
    · split
      · exact Or.inr ⟨_, _, _, _, rfl, rfl, leq2 h _ _⟩
      · exact Or.inl ⟨rfl, rfl⟩
    · exact Or.inl ⟨rfl, rfl⟩
  have gA : ∀ k n, (stA a k n m st = none ∧ stA b k n m st = none) ∨ ∃ n' a' b' st', stA a k n m st = some (n', a', st') ∧ stA b k n m st = some (n', b', st') ∧ leq a' b' := by
    intro k n
    unfold stA
    split
    · split
      · exact Or.inr ⟨_, _, _, _, rfl, rfl, leq1 h _ _⟩
      · exact Or.inl ⟨rfl, rfl⟩
    · split
      · exact Or.inr ⟨_, _, _, _, rfl, rfl, leq1 h _ _⟩
      · exact Or.inl ⟨rfl, rfl⟩
    · exact Or.inl ⟨rfl, rfl⟩
  unfold sM
  split
  · exact hI _ _
  · exact hI _ _
  · exact hJ _ _
  · exact hJ _ _
  · exact hA _ _
  · exact hA _ _
  · exact gI _ _
  · exact gI _ _
  · exact gJ _ _
  · exact gJ _ _
  · exact gA _ _
  · exact gA _ _
  · rw [h]
    split
    · split
      · exact Or.inr ⟨_, _, _, _, rfl, rfl, leq1 h _ _⟩
      · exact Or.inl ⟨rfl, rfl⟩
    · exact Or.inl ⟨rfl, rfl⟩
  · exact Or.inl ⟨rfl, rfl⟩
theorem run_leq : ∀ (n : Nat) (M : MI) (lv pc : Nat) (a b : LX) (st : List Value) (w : AH), leq a b → run n (M, lv, pc, a, st) w = run n (M, lv, pc, b, st) w := by
  intro n
  induction n with
  | zero => intros; rfl
  | succ n ih =>
    intro M lv pc a b st w h
    rw [run, run]
    unfold step
    dsimp only
    cases hd : decode M.2.1 pc with
    | error x => rfl
    | ok q =>
      dsimp only
      unfold stepI
      cases hA : sA q.1 st with
      | some x =>
        by_cases hk : x.1 = q.2
        · simp only [hk, if_true]
          exact ih _ _ _ _ _ _ _ h
        · simp only [hk, if_false]
      | none =>
        rcases sM_leq h q.1 (mL M) st with ⟨e1, e2⟩ | ⟨k, a', b', st', e1, e2, h'⟩
        · simp only [e1, e2]
          cases hB : sBN q.1 q.2 pc st with
          | some x => exact ih _ _ _ _ _ _ _ h
          | none =>
            cases hH : sH M q.1 st w with
            | some x =>
              by_cases hk : x.1 = q.2
              · simp only [hk, if_true]
                exact ih _ _ _ _ _ _ _ h
              · simp only [hk, if_false]
            | none =>
              cases hR : sR M q.1 q.2 st with
              | some x => rfl
              | none =>
                cases hC : sC M lv q.1 q.2 st w with
                | none => rfl
                | some x =>
                  dsimp only
                  cases hr : run n (x.1, x.2.1, 0, ent x.2.2.1, []) w with
                  | none => rfl
                  | some r => exact ih _ _ _ _ _ _ _ h
        · simp only [e1, e2]
          by_cases hk : k = q.2
          · simp only [hk, if_true]
            exact ih _ _ _ _ _ _ _ h'
          · simp only [hk, if_false]
theorem Ex_leq {M : MI} {lv pc : Nat} {a b : LX} {st : List Value} {w : AH} (h : leq a b) : Ex M lv pc a st w = Ex M lv pc b st w := by
  apply opt_ext
  · intro x hx
    obtain ⟨n, hn⟩ := ExC_to hx
    rw [run_leq n M lv pc a b st w h] at hn
    exact ExC_of hn
  · intro x hx
    obtain ⟨n, hn⟩ := ExC_to hx
    rw [← run_leq n M lv pc a b st w h] at hn
    exact ExC_of hn
theorem lget_app : ∀ (a : LX) (n : Nat), leq a (a ++ List.replicate n none)
  | [], 0, i => rfl
  | [], n + 1, 0 => rfl
  | [], n + 1, i + 1 => (lget_app [] n i)
  | a :: t, n, 0 => rfl
  | a :: t, n, i + 1 => lget_app t n i
theorem Call_pad {M : MI} {lv n : Nat} {a : List Value} {l : LX} {w : AH} (h : ent a ++ List.replicate n none = l) : Call M lv a w = Ex M lv 0 l [] w := by
  subst h
  exact Ex_leq (lget_app _ _)
theorem C_X0_init (lv : Nat) (b : Nat) (w : AH) : Call M_X0_init lv [.ref b] w = Ex M_X0_init lv 0 [some (.ref b), none] [] w := Call_pad (n := 1) rfl
theorem C_X0_copyFrom (lv : Nat) (b : Nat) (a0 : Nat) (w : AH) : Call M_X0_copyFrom lv [.ref b, .ref a0] w = Ex M_X0_copyFrom lv 0 [some (.ref b), some (.ref a0)] [] w := Call_pad (n := 0) rfl
theorem C_X0_colourOf (lv : Nat) (b : Nat) (a0 : Int32) (w : AH) : Call M_X0_colourOf lv [.ref b, .int a0] w = Ex M_X0_colourOf lv 0 [some (.ref b), some (.int a0)] [] w := Call_pad (n := 0) rfl
theorem C_X0_wearOf (lv : Nat) (b : Nat) (a0 : Int32) (w : AH) : Call M_X0_wearOf lv [.ref b, .int a0] w = Ex M_X0_wearOf lv 0 [some (.ref b), some (.int a0)] [] w := Call_pad (n := 0) rfl
theorem C_X0_setColour (lv : Nat) (b : Nat) (a0 : Int32) (a1 : Int32) (w : AH) : Call M_X0_setColour lv [.ref b, .int a0, .int a1] w = Ex M_X0_setColour lv 0 [some (.ref b), some (.int a0), some (.int a1)] [] w := Call_pad (n := 0) rfl
theorem C_X0_setWear (lv : Nat) (b : Nat) (a0 : Int32) (a1 : Int32) (w : AH) : Call M_X0_setWear lv [.ref b, .int a0, .int a1] w = Ex M_X0_setWear lv 0 [some (.ref b), some (.int a0), some (.int a1)] [] w := Call_pad (n := 0) rfl
theorem C_X0_ofColour (lv : Nat) (b : Nat) (a0 : Int32) (w : AH) : Call M_X0_ofColour lv [.ref b, .int a0] w = Ex M_X0_ofColour lv 0 [some (.ref b), some (.int a0), none, none, none] [] w := Call_pad (n := 3) rfl
theorem C_X0_countHoles (lv : Nat) (b : Nat) (w : AH) : Call M_X0_countHoles lv [.ref b] w = Ex M_X0_countHoles lv 0 [some (.ref b)] [] w := Call_pad (n := 0) rfl
theorem C_X0_wearOfAll (lv : Nat) (b : Nat) (w : AH) : Call M_X0_wearOfAll lv [.ref b] w = Ex M_X0_wearOfAll lv 0 [some (.ref b), none, none] [] w := Call_pad (n := 2) rfl
theorem C_X0_landOf (lv : Nat) (b : Nat) (a0 : Int32) (w : AH) : Call M_X0_landOf lv [.ref b, .int a0] w = Ex M_X0_landOf lv 0 [some (.ref b), some (.int a0)] [] w := Call_pad (n := 0) rfl
theorem C_X0_countLands (lv : Nat) (b : Nat) (a0 : Int32) (w : AH) : Call M_X0_countLands lv [.ref b, .int a0] w = Ex M_X0_countLands lv 0 [some (.ref b), some (.int a0), none, none, none, none] [] w := Call_pad (n := 4) rfl
theorem C_X0_greatestLand (lv : Nat) (b : Nat) (w : AH) : Call M_X0_greatestLand lv [.ref b] w = Ex M_X0_greatestLand lv 0 [some (.ref b), none, none, none, none, none, none, none] [] w := Call_pad (n := 7) rfl
theorem C_X0_coloursIn (lv : Nat) (b : Nat) (a0 : Int64) (w : AH) : Call M_X0_coloursIn lv [.ref b, .long a0] w = Ex M_X0_coloursIn lv 0 [some (.ref b), some (.long a0), none, none, none] [] w := Call_pad (n := 2) rfl
theorem C_X0_coloursBeside (lv : Nat) (b : Nat) (a0 : Int32) (w : AH) : Call M_X0_coloursBeside lv [.ref b, .int a0] w = Ex M_X0_coloursBeside lv 0 [some (.ref b), some (.int a0), none, none] [] w := Call_pad (n := 2) rfl
theorem C_X0_countPairs (lv : Nat) (b : Nat) (a0 : Int32) (a1 : Int32) (w : AH) : Call M_X0_countPairs lv [.ref b, .int a0, .int a1] w = Ex M_X0_countPairs lv 0 [some (.ref b), some (.int a0), some (.int a1), none, none, none, none, none, none] [] w := Call_pad (n := 6) rfl
theorem C_X0_meets (lv : Nat) (a0 : Int32) (a1 : Int32) (w : AH) : Call M_X0_meets lv [.int a0, .int a1] w = Ex M_X0_meets lv 0 [some (.int a0), some (.int a1)] [] w := Call_pad (n := 0) rfl
theorem C_X0_leastPeriod (lv : Nat) (b : Nat) (a0 : Int32) (w : AH) : Call M_X0_leastPeriod lv [.ref b, .int a0] w = Ex M_X0_leastPeriod lv 0 [some (.ref b), some (.int a0), none] [] w := Call_pad (n := 1) rfl
theorem C_X0_comesAgain (lv : Nat) (b : Nat) (a0 : Int32) (a1 : Int32) (w : AH) : Call M_X0_comesAgain lv [.ref b, .int a0, .int a1] w = Ex M_X0_comesAgain lv 0 [some (.ref b), some (.int a0), some (.int a1), none, none, none, none, none] [] w := Call_pad (n := 5) rfl
theorem C_X0_staysBy (lv : Nat) (b : Nat) (a0 : Int32) (w : AH) : Call M_X0_staysBy lv [.ref b, .int a0] w = Ex M_X0_staysBy lv 0 [some (.ref b), some (.int a0), none] [] w := Call_pad (n := 1) rfl
theorem C_X0_comesTo (lv : Nat) (a0 : Int32) (a1 : Int32) (w : AH) : Call M_X0_comesTo lv [.int a0, .int a1] w = Ex M_X0_comesTo lv 0 [some (.int a0), some (.int a1), none, none, none, none] [] w := Call_pad (n := 4) rfl
theorem C_X0_fitsBy (lv : Nat) (b : Nat) (a0 : Nat) (a1 : Int32) (a2 : Int32) (w : AH) : Call M_X0_fitsBy lv [.ref b, .ref a0, .int a1, .int a2] w = Ex M_X0_fitsBy lv 0 [some (.ref b), some (.ref a0), some (.int a1), some (.int a2), none, none, none, none] [] w := Call_pad (n := 4) rfl
theorem C_X0_countLayings (lv : Nat) (b : Nat) (a0 : Nat) (w : AH) : Call M_X0_countLayings lv [.ref b, .ref a0] w = Ex M_X0_countLayings lv 0 [some (.ref b), some (.ref a0), none, none, none] [] w := Call_pad (n := 3) rfl
theorem C_X0_bestLaying (lv : Nat) (b : Nat) (a0 : Nat) (w : AH) : Call M_X0_bestLaying lv [.ref b, .ref a0] w = Ex M_X0_bestLaying lv 0 [some (.ref b), some (.ref a0), none, none, none, none, none] [] w := Call_pad (n := 5) rfl
theorem C_X1_init (lv : Nat) (b : Nat) (w : AH) : Call M_X1_init lv [.ref b] w = Ex M_X1_init lv 0 [some (.ref b), none] [] w := Call_pad (n := 1) rfl
theorem C_X1_copyFrom (lv : Nat) (b : Nat) (a0 : Nat) (w : AH) : Call M_X1_copyFrom lv [.ref b, .ref a0] w = Ex M_X1_copyFrom lv 0 [some (.ref b), some (.ref a0), none] [] w := Call_pad (n := 1) rfl
theorem C_X1_walkerOf (lv : Nat) (b : Nat) (a0 : Int32) (w : AH) : Call M_X1_walkerOf lv [.ref b, .int a0] w = Ex M_X1_walkerOf lv 0 [some (.ref b), some (.int a0)] [] w := Call_pad (n := 0) rfl
theorem C_X1_addWalker (lv : Nat) (b : Nat) (a0 : Int32) (a1 : Int32) (w : AH) : Call M_X1_addWalker lv [.ref b, .int a0, .int a1] w = Ex M_X1_addWalker lv 0 [some (.ref b), some (.int a0), some (.int a1), none] [] w := Call_pad (n := 1) rfl
theorem C_X1_lawOf (lv : Nat) (b : Nat) (a0 : Int32) (w : AH) : Call M_X1_lawOf lv [.ref b, .int a0] w = Ex M_X1_lawOf lv 0 [some (.ref b), some (.int a0)] [] w := Call_pad (n := 0) rfl
theorem C_X1_given (lv : Nat) (b : Nat) (a0 : Int32) (a1 : Int32) (a2 : Int32) (a3 : Int32) (w : AH) : Call M_X1_given lv [.ref b, .int a0, .int a1, .int a2, .int a3] w = Ex M_X1_given lv 0 [some (.ref b), some (.int a0), some (.int a1), some (.int a2), some (.int a3), none] [] w := Call_pad (n := 1) rfl
theorem C_X1_patternOf (lv : Nat) (b : Nat) (a0 : Int32) (w : AH) : Call M_X1_patternOf lv [.ref b, .int a0] w = Ex M_X1_patternOf lv 0 [some (.ref b), some (.int a0)] [] w := Call_pad (n := 0) rfl
theorem C_X1_worthOf (lv : Nat) (b : Nat) (a0 : Int32) (w : AH) : Call M_X1_worthOf lv [.ref b, .int a0] w = Ex M_X1_worthOf lv 0 [some (.ref b), some (.int a0)] [] w := Call_pad (n := 0) rfl
theorem C_X1_worthOfColumn (lv : Nat) (b : Nat) (a0 : Int32) (w : AH) : Call M_X1_worthOfColumn lv [.ref b, .int a0] w = Ex M_X1_worthOfColumn lv 0 [some (.ref b), some (.int a0), none, none] [] w := Call_pad (n := 2) rfl
theorem C_X1_countSlips (lv : Nat) (b : Nat) (w : AH) : Call M_X1_countSlips lv [.ref b] w = Ex M_X1_countSlips lv 0 [some (.ref b), none, none, none] [] w := Call_pad (n := 3) rfl
theorem C_X1_countMends (lv : Nat) (b : Nat) (a0 : Int32) (w : AH) : Call M_X1_countMends lv [.ref b, .int a0] w = Ex M_X1_countMends lv 0 [some (.ref b), some (.int a0), none, none] [] w := Call_pad (n := 2) rfl
theorem C_X1_passDay (lv : Nat) (b : Nat) (w : AH) : Call M_X1_passDay lv [.ref b] w = Ex M_X1_passDay lv 0 [some (.ref b), none, none] [] w := Call_pad (n := 2) rfl
theorem C_X1_passLooseDay (lv : Nat) (b : Nat) (w : AH) : Call M_X1_passLooseDay lv [.ref b] w = Ex M_X1_passLooseDay lv 0 [some (.ref b), none, none] [] w := Call_pad (n := 2) rfl
theorem C_X1_draw (lv : Nat) (b : Nat) (w : AH) : Call M_X1_draw lv [.ref b] w = Ex M_X1_draw lv 0 [some (.ref b)] [] w := Call_pad (n := 0) rfl
theorem C_X2_init (lv : Nat) (b : Nat) (w : AH) : Call M_X2_init lv [.ref b] w = Ex M_X2_init lv 0 [some (.ref b)] [] w := Call_pad (n := 0) rfl
theorem C_X2_tryAll (lv : Nat) (b : Nat) (a0 : Nat) (a1 : Int32) (a2 : Int32) (w : AH) : Call M_X2_tryAll lv [.ref b, .ref a0, .int a1, .int a2] w = Ex M_X2_tryAll lv 0 [some (.ref b), some (.ref a0), some (.int a1), some (.int a2), none] [] w := Call_pad (n := 1) rfl
theorem C_X2_colourOfFlood (lv : Nat) (b : Nat) (a0 : Int32) (w : AH) : Call M_X2_colourOfFlood lv [.ref b, .int a0] w = Ex M_X2_colourOfFlood lv 0 [some (.ref b), some (.int a0)] [] w := Call_pad (n := 0) rfl
theorem C_X2_flood (lv : Nat) (b : Nat) (a0 : Int64) (a1 : Int32) (a2 : Int32) (w : AH) : Call M_X2_flood lv [.ref b, .long a0, .int a1, .int a2] w = Ex M_X2_flood lv 0 [some (.ref b), some (.long a0), none, some (.int a1), some (.int a2), none] [] w := Call_pad (n := 1) rfl
theorem C_X2_keepIfBetter (lv : Nat) (b : Nat) (a0 : Int32) (w : AH) : Call M_X2_keepIfBetter lv [.ref b, .int a0] w = Ex M_X2_keepIfBetter lv 0 [some (.ref b), some (.int a0)] [] w := Call_pad (n := 0) rfl
theorem C_X3_init (lv : Nat) (b : Nat) (w : AH) : Call M_X3_init lv [.ref b] w = Ex M_X3_init lv 0 [some (.ref b)] [] w := Call_pad (n := 0) rfl
theorem C_X3_isThere (lv : Nat) (b : Nat) (w : AH) : Call M_X3_isThere lv [.ref b] w = Ex M_X3_isThere lv 0 [some (.ref b)] [] w := Call_pad (n := 0) rfl
theorem C_X3_learn (lv : Nat) (b : Nat) (a0 : Nat) (w : AH) : Call M_X3_learn lv [.ref b, .ref a0] w = Ex M_X3_learn lv 0 [some (.ref b), some (.ref a0)] [] w := Call_pad (n := 0) rfl
theorem C_X3_workedOut (lv : Nat) (b : Nat) (a0 : Int32) (a1 : Int32) (a2 : Int32) (w : AH) : Call M_X3_workedOut lv [.ref b, .int a0, .int a1, .int a2] w = Ex M_X3_workedOut lv 0 [some (.ref b), some (.int a0), some (.int a1), some (.int a2), none, none, none] [] w := Call_pad (n := 3) rfl
theorem C_X3_valueOf (lv : Nat) (a0 : Int32) (a1 : Int32) (a2 : Int32) (a3 : Int32) (w : AH) : Call M_X3_valueOf lv [.int a0, .int a1, .int a2, .int a3] w = Ex M_X3_valueOf lv 0 [some (.int a0), some (.int a1), some (.int a2), some (.int a3)] [] w := Call_pad (n := 0) rfl
theorem C_X3_joined (lv : Nat) (a0 : Int32) (a1 : Int32) (a2 : Int32) (w : AH) : Call M_X3_joined lv [.int a0, .int a1, .int a2] w = Ex M_X3_joined lv 0 [some (.int a0), some (.int a1), some (.int a2)] [] w := Call_pad (n := 0) rfl
theorem C_X4_init (lv : Nat) (b : Nat) (w : AH) : Call M_X4_init lv [.ref b] w = Ex M_X4_init lv 0 [some (.ref b)] [] w := Call_pad (n := 0) rfl
theorem C_X4_faultOf (lv : Nat) (b : Nat) (a0 : Nat) (a1 : Int32) (w : AH) : Call M_X4_faultOf lv [.ref b, .ref a0, .int a1] w = Ex M_X4_faultOf lv 0 [some (.ref b), some (.ref a0), some (.int a1)] [] w := Call_pad (n := 0) rfl
theorem C_X4_operatorsOf (lv : Nat) (a0 : Int32) (w : AH) : Call M_X4_operatorsOf lv [.int a0] w = Ex M_X4_operatorsOf lv 0 [some (.int a0)] [] w := Call_pad (n := 0) rfl
theorem C_X4_ahead (lv : Nat) (b : Nat) (w : AH) : Call M_X4_ahead lv [.ref b] w = Ex M_X4_ahead lv 0 [some (.ref b)] [] w := Call_pad (n := 0) rfl
theorem C_X4_isAhead (lv : Nat) (b : Nat) (a0 : Nat) (w : AH) : Call M_X4_isAhead lv [.ref b, .ref a0] w = Ex M_X4_isAhead lv 0 [some (.ref b), some (.ref a0)] [] w := Call_pad (n := 0) rfl
theorem C_X4_readLevel (lv : Nat) (b : Nat) (a0 : Int32) (a1 : Int32) (w : AH) : Call M_X4_readLevel lv [.ref b, .int a0, .int a1] w = Ex M_X4_readLevel lv 0 [some (.ref b), some (.int a0), some (.int a1), none, none, none] [] w := Call_pad (n := 3) rfl
theorem C_X4_readFactor (lv : Nat) (b : Nat) (a0 : Int32) (w : AH) : Call M_X4_readFactor lv [.ref b, .int a0] w = Ex M_X4_readFactor lv 0 [some (.ref b), some (.int a0)] [] w := Call_pad (n := 0) rfl
theorem C_X4_close (lv : Nat) (b : Nat) (w : AH) : Call M_X4_close lv [.ref b] w = Ex M_X4_close lv 0 [some (.ref b)] [] w := Call_pad (n := 0) rfl
theorem C_X4_readNumber (lv : Nat) (b : Nat) (w : AH) : Call M_X4_readNumber lv [.ref b] w = Ex M_X4_readNumber lv 0 [some (.ref b), none, none] [] w := Call_pad (n := 2) rfl
theorem C_X5_init (lv : Nat) (b : Nat) (w : AH) : Call M_X5_init lv [.ref b] w = Ex M_X5_init lv 0 [some (.ref b)] [] w := Call_pad (n := 0) rfl
theorem C_X5_fewestSteps (lv : Nat) (b : Nat) (a0 : Int32) (a1 : Int32) (a2 : Int64) (w : AH) : Call M_X5_fewestSteps lv [.ref b, .int a0, .int a1, .long a2] w = Ex M_X5_fewestSteps lv 0 [some (.ref b), some (.int a0), some (.int a1), some (.long a2), none, none] [] w := Call_pad (n := 1) rfl
theorem C_X5_goOn (lv : Nat) (b : Nat) (a0 : Int64) (w : AH) : Call M_X5_goOn lv [.ref b, .long a0] w = Ex M_X5_goOn lv 0 [some (.ref b), some (.long a0), none, none, none, none, none] [] w := Call_pad (n := 4) rfl
theorem C_X6_init (lv : Nat) (b : Nat) (a0 : Int32) (w : AH) : Call M_X6_init lv [.ref b, .int a0] w = Ex M_X6_init lv 0 [some (.ref b), some (.int a0)] [] w := Call_pad (n := 0) rfl
theorem C_X6_has (lv : Nat) (b : Nat) (a0 : Int32) (w : AH) : Call M_X6_has lv [.ref b, .int a0] w = Ex M_X6_has lv 0 [some (.ref b), some (.int a0)] [] w := Call_pad (n := 0) rfl
theorem C_X6_get (lv : Nat) (b : Nat) (a0 : Int32) (w : AH) : Call M_X6_get lv [.ref b, .int a0] w = Ex M_X6_get lv 0 [some (.ref b), some (.int a0)] [] w := Call_pad (n := 0) rfl
theorem C_X6_add (lv : Nat) (b : Nat) (a0 : Int32) (w : AH) : Call M_X6_add lv [.ref b, .int a0] w = Ex M_X6_add lv 0 [some (.ref b), some (.int a0)] [] w := Call_pad (n := 0) rfl
theorem C_X6_clear (lv : Nat) (b : Nat) (w : AH) : Call M_X6_clear lv [.ref b] w = Ex M_X6_clear lv 0 [some (.ref b)] [] w := Call_pad (n := 0) rfl
theorem C_X6_copyFrom (lv : Nat) (b : Nat) (a0 : Nat) (w : AH) : Call M_X6_copyFrom lv [.ref b, .ref a0] w = Ex M_X6_copyFrom lv 0 [some (.ref b), some (.ref a0), none] [] w := Call_pad (n := 1) rfl
theorem C_X7_of (lv : Nat) (a0 : Int32) (w : AH) : Call M_X7_of lv [.int a0] w = Ex M_X7_of lv 0 [some (.int a0)] [] w := Call_pad (n := 0) rfl
theorem C_X7_has (lv : Nat) (a0 : Int64) (a1 : Int32) (w : AH) : Call M_X7_has lv [.long a0, .int a1] w = Ex M_X7_has lv 0 [some (.long a0), none, some (.int a1)] [] w := Call_pad (n := 0) rfl
theorem C_X7_least (lv : Nat) (a0 : Int64) (w : AH) : Call M_X7_least lv [.long a0] w = Ex M_X7_least lv 0 [some (.long a0), none] [] w := Call_pad (n := 0) rfl
theorem C_X7_stepped (lv : Nat) (a0 : Int64) (a1 : Int32) (w : AH) : Call M_X7_stepped lv [.long a0, .int a1] w = Ex M_X7_stepped lv 0 [some (.long a0), none, some (.int a1)] [] w := Call_pad (n := 0) rfl
theorem C_X7_around (lv : Nat) (a0 : Int64) (w : AH) : Call M_X7_around lv [.long a0] w = Ex M_X7_around lv 0 [some (.long a0), none] [] w := Call_pad (n := 0) rfl
theorem C_X7_grown (lv : Nat) (a0 : Int64) (a1 : Int64) (w : AH) : Call M_X7_grown lv [.long a0, .long a1] w = Ex M_X7_grown lv 0 [some (.long a0), none, some (.long a1), none, none, none, none, none, none] [] w := Call_pad (n := 5) rfl
theorem C_X7_beside (lv : Nat) (a0 : Int32) (a1 : Int32) (w : AH) : Call M_X7_beside lv [.int a0, .int a1] w = Ex M_X7_beside lv 0 [some (.int a0), some (.int a1), none, none] [] w := Call_pad (n := 2) rfl
theorem C_X8_init (lv : Nat) (b : Nat) (w : AH) : Call M_X8_init lv [.ref b] w = Ex M_X8_init lv 0 [some (.ref b)] [] w := Call_pad (n := 0) rfl
theorem C_X8_make (lv : Nat) (b : Nat) (a0 : Int32) (a1 : Int32) (w : AH) : Call M_X8_make lv [.ref b, .int a0, .int a1] w = Ex M_X8_make lv 0 [some (.ref b), some (.int a0), some (.int a1), none] [] w := Call_pad (n := 1) rfl
theorem C_X8_isMissing (lv : Nat) (b : Nat) (w : AH) : Call M_X8_isMissing lv [.ref b] w = Ex M_X8_isMissing lv 0 [some (.ref b)] [] w := Call_pad (n := 0) rfl
theorem C_X8_has (lv : Nat) (b : Nat) (a0 : Int32) (w : AH) : Call M_X8_has lv [.ref b, .int a0] w = Ex M_X8_has lv 0 [some (.ref b), some (.int a0)] [] w := Call_pad (n := 0) rfl
theorem C_X8_hasAll (lv : Nat) (b : Nat) (a0 : Int32) (a1 : Int32) (w : AH) : Call M_X8_hasAll lv [.ref b, .int a0, .int a1] w = Ex M_X8_hasAll lv 0 [some (.ref b), some (.int a0), some (.int a1)] [] w := Call_pad (n := 0) rfl
theorem C_X8_get (lv : Nat) (b : Nat) (a0 : Int32) (w : AH) : Call M_X8_get lv [.ref b, .int a0] w = Ex M_X8_get lv 0 [some (.ref b), some (.int a0)] [] w := Call_pad (n := 0) rfl
theorem C_X8_set (lv : Nat) (b : Nat) (a0 : Int32) (a1 : Int32) (w : AH) : Call M_X8_set lv [.ref b, .int a0, .int a1] w = Ex M_X8_set lv 0 [some (.ref b), some (.int a0), some (.int a1)] [] w := Call_pad (n := 0) rfl
theorem C_X8_isCarpet (lv : Nat) (b : Nat) (w : AH) : Call M_X8_isCarpet lv [.ref b] w = Ex M_X8_isCarpet lv 0 [some (.ref b), none] [] w := Call_pad (n := 1) rfl
theorem C_X9_init (lv : Nat) (b : Nat) (w : AH) : Call M_X9_init lv [.ref b] w = Ex M_X9_init lv 0 [some (.ref b)] [] w := Call_pad (n := 0) rfl
theorem C_X9_speak (lv : Nat) (b : Nat) (a0 : Nat) (a1 : Int32) (a2 : Int32) (a3 : Int32) (w : AH) : Call M_X9_speak lv [.ref b, .ref a0, .int a1, .int a2, .int a3] w = Ex M_X9_speak lv 0 [some (.ref b), some (.ref a0), some (.int a1), some (.int a2), some (.int a3)] [] w := Call_pad (n := 0) rfl
theorem C_X9_bodyOf (lv : Nat) (a0 : Int32) (a1 : Int32) (w : AH) : Call M_X9_bodyOf lv [.int a0, .int a1] w = Ex M_X9_bodyOf lv 0 [some (.int a0), some (.int a1), none, none, none, none] [] w := Call_pad (n := 4) rfl
theorem C_X9_say (lv : Nat) (b : Nat) (a0 : Int32) (a1 : Int32) (a2 : Int32) (a3 : Int32) (w : AH) : Call M_X9_say lv [.ref b, .int a0, .int a1, .int a2, .int a3] w = Ex M_X9_say lv 0 [some (.ref b), some (.int a0), some (.int a1), some (.int a2), some (.int a3), none, none] [] w := Call_pad (n := 2) rfl
theorem C_X10_init (lv : Nat) (b : Nat) (w : AH) : Call M_X10_init lv [.ref b] w = Ex M_X10_init lv 0 [some (.ref b)] [] w := Call_pad (n := 0) rfl
theorem C_X10_copyFrom (lv : Nat) (b : Nat) (a0 : Nat) (w : AH) : Call M_X10_copyFrom lv [.ref b, .ref a0] w = Ex M_X10_copyFrom lv 0 [some (.ref b), some (.ref a0)] [] w := Call_pad (n := 0) rfl
theorem C_X10_kindAbove (lv : Nat) (a0 : Int32) (w : AH) : Call M_X10_kindAbove lv [.int a0] w = Ex M_X10_kindAbove lv 0 [some (.int a0)] [] w := Call_pad (n := 0) rfl
theorem C_X10_isOf (lv : Nat) (b : Nat) (a0 : Int32) (w : AH) : Call M_X10_isOf lv [.ref b, .int a0] w = Ex M_X10_isOf lv 0 [some (.ref b), some (.int a0), none, none] [] w := Call_pad (n := 2) rfl
theorem C_X10_wearing (lv : Nat) (b : Nat) (w : AH) : Call M_X10_wearing lv [.ref b] w = Ex M_X10_wearing lv 0 [some (.ref b)] [] w := Call_pad (n := 0) rfl
theorem C_X10_wouldEat (lv : Nat) (b : Nat) (a0 : Nat) (w : AH) : Call M_X10_wouldEat lv [.ref b, .ref a0] w = Ex M_X10_wouldEat lv 0 [some (.ref b), some (.ref a0)] [] w := Call_pad (n := 0) rfl
theorem C_X10_step (lv : Nat) (b : Nat) (a0 : Nat) (a1 : Int32) (w : AH) : Call M_X10_step lv [.ref b, .ref a0, .int a1] w = Ex M_X10_step lv 0 [some (.ref b), some (.ref a0), some (.int a1)] [] w := Call_pad (n := 0) rfl
theorem C_X10_stepAsWalker (lv : Nat) (b : Nat) (w : AH) : Call M_X10_stepAsWalker lv [.ref b] w = Ex M_X10_stepAsWalker lv 0 [some (.ref b), none] [] w := Call_pad (n := 1) rfl
theorem C_X10_stepAsCat (lv : Nat) (b : Nat) (a0 : Nat) (w : AH) : Call M_X10_stepAsCat lv [.ref b, .ref a0] w = Ex M_X10_stepAsCat lv 0 [some (.ref b), some (.ref a0), none, none, none, none] [] w := Call_pad (n := 4) rfl
theorem C_X10_turned (lv : Nat) (b : Nat) (a0 : Int32) (w : AH) : Call M_X10_turned lv [.ref b, .int a0] w = Ex M_X10_turned lv 0 [some (.ref b), some (.int a0)] [] w := Call_pad (n := 0) rfl
theorem C_X10_stepAsMoth (lv : Nat) (b : Nat) (a0 : Nat) (w : AH) : Call M_X10_stepAsMoth lv [.ref b, .ref a0] w = Ex M_X10_stepAsMoth lv 0 [some (.ref b), some (.ref a0), none, none, none, none] [] w := Call_pad (n := 4) rfl
theorem C_X10_go (lv : Nat) (b : Nat) (a0 : Int32) (w : AH) : Call M_X10_go lv [.ref b, .int a0] w = Ex M_X10_go lv 0 [some (.ref b), some (.int a0), none] [] w := Call_pad (n := 1) rfl
theorem C_X11_init (lv : Nat) (b : Nat) (w : AH) : Call M_X11_init lv [.ref b] w = Ex M_X11_init lv 0 [some (.ref b), none] [] w := Call_pad (n := 1) rfl
theorem C_X11_knot (lv : Nat) (b : Nat) (a0 : Int32) (a1 : Int32) (a2 : Int32) (w : AH) : Call M_X11_knot lv [.ref b, .int a0, .int a1, .int a2] w = Ex M_X11_knot lv 0 [some (.ref b), some (.int a0), some (.int a1), some (.int a2), none] [] w := Call_pad (n := 1) rfl
theorem C_X11_ofKnot (lv : Nat) (b : Nat) (a0 : Int32) (a1 : Int32) (w : AH) : Call M_X11_ofKnot lv [.ref b, .int a0, .int a1] w = Ex M_X11_ofKnot lv 0 [some (.ref b), some (.int a0), some (.int a1)] [] w := Call_pad (n := 0) rfl
theorem C_X11_weave (lv : Nat) (b : Nat) (w : AH) : Call M_X11_weave lv [.ref b] w = Ex M_X11_weave lv 0 [some (.ref b), none, none] [] w := Call_pad (n := 2) rfl
theorem C_X11_mend (lv : Nat) (b : Nat) (w : AH) : Call M_X11_mend lv [.ref b] w = Ex M_X11_mend lv 0 [some (.ref b), none, none] [] w := Call_pad (n := 2) rfl
theorem C_X11_walker (lv : Nat) (b : Nat) (a0 : Int32) (a1 : Int32) (w : AH) : Call M_X11_walker lv [.ref b, .int a0, .int a1] w = Ex M_X11_walker lv 0 [some (.ref b), some (.int a0), some (.int a1), none] [] w := Call_pad (n := 1) rfl
theorem C_X11_ofWalker (lv : Nat) (b : Nat) (a0 : Int32) (a1 : Int32) (w : AH) : Call M_X11_ofWalker lv [.ref b, .int a0, .int a1] w = Ex M_X11_ofWalker lv 0 [some (.ref b), some (.int a0), some (.int a1), none] [] w := Call_pad (n := 1) rfl
theorem C_X11_put (lv : Nat) (b : Nat) (a0 : Int32) (a1 : Int32) (a2 : Int32) (w : AH) : Call M_X11_put lv [.ref b, .int a0, .int a1, .int a2] w = Ex M_X11_put lv 0 [some (.ref b), some (.int a0), some (.int a1), some (.int a2), none, none] [] w := Call_pad (n := 2) rfl
theorem C_X11_become (lv : Nat) (b : Nat) (a0 : Int32) (a1 : Int32) (w : AH) : Call M_X11_become lv [.ref b, .int a0, .int a1] w = Ex M_X11_become lv 0 [some (.ref b), some (.int a0), some (.int a1), none, none] [] w := Call_pad (n := 2) rfl
theorem C_X11_as (lv : Nat) (b : Nat) (a0 : Int32) (a1 : Int32) (w : AH) : Call M_X11_as lv [.ref b, .int a0, .int a1] w = Ex M_X11_as lv 0 [some (.ref b), some (.int a0), some (.int a1), none] [] w := Call_pad (n := 1) rfl
theorem C_X11_feed (lv : Nat) (b : Nat) (a0 : Int64) (a1 : Int32) (w : AH) : Call M_X11_feed lv [.ref b, .long a0, .int a1] w = Ex M_X11_feed lv 0 [some (.ref b), some (.long a0), none, some (.int a1), none] [] w := Call_pad (n := 1) rfl
theorem C_X11_text (lv : Nat) (b : Nat) (a0 : Int32) (w : AH) : Call M_X11_text lv [.ref b, .int a0] w = Ex M_X11_text lv 0 [some (.ref b), some (.int a0), none] [] w := Call_pad (n := 1) rfl
theorem C_X11_law (lv : Nat) (b : Nat) (a0 : Int32) (a1 : Int32) (a2 : Int32) (a3 : Int32) (w : AH) : Call M_X11_law lv [.ref b, .int a0, .int a1, .int a2, .int a3] w = Ex M_X11_law lv 0 [some (.ref b), some (.int a0), some (.int a1), some (.int a2), some (.int a3)] [] w := Call_pad (n := 0) rfl
theorem C_X11_days (lv : Nat) (b : Nat) (a0 : Int32) (w : AH) : Call M_X11_days lv [.ref b, .int a0] w = Ex M_X11_days lv 0 [some (.ref b), some (.int a0), none] [] w := Call_pad (n := 1) rfl
theorem C_X11_loose (lv : Nat) (b : Nat) (a0 : Int32) (w : AH) : Call M_X11_loose lv [.ref b, .int a0] w = Ex M_X11_loose lv 0 [some (.ref b), some (.int a0), none] [] w := Call_pad (n := 1) rfl
theorem C_X11_lands (lv : Nat) (b : Nat) (a0 : Int32) (w : AH) : Call M_X11_lands lv [.ref b, .int a0] w = Ex M_X11_lands lv 0 [some (.ref b), some (.int a0), none, none] [] w := Call_pad (n := 2) rfl
theorem C_X11_greatest (lv : Nat) (b : Nat) (a0 : Int32) (w : AH) : Call M_X11_greatest lv [.ref b, .int a0] w = Ex M_X11_greatest lv 0 [some (.ref b), some (.int a0), none, none] [] w := Call_pad (n := 2) rfl
theorem C_X11_nextTo (lv : Nat) (b : Nat) (a0 : Int32) (w : AH) : Call M_X11_nextTo lv [.ref b, .int a0] w = Ex M_X11_nextTo lv 0 [some (.ref b), some (.int a0)] [] w := Call_pad (n := 0) rfl
theorem C_X11_frontier (lv : Nat) (b : Nat) (a0 : Int32) (a1 : Int32) (w : AH) : Call M_X11_frontier lv [.ref b, .int a0, .int a1] w = Ex M_X11_frontier lv 0 [some (.ref b), some (.int a0), some (.int a1)] [] w := Call_pad (n := 0) rfl
theorem C_X11_slips (lv : Nat) (b : Nat) (w : AH) : Call M_X11_slips lv [.ref b] w = Ex M_X11_slips lv 0 [some (.ref b)] [] w := Call_pad (n := 0) rfl
theorem C_X11_mends (lv : Nat) (b : Nat) (a0 : Int32) (w : AH) : Call M_X11_mends lv [.ref b, .int a0] w = Ex M_X11_mends lv 0 [some (.ref b), some (.int a0)] [] w := Call_pad (n := 0) rfl
theorem C_X11_again (lv : Nat) (b : Nat) (a0 : Int32) (w : AH) : Call M_X11_again lv [.ref b, .int a0] w = Ex M_X11_again lv 0 [some (.ref b), some (.int a0)] [] w := Call_pad (n := 0) rfl
theorem C_X11_stays (lv : Nat) (b : Nat) (w : AH) : Call M_X11_stays lv [.ref b] w = Ex M_X11_stays lv 0 [some (.ref b), none, none] [] w := Call_pad (n := 2) rfl
theorem C_X11_road (lv : Nat) (b : Nat) (a0 : Int32) (a1 : Int32) (a2 : Int32) (w : AH) : Call M_X11_road lv [.ref b, .int a0, .int a1, .int a2] w = Ex M_X11_road lv 0 [some (.ref b), some (.int a0), some (.int a1), some (.int a2), none, none, none] [] w := Call_pad (n := 3) rfl
theorem C_X11_fits (lv : Nat) (b : Nat) (a0 : Int32) (a1 : Int32) (a2 : Int32) (w : AH) : Call M_X11_fits lv [.ref b, .int a0, .int a1, .int a2] w = Ex M_X11_fits lv 0 [some (.ref b), some (.int a0), some (.int a1), some (.int a2), none] [] w := Call_pad (n := 1) rfl
theorem C_X11_layings (lv : Nat) (b : Nat) (a0 : Int32) (a1 : Int32) (w : AH) : Call M_X11_layings lv [.ref b, .int a0, .int a1] w = Ex M_X11_layings lv 0 [some (.ref b), some (.int a0), some (.int a1), none, none] [] w := Call_pad (n := 2) rfl
theorem C_X11_cut (lv : Nat) (b : Nat) (a0 : Int32) (w : AH) : Call M_X11_cut lv [.ref b, .int a0] w = Ex M_X11_cut lv 0 [some (.ref b), some (.int a0), none, none, none, none, none, none] [] w := Call_pad (n := 6) rfl
theorem C_X11_dyed (lv : Nat) (b : Nat) (a0 : Int32) (a1 : Int32) (a2 : Int32) (w : AH) : Call M_X11_dyed lv [.ref b, .int a0, .int a1, .int a2] w = Ex M_X11_dyed lv 0 [some (.ref b), some (.int a0), some (.int a1), some (.int a2)] [] w := Call_pad (n := 0) rfl
theorem C_X11_then (lv : Nat) (b : Nat) (a0 : Int32) (a1 : Int32) (a2 : Int32) (w : AH) : Call M_X11_then lv [.ref b, .int a0, .int a1, .int a2] w = Ex M_X11_then lv 0 [some (.ref b), some (.int a0), some (.int a1), some (.int a2), none] [] w := Call_pad (n := 1) rfl
theorem C_X11_seed (lv : Nat) (b : Nat) (a0 : Int32) (w : AH) : Call M_X11_seed lv [.ref b, .int a0] w = Ex M_X11_seed lv 0 [some (.ref b), some (.int a0), none] [] w := Call_pad (n := 1) rfl
theorem C_X11_voice (lv : Nat) (b : Nat) (a0 : Int32) (a1 : Int32) (a2 : Int32) (w : AH) : Call M_X11_voice lv [.ref b, .int a0, .int a1, .int a2] w = Ex M_X11_voice lv 0 [some (.ref b), some (.int a0), some (.int a1), some (.int a2), none] [] w := Call_pad (n := 1) rfl
theorem C_X11_trace (lv : Nat) (b : Nat) (a0 : Int32) (w : AH) : Call M_X11_trace lv [.ref b, .int a0] w = Ex M_X11_trace lv 0 [some (.ref b), some (.int a0)] [] w := Call_pad (n := 0) rfl
theorem C_X11_sheet (lv : Nat) (b : Nat) (a0 : Int32) (a1 : Int32) (a2 : Int32) (w : AH) : Call M_X11_sheet lv [.ref b, .int a0, .int a1, .int a2] w = Ex M_X11_sheet lv 0 [some (.ref b), some (.int a0), some (.int a1), some (.int a2), none] [] w := Call_pad (n := 1) rfl
theorem C_X11_write (lv : Nat) (b : Nat) (a0 : Int32) (a1 : Int32) (a2 : Int32) (w : AH) : Call M_X11_write lv [.ref b, .int a0, .int a1, .int a2] w = Ex M_X11_write lv 0 [some (.ref b), some (.int a0), some (.int a1), some (.int a2), none] [] w := Call_pad (n := 1) rfl
theorem C_X11_move (lv : Nat) (b : Nat) (a0 : Int32) (a1 : Int32) (a2 : Int32) (a3 : Int32) (a4 : Int32) (w : AH) : Call M_X11_move lv [.ref b, .int a0, .int a1, .int a2, .int a3, .int a4] w = Ex M_X11_move lv 0 [some (.ref b), some (.int a0), some (.int a1), some (.int a2), some (.int a3), some (.int a4), none, none] [] w := Call_pad (n := 2) rfl
theorem C_X11_colours (lv : Nat) (b : Nat) (a0 : Int32) (w : AH) : Call M_X11_colours lv [.ref b, .int a0] w = Ex M_X11_colours lv 0 [some (.ref b), some (.int a0), none, none] [] w := Call_pad (n := 2) rfl
theorem C_X11_judge (lv : Nat) (b : Nat) (a0 : Int32) (w : AH) : Call M_X11_judge lv [.ref b, .int a0] w = Ex M_X11_judge lv 0 [some (.ref b), some (.int a0), none, none] [] w := Call_pad (n := 2) rfl
theorem C_X11_image (lv : Nat) (b : Nat) (w : AH) : Call M_X11_image lv [.ref b] w = Ex M_X11_image lv 0 [some (.ref b)] [] w := Call_pad (n := 0) rfl
theorem C_X11_restore (lv : Nat) (b : Nat) (w : AH) : Call M_X11_restore lv [.ref b] w = Ex M_X11_restore lv 0 [some (.ref b)] [] w := Call_pad (n := 0) rfl
theorem C_X11_tell (lv : Nat) (b : Nat) (a0 : Int32) (w : AH) : Call M_X11_tell lv [.ref b, .int a0] w = Ex M_X11_tell lv 0 [some (.ref b), some (.int a0)] [] w := Call_pad (n := 0) rfl
theorem C_X11_check (lv : Nat) (b : Nat) (w : AH) : Call M_X11_check lv [.ref b] w = Ex M_X11_check lv 0 [some (.ref b), none] [] w := Call_pad (n := 1) rfl
theorem C_X11_count (lv : Nat) (b : Nat) (a0 : Int32) (w : AH) : Call M_X11_count lv [.ref b, .int a0] w = Ex M_X11_count lv 0 [some (.ref b), some (.int a0)] [] w := Call_pad (n := 0) rfl
theorem C_X11_told (lv : Nat) (b : Nat) (a0 : Int32) (w : AH) : Call M_X11_told lv [.ref b, .int a0] w = Ex M_X11_told lv 0 [some (.ref b), some (.int a0)] [] w := Call_pad (n := 0) rfl
theorem C_X11_refuse (lv : Nat) (b : Nat) (a0 : Int32) (w : AH) : Call M_X11_refuse lv [.ref b, .int a0] w = Ex M_X11_refuse lv 0 [some (.ref b), some (.int a0), none] [] w := Call_pad (n := 1) rfl
theorem C_X11_sheetOf (lv : Nat) (b : Nat) (a0 : Int32) (w : AH) : Call M_X11_sheetOf lv [.ref b, .int a0] w = Ex M_X11_sheetOf lv 0 [some (.ref b), some (.int a0)] [] w := Call_pad (n := 0) rfl
theorem C_X11_isWithin (lv : Nat) (a0 : Int32) (a1 : Int32) (a2 : Int32) (w : AH) : Call M_X11_isWithin lv [.int a0, .int a1, .int a2] w = Ex M_X11_isWithin lv 0 [some (.int a0), some (.int a1), some (.int a2)] [] w := Call_pad (n := 0) rfl
theorem C_X11_isKnot (lv : Nat) (a0 : Int32) (w : AH) : Call M_X11_isKnot lv [.int a0] w = Ex M_X11_isKnot lv 0 [some (.int a0)] [] w := Call_pad (n := 0) rfl
theorem C_X11_isColour (lv : Nat) (a0 : Int32) (w : AH) : Call M_X11_isColour lv [.int a0] w = Ex M_X11_isColour lv 0 [some (.int a0)] [] w := Call_pad (n := 0) rfl
theorem C_X11_isKindAndM (lv : Nat) (a0 : Int32) (w : AH) : Call M_X11_isKindAndM lv [.int a0] w = Ex M_X11_isKindAndM lv 0 [some (.int a0)] [] w := Call_pad (n := 0) rfl
theorem C_X11_isUse (lv : Nat) (a0 : Int32) (w : AH) : Call M_X11_isUse lv [.int a0] w = Ex M_X11_isUse lv 0 [some (.int a0)] [] w := Call_pad (n := 0) rfl
theorem C_X12_init (lv : Nat) (b : Nat) (w : AH) : Call M_X12_init lv [.ref b] w = Ex M_X12_init lv 0 [some (.ref b), none] [] w := Call_pad (n := 1) rfl
theorem C_X12_finds (lv : Nat) (b : Nat) (a0 : Int32) (w : AH) : Call M_X12_finds lv [.ref b, .int a0] w = Ex M_X12_finds lv 0 [some (.ref b), some (.int a0)] [] w := Call_pad (n := 0) rfl
theorem C_X12_in (lv : Nat) (a0 : Int64) (a1 : Int64) (a2 : Int64) (w : AH) : Call M_X12_in lv [.long a0, .long a1, .long a2] w = Ex M_X12_in lv 0 [some (.long a0), none, some (.long a1), none, some (.long a2), none] [] w := Call_pad (n := 0) rfl
theorem C_X12_held (lv : Nat) (a0 : Int32) (a1 : Int32) (a2 : Int32) (w : AH) : Call M_X12_held lv [.int a0, .int a1, .int a2] w = Ex M_X12_held lv 0 [some (.int a0), some (.int a1), some (.int a2)] [] w := Call_pad (n := 0) rfl
theorem C_X12_isKnot (lv : Nat) (a0 : Int32) (w : AH) : Call M_X12_isKnot lv [.int a0] w = Ex M_X12_isKnot lv 0 [some (.int a0)] [] w := Call_pad (n := 0) rfl
theorem C_X12_isWalker (lv : Nat) (b : Nat) (a0 : Int32) (w : AH) : Call M_X12_isWalker lv [.ref b, .int a0] w = Ex M_X12_isWalker lv 0 [some (.ref b), some (.int a0)] [] w := Call_pad (n := 0) rfl
theorem C_X12_of (lv : Nat) (b : Nat) (a0 : Int32) (a1 : Int32) (w : AH) : Call M_X12_of lv [.ref b, .int a0, .int a1] w = Ex M_X12_of lv 0 [some (.ref b), some (.int a0), some (.int a1)] [] w := Call_pad (n := 0) rfl
theorem C_X12_sets (lv : Nat) (b : Nat) (a0 : Int32) (a1 : Int32) (a2 : Int32) (w : AH) : Call M_X12_sets lv [.ref b, .int a0, .int a1, .int a2] w = Ex M_X12_sets lv 0 [some (.ref b), some (.int a0), some (.int a1), some (.int a2)] [] w := Call_pad (n := 0) rfl
theorem C_X12_keepAside (lv : Nat) (b : Nat) (w : AH) : Call M_X12_keepAside lv [.ref b] w = Ex M_X12_keepAside lv 0 [some (.ref b), none] [] w := Call_pad (n := 1) rfl
theorem C_X12_putBack (lv : Nat) (b : Nat) (w : AH) : Call M_X12_putBack lv [.ref b] w = Ex M_X12_putBack lv 0 [some (.ref b), none] [] w := Call_pad (n := 1) rfl
theorem C_X12_here (lv : Nat) (b : Nat) (w : AH) : Call M_X12_here lv [.ref b] w = Ex M_X12_here lv 0 [some (.ref b)] [] w := Call_pad (n := 0) rfl
theorem C_X12_wrong (lv : Nat) (b : Nat) (w : AH) : Call M_X12_wrong lv [.ref b] w = Ex M_X12_wrong lv 0 [some (.ref b)] [] w := Call_pad (n := 0) rfl
theorem C_X12_takes (lv : Nat) (b : Nat) (a0 : Int32) (w : AH) : Call M_X12_takes lv [.ref b, .int a0] w = Ex M_X12_takes lv 0 [some (.ref b), some (.int a0)] [] w := Call_pad (n := 0) rfl
theorem C_X12_nameOf (lv : Nat) (b : Nat) (a0 : Int32) (w : AH) : Call M_X12_nameOf lv [.ref b, .int a0] w = Ex M_X12_nameOf lv 0 [some (.ref b), some (.int a0)] [] w := Call_pad (n := 0) rfl
theorem C_X12_either (lv : Nat) (b : Nat) (w : AH) : Call M_X12_either lv [.ref b] w = Ex M_X12_either lv 0 [some (.ref b), none, none] [] w := Call_pad (n := 2) rfl
theorem C_X12_both (lv : Nat) (b : Nat) (w : AH) : Call M_X12_both lv [.ref b] w = Ex M_X12_both lv 0 [some (.ref b), none, none] [] w := Call_pad (n := 2) rfl
theorem C_X12_compared (lv : Nat) (b : Nat) (w : AH) : Call M_X12_compared lv [.ref b] w = Ex M_X12_compared lv 0 [some (.ref b), none, none, none] [] w := Call_pad (n := 3) rfl
theorem C_X12_sum (lv : Nat) (b : Nat) (w : AH) : Call M_X12_sum lv [.ref b] w = Ex M_X12_sum lv 0 [some (.ref b), none, none, none] [] w := Call_pad (n := 3) rfl
theorem C_X12_product (lv : Nat) (b : Nat) (w : AH) : Call M_X12_product lv [.ref b] w = Ex M_X12_product lv 0 [some (.ref b), none, none, none] [] w := Call_pad (n := 3) rfl
theorem C_X12_unit (lv : Nat) (b : Nat) (w : AH) : Call M_X12_unit lv [.ref b] w = Ex M_X12_unit lv 0 [some (.ref b), none, none, none, none] [] w := Call_pad (n := 4) rfl
theorem C_X12_worked (lv : Nat) (b : Nat) (a0 : Int32) (a1 : Int32) (a2 : Int32) (w : AH) : Call M_X12_worked lv [.ref b, .int a0, .int a1, .int a2] w = Ex M_X12_worked lv 0 [some (.ref b), some (.int a0), some (.int a1), some (.int a2), none] [] w := Call_pad (n := 1) rfl
theorem C_X12_feed (lv : Nat) (b : Nat) (a0 : Int64) (a1 : Int32) (w : AH) : Call M_X12_feed lv [.ref b, .long a0, .int a1] w = Ex M_X12_feed lv 0 [some (.ref b), some (.long a0), none, some (.int a1), none] [] w := Call_pad (n := 1) rfl
theorem C_X12_text (lv : Nat) (b : Nat) (a0 : Int32) (w : AH) : Call M_X12_text lv [.ref b, .int a0] w = Ex M_X12_text lv 0 [some (.ref b), some (.int a0), none, none, none] [] w := Call_pad (n := 3) rfl
theorem C_X12_textGives (lv : Nat) (b : Nat) (a0 : Int32) (a1 : Int32) (a2 : Int32) (a3 : Int32) (w : AH) : Call M_X12_textGives lv [.ref b, .int a0, .int a1, .int a2, .int a3] w = Ex M_X12_textGives lv 0 [some (.ref b), some (.int a0), some (.int a1), some (.int a2), some (.int a3), none, none] [] w := Call_pad (n := 2) rfl
theorem C_X12_law (lv : Nat) (b : Nat) (a0 : Int32) (a1 : Int32) (a2 : Int32) (a3 : Int32) (w : AH) : Call M_X12_law lv [.ref b, .int a0, .int a1, .int a2, .int a3] w = Ex M_X12_law lv 0 [some (.ref b), some (.int a0), some (.int a1), some (.int a2), some (.int a3)] [] w := Call_pad (n := 0) rfl
theorem C_X12_patternOf (lv : Nat) (b : Nat) (a0 : Int32) (w : AH) : Call M_X12_patternOf lv [.ref b, .int a0] w = Ex M_X12_patternOf lv 0 [some (.ref b), some (.int a0)] [] w := Call_pad (n := 0) rfl
theorem C_X12_worthOf (lv : Nat) (b : Nat) (a0 : Int32) (w : AH) : Call M_X12_worthOf lv [.ref b, .int a0] w = Ex M_X12_worthOf lv 0 [some (.ref b), some (.int a0)] [] w := Call_pad (n := 0) rfl
theorem C_X12_beside (lv : Nat) (a0 : Int32) (a1 : Int32) (w : AH) : Call M_X12_beside lv [.int a0, .int a1] w = Ex M_X12_beside lv 0 [some (.int a0), some (.int a1), none, none] [] w := Call_pad (n := 2) rfl
theorem C_X12_knot (lv : Nat) (b : Nat) (a0 : Int32) (a1 : Int32) (a2 : Int32) (w : AH) : Call M_X12_knot lv [.ref b, .int a0, .int a1, .int a2] w = Ex M_X12_knot lv 0 [some (.ref b), some (.int a0), some (.int a1), some (.int a2), none, none] [] w := Call_pad (n := 2) rfl
theorem C_X12_spreads (lv : Nat) (b : Nat) (a0 : Int32) (w : AH) : Call M_X12_spreads lv [.ref b, .int a0] w = Ex M_X12_spreads lv 0 [some (.ref b), some (.int a0), none, none, none] [] w := Call_pad (n := 3) rfl
theorem C_X12_leastSpread (lv : Nat) (b : Nat) (w : AH) : Call M_X12_leastSpread lv [.ref b] w = Ex M_X12_leastSpread lv 0 [some (.ref b), none] [] w := Call_pad (n := 1) rfl
theorem C_X12_ofKnot (lv : Nat) (b : Nat) (a0 : Int32) (a1 : Int32) (w : AH) : Call M_X12_ofKnot lv [.ref b, .int a0, .int a1] w = Ex M_X12_ofKnot lv 0 [some (.ref b), some (.int a0), some (.int a1)] [] w := Call_pad (n := 0) rfl
theorem C_X12_slips (lv : Nat) (b : Nat) (w : AH) : Call M_X12_slips lv [.ref b] w = Ex M_X12_slips lv 0 [some (.ref b), none, none] [] w := Call_pad (n := 2) rfl
theorem C_X12_weave (lv : Nat) (b : Nat) (w : AH) : Call M_X12_weave lv [.ref b] w = Ex M_X12_weave lv 0 [some (.ref b), none, none] [] w := Call_pad (n := 2) rfl
theorem C_X12_holes (lv : Nat) (b : Nat) (w : AH) : Call M_X12_holes lv [.ref b] w = Ex M_X12_holes lv 0 [some (.ref b), none, none] [] w := Call_pad (n := 2) rfl
theorem C_X12_mend (lv : Nat) (b : Nat) (w : AH) : Call M_X12_mend lv [.ref b] w = Ex M_X12_mend lv 0 [some (.ref b), none, none] [] w := Call_pad (n := 2) rfl
theorem C_X12_mends (lv : Nat) (b : Nat) (a0 : Int32) (w : AH) : Call M_X12_mends lv [.ref b, .int a0] w = Ex M_X12_mends lv 0 [some (.ref b), some (.int a0), none, none] [] w := Call_pad (n := 2) rfl
theorem C_X12_wearsOf (lv : Nat) (b : Nat) (a0 : Int32) (w : AH) : Call M_X12_wearsOf lv [.ref b, .int a0] w = Ex M_X12_wearsOf lv 0 [some (.ref b), some (.int a0)] [] w := Call_pad (n := 0) rfl
theorem C_X12_eats (lv : Nat) (b : Nat) (a0 : Int32) (w : AH) : Call M_X12_eats lv [.ref b, .int a0] w = Ex M_X12_eats lv 0 [some (.ref b), some (.int a0), none] [] w := Call_pad (n := 1) rfl
theorem C_X12_walker (lv : Nat) (b : Nat) (a0 : Int32) (a1 : Int32) (w : AH) : Call M_X12_walker lv [.ref b, .int a0, .int a1] w = Ex M_X12_walker lv 0 [some (.ref b), some (.int a0), some (.int a1), none] [] w := Call_pad (n := 1) rfl
theorem C_X12_ofWalker (lv : Nat) (b : Nat) (a0 : Int32) (a1 : Int32) (w : AH) : Call M_X12_ofWalker lv [.ref b, .int a0, .int a1] w = Ex M_X12_ofWalker lv 0 [some (.ref b), some (.int a0), some (.int a1)] [] w := Call_pad (n := 0) rfl
theorem C_X12_put (lv : Nat) (b : Nat) (a0 : Int32) (a1 : Int32) (a2 : Int32) (w : AH) : Call M_X12_put lv [.ref b, .int a0, .int a1, .int a2] w = Ex M_X12_put lv 0 [some (.ref b), some (.int a0), some (.int a1), some (.int a2), none] [] w := Call_pad (n := 1) rfl
theorem C_X12_become (lv : Nat) (b : Nat) (a0 : Int32) (a1 : Int32) (w : AH) : Call M_X12_become lv [.ref b, .int a0, .int a1] w = Ex M_X12_become lv 0 [some (.ref b), some (.int a0), some (.int a1), none] [] w := Call_pad (n := 1) rfl
theorem C_X12_above (lv : Nat) (a0 : Int32) (w : AH) : Call M_X12_above lv [.int a0] w = Ex M_X12_above lv 0 [some (.int a0)] [] w := Call_pad (n := 0) rfl
theorem C_X12_as (lv : Nat) (b : Nat) (a0 : Int32) (a1 : Int32) (w : AH) : Call M_X12_as lv [.ref b, .int a0, .int a1] w = Ex M_X12_as lv 0 [some (.ref b), some (.int a0), some (.int a1), none] [] w := Call_pad (n := 1) rfl
theorem C_X12_goes (lv : Nat) (b : Nat) (a0 : Int32) (a1 : Int32) (w : AH) : Call M_X12_goes lv [.ref b, .int a0, .int a1] w = Ex M_X12_goes lv 0 [some (.ref b), some (.int a0), some (.int a1)] [] w := Call_pad (n := 0) rfl
theorem C_X12_plainStep (lv : Nat) (b : Nat) (a0 : Int32) (w : AH) : Call M_X12_plainStep lv [.ref b, .int a0] w = Ex M_X12_plainStep lv 0 [some (.ref b), some (.int a0), none] [] w := Call_pad (n := 1) rfl
theorem C_X12_catStep (lv : Nat) (b : Nat) (a0 : Int32) (w : AH) : Call M_X12_catStep lv [.ref b, .int a0] w = Ex M_X12_catStep lv 0 [some (.ref b), some (.int a0), none, none, none, none, none] [] w := Call_pad (n := 5) rfl
theorem C_X12_mothStep (lv : Nat) (b : Nat) (a0 : Int32) (w : AH) : Call M_X12_mothStep lv [.ref b, .int a0] w = Ex M_X12_mothStep lv 0 [some (.ref b), some (.int a0), none, none, none, none, none] [] w := Call_pad (n := 5) rfl
theorem C_X12_steps (lv : Nat) (b : Nat) (a0 : Int32) (w : AH) : Call M_X12_steps lv [.ref b, .int a0] w = Ex M_X12_steps lv 0 [some (.ref b), some (.int a0)] [] w := Call_pad (n := 0) rfl
theorem C_X12_dayGoes (lv : Nat) (b : Nat) (w : AH) : Call M_X12_dayGoes lv [.ref b] w = Ex M_X12_dayGoes lv 0 [some (.ref b), none, none, none] [] w := Call_pad (n := 3) rfl
theorem C_X12_days (lv : Nat) (b : Nat) (a0 : Int32) (w : AH) : Call M_X12_days lv [.ref b, .int a0] w = Ex M_X12_days lv 0 [some (.ref b), some (.int a0), none] [] w := Call_pad (n := 1) rfl
theorem C_X12_drawn (lv : Nat) (b : Nat) (w : AH) : Call M_X12_drawn lv [.ref b] w = Ex M_X12_drawn lv 0 [some (.ref b)] [] w := Call_pad (n := 0) rfl
theorem C_X12_loose (lv : Nat) (b : Nat) (a0 : Int32) (w : AH) : Call M_X12_loose lv [.ref b, .int a0] w = Ex M_X12_loose lv 0 [some (.ref b), some (.int a0), none, none] [] w := Call_pad (n := 2) rfl
theorem C_X12_then (lv : Nat) (b : Nat) (a0 : Int32) (a1 : Int32) (a2 : Int32) (w : AH) : Call M_X12_then lv [.ref b, .int a0, .int a1, .int a2] w = Ex M_X12_then lv 0 [some (.ref b), some (.int a0), some (.int a1), some (.int a2), none] [] w := Call_pad (n := 1) rfl
theorem C_X12_findLands (lv : Nat) (b : Nat) (a0 : Int32) (w : AH) : Call M_X12_findLands lv [.ref b, .int a0] w = Ex M_X12_findLands lv 0 [some (.ref b), some (.int a0), none, none] [] w := Call_pad (n := 2) rfl
theorem C_X12_lands (lv : Nat) (b : Nat) (a0 : Int32) (w : AH) : Call M_X12_lands lv [.ref b, .int a0] w = Ex M_X12_lands lv 0 [some (.ref b), some (.int a0)] [] w := Call_pad (n := 0) rfl
theorem C_X12_greatest (lv : Nat) (b : Nat) (a0 : Int32) (w : AH) : Call M_X12_greatest lv [.ref b, .int a0] w = Ex M_X12_greatest lv 0 [some (.ref b), some (.int a0)] [] w := Call_pad (n := 0) rfl
theorem C_X12_nextTo (lv : Nat) (b : Nat) (a0 : Int32) (w : AH) : Call M_X12_nextTo lv [.ref b, .int a0] w = Ex M_X12_nextTo lv 0 [some (.ref b), some (.int a0), none, none, none, none] [] w := Call_pad (n := 4) rfl
theorem C_X12_frontier (lv : Nat) (b : Nat) (a0 : Int32) (a1 : Int32) (w : AH) : Call M_X12_frontier lv [.ref b, .int a0, .int a1] w = Ex M_X12_frontier lv 0 [some (.ref b), some (.int a0), some (.int a1), none, none, none, none] [] w := Call_pad (n := 4) rfl
theorem C_X12_agree (lv : Nat) (a0 : Int32) (a1 : Int32) (w : AH) : Call M_X12_agree lv [.int a0, .int a1] w = Ex M_X12_agree lv 0 [some (.int a0), some (.int a1)] [] w := Call_pad (n := 0) rfl
theorem C_X12_comesBy (lv : Nat) (b : Nat) (a0 : Int32) (a1 : Int32) (w : AH) : Call M_X12_comesBy lv [.ref b, .int a0, .int a1] w = Ex M_X12_comesBy lv 0 [some (.ref b), some (.int a0), some (.int a1), none, none, none, none] [] w := Call_pad (n := 4) rfl
theorem C_X12_again (lv : Nat) (b : Nat) (a0 : Int32) (w : AH) : Call M_X12_again lv [.ref b, .int a0] w = Ex M_X12_again lv 0 [some (.ref b), some (.int a0), none] [] w := Call_pad (n := 1) rfl
theorem C_X12_turned (lv : Nat) (a0 : Int32) (a1 : Int32) (w : AH) : Call M_X12_turned lv [.int a0, .int a1] w = Ex M_X12_turned lv 0 [some (.int a0), some (.int a1), none, none, none, none] [] w := Call_pad (n := 4) rfl
theorem C_X12_stays (lv : Nat) (b : Nat) (w : AH) : Call M_X12_stays lv [.ref b] w = Ex M_X12_stays lv 0 [some (.ref b), none, none, none, none] [] w := Call_pad (n := 4) rfl
theorem C_X12_isOf (lv : Nat) (b : Nat) (a0 : Int32) (a1 : Int32) (w : AH) : Call M_X12_isOf lv [.ref b, .int a0, .int a1] w = Ex M_X12_isOf lv 0 [some (.ref b), some (.int a0), some (.int a1)] [] w := Call_pad (n := 0) rfl
theorem C_X12_road (lv : Nat) (b : Nat) (a0 : Int32) (a1 : Int32) (a2 : Int32) (w : AH) : Call M_X12_road lv [.ref b, .int a0, .int a1, .int a2] w = Ex M_X12_road lv 0 [some (.ref b), some (.int a0), some (.int a1), some (.int a2), none, none, none, none, none, none, none] [] w := Call_pad (n := 7) rfl
theorem C_X12_isCarpet (lv : Nat) (b : Nat) (a0 : Int32) (w : AH) : Call M_X12_isCarpet lv [.ref b, .int a0] w = Ex M_X12_isCarpet lv 0 [some (.ref b), some (.int a0), none, none] [] w := Call_pad (n := 2) rfl
theorem C_X12_isFit (lv : Nat) (b : Nat) (a0 : Int32) (a1 : Int32) (a2 : Int32) (w : AH) : Call M_X12_isFit lv [.ref b, .int a0, .int a1, .int a2] w = Ex M_X12_isFit lv 0 [some (.ref b), some (.int a0), some (.int a1), some (.int a2), none, none, none, none, none] [] w := Call_pad (n := 5) rfl
theorem C_X12_fits (lv : Nat) (b : Nat) (a0 : Int32) (a1 : Int32) (a2 : Int32) (w : AH) : Call M_X12_fits lv [.ref b, .int a0, .int a1, .int a2] w = Ex M_X12_fits lv 0 [some (.ref b), some (.int a0), some (.int a1), some (.int a2)] [] w := Call_pad (n := 0) rfl
theorem C_X12_layings (lv : Nat) (b : Nat) (a0 : Int32) (a1 : Int32) (w : AH) : Call M_X12_layings lv [.ref b, .int a0, .int a1] w = Ex M_X12_layings lv 0 [some (.ref b), some (.int a0), some (.int a1), none, none, none, none, none, none, none] [] w := Call_pad (n := 7) rfl
theorem C_X12_cut (lv : Nat) (b : Nat) (a0 : Int32) (w : AH) : Call M_X12_cut lv [.ref b, .int a0] w = Ex M_X12_cut lv 0 [some (.ref b), some (.int a0), none, none, none, none, none] [] w := Call_pad (n := 5) rfl
theorem C_X12_floods (lv : Nat) (b : Nat) (a0 : Int32) (a1 : Int32) (w : AH) : Call M_X12_floods lv [.ref b, .int a0, .int a1] w = Ex M_X12_floods lv 0 [some (.ref b), some (.int a0), some (.int a1), none] [] w := Call_pad (n := 1) rfl
theorem C_X12_dyed (lv : Nat) (b : Nat) (a0 : Int32) (a1 : Int32) (a2 : Int32) (w : AH) : Call M_X12_dyed lv [.ref b, .int a0, .int a1, .int a2] w = Ex M_X12_dyed lv 0 [some (.ref b), some (.int a0), some (.int a1), some (.int a2), none, none, none, none, none, none] [] w := Call_pad (n := 6) rfl
theorem C_X12_seed (lv : Nat) (b : Nat) (a0 : Int32) (w : AH) : Call M_X12_seed lv [.ref b, .int a0] w = Ex M_X12_seed lv 0 [some (.ref b), some (.int a0), none] [] w := Call_pad (n := 1) rfl
theorem C_X12_ran (lv : Nat) (b : Nat) (a0 : Int32) (w : AH) : Call M_X12_ran lv [.ref b, .int a0] w = Ex M_X12_ran lv 0 [some (.ref b), some (.int a0)] [] w := Call_pad (n := 0) rfl
theorem C_X12_own (lv : Nat) (b : Nat) (w : AH) : Call M_X12_own lv [.ref b] w = Ex M_X12_own lv 0 [some (.ref b)] [] w := Call_pad (n := 0) rfl
theorem C_X12_walksBy (lv : Nat) (b : Nat) (a0 : Int32) (a1 : Int32) (w : AH) : Call M_X12_walksBy lv [.ref b, .int a0, .int a1] w = Ex M_X12_walksBy lv 0 [some (.ref b), some (.int a0), some (.int a1)] [] w := Call_pad (n := 0) rfl
theorem C_X12_wearsBy (lv : Nat) (b : Nat) (a0 : Int32) (a1 : Int32) (w : AH) : Call M_X12_wearsBy lv [.ref b, .int a0, .int a1] w = Ex M_X12_wearsBy lv 0 [some (.ref b), some (.int a0), some (.int a1), none] [] w := Call_pad (n := 1) rfl
theorem C_X12_eatsBy (lv : Nat) (b : Nat) (a0 : Int32) (a1 : Int32) (w : AH) : Call M_X12_eatsBy lv [.ref b, .int a0, .int a1] w = Ex M_X12_eatsBy lv 0 [some (.ref b), some (.int a0), some (.int a1)] [] w := Call_pad (n := 0) rfl
theorem C_X12_tellsBy (lv : Nat) (b : Nat) (a0 : Int32) (a1 : Int32) (w : AH) : Call M_X12_tellsBy lv [.ref b, .int a0, .int a1] w = Ex M_X12_tellsBy lv 0 [some (.ref b), some (.int a0), some (.int a1), none] [] w := Call_pad (n := 1) rfl
theorem C_X12_voice (lv : Nat) (b : Nat) (a0 : Int32) (a1 : Int32) (a2 : Int32) (w : AH) : Call M_X12_voice lv [.ref b, .int a0, .int a1, .int a2] w = Ex M_X12_voice lv 0 [some (.ref b), some (.int a0), some (.int a1), some (.int a2), none] [] w := Call_pad (n := 1) rfl
theorem C_X12_trace (lv : Nat) (b : Nat) (a0 : Int32) (w : AH) : Call M_X12_trace lv [.ref b, .int a0] w = Ex M_X12_trace lv 0 [some (.ref b), some (.int a0)] [] w := Call_pad (n := 0) rfl
theorem C_X12_isSheet (lv : Nat) (a0 : Int32) (w : AH) : Call M_X12_isSheet lv [.int a0] w = Ex M_X12_isSheet lv 0 [some (.int a0)] [] w := Call_pad (n := 0) rfl
theorem C_X12_sheet (lv : Nat) (b : Nat) (a0 : Int32) (a1 : Int32) (a2 : Int32) (w : AH) : Call M_X12_sheet lv [.ref b, .int a0, .int a1, .int a2] w = Ex M_X12_sheet lv 0 [some (.ref b), some (.int a0), some (.int a1), some (.int a2), none] [] w := Call_pad (n := 1) rfl
theorem C_X12_write (lv : Nat) (b : Nat) (a0 : Int32) (a1 : Int32) (a2 : Int32) (w : AH) : Call M_X12_write lv [.ref b, .int a0, .int a1, .int a2] w = Ex M_X12_write lv 0 [some (.ref b), some (.int a0), some (.int a1), some (.int a2)] [] w := Call_pad (n := 0) rfl
theorem C_X12_move (lv : Nat) (b : Nat) (a0 : Int32) (a1 : Int32) (a2 : Int32) (a3 : Int32) (a4 : Int32) (w : AH) : Call M_X12_move lv [.ref b, .int a0, .int a1, .int a2, .int a3, .int a4] w = Ex M_X12_move lv 0 [some (.ref b), some (.int a0), some (.int a1), some (.int a2), some (.int a3), some (.int a4), none] [] w := Call_pad (n := 1) rfl
theorem C_X12_colours (lv : Nat) (b : Nat) (a0 : Int32) (w : AH) : Call M_X12_colours lv [.ref b, .int a0] w = Ex M_X12_colours lv 0 [some (.ref b), some (.int a0), none] [] w := Call_pad (n := 1) rfl
theorem C_X12_judge (lv : Nat) (b : Nat) (a0 : Int32) (w : AH) : Call M_X12_judge lv [.ref b, .int a0] w = Ex M_X12_judge lv 0 [some (.ref b), some (.int a0), none] [] w := Call_pad (n := 1) rfl
theorem C_X12_image (lv : Nat) (b : Nat) (w : AH) : Call M_X12_image lv [.ref b] w = Ex M_X12_image lv 0 [some (.ref b), none] [] w := Call_pad (n := 1) rfl
theorem C_X12_restore (lv : Nat) (b : Nat) (w : AH) : Call M_X12_restore lv [.ref b] w = Ex M_X12_restore lv 0 [some (.ref b), none] [] w := Call_pad (n := 1) rfl
theorem C_X12_tell (lv : Nat) (b : Nat) (a0 : Int32) (w : AH) : Call M_X12_tell lv [.ref b, .int a0] w = Ex M_X12_tell lv 0 [some (.ref b), some (.int a0)] [] w := Call_pad (n := 0) rfl
theorem C_X12_check (lv : Nat) (b : Nat) (w : AH) : Call M_X12_check lv [.ref b] w = Ex M_X12_check lv 0 [some (.ref b), none, none, none] [] w := Call_pad (n := 3) rfl
theorem C_X12_count (lv : Nat) (b : Nat) (a0 : Int32) (w : AH) : Call M_X12_count lv [.ref b, .int a0] w = Ex M_X12_count lv 0 [some (.ref b), some (.int a0), none, none] [] w := Call_pad (n := 2) rfl
theorem C_X12_told (lv : Nat) (b : Nat) (a0 : Int32) (w : AH) : Call M_X12_told lv [.ref b, .int a0] w = Ex M_X12_told lv 0 [some (.ref b), some (.int a0)] [] w := Call_pad (n := 0) rfl
theorem C_J13_bitCount_95d88 (lv : Nat) (a0 : Int64) (w : AH) : Call M_J13_bitCount_95d88 lv [.long a0] w = Ex M_J13_bitCount_95d88 lv 0 [some (.long a0), none] [] w := Call_pad (n := 0) rfl
theorem C_J9_floorMod_7cf53 (lv : Nat) (a0 : Int32) (a1 : Int32) (w : AH) : Call M_J9_floorMod_7cf53 lv [.int a0, .int a1] w = Ex M_J9_floorMod_7cf53 lv 0 [some (.int a0), some (.int a1), none] [] w := Call_pad (n := 1) rfl
theorem C_J9_abs_0f7a4 (lv : Nat) (a0 : Int32) (w : AH) : Call M_J9_abs_0f7a4 lv [.int a0] w = Ex M_J9_abs_0f7a4 lv 0 [some (.int a0)] [] w := Call_pad (n := 0) rfl
theorem C_J9_max_7cf53 (lv : Nat) (a0 : Int32) (a1 : Int32) (w : AH) : Call M_J9_max_7cf53 lv [.int a0, .int a1] w = Ex M_J9_max_7cf53 lv 0 [some (.int a0), some (.int a1)] [] w := Call_pad (n := 0) rfl
theorem C_J9_min_7cf53 (lv : Nat) (a0 : Int32) (a1 : Int32) (w : AH) : Call M_J9_min_7cf53 lv [.int a0, .int a1] w = Ex M_J9_min_7cf53 lv 0 [some (.int a0), some (.int a1)] [] w := Call_pad (n := 0) rfl
theorem C_J0_length_8abf5 (lv : Nat) (b : Nat) (w : AH) : Call M_J0_length_8abf5 lv [.ref b] w = Ex M_J0_length_8abf5 lv 0 [some (.ref b)] [] w := Call_pad (n := 0) rfl
theorem C_J0_indexOf_0f7a4 (lv : Nat) (b : Nat) (a0 : Int32) (w : AH) : Call M_J0_indexOf_0f7a4 lv [.ref b, .int a0] w = Ex M_J0_indexOf_0f7a4 lv 0 [some (.ref b), some (.int a0)] [] w := Call_pad (n := 0) rfl
theorem C_J0_indexOf_7cf53 (lv : Nat) (b : Nat) (a0 : Int32) (a1 : Int32) (w : AH) : Call M_J0_indexOf_7cf53 lv [.ref b, .int a0, .int a1] w = Ex M_J0_indexOf_7cf53 lv 0 [some (.ref b), some (.int a0), some (.int a1)] [] w := Call_pad (n := 0) rfl
theorem C_J0_coder_7d493 (lv : Nat) (b : Nat) (w : AH) : Call M_J0_coder_7d493 lv [.ref b] w = Ex M_J0_coder_7d493 lv 0 [some (.ref b)] [] w := Call_pad (n := 0) rfl
theorem C_J0_isLatin1_aae02 (lv : Nat) (b : Nat) (w : AH) : Call M_J0_isLatin1_aae02 lv [.ref b] w = Ex M_J0_isLatin1_aae02 lv 0 [some (.ref b)] [] w := Call_pad (n := 0) rfl
theorem C_J1_canEncode_9a6ad (lv : Nat) (a0 : Int32) (w : AH) : Call M_J1_canEncode_9a6ad lv [.int a0] w = Ex M_J1_canEncode_9a6ad lv 0 [some (.int a0)] [] w := Call_pad (n := 0) rfl
theorem C_J1_indexOf_4cfef (lv : Nat) (a0 : Nat) (a1 : Int32) (a2 : Int32) (a3 : Int32) (w : AH) : Call M_J1_indexOf_4cfef lv [.ref a0, .int a1, .int a2, .int a3] w = Ex M_J1_indexOf_4cfef lv 0 [some (.ref a0), some (.int a1), some (.int a2), some (.int a3)] [] w := Call_pad (n := 0) rfl
theorem C_J1_indexOfChar_4cfef (lv : Nat) (a0 : Nat) (a1 : Int32) (a2 : Int32) (a3 : Int32) (w : AH) : Call M_J1_indexOfChar_4cfef lv [.ref a0, .int a1, .int a2, .int a3] w = Ex M_J1_indexOfChar_4cfef lv 0 [some (.ref a0), some (.int a1), some (.int a2), some (.int a3), none, none] [] w := Call_pad (n := 2) rfl
