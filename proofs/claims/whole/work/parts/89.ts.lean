/-! ===== Dyeing: a flood of the carpet ===== -/
def fdN (col : Nat → Nat) (k c : Nat) : Nat → Nat := fun j => if (land col k).testBit j = true then c else col j
theorem flood_land (col0 col1 : Nat → Nat) {k : Nat} (c : Nat) (hk : k < 36) (h : ∀ j, j < 36 → (land col1 k).testBit j = false → col1 j = col0 j) : land (fdN col1 k c) k = lnN (csN col0) (land col1 k) c := by
  have ll := land_lt col1 hk
  have hc : fdN col1 k c k = c := by unfold fdN; rw [land_self col1 hk, if_pos rfl]
  have wl : land col1 k ||| csN col0 c < 2 ^ 36 := Nat.or_lt_two_pow ll (csN_lt col0 c)
  have hw : csN (fdN col1 k c) c = land col1 k ||| csN col0 c := by
    apply bit_ext (csN_lt _ _) wl
    intro j hj
    rw [csN_b, Nat.testBit_or, csN_b, decide_eq_true hj, Bool.true_and, Bool.true_and, Bool.or_eq_true, decide_eq_true_iff, decide_eq_true_iff]
    unfold fdN
    cases z : (land col1 k).testBit j with
    | true => simp
    | false =>
      rw [if_neg (by decide), h j hj z]
      simp
  unfold land
  rw [hc, hw]
  show gro (land col1 k ||| csN col0 c) 36 (2 ^ k &&& (land col1 k ||| csN col0 c)) = gro (land col1 k ||| csN col0 c) 36 (land col1 k &&& (land col1 k ||| csN col0 c))
  have hwL : ∀ j, (land col1 k).testBit j = true → (land col1 k ||| csN col0 c).testBit j = true := fun j hj => by rw [Nat.testBit_or, hj]; rfl
  obtain ⟨a1, a2, a3, a4, a5⟩ := gro_all (two_lt hk) wl
  obtain ⟨b1, b2, b3, b4, b5⟩ := gro_all ll wl
  generalize hW : land col1 k ||| csN col0 c = W at *
  generalize hG1 : gro W 36 (2 ^ k &&& W) = G1 at *
  generalize hG2 : gro W 36 (land col1 k &&& W) = G2 at *
  have k1 : G1.testBit k = true := a3 k hk (by rw [Nat.testBit_two_pow]; simp) (hwL k (land_self col1 hk))
  have inc : ∀ j, j < 36 → (land col1 k).testBit j = true → G1.testBit j = true := by
    intro j hj hL
    have := land_min col1 hk (x := G1 &&& land col1 k) (by rw [Nat.testBit_and, k1, land_self col1 hk]; rfl) (fun i hi hic ⟨y, y1, y2, y3, y4⟩ => by
      rw [Nat.testBit_and, Bool.and_eq_true] at y3 ⊢
      have iL := land_clos col1 hk hi hic y1 y2 y3.2
      exact ⟨a4 i hi (hwL i iL) ⟨y, y1, y2, y3.1⟩, iL⟩) j hj hL
    rw [Nat.testBit_and, Bool.and_eq_true] at this
    exact this.1
  apply bit_ext a1 b1
  intro j hj
  constructor
  · intro q
    refine a5 G2 b4 (fun i hi h1 h2 => ?_) j hj q
    rw [Nat.testBit_two_pow] at h1
    have : k = i := by simpa using h1
    subst this
    exact b3 k hk (land_self col1 hk) (hwL k (land_self col1 hk))
  · intro q
    exact b5 G1 a4 (fun i hi h1 _ => inc i hi h1) j hj q
