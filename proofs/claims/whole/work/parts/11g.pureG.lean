/-! small facts that the reference's walks need -/
theorem zti64 {x : Int32} (h : 1 ≤ x.toInt) : ¬ x.toInt64 = (0 : Int64) := by
  intro q
  have h1 : x.toInt64.toInt = x.toInt := Int32.toInt_toInt64 x
  rw [q] at h1
  have : (0 : Int64).toInt = 0 := by decide
  omega
theorem spr_X6 {b : Int32} {M : zM} : ¬ (f_X6_springs b M).toInt64 = (0 : Int64) := by
  have key : ∀ x : Int32, ¬ (f_X6_greater 1 x).toInt64 = (0 : Int64) := by
    intro x
    refine zti64 ?_
    unfold f_X6_greater
    have z1 : (1 : Int32).toInt = 1 := by decide
    split
    · rename_i h
      rw [Int32.le_iff_toInt_le] at h
      omega
    · omega
  unfold f_X6_springs
  simp only []
  repeat' split
  all_goals exact key _
def zCe (p : Int32) : Prop := p = 2 ∨ (78 ≤ p ∧ p < 148)
theorem zCe.of {b : Int32} (hb : 0 ≤ b ∧ b < 10) : zCe ((78 : Int32) + (7 : Int32) * b + (4 : Int32)) := by
  have key : ∀ j : Nat, j ≤ 9 → zCe ((78 : Int32) + (7 : Int32) * nI j + (4 : Int32)) := by unfold zCe; decide
  obtain ⟨j, hj, rfl⟩ := nI_of2 (x := b) (M := 9) (n := 9) (by decide) (Int32.not_lt.mpr hb.1) (by have := hb.2; grind)
  exact key j hj
theorem zCe.in {p : Int32} (h : zCe p) : vp_in p 448 := by
  refine zin448.mpr ?_
  unfold zCe at h
  grind
theorem zCe.fit {p v : Int32} (h : zCe p) : zFit (lyR.2.2.2.2 7 1 p.toNatClampNeg) v := by
  rcases h with rfl | h
  · exact zcn
  · exact zfitS (by have := h.1; grind)
theorem zCe.sm {p v : Int32} {M : zM} (h : zCe p) : zSame M (zpI M 1 p.toNatClampNeg v) := by
  rcases h with rfl | h
  · exact sm_put1 (by decide)
  · exact sm_put78 h.1
theorem zfit12 {i v : Int32} (h : 0 ≤ i ∧ i ≤ 6) : zFit (lyR.2.2.2.2 7 1 ((6 : Int32) + i).toNatClampNeg) v := by
  have key : ∀ j : Nat, j ≤ 6 → crS ((6 : Int32) + nI j).toNatClampNeg = none := by decide
  obtain ⟨j, hj, rfl⟩ := nI_of2 (x := i) (M := 6) (n := 6) (by decide) (Int32.not_lt.mpr h.1) h.2
  show zFit (crS ((6 : Int32) + nI j).toNatClampNeg) v
  rw [key j hj]
  exact zcn
theorem ah_X6 {w L : Int32} (hL : 0 ≤ L ∧ L ≤ 10) (h : ¬ f_X6_in w 0 ((3 : Int32) + L) = 0) (h3 : ¬ w ≤ 3) : 0 ≤ w - 4 ∧ w - 4 < 10 := by
  obtain ⟨h1, h2⟩ := in_X6 h
  have k1 : ∀ l : Nat, l ≤ 10 → (3 : Int32) + nI l ≤ 13 := by decide
  have k2 : ∀ j : Nat, j ≤ 13 → ¬ nI j ≤ 3 → 0 ≤ nI j - 4 ∧ nI j - 4 < 10 := by decide
  obtain ⟨l, hl, rfl⟩ := nI_of2 (x := L) (M := 10) (n := 10) (by decide) (Int32.not_lt.mpr hL.1) hL.2
  obtain ⟨j, hj, rfl⟩ := nI_of2 (x := w) (M := 13) (n := 13) (by decide) (Int32.not_lt.mpr h1) (Int32.le_trans h2 (k1 l hl))
  exact k2 j hj h3
theorem ib_X6 {b : Int32} {M : zM} (hL : 0 ≤ M.1 1 0 ∧ M.1 1 0 ≤ 10) (h : ¬ f_X6_isBlock b M = 0) : 0 ≤ b ∧ b < M.1 1 0 := by
  unfold f_X6_isBlock at h
  have h1 := in_X6 (v := b) (a := 0) (b := M.1 1 0 - 1) h
  have h2 := h1.1
  have h3 := h1.2
  obtain ⟨h4, h5⟩ := hL
  refine ⟨h2, ?_⟩
  grind
theorem ib10 {b : Int32} {M : zM} (hL : 0 ≤ M.1 1 0 ∧ M.1 1 0 ≤ 10) (h : ¬ f_X6_isBlock b M = 0) : 0 ≤ b ∧ b < 10 :=
  ⟨(ib_X6 hL h).1, Int32.lt_of_lt_of_le (ib_X6 hL h).2 hL.2⟩
theorem ia_X6 {n : Int32} (h : ¬ f_X6_isAhead n = 0) : n ≤ 60 := by
  unfold f_X6_isAhead at h
  exact (in_X6 (v := n) (a := 1) (b := 60) h).2
