theorem il_X6 {b : Int32} {M : zM} (hq : 0 ≤ M.1 1 0 ∧ M.1 1 0 ≤ 10) (hm : 0 ≤ b ∧ b < M.1 1 0) (h : f_X6_isLast b M = 0) : 0 ≤ b + 1 ∧ b + 1 < 10 ∧ b + 1 < M.1 1 0 := by
  unfold f_X6_isLast at h
  split at h
  · exact absurd h (by decide)
  · rename_i hne
    have e1 := zadd1 hm.2
    have e2 := zsub1 (x := M.1 1 0) (m := 0) (by
      obtain ⟨h1, h2⟩ := hm
      exact Int32.lt_of_le_of_lt h1 h2)
    have hne2 : b.toInt ≠ (M.1 1 0 - 1).toInt := fun q => hne (Int32.toInt_inj.mp q)
    obtain ⟨h1, h2⟩ := hm
    obtain ⟨h3, h4⟩ := hq
    rw [Int32.le_iff_toInt_le] at h1 h3 h4
    rw [Int32.lt_iff_toInt_lt] at h2
    have z0 : (0 : Int32).toInt = 0 := by decide
    have z10 : (10 : Int32).toInt = 10 := by decide
    refine ⟨?_, ?_, ?_⟩
    · rw [Int32.le_iff_toInt_le]; omega
    · rw [Int32.lt_iff_toInt_lt]; omega
    · rw [Int32.lt_iff_toInt_lt]; omega
theorem in_X6 {v a b : Int32} (h : ¬ f_X6_in v a b = 0) : a ≤ v ∧ v ≤ b := by
  unfold f_X6_in at h
  grind
theorem bk_X6 {i w B : Int32} (hB : 0 ≤ B ∧ B ≤ 100) (h1 : 0 ≤ i ∧ i ≤ B - 1) (h2 : 0 ≤ w ∧ w ≤ 2) : 0 ≤ (148 : Int32) + (100 : Int32) * w + i ∧ (148 : Int32) + (100 : Int32) * w + i < 448 := by
  have hi : i ≤ 99 := by grind
  have hi0 := h1.1
  have key : ∀ j : Nat, j ≤ 99 → ∀ k : Nat, k ≤ 2 → 0 ≤ (148 : Int32) + (100 : Int32) * nI k + nI j ∧ (148 : Int32) + (100 : Int32) * nI k + nI j < 448 := by decide
  obtain ⟨j, hj, rfl⟩ := nI_of2 (x := i) (M := 99) (n := 99) (by decide) (Int32.not_lt.mpr hi0) hi
  obtain ⟨k, hk, rfl⟩ := nI_of2 (x := w) (M := 2) (n := 2) (by decide) (Int32.not_lt.mpr h2.1) h2.2
  exact key j hj k hk
theorem zlt99 {v L : Int32} (h : ¬ L ≤ v) (hL : L ≤ 100) : v ≤ 99 := by grind
theorem is_X6 {v : Int32} (h : ¬ f_X6_isSheet v = 0) : 0 ≤ v ∧ v < 4 := by
  have h1 := in_X6 (v := v) (a := 0) (b := 3) (by unfold f_X6_isSheet at h; exact h)
  exact ⟨h1.1, by have := h1.2; grind⟩
theorem wr_X6 {q i L : Int32} (hs : 0 ≤ q ∧ q < 4) (h : 0 ≤ i ∧ i ≤ L - 1) (hL : 0 ≤ L ∧ L ≤ 40) : vp_in ((40 : Int32) * q + i) 160 := by
  have hi : i ≤ 39 := by grind
  have hi0 := h.1
  have hq : q ≤ 3 := by have := hs.2; grind
  have key : ∀ j : Nat, j ≤ 39 → ∀ k : Nat, k ≤ 3 → 0 ≤ (40 : Int32) * nI k + nI j ∧ (40 : Int32) * nI k + nI j < 160 := by decide
  obtain ⟨j, hj, rfl⟩ := nI_of2 (x := i) (M := 39) (n := 39) (by decide) (Int32.not_lt.mpr hi0) hi
  obtain ⟨k, hk, rfl⟩ := nI_of2 (x := q) (M := 3) (n := 3) (by decide) (Int32.not_lt.mpr hs.1) hq
  exact zin160.mpr (key j hj k hk)
theorem wr_X6b {q i : Int32} (hs : 0 ≤ q ∧ q < 4) (h0 : 0 ≤ i) (h : i < 40) : vp_in ((40 : Int32) * q + i) 160 := wr_X6 (L := 40) hs ⟨h0, by grind⟩ (by decide)
