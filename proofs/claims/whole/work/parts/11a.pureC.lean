theorem zrem100 {x : Int32} (h : 0 ≤ x ∧ x ≤ 100) : 0 ≤ x - x / 100 * 100 ∧ x - x / 100 * 100 ≤ 99 := by
  have key : ∀ j : Nat, j ≤ 100 → 0 ≤ nI j - nI j / 100 * 100 ∧ nI j - nI j / 100 * 100 ≤ 99 := by decide
  obtain ⟨j, hj, rfl⟩ := nI_of2 (x := x) (M := 100) (n := 100) (by decide) (Int32.not_lt.mpr h.1) h.2
  exact key j hj
theorem cls_X1_2 (p : Int32) : ∀ (n : Nat) (v : Int32), 0 ≤ v → v ≤ 6 → 0 ≤ f_X1_classOf_2 p n v ∧ f_X1_classOf_2 p n v ≤ 6 := by
  intro n
  induction n with
  | zero => intro v h1 h2; unfold f_X1_classOf_2; decide
  | succ n ih =>
    intro v h1 h2
    unfold f_X1_classOf_2
    split
    · exact ⟨h1, h2⟩
    · split
      · exact ⟨h1, h2⟩
      · exact ih (v + 1) (by grind) (by grind)
theorem cls_X1 (p : Int32) : 0 ≤ f_X1_classOf p ∧ f_X1_classOf p ≤ 6 := cls_X1_2 p _ 0 (by decide) (by decide)
