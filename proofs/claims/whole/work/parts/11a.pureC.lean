theorem zrem100 {x : Int32} (h : 0 ≤ x ∧ x ≤ 100) : 0 ≤ x - x / 100 * 100 ∧ x - x / 100 * 100 ≤ 99 := by
  have key : ∀ j : Nat, j ≤ 100 → 0 ≤ nI j - nI j / 100 * 100 ∧ nI j - nI j / 100 * 100 ≤ 99 := by decide
  obtain ⟨j, hj, rfl⟩ := nI_of2 (x := x) (M := 100) (n := 100) (by decide) (Int32.not_lt.mpr h.1) h.2
  exact key j hj
theorem cls_X1_2 (p : Int32) : ∀ (n : Nat) (v : Int32), 0 ≤ v → v ≤ 6 → 0 ≤ f_X1_classOf_2 p n v ∧ f_X1_classOf_2 p n v ≤ 6 := by
  intro n
  induction n with
  | zero => intro v h1 h2; unfold f_X1_classOf_2; decide
  | succ n ih =>
    intro v h1 h2
    unfold f_X1_classOf_2
    split
    · exact ⟨h1, h2⟩
    · split
      · exact ⟨h1, h2⟩
      · exact ih (v + 1) (by grind) (by grind)
theorem cls_X1 (p : Int32) : 0 ≤ f_X1_classOf p ∧ f_X1_classOf p ≤ 6 := cls_X1_2 p _ 0 (by decide) (by decide)
theorem fm100 {x : Int32} (h : -101 ≤ x ∧ x ≤ 99) : 0 ≤ f_J9_floorMod_7cf53 x 100 ∧ f_J9_floorMod_7cf53 x 100 ≤ 99 := by
  have key : ∀ j : Nat, j ≤ 200 → 0 ≤ f_J9_floorMod_7cf53 (nI j - 101) 100 ∧ f_J9_floorMod_7cf53 (nI j - 101) 100 ≤ 99 := by decide +kernel
  obtain ⟨h1, h2⟩ := h
  obtain ⟨j, hj, e⟩ := nI_of2 (x := x + 101) (M := 200) (n := 200) (by decide) (by grind) (by grind)
  have e2 : x = nI j - 101 := by rw [← e]; grind
  rw [e2]
  exact key j hj
theorem slot_X1 {a : Nat} {q : Int32} {M : zM} (h : 0 ≤ M.1 a 5 ∧ M.1 a 5 ≤ 99) (hq : 0 ≤ q ∧ q ≤ 100) : 0 ≤ f_X1_slot a q M ∧ f_X1_slot a q M ≤ 99 := fm100 (by grind)
theorem zpI_at {M : zM} {c k : Nat} {v : Int32} : (zpI M c k v).1 c k = v := by simp [zpI, zrI, va_up, upd]
theorem zpI_off {M : zM} {c k a b : Nat} {v : Int32} (h : ¬ (a = c ∧ b = k)) : (zpI M c k v).1 a b = M.1 a b := by
  by_cases hc : a = c
  · subst hc
    have hb : b ≠ k := fun q => h ⟨rfl, q⟩
    simp [zpI, zrI, va_up, upd, hb]
  · simp [zpI, zrI, va_up, hc]
theorem fr_X0_begin {c a : Nat} {q1 q2 q3 q4 : Int32} {M : zM} (h : a ≠ c) : (f_X0_begin c q1 q2 q3 q4 M).1 a = M.1 a := by
  simp [f_X0_begin, zpI, zrI, va_up, h]
theorem zcp40 {x y L : Int32} (hx : 0 ≤ x) (hy : 0 ≤ y) (h : y ≤ L) (h2 : x ≤ L - y) (hL : L ≤ 40) : x.toNatClampNeg + y.toNatClampNeg ≤ 40 := by
  have h3 : x + y ≤ 40 := by grind
  have h4 : x ≤ 40 := by grind
  have h5 : y ≤ 40 := by grind
  obtain ⟨i, hi, rfl⟩ := nI_of2 (x := x) (M := 40) (n := 40) (by decide) (Int32.not_lt.mpr hx) h4
  obtain ⟨j, hj, rfl⟩ := nI_of2 (x := y) (M := 40) (n := 40) (by decide) (Int32.not_lt.mpr hy) h5
  rw [nI_clamp (by omega), nI_clamp (by omega)]
  rw [nI_add] at h3
  have := (nI_leI (a := i + j) (b := 40) (by omega) (by omega)).mp h3
  omega
theorem wi7 {x : Int32} (h : ¬ f_X5_within x 0 6 = 0) : 0 ≤ x ∧ x < 7 := by grind [f_X5_within]
theorem zCd.step1 {B v : Int32} {n : Nat} (h : zCd B (n + 1) v) (hv : 0 ≤ v) : zCd B n (v + -1) := by
  have e : v + -1 = v - 1 := by grind
  rw [e]
  exact h.step hv
theorem z5354 {M : zM} {k b : Nat} {v : Int32} : (zpI M 54 k v).1 53 b = M.1 53 b := zpI_off (fun h => absurd h.1 (by decide))
theorem hp_X3 {c : Nat} {x y : Int32} {M : zM} (h : ¬ f_X3_hasPart c x y M = 0) : 0 ≤ x ∧ 0 ≤ y ∧ y ≤ M.1 c 2 ∧ x ≤ M.1 c 2 - y := by grind [f_X3_hasPart]
theorem zcp40h {x y L : Int32} (hL : L ≤ 40) (h : 0 ≤ x ∧ 0 ≤ y ∧ y ≤ L ∧ x ≤ L - y) : x.toNatClampNeg + y.toNatClampNeg ≤ 40 := zcp40 h.1 h.2.1 h.2.2.1 h.2.2.2 hL
