/-! what holds and rubs are is not below 0 -/
theorem zgr0 {x : Int32} : 0 ≤ f_X6_greater 0 x := by
  unfold f_X6_greater
  split
  · assumption
  · decide
theorem zis {x : Int32} {n : Nat} (m : Int32) (hm : m.toInt = n) (h0 : 0 ≤ x) (h1 : x ≤ m) : ∃ j : Nat, j ≤ n ∧ x = nI j := nI_of2 hm (Int32.not_lt.mpr h0) h1
theorem hold_nn {b : Nat} {s : Int32} {R : zM} (hb : b < 10) (h1 : 1 ≤ zB (R.1 1) b 1 ∧ zB (R.1 1) b 1 ≤ 999) (hs : 0 ≤ s ∧ s ≤ 999) : 0 ≤ (f_X6_holdsOf (nI b) s R).1 := by
  have k1 : ∀ t : Nat, t ≤ 999 → 0 ≤ f_X6_lesser (nI t / 4) 50 ∧ f_X6_lesser (nI t / 4) 50 ≤ 50 := by decide +kernel
  have k2 : ∀ a : Nat, a ≤ 2048 → 0 ≤ nI a ∧ 0 ≤ nI a * 1 ∧ 0 ≤ nI a * 3 := by decide +kernel
  obtain ⟨t, ht, rfl⟩ := zis (n := 999) 999 (by decide) hs.1 hs.2
  obtain ⟨h, hh, eh⟩ := zis (n := 999) 999 (by decide) (Int32.le_trans (by decide) h1.1) h1.2
  obtain ⟨q, hq, eq⟩ := zis (n := 50) 50 (by decide) (k1 t ht).1 (k1 t ht).2
  have e1 : zB (R.1 1) b 1 + f_X6_lesser (nI t / 4) 50 = nI (h + q) := by rw [eh, eq, nI_add]
  unfold f_X6_holdsOf f_X6_plainHolds
  simp only [rAt0 hb, rAt1 hb, rAt4 hb, e1, nI_add]
  have p1 := (k2 (h + q) (by omega)).1
  have p2 := k2 (h + q + t) (by omega)
  have p3 : 0 ≤ zB (R.1 1) b 1 := Int32.le_trans (by decide) h1.1
  generalize nI (h + q) = X at p1 ⊢
  generalize nI (h + q + t) = Y at p2 ⊢
  generalize nI t = Z
  generalize f_X6_given (nI b) Z R = G
  by_cases q1 : zB (R.1 1) b 0 = 1
  · rw [if_pos q1]; exact p2.1
  by_cases q2 : zB (R.1 1) b 0 = 2
  · rw [if_neg q1, if_pos q2]; exact zgr0
  by_cases q3 : zB (R.1 1) b 0 = 3
  · rw [if_neg q1, if_neg q2, if_pos q3]
    by_cases q : 0 ≤ R.1 1 5
    · rw [if_pos q]; exact zgr0
    · rw [if_neg q]; exact p3
  by_cases q4 : zB (R.1 1) b 0 = 4
  · rw [if_neg q1, if_neg q2, if_neg q3, if_pos q4]
    by_cases q : Z < 40
    · rw [if_pos q]; exact p2.2.1
    · rw [if_neg q]; exact p2.2.2
  by_cases q5 : zB (R.1 1) b 0 = 5
  · rw [if_neg q1, if_neg q2, if_neg q3, if_neg q4, if_pos q5]; exact zgr0
  · rw [if_neg q1, if_neg q2, if_neg q3, if_neg q4, if_neg q5]; exact p1
theorem rubs_nn {b : Nat} {n : Int32} {R : zM} (hb : b < 10) (h2 : 0 ≤ zB (R.1 1) b 2 ∧ zB (R.1 1) b 2 ≤ 999) (hn : 0 ≤ n ∧ n ≤ 999) : 0 ≤ f_X6_rubsOf (nI b) n R := by
  have k1 : ∀ g : Nat, g ≤ 999 → 0 ≤ nI g / 2 ∧ nI g / 2 ≤ 500 := by decide +kernel
  have k2 : ∀ a : Nat, a ≤ 1499 → 0 ≤ f_X6_lesser 999 (nI a) := by decide +kernel
  obtain ⟨t, ht, rfl⟩ := zis (n := 999) 999 (by decide) hn.1 hn.2
  obtain ⟨g, hg, eg⟩ := zis (n := 999) 999 (by decide) h2.1 h2.2
  obtain ⟨q, hq, eq⟩ := zis (n := 500) 500 (by decide) (k1 g hg).1 (k1 g hg).2
  have e1 : zB (R.1 1) b 2 / 2 + nI t = nI (q + t) := by rw [eg, eq, nI_add]
  unfold f_X6_rubsOf
  simp only [rAt0 hb, rAt2 hb, e1]
  have p2 := k2 (q + t) (by omega)
  have p1 := h2.1
  generalize f_X6_lesser 999 (nI (q + t)) = Y at p2 ⊢
  generalize nI t = Z
  by_cases q1 : zB (R.1 1) b 0 = 1
  · rw [if_pos q1]; exact p1
  by_cases q2 : zB (R.1 1) b 0 = 2
  · rw [if_neg q1, if_pos q2]; exact p2
  by_cases q4 : zB (R.1 1) b 0 = 4
  · rw [if_neg q1, if_neg q2, if_pos q4]; exact p1
  by_cases q5 : zB (R.1 1) b 0 = 5
  · rw [if_neg q1, if_neg q2, if_neg q4, if_pos q5]; exact p2
  · rw [if_neg q1, if_neg q2, if_neg q4, if_neg q5]; exact zgr0
/-! what the reference's reckoning of a law and of steps leaves as it was -/
def zF11 (M M' : zM) : Prop := (∀ c, c ≠ 11 → M'.1 c = M.1 c) ∧ M'.2 = M.2
theorem zF11.rf {M : zM} : zF11 M M := ⟨fun _ _ => rfl, rfl⟩
theorem zF11.tr {A B C : zM} (h : zF11 A B) (k : zF11 B C) : zF11 A C := ⟨fun c hc => (k.1 c hc).trans (h.1 c hc), k.2.trans h.2⟩
theorem f11_put {k : Nat} {v : Int32} {M : zM} : zF11 M (zpI M 11 k v) := ⟨fun c hc => zpI_ne.1 c hc, rfl⟩
theorem f11_given5 {b s : Int32} : ∀ (n : Nat) (h k : Int32) (M : zM), zF11 M (f_X6_given_5 b s n h k M).2 := by
  intro n
  induction n with
  | zero => intro h k M; exact zF11.rf
  | succ n ih =>
    intro h k M
    unfold f_X6_given_5
    split
    · exact zF11.rf
    · simp only []
      split
      · split <;> exact f11_put.tr (ih _ _ _)
      · split <;> exact f11_put.tr (ih _ _ _)
theorem f11_given {b s : Int32} {M : zM} : zF11 M (f_X6_given b s M).2 := f11_given5 _ _ _ M
theorem f11_hold {b s : Int32} {M : zM} : zF11 M (f_X6_holdsOf b s M).2 := by
  unfold f_X6_holdsOf
  simp only []
  repeat' split
  all_goals first | exact zF11.rf | exact f11_given (b := b) (s := s) (M := M)
theorem f11_steps {b : Int32} {M : zM} : zF11 M (f_X6_stepsOf b M).2 := by
  have k : ∀ v x : Int32, zF11 M (f_X6_stepsOf_23 b v x M).2 := by
    intro v x
    unfold f_X6_stepsOf_23
    simp only []
    split
    · rw [rw_steps62]; exact f11_hold
    · rw [rw_steps62]; exact zF11.rf
  unfold f_X6_stepsOf
  simp only []
  split <;> exact k _ _
theorem zAg.symm {A B : zM} (h : zAg A B) : zAg B A := ⟨fun k hk => (h.1 k hk).symm, fun b w hb hw h5 => (h.2.1 b w hb hw h5).symm, fun k hk => (h.2.2 k hk).symm⟩
