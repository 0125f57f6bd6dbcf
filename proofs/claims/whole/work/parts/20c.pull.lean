theorem rPl {b : Nat} {R : zM} (hb : b < 10) : f_X6_placeOf (nI b) R = zB (R.1 1) b 5 := by
  unfold f_X6_placeOf
  rw [if_pos (nI_pos' (by omega))]
  exact rAt5 hb
theorem rLast {b L : Nat} {R : zM} (h0 : R.1 1 0 = nI L) (hL : L ≤ 10) (hb : b < L) : f_X6_isLast (nI b) R = if b + 1 = L then 1 else 0 := by
  obtain ⟨k, rfl⟩ : ∃ k, L = k + 1 := ⟨L - 1, by omega⟩
  unfold f_X6_isLast
  rw [h0, nI_pred]
  have e := nI_eq (a := b) (b := k) (by omega) (by omega)
  by_cases h : b = k
  · rw [if_pos (e.mpr h), if_pos (by omega)]
  · rw [if_neg (fun q => h (e.mp q)), if_neg (by omega)]
theorem pull_eq {L r b : Nat} {C R : zM} (h : zRw L r C (R.1 1)) (hb : b < L) : f_X2_pullOf r (nI b) C = f_X6_pull (nI b) R := by
  obtain ⟨hL, h1, h2, h3, h4, h5, h6, h7⟩ := h
  have hb10 : b < 10 := by omega
  have k3 := h5 b 3 hb (by omega)
  have k5 := h5 b 5 hb (by omega)
  have e29 : ∀ s0 : Int32, f_X2_pullOf_29 r (nI b) C (r + 2 + b) s0 = if L ≤ b + 1 then zB (R.1 1) b 3 * (s0 - zB (R.1 1) b 5) else zB (R.1 1) b 3 * (s0 - zB (R.1 1) b 5) - zB (R.1 1) (b + 1) 3 * (zB (R.1 1) b 5 - zB (R.1 1) (b + 1) 5) := by
    intro s0
    unfold f_X2_pullOf_29
    simp only [k3, k5, h1, nI_1, nI_leI (a := L) (b := b + 1) (by omega) (by omega)]
    by_cases q : L ≤ b + 1
    · rw [if_pos q, if_pos q]
    · rw [if_neg q, if_neg q, zcl0 (show b + 1 < 1000 by omega), h5 (b + 1) 3 (by omega) (by omega), h5 (b + 1) 5 (by omega) (by omega)]
  have eP : ∀ x2 : Int32, f_X6_placeOf (nI b - 1) R = x2 → f_X6_pull (nI b) R = if L ≤ b + 1 then zB (R.1 1) b 3 * (x2 - zB (R.1 1) b 5) else zB (R.1 1) b 3 * (x2 - zB (R.1 1) b 5) - zB (R.1 1) (b + 1) 3 * (zB (R.1 1) b 5 - zB (R.1 1) (b + 1) 5) := by
    intro x2 e
    unfold f_X6_pull
    simp only [e, rAt3 hb10, rPl hb10, rLast h2 hL hb, nI_1]
    by_cases q : L ≤ b + 1
    · rw [if_pos q, if_pos (show b + 1 = L by omega), if_neg (by decide)]
    · rw [if_neg q, if_neg (show ¬ b + 1 = L by omega), if_pos rfl, rAt3 (show b + 1 < 10 by omega), rPl (show b + 1 < 10 by omega)]
  unfold f_X2_pullOf
  rw [zcl0 (show b < 1000 by omega)]
  by_cases q : b = 0
  · subst q
    rw [if_pos nI_0, e29, eP (R.1 1 1) (by unfold f_X6_placeOf; rw [if_neg (by decide)]), h3]
  · obtain ⟨j, rfl⟩ : ∃ j, b = j + 1 := ⟨b - 1, by omega⟩
    rw [if_neg (nI_ne0 (by omega) (by omega)), e29, nI_pred, zcl0 (show j < 1000 by omega), h5 j 5 (by omega) (by omega), eP (zB (R.1 1) j 5) (by rw [nI_pred]; exact rPl (by omega))]
theorem spr_eq {L b : Nat} {R : zM} (h0 : R.1 1 0 = nI L) (hL : L ≤ 10) (hb : b < L) : f_X6_springs (nI b) R = f_X6_greater 1 (zB (R.1 1) b 3 + (if b + 1 < L then zB (R.1 1) (b + 1) 3 else 0)) := by
  unfold f_X6_springs f_X6_springs_27
  simp only [rAt3 (show b < 10 by omega), rLast h0 hL hb, nI_1]
  by_cases q : b + 1 = L
  · rw [if_pos q, if_neg (by decide), if_neg (by omega)]
  · rw [if_neg q, if_pos rfl, if_pos (show b + 1 < L by omega), rAt3 (show b + 1 < 10 by omega)]
