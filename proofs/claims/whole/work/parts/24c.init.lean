theorem m0C_0 {c k : Nat} (h : k ≠ 3) : m0C.1 c k = 0 := by
  show (if c = 1 then (fun k => if k = 3 then (1 : Int32) else 0) else if c = 15 then (fun k => if k = 3 then 1 else 0) else if c = 29 then (fun k => if k = 3 then 1 else 0) else (fun _ => 0)) k = 0
  split
  · exact if_neg h
  · split
    · exact if_neg h
    · split
      · exact if_neg h
      · rfl
theorem m0R_0 {c k : Nat} (h : c ≠ 1 ∨ (k ≠ 2 ∧ k ≠ 5)) : m0R.1 c k = 0 := by
  show (if c = 1 then upd (upd (fun _ => (0 : Int32)) 2 1) 5 (-1) else (fun _ => 0)) k = 0
  split
  · rename_i hc
    have h2 : k ≠ 2 ∧ k ≠ 5 := h.resolve_left (fun q => q hc)
    simp [upd, h2.1, h2.2]
  · rfl
theorem m0C_iv : zIv lyC m0C := by
  intro c _ k lo hi e
  have e : crC (kdC c) c k = some (lo, hi) := e
  have hk : k ≠ 3 := by
    rintro rfl
    unfold crC at e
    split at e <;> simp at e
  rw [m0C_0 hk]
  unfold crC at e
  split at e <;> (try split at e) <;> first | (cases e; decide) | cases e
theorem m0R_iv : zIv lyR m0R := by
  intro c _ k lo hi e
  have e : crR (kdR c) c k = some (lo, hi) := e
  by_cases h5 : c = 1 ∧ k = 5
  · obtain ⟨rfl, rfl⟩ := h5
    have e : some ((-1 : Int32), (60 : Int32)) = some (lo, hi) := e
    cases e
    exact (by decide : (-1 : Int32) ≤ -1 ∧ (-1 : Int32) ≤ 60)
  · by_cases h2 : c = 1 ∧ k = 2
    · obtain ⟨rfl, rfl⟩ := h2
      have e : (none : Option (Int32 × Int32)) = some (lo, hi) := e
      cases e
    · rw [m0R_0 (by omega)]
      have hs : ∀ k, crS k = some (lo, hi) → k ≠ 5 ∨ k = 5 → lo ≤ 0 ∧ 0 ≤ hi := by
        intro k e _
        unfold crS at e
        split at e <;> first | (cases e; decide) | cases e
      unfold crR at e
      split at e
      · split at e <;> first | (cases e; decide) | cases e
      · exact hs k e (by omega)
      · exact hs k e (by omega)
      · exact hs k e (by omega)
      · cases e; decide
      · cases e
theorem m0_in : zIN m0C m0R := by
  have r5 : m0R.1 1 5 = -1 := rfl
  refine ⟨⟨⟨0, by omega, rfl, rfl, rfl, rfl, fun b w h => absurd h (by omega), fun b h => absurd h (by omega), Or.inl ⟨rfl, by rw [r5]; decide⟩⟩, ⟨0, 0, by omega, by omega, rfl, rfl, rfl, fun i h => absurd h (by omega), fun c hc => ?_, rfl, rfl⟩, fun k _ hc => ?_⟩, ⟨rfl, fun h => absurd rfl h⟩, ⟨0, rfl, rfl, by omega, fun i h => absurd h (by omega), fun i h => absurd h (by omega)⟩, fun k _ => ?_, fun q hq => ⟨?_, ⟨0, by omega, ?_, ?_⟩, fun i _ => rfl⟩⟩
  · rw [show m0C.1 (43 + 4) c = 0 from rfl, m0R_0 (by omega)]
  · rw [r5] at hc
    exact absurd hc (by have : (-1 : Int32).toInt = -1 := by decide
                        omega)
  · rw [show m0C.1 64 k = 0 from rfl, m0R_0 (by omega)]
  · rw [m0C_0 (by omega), m0R_0 (by omega)]
  · rw [m0C_0 (by omega)]; rfl
  · rw [m0R_0 (by omega)]; rfl
