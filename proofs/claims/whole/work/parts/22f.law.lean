/-! the calls of the law -/
theorem IN_tape {C C' R R' : zM} {n : Nat} (h : zIN C R) (ht : zTb 53 n C' R') (hc : ∀ c k, ¬ (c = 53 ∨ c = 54) → C'.1 c k = C.1 c k) (c2 : C'.2 = C.2) (hr : ∀ c k, ¬ ((c = 0 ∧ ¬ k = 3) ∨ c = 4 ∨ c = 10) → R'.1 c k = R.1 c k) (r2 : R'.2 = R.2) : zIN C' R' := by
  obtain ⟨h1, ⟨k1, k2⟩, -, hf, hs⟩ := h
  have r1 : R'.1 1 = R.1 1 := funext fun k => hr 1 k (by omega)
  have rr2 : R'.1 2 = R.1 2 := funext fun k => hr 2 k (by omega)
  refine ⟨h1.sr ⟨hc _ _ (by omega), hc _ _ (by omega), hc _ _ (by omega), fun b w hb hw => hc _ _ (by omega), hc _ _ (by omega), funext fun k => hc _ _ (by omega)⟩ (fun c z1 z2 => funext fun k => hc _ _ (by omega)) r1, ⟨?_, fun z => ?_⟩, ⟨n, ht⟩, fun k hk => ?_, fun q hq => ?_⟩
  · rw [hc 0 5 (by omega), hr 0 3 (by omega)]; exact k1
  · rw [hc 0 5 (by omega)] at z
    obtain ⟨⟨L, w1⟩, w2, w3⟩ := k2 z
    rw [rr2]
    exact ⟨⟨L, w1.cg (fun c k z1 z2 => hc _ _ (by omega))⟩, w2.cg (fun c z1 z2 => funext fun k => hc _ _ (by omega)) (fun _ _ => rfl), w3⟩
  · rw [hc 64 k (by omega), hr 5 k (by omega)]; exact hf k hk
  · have r12 : R'.1 12 = R.1 12 := funext fun k => hr 12 k (by omega)
    have r13 : R'.1 13 = R.1 13 := funext fun k => hr 13 k (by omega)
    rw [hc _ 1 (by omega), hc _ 2 (by omega), r12, r13, c2, r2]
    exact hs q hq
theorem m_wipe {C R : zM} (h : zIN C R) : zEq (f_X5_wipe C) (f_X6_wipe R) := by
  obtain ⟨n, ht⟩ := h.2.2.1
  refine ⟨ht.1.trans ht.2.1.symm, IN_tape (n := 0) h ⟨zpI_at, zpI_at, by omega, fun i hi => absurd hi (Nat.not_lt_zero i), fun i hi => absurd hi (Nat.not_lt_zero i)⟩ (fun c k hk => zpI_off (by omega)) rfl (fun c k hk => zpI_off (by omega)) rfl⟩
theorem m_plain {C R : zM} (h : zIN C R) : zEq (f_X5_plain C) (f_X6_plain R) := by
  obtain ⟨L, hw⟩ := h.1.1
  have hl : zLw (C.1 13 1) (C.1 14) (R.1 1) := hw.2.2.2.2.2.2.2
  have hin : zIN (zpI C 13 1 0) (zpI R 1 5 (-1)) := by
    refine ⟨⟨⟨L, ?_⟩, h.1.2.1.cg (fun c h1 h2 => zpI_ne.1 c (by omega)) (fun k hk => zpI_off (by omega)), ?_⟩, h.2.cg (fun c k z => by unfold oC at z; exact zpI_off (by omega)) rfl (fun c k z => by unfold oR at z; exact zpI_off (by omega)) rfl⟩
    · obtain ⟨h0, h1, h2, h3, h4, h5, h6, h7⟩ := hw
      refine ⟨h0, (zpI_off (by omega)).trans h1, (zpI_off (by omega)).trans h2, (zpI_off (by omega)).trans (h3.trans (zpI_off (by omega)).symm), (zpI_off (by omega)).trans (h4.trans (zpI_off (by omega)).symm), fun b w hb hw' => ?_, fun b hb => ?_, Or.inl ⟨zpI_at, ?_⟩⟩
      · rw [zpI_off (by omega)]
        unfold zB
        rw [zpI_off (by omega)]
        exact h5 b w hb hw'
      · have hb6 := h6 b hb
        unfold zBd zB at hb6 ⊢
        rw [zpI_off (by omega), zpI_off (by omega), zpI_off (by omega), zpI_off (by omega)]
        exact hb6
      · rw [zpI_at]; decide
    · intro k hk hc h2
      rw [zpI_at] at hc
      have : (-1 : Int32).toInt = -1 := by decide
      omega
  unfold f_X5_plain f_X6_plain
  simp only []
  rcases hl with ⟨e1, e2⟩ | ⟨e1, e2, -⟩
  · rw [if_pos (by rw [e1]; decide), if_neg (Int32.not_le.mpr e2)]
    exact ⟨rfl, hin⟩
  · rw [if_neg (Int32.not_le.mpr e1), if_pos e2]
    exact ⟨rfl, hin⟩
theorem m_says {C R : zM} (h : zIN C R) (p1 : Int32) : zEq (f_X5_says p1 C) (f_X6_says p1 R) := by
  obtain ⟨L, hw⟩ := h.1.1
  have hL := hw.1
  have hl : zLw (C.1 13 1) (C.1 14) (R.1 1) := hw.2.2.2.2.2.2.2
  have w5 : ∀ b w, b < L → w < 7 → C.1 (3 + b) w = zB (R.1 1) b w := hw.2.2.2.2.2.1
  unfold f_X5_says f_X6_says
  simp only []
  rw [has_eq hw.2.1 hw.2.2.1 hw.1]
  by_cases q : f_X6_isBlock p1 R = 0
  · rw [if_pos q, if_pos q]
    exact eq_f0 h
  rw [if_neg q, if_neg q]
  obtain ⟨b, hb, rfl⟩ := has_b hw.2.2.1 hw.1 q
  have hb10 : b < 10 := by omega
  rcases hl with ⟨e1, e2⟩ | ⟨e1, e2, E, e3, e4⟩
  · rw [if_pos e1, if_neg (Int32.not_le.mpr e2)]
    exact eq_f3 h
  · rw [if_neg (fun z => by rw [z] at e1; exact absurd e1 (by decide)), if_pos e2, zcl0 (show b < 1000 by omega), rAt6 hb10, w5 b 6 hb (by omega)]
    have a1 := e3 13 (3 + b) (nI b) (C.1 1 3) (zB (R.1 1) b 6) C (by omega) rfl (fun i _ => rfl)
    have a2 := e4 b (zB (R.1 1) b 6) R hb10 rfl (fun i _ => rfl)
    have htg := tg_val (t := 13) (it := 3 + b) (k := nI b) (p := C.1 1 3) (s := zB (R.1 1) b 6) (M := C)
    generalize f_X4_valueFor 13 (3 + b) (nI b) (C.1 1 3) (zB (R.1 1) b 6) C = V at a1 htg ⊢
    refine ⟨?_, IN_tg h htg f11_given⟩
    show V.1 = (f_X6_given (nI b) (zB (R.1 1) b 6) R).1
    rw [a1, a2, w5 b 1 hb (by omega), w5 b 2 hb (by omega), w5 b 4 hb (by omega), hw.2.2.2.2.1]
