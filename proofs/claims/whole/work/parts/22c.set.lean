theorem bd_1 {M : zM} {b : Nat} {x : Int32} (h : zBd (M.1 1) b) (hx : 1 ≤ x ∧ x ≤ 999) : zBd ((zpI M 1 (78 + 7 * b + 1) x).1 1) b := by
  unfold zBd at h ⊢
  rw [zB_ne (by omega) (by omega) (by omega), zB_same, zB_ne (by omega) (by omega) (by omega), zB_ne (by omega) (by omega) (by omega)]
  exact ⟨h.1, hx, h.2.2.1, h.2.2.2⟩
theorem bd_2 {M : zM} {b : Nat} {x : Int32} (h : zBd (M.1 1) b) (hx : 0 ≤ x ∧ x ≤ 999) : zBd ((zpI M 1 (78 + 7 * b + 2) x).1 1) b := by
  unfold zBd at h ⊢
  rw [zB_ne (by omega) (by omega) (by omega), zB_ne (by omega) (by omega) (by omega), zB_same, zB_ne (by omega) (by omega) (by omega)]
  exact ⟨h.1, h.2.1, hx, h.2.2.2⟩
theorem m_set {C R : zM} (h : zIN C R) (p1 p2 p3 : Int32) : zEq (f_X5_set p1 p2 p3 C) (f_X6_set p1 p2 p3 R) := by
  obtain ⟨L, hw⟩ := h.1.1
  have hL := hw.1
  have w5 : ∀ b w, b < L → w < 7 → C.1 (3 + b) w = zB (R.1 1) b w := hw.2.2.2.2.2.1
  unfold f_X5_set f_X6_set f_X5_set_19 f_X6_set_47
  simp only []
  rw [has_eq hw.2.1 hw.2.2.1 hw.1]
  by_cases q : f_X6_isBlock p1 R = 0
  · rw [if_pos q, if_pos q]
    exact eq_f0 h
  rw [if_neg q, if_neg q]
  obtain ⟨b, hb, rfl⟩ := has_b hw.2.2.1 hw.1 q
  have hb10 : b < 10 := by omega
  have bd := hw.2.2.2.2.2.2.1 b hb
  rw [zcl0 (show b < 1000 by omega)]
  by_cases q2 : f_X6_in p2 1 4 = 0
  · rw [if_pos q2]
    have hn : ∀ k : Int32, 1 ≤ k → k ≤ 4 → ¬ p2 = k := fun k k1 k2 z => in_of (v := p2) (a := 1) (b := 4) (by rw [z]; exact k1) (by rw [z]; exact k2) q2
    have hcb : f_X5_canBecome p2 p3 = 0 := by
      unfold f_X5_canBecome
      rw [if_neg (hn 1 (by decide) (by decide)), if_neg (hn 2 (by decide) (by decide)), if_neg (hn 3 (by decide) (by decide)), if_neg (hn 4 (by decide) (by decide))]
    rw [if_pos hcb]
    exact eq_f0 h
  · rw [if_neg q2]
    have h2 := in_X6 q2
    obtain ⟨j, hj, rfl⟩ := nI_of2 (x := p2) (M := 4) (n := 4) (by decide) (Int32.not_lt.mpr (Int32.le_trans (by decide) h2.1)) h2.2
    have hj1 : 1 ≤ j := (nI_leI (a := 1) (by omega) (by omega)).mp h2.1
    match j, hj, hj1 with
    | 0, _, z => omega
    | 1, _, _ =>
      have hcb : f_X5_canBecome (nI 1) p3 = f_X6_in p3 1 999 := by
        unfold f_X5_canBecome
        rw [if_pos (by decide)]
        rfl
      rw [hcb]
      have hr : f_X6_set_28 (nI b) (nI 1) p3 1 p3 R = if f_X6_in p3 1 999 = 0 then f_X6_no 0 R else (f_X6_at (nI b) (nI 1) R, zpI R 1 (78 + 7 * b + 1) p3) := by
        unfold f_X6_set_28 f_X6_set_41 f_X6_set_47
        rw [if_neg (by decide)]
        simp only []
        rw [rBc (w := 1) hb10 (by omega)]
        rfl
      have hr2 : (if nI 1 = 1 then f_X6_set_28 (nI b) (nI 1) p3 1 p3 R else f_X6_set_28 (nI b) (nI 1) p3 0 p3 R) = f_X6_set_28 (nI b) (nI 1) p3 1 p3 R := by
        rw [if_pos (by decide)]
      rw [hr2, hr]
      by_cases q3 : f_X6_in p3 1 999 = 0
      · rw [if_pos q3, if_pos q3]
        exact eq_f0 h
      · rw [if_neg q3, if_neg q3, if_pos (by decide)]
        exact ⟨(w5 b 1 hb (by omega)).trans (rAt1 hb10).symm, (IN_put (w := 1) (x := p3) h hw hb (by omega) (bd_1 bd ⟨(in_X6 q3).1, (in_X6 q3).2⟩)).1⟩
    | 2, _, _ =>
      have hcb : f_X5_canBecome (nI 2) p3 = f_X6_in p3 0 999 := by
        unfold f_X5_canBecome
        rw [if_neg (by decide), if_pos (by decide)]
        rfl
      rw [hcb]
      have hr : f_X6_set_28 (nI b) (nI 2) p3 0 p3 R = if f_X6_in p3 0 999 = 0 then f_X6_no 0 R else (f_X6_at (nI b) (nI 2) R, zpI R 1 (78 + 7 * b + 2) p3) := by
        unfold f_X6_set_28 f_X6_set_41 f_X6_set_47
        rw [if_neg (by decide)]
        simp only []
        rw [rBc (w := 2) hb10 (by omega)]
        rfl
      have hr2 : (if nI 2 = 1 then f_X6_set_28 (nI b) (nI 2) p3 1 p3 R else f_X6_set_28 (nI b) (nI 2) p3 0 p3 R) = f_X6_set_28 (nI b) (nI 2) p3 0 p3 R := by
        rw [if_neg (by decide)]
      rw [hr2, hr]
      by_cases q3 : f_X6_in p3 0 999 = 0
      · rw [if_pos q3, if_pos q3]
        exact eq_f0 h
      · rw [if_neg q3, if_neg q3, if_neg (by decide), if_pos (by decide)]
        exact ⟨(w5 b 2 hb (by omega)).trans (rAt2 hb10).symm, (IN_put (w := 2) (x := p3) h hw hb (by omega) (bd_2 bd ⟨(in_X6 q3).1, (in_X6 q3).2⟩)).1⟩
    | 3, _, _ =>
      have hcb : f_X5_canBecome (nI 3) p3 = f_X6_in p3 0 99 := by
        unfold f_X5_canBecome
        rw [if_neg (by decide), if_neg (by decide), if_pos (by decide)]
        rfl
      rw [hcb]
      have hr : f_X6_set_28 (nI b) (nI 3) p3 0 p3 R = if f_X6_in p3 0 99 = 0 then f_X6_no 0 R else (f_X6_at (nI b) (nI 3) R, zpI R 1 (78 + 7 * b + 3) p3) := by
        unfold f_X6_set_28 f_X6_set_41 f_X6_set_47
        rw [if_pos (by decide)]
        simp only []
        rw [rBc (w := 3) hb10 (by omega)]
        rfl
      have hr2 : (if nI 3 = 1 then f_X6_set_28 (nI b) (nI 3) p3 1 p3 R else f_X6_set_28 (nI b) (nI 3) p3 0 p3 R) = f_X6_set_28 (nI b) (nI 3) p3 0 p3 R := by
        rw [if_neg (by decide)]
      rw [hr2, hr]
      by_cases q3 : f_X6_in p3 0 99 = 0
      · rw [if_pos q3, if_pos q3]
        exact eq_f0 h
      · rw [if_neg q3, if_neg q3, if_neg (by decide), if_neg (by decide), if_pos (by decide)]
        exact ⟨(w5 b 3 hb (by omega)).trans (rAt3 hb10).symm, (IN_put (w := 3) (x := p3) h hw hb (by omega) (bd.put (by omega) rfl)).1⟩
    | 4, _, _ =>
      have hcb : f_X5_canBecome (nI 4) p3 = f_X6_in p3 0 99 := by
        unfold f_X5_canBecome
        rw [if_neg (by decide), if_neg (by decide), if_neg (by decide), if_pos (by decide)]
        rfl
      rw [hcb]
      have hr : f_X6_set_28 (nI b) (nI 4) p3 0 p3 R = if f_X6_in p3 0 99 = 0 then f_X6_no 0 R else (f_X6_at (nI b) (nI 4) R, zpI R 1 (78 + 7 * b + 4) p3) := by
        unfold f_X6_set_28 f_X6_set_41 f_X6_set_47
        rw [if_pos (by decide)]
        simp only []
        rw [rBc (w := 4) hb10 (by omega)]
        rfl
      have hr2 : (if nI 4 = 1 then f_X6_set_28 (nI b) (nI 4) p3 1 p3 R else f_X6_set_28 (nI b) (nI 4) p3 0 p3 R) = f_X6_set_28 (nI b) (nI 4) p3 0 p3 R := by
        rw [if_neg (by decide)]
      rw [hr2, hr]
      by_cases q3 : f_X6_in p3 0 99 = 0
      · rw [if_pos q3, if_pos q3]
        exact eq_f0 h
      · rw [if_neg q3, if_neg q3, if_neg (by decide), if_neg (by decide), if_neg (by decide)]
        exact ⟨(w5 b 4 hb (by omega)).trans (rAt4 hb10).symm, (IN_put (w := 4) (x := p3) h hw hb (by omega) (bd.put (by omega) rfl)).1⟩

theorem zRw.pace {L r : Nat} {C C' R R' : zM} (h : zRw L r C (R.1 1)) (k1 : C'.1 r 1 = C.1 r 1) (k2 : C'.1 r 2 = C.1 r 2) (k3 : C'.1 r 3 = R'.1 1 2) (kb : ∀ c, r < c → C'.1 c = C.1 c) (ro : ∀ k, ¬ k = 2 → R'.1 1 k = R.1 1 k) : zRw L r C' (R'.1 1) := by
  obtain ⟨h0, h1, h2, h3, h4, h5, h6, h7⟩ := h
  refine ⟨h0, k1.trans h1, (ro 0 (by omega)).trans h2, k2.trans (h3.trans (ro 1 (by omega)).symm), k3, fun b w hb hw => ?_, fun b hb => ?_, ?_⟩
  · rw [kb (r + 2 + b) (by omega)]
    unfold zB
    rw [ro _ (by omega)]
    exact h5 b w hb hw
  · have hb6 := h6 b hb
    unfold zBd zB at hb6 ⊢
    rw [ro _ (by omega), ro _ (by omega), ro _ (by omega), ro _ (by omega)]
    exact hb6
  · rw [kb (r + 12) (by omega), kb (r + 13) (by omega)]
    exact h7.cg (fun _ _ => rfl) (ro 5 (by omega)) (fun i hi => ro _ (by omega))
theorem m_pace {C R : zM} (h : zIN C R) (p1 : Int32) : zEq (f_X5_pace p1 C) (f_X6_pace p1 R) := by
  obtain ⟨L, hw⟩ := h.1.1
  have hL := hw.1
  unfold f_X5_pace f_X6_pace
  simp only []
  rw [wi_in]
  by_cases q : f_X6_in p1 (-99) 99 = 0
  · rw [if_pos q, if_pos q]
    exact eq_f0 h
  rw [if_neg q, if_neg q]
  refine ⟨hw.2.2.2.2.1, ⟨⟨L, hw.pace (zpI_off (by omega)) (zpI_off (by omega)) (by rw [zpI_at, zpI_at]) (fun c hc => zpI_ne.1 c (by omega)) (fun k hk => zpI_off (by omega))⟩, h.1.2.1.cg (fun c h1 h2 => zpI_ne.1 c (by omega)) (fun k hk => zpI_off (by omega)), h.1.2.2.cg (zpI_off (by omega)) (fun i hi => zpI_off (by omega))⟩, h.2.cg (fun c k z => by unfold oC at z; exact zpI_off (by omega)) rfl (fun c k z => by unfold oR at z; exact zpI_off (by omega)) rfl⟩
theorem m_block {C R : zM} (h : zIN C R) (p1 p2 p3 p4 : Int32) : zEq (f_X5_block p1 p2 p3 p4 C) (f_X6_block p1 p2 p3 p4 R) := by
  obtain ⟨L, hw⟩ := h.1.1
  obtain ⟨hL, w1, w2, w3, w4, w5, w6, w7⟩ := id hw
  have w5 : ∀ b w, b < L → w < 7 → C.1 (3 + b) w = zB (R.1 1) b w := w5
  unfold f_X5_block f_X6_block f_X5_block_42 f_X6_block_42
  simp only []
  rw [wi_in, wi_in, wi_in, wi_in]
  by_cases q1 : f_X6_in p1 0 5 = 0
  · rw [if_pos q1, if_pos q1]
    exact eq_f0 h
  rw [if_neg q1, if_neg q1]
  by_cases q2 : f_X6_in p2 1 999 = 0
  · rw [if_pos q2, if_pos q2]
    exact eq_f0 h
  rw [if_neg q2, if_neg q2]
  by_cases q3 : f_X6_in p3 0 999 = 0
  · rw [if_pos q3, if_pos q3]
    exact eq_f0 h
  rw [if_neg q3, if_neg q3]
  by_cases q4 : f_X6_in p4 0 99 = 0
  · rw [if_pos q4, if_pos q4]
    exact eq_f0 h
  rw [if_neg q4, if_neg q4, w1, w2]
  by_cases q5 : L < 10
  rotate_left
  · rw [if_neg (show ¬ nI L < (10 : Int32) from nI_nlt (b := 10) (by omega) (by omega)), if_pos (show nI L = (10 : Int32) from (nI_eq (b := 10) (by omega) (by omega)).mpr (by omega))]
    exact eq_f1 h
  rw [if_pos (show nI L < (10 : Int32) from nI_lt (b := 10) q5 (by omega)), if_neg (show ¬ nI L = (10 : Int32) from fun z => absurd ((nI_eq (b := 10) (by omega) (by omega)).mp z) (by omega)), zcl0 (show L < 1000 by omega), nI_1]
  have b0 : ∀ v M, (f_X6_become (nI L) 0 v M).2 = zpI M 1 (78 + 7 * L + 0) v := fun v M => rBc (w := 0) q5 (by omega)
  have b1 : ∀ v M, (f_X6_become (nI L) 1 v M).2 = zpI M 1 (78 + 7 * L + 1) v := fun v M => rBc (w := 1) q5 (by omega)
  have b2 : ∀ v M, (f_X6_become (nI L) 2 v M).2 = zpI M 1 (78 + 7 * L + 2) v := fun v M => rBc (w := 2) q5 (by omega)
  have b3 : ∀ v M, (f_X6_become (nI L) 3 v M).2 = zpI M 1 (78 + 7 * L + 3) v := fun v M => rBc (w := 3) q5 (by omega)
  rw [b0, b1, b2, b3, rBc4 q5, rBc5 q5, rBc6 q5]
  unfold f_X0_begin
  simp only []
  generalize hC' : zpI (zpI (zpI (zpI (zpI (zpI (zpI C (3 + L) 0 p1) (3 + L) 1 p2) (3 + L) 2 p3) (3 + L) 3 p4) (3 + L) 4 0) (3 + L) 5 0) (3 + L) 6 0 = C1
  generalize hR' : zpI (zpI (zpI (zpI (zpI (zpI (zpI (zpI R 1 0 (nI (L + 1))) 1 (78 + 7 * L + 0) p1) 1 (78 + 7 * L + 1) p2) 1 (78 + 7 * L + 2) p3) 1 (78 + 7 * L + 3) p4) 1 (78 + 7 * L + 4) 0) 1 (78 + 7 * L + 5) 0) 1 (78 + 7 * L + 6) 0 = R1
  have c1 : C1.1 1 1 = nI L := by rw [← hC']; simp (disch := omega) only [zpI_off, w1]
  have co : ∀ c k, ¬ (c = 3 + L ∧ k < 7) → C1.1 c k = C.1 c k := fun c k hk => by rw [← hC']; simp (disch := omega) only [zpI_off]
  have ro : ∀ k, ¬ (k = 0 ∨ (78 + 7 * L ≤ k ∧ k < 85 + 7 * L)) → R1.1 1 k = R.1 1 k := fun k hk => by rw [← hR']; simp (disch := omega) only [zpI_off]
  have roc : ∀ c, c ≠ 1 → R1.1 c = R.1 c := fun c hc => by rw [← hR', zpI_ne.1 c hc, zpI_ne.1 c hc, zpI_ne.1 c hc, zpI_ne.1 c hc, zpI_ne.1 c hc, zpI_ne.1 c hc, zpI_ne.1 c hc, zpI_ne.1 c hc]
  have r0 : R1.1 1 0 = nI (L + 1) := by rw [← hR']; simp (disch := omega) only [zpI_off, zpI_at]
  have rw7 : ∀ w, w < 7 → C1.1 (3 + L) w = zB (R1.1 1) L w := by
    intro w hw'
    unfold zB
    rw [← hR', ← hC']
    match w, hw' with
    | 0, _ => simp (disch := omega) only [zpI_off, zpI_at]
    | 1, _ => simp (disch := omega) only [zpI_off, zpI_at]
    | 2, _ => simp (disch := omega) only [zpI_off, zpI_at]
    | 3, _ => simp (disch := omega) only [zpI_off, zpI_at]
    | 4, _ => simp (disch := omega) only [zpI_off, zpI_at]
    | 5, _ => simp (disch := omega) only [zpI_off, zpI_at]
    | 6, _ => simp (disch := omega) only [zpI_off, zpI_at]
  have v0 : C1.1 (3 + L) 0 = p1 := by rw [← hC']; simp (disch := omega) only [zpI_off, zpI_at]
  have v1 : C1.1 (3 + L) 1 = p2 := by rw [← hC']; simp (disch := omega) only [zpI_off, zpI_at]
  have v2 : C1.1 (3 + L) 2 = p3 := by rw [← hC']; simp (disch := omega) only [zpI_off, zpI_at]
  have v6 : C1.1 (3 + L) 6 = 0 := by rw [← hC']; simp (disch := omega) only [zpI_off, zpI_at]
  have cl2 : C1.2 = C.2 := by rw [← hC']; rfl
  have rl2 : R1.2 = R.2 := by rw [← hR']; rfl
  clear hC' hR'
  rw [c1, nI_1]
  have zo : ∀ c k, ¬ (c = 1 ∧ k = 1) → ¬ (c = 3 + L ∧ k < 7) → (zpI C1 1 1 (nI (L + 1))).1 c k = C.1 c k := fun c k h1 h2 => (zpI_off (by omega)).trans (co c k h2)
  have zl : ∀ w, w < 7 → (zpI C1 1 1 (nI (L + 1))).1 (3 + L) w = zB (R1.1 1) L w := fun w hw' => (zpI_off (by omega)).trans (rw7 w hw')
  refine ⟨rfl, ⟨⟨L + 1, by omega, zpI_at, r0, ?_, ?_, fun b w hb hw' => ?_, fun b hb => ?_, ?_⟩, h.1.2.1.cg (fun c h1 h2 => funext fun k => zo c k (by omega) (by omega)) (fun k hk => ro k (by omega)), h.1.2.2.cg (ro 5 (by omega)) (fun i hi => ro _ (by omega))⟩, h.2.cg (fun c k z => by unfold oC at z; exact zo c k (by omega) (by omega)) cl2 (fun c k z => by unfold oR at z; rw [roc c (by omega)]) (by rw [rl2])⟩
  · rw [zo 1 2 (by omega) (by omega), ro 1 (by omega)]; exact w3
  · rw [zo 1 3 (by omega) (by omega), ro 2 (by omega)]; exact w4
  · show (zpI C1 1 1 (nI (L + 1))).1 (3 + b) w = zB (R1.1 1) b w
    by_cases z : b = L
    · subst z; exact zl w hw'
    · rw [zo _ _ (by omega) (by omega)]
      unfold zB
      rw [ro _ (by omega)]
      exact w5 b w (by omega) hw'
  · by_cases z : b = L
    · subst z
      unfold zBd
      rw [← rw7 0 (by omega), ← rw7 1 (by omega), ← rw7 2 (by omega), ← rw7 6 (by omega), v0, v1, v2, v6]
      exact ⟨in_X6 q1, in_X6 q2, in_X6 q3, by decide, by decide⟩
    · have hb6 := w6 b (by omega)
      unfold zBd zB at hb6 ⊢
      rw [ro _ (by omega), ro _ (by omega), ro _ (by omega), ro _ (by omega)]
      exact hb6
  · have e1 : (zpI C1 1 1 (nI (L + 1))).1 (1 + 12) 1 = C.1 (1 + 12) 1 := zo _ _ (by omega) (by omega)
    rw [e1]
    exact w7.cg (fun i _ => zo _ _ (by omega) (by omega)) (ro 5 (by omega)) (fun i hi => ro _ (by omega))
