/-! the calls of blocks -/
theorem IN_put {C R : zM} {L b w : Nat} {x : Int32} (h : zIN C R) (hw : zRw L 1 C (R.1 1)) (hb : b < L) (hw7 : w < 7) (bd : zBd ((zpI R 1 (78 + 7 * b + w) x).1 1) b) : zIN (zpI C (3 + b) w x) (zpI R 1 (78 + 7 * b + w) x) ∧ zRw L 1 (zpI C (3 + b) w x) ((zpI R 1 (78 + 7 * b + w) x).1 1) := by
  have hL := hw.1
  have key : zRw L 1 (zpI C (3 + b) w x) ((zpI R 1 (78 + 7 * b + w) x).1 1) := hw.put hb hw7 (zpI_off (by omega)) (zpI_off (by omega)) (zpI_off (by omega)) (fun b' w' h1 h2 hn => zpI_off (by omega)) (by show (zpI C (3 + b) w x).1 (3 + b) w = x; exact zpI_at) (zpI_off (by omega)) (zpI_ne.1 _ (by omega)) rfl bd
  refine ⟨⟨⟨⟨L, key⟩, h.1.2.1.cg (fun c h1 h2 => zpI_ne.1 c (by omega)) (fun k hk => zpI_off (by omega)), h.1.2.2.cg (zpI_off (by omega)) (fun i hi => zpI_off (by omega))⟩, h.2.cg (fun c k z => by unfold oC at z; exact zpI_off (by omega)) rfl (fun c k z => by unfold oR at z; exact zpI_off (by omega)) rfl⟩, key⟩
theorem m_of {C R : zM} (h : zIN C R) (p1 p2 : Int32) : zEq (f_X5_of p1 p2 C) (f_X6_of p1 p2 R) := by
  obtain ⟨L, hw⟩ := h.1.1
  obtain ⟨hL, w1, w2, w3, w4, w5, w6, w7⟩ := id hw
  have w5 : ∀ b w, b < L → w < 7 → C.1 (3 + b) w = zB (R.1 1) b w := w5
  unfold f_X5_of f_X6_of
  simp only []
  rw [has_eq w1 w2 hL]
  by_cases q : f_X6_isBlock p1 R = 0
  · rw [if_pos q, if_pos q]
    exact eq_f0 h
  rw [if_neg q, if_neg q]
  obtain ⟨b, hb, rfl⟩ := has_b w2 hL q
  have hb10 : b < 10 := by omega
  rw [zcl0 (show b < 1000 by omega)]
  by_cases q8 : f_X6_in p2 0 8 = 0
  · rw [if_pos q8]
    have hn : ∀ k : Int32, 0 ≤ k → k ≤ 8 → ¬ p2 = k := fun k k1 k2 z => in_of (v := p2) (a := 0) (b := 8) (by rw [z]; exact k1) (by rw [z]; exact k2) q8
    rw [if_neg (hn 0 (by decide) (by decide)), if_neg (hn 1 (by decide) (by decide)), if_neg (hn 2 (by decide) (by decide)), if_neg (hn 3 (by decide) (by decide)), if_neg (hn 4 (by decide) (by decide)), if_neg (hn 5 (by decide) (by decide)), if_neg (hn 6 (by decide) (by decide)), if_neg (hn 7 (by decide) (by decide)), if_neg (hn 8 (by decide) (by decide))]
    exact eq_f0 h
  · rw [if_neg q8]
    obtain ⟨j, hj, rfl⟩ := in_nI (N := 8) (by omega) q8
    match j, hj with
    | 0, _ =>
      rw [if_pos (by decide), if_neg (by decide), if_neg (by decide)]
      exact ⟨(w5 b 0 hb (by omega)).trans (rAt0 hb10).symm, h⟩
    | 1, _ =>
      rw [if_neg (by decide), if_pos (by decide), if_neg (by decide), if_neg (by decide)]
      exact ⟨(w5 b 1 hb (by omega)).trans (rAt1 hb10).symm, h⟩
    | 2, _ =>
      rw [if_neg (by decide), if_neg (by decide), if_pos (by decide), if_neg (by decide), if_neg (by decide)]
      exact ⟨(w5 b 2 hb (by omega)).trans (rAt2 hb10).symm, h⟩
    | 3, _ =>
      rw [if_neg (by decide), if_neg (by decide), if_neg (by decide), if_pos (by decide), if_neg (by decide), if_neg (by decide)]
      exact ⟨(w5 b 3 hb (by omega)).trans (rAt3 hb10).symm, h⟩
    | 4, _ =>
      rw [if_neg (by decide), if_neg (by decide), if_neg (by decide), if_neg (by decide), if_pos (by decide), if_neg (by decide), if_neg (by decide)]
      exact ⟨(w5 b 4 hb (by omega)).trans (rAt4 hb10).symm, h⟩
    | 5, _ =>
      rw [if_neg (by decide), if_neg (by decide), if_neg (by decide), if_neg (by decide), if_neg (by decide), if_pos (by decide), if_neg (by decide), if_neg (by decide)]
      exact ⟨(w5 b 5 hb (by omega)).trans (rAt5 hb10).symm, h⟩
    | 6, _ =>
      rw [if_neg (by decide), if_neg (by decide), if_neg (by decide), if_neg (by decide), if_neg (by decide), if_neg (by decide), if_pos (by decide), if_neg (by decide), if_neg (by decide)]
      exact ⟨(w5 b 6 hb (by omega)).trans (rAt6 hb10).symm, h⟩
    | 7, _ =>
      rw [if_neg (by decide), if_neg (by decide), if_neg (by decide), if_neg (by decide), if_neg (by decide), if_neg (by decide), if_neg (by decide), if_pos (by decide), if_pos (by decide)]
      exact ⟨pull_eq hw hb, h⟩
    | 8, _ =>
      rw [if_neg (by decide), if_neg (by decide), if_neg (by decide), if_neg (by decide), if_neg (by decide), if_neg (by decide), if_neg (by decide), if_neg (by decide), if_pos (by decide), if_neg (by decide), if_pos (by decide), rAt6 hb10, w5 b 6 hb (by omega)]
      exact ⟨hold_eq zRow1 hw hb, IN_tg h (tg_hold (r := 1)) f11_hold⟩

theorem m_holds {C R : zM} (h : zIN C R) (p1 p2 : Int32) : zEq (f_X5_holds p1 p2 C) (f_X6_holds p1 p2 R) := by
  obtain ⟨L, hw⟩ := h.1.1
  unfold f_X5_holds f_X6_holds f_X5_holds_22 f_X6_holds_28
  simp only []
  rw [has_eq hw.2.1 hw.2.2.1 hw.1, wi_in]
  by_cases q : f_X6_isBlock p1 R = 0
  · rw [if_pos q, if_pos q]
    exact eq_f0 h
  rw [if_neg q, if_neg q]
  by_cases q2 : f_X6_in p2 0 999 = 0
  · rw [if_pos q2, if_pos q2]
    exact eq_f0 h
  rw [if_neg q2, if_neg q2]
  obtain ⟨b, hb, rfl⟩ := has_b hw.2.2.1 hw.1 q
  exact ⟨hold_eq zRow1 hw hb, IN_tg h (tg_hold (r := 1)) f11_hold⟩
theorem m_rubs {C R : zM} (h : zIN C R) (p1 p2 : Int32) : zEq (f_X5_rubs p1 p2 C) (f_X6_rubs p1 p2 R) := by
  obtain ⟨L, hw⟩ := h.1.1
  have hL := hw.1
  unfold f_X5_rubs f_X6_rubs f_X5_rubs_22 f_X6_rubs_28
  simp only []
  rw [has_eq hw.2.1 hw.2.2.1 hw.1, wi_in]
  by_cases q : f_X6_isBlock p1 R = 0
  · rw [if_pos q, if_pos q]
    exact eq_f0 h
  rw [if_neg q, if_neg q]
  by_cases q2 : f_X6_in p2 0 999 = 0
  · rw [if_pos q2, if_pos q2]
    exact eq_f0 h
  rw [if_neg q2, if_neg q2]
  obtain ⟨b, hb, rfl⟩ := has_b hw.2.2.1 hw.1 q
  rw [zcl0 (show b < 1000 by omega)]
  exact ⟨rubs_eq (by omega) (hw.2.2.2.2.2.1 b 0 hb (by omega)) (hw.2.2.2.2.2.1 b 2 hb (by omega)), h⟩
theorem under_eq {a b : Nat} {M : zM} (ha : a ≤ 5) (hb : b ≤ 5) : (f_X5_isOf (nI a) (nI b) M = 0) ↔ (f_X6_isUnder (nI a) (nI b) = 0) := by
  have e : ∀ p0 p1, f_X5_isOf p0 p1 M = f_X5_isOf p0 p1 ((fun _ _ => 0), (fun _ _ => 0)) := by
    intro p0 p1
    have k : ∀ n v w, f_X5_isOf_4 p0 p1 M n v w = f_X5_isOf_4 p0 p1 ((fun _ _ => 0), (fun _ _ => 0)) n v w := by
      intro n
      induction n with
      | zero => intro v w; rfl
      | succ n ih =>
        intro v w
        unfold f_X5_isOf_4
        simp only [ih]
    exact k _ _ _
  have key : ∀ a, a ≤ 5 → ∀ b, b ≤ 5 → ((f_X5_isOf (nI a) (nI b) ((fun _ _ => 0), (fun _ _ => 0)) = 0) ↔ (f_X6_isUnder (nI a) (nI b) = 0)) := by decide +kernel
  rw [e]
  exact key a ha b hb
theorem m_as {C R : zM} (h : zIN C R) (p1 p2 : Int32) : zEq (f_X5_as p1 p2 C) (f_X6_as p1 p2 R) := by
  obtain ⟨L, hw⟩ := h.1.1
  have hL := hw.1
  have w5 : ∀ b w, b < L → w < 7 → C.1 (3 + b) w = zB (R.1 1) b w := hw.2.2.2.2.2.1
  unfold f_X5_as f_X6_as f_X5_as_20 f_X6_as_17
  simp only []
  rw [has_eq hw.2.1 hw.2.2.1 hw.1, wi_in]
  by_cases q : f_X6_isBlock p1 R = 0
  · rw [if_pos q, if_pos q]
    exact eq_f0 h
  rw [if_neg q, if_neg q]
  by_cases q2 : f_X6_in p2 0 5 = 0
  · rw [if_pos q2, if_pos q2]
    exact eq_f0 h
  rw [if_neg q2, if_neg q2]
  obtain ⟨b, hb, rfl⟩ := has_b hw.2.2.1 hw.1 q
  have hb10 : b < 10 := by omega
  obtain ⟨j, hj, rfl⟩ := in_nI (N := 5) (by omega) q2
  have bd := (hw.2.2.2.2.2.2.1 b hb).1
  obtain ⟨a, ha, ea⟩ := nI_of2 (x := zB (R.1 1) b 0) (M := 5) (n := 5) (by decide) (Int32.not_lt.mpr bd.1) bd.2
  rw [zcl0 (show b < 1000 by omega), rAt0 hb10, rAt6 hb10, w5 b 0 hb (by omega), w5 b 6 hb (by omega), ea]
  have hu := under_eq (M := C) ha hj
  by_cases q3 : f_X6_isUnder (nI a) (nI j) = 0
  · rw [if_pos (hu.mpr q3), if_pos q3]
    exact eq_f2 h
  · rw [if_neg (fun z => q3 (hu.mp z)), if_neg q3]
    exact ⟨hold_eq zRow1 hw hb, IN_tg h (tg_hold (r := 1)) f11_hold⟩
theorem m_push {C R : zM} (h : zIN C R) (p1 p2 : Int32) : zEq (f_X5_push p1 p2 C) (f_X6_push p1 p2 R) := by
  obtain ⟨L, hw⟩ := h.1.1
  have hL := hw.1
  have w5 : ∀ b w, b < L → w < 7 → C.1 (3 + b) w = zB (R.1 1) b w := hw.2.2.2.2.2.1
  unfold f_X5_push f_X6_push f_X5_push_24 f_X6_push_21
  simp only []
  rw [has_eq hw.2.1 hw.2.2.1 hw.1, wi_in]
  by_cases q : f_X6_isBlock p1 R = 0
  · rw [if_pos q, if_pos q]
    exact eq_f0 h
  rw [if_neg q, if_neg q]
  by_cases q2 : f_X6_in p2 (-9999) 9999 = 0
  · rw [if_pos q2, if_pos q2]
    exact eq_f0 h
  rw [if_neg q2, if_neg q2]
  obtain ⟨b, hb, rfl⟩ := has_b hw.2.2.1 hw.1 q
  have hb10 : b < 10 := by omega
  have bd := hw.2.2.2.2.2.2.1 b hb
  rw [zcl0 (show b < 1000 by omega), rAt5 hb10, rBc5 hb10, rBc6 hb10, rAt5 hb10, w5 b 5 hb (by omega)]
  generalize zB (R.1 1) b 5 + p2 = x
  obtain ⟨i1, i2⟩ := IN_put (w := 5) (x := x) h hw hb (by omega) (bd.put (by omega) rfl)
  obtain ⟨i3, i4⟩ := IN_put (w := 6) (x := 0) i1 i2 hb (by omega) ((i2.2.2.2.2.2.2.1 b hb).put6 ⟨by decide, by decide⟩ rfl)
  refine ⟨?_, i3⟩
  show (zpI (zpI C (3 + b) 5 x) (3 + b) 6 0).1 (3 + b) 5 = zB ((zpI (zpI R 1 (78 + 7 * b + 5) x) 1 (78 + 7 * b + 6) 0).1 1) b 5
  exact i4.2.2.2.2.2.1 b 5 hb (by omega)
theorem m_oil {C R : zM} (h : zIN C R) (p1 p2 : Int32) : zEq (f_X5_oil p1 p2 C) (f_X6_oil p1 p2 R) := by
  obtain ⟨L, hw⟩ := h.1.1
  have hL := hw.1
  have w5 : ∀ b w, b < L → w < 7 → C.1 (3 + b) w = zB (R.1 1) b w := hw.2.2.2.2.2.1
  unfold f_X5_oil f_X6_oil f_X5_oil_21 f_X6_oil_18
  simp only []
  rw [has_eq hw.2.1 hw.2.2.1 hw.1, wi_in]
  by_cases q : f_X6_isBlock p1 R = 0
  · rw [if_pos q, if_pos q]
    exact eq_f0 h
  rw [if_neg q, if_neg q]
  by_cases q2 : f_X6_in p2 1 99 = 0
  · rw [if_pos q2, if_pos q2]
    exact eq_f0 h
  rw [if_neg q2, if_neg q2]
  obtain ⟨b, hb, rfl⟩ := has_b hw.2.2.1 hw.1 q
  have hb10 : b < 10 := by omega
  have bd := hw.2.2.2.2.2.2.1 b hb
  rw [zcl0 (show b < 1000 by omega), rAt4 hb10, rBc4 hb10, rAt4 hb10, w5 b 4 hb (by omega), zmn2]
  generalize f_X6_lesser 99 (zB (R.1 1) b 4 + p2) = x
  obtain ⟨i1, i2⟩ := IN_put (w := 4) (x := x) h hw hb (by omega) (bd.put (by omega) rfl)
  exact ⟨i2.2.2.2.2.2.1 b 4 hb (by omega), i1⟩
