/-! a round on both sides -/
def zIm (L r : Nat) (R0 C R : zM) : Prop := zRw L r C (R.1 1) ∧ zAg R0 R ∧
  (∀ b, b < L → C.1 (r + 2 + b) 7 = (f_X6_holdsOf (nI b) (zB (R0.1 1) b 6) R0).1) ∧
  (∀ b, b < L → C.1 (r + 2 + b) 9 = (f_X6_without (R.1 6 b)).toInt32 ∧ 0 ≤ C.1 (r + 2 + b) 9 ∧ C.1 (r + 2 + b) 9 ≤ 999) ∧
  (∀ b, b < L → C.1 (r + 2 + b) 10 = zbt (R.1 0 9) b) ∧
  C.1 r 5 = R.1 0 10 ∧ C.1 r 6 = R.1 0 9 ∧ C.1 r 7 = R.1 0 11
def zTh (L r b : Nat) (C : zM) (T : Int32) : Prop :=
  (zGo (C.1 (r + 2 + b) 8) (zAga (r + 2 + b) C) → T = zSg (C.1 (r + 2 + b) 8) (zMd (C.1 (r + 2 + b) 8) (f_X0_rubsBy (r + 2 + b) (C.1 (r + 2 + b) 9) C) (C.1 (r + 2 + b) 3 + (if b + 1 < L then C.1 (r + 2 + (b + 1)) 3 else 0)))) ∧
  (¬ zGo (C.1 (r + 2 + b) 8) (zAga (r + 2 + b) C) → T = 0)
theorem rubsBy_cg {c : Nat} {n : Int32} {C C' : zM} (h : C'.1 c = C.1 c) : f_X0_rubsBy c n C' = f_X0_rubsBy c n C := by
  unfold f_X0_rubsBy
  simp only [h]
theorem zTh.cg {L r b : Nat} {C C' : zM} {T : Int32} (h : zTh L r b C T) (e : C'.1 (r + 2 + b) = C.1 (r + 2 + b)) (e3 : C'.1 (r + 2 + (b + 1)) 3 = C.1 (r + 2 + (b + 1)) 3) : zTh L r b C' T := by
  unfold zTh zAga at h ⊢
  rw [rubsBy_cg e, e, e3]
  exact h
/-- at a block, what its pull is weighed against is the same -/
theorem zAga_eq {L r b : Nat} {R0 C C' R : zM} (h : zIm L r R0 C R) (hb : b < L) (e : ∀ k, k ≠ 8 → C'.1 (r + 2 + b) k = C.1 (r + 2 + b) k) : zAga (r + 2 + b) C' = zAgR b R ∧ f_X0_rubsBy (r + 2 + b) (C'.1 (r + 2 + b) 9) C' = f_X6_rubsOf (nI b) (f_X6_without (R.1 6 b)).toInt32 R ∧ 0 ≤ zAgR b R := by
  obtain ⟨hw, ha, h7, h9, h10, -, -, -⟩ := h
  obtain ⟨hL, w1, w2, w3, w4, w5, w6, w7⟩ := id hw
  have hb10 : b < 10 := by omega
  have e0 : C'.1 (r + 2 + b) 0 = zB (R.1 1) b 0 := (e 0 (by omega)).trans (w5 b 0 hb (by omega))
  have e2 : C'.1 (r + 2 + b) 2 = zB (R.1 1) b 2 := (e 2 (by omega)).trans (w5 b 2 hb (by omega))
  have e7 : C'.1 (r + 2 + b) 7 = (f_X6_holdsOf (nI b) (zB (R.1 1) b 6) R).1 := by
    rw [e 7 (by omega), h7 b hb, hold_cg hw hb ha.symm, ha.2.1 b 6 hb10 (by omega) (by omega)]
  have e9 : C'.1 (r + 2 + b) 9 = (f_X6_without (R.1 6 b)).toInt32 := (e 9 (by omega)).trans (h9 b hb).1
  have e10 : C'.1 (r + 2 + b) 10 = zbt (R.1 0 9) b := (e 10 (by omega)).trans (h10 b hb)
  have er : f_X0_rubsBy (r + 2 + b) (C'.1 (r + 2 + b) 9) C' = f_X6_rubsOf (nI b) (f_X6_without (R.1 6 b)).toInt32 R := by
    rw [e9]; exact rubs_eq hb10 e0 e2
  have hbd := w6 b hb
  have n1 := hold_nn (R := R) hb10 hbd.2.1 hbd.2.2.2
  have n2 := rubs_nn (R := R) (n := (f_X6_without (R.1 6 b)).toInt32) hb10 hbd.2.2.1 (by rw [← (h9 b hb).1]; exact (h9 b hb).2)
  refine ⟨?_, er, ?_⟩
  · unfold zAga zAgR
    rw [er, e7, e10]
    rcases zbt01 (x := R.1 0 9) (b := b) with q | q
    · rw [q, if_pos rfl, if_neg (by decide)]
    · rw [q, if_neg (by decide), if_pos rfl]
  · unfold zAgR
    split
    · exact n2
    · exact n1
theorem r2_exit {r n L : Nat} {C : zM} (h : C.1 r 1 = nI L) : f_X2_round_2 r (n + 1) (nI L) C = f_X2_round_34 r 11 0 0 C := by
  rw [f_X2_round_2, h, if_pos (Int32.le_refl _)]
theorem r2_step {r n L j : Nat} {C : zM} (h : C.1 r 1 = nI L) (hj : j < L) (hL : L ≤ 10) : f_X2_round_2 r (n + 1) (nI j) C = f_X2_round_2 r n (nI (j + 1)) (zpI C (r + 2 + j) 8 (f_X2_pullOf r (nI j) C)) := by
  rw [f_X2_round_2, h, if_neg (nI_ge hj (by omega)), nI_1, zcl0 (show j < 1000 by omega)]
theorem r4_exit {n L : Nat} {w : Int32} {R : zM} (h : R.1 1 0 = nI L) : f_X6_round_4 (n + 1) w (nI L) R = f_X6_round_33 11 w 0 R := by
  rw [f_X6_round_4, h, if_pos (Int32.le_refl _)]
theorem r4_step {n L j : Nat} {w : Int32} {R : zM} (h : R.1 1 0 = nI L) (hj : j < L) (hL : L ≤ 10) : f_X6_round_4 (n + 1) w (nI j) R = f_X6_round_4 n w (nI (j + 1)) (zpI (f_X6_stepsOf (nI j) R).2 7 j (f_X6_stepsOf (nI j) R).1) := by
  rw [f_X6_round_4, h, if_neg (nI_ge hj (by omega)), nI_1, zcl0 (show j < 1000 by omega)]
theorem zIm.c8 {L r b : Nat} {R0 C R : zM} {v : Int32} (h : zIm L r R0 C R) (hb : b < 10) : zIm L r R0 (zpI C (r + 2 + b) 8 v) R := by
  obtain ⟨hw, ha, h7, h9, h10, h5, h6, h8⟩ := h
  refine ⟨hw.sr (sr_blk hb (by omega)), ha, fun b' hb' => ?_, fun b' hb' => ?_, fun b' hb' => ?_, ?_, ?_, ?_⟩
  · rw [zpI_off (by omega)]; exact h7 b' hb'
  · rw [zpI_off (by omega)]; exact h9 b' hb'
  · rw [zpI_off (by omega)]; exact h10 b' hb'
  · rw [zpI_off (by omega)]; exact h5
  · rw [zpI_off (by omega)]; exact h6
  · rw [zpI_off (by omega)]; exact h8
theorem zIm.cR {L r : Nat} {R0 C R R' : zM} (h : zIm L r R0 C R) (e1 : R'.1 1 = R.1 1) (e0 : R'.1 0 = R.1 0) (e6 : R'.1 6 = R.1 6) : zIm L r R0 C R' := by
  obtain ⟨hw, ha, h7, h9, h10, h5, h6, h8⟩ := h
  refine ⟨by rw [e1]; exact hw, ha.row e1, h7, ?_, ?_, ?_, ?_, ?_⟩
  · rw [e6]; exact h9
  · rw [e0]; exact h10
  · rw [e0]; exact h5
  · rw [e0]; exact h6
  · rw [e0]; exact h8
theorem rnd1_step {L r j : Nat} {R0 C R : zM} (h : zIm L r R0 C R) (ht : ∀ b, b < j → zTh L r b C (R.1 7 b)) (hj : j < L) :
    zIm L r R0 (zpI C (r + 2 + j) 8 (f_X2_pullOf r (nI j) C)) (zpI (f_X6_stepsOf (nI j) R).2 7 j (f_X6_stepsOf (nI j) R).1) ∧ ∀ b, b < j + 1 → zTh L r b (zpI C (r + 2 + j) 8 (f_X2_pullOf r (nI j) C)) ((zpI (f_X6_stepsOf (nI j) R).2 7 j (f_X6_stepsOf (nI j) R).1).1 7 b) := by
  have hL := h.1.1
  have hf := f11_steps (b := nI j) (M := R)
  have hp := pull_eq h.1 hj
  refine ⟨(h.c8 (by omega)).cR ?_ ?_ ?_, fun b hb => ?_⟩
  · rw [zpI_ne.1 1 (by decide)]; exact hf.1 1 (by decide)
  · rw [zpI_ne.1 0 (by decide)]; exact hf.1 0 (by decide)
  · rw [zpI_ne.1 6 (by decide)]; exact hf.1 6 (by decide)
  · by_cases hbj : b = j
    · subst hbj
      rw [zpI_at]
      have ha := zAga_eq h hj (C' := zpI C (r + 2 + b) 8 (f_X2_pullOf r (nI b) C)) (fun k hk => zpI_off (by omega))
      have hs := st_eq (R := R) h.1.2.2.1 hL hj
      have e8 : (zpI C (r + 2 + b) 8 (f_X2_pullOf r (nI b) C)).1 (r + 2 + b) 8 = f_X6_pull (nI b) R := zpI_at.trans hp
      have e3 : (zpI C (r + 2 + b) 8 (f_X2_pullOf r (nI b) C)).1 (r + 2 + b) 3 = zB (R.1 1) b 3 := (zpI_off (by omega)).trans (h.1.2.2.2.2.2.1 b 3 hj (by omega))
      have e4 : (if b + 1 < L then (zpI C (r + 2 + b) 8 (f_X2_pullOf r (nI b) C)).1 (r + 2 + (b + 1)) 3 else 0) = (if b + 1 < L then zB (R.1 1) (b + 1) 3 else 0) := by
        by_cases q : b + 1 < L
        · rw [if_pos q, if_pos q, zpI_off (by omega)]; exact h.1.2.2.2.2.2.1 (b + 1) 3 q (by omega)
        · rw [if_neg q, if_neg q]
      unfold zTh
      rw [e8, ha.1, ha.2.1, e3, e4]
      exact hs
    · rw [zpI_off (by omega), hf.1 7 (by decide)]
      exact (ht b (by omega)).cg (zpI_ne.1 _ (by omega)) (zpI_off (by omega))
