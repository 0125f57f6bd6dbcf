/-! a whole tick -/
theorem t30_exit {n r L : Nat} {C : zM} (h : C.1 r 1 = nI L) : f_X2_tick_30 r (n + 1) (nI L) C = f_X2_tick_71 r 41 1 0 C := by
  rw [f_X2_tick_30, h, if_pos (Int32.le_refl _)]
theorem t30_step {n r L j : Nat} {C : zM} (h : C.1 r 1 = nI L) (hj : j < L) (hL : L ≤ 10) : f_X2_tick_30 r (n + 1) (nI j) C = f_X2_tick_30 r n (nI (j + 1)) (f_X0_startTick (r + 2 + j) (f_X2_holdsOf r (nI j) (C.1 (r + 2 + j) 6) C).1 (f_X2_holdsOf r (nI j) (C.1 (r + 2 + j) 6) C).2) := by
  rw [f_X2_tick_30, h, if_neg (nI_ge hj (by omega)), nI_1, zcl0 (show j < 1000 by omega)]
theorem t32_exit {n L : Nat} {R : zM} (h : R.1 1 0 = nI L) : f_X6_tick_32 (n + 1) (nI L) R = f_X6_tick_59 41 0 1 R := by
  rw [f_X6_tick_32, h, if_pos (Int32.le_refl _)]
theorem t32_step {n L j : Nat} {R : zM} (h : R.1 1 0 = nI L) (hj : j < L) (hL : L ≤ 10) : f_X6_tick_32 (n + 1) (nI j) R = f_X6_tick_32 n (nI (j + 1)) (zpI R 6 j 0) := by
  rw [f_X6_tick_32, h, if_neg (nI_ge hj (by omega)), nI_1, zcl0 (show j < 1000 by omega)]
theorem tick_fin {L r : Nat} {C0 Rz R0 C R : zM} {v : Int32} (h : zIm L r R0 C R) (hc : zFc r C0 C) (hr : zRf Rz R) : zTq L r C0 Rz R0 v (f_X2_tick_92 r v C) (f_X6_tick_80 v R) := by
  have e80 : f_X6_tick_80 v R = f_X6_tick_100 11 0 (zpI R 1 4 (R.1 1 4 + (if v = 0 then 0 else 1))) := by
    have e4 : (4 : Int32).toNatClampNeg = 4 := by decide
    unfold f_X6_tick_80 f_X6_tick_96
    simp only [e4]
    by_cases q : v = 0
    · rw [if_pos q, if_pos q]
    · rw [if_neg q, if_neg q]
  rw [e80]
  show zTq L r C0 Rz R0 v (f_X2_tick_99 r 11 0 (zpI C r 8 v)) _
  obtain ⟨hw, ha, h7, h9, h10, h5, h6, h8⟩ := h
  refine tick_end ((hw.sr (sr_row (by omega))).row (fun k hk => zpI_off (by omega))) (fun b hb => ?_) ?_ ?_ ?_ zpI_at (hc.tr fc_row) (hr.tr (rf_put (by omega))) R0 (fun k hk => ?_)
  · rw [zpI_off (by omega), zpI_ne.1 0 (by omega)]; exact h10 b hb
  · rw [zpI_off (by omega), zpI_ne.1 0 (by omega)]; exact h5
  · rw [zpI_off (by omega), zpI_ne.1 0 (by omega)]; exact h6
  · rw [zpI_off (by omega), zpI_ne.1 0 (by omega)]; exact h8
  · have e4 := ha.1 4 (by omega)
    by_cases q : k = 4
    · subst q
      rw [zpI_at, if_pos rfl, e4]
    · rw [zpI_off (by omega), if_neg q]
      rcases hk with hk | hk
      · exact ha.1 k hk
      · exact ha.2.2 k hk
theorem t71_step {r n j : Nat} {v : Int32} {C : zM} (hj : j < 40) (hv : ¬ v = 0) : f_X2_tick_71 r (n + 1) v (nI j) C = f_X2_tick_71 r n (f_X2_round r C).1 (nI (j + 1)) (f_X2_round r C).2 := by
  rw [f_X2_tick_71, if_neg (show ¬ (40 : Int32) ≤ nI j from nI_ge (b := 40) hj (by omega)), if_neg hv, nI_1]
theorem t59_step {n j : Nat} {v : Int32} {R : zM} (hj : j < 40) (hv : ¬ v = 0) : f_X6_tick_59 (n + 1) (nI j) v R = f_X6_tick_59 n (nI (j + 1)) (f_X6_round R).1 (f_X6_round R).2 := by
  rw [f_X6_tick_59, if_neg hv, if_neg (show ¬ (40 : Int32) ≤ nI j from nI_ge (b := 40) hj (by omega)), nI_1]
theorem t71_exit {r n j : Nat} {v : Int32} {C : zM} (h : 40 ≤ j ∨ v = 0) (hj : j ≤ 40) : f_X2_tick_71 r (n + 1) v (nI j) C = f_X2_tick_92 r v C := by
  rw [f_X2_tick_71]
  by_cases q : 40 ≤ j
  · rw [if_pos (show (40 : Int32) ≤ nI j from nI_le (a := 40) q (by omega))]
  · rw [if_neg (show ¬ (40 : Int32) ≤ nI j from nI_ge (b := 40) (by omega) (by omega))]
    rcases h with z | z
    · exact absurd z q
    · rw [if_pos z]
theorem t59_exit {n j : Nat} {v : Int32} {R : zM} (h : 40 ≤ j ∨ v = 0) (hj : j ≤ 40) : f_X6_tick_59 (n + 1) (nI j) v R = f_X6_tick_80 v R := by
  rw [f_X6_tick_59]
  by_cases q : v = 0
  · rw [if_pos q]
  · rw [if_neg q]
    rcases h with z | z
    · rw [if_pos (show (40 : Int32) ≤ nI j from nI_le (a := 40) z (by omega))]
    · exact absurd z q
theorem tick_mid {L r : Nat} {C0 Rz R0 C R : zM} (h : zIm L r R0 C R) (hc : zFc r C0 C) (hr : zRf Rz R) : ∃ v, zTq L r C0 Rz R0 v (f_X2_tick_71 r 41 1 0 C) (f_X6_tick_59 41 0 1 R) := by
  exact zlock2 (L := 40) (P := fun j (a b : Int32 × zM) => a.1 = b.1 ∧ zIm L r R0 a.2 b.2 ∧ zFc r C0 a.2 ∧ zRf Rz b.2) (Q := fun x y => ∃ v, zTq L r C0 Rz R0 v x y)
    (F := fun n j (a : Int32 × zM) => f_X2_tick_71 r n a.1 (nI j) a.2) (G := fun n j (b : Int32 × zM) => f_X6_tick_59 n (nI j) b.1 b.2)
    (by
      intro n m j a b hj hP
      obtain ⟨p1, p2, p3, p4⟩ := hP
      by_cases q : 40 ≤ j ∨ a.1 = 0
      · left
        refine ⟨a.1, ?_⟩
        show zTq L r C0 Rz R0 a.1 (f_X2_tick_71 r (n + 1) a.1 (nI j) a.2) (f_X6_tick_59 (m + 1) (nI j) b.1 b.2)
        rw [t71_exit q hj, t59_exit (by rw [← p1]; exact q) hj, ← p1]
        exact tick_fin p2 p3 p4
      · right
        have q1 : j < 40 := by omega
        have q2 : ¬ a.1 = 0 := fun z => q (Or.inr z)
        have he := round_eq p2
        exact ⟨q1, f_X2_round r a.2, f_X6_round b.2, ⟨he.1, he.2.1, p3.tr he.2.2.1, p4.tr he.2.2.2⟩, t71_step q1 q2, t59_step q1 (by rw [← p1]; exact q2)⟩)
    (40 - 0) 41 41 0 (1, C) (1, R) rfl (by omega) (by omega) (by omega) ⟨rfl, h, hc, hr⟩
theorem zbt0 {b : Nat} (h : b < 10) : zbt 0 b = 0 := by
  have key : ∀ b, b < 10 → zbt 0 b = 0 := by decide
  exact key b h
theorem tick_beg {L r : Nat} {C0 Rz R0 C R : zM} (hz : zRow r) (hw : zRw L r C (R.1 1)) (e1 : R.1 1 = R0.1 1) (c5 : C.1 r 5 = 0 ∧ C.1 r 6 = 0 ∧ C.1 r 7 = 0) (r9 : R.1 0 9 = 0 ∧ R.1 0 10 = 0 ∧ R.1 0 11 = 0) (hc : zFc r C0 C) (hr : zRf Rz R) : ∃ v, zTq L r C0 Rz R0 v (f_X2_tick_30 r 11 0 C) (f_X6_tick_32 11 0 R) := by
  have hL := hw.1
  have hw0 : zRw L r C (R0.1 1) := by rw [← e1]; exact hw
  exact zlock (L := L) (P := fun j (a b : zM) => zRw L r a (b.1 1) ∧ b.1 1 = R0.1 1 ∧ (∀ q, q < j → a.1 (r + 2 + q) 7 = (f_X6_holdsOf (nI q) (zB (R0.1 1) q 6) R0).1 ∧ a.1 (r + 2 + q) 9 = 0 ∧ a.1 (r + 2 + q) 10 = 0 ∧ b.1 6 q = 0) ∧ (a.1 r 5 = 0 ∧ a.1 r 6 = 0 ∧ a.1 r 7 = 0) ∧ (b.1 0 9 = 0 ∧ b.1 0 10 = 0 ∧ b.1 0 11 = 0) ∧ zFc r C0 a ∧ zRf Rz b)
    (Q := fun x y => ∃ v, zTq L r C0 Rz R0 v x y) (F := fun n j (a : zM) => f_X2_tick_30 r n (nI j) a) (G := fun n j (b : zM) => f_X6_tick_32 n (nI j) b)
    (by
      intro n m a b hP
      obtain ⟨p1, p2, p3, p4, p5, p6, p7⟩ := hP
      show ∃ v, zTq L r C0 Rz R0 v (f_X2_tick_30 r (n + 1) (nI L) a) (f_X6_tick_32 (m + 1) (nI L) b)
      rw [t30_exit p1.2.1, t32_exit p1.2.2.1]
      refine tick_mid ⟨p1, zAg.rf.row p2, fun q hq => (p3 q hq).1, fun q hq => ?_, fun q hq => ?_, ?_, ?_, ?_⟩ p6 p7
      · rw [(p3 q hq).2.1, (p3 q hq).2.2.2]
        exact ⟨by decide, by decide, by decide⟩
      · rw [(p3 q hq).2.2.1, p5.1, zbt0 (by omega)]
      · rw [p4.1, p5.2.1]
      · rw [p4.2.1, p5.1]
      · rw [p4.2.2, p5.2.2])
    (by
      intro n m j a b hj hP
      obtain ⟨p1, p2, p3, p4, p5, p6, p7⟩ := hP
      have k6 := p1.2.2.2.2.2.1 j 6 hj (by omega)
      have hh := hold_eq (s := a.1 (r + 2 + j) 6) (R := b) hz p1 hj
      have hg : (f_X6_holdsOf (nI j) (a.1 (r + 2 + j) 6) b).1 = (f_X6_holdsOf (nI j) (zB (R0.1 1) j 6) R0).1 := by
        rw [k6, p2]
        exact hold_cg hw0 hj (zAg.rf.row p2)
      have ht := tg_hold (r := r) (b := nI j) (s := a.1 (r + 2 + j) 6) (M := a)
      rw [hg] at hh
      generalize hX : f_X2_holdsOf r (nI j) (a.1 (r + 2 + j) 6) a = X at hh ht
      have hs : f_X0_startTick (r + 2 + j) X.1 X.2 = zpI (zpI (zpI X.2 (r + 2 + j) 7 X.1) (r + 2 + j) 9 0) (r + 2 + j) 10 0 := rfl
      have ho : ∀ c k, c ≠ r + 12 → ¬ (c = r + 2 + j ∧ (k = 7 ∨ k = 9 ∨ k = 10)) → (f_X0_startTick (r + 2 + j) X.1 X.2).1 c k = a.1 c k := fun c k h1 h2 => by
        rw [hs, zpI_off (by omega), zpI_off (by omega), zpI_off (by omega), ht.1 c h1]
      refine ⟨f_X0_startTick (r + 2 + j) X.1 X.2, zpI b 6 j 0, ⟨?_, ?_, fun q hq => ?_, ?_, ?_, ?_, p7.tr (rf_put (by omega))⟩, ?_, t32_step p1.2.2.1 hj hL⟩
      · rw [zpI_ne.1 1 (by omega), hs]
        exact p1.sr ((sr_tg ht).tr ((sr_blk (by omega) (by omega)).tr ((sr_blk (by omega) (by omega)).tr (sr_blk (by omega) (by omega)))))
      · exact (zpI_ne.1 1 (by omega)).trans p2
      · by_cases z : q = j
        · subst z
          rw [hs]
          refine ⟨?_, ?_, zpI_at, zpI_at⟩
          · rw [zpI_off (by omega), zpI_off (by omega), zpI_at, hh]
          · rw [zpI_off (by omega), zpI_at]
        · have p3q := p3 q (by omega)
          rw [ho _ _ (by omega) (by omega), ho _ _ (by omega) (by omega), ho _ _ (by omega) (by omega), zpI_off (by omega)]
          exact p3q
      · rw [ho _ _ (by omega) (by omega), ho _ _ (by omega) (by omega), ho _ _ (by omega) (by omega)]; exact p4
      · rw [zpI_ne.1 0 (by omega)]; exact p5
      · rw [hs]
        exact p6.tr ((fc_tg ht).tr ((fc_blk (by omega)).tr ((fc_blk (by omega)).tr (fc_blk (by omega)))))
      · show f_X2_tick_30 r (n + 1) (nI j) a = _
        rw [t30_step p1.2.1 hj hL, hX])
    (L - 0) 11 11 0 C R rfl (Nat.zero_le L) (by omega) (by omega) ⟨hw, e1, fun q hq => absurd hq (Nat.not_lt_zero q), c5, r9, hc, hr⟩
/-- a tick of a row of the class, and a tick of the reference -/
theorem tick_eq {L r : Nat} {C R : zM} (hz : zRow r) (hw : zRw L r C (R.1 1)) : ∃ v, zTq L r C R R v (f_X2_tick r C) (f_X6_tick R) := by
  have hc2 := hw.2.2.2.1
  have hc3 := hw.2.2.2.2.1
  generalize hC1 : zpI (zpI (zpI (zpI C r 2 (C.1 r 2 + C.1 r 3)) r 5 0) r 6 0) r 7 0 = C1
  generalize hR1 : zpI (zpI (zpI (zpI R 1 1 (R.1 1 1 + R.1 1 2)) 0 9 0) 0 10 0) 0 11 0 = R1
  have eC : f_X2_tick r C = f_X2_tick_30 r 11 0 C1 := by rw [← hC1]; rfl
  have eR : f_X6_tick R = f_X6_tick_32 11 0 R1 := by rw [← hR1]; rfl
  have r1 : ∀ k, k ≠ 1 → R1.1 1 k = R.1 1 k := fun k hk => by rw [← hR1, zpI_off (by omega), zpI_off (by omega), zpI_off (by omega), zpI_off (by omega)]
  have r11 : R1.1 1 1 = R.1 1 1 + R.1 1 2 := by rw [← hR1, zpI_off (by omega), zpI_off (by omega), zpI_off (by omega), zpI_at]
  have c1 : ∀ c k, ¬ (c = r ∧ (k = 2 ∨ k = 5 ∨ k = 6 ∨ k = 7)) → C1.1 c k = C.1 c k := fun c k hk => by rw [← hC1, zpI_off (by omega), zpI_off (by omega), zpI_off (by omega), zpI_off (by omega)]
  have c2 : C1.1 r 2 = C.1 r 2 + C.1 r 3 := by rw [← hC1, zpI_off (by omega), zpI_off (by omega), zpI_off (by omega), zpI_at]
  have hw1 : zRw L r C1 (R1.1 1) := by
    obtain ⟨h0, h1, h2, h3, h4, h5, h6, h7⟩ := id hw
    refine ⟨h0, (c1 _ _ (by omega)).trans h1, (r1 0 (by omega)).trans h2, ?_, ?_, fun b w hb hw => ?_, fun b hb => ?_, ?_⟩
    · rw [c2, r11, h3, h4]
    · rw [c1 _ _ (by omega), r1 2 (by omega)]; exact h4
    · rw [c1 _ _ (by omega)]
      unfold zB
      rw [r1 _ (by omega)]
      exact h5 b w hb hw
    · have hb6 := h6 b hb
      unfold zBd zB at hb6 ⊢
      rw [r1 _ (by omega), r1 _ (by omega), r1 _ (by omega), r1 _ (by omega)]
      exact hb6
    · rw [c1 _ _ (by omega)]
      exact h7.cg (fun i _ => c1 _ _ (by omega)) (r1 5 (by omega)) (fun i hi => r1 _ (by omega))
  have hfc : zFc r C C1 := by rw [← hC1]; exact fc_row.tr (fc_row.tr (fc_row.tr fc_row))
  have hrf : zRf R R1 := by rw [← hR1]; exact (rf_put (by omega)).tr ((rf_put0 (by omega)).tr ((rf_put0 (by omega)).tr (rf_put0 (by omega))))
  obtain ⟨v, t1, t2, t3, t4, t5, t6, t7, t8⟩ := tick_beg (C0 := C) (Rz := R) (R0 := R1) hz hw1 rfl
    (by rw [← hC1]; exact ⟨(zpI_off (by omega)).trans ((zpI_off (by omega)).trans zpI_at), (zpI_off (by omega)).trans zpI_at, zpI_at⟩)
    (by rw [← hR1]; exact ⟨(zpI_off (by omega)).trans ((zpI_off (by omega)).trans zpI_at), (zpI_off (by omega)).trans zpI_at, zpI_at⟩) hfc hrf
  rw [eC, eR]
  refine ⟨v, t1, t2, t3, t4, t5, ?_, t7, t8⟩
  obtain ⟨b1, b2, b3, b4, b5, b6, b7⟩ := t6
  refine ⟨by rw [b1, r1 3 (by omega)], by rw [b2, r1 4 (by omega)], by rw [b3, r1 13 (by omega)], fun i hi => by rw [b4 i hi, r1 _ (by omega)], fun i hi => by rw [b5 i hi, r1 _ (by omega)], fun i hi => by rw [b6 i hi, r1 _ (by omega)], fun i hi => by rw [b7 i hi, r1 _ (by omega)]⟩
