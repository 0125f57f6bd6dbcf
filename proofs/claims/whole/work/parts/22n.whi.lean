/-! which: the kinds as one of which a block would give a row of sizes -/
theorem bd_0 {M : zM} {b k : Nat} (h : zBd (M.1 1) b) (hk : k ≤ 5) : zBd ((zpI M 1 (78 + 7 * b + 0) (nI k)).1 1) b := by
  unfold zBd at h ⊢
  rw [zB_same, zB_ne (by omega) (by omega) (by omega), zB_ne (by omega) (by omega) (by omega), zB_ne (by omega) (by omega) (by omega)]
  exact ⟨⟨nI_pos' (by omega), nI_le (b := 5) hk (by omega)⟩, h.2.1, h.2.2.1, h.2.2.2⟩
/-- what the trials for a kind end with: the same flag, and the row put back -/
def zWq (C R : zM) (x : Int32 × zM) (y : Int32 × zM) : Prop := x.1 = y.1 ∧ zIN x.2 y.2 ∧ (∀ c k, ¬ (29 ≤ c ∧ c < 43) → x.2.1 c k = C.1 c k) ∧ x.2.2 = C.2 ∧ (∀ k, k < 448 → y.2.1 1 k = R.1 1 k) ∧ (∀ c, (c = 12 ∨ c = 13) → y.2.1 c = R.1 c) ∧ y.2.2 = R.2
theorem whi_in {L s n : Nat} {C R a b : zM} {p1 p2 v4 v5 : Int32} {k68 : Nat → Int32 → Int32 → zM → Int32 × zM} (hs : s < 4) (hn : n ≤ 40) (h : zIN C R) (h2 : C.1 (56 + 2 * s) 2 = nI n) (ht : zTr L C R a b) :
    ∃ (x : Int32) (A : zM), f_X5_which_106 p1 p2 k68 41 (56 + 2 * s) v4 v5 1 0 a = f_X5_which_159 p1 p2 k68 (56 + 2 * s) v4 v5 x A ∧ zWq C R (x, A) (f_X6_gives_32 p1 v5 (nI s) 41 (nI n) 1 0 b) := by
  obtain ⟨s1, s2, s4⟩ := h.2.2.2.2 s hs
  have fin : ∀ (x : Int32) (A B : zM), zTr L C R A B → zWq C R (x, A) (f_X6_gives_82 p1 v5 (nI s) x B) := by
    intro x A B hz
    obtain ⟨k1, k2, k3, k4⟩ := tr_back h hz
    unfold f_X6_gives_82
    simp only []
    have k5 : ∀ c, (c = 12 ∨ c = 13) → (f_X6_lay 3 1 B).1 c = R.1 c := fun c hc => (k3 c (by omega)).trans (hz.2.2.2.1 c (by omega))
    generalize f_X6_lay 3 1 B = B' at k1 k2 k4 k5 ⊢
    exact ⟨rfl, k1, hz.2.1, hz.2.2.1, k2, k5, k4⟩
  exact zlock3 (L := n) (P := fun j (u w : Int32 × zM) => u.1 = w.1 ∧ (u.1 = 0 ∨ u.1 = 1) ∧ zTr L C R u.2 w.2) (Q := fun X Y => ∃ (x : Int32) (A : zM), X = f_X5_which_159 p1 p2 k68 (56 + 2 * s) v4 v5 x A ∧ zWq C R (x, A) Y)
    (F := fun k j u => f_X5_which_106 p1 p2 k68 k (56 + 2 * s) v4 v5 u.1 (nI j) u.2) (G := fun k j w => f_X6_gives_32 p1 v5 (nI s) k (nI n) w.1 (nI j) w.2)
    (by
      intro k m j u w hj hk hm hP
      obtain ⟨p1', p2', p3'⟩ := hP
      have hlen : u.2.1 (56 + 2 * s) 2 = nI n := (p3'.2.1 _ _ (by omega)).trans h2
      by_cases z : j = n ∨ u.1 = 0
      · left
        refine ⟨u.1, u.2, ?_, ?_⟩
        · show f_X5_which_106 p1 p2 k68 (k + 1) (56 + 2 * s) v4 v5 u.1 (nI j) u.2 = _
          rw [f_X5_which_106, hlen]
          by_cases y : j = n
          · rw [if_pos (nI_le (by omega) (by omega))]
          · rw [if_neg (nI_ge (by omega) (by omega)), if_pos (z.resolve_left y)]
        · show zWq C R (u.1, u.2) (f_X6_gives_32 p1 v5 (nI s) (m + 1) (nI n) w.1 (nI j) w.2)
          have e : f_X6_gives_32 p1 v5 (nI s) (m + 1) (nI n) w.1 (nI j) w.2 = f_X6_gives_82 p1 v5 (nI s) w.1 w.2 := by
            rw [f_X6_gives_32]
            by_cases y : j = n
            · rw [if_pos (nI_le (by omega) (by omega))]
            · rw [if_neg (nI_ge (by omega) (by omega)), if_pos (by rw [← p1']; exact z.resolve_left y)]
          rw [e, ← p1']
          exact fin _ _ _ p3'
      · right
        have hjn : j < n := by
          have : ¬ j = n := fun y => z (Or.inl y)
          omega
        have hu : ¬ u.1 = 0 := fun y => z (Or.inr y)
        obtain ⟨t1, t2, t3, t4, t5, t6, t7⟩ := tr_tick p3'
        have hcs : ∀ i, i < 40 → (f_X2_tick 29 u.2).2 (56 + 2 * s + 1) i = (f_X6_tick w.2).2 14 (40 * s + i) := fun i hi => by
          rw [t1.2.2.1, t1.2.2.2.2.2.1]; exact s4 i hi
        have ec : f_X5_which_106 p1 p2 k68 (k + 1) (56 + 2 * s) v4 v5 u.1 (nI j) u.2 = if lg_cmp ((f_X2_tick 29 u.2).1 29 5).toInt64 ((f_X6_tick w.2).2 14 (40 * s + j)) = 0 then f_X5_which_106 p1 p2 k68 k (56 + 2 * s) v4 v5 1 (nI (j + 1)) (f_X2_tick 29 u.2) else f_X5_which_106 p1 p2 k68 k (56 + 2 * s) v4 v5 0 (nI (j + 1)) (f_X2_tick 29 u.2) := by
          rw [f_X5_which_106, hlen, if_neg (nI_ge (by omega) (by omega)), if_neg hu]
          simp only []
          rw [zcl0 (show j < 1000 by omega), hcs j (by omega), nI_1]
        have er : f_X6_gives_32 p1 v5 (nI s) (m + 1) (nI n) w.1 (nI j) w.2 = if lg_cmp ((f_X6_tick w.2).2 14 (40 * s + j)) ((f_X6_tick w.2).1 0 10).toInt64 = 0 then f_X6_gives_32 p1 v5 (nI s) m (nI n) 1 (nI (j + 1)) (f_X6_tick w.2) else f_X6_gives_32 p1 v5 (nI s) m (nI n) 0 (nI (j + 1)) (f_X6_tick w.2) := by
          rw [f_X6_gives_32, if_neg (nI_ge (by omega) (by omega)), if_neg (by rw [← p1']; exact hu)]
          simp only []
          rw [k40 hs (by omega), nI_1]
        rw [t2] at ec
        generalize f_X2_tick 29 u.2 = A' at t1 ec
        generalize f_X6_tick w.2 = B' at t1 ec er
        by_cases y : (B'.1 0 10).toInt64 = B'.2 14 (40 * s + j)
        · rw [if_pos (lgc_eq.mpr y)] at ec
          rw [if_pos (lgc_eq.mpr y.symm)] at er
          exact ⟨hjn, (1, A'), (1, B'), ⟨rfl, Or.inr rfl, t1⟩, ec, er⟩
        · rw [if_neg (fun z => y (lgc_eq.mp z))] at ec
          rw [if_neg (fun z => y (lgc_eq.mp z).symm)] at er
          exact ⟨hjn, (0, A'), (0, B'), ⟨rfl, Or.inl rfl, t1⟩, ec, er⟩)
    n 41 41 0 (1, a) (1, b) rfl (Nat.zero_le n) (by omega) (by omega) ⟨rfl, Or.inr rfl, ht⟩
theorem m_which {C R : zM} (h : zIN C R) (p1 p2 : Int32) : zEq (f_X5_which p1 p2 C) (f_X6_which p1 p2 R) := by
  obtain ⟨L, hw⟩ := h.1.1
  have hL := hw.1
  unfold f_X5_which f_X6_which f_X6_isSheet f_X5_which_20 f_X6_which_15 f_X6_longOf
  simp only []
  rw [wi_in, has_eq hw.2.1 hw.2.2.1 hL]
  by_cases q0 : f_X6_isBlock p1 R = 0
  · rw [if_pos q0, if_pos q0]
    exact eq_f0 h
  rw [if_neg q0, if_neg q0]
  by_cases q : f_X6_in p2 0 3 = 0
  · rw [if_pos q, if_pos q]
    exact eq_f0 h
  rw [if_neg q, if_neg q]
  obtain ⟨b0, hb0, rfl⟩ := has_b hw.2.2.1 hL q0
  obtain ⟨s, hs, rfl⟩ := in_nI (N := 3) (by omega) q
  have hs4 : s < 4 := by omega
  rw [zcl0 (show s < 1000 by omega)]
  have hm := miss_eq h hs4
  obtain ⟨s1, ⟨n, hn, s2, s3⟩, s4⟩ := h.2.2.2.2 s hs4
  by_cases z : R.1 12 s = 0
  · rw [if_neg (fun w => (hm.mp w) z), if_pos z]
    exact eq_f5 h
  rw [if_pos (hm.mpr z), if_neg z, s2, s3]
  by_cases z0 : nI n = 0
  · rw [if_pos z0, if_pos z0]
    exact eq_f6 h
  rw [if_neg z0, if_neg z0]
  exact zlock (L := 6) (P := fun _ (u w : Int32 × zM) => u.1 = w.1 ∧ zIN u.2 w.2 ∧ w.2.1 1 0 = nI L ∧ u.2.1 (56 + 2 * s) 2 = nI n ∧ w.2.1 13 s = nI n) (Q := zEq) (F := fun k j u => f_X5_which_68 (nI b0) (nI s) k (56 + 2 * s) u.1 (nI j) u.2) (G := fun k j w => f_X6_which_56 (nI b0) (nI s) k w.1 (nI j) w.2)
    (by
      intro k m u w hP
      show zEq (f_X5_which_68 (nI b0) (nI s) (k + 1) (56 + 2 * s) u.1 (nI 6) u.2) (f_X6_which_56 (nI b0) (nI s) (m + 1) w.1 (nI 6) w.2)
      rw [f_X5_which_68, f_X6_which_56, if_pos (by decide), if_pos (by decide)]
      exact ⟨hP.1, hP.2.1⟩)
    (by
      intro k m j u w hj hP
      obtain ⟨e1, hI, hl0, hc2, hr3⟩ := hP
      obtain ⟨L', hw'⟩ := hI.1.1
      have eL : L' = L := by
        have := hw'.2.2.1
        rw [hl0] at this
        have hL' := hw'.1
        exact ((nI_eq (by omega) (by omega)).mp this).symm
      subst eL
      have hst := tr_start (C := u.2) (R := w.2) hw'
      have ht := tr_put (w := 0) (x := nI j) hst hb0 (by omega) (bd_0 (hst.1.2.2.2.2.2.2.1 b0 hb0) (by omega))
      obtain ⟨x, A, i1, i2⟩ := whi_in (p1 := nI b0) (p2 := nI s) (v4 := u.1) (v5 := nI j) (k68 := fun wc3 wv4 wv5 wmm => f_X5_which_68 (nI b0) (nI s) k wc3 wv4 wv5 wmm) hs4 hn hI hc2 ht
      have ec : f_X5_which_68 (nI b0) (nI s) (k + 1) (56 + 2 * s) u.1 (nI j) u.2 = f_X5_which_159 (nI b0) (nI s) (fun wc3 wv4 wv5 wmm => f_X5_which_68 (nI b0) (nI s) k wc3 wv4 wv5 wmm) (56 + 2 * s) u.1 (nI j) x A := by
        rw [f_X5_which_68, if_neg (show ¬ (6 : Int32) ≤ nI j from nI_ge (b := 6) (by omega) (by omega)), zcl0 (show b0 < 1000 by omega)]
        exact i1
      have eg : f_X6_gives (nI b0) (nI j) (nI s) w.2 = f_X6_gives_32 (nI b0) (nI j) (nI s) 41 (nI n) 1 0 (zpI (f_X6_lay 1 3 w.2) 1 (78 + 7 * b0 + 0) (nI j)) := by
        unfold f_X6_gives f_X6_longOf
        simp only []
        have b0' : ∀ v M, (f_X6_become (nI b0) 0 v M).2 = zpI M 1 (78 + 7 * b0 + 0) v := fun v M => rBc (w := 0) (by omega) (by omega)
        rw [b0', zcl0 (show s < 1000 by omega), hr3]
      have er : f_X6_which_56 (nI b0) (nI s) (m + 1) w.1 (nI j) w.2 = if (f_X6_gives (nI b0) (nI j) (nI s) w.2).1 = 0 then f_X6_which_56 (nI b0) (nI s) m (w.1 ||| 0) (nI (j + 1)) (f_X6_gives (nI b0) (nI j) (nI s) w.2).2 else f_X6_which_56 (nI b0) (nI s) m (w.1 ||| (1 <<< (nI j &&& 31))) (nI (j + 1)) (f_X6_gives (nI b0) (nI j) (nI s) w.2).2 := by
        rw [f_X6_which_56, if_neg (show ¬ (5 : Int32) < nI j from nI_nlt (a := 5) (by omega) (by omega)), nI_1]
      rw [eg] at er
      generalize f_X6_gives_32 (nI b0) (nI j) (nI s) 41 (nI n) 1 0 (zpI (f_X6_lay 1 3 w.2) 1 (78 + 7 * b0 + 0) (nI j)) = Y at i2 er
      obtain ⟨j1, j2, j3, j4, j5, j6, j7⟩ := i2
      have j1 : x = Y.1 := j1
      have j2 : zIN A Y.2 := j2
      have j3 : ∀ c k, ¬ (29 ≤ c ∧ c < 43) → A.1 c k = u.2.1 c k := j3
      unfold f_X5_which_159 at ec
      simp only [nI_1] at ec
      have keep : Y.2.1 1 0 = nI L' ∧ A.1 (56 + 2 * s) 2 = nI n ∧ Y.2.1 13 s = nI n := ⟨(j5 0 (by omega)).trans hl0, (j3 _ _ (by omega)).trans hc2, by rw [j6 13 (by omega)]; exact hr3⟩
      rw [← j1] at er
      by_cases y : x = 0
      · rw [if_pos y] at ec er
        exact ⟨(u.1 ||| 0, A), (w.1 ||| 0, Y.2), ⟨congrArg (fun t => t ||| 0) e1, j2, keep⟩, ec, er⟩
      · rw [if_neg y] at ec er
        exact ⟨(u.1 ||| (1 <<< (nI j &&& 31)), A), (w.1 ||| (1 <<< (nI j &&& 31)), Y.2), ⟨congrArg (fun t => t ||| (1 <<< (nI j &&& 31))) e1, j2, keep⟩, ec, er⟩)
    6 7 7 0 (0, C) (0, R) rfl (by omega) (by omega) (by omega) ⟨rfl, h, hw.2.2.1, s2, s3⟩
