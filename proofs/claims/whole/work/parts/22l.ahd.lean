/-! ticks ahead: the class goes on in its third row, the reference in its own, which it puts back -/
def zTr (L : Nat) (C R a b : zM) : Prop := zRw L 29 a (b.1 1) ∧ (∀ c k, ¬ (29 ≤ c ∧ c < 43) → a.1 c k = C.1 c k) ∧ a.2 = C.2 ∧ (∀ c, ¬ (c = 0 ∨ c = 1 ∨ c = 3 ∨ c = 6 ∨ c = 7 ∨ c = 8 ∨ c = 9 ∨ c = 11) → b.1 c = R.1 c) ∧ (∀ k, ¬ (k = 9 ∨ k = 10 ∨ k = 11 ∨ k = 14) → b.1 0 k = R.1 0 k) ∧ b.2 = R.2 ∧ (∀ k, k < 448 → b.1 3 k = R.1 1 k)
theorem tr_start {L : Nat} {C R : zM} (hw : zRw L 1 C (R.1 1)) : zTr L C R (f_X2_copyFrom 29 1 C) (f_X6_lay 1 3 R) := by
  have r := rcp (a0 := 29) (a1 := 1) (by omega) hw
  refine ⟨?_, fun c k hc => r.2.1 c k (by omega), r.2.2, fun c hc => rw_lay (by omega), fun k hk => by rw [rw_lay (by omega)], lay_2, fun k hk => (lay_at (by omega) k).trans (if_pos hk)⟩
  rw [rw_lay (by omega)]
  exact r.1
theorem zTr.b {L : Nat} {C R a b b' : zM} (h : zTr L C R a b) (e : ∀ c, ¬ (c = 0 ∨ c = 8 ∨ c = 9) → b'.1 c = b.1 c) (e0 : ∀ k, ¬ k = 14 → b'.1 0 k = b.1 0 k) (e2 : b'.2 = b.2) : zTr L C R a b' := by
  obtain ⟨h1, h2, h3, h4, h5, h6, h7⟩ := h
  refine ⟨by rw [e 1 (by omega)]; exact h1, h2, h3, fun c hc => (e c (by omega)).trans (h4 c hc), fun k hk => (e0 k (by omega)).trans (h5 k hk), e2.trans h6, fun k hk => by rw [e 3 (by omega)]; exact h7 k hk⟩
theorem tr_pace {L : Nat} {C R a b : zM} {x : Int32} (h : zTr L C R a b) : zTr L C R (zpI a 29 3 x) (zpI b 1 2 x) := by
  obtain ⟨h1, h2, h3, h4, h5, h6, h7⟩ := h
  exact ⟨h1.pace (zpI_off (by omega)) (zpI_off (by omega)) (by rw [zpI_at, zpI_at]) (fun c hc => zpI_ne.1 c (by omega)) (fun k hk => zpI_off (by omega)), fun c k hc => (zpI_off (by omega)).trans (h2 c k hc), h3, fun c hc => (zpI_ne.1 c (by omega)).trans (h4 c hc), fun k hk => (zpI_off (by omega)).trans (h5 k hk), h6, fun k hk => (zpI_off (by omega)).trans (h7 k hk)⟩
theorem tr_put {L q w : Nat} {C R a b : zM} {x : Int32} (h : zTr L C R a b) (hq : q < L) (hw : w < 7) (bd : zBd ((zpI b 1 (78 + 7 * q + w) x).1 1) q) : zTr L C R (zpI a (31 + q) w x) (zpI b 1 (78 + 7 * q + w) x) := by
  obtain ⟨h1, h2, h3, h4, h5, h6, h7⟩ := h
  have hL := h1.1
  exact ⟨h1.put hq hw (zpI_off (by omega)) (zpI_off (by omega)) (zpI_off (by omega)) (fun b' w' z1 z2 hn => zpI_off (by omega)) (by show (zpI a (31 + q) w x).1 (31 + q) w = x; exact zpI_at) (zpI_off (by omega)) (zpI_ne.1 _ (by omega)) rfl bd, fun c k hc => (zpI_off (by omega)).trans (h2 c k hc), h3, fun c hc => (zpI_ne.1 c (by omega)).trans (h4 c hc), fun k hk => (zpI_off (by omega)).trans (h5 k hk), h6, fun k hk => (zpI_off (by omega)).trans (h7 k hk)⟩
theorem tr_tick {L : Nat} {C R a b : zM} (h : zTr L C R a b) : zTr L C R (f_X2_tick 29 a) (f_X6_tick b) ∧ (f_X2_tick 29 a).1 29 5 = (f_X6_tick b).1 0 10 ∧ (f_X2_tick 29 a).1 29 6 = (f_X6_tick b).1 0 9 ∧ (f_X2_tick 29 a).1 29 7 = (f_X6_tick b).1 0 11 ∧ (f_X6_tick b).1 8 = b.1 8 ∧ (f_X6_tick b).1 9 = b.1 9 ∧ (f_X6_tick b).1 0 14 = b.1 0 14 := by
  obtain ⟨h1, h2, h3, h4, h5, h6, h7⟩ := h
  obtain ⟨v, t1, t2, t3, t4, t5, t6, t7, t8⟩ := tick_eq zRow29 h1
  generalize f_X2_tick 29 a = a' at t1 t2 t3 t4 t5 t7
  generalize f_X6_tick b = b' at t1 t2 t3 t4 t6 t8
  exact ⟨⟨t1, fun c k hc => by rw [t7.1 c (by omega) (by omega)]; exact h2 c k hc, t7.2.2.trans h3, fun c hc => (t8.1 c (by omega)).trans (h4 c hc), fun k hk => (t8.2.1 k (by omega)).trans (h5 k hk), t8.2.2.trans h6, fun k hk => by rw [t8.1 3 (by omega)]; exact h7 k hk⟩, t2, t3, t4, t8.1 8 (by omega), t8.1 9 (by omega), t8.2.1 14 (by omega)⟩
/-- what was tried is put back -/
theorem tr_back {L : Nat} {C R a b : zM} (h : zIN C R) (ht : zTr L C R a b) : zIN a (f_X6_lay 3 1 b) ∧ (∀ k, k < 448 → (f_X6_lay 3 1 b).1 1 k = R.1 1 k) ∧ (∀ c, c ≠ 1 → (f_X6_lay 3 1 b).1 c = b.1 c) ∧ (f_X6_lay 3 1 b).2 = R.2 := by
  obtain ⟨h1, h2, h3, h4, h5, h6, h7⟩ := ht
  have l1 : ∀ k, k < 448 → (f_X6_lay 3 1 b).1 1 k = R.1 1 k := fun k hk => ((lay_at (by omega) k).trans (if_pos hk)).trans (h7 k hk)
  have lo : ∀ c, c ≠ 1 → (f_X6_lay 3 1 b).1 c = b.1 c := fun c hc => rw_lay hc
  have ll : (f_X6_lay 3 1 b).2 = R.2 := lay_2.trans h6
  generalize f_X6_lay 3 1 b = b' at l1 lo ll ⊢
  refine ⟨⟨?_, h.2.cg (fun c k z => ?_) h3 (fun c k z => ?_) (by rw [ll])⟩, l1, lo, ll⟩
  · obtain ⟨⟨L', w1⟩, w2, w3⟩ := h.1
    exact ⟨⟨L', (w1.cg (fun c k z1 z2 => h2 c k (by omega))).all l1⟩, w2.cg (fun c z1 z2 => funext fun k => h2 c k (by omega)) (fun k hk => l1 k (by omega)), w3.all l1⟩
  · unfold oC at z
    exact h2 c k (by omega)
  · unfold oR at z
    rw [lo c (by omega)]
    by_cases q : c = 0
    · subst q; exact h5 k (by omega)
    · rw [h4 c (by omega)]
def aIt (a : zM) : Nat → zM
  | 0 => a
  | j + 1 => f_X2_tick 29 (aIt a j)
def zNs (a : zM) : Nat → Int32
  | 0 => 0
  | j + 1 => zNs a j + (aIt a (j + 1)).1 29 7
def zJu (a : zM) : Nat → Int32
  | 0 => 0
  | j + 1 => zJu a j + (if (aIt a (j + 1)).1 29 5 ≤ 0 then 0 else 1)
def zGr (a : zM) : Nat → Int32
  | 0 => 0
  | j + 1 => f_X6_greater (zGr a j) ((aIt a (j + 1)).1 29 5)
def zTo (p q : Int32) (a : zM) : Nat → Int32
  | 0 => 0
  | j + 1 => zTo p q a j + ((((aIt a (j + 1)).1 29 6 >>> (p &&& 31)) &&& ((aIt a (j + 1)).1 29 6 >>> (q &&& 31))) &&& 1)
theorem goes_eq {L n : Nat} {C R a b : zM} (hn : n ≤ 60) (h : zTr L C R a b) : zTr L C R (aIt a n) (f_X6_goes (nI n) b) ∧ (∀ j, j < n → (f_X6_goes (nI n) b).1 8 j = (aIt a (j + 1)).1 29 5 ∧ (f_X6_goes (nI n) b).1 9 j = (aIt a (j + 1)).1 29 6) ∧ (f_X6_goes (nI n) b).1 0 14 = zNs a n := by
  have e : f_X6_goes (nI n) b = f_X6_goes_7 (nI n) 61 (nI 0) (zpI b 0 14 0) := rfl
  rw [e]
  exact zloop (L := n) (P := fun j b => zTr L C R (aIt a j) b ∧ (∀ i, i < j → b.1 8 i = (aIt a (i + 1)).1 29 5 ∧ b.1 9 i = (aIt a (i + 1)).1 29 6) ∧ b.1 0 14 = zNs a j) (Q := fun B => zTr L C R (aIt a n) B ∧ (∀ j, j < n → B.1 8 j = (aIt a (j + 1)).1 29 5 ∧ B.1 9 j = (aIt a (j + 1)).1 29 6) ∧ B.1 0 14 = zNs a n) (F := fun k j b => f_X6_goes_7 (nI n) k (nI j) b)
    (by
      intro k b hP
      show zTr L C R (aIt a n) (f_X6_goes_7 (nI n) (k + 1) (nI n) b) ∧ _
      rw [f_X6_goes_7, if_pos (Int32.le_refl _)]
      exact hP)
    (by
      intro k j b hj hP
      obtain ⟨p1, p2, p3⟩ := hP
      obtain ⟨t1, t2, t3, t4, t5, t6, t7⟩ := tr_tick p1
      have t1 : zTr L C R (aIt a (j + 1)) (f_X6_tick b) := t1
      have t2 : (aIt a (j + 1)).1 29 5 = (f_X6_tick b).1 0 10 := t2
      have t3 : (aIt a (j + 1)).1 29 6 = (f_X6_tick b).1 0 9 := t3
      have t4 : (aIt a (j + 1)).1 29 7 = (f_X6_tick b).1 0 11 := t4
      have en : zNs a (j + 1) = zNs a j + (aIt a (j + 1)).1 29 7 := rfl
      have ef : f_X6_goes_7 (nI n) (k + 1) (nI j) b = f_X6_goes_7 (nI n) k (nI (j + 1)) (zpI (zpI (zpI (f_X6_tick b) 8 j ((f_X6_tick b).1 0 10)) 9 j ((f_X6_tick b).1 0 9)) 0 14 ((f_X6_tick b).1 0 14 + (f_X6_tick b).1 0 11)) := by
        rw [f_X6_goes_7, if_neg (nI_ge hj (by omega)), zcl0 (show j < 1000 by omega), nI_1]
        simp only []
        have a1 : ∀ x, (zpI (f_X6_tick b) 8 j x).1 0 = (f_X6_tick b).1 0 := fun x => zpI_ne.1 0 (by omega)
        have a2 : ∀ x y, (zpI (zpI (f_X6_tick b) 8 j x) 9 j y).1 0 = (f_X6_tick b).1 0 := fun x y => (zpI_ne.1 0 (by omega)).trans (zpI_ne.1 0 (by omega))
        rw [a1, a2]
      generalize f_X6_tick b = B at t1 t2 t3 t4 t5 t6 t7 ef
      refine ⟨zpI (zpI (zpI B 8 j (B.1 0 10)) 9 j (B.1 0 9)) 0 14 (B.1 0 14 + B.1 0 11), ⟨t1.b (fun c hc => ?_) (fun q hq => ?_) rfl, fun i hi => ?_, ?_⟩, ef⟩
      · rw [zpI_ne.1 c (by omega), zpI_ne.1 c (by omega), zpI_ne.1 c (by omega)]
      · rw [zpI_off (by omega), zpI_off (by omega), zpI_off (by omega)]
      · rw [zpI_ne.1 8 (by omega), zpI_ne.1 8 (by omega), zpI_ne.1 9 (by omega)]
        by_cases q : i = j
        · subst q
          rw [zpI_at, zpI_at]
          exact ⟨t2.symm, t3.symm⟩
        · rw [zpI_off (by omega), zpI_off (by omega), zpI_off (by omega), t5, t6]
          exact p2 i (by omega)
      · rw [zpI_at, t7, p3, en, t4])
    n 61 0 _ rfl (Nat.zero_le n) (by omega) ⟨h.b (fun c hc => zpI_ne.1 c (by omega)) (fun k hk => zpI_off (by omega)) rfl, fun i hi => absurd hi (Nat.not_lt_zero i), zpI_at⟩
theorem jumps_eq {n : Nat} {a M : zM} (hn : n ≤ 60) (h : ∀ j, j < n → M.1 8 j = (aIt a (j + 1)).1 29 5) : f_X6_jumps (nI n) M = zJu a n := by
  exact zloop (L := n) (P := fun j v => v = zJu a j) (Q := fun x => x = zJu a n) (F := fun k j v => f_X6_jumps_4 (nI n) M k v (nI j))
    (by
      intro k v hP
      show f_X6_jumps_4 (nI n) M (k + 1) v (nI n) = _
      rw [f_X6_jumps_4, if_pos (Int32.le_refl _)]
      exact hP)
    (by
      intro k j v hj hP
      subst hP
      have ej : zJu a (j + 1) = zJu a j + (if (aIt a (j + 1)).1 29 5 ≤ 0 then 0 else 1) := rfl
      refine ⟨zJu a (j + 1), rfl, ?_⟩
      show f_X6_jumps_4 (nI n) M (k + 1) (zJu a j) (nI j) = _
      rw [f_X6_jumps_4, if_neg (nI_ge hj (by omega)), zcl0 (show j < 1000 by omega), h j hj, nI_1, ej]
      by_cases q : (aIt a (j + 1)).1 29 5 ≤ 0
      · rw [if_pos q, if_pos q]
      · rw [if_neg q, if_neg q])
    n 61 0 0 rfl (Nat.zero_le n) (by omega) rfl
theorem great_eq {n : Nat} {a M : zM} (hn : n ≤ 60) (h : ∀ j, j < n → M.1 8 j = (aIt a (j + 1)).1 29 5) : f_X6_greatest (nI n) M = zGr a n := by
  exact zloop (L := n) (P := fun j v => v = zGr a j) (Q := fun x => x = zGr a n) (F := fun k j v => f_X6_greatest_4 (nI n) M k v (nI j))
    (by
      intro k v hP
      show f_X6_greatest_4 (nI n) M (k + 1) v (nI n) = _
      rw [f_X6_greatest_4, if_pos (Int32.le_refl _)]
      exact hP)
    (by
      intro k j v hj hP
      subst hP
      refine ⟨zGr a (j + 1), rfl, ?_⟩
      show f_X6_greatest_4 (nI n) M (k + 1) (zGr a j) (nI j) = _
      rw [f_X6_greatest_4, if_neg (nI_ge hj (by omega)), zcl0 (show j < 1000 by omega), h j hj, nI_1]
      rfl)
    n 61 0 0 rfl (Nat.zero_le n) (by omega) rfl
theorem ahd_c {n : Nat} {a : zM} {p2 : Int32} (hn : n ≤ 60) : f_X5_ahead_56 (nI n) p2 61 0 0 0 0 a = (if p2 = 0 then (zJu a n, aIt a n) else if p2 = 1 then (if zJu a n = nI n then (1, aIt a n) else (0, aIt a n)) else if p2 = 2 then (zGr a n, aIt a n) else if p2 = 3 then (zNs a n, aIt a n) else ((aIt a n).1 (31 + (p2 - 4).toNatClampNeg) 5, aIt a n)) := by
  exact zloop (L := n) (P := fun j (s : Int32 × Int32 × Int32 × zM) => s = (zJu a j, zGr a j, zNs a j, aIt a j)) (Q := fun x => x = (if p2 = 0 then (zJu a n, aIt a n) else if p2 = 1 then (if zJu a n = nI n then (1, aIt a n) else (0, aIt a n)) else if p2 = 2 then (zGr a n, aIt a n) else if p2 = 3 then (zNs a n, aIt a n) else ((aIt a n).1 (31 + (p2 - 4).toNatClampNeg) 5, aIt a n))) (F := fun k j s => f_X5_ahead_56 (nI n) p2 k s.1 s.2.1 s.2.2.1 (nI j) s.2.2.2)
    (by
      intro k s hP
      subst hP
      show f_X5_ahead_56 (nI n) p2 (k + 1) (zJu a n) (zGr a n) (zNs a n) (nI n) (aIt a n) = _
      rw [f_X5_ahead_56, if_pos (Int32.le_refl _)])
    (by
      intro k j s hj hP
      subst hP
      have ej : zJu a (j + 1) = zJu a j + (if (aIt a (j + 1)).1 29 5 ≤ 0 then 0 else 1) := rfl
      have eg : zGr a (j + 1) = f_X6_greater (zGr a j) ((aIt a (j + 1)).1 29 5) := rfl
      have en : zNs a (j + 1) = zNs a j + (aIt a (j + 1)).1 29 7 := rfl
      have et : f_X2_tick 29 (aIt a j) = aIt a (j + 1) := rfl
      refine ⟨(zJu a (j + 1), zGr a (j + 1), zNs a (j + 1), aIt a (j + 1)), rfl, ?_⟩
      show f_X5_ahead_56 (nI n) p2 (k + 1) (zJu a j) (zGr a j) (zNs a j) (nI j) (aIt a j) = f_X5_ahead_56 (nI n) p2 k (zJu a (j + 1)) (zGr a (j + 1)) (zNs a (j + 1)) (nI (j + 1)) (aIt a (j + 1))
      rw [f_X5_ahead_56, if_neg (nI_ge hj (by omega)), et]
      simp only []
      generalize aIt a (j + 1) = X at ej eg en
      unfold f_X5_ahead_85
      simp only []
      rw [zmx0, ← eg, ← en, nI_1, ej]
      by_cases q : X.1 29 5 ≤ 0
      · rw [if_pos q, if_pos q]
      · rw [if_neg q, if_neg q])
    n 61 0 (0, 0, 0, a) rfl (Nat.zero_le n) (by omega) rfl
theorem m_ahead {C R : zM} (h : zIN C R) (p1 p2 : Int32) : zEq (f_X5_ahead p1 p2 C) (f_X6_ahead p1 p2 R) := by
  obtain ⟨L, hw⟩ := h.1.1
  have hL := hw.1
  unfold f_X5_ahead f_X6_ahead f_X6_isAhead f_X5_ahead_27 f_X6_ahead_23
  simp only []
  rw [wi_in, wi_in]
  by_cases q : f_X6_in p1 1 60 = 0
  · rw [if_pos q, if_pos q]
    exact eq_f0 h
  rw [if_neg q, if_neg q, hw.2.1, hw.2.2.1]
  by_cases q2 : f_X6_in p2 0 (3 + nI L) = 0
  · rw [if_pos q2, if_pos q2]
    exact eq_f0 h
  rw [if_neg q2, if_neg q2]
  have h1 := in_X6 q
  obtain ⟨n, hn, rfl⟩ := nI_of2 (x := p1) (M := 60) (n := 60) (by decide) (Int32.not_lt.mpr (Int32.le_trans (by decide) h1.1)) h1.2
  have e3 : (3 : Int32) + nI L = nI (3 + L) := nI_add 3 L
  rw [e3] at q2
  obtain ⟨w, hw', rfl⟩ := in_nI (N := 3 + L) (by omega) q2
  have hs := tr_start (C := C) (R := R) hw
  rw [ahd_c hn]
  generalize f_X2_copyFrom 29 1 C = a at hs
  generalize f_X6_lay 1 3 R = b at hs
  obtain ⟨g1, g2, g3⟩ := goes_eq hn hs
  generalize f_X6_goes (nI n) b = B at g1 g2 g3
  obtain ⟨k1, k2, k3, k4⟩ := tr_back h g1
  have hj : f_X6_jumps (nI n) (f_X6_lay 3 1 B) = zJu a n := jumps_eq hn (fun j hj => by rw [k3 8 (by omega)]; exact (g2 j hj).1)
  have hg : f_X6_greatest (nI n) (f_X6_lay 3 1 B) = zGr a n := great_eq hn (fun j hj => by rw [k3 8 (by omega)]; exact (g2 j hj).1)
  have hns : (f_X6_lay 3 1 B).1 0 14 = zNs a n := by rw [k3 0 (by omega)]; exact g3
  unfold f_X6_ahead_62
  simp only []
  generalize f_X6_lay 3 1 B = B' at k1 k2 k3 k4 hj hg hns
  rw [hj, hg, hns]
  by_cases w3 : w ≤ 3
  · have d4 : w = 0 ∨ w = 1 ∨ w = 2 ∨ w = 3 := by omega
    rw [if_pos (show nI w ≤ (3 : Int32) from nI_le (b := 3) w3 (by omega))]
    rcases d4 with rfl | rfl | rfl | rfl
    · rw [if_pos (by decide), if_pos (by decide)]; exact ⟨rfl, k1⟩
    · have x0 : ¬ nI 1 = (0 : Int32) := by decide
      have x1 : nI 1 = (1 : Int32) := by decide
      rw [if_neg x0, if_pos x1, if_neg x0, if_pos x1]
      by_cases z : zJu a n = nI n
      · rw [if_pos z, if_pos z]; exact ⟨rfl, k1⟩
      · rw [if_neg z, if_neg z]; exact ⟨rfl, k1⟩
    · rw [if_neg (by decide), if_neg (by decide), if_pos (by decide), if_neg (by decide), if_neg (by decide), if_pos (by decide)]; exact ⟨rfl, k1⟩
    · rw [if_neg (by decide), if_neg (by decide), if_neg (by decide), if_pos (by decide), if_neg (by decide), if_neg (by decide), if_neg (by decide), if_pos (by decide)]; exact ⟨rfl, k1⟩
  · obtain ⟨v, rfl⟩ : ∃ v, w = 4 + v := ⟨w - 4, by omega⟩
    have ne : ∀ m : Nat, m ≤ 3 → ¬ nI (4 + v) = nI m := fun m hm z => by have := (nI_eq (by omega) (by omega)).mp z; omega
    have e4 : nI (4 + v) - 4 = nI v := by
      have := pk_sub (a := 4 + v) (b := 4) (by omega)
      rw [show (4 : Int32) = nI 4 from rfl, this, show 4 + v - 4 = v by omega]
    have n0 : ¬ nI (4 + v) = (0 : Int32) := ne 0 (by omega)
    have n1 : ¬ nI (4 + v) = (1 : Int32) := ne 1 (by omega)
    have n2 : ¬ nI (4 + v) = (2 : Int32) := ne 2 (by omega)
    have n3 : ¬ nI (4 + v) = (3 : Int32) := ne 3 (by omega)
    rw [if_neg (show ¬ nI (4 + v) ≤ (3 : Int32) from nI_ge (a := 3) (by omega) (by omega)), if_neg n0, if_neg n1, if_neg n2, if_neg n3, if_neg n0, if_neg n1, if_neg n2, if_neg n3, e4, rAt5 (show v < 10 by omega), zcl0 (show v < 1000 by omega)]
    exact ⟨g1.1.2.2.2.2.2.1 v 5 (by omega) (by omega), k1⟩
theorem tog_c {n : Nat} {a : zM} {p q : Int32} (hn : n ≤ 60) : f_X5_together_61 p q (nI n) 61 0 0 a = (zTo p q a n, aIt a n) := by
  exact zloop (L := n) (P := fun j (s : Int32 × zM) => s = (zTo p q a j, aIt a j)) (Q := fun x => x = (zTo p q a n, aIt a n)) (F := fun k j s => f_X5_together_61 p q (nI n) k s.1 (nI j) s.2)
    (by
      intro k s hP
      subst hP
      show f_X5_together_61 p q (nI n) (k + 1) (zTo p q a n) (nI n) (aIt a n) = _
      rw [f_X5_together_61, if_pos (Int32.le_refl _)])
    (by
      intro k j s hj hP
      subst hP
      have et : f_X2_tick 29 (aIt a j) = aIt a (j + 1) := rfl
      have ev : zTo p q a (j + 1) = zTo p q a j + ((((aIt a (j + 1)).1 29 6 >>> (p &&& 31)) &&& ((aIt a (j + 1)).1 29 6 >>> (q &&& 31))) &&& 1) := rfl
      refine ⟨(zTo p q a (j + 1), aIt a (j + 1)), rfl, ?_⟩
      show f_X5_together_61 p q (nI n) (k + 1) (zTo p q a j) (nI j) (aIt a j) = f_X5_together_61 p q (nI n) k (zTo p q a (j + 1)) (nI (j + 1)) (aIt a (j + 1))
      rw [f_X5_together_61, if_neg (nI_ge hj (by omega)), et, nI_1, ev])
    n 61 0 (0, a) rfl (Nat.zero_le n) (by omega) rfl
theorem tog_r {n : Nat} {a M : zM} {p q : Int32} (hn : n ≤ 60) (h : ∀ j, j < n → M.1 9 j = (aIt a (j + 1)).1 29 6) : f_X6_together_67 p q (nI n) 61 0 0 M = (zTo p q a n, M) := by
  exact zloop (L := n) (P := fun j (s : Int32) => s = zTo p q a j) (Q := fun x => x = (zTo p q a n, M)) (F := fun k j s => f_X6_together_67 p q (nI n) k s (nI j) M)
    (by
      intro k s hP
      subst hP
      show f_X6_together_67 p q (nI n) (k + 1) (zTo p q a n) (nI n) M = _
      rw [f_X6_together_67, if_pos (Int32.le_refl _)])
    (by
      intro k j s hj hP
      subst hP
      have ev : zTo p q a (j + 1) = zTo p q a j + ((((aIt a (j + 1)).1 29 6 >>> (p &&& 31)) &&& ((aIt a (j + 1)).1 29 6 >>> (q &&& 31))) &&& 1) := rfl
      refine ⟨zTo p q a (j + 1), rfl, ?_⟩
      show f_X6_together_67 p q (nI n) (k + 1) (zTo p q a j) (nI j) M = f_X6_together_67 p q (nI n) k (zTo p q a (j + 1)) (nI (j + 1)) M
      rw [f_X6_together_67, if_neg (nI_ge hj (by omega)), zcl0 (show j < 1000 by omega), h j hj, nI_1, ev])
    n 61 0 0 rfl (Nat.zero_le n) (by omega) rfl
theorem m_together {C R : zM} (h : zIN C R) (p1 p2 p3 : Int32) : zEq (f_X5_together p1 p2 p3 C) (f_X6_together p1 p2 p3 R) := by
  obtain ⟨L, hw⟩ := h.1.1
  unfold f_X5_together f_X6_together f_X6_isAhead f_X5_together_37 f_X6_together_28
  simp only []
  rw [wi_in, has_eq hw.2.1 hw.2.2.1 hw.1, has_eq hw.2.1 hw.2.2.1 hw.1]
  by_cases q : f_X6_isBlock p1 R = 0
  · rw [if_pos q, if_pos q]
    exact eq_f0 h
  rw [if_neg q, if_neg q]
  by_cases q2 : f_X6_isBlock p2 R = 0
  · rw [if_pos q2, if_pos q2]
    exact eq_f0 h
  rw [if_neg q2, if_neg q2]
  by_cases q3 : p1 = p2
  · rw [if_pos q3, if_pos q3]
    exact eq_f0 h
  rw [if_neg q3, if_neg q3]
  by_cases q4 : f_X6_in p3 1 60 = 0
  · rw [if_pos q4, if_pos q4]
    exact eq_f0 h
  rw [if_neg q4, if_neg q4]
  have h1 := in_X6 q4
  obtain ⟨n, hn, rfl⟩ := nI_of2 (x := p3) (M := 60) (n := 60) (by decide) (Int32.not_lt.mpr (Int32.le_trans (by decide) h1.1)) h1.2
  have hs := tr_start (C := C) (R := R) hw
  rw [tog_c hn]
  generalize f_X2_copyFrom 29 1 C = a at hs
  generalize f_X6_lay 1 3 R = b at hs
  obtain ⟨g1, g2, g3⟩ := goes_eq hn hs
  generalize f_X6_goes (nI n) b = B at g1 g2 g3
  obtain ⟨k1, k2, k3, k4⟩ := tr_back h g1
  rw [tog_r (a := a) hn (fun j hj => by rw [k3 9 (by omega)]; exact (g2 j hj).2)]
  clear k2 k3 k4
  generalize f_X6_lay 3 1 B = B' at k1 ⊢
  exact ⟨rfl, k1⟩
