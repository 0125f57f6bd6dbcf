/-! the calls of images -/
theorem m_tear {C R : zM} (h : zIN C R) : zEq (f_X5_tear C) (f_X6_tear R) := by
  have h1 := h.2.1.1
  have hin : zIN (zpI C 0 5 0) (zpI R 0 3 0) := by
    obtain ⟨g1, ⟨k1, k2⟩, ⟨n, ht⟩, hf, hs⟩ := h
    refine ⟨g1.sr ⟨zpI_off (by omega), zpI_off (by omega), zpI_off (by omega), fun b w hb hw => zpI_off (by omega), zpI_off (by omega), zpI_ne.1 _ (by omega)⟩ (fun c z1 z2 => zpI_ne.1 c (by omega)) (zpI_ne.1 1 (by omega)), ⟨by rw [zpI_at, zpI_at], fun z => absurd zpI_at z⟩, ⟨n, ht.cg (zpI_off (by omega)) (zpI_ne.1 _ (by omega)) (zpI_off (by omega)) (zpI_ne.1 4 (by omega))⟩, fun j hj => ?_, fun q hq => ?_⟩
    · rw [zpI_off (by omega), zpI_off (by omega)]; exact hf j hj
    · have c1 : ∀ j, (zpI C 0 5 0).1 (56 + 2 * q) j = C.1 (56 + 2 * q) j := fun j => zpI_off (by omega)
      have r12 : (zpI R 0 3 0).1 12 = R.1 12 := zpI_ne.1 12 (by omega)
      have r13 : (zpI R 0 3 0).1 13 = R.1 13 := zpI_ne.1 13 (by omega)
      rw [c1, c1, r12, r13]
      exact hs q hq
  unfold f_X5_tear f_X6_tear
  simp only []
  rw [h1]
  by_cases z : R.1 0 3 = 0
  · rw [if_pos z, if_pos z]; exact ⟨rfl, hin⟩
  · rw [if_neg z, if_neg z]; exact ⟨rfl, hin⟩
theorem m_count {C R : zM} (h : zIN C R) (p1 : Int32) : zEq (f_X5_count p1 C) (f_X6_count p1 R) := by
  obtain ⟨L, hw⟩ := h.1.1
  have hl : zLw (C.1 13 1) (C.1 14) (R.1 1) := hw.2.2.2.2.2.2.2
  obtain ⟨n, x, h1, h2, h3, h4, h5, h6, h7, h8, h9⟩ := h.1.2.1
  obtain ⟨nt, ht⟩ := h.2.2.1
  unfold f_X5_count f_X6_count
  simp only []
  by_cases q0 : p1 = 0
  · rw [if_pos q0, if_pos q0]; exact ⟨hw.2.1.trans hw.2.2.1.symm, h⟩
  rw [if_neg q0, if_neg q0]
  by_cases q1 : p1 = 1
  · rw [if_pos q1, if_pos q1]; exact ⟨h8, h⟩
  rw [if_neg q1, if_neg q1]
  by_cases q2 : p1 = 2
  · rw [if_pos q2, if_pos q2]; exact ⟨h9, h⟩
  rw [if_neg q2, if_neg q2]
  by_cases q3 : p1 = 3
  · rw [if_pos q3, if_pos q3]
    rcases hl with ⟨e1, e2⟩ | ⟨e1, e2, -⟩
    · rw [if_pos (by rw [e1]; decide), if_neg (Int32.not_le.mpr e2)]; exact ⟨rfl, h⟩
    · rw [if_neg (Int32.not_le.mpr e1), if_pos e2]; exact ⟨rfl, h⟩
  rw [if_neg q3, if_neg q3]
  by_cases q4 : p1 = 4
  · rw [if_pos q4, if_pos q4]; exact ⟨ht.1.trans ht.2.1.symm, h⟩
  rw [if_neg q4, if_neg q4]
  by_cases q5 : p1 = 5
  · rw [if_pos q5, if_pos q5]; exact ⟨hw.2.2.2.2.1, h⟩
  rw [if_neg q5, if_neg q5]
  by_cases q6 : p1 = 6
  · rw [if_pos q6, if_pos q6]; exact ⟨hw.2.2.2.1, h⟩
  rw [if_neg q6, if_neg q6]
  by_cases q7 : p1 = 7
  · rw [if_pos q7, if_pos q7]; exact ⟨h3.trans h4.symm, h⟩
  rw [if_neg q7, if_neg q7]
  exact eq_f0 h
theorem m_status {C R : zM} (h : zIN C R) (p1 : Int32) : zEq (f_X5_status p1 C) (f_X6_status p1 R) := by
  have hf := h.2.2.2.1
  unfold f_X5_status f_X6_status
  simp only []
  rw [wi_in]
  by_cases q : f_X6_in p1 (-1) 6 = 0
  · rw [if_pos q, if_pos q]
    exact eq_f0 h
  rw [if_neg q, if_neg q]
  by_cases q2 : p1 < 0
  · rw [if_pos q2]
    exact zlock (L := 7) (P := fun _ (a b : Int32) => a = b) (Q := zEq) (F := fun k j a => f_X5_status_32 p1 k a (nI j) C) (G := fun k j b => f_X6_status_20 p1 k b (nI j) R)
      (by
        intro k m a b hP
        subst hP
        show zEq (f_X5_status_32 p1 (k + 1) a (nI 7) C) (f_X6_status_20 p1 (m + 1) a (nI 7) R)
        rw [f_X5_status_32, f_X6_status_20, if_pos (by decide), if_pos (by decide)]
        exact ⟨rfl, h⟩)
      (by
        intro k m j a b hj hP
        subst hP
        refine ⟨a + R.1 5 j, a + R.1 5 j, rfl, ?_, ?_⟩
        · show f_X5_status_32 p1 (k + 1) a (nI j) C = _
          rw [f_X5_status_32, if_neg (show ¬ (7 : Int32) ≤ nI j from nI_ge (b := 7) (by omega) (by omega)), zcl0 (show j < 1000 by omega), hf j hj, nI_1]
        · show f_X6_status_20 p1 (m + 1) a (nI j) R = _
          rw [f_X6_status_20, if_neg (show ¬ (7 : Int32) ≤ nI j from nI_ge (b := 7) (by omega) (by omega)), if_pos q2]
          unfold f_X6_status_36
          simp only []
          rw [zcl0 (show j < 1000 by omega), nI_1])
      7 8 8 0 0 0 rfl (by omega) (by omega) (by omega) rfl
  · rw [if_neg q2]
    have h2 := in_X6 q
    obtain ⟨w, hw, rfl⟩ := nI_of2 (x := p1) (M := 6) (n := 6) (by decide) q2 h2.2
    rw [zcl0 (show w < 1000 by omega), hf w (by omega)]
    exact zloop (L := 7) (P := fun j (b : Int32) => b = if w < j then R.1 5 w else 0) (Q := fun y => zEq (R.1 5 w, C) y) (F := fun k j b => f_X6_status_20 (nI w) k b (nI j) R)
      (by
        intro k b hP
        show zEq (R.1 5 w, C) (f_X6_status_20 (nI w) (k + 1) b (nI 7) R)
        rw [f_X6_status_20, if_pos (by decide), hP, if_pos (by omega)]
        exact ⟨rfl, h⟩)
      (by
        intro k j b hj hP
        subst hP
        refine ⟨if w < j + 1 then R.1 5 w else 0, rfl, ?_⟩
        show f_X6_status_20 (nI w) (k + 1) _ (nI j) R = _
        rw [f_X6_status_20, if_neg (show ¬ (7 : Int32) ≤ nI j from nI_ge (b := 7) (by omega) (by omega)), if_neg q2]
        by_cases z : w = j
        · subst z
          rw [if_pos rfl]
          unfold f_X6_status_36
          simp only []
          rw [zcl0 (show w < 1000 by omega), nI_1, if_neg (by omega), if_pos (by omega), Int32.zero_add]
        · rw [if_neg (fun y => z ((nI_eq (by omega) (by omega)).mp y))]
          simp only []
          rw [nI_1, Int32.add_zero]
          by_cases y : w < j
          · rw [if_pos y, if_pos (by omega)]
          · rw [if_neg y, if_neg (by omega)])
      7 8 0 0 rfl (by omega) (by omega) (by rw [if_neg (by omega)])
/-! rows are copied -/
theorem blk_cpy {c d : Nat} {M : zM} (h : c ≠ d) : (∀ a k, ¬ (a = c ∧ k < 7) → (f_X0_copyFrom c d M).1 a k = M.1 a k) ∧ (∀ k, k < 7 → (f_X0_copyFrom c d M).1 c k = M.1 d k) ∧ (f_X0_copyFrom c d M).2 = M.2 := by
  unfold f_X0_copyFrom
  simp only []
  refine ⟨fun a k hk => by simp (disch := omega) only [zpI_off], fun k hk => ?_, rfl⟩
  match k, hk with
  | 0, _ => simp (disch := omega) only [zpI_off, zpI_at]
  | 1, _ => simp (disch := omega) only [zpI_off, zpI_at]
  | 2, _ => simp (disch := omega) only [zpI_off, zpI_at]
  | 3, _ => simp (disch := omega) only [zpI_off, zpI_at]
  | 4, _ => simp (disch := omega) only [zpI_off, zpI_at]
  | 5, _ => simp (disch := omega) only [zpI_off, zpI_at]
  | 6, _ => simp (disch := omega) only [zpI_off, zpI_at]
theorem rc37 {a0 a1 L : Nat} (hd : a0 + 14 ≤ a1 ∨ a1 + 14 ≤ a0) (hL : L ≤ 10) : ∀ (d f j : Nat) (M : zM), d = L - j → j ≤ L → L < j + f → M.1 a0 1 = nI L →
    (∀ c k, ¬ (a0 + 2 + j ≤ c ∧ c < a0 + 2 + L ∧ k < 7) → (f_X2_copyFrom_37 a0 a1 f (nI j) M).1 c k = M.1 c k) ∧ (∀ b k, j ≤ b → b < L → k < 7 → (f_X2_copyFrom_37 a0 a1 f (nI j) M).1 (a0 + 2 + b) k = M.1 (a1 + 2 + b) k) ∧ (f_X2_copyFrom_37 a0 a1 f (nI j) M).2 = M.2 := by
  intro d
  induction d with
  | zero =>
    intro f j M hdj hj hf h1
    obtain ⟨f, rfl⟩ : ∃ f', f = f' + 1 := ⟨f - 1, by omega⟩
    obtain rfl : j = L := by omega
    rw [f_X2_copyFrom_37, h1, if_pos (Int32.le_refl _)]
    exact ⟨fun _ _ _ => rfl, fun b k h2 h3 _ => by omega, rfl⟩
  | succ d ih =>
    intro f j M hdj hj hf h1
    obtain ⟨f, rfl⟩ : ∃ f', f = f' + 1 := ⟨f - 1, by omega⟩
    rw [f_X2_copyFrom_37, h1, if_neg (nI_ge (by omega) (by omega)), zcl0 (show j < 1000 by omega), nI_1]
    simp only []
    obtain ⟨b1, b2, b3⟩ := blk_cpy (c := a0 + 2 + j) (d := a1 + 2 + j) (M := M) (by omega)
    generalize f_X0_copyFrom (a0 + 2 + j) (a1 + 2 + j) M = M' at b1 b2 b3
    obtain ⟨i1, i2, i3⟩ := ih f (j + 1) M' (by omega) (by omega) (by omega) (by rw [b1 _ _ (by omega)]; exact h1)
    refine ⟨fun c k hc => ?_, fun b k h2 h3 h4 => ?_, i3.trans b3⟩
    · rw [i1 c k (by omega), b1 c k (by omega)]
    · by_cases z : b = j
      · subst z
        rw [i1 _ _ (by omega), b2 k h4]
      · rw [i2 b k (by omega) h3 h4, b1 _ _ (by omega)]
theorem rcp {a0 a1 L : Nat} {C : zM} {S : Nat → Int32} (hd : a0 + 14 ≤ a1 ∨ a1 + 14 ≤ a0) (h : zRw L a1 C S) : zRw L a0 (f_X2_copyFrom a0 a1 C) S ∧ (∀ c k, ¬ (a0 ≤ c ∧ c < a0 + 14) → (f_X2_copyFrom a0 a1 C).1 c k = C.1 c k) ∧ (f_X2_copyFrom a0 a1 C).2 = C.2 := by
  obtain ⟨h0, h1, h2, h3, h4, h5, h6, h7⟩ := h
  unfold f_X2_copyFrom f_X4_copyFrom
  simp only []
  have e0 : (0 : Int32).toNatClampNeg = 0 := by decide
  have g2 : (zpI C a0 1 (C.1 a1 1)).1 a1 2 = C.1 a1 2 := zpI_off (by omega)
  rw [g2]
  have g3 : (zpI (zpI C a0 1 (C.1 a1 1)) a0 2 (C.1 a1 2)).1 a1 3 = C.1 a1 3 := (zpI_off (by omega)).trans (zpI_off (by omega))
  rw [g3]
  generalize hM3 : zpI (zpI (zpI C a0 1 (C.1 a1 1)) a0 2 (C.1 a1 2)) a0 3 (C.1 a1 3) = M3
  have m3o : ∀ c k, ¬ (c = a0 ∧ (k = 1 ∨ k = 2 ∨ k = 3)) → M3.1 c k = C.1 c k := fun c k hk => by rw [← hM3, zpI_off (by omega), zpI_off (by omega), zpI_off (by omega)]
  have m31 : M3.1 a0 1 = nI L := by rw [← hM3, zpI_off (by omega), zpI_off (by omega), zpI_at]; exact h1
  have m32 : M3.1 a0 2 = C.1 a1 2 := by rw [← hM3, zpI_off (by omega), zpI_at]
  have m33 : M3.1 a0 3 = C.1 a1 3 := by rw [← hM3]; exact zpI_at
  have m3l : M3.2 = C.2 := by rw [← hM3]; rfl
  clear hM3
  have t1 : M3.1 (a1 + 12) 1 = C.1 (a1 + 12) 1 := m3o _ _ (by omega)
  have t2 : (zpI M3 (a0 + 12) 1 (C.1 (a1 + 12) 1)).1 (a1 + 12 + 1) = C.1 (a1 + 13) := by
    rw [zpI_ne.1 _ (by omega)]
    exact funext fun k => m3o _ _ (by omega)
  have t3 : (zpI M3 (a0 + 12) 1 (C.1 (a1 + 12) 1)).1 (a0 + 12) 1 = C.1 (a1 + 12) 1 := zpI_at
  rw [t1, t2, t3, e0]
  generalize hM4 : zrI (zpI M3 (a0 + 12) 1 (C.1 (a1 + 12) 1)) (a0 + 12 + 1) (va_cpy (C.1 (a1 + 13)) ((zpI M3 (a0 + 12) 1 (C.1 (a1 + 12) 1)).1 (a0 + 12 + 1)) 0 0 (C.1 (a1 + 12) 1).toNatClampNeg) = M4
  have m4o : ∀ c k, ¬ (c = a0 + 12 ∧ k = 1) → c ≠ a0 + 13 → M4.1 c k = M3.1 c k := fun c k hk hc => by rw [← hM4, zrI_ne.1 c (by omega), zpI_off hk]
  have m4t : M4.1 (a0 + 12) 1 = C.1 (a1 + 12) 1 := by rw [← hM4, zrI_ne.1 _ (by omega)]; exact zpI_at
  have m4b : ∀ i, i < (C.1 (a1 + 12) 1).toNatClampNeg → M4.1 (a0 + 13) i = C.1 (a1 + 13) i := fun i hi => by
    rw [← hM4]
    show (zrI _ (a0 + 12 + 1) _).1 (a0 + 12 + 1) i = _
    rw [zrI_at, pk_cpy_in (by omega) (by omega), show 0 + (i - 0) = i by omega]
  have m4l : M4.2 = C.2 := by rw [← hM4]; exact m3l
  clear hM4
  obtain ⟨i1, i2, i3⟩ := rc37 (a0 := a0) (a1 := a1) hd h0 L 11 0 M4 rfl (by omega) (by omega) (by rw [m4o _ _ (by omega) (by omega)]; exact m31)
  rw [nI_0] at i1 i2 i3
  generalize f_X2_copyFrom_37 a0 a1 11 0 M4 = Y at i1 i2 i3
  refine ⟨⟨h0, ?_, h2, ?_, ?_, fun b w hb hw => ?_, h6, ?_⟩, fun c k hc => ?_, i3.trans m4l⟩
  · rw [i1 _ _ (by omega), m4o _ _ (by omega) (by omega)]; exact m31
  · rw [i1 _ _ (by omega), m4o _ _ (by omega) (by omega), m32]; exact h3
  · rw [i1 _ _ (by omega), m4o _ _ (by omega) (by omega), m33]; exact h4
  · rw [i2 b w (by omega) hb hw, m4o _ _ (by omega) (by omega), m3o _ _ (by omega)]
    exact h5 b w hb hw
  · have y1 : Y.1 (a0 + 12) 1 = C.1 (a1 + 12) 1 := by rw [i1 _ _ (by omega)]; exact m4t
    rw [y1]
    refine h7.cg (fun i hi => ?_) rfl (fun _ _ => rfl)
    rw [i1 _ _ (by omega)]
    refine m4b i ?_
    show i < (C.1 (a1 + 12) 1).toInt.toNat
    omega
  · rw [i1 c k (by omega), m4o c k (by omega) (by omega), m3o c k (by omega)]
theorem bcp {a0 a1 : Nat} {C : zM} {S : Nat → Int32} (hd : a0 + 5 ≤ a1 ∨ a1 + 5 ≤ a0) (h : zBo a1 C S) : zBo a0 (f_X1_copyFrom a0 a1 C) S ∧ (∀ c k, ¬ (a0 ≤ c ∧ c < a0 + 5) → (f_X1_copyFrom a0 a1 C).1 c k = C.1 c k) ∧ (f_X1_copyFrom a0 a1 C).2 = C.2 := by
  obtain ⟨n, x, h1, h2, h3, h4, h5, h6, h7, h8, h9⟩ := h
  have e0 : (0 : Int32).toNatClampNeg = 0 := by decide
  have e100 : (100 : Int32).toNatClampNeg = 100 := by decide
  have e7 : (7 : Int32).toNatClampNeg = 7 := by decide
  have form : ∃ Y : zM, f_X1_copyFrom a0 a1 C = Y ∧ (∀ i, i < 100 → Y.1 (a0 + 1) i = C.1 (a1 + 1) i ∧ Y.1 (a0 + 2) i = C.1 (a1 + 2) i ∧ Y.1 (a0 + 3) i = C.1 (a1 + 3) i) ∧ (∀ i, i < 7 → Y.1 (a0 + 4) i = C.1 (a1 + 4) i) ∧ (Y.1 a0 4 = C.1 a1 4 ∧ Y.1 a0 5 = C.1 a1 5 ∧ Y.1 a0 6 = C.1 a1 6 ∧ Y.1 a0 7 = C.1 a1 7) ∧ (∀ c k, ¬ (a0 ≤ c ∧ c < a0 + 5) → Y.1 c k = C.1 c k) ∧ Y.2 = C.2 := by
    refine ⟨_, rfl, ?_⟩
    unfold f_X1_copyFrom
    simp only []
    rw [e0, e100, e7]
    have r1 : ∀ f, (zrI C (a0 + 1) f).1 (a1 + 2) = C.1 (a1 + 2) := fun f => zrI_ne.1 _ (by omega)
    have r2 : ∀ f g, (zrI (zrI C (a0 + 1) f) (a0 + 2) g).1 (a1 + 3) = C.1 (a1 + 3) := fun f g => (zrI_ne.1 _ (by omega)).trans (zrI_ne.1 _ (by omega))
    have r3 : ∀ f g u, (zrI (zrI (zrI C (a0 + 1) f) (a0 + 2) g) (a0 + 3) u).1 (a1 + 4) = C.1 (a1 + 4) := fun f g u => (zrI_ne.1 _ (by omega)).trans ((zrI_ne.1 _ (by omega)).trans (zrI_ne.1 _ (by omega)))
    rw [r1, r2, r3]
    generalize hA1 : va_cpy (C.1 (a1 + 1)) (C.1 (a0 + 1)) 0 0 100 = A1
    generalize hA2 : va_cpy (C.1 (a1 + 2)) ((zrI C (a0 + 1) A1).1 (a0 + 2)) 0 0 100 = A2
    generalize hA3 : va_cpy (C.1 (a1 + 3)) ((zrI (zrI C (a0 + 1) A1) (a0 + 2) A2).1 (a0 + 3)) 0 0 100 = A3
    generalize hA4 : va_cpy (C.1 (a1 + 4)) ((zrI (zrI (zrI C (a0 + 1) A1) (a0 + 2) A2) (a0 + 3) A3).1 (a0 + 4)) 0 0 7 = A4
    have g1 : ∀ i, i < 100 → A1 i = C.1 (a1 + 1) i := fun i hi => by rw [← hA1, pk_cpy_in (by omega) (by omega), show 0 + (i - 0) = i by omega]
    have g2 : ∀ i, i < 100 → A2 i = C.1 (a1 + 2) i := fun i hi => by rw [← hA2, pk_cpy_in (by omega) (by omega), show 0 + (i - 0) = i by omega]
    have g3 : ∀ i, i < 100 → A3 i = C.1 (a1 + 3) i := fun i hi => by rw [← hA3, pk_cpy_in (by omega) (by omega), show 0 + (i - 0) = i by omega]
    have g4 : ∀ i, i < 7 → A4 i = C.1 (a1 + 4) i := fun i hi => by rw [← hA4, pk_cpy_in (by omega) (by omega), show 0 + (i - 0) = i by omega]
    clear hA1 hA2 hA3 hA4
    generalize hW : zrI (zrI (zrI (zrI C (a0 + 1) A1) (a0 + 2) A2) (a0 + 3) A3) (a0 + 4) A4 = W
    have w1 : W.1 (a0 + 1) = A1 := by rw [← hW, zrI_ne.1 _ (by omega), zrI_ne.1 _ (by omega), zrI_ne.1 _ (by omega)]; exact zrI_at
    have w2 : W.1 (a0 + 2) = A2 := by rw [← hW, zrI_ne.1 _ (by omega), zrI_ne.1 _ (by omega)]; exact zrI_at
    have w3 : W.1 (a0 + 3) = A3 := by rw [← hW, zrI_ne.1 _ (by omega)]; exact zrI_at
    have w4 : W.1 (a0 + 4) = A4 := by rw [← hW]; exact zrI_at
    have wo : ∀ c, ¬ (a0 + 1 ≤ c ∧ c < a0 + 5) → W.1 c = C.1 c := fun c hc => by rw [← hW, zrI_ne.1 _ (by omega), zrI_ne.1 _ (by omega), zrI_ne.1 _ (by omega), zrI_ne.1 _ (by omega)]
    have wl : W.2 = C.2 := by rw [← hW]; rfl
    clear hW
    refine ⟨fun i hi => ⟨?_, ?_, ?_⟩, fun i hi => ?_, ⟨?_, ?_, ?_, ?_⟩, fun c k hc => ?_, ?_⟩
    · simp (disch := omega) only [zpI_off]; rw [w1]; exact g1 i hi
    · simp (disch := omega) only [zpI_off]; rw [w2]; exact g2 i hi
    · simp (disch := omega) only [zpI_off]; rw [w3]; exact g3 i hi
    · simp (disch := omega) only [zpI_off]; rw [w4]; exact g4 i hi
    · simp (disch := omega) only [zpI_off, zpI_at]; rw [wo _ (by omega)]
    · simp (disch := omega) only [zpI_off, zpI_at]; rw [wo _ (by omega)]
    · simp (disch := omega) only [zpI_off, zpI_at]; rw [wo _ (by omega)]
    · simp (disch := omega) only [zpI_off, zpI_at]; rw [wo _ (by omega)]
    · simp (disch := omega) only [zpI_off]; rw [wo c (by omega)]
    · exact wl
  obtain ⟨Y, eY, y1, y2, ⟨y3, y4, y5, y6⟩, y7, y8⟩ := form
  rw [eY]
  refine ⟨⟨n, x, h1, h2, y3.trans h3, h4, y4.trans h5, fun i hi => ?_, fun c hc => (y2 c hc).trans (h7 c hc), y5.trans h8, y6.trans h9⟩, y7, y8⟩
  have hs : zSl x i < 100 := by unfold zSl; omega
  obtain ⟨z1, z2, z3⟩ := y1 (zSl x i) hs
  rw [z1, z2, z3]
  exact h6 i hi
theorem lay_2 {a b : Nat} {M : zM} : (f_X6_lay a b M).2 = M.2 := by
  have k : ∀ (n : Nat) (v : Int32) (M : zM), (f_X6_lay_2 a b n v M).2 = M.2 := by
    intro n
    induction n with
    | zero => intro v M; rfl
    | succ n ih =>
      intro v M
      unfold f_X6_lay_2
      split
      · rfl
      · simp only []
        rw [ih]
        rfl
  exact k _ _ M
theorem zVl.all {S S' : Nat → Int32} (h : zVl S) (e : ∀ k, k < 448 → S' k = S k) : zVl S' := h.cg (e 5 (by omega)) (fun i hi => e _ (by omega))
theorem zRw.all {L r : Nat} {C : zM} {S S' : Nat → Int32} (h : zRw L r C S) (e : ∀ k, k < 448 → S' k = S k) : zRw L r C S' := h.row (fun k hk => e k (by omega))
theorem image_core {C C2 R R1 : zM} {L : Nat} (h : zIN C R) (a1 : zRw L 15 C2 (R.1 1)) (b1 : zBo 48 C2 (R.1 1)) (b2 : ∀ c k, ¬ (15 ≤ c ∧ c < 29) → ¬ (48 ≤ c ∧ c < 53) → C2.1 c k = C.1 c k) (c2 : C2.2 = C.2) (l2 : ∀ k, k < 448 → R1.1 2 k = R.1 1 k) (lo : ∀ c, c ≠ 2 → R1.1 c = R.1 c) (ll : R1.2 = R.2) : zIN (zpI C2 0 5 1) (zpI R1 0 3 1) := by
  have co : ∀ c k, ¬ (c = 0 ∧ k = 5) → ¬ (15 ≤ c ∧ c < 29) → ¬ (48 ≤ c ∧ c < 53) → (zpI C2 0 5 1).1 c k = C.1 c k := fun c k h1 h2 h3 => by rw [zpI_off h1, b2 c k h2 h3]
  have ro : ∀ c k, ¬ (c = 0 ∧ k = 3) → c ≠ 2 → (zpI R1 0 3 1).1 c k = R.1 c k := fun c k h1 h2 => by rw [zpI_off h1, lo c h2]
  have rr2 : ∀ k, k < 448 → (zpI R1 0 3 1).1 2 k = R.1 1 k := fun k hk => by rw [zpI_off (by omega)]; exact l2 k hk
  have q1 : zLv (zpI C2 0 5 1) (zpI R1 0 3 1) := h.1.sr ⟨co _ _ (by omega) (by omega) (by omega), co _ _ (by omega) (by omega) (by omega), co _ _ (by omega) (by omega) (by omega), fun b w hb hw => co _ _ (by omega) (by omega) (by omega), co _ _ (by omega) (by omega) (by omega), funext fun k => co _ _ (by omega) (by omega) (by omega)⟩ (fun c z1 z2 => funext fun k => co _ _ (by omega) (by omega) (by omega)) (funext fun k => ro 1 k (by omega) (by omega))
  have q2 : zRw L 15 (zpI C2 0 5 1) ((zpI R1 0 3 1).1 2) := (a1.cg (fun c k z1 z2 => zpI_off (by omega))).all rr2
  have q3 : zBo 48 (zpI C2 0 5 1) ((zpI R1 0 3 1).1 2) := b1.cg (fun c z1 z2 => zpI_ne.1 c (by omega)) (fun k hk => rr2 k (by omega))
  have q4 : zVl ((zpI R1 0 3 1).1 2) := h.1.2.2.all rr2
  have q5 : ∃ n, zTb 53 n (zpI C2 0 5 1) (zpI R1 0 3 1) := by
    obtain ⟨n, ht⟩ := h.2.2.1
    exact ⟨n, ht.cg (co _ _ (by omega) (by omega) (by omega)) (funext fun k => co _ _ (by omega) (by omega) (by omega)) (ro 0 5 (by omega) (by omega)) (funext fun k => ro 4 k (by omega) (by omega))⟩
  have q6 : ∀ k, k < 7 → (zpI C2 0 5 1).1 64 k = (zpI R1 0 3 1).1 5 k := fun k hk => by
    rw [co 64 k (by omega) (by omega) (by omega), ro 5 k (by omega) (by omega)]; exact h.2.2.2.1 k hk
  have q7 : zShs (zpI C2 0 5 1) (zpI R1 0 3 1) := by
    intro q hq
    have r12 : (zpI R1 0 3 1).1 12 = R.1 12 := funext fun k => ro 12 k (by omega) (by omega)
    have r13 : (zpI R1 0 3 1).1 13 = R.1 13 := funext fun k => ro 13 k (by omega) (by omega)
    have e2 : (zpI C2 0 5 1).2 = C.2 := c2
    have e3 : (zpI R1 0 3 1).2 = R.2 := ll
    rw [co _ 1 (by omega) (by omega) (by omega), co _ 2 (by omega) (by omega) (by omega), r12, r13, e2, e3]
    exact h.2.2.2.2 q hq
  have q8 : (zpI C2 0 5 1).1 0 5 = (zpI R1 0 3 1).1 0 3 := zpI_at.trans zpI_at.symm
  exact ⟨q1, ⟨q8, fun _ => ⟨⟨L, q2⟩, q3, q4⟩⟩, q5, q6, q7⟩
theorem undo_core {C C2 R R1 : zM} {L : Nat} (h : zIN C R) (a1 : zRw L 1 C2 (R.1 2)) (b1 : zBo 43 C2 (R.1 2)) (hv : zVl (R.1 2)) (b2 : ∀ c k, ¬ (1 ≤ c ∧ c < 15) → ¬ (43 ≤ c ∧ c < 48) → C2.1 c k = C.1 c k) (c2 : C2.2 = C.2) (l2 : ∀ k, k < 448 → R1.1 1 k = R.1 2 k) (lo : ∀ c, c ≠ 1 → R1.1 c = R.1 c) (ll : R1.2 = R.2) : C2.1 1 1 = R1.1 1 0 ∧ zIN C2 R1 := by
  have a1' : zRw L 1 C2 (R1.1 1) := a1.all l2
  have b1' : zBo 43 C2 (R1.1 1) := b1.cg (fun _ _ _ => rfl) (fun k hk => l2 k (by omega))
  refine ⟨a1'.2.1.trans a1'.2.2.1.symm, ⟨⟨L, a1'⟩, b1', hv.all l2⟩, h.2.cg (fun c k y => ?_) c2 (fun c k y => ?_) (by rw [ll])⟩
  · unfold oC at y
    exact b2 c k (by omega) (by omega)
  · unfold oR at y
    rw [lo c (by omega)]
theorem m_image {C R : zM} (h : zIN C R) : zEq (f_X5_image C) (f_X6_image R) := by
  obtain ⟨L, hw⟩ := h.1.1
  have r := rcp (a0 := 15) (a1 := 1) (by omega) hw
  have hb : zBo 43 (f_X2_copyFrom 15 1 C) (R.1 1) := h.1.2.1.cg (fun c z1 z2 => funext fun k => r.2.1 c k (by omega)) (fun _ _ => rfl)
  have b := bcp (a0 := 48) (a1 := 43) (C := f_X2_copyFrom 15 1 C) (by omega) hb
  have core := image_core (C2 := f_X1_copyFrom 48 43 (f_X2_copyFrom 15 1 C)) (R1 := f_X6_lay 1 2 R) h (r.1.cg (fun c k z1 z2 => b.2.1 c k (by omega))) b.1 (fun c k z1 z2 => (b.2.1 c k z2).trans (r.2.1 c k (by omega))) (b.2.2.trans r.2.2) (fun k hk => (lay_at (by omega) k).trans (if_pos hk)) (fun c hc => rw_lay hc) lay_2
  have e1 : f_X5_image C = (1, zpI (f_X1_copyFrom 48 43 (f_X2_copyFrom 15 1 C)) 0 5 1) := by unfold f_X5_image; rfl
  have e2 : f_X6_image R = (1, zpI (f_X6_lay 1 2 R) 0 3 1) := by unfold f_X6_image; rfl
  rw [e1, e2]
  generalize zpI (f_X1_copyFrom 48 43 (f_X2_copyFrom 15 1 C)) 0 5 1 = X at core ⊢
  generalize zpI (f_X6_lay 1 2 R) 0 3 1 = Y at core ⊢
  exact ⟨rfl, core⟩
theorem m_undo {C R : zM} (h : zIN C R) : zEq (f_X5_undo C) (f_X6_undo R) := by
  obtain ⟨k1, k2⟩ := h.2.1
  by_cases z : C.1 0 5 = 0
  · have e1 : f_X5_undo C = f_X5_finding (-1000000004) C := by unfold f_X5_undo; rw [if_pos z]
    have e2 : f_X6_undo R = f_X6_no 3 R := by unfold f_X6_undo; rw [← k1, if_pos z]
    rw [e1, e2]
    exact eq_f3 h
  · have e1 : f_X5_undo C = ((f_X1_copyFrom 43 48 (f_X2_copyFrom 1 15 C)).1 1 1, f_X1_copyFrom 43 48 (f_X2_copyFrom 1 15 C)) := by unfold f_X5_undo; rw [if_neg z]
    have e2 : f_X6_undo R = ((f_X6_lay 2 1 R).1 1 0, f_X6_lay 2 1 R) := by unfold f_X6_undo; rw [← k1, if_neg z]
    obtain ⟨⟨L, hw⟩, hb, hv⟩ := k2 z
    have r := rcp (a0 := 1) (a1 := 15) (by omega) hw
    have hb2 : zBo 48 (f_X2_copyFrom 1 15 C) (R.1 2) := hb.cg (fun c z1 z2 => funext fun k => r.2.1 c k (by omega)) (fun _ _ => rfl)
    have b := bcp (a0 := 43) (a1 := 48) (C := f_X2_copyFrom 1 15 C) (by omega) hb2
    have core := undo_core (C2 := f_X1_copyFrom 43 48 (f_X2_copyFrom 1 15 C)) (R1 := f_X6_lay 2 1 R) h (r.1.cg (fun c k z1 z2 => b.2.1 c k (by omega))) b.1 hv (fun c k z1 z2 => (b.2.1 c k z2).trans (r.2.1 c k (by omega))) (b.2.2.trans r.2.2) (fun k hk => (lay_at (by omega) k).trans (if_pos hk)) (fun c hc => rw_lay hc) lay_2
    rw [e1, e2]
    generalize f_X1_copyFrom 43 48 (f_X2_copyFrom 1 15 C) = X at core ⊢
    generalize f_X6_lay 2 1 R = Y at core ⊢
    exact core
