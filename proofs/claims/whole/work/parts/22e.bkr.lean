theorem g148 {i : Nat} (h : i < 100) : ((148 : Int32) + nI i).toNatClampNeg = 148 + i ∧ ((248 : Int32) + nI i).toNatClampNeg = 248 + i ∧ ((348 : Int32) + nI i).toNatClampNeg = 348 + i := by
  have key : ∀ i : Nat, i < 100 → ((148 : Int32) + nI i).toNatClampNeg = 148 + i ∧ ((248 : Int32) + nI i).toNatClampNeg = 248 + i ∧ ((348 : Int32) + nI i).toNatClampNeg = 348 + i := by decide
  exact key i h
theorem m_tone {C R : zM} (h : zIN C R) : zEq (f_X5_tone C) (f_X6_tone R) := by
  obtain ⟨n, x, h1, h2, h3, h4, h5, h6, -, -, -⟩ := h.1.2.1
  exact zlock2 (L := n) (P := fun _ (a b : Int32) => a = b) (Q := zEq) (F := fun k j a => f_X5_tone_4 k a (nI j) C) (G := fun k j b => f_X6_tone_4 k b (nI j) R)
    (by
      intro k m j a b hj hP
      subst hP
      by_cases q : j = n
      · left
        subst q
        show zEq (f_X5_tone_4 (k + 1) a (nI j) C) (f_X6_tone_4 (m + 1) a (nI j) R)
        rw [f_X5_tone_4, f_X6_tone_4, h3, h4, if_pos (Int32.le_refl _), if_pos (Int32.le_refl _)]
        exact eq_f3 h
      · have hjn : j < n := by omega
        obtain ⟨b1, b2, b3⟩ := bk_at h5 h2 h6 h1 hjn
        have e1 : f_X5_tone_4 (k + 1) a (nI j) C = if R.1 1 (148 + j) ≤ 0 then f_X5_tone_4 k a (nI (j + 1)) C else if a < 0 then f_X5_tone_4 k (nI j) (nI (j + 1)) C else (nI j - a, C) := by
          rw [f_X5_tone_4, h3, if_neg (nI_ge hjn (by omega))]
          simp only []
          rw [b1, nI_1]
        have e2 : f_X6_tone_4 (m + 1) a (nI j) R = if R.1 1 (148 + j) ≤ 0 then f_X6_tone_4 m a (nI (j + 1)) R else if a < 0 then f_X6_tone_4 m (nI j) (nI (j + 1)) R else (nI j - a, R) := by
          rw [f_X6_tone_4, h4, if_neg (nI_ge hjn (by omega)), (g148 (by omega)).1, nI_1]
        by_cases q1 : R.1 1 (148 + j) ≤ 0
        · right
          refine ⟨hjn, a, a, rfl, ?_, ?_⟩
          · show f_X5_tone_4 (k + 1) a (nI j) C = _
            rw [e1, if_pos q1]
          · show f_X6_tone_4 (m + 1) a (nI j) R = _
            rw [e2, if_pos q1]
        · by_cases q2 : a < 0
          · right
            refine ⟨hjn, nI j, nI j, rfl, ?_, ?_⟩
            · show f_X5_tone_4 (k + 1) a (nI j) C = _
              rw [e1, if_neg q1, if_pos q2]
            · show f_X6_tone_4 (m + 1) a (nI j) R = _
              rw [e2, if_neg q1, if_pos q2]
          · left
            show zEq (f_X5_tone_4 (k + 1) a (nI j) C) (f_X6_tone_4 (m + 1) a (nI j) R)
            rw [e1, e2, if_neg q1, if_neg q1, if_neg q2, if_neg q2]
            exact ⟨rfl, h⟩)
    (n - 0) 101 101 0 (-1) (-1) rfl (Nat.zero_le n) (by omega) (by omega) rfl
theorem m_noise {C R : zM} (h : zIN C R) (p1 : Int32) : zEqL (f_X5_noise p1 C) (f_X6_noise p1 R) := by
  obtain ⟨L, hw⟩ := h.1.1
  obtain ⟨n, x, h1, h2, h3, h4, h5, h6, -, -, -⟩ := h.1.2.1
  unfold f_X5_noise f_X6_noise
  simp only []
  rw [has_eq hw.2.1 hw.2.2.1 hw.1]
  by_cases q : f_X6_isBlock p1 R = 0
  · rw [if_pos q, if_pos q]
    have := eq_f0 h
    exact ⟨congrArg Int32.toInt64 this.1, this.2⟩
  rw [if_neg q, if_neg q]
  exact zlock (L := n) (P := fun _ (a b : Int64) => a = b) (Q := zEqL) (F := fun k j a => f_X5_noise_24 p1 k a (nI j) C) (G := fun k j b => f_X6_noise_20 p1 k b (nI j) R)
    (by
      intro k m a b hP
      subst hP
      show zEqL (f_X5_noise_24 p1 (k + 1) a (nI n) C) (f_X6_noise_20 p1 (m + 1) a (nI n) R)
      rw [f_X5_noise_24, f_X6_noise_20, h3, h4, if_pos (Int32.le_refl _), if_pos (Int32.le_refl _)]
      exact ⟨rfl, h⟩)
    (by
      intro k m j a b hj hP
      subst hP
      obtain ⟨b1, b2, b3⟩ := bk_at h5 h2 h6 h1 hj
      have e1 : f_X5_noise_24 p1 (k + 1) a (nI j) C = if (R.1 1 (248 + j) >>> (p1 &&& 31)) &&& 1 = 1 then f_X5_noise_24 p1 k (a + (R.1 1 (348 + j)).toInt64) (nI (j + 1)) C else f_X5_noise_24 p1 k a (nI (j + 1)) C := by
        rw [f_X5_noise_24, h3, if_neg (nI_ge hj (by omega))]
        simp only []
        rw [b2, b3, nI_1]
      have e2 : f_X6_noise_20 p1 (m + 1) a (nI j) R = if (R.1 1 (248 + j) >>> (p1 &&& 31)) &&& 1 = 1 then f_X6_noise_20 p1 m (a + (R.1 1 (348 + j)).toInt64) (nI (j + 1)) R else f_X6_noise_20 p1 m (a + 0) (nI (j + 1)) R := by
        rw [f_X6_noise_20, h4, if_neg (nI_ge hj (by omega)), (g148 (by omega)).2.1, (g148 (by omega)).2.2, nI_1]
      by_cases q1 : (R.1 1 (248 + j) >>> (p1 &&& 31)) &&& 1 = 1
      · refine ⟨a + (R.1 1 (348 + j)).toInt64, a + (R.1 1 (348 + j)).toInt64, rfl, ?_, ?_⟩
        · show f_X5_noise_24 p1 (k + 1) a (nI j) C = _
          rw [e1, if_pos q1]
        · show f_X6_noise_20 p1 (m + 1) a (nI j) R = _
          rw [e2, if_pos q1]
      · refine ⟨a, a, rfl, ?_, ?_⟩
        · show f_X5_noise_24 p1 (k + 1) a (nI j) C = _
          rw [e1, if_neg q1]
        · show f_X6_noise_20 p1 (m + 1) a (nI j) R = _
          rw [e2, if_neg q1, Int64.add_zero])
    (n - 0) 101 101 0 0 0 rfl (Nat.zero_le n) (by omega) (by omega) rfl
theorem m_great {C R : zM} (h : zIN C R) (p1 p2 : Int32) : zEq (f_X5_great p1 p2 C) (f_X6_great p1 p2 R) := by
  obtain ⟨n, x, h1, h2, h3, h4, h5, h6, -, -, -⟩ := h.1.2.1
  unfold f_X5_great f_X6_great f_X5_great_20 f_X6_great_20
  simp only []
  rw [wi_in, wi_in]
  by_cases q : f_X6_in p1 1 400 = 0
  · rw [if_pos q, if_pos q]
    exact eq_f0 h
  rw [if_neg q, if_neg q]
  by_cases q2 : f_X6_in p2 0 1 = 0
  · rw [if_pos q2, if_pos q2]
    exact eq_f0 h
  rw [if_neg q2, if_neg q2]
  exact zlock (L := n) (P := fun _ (a : Int32 × Int32) (b : Int32) => b = if p2 = 0 then a.1 else a.2) (Q := zEq) (F := fun k j a => f_X5_great_35 p1 p2 k a.1 a.2 (nI j) C) (G := fun k j b => f_X6_great_31 p1 p2 k b (nI j) R)
    (by
      intro k m a b hP
      subst hP
      show zEq (f_X5_great_35 p1 p2 (k + 1) a.1 a.2 (nI n) C) (f_X6_great_31 p1 p2 (m + 1) _ (nI n) R)
      rw [f_X5_great_35, f_X6_great_31, h3, h4, if_pos (Int32.le_refl _), if_pos (Int32.le_refl _)]
      by_cases z : p2 = 0
      · rw [if_pos z, if_pos z]; exact ⟨rfl, h⟩
      · rw [if_neg z, if_neg z]; exact ⟨rfl, h⟩)
    (by
      intro k m j a b hj hP
      subst hP
      obtain ⟨b1, b2, b3⟩ := bk_at h5 h2 h6 h1 hj
      have g1 : ((148 : Int32) + nI j + 1).toNatClampNeg = 148 + (j + 1) ∨ ¬ j + 1 < n := by
        by_cases z : j + 1 < n
        · left
          have key : ∀ i : Nat, i < 100 → ((148 : Int32) + nI i + 1).toNatClampNeg = 148 + (i + 1) := by decide
          exact key j (by omega)
        · exact Or.inr z
      have e1 : f_X5_great_35 p1 p2 (k + 1) a.1 a.2 (nI j) C = if R.1 1 (148 + j) < p1 then f_X5_great_35 p1 p2 k a.1 a.2 (nI (j + 1)) C else f_X5_great_35 p1 p2 k (a.1 + 1) (if j + 1 < n ∧ 0 < R.1 1 (148 + (j + 1)) then a.2 + 1 else a.2) (nI (j + 1)) C := by
        rw [f_X5_great_35, h3, if_neg (nI_ge hj (by omega))]
        simp only []
        rw [b1, nI_1]
        by_cases y : R.1 1 (148 + j) < p1
        · rw [if_pos y, if_pos y]
        rw [if_neg y, if_neg y]
        by_cases z : j + 1 < n
        · obtain ⟨c1, -, -⟩ := bk_at h5 h2 h6 h1 z
          rw [c1, if_neg (nI_ge z (by omega))]
          by_cases z2 : R.1 1 (148 + (j + 1)) ≤ 0
          · have zz : ¬ (j + 1 < n ∧ 0 < R.1 1 (148 + (j + 1))) := fun w => absurd z2 (Int32.not_le.mpr w.2)
            rw [if_pos z2, if_neg zz]
          · have zz : j + 1 < n ∧ 0 < R.1 1 (148 + (j + 1)) := ⟨z, Int32.not_le.mp z2⟩
            rw [if_neg z2, if_pos zz]
        · have zz : ¬ (j + 1 < n ∧ 0 < R.1 1 (148 + (j + 1))) := fun w => z w.1
          rw [if_pos (nI_le (by omega) (by omega)), if_neg zz]
      have k63 : ∀ (y : Int32), f_X6_great_63 p1 p2 (fun wv3 wv4 wmm => f_X6_great_31 p1 p2 m wv3 wv4 wmm) (if p2 = 0 then a.1 else a.2) (nI j) y R = f_X6_great_100 p1 p2 (fun wv3 wv4 wmm => f_X6_great_31 p1 p2 m wv3 wv4 wmm) (if p2 = 0 then a.1 else a.2) (nI j) y (if j + 1 < n ∧ 0 < R.1 1 (148 + (j + 1)) then 1 else 0) R := by
        intro y
        unfold f_X6_great_63 f_X6_great_99
        rw [h4, nI_1]
        by_cases z : j + 1 < n
        · rw [if_neg (nI_ge z (by omega)), g1.resolve_right (fun w => w z)]
          by_cases z2 : R.1 1 (148 + (j + 1)) ≤ 0
          · have zz : ¬ (j + 1 < n ∧ 0 < R.1 1 (148 + (j + 1))) := fun w => absurd z2 (Int32.not_le.mpr w.2)
            rw [if_pos z2, if_neg zz]
          · have zz : j + 1 < n ∧ 0 < R.1 1 (148 + (j + 1)) := ⟨z, Int32.not_le.mp z2⟩
            rw [if_neg z2, if_pos zz]
        · have zz : ¬ (j + 1 < n ∧ 0 < R.1 1 (148 + (j + 1))) := fun w => z w.1
          rw [if_pos (nI_le (by omega) (by omega)), if_neg zz]
      have e2 : f_X6_great_31 p1 p2 (m + 1) (if p2 = 0 then a.1 else a.2) (nI j) R = f_X6_great_100 p1 p2 (fun wv3 wv4 wmm => f_X6_great_31 p1 p2 m wv3 wv4 wmm) (if p2 = 0 then a.1 else a.2) (nI j) (if R.1 1 (148 + j) < p1 then 0 else 1) (if j + 1 < n ∧ 0 < R.1 1 (148 + (j + 1)) then 1 else 0) R := by
        rw [f_X6_great_31, h4, if_neg (nI_ge hj (by omega)), (g148 (by omega)).1]
        by_cases z : R.1 1 (148 + j) < p1
        · rw [if_pos z, if_pos z, k63]
        · rw [if_neg z, if_neg z, k63]
      unfold f_X6_great_100 at e2
      simp only [Int32.add_zero, nI_1] at e2
      by_cases q1 : R.1 1 (148 + j) < p1
      · refine ⟨a, _, rfl, ?_, ?_⟩
        · show f_X5_great_35 p1 p2 (k + 1) a.1 a.2 (nI j) C = _
          rw [e1, if_pos q1]
        · show f_X6_great_31 p1 p2 (m + 1) _ (nI j) R = _
          rw [e2, if_pos q1, if_pos rfl]
      · refine ⟨(a.1 + 1, if j + 1 < n ∧ 0 < R.1 1 (148 + (j + 1)) then a.2 + 1 else a.2), _, rfl, ?_, ?_⟩
        · show f_X5_great_35 p1 p2 (k + 1) a.1 a.2 (nI j) C = _
          rw [e1, if_neg q1]
        · show f_X6_great_31 p1 p2 (m + 1) _ (nI j) R = f_X6_great_31 p1 p2 m (if p2 = 0 then a.1 + 1 else (if j + 1 < n ∧ 0 < R.1 1 (148 + (j + 1)) then a.2 + 1 else a.2)) (nI (j + 1)) R
          rw [e2, if_neg q1, if_neg (by decide)]
          by_cases z : p2 = 0
          · rw [if_pos z, if_pos z, if_pos z]
          · rw [if_neg z, if_neg z, if_neg z]
            by_cases z2 : j + 1 < n ∧ 0 < R.1 1 (148 + (j + 1))
            · rw [if_pos z2, if_neg (by decide), if_pos z2]
            · rw [if_neg z2, if_pos rfl, if_neg z2])
    (n - 0) 101 101 0 (0, 0) 0 rfl (Nat.zero_le n) (by omega) (by omega) (by split <;> rfl)
