/-! the calls of sheets -/
theorem zpL_at {M : zM} {c k : Nat} {v : Int64} : (zpL M c k v).2 c k = v := by simp [zpL, zrL, va_up, vp_updL]
theorem zpL_off {M : zM} {c k a b : Nat} {v : Int64} (h : ¬ (a = c ∧ b = k)) : (zpL M c k v).2 a b = M.2 a b := by
  by_cases hc : a = c
  · subst hc
    have hb : b ≠ k := fun q => h ⟨rfl, q⟩
    simp [zpL, zrL, va_up, vp_updL, hb]
  · simp [zpL, zrL, va_up, hc]
theorem IN_sh {C C' R R' : zM} {q n : Nat} (h : zIN C R) (hq : q < 4) (hn : n ≤ 40) (c1 : C'.1 (56 + 2 * q) 1 = R'.1 12 q) (c2 : C'.1 (56 + 2 * q) 2 = nI n) (r2 : R'.1 13 q = nI n) (cl : ∀ i, i < 40 → C'.2 (56 + 2 * q + 1) i = R'.2 14 (40 * q + i))
    (co : ∀ c k, c ≠ 56 + 2 * q → C'.1 c k = C.1 c k) (cl2 : ∀ a, a ≠ 56 + 2 * q + 1 → C'.2 a = C.2 a) (ro : ∀ c k, ¬ ((c = 12 ∨ c = 13) ∧ k = q) → R'.1 c k = R.1 c k) (rl : ∀ i, ¬ (40 * q ≤ i ∧ i < 40 * q + 40) → R'.2 14 i = R.2 14 i) : zIN C' R' := by
  obtain ⟨h1, ⟨k1, k2⟩, ⟨m, ht⟩, hf, hs⟩ := h
  have rr2 : R'.1 2 = R.1 2 := funext fun k => ro 2 k (by omega)
  refine ⟨h1.sr ⟨co _ _ (by omega), co _ _ (by omega), co _ _ (by omega), fun b w hb hw => co _ _ (by omega), co _ _ (by omega), funext fun k => co _ _ (by omega)⟩ (fun c z1 z2 => funext fun k => co _ _ (by omega)) (funext fun k => ro 1 k (by omega)), ⟨?_, fun z => ?_⟩, ⟨m, ht.cg (co _ _ (by omega)) (funext fun k => co _ _ (by omega)) (ro 0 5 (by omega)) (funext fun k => ro 4 k (by omega))⟩, fun k hk => ?_, fun j hj => ?_⟩
  · rw [co 0 5 (by omega), ro 0 3 (by omega)]; exact k1
  · rw [co 0 5 (by omega)] at z
    obtain ⟨⟨L, w1⟩, w2, w3⟩ := k2 z
    rw [rr2]
    exact ⟨⟨L, w1.cg (fun c k z1 z2 => co _ _ (by omega))⟩, w2.cg (fun c z1 z2 => funext fun k => co _ _ (by omega)) (fun _ _ => rfl), w3⟩
  · rw [co 64 k (by omega), ro 5 k (by omega)]; exact hf k hk
  · by_cases z : j = q
    · subst z
      exact ⟨c1, ⟨n, hn, c2, r2⟩, cl⟩
    · obtain ⟨s1, s2, s3⟩ := hs j hj
      rw [co (56 + 2 * j) 1 (by omega), co (56 + 2 * j) 2 (by omega), ro 12 j (by omega), ro 13 j (by omega), cl2 (56 + 2 * j + 1) (by omega)]
      exact ⟨s1, s2, fun i hi => by rw [rl (40 * j + i) (by omega)]; exact s3 i hi⟩
theorem beg20 {c : Nat} {p1 p2 : Int32} : ∀ (d f j : Nat) (M : zM), d = 40 - j → j ≤ 40 → 40 < j + f → (f_X3_begin_20 c p1 p2 f (nI j) M).1 = M.1 ∧ (∀ a, a ≠ c + 1 → (f_X3_begin_20 c p1 p2 f (nI j) M).2 a = M.2 a) ∧ (∀ i, (f_X3_begin_20 c p1 p2 f (nI j) M).2 (c + 1) i = if j ≤ i ∧ i < 40 then 0 else M.2 (c + 1) i) := by
  intro d
  induction d with
  | zero =>
    intro f j M hd hj hf
    obtain ⟨f, rfl⟩ : ∃ f', f = f' + 1 := ⟨f - 1, by omega⟩
    obtain rfl : j = 40 := by omega
    rw [f_X3_begin_20, if_pos (by decide)]
    exact ⟨rfl, fun _ _ => rfl, fun i => by rw [if_neg (by omega)]⟩
  | succ d ih =>
    intro f j M hd hj hf
    obtain ⟨f, rfl⟩ : ∃ f', f = f' + 1 := ⟨f - 1, by omega⟩
    rw [f_X3_begin_20, if_neg (show ¬ (40 : Int32) ≤ nI j from nI_ge (b := 40) (by omega) (by omega)), zcl0 (show j < 1000 by omega), nI_1]
    simp only []
    obtain ⟨i1, i2, i3⟩ := ih f (j + 1) (zpL M (c + 1) j 0) (by omega) (by omega) (by omega)
    refine ⟨i1, fun a ha => (i2 a ha).trans (zpL_ne.2 a ha), fun i => ?_⟩
    rw [i3]
    by_cases q : i = j
    · subst q; rw [if_neg (by omega), zpL_at, if_pos (by omega)]
    · rw [zpL_off (by omega)]
      by_cases q2 : j + 1 ≤ i ∧ i < 40
      · rw [if_pos q2, if_pos (by omega)]
      · rw [if_neg q2, if_neg (by omega)]
theorem sh83 {q : Nat} (hq : q < 4) {p2 p3 : Int32} : ∀ (d f j : Nat) (M : zM), d = 40 - j → j ≤ 40 → 40 < j + f → (f_X6_sheet_83 (nI q) p2 p3 f (nI j) M).1 = M.1 13 q ∧ (f_X6_sheet_83 (nI q) p2 p3 f (nI j) M).2.1 = M.1 ∧ (∀ i, (f_X6_sheet_83 (nI q) p2 p3 f (nI j) M).2.2 14 i = if 40 * q + j ≤ i ∧ i < 40 * q + 40 then 0 else M.2 14 i) := by
  have key : ∀ q, q < 4 → ∀ j, j < 40 → ((40 : Int32) * nI q + nI j).toNatClampNeg = 40 * q + j := by decide
  intro d
  induction d with
  | zero =>
    intro f j M hd hj hf
    obtain ⟨f, rfl⟩ : ∃ f', f = f' + 1 := ⟨f - 1, by omega⟩
    obtain rfl : j = 40 := by omega
    rw [f_X6_sheet_83, if_pos (by decide), zcl0 (show q < 1000 by omega)]
    exact ⟨rfl, rfl, fun i => by rw [if_neg (by omega)]⟩
  | succ d ih =>
    intro f j M hd hj hf
    obtain ⟨f, rfl⟩ : ∃ f', f = f' + 1 := ⟨f - 1, by omega⟩
    rw [f_X6_sheet_83, if_neg (show ¬ (40 : Int32) ≤ nI j from nI_ge (b := 40) (by omega) (by omega)), key q hq j (by omega), nI_1]
    simp only []
    obtain ⟨i1, i2, i3⟩ := ih f (j + 1) (zpL M 14 (40 * q + j) 0) (by omega) (by omega) (by omega)
    refine ⟨i1, i2, fun i => ?_⟩
    rw [i3]
    by_cases z : i = 40 * q + j
    · subst z; rw [if_neg (by omega), zpL_at, if_pos (by omega)]
    · rw [zpL_off (by omega)]
      by_cases q2 : 40 * q + (j + 1) ≤ i ∧ i < 40 * q + 40
      · rw [if_pos q2, if_pos (by omega)]
      · rw [if_neg q2, if_neg (by omega)]
theorem sheet_eq {C R : zM} (h : zIN C R) {q m : Nat} (hq : q < 4) (hm : m ≤ 40) (p2 p3 s0 : Int32) (hs0 : s0 = nI m) : zEq ((f_X3_begin_15 (56 + 2 * q) p2 p3 s0 (zpI C (56 + 2 * q) 1 p2)).1 (56 + 2 * q) 2, f_X3_begin_15 (56 + 2 * q) p2 p3 s0 (zpI C (56 + 2 * q) 1 p2)) (f_X6_sheet_79 (nI q) p2 p3 s0 (nI q) (zpI R 12 q p2)) := by
  subst hs0
  unfold f_X3_begin_15 f_X6_sheet_79
  simp only []
  rw [zcl0 (show q < 1000 by omega)]
  obtain ⟨a1, a2, a3⟩ := beg20 (c := 56 + 2 * q) (p1 := p2) (p2 := p3) 40 41 0 (zpI (zpI C (56 + 2 * q) 1 p2) (56 + 2 * q) 2 (nI m)) rfl (by omega) (by omega)
  obtain ⟨b1, b2, b3⟩ := sh83 hq (p2 := p2) (p3 := p3) 40 41 0 (zpI (zpI R 12 q p2) 13 q (nI m)) rfl (by omega) (by omega)
  rw [nI_0] at a1 a2 a3 b1 b2 b3
  generalize f_X3_begin_20 (56 + 2 * q) p2 p3 41 0 (zpI (zpI C (56 + 2 * q) 1 p2) (56 + 2 * q) 2 (nI m)) = C' at a1 a2 a3
  generalize f_X6_sheet_83 (nI q) p2 p3 41 0 (zpI (zpI R 12 q p2) 13 q (nI m)) = R' at b1 b2 b3
  have e2 : C'.1 (56 + 2 * q) 2 = nI m := by rw [a1]; exact zpI_at
  refine ⟨by show C'.1 (56 + 2 * q) 2 = R'.1; rw [e2, b1, zpI_at], IN_sh (n := m) h hq hm ?_ e2 ?_ (fun i hi => ?_) (fun c k hc => ?_) (fun a ha => ?_) (fun c k hk => ?_) (fun i hi => ?_)⟩
  · rw [a1, b2, zpI_off (by omega), zpI_at, zpI_off (by omega), zpI_at]
  · rw [b2]; exact zpI_at
  · rw [a3, b3, if_pos (by omega), if_pos (by omega)]
  · rw [a1, zpI_off (by omega), zpI_off (by omega)]
  · rw [a2 a ha]; rfl
  · rw [b2, zpI_off (by omega), zpI_off (by omega)]
  · rw [b3, if_neg (by omega)]; rfl
theorem m_sheet {C R : zM} (h : zIN C R) (p1 p2 p3 : Int32) : zEq (f_X5_sheet p1 p2 p3 C) (f_X6_sheet p1 p2 p3 R) := by
  have e38 : ∀ q : Nat, q < 4 → p1 = nI q → zEq (f_X5_sheet_38 p1 p2 p3 C) (f_X6_sheet_35 p1 p2 p3 R) := by
    intro q hq e
    subst e
    unfold f_X5_sheet_38 f_X6_sheet_35 f_X3_begin
    rw [zcl0 (show q < 1000 by omega)]
    simp only []
    by_cases z0 : 0 ≤ p3
    · rw [if_pos z0, if_pos z0]
      by_cases z4 : p3 ≤ 40
      · rw [if_pos z4, if_pos z4]
        obtain ⟨m, hm, rfl⟩ := nI_of2 (x := p3) (M := 40) (n := 40) (by decide) (Int32.not_lt.mpr z0) z4
        by_cases zp : p2 = 0
        · rw [if_pos zp, if_pos zp]
          exact sheet_eq h hq (m := 0) (by omega) p2 _ 0 nI_0.symm
        · rw [if_neg zp, if_neg zp]
          exact sheet_eq h hq hm p2 _ _ rfl
      · rw [if_neg z4, if_neg z4]
        exact eq_f0 h
    · rw [if_neg z0, if_neg z0]
      exact eq_f6 h
  unfold f_X5_sheet f_X6_sheet f_X6_isSheet f_X5_sheet_31 f_X6_sheet_29
  simp only []
  rw [wi_in]
  by_cases q : f_X6_in p1 0 3 = 0
  · rw [if_pos q, if_pos q]
    exact eq_f0 h
  rw [if_neg q, if_neg q]
  obtain ⟨j, hj, ej⟩ := in_nI (N := 3) (by omega) q
  have e := e38 j (by omega) ej
  by_cases z1 : p2 = 0
  · rw [if_pos z1, if_pos z1]; exact e
  rw [if_neg z1, if_neg z1]
  by_cases z2 : p2 = 8
  · rw [if_pos z2, if_pos z2]; exact e
  rw [if_neg z2, if_neg z2]
  by_cases z3 : p2 = 16
  · rw [if_pos z3, if_pos z3]; exact e
  rw [if_neg z3, if_neg z3]
  by_cases z4 : p2 = 64
  · rw [if_pos z4, if_pos z4]; exact e
  rw [if_neg z4, if_neg z4]
  exact eq_f0 h
theorem k40 {q j : Nat} (hq : q < 4) (hj : j < 40) : ((40 : Int32) * nI q + nI j).toNatClampNeg = 40 * q + j := by
  have key : ∀ q, q < 4 → ∀ j, j < 40 → ((40 : Int32) * nI q + nI j).toNatClampNeg = 40 * q + j := by decide
  exact key q hq j hj
theorem write_put {C R : zM} (h : zIN C R) {q i : Nat} (hq : q < 4) (hi : i < 40) (x : Int64) : zIN (zpL C (56 + 2 * q + 1) i x) (zpL R 14 (40 * q + i) x) := by
  obtain ⟨s1, ⟨n, hn, s2, s3⟩, s4⟩ := h.2.2.2.2 q hq
  refine IN_sh (n := n) h hq hn s1 s2 s3 (fun j hj => ?_) (fun c k hc => rfl) (fun a ha => zpL_ne.2 a ha) (fun c k hk => rfl) (fun j hj => zpL_off (by omega))
  by_cases z : j = i
  · subst z; rw [zpL_at, zpL_at]
  · rw [zpL_off (by omega), zpL_off (by omega)]; exact s4 j hj
theorem miss_eq {C R : zM} {q : Nat} (h : zIN C R) (hq : q < 4) : (f_X3_isMissing (56 + 2 * q) C = 0) ↔ ¬ R.1 12 q = 0 := by
  obtain ⟨s1, -, -⟩ := h.2.2.2.2 q hq
  unfold f_X3_isMissing
  rw [s1]
  by_cases z : R.1 12 q = 0
  · rw [if_pos z]
    exact ⟨fun w => absurd w (by decide), fun w => absurd z w⟩
  · rw [if_neg z]
    exact ⟨fun _ => z, fun _ => rfl⟩
theorem m_write {C R : zM} (h : zIN C R) (p1 p2 : Int32) (p3 : Int64) : zEqL (f_X5_write p1 p2 p3 C) (f_X6_write p1 p2 p3 R) := by
  have lift : ∀ x y : Int32 × zM, zEq x y → zEqL (x.1.toInt64, x.2) (y.1.toInt64, y.2) := fun x y e => ⟨congrArg Int32.toInt64 e.1, e.2⟩
  unfold f_X5_write f_X6_write f_X6_isSheet
  simp only []
  rw [wi_in]
  by_cases q : f_X6_in p1 0 3 = 0
  · rw [if_pos q, if_pos q]
    exact lift _ _ (eq_f0 h)
  rw [if_neg q, if_neg q]
  obtain ⟨s, hs, rfl⟩ := in_nI (N := 3) (by omega) q
  have hs4 : s < 4 := by omega
  rw [zcl0 (show s < 1000 by omega)]
  have hm := miss_eq h hs4
  obtain ⟨s1, ⟨n, hn, s2, s3⟩, s4⟩ := h.2.2.2.2 s hs4
  by_cases z : R.1 12 s = 0
  · rw [if_neg (fun w => (hm.mp w) z), if_pos z]
    exact lift _ _ (eq_f5 h)
  rw [if_pos (hm.mpr z), if_neg z, wi_in, s2, s3]
  by_cases q2 : f_X6_in p2 0 (nI n - 1) = 0
  · rw [if_pos q2, if_pos q2]
    exact lift _ _ (eq_f0 h)
  rw [if_neg q2, if_neg q2]
  obtain ⟨i, hi, rfl⟩ := in_lt (by omega) q2
  rw [zcl0 (show i < 1000 by omega), k40 hs4 (by omega), s4 i (by omega)]
  have e : f_X3_lowestBits (56 + 2 * s) p3 C = if R.1 12 s = 8 then ((p3.toInt32).toInt8.toInt32).toInt64 else if R.1 12 s = 16 then ((p3.toInt32).toInt16.toInt32).toInt64 else p3 := by
    unfold f_X3_lowestBits
    rw [s1]
  rw [e]
  by_cases z8 : R.1 12 s = 8
  · rw [if_pos z8, if_pos z8]
    exact ⟨rfl, write_put h hs4 (by omega) _⟩
  rw [if_neg z8, if_neg z8]
  by_cases z16 : R.1 12 s = 16
  · rw [if_pos z16, if_pos z16]
    exact ⟨rfl, write_put h hs4 (by omega) _⟩
  rw [if_neg z16, if_neg z16]
  exact ⟨rfl, write_put h hs4 (by omega) _⟩
theorem m_read {C R : zM} (h : zIN C R) (p1 : Int32) : zEq (f_X5_read p1 C) (f_X6_read p1 R) := by
  obtain ⟨L, hw⟩ := h.1.1
  have hL := hw.1
  have w5 : ∀ b w, b < L → w < 7 → C.1 (3 + b) w = zB (R.1 1) b w := hw.2.2.2.2.2.1
  unfold f_X5_read f_X6_read f_X6_isSheet
  simp only []
  rw [wi_in]
  by_cases q : f_X6_in p1 0 3 = 0
  · rw [if_pos q, if_pos q]
    exact eq_f0 h
  rw [if_neg q, if_neg q]
  obtain ⟨s, hs, rfl⟩ := in_nI (N := 3) (by omega) q
  have hs4 : s < 4 := by omega
  rw [zcl0 (show s < 1000 by omega)]
  have hm := miss_eq h hs4
  obtain ⟨s1, ⟨n, hn, s2, s3⟩, s4⟩ := h.2.2.2.2 s hs4
  by_cases z : R.1 12 s = 0
  · rw [if_neg (fun w => (hm.mp w) z), if_pos z]
    exact eq_f5 h
  rw [if_pos (hm.mpr z), if_neg z]
  exact zlock2 (L := n) (P := fun _ (_ _ : Unit) => True) (Q := zEq) (F := fun k j _ => f_X5_read_39 (nI s) k (56 + 2 * s) (nI j) C) (G := fun k j _ => f_X6_read_30 (nI s) k (nI j) R)
    (by
      intro k m j a b hj _
      by_cases q3 : j = n
      · left
        subst q3
        show zEq (f_X5_read_39 (nI s) (k + 1) (56 + 2 * s) (nI j) C) (f_X6_read_30 (nI s) (m + 1) (nI j) R)
        rw [f_X5_read_39, f_X6_read_30, zcl0 (show s < 1000 by omega), s2, s3, if_pos (Int32.le_refl _), if_pos (Int32.le_refl _)]
        exact ⟨rfl, h⟩
      · have hjn : j < n := by omega
        have e1 : f_X5_read_39 (nI s) (k + 1) (56 + 2 * s) (nI j) C = if f_X6_isBlock (nI j) R = 0 then (1 + nI j, C) else if lg_cmp (C.1 (3 + j) 5).toInt64 (R.2 14 (40 * s + j)) = 0 then f_X5_read_39 (nI s) k (56 + 2 * s) (nI (j + 1)) C else (1 + nI j, C) := by
          rw [f_X5_read_39, s2, if_neg (nI_ge hjn (by omega))]
          simp only []
          rw [has_eq hw.2.1 hw.2.2.1 hL, zcl0 (show j < 1000 by omega), s4 j (by omega), nI_1]
        have e2 : f_X6_read_30 (nI s) (m + 1) (nI j) R = if f_X6_isBlock (nI j) R = 0 then (1 + nI j, R) else if lg_cmp (R.2 14 (40 * s + j)) (f_X6_at (nI j) 5 R).toInt64 = 0 then f_X6_read_30 (nI s) m (nI (j + 1)) R else (1 + nI j, R) := by
          rw [f_X6_read_30, zcl0 (show s < 1000 by omega), s3, if_neg (nI_ge hjn (by omega))]
          simp only []
          rw [k40 hs4 (by omega), nI_1]
        by_cases q4 : f_X6_isBlock (nI j) R = 0
        · left
          show zEq (f_X5_read_39 (nI s) (k + 1) (56 + 2 * s) (nI j) C) (f_X6_read_30 (nI s) (m + 1) (nI j) R)
          rw [e1, e2, if_pos q4, if_pos q4]
          exact ⟨rfl, h⟩
        · obtain ⟨b', hb', eb⟩ := has_b hw.2.2.1 hL q4
          have : j = b' := (nI_eq (by omega) (by omega)).mp eb
          subst this
          rw [if_neg q4, w5 j 5 hb' (by omega)] at e1
          rw [if_neg q4, rAt5 (by omega)] at e2
          by_cases q5 : (zB (R.1 1) j 5).toInt64 = R.2 14 (40 * s + j)
          · right
            refine ⟨hjn, (), (), trivial, ?_, ?_⟩
            · show f_X5_read_39 (nI s) (k + 1) (56 + 2 * s) (nI j) C = _
              rw [e1, if_pos (lgc_eq.mpr q5)]
            · show f_X6_read_30 (nI s) (m + 1) (nI j) R = _
              rw [e2, if_pos (lgc_eq.mpr q5.symm)]
          · left
            show zEq (f_X5_read_39 (nI s) (k + 1) (56 + 2 * s) (nI j) C) (f_X6_read_30 (nI s) (m + 1) (nI j) R)
            rw [e1, e2, if_neg (fun w => q5 (lgc_eq.mp w)), if_neg (fun w => q5 (lgc_eq.mp w).symm)]
            exact ⟨rfl, h⟩)
    (n - 0) 41 41 0 () () rfl (Nat.zero_le n) (by omega) (by omega) trivial
