theorem zrL_at {M : zM} {c : Nat} {f : Nat → Int64} : (zrL M c f).2 c = f := by simp [zrL, va_up]
theorem zrI_at {M : zM} {c : Nat} {f : Nat → Int32} : (zrI M c f).1 c = f := by simp [zrI, va_up]
theorem k40b {q f j : Nat} (h : 40 * q + f + j < 1000) : ((40 : Int32) * nI q + nI f + nI j).toNatClampNeg = 40 * q + f + j := by
  rw [show (40 : Int32) = nI 40 from rfl, pk_mul, nI_add, nI_add, zcl0 h]
theorem cp152 {s f t to n : Nat} (h2 : 40 * t + to + n < 1000) : ∀ (d g j : Nat) (M : zM), d = n - j → j ≤ n → n < j + g → (f_X6_copy_152 (nI s) (nI f) (nI t) (nI to) (nI n) g (nI j) M).1 = nI n ∧ (f_X6_copy_152 (nI s) (nI f) (nI t) (nI to) (nI n) g (nI j) M).2.1 = M.1 ∧ (∀ i, (f_X6_copy_152 (nI s) (nI f) (nI t) (nI to) (nI n) g (nI j) M).2.2 14 i = if 40 * t + to + j ≤ i ∧ i < 40 * t + to + n then M.2 15 (i - (40 * t + to)) else M.2 14 i) := by
  intro d
  induction d with
  | zero =>
    intro g j M hd hj hg
    obtain ⟨g, rfl⟩ : ∃ g', g = g' + 1 := ⟨g - 1, by omega⟩
    obtain rfl : j = n := by omega
    rw [f_X6_copy_152, if_pos (Int32.le_refl _)]
    exact ⟨rfl, rfl, fun i => by rw [if_neg (by omega)]⟩
  | succ d ih =>
    intro g j M hd hj hg
    obtain ⟨g, rfl⟩ : ∃ g', g = g' + 1 := ⟨g - 1, by omega⟩
    rw [f_X6_copy_152, if_neg (nI_ge (by omega) (by omega)), k40b (by omega), zcl0 (show j < 1000 by omega), nI_1]
    simp only []
    obtain ⟨i1, i2, i3⟩ := ih g (j + 1) (zpL M 14 (40 * t + to + j) (M.2 15 j)) (by omega) (by omega) (by omega)
    refine ⟨i1, i2, fun i => ?_⟩
    rw [i3, zpL_ne.2 15 (by omega)]
    by_cases z : i = 40 * t + to + j
    · subst z
      rw [if_neg (by omega), zpL_at, if_pos (by omega), show 40 * t + to + j - (40 * t + to) = j by omega]
    · rw [zpL_off (by omega)]
      by_cases z2 : 40 * t + to + (j + 1) ≤ i ∧ i < 40 * t + to + n
      · rw [if_pos z2, if_pos (by omega)]
      · rw [if_neg z2, if_neg (by omega)]
theorem cp115 {s f t to n : Nat} (h1 : 40 * s + f + n < 1000) (hn : n ≤ 40) : ∀ (d g j : Nat) (M : zM), d = n - j → j ≤ n → n < j + g → ∃ M' : zM, f_X6_copy_115 (nI s) (nI f) (nI t) (nI to) (nI n) g (nI j) M = f_X6_copy_152 (nI s) (nI f) (nI t) (nI to) (nI n) 41 0 M' ∧ M'.1 = M.1 ∧ M'.2 14 = M.2 14 ∧ (∀ i, M'.2 15 i = if j ≤ i ∧ i < n then M.2 14 (40 * s + f + i) else M.2 15 i) := by
  intro d
  induction d with
  | zero =>
    intro g j M hd hj hg
    obtain ⟨g, rfl⟩ : ∃ g', g = g' + 1 := ⟨g - 1, by omega⟩
    obtain rfl : j = n := by omega
    refine ⟨M, ?_, rfl, rfl, fun i => by rw [if_neg (by omega)]⟩
    rw [f_X6_copy_115, if_pos (Int32.le_refl _)]
  | succ d ih =>
    intro g j M hd hj hg
    obtain ⟨g, rfl⟩ : ∃ g', g = g' + 1 := ⟨g - 1, by omega⟩
    obtain ⟨M', i1, i2, i3, i4⟩ := ih g (j + 1) (zpL M 15 j (M.2 14 (40 * s + f + j))) (by omega) (by omega) (by omega)
    refine ⟨M', ?_, i2, i3.trans (zpL_ne.2 14 (by omega)), fun i => ?_⟩
    · rw [f_X6_copy_115, if_neg (nI_ge (by omega) (by omega)), k40b (by omega), zcl0 (show j < 1000 by omega), nI_1]
      exact i1
    · rw [i4, zpL_ne.2 14 (by omega)]
      by_cases z : i = j
      · subst z; rw [if_neg (by omega), zpL_at, if_pos (by omega)]
      · rw [zpL_off (by omega)]
        by_cases z2 : j + 1 ≤ i ∧ i < n
        · rw [if_pos z2, if_pos (by omega)]
        · rw [if_neg z2, if_neg (by omega)]
theorem part_eq {c l : Nat} {f n : Int32} {C : zM} (hl : C.1 c 2 = nI l) (hl40 : l ≤ 40) : (f_X3_hasPart c f n C = 0) ↔ (f < 0 ∨ n < 0 ∨ nI l - n < f) := by
  have fin : ¬ f < 0 → ¬ n < 0 → nI l < n → nI l - n < f := by
    intro h1 h2 h3
    obtain ⟨a, ha, rfl⟩ := nI_of h1
    obtain ⟨b, hb, rfl⟩ := nI_of h2
    have hlb := (nI_ltI (by omega) hb).mp h3
    have hneg : nI l - nI b < 0 := by
      have k1 : (nI l).toInt = l := nI_toInt (by omega)
      have k2 : (nI b).toInt = b := nI_toInt hb
      rw [Int32.lt_iff_toInt_lt, Int32.toInt_sub, k1, k2]
      have : (0 : Int32).toInt = 0 := by decide
      rw [this, Int.bmod_eq_of_le (by omega) (by omega)]
      omega
    exact Int32.lt_of_lt_of_le hneg (nI_pos' ha)
  unfold f_X3_hasPart
  rw [hl]
  by_cases h1 : f < 0
  · rw [if_pos h1]; exact ⟨fun _ => Or.inl h1, fun _ => rfl⟩
  rw [if_neg h1]
  by_cases h2 : n < 0
  · rw [if_pos h2]; exact ⟨fun _ => Or.inr (Or.inl h2), fun _ => rfl⟩
  rw [if_neg h2]
  by_cases h3 : nI l < n
  · rw [if_pos h3]; exact ⟨fun _ => Or.inr (Or.inr (fin h1 h2 h3)), fun _ => rfl⟩
  rw [if_neg h3]
  by_cases h4 : nI l - n < f
  · rw [if_pos h4]; exact ⟨fun _ => Or.inr (Or.inr h4), fun _ => rfl⟩
  rw [if_neg h4]
  exact ⟨fun w => absurd w (by decide), fun w => absurd w (fun z => by rcases z with z | z | z; exact h1 z; exact h2 z; exact h4 z)⟩
theorem part_nat {l : Nat} {f n : Int32} (hl40 : l ≤ 40) (h1 : ¬ f < 0) (h2 : ¬ n < 0) (h4 : ¬ nI l - n < f) : ∃ a b : Nat, f = nI a ∧ n = nI b ∧ a + b ≤ l := by
  obtain ⟨a, ha, rfl⟩ := nI_of h1
  obtain ⟨b, hb, rfl⟩ := nI_of h2
  refine ⟨a, b, rfl, rfl, ?_⟩
  have k1 : (nI l).toInt = l := nI_toInt (by omega)
  have k2 : (nI b).toInt = b := nI_toInt hb
  have k3 : (nI a).toInt = a := nI_toInt ha
  rw [Int32.lt_iff_toInt_lt, Int32.toInt_sub, k1, k2, k3, Int.bmod_eq_of_le (by omega) (by omega)] at h4
  omega
theorem m_copy {C R : zM} (h : zIN C R) (p1 p2 p3 p4 p5 : Int32) : zEq (f_X5_copy p1 p2 p3 p4 p5 C) (f_X6_copy p1 p2 p3 p4 p5 R) := by
  unfold f_X5_copy f_X6_copy f_X6_isSheet f_X5_copy_18 f_X5_copy_57 f_X5_copy_107 f_X6_copy_14 f_X6_copy_38 f_X6_copy_106
  simp only []
  rw [wi_in, wi_in]
  by_cases q : f_X6_in p1 0 3 = 0
  · rw [if_pos q, if_pos q]
    exact eq_f0 h
  rw [if_neg q, if_neg q]
  by_cases q2 : f_X6_in p3 0 3 = 0
  · rw [if_pos q2, if_pos q2]
    exact eq_f0 h
  rw [if_neg q2, if_neg q2]
  obtain ⟨s, hs, rfl⟩ := in_nI (N := 3) (by omega) q
  obtain ⟨t, ht, rfl⟩ := in_nI (N := 3) (by omega) q2
  have hs4 : s < 4 := by omega
  have ht4 : t < 4 := by omega
  rw [zcl0 (show s < 1000 by omega), zcl0 (show t < 1000 by omega)]
  have hm := miss_eq h hs4
  have hm2 := miss_eq h ht4
  obtain ⟨s1, ⟨n, hn, s2, s3⟩, s4⟩ := h.2.2.2.2 s hs4
  obtain ⟨t1, ⟨m, hm40, t2, t3⟩, t4⟩ := h.2.2.2.2 t ht4
  by_cases z : R.1 12 s = 0
  · rw [if_neg (fun w => (hm.mp w) z), if_pos z]
    exact eq_f5 h
  rw [if_pos (hm.mpr z), if_neg z]
  by_cases z2 : R.1 12 t = 0
  · rw [if_neg (fun w => (hm2.mp w) z2), if_pos z2]
    exact eq_f5 h
  rw [if_pos (hm2.mpr z2), if_neg z2, s1, t1]
  by_cases z3 : R.1 12 s = R.1 12 t
  rotate_left
  · rw [if_neg z3, if_neg z3]
    exact eq_f2 h
  rw [if_pos z3, if_pos z3, s3, t3]
  have e1 := part_eq (c := 56 + 2 * s) (f := p2) (n := p5) s2 hn
  have e2 := part_eq (c := 56 + 2 * t) (f := p4) (n := p5) t2 hm40
  have bad : (p2 < 0 ∨ p4 < 0 ∨ p5 < 0 ∨ nI n - p5 < p2 ∨ nI m - p5 < p4) → (f_X3_hasPart (56 + 2 * s) p2 p5 C = 0) ∨ (¬ f_X3_hasPart (56 + 2 * s) p2 p5 C = 0 ∧ f_X3_hasPart (56 + 2 * t) p4 p5 C = 0) := by
    intro hb
    by_cases w : f_X3_hasPart (56 + 2 * s) p2 p5 C = 0
    · exact Or.inl w
    · refine Or.inr ⟨w, e2.mpr ?_⟩
      rcases hb with b | b | b | b | b
      · exact absurd (e1.mpr (Or.inl b)) w
      · exact Or.inl b
      · exact Or.inr (Or.inl b)
      · exact absurd (e1.mpr (Or.inr (Or.inr b))) w
      · exact Or.inr (Or.inr b)
  have badC : (f_X3_hasPart (56 + 2 * s) p2 p5 C = 0) ∨ (¬ f_X3_hasPart (56 + 2 * s) p2 p5 C = 0 ∧ f_X3_hasPart (56 + 2 * t) p4 p5 C = 0) → ∀ (x : Int32 × zM), (if f_X3_hasPart (56 + 2 * s) p2 p5 C = 0 then ((f_X5_finding (-1000000001) C).1, (f_X5_finding (-1000000001) C).2) else if f_X3_hasPart (56 + 2 * t) p4 p5 C = 0 then ((f_X5_finding (-1000000001) C).1, (f_X5_finding (-1000000001) C).2) else x) = f_X5_finding (-1000000001) C := by
    intro hb x
    rcases hb with b | ⟨b1, b2⟩
    · rw [if_pos b]
    · rw [if_neg b1, if_pos b2]
  by_cases g1 : p2 < 0
  · rw [badC (bad (Or.inl g1)), if_pos g1]
    exact eq_f0 h
  rw [if_neg g1]
  by_cases g2 : p4 < 0
  · rw [badC (bad (Or.inr (Or.inl g2))), if_pos g2]
    exact eq_f0 h
  rw [if_neg g2]
  by_cases g3 : p5 < 0
  · rw [badC (bad (Or.inr (Or.inr (Or.inl g3)))), if_pos g3]
    exact eq_f0 h
  rw [if_neg g3]
  by_cases g4 : nI n - p5 < p2
  · rw [badC (bad (Or.inr (Or.inr (Or.inr (Or.inl g4))))), if_pos g4]
    exact eq_f0 h
  rw [if_neg g4]
  by_cases g5 : p4 ≤ nI m - p5
  rotate_left
  · rw [badC (bad (Or.inr (Or.inr (Or.inr (Or.inr (Int32.not_le.mp g5)))))), if_neg g5]
    exact eq_f0 h
  rw [if_pos g5]
  obtain ⟨a, b, rfl, rfl, hab⟩ := part_nat hn g1 g3 g4
  obtain ⟨c, b', rfl, eb, hcb⟩ := part_nat hm40 g2 g3 (Int32.not_lt.mpr g5)
  have hbb : b = b' := by
    have h1 : b < 2 ^ 31 := by omega
    have h2 : b' < 2 ^ 31 := by omega
    exact (nI_eq h1 h2).mp eb
  subst hbb
  have n1 : ¬ f_X3_hasPart (56 + 2 * s) (nI a) (nI b) C = 0 := fun w => by rcases e1.mp w with y | y | y; exact g1 y; exact g3 y; exact g4 y
  have n2 : ¬ f_X3_hasPart (56 + 2 * t) (nI c) (nI b) C = 0 := fun w => by rcases e2.mp w with y | y | y; exact g2 y; exact g3 y; exact absurd g5 (Int32.not_le.mpr y)
  rw [if_neg n1, if_neg n2, zcl0 (show a < 1000 by omega), zcl0 (show b < 1000 by omega), zcl0 (show c < 1000 by omega)]
  obtain ⟨M', k1, k2, k3, k4⟩ := cp115 (s := s) (f := a) (t := t) (to := c) (n := b) (by omega) (by omega) b 41 0 R rfl (by omega) (by omega)
  obtain ⟨j1, j2, j3⟩ := cp152 (s := s) (f := a) (t := t) (to := c) (n := b) (by omega) b 41 0 M' rfl (by omega) (by omega)
  rw [nI_0] at k1 j1 j2 j3
  rw [k1]
  generalize f_X6_copy_152 (nI s) (nI a) (nI t) (nI c) (nI b) 41 0 M' = Y at j1 j2 j3
  have e14 : ∀ i, Y.2.2 14 i = if 40 * t + c ≤ i ∧ i < 40 * t + c + b then R.2 14 (40 * s + a + (i - (40 * t + c))) else R.2 14 i := by
    intro i
    rw [j3, k3]
    by_cases y : 40 * t + c ≤ i ∧ i < 40 * t + c + b
    · rw [if_pos (by omega), if_pos y, k4, if_pos (by omega)]
    · rw [if_neg (by omega), if_neg y]
  refine ⟨j1.symm, IN_sh (q := t) (n := m) h ht4 hm40 ?_ t2 ?_ (fun i hi => ?_) (fun c' k hc => rfl) (fun a' ha => zrL_ne.2 a' ha) (fun c' k hk => ?_) (fun i hi => ?_)⟩
  · rw [j2, k2]; exact t1
  · rw [j2, k2]; exact t3
  · rw [e14]
    show (zrL C (56 + 2 * t + 1) _).2 (56 + 2 * t + 1) i = _
    rw [zrL_at]
    by_cases y : c ≤ i ∧ i < c + b
    · rw [if_pos (by omega), pk_cpy_in y.1 y.2, s4 (a + (i - c)) (by omega), show 40 * s + a + (40 * t + i - (40 * t + c)) = 40 * s + (a + (i - c)) by omega]
    · rw [if_neg (by omega), pk_cpy_out (by omega)]
      exact t4 i hi
  · rw [j2, k2]
  · rw [e14, if_neg (by omega)]
theorem IN_pace {C R : zM} (h : zIN C R) (x : Int32) : zIN (zpI C 1 3 x) (zpI R 1 2 x) := by
  obtain ⟨L, hw⟩ := h.1.1
  exact ⟨⟨⟨L, hw.pace (zpI_off (by omega)) (zpI_off (by omega)) (by rw [zpI_at, zpI_at]) (fun c hc => zpI_ne.1 c (by omega)) (fun k hk => zpI_off (by omega))⟩, h.1.2.1.cg (fun c h1 h2 => zpI_ne.1 c (by omega)) (fun k hk => zpI_off (by omega)), h.1.2.2.cg (zpI_off (by omega)) (fun i hi => zpI_off (by omega))⟩, h.2.cg (fun c k z => by unfold oC at z; exact zpI_off (by omega)) rfl (fun c k z => by unfold oR at z; exact zpI_off (by omega)) rfl⟩
theorem m_draws {C R : zM} (h : zIN C R) (p1 : Int32) : zEq (f_X5_draws p1 C) (f_X6_draws p1 R) := by
  obtain ⟨L, hw⟩ := h.1.1
  unfold f_X5_draws f_X6_draws f_X6_isSheet
  simp only []
  rw [wi_in]
  by_cases q : f_X6_in p1 0 3 = 0
  · rw [if_pos q, if_pos q]
    exact eq_f0 h
  rw [if_neg q, if_neg q]
  obtain ⟨s, hs, rfl⟩ := in_nI (N := 3) (by omega) q
  have hs4 : s < 4 := by omega
  rw [zcl0 (show s < 1000 by omega)]
  have hm := miss_eq h hs4
  obtain ⟨s1, ⟨n, hn, s2, s3⟩, s4⟩ := h.2.2.2.2 s hs4
  by_cases z : R.1 12 s = 0
  · rw [if_neg (fun w => (hm.mp w) z), if_pos z]
    exact eq_f5 h
  rw [if_pos (hm.mpr z), if_neg z, show C.1 1 3 = R.1 1 2 from hw.2.2.2.2.1]
  exact zlock (L := n) (P := fun _ (a b : Int32 × zM) => a.1 = b.1 ∧ zIN a.2 b.2 ∧ b.2.1 13 = R.1 13) (Q := zEq) (F := fun k j a => f_X5_draws_51 (nI s) k (56 + 2 * s) (R.1 1 2) a.1 (nI j) a.2) (G := fun k j b => f_X6_draws_40 (nI s) k (R.1 1 2) b.1 (nI j) b.2)
    (by
      intro k m a b hP
      obtain ⟨p1, p2, p3⟩ := hP
      obtain ⟨-, ⟨n', hn', u2, u3⟩, -⟩ := p2.2.2.2.2 s hs4
      have e : n = n' := by
        rw [p3, s3] at u3
        exact (nI_eq (by omega) (by omega)).mp u3
      subst e
      show zEq (f_X5_draws_51 (nI s) (k + 1) (56 + 2 * s) (R.1 1 2) a.1 (nI n) a.2) (f_X6_draws_40 (nI s) (m + 1) (R.1 1 2) b.1 (nI n) b.2)
      rw [f_X5_draws_51, f_X6_draws_40, zcl0 (show s < 1000 by omega), u2, u3, if_pos (Int32.le_refl _), if_pos (Int32.le_refl _)]
      exact ⟨p1, IN_pace p2 _⟩)
    (by
      intro k m j a b hj hP
      obtain ⟨p1, p2, p3⟩ := hP
      obtain ⟨-, ⟨n', hn', u2, u3⟩, u4⟩ := p2.2.2.2.2 s hs4
      have e : n = n' := by
        rw [p3, s3] at u3
        exact (nI_eq (by omega) (by omega)).mp u3
      subst e
      have e1 : f_X5_draws_51 (nI s) (k + 1) (56 + 2 * s) (R.1 1 2) a.1 (nI j) a.2 = if lg_cmp (b.2.2 14 (40 * s + j)) (-99) < 0 then f_X5_draws_51 (nI s) k (56 + 2 * s) (R.1 1 2) a.1 (nI (j + 1)) a.2 else if 0 < lg_cmp (b.2.2 14 (40 * s + j)) 99 then f_X5_draws_51 (nI s) k (56 + 2 * s) (R.1 1 2) a.1 (nI (j + 1)) a.2 else f_X5_draws_51 (nI s) k (56 + 2 * s) (R.1 1 2) (a.1 + 1) (nI (j + 1)) (f_X1_enter 43 1 (f_X2_tick 1 (zpI a.2 1 3 (b.2.2 14 (40 * s + j)).toInt32))) := by
        rw [f_X5_draws_51, u2, if_neg (nI_ge hj (by omega))]
        simp only []
        rw [zcl0 (show j < 1000 by omega), u4 j (by omega), nI_1]
      have e2 : f_X6_draws_40 (nI s) (m + 1) (R.1 1 2) b.1 (nI j) b.2 = if lg_cmp (b.2.2 14 (40 * s + j)) (-99) < 0 then f_X6_draws_40 (nI s) m (R.1 1 2) b.1 (nI (j + 1)) b.2 else if 0 < lg_cmp (b.2.2 14 (40 * s + j)) 99 then f_X6_draws_40 (nI s) m (R.1 1 2) b.1 (nI (j + 1)) b.2 else f_X6_draws_40 (nI s) m (R.1 1 2) (b.1 + 1) (nI (j + 1)) (f_X6_tick (zpI b.2 1 2 (b.2.2 14 (40 * s + j)).toInt32)) := by
        rw [f_X6_draws_40, zcl0 (show s < 1000 by omega), u3, if_neg (nI_ge hj (by omega))]
        simp only []
        rw [k40 hs4 (by omega), nI_1]
      by_cases w1 : lg_cmp (b.2.2 14 (40 * s + j)) (-99) < 0
      · refine ⟨a, b, ⟨p1, p2, p3⟩, ?_, ?_⟩
        · show f_X5_draws_51 (nI s) (k + 1) (56 + 2 * s) (R.1 1 2) a.1 (nI j) a.2 = _
          rw [e1, if_pos w1]
        · show f_X6_draws_40 (nI s) (m + 1) (R.1 1 2) b.1 (nI j) b.2 = _
          rw [e2, if_pos w1]
      · by_cases w2 : 0 < lg_cmp (b.2.2 14 (40 * s + j)) 99
        · refine ⟨a, b, ⟨p1, p2, p3⟩, ?_, ?_⟩
          · show f_X5_draws_51 (nI s) (k + 1) (56 + 2 * s) (R.1 1 2) a.1 (nI j) a.2 = _
            rw [e1, if_neg w1, if_pos w2]
          · show f_X6_draws_40 (nI s) (m + 1) (R.1 1 2) b.1 (nI j) b.2 = _
            rw [e2, if_neg w1, if_pos w2]
        · have hpc := IN_pace p2 (b.2.2 14 (40 * s + j)).toInt32
          have htk := IN_tick hpc
          have h13 : (f_X6_tick (zpI b.2 1 2 (b.2.2 14 (40 * s + j)).toInt32)).1 13 = R.1 13 := by
            rw [(fr_tick (c := 13) ⟨by decide, by decide, by decide, by decide, by decide, by decide, by decide⟩).1, zpI_ne.1 13 (by omega)]
            exact p3
          rw [if_neg w1, if_neg w2] at e1 e2
          generalize f_X1_enter 43 1 (f_X2_tick 1 (zpI a.2 1 3 (b.2.2 14 (40 * s + j)).toInt32)) = A' at htk e1
          generalize f_X6_tick (zpI b.2 1 2 (b.2.2 14 (40 * s + j)).toInt32) = B' at htk e2 h13
          exact ⟨(a.1 + 1, A'), (b.1 + 1, B'), ⟨congrArg (· + 1) p1, htk.1, h13⟩, e1, e2⟩)
    (n - 0) 41 41 0 (0, C) (0, R) rfl (Nat.zero_le n) (by omega) (by omega) ⟨rfl, h, rfl⟩
