/-! the calls of ticks -/
theorem zlock3 {α β γ δ : Type} {L : Nat} {P : Nat → α → β → Prop} {Q : γ → δ → Prop} {F : Nat → Nat → α → γ} {G : Nat → Nat → β → δ}
    (h : ∀ n m j a b, j ≤ L → L ≤ j + n → L ≤ j + m → P j a b → Q (F (n + 1) j a) (G (m + 1) j b) ∨ (j < L ∧ ∃ a' b', P (j + 1) a' b' ∧ F (n + 1) j a = F n (j + 1) a' ∧ G (m + 1) j b = G m (j + 1) b')) :
    ∀ k n m j a b, k = L - j → j ≤ L → L < j + n → L < j + m → P j a b → Q (F n j a) (G m j b) := by
  intro k
  induction k with
  | zero =>
    intro n m j a b hk hj hn hm hP
    obtain ⟨n, rfl⟩ : ∃ n', n = n' + 1 := ⟨n - 1, by omega⟩
    obtain ⟨m, rfl⟩ : ∃ m', m = m' + 1 := ⟨m - 1, by omega⟩
    rcases h n m j a b hj (by omega) (by omega) hP with q | ⟨q, -⟩
    · exact q
    · omega
  | succ k ih =>
    intro n m j a b hk hj hn hm hP
    obtain ⟨n, rfl⟩ : ∃ n', n = n' + 1 := ⟨n - 1, by omega⟩
    obtain ⟨m, rfl⟩ : ∃ m', m = m' + 1 := ⟨m - 1, by omega⟩
    rcases h n m j a b hj (by omega) (by omega) hP with q | ⟨q, a', b', h1, h2, h3⟩
    · exact q
    · rw [h2, h3]
      exact ih n m (j + 1) a' b' (by omega) (by omega) (by omega) (by omega) h1
theorem zL10 {L : Nat} {x : Int32} (h : x = nI L) (hL : L ≤ 10) : 0 ≤ x ∧ x ≤ 10 := by
  rw [h]
  exact ⟨nI_pos' (by omega), nI_le (b := 10) hL (by omega)⟩
/-- a tick of the live row, entered in the book -/
theorem IN_tick {C R : zM} (h : zIN C R) : zIN (f_X1_enter 43 1 (f_X2_tick 1 C)) (f_X6_tick R) ∧ (f_X1_enter 43 1 (f_X2_tick 1 C)).1 1 5 = (f_X6_tick R).1 0 10 := by
  obtain ⟨L, hw⟩ := h.1.1
  obtain ⟨v, t1, t2, t3, t4, t5, t6, t7, t8⟩ := tick_eq zRow1 hw
  have hs := sm_tick (M := R) (zL10 hw.2.2.1 hw.1)
  generalize f_X2_tick 1 C = Ct at t1 t2 t3 t4 t5 t7
  generalize f_X6_tick R = Rt at t1 t2 t3 t4 t6 t8 hs
  have hB : zBo 43 Ct (R.1 1) := h.1.2.1.cg (fun c h1 h2 => t7.1 c (by omega) (by omega)) (fun _ _ => rfl)
  obtain ⟨e1, e2, e3⟩ := enter_eq hB t2 t3 t4 t5 t6
  generalize f_X1_enter 43 1 Ct = C' at e1 e2 e3
  refine ⟨⟨⟨⟨L, t1.cg (fun c k h1 h2 => by rw [e2 c (by omega)])⟩, e1, h.1.2.2.cg hs.2.1 hs.2.2⟩, h.2.cg (fun c k z => ?_) (e3.trans t7.2.2) (fun c k z => ?_) (by rw [t8.2.2])⟩, by rw [e2 1 (by omega)]; exact t2⟩
  · unfold oC at z
    rw [e2 c (by omega), t7.1 c (by omega) (by omega)]
  · unfold oR at z
    by_cases q : c = 0
    · subst q
      exact t8.2.1 k (by omega)
    · rw [t8.1 c (by omega)]
theorem m_ticks {C R : zM} (h : zIN C R) (p1 : Int32) : zEq (f_X5_ticks p1 C) (f_X6_ticks p1 R) := by
  unfold f_X5_ticks f_X6_ticks
  simp only []
  rw [wi_in]
  by_cases q : f_X6_in p1 1 100 = 0
  · rw [if_pos q, if_pos q]
    exact eq_f0 h
  rw [if_neg q, if_neg q]
  have h2 := in_X6 q
  obtain ⟨n, hn, rfl⟩ := nI_of2 (x := p1) (M := 100) (n := 100) (by decide) (Int32.not_lt.mpr (Int32.le_trans (by decide) h2.1)) h2.2
  have hn1 : 1 ≤ n := (nI_leI (a := 1) (by omega) (by omega)).mp h2.1
  exact zlock (L := n) (P := fun j (a b : zM) => zIN a b ∧ (0 < j → a.1 1 5 = b.1 0 10)) (Q := zEq) (F := fun k j a => f_X5_ticks_19 (nI n) k (nI j) a) (G := fun k j b => f_X6_ticks_18 (nI n) k (nI j) b)
    (by
      intro k m a b hP
      show zEq (f_X5_ticks_19 (nI n) (k + 1) (nI n) a) (f_X6_ticks_18 (nI n) (m + 1) (nI n) b)
      rw [f_X5_ticks_19, f_X6_ticks_18, if_pos (Int32.le_refl _), if_pos (Int32.le_refl _)]
      exact ⟨hP.2 hn1, hP.1⟩)
    (by
      intro k m j a b hj hP
      have ht := IN_tick hP.1
      refine ⟨_, _, ⟨ht.1, fun _ => ht.2⟩, ?_, ?_⟩
      · show f_X5_ticks_19 (nI n) (k + 1) (nI j) a = _
        rw [f_X5_ticks_19, if_neg (nI_ge hj (by omega)), nI_1]
      · show f_X6_ticks_18 (nI n) (m + 1) (nI j) b = _
        rw [f_X6_ticks_18, if_neg (nI_ge hj (by omega)), nI_1])
    (n - 0) 101 101 0 C R rfl (Nat.zero_le n) (by omega) (by omega) ⟨h, fun z => absurd z (by omega)⟩
theorem m_until {C R : zM} (h : zIN C R) (p1 p2 : Int32) : zEq (f_X5_until p1 p2 C) (f_X6_until p1 p2 R) := by
  unfold f_X5_until f_X6_until f_X5_until_21 f_X6_until_21
  simp only []
  rw [wi_in, wi_in]
  by_cases q : f_X6_in p1 1 400 = 0
  · rw [if_pos q, if_pos q]
    exact eq_f0 h
  rw [if_neg q, if_neg q]
  by_cases q2 : f_X6_in p2 1 100 = 0
  · rw [if_pos q2, if_pos q2]
    exact eq_f0 h
  rw [if_neg q2, if_neg q2]
  have h2 := in_X6 q2
  obtain ⟨n, hn, rfl⟩ := nI_of2 (x := p2) (M := 100) (n := 100) (by decide) (Int32.not_lt.mpr (Int32.le_trans (by decide) h2.1)) h2.2
  exact zlock3 (L := n) (P := fun _ (a b : zM) => zIN a b) (Q := zEq) (F := fun k j a => f_X5_until_30 p1 (nI n) k (nI (j + 1)) a) (G := fun k j b => f_X6_until_32 p1 (nI n) k (nI j) 1 b)
    (by
      intro k m j a b hj hk hm hP
      by_cases q3 : j = n
      · left
        subst q3
        show zEq (f_X5_until_30 p1 (nI j) (k + 1) (nI (j + 1)) a) (f_X6_until_32 p1 (nI j) (m + 1) (nI j) 1 b)
        rw [f_X5_until_30, f_X6_until_32, if_pos (nI_lt (by omega) (by omega)), if_neg (by decide), if_pos (Int32.le_refl _)]
        exact ⟨rfl, hP⟩
      · have hjn : j < n := by omega
        have ht := IN_tick hP
        have e1 : f_X5_until_30 p1 (nI n) (k + 1) (nI (j + 1)) a = if (f_X1_enter 43 1 (f_X2_tick 1 a)).1 1 5 < p1 then f_X5_until_30 p1 (nI n) k (nI (j + 1 + 1)) (f_X1_enter 43 1 (f_X2_tick 1 a)) else (nI (j + 1), f_X1_enter 43 1 (f_X2_tick 1 a)) := by
          rw [f_X5_until_30, if_neg (nI_nlt (by omega) (by omega)), nI_1]
        have e2 : f_X6_until_32 p1 (nI n) (m + 1) (nI j) 1 b = if p1 ≤ (f_X6_tick b).1 0 10 then f_X6_until_32 p1 (nI n) m (nI (j + 1)) 0 (f_X6_tick b) else f_X6_until_32 p1 (nI n) m (nI (j + 1)) 1 (f_X6_tick b) := by
          rw [f_X6_until_32, if_neg (by decide), if_neg (nI_ge hjn (by omega)), nI_1]
        by_cases q4 : (f_X6_tick b).1 0 10 < p1
        · right
          refine ⟨hjn, _, _, ht.1, ?_, ?_⟩
          · show f_X5_until_30 p1 (nI n) (k + 1) (nI (j + 1)) a = _
            rw [e1, ht.2, if_pos q4]
          · show f_X6_until_32 p1 (nI n) (m + 1) (nI j) 1 b = _
            rw [e2, if_neg (Int32.not_le.mpr q4)]
        · left
          show zEq (f_X5_until_30 p1 (nI n) (k + 1) (nI (j + 1)) a) (f_X6_until_32 p1 (nI n) (m + 1) (nI j) 1 b)
          obtain ⟨m', rfl⟩ : ∃ m', m = m' + 1 := ⟨m - 1, by omega⟩
          rw [e1, e2, ht.2, if_neg q4, if_pos (Int32.not_lt.mp q4), f_X6_until_32, if_pos rfl]
          exact ⟨rfl, ht.1⟩)
    (n - 0) 102 101 0 C R rfl (Nat.zero_le n) (by omega) (by omega) h
/-! the book is read -/
theorem bk_at {n x i : Nat} {C : zM} {S : Nat → Int32} (h5 : C.1 43 5 = nI x) (hx : x < 100) (h6 : ∀ i, i < n → C.1 (43 + 1) (zSl x i) = S (148 + i) ∧ C.1 (43 + 2) (zSl x i) = S (248 + i) ∧ C.1 (43 + 3) (zSl x i) = S (348 + i)) (hn : n ≤ 100) (hi : i < n) :
    C.1 44 (f_X1_slot 43 (nI i) C).toNatClampNeg = S (148 + i) ∧ C.1 45 (f_X1_slot 43 (nI i) C).toNatClampNeg = S (248 + i) ∧ C.1 46 (f_X1_slot 43 (nI i) C).toNatClampNeg = S (348 + i) := by
  rw [slot_eq h5 hx (by omega)]
  exact h6 i hi
theorem in_lt {p : Int32} {n : Nat} (hn : n ≤ 1000) (h : ¬ f_X6_in p 0 (nI n - 1) = 0) : ∃ i, i < n ∧ p = nI i := by
  have h1 := in_X6 h
  obtain ⟨j, hj, rfl⟩ := nI_of (Int32.not_lt.mpr h1.1)
  refine ⟨j, ?_, rfl⟩
  cases n with
  | zero => exact absurd (Int32.le_trans h1.1 h1.2) (by decide)
  | succ k =>
    have h2 := h1.2
    rw [nI_pred] at h2
    have := (nI_leI hj (by omega)).mp h2
    omega
theorem m_book {C R : zM} (h : zIN C R) (p1 p2 : Int32) : zEq (f_X5_book p1 p2 C) (f_X6_book p1 p2 R) := by
  obtain ⟨n, x, h1, h2, h3, h4, h5, h6, -, -, -⟩ := h.1.2.1
  unfold f_X5_book f_X6_book f_X6_book_26
  simp only []
  rw [wi_in, h3, h4]
  by_cases q : f_X6_in p1 0 (nI n - 1) = 0
  · rw [if_pos q, if_pos q]
    exact eq_f0 h
  rw [if_neg q, if_neg q]
  obtain ⟨i, hi, rfl⟩ := in_lt (by omega) q
  obtain ⟨b1, b2, b3⟩ := bk_at h5 h2 h6 h1 hi
  by_cases q2 : f_X6_in p2 0 2 = 0
  · rw [if_pos q2]
    have hn : ∀ k : Int32, 0 ≤ k → k ≤ 2 → ¬ p2 = k := fun k k1 k2 z => in_of (v := p2) (a := 0) (b := 2) (by rw [z]; exact k1) (by rw [z]; exact k2) q2
    rw [if_neg (hn 0 (by decide) (by decide)), if_neg (hn 1 (by decide) (by decide)), if_neg (hn 2 (by decide) (by decide))]
    exact eq_f0 h
  · rw [if_neg q2]
    have key : ∀ i : Nat, i < 100 → ((148 : Int32) + 100 * nI 0 + nI i).toNatClampNeg = 148 + i ∧ ((148 : Int32) + 100 * nI 1 + nI i).toNatClampNeg = 248 + i ∧ ((148 : Int32) + 100 * nI 2 + nI i).toNatClampNeg = 348 + i := by decide
    obtain ⟨k0, k1, k2⟩ := key i (by omega)
    obtain ⟨j, hj, rfl⟩ := in_nI (N := 2) (by omega) q2
    match j, hj with
    | 0, _ =>
      rw [if_pos (by decide), k0]
      exact ⟨b1, h⟩
    | 1, _ =>
      rw [if_neg (by decide), if_pos (by decide), k1]
      exact ⟨b2, h⟩
    | 2, _ =>
      rw [if_neg (by decide), if_neg (by decide), if_pos (by decide), k2]
      exact ⟨b3, h⟩
theorem m_counts {C R : zM} (h : zIN C R) (p1 : Int32) : zEq (f_X5_counts p1 C) (f_X6_counts p1 R) := by
  obtain ⟨n, x, -, -, -, -, -, -, h7, -, -⟩ := h.1.2.1
  unfold f_X5_counts f_X6_counts
  simp only []
  rw [wi_in]
  by_cases q : f_X6_in p1 0 6 = 0
  · rw [if_pos q, if_pos q]
    exact eq_f0 h
  rw [if_neg q, if_neg q]
  obtain ⟨c, hc, rfl⟩ := in_nI (N := 6) (by omega) q
  have key : ∀ c : Nat, c ≤ 6 → ((6 : Int32) + nI c).toNatClampNeg = 6 + c := by decide
  rw [key c hc, zcl0 (show c < 1000 by omega)]
  exact ⟨h7 c (by omega), h⟩
theorem pow_0 {R : zM} : ∀ k n j : Nat, k + j = 7 → k < n → f_X6_power_4 R n 0 (nI j) = 0 := by
  intro k
  induction k with
  | zero =>
    intro n j hj hn
    obtain ⟨n, rfl⟩ : ∃ n', n = n' + 1 := ⟨n - 1, by omega⟩
    obtain rfl : j = 7 := by omega
    rw [f_X6_power_4, if_pos (by decide), if_pos rfl]
  | succ k ih =>
    intro n j hj hn
    obtain ⟨n, rfl⟩ : ∃ n', n = n' + 1 := ⟨n - 1, by omega⟩
    rw [f_X6_power_4, if_neg (show ¬ (6 : Int32) < nI j from nI_nlt (a := 6) (by omega) (by omega)), if_pos rfl, nI_1]
    exact ih n (j + 1) (by omega) (by omega)
theorem m_power {C R : zM} (h : zIN C R) : f_X5_power C = f_X6_power R := by
  obtain ⟨n, x, -, -, -, -, -, -, h7, -, -⟩ := h.1.2.1
  have key : ∀ c : Nat, c ≤ 6 → ((6 : Int32) + nI c).toNatClampNeg = 6 + c := by decide
  have key2 : ∀ c : Nat, c ≤ 5 → ((6 : Int32) + nI (c + 1) - 1).toNatClampNeg = 6 + c := by decide
  exact zlock3 (L := 7) (P := fun j (_ _ : Unit) => 1 ≤ j) (Q := fun (a b : Int32) => a = b) (F := fun k j _ => f_X5_power_2 C k (nI j)) (G := fun k j _ => f_X6_power_4 R k 1 (nI j))
    (by
      intro k m j a b hj hk hm hP
      by_cases q : j = 7
      · left
        subst q
        show f_X5_power_2 C (k + 1) (nI 7) = f_X6_power_4 R (m + 1) 1 (nI 7)
        rw [f_X5_power_2, f_X6_power_4, if_pos (by decide), if_pos (by decide), if_neg (by decide)]
      · obtain ⟨i, rfl⟩ : ∃ i, j = i + 1 := ⟨j - 1, by omega⟩
        have a1 : C.1 47 (i + 1) = R.1 1 (6 + (i + 1)) := h7 (i + 1) (by omega)
        have a2 : C.1 47 i = R.1 1 (6 + i) := h7 i (by omega)
        have e1 : f_X5_power_2 C (k + 1) (nI (i + 1)) = if R.1 1 (6 + (i + 1)) ≤ R.1 1 (6 + i) then f_X5_power_2 C k (nI (i + 1 + 1)) else 0 := by
          rw [f_X5_power_2, if_neg (show ¬ (7 : Int32) ≤ nI (i + 1) from nI_ge (b := 7) (by omega) (by omega)), nI_pred, zcl0 (show i + 1 < 1000 by omega), zcl0 (show i < 1000 by omega), a1, a2, nI_1]
        have e2 : f_X6_power_4 R (m + 1) 1 (nI (i + 1)) = if R.1 1 (6 + i) < R.1 1 (6 + (i + 1)) then f_X6_power_4 R m 0 (nI (i + 1 + 1)) else f_X6_power_4 R m 1 (nI (i + 1 + 1)) := by
          rw [f_X6_power_4, if_neg (show ¬ (6 : Int32) < nI (i + 1) from nI_nlt (a := 6) (by omega) (by omega)), if_neg (by decide), key (i + 1) (by omega), key2 i (by omega), nI_1]
        by_cases q2 : R.1 1 (6 + i) < R.1 1 (6 + (i + 1))
        · left
          show f_X5_power_2 C (k + 1) (nI (i + 1)) = f_X6_power_4 R (m + 1) 1 (nI (i + 1))
          rw [e1, e2, if_neg (Int32.not_le.mpr q2), if_pos q2]
          exact (pow_0 (7 - (i + 1 + 1)) m (i + 1 + 1) (by omega) (by omega)).symm
        · right
          exact ⟨by omega, a, b, by omega, by show f_X5_power_2 C (k + 1) (nI (i + 1)) = _; rw [e1, if_pos (Int32.not_lt.mp q2)], by show f_X6_power_4 R (m + 1) 1 (nI (i + 1)) = _; rw [e2, if_neg q2]⟩)
    5 8 8 2 () () rfl (by omega) (by omega) (by omega) (by omega)
