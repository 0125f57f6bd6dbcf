/-! from, still: the least number with which all goes as it is to -/
theorem zJu_n (a : zM) : ∀ n : Nat, ∃ c, c ≤ n ∧ zJu a n = nI c ∧ (c = n ↔ ∀ i, i < n → ¬ (aIt a (i + 1)).1 29 5 ≤ 0) := by
  intro n
  induction n with
  | zero => exact ⟨0, Nat.le_refl 0, rfl, fun _ i hi => absurd hi (Nat.not_lt_zero i), fun _ => rfl⟩
  | succ n ih =>
    obtain ⟨c, h1, h2, h3⟩ := ih
    have ej : zJu a (n + 1) = zJu a n + (if (aIt a (n + 1)).1 29 5 ≤ 0 then 0 else 1) := rfl
    by_cases q : (aIt a (n + 1)).1 29 5 ≤ 0
    · refine ⟨c, by omega, ?_, ?_⟩
      · rw [ej, if_pos q, h2, Int32.add_zero]
      · constructor
        · intro z; omega
        · intro z; exact absurd q (z n (by omega))
    · refine ⟨c + 1, by omega, ?_, ?_⟩
      · rw [ej, if_neg q, h2, nI_1]
      · constructor
        · intro z i hi
          by_cases y : i = n
          · subst y; exact q
          · exact h3.mp (by omega) i (by omega)
        · intro z
          have := h3.mpr (fun i hi => z i (by omega))
          omega
theorem zJu_all {a : zM} {n : Nat} (hn : n ≤ 60) : (zJu a n = nI n) ↔ ∀ i, i < n → ¬ (aIt a (i + 1)).1 29 5 ≤ 0 := by
  obtain ⟨c, h1, h2, h3⟩ := zJu_n a n
  rw [h2, nI_eq (by omega) (by omega)]
  exact h3
theorem zgr_lt {m x y : Int32} : (m < f_X6_greater x y) ↔ (m < x ∨ m < y) := by
  unfold f_X6_greater
  by_cases q : x ≤ y
  · rw [if_pos q]
    constructor
    · exact fun z => Or.inr z
    · intro z
      rcases z with z | z
      · exact Int32.lt_of_lt_of_le z q
      · exact z
  · rw [if_neg q]
    have q2 := Int32.le_of_lt (Int32.not_le.mp q)
    constructor
    · exact fun z => Or.inl z
    · intro z
      rcases z with z | z
      · exact z
      · exact Int32.lt_of_lt_of_le z q2
theorem zGr_all {a : zM} {m : Int32} (hm : 0 ≤ m) : ∀ n : Nat, (¬ m < zGr a n) ↔ ∀ i, i < n → ¬ m < (aIt a (i + 1)).1 29 5 := by
  intro n
  induction n with
  | zero => exact ⟨fun _ i hi => absurd hi (Nat.not_lt_zero i), fun _ => Int32.not_lt.mpr hm⟩
  | succ n ih =>
    have eg : zGr a (n + 1) = f_X6_greater (zGr a n) ((aIt a (n + 1)).1 29 5) := rfl
    rw [eg, zgr_lt]
    constructor
    · intro z i hi
      by_cases y : i = n
      · subst y; exact fun w => z (Or.inr w)
      · exact ih.mp (fun w => z (Or.inl w)) i (by omega)
    · intro z w
      rcases w with w | w
      · exact ih.mpr (fun i hi => z i (by omega)) w
      · exact z n (by omega) w
/-- the class's row of trials: it stops at the first that doesn't fit -/
theorem frm_c {n : Nat} {a : zM} {k19 : Int32 → zM → Int32 × zM} {v : Int32} (hn : n ≤ 60) : ∃ j, j ≤ n ∧ f_X5_from_49 (nI n) k19 61 v 1 0 a = f_X5_from_88 (nI n) k19 v (if (∀ i, i < n → ¬ (aIt a (i + 1)).1 29 5 ≤ 0) then 1 else 0) (aIt a j) := by
  have go : ∀ (d f j : Nat), d = n - j → j ≤ n → n < j + f → (∀ i, i < j → ¬ (aIt a (i + 1)).1 29 5 ≤ 0) → ∃ j', j' ≤ n ∧ f_X5_from_49 (nI n) k19 f v 1 (nI j) (aIt a j) = f_X5_from_88 (nI n) k19 v (if (∀ i, i < n → ¬ (aIt a (i + 1)).1 29 5 ≤ 0) then 1 else 0) (aIt a j') := by
    intro d
    induction d with
    | zero =>
      intro f j hd hj hf hall
      obtain ⟨f, rfl⟩ : ∃ f', f = f' + 1 := ⟨f - 1, by omega⟩
      obtain rfl : j = n := by omega
      refine ⟨j, Nat.le_refl j, ?_⟩
      rw [f_X5_from_49, if_pos (Int32.le_refl _), if_pos hall]
    | succ d ih =>
      intro f j hd hj hf hall
      obtain ⟨f, rfl⟩ : ∃ f', f = f' + 1 := ⟨f - 1, by omega⟩
      have et : f_X2_tick 29 (aIt a j) = aIt a (j + 1) := rfl
      have e : f_X5_from_49 (nI n) k19 (f + 1) v 1 (nI j) (aIt a j) = if (aIt a (j + 1)).1 29 5 ≤ 0 then f_X5_from_49 (nI n) k19 f v 0 (nI (j + 1)) (aIt a (j + 1)) else f_X5_from_49 (nI n) k19 f v 1 (nI (j + 1)) (aIt a (j + 1)) := by
        rw [f_X5_from_49, if_neg (nI_ge (by omega) (by omega)), if_neg (by decide), et, nI_1]
      rw [e]
      by_cases q : (aIt a (j + 1)).1 29 5 ≤ 0
      · obtain ⟨f, rfl⟩ : ∃ f', f = f' + 1 := ⟨f - 1, by omega⟩
        refine ⟨j + 1, by omega, ?_⟩
        have hno : ¬ (∀ i, i < n → ¬ (aIt a (i + 1)).1 29 5 ≤ 0) := fun z => z j (by omega) q
        rw [if_pos q, if_neg hno, f_X5_from_49]
        by_cases z : nI n ≤ nI (j + 1)
        · rw [if_pos z]
        · rw [if_neg z, if_pos rfl]
      · rw [if_neg q]
        exact ih f (j + 1) (by omega) (by omega) (by omega) (fun i hi => by
          by_cases y : i = j
          · subst y; exact q
          · exact hall i (by omega))
  exact go n 61 0 rfl (Nat.zero_le n) (by omega) (fun i hi => absurd hi (Nat.not_lt_zero i))
theorem stl_c {n : Nat} {a : zM} {k42 : Int32 → zM → Int32 × zM} {p1 p3 v : Int32} (hn : n ≤ 60) : ∃ j, j ≤ n ∧ f_X5_still_80 p1 (nI n) p3 k42 61 v 1 0 a = f_X5_still_122 p1 (nI n) p3 k42 v (if (∀ i, i < n → ¬ p3 < (aIt a (i + 1)).1 29 5) then 1 else 0) (aIt a j) := by
  have go : ∀ (d f j : Nat), d = n - j → j ≤ n → n < j + f → (∀ i, i < j → ¬ p3 < (aIt a (i + 1)).1 29 5) → ∃ j', j' ≤ n ∧ f_X5_still_80 p1 (nI n) p3 k42 f v 1 (nI j) (aIt a j) = f_X5_still_122 p1 (nI n) p3 k42 v (if (∀ i, i < n → ¬ p3 < (aIt a (i + 1)).1 29 5) then 1 else 0) (aIt a j') := by
    intro d
    induction d with
    | zero =>
      intro f j hd hj hf hall
      obtain ⟨f, rfl⟩ : ∃ f', f = f' + 1 := ⟨f - 1, by omega⟩
      obtain rfl : j = n := by omega
      refine ⟨j, Nat.le_refl j, ?_⟩
      rw [f_X5_still_80, if_pos (Int32.le_refl _), if_pos hall]
    | succ d ih =>
      intro f j hd hj hf hall
      obtain ⟨f, rfl⟩ : ∃ f', f = f' + 1 := ⟨f - 1, by omega⟩
      have et : f_X2_tick 29 (aIt a j) = aIt a (j + 1) := rfl
      have e : f_X5_still_80 p1 (nI n) p3 k42 (f + 1) v 1 (nI j) (aIt a j) = if p3 < (aIt a (j + 1)).1 29 5 then f_X5_still_80 p1 (nI n) p3 k42 f v 0 (nI (j + 1)) (aIt a (j + 1)) else f_X5_still_80 p1 (nI n) p3 k42 f v 1 (nI (j + 1)) (aIt a (j + 1)) := by
        rw [f_X5_still_80, if_neg (nI_ge (by omega) (by omega)), if_neg (by decide), et, nI_1]
      rw [e]
      by_cases q : p3 < (aIt a (j + 1)).1 29 5
      · obtain ⟨f, rfl⟩ : ∃ f', f = f' + 1 := ⟨f - 1, by omega⟩
        refine ⟨j + 1, by omega, ?_⟩
        have hno : ¬ (∀ i, i < n → ¬ p3 < (aIt a (i + 1)).1 29 5) := fun z => z j (by omega) q
        rw [if_pos q, if_neg hno, f_X5_still_80]
        by_cases z : nI n ≤ nI (j + 1)
        · rw [if_pos z]
        · rw [if_neg z, if_pos rfl]
      · rw [if_neg q]
        exact ih f (j + 1) (by omega) (by omega) (by omega) (fun i hi => by
          by_cases y : i = j
          · subst y; exact q
          · exact hall i (by omega))
  exact go n 61 0 rfl (Nat.zero_le n) (by omega) (fun i hi => absurd hi (Nat.not_lt_zero i))
/-- what isSo of the reference does, over what was tried -/
theorem isSo_eq {L n : Nat} {C R a : zM} {cl : Nat} {p2 v p4 p5 : Int32} (hn : n ≤ 60) (h : zIN C R) (hcl : p2.toNatClampNeg = cl) (ht : zTr L C R a (zpI (f_X6_lay 1 3 R) 1 cl v)) :
    ∃ B, f_X6_isSo (nI n) p2 v p4 p5 R = (if p4 = 0 then (if zJu a n = nI n then (1, B) else (0, B)) else (if p5 < zGr a n then (0, B) else (1, B))) ∧ (∀ j, j ≤ n → zIN (aIt a j) B) ∧ (∀ k, k < 448 → B.1 1 k = R.1 1 k) := by
  have tj : ∀ j : Nat, ∃ b, zTr L C R (aIt a j) b := by
    intro j
    induction j with
    | zero => exact ⟨_, ht⟩
    | succ j ih =>
      obtain ⟨b, hb⟩ := ih
      exact ⟨_, (tr_tick hb).1⟩
  obtain ⟨g1, g2, g3⟩ := goes_eq hn ht
  unfold f_X6_isSo
  simp only []
  rw [hcl]
  generalize f_X6_goes (nI n) (zpI (f_X6_lay 1 3 R) 1 cl v) = G at g1 g2 g3
  obtain ⟨k1, k2, k3, k4⟩ := tr_back h g1
  have hj : f_X6_jumps (nI n) (f_X6_lay 3 1 G) = zJu a n := jumps_eq hn (fun j hj => by rw [k3 8 (by omega)]; exact (g2 j hj).1)
  have hg : f_X6_greatest (nI n) (f_X6_lay 3 1 G) = zGr a n := great_eq hn (fun j hj => by rw [k3 8 (by omega)]; exact (g2 j hj).1)
  have o4 : ∀ c, ¬ (c = 0 ∨ c = 1 ∨ c = 3 ∨ c = 6 ∨ c = 7 ∨ c = 8 ∨ c = 9 ∨ c = 11) → (f_X6_lay 3 1 G).1 c = R.1 c := fun c hc => (k3 c (by omega)).trans (g1.2.2.2.1 c hc)
  have o0 : ∀ k, ¬ (k = 9 ∨ k = 10 ∨ k = 11 ∨ k = 14) → (f_X6_lay 3 1 G).1 0 k = R.1 0 k := fun k hk => by rw [k3 0 (by omega)]; exact g1.2.2.2.2.1 k hk
  have oall : ∀ j, zIN (aIt a j) (f_X6_lay 3 1 G) := by
    intro j
    obtain ⟨b, hb⟩ := tj j
    have hb2 := hb.2.1
    have hb3 := hb.2.2.1
    clear hj hg g1 g2 g3 k1
    generalize f_X6_lay 3 1 G = B at k2 k4 o4 o0 ⊢
    refine ⟨?_, h.2.cg (fun c k z => by unfold oC at z; exact hb2 c k (by omega)) hb3 (fun c k z => ?_) (by rw [k4])⟩
    · obtain ⟨⟨L', w1⟩, w2, w3⟩ := h.1
      exact ⟨⟨L', (w1.cg (fun c k z1 z2 => hb2 c k (by omega))).all k2⟩, w2.cg (fun c z1 z2 => funext fun k => hb2 c k (by omega)) (fun k hk => k2 k (by omega)), w3.all k2⟩
    · unfold oR at z
      by_cases q : c = 0
      · subst q; exact o0 k (by omega)
      · rw [o4 c (by omega)]
  refine ⟨f_X6_lay 3 1 G, ?_, fun j _ => oall j, k2⟩
  generalize f_X6_lay 3 1 G = B at hj hg ⊢
  rw [hj, hg]
theorem m_from {C R : zM} (h : zIN C R) (p1 : Int32) : zEq (f_X5_from p1 C) (f_X6_from p1 R) := by
  unfold f_X5_from f_X6_from f_X6_isAhead f_X6_leastSo
  simp only []
  rw [wi_in]
  by_cases q : f_X6_in p1 1 60 = 0
  · rw [if_pos q, if_pos q]
    exact eq_f0 h
  rw [if_neg q, if_neg q]
  have h1 := in_X6 q
  obtain ⟨n, hn, rfl⟩ := nI_of2 (x := p1) (M := 60) (n := 60) (by decide) (Int32.not_lt.mpr (Int32.le_trans (by decide) h1.1)) h1.2
  exact zlock3 (L := 100) (P := fun _ (a b : zM) => zIN a b) (Q := zEq) (F := fun k j a => f_X5_from_19 (nI n) k (nI j) a) (G := fun k j b => f_X6_leastSo_3 (nI n) 2 0 0 k (nI j) b)
    (by
      intro k m j a b hj hk hm hP
      by_cases z : j = 100
      · left
        subst z
        show zEq (f_X5_from_19 (nI n) (k + 1) (nI 100) a) (f_X6_leastSo_3 (nI n) 2 0 0 (m + 1) (nI 100) b)
        have w : (99 : Int32) < nI 100 := by decide
        rw [f_X5_from_19, f_X6_leastSo_3, if_pos w, if_pos w]
        unfold f_X6_leastSo_30
        rw [if_pos w]
        exact eq_f3 hP
      · have w : ¬ (99 : Int32) < nI j := nI_nlt (a := 99) (by omega) (by omega)
        obtain ⟨L, hw⟩ := hP.1.1
        have ht := tr_pace (x := nI j) (tr_start (C := a) (R := b) hw)
        obtain ⟨B, e1, e2, e3⟩ := isSo_eq (p2 := 2) (p4 := 0) (p5 := 0) hn hP (by decide) ht
        obtain ⟨j', hj', e4⟩ := frm_c (n := n) (a := zpI (f_X2_copyFrom 29 1 a) 29 3 (nI j)) (k19 := fun wv2 wmm => f_X5_from_19 (nI n) k wv2 wmm) (v := nI j) hn
        have ec : f_X5_from_19 (nI n) (k + 1) (nI j) a = f_X5_from_49 (nI n) (fun wv2 wmm => f_X5_from_19 (nI n) k wv2 wmm) 61 (nI j) 1 0 (zpI (f_X2_copyFrom 29 1 a) 29 3 (nI j)) := by
          rw [f_X5_from_19, if_neg w]
        have er : f_X6_leastSo_3 (nI n) 2 0 0 (m + 1) (nI j) b = if (f_X6_isSo (nI n) 2 (nI j) 0 0 b).1 = 0 then f_X6_leastSo_3 (nI n) 2 0 0 m (nI (j + 1)) (f_X6_isSo (nI n) 2 (nI j) 0 0 b).2 else (nI j, (f_X6_isSo (nI n) 2 (nI j) 0 0 b).2) := by
          rw [f_X6_leastSo_3, if_neg w, nI_1]
          unfold f_X6_leastSo_30
          simp only []
          rw [if_neg w]
        rw [e4] at ec
        rw [if_pos rfl] at e1
        rw [e1] at er
        have hz := e2 j' hj'
        have hall := zJu_all (a := zpI (f_X2_copyFrom 29 1 a) 29 3 (nI j)) hn
        generalize aIt (zpI (f_X2_copyFrom 29 1 a) 29 3 (nI j)) j' = A' at ec hz
        unfold f_X5_from_88 at ec
        by_cases y : zJu (zpI (f_X2_copyFrom 29 1 a) 29 3 (nI j)) n = nI n
        · left
          rw [if_pos (hall.mp y), if_neg (by decide)] at ec
          rw [if_pos y, if_neg (show ¬ ((1 : Int32), B).1 = 0 by show ¬ (1 : Int32) = 0; decide)] at er
          show zEq (f_X5_from_19 (nI n) (k + 1) (nI j) a) (f_X6_leastSo_3 (nI n) 2 0 0 (m + 1) (nI j) b)
          rw [ec, er]
          exact ⟨rfl, hz⟩
        · right
          rw [if_neg (fun z => y (hall.mpr z)), if_pos rfl, nI_1] at ec
          rw [if_neg y, if_pos rfl] at er
          exact ⟨by omega, A', B, hz, ec, er⟩)
    100 101 101 0 C R rfl (by omega) (by omega) (by omega) h
theorem m_still {C R : zM} (h : zIN C R) (p1 p2 p3 : Int32) : zEq (f_X5_still p1 p2 p3 C) (f_X6_still p1 p2 p3 R) := by
  obtain ⟨L, hw⟩ := h.1.1
  have hL := hw.1
  unfold f_X5_still f_X6_still f_X6_isAhead f_X6_leastSo f_X5_still_32 f_X6_still_26
  simp only []
  rw [wi_in, wi_in, has_eq hw.2.1 hw.2.2.1 hL]
  by_cases q0 : f_X6_isBlock p1 R = 0
  · rw [if_pos q0, if_pos q0]
    exact eq_f0 h
  rw [if_neg q0, if_neg q0]
  by_cases q : f_X6_in p2 1 60 = 0
  · rw [if_pos q, if_pos q]
    exact eq_f0 h
  rw [if_neg q, if_neg q]
  by_cases q3 : f_X6_in p3 0 400 = 0
  · rw [if_pos q3, if_pos q3]
    exact eq_f0 h
  rw [if_neg q3, if_neg q3]
  have h3 := (in_X6 q3).1
  obtain ⟨s, hs, rfl⟩ := has_b hw.2.2.1 hL q0
  have h1 := in_X6 q
  obtain ⟨n, hn, rfl⟩ := nI_of2 (x := p2) (M := 60) (n := 60) (by decide) (Int32.not_lt.mpr (Int32.le_trans (by decide) h1.1)) h1.2
  have hcl : ((78 : Int32) + 7 * nI s + 4).toNatClampNeg = 78 + 7 * s + 4 := by
    have key : ∀ b, b < 10 → ((78 : Int32) + 7 * nI b + 4).toNatClampNeg = 78 + 7 * b + 4 := by decide
    exact key s (by omega)
  generalize (78 : Int32) + 7 * nI s + 4 = cl at hcl
  exact zlock3 (L := 100) (P := fun _ (a b : zM) => zIN a b ∧ b.1 1 0 = nI L) (Q := zEq) (F := fun k j a => f_X5_still_42 (nI s) (nI n) p3 k (nI j) a) (G := fun k j b => f_X6_leastSo_3 (nI n) cl 1 p3 k (nI j) b)
    (by
      intro k m j a b hj hk hm hP
      obtain ⟨hP, hl0⟩ := hP
      by_cases z : j = 100
      · left
        subst z
        show zEq (f_X5_still_42 (nI s) (nI n) p3 (k + 1) (nI 100) a) (f_X6_leastSo_3 (nI n) cl 1 p3 (m + 1) (nI 100) b)
        have w : (99 : Int32) < nI 100 := by decide
        rw [f_X5_still_42, f_X6_leastSo_3, if_pos w, if_pos w]
        unfold f_X6_leastSo_30
        rw [if_pos w]
        exact eq_f3 hP
      · have w : ¬ (99 : Int32) < nI j := nI_nlt (a := 99) (by omega) (by omega)
        obtain ⟨L', hw'⟩ := hP.1.1
        have eL : L' = L := by
          have := hw'.2.2.1
          rw [hl0] at this
          have hL' := hw'.1
          exact ((nI_eq (by omega) (by omega)).mp this).symm
        subst eL
        have hst := tr_start (C := a) (R := b) hw'
        have bd := hst.1.2.2.2.2.2.2.1 s hs
        have ht := tr_put (w := 4) (x := nI j) hst hs (by omega) (bd.put (by omega) rfl)
        obtain ⟨B, e1, e2, e3⟩ := isSo_eq (p2 := cl) (p4 := 1) (p5 := p3) hn hP hcl ht
        obtain ⟨j', hj', e4⟩ := stl_c (n := n) (a := zpI (f_X2_copyFrom 29 1 a) (31 + s) 4 (nI j)) (k42 := fun wv4 wmm => f_X5_still_42 (nI s) (nI n) p3 k wv4 wmm) (p1 := nI s) (p3 := p3) (v := nI j) hn
        have ec : f_X5_still_42 (nI s) (nI n) p3 (k + 1) (nI j) a = f_X5_still_80 (nI s) (nI n) p3 (fun wv4 wmm => f_X5_still_42 (nI s) (nI n) p3 k wv4 wmm) 61 (nI j) 1 0 (zpI (f_X2_copyFrom 29 1 a) (31 + s) 4 (nI j)) := by
          rw [f_X5_still_42, if_neg w, zcl0 (show s < 1000 by omega)]
        have er : f_X6_leastSo_3 (nI n) cl 1 p3 (m + 1) (nI j) b = if (f_X6_isSo (nI n) cl (nI j) 1 p3 b).1 = 0 then f_X6_leastSo_3 (nI n) cl 1 p3 m (nI (j + 1)) (f_X6_isSo (nI n) cl (nI j) 1 p3 b).2 else (nI j, (f_X6_isSo (nI n) cl (nI j) 1 p3 b).2) := by
          rw [f_X6_leastSo_3, if_neg w, nI_1]
          unfold f_X6_leastSo_30
          simp only []
          rw [if_neg w]
        rw [e4] at ec
        rw [if_neg (show ¬ (1 : Int32) = 0 by decide)] at e1
        rw [e1] at er
        have hz := e2 j' hj'
        have hall := zGr_all (a := zpI (f_X2_copyFrom 29 1 a) (31 + s) 4 (nI j)) h3 n
        generalize aIt (zpI (f_X2_copyFrom 29 1 a) (31 + s) 4 (nI j)) j' = A' at ec hz
        unfold f_X5_still_122 at ec
        by_cases y : p3 < zGr (zpI (f_X2_copyFrom 29 1 a) (31 + s) 4 (nI j)) n
        · right
          rw [if_neg (fun z => (hall.mpr z) y), if_pos rfl, nI_1] at ec
          rw [if_pos y, if_pos rfl] at er
          exact ⟨by omega, A', B, ⟨hz, (e3 0 (by omega)).trans hl0⟩, ec, er⟩
        · left
          rw [if_pos (hall.mp y), if_neg (by decide)] at ec
          rw [if_neg y, if_neg (show ¬ ((1 : Int32), B).1 = 0 by show ¬ (1 : Int32) = 0; decide)] at er
          show zEq (f_X5_still_42 (nI s) (nI n) p3 (k + 1) (nI j) a) (f_X6_leastSo_3 (nI n) cl 1 p3 (m + 1) (nI j) b)
          rw [ec, er]
          exact ⟨rfl, hz⟩)
    100 101 101 0 C R rfl (by omega) (by omega) (by omega) ⟨h, hw.2.2.1⟩
