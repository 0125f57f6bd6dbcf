/-! the reference's law as it is kept: what stays of the row, and that it can be reckoned -/
/-- how high the pile stands ahead of the k-th code -/
def zHg (c : Nat → Int32) : Nat → Int
  | 0 => 0
  | k + 1 => if c k < 2000 then zHg c k + 1 else if c k = 2004 then zHg c k else zHg c k - 1
/-- every code finds on the pile what it needs -/
def zVal (M : zM) : Prop := ∀ k : Nat, k < 64 → (k : Int) < (M.1 1 5).toInt → 2000 ≤ M.1 1 (14 + k) → (if M.1 1 (14 + k) = 2004 then 1 else 2) ≤ zHg (fun i => M.1 1 (14 + i)) k
/-- how many blocks there are, and the law, are as they were -/
def zSame (M M' : zM) : Prop := M'.1 1 0 = M.1 1 0 ∧ M'.1 1 5 = M.1 1 5 ∧ ∀ k, k < 64 → M'.1 1 (14 + k) = M.1 1 (14 + k)
theorem zSame.rf {M : zM} : zSame M M := ⟨rfl, rfl, fun _ _ => rfl⟩
theorem zSame.tr {A B C : zM} (h : zSame A B) (k : zSame B C) : zSame A C := ⟨k.1.trans h.1, k.2.1.trans h.2.1, fun i hi => (k.2.2 i hi).trans (h.2.2 i hi)⟩
theorem zHg_congr {c c' : Nat → Int32} : ∀ k : Nat, (∀ i, i < k → c' i = c i) → zHg c' k = zHg c k := by
  intro k
  induction k with
  | zero => intro _; rfl
  | succ k ih =>
    intro h
    unfold zHg
    rw [ih (fun i hi => h i (by omega)), h k (by omega)]
theorem zVal.to {M M' : zM} (h : zVal M) (s : zSame M M') : zVal M' := by
  intro k hk hc h2
  rw [s.2.1] at hc
  rw [s.2.2 k hk] at h2 ⊢
  rw [zHg_congr (c := fun i => M.1 1 (14 + i)) k (fun i hi => s.2.2 i (by omega))]
  exact h k hk hc h2
theorem zVof {D : va_G} {cy : Nat → ClassId} {ad : Nat → Nat} {H0 H : Heap} {M : zM} {locs : List Loc} (_ : zH D lyR cy ad H0 M H locs) (h : zVal M) : zVal M := h
theorem sm_row {M M' : zM} (h : M'.1 1 = M.1 1) : zSame M M' := by
  unfold zSame
  rw [h]
  exact ⟨rfl, rfl, fun _ _ => rfl⟩
theorem sm_put0 {M : zM} {c k : Nat} {v : Int32} (h : c ≠ 1) : zSame M (zpI M c k v) := sm_row (zpI_ne.1 1 (fun e => h e.symm))
theorem sm_put1 {M : zM} {k : Nat} {v : Int32} (h : k ≠ 0 ∧ k ≠ 5 ∧ (k < 14 ∨ 78 ≤ k)) : zSame M (zpI M 1 k v) := by
  refine ⟨zpI_off (fun e => h.1 e.2.symm), zpI_off (fun e => h.2.1 e.2.symm), fun i hi => zpI_off (fun e => ?_)⟩
  have := e.2
  omega
theorem zge {x : Int32} {n : Nat} (m : Int32) (hm : m.toInt = n) (h : m ≤ x) : n ≤ x.toNatClampNeg := by
  rw [Int32.le_iff_toInt_le] at h
  show n ≤ x.toInt.toNat
  omega
theorem sm_put78 {M : zM} {i v : Int32} (h : 78 ≤ i) : zSame M (zpI M 1 i.toNatClampNeg v) := by
  have := zge 78 (n := 78) (by decide) h
  exact sm_put1 ⟨by omega, by omega, Or.inr this⟩
theorem ix78 {b w : Int32} (hb : 0 ≤ b ∧ b < 10) (hw : 0 ≤ w ∧ w ≤ 6) : (78 : Int32) ≤ (78 : Int32) + (7 : Int32) * b + w := by
  have key : ∀ j : Nat, j ≤ 9 → ∀ k : Nat, k ≤ 6 → (78 : Int32) ≤ (78 : Int32) + (7 : Int32) * nI j + nI k := by decide
  obtain ⟨j, hj, rfl⟩ := nI_of2 (x := b) (M := 9) (n := 9) (by decide) (Int32.not_lt.mpr hb.1) (by grind)
  obtain ⟨k, hk, rfl⟩ := nI_of2 (x := w) (M := 6) (n := 6) (by decide) (Int32.not_lt.mpr hw.1) hw.2
  exact key j hj k hk
theorem sm_become {b w v : Int32} {M : zM} (hb : 0 ≤ b ∧ b < 10) (hw : 0 ≤ w ∧ w ≤ 6) : zSame M (f_X6_become b w v M).2 := sm_put78 (ix78 hb hw)
theorem sm_no {w : Int32} {M : zM} : zSame M (f_X6_no w M).2 := sm_put0 (by decide)
theorem rw_given5 {b s : Int32} : ∀ (n : Nat) (h k : Int32) (M : zM), (f_X6_given_5 b s n h k M).2.1 1 = M.1 1 := by
  intro n
  induction n with
  | zero => intro h k M; rfl
  | succ n ih =>
    intro h k M
    unfold f_X6_given_5
    split
    · rfl
    · simp only []
      split
      · split <;> (rw [ih]; exact zpI_ne.1 1 (by decide))
      · split <;> (rw [ih]; exact zpI_ne.1 1 (by decide))
theorem rw_given {b s : Int32} {M : zM} : (f_X6_given b s M).2.1 1 = M.1 1 := rw_given5 _ _ _ M
theorem rw_holdsOf {b s : Int32} {M : zM} : (f_X6_holdsOf b s M).2.1 1 = M.1 1 := by
  have k : ∀ x : Int32, ((x, M) : Int32 × zM).2.1 1 = M.1 1 := fun _ => rfl
  unfold f_X6_holdsOf
  simp only []
  repeat' split
  all_goals first | rfl | exact rw_given (b := b) (s := s) (M := M)
theorem rw_steps123 {b v x : Int32} {M : zM} : (f_X6_stepsOf_123 b v x M).2 = M := by
  unfold f_X6_stepsOf_123
  split <;> rfl
theorem rw_steps62 {b v w x : Int32} {M : zM} : (f_X6_stepsOf_62 b v w x M).2 = M := by
  unfold f_X6_stepsOf_62
  simp only []
  split
  · split
    · split <;> exact rw_steps123
    · exact rw_steps123
  · rfl
theorem rw_steps23 {b v x : Int32} {M : zM} : (f_X6_stepsOf_23 b v x M).2.1 1 = M.1 1 := by
  unfold f_X6_stepsOf_23
  simp only []
  split
  · rw [rw_steps62]; exact rw_holdsOf
  · rw [rw_steps62]
theorem rw_stepsOf {b : Int32} {M : zM} : (f_X6_stepsOf b M).2.1 1 = M.1 1 := by
  unfold f_X6_stepsOf
  simp only []
  split <;> exact rw_steps23
theorem zb10 {v L : Int32} (h0 : 0 ≤ v) (h : ¬ L ≤ v) (hL : L ≤ 10) : 0 ≤ v ∧ v < 10 := ⟨h0, Int32.lt_of_lt_of_le (Int32.not_le.mp h) hL⟩
theorem zv1 {v L : Int32} (h0 : 0 ≤ v) (h : ¬ L ≤ v) : 0 ≤ v + 1 := by
  have h1 := zadd1 (Int32.not_le.mp h)
  rw [Int32.le_iff_toInt_le] at h0 ⊢
  have z0 : (0 : Int32).toInt = 0 := by decide
  omega
theorem sm_round33 : ∀ (n : Nat) (a v : Int32) (M : zM), 0 ≤ v → M.1 1 0 ≤ 10 → zSame M (f_X6_round_33 n a v M).2 := by
  intro n
  induction n with
  | zero => intro a v M _ _; exact zSame.rf
  | succ n ih =>
    intro a v M h0 hL
    unfold f_X6_round_33
    split
    · exact zSame.rf
    · rename_i hc
      simp only []
      have s5 : zSame M (zpI M 6 v.toNatClampNeg (M.1 7 v.toNatClampNeg)) := sm_put0 (by decide)
      have hb := zb10 h0 hc hL
      generalize zpI M 6 v.toNatClampNeg (M.1 7 v.toNatClampNeg) = m5 at s5 ⊢
      split
      · exact s5.tr (ih _ _ _ (zv1 h0 hc) (by rw [s5.1]; exact hL))
      · generalize f_X6_at v 5 m5 + m5.1 7 v.toNatClampNeg = x8
        have s8 := s5.tr (sm_become (w := 5) (v := x8) (M := m5) hb (by decide))
        generalize (f_X6_become v 5 x8 m5).2 = m8 at s8 ⊢
        generalize m8.1 0 9 ||| 1 <<< (v &&& 31) = x9
        have s9 := s8.tr (sm_put0 (M := m8) (c := 0) (k := 9) (v := x9) (by decide))
        generalize zpI m8 0 9 x9 = m9 at s9 ⊢
        have s10 := s9.tr (sm_put0 (M := m9) (c := 0) (k := 10) (v := m9.1 0 10 + 1) (by decide))
        generalize zpI m9 0 10 (m9.1 0 10 + 1) = m10 at s10 ⊢
        generalize m10.1 0 11 + (f_X6_without (m10.1 7 v.toNatClampNeg)).toInt32 = x12
        have s12 := s10.tr (sm_put0 (M := m10) (c := 0) (k := 11) (v := x12) (by decide))
        exact s12.tr (ih _ _ _ (zv1 h0 hc) (by rw [s12.1]; exact hL))
theorem sm_round4 : ∀ (n : Nat) (a v : Int32) (M : zM), 0 ≤ v → M.1 1 0 ≤ 10 → zSame M (f_X6_round_4 n a v M).2 := by
  intro n
  induction n with
  | zero => intro a v M _ _; exact zSame.rf
  | succ n ih =>
    intro a v M h0 hL
    unfold f_X6_round_4
    split
    · exact sm_round33 _ _ 0 M (by decide) hL
    · rename_i hc
      simp only []
      have s3 := (sm_row (rw_stepsOf (b := v) (M := M))).tr (sm_put0 (c := 7) (k := v.toNatClampNeg) (v := (f_X6_stepsOf v M).1) (by decide))
      exact s3.tr (ih _ _ _ (zv1 h0 hc) (by rw [s3.1]; exact hL))
theorem sm_round {M : zM} (hL : 0 ≤ M.1 1 0 ∧ M.1 1 0 ≤ 10) : zSame M (f_X6_round M).2 := sm_round4 _ _ 0 M (by decide) hL.2
theorem sm_books3 : ∀ (n : Nat) (v : Int32) (M : zM), -1 ≤ v → v ≤ 99 → zSame M (f_X6_books_3 n v M) := by
  intro n
  induction n with
  | zero => intro v M _ _; exact zSame.rf
  | succ n ih =>
    intro v M h0 h1
    unfold f_X6_books_3
    split
    · simp only []
      exact ((((sm_put1 (by decide)).tr (sm_put1 (by decide))).tr (sm_put1 (by decide))).tr (sm_put1 (by decide)))
    · rename_i hc
      simp only []
      have h2 : 0 < v := Int32.not_le.mp hc
      refine (((sm_put78 ?_).tr (sm_put78 ?_)).tr (sm_put78 ?_)).tr (ih _ _ ?_ ?_) <;> grind
theorem sm_books {M : zM} : zSame M (f_X6_books M) := sm_books3 _ 99 M (by decide) (by decide)
theorem cls_X6_4 (p0 : Int32) : ∀ (n : Nat) (v w : Int32), 0 ≤ v → v ≤ 6 → 0 ≤ f_X6_classOf_4 p0 n v w ∧ f_X6_classOf_4 p0 n v w ≤ 6 := by
  intro n
  induction n with
  | zero => intro v w h1 h2; unfold f_X6_classOf_4; decide
  | succ n ih =>
    intro v w h1 h2
    unfold f_X6_classOf_4
    split
    · exact ⟨h1, h2⟩
    · split
      · exact ⟨h1, h2⟩
      · exact ih (v + 1) _ (by grind) (by grind)
theorem cls_X6 (q : Int32) : 0 ≤ f_X6_classOf q ∧ f_X6_classOf q ≤ 6 := cls_X6_4 q _ 0 q (by decide) (by decide)
theorem sm_put12 {M : zM} {i v : Int32} (h : 0 ≤ i ∧ i ≤ 6) : zSame M (zpI M 1 ((6 : Int32) + i).toNatClampNeg v) := by
  have key : ∀ j : Nat, j ≤ 6 → ((6 : Int32) + nI j).toNatClampNeg = 6 + j := by decide
  obtain ⟨j, hj, rfl⟩ := nI_of2 (x := i) (M := 6) (n := 6) (by decide) (Int32.not_lt.mpr h.1) h.2
  rw [key j hj]
  exact sm_put1 ⟨by omega, by omega, Or.inl (by omega)⟩
theorem sm_tick100 : ∀ (n : Nat) (v : Int32) (M : zM), 0 ≤ v → M.1 1 0 ≤ 10 → zSame M (f_X6_tick_100 n v M) := by
  intro n
  induction n with
  | zero => intro v M _ _; exact zSame.rf
  | succ n ih =>
    intro v M h0 hL
    unfold f_X6_tick_100
    split
    · simp only []
      exact ((sm_put1 (by decide)).tr (sm_put12 (cls_X6 _))).tr sm_books
    · rename_i hc
      have hb := zb10 h0 hc hL
      have k190 : ∀ (A : zM) (x w : Int32), zSame M A → 0 ≤ w ∧ w ≤ 6 → zSame M (f_X6_tick_190 (fun wv3 wmm => f_X6_tick_100 n wv3 wmm) v x w v A) := by
        intro A x w hA hw
        unfold f_X6_tick_190
        simp only []
        have s := hA.tr (sm_become (v := x) hb hw)
        exact s.tr (ih _ _ (zv1 h0 hc) (by rw [s.1]; exact hL))
      have k157 : ∀ (q x w : Int32), 0 ≤ w ∧ w ≤ 6 → zSame M (f_X6_tick_157 (fun wv3 wmm => f_X6_tick_100 n wv3 wmm) v q x w v M) := by
        intro q x w hw
        unfold f_X6_tick_157
        simp only []
        have s := sm_become (v := x) (M := M) hb hw
        split <;> exact k190 _ _ _ s (by decide)
      have k127 : ∀ (q : Int32), zSame M (f_X6_tick_127 (fun wv3 wmm => f_X6_tick_100 n wv3 wmm) v q M) := by
        intro q
        unfold f_X6_tick_127
        simp only []
        split <;> exact k157 _ _ _ (by decide)
      split <;> exact k127 _
theorem sm_tick80 {v : Int32} {M : zM} (hL : M.1 1 0 ≤ 10) : zSame M (f_X6_tick_80 v M) := by
  have h4 : ∀ x y : Int32, zSame M (f_X6_tick_96 x y 4 M) := by
    intro x y
    unfold f_X6_tick_96
    simp only []
    have s : zSame M (zpI M 1 (4 : Int32).toNatClampNeg (y + x)) := sm_put1 (by decide)
    exact s.tr (sm_tick100 _ 0 _ (by decide) (by rw [s.1]; exact hL))
  unfold f_X6_tick_80
  split <;> exact h4 _ _
theorem sm_tick59 : ∀ (n : Nat) (a v : Int32) (M : zM), 0 ≤ M.1 1 0 ∧ M.1 1 0 ≤ 10 → zSame M (f_X6_tick_59 n a v M) := by
  intro n
  induction n with
  | zero => intro a v M _; exact zSame.rf
  | succ n ih =>
    intro a v M hL
    unfold f_X6_tick_59
    split
    · exact sm_tick80 hL.2
    · split
      · exact sm_tick80 hL.2
      · simp only []
        have s := sm_round hL
        exact s.tr (ih _ _ _ (by rw [s.1]; exact hL))
theorem sm_tick32 : ∀ (n : Nat) (v : Int32) (M : zM), 0 ≤ M.1 1 0 ∧ M.1 1 0 ≤ 10 → zSame M (f_X6_tick_32 n v M) := by
  intro n
  induction n with
  | zero => intro v M _; exact zSame.rf
  | succ n ih =>
    intro v M hL
    unfold f_X6_tick_32
    split
    · exact sm_tick59 _ _ _ M hL
    · simp only []
      have s : zSame M (zpI M 6 v.toNatClampNeg 0) := sm_put0 (by decide)
      exact s.tr (ih _ _ (by rw [s.1]; exact hL))
theorem sm_tick {M : zM} (hL : 0 ≤ M.1 1 0 ∧ M.1 1 0 ≤ 10) : zSame M (f_X6_tick M) := by
  unfold f_X6_tick
  simp only []
  generalize M.1 1 1 + M.1 1 2 = x1
  have s1 := sm_put1 (M := M) (k := 1) (v := x1) (by decide)
  generalize zpI M 1 1 x1 = m1 at s1 ⊢
  have s := s1.tr ((sm_put0 (M := m1) (c := 0) (k := 9) (v := 0) (by decide)).tr ((sm_put0 (c := 0) (k := 10) (v := 0) (by decide)).tr (sm_put0 (c := 0) (k := 11) (v := 0) (by decide))))
  exact s.tr (sm_tick32 _ _ _ (by rw [s.1]; exact hL))
