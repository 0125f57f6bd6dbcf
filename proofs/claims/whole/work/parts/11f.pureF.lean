/-! cells that a tick of the reference doesn't touch -/
def zNo (c : Nat) : Prop := c ≠ 0 ∧ c ≠ 1 ∧ c ≠ 6 ∧ c ≠ 7 ∧ c ≠ 8 ∧ c ≠ 9 ∧ c ≠ 11
def zFr (c : Nat) (M M' : zM) : Prop := M'.1 c = M.1 c ∧ M'.2 = M.2
theorem zFr.rf {c : Nat} {M : zM} : zFr c M M := ⟨rfl, rfl⟩
theorem zFr.tr {c : Nat} {A B C : zM} (h : zFr c A B) (k : zFr c B C) : zFr c A C := ⟨k.1.trans h.1, k.2.trans h.2⟩
theorem fr_put {c a k : Nat} {v : Int32} {M : zM} (h : c ≠ a) : zFr c M (zpI M a k v) := ⟨zpI_ne.1 c h, rfl⟩
theorem fr_given5 {c : Nat} (hc : zNo c) {b s : Int32} : ∀ (n : Nat) (h k : Int32) (M : zM), zFr c M (f_X6_given_5 b s n h k M).2 := by
  intro n
  induction n with
  | zero => intro h k M; exact zFr.rf
  | succ n ih =>
    intro h k M
    unfold f_X6_given_5
    split
    · exact zFr.rf
    · simp only []
      split
      · split
        · exact (fr_put hc.2.2.2.2.2.2).tr (ih _ _ _)
        · exact (fr_put hc.2.2.2.2.2.2).tr (ih _ _ _)
      · split
        · exact (fr_put hc.2.2.2.2.2.2).tr (ih _ _ _)
        · exact (fr_put hc.2.2.2.2.2.2).tr (ih _ _ _)
theorem fr_given {c : Nat} (hc : zNo c) {b s : Int32} {M : zM} : zFr c M (f_X6_given b s M).2 := fr_given5 hc _ _ _ M
theorem fr_holdsOf {c : Nat} (hc : zNo c) {b s : Int32} {M : zM} : zFr c M (f_X6_holdsOf b s M).2 := by
  unfold f_X6_holdsOf
  simp only []
  repeat' split
  all_goals first | exact zFr.rf | exact fr_given hc (b := b) (s := s) (M := M)
theorem fr_stepsOf {c : Nat} (hc : zNo c) {b : Int32} {M : zM} : zFr c M (f_X6_stepsOf b M).2 := by
  have k : ∀ v x : Int32, zFr c M (f_X6_stepsOf_23 b v x M).2 := by
    intro v x
    unfold f_X6_stepsOf_23
    simp only []
    split
    · rw [rw_steps62]; exact fr_holdsOf hc
    · rw [rw_steps62]; exact zFr.rf
  unfold f_X6_stepsOf
  simp only []
  split <;> exact k _ _
theorem fr_round33 {c : Nat} (hc : zNo c) : ∀ (n : Nat) (a v : Int32) (M : zM), zFr c M (f_X6_round_33 n a v M).2 := by
  obtain ⟨h0, h1, h6, h7, h8, h9, h11⟩ := hc
  intro n
  induction n with
  | zero => intro a v M; exact zFr.rf
  | succ n ih =>
    intro a v M
    unfold f_X6_round_33
    split
    · exact zFr.rf
    · simp only []
      split
      · exact (fr_put h6).tr (ih _ _ _)
      · exact ((((fr_put h6).tr (fr_put h1)).tr (fr_put h0)).tr ((fr_put h0).tr (fr_put h0))).tr (ih _ _ _)
theorem fr_round4 {c : Nat} (hc : zNo c) : ∀ (n : Nat) (a v : Int32) (M : zM), zFr c M (f_X6_round_4 n a v M).2 := by
  intro n
  induction n with
  | zero => intro a v M; exact zFr.rf
  | succ n ih =>
    intro a v M
    unfold f_X6_round_4
    split
    · exact fr_round33 hc _ _ _ M
    · simp only []
      exact ((fr_stepsOf hc).tr (fr_put hc.2.2.2.1)).tr (ih _ _ _)
theorem fr_round {c : Nat} (hc : zNo c) {M : zM} : zFr c M (f_X6_round M).2 := fr_round4 hc _ _ _ M
theorem fr_books3 {c : Nat} (hc : zNo c) : ∀ (n : Nat) (v : Int32) (M : zM), zFr c M (f_X6_books_3 n v M) := by
  intro n
  induction n with
  | zero => intro v M; exact zFr.rf
  | succ n ih =>
    intro v M
    unfold f_X6_books_3
    split
    · simp only []
      exact ((fr_put hc.2.1).tr (fr_put hc.2.1)).tr ((fr_put hc.2.1).tr (fr_put hc.2.1))
    · simp only []
      exact ((fr_put hc.2.1).tr ((fr_put hc.2.1).tr (fr_put hc.2.1))).tr (ih _ _)
theorem fr_tick100 {c : Nat} (hc : zNo c) : ∀ (n : Nat) (v : Int32) (M : zM), zFr c M (f_X6_tick_100 n v M) := by
  intro n
  induction n with
  | zero => intro v M; exact zFr.rf
  | succ n ih =>
    intro v M
    have k190 : ∀ (A : zM) (x w b : Int32), zFr c M A → zFr c M (f_X6_tick_190 (fun wv3 wmm => f_X6_tick_100 n wv3 wmm) v x w b A) := by
      intro A x w b hA
      unfold f_X6_tick_190
      simp only []
      exact hA.tr ((fr_put hc.2.1).tr (ih _ _))
    have k157 : ∀ (q x w b : Int32), zFr c M (f_X6_tick_157 (fun wv3 wmm => f_X6_tick_100 n wv3 wmm) v q x w b M) := by
      intro q x w b
      unfold f_X6_tick_157
      simp only []
      split <;> exact k190 _ _ _ _ (fr_put hc.2.1)
    have k127 : ∀ (q : Int32), zFr c M (f_X6_tick_127 (fun wv3 wmm => f_X6_tick_100 n wv3 wmm) v q M) := by
      intro q
      unfold f_X6_tick_127
      simp only []
      split <;> exact k157 _ _ _ _
    unfold f_X6_tick_100
    split
    · simp only []
      exact ((fr_put hc.2.1).tr (fr_put hc.2.1)).tr (fr_books3 hc _ _ _)
    · split <;> exact k127 _
theorem fr_tick80 {c : Nat} (hc : zNo c) {v : Int32} {M : zM} : zFr c M (f_X6_tick_80 v M) := by
  have h4 : ∀ x y z : Int32, zFr c M (f_X6_tick_96 x y z M) := by
    intro x y z
    unfold f_X6_tick_96
    simp only []
    exact (fr_put hc.2.1).tr (fr_tick100 hc _ _ _)
  unfold f_X6_tick_80
  split <;> exact h4 _ _ _
theorem fr_tick59 {c : Nat} (hc : zNo c) : ∀ (n : Nat) (a v : Int32) (M : zM), zFr c M (f_X6_tick_59 n a v M) := by
  intro n
  induction n with
  | zero => intro a v M; exact zFr.rf
  | succ n ih =>
    intro a v M
    unfold f_X6_tick_59
    split
    · exact fr_tick80 hc
    · split
      · exact fr_tick80 hc
      · simp only []
        exact (fr_round hc).tr (ih _ _ _)
theorem fr_tick32 {c : Nat} (hc : zNo c) : ∀ (n : Nat) (v : Int32) (M : zM), zFr c M (f_X6_tick_32 n v M) := by
  intro n
  induction n with
  | zero => intro v M; exact zFr.rf
  | succ n ih =>
    intro v M
    unfold f_X6_tick_32
    split
    · exact fr_tick59 hc _ _ _ M
    · simp only []
      exact (fr_put hc.2.2.1).tr (ih _ _)
theorem fr_tick {c : Nat} (hc : zNo c) {M : zM} : zFr c M (f_X6_tick M) := by
  unfold f_X6_tick
  simp only []
  exact (((fr_put hc.2.1).tr (fr_put hc.1)).tr ((fr_put hc.1).tr (fr_put hc.1))).tr (fr_tick32 hc _ _ _)
theorem fr_goes7 {c : Nat} (hc : zNo c) {q : Int32} : ∀ (n : Nat) (v : Int32) (M : zM), zFr c M (f_X6_goes_7 q n v M) := by
  intro n
  induction n with
  | zero => intro v M; exact zFr.rf
  | succ n ih =>
    intro v M
    unfold f_X6_goes_7
    split
    · exact zFr.rf
    · simp only []
      exact (((fr_tick hc).tr (fr_put hc.2.2.2.2.1)).tr ((fr_put hc.2.2.2.2.2.1).tr (fr_put hc.1))).tr (ih _ _)
theorem fr_goes {c : Nat} (hc : zNo c) {q : Int32} {M : zM} : zFr c M (f_X6_goes q M) := by
  unfold f_X6_goes
  simp only []
  exact (fr_put hc.1).tr (fr_goes7 hc _ _ _)
theorem zNo3 : zNo 3 := ⟨by decide, by decide, by decide, by decide, by decide, by decide, by decide⟩
theorem sm_isSo {n cl v w q : Int32} {M : zM} : zSame M (f_X6_isSo n cl v w q M).2 := by
  have key : zSame M (f_X6_lay 3 1 (f_X6_goes n (zpI (f_X6_lay 1 3 M) 1 cl.toNatClampNeg v))) := sm_back ((fr_goes zNo3).1.trans (zpI_ne.1 3 (by decide)))
  unfold f_X6_isSo
  simp only []
  generalize f_X6_lay 3 1 (f_X6_goes n (zpI (f_X6_lay 1 3 M) 1 cl.toNatClampNeg v)) = Z at key ⊢
  repeat' split
  all_goals exact key
theorem gives_82_2 {a b d v : Int32} {M : zM} : (f_X6_gives_82 a b d v M).2 = f_X6_lay 3 1 M := by
  unfold f_X6_gives_82
  generalize f_X6_lay 3 1 M = Z
  rfl
theorem gives_end {a b d L : Int32} : ∀ (n : Nat) (v w : Int32) (M : zM), 0 ≤ w → w ≤ 40 → L ≤ 40 → 40 < w.toInt + n → ∃ A : zM, (f_X6_gives_32 a b d n L v w M).2 = f_X6_lay 3 1 A ∧ A.1 3 = M.1 3 := by
  intro n
  induction n with
  | zero =>
    intro v w M h0 h1 hL hn
    rw [Int32.le_iff_toInt_le] at h1
    have : (40 : Int32).toInt = 40 := by decide
    omega
  | succ n ih =>
    intro v w M h0 h1 hL hn
    unfold f_X6_gives_32
    split
    · exact ⟨M, gives_82_2, rfl⟩
    · rename_i hc
      split
      · exact ⟨M, gives_82_2, rfl⟩
      · have h2 := Int32.lt_of_lt_of_le (Int32.not_le.mp hc) hL
        have e := zadd1 h2
        have hw : w + 1 ≤ 40 ∧ 0 ≤ w + 1 := by
          rw [Int32.lt_iff_toInt_lt] at h2
          rw [Int32.le_iff_toInt_le] at h0
          have z40 : (40 : Int32).toInt = 40 := by decide
          have z0 : (0 : Int32).toInt = 0 := by decide
          constructor <;> rw [Int32.le_iff_toInt_le] <;> omega
        simp only []
        have ht := (fr_tick (c := 3) zNo3 (M := M)).1
        split
        · obtain ⟨A, h3, h4⟩ := ih 1 (w + 1) (f_X6_tick M) hw.2 hw.1 hL (by omega)
          exact ⟨A, h3, h4.trans ht⟩
        · obtain ⟨A, h3, h4⟩ := ih 0 (w + 1) (f_X6_tick M) hw.2 hw.1 hL (by omega)
          exact ⟨A, h3, h4.trans ht⟩
theorem sm_gives {a b d : Int32} {M : zM} (hL : f_X6_longOf d M ≤ 40) : zSame M (f_X6_gives a b d M).2 := by
  unfold f_X6_gives
  simp only []
  obtain ⟨A, h1, h2⟩ := gives_end (a := a) (b := b) (d := d) (L := f_X6_longOf d M) 41 1 0 (f_X6_become a 0 b (f_X6_lay 1 3 M)).2 (by decide) (by decide) hL (by decide)
  rw [h1]
  exact sm_back (h2.trans (zpI_ne.1 3 (by decide)))
