theorem fd_eq (x : Int32) {k : Nat} (hk : k ≤ 3) : ((x.toUInt32 >>> (((8 : Int32) * nI k).toUInt32 &&& Int32.toUInt32 31)).toInt32) &&& 255 = (x >>> (((8 : Int32) * nI k) &&& 31)) &&& 255 ∧ 0 ≤ (x >>> (((8 : Int32) * nI k) &&& 31)) &&& 255 := by
  have gen : ∀ (s : Int32) (d : Nat), ((s.toUInt32 &&& Int32.toUInt32 31).toBitVec % 32).toNat = d → ((s &&& 31).toBitVec.smod 32).toNat = d → (d = 0 ∨ d = 8 ∨ d = 16 ∨ d = 24) → ((x.toUInt32 >>> (s.toUInt32 &&& Int32.toUInt32 31)).toInt32) &&& 255 = (x >>> (s &&& 31)) &&& 255 ∧ 0 ≤ (x >>> (s &&& 31)) &&& 255 := by
    intro s d h1 h2 hd
    have U := pk_ushr x s d h1
    have S := pk_shr x (s &&& 31) d h2
    rw [pk_and _ (m := 255) 8 (by decide), pk_and _ (m := 255) 8 (by decide), U]
    have hY := BitVec.toInt_eq_toNat_cond (x >>> (s &&& 31)).toBitVec
    have hX := BitVec.toInt_eq_toNat_cond x.toBitVec
    have e1 : (x >>> (s &&& 31)).toBitVec.toInt = (x >>> (s &&& 31)).toInt := rfl
    have e2 : x.toBitVec.toInt = x.toInt := rfl
    have b1 := x.toBitVec.isLt
    have b2 := (x >>> (s &&& 31)).toBitVec.isLt
    rw [e1, S, Int.shiftRight_eq_div_pow] at hY
    rw [e2] at hX
    generalize (x >>> (s &&& 31)).toBitVec.toNat = Y at hY b2 ⊢
    generalize x.toBitVec.toNat = X at hX b1 ⊢
    generalize x.toInt = Z at hX hY
    constructor
    · congr 1
      rcases hd with rfl | rfl | rfl | rfl
      · simp at hY hX ⊢; split at hY <;> split at hX <;> omega
      · simp at hY hX ⊢; split at hY <;> split at hX <;> omega
      · simp at hY hX ⊢; split at hY <;> split at hX <;> omega
      · simp at hY hX ⊢; split at hY <;> split at hX <;> omega
    · exact nI_pos' (by have := Nat.mod_lt Y (show 0 < 2 ^ 8 by decide); omega)
  have hc : k = 0 ∨ k = 1 ∨ k = 2 ∨ k = 3 := by omega
  rcases hc with rfl | rfl | rfl | rfl
  · exact gen _ 0 (by decide) (by decide) (by omega)
  · exact gen _ 8 (by decide) (by decide) (by omega)
  · exact gen _ 16 (by decide) (by decide) (by omega)
  · exact gen _ 24 (by decide) (by decide) (by omega)
theorem feed_loop {p1 p2 : Int32} : ∀ (c f g n : Nat) (C R : zM), c ≤ 4 → c < f → c < g → zIN C R → zTb 53 n C R → n + c ≤ 60 → zEq (f_X5_feed_41 p1 p2 f (nI c - 1) C) (f_X6_feed_36 p1 p2 g (nI c - 1) R) := by
  intro c
  induction c with
  | zero =>
    intro f g n C R _ hf hg h ht hn
    obtain ⟨f, rfl⟩ : ∃ f', f = f' + 1 := ⟨f - 1, by omega⟩
    obtain ⟨g, rfl⟩ : ∃ g', g = g' + 1 := ⟨g - 1, by omega⟩
    rw [f_X5_feed_41, f_X6_feed_36, if_pos (by decide), if_pos (by decide)]
    exact ⟨ht.1.trans ht.2.1.symm, h⟩
  | succ c ih =>
    intro f g n C R hc hf hg h ht hn
    obtain ⟨f, rfl⟩ : ∃ f', f = f' + 1 := ⟨f - 1, by omega⟩
    obtain ⟨g, rfl⟩ : ∃ g', g = g' + 1 := ⟨g - 1, by omega⟩
    have em : nI c + (-1 : Int32) = nI c - 1 := by grind
    have hfd := fd_eq p1 (k := c) (by omega)
    obtain ⟨a1, a2, a3, a4, a5⟩ := id ht
    rw [f_X5_feed_41, f_X6_feed_36, nI_pred, if_neg (nI_pos (by omega)), if_neg (nI_pos (by omega)), em]
    simp only []
    rw [a1, a2, zcl0 (show n < 1000 by omega), hfd.1]
    generalize (p1 >>> (((8 : Int32) * nI c) &&& 31)) &&& 255 = B at hfd
    have e1 : (zpI C 54 n B).1 53 1 = nI n := (zpI_off (by omega)).trans a1
    have e2 : (zpI R 4 n B).1 0 5 = nI n := (zpI_off (by omega)).trans a2
    rw [e1, e2, nI_1]
    have ht2 : zTb 53 (n + 1) (zpI (zpI C 54 n B) 53 1 (nI (n + 1))) (zpI (zpI R 4 n B) 0 5 (nI (n + 1))) := by
      refine ⟨zpI_at, zpI_at, by omega, fun i hi => ?_, fun i hi => ?_⟩
      · have x1 : (zpI (zpI C 54 n B) 53 1 (nI (n + 1))).1 (53 + 1) i = (zpI C 54 n B).1 54 i := zpI_off (by omega)
        have x2 : (zpI (zpI R 4 n B) 0 5 (nI (n + 1))).1 4 i = (zpI R 4 n B).1 4 i := zpI_off (by omega)
        rw [x1, x2]
        by_cases q : i = n
        · subst q; rw [zpI_at, zpI_at]
        · rw [zpI_off (by omega), zpI_off (by omega)]; exact a4 i (by omega)
      · rw [zpI_off (by omega)]
        by_cases q : i = n
        · subst q; rw [zpI_at]; exact hfd.2
        · rw [zpI_off (by omega)]; exact a5 i (by omega)
    exact ih f g (n + 1) _ _ (by omega) (by omega) (by omega) (IN_tape h ht2 (fun c k hk => by rw [zpI_off (by omega), zpI_off (by omega)]) rfl (fun c k hk => by rw [zpI_off (by omega), zpI_off (by omega)]) rfl) ht2 (by omega)
theorem m_feed {C R : zM} (h : zIN C R) (p1 p2 : Int32) : zEq (f_X5_feed p1 p2 C) (f_X6_feed p1 p2 R) := by
  obtain ⟨n, ht⟩ := h.2.2.1
  unfold f_X5_feed f_X6_feed
  simp only []
  rw [wi_in]
  by_cases q : f_X6_in p2 1 4 = 0
  · rw [if_pos q, if_pos q]
    exact eq_f0 h
  rw [if_neg q, if_neg q]
  have h2 := in_X6 q
  obtain ⟨m, hm, rfl⟩ := nI_of2 (x := p2) (M := 4) (n := 4) (by decide) (Int32.not_lt.mpr (Int32.le_trans (by decide) h2.1)) h2.2
  have hn := ht.2.2.1
  rw [ht.1, ht.2.1, nI_add]
  by_cases q2 : n + m ≤ 60
  · rw [if_pos (show nI (n + m) ≤ (60 : Int32) from nI_le (b := 60) q2 (by omega)), if_pos (show nI (n + m) ≤ (60 : Int32) from nI_le (b := 60) q2 (by omega))]
    exact feed_loop m 5 5 n C R hm (by omega) (by omega) h ht q2
  · rw [if_neg (show ¬ nI (n + m) ≤ (60 : Int32) from nI_ge (a := 60) (by omega) (by omega)), if_neg (show ¬ nI (n + m) ≤ (60 : Int32) from nI_ge (a := 60) (by omega) (by omega))]
    exact eq_f1 h
/-! what the reference's reading leaves as it was -/
def zF0 (M M' : zM) : Prop := (∀ c, ¬ (c = 0 ∨ c = 10) → M'.1 c = M.1 c) ∧ (∀ k, k < 16 → M'.1 0 k = M.1 0 k) ∧ M'.2 = M.2
theorem zF0.rf {M : zM} : zF0 M M := ⟨fun _ _ => rfl, fun _ _ => rfl, rfl⟩
theorem zF0.tr {A B C : zM} (h : zF0 A B) (k : zF0 B C) : zF0 A C := ⟨fun c hc => (k.1 c hc).trans (h.1 c hc), fun j hj => (k.2.1 j hj).trans (h.2.1 j hj), k.2.2.trans h.2.2⟩
theorem f0_put {k : Nat} {v : Int32} {M : zM} (h : 16 ≤ k) : zF0 M (zpI M 0 k v) := ⟨fun c hc => zpI_ne.1 c (by omega), fun j hj => zpI_off (by omega), rfl⟩
theorem f0_put10 {k : Nat} {v : Int32} {M : zM} : zF0 M (zpI M 10 k v) := ⟨fun c hc => zpI_ne.1 c (by omega), fun j hj => zpI_off (by omega), rfl⟩
theorem f0_fails {M : zM} : zF0 M (f_X6_fails M) := by
  unfold f_X6_fails
  split
  · exact zF0.rf
  · exact f0_put (by omega)
theorem f0_may {c : Int32} {M : zM} : zF0 M (f_X6_may c M).2 := by
  have k20 : ∀ s : Int32, zF0 M (f_X6_may_20 c s M).2 := by
    intro s
    unfold f_X6_may_20
    split <;> exact f0_put (by omega)
  unfold f_X6_may
  simp only []
  split
  · exact k20 _
  · split <;> exact k20 _
theorem f0_must {c : Int32} {M : zM} : zF0 M (f_X6_must c M) := by
  unfold f_X6_must
  simp only []
  split
  · exact f0_may.tr f0_fails
  · exact f0_may
theorem f0_emit {v : Int32} {M : zM} : zF0 M (f_X6_emit v M) := by
  unfold f_X6_emit
  split
  · exact zF0.rf
  · exact f0_put10.tr (f0_put (by omega))
theorem f0_num4 : ∀ (n : Nat) (v w : Int32) (M : zM), zF0 M (f_X6_number_4 n v w M) := by
  intro n
  induction n with
  | zero => intro v w M; exact zF0.rf
  | succ n ih =>
    intro v w M
    unfold f_X6_number_4 f_X6_number_48
    split
    · exact f0_emit
    · simp only []
      split
      · exact f0_emit
      · exact (f0_put (by omega)).tr (ih _ _ _)
theorem f0_opens {c : Int32} {M : zM} : zF0 M (f_X6_opens c M).2 := by
  unfold f_X6_opens
  split
  · exact zF0.rf
  · simp only []
    split
    · split
      · exact f0_fails
      · exact (f0_put (by omega)).tr (f0_put (by omega))
    · exact zF0.rf
def zF0F (F : zM → zM) : Prop := ∀ M, zF0 M (F M)
theorem f0_fac {Fs Ff : zM → zM} (hs : zF0F Fs) (hf : zF0F Ff) : zF0F (f_X6_factor Fs Ff) := by
  intro M
  unfold f_X6_factor
  split
  · simp only []
    split
    · split
      · split
        · split
          · split
            · exact f0_opens.tr (f0_opens.tr (f0_opens.tr f0_fails))
            · exact f0_opens.tr (f0_opens.tr (f0_opens.tr ((hs _).tr (f0_must.tr ((hs _).tr (f0_must.tr (f0_emit.tr (f0_put (by omega)))))))))
          · exact f0_opens.tr (f0_opens.tr ((hs _).tr (f0_must.tr (f0_put (by omega)))))
        · exact f0_opens.tr ((hf _).tr (f0_emit.tr (f0_put (by omega))))
      · exact f0_emit.tr (f0_put (by omega))
    · exact f0_num4 _ _ _ _
  · exact zF0.rf
theorem f0_term6 {F : zM → zM} (hF : zF0F F) : ∀ (n : Nat) (v : Int32) (M : zM), zF0 M (f_X6_term_6 F n v M) := by
  intro n
  induction n with
  | zero => intro v M; exact zF0.rf
  | succ n ih =>
    intro v M
    have k41 : ∀ (w : Int32) (A : zM), zF0 A (f_X6_term_41 F (fun wv1 wmm => f_X6_term_6 F n wv1 wmm) w A) := by
      intro w A
      have k51 : ∀ s0 : Int32, zF0 A (f_X6_term_51 F (fun wv1 wmm => f_X6_term_6 F n wv1 wmm) w s0 A) := by
        intro s0
        unfold f_X6_term_51
        split
        · exact ih _ _
        · exact (hF _).tr (f0_emit.tr (ih _ _))
      unfold f_X6_term_41
      split <;> exact k51 _
    unfold f_X6_term_6
    split
    · exact zF0.rf
    · simp only []
      split
      · split <;> exact f0_may.tr (f0_may.tr (k41 _ _))
      · exact f0_may.tr (k41 _ _)
theorem f0_term {F : zM → zM} (hF : zF0F F) : zF0F (f_X6_term F) := fun M => (hF M).tr (f0_term6 hF _ _ _)
theorem f0_sum6 {F : zM → zM} (hF : zF0F F) : ∀ (n : Nat) (v : Int32) (M : zM), zF0 M (f_X6_sum_6 F n v M) := by
  intro n
  induction n with
  | zero => intro v M; exact zF0.rf
  | succ n ih =>
    intro v M
    have k41 : ∀ (w : Int32) (A : zM), zF0 A (f_X6_sum_41 F (fun wv1 wmm => f_X6_sum_6 F n wv1 wmm) w A) := by
      intro w A
      have k51 : ∀ s0 : Int32, zF0 A (f_X6_sum_51 F (fun wv1 wmm => f_X6_sum_6 F n wv1 wmm) w s0 A) := by
        intro s0
        unfold f_X6_sum_51
        split
        · exact ih _ _
        · exact (hF _).tr (f0_emit.tr (ih _ _))
      unfold f_X6_sum_41
      split <;> exact k51 _
    unfold f_X6_sum_6
    split
    · exact zF0.rf
    · simp only []
      split
      · split <;> exact f0_may.tr (f0_may.tr (k41 _ _))
      · exact f0_may.tr (k41 _ _)
theorem f0_sum {F : zM → zM} (hF : zF0F F) : zF0F (f_X6_sum F) := fun M => (hF M).tr (f0_sum6 hF _ _ _)
theorem f0_gfac : ∀ d : Nat, zF0F (g_X6_fac d) := by
  intro d
  induction d with
  | zero => exact f0_fac (fun _ => zF0.rf) (fun _ => zF0.rf)
  | succ d ih => exact f0_fac (f0_sum (f0_term ih)) ih
theorem f0_lwR {R : zM} : zF0 R (lwR R) := by
  have hI : zF0 R (lwI R) := (f0_put (by omega)).tr ((f0_put (by omega)).tr ((f0_put (by omega)).tr (f0_put (by omega))))
  have h5 : zF0 R (g_X6_sum 5 (lwI R)) := hI.tr (f0_sum (f0_term (f0_gfac 5)) _)
  unfold lwR
  generalize g_X6_sum 5 (lwI R) = Y at h5 ⊢
  split
  · exact h5
  · split
    · exact h5
    · exact h5.tr f0_fails
theorem ps_lwR {R : zM} (ht : 0 ≤ R.1 0 5 ∧ R.1 0 5 ≤ 60) : zPS 0 (lwR R) := by
  have h5 := (zPr_sum 5 (lwI R) 0 (Int.le_refl 0) (ps_init ht)).1
  unfold lwR
  generalize g_X6_sum 5 (lwI R) = Y at h5 ⊢
  split
  · exact h5
  · split
    · exact h5
    · exact (l_fails h5).1
