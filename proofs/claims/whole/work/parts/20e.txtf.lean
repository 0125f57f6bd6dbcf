/-! what a reading of a text leaves as it was -/
def zTf (t : Nat) (M M' : zM) : Prop := (∀ c, c ≠ t → M'.1 c = M.1 c) ∧ (∀ k, k < 2 ∨ 4 < k → M'.1 t k = M.1 t k) ∧ M'.2 = M.2
theorem zTf.rf {t : Nat} {M : zM} : zTf t M M := ⟨fun _ _ => rfl, fun _ _ => rfl, rfl⟩
theorem zTf.tr {t : Nat} {A B C : zM} (h : zTf t A B) (k : zTf t B C) : zTf t A C := ⟨fun c hc => (k.1 c hc).trans (h.1 c hc), fun j hj => (k.2.1 j hj).trans (h.2.1 j hj), k.2.2.trans h.2.2⟩
theorem tf_put {t k : Nat} {v : Int32} {M : zM} (h : 2 ≤ k ∧ k ≤ 4) : zTf t M (zpI M t k v) := ⟨fun c hc => zpI_ne.1 c hc, fun j hj => zpI_off (by omega), rfl⟩
theorem tf_pass54 {t : Nat} {q : Int32} {M : zM} : zTf t M (f_X4_pass_54 t q M) := by
  unfold f_X4_pass_54
  split
  · exact tf_put (by omega)
  · split <;> exact tf_put (by omega)
theorem tf_pass39 {t : Nat} {q : Int32} {M : zM} : zTf t M (f_X4_pass_39 t q M) := by
  unfold f_X4_pass_39
  split
  · exact tf_pass54
  · exact (tf_put (by omega)).tr tf_pass54
theorem tf_pass {t : Nat} {q : Int32} {M : zM} : zTf t M (f_X4_pass t q M) := by
  unfold f_X4_pass
  split
  · exact tf_pass39
  · split
    · exact tf_pass39
    · split
      · exact (tf_put (by omega)).tr tf_pass54
      · exact tf_pass39
def zTfF (F : Nat → Int32 → zM → Int32 × zM) : Prop := ∀ (t : Nat) (o : Int32) (M : zM), zTf t M (F t o M).2
theorem tf_fac22 {Fs Ff : Nat → Int32 → zM → Int32 × zM} {t : Nat} {o : Int32} : ∀ (n : Nat) (v w : Int32) (M : zM), zTf t M (f_X4_factor_22 Fs Ff t o n v w M).2 := by
  intro n
  induction n with
  | zero => intro v w M; exact zTf.rf
  | succ n ih =>
    intro v w M
    unfold f_X4_factor_22
    split
    · exact zTf.rf
    · split
      · exact zTf.rf
      · split
        · exact zTf.rf
        · exact tf_pass.tr (ih _ _ _)
theorem tf_fac93 {Fs Ff : Nat → Int32 → zM → Int32 × zM} (hs : zTfF Fs) (hf : zTfF Ff) {t : Nat} {o v : Int32} {M : zM} : zTf t M (f_X4_factor_93 Fs Ff t o v M).2 := by
  have k158 : ∀ (A : zM) (x : Int32), zTf t M A → zTf t M (f_X4_factor_158 Fs Ff t o v x A).2 := by
    intro A x h
    unfold f_X4_factor_158 f_X4_factor_172
    split <;> exact h.tr tf_pass
  unfold f_X4_factor_93
  split
  · simp only []
    split
    · exact tf_pass.tr (hf _ _ _)
    · split
      · exact k158 _ _ (tf_pass.tr ((hs _ _ _).tr (tf_pass.tr (hs _ _ _))))
      · exact k158 _ _ (tf_pass.tr (hs _ _ _))
  · exact tf_pass
theorem tf_fac75 {Fs Ff : Nat → Int32 → zM → Int32 × zM} (hs : zTfF Fs) (hf : zTfF Ff) {t : Nat} {o v : Int32} {M : zM} : zTf t M (f_X4_factor_75 Fs Ff t o v M).2 := by
  unfold f_X4_factor_75 f_X4_factor_197
  split
  · exact tf_fac93 hs hf
  · split
    · exact tf_fac93 hs hf
    · split
      · exact tf_fac93 hs hf
      · simp only []
        split <;> exact tf_pass
theorem tf_fac {Fs Ff : Nat → Int32 → zM → Int32 × zM} (hs : zTfF Fs) (hf : zTfF Ff) : zTfF (f_X4_factor Fs Ff) := by
  intro t o M
  unfold f_X4_factor
  simp only []
  split
  · exact tf_fac75 hs hf
  · split
    · exact tf_fac75 hs hf
    · exact tf_fac22 _ _ _ _
theorem tf_prod8 {Ff : Nat → Int32 → zM → Int32 × zM} (hf : zTfF Ff) {t : Nat} {o : Int32} : ∀ (n : Nat) (v w : Int32) (M : zM), zTf t M (f_X4_product_8 Ff t o n v w M).2 := by
  intro n
  induction n with
  | zero => intro v w M; exact zTf.rf
  | succ n ih =>
    intro v w M
    have k32 : zTf t M (f_X4_product_32 Ff t o (fun wv2 wv3 wmm => f_X4_product_8 Ff t o n wv2 wv3 wmm) v w M).2 := by
      unfold f_X4_product_32
      simp only []
      split
      · exact (tf_pass.tr (hf _ _ _)).tr (ih _ _ _)
      · split <;> exact (tf_pass.tr (hf _ _ _)).tr (ih _ _ _)
    unfold f_X4_product_8
    split
    · exact zTf.rf
    · split
      · exact k32
      · split
        · exact k32
        · exact zTf.rf
theorem tf_prod {Ff : Nat → Int32 → zM → Int32 × zM} (hf : zTfF Ff) : zTfF (f_X4_product Ff) := fun t o M => (hf t o M).tr (tf_prod8 hf _ _ _ _)
theorem tf_sum8 {Ff : Nat → Int32 → zM → Int32 × zM} (hf : zTfF Ff) {t : Nat} {o : Int32} : ∀ (n : Nat) (v w : Int32) (M : zM), zTf t M (f_X4_sum_8 Ff t o n v w M).2 := by
  intro n
  induction n with
  | zero => intro v w M; exact zTf.rf
  | succ n ih =>
    intro v w M
    have k32 : zTf t M (f_X4_sum_32 Ff t o (fun wv2 wv3 wmm => f_X4_sum_8 Ff t o n wv2 wv3 wmm) v w M).2 := by
      unfold f_X4_sum_32
      simp only []
      split <;> exact (tf_pass.tr (hf _ _ _)).tr (ih _ _ _)
    unfold f_X4_sum_8
    split
    · exact zTf.rf
    · split
      · exact k32
      · split
        · exact k32
        · exact zTf.rf
theorem tf_sum {Ff : Nat → Int32 → zM → Int32 × zM} (hf : zTfF Ff) : zTfF (f_X4_sum Ff) := fun t o M => (hf t o M).tr (tf_sum8 hf _ _ _ _)
theorem tf_gfac : ∀ d : Nat, zTfF (g_X4_fac d) := by
  intro d
  induction d with
  | zero => exact tf_fac (fun _ _ _ => zTf.rf) (fun _ _ _ => zTf.rf)
  | succ d ih => exact tf_fac (tf_sum (tf_prod ih)) ih
theorem tf_gsum (d : Nat) : zTfF (g_X4_sum d) := tf_sum (tf_prod (tf_gfac d))
theorem tf_readAll {t : Nat} {M : zM} : zTf t M (f_X4_readAll t M).2 := by
  have k28 : ∀ (A : zM) (x : Int32), zTf t M A → zTf t M (f_X4_readAll_28 t x A).2 := by
    intro A x h
    have h2 : zTf t M (g_X4_sum 5 t 0 (zpI A t 3 x)).2 := h.tr ((tf_put (by omega)).tr (tf_gsum 5 _ _ _))
    unfold f_X4_readAll_28
    simp only []
    generalize g_X4_sum 5 t 0 (zpI A t 3 x) = Z at h2 ⊢
    split
    · exact h2
    · split
      · exact h2
      · exact h2.tr (tf_put (by omega))
  have hA : zTf t M (zpI (zpI M t 2 0) t 4 (-1)) := (tf_put (by omega)).tr (tf_put (by omega))
  unfold f_X4_readAll
  simp only []
  split <;> exact k28 _ _ hA
/-- the same with the places that tell what is asked for -/
def zTg (t : Nat) (M M' : zM) : Prop := (∀ c, c ≠ t → M'.1 c = M.1 c) ∧ (∀ k, k < 2 → M'.1 t k = M.1 t k) ∧ M'.2 = M.2
theorem zTg.tr {t : Nat} {A B C : zM} (h : zTg t A B) (k : zTg t B C) : zTg t A C := ⟨fun c hc => (k.1 c hc).trans (h.1 c hc), fun j hj => (k.2.1 j hj).trans (h.2.1 j hj), k.2.2.trans h.2.2⟩
theorem zTf.g {t : Nat} {A B : zM} (h : zTf t A B) : zTg t A B := ⟨h.1, fun k hk => h.2.1 k (Or.inl hk), h.2.2⟩
theorem tg_put {t k : Nat} {v : Int32} {M : zM} (h : 2 ≤ k) : zTg t M (zpI M t k v) := ⟨fun c hc => zpI_ne.1 c hc, fun j hj => zpI_off (by omega), rfl⟩
theorem tf_begin {t : Nat} {M : zM} : zTf t M (f_X4_begin t M) := by
  have hA : zTf t M (zpI (zpI M t 2 0) t 4 (-1)) := (tf_put (by omega)).tr (tf_put (by omega))
  unfold f_X4_begin
  simp only []
  split <;> exact hA.tr (tf_put (by omega))
theorem tg_val {t it : Nat} {k p s : Int32} {M : zM} : zTg t M (f_X4_valueFor t it k p s M).2 := by
  unfold f_X4_valueFor
  simp only []
  exact (tg_put (by omega)).tr ((tg_put (by omega)).tr ((tg_put (by omega)).tr ((tg_put (by omega)).tr ((tg_put (by omega)).tr ((tg_put (by omega)).tr (tf_begin.tr (tf_gsum 5 _ _ _)).g)))))
theorem zTg.rf {t : Nat} {M : zM} : zTg t M M := ⟨fun _ _ => rfl, fun _ _ => rfl, rfl⟩
theorem tg_hold {r : Nat} {b s : Int32} {M : zM} : zTg (r + 12) M (f_X2_holdsOf r b s M).2 := by
  unfold f_X2_holdsOf
  simp only []
  repeat' split
  all_goals first | (with_reducible exact zTg.rf) | (with_reducible exact tg_val) | (simp only []; with_reducible exact zTg.rf) | (simp only []; with_reducible exact tg_val)
