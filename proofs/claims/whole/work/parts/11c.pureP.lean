/-! the reference's reading: what stays true of its places (0,5) bytes, (0,16) code, (0,17) here, (0,18) fault, (0,19) open -/
def zPS (j : Int) (M : zM) : Prop := 0 ≤ (M.1 0 16).toInt ∧ (M.1 0 16).toInt ≤ 60 ∧ 0 ≤ (M.1 0 17).toInt ∧ (M.1 0 17).toInt ≤ (M.1 0 5).toInt ∧ (M.1 0 5).toInt ≤ 60 ∧ ((M.1 0 18).toInt < 0 → (M.1 0 16).toInt + j ≤ (M.1 0 17).toInt)
theorem q16 {M : zM} {x : Int32} : (zpI M 0 16 x).1 0 5 = M.1 0 5 ∧ (zpI M 0 16 x).1 0 16 = x ∧ (zpI M 0 16 x).1 0 17 = M.1 0 17 ∧ (zpI M 0 16 x).1 0 18 = M.1 0 18 ∧ (zpI M 0 16 x).1 0 19 = M.1 0 19 := ⟨zpI_off (by decide), zpI_at, zpI_off (by decide), zpI_off (by decide), zpI_off (by decide)⟩
theorem q17 {M : zM} {x : Int32} : (zpI M 0 17 x).1 0 5 = M.1 0 5 ∧ (zpI M 0 17 x).1 0 16 = M.1 0 16 ∧ (zpI M 0 17 x).1 0 17 = x ∧ (zpI M 0 17 x).1 0 18 = M.1 0 18 ∧ (zpI M 0 17 x).1 0 19 = M.1 0 19 := ⟨zpI_off (by decide), zpI_off (by decide), zpI_at, zpI_off (by decide), zpI_off (by decide)⟩
theorem q18 {M : zM} {x : Int32} : (zpI M 0 18 x).1 0 5 = M.1 0 5 ∧ (zpI M 0 18 x).1 0 16 = M.1 0 16 ∧ (zpI M 0 18 x).1 0 17 = M.1 0 17 ∧ (zpI M 0 18 x).1 0 18 = x ∧ (zpI M 0 18 x).1 0 19 = M.1 0 19 := ⟨zpI_off (by decide), zpI_off (by decide), zpI_off (by decide), zpI_at, zpI_off (by decide)⟩
theorem q19 {M : zM} {x : Int32} : (zpI M 0 19 x).1 0 5 = M.1 0 5 ∧ (zpI M 0 19 x).1 0 16 = M.1 0 16 ∧ (zpI M 0 19 x).1 0 17 = M.1 0 17 ∧ (zpI M 0 19 x).1 0 18 = M.1 0 18 ∧ (zpI M 0 19 x).1 0 19 = x := ⟨zpI_off (by decide), zpI_off (by decide), zpI_off (by decide), zpI_off (by decide), zpI_at⟩
theorem q10 {M : zM} {x : Int32} {k : Nat} : (zpI M 10 k x).1 0 5 = M.1 0 5 ∧ (zpI M 10 k x).1 0 16 = M.1 0 16 ∧ (zpI M 10 k x).1 0 17 = M.1 0 17 ∧ (zpI M 10 k x).1 0 18 = M.1 0 18 ∧ (zpI M 10 k x).1 0 19 = M.1 0 19 := ⟨zpI_off (fun h => absurd h.1 (by decide)), zpI_off (fun h => absurd h.1 (by decide)), zpI_off (fun h => absurd h.1 (by decide)), zpI_off (fun h => absurd h.1 (by decide)), zpI_off (fun h => absurd h.1 (by decide))⟩
theorem zti1 {x : Int32} (h : 0 ≤ x.toInt ∧ x.toInt ≤ 1000000) : (x + 1).toInt = x.toInt + 1 := by
  have h1 : (1 : Int32).toInt = 1 := by decide
  rw [Int32.toInt_add, h1]
  apply Int.bmod_eq_of_le <;> omega
theorem zPS.weak {j i : Int} {M : zM} (h : zPS j M) (hi : i ≤ j) : zPS i M := by
  obtain ⟨a, b, c, d, e, f⟩ := h
  exact ⟨a, b, c, d, e, fun q => by have := f q; omega⟩
theorem zf0 {x : Int32} : (0 : Int32) ≤ x ↔ 0 ≤ x.toInt := by
  rw [Int32.le_iff_toInt_le]
  have h0 : (0 : Int32).toInt = 0 := by decide
  rw [h0]
theorem zf1 {x : Int32} : x < (0 : Int32) ↔ x.toInt < 0 := by
  rw [Int32.lt_iff_toInt_lt]
  have h0 : (0 : Int32).toInt = 0 := by decide
  rw [h0]
theorem ba_X6 {c : Int32} {M : zM} (h : f_X6_byteAt M = c) (hc : 0 ≤ c) : (M.1 0 17).toInt < (M.1 0 5).toInt := by
  unfold f_X6_byteAt at h
  split at h
  · subst h; exact absurd hc (by decide)
  · rename_i q
    rw [Int32.le_iff_toInt_le] at q
    omega
/-- what a piece of the reading does to the five places: from M to M' -/
def zSt2 (M M' : zM) : Prop := (M.1 0 17).toInt ≤ (M'.1 0 17).toInt ∧ M'.1 0 19 = M.1 0 19 ∧ M'.1 0 5 = M.1 0 5
theorem zSt2.rf {M : zM} : zSt2 M M := ⟨Int.le_refl _, rfl, rfl⟩
theorem zSt2.tr {A B C : zM} (h : zSt2 A B) (k : zSt2 B C) : zSt2 A C := ⟨Int.le_trans h.1 k.1, k.2.1.trans h.2.1, k.2.2.trans h.2.2⟩
theorem l_emit {j : Int} {v : Int32} {M : zM} (h : zPS (j + 1) M) (hj : 0 ≤ j) : zPS j (f_X6_emit v M) ∧ zSt2 M (f_X6_emit v M) := by
  unfold f_X6_emit
  split
  · exact ⟨h.weak (by omega), zSt2.rf⟩
  · rename_i hf
    rw [zf0] at hf
    obtain ⟨a, b, c, d, e, f⟩ := h
    have f2 := f (by omega)
    have k := zti1 (x := M.1 0 16) (by omega)
    obtain ⟨u5, u16, u17, u18, u19⟩ := q10 (M := M) (x := v) (k := (M.1 0 16).toNatClampNeg)
    simp only []
    obtain ⟨t5, t16, t17, t18, t19⟩ := q16 (M := zpI M 10 (M.1 0 16).toNatClampNeg v) (x := (zpI M 10 (M.1 0 16).toNatClampNeg v).1 0 16 + 1)
    refine ⟨?_, ?_⟩
    · unfold zPS
      rw [t5, t16, t17, t18, u5, u16, u17, u18]
      omega
    · unfold zSt2
      rw [t5, t17, t19, u5, u17, u19]
      exact ⟨Int.le_refl _, rfl, rfl⟩
theorem l_fails {j : Int} {M : zM} (h : zPS j M) : zPS j (f_X6_fails M) ∧ zSt2 M (f_X6_fails M) := by
  unfold f_X6_fails
  split
  · exact ⟨h, zSt2.rf⟩
  · obtain ⟨a, b, c, d, e, f⟩ := h
    obtain ⟨t5, t16, t17, t18, t19⟩ := q18 (M := M) (x := M.1 0 17)
    simp only []
    refine ⟨?_, ?_⟩
    · unfold zPS
      rw [t5, t16, t17, t18]
      omega
    · unfold zSt2
      rw [t5, t17, t19]
      exact ⟨Int.le_refl _, rfl, rfl⟩
theorem l_step {j : Int} {M : zM} (h : zPS j M) (hl : (M.1 0 17).toInt < (M.1 0 5).toInt) : zPS (j + 1) (zpI M 0 17 (M.1 0 17 + 1)) ∧ zSt2 M (zpI M 0 17 (M.1 0 17 + 1)) ∧ ((zpI M 0 17 (M.1 0 17 + 1)).1 0 17).toInt = (M.1 0 17).toInt + 1 := by
  obtain ⟨a, b, c, d, e, f⟩ := h
  have k := zti1 (x := M.1 0 17) (by omega)
  obtain ⟨t5, t16, t17, t18, t19⟩ := q17 (M := M) (x := M.1 0 17 + 1)
  refine ⟨?_, ?_, ?_⟩
  · unfold zPS
    rw [t5, t16, t17, t18]
    omega
  · unfold zSt2
    rw [t5, t17, t19]
    exact ⟨by omega, rfl, rfl⟩
  · rw [zpI_at]; exact k
theorem l_may {j : Int} {c : Int32} {M : zM} (h : zPS j M) (hc : 0 ≤ c) : zPS j (f_X6_may c M).2 ∧ zSt2 M (f_X6_may c M).2 ∧ (¬ (f_X6_may c M).1 = 0 → zPS (j + 1) (f_X6_may c M).2 ∧ (M.1 0 17).toInt + 1 ≤ ((f_X6_may c M).2.1 0 17).toInt) := by
  have h00 : zpI M 0 17 (M.1 0 17 + 0) = M := by
    refine Prod.ext ?_ rfl
    funext a b
    show (zpI M 0 17 (M.1 0 17 + 0)).1 a b = M.1 a b
    by_cases q : a = 0 ∧ b = 17
    · obtain ⟨rfl, rfl⟩ := q
      rw [zpI_at]; simp
    · exact zpI_off q
  have h0 : f_X6_may_19 c M = (0, M) := by
    unfold f_X6_may_19 f_X6_may_20
    rw [if_pos rfl, h00]
  unfold f_X6_may
  split
  · rw [h0]; exact ⟨h, zSt2.rf, fun q => absurd rfl q⟩
  · simp only []
    split
    · rename_i hb
      have hl := ba_X6 hb hc
      obtain ⟨k1, k2, k3⟩ := l_step h hl
      have e1 : f_X6_may_20 c 1 M = (1, zpI M 0 17 (M.1 0 17 + 1)) := by
        unfold f_X6_may_20
        rw [if_neg (by decide)]
      rw [e1]
      exact ⟨k1.weak (by omega), k2, fun _ => ⟨k1, by show _ ≤ ((zpI M 0 17 (M.1 0 17 + 1)).1 0 17).toInt; rw [k3]; omega⟩⟩
    · rw [h0]; exact ⟨h, zSt2.rf, fun q => absurd rfl q⟩
theorem l_must {j : Int} {c : Int32} {M : zM} (h : zPS j M) (hc : 0 ≤ c) : zPS j (f_X6_must c M) ∧ zSt2 M (f_X6_must c M) := by
  obtain ⟨k1, k2, k3⟩ := l_may h hc
  unfold f_X6_must
  simp only []
  split
  · obtain ⟨a, b⟩ := l_fails k1
    exact ⟨a, k2.tr b⟩
  · exact ⟨k1, k2⟩
theorem dg_X6 {c : Int32} (h : ¬ f_X6_isDigit c = 0) : 0 ≤ c := by
  have h1 := in_X6 (v := c) (a := 48) (b := 57) (by unfold f_X6_isDigit at h; exact h)
  exact Int32.le_trans (by decide) h1.1
theorem l_num4 {j : Int} (hj : 0 ≤ j) : ∀ (n : Nat) (v w : Int32) (M : zM), zPS (j + 1) M → zPS j (f_X6_number_4 n v w M) ∧ zSt2 M (f_X6_number_4 n v w M) := by
  intro n
  induction n with
  | zero => intro v w M h; exact ⟨h.weak (by omega), zSt2.rf⟩
  | succ n ih =>
    intro v w M h
    unfold f_X6_number_4
    split
    · exact l_emit h hj
    · simp only []
      split
      · exact l_emit h hj
      · rename_i hd
        have hl := ba_X6 rfl (dg_X6 hd)
        obtain ⟨k1, k2, -⟩ := l_step h hl
        obtain ⟨m1, m2⟩ := ih _ (w + 1) _ (k1.weak (by omega))
        exact ⟨m1, k2.tr m2⟩
theorem l_number {j : Int} {M : zM} (hj : 0 ≤ j) (h : zPS j M) (hd : ¬ f_X6_isDigit (f_X6_byteAt M) = 0) : zPS j (f_X6_number M) ∧ zSt2 M (f_X6_number M) := by
  unfold f_X6_number
  unfold f_X6_number_4
  rw [if_neg (by decide)]
  simp only []
  rw [if_neg hd]
  have hl := ba_X6 rfl (dg_X6 hd)
  obtain ⟨k1, k2, -⟩ := l_step h hl
  obtain ⟨m1, m2⟩ := l_num4 hj 3 _ (0 + 1) _ k1
  exact ⟨m1, k2.tr m2⟩
theorem l_opens {j : Int} {c : Int32} {M : zM} (h : zPS j M) (hc : 0 ≤ c) : ((f_X6_opens c M).1 = 0 → zPS j (f_X6_opens c M).2 ∧ zSt2 M (f_X6_opens c M).2) ∧ (¬ (f_X6_opens c M).1 = 0 → zPS (j + 1) (f_X6_opens c M).2 ∧ (f_X6_opens c M).2.1 0 19 = M.1 0 19 + 1 ∧ ¬ M.1 0 19 = 5 ∧ (M.1 0 17).toInt ≤ ((f_X6_opens c M).2.1 0 17).toInt ∧ (f_X6_opens c M).2.1 0 5 = M.1 0 5) := by
  unfold f_X6_opens
  split
  · exact ⟨fun _ => ⟨h, zSt2.rf⟩, fun q => absurd rfl q⟩
  · simp only []
    split
    · rename_i hb
      have hl := ba_X6 hb hc
      split
      · exact ⟨fun _ => l_fails h, fun q => absurd rfl q⟩
      · rename_i ho
        refine ⟨fun q => absurd (show (1 : Int32) = 0 from q) (by decide), fun _ => ?_⟩
        have h2 : zPS j (zpI M 0 19 (M.1 0 19 + 1)) := by
          obtain ⟨t5, t16, t17, t18, t19⟩ := q19 (M := M) (x := M.1 0 19 + 1)
          unfold zPS
          rw [t5, t16, t17, t18]
          exact h
        have e17 : (zpI M 0 19 (M.1 0 19 + 1)).1 0 17 = M.1 0 17 := zpI_off (by decide)
        have e5 : (zpI M 0 19 (M.1 0 19 + 1)).1 0 5 = M.1 0 5 := zpI_off (by decide)
        obtain ⟨k1, k2, k3⟩ := l_step h2 (by rw [e17, e5]; exact hl)
        refine ⟨k1, ?_, ho, ?_, ?_⟩
        · exact k2.2.1.trans zpI_at
        · have := k2.1; rw [e17] at this; exact this
        · exact k2.2.2.trans e5
    · exact ⟨fun _ => ⟨h, zSt2.rf⟩, fun q => absurd rfl q⟩
/-- what a whole sum, term or factor keeps -/
def zPr (F : zM → zM) : Prop := ∀ (M : zM) (j : Int), 0 ≤ j → zPS j M → zPS j (F M) ∧ zSt2 M (F M)
theorem l_close {j : Int} {M : zM} (h : zPS j M) : zPS j (zpI M 0 19 (M.1 0 19 - 1)) ∧ (zpI M 0 19 (M.1 0 19 - 1)).1 0 17 = M.1 0 17 ∧ (zpI M 0 19 (M.1 0 19 - 1)).1 0 5 = M.1 0 5 ∧ (zpI M 0 19 (M.1 0 19 - 1)).1 0 19 = M.1 0 19 - 1 := by
  refine ⟨?_, zpI_off (by decide), zpI_off (by decide), zpI_at⟩
  obtain ⟨t5, t16, t17, t18, t19⟩ := q19 (M := M) (x := M.1 0 19 - 1)
  unfold zPS
  rw [t5, t16, t17, t18]
  exact h
theorem l_factorR {Fs Ff : zM → zM} (hs : zPr Fs) (hf : zPr Ff) : zPr (f_X6_factor Fs Ff) := by
  intro M j hj h
  have fin : ∀ (A B : zM), B.1 0 19 = M.1 0 19 + 1 → (M.1 0 17).toInt ≤ (B.1 0 17).toInt → B.1 0 5 = M.1 0 5 → zSt2 B A → zPS j A → zPS j (zpI A 0 19 (A.1 0 19 - 1)) ∧ zSt2 M (zpI A 0 19 (A.1 0 19 - 1)) := by
    intro A B h1 h2 h3 h4 h5
    obtain ⟨c1, c2, c3, c4⟩ := l_close h5
    refine ⟨c1, ?_, ?_, ?_⟩
    · rw [c2]; exact Int.le_trans h2 h4.1
    · rw [c4, h4.2.1, h1]; simp
    · rw [c3, h4.2.2, h3]
  unfold f_X6_factor
  split
  · simp only []
    split
    · split
      · obtain ⟨o1, o2⟩ := l_opens (c := 45) h (by decide)
        split
        · rename_i z1
          obtain ⟨p1, q1⟩ := o1 z1
          obtain ⟨o3, o4⟩ := l_opens (c := 40) p1 (by decide)
          split
          · rename_i z2
            obtain ⟨p2, q2⟩ := o3 z2
            obtain ⟨o5, o6⟩ := l_opens (c := 91) p2 (by decide)
            split
            · rename_i z3
              obtain ⟨p3, q3⟩ := o5 z3
              obtain ⟨a, b⟩ := l_fails p3
              exact ⟨a, (q1.tr (q2.tr q3)).tr b⟩
            · rename_i z3
              obtain ⟨p3, e19, -, e17, e5⟩ := o6 z3
              obtain ⟨a1, b1⟩ := hs _ (j + 1) (by omega) p3
              obtain ⟨a2, b2⟩ := l_must (c := 44) a1 (by decide)
              obtain ⟨a3, b3⟩ := hs _ (j + 1) (by omega) a2
              obtain ⟨a4, b4⟩ := l_must (c := 93) a3 (by decide)
              obtain ⟨a5, b5⟩ := l_emit (v := 2005) a4 hj
              refine fin _ _ (by rw [e19, q2.2.1, q1.2.1]) (Int.le_trans (q1.tr q2).1 e17) (by rw [e5, q2.2.2, q1.2.2]) ((((b1.tr b2).tr b3).tr b4).tr b5) a5
          · rename_i z2
            obtain ⟨p3, e19, -, e17, e5⟩ := o4 z2
            obtain ⟨a1, b1⟩ := hs _ (j + 1) (by omega) p3
            obtain ⟨a2, b2⟩ := l_must (c := 41) a1 (by decide)
            exact fin _ _ (by rw [e19, q1.2.1]) (Int.le_trans q1.1 e17) (by rw [e5, q1.2.2]) (b1.tr b2) (a2.weak (by omega))
        · rename_i z1
          obtain ⟨p3, e19, -, e17, e5⟩ := o2 z1
          obtain ⟨a1, b1⟩ := hf _ (j + 1) (by omega) p3
          obtain ⟨a2, b2⟩ := l_emit (v := 2004) a1 hj
          exact fin _ _ e19 e17 e5 (b1.tr b2) a2
      · rename_i hfl hdg hnm
        have hl : (M.1 0 17).toInt < (M.1 0 5).toInt := by
          have hb : ¬ f_X6_byteAt M = -1 := by
            intro q
            rw [q] at hnm
            exact hnm (by decide)
          unfold f_X6_byteAt at hb
          split at hb
          · exact absurd rfl hb
          · rename_i q
            rw [Int32.le_iff_toInt_le] at q
            omega
        have hfl2 : (M.1 0 18).toInt < 0 := zf1.mp hfl
        obtain ⟨a, b, c, d, e, f⟩ := h
        have f2 := f hfl2
        have k := zti1 (x := M.1 0 17) (by omega)
        have k2 := zti1 (x := M.1 0 16) (by omega)
        unfold f_X6_emit
        rw [if_neg (by rw [zf0]; omega)]
        simp only []
        generalize (1000 : Int32) + f_X6_nameOf (f_X6_byteAt M) = v
        obtain ⟨u5, u16, u17, u18, u19⟩ := q10 (M := M) (x := v) (k := (M.1 0 16).toNatClampNeg)
        generalize zpI M 10 (M.1 0 16).toNatClampNeg v = M1 at u5 u16 u17 u18 u19 ⊢
        obtain ⟨t5, t16, t17, t18, t19⟩ := q16 (M := M1) (x := M1.1 0 16 + 1)
        generalize zpI M1 0 16 (M1.1 0 16 + 1) = M2 at t5 t16 t17 t18 t19 ⊢
        obtain ⟨w5, w16, w17, w18, w19⟩ := q17 (M := M2) (x := M2.1 0 17 + 1)
        refine ⟨?_, ?_⟩
        · unfold zPS
          rw [w5, w16, w17, w18, t5, t16, t17, t18, u5, u16, u17, u18]
          omega
        · unfold zSt2
          rw [w5, w17, w19, t5, t17, t19, u5, u17, u19]
          exact ⟨by omega, rfl, rfl⟩
    · rename_i hd
      exact l_number hj h hd
  · exact ⟨h, zSt2.rf⟩
theorem l_term6 {F : zM → zM} (hF : zPr F) : ∀ (n : Nat) (v : Int32) (M : zM) (j : Int), 0 ≤ j → zPS j M → zPS j (f_X6_term_6 F n v M) ∧ zSt2 M (f_X6_term_6 F n v M) := by
  intro n
  induction n with
  | zero => intro v M j hj h; exact ⟨h, zSt2.rf⟩
  | succ n ih =>
    intro v M j hj h
    have good : ∀ (w : Int32) (A : zM), ¬ w < 0 → zPS (j + 1) A → zPS j (f_X6_term_41 F (fun wv1 wmm => f_X6_term_6 F n wv1 wmm) w A) ∧ zSt2 A (f_X6_term_41 F (fun wv1 wmm => f_X6_term_6 F n wv1 wmm) w A) := by
      intro w A hw hA
      unfold f_X6_term_41 f_X6_term_51
      rw [if_neg hw, if_neg (by decide)]
      simp only []
      obtain ⟨a1, b1⟩ := hF A (j + 1) (by omega) hA
      obtain ⟨a2, b2⟩ := l_emit (v := w) a1 hj
      obtain ⟨a3, b3⟩ := ih 1 _ j hj a2
      exact ⟨a3, (b1.tr b2).tr b3⟩
    unfold f_X6_term_6
    split
    · exact ⟨h, zSt2.rf⟩
    · simp only []
      obtain ⟨m1, m2, m3⟩ := l_may (c := 42) h (by decide)
      split
      · obtain ⟨n1, n2, n3⟩ := l_may (c := 47) m1 (by decide)
        split
        · unfold f_X6_term_41 f_X6_term_51
          rw [if_pos (by decide), if_pos rfl]
          obtain ⟨a3, b3⟩ := ih 0 _ j hj n1
          exact ⟨a3, (m2.tr n2).tr b3⟩
        · rename_i q
          obtain ⟨a3, b3⟩ := good 2003 _ (by decide) (n3 q).1
          exact ⟨a3, (m2.tr n2).tr b3⟩
      · rename_i q
        obtain ⟨a3, b3⟩ := good 2002 _ (by decide) (m3 q).1
        exact ⟨a3, m2.tr b3⟩
theorem l_termR {F : zM → zM} (hF : zPr F) : zPr (f_X6_term F) := by
  intro M j hj h
  unfold f_X6_term
  obtain ⟨a1, b1⟩ := hF M j hj h
  obtain ⟨a2, b2⟩ := l_term6 hF 63 1 _ j hj a1
  exact ⟨a2, b1.tr b2⟩
theorem l_sum6 {F : zM → zM} (hF : zPr F) : ∀ (n : Nat) (v : Int32) (M : zM) (j : Int), 0 ≤ j → zPS j M → zPS j (f_X6_sum_6 F n v M) ∧ zSt2 M (f_X6_sum_6 F n v M) := by
  intro n
  induction n with
  | zero => intro v M j hj h; exact ⟨h, zSt2.rf⟩
  | succ n ih =>
    intro v M j hj h
    have good : ∀ (w : Int32) (A : zM), ¬ w < 0 → zPS (j + 1) A → zPS j (f_X6_sum_41 F (fun wv1 wmm => f_X6_sum_6 F n wv1 wmm) w A) ∧ zSt2 A (f_X6_sum_41 F (fun wv1 wmm => f_X6_sum_6 F n wv1 wmm) w A) := by
      intro w A hw hA
      unfold f_X6_sum_41 f_X6_sum_51
      rw [if_neg hw, if_neg (by decide)]
      simp only []
      obtain ⟨a1, b1⟩ := hF A (j + 1) (by omega) hA
      obtain ⟨a2, b2⟩ := l_emit (v := w) a1 hj
      obtain ⟨a3, b3⟩ := ih 1 _ j hj a2
      exact ⟨a3, (b1.tr b2).tr b3⟩
    unfold f_X6_sum_6
    split
    · exact ⟨h, zSt2.rf⟩
    · simp only []
      obtain ⟨m1, m2, m3⟩ := l_may (c := 43) h (by decide)
      split
      · obtain ⟨n1, n2, n3⟩ := l_may (c := 45) m1 (by decide)
        split
        · unfold f_X6_sum_41 f_X6_sum_51
          rw [if_pos (by decide), if_pos rfl]
          obtain ⟨a3, b3⟩ := ih 0 _ j hj n1
          exact ⟨a3, (m2.tr n2).tr b3⟩
        · rename_i q
          obtain ⟨a3, b3⟩ := good 2001 _ (by decide) (n3 q).1
          exact ⟨a3, (m2.tr n2).tr b3⟩
      · rename_i q
        obtain ⟨a3, b3⟩ := good 2000 _ (by decide) (m3 q).1
        exact ⟨a3, m2.tr b3⟩
theorem l_sumR {F : zM → zM} (hF : zPr F) : zPr (f_X6_sum F) := by
  intro M j hj h
  unfold f_X6_sum
  obtain ⟨a1, b1⟩ := hF M j hj h
  obtain ⟨a2, b2⟩ := l_sum6 hF 63 1 _ j hj a1
  exact ⟨a2, b1.tr b2⟩
theorem zPr_id : zPr (fun m => m) := fun M j hj h => ⟨h, zSt2.rf⟩
theorem zPr_fac : ∀ d : Nat, zPr (g_X6_fac d) := by
  intro d
  induction d with
  | zero => exact l_factorR zPr_id zPr_id
  | succ d ih => exact l_factorR (l_sumR (l_termR ih)) ih
theorem zPr_term (d : Nat) : zPr (g_X6_term d) := l_termR (zPr_fac d)
theorem zPr_sum (d : Nat) : zPr (g_X6_sum d) := l_sumR (zPr_term d)
/-- the fuel of a loop over terms -/
def zFu (n : Nat) (v : Int32) (M : zM) : Prop := (v = 0 → 60 < (M.1 0 17).toInt + n) ∧ (¬ v = 0 → 61 < (M.1 0 17).toInt + n)
theorem zFu.zero {v : Int32} {M : zM} {j : Int} (h : zFu 0 v M) (hP : zPS j M) : False := by
  obtain ⟨a, b, c, d, e, f⟩ := hP
  by_cases q : v = 0
  · have := h.1 q; omega
  · have := h.2 q; omega
theorem zFu.start {M : zM} {j : Int} (hP : zPS j M) : zFu 63 1 M := by
  obtain ⟨a, b, c, d, e, f⟩ := hP
  exact ⟨fun q => absurd q (by decide), fun _ => by omega⟩
/-- behind a sign that was sought: found or not -/
def zQf (c : Prop) (n : Nat) (M : zM) : Prop := (c → zPS 0 M ∧ 60 < (M.1 0 17).toInt + n) ∧ (¬ c → zPS 1 M ∧ 61 < (M.1 0 17).toInt + n)
theorem zQm {c : Prop} {n : Nat} {M : zM} (hc : ¬ c) (h : zPS 1 M) (k : 61 < (M.1 0 17).toInt + n) : zQf c n M := ⟨fun q => absurd q hc, fun _ => ⟨h, k⟩⟩
theorem zQu {c : Prop} {n : Nat} {M : zM} (hc : c) (h : zPS 0 M) (k : 60 < (M.1 0 17).toInt + n) : zQf c n M := ⟨fun _ => ⟨h, k⟩, fun q => absurd hc q⟩
theorem pe0 {M : zM} (h : zPS 0 M) (hl : (M.1 0 17).toInt < (M.1 0 5).toInt) : M.1 0 18 < 0 → M.1 0 16 ≤ 59 := by
  intro q
  rw [zf1] at q
  obtain ⟨a, b, c, d, e, f⟩ := h
  have := f q
  rw [Int32.le_iff_toInt_le]
  have : (59 : Int32).toInt = 59 := by decide
  omega
theorem pe1 {M : zM} (h : zPS 1 M) : M.1 0 18 < 0 → M.1 0 16 ≤ 59 := by
  intro q
  rw [zf1] at q
  obtain ⟨a, b, c, d, e, f⟩ := h
  have := f q
  rw [Int32.le_iff_toInt_le]
  have : (59 : Int32).toInt = 59 := by decide
  omega
theorem nm_X6 {M : zM} (h : ¬ f_X6_nameOf (f_X6_byteAt M) < 0) : (M.1 0 17).toInt < (M.1 0 5).toInt := by
  have hb : ¬ f_X6_byteAt M = -1 := by
    intro q
    rw [q] at h
    exact h (by decide)
  unfold f_X6_byteAt at hb
  split at hb
  · exact absurd rfl hb
  · rename_i q
    rw [Int32.le_iff_toInt_le] at q
    omega
theorem em17 {v : Int32} {M : zM} : (f_X6_emit v M).1 0 17 = M.1 0 17 := by
  unfold f_X6_emit
  split
  · rfl
  · exact (zpI_off (by decide)).trans (zpI_off (fun h => absurd h.1 (by decide)))
theorem zst60 {M : zM} {j : Int} (h : zPS j M) (hl : (M.1 0 17).toInt < (M.1 0 5).toInt) : 0 ≤ M.1 0 17 + 1 ∧ M.1 0 17 + 1 ≤ 60 := by
  obtain ⟨a, b, c, d, e, f⟩ := h
  have k := zti1 (x := M.1 0 17) (by omega)
  have z0 : (0 : Int32).toInt = 0 := by decide
  have z60 : (60 : Int32).toInt = 60 := by decide
  constructor <;> rw [Int32.le_iff_toInt_le] <;> omega
theorem ps_init {M : zM} (ht : 0 ≤ M.1 0 5 ∧ M.1 0 5 ≤ 60) : zPS 0 (zpI (zpI (zpI (zpI M 0 16 0) 0 17 0) 0 18 (-1)) 0 19 0) := by
  obtain ⟨a5, a16, a17, a18, a19⟩ := q16 (M := M) (x := 0)
  generalize zpI M 0 16 0 = M1 at a5 a16 a17 a18 a19 ⊢
  obtain ⟨b5, b16, b17, b18, b19⟩ := q17 (M := M1) (x := 0)
  generalize zpI M1 0 17 0 = M2 at b5 b16 b17 b18 b19 ⊢
  obtain ⟨c5, c16, c17, c18, c19⟩ := q18 (M := M2) (x := -1)
  generalize zpI M2 0 18 (-1) = M3 at c5 c16 c17 c18 c19 ⊢
  obtain ⟨d5, d16, d17, d18, d19⟩ := q19 (M := M3) (x := 0)
  unfold zPS
  rw [d5, d16, d17, d18, c5, c16, c17, c18, b5, b16, b17, a5, a16]
  obtain ⟨h1, h2⟩ := ht
  rw [Int32.le_iff_toInt_le] at h1 h2
  have z0 : (0 : Int32).toInt = 0 := by decide
  have z60 : (60 : Int32).toInt = 60 := by decide
  have zm : (-1 : Int32).toInt = -1 := by decide
  rw [z0, zm]
  omega
