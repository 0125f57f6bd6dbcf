/-! the reference's pile, its copies of the row, what is tried ahead -/
def zGv (M : zM) (v k : Int32) : Prop := v.toInt = zHg (fun i => M.1 1 (14 + i)) k.toNatClampNeg ∧ 0 ≤ v.toInt ∧ v.toInt ≤ k.toInt
theorem zGv.start {M : zM} : zGv M 0 0 := by
  have h : (0 : Int32).toNatClampNeg = 0 := by decide
  refine ⟨?_, by decide, by decide⟩
  rw [h]
  show (0 : Int32).toInt = 0
  decide
theorem zGv.row {M M' : zM} {v k : Int32} (h : zGv M v k) (e : M'.1 1 = M.1 1) : zGv M' v k := by
  unfold zGv at h ⊢
  rw [e]
  exact h
theorem gv_ix {v : Int32} (h0 : 0 ≤ v) (h1 : v ≤ 60) : ((14 : Int32) + v).toNatClampNeg = 14 + v.toNatClampNeg := by
  have key : ∀ j : Nat, j ≤ 60 → ((14 : Int32) + nI j).toNatClampNeg = 14 + (nI j).toNatClampNeg := by decide
  obtain ⟨j, hj, rfl⟩ := nI_of2 (x := v) (M := 60) (n := 60) (by decide) (Int32.not_lt.mpr h0) h1
  exact key j hj
theorem gv_up {k L : Int32} (h0 : 0 ≤ k) (hc : ¬ L ≤ k) : (k + 1).toInt = k.toInt + 1 ∧ (k + 1).toNatClampNeg = k.toNatClampNeg + 1 := by
  have h1 := zadd1 (Int32.not_le.mp hc)
  rw [Int32.le_iff_toInt_le] at h0
  have z0 : (0 : Int32).toInt = 0 := by decide
  refine ⟨h1, ?_⟩
  show (k + 1).toInt.toNat = k.toInt.toNat + 1
  omega
theorem gv_all {M : zM} {v k : Int32} (hV : zVal M) (hg : zGv M v k) (h0 : 0 ≤ k) (hc : ¬ M.1 1 5 ≤ k) (hL : M.1 1 5 ≤ 60) :
    v.toInt < 60 ∧ (¬ 2000 ≤ M.1 1 ((14 : Int32) + k).toNatClampNeg → zGv M (v + 1) (k + 1)) ∧ (M.1 1 ((14 : Int32) + k).toNatClampNeg = 2004 → 1 ≤ v.toInt ∧ zGv M v (k + 1)) ∧
    (2000 ≤ M.1 1 ((14 : Int32) + k).toNatClampNeg → ¬ M.1 1 ((14 : Int32) + k).toNatClampNeg = 2004 → 2 ≤ v.toInt ∧ zGv M (v + -1) (k + 1)) := by
  obtain ⟨g1, g2, g3⟩ := hg
  have hk := Int32.not_le.mp hc
  have hk60 : k < 60 := Int32.lt_of_lt_of_le hk hL
  rw [gv_ix h0 (Int32.le_of_lt hk60)]
  obtain ⟨u1, u2⟩ := gv_up h0 hc
  have hki := h0
  rw [Int32.le_iff_toInt_le] at hki
  rw [Int32.lt_iff_toInt_lt] at hk60 hk
  have z0 : (0 : Int32).toInt = 0 := by decide
  have z60 : (60 : Int32).toInt = 60 := by decide
  have hkn : (k.toNatClampNeg : Int) = k.toInt := by show (k.toInt.toNat : Int) = k.toInt; omega
  have hV2 := hV k.toNatClampNeg (by omega) (by omega)
  have hst : zHg (fun i => M.1 1 (14 + i)) (k.toNatClampNeg + 1) = if M.1 1 (14 + k.toNatClampNeg) < 2000 then zHg (fun i => M.1 1 (14 + i)) k.toNatClampNeg + 1 else if M.1 1 (14 + k.toNatClampNeg) = 2004 then zHg (fun i => M.1 1 (14 + i)) k.toNatClampNeg else zHg (fun i => M.1 1 (14 + i)) k.toNatClampNeg - 1 := rfl
  refine ⟨by omega, fun h => ?_, fun h => ?_, fun h h4 => ?_⟩
  · have e := zti1 (x := v) (by omega)
    refine ⟨?_, by omega, by omega⟩
    rw [u2, hst, if_pos (Int32.not_le.mp h)]
    omega
  · have h2 := hV2 (by rw [h]; decide)
    rw [if_pos h] at h2
    refine ⟨by omega, ?_, by omega, by omega⟩
    rw [u2, hst, if_neg (by rw [h]; decide), if_pos h]
    omega
  · have h2 := hV2 h
    rw [if_neg h4] at h2
    have e1 : v + -1 = v - 1 := by grind
    have e : (v - 1).toInt = v.toInt - 1 := zsub1 (m := 0) (by rw [Int32.lt_iff_toInt_lt]; omega)
    refine ⟨by omega, ?_, by rw [e1]; omega, by rw [e1]; omega⟩
    rw [u2, hst, if_neg (Int32.not_lt.mpr h), if_neg h4, e1]
    omega
theorem gi0 {v : Int32} (h0 : 0 ≤ v.toInt) (h : v.toInt < 60) : vp_in v 64 := by
  rw [vp_in_iff]; omega
theorem gi1 {v : Int32} (h0 : 1 ≤ v.toInt) (h : v.toInt < 60) : vp_in (v - 1) 64 := by
  have e : (v - 1).toInt = v.toInt - 1 := zsub1 (m := 0) (by rw [Int32.lt_iff_toInt_lt]; have : (0 : Int32).toInt = 0 := by decide
                                                             omega)
  rw [vp_in_iff, e]; omega
theorem gi2 {v : Int32} (h0 : 2 ≤ v.toInt) (h : v.toInt < 60) : vp_in (v + -1) 64 ∧ vp_in (v + -1 - 1) 64 := by
  have e1 : v + -1 = v - 1 := by grind
  have z0 : (0 : Int32).toInt = 0 := by decide
  have e : (v - 1).toInt = v.toInt - 1 := zsub1 (m := 0) (by rw [Int32.lt_iff_toInt_lt]; omega)
  rw [e1]
  refine ⟨by rw [vp_in_iff, e]; omega, gi1 (by omega) (by omega)⟩
theorem rw_lay2 {a b c : Nat} (hc : c ≠ b) : ∀ (n : Nat) (v : Int32) (M : zM), (f_X6_lay_2 a b n v M).1 c = M.1 c := by
  intro n
  induction n with
  | zero => intro v M; rfl
  | succ n ih =>
    intro v M
    unfold f_X6_lay_2
    split
    · rfl
    · rw [ih]; exact zpI_ne.1 c hc
theorem rw_lay {a b c : Nat} {M : zM} (hc : c ≠ b) : (f_X6_lay a b M).1 c = M.1 c := by
  unfold f_X6_lay
  exact rw_lay2 hc _ _ M
theorem lay_at2 {a b : Nat} (hab : a ≠ b) : ∀ (n : Nat) (v : Int32) (M : zM), 0 ≤ v → v ≤ 448 → 448 < v.toInt + n → ∀ k : Nat, (f_X6_lay_2 a b n v M).1 b k = if v.toInt ≤ k ∧ k < 448 then M.1 a k else M.1 b k := by
  intro n
  induction n with
  | zero =>
    intro v M h0 h1 hn k
    rw [Int32.le_iff_toInt_le] at h1
    have : (448 : Int32).toInt = 448 := by decide
    omega
  | succ n ih =>
    intro v M h0 h1 hn k
    unfold f_X6_lay_2
    have z448 : (448 : Int32).toInt = 448 := by decide
    have z0 : (0 : Int32).toInt = 0 := by decide
    split
    · rename_i h
      rw [Int32.le_iff_toInt_le] at h
      rw [if_neg (by omega)]
    · rename_i h
      obtain ⟨u1, u2⟩ := gv_up h0 h
      have hlt := Int32.not_le.mp h
      have hlt2 := hlt
      rw [Int32.lt_iff_toInt_lt] at hlt
      have h0i := h0
      rw [Int32.le_iff_toInt_le] at h0i
      simp only []
      rw [ih (v + 1) _ (by rw [Int32.le_iff_toInt_le]; omega) (by rw [Int32.le_iff_toInt_le]; omega) (by omega) k]
      have ea : ∀ j, (zpI M b v.toNatClampNeg (M.1 a v.toNatClampNeg)).1 a j = M.1 a j := fun j => zpI_off (fun e => hab e.1)
      have hvn : (v.toNatClampNeg : Int) = v.toInt := by show (v.toInt.toNat : Int) = v.toInt; omega
      rw [ea]
      by_cases hk : k = v.toNatClampNeg
      · subst hk
        rw [if_neg (by omega), if_pos (by omega), zpI_at]
      · rw [zpI_off (fun e => hk e.2)]
        by_cases hk2 : v.toInt ≤ k ∧ k < 448
        · rw [if_pos (by omega), if_pos hk2]
        · rw [if_neg (by omega), if_neg hk2]
theorem lay_at {a b : Nat} {M : zM} (hab : a ≠ b) (k : Nat) : (f_X6_lay a b M).1 b k = if k < 448 then M.1 a k else M.1 b k := by
  unfold f_X6_lay
  rw [lay_at2 hab 449 0 M (by decide) (by decide) (by decide) k]
  have z0 : (0 : Int32).toInt = 0 := by decide
  rw [z0]
  by_cases h : k < 448
  · rw [if_pos ⟨by omega, h⟩, if_pos h]
  · rw [if_neg (by omega), if_neg h]
theorem sm_goes7 {q : Int32} : ∀ (n : Nat) (v : Int32) (M : zM), 0 ≤ M.1 1 0 ∧ M.1 1 0 ≤ 10 → zSame M (f_X6_goes_7 q n v M) := by
  intro n
  induction n with
  | zero => intro v M _; exact zSame.rf
  | succ n ih =>
    intro v M hL
    unfold f_X6_goes_7
    split
    · exact zSame.rf
    · simp only []
      have s := sm_tick hL
      generalize f_X6_tick M = m1 at s ⊢
      have s2 := s.tr (sm_put0 (M := m1) (c := 8) (k := v.toNatClampNeg) (v := m1.1 0 10) (by decide))
      generalize zpI m1 8 v.toNatClampNeg (m1.1 0 10) = m2 at s2 ⊢
      have s3 := s2.tr (sm_put0 (M := m2) (c := 9) (k := v.toNatClampNeg) (v := m2.1 0 9) (by decide))
      generalize zpI m2 9 v.toNatClampNeg (m2.1 0 9) = m3 at s3 ⊢
      have s4 := s3.tr (sm_put0 (M := m3) (c := 0) (k := 14) (v := m3.1 0 14 + m3.1 0 11) (by decide))
      exact s4.tr (ih _ _ (by rw [s4.1]; exact hL))
theorem sm_goes {q : Int32} {M : zM} (hL : 0 ≤ M.1 1 0 ∧ M.1 1 0 ≤ 10) : zSame M (f_X6_goes q M) := by
  unfold f_X6_goes
  simp only []
  have s : zSame M (zpI M 0 14 0) := sm_put0 (by decide)
  exact s.tr (sm_goes7 _ _ _ (by rw [s.1]; exact hL))
theorem bk_lay {A B C : zM} (h : zSame A B) (hB : ∀ k, k < 448 → C.1 1 k = B.1 1 k) : zSame A C := by
  refine ⟨(hB 0 (by omega)).trans h.1, (hB 5 (by omega)).trans h.2.1, fun k hk => (hB (14 + k) (by omega)).trans (h.2.2 k hk)⟩
/-- what was laid aside, tried on and put back -/
theorem sm_back {M A : zM} (hA : A.1 3 = (f_X6_lay 1 3 M).1 3) : zSame M (f_X6_lay 3 1 A) := by
  refine bk_lay zSame.rf (fun k hk => ?_)
  rw [lay_at (by decide) k, if_pos hk, hA, lay_at (by decide) k, if_pos hk]
