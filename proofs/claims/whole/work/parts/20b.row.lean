/-! the row as the class keeps it (in a cell r) and as the reference keeps it (numbers S) -/
abbrev zEv : Type := Int32 → Int32 → Int32 → Int32 → Int32 → Int32 → Int32
/-- what the text in the class's cells t, t + 1 gives: a number for stood, hold, go, number, drops, pace -/
def zLwC (n : Int32) (q : Nat → Int32) (E : zEv) : Prop := ∀ (t it : Nat) (k p s : Int32) (M : zM), it ≠ t → M.1 t 1 = n → (∀ i : Nat, (i : Int) < n.toInt → M.1 (t + 1) i = q i) → (f_X4_valueFor t it k p s M).1 = E s (M.1 it 1) (M.1 it 2) k (M.1 it 4) p
/-- what the codes in S give -/
def zLwR (S : Nat → Int32) (E : zEv) : Prop := ∀ (b : Nat) (s : Int32) (M : zM), b < 10 → M.1 1 5 = S 5 → (∀ i : Nat, i < 64 → M.1 1 (14 + i) = S (14 + i)) → (f_X6_given (nI b) s M).1 = E s (zB (M.1 1) b 1) (zB (M.1 1) b 2) (nI b) (zB (M.1 1) b 4) (M.1 1 2)
def zLw (n : Int32) (q : Nat → Int32) (S : Nat → Int32) : Prop := (n = 0 ∧ S 5 < 0) ∨ (0 < n ∧ 0 ≤ S 5 ∧ ∃ E : zEv, zLwC n q E ∧ zLwR S E)
/-- the bounds of a block -/
def zBd (S : Nat → Int32) (b : Nat) : Prop := (0 ≤ zB S b 0 ∧ zB S b 0 ≤ 5) ∧ (1 ≤ zB S b 1 ∧ zB S b 1 ≤ 999) ∧ (0 ≤ zB S b 2 ∧ zB S b 2 ≤ 999) ∧ (0 ≤ zB S b 6 ∧ zB S b 6 ≤ 999)
def zRw (L r : Nat) (M : zM) (S : Nat → Int32) : Prop := L ≤ 10 ∧ M.1 r 1 = nI L ∧ S 0 = nI L ∧ M.1 r 2 = S 1 ∧ M.1 r 3 = S 2 ∧ (∀ b w, b < L → w < 7 → M.1 (r + 2 + b) w = zB S b w) ∧ (∀ b, b < L → zBd S b) ∧ zLw (M.1 (r + 12) 1) (M.1 (r + 13)) S
theorem zLwC.cg {n : Int32} {q q' : Nat → Int32} {E : zEv} (h : zLwC n q E) (e : ∀ i : Nat, (i : Int) < n.toInt → q' i = q i) : zLwC n q' E := fun t it k p s M h1 h2 h3 => h t it k p s M h1 h2 (fun i hi => (h3 i hi).trans (e i hi))
theorem zLwR.cg {S S' : Nat → Int32} {E : zEv} (h : zLwR S E) (e5 : S' 5 = S 5) (e : ∀ i : Nat, i < 64 → S' (14 + i) = S (14 + i)) : zLwR S' E := fun b s M h1 h2 h3 => h b s M h1 (h2.trans e5) (fun i hi => (h3 i hi).trans (e i hi))
theorem zLw.cg {n : Int32} {q q' S S' : Nat → Int32} (h : zLw n q S) (e : ∀ i : Nat, (i : Int) < n.toInt → q' i = q i) (e5 : S' 5 = S 5) (eS : ∀ i : Nat, i < 64 → S' (14 + i) = S (14 + i)) : zLw n q' S' := by
  rcases h with ⟨h1, h2⟩ | ⟨h1, h2, E, h3, h4⟩
  · exact Or.inl ⟨h1, e5 ▸ h2⟩
  · exact Or.inr ⟨h1, e5 ▸ h2, E, h3.cg e, h4.cg e5 eS⟩
theorem zmn1 {x m : Int32} : (if x < m then x else m) = f_X6_lesser x m := by
  unfold f_X6_lesser
  split
  · rename_i h; rw [if_neg (Int32.not_le.mpr h)]
  · rename_i h; rw [if_pos (Int32.not_lt.mp h)]
theorem zmn2 {x m : Int32} : (if x < m then x else m) = f_X6_lesser m x := by
  unfold f_X6_lesser
  split
  · rename_i h; rw [if_pos (Int32.le_of_lt h)]
  · rename_i h
    split
    · rename_i h2; exact Int32.le_antisymm (Int32.not_lt.mp h) h2
    · rfl
theorem zmx0 {x m : Int32} : (if m < x then x else m) = f_X6_greater m x := by
  unfold f_X6_greater
  split
  · rename_i h; rw [if_pos (Int32.le_of_lt h)]
  · rename_i h
    split
    · rename_i h2; exact Int32.le_antisymm h2 (Int32.not_lt.mp h)
    · rfl
theorem zmul1 {x : Int32} : x * 1 = x := Int32.mul_one x
theorem zmul3 {x : Int32} : (3 : Int32) * x = x * 3 := Int32.mul_comm 3 x
theorem zRow.off {r b : Nat} (_ : zRow r) (hb : b < 10) : r + 2 + b ≠ r + 12 := by omega
theorem hold_eq {L r b : Nat} {s : Int32} {C R : zM} (hr : zRow r) (h : zRw L r C (R.1 1)) (hb : b < L) : (f_X2_holdsOf r (nI b) s C).1 = (f_X6_holdsOf (nI b) s R).1 := by
  obtain ⟨hL, h1, h2, h3, h4, h5, h6, h7⟩ := h
  have hb10 : b < 10 := by omega
  have k0 := h5 b 0 hb (by omega)
  have k1 := h5 b 1 hb (by omega)
  have k2 := h5 b 2 hb (by omega)
  have k4 := h5 b 4 hb (by omega)
  unfold f_X2_holdsOf f_X6_holdsOf f_X6_plainHolds f_X0_rustyHolds f_X0_oiledHolds f_X0_plainHolds
  simp only [zcl0 (show b < 1000 by omega), rAt0 hb10, rAt1 hb10, rAt4 hb10, k0, k1, k4]
  by_cases q1 : zB (R.1 1) b 0 = 1
  · simp only [q1, if_true, zmn1]
  by_cases q2 : zB (R.1 1) b 0 = 2
  · simp only [q2, if_true, zmn1, zmx0]; rfl
  by_cases q3 : zB (R.1 1) b 0 = 3
  · rw [if_neg q1, if_neg q2, if_pos q3, if_neg q1, if_neg q2, if_pos q3]
    rcases h7 with ⟨e1, e2⟩ | ⟨e1, e2, E, e3, e4⟩
    · rw [if_pos e1, if_neg (Int32.not_le.mpr e2)]
    · have n0 : ¬ C.1 (r + 12) 1 = 0 := fun q => absurd e1 (by rw [q]; decide)
      rw [if_neg n0, if_pos e2]
      have e5 := e3 (r + 12) (r + 2 + b) (nI b) (C.1 r 3) s C (hr.off hb10) rfl (fun i _ => rfl)
      have e6 := e4 b s R hb10 rfl (fun i _ => rfl)
      simp only []
      rw [e5, e6, k1, k2, k4, h4, zmn2, zmx0]
  by_cases q4 : zB (R.1 1) b 0 = 4
  · rw [if_neg q1, if_neg q2, if_neg q3, if_pos q4, if_neg q1, if_neg q2, if_neg q3, if_pos q4]
    by_cases q : s < 40
    · rw [if_pos q, if_pos q]; simp only [zmn1, zmul1]
    · rw [if_neg q, if_neg q]; simp only [zmn1, zmul3]
  by_cases q5 : zB (R.1 1) b 0 = 5
  · rw [if_neg q1, if_neg q2, if_neg q3, if_neg q4, if_pos q5, if_neg q1, if_neg q2, if_neg q3, if_neg q4, if_pos q5]
    simp only [zmn1, zmx0]
  · rw [if_neg q1, if_neg q2, if_neg q3, if_neg q4, if_neg q5, if_neg q1, if_neg q2, if_neg q3, if_neg q4, if_neg q5]
    simp only [zmn1]
theorem rubs_eq {c b : Nat} {s : Int32} {C R : zM} (hb : b < 10) (k0 : C.1 c 0 = zB (R.1 1) b 0) (k2 : C.1 c 2 = zB (R.1 1) b 2) : f_X0_rubsBy c s C = f_X6_rubsOf (nI b) s R := by
  unfold f_X0_rubsBy f_X6_rubsOf
  simp only [rAt0 hb, rAt2 hb, k0, k2, zmn2, zmx0]
