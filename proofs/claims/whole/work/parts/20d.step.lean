/-! one block's round -/
theorem zwo {x : Int32} : (if (0 : Int64) < x.toInt64 then x.toInt64 else -x.toInt64) = f_X6_without x := by
  unfold f_X6_without
  have e : (0 : Int64) < x.toInt64 ↔ 0 < x := by
    rw [Int64.lt_iff_toInt_lt, Int32.toInt_toInt64, Int32.lt_iff_toInt_lt]
    have h1 : (0 : Int64).toInt = 0 := by decide
    have h2 : (0 : Int32).toInt = 0 := by decide
    rw [h1, h2]
  by_cases h : 0 < x
  · rw [if_pos (e.mpr h), if_pos (Int32.le_of_lt h)]
  · rw [if_neg (fun q => h (e.mp q))]
    split
    · rename_i h2
      have : x = 0 := Int32.le_antisymm (Int32.not_lt.mp h) h2
      subst this
      decide
    · rfl
abbrev zGo (pull ag : Int32) : Prop := ag.toInt64 < f_X6_without pull
def zMd (pull rubs spr : Int32) : Int32 :=
  if (f_X6_without pull - rubs.toInt64) / (f_X6_greater 1 spr).toInt64 < 1 then 1 else if 999 < (f_X6_without pull - rubs.toInt64) / (f_X6_greater 1 spr).toInt64 then 999 else ((f_X6_without pull - rubs.toInt64) / (f_X6_greater 1 spr).toInt64).toInt32
theorem zMd_in {pull rubs spr : Int32} : 1 ≤ zMd pull rubs spr ∧ zMd pull rubs spr ≤ 999 := by
  unfold zMd
  generalize (f_X6_without pull - rubs.toInt64) / (f_X6_greater 1 spr).toInt64 = n
  split
  · decide
  · rename_i h1
    split
    · decide
    · rename_i h2
      have h1 := Int64.not_lt.mp h1
      have h2 := Int64.not_lt.mp h2
      rw [Int64.le_iff_toInt_le] at h1 h2
      have e1 : (1 : Int64).toInt = 1 := by decide
      have e9 : (999 : Int64).toInt = 999 := by decide
      have f1 : (1 : Int32).toInt = 1 := by decide
      have f9 : (999 : Int32).toInt = 999 := by decide
      have e : n.toInt32.toInt = n.toInt := by
        rw [Int64.toInt_toInt32]
        exact Int.bmod_eq_of_le (by omega) (by omega)
      rw [Int32.le_iff_toInt_le, Int32.le_iff_toInt_le, e]
      omega
def zSg (pull m : Int32) : Int32 := if 0 ≤ pull then m else -m
theorem zgo0 {ag : Int32} (h : 0 ≤ ag) : ¬ zGo 0 ag := by
  unfold zGo
  rw [Int64.lt_iff_toInt_lt, Int32.toInt_toInt64]
  rw [Int32.le_iff_toInt_le] at h
  have e : (f_X6_without 0).toInt = 0 := by decide
  have z0 : (0 : Int32).toInt = 0 := by decide
  omega
theorem zMd_w {m : Int32} (h : 1 ≤ m ∧ m ≤ 999) : (f_X6_without m).toInt32 = m ∧ (f_X6_without (-m)).toInt32 = m ∧ ¬ m = 0 ∧ ¬ -m = 0 ∧ ¬ m ≤ 0 := by
  have key : ∀ j : Nat, j ≤ 999 → 1 ≤ nI j → (f_X6_without (nI j)).toInt32 = nI j ∧ (f_X6_without (-nI j)).toInt32 = nI j ∧ ¬ nI j = 0 ∧ ¬ -nI j = 0 ∧ ¬ nI j ≤ 0 := by decide +kernel
  obtain ⟨j, hj, rfl⟩ := nI_of2 (x := m) (M := 999) (n := 999) (by decide) (Int32.not_lt.mpr (Int32.le_trans (by decide) h.1)) h.2
  exact key j hj h.1
theorem zSg_w {p m : Int32} (h : 1 ≤ m ∧ m ≤ 999) : (f_X6_without (zSg p m)).toInt32 = m ∧ ¬ zSg p m = 0 := by
  unfold zSg
  have k := zMd_w h
  split
  · exact ⟨k.1, k.2.2.1⟩
  · exact ⟨k.2.1, k.2.2.2.1⟩
def zAga (c : Nat) (M : zM) : Int32 := if M.1 c 10 = 0 then M.1 c 7 else f_X0_rubsBy c (M.1 c 9) M
theorem mv_no {c : Nat} {p : Int32} {M : zM} (h : ¬ zGo (M.1 c 8) (zAga c M)) : f_X0_move c p M = zpI M c 9 0 := by
  unfold zGo zAga at h
  unfold f_X0_move
  simp only [zwo]
  split
  · rename_i q
    rw [if_pos q] at h
    unfold f_X0_move_36
    rw [if_neg (fun x => h (lgc_gt.mp x))]
  · rename_i q
    rw [if_neg q] at h
    unfold f_X0_move_36
    rw [if_neg (fun x => h (lgc_gt.mp x))]
theorem zcla {n : Int64} : (if (if n < 999 then n else 999) < 1 then (1 : Int64) else (if n < 999 then n else 999)).toInt32 = if n < 1 then 1 else if 999 < n then 999 else n.toInt32 := by
  by_cases h1 : n < 1
  · have h9 : n < 999 := by
      rw [Int64.lt_iff_toInt_lt] at h1 ⊢
      have e1 : (1 : Int64).toInt = 1 := by decide
      have e9 : (999 : Int64).toInt = 999 := by decide
      omega
    rw [if_pos h1, if_pos h9, if_pos h1]
    decide
  · rw [if_neg h1]
    by_cases h9 : n < 999
    · rw [if_pos h9, if_neg h1, if_neg (Int64.lt_asymm h9)]
    · rw [if_neg h9, if_neg (by decide)]
      split
      · decide
      · rename_i h
        have : n = 999 := Int64.le_antisymm (Int64.not_lt.mp h) (Int64.not_lt.mp h9)
        rw [this]
theorem mv_go {c : Nat} {p : Int32} {M : zM} (h : zGo (M.1 c 8) (zAga c M)) (h0 : 0 ≤ zAga c M) : f_X0_move c p M = zpI (zpI (zpI M c 9 (zMd (M.1 c 8) (f_X0_rubsBy c (M.1 c 9) M) p)) c 5 (M.1 c 5 + zSg (M.1 c 8) (zMd (M.1 c 8) (f_X0_rubsBy c (M.1 c 9) M) p))) c 10 1 := by
  have hp : ¬ M.1 c 8 = 0 := fun q => zgo0 h0 (by rw [q] at h; exact h)
  have key : ∀ ag : Int32, ag.toInt64 < f_X6_without (M.1 c 8) → f_X0_move_36 c p (f_X6_without (M.1 c 8)) (f_X0_rubsBy c (M.1 c 9) M) ag (f_X6_without (M.1 c 8)) M = zpI (zpI (zpI M c 9 (zMd (M.1 c 8) (f_X0_rubsBy c (M.1 c 9) M) p)) c 5 (M.1 c 5 + zSg (M.1 c 8) (zMd (M.1 c 8) (f_X0_rubsBy c (M.1 c 9) M) p))) c 10 1 := by
    intro ag hg
    unfold f_X0_move_36
    rw [if_pos (lgc_gt.mpr hg)]
    simp only [zcla, zmx0]
    have e8 : ∀ v, (zpI M c 9 v).1 c 8 = M.1 c 8 := fun v => zpI_off (by omega)
    have e5 : ∀ v, (zpI M c 9 v).1 c 5 = M.1 c 5 := fun v => zpI_off (by omega)
    have e9 : ∀ v, (zpI M c 9 v).1 c 9 = v := fun v => zpI_at
    simp only [e8, e5, e9]
    unfold zSg
    by_cases q : M.1 c 8 ≤ 0
    · rw [if_pos q, if_neg (fun q2 => hp (Int32.le_antisymm q q2))]
      rfl
    · rw [if_neg q, if_pos (Int32.le_of_lt (Int32.not_le.mp q))]
      rfl
  unfold zGo zAga at h
  unfold f_X0_move
  simp only [zwo]
  split
  · rename_i q
    rw [if_pos q] at h
    exact key _ h
  · rename_i q
    rw [if_neg q] at h
    exact key _ h
theorem springs_cg {b : Int32} {M M' : zM} (h : M'.1 1 = M.1 1) : f_X6_springs b M' = f_X6_springs b M := by
  unfold f_X6_springs f_X6_springs_27 f_X6_isLast f_X6_at
  simp only [h]
/-- what the reference's steps are weighed against -/
def zAgR (b : Nat) (R : zM) : Int32 := if zbt (R.1 0 9) b = 1 then f_X6_rubsOf (nI b) (f_X6_without (R.1 6 b)).toInt32 R else (f_X6_holdsOf (nI b) (zB (R.1 1) b 6) R).1
theorem st_eq {L b : Nat} {R : zM} (h0 : R.1 1 0 = nI L) (hL : L ≤ 10) (hb : b < L) : (zGo (f_X6_pull (nI b) R) (zAgR b R) → (f_X6_stepsOf (nI b) R).1 = zSg (f_X6_pull (nI b) R) (zMd (f_X6_pull (nI b) R) (f_X6_rubsOf (nI b) (f_X6_without (R.1 6 b)).toInt32 R) (zB (R.1 1) b 3 + (if b + 1 < L then zB (R.1 1) (b + 1) 3 else 0)))) ∧ (¬ zGo (f_X6_pull (nI b) R) (zAgR b R) → (f_X6_stepsOf (nI b) R).1 = 0) := by
  have hb10 : b < 10 := by omega
  have k123 : ∀ (s : Int32) (m : zM), (f_X6_stepsOf_123 (nI b) (f_X6_pull (nI b) R) s m).1 = zSg (f_X6_pull (nI b) R) s := by
    intro s m
    unfold f_X6_stepsOf_123 zSg
    split <;> rfl
  have k62 : ∀ (ag : Int32) (m : zM), m.1 1 = R.1 1 → (f_X6_stepsOf_62 (nI b) (f_X6_pull (nI b) R) (f_X6_rubsOf (nI b) (f_X6_without (R.1 6 b)).toInt32 R) ag m).1 = if zGo (f_X6_pull (nI b) R) ag then zSg (f_X6_pull (nI b) R) (zMd (f_X6_pull (nI b) R) (f_X6_rubsOf (nI b) (f_X6_without (R.1 6 b)).toInt32 R) (zB (R.1 1) b 3 + (if b + 1 < L then zB (R.1 1) (b + 1) 3 else 0))) else 0 := by
    intro ag m hm
    unfold f_X6_stepsOf_62
    simp only [springs_cg hm, spr_eq h0 hL hb]
    by_cases q : zGo (f_X6_pull (nI b) R) ag
    · rw [if_pos (lgc_gt.mpr q), if_pos q]
      unfold zMd
      generalize (f_X6_without (f_X6_pull (nI b) R) - (f_X6_rubsOf (nI b) (f_X6_without (R.1 6 b)).toInt32 R).toInt64) / (f_X6_greater 1 (zB (R.1 1) b 3 + (if b + 1 < L then zB (R.1 1) (b + 1) 3 else 0))).toInt64 = n
      by_cases q1 : n < 1
      · rw [if_neg (fun x => absurd q1 (Int64.not_lt.mpr (lgc_ge.mp x))), if_pos q1, k123]
      · rw [if_pos (lgc_ge.mpr (Int64.not_lt.mp q1)), if_neg q1]
        by_cases q9 : 999 < n
        · rw [if_neg (fun x => absurd q9 (Int64.not_lt.mpr (lgc_le.mp x))), if_pos q9, k123]
        · rw [if_pos (lgc_le.mpr (Int64.not_lt.mp q9)), if_neg q9, k123]
    · rw [if_neg (fun x => q (lgc_gt.mp x)), if_neg q]
  have k : (f_X6_stepsOf (nI b) R).1 = if zGo (f_X6_pull (nI b) R) (zAgR b R) then zSg (f_X6_pull (nI b) R) (zMd (f_X6_pull (nI b) R) (f_X6_rubsOf (nI b) (f_X6_without (R.1 6 b)).toInt32 R) (zB (R.1 1) b 3 + (if b + 1 < L then zB (R.1 1) (b + 1) 3 else 0))) else 0 := by
    unfold f_X6_stepsOf f_X6_stepsOf_23 zAgR
    simp only [zcl0 (show b < 1000 by omega), rAt6 hb10]
    by_cases q : zbt (R.1 0 9) b = 1
    · rw [if_pos q]
      unfold zbt at q
      rw [if_pos q, if_neg (by decide)]
      exact k62 _ R rfl
    · rw [if_neg q]
      unfold zbt at q
      rw [if_neg q, if_pos trivial]
      exact k62 _ _ rw_holdsOf
  exact ⟨fun q => by rw [k, if_pos q], fun q => by rw [k, if_neg q]⟩
