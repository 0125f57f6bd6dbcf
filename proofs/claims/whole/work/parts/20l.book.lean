/-! classes of sizes -/
theorem cls_eq (q : Int32) : f_X1_classOf q = f_X6_classOf q := by
  unfold f_X1_classOf f_X6_classOf
  by_cases h : q ≤ 0
  · have h1 : q < 1 := Int32.lt_of_le_of_lt h (by decide)
    have e1 : (1 : Int32) <<< ((0 : Int32) &&& 31) = 1 := by decide
    unfold f_X1_classOf_2 f_X6_classOf_4
    rw [if_neg (by decide), e1, if_pos h1, if_pos h]
  · have h0 : ¬ q < 0 := fun z => h (Int32.le_of_lt z)
    obtain ⟨m, hm, rfl⟩ := nI_of h0
    have key : ∀ c : Nat, c < 6 → (1 : Int32) <<< (nI c &&& 31) = nI (2 ^ c) := by decide
    have st : ∀ k c : Nat, c + k = 6 → f_X1_classOf_2 (nI m) (k + 1) (nI c) = f_X6_classOf_4 (nI m) (k + 1) (nI c) (nI (m / 2 ^ c)) := by
      intro k
      induction k with
      | zero =>
        intro c hc
        obtain rfl : c = 6 := by omega
        unfold f_X1_classOf_2 f_X6_classOf_4
        rw [if_pos (by decide)]
        split
        · rfl
        · rfl
      | succ k ih =>
        intro c hc
        have hp : 0 < 2 ^ c := Nat.two_pow_pos c
        have hlt : m / 2 ^ c < 2 ^ 31 := Nat.lt_of_le_of_lt (Nat.div_le_self m _) hm
        have hpw : 2 ^ c < 2 ^ 31 := Nat.pow_lt_pow_right (by omega) (by omega)
        unfold f_X1_classOf_2 f_X6_classOf_4
        rw [if_neg (show ¬ (6 : Int32) ≤ nI c from nI_ge (b := 6) (by omega) (by omega)), key c (by omega)]
        by_cases hq : m < 2 ^ c
        · rw [if_pos (nI_lt hq hpw), if_pos (show nI (m / 2 ^ c) ≤ (0 : Int32) from nI_le (b := 0) (by rw [Nat.div_eq_of_lt hq]; exact Nat.le_refl 0) (by omega))]
        · have hge : 0 < m / 2 ^ c := Nat.div_pos (Nat.not_lt.mp hq) hp
          rw [if_neg (nI_nlt (Nat.not_lt.mp hq) hm), if_neg (nI_nle hge hlt), if_neg (show ¬ (6 : Int32) ≤ nI c from nI_ge (b := 6) (by omega) (by omega)), nI_1]
          have e2 : nI (m / 2 ^ c) / 2 = nI (m / 2 ^ (c + 1)) := by
            have := pk_div (a := m / 2 ^ c) (d := 2) hlt (by omega) (by omega)
            rw [show (2 : Int32) = nI 2 from rfl, this, Nat.div_div_eq_div_mul, ← Nat.pow_succ]
          simp only []
          rw [e2]
          exact ih (c + 1) (by omega)
    have := st 6 0 rfl
    rw [show m / 2 ^ 0 = m by simp] at this
    exact this
/-! the book -/
def zSl (x i : Nat) : Nat := (x + 99 - i) % 100
def zBo (k : Nat) (C : zM) (S : Nat → Int32) : Prop := ∃ n x : Nat, n ≤ 100 ∧ x < 100 ∧ C.1 k 4 = nI n ∧ S 13 = nI n ∧ C.1 k 5 = nI x ∧ (∀ i, i < n → C.1 (k + 1) (zSl x i) = S (148 + i) ∧ C.1 (k + 2) (zSl x i) = S (248 + i) ∧ C.1 (k + 3) (zSl x i) = S (348 + i)) ∧ (∀ c, c < 7 → C.1 (k + 4) c = S (6 + c)) ∧ C.1 k 6 = S 3 ∧ C.1 k 7 = S 4
theorem slot_eq {k x i : Nat} {C : zM} (h : C.1 k 5 = nI x) (hx : x < 100) (hi : i < 100) : (f_X1_slot k (nI i) C).toNatClampNeg = zSl x i := by
  have key : ∀ d : Nat, d ≤ 198 → (f_J9_floorMod_7cf53 (nI d - 100) 100).toNatClampNeg = d % 100 := by decide +kernel
  unfold f_X1_slot zSl
  simp only []
  have e : nI (x + 99 - i) + nI i = nI x + 99 := by
    rw [nI_add, show x + 99 - i + i = x + 99 by omega, ← nI_add]
    rfl
  have e2 : nI x - 1 - nI i = nI (x + 99 - i) - 100 := by grind
  rw [h, e2, key _ (by omega)]
theorem zBo.cg {k : Nat} {C C' : zM} {S S' : Nat → Int32} (h : zBo k C S) (hc : ∀ c, k ≤ c → c < k + 5 → C'.1 c = C.1 c) (e : ∀ j, (j = 3 ∨ j = 4 ∨ (6 ≤ j ∧ j < 14) ∨ (148 ≤ j ∧ j < 448)) → S' j = S j) : zBo k C' S' := by
  obtain ⟨n, x, h1, h2, h3, h4, h5, h6, h7, h8, h9⟩ := h
  refine ⟨n, x, h1, h2, by rw [hc k (by omega) (by omega)]; exact h3, (e 13 (by omega)).trans h4, by rw [hc k (by omega) (by omega)]; exact h5, fun i hi => ?_, fun c hc7 => ?_, ?_, ?_⟩
  · rw [hc (k + 1) (by omega) (by omega), hc (k + 2) (by omega) (by omega), hc (k + 3) (by omega) (by omega), e (148 + i) (by omega), e (248 + i) (by omega), e (348 + i) (by omega)]
    exact h6 i hi
  · rw [hc (k + 4) (by omega) (by omega), e (6 + c) (by omega)]; exact h7 c hc7
  · rw [hc k (by omega) (by omega), e 3 (by omega)]; exact h8
  · rw [hc k (by omega) (by omega), e 4 (by omega)]; exact h9
theorem enter_eq {C R R' : zM} {v : Int32} (hB : zBo 43 C (R.1 1)) (t5 : C.1 1 5 = R'.1 0 10) (t6 : C.1 1 6 = R'.1 0 9) (t7 : C.1 1 7 = R'.1 0 11) (t8 : C.1 1 8 = v) (hb : zBt R R' v) :
    zBo 43 (f_X1_enter 43 1 C) (R'.1 1) ∧ (∀ c, ¬ (43 ≤ c ∧ c < 48) → (f_X1_enter 43 1 C).1 c = C.1 c) ∧ (f_X1_enter 43 1 C).2 = C.2 := by
  obtain ⟨n, x, h1, h2, h3, h4, h5, h6, h7, h8, h9⟩ := hB
  obtain ⟨b1, b2, b3, b4, b5, b6, b7⟩ := hb
  obtain ⟨ck, hck, eck⟩ := cls_k (q := R'.1 0 10)
  have ecl : f_X1_classOf (C.1 1 5) = nI ck := by rw [cls_eq, t5, eck]
  have ex : (nI x).toNatClampNeg = x := zcl0 (by omega)
  have ecx : (nI ck).toNatClampNeg = ck := zcl0 (by omega)
  have enx : nI x + 1 - (nI x + 1) / 100 * 100 = nI ((x + 1) % 100) := by
    rw [nI_1]; exact pk_rem (d := 100) (by omega) (by omega) (by omega)
  have eln : (if nI n + 1 < 100 then nI n + 1 else 100) = nI (if n + 1 < 100 then n + 1 else 100) := by
    rw [nI_1]
    by_cases q : n + 1 < 100
    · rw [if_pos (show nI (n + 1) < (100 : Int32) from nI_lt (b := 100) q (by omega)), if_pos q]
    · rw [if_neg (show ¬ nI (n + 1) < (100 : Int32) from nI_nlt (b := 100) (by omega) (by omega)), if_neg q]; rfl
  have form : f_X1_enter 43 1 C = zpI (zpI (zpI (zpI (zpI (zpI (zpI (zpI C 44 x (R'.1 0 10)) 45 x (R'.1 0 9)) 46 x (R'.1 0 11)) 43 5 (nI ((x + 1) % 100))) 43 4 (nI (if n + 1 < 100 then n + 1 else 100))) 47 ck (C.1 47 ck + 1)) 43 6 (C.1 43 6 + 1)) 43 7 (C.1 43 7 + (if v = 0 then 0 else 1)) := by
    unfold f_X1_enter
    simp (disch := omega) only [zpI_off, zpI_at, h5, ex, t5, t6, t7, h3, enx, eln, t8]
    rw [← t5, ecl, ecx]
    by_cases q : v = 0
    · rw [if_pos q, if_pos q]
    · rw [if_neg q, if_neg q]
  rw [form]
  have elen : R'.1 1 13 = nI (if n + 1 < 100 then n + 1 else 100) := by rw [b3, h4, ← zmn2, eln]
  refine ⟨⟨if n + 1 < 100 then n + 1 else 100, (x + 1) % 100, by split <;> omega, by omega, ?_, elen, ?_, fun i hi => ?_, fun c hc => ?_, ?_, ?_⟩, fun c hc => ?_, rfl⟩
  · simp (disch := omega) only [zpI_off, zpI_at]
  · simp (disch := omega) only [zpI_off, zpI_at]
  · have hi2 : i < 100 ∧ i ≤ n := by split at hi <;> omega
    have hne : ¬ zSl ((x + 1) % 100) i = x ∨ i = 0 := by unfold zSl; omega
    rw [b5 i hi2.1, b6 i hi2.1, b7 i hi2.1]
    by_cases q : i = 0
    · subst q
      have e0 : zSl ((x + 1) % 100) 0 = x := by unfold zSl; omega
      rw [e0]
      refine ⟨?_, ?_, ?_⟩
      · rw [zpI_off (by omega), zpI_off (by omega), zpI_off (by omega), zpI_off (by omega), zpI_off (by omega), zpI_off (by omega), zpI_off (by omega), if_pos rfl]; exact zpI_at
      · rw [zpI_off (by omega), zpI_off (by omega), zpI_off (by omega), zpI_off (by omega), zpI_off (by omega), zpI_off (by omega), if_pos rfl]; exact zpI_at
      · rw [zpI_off (by omega), zpI_off (by omega), zpI_off (by omega), zpI_off (by omega), zpI_off (by omega), if_pos rfl]; exact zpI_at
    · have hne2 : ¬ zSl ((x + 1) % 100) i = x := hne.resolve_right q
      have e1 : zSl ((x + 1) % 100) i = zSl x (i - 1) := by unfold zSl; omega
      rw [if_neg q, if_neg q, if_neg q]
      have h6i := h6 (i - 1) (by omega)
      rw [← e1] at h6i
      refine ⟨?_, ?_, ?_⟩
      · rw [zpI_off (by omega), zpI_off (by omega), zpI_off (by omega), zpI_off (by omega), zpI_off (by omega), zpI_off (by omega), zpI_off (by omega), zpI_off (by omega)]; exact h6i.1
      · rw [zpI_off (by omega), zpI_off (by omega), zpI_off (by omega), zpI_off (by omega), zpI_off (by omega), zpI_off (by omega), zpI_off (by omega), zpI_off (by omega)]; exact h6i.2.1
      · rw [zpI_off (by omega), zpI_off (by omega), zpI_off (by omega), zpI_off (by omega), zpI_off (by omega), zpI_off (by omega), zpI_off (by omega), zpI_off (by omega)]; exact h6i.2.2
  · rw [b4 c hc, eck]
    by_cases q : c = ck
    · subst q
      rw [if_pos rfl, ← h7 c hc]
      simp (disch := omega) only [zpI_off, zpI_at]
    · rw [if_neg (fun z => q ((nI_eq (by omega) (by omega)).mp z)), ← h7 c hc]
      simp (disch := omega) only [zpI_off]
      exact (Int32.add_zero _).symm
  · rw [b1, ← h8]
    simp (disch := omega) only [zpI_off, zpI_at]
  · rw [b2, ← h9]
    simp (disch := omega) only [zpI_at]
  · have h43 : c ≠ 43 := by omega
    have h44 : c ≠ 44 := by omega
    have h45 : c ≠ 45 := by omega
    have h46 : c ≠ 46 := by omega
    have h47 : c ≠ 47 := by omega
    rw [zpI_ne.1 c h43, zpI_ne.1 c h43, zpI_ne.1 c h47, zpI_ne.1 c h43, zpI_ne.1 c h43, zpI_ne.1 c h46, zpI_ne.1 c h45, zpI_ne.1 c h44]
