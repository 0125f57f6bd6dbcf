/-! what holds between the class and the reference, ahead of every call and behind it -/
def zVl (S : Nat → Int32) : Prop := ∀ k : Nat, k < 64 → (k : Int) < (S 5).toInt → 2000 ≤ S (14 + k) → (if S (14 + k) = 2004 then 1 else 2) ≤ zHg (fun i => S (14 + i)) k
theorem zVl.val {M : zM} (h : zVl (M.1 1)) : zVal M := h
theorem zVal.vl {M : zM} (h : zVal M) : zVl (M.1 1) := h
theorem zVl.cg {S S' : Nat → Int32} (h : zVl S) (e5 : S' 5 = S 5) (e : ∀ i, i < 64 → S' (14 + i) = S (14 + i)) : zVl S' := by
  intro k hk hc h2
  rw [e5] at hc
  rw [e k hk] at h2 ⊢
  rw [zHg_congr (c := fun i => S (14 + i)) k (fun i hi => e i (by omega))]
  exact h k hk hc h2
def zLv (C R : zM) : Prop := (∃ L, zRw L 1 C (R.1 1)) ∧ zBo 43 C (R.1 1) ∧ zVl (R.1 1)
def zKp (C R : zM) : Prop := C.1 0 5 = R.1 0 3 ∧ (¬ C.1 0 5 = 0 → (∃ L, zRw L 15 C (R.1 2)) ∧ zBo 48 C (R.1 2) ∧ zVl (R.1 2))
def zShs (C R : zM) : Prop := ∀ q, q < 4 → C.1 (56 + 2 * q) 1 = R.1 12 q ∧ (∃ n, n ≤ 40 ∧ C.1 (56 + 2 * q) 2 = nI n ∧ R.1 13 q = nI n) ∧ (∀ i, i < 40 → C.2 (56 + 2 * q + 1) i = R.2 14 (40 * q + i))
def zOt (C R : zM) : Prop := zKp C R ∧ (∃ n, zTb 53 n C R) ∧ (∀ k, k < 7 → C.1 64 k = R.1 5 k) ∧ zShs C R
def zIN (C R : zM) : Prop := zLv C R ∧ zOt C R
def oC (c k : Nat) : Prop := c = 0 ∨ (15 ≤ c ∧ ¬ (29 ≤ c ∧ c < 48) ∧ ¬ (c = 53 ∧ 2 ≤ k))
def oR (c k : Nat) : Prop := (c = 0 ∧ (k = 3 ∨ k = 5)) ∨ c = 2 ∨ c = 4 ∨ c = 5 ∨ c = 12 ∨ c = 13
theorem zRw.cg {L r : Nat} {C C' : zM} {S : Nat → Int32} (h : zRw L r C S) (e : ∀ c k, r ≤ c → c < r + 14 → C'.1 c k = C.1 c k) : zRw L r C' S :=
  h.sr ⟨e _ _ (by omega) (by omega), e _ _ (by omega) (by omega), e _ _ (by omega) (by omega), fun b w hb _ => e _ _ (by omega) (by omega), e _ _ (by omega) (by omega), funext fun k => e _ _ (by omega) (by omega)⟩
theorem zTb.cg {t n : Nat} {C C' R R' : zM} (h : zTb t n C R) (e1 : C'.1 t 1 = C.1 t 1) (e2 : C'.1 (t + 1) = C.1 (t + 1)) (e3 : R'.1 0 5 = R.1 0 5) (e4 : R'.1 4 = R.1 4) : zTb t n C' R' :=
  ⟨e1.trans h.1, e3.trans h.2.1, h.2.2.1, by rw [e2, e4]; exact h.2.2.2.1, by rw [e4]; exact h.2.2.2.2⟩
theorem zOt.cg {C C' R R' : zM} (h : zOt C R) (hc : ∀ c k, oC c k → C'.1 c k = C.1 c k) (h2 : C'.2 = C.2) (hr : ∀ c k, oR c k → R'.1 c k = R.1 c k) (hr2 : R'.2 14 = R.2 14) : zOt C' R' := by
  obtain ⟨⟨h1, hk⟩, ⟨n, ht⟩, hf, hs⟩ := h
  have e2 : R'.1 2 = R.1 2 := funext fun k => hr 2 k (Or.inr (Or.inl rfl))
  have e05 : C'.1 0 5 = C.1 0 5 := hc 0 5 (Or.inl rfl)
  refine ⟨⟨e05.trans (h1.trans (hr 0 3 (Or.inl ⟨rfl, Or.inl rfl⟩)).symm), fun z => ?_⟩, ⟨n, ht.cg (hc 53 1 (Or.inr (by omega))) (funext fun k => hc 54 k (Or.inr (by omega))) (hr 0 5 (Or.inl ⟨rfl, Or.inr rfl⟩)) (funext fun k => hr 4 k (by unfold oR; omega))⟩, fun k hk7 => ?_, fun q hq => ?_⟩
  · rw [e05] at z
    obtain ⟨⟨L, k1⟩, k2, k3⟩ := hk z
    rw [e2]
    exact ⟨⟨L, k1.cg (fun c k h1 h2 => hc c k (Or.inr (by omega)))⟩, k2.cg (fun c h1 h2 => funext fun k => hc c k (Or.inr (by omega))) (fun _ _ => rfl), k3⟩
  · rw [hc 64 k (Or.inr (by omega)), hr 5 k (by unfold oR; omega)]
    exact hf k hk7
  · rw [hc (56 + 2 * q) 1 (Or.inr (by omega)), hc (56 + 2 * q) 2 (Or.inr (by omega)), hr 12 q (by unfold oR; omega), hr 13 q (by unfold oR; omega), h2, hr2]
    exact hs q hq
theorem zLv.sr {C C' R R' : zM} (h : zLv C R) (hs : zSr 1 C C') (hb : ∀ c, 43 ≤ c → c < 48 → C'.1 c = C.1 c) (hr : R'.1 1 = R.1 1) : zLv C' R' := by
  obtain ⟨⟨L, h1⟩, h2, h3⟩ := h
  refine ⟨⟨L, ?_⟩, ?_, ?_⟩
  · rw [hr]; exact h1.sr hs
  · rw [hr]; exact h2.cg (fun c k1 k2 => hb c k1 (by omega)) (fun _ _ => rfl)
  · rw [hr]; exact h3
/-- what only reckons leaves all as it was -/
theorem IN_tg {C C' R R' : zM} (h : zIN C R) (hc : zTg 13 C C') (hr : zF11 R R') : zIN C' R' :=
  ⟨h.1.sr (sr_tg hc) (fun c h1 h2 => hc.1 c (by omega)) (hr.1 1 (by omega)), h.2.cg (fun c k z => by unfold oC at z; rw [hc.1 c (by omega)]) hc.2.2 (fun c k z => by unfold oR at z; rw [hr.1 c (by omega)]) (by rw [hr.2])⟩
/-! findings -/
def fnC (k : Nat) (C : zM) : zM := zpI C 64 k (C.1 64 k + 1)
def fnR (k : Nat) (R : zM) : zM := zpI R 5 k (R.1 5 k + 1)
theorem fn0 {M : zM} : f_X5_finding (-1000000001) M = (-1000000001, fnC 0 M) := rfl
theorem fn1 {M : zM} : f_X5_finding (-1000000002) M = (-1000000002, fnC 1 M) := rfl
theorem fn2 {M : zM} : f_X5_finding (-1000000003) M = (-1000000003, fnC 2 M) := rfl
theorem fn3 {M : zM} : f_X5_finding (-1000000004) M = (-1000000004, fnC 3 M) := rfl
theorem fn5 {M : zM} : f_X5_finding (-1000000006) M = (-1000000006, fnC 5 M) := rfl
theorem fn6 {M : zM} : f_X5_finding (-1000000007) M = (-1000000007, fnC 6 M) := rfl
theorem no0 {M : zM} : f_X6_no 0 M = (-1000000001, fnR 0 M) := rfl
theorem no1 {M : zM} : f_X6_no 1 M = (-1000000002, fnR 1 M) := rfl
theorem no2 {M : zM} : f_X6_no 2 M = (-1000000003, fnR 2 M) := rfl
theorem no3 {M : zM} : f_X6_no 3 M = (-1000000004, fnR 3 M) := rfl
theorem no5 {M : zM} : f_X6_no 5 M = (-1000000006, fnR 5 M) := rfl
theorem no6 {M : zM} : f_X6_no 6 M = (-1000000007, fnR 6 M) := rfl
theorem IN_fn {C R : zM} (h : zIN C R) {k : Nat} (hk : k < 7) : zIN (fnC k C) (fnR k R) := by
  unfold fnC fnR
  obtain ⟨h1, ⟨k1, k2⟩, ⟨n, ht⟩, hf, hs⟩ := h
  refine ⟨h1.sr ⟨zpI_off (by omega), zpI_off (by omega), zpI_off (by omega), fun b w hb hw => zpI_off (by omega), zpI_off (by omega), zpI_ne.1 _ (by omega)⟩ (fun c z1 z2 => zpI_ne.1 c (by omega)) (zpI_ne.1 1 (by omega)), ⟨?_, fun z => ?_⟩, ⟨n, ht.cg (zpI_off (by omega)) (zpI_ne.1 _ (by omega)) (zpI_off (by omega)) (zpI_ne.1 4 (by omega))⟩, fun j hj => ?_, fun q hq => ?_⟩
  · rw [zpI_off (by omega), zpI_off (by omega)]; exact k1
  · rw [zpI_off (by omega)] at z
    obtain ⟨⟨L, w1⟩, w2, w3⟩ := k2 z
    rw [zpI_ne.1 2 (by omega)]
    exact ⟨⟨L, w1.cg (fun c k z1 z2 => zpI_off (by omega))⟩, w2.cg (fun c z1 z2 => zpI_ne.1 c (by omega)) (fun _ _ => rfl), w3⟩
  · by_cases q : j = k
    · subst q; rw [zpI_at, zpI_at, hf j hj]
    · rw [zpI_off (by omega), zpI_off (by omega)]; exact hf j hj
  · have c1 : ∀ j, (zpI C 64 k (C.1 64 k + 1)).1 (56 + 2 * q) j = C.1 (56 + 2 * q) j := fun j => zpI_off (by omega)
    have r12 : (zpI R 5 k (R.1 5 k + 1)).1 12 = R.1 12 := zpI_ne.1 12 (by omega)
    have r13 : (zpI R 5 k (R.1 5 k + 1)).1 13 = R.1 13 := zpI_ne.1 13 (by omega)
    rw [c1, c1, r12, r13]
    exact hs q hq
/-- the two answers are the same, and so is what is kept -/
def zEq (x y : Int32 × zM) : Prop := x.1 = y.1 ∧ zIN x.2 y.2
def zEqL (x y : Int64 × zM) : Prop := x.1 = y.1 ∧ zIN x.2 y.2
theorem eq_f0 {C R : zM} (h : zIN C R) : zEq (f_X5_finding (-1000000001) C) (f_X6_no 0 R) := by rw [fn0, no0]; exact ⟨rfl, IN_fn h (by omega)⟩
theorem eq_f1 {C R : zM} (h : zIN C R) : zEq (f_X5_finding (-1000000002) C) (f_X6_no 1 R) := by rw [fn1, no1]; exact ⟨rfl, IN_fn h (by omega)⟩
theorem eq_f2 {C R : zM} (h : zIN C R) : zEq (f_X5_finding (-1000000003) C) (f_X6_no 2 R) := by rw [fn2, no2]; exact ⟨rfl, IN_fn h (by omega)⟩
theorem eq_f3 {C R : zM} (h : zIN C R) : zEq (f_X5_finding (-1000000004) C) (f_X6_no 3 R) := by rw [fn3, no3]; exact ⟨rfl, IN_fn h (by omega)⟩
theorem eq_f5 {C R : zM} (h : zIN C R) : zEq (f_X5_finding (-1000000006) C) (f_X6_no 5 R) := by rw [fn5, no5]; exact ⟨rfl, IN_fn h (by omega)⟩
theorem eq_f6 {C R : zM} (h : zIN C R) : zEq (f_X5_finding (-1000000007) C) (f_X6_no 6 R) := by rw [fn6, no6]; exact ⟨rfl, IN_fn h (by omega)⟩
/-! numbers within bounds -/
theorem wi_in {a b c : Int32} : f_X5_within a b c = f_X6_in a b c := rfl
theorem in_le {v a b : Int32} (h : f_X6_in v a b ≠ 0) : a ≤ v ∧ v ≤ b := in_X6 h
theorem in_of {v a b : Int32} (h1 : a ≤ v) (h2 : v ≤ b) : ¬ f_X6_in v a b = 0 := by
  unfold f_X6_in
  rw [if_neg (Int32.not_lt.mpr h1), if_neg (Int32.not_lt.mpr h2)]
  decide
theorem in_nI {v : Int32} {N : Nat} (hN : N < 2 ^ 31) (h : ¬ f_X6_in v 0 (nI N) = 0) : ∃ j, j ≤ N ∧ v = nI j := by
  have h1 := in_X6 h
  exact nI_of2 (nI_toInt hN) (Int32.not_lt.mpr h1.1) h1.2
theorem zL1 (L : Nat) (p : Int32) (hL : L < 1000) : (nI L - 1 < p ∧ 0 ≤ p) ↔ (nI L ≤ p ∧ 0 ≤ p) := by
  cases L with
  | zero =>
    constructor
    · intro h; exact ⟨h.2, h.2⟩
    · intro h; exact ⟨Int32.lt_of_lt_of_le (by decide) h.2, h.2⟩
  | succ k =>
    rw [nI_pred]
    constructor
    · intro h
      refine ⟨?_, h.2⟩
      obtain ⟨j, hj, rfl⟩ := nI_of (Int32.not_lt.mpr h.2)
      exact nI_le ((nI_ltI (by omega) hj).mp h.1) hj
    · intro h
      refine ⟨Int32.lt_of_lt_of_le (nI_lt (by omega) (by omega)) h.1, h.2⟩
theorem has_eq {L : Nat} {p : Int32} {C R : zM} (h1 : C.1 1 1 = nI L) (h0 : R.1 1 0 = nI L) (hL : L ≤ 10) : f_X2_has 1 p C = f_X6_isBlock p R := by
  unfold f_X2_has f_X6_isBlock f_X6_in
  simp only []
  rw [h1, h0]
  by_cases q : p < 0
  · rw [if_pos q, if_pos q]
  · rw [if_neg q, if_neg q]
    have k := zL1 L p (by omega)
    have q0 := Int32.not_lt.mp q
    by_cases z : nI L ≤ p
    · rw [if_pos z, if_pos (k.mpr ⟨z, q0⟩).1]
    · rw [if_neg z, if_neg (fun w => z (k.mp ⟨w, q0⟩).1)]
theorem has_b {L : Nat} {p : Int32} {R : zM} (h0 : R.1 1 0 = nI L) (hL : L ≤ 10) (h : ¬ f_X6_isBlock p R = 0) : ∃ b, b < L ∧ p = nI b := by
  unfold f_X6_isBlock at h
  have h1 := in_X6 (v := p) (a := 0) (b := R.1 1 0 - 1) h
  rw [h0] at h1
  obtain ⟨j, hj, rfl⟩ := nI_of (Int32.not_lt.mpr h1.1)
  refine ⟨j, ?_, rfl⟩
  cases L with
  | zero => exact absurd (Int32.le_trans h1.1 h1.2) (by decide)
  | succ k =>
    have h2 := h1.2
    rw [nI_pred] at h2
    have := (nI_leI hj (by omega)).mp h2
    omega
