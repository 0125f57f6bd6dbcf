/-! what codes reckon, on a pile that is a list (its top first); e: the six names -/
def wrC (e : Nat → Int32) (w : Int32) : Int32 := if w = 0 then e 0 else if w = 1 then e 1 else if w = 2 then e 2 else if w = 3 then e 3 else if w = 4 then e 4 else e 5
def exC (e : Nat → Int32) (c : Int32) (st : List Int32) : Option (List Int32) :=
  if 2000 ≤ c then (if c = 2004 then (match st with
    | a :: r => some (-a :: r)
    | [] => none) else (match st with
    | b :: a :: r => some (f_X6_done c a b :: r)
    | _ => none)) else if 1000 ≤ c then some (wrC e (c - 1000) :: st) else some (c :: st)
def exL (e : Nat → Int32) : List Int32 → List Int32 → Option (List Int32)
  | [], st => some st
  | c :: cs, st => (exC e c st).bind (exL e cs)
theorem exL_app {e : Nat → Int32} : ∀ (a b st : List Int32), exL e (a ++ b) st = (exL e a st).bind (exL e b) := by
  intro a
  induction a with
  | nil => intro b st; rfl
  | cons c cs ih =>
    intro b st
    show (exC e c st).bind (exL e (cs ++ b)) = ((exC e c st).bind (exL e cs)).bind (exL e b)
    cases exC e c st with
    | none => rfl
    | some x => exact ih b x
theorem exL_then {e : Nat → Int32} {a b st st' : List Int32} (h : exL e a st = some st') : exL e (a ++ b) st = exL e b st' := by
  rw [exL_app, h]
  rfl
theorem exL_one {e : Nat → Int32} {c : Int32} {st : List Int32} : exL e [c] st = exC e c st := by
  show (exC e c st).bind (exL e []) = exC e c st
  cases exC e c st <;> rfl
theorem zdiv1 (x : Int32) : x / -1 = -x := by
  apply Int32.toInt_inj.mp
  have : (-1 : Int32).toInt = -1 := by decide
  rw [Int32.toInt_div, this, Int.tdiv_neg, Int.tdiv_one, Int32.toInt_neg]
/-! the codes that the reference has put down -/
def zCo (R : zM) (cs : List Int32) : Prop := (R.1 0 16).toInt = cs.length ∧ ∀ i, i < cs.length → cs[i]? = some (R.1 10 i)
theorem zCo.cg {R R' : zM} {cs : List Int32} (h : zCo R cs) (e1 : R'.1 0 16 = R.1 0 16) (e2 : R'.1 10 = R.1 10) : zCo R' cs := ⟨by rw [e1]; exact h.1, by rw [e2]; exact h.2⟩
theorem co_emit {R : zM} {cs : List Int32} {v : Int32} (h : zCo R cs) (hf : R.1 0 18 < 0) (hb : (R.1 0 16).toInt ≤ 60) : zCo (f_X6_emit v R) (cs ++ [v]) := by
  obtain ⟨h1, h2⟩ := h
  have hx : (R.1 0 16).toNatClampNeg = cs.length := by
    show (R.1 0 16).toInt.toNat = cs.length
    omega
  unfold f_X6_emit
  rw [if_neg (Int32.not_le.mpr hf)]
  simp only []
  rw [hx, zpI_off (by omega)]
  refine ⟨?_, fun i hi => ?_⟩
  · rw [zpI_at, zti1 (by omega), List.length_append]
    simp only [List.length_cons, List.length_nil]
    omega
  · rw [zpI_ne.1 10 (by omega)]
    simp only [List.length_append, List.length_cons, List.length_nil] at hi
    by_cases q : i = cs.length
    · subst q
      rw [zpI_at]
      simp
    · rw [zpI_off (by omega), List.getElem?_append_left (by omega)]
      exact h2 i (by omega)
theorem em_f {v : Int32} {R : zM} : (f_X6_emit v R).1 0 18 = R.1 0 18 ∧ (f_X6_emit v R).1 0 5 = R.1 0 5 ∧ (f_X6_emit v R).1 0 17 = R.1 0 17 ∧ (f_X6_emit v R).1 4 = R.1 4 := by
  unfold f_X6_emit
  split
  · exact ⟨rfl, rfl, rfl, rfl⟩
  · simp only []
    refine ⟨?_, ?_, ?_, ?_⟩
    · rw [zpI_off (by omega), zpI_off (by omega)]
    · rw [zpI_off (by omega), zpI_off (by omega)]
    · rw [zpI_off (by omega), zpI_off (by omega)]
    · rw [zpI_ne.1 4 (by omega), zpI_ne.1 4 (by omega)]
/-! the class's reading of a text t of n bytes beside the reference's -/
def zTb (t n : Nat) (C R : zM) : Prop := C.1 t 1 = nI n ∧ R.1 0 5 = nI n ∧ n ≤ 60 ∧ (∀ i, i < n → C.1 (t + 1) i = R.1 4 i) ∧ (∀ i, i < n → 0 ≤ R.1 4 i)
def zPi (t n : Nat) (C R : zM) : Prop := zTb t n C R ∧ C.1 t 4 = R.1 0 18 ∧ (0 ≤ R.1 0 18 → C.1 t 3 = -1) ∧ (R.1 0 18 < 0 → ∃ a, a ≤ n ∧ C.1 t 2 = nI a ∧ R.1 0 17 = nI a ∧ C.1 t 3 = f_X6_byteAt R)
theorem ba_eq {n a : Nat} {R : zM} (h5 : R.1 0 5 = nI n) (h : R.1 0 17 = nI a) (hn : n ≤ 60) (ha : a ≤ n) : f_X6_byteAt R = if n ≤ a then -1 else R.1 4 a := by
  unfold f_X6_byteAt
  rw [h5, h, zcl0 (show a < 1000 by omega)]
  by_cases q : n ≤ a
  · rw [if_pos (nI_le q (by omega)), if_pos q]
  · rw [if_neg (nI_ge (by omega) (by omega)), if_neg q]
theorem zPi.cg {t n : Nat} {C R R' : zM} (h : zPi t n C R) (e5 : R'.1 0 5 = R.1 0 5) (e17 : R'.1 0 17 = R.1 0 17) (e18 : R'.1 0 18 = R.1 0 18) (e4 : R'.1 4 = R.1 4) : zPi t n C R' := by
  have eb : f_X6_byteAt R' = f_X6_byteAt R := by unfold f_X6_byteAt; rw [e5, e17, e4]
  obtain ⟨⟨a1, a2, a3, a4, a5⟩, h2, h3, h4⟩ := h
  refine ⟨⟨a1, e5.trans a2, a3, by rw [e4]; exact a4, by rw [e4]; exact a5⟩, h2.trans e18.symm, by rw [e18]; exact h3, by rw [e18, e17, eb]; exact h4⟩
theorem zPi.bt {t n : Nat} {C R : zM} (h : zPi t n C R) (hf : R.1 0 18 < 0) : C.1 t 3 = f_X6_byteAt R := by
  obtain ⟨a, -, -, -, e⟩ := h.2.2.2 hf
  exact e
theorem zPi.ba {t n : Nat} {C R : zM} (h : zPi t n C R) (hf : R.1 0 18 < 0) : f_X6_byteAt R = -1 ∨ 0 ≤ f_X6_byteAt R := by
  obtain ⟨a, h1, h2, h3, h4⟩ := h.2.2.2 hf
  rw [ba_eq h.1.2.1 h3 h.1.2.2.1 h1]
  split
  · exact Or.inl rfl
  · exact Or.inr (h.1.2.2.2.2 a (by omega))
/-- where the text has no fault yet, the byte that is wanted stands there -/
theorem ps_hit {t n : Nat} {C R : zM} {q : Int32} (h : zPi t n C R) (hf : R.1 0 18 < 0) (h0 : 0 ≤ q) (hq : f_X6_byteAt R = q) : zPi t n (f_X4_pass t q C) (zpI R 0 17 (R.1 0 17 + 1)) := by
  have hs := h.bt hf
  obtain ⟨⟨a1, a2, a3, a4, a5⟩, h2, h3, h4⟩ := h
  obtain ⟨a, k1, k2, k3, k4⟩ := h4 hf
  have hb := ba_eq a2 k3 a3 k1
  have ha : ¬ n ≤ a := by
    intro z
    rw [if_pos z, hq] at hb
    rw [hb] at h0
    exact absurd h0 (by decide)
  have f1 : ¬ (0 : Int32) ≤ C.1 t 4 := by rw [h2]; exact Int32.not_le.mpr hf
  have f2 : ¬ C.1 t 1 ≤ C.1 t 2 := by rw [a1, k2]; exact nI_ge (by omega) (by omega)
  have f3 : C.1 t 3 = q := hs.trans hq
  have ef : f_X4_pass t q C = zpI (zpI C t 2 (nI (a + 1))) t 3 (if n ≤ a + 1 then -1 else R.1 4 (a + 1)) := by
    unfold f_X4_pass
    rw [if_neg f1, if_neg f2, if_pos f3, k2, nI_1]
    simp only []
    unfold f_X4_pass_54
    have g4 : (zpI C t 2 (nI (a + 1))).1 t 4 = C.1 t 4 := zpI_off (by omega)
    have g1 : (zpI C t 2 (nI (a + 1))).1 t 1 = nI n := (zpI_off (by omega)).trans a1
    have g2 : (zpI C t 2 (nI (a + 1))).1 t 2 = nI (a + 1) := zpI_at
    have gb : (zpI C t 2 (nI (a + 1))).1 (t + 1) = C.1 (t + 1) := zpI_ne.1 _ (by omega)
    rw [g4, if_neg f1, g1, g2, gb, zcl0 (show a + 1 < 1000 by omega)]
    by_cases q : n ≤ a + 1
    · rw [if_pos (nI_le q (by omega)), if_pos q]
    · rw [if_neg (nI_ge (by omega) (by omega)), if_neg q, a4 (a + 1) (by omega)]
  have e17 : (zpI R 0 17 (R.1 0 17 + 1)).1 0 17 = nI (a + 1) := by rw [zpI_at, k3, nI_1]
  have e5 : (zpI R 0 17 (R.1 0 17 + 1)).1 0 5 = nI n := (zpI_off (by omega)).trans a2
  have e18 : (zpI R 0 17 (R.1 0 17 + 1)).1 0 18 = R.1 0 18 := zpI_off (by omega)
  have e4 : (zpI R 0 17 (R.1 0 17 + 1)).1 4 = R.1 4 := zpI_ne.1 4 (by omega)
  rw [ef]
  refine ⟨⟨?_, e5, a3, ?_, ?_⟩, ?_, ?_, fun _ => ⟨a + 1, by omega, ?_, e17, ?_⟩⟩
  · rw [zpI_off (by omega), zpI_off (by omega)]; exact a1
  · rw [e4, zpI_ne.1 _ (by omega), zpI_ne.1 _ (by omega)]; exact a4
  · rw [e4]; exact a5
  · rw [zpI_off (by omega), zpI_off (by omega), e18]; exact h2
  · rw [e18]; intro z; exact absurd hf (Int32.not_lt.mpr z)
  · rw [zpI_off (by omega), zpI_at]
  · rw [zpI_at, ba_eq e5 e17 a3 (by omega), e4]
/-- another byte stands there, or none -/
theorem ps_miss {t n : Nat} {C R : zM} {q : Int32} (h : zPi t n C R) (hf : R.1 0 18 < 0) (hq : f_X6_byteAt R ≠ q) : zPi t n (f_X4_pass t q C) (f_X6_fails R) ∧ 0 ≤ (f_X6_fails R).1 0 18 := by
  have hs := h.bt hf
  obtain ⟨⟨a1, a2, a3, a4, a5⟩, h2, h3, h4⟩ := h
  obtain ⟨a, k1, k2, k3, k4⟩ := h4 hf
  have f1 : ¬ (0 : Int32) ≤ C.1 t 4 := by rw [h2]; exact Int32.not_le.mpr hf
  have f3 : ¬ C.1 t 3 = q := by rw [hs]; exact hq
  have na : (0 : Int32) ≤ nI a := nI_pos' (by omega)
  have ef : f_X4_pass t q C = zpI (zpI C t 4 (nI a)) t 3 (-1) := by
    have e39 : f_X4_pass_39 t q C = zpI (zpI C t 4 (nI a)) t 3 (-1) := by
      unfold f_X4_pass_39
      rw [if_neg f1, k2]
      simp only []
      unfold f_X4_pass_54
      rw [zpI_at, if_pos na]
    unfold f_X4_pass
    rw [if_neg f1]
    split
    · exact e39
    · exact e39
  have er : f_X6_fails R = zpI R 0 18 (nI a) := by
    unfold f_X6_fails
    rw [if_neg (Int32.not_le.mpr hf), k3]
  rw [ef, er]
  refine ⟨⟨⟨?_, ?_, a3, ?_, ?_⟩, ?_, ?_, ?_⟩, by rw [zpI_at]; exact na⟩
  · rw [zpI_off (by omega), zpI_off (by omega)]; exact a1
  · rw [zpI_off (by omega)]; exact a2
  · rw [zpI_ne.1 4 (by omega), zpI_ne.1 _ (by omega), zpI_ne.1 _ (by omega)]; exact a4
  · rw [zpI_ne.1 4 (by omega)]; exact a5
  · rw [zpI_off (by omega), zpI_at, zpI_at]
  · intro _; exact zpI_at
  · rw [zpI_at]; intro z; exact absurd na (Int32.not_le.mpr z)
/-- there was a fault already -/
theorem ps_dead {t n : Nat} {C R : zM} {q : Int32} (h : zPi t n C R) (hf : 0 ≤ R.1 0 18) : zPi t n (f_X4_pass t q C) R := by
  obtain ⟨⟨a1, a2, a3, a4, a5⟩, h2, h3, h4⟩ := h
  have f1 : (0 : Int32) ≤ C.1 t 4 := by rw [h2]; exact hf
  have ef : f_X4_pass t q C = zpI C t 3 (-1) := by
    unfold f_X4_pass f_X4_pass_39 f_X4_pass_54
    rw [if_pos f1, if_pos f1, if_pos f1]
  rw [ef]
  refine ⟨⟨?_, a2, a3, ?_, a5⟩, ?_, fun _ => zpI_at, fun z => absurd hf (Int32.not_le.mpr z)⟩
  · rw [zpI_off (by omega)]; exact a1
  · rw [zpI_ne.1 _ (by omega)]; exact a4
  · rw [zpI_off (by omega)]; exact h2
/-! the reference's small steps -/
theorem may_0 {R : zM} : zpI R 0 17 (R.1 0 17 + 0) = R := by
  refine Prod.ext ?_ rfl
  funext a b
  show (zpI R 0 17 (R.1 0 17 + 0)).1 a b = R.1 a b
  by_cases q : a = 0 ∧ b = 17
  · obtain ⟨rfl, rfl⟩ := q
    rw [zpI_at]; simp
  · exact zpI_off q
theorem may_19 {c : Int32} {R : zM} : f_X6_may_19 c R = (0, R) := by
  unfold f_X6_may_19 f_X6_may_20
  rw [if_pos rfl, may_0]
theorem may_dead {c : Int32} {R : zM} (hf : 0 ≤ R.1 0 18) : f_X6_may c R = (0, R) := by
  unfold f_X6_may
  rw [if_pos hf, may_19]
theorem may_miss {c : Int32} {R : zM} (h : f_X6_byteAt R ≠ c) : f_X6_may c R = (0, R) := by
  unfold f_X6_may
  simp only []
  split
  · exact may_19
  · exact may_19
theorem may_hit {c : Int32} {R : zM} (hf : R.1 0 18 < 0) (h : f_X6_byteAt R = c) : f_X6_may c R = (1, zpI R 0 17 (R.1 0 17 + 1)) := by
  unfold f_X6_may
  simp only []
  rw [if_neg (Int32.not_le.mpr hf), if_pos h]
  unfold f_X6_may_20
  rw [if_neg (by decide)]
theorem fails_dead {R : zM} (hf : 0 ≤ R.1 0 18) : f_X6_fails R = R := by
  unfold f_X6_fails
  rw [if_pos hf]
theorem fails_co {R : zM} : (f_X6_fails R).1 0 16 = R.1 0 16 ∧ (f_X6_fails R).1 10 = R.1 10 := by
  unfold f_X6_fails
  split
  · exact ⟨rfl, rfl⟩
  · exact ⟨zpI_off (by omega), zpI_ne.1 10 (by omega)⟩
theorem ps_must {t n : Nat} {C R : zM} {c : Int32} (h : zPi t n C R) (h0 : 0 ≤ c) : zPi t n (f_X4_pass t c C) (f_X6_must c R) ∧ ((f_X6_must c R).1 0 18 < 0 → R.1 0 18 < 0) ∧ (f_X6_must c R).1 0 16 = R.1 0 16 ∧ (f_X6_must c R).1 10 = R.1 10 := by
  unfold f_X6_must
  by_cases hf : R.1 0 18 < 0
  · by_cases hq : f_X6_byteAt R = c
    · rw [may_hit hf hq]
      simp only []
      rw [if_neg (by decide)]
      exact ⟨ps_hit h hf h0 hq, fun _ => hf, zpI_off (by omega), zpI_ne.1 10 (by omega)⟩
    · rw [may_miss hq]
      simp only []
      rw [if_pos trivial]
      exact ⟨(ps_miss h hf hq).1, fun _ => hf, fails_co.1, fails_co.2⟩
  · have hd := Int32.not_lt.mp hf
    rw [may_dead hd]
    simp only []
    rw [if_pos trivial, fails_dead hd]
    exact ⟨ps_dead h hd, fun z => z, rfl, rfl⟩
theorem op_dead {c : Int32} {R : zM} (hf : 0 ≤ R.1 0 18) : f_X6_opens c R = (0, R) := by
  unfold f_X6_opens
  rw [if_pos hf]
theorem op_miss {c : Int32} {R : zM} (h : f_X6_byteAt R ≠ c) : f_X6_opens c R = (0, R) := by
  unfold f_X6_opens
  simp only []
  split
  · rfl
  · rfl
theorem op_full {c : Int32} {R : zM} (hf : R.1 0 18 < 0) (h : f_X6_byteAt R = c) (ho : R.1 0 19 = 5) : f_X6_opens c R = (0, f_X6_fails R) := by
  unfold f_X6_opens
  simp only []
  rw [if_neg (Int32.not_le.mpr hf), if_pos h, if_pos ho]
theorem op_hit {c : Int32} {R : zM} (hf : R.1 0 18 < 0) (h : f_X6_byteAt R = c) (ho : ¬ R.1 0 19 = 5) : f_X6_opens c R = (1, zpI (zpI R 0 19 (R.1 0 19 + 1)) 0 17 ((zpI R 0 19 (R.1 0 19 + 1)).1 0 17 + 1)) := by
  unfold f_X6_opens
  simp only []
  rw [if_neg (Int32.not_le.mpr hf), if_pos h, if_neg ho]
