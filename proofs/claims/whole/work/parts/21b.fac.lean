/-! a factor, a product, a sum: the class's reading beside the reference's -/
def zSim (o : Int32) (Fc : Nat → Int32 → zM → Int32 × zM) (Fr : zM → zM) : Prop := ∀ (t n : Nat) (C R : zM), zPi t n C R → zPS 0 R → R.1 0 19 = o →
  zPi t n (Fc t o C).2 (Fr R) ∧ ((Fr R).1 0 18 < 0 → R.1 0 18 < 0 ∧ ∀ cs, zCo R cs → ∃ ks, zCo (Fr R) (cs ++ ks) ∧ ∀ (e : Nat → Int32), (∀ w, C.1 t (5 + w) = e w) → ∀ st, exL e ks st = some ((Fc t o C).1 :: st))
theorem zPS.c60 {j : Int} {M : zM} (h : zPS j M) : (M.1 0 16).toInt ≤ 60 := h.2.1
/-- digits -/
theorem num_eq {Fs Ff : Nat → Int32 → zM → Int32 × zM} {t n : Nat} {o : Int32} : ∀ (k i x : Nat) (C R : zM), i + k = 3 → x < 10 ^ i → zPi t n C R → R.1 0 18 < 0 →
    ∃ (y : Nat) (R' : zM), y < 1000 ∧ (f_X4_factor_22 Fs Ff t o (k + 1) (nI x) (nI i) C).1 = nI y ∧ f_X6_number_4 (k + 1) (nI x) (nI i) R = f_X6_emit (nI y) R' ∧ zPi t n (f_X4_factor_22 Fs Ff t o (k + 1) (nI x) (nI i) C).2 R' ∧ R'.1 0 18 < 0 ∧ R'.1 0 16 = R.1 0 16 ∧ R'.1 10 = R.1 10 := by
  have p10 : ∀ i, i ≤ 3 → 10 ^ i ≤ 1000 := by decide
  intro k
  induction k with
  | zero =>
    intro i x C R hik hx hP hf
    obtain rfl : i = 3 := by omega
    refine ⟨x, R, hx, ?_, ?_, ?_, hf, rfl, rfl⟩
    · unfold f_X4_factor_22
      rw [if_pos (show (3 : Int32) ≤ nI 3 by decide)]
    · unfold f_X6_number_4
      rw [if_pos (show (3 : Int32) ≤ nI 3 by decide)]
      rfl
    · unfold f_X4_factor_22
      rw [if_pos (show (3 : Int32) ≤ nI 3 by decide)]
      exact hP
  | succ k ih =>
    intro i x C R hik hx hP hf
    have hb := hP.bt hf
    have h3 : ¬ (3 : Int32) ≤ nI i := nI_ge (b := 3) (by omega) (by omega)
    have hx3 := p10 i (by omega)
    have e22 : f_X4_factor_22 Fs Ff t o (k + 1 + 1) (nI x) (nI i) C = if C.1 t 3 < 48 then (nI x, C) else if 57 < C.1 t 3 then (nI x, C) else f_X4_factor_22 Fs Ff t o (k + 1) (10 * nI x + C.1 t 3 - 48) (nI i + 1) (f_X4_pass t (C.1 t 3) C) := by
      rw [f_X4_factor_22, if_neg h3]
    have e4 : f_X6_number_4 (k + 1 + 1) (nI x) (nI i) R = if f_X6_isDigit (f_X6_byteAt R) = 0 then f_X6_emit (nI x) R else f_X6_number_4 (k + 1) (10 * nI x + f_X6_byteAt R - 48) (nI i + 1) (zpI R 0 17 (R.1 0 17 + 1)) := by
      rw [f_X6_number_4, if_neg h3]
      rfl
    rw [e22, e4, hb]
    by_cases q1 : f_X6_byteAt R < 48
    · have hd : f_X6_isDigit (f_X6_byteAt R) = 0 := by
        unfold f_X6_isDigit f_X6_in
        simp only []
        rw [if_pos q1]
      rw [if_pos q1, if_pos hd]
      exact ⟨x, R, by omega, rfl, rfl, hP, hf, rfl, rfl⟩
    · by_cases q2 : 57 < f_X6_byteAt R
      · have hd : f_X6_isDigit (f_X6_byteAt R) = 0 := by
          unfold f_X6_isDigit f_X6_in
          simp only []
          rw [if_neg q1, if_pos q2]
        rw [if_neg q1, if_pos q2, if_pos hd]
        exact ⟨x, R, by omega, rfl, rfl, hP, hf, rfl, rfl⟩
      · have hd : ¬ f_X6_isDigit (f_X6_byteAt R) = 0 := by
          unfold f_X6_isDigit f_X6_in
          simp only []
          rw [if_neg q1, if_neg q2]
          decide
        rw [if_neg q1, if_neg q2, if_neg hd]
        have hge := Int32.not_lt.mp q1
        have hle := Int32.not_lt.mp q2
        obtain ⟨s, hs, es⟩ := nI_of2 (x := f_X6_byteAt R) (M := 57) (n := 57) (by decide) (Int32.not_lt.mpr (Int32.le_trans (by decide) hge)) hle
        have h48 : 48 ≤ s := by
          have : nI 48 ≤ nI s := by rw [← es]; exact hge
          exact (nI_leI (by omega) (by omega)).mp this
        have hit := ps_hit hP hf (q := f_X6_byteAt R) (Int32.le_trans (by decide) hge) rfl
        have ev : 10 * nI x + f_X6_byteAt R - 48 = nI (10 * x + s - 48) := by
          rw [es, show (10 : Int32) = nI 10 from rfl, pk_mul, nI_add, show (48 : Int32) = nI 48 from rfl, pk_sub (by omega)]
        rw [ev, nI_1]
        have hp : 10 ^ (i + 1) = 10 * 10 ^ i := by rw [Nat.pow_succ, Nat.mul_comm]
        obtain ⟨y, R', k1, k2, k3, k4, k5, k6, k7⟩ := ih (i + 1) (10 * x + s - 48) (f_X4_pass t (f_X6_byteAt R) C) (zpI R 0 17 (R.1 0 17 + 1)) (by omega) (by omega) hit (by rw [zpI_off (by omega)]; exact hf)
        exact ⟨y, R', k1, k2, k3, k4, k5, k6.trans (zpI_off (by omega)), k7.trans (zpI_ne.1 10 (by omega))⟩
theorem nm_cases {b : Int32} (h : ¬ f_X6_nameOf b < 0) : b = 98 ∨ b = 100 ∨ b = 103 ∨ b = 107 ∨ b = 112 ∨ b = 115 := by
  unfold f_X6_nameOf at h
  by_cases q1 : b = 98
  · exact Or.inl q1
  by_cases q2 : b = 100
  · exact Or.inr (Or.inl q2)
  by_cases q3 : b = 103
  · exact Or.inr (Or.inr (Or.inl q3))
  by_cases q4 : b = 107
  · exact Or.inr (Or.inr (Or.inr (Or.inl q4)))
  by_cases q5 : b = 112
  · exact Or.inr (Or.inr (Or.inr (Or.inr (Or.inl q5))))
  by_cases q6 : b = 115
  · exact Or.inr (Or.inr (Or.inr (Or.inr (Or.inr q6))))
  rw [if_neg q1, if_neg q2, if_neg q3, if_neg q4, if_neg q5, if_neg q6] at h
  exact absurd (show (-1 : Int32) < 0 by decide) h
theorem nm_none {b : Int32} (h : f_X6_nameOf b < 0) : f_X4_isName b = 0 := by
  have k : ∀ q, b = q → 0 ≤ f_X6_nameOf q → False := fun q e z => absurd h (Int32.not_lt.mpr (by rw [e]; exact z))
  unfold f_X4_isName
  rw [if_neg (fun e => k 115 e (by decide)), if_neg (fun e => k 98 e (by decide)), if_neg (fun e => k 103 e (by decide)), if_neg (fun e => k 107 e (by decide)), if_neg (fun e => k 100 e (by decide)), if_neg (fun e => k 112 e (by decide))]
/-- a name: what the class reads is what its code gives -/
theorem nm_eq {t : Nat} {C : zM} {e : Nat → Int32} {b : Int32} (hb : b = 98 ∨ b = 100 ∨ b = 103 ∨ b = 107 ∨ b = 112 ∨ b = 115) (he : ∀ w, C.1 t (5 + w) = e w) (st : List Int32) : exC e (1000 + f_X6_nameOf b) st = some (f_X4_named t b C :: st) ∧ f_X4_isName b = 1 ∧ ¬ b = 45 ∧ ¬ b = 40 ∧ ¬ b = 91 ∧ 57 < b ∧ 0 ≤ b := by
  rcases hb with rfl | rfl | rfl | rfl | rfl | rfl
  · exact ⟨congrArg (fun x => some (x :: st)) (he 1).symm, by decide, by decide, by decide, by decide, by decide, by decide⟩
  · exact ⟨congrArg (fun x => some (x :: st)) (he 4).symm, by decide, by decide, by decide, by decide, by decide, by decide⟩
  · exact ⟨congrArg (fun x => some (x :: st)) (he 2).symm, by decide, by decide, by decide, by decide, by decide, by decide⟩
  · exact ⟨congrArg (fun x => some (x :: st)) (he 3).symm, by decide, by decide, by decide, by decide, by decide, by decide⟩
  · exact ⟨congrArg (fun x => some (x :: st)) (he 5).symm, by decide, by decide, by decide, by decide, by decide, by decide⟩
  · exact ⟨congrArg (fun x => some (x :: st)) (he 0).symm, by decide, by decide, by decide, by decide, by decide, by decide⟩
theorem f75_sub {Fs Ff : Nat → Int32 → zM → Int32 × zM} {t : Nat} {o b : Int32} {C : zM} (h : b = 45 ∨ b = 40 ∨ b = 91) : f_X4_factor_75 Fs Ff t o b C = f_X4_factor_93 Fs Ff t o b C := by
  unfold f_X4_factor_75
  rcases h with rfl | rfl | rfl
  · rw [if_pos rfl]
  · rw [if_neg (by decide), if_pos rfl]
  · rw [if_neg (by decide), if_neg (by decide), if_pos rfl]
theorem f75_nm {Fs Ff : Nat → Int32 → zM → Int32 × zM} {t : Nat} {o b : Int32} {C : zM} (h1 : ¬ b = 45) (h2 : ¬ b = 40) (h3 : ¬ b = 91) : f_X4_factor_75 Fs Ff t o b C = (f_X4_named t b C, f_X4_pass t (if f_X4_isName b = 0 then -2 else b) C) := by
  unfold f_X4_factor_75 f_X4_factor_197
  rw [if_neg h1, if_neg h2, if_neg h3]
  simp only []
  split <;> rfl
theorem fac_75 {Fs Ff : Nat → Int32 → zM → Int32 × zM} {t : Nat} {o : Int32} {C : zM} (h : C.1 t 3 < 48 ∨ 57 < C.1 t 3) : f_X4_factor Fs Ff t o C = f_X4_factor_75 Fs Ff t o (C.1 t 3) C := by
  unfold f_X4_factor
  simp only []
  by_cases q : C.1 t 3 < 48
  · rw [if_pos q]
  · rw [if_neg q, if_pos (h.resolve_left q)]
theorem ev_tf {t : Nat} {C C' : zM} {e : Nat → Int32} (h : zTf t C C') (he : ∀ w, C.1 t (5 + w) = e w) : ∀ w, C'.1 t (5 + w) = e w := fun w => (h.2.1 (5 + w) (by omega)).trans (he w)
/-- a bracket or a sign opened: the places behind it -/
theorem op_next {t n : Nat} {C R : zM} {q : Int32} {j : Nat} (h : zPi t n C R) (hf : R.1 0 18 < 0) (h0 : 0 ≤ q) (hq : f_X6_byteAt R = q) (ho : R.1 0 19 = nI j) (hS : zPS 0 R) :
    zPi t n (f_X4_pass t q C) (zpI (zpI R 0 19 (R.1 0 19 + 1)) 0 17 ((zpI R 0 19 (R.1 0 19 + 1)).1 0 17 + 1)) ∧ zPS 1 (zpI (zpI R 0 19 (R.1 0 19 + 1)) 0 17 ((zpI R 0 19 (R.1 0 19 + 1)).1 0 17 + 1)) ∧ (zpI (zpI R 0 19 (R.1 0 19 + 1)) 0 17 ((zpI R 0 19 (R.1 0 19 + 1)).1 0 17 + 1)).1 0 19 = nI (j + 1) ∧
    (zpI (zpI R 0 19 (R.1 0 19 + 1)) 0 17 ((zpI R 0 19 (R.1 0 19 + 1)).1 0 17 + 1)).1 0 18 = R.1 0 18 ∧ (zpI (zpI R 0 19 (R.1 0 19 + 1)) 0 17 ((zpI R 0 19 (R.1 0 19 + 1)).1 0 17 + 1)).1 0 16 = R.1 0 16 ∧ (zpI (zpI R 0 19 (R.1 0 19 + 1)) 0 17 ((zpI R 0 19 (R.1 0 19 + 1)).1 0 17 + 1)).1 10 = R.1 10 := by
  have hl := ba_X6 hq h0
  have e17 : (zpI R 0 19 (R.1 0 19 + 1)).1 0 17 = R.1 0 17 := zpI_off (by omega)
  have hS2 : zPS 0 (zpI R 0 19 (R.1 0 19 + 1)) := by
    obtain ⟨t5, t16, t17, t18, t19⟩ := q19 (M := R) (x := R.1 0 19 + 1)
    unfold zPS
    rw [t5, t16, t17, t18]
    exact hS
  have k := l_step hS2 (by rw [e17, zpI_off (by omega)]; exact hl)
  have hh := ps_hit h hf h0 hq
  refine ⟨hh.cg ?_ ?_ ?_ ?_, k.1, ?_, ?_, ?_, ?_⟩
  · rw [zpI_off (by omega), zpI_off (by omega), zpI_off (by omega)]
  · rw [zpI_at, e17, zpI_at]
  · rw [zpI_off (by omega), zpI_off (by omega), zpI_off (by omega)]
  · rw [zpI_ne.1 4 (by omega), zpI_ne.1 4 (by omega), zpI_ne.1 4 (by omega)]
  · rw [zpI_off (by omega), zpI_at, ho, nI_1]
  · rw [zpI_off (by omega), zpI_off (by omega)]
  · rw [zpI_off (by omega), zpI_off (by omega)]
  · rw [zpI_ne.1 10 (by omega), zpI_ne.1 10 (by omega)]
theorem cl_pi {t n : Nat} {C R : zM} {x : Int32} (h : zPi t n C R) : zPi t n C (zpI R 0 19 x) ∧ (zpI R 0 19 x).1 0 18 = R.1 0 18 ∧ (zpI R 0 19 x).1 0 16 = R.1 0 16 ∧ (zpI R 0 19 x).1 10 = R.1 10 :=
  ⟨h.cg (zpI_off (by omega)) (zpI_off (by omega)) (zpI_off (by omega)) (zpI_ne.1 4 (by omega)), zpI_off (by omega), zpI_off (by omega), zpI_ne.1 10 (by omega)⟩
theorem sim_fac {j : Nat} (hj : j ≤ 5) {Fs Ff : Nat → Int32 → zM → Int32 × zM} {Rs Rf : zM → zM} (hs : j < 5 → zSim (nI (j + 1)) Fs Rs) (hf : j < 5 → zSim (nI (j + 1)) Ff Rf) (ps : zPr Rs) (pf : zPr Rf) (ts : zTfF Fs) (tf : zTfF Ff) : zSim (nI j) (f_X4_factor Fs Ff) (f_X6_factor Rs Rf) := by
  intro t n C R hP hS ho
  by_cases hfl : R.1 0 18 < 0
  rotate_left
  · have hd := Int32.not_lt.mp hfl
    have er : f_X6_factor Rs Rf R = R := by
      unfold f_X6_factor
      rw [if_neg hfl]
    have h3 : C.1 t 3 = -1 := hP.2.2.1 hd
    rw [er]
    refine ⟨?_, fun z => absurd z hfl⟩
    rw [fac_75 (Or.inl (by rw [h3]; decide)), h3, f75_nm (by decide) (by decide) (by decide)]
    exact ps_dead hP hd
  have hb := hP.bt hfl
  have hba := hP.ba hfl
  have er : f_X6_factor Rs Rf R = if f_X6_isDigit (f_X6_byteAt R) = 0 then (if f_X6_nameOf (f_X6_byteAt R) < 0 then (let x10 : Int32 × zM := f_X6_opens 45 R; if x10.1 = 0 then (let x13 : Int32 × zM := f_X6_opens 40 x10.2; if x13.1 = 0 then (let x16 : Int32 × zM := f_X6_opens 91 x13.2; if x16.1 = 0 then f_X6_fails x16.2 else zpI (f_X6_emit 2005 (f_X6_must 93 (Rs (f_X6_must 44 (Rs x16.2))))) 0 19 ((f_X6_emit 2005 (f_X6_must 93 (Rs (f_X6_must 44 (Rs x16.2))))).1 0 19 - 1)) else zpI (f_X6_must 41 (Rs x13.2)) 0 19 ((f_X6_must 41 (Rs x13.2)).1 0 19 - 1)) else zpI (f_X6_emit 2004 (Rf x10.2)) 0 19 ((f_X6_emit 2004 (Rf x10.2)).1 0 19 - 1)) else zpI (f_X6_emit (1000 + f_X6_nameOf (f_X6_byteAt R)) R) 0 17 ((f_X6_emit (1000 + f_X6_nameOf (f_X6_byteAt R)) R).1 0 17 + 1)) else f_X6_number R := by
    unfold f_X6_factor
    rw [if_pos hfl]
  generalize hB : f_X6_byteAt R = b at hb hba er
  by_cases hdg : f_X6_isDigit b = 0
  rotate_left
  · -- a number
    have hi := in_X6 (v := b) (a := 48) (b := 57) (by unfold f_X6_isDigit at hdg; exact hdg)
    have ec : f_X4_factor Fs Ff t (nI j) C = f_X4_factor_22 Fs Ff t (nI j) (3 + 1) (nI 0) (nI 0) C := by
      unfold f_X4_factor
      simp only []
      rw [hb, if_neg (Int32.not_lt.mpr hi.1), if_neg (Int32.not_lt.mpr hi.2)]
      rfl
    obtain ⟨y, R', k1, k2, k3, k4, k5, k6, k7⟩ := num_eq (Fs := Fs) (Ff := Ff) (o := nI j) 3 0 0 C R rfl (by decide) hP hfl
    rw [er, if_neg hdg, ec]
    have en : f_X6_number R = f_X6_emit (nI y) R' := k3
    rw [en]
    have he := em_f (v := nI y) (R := R')
    refine ⟨k4.cg he.2.1 he.2.2.1 he.1 he.2.2.2, fun _ => ⟨hfl, fun cs hc => ⟨[nI y], co_emit (hc.cg k6 k7) k5 (by rw [k6]; exact hS.c60), fun e _ st => ?_⟩⟩⟩
    rw [exL_one, k2]
    unfold exC
    rw [if_neg (show ¬ (2000 : Int32) ≤ nI y from nI_ge (b := 2000) (by omega) (by omega)), if_neg (show ¬ (1000 : Int32) ≤ nI y from nI_ge (b := 1000) (by omega) (by omega))]
  have h75 : b < 48 ∨ 57 < b := by
    unfold f_X6_isDigit f_X6_in at hdg
    simp only [] at hdg
    by_cases q : b < 48
    · exact Or.inl q
    · by_cases q2 : 57 < b
      · exact Or.inr q2
      · rw [if_neg q, if_neg q2] at hdg
        exact absurd hdg (by decide)
  have ec : f_X4_factor Fs Ff t (nI j) C = f_X4_factor_75 Fs Ff t (nI j) b C := by
    have h9 := fac_75 (Fs := Fs) (Ff := Ff) (t := t) (o := nI j) (C := C) (by rw [hb]; exact h75)
    rw [hb] at h9
    exact h9
  rw [er, if_pos hdg, ec]
  clear er ec
  by_cases hnm : f_X6_nameOf b < 0
  rotate_left
  · -- a name
    have hc := nm_cases hnm
    obtain ⟨-, n2, n3, n4, n5, n6, n7⟩ := nm_eq (t := t) (C := C) (e := fun w => C.1 t (5 + w)) hc (fun _ => rfl) []
    rw [if_neg hnm, f75_nm n3 n4 n5, n2, if_neg (by decide)]
    have hh := ps_hit hP hfl n7 hB
    have he := em_f (v := 1000 + f_X6_nameOf b) (R := R)
    refine ⟨hh.cg ?_ ?_ ?_ ?_, fun _ => ⟨hfl, fun cs hc2 => ⟨[1000 + f_X6_nameOf b], (co_emit hc2 hfl hS.c60).cg (zpI_off (by omega)) (zpI_ne.1 10 (by omega)), fun e hev st => ?_⟩⟩⟩
    · rw [zpI_off (by omega), zpI_off (by omega)]; exact he.2.1
    · rw [zpI_at, zpI_at, he.2.2.1]
    · rw [zpI_off (by omega), zpI_off (by omega)]; exact he.1
    · rw [zpI_ne.1 4 (by omega), zpI_ne.1 4 (by omega)]; exact he.2.2.2
    · rw [exL_one]
      exact (nm_eq hc hev st).1
  rw [if_pos hnm]
  have h5 : (R.1 0 19 = 5) ↔ j = 5 := by rw [ho]; exact nI_eq (b := 5) (by omega) (by omega)
  have h93 : ∀ b', (if nI j < 5 then (1 : Int32) else 0) = b' → (b' = 1 ↔ j < 5) := by
    intro b' hb'
    by_cases q : j < 5
    · rw [if_pos (show nI j < (5 : Int32) from nI_lt (b := 5) q (by omega))] at hb'
      exact ⟨fun _ => q, fun _ => hb'.symm⟩
    · rw [if_neg (show ¬ nI j < (5 : Int32) from nI_nlt (b := 5) (by omega) (by omega))] at hb'
      exact ⟨fun z => absurd (hb'.trans z) (by decide), fun z => absurd z q⟩
  have full : j = 5 → f_X4_factor_93 Fs Ff t (nI j) b C = (0, f_X4_pass t (-2) C) := by
    intro q
    unfold f_X4_factor_93
    rw [if_neg (show ¬ nI j < (5 : Int32) from nI_nlt (b := 5) (by omega) (by omega))]
  have hb2 : f_X6_byteAt R ≠ -2 := by
    rw [hB]
    rcases hba with q | q
    · rw [q]; decide
    · intro z; rw [z] at q; exact absurd q (by decide)
  have dead : zPi t n (f_X4_pass t (-2) C) (f_X6_fails R) ∧ 0 ≤ (f_X6_fails R).1 0 18 := ps_miss hP hfl hb2
  by_cases q45 : b = 45
  · -- a sign
    subst q45
    rw [f75_sub (Or.inl rfl)]
    by_cases h5j : j = 5
    · rw [full h5j, op_full hfl hB (h5.mpr h5j)]
      simp only []
      rw [if_pos trivial, op_dead dead.2]
      simp only []
      rw [if_pos trivial, op_dead dead.2]
      simp only []
      rw [if_pos trivial, fails_dead dead.2]
      exact ⟨dead.1, fun z => absurd dead.2 (Int32.not_le.mpr z)⟩
    · have hj5 : j < 5 := by omega
      rw [op_hit hfl hB (fun z => h5j (h5.mp z))]
      obtain ⟨w1, w2, w3, w4, w5, w6⟩ := op_next hP hfl (by decide) hB ho hS
      generalize zpI (zpI R 0 19 (R.1 0 19 + 1)) 0 17 ((zpI R 0 19 (R.1 0 19 + 1)).1 0 17 + 1) = R1 at w1 w2 w3 w4 w5 w6
      simp only []
      rw [if_neg (by decide)]
      have ec : f_X4_factor_93 Fs Ff t (nI j) 45 C = (-(Ff t (nI (j + 1)) (f_X4_pass t 45 C)).1, (Ff t (nI (j + 1)) (f_X4_pass t 45 C)).2) := by
        unfold f_X4_factor_93
        rw [if_pos (show nI j < (5 : Int32) from nI_lt (b := 5) hj5 (by omega)), nI_1]
        rfl
      rw [ec]
      obtain ⟨s1, s2⟩ := hf hj5 t n (f_X4_pass t 45 C) R1 w1 (w2.weak (by omega)) w3
      have hpf := (pf R1 1 (by omega) w2).1
      have he := em_f (v := 2004) (R := Rf R1)
      have hcl := cl_pi (x := (f_X6_emit 2004 (Rf R1)).1 0 19 - 1) (s1.cg he.2.1 he.2.2.1 he.1 he.2.2.2)
      refine ⟨hcl.1, fun z => ?_⟩
      rw [hcl.2.1, he.1] at z
      obtain ⟨-, s4⟩ := s2 z
      refine ⟨hfl, fun cs hc => ?_⟩
      obtain ⟨ks, d1, d2⟩ := s4 cs (hc.cg w5 w6)
      refine ⟨ks ++ [2004], ?_, fun e hev st => ?_⟩
      · rw [← List.append_assoc]
        exact (co_emit d1 z hpf.c60).cg hcl.2.2.1 hcl.2.2.2
      · rw [exL_then (d2 e (ev_tf tf_pass hev) st), exL_one]
        rfl
  have n45 : f_X6_byteAt R ≠ 45 := by rw [hB]; exact q45
  rw [op_miss n45]
  simp only []
  rw [if_pos trivial]
  by_cases q40 : b = 40
  · subst q40
    rw [f75_sub (Or.inr (Or.inl rfl))]
    by_cases h5j : j = 5
    · rw [full h5j, op_full hfl hB (h5.mpr h5j)]
      simp only []
      rw [if_pos trivial, op_dead dead.2]
      simp only []
      rw [if_pos trivial, fails_dead dead.2]
      exact ⟨dead.1, fun z => absurd dead.2 (Int32.not_le.mpr z)⟩
    · have hj5 : j < 5 := by omega
      rw [op_hit hfl hB (fun z => h5j (h5.mp z))]
      obtain ⟨w1, w2, w3, w4, w5, w6⟩ := op_next hP hfl (by decide) hB ho hS
      generalize zpI (zpI R 0 19 (R.1 0 19 + 1)) 0 17 ((zpI R 0 19 (R.1 0 19 + 1)).1 0 17 + 1) = R1 at w1 w2 w3 w4 w5 w6
      simp only []
      rw [if_neg (by decide)]
      have ec : f_X4_factor_93 Fs Ff t (nI j) 40 C = ((Fs t (nI (j + 1)) (f_X4_pass t 40 C)).1, f_X4_pass t 41 (Fs t (nI (j + 1)) (f_X4_pass t 40 C)).2) := by
        unfold f_X4_factor_93
        rw [if_pos (show nI j < (5 : Int32) from nI_lt (b := 5) hj5 (by omega)), nI_1]
        simp only []
        rw [if_neg (by decide), if_neg (by decide)]
        rfl
      rw [ec]
      obtain ⟨s1, s2⟩ := hs hj5 t n (f_X4_pass t 40 C) R1 w1 (w2.weak (by omega)) w3
      obtain ⟨m1, m2, m3, m4⟩ := ps_must (c := 41) s1 (by decide)
      have hcl := cl_pi (x := (f_X6_must 41 (Rs R1)).1 0 19 - 1) m1
      refine ⟨hcl.1, fun z => ?_⟩
      rw [hcl.2.1] at z
      obtain ⟨-, s4⟩ := s2 (m2 z)
      refine ⟨hfl, fun cs hc => ?_⟩
      obtain ⟨ks, d1, d2⟩ := s4 cs (hc.cg w5 w6)
      exact ⟨ks, (d1.cg m3 m4).cg hcl.2.2.1 hcl.2.2.2, fun e hev st => d2 e (ev_tf tf_pass hev) st⟩
  have n40 : f_X6_byteAt R ≠ 40 := by rw [hB]; exact q40
  rw [op_miss n40]
  simp only []
  rw [if_pos trivial]
  by_cases q91 : b = 91
  · subst q91
    rw [f75_sub (Or.inr (Or.inr rfl))]
    by_cases h5j : j = 5
    · rw [full h5j, op_full hfl hB (h5.mpr h5j)]
      simp only []
      rw [if_pos trivial, fails_dead dead.2]
      exact ⟨dead.1, fun z => absurd dead.2 (Int32.not_le.mpr z)⟩
    · have hj5 : j < 5 := by omega
      rw [op_hit hfl hB (fun z => h5j (h5.mp z))]
      obtain ⟨w1, w2, w3, w4, w5, w6⟩ := op_next hP hfl (by decide) hB ho hS
      generalize zpI (zpI R 0 19 (R.1 0 19 + 1)) 0 17 ((zpI R 0 19 (R.1 0 19 + 1)).1 0 17 + 1) = R1 at w1 w2 w3 w4 w5 w6
      simp only []
      rw [if_neg (by decide)]
      have hts := ts t (nI (j + 1)) (f_X4_pass t 91 C)
      obtain ⟨s1, s2⟩ := hs hj5 t n (f_X4_pass t 91 C) R1 w1 (w2.weak (by omega)) w3
      have ps1 := ps R1 1 (by omega) w2
      generalize hX : Fs t (nI (j + 1)) (f_X4_pass t 91 C) = X at s1 s2 hts
      obtain ⟨m1, m2, m3, m4⟩ := ps_must (c := 44) s1 (by decide)
      have lm1 := l_must (c := 44) ps1.1 (by decide)
      have o2 : (f_X6_must 44 (Rs R1)).1 0 19 = nI (j + 1) := by rw [lm1.2.2.1, ps1.2.2.1]; exact w3
      obtain ⟨u1, u2⟩ := hs hj5 t n (f_X4_pass t 44 X.2) (f_X6_must 44 (Rs R1)) m1 (lm1.1.weak (by omega)) o2
      have ps2 := ps (f_X6_must 44 (Rs R1)) 1 (by omega) lm1.1
      generalize hY : Fs t (nI (j + 1)) (f_X4_pass t 44 X.2) = Y at u1 u2
      obtain ⟨v1, v2, v3, v4⟩ := ps_must (c := 93) u1 (by decide)
      have lm2 := l_must (c := 93) ps2.1 (by decide)
      have ec : f_X4_factor_93 Fs Ff t (nI j) 91 C = ((if X.1 < Y.1 then Y.1 else X.1), f_X4_pass t 93 Y.2) := by
        unfold f_X4_factor_93
        rw [if_pos (show nI j < (5 : Int32) from nI_lt (b := 5) hj5 (by omega)), nI_1]
        simp only []
        rw [if_neg (by decide), hX, if_pos trivial, hY]
        rfl
      rw [ec]
      have he := em_f (v := 2005) (R := f_X6_must 93 (Rs (f_X6_must 44 (Rs R1))))
      have hcl := cl_pi (x := (f_X6_emit 2005 (f_X6_must 93 (Rs (f_X6_must 44 (Rs R1))))).1 0 19 - 1) (v1.cg he.2.1 he.2.2.1 he.1 he.2.2.2)
      refine ⟨hcl.1, fun z => ?_⟩
      rw [hcl.2.1, he.1] at z
      obtain ⟨z2, u4⟩ := u2 (v2 z)
      obtain ⟨-, s4⟩ := s2 (m2 z2)
      refine ⟨hfl, fun cs hc => ?_⟩
      obtain ⟨ks, d1, d2⟩ := s4 cs (hc.cg w5 w6)
      obtain ⟨ls, f1, f2⟩ := u4 (cs ++ ks) (d1.cg m3 m4)
      refine ⟨ks ++ (ls ++ [2005]), ?_, fun e hev st => ?_⟩
      · have := (co_emit (f1.cg v3 v4) z lm2.1.c60).cg hcl.2.2.1 hcl.2.2.2
        rw [List.append_assoc, List.append_assoc] at this
        exact this
      · have he1 := ev_tf (tf_pass (q := 91)) hev
        have he2 := ev_tf (tf_pass (q := 44)) (ev_tf hts he1)
        rw [exL_then (d2 e he1 st), exL_then (f2 e he2 _), exL_one]
        show some (f_X6_greater X.1 Y.1 :: st) = _
        have : (if X.1 < Y.1 then Y.1 else X.1) = f_X6_greater X.1 Y.1 := zmx0
        rw [this]
  have n91 : f_X6_byteAt R ≠ 91 := by rw [hB]; exact q91
  rw [op_miss n91]
  simp only []
  rw [if_pos trivial, f75_nm q45 q40 q91, nm_none hnm, if_pos rfl]
  exact ⟨dead.1, fun z => absurd dead.2 (Int32.not_le.mpr z)⟩
