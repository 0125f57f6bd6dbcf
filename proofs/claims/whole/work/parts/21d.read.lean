/-! the whole reading -/
theorem sim_gfac : ∀ d : Nat, d ≤ 5 → zSim (nI (5 - d)) (g_X4_fac d) (g_X6_fac d) := by
  intro d
  induction d with
  | zero =>
    intro _
    exact sim_fac (j := 5) (by omega) (fun h => absurd h (by omega)) (fun h => absurd h (by omega)) zPr_id zPr_id (fun _ _ _ => zTf.rf) (fun _ _ _ => zTf.rf)
  | succ d ih =>
    intro hd
    have h1 := ih (by omega)
    have e : 5 - d = (5 - (d + 1)) + 1 := by omega
    rw [e] at h1
    exact sim_fac (j := 5 - (d + 1)) (by omega) (fun _ => sim_sum (sim_prod h1 (zPr_fac d) (tf_gfac d)) (zPr_term d) (tf_prod (tf_gfac d))) (fun _ => h1) (zPr_sum d) (zPr_fac d) (tf_gsum d) (tf_gfac d)
theorem sim_gsum : zSim 0 (g_X4_sum 5) (g_X6_sum 5) := sim_sum (sim_prod (sim_gfac 5 (by omega)) (zPr_fac 5) (tf_gfac 5)) (zPr_term 5) (tf_prod (tf_gfac 5))
def lwI (R : zM) : zM := zpI (zpI (zpI (zpI R 0 16 0) 0 17 0) 0 18 (-1)) 0 19 0
def lwR (R : zM) : zM := if 0 ≤ (g_X6_sum 5 (lwI R)).1 0 18 then g_X6_sum 5 (lwI R) else if (g_X6_sum 5 (lwI R)).1 0 5 ≤ (g_X6_sum 5 (lwI R)).1 0 17 then g_X6_sum 5 (lwI R) else f_X6_fails (g_X6_sum 5 (lwI R))
theorem law_lwR {R : zM} : f_X6_law R = f_X6_law_46 (lwR R) := by
  unfold f_X6_law lwR lwI
  simp only []
  generalize g_X6_sum 5 (zpI (zpI (zpI (zpI R 0 16 0) 0 17 0) 0 18 (-1)) 0 19 0) = Y
  split
  · rfl
  · split <;> rfl
theorem co_uniq {R : zM} {a b : List Int32} (ha : zCo R a) (hb : zCo R b) : a = b := by
  have hl : a.length = b.length := by
    have h1 := ha.1
    have h2 := hb.1
    omega
  apply List.ext_getElem?
  intro i
  by_cases q : i < a.length
  · rw [ha.2 i q, hb.2 i (by omega)]
  · rw [List.getElem?_eq_none (by omega), List.getElem?_eq_none (by omega)]
theorem read_eq {t n : Nat} {C R : zM} (h : zTb t n C R) : (f_X4_readAll t C).2.1 t 4 = (lwR R).1 0 18 ∧ ((lwR R).1 0 18 < 0 → ∃ ks, zCo (lwR R) ks ∧ ∀ e : Nat → Int32, (∀ w, C.1 t (5 + w) = e w) → exL e ks [] = some [(f_X4_readAll t C).1]) := by
  obtain ⟨a1, a2, a3, a4, a5⟩ := id h
  have ht : 0 ≤ R.1 0 5 ∧ R.1 0 5 ≤ 60 := by
    rw [a2]
    exact ⟨nI_pos' (by omega), nI_le (b := 60) a3 (by omega)⟩
  have hS : zPS 0 (lwI R) := ps_init ht
  have i19 : (lwI R).1 0 19 = 0 := zpI_at
  have i18 : (lwI R).1 0 18 = -1 := (zpI_off (by omega)).trans zpI_at
  have i17 : (lwI R).1 0 17 = 0 := (zpI_off (by omega)).trans ((zpI_off (by omega)).trans zpI_at)
  have i16 : (lwI R).1 0 16 = 0 := (zpI_off (by omega)).trans ((zpI_off (by omega)).trans ((zpI_off (by omega)).trans zpI_at))
  have i5 : (lwI R).1 0 5 = nI n := (zpI_off (by omega)).trans ((zpI_off (by omega)).trans ((zpI_off (by omega)).trans ((zpI_off (by omega)).trans a2)))
  have i4 : (lwI R).1 4 = R.1 4 := (zpI_ne.1 4 (by omega)).trans ((zpI_ne.1 4 (by omega)).trans ((zpI_ne.1 4 (by omega)).trans (zpI_ne.1 4 (by omega))))
  have hco : zCo (lwI R) [] := ⟨by rw [i16]; rfl, fun i hi => absurd hi (Nat.not_lt_zero i)⟩
  have rest : ∀ s0 : Int32, s0 = (if n ≤ 0 then -1 else R.1 4 0) → f_X4_readAll t C = f_X4_readAll_28 t s0 (zpI (zpI C t 2 0) t 4 (-1)) → (f_X4_readAll t C).2.1 t 4 = (lwR R).1 0 18 ∧ ((lwR R).1 0 18 < 0 → ∃ ks, zCo (lwR R) ks ∧ ∀ e : Nat → Int32, (∀ w, C.1 t (5 + w) = e w) → exL e ks [] = some [(f_X4_readAll t C).1]) := by
    intro s0 hs0 her
    have hP : zPi t n (zpI (zpI (zpI C t 2 0) t 4 (-1)) t 3 s0) (lwI R) := by
      refine ⟨⟨?_, i5, a3, ?_, ?_⟩, ?_, ?_, fun _ => ⟨0, Nat.zero_le _, ?_, i17, ?_⟩⟩
      · rw [zpI_off (by omega), zpI_off (by omega), zpI_off (by omega)]; exact a1
      · rw [zpI_ne.1 _ (by omega), zpI_ne.1 _ (by omega), zpI_ne.1 _ (by omega), i4]; exact a4
      · rw [i4]; exact a5
      · rw [zpI_off (by omega), zpI_at, i18]
      · rw [i18]; intro z; exact absurd z (by decide)
      · rw [zpI_off (by omega), zpI_off (by omega), zpI_at]; rfl
      · rw [zpI_at, hs0, ba_eq i5 (a := 0) i17 a3 (Nat.zero_le _), i4]
    obtain ⟨s1, s2⟩ := sim_gsum t n _ (lwI R) hP hS i19
    have e28 : f_X4_readAll_28 t s0 (zpI (zpI C t 2 0) t 4 (-1)) = (if 0 ≤ (g_X4_sum 5 t 0 (zpI (zpI (zpI C t 2 0) t 4 (-1)) t 3 s0)).2.1 t 4 then ((g_X4_sum 5 t 0 (zpI (zpI (zpI C t 2 0) t 4 (-1)) t 3 s0)).1, (g_X4_sum 5 t 0 (zpI (zpI (zpI C t 2 0) t 4 (-1)) t 3 s0)).2) else if (g_X4_sum 5 t 0 (zpI (zpI (zpI C t 2 0) t 4 (-1)) t 3 s0)).2.1 t 1 ≤ (g_X4_sum 5 t 0 (zpI (zpI (zpI C t 2 0) t 4 (-1)) t 3 s0)).2.1 t 2 then ((g_X4_sum 5 t 0 (zpI (zpI (zpI C t 2 0) t 4 (-1)) t 3 s0)).1, (g_X4_sum 5 t 0 (zpI (zpI (zpI C t 2 0) t 4 (-1)) t 3 s0)).2) else ((g_X4_sum 5 t 0 (zpI (zpI (zpI C t 2 0) t 4 (-1)) t 3 s0)).1, zpI (g_X4_sum 5 t 0 (zpI (zpI (zpI C t 2 0) t 4 (-1)) t 3 s0)).2 t 4 ((g_X4_sum 5 t 0 (zpI (zpI (zpI C t 2 0) t 4 (-1)) t 3 s0)).2.1 t 2))) := rfl
    have hev : ∀ e : Nat → Int32, (∀ w, C.1 t (5 + w) = e w) → ∀ w, (zpI (zpI (zpI C t 2 0) t 4 (-1)) t 3 s0).1 t (5 + w) = e w := fun e he w => by
      rw [zpI_off (by omega), zpI_off (by omega), zpI_off (by omega)]; exact he w
    rw [her, e28]
    unfold lwR
    generalize g_X4_sum 5 t 0 (zpI (zpI (zpI C t 2 0) t 4 (-1)) t 3 s0) = X at s1 s2 ⊢
    generalize g_X6_sum 5 (lwI R) = Y at s1 s2 ⊢
    have hc4 := s1.2.1
    by_cases hf : Y.1 0 18 < 0
    · have n1 : ¬ 0 ≤ Y.1 0 18 := Int32.not_le.mpr hf
      have n2 : ¬ 0 ≤ X.2.1 t 4 := by rw [hc4]; exact n1
      obtain ⟨a, k1, k2, k3, k4⟩ := s1.2.2.2 hf
      rw [if_neg n1, if_neg n2, k2, s1.1.1, k3, s1.1.2.1]
      obtain ⟨-, s3⟩ := s2 hf
      obtain ⟨ks, d1, d2⟩ := s3 [] hco
      by_cases q : n ≤ a
      · rw [if_pos (nI_le q (by omega)), if_pos (nI_le q (by omega))]
        refine ⟨hc4, fun _ => ⟨ks, d1, fun e he => d2 e (hev e he) []⟩⟩
      · rw [if_neg (nI_ge (by omega) (by omega)), if_neg (nI_ge (by omega) (by omega))]
        have ef : f_X6_fails Y = zpI Y 0 18 (nI a) := by
          unfold f_X6_fails
          rw [if_neg n1, k3]
        rw [ef, zpI_at (M := X.2)]
        refine ⟨(zpI_at (M := Y) (c := 0) (k := 18)).symm, fun z => absurd (nI_pos' (n := a) (by omega)) (Int32.not_le.mpr z)⟩
    · have n1 : 0 ≤ Y.1 0 18 := Int32.not_lt.mp hf
      have n2 : 0 ≤ X.2.1 t 4 := by rw [hc4]; exact n1
      rw [if_pos n1, if_pos n2]
      exact ⟨hc4, fun z => absurd z hf⟩
  have hr : f_X4_readAll t C = (if (zpI (zpI C t 2 0) t 4 (-1)).1 t 1 ≤ 0 then f_X4_readAll_28 t (-1) (zpI (zpI C t 2 0) t 4 (-1)) else f_X4_readAll_28 t ((zpI (zpI C t 2 0) t 4 (-1)).1 (t + 1) 0) (zpI (zpI C t 2 0) t 4 (-1))) := rfl
  have g1 : (zpI (zpI C t 2 0) t 4 (-1)).1 t 1 = nI n := (zpI_off (by omega)).trans ((zpI_off (by omega)).trans a1)
  have gb : (zpI (zpI C t 2 0) t 4 (-1)).1 (t + 1) 0 = C.1 (t + 1) 0 := (zpI_off (by omega)).trans (zpI_off (by omega))
  rw [g1, gb] at hr
  by_cases q : n ≤ 0
  · rw [if_pos (show nI n ≤ (0 : Int32) from nI_le (b := 0) q (by omega))] at hr
    exact rest (-1) (by rw [if_pos q]) hr
  · rw [if_neg (show ¬ nI n ≤ (0 : Int32) from nI_nle (by omega) (by omega))] at hr
    exact rest _ (by rw [if_neg q]; exact a4 0 (by omega)) hr
