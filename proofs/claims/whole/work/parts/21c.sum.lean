theorem done_by {a b : Int32} : f_X6_done 2003 a b = if b = 0 then 0 else a / b := by
  unfold f_X6_done
  rw [if_neg (by decide), if_neg (by decide), if_neg (by decide), if_pos rfl]
  by_cases q : b = 0
  · rw [if_pos q, if_pos q]
  · rw [if_neg q, if_neg q]
    by_cases q1 : b = -1
    · rw [if_pos q1, q1, zdiv1]
    · rw [if_neg q1]
theorem term6_0 {F : zM → zM} {R : zM} : ∀ n : Nat, f_X6_term_6 F n 0 R = R := by
  intro n
  cases n with
  | zero => rfl
  | succ n => rw [f_X6_term_6, if_pos rfl]
theorem sum6_0 {F : zM → zM} {R : zM} : ∀ n : Nat, f_X6_sum_6 F n 0 R = R := by
  intro n
  cases n with
  | zero => rfl
  | succ n => rw [f_X6_sum_6, if_pos rfl]
/-- the signs of a product -/
theorem prod_loop {o : Int32} {Ff : Nat → Int32 → zM → Int32 × zM} {Rf : zM → zM} (hf : zSim o Ff Rf) (pf : zPr Rf) (tf : zTfF Ff) : ∀ (k i t n : Nat) (v : Int32) (C R : zM), i + k = 60 → zPi t n C R → zPS 0 R → R.1 0 19 = o → (R.1 0 18 < 0 → (i : Int) ≤ (R.1 0 17).toInt) →
    zPi t n (f_X4_product_8 Ff t o (k + 1) v (nI i) C).2 (f_X6_term_6 Rf (k + 3) 1 R) ∧ ((f_X6_term_6 Rf (k + 3) 1 R).1 0 18 < 0 → R.1 0 18 < 0 ∧ ∀ cs, zCo R cs → ∃ ks, zCo (f_X6_term_6 Rf (k + 3) 1 R) (cs ++ ks) ∧ ∀ (e : Nat → Int32), (∀ w, C.1 t (5 + w) = e w) → ∀ st, exL e ks (v :: st) = some ((f_X4_product_8 Ff t o (k + 1) v (nI i) C).1 :: st)) := by
  intro k
  induction k with
  | zero =>
    intro i t n v C R hik hP hS ho hi
    obtain rfl : i = 60 := by omega
    have ec : f_X4_product_8 Ff t o (0 + 1) v (nI 60) C = (v, C) := by
      rw [f_X4_product_8, if_pos (show (60 : Int32) ≤ nI 60 by decide)]
    have em : ∀ c, 0 ≤ c → f_X6_may c R = (0, R) := by
      intro c hc
      by_cases hf0 : R.1 0 18 < 0
      · refine may_miss ?_
        obtain ⟨a, h1, h2, h3, h4⟩ := hP.2.2.2 hf0
        have h5 := hi hf0
        have h6 := hP.1.2.2.1
        rw [h3, nI_toInt (by omega)] at h5
        rw [ba_eq hP.1.2.1 h3 h6 h1, if_pos (by omega)]
        intro z
        rw [← z] at hc
        exact absurd hc (by decide)
      · exact may_dead (Int32.not_lt.mp hf0)
    have er : f_X6_term_6 Rf (0 + 3) 1 R = R := by
      rw [f_X6_term_6, if_neg (by decide), em 42 (by decide)]
      simp only []
      rw [if_pos trivial, em 47 (by decide)]
      simp only []
      rw [if_pos trivial]
      unfold f_X6_term_41 f_X6_term_51
      rw [if_pos (by decide), if_pos rfl]
      exact term6_0 _
    rw [ec, er]
    exact ⟨hP, fun z => ⟨z, fun cs hc => ⟨[], by rw [List.append_nil]; exact hc, fun e _ st => rfl⟩⟩⟩
  | succ k ih =>
    intro i t n v C R hik hP hS ho hi
    have ec : f_X4_product_8 Ff t o (k + 1 + 1) v (nI i) C = if C.1 t 3 = 42 then f_X4_product_32 Ff t o (fun wv2 wv3 wmm => f_X4_product_8 Ff t o (k + 1) wv2 wv3 wmm) v (nI i) C else if C.1 t 3 = 47 then f_X4_product_32 Ff t o (fun wv2 wv3 wmm => f_X4_product_8 Ff t o (k + 1) wv2 wv3 wmm) v (nI i) C else (v, C) := by
      rw [f_X4_product_8, if_neg (show ¬ (60 : Int32) ≤ nI i from nI_ge (b := 60) (by omega) (by omega))]
    have stop : (f_X6_may 42 R = (0, R) ∧ f_X6_may 47 R = (0, R)) → ¬ C.1 t 3 = 42 → ¬ C.1 t 3 = 47 → _ := fun hm n1 n2 => by
      have er : f_X6_term_6 Rf (k + 1 + 3) 1 R = R := by
        rw [f_X6_term_6, if_neg (by decide), hm.1]
        simp only []
        rw [if_pos trivial, hm.2]
        simp only []
        rw [if_pos trivial]
        unfold f_X6_term_41 f_X6_term_51
        rw [if_pos (by decide), if_pos rfl]
        exact term6_0 _
      show zPi t n (f_X4_product_8 Ff t o (k + 1 + 1) v (nI i) C).2 (f_X6_term_6 Rf (k + 1 + 3) 1 R) ∧ ((f_X6_term_6 Rf (k + 1 + 3) 1 R).1 0 18 < 0 → R.1 0 18 < 0 ∧ ∀ cs, zCo R cs → ∃ ks, zCo (f_X6_term_6 Rf (k + 1 + 3) 1 R) (cs ++ ks) ∧ ∀ (e : Nat → Int32), (∀ w, C.1 t (5 + w) = e w) → ∀ st, exL e ks (v :: st) = some ((f_X4_product_8 Ff t o (k + 1 + 1) v (nI i) C).1 :: st))
      rw [ec, er, if_neg n1, if_neg n2]
      exact ⟨hP, fun z => ⟨z, fun cs hc => ⟨[], by rw [List.append_nil]; exact hc, fun e _ st => rfl⟩⟩⟩
    by_cases hf0 : R.1 0 18 < 0
    rotate_left
    · have hd := Int32.not_lt.mp hf0
      have h3 : C.1 t 3 = -1 := hP.2.2.1 hd
      exact stop ⟨may_dead hd, may_dead hd⟩ (by rw [h3]; decide) (by rw [h3]; decide)
    have hb := hP.bt hf0
    have go : ∀ (b does : Int32) (op : Int32 → Int32 → Int32), (b = 42 ∨ b = 47) → f_X6_byteAt R = b → 0 ≤ b → ¬ does < 0 → f_X6_term_6 Rf (k + 1 + 3) 1 R = f_X6_term_41 Rf (fun wv1 wmm => f_X6_term_6 Rf (k + 3) wv1 wmm) does (zpI R 0 17 (R.1 0 17 + 1)) → (∀ x A, f_X4_product_32 Ff t o (fun wv2 wv3 wmm => f_X4_product_8 Ff t o (k + 1) wv2 wv3 wmm) v (nI i) C = f_X4_product_8 Ff t o (k + 1) (op v x) (nI i + 1) A ∨ ¬ Ff t o (f_X4_pass t b C) = (x, A)) → (∀ e x st, exC e does (x :: v :: st) = some (op v x :: st)) → _ := fun b does op hb2 hB h0 hdo her hec hev => by
      show zPi t n (f_X4_product_8 Ff t o (k + 1 + 1) v (nI i) C).2 (f_X6_term_6 Rf (k + 1 + 3) 1 R) ∧ ((f_X6_term_6 Rf (k + 1 + 3) 1 R).1 0 18 < 0 → R.1 0 18 < 0 ∧ ∀ cs, zCo R cs → ∃ ks, zCo (f_X6_term_6 Rf (k + 1 + 3) 1 R) (cs ++ ks) ∧ ∀ (e : Nat → Int32), (∀ w, C.1 t (5 + w) = e w) → ∀ st, exL e ks (v :: st) = some ((f_X4_product_8 Ff t o (k + 1 + 1) v (nI i) C).1 :: st))
      have hl := ba_X6 hB h0
      have hs := l_step hS hl
      have hh := ps_hit hP hf0 h0 hB
      have htf := tf t o (f_X4_pass t b C)
      obtain ⟨s1, s2⟩ := hf t n (f_X4_pass t b C) _ hh (hs.1.weak (by omega)) (hs.2.1.2.1.trans ho)
      have pr := pf _ 1 (by omega) hs.1
      have e2 : f_X4_product_8 Ff t o (k + 1 + 1) v (nI i) C = f_X4_product_8 Ff t o (k + 1) (op v (Ff t o (f_X4_pass t b C)).1) (nI (i + 1)) (Ff t o (f_X4_pass t b C)).2 := by
        rw [ec, hb, hB]
        have h7 := (hec (Ff t o (f_X4_pass t b C)).1 (Ff t o (f_X4_pass t b C)).2).resolve_right (fun z => z rfl)
        rw [nI_1] at h7
        rcases hb2 with q | q
        · rw [if_pos q]; exact h7
        · rw [if_neg (by rw [q]; decide), if_pos q]; exact h7
      have e3 : f_X6_term_6 Rf (k + 1 + 3) 1 R = f_X6_term_6 Rf (k + 3) 1 (f_X6_emit does (Rf (zpI R 0 17 (R.1 0 17 + 1)))) := by
        rw [her]
        unfold f_X6_term_41 f_X6_term_51
        rw [if_neg hdo, if_neg (by decide)]
      rw [e2, e3]
      have he := em_f (v := does) (R := Rf (zpI R 0 17 (R.1 0 17 + 1)))
      have hle := l_emit (v := does) pr.1 (Int.le_refl 0)
      have hl17 : ((f_X6_emit does (Rf (zpI R 0 17 (R.1 0 17 + 1)))).1 0 18 < 0 → ((i + 1 : Nat) : Int) ≤ ((f_X6_emit does (Rf (zpI R 0 17 (R.1 0 17 + 1)))).1 0 17).toInt) := by
        intro _
        have := hi hf0
        have h8 := hle.2.1
        have h9 := pr.2.1
        have h10 := hs.2.2
        omega
      obtain ⟨r1, r2⟩ := ih (i + 1) t n (op v (Ff t o (f_X4_pass t b C)).1) (Ff t o (f_X4_pass t b C)).2 _ (by omega) (s1.cg he.2.1 he.2.2.1 he.1 he.2.2.2) hle.1 (by rw [hle.2.2.1, pr.2.2.1, hs.2.1.2.1]; exact ho) hl17
      refine ⟨r1, fun z => ?_⟩
      obtain ⟨z1, r3⟩ := r2 z
      rw [he.1] at z1
      obtain ⟨-, s4⟩ := s2 z1
      refine ⟨hf0, fun cs hc => ?_⟩
      obtain ⟨ks, d1, d2⟩ := s4 cs (hc.cg (zpI_off (by omega)) (zpI_ne.1 10 (by omega)))
      obtain ⟨ls, g1, g2⟩ := r3 (cs ++ ks ++ [does]) (co_emit d1 z1 pr.1.c60)
      refine ⟨ks ++ ([does] ++ ls), ?_, fun e hev2 st => ?_⟩
      · rw [List.append_assoc, List.append_assoc] at g1
        exact g1
      · have he1 := ev_tf (tf_pass (q := b)) hev2
        rw [exL_then (d2 e he1 _), exL_then (st' := op v (Ff t o (f_X4_pass t b C)).1 :: st) (by rw [exL_one]; exact hev e _ st)]
        exact g2 e (ev_tf htf he1) st
    by_cases q42 : f_X6_byteAt R = 42
    · refine go 42 2002 (fun a x => a * x) (Or.inl rfl) q42 (by decide) (by decide) ?_ (fun x A => ?_) (fun e x st => rfl)
      · rw [f_X6_term_6, if_neg (by decide), may_hit hf0 q42]
        simp only []
        rw [if_neg (by decide)]
      · by_cases hz : Ff t o (f_X4_pass t 42 C) = (x, A)
        · left
          unfold f_X4_product_32
          simp only []
          rw [hb, q42, hz]
          simp only []
          rw [if_pos trivial]
        · exact Or.inr hz
    by_cases q47 : f_X6_byteAt R = 47
    · refine go 47 2003 (fun a x => if x = 0 then 0 else a / x) (Or.inr rfl) q47 (by decide) (by decide) ?_ (fun x A => ?_) (fun e x st => ?_)
      · rw [f_X6_term_6, if_neg (by decide), may_miss q42]
        simp only []
        rw [if_pos trivial, may_hit hf0 q47]
        simp only []
        rw [if_neg (by decide)]
      · by_cases hz : Ff t o (f_X4_pass t 47 C) = (x, A)
        · left
          unfold f_X4_product_32
          simp only []
          rw [hb, q47, hz]
          simp only []
          rw [if_neg (by decide)]
          by_cases q : x = 0
          · rw [if_pos q, if_pos q]
          · rw [if_neg q, if_neg q]
        · exact Or.inr hz
      · show some (f_X6_done 2003 v x :: st) = _
        rw [done_by]
    exact stop ⟨may_miss q42, may_miss q47⟩ (by rw [hb]; exact q42) (by rw [hb]; exact q47)
theorem sim_prod {o : Int32} {Ff : Nat → Int32 → zM → Int32 × zM} {Rf : zM → zM} (hf : zSim o Ff Rf) (pf : zPr Rf) (tf : zTfF Ff) : zSim o (f_X4_product Ff) (f_X6_term Rf) := by
  intro t n C R hP hS ho
  obtain ⟨s1, s2⟩ := hf t n C R hP hS ho
  have pr := pf R 0 (Int.le_refl 0) hS
  have htf := tf t o C
  obtain ⟨r1, r2⟩ := prod_loop hf pf tf 60 0 t n (Ff t o C).1 (Ff t o C).2 (Rf R) rfl s1 pr.1 (pr.2.2.1.trans ho) (fun _ => by have := pr.1.2.2.1; omega)
  refine ⟨r1, fun z => ?_⟩
  obtain ⟨z1, r3⟩ := r2 z
  obtain ⟨z2, s4⟩ := s2 z1
  refine ⟨z2, fun cs hc => ?_⟩
  obtain ⟨ks, d1, d2⟩ := s4 cs hc
  obtain ⟨ls, g1, g2⟩ := r3 (cs ++ ks) d1
  refine ⟨ks ++ ls, by rw [← List.append_assoc]; exact g1, fun e hev st => ?_⟩
  rw [exL_then (d2 e hev st)]
  exact g2 e (ev_tf htf hev) st
/-- the signs of a sum -/
theorem sum_loop {o : Int32} {Ff : Nat → Int32 → zM → Int32 × zM} {Rf : zM → zM} (hf : zSim o Ff Rf) (pf : zPr Rf) (tf : zTfF Ff) : ∀ (k i t n : Nat) (v : Int32) (C R : zM), i + k = 60 → zPi t n C R → zPS 0 R → R.1 0 19 = o → (R.1 0 18 < 0 → (i : Int) ≤ (R.1 0 17).toInt) →
    zPi t n (f_X4_sum_8 Ff t o (k + 1) v (nI i) C).2 (f_X6_sum_6 Rf (k + 3) 1 R) ∧ ((f_X6_sum_6 Rf (k + 3) 1 R).1 0 18 < 0 → R.1 0 18 < 0 ∧ ∀ cs, zCo R cs → ∃ ks, zCo (f_X6_sum_6 Rf (k + 3) 1 R) (cs ++ ks) ∧ ∀ (e : Nat → Int32), (∀ w, C.1 t (5 + w) = e w) → ∀ st, exL e ks (v :: st) = some ((f_X4_sum_8 Ff t o (k + 1) v (nI i) C).1 :: st)) := by
  intro k
  induction k with
  | zero =>
    intro i t n v C R hik hP hS ho hi
    obtain rfl : i = 60 := by omega
    have ec : f_X4_sum_8 Ff t o (0 + 1) v (nI 60) C = (v, C) := by
      rw [f_X4_sum_8, if_pos (show (60 : Int32) ≤ nI 60 by decide)]
    have em : ∀ c, 0 ≤ c → f_X6_may c R = (0, R) := by
      intro c hc
      by_cases hf0 : R.1 0 18 < 0
      · refine may_miss ?_
        obtain ⟨a, h1, h2, h3, h4⟩ := hP.2.2.2 hf0
        have h5 := hi hf0
        have h6 := hP.1.2.2.1
        rw [h3, nI_toInt (by omega)] at h5
        rw [ba_eq hP.1.2.1 h3 h6 h1, if_pos (by omega)]
        intro z
        rw [← z] at hc
        exact absurd hc (by decide)
      · exact may_dead (Int32.not_lt.mp hf0)
    have er : f_X6_sum_6 Rf (0 + 3) 1 R = R := by
      rw [f_X6_sum_6, if_neg (by decide), em 43 (by decide)]
      simp only []
      rw [if_pos trivial, em 45 (by decide)]
      simp only []
      rw [if_pos trivial]
      unfold f_X6_sum_41 f_X6_sum_51
      rw [if_pos (by decide), if_pos rfl]
      exact sum6_0 _
    rw [ec, er]
    exact ⟨hP, fun z => ⟨z, fun cs hc => ⟨[], by rw [List.append_nil]; exact hc, fun e _ st => rfl⟩⟩⟩
  | succ k ih =>
    intro i t n v C R hik hP hS ho hi
    have ec : f_X4_sum_8 Ff t o (k + 1 + 1) v (nI i) C = if C.1 t 3 = 43 then f_X4_sum_32 Ff t o (fun wv2 wv3 wmm => f_X4_sum_8 Ff t o (k + 1) wv2 wv3 wmm) v (nI i) C else if C.1 t 3 = 45 then f_X4_sum_32 Ff t o (fun wv2 wv3 wmm => f_X4_sum_8 Ff t o (k + 1) wv2 wv3 wmm) v (nI i) C else (v, C) := by
      rw [f_X4_sum_8, if_neg (show ¬ (60 : Int32) ≤ nI i from nI_ge (b := 60) (by omega) (by omega))]
    have stop : (f_X6_may 43 R = (0, R) ∧ f_X6_may 45 R = (0, R)) → ¬ C.1 t 3 = 43 → ¬ C.1 t 3 = 45 → _ := fun hm n1 n2 => by
      have er : f_X6_sum_6 Rf (k + 1 + 3) 1 R = R := by
        rw [f_X6_sum_6, if_neg (by decide), hm.1]
        simp only []
        rw [if_pos trivial, hm.2]
        simp only []
        rw [if_pos trivial]
        unfold f_X6_sum_41 f_X6_sum_51
        rw [if_pos (by decide), if_pos rfl]
        exact sum6_0 _
      show zPi t n (f_X4_sum_8 Ff t o (k + 1 + 1) v (nI i) C).2 (f_X6_sum_6 Rf (k + 1 + 3) 1 R) ∧ ((f_X6_sum_6 Rf (k + 1 + 3) 1 R).1 0 18 < 0 → R.1 0 18 < 0 ∧ ∀ cs, zCo R cs → ∃ ks, zCo (f_X6_sum_6 Rf (k + 1 + 3) 1 R) (cs ++ ks) ∧ ∀ (e : Nat → Int32), (∀ w, C.1 t (5 + w) = e w) → ∀ st, exL e ks (v :: st) = some ((f_X4_sum_8 Ff t o (k + 1 + 1) v (nI i) C).1 :: st))
      rw [ec, er, if_neg n1, if_neg n2]
      exact ⟨hP, fun z => ⟨z, fun cs hc => ⟨[], by rw [List.append_nil]; exact hc, fun e _ st => rfl⟩⟩⟩
    by_cases hf0 : R.1 0 18 < 0
    rotate_left
    · have hd := Int32.not_lt.mp hf0
      have h3 : C.1 t 3 = -1 := hP.2.2.1 hd
      exact stop ⟨may_dead hd, may_dead hd⟩ (by rw [h3]; decide) (by rw [h3]; decide)
    have hb := hP.bt hf0
    have go : ∀ (b does : Int32) (op : Int32 → Int32 → Int32), (b = 43 ∨ b = 45) → f_X6_byteAt R = b → 0 ≤ b → ¬ does < 0 → f_X6_sum_6 Rf (k + 1 + 3) 1 R = f_X6_sum_41 Rf (fun wv1 wmm => f_X6_sum_6 Rf (k + 3) wv1 wmm) does (zpI R 0 17 (R.1 0 17 + 1)) → (∀ x A, f_X4_sum_32 Ff t o (fun wv2 wv3 wmm => f_X4_sum_8 Ff t o (k + 1) wv2 wv3 wmm) v (nI i) C = f_X4_sum_8 Ff t o (k + 1) (op v x) (nI i + 1) A ∨ ¬ Ff t o (f_X4_pass t b C) = (x, A)) → (∀ e x st, exC e does (x :: v :: st) = some (op v x :: st)) → _ := fun b does op hb2 hB h0 hdo her hec hev => by
      show zPi t n (f_X4_sum_8 Ff t o (k + 1 + 1) v (nI i) C).2 (f_X6_sum_6 Rf (k + 1 + 3) 1 R) ∧ ((f_X6_sum_6 Rf (k + 1 + 3) 1 R).1 0 18 < 0 → R.1 0 18 < 0 ∧ ∀ cs, zCo R cs → ∃ ks, zCo (f_X6_sum_6 Rf (k + 1 + 3) 1 R) (cs ++ ks) ∧ ∀ (e : Nat → Int32), (∀ w, C.1 t (5 + w) = e w) → ∀ st, exL e ks (v :: st) = some ((f_X4_sum_8 Ff t o (k + 1 + 1) v (nI i) C).1 :: st))
      have hl := ba_X6 hB h0
      have hs := l_step hS hl
      have hh := ps_hit hP hf0 h0 hB
      have htf := tf t o (f_X4_pass t b C)
      obtain ⟨s1, s2⟩ := hf t n (f_X4_pass t b C) _ hh (hs.1.weak (by omega)) (hs.2.1.2.1.trans ho)
      have pr := pf _ 1 (by omega) hs.1
      have e2 : f_X4_sum_8 Ff t o (k + 1 + 1) v (nI i) C = f_X4_sum_8 Ff t o (k + 1) (op v (Ff t o (f_X4_pass t b C)).1) (nI (i + 1)) (Ff t o (f_X4_pass t b C)).2 := by
        rw [ec, hb, hB]
        have h7 := (hec (Ff t o (f_X4_pass t b C)).1 (Ff t o (f_X4_pass t b C)).2).resolve_right (fun z => z rfl)
        rw [nI_1] at h7
        rcases hb2 with q | q
        · rw [if_pos q]; exact h7
        · rw [if_neg (by rw [q]; decide), if_pos q]; exact h7
      have e3 : f_X6_sum_6 Rf (k + 1 + 3) 1 R = f_X6_sum_6 Rf (k + 3) 1 (f_X6_emit does (Rf (zpI R 0 17 (R.1 0 17 + 1)))) := by
        rw [her]
        unfold f_X6_sum_41 f_X6_sum_51
        rw [if_neg hdo, if_neg (by decide)]
      rw [e2, e3]
      have he := em_f (v := does) (R := Rf (zpI R 0 17 (R.1 0 17 + 1)))
      have hle := l_emit (v := does) pr.1 (Int.le_refl 0)
      have hl17 : ((f_X6_emit does (Rf (zpI R 0 17 (R.1 0 17 + 1)))).1 0 18 < 0 → ((i + 1 : Nat) : Int) ≤ ((f_X6_emit does (Rf (zpI R 0 17 (R.1 0 17 + 1)))).1 0 17).toInt) := by
        intro _
        have := hi hf0
        have h8 := hle.2.1
        have h9 := pr.2.1
        have h10 := hs.2.2
        omega
      obtain ⟨r1, r2⟩ := ih (i + 1) t n (op v (Ff t o (f_X4_pass t b C)).1) (Ff t o (f_X4_pass t b C)).2 _ (by omega) (s1.cg he.2.1 he.2.2.1 he.1 he.2.2.2) hle.1 (by rw [hle.2.2.1, pr.2.2.1, hs.2.1.2.1]; exact ho) hl17
      refine ⟨r1, fun z => ?_⟩
      obtain ⟨z1, r3⟩ := r2 z
      rw [he.1] at z1
      obtain ⟨-, s4⟩ := s2 z1
      refine ⟨hf0, fun cs hc => ?_⟩
      obtain ⟨ks, d1, d2⟩ := s4 cs (hc.cg (zpI_off (by omega)) (zpI_ne.1 10 (by omega)))
      obtain ⟨ls, g1, g2⟩ := r3 (cs ++ ks ++ [does]) (co_emit d1 z1 pr.1.c60)
      refine ⟨ks ++ ([does] ++ ls), ?_, fun e hev2 st => ?_⟩
      · rw [List.append_assoc, List.append_assoc] at g1
        exact g1
      · have he1 := ev_tf (tf_pass (q := b)) hev2
        rw [exL_then (d2 e he1 _), exL_then (st' := op v (Ff t o (f_X4_pass t b C)).1 :: st) (by rw [exL_one]; exact hev e _ st)]
        exact g2 e (ev_tf htf he1) st
    by_cases q43 : f_X6_byteAt R = 43
    · refine go 43 2000 (fun a x => a + x) (Or.inl rfl) q43 (by decide) (by decide) ?_ (fun x A => ?_) (fun e x st => rfl)
      · rw [f_X6_sum_6, if_neg (by decide), may_hit hf0 q43]
        simp only []
        rw [if_neg (by decide)]
      · by_cases hz : Ff t o (f_X4_pass t 43 C) = (x, A)
        · left
          unfold f_X4_sum_32
          simp only []
          rw [hb, q43, hz]
          simp only []
          rw [if_pos trivial]
        · exact Or.inr hz
    by_cases q45 : f_X6_byteAt R = 45
    · refine go 45 2001 (fun a x => a - x) (Or.inr rfl) q45 (by decide) (by decide) ?_ (fun x A => ?_) (fun e x st => ?_)
      · rw [f_X6_sum_6, if_neg (by decide), may_miss q43]
        simp only []
        rw [if_pos trivial, may_hit hf0 q45]
        simp only []
        rw [if_neg (by decide)]
      · by_cases hz : Ff t o (f_X4_pass t 45 C) = (x, A)
        · left
          unfold f_X4_sum_32
          simp only []
          rw [hb, q45, hz]
          simp only []
          rw [if_neg (by decide)]
        · exact Or.inr hz
      · rfl
    exact stop ⟨may_miss q43, may_miss q45⟩ (by rw [hb]; exact q43) (by rw [hb]; exact q45)
theorem sim_sum {o : Int32} {Ff : Nat → Int32 → zM → Int32 × zM} {Rf : zM → zM} (hf : zSim o Ff Rf) (pf : zPr Rf) (tf : zTfF Ff) : zSim o (f_X4_sum Ff) (f_X6_sum Rf) := by
  intro t n C R hP hS ho
  obtain ⟨s1, s2⟩ := hf t n C R hP hS ho
  have pr := pf R 0 (Int.le_refl 0) hS
  have htf := tf t o C
  obtain ⟨r1, r2⟩ := sum_loop hf pf tf 60 0 t n (Ff t o C).1 (Ff t o C).2 (Rf R) rfl s1 pr.1 (pr.2.2.1.trans ho) (fun _ => by have := pr.1.2.2.1; omega)
  refine ⟨r1, fun z => ?_⟩
  obtain ⟨z1, r3⟩ := r2 z
  obtain ⟨z2, s4⟩ := s2 z1
  refine ⟨z2, fun cs hc => ?_⟩
  obtain ⟨ks, d1, d2⟩ := s4 cs hc
  obtain ⟨ls, g1, g2⟩ := r3 (cs ++ ks) d1
  refine ⟨ks ++ ls, by rw [← List.append_assoc]; exact g1, fun e hev st => ?_⟩
  rw [exL_then (d2 e hev st)]
  exact g2 e (ev_tf htf hev) st
