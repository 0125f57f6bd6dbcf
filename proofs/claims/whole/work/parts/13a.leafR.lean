set_option maxRecDepth 100000 in
set_option maxHeartbeats 4000000 in
theorem c_X6_in (l : Launch) (D : va_G) (cy : Nat → ClassId) (ad : Nat → Nat) (M : zM) (p0 : Int32) (p1 : Int32) (p2 : Int32) : Met l yX6_in (Cond.code yX6_in cX6_in 3 (some .boolean) :: zG) ({ frames := 0, cells := 0, slots := 0, locals := 0 }) (zP D lyR cy ad [.int p0, .int p1, .int p2] M) (zQz D lyR cy ad (f_X6_in p0 p1 p2) M) 0 0 (zA lyR ad) := by
  generalize hres : (f_X6_in p0 p1 p2) = res
  refine zMet (by decide) (Nat.le_of_ble_eq_true rfl) ?_
  intro p e s m args below meth c ls C0 hH hl
  obtain ⟨⟨hx, hb, hml, hown, hts⟩, -⟩ := id C0
  have hz : ∀ w ∈ zG, w.before args s = true := fun w h => hts w (List.mem_cons_of_mem _ h)
  have hl : lv_has ls 3 [(0, .int p0), (1, .int p1), (2, .int p2)] := hl
  refine lv_iload_n hx hb dX6_in_0 rfl (lv_at hl 0 rfl) ?_
  refine lv_iload_n hx hb dX6_in_1 rfl (lv_at hl 1 rfl) ?_
  refine lv_icmp_lt (tgt := 14) hx hb dX6_in_2 (by decide) (fun c2_1 => ?_) (fun c2_1 => ?_)
  · have hres := zif_pos c2_1 hres
    refine lv_iconst (v := (0 : Int32)) hx hb dX6_in_14 (by decide) ?_
    exact zretz C0 hH dX6_in_15 (by first | exact Or.inl rfl | exact Or.inr rfl | assumption) hres rfl
  · have hres := zif_neg c2_1 hres
    refine lv_iload_n hx hb dX6_in_5 rfl (lv_at hl 0 rfl) ?_
    refine lv_iload_n hx hb dX6_in_6 rfl (lv_at hl 2 rfl) ?_
    refine lv_icmp_gt (tgt := 14) hx hb dX6_in_7 (by decide) (fun c7_2 => ?_) (fun c7_2 => ?_)
    · have hres := zif_pos c7_2 hres
      refine lv_iconst (v := (0 : Int32)) hx hb dX6_in_14 (by decide) ?_
      exact zretz C0 hH dX6_in_15 (by first | exact Or.inl rfl | exact Or.inr rfl | assumption) hres rfl
    · have hres := zif_neg c7_2 hres
      refine lv_iconst (v := (1 : Int32)) hx hb dX6_in_10 (by decide) ?_
      refine lv_goto (tgt := 15) hx hb dX6_in_11 (by decide) ?_
      exact zretz C0 hH dX6_in_15 (by first | exact Or.inl rfl | exact Or.inr rfl | assumption) hres rfl
set_option maxRecDepth 100000 in
set_option maxHeartbeats 4000000 in
theorem c_X6_lesser (l : Launch) (D : va_G) (cy : Nat → ClassId) (ad : Nat → Nat) (M : zM) (p0 : Int32) (p1 : Int32) : Met l yX6_lesser (Cond.code yX6_lesser cX6_lesser 2 (some .int) :: zG) ({ frames := 0, cells := 0, slots := 0, locals := 0 }) (zP D lyR cy ad [.int p0, .int p1] M) (zQi D lyR cy ad (f_X6_lesser p0 p1) M) 0 0 (zA lyR ad) := by
  generalize hres : (f_X6_lesser p0 p1) = res
  refine zMet (by decide) (Nat.le_of_ble_eq_true rfl) ?_
  intro p e s m args below meth c ls C0 hH hl
  obtain ⟨⟨hx, hb, hml, hown, hts⟩, -⟩ := id C0
  have hz : ∀ w ∈ zG, w.before args s = true := fun w h => hts w (List.mem_cons_of_mem _ h)
  have hl : lv_has ls 2 [(0, .int p0), (1, .int p1)] := hl
  refine lv_iload_n hx hb dX6_lesser_0 rfl (lv_at hl 0 rfl) ?_
  refine lv_iload_n hx hb dX6_lesser_1 rfl (lv_at hl 1 rfl) ?_
  refine lv_icmp_ge (tgt := 9) hx hb dX6_lesser_2 (by decide) (fun c2_1 => ?_) (fun c2_1 => ?_)
  · have hres := zif_pos c2_1 hres
    refine lv_iload_n hx hb dX6_lesser_9 rfl (lv_at hl 1 rfl) ?_
    exact zreti C0 hH dX6_lesser_10 hres rfl
  · have hres := zif_neg c2_1 hres
    refine lv_iload_n hx hb dX6_lesser_5 rfl (lv_at hl 0 rfl) ?_
    refine lv_goto (tgt := 10) hx hb dX6_lesser_6 (by decide) ?_
    exact zreti C0 hH dX6_lesser_10 hres rfl
set_option maxRecDepth 100000 in
set_option maxHeartbeats 4000000 in
theorem c_X6_greater (l : Launch) (D : va_G) (cy : Nat → ClassId) (ad : Nat → Nat) (M : zM) (p0 : Int32) (p1 : Int32) : Met l yX6_greater (Cond.code yX6_greater cX6_greater 2 (some .int) :: zG) ({ frames := 0, cells := 0, slots := 0, locals := 0 }) (zP D lyR cy ad [.int p0, .int p1] M) (zQi D lyR cy ad (f_X6_greater p0 p1) M) 0 0 (zA lyR ad) := by
  generalize hres : (f_X6_greater p0 p1) = res
  refine zMet (by decide) (Nat.le_of_ble_eq_true rfl) ?_
  intro p e s m args below meth c ls C0 hH hl
  obtain ⟨⟨hx, hb, hml, hown, hts⟩, -⟩ := id C0
  have hz : ∀ w ∈ zG, w.before args s = true := fun w h => hts w (List.mem_cons_of_mem _ h)
  have hl : lv_has ls 2 [(0, .int p0), (1, .int p1)] := hl
  refine lv_iload_n hx hb dX6_greater_0 rfl (lv_at hl 0 rfl) ?_
  refine lv_iload_n hx hb dX6_greater_1 rfl (lv_at hl 1 rfl) ?_
  refine lv_icmp_le (tgt := 9) hx hb dX6_greater_2 (by decide) (fun c2_1 => ?_) (fun c2_1 => ?_)
  · have hres := zif_pos c2_1 hres
    refine lv_iload_n hx hb dX6_greater_9 rfl (lv_at hl 1 rfl) ?_
    exact zreti C0 hH dX6_greater_10 hres rfl
  · have hres := zif_neg c2_1 hres
    refine lv_iload_n hx hb dX6_greater_5 rfl (lv_at hl 0 rfl) ?_
    refine lv_goto (tgt := 10) hx hb dX6_greater_6 (by decide) ?_
    exact zreti C0 hH dX6_greater_10 hres rfl
set_option maxRecDepth 100000 in
set_option maxHeartbeats 4000000 in
theorem c_X6_without (l : Launch) (D : va_G) (cy : Nat → ClassId) (ad : Nat → Nat) (M : zM) (p0 : Int32) : Met l yX6_without (Cond.code yX6_without cX6_without 1 (some .long) :: zG) ({ frames := 0, cells := 0, slots := 0, locals := 0 }) (zP D lyR cy ad [.int p0] M) (zQl D lyR cy ad (f_X6_without p0) M) 0 0 (zA lyR ad) := by
  generalize hres : (f_X6_without p0) = res
  refine zMet (by decide) (Nat.le_of_ble_eq_true rfl) ?_
  intro p e s m args below meth c ls C0 hH hl
  obtain ⟨⟨hx, hb, hml, hown, hts⟩, -⟩ := id C0
  have hz : ∀ w ∈ zG, w.before args s = true := fun w h => hts w (List.mem_cons_of_mem _ h)
  have hl : lv_has ls 1 [(0, .int p0)] := hl
  refine lv_iload_n hx hb dX6_without_0 rfl (lv_at hl 0 rfl) ?_
  refine lv_if_ge (tgt := 10) hx hb dX6_without_1 (by decide) (fun c1_1 => ?_) (fun c1_1 => ?_)
  · have hres := zif_pos c1_1 hres
    refine lv_iload_n hx hb dX6_without_10 rfl (lv_at hl 0 rfl) ?_
    refine lv_i2l hx hb dX6_without_11 rfl ?_
    exact zretl C0 hH dX6_without_12 hres rfl
  · have hres := zif_neg c1_1 hres
    refine lv_iload_n hx hb dX6_without_4 rfl (lv_at hl 0 rfl) ?_
    refine lv_i2l hx hb dX6_without_5 rfl ?_
    refine lv_lneg hx hb dX6_without_6 ?_
    refine lv_goto (tgt := 12) hx hb dX6_without_7 (by decide) ?_
    exact zretl C0 hH dX6_without_12 hres rfl
set_option maxRecDepth 100000 in
set_option maxHeartbeats 4000000 in
theorem c_X6_no (l : Launch) (D : va_G) (cy : Nat → ClassId) (ad : Nat → Nat) (M : zM) (p1 : Int32) (hq : 0 ≤ p1 ∧ p1 < 7) : Met l yX6_no (Cond.code yX6_no cX6_no 2 (some .int) :: zG) ({ frames := 0, cells := 0, slots := 0, locals := 0 }) (zP D lyR cy ad [.ref (ad 0), .int p1] M) (zQi D lyR cy ad (f_X6_no p1 M).1 (f_X6_no p1 M).2) 0 0 (zA lyR ad) := by
  generalize hres : (f_X6_no p1 M) = res
  refine zMet (by decide) (Nat.le_of_ble_eq_true rfl) ?_
  intro p e s m args below meth c ls C0 hH hl
  obtain ⟨⟨hx, hb, hml, hown, hts⟩, -⟩ := id C0
  have hz : ∀ w ∈ zG, w.before args s = true := fun w h => hts w (List.mem_cons_of_mem _ h)
  have hl : lv_has ls 2 [(0, .ref (ad 0)), (1, .int p1)] := hl
  have g0 := hH.many
  refine lv_aload_n hx hb dX6_no_0 rfl (lv_at hl 0 rfl) ?_
  refine zgR C0 hH zK6 6 (by decide) _ zR0 rfl kF_X6_22 dX6_no_1 ?_
  refine lv_iload_n hx hb dX6_no_4 rfl (lv_at hl 1 rfl) ?_
  refine lv_dup2_11 hx hb dX6_no_5 rfl rfl ?_
  refine zald C0 hH (zR_i (by decide) (by decide)) rfl (by exact zin7.mpr (by clear hres hz hts; grind [f_X6_in, f_X6_isBlock, f_X6_isAhead, f_X6_isSheet])) dX6_no_6 ?_
  refine lv_iconst (v := (1 : Int32)) hx hb dX6_no_7 (by decide) ?_
  refine lv_iadd hx hb dX6_no_8 ?_
  refine zast C0 hH (zR_i (by decide) (by decide)) rfl (by exact zin7.mpr (by clear hres hz hts; grind [f_X6_in, f_X6_isBlock, f_X6_isAhead, f_X6_isSheet])) zcn dX6_no_9 (fun H locs hH => ?_)
  refine lv_ldc (v := (-1000000001 : Int32)) hx hb hown (hz _ kK_X6_56) dX6_no_10 ?_
  refine lv_iload_n hx hb dX6_no_12 rfl (lv_at hl 1 rfl) ?_
  refine lv_isub hx hb dX6_no_13 ?_
  exact zreti C0 hH dX6_no_14 (zfst hres) (zsnd hres)
set_option maxRecDepth 100000 in
set_option maxHeartbeats 4000000 in
theorem c_X6_isBlock (l : Launch) (D : va_G) (cy : Nat → ClassId) (ad : Nat → Nat) (M : zM) (p1 : Int32) : Met l yX6_isBlock (Cond.code yX6_isBlock cX6_isBlock 2 (some .boolean) :: zG) ({ frames := 1, cells := 0, slots := 0, locals := 22 }) (zP D lyR cy ad [.ref (ad 0), .int p1] M) (zQz D lyR cy ad (f_X6_isBlock p1 M) M) 0 0 (zA lyR ad) := by
  generalize hres : (f_X6_isBlock p1 M) = res
  refine zMet (by decide) (Nat.le_of_ble_eq_true rfl) ?_
  intro p e s m args below meth c ls C0 hH hl
  obtain ⟨⟨hx, hb, hml, hown, hts⟩, -⟩ := id C0
  have hz : ∀ w ∈ zG, w.before args s = true := fun w h => hts w (List.mem_cons_of_mem _ h)
  have hl : lv_has ls 2 [(0, .ref (ad 0)), (1, .int p1)] := hl
  have g0 := hH.many
  refine lv_iload_n hx hb dX6_isBlock_0 rfl (lv_at hl 1 rfl) ?_
  refine lv_iconst (v := (0 : Int32)) hx hb dX6_isBlock_1 (by decide) ?_
  refine lv_aload_n hx hb dX6_isBlock_2 rfl (lv_at hl 0 rfl) ?_
  refine zgR C0 hH zK6 0 (by decide) _ zR0 rfl kF_X6_9 dX6_isBlock_3 ?_
  refine lv_iconst (v := (0 : Int32)) hx hb dX6_isBlock_6 (by decide) ?_
  refine zaldK C0 hH zS31.is zS31.ln (k := 0) (by decide) (by unfold vp_in; decide) dX6_isBlock_7 ?_
  refine lv_iconst (v := (1 : Int32)) hx hb dX6_isBlock_8 (by decide) ?_
  refine lv_isub hx hb dX6_isBlock_9 ?_
  refine zcz (zrunS C0 hH (c_X6_in l D cy ad _ _ _ _) kM_X6_57 kq_X6_in rfl hl.1 rfl rfl rfl ⟨Nat.le_of_ble_eq_true rfl, Nat.le_of_ble_eq_true rfl⟩ (Nat.le_of_ble_eq_true rfl) dX6_isBlock_10) hH (fun H locs hH h01_1 => ?_)
  exact zretz C0 hH dX6_isBlock_13 (by first | exact Or.inl rfl | exact Or.inr rfl | assumption) hres rfl
set_option maxRecDepth 100000 in
set_option maxHeartbeats 4000000 in
theorem c_X6_at (l : Launch) (D : va_G) (cy : Nat → ClassId) (ad : Nat → Nat) (M : zM) (p1 : Int32) (p2 : Int32) (hbk : 0 ≤ p1 ∧ p1 < 10) (hw : 0 ≤ p2 ∧ p2 ≤ 6) : Met l yX6_at (Cond.code yX6_at cX6_at 3 (some .int) :: zG) ({ frames := 0, cells := 0, slots := 0, locals := 0 }) (zP D lyR cy ad [.ref (ad 0), .int p1, .int p2] M) (zQi D lyR cy ad (f_X6_at p1 p2 M) M) 0 0 (zA lyR ad) := by
  generalize hres : (f_X6_at p1 p2 M) = res
  refine zMet (by decide) (Nat.le_of_ble_eq_true rfl) ?_
  intro p e s m args below meth c ls C0 hH hl
  obtain ⟨⟨hx, hb, hml, hown, hts⟩, -⟩ := id C0
  have hz : ∀ w ∈ zG, w.before args s = true := fun w h => hts w (List.mem_cons_of_mem _ h)
  have hl : lv_has ls 3 [(0, .ref (ad 0)), (1, .int p1), (2, .int p2)] := hl
  have g0 := hH.many
  refine lv_aload_n hx hb dX6_at_0 rfl (lv_at hl 0 rfl) ?_
  refine zgR C0 hH zK6 0 (by decide) _ zR0 rfl kF_X6_9 dX6_at_1 ?_
  refine lv_bipush (v := (78 : Int32)) hx hb dX6_at_4 (by decide) ?_
  refine lv_bipush (v := (7 : Int32)) hx hb dX6_at_6 (by decide) ?_
  refine lv_iload_n hx hb dX6_at_8 rfl (lv_at hl 1 rfl) ?_
  refine lv_imul hx hb dX6_at_9 ?_
  refine lv_iadd hx hb dX6_at_10 ?_
  refine lv_iload_n hx hb dX6_at_11 rfl (lv_at hl 2 rfl) ?_
  refine lv_iadd hx hb dX6_at_12 ?_
  refine zald C0 hH zS31.is zS31.ln (by exact zin448.mpr (by clear hres hz hts; grind [f_X6_in, f_X6_isBlock, f_X6_isAhead, f_X6_isSheet])) dX6_at_13 ?_
  exact zreti C0 hH dX6_at_14 hres rfl
set_option maxRecDepth 100000 in
set_option maxHeartbeats 4000000 in
theorem c_X6_become (l : Launch) (D : va_G) (cy : Nat → ClassId) (ad : Nat → Nat) (M : zM) (p1 : Int32) (p2 : Int32) (p3 : Int32) (hbk : 0 ≤ p1 ∧ p1 < 10) (hw : 0 ≤ p2 ∧ p2 ≤ 6) : Met l yX6_become (Cond.code yX6_become cX6_become 5 (some .int) :: zG) ({ frames := 1, cells := 0, slots := 0, locals := 22 }) (zP D lyR cy ad [.ref (ad 0), .int p1, .int p2, .int p3] M) (zQi D lyR cy ad (f_X6_become p1 p2 p3 M).1 (f_X6_become p1 p2 p3 M).2) 0 0 (zA lyR ad) := by
  generalize hres : (f_X6_become p1 p2 p3 M) = res
  refine zMet (by decide) (Nat.le_of_ble_eq_true rfl) ?_
  intro p e s m args below meth c ls C0 hH hl
  obtain ⟨⟨hx, hb, hml, hown, hts⟩, -⟩ := id C0
  have hz : ∀ w ∈ zG, w.before args s = true := fun w h => hts w (List.mem_cons_of_mem _ h)
  have hl : lv_has ls 5 [(0, .ref (ad 0)), (1, .int p1), (2, .int p2), (3, .int p3)] := hl
  have g0 := hH.many
  refine lv_aload_n hx hb dX6_become_0 rfl (lv_at hl 0 rfl) ?_
  refine lv_iload_n hx hb dX6_become_1 rfl (lv_at hl 1 rfl) ?_
  refine lv_iload_n hx hb dX6_become_2 rfl (lv_at hl 2 rfl) ?_
  refine zci (zrunV C0 hH (c_X6_at l D cy ad _ _ _ (by first | assumption | (have q0 := hH.many; (try obtain ⟨qa, qb, -⟩ := hct); clear hres hz hts; grind [f_X6_in, f_X6_isBlock, f_X6_isAhead, f_X6_isSheet])) (by first | decide | assumption | (clear hres hz hts; grind [f_X6_in, f_X6_isBlock, f_X6_isAhead, f_X6_isSheet]))) kM_X6_61 zK6 kq_X6_at zR0 rfl hl.1 rfl rfl rfl ⟨Nat.le_of_ble_eq_true rfl, Nat.le_of_ble_eq_true rfl⟩ (Nat.le_of_ble_eq_true rfl) dX6_become_3) hH (fun H locs hH => ?_)
  refine lv_istore (lv' := [(4, _), (0, _), (1, _), (2, _), (3, _)]) hx hb dX6_become_6 hl (by decide) rfl (fun ls hl => ?_)
  refine lv_aload_n hx hb dX6_become_8 rfl (lv_at hl 1 rfl) ?_
  refine zgR C0 hH zK6 0 (by decide) _ zR0 rfl kF_X6_9 dX6_become_9 ?_
  refine lv_bipush (v := (78 : Int32)) hx hb dX6_become_12 (by decide) ?_
  refine lv_bipush (v := (7 : Int32)) hx hb dX6_become_14 (by decide) ?_
  refine lv_iload_n hx hb dX6_become_16 rfl (lv_at hl 2 rfl) ?_
  refine lv_imul hx hb dX6_become_17 ?_
  refine lv_iadd hx hb dX6_become_18 ?_
  refine lv_iload_n hx hb dX6_become_19 rfl (lv_at hl 3 rfl) ?_
  refine lv_iadd hx hb dX6_become_20 ?_
  refine lv_iload_n hx hb dX6_become_21 rfl (lv_at hl 4 rfl) ?_
  refine zast C0 hH zS31.is zS31.ln (by exact zin448.mpr (by clear hres hz hts; grind [f_X6_in, f_X6_isBlock, f_X6_isAhead, f_X6_isSheet])) (by exact zfitS (by clear hres hz hts; grind [f_X6_in, f_X6_isBlock, f_X6_isAhead, f_X6_isSheet])) dX6_become_22 (fun H locs hH => ?_)
  refine lv_iload hx hb dX6_become_23 (lv_at hl 0 rfl) ?_
  exact zreti C0 hH dX6_become_25 (zfst hres) (zsnd hres)
set_option maxRecDepth 100000 in
set_option maxHeartbeats 4000000 in
theorem c_X6_plainHolds (l : Launch) (D : va_G) (cy : Nat → ClassId) (ad : Nat → Nat) (M : zM) (p1 : Int32) (p2 : Int32) (hbk : 0 ≤ p1 ∧ p1 < 10) : Met l yX6_plainHolds (Cond.code yX6_plainHolds cX6_plainHolds 3 (some .int) :: zG) ({ frames := 1, cells := 0, slots := 0, locals := 22 }) (zP D lyR cy ad [.ref (ad 0), .int p1, .int p2] M) (zQi D lyR cy ad (f_X6_plainHolds p1 p2 M) M) 0 0 (zA lyR ad) := by
  generalize hres : (f_X6_plainHolds p1 p2 M) = res
  refine zMet (by decide) (Nat.le_of_ble_eq_true rfl) ?_
  intro p e s m args below meth c ls C0 hH hl
  obtain ⟨⟨hx, hb, hml, hown, hts⟩, -⟩ := id C0
  have hz : ∀ w ∈ zG, w.before args s = true := fun w h => hts w (List.mem_cons_of_mem _ h)
  have hl : lv_has ls 3 [(0, .ref (ad 0)), (1, .int p1), (2, .int p2)] := hl
  have g0 := hH.many
  refine lv_aload_n hx hb dX6_plainHolds_0 rfl (lv_at hl 0 rfl) ?_
  refine lv_iload_n hx hb dX6_plainHolds_1 rfl (lv_at hl 1 rfl) ?_
  refine lv_iconst (v := (1 : Int32)) hx hb dX6_plainHolds_2 (by decide) ?_
  refine zci (zrunV C0 hH (c_X6_at l D cy ad _ _ _ (by first | assumption | (have q0 := hH.many; (try obtain ⟨qa, qb, -⟩ := hct); clear hres hz hts; grind [f_X6_in, f_X6_isBlock, f_X6_isAhead, f_X6_isSheet])) (by first | decide | assumption | (clear hres hz hts; grind [f_X6_in, f_X6_isBlock, f_X6_isAhead, f_X6_isSheet]))) kM_X6_61 zK6 kq_X6_at zR0 rfl hl.1 rfl rfl rfl ⟨Nat.le_of_ble_eq_true rfl, Nat.le_of_ble_eq_true rfl⟩ (Nat.le_of_ble_eq_true rfl) dX6_plainHolds_3) hH (fun H locs hH => ?_)
  refine lv_iload_n hx hb dX6_plainHolds_6 rfl (lv_at hl 2 rfl) ?_
  refine lv_iconst (v := (4 : Int32)) hx hb dX6_plainHolds_7 (by decide) ?_
  refine lv_idiv hx hb dX6_plainHolds_8 (by first | assumption | decide) ?_
  refine lv_bipush (v := (50 : Int32)) hx hb dX6_plainHolds_9 (by decide) ?_
  refine zci (zrunS C0 hH (c_X6_lesser l D cy ad _ _ _) kM_X6_65 kq_X6_lesser rfl hl.1 rfl rfl rfl ⟨Nat.le_of_ble_eq_true rfl, Nat.le_of_ble_eq_true rfl⟩ (Nat.le_of_ble_eq_true rfl) dX6_plainHolds_11) hH (fun H locs hH => ?_)
  refine lv_iadd hx hb dX6_plainHolds_14 ?_
  exact zreti C0 hH dX6_plainHolds_15 hres rfl
set_option maxRecDepth 100000 in
set_option maxHeartbeats 4000000 in
theorem c_X6_worthOf (l : Launch) (D : va_G) (cy : Nat → ClassId) (ad : Nat → Nat) (M : zM) (p1 : Int32) (p2 : Int32) (p3 : Int32) (hbk : 0 ≤ p2 ∧ p2 < 10) : Met l yX6_worthOf (Cond.code yX6_worthOf cX6_worthOf 4 (some .int) :: zG) ({ frames := 1, cells := 0, slots := 0, locals := 22 }) (zP D lyR cy ad [.ref (ad 0), .int p1, .int p2, .int p3] M) (zQi D lyR cy ad (f_X6_worthOf p1 p2 p3 M) M) 0 0 (zA lyR ad) := by
  generalize hres : (f_X6_worthOf p1 p2 p3 M) = res
  refine zMet (by decide) (Nat.le_of_ble_eq_true rfl) ?_
  intro p e s m args below meth c ls C0 hH hl
  obtain ⟨⟨hx, hb, hml, hown, hts⟩, -⟩ := id C0
  have hz : ∀ w ∈ zG, w.before args s = true := fun w h => hts w (List.mem_cons_of_mem _ h)
  have hl : lv_has ls 4 [(0, .ref (ad 0)), (1, .int p1), (2, .int p2), (3, .int p3)] := hl
  have g0 := hH.many
  refine lv_iload_n hx hb dX6_worthOf_0 rfl (lv_at hl 1 rfl) ?_
  refine zcase hres (fun c1_1_0 hres => ?_) (fun c1_1_0 hres => ?_)
  · refine ztab (tgt := 36) hx hb c1_1_0 dX6_worthOf_1 (by decide) (by decide) rfl (by decide) ?_
    refine lv_iload_n hx hb dX6_worthOf_36 rfl (lv_at hl 3 rfl) ?_
    exact zreti C0 hH dX6_worthOf_37 hres rfl
  · skip
    refine zcase hres (fun c1_1_1 hres => ?_) (fun c1_1_1 hres => ?_)
    · refine ztab (tgt := 38) hx hb c1_1_1 dX6_worthOf_1 (by decide) (by decide) rfl (by decide) ?_
      refine lv_aload_n hx hb dX6_worthOf_38 rfl (lv_at hl 0 rfl) ?_
      refine lv_iload_n hx hb dX6_worthOf_39 rfl (lv_at hl 2 rfl) ?_
      refine lv_iconst (v := (1 : Int32)) hx hb dX6_worthOf_40 (by decide) ?_
      refine zci (zrunV C0 hH (c_X6_at l D cy ad _ _ _ (by first | assumption | (have q0 := hH.many; (try obtain ⟨qa, qb, -⟩ := hct); clear hres hz hts; grind [f_X6_in, f_X6_isBlock, f_X6_isAhead, f_X6_isSheet])) (by first | decide | assumption | (clear hres hz hts; grind [f_X6_in, f_X6_isBlock, f_X6_isAhead, f_X6_isSheet]))) kM_X6_61 zK6 kq_X6_at zR0 rfl hl.1 rfl rfl rfl ⟨Nat.le_of_ble_eq_true rfl, Nat.le_of_ble_eq_true rfl⟩ (Nat.le_of_ble_eq_true rfl) dX6_worthOf_41) hH (fun H locs hH => ?_)
      exact zreti C0 hH dX6_worthOf_44 hres rfl
    · skip
      refine zcase hres (fun c1_1_2 hres => ?_) (fun c1_1_2 hres => ?_)
      · refine ztab (tgt := 45) hx hb c1_1_2 dX6_worthOf_1 (by decide) (by decide) rfl (by decide) ?_
        refine lv_aload_n hx hb dX6_worthOf_45 rfl (lv_at hl 0 rfl) ?_
        refine lv_iload_n hx hb dX6_worthOf_46 rfl (lv_at hl 2 rfl) ?_
        refine lv_iconst (v := (2 : Int32)) hx hb dX6_worthOf_47 (by decide) ?_
        refine zci (zrunV C0 hH (c_X6_at l D cy ad _ _ _ (by first | assumption | (have q0 := hH.many; (try obtain ⟨qa, qb, -⟩ := hct); clear hres hz hts; grind [f_X6_in, f_X6_isBlock, f_X6_isAhead, f_X6_isSheet])) (by first | decide | assumption | (clear hres hz hts; grind [f_X6_in, f_X6_isBlock, f_X6_isAhead, f_X6_isSheet]))) kM_X6_61 zK6 kq_X6_at zR0 rfl hl.1 rfl rfl rfl ⟨Nat.le_of_ble_eq_true rfl, Nat.le_of_ble_eq_true rfl⟩ (Nat.le_of_ble_eq_true rfl) dX6_worthOf_48) hH (fun H locs hH => ?_)
        exact zreti C0 hH dX6_worthOf_51 hres rfl
      · skip
        refine zcase hres (fun c1_1_3 hres => ?_) (fun c1_1_3 hres => ?_)
        · refine ztab (tgt := 52) hx hb c1_1_3 dX6_worthOf_1 (by decide) (by decide) rfl (by decide) ?_
          refine lv_iload_n hx hb dX6_worthOf_52 rfl (lv_at hl 2 rfl) ?_
          exact zreti C0 hH dX6_worthOf_53 hres rfl
        · skip
          refine zcase hres (fun c1_1_4 hres => ?_) (fun c1_1_4 hres => ?_)
          · refine ztab (tgt := 54) hx hb c1_1_4 dX6_worthOf_1 (by decide) (by decide) rfl (by decide) ?_
            refine lv_aload_n hx hb dX6_worthOf_54 rfl (lv_at hl 0 rfl) ?_
            refine lv_iload_n hx hb dX6_worthOf_55 rfl (lv_at hl 2 rfl) ?_
            refine lv_iconst (v := (4 : Int32)) hx hb dX6_worthOf_56 (by decide) ?_
            refine zci (zrunV C0 hH (c_X6_at l D cy ad _ _ _ (by first | assumption | (have q0 := hH.many; (try obtain ⟨qa, qb, -⟩ := hct); clear hres hz hts; grind [f_X6_in, f_X6_isBlock, f_X6_isAhead, f_X6_isSheet])) (by first | decide | assumption | (clear hres hz hts; grind [f_X6_in, f_X6_isBlock, f_X6_isAhead, f_X6_isSheet]))) kM_X6_61 zK6 kq_X6_at zR0 rfl hl.1 rfl rfl rfl ⟨Nat.le_of_ble_eq_true rfl, Nat.le_of_ble_eq_true rfl⟩ (Nat.le_of_ble_eq_true rfl) dX6_worthOf_57) hH (fun H locs hH => ?_)
            exact zreti C0 hH dX6_worthOf_60 hres rfl
          · skip
            refine ztabD (tgt := 61) hx hb [(0 : Int32), (1 : Int32), (2 : Int32), (3 : Int32), (4 : Int32)] (List.forall_mem_cons.mpr ⟨c1_1_0, (List.forall_mem_cons.mpr ⟨c1_1_1, (List.forall_mem_cons.mpr ⟨c1_1_2, (List.forall_mem_cons.mpr ⟨c1_1_3, (List.forall_mem_cons.mpr ⟨c1_1_4, (fun _ h => absurd h List.not_mem_nil)⟩)⟩)⟩)⟩)⟩) dX6_worthOf_1 (by decide) (by decide) (by decide) ?_
            refine lv_aload_n hx hb dX6_worthOf_61 rfl (lv_at hl 0 rfl) ?_
            refine zgR C0 hH zK6 0 (by decide) _ zR0 rfl kF_X6_9 dX6_worthOf_62 ?_
            refine lv_iconst (v := (2 : Int32)) hx hb dX6_worthOf_65 (by decide) ?_
            refine zaldK C0 hH zS31.is zS31.ln (k := 2) (by decide) (by unfold vp_in; decide) dX6_worthOf_66 ?_
            exact zreti C0 hH dX6_worthOf_67 hres rfl
