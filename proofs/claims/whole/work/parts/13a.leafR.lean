set_option maxRecDepth 100000 in
set_option maxHeartbeats 4000000 in
theorem c_X6_in (l : Launch) (D : va_G) (cy : Nat → ClassId) (ad : Nat → Nat) (M : zM) (p0 : Int32) (p1 : Int32) (p2 : Int32) : Met l yX6_in (Cond.code yX6_in cX6_in 3 (some .boolean) :: zG) ({ frames := 0, cells := 0, slots := 0, locals := 0 }) (zP D lyR cy ad [.int p0, .int p1, .int p2] M) (zQz D lyR cy ad (f_X6_in p0 p1 p2) M) 0 0 (zA lyR ad) := by
  generalize hres : (f_X6_in p0 p1 p2) = res
  refine zMet (by decide) (Nat.le_of_ble_eq_true rfl) ?_
  intro p e s m args below meth c ls C0 hH hl
  obtain ⟨⟨hx, hb, hml, hown, hts⟩, -⟩ := id C0
  have hz : ∀ w ∈ zG, w.before args s = true := fun w h => hts w (List.mem_cons_of_mem _ h)
  have hl : lv_has ls 3 [(0, .int p0), (1, .int p1), (2, .int p2)] := hl
  refine lv_iload_n hx hb dX6_in_0 rfl (lv_at hl 0 rfl) ?_
  refine lv_iload_n hx hb dX6_in_1 rfl (lv_at hl 1 rfl) ?_
  refine lv_icmp_lt (tgt := 14) hx hb dX6_in_2 (by decide) (fun c2_1 => ?_) (fun c2_1 => ?_)
  · have hres := zif_pos c2_1 hres
    refine lv_iconst (v := (0 : Int32)) hx hb dX6_in_14 (by decide) ?_
    exact zretz C0 hH dX6_in_15 (by first | exact Or.inl rfl | exact Or.inr rfl | assumption) hres rfl
  · have hres := zif_neg c2_1 hres
    refine lv_iload_n hx hb dX6_in_5 rfl (lv_at hl 0 rfl) ?_
    refine lv_iload_n hx hb dX6_in_6 rfl (lv_at hl 2 rfl) ?_
    refine lv_icmp_gt (tgt := 14) hx hb dX6_in_7 (by decide) (fun c7_2 => ?_) (fun c7_2 => ?_)
    · have hres := zif_pos c7_2 hres
      refine lv_iconst (v := (0 : Int32)) hx hb dX6_in_14 (by decide) ?_
      exact zretz C0 hH dX6_in_15 (by first | exact Or.inl rfl | exact Or.inr rfl | assumption) hres rfl
    · have hres := zif_neg c7_2 hres
      refine lv_iconst (v := (1 : Int32)) hx hb dX6_in_10 (by decide) ?_
      refine lv_goto (tgt := 15) hx hb dX6_in_11 (by decide) ?_
      exact zretz C0 hH dX6_in_15 (by first | exact Or.inl rfl | exact Or.inr rfl | assumption) hres rfl
set_option maxRecDepth 100000 in
set_option maxHeartbeats 4000000 in
theorem c_X6_lesser (l : Launch) (D : va_G) (cy : Nat → ClassId) (ad : Nat → Nat) (M : zM) (p0 : Int32) (p1 : Int32) : Met l yX6_lesser (Cond.code yX6_lesser cX6_lesser 2 (some .int) :: zG) ({ frames := 0, cells := 0, slots := 0, locals := 0 }) (zP D lyR cy ad [.int p0, .int p1] M) (zQi D lyR cy ad (f_X6_lesser p0 p1) M) 0 0 (zA lyR ad) := by
  generalize hres : (f_X6_lesser p0 p1) = res
  refine zMet (by decide) (Nat.le_of_ble_eq_true rfl) ?_
  intro p e s m args below meth c ls C0 hH hl
  obtain ⟨⟨hx, hb, hml, hown, hts⟩, -⟩ := id C0
  have hz : ∀ w ∈ zG, w.before args s = true := fun w h => hts w (List.mem_cons_of_mem _ h)
  have hl : lv_has ls 2 [(0, .int p0), (1, .int p1)] := hl
  refine lv_iload_n hx hb dX6_lesser_0 rfl (lv_at hl 0 rfl) ?_
  refine lv_iload_n hx hb dX6_lesser_1 rfl (lv_at hl 1 rfl) ?_
  refine lv_icmp_ge (tgt := 9) hx hb dX6_lesser_2 (by decide) (fun c2_1 => ?_) (fun c2_1 => ?_)
  · have hres := zif_pos c2_1 hres
    refine lv_iload_n hx hb dX6_lesser_9 rfl (lv_at hl 1 rfl) ?_
    exact zreti C0 hH dX6_lesser_10 hres rfl
  · have hres := zif_neg c2_1 hres
    refine lv_iload_n hx hb dX6_lesser_5 rfl (lv_at hl 0 rfl) ?_
    refine lv_goto (tgt := 10) hx hb dX6_lesser_6 (by decide) ?_
    exact zreti C0 hH dX6_lesser_10 hres rfl
set_option maxRecDepth 100000 in
set_option maxHeartbeats 4000000 in
theorem c_X6_greater (l : Launch) (D : va_G) (cy : Nat → ClassId) (ad : Nat → Nat) (M : zM) (p0 : Int32) (p1 : Int32) : Met l yX6_greater (Cond.code yX6_greater cX6_greater 2 (some .int) :: zG) ({ frames := 0, cells := 0, slots := 0, locals := 0 }) (zP D lyR cy ad [.int p0, .int p1] M) (zQi D lyR cy ad (f_X6_greater p0 p1) M) 0 0 (zA lyR ad) := by
  generalize hres : (f_X6_greater p0 p1) = res
  refine zMet (by decide) (Nat.le_of_ble_eq_true rfl) ?_
  intro p e s m args below meth c ls C0 hH hl
  obtain ⟨⟨hx, hb, hml, hown, hts⟩, -⟩ := id C0
  have hz : ∀ w ∈ zG, w.before args s = true := fun w h => hts w (List.mem_cons_of_mem _ h)
  have hl : lv_has ls 2 [(0, .int p0), (1, .int p1)] := hl
  refine lv_iload_n hx hb dX6_greater_0 rfl (lv_at hl 0 rfl) ?_
  refine lv_iload_n hx hb dX6_greater_1 rfl (lv_at hl 1 rfl) ?_
  refine lv_icmp_le (tgt := 9) hx hb dX6_greater_2 (by decide) (fun c2_1 => ?_) (fun c2_1 => ?_)
  · have hres := zif_pos c2_1 hres
    refine lv_iload_n hx hb dX6_greater_9 rfl (lv_at hl 1 rfl) ?_
    exact zreti C0 hH dX6_greater_10 hres rfl
  · have hres := zif_neg c2_1 hres
    refine lv_iload_n hx hb dX6_greater_5 rfl (lv_at hl 0 rfl) ?_
    refine lv_goto (tgt := 10) hx hb dX6_greater_6 (by decide) ?_
    exact zreti C0 hH dX6_greater_10 hres rfl
set_option maxRecDepth 100000 in
set_option maxHeartbeats 4000000 in
theorem c_X6_without (l : Launch) (D : va_G) (cy : Nat → ClassId) (ad : Nat → Nat) (M : zM) (p0 : Int32) : Met l yX6_without (Cond.code yX6_without cX6_without 1 (some .long) :: zG) ({ frames := 0, cells := 0, slots := 0, locals := 0 }) (zP D lyR cy ad [.int p0] M) (zQl D lyR cy ad (f_X6_without p0) M) 0 0 (zA lyR ad) := by
  generalize hres : (f_X6_without p0) = res
  refine zMet (by decide) (Nat.le_of_ble_eq_true rfl) ?_
  intro p e s m args below meth c ls C0 hH hl
  obtain ⟨⟨hx, hb, hml, hown, hts⟩, -⟩ := id C0
  have hz : ∀ w ∈ zG, w.before args s = true := fun w h => hts w (List.mem_cons_of_mem _ h)
  have hl : lv_has ls 1 [(0, .int p0)] := hl
  refine lv_iload_n hx hb dX6_without_0 rfl (lv_at hl 0 rfl) ?_
  refine lv_if_ge (tgt := 10) hx hb dX6_without_1 (by decide) (fun c1_1 => ?_) (fun c1_1 => ?_)
  · have hres := zif_pos c1_1 hres
    refine lv_iload_n hx hb dX6_without_10 rfl (lv_at hl 0 rfl) ?_
    refine lv_i2l hx hb dX6_without_11 rfl ?_
    exact zretl C0 hH dX6_without_12 hres rfl
  · have hres := zif_neg c1_1 hres
    refine lv_iload_n hx hb dX6_without_4 rfl (lv_at hl 0 rfl) ?_
    refine lv_i2l hx hb dX6_without_5 rfl ?_
    refine lv_lneg hx hb dX6_without_6 ?_
    refine lv_goto (tgt := 12) hx hb dX6_without_7 (by decide) ?_
    exact zretl C0 hH dX6_without_12 hres rfl
set_option maxRecDepth 100000 in
set_option maxHeartbeats 4000000 in
theorem c_X6_no (l : Launch) (D : va_G) (cy : Nat → ClassId) (ad : Nat → Nat) (M : zM) (p1 : Int32) (hq : 0 ≤ p1 ∧ p1 < 7) : Met l yX6_no (Cond.code yX6_no cX6_no 2 (some .int) :: zG) ({ frames := 0, cells := 0, slots := 0, locals := 0 }) (zP D lyR cy ad [.ref (ad 0), .int p1] M) (zQi D lyR cy ad (f_X6_no p1 M).1 (f_X6_no p1 M).2) 0 0 (zA lyR ad) := by
  generalize hres : (f_X6_no p1 M) = res
  refine zMet (by decide) (Nat.le_of_ble_eq_true rfl) ?_
  intro p e s m args below meth c ls C0 hH hl
  obtain ⟨⟨hx, hb, hml, hown, hts⟩, -⟩ := id C0
  have hz : ∀ w ∈ zG, w.before args s = true := fun w h => hts w (List.mem_cons_of_mem _ h)
  have hl : lv_has ls 2 [(0, .ref (ad 0)), (1, .int p1)] := hl
  have g0 := hH.many
  refine lv_aload_n hx hb dX6_no_0 rfl (lv_at hl 0 rfl) ?_
  refine zgR C0 hH zK6 6 (by decide) _ zR0 rfl kF_X6_22 dX6_no_1 ?_
  refine lv_iload_n hx hb dX6_no_4 rfl (lv_at hl 1 rfl) ?_
  refine lv_dup2_11 hx hb dX6_no_5 rfl rfl ?_
  refine zald C0 hH (zR_i (by decide) (by decide)) rfl (by exact zin7.mpr (by have q0 := hH.many; have q1 := hH.booked; have q2 := hH.coded; have q3 := hH.taped; have q4 := hH.here; have q5 := hH.ncode; clear hres; grind [f_X6_in, f_X6_isBlock, f_X6_isAhead, f_X6_isSheet])) dX6_no_6 ?_
  refine lv_iconst (v := (1 : Int32)) hx hb dX6_no_7 (by decide) ?_
  refine lv_iadd hx hb dX6_no_8 ?_
  refine zast C0 hH (zR_i (by decide) (by decide)) rfl (by exact zin7.mpr (by have q0 := hH.many; have q1 := hH.booked; have q2 := hH.coded; have q3 := hH.taped; have q4 := hH.here; have q5 := hH.ncode; clear hres; grind [f_X6_in, f_X6_isBlock, f_X6_isAhead, f_X6_isSheet])) zcn dX6_no_9 (fun H locs hH => ?_)
  refine lv_ldc (v := (-1000000001 : Int32)) hx hb hown (hz _ kK_X6_56) dX6_no_10 ?_
  refine lv_iload_n hx hb dX6_no_12 rfl (lv_at hl 1 rfl) ?_
  refine lv_isub hx hb dX6_no_13 ?_
  exact zreti C0 hH dX6_no_14 (zfst hres) (zsnd hres)
set_option maxRecDepth 100000 in
set_option maxHeartbeats 4000000 in
theorem c_X6_isBlock (l : Launch) (D : va_G) (cy : Nat → ClassId) (ad : Nat → Nat) (M : zM) (p1 : Int32) : Met l yX6_isBlock (Cond.code yX6_isBlock cX6_isBlock 2 (some .boolean) :: zG) ({ frames := 1, cells := 0, slots := 0, locals := 22 }) (zP D lyR cy ad [.ref (ad 0), .int p1] M) (zQz D lyR cy ad (f_X6_isBlock p1 M) M) 0 0 (zA lyR ad) := by
  generalize hres : (f_X6_isBlock p1 M) = res
  refine zMet (by decide) (Nat.le_of_ble_eq_true rfl) ?_
  intro p e s m args below meth c ls C0 hH hl
  obtain ⟨⟨hx, hb, hml, hown, hts⟩, -⟩ := id C0
  have hz : ∀ w ∈ zG, w.before args s = true := fun w h => hts w (List.mem_cons_of_mem _ h)
  have hl : lv_has ls 2 [(0, .ref (ad 0)), (1, .int p1)] := hl
  have g0 := hH.many
  refine lv_iload_n hx hb dX6_isBlock_0 rfl (lv_at hl 1 rfl) ?_
  refine lv_iconst (v := (0 : Int32)) hx hb dX6_isBlock_1 (by decide) ?_
  refine lv_aload_n hx hb dX6_isBlock_2 rfl (lv_at hl 0 rfl) ?_
  refine zgR C0 hH zK6 0 (by decide) _ zR0 rfl kF_X6_9 dX6_isBlock_3 ?_
  refine lv_iconst (v := (0 : Int32)) hx hb dX6_isBlock_6 (by decide) ?_
  refine zaldK C0 hH zS31.is zS31.ln (k := 0) (by decide) (by unfold vp_in; decide) dX6_isBlock_7 ?_
  refine lv_iconst (v := (1 : Int32)) hx hb dX6_isBlock_8 (by decide) ?_
  refine lv_isub hx hb dX6_isBlock_9 ?_
  refine zcz (zrunS C0 hH (c_X6_in l D cy ad _ _ _ _) kM_X6_57 kq_X6_in rfl hl.1 rfl rfl rfl ⟨Nat.le_of_ble_eq_true rfl, Nat.le_of_ble_eq_true rfl⟩ (Nat.le_of_ble_eq_true rfl) dX6_isBlock_10) hH (fun H locs hH h01_1 => ?_)
  exact zretz C0 hH dX6_isBlock_13 (by first | exact Or.inl rfl | exact Or.inr rfl | assumption) hres rfl
set_option maxRecDepth 100000 in
set_option maxHeartbeats 4000000 in
theorem c_X6_at (l : Launch) (D : va_G) (cy : Nat → ClassId) (ad : Nat → Nat) (M : zM) (p1 : Int32) (p2 : Int32) (hbk : 0 ≤ p1 ∧ p1 < 10) (hw : 0 ≤ p2 ∧ p2 ≤ 6) : Met l yX6_at (Cond.code yX6_at cX6_at 3 (some .int) :: zG) ({ frames := 0, cells := 0, slots := 0, locals := 0 }) (zP D lyR cy ad [.ref (ad 0), .int p1, .int p2] M) (zQi D lyR cy ad (f_X6_at p1 p2 M) M) 0 0 (zA lyR ad) := by
  generalize hres : (f_X6_at p1 p2 M) = res
  refine zMet (by decide) (Nat.le_of_ble_eq_true rfl) ?_
  intro p e s m args below meth c ls C0 hH hl
  obtain ⟨⟨hx, hb, hml, hown, hts⟩, -⟩ := id C0
  have hz : ∀ w ∈ zG, w.before args s = true := fun w h => hts w (List.mem_cons_of_mem _ h)
  have hl : lv_has ls 3 [(0, .ref (ad 0)), (1, .int p1), (2, .int p2)] := hl
  have g0 := hH.many
  refine lv_aload_n hx hb dX6_at_0 rfl (lv_at hl 0 rfl) ?_
  refine zgR C0 hH zK6 0 (by decide) _ zR0 rfl kF_X6_9 dX6_at_1 ?_
  refine lv_bipush (v := (78 : Int32)) hx hb dX6_at_4 (by decide) ?_
  refine lv_bipush (v := (7 : Int32)) hx hb dX6_at_6 (by decide) ?_
  refine lv_iload_n hx hb dX6_at_8 rfl (lv_at hl 1 rfl) ?_
  refine lv_imul hx hb dX6_at_9 ?_
  refine lv_iadd hx hb dX6_at_10 ?_
  refine lv_iload_n hx hb dX6_at_11 rfl (lv_at hl 2 rfl) ?_
  refine lv_iadd hx hb dX6_at_12 ?_
  refine zald C0 hH zS31.is zS31.ln (by exact zin448.mpr (by have q0 := hH.many; have q1 := hH.booked; have q2 := hH.coded; have q3 := hH.taped; have q4 := hH.here; have q5 := hH.ncode; clear hres; grind [f_X6_in, f_X6_isBlock, f_X6_isAhead, f_X6_isSheet])) dX6_at_13 ?_
  exact zreti C0 hH dX6_at_14 hres rfl
set_option maxRecDepth 100000 in
set_option maxHeartbeats 4000000 in
theorem c_X6_become (l : Launch) (D : va_G) (cy : Nat → ClassId) (ad : Nat → Nat) (M : zM) (p1 : Int32) (p2 : Int32) (p3 : Int32) (hbk : 0 ≤ p1 ∧ p1 < 10) (hw : 0 ≤ p2 ∧ p2 ≤ 6) : Met l yX6_become (Cond.code yX6_become cX6_become 5 (some .int) :: zG) ({ frames := 1, cells := 0, slots := 0, locals := 22 }) (zP D lyR cy ad [.ref (ad 0), .int p1, .int p2, .int p3] M) (zQi D lyR cy ad (f_X6_become p1 p2 p3 M).1 (f_X6_become p1 p2 p3 M).2) 0 0 (zA lyR ad) := by
  generalize hres : (f_X6_become p1 p2 p3 M) = res
  refine zMet (by decide) (Nat.le_of_ble_eq_true rfl) ?_
  intro p e s m args below meth c ls C0 hH hl
  obtain ⟨⟨hx, hb, hml, hown, hts⟩, -⟩ := id C0
  have hz : ∀ w ∈ zG, w.before args s = true := fun w h => hts w (List.mem_cons_of_mem _ h)
  have hl : lv_has ls 5 [(0, .ref (ad 0)), (1, .int p1), (2, .int p2), (3, .int p3)] := hl
  have g0 := hH.many
  refine lv_aload_n hx hb dX6_become_0 rfl (lv_at hl 0 rfl) ?_
  refine lv_iload_n hx hb dX6_become_1 rfl (lv_at hl 1 rfl) ?_
  refine lv_iload_n hx hb dX6_become_2 rfl (lv_at hl 2 rfl) ?_
  refine zci (zrunV C0 hH (c_X6_at l D cy ad _ _ _ (by first | assumption | (have q0 := hH.many; (try obtain ⟨qa, qb, -⟩ := hct); clear hres; grind [f_X6_in, f_X6_isBlock, f_X6_isAhead, f_X6_isSheet])) (by first | decide | assumption | (clear hres; grind [f_X6_in, f_X6_isBlock, f_X6_isAhead, f_X6_isSheet]))) kM_X6_61 zK6 kq_X6_at zR0 rfl hl.1 rfl rfl rfl ⟨Nat.le_of_ble_eq_true rfl, Nat.le_of_ble_eq_true rfl⟩ (Nat.le_of_ble_eq_true rfl) dX6_become_3) hH (fun H locs hH => ?_)
  refine lv_istore (lv' := [(4, _), (0, _), (1, _), (2, _), (3, _)]) hx hb dX6_become_6 hl (by decide) rfl (fun ls hl => ?_)
  refine lv_aload_n hx hb dX6_become_8 rfl (lv_at hl 1 rfl) ?_
  refine zgR C0 hH zK6 0 (by decide) _ zR0 rfl kF_X6_9 dX6_become_9 ?_
  refine lv_bipush (v := (78 : Int32)) hx hb dX6_become_12 (by decide) ?_
  refine lv_bipush (v := (7 : Int32)) hx hb dX6_become_14 (by decide) ?_
  refine lv_iload_n hx hb dX6_become_16 rfl (lv_at hl 2 rfl) ?_
  refine lv_imul hx hb dX6_become_17 ?_
  refine lv_iadd hx hb dX6_become_18 ?_
  refine lv_iload_n hx hb dX6_become_19 rfl (lv_at hl 3 rfl) ?_
  refine lv_iadd hx hb dX6_become_20 ?_
  refine lv_iload_n hx hb dX6_become_21 rfl (lv_at hl 4 rfl) ?_
  refine zast C0 hH zS31.is zS31.ln (by exact zin448.mpr (by have q0 := hH.many; have q1 := hH.booked; have q2 := hH.coded; have q3 := hH.taped; have q4 := hH.here; have q5 := hH.ncode; clear hres; grind [f_X6_in, f_X6_isBlock, f_X6_isAhead, f_X6_isSheet])) (by exact zfitS (by clear hres; grind [f_X6_in, f_X6_isBlock, f_X6_isAhead, f_X6_isSheet])) dX6_become_22 (fun H locs hH => ?_)
  refine lv_iload hx hb dX6_become_23 (lv_at hl 0 rfl) ?_
  exact zreti C0 hH dX6_become_25 (zfst hres) (zsnd hres)
set_option maxRecDepth 100000 in
set_option maxHeartbeats 4000000 in
theorem c_X6_plainHolds (l : Launch) (D : va_G) (cy : Nat → ClassId) (ad : Nat → Nat) (M : zM) (p1 : Int32) (p2 : Int32) (hbk : 0 ≤ p1 ∧ p1 < 10) : Met l yX6_plainHolds (Cond.code yX6_plainHolds cX6_plainHolds 3 (some .int) :: zG) ({ frames := 1, cells := 0, slots := 0, locals := 22 }) (zP D lyR cy ad [.ref (ad 0), .int p1, .int p2] M) (zQi D lyR cy ad (f_X6_plainHolds p1 p2 M) M) 0 0 (zA lyR ad) := by
  generalize hres : (f_X6_plainHolds p1 p2 M) = res
  refine zMet (by decide) (Nat.le_of_ble_eq_true rfl) ?_
  intro p e s m args below meth c ls C0 hH hl
  obtain ⟨⟨hx, hb, hml, hown, hts⟩, -⟩ := id C0
  have hz : ∀ w ∈ zG, w.before args s = true := fun w h => hts w (List.mem_cons_of_mem _ h)
  have hl : lv_has ls 3 [(0, .ref (ad 0)), (1, .int p1), (2, .int p2)] := hl
  have g0 := hH.many
  refine lv_aload_n hx hb dX6_plainHolds_0 rfl (lv_at hl 0 rfl) ?_
  refine lv_iload_n hx hb dX6_plainHolds_1 rfl (lv_at hl 1 rfl) ?_
  refine lv_iconst (v := (1 : Int32)) hx hb dX6_plainHolds_2 (by decide) ?_
  refine zci (zrunV C0 hH (c_X6_at l D cy ad _ _ _ (by first | assumption | (have q0 := hH.many; (try obtain ⟨qa, qb, -⟩ := hct); clear hres; grind [f_X6_in, f_X6_isBlock, f_X6_isAhead, f_X6_isSheet])) (by first | decide | assumption | (clear hres; grind [f_X6_in, f_X6_isBlock, f_X6_isAhead, f_X6_isSheet]))) kM_X6_61 zK6 kq_X6_at zR0 rfl hl.1 rfl rfl rfl ⟨Nat.le_of_ble_eq_true rfl, Nat.le_of_ble_eq_true rfl⟩ (Nat.le_of_ble_eq_true rfl) dX6_plainHolds_3) hH (fun H locs hH => ?_)
  refine lv_iload_n hx hb dX6_plainHolds_6 rfl (lv_at hl 2 rfl) ?_
  refine lv_iconst (v := (4 : Int32)) hx hb dX6_plainHolds_7 (by decide) ?_
  refine lv_idiv hx hb dX6_plainHolds_8 (by first | assumption | decide) ?_
  refine lv_bipush (v := (50 : Int32)) hx hb dX6_plainHolds_9 (by decide) ?_
  refine zci (zrunS C0 hH (c_X6_lesser l D cy ad _ _ _) kM_X6_65 kq_X6_lesser rfl hl.1 rfl rfl rfl ⟨Nat.le_of_ble_eq_true rfl, Nat.le_of_ble_eq_true rfl⟩ (Nat.le_of_ble_eq_true rfl) dX6_plainHolds_11) hH (fun H locs hH => ?_)
  refine lv_iadd hx hb dX6_plainHolds_14 ?_
  exact zreti C0 hH dX6_plainHolds_15 hres rfl
set_option maxRecDepth 100000 in
set_option maxHeartbeats 4000000 in
theorem c_X6_worthOf (l : Launch) (D : va_G) (cy : Nat → ClassId) (ad : Nat → Nat) (M : zM) (p1 : Int32) (p2 : Int32) (p3 : Int32) (hbk : 0 ≤ p2 ∧ p2 < 10) : Met l yX6_worthOf (Cond.code yX6_worthOf cX6_worthOf 4 (some .int) :: zG) ({ frames := 1, cells := 0, slots := 0, locals := 22 }) (zP D lyR cy ad [.ref (ad 0), .int p1, .int p2, .int p3] M) (zQi D lyR cy ad (f_X6_worthOf p1 p2 p3 M) M) 0 0 (zA lyR ad) := by
  generalize hres : (f_X6_worthOf p1 p2 p3 M) = res
  refine zMet (by decide) (Nat.le_of_ble_eq_true rfl) ?_
  intro p e s m args below meth c ls C0 hH hl
  obtain ⟨⟨hx, hb, hml, hown, hts⟩, -⟩ := id C0
  have hz : ∀ w ∈ zG, w.before args s = true := fun w h => hts w (List.mem_cons_of_mem _ h)
  have hl : lv_has ls 4 [(0, .ref (ad 0)), (1, .int p1), (2, .int p2), (3, .int p3)] := hl
  have g0 := hH.many
  refine lv_iload_n hx hb dX6_worthOf_0 rfl (lv_at hl 1 rfl) ?_
  refine zcase hres (fun c1_1_0 hres => ?_) (fun c1_1_0 hres => ?_)
  · refine ztab (tgt := 36) hx hb c1_1_0 dX6_worthOf_1 (by decide) (by decide) rfl (by decide) ?_
    refine lv_iload_n hx hb dX6_worthOf_36 rfl (lv_at hl 3 rfl) ?_
    exact zreti C0 hH dX6_worthOf_37 hres rfl
  · skip
    refine zcase hres (fun c1_1_1 hres => ?_) (fun c1_1_1 hres => ?_)
    · refine ztab (tgt := 38) hx hb c1_1_1 dX6_worthOf_1 (by decide) (by decide) rfl (by decide) ?_
      refine lv_aload_n hx hb dX6_worthOf_38 rfl (lv_at hl 0 rfl) ?_
      refine lv_iload_n hx hb dX6_worthOf_39 rfl (lv_at hl 2 rfl) ?_
      refine lv_iconst (v := (1 : Int32)) hx hb dX6_worthOf_40 (by decide) ?_
      refine zci (zrunV C0 hH (c_X6_at l D cy ad _ _ _ (by first | assumption | (have q0 := hH.many; (try obtain ⟨qa, qb, -⟩ := hct); clear hres; grind [f_X6_in, f_X6_isBlock, f_X6_isAhead, f_X6_isSheet])) (by first | decide | assumption | (clear hres; grind [f_X6_in, f_X6_isBlock, f_X6_isAhead, f_X6_isSheet]))) kM_X6_61 zK6 kq_X6_at zR0 rfl hl.1 rfl rfl rfl ⟨Nat.le_of_ble_eq_true rfl, Nat.le_of_ble_eq_true rfl⟩ (Nat.le_of_ble_eq_true rfl) dX6_worthOf_41) hH (fun H locs hH => ?_)
      exact zreti C0 hH dX6_worthOf_44 hres rfl
    · skip
      refine zcase hres (fun c1_1_2 hres => ?_) (fun c1_1_2 hres => ?_)
      · refine ztab (tgt := 45) hx hb c1_1_2 dX6_worthOf_1 (by decide) (by decide) rfl (by decide) ?_
        refine lv_aload_n hx hb dX6_worthOf_45 rfl (lv_at hl 0 rfl) ?_
        refine lv_iload_n hx hb dX6_worthOf_46 rfl (lv_at hl 2 rfl) ?_
        refine lv_iconst (v := (2 : Int32)) hx hb dX6_worthOf_47 (by decide) ?_
        refine zci (zrunV C0 hH (c_X6_at l D cy ad _ _ _ (by first | assumption | (have q0 := hH.many; (try obtain ⟨qa, qb, -⟩ := hct); clear hres; grind [f_X6_in, f_X6_isBlock, f_X6_isAhead, f_X6_isSheet])) (by first | decide | assumption | (clear hres; grind [f_X6_in, f_X6_isBlock, f_X6_isAhead, f_X6_isSheet]))) kM_X6_61 zK6 kq_X6_at zR0 rfl hl.1 rfl rfl rfl ⟨Nat.le_of_ble_eq_true rfl, Nat.le_of_ble_eq_true rfl⟩ (Nat.le_of_ble_eq_true rfl) dX6_worthOf_48) hH (fun H locs hH => ?_)
        exact zreti C0 hH dX6_worthOf_51 hres rfl
      · skip
        refine zcase hres (fun c1_1_3 hres => ?_) (fun c1_1_3 hres => ?_)
        · refine ztab (tgt := 52) hx hb c1_1_3 dX6_worthOf_1 (by decide) (by decide) rfl (by decide) ?_
          refine lv_iload_n hx hb dX6_worthOf_52 rfl (lv_at hl 2 rfl) ?_
          exact zreti C0 hH dX6_worthOf_53 hres rfl
        · skip
          refine zcase hres (fun c1_1_4 hres => ?_) (fun c1_1_4 hres => ?_)
          · refine ztab (tgt := 54) hx hb c1_1_4 dX6_worthOf_1 (by decide) (by decide) rfl (by decide) ?_
            refine lv_aload_n hx hb dX6_worthOf_54 rfl (lv_at hl 0 rfl) ?_
            refine lv_iload_n hx hb dX6_worthOf_55 rfl (lv_at hl 2 rfl) ?_
            refine lv_iconst (v := (4 : Int32)) hx hb dX6_worthOf_56 (by decide) ?_
            refine zci (zrunV C0 hH (c_X6_at l D cy ad _ _ _ (by first | assumption | (have q0 := hH.many; (try obtain ⟨qa, qb, -⟩ := hct); clear hres; grind [f_X6_in, f_X6_isBlock, f_X6_isAhead, f_X6_isSheet])) (by first | decide | assumption | (clear hres; grind [f_X6_in, f_X6_isBlock, f_X6_isAhead, f_X6_isSheet]))) kM_X6_61 zK6 kq_X6_at zR0 rfl hl.1 rfl rfl rfl ⟨Nat.le_of_ble_eq_true rfl, Nat.le_of_ble_eq_true rfl⟩ (Nat.le_of_ble_eq_true rfl) dX6_worthOf_57) hH (fun H locs hH => ?_)
            exact zreti C0 hH dX6_worthOf_60 hres rfl
          · skip
            refine ztabD (tgt := 61) hx hb [(0 : Int32), (1 : Int32), (2 : Int32), (3 : Int32), (4 : Int32)] (List.forall_mem_cons.mpr ⟨c1_1_0, (List.forall_mem_cons.mpr ⟨c1_1_1, (List.forall_mem_cons.mpr ⟨c1_1_2, (List.forall_mem_cons.mpr ⟨c1_1_3, (List.forall_mem_cons.mpr ⟨c1_1_4, (fun _ h => absurd h List.not_mem_nil)⟩)⟩)⟩)⟩)⟩) dX6_worthOf_1 (by decide) (by decide) (by decide) ?_
            refine lv_aload_n hx hb dX6_worthOf_61 rfl (lv_at hl 0 rfl) ?_
            refine zgR C0 hH zK6 0 (by decide) _ zR0 rfl kF_X6_9 dX6_worthOf_62 ?_
            refine lv_iconst (v := (2 : Int32)) hx hb dX6_worthOf_65 (by decide) ?_
            refine zaldK C0 hH zS31.is zS31.ln (k := 2) (by decide) (by unfold vp_in; decide) dX6_worthOf_66 ?_
            exact zreti C0 hH dX6_worthOf_67 hres rfl
set_option maxRecDepth 100000 in
set_option maxHeartbeats 4000000 in
theorem c_X6_done (l : Launch) (D : va_G) (cy : Nat → ClassId) (ad : Nat → Nat) (M : zM) (p0 : Int32) (p1 : Int32) (p2 : Int32) : Met l yX6_done (Cond.code yX6_done cX6_done 3 (some .int) :: zG) ({ frames := 1, cells := 0, slots := 0, locals := 21 }) (zP D lyR cy ad [.int p0, .int p1, .int p2] M) (zQi D lyR cy ad (f_X6_done p0 p1 p2) M) 0 0 (zA lyR ad) := by
  generalize hres : (f_X6_done p0 p1 p2) = res
  refine zMet (by decide) (Nat.le_of_ble_eq_true rfl) ?_
  intro p e s m args below meth c ls C0 hH hl
  obtain ⟨⟨hx, hb, hml, hown, hts⟩, -⟩ := id C0
  have hz : ∀ w ∈ zG, w.before args s = true := fun w h => hts w (List.mem_cons_of_mem _ h)
  have hl : lv_has ls 3 [(0, .int p0), (1, .int p1), (2, .int p2)] := hl
  refine lv_iload_n hx hb dX6_done_0 rfl (lv_at hl 0 rfl) ?_
  refine zcase hres (fun c1_1_2000 hres => ?_) (fun c1_1_2000 hres => ?_)
  · refine ztab (tgt := 32) hx hb c1_1_2000 dX6_done_1 (by decide) (by decide) rfl (by decide) ?_
    refine lv_iload_n hx hb dX6_done_32 rfl (lv_at hl 1 rfl) ?_
    refine lv_iload_n hx hb dX6_done_33 rfl (lv_at hl 2 rfl) ?_
    refine lv_iadd hx hb dX6_done_34 ?_
    exact zreti C0 hH dX6_done_35 hres rfl
  · skip
    refine zcase hres (fun c1_1_2001 hres => ?_) (fun c1_1_2001 hres => ?_)
    · refine ztab (tgt := 36) hx hb c1_1_2001 dX6_done_1 (by decide) (by decide) rfl (by decide) ?_
      refine lv_iload_n hx hb dX6_done_36 rfl (lv_at hl 1 rfl) ?_
      refine lv_iload_n hx hb dX6_done_37 rfl (lv_at hl 2 rfl) ?_
      refine lv_isub hx hb dX6_done_38 ?_
      exact zreti C0 hH dX6_done_39 hres rfl
    · skip
      refine zcase hres (fun c1_1_2002 hres => ?_) (fun c1_1_2002 hres => ?_)
      · refine ztab (tgt := 40) hx hb c1_1_2002 dX6_done_1 (by decide) (by decide) rfl (by decide) ?_
        refine lv_iload_n hx hb dX6_done_40 rfl (lv_at hl 1 rfl) ?_
        refine lv_iload_n hx hb dX6_done_41 rfl (lv_at hl 2 rfl) ?_
        refine lv_imul hx hb dX6_done_42 ?_
        exact zreti C0 hH dX6_done_43 hres rfl
      · skip
        refine zcase hres (fun c1_1_2003 hres => ?_) (fun c1_1_2003 hres => ?_)
        · refine ztab (tgt := 44) hx hb c1_1_2003 dX6_done_1 (by decide) (by decide) rfl (by decide) ?_
          refine lv_iload_n hx hb dX6_done_44 rfl (lv_at hl 2 rfl) ?_
          refine lv_if_ne (tgt := 52) hx hb dX6_done_45 (by decide) (fun c45_2 => ?_) (fun c45_2 => ?_)
          · have hres := zif_neg c45_2 hres
            refine lv_iload_n hx hb dX6_done_52 rfl (lv_at hl 2 rfl) ?_
            refine lv_iconst (v := (-1 : Int32)) hx hb dX6_done_53 (by decide) ?_
            refine lv_icmp_ne (tgt := 62) hx hb dX6_done_54 (by decide) (fun c54_3 => ?_) (fun c54_3 => ?_)
            · have hres := zif_neg c54_3 hres
              refine lv_iload_n hx hb dX6_done_62 rfl (lv_at hl 1 rfl) ?_
              refine lv_iload_n hx hb dX6_done_63 rfl (lv_at hl 2 rfl) ?_
              refine lv_idiv hx hb dX6_done_64 (by first | assumption | decide) ?_
              exact zreti C0 hH dX6_done_65 hres rfl
            · have hres := zif_pos c54_3 hres
              refine lv_iload_n hx hb dX6_done_57 rfl (lv_at hl 1 rfl) ?_
              refine lv_ineg hx hb dX6_done_58 ?_
              refine lv_goto (tgt := 65) hx hb dX6_done_59 (by decide) ?_
              exact zreti C0 hH dX6_done_65 hres rfl
          · have hres := zif_pos c45_2 hres
            refine lv_iconst (v := (0 : Int32)) hx hb dX6_done_48 (by decide) ?_
            refine lv_goto (tgt := 65) hx hb dX6_done_49 (by decide) ?_
            exact zreti C0 hH dX6_done_65 hres rfl
        · skip
          refine ztabD (tgt := 66) hx hb [(2000 : Int32), (2001 : Int32), (2002 : Int32), (2003 : Int32)] (List.forall_mem_cons.mpr ⟨c1_1_2000, (List.forall_mem_cons.mpr ⟨c1_1_2001, (List.forall_mem_cons.mpr ⟨c1_1_2002, (List.forall_mem_cons.mpr ⟨c1_1_2003, (fun _ h => absurd h List.not_mem_nil)⟩)⟩)⟩)⟩) dX6_done_1 (by decide) (by decide) (by decide) ?_
          refine lv_iload_n hx hb dX6_done_66 rfl (lv_at hl 1 rfl) ?_
          refine lv_iload_n hx hb dX6_done_67 rfl (lv_at hl 2 rfl) ?_
          refine zci (zrunS C0 hH (c_X6_greater l D cy ad _ _ _) kM_X6_71 kq_X6_greater rfl hl.1 rfl rfl rfl ⟨Nat.le_of_ble_eq_true rfl, Nat.le_of_ble_eq_true rfl⟩ (Nat.le_of_ble_eq_true rfl) dX6_done_68) hH (fun H locs hH => ?_)
          exact zreti C0 hH dX6_done_71 hres rfl
set_option maxRecDepth 100000 in
set_option maxHeartbeats 4000000 in
theorem c_X6_rubsOf (l : Launch) (D : va_G) (cy : Nat → ClassId) (ad : Nat → Nat) (M : zM) (p1 : Int32) (p2 : Int32) (hbk : 0 ≤ p1 ∧ p1 < 10) : Met l yX6_rubsOf (Cond.code yX6_rubsOf cX6_rubsOf 4 (some .int) :: zG) ({ frames := 1, cells := 0, slots := 0, locals := 22 }) (zP D lyR cy ad [.ref (ad 0), .int p1, .int p2] M) (zQi D lyR cy ad (f_X6_rubsOf p1 p2 M) M) 0 0 (zA lyR ad) := by
  generalize hres : (f_X6_rubsOf p1 p2 M) = res
  refine zMet (by decide) (Nat.le_of_ble_eq_true rfl) ?_
  intro p e s m args below meth c ls C0 hH hl
  obtain ⟨⟨hx, hb, hml, hown, hts⟩, -⟩ := id C0
  have hz : ∀ w ∈ zG, w.before args s = true := fun w h => hts w (List.mem_cons_of_mem _ h)
  have hl : lv_has ls 4 [(0, .ref (ad 0)), (1, .int p1), (2, .int p2)] := hl
  have g0 := hH.many
  refine lv_aload_n hx hb dX6_rubsOf_0 rfl (lv_at hl 0 rfl) ?_
  refine lv_iload_n hx hb dX6_rubsOf_1 rfl (lv_at hl 1 rfl) ?_
  refine lv_iconst (v := (2 : Int32)) hx hb dX6_rubsOf_2 (by decide) ?_
  refine zci (zrunV C0 hH (c_X6_at l D cy ad _ _ _ (by first | assumption | (have q0 := hH.many; (try obtain ⟨qa, qb, -⟩ := hct); clear hres; grind [f_X6_in, f_X6_isBlock, f_X6_isAhead, f_X6_isSheet])) (by first | decide | assumption | (clear hres; grind [f_X6_in, f_X6_isBlock, f_X6_isAhead, f_X6_isSheet]))) kM_X6_61 zK6 kq_X6_at zR0 rfl hl.1 rfl rfl rfl ⟨Nat.le_of_ble_eq_true rfl, Nat.le_of_ble_eq_true rfl⟩ (Nat.le_of_ble_eq_true rfl) dX6_rubsOf_3) hH (fun H locs hH => ?_)
  refine lv_istore_n (lv' := [(3, _), (0, _), (1, _), (2, _)]) hx hb dX6_rubsOf_6 rfl hl (by decide) rfl (fun ls hl => ?_)
  refine lv_aload_n hx hb dX6_rubsOf_7 rfl (lv_at hl 1 rfl) ?_
  refine lv_iload_n hx hb dX6_rubsOf_8 rfl (lv_at hl 2 rfl) ?_
  refine lv_iconst (v := (0 : Int32)) hx hb dX6_rubsOf_9 (by decide) ?_
  refine zci (zrunV C0 hH (c_X6_at l D cy ad _ _ _ (by first | assumption | (have q0 := hH.many; (try obtain ⟨qa, qb, -⟩ := hct); clear hres; grind [f_X6_in, f_X6_isBlock, f_X6_isAhead, f_X6_isSheet])) (by first | decide | assumption | (clear hres; grind [f_X6_in, f_X6_isBlock, f_X6_isAhead, f_X6_isSheet]))) kM_X6_61 zK6 kq_X6_at zR0 rfl hl.1 rfl rfl rfl ⟨Nat.le_of_ble_eq_true rfl, Nat.le_of_ble_eq_true rfl⟩ (Nat.le_of_ble_eq_true rfl) dX6_rubsOf_10) hH (fun H locs hH => ?_)
  refine zcase hres (fun c13_3_1 hres => ?_) (fun c13_3_1 hres => ?_)
  · refine ztab (tgt := 48) hx hb c13_3_1 dX6_rubsOf_13 (by decide) (by decide) rfl (by decide) ?_
    refine lv_iload_n hx hb dX6_rubsOf_48 rfl (lv_at hl 0 rfl) ?_
    exact zreti C0 hH dX6_rubsOf_49 hres rfl
  · skip
    refine zcase hres (fun c13_3_2 hres => ?_) (fun c13_3_2 hres => ?_)
    · refine ztab (tgt := 50) hx hb c13_3_2 dX6_rubsOf_13 (by decide) (by decide) rfl (by decide) ?_
      refine lv_sipush (v := (999 : Int32)) hx hb dX6_rubsOf_50 (by decide) ?_
      refine lv_iload_n hx hb dX6_rubsOf_53 rfl (lv_at hl 0 rfl) ?_
      refine lv_iconst (v := (2 : Int32)) hx hb dX6_rubsOf_54 (by decide) ?_
      refine lv_idiv hx hb dX6_rubsOf_55 (by first | assumption | decide) ?_
      refine lv_iload_n hx hb dX6_rubsOf_56 rfl (lv_at hl 3 rfl) ?_
      refine lv_iadd hx hb dX6_rubsOf_57 ?_
      refine zci (zrunS C0 hH (c_X6_lesser l D cy ad _ _ _) kM_X6_65 kq_X6_lesser rfl hl.1 rfl rfl rfl ⟨Nat.le_of_ble_eq_true rfl, Nat.le_of_ble_eq_true rfl⟩ (Nat.le_of_ble_eq_true rfl) dX6_rubsOf_58) hH (fun H locs hH => ?_)
      exact zreti C0 hH dX6_rubsOf_61 hres rfl
    · skip
      refine zcase hres (fun c13_3_4 hres => ?_) (fun c13_3_4 hres => ?_)
      · refine ztab (tgt := 48) hx hb c13_3_4 dX6_rubsOf_13 (by decide) (by decide) rfl (by decide) ?_
        refine lv_iload_n hx hb dX6_rubsOf_48 rfl (lv_at hl 0 rfl) ?_
        exact zreti C0 hH dX6_rubsOf_49 hres rfl
      · skip
        refine zcase hres (fun c13_3_5 hres => ?_) (fun c13_3_5 hres => ?_)
        · refine ztab (tgt := 50) hx hb c13_3_5 dX6_rubsOf_13 (by decide) (by decide) rfl (by decide) ?_
          refine lv_sipush (v := (999 : Int32)) hx hb dX6_rubsOf_50 (by decide) ?_
          refine lv_iload_n hx hb dX6_rubsOf_53 rfl (lv_at hl 0 rfl) ?_
          refine lv_iconst (v := (2 : Int32)) hx hb dX6_rubsOf_54 (by decide) ?_
          refine lv_idiv hx hb dX6_rubsOf_55 (by first | assumption | decide) ?_
          refine lv_iload_n hx hb dX6_rubsOf_56 rfl (lv_at hl 3 rfl) ?_
          refine lv_iadd hx hb dX6_rubsOf_57 ?_
          refine zci (zrunS C0 hH (c_X6_lesser l D cy ad _ _ _) kM_X6_65 kq_X6_lesser rfl hl.1 rfl rfl rfl ⟨Nat.le_of_ble_eq_true rfl, Nat.le_of_ble_eq_true rfl⟩ (Nat.le_of_ble_eq_true rfl) dX6_rubsOf_58) hH (fun H locs hH => ?_)
          exact zreti C0 hH dX6_rubsOf_61 hres rfl
        · skip
          refine ztabD (tgt := 62) hx hb [(1 : Int32), (2 : Int32), (4 : Int32), (5 : Int32)] (List.forall_mem_cons.mpr ⟨c13_3_1, (List.forall_mem_cons.mpr ⟨c13_3_2, (List.forall_mem_cons.mpr ⟨c13_3_4, (List.forall_mem_cons.mpr ⟨c13_3_5, (fun _ h => absurd h List.not_mem_nil)⟩)⟩)⟩)⟩) dX6_rubsOf_13 (by decide) (by decide) (by decide) ?_
          refine lv_iconst (v := (0 : Int32)) hx hb dX6_rubsOf_62 (by decide) ?_
          refine lv_iload_n hx hb dX6_rubsOf_63 rfl (lv_at hl 0 rfl) ?_
          refine lv_iload_n hx hb dX6_rubsOf_64 rfl (lv_at hl 3 rfl) ?_
          refine lv_isub hx hb dX6_rubsOf_65 ?_
          refine zci (zrunS C0 hH (c_X6_greater l D cy ad _ _ _) kM_X6_71 kq_X6_greater rfl hl.1 rfl rfl rfl ⟨Nat.le_of_ble_eq_true rfl, Nat.le_of_ble_eq_true rfl⟩ (Nat.le_of_ble_eq_true rfl) dX6_rubsOf_66) hH (fun H locs hH => ?_)
          exact zreti C0 hH dX6_rubsOf_69 hres rfl
set_option maxRecDepth 100000 in
set_option maxHeartbeats 4000000 in
theorem c_X6_placeOf (l : Launch) (D : va_G) (cy : Nat → ClassId) (ad : Nat → Nat) (M : zM) (p1 : Int32) (hbk : p1 < 10) : Met l yX6_placeOf (Cond.code yX6_placeOf cX6_placeOf 2 (some .int) :: zG) ({ frames := 1, cells := 0, slots := 0, locals := 22 }) (zP D lyR cy ad [.ref (ad 0), .int p1] M) (zQi D lyR cy ad (f_X6_placeOf p1 M) M) 0 0 (zA lyR ad) := by
  generalize hres : (f_X6_placeOf p1 M) = res
  refine zMet (by decide) (Nat.le_of_ble_eq_true rfl) ?_
  intro p e s m args below meth c ls C0 hH hl
  obtain ⟨⟨hx, hb, hml, hown, hts⟩, -⟩ := id C0
  have hz : ∀ w ∈ zG, w.before args s = true := fun w h => hts w (List.mem_cons_of_mem _ h)
  have hl : lv_has ls 2 [(0, .ref (ad 0)), (1, .int p1)] := hl
  have g0 := hH.many
  refine lv_iload_n hx hb dX6_placeOf_0 rfl (lv_at hl 1 rfl) ?_
  refine lv_if_ge (tgt := 13) hx hb dX6_placeOf_1 (by decide) (fun c1_1 => ?_) (fun c1_1 => ?_)
  · have hres := zif_pos c1_1 hres
    refine lv_aload_n hx hb dX6_placeOf_13 rfl (lv_at hl 0 rfl) ?_
    refine lv_iload_n hx hb dX6_placeOf_14 rfl (lv_at hl 1 rfl) ?_
    refine lv_iconst (v := (5 : Int32)) hx hb dX6_placeOf_15 (by decide) ?_
    refine zci (zrunV C0 hH (c_X6_at l D cy ad _ _ _ (by first | assumption | (have q0 := hH.many; (try obtain ⟨qa, qb, -⟩ := hct); clear hres; grind [f_X6_in, f_X6_isBlock, f_X6_isAhead, f_X6_isSheet])) (by first | decide | assumption | (clear hres; grind [f_X6_in, f_X6_isBlock, f_X6_isAhead, f_X6_isSheet]))) kM_X6_61 zK6 kq_X6_at zR0 rfl hl.1 rfl rfl rfl ⟨Nat.le_of_ble_eq_true rfl, Nat.le_of_ble_eq_true rfl⟩ (Nat.le_of_ble_eq_true rfl) dX6_placeOf_16) hH (fun H locs hH => ?_)
    exact zreti C0 hH dX6_placeOf_19 hres rfl
  · have hres := zif_neg c1_1 hres
    refine lv_aload_n hx hb dX6_placeOf_4 rfl (lv_at hl 0 rfl) ?_
    refine zgR C0 hH zK6 0 (by decide) _ zR0 rfl kF_X6_9 dX6_placeOf_5 ?_
    refine lv_iconst (v := (1 : Int32)) hx hb dX6_placeOf_8 (by decide) ?_
    refine zaldK C0 hH zS31.is zS31.ln (k := 1) (by decide) (by unfold vp_in; decide) dX6_placeOf_9 ?_
    refine lv_goto (tgt := 19) hx hb dX6_placeOf_10 (by decide) ?_
    exact zreti C0 hH dX6_placeOf_19 hres rfl
set_option maxRecDepth 100000 in
set_option maxHeartbeats 4000000 in
theorem c_X6_isLast (l : Launch) (D : va_G) (cy : Nat → ClassId) (ad : Nat → Nat) (M : zM) (p1 : Int32) : Met l yX6_isLast (Cond.code yX6_isLast cX6_isLast 2 (some .boolean) :: zG) ({ frames := 0, cells := 0, slots := 0, locals := 0 }) (zP D lyR cy ad [.ref (ad 0), .int p1] M) (zQz D lyR cy ad (f_X6_isLast p1 M) M) 0 0 (zA lyR ad) := by
  generalize hres : (f_X6_isLast p1 M) = res
  refine zMet (by decide) (Nat.le_of_ble_eq_true rfl) ?_
  intro p e s m args below meth c ls C0 hH hl
  obtain ⟨⟨hx, hb, hml, hown, hts⟩, -⟩ := id C0
  have hz : ∀ w ∈ zG, w.before args s = true := fun w h => hts w (List.mem_cons_of_mem _ h)
  have hl : lv_has ls 2 [(0, .ref (ad 0)), (1, .int p1)] := hl
  have g0 := hH.many
  refine lv_iload_n hx hb dX6_isLast_0 rfl (lv_at hl 1 rfl) ?_
  refine lv_aload_n hx hb dX6_isLast_1 rfl (lv_at hl 0 rfl) ?_
  refine zgR C0 hH zK6 0 (by decide) _ zR0 rfl kF_X6_9 dX6_isLast_2 ?_
  refine lv_iconst (v := (0 : Int32)) hx hb dX6_isLast_5 (by decide) ?_
  refine zaldK C0 hH zS31.is zS31.ln (k := 0) (by decide) (by unfold vp_in; decide) dX6_isLast_6 ?_
  refine lv_iconst (v := (1 : Int32)) hx hb dX6_isLast_7 (by decide) ?_
  refine lv_isub hx hb dX6_isLast_8 ?_
  refine lv_icmp_ne (tgt := 16) hx hb dX6_isLast_9 (by decide) (fun c9_1 => ?_) (fun c9_1 => ?_)
  · have hres := zif_neg c9_1 hres
    refine lv_iconst (v := (0 : Int32)) hx hb dX6_isLast_16 (by decide) ?_
    exact zretz C0 hH dX6_isLast_17 (by first | exact Or.inl rfl | exact Or.inr rfl | assumption) hres rfl
  · have hres := zif_pos c9_1 hres
    refine lv_iconst (v := (1 : Int32)) hx hb dX6_isLast_12 (by decide) ?_
    refine lv_goto (tgt := 17) hx hb dX6_isLast_13 (by decide) ?_
    exact zretz C0 hH dX6_isLast_17 (by first | exact Or.inl rfl | exact Or.inr rfl | assumption) hres rfl
set_option maxRecDepth 100000 in
set_option maxHeartbeats 4000000 in
theorem c_X6_pull (l : Launch) (D : va_G) (cy : Nat → ClassId) (ad : Nat → Nat) (M : zM) (p1 : Int32) (hm : 0 ≤ p1 ∧ p1 < M.1 1 0) : Met l yX6_pull (Cond.code yX6_pull cX6_pull 3 (some .int) :: zG) ({ frames := 2, cells := 0, slots := 0, locals := 43 }) (zP D lyR cy ad [.ref (ad 0), .int p1] M) (zQi D lyR cy ad (f_X6_pull p1 M) M) 0 0 (zA lyR ad) := by
  generalize hres : (f_X6_pull p1 M) = res
  refine zMet (by decide) (Nat.le_of_ble_eq_true rfl) ?_
  intro p e s m args below meth c ls C0 hH hl
  obtain ⟨⟨hx, hb, hml, hown, hts⟩, -⟩ := id C0
  have hz : ∀ w ∈ zG, w.before args s = true := fun w h => hts w (List.mem_cons_of_mem _ h)
  have hl : lv_has ls 3 [(0, .ref (ad 0)), (1, .int p1)] := hl
  have g0 := hH.many
  refine lv_aload_n hx hb dX6_pull_0 rfl (lv_at hl 0 rfl) ?_
  refine lv_iload_n hx hb dX6_pull_1 rfl (lv_at hl 1 rfl) ?_
  refine lv_iconst (v := (3 : Int32)) hx hb dX6_pull_2 (by decide) ?_
  refine zci (zrunV C0 hH (c_X6_at l D cy ad _ _ _ (by first | exact ⟨hm.1, Int32.lt_of_lt_of_le hm.2 g0.2⟩ | exact ⟨(il_X6 g0 hm (by assumption)).1, (il_X6 g0 hm (by assumption)).2.1⟩) (by decide)) kM_X6_61 zK6 kq_X6_at zR0 rfl hl.1 rfl rfl rfl ⟨Nat.le_of_ble_eq_true rfl, Nat.le_of_ble_eq_true rfl⟩ (Nat.le_of_ble_eq_true rfl) dX6_pull_3) hH (fun H locs hH => ?_)
  refine lv_aload_n hx hb dX6_pull_6 rfl (lv_at hl 0 rfl) ?_
  refine lv_iload_n hx hb dX6_pull_7 rfl (lv_at hl 1 rfl) ?_
  refine lv_iconst (v := (1 : Int32)) hx hb dX6_pull_8 (by decide) ?_
  refine lv_isub hx hb dX6_pull_9 ?_
  refine zci (zrunV C0 hH (c_X6_placeOf l D cy ad _ _ (by first | exact Int32.lt_of_lt_of_le hm.2 g0.2 | exact (il_X6 g0 hm (by assumption)).2.1 | (clear hres; grind))) kM_X6_77 zK6 kq_X6_placeOf zR0 rfl hl.1 rfl rfl rfl ⟨Nat.le_of_ble_eq_true rfl, Nat.le_of_ble_eq_true rfl⟩ (Nat.le_of_ble_eq_true rfl) dX6_pull_10) hH (fun H locs hH => ?_)
  refine lv_aload_n hx hb dX6_pull_13 rfl (lv_at hl 0 rfl) ?_
  refine lv_iload_n hx hb dX6_pull_14 rfl (lv_at hl 1 rfl) ?_
  refine zci (zrunV C0 hH (c_X6_placeOf l D cy ad _ _ (by first | exact Int32.lt_of_lt_of_le hm.2 g0.2 | exact (il_X6 g0 hm (by assumption)).2.1 | (clear hres; grind))) kM_X6_77 zK6 kq_X6_placeOf zR0 rfl hl.1 rfl rfl rfl ⟨Nat.le_of_ble_eq_true rfl, Nat.le_of_ble_eq_true rfl⟩ (Nat.le_of_ble_eq_true rfl) dX6_pull_15) hH (fun H locs hH => ?_)
  refine lv_isub hx hb dX6_pull_18 ?_
  refine lv_imul hx hb dX6_pull_19 ?_
  refine lv_istore_n (lv' := [(2, _), (0, _), (1, _)]) hx hb dX6_pull_20 rfl hl (by decide) rfl (fun ls hl => ?_)
  refine lv_aload_n hx hb dX6_pull_21 rfl (lv_at hl 1 rfl) ?_
  refine lv_iload_n hx hb dX6_pull_22 rfl (lv_at hl 2 rfl) ?_
  refine zcz (zrunV C0 hH (c_X6_isLast l D cy ad _ _) kM_X6_81 zK6 kq_X6_isLast zR0 rfl hl.1 rfl rfl rfl ⟨Nat.le_of_ble_eq_true rfl, Nat.le_of_ble_eq_true rfl⟩ (Nat.le_of_ble_eq_true rfl) dX6_pull_23) hH (fun H locs hH h01_5 => ?_)
  refine lv_if_eq (tgt := 33) hx hb dX6_pull_26 (by decide) (fun c26_7 => ?_) (fun c26_7 => ?_)
  · have hres := zif_pos c26_7 hres
    refine lv_iload_n hx hb dX6_pull_33 rfl (lv_at hl 0 rfl) ?_
    refine lv_aload_n hx hb dX6_pull_34 rfl (lv_at hl 1 rfl) ?_
    refine lv_iload_n hx hb dX6_pull_35 rfl (lv_at hl 2 rfl) ?_
    refine lv_iconst (v := (1 : Int32)) hx hb dX6_pull_36 (by decide) ?_
    refine lv_iadd hx hb dX6_pull_37 ?_
    refine lv_iconst (v := (3 : Int32)) hx hb dX6_pull_38 (by decide) ?_
    refine zci (zrunV C0 hH (c_X6_at l D cy ad _ _ _ (by first | exact ⟨hm.1, Int32.lt_of_lt_of_le hm.2 g0.2⟩ | exact ⟨(il_X6 g0 hm (by assumption)).1, (il_X6 g0 hm (by assumption)).2.1⟩) (by decide)) kM_X6_61 zK6 kq_X6_at zR0 rfl hl.1 rfl rfl rfl ⟨Nat.le_of_ble_eq_true rfl, Nat.le_of_ble_eq_true rfl⟩ (Nat.le_of_ble_eq_true rfl) dX6_pull_39) hH (fun H locs hH => ?_)
    refine lv_aload_n hx hb dX6_pull_42 rfl (lv_at hl 1 rfl) ?_
    refine lv_iload_n hx hb dX6_pull_43 rfl (lv_at hl 2 rfl) ?_
    refine zci (zrunV C0 hH (c_X6_placeOf l D cy ad _ _ (by first | exact Int32.lt_of_lt_of_le hm.2 g0.2 | exact (il_X6 g0 hm (by assumption)).2.1 | (clear hres; grind))) kM_X6_77 zK6 kq_X6_placeOf zR0 rfl hl.1 rfl rfl rfl ⟨Nat.le_of_ble_eq_true rfl, Nat.le_of_ble_eq_true rfl⟩ (Nat.le_of_ble_eq_true rfl) dX6_pull_44) hH (fun H locs hH => ?_)
    refine lv_aload_n hx hb dX6_pull_47 rfl (lv_at hl 1 rfl) ?_
    refine lv_iload_n hx hb dX6_pull_48 rfl (lv_at hl 2 rfl) ?_
    refine lv_iconst (v := (1 : Int32)) hx hb dX6_pull_49 (by decide) ?_
    refine lv_iadd hx hb dX6_pull_50 ?_
    refine zci (zrunV C0 hH (c_X6_placeOf l D cy ad _ _ (by first | exact Int32.lt_of_lt_of_le hm.2 g0.2 | exact (il_X6 g0 hm (by assumption)).2.1 | (clear hres; grind))) kM_X6_77 zK6 kq_X6_placeOf zR0 rfl hl.1 rfl rfl rfl ⟨Nat.le_of_ble_eq_true rfl, Nat.le_of_ble_eq_true rfl⟩ (Nat.le_of_ble_eq_true rfl) dX6_pull_51) hH (fun H locs hH => ?_)
    refine lv_isub hx hb dX6_pull_54 ?_
    refine lv_imul hx hb dX6_pull_55 ?_
    refine lv_isub hx hb dX6_pull_56 ?_
    exact zreti C0 hH dX6_pull_57 hres rfl
  · have hres := zif_neg c26_7 hres
    refine lv_iload_n hx hb dX6_pull_29 rfl (lv_at hl 0 rfl) ?_
    refine lv_goto (tgt := 57) hx hb dX6_pull_30 (by decide) ?_
    exact zreti C0 hH dX6_pull_57 hres rfl
set_option maxRecDepth 100000 in
set_option maxHeartbeats 4000000 in
theorem c_X6_springs (l : Launch) (D : va_G) (cy : Nat → ClassId) (ad : Nat → Nat) (M : zM) (p1 : Int32) (hm : 0 ≤ p1 ∧ p1 < M.1 1 0) : Met l yX6_springs (Cond.code yX6_springs cX6_springs 2 (some .int) :: zG) ({ frames := 1, cells := 0, slots := 0, locals := 22 }) (zP D lyR cy ad [.ref (ad 0), .int p1] M) (zQi D lyR cy ad (f_X6_springs p1 M) M) 0 0 (zA lyR ad) := by
  generalize hres : (f_X6_springs p1 M) = res
  refine zMet (by decide) (Nat.le_of_ble_eq_true rfl) ?_
  intro p e s m args below meth c ls C0 hH hl
  obtain ⟨⟨hx, hb, hml, hown, hts⟩, -⟩ := id C0
  have hz : ∀ w ∈ zG, w.before args s = true := fun w h => hts w (List.mem_cons_of_mem _ h)
  have hl : lv_has ls 2 [(0, .ref (ad 0)), (1, .int p1)] := hl
  have g0 := hH.many
  have J27 : ∀ (s0 : Int32) (s1 : Int32) (s2 : Int32) (H : Heap) (locs : List Loc) (ls : Array Slot), zH D lyR cy ad s.heap M H locs → lv_has ls 2 [] → f_X6_springs_27 p1 M s0 s1 s2 = res → W p l e { frames := 1, cells := 0, slots := 0, locals := 22 } s m args below meth c H locs 0 0 (MQ below (zQi D lyR cy ad res M) args s 0 0 (zA lyR ad)) (F0 m 27 ls [.int s0, .int s1, .int s2]) := by
    intro s0 s1 s2 H locs ls hH hl hres
    refine lv_iadd hx hb dX6_springs_27 ?_
    refine zci (zrunS C0 hH (c_X6_greater l D cy ad _ _ _) kM_X6_71 kq_X6_greater rfl hl.1 rfl rfl rfl ⟨Nat.le_of_ble_eq_true rfl, Nat.le_of_ble_eq_true rfl⟩ (Nat.le_of_ble_eq_true rfl) dX6_springs_28) hH (fun H locs hH => ?_)
    exact zreti C0 hH dX6_springs_31 hres rfl
  refine lv_iconst (v := (1 : Int32)) hx hb dX6_springs_0 (by decide) ?_
  refine lv_aload_n hx hb dX6_springs_1 rfl (lv_at hl 0 rfl) ?_
  refine lv_iload_n hx hb dX6_springs_2 rfl (lv_at hl 1 rfl) ?_
  refine lv_iconst (v := (3 : Int32)) hx hb dX6_springs_3 (by decide) ?_
  refine zci (zrunV C0 hH (c_X6_at l D cy ad _ _ _ (by first | exact ⟨hm.1, Int32.lt_of_lt_of_le hm.2 g0.2⟩ | exact ⟨(il_X6 g0 hm (by assumption)).1, (il_X6 g0 hm (by assumption)).2.1⟩) (by decide)) kM_X6_61 zK6 kq_X6_at zR0 rfl hl.1 rfl rfl rfl ⟨Nat.le_of_ble_eq_true rfl, Nat.le_of_ble_eq_true rfl⟩ (Nat.le_of_ble_eq_true rfl) dX6_springs_4) hH (fun H locs hH => ?_)
  refine lv_aload_n hx hb dX6_springs_7 rfl (lv_at hl 0 rfl) ?_
  refine lv_iload_n hx hb dX6_springs_8 rfl (lv_at hl 1 rfl) ?_
  refine zcz (zrunV C0 hH (c_X6_isLast l D cy ad _ _) kM_X6_81 zK6 kq_X6_isLast zR0 rfl hl.1 rfl rfl rfl ⟨Nat.le_of_ble_eq_true rfl, Nat.le_of_ble_eq_true rfl⟩ (Nat.le_of_ble_eq_true rfl) dX6_springs_9) hH (fun H locs hH h01_2 => ?_)
  refine lv_if_eq (tgt := 19) hx hb dX6_springs_12 (by decide) (fun c12_4 => ?_) (fun c12_4 => ?_)
  · have hres := zif_pos c12_4 hres
    refine lv_aload_n hx hb dX6_springs_19 rfl (lv_at hl 0 rfl) ?_
    refine lv_iload_n hx hb dX6_springs_20 rfl (lv_at hl 1 rfl) ?_
    refine lv_iconst (v := (1 : Int32)) hx hb dX6_springs_21 (by decide) ?_
    refine lv_iadd hx hb dX6_springs_22 ?_
    refine lv_iconst (v := (3 : Int32)) hx hb dX6_springs_23 (by decide) ?_
    refine zci (zrunV C0 hH (c_X6_at l D cy ad _ _ _ (by first | exact ⟨hm.1, Int32.lt_of_lt_of_le hm.2 g0.2⟩ | exact ⟨(il_X6 g0 hm (by assumption)).1, (il_X6 g0 hm (by assumption)).2.1⟩) (by decide)) kM_X6_61 zK6 kq_X6_at zR0 rfl hl.1 rfl rfl rfl ⟨Nat.le_of_ble_eq_true rfl, Nat.le_of_ble_eq_true rfl⟩ (Nat.le_of_ble_eq_true rfl) dX6_springs_24) hH (fun H locs hH => ?_)
    exact J27 _ _ _ _ _ _ hH (lv_sub hl [] rfl) hres
  · have hres := zif_neg c12_4 hres
    refine lv_iconst (v := (0 : Int32)) hx hb dX6_springs_15 (by decide) ?_
    refine lv_goto (tgt := 27) hx hb dX6_springs_16 (by decide) ?_
    exact J27 _ _ _ _ _ _ hH (lv_sub hl [] rfl) hres
set_option maxRecDepth 100000 in
set_option maxHeartbeats 4000000 in
theorem c_X6_block (l : Launch) (D : va_G) (cy : Nat → ClassId) (ad : Nat → Nat) (M : zM) (p1 : Int32) (p2 : Int32) (p3 : Int32) (p4 : Int32) : Met l yX6_block (Cond.code yX6_block cX6_block 6 (some .int) :: zG) ({ frames := 2, cells := 0, slots := 0, locals := 46 }) (zP D lyR cy ad [.ref (ad 0), .int p1, .int p2, .int p3, .int p4] M) (zQi D lyR cy ad (f_X6_block p1 p2 p3 p4 M).1 (f_X6_block p1 p2 p3 p4 M).2) 0 0 (zA lyR ad) := by
  generalize hres : (f_X6_block p1 p2 p3 p4 M) = res
  refine zMet (by decide) (Nat.le_of_ble_eq_true rfl) ?_
  intro p e s m args below meth c ls C0 hH hl
  obtain ⟨⟨hx, hb, hml, hown, hts⟩, -⟩ := id C0
  have hz : ∀ w ∈ zG, w.before args s = true := fun w h => hts w (List.mem_cons_of_mem _ h)
  have hl : lv_has ls 6 [(0, .ref (ad 0)), (1, .int p1), (2, .int p2), (3, .int p3), (4, .int p4)] := hl
  have g0 := hH.many
  have J42 : ∀ (mm : zM) (H : Heap) (locs : List Loc) (ls : Array Slot), zH D lyR cy ad s.heap mm H locs → lv_has ls 6 [(0, .ref (ad 0))] → f_X6_block_42 p1 p2 p3 p4 mm = res → W p l e { frames := 2, cells := 0, slots := 0, locals := 46 } s m args below meth c H locs 0 0 (MQ below (zQi D lyR cy ad res.1 res.2) args s 0 0 (zA lyR ad)) (F0 m 42 ls []) := by
    intro mm H locs ls hH hl hres
    refine lv_aload_n hx hb dX6_block_42 rfl (lv_at hl 0 rfl) ?_
    refine lv_iconst (v := (0 : Int32)) hx hb dX6_block_43 (by decide) ?_
    refine zci (zrunV C0 hH (c_X6_no l D cy ad _ _ (by decide)) kM_X6_85 zK6 kq_X6_no zR0 rfl hl.1 rfl rfl rfl ⟨Nat.le_of_ble_eq_true rfl, Nat.le_of_ble_eq_true rfl⟩ (Nat.le_of_ble_eq_true rfl) dX6_block_44) hH (fun H locs hH => ?_)
    exact zreti C0 hH dX6_block_47 (zfst hres) (zsnd hres)
  refine lv_iload_n hx hb dX6_block_0 rfl (lv_at hl 1 rfl) ?_
  refine lv_iconst (v := (0 : Int32)) hx hb dX6_block_1 (by decide) ?_
  refine lv_iconst (v := (5 : Int32)) hx hb dX6_block_2 (by decide) ?_
  refine zcz (zrunS C0 hH (c_X6_in l D cy ad _ _ _ _) kM_X6_57 kq_X6_in rfl hl.1 rfl rfl rfl ⟨Nat.le_of_ble_eq_true rfl, Nat.le_of_ble_eq_true rfl⟩ (Nat.le_of_ble_eq_true rfl) dX6_block_3) hH (fun H locs hH h01_1 => ?_)
  refine lv_if_eq (tgt := 42) hx hb dX6_block_6 (by decide) (fun c6_3 => ?_) (fun c6_3 => ?_)
  · have hres := zif_pos c6_3 hres
    exact J42 _ _ _ _ hH (lv_sub hl [0] rfl) hres
  · have hres := zif_neg c6_3 hres
    refine lv_iload_n hx hb dX6_block_9 rfl (lv_at hl 2 rfl) ?_
    refine lv_iconst (v := (1 : Int32)) hx hb dX6_block_10 (by decide) ?_
    refine lv_sipush (v := (999 : Int32)) hx hb dX6_block_11 (by decide) ?_
    refine zcz (zrunS C0 hH (c_X6_in l D cy ad _ _ _ _) kM_X6_57 kq_X6_in rfl hl.1 rfl rfl rfl ⟨Nat.le_of_ble_eq_true rfl, Nat.le_of_ble_eq_true rfl⟩ (Nat.le_of_ble_eq_true rfl) dX6_block_14) hH (fun H locs hH h01_4 => ?_)
    refine lv_if_eq (tgt := 42) hx hb dX6_block_17 (by decide) (fun c17_6 => ?_) (fun c17_6 => ?_)
    · have hres := zif_pos c17_6 hres
      exact J42 _ _ _ _ hH (lv_sub hl [0] rfl) hres
    · have hres := zif_neg c17_6 hres
      refine lv_iload_n hx hb dX6_block_20 rfl (lv_at hl 3 rfl) ?_
      refine lv_iconst (v := (0 : Int32)) hx hb dX6_block_21 (by decide) ?_
      refine lv_sipush (v := (999 : Int32)) hx hb dX6_block_22 (by decide) ?_
      refine zcz (zrunS C0 hH (c_X6_in l D cy ad _ _ _ _) kM_X6_57 kq_X6_in rfl hl.1 rfl rfl rfl ⟨Nat.le_of_ble_eq_true rfl, Nat.le_of_ble_eq_true rfl⟩ (Nat.le_of_ble_eq_true rfl) dX6_block_25) hH (fun H locs hH h01_7 => ?_)
      refine lv_if_eq (tgt := 42) hx hb dX6_block_28 (by decide) (fun c28_9 => ?_) (fun c28_9 => ?_)
      · have hres := zif_pos c28_9 hres
        exact J42 _ _ _ _ hH (lv_sub hl [0] rfl) hres
      · have hres := zif_neg c28_9 hres
        refine lv_iload hx hb dX6_block_31 (lv_at hl 4 rfl) ?_
        refine lv_iconst (v := (0 : Int32)) hx hb dX6_block_33 (by decide) ?_
        refine lv_bipush (v := (99 : Int32)) hx hb dX6_block_34 (by decide) ?_
        refine zcz (zrunS C0 hH (c_X6_in l D cy ad _ _ _ _) kM_X6_57 kq_X6_in rfl hl.1 rfl rfl rfl ⟨Nat.le_of_ble_eq_true rfl, Nat.le_of_ble_eq_true rfl⟩ (Nat.le_of_ble_eq_true rfl) dX6_block_36) hH (fun H locs hH h01_10 => ?_)
        refine lv_if_ne (tgt := 48) hx hb dX6_block_39 (by decide) (fun c39_12 => ?_) (fun c39_12 => ?_)
        · have hres := zif_neg c39_12 hres
          refine lv_aload_n hx hb dX6_block_48 rfl (lv_at hl 0 rfl) ?_
          refine zgR C0 hH zK6 0 (by decide) _ zR0 rfl kF_X6_9 dX6_block_49 ?_
          refine lv_iconst (v := (0 : Int32)) hx hb dX6_block_52 (by decide) ?_
          refine zaldK C0 hH zS31.is zS31.ln (k := 0) (by decide) (by unfold vp_in; decide) dX6_block_53 ?_
          refine lv_istore (lv' := [(5, _), (0, _), (1, _), (2, _), (3, _), (4, _)]) hx hb dX6_block_54 hl (by decide) rfl (fun ls hl => ?_)
          refine lv_iload hx hb dX6_block_56 (lv_at hl 0 rfl) ?_
          refine lv_bipush (v := (10 : Int32)) hx hb dX6_block_58 (by decide) ?_
          refine lv_icmp_ne (tgt := 69) hx hb dX6_block_60 (by decide) (fun c60_14 => ?_) (fun c60_14 => ?_)
          · have hres := zif_neg c60_14 hres
            refine lv_aload_n hx hb dX6_block_69 rfl (lv_at hl 1 rfl) ?_
            refine zgR C0 hH zK6 0 (by decide) _ zR0 rfl kF_X6_9 dX6_block_70 ?_
            refine lv_iconst (v := (0 : Int32)) hx hb dX6_block_73 (by decide) ?_
            refine lv_dup2_11 hx hb dX6_block_74 rfl rfl ?_
            refine zaldK C0 hH zS31.is zS31.ln (k := 0) (by decide) (by unfold vp_in; decide) dX6_block_75 ?_
            refine lv_iconst (v := (1 : Int32)) hx hb dX6_block_76 (by decide) ?_
            refine lv_iadd hx hb dX6_block_77 ?_
            refine zastK C0 hH zS31.is zS31.ln (k := 0) (by decide) (by unfold vp_in; decide) (zcs (by first | decide | (have q0 := hH.many; have q1 := hH.booked; have q2 := hH.coded; have q3 := hH.taped; have q4 := hH.here; have q5 := hH.ncode; clear hres; grind [f_X6_in, f_X6_isBlock, f_X6_isAhead, f_X6_isSheet]))) dX6_block_78 (fun H locs hH => ?_)
            refine lv_aload_n hx hb dX6_block_79 rfl (lv_at hl 1 rfl) ?_
            refine lv_iload hx hb dX6_block_80 (lv_at hl 0 rfl) ?_
            refine lv_iconst (v := (0 : Int32)) hx hb dX6_block_82 (by decide) ?_
            refine lv_iload_n hx hb dX6_block_83 rfl (lv_at hl 2 rfl) ?_
            refine zci (zrunV C0 hH (c_X6_become l D cy ad _ _ _ _ (by first | assumption | (have q0 := hH.many; (try obtain ⟨qa, qb, -⟩ := hct); clear hres; grind [f_X6_in, f_X6_isBlock, f_X6_isAhead, f_X6_isSheet])) (by first | decide | assumption | (clear hres; grind [f_X6_in, f_X6_isBlock, f_X6_isAhead, f_X6_isSheet]))) kM_X6_88 zK6 kq_X6_become zR0 rfl hl.1 rfl rfl rfl ⟨Nat.le_of_ble_eq_true rfl, Nat.le_of_ble_eq_true rfl⟩ (Nat.le_of_ble_eq_true rfl) dX6_block_84) hH (fun H locs hH => ?_)
            refine lv_pop hx hb dX6_block_87 rfl ?_
            refine lv_aload_n hx hb dX6_block_88 rfl (lv_at hl 1 rfl) ?_
            refine lv_iload hx hb dX6_block_89 (lv_at hl 0 rfl) ?_
            refine lv_iconst (v := (1 : Int32)) hx hb dX6_block_91 (by decide) ?_
            refine lv_iload_n hx hb dX6_block_92 rfl (lv_at hl 3 rfl) ?_
            refine zci (zrunV C0 hH (c_X6_become l D cy ad _ _ _ _ (by first | assumption | (have q0 := hH.many; (try obtain ⟨qa, qb, -⟩ := hct); clear hres; grind [f_X6_in, f_X6_isBlock, f_X6_isAhead, f_X6_isSheet])) (by first | decide | assumption | (clear hres; grind [f_X6_in, f_X6_isBlock, f_X6_isAhead, f_X6_isSheet]))) kM_X6_88 zK6 kq_X6_become zR0 rfl hl.1 rfl rfl rfl ⟨Nat.le_of_ble_eq_true rfl, Nat.le_of_ble_eq_true rfl⟩ (Nat.le_of_ble_eq_true rfl) dX6_block_93) hH (fun H locs hH => ?_)
            refine lv_pop hx hb dX6_block_96 rfl ?_
            refine lv_aload_n hx hb dX6_block_97 rfl (lv_at hl 1 rfl) ?_
            refine lv_iload hx hb dX6_block_98 (lv_at hl 0 rfl) ?_
            refine lv_iconst (v := (2 : Int32)) hx hb dX6_block_100 (by decide) ?_
            refine lv_iload_n hx hb dX6_block_101 rfl (lv_at hl 4 rfl) ?_
            refine zci (zrunV C0 hH (c_X6_become l D cy ad _ _ _ _ (by first | assumption | (have q0 := hH.many; (try obtain ⟨qa, qb, -⟩ := hct); clear hres; grind [f_X6_in, f_X6_isBlock, f_X6_isAhead, f_X6_isSheet])) (by first | decide | assumption | (clear hres; grind [f_X6_in, f_X6_isBlock, f_X6_isAhead, f_X6_isSheet]))) kM_X6_88 zK6 kq_X6_become zR0 rfl hl.1 rfl rfl rfl ⟨Nat.le_of_ble_eq_true rfl, Nat.le_of_ble_eq_true rfl⟩ (Nat.le_of_ble_eq_true rfl) dX6_block_102) hH (fun H locs hH => ?_)
            refine lv_pop hx hb dX6_block_105 rfl ?_
            refine lv_aload_n hx hb dX6_block_106 rfl (lv_at hl 1 rfl) ?_
            refine lv_iload hx hb dX6_block_107 (lv_at hl 0 rfl) ?_
            refine lv_iconst (v := (3 : Int32)) hx hb dX6_block_109 (by decide) ?_
            refine lv_iload hx hb dX6_block_110 (lv_at hl 5 rfl) ?_
            refine zci (zrunV C0 hH (c_X6_become l D cy ad _ _ _ _ (by first | assumption | (have q0 := hH.many; (try obtain ⟨qa, qb, -⟩ := hct); clear hres; grind [f_X6_in, f_X6_isBlock, f_X6_isAhead, f_X6_isSheet])) (by first | decide | assumption | (clear hres; grind [f_X6_in, f_X6_isBlock, f_X6_isAhead, f_X6_isSheet]))) kM_X6_88 zK6 kq_X6_become zR0 rfl hl.1 rfl rfl rfl ⟨Nat.le_of_ble_eq_true rfl, Nat.le_of_ble_eq_true rfl⟩ (Nat.le_of_ble_eq_true rfl) dX6_block_112) hH (fun H locs hH => ?_)
            refine lv_pop hx hb dX6_block_115 rfl ?_
            refine lv_aload_n hx hb dX6_block_116 rfl (lv_at hl 1 rfl) ?_
            refine lv_iload hx hb dX6_block_117 (lv_at hl 0 rfl) ?_
            refine lv_iconst (v := (4 : Int32)) hx hb dX6_block_119 (by decide) ?_
            refine lv_iconst (v := (0 : Int32)) hx hb dX6_block_120 (by decide) ?_
            refine zci (zrunV C0 hH (c_X6_become l D cy ad _ _ _ _ (by first | assumption | (have q0 := hH.many; (try obtain ⟨qa, qb, -⟩ := hct); clear hres; grind [f_X6_in, f_X6_isBlock, f_X6_isAhead, f_X6_isSheet])) (by first | decide | assumption | (clear hres; grind [f_X6_in, f_X6_isBlock, f_X6_isAhead, f_X6_isSheet]))) kM_X6_88 zK6 kq_X6_become zR0 rfl hl.1 rfl rfl rfl ⟨Nat.le_of_ble_eq_true rfl, Nat.le_of_ble_eq_true rfl⟩ (Nat.le_of_ble_eq_true rfl) dX6_block_121) hH (fun H locs hH => ?_)
            refine lv_pop hx hb dX6_block_124 rfl ?_
            refine lv_aload_n hx hb dX6_block_125 rfl (lv_at hl 1 rfl) ?_
            refine lv_iload hx hb dX6_block_126 (lv_at hl 0 rfl) ?_
            refine lv_iconst (v := (5 : Int32)) hx hb dX6_block_128 (by decide) ?_
            refine lv_iconst (v := (0 : Int32)) hx hb dX6_block_129 (by decide) ?_
            refine zci (zrunV C0 hH (c_X6_become l D cy ad _ _ _ _ (by first | assumption | (have q0 := hH.many; (try obtain ⟨qa, qb, -⟩ := hct); clear hres; grind [f_X6_in, f_X6_isBlock, f_X6_isAhead, f_X6_isSheet])) (by first | decide | assumption | (clear hres; grind [f_X6_in, f_X6_isBlock, f_X6_isAhead, f_X6_isSheet]))) kM_X6_88 zK6 kq_X6_become zR0 rfl hl.1 rfl rfl rfl ⟨Nat.le_of_ble_eq_true rfl, Nat.le_of_ble_eq_true rfl⟩ (Nat.le_of_ble_eq_true rfl) dX6_block_130) hH (fun H locs hH => ?_)
            refine lv_pop hx hb dX6_block_133 rfl ?_
            refine lv_aload_n hx hb dX6_block_134 rfl (lv_at hl 1 rfl) ?_
            refine lv_iload hx hb dX6_block_135 (lv_at hl 0 rfl) ?_
            refine lv_bipush (v := (6 : Int32)) hx hb dX6_block_137 (by decide) ?_
            refine lv_iconst (v := (0 : Int32)) hx hb dX6_block_139 (by decide) ?_
            refine zci (zrunV C0 hH (c_X6_become l D cy ad _ _ _ _ (by first | assumption | (have q0 := hH.many; (try obtain ⟨qa, qb, -⟩ := hct); clear hres; grind [f_X6_in, f_X6_isBlock, f_X6_isAhead, f_X6_isSheet])) (by first | decide | assumption | (clear hres; grind [f_X6_in, f_X6_isBlock, f_X6_isAhead, f_X6_isSheet]))) kM_X6_88 zK6 kq_X6_become zR0 rfl hl.1 rfl rfl rfl ⟨Nat.le_of_ble_eq_true rfl, Nat.le_of_ble_eq_true rfl⟩ (Nat.le_of_ble_eq_true rfl) dX6_block_140) hH (fun H locs hH => ?_)
            refine lv_pop hx hb dX6_block_143 rfl ?_
            refine lv_iload hx hb dX6_block_144 (lv_at hl 0 rfl) ?_
            exact zreti C0 hH dX6_block_146 (zfst hres) (zsnd hres)
          · have hres := zif_pos c60_14 hres
            refine lv_aload_n hx hb dX6_block_63 rfl (lv_at hl 1 rfl) ?_
            refine lv_iconst (v := (1 : Int32)) hx hb dX6_block_64 (by decide) ?_
            refine zci (zrunV C0 hH (c_X6_no l D cy ad _ _ (by decide)) kM_X6_85 zK6 kq_X6_no zR0 rfl hl.1 rfl rfl rfl ⟨Nat.le_of_ble_eq_true rfl, Nat.le_of_ble_eq_true rfl⟩ (Nat.le_of_ble_eq_true rfl) dX6_block_65) hH (fun H locs hH => ?_)
            exact zreti C0 hH dX6_block_68 (zfst hres) (zsnd hres)
        · have hres := zif_pos c39_12 hres
          exact J42 _ _ _ _ hH (lv_sub hl [0] rfl) hres
set_option maxRecDepth 100000 in
set_option maxHeartbeats 4000000 in
theorem c_X6_set (l : Launch) (D : va_G) (cy : Nat → ClassId) (ad : Nat → Nat) (M : zM) (p1 : Int32) (p2 : Int32) (p3 : Int32) : Met l yX6_set (Cond.code yX6_set cX6_set 4 (some .int) :: zG) ({ frames := 2, cells := 0, slots := 0, locals := 46 }) (zP D lyR cy ad [.ref (ad 0), .int p1, .int p2, .int p3] M) (zQi D lyR cy ad (f_X6_set p1 p2 p3 M).1 (f_X6_set p1 p2 p3 M).2) 0 0 (zA lyR ad) := by
  generalize hres : (f_X6_set p1 p2 p3 M) = res
  refine zMet (by decide) (Nat.le_of_ble_eq_true rfl) ?_
  intro p e s m args below meth c ls C0 hH hl
  obtain ⟨⟨hx, hb, hml, hown, hts⟩, -⟩ := id C0
  have hz : ∀ w ∈ zG, w.before args s = true := fun w h => hts w (List.mem_cons_of_mem _ h)
  have hl : lv_has ls 4 [(0, .ref (ad 0)), (1, .int p1), (2, .int p2), (3, .int p3)] := hl
  have g0 := hH.many
  have J47 : ∀ (mm : zM) (H : Heap) (locs : List Loc) (ls : Array Slot), zH D lyR cy ad s.heap mm H locs → lv_has ls 4 [(0, .ref (ad 0))] → f_X6_set_47 p1 p2 p3 mm = res → W p l e { frames := 2, cells := 0, slots := 0, locals := 46 } s m args below meth c H locs 0 0 (MQ below (zQi D lyR cy ad res.1 res.2) args s 0 0 (zA lyR ad)) (F0 m 47 ls []) := by
    intro mm H locs ls hH hl hres
    refine lv_aload_n hx hb dX6_set_47 rfl (lv_at hl 0 rfl) ?_
    refine lv_iconst (v := (0 : Int32)) hx hb dX6_set_48 (by decide) ?_
    refine zci (zrunV C0 hH (c_X6_no l D cy ad _ _ (by decide)) kM_X6_85 zK6 kq_X6_no zR0 rfl hl.1 rfl rfl rfl ⟨Nat.le_of_ble_eq_true rfl, Nat.le_of_ble_eq_true rfl⟩ (Nat.le_of_ble_eq_true rfl) dX6_set_49) hH (fun H locs hH => ?_)
    exact zreti C0 hH dX6_set_52 (zfst hres) (zsnd hres)
  have J41 : ∀ (s0 : Int32) (s1 : Int32) (s2 : Int32) (mm : zM) (H : Heap) (locs : List Loc) (ls : Array Slot), (0 ≤ p1 ∧ p1 < 10) → (0 ≤ p2 ∧ p2 ≤ 6) → zH D lyR cy ad s.heap mm H locs → lv_has ls 4 [(0, .ref (ad 0)), (1, .int p1), (2, .int p2), (3, .int p3)] → f_X6_set_41 p1 p2 p3 s0 s1 s2 mm = res → W p l e { frames := 2, cells := 0, slots := 0, locals := 46 } s m args below meth c H locs 0 0 (MQ below (zQi D lyR cy ad res.1 res.2) args s 0 0 (zA lyR ad)) (F0 m 41 ls [.int s0, .int s1, .int s2]) := by
    intro s0 s1 s2 mm H locs ls hbk hw hH hl hres
    refine zcz (zrunS C0 hH (c_X6_in l D cy ad _ _ _ _) kM_X6_57 kq_X6_in rfl hl.1 rfl rfl rfl ⟨Nat.le_of_ble_eq_true rfl, Nat.le_of_ble_eq_true rfl⟩ (Nat.le_of_ble_eq_true rfl) dX6_set_41) hH (fun H locs hH h01_10 => ?_)
    refine lv_if_ne (tgt := 53) hx hb dX6_set_44 (by decide) (fun c44_12 => ?_) (fun c44_12 => ?_)
    · have hres := zif_neg c44_12 hres
      refine lv_aload_n hx hb dX6_set_53 rfl (lv_at hl 0 rfl) ?_
      refine lv_iload_n hx hb dX6_set_54 rfl (lv_at hl 1 rfl) ?_
      refine lv_iload_n hx hb dX6_set_55 rfl (lv_at hl 2 rfl) ?_
      refine lv_iload_n hx hb dX6_set_56 rfl (lv_at hl 3 rfl) ?_
      refine zci (zrunV C0 hH (c_X6_become l D cy ad _ _ _ _ (by first | assumption | (have q0 := hH.many; (try obtain ⟨qa, qb, -⟩ := hct); clear hres; grind [f_X6_in, f_X6_isBlock, f_X6_isAhead, f_X6_isSheet])) (by first | decide | assumption | (clear hres; grind [f_X6_in, f_X6_isBlock, f_X6_isAhead, f_X6_isSheet]))) kM_X6_88 zK6 kq_X6_become zR0 rfl hl.1 rfl rfl rfl ⟨Nat.le_of_ble_eq_true rfl, Nat.le_of_ble_eq_true rfl⟩ (Nat.le_of_ble_eq_true rfl) dX6_set_57) hH (fun H locs hH => ?_)
      exact zreti C0 hH dX6_set_60 (zfst hres) (zsnd hres)
    · have hres := zif_pos c44_12 hres
      exact J47 _ _ _ _ hH (lv_sub hl [0] rfl) hres
  have J28 : ∀ (s0 : Int32) (s1 : Int32) (mm : zM) (H : Heap) (locs : List Loc) (ls : Array Slot), (0 ≤ p1 ∧ p1 < 10) → (0 ≤ p2 ∧ p2 ≤ 6) → zH D lyR cy ad s.heap mm H locs → lv_has ls 4 [(0, .ref (ad 0)), (1, .int p1), (2, .int p2), (3, .int p3)] → f_X6_set_28 p1 p2 p3 s0 s1 mm = res → W p l e { frames := 2, cells := 0, slots := 0, locals := 46 } s m args below meth c H locs 0 0 (MQ below (zQi D lyR cy ad res.1 res.2) args s 0 0 (zA lyR ad)) (F0 m 28 ls [.int s0, .int s1]) := by
    intro s0 s1 mm H locs ls hbk hw hH hl hres
    refine lv_iload_n hx hb dX6_set_28 rfl (lv_at hl 2 rfl) ?_
    refine lv_iconst (v := (3 : Int32)) hx hb dX6_set_29 (by decide) ?_
    refine lv_icmp_ge (tgt := 39) hx hb dX6_set_30 (by decide) (fun c30_9 => ?_) (fun c30_9 => ?_)
    · have hres := zif_pos c30_9 hres
      refine lv_bipush (v := (99 : Int32)) hx hb dX6_set_39 (by decide) ?_
      exact J41 _ _ _ _ _ _ _ (by first | assumption | (have q0 := hH.many; (try obtain ⟨qa, qb, -⟩ := hct); clear hres; grind [f_X6_in, f_X6_isBlock, f_X6_isAhead, f_X6_isSheet])) (by first | decide | assumption | (clear hres; grind [f_X6_in, f_X6_isBlock, f_X6_isAhead, f_X6_isSheet])) hH (lv_sub hl [0, 1, 2, 3] rfl) hres
    · have hres := zif_neg c30_9 hres
      refine lv_sipush (v := (999 : Int32)) hx hb dX6_set_33 (by decide) ?_
      refine lv_goto (tgt := 41) hx hb dX6_set_36 (by decide) ?_
      exact J41 _ _ _ _ _ _ _ (by first | assumption | (have q0 := hH.many; (try obtain ⟨qa, qb, -⟩ := hct); clear hres; grind [f_X6_in, f_X6_isBlock, f_X6_isAhead, f_X6_isSheet])) (by first | decide | assumption | (clear hres; grind [f_X6_in, f_X6_isBlock, f_X6_isAhead, f_X6_isSheet])) hH (lv_sub hl [0, 1, 2, 3] rfl) hres
  refine lv_aload_n hx hb dX6_set_0 rfl (lv_at hl 0 rfl) ?_
  refine lv_iload_n hx hb dX6_set_1 rfl (lv_at hl 1 rfl) ?_
  refine zcz (zrunV C0 hH (c_X6_isBlock l D cy ad _ _) kM_X6_92 zK6 kq_X6_isBlock zR0 rfl hl.1 rfl rfl rfl ⟨Nat.le_of_ble_eq_true rfl, Nat.le_of_ble_eq_true rfl⟩ (Nat.le_of_ble_eq_true rfl) dX6_set_2) hH (fun H locs hH h01_1 => ?_)
  refine lv_if_eq (tgt := 47) hx hb dX6_set_5 (by decide) (fun c5_3 => ?_) (fun c5_3 => ?_)
  · have hres := zif_pos c5_3 hres
    exact J47 _ _ _ _ hH (lv_sub hl [0] rfl) hres
  · have hres := zif_neg c5_3 hres
    refine lv_iload_n hx hb dX6_set_8 rfl (lv_at hl 2 rfl) ?_
    refine lv_iconst (v := (1 : Int32)) hx hb dX6_set_9 (by decide) ?_
    refine lv_iconst (v := (4 : Int32)) hx hb dX6_set_10 (by decide) ?_
    refine zcz (zrunS C0 hH (c_X6_in l D cy ad _ _ _ _) kM_X6_57 kq_X6_in rfl hl.1 rfl rfl rfl ⟨Nat.le_of_ble_eq_true rfl, Nat.le_of_ble_eq_true rfl⟩ (Nat.le_of_ble_eq_true rfl) dX6_set_11) hH (fun H locs hH h01_4 => ?_)
    refine lv_if_eq (tgt := 47) hx hb dX6_set_14 (by decide) (fun c14_6 => ?_) (fun c14_6 => ?_)
    · have hres := zif_pos c14_6 hres
      exact J47 _ _ _ _ hH (lv_sub hl [0] rfl) hres
    · have hres := zif_neg c14_6 hres
      refine lv_iload_n hx hb dX6_set_17 rfl (lv_at hl 3 rfl) ?_
      refine lv_iload_n hx hb dX6_set_18 rfl (lv_at hl 2 rfl) ?_
      refine lv_iconst (v := (1 : Int32)) hx hb dX6_set_19 (by decide) ?_
      refine lv_icmp_ne (tgt := 27) hx hb dX6_set_20 (by decide) (fun c20_7 => ?_) (fun c20_7 => ?_)
      · have hres := zif_neg c20_7 hres
        refine lv_iconst (v := (0 : Int32)) hx hb dX6_set_27 (by decide) ?_
        exact J28 _ _ _ _ _ _ (by first | assumption | (have q0 := hH.many; (try obtain ⟨qa, qb, -⟩ := hct); clear hres; grind [f_X6_in, f_X6_isBlock, f_X6_isAhead, f_X6_isSheet])) (by first | decide | assumption | (clear hres; grind [f_X6_in, f_X6_isBlock, f_X6_isAhead, f_X6_isSheet])) hH (lv_sub hl [0, 1, 2, 3] rfl) hres
      · have hres := zif_pos c20_7 hres
        refine lv_iconst (v := (1 : Int32)) hx hb dX6_set_23 (by decide) ?_
        refine lv_goto (tgt := 28) hx hb dX6_set_24 (by decide) ?_
        exact J28 _ _ _ _ _ _ (by first | assumption | (have q0 := hH.many; (try obtain ⟨qa, qb, -⟩ := hct); clear hres; grind [f_X6_in, f_X6_isBlock, f_X6_isAhead, f_X6_isSheet])) (by first | decide | assumption | (clear hres; grind [f_X6_in, f_X6_isBlock, f_X6_isAhead, f_X6_isSheet])) hH (lv_sub hl [0, 1, 2, 3] rfl) hres
set_option maxRecDepth 100000 in
set_option maxHeartbeats 4000000 in
theorem c_X6_isUnder (l : Launch) (D : va_G) (cy : Nat → ClassId) (ad : Nat → Nat) (M : zM) (p0 : Int32) (p1 : Int32) : Met l yX6_isUnder (Cond.code yX6_isUnder cX6_isUnder 2 (some .boolean) :: zG) ({ frames := 0, cells := 0, slots := 0, locals := 0 }) (zP D lyR cy ad [.int p0, .int p1] M) (zQz D lyR cy ad (f_X6_isUnder p0 p1) M) 0 0 (zA lyR ad) := by
  generalize hres : (f_X6_isUnder p0 p1) = res
  refine zMet (by decide) (Nat.le_of_ble_eq_true rfl) ?_
  intro p e s m args below meth c ls C0 hH hl
  obtain ⟨⟨hx, hb, hml, hown, hts⟩, -⟩ := id C0
  have hz : ∀ w ∈ zG, w.before args s = true := fun w h => hts w (List.mem_cons_of_mem _ h)
  have hl : lv_has ls 2 [(0, .int p0), (1, .int p1)] := hl
  have J19 : ∀  (H : Heap) (locs : List Loc) (ls : Array Slot), zH D lyR cy ad s.heap M H locs → lv_has ls 2 [(0, .int p0), (1, .int p1)] → f_X6_isUnder_19 p0 p1 = res → W p l e { frames := 0, cells := 0, slots := 0, locals := 0 } s m args below meth c H locs 0 0 (MQ below (zQz D lyR cy ad res M) args s 0 0 (zA lyR ad)) (F0 m 19 ls []) := by
    intro H locs ls hH hl hres
    refine lv_iload_n hx hb dX6_isUnder_19 rfl (lv_at hl 1 rfl) ?_
    refine lv_iconst (v := (2 : Int32)) hx hb dX6_isUnder_20 (by decide) ?_
    refine lv_icmp_ne (tgt := 33) hx hb dX6_isUnder_21 (by decide) (fun c21_5 => ?_) (fun c21_5 => ?_)
    · have hres := zif_neg c21_5 hres
      refine lv_iconst (v := (0 : Int32)) hx hb dX6_isUnder_33 (by decide) ?_
      exact zretz C0 hH dX6_isUnder_34 (by first | exact Or.inl rfl | exact Or.inr rfl | assumption) hres rfl
    · have hres := zif_pos c21_5 hres
      refine lv_iload_n hx hb dX6_isUnder_24 rfl (lv_at hl 0 rfl) ?_
      refine lv_iconst (v := (5 : Int32)) hx hb dX6_isUnder_25 (by decide) ?_
      refine lv_icmp_ne (tgt := 33) hx hb dX6_isUnder_26 (by decide) (fun c26_6 => ?_) (fun c26_6 => ?_)
      · have hres := zif_neg c26_6 hres
        refine lv_iconst (v := (0 : Int32)) hx hb dX6_isUnder_33 (by decide) ?_
        exact zretz C0 hH dX6_isUnder_34 (by first | exact Or.inl rfl | exact Or.inr rfl | assumption) hres rfl
      · have hres := zif_pos c26_6 hres
        refine lv_iconst (v := (1 : Int32)) hx hb dX6_isUnder_29 (by decide) ?_
        refine lv_goto (tgt := 34) hx hb dX6_isUnder_30 (by decide) ?_
        exact zretz C0 hH dX6_isUnder_34 (by first | exact Or.inl rfl | exact Or.inr rfl | assumption) hres rfl
  refine lv_iload_n hx hb dX6_isUnder_0 rfl (lv_at hl 1 rfl) ?_
  refine lv_if_eq (tgt := 29) hx hb dX6_isUnder_1 (by decide) (fun c1_1 => ?_) (fun c1_1 => ?_)
  · have hres := zif_pos c1_1 hres
    refine lv_iconst (v := (1 : Int32)) hx hb dX6_isUnder_29 (by decide) ?_
    refine lv_goto (tgt := 34) hx hb dX6_isUnder_30 (by decide) ?_
    exact zretz C0 hH dX6_isUnder_34 (by first | exact Or.inl rfl | exact Or.inr rfl | assumption) hres rfl
  · have hres := zif_neg c1_1 hres
    refine lv_iload_n hx hb dX6_isUnder_4 rfl (lv_at hl 0 rfl) ?_
    refine lv_iload_n hx hb dX6_isUnder_5 rfl (lv_at hl 1 rfl) ?_
    refine lv_icmp_eq (tgt := 29) hx hb dX6_isUnder_6 (by decide) (fun c6_2 => ?_) (fun c6_2 => ?_)
    · have hres := zif_pos c6_2 hres
      refine lv_iconst (v := (1 : Int32)) hx hb dX6_isUnder_29 (by decide) ?_
      refine lv_goto (tgt := 34) hx hb dX6_isUnder_30 (by decide) ?_
      exact zretz C0 hH dX6_isUnder_34 (by first | exact Or.inl rfl | exact Or.inr rfl | assumption) hres rfl
    · have hres := zif_neg c6_2 hres
      refine lv_iload_n hx hb dX6_isUnder_9 rfl (lv_at hl 1 rfl) ?_
      refine lv_iconst (v := (1 : Int32)) hx hb dX6_isUnder_10 (by decide) ?_
      refine lv_icmp_ne (tgt := 19) hx hb dX6_isUnder_11 (by decide) (fun c11_3 => ?_) (fun c11_3 => ?_)
      · have hres := zif_neg c11_3 hres
        exact J19 _ _ _ hH (lv_sub hl [0, 1] rfl) hres
      · have hres := zif_pos c11_3 hres
        refine lv_iload_n hx hb dX6_isUnder_14 rfl (lv_at hl 0 rfl) ?_
        refine lv_iconst (v := (4 : Int32)) hx hb dX6_isUnder_15 (by decide) ?_
        refine lv_icmp_eq (tgt := 29) hx hb dX6_isUnder_16 (by decide) (fun c16_4 => ?_) (fun c16_4 => ?_)
        · have hres := zif_pos c16_4 hres
          refine lv_iconst (v := (1 : Int32)) hx hb dX6_isUnder_29 (by decide) ?_
          refine lv_goto (tgt := 34) hx hb dX6_isUnder_30 (by decide) ?_
          exact zretz C0 hH dX6_isUnder_34 (by first | exact Or.inl rfl | exact Or.inr rfl | assumption) hres rfl
        · have hres := zif_neg c16_4 hres
          exact J19 _ _ _ hH (lv_sub hl [0, 1] rfl) hres
set_option maxRecDepth 100000 in
set_option maxHeartbeats 4000000 in
theorem c_X6_rubs (l : Launch) (D : va_G) (cy : Nat → ClassId) (ad : Nat → Nat) (M : zM) (p1 : Int32) (p2 : Int32) : Met l yX6_rubs (Cond.code yX6_rubs cX6_rubs 3 (some .int) :: zG) ({ frames := 2, cells := 0, slots := 0, locals := 45 }) (zP D lyR cy ad [.ref (ad 0), .int p1, .int p2] M) (zQi D lyR cy ad (f_X6_rubs p1 p2 M).1 (f_X6_rubs p1 p2 M).2) 0 0 (zA lyR ad) := by
  generalize hres : (f_X6_rubs p1 p2 M) = res
  refine zMet (by decide) (Nat.le_of_ble_eq_true rfl) ?_
  intro p e s m args below meth c ls C0 hH hl
  obtain ⟨⟨hx, hb, hml, hown, hts⟩, -⟩ := id C0
  have hz : ∀ w ∈ zG, w.before args s = true := fun w h => hts w (List.mem_cons_of_mem _ h)
  have hl : lv_has ls 3 [(0, .ref (ad 0)), (1, .int p1), (2, .int p2)] := hl
  have g0 := hH.many
  have J28 : ∀ (mm : zM) (H : Heap) (locs : List Loc) (ls : Array Slot), zH D lyR cy ad s.heap mm H locs → lv_has ls 3 [(0, .ref (ad 0))] → f_X6_rubs_28 p1 p2 mm = res → W p l e { frames := 2, cells := 0, slots := 0, locals := 45 } s m args below meth c H locs 0 0 (MQ below (zQi D lyR cy ad res.1 res.2) args s 0 0 (zA lyR ad)) (F0 m 28 ls []) := by
    intro mm H locs ls hH hl hres
    refine lv_aload_n hx hb dX6_rubs_28 rfl (lv_at hl 0 rfl) ?_
    refine lv_iconst (v := (0 : Int32)) hx hb dX6_rubs_29 (by decide) ?_
    refine zci (zrunV C0 hH (c_X6_no l D cy ad _ _ (by decide)) kM_X6_85 zK6 kq_X6_no zR0 rfl hl.1 rfl rfl rfl ⟨Nat.le_of_ble_eq_true rfl, Nat.le_of_ble_eq_true rfl⟩ (Nat.le_of_ble_eq_true rfl) dX6_rubs_30) hH (fun H locs hH => ?_)
    exact zreti C0 hH dX6_rubs_33 (zfst hres) (zsnd hres)
  refine lv_aload_n hx hb dX6_rubs_0 rfl (lv_at hl 0 rfl) ?_
  refine lv_iload_n hx hb dX6_rubs_1 rfl (lv_at hl 1 rfl) ?_
  refine zcz (zrunV C0 hH (c_X6_isBlock l D cy ad _ _) kM_X6_92 zK6 kq_X6_isBlock zR0 rfl hl.1 rfl rfl rfl ⟨Nat.le_of_ble_eq_true rfl, Nat.le_of_ble_eq_true rfl⟩ (Nat.le_of_ble_eq_true rfl) dX6_rubs_2) hH (fun H locs hH h01_1 => ?_)
  refine lv_if_eq (tgt := 28) hx hb dX6_rubs_5 (by decide) (fun c5_3 => ?_) (fun c5_3 => ?_)
  · have hres := zif_pos c5_3 hres
    exact J28 _ _ _ _ hH (lv_sub hl [0] rfl) hres
  · have hres := zif_neg c5_3 hres
    refine lv_iload_n hx hb dX6_rubs_8 rfl (lv_at hl 2 rfl) ?_
    refine lv_iconst (v := (0 : Int32)) hx hb dX6_rubs_9 (by decide) ?_
    refine lv_sipush (v := (999 : Int32)) hx hb dX6_rubs_10 (by decide) ?_
    refine zcz (zrunS C0 hH (c_X6_in l D cy ad _ _ _ _) kM_X6_57 kq_X6_in rfl hl.1 rfl rfl rfl ⟨Nat.le_of_ble_eq_true rfl, Nat.le_of_ble_eq_true rfl⟩ (Nat.le_of_ble_eq_true rfl) dX6_rubs_13) hH (fun H locs hH h01_4 => ?_)
    refine lv_if_eq (tgt := 28) hx hb dX6_rubs_16 (by decide) (fun c16_6 => ?_) (fun c16_6 => ?_)
    · have hres := zif_pos c16_6 hres
      exact J28 _ _ _ _ hH (lv_sub hl [0] rfl) hres
    · have hres := zif_neg c16_6 hres
      refine lv_aload_n hx hb dX6_rubs_19 rfl (lv_at hl 0 rfl) ?_
      refine lv_iload_n hx hb dX6_rubs_20 rfl (lv_at hl 1 rfl) ?_
      refine lv_iload_n hx hb dX6_rubs_21 rfl (lv_at hl 2 rfl) ?_
      refine zci (zrunV C0 hH (c_X6_rubsOf l D cy ad _ _ _ (by first | assumption | (have q0 := hH.many; (try obtain ⟨qa, qb, -⟩ := hct); clear hres; grind [f_X6_in, f_X6_isBlock, f_X6_isAhead, f_X6_isSheet]))) kM_X6_105 zK6 kq_X6_rubsOf zR0 rfl hl.1 rfl rfl rfl ⟨Nat.le_of_ble_eq_true rfl, Nat.le_of_ble_eq_true rfl⟩ (Nat.le_of_ble_eq_true rfl) dX6_rubs_22) hH (fun H locs hH => ?_)
      refine lv_goto (tgt := 33) hx hb dX6_rubs_25 (by decide) ?_
      exact zreti C0 hH dX6_rubs_33 (zfst hres) (zsnd hres)
set_option maxRecDepth 100000 in
set_option maxHeartbeats 4000000 in
theorem c_X6_push (l : Launch) (D : va_G) (cy : Nat → ClassId) (ad : Nat → Nat) (M : zM) (p1 : Int32) (p2 : Int32) : Met l yX6_push (Cond.code yX6_push cX6_push 3 (some .int) :: zG) ({ frames := 2, cells := 0, slots := 0, locals := 46 }) (zP D lyR cy ad [.ref (ad 0), .int p1, .int p2] M) (zQi D lyR cy ad (f_X6_push p1 p2 M).1 (f_X6_push p1 p2 M).2) 0 0 (zA lyR ad) := by
  generalize hres : (f_X6_push p1 p2 M) = res
  refine zMet (by decide) (Nat.le_of_ble_eq_true rfl) ?_
  intro p e s m args below meth c ls C0 hH hl
  obtain ⟨⟨hx, hb, hml, hown, hts⟩, -⟩ := id C0
  have hz : ∀ w ∈ zG, w.before args s = true := fun w h => hts w (List.mem_cons_of_mem _ h)
  have hl : lv_has ls 3 [(0, .ref (ad 0)), (1, .int p1), (2, .int p2)] := hl
  have g0 := hH.many
  have J21 : ∀ (mm : zM) (H : Heap) (locs : List Loc) (ls : Array Slot), zH D lyR cy ad s.heap mm H locs → lv_has ls 3 [(0, .ref (ad 0))] → f_X6_push_21 p1 p2 mm = res → W p l e { frames := 2, cells := 0, slots := 0, locals := 46 } s m args below meth c H locs 0 0 (MQ below (zQi D lyR cy ad res.1 res.2) args s 0 0 (zA lyR ad)) (F0 m 21 ls []) := by
    intro mm H locs ls hH hl hres
    refine lv_aload_n hx hb dX6_push_21 rfl (lv_at hl 0 rfl) ?_
    refine lv_iconst (v := (0 : Int32)) hx hb dX6_push_22 (by decide) ?_
    refine zci (zrunV C0 hH (c_X6_no l D cy ad _ _ (by decide)) kM_X6_85 zK6 kq_X6_no zR0 rfl hl.1 rfl rfl rfl ⟨Nat.le_of_ble_eq_true rfl, Nat.le_of_ble_eq_true rfl⟩ (Nat.le_of_ble_eq_true rfl) dX6_push_23) hH (fun H locs hH => ?_)
    exact zreti C0 hH dX6_push_26 (zfst hres) (zsnd hres)
  refine lv_aload_n hx hb dX6_push_0 rfl (lv_at hl 0 rfl) ?_
  refine lv_iload_n hx hb dX6_push_1 rfl (lv_at hl 1 rfl) ?_
  refine zcz (zrunV C0 hH (c_X6_isBlock l D cy ad _ _) kM_X6_92 zK6 kq_X6_isBlock zR0 rfl hl.1 rfl rfl rfl ⟨Nat.le_of_ble_eq_true rfl, Nat.le_of_ble_eq_true rfl⟩ (Nat.le_of_ble_eq_true rfl) dX6_push_2) hH (fun H locs hH h01_1 => ?_)
  refine lv_if_eq (tgt := 21) hx hb dX6_push_5 (by decide) (fun c5_3 => ?_) (fun c5_3 => ?_)
  · have hres := zif_pos c5_3 hres
    exact J21 _ _ _ _ hH (lv_sub hl [0] rfl) hres
  · have hres := zif_neg c5_3 hres
    refine lv_iload_n hx hb dX6_push_8 rfl (lv_at hl 2 rfl) ?_
    refine lv_sipush (v := (-9999 : Int32)) hx hb dX6_push_9 (by decide) ?_
    refine lv_sipush (v := (9999 : Int32)) hx hb dX6_push_12 (by decide) ?_
    refine zcz (zrunS C0 hH (c_X6_in l D cy ad _ _ _ _) kM_X6_57 kq_X6_in rfl hl.1 rfl rfl rfl ⟨Nat.le_of_ble_eq_true rfl, Nat.le_of_ble_eq_true rfl⟩ (Nat.le_of_ble_eq_true rfl) dX6_push_15) hH (fun H locs hH h01_4 => ?_)
    refine lv_if_ne (tgt := 27) hx hb dX6_push_18 (by decide) (fun c18_6 => ?_) (fun c18_6 => ?_)
    · have hres := zif_neg c18_6 hres
      refine lv_aload_n hx hb dX6_push_27 rfl (lv_at hl 0 rfl) ?_
      refine lv_iload_n hx hb dX6_push_28 rfl (lv_at hl 1 rfl) ?_
      refine lv_iconst (v := (5 : Int32)) hx hb dX6_push_29 (by decide) ?_
      refine lv_aload_n hx hb dX6_push_30 rfl (lv_at hl 0 rfl) ?_
      refine lv_iload_n hx hb dX6_push_31 rfl (lv_at hl 1 rfl) ?_
      refine lv_iconst (v := (5 : Int32)) hx hb dX6_push_32 (by decide) ?_
      refine zci (zrunV C0 hH (c_X6_at l D cy ad _ _ _ (by first | assumption | (have q0 := hH.many; (try obtain ⟨qa, qb, -⟩ := hct); clear hres; grind [f_X6_in, f_X6_isBlock, f_X6_isAhead, f_X6_isSheet])) (by first | decide | assumption | (clear hres; grind [f_X6_in, f_X6_isBlock, f_X6_isAhead, f_X6_isSheet]))) kM_X6_61 zK6 kq_X6_at zR0 rfl hl.1 rfl rfl rfl ⟨Nat.le_of_ble_eq_true rfl, Nat.le_of_ble_eq_true rfl⟩ (Nat.le_of_ble_eq_true rfl) dX6_push_33) hH (fun H locs hH => ?_)
      refine lv_iload_n hx hb dX6_push_36 rfl (lv_at hl 2 rfl) ?_
      refine lv_iadd hx hb dX6_push_37 ?_
      refine zci (zrunV C0 hH (c_X6_become l D cy ad _ _ _ _ (by first | assumption | (have q0 := hH.many; (try obtain ⟨qa, qb, -⟩ := hct); clear hres; grind [f_X6_in, f_X6_isBlock, f_X6_isAhead, f_X6_isSheet])) (by first | decide | assumption | (clear hres; grind [f_X6_in, f_X6_isBlock, f_X6_isAhead, f_X6_isSheet]))) kM_X6_88 zK6 kq_X6_become zR0 rfl hl.1 rfl rfl rfl ⟨Nat.le_of_ble_eq_true rfl, Nat.le_of_ble_eq_true rfl⟩ (Nat.le_of_ble_eq_true rfl) dX6_push_38) hH (fun H locs hH => ?_)
      refine lv_pop hx hb dX6_push_41 rfl ?_
      refine lv_aload_n hx hb dX6_push_42 rfl (lv_at hl 0 rfl) ?_
      refine lv_iload_n hx hb dX6_push_43 rfl (lv_at hl 1 rfl) ?_
      refine lv_bipush (v := (6 : Int32)) hx hb dX6_push_44 (by decide) ?_
      refine lv_iconst (v := (0 : Int32)) hx hb dX6_push_46 (by decide) ?_
      refine zci (zrunV C0 hH (c_X6_become l D cy ad _ _ _ _ (by first | assumption | (have q0 := hH.many; (try obtain ⟨qa, qb, -⟩ := hct); clear hres; grind [f_X6_in, f_X6_isBlock, f_X6_isAhead, f_X6_isSheet])) (by first | decide | assumption | (clear hres; grind [f_X6_in, f_X6_isBlock, f_X6_isAhead, f_X6_isSheet]))) kM_X6_88 zK6 kq_X6_become zR0 rfl hl.1 rfl rfl rfl ⟨Nat.le_of_ble_eq_true rfl, Nat.le_of_ble_eq_true rfl⟩ (Nat.le_of_ble_eq_true rfl) dX6_push_47) hH (fun H locs hH => ?_)
      refine lv_pop hx hb dX6_push_50 rfl ?_
      refine lv_aload_n hx hb dX6_push_51 rfl (lv_at hl 0 rfl) ?_
      refine lv_iload_n hx hb dX6_push_52 rfl (lv_at hl 1 rfl) ?_
      refine lv_iconst (v := (5 : Int32)) hx hb dX6_push_53 (by decide) ?_
      refine zci (zrunV C0 hH (c_X6_at l D cy ad _ _ _ (by first | assumption | (have q0 := hH.many; (try obtain ⟨qa, qb, -⟩ := hct); clear hres; grind [f_X6_in, f_X6_isBlock, f_X6_isAhead, f_X6_isSheet])) (by first | decide | assumption | (clear hres; grind [f_X6_in, f_X6_isBlock, f_X6_isAhead, f_X6_isSheet]))) kM_X6_61 zK6 kq_X6_at zR0 rfl hl.1 rfl rfl rfl ⟨Nat.le_of_ble_eq_true rfl, Nat.le_of_ble_eq_true rfl⟩ (Nat.le_of_ble_eq_true rfl) dX6_push_54) hH (fun H locs hH => ?_)
      exact zreti C0 hH dX6_push_57 (zfst hres) (zsnd hres)
    · have hres := zif_pos c18_6 hres
      exact J21 _ _ _ _ hH (lv_sub hl [0] rfl) hres
set_option maxRecDepth 100000 in
set_option maxHeartbeats 4000000 in
theorem c_X6_oil (l : Launch) (D : va_G) (cy : Nat → ClassId) (ad : Nat → Nat) (M : zM) (p1 : Int32) (p2 : Int32) : Met l yX6_oil (Cond.code yX6_oil cX6_oil 3 (some .int) :: zG) ({ frames := 2, cells := 0, slots := 0, locals := 46 }) (zP D lyR cy ad [.ref (ad 0), .int p1, .int p2] M) (zQi D lyR cy ad (f_X6_oil p1 p2 M).1 (f_X6_oil p1 p2 M).2) 0 0 (zA lyR ad) := by
  generalize hres : (f_X6_oil p1 p2 M) = res
  refine zMet (by decide) (Nat.le_of_ble_eq_true rfl) ?_
  intro p e s m args below meth c ls C0 hH hl
  obtain ⟨⟨hx, hb, hml, hown, hts⟩, -⟩ := id C0
  have hz : ∀ w ∈ zG, w.before args s = true := fun w h => hts w (List.mem_cons_of_mem _ h)
  have hl : lv_has ls 3 [(0, .ref (ad 0)), (1, .int p1), (2, .int p2)] := hl
  have g0 := hH.many
  have J18 : ∀ (mm : zM) (H : Heap) (locs : List Loc) (ls : Array Slot), zH D lyR cy ad s.heap mm H locs → lv_has ls 3 [(0, .ref (ad 0))] → f_X6_oil_18 p1 p2 mm = res → W p l e { frames := 2, cells := 0, slots := 0, locals := 46 } s m args below meth c H locs 0 0 (MQ below (zQi D lyR cy ad res.1 res.2) args s 0 0 (zA lyR ad)) (F0 m 18 ls []) := by
    intro mm H locs ls hH hl hres
    refine lv_aload_n hx hb dX6_oil_18 rfl (lv_at hl 0 rfl) ?_
    refine lv_iconst (v := (0 : Int32)) hx hb dX6_oil_19 (by decide) ?_
    refine zci (zrunV C0 hH (c_X6_no l D cy ad _ _ (by decide)) kM_X6_85 zK6 kq_X6_no zR0 rfl hl.1 rfl rfl rfl ⟨Nat.le_of_ble_eq_true rfl, Nat.le_of_ble_eq_true rfl⟩ (Nat.le_of_ble_eq_true rfl) dX6_oil_20) hH (fun H locs hH => ?_)
    exact zreti C0 hH dX6_oil_23 (zfst hres) (zsnd hres)
  refine lv_aload_n hx hb dX6_oil_0 rfl (lv_at hl 0 rfl) ?_
  refine lv_iload_n hx hb dX6_oil_1 rfl (lv_at hl 1 rfl) ?_
  refine zcz (zrunV C0 hH (c_X6_isBlock l D cy ad _ _) kM_X6_92 zK6 kq_X6_isBlock zR0 rfl hl.1 rfl rfl rfl ⟨Nat.le_of_ble_eq_true rfl, Nat.le_of_ble_eq_true rfl⟩ (Nat.le_of_ble_eq_true rfl) dX6_oil_2) hH (fun H locs hH h01_1 => ?_)
  refine lv_if_eq (tgt := 18) hx hb dX6_oil_5 (by decide) (fun c5_3 => ?_) (fun c5_3 => ?_)
  · have hres := zif_pos c5_3 hres
    exact J18 _ _ _ _ hH (lv_sub hl [0] rfl) hres
  · have hres := zif_neg c5_3 hres
    refine lv_iload_n hx hb dX6_oil_8 rfl (lv_at hl 2 rfl) ?_
    refine lv_iconst (v := (1 : Int32)) hx hb dX6_oil_9 (by decide) ?_
    refine lv_bipush (v := (99 : Int32)) hx hb dX6_oil_10 (by decide) ?_
    refine zcz (zrunS C0 hH (c_X6_in l D cy ad _ _ _ _) kM_X6_57 kq_X6_in rfl hl.1 rfl rfl rfl ⟨Nat.le_of_ble_eq_true rfl, Nat.le_of_ble_eq_true rfl⟩ (Nat.le_of_ble_eq_true rfl) dX6_oil_12) hH (fun H locs hH h01_4 => ?_)
    refine lv_if_ne (tgt := 24) hx hb dX6_oil_15 (by decide) (fun c15_6 => ?_) (fun c15_6 => ?_)
    · have hres := zif_neg c15_6 hres
      refine lv_aload_n hx hb dX6_oil_24 rfl (lv_at hl 0 rfl) ?_
      refine lv_iload_n hx hb dX6_oil_25 rfl (lv_at hl 1 rfl) ?_
      refine lv_iconst (v := (4 : Int32)) hx hb dX6_oil_26 (by decide) ?_
      refine lv_bipush (v := (99 : Int32)) hx hb dX6_oil_27 (by decide) ?_
      refine lv_aload_n hx hb dX6_oil_29 rfl (lv_at hl 0 rfl) ?_
      refine lv_iload_n hx hb dX6_oil_30 rfl (lv_at hl 1 rfl) ?_
      refine lv_iconst (v := (4 : Int32)) hx hb dX6_oil_31 (by decide) ?_
      refine zci (zrunV C0 hH (c_X6_at l D cy ad _ _ _ (by first | assumption | (have q0 := hH.many; (try obtain ⟨qa, qb, -⟩ := hct); clear hres; grind [f_X6_in, f_X6_isBlock, f_X6_isAhead, f_X6_isSheet])) (by first | decide | assumption | (clear hres; grind [f_X6_in, f_X6_isBlock, f_X6_isAhead, f_X6_isSheet]))) kM_X6_61 zK6 kq_X6_at zR0 rfl hl.1 rfl rfl rfl ⟨Nat.le_of_ble_eq_true rfl, Nat.le_of_ble_eq_true rfl⟩ (Nat.le_of_ble_eq_true rfl) dX6_oil_32) hH (fun H locs hH => ?_)
      refine lv_iload_n hx hb dX6_oil_35 rfl (lv_at hl 2 rfl) ?_
      refine lv_iadd hx hb dX6_oil_36 ?_
      refine zci (zrunS C0 hH (c_X6_lesser l D cy ad _ _ _) kM_X6_65 kq_X6_lesser rfl hl.1 rfl rfl rfl ⟨Nat.le_of_ble_eq_true rfl, Nat.le_of_ble_eq_true rfl⟩ (Nat.le_of_ble_eq_true rfl) dX6_oil_37) hH (fun H locs hH => ?_)
      refine zci (zrunV C0 hH (c_X6_become l D cy ad _ _ _ _ (by first | assumption | (have q0 := hH.many; (try obtain ⟨qa, qb, -⟩ := hct); clear hres; grind [f_X6_in, f_X6_isBlock, f_X6_isAhead, f_X6_isSheet])) (by first | decide | assumption | (clear hres; grind [f_X6_in, f_X6_isBlock, f_X6_isAhead, f_X6_isSheet]))) kM_X6_88 zK6 kq_X6_become zR0 rfl hl.1 rfl rfl rfl ⟨Nat.le_of_ble_eq_true rfl, Nat.le_of_ble_eq_true rfl⟩ (Nat.le_of_ble_eq_true rfl) dX6_oil_40) hH (fun H locs hH => ?_)
      refine lv_pop hx hb dX6_oil_43 rfl ?_
      refine lv_aload_n hx hb dX6_oil_44 rfl (lv_at hl 0 rfl) ?_
      refine lv_iload_n hx hb dX6_oil_45 rfl (lv_at hl 1 rfl) ?_
      refine lv_iconst (v := (4 : Int32)) hx hb dX6_oil_46 (by decide) ?_
      refine zci (zrunV C0 hH (c_X6_at l D cy ad _ _ _ (by first | assumption | (have q0 := hH.many; (try obtain ⟨qa, qb, -⟩ := hct); clear hres; grind [f_X6_in, f_X6_isBlock, f_X6_isAhead, f_X6_isSheet])) (by first | decide | assumption | (clear hres; grind [f_X6_in, f_X6_isBlock, f_X6_isAhead, f_X6_isSheet]))) kM_X6_61 zK6 kq_X6_at zR0 rfl hl.1 rfl rfl rfl ⟨Nat.le_of_ble_eq_true rfl, Nat.le_of_ble_eq_true rfl⟩ (Nat.le_of_ble_eq_true rfl) dX6_oil_47) hH (fun H locs hH => ?_)
      exact zreti C0 hH dX6_oil_50 (zfst hres) (zsnd hres)
    · have hres := zif_pos c15_6 hres
      exact J18 _ _ _ _ hH (lv_sub hl [0] rfl) hres
set_option maxRecDepth 100000 in
set_option maxHeartbeats 4000000 in
theorem c_X6_pace (l : Launch) (D : va_G) (cy : Nat → ClassId) (ad : Nat → Nat) (M : zM) (p1 : Int32) : Met l yX6_pace (Cond.code yX6_pace cX6_pace 3 (some .int) :: zG) ({ frames := 1, cells := 0, slots := 0, locals := 22 }) (zP D lyR cy ad [.ref (ad 0), .int p1] M) (zQi D lyR cy ad (f_X6_pace p1 M).1 (f_X6_pace p1 M).2) 0 0 (zA lyR ad) := by
  generalize hres : (f_X6_pace p1 M) = res
  refine zMet (by decide) (Nat.le_of_ble_eq_true rfl) ?_
  intro p e s m args below meth c ls C0 hH hl
  obtain ⟨⟨hx, hb, hml, hown, hts⟩, -⟩ := id C0
  have hz : ∀ w ∈ zG, w.before args s = true := fun w h => hts w (List.mem_cons_of_mem _ h)
  have hl : lv_has ls 3 [(0, .ref (ad 0)), (1, .int p1)] := hl
  have g0 := hH.many
  refine lv_iload_n hx hb dX6_pace_0 rfl (lv_at hl 1 rfl) ?_
  refine lv_bipush (v := (-99 : Int32)) hx hb dX6_pace_1 (by decide) ?_
  refine lv_bipush (v := (99 : Int32)) hx hb dX6_pace_3 (by decide) ?_
  refine zcz (zrunS C0 hH (c_X6_in l D cy ad _ _ _ _) kM_X6_57 kq_X6_in rfl hl.1 rfl rfl rfl ⟨Nat.le_of_ble_eq_true rfl, Nat.le_of_ble_eq_true rfl⟩ (Nat.le_of_ble_eq_true rfl) dX6_pace_5) hH (fun H locs hH h01_1 => ?_)
  refine lv_if_ne (tgt := 17) hx hb dX6_pace_8 (by decide) (fun c8_3 => ?_) (fun c8_3 => ?_)
  · have hres := zif_neg c8_3 hres
    refine lv_aload_n hx hb dX6_pace_17 rfl (lv_at hl 0 rfl) ?_
    refine zgR C0 hH zK6 0 (by decide) _ zR0 rfl kF_X6_9 dX6_pace_18 ?_
    refine lv_iconst (v := (2 : Int32)) hx hb dX6_pace_21 (by decide) ?_
    refine zaldK C0 hH zS31.is zS31.ln (k := 2) (by decide) (by unfold vp_in; decide) dX6_pace_22 ?_
    refine lv_istore_n (lv' := [(2, _), (0, _), (1, _)]) hx hb dX6_pace_23 rfl hl (by decide) rfl (fun ls hl => ?_)
    refine lv_aload_n hx hb dX6_pace_24 rfl (lv_at hl 1 rfl) ?_
    refine zgR C0 hH zK6 0 (by decide) _ zR0 rfl kF_X6_9 dX6_pace_25 ?_
    refine lv_iconst (v := (2 : Int32)) hx hb dX6_pace_28 (by decide) ?_
    refine lv_iload_n hx hb dX6_pace_29 rfl (lv_at hl 2 rfl) ?_
    refine zastK C0 hH zS31.is zS31.ln (k := 2) (by decide) (by unfold vp_in; decide) zcn dX6_pace_30 (fun H locs hH => ?_)
    refine lv_iload_n hx hb dX6_pace_31 rfl (lv_at hl 0 rfl) ?_
    exact zreti C0 hH dX6_pace_32 (zfst hres) (zsnd hres)
  · have hres := zif_pos c8_3 hres
    refine lv_aload_n hx hb dX6_pace_11 rfl (lv_at hl 0 rfl) ?_
    refine lv_iconst (v := (0 : Int32)) hx hb dX6_pace_12 (by decide) ?_
    refine zci (zrunV C0 hH (c_X6_no l D cy ad _ _ (by decide)) kM_X6_85 zK6 kq_X6_no zR0 rfl hl.1 rfl rfl rfl ⟨Nat.le_of_ble_eq_true rfl, Nat.le_of_ble_eq_true rfl⟩ (Nat.le_of_ble_eq_true rfl) dX6_pace_13) hH (fun H locs hH => ?_)
    exact zreti C0 hH dX6_pace_16 (zfst hres) (zsnd hres)
set_option maxRecDepth 100000 in
set_option maxHeartbeats 4000000 in
theorem c_X6_classOf (l : Launch) (D : va_G) (cy : Nat → ClassId) (ad : Nat → Nat) (M : zM) (p0 : Int32) : Met l yX6_classOf (Cond.code yX6_classOf cX6_classOf 3 (some .int) :: zG) ({ frames := 0, cells := 0, slots := 0, locals := 0 }) (zP D lyR cy ad [.int p0] M) (zQi D lyR cy ad (f_X6_classOf p0) M) 0 0 (zA lyR ad) := by
  generalize hres : (f_X6_classOf p0) = res
  refine zMet (by decide) (Nat.le_of_ble_eq_true rfl) ?_
  intro p e s m args below meth c ls C0 hH hl
  obtain ⟨⟨hx, hb, hml, hown, hts⟩, -⟩ := id C0
  have hz : ∀ w ∈ zG, w.before args s = true := fun w h => hts w (List.mem_cons_of_mem _ h)
  have hl : lv_has ls 3 [(0, .int p0)] := hl
  have L4 : ∀ (n4 : Nat), ∀ (v1 : Int32) (v2 : Int32) (H : Heap) (locs : List Loc) (ls : Array Slot), (zCt 6 n4 v1) → zH D lyR cy ad s.heap M H locs → lv_has ls 3 [(1, .int v1), (2, .int v2)] → f_X6_classOf_4 p0 n4 v1 v2 = res → W p l e { frames := 0, cells := 0, slots := 0, locals := 0 } s m args below meth c H locs 0 0 (MQ below (zQi D lyR cy ad res M) args s 0 0 (zA lyR ad)) (F0 m 4 ls []) := by
    intro n4
    induction n4 with
    | zero =>
      intro v1 v2 H locs ls hct hH hl hres
      exfalso; exact hct.zero
    | succ n4 ih4 =>
      intro v1 v2 H locs ls hct hH hl hres
      refine lv_iload_n hx hb dX6_classOf_4 rfl (lv_at hl 1 rfl) ?_
      refine lv_if_le (tgt := 24) hx hb dX6_classOf_5 (by decide) (fun c5_1 => ?_) (fun c5_1 => ?_)
      · have hres := zif_pos c5_1 hres
        refine lv_iload_n hx hb dX6_classOf_24 rfl (lv_at hl 0 rfl) ?_
        exact zreti C0 hH dX6_classOf_25 hres rfl
      · have hres := zif_neg c5_1 hres
        refine lv_iload_n hx hb dX6_classOf_8 rfl (lv_at hl 0 rfl) ?_
        refine lv_bipush (v := (6 : Int32)) hx hb dX6_classOf_9 (by decide) ?_
        refine lv_icmp_ge (tgt := 24) hx hb dX6_classOf_11 (by decide) (fun c11_2 => ?_) (fun c11_2 => ?_)
        · have hres := zif_pos c11_2 hres
          refine lv_iload_n hx hb dX6_classOf_24 rfl (lv_at hl 0 rfl) ?_
          exact zreti C0 hH dX6_classOf_25 hres rfl
        · have hres := zif_neg c11_2 hres
          refine ziinc (lv' := [(1, _), (2, _)]) (k := 0) hx hb (1 : Int32) (by decide) dX6_classOf_14 hl rfl (by decide) rfl (fun ls hl => ?_)
          refine lv_iload_n hx hb dX6_classOf_17 rfl (lv_at hl 1 rfl) ?_
          refine lv_iconst (v := (2 : Int32)) hx hb dX6_classOf_18 (by decide) ?_
          refine lv_idiv hx hb dX6_classOf_19 (by first | assumption | decide) ?_
          refine lv_istore_n (lv' := [(2, _), (1, _)]) hx hb dX6_classOf_20 rfl hl (by decide) rfl (fun ls hl => ?_)
          refine lv_goto (tgt := 4) hx hb dX6_classOf_21 (by decide) ?_
          exact ih4 _ _ _ _ _ (by first | exact zCt.start (by decide) (by decide) | exact zCt.step (m := 6) hct (by clear hres; grind) (by decide)) hH (lv_sub hl [1, 0] rfl) hres
  refine lv_iconst (v := (0 : Int32)) hx hb dX6_classOf_0 (by decide) ?_
  refine lv_istore_n (lv' := [(1, _), (0, _)]) hx hb dX6_classOf_1 rfl hl (by decide) rfl (fun ls hl => ?_)
  refine lv_iload_n hx hb dX6_classOf_2 rfl (lv_at hl 1 rfl) ?_
  refine lv_istore_n (lv' := [(2, _), (1, _), (0, _)]) hx hb dX6_classOf_3 rfl hl (by decide) rfl (fun ls hl => ?_)
  exact L4 (7) _ _ _ _ _ (by first | exact zCt.start (by decide) (by decide) | exact zCt.step (m := 6) hct (by clear hres; grind) (by decide)) hH (lv_sub hl [1, 0] rfl) hres
set_option maxRecDepth 100000 in
set_option maxHeartbeats 4000000 in
theorem c_X6_books (l : Launch) (D : va_G) (cy : Nat → ClassId) (ad : Nat → Nat) (M : zM) : Met l yX6_books (Cond.code yX6_books cX6_books 2 none :: zG) ({ frames := 1, cells := 0, slots := 0, locals := 21 }) (zP D lyR cy ad [.ref (ad 0)] M) (zQv D lyR cy ad (f_X6_books M)) 0 0 (zA lyR ad) := by
  generalize hres : (f_X6_books M) = res
  refine zMet (by decide) (Nat.le_of_ble_eq_true rfl) ?_
  intro p e s m args below meth c ls C0 hH hl
  obtain ⟨⟨hx, hb, hml, hown, hts⟩, -⟩ := id C0
  have hz : ∀ w ∈ zG, w.before args s = true := fun w h => hts w (List.mem_cons_of_mem _ h)
  have hl : lv_has ls 2 [(0, .ref (ad 0))] := hl
  have g0 := hH.many
  have L3 : ∀ (n3 : Nat), ∀ (v1 : Int32) (mm : zM) (H : Heap) (locs : List Loc) (ls : Array Slot), (zCd 99 n3 v1) → zH D lyR cy ad s.heap mm H locs → lv_has ls 2 [(0, .ref (ad 0)), (1, .int v1)] → f_X6_books_3 n3 v1 mm = res → W p l e { frames := 1, cells := 0, slots := 0, locals := 21 } s m args below meth c H locs 0 0 (MQ below (zQv D lyR cy ad res) args s 0 0 (zA lyR ad)) (F0 m 3 ls []) := by
    intro n3
    induction n3 with
    | zero =>
      intro v1 mm H locs ls hct hH hl hres
      exfalso; exact hct.zero
    | succ n3 ih3 =>
      intro v1 mm H locs ls hct hH hl hres
      refine lv_iload_n hx hb dX6_books_3 rfl (lv_at hl 1 rfl) ?_
      refine lv_if_le (tgt := 79) hx hb dX6_books_4 (by decide) (fun c4_1 => ?_) (fun c4_1 => ?_)
      · have hres := zif_pos c4_1 hres
        refine lv_aload_n hx hb dX6_books_79 rfl (lv_at hl 0 rfl) ?_
        refine zgR C0 hH zK6 0 (by decide) _ zR0 rfl kF_X6_9 dX6_books_80 ?_
        refine lv_sipush (v := (148 : Int32)) hx hb dX6_books_83 (by decide) ?_
        refine lv_aload_n hx hb dX6_books_86 rfl (lv_at hl 0 rfl) ?_
        refine zgI C0 hH zK6 10 (by decide) zR0 rfl kF_X6_124 dX6_books_87 ?_
        refine zastK C0 hH zS31.is zS31.ln (k := 148) (by decide) (by unfold vp_in; decide) zcn dX6_books_90 (fun H locs hH => ?_)
        refine lv_aload_n hx hb dX6_books_91 rfl (lv_at hl 0 rfl) ?_
        refine zgR C0 hH zK6 0 (by decide) _ zR0 rfl kF_X6_9 dX6_books_92 ?_
        refine lv_sipush (v := (248 : Int32)) hx hb dX6_books_95 (by decide) ?_
        refine lv_aload_n hx hb dX6_books_98 rfl (lv_at hl 0 rfl) ?_
        refine zgI C0 hH zK6 9 (by decide) zR0 rfl kF_X6_108 dX6_books_99 ?_
        refine zastK C0 hH zS31.is zS31.ln (k := 248) (by decide) (by unfold vp_in; decide) zcn dX6_books_102 (fun H locs hH => ?_)
        refine lv_aload_n hx hb dX6_books_103 rfl (lv_at hl 0 rfl) ?_
        refine zgR C0 hH zK6 0 (by decide) _ zR0 rfl kF_X6_9 dX6_books_104 ?_
        refine lv_sipush (v := (348 : Int32)) hx hb dX6_books_107 (by decide) ?_
        refine lv_aload_n hx hb dX6_books_110 rfl (lv_at hl 0 rfl) ?_
        refine zgI C0 hH zK6 11 (by decide) zR0 rfl kF_X6_127 dX6_books_111 ?_
        refine zastK C0 hH zS31.is zS31.ln (k := 348) (by decide) (by unfold vp_in; decide) zcn dX6_books_114 (fun H locs hH => ?_)
        refine lv_aload_n hx hb dX6_books_115 rfl (lv_at hl 0 rfl) ?_
        refine zgR C0 hH zK6 0 (by decide) _ zR0 rfl kF_X6_9 dX6_books_116 ?_
        refine lv_bipush (v := (13 : Int32)) hx hb dX6_books_119 (by decide) ?_
        refine lv_bipush (v := (100 : Int32)) hx hb dX6_books_121 (by decide) ?_
        refine lv_aload_n hx hb dX6_books_123 rfl (lv_at hl 0 rfl) ?_
        refine zgR C0 hH zK6 0 (by decide) _ zR0 rfl kF_X6_9 dX6_books_124 ?_
        refine lv_bipush (v := (13 : Int32)) hx hb dX6_books_127 (by decide) ?_
        refine zaldK C0 hH zS31.is zS31.ln (k := 13) (by decide) (by unfold vp_in; decide) dX6_books_129 ?_
        refine lv_iconst (v := (1 : Int32)) hx hb dX6_books_130 (by decide) ?_
        refine lv_iadd hx hb dX6_books_131 ?_
        refine zci (zrunS C0 hH (c_X6_lesser l D cy ad _ _ _) kM_X6_65 kq_X6_lesser rfl hl.1 rfl rfl rfl ⟨Nat.le_of_ble_eq_true rfl, Nat.le_of_ble_eq_true rfl⟩ (Nat.le_of_ble_eq_true rfl) dX6_books_132) hH (fun H locs hH => ?_)
        refine zastK C0 hH zS31.is zS31.ln (k := 13) (by decide) (by unfold vp_in; decide) (zcs (by have q1 := hH.booked; clear hres; grind [f_X6_lesser])) dX6_books_135 (fun H locs hH => ?_)
        exact zretv C0 hH dX6_books_136 hres
      · have hres := zif_neg c4_1 hres
        refine lv_aload_n hx hb dX6_books_7 rfl (lv_at hl 0 rfl) ?_
        refine zgR C0 hH zK6 0 (by decide) _ zR0 rfl kF_X6_9 dX6_books_8 ?_
        refine lv_sipush (v := (148 : Int32)) hx hb dX6_books_11 (by decide) ?_
        refine lv_iload_n hx hb dX6_books_14 rfl (lv_at hl 1 rfl) ?_
        refine lv_iadd hx hb dX6_books_15 ?_
        refine lv_aload_n hx hb dX6_books_16 rfl (lv_at hl 0 rfl) ?_
        refine zgR C0 hH zK6 0 (by decide) _ zR0 rfl kF_X6_9 dX6_books_17 ?_
        refine lv_sipush (v := (148 : Int32)) hx hb dX6_books_20 (by decide) ?_
        refine lv_iload_n hx hb dX6_books_23 rfl (lv_at hl 1 rfl) ?_
        refine lv_iadd hx hb dX6_books_24 ?_
        refine lv_iconst (v := (1 : Int32)) hx hb dX6_books_25 (by decide) ?_
        refine lv_isub hx hb dX6_books_26 ?_
        refine zald C0 hH zS31.is zS31.ln (by exact zin448.mpr (by have q0 := hH.many; have q1 := hH.booked; have q2 := hH.coded; have q3 := hH.taped; have q4 := hH.here; have q5 := hH.ncode; obtain ⟨qa, qb, -⟩ := hct; clear hres; grind [f_X6_in, f_X6_isBlock, f_X6_isAhead, f_X6_isSheet])) dX6_books_27 ?_
        refine zast C0 hH zS31.is zS31.ln (by exact zin448.mpr (by have q0 := hH.many; have q1 := hH.booked; have q2 := hH.coded; have q3 := hH.taped; have q4 := hH.here; have q5 := hH.ncode; obtain ⟨qa, qb, -⟩ := hct; clear hres; grind [f_X6_in, f_X6_isBlock, f_X6_isAhead, f_X6_isSheet])) (by exact zfitS (by obtain ⟨qa, qb, -⟩ := hct; clear hres; grind [f_X6_in, f_X6_isBlock, f_X6_isAhead, f_X6_isSheet])) dX6_books_28 (fun H locs hH => ?_)
        refine lv_aload_n hx hb dX6_books_29 rfl (lv_at hl 0 rfl) ?_
        refine zgR C0 hH zK6 0 (by decide) _ zR0 rfl kF_X6_9 dX6_books_30 ?_
        refine lv_sipush (v := (248 : Int32)) hx hb dX6_books_33 (by decide) ?_
        refine lv_iload_n hx hb dX6_books_36 rfl (lv_at hl 1 rfl) ?_
        refine lv_iadd hx hb dX6_books_37 ?_
        refine lv_aload_n hx hb dX6_books_38 rfl (lv_at hl 0 rfl) ?_
        refine zgR C0 hH zK6 0 (by decide) _ zR0 rfl kF_X6_9 dX6_books_39 ?_
        refine lv_sipush (v := (248 : Int32)) hx hb dX6_books_42 (by decide) ?_
        refine lv_iload_n hx hb dX6_books_45 rfl (lv_at hl 1 rfl) ?_
        refine lv_iadd hx hb dX6_books_46 ?_
        refine lv_iconst (v := (1 : Int32)) hx hb dX6_books_47 (by decide) ?_
        refine lv_isub hx hb dX6_books_48 ?_
        refine zald C0 hH zS31.is zS31.ln (by exact zin448.mpr (by have q0 := hH.many; have q1 := hH.booked; have q2 := hH.coded; have q3 := hH.taped; have q4 := hH.here; have q5 := hH.ncode; obtain ⟨qa, qb, -⟩ := hct; clear hres; grind [f_X6_in, f_X6_isBlock, f_X6_isAhead, f_X6_isSheet])) dX6_books_49 ?_
        refine zast C0 hH zS31.is zS31.ln (by exact zin448.mpr (by have q0 := hH.many; have q1 := hH.booked; have q2 := hH.coded; have q3 := hH.taped; have q4 := hH.here; have q5 := hH.ncode; obtain ⟨qa, qb, -⟩ := hct; clear hres; grind [f_X6_in, f_X6_isBlock, f_X6_isAhead, f_X6_isSheet])) (by exact zfitS (by obtain ⟨qa, qb, -⟩ := hct; clear hres; grind [f_X6_in, f_X6_isBlock, f_X6_isAhead, f_X6_isSheet])) dX6_books_50 (fun H locs hH => ?_)
        refine lv_aload_n hx hb dX6_books_51 rfl (lv_at hl 0 rfl) ?_
        refine zgR C0 hH zK6 0 (by decide) _ zR0 rfl kF_X6_9 dX6_books_52 ?_
        refine lv_sipush (v := (348 : Int32)) hx hb dX6_books_55 (by decide) ?_
        refine lv_iload_n hx hb dX6_books_58 rfl (lv_at hl 1 rfl) ?_
        refine lv_iadd hx hb dX6_books_59 ?_
        refine lv_aload_n hx hb dX6_books_60 rfl (lv_at hl 0 rfl) ?_
        refine zgR C0 hH zK6 0 (by decide) _ zR0 rfl kF_X6_9 dX6_books_61 ?_
        refine lv_sipush (v := (348 : Int32)) hx hb dX6_books_64 (by decide) ?_
        refine lv_iload_n hx hb dX6_books_67 rfl (lv_at hl 1 rfl) ?_
        refine lv_iadd hx hb dX6_books_68 ?_
        refine lv_iconst (v := (1 : Int32)) hx hb dX6_books_69 (by decide) ?_
        refine lv_isub hx hb dX6_books_70 ?_
        refine zald C0 hH zS31.is zS31.ln (by exact zin448.mpr (by have q0 := hH.many; have q1 := hH.booked; have q2 := hH.coded; have q3 := hH.taped; have q4 := hH.here; have q5 := hH.ncode; obtain ⟨qa, qb, -⟩ := hct; clear hres; grind [f_X6_in, f_X6_isBlock, f_X6_isAhead, f_X6_isSheet])) dX6_books_71 ?_
        refine zast C0 hH zS31.is zS31.ln (by exact zin448.mpr (by have q0 := hH.many; have q1 := hH.booked; have q2 := hH.coded; have q3 := hH.taped; have q4 := hH.here; have q5 := hH.ncode; obtain ⟨qa, qb, -⟩ := hct; clear hres; grind [f_X6_in, f_X6_isBlock, f_X6_isAhead, f_X6_isSheet])) (by exact zfitS (by obtain ⟨qa, qb, -⟩ := hct; clear hres; grind [f_X6_in, f_X6_isBlock, f_X6_isAhead, f_X6_isSheet])) dX6_books_72 (fun H locs hH => ?_)
        refine ziinc (lv' := [(1, _), (0, _)]) (k := 1) hx hb (-1 : Int32) (by decide) dX6_books_73 hl rfl (by decide) rfl (fun ls hl => ?_)
        refine lv_goto (tgt := 3) hx hb dX6_books_76 (by decide) ?_
        exact ih3 _ _ _ _ _ (by first | exact zCd.begin (by decide) (by decide) (by decide) | exact zCd.begin (by clear hres; grind [f_X6_in, f_X6_isBlock, f_X6_isAhead, f_X6_isSheet]) (by clear hres; grind [f_X6_in, f_X6_isBlock, f_X6_isAhead, f_X6_isSheet]) (by decide) | exact zCd.step1 hct (by clear hres; grind [f_X6_in, f_X6_isBlock, f_X6_isAhead, f_X6_isSheet])) hH (lv_sub hl [1, 0] rfl) hres
  refine lv_bipush (v := (99 : Int32)) hx hb dX6_books_0 (by decide) ?_
  refine lv_istore_n (lv' := [(1, _), (0, _)]) hx hb dX6_books_2 rfl hl (by decide) rfl (fun ls hl => ?_)
  exact L3 (101) _ _ _ _ _ (by first | exact zCd.begin (by decide) (by decide) (by decide) | exact zCd.begin (by clear hres; grind [f_X6_in, f_X6_isBlock, f_X6_isAhead, f_X6_isSheet]) (by clear hres; grind [f_X6_in, f_X6_isBlock, f_X6_isAhead, f_X6_isSheet]) (by decide) | exact zCd.step1 hct (by clear hres; grind [f_X6_in, f_X6_isBlock, f_X6_isAhead, f_X6_isSheet])) hH (lv_sub hl [1, 0] rfl) hres
set_option maxRecDepth 100000 in
set_option maxHeartbeats 4000000 in
theorem c_X6_book (l : Launch) (D : va_G) (cy : Nat → ClassId) (ad : Nat → Nat) (M : zM) (p1 : Int32) (p2 : Int32) : Met l yX6_book (Cond.code yX6_book cX6_book 3 (some .int) :: zG) ({ frames := 1, cells := 0, slots := 0, locals := 22 }) (zP D lyR cy ad [.ref (ad 0), .int p1, .int p2] M) (zQi D lyR cy ad (f_X6_book p1 p2 M).1 (f_X6_book p1 p2 M).2) 0 0 (zA lyR ad) := by
  generalize hres : (f_X6_book p1 p2 M) = res
  refine zMet (by decide) (Nat.le_of_ble_eq_true rfl) ?_
  intro p e s m args below meth c ls C0 hH hl
  obtain ⟨⟨hx, hb, hml, hown, hts⟩, -⟩ := id C0
  have hz : ∀ w ∈ zG, w.before args s = true := fun w h => hts w (List.mem_cons_of_mem _ h)
  have hl : lv_has ls 3 [(0, .ref (ad 0)), (1, .int p1), (2, .int p2)] := hl
  have g0 := hH.many
  have J26 : ∀ (mm : zM) (H : Heap) (locs : List Loc) (ls : Array Slot), zH D lyR cy ad s.heap mm H locs → lv_has ls 3 [(0, .ref (ad 0))] → f_X6_book_26 p1 p2 mm = res → W p l e { frames := 1, cells := 0, slots := 0, locals := 22 } s m args below meth c H locs 0 0 (MQ below (zQi D lyR cy ad res.1 res.2) args s 0 0 (zA lyR ad)) (F0 m 26 ls []) := by
    intro mm H locs ls hH hl hres
    refine lv_aload_n hx hb dX6_book_26 rfl (lv_at hl 0 rfl) ?_
    refine lv_iconst (v := (0 : Int32)) hx hb dX6_book_27 (by decide) ?_
    refine zci (zrunV C0 hH (c_X6_no l D cy ad _ _ (by decide)) kM_X6_85 zK6 kq_X6_no zR0 rfl hl.1 rfl rfl rfl ⟨Nat.le_of_ble_eq_true rfl, Nat.le_of_ble_eq_true rfl⟩ (Nat.le_of_ble_eq_true rfl) dX6_book_28) hH (fun H locs hH => ?_)
    exact zreti C0 hH dX6_book_31 (zfst hres) (zsnd hres)
  refine lv_iload_n hx hb dX6_book_0 rfl (lv_at hl 1 rfl) ?_
  refine lv_iconst (v := (0 : Int32)) hx hb dX6_book_1 (by decide) ?_
  refine lv_aload_n hx hb dX6_book_2 rfl (lv_at hl 0 rfl) ?_
  refine zgR C0 hH zK6 0 (by decide) _ zR0 rfl kF_X6_9 dX6_book_3 ?_
  refine lv_bipush (v := (13 : Int32)) hx hb dX6_book_6 (by decide) ?_
  refine zaldK C0 hH zS31.is zS31.ln (k := 13) (by decide) (by unfold vp_in; decide) dX6_book_8 ?_
  refine lv_iconst (v := (1 : Int32)) hx hb dX6_book_9 (by decide) ?_
  refine lv_isub hx hb dX6_book_10 ?_
  refine zcz (zrunS C0 hH (c_X6_in l D cy ad _ _ _ _) kM_X6_57 kq_X6_in rfl hl.1 rfl rfl rfl ⟨Nat.le_of_ble_eq_true rfl, Nat.le_of_ble_eq_true rfl⟩ (Nat.le_of_ble_eq_true rfl) dX6_book_11) hH (fun H locs hH h01_1 => ?_)
  refine lv_if_eq (tgt := 26) hx hb dX6_book_14 (by decide) (fun c14_3 => ?_) (fun c14_3 => ?_)
  · have hres := zif_pos c14_3 hres
    exact J26 _ _ _ _ hH (lv_sub hl [0] rfl) hres
  · have hres := zif_neg c14_3 hres
    refine lv_iload_n hx hb dX6_book_17 rfl (lv_at hl 2 rfl) ?_
    refine lv_iconst (v := (0 : Int32)) hx hb dX6_book_18 (by decide) ?_
    refine lv_iconst (v := (2 : Int32)) hx hb dX6_book_19 (by decide) ?_
    refine zcz (zrunS C0 hH (c_X6_in l D cy ad _ _ _ _) kM_X6_57 kq_X6_in rfl hl.1 rfl rfl rfl ⟨Nat.le_of_ble_eq_true rfl, Nat.le_of_ble_eq_true rfl⟩ (Nat.le_of_ble_eq_true rfl) dX6_book_20) hH (fun H locs hH h01_4 => ?_)
    refine lv_if_ne (tgt := 32) hx hb dX6_book_23 (by decide) (fun c23_6 => ?_) (fun c23_6 => ?_)
    · have hres := zif_neg c23_6 hres
      refine lv_aload_n hx hb dX6_book_32 rfl (lv_at hl 0 rfl) ?_
      refine zgR C0 hH zK6 0 (by decide) _ zR0 rfl kF_X6_9 dX6_book_33 ?_
      refine lv_sipush (v := (148 : Int32)) hx hb dX6_book_36 (by decide) ?_
      refine lv_bipush (v := (100 : Int32)) hx hb dX6_book_39 (by decide) ?_
      refine lv_iload_n hx hb dX6_book_41 rfl (lv_at hl 2 rfl) ?_
      refine lv_imul hx hb dX6_book_42 ?_
      refine lv_iadd hx hb dX6_book_43 ?_
      refine lv_iload_n hx hb dX6_book_44 rfl (lv_at hl 1 rfl) ?_
      refine lv_iadd hx hb dX6_book_45 ?_
      refine zald C0 hH zS31.is zS31.ln (by exact zin448.mpr (bk_X6 hH.booked (in_X6 (by assumption)) (in_X6 (by assumption)))) dX6_book_46 ?_
      exact zreti C0 hH dX6_book_47 (zfst hres) (zsnd hres)
    · have hres := zif_pos c23_6 hres
      exact J26 _ _ _ _ hH (lv_sub hl [0] rfl) hres
set_option maxRecDepth 100000 in
set_option maxHeartbeats 4000000 in
theorem c_X6_counts (l : Launch) (D : va_G) (cy : Nat → ClassId) (ad : Nat → Nat) (M : zM) (p1 : Int32) : Met l yX6_counts (Cond.code yX6_counts cX6_counts 2 (some .int) :: zG) ({ frames := 1, cells := 0, slots := 0, locals := 22 }) (zP D lyR cy ad [.ref (ad 0), .int p1] M) (zQi D lyR cy ad (f_X6_counts p1 M).1 (f_X6_counts p1 M).2) 0 0 (zA lyR ad) := by
  generalize hres : (f_X6_counts p1 M) = res
  refine zMet (by decide) (Nat.le_of_ble_eq_true rfl) ?_
  intro p e s m args below meth c ls C0 hH hl
  obtain ⟨⟨hx, hb, hml, hown, hts⟩, -⟩ := id C0
  have hz : ∀ w ∈ zG, w.before args s = true := fun w h => hts w (List.mem_cons_of_mem _ h)
  have hl : lv_has ls 2 [(0, .ref (ad 0)), (1, .int p1)] := hl
  have g0 := hH.many
  refine lv_iload_n hx hb dX6_counts_0 rfl (lv_at hl 1 rfl) ?_
  refine lv_iconst (v := (0 : Int32)) hx hb dX6_counts_1 (by decide) ?_
  refine lv_bipush (v := (6 : Int32)) hx hb dX6_counts_2 (by decide) ?_
  refine zcz (zrunS C0 hH (c_X6_in l D cy ad _ _ _ _) kM_X6_57 kq_X6_in rfl hl.1 rfl rfl rfl ⟨Nat.le_of_ble_eq_true rfl, Nat.le_of_ble_eq_true rfl⟩ (Nat.le_of_ble_eq_true rfl) dX6_counts_4) hH (fun H locs hH h01_1 => ?_)
  refine lv_if_eq (tgt := 22) hx hb dX6_counts_7 (by decide) (fun c7_3 => ?_) (fun c7_3 => ?_)
  · have hres := zif_pos c7_3 hres
    refine lv_aload_n hx hb dX6_counts_22 rfl (lv_at hl 0 rfl) ?_
    refine lv_iconst (v := (0 : Int32)) hx hb dX6_counts_23 (by decide) ?_
    refine zci (zrunV C0 hH (c_X6_no l D cy ad _ _ (by decide)) kM_X6_85 zK6 kq_X6_no zR0 rfl hl.1 rfl rfl rfl ⟨Nat.le_of_ble_eq_true rfl, Nat.le_of_ble_eq_true rfl⟩ (Nat.le_of_ble_eq_true rfl) dX6_counts_24) hH (fun H locs hH => ?_)
    exact zreti C0 hH dX6_counts_27 (zfst hres) (zsnd hres)
  · have hres := zif_neg c7_3 hres
    refine lv_aload_n hx hb dX6_counts_10 rfl (lv_at hl 0 rfl) ?_
    refine zgR C0 hH zK6 0 (by decide) _ zR0 rfl kF_X6_9 dX6_counts_11 ?_
    refine lv_bipush (v := (6 : Int32)) hx hb dX6_counts_14 (by decide) ?_
    refine lv_iload_n hx hb dX6_counts_16 rfl (lv_at hl 1 rfl) ?_
    refine lv_iadd hx hb dX6_counts_17 ?_
    refine zald C0 hH zS31.is zS31.ln (by exact zin448.mpr (by have q0 := hH.many; have q1 := hH.booked; have q2 := hH.coded; have q3 := hH.taped; have q4 := hH.here; have q5 := hH.ncode; clear hres; grind [f_X6_in, f_X6_isBlock, f_X6_isAhead, f_X6_isSheet])) dX6_counts_18 ?_
    refine lv_goto (tgt := 27) hx hb dX6_counts_19 (by decide) ?_
    exact zreti C0 hH dX6_counts_27 (zfst hres) (zsnd hres)
set_option maxRecDepth 100000 in
set_option maxHeartbeats 4000000 in
theorem c_X6_power (l : Launch) (D : va_G) (cy : Nat → ClassId) (ad : Nat → Nat) (M : zM) : Met l yX6_power (Cond.code yX6_power cX6_power 3 (some .int) :: zG) ({ frames := 0, cells := 0, slots := 0, locals := 0 }) (zP D lyR cy ad [.ref (ad 0)] M) (zQi D lyR cy ad (f_X6_power M) M) 0 0 (zA lyR ad) := by
  generalize hres : (f_X6_power M) = res
  refine zMet (by decide) (Nat.le_of_ble_eq_true rfl) ?_
  intro p e s m args below meth c ls C0 hH hl
  obtain ⟨⟨hx, hb, hml, hown, hts⟩, -⟩ := id C0
  have hz : ∀ w ∈ zG, w.before args s = true := fun w h => hts w (List.mem_cons_of_mem _ h)
  have hl : lv_has ls 3 [(0, .ref (ad 0))] := hl
  have g0 := hH.many
  have L4 : ∀ (n4 : Nat), ∀ (v1 : Int32) (v2 : Int32) (H : Heap) (locs : List Loc) (ls : Array Slot), (zCt 7 n4 v2) → (2 ≤ v2) → zH D lyR cy ad s.heap M H locs → lv_has ls 3 [(0, .ref (ad 0)), (1, .int v1), (2, .int v2)] → f_X6_power_4 M n4 v1 v2 = res → W p l e { frames := 0, cells := 0, slots := 0, locals := 0 } s m args below meth c H locs 0 0 (MQ below (zQi D lyR cy ad res M) args s 0 0 (zA lyR ad)) (F0 m 4 ls []) := by
    intro n4
    induction n4 with
    | zero =>
      intro v1 v2 H locs ls hct h2 hH hl hres
      exfalso; exact hct.zero
    | succ n4 ih4 =>
      intro v1 v2 H locs ls hct h2 hH hl hres
      refine lv_iload_n hx hb dX6_power_4 rfl (lv_at hl 2 rfl) ?_
      refine lv_bipush (v := (6 : Int32)) hx hb dX6_power_5 (by decide) ?_
      refine lv_icmp_gt (tgt := 49) hx hb dX6_power_7 (by decide) (fun c7_1 => ?_) (fun c7_1 => ?_)
      · have hres := zif_pos c7_1 hres
        refine lv_iload_n hx hb dX6_power_49 rfl (lv_at hl 1 rfl) ?_
        refine lv_if_eq (tgt := 57) hx hb dX6_power_50 (by decide) (fun c50_2 => ?_) (fun c50_2 => ?_)
        · have hres := zif_pos c50_2 hres
          refine lv_iconst (v := (0 : Int32)) hx hb dX6_power_57 (by decide) ?_
          exact zreti C0 hH dX6_power_58 hres rfl
        · have hres := zif_neg c50_2 hres
          refine lv_iconst (v := (1 : Int32)) hx hb dX6_power_53 (by decide) ?_
          refine lv_goto (tgt := 58) hx hb dX6_power_54 (by decide) ?_
          exact zreti C0 hH dX6_power_58 hres rfl
      · have hres := zif_neg c7_1 hres
        refine lv_iload_n hx hb dX6_power_10 rfl (lv_at hl 1 rfl) ?_
        refine lv_if_eq (tgt := 41) hx hb dX6_power_11 (by decide) (fun c11_3 => ?_) (fun c11_3 => ?_)
        · have hres := zif_pos c11_3 hres
          refine lv_iconst (v := (0 : Int32)) hx hb dX6_power_41 (by decide) ?_
          refine lv_istore_n (lv' := [(1, _), (0, _), (2, _)]) hx hb dX6_power_42 rfl hl (by decide) rfl (fun ls hl => ?_)
          refine ziinc (lv' := [(2, _), (1, _), (0, _)]) (k := 2) hx hb (1 : Int32) (by decide) dX6_power_43 hl rfl (by decide) rfl (fun ls hl => ?_)
          refine lv_goto (tgt := 4) hx hb dX6_power_46 (by decide) ?_
          exact ih4 _ _ _ _ _ (by first | exact zCt.start (by decide) (by decide) | exact zCt.begin (by decide) (by decide) (by decide) | exact zCt.step (m := 7) hct (by first | assumption | (clear hres; grind [f_X6_in, f_X6_isBlock, f_X6_isAhead, f_X6_isSheet])) (by decide)) (by first | decide | (obtain ⟨qa, qb, -⟩ := hct; clear hres; grind)) hH (lv_sub hl [2, 1, 0] rfl) hres
        · have hres := zif_neg c11_3 hres
          refine lv_aload_n hx hb dX6_power_14 rfl (lv_at hl 0 rfl) ?_
          refine zgR C0 hH zK6 0 (by decide) _ zR0 rfl kF_X6_9 dX6_power_15 ?_
          refine lv_bipush (v := (6 : Int32)) hx hb dX6_power_18 (by decide) ?_
          refine lv_iload_n hx hb dX6_power_20 rfl (lv_at hl 2 rfl) ?_
          refine lv_iadd hx hb dX6_power_21 ?_
          refine zald C0 hH zS31.is zS31.ln (by exact zin448.mpr (by have q0 := hH.many; have q1 := hH.booked; have q2 := hH.coded; have q3 := hH.taped; have q4 := hH.here; have q5 := hH.ncode; obtain ⟨qa, qb, -⟩ := hct; clear hres; grind [f_X6_in, f_X6_isBlock, f_X6_isAhead, f_X6_isSheet])) dX6_power_22 ?_
          refine lv_aload_n hx hb dX6_power_23 rfl (lv_at hl 0 rfl) ?_
          refine zgR C0 hH zK6 0 (by decide) _ zR0 rfl kF_X6_9 dX6_power_24 ?_
          refine lv_bipush (v := (6 : Int32)) hx hb dX6_power_27 (by decide) ?_
          refine lv_iload_n hx hb dX6_power_29 rfl (lv_at hl 2 rfl) ?_
          refine lv_iadd hx hb dX6_power_30 ?_
          refine lv_iconst (v := (1 : Int32)) hx hb dX6_power_31 (by decide) ?_
          refine lv_isub hx hb dX6_power_32 ?_
          refine zald C0 hH zS31.is zS31.ln (by exact zin448.mpr (by have q0 := hH.many; have q1 := hH.booked; have q2 := hH.coded; have q3 := hH.taped; have q4 := hH.here; have q5 := hH.ncode; obtain ⟨qa, qb, -⟩ := hct; clear hres; grind [f_X6_in, f_X6_isBlock, f_X6_isAhead, f_X6_isSheet])) dX6_power_33 ?_
          refine lv_icmp_gt (tgt := 41) hx hb dX6_power_34 (by decide) (fun c34_4 => ?_) (fun c34_4 => ?_)
          · have hres := zif_pos c34_4 hres
            refine lv_iconst (v := (0 : Int32)) hx hb dX6_power_41 (by decide) ?_
            refine lv_istore_n (lv' := [(1, _), (0, _), (2, _)]) hx hb dX6_power_42 rfl hl (by decide) rfl (fun ls hl => ?_)
            refine ziinc (lv' := [(2, _), (1, _), (0, _)]) (k := 2) hx hb (1 : Int32) (by decide) dX6_power_43 hl rfl (by decide) rfl (fun ls hl => ?_)
            refine lv_goto (tgt := 4) hx hb dX6_power_46 (by decide) ?_
            exact ih4 _ _ _ _ _ (by first | exact zCt.start (by decide) (by decide) | exact zCt.begin (by decide) (by decide) (by decide) | exact zCt.step (m := 7) hct (by first | assumption | (clear hres; grind [f_X6_in, f_X6_isBlock, f_X6_isAhead, f_X6_isSheet])) (by decide)) (by first | decide | (obtain ⟨qa, qb, -⟩ := hct; clear hres; grind)) hH (lv_sub hl [2, 1, 0] rfl) hres
          · have hres := zif_neg c34_4 hres
            refine lv_iconst (v := (1 : Int32)) hx hb dX6_power_37 (by decide) ?_
            refine lv_goto (tgt := 42) hx hb dX6_power_38 (by decide) ?_
            refine lv_istore_n (lv' := [(1, _), (0, _), (2, _)]) hx hb dX6_power_42 rfl hl (by decide) rfl (fun ls hl => ?_)
            refine ziinc (lv' := [(2, _), (1, _), (0, _)]) (k := 2) hx hb (1 : Int32) (by decide) dX6_power_43 hl rfl (by decide) rfl (fun ls hl => ?_)
            refine lv_goto (tgt := 4) hx hb dX6_power_46 (by decide) ?_
            exact ih4 _ _ _ _ _ (by first | exact zCt.start (by decide) (by decide) | exact zCt.begin (by decide) (by decide) (by decide) | exact zCt.step (m := 7) hct (by first | assumption | (clear hres; grind [f_X6_in, f_X6_isBlock, f_X6_isAhead, f_X6_isSheet])) (by decide)) (by first | decide | (obtain ⟨qa, qb, -⟩ := hct; clear hres; grind)) hH (lv_sub hl [2, 1, 0] rfl) hres
  refine lv_iconst (v := (1 : Int32)) hx hb dX6_power_0 (by decide) ?_
  refine lv_istore_n (lv' := [(1, _), (0, _)]) hx hb dX6_power_1 rfl hl (by decide) rfl (fun ls hl => ?_)
  refine lv_iconst (v := (2 : Int32)) hx hb dX6_power_2 (by decide) ?_
  refine lv_istore_n (lv' := [(2, _), (1, _), (0, _)]) hx hb dX6_power_3 rfl hl (by decide) rfl (fun ls hl => ?_)
  exact L4 (8) _ _ _ _ _ (by first | exact zCt.start (by decide) (by decide) | exact zCt.begin (by decide) (by decide) (by decide) | exact zCt.step (m := 7) hct (by first | assumption | (clear hres; grind [f_X6_in, f_X6_isBlock, f_X6_isAhead, f_X6_isSheet])) (by decide)) (by first | decide | (obtain ⟨qa, qb, -⟩ := hct; clear hres; grind)) hH (lv_sub hl [2, 1, 0] rfl) hres
set_option maxRecDepth 100000 in
set_option maxHeartbeats 4000000 in
theorem c_X6_tone (l : Launch) (D : va_G) (cy : Nat → ClassId) (ad : Nat → Nat) (M : zM) : Met l yX6_tone (Cond.code yX6_tone cX6_tone 3 (some .int) :: zG) ({ frames := 1, cells := 0, slots := 0, locals := 21 }) (zP D lyR cy ad [.ref (ad 0)] M) (zQi D lyR cy ad (f_X6_tone M).1 (f_X6_tone M).2) 0 0 (zA lyR ad) := by
  generalize hres : (f_X6_tone M) = res
  refine zMet (by decide) (Nat.le_of_ble_eq_true rfl) ?_
  intro p e s m args below meth c ls C0 hH hl
  obtain ⟨⟨hx, hb, hml, hown, hts⟩, -⟩ := id C0
  have hz : ∀ w ∈ zG, w.before args s = true := fun w h => hts w (List.mem_cons_of_mem _ h)
  have hl : lv_has ls 3 [(0, .ref (ad 0))] := hl
  have g0 := hH.many
  have L4 : ∀ (n4 : Nat), ∀ (v1 : Int32) (v2 : Int32) (mm : zM) (H : Heap) (locs : List Loc) (ls : Array Slot), (zCt 100 n4 v2) → zH D lyR cy ad s.heap mm H locs → lv_has ls 3 [(0, .ref (ad 0)), (1, .int v1), (2, .int v2)] → f_X6_tone_4 n4 v1 v2 mm = res → W p l e { frames := 1, cells := 0, slots := 0, locals := 21 } s m args below meth c H locs 0 0 (MQ below (zQi D lyR cy ad res.1 res.2) args s 0 0 (zA lyR ad)) (F0 m 4 ls []) := by
    intro n4
    induction n4 with
    | zero =>
      intro v1 v2 mm H locs ls hct hH hl hres
      exfalso; exact hct.zero
    | succ n4 ih4 =>
      intro v1 v2 mm H locs ls hct hH hl hres
      have g0 := hH.booked
      refine lv_iload_n hx hb dX6_tone_4 rfl (lv_at hl 2 rfl) ?_
      refine lv_aload_n hx hb dX6_tone_5 rfl (lv_at hl 0 rfl) ?_
      refine zgR C0 hH zK6 0 (by decide) _ zR0 rfl kF_X6_9 dX6_tone_6 ?_
      refine lv_bipush (v := (13 : Int32)) hx hb dX6_tone_9 (by decide) ?_
      refine zaldK C0 hH zS31.is zS31.ln (k := 13) (by decide) (by unfold vp_in; decide) dX6_tone_11 ?_
      refine lv_icmp_ge (tgt := 44) hx hb dX6_tone_12 (by decide) (fun c12_1 => ?_) (fun c12_1 => ?_)
      · have hres := zif_pos c12_1 hres
        refine lv_aload_n hx hb dX6_tone_44 rfl (lv_at hl 0 rfl) ?_
        refine lv_iconst (v := (3 : Int32)) hx hb dX6_tone_45 (by decide) ?_
        refine zci (zrunV C0 hH (c_X6_no l D cy ad _ _ (by decide)) kM_X6_85 zK6 kq_X6_no zR0 rfl hl.1 rfl rfl rfl ⟨Nat.le_of_ble_eq_true rfl, Nat.le_of_ble_eq_true rfl⟩ (Nat.le_of_ble_eq_true rfl) dX6_tone_46) hH (fun H locs hH => ?_)
        exact zreti C0 hH dX6_tone_49 (zfst hres) (zsnd hres)
      · have hres := zif_neg c12_1 hres
        refine lv_aload_n hx hb dX6_tone_15 rfl (lv_at hl 0 rfl) ?_
        refine zgR C0 hH zK6 0 (by decide) _ zR0 rfl kF_X6_9 dX6_tone_16 ?_
        refine lv_sipush (v := (148 : Int32)) hx hb dX6_tone_19 (by decide) ?_
        refine lv_iload_n hx hb dX6_tone_22 rfl (lv_at hl 2 rfl) ?_
        refine lv_iadd hx hb dX6_tone_23 ?_
        refine zald C0 hH zS31.is zS31.ln (by exact zin448.mpr (by have q0 := hH.many; have q1 := hH.booked; have q2 := hH.coded; have q3 := hH.taped; have q4 := hH.here; have q5 := hH.ncode; obtain ⟨qa, qb, -⟩ := hct; clear hres; grind [f_X6_in, f_X6_isBlock, f_X6_isAhead, f_X6_isSheet])) dX6_tone_24 ?_
        refine lv_if_le (tgt := 38) hx hb dX6_tone_25 (by decide) (fun c25_3 => ?_) (fun c25_3 => ?_)
        · have hres := zif_pos c25_3 hres
          refine ziinc (lv' := [(2, _), (0, _), (1, _)]) (k := 2) hx hb (1 : Int32) (by decide) dX6_tone_38 hl rfl (by decide) rfl (fun ls hl => ?_)
          refine lv_goto (tgt := 4) hx hb dX6_tone_41 (by decide) ?_
          exact ih4 _ _ _ _ _ _ (by first | exact zCt.start (by decide) (by decide) | exact zCt.begin (by decide) (by decide) (by decide) | exact zCt.step (m := 100) hct (by first | assumption | (clear hres; grind [f_X6_in, f_X6_isBlock, f_X6_isAhead, f_X6_isSheet])) (by decide)) hH (lv_sub hl [1, 2, 0] rfl) hres
        · have hres := zif_neg c25_3 hres
          refine lv_iload_n hx hb dX6_tone_28 rfl (lv_at hl 1 rfl) ?_
          refine lv_if_lt (tgt := 36) hx hb dX6_tone_29 (by decide) (fun c29_4 => ?_) (fun c29_4 => ?_)
          · have hres := zif_pos c29_4 hres
            refine lv_iload_n hx hb dX6_tone_36 rfl (lv_at hl 2 rfl) ?_
            refine lv_istore_n (lv' := [(1, _), (0, _), (2, _)]) hx hb dX6_tone_37 rfl hl (by decide) rfl (fun ls hl => ?_)
            refine ziinc (lv' := [(2, _), (1, _), (0, _)]) (k := 2) hx hb (1 : Int32) (by decide) dX6_tone_38 hl rfl (by decide) rfl (fun ls hl => ?_)
            refine lv_goto (tgt := 4) hx hb dX6_tone_41 (by decide) ?_
            exact ih4 _ _ _ _ _ _ (by first | exact zCt.start (by decide) (by decide) | exact zCt.begin (by decide) (by decide) (by decide) | exact zCt.step (m := 100) hct (by first | assumption | (clear hres; grind [f_X6_in, f_X6_isBlock, f_X6_isAhead, f_X6_isSheet])) (by decide)) hH (lv_sub hl [2, 1, 0] rfl) hres
          · have hres := zif_neg c29_4 hres
            refine lv_iload_n hx hb dX6_tone_32 rfl (lv_at hl 2 rfl) ?_
            refine lv_iload_n hx hb dX6_tone_33 rfl (lv_at hl 1 rfl) ?_
            refine lv_isub hx hb dX6_tone_34 ?_
            exact zreti C0 hH dX6_tone_35 (zfst hres) (zsnd hres)
  refine lv_iconst (v := (-1 : Int32)) hx hb dX6_tone_0 (by decide) ?_
  refine lv_istore_n (lv' := [(1, _), (0, _)]) hx hb dX6_tone_1 rfl hl (by decide) rfl (fun ls hl => ?_)
  refine lv_iconst (v := (0 : Int32)) hx hb dX6_tone_2 (by decide) ?_
  refine lv_istore_n (lv' := [(2, _), (1, _), (0, _)]) hx hb dX6_tone_3 rfl hl (by decide) rfl (fun ls hl => ?_)
  exact L4 (101) _ _ _ _ _ _ (by first | exact zCt.start (by decide) (by decide) | exact zCt.begin (by decide) (by decide) (by decide) | exact zCt.step (m := 100) hct (by first | assumption | (clear hres; grind [f_X6_in, f_X6_isBlock, f_X6_isAhead, f_X6_isSheet])) (by decide)) hH (lv_sub hl [2, 1, 0] rfl) hres
