set_option maxRecDepth 100000 in
set_option maxHeartbeats 4000000 in
theorem c_X6_push (l : Launch) (D : va_G) (cy : Nat → ClassId) (ad : Nat → Nat) (M : zM) (p1 : Int32) (p2 : Int32) : Met l yX6_push (Cond.code yX6_push cX6_push 3 (some .int) :: zG) ({ frames := 2, cells := 0, slots := 0, locals := 46 }) (zP D lyR cy ad [.ref (ad 0), .int p1, .int p2] M) (zQi D lyR cy ad (f_X6_push p1 p2 M).1 (f_X6_push p1 p2 M).2) 0 0 (zA lyR ad) := by
  generalize hres : (f_X6_push p1 p2 M) = res
  refine zMet (by decide) (Nat.le_of_ble_eq_true rfl) ?_
  intro p e s m args below meth c ls C0 hH hl
  obtain ⟨⟨hx, hb, hml, hown, hts⟩, -⟩ := id C0
  have hz : ∀ w ∈ zG, w.before args s = true := fun w h => hts w (List.mem_cons_of_mem _ h)
  have hl : lv_has ls 3 [(0, .ref (ad 0)), (1, .int p1), (2, .int p2)] := hl
  have g0 := hH.many
  have J21 : ∀ (mm : zM) (H : Heap) (locs : List Loc) (ls : Array Slot), zH D lyR cy ad s.heap mm H locs → lv_has ls 3 [(0, .ref (ad 0))] → f_X6_push_21 p1 p2 mm = res → W p l e { frames := 2, cells := 0, slots := 0, locals := 46 } s m args below meth c H locs 0 0 (MQ below (zQi D lyR cy ad res.1 res.2) args s 0 0 (zA lyR ad)) (F0 m 21 ls []) := by
    intro mm H locs ls hH hl hres
    refine lv_aload_n hx hb dX6_push_21 rfl (lv_at hl 0 rfl) ?_
    refine lv_iconst (v := (0 : Int32)) hx hb dX6_push_22 (by decide) ?_
    refine zci (zrunV C0 hH (c_X6_no l D cy ad _ _ (by decide)) kM_X6_85 zK6 kq_X6_no zR0 rfl hl.1 rfl rfl rfl ⟨Nat.le_of_ble_eq_true rfl, Nat.le_of_ble_eq_true rfl⟩ (Nat.le_of_ble_eq_true rfl) dX6_push_23) hH (fun H locs hH => ?_)
    exact zreti C0 hH dX6_push_26 (zfst hres) (zsnd hres)
  refine lv_aload_n hx hb dX6_push_0 rfl (lv_at hl 0 rfl) ?_
  refine lv_iload_n hx hb dX6_push_1 rfl (lv_at hl 1 rfl) ?_
  refine zcz (zrunV C0 hH (c_X6_isBlock l D cy ad _ _) kM_X6_92 zK6 kq_X6_isBlock zR0 rfl hl.1 rfl rfl rfl ⟨Nat.le_of_ble_eq_true rfl, Nat.le_of_ble_eq_true rfl⟩ (Nat.le_of_ble_eq_true rfl) dX6_push_2) hH (fun H locs hH h01_1 => ?_)
  refine lv_if_eq (tgt := 21) hx hb dX6_push_5 (by decide) (fun c5_3 => ?_) (fun c5_3 => ?_)
  · have hres := zif_pos c5_3 hres
    exact J21 _ _ _ _ hH (lv_sub hl [0] rfl) hres
  · have hres := zif_neg c5_3 hres
    refine lv_iload_n hx hb dX6_push_8 rfl (lv_at hl 2 rfl) ?_
    refine lv_sipush (v := (-9999 : Int32)) hx hb dX6_push_9 (by decide) ?_
    refine lv_sipush (v := (9999 : Int32)) hx hb dX6_push_12 (by decide) ?_
    refine zcz (zrunS C0 hH (c_X6_in l D cy ad _ _ _ _) kM_X6_57 kq_X6_in rfl hl.1 rfl rfl rfl ⟨Nat.le_of_ble_eq_true rfl, Nat.le_of_ble_eq_true rfl⟩ (Nat.le_of_ble_eq_true rfl) dX6_push_15) hH (fun H locs hH h01_4 => ?_)
    refine lv_if_ne (tgt := 27) hx hb dX6_push_18 (by decide) (fun c18_6 => ?_) (fun c18_6 => ?_)
    · have hres := zif_neg c18_6 hres
      refine lv_aload_n hx hb dX6_push_27 rfl (lv_at hl 0 rfl) ?_
      refine lv_iload_n hx hb dX6_push_28 rfl (lv_at hl 1 rfl) ?_
      refine lv_iconst (v := (5 : Int32)) hx hb dX6_push_29 (by decide) ?_
      refine lv_aload_n hx hb dX6_push_30 rfl (lv_at hl 0 rfl) ?_
      refine lv_iload_n hx hb dX6_push_31 rfl (lv_at hl 1 rfl) ?_
      refine lv_iconst (v := (5 : Int32)) hx hb dX6_push_32 (by decide) ?_
      refine zci (zrunV C0 hH (c_X6_at l D cy ad _ _ _ (by first | assumption | (have q0 := hH.many; (try obtain ⟨qa, qb, -⟩ := hct); clear hres hz hts; grind [f_X6_in, f_X6_isBlock, f_X6_isAhead, f_X6_isSheet])) (by first | decide | assumption | (clear hres hz hts; grind [f_X6_in, f_X6_isBlock, f_X6_isAhead, f_X6_isSheet]))) kM_X6_61 zK6 kq_X6_at zR0 rfl hl.1 rfl rfl rfl ⟨Nat.le_of_ble_eq_true rfl, Nat.le_of_ble_eq_true rfl⟩ (Nat.le_of_ble_eq_true rfl) dX6_push_33) hH (fun H locs hH => ?_)
      refine lv_iload_n hx hb dX6_push_36 rfl (lv_at hl 2 rfl) ?_
      refine lv_iadd hx hb dX6_push_37 ?_
      refine zci (zrunV C0 hH (c_X6_become l D cy ad _ _ _ _ (by first | assumption | (have q0 := hH.many; (try obtain ⟨qa, qb, -⟩ := hct); clear hres hz hts; grind [f_X6_in, f_X6_isBlock, f_X6_isAhead, f_X6_isSheet])) (by first | decide | assumption | (clear hres hz hts; grind [f_X6_in, f_X6_isBlock, f_X6_isAhead, f_X6_isSheet]))) kM_X6_88 zK6 kq_X6_become zR0 rfl hl.1 rfl rfl rfl ⟨Nat.le_of_ble_eq_true rfl, Nat.le_of_ble_eq_true rfl⟩ (Nat.le_of_ble_eq_true rfl) dX6_push_38) hH (fun H locs hH => ?_)
      refine lv_pop hx hb dX6_push_41 rfl ?_
      refine lv_aload_n hx hb dX6_push_42 rfl (lv_at hl 0 rfl) ?_
      refine lv_iload_n hx hb dX6_push_43 rfl (lv_at hl 1 rfl) ?_
      refine lv_bipush (v := (6 : Int32)) hx hb dX6_push_44 (by decide) ?_
      refine lv_iconst (v := (0 : Int32)) hx hb dX6_push_46 (by decide) ?_
      refine zci (zrunV C0 hH (c_X6_become l D cy ad _ _ _ _ (by first | assumption | (have q0 := hH.many; (try obtain ⟨qa, qb, -⟩ := hct); clear hres hz hts; grind [f_X6_in, f_X6_isBlock, f_X6_isAhead, f_X6_isSheet])) (by first | decide | assumption | (clear hres hz hts; grind [f_X6_in, f_X6_isBlock, f_X6_isAhead, f_X6_isSheet]))) kM_X6_88 zK6 kq_X6_become zR0 rfl hl.1 rfl rfl rfl ⟨Nat.le_of_ble_eq_true rfl, Nat.le_of_ble_eq_true rfl⟩ (Nat.le_of_ble_eq_true rfl) dX6_push_47) hH (fun H locs hH => ?_)
      refine lv_pop hx hb dX6_push_50 rfl ?_
      refine lv_aload_n hx hb dX6_push_51 rfl (lv_at hl 0 rfl) ?_
      refine lv_iload_n hx hb dX6_push_52 rfl (lv_at hl 1 rfl) ?_
      refine lv_iconst (v := (5 : Int32)) hx hb dX6_push_53 (by decide) ?_
      refine zci (zrunV C0 hH (c_X6_at l D cy ad _ _ _ (by first | assumption | (have q0 := hH.many; (try obtain ⟨qa, qb, -⟩ := hct); clear hres hz hts; grind [f_X6_in, f_X6_isBlock, f_X6_isAhead, f_X6_isSheet])) (by first | decide | assumption | (clear hres hz hts; grind [f_X6_in, f_X6_isBlock, f_X6_isAhead, f_X6_isSheet]))) kM_X6_61 zK6 kq_X6_at zR0 rfl hl.1 rfl rfl rfl ⟨Nat.le_of_ble_eq_true rfl, Nat.le_of_ble_eq_true rfl⟩ (Nat.le_of_ble_eq_true rfl) dX6_push_54) hH (fun H locs hH => ?_)
      exact zreti C0 hH dX6_push_57 (zfst hres) (zsnd hres)
    · have hres := zif_pos c18_6 hres
      exact J21 _ _ _ _ hH (lv_sub hl [0] rfl) hres
set_option maxRecDepth 100000 in
set_option maxHeartbeats 4000000 in
theorem c_X6_oil (l : Launch) (D : va_G) (cy : Nat → ClassId) (ad : Nat → Nat) (M : zM) (p1 : Int32) (p2 : Int32) : Met l yX6_oil (Cond.code yX6_oil cX6_oil 3 (some .int) :: zG) ({ frames := 2, cells := 0, slots := 0, locals := 46 }) (zP D lyR cy ad [.ref (ad 0), .int p1, .int p2] M) (zQi D lyR cy ad (f_X6_oil p1 p2 M).1 (f_X6_oil p1 p2 M).2) 0 0 (zA lyR ad) := by
  generalize hres : (f_X6_oil p1 p2 M) = res
  refine zMet (by decide) (Nat.le_of_ble_eq_true rfl) ?_
  intro p e s m args below meth c ls C0 hH hl
  obtain ⟨⟨hx, hb, hml, hown, hts⟩, -⟩ := id C0
  have hz : ∀ w ∈ zG, w.before args s = true := fun w h => hts w (List.mem_cons_of_mem _ h)
  have hl : lv_has ls 3 [(0, .ref (ad 0)), (1, .int p1), (2, .int p2)] := hl
  have g0 := hH.many
  have J18 : ∀ (mm : zM) (H : Heap) (locs : List Loc) (ls : Array Slot), zH D lyR cy ad s.heap mm H locs → lv_has ls 3 [(0, .ref (ad 0))] → f_X6_oil_18 p1 p2 mm = res → W p l e { frames := 2, cells := 0, slots := 0, locals := 46 } s m args below meth c H locs 0 0 (MQ below (zQi D lyR cy ad res.1 res.2) args s 0 0 (zA lyR ad)) (F0 m 18 ls []) := by
    intro mm H locs ls hH hl hres
    refine lv_aload_n hx hb dX6_oil_18 rfl (lv_at hl 0 rfl) ?_
    refine lv_iconst (v := (0 : Int32)) hx hb dX6_oil_19 (by decide) ?_
    refine zci (zrunV C0 hH (c_X6_no l D cy ad _ _ (by decide)) kM_X6_85 zK6 kq_X6_no zR0 rfl hl.1 rfl rfl rfl ⟨Nat.le_of_ble_eq_true rfl, Nat.le_of_ble_eq_true rfl⟩ (Nat.le_of_ble_eq_true rfl) dX6_oil_20) hH (fun H locs hH => ?_)
    exact zreti C0 hH dX6_oil_23 (zfst hres) (zsnd hres)
  refine lv_aload_n hx hb dX6_oil_0 rfl (lv_at hl 0 rfl) ?_
  refine lv_iload_n hx hb dX6_oil_1 rfl (lv_at hl 1 rfl) ?_
  refine zcz (zrunV C0 hH (c_X6_isBlock l D cy ad _ _) kM_X6_92 zK6 kq_X6_isBlock zR0 rfl hl.1 rfl rfl rfl ⟨Nat.le_of_ble_eq_true rfl, Nat.le_of_ble_eq_true rfl⟩ (Nat.le_of_ble_eq_true rfl) dX6_oil_2) hH (fun H locs hH h01_1 => ?_)
  refine lv_if_eq (tgt := 18) hx hb dX6_oil_5 (by decide) (fun c5_3 => ?_) (fun c5_3 => ?_)
  · have hres := zif_pos c5_3 hres
    exact J18 _ _ _ _ hH (lv_sub hl [0] rfl) hres
  · have hres := zif_neg c5_3 hres
    refine lv_iload_n hx hb dX6_oil_8 rfl (lv_at hl 2 rfl) ?_
    refine lv_iconst (v := (1 : Int32)) hx hb dX6_oil_9 (by decide) ?_
    refine lv_bipush (v := (99 : Int32)) hx hb dX6_oil_10 (by decide) ?_
    refine zcz (zrunS C0 hH (c_X6_in l D cy ad _ _ _ _) kM_X6_57 kq_X6_in rfl hl.1 rfl rfl rfl ⟨Nat.le_of_ble_eq_true rfl, Nat.le_of_ble_eq_true rfl⟩ (Nat.le_of_ble_eq_true rfl) dX6_oil_12) hH (fun H locs hH h01_4 => ?_)
    refine lv_if_ne (tgt := 24) hx hb dX6_oil_15 (by decide) (fun c15_6 => ?_) (fun c15_6 => ?_)
    · have hres := zif_neg c15_6 hres
      refine lv_aload_n hx hb dX6_oil_24 rfl (lv_at hl 0 rfl) ?_
      refine lv_iload_n hx hb dX6_oil_25 rfl (lv_at hl 1 rfl) ?_
      refine lv_iconst (v := (4 : Int32)) hx hb dX6_oil_26 (by decide) ?_
      refine lv_bipush (v := (99 : Int32)) hx hb dX6_oil_27 (by decide) ?_
      refine lv_aload_n hx hb dX6_oil_29 rfl (lv_at hl 0 rfl) ?_
      refine lv_iload_n hx hb dX6_oil_30 rfl (lv_at hl 1 rfl) ?_
      refine lv_iconst (v := (4 : Int32)) hx hb dX6_oil_31 (by decide) ?_
      refine zci (zrunV C0 hH (c_X6_at l D cy ad _ _ _ (by first | assumption | (have q0 := hH.many; (try obtain ⟨qa, qb, -⟩ := hct); clear hres hz hts; grind [f_X6_in, f_X6_isBlock, f_X6_isAhead, f_X6_isSheet])) (by first | decide | assumption | (clear hres hz hts; grind [f_X6_in, f_X6_isBlock, f_X6_isAhead, f_X6_isSheet]))) kM_X6_61 zK6 kq_X6_at zR0 rfl hl.1 rfl rfl rfl ⟨Nat.le_of_ble_eq_true rfl, Nat.le_of_ble_eq_true rfl⟩ (Nat.le_of_ble_eq_true rfl) dX6_oil_32) hH (fun H locs hH => ?_)
      refine lv_iload_n hx hb dX6_oil_35 rfl (lv_at hl 2 rfl) ?_
      refine lv_iadd hx hb dX6_oil_36 ?_
      refine zci (zrunS C0 hH (c_X6_lesser l D cy ad _ _ _) kM_X6_65 kq_X6_lesser rfl hl.1 rfl rfl rfl ⟨Nat.le_of_ble_eq_true rfl, Nat.le_of_ble_eq_true rfl⟩ (Nat.le_of_ble_eq_true rfl) dX6_oil_37) hH (fun H locs hH => ?_)
      refine zci (zrunV C0 hH (c_X6_become l D cy ad _ _ _ _ (by first | assumption | (have q0 := hH.many; (try obtain ⟨qa, qb, -⟩ := hct); clear hres hz hts; grind [f_X6_in, f_X6_isBlock, f_X6_isAhead, f_X6_isSheet])) (by first | decide | assumption | (clear hres hz hts; grind [f_X6_in, f_X6_isBlock, f_X6_isAhead, f_X6_isSheet]))) kM_X6_88 zK6 kq_X6_become zR0 rfl hl.1 rfl rfl rfl ⟨Nat.le_of_ble_eq_true rfl, Nat.le_of_ble_eq_true rfl⟩ (Nat.le_of_ble_eq_true rfl) dX6_oil_40) hH (fun H locs hH => ?_)
      refine lv_pop hx hb dX6_oil_43 rfl ?_
      refine lv_aload_n hx hb dX6_oil_44 rfl (lv_at hl 0 rfl) ?_
      refine lv_iload_n hx hb dX6_oil_45 rfl (lv_at hl 1 rfl) ?_
      refine lv_iconst (v := (4 : Int32)) hx hb dX6_oil_46 (by decide) ?_
      refine zci (zrunV C0 hH (c_X6_at l D cy ad _ _ _ (by first | assumption | (have q0 := hH.many; (try obtain ⟨qa, qb, -⟩ := hct); clear hres hz hts; grind [f_X6_in, f_X6_isBlock, f_X6_isAhead, f_X6_isSheet])) (by first | decide | assumption | (clear hres hz hts; grind [f_X6_in, f_X6_isBlock, f_X6_isAhead, f_X6_isSheet]))) kM_X6_61 zK6 kq_X6_at zR0 rfl hl.1 rfl rfl rfl ⟨Nat.le_of_ble_eq_true rfl, Nat.le_of_ble_eq_true rfl⟩ (Nat.le_of_ble_eq_true rfl) dX6_oil_47) hH (fun H locs hH => ?_)
      exact zreti C0 hH dX6_oil_50 (zfst hres) (zsnd hres)
    · have hres := zif_pos c15_6 hres
      exact J18 _ _ _ _ hH (lv_sub hl [0] rfl) hres
set_option maxRecDepth 100000 in
set_option maxHeartbeats 4000000 in
theorem c_X6_pace (l : Launch) (D : va_G) (cy : Nat → ClassId) (ad : Nat → Nat) (M : zM) (p1 : Int32) : Met l yX6_pace (Cond.code yX6_pace cX6_pace 3 (some .int) :: zG) ({ frames := 1, cells := 0, slots := 0, locals := 22 }) (zP D lyR cy ad [.ref (ad 0), .int p1] M) (zQi D lyR cy ad (f_X6_pace p1 M).1 (f_X6_pace p1 M).2) 0 0 (zA lyR ad) := by
  generalize hres : (f_X6_pace p1 M) = res
  refine zMet (by decide) (Nat.le_of_ble_eq_true rfl) ?_
  intro p e s m args below meth c ls C0 hH hl
  obtain ⟨⟨hx, hb, hml, hown, hts⟩, -⟩ := id C0
  have hz : ∀ w ∈ zG, w.before args s = true := fun w h => hts w (List.mem_cons_of_mem _ h)
  have hl : lv_has ls 3 [(0, .ref (ad 0)), (1, .int p1)] := hl
  have g0 := hH.many
  refine lv_iload_n hx hb dX6_pace_0 rfl (lv_at hl 1 rfl) ?_
  refine lv_bipush (v := (-99 : Int32)) hx hb dX6_pace_1 (by decide) ?_
  refine lv_bipush (v := (99 : Int32)) hx hb dX6_pace_3 (by decide) ?_
  refine zcz (zrunS C0 hH (c_X6_in l D cy ad _ _ _ _) kM_X6_57 kq_X6_in rfl hl.1 rfl rfl rfl ⟨Nat.le_of_ble_eq_true rfl, Nat.le_of_ble_eq_true rfl⟩ (Nat.le_of_ble_eq_true rfl) dX6_pace_5) hH (fun H locs hH h01_1 => ?_)
  refine lv_if_ne (tgt := 17) hx hb dX6_pace_8 (by decide) (fun c8_3 => ?_) (fun c8_3 => ?_)
  · have hres := zif_neg c8_3 hres
    refine lv_aload_n hx hb dX6_pace_17 rfl (lv_at hl 0 rfl) ?_
    refine zgR C0 hH zK6 0 (by decide) _ zR0 rfl kF_X6_9 dX6_pace_18 ?_
    refine lv_iconst (v := (2 : Int32)) hx hb dX6_pace_21 (by decide) ?_
    refine zaldK C0 hH zS31.is zS31.ln (k := 2) (by decide) (by unfold vp_in; decide) dX6_pace_22 ?_
    refine lv_istore_n (lv' := [(2, _), (0, _), (1, _)]) hx hb dX6_pace_23 rfl hl (by decide) rfl (fun ls hl => ?_)
    refine lv_aload_n hx hb dX6_pace_24 rfl (lv_at hl 1 rfl) ?_
    refine zgR C0 hH zK6 0 (by decide) _ zR0 rfl kF_X6_9 dX6_pace_25 ?_
    refine lv_iconst (v := (2 : Int32)) hx hb dX6_pace_28 (by decide) ?_
    refine lv_iload_n hx hb dX6_pace_29 rfl (lv_at hl 2 rfl) ?_
    refine zastK C0 hH zS31.is zS31.ln (k := 2) (by decide) (by unfold vp_in; decide) zcn dX6_pace_30 (fun H locs hH => ?_)
    refine lv_iload_n hx hb dX6_pace_31 rfl (lv_at hl 0 rfl) ?_
    exact zreti C0 hH dX6_pace_32 (zfst hres) (zsnd hres)
  · have hres := zif_pos c8_3 hres
    refine lv_aload_n hx hb dX6_pace_11 rfl (lv_at hl 0 rfl) ?_
    refine lv_iconst (v := (0 : Int32)) hx hb dX6_pace_12 (by decide) ?_
    refine zci (zrunV C0 hH (c_X6_no l D cy ad _ _ (by decide)) kM_X6_85 zK6 kq_X6_no zR0 rfl hl.1 rfl rfl rfl ⟨Nat.le_of_ble_eq_true rfl, Nat.le_of_ble_eq_true rfl⟩ (Nat.le_of_ble_eq_true rfl) dX6_pace_13) hH (fun H locs hH => ?_)
    exact zreti C0 hH dX6_pace_16 (zfst hres) (zsnd hres)
set_option maxRecDepth 100000 in
set_option maxHeartbeats 4000000 in
theorem c_X6_classOf (l : Launch) (D : va_G) (cy : Nat → ClassId) (ad : Nat → Nat) (M : zM) (p0 : Int32) : Met l yX6_classOf (Cond.code yX6_classOf cX6_classOf 3 (some .int) :: zG) ({ frames := 0, cells := 0, slots := 0, locals := 0 }) (zP D lyR cy ad [.int p0] M) (zQi D lyR cy ad (f_X6_classOf p0) M) 0 0 (zA lyR ad) := by
  generalize hres : (f_X6_classOf p0) = res
  refine zMet (by decide) (Nat.le_of_ble_eq_true rfl) ?_
  intro p e s m args below meth c ls C0 hH hl
  obtain ⟨⟨hx, hb, hml, hown, hts⟩, -⟩ := id C0
  have hz : ∀ w ∈ zG, w.before args s = true := fun w h => hts w (List.mem_cons_of_mem _ h)
  have hl : lv_has ls 3 [(0, .int p0)] := hl
  have L4 : ∀ (n4 : Nat), ∀ (v1 : Int32) (v2 : Int32) (H : Heap) (locs : List Loc) (ls : Array Slot), (zCt 6 n4 v1) → zH D lyR cy ad s.heap M H locs → lv_has ls 3 [(1, .int v1), (2, .int v2)] → f_X6_classOf_4 p0 n4 v1 v2 = res → W p l e { frames := 0, cells := 0, slots := 0, locals := 0 } s m args below meth c H locs 0 0 (MQ below (zQi D lyR cy ad res M) args s 0 0 (zA lyR ad)) (F0 m 4 ls []) := by
    intro n4
    induction n4 with
    | zero =>
      intro v1 v2 H locs ls hct hH hl hres
      exfalso; exact hct.zero
    | succ n4 ih4 =>
      intro v1 v2 H locs ls hct hH hl hres
      refine lv_iload_n hx hb dX6_classOf_4 rfl (lv_at hl 1 rfl) ?_
      refine lv_if_le (tgt := 24) hx hb dX6_classOf_5 (by decide) (fun c5_1 => ?_) (fun c5_1 => ?_)
      · have hres := zif_pos c5_1 hres
        refine lv_iload_n hx hb dX6_classOf_24 rfl (lv_at hl 0 rfl) ?_
        exact zreti C0 hH dX6_classOf_25 hres rfl
      · have hres := zif_neg c5_1 hres
        refine lv_iload_n hx hb dX6_classOf_8 rfl (lv_at hl 0 rfl) ?_
        refine lv_bipush (v := (6 : Int32)) hx hb dX6_classOf_9 (by decide) ?_
        refine lv_icmp_ge (tgt := 24) hx hb dX6_classOf_11 (by decide) (fun c11_2 => ?_) (fun c11_2 => ?_)
        · have hres := zif_pos c11_2 hres
          refine lv_iload_n hx hb dX6_classOf_24 rfl (lv_at hl 0 rfl) ?_
          exact zreti C0 hH dX6_classOf_25 hres rfl
        · have hres := zif_neg c11_2 hres
          refine ziinc (lv' := [(1, _), (2, _)]) (k := 0) hx hb (1 : Int32) (by decide) dX6_classOf_14 hl rfl (by decide) rfl (fun ls hl => ?_)
          refine lv_iload_n hx hb dX6_classOf_17 rfl (lv_at hl 1 rfl) ?_
          refine lv_iconst (v := (2 : Int32)) hx hb dX6_classOf_18 (by decide) ?_
          refine lv_idiv hx hb dX6_classOf_19 (by first | assumption | decide) ?_
          refine lv_istore_n (lv' := [(2, _), (1, _)]) hx hb dX6_classOf_20 rfl hl (by decide) rfl (fun ls hl => ?_)
          refine lv_goto (tgt := 4) hx hb dX6_classOf_21 (by decide) ?_
          exact ih4 _ _ _ _ _ (by first | exact zCt.start (by decide) (by decide) | exact zCt.step (m := 6) hct (by clear hres hz hts; grind) (by decide)) hH (lv_sub hl [1, 0] rfl) hres
  refine lv_iconst (v := (0 : Int32)) hx hb dX6_classOf_0 (by decide) ?_
  refine lv_istore_n (lv' := [(1, _), (0, _)]) hx hb dX6_classOf_1 rfl hl (by decide) rfl (fun ls hl => ?_)
  refine lv_iload_n hx hb dX6_classOf_2 rfl (lv_at hl 1 rfl) ?_
  refine lv_istore_n (lv' := [(2, _), (1, _), (0, _)]) hx hb dX6_classOf_3 rfl hl (by decide) rfl (fun ls hl => ?_)
  exact L4 (7) _ _ _ _ _ (by first | exact zCt.start (by decide) (by decide) | exact zCt.step (m := 6) hct (by clear hres hz hts; grind) (by decide)) hH (lv_sub hl [1, 0] rfl) hres
set_option maxRecDepth 100000 in
set_option maxHeartbeats 4000000 in
theorem c_X6_books (l : Launch) (D : va_G) (cy : Nat → ClassId) (ad : Nat → Nat) (M : zM) : Met l yX6_books (Cond.code yX6_books cX6_books 2 none :: zG) ({ frames := 1, cells := 0, slots := 0, locals := 21 }) (zP D lyR cy ad [.ref (ad 0)] M) (zQv D lyR cy ad (f_X6_books M)) 0 0 (zA lyR ad) := by
  generalize hres : (f_X6_books M) = res
  refine zMet (by decide) (Nat.le_of_ble_eq_true rfl) ?_
  intro p e s m args below meth c ls C0 hH hl
  obtain ⟨⟨hx, hb, hml, hown, hts⟩, -⟩ := id C0
  have hz : ∀ w ∈ zG, w.before args s = true := fun w h => hts w (List.mem_cons_of_mem _ h)
  have hl : lv_has ls 2 [(0, .ref (ad 0))] := hl
  have g0 := hH.many
  have L3 : ∀ (n3 : Nat), ∀ (v1 : Int32) (mm : zM) (H : Heap) (locs : List Loc) (ls : Array Slot), (zCd 99 n3 v1) → zH D lyR cy ad s.heap mm H locs → lv_has ls 2 [(0, .ref (ad 0)), (1, .int v1)] → f_X6_books_3 n3 v1 mm = res → W p l e { frames := 1, cells := 0, slots := 0, locals := 21 } s m args below meth c H locs 0 0 (MQ below (zQv D lyR cy ad res) args s 0 0 (zA lyR ad)) (F0 m 3 ls []) := by
    intro n3
    induction n3 with
    | zero =>
      intro v1 mm H locs ls hct hH hl hres
      exfalso; exact hct.zero
    | succ n3 ih3 =>
      intro v1 mm H locs ls hct hH hl hres
      refine lv_iload_n hx hb dX6_books_3 rfl (lv_at hl 1 rfl) ?_
      refine lv_if_le (tgt := 79) hx hb dX6_books_4 (by decide) (fun c4_1 => ?_) (fun c4_1 => ?_)
      · have hres := zif_pos c4_1 hres
        refine lv_aload_n hx hb dX6_books_79 rfl (lv_at hl 0 rfl) ?_
        refine zgR C0 hH zK6 0 (by decide) _ zR0 rfl kF_X6_9 dX6_books_80 ?_
        refine lv_sipush (v := (148 : Int32)) hx hb dX6_books_83 (by decide) ?_
        refine lv_aload_n hx hb dX6_books_86 rfl (lv_at hl 0 rfl) ?_
        refine zgI C0 hH zK6 10 (by decide) zR0 rfl kF_X6_124 dX6_books_87 ?_
        refine zastK C0 hH zS31.is zS31.ln (k := 148) (by decide) (by unfold vp_in; decide) zcn dX6_books_90 (fun H locs hH => ?_)
        refine lv_aload_n hx hb dX6_books_91 rfl (lv_at hl 0 rfl) ?_
        refine zgR C0 hH zK6 0 (by decide) _ zR0 rfl kF_X6_9 dX6_books_92 ?_
        refine lv_sipush (v := (248 : Int32)) hx hb dX6_books_95 (by decide) ?_
        refine lv_aload_n hx hb dX6_books_98 rfl (lv_at hl 0 rfl) ?_
        refine zgI C0 hH zK6 9 (by decide) zR0 rfl kF_X6_108 dX6_books_99 ?_
        refine zastK C0 hH zS31.is zS31.ln (k := 248) (by decide) (by unfold vp_in; decide) zcn dX6_books_102 (fun H locs hH => ?_)
        refine lv_aload_n hx hb dX6_books_103 rfl (lv_at hl 0 rfl) ?_
        refine zgR C0 hH zK6 0 (by decide) _ zR0 rfl kF_X6_9 dX6_books_104 ?_
        refine lv_sipush (v := (348 : Int32)) hx hb dX6_books_107 (by decide) ?_
        refine lv_aload_n hx hb dX6_books_110 rfl (lv_at hl 0 rfl) ?_
        refine zgI C0 hH zK6 11 (by decide) zR0 rfl kF_X6_127 dX6_books_111 ?_
        refine zastK C0 hH zS31.is zS31.ln (k := 348) (by decide) (by unfold vp_in; decide) zcn dX6_books_114 (fun H locs hH => ?_)
        refine lv_aload_n hx hb dX6_books_115 rfl (lv_at hl 0 rfl) ?_
        refine zgR C0 hH zK6 0 (by decide) _ zR0 rfl kF_X6_9 dX6_books_116 ?_
        refine lv_bipush (v := (13 : Int32)) hx hb dX6_books_119 (by decide) ?_
        refine lv_bipush (v := (100 : Int32)) hx hb dX6_books_121 (by decide) ?_
        refine lv_aload_n hx hb dX6_books_123 rfl (lv_at hl 0 rfl) ?_
        refine zgR C0 hH zK6 0 (by decide) _ zR0 rfl kF_X6_9 dX6_books_124 ?_
        refine lv_bipush (v := (13 : Int32)) hx hb dX6_books_127 (by decide) ?_
        refine zaldK C0 hH zS31.is zS31.ln (k := 13) (by decide) (by unfold vp_in; decide) dX6_books_129 ?_
        refine lv_iconst (v := (1 : Int32)) hx hb dX6_books_130 (by decide) ?_
        refine lv_iadd hx hb dX6_books_131 ?_
        refine zci (zrunS C0 hH (c_X6_lesser l D cy ad _ _ _) kM_X6_65 kq_X6_lesser rfl hl.1 rfl rfl rfl ⟨Nat.le_of_ble_eq_true rfl, Nat.le_of_ble_eq_true rfl⟩ (Nat.le_of_ble_eq_true rfl) dX6_books_132) hH (fun H locs hH => ?_)
        refine zastK C0 hH zS31.is zS31.ln (k := 13) (by decide) (by unfold vp_in; decide) (zcs (by have q1 := hH.booked; clear hres hz hts; grind [f_X6_lesser])) dX6_books_135 (fun H locs hH => ?_)
        exact zretv C0 hH dX6_books_136 hres
      · have hres := zif_neg c4_1 hres
        refine lv_aload_n hx hb dX6_books_7 rfl (lv_at hl 0 rfl) ?_
        refine zgR C0 hH zK6 0 (by decide) _ zR0 rfl kF_X6_9 dX6_books_8 ?_
        refine lv_sipush (v := (148 : Int32)) hx hb dX6_books_11 (by decide) ?_
        refine lv_iload_n hx hb dX6_books_14 rfl (lv_at hl 1 rfl) ?_
        refine lv_iadd hx hb dX6_books_15 ?_
        refine lv_aload_n hx hb dX6_books_16 rfl (lv_at hl 0 rfl) ?_
        refine zgR C0 hH zK6 0 (by decide) _ zR0 rfl kF_X6_9 dX6_books_17 ?_
        refine lv_sipush (v := (148 : Int32)) hx hb dX6_books_20 (by decide) ?_
        refine lv_iload_n hx hb dX6_books_23 rfl (lv_at hl 1 rfl) ?_
        refine lv_iadd hx hb dX6_books_24 ?_
        refine lv_iconst (v := (1 : Int32)) hx hb dX6_books_25 (by decide) ?_
        refine lv_isub hx hb dX6_books_26 ?_
        refine zald C0 hH zS31.is zS31.ln (by exact zin448.mpr (by obtain ⟨qa, qb, -⟩ := hct; clear hres hz hts; grind [f_X6_in, f_X6_isBlock, f_X6_isAhead, f_X6_isSheet])) dX6_books_27 ?_
        refine zast C0 hH zS31.is zS31.ln (by exact zin448.mpr (by obtain ⟨qa, qb, -⟩ := hct; clear hres hz hts; grind [f_X6_in, f_X6_isBlock, f_X6_isAhead, f_X6_isSheet])) (by exact zfitS (by obtain ⟨qa, qb, -⟩ := hct; clear hres hz hts; grind [f_X6_in, f_X6_isBlock, f_X6_isAhead, f_X6_isSheet])) dX6_books_28 (fun H locs hH => ?_)
        refine lv_aload_n hx hb dX6_books_29 rfl (lv_at hl 0 rfl) ?_
        refine zgR C0 hH zK6 0 (by decide) _ zR0 rfl kF_X6_9 dX6_books_30 ?_
        refine lv_sipush (v := (248 : Int32)) hx hb dX6_books_33 (by decide) ?_
        refine lv_iload_n hx hb dX6_books_36 rfl (lv_at hl 1 rfl) ?_
        refine lv_iadd hx hb dX6_books_37 ?_
        refine lv_aload_n hx hb dX6_books_38 rfl (lv_at hl 0 rfl) ?_
        refine zgR C0 hH zK6 0 (by decide) _ zR0 rfl kF_X6_9 dX6_books_39 ?_
        refine lv_sipush (v := (248 : Int32)) hx hb dX6_books_42 (by decide) ?_
        refine lv_iload_n hx hb dX6_books_45 rfl (lv_at hl 1 rfl) ?_
        refine lv_iadd hx hb dX6_books_46 ?_
        refine lv_iconst (v := (1 : Int32)) hx hb dX6_books_47 (by decide) ?_
        refine lv_isub hx hb dX6_books_48 ?_
        refine zald C0 hH zS31.is zS31.ln (by exact zin448.mpr (by obtain ⟨qa, qb, -⟩ := hct; clear hres hz hts; grind [f_X6_in, f_X6_isBlock, f_X6_isAhead, f_X6_isSheet])) dX6_books_49 ?_
        refine zast C0 hH zS31.is zS31.ln (by exact zin448.mpr (by obtain ⟨qa, qb, -⟩ := hct; clear hres hz hts; grind [f_X6_in, f_X6_isBlock, f_X6_isAhead, f_X6_isSheet])) (by exact zfitS (by obtain ⟨qa, qb, -⟩ := hct; clear hres hz hts; grind [f_X6_in, f_X6_isBlock, f_X6_isAhead, f_X6_isSheet])) dX6_books_50 (fun H locs hH => ?_)
        refine lv_aload_n hx hb dX6_books_51 rfl (lv_at hl 0 rfl) ?_
        refine zgR C0 hH zK6 0 (by decide) _ zR0 rfl kF_X6_9 dX6_books_52 ?_
        refine lv_sipush (v := (348 : Int32)) hx hb dX6_books_55 (by decide) ?_
        refine lv_iload_n hx hb dX6_books_58 rfl (lv_at hl 1 rfl) ?_
        refine lv_iadd hx hb dX6_books_59 ?_
        refine lv_aload_n hx hb dX6_books_60 rfl (lv_at hl 0 rfl) ?_
        refine zgR C0 hH zK6 0 (by decide) _ zR0 rfl kF_X6_9 dX6_books_61 ?_
        refine lv_sipush (v := (348 : Int32)) hx hb dX6_books_64 (by decide) ?_
        refine lv_iload_n hx hb dX6_books_67 rfl (lv_at hl 1 rfl) ?_
        refine lv_iadd hx hb dX6_books_68 ?_
        refine lv_iconst (v := (1 : Int32)) hx hb dX6_books_69 (by decide) ?_
        refine lv_isub hx hb dX6_books_70 ?_
        refine zald C0 hH zS31.is zS31.ln (by exact zin448.mpr (by obtain ⟨qa, qb, -⟩ := hct; clear hres hz hts; grind [f_X6_in, f_X6_isBlock, f_X6_isAhead, f_X6_isSheet])) dX6_books_71 ?_
        refine zast C0 hH zS31.is zS31.ln (by exact zin448.mpr (by obtain ⟨qa, qb, -⟩ := hct; clear hres hz hts; grind [f_X6_in, f_X6_isBlock, f_X6_isAhead, f_X6_isSheet])) (by exact zfitS (by obtain ⟨qa, qb, -⟩ := hct; clear hres hz hts; grind [f_X6_in, f_X6_isBlock, f_X6_isAhead, f_X6_isSheet])) dX6_books_72 (fun H locs hH => ?_)
        refine ziinc (lv' := [(1, _), (0, _)]) (k := 1) hx hb (-1 : Int32) (by decide) dX6_books_73 hl rfl (by decide) rfl (fun ls hl => ?_)
        refine lv_goto (tgt := 3) hx hb dX6_books_76 (by decide) ?_
        exact ih3 _ _ _ _ _ (by first | exact zCd.begin (by decide) (by decide) (by decide) | exact zCd.begin (by clear hres hz hts; grind [f_X6_in, f_X6_isBlock, f_X6_isAhead, f_X6_isSheet]) (by clear hres hz hts; grind [f_X6_in, f_X6_isBlock, f_X6_isAhead, f_X6_isSheet]) (by decide) | exact zCd.step1 hct (by clear hres hz hts; grind [f_X6_in, f_X6_isBlock, f_X6_isAhead, f_X6_isSheet])) hH (lv_sub hl [1, 0] rfl) hres
  refine lv_bipush (v := (99 : Int32)) hx hb dX6_books_0 (by decide) ?_
  refine lv_istore_n (lv' := [(1, _), (0, _)]) hx hb dX6_books_2 rfl hl (by decide) rfl (fun ls hl => ?_)
  exact L3 (101) _ _ _ _ _ (by first | exact zCd.begin (by decide) (by decide) (by decide) | exact zCd.begin (by clear hres hz hts; grind [f_X6_in, f_X6_isBlock, f_X6_isAhead, f_X6_isSheet]) (by clear hres hz hts; grind [f_X6_in, f_X6_isBlock, f_X6_isAhead, f_X6_isSheet]) (by decide) | exact zCd.step1 hct (by clear hres hz hts; grind [f_X6_in, f_X6_isBlock, f_X6_isAhead, f_X6_isSheet])) hH (lv_sub hl [1, 0] rfl) hres
set_option maxRecDepth 100000 in
set_option maxHeartbeats 4000000 in
theorem c_X6_book (l : Launch) (D : va_G) (cy : Nat → ClassId) (ad : Nat → Nat) (M : zM) (p1 : Int32) (p2 : Int32) : Met l yX6_book (Cond.code yX6_book cX6_book 3 (some .int) :: zG) ({ frames := 1, cells := 0, slots := 0, locals := 22 }) (zP D lyR cy ad [.ref (ad 0), .int p1, .int p2] M) (zQi D lyR cy ad (f_X6_book p1 p2 M).1 (f_X6_book p1 p2 M).2) 0 0 (zA lyR ad) := by
  generalize hres : (f_X6_book p1 p2 M) = res
  refine zMet (by decide) (Nat.le_of_ble_eq_true rfl) ?_
  intro p e s m args below meth c ls C0 hH hl
  obtain ⟨⟨hx, hb, hml, hown, hts⟩, -⟩ := id C0
  have hz : ∀ w ∈ zG, w.before args s = true := fun w h => hts w (List.mem_cons_of_mem _ h)
  have hl : lv_has ls 3 [(0, .ref (ad 0)), (1, .int p1), (2, .int p2)] := hl
  have g0 := hH.many
  have J26 : ∀ (mm : zM) (H : Heap) (locs : List Loc) (ls : Array Slot), zH D lyR cy ad s.heap mm H locs → lv_has ls 3 [(0, .ref (ad 0))] → f_X6_book_26 p1 p2 mm = res → W p l e { frames := 1, cells := 0, slots := 0, locals := 22 } s m args below meth c H locs 0 0 (MQ below (zQi D lyR cy ad res.1 res.2) args s 0 0 (zA lyR ad)) (F0 m 26 ls []) := by
    intro mm H locs ls hH hl hres
    refine lv_aload_n hx hb dX6_book_26 rfl (lv_at hl 0 rfl) ?_
    refine lv_iconst (v := (0 : Int32)) hx hb dX6_book_27 (by decide) ?_
    refine zci (zrunV C0 hH (c_X6_no l D cy ad _ _ (by decide)) kM_X6_85 zK6 kq_X6_no zR0 rfl hl.1 rfl rfl rfl ⟨Nat.le_of_ble_eq_true rfl, Nat.le_of_ble_eq_true rfl⟩ (Nat.le_of_ble_eq_true rfl) dX6_book_28) hH (fun H locs hH => ?_)
    exact zreti C0 hH dX6_book_31 (zfst hres) (zsnd hres)
  refine lv_iload_n hx hb dX6_book_0 rfl (lv_at hl 1 rfl) ?_
  refine lv_iconst (v := (0 : Int32)) hx hb dX6_book_1 (by decide) ?_
  refine lv_aload_n hx hb dX6_book_2 rfl (lv_at hl 0 rfl) ?_
  refine zgR C0 hH zK6 0 (by decide) _ zR0 rfl kF_X6_9 dX6_book_3 ?_
  refine lv_bipush (v := (13 : Int32)) hx hb dX6_book_6 (by decide) ?_
  refine zaldK C0 hH zS31.is zS31.ln (k := 13) (by decide) (by unfold vp_in; decide) dX6_book_8 ?_
  refine lv_iconst (v := (1 : Int32)) hx hb dX6_book_9 (by decide) ?_
  refine lv_isub hx hb dX6_book_10 ?_
  refine zcz (zrunS C0 hH (c_X6_in l D cy ad _ _ _ _) kM_X6_57 kq_X6_in rfl hl.1 rfl rfl rfl ⟨Nat.le_of_ble_eq_true rfl, Nat.le_of_ble_eq_true rfl⟩ (Nat.le_of_ble_eq_true rfl) dX6_book_11) hH (fun H locs hH h01_1 => ?_)
  refine lv_if_eq (tgt := 26) hx hb dX6_book_14 (by decide) (fun c14_3 => ?_) (fun c14_3 => ?_)
  · have hres := zif_pos c14_3 hres
    exact J26 _ _ _ _ hH (lv_sub hl [0] rfl) hres
  · have hres := zif_neg c14_3 hres
    refine lv_iload_n hx hb dX6_book_17 rfl (lv_at hl 2 rfl) ?_
    refine lv_iconst (v := (0 : Int32)) hx hb dX6_book_18 (by decide) ?_
    refine lv_iconst (v := (2 : Int32)) hx hb dX6_book_19 (by decide) ?_
    refine zcz (zrunS C0 hH (c_X6_in l D cy ad _ _ _ _) kM_X6_57 kq_X6_in rfl hl.1 rfl rfl rfl ⟨Nat.le_of_ble_eq_true rfl, Nat.le_of_ble_eq_true rfl⟩ (Nat.le_of_ble_eq_true rfl) dX6_book_20) hH (fun H locs hH h01_4 => ?_)
    refine lv_if_ne (tgt := 32) hx hb dX6_book_23 (by decide) (fun c23_6 => ?_) (fun c23_6 => ?_)
    · have hres := zif_neg c23_6 hres
      refine lv_aload_n hx hb dX6_book_32 rfl (lv_at hl 0 rfl) ?_
      refine zgR C0 hH zK6 0 (by decide) _ zR0 rfl kF_X6_9 dX6_book_33 ?_
      refine lv_sipush (v := (148 : Int32)) hx hb dX6_book_36 (by decide) ?_
      refine lv_bipush (v := (100 : Int32)) hx hb dX6_book_39 (by decide) ?_
      refine lv_iload_n hx hb dX6_book_41 rfl (lv_at hl 2 rfl) ?_
      refine lv_imul hx hb dX6_book_42 ?_
      refine lv_iadd hx hb dX6_book_43 ?_
      refine lv_iload_n hx hb dX6_book_44 rfl (lv_at hl 1 rfl) ?_
      refine lv_iadd hx hb dX6_book_45 ?_
      refine zald C0 hH zS31.is zS31.ln (by exact zin448.mpr (bk_X6 hH.booked (in_X6 (by assumption)) (in_X6 (by assumption)))) dX6_book_46 ?_
      exact zreti C0 hH dX6_book_47 (zfst hres) (zsnd hres)
    · have hres := zif_pos c23_6 hres
      exact J26 _ _ _ _ hH (lv_sub hl [0] rfl) hres
set_option maxRecDepth 100000 in
set_option maxHeartbeats 4000000 in
theorem c_X6_counts (l : Launch) (D : va_G) (cy : Nat → ClassId) (ad : Nat → Nat) (M : zM) (p1 : Int32) : Met l yX6_counts (Cond.code yX6_counts cX6_counts 2 (some .int) :: zG) ({ frames := 1, cells := 0, slots := 0, locals := 22 }) (zP D lyR cy ad [.ref (ad 0), .int p1] M) (zQi D lyR cy ad (f_X6_counts p1 M).1 (f_X6_counts p1 M).2) 0 0 (zA lyR ad) := by
  generalize hres : (f_X6_counts p1 M) = res
  refine zMet (by decide) (Nat.le_of_ble_eq_true rfl) ?_
  intro p e s m args below meth c ls C0 hH hl
  obtain ⟨⟨hx, hb, hml, hown, hts⟩, -⟩ := id C0
  have hz : ∀ w ∈ zG, w.before args s = true := fun w h => hts w (List.mem_cons_of_mem _ h)
  have hl : lv_has ls 2 [(0, .ref (ad 0)), (1, .int p1)] := hl
  have g0 := hH.many
  refine lv_iload_n hx hb dX6_counts_0 rfl (lv_at hl 1 rfl) ?_
  refine lv_iconst (v := (0 : Int32)) hx hb dX6_counts_1 (by decide) ?_
  refine lv_bipush (v := (6 : Int32)) hx hb dX6_counts_2 (by decide) ?_
  refine zcz (zrunS C0 hH (c_X6_in l D cy ad _ _ _ _) kM_X6_57 kq_X6_in rfl hl.1 rfl rfl rfl ⟨Nat.le_of_ble_eq_true rfl, Nat.le_of_ble_eq_true rfl⟩ (Nat.le_of_ble_eq_true rfl) dX6_counts_4) hH (fun H locs hH h01_1 => ?_)
  refine lv_if_eq (tgt := 22) hx hb dX6_counts_7 (by decide) (fun c7_3 => ?_) (fun c7_3 => ?_)
  · have hres := zif_pos c7_3 hres
    refine lv_aload_n hx hb dX6_counts_22 rfl (lv_at hl 0 rfl) ?_
    refine lv_iconst (v := (0 : Int32)) hx hb dX6_counts_23 (by decide) ?_
    refine zci (zrunV C0 hH (c_X6_no l D cy ad _ _ (by decide)) kM_X6_85 zK6 kq_X6_no zR0 rfl hl.1 rfl rfl rfl ⟨Nat.le_of_ble_eq_true rfl, Nat.le_of_ble_eq_true rfl⟩ (Nat.le_of_ble_eq_true rfl) dX6_counts_24) hH (fun H locs hH => ?_)
    exact zreti C0 hH dX6_counts_27 (zfst hres) (zsnd hres)
  · have hres := zif_neg c7_3 hres
    refine lv_aload_n hx hb dX6_counts_10 rfl (lv_at hl 0 rfl) ?_
    refine zgR C0 hH zK6 0 (by decide) _ zR0 rfl kF_X6_9 dX6_counts_11 ?_
    refine lv_bipush (v := (6 : Int32)) hx hb dX6_counts_14 (by decide) ?_
    refine lv_iload_n hx hb dX6_counts_16 rfl (lv_at hl 1 rfl) ?_
    refine lv_iadd hx hb dX6_counts_17 ?_
    refine zald C0 hH zS31.is zS31.ln (by exact zin448.mpr (by clear hres hz hts; grind [f_X6_in, f_X6_isBlock, f_X6_isAhead, f_X6_isSheet])) dX6_counts_18 ?_
    refine lv_goto (tgt := 27) hx hb dX6_counts_19 (by decide) ?_
    exact zreti C0 hH dX6_counts_27 (zfst hres) (zsnd hres)
set_option maxRecDepth 100000 in
set_option maxHeartbeats 4000000 in
theorem c_X6_power (l : Launch) (D : va_G) (cy : Nat → ClassId) (ad : Nat → Nat) (M : zM) : Met l yX6_power (Cond.code yX6_power cX6_power 3 (some .int) :: zG) ({ frames := 0, cells := 0, slots := 0, locals := 0 }) (zP D lyR cy ad [.ref (ad 0)] M) (zQi D lyR cy ad (f_X6_power M) M) 0 0 (zA lyR ad) := by
  generalize hres : (f_X6_power M) = res
  refine zMet (by decide) (Nat.le_of_ble_eq_true rfl) ?_
  intro p e s m args below meth c ls C0 hH hl
  obtain ⟨⟨hx, hb, hml, hown, hts⟩, -⟩ := id C0
  have hz : ∀ w ∈ zG, w.before args s = true := fun w h => hts w (List.mem_cons_of_mem _ h)
  have hl : lv_has ls 3 [(0, .ref (ad 0))] := hl
  have g0 := hH.many
  have L4 : ∀ (n4 : Nat), ∀ (v1 : Int32) (v2 : Int32) (H : Heap) (locs : List Loc) (ls : Array Slot), (zCt 7 n4 v2) → (2 ≤ v2) → zH D lyR cy ad s.heap M H locs → lv_has ls 3 [(0, .ref (ad 0)), (1, .int v1), (2, .int v2)] → f_X6_power_4 M n4 v1 v2 = res → W p l e { frames := 0, cells := 0, slots := 0, locals := 0 } s m args below meth c H locs 0 0 (MQ below (zQi D lyR cy ad res M) args s 0 0 (zA lyR ad)) (F0 m 4 ls []) := by
    intro n4
    induction n4 with
    | zero =>
      intro v1 v2 H locs ls hct h2 hH hl hres
      exfalso; exact hct.zero
    | succ n4 ih4 =>
      intro v1 v2 H locs ls hct h2 hH hl hres
      refine lv_iload_n hx hb dX6_power_4 rfl (lv_at hl 2 rfl) ?_
      refine lv_bipush (v := (6 : Int32)) hx hb dX6_power_5 (by decide) ?_
      refine lv_icmp_gt (tgt := 49) hx hb dX6_power_7 (by decide) (fun c7_1 => ?_) (fun c7_1 => ?_)
      · have hres := zif_pos c7_1 hres
        refine lv_iload_n hx hb dX6_power_49 rfl (lv_at hl 1 rfl) ?_
        refine lv_if_eq (tgt := 57) hx hb dX6_power_50 (by decide) (fun c50_2 => ?_) (fun c50_2 => ?_)
        · have hres := zif_pos c50_2 hres
          refine lv_iconst (v := (0 : Int32)) hx hb dX6_power_57 (by decide) ?_
          exact zreti C0 hH dX6_power_58 hres rfl
        · have hres := zif_neg c50_2 hres
          refine lv_iconst (v := (1 : Int32)) hx hb dX6_power_53 (by decide) ?_
          refine lv_goto (tgt := 58) hx hb dX6_power_54 (by decide) ?_
          exact zreti C0 hH dX6_power_58 hres rfl
      · have hres := zif_neg c7_1 hres
        refine lv_iload_n hx hb dX6_power_10 rfl (lv_at hl 1 rfl) ?_
        refine lv_if_eq (tgt := 41) hx hb dX6_power_11 (by decide) (fun c11_3 => ?_) (fun c11_3 => ?_)
        · have hres := zif_pos c11_3 hres
          refine lv_iconst (v := (0 : Int32)) hx hb dX6_power_41 (by decide) ?_
          refine lv_istore_n (lv' := [(1, _), (0, _), (2, _)]) hx hb dX6_power_42 rfl hl (by decide) rfl (fun ls hl => ?_)
          refine ziinc (lv' := [(2, _), (1, _), (0, _)]) (k := 2) hx hb (1 : Int32) (by decide) dX6_power_43 hl rfl (by decide) rfl (fun ls hl => ?_)
          refine lv_goto (tgt := 4) hx hb dX6_power_46 (by decide) ?_
          exact ih4 _ _ _ _ _ (by first | exact zCt.start (by decide) (by decide) | exact zCt.begin (by decide) (by decide) (by decide) | exact zCt.step (m := 7) hct (by first | assumption | exact Int32.not_le.mp (by assumption) | exact Int32.lt_of_lt_of_le (Int32.not_le.mp (by assumption)) g0.2 | (clear hres hz hts; grind [f_X6_in, f_X6_isBlock, f_X6_isAhead, f_X6_isSheet])) (by decide)) (by first | decide | (obtain ⟨qa, qb, -⟩ := hct; clear hres hz hts; grind)) hH (lv_sub hl [2, 1, 0] rfl) hres
        · have hres := zif_neg c11_3 hres
          refine lv_aload_n hx hb dX6_power_14 rfl (lv_at hl 0 rfl) ?_
          refine zgR C0 hH zK6 0 (by decide) _ zR0 rfl kF_X6_9 dX6_power_15 ?_
          refine lv_bipush (v := (6 : Int32)) hx hb dX6_power_18 (by decide) ?_
          refine lv_iload_n hx hb dX6_power_20 rfl (lv_at hl 2 rfl) ?_
          refine lv_iadd hx hb dX6_power_21 ?_
          refine zald C0 hH zS31.is zS31.ln (by exact zoff 6 _ hct.1 hct.2.1 (by decide)) dX6_power_22 ?_
          refine lv_aload_n hx hb dX6_power_23 rfl (lv_at hl 0 rfl) ?_
          refine zgR C0 hH zK6 0 (by decide) _ zR0 rfl kF_X6_9 dX6_power_24 ?_
          refine lv_bipush (v := (6 : Int32)) hx hb dX6_power_27 (by decide) ?_
          refine lv_iload_n hx hb dX6_power_29 rfl (lv_at hl 2 rfl) ?_
          refine lv_iadd hx hb dX6_power_30 ?_
          refine lv_iconst (v := (1 : Int32)) hx hb dX6_power_31 (by decide) ?_
          refine lv_isub hx hb dX6_power_32 ?_
          refine zald C0 hH zS31.is zS31.ln (by exact zin448.mpr (by obtain ⟨qa, qb, -⟩ := hct; clear hres hz hts; grind [f_X6_in, f_X6_isBlock, f_X6_isAhead, f_X6_isSheet])) dX6_power_33 ?_
          refine lv_icmp_gt (tgt := 41) hx hb dX6_power_34 (by decide) (fun c34_4 => ?_) (fun c34_4 => ?_)
          · have hres := zif_pos c34_4 hres
            refine lv_iconst (v := (0 : Int32)) hx hb dX6_power_41 (by decide) ?_
            refine lv_istore_n (lv' := [(1, _), (0, _), (2, _)]) hx hb dX6_power_42 rfl hl (by decide) rfl (fun ls hl => ?_)
            refine ziinc (lv' := [(2, _), (1, _), (0, _)]) (k := 2) hx hb (1 : Int32) (by decide) dX6_power_43 hl rfl (by decide) rfl (fun ls hl => ?_)
            refine lv_goto (tgt := 4) hx hb dX6_power_46 (by decide) ?_
            exact ih4 _ _ _ _ _ (by first | exact zCt.start (by decide) (by decide) | exact zCt.begin (by decide) (by decide) (by decide) | exact zCt.step (m := 7) hct (by first | assumption | exact Int32.not_le.mp (by assumption) | exact Int32.lt_of_lt_of_le (Int32.not_le.mp (by assumption)) g0.2 | (clear hres hz hts; grind [f_X6_in, f_X6_isBlock, f_X6_isAhead, f_X6_isSheet])) (by decide)) (by first | decide | (obtain ⟨qa, qb, -⟩ := hct; clear hres hz hts; grind)) hH (lv_sub hl [2, 1, 0] rfl) hres
          · have hres := zif_neg c34_4 hres
            refine lv_iconst (v := (1 : Int32)) hx hb dX6_power_37 (by decide) ?_
            refine lv_goto (tgt := 42) hx hb dX6_power_38 (by decide) ?_
            refine lv_istore_n (lv' := [(1, _), (0, _), (2, _)]) hx hb dX6_power_42 rfl hl (by decide) rfl (fun ls hl => ?_)
            refine ziinc (lv' := [(2, _), (1, _), (0, _)]) (k := 2) hx hb (1 : Int32) (by decide) dX6_power_43 hl rfl (by decide) rfl (fun ls hl => ?_)
            refine lv_goto (tgt := 4) hx hb dX6_power_46 (by decide) ?_
            exact ih4 _ _ _ _ _ (by first | exact zCt.start (by decide) (by decide) | exact zCt.begin (by decide) (by decide) (by decide) | exact zCt.step (m := 7) hct (by first | assumption | exact Int32.not_le.mp (by assumption) | exact Int32.lt_of_lt_of_le (Int32.not_le.mp (by assumption)) g0.2 | (clear hres hz hts; grind [f_X6_in, f_X6_isBlock, f_X6_isAhead, f_X6_isSheet])) (by decide)) (by first | decide | (obtain ⟨qa, qb, -⟩ := hct; clear hres hz hts; grind)) hH (lv_sub hl [2, 1, 0] rfl) hres
  refine lv_iconst (v := (1 : Int32)) hx hb dX6_power_0 (by decide) ?_
  refine lv_istore_n (lv' := [(1, _), (0, _)]) hx hb dX6_power_1 rfl hl (by decide) rfl (fun ls hl => ?_)
  refine lv_iconst (v := (2 : Int32)) hx hb dX6_power_2 (by decide) ?_
  refine lv_istore_n (lv' := [(2, _), (1, _), (0, _)]) hx hb dX6_power_3 rfl hl (by decide) rfl (fun ls hl => ?_)
  exact L4 (8) _ _ _ _ _ (by first | exact zCt.start (by decide) (by decide) | exact zCt.begin (by decide) (by decide) (by decide) | exact zCt.step (m := 7) hct (by first | assumption | exact Int32.not_le.mp (by assumption) | exact Int32.lt_of_lt_of_le (Int32.not_le.mp (by assumption)) g0.2 | (clear hres hz hts; grind [f_X6_in, f_X6_isBlock, f_X6_isAhead, f_X6_isSheet])) (by decide)) (by first | decide | (obtain ⟨qa, qb, -⟩ := hct; clear hres hz hts; grind)) hH (lv_sub hl [2, 1, 0] rfl) hres
set_option maxRecDepth 100000 in
set_option maxHeartbeats 4000000 in
theorem c_X6_tone (l : Launch) (D : va_G) (cy : Nat → ClassId) (ad : Nat → Nat) (M : zM) : Met l yX6_tone (Cond.code yX6_tone cX6_tone 3 (some .int) :: zG) ({ frames := 1, cells := 0, slots := 0, locals := 21 }) (zP D lyR cy ad [.ref (ad 0)] M) (zQi D lyR cy ad (f_X6_tone M).1 (f_X6_tone M).2) 0 0 (zA lyR ad) := by
  generalize hres : (f_X6_tone M) = res
  refine zMet (by decide) (Nat.le_of_ble_eq_true rfl) ?_
  intro p e s m args below meth c ls C0 hH hl
  obtain ⟨⟨hx, hb, hml, hown, hts⟩, -⟩ := id C0
  have hz : ∀ w ∈ zG, w.before args s = true := fun w h => hts w (List.mem_cons_of_mem _ h)
  have hl : lv_has ls 3 [(0, .ref (ad 0))] := hl
  have g0 := hH.many
  have L4 : ∀ (n4 : Nat), ∀ (v1 : Int32) (v2 : Int32) (mm : zM) (H : Heap) (locs : List Loc) (ls : Array Slot), (zCt 100 n4 v2) → zH D lyR cy ad s.heap mm H locs → lv_has ls 3 [(0, .ref (ad 0)), (1, .int v1), (2, .int v2)] → f_X6_tone_4 n4 v1 v2 mm = res → W p l e { frames := 1, cells := 0, slots := 0, locals := 21 } s m args below meth c H locs 0 0 (MQ below (zQi D lyR cy ad res.1 res.2) args s 0 0 (zA lyR ad)) (F0 m 4 ls []) := by
    intro n4
    induction n4 with
    | zero =>
      intro v1 v2 mm H locs ls hct hH hl hres
      exfalso; exact hct.zero
    | succ n4 ih4 =>
      intro v1 v2 mm H locs ls hct hH hl hres
      have g0 := hH.booked
      refine lv_iload_n hx hb dX6_tone_4 rfl (lv_at hl 2 rfl) ?_
      refine lv_aload_n hx hb dX6_tone_5 rfl (lv_at hl 0 rfl) ?_
      refine zgR C0 hH zK6 0 (by decide) _ zR0 rfl kF_X6_9 dX6_tone_6 ?_
      refine lv_bipush (v := (13 : Int32)) hx hb dX6_tone_9 (by decide) ?_
      refine zaldK C0 hH zS31.is zS31.ln (k := 13) (by decide) (by unfold vp_in; decide) dX6_tone_11 ?_
      refine lv_icmp_ge (tgt := 44) hx hb dX6_tone_12 (by decide) (fun c12_1 => ?_) (fun c12_1 => ?_)
      · have hres := zif_pos c12_1 hres
        refine lv_aload_n hx hb dX6_tone_44 rfl (lv_at hl 0 rfl) ?_
        refine lv_iconst (v := (3 : Int32)) hx hb dX6_tone_45 (by decide) ?_
        refine zci (zrunV C0 hH (c_X6_no l D cy ad _ _ (by decide)) kM_X6_85 zK6 kq_X6_no zR0 rfl hl.1 rfl rfl rfl ⟨Nat.le_of_ble_eq_true rfl, Nat.le_of_ble_eq_true rfl⟩ (Nat.le_of_ble_eq_true rfl) dX6_tone_46) hH (fun H locs hH => ?_)
        exact zreti C0 hH dX6_tone_49 (zfst hres) (zsnd hres)
      · have hres := zif_neg c12_1 hres
        refine lv_aload_n hx hb dX6_tone_15 rfl (lv_at hl 0 rfl) ?_
        refine zgR C0 hH zK6 0 (by decide) _ zR0 rfl kF_X6_9 dX6_tone_16 ?_
        refine lv_sipush (v := (148 : Int32)) hx hb dX6_tone_19 (by decide) ?_
        refine lv_iload_n hx hb dX6_tone_22 rfl (lv_at hl 2 rfl) ?_
        refine lv_iadd hx hb dX6_tone_23 ?_
        refine zald C0 hH zS31.is zS31.ln (by exact zoff 148 _ hct.1 hct.2.1 (by decide)) dX6_tone_24 ?_
        refine lv_if_le (tgt := 38) hx hb dX6_tone_25 (by decide) (fun c25_3 => ?_) (fun c25_3 => ?_)
        · have hres := zif_pos c25_3 hres
          refine ziinc (lv' := [(2, _), (0, _), (1, _)]) (k := 2) hx hb (1 : Int32) (by decide) dX6_tone_38 hl rfl (by decide) rfl (fun ls hl => ?_)
          refine lv_goto (tgt := 4) hx hb dX6_tone_41 (by decide) ?_
          exact ih4 _ _ _ _ _ _ (by first | exact zCt.start (by decide) (by decide) | exact zCt.begin (by decide) (by decide) (by decide) | exact zCt.step (m := 100) hct (by first | assumption | exact Int32.not_le.mp (by assumption) | exact Int32.lt_of_lt_of_le (Int32.not_le.mp (by assumption)) g0.2 | (clear hres hz hts; grind [f_X6_in, f_X6_isBlock, f_X6_isAhead, f_X6_isSheet])) (by decide)) hH (lv_sub hl [1, 2, 0] rfl) hres
        · have hres := zif_neg c25_3 hres
          refine lv_iload_n hx hb dX6_tone_28 rfl (lv_at hl 1 rfl) ?_
          refine lv_if_lt (tgt := 36) hx hb dX6_tone_29 (by decide) (fun c29_4 => ?_) (fun c29_4 => ?_)
          · have hres := zif_pos c29_4 hres
            refine lv_iload_n hx hb dX6_tone_36 rfl (lv_at hl 2 rfl) ?_
            refine lv_istore_n (lv' := [(1, _), (0, _), (2, _)]) hx hb dX6_tone_37 rfl hl (by decide) rfl (fun ls hl => ?_)
            refine ziinc (lv' := [(2, _), (1, _), (0, _)]) (k := 2) hx hb (1 : Int32) (by decide) dX6_tone_38 hl rfl (by decide) rfl (fun ls hl => ?_)
            refine lv_goto (tgt := 4) hx hb dX6_tone_41 (by decide) ?_
            exact ih4 _ _ _ _ _ _ (by first | exact zCt.start (by decide) (by decide) | exact zCt.begin (by decide) (by decide) (by decide) | exact zCt.step (m := 100) hct (by first | assumption | exact Int32.not_le.mp (by assumption) | exact Int32.lt_of_lt_of_le (Int32.not_le.mp (by assumption)) g0.2 | (clear hres hz hts; grind [f_X6_in, f_X6_isBlock, f_X6_isAhead, f_X6_isSheet])) (by decide)) hH (lv_sub hl [2, 1, 0] rfl) hres
          · have hres := zif_neg c29_4 hres
            refine lv_iload_n hx hb dX6_tone_32 rfl (lv_at hl 2 rfl) ?_
            refine lv_iload_n hx hb dX6_tone_33 rfl (lv_at hl 1 rfl) ?_
            refine lv_isub hx hb dX6_tone_34 ?_
            exact zreti C0 hH dX6_tone_35 (zfst hres) (zsnd hres)
  refine lv_iconst (v := (-1 : Int32)) hx hb dX6_tone_0 (by decide) ?_
  refine lv_istore_n (lv' := [(1, _), (0, _)]) hx hb dX6_tone_1 rfl hl (by decide) rfl (fun ls hl => ?_)
  refine lv_iconst (v := (0 : Int32)) hx hb dX6_tone_2 (by decide) ?_
  refine lv_istore_n (lv' := [(2, _), (1, _), (0, _)]) hx hb dX6_tone_3 rfl hl (by decide) rfl (fun ls hl => ?_)
  exact L4 (101) _ _ _ _ _ _ (by first | exact zCt.start (by decide) (by decide) | exact zCt.begin (by decide) (by decide) (by decide) | exact zCt.step (m := 100) hct (by first | assumption | exact Int32.not_le.mp (by assumption) | exact Int32.lt_of_lt_of_le (Int32.not_le.mp (by assumption)) g0.2 | (clear hres hz hts; grind [f_X6_in, f_X6_isBlock, f_X6_isAhead, f_X6_isSheet])) (by decide)) hH (lv_sub hl [2, 1, 0] rfl) hres
set_option maxRecDepth 100000 in
set_option maxHeartbeats 4000000 in
theorem c_X6_great (l : Launch) (D : va_G) (cy : Nat → ClassId) (ad : Nat → Nat) (M : zM) (p1 : Int32) (p2 : Int32) : Met l yX6_great (Cond.code yX6_great cX6_great 7 (some .int) :: zG) ({ frames := 1, cells := 0, slots := 0, locals := 22 }) (zP D lyR cy ad [.ref (ad 0), .int p1, .int p2] M) (zQi D lyR cy ad (f_X6_great p1 p2 M).1 (f_X6_great p1 p2 M).2) 0 0 (zA lyR ad) := by
  generalize hres : (f_X6_great p1 p2 M) = res
  refine zMet (by decide) (Nat.le_of_ble_eq_true rfl) ?_
  intro p e s m args below meth c ls C0 hH hl
  obtain ⟨⟨hx, hb, hml, hown, hts⟩, -⟩ := id C0
  have hz : ∀ w ∈ zG, w.before args s = true := fun w h => hts w (List.mem_cons_of_mem _ h)
  have hl : lv_has ls 7 [(0, .ref (ad 0)), (1, .int p1), (2, .int p2)] := hl
  have g0 := hH.many
  have J20 : ∀ (mm : zM) (H : Heap) (locs : List Loc) (ls : Array Slot), zH D lyR cy ad s.heap mm H locs → lv_has ls 7 [(0, .ref (ad 0))] → f_X6_great_20 p1 p2 mm = res → W p l e { frames := 1, cells := 0, slots := 0, locals := 22 } s m args below meth c H locs 0 0 (MQ below (zQi D lyR cy ad res.1 res.2) args s 0 0 (zA lyR ad)) (F0 m 20 ls []) := by
    intro mm H locs ls hH hl hres
    refine lv_aload_n hx hb dX6_great_20 rfl (lv_at hl 0 rfl) ?_
    refine lv_iconst (v := (0 : Int32)) hx hb dX6_great_21 (by decide) ?_
    refine zci (zrunV C0 hH (c_X6_no l D cy ad _ _ (by decide)) kM_X6_85 zK6 kq_X6_no zR0 rfl hl.1 rfl rfl rfl ⟨Nat.le_of_ble_eq_true rfl, Nat.le_of_ble_eq_true rfl⟩ (Nat.le_of_ble_eq_true rfl) dX6_great_22) hH (fun H locs hH => ?_)
    exact zreti C0 hH dX6_great_25 (zfst hres) (zsnd hres)
  have L31 : ∀ (n31 : Nat), ∀ (v3 : Int32) (v4 : Int32) (mm : zM) (H : Heap) (locs : List Loc) (ls : Array Slot), (zCt 100 n31 v4) → zH D lyR cy ad s.heap mm H locs → lv_has ls 7 [(0, .ref (ad 0)), (1, .int p1), (2, .int p2), (3, .int v3), (4, .int v4)] → f_X6_great_31 p1 p2 n31 v3 v4 mm = res → W p l e { frames := 1, cells := 0, slots := 0, locals := 22 } s m args below meth c H locs 0 0 (MQ below (zQi D lyR cy ad res.1 res.2) args s 0 0 (zA lyR ad)) (F0 m 31 ls []) := by
    intro n31
    induction n31 with
    | zero =>
      intro v3 v4 mm H locs ls hct hH hl hres
      exfalso; exact hct.zero
    | succ n31 ih31 =>
      have J100 : ∀ (v3 : Int32) (v4 : Int32) (v5 : Int32) (s0 : Int32) (mm : zM) (H : Heap) (locs : List Loc) (ls : Array Slot), (zCt 100 (n31 + 1) v4) → (v4 < 100) → zH D lyR cy ad s.heap mm H locs → lv_has ls 7 [(0, .ref (ad 0)), (1, .int p1), (2, .int p2), (3, .int v3), (4, .int v4), (5, .int v5)] → f_X6_great_100 p1 p2 (fun wv3 wv4 wmm => f_X6_great_31 p1 p2 n31 wv3 wv4 wmm) v3 v4 v5 s0 mm = res → W p l e { frames := 1, cells := 0, slots := 0, locals := 22 } s m args below meth c H locs 0 0 (MQ below (zQi D lyR cy ad res.1 res.2) args s 0 0 (zA lyR ad)) (F0 m 100 ls [.int s0]) := by
        intro v3 v4 v5 s0 mm H locs ls hct hv hH hl hres
        refine lv_istore (lv' := [(6, _), (0, _), (1, _), (2, _), (3, _), (4, _), (5, _)]) hx hb dX6_great_100 hl (by decide) rfl (fun ls hl => ?_)
        refine lv_iload_n hx hb dX6_great_102 rfl (lv_at hl 4 rfl) ?_
        refine lv_iload hx hb dX6_great_103 (lv_at hl 6 rfl) ?_
        refine lv_if_eq (tgt := 121) hx hb dX6_great_105 (by decide) (fun c105_12 => ?_) (fun c105_12 => ?_)
        · have hres := zif_pos c105_12 hres
          refine lv_iconst (v := (0 : Int32)) hx hb dX6_great_121 (by decide) ?_
          refine lv_iadd hx hb dX6_great_122 ?_
          refine lv_istore_n (lv' := [(3, _), (6, _), (0, _), (1, _), (2, _), (4, _), (5, _)]) hx hb dX6_great_123 rfl hl (by decide) rfl (fun ls hl => ?_)
          refine ziinc (lv' := [(4, _), (3, _), (6, _), (0, _), (1, _), (2, _), (5, _)]) (k := 5) hx hb (1 : Int32) (by decide) dX6_great_124 hl rfl (by decide) rfl (fun ls hl => ?_)
          refine lv_goto (tgt := 31) hx hb dX6_great_127 (by decide) ?_
          exact ih31 _ _ _ _ _ _ (by first | exact zCt.start (by decide) (by decide) | exact zCt.begin (by decide) (by decide) (by decide) | exact zCt.step (m := 100) hct (by first | assumption | exact Int32.not_le.mp (by assumption) | exact Int32.lt_of_lt_of_le (Int32.not_le.mp (by assumption)) g0.2 | (clear hres hz hts; grind [f_X6_in, f_X6_isBlock, f_X6_isAhead, f_X6_isSheet])) (by decide)) hH (lv_sub hl [3, 4, 5, 1, 0] rfl) hres
        · have hres := zif_neg c105_12 hres
          refine lv_iload_n hx hb dX6_great_108 rfl (lv_at hl 3 rfl) ?_
          refine lv_if_eq (tgt := 117) hx hb dX6_great_109 (by decide) (fun c109_14 => ?_) (fun c109_14 => ?_)
          · have hres := zif_pos c109_14 hres
            refine lv_iconst (v := (1 : Int32)) hx hb dX6_great_117 (by decide) ?_
            refine lv_goto (tgt := 122) hx hb dX6_great_118 (by decide) ?_
            refine lv_iadd hx hb dX6_great_122 ?_
            refine lv_istore_n (lv' := [(3, _), (6, _), (0, _), (1, _), (2, _), (4, _), (5, _)]) hx hb dX6_great_123 rfl hl (by decide) rfl (fun ls hl => ?_)
            refine ziinc (lv' := [(4, _), (3, _), (6, _), (0, _), (1, _), (2, _), (5, _)]) (k := 5) hx hb (1 : Int32) (by decide) dX6_great_124 hl rfl (by decide) rfl (fun ls hl => ?_)
            refine lv_goto (tgt := 31) hx hb dX6_great_127 (by decide) ?_
            exact ih31 _ _ _ _ _ _ (by first | exact zCt.start (by decide) (by decide) | exact zCt.begin (by decide) (by decide) (by decide) | exact zCt.step (m := 100) hct (by first | assumption | exact Int32.not_le.mp (by assumption) | exact Int32.lt_of_lt_of_le (Int32.not_le.mp (by assumption)) g0.2 | (clear hres hz hts; grind [f_X6_in, f_X6_isBlock, f_X6_isAhead, f_X6_isSheet])) (by decide)) hH (lv_sub hl [3, 4, 5, 1, 0] rfl) hres
          · have hres := zif_neg c109_14 hres
            refine lv_iload hx hb dX6_great_112 (lv_at hl 0 rfl) ?_
            refine lv_if_eq (tgt := 121) hx hb dX6_great_114 (by decide) (fun c114_16 => ?_) (fun c114_16 => ?_)
            · have hres := zif_pos c114_16 hres
              refine lv_iconst (v := (0 : Int32)) hx hb dX6_great_121 (by decide) ?_
              refine lv_iadd hx hb dX6_great_122 ?_
              refine lv_istore_n (lv' := [(3, _), (6, _), (0, _), (1, _), (2, _), (4, _), (5, _)]) hx hb dX6_great_123 rfl hl (by decide) rfl (fun ls hl => ?_)
              refine ziinc (lv' := [(4, _), (3, _), (6, _), (0, _), (1, _), (2, _), (5, _)]) (k := 5) hx hb (1 : Int32) (by decide) dX6_great_124 hl rfl (by decide) rfl (fun ls hl => ?_)
              refine lv_goto (tgt := 31) hx hb dX6_great_127 (by decide) ?_
              exact ih31 _ _ _ _ _ _ (by first | exact zCt.start (by decide) (by decide) | exact zCt.begin (by decide) (by decide) (by decide) | exact zCt.step (m := 100) hct (by first | assumption | exact Int32.not_le.mp (by assumption) | exact Int32.lt_of_lt_of_le (Int32.not_le.mp (by assumption)) g0.2 | (clear hres hz hts; grind [f_X6_in, f_X6_isBlock, f_X6_isAhead, f_X6_isSheet])) (by decide)) hH (lv_sub hl [3, 4, 5, 1, 0] rfl) hres
            · have hres := zif_neg c114_16 hres
              refine lv_iconst (v := (1 : Int32)) hx hb dX6_great_117 (by decide) ?_
              refine lv_goto (tgt := 122) hx hb dX6_great_118 (by decide) ?_
              refine lv_iadd hx hb dX6_great_122 ?_
              refine lv_istore_n (lv' := [(3, _), (6, _), (0, _), (1, _), (2, _), (4, _), (5, _)]) hx hb dX6_great_123 rfl hl (by decide) rfl (fun ls hl => ?_)
              refine ziinc (lv' := [(4, _), (3, _), (6, _), (0, _), (1, _), (2, _), (5, _)]) (k := 5) hx hb (1 : Int32) (by decide) dX6_great_124 hl rfl (by decide) rfl (fun ls hl => ?_)
              refine lv_goto (tgt := 31) hx hb dX6_great_127 (by decide) ?_
              exact ih31 _ _ _ _ _ _ (by first | exact zCt.start (by decide) (by decide) | exact zCt.begin (by decide) (by decide) (by decide) | exact zCt.step (m := 100) hct (by first | assumption | exact Int32.not_le.mp (by assumption) | exact Int32.lt_of_lt_of_le (Int32.not_le.mp (by assumption)) g0.2 | (clear hres hz hts; grind [f_X6_in, f_X6_isBlock, f_X6_isAhead, f_X6_isSheet])) (by decide)) hH (lv_sub hl [3, 4, 5, 1, 0] rfl) hres
      have J99 : ∀ (v3 : Int32) (v4 : Int32) (v5 : Int32) (mm : zM) (H : Heap) (locs : List Loc) (ls : Array Slot), (zCt 100 (n31 + 1) v4) → (v4 < 100) → zH D lyR cy ad s.heap mm H locs → lv_has ls 7 [(0, .ref (ad 0)), (1, .int p1), (2, .int p2), (3, .int v3), (4, .int v4), (5, .int v5)] → f_X6_great_99 p1 p2 (fun wv3 wv4 wmm => f_X6_great_31 p1 p2 n31 wv3 wv4 wmm) v3 v4 v5 mm = res → W p l e { frames := 1, cells := 0, slots := 0, locals := 22 } s m args below meth c H locs 0 0 (MQ below (zQi D lyR cy ad res.1 res.2) args s 0 0 (zA lyR ad)) (F0 m 99 ls []) := by
        intro v3 v4 v5 mm H locs ls hct hv hH hl hres
        refine lv_iconst (v := (0 : Int32)) hx hb dX6_great_99 (by decide) ?_
        exact J100 _ _ _ _ _ _ _ _ (by assumption) (by first | assumption | exact Int32.not_le.mp (by assumption) | exact Int32.lt_of_lt_of_le (Int32.not_le.mp (by assumption)) g0.2 | (clear hres hz hts; grind [f_X6_in, f_X6_isBlock, f_X6_isAhead, f_X6_isSheet])) hH (lv_sub hl [0, 1, 2, 3, 4, 5] rfl) hres
      have J63 : ∀ (v3 : Int32) (v4 : Int32) (s0 : Int32) (mm : zM) (H : Heap) (locs : List Loc) (ls : Array Slot), (zCt 100 (n31 + 1) v4) → (v4 < 100) → zH D lyR cy ad s.heap mm H locs → lv_has ls 7 [(0, .ref (ad 0)), (1, .int p1), (2, .int p2), (3, .int v3), (4, .int v4)] → f_X6_great_63 p1 p2 (fun wv3 wv4 wmm => f_X6_great_31 p1 p2 n31 wv3 wv4 wmm) v3 v4 s0 mm = res → W p l e { frames := 1, cells := 0, slots := 0, locals := 22 } s m args below meth c H locs 0 0 (MQ below (zQi D lyR cy ad res.1 res.2) args s 0 0 (zA lyR ad)) (F0 m 63 ls [.int s0]) := by
        intro v3 v4 s0 mm H locs ls hct hv hH hl hres
        refine lv_istore (lv' := [(5, _), (0, _), (1, _), (2, _), (3, _), (4, _)]) hx hb dX6_great_63 hl (by decide) rfl (fun ls hl => ?_)
        refine lv_iload hx hb dX6_great_65 (lv_at hl 5 rfl) ?_
        refine lv_iconst (v := (1 : Int32)) hx hb dX6_great_67 (by decide) ?_
        refine lv_iadd hx hb dX6_great_68 ?_
        refine lv_aload_n hx hb dX6_great_69 rfl (lv_at hl 1 rfl) ?_
        refine zgR C0 hH zK6 0 (by decide) _ zR0 rfl kF_X6_9 dX6_great_70 ?_
        refine lv_bipush (v := (13 : Int32)) hx hb dX6_great_73 (by decide) ?_
        refine zaldK C0 hH zS31.is zS31.ln (k := 13) (by decide) (by unfold vp_in; decide) dX6_great_75 ?_
        refine lv_icmp_ge (tgt := 99) hx hb dX6_great_76 (by decide) (fun c76_10 => ?_) (fun c76_10 => ?_)
        · have hres := zif_pos c76_10 hres
          exact J99 _ _ _ _ _ _ _ (by assumption) (by first | assumption | exact Int32.not_le.mp (by assumption) | exact Int32.lt_of_lt_of_le (Int32.not_le.mp (by assumption)) g0.2 | (clear hres hz hts; grind [f_X6_in, f_X6_isBlock, f_X6_isAhead, f_X6_isSheet])) hH (lv_sub hl [1, 2, 3, 4, 5, 0] rfl) hres
        · have hres := zif_neg c76_10 hres
          refine lv_aload_n hx hb dX6_great_79 rfl (lv_at hl 1 rfl) ?_
          refine zgR C0 hH zK6 0 (by decide) _ zR0 rfl kF_X6_9 dX6_great_80 ?_
          refine lv_sipush (v := (148 : Int32)) hx hb dX6_great_83 (by decide) ?_
          refine lv_iload hx hb dX6_great_86 (lv_at hl 5 rfl) ?_
          refine lv_iadd hx hb dX6_great_88 ?_
          refine lv_iconst (v := (1 : Int32)) hx hb dX6_great_89 (by decide) ?_
          refine lv_iadd hx hb dX6_great_90 ?_
          refine zald C0 hH zS31.is zS31.ln (by exact zoff1 148 _ hct.1 hct.2.1 (by decide)) dX6_great_91 ?_
          refine lv_if_le (tgt := 99) hx hb dX6_great_92 (by decide) (fun c92_11 => ?_) (fun c92_11 => ?_)
          · have hres := zif_pos c92_11 hres
            exact J99 _ _ _ _ _ _ _ (by assumption) (by first | assumption | exact Int32.not_le.mp (by assumption) | exact Int32.lt_of_lt_of_le (Int32.not_le.mp (by assumption)) g0.2 | (clear hres hz hts; grind [f_X6_in, f_X6_isBlock, f_X6_isAhead, f_X6_isSheet])) hH (lv_sub hl [1, 2, 3, 4, 5, 0] rfl) hres
          · have hres := zif_neg c92_11 hres
            refine lv_iconst (v := (1 : Int32)) hx hb dX6_great_95 (by decide) ?_
            refine lv_goto (tgt := 100) hx hb dX6_great_96 (by decide) ?_
            exact J100 _ _ _ _ _ _ _ _ (by assumption) (by first | assumption | exact Int32.not_le.mp (by assumption) | exact Int32.lt_of_lt_of_le (Int32.not_le.mp (by assumption)) g0.2 | (clear hres hz hts; grind [f_X6_in, f_X6_isBlock, f_X6_isAhead, f_X6_isSheet])) hH (lv_sub hl [1, 2, 3, 4, 5, 0] rfl) hres
      intro v3 v4 mm H locs ls hct hH hl hres
      have g0 := hH.booked
      refine lv_iload hx hb dX6_great_31 (lv_at hl 4 rfl) ?_
      refine lv_aload_n hx hb dX6_great_33 rfl (lv_at hl 0 rfl) ?_
      refine zgR C0 hH zK6 0 (by decide) _ zR0 rfl kF_X6_9 dX6_great_34 ?_
      refine lv_bipush (v := (13 : Int32)) hx hb dX6_great_37 (by decide) ?_
      refine zaldK C0 hH zS31.is zS31.ln (k := 13) (by decide) (by unfold vp_in; decide) dX6_great_39 ?_
      refine lv_icmp_ge (tgt := 130) hx hb dX6_great_40 (by decide) (fun c40_8 => ?_) (fun c40_8 => ?_)
      · have hres := zif_pos c40_8 hres
        refine lv_iload_n hx hb dX6_great_130 rfl (lv_at hl 3 rfl) ?_
        exact zreti C0 hH dX6_great_131 (zfst hres) (zsnd hres)
      · have hres := zif_neg c40_8 hres
        refine lv_aload_n hx hb dX6_great_43 rfl (lv_at hl 0 rfl) ?_
        refine zgR C0 hH zK6 0 (by decide) _ zR0 rfl kF_X6_9 dX6_great_44 ?_
        refine lv_sipush (v := (148 : Int32)) hx hb dX6_great_47 (by decide) ?_
        refine lv_iload hx hb dX6_great_50 (lv_at hl 4 rfl) ?_
        refine lv_iadd hx hb dX6_great_52 ?_
        refine zald C0 hH zS31.is zS31.ln (by exact zoff 148 _ hct.1 hct.2.1 (by decide)) dX6_great_53 ?_
        refine lv_iload_n hx hb dX6_great_54 rfl (lv_at hl 1 rfl) ?_
        refine lv_icmp_lt (tgt := 62) hx hb dX6_great_55 (by decide) (fun c55_9 => ?_) (fun c55_9 => ?_)
        · have hres := zif_pos c55_9 hres
          refine lv_iconst (v := (0 : Int32)) hx hb dX6_great_62 (by decide) ?_
          exact J63 _ _ _ _ _ _ _ (by assumption) (by first | assumption | exact Int32.not_le.mp (by assumption) | exact Int32.lt_of_lt_of_le (Int32.not_le.mp (by assumption)) g0.2 | (clear hres hz hts; grind [f_X6_in, f_X6_isBlock, f_X6_isAhead, f_X6_isSheet])) hH (lv_sub hl [0, 1, 2, 3, 4] rfl) hres
        · have hres := zif_neg c55_9 hres
          refine lv_iconst (v := (1 : Int32)) hx hb dX6_great_58 (by decide) ?_
          refine lv_goto (tgt := 63) hx hb dX6_great_59 (by decide) ?_
          exact J63 _ _ _ _ _ _ _ (by assumption) (by first | assumption | exact Int32.not_le.mp (by assumption) | exact Int32.lt_of_lt_of_le (Int32.not_le.mp (by assumption)) g0.2 | (clear hres hz hts; grind [f_X6_in, f_X6_isBlock, f_X6_isAhead, f_X6_isSheet])) hH (lv_sub hl [0, 1, 2, 3, 4] rfl) hres
  refine lv_iload_n hx hb dX6_great_0 rfl (lv_at hl 1 rfl) ?_
  refine lv_iconst (v := (1 : Int32)) hx hb dX6_great_1 (by decide) ?_
  refine lv_sipush (v := (400 : Int32)) hx hb dX6_great_2 (by decide) ?_
  refine zcz (zrunS C0 hH (c_X6_in l D cy ad _ _ _ _) kM_X6_57 kq_X6_in rfl hl.1 rfl rfl rfl ⟨Nat.le_of_ble_eq_true rfl, Nat.le_of_ble_eq_true rfl⟩ (Nat.le_of_ble_eq_true rfl) dX6_great_5) hH (fun H locs hH h01_1 => ?_)
  refine lv_if_eq (tgt := 20) hx hb dX6_great_8 (by decide) (fun c8_3 => ?_) (fun c8_3 => ?_)
  · have hres := zif_pos c8_3 hres
    exact J20 _ _ _ _ hH (lv_sub hl [0] rfl) hres
  · have hres := zif_neg c8_3 hres
    refine lv_iload_n hx hb dX6_great_11 rfl (lv_at hl 2 rfl) ?_
    refine lv_iconst (v := (0 : Int32)) hx hb dX6_great_12 (by decide) ?_
    refine lv_iconst (v := (1 : Int32)) hx hb dX6_great_13 (by decide) ?_
    refine zcz (zrunS C0 hH (c_X6_in l D cy ad _ _ _ _) kM_X6_57 kq_X6_in rfl hl.1 rfl rfl rfl ⟨Nat.le_of_ble_eq_true rfl, Nat.le_of_ble_eq_true rfl⟩ (Nat.le_of_ble_eq_true rfl) dX6_great_14) hH (fun H locs hH h01_4 => ?_)
    refine lv_if_ne (tgt := 26) hx hb dX6_great_17 (by decide) (fun c17_6 => ?_) (fun c17_6 => ?_)
    · have hres := zif_neg c17_6 hres
      refine lv_iconst (v := (0 : Int32)) hx hb dX6_great_26 (by decide) ?_
      refine lv_istore_n (lv' := [(3, _), (0, _), (1, _), (2, _)]) hx hb dX6_great_27 rfl hl (by decide) rfl (fun ls hl => ?_)
      refine lv_iconst (v := (0 : Int32)) hx hb dX6_great_28 (by decide) ?_
      refine lv_istore (lv' := [(4, _), (3, _), (0, _), (1, _), (2, _)]) hx hb dX6_great_29 hl (by decide) rfl (fun ls hl => ?_)
      exact L31 (101) _ _ _ _ _ _ (by first | exact zCt.start (by decide) (by decide) | exact zCt.begin (by decide) (by decide) (by decide) | exact zCt.step (m := 100) hct (by first | assumption | exact Int32.not_le.mp (by assumption) | exact Int32.lt_of_lt_of_le (Int32.not_le.mp (by assumption)) g0.2 | (clear hres hz hts; grind [f_X6_in, f_X6_isBlock, f_X6_isAhead, f_X6_isSheet])) (by decide)) hH (lv_sub hl [2, 3, 4, 1, 0] rfl) hres
    · have hres := zif_pos c17_6 hres
      exact J20 _ _ _ _ hH (lv_sub hl [0] rfl) hres
