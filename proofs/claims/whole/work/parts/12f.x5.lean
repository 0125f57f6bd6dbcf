set_option maxRecDepth 100000 in
set_option maxHeartbeats 4000000 in
theorem c_X5_oil (l : Launch) (D : va_G) (cy : Nat → ClassId) (ad : Nat → Nat) (M : zM) (p1 : Int32) (p2 : Int32) : Met l yX5_oil (Cond.code yX5_oil cX5_oil 4 (some .int) :: zG) ({ frames := 2, cells := 0, slots := 0, locals := 44 }) (zP D lyC cy ad [.ref (ad 0), .int p1, .int p2] M) (zQi D lyC cy ad (f_X5_oil p1 p2 M).1 (f_X5_oil p1 p2 M).2) 0 0 (zA lyC ad) := by
  generalize hres : (f_X5_oil p1 p2 M) = res
  refine zMet (by decide) (Nat.le_of_ble_eq_true rfl) ?_
  intro p e s m args below meth c ls C0 hH hl
  obtain ⟨⟨hx, hb, hml, hown, hts⟩, -⟩ := id C0
  have hz : ∀ w ∈ zG, w.before args s = true := fun w h => hts w (List.mem_cons_of_mem _ h)
  have hl : lv_has ls 4 [(0, .ref (ad 0)), (1, .int p1), (2, .int p2)] := hl
  have J21 : ∀ (mm : zM) (H : Heap) (locs : List Loc) (ls : Array Slot), zH D lyC cy ad s.heap mm H locs → lv_has ls 4 [(0, .ref (ad 0))] → f_X5_oil_21 p1 p2 mm = res → W p l e { frames := 2, cells := 0, slots := 0, locals := 44 } s m args below meth c H locs 0 0 (MQ below (zQi D lyC cy ad res.1 res.2) args s 0 0 (zA lyC ad)) (F0 m 21 ls []) := by
    intro mm H locs ls hH hl hres
    refine lv_aload_n hx hb dX5_oil_21 rfl (lv_at hl 0 rfl) ?_
    refine lv_ldc (v := (-1000000001 : Int32)) hx hb hown (hz _ kK_X5_58) dX5_oil_22 ?_
    refine zci (zrunV C0 hH (c_X5_finding l D cy ad _ _) kM_X5_59 zK5 kq_X5_finding zX0 rfl hl.1 rfl rfl rfl ⟨Nat.le_of_ble_eq_true rfl, Nat.le_of_ble_eq_true rfl⟩ (Nat.le_of_ble_eq_true rfl) dX5_oil_24) hH (fun H locs hH => ?_)
    exact zreti C0 hH dX5_oil_27 (zfst hres) (zsnd hres)
  refine lv_aload_n hx hb dX5_oil_0 rfl (lv_at hl 0 rfl) ?_
  refine zgR C0 hH zK5 0 (by decide) _ zX0 rfl kF_X5_12 dX5_oil_1 ?_
  refine lv_iload_n hx hb dX5_oil_4 rfl (lv_at hl 1 rfl) ?_
  refine zcz (zrunV C0 hH (c_X2_has l D cy ad _ _ zRow1 _) kM_X5_78 zK2 kq_X2_has zRow1.is rfl hl.1 rfl rfl rfl ⟨Nat.le_of_ble_eq_true rfl, Nat.le_of_ble_eq_true rfl⟩ (Nat.le_of_ble_eq_true rfl) dX5_oil_5) hH (fun H locs hH h01_1 => ?_)
  refine lv_if_eq (tgt := 21) hx hb dX5_oil_8 (by decide) (fun c8_3 => ?_) (fun c8_3 => ?_)
  · have hres := zif_pos c8_3 hres
    exact J21 _ _ _ _ hH (lv_sub hl [0] rfl) hres
  · have hres := zif_neg c8_3 hres
    refine lv_iload_n hx hb dX5_oil_11 rfl (lv_at hl 2 rfl) ?_
    refine lv_iconst (v := (1 : Int32)) hx hb dX5_oil_12 (by decide) ?_
    refine lv_bipush (v := (99 : Int32)) hx hb dX5_oil_13 (by decide) ?_
    refine zcz (zrunS C0 hH (c_X5_within l D cy ad _ _ _ _) kM_X5_54 kq_X5_within rfl hl.1 rfl rfl rfl ⟨Nat.le_of_ble_eq_true rfl, Nat.le_of_ble_eq_true rfl⟩ (Nat.le_of_ble_eq_true rfl) dX5_oil_15) hH (fun H locs hH h01_4 => ?_)
    refine lv_if_ne (tgt := 28) hx hb dX5_oil_18 (by decide) (fun c18_6 => ?_) (fun c18_6 => ?_)
    · have hres := zif_neg c18_6 hres
      refine lv_aload_n hx hb dX5_oil_28 rfl (lv_at hl 0 rfl) ?_
      refine zgR C0 hH zK5 0 (by decide) _ zX0 rfl kF_X5_12 dX5_oil_29 ?_
      refine zgRN C0 hH zK2 0 (by decide) _ zRow1.is rfl kN_X5_68 dX5_oil_32 ?_
      refine lv_iload_n hx hb dX5_oil_35 rfl (lv_at hl 1 rfl) ?_
      refine zqldB C0 hH zRow1 (by exact zin10.mpr (by have q0 := hH.row zRow1; have q1 := hH.bkl zBk43; have q2 := hH.bkn zBk43; clear hres; grind [f_X5_within, f_X2_has, slot_X1])) dX5_oil_36 (fun hb7 => ?_)
      refine lv_astore_n (lv' := [(3, _), (0, _), (1, _), (2, _)]) hx hb dX5_oil_37 rfl hl (by decide) rfl (fun ls hl => ?_)
      refine lv_aload_n hx hb dX5_oil_38 rfl (lv_at hl 0 rfl) ?_
      refine lv_bipush (v := (99 : Int32)) hx hb dX5_oil_39 (by decide) ?_
      refine lv_aload_n hx hb dX5_oil_41 rfl (lv_at hl 0 rfl) ?_
      refine zgIN C0 hH zK0 4 (by decide) hb7 rfl kN_X5_94 dX5_oil_42 ?_
      refine lv_iload_n hx hb dX5_oil_45 rfl (lv_at hl 3 rfl) ?_
      refine lv_iadd hx hb dX5_oil_46 ?_
      refine zmin C0 hl.1 kM_X5_121 (by exact Nat.le_of_ble_eq_true rfl) (by exact Nat.le_of_ble_eq_true rfl) dX5_oil_47 ?_
      refine zpN C0 hH zK0 4 (by decide) hb7 rfl rfl zOk_int zcn kN_X5_94 dX5_oil_50 (fun H locs hH => ?_)
      refine lv_aload_n hx hb dX5_oil_53 rfl (lv_at hl 0 rfl) ?_
      refine zgIN C0 hH zK0 4 (by decide) hb7 rfl kN_X5_94 dX5_oil_54 ?_
      exact zreti C0 hH dX5_oil_57 (zfst hres) (zsnd hres)
    · have hres := zif_pos c18_6 hres
      exact J21 _ _ _ _ hH (lv_sub hl [0] rfl) hres
set_option maxRecDepth 100000 in
set_option maxHeartbeats 4000000 in
theorem c_X5_pace (l : Launch) (D : va_G) (cy : Nat → ClassId) (ad : Nat → Nat) (M : zM) (p1 : Int32) : Met l yX5_pace (Cond.code yX5_pace cX5_pace 3 (some .int) :: zG) ({ frames := 2, cells := 0, slots := 0, locals := 44 }) (zP D lyC cy ad [.ref (ad 0), .int p1] M) (zQi D lyC cy ad (f_X5_pace p1 M).1 (f_X5_pace p1 M).2) 0 0 (zA lyC ad) := by
  generalize hres : (f_X5_pace p1 M) = res
  refine zMet (by decide) (Nat.le_of_ble_eq_true rfl) ?_
  intro p e s m args below meth c ls C0 hH hl
  obtain ⟨⟨hx, hb, hml, hown, hts⟩, -⟩ := id C0
  have hz : ∀ w ∈ zG, w.before args s = true := fun w h => hts w (List.mem_cons_of_mem _ h)
  have hl : lv_has ls 3 [(0, .ref (ad 0)), (1, .int p1)] := hl
  refine lv_iload_n hx hb dX5_pace_0 rfl (lv_at hl 1 rfl) ?_
  refine lv_bipush (v := (-99 : Int32)) hx hb dX5_pace_1 (by decide) ?_
  refine lv_bipush (v := (99 : Int32)) hx hb dX5_pace_3 (by decide) ?_
  refine zcz (zrunS C0 hH (c_X5_within l D cy ad _ _ _ _) kM_X5_54 kq_X5_within rfl hl.1 rfl rfl rfl ⟨Nat.le_of_ble_eq_true rfl, Nat.le_of_ble_eq_true rfl⟩ (Nat.le_of_ble_eq_true rfl) dX5_pace_5) hH (fun H locs hH h01_1 => ?_)
  refine lv_if_ne (tgt := 18) hx hb dX5_pace_8 (by decide) (fun c8_3 => ?_) (fun c8_3 => ?_)
  · have hres := zif_neg c8_3 hres
    refine lv_aload_n hx hb dX5_pace_18 rfl (lv_at hl 0 rfl) ?_
    refine zgR C0 hH zK5 0 (by decide) _ zX0 rfl kF_X5_12 dX5_pace_19 ?_
    refine zgIN C0 hH zK2 3 (by decide) zRow1.is rfl kN_X5_126 dX5_pace_22 ?_
    refine lv_istore_n (lv' := [(2, _), (0, _), (1, _)]) hx hb dX5_pace_25 rfl hl (by decide) rfl (fun ls hl => ?_)
    refine lv_aload_n hx hb dX5_pace_26 rfl (lv_at hl 1 rfl) ?_
    refine zgR C0 hH zK5 0 (by decide) _ zX0 rfl kF_X5_12 dX5_pace_27 ?_
    refine lv_iload_n hx hb dX5_pace_30 rfl (lv_at hl 2 rfl) ?_
    refine zpN C0 hH zK2 3 (by decide) zRow1.is rfl rfl zOk_int zcn kN_X5_126 dX5_pace_31 (fun H locs hH => ?_)
    refine lv_iload_n hx hb dX5_pace_34 rfl (lv_at hl 0 rfl) ?_
    exact zreti C0 hH dX5_pace_35 (zfst hres) (zsnd hres)
  · have hres := zif_pos c8_3 hres
    refine lv_aload_n hx hb dX5_pace_11 rfl (lv_at hl 0 rfl) ?_
    refine lv_ldc (v := (-1000000001 : Int32)) hx hb hown (hz _ kK_X5_58) dX5_pace_12 ?_
    refine zci (zrunV C0 hH (c_X5_finding l D cy ad _ _) kM_X5_59 zK5 kq_X5_finding zX0 rfl hl.1 rfl rfl rfl ⟨Nat.le_of_ble_eq_true rfl, Nat.le_of_ble_eq_true rfl⟩ (Nat.le_of_ble_eq_true rfl) dX5_pace_14) hH (fun H locs hH => ?_)
    exact zreti C0 hH dX5_pace_17 (zfst hres) (zsnd hres)
set_option maxRecDepth 100000 in
set_option maxHeartbeats 4000000 in
theorem c_X5_ticks (l : Launch) (D : va_G) (cy : Nat → ClassId) (ad : Nat → Nat) (M : zM) (p1 : Int32) : Met l yX5_ticks (Cond.code yX5_ticks cX5_ticks 3 (some .int) :: zG) ({ frames := 25, cells := 0, slots := 0, locals := 915 }) (zP D lyC cy ad [.ref (ad 0), .int p1] M) (zQi D lyC cy ad (f_X5_ticks p1 M).1 (f_X5_ticks p1 M).2) 0 0 (zA lyC ad) := by
  generalize hres : (f_X5_ticks p1 M) = res
  refine zMet (by decide) (Nat.le_of_ble_eq_true rfl) ?_
  intro p e s m args below meth c ls C0 hH hl
  obtain ⟨⟨hx, hb, hml, hown, hts⟩, -⟩ := id C0
  have hz : ∀ w ∈ zG, w.before args s = true := fun w h => hts w (List.mem_cons_of_mem _ h)
  have hl : lv_has ls 3 [(0, .ref (ad 0)), (1, .int p1)] := hl
  have L19 : ∀ (n19 : Nat), ∀ (v2 : Int32) (mm : zM) (H : Heap) (locs : List Loc) (ls : Array Slot), (zCt 100 n19 v2) → (p1 ≤ 100) → zH D lyC cy ad s.heap mm H locs → lv_has ls 3 [(0, .ref (ad 0)), (1, .int p1), (2, .int v2)] → f_X5_ticks_19 p1 n19 v2 mm = res → W p l e { frames := 25, cells := 0, slots := 0, locals := 915 } s m args below meth c H locs 0 0 (MQ below (zQi D lyC cy ad res.1 res.2) args s 0 0 (zA lyC ad)) (F0 m 19 ls []) := by
    intro n19
    induction n19 with
    | zero =>
      intro v2 mm H locs ls hct hp hH hl hres
      exfalso; exact hct.zero
    | succ n19 ih19 =>
      intro v2 mm H locs ls hct hp hH hl hres
      refine lv_iload_n hx hb dX5_ticks_19 rfl (lv_at hl 2 rfl) ?_
      refine lv_iload_n hx hb dX5_ticks_20 rfl (lv_at hl 1 rfl) ?_
      refine lv_icmp_ge (tgt := 48) hx hb dX5_ticks_21 (by decide) (fun c21_5 => ?_) (fun c21_5 => ?_)
      · have hres := zif_pos c21_5 hres
        refine lv_aload_n hx hb dX5_ticks_48 rfl (lv_at hl 0 rfl) ?_
        refine zgR C0 hH zK5 0 (by decide) _ zX0 rfl kF_X5_12 dX5_ticks_49 ?_
        refine zgIN C0 hH zK2 5 (by decide) zRow1.is rfl kN_X5_136 dX5_ticks_52 ?_
        exact zreti C0 hH dX5_ticks_55 (zfst hres) (zsnd hres)
      · have hres := zif_neg c21_5 hres
        refine lv_aload_n hx hb dX5_ticks_24 rfl (lv_at hl 0 rfl) ?_
        refine zgR C0 hH zK5 0 (by decide) _ zX0 rfl kF_X5_12 dX5_ticks_25 ?_
        refine zcv (zrunV C0 hH (c_X2_tick l D cy ad _ _ zRow1) kM_X5_129 zK2 kq_X2_tick zRow1.is rfl hl.1 rfl rfl rfl ⟨Nat.le_of_ble_eq_true rfl, Nat.le_of_ble_eq_true rfl⟩ (Nat.le_of_ble_eq_true rfl) dX5_ticks_28) hH (fun H locs hH => ?_)
        refine lv_aload_n hx hb dX5_ticks_31 rfl (lv_at hl 0 rfl) ?_
        refine zgR C0 hH zK5 3 (by decide) _ zX0 rfl kF_X5_25 dX5_ticks_32 ?_
        refine lv_aload_n hx hb dX5_ticks_35 rfl (lv_at hl 0 rfl) ?_
        refine zgR C0 hH zK5 0 (by decide) _ zX0 rfl kF_X5_12 dX5_ticks_36 ?_
        refine zcv (zrunV C0 hH (c_X1_enter l D cy ad _ _ zBk43 _ zRow1) kM_X5_132 zK1 kq_X1_enter zBk43.is rfl hl.1 rfl rfl rfl ⟨Nat.le_of_ble_eq_true rfl, Nat.le_of_ble_eq_true rfl⟩ (Nat.le_of_ble_eq_true rfl) dX5_ticks_39) hH (fun H locs hH => ?_)
        refine ziinc (lv' := [(2, _), (0, _), (1, _)]) (k := 2) hx hb (1 : Int32) (by decide) dX5_ticks_42 hl rfl (by decide) rfl (fun ls hl => ?_)
        refine lv_goto (tgt := 19) hx hb dX5_ticks_45 (by decide) ?_
        exact ih19 _ _ _ _ _ (by first | exact zCt.start (by decide) (by decide) | exact zCt.step (m := 100) hct (by clear hres; grind [f_X5_within, f_X2_has, slot_X1]) (by decide)) (by first | assumption | (clear hres; grind [f_X5_within, f_X2_has])) hH (lv_sub hl [1, 2, 0] rfl) hres
  refine lv_iload_n hx hb dX5_ticks_0 rfl (lv_at hl 1 rfl) ?_
  refine lv_iconst (v := (1 : Int32)) hx hb dX5_ticks_1 (by decide) ?_
  refine lv_bipush (v := (100 : Int32)) hx hb dX5_ticks_2 (by decide) ?_
  refine zcz (zrunS C0 hH (c_X5_within l D cy ad _ _ _ _) kM_X5_54 kq_X5_within rfl hl.1 rfl rfl rfl ⟨Nat.le_of_ble_eq_true rfl, Nat.le_of_ble_eq_true rfl⟩ (Nat.le_of_ble_eq_true rfl) dX5_ticks_4) hH (fun H locs hH h01_1 => ?_)
  refine lv_if_ne (tgt := 17) hx hb dX5_ticks_7 (by decide) (fun c7_3 => ?_) (fun c7_3 => ?_)
  · have hres := zif_neg c7_3 hres
    refine lv_iconst (v := (0 : Int32)) hx hb dX5_ticks_17 (by decide) ?_
    refine lv_istore_n (lv' := [(2, _), (0, _), (1, _)]) hx hb dX5_ticks_18 rfl hl (by decide) rfl (fun ls hl => ?_)
    exact L19 (101) _ _ _ _ _ (by first | exact zCt.start (by decide) (by decide) | exact zCt.step (m := 100) hct (by clear hres; grind [f_X5_within, f_X2_has, slot_X1]) (by decide)) (by first | assumption | (clear hres; grind [f_X5_within, f_X2_has])) hH (lv_sub hl [1, 2, 0] rfl) hres
  · have hres := zif_pos c7_3 hres
    refine lv_aload_n hx hb dX5_ticks_10 rfl (lv_at hl 0 rfl) ?_
    refine lv_ldc (v := (-1000000001 : Int32)) hx hb hown (hz _ kK_X5_58) dX5_ticks_11 ?_
    refine zci (zrunV C0 hH (c_X5_finding l D cy ad _ _) kM_X5_59 zK5 kq_X5_finding zX0 rfl hl.1 rfl rfl rfl ⟨Nat.le_of_ble_eq_true rfl, Nat.le_of_ble_eq_true rfl⟩ (Nat.le_of_ble_eq_true rfl) dX5_ticks_13) hH (fun H locs hH => ?_)
    exact zreti C0 hH dX5_ticks_16 (zfst hres) (zsnd hres)
set_option maxRecDepth 100000 in
set_option maxHeartbeats 4000000 in
theorem c_X5_until (l : Launch) (D : va_G) (cy : Nat → ClassId) (ad : Nat → Nat) (M : zM) (p1 : Int32) (p2 : Int32) : Met l yX5_until (Cond.code yX5_until cX5_until 4 (some .int) :: zG) ({ frames := 25, cells := 0, slots := 0, locals := 915 }) (zP D lyC cy ad [.ref (ad 0), .int p1, .int p2] M) (zQi D lyC cy ad (f_X5_until p1 p2 M).1 (f_X5_until p1 p2 M).2) 0 0 (zA lyC ad) := by
  generalize hres : (f_X5_until p1 p2 M) = res
  refine zMet (by decide) (Nat.le_of_ble_eq_true rfl) ?_
  intro p e s m args below meth c ls C0 hH hl
  obtain ⟨⟨hx, hb, hml, hown, hts⟩, -⟩ := id C0
  have hz : ∀ w ∈ zG, w.before args s = true := fun w h => hts w (List.mem_cons_of_mem _ h)
  have hl : lv_has ls 4 [(0, .ref (ad 0)), (1, .int p1), (2, .int p2)] := hl
  have J21 : ∀ (mm : zM) (H : Heap) (locs : List Loc) (ls : Array Slot), zH D lyC cy ad s.heap mm H locs → lv_has ls 4 [(0, .ref (ad 0))] → f_X5_until_21 p1 p2 mm = res → W p l e { frames := 25, cells := 0, slots := 0, locals := 915 } s m args below meth c H locs 0 0 (MQ below (zQi D lyC cy ad res.1 res.2) args s 0 0 (zA lyC ad)) (F0 m 21 ls []) := by
    intro mm H locs ls hH hl hres
    refine lv_aload_n hx hb dX5_until_21 rfl (lv_at hl 0 rfl) ?_
    refine lv_ldc (v := (-1000000001 : Int32)) hx hb hown (hz _ kK_X5_58) dX5_until_22 ?_
    refine zci (zrunV C0 hH (c_X5_finding l D cy ad _ _) kM_X5_59 zK5 kq_X5_finding zX0 rfl hl.1 rfl rfl rfl ⟨Nat.le_of_ble_eq_true rfl, Nat.le_of_ble_eq_true rfl⟩ (Nat.le_of_ble_eq_true rfl) dX5_until_24) hH (fun H locs hH => ?_)
    exact zreti C0 hH dX5_until_27 (zfst hres) (zsnd hres)
  have L30 : ∀ (n30 : Nat), ∀ (v3 : Int32) (mm : zM) (H : Heap) (locs : List Loc) (ls : Array Slot), (zCt 101 n30 v3) → (p2 ≤ 100) → zH D lyC cy ad s.heap mm H locs → lv_has ls 4 [(0, .ref (ad 0)), (1, .int p1), (2, .int p2), (3, .int v3)] → f_X5_until_30 p1 p2 n30 v3 mm = res → W p l e { frames := 25, cells := 0, slots := 0, locals := 915 } s m args below meth c H locs 0 0 (MQ below (zQi D lyC cy ad res.1 res.2) args s 0 0 (zA lyC ad)) (F0 m 30 ls []) := by
    intro n30
    induction n30 with
    | zero =>
      intro v3 mm H locs ls hct hp hH hl hres
      exfalso; exact hct.zero
    | succ n30 ih30 =>
      intro v3 mm H locs ls hct hp hH hl hres
      refine lv_iload_n hx hb dX5_until_30 rfl (lv_at hl 3 rfl) ?_
      refine lv_iload_n hx hb dX5_until_31 rfl (lv_at hl 2 rfl) ?_
      refine lv_icmp_gt (tgt := 72) hx hb dX5_until_32 (by decide) (fun c32_8 => ?_) (fun c32_8 => ?_)
      · have hres := zif_pos c32_8 hres
        refine lv_iload_n hx hb dX5_until_72 rfl (lv_at hl 2 rfl) ?_
        exact zreti C0 hH dX5_until_73 (zfst hres) (zsnd hres)
      · have hres := zif_neg c32_8 hres
        refine lv_aload_n hx hb dX5_until_35 rfl (lv_at hl 0 rfl) ?_
        refine zgR C0 hH zK5 0 (by decide) _ zX0 rfl kF_X5_12 dX5_until_36 ?_
        refine zcv (zrunV C0 hH (c_X2_tick l D cy ad _ _ zRow1) kM_X5_129 zK2 kq_X2_tick zRow1.is rfl hl.1 rfl rfl rfl ⟨Nat.le_of_ble_eq_true rfl, Nat.le_of_ble_eq_true rfl⟩ (Nat.le_of_ble_eq_true rfl) dX5_until_39) hH (fun H locs hH => ?_)
        refine lv_aload_n hx hb dX5_until_42 rfl (lv_at hl 0 rfl) ?_
        refine zgR C0 hH zK5 3 (by decide) _ zX0 rfl kF_X5_25 dX5_until_43 ?_
        refine lv_aload_n hx hb dX5_until_46 rfl (lv_at hl 0 rfl) ?_
        refine zgR C0 hH zK5 0 (by decide) _ zX0 rfl kF_X5_12 dX5_until_47 ?_
        refine zcv (zrunV C0 hH (c_X1_enter l D cy ad _ _ zBk43 _ zRow1) kM_X5_132 zK1 kq_X1_enter zBk43.is rfl hl.1 rfl rfl rfl ⟨Nat.le_of_ble_eq_true rfl, Nat.le_of_ble_eq_true rfl⟩ (Nat.le_of_ble_eq_true rfl) dX5_until_50) hH (fun H locs hH => ?_)
        refine lv_aload_n hx hb dX5_until_53 rfl (lv_at hl 0 rfl) ?_
        refine zgR C0 hH zK5 0 (by decide) _ zX0 rfl kF_X5_12 dX5_until_54 ?_
        refine zgIN C0 hH zK2 5 (by decide) zRow1.is rfl kN_X5_136 dX5_until_57 ?_
        refine lv_iload_n hx hb dX5_until_60 rfl (lv_at hl 1 rfl) ?_
        refine lv_icmp_lt (tgt := 66) hx hb dX5_until_61 (by decide) (fun c61_11 => ?_) (fun c61_11 => ?_)
        · have hres := zif_pos c61_11 hres
          refine ziinc (lv' := [(3, _), (0, _), (1, _), (2, _)]) (k := 3) hx hb (1 : Int32) (by decide) dX5_until_66 hl rfl (by decide) rfl (fun ls hl => ?_)
          refine lv_goto (tgt := 30) hx hb dX5_until_69 (by decide) ?_
          exact ih30 _ _ _ _ _ (by first | exact zCt.begin (by decide) (by decide) (by decide) | exact zCt.step (m := 101) hct (by clear hres; grind [f_X5_within, f_X2_has, slot_X1]) (by decide)) (by first | assumption | (clear hres; grind [f_X5_within, f_X2_has])) hH (lv_sub hl [1, 2, 3, 0] rfl) hres
        · have hres := zif_neg c61_11 hres
          refine lv_iload_n hx hb dX5_until_64 rfl (lv_at hl 3 rfl) ?_
          exact zreti C0 hH dX5_until_65 (zfst hres) (zsnd hres)
  refine lv_iload_n hx hb dX5_until_0 rfl (lv_at hl 1 rfl) ?_
  refine lv_iconst (v := (1 : Int32)) hx hb dX5_until_1 (by decide) ?_
  refine lv_sipush (v := (400 : Int32)) hx hb dX5_until_2 (by decide) ?_
  refine zcz (zrunS C0 hH (c_X5_within l D cy ad _ _ _ _) kM_X5_54 kq_X5_within rfl hl.1 rfl rfl rfl ⟨Nat.le_of_ble_eq_true rfl, Nat.le_of_ble_eq_true rfl⟩ (Nat.le_of_ble_eq_true rfl) dX5_until_5) hH (fun H locs hH h01_1 => ?_)
  refine lv_if_eq (tgt := 21) hx hb dX5_until_8 (by decide) (fun c8_3 => ?_) (fun c8_3 => ?_)
  · have hres := zif_pos c8_3 hres
    exact J21 _ _ _ _ hH (lv_sub hl [0] rfl) hres
  · have hres := zif_neg c8_3 hres
    refine lv_iload_n hx hb dX5_until_11 rfl (lv_at hl 2 rfl) ?_
    refine lv_iconst (v := (1 : Int32)) hx hb dX5_until_12 (by decide) ?_
    refine lv_bipush (v := (100 : Int32)) hx hb dX5_until_13 (by decide) ?_
    refine zcz (zrunS C0 hH (c_X5_within l D cy ad _ _ _ _) kM_X5_54 kq_X5_within rfl hl.1 rfl rfl rfl ⟨Nat.le_of_ble_eq_true rfl, Nat.le_of_ble_eq_true rfl⟩ (Nat.le_of_ble_eq_true rfl) dX5_until_15) hH (fun H locs hH h01_4 => ?_)
    refine lv_if_ne (tgt := 28) hx hb dX5_until_18 (by decide) (fun c18_6 => ?_) (fun c18_6 => ?_)
    · have hres := zif_neg c18_6 hres
      refine lv_iconst (v := (1 : Int32)) hx hb dX5_until_28 (by decide) ?_
      refine lv_istore_n (lv' := [(3, _), (0, _), (1, _), (2, _)]) hx hb dX5_until_29 rfl hl (by decide) rfl (fun ls hl => ?_)
      exact L30 (102) _ _ _ _ _ (by first | exact zCt.begin (by decide) (by decide) (by decide) | exact zCt.step (m := 101) hct (by clear hres; grind [f_X5_within, f_X2_has, slot_X1]) (by decide)) (by first | assumption | (clear hres; grind [f_X5_within, f_X2_has])) hH (lv_sub hl [1, 2, 3, 0] rfl) hres
    · have hres := zif_pos c18_6 hres
      exact J21 _ _ _ _ hH (lv_sub hl [0] rfl) hres
set_option maxRecDepth 100000 in
set_option maxHeartbeats 4000000 in
theorem c_X5_book (l : Launch) (D : va_G) (cy : Nat → ClassId) (ad : Nat → Nat) (M : zM) (p1 : Int32) (p2 : Int32) : Met l yX5_book (Cond.code yX5_book cX5_book 3 (some .int) :: zG) ({ frames := 2, cells := 0, slots := 0, locals := 44 }) (zP D lyC cy ad [.ref (ad 0), .int p1, .int p2] M) (zQi D lyC cy ad (f_X5_book p1 p2 M).1 (f_X5_book p1 p2 M).2) 0 0 (zA lyC ad) := by
  generalize hres : (f_X5_book p1 p2 M) = res
  refine zMet (by decide) (Nat.le_of_ble_eq_true rfl) ?_
  intro p e s m args below meth c ls C0 hH hl
  obtain ⟨⟨hx, hb, hml, hown, hts⟩, -⟩ := id C0
  have hz : ∀ w ∈ zG, w.before args s = true := fun w h => hts w (List.mem_cons_of_mem _ h)
  have hl : lv_has ls 3 [(0, .ref (ad 0)), (1, .int p1), (2, .int p2)] := hl
  refine lv_iload_n hx hb dX5_book_0 rfl (lv_at hl 1 rfl) ?_
  refine lv_iconst (v := (0 : Int32)) hx hb dX5_book_1 (by decide) ?_
  refine lv_aload_n hx hb dX5_book_2 rfl (lv_at hl 0 rfl) ?_
  refine zgR C0 hH zK5 3 (by decide) _ zX0 rfl kF_X5_25 dX5_book_3 ?_
  refine zgIN C0 hH zK1 4 (by decide) zBk43.is rfl kN_X5_139 dX5_book_6 ?_
  refine lv_iconst (v := (1 : Int32)) hx hb dX5_book_9 (by decide) ?_
  refine lv_isub hx hb dX5_book_10 ?_
  refine zcz (zrunS C0 hH (c_X5_within l D cy ad _ _ _ _) kM_X5_54 kq_X5_within rfl hl.1 rfl rfl rfl ⟨Nat.le_of_ble_eq_true rfl, Nat.le_of_ble_eq_true rfl⟩ (Nat.le_of_ble_eq_true rfl) dX5_book_11) hH (fun H locs hH h01_1 => ?_)
  refine lv_if_ne (tgt := 24) hx hb dX5_book_14 (by decide) (fun c14_3 => ?_) (fun c14_3 => ?_)
  · have hres := zif_neg c14_3 hres
    refine lv_iload_n hx hb dX5_book_24 rfl (lv_at hl 2 rfl) ?_
    refine zcase hres (fun c25_4_0 hres => ?_) (fun c25_4_0 hres => ?_)
    · refine ztab (tgt := 52) hx hb c25_4_0 dX5_book_25 (by decide) (by decide) rfl (by decide) ?_
      refine lv_aload_n hx hb dX5_book_52 rfl (lv_at hl 0 rfl) ?_
      refine zgR C0 hH zK5 3 (by decide) _ zX0 rfl kF_X5_25 dX5_book_53 ?_
      refine zgRN C0 hH zK1 0 (by decide) _ zBk43.is rfl kN_X5_140 dX5_book_56 ?_
      refine lv_aload_n hx hb dX5_book_59 rfl (lv_at hl 0 rfl) ?_
      refine zgR C0 hH zK5 3 (by decide) _ zX0 rfl kF_X5_25 dX5_book_60 ?_
      refine lv_iload_n hx hb dX5_book_63 rfl (lv_at hl 1 rfl) ?_
      refine zci (zrunV C0 hH (c_X1_slot l D cy ad _ _ zBk43 _) kM_X5_143 zK1 kq_X1_slot zBk43.is rfl hl.1 rfl rfl rfl ⟨Nat.le_of_ble_eq_true rfl, Nat.le_of_ble_eq_true rfl⟩ (Nat.le_of_ble_eq_true rfl) dX5_book_64) hH (fun H locs hH => ?_)
      refine zald C0 hH zBk43.a1 zBk43.l1 (by exact zin100.mpr (by have q0 := hH.row zRow1; have q1 := hH.bkl zBk43; have q2 := hH.bkn zBk43; clear hres; grind [f_X5_within, f_X2_has, slot_X1])) dX5_book_67 ?_
      exact zreti C0 hH dX5_book_68 (zfst hres) (zsnd hres)
    · skip
      refine zcase hres (fun c25_4_1 hres => ?_) (fun c25_4_1 hres => ?_)
      · refine ztab (tgt := 69) hx hb c25_4_1 dX5_book_25 (by decide) (by decide) rfl (by decide) ?_
        refine lv_aload_n hx hb dX5_book_69 rfl (lv_at hl 0 rfl) ?_
        refine zgR C0 hH zK5 3 (by decide) _ zX0 rfl kF_X5_25 dX5_book_70 ?_
        refine zgRN C0 hH zK1 1 (by decide) _ zBk43.is rfl kN_X5_146 dX5_book_73 ?_
        refine lv_aload_n hx hb dX5_book_76 rfl (lv_at hl 0 rfl) ?_
        refine zgR C0 hH zK5 3 (by decide) _ zX0 rfl kF_X5_25 dX5_book_77 ?_
        refine lv_iload_n hx hb dX5_book_80 rfl (lv_at hl 1 rfl) ?_
        refine zci (zrunV C0 hH (c_X1_slot l D cy ad _ _ zBk43 _) kM_X5_143 zK1 kq_X1_slot zBk43.is rfl hl.1 rfl rfl rfl ⟨Nat.le_of_ble_eq_true rfl, Nat.le_of_ble_eq_true rfl⟩ (Nat.le_of_ble_eq_true rfl) dX5_book_81) hH (fun H locs hH => ?_)
        refine zald C0 hH zBk43.a2 zBk43.l2 (by exact zin100.mpr (by have q0 := hH.row zRow1; have q1 := hH.bkl zBk43; have q2 := hH.bkn zBk43; clear hres; grind [f_X5_within, f_X2_has, slot_X1])) dX5_book_84 ?_
        exact zreti C0 hH dX5_book_85 (zfst hres) (zsnd hres)
      · skip
        refine zcase hres (fun c25_4_2 hres => ?_) (fun c25_4_2 hres => ?_)
        · refine ztab (tgt := 86) hx hb c25_4_2 dX5_book_25 (by decide) (by decide) rfl (by decide) ?_
          refine lv_aload_n hx hb dX5_book_86 rfl (lv_at hl 0 rfl) ?_
          refine zgR C0 hH zK5 3 (by decide) _ zX0 rfl kF_X5_25 dX5_book_87 ?_
          refine zgRN C0 hH zK1 2 (by decide) _ zBk43.is rfl kN_X5_149 dX5_book_90 ?_
          refine lv_aload_n hx hb dX5_book_93 rfl (lv_at hl 0 rfl) ?_
          refine zgR C0 hH zK5 3 (by decide) _ zX0 rfl kF_X5_25 dX5_book_94 ?_
          refine lv_iload_n hx hb dX5_book_97 rfl (lv_at hl 1 rfl) ?_
          refine zci (zrunV C0 hH (c_X1_slot l D cy ad _ _ zBk43 _) kM_X5_143 zK1 kq_X1_slot zBk43.is rfl hl.1 rfl rfl rfl ⟨Nat.le_of_ble_eq_true rfl, Nat.le_of_ble_eq_true rfl⟩ (Nat.le_of_ble_eq_true rfl) dX5_book_98) hH (fun H locs hH => ?_)
          refine zald C0 hH zBk43.a3 zBk43.l3 (by exact zin100.mpr (by have q0 := hH.row zRow1; have q1 := hH.bkl zBk43; have q2 := hH.bkn zBk43; clear hres; grind [f_X5_within, f_X2_has, slot_X1])) dX5_book_101 ?_
          exact zreti C0 hH dX5_book_102 (zfst hres) (zsnd hres)
        · skip
          refine ztabD (tgt := 103) hx hb [(0 : Int32), (1 : Int32), (2 : Int32)] (List.forall_mem_cons.mpr ⟨c25_4_0, (List.forall_mem_cons.mpr ⟨c25_4_1, (List.forall_mem_cons.mpr ⟨c25_4_2, (fun _ h => absurd h List.not_mem_nil)⟩)⟩)⟩) dX5_book_25 (by decide) (by decide) (by decide) ?_
          refine lv_aload_n hx hb dX5_book_103 rfl (lv_at hl 0 rfl) ?_
          refine lv_ldc (v := (-1000000001 : Int32)) hx hb hown (hz _ kK_X5_58) dX5_book_104 ?_
          refine zci (zrunV C0 hH (c_X5_finding l D cy ad _ _) kM_X5_59 zK5 kq_X5_finding zX0 rfl hl.1 rfl rfl rfl ⟨Nat.le_of_ble_eq_true rfl, Nat.le_of_ble_eq_true rfl⟩ (Nat.le_of_ble_eq_true rfl) dX5_book_106) hH (fun H locs hH => ?_)
          exact zreti C0 hH dX5_book_109 (zfst hres) (zsnd hres)
  · have hres := zif_pos c14_3 hres
    refine lv_aload_n hx hb dX5_book_17 rfl (lv_at hl 0 rfl) ?_
    refine lv_ldc (v := (-1000000001 : Int32)) hx hb hown (hz _ kK_X5_58) dX5_book_18 ?_
    refine zci (zrunV C0 hH (c_X5_finding l D cy ad _ _) kM_X5_59 zK5 kq_X5_finding zX0 rfl hl.1 rfl rfl rfl ⟨Nat.le_of_ble_eq_true rfl, Nat.le_of_ble_eq_true rfl⟩ (Nat.le_of_ble_eq_true rfl) dX5_book_20) hH (fun H locs hH => ?_)
    exact zreti C0 hH dX5_book_23 (zfst hres) (zsnd hres)
set_option maxRecDepth 100000 in
set_option maxHeartbeats 4000000 in
theorem c_X5_counts (l : Launch) (D : va_G) (cy : Nat → ClassId) (ad : Nat → Nat) (M : zM) (p1 : Int32) : Met l yX5_counts (Cond.code yX5_counts cX5_counts 2 (some .int) :: zG) ({ frames := 2, cells := 0, slots := 0, locals := 44 }) (zP D lyC cy ad [.ref (ad 0), .int p1] M) (zQi D lyC cy ad (f_X5_counts p1 M).1 (f_X5_counts p1 M).2) 0 0 (zA lyC ad) := by
  generalize hres : (f_X5_counts p1 M) = res
  refine zMet (by decide) (Nat.le_of_ble_eq_true rfl) ?_
  intro p e s m args below meth c ls C0 hH hl
  obtain ⟨⟨hx, hb, hml, hown, hts⟩, -⟩ := id C0
  have hz : ∀ w ∈ zG, w.before args s = true := fun w h => hts w (List.mem_cons_of_mem _ h)
  have hl : lv_has ls 2 [(0, .ref (ad 0)), (1, .int p1)] := hl
  refine lv_iload_n hx hb dX5_counts_0 rfl (lv_at hl 1 rfl) ?_
  refine lv_iconst (v := (0 : Int32)) hx hb dX5_counts_1 (by decide) ?_
  refine lv_bipush (v := (6 : Int32)) hx hb dX5_counts_2 (by decide) ?_
  refine zcz (zrunS C0 hH (c_X5_within l D cy ad _ _ _ _) kM_X5_54 kq_X5_within rfl hl.1 rfl rfl rfl ⟨Nat.le_of_ble_eq_true rfl, Nat.le_of_ble_eq_true rfl⟩ (Nat.le_of_ble_eq_true rfl) dX5_counts_4) hH (fun H locs hH h01_1 => ?_)
  refine lv_if_ne (tgt := 17) hx hb dX5_counts_7 (by decide) (fun c7_3 => ?_) (fun c7_3 => ?_)
  · have hres := zif_neg c7_3 hres
    refine lv_aload_n hx hb dX5_counts_17 rfl (lv_at hl 0 rfl) ?_
    refine zgR C0 hH zK5 3 (by decide) _ zX0 rfl kF_X5_25 dX5_counts_18 ?_
    refine zgRN C0 hH zK1 3 (by decide) _ zBk43.is rfl kN_X5_152 dX5_counts_21 ?_
    refine lv_iload_n hx hb dX5_counts_24 rfl (lv_at hl 1 rfl) ?_
    refine zald C0 hH zBk43.a4 zBk43.l4 (by exact zin7.mpr (by have q0 := hH.row zRow1; have q1 := hH.bkl zBk43; have q2 := hH.bkn zBk43; clear hres; grind [f_X5_within, f_X2_has, slot_X1])) dX5_counts_25 ?_
    exact zreti C0 hH dX5_counts_26 (zfst hres) (zsnd hres)
  · have hres := zif_pos c7_3 hres
    refine lv_aload_n hx hb dX5_counts_10 rfl (lv_at hl 0 rfl) ?_
    refine lv_ldc (v := (-1000000001 : Int32)) hx hb hown (hz _ kK_X5_58) dX5_counts_11 ?_
    refine zci (zrunV C0 hH (c_X5_finding l D cy ad _ _) kM_X5_59 zK5 kq_X5_finding zX0 rfl hl.1 rfl rfl rfl ⟨Nat.le_of_ble_eq_true rfl, Nat.le_of_ble_eq_true rfl⟩ (Nat.le_of_ble_eq_true rfl) dX5_counts_13) hH (fun H locs hH => ?_)
    exact zreti C0 hH dX5_counts_16 (zfst hres) (zsnd hres)
set_option maxRecDepth 100000 in
set_option maxHeartbeats 4000000 in
theorem c_X5_power (l : Launch) (D : va_G) (cy : Nat → ClassId) (ad : Nat → Nat) (M : zM) : Met l yX5_power (Cond.code yX5_power cX5_power 2 (some .int) :: zG) ({ frames := 0, cells := 0, slots := 0, locals := 0 }) (zP D lyC cy ad [.ref (ad 0)] M) (zQi D lyC cy ad (f_X5_power M) M) 0 0 (zA lyC ad) := by
  generalize hres : (f_X5_power M) = res
  refine zMet (by decide) (Nat.le_of_ble_eq_true rfl) ?_
  intro p e s m args below meth c ls C0 hH hl
  obtain ⟨⟨hx, hb, hml, hown, hts⟩, -⟩ := id C0
  have hz : ∀ w ∈ zG, w.before args s = true := fun w h => hts w (List.mem_cons_of_mem _ h)
  have hl : lv_has ls 2 [(0, .ref (ad 0))] := hl
  have L2 : ∀ (n2 : Nat), ∀ (v1 : Int32) (H : Heap) (locs : List Loc) (ls : Array Slot), (zCt 7 n2 v1) → (2 ≤ v1) → zH D lyC cy ad s.heap M H locs → lv_has ls 2 [(0, .ref (ad 0)), (1, .int v1)] → f_X5_power_2 M n2 v1 = res → W p l e { frames := 0, cells := 0, slots := 0, locals := 0 } s m args below meth c H locs 0 0 (MQ below (zQi D lyC cy ad res M) args s 0 0 (zA lyC ad)) (F0 m 2 ls []) := by
    intro n2
    induction n2 with
    | zero =>
      intro v1 H locs ls hct h2 hH hl hres
      exfalso; exact hct.zero
    | succ n2 ih2 =>
      intro v1 H locs ls hct h2 hH hl hres
      refine lv_iload_n hx hb dX5_power_2 rfl (lv_at hl 1 rfl) ?_
      refine lv_bipush (v := (7 : Int32)) hx hb dX5_power_3 (by decide) ?_
      refine lv_icmp_ge (tgt := 39) hx hb dX5_power_5 (by decide) (fun c5_1 => ?_) (fun c5_1 => ?_)
      · have hres := zif_pos c5_1 hres
        refine lv_iconst (v := (1 : Int32)) hx hb dX5_power_39 (by decide) ?_
        exact zreti C0 hH dX5_power_40 hres rfl
      · have hres := zif_neg c5_1 hres
        refine lv_aload_n hx hb dX5_power_8 rfl (lv_at hl 0 rfl) ?_
        refine zgR C0 hH zK5 3 (by decide) _ zX0 rfl kF_X5_25 dX5_power_9 ?_
        refine zgRN C0 hH zK1 3 (by decide) _ zBk43.is rfl kN_X5_152 dX5_power_12 ?_
        refine lv_iload_n hx hb dX5_power_15 rfl (lv_at hl 1 rfl) ?_
        refine zald C0 hH zBk43.a4 zBk43.l4 (by exact zin7.mpr (by have q0 := hH.row zRow1; have q1 := hH.bkl zBk43; have q2 := hH.bkn zBk43; obtain ⟨qa, qb, -⟩ := hct; clear hres; grind [f_X5_within, f_X2_has, slot_X1])) dX5_power_16 ?_
        refine lv_aload_n hx hb dX5_power_17 rfl (lv_at hl 0 rfl) ?_
        refine zgR C0 hH zK5 3 (by decide) _ zX0 rfl kF_X5_25 dX5_power_18 ?_
        refine zgRN C0 hH zK1 3 (by decide) _ zBk43.is rfl kN_X5_152 dX5_power_21 ?_
        refine lv_iload_n hx hb dX5_power_24 rfl (lv_at hl 1 rfl) ?_
        refine lv_iconst (v := (1 : Int32)) hx hb dX5_power_25 (by decide) ?_
        refine lv_isub hx hb dX5_power_26 ?_
        refine zald C0 hH zBk43.a4 zBk43.l4 (by exact zin7.mpr (by have q0 := hH.row zRow1; have q1 := hH.bkl zBk43; have q2 := hH.bkn zBk43; obtain ⟨qa, qb, -⟩ := hct; clear hres; grind [f_X5_within, f_X2_has, slot_X1])) dX5_power_27 ?_
        refine lv_icmp_le (tgt := 33) hx hb dX5_power_28 (by decide) (fun c28_2 => ?_) (fun c28_2 => ?_)
        · have hres := zif_pos c28_2 hres
          refine ziinc (lv' := [(1, _), (0, _)]) (k := 1) hx hb (1 : Int32) (by decide) dX5_power_33 hl rfl (by decide) rfl (fun ls hl => ?_)
          refine lv_goto (tgt := 2) hx hb dX5_power_36 (by decide) ?_
          exact ih2 _ _ _ _ (by first | exact zCt.begin (by decide) (by decide) (by decide) | exact zCt.step (m := 7) hct (by clear hres; grind [f_X5_within, f_X2_has, slot_X1]) (by decide)) (by first | decide | (obtain ⟨qa, qb, -⟩ := hct; clear hres; grind)) hH (lv_sub hl [1, 0] rfl) hres
        · have hres := zif_neg c28_2 hres
          refine lv_iconst (v := (0 : Int32)) hx hb dX5_power_31 (by decide) ?_
          exact zreti C0 hH dX5_power_32 hres rfl
  refine lv_iconst (v := (2 : Int32)) hx hb dX5_power_0 (by decide) ?_
  refine lv_istore_n (lv' := [(1, _), (0, _)]) hx hb dX5_power_1 rfl hl (by decide) rfl (fun ls hl => ?_)
  exact L2 (8) _ _ _ _ (by first | exact zCt.begin (by decide) (by decide) (by decide) | exact zCt.step (m := 7) hct (by clear hres; grind [f_X5_within, f_X2_has, slot_X1]) (by decide)) (by first | decide | (obtain ⟨qa, qb, -⟩ := hct; clear hres; grind)) hH (lv_sub hl [1, 0] rfl) hres
set_option maxRecDepth 100000 in
set_option maxHeartbeats 4000000 in
theorem c_X5_tone (l : Launch) (D : va_G) (cy : Nat → ClassId) (ad : Nat → Nat) (M : zM) : Met l yX5_tone (Cond.code yX5_tone cX5_tone 3 (some .int) :: zG) ({ frames := 2, cells := 0, slots := 0, locals := 44 }) (zP D lyC cy ad [.ref (ad 0)] M) (zQi D lyC cy ad (f_X5_tone M).1 (f_X5_tone M).2) 0 0 (zA lyC ad) := by
  generalize hres : (f_X5_tone M) = res
  refine zMet (by decide) (Nat.le_of_ble_eq_true rfl) ?_
  intro p e s m args below meth c ls C0 hH hl
  obtain ⟨⟨hx, hb, hml, hown, hts⟩, -⟩ := id C0
  have hz : ∀ w ∈ zG, w.before args s = true := fun w h => hts w (List.mem_cons_of_mem _ h)
  have hl : lv_has ls 3 [(0, .ref (ad 0))] := hl
  have L4 : ∀ (n4 : Nat), ∀ (v1 : Int32) (v2 : Int32) (mm : zM) (H : Heap) (locs : List Loc) (ls : Array Slot), (zCt 100 n4 v2) → zH D lyC cy ad s.heap mm H locs → lv_has ls 3 [(0, .ref (ad 0)), (1, .int v1), (2, .int v2)] → f_X5_tone_4 n4 v1 v2 mm = res → W p l e { frames := 2, cells := 0, slots := 0, locals := 44 } s m args below meth c H locs 0 0 (MQ below (zQi D lyC cy ad res.1 res.2) args s 0 0 (zA lyC ad)) (F0 m 4 ls []) := by
    intro n4
    induction n4 with
    | zero =>
      intro v1 v2 mm H locs ls hct hH hl hres
      exfalso; exact hct.zero
    | succ n4 ih4 =>
      intro v1 v2 mm H locs ls hct hH hl hres
      have g0 := hH.bkl zBk43
      refine lv_iload_n hx hb dX5_tone_4 rfl (lv_at hl 2 rfl) ?_
      refine lv_aload_n hx hb dX5_tone_5 rfl (lv_at hl 0 rfl) ?_
      refine zgR C0 hH zK5 3 (by decide) _ zX0 rfl kF_X5_25 dX5_tone_6 ?_
      refine zgIN C0 hH zK1 4 (by decide) zBk43.is rfl kN_X5_139 dX5_tone_9 ?_
      refine lv_icmp_ge (tgt := 50) hx hb dX5_tone_12 (by decide) (fun c12_1 => ?_) (fun c12_1 => ?_)
      · have hres := zif_pos c12_1 hres
        refine lv_aload_n hx hb dX5_tone_50 rfl (lv_at hl 0 rfl) ?_
        refine lv_ldc (v := (-1000000004 : Int32)) hx hb hown (hz _ kK_X5_155) dX5_tone_51 ?_
        refine zci (zrunV C0 hH (c_X5_finding l D cy ad _ _) kM_X5_59 zK5 kq_X5_finding zX0 rfl hl.1 rfl rfl rfl ⟨Nat.le_of_ble_eq_true rfl, Nat.le_of_ble_eq_true rfl⟩ (Nat.le_of_ble_eq_true rfl) dX5_tone_53) hH (fun H locs hH => ?_)
        exact zreti C0 hH dX5_tone_56 (zfst hres) (zsnd hres)
      · have hres := zif_neg c12_1 hres
        refine lv_aload_n hx hb dX5_tone_15 rfl (lv_at hl 0 rfl) ?_
        refine zgR C0 hH zK5 3 (by decide) _ zX0 rfl kF_X5_25 dX5_tone_16 ?_
        refine zgRN C0 hH zK1 0 (by decide) _ zBk43.is rfl kN_X5_140 dX5_tone_19 ?_
        refine lv_aload_n hx hb dX5_tone_22 rfl (lv_at hl 0 rfl) ?_
        refine zgR C0 hH zK5 3 (by decide) _ zX0 rfl kF_X5_25 dX5_tone_23 ?_
        refine lv_iload_n hx hb dX5_tone_26 rfl (lv_at hl 2 rfl) ?_
        refine zci (zrunV C0 hH (c_X1_slot l D cy ad _ _ zBk43 _) kM_X5_143 zK1 kq_X1_slot zBk43.is rfl hl.1 rfl rfl rfl ⟨Nat.le_of_ble_eq_true rfl, Nat.le_of_ble_eq_true rfl⟩ (Nat.le_of_ble_eq_true rfl) dX5_tone_27) hH (fun H locs hH => ?_)
        refine zald C0 hH zBk43.a1 zBk43.l1 (by exact zin100.mpr (by have q0 := hH.row zRow1; have q1 := hH.bkl zBk43; have q2 := hH.bkn zBk43; obtain ⟨qa, qb, -⟩ := hct; clear hres; grind [f_X5_within, f_X2_has, slot_X1])) dX5_tone_30 ?_
        refine lv_if_le (tgt := 44) hx hb dX5_tone_31 (by decide) (fun c31_4 => ?_) (fun c31_4 => ?_)
        · have hres := zif_pos c31_4 hres
          refine ziinc (lv' := [(2, _), (0, _), (1, _)]) (k := 2) hx hb (1 : Int32) (by decide) dX5_tone_44 hl rfl (by decide) rfl (fun ls hl => ?_)
          refine lv_goto (tgt := 4) hx hb dX5_tone_47 (by decide) ?_
          exact ih4 _ _ _ _ _ _ (by first | exact zCt.start (by decide) (by decide) | exact zCt.step (m := 100) hct (by clear hres; grind [f_X5_within, f_X2_has, slot_X1]) (by decide)) hH (lv_sub hl [1, 2, 0] rfl) hres
        · have hres := zif_neg c31_4 hres
          refine lv_iload_n hx hb dX5_tone_34 rfl (lv_at hl 1 rfl) ?_
          refine lv_if_lt (tgt := 42) hx hb dX5_tone_35 (by decide) (fun c35_5 => ?_) (fun c35_5 => ?_)
          · have hres := zif_pos c35_5 hres
            refine lv_iload_n hx hb dX5_tone_42 rfl (lv_at hl 2 rfl) ?_
            refine lv_istore_n (lv' := [(1, _), (0, _), (2, _)]) hx hb dX5_tone_43 rfl hl (by decide) rfl (fun ls hl => ?_)
            refine ziinc (lv' := [(2, _), (1, _), (0, _)]) (k := 2) hx hb (1 : Int32) (by decide) dX5_tone_44 hl rfl (by decide) rfl (fun ls hl => ?_)
            refine lv_goto (tgt := 4) hx hb dX5_tone_47 (by decide) ?_
            exact ih4 _ _ _ _ _ _ (by first | exact zCt.start (by decide) (by decide) | exact zCt.step (m := 100) hct (by clear hres; grind [f_X5_within, f_X2_has, slot_X1]) (by decide)) hH (lv_sub hl [2, 1, 0] rfl) hres
          · have hres := zif_neg c35_5 hres
            refine lv_iload_n hx hb dX5_tone_38 rfl (lv_at hl 2 rfl) ?_
            refine lv_iload_n hx hb dX5_tone_39 rfl (lv_at hl 1 rfl) ?_
            refine lv_isub hx hb dX5_tone_40 ?_
            exact zreti C0 hH dX5_tone_41 (zfst hres) (zsnd hres)
  refine lv_iconst (v := (-1 : Int32)) hx hb dX5_tone_0 (by decide) ?_
  refine lv_istore_n (lv' := [(1, _), (0, _)]) hx hb dX5_tone_1 rfl hl (by decide) rfl (fun ls hl => ?_)
  refine lv_iconst (v := (0 : Int32)) hx hb dX5_tone_2 (by decide) ?_
  refine lv_istore_n (lv' := [(2, _), (1, _), (0, _)]) hx hb dX5_tone_3 rfl hl (by decide) rfl (fun ls hl => ?_)
  exact L4 (101) _ _ _ _ _ _ (by first | exact zCt.start (by decide) (by decide) | exact zCt.step (m := 100) hct (by clear hres; grind [f_X5_within, f_X2_has, slot_X1]) (by decide)) hH (lv_sub hl [2, 1, 0] rfl) hres
set_option maxRecDepth 100000 in
set_option maxHeartbeats 4000000 in
theorem c_X5_great (l : Launch) (D : va_G) (cy : Nat → ClassId) (ad : Nat → Nat) (M : zM) (p1 : Int32) (p2 : Int32) : Met l yX5_great (Cond.code yX5_great cX5_great 6 (some .int) :: zG) ({ frames := 2, cells := 0, slots := 0, locals := 44 }) (zP D lyC cy ad [.ref (ad 0), .int p1, .int p2] M) (zQi D lyC cy ad (f_X5_great p1 p2 M).1 (f_X5_great p1 p2 M).2) 0 0 (zA lyC ad) := by
  generalize hres : (f_X5_great p1 p2 M) = res
  refine zMet (by decide) (Nat.le_of_ble_eq_true rfl) ?_
  intro p e s m args below meth c ls C0 hH hl
  obtain ⟨⟨hx, hb, hml, hown, hts⟩, -⟩ := id C0
  have hz : ∀ w ∈ zG, w.before args s = true := fun w h => hts w (List.mem_cons_of_mem _ h)
  have hl : lv_has ls 6 [(0, .ref (ad 0)), (1, .int p1), (2, .int p2)] := hl
  have J20 : ∀ (mm : zM) (H : Heap) (locs : List Loc) (ls : Array Slot), zH D lyC cy ad s.heap mm H locs → lv_has ls 6 [(0, .ref (ad 0))] → f_X5_great_20 p1 p2 mm = res → W p l e { frames := 2, cells := 0, slots := 0, locals := 44 } s m args below meth c H locs 0 0 (MQ below (zQi D lyC cy ad res.1 res.2) args s 0 0 (zA lyC ad)) (F0 m 20 ls []) := by
    intro mm H locs ls hH hl hres
    refine lv_aload_n hx hb dX5_great_20 rfl (lv_at hl 0 rfl) ?_
    refine lv_ldc (v := (-1000000001 : Int32)) hx hb hown (hz _ kK_X5_58) dX5_great_21 ?_
    refine zci (zrunV C0 hH (c_X5_finding l D cy ad _ _) kM_X5_59 zK5 kq_X5_finding zX0 rfl hl.1 rfl rfl rfl ⟨Nat.le_of_ble_eq_true rfl, Nat.le_of_ble_eq_true rfl⟩ (Nat.le_of_ble_eq_true rfl) dX5_great_23) hH (fun H locs hH => ?_)
    exact zreti C0 hH dX5_great_26 (zfst hres) (zsnd hres)
  have L35 : ∀ (n35 : Nat), ∀ (v3 : Int32) (v4 : Int32) (v5 : Int32) (mm : zM) (H : Heap) (locs : List Loc) (ls : Array Slot), (zCt 100 n35 v5) → zH D lyC cy ad s.heap mm H locs → lv_has ls 6 [(0, .ref (ad 0)), (1, .int p1), (2, .int p2), (3, .int v3), (4, .int v4), (5, .int v5)] → f_X5_great_35 p1 p2 n35 v3 v4 v5 mm = res → W p l e { frames := 2, cells := 0, slots := 0, locals := 44 } s m args below meth c H locs 0 0 (MQ below (zQi D lyC cy ad res.1 res.2) args s 0 0 (zA lyC ad)) (F0 m 35 ls []) := by
    intro n35
    induction n35 with
    | zero =>
      intro v3 v4 v5 mm H locs ls hct hH hl hres
      exfalso; exact hct.zero
    | succ n35 ih35 =>
      intro v3 v4 v5 mm H locs ls hct hH hl hres
      have g0 := hH.bkl zBk43
      refine lv_iload hx hb dX5_great_35 (lv_at hl 5 rfl) ?_
      refine lv_aload_n hx hb dX5_great_37 rfl (lv_at hl 0 rfl) ?_
      refine zgR C0 hH zK5 3 (by decide) _ zX0 rfl kF_X5_25 dX5_great_38 ?_
      refine zgIN C0 hH zK1 4 (by decide) zBk43.is rfl kN_X5_139 dX5_great_41 ?_
      refine lv_icmp_ge (tgt := 116) hx hb dX5_great_44 (by decide) (fun c44_8 => ?_) (fun c44_8 => ?_)
      · have hres := zif_pos c44_8 hres
        refine lv_iload_n hx hb dX5_great_116 rfl (lv_at hl 2 rfl) ?_
        refine lv_if_ne (tgt := 124) hx hb dX5_great_117 (by decide) (fun c117_9 => ?_) (fun c117_9 => ?_)
        · have hres := zif_neg c117_9 hres
          refine lv_iload hx hb dX5_great_124 (lv_at hl 4 rfl) ?_
          exact zreti C0 hH dX5_great_126 (zfst hres) (zsnd hres)
        · have hres := zif_pos c117_9 hres
          refine lv_iload_n hx hb dX5_great_120 rfl (lv_at hl 3 rfl) ?_
          refine lv_goto (tgt := 126) hx hb dX5_great_121 (by decide) ?_
          exact zreti C0 hH dX5_great_126 (zfst hres) (zsnd hres)
      · have hres := zif_neg c44_8 hres
        refine lv_aload_n hx hb dX5_great_47 rfl (lv_at hl 0 rfl) ?_
        refine zgR C0 hH zK5 3 (by decide) _ zX0 rfl kF_X5_25 dX5_great_48 ?_
        refine zgRN C0 hH zK1 0 (by decide) _ zBk43.is rfl kN_X5_140 dX5_great_51 ?_
        refine lv_aload_n hx hb dX5_great_54 rfl (lv_at hl 0 rfl) ?_
        refine zgR C0 hH zK5 3 (by decide) _ zX0 rfl kF_X5_25 dX5_great_55 ?_
        refine lv_iload hx hb dX5_great_58 (lv_at hl 5 rfl) ?_
        refine zci (zrunV C0 hH (c_X1_slot l D cy ad _ _ zBk43 _) kM_X5_143 zK1 kq_X1_slot zBk43.is rfl hl.1 rfl rfl rfl ⟨Nat.le_of_ble_eq_true rfl, Nat.le_of_ble_eq_true rfl⟩ (Nat.le_of_ble_eq_true rfl) dX5_great_60) hH (fun H locs hH => ?_)
        refine zald C0 hH zBk43.a1 zBk43.l1 (by exact zin100.mpr (by have q0 := hH.row zRow1; have q1 := hH.bkl zBk43; have q2 := hH.bkn zBk43; obtain ⟨qa, qb, -⟩ := hct; clear hres; grind [f_X5_within, f_X2_has, slot_X1])) dX5_great_63 ?_
        refine lv_iload_n hx hb dX5_great_64 rfl (lv_at hl 1 rfl) ?_
        refine lv_icmp_lt (tgt := 110) hx hb dX5_great_65 (by decide) (fun c65_11 => ?_) (fun c65_11 => ?_)
        · have hres := zif_pos c65_11 hres
          refine ziinc (lv' := [(5, _), (0, _), (1, _), (2, _), (3, _), (4, _)]) (k := 5) hx hb (1 : Int32) (by decide) dX5_great_110 hl rfl (by decide) rfl (fun ls hl => ?_)
          refine lv_goto (tgt := 35) hx hb dX5_great_113 (by decide) ?_
          exact ih35 _ _ _ _ _ _ _ (by first | exact zCt.start (by decide) (by decide) | exact zCt.step (m := 100) hct (by clear hres; grind [f_X5_within, f_X2_has, slot_X1]) (by decide)) hH (lv_sub hl [1, 2, 3, 4, 5, 0] rfl) hres
        · have hres := zif_neg c65_11 hres
          refine ziinc (lv' := [(3, _), (0, _), (1, _), (2, _), (4, _), (5, _)]) (k := 3) hx hb (1 : Int32) (by decide) dX5_great_68 hl rfl (by decide) rfl (fun ls hl => ?_)
          refine lv_iload hx hb dX5_great_71 (lv_at hl 5 rfl) ?_
          refine lv_iconst (v := (1 : Int32)) hx hb dX5_great_73 (by decide) ?_
          refine lv_iadd hx hb dX5_great_74 ?_
          refine lv_aload_n hx hb dX5_great_75 rfl (lv_at hl 1 rfl) ?_
          refine zgR C0 hH zK5 3 (by decide) _ zX0 rfl kF_X5_25 dX5_great_76 ?_
          refine zgIN C0 hH zK1 4 (by decide) zBk43.is rfl kN_X5_139 dX5_great_79 ?_
          refine lv_icmp_ge (tgt := 110) hx hb dX5_great_82 (by decide) (fun c82_12 => ?_) (fun c82_12 => ?_)
          · have hres := zif_pos c82_12 hres
            refine ziinc (lv' := [(5, _), (3, _), (0, _), (1, _), (2, _), (4, _)]) (k := 5) hx hb (1 : Int32) (by decide) dX5_great_110 hl rfl (by decide) rfl (fun ls hl => ?_)
            refine lv_goto (tgt := 35) hx hb dX5_great_113 (by decide) ?_
            exact ih35 _ _ _ _ _ _ _ (by first | exact zCt.start (by decide) (by decide) | exact zCt.step (m := 100) hct (by clear hres; grind [f_X5_within, f_X2_has, slot_X1]) (by decide)) hH (lv_sub hl [2, 3, 4, 1, 5, 0] rfl) hres
          · have hres := zif_neg c82_12 hres
            refine lv_aload_n hx hb dX5_great_85 rfl (lv_at hl 1 rfl) ?_
            refine zgR C0 hH zK5 3 (by decide) _ zX0 rfl kF_X5_25 dX5_great_86 ?_
            refine zgRN C0 hH zK1 0 (by decide) _ zBk43.is rfl kN_X5_140 dX5_great_89 ?_
            refine lv_aload_n hx hb dX5_great_92 rfl (lv_at hl 1 rfl) ?_
            refine zgR C0 hH zK5 3 (by decide) _ zX0 rfl kF_X5_25 dX5_great_93 ?_
            refine lv_iload hx hb dX5_great_96 (lv_at hl 5 rfl) ?_
            refine lv_iconst (v := (1 : Int32)) hx hb dX5_great_98 (by decide) ?_
            refine lv_iadd hx hb dX5_great_99 ?_
            refine zci (zrunV C0 hH (c_X1_slot l D cy ad _ _ zBk43 _) kM_X5_143 zK1 kq_X1_slot zBk43.is rfl hl.1 rfl rfl rfl ⟨Nat.le_of_ble_eq_true rfl, Nat.le_of_ble_eq_true rfl⟩ (Nat.le_of_ble_eq_true rfl) dX5_great_100) hH (fun H locs hH => ?_)
            refine zald C0 hH zBk43.a1 zBk43.l1 (by exact zin100.mpr (by have q0 := hH.row zRow1; have q1 := hH.bkl zBk43; have q2 := hH.bkn zBk43; obtain ⟨qa, qb, -⟩ := hct; clear hres; grind [f_X5_within, f_X2_has, slot_X1])) dX5_great_103 ?_
            refine lv_if_le (tgt := 110) hx hb dX5_great_104 (by decide) (fun c104_14 => ?_) (fun c104_14 => ?_)
            · have hres := zif_pos c104_14 hres
              refine ziinc (lv' := [(5, _), (3, _), (0, _), (1, _), (2, _), (4, _)]) (k := 5) hx hb (1 : Int32) (by decide) dX5_great_110 hl rfl (by decide) rfl (fun ls hl => ?_)
              refine lv_goto (tgt := 35) hx hb dX5_great_113 (by decide) ?_
              exact ih35 _ _ _ _ _ _ _ (by first | exact zCt.start (by decide) (by decide) | exact zCt.step (m := 100) hct (by clear hres; grind [f_X5_within, f_X2_has, slot_X1]) (by decide)) hH (lv_sub hl [2, 3, 4, 1, 5, 0] rfl) hres
            · have hres := zif_neg c104_14 hres
              refine ziinc (lv' := [(4, _), (3, _), (0, _), (1, _), (2, _), (5, _)]) (k := 4) hx hb (1 : Int32) (by decide) dX5_great_107 hl rfl (by decide) rfl (fun ls hl => ?_)
              refine ziinc (lv' := [(5, _), (4, _), (3, _), (0, _), (1, _), (2, _)]) (k := 5) hx hb (1 : Int32) (by decide) dX5_great_110 hl rfl (by decide) rfl (fun ls hl => ?_)
              refine lv_goto (tgt := 35) hx hb dX5_great_113 (by decide) ?_
              exact ih35 _ _ _ _ _ _ _ (by first | exact zCt.start (by decide) (by decide) | exact zCt.step (m := 100) hct (by clear hres; grind [f_X5_within, f_X2_has, slot_X1]) (by decide)) hH (lv_sub hl [3, 4, 5, 2, 1, 0] rfl) hres
  refine lv_iload_n hx hb dX5_great_0 rfl (lv_at hl 1 rfl) ?_
  refine lv_iconst (v := (1 : Int32)) hx hb dX5_great_1 (by decide) ?_
  refine lv_sipush (v := (400 : Int32)) hx hb dX5_great_2 (by decide) ?_
  refine zcz (zrunS C0 hH (c_X5_within l D cy ad _ _ _ _) kM_X5_54 kq_X5_within rfl hl.1 rfl rfl rfl ⟨Nat.le_of_ble_eq_true rfl, Nat.le_of_ble_eq_true rfl⟩ (Nat.le_of_ble_eq_true rfl) dX5_great_5) hH (fun H locs hH h01_1 => ?_)
  refine lv_if_eq (tgt := 20) hx hb dX5_great_8 (by decide) (fun c8_3 => ?_) (fun c8_3 => ?_)
  · have hres := zif_pos c8_3 hres
    exact J20 _ _ _ _ hH (lv_sub hl [0] rfl) hres
  · have hres := zif_neg c8_3 hres
    refine lv_iload_n hx hb dX5_great_11 rfl (lv_at hl 2 rfl) ?_
    refine lv_iconst (v := (0 : Int32)) hx hb dX5_great_12 (by decide) ?_
    refine lv_iconst (v := (1 : Int32)) hx hb dX5_great_13 (by decide) ?_
    refine zcz (zrunS C0 hH (c_X5_within l D cy ad _ _ _ _) kM_X5_54 kq_X5_within rfl hl.1 rfl rfl rfl ⟨Nat.le_of_ble_eq_true rfl, Nat.le_of_ble_eq_true rfl⟩ (Nat.le_of_ble_eq_true rfl) dX5_great_14) hH (fun H locs hH h01_4 => ?_)
    refine lv_if_ne (tgt := 27) hx hb dX5_great_17 (by decide) (fun c17_6 => ?_) (fun c17_6 => ?_)
    · have hres := zif_neg c17_6 hres
      refine lv_iconst (v := (0 : Int32)) hx hb dX5_great_27 (by decide) ?_
      refine lv_istore_n (lv' := [(3, _), (0, _), (1, _), (2, _)]) hx hb dX5_great_28 rfl hl (by decide) rfl (fun ls hl => ?_)
      refine lv_iconst (v := (0 : Int32)) hx hb dX5_great_29 (by decide) ?_
      refine lv_istore (lv' := [(4, _), (3, _), (0, _), (1, _), (2, _)]) hx hb dX5_great_30 hl (by decide) rfl (fun ls hl => ?_)
      refine lv_iconst (v := (0 : Int32)) hx hb dX5_great_32 (by decide) ?_
      refine lv_istore (lv' := [(5, _), (4, _), (3, _), (0, _), (1, _), (2, _)]) hx hb dX5_great_33 hl (by decide) rfl (fun ls hl => ?_)
      exact L35 (101) _ _ _ _ _ _ _ (by first | exact zCt.start (by decide) (by decide) | exact zCt.step (m := 100) hct (by clear hres; grind [f_X5_within, f_X2_has, slot_X1]) (by decide)) hH (lv_sub hl [3, 4, 5, 2, 1, 0] rfl) hres
    · have hres := zif_pos c17_6 hres
      exact J20 _ _ _ _ hH (lv_sub hl [0] rfl) hres
set_option maxRecDepth 100000 in
set_option maxHeartbeats 4000000 in
theorem c_X5_noise (l : Launch) (D : va_G) (cy : Nat → ClassId) (ad : Nat → Nat) (M : zM) (p1 : Int32) : Met l yX5_noise (Cond.code yX5_noise cX5_noise 6 (some .long) :: zG) ({ frames := 2, cells := 0, slots := 0, locals := 44 }) (zP D lyC cy ad [.ref (ad 0), .int p1] M) (zQl D lyC cy ad (f_X5_noise p1 M).1 (f_X5_noise p1 M).2) 0 0 (zA lyC ad) := by
  generalize hres : (f_X5_noise p1 M) = res
  refine zMet (by decide) (Nat.le_of_ble_eq_true rfl) ?_
  intro p e s m args below meth c ls C0 hH hl
  obtain ⟨⟨hx, hb, hml, hown, hts⟩, -⟩ := id C0
  have hz : ∀ w ∈ zG, w.before args s = true := fun w h => hts w (List.mem_cons_of_mem _ h)
  have hl : lv_has ls 6 [(0, .ref (ad 0)), (1, .int p1)] := hl
  have L24 : ∀ (n24 : Nat), ∀ (v2 : Int64) (v4 : Int32) (mm : zM) (H : Heap) (locs : List Loc) (ls : Array Slot), (zCt 100 n24 v4) → zH D lyC cy ad s.heap mm H locs → lv_has ls 6 [(0, .ref (ad 0)), (1, .int p1), (2, .long v2), (4, .int v4)] → f_X5_noise_24 p1 n24 v2 v4 mm = res → W p l e { frames := 2, cells := 0, slots := 0, locals := 44 } s m args below meth c H locs 0 0 (MQ below (zQl D lyC cy ad res.1 res.2) args s 0 0 (zA lyC ad)) (F0 m 24 ls []) := by
    intro n24
    induction n24 with
    | zero =>
      intro v2 v4 mm H locs ls hct hH hl hres
      exfalso; exact hct.zero
    | succ n24 ih24 =>
      intro v2 v4 mm H locs ls hct hH hl hres
      have g0 := hH.bkl zBk43
      refine lv_iload hx hb dX5_noise_24 (lv_at hl 3 rfl) ?_
      refine lv_aload_n hx hb dX5_noise_26 rfl (lv_at hl 0 rfl) ?_
      refine zgR C0 hH zK5 3 (by decide) _ zX0 rfl kF_X5_25 dX5_noise_27 ?_
      refine zgIN C0 hH zK1 4 (by decide) zBk43.is rfl kN_X5_139 dX5_noise_30 ?_
      refine lv_icmp_ge (tgt := 85) hx hb dX5_noise_33 (by decide) (fun c33_5 => ?_) (fun c33_5 => ?_)
      · have hres := zif_pos c33_5 hres
        refine lv_lload_n hx hb dX5_noise_85 rfl (lv_at hl 2 rfl) ?_
        exact zretl C0 hH dX5_noise_86 (zfst hres) (zsnd hres)
      · have hres := zif_neg c33_5 hres
        refine lv_aload_n hx hb dX5_noise_36 rfl (lv_at hl 0 rfl) ?_
        refine zgR C0 hH zK5 3 (by decide) _ zX0 rfl kF_X5_25 dX5_noise_37 ?_
        refine lv_iload hx hb dX5_noise_40 (lv_at hl 3 rfl) ?_
        refine zci (zrunV C0 hH (c_X1_slot l D cy ad _ _ zBk43 _) kM_X5_143 zK1 kq_X1_slot zBk43.is rfl hl.1 rfl rfl rfl ⟨Nat.le_of_ble_eq_true rfl, Nat.le_of_ble_eq_true rfl⟩ (Nat.le_of_ble_eq_true rfl) dX5_noise_42) hH (fun H locs hH => ?_)
        refine lv_istore (lv' := [(5, _), (0, _), (1, _), (2, _), (4, _)]) hx hb dX5_noise_45 hl (by decide) rfl (fun ls hl => ?_)
        refine lv_aload_n hx hb dX5_noise_47 rfl (lv_at hl 1 rfl) ?_
        refine zgR C0 hH zK5 3 (by decide) _ zX0 rfl kF_X5_25 dX5_noise_48 ?_
        refine zgRN C0 hH zK1 1 (by decide) _ zBk43.is rfl kN_X5_146 dX5_noise_51 ?_
        refine lv_iload hx hb dX5_noise_54 (lv_at hl 0 rfl) ?_
        refine zald C0 hH zBk43.a2 zBk43.l2 (by exact zin100.mpr (by have q0 := hH.row zRow1; have q1 := hH.bkl zBk43; have q2 := hH.bkn zBk43; obtain ⟨qa, qb, -⟩ := hct; clear hres; grind [f_X5_within, f_X2_has, slot_X1])) dX5_noise_56 ?_
        refine lv_iload_n hx hb dX5_noise_57 rfl (lv_at hl 2 rfl) ?_
        refine lv_ishr hx hb dX5_noise_58 ?_
        refine lv_iconst (v := (1 : Int32)) hx hb dX5_noise_59 (by decide) ?_
        refine lv_iand hx hb dX5_noise_60 ?_
        refine lv_iconst (v := (1 : Int32)) hx hb dX5_noise_61 (by decide) ?_
        refine lv_icmp_ne (tgt := 79) hx hb dX5_noise_62 (by decide) (fun c62_7 => ?_) (fun c62_7 => ?_)
        · have hres := zif_neg c62_7 hres
          refine ziinc (lv' := [(4, _), (5, _), (0, _), (1, _), (2, _)]) (k := 4) hx hb (1 : Int32) (by decide) dX5_noise_79 hl rfl (by decide) rfl (fun ls hl => ?_)
          refine lv_goto (tgt := 24) hx hb dX5_noise_82 (by decide) ?_
          exact ih24 _ _ _ _ _ _ (by first | exact zCt.start (by decide) (by decide) | exact zCt.step (m := 100) hct (by clear hres; grind [f_X5_within, f_X2_has, slot_X1]) (by decide)) hH (lv_sub hl [2, 3, 4, 0] rfl) hres
        · have hres := zif_pos c62_7 hres
          refine lv_lload_n hx hb dX5_noise_65 rfl (lv_at hl 3 rfl) ?_
          refine lv_aload_n hx hb dX5_noise_66 rfl (lv_at hl 1 rfl) ?_
          refine zgR C0 hH zK5 3 (by decide) _ zX0 rfl kF_X5_25 dX5_noise_67 ?_
          refine zgRN C0 hH zK1 2 (by decide) _ zBk43.is rfl kN_X5_149 dX5_noise_70 ?_
          refine lv_iload hx hb dX5_noise_73 (lv_at hl 0 rfl) ?_
          refine zald C0 hH zBk43.a3 zBk43.l3 (by exact zin100.mpr (by have q0 := hH.row zRow1; have q1 := hH.bkl zBk43; have q2 := hH.bkn zBk43; obtain ⟨qa, qb, -⟩ := hct; clear hres; grind [f_X5_within, f_X2_has, slot_X1])) dX5_noise_75 ?_
          refine lv_i2l hx hb dX5_noise_76 rfl ?_
          refine lv_ladd hx hb dX5_noise_77 ?_
          refine lv_lstore_n (lv' := [(2, _), (5, _), (0, _), (1, _), (4, _)]) hx hb dX5_noise_78 rfl hl (by decide) rfl (fun ls hl => ?_)
          refine ziinc (lv' := [(4, _), (2, _), (5, _), (0, _), (1, _)]) (k := 4) hx hb (1 : Int32) (by decide) dX5_noise_79 hl rfl (by decide) rfl (fun ls hl => ?_)
          refine lv_goto (tgt := 24) hx hb dX5_noise_82 (by decide) ?_
          exact ih24 _ _ _ _ _ _ (by first | exact zCt.start (by decide) (by decide) | exact zCt.step (m := 100) hct (by clear hres; grind [f_X5_within, f_X2_has, slot_X1]) (by decide)) hH (lv_sub hl [3, 4, 1, 0] rfl) hres
  refine lv_aload_n hx hb dX5_noise_0 rfl (lv_at hl 0 rfl) ?_
  refine zgR C0 hH zK5 0 (by decide) _ zX0 rfl kF_X5_12 dX5_noise_1 ?_
  refine lv_iload_n hx hb dX5_noise_4 rfl (lv_at hl 1 rfl) ?_
  refine zcz (zrunV C0 hH (c_X2_has l D cy ad _ _ zRow1 _) kM_X5_78 zK2 kq_X2_has zRow1.is rfl hl.1 rfl rfl rfl ⟨Nat.le_of_ble_eq_true rfl, Nat.le_of_ble_eq_true rfl⟩ (Nat.le_of_ble_eq_true rfl) dX5_noise_5) hH (fun H locs hH h01_1 => ?_)
  refine lv_if_ne (tgt := 19) hx hb dX5_noise_8 (by decide) (fun c8_3 => ?_) (fun c8_3 => ?_)
  · have hres := zif_neg c8_3 hres
    refine lv_lconst (v := (0 : Int64)) hx hb dX5_noise_19 (by decide) ?_
    refine lv_lstore_n (lv' := [(2, _), (0, _), (1, _)]) hx hb dX5_noise_20 rfl hl (by decide) rfl (fun ls hl => ?_)
    refine lv_iconst (v := (0 : Int32)) hx hb dX5_noise_21 (by decide) ?_
    refine lv_istore (lv' := [(4, _), (2, _), (0, _), (1, _)]) hx hb dX5_noise_22 hl (by decide) rfl (fun ls hl => ?_)
    exact L24 (101) _ _ _ _ _ _ (by first | exact zCt.start (by decide) (by decide) | exact zCt.step (m := 100) hct (by clear hres; grind [f_X5_within, f_X2_has, slot_X1]) (by decide)) hH (lv_sub hl [2, 3, 1, 0] rfl) hres
  · have hres := zif_pos c8_3 hres
    refine lv_aload_n hx hb dX5_noise_11 rfl (lv_at hl 0 rfl) ?_
    refine lv_ldc (v := (-1000000001 : Int32)) hx hb hown (hz _ kK_X5_58) dX5_noise_12 ?_
    refine zci (zrunV C0 hH (c_X5_finding l D cy ad _ _) kM_X5_59 zK5 kq_X5_finding zX0 rfl hl.1 rfl rfl rfl ⟨Nat.le_of_ble_eq_true rfl, Nat.le_of_ble_eq_true rfl⟩ (Nat.le_of_ble_eq_true rfl) dX5_noise_14) hH (fun H locs hH => ?_)
    refine lv_i2l hx hb dX5_noise_17 rfl ?_
    exact zretl C0 hH dX5_noise_18 (zfst hres) (zsnd hres)
set_option maxRecDepth 100000 in
set_option maxHeartbeats 4000000 in
theorem c_X5_ahead (l : Launch) (D : va_G) (cy : Nat → ClassId) (ad : Nat → Nat) (M : zM) (p1 : Int32) (p2 : Int32) : Met l yX5_ahead (Cond.code yX5_ahead cX5_ahead 7 (some .int) :: zG) ({ frames := 25, cells := 0, slots := 0, locals := 915 }) (zP D lyC cy ad [.ref (ad 0), .int p1, .int p2] M) (zQi D lyC cy ad (f_X5_ahead p1 p2 M).1 (f_X5_ahead p1 p2 M).2) 0 0 (zA lyC ad) := by
  generalize hres : (f_X5_ahead p1 p2 M) = res
  refine zMet (by decide) (Nat.le_of_ble_eq_true rfl) ?_
  intro p e s m args below meth c ls C0 hH hl
  obtain ⟨⟨hx, hb, hml, hown, hts⟩, -⟩ := id C0
  have hz : ∀ w ∈ zG, w.before args s = true := fun w h => hts w (List.mem_cons_of_mem _ h)
  have hl : lv_has ls 7 [(0, .ref (ad 0)), (1, .int p1), (2, .int p2)] := hl
  have g0 := hH.row zRow1
  have J27 : ∀ (mm : zM) (H : Heap) (locs : List Loc) (ls : Array Slot), zH D lyC cy ad s.heap mm H locs → lv_has ls 7 [(0, .ref (ad 0))] → f_X5_ahead_27 p1 p2 mm = res → W p l e { frames := 25, cells := 0, slots := 0, locals := 915 } s m args below meth c H locs 0 0 (MQ below (zQi D lyC cy ad res.1 res.2) args s 0 0 (zA lyC ad)) (F0 m 27 ls []) := by
    intro mm H locs ls hH hl hres
    refine lv_aload_n hx hb dX5_ahead_27 rfl (lv_at hl 0 rfl) ?_
    refine lv_ldc (v := (-1000000001 : Int32)) hx hb hown (hz _ kK_X5_58) dX5_ahead_28 ?_
    refine zci (zrunV C0 hH (c_X5_finding l D cy ad _ _) kM_X5_59 zK5 kq_X5_finding zX0 rfl hl.1 rfl rfl rfl ⟨Nat.le_of_ble_eq_true rfl, Nat.le_of_ble_eq_true rfl⟩ (Nat.le_of_ble_eq_true rfl) dX5_ahead_30) hH (fun H locs hH => ?_)
    exact zreti C0 hH dX5_ahead_33 (zfst hres) (zsnd hres)
  have L56 : ∀ (n56 : Nat), ∀ (v3 : Int32) (v4 : Int32) (v5 : Int32) (v6 : Int32) (mm : zM) (H : Heap) (locs : List Loc) (ls : Array Slot), (zCt 60 n56 v6) → (p1 ≤ 60) → (0 ≤ p2 ∧ p2 ≤ 13) → zH D lyC cy ad s.heap mm H locs → lv_has ls 7 [(0, .ref (ad 0)), (1, .int p1), (2, .int p2), (3, .int v3), (4, .int v4), (5, .int v5), (6, .int v6)] → f_X5_ahead_56 p1 p2 n56 v3 v4 v5 v6 mm = res → W p l e { frames := 25, cells := 0, slots := 0, locals := 915 } s m args below meth c H locs 0 0 (MQ below (zQi D lyC cy ad res.1 res.2) args s 0 0 (zA lyC ad)) (F0 m 56 ls []) := by
    intro n56
    induction n56 with
    | zero =>
      intro v3 v4 v5 v6 mm H locs ls hct hp hq hH hl hres
      exfalso; exact hct.zero
    | succ n56 ih56 =>
      have J85 : ∀ (v4 : Int32) (v5 : Int32) (v6 : Int32) (s0 : Int32) (s1 : Int32) (mm : zM) (H : Heap) (locs : List Loc) (ls : Array Slot), (zCt 60 (n56 + 1) v6) → (v6 < 60) → (p1 ≤ 60) → (0 ≤ p2 ∧ p2 ≤ 13) → zH D lyC cy ad s.heap mm H locs → lv_has ls 7 [(0, .ref (ad 0)), (1, .int p1), (2, .int p2), (4, .int v4), (5, .int v5), (6, .int v6)] → f_X5_ahead_85 p1 p2 (fun wv3 wv4 wv5 wv6 wmm => f_X5_ahead_56 p1 p2 n56 wv3 wv4 wv5 wv6 wmm) v4 v5 v6 s0 s1 mm = res → W p l e { frames := 25, cells := 0, slots := 0, locals := 915 } s m args below meth c H locs 0 0 (MQ below (zQi D lyC cy ad res.1 res.2) args s 0 0 (zA lyC ad)) (F0 m 85 ls [.int s0, .int s1]) := by
        intro v4 v5 v6 s0 s1 mm H locs ls hct hv hp hq hH hl hres
        refine lv_iadd hx hb dX5_ahead_85 ?_
        refine lv_istore_n (lv' := [(3, _), (0, _), (1, _), (2, _), (4, _), (5, _), (6, _)]) hx hb dX5_ahead_86 rfl hl (by decide) rfl (fun ls hl => ?_)
        refine lv_iload hx hb dX5_ahead_87 (lv_at hl 4 rfl) ?_
        refine lv_aload_n hx hb dX5_ahead_89 rfl (lv_at hl 1 rfl) ?_
        refine zgR C0 hH zK5 2 (by decide) _ zX0 rfl kF_X5_19 dX5_ahead_90 ?_
        refine zgIN C0 hH zK2 5 (by decide) zRow29.is rfl kN_X5_136 dX5_ahead_93 ?_
        refine zmax C0 hl.1 kM_X5_159 (by exact Nat.le_of_ble_eq_true rfl) (by exact Nat.le_of_ble_eq_true rfl) dX5_ahead_96 ?_
        refine lv_istore (lv' := [(4, _), (3, _), (0, _), (1, _), (2, _), (5, _), (6, _)]) hx hb dX5_ahead_99 hl (by decide) rfl (fun ls hl => ?_)
        refine lv_iload hx hb dX5_ahead_101 (lv_at hl 5 rfl) ?_
        refine lv_aload_n hx hb dX5_ahead_103 rfl (lv_at hl 2 rfl) ?_
        refine zgR C0 hH zK5 2 (by decide) _ zX0 rfl kF_X5_19 dX5_ahead_104 ?_
        refine zgIN C0 hH zK2 7 (by decide) zRow29.is rfl kN_X5_162 dX5_ahead_107 ?_
        refine lv_iadd hx hb dX5_ahead_110 ?_
        refine lv_istore (lv' := [(5, _), (4, _), (3, _), (0, _), (1, _), (2, _), (6, _)]) hx hb dX5_ahead_111 hl (by decide) rfl (fun ls hl => ?_)
        refine ziinc (lv' := [(6, _), (5, _), (4, _), (3, _), (0, _), (1, _), (2, _)]) (k := 6) hx hb (1 : Int32) (by decide) dX5_ahead_113 hl rfl (by decide) rfl (fun ls hl => ?_)
        refine lv_goto (tgt := 56) hx hb dX5_ahead_116 (by decide) ?_
        exact ih56 _ _ _ _ _ _ _ _ (by first | exact zCt.start (by decide) (by decide) | exact zCt.step (m := 60) hct (by clear hres; grind [f_X5_within, f_X2_has, slot_X1]) (by decide)) (by first | assumption | (clear hres; grind [f_X5_within, f_X2_has])) (by first | assumption | (have q0 := hH.row zRow1; clear hres; grind [f_X5_within, f_X2_has])) hH (lv_sub hl [4, 5, 6, 3, 2, 1, 0] rfl) hres
      intro v3 v4 v5 v6 mm H locs ls hct hp hq hH hl hres
      refine lv_iload hx hb dX5_ahead_56 (lv_at hl 6 rfl) ?_
      refine lv_iload_n hx hb dX5_ahead_58 rfl (lv_at hl 1 rfl) ?_
      refine lv_icmp_ge (tgt := 119) hx hb dX5_ahead_59 (by decide) (fun c59_9 => ?_) (fun c59_9 => ?_)
      · have hres := zif_pos c59_9 hres
        refine lv_iload_n hx hb dX5_ahead_119 rfl (lv_at hl 2 rfl) ?_
        refine zcase hres (fun c120_10_0 hres => ?_) (fun c120_10_0 hres => ?_)
        · refine ztab (tgt := 152) hx hb c120_10_0 dX5_ahead_120 (by decide) (by decide) rfl (by decide) ?_
          refine lv_iload_n hx hb dX5_ahead_152 rfl (lv_at hl 3 rfl) ?_
          exact zreti C0 hH dX5_ahead_153 (zfst hres) (zsnd hres)
        · skip
          refine zcase hres (fun c120_10_1 hres => ?_) (fun c120_10_1 hres => ?_)
          · refine ztab (tgt := 154) hx hb c120_10_1 dX5_ahead_120 (by decide) (by decide) rfl (by decide) ?_
            refine lv_iload_n hx hb dX5_ahead_154 rfl (lv_at hl 3 rfl) ?_
            refine lv_iload_n hx hb dX5_ahead_155 rfl (lv_at hl 1 rfl) ?_
            refine lv_icmp_ne (tgt := 163) hx hb dX5_ahead_156 (by decide) (fun c156_11 => ?_) (fun c156_11 => ?_)
            · have hres := zif_neg c156_11 hres
              refine lv_iconst (v := (0 : Int32)) hx hb dX5_ahead_163 (by decide) ?_
              exact zreti C0 hH dX5_ahead_164 (zfst hres) (zsnd hres)
            · have hres := zif_pos c156_11 hres
              refine lv_iconst (v := (1 : Int32)) hx hb dX5_ahead_159 (by decide) ?_
              refine lv_goto (tgt := 164) hx hb dX5_ahead_160 (by decide) ?_
              exact zreti C0 hH dX5_ahead_164 (zfst hres) (zsnd hres)
          · skip
            refine zcase hres (fun c120_10_2 hres => ?_) (fun c120_10_2 hres => ?_)
            · refine ztab (tgt := 165) hx hb c120_10_2 dX5_ahead_120 (by decide) (by decide) rfl (by decide) ?_
              refine lv_iload hx hb dX5_ahead_165 (lv_at hl 4 rfl) ?_
              exact zreti C0 hH dX5_ahead_167 (zfst hres) (zsnd hres)
            · skip
              refine zcase hres (fun c120_10_3 hres => ?_) (fun c120_10_3 hres => ?_)
              · refine ztab (tgt := 168) hx hb c120_10_3 dX5_ahead_120 (by decide) (by decide) rfl (by decide) ?_
                refine lv_iload hx hb dX5_ahead_168 (lv_at hl 5 rfl) ?_
                exact zreti C0 hH dX5_ahead_170 (zfst hres) (zsnd hres)
              · skip
                refine ztabD (tgt := 171) hx hb [(0 : Int32), (1 : Int32), (2 : Int32), (3 : Int32)] (List.forall_mem_cons.mpr ⟨c120_10_0, (List.forall_mem_cons.mpr ⟨c120_10_1, (List.forall_mem_cons.mpr ⟨c120_10_2, (List.forall_mem_cons.mpr ⟨c120_10_3, (fun _ h => absurd h List.not_mem_nil)⟩)⟩)⟩)⟩) dX5_ahead_120 (by decide) (by decide) (by decide) ?_
                refine lv_aload_n hx hb dX5_ahead_171 rfl (lv_at hl 0 rfl) ?_
                refine zgR C0 hH zK5 2 (by decide) _ zX0 rfl kF_X5_19 dX5_ahead_172 ?_
                refine zgRN C0 hH zK2 0 (by decide) _ zRow29.is rfl kN_X5_68 dX5_ahead_175 ?_
                refine lv_iload_n hx hb dX5_ahead_178 rfl (lv_at hl 2 rfl) ?_
                refine lv_iconst (v := (4 : Int32)) hx hb dX5_ahead_179 (by decide) ?_
                refine lv_isub hx hb dX5_ahead_180 ?_
                refine zqldB C0 hH zRow29 (by exact zin10.mpr (by have q0 := hH.row zRow1; have q1 := hH.bkl zBk43; have q2 := hH.bkn zBk43; obtain ⟨qa, qb, -⟩ := hct; clear hres; grind [f_X5_within, f_X2_has, slot_X1])) dX5_ahead_181 (fun hb12 => ?_)
                refine zgIN C0 hH zK0 5 (by decide) hb12 rfl kN_X5_97 dX5_ahead_182 ?_
                exact zreti C0 hH dX5_ahead_185 (zfst hres) (zsnd hres)
      · have hres := zif_neg c59_9 hres
        refine lv_aload_n hx hb dX5_ahead_62 rfl (lv_at hl 0 rfl) ?_
        refine zgR C0 hH zK5 2 (by decide) _ zX0 rfl kF_X5_19 dX5_ahead_63 ?_
        refine zcv (zrunV C0 hH (c_X2_tick l D cy ad _ _ zRow29) kM_X5_129 zK2 kq_X2_tick zRow29.is rfl hl.1 rfl rfl rfl ⟨Nat.le_of_ble_eq_true rfl, Nat.le_of_ble_eq_true rfl⟩ (Nat.le_of_ble_eq_true rfl) dX5_ahead_66) hH (fun H locs hH => ?_)
        refine lv_iload_n hx hb dX5_ahead_69 rfl (lv_at hl 3 rfl) ?_
        refine lv_aload_n hx hb dX5_ahead_70 rfl (lv_at hl 0 rfl) ?_
        refine zgR C0 hH zK5 2 (by decide) _ zX0 rfl kF_X5_19 dX5_ahead_71 ?_
        refine zgIN C0 hH zK2 5 (by decide) zRow29.is rfl kN_X5_136 dX5_ahead_74 ?_
        refine lv_if_le (tgt := 84) hx hb dX5_ahead_77 (by decide) (fun c77_14 => ?_) (fun c77_14 => ?_)
        · have hres := zif_pos c77_14 hres
          refine lv_iconst (v := (0 : Int32)) hx hb dX5_ahead_84 (by decide) ?_
          exact J85 _ _ _ _ _ _ _ _ _ (by assumption) (by first | assumption | (clear hres; grind [f_X5_within, f_X2_has, slot_X1])) (by assumption) (by assumption) hH (lv_sub hl [0, 1, 2, 4, 5, 6] rfl) hres
        · have hres := zif_neg c77_14 hres
          refine lv_iconst (v := (1 : Int32)) hx hb dX5_ahead_80 (by decide) ?_
          refine lv_goto (tgt := 85) hx hb dX5_ahead_81 (by decide) ?_
          exact J85 _ _ _ _ _ _ _ _ _ (by assumption) (by first | assumption | (clear hres; grind [f_X5_within, f_X2_has, slot_X1])) (by assumption) (by assumption) hH (lv_sub hl [0, 1, 2, 4, 5, 6] rfl) hres
  refine lv_iload_n hx hb dX5_ahead_0 rfl (lv_at hl 1 rfl) ?_
  refine lv_iconst (v := (1 : Int32)) hx hb dX5_ahead_1 (by decide) ?_
  refine lv_bipush (v := (60 : Int32)) hx hb dX5_ahead_2 (by decide) ?_
  refine zcz (zrunS C0 hH (c_X5_within l D cy ad _ _ _ _) kM_X5_54 kq_X5_within rfl hl.1 rfl rfl rfl ⟨Nat.le_of_ble_eq_true rfl, Nat.le_of_ble_eq_true rfl⟩ (Nat.le_of_ble_eq_true rfl) dX5_ahead_4) hH (fun H locs hH h01_1 => ?_)
  refine lv_if_eq (tgt := 27) hx hb dX5_ahead_7 (by decide) (fun c7_3 => ?_) (fun c7_3 => ?_)
  · have hres := zif_pos c7_3 hres
    exact J27 _ _ _ _ hH (lv_sub hl [0] rfl) hres
  · have hres := zif_neg c7_3 hres
    refine lv_iload_n hx hb dX5_ahead_10 rfl (lv_at hl 2 rfl) ?_
    refine lv_iconst (v := (0 : Int32)) hx hb dX5_ahead_11 (by decide) ?_
    refine lv_iconst (v := (3 : Int32)) hx hb dX5_ahead_12 (by decide) ?_
    refine lv_aload_n hx hb dX5_ahead_13 rfl (lv_at hl 0 rfl) ?_
    refine zgR C0 hH zK5 0 (by decide) _ zX0 rfl kF_X5_12 dX5_ahead_14 ?_
    refine zgIN C0 hH zK2 1 (by decide) zRow1.is rfl kN_X5_63 dX5_ahead_17 ?_
    refine lv_iadd hx hb dX5_ahead_20 ?_
    refine zcz (zrunS C0 hH (c_X5_within l D cy ad _ _ _ _) kM_X5_54 kq_X5_within rfl hl.1 rfl rfl rfl ⟨Nat.le_of_ble_eq_true rfl, Nat.le_of_ble_eq_true rfl⟩ (Nat.le_of_ble_eq_true rfl) dX5_ahead_21) hH (fun H locs hH h01_4 => ?_)
    refine lv_if_ne (tgt := 34) hx hb dX5_ahead_24 (by decide) (fun c24_6 => ?_) (fun c24_6 => ?_)
    · have hres := zif_neg c24_6 hres
      refine lv_iconst (v := (0 : Int32)) hx hb dX5_ahead_34 (by decide) ?_
      refine lv_istore_n (lv' := [(3, _), (0, _), (1, _), (2, _)]) hx hb dX5_ahead_35 rfl hl (by decide) rfl (fun ls hl => ?_)
      refine lv_iconst (v := (0 : Int32)) hx hb dX5_ahead_36 (by decide) ?_
      refine lv_istore (lv' := [(4, _), (3, _), (0, _), (1, _), (2, _)]) hx hb dX5_ahead_37 hl (by decide) rfl (fun ls hl => ?_)
      refine lv_iconst (v := (0 : Int32)) hx hb dX5_ahead_39 (by decide) ?_
      refine lv_istore (lv' := [(5, _), (4, _), (3, _), (0, _), (1, _), (2, _)]) hx hb dX5_ahead_40 hl (by decide) rfl (fun ls hl => ?_)
      refine lv_aload_n hx hb dX5_ahead_42 rfl (lv_at hl 3 rfl) ?_
      refine zgR C0 hH zK5 2 (by decide) _ zX0 rfl kF_X5_19 dX5_ahead_43 ?_
      refine lv_aload_n hx hb dX5_ahead_46 rfl (lv_at hl 3 rfl) ?_
      refine zgR C0 hH zK5 0 (by decide) _ zX0 rfl kF_X5_12 dX5_ahead_47 ?_
      refine zcv (zrunV C0 hH (c_X2_copyFrom l D cy ad _ _ zRow29 _ zRow1) kM_X5_156 zK2 kq_X2_copyFrom zRow29.is rfl hl.1 rfl rfl rfl ⟨Nat.le_of_ble_eq_true rfl, Nat.le_of_ble_eq_true rfl⟩ (Nat.le_of_ble_eq_true rfl) dX5_ahead_50) hH (fun H locs hH => ?_)
      refine lv_iconst (v := (0 : Int32)) hx hb dX5_ahead_53 (by decide) ?_
      refine lv_istore (lv' := [(6, _), (5, _), (4, _), (3, _), (0, _), (1, _), (2, _)]) hx hb dX5_ahead_54 hl (by decide) rfl (fun ls hl => ?_)
      exact L56 (61) _ _ _ _ _ _ _ _ (by first | exact zCt.start (by decide) (by decide) | exact zCt.step (m := 60) hct (by clear hres; grind [f_X5_within, f_X2_has, slot_X1]) (by decide)) (by first | assumption | (clear hres; grind [f_X5_within, f_X2_has])) (by first | assumption | (have q0 := hH.row zRow1; clear hres; grind [f_X5_within, f_X2_has])) hH (lv_sub hl [4, 5, 6, 3, 2, 1, 0] rfl) hres
    · have hres := zif_pos c24_6 hres
      exact J27 _ _ _ _ hH (lv_sub hl [0] rfl) hres
