set_option maxRecDepth 100000 in
set_option maxHeartbeats 4000000 in
theorem c_X0_begin (l : Launch) (D : va_G) (cy : Nat → ClassId) (ad : Nat → Nat) (M : zM) (a0 : Nat) (ha0 : zBl a0) (p1 : Int32) (p2 : Int32) (p3 : Int32) (p4 : Int32) : Met l yX0_begin (Cond.code yX0_begin cX0_begin 5 none :: zG) ({ frames := 0, cells := 0, slots := 0, locals := 0 }) (zP D lyC cy ad [.ref (ad a0), .int p1, .int p2, .int p3, .int p4] M) (zQv D lyC cy ad (f_X0_begin a0 p1 p2 p3 p4 M)) 0 0 (zA lyC ad) := by
  generalize hres : (f_X0_begin a0 p1 p2 p3 p4 M) = res
  refine zMet (by decide) (Nat.le_of_ble_eq_true rfl) ?_
  intro p e s m args below meth c ls C0 hH hl
  obtain ⟨⟨hx, hb, hml, hown, hts⟩, -⟩ := id C0
  have hz : ∀ w ∈ zG, w.before args s = true := fun w h => hts w (List.mem_cons_of_mem _ h)
  have hl : lv_has ls 5 [(0, .ref (ad a0)), (1, .int p1), (2, .int p2), (3, .int p3), (4, .int p4)] := hl
  refine lv_aload_n hx hb dX0_begin_0 rfl (lv_at hl 0 rfl) ?_
  refine lv_iload_n hx hb dX0_begin_1 rfl (lv_at hl 1 rfl) ?_
  refine zp C0 hH zK0 0 (by decide) ha0 rfl rfl zOk_int zcn kF_X0_9 dX0_begin_2 (fun H locs hH => ?_)
  refine lv_aload_n hx hb dX0_begin_5 rfl (lv_at hl 0 rfl) ?_
  refine lv_iload_n hx hb dX0_begin_6 rfl (lv_at hl 2 rfl) ?_
  refine zp C0 hH zK0 1 (by decide) ha0 rfl rfl zOk_int zcn kF_X0_15 dX0_begin_7 (fun H locs hH => ?_)
  refine lv_aload_n hx hb dX0_begin_10 rfl (lv_at hl 0 rfl) ?_
  refine lv_iload_n hx hb dX0_begin_11 rfl (lv_at hl 3 rfl) ?_
  refine zp C0 hH zK0 2 (by decide) ha0 rfl rfl zOk_int zcn kF_X0_18 dX0_begin_12 (fun H locs hH => ?_)
  refine lv_aload_n hx hb dX0_begin_15 rfl (lv_at hl 0 rfl) ?_
  refine lv_iload hx hb dX0_begin_16 (lv_at hl 4 rfl) ?_
  refine zp C0 hH zK0 3 (by decide) ha0 rfl rfl zOk_int zcn kF_X0_21 dX0_begin_18 (fun H locs hH => ?_)
  refine lv_aload_n hx hb dX0_begin_21 rfl (lv_at hl 0 rfl) ?_
  refine lv_iconst (v := (0 : Int32)) hx hb dX0_begin_22 (by decide) ?_
  refine zp C0 hH zK0 4 (by decide) ha0 rfl rfl zOk_int zcn kF_X0_24 dX0_begin_23 (fun H locs hH => ?_)
  refine lv_aload_n hx hb dX0_begin_26 rfl (lv_at hl 0 rfl) ?_
  refine lv_iconst (v := (0 : Int32)) hx hb dX0_begin_27 (by decide) ?_
  refine zp C0 hH zK0 5 (by decide) ha0 rfl rfl zOk_int zcn kF_X0_27 dX0_begin_28 (fun H locs hH => ?_)
  refine lv_aload_n hx hb dX0_begin_31 rfl (lv_at hl 0 rfl) ?_
  refine lv_iconst (v := (0 : Int32)) hx hb dX0_begin_32 (by decide) ?_
  refine zp C0 hH zK0 6 (by decide) ha0 rfl rfl zOk_int zcn kF_X0_30 dX0_begin_33 (fun H locs hH => ?_)
  exact zretv C0 hH dX0_begin_36 hres
set_option maxRecDepth 100000 in
set_option maxHeartbeats 4000000 in
theorem c_X2_has (l : Launch) (D : va_G) (cy : Nat → ClassId) (ad : Nat → Nat) (M : zM) (a0 : Nat) (ha0 : zRow a0) (p1 : Int32) : Met l yX2_has (Cond.code yX2_has cX2_has 2 (some .boolean) :: zG) ({ frames := 0, cells := 0, slots := 0, locals := 0 }) (zP D lyC cy ad [.ref (ad a0), .int p1] M) (zQz D lyC cy ad (f_X2_has a0 p1 M) M) 0 0 (zA lyC ad) := by
  generalize hres : (f_X2_has a0 p1 M) = res
  refine zMet (by decide) (Nat.le_of_ble_eq_true rfl) ?_
  intro p e s m args below meth c ls C0 hH hl
  obtain ⟨⟨hx, hb, hml, hown, hts⟩, -⟩ := id C0
  have hz : ∀ w ∈ zG, w.before args s = true := fun w h => hts w (List.mem_cons_of_mem _ h)
  have hl : lv_has ls 2 [(0, .ref (ad a0)), (1, .int p1)] := hl
  refine lv_iload_n hx hb dX2_has_0 rfl (lv_at hl 1 rfl) ?_
  refine lv_if_lt (tgt := 16) hx hb dX2_has_1 (by decide) (fun c1_1 => ?_) (fun c1_1 => ?_)
  · have hres := zif_pos c1_1 hres
    refine lv_iconst (v := (0 : Int32)) hx hb dX2_has_16 (by decide) ?_
    exact zretz C0 hH dX2_has_17 (by first | exact Or.inl rfl | exact Or.inr rfl | assumption) hres rfl
  · have hres := zif_neg c1_1 hres
    refine lv_iload_n hx hb dX2_has_4 rfl (lv_at hl 1 rfl) ?_
    refine lv_aload_n hx hb dX2_has_5 rfl (lv_at hl 0 rfl) ?_
    refine zgI C0 hH zK2 1 (by decide) ha0.is rfl kF_X2_17 dX2_has_6 ?_
    refine lv_icmp_ge (tgt := 16) hx hb dX2_has_9 (by decide) (fun c9_2 => ?_) (fun c9_2 => ?_)
    · have hres := zif_pos c9_2 hres
      refine lv_iconst (v := (0 : Int32)) hx hb dX2_has_16 (by decide) ?_
      exact zretz C0 hH dX2_has_17 (by first | exact Or.inl rfl | exact Or.inr rfl | assumption) hres rfl
    · have hres := zif_neg c9_2 hres
      refine lv_iconst (v := (1 : Int32)) hx hb dX2_has_12 (by decide) ?_
      refine lv_goto (tgt := 17) hx hb dX2_has_13 (by decide) ?_
      exact zretz C0 hH dX2_has_17 (by first | exact Or.inl rfl | exact Or.inr rfl | assumption) hres rfl
set_option maxRecDepth 100000 in
set_option maxHeartbeats 4000000 in
theorem c_X2_pullOf (l : Launch) (D : va_G) (cy : Nat → ClassId) (ad : Nat → Nat) (M : zM) (a0 : Nat) (ha0 : zRow a0) (p1 : Int32) (hb : 0 ≤ p1 ∧ p1 < 10) : Met l yX2_pullOf (Cond.code yX2_pullOf cX2_pullOf 6 (some .int) :: zG) ({ frames := 0, cells := 0, slots := 0, locals := 0 }) (zP D lyC cy ad [.ref (ad a0), .int p1] M) (zQi D lyC cy ad (f_X2_pullOf a0 p1 M) M) 0 0 (zA lyC ad) := by
  generalize hres : (f_X2_pullOf a0 p1 M) = res
  refine zMet (by decide) (Nat.le_of_ble_eq_true rfl) ?_
  intro p e s m args below meth c ls C0 hH hl
  obtain ⟨⟨hx, hb, hml, hown, hts⟩, -⟩ := id C0
  have hz : ∀ w ∈ zG, w.before args s = true := fun w h => hts w (List.mem_cons_of_mem _ h)
  have hl : lv_has ls 6 [(0, .ref (ad a0)), (1, .int p1)] := hl
  have J29 : ∀ (c2 : Nat) (s0 : Int32) (hc2 : zBl c2) (H : Heap) (locs : List Loc) (ls : Array Slot), zH D lyC cy ad s.heap M H locs → lv_has ls 6 [(0, .ref (ad a0)), (1, .int p1), (2, .ref (ad c2))] → f_X2_pullOf_29 a0 p1 M c2 s0 = res → W p l e { frames := 0, cells := 0, slots := 0, locals := 0 } s m args below meth c H locs 0 0 (MQ below (zQi D lyC cy ad res M) args s 0 0 (zA lyC ad)) (F0 m 29 ls [.int s0]) := by
    intro c2 s0 hc2 H locs ls hH hl hres
    refine lv_istore_n (lv' := [(3, _), (0, _), (1, _), (2, _)]) hx hb dX2_pullOf_29 rfl hl (by decide) rfl (fun ls hl => ?_)
    refine lv_aload_n hx hb dX2_pullOf_30 rfl (lv_at hl 3 rfl) ?_
    refine zgIN C0 hH zK0 3 (by decide) hc2 rfl kN_X2_58 dX2_pullOf_31 ?_
    refine lv_iload_n hx hb dX2_pullOf_34 rfl (lv_at hl 0 rfl) ?_
    refine lv_aload_n hx hb dX2_pullOf_35 rfl (lv_at hl 3 rfl) ?_
    refine zgIN C0 hH zK0 5 (by decide) hc2 rfl kN_X2_55 dX2_pullOf_36 ?_
    refine lv_isub hx hb dX2_pullOf_39 ?_
    refine lv_imul hx hb dX2_pullOf_40 ?_
    refine lv_istore (lv' := [(4, _), (3, _), (0, _), (1, _), (2, _)]) hx hb dX2_pullOf_41 hl (by decide) rfl (fun ls hl => ?_)
    refine lv_iload_n hx hb dX2_pullOf_43 rfl (lv_at hl 3 rfl) ?_
    refine lv_iconst (v := (1 : Int32)) hx hb dX2_pullOf_44 (by decide) ?_
    refine lv_iadd hx hb dX2_pullOf_45 ?_
    refine lv_aload_n hx hb dX2_pullOf_46 rfl (lv_at hl 2 rfl) ?_
    refine zgI C0 hH zK2 1 (by decide) ha0.is rfl kF_X2_17 dX2_pullOf_47 ?_
    refine lv_icmp_ge (tgt := 84) hx hb dX2_pullOf_50 (by decide) (fun c50_5 => ?_) (fun c50_5 => ?_)
    · have hres := zif_pos c50_5 hres
      refine lv_iload hx hb dX2_pullOf_84 (lv_at hl 0 rfl) ?_
      exact zreti C0 hH dX2_pullOf_86 hres rfl
    · have hres := zif_neg c50_5 hres
      refine lv_aload_n hx hb dX2_pullOf_53 rfl (lv_at hl 2 rfl) ?_
      refine zgR C0 hH zK2 0 (by decide) _ ha0.is rfl kF_X2_11 dX2_pullOf_54 ?_
      refine lv_iload_n hx hb dX2_pullOf_57 rfl (lv_at hl 3 rfl) ?_
      refine lv_iconst (v := (1 : Int32)) hx hb dX2_pullOf_58 (by decide) ?_
      refine lv_iadd hx hb dX2_pullOf_59 ?_
      refine zqldB C0 hH ha0 (by exact zin10.mpr (by have q0 := hH.row ha0; clear hres; grind [f_X5_within, f_X2_has])) dX2_pullOf_60 (fun hb6 => ?_)
      refine lv_astore (lv' := [(5, _), (4, _), (3, _), (0, _), (1, _), (2, _)]) hx hb dX2_pullOf_61 hl (by decide) rfl (fun ls hl => ?_)
      refine lv_iload hx hb dX2_pullOf_63 (lv_at hl 1 rfl) ?_
      refine lv_aload hx hb dX2_pullOf_65 (lv_at hl 0 rfl) ?_
      refine zgIN C0 hH zK0 3 (by decide) hb6 rfl kN_X2_58 dX2_pullOf_67 ?_
      refine lv_aload_n hx hb dX2_pullOf_70 rfl (lv_at hl 5 rfl) ?_
      refine zgIN C0 hH zK0 5 (by decide) hc2 rfl kN_X2_55 dX2_pullOf_71 ?_
      refine lv_aload hx hb dX2_pullOf_74 (lv_at hl 0 rfl) ?_
      refine zgIN C0 hH zK0 5 (by decide) hb6 rfl kN_X2_55 dX2_pullOf_76 ?_
      refine lv_isub hx hb dX2_pullOf_79 ?_
      refine lv_imul hx hb dX2_pullOf_80 ?_
      refine lv_isub hx hb dX2_pullOf_81 ?_
      refine lv_istore (lv' := [(4, _), (5, _), (3, _), (0, _), (1, _), (2, _)]) hx hb dX2_pullOf_82 hl (by decide) rfl (fun ls hl => ?_)
      refine lv_iload hx hb dX2_pullOf_84 (lv_at hl 0 rfl) ?_
      exact zreti C0 hH dX2_pullOf_86 hres rfl
  refine lv_aload_n hx hb dX2_pullOf_0 rfl (lv_at hl 0 rfl) ?_
  refine zgR C0 hH zK2 0 (by decide) _ ha0.is rfl kF_X2_11 dX2_pullOf_1 ?_
  refine lv_iload_n hx hb dX2_pullOf_4 rfl (lv_at hl 1 rfl) ?_
  refine zqldB C0 hH ha0 (by exact zin10.mpr (by have q0 := hH.row ha0; clear hres; grind [f_X5_within, f_X2_has])) dX2_pullOf_5 (fun hb1 => ?_)
  refine lv_astore_n (lv' := [(2, _), (0, _), (1, _)]) hx hb dX2_pullOf_6 rfl hl (by decide) rfl (fun ls hl => ?_)
  refine lv_iload_n hx hb dX2_pullOf_7 rfl (lv_at hl 2 rfl) ?_
  refine lv_if_ne (tgt := 18) hx hb dX2_pullOf_8 (by decide) (fun c8_2 => ?_) (fun c8_2 => ?_)
  · have hres := zif_neg c8_2 hres
    refine lv_aload_n hx hb dX2_pullOf_18 rfl (lv_at hl 1 rfl) ?_
    refine zgR C0 hH zK2 0 (by decide) _ ha0.is rfl kF_X2_11 dX2_pullOf_19 ?_
    refine lv_iload_n hx hb dX2_pullOf_22 rfl (lv_at hl 2 rfl) ?_
    refine lv_iconst (v := (1 : Int32)) hx hb dX2_pullOf_23 (by decide) ?_
    refine lv_isub hx hb dX2_pullOf_24 ?_
    refine zqldB C0 hH ha0 (by exact zin10.mpr (by have q0 := hH.row ha0; clear hres; grind [f_X5_within, f_X2_has])) dX2_pullOf_25 (fun hb3 => ?_)
    refine zgIN C0 hH zK0 5 (by decide) hb3 rfl kN_X2_55 dX2_pullOf_26 ?_
    exact J29 _ _ hb1 _ _ _ hH (lv_sub hl [1, 2, 0] rfl) hres
  · have hres := zif_pos c8_2 hres
    refine lv_aload_n hx hb dX2_pullOf_11 rfl (lv_at hl 1 rfl) ?_
    refine zgI C0 hH zK2 2 (by decide) ha0.is rfl kF_X2_21 dX2_pullOf_12 ?_
    refine lv_goto (tgt := 29) hx hb dX2_pullOf_15 (by decide) ?_
    exact J29 _ _ hb1 _ _ _ hH (lv_sub hl [1, 2, 0] rfl) hres
set_option maxRecDepth 100000 in
set_option maxHeartbeats 4000000 in
theorem c_X0_plainHolds (l : Launch) (D : va_G) (cy : Nat → ClassId) (ad : Nat → Nat) (M : zM) (a0 : Nat) (ha0 : zBl a0) (p1 : Int32) : Met l yX0_plainHolds (Cond.code yX0_plainHolds cX0_plainHolds 2 (some .int) :: zG) ({ frames := 1, cells := 0, slots := 0, locals := 28 }) (zP D lyC cy ad [.ref (ad a0), .int p1] M) (zQi D lyC cy ad (f_X0_plainHolds a0 p1 M) M) 0 0 (zA lyC ad) := by
  generalize hres : (f_X0_plainHolds a0 p1 M) = res
  refine zMet (by decide) (Nat.le_of_ble_eq_true rfl) ?_
  intro p e s m args below meth c ls C0 hH hl
  obtain ⟨⟨hx, hb, hml, hown, hts⟩, -⟩ := id C0
  have hz : ∀ w ∈ zG, w.before args s = true := fun w h => hts w (List.mem_cons_of_mem _ h)
  have hl : lv_has ls 2 [(0, .ref (ad a0)), (1, .int p1)] := hl
  refine lv_aload_n hx hb dX0_plainHolds_0 rfl (lv_at hl 0 rfl) ?_
  refine zgI C0 hH zK0 1 (by decide) ha0 rfl kF_X0_15 dX0_plainHolds_1 ?_
  refine lv_bipush (v := (50 : Int32)) hx hb dX0_plainHolds_4 (by decide) ?_
  refine lv_iload_n hx hb dX0_plainHolds_6 rfl (lv_at hl 1 rfl) ?_
  refine lv_iconst (v := (4 : Int32)) hx hb dX0_plainHolds_7 (by decide) ?_
  refine lv_idiv hx hb dX0_plainHolds_8 (by first | assumption | decide) ?_
  refine zmin C0 hl.1 kM_X0_33 (by exact Nat.le_of_ble_eq_true rfl) (by exact Nat.le_of_ble_eq_true rfl) dX0_plainHolds_9 ?_
  refine lv_iadd hx hb dX0_plainHolds_12 ?_
  exact zreti C0 hH dX0_plainHolds_13 hres rfl
set_option maxRecDepth 100000 in
set_option maxHeartbeats 4000000 in
theorem c_X0_rustyHolds (l : Launch) (D : va_G) (cy : Nat → ClassId) (ad : Nat → Nat) (M : zM) (a0 : Nat) (ha0 : zBl a0) (p1 : Int32) : Met l yX0_rustyHolds (Cond.code yX0_rustyHolds cX0_rustyHolds 2 (some .int) :: zG) ({ frames := 2, cells := 0, slots := 0, locals := 49 }) (zP D lyC cy ad [.ref (ad a0), .int p1] M) (zQi D lyC cy ad (f_X0_rustyHolds a0 p1 M) M) 0 0 (zA lyC ad) := by
  generalize hres : (f_X0_rustyHolds a0 p1 M) = res
  refine zMet (by decide) (Nat.le_of_ble_eq_true rfl) ?_
  intro p e s m args below meth c ls C0 hH hl
  obtain ⟨⟨hx, hb, hml, hown, hts⟩, -⟩ := id C0
  have hz : ∀ w ∈ zG, w.before args s = true := fun w h => hts w (List.mem_cons_of_mem _ h)
  have hl : lv_has ls 2 [(0, .ref (ad a0)), (1, .int p1)] := hl
  refine lv_aload_n hx hb dX0_rustyHolds_0 rfl (lv_at hl 0 rfl) ?_
  refine lv_iload_n hx hb dX0_rustyHolds_1 rfl (lv_at hl 1 rfl) ?_
  refine zci (zrunV C0 hH (c_X0_plainHolds l D cy ad _ _ ha0 _) kM_X0_39 zK0 kq_X0_plainHolds ha0 rfl hl.1 rfl rfl rfl ⟨Nat.le_of_ble_eq_true rfl, Nat.le_of_ble_eq_true rfl⟩ (Nat.le_of_ble_eq_true rfl) dX0_rustyHolds_2) hH (fun H locs hH => ?_)
  refine lv_iload_n hx hb dX0_rustyHolds_5 rfl (lv_at hl 1 rfl) ?_
  refine lv_iadd hx hb dX0_rustyHolds_6 ?_
  exact zreti C0 hH dX0_rustyHolds_7 hres rfl
set_option maxRecDepth 100000 in
set_option maxHeartbeats 4000000 in
theorem c_X0_oiledHolds (l : Launch) (D : va_G) (cy : Nat → ClassId) (ad : Nat → Nat) (M : zM) (a0 : Nat) (ha0 : zBl a0) (p1 : Int32) : Met l yX0_oiledHolds (Cond.code yX0_oiledHolds cX0_oiledHolds 2 (some .int) :: zG) ({ frames := 2, cells := 0, slots := 0, locals := 49 }) (zP D lyC cy ad [.ref (ad a0), .int p1] M) (zQi D lyC cy ad (f_X0_oiledHolds a0 p1 M) M) 0 0 (zA lyC ad) := by
  generalize hres : (f_X0_oiledHolds a0 p1 M) = res
  refine zMet (by decide) (Nat.le_of_ble_eq_true rfl) ?_
  intro p e s m args below meth c ls C0 hH hl
  obtain ⟨⟨hx, hb, hml, hown, hts⟩, -⟩ := id C0
  have hz : ∀ w ∈ zG, w.before args s = true := fun w h => hts w (List.mem_cons_of_mem _ h)
  have hl : lv_has ls 2 [(0, .ref (ad a0)), (1, .int p1)] := hl
  refine lv_iconst (v := (0 : Int32)) hx hb dX0_oiledHolds_0 (by decide) ?_
  refine lv_aload_n hx hb dX0_oiledHolds_1 rfl (lv_at hl 0 rfl) ?_
  refine lv_iload_n hx hb dX0_oiledHolds_2 rfl (lv_at hl 1 rfl) ?_
  refine zci (zrunV C0 hH (c_X0_plainHolds l D cy ad _ _ ha0 _) kM_X0_39 zK0 kq_X0_plainHolds ha0 rfl hl.1 rfl rfl rfl ⟨Nat.le_of_ble_eq_true rfl, Nat.le_of_ble_eq_true rfl⟩ (Nat.le_of_ble_eq_true rfl) dX0_oiledHolds_3) hH (fun H locs hH => ?_)
  refine lv_iconst (v := (2 : Int32)) hx hb dX0_oiledHolds_6 (by decide) ?_
  refine lv_idiv hx hb dX0_oiledHolds_7 (by first | assumption | decide) ?_
  refine lv_aload_n hx hb dX0_oiledHolds_8 rfl (lv_at hl 0 rfl) ?_
  refine zgI C0 hH zK0 4 (by decide) ha0 rfl kF_X0_24 dX0_oiledHolds_9 ?_
  refine lv_isub hx hb dX0_oiledHolds_12 ?_
  refine zmax C0 hl.1 kM_X0_43 (by exact Nat.le_of_ble_eq_true rfl) (by exact Nat.le_of_ble_eq_true rfl) dX0_oiledHolds_13 ?_
  exact zreti C0 hH dX0_oiledHolds_16 hres rfl
set_option maxRecDepth 100000 in
set_option maxHeartbeats 4000000 in
theorem c_X4_pass (l : Launch) (D : va_G) (cy : Nat → ClassId) (ad : Nat → Nat) (M : zM) (a0 : Nat) (ha0 : zTxt a0) (p1 : Int32) : Met l yX4_pass (Cond.code yX4_pass cX4_pass 2 none :: zG) ({ frames := 0, cells := 0, slots := 0, locals := 0 }) (zP D lyC cy ad [.ref (ad a0), .int p1] M) (zQv D lyC cy ad (f_X4_pass a0 p1 M)) 0 0 (zA lyC ad) := by
  generalize hres : (f_X4_pass a0 p1 M) = res
  refine zMet (by decide) (Nat.le_of_ble_eq_true rfl) ?_
  intro p e s m args below meth c ls C0 hH hl
  obtain ⟨⟨hx, hb, hml, hown, hts⟩, -⟩ := id C0
  have hz : ∀ w ∈ zG, w.before args s = true := fun w h => hts w (List.mem_cons_of_mem _ h)
  have hl : lv_has ls 2 [(0, .ref (ad a0)), (1, .int p1)] := hl
  have J54 : ∀ (mm : zM) (H : Heap) (locs : List Loc) (ls : Array Slot), zH D lyC cy ad s.heap mm H locs → lv_has ls 2 [(0, .ref (ad a0))] → f_X4_pass_54 a0 p1 mm = res → W p l e { frames := 0, cells := 0, slots := 0, locals := 0 } s m args below meth c H locs 0 0 (MQ below (zQv D lyC cy ad res) args s 0 0 (zA lyC ad)) (F0 m 54 ls []) := by
    intro mm H locs ls hH hl hres
    refine lv_aload_n hx hb dX4_pass_54 rfl (lv_at hl 0 rfl) ?_
    refine lv_aload_n hx hb dX4_pass_55 rfl (lv_at hl 0 rfl) ?_
    refine zgI C0 hH zK4 4 (by decide) ha0.is rfl kF_X4_32 dX4_pass_56 ?_
    refine lv_if_ge (tgt := 85) hx hb dX4_pass_59 (by decide) (fun c59_7 => ?_) (fun c59_7 => ?_)
    · have hres := zif_pos c59_7 hres
      refine lv_iconst (v := (-1 : Int32)) hx hb dX4_pass_85 (by decide) ?_
      refine zp C0 hH zK4 3 (by decide) ha0.is rfl rfl zOk_int zcn kF_X4_61 dX4_pass_86 (fun H locs hH => ?_)
      exact zretv C0 hH dX4_pass_89 hres
    · have hres := zif_neg c59_7 hres
      refine lv_aload_n hx hb dX4_pass_62 rfl (lv_at hl 0 rfl) ?_
      refine zgI C0 hH zK4 2 (by decide) ha0.is rfl kF_X4_35 dX4_pass_63 ?_
      refine lv_aload_n hx hb dX4_pass_66 rfl (lv_at hl 0 rfl) ?_
      refine zgI C0 hH zK4 1 (by decide) ha0.is rfl kF_X4_15 dX4_pass_67 ?_
      refine lv_icmp_ge (tgt := 85) hx hb dX4_pass_70 (by decide) (fun c70_9 => ?_) (fun c70_9 => ?_)
      · have hres := zif_pos c70_9 hres
        refine lv_iconst (v := (-1 : Int32)) hx hb dX4_pass_85 (by decide) ?_
        refine zp C0 hH zK4 3 (by decide) ha0.is rfl rfl zOk_int zcn kF_X4_61 dX4_pass_86 (fun H locs hH => ?_)
        exact zretv C0 hH dX4_pass_89 hres
      · have hres := zif_neg c70_9 hres
        refine lv_aload_n hx hb dX4_pass_73 rfl (lv_at hl 0 rfl) ?_
        refine zgR C0 hH zK4 0 (by decide) _ ha0.is rfl kF_X4_9 dX4_pass_74 ?_
        refine lv_aload_n hx hb dX4_pass_77 rfl (lv_at hl 0 rfl) ?_
        refine zgI C0 hH zK4 2 (by decide) ha0.is rfl kF_X4_35 dX4_pass_78 ?_
        refine zald C0 hH ha0.arr ha0.ln (by exact zin60.mpr (by have q0 := hH.txt ha0; have q1 := hH.txa ha0; clear hres; grind [f_X5_within, f_X2_has])) dX4_pass_81 ?_
        refine lv_goto (tgt := 86) hx hb dX4_pass_82 (by decide) ?_
        refine zp C0 hH zK4 3 (by decide) ha0.is rfl rfl zOk_int zcn kF_X4_61 dX4_pass_86 (fun H locs hH => ?_)
        exact zretv C0 hH dX4_pass_89 hres
  have J39 : ∀ (mm : zM) (H : Heap) (locs : List Loc) (ls : Array Slot), zH D lyC cy ad s.heap mm H locs → lv_has ls 2 [(0, .ref (ad a0))] → f_X4_pass_39 a0 p1 mm = res → W p l e { frames := 0, cells := 0, slots := 0, locals := 0 } s m args below meth c H locs 0 0 (MQ below (zQv D lyC cy ad res) args s 0 0 (zA lyC ad)) (F0 m 39 ls []) := by
    intro mm H locs ls hH hl hres
    refine lv_aload_n hx hb dX4_pass_39 rfl (lv_at hl 0 rfl) ?_
    refine zgI C0 hH zK4 4 (by decide) ha0.is rfl kF_X4_32 dX4_pass_40 ?_
    refine lv_if_ge (tgt := 54) hx hb dX4_pass_43 (by decide) (fun c43_5 => ?_) (fun c43_5 => ?_)
    · have hres := zif_pos c43_5 hres
      exact J54 _ _ _ _ hH (lv_sub hl [0] rfl) hres
    · have hres := zif_neg c43_5 hres
      refine lv_aload_n hx hb dX4_pass_46 rfl (lv_at hl 0 rfl) ?_
      refine lv_aload_n hx hb dX4_pass_47 rfl (lv_at hl 0 rfl) ?_
      refine zgI C0 hH zK4 2 (by decide) ha0.is rfl kF_X4_35 dX4_pass_48 ?_
      refine zp C0 hH zK4 4 (by decide) ha0.is rfl rfl zOk_int zcn kF_X4_32 dX4_pass_51 (fun H locs hH => ?_)
      exact J54 _ _ _ _ hH (lv_sub hl [0] rfl) hres
  refine lv_aload_n hx hb dX4_pass_0 rfl (lv_at hl 0 rfl) ?_
  refine zgI C0 hH zK4 4 (by decide) ha0.is rfl kF_X4_32 dX4_pass_1 ?_
  refine lv_if_ge (tgt := 39) hx hb dX4_pass_4 (by decide) (fun c4_1 => ?_) (fun c4_1 => ?_)
  · have hres := zif_pos c4_1 hres
    exact J39 _ _ _ _ hH (lv_sub hl [0] rfl) hres
  · have hres := zif_neg c4_1 hres
    refine lv_aload_n hx hb dX4_pass_7 rfl (lv_at hl 0 rfl) ?_
    refine zgI C0 hH zK4 2 (by decide) ha0.is rfl kF_X4_35 dX4_pass_8 ?_
    refine lv_aload_n hx hb dX4_pass_11 rfl (lv_at hl 0 rfl) ?_
    refine zgI C0 hH zK4 1 (by decide) ha0.is rfl kF_X4_15 dX4_pass_12 ?_
    refine lv_icmp_ge (tgt := 39) hx hb dX4_pass_15 (by decide) (fun c15_2 => ?_) (fun c15_2 => ?_)
    · have hres := zif_pos c15_2 hres
      exact J39 _ _ _ _ hH (lv_sub hl [0] rfl) hres
    · have hres := zif_neg c15_2 hres
      refine lv_aload_n hx hb dX4_pass_18 rfl (lv_at hl 0 rfl) ?_
      refine zgI C0 hH zK4 3 (by decide) ha0.is rfl kF_X4_61 dX4_pass_19 ?_
      refine lv_iload_n hx hb dX4_pass_22 rfl (lv_at hl 1 rfl) ?_
      refine lv_icmp_ne (tgt := 39) hx hb dX4_pass_23 (by decide) (fun c23_3 => ?_) (fun c23_3 => ?_)
      · have hres := zif_neg c23_3 hres
        exact J39 _ _ _ _ hH (lv_sub hl [0] rfl) hres
      · have hres := zif_pos c23_3 hres
        refine lv_aload_n hx hb dX4_pass_26 rfl (lv_at hl 0 rfl) ?_
        refine lv_dup hx hb dX4_pass_27 rfl ?_
        refine zgI C0 hH zK4 2 (by decide) ha0.is rfl kF_X4_35 dX4_pass_28 ?_
        refine lv_iconst (v := (1 : Int32)) hx hb dX4_pass_31 (by decide) ?_
        refine lv_iadd hx hb dX4_pass_32 ?_
        refine zp C0 hH zK4 2 (by decide) ha0.is rfl rfl zOk_int (zcs (by first | decide | (have q0 := hH.txt ha0; have q1 := hH.txa ha0; clear hres; grind [f_X5_within, f_X2_has]))) kF_X4_35 dX4_pass_33 (fun H locs hH => ?_)
        refine lv_goto (tgt := 54) hx hb dX4_pass_36 (by decide) ?_
        exact J54 _ _ _ _ hH (lv_sub hl [0] rfl) hres
set_option maxRecDepth 100000 in
set_option maxHeartbeats 4000000 in
theorem c_X4_named (l : Launch) (D : va_G) (cy : Nat → ClassId) (ad : Nat → Nat) (M : zM) (a0 : Nat) (ha0 : zTxt a0) (p1 : Int32) : Met l yX4_named (Cond.code yX4_named cX4_named 2 (some .int) :: zG) ({ frames := 0, cells := 0, slots := 0, locals := 0 }) (zP D lyC cy ad [.ref (ad a0), .int p1] M) (zQi D lyC cy ad (f_X4_named a0 p1 M) M) 0 0 (zA lyC ad) := by
  generalize hres : (f_X4_named a0 p1 M) = res
  refine zMet (by decide) (Nat.le_of_ble_eq_true rfl) ?_
  intro p e s m args below meth c ls C0 hH hl
  obtain ⟨⟨hx, hb, hml, hown, hts⟩, -⟩ := id C0
  have hz : ∀ w ∈ zG, w.before args s = true := fun w h => hts w (List.mem_cons_of_mem _ h)
  have hl : lv_has ls 2 [(0, .ref (ad a0)), (1, .int p1)] := hl
  refine lv_iload_n hx hb dX4_named_0 rfl (lv_at hl 1 rfl) ?_
  refine zcase hres (fun c1_1_98 hres => ?_) (fun c1_1_98 hres => ?_)
  · refine ztab (tgt := 93) hx hb c1_1_98 dX4_named_1 (by decide) (by decide) rfl (by decide) ?_
    refine lv_aload_n hx hb dX4_named_93 rfl (lv_at hl 0 rfl) ?_
    refine zgI C0 hH zK4 6 (by decide) ha0.is rfl kF_X4_46 dX4_named_94 ?_
    exact zreti C0 hH dX4_named_97 hres rfl
  · skip
    refine zcase hres (fun c1_1_100 hres => ?_) (fun c1_1_100 hres => ?_)
    · refine ztab (tgt := 108) hx hb c1_1_100 dX4_named_1 (by decide) (by decide) rfl (by decide) ?_
      refine lv_aload_n hx hb dX4_named_108 rfl (lv_at hl 0 rfl) ?_
      refine zgI C0 hH zK4 9 (by decide) ha0.is rfl kF_X4_57 dX4_named_109 ?_
      exact zreti C0 hH dX4_named_112 hres rfl
    · skip
      refine zcase hres (fun c1_1_103 hres => ?_) (fun c1_1_103 hres => ?_)
      · refine ztab (tgt := 98) hx hb c1_1_103 dX4_named_1 (by decide) (by decide) rfl (by decide) ?_
        refine lv_aload_n hx hb dX4_named_98 rfl (lv_at hl 0 rfl) ?_
        refine zgI C0 hH zK4 7 (by decide) ha0.is rfl kF_X4_50 dX4_named_99 ?_
        exact zreti C0 hH dX4_named_102 hres rfl
      · skip
        refine zcase hres (fun c1_1_107 hres => ?_) (fun c1_1_107 hres => ?_)
        · refine ztab (tgt := 103) hx hb c1_1_107 dX4_named_1 (by decide) (by decide) rfl (by decide) ?_
          refine lv_aload_n hx hb dX4_named_103 rfl (lv_at hl 0 rfl) ?_
          refine zgI C0 hH zK4 8 (by decide) ha0.is rfl kF_X4_51 dX4_named_104 ?_
          exact zreti C0 hH dX4_named_107 hres rfl
        · skip
          refine zcase hres (fun c1_1_112 hres => ?_) (fun c1_1_112 hres => ?_)
          · refine ztab (tgt := 113) hx hb c1_1_112 dX4_named_1 (by decide) (by decide) rfl (by decide) ?_
            refine lv_aload_n hx hb dX4_named_113 rfl (lv_at hl 0 rfl) ?_
            refine zgI C0 hH zK4 10 (by decide) ha0.is rfl kF_X4_58 dX4_named_114 ?_
            exact zreti C0 hH dX4_named_117 hres rfl
          · skip
            refine zcase hres (fun c1_1_115 hres => ?_) (fun c1_1_115 hres => ?_)
            · refine ztab (tgt := 88) hx hb c1_1_115 dX4_named_1 (by decide) (by decide) rfl (by decide) ?_
              refine lv_aload_n hx hb dX4_named_88 rfl (lv_at hl 0 rfl) ?_
              refine zgI C0 hH zK4 5 (by decide) ha0.is rfl kF_X4_38 dX4_named_89 ?_
              exact zreti C0 hH dX4_named_92 hres rfl
            · skip
              refine ztabD (tgt := 118) hx hb [(98 : Int32), (100 : Int32), (103 : Int32), (107 : Int32), (112 : Int32), (115 : Int32)] (List.forall_mem_cons.mpr ⟨c1_1_98, (List.forall_mem_cons.mpr ⟨c1_1_100, (List.forall_mem_cons.mpr ⟨c1_1_103, (List.forall_mem_cons.mpr ⟨c1_1_107, (List.forall_mem_cons.mpr ⟨c1_1_112, (List.forall_mem_cons.mpr ⟨c1_1_115, (fun _ h => absurd h List.not_mem_nil)⟩)⟩)⟩)⟩)⟩)⟩) dX4_named_1 (by decide) (by decide) (by decide) ?_
              refine lv_iconst (v := (0 : Int32)) hx hb dX4_named_118 (by decide) ?_
              exact zreti C0 hH dX4_named_119 hres rfl
set_option maxRecDepth 100000 in
set_option maxHeartbeats 4000000 in
theorem c_X4_isName (l : Launch) (D : va_G) (cy : Nat → ClassId) (ad : Nat → Nat) (M : zM) (p0 : Int32) : Met l yX4_isName (Cond.code yX4_isName cX4_isName 1 (some .boolean) :: zG) ({ frames := 0, cells := 0, slots := 0, locals := 0 }) (zP D lyC cy ad [.int p0] M) (zQz D lyC cy ad (f_X4_isName p0) M) 0 0 (zA lyC ad) := by
  generalize hres : (f_X4_isName p0) = res
  refine zMet (by decide) (Nat.le_of_ble_eq_true rfl) ?_
  intro p e s m args below meth c ls C0 hH hl
  obtain ⟨⟨hx, hb, hml, hown, hts⟩, -⟩ := id C0
  have hz : ∀ w ∈ zG, w.before args s = true := fun w h => hts w (List.mem_cons_of_mem _ h)
  have hl : lv_has ls 1 [(0, .int p0)] := hl
  refine lv_iload_n hx hb dX4_isName_0 rfl (lv_at hl 0 rfl) ?_
  refine lv_bipush (v := (115 : Int32)) hx hb dX4_isName_1 (by decide) ?_
  refine lv_icmp_eq (tgt := 36) hx hb dX4_isName_3 (by decide) (fun c3_1 => ?_) (fun c3_1 => ?_)
  · have hres := zif_pos c3_1 hres
    refine lv_iconst (v := (1 : Int32)) hx hb dX4_isName_36 (by decide) ?_
    refine lv_goto (tgt := 41) hx hb dX4_isName_37 (by decide) ?_
    exact zretz C0 hH dX4_isName_41 (by first | exact Or.inl rfl | exact Or.inr rfl | assumption) hres rfl
  · have hres := zif_neg c3_1 hres
    refine lv_iload_n hx hb dX4_isName_6 rfl (lv_at hl 0 rfl) ?_
    refine lv_bipush (v := (98 : Int32)) hx hb dX4_isName_7 (by decide) ?_
    refine lv_icmp_eq (tgt := 36) hx hb dX4_isName_9 (by decide) (fun c9_2 => ?_) (fun c9_2 => ?_)
    · have hres := zif_pos c9_2 hres
      refine lv_iconst (v := (1 : Int32)) hx hb dX4_isName_36 (by decide) ?_
      refine lv_goto (tgt := 41) hx hb dX4_isName_37 (by decide) ?_
      exact zretz C0 hH dX4_isName_41 (by first | exact Or.inl rfl | exact Or.inr rfl | assumption) hres rfl
    · have hres := zif_neg c9_2 hres
      refine lv_iload_n hx hb dX4_isName_12 rfl (lv_at hl 0 rfl) ?_
      refine lv_bipush (v := (103 : Int32)) hx hb dX4_isName_13 (by decide) ?_
      refine lv_icmp_eq (tgt := 36) hx hb dX4_isName_15 (by decide) (fun c15_3 => ?_) (fun c15_3 => ?_)
      · have hres := zif_pos c15_3 hres
        refine lv_iconst (v := (1 : Int32)) hx hb dX4_isName_36 (by decide) ?_
        refine lv_goto (tgt := 41) hx hb dX4_isName_37 (by decide) ?_
        exact zretz C0 hH dX4_isName_41 (by first | exact Or.inl rfl | exact Or.inr rfl | assumption) hres rfl
      · have hres := zif_neg c15_3 hres
        refine lv_iload_n hx hb dX4_isName_18 rfl (lv_at hl 0 rfl) ?_
        refine lv_bipush (v := (107 : Int32)) hx hb dX4_isName_19 (by decide) ?_
        refine lv_icmp_eq (tgt := 36) hx hb dX4_isName_21 (by decide) (fun c21_4 => ?_) (fun c21_4 => ?_)
        · have hres := zif_pos c21_4 hres
          refine lv_iconst (v := (1 : Int32)) hx hb dX4_isName_36 (by decide) ?_
          refine lv_goto (tgt := 41) hx hb dX4_isName_37 (by decide) ?_
          exact zretz C0 hH dX4_isName_41 (by first | exact Or.inl rfl | exact Or.inr rfl | assumption) hres rfl
        · have hres := zif_neg c21_4 hres
          refine lv_iload_n hx hb dX4_isName_24 rfl (lv_at hl 0 rfl) ?_
          refine lv_bipush (v := (100 : Int32)) hx hb dX4_isName_25 (by decide) ?_
          refine lv_icmp_eq (tgt := 36) hx hb dX4_isName_27 (by decide) (fun c27_5 => ?_) (fun c27_5 => ?_)
          · have hres := zif_pos c27_5 hres
            refine lv_iconst (v := (1 : Int32)) hx hb dX4_isName_36 (by decide) ?_
            refine lv_goto (tgt := 41) hx hb dX4_isName_37 (by decide) ?_
            exact zretz C0 hH dX4_isName_41 (by first | exact Or.inl rfl | exact Or.inr rfl | assumption) hres rfl
          · have hres := zif_neg c27_5 hres
            refine lv_iload_n hx hb dX4_isName_30 rfl (lv_at hl 0 rfl) ?_
            refine lv_bipush (v := (112 : Int32)) hx hb dX4_isName_31 (by decide) ?_
            refine lv_icmp_ne (tgt := 40) hx hb dX4_isName_33 (by decide) (fun c33_6 => ?_) (fun c33_6 => ?_)
            · have hres := zif_neg c33_6 hres
              refine lv_iconst (v := (0 : Int32)) hx hb dX4_isName_40 (by decide) ?_
              exact zretz C0 hH dX4_isName_41 (by first | exact Or.inl rfl | exact Or.inr rfl | assumption) hres rfl
            · have hres := zif_pos c33_6 hres
              refine lv_iconst (v := (1 : Int32)) hx hb dX4_isName_36 (by decide) ?_
              refine lv_goto (tgt := 41) hx hb dX4_isName_37 (by decide) ?_
              exact zretz C0 hH dX4_isName_41 (by first | exact Or.inl rfl | exact Or.inr rfl | assumption) hres rfl
set_option maxRecDepth 100000 in
set_option maxHeartbeats 4000000 in
theorem c_X0_rubsBy (l : Launch) (D : va_G) (cy : Nat → ClassId) (ad : Nat → Nat) (M : zM) (a0 : Nat) (ha0 : zBl a0) (p1 : Int32) : Met l yX0_rubsBy (Cond.code yX0_rubsBy cX0_rubsBy 2 (some .int) :: zG) ({ frames := 1, cells := 0, slots := 0, locals := 28 }) (zP D lyC cy ad [.ref (ad a0), .int p1] M) (zQi D lyC cy ad (f_X0_rubsBy a0 p1 M) M) 0 0 (zA lyC ad) := by
  generalize hres : (f_X0_rubsBy a0 p1 M) = res
  refine zMet (by decide) (Nat.le_of_ble_eq_true rfl) ?_
  intro p e s m args below meth c ls C0 hH hl
  obtain ⟨⟨hx, hb, hml, hown, hts⟩, -⟩ := id C0
  have hz : ∀ w ∈ zG, w.before args s = true := fun w h => hts w (List.mem_cons_of_mem _ h)
  have hl : lv_has ls 2 [(0, .ref (ad a0)), (1, .int p1)] := hl
  refine lv_aload_n hx hb dX0_rubsBy_0 rfl (lv_at hl 0 rfl) ?_
  refine zgI C0 hH zK0 0 (by decide) ha0 rfl kF_X0_9 dX0_rubsBy_1 ?_
  refine zcase hres (fun c4_1_1 hres => ?_) (fun c4_1_1 hres => ?_)
  · refine ztab (tgt := 40) hx hb c4_1_1 dX0_rubsBy_4 (by decide) (by decide) rfl (by decide) ?_
    refine lv_aload_n hx hb dX0_rubsBy_40 rfl (lv_at hl 0 rfl) ?_
    refine zgI C0 hH zK0 2 (by decide) ha0 rfl kF_X0_18 dX0_rubsBy_41 ?_
    exact zreti C0 hH dX0_rubsBy_44 hres rfl
  · skip
    refine zcase hres (fun c4_1_2 hres => ?_) (fun c4_1_2 hres => ?_)
    · refine ztab (tgt := 45) hx hb c4_1_2 dX0_rubsBy_4 (by decide) (by decide) rfl (by decide) ?_
      refine lv_sipush (v := (999 : Int32)) hx hb dX0_rubsBy_45 (by decide) ?_
      refine lv_aload_n hx hb dX0_rubsBy_48 rfl (lv_at hl 0 rfl) ?_
      refine zgI C0 hH zK0 2 (by decide) ha0 rfl kF_X0_18 dX0_rubsBy_49 ?_
      refine lv_iconst (v := (2 : Int32)) hx hb dX0_rubsBy_52 (by decide) ?_
      refine lv_idiv hx hb dX0_rubsBy_53 (by first | assumption | decide) ?_
      refine lv_iload_n hx hb dX0_rubsBy_54 rfl (lv_at hl 1 rfl) ?_
      refine lv_iadd hx hb dX0_rubsBy_55 ?_
      refine zmin C0 hl.1 kM_X0_33 (by exact Nat.le_of_ble_eq_true rfl) (by exact Nat.le_of_ble_eq_true rfl) dX0_rubsBy_56 ?_
      exact zreti C0 hH dX0_rubsBy_59 hres rfl
    · skip
      refine zcase hres (fun c4_1_4 hres => ?_) (fun c4_1_4 hres => ?_)
      · refine ztab (tgt := 40) hx hb c4_1_4 dX0_rubsBy_4 (by decide) (by decide) rfl (by decide) ?_
        refine lv_aload_n hx hb dX0_rubsBy_40 rfl (lv_at hl 0 rfl) ?_
        refine zgI C0 hH zK0 2 (by decide) ha0 rfl kF_X0_18 dX0_rubsBy_41 ?_
        exact zreti C0 hH dX0_rubsBy_44 hres rfl
      · skip
        refine zcase hres (fun c4_1_5 hres => ?_) (fun c4_1_5 hres => ?_)
        · refine ztab (tgt := 45) hx hb c4_1_5 dX0_rubsBy_4 (by decide) (by decide) rfl (by decide) ?_
          refine lv_sipush (v := (999 : Int32)) hx hb dX0_rubsBy_45 (by decide) ?_
          refine lv_aload_n hx hb dX0_rubsBy_48 rfl (lv_at hl 0 rfl) ?_
          refine zgI C0 hH zK0 2 (by decide) ha0 rfl kF_X0_18 dX0_rubsBy_49 ?_
          refine lv_iconst (v := (2 : Int32)) hx hb dX0_rubsBy_52 (by decide) ?_
          refine lv_idiv hx hb dX0_rubsBy_53 (by first | assumption | decide) ?_
          refine lv_iload_n hx hb dX0_rubsBy_54 rfl (lv_at hl 1 rfl) ?_
          refine lv_iadd hx hb dX0_rubsBy_55 ?_
          refine zmin C0 hl.1 kM_X0_33 (by exact Nat.le_of_ble_eq_true rfl) (by exact Nat.le_of_ble_eq_true rfl) dX0_rubsBy_56 ?_
          exact zreti C0 hH dX0_rubsBy_59 hres rfl
        · skip
          refine ztabD (tgt := 60) hx hb [(1 : Int32), (2 : Int32), (4 : Int32), (5 : Int32)] (List.forall_mem_cons.mpr ⟨c4_1_1, (List.forall_mem_cons.mpr ⟨c4_1_2, (List.forall_mem_cons.mpr ⟨c4_1_4, (List.forall_mem_cons.mpr ⟨c4_1_5, (fun _ h => absurd h List.not_mem_nil)⟩)⟩)⟩)⟩) dX0_rubsBy_4 (by decide) (by decide) (by decide) ?_
          refine lv_iconst (v := (0 : Int32)) hx hb dX0_rubsBy_60 (by decide) ?_
          refine lv_aload_n hx hb dX0_rubsBy_61 rfl (lv_at hl 0 rfl) ?_
          refine zgI C0 hH zK0 2 (by decide) ha0 rfl kF_X0_18 dX0_rubsBy_62 ?_
          refine lv_iload_n hx hb dX0_rubsBy_65 rfl (lv_at hl 1 rfl) ?_
          refine lv_isub hx hb dX0_rubsBy_66 ?_
          refine zmax C0 hl.1 kM_X0_43 (by exact Nat.le_of_ble_eq_true rfl) (by exact Nat.le_of_ble_eq_true rfl) dX0_rubsBy_67 ?_
          exact zreti C0 hH dX0_rubsBy_70 hres rfl
set_option maxRecDepth 100000 in
set_option maxHeartbeats 4000000 in
theorem c_X0_startTick (l : Launch) (D : va_G) (cy : Nat → ClassId) (ad : Nat → Nat) (M : zM) (a0 : Nat) (ha0 : zBl a0) (p1 : Int32) : Met l yX0_startTick (Cond.code yX0_startTick cX0_startTick 2 none :: zG) ({ frames := 0, cells := 0, slots := 0, locals := 0 }) (zP D lyC cy ad [.ref (ad a0), .int p1] M) (zQv D lyC cy ad (f_X0_startTick a0 p1 M)) 0 0 (zA lyC ad) := by
  generalize hres : (f_X0_startTick a0 p1 M) = res
  refine zMet (by decide) (Nat.le_of_ble_eq_true rfl) ?_
  intro p e s m args below meth c ls C0 hH hl
  obtain ⟨⟨hx, hb, hml, hown, hts⟩, -⟩ := id C0
  have hz : ∀ w ∈ zG, w.before args s = true := fun w h => hts w (List.mem_cons_of_mem _ h)
  have hl : lv_has ls 2 [(0, .ref (ad a0)), (1, .int p1)] := hl
  refine lv_aload_n hx hb dX0_startTick_0 rfl (lv_at hl 0 rfl) ?_
  refine lv_iload_n hx hb dX0_startTick_1 rfl (lv_at hl 1 rfl) ?_
  refine zp C0 hH zK0 7 (by decide) ha0 rfl rfl zOk_int zcn kF_X0_46 dX0_startTick_2 (fun H locs hH => ?_)
  refine lv_aload_n hx hb dX0_startTick_5 rfl (lv_at hl 0 rfl) ?_
  refine lv_iconst (v := (0 : Int32)) hx hb dX0_startTick_6 (by decide) ?_
  refine zp C0 hH zK0 9 (by decide) ha0 rfl rfl zOk_int zcn kF_X0_49 dX0_startTick_7 (fun H locs hH => ?_)
  refine lv_aload_n hx hb dX0_startTick_10 rfl (lv_at hl 0 rfl) ?_
  refine lv_iconst (v := (0 : Int32)) hx hb dX0_startTick_11 (by decide) ?_
  refine zp C0 hH zK0 10 (by decide) ha0 rfl rfl (zOk_01 (by first | exact Or.inl rfl | exact Or.inr rfl | assumption)) zcn kF_X0_52 dX0_startTick_12 (fun H locs hH => ?_)
  exact zretv C0 hH dX0_startTick_15 hres
set_option maxRecDepth 100000 in
set_option maxHeartbeats 4000000 in
theorem c_X0_move (l : Launch) (D : va_G) (cy : Nat → ClassId) (ad : Nat → Nat) (M : zM) (a0 : Nat) (ha0 : zBl a0) (p1 : Int32) : Met l yX0_move (Cond.code yX0_move cX0_move 7 none :: zG) ({ frames := 2, cells := 0, slots := 0, locals := 49 }) (zP D lyC cy ad [.ref (ad a0), .int p1] M) (zQv D lyC cy ad (f_X0_move a0 p1 M)) 0 0 (zA lyC ad) := by
  generalize hres : (f_X0_move a0 p1 M) = res
  refine zMet (by decide) (Nat.le_of_ble_eq_true rfl) ?_
  intro p e s m args below meth c ls C0 hH hl
  obtain ⟨⟨hx, hb, hml, hown, hts⟩, -⟩ := id C0
  have hz : ∀ w ∈ zG, w.before args s = true := fun w h => hts w (List.mem_cons_of_mem _ h)
  have hl : lv_has ls 7 [(0, .ref (ad a0)), (1, .int p1)] := hl
  have J36 : ∀ (v2 : Int64) (v4 : Int32) (s0 : Int32) (s1 : Int64) (mm : zM) (H : Heap) (locs : List Loc) (ls : Array Slot), zH D lyC cy ad s.heap mm H locs → lv_has ls 7 [(0, .ref (ad a0)), (1, .int p1), (2, .long v2), (4, .int v4)] → f_X0_move_36 a0 p1 v2 v4 s0 s1 mm = res → W p l e { frames := 2, cells := 0, slots := 0, locals := 49 } s m args below meth c H locs 0 0 (MQ below (zQv D lyC cy ad res) args s 0 0 (zA lyC ad)) (F0 m 36 ls [.int s0, .long s1]) := by
    intro v2 v4 s0 s1 mm H locs ls hH hl hres
    refine lv_i2l hx hb dX0_move_36 rfl ?_
    refine W.lcmp hx hb dX0_move_37 ?_
    refine lv_if_gt (tgt := 47) hx hb dX0_move_38 (by decide) (fun c38_5 => ?_) (fun c38_5 => ?_)
    · have hres := zif_pos c38_5 hres
      refine lv_lload_n hx hb dX0_move_47 rfl (lv_at hl 2 rfl) ?_
      refine lv_iload hx hb dX0_move_48 (lv_at hl 3 rfl) ?_
      refine lv_i2l hx hb dX0_move_50 rfl ?_
      refine lv_lsub hx hb dX0_move_51 ?_
      refine lv_iconst (v := (1 : Int32)) hx hb dX0_move_52 (by decide) ?_
      refine lv_iload_n hx hb dX0_move_53 rfl (lv_at hl 1 rfl) ?_
      refine zmax C0 hl.1 kM_X0_43 (by exact Nat.le_of_ble_eq_true rfl) (by exact Nat.le_of_ble_eq_true rfl) dX0_move_54 ?_
      refine lv_i2l hx hb dX0_move_57 rfl ?_
      refine lv_ldiv hx hb dX0_move_58 (by exact zmx_ne _) ?_
      refine lv_lstore (lv' := [(5, _), (0, _), (1, _), (2, _), (4, _)]) hx hb dX0_move_59 hl (by decide) rfl (fun ls hl => ?_)
      refine lv_aload_n hx hb dX0_move_61 rfl (lv_at hl 1 rfl) ?_
      refine lv_lconst (v := (1 : Int64)) hx hb dX0_move_62 (by decide) ?_
      refine lv_ldc2 (v := (999 : Int64)) hx hb hown (hz _ kK_X0_66) dX0_move_63 ?_
      refine lv_lload hx hb dX0_move_66 (lv_at hl 0 rfl) ?_
      refine zminl C0 hl.1 kM_X0_68 (by exact Nat.le_of_ble_eq_true rfl) (by exact Nat.le_of_ble_eq_true rfl) dX0_move_68 ?_
      refine zmaxl C0 hl.1 kM_X0_71 (by exact Nat.le_of_ble_eq_true rfl) (by exact Nat.le_of_ble_eq_true rfl) dX0_move_71 ?_
      refine lv_l2i hx hb dX0_move_74 rfl ?_
      refine zp C0 hH zK0 9 (by decide) ha0 rfl rfl zOk_int zcn kF_X0_49 dX0_move_75 (fun H locs hH => ?_)
      refine lv_aload_n hx hb dX0_move_78 rfl (lv_at hl 1 rfl) ?_
      refine lv_dup hx hb dX0_move_79 rfl ?_
      refine zgI C0 hH zK0 5 (by decide) ha0 rfl kF_X0_27 dX0_move_80 ?_
      refine lv_aload_n hx hb dX0_move_83 rfl (lv_at hl 1 rfl) ?_
      refine zgI C0 hH zK0 8 (by decide) ha0 rfl kF_X0_56 dX0_move_84 ?_
      refine lv_if_le (tgt := 97) hx hb dX0_move_87 (by decide) (fun c87_9 => ?_) (fun c87_9 => ?_)
      · have hres := zif_pos c87_9 hres
        refine lv_aload_n hx hb dX0_move_97 rfl (lv_at hl 1 rfl) ?_
        refine zgI C0 hH zK0 9 (by decide) ha0 rfl kF_X0_49 dX0_move_98 ?_
        refine lv_ineg hx hb dX0_move_101 ?_
        refine lv_iadd hx hb dX0_move_102 ?_
        refine zp C0 hH zK0 5 (by decide) ha0 rfl rfl zOk_int zcn kF_X0_27 dX0_move_103 (fun H locs hH => ?_)
        refine lv_aload_n hx hb dX0_move_106 rfl (lv_at hl 1 rfl) ?_
        refine lv_iconst (v := (1 : Int32)) hx hb dX0_move_107 (by decide) ?_
        refine zp C0 hH zK0 10 (by decide) ha0 rfl rfl (zOk_01 (by first | exact Or.inl rfl | exact Or.inr rfl | assumption)) zcn kF_X0_52 dX0_move_108 (fun H locs hH => ?_)
        exact zretv C0 hH dX0_move_111 hres
      · have hres := zif_neg c87_9 hres
        refine lv_aload_n hx hb dX0_move_90 rfl (lv_at hl 1 rfl) ?_
        refine zgI C0 hH zK0 9 (by decide) ha0 rfl kF_X0_49 dX0_move_91 ?_
        refine lv_goto (tgt := 102) hx hb dX0_move_94 (by decide) ?_
        refine lv_iadd hx hb dX0_move_102 ?_
        refine zp C0 hH zK0 5 (by decide) ha0 rfl rfl zOk_int zcn kF_X0_27 dX0_move_103 (fun H locs hH => ?_)
        refine lv_aload_n hx hb dX0_move_106 rfl (lv_at hl 1 rfl) ?_
        refine lv_iconst (v := (1 : Int32)) hx hb dX0_move_107 (by decide) ?_
        refine zp C0 hH zK0 10 (by decide) ha0 rfl rfl (zOk_01 (by first | exact Or.inl rfl | exact Or.inr rfl | assumption)) zcn kF_X0_52 dX0_move_108 (fun H locs hH => ?_)
        exact zretv C0 hH dX0_move_111 hres
    · have hres := zif_neg c38_5 hres
      refine lv_aload_n hx hb dX0_move_41 rfl (lv_at hl 0 rfl) ?_
      refine lv_iconst (v := (0 : Int32)) hx hb dX0_move_42 (by decide) ?_
      refine zp C0 hH zK0 9 (by decide) ha0 rfl rfl zOk_int zcn kF_X0_49 dX0_move_43 (fun H locs hH => ?_)
      exact zretv C0 hH dX0_move_46 hres
  refine lv_aload_n hx hb dX0_move_0 rfl (lv_at hl 0 rfl) ?_
  refine zgI C0 hH zK0 8 (by decide) ha0 rfl kF_X0_56 dX0_move_1 ?_
  refine lv_i2l hx hb dX0_move_4 rfl ?_
  refine zabsl C0 hl.1 kM_X0_59 (by exact Nat.le_of_ble_eq_true rfl) (by exact Nat.le_of_ble_eq_true rfl) dX0_move_5 ?_
  refine lv_lstore_n (lv' := [(2, _), (0, _), (1, _)]) hx hb dX0_move_8 rfl hl (by decide) rfl (fun ls hl => ?_)
  refine lv_aload_n hx hb dX0_move_9 rfl (lv_at hl 1 rfl) ?_
  refine lv_aload_n hx hb dX0_move_10 rfl (lv_at hl 1 rfl) ?_
  refine zgI C0 hH zK0 9 (by decide) ha0 rfl kF_X0_49 dX0_move_11 ?_
  refine zci (zrunV C0 hH (c_X0_rubsBy l D cy ad _ _ ha0 _) kM_X0_63 zK0 kq_X0_rubsBy ha0 rfl hl.1 rfl rfl rfl ⟨Nat.le_of_ble_eq_true rfl, Nat.le_of_ble_eq_true rfl⟩ (Nat.le_of_ble_eq_true rfl) dX0_move_14) hH (fun H locs hH => ?_)
  refine lv_istore (lv' := [(4, _), (2, _), (0, _), (1, _)]) hx hb dX0_move_17 hl (by decide) rfl (fun ls hl => ?_)
  refine lv_lload_n hx hb dX0_move_19 rfl (lv_at hl 1 rfl) ?_
  refine lv_aload_n hx hb dX0_move_20 rfl (lv_at hl 2 rfl) ?_
  refine zgI C0 hH zK0 10 (by decide) ha0 rfl kF_X0_52 dX0_move_21 ?_
  refine lv_if_eq (tgt := 32) hx hb dX0_move_24 (by decide) (fun c24_4 => ?_) (fun c24_4 => ?_)
  · have hres := zif_pos c24_4 hres
    refine lv_aload_n hx hb dX0_move_32 rfl (lv_at hl 2 rfl) ?_
    refine zgI C0 hH zK0 7 (by decide) ha0 rfl kF_X0_46 dX0_move_33 ?_
    exact J36 _ _ _ _ _ _ _ _ hH (lv_sub hl [2, 3, 1, 0] rfl) hres
  · have hres := zif_neg c24_4 hres
    refine lv_iload hx hb dX0_move_27 (lv_at hl 0 rfl) ?_
    refine lv_goto (tgt := 36) hx hb dX0_move_29 (by decide) ?_
    exact J36 _ _ _ _ _ _ _ _ hH (lv_sub hl [2, 3, 1, 0] rfl) hres
set_option maxRecDepth 100000 in
set_option maxHeartbeats 4000000 in
theorem c_X0_endTick (l : Launch) (D : va_G) (cy : Nat → ClassId) (ad : Nat → Nat) (M : zM) (a0 : Nat) (ha0 : zBl a0) : Met l yX0_endTick (Cond.code yX0_endTick cX0_endTick 1 none :: zG) ({ frames := 1, cells := 0, slots := 0, locals := 28 }) (zP D lyC cy ad [.ref (ad a0)] M) (zQv D lyC cy ad (f_X0_endTick a0 M)) 0 0 (zA lyC ad) := by
  generalize hres : (f_X0_endTick a0 M) = res
  refine zMet (by decide) (Nat.le_of_ble_eq_true rfl) ?_
  intro p e s m args below meth c ls C0 hH hl
  obtain ⟨⟨hx, hb, hml, hown, hts⟩, -⟩ := id C0
  have hz : ∀ w ∈ zG, w.before args s = true := fun w h => hts w (List.mem_cons_of_mem _ h)
  have hl : lv_has ls 1 [(0, .ref (ad a0))] := hl
  refine lv_aload_n hx hb dX0_endTick_0 rfl (lv_at hl 0 rfl) ?_
  refine zgI C0 hH zK0 10 (by decide) ha0 rfl kF_X0_52 dX0_endTick_1 ?_
  refine lv_if_eq (tgt := 29) hx hb dX0_endTick_4 (by decide) (fun c4_1 => ?_) (fun c4_1 => ?_)
  · have hres := zif_pos c4_1 hres
    refine lv_aload_n hx hb dX0_endTick_29 rfl (lv_at hl 0 rfl) ?_
    refine lv_sipush (v := (999 : Int32)) hx hb dX0_endTick_30 (by decide) ?_
    refine lv_aload_n hx hb dX0_endTick_33 rfl (lv_at hl 0 rfl) ?_
    refine zgI C0 hH zK0 6 (by decide) ha0 rfl kF_X0_30 dX0_endTick_34 ?_
    refine lv_iconst (v := (1 : Int32)) hx hb dX0_endTick_37 (by decide) ?_
    refine lv_iadd hx hb dX0_endTick_38 ?_
    refine zmin C0 hl.1 kM_X0_33 (by exact Nat.le_of_ble_eq_true rfl) (by exact Nat.le_of_ble_eq_true rfl) dX0_endTick_39 ?_
    refine zp C0 hH zK0 6 (by decide) ha0 rfl rfl zOk_int zcn kF_X0_30 dX0_endTick_42 (fun H locs hH => ?_)
    exact zretv C0 hH dX0_endTick_45 hres
  · have hres := zif_neg c4_1 hres
    refine lv_aload_n hx hb dX0_endTick_7 rfl (lv_at hl 0 rfl) ?_
    refine lv_iconst (v := (0 : Int32)) hx hb dX0_endTick_8 (by decide) ?_
    refine zp C0 hH zK0 6 (by decide) ha0 rfl rfl zOk_int zcn kF_X0_30 dX0_endTick_9 (fun H locs hH => ?_)
    refine lv_aload_n hx hb dX0_endTick_12 rfl (lv_at hl 0 rfl) ?_
    refine lv_iconst (v := (0 : Int32)) hx hb dX0_endTick_13 (by decide) ?_
    refine lv_aload_n hx hb dX0_endTick_14 rfl (lv_at hl 0 rfl) ?_
    refine zgI C0 hH zK0 4 (by decide) ha0 rfl kF_X0_24 dX0_endTick_15 ?_
    refine lv_iconst (v := (1 : Int32)) hx hb dX0_endTick_18 (by decide) ?_
    refine lv_isub hx hb dX0_endTick_19 ?_
    refine zmax C0 hl.1 kM_X0_43 (by exact Nat.le_of_ble_eq_true rfl) (by exact Nat.le_of_ble_eq_true rfl) dX0_endTick_20 ?_
    refine zp C0 hH zK0 4 (by decide) ha0 rfl rfl zOk_int zcn kF_X0_24 dX0_endTick_23 (fun H locs hH => ?_)
    refine lv_goto (tgt := 45) hx hb dX0_endTick_26 (by decide) ?_
    exact zretv C0 hH dX0_endTick_45 hres
set_option maxRecDepth 100000 in
set_option maxHeartbeats 4000000 in
theorem c_X1_classOf (l : Launch) (D : va_G) (cy : Nat → ClassId) (ad : Nat → Nat) (M : zM) (p0 : Int32) : Met l yX1_classOf (Cond.code yX1_classOf cX1_classOf 2 (some .int) :: zG) ({ frames := 0, cells := 0, slots := 0, locals := 0 }) (zP D lyC cy ad [.int p0] M) (zQi D lyC cy ad (f_X1_classOf p0) M) 0 0 (zA lyC ad) := by
  generalize hres : (f_X1_classOf p0) = res
  refine zMet (by decide) (Nat.le_of_ble_eq_true rfl) ?_
  intro p e s m args below meth c ls C0 hH hl
  obtain ⟨⟨hx, hb, hml, hown, hts⟩, -⟩ := id C0
  have hz : ∀ w ∈ zG, w.before args s = true := fun w h => hts w (List.mem_cons_of_mem _ h)
  have hl : lv_has ls 2 [(0, .int p0)] := hl
  have L2 : ∀ (n2 : Nat), ∀ (v1 : Int32) (H : Heap) (locs : List Loc) (ls : Array Slot), (zCt 6 n2 v1) → zH D lyC cy ad s.heap M H locs → lv_has ls 2 [(0, .int p0), (1, .int v1)] → f_X1_classOf_2 p0 n2 v1 = res → W p l e { frames := 0, cells := 0, slots := 0, locals := 0 } s m args below meth c H locs 0 0 (MQ below (zQi D lyC cy ad res M) args s 0 0 (zA lyC ad)) (F0 m 2 ls []) := by
    intro n2
    induction n2 with
    | zero =>
      intro v1 H locs ls hct hH hl hres
      exfalso; exact hct.zero
    | succ n2 ih2 =>
      intro v1 H locs ls hct hH hl hres
      refine lv_iload_n hx hb dX1_classOf_2 rfl (lv_at hl 1 rfl) ?_
      refine lv_bipush (v := (6 : Int32)) hx hb dX1_classOf_3 (by decide) ?_
      refine lv_icmp_ge (tgt := 21) hx hb dX1_classOf_5 (by decide) (fun c5_1 => ?_) (fun c5_1 => ?_)
      · have hres := zif_pos c5_1 hres
        refine lv_iload_n hx hb dX1_classOf_21 rfl (lv_at hl 1 rfl) ?_
        exact zreti C0 hH dX1_classOf_22 hres rfl
      · have hres := zif_neg c5_1 hres
        refine lv_iload_n hx hb dX1_classOf_8 rfl (lv_at hl 0 rfl) ?_
        refine lv_iconst (v := (1 : Int32)) hx hb dX1_classOf_9 (by decide) ?_
        refine lv_iload_n hx hb dX1_classOf_10 rfl (lv_at hl 1 rfl) ?_
        refine lv_ishl hx hb dX1_classOf_11 ?_
        refine lv_icmp_lt (tgt := 21) hx hb dX1_classOf_12 (by decide) (fun c12_2 => ?_) (fun c12_2 => ?_)
        · have hres := zif_pos c12_2 hres
          refine lv_iload_n hx hb dX1_classOf_21 rfl (lv_at hl 1 rfl) ?_
          exact zreti C0 hH dX1_classOf_22 hres rfl
        · have hres := zif_neg c12_2 hres
          refine ziinc (lv' := [(1, _), (0, _)]) (k := 1) hx hb (1 : Int32) (by decide) dX1_classOf_15 hl rfl (by decide) rfl (fun ls hl => ?_)
          refine lv_goto (tgt := 2) hx hb dX1_classOf_18 (by decide) ?_
          exact ih2 _ _ _ _ (by first | exact zCt.start (by decide) (by decide) | exact zCt.step (m := 6) hct (by clear hres; grind [f_X5_within, f_X2_has]) (by decide)) hH (lv_sub hl [1, 0] rfl) hres
  refine lv_iconst (v := (0 : Int32)) hx hb dX1_classOf_0 (by decide) ?_
  refine lv_istore_n (lv' := [(1, _), (0, _)]) hx hb dX1_classOf_1 rfl hl (by decide) rfl (fun ls hl => ?_)
  exact L2 _ _ _ _ _ (by first | exact zCt.start (by decide) (by decide) | exact zCt.step (m := 6) hct (by clear hres; grind [f_X5_within, f_X2_has]) (by decide)) hH (lv_sub hl [1, 0] rfl) hres
set_option maxRecDepth 100000 in
set_option maxHeartbeats 4000000 in
theorem c_X1_enter (l : Launch) (D : va_G) (cy : Nat → ClassId) (ad : Nat → Nat) (M : zM) (a0 : Nat) (ha0 : zBk a0) (a1 : Nat) (ha1 : zRow a1) : Met l yX1_enter (Cond.code yX1_enter cX1_enter 2 none :: zG) ({ frames := 1, cells := 0, slots := 0, locals := 28 }) (zP D lyC cy ad [.ref (ad a0), .ref (ad a1)] M) (zQv D lyC cy ad (f_X1_enter a0 a1 M)) 0 0 (zA lyC ad) := by
  generalize hres : (f_X1_enter a0 a1 M) = res
  refine zMet (by decide) (Nat.le_of_ble_eq_true rfl) ?_
  intro p e s m args below meth c ls C0 hH hl
  obtain ⟨⟨hx, hb, hml, hown, hts⟩, -⟩ := id C0
  have hz : ∀ w ∈ zG, w.before args s = true := fun w h => hts w (List.mem_cons_of_mem _ h)
  have hl : lv_has ls 2 [(0, .ref (ad a0)), (1, .ref (ad a1))] := hl
  refine lv_aload_n hx hb dX1_enter_0 rfl (lv_at hl 0 rfl) ?_
  refine zgR C0 hH zK1 0 (by decide) _ ha0.is rfl kF_X1_9 dX1_enter_1 ?_
  refine lv_aload_n hx hb dX1_enter_4 rfl (lv_at hl 0 rfl) ?_
  refine zgI C0 hH zK1 5 (by decide) ha0.is rfl kF_X1_28 dX1_enter_5 ?_
  refine lv_aload_n hx hb dX1_enter_8 rfl (lv_at hl 1 rfl) ?_
  refine zgIN C0 hH zK2 5 (by decide) ha1.is rfl kN_X1_49 dX1_enter_9 ?_
  refine zast C0 hH ha0.a1 ha0.l1 (by exact zin100.mpr (by have q0 := hH.bkl ha0; have q1 := hH.bkn ha0; clear hres; grind [f_X5_within, f_X2_has])) zcn dX1_enter_12 (fun H locs hH => ?_)
  refine lv_aload_n hx hb dX1_enter_13 rfl (lv_at hl 0 rfl) ?_
  refine zgR C0 hH zK1 1 (by decide) _ ha0.is rfl kF_X1_15 dX1_enter_14 ?_
  refine lv_aload_n hx hb dX1_enter_17 rfl (lv_at hl 0 rfl) ?_
  refine zgI C0 hH zK1 5 (by decide) ha0.is rfl kF_X1_28 dX1_enter_18 ?_
  refine lv_aload_n hx hb dX1_enter_21 rfl (lv_at hl 1 rfl) ?_
  refine zgIN C0 hH zK2 6 (by decide) ha1.is rfl kN_X1_54 dX1_enter_22 ?_
  refine zast C0 hH ha0.a2 ha0.l2 (by exact zin100.mpr (by have q0 := hH.bkl ha0; have q1 := hH.bkn ha0; clear hres; grind [f_X5_within, f_X2_has])) zcn dX1_enter_25 (fun H locs hH => ?_)
  refine lv_aload_n hx hb dX1_enter_26 rfl (lv_at hl 0 rfl) ?_
  refine zgR C0 hH zK1 2 (by decide) _ ha0.is rfl kF_X1_18 dX1_enter_27 ?_
  refine lv_aload_n hx hb dX1_enter_30 rfl (lv_at hl 0 rfl) ?_
  refine zgI C0 hH zK1 5 (by decide) ha0.is rfl kF_X1_28 dX1_enter_31 ?_
  refine lv_aload_n hx hb dX1_enter_34 rfl (lv_at hl 1 rfl) ?_
  refine zgIN C0 hH zK2 7 (by decide) ha1.is rfl kN_X1_57 dX1_enter_35 ?_
  refine zast C0 hH ha0.a3 ha0.l3 (by exact zin100.mpr (by have q0 := hH.bkl ha0; have q1 := hH.bkn ha0; clear hres; grind [f_X5_within, f_X2_has])) zcn dX1_enter_38 (fun H locs hH => ?_)
  refine lv_aload_n hx hb dX1_enter_39 rfl (lv_at hl 0 rfl) ?_
  refine lv_aload_n hx hb dX1_enter_40 rfl (lv_at hl 0 rfl) ?_
  refine zgI C0 hH zK1 5 (by decide) ha0.is rfl kF_X1_28 dX1_enter_41 ?_
  refine lv_iconst (v := (1 : Int32)) hx hb dX1_enter_44 (by decide) ?_
  refine lv_iadd hx hb dX1_enter_45 ?_
  refine lv_bipush (v := (100 : Int32)) hx hb dX1_enter_46 (by decide) ?_
  refine lv_irem hx hb dX1_enter_48 (by first | assumption | decide) ?_
  refine zp C0 hH zK1 5 (by decide) ha0.is rfl rfl zOk_int (zcs (by have q1 := hH.bkn ha0; exact zrem100 (by clear hres; grind))) kF_X1_28 dX1_enter_49 (fun H locs hH => ?_)
  refine lv_aload_n hx hb dX1_enter_52 rfl (lv_at hl 0 rfl) ?_
  refine lv_bipush (v := (100 : Int32)) hx hb dX1_enter_53 (by decide) ?_
  refine lv_aload_n hx hb dX1_enter_55 rfl (lv_at hl 0 rfl) ?_
  refine zgI C0 hH zK1 4 (by decide) ha0.is rfl kF_X1_24 dX1_enter_56 ?_
  refine lv_iconst (v := (1 : Int32)) hx hb dX1_enter_59 (by decide) ?_
  refine lv_iadd hx hb dX1_enter_60 ?_
  refine zmin C0 hl.1 kM_X1_60 (by exact Nat.le_of_ble_eq_true rfl) (by exact Nat.le_of_ble_eq_true rfl) dX1_enter_61 ?_
  refine zp C0 hH zK1 4 (by decide) ha0.is rfl rfl zOk_int (zcs (by first | decide | (have q0 := hH.bkl ha0; have q1 := hH.bkn ha0; clear hres; grind [f_X5_within, f_X2_has]))) kF_X1_24 dX1_enter_64 (fun H locs hH => ?_)
  refine lv_aload_n hx hb dX1_enter_67 rfl (lv_at hl 0 rfl) ?_
  refine zgR C0 hH zK1 3 (by decide) _ ha0.is rfl kF_X1_21 dX1_enter_68 ?_
  refine lv_aload_n hx hb dX1_enter_71 rfl (lv_at hl 1 rfl) ?_
  refine zgIN C0 hH zK2 5 (by decide) ha1.is rfl kN_X1_49 dX1_enter_72 ?_
  refine zci (zrunS C0 hH (c_X1_classOf l D cy ad _ _) kM_X1_63 kq_X1_classOf rfl hl.1 rfl rfl rfl ⟨Nat.le_of_ble_eq_true rfl, Nat.le_of_ble_eq_true rfl⟩ (Nat.le_of_ble_eq_true rfl) dX1_enter_75) hH (fun H locs hH => ?_)
  refine lv_dup2_11 hx hb dX1_enter_78 rfl rfl ?_
  refine zald C0 hH ha0.a4 ha0.l4 (by exact zin7.mpr (by have q0 := hH.bkl ha0; have q1 := hH.bkn ha0; clear hres; grind [cls_X1])) dX1_enter_79 ?_
  refine lv_iconst (v := (1 : Int32)) hx hb dX1_enter_80 (by decide) ?_
  refine lv_iadd hx hb dX1_enter_81 ?_
  refine zast C0 hH ha0.a4 ha0.l4 (by exact zin7.mpr (by have q0 := hH.bkl ha0; have q1 := hH.bkn ha0; clear hres; grind [cls_X1])) zcn dX1_enter_82 (fun H locs hH => ?_)
  refine lv_aload_n hx hb dX1_enter_83 rfl (lv_at hl 0 rfl) ?_
  refine lv_dup hx hb dX1_enter_84 rfl ?_
  refine zgI C0 hH zK1 6 (by decide) ha0.is rfl kF_X1_31 dX1_enter_85 ?_
  refine lv_iconst (v := (1 : Int32)) hx hb dX1_enter_88 (by decide) ?_
  refine lv_iadd hx hb dX1_enter_89 ?_
  refine zp C0 hH zK1 6 (by decide) ha0.is rfl rfl zOk_int zcn kF_X1_31 dX1_enter_90 (fun H locs hH => ?_)
  refine lv_aload_n hx hb dX1_enter_93 rfl (lv_at hl 0 rfl) ?_
  refine lv_dup hx hb dX1_enter_94 rfl ?_
  refine zgI C0 hH zK1 7 (by decide) ha0.is rfl kF_X1_34 dX1_enter_95 ?_
  refine lv_aload_n hx hb dX1_enter_98 rfl (lv_at hl 1 rfl) ?_
  refine zgIN C0 hH zK2 8 (by decide) ha1.is rfl kN_X1_67 dX1_enter_99 ?_
  refine lv_if_eq (tgt := 109) hx hb dX1_enter_102 (by decide) (fun c102_10 => ?_) (fun c102_10 => ?_)
  · have hres := zif_pos c102_10 hres
    refine lv_iconst (v := (0 : Int32)) hx hb dX1_enter_109 (by decide) ?_
    refine lv_iadd hx hb dX1_enter_110 ?_
    refine zp C0 hH zK1 7 (by decide) ha0.is rfl rfl zOk_int zcn kF_X1_34 dX1_enter_111 (fun H locs hH => ?_)
    exact zretv C0 hH dX1_enter_114 hres
  · have hres := zif_neg c102_10 hres
    refine lv_iconst (v := (1 : Int32)) hx hb dX1_enter_105 (by decide) ?_
    refine lv_goto (tgt := 110) hx hb dX1_enter_106 (by decide) ?_
    refine lv_iadd hx hb dX1_enter_110 ?_
    refine zp C0 hH zK1 7 (by decide) ha0.is rfl rfl zOk_int zcn kF_X1_34 dX1_enter_111 (fun H locs hH => ?_)
    exact zretv C0 hH dX1_enter_114 hres
set_option maxRecDepth 100000 in
set_option maxHeartbeats 4000000 in
theorem c_J9_floorMod_7cf53 (l : Launch) (D : va_G) (cy : Nat → ClassId) (ad : Nat → Nat) (M : zM) (p0 : Int32) (p1 : Int32) (h0 : ¬ p1 = 0) : Met l yJ9_floorMod_7cf53 (Cond.code yJ9_floorMod_7cf53 cJ9_floorMod_7cf53 3 (some .int) :: zG) ({ frames := 0, cells := 0, slots := 0, locals := 0 }) (zP D lyC cy ad [.int p0, .int p1] M) (zQi D lyC cy ad (f_J9_floorMod_7cf53 p0 p1) M) 0 0 (zA lyC ad) := by
  generalize hres : (f_J9_floorMod_7cf53 p0 p1) = res
  refine zMetF (by decide +kernel) (Nat.le_of_ble_eq_true rfl) ?_
  intro p e s m args below meth c ls C0 hH hl
  obtain ⟨⟨hx, hb, hml, hown, hts⟩, -⟩ := id C0
  have hz : ∀ w ∈ zG, w.before args s = true := fun w h => hts w (List.mem_cons_of_mem _ h)
  have hl : lv_has ls 3 [(0, .int p0), (1, .int p1)] := hl
  refine lv_iload_n hx hb dJ9_floorMod_7cf53_0 rfl (lv_at hl 0 rfl) ?_
  refine lv_iload_n hx hb dJ9_floorMod_7cf53_1 rfl (lv_at hl 1 rfl) ?_
  refine lv_irem hx hb dJ9_floorMod_7cf53_2 (by first | assumption | decide) ?_
  refine lv_istore_n (lv' := [(2, _), (0, _), (1, _)]) hx hb dJ9_floorMod_7cf53_3 rfl hl (by decide) rfl (fun ls hl => ?_)
  refine lv_iload_n hx hb dJ9_floorMod_7cf53_4 rfl (lv_at hl 1 rfl) ?_
  refine lv_iload_n hx hb dJ9_floorMod_7cf53_5 rfl (lv_at hl 2 rfl) ?_
  refine lv_ixor hx hb dJ9_floorMod_7cf53_6 ?_
  refine lv_if_ge (tgt := 18) hx hb dJ9_floorMod_7cf53_7 (by decide) (fun c7_2 => ?_) (fun c7_2 => ?_)
  · have hres := zif_pos c7_2 hres
    refine lv_iload_n hx hb dJ9_floorMod_7cf53_18 rfl (lv_at hl 0 rfl) ?_
    exact zreti C0 hH dJ9_floorMod_7cf53_19 hres rfl
  · have hres := zif_neg c7_2 hres
    refine lv_iload_n hx hb dJ9_floorMod_7cf53_10 rfl (lv_at hl 0 rfl) ?_
    refine lv_if_eq (tgt := 18) hx hb dJ9_floorMod_7cf53_11 (by decide) (fun c11_3 => ?_) (fun c11_3 => ?_)
    · have hres := zif_pos c11_3 hres
      refine lv_iload_n hx hb dJ9_floorMod_7cf53_18 rfl (lv_at hl 0 rfl) ?_
      exact zreti C0 hH dJ9_floorMod_7cf53_19 hres rfl
    · have hres := zif_neg c11_3 hres
      refine lv_iload_n hx hb dJ9_floorMod_7cf53_14 rfl (lv_at hl 0 rfl) ?_
      refine lv_iload_n hx hb dJ9_floorMod_7cf53_15 rfl (lv_at hl 2 rfl) ?_
      refine lv_iadd hx hb dJ9_floorMod_7cf53_16 ?_
      exact zreti C0 hH dJ9_floorMod_7cf53_17 hres rfl
set_option maxRecDepth 100000 in
set_option maxHeartbeats 4000000 in
theorem c_X1_slot (l : Launch) (D : va_G) (cy : Nat → ClassId) (ad : Nat → Nat) (M : zM) (a0 : Nat) (ha0 : zBk a0) (p1 : Int32) : Met l yX1_slot (Cond.code yX1_slot cX1_slot 2 (some .int) :: zG) ({ frames := 1, cells := 0, slots := 0, locals := 22 }) (zP D lyC cy ad [.ref (ad a0), .int p1] M) (zQi D lyC cy ad (f_X1_slot a0 p1 M) M) 0 0 (zA lyC ad) := by
  generalize hres : (f_X1_slot a0 p1 M) = res
  refine zMet (by decide) (Nat.le_of_ble_eq_true rfl) ?_
  intro p e s m args below meth c ls C0 hH hl
  obtain ⟨⟨hx, hb, hml, hown, hts⟩, -⟩ := id C0
  have hz : ∀ w ∈ zG, w.before args s = true := fun w h => hts w (List.mem_cons_of_mem _ h)
  have hl : lv_has ls 2 [(0, .ref (ad a0)), (1, .int p1)] := hl
  refine lv_aload_n hx hb dX1_slot_0 rfl (lv_at hl 0 rfl) ?_
  refine zgI C0 hH zK1 5 (by decide) ha0.is rfl kF_X1_28 dX1_slot_1 ?_
  refine lv_iconst (v := (1 : Int32)) hx hb dX1_slot_4 (by decide) ?_
  refine lv_isub hx hb dX1_slot_5 ?_
  refine lv_iload_n hx hb dX1_slot_6 rfl (lv_at hl 1 rfl) ?_
  refine lv_isub hx hb dX1_slot_7 ?_
  refine lv_bipush (v := (100 : Int32)) hx hb dX1_slot_8 (by decide) ?_
  refine zci (zrunS C0 hH (c_J9_floorMod_7cf53 l D cy ad _ _ _ (by decide)) kM_X1_43 kq_J9_floorMod_7cf53 rfl hl.1 rfl rfl rfl ⟨Nat.le_of_ble_eq_true rfl, Nat.le_of_ble_eq_true rfl⟩ (Nat.le_of_ble_eq_true rfl) dX1_slot_10) hH (fun H locs hH => ?_)
  exact zreti C0 hH dX1_slot_13 hres rfl
set_option maxRecDepth 100000 in
set_option maxHeartbeats 4000000 in
theorem c_X4_copyFrom (l : Launch) (D : va_G) (cy : Nat → ClassId) (ad : Nat → Nat) (M : zM) (a0 : Nat) (ha0 : zTxt a0) (a1 : Nat) (ha1 : zTxt a1) : Met l yX4_copyFrom (Cond.code yX4_copyFrom cX4_copyFrom 2 none :: zG) ({ frames := 1, cells := 0, slots := 0, locals := 28 }) (zP D lyC cy ad [.ref (ad a0), .ref (ad a1)] M) (zQv D lyC cy ad (f_X4_copyFrom a0 a1 M)) 0 0 (zA lyC ad) := by
  generalize hres : (f_X4_copyFrom a0 a1 M) = res
  refine zMet (by decide) (Nat.le_of_ble_eq_true rfl) ?_
  intro p e s m args below meth c ls C0 hH hl
  obtain ⟨⟨hx, hb, hml, hown, hts⟩, -⟩ := id C0
  have hz : ∀ w ∈ zG, w.before args s = true := fun w h => hts w (List.mem_cons_of_mem _ h)
  have hl : lv_has ls 2 [(0, .ref (ad a0)), (1, .ref (ad a1))] := hl
  refine lv_aload_n hx hb dX4_copyFrom_0 rfl (lv_at hl 0 rfl) ?_
  refine lv_aload_n hx hb dX4_copyFrom_1 rfl (lv_at hl 1 rfl) ?_
  refine zgI C0 hH zK4 1 (by decide) ha1.is rfl kF_X4_15 dX4_copyFrom_2 ?_
  refine zp C0 hH zK4 1 (by decide) ha0.is rfl rfl zOk_int (zcs (by exact hH.txt ha1)) kF_X4_15 dX4_copyFrom_5 (fun H locs hH => ?_)
  refine lv_aload_n hx hb dX4_copyFrom_8 rfl (lv_at hl 1 rfl) ?_
  refine zgR C0 hH zK4 0 (by decide) _ ha1.is rfl kF_X4_9 dX4_copyFrom_9 ?_
  refine lv_iconst (v := (0 : Int32)) hx hb dX4_copyFrom_12 (by decide) ?_
  refine lv_aload_n hx hb dX4_copyFrom_13 rfl (lv_at hl 0 rfl) ?_
  refine zgR C0 hH zK4 0 (by decide) _ ha0.is rfl kF_X4_9 dX4_copyFrom_14 ?_
  refine lv_iconst (v := (0 : Int32)) hx hb dX4_copyFrom_17 (by decide) ?_
  refine lv_aload_n hx hb dX4_copyFrom_18 rfl (lv_at hl 0 rfl) ?_
  refine zgI C0 hH zK4 1 (by decide) ha0.is rfl kF_X4_15 dX4_copyFrom_19 ?_
  refine zcpyi C0 hH hl.1 kM_X4_19 ha1.arr ha1.ln ha0.arr ha0.ln (by decide) (by decide) (by have q := hH.txt ha0; clear hres; grind) (by exact zcp60 (hH.txt ha0)) (fun _ => zcn) (by exact zcp60 (hH.txt ha0)) (by exact Nat.le_of_ble_eq_true rfl) (by exact Nat.le_of_ble_eq_true rfl) dX4_copyFrom_22 (fun H locs hH => ?_)
  exact zretv C0 hH dX4_copyFrom_25 hres
set_option maxRecDepth 100000 in
set_option maxHeartbeats 4000000 in
theorem c_X0_copyFrom (l : Launch) (D : va_G) (cy : Nat → ClassId) (ad : Nat → Nat) (M : zM) (a0 : Nat) (ha0 : zBl a0) (a1 : Nat) (ha1 : zBl a1) : Met l yX0_copyFrom (Cond.code yX0_copyFrom cX0_copyFrom 2 none :: zG) ({ frames := 0, cells := 0, slots := 0, locals := 0 }) (zP D lyC cy ad [.ref (ad a0), .ref (ad a1)] M) (zQv D lyC cy ad (f_X0_copyFrom a0 a1 M)) 0 0 (zA lyC ad) := by
  generalize hres : (f_X0_copyFrom a0 a1 M) = res
  refine zMet (by decide) (Nat.le_of_ble_eq_true rfl) ?_
  intro p e s m args below meth c ls C0 hH hl
  obtain ⟨⟨hx, hb, hml, hown, hts⟩, -⟩ := id C0
  have hz : ∀ w ∈ zG, w.before args s = true := fun w h => hts w (List.mem_cons_of_mem _ h)
  have hl : lv_has ls 2 [(0, .ref (ad a0)), (1, .ref (ad a1))] := hl
  refine lv_aload_n hx hb dX0_copyFrom_0 rfl (lv_at hl 0 rfl) ?_
  refine lv_aload_n hx hb dX0_copyFrom_1 rfl (lv_at hl 1 rfl) ?_
  refine zgI C0 hH zK0 0 (by decide) ha1 rfl kF_X0_9 dX0_copyFrom_2 ?_
  refine zp C0 hH zK0 0 (by decide) ha0 rfl rfl zOk_int zcn kF_X0_9 dX0_copyFrom_5 (fun H locs hH => ?_)
  refine lv_aload_n hx hb dX0_copyFrom_8 rfl (lv_at hl 0 rfl) ?_
  refine lv_aload_n hx hb dX0_copyFrom_9 rfl (lv_at hl 1 rfl) ?_
  refine zgI C0 hH zK0 1 (by decide) ha1 rfl kF_X0_15 dX0_copyFrom_10 ?_
  refine zp C0 hH zK0 1 (by decide) ha0 rfl rfl zOk_int zcn kF_X0_15 dX0_copyFrom_13 (fun H locs hH => ?_)
  refine lv_aload_n hx hb dX0_copyFrom_16 rfl (lv_at hl 0 rfl) ?_
  refine lv_aload_n hx hb dX0_copyFrom_17 rfl (lv_at hl 1 rfl) ?_
  refine zgI C0 hH zK0 2 (by decide) ha1 rfl kF_X0_18 dX0_copyFrom_18 ?_
  refine zp C0 hH zK0 2 (by decide) ha0 rfl rfl zOk_int zcn kF_X0_18 dX0_copyFrom_21 (fun H locs hH => ?_)
  refine lv_aload_n hx hb dX0_copyFrom_24 rfl (lv_at hl 0 rfl) ?_
  refine lv_aload_n hx hb dX0_copyFrom_25 rfl (lv_at hl 1 rfl) ?_
  refine zgI C0 hH zK0 3 (by decide) ha1 rfl kF_X0_21 dX0_copyFrom_26 ?_
  refine zp C0 hH zK0 3 (by decide) ha0 rfl rfl zOk_int zcn kF_X0_21 dX0_copyFrom_29 (fun H locs hH => ?_)
  refine lv_aload_n hx hb dX0_copyFrom_32 rfl (lv_at hl 0 rfl) ?_
  refine lv_aload_n hx hb dX0_copyFrom_33 rfl (lv_at hl 1 rfl) ?_
  refine zgI C0 hH zK0 4 (by decide) ha1 rfl kF_X0_24 dX0_copyFrom_34 ?_
  refine zp C0 hH zK0 4 (by decide) ha0 rfl rfl zOk_int zcn kF_X0_24 dX0_copyFrom_37 (fun H locs hH => ?_)
  refine lv_aload_n hx hb dX0_copyFrom_40 rfl (lv_at hl 0 rfl) ?_
  refine lv_aload_n hx hb dX0_copyFrom_41 rfl (lv_at hl 1 rfl) ?_
  refine zgI C0 hH zK0 5 (by decide) ha1 rfl kF_X0_27 dX0_copyFrom_42 ?_
  refine zp C0 hH zK0 5 (by decide) ha0 rfl rfl zOk_int zcn kF_X0_27 dX0_copyFrom_45 (fun H locs hH => ?_)
  refine lv_aload_n hx hb dX0_copyFrom_48 rfl (lv_at hl 0 rfl) ?_
  refine lv_aload_n hx hb dX0_copyFrom_49 rfl (lv_at hl 1 rfl) ?_
  refine zgI C0 hH zK0 6 (by decide) ha1 rfl kF_X0_30 dX0_copyFrom_50 ?_
  refine zp C0 hH zK0 6 (by decide) ha0 rfl rfl zOk_int zcn kF_X0_30 dX0_copyFrom_53 (fun H locs hH => ?_)
  exact zretv C0 hH dX0_copyFrom_56 hres
set_option maxRecDepth 100000 in
set_option maxHeartbeats 4000000 in
theorem c_X3_isMissing (l : Launch) (D : va_G) (cy : Nat → ClassId) (ad : Nat → Nat) (M : zM) (a0 : Nat) (ha0 : zSh a0) : Met l yX3_isMissing (Cond.code yX3_isMissing cX3_isMissing 1 (some .boolean) :: zG) ({ frames := 0, cells := 0, slots := 0, locals := 0 }) (zP D lyC cy ad [.ref (ad a0)] M) (zQz D lyC cy ad (f_X3_isMissing a0 M) M) 0 0 (zA lyC ad) := by
  generalize hres : (f_X3_isMissing a0 M) = res
  refine zMet (by decide) (Nat.le_of_ble_eq_true rfl) ?_
  intro p e s m args below meth c ls C0 hH hl
  obtain ⟨⟨hx, hb, hml, hown, hts⟩, -⟩ := id C0
  have hz : ∀ w ∈ zG, w.before args s = true := fun w h => hts w (List.mem_cons_of_mem _ h)
  have hl : lv_has ls 1 [(0, .ref (ad a0))] := hl
  refine lv_aload_n hx hb dX3_isMissing_0 rfl (lv_at hl 0 rfl) ?_
  refine zgI C0 hH zK3 1 (by decide) ha0.is rfl kF_X3_15 dX3_isMissing_1 ?_
  refine lv_if_ne (tgt := 11) hx hb dX3_isMissing_4 (by decide) (fun c4_1 => ?_) (fun c4_1 => ?_)
  · have hres := zif_neg c4_1 hres
    refine lv_iconst (v := (0 : Int32)) hx hb dX3_isMissing_11 (by decide) ?_
    exact zretz C0 hH dX3_isMissing_12 (by first | exact Or.inl rfl | exact Or.inr rfl | assumption) hres rfl
  · have hres := zif_pos c4_1 hres
    refine lv_iconst (v := (1 : Int32)) hx hb dX3_isMissing_7 (by decide) ?_
    refine lv_goto (tgt := 12) hx hb dX3_isMissing_8 (by decide) ?_
    exact zretz C0 hH dX3_isMissing_12 (by first | exact Or.inl rfl | exact Or.inr rfl | assumption) hres rfl
set_option maxRecDepth 100000 in
set_option maxHeartbeats 4000000 in
theorem c_X3_begin (l : Launch) (D : va_G) (cy : Nat → ClassId) (ad : Nat → Nat) (M : zM) (a0 : Nat) (ha0 : zSh a0) (p1 : Int32) (p2 : Int32) (hn : 0 ≤ p2 ∧ p2 ≤ 40) : Met l yX3_begin (Cond.code yX3_begin cX3_begin 4 none :: zG) ({ frames := 0, cells := 0, slots := 0, locals := 0 }) (zP D lyC cy ad [.ref (ad a0), .int p1, .int p2] M) (zQv D lyC cy ad (f_X3_begin a0 p1 p2 M)) 0 0 (zA lyC ad) := by
  generalize hres : (f_X3_begin a0 p1 p2 M) = res
  refine zMet (by decide) (Nat.le_of_ble_eq_true rfl) ?_
  intro p e s m args below meth c ls C0 hH hl
  obtain ⟨⟨hx, hb, hml, hown, hts⟩, -⟩ := id C0
  have hz : ∀ w ∈ zG, w.before args s = true := fun w h => hts w (List.mem_cons_of_mem _ h)
  have hl : lv_has ls 4 [(0, .ref (ad a0)), (1, .int p1), (2, .int p2)] := hl
  have L20 : ∀ (n20 : Nat), ∀ (v3 : Int32) (mm : zM) (H : Heap) (locs : List Loc) (ls : Array Slot), (zCt 40 n20 v3) → zH D lyC cy ad s.heap mm H locs → lv_has ls 4 [(0, .ref (ad a0)), (3, .int v3)] → f_X3_begin_20 a0 p1 p2 n20 v3 mm = res → W p l e { frames := 0, cells := 0, slots := 0, locals := 0 } s m args below meth c H locs 0 0 (MQ below (zQv D lyC cy ad res) args s 0 0 (zA lyC ad)) (F0 m 20 ls []) := by
    intro n20
    induction n20 with
    | zero =>
      intro v3 mm H locs ls hct hH hl hres
      exfalso; exact hct.zero
    | succ n20 ih20 =>
      intro v3 mm H locs ls hct hH hl hres
      refine lv_iload_n hx hb dX3_begin_20 rfl (lv_at hl 1 rfl) ?_
      refine lv_bipush (v := (40 : Int32)) hx hb dX3_begin_21 (by decide) ?_
      refine lv_icmp_ge (tgt := 39) hx hb dX3_begin_23 (by decide) (fun c23_4 => ?_) (fun c23_4 => ?_)
      · have hres := zif_pos c23_4 hres
        exact zretv C0 hH dX3_begin_39 hres
      · have hres := zif_neg c23_4 hres
        refine lv_aload_n hx hb dX3_begin_26 rfl (lv_at hl 0 rfl) ?_
        refine zgR C0 hH zK3 0 (by decide) _ ha0.is rfl kF_X3_9 dX3_begin_27 ?_
        refine lv_iload_n hx hb dX3_begin_30 rfl (lv_at hl 1 rfl) ?_
        refine lv_lconst (v := (0 : Int64)) hx hb dX3_begin_31 (by decide) ?_
        refine zlst C0 hH ha0.arr ha0.ln (by exact zin40.mpr (by have q0 := hH.sh ha0; have q1 := hH.sh ha0; obtain ⟨qa, qb, -⟩ := hct; clear hres; grind [f_X5_within, f_X2_has])) dX3_begin_32 (fun H locs hH => ?_)
        refine ziinc (lv' := [(3, _), (0, _)]) (k := 1) hx hb (1 : Int32) (by decide) dX3_begin_33 hl rfl (by decide) rfl (fun ls hl => ?_)
        refine lv_goto (tgt := 20) hx hb dX3_begin_36 (by decide) ?_
        exact ih20 _ _ _ _ _ (by first | exact zCt.start (by decide) (by decide) | exact zCt.step (m := 40) hct (by clear hres; grind [f_X5_within, f_X2_has]) (by decide)) hH (lv_sub hl [1, 0] rfl) hres
  have J15 : ∀ (s0 : Int32) (mm : zM) (H : Heap) (locs : List Loc) (ls : Array Slot), (0 ≤ s0 ∧ s0 ≤ 40) → zH D lyC cy ad s.heap mm H locs → lv_has ls 4 [(0, .ref (ad a0))] → f_X3_begin_15 a0 p1 p2 s0 mm = res → W p l e { frames := 0, cells := 0, slots := 0, locals := 0 } s m args below meth c H locs 0 0 (MQ below (zQv D lyC cy ad res) args s 0 0 (zA lyC ad)) (F0 m 15 ls [.int s0, .ref (ad a0)]) := by
    intro s0 mm H locs ls hs hH hl hres
    refine zp C0 hH zK3 2 (by decide) ha0.is rfl rfl zOk_int (zcs (by first | decide | (have q0 := hH.sh ha0; clear hres; grind [f_X5_within, f_X2_has]))) kF_X3_19 dX3_begin_15 (fun H locs hH => ?_)
    refine lv_iconst (v := (0 : Int32)) hx hb dX3_begin_18 (by decide) ?_
    refine lv_istore_n (lv' := [(3, _), (0, _)]) hx hb dX3_begin_19 rfl hl (by decide) rfl (fun ls hl => ?_)
    exact L20 _ _ _ _ _ _ (by first | exact zCt.start (by decide) (by decide) | exact zCt.step (m := 40) hct (by clear hres; grind [f_X5_within, f_X2_has]) (by decide)) hH (lv_sub hl [1, 0] rfl) hres
  refine lv_aload_n hx hb dX3_begin_0 rfl (lv_at hl 0 rfl) ?_
  refine lv_iload_n hx hb dX3_begin_1 rfl (lv_at hl 1 rfl) ?_
  refine zp C0 hH zK3 1 (by decide) ha0.is rfl rfl zOk_int zcn kF_X3_15 dX3_begin_2 (fun H locs hH => ?_)
  refine lv_aload_n hx hb dX3_begin_5 rfl (lv_at hl 0 rfl) ?_
  refine lv_iload_n hx hb dX3_begin_6 rfl (lv_at hl 1 rfl) ?_
  refine lv_if_ne (tgt := 14) hx hb dX3_begin_7 (by decide) (fun c7_2 => ?_) (fun c7_2 => ?_)
  · have hres := zif_neg c7_2 hres
    refine lv_iload_n hx hb dX3_begin_14 rfl (lv_at hl 2 rfl) ?_
    exact J15 _ _ _ _ _ (by first | assumption | decide) hH (lv_sub hl [0] rfl) hres
  · have hres := zif_pos c7_2 hres
    refine lv_iconst (v := (0 : Int32)) hx hb dX3_begin_10 (by decide) ?_
    refine lv_goto (tgt := 15) hx hb dX3_begin_11 (by decide) ?_
    exact J15 _ _ _ _ _ (by first | assumption | decide) hH (lv_sub hl [0] rfl) hres
set_option maxRecDepth 100000 in
set_option maxHeartbeats 4000000 in
theorem c_X3_lowestBits (l : Launch) (D : va_G) (cy : Nat → ClassId) (ad : Nat → Nat) (M : zM) (a0 : Nat) (ha0 : zSh a0) (p1 : Int64) : Met l yX3_lowestBits (Cond.code yX3_lowestBits cX3_lowestBits 3 (some .long) :: zG) ({ frames := 0, cells := 0, slots := 0, locals := 0 }) (zP D lyC cy ad [.ref (ad a0), .long p1] M) (zQl D lyC cy ad (f_X3_lowestBits a0 p1 M) M) 0 0 (zA lyC ad) := by
  generalize hres : (f_X3_lowestBits a0 p1 M) = res
  refine zMet (by decide) (Nat.le_of_ble_eq_true rfl) ?_
  intro p e s m args below meth c ls C0 hH hl
  obtain ⟨⟨hx, hb, hml, hown, hts⟩, -⟩ := id C0
  have hz : ∀ w ∈ zG, w.before args s = true := fun w h => hts w (List.mem_cons_of_mem _ h)
  have hl : lv_has ls 3 [(0, .ref (ad a0)), (1, .long p1)] := hl
  refine lv_aload_n hx hb dX3_lowestBits_0 rfl (lv_at hl 0 rfl) ?_
  refine zgI C0 hH zK3 1 (by decide) ha0.is rfl kF_X3_15 dX3_lowestBits_1 ?_
  refine zcase hres (fun c4_1_8 hres => ?_) (fun c4_1_8 hres => ?_)
  · refine zlook (tgt := 32) (off := 28) hx hb c4_1_8 dX3_lowestBits_4 (by decide) (by decide) (by decide) ?_
    refine lv_lload_n hx hb dX3_lowestBits_32 rfl (lv_at hl 1 rfl) ?_
    refine lv_l2i hx hb dX3_lowestBits_33 rfl ?_
    refine lv_i2b hx hb dX3_lowestBits_34 rfl ?_
    refine lv_i2l hx hb dX3_lowestBits_35 rfl ?_
    exact zretl C0 hH dX3_lowestBits_36 hres rfl
  · skip
    refine zcase hres (fun c4_1_16 hres => ?_) (fun c4_1_16 hres => ?_)
    · refine zlook (tgt := 37) (off := 33) hx hb c4_1_16 dX3_lowestBits_4 (by decide) (by decide) (by decide) ?_
      refine lv_lload_n hx hb dX3_lowestBits_37 rfl (lv_at hl 1 rfl) ?_
      refine lv_l2i hx hb dX3_lowestBits_38 rfl ?_
      refine lv_i2s hx hb dX3_lowestBits_39 rfl ?_
      refine lv_i2l hx hb dX3_lowestBits_40 rfl ?_
      exact zretl C0 hH dX3_lowestBits_41 hres rfl
    · skip
      refine lv_lookup (tgt := 42) (off := 38) hx hb dX3_lowestBits_4 (by decide) ((lv_osw c4_1_8 (by decide)).trans ((lv_osw c4_1_16 (by decide)).trans rfl)) (by decide) ?_
      refine lv_lload_n hx hb dX3_lowestBits_42 rfl (lv_at hl 1 rfl) ?_
      exact zretl C0 hH dX3_lowestBits_43 hres rfl
set_option maxRecDepth 100000 in
set_option maxHeartbeats 4000000 in
theorem c_X3_hasPart (l : Launch) (D : va_G) (cy : Nat → ClassId) (ad : Nat → Nat) (M : zM) (a0 : Nat) (ha0 : zSh a0) (p1 : Int32) (p2 : Int32) : Met l yX3_hasPart (Cond.code yX3_hasPart cX3_hasPart 3 (some .boolean) :: zG) ({ frames := 0, cells := 0, slots := 0, locals := 0 }) (zP D lyC cy ad [.ref (ad a0), .int p1, .int p2] M) (zQz D lyC cy ad (f_X3_hasPart a0 p1 p2 M) M) 0 0 (zA lyC ad) := by
  generalize hres : (f_X3_hasPart a0 p1 p2 M) = res
  refine zMet (by decide) (Nat.le_of_ble_eq_true rfl) ?_
  intro p e s m args below meth c ls C0 hH hl
  obtain ⟨⟨hx, hb, hml, hown, hts⟩, -⟩ := id C0
  have hz : ∀ w ∈ zG, w.before args s = true := fun w h => hts w (List.mem_cons_of_mem _ h)
  have hl : lv_has ls 3 [(0, .ref (ad a0)), (1, .int p1), (2, .int p2)] := hl
  refine lv_iload_n hx hb dX3_hasPart_0 rfl (lv_at hl 1 rfl) ?_
  refine lv_if_lt (tgt := 30) hx hb dX3_hasPart_1 (by decide) (fun c1_1 => ?_) (fun c1_1 => ?_)
  · have hres := zif_pos c1_1 hres
    refine lv_iconst (v := (0 : Int32)) hx hb dX3_hasPart_30 (by decide) ?_
    exact zretz C0 hH dX3_hasPart_31 (by first | exact Or.inl rfl | exact Or.inr rfl | assumption) hres rfl
  · have hres := zif_neg c1_1 hres
    refine lv_iload_n hx hb dX3_hasPart_4 rfl (lv_at hl 2 rfl) ?_
    refine lv_if_lt (tgt := 30) hx hb dX3_hasPart_5 (by decide) (fun c5_2 => ?_) (fun c5_2 => ?_)
    · have hres := zif_pos c5_2 hres
      refine lv_iconst (v := (0 : Int32)) hx hb dX3_hasPart_30 (by decide) ?_
      exact zretz C0 hH dX3_hasPart_31 (by first | exact Or.inl rfl | exact Or.inr rfl | assumption) hres rfl
    · have hres := zif_neg c5_2 hres
      refine lv_iload_n hx hb dX3_hasPart_8 rfl (lv_at hl 2 rfl) ?_
      refine lv_aload_n hx hb dX3_hasPart_9 rfl (lv_at hl 0 rfl) ?_
      refine zgI C0 hH zK3 2 (by decide) ha0.is rfl kF_X3_19 dX3_hasPart_10 ?_
      refine lv_icmp_gt (tgt := 30) hx hb dX3_hasPart_13 (by decide) (fun c13_3 => ?_) (fun c13_3 => ?_)
      · have hres := zif_pos c13_3 hres
        refine lv_iconst (v := (0 : Int32)) hx hb dX3_hasPart_30 (by decide) ?_
        exact zretz C0 hH dX3_hasPart_31 (by first | exact Or.inl rfl | exact Or.inr rfl | assumption) hres rfl
      · have hres := zif_neg c13_3 hres
        refine lv_iload_n hx hb dX3_hasPart_16 rfl (lv_at hl 1 rfl) ?_
        refine lv_aload_n hx hb dX3_hasPart_17 rfl (lv_at hl 0 rfl) ?_
        refine zgI C0 hH zK3 2 (by decide) ha0.is rfl kF_X3_19 dX3_hasPart_18 ?_
        refine lv_iload_n hx hb dX3_hasPart_21 rfl (lv_at hl 2 rfl) ?_
        refine lv_isub hx hb dX3_hasPart_22 ?_
        refine lv_icmp_gt (tgt := 30) hx hb dX3_hasPart_23 (by decide) (fun c23_4 => ?_) (fun c23_4 => ?_)
        · have hres := zif_pos c23_4 hres
          refine lv_iconst (v := (0 : Int32)) hx hb dX3_hasPart_30 (by decide) ?_
          exact zretz C0 hH dX3_hasPart_31 (by first | exact Or.inl rfl | exact Or.inr rfl | assumption) hres rfl
        · have hres := zif_neg c23_4 hres
          refine lv_iconst (v := (1 : Int32)) hx hb dX3_hasPart_26 (by decide) ?_
          refine lv_goto (tgt := 31) hx hb dX3_hasPart_27 (by decide) ?_
          exact zretz C0 hH dX3_hasPart_31 (by first | exact Or.inl rfl | exact Or.inr rfl | assumption) hres rfl
set_option maxRecDepth 100000 in
set_option maxHeartbeats 4000000 in
theorem c_X1_copyFrom (l : Launch) (D : va_G) (cy : Nat → ClassId) (ad : Nat → Nat) (M : zM) (a0 : Nat) (ha0 : zBk a0) (a1 : Nat) (ha1 : zBk a1) : Met l yX1_copyFrom (Cond.code yX1_copyFrom cX1_copyFrom 2 none :: zG) ({ frames := 1, cells := 0, slots := 0, locals := 28 }) (zP D lyC cy ad [.ref (ad a0), .ref (ad a1)] M) (zQv D lyC cy ad (f_X1_copyFrom a0 a1 M)) 0 0 (zA lyC ad) := by
  generalize hres : (f_X1_copyFrom a0 a1 M) = res
  refine zMet (by decide) (Nat.le_of_ble_eq_true rfl) ?_
  intro p e s m args below meth c ls C0 hH hl
  obtain ⟨⟨hx, hb, hml, hown, hts⟩, -⟩ := id C0
  have hz : ∀ w ∈ zG, w.before args s = true := fun w h => hts w (List.mem_cons_of_mem _ h)
  have hl : lv_has ls 2 [(0, .ref (ad a0)), (1, .ref (ad a1))] := hl
  refine lv_aload_n hx hb dX1_copyFrom_0 rfl (lv_at hl 1 rfl) ?_
  refine zgR C0 hH zK1 0 (by decide) _ ha1.is rfl kF_X1_9 dX1_copyFrom_1 ?_
  refine lv_iconst (v := (0 : Int32)) hx hb dX1_copyFrom_4 (by decide) ?_
  refine lv_aload_n hx hb dX1_copyFrom_5 rfl (lv_at hl 0 rfl) ?_
  refine zgR C0 hH zK1 0 (by decide) _ ha0.is rfl kF_X1_9 dX1_copyFrom_6 ?_
  refine lv_iconst (v := (0 : Int32)) hx hb dX1_copyFrom_9 (by decide) ?_
  refine lv_bipush (v := (100 : Int32)) hx hb dX1_copyFrom_10 (by decide) ?_
  refine zcpyi C0 hH hl.1 kM_X1_37 ha1.a1 ha1.l1 ha0.a1 ha0.l1 (by decide) (by decide) (by decide) (by decide) (fun _ => zcn) (by decide) (by exact Nat.le_of_ble_eq_true rfl) (by exact Nat.le_of_ble_eq_true rfl) dX1_copyFrom_12 (fun H locs hH => ?_)
  refine lv_aload_n hx hb dX1_copyFrom_15 rfl (lv_at hl 1 rfl) ?_
  refine zgR C0 hH zK1 1 (by decide) _ ha1.is rfl kF_X1_15 dX1_copyFrom_16 ?_
  refine lv_iconst (v := (0 : Int32)) hx hb dX1_copyFrom_19 (by decide) ?_
  refine lv_aload_n hx hb dX1_copyFrom_20 rfl (lv_at hl 0 rfl) ?_
  refine zgR C0 hH zK1 1 (by decide) _ ha0.is rfl kF_X1_15 dX1_copyFrom_21 ?_
  refine lv_iconst (v := (0 : Int32)) hx hb dX1_copyFrom_24 (by decide) ?_
  refine lv_bipush (v := (100 : Int32)) hx hb dX1_copyFrom_25 (by decide) ?_
  refine zcpyi C0 hH hl.1 kM_X1_37 ha1.a2 ha1.l2 ha0.a2 ha0.l2 (by decide) (by decide) (by decide) (by decide) (fun _ => zcn) (by decide) (by exact Nat.le_of_ble_eq_true rfl) (by exact Nat.le_of_ble_eq_true rfl) dX1_copyFrom_27 (fun H locs hH => ?_)
  refine lv_aload_n hx hb dX1_copyFrom_30 rfl (lv_at hl 1 rfl) ?_
  refine zgR C0 hH zK1 2 (by decide) _ ha1.is rfl kF_X1_18 dX1_copyFrom_31 ?_
  refine lv_iconst (v := (0 : Int32)) hx hb dX1_copyFrom_34 (by decide) ?_
  refine lv_aload_n hx hb dX1_copyFrom_35 rfl (lv_at hl 0 rfl) ?_
  refine zgR C0 hH zK1 2 (by decide) _ ha0.is rfl kF_X1_18 dX1_copyFrom_36 ?_
  refine lv_iconst (v := (0 : Int32)) hx hb dX1_copyFrom_39 (by decide) ?_
  refine lv_bipush (v := (100 : Int32)) hx hb dX1_copyFrom_40 (by decide) ?_
  refine zcpyi C0 hH hl.1 kM_X1_37 ha1.a3 ha1.l3 ha0.a3 ha0.l3 (by decide) (by decide) (by decide) (by decide) (fun _ => zcn) (by decide) (by exact Nat.le_of_ble_eq_true rfl) (by exact Nat.le_of_ble_eq_true rfl) dX1_copyFrom_42 (fun H locs hH => ?_)
  refine lv_aload_n hx hb dX1_copyFrom_45 rfl (lv_at hl 1 rfl) ?_
  refine zgR C0 hH zK1 3 (by decide) _ ha1.is rfl kF_X1_21 dX1_copyFrom_46 ?_
  refine lv_iconst (v := (0 : Int32)) hx hb dX1_copyFrom_49 (by decide) ?_
  refine lv_aload_n hx hb dX1_copyFrom_50 rfl (lv_at hl 0 rfl) ?_
  refine zgR C0 hH zK1 3 (by decide) _ ha0.is rfl kF_X1_21 dX1_copyFrom_51 ?_
  refine lv_iconst (v := (0 : Int32)) hx hb dX1_copyFrom_54 (by decide) ?_
  refine lv_bipush (v := (7 : Int32)) hx hb dX1_copyFrom_55 (by decide) ?_
  refine zcpyi C0 hH hl.1 kM_X1_37 ha1.a4 ha1.l4 ha0.a4 ha0.l4 (by decide) (by decide) (by decide) (by decide) (fun _ => zcn) (by decide) (by exact Nat.le_of_ble_eq_true rfl) (by exact Nat.le_of_ble_eq_true rfl) dX1_copyFrom_57 (fun H locs hH => ?_)
  refine lv_aload_n hx hb dX1_copyFrom_60 rfl (lv_at hl 0 rfl) ?_
  refine lv_aload_n hx hb dX1_copyFrom_61 rfl (lv_at hl 1 rfl) ?_
  refine zgI C0 hH zK1 4 (by decide) ha1.is rfl kF_X1_24 dX1_copyFrom_62 ?_
  refine zp C0 hH zK1 4 (by decide) ha0.is rfl rfl zOk_int (zcs (by exact hH.bkl ha1)) kF_X1_24 dX1_copyFrom_65 (fun H locs hH => ?_)
  refine lv_aload_n hx hb dX1_copyFrom_68 rfl (lv_at hl 0 rfl) ?_
  refine lv_aload_n hx hb dX1_copyFrom_69 rfl (lv_at hl 1 rfl) ?_
  refine zgI C0 hH zK1 5 (by decide) ha1.is rfl kF_X1_28 dX1_copyFrom_70 ?_
  refine zp C0 hH zK1 5 (by decide) ha0.is rfl rfl zOk_int (zcs (by exact hH.bkn ha1)) kF_X1_28 dX1_copyFrom_73 (fun H locs hH => ?_)
  refine lv_aload_n hx hb dX1_copyFrom_76 rfl (lv_at hl 0 rfl) ?_
  refine lv_aload_n hx hb dX1_copyFrom_77 rfl (lv_at hl 1 rfl) ?_
  refine zgI C0 hH zK1 6 (by decide) ha1.is rfl kF_X1_31 dX1_copyFrom_78 ?_
  refine zp C0 hH zK1 6 (by decide) ha0.is rfl rfl zOk_int zcn kF_X1_31 dX1_copyFrom_81 (fun H locs hH => ?_)
  refine lv_aload_n hx hb dX1_copyFrom_84 rfl (lv_at hl 0 rfl) ?_
  refine lv_aload_n hx hb dX1_copyFrom_85 rfl (lv_at hl 1 rfl) ?_
  refine zgI C0 hH zK1 7 (by decide) ha1.is rfl kF_X1_34 dX1_copyFrom_86 ?_
  refine zp C0 hH zK1 7 (by decide) ha0.is rfl rfl zOk_int zcn kF_X1_34 dX1_copyFrom_89 (fun H locs hH => ?_)
  exact zretv C0 hH dX1_copyFrom_92 hres
