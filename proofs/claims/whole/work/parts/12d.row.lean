set_option maxRecDepth 100000 in
set_option maxHeartbeats 4000000 in
theorem c_X4_begin (l : Launch) (D : va_G) (cy : Nat → ClassId) (ad : Nat → Nat) (M : zM) (a0 : Nat) (ha0 : zTxt a0) : Met l yX4_begin (Cond.code yX4_begin cX4_begin 1 none :: zG) ({ frames := 0, cells := 0, slots := 0, locals := 0 }) (zP D lyC cy ad [.ref (ad a0)] M) (zQv D lyC cy ad (f_X4_begin a0 M)) 0 0 (zA lyC ad) := by
  generalize hres : (f_X4_begin a0 M) = res
  refine zMet (by decide) (Nat.le_of_ble_eq_true rfl) ?_
  intro p e s m args below meth c ls C0 hH hl
  obtain ⟨⟨hx, hb, hml, hown, hts⟩, -⟩ := id C0
  have hz : ∀ w ∈ zG, w.before args s = true := fun w h => hts w (List.mem_cons_of_mem _ h)
  have hl : lv_has ls 1 [(0, .ref (ad a0))] := hl
  refine lv_aload_n hx hb dX4_begin_0 rfl (lv_at hl 0 rfl) ?_
  refine lv_iconst (v := (0 : Int32)) hx hb dX4_begin_1 (by decide) ?_
  refine zp C0 hH zK4 2 (by decide) ha0.is rfl rfl zOk_int (zcs (by first | decide | (have q0 := hH.txt ha0; have q1 := hH.txa ha0; clear hres; grind [f_X5_within, f_X2_has]))) kF_X4_35 dX4_begin_2 (fun H locs hH => ?_)
  refine lv_aload_n hx hb dX4_begin_5 rfl (lv_at hl 0 rfl) ?_
  refine lv_iconst (v := (-1 : Int32)) hx hb dX4_begin_6 (by decide) ?_
  refine zp C0 hH zK4 4 (by decide) ha0.is rfl rfl zOk_int zcn kF_X4_32 dX4_begin_7 (fun H locs hH => ?_)
  refine lv_aload_n hx hb dX4_begin_10 rfl (lv_at hl 0 rfl) ?_
  refine lv_aload_n hx hb dX4_begin_11 rfl (lv_at hl 0 rfl) ?_
  refine zgI C0 hH zK4 1 (by decide) ha0.is rfl kF_X4_15 dX4_begin_12 ?_
  refine lv_if_le (tgt := 27) hx hb dX4_begin_15 (by decide) (fun c15_3 => ?_) (fun c15_3 => ?_)
  · have hres := zif_pos c15_3 hres
    refine lv_iconst (v := (-1 : Int32)) hx hb dX4_begin_27 (by decide) ?_
    refine zp C0 hH zK4 3 (by decide) ha0.is rfl rfl zOk_int zcn kF_X4_61 dX4_begin_28 (fun H locs hH => ?_)
    exact zretv C0 hH dX4_begin_31 hres
  · have hres := zif_neg c15_3 hres
    refine lv_aload_n hx hb dX4_begin_18 rfl (lv_at hl 0 rfl) ?_
    refine zgR C0 hH zK4 0 (by decide) _ ha0.is rfl kF_X4_9 dX4_begin_19 ?_
    refine lv_iconst (v := (0 : Int32)) hx hb dX4_begin_22 (by decide) ?_
    refine zaldK C0 hH ha0.arr ha0.ln (k := 0) (by decide) (by unfold vp_in; decide) dX4_begin_23 ?_
    refine lv_goto (tgt := 28) hx hb dX4_begin_24 (by decide) ?_
    refine zp C0 hH zK4 3 (by decide) ha0.is rfl rfl zOk_int zcn kF_X4_61 dX4_begin_28 (fun H locs hH => ?_)
    exact zretv C0 hH dX4_begin_31 hres
set_option maxRecDepth 100000 in
set_option maxHeartbeats 4000000 in
theorem c_X4_findFault (l : Launch) (D : va_G) (cy : Nat → ClassId) (ad : Nat → Nat) (M : zM) (a0 : Nat) (ha0 : zTxt a0) : Met l yX4_findFault (Cond.code yX4_findFault cX4_findFault 1 (some .int) :: zG) ({ frames := 22, cells := 0, slots := 0, locals := 846 }) (zP D lyC cy ad [.ref (ad a0)] M) (zQi D lyC cy ad (f_X4_findFault a0 M).1 (f_X4_findFault a0 M).2) 0 0 (zA lyC ad) := by
  generalize hres : (f_X4_findFault a0 M) = res
  refine zMet (by decide) (Nat.le_of_ble_eq_true rfl) ?_
  intro p e s m args below meth c ls C0 hH hl
  obtain ⟨⟨hx, hb, hml, hown, hts⟩, -⟩ := id C0
  have hz : ∀ w ∈ zG, w.before args s = true := fun w h => hts w (List.mem_cons_of_mem _ h)
  have hl : lv_has ls 1 [(0, .ref (ad a0))] := hl
  refine lv_aload_n hx hb dX4_findFault_0 rfl (lv_at hl 0 rfl) ?_
  refine zcv (zrunV C0 hH (c_X4_begin l D cy ad _ _ ha0) kM_X4_25 zK4 kq_X4_begin ha0.is rfl hl.1 rfl rfl rfl ⟨Nat.le_of_ble_eq_true rfl, Nat.le_of_ble_eq_true rfl⟩ (Nat.le_of_ble_eq_true rfl) dX4_findFault_1) hH (fun H locs hH => ?_)
  refine lv_aload_n hx hb dX4_findFault_4 rfl (lv_at hl 0 rfl) ?_
  refine lv_iconst (v := (0 : Int32)) hx hb dX4_findFault_5 (by decide) ?_
  refine zci (zrunV C0 hH (c_X4_sum l D cy ad _ _ ha0 _ (by exact rfl)) kM_X4_28 zK4 kq_X4_sum ha0.is rfl hl.1 rfl rfl rfl ⟨Nat.le_of_ble_eq_true rfl, Nat.le_of_ble_eq_true rfl⟩ (Nat.le_of_ble_eq_true rfl) dX4_findFault_6) hH (fun H locs hH => ?_)
  refine lv_pop hx hb dX4_findFault_9 rfl ?_
  refine lv_aload_n hx hb dX4_findFault_10 rfl (lv_at hl 0 rfl) ?_
  refine zgI C0 hH zK4 4 (by decide) ha0.is rfl kF_X4_32 dX4_findFault_11 ?_
  refine lv_if_ge (tgt := 36) hx hb dX4_findFault_14 (by decide) (fun c14_3 => ?_) (fun c14_3 => ?_)
  · have hres := zif_pos c14_3 hres
    refine lv_aload_n hx hb dX4_findFault_36 rfl (lv_at hl 0 rfl) ?_
    refine zgI C0 hH zK4 4 (by decide) ha0.is rfl kF_X4_32 dX4_findFault_37 ?_
    exact zreti C0 hH dX4_findFault_40 (zfst hres) (zsnd hres)
  · have hres := zif_neg c14_3 hres
    refine lv_aload_n hx hb dX4_findFault_17 rfl (lv_at hl 0 rfl) ?_
    refine zgI C0 hH zK4 2 (by decide) ha0.is rfl kF_X4_35 dX4_findFault_18 ?_
    refine lv_aload_n hx hb dX4_findFault_21 rfl (lv_at hl 0 rfl) ?_
    refine zgI C0 hH zK4 1 (by decide) ha0.is rfl kF_X4_15 dX4_findFault_22 ?_
    refine lv_icmp_ge (tgt := 36) hx hb dX4_findFault_25 (by decide) (fun c25_4 => ?_) (fun c25_4 => ?_)
    · have hres := zif_pos c25_4 hres
      refine lv_aload_n hx hb dX4_findFault_36 rfl (lv_at hl 0 rfl) ?_
      refine zgI C0 hH zK4 4 (by decide) ha0.is rfl kF_X4_32 dX4_findFault_37 ?_
      exact zreti C0 hH dX4_findFault_40 (zfst hres) (zsnd hres)
    · have hres := zif_neg c25_4 hres
      refine lv_aload_n hx hb dX4_findFault_28 rfl (lv_at hl 0 rfl) ?_
      refine lv_aload_n hx hb dX4_findFault_29 rfl (lv_at hl 0 rfl) ?_
      refine zgI C0 hH zK4 2 (by decide) ha0.is rfl kF_X4_35 dX4_findFault_30 ?_
      refine zp C0 hH zK4 4 (by decide) ha0.is rfl rfl zOk_int zcn kF_X4_32 dX4_findFault_33 (fun H locs hH => ?_)
      refine lv_aload_n hx hb dX4_findFault_36 rfl (lv_at hl 0 rfl) ?_
      refine zgI C0 hH zK4 4 (by decide) ha0.is rfl kF_X4_32 dX4_findFault_37 ?_
      exact zreti C0 hH dX4_findFault_40 (zfst hres) (zsnd hres)
set_option maxRecDepth 100000 in
set_option maxHeartbeats 4000000 in
theorem c_X4_valueFor (l : Launch) (D : va_G) (cy : Nat → ClassId) (ad : Nat → Nat) (M : zM) (a0 : Nat) (ha0 : zTxt a0) (a1 : Nat) (ha1 : zBl a1) (p2 : Int32) (p3 : Int32) (p4 : Int32) : Met l yX4_valueFor (Cond.code yX4_valueFor cX4_valueFor 5 (some .int) :: zG) ({ frames := 22, cells := 0, slots := 0, locals := 846 }) (zP D lyC cy ad [.ref (ad a0), .ref (ad a1), .int p2, .int p3, .int p4] M) (zQi D lyC cy ad (f_X4_valueFor a0 a1 p2 p3 p4 M).1 (f_X4_valueFor a0 a1 p2 p3 p4 M).2) 0 0 (zA lyC ad) := by
  generalize hres : (f_X4_valueFor a0 a1 p2 p3 p4 M) = res
  refine zMet (by decide) (Nat.le_of_ble_eq_true rfl) ?_
  intro p e s m args below meth c ls C0 hH hl
  obtain ⟨⟨hx, hb, hml, hown, hts⟩, -⟩ := id C0
  have hz : ∀ w ∈ zG, w.before args s = true := fun w h => hts w (List.mem_cons_of_mem _ h)
  have hl : lv_has ls 5 [(0, .ref (ad a0)), (1, .ref (ad a1)), (2, .int p2), (3, .int p3), (4, .int p4)] := hl
  refine lv_aload_n hx hb dX4_valueFor_0 rfl (lv_at hl 0 rfl) ?_
  refine lv_iload hx hb dX4_valueFor_1 (lv_at hl 4 rfl) ?_
  refine zp C0 hH zK4 5 (by decide) ha0.is rfl rfl zOk_int zcn kF_X4_38 dX4_valueFor_3 (fun H locs hH => ?_)
  refine lv_aload_n hx hb dX4_valueFor_6 rfl (lv_at hl 0 rfl) ?_
  refine lv_aload_n hx hb dX4_valueFor_7 rfl (lv_at hl 1 rfl) ?_
  refine zgIN C0 hH zK0 1 (by decide) ha1 rfl kN_X4_41 dX4_valueFor_8 ?_
  refine zp C0 hH zK4 6 (by decide) ha0.is rfl rfl zOk_int zcn kF_X4_46 dX4_valueFor_11 (fun H locs hH => ?_)
  refine lv_aload_n hx hb dX4_valueFor_14 rfl (lv_at hl 0 rfl) ?_
  refine lv_aload_n hx hb dX4_valueFor_15 rfl (lv_at hl 1 rfl) ?_
  refine zgIN C0 hH zK0 2 (by decide) ha1 rfl kN_X4_47 dX4_valueFor_16 ?_
  refine zp C0 hH zK4 7 (by decide) ha0.is rfl rfl zOk_int zcn kF_X4_50 dX4_valueFor_19 (fun H locs hH => ?_)
  refine lv_aload_n hx hb dX4_valueFor_22 rfl (lv_at hl 0 rfl) ?_
  refine lv_iload_n hx hb dX4_valueFor_23 rfl (lv_at hl 2 rfl) ?_
  refine zp C0 hH zK4 8 (by decide) ha0.is rfl rfl zOk_int zcn kF_X4_51 dX4_valueFor_24 (fun H locs hH => ?_)
  refine lv_aload_n hx hb dX4_valueFor_27 rfl (lv_at hl 0 rfl) ?_
  refine lv_aload_n hx hb dX4_valueFor_28 rfl (lv_at hl 1 rfl) ?_
  refine zgIN C0 hH zK0 4 (by decide) ha1 rfl kN_X4_54 dX4_valueFor_29 ?_
  refine zp C0 hH zK4 9 (by decide) ha0.is rfl rfl zOk_int zcn kF_X4_57 dX4_valueFor_32 (fun H locs hH => ?_)
  refine lv_aload_n hx hb dX4_valueFor_35 rfl (lv_at hl 0 rfl) ?_
  refine lv_iload_n hx hb dX4_valueFor_36 rfl (lv_at hl 3 rfl) ?_
  refine zp C0 hH zK4 10 (by decide) ha0.is rfl rfl zOk_int zcn kF_X4_58 dX4_valueFor_37 (fun H locs hH => ?_)
  refine lv_aload_n hx hb dX4_valueFor_40 rfl (lv_at hl 0 rfl) ?_
  refine zcv (zrunV C0 hH (c_X4_begin l D cy ad _ _ ha0) kM_X4_25 zK4 kq_X4_begin ha0.is rfl hl.1 rfl rfl rfl ⟨Nat.le_of_ble_eq_true rfl, Nat.le_of_ble_eq_true rfl⟩ (Nat.le_of_ble_eq_true rfl) dX4_valueFor_41) hH (fun H locs hH => ?_)
  refine lv_aload_n hx hb dX4_valueFor_44 rfl (lv_at hl 0 rfl) ?_
  refine lv_iconst (v := (0 : Int32)) hx hb dX4_valueFor_45 (by decide) ?_
  refine zci (zrunV C0 hH (c_X4_sum l D cy ad _ _ ha0 _ (by exact rfl)) kM_X4_28 zK4 kq_X4_sum ha0.is rfl hl.1 rfl rfl rfl ⟨Nat.le_of_ble_eq_true rfl, Nat.le_of_ble_eq_true rfl⟩ (Nat.le_of_ble_eq_true rfl) dX4_valueFor_46) hH (fun H locs hH => ?_)
  exact zreti C0 hH dX4_valueFor_49 (zfst hres) (zsnd hres)
set_option maxRecDepth 100000 in
set_option maxHeartbeats 4000000 in
theorem c_X2_holdsOf (l : Launch) (D : va_G) (cy : Nat → ClassId) (ad : Nat → Nat) (M : zM) (a0 : Nat) (ha0 : zRow a0) (p1 : Int32) (p2 : Int32) (hb : 0 ≤ p1 ∧ p1 < 10) : Met l yX2_holdsOf (Cond.code yX2_holdsOf cX2_holdsOf 4 (some .int) :: zG) ({ frames := 23, cells := 0, slots := 0, locals := 870 }) (zP D lyC cy ad [.ref (ad a0), .int p1, .int p2] M) (zQi D lyC cy ad (f_X2_holdsOf a0 p1 p2 M).1 (f_X2_holdsOf a0 p1 p2 M).2) 0 0 (zA lyC ad) := by
  generalize hres : (f_X2_holdsOf a0 p1 p2 M) = res
  refine zMet (by decide) (Nat.le_of_ble_eq_true rfl) ?_
  intro p e s m args below meth c ls C0 hH hl
  obtain ⟨⟨hx, hb, hml, hown, hts⟩, -⟩ := id C0
  have hz : ∀ w ∈ zG, w.before args s = true := fun w h => hts w (List.mem_cons_of_mem _ h)
  have hl : lv_has ls 4 [(0, .ref (ad a0)), (1, .int p1), (2, .int p2)] := hl
  refine lv_aload_n hx hb dX2_holdsOf_0 rfl (lv_at hl 0 rfl) ?_
  refine zgR C0 hH zK2 0 (by decide) _ ha0.is rfl kF_X2_11 dX2_holdsOf_1 ?_
  refine lv_iload_n hx hb dX2_holdsOf_4 rfl (lv_at hl 1 rfl) ?_
  refine zqldB C0 hH ha0 (by exact zin10.mpr (by have q0 := hH.row ha0; clear hres; grind [f_X5_within, f_X2_has])) dX2_holdsOf_5 (fun hb1 => ?_)
  refine lv_astore_n (lv' := [(3, _), (0, _), (1, _), (2, _)]) hx hb dX2_holdsOf_6 rfl hl (by decide) rfl (fun ls hl => ?_)
  refine lv_aload_n hx hb dX2_holdsOf_7 rfl (lv_at hl 0 rfl) ?_
  refine zgIN C0 hH zK0 0 (by decide) hb1 rfl kN_X2_61 dX2_holdsOf_8 ?_
  refine zcase hres (fun c11_2_1 hres => ?_) (fun c11_2_1 hres => ?_)
  · refine ztab (tgt := 44) hx hb c11_2_1 dX2_holdsOf_11 (by decide) (by decide) rfl (by decide) ?_
    refine lv_aload_n hx hb dX2_holdsOf_44 rfl (lv_at hl 0 rfl) ?_
    refine lv_iload_n hx hb dX2_holdsOf_45 rfl (lv_at hl 3 rfl) ?_
    refine zci (zrunV C0 hH (c_X0_rustyHolds l D cy ad _ _ hb1 _) kM_X2_64 zK0 kq_X0_rustyHolds hb1 rfl hl.1 rfl rfl rfl ⟨Nat.le_of_ble_eq_true rfl, Nat.le_of_ble_eq_true rfl⟩ (Nat.le_of_ble_eq_true rfl) dX2_holdsOf_46) hH (fun H locs hH => ?_)
    exact zreti C0 hH dX2_holdsOf_49 (zfst hres) (zsnd hres)
  · skip
    refine zcase hres (fun c11_2_2 hres => ?_) (fun c11_2_2 hres => ?_)
    · refine ztab (tgt := 50) hx hb c11_2_2 dX2_holdsOf_11 (by decide) (by decide) rfl (by decide) ?_
      refine lv_aload_n hx hb dX2_holdsOf_50 rfl (lv_at hl 0 rfl) ?_
      refine lv_iload_n hx hb dX2_holdsOf_51 rfl (lv_at hl 3 rfl) ?_
      refine zci (zrunV C0 hH (c_X0_oiledHolds l D cy ad _ _ hb1 _) kM_X2_68 zK0 kq_X0_oiledHolds hb1 rfl hl.1 rfl rfl rfl ⟨Nat.le_of_ble_eq_true rfl, Nat.le_of_ble_eq_true rfl⟩ (Nat.le_of_ble_eq_true rfl) dX2_holdsOf_52) hH (fun H locs hH => ?_)
      exact zreti C0 hH dX2_holdsOf_55 (zfst hres) (zsnd hres)
    · skip
      refine zcase hres (fun c11_2_3 hres => ?_) (fun c11_2_3 hres => ?_)
      · refine ztab (tgt := 56) hx hb c11_2_3 dX2_holdsOf_11 (by decide) (by decide) rfl (by decide) ?_
        refine lv_aload_n hx hb dX2_holdsOf_56 rfl (lv_at hl 1 rfl) ?_
        refine zgR C0 hH zK2 4 (by decide) _ ha0.is rfl kF_X2_30 dX2_holdsOf_57 ?_
        refine zgIN C0 hH zK4 1 (by decide) ha0.txt.is rfl kN_X2_71 dX2_holdsOf_60 ?_
        refine lv_if_ne (tgt := 71) hx hb dX2_holdsOf_63 (by decide) (fun c63_6 => ?_) (fun c63_6 => ?_)
        · have hres := zif_neg c63_6 hres
          refine lv_iconst (v := (0 : Int32)) hx hb dX2_holdsOf_71 (by decide) ?_
          refine lv_sipush (v := (9999 : Int32)) hx hb dX2_holdsOf_72 (by decide) ?_
          refine lv_aload_n hx hb dX2_holdsOf_75 rfl (lv_at hl 1 rfl) ?_
          refine zgR C0 hH zK2 4 (by decide) _ ha0.is rfl kF_X2_30 dX2_holdsOf_76 ?_
          refine lv_aload_n hx hb dX2_holdsOf_79 rfl (lv_at hl 0 rfl) ?_
          refine lv_iload_n hx hb dX2_holdsOf_80 rfl (lv_at hl 2 rfl) ?_
          refine lv_aload_n hx hb dX2_holdsOf_81 rfl (lv_at hl 1 rfl) ?_
          refine zgI C0 hH zK2 3 (by decide) ha0.is rfl kF_X2_24 dX2_holdsOf_82 ?_
          refine lv_iload_n hx hb dX2_holdsOf_85 rfl (lv_at hl 3 rfl) ?_
          refine zci (zrunV C0 hH (c_X4_valueFor l D cy ad _ _ ha0.txt _ hb1 _ _ _) kM_X2_75 zK4 kq_X4_valueFor ha0.txt.is rfl hl.1 rfl rfl rfl ⟨Nat.le_of_ble_eq_true rfl, Nat.le_of_ble_eq_true rfl⟩ (Nat.le_of_ble_eq_true rfl) dX2_holdsOf_86) hH (fun H locs hH => ?_)
          refine zmin C0 hl.1 kM_X2_79 (by exact Nat.le_of_ble_eq_true rfl) (by exact Nat.le_of_ble_eq_true rfl) dX2_holdsOf_89 ?_
          refine zmax C0 hl.1 kM_X2_85 (by exact Nat.le_of_ble_eq_true rfl) (by exact Nat.le_of_ble_eq_true rfl) dX2_holdsOf_92 ?_
          exact zreti C0 hH dX2_holdsOf_95 (zfst hres) (zsnd hres)
        · have hres := zif_pos c63_6 hres
          refine lv_aload_n hx hb dX2_holdsOf_66 rfl (lv_at hl 0 rfl) ?_
          refine zgIN C0 hH zK0 1 (by decide) hb1 rfl kN_X2_72 dX2_holdsOf_67 ?_
          exact zreti C0 hH dX2_holdsOf_70 (zfst hres) (zsnd hres)
      · skip
        refine zcase hres (fun c11_2_4 hres => ?_) (fun c11_2_4 hres => ?_)
        · refine ztab (tgt := 96) hx hb c11_2_4 dX2_holdsOf_11 (by decide) (by decide) rfl (by decide) ?_
          refine lv_iload_n hx hb dX2_holdsOf_96 rfl (lv_at hl 3 rfl) ?_
          refine lv_bipush (v := (40 : Int32)) hx hb dX2_holdsOf_97 (by decide) ?_
          refine lv_icmp_lt (tgt := 112) hx hb dX2_holdsOf_99 (by decide) (fun c99_10 => ?_) (fun c99_10 => ?_)
          · have hres := zif_pos c99_10 hres
            refine lv_aload_n hx hb dX2_holdsOf_112 rfl (lv_at hl 0 rfl) ?_
            refine lv_iload_n hx hb dX2_holdsOf_113 rfl (lv_at hl 3 rfl) ?_
            refine zci (zrunV C0 hH (c_X0_rustyHolds l D cy ad _ _ hb1 _) kM_X2_64 zK0 kq_X0_rustyHolds hb1 rfl hl.1 rfl rfl rfl ⟨Nat.le_of_ble_eq_true rfl, Nat.le_of_ble_eq_true rfl⟩ (Nat.le_of_ble_eq_true rfl) dX2_holdsOf_114) hH (fun H locs hH => ?_)
            exact zreti C0 hH dX2_holdsOf_117 (zfst hres) (zsnd hres)
          · have hres := zif_neg c99_10 hres
            refine lv_iconst (v := (3 : Int32)) hx hb dX2_holdsOf_102 (by decide) ?_
            refine lv_aload_n hx hb dX2_holdsOf_103 rfl (lv_at hl 0 rfl) ?_
            refine lv_iload_n hx hb dX2_holdsOf_104 rfl (lv_at hl 3 rfl) ?_
            refine zci (zrunV C0 hH (c_X0_rustyHolds l D cy ad _ _ hb1 _) kM_X2_64 zK0 kq_X0_rustyHolds hb1 rfl hl.1 rfl rfl rfl ⟨Nat.le_of_ble_eq_true rfl, Nat.le_of_ble_eq_true rfl⟩ (Nat.le_of_ble_eq_true rfl) dX2_holdsOf_105) hH (fun H locs hH => ?_)
            refine lv_imul hx hb dX2_holdsOf_108 ?_
            refine lv_goto (tgt := 117) hx hb dX2_holdsOf_109 (by decide) ?_
            exact zreti C0 hH dX2_holdsOf_117 (zfst hres) (zsnd hres)
        · skip
          refine zcase hres (fun c11_2_5 hres => ?_) (fun c11_2_5 hres => ?_)
          · refine ztab (tgt := 118) hx hb c11_2_5 dX2_holdsOf_11 (by decide) (by decide) rfl (by decide) ?_
            refine lv_iconst (v := (0 : Int32)) hx hb dX2_holdsOf_118 (by decide) ?_
            refine lv_aload_n hx hb dX2_holdsOf_119 rfl (lv_at hl 0 rfl) ?_
            refine lv_iload_n hx hb dX2_holdsOf_120 rfl (lv_at hl 3 rfl) ?_
            refine zci (zrunV C0 hH (c_X0_oiledHolds l D cy ad _ _ hb1 _) kM_X2_68 zK0 kq_X0_oiledHolds hb1 rfl hl.1 rfl rfl rfl ⟨Nat.le_of_ble_eq_true rfl, Nat.le_of_ble_eq_true rfl⟩ (Nat.le_of_ble_eq_true rfl) dX2_holdsOf_121) hH (fun H locs hH => ?_)
            refine lv_aload_n hx hb dX2_holdsOf_124 rfl (lv_at hl 0 rfl) ?_
            refine zgIN C0 hH zK0 4 (by decide) hb1 rfl kN_X2_88 dX2_holdsOf_125 ?_
            refine lv_isub hx hb dX2_holdsOf_128 ?_
            refine zmax C0 hl.1 kM_X2_85 (by exact Nat.le_of_ble_eq_true rfl) (by exact Nat.le_of_ble_eq_true rfl) dX2_holdsOf_129 ?_
            exact zreti C0 hH dX2_holdsOf_132 (zfst hres) (zsnd hres)
          · skip
            refine ztabD (tgt := 133) hx hb [(1 : Int32), (2 : Int32), (3 : Int32), (4 : Int32), (5 : Int32)] (List.forall_mem_cons.mpr ⟨c11_2_1, (List.forall_mem_cons.mpr ⟨c11_2_2, (List.forall_mem_cons.mpr ⟨c11_2_3, (List.forall_mem_cons.mpr ⟨c11_2_4, (List.forall_mem_cons.mpr ⟨c11_2_5, (fun _ h => absurd h List.not_mem_nil)⟩)⟩)⟩)⟩)⟩) dX2_holdsOf_11 (by decide) (by decide) (by decide) ?_
            refine lv_aload_n hx hb dX2_holdsOf_133 rfl (lv_at hl 0 rfl) ?_
            refine lv_iload_n hx hb dX2_holdsOf_134 rfl (lv_at hl 3 rfl) ?_
            refine zci (zrunV C0 hH (c_X0_plainHolds l D cy ad _ _ hb1 _) kM_X2_91 zK0 kq_X0_plainHolds hb1 rfl hl.1 rfl rfl rfl ⟨Nat.le_of_ble_eq_true rfl, Nat.le_of_ble_eq_true rfl⟩ (Nat.le_of_ble_eq_true rfl) dX2_holdsOf_135) hH (fun H locs hH => ?_)
            exact zreti C0 hH dX2_holdsOf_138 (zfst hres) (zsnd hres)
set_option maxRecDepth 100000 in
set_option maxHeartbeats 4000000 in
theorem c_X2_round (l : Launch) (D : va_G) (cy : Nat → ClassId) (ad : Nat → Nat) (M : zM) (a0 : Nat) (ha0 : zRow a0) : Met l yX2_round (Cond.code yX2_round cX2_round 4 (some .boolean) :: zG) ({ frames := 3, cells := 0, slots := 0, locals := 75 }) (zP D lyC cy ad [.ref (ad a0)] M) (zQz D lyC cy ad (f_X2_round a0 M).1 (f_X2_round a0 M).2) 0 0 (zA lyC ad) := by
  generalize hres : (f_X2_round a0 M) = res
  refine zMet (by decide) (Nat.le_of_ble_eq_true rfl) ?_
  intro p e s m args below meth c ls C0 hH hl
  obtain ⟨⟨hx, hb, hml, hown, hts⟩, -⟩ := id C0
  have hz : ∀ w ∈ zG, w.before args s = true := fun w h => hts w (List.mem_cons_of_mem _ h)
  have hl : lv_has ls 4 [(0, .ref (ad a0))] := hl
  have L34 : ∀ (n34 : Nat), ∀ (v1 : Int32) (v2 : Int32) (mm : zM) (H : Heap) (locs : List Loc) (ls : Array Slot), (zCt 10 n34 v2) → (v1 = 0 ∨ v1 = 1) → zH D lyC cy ad s.heap mm H locs → lv_has ls 4 [(0, .ref (ad a0)), (1, .int v1), (2, .int v2)] → f_X2_round_34 a0 n34 v1 v2 mm = res → W p l e { frames := 3, cells := 0, slots := 0, locals := 75 } s m args below meth c H locs 0 0 (MQ below (zQz D lyC cy ad res.1 res.2) args s 0 0 (zA lyC ad)) (F0 m 34 ls []) := by
    intro n34
    induction n34 with
    | zero =>
      intro v1 v2 mm H locs ls hct h01 hH hl hres
      exfalso; exact hct.zero
    | succ n34 ih34 =>
      have J79 : ∀ (v1 : Int32) (v2 : Int32) (c3 : Nat) (s0 : Int32) (s1 : Int32) (d2 : Nat) (mm : zM) (hc3 : zBl c3) (hd2 : zBl d2) (H : Heap) (locs : List Loc) (ls : Array Slot), (zCt 10 (n34 + 1) v2) → (v2 < 10) → (v1 = 0 ∨ v1 = 1) → zH D lyC cy ad s.heap mm H locs → lv_has ls 4 [(0, .ref (ad a0)), (1, .int v1), (2, .int v2), (3, .ref (ad c3))] → f_X2_round_79 a0 (fun wv1 wv2 wmm => f_X2_round_34 a0 n34 wv1 wv2 wmm) v1 v2 c3 s0 s1 d2 mm = res → W p l e { frames := 3, cells := 0, slots := 0, locals := 75 } s m args below meth c H locs 0 0 (MQ below (zQz D lyC cy ad res.1 res.2) args s 0 0 (zA lyC ad)) (F0 m 79 ls [.int s0, .int s1, .ref (ad d2)]) := by
        intro v1 v2 c3 s0 s1 d2 mm hc3 hd2 H locs ls hct hv h01 hH hl hres
        refine lv_iadd hx hb dX2_round_79 ?_
        refine zcv (zrunV C0 hH (c_X0_move l D cy ad _ _ hd2 _) kM_X2_117 zK0 kq_X0_move hd2 rfl hl.1 rfl rfl rfl ⟨Nat.le_of_ble_eq_true rfl, Nat.le_of_ble_eq_true rfl⟩ (Nat.le_of_ble_eq_true rfl) dX2_round_80) hH (fun H locs hH => ?_)
        refine lv_aload_n hx hb dX2_round_83 rfl (lv_at hl 3 rfl) ?_
        refine zgIN C0 hH zK0 9 (by decide) hc3 rfl kN_X2_120 dX2_round_84 ?_
        refine lv_if_le (tgt := 127) hx hb dX2_round_87 (by decide) (fun c87_10 => ?_) (fun c87_10 => ?_)
        · have hres := zif_pos c87_10 hres
          refine ziinc (lv' := [(2, _), (0, _), (1, _), (3, _)]) (k := 2) hx hb (1 : Int32) (by decide) dX2_round_127 hl rfl (by decide) rfl (fun ls hl => ?_)
          refine lv_goto (tgt := 34) hx hb dX2_round_130 (by decide) ?_
          exact ih34 _ _ _ _ _ _ (by first | exact zCt.start (by decide) (by decide) | exact zCt.step (m := 10) hct (by clear hres; grind [f_X5_within, f_X2_has]) (by decide)) (by first | exact Or.inl rfl | exact Or.inr rfl | assumption) hH (lv_sub hl [1, 2, 0] rfl) hres
        · have hres := zif_neg c87_10 hres
          refine lv_iconst (v := (1 : Int32)) hx hb dX2_round_90 (by decide) ?_
          refine lv_istore_n (lv' := [(1, _), (0, _), (2, _), (3, _)]) hx hb dX2_round_91 rfl hl (by decide) rfl (fun ls hl => ?_)
          refine lv_aload_n hx hb dX2_round_92 rfl (lv_at hl 1 rfl) ?_
          refine lv_dup hx hb dX2_round_93 rfl ?_
          refine zgI C0 hH zK2 5 (by decide) ha0.is rfl kF_X2_34 dX2_round_94 ?_
          refine lv_iconst (v := (1 : Int32)) hx hb dX2_round_97 (by decide) ?_
          refine lv_iadd hx hb dX2_round_98 ?_
          refine zp C0 hH zK2 5 (by decide) ha0.is rfl rfl zOk_int zcn kF_X2_34 dX2_round_99 (fun H locs hH => ?_)
          refine lv_aload_n hx hb dX2_round_102 rfl (lv_at hl 1 rfl) ?_
          refine lv_dup hx hb dX2_round_103 rfl ?_
          refine zgI C0 hH zK2 6 (by decide) ha0.is rfl kF_X2_37 dX2_round_104 ?_
          refine lv_iconst (v := (1 : Int32)) hx hb dX2_round_107 (by decide) ?_
          refine lv_iload_n hx hb dX2_round_108 rfl (lv_at hl 2 rfl) ?_
          refine lv_ishl hx hb dX2_round_109 ?_
          refine lv_ior hx hb dX2_round_110 ?_
          refine zp C0 hH zK2 6 (by decide) ha0.is rfl rfl zOk_int zcn kF_X2_37 dX2_round_111 (fun H locs hH => ?_)
          refine lv_aload_n hx hb dX2_round_114 rfl (lv_at hl 1 rfl) ?_
          refine lv_dup hx hb dX2_round_115 rfl ?_
          refine zgI C0 hH zK2 7 (by decide) ha0.is rfl kF_X2_40 dX2_round_116 ?_
          refine lv_aload_n hx hb dX2_round_119 rfl (lv_at hl 3 rfl) ?_
          refine zgIN C0 hH zK0 9 (by decide) hc3 rfl kN_X2_120 dX2_round_120 ?_
          refine lv_iadd hx hb dX2_round_123 ?_
          refine zp C0 hH zK2 7 (by decide) ha0.is rfl rfl zOk_int zcn kF_X2_40 dX2_round_124 (fun H locs hH => ?_)
          refine ziinc (lv' := [(2, _), (1, _), (0, _), (3, _)]) (k := 2) hx hb (1 : Int32) (by decide) dX2_round_127 hl rfl (by decide) rfl (fun ls hl => ?_)
          refine lv_goto (tgt := 34) hx hb dX2_round_130 (by decide) ?_
          exact ih34 _ _ _ _ _ _ (by first | exact zCt.start (by decide) (by decide) | exact zCt.step (m := 10) hct (by clear hres; grind [f_X5_within, f_X2_has]) (by decide)) (by first | exact Or.inl rfl | exact Or.inr rfl | assumption) hH (lv_sub hl [2, 1, 0] rfl) hres
      intro v1 v2 mm H locs ls hct h01 hH hl hres
      have g0 := hH.row ha0
      refine lv_iload_n hx hb dX2_round_34 rfl (lv_at hl 2 rfl) ?_
      refine lv_aload_n hx hb dX2_round_35 rfl (lv_at hl 0 rfl) ?_
      refine zgI C0 hH zK2 1 (by decide) ha0.is rfl kF_X2_17 dX2_round_36 ?_
      refine lv_icmp_ge (tgt := 133) hx hb dX2_round_39 (by decide) (fun c39_5 => ?_) (fun c39_5 => ?_)
      · have hres := zif_pos c39_5 hres
        refine lv_iload_n hx hb dX2_round_133 rfl (lv_at hl 1 rfl) ?_
        exact zretz C0 hH dX2_round_134 (by first | exact Or.inl rfl | exact Or.inr rfl | assumption) (zfst hres) (zsnd hres)
      · have hres := zif_neg c39_5 hres
        refine lv_aload_n hx hb dX2_round_42 rfl (lv_at hl 0 rfl) ?_
        refine zgR C0 hH zK2 0 (by decide) _ ha0.is rfl kF_X2_11 dX2_round_43 ?_
        refine lv_iload_n hx hb dX2_round_46 rfl (lv_at hl 2 rfl) ?_
        refine zqldB C0 hH ha0 (by exact zin10.mpr (by have q0 := hH.row ha0; obtain ⟨qa, qb, -⟩ := hct; clear hres; grind [f_X5_within, f_X2_has])) dX2_round_47 (fun hb6 => ?_)
        refine lv_astore_n (lv' := [(3, _), (0, _), (1, _), (2, _)]) hx hb dX2_round_48 rfl hl (by decide) rfl (fun ls hl => ?_)
        refine lv_aload_n hx hb dX2_round_49 rfl (lv_at hl 0 rfl) ?_
        refine lv_aload_n hx hb dX2_round_50 rfl (lv_at hl 0 rfl) ?_
        refine zgIN C0 hH zK0 3 (by decide) hb6 rfl kN_X2_58 dX2_round_51 ?_
        refine lv_iload_n hx hb dX2_round_54 rfl (lv_at hl 3 rfl) ?_
        refine lv_iconst (v := (1 : Int32)) hx hb dX2_round_55 (by decide) ?_
        refine lv_iadd hx hb dX2_round_56 ?_
        refine lv_aload_n hx hb dX2_round_57 rfl (lv_at hl 1 rfl) ?_
        refine zgI C0 hH zK2 1 (by decide) ha0.is rfl kF_X2_17 dX2_round_58 ?_
        refine lv_icmp_ge (tgt := 78) hx hb dX2_round_61 (by decide) (fun c61_7 => ?_) (fun c61_7 => ?_)
        · have hres := zif_pos c61_7 hres
          refine lv_iconst (v := (0 : Int32)) hx hb dX2_round_78 (by decide) ?_
          exact J79 _ _ _ _ _ _ _ hb6 hb6 _ _ _ (by assumption) (by first | assumption | (have q0 := hH.row ha0; clear hres; grind [f_X5_within, f_X2_has])) (by first | exact Or.inl rfl | exact Or.inr rfl | assumption) hH (lv_sub hl [1, 2, 3, 0] rfl) hres
        · have hres := zif_neg c61_7 hres
          refine lv_aload_n hx hb dX2_round_64 rfl (lv_at hl 1 rfl) ?_
          refine zgR C0 hH zK2 0 (by decide) _ ha0.is rfl kF_X2_11 dX2_round_65 ?_
          refine lv_iload_n hx hb dX2_round_68 rfl (lv_at hl 3 rfl) ?_
          refine lv_iconst (v := (1 : Int32)) hx hb dX2_round_69 (by decide) ?_
          refine lv_iadd hx hb dX2_round_70 ?_
          refine zqldB C0 hH ha0 (by exact zin10.mpr (by have q0 := hH.row ha0; obtain ⟨qa, qb, -⟩ := hct; clear hres; grind [f_X5_within, f_X2_has])) dX2_round_71 (fun hb8 => ?_)
          refine zgIN C0 hH zK0 3 (by decide) hb8 rfl kN_X2_58 dX2_round_72 ?_
          refine lv_goto (tgt := 79) hx hb dX2_round_75 (by decide) ?_
          exact J79 _ _ _ _ _ _ _ hb6 hb6 _ _ _ (by assumption) (by first | assumption | (have q0 := hH.row ha0; clear hres; grind [f_X5_within, f_X2_has])) (by first | exact Or.inl rfl | exact Or.inr rfl | assumption) hH (lv_sub hl [1, 2, 3, 0] rfl) hres
  have L2 : ∀ (n2 : Nat), ∀ (v1 : Int32) (mm : zM) (H : Heap) (locs : List Loc) (ls : Array Slot), (zCt 10 n2 v1) → zH D lyC cy ad s.heap mm H locs → lv_has ls 4 [(0, .ref (ad a0)), (1, .int v1)] → f_X2_round_2 a0 n2 v1 mm = res → W p l e { frames := 3, cells := 0, slots := 0, locals := 75 } s m args below meth c H locs 0 0 (MQ below (zQz D lyC cy ad res.1 res.2) args s 0 0 (zA lyC ad)) (F0 m 2 ls []) := by
    intro n2
    induction n2 with
    | zero =>
      intro v1 mm H locs ls hct hH hl hres
      exfalso; exact hct.zero
    | succ n2 ih2 =>
      intro v1 mm H locs ls hct hH hl hres
      have g0 := hH.row ha0
      refine lv_iload_n hx hb dX2_round_2 rfl (lv_at hl 1 rfl) ?_
      refine lv_aload_n hx hb dX2_round_3 rfl (lv_at hl 0 rfl) ?_
      refine zgI C0 hH zK2 1 (by decide) ha0.is rfl kF_X2_17 dX2_round_4 ?_
      refine lv_icmp_ge (tgt := 30) hx hb dX2_round_7 (by decide) (fun c7_1 => ?_) (fun c7_1 => ?_)
      · have hres := zif_pos c7_1 hres
        refine lv_iconst (v := (0 : Int32)) hx hb dX2_round_30 (by decide) ?_
        refine lv_istore_n (lv' := [(1, _), (0, _)]) hx hb dX2_round_31 rfl hl (by decide) rfl (fun ls hl => ?_)
        refine lv_iconst (v := (0 : Int32)) hx hb dX2_round_32 (by decide) ?_
        refine lv_istore_n (lv' := [(2, _), (1, _), (0, _)]) hx hb dX2_round_33 rfl hl (by decide) rfl (fun ls hl => ?_)
        exact L34 _ _ _ _ _ _ _ (by first | exact zCt.start (by decide) (by decide) | exact zCt.step (m := 10) hct (by clear hres; grind [f_X5_within, f_X2_has]) (by decide)) (by first | exact Or.inl rfl | exact Or.inr rfl | assumption) hH (lv_sub hl [2, 1, 0] rfl) hres
      · have hres := zif_neg c7_1 hres
        refine lv_aload_n hx hb dX2_round_10 rfl (lv_at hl 0 rfl) ?_
        refine zgR C0 hH zK2 0 (by decide) _ ha0.is rfl kF_X2_11 dX2_round_11 ?_
        refine lv_iload_n hx hb dX2_round_14 rfl (lv_at hl 1 rfl) ?_
        refine zqldB C0 hH ha0 (by exact zin10.mpr (by have q0 := hH.row ha0; obtain ⟨qa, qb, -⟩ := hct; clear hres; grind [f_X5_within, f_X2_has])) dX2_round_15 (fun hb2 => ?_)
        refine lv_aload_n hx hb dX2_round_16 rfl (lv_at hl 0 rfl) ?_
        refine lv_iload_n hx hb dX2_round_17 rfl (lv_at hl 1 rfl) ?_
        refine zci (zrunV C0 hH (c_X2_pullOf l D cy ad _ _ ha0 _ (by have q0 := hH.row zRow1; (try have q1 := hH.row ha0); (try obtain ⟨qa, qb, -⟩ := hct); clear hres; grind [f_X5_within, f_X2_has])) kM_X2_111 zK2 kq_X2_pullOf ha0.is rfl hl.1 rfl rfl rfl ⟨Nat.le_of_ble_eq_true rfl, Nat.le_of_ble_eq_true rfl⟩ (Nat.le_of_ble_eq_true rfl) dX2_round_18) hH (fun H locs hH => ?_)
        refine zpN C0 hH zK0 8 (by decide) hb2 rfl rfl zOk_int zcn kN_X2_114 dX2_round_21 (fun H locs hH => ?_)
        refine ziinc (lv' := [(1, _), (0, _)]) (k := 1) hx hb (1 : Int32) (by decide) dX2_round_24 hl rfl (by decide) rfl (fun ls hl => ?_)
        refine lv_goto (tgt := 2) hx hb dX2_round_27 (by decide) ?_
        exact ih2 _ _ _ _ _ (by first | exact zCt.start (by decide) (by decide) | exact zCt.step (m := 10) hct (by clear hres; grind [f_X5_within, f_X2_has]) (by decide)) hH (lv_sub hl [1, 0] rfl) hres
  refine lv_iconst (v := (0 : Int32)) hx hb dX2_round_0 (by decide) ?_
  refine lv_istore_n (lv' := [(1, _), (0, _)]) hx hb dX2_round_1 rfl hl (by decide) rfl (fun ls hl => ?_)
  exact L2 _ _ _ _ _ _ (by first | exact zCt.start (by decide) (by decide) | exact zCt.step (m := 10) hct (by clear hres; grind [f_X5_within, f_X2_has]) (by decide)) hH (lv_sub hl [1, 0] rfl) hres
set_option maxRecDepth 100000 in
set_option maxHeartbeats 4000000 in
theorem c_X2_tick (l : Launch) (D : va_G) (cy : Nat → ClassId) (ad : Nat → Nat) (M : zM) (a0 : Nat) (ha0 : zRow a0) : Met l yX2_tick (Cond.code yX2_tick cX2_tick 3 none :: zG) ({ frames := 24, cells := 0, slots := 0, locals := 893 }) (zP D lyC cy ad [.ref (ad a0)] M) (zQv D lyC cy ad (f_X2_tick a0 M)) 0 0 (zA lyC ad) := by
  generalize hres : (f_X2_tick a0 M) = res
  refine zMet (by decide) (Nat.le_of_ble_eq_true rfl) ?_
  intro p e s m args below meth c ls C0 hH hl
  obtain ⟨⟨hx, hb, hml, hown, hts⟩, -⟩ := id C0
  have hz : ∀ w ∈ zG, w.before args s = true := fun w h => hts w (List.mem_cons_of_mem _ h)
  have hl : lv_has ls 3 [(0, .ref (ad a0))] := hl
  have L99 : ∀ (n99 : Nat), ∀ (v2 : Int32) (mm : zM) (H : Heap) (locs : List Loc) (ls : Array Slot), (zCt 10 n99 v2) → zH D lyC cy ad s.heap mm H locs → lv_has ls 3 [(0, .ref (ad a0)), (2, .int v2)] → f_X2_tick_99 a0 n99 v2 mm = res → W p l e { frames := 24, cells := 0, slots := 0, locals := 893 } s m args below meth c H locs 0 0 (MQ below (zQv D lyC cy ad res) args s 0 0 (zA lyC ad)) (F0 m 99 ls []) := by
    intro n99
    induction n99 with
    | zero =>
      intro v2 mm H locs ls hct hH hl hres
      exfalso; exact hct.zero
    | succ n99 ih99 =>
      intro v2 mm H locs ls hct hH hl hres
      have g0 := hH.row ha0
      refine lv_iload_n hx hb dX2_tick_99 rfl (lv_at hl 1 rfl) ?_
      refine lv_aload_n hx hb dX2_tick_100 rfl (lv_at hl 0 rfl) ?_
      refine zgI C0 hH zK2 1 (by decide) ha0.is rfl kF_X2_17 dX2_tick_101 ?_
      refine lv_icmp_ge (tgt := 122) hx hb dX2_tick_104 (by decide) (fun c104_16 => ?_) (fun c104_16 => ?_)
      · have hres := zif_pos c104_16 hres
        exact zretv C0 hH dX2_tick_122 hres
      · have hres := zif_neg c104_16 hres
        refine lv_aload_n hx hb dX2_tick_107 rfl (lv_at hl 0 rfl) ?_
        refine zgR C0 hH zK2 0 (by decide) _ ha0.is rfl kF_X2_11 dX2_tick_108 ?_
        refine lv_iload_n hx hb dX2_tick_111 rfl (lv_at hl 1 rfl) ?_
        refine zqldB C0 hH ha0 (by exact zin10.mpr (by have q0 := hH.row ha0; obtain ⟨qa, qb, -⟩ := hct; clear hres; grind [f_X5_within, f_X2_has])) dX2_tick_112 (fun hb17 => ?_)
        refine zcv (zrunV C0 hH (c_X0_endTick l D cy ad _ _ hb17) kM_X2_108 zK0 kq_X0_endTick hb17 rfl hl.1 rfl rfl rfl ⟨Nat.le_of_ble_eq_true rfl, Nat.le_of_ble_eq_true rfl⟩ (Nat.le_of_ble_eq_true rfl) dX2_tick_113) hH (fun H locs hH => ?_)
        refine ziinc (lv' := [(2, _), (0, _)]) (k := 1) hx hb (1 : Int32) (by decide) dX2_tick_116 hl rfl (by decide) rfl (fun ls hl => ?_)
        refine lv_goto (tgt := 99) hx hb dX2_tick_119 (by decide) ?_
        exact ih99 _ _ _ _ _ (by first | exact zCt.start (by decide) (by decide) | exact zCt.step (m := 10) hct (by clear hres; grind [f_X5_within, f_X2_has]) (by decide)) hH (lv_sub hl [1, 0] rfl) hres
  have J92 : ∀ (v1 : Int32) (mm : zM) (H : Heap) (locs : List Loc) (ls : Array Slot), (v1 = 0 ∨ v1 = 1) → zH D lyC cy ad s.heap mm H locs → lv_has ls 3 [(0, .ref (ad a0)), (1, .int v1)] → f_X2_tick_92 a0 v1 mm = res → W p l e { frames := 24, cells := 0, slots := 0, locals := 893 } s m args below meth c H locs 0 0 (MQ below (zQv D lyC cy ad res) args s 0 0 (zA lyC ad)) (F0 m 92 ls []) := by
    intro v1 mm H locs ls h01 hH hl hres
    refine lv_aload_n hx hb dX2_tick_92 rfl (lv_at hl 0 rfl) ?_
    refine lv_iload_n hx hb dX2_tick_93 rfl (lv_at hl 1 rfl) ?_
    refine zp C0 hH zK2 8 (by decide) ha0.is rfl rfl (zOk_01 (by first | exact Or.inl rfl | exact Or.inr rfl | assumption)) zcn kF_X2_43 dX2_tick_94 (fun H locs hH => ?_)
    refine lv_iconst (v := (0 : Int32)) hx hb dX2_tick_97 (by decide) ?_
    refine lv_istore_n (lv' := [(2, _), (0, _), (1, _)]) hx hb dX2_tick_98 rfl hl (by decide) rfl (fun ls hl => ?_)
    exact L99 _ _ _ _ _ _ (by first | exact zCt.start (by decide) (by decide) | exact zCt.step (m := 10) hct (by clear hres; grind [f_X5_within, f_X2_has]) (by decide)) hH (lv_sub hl [1, 0] rfl) hres
  have L71 : ∀ (n71 : Nat), ∀ (v1 : Int32) (v2 : Int32) (mm : zM) (H : Heap) (locs : List Loc) (ls : Array Slot), (zCt 40 n71 v2) → (v1 = 0 ∨ v1 = 1) → zH D lyC cy ad s.heap mm H locs → lv_has ls 3 [(0, .ref (ad a0)), (1, .int v1), (2, .int v2)] → f_X2_tick_71 a0 n71 v1 v2 mm = res → W p l e { frames := 24, cells := 0, slots := 0, locals := 893 } s m args below meth c H locs 0 0 (MQ below (zQv D lyC cy ad res) args s 0 0 (zA lyC ad)) (F0 m 71 ls []) := by
    intro n71
    induction n71 with
    | zero =>
      intro v1 v2 mm H locs ls hct h01 hH hl hres
      exfalso; exact hct.zero
    | succ n71 ih71 =>
      intro v1 v2 mm H locs ls hct h01 hH hl hres
      refine lv_iload_n hx hb dX2_tick_71 rfl (lv_at hl 2 rfl) ?_
      refine lv_bipush (v := (40 : Int32)) hx hb dX2_tick_72 (by decide) ?_
      refine lv_icmp_ge (tgt := 92) hx hb dX2_tick_74 (by decide) (fun c74_10 => ?_) (fun c74_10 => ?_)
      · have hres := zif_pos c74_10 hres
        exact J92 _ _ _ _ _ (by first | exact Or.inl rfl | exact Or.inr rfl | assumption) hH (lv_sub hl [0, 1] rfl) hres
      · have hres := zif_neg c74_10 hres
        refine lv_iload_n hx hb dX2_tick_77 rfl (lv_at hl 1 rfl) ?_
        refine lv_if_eq (tgt := 92) hx hb dX2_tick_78 (by decide) (fun c78_11 => ?_) (fun c78_11 => ?_)
        · have hres := zif_pos c78_11 hres
          exact J92 _ _ _ _ _ (by first | exact Or.inl rfl | exact Or.inr rfl | assumption) hH (lv_sub hl [0, 1] rfl) hres
        · have hres := zif_neg c78_11 hres
          refine lv_aload_n hx hb dX2_tick_81 rfl (lv_at hl 0 rfl) ?_
          refine zcz (zrunV C0 hH (c_X2_round l D cy ad _ _ ha0) kM_X2_104 zK2 kq_X2_round ha0.is rfl hl.1 rfl rfl rfl ⟨Nat.le_of_ble_eq_true rfl, Nat.le_of_ble_eq_true rfl⟩ (Nat.le_of_ble_eq_true rfl) dX2_tick_82) hH (fun H locs hH h01_12 => ?_)
          refine lv_istore_n (lv' := [(1, _), (0, _), (2, _)]) hx hb dX2_tick_85 rfl hl (by decide) rfl (fun ls hl => ?_)
          refine ziinc (lv' := [(2, _), (1, _), (0, _)]) (k := 2) hx hb (1 : Int32) (by decide) dX2_tick_86 hl rfl (by decide) rfl (fun ls hl => ?_)
          refine lv_goto (tgt := 71) hx hb dX2_tick_89 (by decide) ?_
          exact ih71 _ _ _ _ _ _ (by first | exact zCt.start (by decide) (by decide) | exact zCt.step (m := 40) hct (by clear hres; grind [f_X5_within, f_X2_has]) (by decide)) (by first | exact Or.inl rfl | exact Or.inr rfl | assumption) hH (lv_sub hl [2, 1, 0] rfl) hres
  have L30 : ∀ (n30 : Nat), ∀ (v1 : Int32) (mm : zM) (H : Heap) (locs : List Loc) (ls : Array Slot), (zCt 10 n30 v1) → zH D lyC cy ad s.heap mm H locs → lv_has ls 3 [(0, .ref (ad a0)), (1, .int v1)] → f_X2_tick_30 a0 n30 v1 mm = res → W p l e { frames := 24, cells := 0, slots := 0, locals := 893 } s m args below meth c H locs 0 0 (MQ below (zQv D lyC cy ad res) args s 0 0 (zA lyC ad)) (F0 m 30 ls []) := by
    intro n30
    induction n30 with
    | zero =>
      intro v1 mm H locs ls hct hH hl hres
      exfalso; exact hct.zero
    | succ n30 ih30 =>
      intro v1 mm H locs ls hct hH hl hres
      have g0 := hH.row ha0
      refine lv_iload_n hx hb dX2_tick_30 rfl (lv_at hl 1 rfl) ?_
      refine lv_aload_n hx hb dX2_tick_31 rfl (lv_at hl 0 rfl) ?_
      refine zgI C0 hH zK2 1 (by decide) ha0.is rfl kF_X2_17 dX2_tick_32 ?_
      refine lv_icmp_ge (tgt := 67) hx hb dX2_tick_35 (by decide) (fun c35_5 => ?_) (fun c35_5 => ?_)
      · have hres := zif_pos c35_5 hres
        refine lv_iconst (v := (1 : Int32)) hx hb dX2_tick_67 (by decide) ?_
        refine lv_istore_n (lv' := [(1, _), (0, _)]) hx hb dX2_tick_68 rfl hl (by decide) rfl (fun ls hl => ?_)
        refine lv_iconst (v := (0 : Int32)) hx hb dX2_tick_69 (by decide) ?_
        refine lv_istore_n (lv' := [(2, _), (1, _), (0, _)]) hx hb dX2_tick_70 rfl hl (by decide) rfl (fun ls hl => ?_)
        exact L71 _ _ _ _ _ _ _ (by first | exact zCt.start (by decide) (by decide) | exact zCt.step (m := 40) hct (by clear hres; grind [f_X5_within, f_X2_has]) (by decide)) (by first | exact Or.inl rfl | exact Or.inr rfl | assumption) hH (lv_sub hl [2, 1, 0] rfl) hres
      · have hres := zif_neg c35_5 hres
        refine lv_aload_n hx hb dX2_tick_38 rfl (lv_at hl 0 rfl) ?_
        refine zgR C0 hH zK2 0 (by decide) _ ha0.is rfl kF_X2_11 dX2_tick_39 ?_
        refine lv_iload_n hx hb dX2_tick_42 rfl (lv_at hl 1 rfl) ?_
        refine zqldB C0 hH ha0 (by exact zin10.mpr (by have q0 := hH.row ha0; obtain ⟨qa, qb, -⟩ := hct; clear hres; grind [f_X5_within, f_X2_has])) dX2_tick_43 (fun hb6 => ?_)
        refine lv_aload_n hx hb dX2_tick_44 rfl (lv_at hl 0 rfl) ?_
        refine lv_iload_n hx hb dX2_tick_45 rfl (lv_at hl 1 rfl) ?_
        refine lv_aload_n hx hb dX2_tick_46 rfl (lv_at hl 0 rfl) ?_
        refine zgR C0 hH zK2 0 (by decide) _ ha0.is rfl kF_X2_11 dX2_tick_47 ?_
        refine lv_iload_n hx hb dX2_tick_50 rfl (lv_at hl 1 rfl) ?_
        refine zqldB C0 hH ha0 (by exact zin10.mpr (by have q0 := hH.row ha0; obtain ⟨qa, qb, -⟩ := hct; clear hres; grind [f_X5_within, f_X2_has])) dX2_tick_51 (fun hb7 => ?_)
        refine zgIN C0 hH zK0 6 (by decide) hb7 rfl kN_X2_94 dX2_tick_52 ?_
        refine zci (zrunV C0 hH (c_X2_holdsOf l D cy ad _ _ ha0 _ _ (by have q0 := hH.row zRow1; (try have q1 := hH.row ha0); (try obtain ⟨qa, qb, -⟩ := hct); clear hres; grind [f_X5_within, f_X2_has])) kM_X2_97 zK2 kq_X2_holdsOf ha0.is rfl hl.1 rfl rfl rfl ⟨Nat.le_of_ble_eq_true rfl, Nat.le_of_ble_eq_true rfl⟩ (Nat.le_of_ble_eq_true rfl) dX2_tick_55) hH (fun H locs hH => ?_)
        refine zcv (zrunV C0 hH (c_X0_startTick l D cy ad _ _ hb6 _) kM_X2_100 zK0 kq_X0_startTick hb6 rfl hl.1 rfl rfl rfl ⟨Nat.le_of_ble_eq_true rfl, Nat.le_of_ble_eq_true rfl⟩ (Nat.le_of_ble_eq_true rfl) dX2_tick_58) hH (fun H locs hH => ?_)
        refine ziinc (lv' := [(1, _), (0, _)]) (k := 1) hx hb (1 : Int32) (by decide) dX2_tick_61 hl rfl (by decide) rfl (fun ls hl => ?_)
        refine lv_goto (tgt := 30) hx hb dX2_tick_64 (by decide) ?_
        exact ih30 _ _ _ _ _ (by first | exact zCt.start (by decide) (by decide) | exact zCt.step (m := 10) hct (by clear hres; grind [f_X5_within, f_X2_has]) (by decide)) hH (lv_sub hl [1, 0] rfl) hres
  refine lv_aload_n hx hb dX2_tick_0 rfl (lv_at hl 0 rfl) ?_
  refine lv_dup hx hb dX2_tick_1 rfl ?_
  refine zgI C0 hH zK2 2 (by decide) ha0.is rfl kF_X2_21 dX2_tick_2 ?_
  refine lv_aload_n hx hb dX2_tick_5 rfl (lv_at hl 0 rfl) ?_
  refine zgI C0 hH zK2 3 (by decide) ha0.is rfl kF_X2_24 dX2_tick_6 ?_
  refine lv_iadd hx hb dX2_tick_9 ?_
  refine zp C0 hH zK2 2 (by decide) ha0.is rfl rfl zOk_int zcn kF_X2_21 dX2_tick_10 (fun H locs hH => ?_)
  refine lv_aload_n hx hb dX2_tick_13 rfl (lv_at hl 0 rfl) ?_
  refine lv_iconst (v := (0 : Int32)) hx hb dX2_tick_14 (by decide) ?_
  refine zp C0 hH zK2 5 (by decide) ha0.is rfl rfl zOk_int zcn kF_X2_34 dX2_tick_15 (fun H locs hH => ?_)
  refine lv_aload_n hx hb dX2_tick_18 rfl (lv_at hl 0 rfl) ?_
  refine lv_iconst (v := (0 : Int32)) hx hb dX2_tick_19 (by decide) ?_
  refine zp C0 hH zK2 6 (by decide) ha0.is rfl rfl zOk_int zcn kF_X2_37 dX2_tick_20 (fun H locs hH => ?_)
  refine lv_aload_n hx hb dX2_tick_23 rfl (lv_at hl 0 rfl) ?_
  refine lv_iconst (v := (0 : Int32)) hx hb dX2_tick_24 (by decide) ?_
  refine zp C0 hH zK2 7 (by decide) ha0.is rfl rfl zOk_int zcn kF_X2_40 dX2_tick_25 (fun H locs hH => ?_)
  refine lv_iconst (v := (0 : Int32)) hx hb dX2_tick_28 (by decide) ?_
  refine lv_istore_n (lv' := [(1, _), (0, _)]) hx hb dX2_tick_29 rfl hl (by decide) rfl (fun ls hl => ?_)
  exact L30 _ _ _ _ _ _ (by first | exact zCt.start (by decide) (by decide) | exact zCt.step (m := 10) hct (by clear hres; grind [f_X5_within, f_X2_has]) (by decide)) hH (lv_sub hl [1, 0] rfl) hres
set_option maxRecDepth 100000 in
set_option maxHeartbeats 4000000 in
theorem c_X2_copyFrom (l : Launch) (D : va_G) (cy : Nat → ClassId) (ad : Nat → Nat) (M : zM) (a0 : Nat) (ha0 : zRow a0) (a1 : Nat) (ha1 : zRow a1) : Met l yX2_copyFrom (Cond.code yX2_copyFrom cX2_copyFrom 3 none :: zG) ({ frames := 2, cells := 0, slots := 0, locals := 49 }) (zP D lyC cy ad [.ref (ad a0), .ref (ad a1)] M) (zQv D lyC cy ad (f_X2_copyFrom a0 a1 M)) 0 0 (zA lyC ad) := by
  generalize hres : (f_X2_copyFrom a0 a1 M) = res
  refine zMet (by decide) (Nat.le_of_ble_eq_true rfl) ?_
  intro p e s m args below meth c ls C0 hH hl
  obtain ⟨⟨hx, hb, hml, hown, hts⟩, -⟩ := id C0
  have hz : ∀ w ∈ zG, w.before args s = true := fun w h => hts w (List.mem_cons_of_mem _ h)
  have hl : lv_has ls 3 [(0, .ref (ad a0)), (1, .ref (ad a1))] := hl
  have L37 : ∀ (n37 : Nat), ∀ (v2 : Int32) (mm : zM) (H : Heap) (locs : List Loc) (ls : Array Slot), (zCt 10 n37 v2) → zH D lyC cy ad s.heap mm H locs → lv_has ls 3 [(0, .ref (ad a0)), (1, .ref (ad a1)), (2, .int v2)] → f_X2_copyFrom_37 a0 a1 n37 v2 mm = res → W p l e { frames := 2, cells := 0, slots := 0, locals := 49 } s m args below meth c H locs 0 0 (MQ below (zQv D lyC cy ad res) args s 0 0 (zA lyC ad)) (F0 m 37 ls []) := by
    intro n37
    induction n37 with
    | zero =>
      intro v2 mm H locs ls hct hH hl hres
      exfalso; exact hct.zero
    | succ n37 ih37 =>
      intro v2 mm H locs ls hct hH hl hres
      have g0 := hH.row ha0
      refine lv_iload_n hx hb dX2_copyFrom_37 rfl (lv_at hl 2 rfl) ?_
      refine lv_aload_n hx hb dX2_copyFrom_38 rfl (lv_at hl 0 rfl) ?_
      refine zgI C0 hH zK2 1 (by decide) ha0.is rfl kF_X2_17 dX2_copyFrom_39 ?_
      refine lv_icmp_ge (tgt := 66) hx hb dX2_copyFrom_42 (by decide) (fun c42_5 => ?_) (fun c42_5 => ?_)
      · have hres := zif_pos c42_5 hres
        exact zretv C0 hH dX2_copyFrom_66 hres
      · have hres := zif_neg c42_5 hres
        refine lv_aload_n hx hb dX2_copyFrom_45 rfl (lv_at hl 0 rfl) ?_
        refine zgR C0 hH zK2 0 (by decide) _ ha0.is rfl kF_X2_11 dX2_copyFrom_46 ?_
        refine lv_iload_n hx hb dX2_copyFrom_49 rfl (lv_at hl 2 rfl) ?_
        refine zqldB C0 hH ha0 (by exact zin10.mpr (by have q0 := hH.row ha0; have q1 := hH.row ha1; obtain ⟨qa, qb, -⟩ := hct; clear hres; grind [f_X5_within, f_X2_has])) dX2_copyFrom_50 (fun hb6 => ?_)
        refine lv_aload_n hx hb dX2_copyFrom_51 rfl (lv_at hl 1 rfl) ?_
        refine zgR C0 hH zK2 0 (by decide) _ ha1.is rfl kF_X2_11 dX2_copyFrom_52 ?_
        refine lv_iload_n hx hb dX2_copyFrom_55 rfl (lv_at hl 2 rfl) ?_
        refine zqldB C0 hH ha1 (by exact zin10.mpr (by have q0 := hH.row ha0; have q1 := hH.row ha1; obtain ⟨qa, qb, -⟩ := hct; clear hres; grind [f_X5_within, f_X2_has])) dX2_copyFrom_56 (fun hb7 => ?_)
        refine zcv (zrunV C0 hH (c_X0_copyFrom l D cy ad _ _ hb6 _ hb7) kM_X2_52 zK0 kq_X0_copyFrom hb6 rfl hl.1 rfl rfl rfl ⟨Nat.le_of_ble_eq_true rfl, Nat.le_of_ble_eq_true rfl⟩ (Nat.le_of_ble_eq_true rfl) dX2_copyFrom_57) hH (fun H locs hH => ?_)
        refine ziinc (lv' := [(2, _), (0, _), (1, _)]) (k := 2) hx hb (1 : Int32) (by decide) dX2_copyFrom_60 hl rfl (by decide) rfl (fun ls hl => ?_)
        refine lv_goto (tgt := 37) hx hb dX2_copyFrom_63 (by decide) ?_
        exact ih37 _ _ _ _ _ (by first | exact zCt.start (by decide) (by decide) | exact zCt.step (m := 10) hct (by clear hres; grind [f_X5_within, f_X2_has]) (by decide)) hH (lv_sub hl [1, 2, 0] rfl) hres
  refine lv_aload_n hx hb dX2_copyFrom_0 rfl (lv_at hl 0 rfl) ?_
  refine lv_aload_n hx hb dX2_copyFrom_1 rfl (lv_at hl 1 rfl) ?_
  refine zgI C0 hH zK2 1 (by decide) ha1.is rfl kF_X2_17 dX2_copyFrom_2 ?_
  refine zp C0 hH zK2 1 (by decide) ha0.is rfl rfl zOk_int (zcs (by first | decide | (have q0 := hH.row ha0; have q1 := hH.row ha1; clear hres; grind [f_X5_within, f_X2_has]))) kF_X2_17 dX2_copyFrom_5 (fun H locs hH => ?_)
  refine lv_aload_n hx hb dX2_copyFrom_8 rfl (lv_at hl 0 rfl) ?_
  refine lv_aload_n hx hb dX2_copyFrom_9 rfl (lv_at hl 1 rfl) ?_
  refine zgI C0 hH zK2 2 (by decide) ha1.is rfl kF_X2_21 dX2_copyFrom_10 ?_
  refine zp C0 hH zK2 2 (by decide) ha0.is rfl rfl zOk_int zcn kF_X2_21 dX2_copyFrom_13 (fun H locs hH => ?_)
  refine lv_aload_n hx hb dX2_copyFrom_16 rfl (lv_at hl 0 rfl) ?_
  refine lv_aload_n hx hb dX2_copyFrom_17 rfl (lv_at hl 1 rfl) ?_
  refine zgI C0 hH zK2 3 (by decide) ha1.is rfl kF_X2_24 dX2_copyFrom_18 ?_
  refine zp C0 hH zK2 3 (by decide) ha0.is rfl rfl zOk_int zcn kF_X2_24 dX2_copyFrom_21 (fun H locs hH => ?_)
  refine lv_aload_n hx hb dX2_copyFrom_24 rfl (lv_at hl 0 rfl) ?_
  refine zgR C0 hH zK2 4 (by decide) _ ha0.is rfl kF_X2_30 dX2_copyFrom_25 ?_
  refine lv_aload_n hx hb dX2_copyFrom_28 rfl (lv_at hl 1 rfl) ?_
  refine zgR C0 hH zK2 4 (by decide) _ ha1.is rfl kF_X2_30 dX2_copyFrom_29 ?_
  refine zcv (zrunV C0 hH (c_X4_copyFrom l D cy ad _ _ ha0.txt _ ha1.txt) kM_X2_48 zK4 kq_X4_copyFrom ha0.txt.is rfl hl.1 rfl rfl rfl ⟨Nat.le_of_ble_eq_true rfl, Nat.le_of_ble_eq_true rfl⟩ (Nat.le_of_ble_eq_true rfl) dX2_copyFrom_32) hH (fun H locs hH => ?_)
  refine lv_iconst (v := (0 : Int32)) hx hb dX2_copyFrom_35 (by decide) ?_
  refine lv_istore_n (lv' := [(2, _), (0, _), (1, _)]) hx hb dX2_copyFrom_36 rfl hl (by decide) rfl (fun ls hl => ?_)
  exact L37 _ _ _ _ _ _ (by first | exact zCt.start (by decide) (by decide) | exact zCt.step (m := 10) hct (by clear hres; grind [f_X5_within, f_X2_has]) (by decide)) hH (lv_sub hl [1, 2, 0] rfl) hres
