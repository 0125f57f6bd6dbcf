set_option maxRecDepth 100000 in
set_option maxHeartbeats 4000000 in
theorem c_X5_within (l : Launch) (D : va_G) (cy : Nat → ClassId) (ad : Nat → Nat) (M : zM) (p0 : Int32) (p1 : Int32) (p2 : Int32) : Met l yX5_within (Cond.code yX5_within cX5_within 3 (some .boolean) :: zG) ({ frames := 0, cells := 0, slots := 0, locals := 0 }) (zP D lyC cy ad [.int p0, .int p1, .int p2] M) (zQz D lyC cy ad (f_X5_within p0 p1 p2) M) 0 0 (zA lyC ad) := by
  generalize hres : (f_X5_within p0 p1 p2) = res
  refine zMet (by decide) (Nat.le_of_ble_eq_true rfl) ?_
  intro p e s m args below meth c ls C0 hH hl
  obtain ⟨⟨hx, hb, hml, hown, hts⟩, -⟩ := id C0
  have hz : ∀ w ∈ zG, w.before args s = true := fun w h => hts w (List.mem_cons_of_mem _ h)
  have hl : lv_has ls 3 [(0, .int p0), (1, .int p1), (2, .int p2)] := hl
  refine lv_iload_n hx hb dX5_within_0 rfl (lv_at hl 0 rfl) ?_
  refine lv_iload_n hx hb dX5_within_1 rfl (lv_at hl 1 rfl) ?_
  refine lv_icmp_lt (tgt := 14) hx hb dX5_within_2 (by decide) (fun c2_1 => ?_) (fun c2_1 => ?_)
  · have hres := zif_pos c2_1 hres
    refine lv_iconst (v := (0 : Int32)) hx hb dX5_within_14 (by decide) ?_
    exact zretz C0 hH dX5_within_15 (by first | exact Or.inl rfl | exact Or.inr rfl | assumption) hres rfl
  · have hres := zif_neg c2_1 hres
    refine lv_iload_n hx hb dX5_within_5 rfl (lv_at hl 0 rfl) ?_
    refine lv_iload_n hx hb dX5_within_6 rfl (lv_at hl 2 rfl) ?_
    refine lv_icmp_gt (tgt := 14) hx hb dX5_within_7 (by decide) (fun c7_2 => ?_) (fun c7_2 => ?_)
    · have hres := zif_pos c7_2 hres
      refine lv_iconst (v := (0 : Int32)) hx hb dX5_within_14 (by decide) ?_
      exact zretz C0 hH dX5_within_15 (by first | exact Or.inl rfl | exact Or.inr rfl | assumption) hres rfl
    · have hres := zif_neg c7_2 hres
      refine lv_iconst (v := (1 : Int32)) hx hb dX5_within_10 (by decide) ?_
      refine lv_goto (tgt := 15) hx hb dX5_within_11 (by decide) ?_
      exact zretz C0 hH dX5_within_15 (by first | exact Or.inl rfl | exact Or.inr rfl | assumption) hres rfl
set_option maxRecDepth 100000 in
set_option maxHeartbeats 4000000 in
theorem c_X5_finding (l : Launch) (D : va_G) (cy : Nat → ClassId) (ad : Nat → Nat) (M : zM) (p1 : Int32) : Met l yX5_finding (Cond.code yX5_finding cX5_finding 3 (some .int) :: zG) ({ frames := 1, cells := 0, slots := 0, locals := 22 }) (zP D lyC cy ad [.ref (ad 0), .int p1] M) (zQi D lyC cy ad (f_X5_finding p1 M).1 (f_X5_finding p1 M).2) 0 0 (zA lyC ad) := by
  generalize hres : (f_X5_finding p1 M) = res
  refine zMet (by decide) (Nat.le_of_ble_eq_true rfl) ?_
  intro p e s m args below meth c ls C0 hH hl
  obtain ⟨⟨hx, hb, hml, hown, hts⟩, -⟩ := id C0
  have hz : ∀ w ∈ zG, w.before args s = true := fun w h => hts w (List.mem_cons_of_mem _ h)
  have hl : lv_has ls 3 [(0, .ref (ad 0)), (1, .int p1)] := hl
  unfold f_X5_finding at hres
  refine lv_ldc (v := (-1000000001 : Int32)) hx hb hown (hz _ kK_X5_58) dX5_finding_0 ?_
  refine lv_iload_n hx hb dX5_finding_2 rfl (lv_at hl 1 rfl) ?_
  refine lv_isub hx hb dX5_finding_3 ?_
  refine lv_istore_n (lv' := [(2, _), (0, _), (1, _)]) hx hb dX5_finding_4 rfl hl (by decide) rfl (fun ls hl => ?_)
  refine lv_iload_n hx hb dX5_finding_5 rfl (lv_at hl 0 rfl) ?_
  refine lv_iconst (v := (0 : Int32)) hx hb dX5_finding_6 (by decide) ?_
  refine lv_bipush (v := (6 : Int32)) hx hb dX5_finding_7 (by decide) ?_
  refine zcz (zrunS C0 hH (c_X5_within l D cy ad _ _ _ _) kM_X5_54 kq_X5_within rfl hl.1 rfl rfl rfl ⟨Nat.le_of_ble_eq_true rfl, Nat.le_of_ble_eq_true rfl⟩ (Nat.le_of_ble_eq_true rfl) dX5_finding_9) hH (fun H locs hH h01_2 => ?_)
  refine lv_if_eq (tgt := 25) hx hb dX5_finding_12 (by decide) (fun c12_4 => ?_) (fun c12_4 => ?_)
  · have hres := zif_pos c12_4 hres
    refine lv_iload_n hx hb dX5_finding_25 rfl (lv_at hl 2 rfl) ?_
    exact zreti C0 hH dX5_finding_26 (zfst hres) (zsnd hres)
  · have hres := zif_neg c12_4 hres
    refine lv_aload_n hx hb dX5_finding_15 rfl (lv_at hl 1 rfl) ?_
    refine zgR C0 hH zK5 8 (by decide) _ zX0 rfl kF_X5_49 dX5_finding_16 ?_
    refine lv_iload_n hx hb dX5_finding_19 rfl (lv_at hl 0 rfl) ?_
    refine lv_dup2_11 hx hb dX5_finding_20 rfl rfl ?_
    refine zald C0 hH zFo zFo_ln (by exact zin7.mpr (wi7 c12_4)) dX5_finding_21 ?_
    refine lv_iconst (v := (1 : Int32)) hx hb dX5_finding_22 (by decide) ?_
    refine lv_iadd hx hb dX5_finding_23 ?_
    refine zast C0 hH zFo zFo_ln (by exact zin7.mpr (wi7 c12_4)) zcn dX5_finding_24 (fun H locs hH => ?_)
    refine lv_iload_n hx hb dX5_finding_25 rfl (lv_at hl 2 rfl) ?_
    exact zreti C0 hH dX5_finding_26 (zfst hres) (zsnd hres)
set_option maxRecDepth 100000 in
set_option maxHeartbeats 4000000 in
theorem c_X5_block (l : Launch) (D : va_G) (cy : Nat → ClassId) (ad : Nat → Nat) (M : zM) (p1 : Int32) (p2 : Int32) (p3 : Int32) (p4 : Int32) : Met l yX5_block (Cond.code yX5_block cX5_block 6 (some .int) :: zG) ({ frames := 2, cells := 0, slots := 0, locals := 44 }) (zP D lyC cy ad [.ref (ad 0), .int p1, .int p2, .int p3, .int p4] M) (zQi D lyC cy ad (f_X5_block p1 p2 p3 p4 M).1 (f_X5_block p1 p2 p3 p4 M).2) 0 0 (zA lyC ad) := by
  generalize hres : (f_X5_block p1 p2 p3 p4 M) = res
  refine zMet (by decide) (Nat.le_of_ble_eq_true rfl) ?_
  intro p e s m args below meth c ls C0 hH hl
  obtain ⟨⟨hx, hb, hml, hown, hts⟩, -⟩ := id C0
  have hz : ∀ w ∈ zG, w.before args s = true := fun w h => hts w (List.mem_cons_of_mem _ h)
  have hl : lv_has ls 6 [(0, .ref (ad 0)), (1, .int p1), (2, .int p2), (3, .int p3), (4, .int p4)] := hl
  have J42 : ∀ (mm : zM) (H : Heap) (locs : List Loc) (ls : Array Slot), zH D lyC cy ad s.heap mm H locs → lv_has ls 6 [(0, .ref (ad 0))] → f_X5_block_42 p1 p2 p3 p4 mm = res → W p l e { frames := 2, cells := 0, slots := 0, locals := 44 } s m args below meth c H locs 0 0 (MQ below (zQi D lyC cy ad res.1 res.2) args s 0 0 (zA lyC ad)) (F0 m 42 ls []) := by
    intro mm H locs ls hH hl hres
    refine lv_aload_n hx hb dX5_block_42 rfl (lv_at hl 0 rfl) ?_
    refine lv_ldc (v := (-1000000001 : Int32)) hx hb hown (hz _ kK_X5_58) dX5_block_43 ?_
    refine zci (zrunV C0 hH (c_X5_finding l D cy ad _ _) kM_X5_59 zK5 kq_X5_finding zX0 rfl hl.1 rfl rfl rfl ⟨Nat.le_of_ble_eq_true rfl, Nat.le_of_ble_eq_true rfl⟩ (Nat.le_of_ble_eq_true rfl) dX5_block_45) hH (fun H locs hH => ?_)
    exact zreti C0 hH dX5_block_48 (zfst hres) (zsnd hres)
  refine lv_iload_n hx hb dX5_block_0 rfl (lv_at hl 1 rfl) ?_
  refine lv_iconst (v := (0 : Int32)) hx hb dX5_block_1 (by decide) ?_
  refine lv_iconst (v := (5 : Int32)) hx hb dX5_block_2 (by decide) ?_
  refine zcz (zrunS C0 hH (c_X5_within l D cy ad _ _ _ _) kM_X5_54 kq_X5_within rfl hl.1 rfl rfl rfl ⟨Nat.le_of_ble_eq_true rfl, Nat.le_of_ble_eq_true rfl⟩ (Nat.le_of_ble_eq_true rfl) dX5_block_3) hH (fun H locs hH h01_1 => ?_)
  refine lv_if_eq (tgt := 42) hx hb dX5_block_6 (by decide) (fun c6_3 => ?_) (fun c6_3 => ?_)
  · have hres := zif_pos c6_3 hres
    exact J42 _ _ _ _ hH (lv_sub hl [0] rfl) hres
  · have hres := zif_neg c6_3 hres
    refine lv_iload_n hx hb dX5_block_9 rfl (lv_at hl 2 rfl) ?_
    refine lv_iconst (v := (1 : Int32)) hx hb dX5_block_10 (by decide) ?_
    refine lv_sipush (v := (999 : Int32)) hx hb dX5_block_11 (by decide) ?_
    refine zcz (zrunS C0 hH (c_X5_within l D cy ad _ _ _ _) kM_X5_54 kq_X5_within rfl hl.1 rfl rfl rfl ⟨Nat.le_of_ble_eq_true rfl, Nat.le_of_ble_eq_true rfl⟩ (Nat.le_of_ble_eq_true rfl) dX5_block_14) hH (fun H locs hH h01_4 => ?_)
    refine lv_if_eq (tgt := 42) hx hb dX5_block_17 (by decide) (fun c17_6 => ?_) (fun c17_6 => ?_)
    · have hres := zif_pos c17_6 hres
      exact J42 _ _ _ _ hH (lv_sub hl [0] rfl) hres
    · have hres := zif_neg c17_6 hres
      refine lv_iload_n hx hb dX5_block_20 rfl (lv_at hl 3 rfl) ?_
      refine lv_iconst (v := (0 : Int32)) hx hb dX5_block_21 (by decide) ?_
      refine lv_sipush (v := (999 : Int32)) hx hb dX5_block_22 (by decide) ?_
      refine zcz (zrunS C0 hH (c_X5_within l D cy ad _ _ _ _) kM_X5_54 kq_X5_within rfl hl.1 rfl rfl rfl ⟨Nat.le_of_ble_eq_true rfl, Nat.le_of_ble_eq_true rfl⟩ (Nat.le_of_ble_eq_true rfl) dX5_block_25) hH (fun H locs hH h01_7 => ?_)
      refine lv_if_eq (tgt := 42) hx hb dX5_block_28 (by decide) (fun c28_9 => ?_) (fun c28_9 => ?_)
      · have hres := zif_pos c28_9 hres
        exact J42 _ _ _ _ hH (lv_sub hl [0] rfl) hres
      · have hres := zif_neg c28_9 hres
        refine lv_iload hx hb dX5_block_31 (lv_at hl 4 rfl) ?_
        refine lv_iconst (v := (0 : Int32)) hx hb dX5_block_33 (by decide) ?_
        refine lv_bipush (v := (99 : Int32)) hx hb dX5_block_34 (by decide) ?_
        refine zcz (zrunS C0 hH (c_X5_within l D cy ad _ _ _ _) kM_X5_54 kq_X5_within rfl hl.1 rfl rfl rfl ⟨Nat.le_of_ble_eq_true rfl, Nat.le_of_ble_eq_true rfl⟩ (Nat.le_of_ble_eq_true rfl) dX5_block_36) hH (fun H locs hH h01_10 => ?_)
        refine lv_if_ne (tgt := 49) hx hb dX5_block_39 (by decide) (fun c39_12 => ?_) (fun c39_12 => ?_)
        · have hres := zif_neg c39_12 hres
          refine lv_aload_n hx hb dX5_block_49 rfl (lv_at hl 0 rfl) ?_
          refine zgR C0 hH zK5 0 (by decide) _ zX0 rfl kF_X5_12 dX5_block_50 ?_
          refine zgIN C0 hH zK2 1 (by decide) zRow1.is rfl kN_X5_63 dX5_block_53 ?_
          refine lv_bipush (v := (10 : Int32)) hx hb dX5_block_56 (by decide) ?_
          refine lv_icmp_lt (tgt := 68) hx hb dX5_block_58 (by decide) (fun c58_13 => ?_) (fun c58_13 => ?_)
          · have hres := zif_pos c58_13 hres
            refine lv_aload_n hx hb dX5_block_68 rfl (lv_at hl 0 rfl) ?_
            refine zgR C0 hH zK5 0 (by decide) _ zX0 rfl kF_X5_12 dX5_block_69 ?_
            refine zgIN C0 hH zK2 1 (by decide) zRow1.is rfl kN_X5_63 dX5_block_72 ?_
            refine lv_istore (lv' := [(5, _), (0, _), (1, _), (2, _), (3, _), (4, _)]) hx hb dX5_block_75 hl (by decide) rfl (fun ls hl => ?_)
            refine lv_aload_n hx hb dX5_block_77 rfl (lv_at hl 1 rfl) ?_
            refine zgR C0 hH zK5 0 (by decide) _ zX0 rfl kF_X5_12 dX5_block_78 ?_
            refine zgRN C0 hH zK2 0 (by decide) _ zRow1.is rfl kN_X5_68 dX5_block_81 ?_
            refine lv_iload hx hb dX5_block_84 (lv_at hl 0 rfl) ?_
            refine zqldB C0 hH zRow1 (by exact zin10.mpr (by have q0 := hH.row zRow1; have q1 := hH.bkl zBk43; have q2 := hH.bkn zBk43; clear hres; grind [f_X5_within, f_X2_has])) dX5_block_86 (fun hb15 => ?_)
            refine lv_iload_n hx hb dX5_block_87 rfl (lv_at hl 2 rfl) ?_
            refine lv_iload_n hx hb dX5_block_88 rfl (lv_at hl 3 rfl) ?_
            refine lv_iload_n hx hb dX5_block_89 rfl (lv_at hl 4 rfl) ?_
            refine lv_iload hx hb dX5_block_90 (lv_at hl 5 rfl) ?_
            refine zcv (zrunV C0 hH (c_X0_begin l D cy ad _ _ hb15 _ _ _ _) kM_X5_72 zK0 kq_X0_begin hb15 rfl hl.1 rfl rfl rfl ⟨Nat.le_of_ble_eq_true rfl, Nat.le_of_ble_eq_true rfl⟩ (Nat.le_of_ble_eq_true rfl) dX5_block_92) hH (fun H locs hH => ?_)
            refine lv_aload_n hx hb dX5_block_95 rfl (lv_at hl 1 rfl) ?_
            refine zgR C0 hH zK5 0 (by decide) _ zX0 rfl kF_X5_12 dX5_block_96 ?_
            refine lv_dup hx hb dX5_block_99 rfl ?_
            refine zgIN C0 hH zK2 1 (by decide) zRow1.is rfl kN_X5_63 dX5_block_100 ?_
            refine lv_iconst (v := (1 : Int32)) hx hb dX5_block_103 (by decide) ?_
            refine lv_iadd hx hb dX5_block_104 ?_
            refine zpN C0 hH zK2 1 (by decide) zRow1.is rfl rfl zOk_int (zcs (by have q0 := hH.row zRow1; rw [fr_X0_begin (by omega)] at q0 ⊢; clear hres; grind)) kN_X5_63 dX5_block_105 (fun H locs hH => ?_)
            refine lv_iload hx hb dX5_block_108 (lv_at hl 0 rfl) ?_
            exact zreti C0 hH dX5_block_110 (zfst hres) (zsnd hres)
          · have hres := zif_neg c58_13 hres
            refine lv_aload_n hx hb dX5_block_61 rfl (lv_at hl 0 rfl) ?_
            refine lv_ldc (v := (-1000000002 : Int32)) hx hb hown (hz _ kK_X5_67) dX5_block_62 ?_
            refine zci (zrunV C0 hH (c_X5_finding l D cy ad _ _) kM_X5_59 zK5 kq_X5_finding zX0 rfl hl.1 rfl rfl rfl ⟨Nat.le_of_ble_eq_true rfl, Nat.le_of_ble_eq_true rfl⟩ (Nat.le_of_ble_eq_true rfl) dX5_block_64) hH (fun H locs hH => ?_)
            exact zreti C0 hH dX5_block_67 (zfst hres) (zsnd hres)
        · have hres := zif_pos c39_12 hres
          exact J42 _ _ _ _ hH (lv_sub hl [0] rfl) hres
set_option maxRecDepth 100000 in
set_option maxHeartbeats 4000000 in
theorem c_X5_of (l : Launch) (D : va_G) (cy : Nat → ClassId) (ad : Nat → Nat) (M : zM) (p1 : Int32) (p2 : Int32) : Met l yX5_of (Cond.code yX5_of cX5_of 4 (some .int) :: zG) ({ frames := 24, cells := 0, slots := 0, locals := 893 }) (zP D lyC cy ad [.ref (ad 0), .int p1, .int p2] M) (zQi D lyC cy ad (f_X5_of p1 p2 M).1 (f_X5_of p1 p2 M).2) 0 0 (zA lyC ad) := by
  generalize hres : (f_X5_of p1 p2 M) = res
  refine zMet (by decide) (Nat.le_of_ble_eq_true rfl) ?_
  intro p e s m args below meth c ls C0 hH hl
  obtain ⟨⟨hx, hb, hml, hown, hts⟩, -⟩ := id C0
  have hz : ∀ w ∈ zG, w.before args s = true := fun w h => hts w (List.mem_cons_of_mem _ h)
  have hl : lv_has ls 4 [(0, .ref (ad 0)), (1, .int p1), (2, .int p2)] := hl
  refine lv_aload_n hx hb dX5_of_0 rfl (lv_at hl 0 rfl) ?_
  refine zgR C0 hH zK5 0 (by decide) _ zX0 rfl kF_X5_12 dX5_of_1 ?_
  refine lv_iload_n hx hb dX5_of_4 rfl (lv_at hl 1 rfl) ?_
  refine zcz (zrunV C0 hH (c_X2_has l D cy ad _ _ zRow1 _) kM_X5_78 zK2 kq_X2_has zRow1.is rfl hl.1 rfl rfl rfl ⟨Nat.le_of_ble_eq_true rfl, Nat.le_of_ble_eq_true rfl⟩ (Nat.le_of_ble_eq_true rfl) dX5_of_5) hH (fun H locs hH h01_1 => ?_)
  refine lv_if_ne (tgt := 18) hx hb dX5_of_8 (by decide) (fun c8_3 => ?_) (fun c8_3 => ?_)
  · have hres := zif_neg c8_3 hres
    refine lv_aload_n hx hb dX5_of_18 rfl (lv_at hl 0 rfl) ?_
    refine zgR C0 hH zK5 0 (by decide) _ zX0 rfl kF_X5_12 dX5_of_19 ?_
    refine zgRN C0 hH zK2 0 (by decide) _ zRow1.is rfl kN_X5_68 dX5_of_22 ?_
    refine lv_iload_n hx hb dX5_of_25 rfl (lv_at hl 1 rfl) ?_
    refine zqldB C0 hH zRow1 (by exact zin10.mpr (by have q0 := hH.row zRow1; have q1 := hH.bkl zBk43; have q2 := hH.bkn zBk43; clear hres; grind [f_X5_within, f_X2_has])) dX5_of_26 (fun hb4 => ?_)
    refine lv_astore_n (lv' := [(3, _), (0, _), (1, _), (2, _)]) hx hb dX5_of_27 rfl hl (by decide) rfl (fun ls hl => ?_)
    refine lv_iload_n hx hb dX5_of_28 rfl (lv_at hl 3 rfl) ?_
    refine zcase hres (fun c29_5_0 hres => ?_) (fun c29_5_0 hres => ?_)
    · refine ztab (tgt := 80) hx hb c29_5_0 dX5_of_29 (by decide) (by decide) rfl (by decide) ?_
      refine lv_aload_n hx hb dX5_of_80 rfl (lv_at hl 0 rfl) ?_
      refine zgIN C0 hH zK0 0 (by decide) hb4 rfl kN_X5_82 dX5_of_81 ?_
      exact zreti C0 hH dX5_of_84 (zfst hres) (zsnd hres)
    · skip
      refine zcase hres (fun c29_5_1 hres => ?_) (fun c29_5_1 hres => ?_)
      · refine ztab (tgt := 85) hx hb c29_5_1 dX5_of_29 (by decide) (by decide) rfl (by decide) ?_
        refine lv_aload_n hx hb dX5_of_85 rfl (lv_at hl 0 rfl) ?_
        refine zgIN C0 hH zK0 1 (by decide) hb4 rfl kN_X5_85 dX5_of_86 ?_
        exact zreti C0 hH dX5_of_89 (zfst hres) (zsnd hres)
      · skip
        refine zcase hres (fun c29_5_2 hres => ?_) (fun c29_5_2 hres => ?_)
        · refine ztab (tgt := 90) hx hb c29_5_2 dX5_of_29 (by decide) (by decide) rfl (by decide) ?_
          refine lv_aload_n hx hb dX5_of_90 rfl (lv_at hl 0 rfl) ?_
          refine zgIN C0 hH zK0 2 (by decide) hb4 rfl kN_X5_88 dX5_of_91 ?_
          exact zreti C0 hH dX5_of_94 (zfst hres) (zsnd hres)
        · skip
          refine zcase hres (fun c29_5_3 hres => ?_) (fun c29_5_3 hres => ?_)
          · refine ztab (tgt := 95) hx hb c29_5_3 dX5_of_29 (by decide) (by decide) rfl (by decide) ?_
            refine lv_aload_n hx hb dX5_of_95 rfl (lv_at hl 0 rfl) ?_
            refine zgIN C0 hH zK0 3 (by decide) hb4 rfl kN_X5_91 dX5_of_96 ?_
            exact zreti C0 hH dX5_of_99 (zfst hres) (zsnd hres)
          · skip
            refine zcase hres (fun c29_5_4 hres => ?_) (fun c29_5_4 hres => ?_)
            · refine ztab (tgt := 100) hx hb c29_5_4 dX5_of_29 (by decide) (by decide) rfl (by decide) ?_
              refine lv_aload_n hx hb dX5_of_100 rfl (lv_at hl 0 rfl) ?_
              refine zgIN C0 hH zK0 4 (by decide) hb4 rfl kN_X5_94 dX5_of_101 ?_
              exact zreti C0 hH dX5_of_104 (zfst hres) (zsnd hres)
            · skip
              refine zcase hres (fun c29_5_5 hres => ?_) (fun c29_5_5 hres => ?_)
              · refine ztab (tgt := 105) hx hb c29_5_5 dX5_of_29 (by decide) (by decide) rfl (by decide) ?_
                refine lv_aload_n hx hb dX5_of_105 rfl (lv_at hl 0 rfl) ?_
                refine zgIN C0 hH zK0 5 (by decide) hb4 rfl kN_X5_97 dX5_of_106 ?_
                exact zreti C0 hH dX5_of_109 (zfst hres) (zsnd hres)
              · skip
                refine zcase hres (fun c29_5_6 hres => ?_) (fun c29_5_6 hres => ?_)
                · refine ztab (tgt := 110) hx hb c29_5_6 dX5_of_29 (by decide) (by decide) rfl (by decide) ?_
                  refine lv_aload_n hx hb dX5_of_110 rfl (lv_at hl 0 rfl) ?_
                  refine zgIN C0 hH zK0 6 (by decide) hb4 rfl kN_X5_100 dX5_of_111 ?_
                  exact zreti C0 hH dX5_of_114 (zfst hres) (zsnd hres)
                · skip
                  refine zcase hres (fun c29_5_7 hres => ?_) (fun c29_5_7 hres => ?_)
                  · refine ztab (tgt := 115) hx hb c29_5_7 dX5_of_29 (by decide) (by decide) rfl (by decide) ?_
                    refine lv_aload_n hx hb dX5_of_115 rfl (lv_at hl 1 rfl) ?_
                    refine zgR C0 hH zK5 0 (by decide) _ zX0 rfl kF_X5_12 dX5_of_116 ?_
                    refine lv_iload_n hx hb dX5_of_119 rfl (lv_at hl 2 rfl) ?_
                    refine zci (zrunV C0 hH (c_X2_pullOf l D cy ad _ _ zRow1 _ (by have q0 := hH.row zRow1; (try have q1 := hH.row ha0); (try obtain ⟨qa, qb, -⟩ := hct); clear hres; grind [f_X5_within, f_X2_has])) kM_X5_103 zK2 kq_X2_pullOf zRow1.is rfl hl.1 rfl rfl rfl ⟨Nat.le_of_ble_eq_true rfl, Nat.le_of_ble_eq_true rfl⟩ (Nat.le_of_ble_eq_true rfl) dX5_of_120) hH (fun H locs hH => ?_)
                    exact zreti C0 hH dX5_of_123 (zfst hres) (zsnd hres)
                  · skip
                    refine zcase hres (fun c29_5_8 hres => ?_) (fun c29_5_8 hres => ?_)
                    · refine ztab (tgt := 124) hx hb c29_5_8 dX5_of_29 (by decide) (by decide) rfl (by decide) ?_
                      refine lv_aload_n hx hb dX5_of_124 rfl (lv_at hl 1 rfl) ?_
                      refine zgR C0 hH zK5 0 (by decide) _ zX0 rfl kF_X5_12 dX5_of_125 ?_
                      refine lv_iload_n hx hb dX5_of_128 rfl (lv_at hl 2 rfl) ?_
                      refine lv_aload_n hx hb dX5_of_129 rfl (lv_at hl 0 rfl) ?_
                      refine zgIN C0 hH zK0 6 (by decide) hb4 rfl kN_X5_100 dX5_of_130 ?_
                      refine zci (zrunV C0 hH (c_X2_holdsOf l D cy ad _ _ zRow1 _ _ (by have q0 := hH.row zRow1; (try have q1 := hH.row ha0); (try obtain ⟨qa, qb, -⟩ := hct); clear hres; grind [f_X5_within, f_X2_has])) kM_X5_106 zK2 kq_X2_holdsOf zRow1.is rfl hl.1 rfl rfl rfl ⟨Nat.le_of_ble_eq_true rfl, Nat.le_of_ble_eq_true rfl⟩ (Nat.le_of_ble_eq_true rfl) dX5_of_133) hH (fun H locs hH => ?_)
                      exact zreti C0 hH dX5_of_136 (zfst hres) (zsnd hres)
                    · skip
                      refine ztabD (tgt := 137) hx hb [(0 : Int32), (1 : Int32), (2 : Int32), (3 : Int32), (4 : Int32), (5 : Int32), (6 : Int32), (7 : Int32), (8 : Int32)] (List.forall_mem_cons.mpr ⟨c29_5_0, (List.forall_mem_cons.mpr ⟨c29_5_1, (List.forall_mem_cons.mpr ⟨c29_5_2, (List.forall_mem_cons.mpr ⟨c29_5_3, (List.forall_mem_cons.mpr ⟨c29_5_4, (List.forall_mem_cons.mpr ⟨c29_5_5, (List.forall_mem_cons.mpr ⟨c29_5_6, (List.forall_mem_cons.mpr ⟨c29_5_7, (List.forall_mem_cons.mpr ⟨c29_5_8, (fun _ h => absurd h List.not_mem_nil)⟩)⟩)⟩)⟩)⟩)⟩)⟩)⟩)⟩) dX5_of_29 (by decide) (by decide) (by decide) ?_
                      refine lv_aload_n hx hb dX5_of_137 rfl (lv_at hl 1 rfl) ?_
                      refine lv_ldc (v := (-1000000001 : Int32)) hx hb hown (hz _ kK_X5_58) dX5_of_138 ?_
                      refine zci (zrunV C0 hH (c_X5_finding l D cy ad _ _) kM_X5_59 zK5 kq_X5_finding zX0 rfl hl.1 rfl rfl rfl ⟨Nat.le_of_ble_eq_true rfl, Nat.le_of_ble_eq_true rfl⟩ (Nat.le_of_ble_eq_true rfl) dX5_of_140) hH (fun H locs hH => ?_)
                      exact zreti C0 hH dX5_of_143 (zfst hres) (zsnd hres)
  · have hres := zif_pos c8_3 hres
    refine lv_aload_n hx hb dX5_of_11 rfl (lv_at hl 0 rfl) ?_
    refine lv_ldc (v := (-1000000001 : Int32)) hx hb hown (hz _ kK_X5_58) dX5_of_12 ?_
    refine zci (zrunV C0 hH (c_X5_finding l D cy ad _ _) kM_X5_59 zK5 kq_X5_finding zX0 rfl hl.1 rfl rfl rfl ⟨Nat.le_of_ble_eq_true rfl, Nat.le_of_ble_eq_true rfl⟩ (Nat.le_of_ble_eq_true rfl) dX5_of_14) hH (fun H locs hH => ?_)
    exact zreti C0 hH dX5_of_17 (zfst hres) (zsnd hres)
set_option maxRecDepth 100000 in
set_option maxHeartbeats 4000000 in
theorem c_X5_canBecome (l : Launch) (D : va_G) (cy : Nat → ClassId) (ad : Nat → Nat) (M : zM) (p0 : Int32) (p1 : Int32) : Met l yX5_canBecome (Cond.code yX5_canBecome cX5_canBecome 2 (some .boolean) :: zG) ({ frames := 1, cells := 0, slots := 0, locals := 22 }) (zP D lyC cy ad [.int p0, .int p1] M) (zQz D lyC cy ad (f_X5_canBecome p0 p1) M) 0 0 (zA lyC ad) := by
  generalize hres : (f_X5_canBecome p0 p1) = res
  refine zMet (by decide) (Nat.le_of_ble_eq_true rfl) ?_
  intro p e s m args below meth c ls C0 hH hl
  obtain ⟨⟨hx, hb, hml, hown, hts⟩, -⟩ := id C0
  have hz : ∀ w ∈ zG, w.before args s = true := fun w h => hts w (List.mem_cons_of_mem _ h)
  have hl : lv_has ls 2 [(0, .int p0), (1, .int p1)] := hl
  refine lv_iload_n hx hb dX5_canBecome_0 rfl (lv_at hl 0 rfl) ?_
  refine zcase hres (fun c1_1_1 hres => ?_) (fun c1_1_1 hres => ?_)
  · refine ztab (tgt := 32) hx hb c1_1_1 dX5_canBecome_1 (by decide) (by decide) rfl (by decide) ?_
    refine lv_iload_n hx hb dX5_canBecome_32 rfl (lv_at hl 1 rfl) ?_
    refine lv_iconst (v := (1 : Int32)) hx hb dX5_canBecome_33 (by decide) ?_
    refine lv_sipush (v := (999 : Int32)) hx hb dX5_canBecome_34 (by decide) ?_
    refine zcz (zrunS C0 hH (c_X5_within l D cy ad _ _ _ _) kM_X5_54 kq_X5_within rfl hl.1 rfl rfl rfl ⟨Nat.le_of_ble_eq_true rfl, Nat.le_of_ble_eq_true rfl⟩ (Nat.le_of_ble_eq_true rfl) dX5_canBecome_37) hH (fun H locs hH h01_2 => ?_)
    exact zretz C0 hH dX5_canBecome_40 (by first | exact Or.inl rfl | exact Or.inr rfl | assumption) hres rfl
  · skip
    refine zcase hres (fun c1_1_2 hres => ?_) (fun c1_1_2 hres => ?_)
    · refine ztab (tgt := 41) hx hb c1_1_2 dX5_canBecome_1 (by decide) (by decide) rfl (by decide) ?_
      refine lv_iload_n hx hb dX5_canBecome_41 rfl (lv_at hl 1 rfl) ?_
      refine lv_iconst (v := (0 : Int32)) hx hb dX5_canBecome_42 (by decide) ?_
      refine lv_sipush (v := (999 : Int32)) hx hb dX5_canBecome_43 (by decide) ?_
      refine zcz (zrunS C0 hH (c_X5_within l D cy ad _ _ _ _) kM_X5_54 kq_X5_within rfl hl.1 rfl rfl rfl ⟨Nat.le_of_ble_eq_true rfl, Nat.le_of_ble_eq_true rfl⟩ (Nat.le_of_ble_eq_true rfl) dX5_canBecome_46) hH (fun H locs hH h01_4 => ?_)
      exact zretz C0 hH dX5_canBecome_49 (by first | exact Or.inl rfl | exact Or.inr rfl | assumption) hres rfl
    · skip
      refine zcase hres (fun c1_1_3 hres => ?_) (fun c1_1_3 hres => ?_)
      · refine ztab (tgt := 50) hx hb c1_1_3 dX5_canBecome_1 (by decide) (by decide) rfl (by decide) ?_
        refine lv_iload_n hx hb dX5_canBecome_50 rfl (lv_at hl 1 rfl) ?_
        refine lv_iconst (v := (0 : Int32)) hx hb dX5_canBecome_51 (by decide) ?_
        refine lv_bipush (v := (99 : Int32)) hx hb dX5_canBecome_52 (by decide) ?_
        refine zcz (zrunS C0 hH (c_X5_within l D cy ad _ _ _ _) kM_X5_54 kq_X5_within rfl hl.1 rfl rfl rfl ⟨Nat.le_of_ble_eq_true rfl, Nat.le_of_ble_eq_true rfl⟩ (Nat.le_of_ble_eq_true rfl) dX5_canBecome_54) hH (fun H locs hH h01_6 => ?_)
        exact zretz C0 hH dX5_canBecome_57 (by first | exact Or.inl rfl | exact Or.inr rfl | assumption) hres rfl
      · skip
        refine zcase hres (fun c1_1_4 hres => ?_) (fun c1_1_4 hres => ?_)
        · refine ztab (tgt := 58) hx hb c1_1_4 dX5_canBecome_1 (by decide) (by decide) rfl (by decide) ?_
          refine lv_iload_n hx hb dX5_canBecome_58 rfl (lv_at hl 1 rfl) ?_
          refine lv_iconst (v := (0 : Int32)) hx hb dX5_canBecome_59 (by decide) ?_
          refine lv_bipush (v := (99 : Int32)) hx hb dX5_canBecome_60 (by decide) ?_
          refine zcz (zrunS C0 hH (c_X5_within l D cy ad _ _ _ _) kM_X5_54 kq_X5_within rfl hl.1 rfl rfl rfl ⟨Nat.le_of_ble_eq_true rfl, Nat.le_of_ble_eq_true rfl⟩ (Nat.le_of_ble_eq_true rfl) dX5_canBecome_62) hH (fun H locs hH h01_8 => ?_)
          exact zretz C0 hH dX5_canBecome_65 (by first | exact Or.inl rfl | exact Or.inr rfl | assumption) hres rfl
        · skip
          refine ztabD (tgt := 66) hx hb [(1 : Int32), (2 : Int32), (3 : Int32), (4 : Int32)] (List.forall_mem_cons.mpr ⟨c1_1_1, (List.forall_mem_cons.mpr ⟨c1_1_2, (List.forall_mem_cons.mpr ⟨c1_1_3, (List.forall_mem_cons.mpr ⟨c1_1_4, (fun _ h => absurd h List.not_mem_nil)⟩)⟩)⟩)⟩) dX5_canBecome_1 (by decide) (by decide) (by decide) ?_
          refine lv_iconst (v := (0 : Int32)) hx hb dX5_canBecome_66 (by decide) ?_
          exact zretz C0 hH dX5_canBecome_67 (by first | exact Or.inl rfl | exact Or.inr rfl | assumption) hres rfl
set_option maxRecDepth 100000 in
set_option maxHeartbeats 4000000 in
theorem c_X5_set (l : Launch) (D : va_G) (cy : Nat → ClassId) (ad : Nat → Nat) (M : zM) (p1 : Int32) (p2 : Int32) (p3 : Int32) : Met l yX5_set (Cond.code yX5_set cX5_set 6 (some .int) :: zG) ({ frames := 2, cells := 0, slots := 0, locals := 44 }) (zP D lyC cy ad [.ref (ad 0), .int p1, .int p2, .int p3] M) (zQi D lyC cy ad (f_X5_set p1 p2 p3 M).1 (f_X5_set p1 p2 p3 M).2) 0 0 (zA lyC ad) := by
  generalize hres : (f_X5_set p1 p2 p3 M) = res
  refine zMet (by decide) (Nat.le_of_ble_eq_true rfl) ?_
  intro p e s m args below meth c ls C0 hH hl
  obtain ⟨⟨hx, hb, hml, hown, hts⟩, -⟩ := id C0
  have hz : ∀ w ∈ zG, w.before args s = true := fun w h => hts w (List.mem_cons_of_mem _ h)
  have hl : lv_has ls 6 [(0, .ref (ad 0)), (1, .int p1), (2, .int p2), (3, .int p3)] := hl
  have J19 : ∀ (mm : zM) (H : Heap) (locs : List Loc) (ls : Array Slot), zH D lyC cy ad s.heap mm H locs → lv_has ls 6 [(0, .ref (ad 0))] → f_X5_set_19 p1 p2 p3 mm = res → W p l e { frames := 2, cells := 0, slots := 0, locals := 44 } s m args below meth c H locs 0 0 (MQ below (zQi D lyC cy ad res.1 res.2) args s 0 0 (zA lyC ad)) (F0 m 19 ls []) := by
    intro mm H locs ls hH hl hres
    refine lv_aload_n hx hb dX5_set_19 rfl (lv_at hl 0 rfl) ?_
    refine lv_ldc (v := (-1000000001 : Int32)) hx hb hown (hz _ kK_X5_58) dX5_set_20 ?_
    refine zci (zrunV C0 hH (c_X5_finding l D cy ad _ _) kM_X5_59 zK5 kq_X5_finding zX0 rfl hl.1 rfl rfl rfl ⟨Nat.le_of_ble_eq_true rfl, Nat.le_of_ble_eq_true rfl⟩ (Nat.le_of_ble_eq_true rfl) dX5_set_22) hH (fun H locs hH => ?_)
    exact zreti C0 hH dX5_set_25 (zfst hres) (zsnd hres)
  refine lv_aload_n hx hb dX5_set_0 rfl (lv_at hl 0 rfl) ?_
  refine zgR C0 hH zK5 0 (by decide) _ zX0 rfl kF_X5_12 dX5_set_1 ?_
  refine lv_iload_n hx hb dX5_set_4 rfl (lv_at hl 1 rfl) ?_
  refine zcz (zrunV C0 hH (c_X2_has l D cy ad _ _ zRow1 _) kM_X5_78 zK2 kq_X2_has zRow1.is rfl hl.1 rfl rfl rfl ⟨Nat.le_of_ble_eq_true rfl, Nat.le_of_ble_eq_true rfl⟩ (Nat.le_of_ble_eq_true rfl) dX5_set_5) hH (fun H locs hH h01_1 => ?_)
  refine lv_if_eq (tgt := 19) hx hb dX5_set_8 (by decide) (fun c8_3 => ?_) (fun c8_3 => ?_)
  · have hres := zif_pos c8_3 hres
    exact J19 _ _ _ _ hH (lv_sub hl [0] rfl) hres
  · have hres := zif_neg c8_3 hres
    refine lv_iload_n hx hb dX5_set_11 rfl (lv_at hl 2 rfl) ?_
    refine lv_iload_n hx hb dX5_set_12 rfl (lv_at hl 3 rfl) ?_
    refine zcz (zrunS C0 hH (c_X5_canBecome l D cy ad _ _ _) kM_X5_110 kq_X5_canBecome rfl hl.1 rfl rfl rfl ⟨Nat.le_of_ble_eq_true rfl, Nat.le_of_ble_eq_true rfl⟩ (Nat.le_of_ble_eq_true rfl) dX5_set_13) hH (fun H locs hH h01_4 => ?_)
    refine lv_if_ne (tgt := 26) hx hb dX5_set_16 (by decide) (fun c16_6 => ?_) (fun c16_6 => ?_)
    · have hres := zif_neg c16_6 hres
      refine lv_aload_n hx hb dX5_set_26 rfl (lv_at hl 0 rfl) ?_
      refine zgR C0 hH zK5 0 (by decide) _ zX0 rfl kF_X5_12 dX5_set_27 ?_
      refine zgRN C0 hH zK2 0 (by decide) _ zRow1.is rfl kN_X5_68 dX5_set_30 ?_
      refine lv_iload_n hx hb dX5_set_33 rfl (lv_at hl 1 rfl) ?_
      refine zqldB C0 hH zRow1 (by exact zin10.mpr (by have q0 := hH.row zRow1; have q1 := hH.bkl zBk43; have q2 := hH.bkn zBk43; clear hres; grind [f_X5_within, f_X2_has])) dX5_set_34 (fun hb7 => ?_)
      refine lv_astore (lv' := [(4, _), (0, _), (1, _), (2, _), (3, _)]) hx hb dX5_set_35 hl (by decide) rfl (fun ls hl => ?_)
      refine lv_iload_n hx hb dX5_set_37 rfl (lv_at hl 3 rfl) ?_
      refine zcase hres (fun c38_8_1 hres => ?_) (fun c38_8_1 hres => ?_)
      · refine ztab (tgt := 64) hx hb c38_8_1 dX5_set_38 (by decide) (by decide) rfl (by decide) ?_
        refine lv_aload hx hb dX5_set_64 (lv_at hl 0 rfl) ?_
        refine zgIN C0 hH zK0 1 (by decide) hb7 rfl kN_X5_85 dX5_set_66 ?_
        refine lv_istore (lv' := [(5, _), (4, _), (0, _), (1, _), (2, _), (3, _)]) hx hb dX5_set_69 hl (by decide) rfl (fun ls hl => ?_)
        refine lv_aload hx hb dX5_set_71 (lv_at hl 1 rfl) ?_
        refine lv_iload_n hx hb dX5_set_73 rfl (lv_at hl 5 rfl) ?_
        refine zpN C0 hH zK0 1 (by decide) hb7 rfl rfl zOk_int zcn kN_X5_85 dX5_set_74 (fun H locs hH => ?_)
        refine lv_iload hx hb dX5_set_77 (lv_at hl 0 rfl) ?_
        exact zreti C0 hH dX5_set_79 (zfst hres) (zsnd hres)
      · skip
        refine zcase hres (fun c38_8_2 hres => ?_) (fun c38_8_2 hres => ?_)
        · refine ztab (tgt := 80) hx hb c38_8_2 dX5_set_38 (by decide) (by decide) rfl (by decide) ?_
          refine lv_aload hx hb dX5_set_80 (lv_at hl 0 rfl) ?_
          refine zgIN C0 hH zK0 2 (by decide) hb7 rfl kN_X5_88 dX5_set_82 ?_
          refine lv_istore (lv' := [(5, _), (4, _), (0, _), (1, _), (2, _), (3, _)]) hx hb dX5_set_85 hl (by decide) rfl (fun ls hl => ?_)
          refine lv_aload hx hb dX5_set_87 (lv_at hl 1 rfl) ?_
          refine lv_iload_n hx hb dX5_set_89 rfl (lv_at hl 5 rfl) ?_
          refine zpN C0 hH zK0 2 (by decide) hb7 rfl rfl zOk_int zcn kN_X5_88 dX5_set_90 (fun H locs hH => ?_)
          refine lv_iload hx hb dX5_set_93 (lv_at hl 0 rfl) ?_
          exact zreti C0 hH dX5_set_95 (zfst hres) (zsnd hres)
        · skip
          refine zcase hres (fun c38_8_3 hres => ?_) (fun c38_8_3 hres => ?_)
          · refine ztab (tgt := 96) hx hb c38_8_3 dX5_set_38 (by decide) (by decide) rfl (by decide) ?_
            refine lv_aload hx hb dX5_set_96 (lv_at hl 0 rfl) ?_
            refine zgIN C0 hH zK0 3 (by decide) hb7 rfl kN_X5_91 dX5_set_98 ?_
            refine lv_istore (lv' := [(5, _), (4, _), (0, _), (1, _), (2, _), (3, _)]) hx hb dX5_set_101 hl (by decide) rfl (fun ls hl => ?_)
            refine lv_aload hx hb dX5_set_103 (lv_at hl 1 rfl) ?_
            refine lv_iload_n hx hb dX5_set_105 rfl (lv_at hl 5 rfl) ?_
            refine zpN C0 hH zK0 3 (by decide) hb7 rfl rfl zOk_int zcn kN_X5_91 dX5_set_106 (fun H locs hH => ?_)
            refine lv_iload hx hb dX5_set_109 (lv_at hl 0 rfl) ?_
            exact zreti C0 hH dX5_set_111 (zfst hres) (zsnd hres)
          · skip
            refine ztabD (tgt := 112) hx hb [(1 : Int32), (2 : Int32), (3 : Int32)] (List.forall_mem_cons.mpr ⟨c38_8_1, (List.forall_mem_cons.mpr ⟨c38_8_2, (List.forall_mem_cons.mpr ⟨c38_8_3, (fun _ h => absurd h List.not_mem_nil)⟩)⟩)⟩) dX5_set_38 (by decide) (by decide) (by decide) ?_
            refine lv_aload hx hb dX5_set_112 (lv_at hl 0 rfl) ?_
            refine zgIN C0 hH zK0 4 (by decide) hb7 rfl kN_X5_94 dX5_set_114 ?_
            refine lv_istore (lv' := [(5, _), (4, _), (0, _), (1, _), (2, _), (3, _)]) hx hb dX5_set_117 hl (by decide) rfl (fun ls hl => ?_)
            refine lv_aload hx hb dX5_set_119 (lv_at hl 1 rfl) ?_
            refine lv_iload_n hx hb dX5_set_121 rfl (lv_at hl 5 rfl) ?_
            refine zpN C0 hH zK0 4 (by decide) hb7 rfl rfl zOk_int zcn kN_X5_94 dX5_set_122 (fun H locs hH => ?_)
            refine lv_iload hx hb dX5_set_125 (lv_at hl 0 rfl) ?_
            exact zreti C0 hH dX5_set_127 (zfst hres) (zsnd hres)
    · have hres := zif_pos c16_6 hres
      exact J19 _ _ _ _ hH (lv_sub hl [0] rfl) hres
set_option maxRecDepth 100000 in
set_option maxHeartbeats 4000000 in
theorem c_X5_isOf (l : Launch) (D : va_G) (cy : Nat → ClassId) (ad : Nat → Nat) (M : zM) (p0 : Int32) (p1 : Int32) : Met l yX5_isOf (Cond.code yX5_isOf cX5_isOf 4 (some .boolean) :: zG) ({ frames := 1, cells := 0, slots := 0, locals := 22 }) (zP D lyC cy ad [.int p0, .int p1] M) (zQz D lyC cy ad (f_X5_isOf p0 p1 M) M) 0 0 (zA lyC ad) := by
  generalize hres : (f_X5_isOf p0 p1 M) = res
  refine zMet (by decide) (Nat.le_of_ble_eq_true rfl) ?_
  intro p e s m args below meth c ls C0 hH hl
  obtain ⟨⟨hx, hb, hml, hown, hts⟩, -⟩ := id C0
  have hz : ∀ w ∈ zG, w.before args s = true := fun w h => hts w (List.mem_cons_of_mem _ h)
  have hl : lv_has ls 4 [(0, .int p0), (1, .int p1)] := hl
  have L4 : ∀ (n4 : Nat), ∀ (v2 : Int32) (v3 : Int32) (H : Heap) (locs : List Loc) (ls : Array Slot), (zCt 6 n4 v3) → zH D lyC cy ad s.heap M H locs → lv_has ls 4 [(1, .int p1), (2, .int v2), (3, .int v3)] → f_X5_isOf_4 p0 p1 M n4 v2 v3 = res → W p l e { frames := 1, cells := 0, slots := 0, locals := 22 } s m args below meth c H locs 0 0 (MQ below (zQz D lyC cy ad res M) args s 0 0 (zA lyC ad)) (F0 m 4 ls []) := by
    intro n4
    induction n4 with
    | zero =>
      intro v2 v3 H locs ls hct hH hl hres
      exfalso; exact hct.zero
    | succ n4 ih4 =>
      intro v2 v3 H locs ls hct hH hl hres
      refine lv_iload_n hx hb dX5_isOf_4 rfl (lv_at hl 2 rfl) ?_
      refine lv_bipush (v := (6 : Int32)) hx hb dX5_isOf_5 (by decide) ?_
      refine lv_icmp_ge (tgt := 38) hx hb dX5_isOf_7 (by decide) (fun c7_1 => ?_) (fun c7_1 => ?_)
      · have hres := zif_pos c7_1 hres
        refine lv_iconst (v := (0 : Int32)) hx hb dX5_isOf_38 (by decide) ?_
        exact zretz C0 hH dX5_isOf_39 (by first | exact Or.inl rfl | exact Or.inr rfl | assumption) hres rfl
      · have hres := zif_neg c7_1 hres
        refine lv_iload_n hx hb dX5_isOf_10 rfl (lv_at hl 1 rfl) ?_
        refine lv_iconst (v := (0 : Int32)) hx hb dX5_isOf_11 (by decide) ?_
        refine lv_iconst (v := (5 : Int32)) hx hb dX5_isOf_12 (by decide) ?_
        refine zcz (zrunS C0 hH (c_X5_within l D cy ad _ _ _ _) kM_X5_54 kq_X5_within rfl hl.1 rfl rfl rfl ⟨Nat.le_of_ble_eq_true rfl, Nat.le_of_ble_eq_true rfl⟩ (Nat.le_of_ble_eq_true rfl) dX5_isOf_13) hH (fun H locs hH h01_2 => ?_)
        refine lv_if_eq (tgt := 38) hx hb dX5_isOf_16 (by decide) (fun c16_4 => ?_) (fun c16_4 => ?_)
        · have hres := zif_pos c16_4 hres
          refine lv_iconst (v := (0 : Int32)) hx hb dX5_isOf_38 (by decide) ?_
          exact zretz C0 hH dX5_isOf_39 (by first | exact Or.inl rfl | exact Or.inr rfl | assumption) hres rfl
        · have hres := zif_neg c16_4 hres
          refine lv_iload_n hx hb dX5_isOf_19 rfl (lv_at hl 1 rfl) ?_
          refine lv_iload_n hx hb dX5_isOf_20 rfl (lv_at hl 0 rfl) ?_
          refine lv_icmp_ne (tgt := 26) hx hb dX5_isOf_21 (by decide) (fun c21_5 => ?_) (fun c21_5 => ?_)
          · have hres := zif_neg c21_5 hres
            refine zgets C0 hH kF_X5_232 dX5_isOf_26 (fun t6 hT6 => ?_)
            refine lv_iload_n hx hb dX5_isOf_29 rfl (lv_at hl 1 rfl) ?_
            refine zunld C0 hH hT6 (by exact zin6.mpr (by have q0 := hH.row zRow1; have q1 := hH.bkl zBk43; have q2 := hH.bkn zBk43; obtain ⟨qa, qb, -⟩ := hct; clear hres; grind [f_X5_within, f_X2_has])) dX5_isOf_30 ?_
            refine lv_istore_n (lv' := [(2, _), (1, _), (3, _)]) hx hb dX5_isOf_31 rfl hl (by decide) rfl (fun ls hl => ?_)
            refine ziinc (lv' := [(3, _), (2, _), (1, _)]) (k := 2) hx hb (1 : Int32) (by decide) dX5_isOf_32 hl rfl (by decide) rfl (fun ls hl => ?_)
            refine lv_goto (tgt := 4) hx hb dX5_isOf_35 (by decide) ?_
            exact ih4 _ _ _ _ _ (by first | exact zCt.start (by decide) (by decide) | exact zCt.step (m := 6) hct (by clear hres; grind [f_X5_within, f_X2_has]) (by decide)) hH (lv_sub hl [2, 1, 0] rfl) hres
          · have hres := zif_pos c21_5 hres
            refine lv_iconst (v := (1 : Int32)) hx hb dX5_isOf_24 (by decide) ?_
            exact zretz C0 hH dX5_isOf_25 (by first | exact Or.inl rfl | exact Or.inr rfl | assumption) hres rfl
  refine lv_iload_n hx hb dX5_isOf_0 rfl (lv_at hl 0 rfl) ?_
  refine lv_istore_n (lv' := [(2, _), (0, _), (1, _)]) hx hb dX5_isOf_1 rfl hl (by decide) rfl (fun ls hl => ?_)
  refine lv_iconst (v := (0 : Int32)) hx hb dX5_isOf_2 (by decide) ?_
  refine lv_istore_n (lv' := [(3, _), (2, _), (0, _), (1, _)]) hx hb dX5_isOf_3 rfl hl (by decide) rfl (fun ls hl => ?_)
  exact L4 (7) _ _ _ _ _ (by first | exact zCt.start (by decide) (by decide) | exact zCt.step (m := 6) hct (by clear hres; grind [f_X5_within, f_X2_has]) (by decide)) hH (lv_sub hl [3, 1, 0] rfl) hres
set_option maxRecDepth 100000 in
set_option maxHeartbeats 4000000 in
theorem c_X5_as (l : Launch) (D : va_G) (cy : Nat → ClassId) (ad : Nat → Nat) (M : zM) (p1 : Int32) (p2 : Int32) : Met l yX5_as (Cond.code yX5_as cX5_as 4 (some .int) :: zG) ({ frames := 24, cells := 0, slots := 0, locals := 893 }) (zP D lyC cy ad [.ref (ad 0), .int p1, .int p2] M) (zQi D lyC cy ad (f_X5_as p1 p2 M).1 (f_X5_as p1 p2 M).2) 0 0 (zA lyC ad) := by
  generalize hres : (f_X5_as p1 p2 M) = res
  refine zMet (by decide) (Nat.le_of_ble_eq_true rfl) ?_
  intro p e s m args below meth c ls C0 hH hl
  obtain ⟨⟨hx, hb, hml, hown, hts⟩, -⟩ := id C0
  have hz : ∀ w ∈ zG, w.before args s = true := fun w h => hts w (List.mem_cons_of_mem _ h)
  have hl : lv_has ls 4 [(0, .ref (ad 0)), (1, .int p1), (2, .int p2)] := hl
  have J20 : ∀ (mm : zM) (H : Heap) (locs : List Loc) (ls : Array Slot), zH D lyC cy ad s.heap mm H locs → lv_has ls 4 [(0, .ref (ad 0))] → f_X5_as_20 p1 p2 mm = res → W p l e { frames := 24, cells := 0, slots := 0, locals := 893 } s m args below meth c H locs 0 0 (MQ below (zQi D lyC cy ad res.1 res.2) args s 0 0 (zA lyC ad)) (F0 m 20 ls []) := by
    intro mm H locs ls hH hl hres
    refine lv_aload_n hx hb dX5_as_20 rfl (lv_at hl 0 rfl) ?_
    refine lv_ldc (v := (-1000000001 : Int32)) hx hb hown (hz _ kK_X5_58) dX5_as_21 ?_
    refine zci (zrunV C0 hH (c_X5_finding l D cy ad _ _) kM_X5_59 zK5 kq_X5_finding zX0 rfl hl.1 rfl rfl rfl ⟨Nat.le_of_ble_eq_true rfl, Nat.le_of_ble_eq_true rfl⟩ (Nat.le_of_ble_eq_true rfl) dX5_as_23) hH (fun H locs hH => ?_)
    exact zreti C0 hH dX5_as_26 (zfst hres) (zsnd hres)
  refine lv_aload_n hx hb dX5_as_0 rfl (lv_at hl 0 rfl) ?_
  refine zgR C0 hH zK5 0 (by decide) _ zX0 rfl kF_X5_12 dX5_as_1 ?_
  refine lv_iload_n hx hb dX5_as_4 rfl (lv_at hl 1 rfl) ?_
  refine zcz (zrunV C0 hH (c_X2_has l D cy ad _ _ zRow1 _) kM_X5_78 zK2 kq_X2_has zRow1.is rfl hl.1 rfl rfl rfl ⟨Nat.le_of_ble_eq_true rfl, Nat.le_of_ble_eq_true rfl⟩ (Nat.le_of_ble_eq_true rfl) dX5_as_5) hH (fun H locs hH h01_1 => ?_)
  refine lv_if_eq (tgt := 20) hx hb dX5_as_8 (by decide) (fun c8_3 => ?_) (fun c8_3 => ?_)
  · have hres := zif_pos c8_3 hres
    exact J20 _ _ _ _ hH (lv_sub hl [0] rfl) hres
  · have hres := zif_neg c8_3 hres
    refine lv_iload_n hx hb dX5_as_11 rfl (lv_at hl 2 rfl) ?_
    refine lv_iconst (v := (0 : Int32)) hx hb dX5_as_12 (by decide) ?_
    refine lv_iconst (v := (5 : Int32)) hx hb dX5_as_13 (by decide) ?_
    refine zcz (zrunS C0 hH (c_X5_within l D cy ad _ _ _ _) kM_X5_54 kq_X5_within rfl hl.1 rfl rfl rfl ⟨Nat.le_of_ble_eq_true rfl, Nat.le_of_ble_eq_true rfl⟩ (Nat.le_of_ble_eq_true rfl) dX5_as_14) hH (fun H locs hH h01_4 => ?_)
    refine lv_if_ne (tgt := 27) hx hb dX5_as_17 (by decide) (fun c17_6 => ?_) (fun c17_6 => ?_)
    · have hres := zif_neg c17_6 hres
      refine lv_aload_n hx hb dX5_as_27 rfl (lv_at hl 0 rfl) ?_
      refine zgR C0 hH zK5 0 (by decide) _ zX0 rfl kF_X5_12 dX5_as_28 ?_
      refine zgRN C0 hH zK2 0 (by decide) _ zRow1.is rfl kN_X5_68 dX5_as_31 ?_
      refine lv_iload_n hx hb dX5_as_34 rfl (lv_at hl 1 rfl) ?_
      refine zqldB C0 hH zRow1 (by exact zin10.mpr (by have q0 := hH.row zRow1; have q1 := hH.bkl zBk43; have q2 := hH.bkn zBk43; clear hres; grind [f_X5_within, f_X2_has])) dX5_as_35 (fun hb7 => ?_)
      refine lv_astore_n (lv' := [(3, _), (0, _), (1, _), (2, _)]) hx hb dX5_as_36 rfl hl (by decide) rfl (fun ls hl => ?_)
      refine lv_aload_n hx hb dX5_as_37 rfl (lv_at hl 0 rfl) ?_
      refine zgIN C0 hH zK0 0 (by decide) hb7 rfl kN_X5_82 dX5_as_38 ?_
      refine lv_iload_n hx hb dX5_as_41 rfl (lv_at hl 3 rfl) ?_
      refine zcz (zrunS C0 hH (c_X5_isOf l D cy ad _ _ _) kM_X5_114 kq_X5_isOf rfl hl.1 rfl rfl rfl ⟨Nat.le_of_ble_eq_true rfl, Nat.le_of_ble_eq_true rfl⟩ (Nat.le_of_ble_eq_true rfl) dX5_as_42) hH (fun H locs hH h01_8 => ?_)
      refine lv_if_ne (tgt := 55) hx hb dX5_as_45 (by decide) (fun c45_10 => ?_) (fun c45_10 => ?_)
      · have hres := zif_neg c45_10 hres
        refine lv_aload_n hx hb dX5_as_55 rfl (lv_at hl 1 rfl) ?_
        refine zgR C0 hH zK5 0 (by decide) _ zX0 rfl kF_X5_12 dX5_as_56 ?_
        refine lv_iload_n hx hb dX5_as_59 rfl (lv_at hl 2 rfl) ?_
        refine lv_aload_n hx hb dX5_as_60 rfl (lv_at hl 0 rfl) ?_
        refine zgIN C0 hH zK0 6 (by decide) hb7 rfl kN_X5_100 dX5_as_61 ?_
        refine zci (zrunV C0 hH (c_X2_holdsOf l D cy ad _ _ zRow1 _ _ (by have q0 := hH.row zRow1; (try have q1 := hH.row ha0); (try obtain ⟨qa, qb, -⟩ := hct); clear hres; grind [f_X5_within, f_X2_has])) kM_X5_106 zK2 kq_X2_holdsOf zRow1.is rfl hl.1 rfl rfl rfl ⟨Nat.le_of_ble_eq_true rfl, Nat.le_of_ble_eq_true rfl⟩ (Nat.le_of_ble_eq_true rfl) dX5_as_64) hH (fun H locs hH => ?_)
        exact zreti C0 hH dX5_as_67 (zfst hres) (zsnd hres)
      · have hres := zif_pos c45_10 hres
        refine lv_aload_n hx hb dX5_as_48 rfl (lv_at hl 1 rfl) ?_
        refine lv_ldc (v := (-1000000003 : Int32)) hx hb hown (hz _ kK_X5_117) dX5_as_49 ?_
        refine zci (zrunV C0 hH (c_X5_finding l D cy ad _ _) kM_X5_59 zK5 kq_X5_finding zX0 rfl hl.1 rfl rfl rfl ⟨Nat.le_of_ble_eq_true rfl, Nat.le_of_ble_eq_true rfl⟩ (Nat.le_of_ble_eq_true rfl) dX5_as_51) hH (fun H locs hH => ?_)
        exact zreti C0 hH dX5_as_54 (zfst hres) (zsnd hres)
    · have hres := zif_pos c17_6 hres
      exact J20 _ _ _ _ hH (lv_sub hl [0] rfl) hres
set_option maxRecDepth 100000 in
set_option maxHeartbeats 4000000 in
theorem c_X5_holds (l : Launch) (D : va_G) (cy : Nat → ClassId) (ad : Nat → Nat) (M : zM) (p1 : Int32) (p2 : Int32) : Met l yX5_holds (Cond.code yX5_holds cX5_holds 3 (some .int) :: zG) ({ frames := 24, cells := 0, slots := 0, locals := 893 }) (zP D lyC cy ad [.ref (ad 0), .int p1, .int p2] M) (zQi D lyC cy ad (f_X5_holds p1 p2 M).1 (f_X5_holds p1 p2 M).2) 0 0 (zA lyC ad) := by
  generalize hres : (f_X5_holds p1 p2 M) = res
  refine zMet (by decide) (Nat.le_of_ble_eq_true rfl) ?_
  intro p e s m args below meth c ls C0 hH hl
  obtain ⟨⟨hx, hb, hml, hown, hts⟩, -⟩ := id C0
  have hz : ∀ w ∈ zG, w.before args s = true := fun w h => hts w (List.mem_cons_of_mem _ h)
  have hl : lv_has ls 3 [(0, .ref (ad 0)), (1, .int p1), (2, .int p2)] := hl
  have J22 : ∀ (mm : zM) (H : Heap) (locs : List Loc) (ls : Array Slot), zH D lyC cy ad s.heap mm H locs → lv_has ls 3 [(0, .ref (ad 0))] → f_X5_holds_22 p1 p2 mm = res → W p l e { frames := 24, cells := 0, slots := 0, locals := 893 } s m args below meth c H locs 0 0 (MQ below (zQi D lyC cy ad res.1 res.2) args s 0 0 (zA lyC ad)) (F0 m 22 ls []) := by
    intro mm H locs ls hH hl hres
    refine lv_aload_n hx hb dX5_holds_22 rfl (lv_at hl 0 rfl) ?_
    refine lv_ldc (v := (-1000000001 : Int32)) hx hb hown (hz _ kK_X5_58) dX5_holds_23 ?_
    refine zci (zrunV C0 hH (c_X5_finding l D cy ad _ _) kM_X5_59 zK5 kq_X5_finding zX0 rfl hl.1 rfl rfl rfl ⟨Nat.le_of_ble_eq_true rfl, Nat.le_of_ble_eq_true rfl⟩ (Nat.le_of_ble_eq_true rfl) dX5_holds_25) hH (fun H locs hH => ?_)
    exact zreti C0 hH dX5_holds_28 (zfst hres) (zsnd hres)
  refine lv_aload_n hx hb dX5_holds_0 rfl (lv_at hl 0 rfl) ?_
  refine zgR C0 hH zK5 0 (by decide) _ zX0 rfl kF_X5_12 dX5_holds_1 ?_
  refine lv_iload_n hx hb dX5_holds_4 rfl (lv_at hl 1 rfl) ?_
  refine zcz (zrunV C0 hH (c_X2_has l D cy ad _ _ zRow1 _) kM_X5_78 zK2 kq_X2_has zRow1.is rfl hl.1 rfl rfl rfl ⟨Nat.le_of_ble_eq_true rfl, Nat.le_of_ble_eq_true rfl⟩ (Nat.le_of_ble_eq_true rfl) dX5_holds_5) hH (fun H locs hH h01_1 => ?_)
  refine lv_if_eq (tgt := 22) hx hb dX5_holds_8 (by decide) (fun c8_3 => ?_) (fun c8_3 => ?_)
  · have hres := zif_pos c8_3 hres
    exact J22 _ _ _ _ hH (lv_sub hl [0] rfl) hres
  · have hres := zif_neg c8_3 hres
    refine lv_iload_n hx hb dX5_holds_11 rfl (lv_at hl 2 rfl) ?_
    refine lv_iconst (v := (0 : Int32)) hx hb dX5_holds_12 (by decide) ?_
    refine lv_sipush (v := (999 : Int32)) hx hb dX5_holds_13 (by decide) ?_
    refine zcz (zrunS C0 hH (c_X5_within l D cy ad _ _ _ _) kM_X5_54 kq_X5_within rfl hl.1 rfl rfl rfl ⟨Nat.le_of_ble_eq_true rfl, Nat.le_of_ble_eq_true rfl⟩ (Nat.le_of_ble_eq_true rfl) dX5_holds_16) hH (fun H locs hH h01_4 => ?_)
    refine lv_if_ne (tgt := 29) hx hb dX5_holds_19 (by decide) (fun c19_6 => ?_) (fun c19_6 => ?_)
    · have hres := zif_neg c19_6 hres
      refine lv_aload_n hx hb dX5_holds_29 rfl (lv_at hl 0 rfl) ?_
      refine zgR C0 hH zK5 0 (by decide) _ zX0 rfl kF_X5_12 dX5_holds_30 ?_
      refine lv_iload_n hx hb dX5_holds_33 rfl (lv_at hl 1 rfl) ?_
      refine lv_iload_n hx hb dX5_holds_34 rfl (lv_at hl 2 rfl) ?_
      refine zci (zrunV C0 hH (c_X2_holdsOf l D cy ad _ _ zRow1 _ _ (by have q0 := hH.row zRow1; (try have q1 := hH.row ha0); (try obtain ⟨qa, qb, -⟩ := hct); clear hres; grind [f_X5_within, f_X2_has])) kM_X5_106 zK2 kq_X2_holdsOf zRow1.is rfl hl.1 rfl rfl rfl ⟨Nat.le_of_ble_eq_true rfl, Nat.le_of_ble_eq_true rfl⟩ (Nat.le_of_ble_eq_true rfl) dX5_holds_35) hH (fun H locs hH => ?_)
      exact zreti C0 hH dX5_holds_38 (zfst hres) (zsnd hres)
    · have hres := zif_pos c19_6 hres
      exact J22 _ _ _ _ hH (lv_sub hl [0] rfl) hres
set_option maxRecDepth 100000 in
set_option maxHeartbeats 4000000 in
theorem c_X5_rubs (l : Launch) (D : va_G) (cy : Nat → ClassId) (ad : Nat → Nat) (M : zM) (p1 : Int32) (p2 : Int32) : Met l yX5_rubs (Cond.code yX5_rubs cX5_rubs 3 (some .int) :: zG) ({ frames := 2, cells := 0, slots := 0, locals := 49 }) (zP D lyC cy ad [.ref (ad 0), .int p1, .int p2] M) (zQi D lyC cy ad (f_X5_rubs p1 p2 M).1 (f_X5_rubs p1 p2 M).2) 0 0 (zA lyC ad) := by
  generalize hres : (f_X5_rubs p1 p2 M) = res
  refine zMet (by decide) (Nat.le_of_ble_eq_true rfl) ?_
  intro p e s m args below meth c ls C0 hH hl
  obtain ⟨⟨hx, hb, hml, hown, hts⟩, -⟩ := id C0
  have hz : ∀ w ∈ zG, w.before args s = true := fun w h => hts w (List.mem_cons_of_mem _ h)
  have hl : lv_has ls 3 [(0, .ref (ad 0)), (1, .int p1), (2, .int p2)] := hl
  have J22 : ∀ (mm : zM) (H : Heap) (locs : List Loc) (ls : Array Slot), zH D lyC cy ad s.heap mm H locs → lv_has ls 3 [(0, .ref (ad 0))] → f_X5_rubs_22 p1 p2 mm = res → W p l e { frames := 2, cells := 0, slots := 0, locals := 49 } s m args below meth c H locs 0 0 (MQ below (zQi D lyC cy ad res.1 res.2) args s 0 0 (zA lyC ad)) (F0 m 22 ls []) := by
    intro mm H locs ls hH hl hres
    refine lv_aload_n hx hb dX5_rubs_22 rfl (lv_at hl 0 rfl) ?_
    refine lv_ldc (v := (-1000000001 : Int32)) hx hb hown (hz _ kK_X5_58) dX5_rubs_23 ?_
    refine zci (zrunV C0 hH (c_X5_finding l D cy ad _ _) kM_X5_59 zK5 kq_X5_finding zX0 rfl hl.1 rfl rfl rfl ⟨Nat.le_of_ble_eq_true rfl, Nat.le_of_ble_eq_true rfl⟩ (Nat.le_of_ble_eq_true rfl) dX5_rubs_25) hH (fun H locs hH => ?_)
    exact zreti C0 hH dX5_rubs_28 (zfst hres) (zsnd hres)
  refine lv_aload_n hx hb dX5_rubs_0 rfl (lv_at hl 0 rfl) ?_
  refine zgR C0 hH zK5 0 (by decide) _ zX0 rfl kF_X5_12 dX5_rubs_1 ?_
  refine lv_iload_n hx hb dX5_rubs_4 rfl (lv_at hl 1 rfl) ?_
  refine zcz (zrunV C0 hH (c_X2_has l D cy ad _ _ zRow1 _) kM_X5_78 zK2 kq_X2_has zRow1.is rfl hl.1 rfl rfl rfl ⟨Nat.le_of_ble_eq_true rfl, Nat.le_of_ble_eq_true rfl⟩ (Nat.le_of_ble_eq_true rfl) dX5_rubs_5) hH (fun H locs hH h01_1 => ?_)
  refine lv_if_eq (tgt := 22) hx hb dX5_rubs_8 (by decide) (fun c8_3 => ?_) (fun c8_3 => ?_)
  · have hres := zif_pos c8_3 hres
    exact J22 _ _ _ _ hH (lv_sub hl [0] rfl) hres
  · have hres := zif_neg c8_3 hres
    refine lv_iload_n hx hb dX5_rubs_11 rfl (lv_at hl 2 rfl) ?_
    refine lv_iconst (v := (0 : Int32)) hx hb dX5_rubs_12 (by decide) ?_
    refine lv_sipush (v := (999 : Int32)) hx hb dX5_rubs_13 (by decide) ?_
    refine zcz (zrunS C0 hH (c_X5_within l D cy ad _ _ _ _) kM_X5_54 kq_X5_within rfl hl.1 rfl rfl rfl ⟨Nat.le_of_ble_eq_true rfl, Nat.le_of_ble_eq_true rfl⟩ (Nat.le_of_ble_eq_true rfl) dX5_rubs_16) hH (fun H locs hH h01_4 => ?_)
    refine lv_if_ne (tgt := 29) hx hb dX5_rubs_19 (by decide) (fun c19_6 => ?_) (fun c19_6 => ?_)
    · have hres := zif_neg c19_6 hres
      refine lv_aload_n hx hb dX5_rubs_29 rfl (lv_at hl 0 rfl) ?_
      refine zgR C0 hH zK5 0 (by decide) _ zX0 rfl kF_X5_12 dX5_rubs_30 ?_
      refine zgRN C0 hH zK2 0 (by decide) _ zRow1.is rfl kN_X5_68 dX5_rubs_33 ?_
      refine lv_iload_n hx hb dX5_rubs_36 rfl (lv_at hl 1 rfl) ?_
      refine zqldB C0 hH zRow1 (by exact zin10.mpr (by have q0 := hH.row zRow1; have q1 := hH.bkl zBk43; have q2 := hH.bkn zBk43; clear hres; grind [f_X5_within, f_X2_has])) dX5_rubs_37 (fun hb7 => ?_)
      refine lv_iload_n hx hb dX5_rubs_38 rfl (lv_at hl 2 rfl) ?_
      refine zci (zrunV C0 hH (c_X0_rubsBy l D cy ad _ _ hb7 _) kM_X5_118 zK0 kq_X0_rubsBy hb7 rfl hl.1 rfl rfl rfl ⟨Nat.le_of_ble_eq_true rfl, Nat.le_of_ble_eq_true rfl⟩ (Nat.le_of_ble_eq_true rfl) dX5_rubs_39) hH (fun H locs hH => ?_)
      exact zreti C0 hH dX5_rubs_42 (zfst hres) (zsnd hres)
    · have hres := zif_pos c19_6 hres
      exact J22 _ _ _ _ hH (lv_sub hl [0] rfl) hres
set_option maxRecDepth 100000 in
set_option maxHeartbeats 4000000 in
theorem c_X5_push (l : Launch) (D : va_G) (cy : Nat → ClassId) (ad : Nat → Nat) (M : zM) (p1 : Int32) (p2 : Int32) : Met l yX5_push (Cond.code yX5_push cX5_push 4 (some .int) :: zG) ({ frames := 2, cells := 0, slots := 0, locals := 44 }) (zP D lyC cy ad [.ref (ad 0), .int p1, .int p2] M) (zQi D lyC cy ad (f_X5_push p1 p2 M).1 (f_X5_push p1 p2 M).2) 0 0 (zA lyC ad) := by
  generalize hres : (f_X5_push p1 p2 M) = res
  refine zMet (by decide) (Nat.le_of_ble_eq_true rfl) ?_
  intro p e s m args below meth c ls C0 hH hl
  obtain ⟨⟨hx, hb, hml, hown, hts⟩, -⟩ := id C0
  have hz : ∀ w ∈ zG, w.before args s = true := fun w h => hts w (List.mem_cons_of_mem _ h)
  have hl : lv_has ls 4 [(0, .ref (ad 0)), (1, .int p1), (2, .int p2)] := hl
  have J24 : ∀ (mm : zM) (H : Heap) (locs : List Loc) (ls : Array Slot), zH D lyC cy ad s.heap mm H locs → lv_has ls 4 [(0, .ref (ad 0))] → f_X5_push_24 p1 p2 mm = res → W p l e { frames := 2, cells := 0, slots := 0, locals := 44 } s m args below meth c H locs 0 0 (MQ below (zQi D lyC cy ad res.1 res.2) args s 0 0 (zA lyC ad)) (F0 m 24 ls []) := by
    intro mm H locs ls hH hl hres
    refine lv_aload_n hx hb dX5_push_24 rfl (lv_at hl 0 rfl) ?_
    refine lv_ldc (v := (-1000000001 : Int32)) hx hb hown (hz _ kK_X5_58) dX5_push_25 ?_
    refine zci (zrunV C0 hH (c_X5_finding l D cy ad _ _) kM_X5_59 zK5 kq_X5_finding zX0 rfl hl.1 rfl rfl rfl ⟨Nat.le_of_ble_eq_true rfl, Nat.le_of_ble_eq_true rfl⟩ (Nat.le_of_ble_eq_true rfl) dX5_push_27) hH (fun H locs hH => ?_)
    exact zreti C0 hH dX5_push_30 (zfst hres) (zsnd hres)
  refine lv_aload_n hx hb dX5_push_0 rfl (lv_at hl 0 rfl) ?_
  refine zgR C0 hH zK5 0 (by decide) _ zX0 rfl kF_X5_12 dX5_push_1 ?_
  refine lv_iload_n hx hb dX5_push_4 rfl (lv_at hl 1 rfl) ?_
  refine zcz (zrunV C0 hH (c_X2_has l D cy ad _ _ zRow1 _) kM_X5_78 zK2 kq_X2_has zRow1.is rfl hl.1 rfl rfl rfl ⟨Nat.le_of_ble_eq_true rfl, Nat.le_of_ble_eq_true rfl⟩ (Nat.le_of_ble_eq_true rfl) dX5_push_5) hH (fun H locs hH h01_1 => ?_)
  refine lv_if_eq (tgt := 24) hx hb dX5_push_8 (by decide) (fun c8_3 => ?_) (fun c8_3 => ?_)
  · have hres := zif_pos c8_3 hres
    exact J24 _ _ _ _ hH (lv_sub hl [0] rfl) hres
  · have hres := zif_neg c8_3 hres
    refine lv_iload_n hx hb dX5_push_11 rfl (lv_at hl 2 rfl) ?_
    refine lv_sipush (v := (-9999 : Int32)) hx hb dX5_push_12 (by decide) ?_
    refine lv_sipush (v := (9999 : Int32)) hx hb dX5_push_15 (by decide) ?_
    refine zcz (zrunS C0 hH (c_X5_within l D cy ad _ _ _ _) kM_X5_54 kq_X5_within rfl hl.1 rfl rfl rfl ⟨Nat.le_of_ble_eq_true rfl, Nat.le_of_ble_eq_true rfl⟩ (Nat.le_of_ble_eq_true rfl) dX5_push_18) hH (fun H locs hH h01_4 => ?_)
    refine lv_if_ne (tgt := 31) hx hb dX5_push_21 (by decide) (fun c21_6 => ?_) (fun c21_6 => ?_)
    · have hres := zif_neg c21_6 hres
      refine lv_aload_n hx hb dX5_push_31 rfl (lv_at hl 0 rfl) ?_
      refine zgR C0 hH zK5 0 (by decide) _ zX0 rfl kF_X5_12 dX5_push_32 ?_
      refine zgRN C0 hH zK2 0 (by decide) _ zRow1.is rfl kN_X5_68 dX5_push_35 ?_
      refine lv_iload_n hx hb dX5_push_38 rfl (lv_at hl 1 rfl) ?_
      refine zqldB C0 hH zRow1 (by exact zin10.mpr (by have q0 := hH.row zRow1; have q1 := hH.bkl zBk43; have q2 := hH.bkn zBk43; clear hres; grind [f_X5_within, f_X2_has])) dX5_push_39 (fun hb7 => ?_)
      refine lv_astore_n (lv' := [(3, _), (0, _), (1, _), (2, _)]) hx hb dX5_push_40 rfl hl (by decide) rfl (fun ls hl => ?_)
      refine lv_aload_n hx hb dX5_push_41 rfl (lv_at hl 0 rfl) ?_
      refine lv_dup hx hb dX5_push_42 rfl ?_
      refine zgIN C0 hH zK0 5 (by decide) hb7 rfl kN_X5_97 dX5_push_43 ?_
      refine lv_iload_n hx hb dX5_push_46 rfl (lv_at hl 3 rfl) ?_
      refine lv_iadd hx hb dX5_push_47 ?_
      refine zpN C0 hH zK0 5 (by decide) hb7 rfl rfl zOk_int zcn kN_X5_97 dX5_push_48 (fun H locs hH => ?_)
      refine lv_aload_n hx hb dX5_push_51 rfl (lv_at hl 0 rfl) ?_
      refine lv_iconst (v := (0 : Int32)) hx hb dX5_push_52 (by decide) ?_
      refine zpN C0 hH zK0 6 (by decide) hb7 rfl rfl zOk_int zcn kN_X5_100 dX5_push_53 (fun H locs hH => ?_)
      refine lv_aload_n hx hb dX5_push_56 rfl (lv_at hl 0 rfl) ?_
      refine zgIN C0 hH zK0 5 (by decide) hb7 rfl kN_X5_97 dX5_push_57 ?_
      exact zreti C0 hH dX5_push_60 (zfst hres) (zsnd hres)
    · have hres := zif_pos c21_6 hres
      exact J24 _ _ _ _ hH (lv_sub hl [0] rfl) hres
