set_option maxRecDepth 100000 in
set_option maxHeartbeats 4000000 in
theorem c_X6_noise (l : Launch) (D : va_G) (cy : Nat → ClassId) (ad : Nat → Nat) (M : zM) (p1 : Int32) : Met l yX6_noise (Cond.code yX6_noise cX6_noise 5 (some .long) :: zG) ({ frames := 2, cells := 0, slots := 0, locals := 43 }) (zP D lyR cy ad [.ref (ad 0), .int p1] M) (zQl D lyR cy ad (f_X6_noise p1 M).1 (f_X6_noise p1 M).2) 0 0 (zA lyR ad) := by
  generalize hres : (f_X6_noise p1 M) = res
  refine zMet (by decide) (Nat.le_of_ble_eq_true rfl) ?_
  intro p e s m args below meth c ls C0 hH hl
  obtain ⟨⟨hx, hb, hml, hown, hts⟩, -⟩ := id C0
  have hz : ∀ w ∈ zG, w.before args s = true := fun w h => hts w (List.mem_cons_of_mem _ h)
  have hl : lv_has ls 5 [(0, .ref (ad 0)), (1, .int p1)] := hl
  have g0 := hH.many
  have L20 : ∀ (n20 : Nat), ∀ (v2 : Int64) (v4 : Int32) (mm : zM) (H : Heap) (locs : List Loc) (ls : Array Slot), (zCt 100 n20 v4) → zH D lyR cy ad s.heap mm H locs → lv_has ls 5 [(0, .ref (ad 0)), (1, .int p1), (2, .long v2), (4, .int v4)] → f_X6_noise_20 p1 n20 v2 v4 mm = res → W p l e { frames := 2, cells := 0, slots := 0, locals := 43 } s m args below meth c H locs 0 0 (MQ below (zQl D lyR cy ad res.1 res.2) args s 0 0 (zA lyR ad)) (F0 m 20 ls []) := by
    intro n20
    induction n20 with
    | zero =>
      intro v2 v4 mm H locs ls hct hH hl hres
      exfalso; exact hct.zero
    | succ n20 ih20 =>
      intro v2 v4 mm H locs ls hct hH hl hres
      have g0 := hH.booked
      refine lv_iload hx hb dX6_noise_20 (lv_at hl 3 rfl) ?_
      refine lv_aload_n hx hb dX6_noise_22 rfl (lv_at hl 0 rfl) ?_
      refine zgR C0 hH zK6 0 (by decide) _ zR0 rfl kF_X6_9 dX6_noise_23 ?_
      refine lv_bipush (v := (13 : Int32)) hx hb dX6_noise_26 (by decide) ?_
      refine zaldK C0 hH zS31.is zS31.ln (k := 13) (by decide) (by unfold vp_in; decide) dX6_noise_28 ?_
      refine lv_icmp_ge (tgt := 76) hx hb dX6_noise_29 (by decide) (fun c29_5 => ?_) (fun c29_5 => ?_)
      · have hres := zif_pos c29_5 hres
        refine lv_lload_n hx hb dX6_noise_76 rfl (lv_at hl 2 rfl) ?_
        exact zretl C0 hH dX6_noise_77 (zfst hres) (zsnd hres)
      · have hres := zif_neg c29_5 hres
        refine lv_lload_n hx hb dX6_noise_32 rfl (lv_at hl 2 rfl) ?_
        refine lv_aload_n hx hb dX6_noise_33 rfl (lv_at hl 0 rfl) ?_
        refine zgR C0 hH zK6 0 (by decide) _ zR0 rfl kF_X6_9 dX6_noise_34 ?_
        refine lv_sipush (v := (248 : Int32)) hx hb dX6_noise_37 (by decide) ?_
        refine lv_iload hx hb dX6_noise_40 (lv_at hl 3 rfl) ?_
        refine lv_iadd hx hb dX6_noise_42 ?_
        refine zald C0 hH zS31.is zS31.ln (by exact zoff 248 _ hct.1 hct.2.1 (by decide)) dX6_noise_43 ?_
        refine lv_iload_n hx hb dX6_noise_44 rfl (lv_at hl 1 rfl) ?_
        refine lv_ishr hx hb dX6_noise_45 ?_
        refine lv_iconst (v := (1 : Int32)) hx hb dX6_noise_46 (by decide) ?_
        refine lv_iand hx hb dX6_noise_47 ?_
        refine lv_iconst (v := (1 : Int32)) hx hb dX6_noise_48 (by decide) ?_
        refine lv_icmp_ne (tgt := 67) hx hb dX6_noise_49 (by decide) (fun c49_6 => ?_) (fun c49_6 => ?_)
        · have hres := zif_neg c49_6 hres
          refine lv_lconst (v := (0 : Int64)) hx hb dX6_noise_67 (by decide) ?_
          refine lv_ladd hx hb dX6_noise_68 ?_
          refine lv_lstore_n (lv' := [(2, _), (0, _), (1, _), (4, _)]) hx hb dX6_noise_69 rfl hl (by decide) rfl (fun ls hl => ?_)
          refine ziinc (lv' := [(4, _), (2, _), (0, _), (1, _)]) (k := 3) hx hb (1 : Int32) (by decide) dX6_noise_70 hl rfl (by decide) rfl (fun ls hl => ?_)
          refine lv_goto (tgt := 20) hx hb dX6_noise_73 (by decide) ?_
          exact ih20 _ _ _ _ _ _ (by first | exact zCt.start (by decide) (by decide) | exact zCt.begin (by decide) (by decide) (by decide) | exact zCt.step (m := 100) hct (by first | assumption | exact Int32.not_le.mp (by assumption) | exact Int32.lt_of_lt_of_le (Int32.not_le.mp (by assumption)) g0.2 | (clear hres hz hts; grind [f_X6_in, f_X6_isBlock, f_X6_isAhead, f_X6_isSheet])) (by decide)) hH (lv_sub hl [2, 3, 1, 0] rfl) hres
        · have hres := zif_pos c49_6 hres
          refine lv_aload_n hx hb dX6_noise_52 rfl (lv_at hl 0 rfl) ?_
          refine zgR C0 hH zK6 0 (by decide) _ zR0 rfl kF_X6_9 dX6_noise_53 ?_
          refine lv_sipush (v := (348 : Int32)) hx hb dX6_noise_56 (by decide) ?_
          refine lv_iload hx hb dX6_noise_59 (lv_at hl 3 rfl) ?_
          refine lv_iadd hx hb dX6_noise_61 ?_
          refine zald C0 hH zS31.is zS31.ln (by exact zoff 348 99 hct.1 (zlt99 ‹¬ mm.1 1 13 ≤ v4› g0.2) (by decide)) dX6_noise_62 ?_
          refine lv_i2l hx hb dX6_noise_63 rfl ?_
          refine lv_goto (tgt := 68) hx hb dX6_noise_64 (by decide) ?_
          refine lv_ladd hx hb dX6_noise_68 ?_
          refine lv_lstore_n (lv' := [(2, _), (0, _), (1, _), (4, _)]) hx hb dX6_noise_69 rfl hl (by decide) rfl (fun ls hl => ?_)
          refine ziinc (lv' := [(4, _), (2, _), (0, _), (1, _)]) (k := 3) hx hb (1 : Int32) (by decide) dX6_noise_70 hl rfl (by decide) rfl (fun ls hl => ?_)
          refine lv_goto (tgt := 20) hx hb dX6_noise_73 (by decide) ?_
          exact ih20 _ _ _ _ _ _ (by first | exact zCt.start (by decide) (by decide) | exact zCt.begin (by decide) (by decide) (by decide) | exact zCt.step (m := 100) hct (by first | assumption | exact Int32.not_le.mp (by assumption) | exact Int32.lt_of_lt_of_le (Int32.not_le.mp (by assumption)) g0.2 | (clear hres hz hts; grind [f_X6_in, f_X6_isBlock, f_X6_isAhead, f_X6_isSheet])) (by decide)) hH (lv_sub hl [2, 3, 1, 0] rfl) hres
  refine lv_aload_n hx hb dX6_noise_0 rfl (lv_at hl 0 rfl) ?_
  refine lv_iload_n hx hb dX6_noise_1 rfl (lv_at hl 1 rfl) ?_
  refine zcz (zrunV C0 hH (c_X6_isBlock l D cy ad _ _) kM_X6_92 zK6 kq_X6_isBlock zR0 rfl hl.1 rfl rfl rfl ⟨Nat.le_of_ble_eq_true rfl, Nat.le_of_ble_eq_true rfl⟩ (Nat.le_of_ble_eq_true rfl) dX6_noise_2) hH (fun H locs hH h01_1 => ?_)
  refine lv_if_ne (tgt := 15) hx hb dX6_noise_5 (by decide) (fun c5_3 => ?_) (fun c5_3 => ?_)
  · have hres := zif_neg c5_3 hres
    refine lv_lconst (v := (0 : Int64)) hx hb dX6_noise_15 (by decide) ?_
    refine lv_lstore_n (lv' := [(2, _), (0, _), (1, _)]) hx hb dX6_noise_16 rfl hl (by decide) rfl (fun ls hl => ?_)
    refine lv_iconst (v := (0 : Int32)) hx hb dX6_noise_17 (by decide) ?_
    refine lv_istore (lv' := [(4, _), (2, _), (0, _), (1, _)]) hx hb dX6_noise_18 hl (by decide) rfl (fun ls hl => ?_)
    exact L20 (101) _ _ _ _ _ _ (by first | exact zCt.start (by decide) (by decide) | exact zCt.begin (by decide) (by decide) (by decide) | exact zCt.step (m := 100) hct (by first | assumption | exact Int32.not_le.mp (by assumption) | exact Int32.lt_of_lt_of_le (Int32.not_le.mp (by assumption)) g0.2 | (clear hres hz hts; grind [f_X6_in, f_X6_isBlock, f_X6_isAhead, f_X6_isSheet])) (by decide)) hH (lv_sub hl [2, 3, 1, 0] rfl) hres
  · have hres := zif_pos c5_3 hres
    refine lv_aload_n hx hb dX6_noise_8 rfl (lv_at hl 0 rfl) ?_
    refine lv_iconst (v := (0 : Int32)) hx hb dX6_noise_9 (by decide) ?_
    refine zci (zrunV C0 hH (c_X6_no l D cy ad _ _ (by decide)) kM_X6_85 zK6 kq_X6_no zR0 rfl hl.1 rfl rfl rfl ⟨Nat.le_of_ble_eq_true rfl, Nat.le_of_ble_eq_true rfl⟩ (Nat.le_of_ble_eq_true rfl) dX6_noise_10) hH (fun H locs hH => ?_)
    refine lv_i2l hx hb dX6_noise_13 rfl ?_
    exact zretl C0 hH dX6_noise_14 (zfst hres) (zsnd hres)
set_option maxRecDepth 100000 in
set_option maxHeartbeats 4000000 in
theorem c_X6_lay (l : Launch) (D : va_G) (cy : Nat → ClassId) (ad : Nat → Nat) (M : zM) (a0 : Nat) (ha0 : zS3 a0) (a1 : Nat) (ha1 : zS3 a1) : Met l yX6_lay (Cond.code yX6_lay cX6_lay 3 none :: zG) ({ frames := 0, cells := 0, slots := 0, locals := 0 }) (zP D lyR cy ad [.ref (ad a0), .ref (ad a1)] M) (zQv D lyR cy ad (f_X6_lay a0 a1 M)) 0 0 (zA lyR ad) := by
  generalize hres : (f_X6_lay a0 a1 M) = res
  refine zMet (by decide) (Nat.le_of_ble_eq_true rfl) ?_
  intro p e s m args below meth c ls C0 hH hl
  obtain ⟨⟨hx, hb, hml, hown, hts⟩, -⟩ := id C0
  have hz : ∀ w ∈ zG, w.before args s = true := fun w h => hts w (List.mem_cons_of_mem _ h)
  have hl : lv_has ls 3 [(0, .ref (ad a0)), (1, .ref (ad a1))] := hl
  have L2 : ∀ (n2 : Nat), ∀ (v2 : Int32) (mm : zM) (H : Heap) (locs : List Loc) (ls : Array Slot), (zCt 448 n2 v2) → zH D lyR cy ad s.heap mm H locs → lv_has ls 3 [(0, .ref (ad a0)), (1, .ref (ad a1)), (2, .int v2)] → f_X6_lay_2 a0 a1 n2 v2 mm = res → W p l e { frames := 0, cells := 0, slots := 0, locals := 0 } s m args below meth c H locs 0 0 (MQ below (zQv D lyR cy ad res) args s 0 0 (zA lyR ad)) (F0 m 2 ls []) := by
    intro n2
    induction n2 with
    | zero =>
      intro v2 mm H locs ls hct hH hl hres
      exfalso; exact hct.zero
    | succ n2 ih2 =>
      intro v2 mm H locs ls hct hH hl hres
      refine lv_iload_n hx hb dX6_lay_2 rfl (lv_at hl 2 rfl) ?_
      refine lv_sipush (v := (448 : Int32)) hx hb dX6_lay_3 (by decide) ?_
      refine lv_icmp_ge (tgt := 21) hx hb dX6_lay_6 (by decide) (fun c6_1 => ?_) (fun c6_1 => ?_)
      · have hres := zif_pos c6_1 hres
        exact zretv C0 hH dX6_lay_21 hres
      · have hres := zif_neg c6_1 hres
        refine lv_aload_n hx hb dX6_lay_9 rfl (lv_at hl 1 rfl) ?_
        refine lv_iload_n hx hb dX6_lay_10 rfl (lv_at hl 2 rfl) ?_
        refine lv_aload_n hx hb dX6_lay_11 rfl (lv_at hl 0 rfl) ?_
        refine lv_iload_n hx hb dX6_lay_12 rfl (lv_at hl 2 rfl) ?_
        refine zald C0 hH ha0.is ha0.ln (by exact zin448.mpr (by obtain ⟨qa, qb, -⟩ := hct; clear hres hz hts; grind [f_X6_in, f_X6_isBlock, f_X6_isAhead, f_X6_isSheet])) dX6_lay_13 ?_
        refine zast C0 hH ha1.is ha1.ln (by exact zin448.mpr (by obtain ⟨qa, qb, -⟩ := hct; clear hres hz hts; grind [f_X6_in, f_X6_isBlock, f_X6_isAhead, f_X6_isSheet])) (by exact zfitLay hH ha0 ha1) dX6_lay_14 (fun H locs hH => ?_)
        refine ziinc (lv' := [(2, _), (0, _), (1, _)]) (k := 2) hx hb (1 : Int32) (by decide) dX6_lay_15 hl rfl (by decide) rfl (fun ls hl => ?_)
        refine lv_goto (tgt := 2) hx hb dX6_lay_18 (by decide) ?_
        exact ih2 _ _ _ _ _ (by first | exact zCt.start (by decide) (by decide) | exact zCt.begin (by decide) (by decide) (by decide) | exact zCt.step (m := 448) hct (by first | assumption | exact Int32.not_le.mp (by assumption) | exact Int32.lt_of_lt_of_le (Int32.not_le.mp (by assumption)) g0.2 | (clear hres hz hts; grind [f_X6_in, f_X6_isBlock, f_X6_isAhead, f_X6_isSheet])) (by decide)) hH (lv_sub hl [1, 2, 0] rfl) hres
  refine lv_iconst (v := (0 : Int32)) hx hb dX6_lay_0 (by decide) ?_
  refine lv_istore_n (lv' := [(2, _), (0, _), (1, _)]) hx hb dX6_lay_1 rfl hl (by decide) rfl (fun ls hl => ?_)
  exact L2 (449) _ _ _ _ _ (by first | exact zCt.start (by decide) (by decide) | exact zCt.begin (by decide) (by decide) (by decide) | exact zCt.step (m := 448) hct (by first | assumption | exact Int32.not_le.mp (by assumption) | exact Int32.lt_of_lt_of_le (Int32.not_le.mp (by assumption)) g0.2 | (clear hres hz hts; grind [f_X6_in, f_X6_isBlock, f_X6_isAhead, f_X6_isSheet])) (by decide)) hH (lv_sub hl [1, 2, 0] rfl) hres
set_option maxRecDepth 100000 in
set_option maxHeartbeats 4000000 in
theorem c_X6_isAhead (l : Launch) (D : va_G) (cy : Nat → ClassId) (ad : Nat → Nat) (M : zM) (p0 : Int32) : Met l yX6_isAhead (Cond.code yX6_isAhead cX6_isAhead 1 (some .boolean) :: zG) ({ frames := 1, cells := 0, slots := 0, locals := 22 }) (zP D lyR cy ad [.int p0] M) (zQz D lyR cy ad (f_X6_isAhead p0) M) 0 0 (zA lyR ad) := by
  generalize hres : (f_X6_isAhead p0) = res
  refine zMet (by decide) (Nat.le_of_ble_eq_true rfl) ?_
  intro p e s m args below meth c ls C0 hH hl
  obtain ⟨⟨hx, hb, hml, hown, hts⟩, -⟩ := id C0
  have hz : ∀ w ∈ zG, w.before args s = true := fun w h => hts w (List.mem_cons_of_mem _ h)
  have hl : lv_has ls 1 [(0, .int p0)] := hl
  refine lv_iload_n hx hb dX6_isAhead_0 rfl (lv_at hl 0 rfl) ?_
  refine lv_iconst (v := (1 : Int32)) hx hb dX6_isAhead_1 (by decide) ?_
  refine lv_bipush (v := (60 : Int32)) hx hb dX6_isAhead_2 (by decide) ?_
  refine zcz (zrunS C0 hH (c_X6_in l D cy ad _ _ _ _) kM_X6_57 kq_X6_in rfl hl.1 rfl rfl rfl ⟨Nat.le_of_ble_eq_true rfl, Nat.le_of_ble_eq_true rfl⟩ (Nat.le_of_ble_eq_true rfl) dX6_isAhead_4) hH (fun H locs hH h01_1 => ?_)
  exact zretz C0 hH dX6_isAhead_7 (by first | exact Or.inl rfl | exact Or.inr rfl | assumption) hres rfl
set_option maxRecDepth 100000 in
set_option maxHeartbeats 4000000 in
theorem c_X6_jumps (l : Launch) (D : va_G) (cy : Nat → ClassId) (ad : Nat → Nat) (M : zM) (p1 : Int32) (hn : p1 ≤ 60) : Met l yX6_jumps (Cond.code yX6_jumps cX6_jumps 4 (some .int) :: zG) ({ frames := 0, cells := 0, slots := 0, locals := 0 }) (zP D lyR cy ad [.ref (ad 0), .int p1] M) (zQi D lyR cy ad (f_X6_jumps p1 M) M) 0 0 (zA lyR ad) := by
  generalize hres : (f_X6_jumps p1 M) = res
  refine zMet (by decide) (Nat.le_of_ble_eq_true rfl) ?_
  intro p e s m args below meth c ls C0 hH hl
  obtain ⟨⟨hx, hb, hml, hown, hts⟩, -⟩ := id C0
  have hz : ∀ w ∈ zG, w.before args s = true := fun w h => hts w (List.mem_cons_of_mem _ h)
  have hl : lv_has ls 4 [(0, .ref (ad 0)), (1, .int p1)] := hl
  have g0 := hH.many
  have L4 : ∀ (n4 : Nat), ∀ (v2 : Int32) (v3 : Int32) (H : Heap) (locs : List Loc) (ls : Array Slot), (zCt 60 n4 v3) → (p1 ≤ 60) → zH D lyR cy ad s.heap M H locs → lv_has ls 4 [(0, .ref (ad 0)), (1, .int p1), (2, .int v2), (3, .int v3)] → f_X6_jumps_4 p1 M n4 v2 v3 = res → W p l e { frames := 0, cells := 0, slots := 0, locals := 0 } s m args below meth c H locs 0 0 (MQ below (zQi D lyR cy ad res M) args s 0 0 (zA lyR ad)) (F0 m 4 ls []) := by
    intro n4
    induction n4 with
    | zero =>
      intro v2 v3 H locs ls hct hn hH hl hres
      exfalso; exact hct.zero
    | succ n4 ih4 =>
      intro v2 v3 H locs ls hct hn hH hl hres
      refine lv_iload_n hx hb dX6_jumps_4 rfl (lv_at hl 3 rfl) ?_
      refine lv_iload_n hx hb dX6_jumps_5 rfl (lv_at hl 1 rfl) ?_
      refine lv_icmp_ge (tgt := 32) hx hb dX6_jumps_6 (by decide) (fun c6_1 => ?_) (fun c6_1 => ?_)
      · have hres := zif_pos c6_1 hres
        refine lv_iload_n hx hb dX6_jumps_32 rfl (lv_at hl 2 rfl) ?_
        exact zreti C0 hH dX6_jumps_33 hres rfl
      · have hres := zif_neg c6_1 hres
        refine lv_iload_n hx hb dX6_jumps_9 rfl (lv_at hl 2 rfl) ?_
        refine lv_aload_n hx hb dX6_jumps_10 rfl (lv_at hl 0 rfl) ?_
        refine zgR C0 hH zK6 12 (by decide) _ zR0 rfl kF_X6_31 dX6_jumps_11 ?_
        refine lv_iload_n hx hb dX6_jumps_14 rfl (lv_at hl 3 rfl) ?_
        refine zald C0 hH (zR_i (by decide) (by decide)) rfl (by exact zin60.mpr (by obtain ⟨qa, qb, -⟩ := hct; clear hres hz hts; grind [f_X6_in, f_X6_isBlock, f_X6_isAhead, f_X6_isSheet])) dX6_jumps_15 ?_
        refine lv_if_le (tgt := 23) hx hb dX6_jumps_16 (by decide) (fun c16_2 => ?_) (fun c16_2 => ?_)
        · have hres := zif_pos c16_2 hres
          refine lv_iconst (v := (0 : Int32)) hx hb dX6_jumps_23 (by decide) ?_
          refine lv_iadd hx hb dX6_jumps_24 ?_
          refine lv_istore_n (lv' := [(2, _), (0, _), (1, _), (3, _)]) hx hb dX6_jumps_25 rfl hl (by decide) rfl (fun ls hl => ?_)
          refine ziinc (lv' := [(3, _), (2, _), (0, _), (1, _)]) (k := 3) hx hb (1 : Int32) (by decide) dX6_jumps_26 hl rfl (by decide) rfl (fun ls hl => ?_)
          refine lv_goto (tgt := 4) hx hb dX6_jumps_29 (by decide) ?_
          exact ih4 _ _ _ _ _ (by first | exact zCt.start (by decide) (by decide) | exact zCt.begin (by decide) (by decide) (by decide) | exact zCt.step (m := 60) hct (by first | assumption | exact Int32.not_le.mp (by assumption) | exact Int32.lt_of_lt_of_le (Int32.not_le.mp (by assumption)) g0.2 | (clear hres hz hts; grind [f_X6_in, f_X6_isBlock, f_X6_isAhead, f_X6_isSheet])) (by decide)) (by assumption) hH (lv_sub hl [2, 3, 1, 0] rfl) hres
        · have hres := zif_neg c16_2 hres
          refine lv_iconst (v := (1 : Int32)) hx hb dX6_jumps_19 (by decide) ?_
          refine lv_goto (tgt := 24) hx hb dX6_jumps_20 (by decide) ?_
          refine lv_iadd hx hb dX6_jumps_24 ?_
          refine lv_istore_n (lv' := [(2, _), (0, _), (1, _), (3, _)]) hx hb dX6_jumps_25 rfl hl (by decide) rfl (fun ls hl => ?_)
          refine ziinc (lv' := [(3, _), (2, _), (0, _), (1, _)]) (k := 3) hx hb (1 : Int32) (by decide) dX6_jumps_26 hl rfl (by decide) rfl (fun ls hl => ?_)
          refine lv_goto (tgt := 4) hx hb dX6_jumps_29 (by decide) ?_
          exact ih4 _ _ _ _ _ (by first | exact zCt.start (by decide) (by decide) | exact zCt.begin (by decide) (by decide) (by decide) | exact zCt.step (m := 60) hct (by first | assumption | exact Int32.not_le.mp (by assumption) | exact Int32.lt_of_lt_of_le (Int32.not_le.mp (by assumption)) g0.2 | (clear hres hz hts; grind [f_X6_in, f_X6_isBlock, f_X6_isAhead, f_X6_isSheet])) (by decide)) (by assumption) hH (lv_sub hl [2, 3, 1, 0] rfl) hres
  refine lv_iconst (v := (0 : Int32)) hx hb dX6_jumps_0 (by decide) ?_
  refine lv_istore_n (lv' := [(2, _), (0, _), (1, _)]) hx hb dX6_jumps_1 rfl hl (by decide) rfl (fun ls hl => ?_)
  refine lv_iconst (v := (0 : Int32)) hx hb dX6_jumps_2 (by decide) ?_
  refine lv_istore_n (lv' := [(3, _), (2, _), (0, _), (1, _)]) hx hb dX6_jumps_3 rfl hl (by decide) rfl (fun ls hl => ?_)
  exact L4 (61) _ _ _ _ _ (by first | exact zCt.start (by decide) (by decide) | exact zCt.begin (by decide) (by decide) (by decide) | exact zCt.step (m := 60) hct (by first | assumption | exact Int32.not_le.mp (by assumption) | exact Int32.lt_of_lt_of_le (Int32.not_le.mp (by assumption)) g0.2 | (clear hres hz hts; grind [f_X6_in, f_X6_isBlock, f_X6_isAhead, f_X6_isSheet])) (by decide)) (by assumption) hH (lv_sub hl [2, 3, 1, 0] rfl) hres
set_option maxRecDepth 100000 in
set_option maxHeartbeats 4000000 in
theorem c_X6_greatest (l : Launch) (D : va_G) (cy : Nat → ClassId) (ad : Nat → Nat) (M : zM) (p1 : Int32) (hn : p1 ≤ 60) : Met l yX6_greatest (Cond.code yX6_greatest cX6_greatest 4 (some .int) :: zG) ({ frames := 1, cells := 0, slots := 0, locals := 21 }) (zP D lyR cy ad [.ref (ad 0), .int p1] M) (zQi D lyR cy ad (f_X6_greatest p1 M) M) 0 0 (zA lyR ad) := by
  generalize hres : (f_X6_greatest p1 M) = res
  refine zMet (by decide) (Nat.le_of_ble_eq_true rfl) ?_
  intro p e s m args below meth c ls C0 hH hl
  obtain ⟨⟨hx, hb, hml, hown, hts⟩, -⟩ := id C0
  have hz : ∀ w ∈ zG, w.before args s = true := fun w h => hts w (List.mem_cons_of_mem _ h)
  have hl : lv_has ls 4 [(0, .ref (ad 0)), (1, .int p1)] := hl
  have g0 := hH.many
  have L4 : ∀ (n4 : Nat), ∀ (v2 : Int32) (v3 : Int32) (H : Heap) (locs : List Loc) (ls : Array Slot), (zCt 60 n4 v3) → (p1 ≤ 60) → zH D lyR cy ad s.heap M H locs → lv_has ls 4 [(0, .ref (ad 0)), (1, .int p1), (2, .int v2), (3, .int v3)] → f_X6_greatest_4 p1 M n4 v2 v3 = res → W p l e { frames := 1, cells := 0, slots := 0, locals := 21 } s m args below meth c H locs 0 0 (MQ below (zQi D lyR cy ad res M) args s 0 0 (zA lyR ad)) (F0 m 4 ls []) := by
    intro n4
    induction n4 with
    | zero =>
      intro v2 v3 H locs ls hct hn hH hl hres
      exfalso; exact hct.zero
    | succ n4 ih4 =>
      intro v2 v3 H locs ls hct hn hH hl hres
      refine lv_iload_n hx hb dX6_greatest_4 rfl (lv_at hl 3 rfl) ?_
      refine lv_iload_n hx hb dX6_greatest_5 rfl (lv_at hl 1 rfl) ?_
      refine lv_icmp_ge (tgt := 26) hx hb dX6_greatest_6 (by decide) (fun c6_1 => ?_) (fun c6_1 => ?_)
      · have hres := zif_pos c6_1 hres
        refine lv_iload_n hx hb dX6_greatest_26 rfl (lv_at hl 2 rfl) ?_
        exact zreti C0 hH dX6_greatest_27 hres rfl
      · have hres := zif_neg c6_1 hres
        refine lv_iload_n hx hb dX6_greatest_9 rfl (lv_at hl 2 rfl) ?_
        refine lv_aload_n hx hb dX6_greatest_10 rfl (lv_at hl 0 rfl) ?_
        refine zgR C0 hH zK6 12 (by decide) _ zR0 rfl kF_X6_31 dX6_greatest_11 ?_
        refine lv_iload_n hx hb dX6_greatest_14 rfl (lv_at hl 3 rfl) ?_
        refine zald C0 hH (zR_i (by decide) (by decide)) rfl (by exact zin60.mpr (by obtain ⟨qa, qb, -⟩ := hct; clear hres hz hts; grind [f_X6_in, f_X6_isBlock, f_X6_isAhead, f_X6_isSheet])) dX6_greatest_15 ?_
        refine zci (zrunS C0 hH (c_X6_greater l D cy ad _ _ _) kM_X6_71 kq_X6_greater rfl hl.1 rfl rfl rfl ⟨Nat.le_of_ble_eq_true rfl, Nat.le_of_ble_eq_true rfl⟩ (Nat.le_of_ble_eq_true rfl) dX6_greatest_16) hH (fun H locs hH => ?_)
        refine lv_istore_n (lv' := [(2, _), (0, _), (1, _), (3, _)]) hx hb dX6_greatest_19 rfl hl (by decide) rfl (fun ls hl => ?_)
        refine ziinc (lv' := [(3, _), (2, _), (0, _), (1, _)]) (k := 3) hx hb (1 : Int32) (by decide) dX6_greatest_20 hl rfl (by decide) rfl (fun ls hl => ?_)
        refine lv_goto (tgt := 4) hx hb dX6_greatest_23 (by decide) ?_
        exact ih4 _ _ _ _ _ (by first | exact zCt.start (by decide) (by decide) | exact zCt.begin (by decide) (by decide) (by decide) | exact zCt.step (m := 60) hct (by first | assumption | exact Int32.not_le.mp (by assumption) | exact Int32.lt_of_lt_of_le (Int32.not_le.mp (by assumption)) g0.2 | (clear hres hz hts; grind [f_X6_in, f_X6_isBlock, f_X6_isAhead, f_X6_isSheet])) (by decide)) (by assumption) hH (lv_sub hl [2, 3, 1, 0] rfl) hres
  refine lv_iconst (v := (0 : Int32)) hx hb dX6_greatest_0 (by decide) ?_
  refine lv_istore_n (lv' := [(2, _), (0, _), (1, _)]) hx hb dX6_greatest_1 rfl hl (by decide) rfl (fun ls hl => ?_)
  refine lv_iconst (v := (0 : Int32)) hx hb dX6_greatest_2 (by decide) ?_
  refine lv_istore_n (lv' := [(3, _), (2, _), (0, _), (1, _)]) hx hb dX6_greatest_3 rfl hl (by decide) rfl (fun ls hl => ?_)
  exact L4 (61) _ _ _ _ _ (by first | exact zCt.start (by decide) (by decide) | exact zCt.begin (by decide) (by decide) (by decide) | exact zCt.step (m := 60) hct (by first | assumption | exact Int32.not_le.mp (by assumption) | exact Int32.lt_of_lt_of_le (Int32.not_le.mp (by assumption)) g0.2 | (clear hres hz hts; grind [f_X6_in, f_X6_isBlock, f_X6_isAhead, f_X6_isSheet])) (by decide)) (by assumption) hH (lv_sub hl [2, 3, 1, 0] rfl) hres
set_option maxRecDepth 100000 in
set_option maxHeartbeats 4000000 in
theorem c_X6_longOf (l : Launch) (D : va_G) (cy : Nat → ClassId) (ad : Nat → Nat) (M : zM) (p1 : Int32) (hs : 0 ≤ p1 ∧ p1 < 4) : Met l yX6_longOf (Cond.code yX6_longOf cX6_longOf 2 (some .int) :: zG) ({ frames := 0, cells := 0, slots := 0, locals := 0 }) (zP D lyR cy ad [.ref (ad 0), .int p1] M) (zQi D lyR cy ad (f_X6_longOf p1 M) M) 0 0 (zA lyR ad) := by
  generalize hres : (f_X6_longOf p1 M) = res
  refine zMet (by decide) (Nat.le_of_ble_eq_true rfl) ?_
  intro p e s m args below meth c ls C0 hH hl
  obtain ⟨⟨hx, hb, hml, hown, hts⟩, -⟩ := id C0
  have hz : ∀ w ∈ zG, w.before args s = true := fun w h => hts w (List.mem_cons_of_mem _ h)
  have hl : lv_has ls 2 [(0, .ref (ad 0)), (1, .int p1)] := hl
  have g0 := hH.many
  refine lv_aload_n hx hb dX6_longOf_0 rfl (lv_at hl 0 rfl) ?_
  refine zgR C0 hH zK6 22 (by decide) _ zR0 rfl kF_X6_46 dX6_longOf_1 ?_
  refine lv_iload_n hx hb dX6_longOf_4 rfl (lv_at hl 1 rfl) ?_
  refine zald C0 hH (zR_i (by decide) (by decide)) rfl (by exact zin4.mpr (by clear hres hz hts; grind [f_X6_in, f_X6_isBlock, f_X6_isAhead, f_X6_isSheet])) dX6_longOf_5 ?_
  exact zreti C0 hH dX6_longOf_6 hres rfl
set_option maxRecDepth 100000 in
set_option maxHeartbeats 4000000 in
theorem c_X6_isSheet (l : Launch) (D : va_G) (cy : Nat → ClassId) (ad : Nat → Nat) (M : zM) (p0 : Int32) : Met l yX6_isSheet (Cond.code yX6_isSheet cX6_isSheet 1 (some .boolean) :: zG) ({ frames := 1, cells := 0, slots := 0, locals := 22 }) (zP D lyR cy ad [.int p0] M) (zQz D lyR cy ad (f_X6_isSheet p0) M) 0 0 (zA lyR ad) := by
  generalize hres : (f_X6_isSheet p0) = res
  refine zMet (by decide) (Nat.le_of_ble_eq_true rfl) ?_
  intro p e s m args below meth c ls C0 hH hl
  obtain ⟨⟨hx, hb, hml, hown, hts⟩, -⟩ := id C0
  have hz : ∀ w ∈ zG, w.before args s = true := fun w h => hts w (List.mem_cons_of_mem _ h)
  have hl : lv_has ls 1 [(0, .int p0)] := hl
  refine lv_iload_n hx hb dX6_isSheet_0 rfl (lv_at hl 0 rfl) ?_
  refine lv_iconst (v := (0 : Int32)) hx hb dX6_isSheet_1 (by decide) ?_
  refine lv_iconst (v := (3 : Int32)) hx hb dX6_isSheet_2 (by decide) ?_
  refine zcz (zrunS C0 hH (c_X6_in l D cy ad _ _ _ _) kM_X6_57 kq_X6_in rfl hl.1 rfl rfl rfl ⟨Nat.le_of_ble_eq_true rfl, Nat.le_of_ble_eq_true rfl⟩ (Nat.le_of_ble_eq_true rfl) dX6_isSheet_3) hH (fun H locs hH h01_1 => ?_)
  exact zretz C0 hH dX6_isSheet_6 (by first | exact Or.inl rfl | exact Or.inr rfl | assumption) hres rfl
set_option maxRecDepth 100000 in
set_option maxHeartbeats 4000000 in
theorem c_X6_byteAt (l : Launch) (D : va_G) (cy : Nat → ClassId) (ad : Nat → Nat) (M : zM) : Met l yX6_byteAt (Cond.code yX6_byteAt cX6_byteAt 1 (some .int) :: zG) ({ frames := 0, cells := 0, slots := 0, locals := 0 }) (zP D lyR cy ad [.ref (ad 0)] M) (zQi D lyR cy ad (f_X6_byteAt M) M) 0 0 (zA lyR ad) := by
  generalize hres : (f_X6_byteAt M) = res
  refine zMet (by decide) (Nat.le_of_ble_eq_true rfl) ?_
  intro p e s m args below meth c ls C0 hH hl
  obtain ⟨⟨hx, hb, hml, hown, hts⟩, -⟩ := id C0
  have hz : ∀ w ∈ zG, w.before args s = true := fun w h => hts w (List.mem_cons_of_mem _ h)
  have hl : lv_has ls 1 [(0, .ref (ad 0))] := hl
  have g0 := hH.many
  refine lv_aload_n hx hb dX6_byteAt_0 rfl (lv_at hl 0 rfl) ?_
  refine zgI C0 hH zK6 17 (by decide) zR0 rfl kF_X6_180 dX6_byteAt_1 ?_
  refine lv_aload_n hx hb dX6_byteAt_4 rfl (lv_at hl 0 rfl) ?_
  refine zgI C0 hH zK6 5 (by decide) zR0 rfl kF_X6_183 dX6_byteAt_5 ?_
  refine lv_icmp_ge (tgt := 23) hx hb dX6_byteAt_8 (by decide) (fun c8_1 => ?_) (fun c8_1 => ?_)
  · have hres := zif_pos c8_1 hres
    refine lv_iconst (v := (-1 : Int32)) hx hb dX6_byteAt_23 (by decide) ?_
    exact zreti C0 hH dX6_byteAt_24 hres rfl
  · have hres := zif_neg c8_1 hres
    refine lv_aload_n hx hb dX6_byteAt_11 rfl (lv_at hl 0 rfl) ?_
    refine zgR C0 hH zK6 4 (by decide) _ zR0 rfl kF_X6_19 dX6_byteAt_12 ?_
    refine lv_aload_n hx hb dX6_byteAt_15 rfl (lv_at hl 0 rfl) ?_
    refine zgI C0 hH zK6 17 (by decide) zR0 rfl kF_X6_180 dX6_byteAt_16 ?_
    refine zald C0 hH (zR_i (by decide) (by decide)) rfl (by exact zin60.mpr (by have q0 := hH.here; have q1 := hH.taped; clear hres hz hts; grind [f_X6_in, f_X6_isBlock, f_X6_isAhead, f_X6_isSheet])) dX6_byteAt_19 ?_
    refine lv_goto (tgt := 24) hx hb dX6_byteAt_20 (by decide) ?_
    exact zreti C0 hH dX6_byteAt_24 hres rfl
set_option maxRecDepth 100000 in
set_option maxHeartbeats 4000000 in
theorem c_X6_fails (l : Launch) (D : va_G) (cy : Nat → ClassId) (ad : Nat → Nat) (M : zM) : Met l yX6_fails (Cond.code yX6_fails cX6_fails 1 none :: zG) ({ frames := 0, cells := 0, slots := 0, locals := 0 }) (zP D lyR cy ad [.ref (ad 0)] M) (zQv D lyR cy ad (f_X6_fails M)) 0 0 (zA lyR ad) := by
  generalize hres : (f_X6_fails M) = res
  refine zMet (by decide) (Nat.le_of_ble_eq_true rfl) ?_
  intro p e s m args below meth c ls C0 hH hl
  obtain ⟨⟨hx, hb, hml, hown, hts⟩, -⟩ := id C0
  have hz : ∀ w ∈ zG, w.before args s = true := fun w h => hts w (List.mem_cons_of_mem _ h)
  have hl : lv_has ls 1 [(0, .ref (ad 0))] := hl
  have g0 := hH.many
  refine lv_aload_n hx hb dX6_fails_0 rfl (lv_at hl 0 rfl) ?_
  refine zgI C0 hH zK6 18 (by decide) zR0 rfl kF_X6_186 dX6_fails_1 ?_
  refine lv_if_ge (tgt := 15) hx hb dX6_fails_4 (by decide) (fun c4_1 => ?_) (fun c4_1 => ?_)
  · have hres := zif_pos c4_1 hres
    exact zretv C0 hH dX6_fails_15 hres
  · have hres := zif_neg c4_1 hres
    refine lv_aload_n hx hb dX6_fails_7 rfl (lv_at hl 0 rfl) ?_
    refine lv_aload_n hx hb dX6_fails_8 rfl (lv_at hl 0 rfl) ?_
    refine zgI C0 hH zK6 17 (by decide) zR0 rfl kF_X6_180 dX6_fails_9 ?_
    refine zp C0 hH zK6 18 (by decide) zR0 rfl rfl zOk_int zcn kF_X6_186 dX6_fails_12 (fun H locs hH => ?_)
    exact zretv C0 hH dX6_fails_15 hres
set_option maxRecDepth 100000 in
set_option maxHeartbeats 4000000 in
theorem c_X6_may (l : Launch) (D : va_G) (cy : Nat → ClassId) (ad : Nat → Nat) (M : zM) (p1 : Int32) (hc : 0 ≤ p1) : Met l yX6_may (Cond.code yX6_may cX6_may 3 (some .boolean) :: zG) ({ frames := 1, cells := 0, slots := 0, locals := 20 }) (zP D lyR cy ad [.ref (ad 0), .int p1] M) (zQz D lyR cy ad (f_X6_may p1 M).1 (f_X6_may p1 M).2) 0 0 (zA lyR ad) := by
  generalize hres : (f_X6_may p1 M) = res
  refine zMet (by decide) (Nat.le_of_ble_eq_true rfl) ?_
  intro p e s m args below meth c ls C0 hH hl
  obtain ⟨⟨hx, hb, hml, hown, hts⟩, -⟩ := id C0
  have hz : ∀ w ∈ zG, w.before args s = true := fun w h => hts w (List.mem_cons_of_mem _ h)
  have hl : lv_has ls 3 [(0, .ref (ad 0)), (1, .int p1)] := hl
  have g0 := hH.many
  have J20 : ∀ (s0 : Int32) (mm : zM) (H : Heap) (locs : List Loc) (ls : Array Slot), (s0 = 0 ∨ s0 = 1) → (s0 = 0 ∨ mm.1 0 17 < mm.1 0 5) → zH D lyR cy ad s.heap mm H locs → lv_has ls 3 [(0, .ref (ad 0))] → f_X6_may_20 p1 s0 mm = res → W p l e { frames := 1, cells := 0, slots := 0, locals := 20 } s m args below meth c H locs 0 0 (MQ below (zQz D lyR cy ad res.1 res.2) args s 0 0 (zA lyR ad)) (F0 m 20 ls [.int s0]) := by
    intro s0 mm H locs ls h01 hsl hH hl hres
    refine lv_istore_n (lv' := [(2, _), (0, _)]) hx hb dX6_may_20 rfl hl (by decide) rfl (fun ls hl => ?_)
    refine lv_aload_n hx hb dX6_may_21 rfl (lv_at hl 1 rfl) ?_
    refine lv_dup hx hb dX6_may_22 rfl ?_
    refine zgI C0 hH zK6 17 (by decide) zR0 rfl kF_X6_180 dX6_may_23 ?_
    refine lv_iload_n hx hb dX6_may_26 rfl (lv_at hl 0 rfl) ?_
    refine lv_if_eq (tgt := 34) hx hb dX6_may_27 (by decide) (fun c27_4 => ?_) (fun c27_4 => ?_)
    · have hres := zif_pos c27_4 hres
      refine lv_iconst (v := (0 : Int32)) hx hb dX6_may_34 (by decide) ?_
      refine lv_iadd hx hb dX6_may_35 ?_
      refine zp C0 hH zK6 17 (by decide) zR0 rfl rfl zOk_int (zcs (by first | decide | (have q0 := hH.here; have q1 := hH.taped; clear hres hz hts; grind))) kF_X6_180 dX6_may_36 (fun H locs hH => ?_)
      refine lv_iload_n hx hb dX6_may_39 rfl (lv_at hl 0 rfl) ?_
      exact zretz C0 hH dX6_may_40 (by first | exact Or.inl rfl | exact Or.inr rfl | assumption) (zfst hres) (zsnd hres)
    · have hres := zif_neg c27_4 hres
      refine lv_iconst (v := (1 : Int32)) hx hb dX6_may_30 (by decide) ?_
      refine lv_goto (tgt := 35) hx hb dX6_may_31 (by decide) ?_
      refine lv_iadd hx hb dX6_may_35 ?_
      refine zp C0 hH zK6 17 (by decide) zR0 rfl rfl zOk_int (zcs (by first | decide | (have q0 := hH.here; have q1 := hH.taped; clear hres hz hts; grind))) kF_X6_180 dX6_may_36 (fun H locs hH => ?_)
      refine lv_iload_n hx hb dX6_may_39 rfl (lv_at hl 0 rfl) ?_
      exact zretz C0 hH dX6_may_40 (by first | exact Or.inl rfl | exact Or.inr rfl | assumption) (zfst hres) (zsnd hres)
  have J19 : ∀ (mm : zM) (H : Heap) (locs : List Loc) (ls : Array Slot), zH D lyR cy ad s.heap mm H locs → lv_has ls 3 [(0, .ref (ad 0))] → f_X6_may_19 p1 mm = res → W p l e { frames := 1, cells := 0, slots := 0, locals := 20 } s m args below meth c H locs 0 0 (MQ below (zQz D lyR cy ad res.1 res.2) args s 0 0 (zA lyR ad)) (F0 m 19 ls []) := by
    intro mm H locs ls hH hl hres
    refine lv_iconst (v := (0 : Int32)) hx hb dX6_may_19 (by decide) ?_
    exact J20 _ _ _ _ _ (by first | exact Or.inl rfl | exact Or.inr rfl | assumption) (by first | exact Or.inl rfl | exact Or.inr (by clear hres hz hts; grind [f_X6_byteAt])) hH (lv_sub hl [0] rfl) hres
  refine lv_aload_n hx hb dX6_may_0 rfl (lv_at hl 0 rfl) ?_
  refine zgI C0 hH zK6 18 (by decide) zR0 rfl kF_X6_186 dX6_may_1 ?_
  refine lv_if_ge (tgt := 19) hx hb dX6_may_4 (by decide) (fun c4_1 => ?_) (fun c4_1 => ?_)
  · have hres := zif_pos c4_1 hres
    exact J19 _ _ _ _ hH (lv_sub hl [0] rfl) hres
  · have hres := zif_neg c4_1 hres
    refine lv_aload_n hx hb dX6_may_7 rfl (lv_at hl 0 rfl) ?_
    refine zci (zrunV C0 hH (c_X6_byteAt l D cy ad _) kM_X6_189 zK6 kq_X6_byteAt zR0 rfl hl.1 rfl rfl rfl ⟨Nat.le_of_ble_eq_true rfl, Nat.le_of_ble_eq_true rfl⟩ (Nat.le_of_ble_eq_true rfl) dX6_may_8) hH (fun H locs hH => ?_)
    refine lv_iload_n hx hb dX6_may_11 rfl (lv_at hl 1 rfl) ?_
    refine lv_icmp_ne (tgt := 19) hx hb dX6_may_12 (by decide) (fun c12_3 => ?_) (fun c12_3 => ?_)
    · have hres := zif_neg c12_3 hres
      exact J19 _ _ _ _ hH (lv_sub hl [0] rfl) hres
    · have hres := zif_pos c12_3 hres
      refine lv_iconst (v := (1 : Int32)) hx hb dX6_may_15 (by decide) ?_
      refine lv_goto (tgt := 20) hx hb dX6_may_16 (by decide) ?_
      exact J20 _ _ _ _ _ (by first | exact Or.inl rfl | exact Or.inr rfl | assumption) (by first | exact Or.inl rfl | exact Or.inr (by clear hres hz hts; grind [f_X6_byteAt])) hH (lv_sub hl [0] rfl) hres
