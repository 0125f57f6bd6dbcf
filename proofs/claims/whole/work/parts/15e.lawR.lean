set_option maxRecDepth 100000 in
set_option maxHeartbeats 4000000 in
theorem c_X6_law (l : Launch) (D : va_G) (cy : Nat → ClassId) (ad : Nat → Nat) (M : zM) : Met l yX6_law (Cond.code yX6_law cX6_law 2 (some .int) :: zG) ({ frames := 35, cells := 0, slots := 0, locals := 1382 }) (zP D lyR cy ad [.ref (ad 0)] M) (zQi D lyR cy ad (f_X6_law M).1 (f_X6_law M).2) 0 0 (zA lyR ad) := by
  generalize hres : (f_X6_law M) = res
  refine zMet (by decide) (Nat.le_of_ble_eq_true rfl) ?_
  intro p e s m args below meth c ls C0 hH hl
  obtain ⟨⟨hx, hb, hml, hown, hts⟩, -⟩ := id C0
  have hz : ∀ w ∈ zG, w.before args s = true := fun w h => hts w (List.mem_cons_of_mem _ h)
  have hl : lv_has ls 2 [(0, .ref (ad 0))] := hl
  have gt := hH.taped
  unfold f_X6_law at hres
  simp only [] at hres
  have L72 : ∀ (n72 : Nat), ∀ (v1 : Int32) (mm : zM) (H : Heap) (locs : List Loc) (ls : Array Slot), (zCt 60 n72 v1) → zH D lyR cy ad s.heap mm H locs → lv_has ls 2 [(0, .ref (ad 0)), (1, .int v1)] → f_X6_law_72 n72 v1 mm = res → W p l e { frames := 35, cells := 0, slots := 0, locals := 1382 } s m args below meth c H locs 0 0 (MQ below (zQi D lyR cy ad res.1 res.2) args s 0 0 (zA lyR ad)) (F0 m 72 ls []) := by
    intro n72
    induction n72 with
    | zero =>
      intro v1 mm H locs ls hct hH hl hres
      exfalso; exact hct.zero
    | succ n72 ih72 =>
      intro v1 mm H locs ls hct hH hl hres
      have g0 := hH.ncode
      refine lv_iload_n hx hb dX6_law_72 rfl (lv_at hl 1 rfl) ?_
      refine lv_aload_n hx hb dX6_law_73 rfl (lv_at hl 0 rfl) ?_
      refine zgI C0 hH zK6 16 (by decide) zR0 rfl kF_X6_199 dX6_law_74 ?_
      refine lv_icmp_ge (tgt := 101) hx hb dX6_law_77 (by decide) (fun c77_11 => ?_) (fun c77_11 => ?_)
      · have hres := zif_pos c77_11 hres
        refine lv_aload_n hx hb dX6_law_101 rfl (lv_at hl 0 rfl) ?_
        refine lv_iconst (v := (0 : Int32)) hx hb dX6_law_102 (by decide) ?_
        refine zp C0 hH zK6 5 (by decide) zR0 rfl rfl zOk_int (zcs (by first | decide | (have q0 := hH.ncode; have q1 := hH.taped; have q2 := hH.here; obtain ⟨qa, qb, -⟩ := hct; clear hres hz hts; grind [f_X6_in, f_X6_isBlock, f_X6_isAhead, f_X6_isSheet]))) kF_X6_183 dX6_law_103 (fun H locs hH => ?_)
        refine lv_iconst (v := (0 : Int32)) hx hb dX6_law_106 (by decide) ?_
        exact zreti C0 hH dX6_law_107 (zfst hres) (zsnd hres)
      · have hres := zif_neg c77_11 hres
        refine lv_aload_n hx hb dX6_law_80 rfl (lv_at hl 0 rfl) ?_
        refine zgR C0 hH zK6 0 (by decide) _ zR0 rfl kF_X6_9 dX6_law_81 ?_
        refine lv_bipush (v := (14 : Int32)) hx hb dX6_law_84 (by decide) ?_
        refine lv_iload_n hx hb dX6_law_86 rfl (lv_at hl 1 rfl) ?_
        refine lv_iadd hx hb dX6_law_87 ?_
        refine lv_aload_n hx hb dX6_law_88 rfl (lv_at hl 0 rfl) ?_
        refine zgR C0 hH zK6 15 (by decide) _ zR0 rfl kF_X6_37 dX6_law_89 ?_
        refine lv_iload_n hx hb dX6_law_92 rfl (lv_at hl 1 rfl) ?_
        refine zald C0 hH (zR_i (by decide) (by decide)) rfl (by exact zin64.mpr ⟨hct.1, Int32.lt_of_lt_of_le (Int32.lt_of_lt_of_le (Int32.not_le.mp ‹¬ mm.1 0 16 ≤ v1›) g0.2) (by decide)⟩) dX6_law_93 ?_
        refine zast C0 hH zS31.is zS31.ln (by exact zoff 14 _ hct.1 hct.2.1 (by decide)) (by exact zfitS (by clear hres hz hts; have q0 := hct.1; have q1 := hct.2.1; grind)) dX6_law_94 (fun H locs hH => ?_)
        refine ziinc (lv' := [(1, _), (0, _)]) (k := 1) hx hb (1 : Int32) (by decide) dX6_law_95 hl rfl (by decide) rfl (fun ls hl => ?_)
        refine lv_goto (tgt := 72) hx hb dX6_law_98 (by decide) ?_
        exact ih72 _ _ _ _ _ (by first | exact zCt.step (m := 60) hct (Int32.lt_of_lt_of_le (Int32.not_le.mp ‹¬ mm.1 0 16 ≤ v1›) g0.2) (by decide) | exact zCt.start (by decide) (by decide)) hH (lv_sub hl [1, 0] rfl) hres
  have J46 : ∀ (mm : zM) (H : Heap) (locs : List Loc) (ls : Array Slot), zH D lyR cy ad s.heap mm H locs → lv_has ls 2 [(0, .ref (ad 0))] → f_X6_law_46 mm = res → W p l e { frames := 35, cells := 0, slots := 0, locals := 1382 } s m args below meth c H locs 0 0 (MQ below (zQi D lyR cy ad res.1 res.2) args s 0 0 (zA lyR ad)) (F0 m 46 ls []) := by
    intro mm H locs ls hH hl hres
    refine lv_aload_n hx hb dX6_law_46 rfl (lv_at hl 0 rfl) ?_
    refine zgI C0 hH zK6 18 (by decide) zR0 rfl kF_X6_186 dX6_law_47 ?_
    refine lv_if_lt (tgt := 60) hx hb dX6_law_50 (by decide) (fun c50_9 => ?_) (fun c50_9 => ?_)
    · have hres := zif_pos c50_9 hres
      refine lv_aload_n hx hb dX6_law_60 rfl (lv_at hl 0 rfl) ?_
      refine zgR C0 hH zK6 0 (by decide) _ zR0 rfl kF_X6_9 dX6_law_61 ?_
      refine lv_iconst (v := (5 : Int32)) hx hb dX6_law_64 (by decide) ?_
      refine lv_aload_n hx hb dX6_law_65 rfl (lv_at hl 0 rfl) ?_
      refine zgI C0 hH zK6 16 (by decide) zR0 rfl kF_X6_199 dX6_law_66 ?_
      refine zastK C0 hH zS31.is zS31.ln (k := 5) (by decide) (by unfold vp_in; decide) (zcs (by have q0 := hH.ncode; clear hres hz hts; grind)) dX6_law_69 (fun H locs hH => ?_)
      refine lv_iconst (v := (0 : Int32)) hx hb dX6_law_70 (by decide) ?_
      refine lv_istore_n (lv' := [(1, _), (0, _)]) hx hb dX6_law_71 rfl hl (by decide) rfl (fun ls hl => ?_)
      exact L72 (61) _ _ _ _ _ (by first | exact zCt.step (m := 60) hct (Int32.lt_of_lt_of_le (Int32.not_le.mp ‹¬ mm.1 0 16 ≤ v1›) g0.2) (by decide) | exact zCt.start (by decide) (by decide)) hH (lv_sub hl [1, 0] rfl) hres
    · have hres := zif_neg c50_9 hres
      refine lv_iconst (v := (-1 : Int32)) hx hb dX6_law_53 (by decide) ?_
      refine lv_aload_n hx hb dX6_law_54 rfl (lv_at hl 0 rfl) ?_
      refine zgI C0 hH zK6 18 (by decide) zR0 rfl kF_X6_186 dX6_law_55 ?_
      refine lv_isub hx hb dX6_law_58 ?_
      exact zreti C0 hH dX6_law_59 (zfst hres) (zsnd hres)
  refine lv_aload_n hx hb dX6_law_0 rfl (lv_at hl 0 rfl) ?_
  refine lv_iconst (v := (0 : Int32)) hx hb dX6_law_1 (by decide) ?_
  refine zp C0 hH zK6 16 (by decide) zR0 rfl rfl zOk_int (zcs (by first | decide | (have q0 := hH.ncode; have q1 := hH.taped; have q2 := hH.here; clear hres hz hts; grind [f_X6_in, f_X6_isBlock, f_X6_isAhead, f_X6_isSheet]))) kF_X6_199 dX6_law_2 (fun H locs hH => ?_)
  refine lv_aload_n hx hb dX6_law_5 rfl (lv_at hl 0 rfl) ?_
  refine lv_iconst (v := (0 : Int32)) hx hb dX6_law_6 (by decide) ?_
  refine zp C0 hH zK6 17 (by decide) zR0 rfl rfl zOk_int (zcs (by first | decide | (have q0 := hH.ncode; have q1 := hH.taped; have q2 := hH.here; clear hres hz hts; grind [f_X6_in, f_X6_isBlock, f_X6_isAhead, f_X6_isSheet]))) kF_X6_180 dX6_law_7 (fun H locs hH => ?_)
  refine lv_aload_n hx hb dX6_law_10 rfl (lv_at hl 0 rfl) ?_
  refine lv_iconst (v := (-1 : Int32)) hx hb dX6_law_11 (by decide) ?_
  refine zp C0 hH zK6 18 (by decide) zR0 rfl rfl zOk_int zcn kF_X6_186 dX6_law_12 (fun H locs hH => ?_)
  refine lv_aload_n hx hb dX6_law_15 rfl (lv_at hl 0 rfl) ?_
  refine lv_iconst (v := (0 : Int32)) hx hb dX6_law_16 (by decide) ?_
  refine zp C0 hH zK6 19 (by decide) zR0 rfl rfl zOk_int zcn kF_X6_208 dX6_law_17 (fun H locs hH => ?_)
  refine lv_aload_n hx hb dX6_law_20 rfl (lv_at hl 0 rfl) ?_
  refine zcv (zrunV C0 hH (c_X6_sum l D cy ad _ (by exact ⟨ps_init gt, zpI_at⟩)) kM_X6_223 zK6 kq_X6_sum zR0 rfl hl.1 rfl rfl rfl ⟨Nat.le_of_ble_eq_true rfl, Nat.le_of_ble_eq_true rfl⟩ (Nat.le_of_ble_eq_true rfl) dX6_law_21) hH (fun H locs hH => ?_)
  generalize g_X6_sum 5 (zpI (zpI (zpI (zpI M 0 16 0) 0 17 0) 0 18 (-1)) 0 19 0) = Z at hH hres
  refine lv_aload_n hx hb dX6_law_24 rfl (lv_at hl 0 rfl) ?_
  refine zgI C0 hH zK6 18 (by decide) zR0 rfl kF_X6_186 dX6_law_25 ?_
  refine lv_if_ge (tgt := 46) hx hb dX6_law_28 (by decide) (fun c28_6 => ?_) (fun c28_6 => ?_)
  · have hres := zif_pos c28_6 hres
    exact J46 _ _ _ _ hH (lv_sub hl [0] rfl) hres
  · have hres := zif_neg c28_6 hres
    refine lv_aload_n hx hb dX6_law_31 rfl (lv_at hl 0 rfl) ?_
    refine zgI C0 hH zK6 17 (by decide) zR0 rfl kF_X6_180 dX6_law_32 ?_
    refine lv_aload_n hx hb dX6_law_35 rfl (lv_at hl 0 rfl) ?_
    refine zgI C0 hH zK6 5 (by decide) zR0 rfl kF_X6_183 dX6_law_36 ?_
    refine lv_icmp_ge (tgt := 46) hx hb dX6_law_39 (by decide) (fun c39_7 => ?_) (fun c39_7 => ?_)
    · have hres := zif_pos c39_7 hres
      exact J46 _ _ _ _ hH (lv_sub hl [0] rfl) hres
    · have hres := zif_neg c39_7 hres
      refine lv_aload_n hx hb dX6_law_42 rfl (lv_at hl 0 rfl) ?_
      refine zcv (zrunV C0 hH (c_X6_fails l D cy ad _) kM_X6_196 zK6 kq_X6_fails zR0 rfl hl.1 rfl rfl rfl ⟨Nat.le_of_ble_eq_true rfl, Nat.le_of_ble_eq_true rfl⟩ (Nat.le_of_ble_eq_true rfl) dX6_law_43) hH (fun H locs hH => ?_)
      exact J46 _ _ _ _ hH (lv_sub hl [0] rfl) hres
