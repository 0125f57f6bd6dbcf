set_option maxRecDepth 100000 in
set_option maxHeartbeats 4000000 in
theorem c_X6_write (l : Launch) (D : va_G) (cy : Nat → ClassId) (ad : Nat → Nat) (M : zM) (p1 : Int32) (p2 : Int32) (p3 : Int64) : Met l yX6_write (Cond.code yX6_write cX6_write 7 (some .long) :: zG) ({ frames := 2, cells := 0, slots := 0, locals := 42 }) (zP D lyR cy ad [.ref (ad 0), .int p1, .int p2, .long p3] M) (zQl D lyR cy ad (f_X6_write p1 p2 p3 M).1 (f_X6_write p1 p2 p3 M).2) 0 0 (zA lyR ad) := by
  generalize hres : (f_X6_write p1 p2 p3 M) = res
  refine zMet (by decide) (Nat.le_of_ble_eq_true rfl) ?_
  intro p e s m args below meth c ls C0 hH hl
  obtain ⟨⟨hx, hb, hml, hown, hts⟩, -⟩ := id C0
  have hz : ∀ w ∈ zG, w.before args s = true := fun w h => hts w (List.mem_cons_of_mem _ h)
  have hl : lv_has ls 7 [(0, .ref (ad 0)), (1, .int p1), (2, .int p2), (3, .long p3)] := hl
  have g0 := hH.many
  refine lv_iload_n hx hb dX6_write_0 rfl (lv_at hl 1 rfl) ?_
  refine zcz (zrunS C0 hH (c_X6_isSheet l D cy ad _ _) kM_X6_174 kq_X6_isSheet rfl hl.1 rfl rfl rfl ⟨Nat.le_of_ble_eq_true rfl, Nat.le_of_ble_eq_true rfl⟩ (Nat.le_of_ble_eq_true rfl) dX6_write_1) hH (fun H locs hH h01_1 => ?_)
  refine lv_if_ne (tgt := 14) hx hb dX6_write_4 (by decide) (fun c4_3 => ?_) (fun c4_3 => ?_)
  · have hres := zif_neg c4_3 hres
    refine lv_aload_n hx hb dX6_write_14 rfl (lv_at hl 0 rfl) ?_
    refine zgR C0 hH zK6 21 (by decide) _ zR0 rfl kF_X6_43 dX6_write_15 ?_
    refine lv_iload_n hx hb dX6_write_18 rfl (lv_at hl 1 rfl) ?_
    refine zald C0 hH (zR_i (by decide) (by decide)) rfl (by first | exact zin4.mpr hs | exact zin4.mpr (is_X6 ‹¬ f_X6_isSheet p1 = 0›)) dX6_write_19 ?_
    refine lv_if_ne (tgt := 30) hx hb dX6_write_20 (by decide) (fun c20_4 => ?_) (fun c20_4 => ?_)
    · have hres := zif_neg c20_4 hres
      refine lv_iload_n hx hb dX6_write_30 rfl (lv_at hl 2 rfl) ?_
      refine lv_iconst (v := (0 : Int32)) hx hb dX6_write_31 (by decide) ?_
      refine lv_aload_n hx hb dX6_write_32 rfl (lv_at hl 0 rfl) ?_
      refine zgR C0 hH zK6 22 (by decide) _ zR0 rfl kF_X6_46 dX6_write_33 ?_
      refine lv_iload_n hx hb dX6_write_36 rfl (lv_at hl 1 rfl) ?_
      refine zald C0 hH (zR_i (by decide) (by decide)) rfl (by first | exact zin4.mpr hs | exact zin4.mpr (is_X6 ‹¬ f_X6_isSheet p1 = 0›)) dX6_write_37 ?_
      refine lv_iconst (v := (1 : Int32)) hx hb dX6_write_38 (by decide) ?_
      refine lv_isub hx hb dX6_write_39 ?_
      refine zcz (zrunS C0 hH (c_X6_in l D cy ad _ _ _ _) kM_X6_57 kq_X6_in rfl hl.1 rfl rfl rfl ⟨Nat.le_of_ble_eq_true rfl, Nat.le_of_ble_eq_true rfl⟩ (Nat.le_of_ble_eq_true rfl) dX6_write_40) hH (fun H locs hH h01_5 => ?_)
      refine lv_if_ne (tgt := 53) hx hb dX6_write_43 (by decide) (fun c43_7 => ?_) (fun c43_7 => ?_)
      · have hres := zif_neg c43_7 hres
        refine lv_aload_n hx hb dX6_write_53 rfl (lv_at hl 0 rfl) ?_
        refine zgR C0 hH zK6 23 (by decide) _ zR0 rfl kF_X6_49 dX6_write_54 ?_
        refine lv_bipush (v := (40 : Int32)) hx hb dX6_write_57 (by decide) ?_
        refine lv_iload_n hx hb dX6_write_59 rfl (lv_at hl 1 rfl) ?_
        refine lv_imul hx hb dX6_write_60 ?_
        refine lv_iload_n hx hb dX6_write_61 rfl (lv_at hl 2 rfl) ?_
        refine lv_iadd hx hb dX6_write_62 ?_
        refine zlld C0 hH zR14 rfl (by exact wr_X6 (is_X6 ‹¬ f_X6_isSheet p1 = 0›) (in_X6 (v := p2) (by assumption)) (hH.longs _)) dX6_write_63 ?_
        refine lv_lstore (lv' := [(5, _), (0, _), (1, _), (2, _), (3, _)]) hx hb dX6_write_64 hl (by decide) rfl (fun ls hl => ?_)
        refine lv_aload_n hx hb dX6_write_66 rfl (lv_at hl 1 rfl) ?_
        refine zgR C0 hH zK6 23 (by decide) _ zR0 rfl kF_X6_49 dX6_write_67 ?_
        refine lv_bipush (v := (40 : Int32)) hx hb dX6_write_70 (by decide) ?_
        refine lv_iload_n hx hb dX6_write_72 rfl (lv_at hl 2 rfl) ?_
        refine lv_imul hx hb dX6_write_73 ?_
        refine lv_iload_n hx hb dX6_write_74 rfl (lv_at hl 3 rfl) ?_
        refine lv_iadd hx hb dX6_write_75 ?_
        refine lv_aload_n hx hb dX6_write_76 rfl (lv_at hl 1 rfl) ?_
        refine zgR C0 hH zK6 21 (by decide) _ zR0 rfl kF_X6_43 dX6_write_77 ?_
        refine lv_iload_n hx hb dX6_write_80 rfl (lv_at hl 2 rfl) ?_
        refine zald C0 hH (zR_i (by decide) (by decide)) rfl (by first | exact zin4.mpr hs | exact zin4.mpr (is_X6 ‹¬ f_X6_isSheet p1 = 0›)) dX6_write_81 ?_
        refine lv_bipush (v := (8 : Int32)) hx hb dX6_write_82 (by decide) ?_
        refine lv_icmp_ne (tgt := 94) hx hb dX6_write_84 (by decide) (fun c84_9 => ?_) (fun c84_9 => ?_)
        · have hres := zif_neg c84_9 hres
          refine lv_aload_n hx hb dX6_write_94 rfl (lv_at hl 1 rfl) ?_
          refine zgR C0 hH zK6 21 (by decide) _ zR0 rfl kF_X6_43 dX6_write_95 ?_
          refine lv_iload_n hx hb dX6_write_98 rfl (lv_at hl 2 rfl) ?_
          refine zald C0 hH (zR_i (by decide) (by decide)) rfl (by first | exact zin4.mpr hs | exact zin4.mpr (is_X6 ‹¬ f_X6_isSheet p1 = 0›)) dX6_write_99 ?_
          refine lv_bipush (v := (16 : Int32)) hx hb dX6_write_100 (by decide) ?_
          refine lv_icmp_ne (tgt := 112) hx hb dX6_write_102 (by decide) (fun c102_10 => ?_) (fun c102_10 => ?_)
          · have hres := zif_neg c102_10 hres
            refine lv_lload_n hx hb dX6_write_112 rfl (lv_at hl 4 rfl) ?_
            refine zlst C0 hH zR14 rfl (by exact wr_X6 (is_X6 ‹¬ f_X6_isSheet p1 = 0›) (in_X6 (v := p2) (by assumption)) (hH.longs _)) dX6_write_113 (fun H locs hH => ?_)
            refine lv_lload hx hb dX6_write_114 (lv_at hl 0 rfl) ?_
            exact zretl C0 hH dX6_write_116 (zfst hres) (zsnd hres)
          · have hres := zif_pos c102_10 hres
            refine lv_lload_n hx hb dX6_write_105 rfl (lv_at hl 4 rfl) ?_
            refine lv_l2i hx hb dX6_write_106 rfl ?_
            refine lv_i2s hx hb dX6_write_107 rfl ?_
            refine lv_i2l hx hb dX6_write_108 rfl ?_
            refine lv_goto (tgt := 113) hx hb dX6_write_109 (by decide) ?_
            refine zlst C0 hH zR14 rfl (by exact wr_X6 (is_X6 ‹¬ f_X6_isSheet p1 = 0›) (in_X6 (v := p2) (by assumption)) (hH.longs _)) dX6_write_113 (fun H locs hH => ?_)
            refine lv_lload hx hb dX6_write_114 (lv_at hl 0 rfl) ?_
            exact zretl C0 hH dX6_write_116 (zfst hres) (zsnd hres)
        · have hres := zif_pos c84_9 hres
          refine lv_lload_n hx hb dX6_write_87 rfl (lv_at hl 4 rfl) ?_
          refine lv_l2i hx hb dX6_write_88 rfl ?_
          refine lv_i2b hx hb dX6_write_89 rfl ?_
          refine lv_i2l hx hb dX6_write_90 rfl ?_
          refine lv_goto (tgt := 113) hx hb dX6_write_91 (by decide) ?_
          refine zlst C0 hH zR14 rfl (by exact wr_X6 (is_X6 ‹¬ f_X6_isSheet p1 = 0›) (in_X6 (v := p2) (by assumption)) (hH.longs _)) dX6_write_113 (fun H locs hH => ?_)
          refine lv_lload hx hb dX6_write_114 (lv_at hl 0 rfl) ?_
          exact zretl C0 hH dX6_write_116 (zfst hres) (zsnd hres)
      · have hres := zif_pos c43_7 hres
        refine lv_aload_n hx hb dX6_write_46 rfl (lv_at hl 0 rfl) ?_
        refine lv_iconst (v := (0 : Int32)) hx hb dX6_write_47 (by decide) ?_
        refine zci (zrunV C0 hH (c_X6_no l D cy ad _ _ (by decide)) kM_X6_85 zK6 kq_X6_no zR0 rfl hl.1 rfl rfl rfl ⟨Nat.le_of_ble_eq_true rfl, Nat.le_of_ble_eq_true rfl⟩ (Nat.le_of_ble_eq_true rfl) dX6_write_48) hH (fun H locs hH => ?_)
        refine lv_i2l hx hb dX6_write_51 rfl ?_
        exact zretl C0 hH dX6_write_52 (zfst hres) (zsnd hres)
    · have hres := zif_pos c20_4 hres
      refine lv_aload_n hx hb dX6_write_23 rfl (lv_at hl 0 rfl) ?_
      refine lv_iconst (v := (5 : Int32)) hx hb dX6_write_24 (by decide) ?_
      refine zci (zrunV C0 hH (c_X6_no l D cy ad _ _ (by decide)) kM_X6_85 zK6 kq_X6_no zR0 rfl hl.1 rfl rfl rfl ⟨Nat.le_of_ble_eq_true rfl, Nat.le_of_ble_eq_true rfl⟩ (Nat.le_of_ble_eq_true rfl) dX6_write_25) hH (fun H locs hH => ?_)
      refine lv_i2l hx hb dX6_write_28 rfl ?_
      exact zretl C0 hH dX6_write_29 (zfst hres) (zsnd hres)
  · have hres := zif_pos c4_3 hres
    refine lv_aload_n hx hb dX6_write_7 rfl (lv_at hl 0 rfl) ?_
    refine lv_iconst (v := (0 : Int32)) hx hb dX6_write_8 (by decide) ?_
    refine zci (zrunV C0 hH (c_X6_no l D cy ad _ _ (by decide)) kM_X6_85 zK6 kq_X6_no zR0 rfl hl.1 rfl rfl rfl ⟨Nat.le_of_ble_eq_true rfl, Nat.le_of_ble_eq_true rfl⟩ (Nat.le_of_ble_eq_true rfl) dX6_write_9) hH (fun H locs hH => ?_)
    refine lv_i2l hx hb dX6_write_12 rfl ?_
    exact zretl C0 hH dX6_write_13 (zfst hres) (zsnd hres)
set_option maxRecDepth 100000 in
set_option maxHeartbeats 4000000 in
theorem c_X6_copy (l : Launch) (D : va_G) (cy : Nat → ClassId) (ad : Nat → Nat) (M : zM) (p1 : Int32) (p2 : Int32) (p3 : Int32) (p4 : Int32) (p5 : Int32) : Met l yX6_copy (Cond.code yX6_copy cX6_copy 7 (some .int) :: zG) ({ frames := 2, cells := 0, slots := 0, locals := 42 }) (zP D lyR cy ad [.ref (ad 0), .int p1, .int p2, .int p3, .int p4, .int p5] M) (zQi D lyR cy ad (f_X6_copy p1 p2 p3 p4 p5 M).1 (f_X6_copy p1 p2 p3 p4 p5 M).2) 0 0 (zA lyR ad) := by
  generalize hres : (f_X6_copy p1 p2 p3 p4 p5 M) = res
  refine zMet (by decide) (Nat.le_of_ble_eq_true rfl) ?_
  intro p e s m args below meth c ls C0 hH hl
  obtain ⟨⟨hx, hb, hml, hown, hts⟩, -⟩ := id C0
  have hz : ∀ w ∈ zG, w.before args s = true := fun w h => hts w (List.mem_cons_of_mem _ h)
  have hl : lv_has ls 7 [(0, .ref (ad 0)), (1, .int p1), (2, .int p2), (3, .int p3), (4, .int p4), (5, .int p5)] := hl
  have g0 := hH.many
  have J14 : ∀ (mm : zM) (H : Heap) (locs : List Loc) (ls : Array Slot), zH D lyR cy ad s.heap mm H locs → lv_has ls 7 [(0, .ref (ad 0))] → f_X6_copy_14 p1 p2 p3 p4 p5 mm = res → W p l e { frames := 2, cells := 0, slots := 0, locals := 42 } s m args below meth c H locs 0 0 (MQ below (zQi D lyR cy ad res.1 res.2) args s 0 0 (zA lyR ad)) (F0 m 14 ls []) := by
    intro mm H locs ls hH hl hres
    refine lv_aload_n hx hb dX6_copy_14 rfl (lv_at hl 0 rfl) ?_
    refine lv_iconst (v := (0 : Int32)) hx hb dX6_copy_15 (by decide) ?_
    refine zci (zrunV C0 hH (c_X6_no l D cy ad _ _ (by decide)) kM_X6_85 zK6 kq_X6_no zR0 rfl hl.1 rfl rfl rfl ⟨Nat.le_of_ble_eq_true rfl, Nat.le_of_ble_eq_true rfl⟩ (Nat.le_of_ble_eq_true rfl) dX6_copy_16) hH (fun H locs hH => ?_)
    exact zreti C0 hH dX6_copy_19 (zfst hres) (zsnd hres)
  have J38 : ∀ (mm : zM) (H : Heap) (locs : List Loc) (ls : Array Slot), zH D lyR cy ad s.heap mm H locs → lv_has ls 7 [(0, .ref (ad 0))] → f_X6_copy_38 p1 p2 p3 p4 p5 mm = res → W p l e { frames := 2, cells := 0, slots := 0, locals := 42 } s m args below meth c H locs 0 0 (MQ below (zQi D lyR cy ad res.1 res.2) args s 0 0 (zA lyR ad)) (F0 m 38 ls []) := by
    intro mm H locs ls hH hl hres
    refine lv_aload_n hx hb dX6_copy_38 rfl (lv_at hl 0 rfl) ?_
    refine lv_iconst (v := (5 : Int32)) hx hb dX6_copy_39 (by decide) ?_
    refine zci (zrunV C0 hH (c_X6_no l D cy ad _ _ (by decide)) kM_X6_85 zK6 kq_X6_no zR0 rfl hl.1 rfl rfl rfl ⟨Nat.le_of_ble_eq_true rfl, Nat.le_of_ble_eq_true rfl⟩ (Nat.le_of_ble_eq_true rfl) dX6_copy_40) hH (fun H locs hH => ?_)
    exact zreti C0 hH dX6_copy_43 (zfst hres) (zsnd hres)
  have J106 : ∀ (mm : zM) (H : Heap) (locs : List Loc) (ls : Array Slot), zH D lyR cy ad s.heap mm H locs → lv_has ls 7 [(0, .ref (ad 0))] → f_X6_copy_106 p1 p2 p3 p4 p5 mm = res → W p l e { frames := 2, cells := 0, slots := 0, locals := 42 } s m args below meth c H locs 0 0 (MQ below (zQi D lyR cy ad res.1 res.2) args s 0 0 (zA lyR ad)) (F0 m 106 ls []) := by
    intro mm H locs ls hH hl hres
    refine lv_aload_n hx hb dX6_copy_106 rfl (lv_at hl 0 rfl) ?_
    refine lv_iconst (v := (0 : Int32)) hx hb dX6_copy_107 (by decide) ?_
    refine zci (zrunV C0 hH (c_X6_no l D cy ad _ _ (by decide)) kM_X6_85 zK6 kq_X6_no zR0 rfl hl.1 rfl rfl rfl ⟨Nat.le_of_ble_eq_true rfl, Nat.le_of_ble_eq_true rfl⟩ (Nat.le_of_ble_eq_true rfl) dX6_copy_108) hH (fun H locs hH => ?_)
    exact zreti C0 hH dX6_copy_111 (zfst hres) (zsnd hres)
  have L152 : ∀ (n152 : Nat), ∀ (v6 : Int32) (mm : zM) (H : Heap) (locs : List Loc) (ls : Array Slot), (zCt 40 n152 v6) → ((0 ≤ p1 ∧ p1 < 4) ∧ (0 ≤ p3 ∧ p3 < 4) ∧ 0 ≤ p5 ∧ (0 ≤ p2 ∧ p2 + p5 ≤ 40) ∧ (0 ≤ p4 ∧ p4 + p5 ≤ 40) ∧ p2 ≤ 40 ∧ p4 ≤ 40 ∧ p5 ≤ 40) → zH D lyR cy ad s.heap mm H locs → lv_has ls 7 [(0, .ref (ad 0)), (3, .int p3), (4, .int p4), (5, .int p5), (6, .int v6)] → f_X6_copy_152 p1 p2 p3 p4 p5 n152 v6 mm = res → W p l e { frames := 2, cells := 0, slots := 0, locals := 42 } s m args below meth c H locs 0 0 (MQ below (zQi D lyR cy ad res.1 res.2) args s 0 0 (zA lyR ad)) (F0 m 152 ls []) := by
    intro n152
    induction n152 with
    | zero =>
      intro v6 mm H locs ls hct hq hH hl hres
      exfalso; exact hct.zero
    | succ n152 ih152 =>
      intro v6 mm H locs ls hct hq hH hl hres
      refine lv_iload hx hb dX6_copy_152 (lv_at hl 4 rfl) ?_
      refine lv_iload hx hb dX6_copy_154 (lv_at hl 3 rfl) ?_
      refine lv_icmp_ge (tgt := 187) hx hb dX6_copy_156 (by decide) (fun c156_21 => ?_) (fun c156_21 => ?_)
      · have hres := zif_pos c156_21 hres
        refine lv_iload hx hb dX6_copy_187 (lv_at hl 3 rfl) ?_
        exact zreti C0 hH dX6_copy_189 (zfst hres) (zsnd hres)
      · have hres := zif_neg c156_21 hres
        refine lv_aload_n hx hb dX6_copy_159 rfl (lv_at hl 0 rfl) ?_
        refine zgR C0 hH zK6 23 (by decide) _ zR0 rfl kF_X6_49 dX6_copy_160 ?_
        refine lv_bipush (v := (40 : Int32)) hx hb dX6_copy_163 (by decide) ?_
        refine lv_iload_n hx hb dX6_copy_165 rfl (lv_at hl 1 rfl) ?_
        refine lv_imul hx hb dX6_copy_166 ?_
        refine lv_iload hx hb dX6_copy_167 (lv_at hl 2 rfl) ?_
        refine lv_iadd hx hb dX6_copy_169 ?_
        refine lv_iload hx hb dX6_copy_170 (lv_at hl 4 rfl) ?_
        refine lv_iadd hx hb dX6_copy_172 ?_
        refine lv_aload_n hx hb dX6_copy_173 rfl (lv_at hl 0 rfl) ?_
        refine zgR C0 hH zK6 24 (by decide) _ zR0 rfl kF_X6_53 dX6_copy_174 ?_
        refine lv_iload hx hb dX6_copy_177 (lv_at hl 4 rfl) ?_
        refine zlld C0 hH zR15 rfl (by exact zin40.mpr (by obtain ⟨qa, qb, -⟩ := hct; clear hres hz hts; grind [f_X6_in, f_X6_isBlock, f_X6_isAhead, f_X6_isSheet])) dX6_copy_179 ?_
        refine zlst C0 hH zR14 rfl (by exact zin160.mpr (by obtain ⟨qa, qb, -⟩ := hct; clear hres hz hts; grind [f_X6_in, f_X6_isBlock, f_X6_isAhead, f_X6_isSheet])) dX6_copy_180 (fun H locs hH => ?_)
        refine ziinc (lv' := [(6, _), (0, _), (3, _), (4, _), (5, _)]) (k := 4) hx hb (1 : Int32) (by decide) dX6_copy_181 hl rfl (by decide) rfl (fun ls hl => ?_)
        refine lv_goto (tgt := 152) hx hb dX6_copy_184 (by decide) ?_
        exact ih152 _ _ _ _ _ (by first | exact zCt.start (by decide) (by decide) | exact zCt.begin (by decide) (by decide) (by decide) | exact zCt.step (m := 40) hct (by first | assumption | exact Int32.not_le.mp (by assumption) | exact Int32.lt_of_lt_of_le (Int32.not_le.mp (by assumption)) g0.2 | (clear hres hz hts; grind [f_X6_in, f_X6_isBlock, f_X6_isAhead, f_X6_isSheet])) (by decide)) (by first | assumption | (have q1 := hH.longs p1.toNatClampNeg; have q3 := hH.longs p3.toNatClampNeg; clear hres hz hts; grind [f_X6_in, f_X6_isBlock, f_X6_isAhead, f_X6_isSheet])) hH (lv_sub hl [1, 2, 3, 4, 0] rfl) hres
  have L115 : ∀ (n115 : Nat), ∀ (v6 : Int32) (mm : zM) (H : Heap) (locs : List Loc) (ls : Array Slot), (zCt 40 n115 v6) → ((0 ≤ p1 ∧ p1 < 4) ∧ (0 ≤ p3 ∧ p3 < 4) ∧ 0 ≤ p5 ∧ (0 ≤ p2 ∧ p2 + p5 ≤ 40) ∧ (0 ≤ p4 ∧ p4 + p5 ≤ 40) ∧ p2 ≤ 40 ∧ p4 ≤ 40 ∧ p5 ≤ 40) → zH D lyR cy ad s.heap mm H locs → lv_has ls 7 [(0, .ref (ad 0)), (1, .int p1), (2, .int p2), (3, .int p3), (4, .int p4), (5, .int p5), (6, .int v6)] → f_X6_copy_115 p1 p2 p3 p4 p5 n115 v6 mm = res → W p l e { frames := 2, cells := 0, slots := 0, locals := 42 } s m args below meth c H locs 0 0 (MQ below (zQi D lyR cy ad res.1 res.2) args s 0 0 (zA lyR ad)) (F0 m 115 ls []) := by
    intro n115
    induction n115 with
    | zero =>
      intro v6 mm H locs ls hct hq hH hl hres
      exfalso; exact hct.zero
    | succ n115 ih115 =>
      intro v6 mm H locs ls hct hq hH hl hres
      refine lv_iload hx hb dX6_copy_115 (lv_at hl 6 rfl) ?_
      refine lv_iload hx hb dX6_copy_117 (lv_at hl 5 rfl) ?_
      refine lv_icmp_ge (tgt := 149) hx hb dX6_copy_119 (by decide) (fun c119_19 => ?_) (fun c119_19 => ?_)
      · have hres := zif_pos c119_19 hres
        refine lv_iconst (v := (0 : Int32)) hx hb dX6_copy_149 (by decide) ?_
        refine lv_istore (lv' := [(6, _), (0, _), (1, _), (2, _), (3, _), (4, _), (5, _)]) hx hb dX6_copy_150 hl (by decide) rfl (fun ls hl => ?_)
        exact L152 (41) _ _ _ _ _ (by first | exact zCt.start (by decide) (by decide) | exact zCt.begin (by decide) (by decide) (by decide) | exact zCt.step (m := 40) hct (by first | assumption | exact Int32.not_le.mp (by assumption) | exact Int32.lt_of_lt_of_le (Int32.not_le.mp (by assumption)) g0.2 | (clear hres hz hts; grind [f_X6_in, f_X6_isBlock, f_X6_isAhead, f_X6_isSheet])) (by decide)) (by first | assumption | (have q1 := hH.longs p1.toNatClampNeg; have q3 := hH.longs p3.toNatClampNeg; clear hres hz hts; grind [f_X6_in, f_X6_isBlock, f_X6_isAhead, f_X6_isSheet])) hH (lv_sub hl [1, 4, 5, 6, 0] rfl) hres
      · have hres := zif_neg c119_19 hres
        refine lv_aload_n hx hb dX6_copy_122 rfl (lv_at hl 0 rfl) ?_
        refine zgR C0 hH zK6 24 (by decide) _ zR0 rfl kF_X6_53 dX6_copy_123 ?_
        refine lv_iload hx hb dX6_copy_126 (lv_at hl 6 rfl) ?_
        refine lv_aload_n hx hb dX6_copy_128 rfl (lv_at hl 0 rfl) ?_
        refine zgR C0 hH zK6 23 (by decide) _ zR0 rfl kF_X6_49 dX6_copy_129 ?_
        refine lv_bipush (v := (40 : Int32)) hx hb dX6_copy_132 (by decide) ?_
        refine lv_iload_n hx hb dX6_copy_134 rfl (lv_at hl 1 rfl) ?_
        refine lv_imul hx hb dX6_copy_135 ?_
        refine lv_iload_n hx hb dX6_copy_136 rfl (lv_at hl 2 rfl) ?_
        refine lv_iadd hx hb dX6_copy_137 ?_
        refine lv_iload hx hb dX6_copy_138 (lv_at hl 6 rfl) ?_
        refine lv_iadd hx hb dX6_copy_140 ?_
        refine zlld C0 hH zR14 rfl (by exact zin160.mpr (by obtain ⟨qa, qb, -⟩ := hct; clear hres hz hts; grind [f_X6_in, f_X6_isBlock, f_X6_isAhead, f_X6_isSheet])) dX6_copy_141 ?_
        refine zlst C0 hH zR15 rfl (by exact zin40.mpr (by obtain ⟨qa, qb, -⟩ := hct; clear hres hz hts; grind [f_X6_in, f_X6_isBlock, f_X6_isAhead, f_X6_isSheet])) dX6_copy_142 (fun H locs hH => ?_)
        refine ziinc (lv' := [(6, _), (0, _), (1, _), (2, _), (3, _), (4, _), (5, _)]) (k := 6) hx hb (1 : Int32) (by decide) dX6_copy_143 hl rfl (by decide) rfl (fun ls hl => ?_)
        refine lv_goto (tgt := 115) hx hb dX6_copy_146 (by decide) ?_
        exact ih115 _ _ _ _ _ (by first | exact zCt.start (by decide) (by decide) | exact zCt.begin (by decide) (by decide) (by decide) | exact zCt.step (m := 40) hct (by first | assumption | exact Int32.not_le.mp (by assumption) | exact Int32.lt_of_lt_of_le (Int32.not_le.mp (by assumption)) g0.2 | (clear hres hz hts; grind [f_X6_in, f_X6_isBlock, f_X6_isAhead, f_X6_isSheet])) (by decide)) (by first | assumption | (have q1 := hH.longs p1.toNatClampNeg; have q3 := hH.longs p3.toNatClampNeg; clear hres hz hts; grind [f_X6_in, f_X6_isBlock, f_X6_isAhead, f_X6_isSheet])) hH (lv_sub hl [1, 2, 3, 4, 5, 6, 0] rfl) hres
  refine lv_iload_n hx hb dX6_copy_0 rfl (lv_at hl 1 rfl) ?_
  refine zcz (zrunS C0 hH (c_X6_isSheet l D cy ad _ _) kM_X6_174 kq_X6_isSheet rfl hl.1 rfl rfl rfl ⟨Nat.le_of_ble_eq_true rfl, Nat.le_of_ble_eq_true rfl⟩ (Nat.le_of_ble_eq_true rfl) dX6_copy_1) hH (fun H locs hH h01_1 => ?_)
  refine lv_if_eq (tgt := 14) hx hb dX6_copy_4 (by decide) (fun c4_3 => ?_) (fun c4_3 => ?_)
  · have hres := zif_pos c4_3 hres
    exact J14 _ _ _ _ hH (lv_sub hl [0] rfl) hres
  · have hres := zif_neg c4_3 hres
    refine lv_iload_n hx hb dX6_copy_7 rfl (lv_at hl 3 rfl) ?_
    refine zcz (zrunS C0 hH (c_X6_isSheet l D cy ad _ _) kM_X6_174 kq_X6_isSheet rfl hl.1 rfl rfl rfl ⟨Nat.le_of_ble_eq_true rfl, Nat.le_of_ble_eq_true rfl⟩ (Nat.le_of_ble_eq_true rfl) dX6_copy_8) hH (fun H locs hH h01_4 => ?_)
    refine lv_if_ne (tgt := 20) hx hb dX6_copy_11 (by decide) (fun c11_6 => ?_) (fun c11_6 => ?_)
    · have hres := zif_neg c11_6 hres
      refine lv_aload_n hx hb dX6_copy_20 rfl (lv_at hl 0 rfl) ?_
      refine zgR C0 hH zK6 21 (by decide) _ zR0 rfl kF_X6_43 dX6_copy_21 ?_
      refine lv_iload_n hx hb dX6_copy_24 rfl (lv_at hl 1 rfl) ?_
      refine zald C0 hH (zR_i (by decide) (by decide)) rfl (by first | exact zin4.mpr hs | exact zin4.mpr (is_X6 ‹¬ f_X6_isSheet p1 = 0›) | exact zin4.mpr (is_X6 ‹¬ f_X6_isSheet p3 = 0›)) dX6_copy_25 ?_
      refine lv_if_eq (tgt := 38) hx hb dX6_copy_26 (by decide) (fun c26_7 => ?_) (fun c26_7 => ?_)
      · have hres := zif_pos c26_7 hres
        exact J38 _ _ _ _ hH (lv_sub hl [0] rfl) hres
      · have hres := zif_neg c26_7 hres
        refine lv_aload_n hx hb dX6_copy_29 rfl (lv_at hl 0 rfl) ?_
        refine zgR C0 hH zK6 21 (by decide) _ zR0 rfl kF_X6_43 dX6_copy_30 ?_
        refine lv_iload_n hx hb dX6_copy_33 rfl (lv_at hl 3 rfl) ?_
        refine zald C0 hH (zR_i (by decide) (by decide)) rfl (by first | exact zin4.mpr hs | exact zin4.mpr (is_X6 ‹¬ f_X6_isSheet p1 = 0›) | exact zin4.mpr (is_X6 ‹¬ f_X6_isSheet p3 = 0›)) dX6_copy_34 ?_
        refine lv_if_ne (tgt := 44) hx hb dX6_copy_35 (by decide) (fun c35_8 => ?_) (fun c35_8 => ?_)
        · have hres := zif_neg c35_8 hres
          refine lv_aload_n hx hb dX6_copy_44 rfl (lv_at hl 0 rfl) ?_
          refine zgR C0 hH zK6 21 (by decide) _ zR0 rfl kF_X6_43 dX6_copy_45 ?_
          refine lv_iload_n hx hb dX6_copy_48 rfl (lv_at hl 1 rfl) ?_
          refine zald C0 hH (zR_i (by decide) (by decide)) rfl (by first | exact zin4.mpr hs | exact zin4.mpr (is_X6 ‹¬ f_X6_isSheet p1 = 0›) | exact zin4.mpr (is_X6 ‹¬ f_X6_isSheet p3 = 0›)) dX6_copy_49 ?_
          refine lv_aload_n hx hb dX6_copy_50 rfl (lv_at hl 0 rfl) ?_
          refine zgR C0 hH zK6 21 (by decide) _ zR0 rfl kF_X6_43 dX6_copy_51 ?_
          refine lv_iload_n hx hb dX6_copy_54 rfl (lv_at hl 3 rfl) ?_
          refine zald C0 hH (zR_i (by decide) (by decide)) rfl (by first | exact zin4.mpr hs | exact zin4.mpr (is_X6 ‹¬ f_X6_isSheet p1 = 0›) | exact zin4.mpr (is_X6 ‹¬ f_X6_isSheet p3 = 0›)) dX6_copy_55 ?_
          refine lv_icmp_eq (tgt := 65) hx hb dX6_copy_56 (by decide) (fun c56_9 => ?_) (fun c56_9 => ?_)
          · have hres := zif_pos c56_9 hres
            refine lv_iload_n hx hb dX6_copy_65 rfl (lv_at hl 2 rfl) ?_
            refine lv_if_lt (tgt := 106) hx hb dX6_copy_66 (by decide) (fun c66_10 => ?_) (fun c66_10 => ?_)
            · have hres := zif_pos c66_10 hres
              exact J106 _ _ _ _ hH (lv_sub hl [0] rfl) hres
            · have hres := zif_neg c66_10 hres
              refine lv_iload hx hb dX6_copy_69 (lv_at hl 4 rfl) ?_
              refine lv_if_lt (tgt := 106) hx hb dX6_copy_71 (by decide) (fun c71_11 => ?_) (fun c71_11 => ?_)
              · have hres := zif_pos c71_11 hres
                exact J106 _ _ _ _ hH (lv_sub hl [0] rfl) hres
              · have hres := zif_neg c71_11 hres
                refine lv_iload hx hb dX6_copy_74 (lv_at hl 5 rfl) ?_
                refine lv_if_lt (tgt := 106) hx hb dX6_copy_76 (by decide) (fun c76_12 => ?_) (fun c76_12 => ?_)
                · have hres := zif_pos c76_12 hres
                  exact J106 _ _ _ _ hH (lv_sub hl [0] rfl) hres
                · have hres := zif_neg c76_12 hres
                  refine lv_iload_n hx hb dX6_copy_79 rfl (lv_at hl 2 rfl) ?_
                  refine lv_aload_n hx hb dX6_copy_80 rfl (lv_at hl 0 rfl) ?_
                  refine zgR C0 hH zK6 22 (by decide) _ zR0 rfl kF_X6_46 dX6_copy_81 ?_
                  refine lv_iload_n hx hb dX6_copy_84 rfl (lv_at hl 1 rfl) ?_
                  refine zald C0 hH (zR_i (by decide) (by decide)) rfl (by first | exact zin4.mpr hs | exact zin4.mpr (is_X6 ‹¬ f_X6_isSheet p1 = 0›) | exact zin4.mpr (is_X6 ‹¬ f_X6_isSheet p3 = 0›)) dX6_copy_85 ?_
                  refine lv_iload hx hb dX6_copy_86 (lv_at hl 5 rfl) ?_
                  refine lv_isub hx hb dX6_copy_88 ?_
                  refine lv_icmp_gt (tgt := 106) hx hb dX6_copy_89 (by decide) (fun c89_13 => ?_) (fun c89_13 => ?_)
                  · have hres := zif_pos c89_13 hres
                    exact J106 _ _ _ _ hH (lv_sub hl [0] rfl) hres
                  · have hres := zif_neg c89_13 hres
                    refine lv_iload hx hb dX6_copy_92 (lv_at hl 4 rfl) ?_
                    refine lv_aload_n hx hb dX6_copy_94 rfl (lv_at hl 0 rfl) ?_
                    refine zgR C0 hH zK6 22 (by decide) _ zR0 rfl kF_X6_46 dX6_copy_95 ?_
                    refine lv_iload_n hx hb dX6_copy_98 rfl (lv_at hl 3 rfl) ?_
                    refine zald C0 hH (zR_i (by decide) (by decide)) rfl (by first | exact zin4.mpr hs | exact zin4.mpr (is_X6 ‹¬ f_X6_isSheet p1 = 0›) | exact zin4.mpr (is_X6 ‹¬ f_X6_isSheet p3 = 0›)) dX6_copy_99 ?_
                    refine lv_iload hx hb dX6_copy_100 (lv_at hl 5 rfl) ?_
                    refine lv_isub hx hb dX6_copy_102 ?_
                    refine lv_icmp_le (tgt := 112) hx hb dX6_copy_103 (by decide) (fun c103_14 => ?_) (fun c103_14 => ?_)
                    · have hres := zif_pos c103_14 hres
                      refine lv_iconst (v := (0 : Int32)) hx hb dX6_copy_112 (by decide) ?_
                      refine lv_istore (lv' := [(6, _), (0, _), (1, _), (2, _), (3, _), (4, _), (5, _)]) hx hb dX6_copy_113 hl (by decide) rfl (fun ls hl => ?_)
                      exact L115 (41) _ _ _ _ _ (by first | exact zCt.start (by decide) (by decide) | exact zCt.begin (by decide) (by decide) (by decide) | exact zCt.step (m := 40) hct (by first | assumption | exact Int32.not_le.mp (by assumption) | exact Int32.lt_of_lt_of_le (Int32.not_le.mp (by assumption)) g0.2 | (clear hres hz hts; grind [f_X6_in, f_X6_isBlock, f_X6_isAhead, f_X6_isSheet])) (by decide)) (by first | assumption | (have q1 := hH.longs p1.toNatClampNeg; have q3 := hH.longs p3.toNatClampNeg; clear hres hz hts; grind [f_X6_in, f_X6_isBlock, f_X6_isAhead, f_X6_isSheet])) hH (lv_sub hl [1, 2, 3, 4, 5, 6, 0] rfl) hres
                    · have hres := zif_neg c103_14 hres
                      exact J106 _ _ _ _ hH (lv_sub hl [0] rfl) hres
          · have hres := zif_neg c56_9 hres
            refine lv_aload_n hx hb dX6_copy_59 rfl (lv_at hl 0 rfl) ?_
            refine lv_iconst (v := (2 : Int32)) hx hb dX6_copy_60 (by decide) ?_
            refine zci (zrunV C0 hH (c_X6_no l D cy ad _ _ (by decide)) kM_X6_85 zK6 kq_X6_no zR0 rfl hl.1 rfl rfl rfl ⟨Nat.le_of_ble_eq_true rfl, Nat.le_of_ble_eq_true rfl⟩ (Nat.le_of_ble_eq_true rfl) dX6_copy_61) hH (fun H locs hH => ?_)
            exact zreti C0 hH dX6_copy_64 (zfst hres) (zsnd hres)
        · have hres := zif_pos c35_8 hres
          exact J38 _ _ _ _ hH (lv_sub hl [0] rfl) hres
    · have hres := zif_pos c11_6 hres
      exact J14 _ _ _ _ hH (lv_sub hl [0] rfl) hres
set_option maxRecDepth 100000 in
set_option maxHeartbeats 4000000 in
theorem c_X6_read (l : Launch) (D : va_G) (cy : Nat → ClassId) (ad : Nat → Nat) (M : zM) (p1 : Int32) : Met l yX6_read (Cond.code yX6_read cX6_read 3 (some .int) :: zG) ({ frames := 2, cells := 0, slots := 0, locals := 43 }) (zP D lyR cy ad [.ref (ad 0), .int p1] M) (zQi D lyR cy ad (f_X6_read p1 M).1 (f_X6_read p1 M).2) 0 0 (zA lyR ad) := by
  generalize hres : (f_X6_read p1 M) = res
  refine zMet (by decide) (Nat.le_of_ble_eq_true rfl) ?_
  intro p e s m args below meth c ls C0 hH hl
  obtain ⟨⟨hx, hb, hml, hown, hts⟩, -⟩ := id C0
  have hz : ∀ w ∈ zG, w.before args s = true := fun w h => hts w (List.mem_cons_of_mem _ h)
  have hl : lv_has ls 3 [(0, .ref (ad 0)), (1, .int p1)] := hl
  have g0 := hH.many
  have L30 : ∀ (n30 : Nat), ∀ (v2 : Int32) (mm : zM) (H : Heap) (locs : List Loc) (ls : Array Slot), (zCt 40 n30 v2) → (0 ≤ p1 ∧ p1 < 4) → zH D lyR cy ad s.heap mm H locs → lv_has ls 3 [(0, .ref (ad 0)), (1, .int p1), (2, .int v2)] → f_X6_read_30 p1 n30 v2 mm = res → W p l e { frames := 2, cells := 0, slots := 0, locals := 43 } s m args below meth c H locs 0 0 (MQ below (zQi D lyR cy ad res.1 res.2) args s 0 0 (zA lyR ad)) (F0 m 30 ls []) := by
    intro n30
    induction n30 with
    | zero =>
      intro v2 mm H locs ls hct hs hH hl hres
      exfalso; exact hct.zero
    | succ n30 ih30 =>
      intro v2 mm H locs ls hct hs hH hl hres
      have g0 := hH.longs p1.toNatClampNeg
      refine lv_iload_n hx hb dX6_read_30 rfl (lv_at hl 2 rfl) ?_
      refine lv_aload_n hx hb dX6_read_31 rfl (lv_at hl 0 rfl) ?_
      refine zgR C0 hH zK6 22 (by decide) _ zR0 rfl kF_X6_46 dX6_read_32 ?_
      refine lv_iload_n hx hb dX6_read_35 rfl (lv_at hl 1 rfl) ?_
      refine zald C0 hH (zR_i (by decide) (by decide)) rfl (by first | exact zin4.mpr hs | exact zin4.mpr (is_X6 ‹¬ f_X6_isSheet p1 = 0›)) dX6_read_36 ?_
      refine lv_icmp_ge (tgt := 80) hx hb dX6_read_37 (by decide) (fun c37_7 => ?_) (fun c37_7 => ?_)
      · have hres := zif_pos c37_7 hres
        refine lv_iconst (v := (0 : Int32)) hx hb dX6_read_80 (by decide) ?_
        exact zreti C0 hH dX6_read_81 (zfst hres) (zsnd hres)
      · have hres := zif_neg c37_7 hres
        refine lv_aload_n hx hb dX6_read_40 rfl (lv_at hl 0 rfl) ?_
        refine lv_iload_n hx hb dX6_read_41 rfl (lv_at hl 2 rfl) ?_
        refine zcz (zrunV C0 hH (c_X6_isBlock l D cy ad _ _) kM_X6_92 zK6 kq_X6_isBlock zR0 rfl hl.1 rfl rfl rfl ⟨Nat.le_of_ble_eq_true rfl, Nat.le_of_ble_eq_true rfl⟩ (Nat.le_of_ble_eq_true rfl) dX6_read_42) hH (fun H locs hH h01_8 => ?_)
        refine lv_if_eq (tgt := 70) hx hb dX6_read_45 (by decide) (fun c45_10 => ?_) (fun c45_10 => ?_)
        · have hres := zif_pos c45_10 hres
          refine lv_iconst (v := (1 : Int32)) hx hb dX6_read_70 (by decide) ?_
          refine lv_iload_n hx hb dX6_read_71 rfl (lv_at hl 2 rfl) ?_
          refine lv_iadd hx hb dX6_read_72 ?_
          exact zreti C0 hH dX6_read_73 (zfst hres) (zsnd hres)
        · have hres := zif_neg c45_10 hres
          refine lv_aload_n hx hb dX6_read_48 rfl (lv_at hl 0 rfl) ?_
          refine zgR C0 hH zK6 23 (by decide) _ zR0 rfl kF_X6_49 dX6_read_49 ?_
          refine lv_bipush (v := (40 : Int32)) hx hb dX6_read_52 (by decide) ?_
          refine lv_iload_n hx hb dX6_read_54 rfl (lv_at hl 1 rfl) ?_
          refine lv_imul hx hb dX6_read_55 ?_
          refine lv_iload_n hx hb dX6_read_56 rfl (lv_at hl 2 rfl) ?_
          refine lv_iadd hx hb dX6_read_57 ?_
          refine zlld C0 hH zR14 rfl (by exact zin160.mpr (by obtain ⟨qa, qb, -⟩ := hct; clear hres hz hts; grind [f_X6_in, f_X6_isBlock, f_X6_isAhead, f_X6_isSheet])) dX6_read_58 ?_
          refine lv_aload_n hx hb dX6_read_59 rfl (lv_at hl 0 rfl) ?_
          refine lv_iload_n hx hb dX6_read_60 rfl (lv_at hl 2 rfl) ?_
          refine lv_iconst (v := (5 : Int32)) hx hb dX6_read_61 (by decide) ?_
          refine zci (zrunV C0 hH (c_X6_at l D cy ad _ _ _ (by first | assumption | (have q0 := hH.many; (try obtain ⟨qa, qb, -⟩ := hct); clear hres hz hts; grind [f_X6_in, f_X6_isBlock, f_X6_isAhead, f_X6_isSheet])) (by first | decide | assumption | (clear hres hz hts; grind [f_X6_in, f_X6_isBlock, f_X6_isAhead, f_X6_isSheet]))) kM_X6_61 zK6 kq_X6_at zR0 rfl hl.1 rfl rfl rfl ⟨Nat.le_of_ble_eq_true rfl, Nat.le_of_ble_eq_true rfl⟩ (Nat.le_of_ble_eq_true rfl) dX6_read_62) hH (fun H locs hH => ?_)
          refine lv_i2l hx hb dX6_read_65 rfl ?_
          refine W.lcmp hx hb dX6_read_66 ?_
          refine lv_if_eq (tgt := 74) hx hb dX6_read_67 (by decide) (fun c67_12 => ?_) (fun c67_12 => ?_)
          · have hres := zif_pos c67_12 hres
            refine ziinc (lv' := [(2, _), (0, _), (1, _)]) (k := 2) hx hb (1 : Int32) (by decide) dX6_read_74 hl rfl (by decide) rfl (fun ls hl => ?_)
            refine lv_goto (tgt := 30) hx hb dX6_read_77 (by decide) ?_
            exact ih30 _ _ _ _ _ (by first | exact zCt.start (by decide) (by decide) | exact zCt.begin (by decide) (by decide) (by decide) | exact zCt.step (m := 40) hct (by first | assumption | exact Int32.not_le.mp (by assumption) | exact Int32.lt_of_lt_of_le (Int32.not_le.mp (by assumption)) g0.2 | (clear hres hz hts; grind [f_X6_in, f_X6_isBlock, f_X6_isAhead, f_X6_isSheet])) (by decide)) (by first | assumption | (clear hres hz hts; grind [f_X6_in, f_X6_isBlock, f_X6_isAhead, f_X6_isSheet])) hH (lv_sub hl [1, 2, 0] rfl) hres
          · have hres := zif_neg c67_12 hres
            refine lv_iconst (v := (1 : Int32)) hx hb dX6_read_70 (by decide) ?_
            refine lv_iload_n hx hb dX6_read_71 rfl (lv_at hl 2 rfl) ?_
            refine lv_iadd hx hb dX6_read_72 ?_
            exact zreti C0 hH dX6_read_73 (zfst hres) (zsnd hres)
  refine lv_iload_n hx hb dX6_read_0 rfl (lv_at hl 1 rfl) ?_
  refine zcz (zrunS C0 hH (c_X6_isSheet l D cy ad _ _) kM_X6_174 kq_X6_isSheet rfl hl.1 rfl rfl rfl ⟨Nat.le_of_ble_eq_true rfl, Nat.le_of_ble_eq_true rfl⟩ (Nat.le_of_ble_eq_true rfl) dX6_read_1) hH (fun H locs hH h01_1 => ?_)
  refine lv_if_ne (tgt := 13) hx hb dX6_read_4 (by decide) (fun c4_3 => ?_) (fun c4_3 => ?_)
  · have hres := zif_neg c4_3 hres
    refine lv_aload_n hx hb dX6_read_13 rfl (lv_at hl 0 rfl) ?_
    refine zgR C0 hH zK6 21 (by decide) _ zR0 rfl kF_X6_43 dX6_read_14 ?_
    refine lv_iload_n hx hb dX6_read_17 rfl (lv_at hl 1 rfl) ?_
    refine zald C0 hH (zR_i (by decide) (by decide)) rfl (by first | exact zin4.mpr hs | exact zin4.mpr (is_X6 ‹¬ f_X6_isSheet p1 = 0›)) dX6_read_18 ?_
    refine lv_if_ne (tgt := 28) hx hb dX6_read_19 (by decide) (fun c19_4 => ?_) (fun c19_4 => ?_)
    · have hres := zif_neg c19_4 hres
      refine lv_iconst (v := (0 : Int32)) hx hb dX6_read_28 (by decide) ?_
      refine lv_istore_n (lv' := [(2, _), (0, _), (1, _)]) hx hb dX6_read_29 rfl hl (by decide) rfl (fun ls hl => ?_)
      exact L30 (41) _ _ _ _ _ (by first | exact zCt.start (by decide) (by decide) | exact zCt.begin (by decide) (by decide) (by decide) | exact zCt.step (m := 40) hct (by first | assumption | exact Int32.not_le.mp (by assumption) | exact Int32.lt_of_lt_of_le (Int32.not_le.mp (by assumption)) g0.2 | (clear hres hz hts; grind [f_X6_in, f_X6_isBlock, f_X6_isAhead, f_X6_isSheet])) (by decide)) (by first | assumption | (clear hres hz hts; grind [f_X6_in, f_X6_isBlock, f_X6_isAhead, f_X6_isSheet])) hH (lv_sub hl [1, 2, 0] rfl) hres
    · have hres := zif_pos c19_4 hres
      refine lv_aload_n hx hb dX6_read_22 rfl (lv_at hl 0 rfl) ?_
      refine lv_iconst (v := (5 : Int32)) hx hb dX6_read_23 (by decide) ?_
      refine zci (zrunV C0 hH (c_X6_no l D cy ad _ _ (by decide)) kM_X6_85 zK6 kq_X6_no zR0 rfl hl.1 rfl rfl rfl ⟨Nat.le_of_ble_eq_true rfl, Nat.le_of_ble_eq_true rfl⟩ (Nat.le_of_ble_eq_true rfl) dX6_read_24) hH (fun H locs hH => ?_)
      exact zreti C0 hH dX6_read_27 (zfst hres) (zsnd hres)
  · have hres := zif_pos c4_3 hres
    refine lv_aload_n hx hb dX6_read_7 rfl (lv_at hl 0 rfl) ?_
    refine lv_iconst (v := (0 : Int32)) hx hb dX6_read_8 (by decide) ?_
    refine zci (zrunV C0 hH (c_X6_no l D cy ad _ _ (by decide)) kM_X6_85 zK6 kq_X6_no zR0 rfl hl.1 rfl rfl rfl ⟨Nat.le_of_ble_eq_true rfl, Nat.le_of_ble_eq_true rfl⟩ (Nat.le_of_ble_eq_true rfl) dX6_read_9) hH (fun H locs hH => ?_)
    exact zreti C0 hH dX6_read_12 (zfst hres) (zsnd hres)
set_option maxRecDepth 100000 in
set_option maxHeartbeats 4000000 in
theorem c_X6_image (l : Launch) (D : va_G) (cy : Nat → ClassId) (ad : Nat → Nat) (M : zM) : Met l yX6_image (Cond.code yX6_image cX6_image 1 (some .int) :: zG) ({ frames := 1, cells := 0, slots := 0, locals := 22 }) (zP D lyR cy ad [.ref (ad 0)] M) (zQi D lyR cy ad (f_X6_image M).1 (f_X6_image M).2) 0 0 (zA lyR ad) := by
  generalize hres : (f_X6_image M) = res
  refine zMet (by decide) (Nat.le_of_ble_eq_true rfl) ?_
  intro p e s m args below meth c ls C0 hH hl
  obtain ⟨⟨hx, hb, hml, hown, hts⟩, -⟩ := id C0
  have hz : ∀ w ∈ zG, w.before args s = true := fun w h => hts w (List.mem_cons_of_mem _ h)
  have hl : lv_has ls 1 [(0, .ref (ad 0))] := hl
  have g0 := hH.many
  refine lv_aload_n hx hb dX6_image_0 rfl (lv_at hl 0 rfl) ?_
  refine zgR C0 hH zK6 0 (by decide) _ zR0 rfl kF_X6_9 dX6_image_1 ?_
  refine lv_aload_n hx hb dX6_image_4 rfl (lv_at hl 0 rfl) ?_
  refine zgR C0 hH zK6 1 (by decide) _ zR0 rfl kF_X6_13 dX6_image_5 ?_
  refine zcv (zrunS C0 hH (c_X6_lay l D cy ad _ _ zS31 _ zS32) kM_X6_149 kq_X6_lay rfl hl.1 rfl rfl rfl ⟨Nat.le_of_ble_eq_true rfl, Nat.le_of_ble_eq_true rfl⟩ (Nat.le_of_ble_eq_true rfl) dX6_image_8) hH (fun H locs hH => ?_)
  refine lv_aload_n hx hb dX6_image_11 rfl (lv_at hl 0 rfl) ?_
  refine lv_iconst (v := (1 : Int32)) hx hb dX6_image_12 (by decide) ?_
  refine zp C0 hH zK6 3 (by decide) zR0 rfl rfl (zOk_01 (by first | exact Or.inl rfl | exact Or.inr rfl | assumption)) zcn kF_X6_242 dX6_image_13 (fun H locs hH => ?_)
  refine lv_iconst (v := (1 : Int32)) hx hb dX6_image_16 (by decide) ?_
  exact zreti C0 hH dX6_image_17 (zfst hres) (zsnd hres)
set_option maxRecDepth 100000 in
set_option maxHeartbeats 4000000 in
theorem c_X6_undo (l : Launch) (D : va_G) (cy : Nat → ClassId) (ad : Nat → Nat) (M : zM) : Met l yX6_undo (Cond.code yX6_undo cX6_undo 1 (some .int) :: zG) ({ frames := 1, cells := 0, slots := 0, locals := 22 }) (zP D lyR cy ad [.ref (ad 0)] M) (zQi D lyR cy ad (f_X6_undo M).1 (f_X6_undo M).2) 0 0 (zA lyR ad) := by
  generalize hres : (f_X6_undo M) = res
  refine zMet (by decide) (Nat.le_of_ble_eq_true rfl) ?_
  intro p e s m args below meth c ls C0 hH hl
  obtain ⟨⟨hx, hb, hml, hown, hts⟩, -⟩ := id C0
  have hz : ∀ w ∈ zG, w.before args s = true := fun w h => hts w (List.mem_cons_of_mem _ h)
  have hl : lv_has ls 1 [(0, .ref (ad 0))] := hl
  have g0 := hH.many
  refine lv_aload_n hx hb dX6_undo_0 rfl (lv_at hl 0 rfl) ?_
  refine zgI C0 hH zK6 3 (by decide) zR0 rfl kF_X6_242 dX6_undo_1 ?_
  refine lv_if_ne (tgt := 13) hx hb dX6_undo_4 (by decide) (fun c4_1 => ?_) (fun c4_1 => ?_)
  · have hres := zif_neg c4_1 hres
    refine lv_aload_n hx hb dX6_undo_13 rfl (lv_at hl 0 rfl) ?_
    refine zgR C0 hH zK6 1 (by decide) _ zR0 rfl kF_X6_13 dX6_undo_14 ?_
    refine lv_aload_n hx hb dX6_undo_17 rfl (lv_at hl 0 rfl) ?_
    refine zgR C0 hH zK6 0 (by decide) _ zR0 rfl kF_X6_9 dX6_undo_18 ?_
    refine zcv (zrunS C0 hH (c_X6_lay l D cy ad _ _ zS32 _ zS31) kM_X6_149 kq_X6_lay rfl hl.1 rfl rfl rfl ⟨Nat.le_of_ble_eq_true rfl, Nat.le_of_ble_eq_true rfl⟩ (Nat.le_of_ble_eq_true rfl) dX6_undo_21) hH (fun H locs hH => ?_)
    refine lv_aload_n hx hb dX6_undo_24 rfl (lv_at hl 0 rfl) ?_
    refine zgR C0 hH zK6 0 (by decide) _ zR0 rfl kF_X6_9 dX6_undo_25 ?_
    refine lv_iconst (v := (0 : Int32)) hx hb dX6_undo_28 (by decide) ?_
    refine zaldK C0 hH zS31.is zS31.ln (k := 0) (by decide) (by unfold vp_in; decide) dX6_undo_29 ?_
    exact zreti C0 hH dX6_undo_30 (zfst hres) (zsnd hres)
  · have hres := zif_pos c4_1 hres
    refine lv_aload_n hx hb dX6_undo_7 rfl (lv_at hl 0 rfl) ?_
    refine lv_iconst (v := (3 : Int32)) hx hb dX6_undo_8 (by decide) ?_
    refine zci (zrunV C0 hH (c_X6_no l D cy ad _ _ (by decide)) kM_X6_85 zK6 kq_X6_no zR0 rfl hl.1 rfl rfl rfl ⟨Nat.le_of_ble_eq_true rfl, Nat.le_of_ble_eq_true rfl⟩ (Nat.le_of_ble_eq_true rfl) dX6_undo_9) hH (fun H locs hH => ?_)
    exact zreti C0 hH dX6_undo_12 (zfst hres) (zsnd hres)
set_option maxRecDepth 100000 in
set_option maxHeartbeats 4000000 in
theorem c_X6_tear (l : Launch) (D : va_G) (cy : Nat → ClassId) (ad : Nat → Nat) (M : zM) : Met l yX6_tear (Cond.code yX6_tear cX6_tear 2 (some .int) :: zG) ({ frames := 0, cells := 0, slots := 0, locals := 0 }) (zP D lyR cy ad [.ref (ad 0)] M) (zQi D lyR cy ad (f_X6_tear M).1 (f_X6_tear M).2) 0 0 (zA lyR ad) := by
  generalize hres : (f_X6_tear M) = res
  refine zMet (by decide) (Nat.le_of_ble_eq_true rfl) ?_
  intro p e s m args below meth c ls C0 hH hl
  obtain ⟨⟨hx, hb, hml, hown, hts⟩, -⟩ := id C0
  have hz : ∀ w ∈ zG, w.before args s = true := fun w h => hts w (List.mem_cons_of_mem _ h)
  have hl : lv_has ls 2 [(0, .ref (ad 0))] := hl
  have g0 := hH.many
  refine lv_aload_n hx hb dX6_tear_0 rfl (lv_at hl 0 rfl) ?_
  refine zgI C0 hH zK6 3 (by decide) zR0 rfl kF_X6_242 dX6_tear_1 ?_
  refine lv_if_eq (tgt := 11) hx hb dX6_tear_4 (by decide) (fun c4_1 => ?_) (fun c4_1 => ?_)
  · have hres := zif_pos c4_1 hres
    refine lv_iconst (v := (0 : Int32)) hx hb dX6_tear_11 (by decide) ?_
    refine lv_istore_n (lv' := [(1, _), (0, _)]) hx hb dX6_tear_12 rfl hl (by decide) rfl (fun ls hl => ?_)
    refine lv_aload_n hx hb dX6_tear_13 rfl (lv_at hl 1 rfl) ?_
    refine lv_iconst (v := (0 : Int32)) hx hb dX6_tear_14 (by decide) ?_
    refine zp C0 hH zK6 3 (by decide) zR0 rfl rfl (zOk_01 (by first | exact Or.inl rfl | exact Or.inr rfl | assumption)) zcn kF_X6_242 dX6_tear_15 (fun H locs hH => ?_)
    refine lv_iload_n hx hb dX6_tear_18 rfl (lv_at hl 0 rfl) ?_
    exact zreti C0 hH dX6_tear_19 (zfst hres) (zsnd hres)
  · have hres := zif_neg c4_1 hres
    refine lv_iconst (v := (1 : Int32)) hx hb dX6_tear_7 (by decide) ?_
    refine lv_goto (tgt := 12) hx hb dX6_tear_8 (by decide) ?_
    refine lv_istore_n (lv' := [(1, _), (0, _)]) hx hb dX6_tear_12 rfl hl (by decide) rfl (fun ls hl => ?_)
    refine lv_aload_n hx hb dX6_tear_13 rfl (lv_at hl 1 rfl) ?_
    refine lv_iconst (v := (0 : Int32)) hx hb dX6_tear_14 (by decide) ?_
    refine zp C0 hH zK6 3 (by decide) zR0 rfl rfl (zOk_01 (by first | exact Or.inl rfl | exact Or.inr rfl | assumption)) zcn kF_X6_242 dX6_tear_15 (fun H locs hH => ?_)
    refine lv_iload_n hx hb dX6_tear_18 rfl (lv_at hl 0 rfl) ?_
    exact zreti C0 hH dX6_tear_19 (zfst hres) (zsnd hres)
set_option maxRecDepth 100000 in
set_option maxHeartbeats 4000000 in
theorem c_X6_count (l : Launch) (D : va_G) (cy : Nat → ClassId) (ad : Nat → Nat) (M : zM) (p1 : Int32) : Met l yX6_count (Cond.code yX6_count cX6_count 2 (some .int) :: zG) ({ frames := 1, cells := 0, slots := 0, locals := 21 }) (zP D lyR cy ad [.ref (ad 0), .int p1] M) (zQi D lyR cy ad (f_X6_count p1 M).1 (f_X6_count p1 M).2) 0 0 (zA lyR ad) := by
  generalize hres : (f_X6_count p1 M) = res
  refine zMet (by decide) (Nat.le_of_ble_eq_true rfl) ?_
  intro p e s m args below meth c ls C0 hH hl
  obtain ⟨⟨hx, hb, hml, hown, hts⟩, -⟩ := id C0
  have hz : ∀ w ∈ zG, w.before args s = true := fun w h => hts w (List.mem_cons_of_mem _ h)
  have hl : lv_has ls 2 [(0, .ref (ad 0)), (1, .int p1)] := hl
  have g0 := hH.many
  refine lv_iload_n hx hb dX6_count_0 rfl (lv_at hl 1 rfl) ?_
  refine zcase hres (fun c1_1_0 hres => ?_) (fun c1_1_0 hres => ?_)
  · refine ztab (tgt := 48) hx hb c1_1_0 dX6_count_1 (by decide) (by decide) rfl (by decide) ?_
    refine lv_aload_n hx hb dX6_count_48 rfl (lv_at hl 0 rfl) ?_
    refine zgR C0 hH zK6 0 (by decide) _ zR0 rfl kF_X6_9 dX6_count_49 ?_
    refine lv_iconst (v := (0 : Int32)) hx hb dX6_count_52 (by decide) ?_
    refine zaldK C0 hH zS31.is zS31.ln (k := 0) (by decide) (by unfold vp_in; decide) dX6_count_53 ?_
    exact zreti C0 hH dX6_count_54 (zfst hres) (zsnd hres)
  · skip
    refine zcase hres (fun c1_1_1 hres => ?_) (fun c1_1_1 hres => ?_)
    · refine ztab (tgt := 55) hx hb c1_1_1 dX6_count_1 (by decide) (by decide) rfl (by decide) ?_
      refine lv_aload_n hx hb dX6_count_55 rfl (lv_at hl 0 rfl) ?_
      refine zgR C0 hH zK6 0 (by decide) _ zR0 rfl kF_X6_9 dX6_count_56 ?_
      refine lv_iconst (v := (3 : Int32)) hx hb dX6_count_59 (by decide) ?_
      refine zaldK C0 hH zS31.is zS31.ln (k := 3) (by decide) (by unfold vp_in; decide) dX6_count_60 ?_
      exact zreti C0 hH dX6_count_61 (zfst hres) (zsnd hres)
    · skip
      refine zcase hres (fun c1_1_2 hres => ?_) (fun c1_1_2 hres => ?_)
      · refine ztab (tgt := 62) hx hb c1_1_2 dX6_count_1 (by decide) (by decide) rfl (by decide) ?_
        refine lv_aload_n hx hb dX6_count_62 rfl (lv_at hl 0 rfl) ?_
        refine zgR C0 hH zK6 0 (by decide) _ zR0 rfl kF_X6_9 dX6_count_63 ?_
        refine lv_iconst (v := (4 : Int32)) hx hb dX6_count_66 (by decide) ?_
        refine zaldK C0 hH zS31.is zS31.ln (k := 4) (by decide) (by unfold vp_in; decide) dX6_count_67 ?_
        exact zreti C0 hH dX6_count_68 (zfst hres) (zsnd hres)
      · skip
        refine zcase hres (fun c1_1_3 hres => ?_) (fun c1_1_3 hres => ?_)
        · refine ztab (tgt := 69) hx hb c1_1_3 dX6_count_1 (by decide) (by decide) rfl (by decide) ?_
          refine lv_aload_n hx hb dX6_count_69 rfl (lv_at hl 0 rfl) ?_
          refine zgR C0 hH zK6 0 (by decide) _ zR0 rfl kF_X6_9 dX6_count_70 ?_
          refine lv_iconst (v := (5 : Int32)) hx hb dX6_count_73 (by decide) ?_
          refine zaldK C0 hH zS31.is zS31.ln (k := 5) (by decide) (by unfold vp_in; decide) dX6_count_74 ?_
          refine lv_if_ge (tgt := 82) hx hb dX6_count_75 (by decide) (fun c75_2 => ?_) (fun c75_2 => ?_)
          · have hres := zif_pos c75_2 hres
            refine lv_iconst (v := (1 : Int32)) hx hb dX6_count_82 (by decide) ?_
            exact zreti C0 hH dX6_count_83 (zfst hres) (zsnd hres)
          · have hres := zif_neg c75_2 hres
            refine lv_iconst (v := (0 : Int32)) hx hb dX6_count_78 (by decide) ?_
            refine lv_goto (tgt := 83) hx hb dX6_count_79 (by decide) ?_
            exact zreti C0 hH dX6_count_83 (zfst hres) (zsnd hres)
        · skip
          refine zcase hres (fun c1_1_4 hres => ?_) (fun c1_1_4 hres => ?_)
          · refine ztab (tgt := 84) hx hb c1_1_4 dX6_count_1 (by decide) (by decide) rfl (by decide) ?_
            refine lv_aload_n hx hb dX6_count_84 rfl (lv_at hl 0 rfl) ?_
            refine zgI C0 hH zK6 5 (by decide) zR0 rfl kF_X6_183 dX6_count_85 ?_
            exact zreti C0 hH dX6_count_88 (zfst hres) (zsnd hres)
          · skip
            refine zcase hres (fun c1_1_5 hres => ?_) (fun c1_1_5 hres => ?_)
            · refine ztab (tgt := 89) hx hb c1_1_5 dX6_count_1 (by decide) (by decide) rfl (by decide) ?_
              refine lv_aload_n hx hb dX6_count_89 rfl (lv_at hl 0 rfl) ?_
              refine zgR C0 hH zK6 0 (by decide) _ zR0 rfl kF_X6_9 dX6_count_90 ?_
              refine lv_iconst (v := (2 : Int32)) hx hb dX6_count_93 (by decide) ?_
              refine zaldK C0 hH zS31.is zS31.ln (k := 2) (by decide) (by unfold vp_in; decide) dX6_count_94 ?_
              exact zreti C0 hH dX6_count_95 (zfst hres) (zsnd hres)
            · skip
              refine zcase hres (fun c1_1_6 hres => ?_) (fun c1_1_6 hres => ?_)
              · refine ztab (tgt := 96) hx hb c1_1_6 dX6_count_1 (by decide) (by decide) rfl (by decide) ?_
                refine lv_aload_n hx hb dX6_count_96 rfl (lv_at hl 0 rfl) ?_
                refine zgR C0 hH zK6 0 (by decide) _ zR0 rfl kF_X6_9 dX6_count_97 ?_
                refine lv_iconst (v := (1 : Int32)) hx hb dX6_count_100 (by decide) ?_
                refine zaldK C0 hH zS31.is zS31.ln (k := 1) (by decide) (by unfold vp_in; decide) dX6_count_101 ?_
                exact zreti C0 hH dX6_count_102 (zfst hres) (zsnd hres)
              · skip
                refine zcase hres (fun c1_1_7 hres => ?_) (fun c1_1_7 hres => ?_)
                · refine ztab (tgt := 103) hx hb c1_1_7 dX6_count_1 (by decide) (by decide) rfl (by decide) ?_
                  refine lv_aload_n hx hb dX6_count_103 rfl (lv_at hl 0 rfl) ?_
                  refine zgR C0 hH zK6 0 (by decide) _ zR0 rfl kF_X6_9 dX6_count_104 ?_
                  refine lv_bipush (v := (13 : Int32)) hx hb dX6_count_107 (by decide) ?_
                  refine zaldK C0 hH zS31.is zS31.ln (k := 13) (by decide) (by unfold vp_in; decide) dX6_count_109 ?_
                  exact zreti C0 hH dX6_count_110 (zfst hres) (zsnd hres)
                · skip
                  refine ztabD (tgt := 111) hx hb [(0 : Int32), (1 : Int32), (2 : Int32), (3 : Int32), (4 : Int32), (5 : Int32), (6 : Int32), (7 : Int32)] (List.forall_mem_cons.mpr ⟨c1_1_0, (List.forall_mem_cons.mpr ⟨c1_1_1, (List.forall_mem_cons.mpr ⟨c1_1_2, (List.forall_mem_cons.mpr ⟨c1_1_3, (List.forall_mem_cons.mpr ⟨c1_1_4, (List.forall_mem_cons.mpr ⟨c1_1_5, (List.forall_mem_cons.mpr ⟨c1_1_6, (List.forall_mem_cons.mpr ⟨c1_1_7, (fun _ h => absurd h List.not_mem_nil)⟩)⟩)⟩)⟩)⟩)⟩)⟩)⟩) dX6_count_1 (by decide) (by decide) (by decide) ?_
                  refine lv_aload_n hx hb dX6_count_111 rfl (lv_at hl 0 rfl) ?_
                  refine lv_iconst (v := (0 : Int32)) hx hb dX6_count_112 (by decide) ?_
                  refine zci (zrunV C0 hH (c_X6_no l D cy ad _ _ (by decide)) kM_X6_85 zK6 kq_X6_no zR0 rfl hl.1 rfl rfl rfl ⟨Nat.le_of_ble_eq_true rfl, Nat.le_of_ble_eq_true rfl⟩ (Nat.le_of_ble_eq_true rfl) dX6_count_113) hH (fun H locs hH => ?_)
                  exact zreti C0 hH dX6_count_116 (zfst hres) (zsnd hres)
set_option maxRecDepth 100000 in
set_option maxHeartbeats 4000000 in
theorem c_X6_status (l : Launch) (D : va_G) (cy : Nat → ClassId) (ad : Nat → Nat) (M : zM) (p1 : Int32) : Met l yX6_status (Cond.code yX6_status cX6_status 4 (some .int) :: zG) ({ frames := 1, cells := 0, slots := 0, locals := 22 }) (zP D lyR cy ad [.ref (ad 0), .int p1] M) (zQi D lyR cy ad (f_X6_status p1 M).1 (f_X6_status p1 M).2) 0 0 (zA lyR ad) := by
  generalize hres : (f_X6_status p1 M) = res
  refine zMet (by decide) (Nat.le_of_ble_eq_true rfl) ?_
  intro p e s m args below meth c ls C0 hH hl
  obtain ⟨⟨hx, hb, hml, hown, hts⟩, -⟩ := id C0
  have hz : ∀ w ∈ zG, w.before args s = true := fun w h => hts w (List.mem_cons_of_mem _ h)
  have hl : lv_has ls 4 [(0, .ref (ad 0)), (1, .int p1)] := hl
  have g0 := hH.many
  have L20 : ∀ (n20 : Nat), ∀ (v2 : Int32) (v3 : Int32) (mm : zM) (H : Heap) (locs : List Loc) (ls : Array Slot), (zCt 7 n20 v3) → zH D lyR cy ad s.heap mm H locs → lv_has ls 4 [(0, .ref (ad 0)), (1, .int p1), (2, .int v2), (3, .int v3)] → f_X6_status_20 p1 n20 v2 v3 mm = res → W p l e { frames := 1, cells := 0, slots := 0, locals := 22 } s m args below meth c H locs 0 0 (MQ below (zQi D lyR cy ad res.1 res.2) args s 0 0 (zA lyR ad)) (F0 m 20 ls []) := by
    intro n20
    induction n20 with
    | zero =>
      intro v2 v3 mm H locs ls hct hH hl hres
      exfalso; exact hct.zero
    | succ n20 ih20 =>
      have J36 : ∀ (v3 : Int32) (s0 : Int32) (mm : zM) (H : Heap) (locs : List Loc) (ls : Array Slot), (zCt 7 (n20 + 1) v3) → (v3 < 7) → zH D lyR cy ad s.heap mm H locs → lv_has ls 4 [(0, .ref (ad 0)), (1, .int p1), (3, .int v3)] → f_X6_status_36 p1 (fun wv2 wv3 wmm => f_X6_status_20 p1 n20 wv2 wv3 wmm) v3 s0 mm = res → W p l e { frames := 1, cells := 0, slots := 0, locals := 22 } s m args below meth c H locs 0 0 (MQ below (zQi D lyR cy ad res.1 res.2) args s 0 0 (zA lyR ad)) (F0 m 36 ls [.int s0]) := by
        intro v3 s0 mm H locs ls hct hv hH hl hres
        refine lv_aload_n hx hb dX6_status_36 rfl (lv_at hl 0 rfl) ?_
        refine zgR C0 hH zK6 6 (by decide) _ zR0 rfl kF_X6_22 dX6_status_37 ?_
        refine lv_iload_n hx hb dX6_status_40 rfl (lv_at hl 2 rfl) ?_
        refine zald C0 hH (zR_i (by decide) (by decide)) rfl (by exact zin7.mpr (by obtain ⟨qa, qb, -⟩ := hct; clear hres hz hts; grind [f_X6_in, f_X6_isBlock, f_X6_isAhead, f_X6_isSheet])) dX6_status_41 ?_
        refine lv_goto (tgt := 46) hx hb dX6_status_42 (by decide) ?_
        refine lv_iadd hx hb dX6_status_46 ?_
        refine lv_istore_n (lv' := [(2, _), (0, _), (1, _), (3, _)]) hx hb dX6_status_47 rfl hl (by decide) rfl (fun ls hl => ?_)
        refine ziinc (lv' := [(3, _), (2, _), (0, _), (1, _)]) (k := 3) hx hb (1 : Int32) (by decide) dX6_status_48 hl rfl (by decide) rfl (fun ls hl => ?_)
        refine lv_goto (tgt := 20) hx hb dX6_status_51 (by decide) ?_
        exact ih20 _ _ _ _ _ _ (by first | exact zCt.start (by decide) (by decide) | exact zCt.begin (by decide) (by decide) (by decide) | exact zCt.step (m := 7) hct (by first | assumption | exact Int32.not_le.mp (by assumption) | exact Int32.lt_of_lt_of_le (Int32.not_le.mp (by assumption)) g0.2 | (clear hres hz hts; grind [f_X6_in, f_X6_isBlock, f_X6_isAhead, f_X6_isSheet])) (by decide)) hH (lv_sub hl [2, 3, 1, 0] rfl) hres
      intro v2 v3 mm H locs ls hct hH hl hres
      refine lv_iload_n hx hb dX6_status_20 rfl (lv_at hl 3 rfl) ?_
      refine lv_bipush (v := (7 : Int32)) hx hb dX6_status_21 (by decide) ?_
      refine lv_icmp_ge (tgt := 54) hx hb dX6_status_23 (by decide) (fun c23_5 => ?_) (fun c23_5 => ?_)
      · have hres := zif_pos c23_5 hres
        refine lv_iload_n hx hb dX6_status_54 rfl (lv_at hl 2 rfl) ?_
        exact zreti C0 hH dX6_status_55 (zfst hres) (zsnd hres)
      · have hres := zif_neg c23_5 hres
        refine lv_iload_n hx hb dX6_status_26 rfl (lv_at hl 2 rfl) ?_
        refine lv_iload_n hx hb dX6_status_27 rfl (lv_at hl 1 rfl) ?_
        refine lv_if_lt (tgt := 36) hx hb dX6_status_28 (by decide) (fun c28_6 => ?_) (fun c28_6 => ?_)
        · have hres := zif_pos c28_6 hres
          exact J36 _ _ _ _ _ _ (by assumption) (by first | assumption | exact Int32.not_le.mp (by assumption) | exact Int32.lt_of_lt_of_le (Int32.not_le.mp (by assumption)) g0.2 | (clear hres hz hts; grind [f_X6_in, f_X6_isBlock, f_X6_isAhead, f_X6_isSheet])) hH (lv_sub hl [0, 1, 3] rfl) hres
        · have hres := zif_neg c28_6 hres
          refine lv_iload_n hx hb dX6_status_31 rfl (lv_at hl 1 rfl) ?_
          refine lv_iload_n hx hb dX6_status_32 rfl (lv_at hl 3 rfl) ?_
          refine lv_icmp_ne (tgt := 45) hx hb dX6_status_33 (by decide) (fun c33_7 => ?_) (fun c33_7 => ?_)
          · have hres := zif_neg c33_7 hres
            refine lv_iconst (v := (0 : Int32)) hx hb dX6_status_45 (by decide) ?_
            refine lv_iadd hx hb dX6_status_46 ?_
            refine lv_istore_n (lv' := [(2, _), (0, _), (1, _), (3, _)]) hx hb dX6_status_47 rfl hl (by decide) rfl (fun ls hl => ?_)
            refine ziinc (lv' := [(3, _), (2, _), (0, _), (1, _)]) (k := 3) hx hb (1 : Int32) (by decide) dX6_status_48 hl rfl (by decide) rfl (fun ls hl => ?_)
            refine lv_goto (tgt := 20) hx hb dX6_status_51 (by decide) ?_
            exact ih20 _ _ _ _ _ _ (by first | exact zCt.start (by decide) (by decide) | exact zCt.begin (by decide) (by decide) (by decide) | exact zCt.step (m := 7) hct (by first | assumption | exact Int32.not_le.mp (by assumption) | exact Int32.lt_of_lt_of_le (Int32.not_le.mp (by assumption)) g0.2 | (clear hres hz hts; grind [f_X6_in, f_X6_isBlock, f_X6_isAhead, f_X6_isSheet])) (by decide)) hH (lv_sub hl [2, 3, 1, 0] rfl) hres
          · have hres := zif_pos c33_7 hres
            exact J36 _ _ _ _ _ _ (by assumption) (by first | assumption | exact Int32.not_le.mp (by assumption) | exact Int32.lt_of_lt_of_le (Int32.not_le.mp (by assumption)) g0.2 | (clear hres hz hts; grind [f_X6_in, f_X6_isBlock, f_X6_isAhead, f_X6_isSheet])) hH (lv_sub hl [0, 1, 3] rfl) hres
  refine lv_iload_n hx hb dX6_status_0 rfl (lv_at hl 1 rfl) ?_
  refine lv_iconst (v := (-1 : Int32)) hx hb dX6_status_1 (by decide) ?_
  refine lv_bipush (v := (6 : Int32)) hx hb dX6_status_2 (by decide) ?_
  refine zcz (zrunS C0 hH (c_X6_in l D cy ad _ _ _ _) kM_X6_57 kq_X6_in rfl hl.1 rfl rfl rfl ⟨Nat.le_of_ble_eq_true rfl, Nat.le_of_ble_eq_true rfl⟩ (Nat.le_of_ble_eq_true rfl) dX6_status_4) hH (fun H locs hH h01_1 => ?_)
  refine lv_if_ne (tgt := 16) hx hb dX6_status_7 (by decide) (fun c7_3 => ?_) (fun c7_3 => ?_)
  · have hres := zif_neg c7_3 hres
    refine lv_iconst (v := (0 : Int32)) hx hb dX6_status_16 (by decide) ?_
    refine lv_istore_n (lv' := [(2, _), (0, _), (1, _)]) hx hb dX6_status_17 rfl hl (by decide) rfl (fun ls hl => ?_)
    refine lv_iconst (v := (0 : Int32)) hx hb dX6_status_18 (by decide) ?_
    refine lv_istore_n (lv' := [(3, _), (2, _), (0, _), (1, _)]) hx hb dX6_status_19 rfl hl (by decide) rfl (fun ls hl => ?_)
    exact L20 (8) _ _ _ _ _ _ (by first | exact zCt.start (by decide) (by decide) | exact zCt.begin (by decide) (by decide) (by decide) | exact zCt.step (m := 7) hct (by first | assumption | exact Int32.not_le.mp (by assumption) | exact Int32.lt_of_lt_of_le (Int32.not_le.mp (by assumption)) g0.2 | (clear hres hz hts; grind [f_X6_in, f_X6_isBlock, f_X6_isAhead, f_X6_isSheet])) (by decide)) hH (lv_sub hl [2, 3, 1, 0] rfl) hres
  · have hres := zif_pos c7_3 hres
    refine lv_aload_n hx hb dX6_status_10 rfl (lv_at hl 0 rfl) ?_
    refine lv_iconst (v := (0 : Int32)) hx hb dX6_status_11 (by decide) ?_
    refine zci (zrunV C0 hH (c_X6_no l D cy ad _ _ (by decide)) kM_X6_85 zK6 kq_X6_no zR0 rfl hl.1 rfl rfl rfl ⟨Nat.le_of_ble_eq_true rfl, Nat.le_of_ble_eq_true rfl⟩ (Nat.le_of_ble_eq_true rfl) dX6_status_12) hH (fun H locs hH => ?_)
    exact zreti C0 hH dX6_status_15 (zfst hres) (zsnd hres)
