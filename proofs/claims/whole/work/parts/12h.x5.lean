set_option maxRecDepth 100000 in
set_option maxHeartbeats 4000000 in
theorem c_X5_copy (l : Launch) (D : va_G) (cy : Nat → ClassId) (ad : Nat → Nat) (M : zM) (p1 : Int32) (p2 : Int32) (p3 : Int32) (p4 : Int32) (p5 : Int32) : Met l yX5_copy (Cond.code yX5_copy cX5_copy 8 (some .int) :: zG) ({ frames := 2, cells := 0, slots := 0, locals := 44 }) (zP D lyC cy ad [.ref (ad 0), .int p1, .int p2, .int p3, .int p4, .int p5] M) (zQi D lyC cy ad (f_X5_copy p1 p2 p3 p4 p5 M).1 (f_X5_copy p1 p2 p3 p4 p5 M).2) 0 0 (zA lyC ad) := by
  generalize hres : (f_X5_copy p1 p2 p3 p4 p5 M) = res
  refine zMet (by decide) (Nat.le_of_ble_eq_true rfl) ?_
  intro p e s m args below meth c ls C0 hH hl
  obtain ⟨⟨hx, hb, hml, hown, hts⟩, -⟩ := id C0
  have hz : ∀ w ∈ zG, w.before args s = true := fun w h => hts w (List.mem_cons_of_mem _ h)
  have hl : lv_has ls 8 [(0, .ref (ad 0)), (1, .int p1), (2, .int p2), (3, .int p3), (4, .int p4), (5, .int p5)] := hl
  have J18 : ∀ (mm : zM) (H : Heap) (locs : List Loc) (ls : Array Slot), zH D lyC cy ad s.heap mm H locs → lv_has ls 8 [(0, .ref (ad 0))] → f_X5_copy_18 p1 p2 p3 p4 p5 mm = res → W p l e { frames := 2, cells := 0, slots := 0, locals := 44 } s m args below meth c H locs 0 0 (MQ below (zQi D lyC cy ad res.1 res.2) args s 0 0 (zA lyC ad)) (F0 m 18 ls []) := by
    intro mm H locs ls hH hl hres
    refine lv_aload_n hx hb dX5_copy_18 rfl (lv_at hl 0 rfl) ?_
    refine lv_ldc (v := (-1000000001 : Int32)) hx hb hown (hz _ kK_X5_58) dX5_copy_19 ?_
    refine zci (zrunV C0 hH (c_X5_finding l D cy ad _ _) kM_X5_59 zK5 kq_X5_finding zX0 rfl hl.1 rfl rfl rfl ⟨Nat.le_of_ble_eq_true rfl, Nat.le_of_ble_eq_true rfl⟩ (Nat.le_of_ble_eq_true rfl) dX5_copy_21) hH (fun H locs hH => ?_)
    exact zreti C0 hH dX5_copy_24 (zfst hres) (zsnd hres)
  have J57 : ∀ (mm : zM) (H : Heap) (locs : List Loc) (ls : Array Slot), zH D lyC cy ad s.heap mm H locs → lv_has ls 8 [(0, .ref (ad 0))] → f_X5_copy_57 p1 p2 p3 p4 p5 mm = res → W p l e { frames := 2, cells := 0, slots := 0, locals := 44 } s m args below meth c H locs 0 0 (MQ below (zQi D lyC cy ad res.1 res.2) args s 0 0 (zA lyC ad)) (F0 m 57 ls []) := by
    intro mm H locs ls hH hl hres
    refine lv_aload_n hx hb dX5_copy_57 rfl (lv_at hl 0 rfl) ?_
    refine lv_ldc (v := (-1000000006 : Int32)) hx hb hown (hz _ kK_X5_169) dX5_copy_58 ?_
    refine zci (zrunV C0 hH (c_X5_finding l D cy ad _ _) kM_X5_59 zK5 kq_X5_finding zX0 rfl hl.1 rfl rfl rfl ⟨Nat.le_of_ble_eq_true rfl, Nat.le_of_ble_eq_true rfl⟩ (Nat.le_of_ble_eq_true rfl) dX5_copy_60) hH (fun H locs hH => ?_)
    exact zreti C0 hH dX5_copy_63 (zfst hres) (zsnd hres)
  have J107 : ∀ (mm : zM) (H : Heap) (locs : List Loc) (ls : Array Slot), zH D lyC cy ad s.heap mm H locs → lv_has ls 8 [(0, .ref (ad 0))] → f_X5_copy_107 p1 p2 p3 p4 p5 mm = res → W p l e { frames := 2, cells := 0, slots := 0, locals := 44 } s m args below meth c H locs 0 0 (MQ below (zQi D lyC cy ad res.1 res.2) args s 0 0 (zA lyC ad)) (F0 m 107 ls []) := by
    intro mm H locs ls hH hl hres
    refine lv_aload_n hx hb dX5_copy_107 rfl (lv_at hl 0 rfl) ?_
    refine lv_ldc (v := (-1000000001 : Int32)) hx hb hown (hz _ kK_X5_58) dX5_copy_108 ?_
    refine zci (zrunV C0 hH (c_X5_finding l D cy ad _ _) kM_X5_59 zK5 kq_X5_finding zX0 rfl hl.1 rfl rfl rfl ⟨Nat.le_of_ble_eq_true rfl, Nat.le_of_ble_eq_true rfl⟩ (Nat.le_of_ble_eq_true rfl) dX5_copy_110) hH (fun H locs hH => ?_)
    exact zreti C0 hH dX5_copy_113 (zfst hres) (zsnd hres)
  refine lv_iload_n hx hb dX5_copy_0 rfl (lv_at hl 1 rfl) ?_
  refine lv_iconst (v := (0 : Int32)) hx hb dX5_copy_1 (by decide) ?_
  refine lv_iconst (v := (3 : Int32)) hx hb dX5_copy_2 (by decide) ?_
  refine zcz (zrunS C0 hH (c_X5_within l D cy ad _ _ _ _) kM_X5_54 kq_X5_within rfl hl.1 rfl rfl rfl ⟨Nat.le_of_ble_eq_true rfl, Nat.le_of_ble_eq_true rfl⟩ (Nat.le_of_ble_eq_true rfl) dX5_copy_3) hH (fun H locs hH h01_1 => ?_)
  refine lv_if_eq (tgt := 18) hx hb dX5_copy_6 (by decide) (fun c6_3 => ?_) (fun c6_3 => ?_)
  · have hres := zif_pos c6_3 hres
    exact J18 _ _ _ _ hH (lv_sub hl [0] rfl) hres
  · have hres := zif_neg c6_3 hres
    refine lv_iload_n hx hb dX5_copy_9 rfl (lv_at hl 3 rfl) ?_
    refine lv_iconst (v := (0 : Int32)) hx hb dX5_copy_10 (by decide) ?_
    refine lv_iconst (v := (3 : Int32)) hx hb dX5_copy_11 (by decide) ?_
    refine zcz (zrunS C0 hH (c_X5_within l D cy ad _ _ _ _) kM_X5_54 kq_X5_within rfl hl.1 rfl rfl rfl ⟨Nat.le_of_ble_eq_true rfl, Nat.le_of_ble_eq_true rfl⟩ (Nat.le_of_ble_eq_true rfl) dX5_copy_12) hH (fun H locs hH h01_4 => ?_)
    refine lv_if_ne (tgt := 25) hx hb dX5_copy_15 (by decide) (fun c15_6 => ?_) (fun c15_6 => ?_)
    · have hres := zif_neg c15_6 hres
      refine lv_aload_n hx hb dX5_copy_25 rfl (lv_at hl 0 rfl) ?_
      refine zgR C0 hH zK5 7 (by decide) _ zX0 rfl kF_X5_45 dX5_copy_26 ?_
      refine lv_iload_n hx hb dX5_copy_29 rfl (lv_at hl 1 rfl) ?_
      refine zqldS C0 hH (by exact zin4.mpr (by have q0 := hH.row zRow1; have q1 := hH.bkl zBk43; have q2 := hH.bkn zBk43; clear hres; grind [f_X5_within, f_X2_has, slot_X1])) dX5_copy_30 (fun hb7 => ?_)
      refine lv_astore (lv' := [(6, _), (0, _), (1, _), (2, _), (3, _), (4, _), (5, _)]) hx hb dX5_copy_31 hl (by decide) rfl (fun ls hl => ?_)
      refine lv_aload_n hx hb dX5_copy_33 rfl (lv_at hl 1 rfl) ?_
      refine zgR C0 hH zK5 7 (by decide) _ zX0 rfl kF_X5_45 dX5_copy_34 ?_
      refine lv_iload_n hx hb dX5_copy_37 rfl (lv_at hl 4 rfl) ?_
      refine zqldS C0 hH (by exact zin4.mpr (by have q0 := hH.row zRow1; have q1 := hH.bkl zBk43; have q2 := hH.bkn zBk43; clear hres; grind [f_X5_within, f_X2_has, slot_X1])) dX5_copy_38 (fun hb8 => ?_)
      refine lv_astore (lv' := [(7, _), (6, _), (0, _), (1, _), (2, _), (3, _), (4, _), (5, _)]) hx hb dX5_copy_39 hl (by decide) rfl (fun ls hl => ?_)
      refine lv_aload hx hb dX5_copy_41 (lv_at hl 1 rfl) ?_
      refine zcz (zrunV C0 hH (c_X3_isMissing l D cy ad _ _ hb7) kM_X5_165 zK3 kq_X3_isMissing hb7.is rfl hl.1 rfl rfl rfl ⟨Nat.le_of_ble_eq_true rfl, Nat.le_of_ble_eq_true rfl⟩ (Nat.le_of_ble_eq_true rfl) dX5_copy_43) hH (fun H locs hH h01_9 => ?_)
      refine lv_if_ne (tgt := 57) hx hb dX5_copy_46 (by decide) (fun c46_11 => ?_) (fun c46_11 => ?_)
      · have hres := zif_neg c46_11 hres
        exact J57 _ _ _ _ hH (lv_sub hl [2] rfl) hres
      · have hres := zif_pos c46_11 hres
        refine lv_aload hx hb dX5_copy_49 (lv_at hl 0 rfl) ?_
        refine zcz (zrunV C0 hH (c_X3_isMissing l D cy ad _ _ hb8) kM_X5_165 zK3 kq_X3_isMissing hb8.is rfl hl.1 rfl rfl rfl ⟨Nat.le_of_ble_eq_true rfl, Nat.le_of_ble_eq_true rfl⟩ (Nat.le_of_ble_eq_true rfl) dX5_copy_51) hH (fun H locs hH h01_12 => ?_)
        refine lv_if_eq (tgt := 64) hx hb dX5_copy_54 (by decide) (fun c54_14 => ?_) (fun c54_14 => ?_)
        · have hres := zif_pos c54_14 hres
          refine lv_aload hx hb dX5_copy_64 (lv_at hl 1 rfl) ?_
          refine zgIN C0 hH zK3 1 (by decide) hb7.is rfl kN_X5_204 dX5_copy_66 ?_
          refine lv_aload hx hb dX5_copy_69 (lv_at hl 0 rfl) ?_
          refine zgIN C0 hH zK3 1 (by decide) hb8.is rfl kN_X5_204 dX5_copy_71 ?_
          refine lv_icmp_eq (tgt := 84) hx hb dX5_copy_74 (by decide) (fun c74_15 => ?_) (fun c74_15 => ?_)
          · have hres := zif_pos c74_15 hres
            refine lv_aload hx hb dX5_copy_84 (lv_at hl 1 rfl) ?_
            refine lv_iload_n hx hb dX5_copy_86 rfl (lv_at hl 4 rfl) ?_
            refine lv_iload hx hb dX5_copy_87 (lv_at hl 7 rfl) ?_
            refine zcz (zrunV C0 hH (c_X3_hasPart l D cy ad _ _ hb7 _ _) kM_X5_207 zK3 kq_X3_hasPart hb7.is rfl hl.1 rfl rfl rfl ⟨Nat.le_of_ble_eq_true rfl, Nat.le_of_ble_eq_true rfl⟩ (Nat.le_of_ble_eq_true rfl) dX5_copy_89) hH (fun H locs hH h01_16 => ?_)
            refine lv_if_eq (tgt := 107) hx hb dX5_copy_92 (by decide) (fun c92_18 => ?_) (fun c92_18 => ?_)
            · have hres := zif_pos c92_18 hres
              exact J107 _ _ _ _ hH (lv_sub hl [2] rfl) hres
            · have hres := zif_neg c92_18 hres
              refine lv_aload hx hb dX5_copy_95 (lv_at hl 0 rfl) ?_
              refine lv_iload hx hb dX5_copy_97 (lv_at hl 6 rfl) ?_
              refine lv_iload hx hb dX5_copy_99 (lv_at hl 7 rfl) ?_
              refine zcz (zrunV C0 hH (c_X3_hasPart l D cy ad _ _ hb8 _ _) kM_X5_207 zK3 kq_X3_hasPart hb8.is rfl hl.1 rfl rfl rfl ⟨Nat.le_of_ble_eq_true rfl, Nat.le_of_ble_eq_true rfl⟩ (Nat.le_of_ble_eq_true rfl) dX5_copy_101) hH (fun H locs hH h01_19 => ?_)
              refine lv_if_ne (tgt := 114) hx hb dX5_copy_104 (by decide) (fun c104_21 => ?_) (fun c104_21 => ?_)
              · have hres := zif_neg c104_21 hres
                refine lv_aload hx hb dX5_copy_114 (lv_at hl 1 rfl) ?_
                refine zgRN C0 hH zK3 0 (by decide) _ hb7.is rfl kN_X5_172 dX5_copy_116 ?_
                refine lv_iload_n hx hb dX5_copy_119 rfl (lv_at hl 4 rfl) ?_
                refine lv_aload hx hb dX5_copy_120 (lv_at hl 0 rfl) ?_
                refine zgRN C0 hH zK3 0 (by decide) _ hb8.is rfl kN_X5_172 dX5_copy_122 ?_
                refine lv_iload hx hb dX5_copy_125 (lv_at hl 6 rfl) ?_
                refine lv_iload hx hb dX5_copy_127 (lv_at hl 7 rfl) ?_
                refine zcpyl C0 hH hl.1 kM_X5_210 hb7.arr hb7.ln hb8.arr hb8.ln (by clear hres; grind [f_X3_hasPart]) (by clear hres; grind [f_X3_hasPart]) (by clear hres; grind [f_X3_hasPart]) (by exact zcp40h (hH.sh hb7).2 (hp_X3 (by assumption))) (by exact zcp40h (hH.sh hb8).2 (hp_X3 (by assumption))) (by exact Nat.le_of_ble_eq_true rfl) (by exact Nat.le_of_ble_eq_true rfl) dX5_copy_129 (fun H locs hH => ?_)
                refine lv_iload hx hb dX5_copy_132 (lv_at hl 7 rfl) ?_
                exact zreti C0 hH dX5_copy_134 (zfst hres) (zsnd hres)
              · have hres := zif_pos c104_21 hres
                exact J107 _ _ _ _ hH (lv_sub hl [2] rfl) hres
          · have hres := zif_neg c74_15 hres
            refine lv_aload_n hx hb dX5_copy_77 rfl (lv_at hl 2 rfl) ?_
            refine lv_ldc (v := (-1000000003 : Int32)) hx hb hown (hz _ kK_X5_117) dX5_copy_78 ?_
            refine zci (zrunV C0 hH (c_X5_finding l D cy ad _ _) kM_X5_59 zK5 kq_X5_finding zX0 rfl hl.1 rfl rfl rfl ⟨Nat.le_of_ble_eq_true rfl, Nat.le_of_ble_eq_true rfl⟩ (Nat.le_of_ble_eq_true rfl) dX5_copy_80) hH (fun H locs hH => ?_)
            exact zreti C0 hH dX5_copy_83 (zfst hres) (zsnd hres)
        · have hres := zif_neg c54_14 hres
          exact J57 _ _ _ _ hH (lv_sub hl [2] rfl) hres
    · have hres := zif_pos c15_6 hres
      exact J18 _ _ _ _ hH (lv_sub hl [0] rfl) hres
set_option maxRecDepth 100000 in
set_option maxHeartbeats 4000000 in
theorem c_X5_draws (l : Launch) (D : va_G) (cy : Nat → ClassId) (ad : Nat → Nat) (M : zM) (p1 : Int32) : Met l yX5_draws (Cond.code yX5_draws cX5_draws 8 (some .int) :: zG) ({ frames := 25, cells := 0, slots := 0, locals := 915 }) (zP D lyC cy ad [.ref (ad 0), .int p1] M) (zQi D lyC cy ad (f_X5_draws p1 M).1 (f_X5_draws p1 M).2) 0 0 (zA lyC ad) := by
  generalize hres : (f_X5_draws p1 M) = res
  refine zMet (by decide) (Nat.le_of_ble_eq_true rfl) ?_
  intro p e s m args below meth c ls C0 hH hl
  obtain ⟨⟨hx, hb, hml, hown, hts⟩, -⟩ := id C0
  have hz : ∀ w ∈ zG, w.before args s = true := fun w h => hts w (List.mem_cons_of_mem _ h)
  have hl : lv_has ls 8 [(0, .ref (ad 0)), (1, .int p1)] := hl
  have L51 : ∀ (n51 : Nat), ∀ (c2 : Nat) (v3 : Int32) (v4 : Int32) (v5 : Int32) (mm : zM) (hc2 : zSh c2) (H : Heap) (locs : List Loc) (ls : Array Slot), (zCt 40 n51 v5) → zH D lyC cy ad s.heap mm H locs → lv_has ls 8 [(0, .ref (ad 0)), (2, .ref (ad c2)), (3, .int v3), (4, .int v4), (5, .int v5)] → f_X5_draws_51 p1 n51 c2 v3 v4 v5 mm = res → W p l e { frames := 25, cells := 0, slots := 0, locals := 915 } s m args below meth c H locs 0 0 (MQ below (zQi D lyC cy ad res.1 res.2) args s 0 0 (zA lyC ad)) (F0 m 51 ls []) := by
    intro n51
    induction n51 with
    | zero =>
      intro c2 v3 v4 v5 mm hc2 H locs ls hct hH hl hres
      exfalso; exact hct.zero
    | succ n51 ih51 =>
      intro c2 v3 v4 v5 mm hc2 H locs ls hct hH hl hres
      have g0 := hH.sh hc2
      refine lv_iload hx hb dX5_draws_51 (lv_at hl 4 rfl) ?_
      refine lv_aload_n hx hb dX5_draws_53 rfl (lv_at hl 1 rfl) ?_
      refine zgIN C0 hH zK3 2 (by decide) hc2.is rfl kN_X5_170 dX5_draws_54 ?_
      refine lv_icmp_ge (tgt := 124) hx hb dX5_draws_57 (by decide) (fun c57_11 => ?_) (fun c57_11 => ?_)
      · have hres := zif_pos c57_11 hres
        refine lv_aload_n hx hb dX5_draws_124 rfl (lv_at hl 0 rfl) ?_
        refine zgR C0 hH zK5 0 (by decide) _ zX0 rfl kF_X5_12 dX5_draws_125 ?_
        refine lv_iload_n hx hb dX5_draws_128 rfl (lv_at hl 2 rfl) ?_
        refine zpN C0 hH zK2 3 (by decide) zRow1.is rfl rfl zOk_int zcn kN_X5_126 dX5_draws_129 (fun H locs hH => ?_)
        refine lv_iload hx hb dX5_draws_132 (lv_at hl 3 rfl) ?_
        exact zreti C0 hH dX5_draws_134 (zfst hres) (zsnd hres)
      · have hres := zif_neg c57_11 hres
        refine lv_aload_n hx hb dX5_draws_60 rfl (lv_at hl 1 rfl) ?_
        refine zgRN C0 hH zK3 0 (by decide) _ hc2.is rfl kN_X5_172 dX5_draws_61 ?_
        refine lv_iload hx hb dX5_draws_64 (lv_at hl 4 rfl) ?_
        refine zlld C0 hH hc2.arr hc2.ln (by exact zin40.mpr (by have q0 := hH.row zRow1; have q1 := hH.bkl zBk43; have q2 := hH.bkn zBk43; have q3 := hH.sh hc2; obtain ⟨qa, qb, -⟩ := hct; clear hres; grind [f_X5_within, f_X2_has, slot_X1])) dX5_draws_66 ?_
        refine lv_lstore (lv' := [(6, _), (0, _), (2, _), (3, _), (4, _), (5, _)]) hx hb dX5_draws_67 hl (by decide) rfl (fun ls hl => ?_)
        refine lv_lload hx hb dX5_draws_69 (lv_at hl 0 rfl) ?_
        refine lv_ldc2 (v := (-99 : Int64)) hx hb hown (hz _ kK_X5_216) dX5_draws_71 ?_
        refine W.lcmp hx hb dX5_draws_74 ?_
        refine lv_if_lt (tgt := 118) hx hb dX5_draws_75 (by decide) (fun c75_14 => ?_) (fun c75_14 => ?_)
        · have hres := zif_pos c75_14 hres
          refine ziinc (lv' := [(5, _), (6, _), (0, _), (2, _), (3, _), (4, _)]) (k := 5) hx hb (1 : Int32) (by decide) dX5_draws_118 hl rfl (by decide) rfl (fun ls hl => ?_)
          refine lv_goto (tgt := 51) hx hb dX5_draws_121 (by decide) ?_
          exact ih51 _ _ _ _ _ hc2 _ _ _ (by first | exact zCt.start (by decide) (by decide) | exact zCt.step (m := 40) hct (by clear hres; grind [f_X5_within, f_X2_has, slot_X1]) (by decide)) hH (lv_sub hl [2, 3, 4, 5, 0] rfl) hres
        · have hres := zif_neg c75_14 hres
          refine lv_lload hx hb dX5_draws_78 (lv_at hl 0 rfl) ?_
          refine lv_ldc2 (v := (99 : Int64)) hx hb hown (hz _ kK_X5_218) dX5_draws_80 ?_
          refine W.lcmp hx hb dX5_draws_83 ?_
          refine lv_if_gt (tgt := 118) hx hb dX5_draws_84 (by decide) (fun c84_15 => ?_) (fun c84_15 => ?_)
          · have hres := zif_pos c84_15 hres
            refine ziinc (lv' := [(5, _), (6, _), (0, _), (2, _), (3, _), (4, _)]) (k := 5) hx hb (1 : Int32) (by decide) dX5_draws_118 hl rfl (by decide) rfl (fun ls hl => ?_)
            refine lv_goto (tgt := 51) hx hb dX5_draws_121 (by decide) ?_
            exact ih51 _ _ _ _ _ hc2 _ _ _ (by first | exact zCt.start (by decide) (by decide) | exact zCt.step (m := 40) hct (by clear hres; grind [f_X5_within, f_X2_has, slot_X1]) (by decide)) hH (lv_sub hl [2, 3, 4, 5, 0] rfl) hres
          · have hres := zif_neg c84_15 hres
            refine lv_aload_n hx hb dX5_draws_87 rfl (lv_at hl 1 rfl) ?_
            refine zgR C0 hH zK5 0 (by decide) _ zX0 rfl kF_X5_12 dX5_draws_88 ?_
            refine lv_lload hx hb dX5_draws_91 (lv_at hl 0 rfl) ?_
            refine lv_l2i hx hb dX5_draws_93 rfl ?_
            refine zpN C0 hH zK2 3 (by decide) zRow1.is rfl rfl zOk_int zcn kN_X5_126 dX5_draws_94 (fun H locs hH => ?_)
            refine lv_aload_n hx hb dX5_draws_97 rfl (lv_at hl 1 rfl) ?_
            refine zgR C0 hH zK5 0 (by decide) _ zX0 rfl kF_X5_12 dX5_draws_98 ?_
            refine zcv (zrunV C0 hH (c_X2_tick l D cy ad _ _ zRow1) kM_X5_129 zK2 kq_X2_tick zRow1.is rfl hl.1 rfl rfl rfl ⟨Nat.le_of_ble_eq_true rfl, Nat.le_of_ble_eq_true rfl⟩ (Nat.le_of_ble_eq_true rfl) dX5_draws_101) hH (fun H locs hH => ?_)
            refine lv_aload_n hx hb dX5_draws_104 rfl (lv_at hl 1 rfl) ?_
            refine zgR C0 hH zK5 3 (by decide) _ zX0 rfl kF_X5_25 dX5_draws_105 ?_
            refine lv_aload_n hx hb dX5_draws_108 rfl (lv_at hl 1 rfl) ?_
            refine zgR C0 hH zK5 0 (by decide) _ zX0 rfl kF_X5_12 dX5_draws_109 ?_
            refine zcv (zrunV C0 hH (c_X1_enter l D cy ad _ _ zBk43 _ zRow1) kM_X5_132 zK1 kq_X1_enter zBk43.is rfl hl.1 rfl rfl rfl ⟨Nat.le_of_ble_eq_true rfl, Nat.le_of_ble_eq_true rfl⟩ (Nat.le_of_ble_eq_true rfl) dX5_draws_112) hH (fun H locs hH => ?_)
            refine ziinc (lv' := [(4, _), (6, _), (0, _), (2, _), (3, _), (5, _)]) (k := 4) hx hb (1 : Int32) (by decide) dX5_draws_115 hl rfl (by decide) rfl (fun ls hl => ?_)
            refine ziinc (lv' := [(5, _), (4, _), (6, _), (0, _), (2, _), (3, _)]) (k := 5) hx hb (1 : Int32) (by decide) dX5_draws_118 hl rfl (by decide) rfl (fun ls hl => ?_)
            refine lv_goto (tgt := 51) hx hb dX5_draws_121 (by decide) ?_
            exact ih51 _ _ _ _ _ hc2 _ _ _ (by first | exact zCt.start (by decide) (by decide) | exact zCt.step (m := 40) hct (by clear hres; grind [f_X5_within, f_X2_has, slot_X1]) (by decide)) hH (lv_sub hl [3, 4, 5, 1, 0] rfl) hres
  refine lv_iload_n hx hb dX5_draws_0 rfl (lv_at hl 1 rfl) ?_
  refine lv_iconst (v := (0 : Int32)) hx hb dX5_draws_1 (by decide) ?_
  refine lv_iconst (v := (3 : Int32)) hx hb dX5_draws_2 (by decide) ?_
  refine zcz (zrunS C0 hH (c_X5_within l D cy ad _ _ _ _) kM_X5_54 kq_X5_within rfl hl.1 rfl rfl rfl ⟨Nat.le_of_ble_eq_true rfl, Nat.le_of_ble_eq_true rfl⟩ (Nat.le_of_ble_eq_true rfl) dX5_draws_3) hH (fun H locs hH h01_1 => ?_)
  refine lv_if_ne (tgt := 16) hx hb dX5_draws_6 (by decide) (fun c6_3 => ?_) (fun c6_3 => ?_)
  · have hres := zif_neg c6_3 hres
    refine lv_aload_n hx hb dX5_draws_16 rfl (lv_at hl 0 rfl) ?_
    refine zgR C0 hH zK5 7 (by decide) _ zX0 rfl kF_X5_45 dX5_draws_17 ?_
    refine lv_iload_n hx hb dX5_draws_20 rfl (lv_at hl 1 rfl) ?_
    refine zqldS C0 hH (by exact zin4.mpr (by have q0 := hH.row zRow1; have q1 := hH.bkl zBk43; have q2 := hH.bkn zBk43; clear hres; grind [f_X5_within, f_X2_has, slot_X1])) dX5_draws_21 (fun hb4 => ?_)
    refine lv_astore_n (lv' := [(2, _), (0, _), (1, _)]) hx hb dX5_draws_22 rfl hl (by decide) rfl (fun ls hl => ?_)
    refine lv_aload_n hx hb dX5_draws_23 rfl (lv_at hl 0 rfl) ?_
    refine zcz (zrunV C0 hH (c_X3_isMissing l D cy ad _ _ hb4) kM_X5_165 zK3 kq_X3_isMissing hb4.is rfl hl.1 rfl rfl rfl ⟨Nat.le_of_ble_eq_true rfl, Nat.le_of_ble_eq_true rfl⟩ (Nat.le_of_ble_eq_true rfl) dX5_draws_24) hH (fun H locs hH h01_5 => ?_)
    refine lv_if_eq (tgt := 37) hx hb dX5_draws_27 (by decide) (fun c27_7 => ?_) (fun c27_7 => ?_)
    · have hres := zif_pos c27_7 hres
      refine lv_aload_n hx hb dX5_draws_37 rfl (lv_at hl 1 rfl) ?_
      refine zgR C0 hH zK5 0 (by decide) _ zX0 rfl kF_X5_12 dX5_draws_38 ?_
      refine zgIN C0 hH zK2 3 (by decide) zRow1.is rfl kN_X5_126 dX5_draws_41 ?_
      refine lv_istore_n (lv' := [(3, _), (2, _), (0, _), (1, _)]) hx hb dX5_draws_44 rfl hl (by decide) rfl (fun ls hl => ?_)
      refine lv_iconst (v := (0 : Int32)) hx hb dX5_draws_45 (by decide) ?_
      refine lv_istore (lv' := [(4, _), (3, _), (2, _), (0, _), (1, _)]) hx hb dX5_draws_46 hl (by decide) rfl (fun ls hl => ?_)
      refine lv_iconst (v := (0 : Int32)) hx hb dX5_draws_48 (by decide) ?_
      refine lv_istore (lv' := [(5, _), (4, _), (3, _), (2, _), (0, _), (1, _)]) hx hb dX5_draws_49 hl (by decide) rfl (fun ls hl => ?_)
      exact L51 (41) _ _ _ _ _ hb4 _ _ _ (by first | exact zCt.start (by decide) (by decide) | exact zCt.step (m := 40) hct (by clear hres; grind [f_X5_within, f_X2_has, slot_X1]) (by decide)) hH (lv_sub hl [4, 3, 2, 1, 0] rfl) hres
    · have hres := zif_neg c27_7 hres
      refine lv_aload_n hx hb dX5_draws_30 rfl (lv_at hl 1 rfl) ?_
      refine lv_ldc (v := (-1000000006 : Int32)) hx hb hown (hz _ kK_X5_169) dX5_draws_31 ?_
      refine zci (zrunV C0 hH (c_X5_finding l D cy ad _ _) kM_X5_59 zK5 kq_X5_finding zX0 rfl hl.1 rfl rfl rfl ⟨Nat.le_of_ble_eq_true rfl, Nat.le_of_ble_eq_true rfl⟩ (Nat.le_of_ble_eq_true rfl) dX5_draws_33) hH (fun H locs hH => ?_)
      exact zreti C0 hH dX5_draws_36 (zfst hres) (zsnd hres)
  · have hres := zif_pos c6_3 hres
    refine lv_aload_n hx hb dX5_draws_9 rfl (lv_at hl 0 rfl) ?_
    refine lv_ldc (v := (-1000000001 : Int32)) hx hb hown (hz _ kK_X5_58) dX5_draws_10 ?_
    refine zci (zrunV C0 hH (c_X5_finding l D cy ad _ _) kM_X5_59 zK5 kq_X5_finding zX0 rfl hl.1 rfl rfl rfl ⟨Nat.le_of_ble_eq_true rfl, Nat.le_of_ble_eq_true rfl⟩ (Nat.le_of_ble_eq_true rfl) dX5_draws_12) hH (fun H locs hH => ?_)
    exact zreti C0 hH dX5_draws_15 (zfst hres) (zsnd hres)
set_option maxRecDepth 100000 in
set_option maxHeartbeats 4000000 in
theorem c_X5_read (l : Launch) (D : va_G) (cy : Nat → ClassId) (ad : Nat → Nat) (M : zM) (p1 : Int32) : Met l yX5_read (Cond.code yX5_read cX5_read 4 (some .int) :: zG) ({ frames := 2, cells := 0, slots := 0, locals := 44 }) (zP D lyC cy ad [.ref (ad 0), .int p1] M) (zQi D lyC cy ad (f_X5_read p1 M).1 (f_X5_read p1 M).2) 0 0 (zA lyC ad) := by
  generalize hres : (f_X5_read p1 M) = res
  refine zMet (by decide) (Nat.le_of_ble_eq_true rfl) ?_
  intro p e s m args below meth c ls C0 hH hl
  obtain ⟨⟨hx, hb, hml, hown, hts⟩, -⟩ := id C0
  have hz : ∀ w ∈ zG, w.before args s = true := fun w h => hts w (List.mem_cons_of_mem _ h)
  have hl : lv_has ls 4 [(0, .ref (ad 0)), (1, .int p1)] := hl
  have L39 : ∀ (n39 : Nat), ∀ (c2 : Nat) (v3 : Int32) (mm : zM) (hc2 : zSh c2) (H : Heap) (locs : List Loc) (ls : Array Slot), (zCt 40 n39 v3) → zH D lyC cy ad s.heap mm H locs → lv_has ls 4 [(0, .ref (ad 0)), (2, .ref (ad c2)), (3, .int v3)] → f_X5_read_39 p1 n39 c2 v3 mm = res → W p l e { frames := 2, cells := 0, slots := 0, locals := 44 } s m args below meth c H locs 0 0 (MQ below (zQi D lyC cy ad res.1 res.2) args s 0 0 (zA lyC ad)) (F0 m 39 ls []) := by
    intro n39
    induction n39 with
    | zero =>
      intro c2 v3 mm hc2 H locs ls hct hH hl hres
      exfalso; exact hct.zero
    | succ n39 ih39 =>
      intro c2 v3 mm hc2 H locs ls hct hH hl hres
      have g0 := hH.sh hc2
      refine lv_iload_n hx hb dX5_read_39 rfl (lv_at hl 2 rfl) ?_
      refine lv_aload_n hx hb dX5_read_40 rfl (lv_at hl 1 rfl) ?_
      refine zgIN C0 hH zK3 2 (by decide) hc2.is rfl kN_X5_170 dX5_read_41 ?_
      refine lv_icmp_ge (tgt := 91) hx hb dX5_read_44 (by decide) (fun c44_10 => ?_) (fun c44_10 => ?_)
      · have hres := zif_pos c44_10 hres
        refine lv_iconst (v := (0 : Int32)) hx hb dX5_read_91 (by decide) ?_
        exact zreti C0 hH dX5_read_92 (zfst hres) (zsnd hres)
      · have hres := zif_neg c44_10 hres
        refine lv_aload_n hx hb dX5_read_47 rfl (lv_at hl 0 rfl) ?_
        refine zgR C0 hH zK5 0 (by decide) _ zX0 rfl kF_X5_12 dX5_read_48 ?_
        refine lv_iload_n hx hb dX5_read_51 rfl (lv_at hl 2 rfl) ?_
        refine zcz (zrunV C0 hH (c_X2_has l D cy ad _ _ zRow1 _) kM_X5_78 zK2 kq_X2_has zRow1.is rfl hl.1 rfl rfl rfl ⟨Nat.le_of_ble_eq_true rfl, Nat.le_of_ble_eq_true rfl⟩ (Nat.le_of_ble_eq_true rfl) dX5_read_52) hH (fun H locs hH h01_11 => ?_)
        refine lv_if_eq (tgt := 81) hx hb dX5_read_55 (by decide) (fun c55_13 => ?_) (fun c55_13 => ?_)
        · have hres := zif_pos c55_13 hres
          refine lv_iconst (v := (1 : Int32)) hx hb dX5_read_81 (by decide) ?_
          refine lv_iload_n hx hb dX5_read_82 rfl (lv_at hl 2 rfl) ?_
          refine lv_iadd hx hb dX5_read_83 ?_
          exact zreti C0 hH dX5_read_84 (zfst hres) (zsnd hres)
        · have hres := zif_neg c55_13 hres
          refine lv_aload_n hx hb dX5_read_58 rfl (lv_at hl 0 rfl) ?_
          refine zgR C0 hH zK5 0 (by decide) _ zX0 rfl kF_X5_12 dX5_read_59 ?_
          refine zgRN C0 hH zK2 0 (by decide) _ zRow1.is rfl kN_X5_68 dX5_read_62 ?_
          refine lv_iload_n hx hb dX5_read_65 rfl (lv_at hl 2 rfl) ?_
          refine zqldB C0 hH zRow1 (by exact zin10.mpr (by have q0 := hH.row zRow1; have q1 := hH.bkl zBk43; have q2 := hH.bkn zBk43; obtain ⟨qa, qb, -⟩ := hct; clear hres; grind [f_X5_within, f_X2_has, slot_X1])) dX5_read_66 (fun hb14 => ?_)
          refine zgIN C0 hH zK0 5 (by decide) hb14 rfl kN_X5_97 dX5_read_67 ?_
          refine lv_i2l hx hb dX5_read_70 rfl ?_
          refine lv_aload_n hx hb dX5_read_71 rfl (lv_at hl 1 rfl) ?_
          refine zgRN C0 hH zK3 0 (by decide) _ hc2.is rfl kN_X5_172 dX5_read_72 ?_
          refine lv_iload_n hx hb dX5_read_75 rfl (lv_at hl 2 rfl) ?_
          refine zlld C0 hH hc2.arr hc2.ln (by exact zin40.mpr (by have q0 := hH.row zRow1; have q1 := hH.bkl zBk43; have q2 := hH.bkn zBk43; have q3 := hH.sh hc2; obtain ⟨qa, qb, -⟩ := hct; clear hres; grind [f_X5_within, f_X2_has, slot_X1])) dX5_read_76 ?_
          refine W.lcmp hx hb dX5_read_77 ?_
          refine lv_if_eq (tgt := 85) hx hb dX5_read_78 (by decide) (fun c78_15 => ?_) (fun c78_15 => ?_)
          · have hres := zif_pos c78_15 hres
            refine ziinc (lv' := [(3, _), (0, _), (2, _)]) (k := 2) hx hb (1 : Int32) (by decide) dX5_read_85 hl rfl (by decide) rfl (fun ls hl => ?_)
            refine lv_goto (tgt := 39) hx hb dX5_read_88 (by decide) ?_
            exact ih39 _ _ _ hc2 _ _ _ (by first | exact zCt.start (by decide) (by decide) | exact zCt.step (m := 40) hct (by clear hres; grind [f_X5_within, f_X2_has, slot_X1]) (by decide)) hH (lv_sub hl [1, 2, 0] rfl) hres
          · have hres := zif_neg c78_15 hres
            refine lv_iconst (v := (1 : Int32)) hx hb dX5_read_81 (by decide) ?_
            refine lv_iload_n hx hb dX5_read_82 rfl (lv_at hl 2 rfl) ?_
            refine lv_iadd hx hb dX5_read_83 ?_
            exact zreti C0 hH dX5_read_84 (zfst hres) (zsnd hres)
  refine lv_iload_n hx hb dX5_read_0 rfl (lv_at hl 1 rfl) ?_
  refine lv_iconst (v := (0 : Int32)) hx hb dX5_read_1 (by decide) ?_
  refine lv_iconst (v := (3 : Int32)) hx hb dX5_read_2 (by decide) ?_
  refine zcz (zrunS C0 hH (c_X5_within l D cy ad _ _ _ _) kM_X5_54 kq_X5_within rfl hl.1 rfl rfl rfl ⟨Nat.le_of_ble_eq_true rfl, Nat.le_of_ble_eq_true rfl⟩ (Nat.le_of_ble_eq_true rfl) dX5_read_3) hH (fun H locs hH h01_1 => ?_)
  refine lv_if_ne (tgt := 16) hx hb dX5_read_6 (by decide) (fun c6_3 => ?_) (fun c6_3 => ?_)
  · have hres := zif_neg c6_3 hres
    refine lv_aload_n hx hb dX5_read_16 rfl (lv_at hl 0 rfl) ?_
    refine zgR C0 hH zK5 7 (by decide) _ zX0 rfl kF_X5_45 dX5_read_17 ?_
    refine lv_iload_n hx hb dX5_read_20 rfl (lv_at hl 1 rfl) ?_
    refine zqldS C0 hH (by exact zin4.mpr (by have q0 := hH.row zRow1; have q1 := hH.bkl zBk43; have q2 := hH.bkn zBk43; clear hres; grind [f_X5_within, f_X2_has, slot_X1])) dX5_read_21 (fun hb4 => ?_)
    refine lv_astore_n (lv' := [(2, _), (0, _), (1, _)]) hx hb dX5_read_22 rfl hl (by decide) rfl (fun ls hl => ?_)
    refine lv_aload_n hx hb dX5_read_23 rfl (lv_at hl 0 rfl) ?_
    refine zcz (zrunV C0 hH (c_X3_isMissing l D cy ad _ _ hb4) kM_X5_165 zK3 kq_X3_isMissing hb4.is rfl hl.1 rfl rfl rfl ⟨Nat.le_of_ble_eq_true rfl, Nat.le_of_ble_eq_true rfl⟩ (Nat.le_of_ble_eq_true rfl) dX5_read_24) hH (fun H locs hH h01_5 => ?_)
    refine lv_if_eq (tgt := 37) hx hb dX5_read_27 (by decide) (fun c27_7 => ?_) (fun c27_7 => ?_)
    · have hres := zif_pos c27_7 hres
      refine lv_iconst (v := (0 : Int32)) hx hb dX5_read_37 (by decide) ?_
      refine lv_istore_n (lv' := [(3, _), (2, _), (0, _), (1, _)]) hx hb dX5_read_38 rfl hl (by decide) rfl (fun ls hl => ?_)
      exact L39 (41) _ _ _ hb4 _ _ _ (by first | exact zCt.start (by decide) (by decide) | exact zCt.step (m := 40) hct (by clear hres; grind [f_X5_within, f_X2_has, slot_X1]) (by decide)) hH (lv_sub hl [2, 1, 0] rfl) hres
    · have hres := zif_neg c27_7 hres
      refine lv_aload_n hx hb dX5_read_30 rfl (lv_at hl 1 rfl) ?_
      refine lv_ldc (v := (-1000000006 : Int32)) hx hb hown (hz _ kK_X5_169) dX5_read_31 ?_
      refine zci (zrunV C0 hH (c_X5_finding l D cy ad _ _) kM_X5_59 zK5 kq_X5_finding zX0 rfl hl.1 rfl rfl rfl ⟨Nat.le_of_ble_eq_true rfl, Nat.le_of_ble_eq_true rfl⟩ (Nat.le_of_ble_eq_true rfl) dX5_read_33) hH (fun H locs hH => ?_)
      exact zreti C0 hH dX5_read_36 (zfst hres) (zsnd hres)
  · have hres := zif_pos c6_3 hres
    refine lv_aload_n hx hb dX5_read_9 rfl (lv_at hl 0 rfl) ?_
    refine lv_ldc (v := (-1000000001 : Int32)) hx hb hown (hz _ kK_X5_58) dX5_read_10 ?_
    refine zci (zrunV C0 hH (c_X5_finding l D cy ad _ _) kM_X5_59 zK5 kq_X5_finding zX0 rfl hl.1 rfl rfl rfl ⟨Nat.le_of_ble_eq_true rfl, Nat.le_of_ble_eq_true rfl⟩ (Nat.le_of_ble_eq_true rfl) dX5_read_12) hH (fun H locs hH => ?_)
    exact zreti C0 hH dX5_read_15 (zfst hres) (zsnd hres)
set_option maxRecDepth 100000 in
set_option maxHeartbeats 4000000 in
theorem c_X5_image (l : Launch) (D : va_G) (cy : Nat → ClassId) (ad : Nat → Nat) (M : zM) : Met l yX5_image (Cond.code yX5_image cX5_image 1 (some .int) :: zG) ({ frames := 3, cells := 0, slots := 0, locals := 71 }) (zP D lyC cy ad [.ref (ad 0)] M) (zQi D lyC cy ad (f_X5_image M).1 (f_X5_image M).2) 0 0 (zA lyC ad) := by
  generalize hres : (f_X5_image M) = res
  refine zMet (by decide) (Nat.le_of_ble_eq_true rfl) ?_
  intro p e s m args below meth c ls C0 hH hl
  obtain ⟨⟨hx, hb, hml, hown, hts⟩, -⟩ := id C0
  have hz : ∀ w ∈ zG, w.before args s = true := fun w h => hts w (List.mem_cons_of_mem _ h)
  have hl : lv_has ls 1 [(0, .ref (ad 0))] := hl
  refine lv_aload_n hx hb dX5_image_0 rfl (lv_at hl 0 rfl) ?_
  refine zgR C0 hH zK5 1 (by decide) _ zX0 rfl kF_X5_16 dX5_image_1 ?_
  refine lv_aload_n hx hb dX5_image_4 rfl (lv_at hl 0 rfl) ?_
  refine zgR C0 hH zK5 0 (by decide) _ zX0 rfl kF_X5_12 dX5_image_5 ?_
  refine zcv (zrunV C0 hH (c_X2_copyFrom l D cy ad _ _ zRow15 _ zRow1) kM_X5_156 zK2 kq_X2_copyFrom zRow15.is rfl hl.1 rfl rfl rfl ⟨Nat.le_of_ble_eq_true rfl, Nat.le_of_ble_eq_true rfl⟩ (Nat.le_of_ble_eq_true rfl) dX5_image_8) hH (fun H locs hH => ?_)
  refine lv_aload_n hx hb dX5_image_11 rfl (lv_at hl 0 rfl) ?_
  refine zgR C0 hH zK5 4 (by decide) _ zX0 rfl kF_X5_29 dX5_image_12 ?_
  refine lv_aload_n hx hb dX5_image_15 rfl (lv_at hl 0 rfl) ?_
  refine zgR C0 hH zK5 3 (by decide) _ zX0 rfl kF_X5_25 dX5_image_16 ?_
  refine zcv (zrunV C0 hH (c_X1_copyFrom l D cy ad _ _ zBk48 _ zBk43) kM_X5_220 zK1 kq_X1_copyFrom zBk48.is rfl hl.1 rfl rfl rfl ⟨Nat.le_of_ble_eq_true rfl, Nat.le_of_ble_eq_true rfl⟩ (Nat.le_of_ble_eq_true rfl) dX5_image_19) hH (fun H locs hH => ?_)
  refine lv_aload_n hx hb dX5_image_22 rfl (lv_at hl 0 rfl) ?_
  refine lv_iconst (v := (1 : Int32)) hx hb dX5_image_23 (by decide) ?_
  refine zp C0 hH zK5 5 (by decide) zX0 rfl rfl (zOk_01 (by first | exact Or.inl rfl | exact Or.inr rfl | assumption)) zcn kF_X5_32 dX5_image_24 (fun H locs hH => ?_)
  refine lv_iconst (v := (1 : Int32)) hx hb dX5_image_27 (by decide) ?_
  exact zreti C0 hH dX5_image_28 (zfst hres) (zsnd hres)
set_option maxRecDepth 100000 in
set_option maxHeartbeats 4000000 in
theorem c_X5_undo (l : Launch) (D : va_G) (cy : Nat → ClassId) (ad : Nat → Nat) (M : zM) : Met l yX5_undo (Cond.code yX5_undo cX5_undo 1 (some .int) :: zG) ({ frames := 3, cells := 0, slots := 0, locals := 71 }) (zP D lyC cy ad [.ref (ad 0)] M) (zQi D lyC cy ad (f_X5_undo M).1 (f_X5_undo M).2) 0 0 (zA lyC ad) := by
  generalize hres : (f_X5_undo M) = res
  refine zMet (by decide) (Nat.le_of_ble_eq_true rfl) ?_
  intro p e s m args below meth c ls C0 hH hl
  obtain ⟨⟨hx, hb, hml, hown, hts⟩, -⟩ := id C0
  have hz : ∀ w ∈ zG, w.before args s = true := fun w h => hts w (List.mem_cons_of_mem _ h)
  have hl : lv_has ls 1 [(0, .ref (ad 0))] := hl
  refine lv_aload_n hx hb dX5_undo_0 rfl (lv_at hl 0 rfl) ?_
  refine zgI C0 hH zK5 5 (by decide) zX0 rfl kF_X5_32 dX5_undo_1 ?_
  refine lv_if_ne (tgt := 14) hx hb dX5_undo_4 (by decide) (fun c4_1 => ?_) (fun c4_1 => ?_)
  · have hres := zif_neg c4_1 hres
    refine lv_aload_n hx hb dX5_undo_14 rfl (lv_at hl 0 rfl) ?_
    refine zgR C0 hH zK5 0 (by decide) _ zX0 rfl kF_X5_12 dX5_undo_15 ?_
    refine lv_aload_n hx hb dX5_undo_18 rfl (lv_at hl 0 rfl) ?_
    refine zgR C0 hH zK5 1 (by decide) _ zX0 rfl kF_X5_16 dX5_undo_19 ?_
    refine zcv (zrunV C0 hH (c_X2_copyFrom l D cy ad _ _ zRow1 _ zRow15) kM_X5_156 zK2 kq_X2_copyFrom zRow1.is rfl hl.1 rfl rfl rfl ⟨Nat.le_of_ble_eq_true rfl, Nat.le_of_ble_eq_true rfl⟩ (Nat.le_of_ble_eq_true rfl) dX5_undo_22) hH (fun H locs hH => ?_)
    refine lv_aload_n hx hb dX5_undo_25 rfl (lv_at hl 0 rfl) ?_
    refine zgR C0 hH zK5 3 (by decide) _ zX0 rfl kF_X5_25 dX5_undo_26 ?_
    refine lv_aload_n hx hb dX5_undo_29 rfl (lv_at hl 0 rfl) ?_
    refine zgR C0 hH zK5 4 (by decide) _ zX0 rfl kF_X5_29 dX5_undo_30 ?_
    refine zcv (zrunV C0 hH (c_X1_copyFrom l D cy ad _ _ zBk43 _ zBk48) kM_X5_220 zK1 kq_X1_copyFrom zBk43.is rfl hl.1 rfl rfl rfl ⟨Nat.le_of_ble_eq_true rfl, Nat.le_of_ble_eq_true rfl⟩ (Nat.le_of_ble_eq_true rfl) dX5_undo_33) hH (fun H locs hH => ?_)
    refine lv_aload_n hx hb dX5_undo_36 rfl (lv_at hl 0 rfl) ?_
    refine zgR C0 hH zK5 0 (by decide) _ zX0 rfl kF_X5_12 dX5_undo_37 ?_
    refine zgIN C0 hH zK2 1 (by decide) zRow1.is rfl kN_X5_63 dX5_undo_40 ?_
    exact zreti C0 hH dX5_undo_43 (zfst hres) (zsnd hres)
  · have hres := zif_pos c4_1 hres
    refine lv_aload_n hx hb dX5_undo_7 rfl (lv_at hl 0 rfl) ?_
    refine lv_ldc (v := (-1000000004 : Int32)) hx hb hown (hz _ kK_X5_155) dX5_undo_8 ?_
    refine zci (zrunV C0 hH (c_X5_finding l D cy ad _ _) kM_X5_59 zK5 kq_X5_finding zX0 rfl hl.1 rfl rfl rfl ⟨Nat.le_of_ble_eq_true rfl, Nat.le_of_ble_eq_true rfl⟩ (Nat.le_of_ble_eq_true rfl) dX5_undo_10) hH (fun H locs hH => ?_)
    exact zreti C0 hH dX5_undo_13 (zfst hres) (zsnd hres)
set_option maxRecDepth 100000 in
set_option maxHeartbeats 4000000 in
theorem c_X5_tear (l : Launch) (D : va_G) (cy : Nat → ClassId) (ad : Nat → Nat) (M : zM) : Met l yX5_tear (Cond.code yX5_tear cX5_tear 2 (some .int) :: zG) ({ frames := 0, cells := 0, slots := 0, locals := 0 }) (zP D lyC cy ad [.ref (ad 0)] M) (zQi D lyC cy ad (f_X5_tear M).1 (f_X5_tear M).2) 0 0 (zA lyC ad) := by
  generalize hres : (f_X5_tear M) = res
  refine zMet (by decide) (Nat.le_of_ble_eq_true rfl) ?_
  intro p e s m args below meth c ls C0 hH hl
  obtain ⟨⟨hx, hb, hml, hown, hts⟩, -⟩ := id C0
  have hz : ∀ w ∈ zG, w.before args s = true := fun w h => hts w (List.mem_cons_of_mem _ h)
  have hl : lv_has ls 2 [(0, .ref (ad 0))] := hl
  refine lv_aload_n hx hb dX5_tear_0 rfl (lv_at hl 0 rfl) ?_
  refine zgI C0 hH zK5 5 (by decide) zX0 rfl kF_X5_32 dX5_tear_1 ?_
  refine lv_if_eq (tgt := 11) hx hb dX5_tear_4 (by decide) (fun c4_1 => ?_) (fun c4_1 => ?_)
  · have hres := zif_pos c4_1 hres
    refine lv_iconst (v := (0 : Int32)) hx hb dX5_tear_11 (by decide) ?_
    refine lv_istore_n (lv' := [(1, _), (0, _)]) hx hb dX5_tear_12 rfl hl (by decide) rfl (fun ls hl => ?_)
    refine lv_aload_n hx hb dX5_tear_13 rfl (lv_at hl 1 rfl) ?_
    refine lv_iconst (v := (0 : Int32)) hx hb dX5_tear_14 (by decide) ?_
    refine zp C0 hH zK5 5 (by decide) zX0 rfl rfl (zOk_01 (by first | exact Or.inl rfl | exact Or.inr rfl | assumption)) zcn kF_X5_32 dX5_tear_15 (fun H locs hH => ?_)
    refine lv_iload_n hx hb dX5_tear_18 rfl (lv_at hl 0 rfl) ?_
    exact zreti C0 hH dX5_tear_19 (zfst hres) (zsnd hres)
  · have hres := zif_neg c4_1 hres
    refine lv_iconst (v := (1 : Int32)) hx hb dX5_tear_7 (by decide) ?_
    refine lv_goto (tgt := 12) hx hb dX5_tear_8 (by decide) ?_
    refine lv_istore_n (lv' := [(1, _), (0, _)]) hx hb dX5_tear_12 rfl hl (by decide) rfl (fun ls hl => ?_)
    refine lv_aload_n hx hb dX5_tear_13 rfl (lv_at hl 1 rfl) ?_
    refine lv_iconst (v := (0 : Int32)) hx hb dX5_tear_14 (by decide) ?_
    refine zp C0 hH zK5 5 (by decide) zX0 rfl rfl (zOk_01 (by first | exact Or.inl rfl | exact Or.inr rfl | assumption)) zcn kF_X5_32 dX5_tear_15 (fun H locs hH => ?_)
    refine lv_iload_n hx hb dX5_tear_18 rfl (lv_at hl 0 rfl) ?_
    exact zreti C0 hH dX5_tear_19 (zfst hres) (zsnd hres)
set_option maxRecDepth 100000 in
set_option maxHeartbeats 4000000 in
theorem c_X5_count (l : Launch) (D : va_G) (cy : Nat → ClassId) (ad : Nat → Nat) (M : zM) (p1 : Int32) : Met l yX5_count (Cond.code yX5_count cX5_count 2 (some .int) :: zG) ({ frames := 2, cells := 0, slots := 0, locals := 44 }) (zP D lyC cy ad [.ref (ad 0), .int p1] M) (zQi D lyC cy ad (f_X5_count p1 M).1 (f_X5_count p1 M).2) 0 0 (zA lyC ad) := by
  generalize hres : (f_X5_count p1 M) = res
  refine zMet (by decide) (Nat.le_of_ble_eq_true rfl) ?_
  intro p e s m args below meth c ls C0 hH hl
  obtain ⟨⟨hx, hb, hml, hown, hts⟩, -⟩ := id C0
  have hz : ∀ w ∈ zG, w.before args s = true := fun w h => hts w (List.mem_cons_of_mem _ h)
  have hl : lv_has ls 2 [(0, .ref (ad 0)), (1, .int p1)] := hl
  refine lv_iload_n hx hb dX5_count_0 rfl (lv_at hl 1 rfl) ?_
  refine zcase hres (fun c1_1_0 hres => ?_) (fun c1_1_0 hres => ?_)
  · refine ztab (tgt := 48) hx hb c1_1_0 dX5_count_1 (by decide) (by decide) rfl (by decide) ?_
    refine lv_aload_n hx hb dX5_count_48 rfl (lv_at hl 0 rfl) ?_
    refine zgR C0 hH zK5 0 (by decide) _ zX0 rfl kF_X5_12 dX5_count_49 ?_
    refine zgIN C0 hH zK2 1 (by decide) zRow1.is rfl kN_X5_63 dX5_count_52 ?_
    exact zreti C0 hH dX5_count_55 (zfst hres) (zsnd hres)
  · skip
    refine zcase hres (fun c1_1_1 hres => ?_) (fun c1_1_1 hres => ?_)
    · refine ztab (tgt := 56) hx hb c1_1_1 dX5_count_1 (by decide) (by decide) rfl (by decide) ?_
      refine lv_aload_n hx hb dX5_count_56 rfl (lv_at hl 0 rfl) ?_
      refine zgR C0 hH zK5 3 (by decide) _ zX0 rfl kF_X5_25 dX5_count_57 ?_
      refine zgIN C0 hH zK1 6 (by decide) zBk43.is rfl kN_X5_223 dX5_count_60 ?_
      exact zreti C0 hH dX5_count_63 (zfst hres) (zsnd hres)
    · skip
      refine zcase hres (fun c1_1_2 hres => ?_) (fun c1_1_2 hres => ?_)
      · refine ztab (tgt := 64) hx hb c1_1_2 dX5_count_1 (by decide) (by decide) rfl (by decide) ?_
        refine lv_aload_n hx hb dX5_count_64 rfl (lv_at hl 0 rfl) ?_
        refine zgR C0 hH zK5 3 (by decide) _ zX0 rfl kF_X5_25 dX5_count_65 ?_
        refine zgIN C0 hH zK1 7 (by decide) zBk43.is rfl kN_X5_226 dX5_count_68 ?_
        exact zreti C0 hH dX5_count_71 (zfst hres) (zsnd hres)
      · skip
        refine zcase hres (fun c1_1_3 hres => ?_) (fun c1_1_3 hres => ?_)
        · refine ztab (tgt := 72) hx hb c1_1_3 dX5_count_1 (by decide) (by decide) rfl (by decide) ?_
          refine lv_aload_n hx hb dX5_count_72 rfl (lv_at hl 0 rfl) ?_
          refine zgR C0 hH zK5 0 (by decide) _ zX0 rfl kF_X5_12 dX5_count_73 ?_
          refine zgRN C0 hH zK2 4 (by decide) _ zRow1.is rfl kN_X5_187 dX5_count_76 ?_
          refine zgIN C0 hH zK4 1 (by decide) zRow1.txt.is rfl kN_X5_179 dX5_count_79 ?_
          refine lv_if_le (tgt := 89) hx hb dX5_count_82 (by decide) (fun c82_2 => ?_) (fun c82_2 => ?_)
          · have hres := zif_pos c82_2 hres
            refine lv_iconst (v := (0 : Int32)) hx hb dX5_count_89 (by decide) ?_
            exact zreti C0 hH dX5_count_90 (zfst hres) (zsnd hres)
          · have hres := zif_neg c82_2 hres
            refine lv_iconst (v := (1 : Int32)) hx hb dX5_count_85 (by decide) ?_
            refine lv_goto (tgt := 90) hx hb dX5_count_86 (by decide) ?_
            exact zreti C0 hH dX5_count_90 (zfst hres) (zsnd hres)
        · skip
          refine zcase hres (fun c1_1_4 hres => ?_) (fun c1_1_4 hres => ?_)
          · refine ztab (tgt := 91) hx hb c1_1_4 dX5_count_1 (by decide) (by decide) rfl (by decide) ?_
            refine lv_aload_n hx hb dX5_count_91 rfl (lv_at hl 0 rfl) ?_
            refine zgR C0 hH zK5 6 (by decide) _ zX0 rfl kF_X5_39 dX5_count_92 ?_
            refine zgIN C0 hH zK4 1 (by decide) zTxt53.is rfl kN_X5_179 dX5_count_95 ?_
            exact zreti C0 hH dX5_count_98 (zfst hres) (zsnd hres)
          · skip
            refine zcase hres (fun c1_1_5 hres => ?_) (fun c1_1_5 hres => ?_)
            · refine ztab (tgt := 99) hx hb c1_1_5 dX5_count_1 (by decide) (by decide) rfl (by decide) ?_
              refine lv_aload_n hx hb dX5_count_99 rfl (lv_at hl 0 rfl) ?_
              refine zgR C0 hH zK5 0 (by decide) _ zX0 rfl kF_X5_12 dX5_count_100 ?_
              refine zgIN C0 hH zK2 3 (by decide) zRow1.is rfl kN_X5_126 dX5_count_103 ?_
              exact zreti C0 hH dX5_count_106 (zfst hres) (zsnd hres)
            · skip
              refine zcase hres (fun c1_1_6 hres => ?_) (fun c1_1_6 hres => ?_)
              · refine ztab (tgt := 107) hx hb c1_1_6 dX5_count_1 (by decide) (by decide) rfl (by decide) ?_
                refine lv_aload_n hx hb dX5_count_107 rfl (lv_at hl 0 rfl) ?_
                refine zgR C0 hH zK5 0 (by decide) _ zX0 rfl kF_X5_12 dX5_count_108 ?_
                refine zgIN C0 hH zK2 2 (by decide) zRow1.is rfl kN_X5_229 dX5_count_111 ?_
                exact zreti C0 hH dX5_count_114 (zfst hres) (zsnd hres)
              · skip
                refine zcase hres (fun c1_1_7 hres => ?_) (fun c1_1_7 hres => ?_)
                · refine ztab (tgt := 115) hx hb c1_1_7 dX5_count_1 (by decide) (by decide) rfl (by decide) ?_
                  refine lv_aload_n hx hb dX5_count_115 rfl (lv_at hl 0 rfl) ?_
                  refine zgR C0 hH zK5 3 (by decide) _ zX0 rfl kF_X5_25 dX5_count_116 ?_
                  refine zgIN C0 hH zK1 4 (by decide) zBk43.is rfl kN_X5_139 dX5_count_119 ?_
                  exact zreti C0 hH dX5_count_122 (zfst hres) (zsnd hres)
                · skip
                  refine ztabD (tgt := 123) hx hb [(0 : Int32), (1 : Int32), (2 : Int32), (3 : Int32), (4 : Int32), (5 : Int32), (6 : Int32), (7 : Int32)] (List.forall_mem_cons.mpr ⟨c1_1_0, (List.forall_mem_cons.mpr ⟨c1_1_1, (List.forall_mem_cons.mpr ⟨c1_1_2, (List.forall_mem_cons.mpr ⟨c1_1_3, (List.forall_mem_cons.mpr ⟨c1_1_4, (List.forall_mem_cons.mpr ⟨c1_1_5, (List.forall_mem_cons.mpr ⟨c1_1_6, (List.forall_mem_cons.mpr ⟨c1_1_7, (fun _ h => absurd h List.not_mem_nil)⟩)⟩)⟩)⟩)⟩)⟩)⟩)⟩) dX5_count_1 (by decide) (by decide) (by decide) ?_
                  refine lv_aload_n hx hb dX5_count_123 rfl (lv_at hl 0 rfl) ?_
                  refine lv_ldc (v := (-1000000001 : Int32)) hx hb hown (hz _ kK_X5_58) dX5_count_124 ?_
                  refine zci (zrunV C0 hH (c_X5_finding l D cy ad _ _) kM_X5_59 zK5 kq_X5_finding zX0 rfl hl.1 rfl rfl rfl ⟨Nat.le_of_ble_eq_true rfl, Nat.le_of_ble_eq_true rfl⟩ (Nat.le_of_ble_eq_true rfl) dX5_count_126) hH (fun H locs hH => ?_)
                  exact zreti C0 hH dX5_count_129 (zfst hres) (zsnd hres)
set_option maxRecDepth 100000 in
set_option maxHeartbeats 4000000 in
theorem c_X5_status (l : Launch) (D : va_G) (cy : Nat → ClassId) (ad : Nat → Nat) (M : zM) (p1 : Int32) : Met l yX5_status (Cond.code yX5_status cX5_status 4 (some .int) :: zG) ({ frames := 2, cells := 0, slots := 0, locals := 44 }) (zP D lyC cy ad [.ref (ad 0), .int p1] M) (zQi D lyC cy ad (f_X5_status p1 M).1 (f_X5_status p1 M).2) 0 0 (zA lyC ad) := by
  generalize hres : (f_X5_status p1 M) = res
  refine zMet (by decide) (Nat.le_of_ble_eq_true rfl) ?_
  intro p e s m args below meth c ls C0 hH hl
  obtain ⟨⟨hx, hb, hml, hown, hts⟩, -⟩ := id C0
  have hz : ∀ w ∈ zG, w.before args s = true := fun w h => hts w (List.mem_cons_of_mem _ h)
  have hl : lv_has ls 4 [(0, .ref (ad 0)), (1, .int p1)] := hl
  have L32 : ∀ (n32 : Nat), ∀ (v2 : Int32) (v3 : Int32) (mm : zM) (H : Heap) (locs : List Loc) (ls : Array Slot), (zCt 7 n32 v3) → zH D lyC cy ad s.heap mm H locs → lv_has ls 4 [(0, .ref (ad 0)), (2, .int v2), (3, .int v3)] → f_X5_status_32 p1 n32 v2 v3 mm = res → W p l e { frames := 2, cells := 0, slots := 0, locals := 44 } s m args below meth c H locs 0 0 (MQ below (zQi D lyC cy ad res.1 res.2) args s 0 0 (zA lyC ad)) (F0 m 32 ls []) := by
    intro n32
    induction n32 with
    | zero =>
      intro v2 v3 mm H locs ls hct hH hl hres
      exfalso; exact hct.zero
    | succ n32 ih32 =>
      intro v2 v3 mm H locs ls hct hH hl hres
      refine lv_iload_n hx hb dX5_status_32 rfl (lv_at hl 2 rfl) ?_
      refine lv_bipush (v := (7 : Int32)) hx hb dX5_status_33 (by decide) ?_
      refine lv_icmp_ge (tgt := 53) hx hb dX5_status_35 (by decide) (fun c35_6 => ?_) (fun c35_6 => ?_)
      · have hres := zif_pos c35_6 hres
        refine lv_iload_n hx hb dX5_status_53 rfl (lv_at hl 1 rfl) ?_
        exact zreti C0 hH dX5_status_54 (zfst hres) (zsnd hres)
      · have hres := zif_neg c35_6 hres
        refine lv_iload_n hx hb dX5_status_38 rfl (lv_at hl 1 rfl) ?_
        refine lv_aload_n hx hb dX5_status_39 rfl (lv_at hl 0 rfl) ?_
        refine zgR C0 hH zK5 8 (by decide) _ zX0 rfl kF_X5_49 dX5_status_40 ?_
        refine lv_iload_n hx hb dX5_status_43 rfl (lv_at hl 2 rfl) ?_
        refine zald C0 hH zFo zFo_ln (by exact zin7.mpr (by have q0 := hH.row zRow1; have q1 := hH.bkl zBk43; have q2 := hH.bkn zBk43; obtain ⟨qa, qb, -⟩ := hct; clear hres; grind [f_X5_within, f_X2_has, slot_X1])) dX5_status_44 ?_
        refine lv_iadd hx hb dX5_status_45 ?_
        refine lv_istore_n (lv' := [(2, _), (0, _), (3, _)]) hx hb dX5_status_46 rfl hl (by decide) rfl (fun ls hl => ?_)
        refine ziinc (lv' := [(3, _), (2, _), (0, _)]) (k := 2) hx hb (1 : Int32) (by decide) dX5_status_47 hl rfl (by decide) rfl (fun ls hl => ?_)
        refine lv_goto (tgt := 32) hx hb dX5_status_50 (by decide) ?_
        exact ih32 _ _ _ _ _ _ (by first | exact zCt.start (by decide) (by decide) | exact zCt.step (m := 7) hct (by clear hres; grind [f_X5_within, f_X2_has, slot_X1]) (by decide)) hH (lv_sub hl [2, 1, 0] rfl) hres
  refine lv_iload_n hx hb dX5_status_0 rfl (lv_at hl 1 rfl) ?_
  refine lv_iconst (v := (-1 : Int32)) hx hb dX5_status_1 (by decide) ?_
  refine lv_bipush (v := (6 : Int32)) hx hb dX5_status_2 (by decide) ?_
  refine zcz (zrunS C0 hH (c_X5_within l D cy ad _ _ _ _) kM_X5_54 kq_X5_within rfl hl.1 rfl rfl rfl ⟨Nat.le_of_ble_eq_true rfl, Nat.le_of_ble_eq_true rfl⟩ (Nat.le_of_ble_eq_true rfl) dX5_status_4) hH (fun H locs hH h01_1 => ?_)
  refine lv_if_ne (tgt := 17) hx hb dX5_status_7 (by decide) (fun c7_3 => ?_) (fun c7_3 => ?_)
  · have hres := zif_neg c7_3 hres
    refine lv_iload_n hx hb dX5_status_17 rfl (lv_at hl 1 rfl) ?_
    refine lv_if_lt (tgt := 28) hx hb dX5_status_18 (by decide) (fun c18_4 => ?_) (fun c18_4 => ?_)
    · have hres := zif_pos c18_4 hres
      refine lv_iconst (v := (0 : Int32)) hx hb dX5_status_28 (by decide) ?_
      refine lv_istore_n (lv' := [(2, _), (0, _), (1, _)]) hx hb dX5_status_29 rfl hl (by decide) rfl (fun ls hl => ?_)
      refine lv_iconst (v := (0 : Int32)) hx hb dX5_status_30 (by decide) ?_
      refine lv_istore_n (lv' := [(3, _), (2, _), (0, _), (1, _)]) hx hb dX5_status_31 rfl hl (by decide) rfl (fun ls hl => ?_)
      exact L32 (8) _ _ _ _ _ _ (by first | exact zCt.start (by decide) (by decide) | exact zCt.step (m := 7) hct (by clear hres; grind [f_X5_within, f_X2_has, slot_X1]) (by decide)) hH (lv_sub hl [2, 1, 0] rfl) hres
    · have hres := zif_neg c18_4 hres
      refine lv_aload_n hx hb dX5_status_21 rfl (lv_at hl 0 rfl) ?_
      refine zgR C0 hH zK5 8 (by decide) _ zX0 rfl kF_X5_49 dX5_status_22 ?_
      refine lv_iload_n hx hb dX5_status_25 rfl (lv_at hl 1 rfl) ?_
      refine zald C0 hH zFo zFo_ln (by exact zin7.mpr (by have q0 := hH.row zRow1; have q1 := hH.bkl zBk43; have q2 := hH.bkn zBk43; clear hres; grind [f_X5_within, f_X2_has, slot_X1])) dX5_status_26 ?_
      exact zreti C0 hH dX5_status_27 (zfst hres) (zsnd hres)
  · have hres := zif_pos c7_3 hres
    refine lv_aload_n hx hb dX5_status_10 rfl (lv_at hl 0 rfl) ?_
    refine lv_ldc (v := (-1000000001 : Int32)) hx hb hown (hz _ kK_X5_58) dX5_status_11 ?_
    refine zci (zrunV C0 hH (c_X5_finding l D cy ad _ _) kM_X5_59 zK5 kq_X5_finding zX0 rfl hl.1 rfl rfl rfl ⟨Nat.le_of_ble_eq_true rfl, Nat.le_of_ble_eq_true rfl⟩ (Nat.le_of_ble_eq_true rfl) dX5_status_13) hH (fun H locs hH => ?_)
    exact zreti C0 hH dX5_status_16 (zfst hres) (zsnd hres)
