set_option maxRecDepth 100000 in
set_option maxHeartbeats 4000000 in
theorem c_X5_from (l : Launch) (D : va_G) (cy : Nat → ClassId) (ad : Nat → Nat) (M : zM) (p1 : Int32) : Met l yX5_from (Cond.code yX5_from cX5_from 5 (some .int) :: zG) ({ frames := 25, cells := 0, slots := 0, locals := 915 }) (zP D lyC cy ad [.ref (ad 0), .int p1] M) (zQi D lyC cy ad (f_X5_from p1 M).1 (f_X5_from p1 M).2) 0 0 (zA lyC ad) := by
  generalize hres : (f_X5_from p1 M) = res
  refine zMet (by decide) (Nat.le_of_ble_eq_true rfl) ?_
  intro p e s m args below meth c ls C0 hH hl
  obtain ⟨⟨hx, hb, hml, hown, hts⟩, -⟩ := id C0
  have hz : ∀ w ∈ zG, w.before args s = true := fun w h => hts w (List.mem_cons_of_mem _ h)
  have hl : lv_has ls 5 [(0, .ref (ad 0)), (1, .int p1)] := hl
  have L19 : ∀ (n19 : Nat), ∀ (v2 : Int32) (mm : zM) (H : Heap) (locs : List Loc) (ls : Array Slot), (zCt 100 n19 v2) → (p1 ≤ 60) → zH D lyC cy ad s.heap mm H locs → lv_has ls 5 [(0, .ref (ad 0)), (1, .int p1), (2, .int v2)] → f_X5_from_19 p1 n19 v2 mm = res → W p l e { frames := 25, cells := 0, slots := 0, locals := 915 } s m args below meth c H locs 0 0 (MQ below (zQi D lyC cy ad res.1 res.2) args s 0 0 (zA lyC ad)) (F0 m 19 ls []) := by
    intro n19
    induction n19 with
    | zero =>
      intro v2 mm H locs ls hct hp hH hl hres
      exfalso; exact hct.zero
    | succ n19 ih19 =>
      have J88 : ∀ (v2 : Int32) (v3 : Int32) (mm : zM) (H : Heap) (locs : List Loc) (ls : Array Slot), (zCt 100 (n19 + 1) v2) → (v2 < 100) → (p1 ≤ 60) → zH D lyC cy ad s.heap mm H locs → lv_has ls 5 [(0, .ref (ad 0)), (1, .int p1), (2, .int v2), (3, .int v3)] → f_X5_from_88 p1 (fun wv2 wmm => f_X5_from_19 p1 n19 wv2 wmm) v2 v3 mm = res → W p l e { frames := 25, cells := 0, slots := 0, locals := 915 } s m args below meth c H locs 0 0 (MQ below (zQi D lyC cy ad res.1 res.2) args s 0 0 (zA lyC ad)) (F0 m 88 ls []) := by
        intro v2 v3 mm H locs ls hco hv hp hH hl hres
        refine lv_iload_n hx hb dX5_from_88 rfl (lv_at hl 3 rfl) ?_
        refine lv_if_eq (tgt := 94) hx hb dX5_from_89 (by decide) (fun c89_13 => ?_) (fun c89_13 => ?_)
        · have hres := zif_pos c89_13 hres
          refine ziinc (lv' := [(2, _), (0, _), (1, _), (3, _)]) (k := 2) hx hb (1 : Int32) (by decide) dX5_from_94 hl rfl (by decide) rfl (fun ls hl => ?_)
          refine lv_goto (tgt := 19) hx hb dX5_from_97 (by decide) ?_
          exact ih19 _ _ _ _ _ (by first | exact zCt.start (by decide) (by decide) | exact zCt.step (m := 100) (by assumption) (by first | assumption | (clear hres; grind [f_X5_within, f_X2_has, slot_X1])) (by decide)) (by first | assumption | (clear hres; grind [f_X5_within, f_X2_has])) hH (lv_sub hl [1, 2, 0] rfl) hres
        · have hres := zif_neg c89_13 hres
          refine lv_iload_n hx hb dX5_from_92 rfl (lv_at hl 2 rfl) ?_
          exact zreti C0 hH dX5_from_93 (zfst hres) (zsnd hres)
      have L49 : ∀ (n49 : Nat), ∀ (v2 : Int32) (v3 : Int32) (v4 : Int32) (mm : zM) (H : Heap) (locs : List Loc) (ls : Array Slot), (zCt 100 (n19 + 1) v2) → (v2 < 100) → (zCt 60 n49 v4) → (p1 ≤ 60) → zH D lyC cy ad s.heap mm H locs → lv_has ls 5 [(0, .ref (ad 0)), (1, .int p1), (2, .int v2), (3, .int v3), (4, .int v4)] → f_X5_from_49 p1 (fun wv2 wmm => f_X5_from_19 p1 n19 wv2 wmm) n49 v2 v3 v4 mm = res → W p l e { frames := 25, cells := 0, slots := 0, locals := 915 } s m args below meth c H locs 0 0 (MQ below (zQi D lyC cy ad res.1 res.2) args s 0 0 (zA lyC ad)) (F0 m 49 ls []) := by
        intro n49
        induction n49 with
        | zero =>
          intro v2 v3 v4 mm H locs ls hco hv hct hp hH hl hres
          exfalso; exact hct.zero
        | succ n49 ih49 =>
          intro v2 v3 v4 mm H locs ls hco hv hct hp hH hl hres
          refine lv_iload hx hb dX5_from_49 (lv_at hl 4 rfl) ?_
          refine lv_iload_n hx hb dX5_from_51 rfl (lv_at hl 1 rfl) ?_
          refine lv_icmp_ge (tgt := 88) hx hb dX5_from_52 (by decide) (fun c52_9 => ?_) (fun c52_9 => ?_)
          · have hres := zif_pos c52_9 hres
            exact J88 _ _ _ _ _ _ (by assumption) (by first | assumption | (clear hres; grind [f_X5_within, f_X2_has])) (by first | assumption | (clear hres; grind [f_X5_within, f_X2_has])) hH (lv_sub hl [0, 1, 2, 3] rfl) hres
          · have hres := zif_neg c52_9 hres
            refine lv_iload_n hx hb dX5_from_55 rfl (lv_at hl 3 rfl) ?_
            refine lv_if_eq (tgt := 88) hx hb dX5_from_56 (by decide) (fun c56_10 => ?_) (fun c56_10 => ?_)
            · have hres := zif_pos c56_10 hres
              exact J88 _ _ _ _ _ _ (by assumption) (by first | assumption | (clear hres; grind [f_X5_within, f_X2_has])) (by first | assumption | (clear hres; grind [f_X5_within, f_X2_has])) hH (lv_sub hl [0, 1, 2, 3] rfl) hres
            · have hres := zif_neg c56_10 hres
              refine lv_aload_n hx hb dX5_from_59 rfl (lv_at hl 0 rfl) ?_
              refine zgR C0 hH zK5 2 (by decide) _ zX0 rfl kF_X5_19 dX5_from_60 ?_
              refine zcv (zrunV C0 hH (c_X2_tick l D cy ad _ _ zRow29) kM_X5_129 zK2 kq_X2_tick zRow29.is rfl hl.1 rfl rfl rfl ⟨Nat.le_of_ble_eq_true rfl, Nat.le_of_ble_eq_true rfl⟩ (Nat.le_of_ble_eq_true rfl) dX5_from_63) hH (fun H locs hH => ?_)
              refine lv_aload_n hx hb dX5_from_66 rfl (lv_at hl 0 rfl) ?_
              refine zgR C0 hH zK5 2 (by decide) _ zX0 rfl kF_X5_19 dX5_from_67 ?_
              refine zgIN C0 hH zK2 5 (by decide) zRow29.is rfl kN_X5_136 dX5_from_70 ?_
              refine lv_if_le (tgt := 80) hx hb dX5_from_73 (by decide) (fun c73_12 => ?_) (fun c73_12 => ?_)
              · have hres := zif_pos c73_12 hres
                refine lv_iconst (v := (0 : Int32)) hx hb dX5_from_80 (by decide) ?_
                refine lv_istore_n (lv' := [(3, _), (0, _), (1, _), (2, _), (4, _)]) hx hb dX5_from_81 rfl hl (by decide) rfl (fun ls hl => ?_)
                refine ziinc (lv' := [(4, _), (3, _), (0, _), (1, _), (2, _)]) (k := 4) hx hb (1 : Int32) (by decide) dX5_from_82 hl rfl (by decide) rfl (fun ls hl => ?_)
                refine lv_goto (tgt := 49) hx hb dX5_from_85 (by decide) ?_
                exact ih49 _ _ _ _ _ _ _ (by assumption) (by first | assumption | (clear hres; grind [f_X5_within, f_X2_has])) (by first | exact zCt.start (by decide) (by decide) | exact zCt.step (m := 60) hct (by clear hres; grind [f_X5_within, f_X2_has, slot_X1]) (by decide)) (by first | assumption | (clear hres; grind [f_X5_within, f_X2_has])) hH (lv_sub hl [2, 3, 4, 1, 0] rfl) hres
              · have hres := zif_neg c73_12 hres
                refine lv_iconst (v := (1 : Int32)) hx hb dX5_from_76 (by decide) ?_
                refine lv_goto (tgt := 81) hx hb dX5_from_77 (by decide) ?_
                refine lv_istore_n (lv' := [(3, _), (0, _), (1, _), (2, _), (4, _)]) hx hb dX5_from_81 rfl hl (by decide) rfl (fun ls hl => ?_)
                refine ziinc (lv' := [(4, _), (3, _), (0, _), (1, _), (2, _)]) (k := 4) hx hb (1 : Int32) (by decide) dX5_from_82 hl rfl (by decide) rfl (fun ls hl => ?_)
                refine lv_goto (tgt := 49) hx hb dX5_from_85 (by decide) ?_
                exact ih49 _ _ _ _ _ _ _ (by assumption) (by first | assumption | (clear hres; grind [f_X5_within, f_X2_has])) (by first | exact zCt.start (by decide) (by decide) | exact zCt.step (m := 60) hct (by clear hres; grind [f_X5_within, f_X2_has, slot_X1]) (by decide)) (by first | assumption | (clear hres; grind [f_X5_within, f_X2_has])) hH (lv_sub hl [2, 3, 4, 1, 0] rfl) hres
      intro v2 mm H locs ls hct hp hH hl hres
      refine lv_iload_n hx hb dX5_from_19 rfl (lv_at hl 2 rfl) ?_
      refine lv_bipush (v := (99 : Int32)) hx hb dX5_from_20 (by decide) ?_
      refine lv_icmp_gt (tgt := 100) hx hb dX5_from_22 (by decide) (fun c22_5 => ?_) (fun c22_5 => ?_)
      · have hres := zif_pos c22_5 hres
        refine lv_aload_n hx hb dX5_from_100 rfl (lv_at hl 0 rfl) ?_
        refine lv_ldc (v := (-1000000004 : Int32)) hx hb hown (hz _ kK_X5_155) dX5_from_101 ?_
        refine zci (zrunV C0 hH (c_X5_finding l D cy ad _ _) kM_X5_59 zK5 kq_X5_finding zX0 rfl hl.1 rfl rfl rfl ⟨Nat.le_of_ble_eq_true rfl, Nat.le_of_ble_eq_true rfl⟩ (Nat.le_of_ble_eq_true rfl) dX5_from_103) hH (fun H locs hH => ?_)
        exact zreti C0 hH dX5_from_106 (zfst hres) (zsnd hres)
      · have hres := zif_neg c22_5 hres
        refine lv_aload_n hx hb dX5_from_25 rfl (lv_at hl 0 rfl) ?_
        refine zgR C0 hH zK5 2 (by decide) _ zX0 rfl kF_X5_19 dX5_from_26 ?_
        refine lv_aload_n hx hb dX5_from_29 rfl (lv_at hl 0 rfl) ?_
        refine zgR C0 hH zK5 0 (by decide) _ zX0 rfl kF_X5_12 dX5_from_30 ?_
        refine zcv (zrunV C0 hH (c_X2_copyFrom l D cy ad _ _ zRow29 _ zRow1) kM_X5_156 zK2 kq_X2_copyFrom zRow29.is rfl hl.1 rfl rfl rfl ⟨Nat.le_of_ble_eq_true rfl, Nat.le_of_ble_eq_true rfl⟩ (Nat.le_of_ble_eq_true rfl) dX5_from_33) hH (fun H locs hH => ?_)
        refine lv_aload_n hx hb dX5_from_36 rfl (lv_at hl 0 rfl) ?_
        refine zgR C0 hH zK5 2 (by decide) _ zX0 rfl kF_X5_19 dX5_from_37 ?_
        refine lv_iload_n hx hb dX5_from_40 rfl (lv_at hl 2 rfl) ?_
        refine zpN C0 hH zK2 3 (by decide) zRow29.is rfl rfl zOk_int zcn kN_X5_126 dX5_from_41 (fun H locs hH => ?_)
        refine lv_iconst (v := (1 : Int32)) hx hb dX5_from_44 (by decide) ?_
        refine lv_istore_n (lv' := [(3, _), (0, _), (1, _), (2, _)]) hx hb dX5_from_45 rfl hl (by decide) rfl (fun ls hl => ?_)
        refine lv_iconst (v := (0 : Int32)) hx hb dX5_from_46 (by decide) ?_
        refine lv_istore (lv' := [(4, _), (3, _), (0, _), (1, _), (2, _)]) hx hb dX5_from_47 hl (by decide) rfl (fun ls hl => ?_)
        exact L49 (61) _ _ _ _ _ _ _ (by assumption) (by first | assumption | (clear hres; grind [f_X5_within, f_X2_has])) (by first | exact zCt.start (by decide) (by decide) | exact zCt.step (m := 60) hct (by clear hres; grind [f_X5_within, f_X2_has, slot_X1]) (by decide)) (by first | assumption | (clear hres; grind [f_X5_within, f_X2_has])) hH (lv_sub hl [2, 3, 4, 1, 0] rfl) hres
  refine lv_iload_n hx hb dX5_from_0 rfl (lv_at hl 1 rfl) ?_
  refine lv_iconst (v := (1 : Int32)) hx hb dX5_from_1 (by decide) ?_
  refine lv_bipush (v := (60 : Int32)) hx hb dX5_from_2 (by decide) ?_
  refine zcz (zrunS C0 hH (c_X5_within l D cy ad _ _ _ _) kM_X5_54 kq_X5_within rfl hl.1 rfl rfl rfl ⟨Nat.le_of_ble_eq_true rfl, Nat.le_of_ble_eq_true rfl⟩ (Nat.le_of_ble_eq_true rfl) dX5_from_4) hH (fun H locs hH h01_1 => ?_)
  refine lv_if_ne (tgt := 17) hx hb dX5_from_7 (by decide) (fun c7_3 => ?_) (fun c7_3 => ?_)
  · have hres := zif_neg c7_3 hres
    refine lv_iconst (v := (0 : Int32)) hx hb dX5_from_17 (by decide) ?_
    refine lv_istore_n (lv' := [(2, _), (0, _), (1, _)]) hx hb dX5_from_18 rfl hl (by decide) rfl (fun ls hl => ?_)
    exact L19 (101) _ _ _ _ _ (by first | exact zCt.start (by decide) (by decide) | exact zCt.step (m := 100) (by assumption) (by first | assumption | (clear hres; grind [f_X5_within, f_X2_has, slot_X1])) (by decide)) (by first | assumption | (clear hres; grind [f_X5_within, f_X2_has])) hH (lv_sub hl [1, 2, 0] rfl) hres
  · have hres := zif_pos c7_3 hres
    refine lv_aload_n hx hb dX5_from_10 rfl (lv_at hl 0 rfl) ?_
    refine lv_ldc (v := (-1000000001 : Int32)) hx hb hown (hz _ kK_X5_58) dX5_from_11 ?_
    refine zci (zrunV C0 hH (c_X5_finding l D cy ad _ _) kM_X5_59 zK5 kq_X5_finding zX0 rfl hl.1 rfl rfl rfl ⟨Nat.le_of_ble_eq_true rfl, Nat.le_of_ble_eq_true rfl⟩ (Nat.le_of_ble_eq_true rfl) dX5_from_13) hH (fun H locs hH => ?_)
    exact zreti C0 hH dX5_from_16 (zfst hres) (zsnd hres)
set_option maxRecDepth 100000 in
set_option maxHeartbeats 4000000 in
theorem c_X5_still (l : Launch) (D : va_G) (cy : Nat → ClassId) (ad : Nat → Nat) (M : zM) (p1 : Int32) (p2 : Int32) (p3 : Int32) : Met l yX5_still (Cond.code yX5_still cX5_still 7 (some .int) :: zG) ({ frames := 25, cells := 0, slots := 0, locals := 915 }) (zP D lyC cy ad [.ref (ad 0), .int p1, .int p2, .int p3] M) (zQi D lyC cy ad (f_X5_still p1 p2 p3 M).1 (f_X5_still p1 p2 p3 M).2) 0 0 (zA lyC ad) := by
  generalize hres : (f_X5_still p1 p2 p3 M) = res
  refine zMet (by decide) (Nat.le_of_ble_eq_true rfl) ?_
  intro p e s m args below meth c ls C0 hH hl
  obtain ⟨⟨hx, hb, hml, hown, hts⟩, -⟩ := id C0
  have hz : ∀ w ∈ zG, w.before args s = true := fun w h => hts w (List.mem_cons_of_mem _ h)
  have hl : lv_has ls 7 [(0, .ref (ad 0)), (1, .int p1), (2, .int p2), (3, .int p3)] := hl
  have g0 := hH.row zRow1
  have J32 : ∀ (mm : zM) (H : Heap) (locs : List Loc) (ls : Array Slot), zH D lyC cy ad s.heap mm H locs → lv_has ls 7 [(0, .ref (ad 0))] → f_X5_still_32 p1 p2 p3 mm = res → W p l e { frames := 25, cells := 0, slots := 0, locals := 915 } s m args below meth c H locs 0 0 (MQ below (zQi D lyC cy ad res.1 res.2) args s 0 0 (zA lyC ad)) (F0 m 32 ls []) := by
    intro mm H locs ls hH hl hres
    refine lv_aload_n hx hb dX5_still_32 rfl (lv_at hl 0 rfl) ?_
    refine lv_ldc (v := (-1000000001 : Int32)) hx hb hown (hz _ kK_X5_58) dX5_still_33 ?_
    refine zci (zrunV C0 hH (c_X5_finding l D cy ad _ _) kM_X5_59 zK5 kq_X5_finding zX0 rfl hl.1 rfl rfl rfl ⟨Nat.le_of_ble_eq_true rfl, Nat.le_of_ble_eq_true rfl⟩ (Nat.le_of_ble_eq_true rfl) dX5_still_35) hH (fun H locs hH => ?_)
    exact zreti C0 hH dX5_still_38 (zfst hres) (zsnd hres)
  have L42 : ∀ (n42 : Nat), ∀ (v4 : Int32) (mm : zM) (H : Heap) (locs : List Loc) (ls : Array Slot), (zCt 100 n42 v4) → (p2 ≤ 60) → (0 ≤ p1 ∧ p1 < 10) → zH D lyC cy ad s.heap mm H locs → lv_has ls 7 [(0, .ref (ad 0)), (1, .int p1), (2, .int p2), (3, .int p3), (4, .int v4)] → f_X5_still_42 p1 p2 p3 n42 v4 mm = res → W p l e { frames := 25, cells := 0, slots := 0, locals := 915 } s m args below meth c H locs 0 0 (MQ below (zQi D lyC cy ad res.1 res.2) args s 0 0 (zA lyC ad)) (F0 m 42 ls []) := by
    intro n42
    induction n42 with
    | zero =>
      intro v4 mm H locs ls hct hp hbk hH hl hres
      exfalso; exact hct.zero
    | succ n42 ih42 =>
      have J122 : ∀ (v4 : Int32) (v5 : Int32) (mm : zM) (H : Heap) (locs : List Loc) (ls : Array Slot), (zCt 100 (n42 + 1) v4) → (v4 < 100) → (p2 ≤ 60) → (0 ≤ p1 ∧ p1 < 10) → zH D lyC cy ad s.heap mm H locs → lv_has ls 7 [(0, .ref (ad 0)), (1, .int p1), (2, .int p2), (3, .int p3), (4, .int v4), (5, .int v5)] → f_X5_still_122 p1 p2 p3 (fun wv4 wmm => f_X5_still_42 p1 p2 p3 n42 wv4 wmm) v4 v5 mm = res → W p l e { frames := 25, cells := 0, slots := 0, locals := 915 } s m args below meth c H locs 0 0 (MQ below (zQi D lyC cy ad res.1 res.2) args s 0 0 (zA lyC ad)) (F0 m 122 ls []) := by
        intro v4 v5 mm H locs ls hco hv hp hbk hH hl hres
        refine lv_iload hx hb dX5_still_122 (lv_at hl 5 rfl) ?_
        refine lv_if_eq (tgt := 130) hx hb dX5_still_124 (by decide) (fun c124_20 => ?_) (fun c124_20 => ?_)
        · have hres := zif_pos c124_20 hres
          refine ziinc (lv' := [(4, _), (0, _), (1, _), (2, _), (3, _), (5, _)]) (k := 4) hx hb (1 : Int32) (by decide) dX5_still_130 hl rfl (by decide) rfl (fun ls hl => ?_)
          refine lv_goto (tgt := 42) hx hb dX5_still_133 (by decide) ?_
          exact ih42 _ _ _ _ _ (by first | exact zCt.start (by decide) (by decide) | exact zCt.step (m := 100) (by assumption) (by first | assumption | (clear hres; grind [f_X5_within, f_X2_has, slot_X1])) (by decide)) (by first | assumption | (clear hres; grind [f_X5_within, f_X2_has])) (by first | assumption | (have q0 := hH.row zRow1; clear hres; grind [f_X5_within, f_X2_has])) hH (lv_sub hl [1, 2, 3, 4, 0] rfl) hres
        · have hres := zif_neg c124_20 hres
          refine lv_iload hx hb dX5_still_127 (lv_at hl 4 rfl) ?_
          exact zreti C0 hH dX5_still_129 (zfst hres) (zsnd hres)
      have L80 : ∀ (n80 : Nat), ∀ (v4 : Int32) (v5 : Int32) (v6 : Int32) (mm : zM) (H : Heap) (locs : List Loc) (ls : Array Slot), (zCt 100 (n42 + 1) v4) → (v4 < 100) → (zCt 60 n80 v6) → (p2 ≤ 60) → (0 ≤ p1 ∧ p1 < 10) → zH D lyC cy ad s.heap mm H locs → lv_has ls 7 [(0, .ref (ad 0)), (1, .int p1), (2, .int p2), (3, .int p3), (4, .int v4), (5, .int v5), (6, .int v6)] → f_X5_still_80 p1 p2 p3 (fun wv4 wmm => f_X5_still_42 p1 p2 p3 n42 wv4 wmm) n80 v4 v5 v6 mm = res → W p l e { frames := 25, cells := 0, slots := 0, locals := 915 } s m args below meth c H locs 0 0 (MQ below (zQi D lyC cy ad res.1 res.2) args s 0 0 (zA lyC ad)) (F0 m 80 ls []) := by
        intro n80
        induction n80 with
        | zero =>
          intro v4 v5 v6 mm H locs ls hco hv hct hp hbk hH hl hres
          exfalso; exact hct.zero
        | succ n80 ih80 =>
          intro v4 v5 v6 mm H locs ls hco hv hct hp hbk hH hl hres
          refine lv_iload hx hb dX5_still_80 (lv_at hl 6 rfl) ?_
          refine lv_iload_n hx hb dX5_still_82 rfl (lv_at hl 2 rfl) ?_
          refine lv_icmp_ge (tgt := 122) hx hb dX5_still_83 (by decide) (fun c83_16 => ?_) (fun c83_16 => ?_)
          · have hres := zif_pos c83_16 hres
            exact J122 _ _ _ _ _ _ (by assumption) (by first | assumption | (clear hres; grind [f_X5_within, f_X2_has])) (by first | assumption | (clear hres; grind [f_X5_within, f_X2_has])) (by first | assumption | (clear hres; grind [f_X5_within, f_X2_has])) hH (lv_sub hl [0, 1, 2, 3, 4, 5] rfl) hres
          · have hres := zif_neg c83_16 hres
            refine lv_iload hx hb dX5_still_86 (lv_at hl 5 rfl) ?_
            refine lv_if_eq (tgt := 122) hx hb dX5_still_88 (by decide) (fun c88_17 => ?_) (fun c88_17 => ?_)
            · have hres := zif_pos c88_17 hres
              exact J122 _ _ _ _ _ _ (by assumption) (by first | assumption | (clear hres; grind [f_X5_within, f_X2_has])) (by first | assumption | (clear hres; grind [f_X5_within, f_X2_has])) (by first | assumption | (clear hres; grind [f_X5_within, f_X2_has])) hH (lv_sub hl [0, 1, 2, 3, 4, 5] rfl) hres
            · have hres := zif_neg c88_17 hres
              refine lv_aload_n hx hb dX5_still_91 rfl (lv_at hl 0 rfl) ?_
              refine zgR C0 hH zK5 2 (by decide) _ zX0 rfl kF_X5_19 dX5_still_92 ?_
              refine zcv (zrunV C0 hH (c_X2_tick l D cy ad _ _ zRow29) kM_X5_129 zK2 kq_X2_tick zRow29.is rfl hl.1 rfl rfl rfl ⟨Nat.le_of_ble_eq_true rfl, Nat.le_of_ble_eq_true rfl⟩ (Nat.le_of_ble_eq_true rfl) dX5_still_95) hH (fun H locs hH => ?_)
              refine lv_aload_n hx hb dX5_still_98 rfl (lv_at hl 0 rfl) ?_
              refine zgR C0 hH zK5 2 (by decide) _ zX0 rfl kF_X5_19 dX5_still_99 ?_
              refine zgIN C0 hH zK2 5 (by decide) zRow29.is rfl kN_X5_136 dX5_still_102 ?_
              refine lv_iload_n hx hb dX5_still_105 rfl (lv_at hl 3 rfl) ?_
              refine lv_icmp_gt (tgt := 113) hx hb dX5_still_106 (by decide) (fun c106_19 => ?_) (fun c106_19 => ?_)
              · have hres := zif_pos c106_19 hres
                refine lv_iconst (v := (0 : Int32)) hx hb dX5_still_113 (by decide) ?_
                refine lv_istore (lv' := [(5, _), (0, _), (1, _), (2, _), (3, _), (4, _), (6, _)]) hx hb dX5_still_114 hl (by decide) rfl (fun ls hl => ?_)
                refine ziinc (lv' := [(6, _), (5, _), (0, _), (1, _), (2, _), (3, _), (4, _)]) (k := 6) hx hb (1 : Int32) (by decide) dX5_still_116 hl rfl (by decide) rfl (fun ls hl => ?_)
                refine lv_goto (tgt := 80) hx hb dX5_still_119 (by decide) ?_
                exact ih80 _ _ _ _ _ _ _ (by assumption) (by first | assumption | (clear hres; grind [f_X5_within, f_X2_has])) (by first | exact zCt.start (by decide) (by decide) | exact zCt.step (m := 60) hct (by clear hres; grind [f_X5_within, f_X2_has, slot_X1]) (by decide)) (by first | assumption | (clear hres; grind [f_X5_within, f_X2_has])) (by first | assumption | (clear hres; grind [f_X5_within, f_X2_has])) hH (lv_sub hl [2, 3, 4, 5, 6, 1, 0] rfl) hres
              · have hres := zif_neg c106_19 hres
                refine lv_iconst (v := (1 : Int32)) hx hb dX5_still_109 (by decide) ?_
                refine lv_goto (tgt := 114) hx hb dX5_still_110 (by decide) ?_
                refine lv_istore (lv' := [(5, _), (0, _), (1, _), (2, _), (3, _), (4, _), (6, _)]) hx hb dX5_still_114 hl (by decide) rfl (fun ls hl => ?_)
                refine ziinc (lv' := [(6, _), (5, _), (0, _), (1, _), (2, _), (3, _), (4, _)]) (k := 6) hx hb (1 : Int32) (by decide) dX5_still_116 hl rfl (by decide) rfl (fun ls hl => ?_)
                refine lv_goto (tgt := 80) hx hb dX5_still_119 (by decide) ?_
                exact ih80 _ _ _ _ _ _ _ (by assumption) (by first | assumption | (clear hres; grind [f_X5_within, f_X2_has])) (by first | exact zCt.start (by decide) (by decide) | exact zCt.step (m := 60) hct (by clear hres; grind [f_X5_within, f_X2_has, slot_X1]) (by decide)) (by first | assumption | (clear hres; grind [f_X5_within, f_X2_has])) (by first | assumption | (clear hres; grind [f_X5_within, f_X2_has])) hH (lv_sub hl [2, 3, 4, 5, 6, 1, 0] rfl) hres
      intro v4 mm H locs ls hct hp hbk hH hl hres
      refine lv_iload hx hb dX5_still_42 (lv_at hl 4 rfl) ?_
      refine lv_bipush (v := (99 : Int32)) hx hb dX5_still_44 (by decide) ?_
      refine lv_icmp_gt (tgt := 136) hx hb dX5_still_46 (by decide) (fun c46_11 => ?_) (fun c46_11 => ?_)
      · have hres := zif_pos c46_11 hres
        refine lv_aload_n hx hb dX5_still_136 rfl (lv_at hl 0 rfl) ?_
        refine lv_ldc (v := (-1000000004 : Int32)) hx hb hown (hz _ kK_X5_155) dX5_still_137 ?_
        refine zci (zrunV C0 hH (c_X5_finding l D cy ad _ _) kM_X5_59 zK5 kq_X5_finding zX0 rfl hl.1 rfl rfl rfl ⟨Nat.le_of_ble_eq_true rfl, Nat.le_of_ble_eq_true rfl⟩ (Nat.le_of_ble_eq_true rfl) dX5_still_139) hH (fun H locs hH => ?_)
        exact zreti C0 hH dX5_still_142 (zfst hres) (zsnd hres)
      · have hres := zif_neg c46_11 hres
        refine lv_aload_n hx hb dX5_still_49 rfl (lv_at hl 0 rfl) ?_
        refine zgR C0 hH zK5 2 (by decide) _ zX0 rfl kF_X5_19 dX5_still_50 ?_
        refine lv_aload_n hx hb dX5_still_53 rfl (lv_at hl 0 rfl) ?_
        refine zgR C0 hH zK5 0 (by decide) _ zX0 rfl kF_X5_12 dX5_still_54 ?_
        refine zcv (zrunV C0 hH (c_X2_copyFrom l D cy ad _ _ zRow29 _ zRow1) kM_X5_156 zK2 kq_X2_copyFrom zRow29.is rfl hl.1 rfl rfl rfl ⟨Nat.le_of_ble_eq_true rfl, Nat.le_of_ble_eq_true rfl⟩ (Nat.le_of_ble_eq_true rfl) dX5_still_57) hH (fun H locs hH => ?_)
        refine lv_aload_n hx hb dX5_still_60 rfl (lv_at hl 0 rfl) ?_
        refine zgR C0 hH zK5 2 (by decide) _ zX0 rfl kF_X5_19 dX5_still_61 ?_
        refine zgRN C0 hH zK2 0 (by decide) _ zRow29.is rfl kN_X5_68 dX5_still_64 ?_
        refine lv_iload_n hx hb dX5_still_67 rfl (lv_at hl 1 rfl) ?_
        refine zqldB C0 hH zRow29 (by exact zin10.mpr (by have q0 := hH.row zRow1; have q1 := hH.bkl zBk43; have q2 := hH.bkn zBk43; obtain ⟨qa, qb, -⟩ := hct; clear hres; grind [f_X5_within, f_X2_has, slot_X1])) dX5_still_68 (fun hb14 => ?_)
        refine lv_iload hx hb dX5_still_69 (lv_at hl 4 rfl) ?_
        refine zpN C0 hH zK0 4 (by decide) hb14 rfl rfl zOk_int zcn kN_X5_94 dX5_still_71 (fun H locs hH => ?_)
        refine lv_iconst (v := (1 : Int32)) hx hb dX5_still_74 (by decide) ?_
        refine lv_istore (lv' := [(5, _), (0, _), (1, _), (2, _), (3, _), (4, _)]) hx hb dX5_still_75 hl (by decide) rfl (fun ls hl => ?_)
        refine lv_iconst (v := (0 : Int32)) hx hb dX5_still_77 (by decide) ?_
        refine lv_istore (lv' := [(6, _), (5, _), (0, _), (1, _), (2, _), (3, _), (4, _)]) hx hb dX5_still_78 hl (by decide) rfl (fun ls hl => ?_)
        exact L80 (61) _ _ _ _ _ _ _ (by assumption) (by first | assumption | (clear hres; grind [f_X5_within, f_X2_has])) (by first | exact zCt.start (by decide) (by decide) | exact zCt.step (m := 60) hct (by clear hres; grind [f_X5_within, f_X2_has, slot_X1]) (by decide)) (by first | assumption | (clear hres; grind [f_X5_within, f_X2_has])) (by first | assumption | (clear hres; grind [f_X5_within, f_X2_has])) hH (lv_sub hl [2, 3, 4, 5, 6, 1, 0] rfl) hres
  refine lv_aload_n hx hb dX5_still_0 rfl (lv_at hl 0 rfl) ?_
  refine zgR C0 hH zK5 0 (by decide) _ zX0 rfl kF_X5_12 dX5_still_1 ?_
  refine lv_iload_n hx hb dX5_still_4 rfl (lv_at hl 1 rfl) ?_
  refine zcz (zrunV C0 hH (c_X2_has l D cy ad _ _ zRow1 _) kM_X5_78 zK2 kq_X2_has zRow1.is rfl hl.1 rfl rfl rfl ⟨Nat.le_of_ble_eq_true rfl, Nat.le_of_ble_eq_true rfl⟩ (Nat.le_of_ble_eq_true rfl) dX5_still_5) hH (fun H locs hH h01_1 => ?_)
  refine lv_if_eq (tgt := 32) hx hb dX5_still_8 (by decide) (fun c8_3 => ?_) (fun c8_3 => ?_)
  · have hres := zif_pos c8_3 hres
    exact J32 _ _ _ _ hH (lv_sub hl [0] rfl) hres
  · have hres := zif_neg c8_3 hres
    refine lv_iload_n hx hb dX5_still_11 rfl (lv_at hl 2 rfl) ?_
    refine lv_iconst (v := (1 : Int32)) hx hb dX5_still_12 (by decide) ?_
    refine lv_bipush (v := (60 : Int32)) hx hb dX5_still_13 (by decide) ?_
    refine zcz (zrunS C0 hH (c_X5_within l D cy ad _ _ _ _) kM_X5_54 kq_X5_within rfl hl.1 rfl rfl rfl ⟨Nat.le_of_ble_eq_true rfl, Nat.le_of_ble_eq_true rfl⟩ (Nat.le_of_ble_eq_true rfl) dX5_still_15) hH (fun H locs hH h01_4 => ?_)
    refine lv_if_eq (tgt := 32) hx hb dX5_still_18 (by decide) (fun c18_6 => ?_) (fun c18_6 => ?_)
    · have hres := zif_pos c18_6 hres
      exact J32 _ _ _ _ hH (lv_sub hl [0] rfl) hres
    · have hres := zif_neg c18_6 hres
      refine lv_iload_n hx hb dX5_still_21 rfl (lv_at hl 3 rfl) ?_
      refine lv_iconst (v := (0 : Int32)) hx hb dX5_still_22 (by decide) ?_
      refine lv_sipush (v := (400 : Int32)) hx hb dX5_still_23 (by decide) ?_
      refine zcz (zrunS C0 hH (c_X5_within l D cy ad _ _ _ _) kM_X5_54 kq_X5_within rfl hl.1 rfl rfl rfl ⟨Nat.le_of_ble_eq_true rfl, Nat.le_of_ble_eq_true rfl⟩ (Nat.le_of_ble_eq_true rfl) dX5_still_26) hH (fun H locs hH h01_7 => ?_)
      refine lv_if_ne (tgt := 39) hx hb dX5_still_29 (by decide) (fun c29_9 => ?_) (fun c29_9 => ?_)
      · have hres := zif_neg c29_9 hres
        refine lv_iconst (v := (0 : Int32)) hx hb dX5_still_39 (by decide) ?_
        refine lv_istore (lv' := [(4, _), (0, _), (1, _), (2, _), (3, _)]) hx hb dX5_still_40 hl (by decide) rfl (fun ls hl => ?_)
        exact L42 (101) _ _ _ _ _ (by first | exact zCt.start (by decide) (by decide) | exact zCt.step (m := 100) (by assumption) (by first | assumption | (clear hres; grind [f_X5_within, f_X2_has, slot_X1])) (by decide)) (by first | assumption | (clear hres; grind [f_X5_within, f_X2_has])) (by first | assumption | (have q0 := hH.row zRow1; clear hres; grind [f_X5_within, f_X2_has])) hH (lv_sub hl [1, 2, 3, 4, 0] rfl) hres
      · have hres := zif_pos c29_9 hres
        exact J32 _ _ _ _ hH (lv_sub hl [0] rfl) hres
set_option maxRecDepth 100000 in
set_option maxHeartbeats 4000000 in
theorem c_X5_which (l : Launch) (D : va_G) (cy : Nat → ClassId) (ad : Nat → Nat) (M : zM) (p1 : Int32) (p2 : Int32) : Met l yX5_which (Cond.code yX5_which cX5_which 8 (some .int) :: zG) ({ frames := 25, cells := 0, slots := 0, locals := 915 }) (zP D lyC cy ad [.ref (ad 0), .int p1, .int p2] M) (zQi D lyC cy ad (f_X5_which p1 p2 M).1 (f_X5_which p1 p2 M).2) 0 0 (zA lyC ad) := by
  generalize hres : (f_X5_which p1 p2 M) = res
  refine zMet (by decide) (Nat.le_of_ble_eq_true rfl) ?_
  intro p e s m args below meth c ls C0 hH hl
  obtain ⟨⟨hx, hb, hml, hown, hts⟩, -⟩ := id C0
  have hz : ∀ w ∈ zG, w.before args s = true := fun w h => hts w (List.mem_cons_of_mem _ h)
  have hl : lv_has ls 8 [(0, .ref (ad 0)), (1, .int p1), (2, .int p2)] := hl
  have g0 := hH.row zRow1
  have J20 : ∀ (mm : zM) (H : Heap) (locs : List Loc) (ls : Array Slot), zH D lyC cy ad s.heap mm H locs → lv_has ls 8 [(0, .ref (ad 0))] → f_X5_which_20 p1 p2 mm = res → W p l e { frames := 25, cells := 0, slots := 0, locals := 915 } s m args below meth c H locs 0 0 (MQ below (zQi D lyC cy ad res.1 res.2) args s 0 0 (zA lyC ad)) (F0 m 20 ls []) := by
    intro mm H locs ls hH hl hres
    refine lv_aload_n hx hb dX5_which_20 rfl (lv_at hl 0 rfl) ?_
    refine lv_ldc (v := (-1000000001 : Int32)) hx hb hown (hz _ kK_X5_58) dX5_which_21 ?_
    refine zci (zrunV C0 hH (c_X5_finding l D cy ad _ _) kM_X5_59 zK5 kq_X5_finding zX0 rfl hl.1 rfl rfl rfl ⟨Nat.le_of_ble_eq_true rfl, Nat.le_of_ble_eq_true rfl⟩ (Nat.le_of_ble_eq_true rfl) dX5_which_23) hH (fun H locs hH => ?_)
    exact zreti C0 hH dX5_which_26 (zfst hres) (zsnd hres)
  have L68 : ∀ (n68 : Nat), ∀ (c3 : Nat) (v4 : Int32) (v5 : Int32) (mm : zM) (hc3 : zSh c3) (H : Heap) (locs : List Loc) (ls : Array Slot), (zCt 6 n68 v5) → (0 ≤ p1 ∧ p1 < 10) → zH D lyC cy ad s.heap mm H locs → lv_has ls 8 [(0, .ref (ad 0)), (1, .int p1), (3, .ref (ad c3)), (4, .int v4), (5, .int v5)] → f_X5_which_68 p1 p2 n68 c3 v4 v5 mm = res → W p l e { frames := 25, cells := 0, slots := 0, locals := 915 } s m args below meth c H locs 0 0 (MQ below (zQi D lyC cy ad res.1 res.2) args s 0 0 (zA lyC ad)) (F0 m 68 ls []) := by
    intro n68
    induction n68 with
    | zero =>
      intro c3 v4 v5 mm hc3 H locs ls hct hbk hH hl hres
      exfalso; exact hct.zero
    | succ n68 ih68 =>
      have J159 : ∀ (c3 : Nat) (v4 : Int32) (v5 : Int32) (v6 : Int32) (mm : zM) (hc3 : zSh c3) (H : Heap) (locs : List Loc) (ls : Array Slot), (zCt 6 (n68 + 1) v5) → (v5 < 6) → (0 ≤ p1 ∧ p1 < 10) → zH D lyC cy ad s.heap mm H locs → lv_has ls 8 [(0, .ref (ad 0)), (1, .int p1), (3, .ref (ad c3)), (4, .int v4), (5, .int v5), (6, .int v6)] → f_X5_which_159 p1 p2 (fun wc3 wv4 wv5 wmm => f_X5_which_68 p1 p2 n68 wc3 wv4 wv5 wmm) c3 v4 v5 v6 mm = res → W p l e { frames := 25, cells := 0, slots := 0, locals := 915 } s m args below meth c H locs 0 0 (MQ below (zQi D lyC cy ad res.1 res.2) args s 0 0 (zA lyC ad)) (F0 m 159 ls []) := by
        intro c3 v4 v5 v6 mm hc3 H locs ls hco hv hbk hH hl hres
        refine lv_iload hx hb dX5_which_159 (lv_at hl 3 rfl) ?_
        refine lv_iload hx hb dX5_which_161 (lv_at hl 5 rfl) ?_
        refine lv_if_eq (tgt := 173) hx hb dX5_which_163 (by decide) (fun c163_23 => ?_) (fun c163_23 => ?_)
        · have hres := zif_pos c163_23 hres
          refine lv_iconst (v := (0 : Int32)) hx hb dX5_which_173 (by decide) ?_
          refine lv_ior hx hb dX5_which_174 ?_
          refine lv_istore (lv' := [(4, _), (0, _), (1, _), (3, _), (5, _), (6, _)]) hx hb dX5_which_175 hl (by decide) rfl (fun ls hl => ?_)
          refine ziinc (lv' := [(5, _), (4, _), (0, _), (1, _), (3, _), (6, _)]) (k := 4) hx hb (1 : Int32) (by decide) dX5_which_177 hl rfl (by decide) rfl (fun ls hl => ?_)
          refine lv_goto (tgt := 68) hx hb dX5_which_180 (by decide) ?_
          exact ih68 _ _ _ _ hc3 _ _ _ (by first | exact zCt.start (by decide) (by decide) | exact zCt.step (m := 6) (by assumption) (by first | assumption | (clear hres; grind [f_X5_within, f_X2_has, slot_X1])) (by decide)) (by first | assumption | (have q0 := hH.row zRow1; clear hres; grind [f_X5_within, f_X2_has])) hH (lv_sub hl [2, 3, 4, 1, 0] rfl) hres
        · have hres := zif_neg c163_23 hres
          refine lv_iconst (v := (1 : Int32)) hx hb dX5_which_166 (by decide) ?_
          refine lv_iload hx hb dX5_which_167 (lv_at hl 4 rfl) ?_
          refine lv_ishl hx hb dX5_which_169 ?_
          refine lv_goto (tgt := 174) hx hb dX5_which_170 (by decide) ?_
          refine lv_ior hx hb dX5_which_174 ?_
          refine lv_istore (lv' := [(4, _), (0, _), (1, _), (3, _), (5, _), (6, _)]) hx hb dX5_which_175 hl (by decide) rfl (fun ls hl => ?_)
          refine ziinc (lv' := [(5, _), (4, _), (0, _), (1, _), (3, _), (6, _)]) (k := 4) hx hb (1 : Int32) (by decide) dX5_which_177 hl rfl (by decide) rfl (fun ls hl => ?_)
          refine lv_goto (tgt := 68) hx hb dX5_which_180 (by decide) ?_
          exact ih68 _ _ _ _ hc3 _ _ _ (by first | exact zCt.start (by decide) (by decide) | exact zCt.step (m := 6) (by assumption) (by first | assumption | (clear hres; grind [f_X5_within, f_X2_has, slot_X1])) (by decide)) (by first | assumption | (have q0 := hH.row zRow1; clear hres; grind [f_X5_within, f_X2_has])) hH (lv_sub hl [2, 3, 4, 1, 0] rfl) hres
      have L106 : ∀ (n106 : Nat), ∀ (c3 : Nat) (v4 : Int32) (v5 : Int32) (v6 : Int32) (v7 : Int32) (mm : zM) (hc3 : zSh c3) (H : Heap) (locs : List Loc) (ls : Array Slot), (zCt 6 (n68 + 1) v5) → (v5 < 6) → (zCt 40 n106 v7) → (0 ≤ p1 ∧ p1 < 10) → zH D lyC cy ad s.heap mm H locs → lv_has ls 8 [(0, .ref (ad 0)), (1, .int p1), (3, .ref (ad c3)), (4, .int v4), (5, .int v5), (6, .int v6), (7, .int v7)] → f_X5_which_106 p1 p2 (fun wc3 wv4 wv5 wmm => f_X5_which_68 p1 p2 n68 wc3 wv4 wv5 wmm) n106 c3 v4 v5 v6 v7 mm = res → W p l e { frames := 25, cells := 0, slots := 0, locals := 915 } s m args below meth c H locs 0 0 (MQ below (zQi D lyC cy ad res.1 res.2) args s 0 0 (zA lyC ad)) (F0 m 106 ls []) := by
        intro n106
        induction n106 with
        | zero =>
          intro c3 v4 v5 v6 v7 mm hc3 H locs ls hco hv hct hbk hH hl hres
          exfalso; exact hct.zero
        | succ n106 ih106 =>
          intro c3 v4 v5 v6 v7 mm hc3 H locs ls hco hv hct hbk hH hl hres
          have g0 := hH.sh hc3
          refine lv_iload hx hb dX5_which_106 (lv_at hl 6 rfl) ?_
          refine lv_aload_n hx hb dX5_which_108 rfl (lv_at hl 2 rfl) ?_
          refine zgIN C0 hH zK3 2 (by decide) hc3.is rfl kN_X5_170 dX5_which_109 ?_
          refine lv_icmp_ge (tgt := 159) hx hb dX5_which_112 (by decide) (fun c112_19 => ?_) (fun c112_19 => ?_)
          · have hres := zif_pos c112_19 hres
            exact J159 _ _ _ _ _ hc3 _ _ _ (by assumption) (by first | assumption | (clear hres; grind [f_X5_within, f_X2_has])) (by first | assumption | (clear hres; grind [f_X5_within, f_X2_has])) hH (lv_sub hl [0, 1, 2, 3, 4, 5] rfl) hres
          · have hres := zif_neg c112_19 hres
            refine lv_iload hx hb dX5_which_115 (lv_at hl 5 rfl) ?_
            refine lv_if_eq (tgt := 159) hx hb dX5_which_117 (by decide) (fun c117_20 => ?_) (fun c117_20 => ?_)
            · have hres := zif_pos c117_20 hres
              exact J159 _ _ _ _ _ hc3 _ _ _ (by assumption) (by first | assumption | (clear hres; grind [f_X5_within, f_X2_has])) (by first | assumption | (clear hres; grind [f_X5_within, f_X2_has])) hH (lv_sub hl [0, 1, 2, 3, 4, 5] rfl) hres
            · have hres := zif_neg c117_20 hres
              refine lv_aload_n hx hb dX5_which_120 rfl (lv_at hl 0 rfl) ?_
              refine zgR C0 hH zK5 2 (by decide) _ zX0 rfl kF_X5_19 dX5_which_121 ?_
              refine zcv (zrunV C0 hH (c_X2_tick l D cy ad _ _ zRow29) kM_X5_129 zK2 kq_X2_tick zRow29.is rfl hl.1 rfl rfl rfl ⟨Nat.le_of_ble_eq_true rfl, Nat.le_of_ble_eq_true rfl⟩ (Nat.le_of_ble_eq_true rfl) dX5_which_124) hH (fun H locs hH => ?_)
              refine lv_aload_n hx hb dX5_which_127 rfl (lv_at hl 0 rfl) ?_
              refine zgR C0 hH zK5 2 (by decide) _ zX0 rfl kF_X5_19 dX5_which_128 ?_
              refine zgIN C0 hH zK2 5 (by decide) zRow29.is rfl kN_X5_136 dX5_which_131 ?_
              refine lv_i2l hx hb dX5_which_134 rfl ?_
              refine lv_aload_n hx hb dX5_which_135 rfl (lv_at hl 2 rfl) ?_
              refine zgRN C0 hH zK3 0 (by decide) _ hc3.is rfl kN_X5_172 dX5_which_136 ?_
              refine lv_iload hx hb dX5_which_139 (lv_at hl 6 rfl) ?_
              refine zlld C0 hH hc3.arr hc3.ln (by exact zin40.mpr (by have q0 := hH.row zRow1; have q1 := hH.bkl zBk43; have q2 := hH.bkn zBk43; have q3 := hH.sh hc3; obtain ⟨qa, qb, -⟩ := hct; clear hres; grind [f_X5_within, f_X2_has, slot_X1])) dX5_which_141 ?_
              refine W.lcmp hx hb dX5_which_142 ?_
              refine lv_if_ne (tgt := 150) hx hb dX5_which_143 (by decide) (fun c143_22 => ?_) (fun c143_22 => ?_)
              · have hres := zif_neg c143_22 hres
                refine lv_iconst (v := (0 : Int32)) hx hb dX5_which_150 (by decide) ?_
                refine lv_istore (lv' := [(6, _), (0, _), (1, _), (3, _), (4, _), (5, _), (7, _)]) hx hb dX5_which_151 hl (by decide) rfl (fun ls hl => ?_)
                refine ziinc (lv' := [(7, _), (6, _), (0, _), (1, _), (3, _), (4, _), (5, _)]) (k := 6) hx hb (1 : Int32) (by decide) dX5_which_153 hl rfl (by decide) rfl (fun ls hl => ?_)
                refine lv_goto (tgt := 106) hx hb dX5_which_156 (by decide) ?_
                exact ih106 _ _ _ _ _ _ hc3 _ _ _ (by assumption) (by first | assumption | (clear hres; grind [f_X5_within, f_X2_has])) (by first | exact zCt.start (by decide) (by decide) | exact zCt.step (m := 40) hct (by clear hres; grind [f_X5_within, f_X2_has, slot_X1]) (by decide)) (by first | assumption | (clear hres; grind [f_X5_within, f_X2_has])) hH (lv_sub hl [2, 3, 4, 5, 6, 1, 0] rfl) hres
              · have hres := zif_pos c143_22 hres
                refine lv_iconst (v := (1 : Int32)) hx hb dX5_which_146 (by decide) ?_
                refine lv_goto (tgt := 151) hx hb dX5_which_147 (by decide) ?_
                refine lv_istore (lv' := [(6, _), (0, _), (1, _), (3, _), (4, _), (5, _), (7, _)]) hx hb dX5_which_151 hl (by decide) rfl (fun ls hl => ?_)
                refine ziinc (lv' := [(7, _), (6, _), (0, _), (1, _), (3, _), (4, _), (5, _)]) (k := 6) hx hb (1 : Int32) (by decide) dX5_which_153 hl rfl (by decide) rfl (fun ls hl => ?_)
                refine lv_goto (tgt := 106) hx hb dX5_which_156 (by decide) ?_
                exact ih106 _ _ _ _ _ _ hc3 _ _ _ (by assumption) (by first | assumption | (clear hres; grind [f_X5_within, f_X2_has])) (by first | exact zCt.start (by decide) (by decide) | exact zCt.step (m := 40) hct (by clear hres; grind [f_X5_within, f_X2_has, slot_X1]) (by decide)) (by first | assumption | (clear hres; grind [f_X5_within, f_X2_has])) hH (lv_sub hl [2, 3, 4, 5, 6, 1, 0] rfl) hres
      intro c3 v4 v5 mm hc3 H locs ls hct hbk hH hl hres
      refine lv_iload hx hb dX5_which_68 (lv_at hl 4 rfl) ?_
      refine lv_bipush (v := (6 : Int32)) hx hb dX5_which_70 (by decide) ?_
      refine lv_icmp_ge (tgt := 183) hx hb dX5_which_72 (by decide) (fun c72_15 => ?_) (fun c72_15 => ?_)
      · have hres := zif_pos c72_15 hres
        refine lv_iload hx hb dX5_which_183 (lv_at hl 3 rfl) ?_
        exact zreti C0 hH dX5_which_185 (zfst hres) (zsnd hres)
      · have hres := zif_neg c72_15 hres
        refine lv_aload_n hx hb dX5_which_75 rfl (lv_at hl 0 rfl) ?_
        refine zgR C0 hH zK5 2 (by decide) _ zX0 rfl kF_X5_19 dX5_which_76 ?_
        refine lv_aload_n hx hb dX5_which_79 rfl (lv_at hl 0 rfl) ?_
        refine zgR C0 hH zK5 0 (by decide) _ zX0 rfl kF_X5_12 dX5_which_80 ?_
        refine zcv (zrunV C0 hH (c_X2_copyFrom l D cy ad _ _ zRow29 _ zRow1) kM_X5_156 zK2 kq_X2_copyFrom zRow29.is rfl hl.1 rfl rfl rfl ⟨Nat.le_of_ble_eq_true rfl, Nat.le_of_ble_eq_true rfl⟩ (Nat.le_of_ble_eq_true rfl) dX5_which_83) hH (fun H locs hH => ?_)
        refine lv_aload_n hx hb dX5_which_86 rfl (lv_at hl 0 rfl) ?_
        refine zgR C0 hH zK5 2 (by decide) _ zX0 rfl kF_X5_19 dX5_which_87 ?_
        refine zgRN C0 hH zK2 0 (by decide) _ zRow29.is rfl kN_X5_68 dX5_which_90 ?_
        refine lv_iload_n hx hb dX5_which_93 rfl (lv_at hl 1 rfl) ?_
        refine zqldB C0 hH zRow29 (by exact zin10.mpr (by have q0 := hH.row zRow1; have q1 := hH.bkl zBk43; have q2 := hH.bkn zBk43; obtain ⟨qa, qb, -⟩ := hct; clear hres; grind [f_X5_within, f_X2_has, slot_X1])) dX5_which_94 (fun hb17 => ?_)
        refine lv_iload hx hb dX5_which_95 (lv_at hl 4 rfl) ?_
        refine zpN C0 hH zK0 0 (by decide) hb17 rfl rfl zOk_int zcn kN_X5_82 dX5_which_97 (fun H locs hH => ?_)
        refine lv_iconst (v := (1 : Int32)) hx hb dX5_which_100 (by decide) ?_
        refine lv_istore (lv' := [(6, _), (0, _), (1, _), (3, _), (4, _), (5, _)]) hx hb dX5_which_101 hl (by decide) rfl (fun ls hl => ?_)
        refine lv_iconst (v := (0 : Int32)) hx hb dX5_which_103 (by decide) ?_
        refine lv_istore (lv' := [(7, _), (6, _), (0, _), (1, _), (3, _), (4, _), (5, _)]) hx hb dX5_which_104 hl (by decide) rfl (fun ls hl => ?_)
        exact L106 (41) _ _ _ _ _ _ hc3 _ _ _ (by assumption) (by first | assumption | (clear hres; grind [f_X5_within, f_X2_has])) (by first | exact zCt.start (by decide) (by decide) | exact zCt.step (m := 40) hct (by clear hres; grind [f_X5_within, f_X2_has, slot_X1]) (by decide)) (by first | assumption | (clear hres; grind [f_X5_within, f_X2_has])) hH (lv_sub hl [2, 3, 4, 5, 6, 1, 0] rfl) hres
  refine lv_aload_n hx hb dX5_which_0 rfl (lv_at hl 0 rfl) ?_
  refine zgR C0 hH zK5 0 (by decide) _ zX0 rfl kF_X5_12 dX5_which_1 ?_
  refine lv_iload_n hx hb dX5_which_4 rfl (lv_at hl 1 rfl) ?_
  refine zcz (zrunV C0 hH (c_X2_has l D cy ad _ _ zRow1 _) kM_X5_78 zK2 kq_X2_has zRow1.is rfl hl.1 rfl rfl rfl ⟨Nat.le_of_ble_eq_true rfl, Nat.le_of_ble_eq_true rfl⟩ (Nat.le_of_ble_eq_true rfl) dX5_which_5) hH (fun H locs hH h01_1 => ?_)
  refine lv_if_eq (tgt := 20) hx hb dX5_which_8 (by decide) (fun c8_3 => ?_) (fun c8_3 => ?_)
  · have hres := zif_pos c8_3 hres
    exact J20 _ _ _ _ hH (lv_sub hl [0] rfl) hres
  · have hres := zif_neg c8_3 hres
    refine lv_iload_n hx hb dX5_which_11 rfl (lv_at hl 2 rfl) ?_
    refine lv_iconst (v := (0 : Int32)) hx hb dX5_which_12 (by decide) ?_
    refine lv_iconst (v := (3 : Int32)) hx hb dX5_which_13 (by decide) ?_
    refine zcz (zrunS C0 hH (c_X5_within l D cy ad _ _ _ _) kM_X5_54 kq_X5_within rfl hl.1 rfl rfl rfl ⟨Nat.le_of_ble_eq_true rfl, Nat.le_of_ble_eq_true rfl⟩ (Nat.le_of_ble_eq_true rfl) dX5_which_14) hH (fun H locs hH h01_4 => ?_)
    refine lv_if_ne (tgt := 27) hx hb dX5_which_17 (by decide) (fun c17_6 => ?_) (fun c17_6 => ?_)
    · have hres := zif_neg c17_6 hres
      refine lv_aload_n hx hb dX5_which_27 rfl (lv_at hl 0 rfl) ?_
      refine zgR C0 hH zK5 7 (by decide) _ zX0 rfl kF_X5_45 dX5_which_28 ?_
      refine lv_iload_n hx hb dX5_which_31 rfl (lv_at hl 2 rfl) ?_
      refine zqldS C0 hH (by exact zin4.mpr (by have q0 := hH.row zRow1; have q1 := hH.bkl zBk43; have q2 := hH.bkn zBk43; clear hres; grind [f_X5_within, f_X2_has, slot_X1])) dX5_which_32 (fun hb7 => ?_)
      refine lv_astore_n (lv' := [(3, _), (0, _), (1, _), (2, _)]) hx hb dX5_which_33 rfl hl (by decide) rfl (fun ls hl => ?_)
      refine lv_aload_n hx hb dX5_which_34 rfl (lv_at hl 0 rfl) ?_
      refine zcz (zrunV C0 hH (c_X3_isMissing l D cy ad _ _ hb7) kM_X5_165 zK3 kq_X3_isMissing hb7.is rfl hl.1 rfl rfl rfl ⟨Nat.le_of_ble_eq_true rfl, Nat.le_of_ble_eq_true rfl⟩ (Nat.le_of_ble_eq_true rfl) dX5_which_35) hH (fun H locs hH h01_8 => ?_)
      refine lv_if_eq (tgt := 48) hx hb dX5_which_38 (by decide) (fun c38_10 => ?_) (fun c38_10 => ?_)
      · have hres := zif_pos c38_10 hres
        refine lv_aload_n hx hb dX5_which_48 rfl (lv_at hl 0 rfl) ?_
        refine zgIN C0 hH zK3 2 (by decide) hb7.is rfl kN_X5_170 dX5_which_49 ?_
        refine lv_if_ne (tgt := 62) hx hb dX5_which_52 (by decide) (fun c52_11 => ?_) (fun c52_11 => ?_)
        · have hres := zif_neg c52_11 hres
          refine lv_iconst (v := (0 : Int32)) hx hb dX5_which_62 (by decide) ?_
          refine lv_istore (lv' := [(4, _), (3, _), (0, _), (1, _), (2, _)]) hx hb dX5_which_63 hl (by decide) rfl (fun ls hl => ?_)
          refine lv_iconst (v := (0 : Int32)) hx hb dX5_which_65 (by decide) ?_
          refine lv_istore (lv' := [(5, _), (4, _), (3, _), (0, _), (1, _), (2, _)]) hx hb dX5_which_66 hl (by decide) rfl (fun ls hl => ?_)
          exact L68 (7) _ _ _ _ hb7 _ _ _ (by first | exact zCt.start (by decide) (by decide) | exact zCt.step (m := 6) (by assumption) (by first | assumption | (clear hres; grind [f_X5_within, f_X2_has, slot_X1])) (by decide)) (by first | assumption | (have q0 := hH.row zRow1; clear hres; grind [f_X5_within, f_X2_has])) hH (lv_sub hl [3, 4, 2, 1, 0] rfl) hres
        · have hres := zif_pos c52_11 hres
          refine lv_aload_n hx hb dX5_which_55 rfl (lv_at hl 1 rfl) ?_
          refine lv_ldc (v := (-1000000007 : Int32)) hx hb hown (hz _ kK_X5_171) dX5_which_56 ?_
          refine zci (zrunV C0 hH (c_X5_finding l D cy ad _ _) kM_X5_59 zK5 kq_X5_finding zX0 rfl hl.1 rfl rfl rfl ⟨Nat.le_of_ble_eq_true rfl, Nat.le_of_ble_eq_true rfl⟩ (Nat.le_of_ble_eq_true rfl) dX5_which_58) hH (fun H locs hH => ?_)
          exact zreti C0 hH dX5_which_61 (zfst hres) (zsnd hres)
      · have hres := zif_neg c38_10 hres
        refine lv_aload_n hx hb dX5_which_41 rfl (lv_at hl 1 rfl) ?_
        refine lv_ldc (v := (-1000000006 : Int32)) hx hb hown (hz _ kK_X5_169) dX5_which_42 ?_
        refine zci (zrunV C0 hH (c_X5_finding l D cy ad _ _) kM_X5_59 zK5 kq_X5_finding zX0 rfl hl.1 rfl rfl rfl ⟨Nat.le_of_ble_eq_true rfl, Nat.le_of_ble_eq_true rfl⟩ (Nat.le_of_ble_eq_true rfl) dX5_which_44) hH (fun H locs hH => ?_)
        exact zreti C0 hH dX5_which_47 (zfst hres) (zsnd hres)
    · have hres := zif_pos c17_6 hres
      exact J20 _ _ _ _ hH (lv_sub hl [0] rfl) hres
set_option maxRecDepth 100000 in
set_option maxHeartbeats 4000000 in
theorem c_X5_together (l : Launch) (D : va_G) (cy : Nat → ClassId) (ad : Nat → Nat) (M : zM) (p1 : Int32) (p2 : Int32) (p3 : Int32) : Met l yX5_together (Cond.code yX5_together cX5_together 6 (some .int) :: zG) ({ frames := 25, cells := 0, slots := 0, locals := 915 }) (zP D lyC cy ad [.ref (ad 0), .int p1, .int p2, .int p3] M) (zQi D lyC cy ad (f_X5_together p1 p2 p3 M).1 (f_X5_together p1 p2 p3 M).2) 0 0 (zA lyC ad) := by
  generalize hres : (f_X5_together p1 p2 p3 M) = res
  refine zMet (by decide) (Nat.le_of_ble_eq_true rfl) ?_
  intro p e s m args below meth c ls C0 hH hl
  obtain ⟨⟨hx, hb, hml, hown, hts⟩, -⟩ := id C0
  have hz : ∀ w ∈ zG, w.before args s = true := fun w h => hts w (List.mem_cons_of_mem _ h)
  have hl : lv_has ls 6 [(0, .ref (ad 0)), (1, .int p1), (2, .int p2), (3, .int p3)] := hl
  have g0 := hH.row zRow1
  have J37 : ∀ (mm : zM) (H : Heap) (locs : List Loc) (ls : Array Slot), zH D lyC cy ad s.heap mm H locs → lv_has ls 6 [(0, .ref (ad 0))] → f_X5_together_37 p1 p2 p3 mm = res → W p l e { frames := 25, cells := 0, slots := 0, locals := 915 } s m args below meth c H locs 0 0 (MQ below (zQi D lyC cy ad res.1 res.2) args s 0 0 (zA lyC ad)) (F0 m 37 ls []) := by
    intro mm H locs ls hH hl hres
    refine lv_aload_n hx hb dX5_together_37 rfl (lv_at hl 0 rfl) ?_
    refine lv_ldc (v := (-1000000001 : Int32)) hx hb hown (hz _ kK_X5_58) dX5_together_38 ?_
    refine zci (zrunV C0 hH (c_X5_finding l D cy ad _ _) kM_X5_59 zK5 kq_X5_finding zX0 rfl hl.1 rfl rfl rfl ⟨Nat.le_of_ble_eq_true rfl, Nat.le_of_ble_eq_true rfl⟩ (Nat.le_of_ble_eq_true rfl) dX5_together_40) hH (fun H locs hH => ?_)
    exact zreti C0 hH dX5_together_43 (zfst hres) (zsnd hres)
  have L61 : ∀ (n61 : Nat), ∀ (v4 : Int32) (v5 : Int32) (mm : zM) (H : Heap) (locs : List Loc) (ls : Array Slot), (zCt 60 n61 v5) → (p3 ≤ 60) → zH D lyC cy ad s.heap mm H locs → lv_has ls 6 [(0, .ref (ad 0)), (1, .int p1), (2, .int p2), (3, .int p3), (4, .int v4), (5, .int v5)] → f_X5_together_61 p1 p2 p3 n61 v4 v5 mm = res → W p l e { frames := 25, cells := 0, slots := 0, locals := 915 } s m args below meth c H locs 0 0 (MQ below (zQi D lyC cy ad res.1 res.2) args s 0 0 (zA lyC ad)) (F0 m 61 ls []) := by
    intro n61
    induction n61 with
    | zero =>
      intro v4 v5 mm H locs ls hct hp hH hl hres
      exfalso; exact hct.zero
    | succ n61 ih61 =>
      intro v4 v5 mm H locs ls hct hp hH hl hres
      refine lv_iload hx hb dX5_together_61 (lv_at hl 5 rfl) ?_
      refine lv_iload_n hx hb dX5_together_63 rfl (lv_at hl 3 rfl) ?_
      refine lv_icmp_ge (tgt := 106) hx hb dX5_together_64 (by decide) (fun c64_13 => ?_) (fun c64_13 => ?_)
      · have hres := zif_pos c64_13 hres
        refine lv_iload hx hb dX5_together_106 (lv_at hl 4 rfl) ?_
        exact zreti C0 hH dX5_together_108 (zfst hres) (zsnd hres)
      · have hres := zif_neg c64_13 hres
        refine lv_aload_n hx hb dX5_together_67 rfl (lv_at hl 0 rfl) ?_
        refine zgR C0 hH zK5 2 (by decide) _ zX0 rfl kF_X5_19 dX5_together_68 ?_
        refine zcv (zrunV C0 hH (c_X2_tick l D cy ad _ _ zRow29) kM_X5_129 zK2 kq_X2_tick zRow29.is rfl hl.1 rfl rfl rfl ⟨Nat.le_of_ble_eq_true rfl, Nat.le_of_ble_eq_true rfl⟩ (Nat.le_of_ble_eq_true rfl) dX5_together_71) hH (fun H locs hH => ?_)
        refine lv_iload hx hb dX5_together_74 (lv_at hl 4 rfl) ?_
        refine lv_aload_n hx hb dX5_together_76 rfl (lv_at hl 0 rfl) ?_
        refine zgR C0 hH zK5 2 (by decide) _ zX0 rfl kF_X5_19 dX5_together_77 ?_
        refine zgIN C0 hH zK2 6 (by decide) zRow29.is rfl kN_X5_176 dX5_together_80 ?_
        refine lv_iload_n hx hb dX5_together_83 rfl (lv_at hl 1 rfl) ?_
        refine lv_ishr hx hb dX5_together_84 ?_
        refine lv_aload_n hx hb dX5_together_85 rfl (lv_at hl 0 rfl) ?_
        refine zgR C0 hH zK5 2 (by decide) _ zX0 rfl kF_X5_19 dX5_together_86 ?_
        refine zgIN C0 hH zK2 6 (by decide) zRow29.is rfl kN_X5_176 dX5_together_89 ?_
        refine lv_iload_n hx hb dX5_together_92 rfl (lv_at hl 2 rfl) ?_
        refine lv_ishr hx hb dX5_together_93 ?_
        refine lv_iand hx hb dX5_together_94 ?_
        refine lv_iconst (v := (1 : Int32)) hx hb dX5_together_95 (by decide) ?_
        refine lv_iand hx hb dX5_together_96 ?_
        refine lv_iadd hx hb dX5_together_97 ?_
        refine lv_istore (lv' := [(4, _), (0, _), (1, _), (2, _), (3, _), (5, _)]) hx hb dX5_together_98 hl (by decide) rfl (fun ls hl => ?_)
        refine ziinc (lv' := [(5, _), (4, _), (0, _), (1, _), (2, _), (3, _)]) (k := 5) hx hb (1 : Int32) (by decide) dX5_together_100 hl rfl (by decide) rfl (fun ls hl => ?_)
        refine lv_goto (tgt := 61) hx hb dX5_together_103 (by decide) ?_
        exact ih61 _ _ _ _ _ _ (by first | exact zCt.start (by decide) (by decide) | exact zCt.step (m := 60) hct (by clear hres; grind [f_X5_within, f_X2_has, slot_X1]) (by decide)) (by first | assumption | (clear hres; grind [f_X5_within, f_X2_has])) hH (lv_sub hl [2, 3, 4, 5, 1, 0] rfl) hres
  refine lv_aload_n hx hb dX5_together_0 rfl (lv_at hl 0 rfl) ?_
  refine zgR C0 hH zK5 0 (by decide) _ zX0 rfl kF_X5_12 dX5_together_1 ?_
  refine lv_iload_n hx hb dX5_together_4 rfl (lv_at hl 1 rfl) ?_
  refine zcz (zrunV C0 hH (c_X2_has l D cy ad _ _ zRow1 _) kM_X5_78 zK2 kq_X2_has zRow1.is rfl hl.1 rfl rfl rfl ⟨Nat.le_of_ble_eq_true rfl, Nat.le_of_ble_eq_true rfl⟩ (Nat.le_of_ble_eq_true rfl) dX5_together_5) hH (fun H locs hH h01_1 => ?_)
  refine lv_if_eq (tgt := 37) hx hb dX5_together_8 (by decide) (fun c8_3 => ?_) (fun c8_3 => ?_)
  · have hres := zif_pos c8_3 hres
    exact J37 _ _ _ _ hH (lv_sub hl [0] rfl) hres
  · have hres := zif_neg c8_3 hres
    refine lv_aload_n hx hb dX5_together_11 rfl (lv_at hl 0 rfl) ?_
    refine zgR C0 hH zK5 0 (by decide) _ zX0 rfl kF_X5_12 dX5_together_12 ?_
    refine lv_iload_n hx hb dX5_together_15 rfl (lv_at hl 2 rfl) ?_
    refine zcz (zrunV C0 hH (c_X2_has l D cy ad _ _ zRow1 _) kM_X5_78 zK2 kq_X2_has zRow1.is rfl hl.1 rfl rfl rfl ⟨Nat.le_of_ble_eq_true rfl, Nat.le_of_ble_eq_true rfl⟩ (Nat.le_of_ble_eq_true rfl) dX5_together_16) hH (fun H locs hH h01_4 => ?_)
    refine lv_if_eq (tgt := 37) hx hb dX5_together_19 (by decide) (fun c19_6 => ?_) (fun c19_6 => ?_)
    · have hres := zif_pos c19_6 hres
      exact J37 _ _ _ _ hH (lv_sub hl [0] rfl) hres
    · have hres := zif_neg c19_6 hres
      refine lv_iload_n hx hb dX5_together_22 rfl (lv_at hl 1 rfl) ?_
      refine lv_iload_n hx hb dX5_together_23 rfl (lv_at hl 2 rfl) ?_
      refine lv_icmp_eq (tgt := 37) hx hb dX5_together_24 (by decide) (fun c24_7 => ?_) (fun c24_7 => ?_)
      · have hres := zif_pos c24_7 hres
        exact J37 _ _ _ _ hH (lv_sub hl [0] rfl) hres
      · have hres := zif_neg c24_7 hres
        refine lv_iload_n hx hb dX5_together_27 rfl (lv_at hl 3 rfl) ?_
        refine lv_iconst (v := (1 : Int32)) hx hb dX5_together_28 (by decide) ?_
        refine lv_bipush (v := (60 : Int32)) hx hb dX5_together_29 (by decide) ?_
        refine zcz (zrunS C0 hH (c_X5_within l D cy ad _ _ _ _) kM_X5_54 kq_X5_within rfl hl.1 rfl rfl rfl ⟨Nat.le_of_ble_eq_true rfl, Nat.le_of_ble_eq_true rfl⟩ (Nat.le_of_ble_eq_true rfl) dX5_together_31) hH (fun H locs hH h01_8 => ?_)
        refine lv_if_ne (tgt := 44) hx hb dX5_together_34 (by decide) (fun c34_10 => ?_) (fun c34_10 => ?_)
        · have hres := zif_neg c34_10 hres
          refine lv_iconst (v := (0 : Int32)) hx hb dX5_together_44 (by decide) ?_
          refine lv_istore (lv' := [(4, _), (0, _), (1, _), (2, _), (3, _)]) hx hb dX5_together_45 hl (by decide) rfl (fun ls hl => ?_)
          refine lv_aload_n hx hb dX5_together_47 rfl (lv_at hl 1 rfl) ?_
          refine zgR C0 hH zK5 2 (by decide) _ zX0 rfl kF_X5_19 dX5_together_48 ?_
          refine lv_aload_n hx hb dX5_together_51 rfl (lv_at hl 1 rfl) ?_
          refine zgR C0 hH zK5 0 (by decide) _ zX0 rfl kF_X5_12 dX5_together_52 ?_
          refine zcv (zrunV C0 hH (c_X2_copyFrom l D cy ad _ _ zRow29 _ zRow1) kM_X5_156 zK2 kq_X2_copyFrom zRow29.is rfl hl.1 rfl rfl rfl ⟨Nat.le_of_ble_eq_true rfl, Nat.le_of_ble_eq_true rfl⟩ (Nat.le_of_ble_eq_true rfl) dX5_together_55) hH (fun H locs hH => ?_)
          refine lv_iconst (v := (0 : Int32)) hx hb dX5_together_58 (by decide) ?_
          refine lv_istore (lv' := [(5, _), (4, _), (0, _), (1, _), (2, _), (3, _)]) hx hb dX5_together_59 hl (by decide) rfl (fun ls hl => ?_)
          exact L61 (61) _ _ _ _ _ _ (by first | exact zCt.start (by decide) (by decide) | exact zCt.step (m := 60) hct (by clear hres; grind [f_X5_within, f_X2_has, slot_X1]) (by decide)) (by first | assumption | (clear hres; grind [f_X5_within, f_X2_has])) hH (lv_sub hl [2, 3, 4, 5, 1, 0] rfl) hres
        · have hres := zif_pos c34_10 hres
          exact J37 _ _ _ _ hH (lv_sub hl [0] rfl) hres
set_option maxRecDepth 100000 in
set_option maxHeartbeats 4000000 in
theorem c_X5_feed (l : Launch) (D : va_G) (cy : Nat → ClassId) (ad : Nat → Nat) (M : zM) (p1 : Int32) (p2 : Int32) : Met l yX5_feed (Cond.code yX5_feed cX5_feed 4 (some .int) :: zG) ({ frames := 2, cells := 0, slots := 0, locals := 44 }) (zP D lyC cy ad [.ref (ad 0), .int p1, .int p2] M) (zQi D lyC cy ad (f_X5_feed p1 p2 M).1 (f_X5_feed p1 p2 M).2) 0 0 (zA lyC ad) := by
  generalize hres : (f_X5_feed p1 p2 M) = res
  refine zMet (by decide) (Nat.le_of_ble_eq_true rfl) ?_
  intro p e s m args below meth c ls C0 hH hl
  obtain ⟨⟨hx, hb, hml, hown, hts⟩, -⟩ := id C0
  have hz : ∀ w ∈ zG, w.before args s = true := fun w h => hts w (List.mem_cons_of_mem _ h)
  have hl : lv_has ls 4 [(0, .ref (ad 0)), (1, .int p1), (2, .int p2)] := hl
  have L41 : ∀ (n41 : Nat), ∀ (v3 : Int32) (mm : zM) (H : Heap) (locs : List Loc) (ls : Array Slot), (zCd 3 n41 v3) → (mm.1 53 1 + v3 ≤ 59) → zH D lyC cy ad s.heap mm H locs → lv_has ls 4 [(0, .ref (ad 0)), (1, .int p1), (3, .int v3)] → f_X5_feed_41 p1 p2 n41 v3 mm = res → W p l e { frames := 2, cells := 0, slots := 0, locals := 44 } s m args below meth c H locs 0 0 (MQ below (zQi D lyC cy ad res.1 res.2) args s 0 0 (zA lyC ad)) (F0 m 41 ls []) := by
    intro n41
    induction n41 with
    | zero =>
      intro v3 mm H locs ls hct hlen hH hl hres
      exfalso; exact hct.zero
    | succ n41 ih41 =>
      intro v3 mm H locs ls hct hlen hH hl hres
      have g0 := hH.txt zTxt53
      refine lv_iload_n hx hb dX5_feed_41 rfl (lv_at hl 2 rfl) ?_
      refine lv_if_lt (tgt := 89) hx hb dX5_feed_42 (by decide) (fun c42_8 => ?_) (fun c42_8 => ?_)
      · have hres := zif_pos c42_8 hres
        refine lv_aload_n hx hb dX5_feed_89 rfl (lv_at hl 0 rfl) ?_
        refine zgR C0 hH zK5 6 (by decide) _ zX0 rfl kF_X5_39 dX5_feed_90 ?_
        refine zgIN C0 hH zK4 1 (by decide) zTxt53.is rfl kN_X5_179 dX5_feed_93 ?_
        exact zreti C0 hH dX5_feed_96 (zfst hres) (zsnd hres)
      · have hres := zif_neg c42_8 hres
        refine lv_aload_n hx hb dX5_feed_45 rfl (lv_at hl 0 rfl) ?_
        refine zgR C0 hH zK5 6 (by decide) _ zX0 rfl kF_X5_39 dX5_feed_46 ?_
        refine zgRN C0 hH zK4 0 (by decide) _ zTxt53.is rfl kN_X5_180 dX5_feed_49 ?_
        refine lv_aload_n hx hb dX5_feed_52 rfl (lv_at hl 0 rfl) ?_
        refine zgR C0 hH zK5 6 (by decide) _ zX0 rfl kF_X5_39 dX5_feed_53 ?_
        refine zgIN C0 hH zK4 1 (by decide) zTxt53.is rfl kN_X5_179 dX5_feed_56 ?_
        refine lv_iload_n hx hb dX5_feed_59 rfl (lv_at hl 1 rfl) ?_
        refine lv_bipush (v := (8 : Int32)) hx hb dX5_feed_60 (by decide) ?_
        refine lv_iload_n hx hb dX5_feed_62 rfl (lv_at hl 2 rfl) ?_
        refine lv_imul hx hb dX5_feed_63 ?_
        refine lv_iushr hx hb dX5_feed_64 rfl ?_
        refine lv_sipush (v := (255 : Int32)) hx hb dX5_feed_65 (by decide) ?_
        refine lv_iand hx hb dX5_feed_68 ?_
        refine zast C0 hH zTxt53.arr zTxt53.ln (by exact zin60.mpr (by have q0 := hH.row zRow1; have q1 := hH.bkl zBk43; have q2 := hH.bkn zBk43; obtain ⟨qa, qb, -⟩ := hct; clear hres; grind [f_X5_within, f_X2_has, slot_X1])) zcn dX5_feed_69 (fun H locs hH => ?_)
        refine lv_aload_n hx hb dX5_feed_70 rfl (lv_at hl 0 rfl) ?_
        refine zgR C0 hH zK5 6 (by decide) _ zX0 rfl kF_X5_39 dX5_feed_71 ?_
        refine lv_dup hx hb dX5_feed_74 rfl ?_
        refine zgIN C0 hH zK4 1 (by decide) zTxt53.is rfl kN_X5_179 dX5_feed_75 ?_
        refine lv_iconst (v := (1 : Int32)) hx hb dX5_feed_78 (by decide) ?_
        refine lv_iadd hx hb dX5_feed_79 ?_
        refine zpN C0 hH zK4 1 (by decide) zTxt53.is rfl rfl zOk_int (zcs (by rw [z5354]; obtain ⟨qa, qb, -⟩ := hct; clear hres; grind)) kN_X5_179 dX5_feed_80 (fun H locs hH => ?_)
        refine ziinc (lv' := [(3, _), (0, _), (1, _)]) (k := 2) hx hb (-1 : Int32) (by decide) dX5_feed_83 hl rfl (by decide) rfl (fun ls hl => ?_)
        refine lv_goto (tgt := 41) hx hb dX5_feed_86 (by decide) ?_
        exact ih41 _ _ _ _ _ (by first | exact zCd.begin (by clear hres; grind [f_X5_within, f_X2_has, slot_X1]) (by clear hres; grind [f_X5_within, f_X2_has, slot_X1]) (by decide) | exact zCd.step1 hct (by clear hres; grind [f_X5_within, f_X2_has, slot_X1])) (by first | (rw [zpI_at, z5354]; obtain ⟨qa, qb, -⟩ := hct; clear hres; grind) | (have q0 := hH.txt zTxt53; clear hres; grind [f_X5_within])) hH (lv_sub hl [1, 2, 0] rfl) hres
  refine lv_iload_n hx hb dX5_feed_0 rfl (lv_at hl 2 rfl) ?_
  refine lv_iconst (v := (1 : Int32)) hx hb dX5_feed_1 (by decide) ?_
  refine lv_iconst (v := (4 : Int32)) hx hb dX5_feed_2 (by decide) ?_
  refine zcz (zrunS C0 hH (c_X5_within l D cy ad _ _ _ _) kM_X5_54 kq_X5_within rfl hl.1 rfl rfl rfl ⟨Nat.le_of_ble_eq_true rfl, Nat.le_of_ble_eq_true rfl⟩ (Nat.le_of_ble_eq_true rfl) dX5_feed_3) hH (fun H locs hH h01_1 => ?_)
  refine lv_if_ne (tgt := 16) hx hb dX5_feed_6 (by decide) (fun c6_3 => ?_) (fun c6_3 => ?_)
  · have hres := zif_neg c6_3 hres
    refine lv_aload_n hx hb dX5_feed_16 rfl (lv_at hl 0 rfl) ?_
    refine zgR C0 hH zK5 6 (by decide) _ zX0 rfl kF_X5_39 dX5_feed_17 ?_
    refine zgIN C0 hH zK4 1 (by decide) zTxt53.is rfl kN_X5_179 dX5_feed_20 ?_
    refine lv_iload_n hx hb dX5_feed_23 rfl (lv_at hl 2 rfl) ?_
    refine lv_iadd hx hb dX5_feed_24 ?_
    refine lv_bipush (v := (60 : Int32)) hx hb dX5_feed_25 (by decide) ?_
    refine lv_icmp_le (tgt := 37) hx hb dX5_feed_27 (by decide) (fun c27_4 => ?_) (fun c27_4 => ?_)
    · have hres := zif_pos c27_4 hres
      refine lv_iload_n hx hb dX5_feed_37 rfl (lv_at hl 2 rfl) ?_
      refine lv_iconst (v := (1 : Int32)) hx hb dX5_feed_38 (by decide) ?_
      refine lv_isub hx hb dX5_feed_39 ?_
      refine lv_istore_n (lv' := [(3, _), (0, _), (1, _), (2, _)]) hx hb dX5_feed_40 rfl hl (by decide) rfl (fun ls hl => ?_)
      exact L41 (5) _ _ _ _ _ (by first | exact zCd.begin (by clear hres; grind [f_X5_within, f_X2_has, slot_X1]) (by clear hres; grind [f_X5_within, f_X2_has, slot_X1]) (by decide) | exact zCd.step1 hct (by clear hres; grind [f_X5_within, f_X2_has, slot_X1])) (by first | (rw [zpI_at, z5354]; obtain ⟨qa, qb, -⟩ := hct; clear hres; grind) | (have q0 := hH.txt zTxt53; clear hres; grind [f_X5_within])) hH (lv_sub hl [1, 2, 0] rfl) hres
    · have hres := zif_neg c27_4 hres
      refine lv_aload_n hx hb dX5_feed_30 rfl (lv_at hl 0 rfl) ?_
      refine lv_ldc (v := (-1000000002 : Int32)) hx hb hown (hz _ kK_X5_67) dX5_feed_31 ?_
      refine zci (zrunV C0 hH (c_X5_finding l D cy ad _ _) kM_X5_59 zK5 kq_X5_finding zX0 rfl hl.1 rfl rfl rfl ⟨Nat.le_of_ble_eq_true rfl, Nat.le_of_ble_eq_true rfl⟩ (Nat.le_of_ble_eq_true rfl) dX5_feed_33) hH (fun H locs hH => ?_)
      exact zreti C0 hH dX5_feed_36 (zfst hres) (zsnd hres)
  · have hres := zif_pos c6_3 hres
    refine lv_aload_n hx hb dX5_feed_9 rfl (lv_at hl 0 rfl) ?_
    refine lv_ldc (v := (-1000000001 : Int32)) hx hb hown (hz _ kK_X5_58) dX5_feed_10 ?_
    refine zci (zrunV C0 hH (c_X5_finding l D cy ad _ _) kM_X5_59 zK5 kq_X5_finding zX0 rfl hl.1 rfl rfl rfl ⟨Nat.le_of_ble_eq_true rfl, Nat.le_of_ble_eq_true rfl⟩ (Nat.le_of_ble_eq_true rfl) dX5_feed_12) hH (fun H locs hH => ?_)
    exact zreti C0 hH dX5_feed_15 (zfst hres) (zsnd hres)
set_option maxRecDepth 100000 in
set_option maxHeartbeats 4000000 in
theorem c_X5_wipe (l : Launch) (D : va_G) (cy : Nat → ClassId) (ad : Nat → Nat) (M : zM) : Met l yX5_wipe (Cond.code yX5_wipe cX5_wipe 2 (some .int) :: zG) ({ frames := 0, cells := 0, slots := 0, locals := 0 }) (zP D lyC cy ad [.ref (ad 0)] M) (zQi D lyC cy ad (f_X5_wipe M).1 (f_X5_wipe M).2) 0 0 (zA lyC ad) := by
  generalize hres : (f_X5_wipe M) = res
  refine zMet (by decide) (Nat.le_of_ble_eq_true rfl) ?_
  intro p e s m args below meth c ls C0 hH hl
  obtain ⟨⟨hx, hb, hml, hown, hts⟩, -⟩ := id C0
  have hz : ∀ w ∈ zG, w.before args s = true := fun w h => hts w (List.mem_cons_of_mem _ h)
  have hl : lv_has ls 2 [(0, .ref (ad 0))] := hl
  refine lv_aload_n hx hb dX5_wipe_0 rfl (lv_at hl 0 rfl) ?_
  refine zgR C0 hH zK5 6 (by decide) _ zX0 rfl kF_X5_39 dX5_wipe_1 ?_
  refine zgIN C0 hH zK4 1 (by decide) zTxt53.is rfl kN_X5_179 dX5_wipe_4 ?_
  refine lv_istore_n (lv' := [(1, _), (0, _)]) hx hb dX5_wipe_7 rfl hl (by decide) rfl (fun ls hl => ?_)
  refine lv_aload_n hx hb dX5_wipe_8 rfl (lv_at hl 1 rfl) ?_
  refine zgR C0 hH zK5 6 (by decide) _ zX0 rfl kF_X5_39 dX5_wipe_9 ?_
  refine lv_iconst (v := (0 : Int32)) hx hb dX5_wipe_12 (by decide) ?_
  refine zpN C0 hH zK4 1 (by decide) zTxt53.is rfl rfl zOk_int (zcs (by first | decide | (have q0 := hH.row zRow1; have q1 := hH.bkl zBk43; have q2 := hH.bkn zBk43; clear hres; grind [f_X5_within, f_X2_has, slot_X1]))) kN_X5_179 dX5_wipe_13 (fun H locs hH => ?_)
  refine lv_iload_n hx hb dX5_wipe_16 rfl (lv_at hl 0 rfl) ?_
  exact zreti C0 hH dX5_wipe_17 (zfst hres) (zsnd hres)
set_option maxRecDepth 100000 in
set_option maxHeartbeats 4000000 in
theorem c_X5_law (l : Launch) (D : va_G) (cy : Nat → ClassId) (ad : Nat → Nat) (M : zM) : Met l yX5_law (Cond.code yX5_law cX5_law 2 (some .int) :: zG) ({ frames := 23, cells := 0, slots := 0, locals := 866 }) (zP D lyC cy ad [.ref (ad 0)] M) (zQi D lyC cy ad (f_X5_law M).1 (f_X5_law M).2) 0 0 (zA lyC ad) := by
  generalize hres : (f_X5_law M) = res
  refine zMet (by decide) (Nat.le_of_ble_eq_true rfl) ?_
  intro p e s m args below meth c ls C0 hH hl
  obtain ⟨⟨hx, hb, hml, hown, hts⟩, -⟩ := id C0
  have hz : ∀ w ∈ zG, w.before args s = true := fun w h => hts w (List.mem_cons_of_mem _ h)
  have hl : lv_has ls 2 [(0, .ref (ad 0))] := hl
  unfold f_X5_law at hres
  simp only [] at hres
  refine lv_aload_n hx hb dX5_law_0 rfl (lv_at hl 0 rfl) ?_
  refine zgR C0 hH zK5 6 (by decide) _ zX0 rfl kF_X5_39 dX5_law_1 ?_
  refine zci (zrunV C0 hH (c_X4_findFault l D cy ad _ _ zTxt53) kM_X5_183 zK4 kq_X4_findFault zTxt53.is rfl hl.1 rfl rfl rfl ⟨Nat.le_of_ble_eq_true rfl, Nat.le_of_ble_eq_true rfl⟩ (Nat.le_of_ble_eq_true rfl) dX5_law_4) hH (fun H locs hH => ?_)
  generalize f_X4_findFault 53 M = Z at hH hres ⊢
  refine lv_istore_n (lv' := [(1, _), (0, _)]) hx hb dX5_law_7 rfl hl (by decide) rfl (fun ls hl => ?_)
  refine lv_iload_n hx hb dX5_law_8 rfl (lv_at hl 0 rfl) ?_
  refine lv_if_lt (tgt := 16) hx hb dX5_law_9 (by decide) (fun c9_3 => ?_) (fun c9_3 => ?_)
  · have hres := zif_pos c9_3 hres
    refine lv_aload_n hx hb dX5_law_16 rfl (lv_at hl 1 rfl) ?_
    refine zgR C0 hH zK5 0 (by decide) _ zX0 rfl kF_X5_12 dX5_law_17 ?_
    refine zgRN C0 hH zK2 4 (by decide) _ zRow1.is rfl kN_X5_187 dX5_law_20 ?_
    refine lv_aload_n hx hb dX5_law_23 rfl (lv_at hl 1 rfl) ?_
    refine zgR C0 hH zK5 6 (by decide) _ zX0 rfl kF_X5_39 dX5_law_24 ?_
    refine zcv (zrunV C0 hH (c_X4_copyFrom l D cy ad _ _ zRow1.txt _ zTxt53) kM_X5_190 zK4 kq_X4_copyFrom zRow1.txt.is rfl hl.1 rfl rfl rfl ⟨Nat.le_of_ble_eq_true rfl, Nat.le_of_ble_eq_true rfl⟩ (Nat.le_of_ble_eq_true rfl) dX5_law_27) hH (fun H locs hH => ?_)
    refine lv_aload_n hx hb dX5_law_30 rfl (lv_at hl 1 rfl) ?_
    refine zgR C0 hH zK5 6 (by decide) _ zX0 rfl kF_X5_39 dX5_law_31 ?_
    refine lv_iconst (v := (0 : Int32)) hx hb dX5_law_34 (by decide) ?_
    refine zpN C0 hH zK4 1 (by decide) zTxt53.is rfl rfl zOk_int (zcs (by first | decide | (have q0 := hH.row zRow1; have q1 := hH.bkl zBk43; have q2 := hH.bkn zBk43; clear hres; grind [f_X5_within, f_X2_has, slot_X1]))) kN_X5_179 dX5_law_35 (fun H locs hH => ?_)
    refine lv_iconst (v := (0 : Int32)) hx hb dX5_law_38 (by decide) ?_
    exact zreti C0 hH dX5_law_39 (zfst hres) (zsnd hres)
  · have hres := zif_neg c9_3 hres
    refine lv_iconst (v := (-1 : Int32)) hx hb dX5_law_12 (by decide) ?_
    refine lv_iload_n hx hb dX5_law_13 rfl (lv_at hl 0 rfl) ?_
    refine lv_isub hx hb dX5_law_14 ?_
    exact zreti C0 hH dX5_law_15 (zfst hres) (zsnd hres)
set_option maxRecDepth 100000 in
set_option maxHeartbeats 4000000 in
theorem c_X5_plain (l : Launch) (D : va_G) (cy : Nat → ClassId) (ad : Nat → Nat) (M : zM) : Met l yX5_plain (Cond.code yX5_plain cX5_plain 2 (some .int) :: zG) ({ frames := 0, cells := 0, slots := 0, locals := 0 }) (zP D lyC cy ad [.ref (ad 0)] M) (zQi D lyC cy ad (f_X5_plain M).1 (f_X5_plain M).2) 0 0 (zA lyC ad) := by
  generalize hres : (f_X5_plain M) = res
  refine zMet (by decide) (Nat.le_of_ble_eq_true rfl) ?_
  intro p e s m args below meth c ls C0 hH hl
  obtain ⟨⟨hx, hb, hml, hown, hts⟩, -⟩ := id C0
  have hz : ∀ w ∈ zG, w.before args s = true := fun w h => hts w (List.mem_cons_of_mem _ h)
  have hl : lv_has ls 2 [(0, .ref (ad 0))] := hl
  refine lv_aload_n hx hb dX5_plain_0 rfl (lv_at hl 0 rfl) ?_
  refine zgR C0 hH zK5 0 (by decide) _ zX0 rfl kF_X5_12 dX5_plain_1 ?_
  refine zgRN C0 hH zK2 4 (by decide) _ zRow1.is rfl kN_X5_187 dX5_plain_4 ?_
  refine zgIN C0 hH zK4 1 (by decide) zRow1.txt.is rfl kN_X5_179 dX5_plain_7 ?_
  refine lv_if_le (tgt := 17) hx hb dX5_plain_10 (by decide) (fun c10_1 => ?_) (fun c10_1 => ?_)
  · have hres := zif_pos c10_1 hres
    refine lv_iconst (v := (0 : Int32)) hx hb dX5_plain_17 (by decide) ?_
    refine lv_istore_n (lv' := [(1, _), (0, _)]) hx hb dX5_plain_18 rfl hl (by decide) rfl (fun ls hl => ?_)
    refine lv_aload_n hx hb dX5_plain_19 rfl (lv_at hl 1 rfl) ?_
    refine zgR C0 hH zK5 0 (by decide) _ zX0 rfl kF_X5_12 dX5_plain_20 ?_
    refine zgRN C0 hH zK2 4 (by decide) _ zRow1.is rfl kN_X5_187 dX5_plain_23 ?_
    refine lv_iconst (v := (0 : Int32)) hx hb dX5_plain_26 (by decide) ?_
    refine zpN C0 hH zK4 1 (by decide) zRow1.txt.is rfl rfl zOk_int (zcs (by first | decide | (have q0 := hH.row zRow1; have q1 := hH.bkl zBk43; have q2 := hH.bkn zBk43; clear hres; grind [f_X5_within, f_X2_has, slot_X1]))) kN_X5_179 dX5_plain_27 (fun H locs hH => ?_)
    refine lv_iload_n hx hb dX5_plain_30 rfl (lv_at hl 0 rfl) ?_
    exact zreti C0 hH dX5_plain_31 (zfst hres) (zsnd hres)
  · have hres := zif_neg c10_1 hres
    refine lv_iconst (v := (1 : Int32)) hx hb dX5_plain_13 (by decide) ?_
    refine lv_goto (tgt := 18) hx hb dX5_plain_14 (by decide) ?_
    refine lv_istore_n (lv' := [(1, _), (0, _)]) hx hb dX5_plain_18 rfl hl (by decide) rfl (fun ls hl => ?_)
    refine lv_aload_n hx hb dX5_plain_19 rfl (lv_at hl 1 rfl) ?_
    refine zgR C0 hH zK5 0 (by decide) _ zX0 rfl kF_X5_12 dX5_plain_20 ?_
    refine zgRN C0 hH zK2 4 (by decide) _ zRow1.is rfl kN_X5_187 dX5_plain_23 ?_
    refine lv_iconst (v := (0 : Int32)) hx hb dX5_plain_26 (by decide) ?_
    refine zpN C0 hH zK4 1 (by decide) zRow1.txt.is rfl rfl zOk_int (zcs (by first | decide | (have q0 := hH.row zRow1; have q1 := hH.bkl zBk43; have q2 := hH.bkn zBk43; clear hres; grind [f_X5_within, f_X2_has, slot_X1]))) kN_X5_179 dX5_plain_27 (fun H locs hH => ?_)
    refine lv_iload_n hx hb dX5_plain_30 rfl (lv_at hl 0 rfl) ?_
    exact zreti C0 hH dX5_plain_31 (zfst hres) (zsnd hres)
set_option maxRecDepth 100000 in
set_option maxHeartbeats 4000000 in
theorem c_X5_says (l : Launch) (D : va_G) (cy : Nat → ClassId) (ad : Nat → Nat) (M : zM) (p1 : Int32) : Met l yX5_says (Cond.code yX5_says cX5_says 3 (some .int) :: zG) ({ frames := 23, cells := 0, slots := 0, locals := 870 }) (zP D lyC cy ad [.ref (ad 0), .int p1] M) (zQi D lyC cy ad (f_X5_says p1 M).1 (f_X5_says p1 M).2) 0 0 (zA lyC ad) := by
  generalize hres : (f_X5_says p1 M) = res
  refine zMet (by decide) (Nat.le_of_ble_eq_true rfl) ?_
  intro p e s m args below meth c ls C0 hH hl
  obtain ⟨⟨hx, hb, hml, hown, hts⟩, -⟩ := id C0
  have hz : ∀ w ∈ zG, w.before args s = true := fun w h => hts w (List.mem_cons_of_mem _ h)
  have hl : lv_has ls 3 [(0, .ref (ad 0)), (1, .int p1)] := hl
  refine lv_aload_n hx hb dX5_says_0 rfl (lv_at hl 0 rfl) ?_
  refine zgR C0 hH zK5 0 (by decide) _ zX0 rfl kF_X5_12 dX5_says_1 ?_
  refine lv_iload_n hx hb dX5_says_4 rfl (lv_at hl 1 rfl) ?_
  refine zcz (zrunV C0 hH (c_X2_has l D cy ad _ _ zRow1 _) kM_X5_78 zK2 kq_X2_has zRow1.is rfl hl.1 rfl rfl rfl ⟨Nat.le_of_ble_eq_true rfl, Nat.le_of_ble_eq_true rfl⟩ (Nat.le_of_ble_eq_true rfl) dX5_says_5) hH (fun H locs hH h01_1 => ?_)
  refine lv_if_ne (tgt := 18) hx hb dX5_says_8 (by decide) (fun c8_3 => ?_) (fun c8_3 => ?_)
  · have hres := zif_neg c8_3 hres
    refine lv_aload_n hx hb dX5_says_18 rfl (lv_at hl 0 rfl) ?_
    refine zgR C0 hH zK5 0 (by decide) _ zX0 rfl kF_X5_12 dX5_says_19 ?_
    refine zgRN C0 hH zK2 4 (by decide) _ zRow1.is rfl kN_X5_187 dX5_says_22 ?_
    refine zgIN C0 hH zK4 1 (by decide) zRow1.txt.is rfl kN_X5_179 dX5_says_25 ?_
    refine lv_if_ne (tgt := 38) hx hb dX5_says_28 (by decide) (fun c28_4 => ?_) (fun c28_4 => ?_)
    · have hres := zif_neg c28_4 hres
      refine lv_aload_n hx hb dX5_says_38 rfl (lv_at hl 0 rfl) ?_
      refine zgR C0 hH zK5 0 (by decide) _ zX0 rfl kF_X5_12 dX5_says_39 ?_
      refine zgRN C0 hH zK2 0 (by decide) _ zRow1.is rfl kN_X5_68 dX5_says_42 ?_
      refine lv_iload_n hx hb dX5_says_45 rfl (lv_at hl 1 rfl) ?_
      refine zqldB C0 hH zRow1 (by exact zin10.mpr (by have q0 := hH.row zRow1; have q1 := hH.bkl zBk43; have q2 := hH.bkn zBk43; clear hres; grind [f_X5_within, f_X2_has, slot_X1])) dX5_says_46 (fun hb5 => ?_)
      refine lv_astore_n (lv' := [(2, _), (0, _), (1, _)]) hx hb dX5_says_47 rfl hl (by decide) rfl (fun ls hl => ?_)
      refine lv_aload_n hx hb dX5_says_48 rfl (lv_at hl 1 rfl) ?_
      refine zgR C0 hH zK5 0 (by decide) _ zX0 rfl kF_X5_12 dX5_says_49 ?_
      refine zgRN C0 hH zK2 4 (by decide) _ zRow1.is rfl kN_X5_187 dX5_says_52 ?_
      refine lv_aload_n hx hb dX5_says_55 rfl (lv_at hl 0 rfl) ?_
      refine lv_iload_n hx hb dX5_says_56 rfl (lv_at hl 2 rfl) ?_
      refine lv_aload_n hx hb dX5_says_57 rfl (lv_at hl 1 rfl) ?_
      refine zgR C0 hH zK5 0 (by decide) _ zX0 rfl kF_X5_12 dX5_says_58 ?_
      refine zgIN C0 hH zK2 3 (by decide) zRow1.is rfl kN_X5_126 dX5_says_61 ?_
      refine lv_aload_n hx hb dX5_says_64 rfl (lv_at hl 0 rfl) ?_
      refine zgIN C0 hH zK0 6 (by decide) hb5 rfl kN_X5_100 dX5_says_65 ?_
      refine zci (zrunV C0 hH (c_X4_valueFor l D cy ad _ _ zRow1.txt _ hb5 _ _ _) kM_X5_193 zK4 kq_X4_valueFor zRow1.txt.is rfl hl.1 rfl rfl rfl ⟨Nat.le_of_ble_eq_true rfl, Nat.le_of_ble_eq_true rfl⟩ (Nat.le_of_ble_eq_true rfl) dX5_says_68) hH (fun H locs hH => ?_)
      exact zreti C0 hH dX5_says_71 (zfst hres) (zsnd hres)
    · have hres := zif_pos c28_4 hres
      refine lv_aload_n hx hb dX5_says_31 rfl (lv_at hl 0 rfl) ?_
      refine lv_ldc (v := (-1000000004 : Int32)) hx hb hown (hz _ kK_X5_155) dX5_says_32 ?_
      refine zci (zrunV C0 hH (c_X5_finding l D cy ad _ _) kM_X5_59 zK5 kq_X5_finding zX0 rfl hl.1 rfl rfl rfl ⟨Nat.le_of_ble_eq_true rfl, Nat.le_of_ble_eq_true rfl⟩ (Nat.le_of_ble_eq_true rfl) dX5_says_34) hH (fun H locs hH => ?_)
      exact zreti C0 hH dX5_says_37 (zfst hres) (zsnd hres)
  · have hres := zif_pos c8_3 hres
    refine lv_aload_n hx hb dX5_says_11 rfl (lv_at hl 0 rfl) ?_
    refine lv_ldc (v := (-1000000001 : Int32)) hx hb hown (hz _ kK_X5_58) dX5_says_12 ?_
    refine zci (zrunV C0 hH (c_X5_finding l D cy ad _ _) kM_X5_59 zK5 kq_X5_finding zX0 rfl hl.1 rfl rfl rfl ⟨Nat.le_of_ble_eq_true rfl, Nat.le_of_ble_eq_true rfl⟩ (Nat.le_of_ble_eq_true rfl) dX5_says_14) hH (fun H locs hH => ?_)
    exact zreti C0 hH dX5_says_17 (zfst hres) (zsnd hres)
set_option maxRecDepth 100000 in
set_option maxHeartbeats 4000000 in
theorem c_X5_sheet (l : Launch) (D : va_G) (cy : Nat → ClassId) (ad : Nat → Nat) (M : zM) (p1 : Int32) (p2 : Int32) (p3 : Int32) : Met l yX5_sheet (Cond.code yX5_sheet cX5_sheet 4 (some .int) :: zG) ({ frames := 2, cells := 0, slots := 0, locals := 44 }) (zP D lyC cy ad [.ref (ad 0), .int p1, .int p2, .int p3] M) (zQi D lyC cy ad (f_X5_sheet p1 p2 p3 M).1 (f_X5_sheet p1 p2 p3 M).2) 0 0 (zA lyC ad) := by
  generalize hres : (f_X5_sheet p1 p2 p3 M) = res
  refine zMet (by decide) (Nat.le_of_ble_eq_true rfl) ?_
  intro p e s m args below meth c ls C0 hH hl
  obtain ⟨⟨hx, hb, hml, hown, hts⟩, -⟩ := id C0
  have hz : ∀ w ∈ zG, w.before args s = true := fun w h => hts w (List.mem_cons_of_mem _ h)
  have hl : lv_has ls 4 [(0, .ref (ad 0)), (1, .int p1), (2, .int p2), (3, .int p3)] := hl
  have J31 : ∀ (mm : zM) (H : Heap) (locs : List Loc) (ls : Array Slot), zH D lyC cy ad s.heap mm H locs → lv_has ls 4 [(0, .ref (ad 0))] → f_X5_sheet_31 p1 p2 p3 mm = res → W p l e { frames := 2, cells := 0, slots := 0, locals := 44 } s m args below meth c H locs 0 0 (MQ below (zQi D lyC cy ad res.1 res.2) args s 0 0 (zA lyC ad)) (F0 m 31 ls []) := by
    intro mm H locs ls hH hl hres
    refine lv_aload_n hx hb dX5_sheet_31 rfl (lv_at hl 0 rfl) ?_
    refine lv_ldc (v := (-1000000001 : Int32)) hx hb hown (hz _ kK_X5_58) dX5_sheet_32 ?_
    refine zci (zrunV C0 hH (c_X5_finding l D cy ad _ _) kM_X5_59 zK5 kq_X5_finding zX0 rfl hl.1 rfl rfl rfl ⟨Nat.le_of_ble_eq_true rfl, Nat.le_of_ble_eq_true rfl⟩ (Nat.le_of_ble_eq_true rfl) dX5_sheet_34) hH (fun H locs hH => ?_)
    exact zreti C0 hH dX5_sheet_37 (zfst hres) (zsnd hres)
  have J38 : ∀ (mm : zM) (H : Heap) (locs : List Loc) (ls : Array Slot), (0 ≤ p1 ∧ p1 < 4) → zH D lyC cy ad s.heap mm H locs → lv_has ls 4 [(0, .ref (ad 0)), (1, .int p1), (2, .int p2), (3, .int p3)] → f_X5_sheet_38 p1 p2 p3 mm = res → W p l e { frames := 2, cells := 0, slots := 0, locals := 44 } s m args below meth c H locs 0 0 (MQ below (zQi D lyC cy ad res.1 res.2) args s 0 0 (zA lyC ad)) (F0 m 38 ls []) := by
    intro mm H locs ls hs hH hl hres
    refine lv_iload_n hx hb dX5_sheet_38 rfl (lv_at hl 3 rfl) ?_
    refine lv_if_ge (tgt := 49) hx hb dX5_sheet_39 (by decide) (fun c39_9 => ?_) (fun c39_9 => ?_)
    · have hres := zif_pos c39_9 hres
      refine lv_iload_n hx hb dX5_sheet_49 rfl (lv_at hl 3 rfl) ?_
      refine lv_bipush (v := (40 : Int32)) hx hb dX5_sheet_50 (by decide) ?_
      refine lv_icmp_le (tgt := 62) hx hb dX5_sheet_52 (by decide) (fun c52_10 => ?_) (fun c52_10 => ?_)
      · have hres := zif_pos c52_10 hres
        refine lv_aload_n hx hb dX5_sheet_62 rfl (lv_at hl 0 rfl) ?_
        refine zgR C0 hH zK5 7 (by decide) _ zX0 rfl kF_X5_45 dX5_sheet_63 ?_
        refine lv_iload_n hx hb dX5_sheet_66 rfl (lv_at hl 1 rfl) ?_
        refine zqldS C0 hH (by exact zin4.mpr (by have q0 := hH.row zRow1; have q1 := hH.bkl zBk43; have q2 := hH.bkn zBk43; clear hres; grind [f_X5_within, f_X2_has, slot_X1])) dX5_sheet_67 (fun hb11 => ?_)
        refine lv_iload_n hx hb dX5_sheet_68 rfl (lv_at hl 2 rfl) ?_
        refine lv_iload_n hx hb dX5_sheet_69 rfl (lv_at hl 3 rfl) ?_
        refine zcv (zrunV C0 hH (c_X3_begin l D cy ad _ _ hb11 _ _ (by clear hres; grind [f_X5_within, f_X2_has, slot_X1])) kM_X5_197 zK3 kq_X3_begin hb11.is rfl hl.1 rfl rfl rfl ⟨Nat.le_of_ble_eq_true rfl, Nat.le_of_ble_eq_true rfl⟩ (Nat.le_of_ble_eq_true rfl) dX5_sheet_70) hH (fun H locs hH => ?_)
        refine lv_aload_n hx hb dX5_sheet_73 rfl (lv_at hl 0 rfl) ?_
        refine zgR C0 hH zK5 7 (by decide) _ zX0 rfl kF_X5_45 dX5_sheet_74 ?_
        refine lv_iload_n hx hb dX5_sheet_77 rfl (lv_at hl 1 rfl) ?_
        refine zqldS C0 hH (by exact zin4.mpr (by have q0 := hH.row zRow1; have q1 := hH.bkl zBk43; have q2 := hH.bkn zBk43; clear hres; grind [f_X5_within, f_X2_has, slot_X1])) dX5_sheet_78 (fun hb13 => ?_)
        refine zgIN C0 hH zK3 2 (by decide) hb13.is rfl kN_X5_170 dX5_sheet_79 ?_
        exact zreti C0 hH dX5_sheet_82 (zfst hres) (zsnd hres)
      · have hres := zif_neg c52_10 hres
        refine lv_aload_n hx hb dX5_sheet_55 rfl (lv_at hl 0 rfl) ?_
        refine lv_ldc (v := (-1000000001 : Int32)) hx hb hown (hz _ kK_X5_58) dX5_sheet_56 ?_
        refine zci (zrunV C0 hH (c_X5_finding l D cy ad _ _) kM_X5_59 zK5 kq_X5_finding zX0 rfl hl.1 rfl rfl rfl ⟨Nat.le_of_ble_eq_true rfl, Nat.le_of_ble_eq_true rfl⟩ (Nat.le_of_ble_eq_true rfl) dX5_sheet_58) hH (fun H locs hH => ?_)
        exact zreti C0 hH dX5_sheet_61 (zfst hres) (zsnd hres)
    · have hres := zif_neg c39_9 hres
      refine lv_aload_n hx hb dX5_sheet_42 rfl (lv_at hl 0 rfl) ?_
      refine lv_ldc (v := (-1000000007 : Int32)) hx hb hown (hz _ kK_X5_171) dX5_sheet_43 ?_
      refine zci (zrunV C0 hH (c_X5_finding l D cy ad _ _) kM_X5_59 zK5 kq_X5_finding zX0 rfl hl.1 rfl rfl rfl ⟨Nat.le_of_ble_eq_true rfl, Nat.le_of_ble_eq_true rfl⟩ (Nat.le_of_ble_eq_true rfl) dX5_sheet_45) hH (fun H locs hH => ?_)
      exact zreti C0 hH dX5_sheet_48 (zfst hres) (zsnd hres)
  refine lv_iload_n hx hb dX5_sheet_0 rfl (lv_at hl 1 rfl) ?_
  refine lv_iconst (v := (0 : Int32)) hx hb dX5_sheet_1 (by decide) ?_
  refine lv_iconst (v := (3 : Int32)) hx hb dX5_sheet_2 (by decide) ?_
  refine zcz (zrunS C0 hH (c_X5_within l D cy ad _ _ _ _) kM_X5_54 kq_X5_within rfl hl.1 rfl rfl rfl ⟨Nat.le_of_ble_eq_true rfl, Nat.le_of_ble_eq_true rfl⟩ (Nat.le_of_ble_eq_true rfl) dX5_sheet_3) hH (fun H locs hH h01_1 => ?_)
  refine lv_if_eq (tgt := 31) hx hb dX5_sheet_6 (by decide) (fun c6_3 => ?_) (fun c6_3 => ?_)
  · have hres := zif_pos c6_3 hres
    exact J31 _ _ _ _ hH (lv_sub hl [0] rfl) hres
  · have hres := zif_neg c6_3 hres
    refine lv_iload_n hx hb dX5_sheet_9 rfl (lv_at hl 2 rfl) ?_
    refine lv_if_eq (tgt := 38) hx hb dX5_sheet_10 (by decide) (fun c10_4 => ?_) (fun c10_4 => ?_)
    · have hres := zif_pos c10_4 hres
      exact J38 _ _ _ _ (by first | assumption | (clear hres; grind [f_X5_within, f_X2_has])) hH (lv_sub hl [0, 1, 2, 3] rfl) hres
    · have hres := zif_neg c10_4 hres
      refine lv_iload_n hx hb dX5_sheet_13 rfl (lv_at hl 2 rfl) ?_
      refine lv_bipush (v := (8 : Int32)) hx hb dX5_sheet_14 (by decide) ?_
      refine lv_icmp_eq (tgt := 38) hx hb dX5_sheet_16 (by decide) (fun c16_5 => ?_) (fun c16_5 => ?_)
      · have hres := zif_pos c16_5 hres
        exact J38 _ _ _ _ (by first | assumption | (clear hres; grind [f_X5_within, f_X2_has])) hH (lv_sub hl [0, 1, 2, 3] rfl) hres
      · have hres := zif_neg c16_5 hres
        refine lv_iload_n hx hb dX5_sheet_19 rfl (lv_at hl 2 rfl) ?_
        refine lv_bipush (v := (16 : Int32)) hx hb dX5_sheet_20 (by decide) ?_
        refine lv_icmp_eq (tgt := 38) hx hb dX5_sheet_22 (by decide) (fun c22_6 => ?_) (fun c22_6 => ?_)
        · have hres := zif_pos c22_6 hres
          exact J38 _ _ _ _ (by first | assumption | (clear hres; grind [f_X5_within, f_X2_has])) hH (lv_sub hl [0, 1, 2, 3] rfl) hres
        · have hres := zif_neg c22_6 hres
          refine lv_iload_n hx hb dX5_sheet_25 rfl (lv_at hl 2 rfl) ?_
          refine lv_bipush (v := (64 : Int32)) hx hb dX5_sheet_26 (by decide) ?_
          refine lv_icmp_eq (tgt := 38) hx hb dX5_sheet_28 (by decide) (fun c28_7 => ?_) (fun c28_7 => ?_)
          · have hres := zif_pos c28_7 hres
            exact J38 _ _ _ _ (by first | assumption | (clear hres; grind [f_X5_within, f_X2_has])) hH (lv_sub hl [0, 1, 2, 3] rfl) hres
          · have hres := zif_neg c28_7 hres
            exact J31 _ _ _ _ hH (lv_sub hl [0] rfl) hres
set_option maxRecDepth 100000 in
set_option maxHeartbeats 4000000 in
theorem c_X5_write (l : Launch) (D : va_G) (cy : Nat → ClassId) (ad : Nat → Nat) (M : zM) (p1 : Int32) (p2 : Int32) (p3 : Int64) : Met l yX5_write (Cond.code yX5_write cX5_write 8 (some .long) :: zG) ({ frames := 2, cells := 0, slots := 0, locals := 44 }) (zP D lyC cy ad [.ref (ad 0), .int p1, .int p2, .long p3] M) (zQl D lyC cy ad (f_X5_write p1 p2 p3 M).1 (f_X5_write p1 p2 p3 M).2) 0 0 (zA lyC ad) := by
  generalize hres : (f_X5_write p1 p2 p3 M) = res
  refine zMet (by decide) (Nat.le_of_ble_eq_true rfl) ?_
  intro p e s m args below meth c ls C0 hH hl
  obtain ⟨⟨hx, hb, hml, hown, hts⟩, -⟩ := id C0
  have hz : ∀ w ∈ zG, w.before args s = true := fun w h => hts w (List.mem_cons_of_mem _ h)
  have hl : lv_has ls 8 [(0, .ref (ad 0)), (1, .int p1), (2, .int p2), (3, .long p3)] := hl
  refine lv_iload_n hx hb dX5_write_0 rfl (lv_at hl 1 rfl) ?_
  refine lv_iconst (v := (0 : Int32)) hx hb dX5_write_1 (by decide) ?_
  refine lv_iconst (v := (3 : Int32)) hx hb dX5_write_2 (by decide) ?_
  refine zcz (zrunS C0 hH (c_X5_within l D cy ad _ _ _ _) kM_X5_54 kq_X5_within rfl hl.1 rfl rfl rfl ⟨Nat.le_of_ble_eq_true rfl, Nat.le_of_ble_eq_true rfl⟩ (Nat.le_of_ble_eq_true rfl) dX5_write_3) hH (fun H locs hH h01_1 => ?_)
  refine lv_if_ne (tgt := 17) hx hb dX5_write_6 (by decide) (fun c6_3 => ?_) (fun c6_3 => ?_)
  · have hres := zif_neg c6_3 hres
    refine lv_aload_n hx hb dX5_write_17 rfl (lv_at hl 0 rfl) ?_
    refine zgR C0 hH zK5 7 (by decide) _ zX0 rfl kF_X5_45 dX5_write_18 ?_
    refine lv_iload_n hx hb dX5_write_21 rfl (lv_at hl 1 rfl) ?_
    refine zqldS C0 hH (by exact zin4.mpr (by have q0 := hH.row zRow1; have q1 := hH.bkl zBk43; have q2 := hH.bkn zBk43; clear hres; grind [f_X5_within, f_X2_has, slot_X1])) dX5_write_22 (fun hb4 => ?_)
    refine lv_astore (lv' := [(5, _), (0, _), (1, _), (2, _), (3, _)]) hx hb dX5_write_23 hl (by decide) rfl (fun ls hl => ?_)
    refine lv_aload hx hb dX5_write_25 (lv_at hl 0 rfl) ?_
    refine zcz (zrunV C0 hH (c_X3_isMissing l D cy ad _ _ hb4) kM_X5_165 zK3 kq_X3_isMissing hb4.is rfl hl.1 rfl rfl rfl ⟨Nat.le_of_ble_eq_true rfl, Nat.le_of_ble_eq_true rfl⟩ (Nat.le_of_ble_eq_true rfl) dX5_write_27) hH (fun H locs hH h01_5 => ?_)
    refine lv_if_eq (tgt := 41) hx hb dX5_write_30 (by decide) (fun c30_7 => ?_) (fun c30_7 => ?_)
    · have hres := zif_pos c30_7 hres
      refine lv_iload_n hx hb dX5_write_41 rfl (lv_at hl 3 rfl) ?_
      refine lv_iconst (v := (0 : Int32)) hx hb dX5_write_42 (by decide) ?_
      refine lv_aload hx hb dX5_write_43 (lv_at hl 0 rfl) ?_
      refine zgIN C0 hH zK3 2 (by decide) hb4.is rfl kN_X5_170 dX5_write_45 ?_
      refine lv_iconst (v := (1 : Int32)) hx hb dX5_write_48 (by decide) ?_
      refine lv_isub hx hb dX5_write_49 ?_
      refine zcz (zrunS C0 hH (c_X5_within l D cy ad _ _ _ _) kM_X5_54 kq_X5_within rfl hl.1 rfl rfl rfl ⟨Nat.le_of_ble_eq_true rfl, Nat.le_of_ble_eq_true rfl⟩ (Nat.le_of_ble_eq_true rfl) dX5_write_50) hH (fun H locs hH h01_8 => ?_)
      refine lv_if_ne (tgt := 64) hx hb dX5_write_53 (by decide) (fun c53_10 => ?_) (fun c53_10 => ?_)
      · have hres := zif_neg c53_10 hres
        refine lv_aload hx hb dX5_write_64 (lv_at hl 0 rfl) ?_
        refine zgRN C0 hH zK3 0 (by decide) _ hb4.is rfl kN_X5_172 dX5_write_66 ?_
        refine lv_iload_n hx hb dX5_write_69 rfl (lv_at hl 3 rfl) ?_
        refine zlld C0 hH hb4.arr hb4.ln (by exact zin40.mpr (by have q0 := hH.row zRow1; have q1 := hH.bkl zBk43; have q2 := hH.bkn zBk43; have q3 := hH.sh hb4; clear hres; grind [f_X5_within, f_X2_has, slot_X1])) dX5_write_70 ?_
        refine lv_lstore (lv' := [(6, _), (5, _), (0, _), (1, _), (2, _), (3, _)]) hx hb dX5_write_71 hl (by decide) rfl (fun ls hl => ?_)
        refine lv_aload hx hb dX5_write_73 (lv_at hl 1 rfl) ?_
        refine zgRN C0 hH zK3 0 (by decide) _ hb4.is rfl kN_X5_172 dX5_write_75 ?_
        refine lv_iload_n hx hb dX5_write_78 rfl (lv_at hl 4 rfl) ?_
        refine lv_aload hx hb dX5_write_79 (lv_at hl 1 rfl) ?_
        refine lv_lload_n hx hb dX5_write_81 rfl (lv_at hl 5 rfl) ?_
        refine zcl (zrunV C0 hH (c_X3_lowestBits l D cy ad _ _ hb4 _) kM_X5_200 zK3 kq_X3_lowestBits hb4.is rfl hl.1 rfl rfl rfl ⟨Nat.le_of_ble_eq_true rfl, Nat.le_of_ble_eq_true rfl⟩ (Nat.le_of_ble_eq_true rfl) dX5_write_82) hH (fun H locs hH => ?_)
        refine zlst C0 hH hb4.arr hb4.ln (by exact zin40.mpr (by have q0 := hH.row zRow1; have q1 := hH.bkl zBk43; have q2 := hH.bkn zBk43; have q3 := hH.sh hb4; clear hres; grind [f_X5_within, f_X2_has, slot_X1])) dX5_write_85 (fun H locs hH => ?_)
        refine lv_lload hx hb dX5_write_86 (lv_at hl 0 rfl) ?_
        exact zretl C0 hH dX5_write_88 (zfst hres) (zsnd hres)
      · have hres := zif_pos c53_10 hres
        refine lv_aload_n hx hb dX5_write_56 rfl (lv_at hl 1 rfl) ?_
        refine lv_ldc (v := (-1000000001 : Int32)) hx hb hown (hz _ kK_X5_58) dX5_write_57 ?_
        refine zci (zrunV C0 hH (c_X5_finding l D cy ad _ _) kM_X5_59 zK5 kq_X5_finding zX0 rfl hl.1 rfl rfl rfl ⟨Nat.le_of_ble_eq_true rfl, Nat.le_of_ble_eq_true rfl⟩ (Nat.le_of_ble_eq_true rfl) dX5_write_59) hH (fun H locs hH => ?_)
        refine lv_i2l hx hb dX5_write_62 rfl ?_
        exact zretl C0 hH dX5_write_63 (zfst hres) (zsnd hres)
    · have hres := zif_neg c30_7 hres
      refine lv_aload_n hx hb dX5_write_33 rfl (lv_at hl 1 rfl) ?_
      refine lv_ldc (v := (-1000000006 : Int32)) hx hb hown (hz _ kK_X5_169) dX5_write_34 ?_
      refine zci (zrunV C0 hH (c_X5_finding l D cy ad _ _) kM_X5_59 zK5 kq_X5_finding zX0 rfl hl.1 rfl rfl rfl ⟨Nat.le_of_ble_eq_true rfl, Nat.le_of_ble_eq_true rfl⟩ (Nat.le_of_ble_eq_true rfl) dX5_write_36) hH (fun H locs hH => ?_)
      refine lv_i2l hx hb dX5_write_39 rfl ?_
      exact zretl C0 hH dX5_write_40 (zfst hres) (zsnd hres)
  · have hres := zif_pos c6_3 hres
    refine lv_aload_n hx hb dX5_write_9 rfl (lv_at hl 0 rfl) ?_
    refine lv_ldc (v := (-1000000001 : Int32)) hx hb hown (hz _ kK_X5_58) dX5_write_10 ?_
    refine zci (zrunV C0 hH (c_X5_finding l D cy ad _ _) kM_X5_59 zK5 kq_X5_finding zX0 rfl hl.1 rfl rfl rfl ⟨Nat.le_of_ble_eq_true rfl, Nat.le_of_ble_eq_true rfl⟩ (Nat.le_of_ble_eq_true rfl) dX5_write_12) hH (fun H locs hH => ?_)
    refine lv_i2l hx hb dX5_write_15 rfl ?_
    exact zretl C0 hH dX5_write_16 (zfst hres) (zsnd hres)
