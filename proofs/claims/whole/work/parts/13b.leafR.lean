set_option maxRecDepth 100000 in
set_option maxHeartbeats 4000000 in
theorem c_X6_great (l : Launch) (D : va_G) (cy : Nat → ClassId) (ad : Nat → Nat) (M : zM) (p1 : Int32) (p2 : Int32) : Met l yX6_great (Cond.code yX6_great cX6_great 7 (some .int) :: zG) ({ frames := 1, cells := 0, slots := 0, locals := 22 }) (zP D lyR cy ad [.ref (ad 0), .int p1, .int p2] M) (zQi D lyR cy ad (f_X6_great p1 p2 M).1 (f_X6_great p1 p2 M).2) 0 0 (zA lyR ad) := by
  generalize hres : (f_X6_great p1 p2 M) = res
  refine zMet (by decide) (Nat.le_of_ble_eq_true rfl) ?_
  intro p e s m args below meth c ls C0 hH hl
  obtain ⟨⟨hx, hb, hml, hown, hts⟩, -⟩ := id C0
  have hz : ∀ w ∈ zG, w.before args s = true := fun w h => hts w (List.mem_cons_of_mem _ h)
  have hl : lv_has ls 7 [(0, .ref (ad 0)), (1, .int p1), (2, .int p2)] := hl
  have g0 := hH.many
  have J20 : ∀ (mm : zM) (H : Heap) (locs : List Loc) (ls : Array Slot), zH D lyR cy ad s.heap mm H locs → lv_has ls 7 [(0, .ref (ad 0))] → f_X6_great_20 p1 p2 mm = res → W p l e { frames := 1, cells := 0, slots := 0, locals := 22 } s m args below meth c H locs 0 0 (MQ below (zQi D lyR cy ad res.1 res.2) args s 0 0 (zA lyR ad)) (F0 m 20 ls []) := by
    intro mm H locs ls hH hl hres
    refine lv_aload_n hx hb dX6_great_20 rfl (lv_at hl 0 rfl) ?_
    refine lv_iconst (v := (0 : Int32)) hx hb dX6_great_21 (by decide) ?_
    refine zci (zrunV C0 hH (c_X6_no l D cy ad _ _ (by decide)) kM_X6_85 zK6 kq_X6_no zR0 rfl hl.1 rfl rfl rfl ⟨Nat.le_of_ble_eq_true rfl, Nat.le_of_ble_eq_true rfl⟩ (Nat.le_of_ble_eq_true rfl) dX6_great_22) hH (fun H locs hH => ?_)
    exact zreti C0 hH dX6_great_25 (zfst hres) (zsnd hres)
  have L31 : ∀ (n31 : Nat), ∀ (v3 : Int32) (v4 : Int32) (mm : zM) (H : Heap) (locs : List Loc) (ls : Array Slot), (zCt 100 n31 v4) → zH D lyR cy ad s.heap mm H locs → lv_has ls 7 [(0, .ref (ad 0)), (1, .int p1), (2, .int p2), (3, .int v3), (4, .int v4)] → f_X6_great_31 p1 p2 n31 v3 v4 mm = res → W p l e { frames := 1, cells := 0, slots := 0, locals := 22 } s m args below meth c H locs 0 0 (MQ below (zQi D lyR cy ad res.1 res.2) args s 0 0 (zA lyR ad)) (F0 m 31 ls []) := by
    intro n31
    induction n31 with
    | zero =>
      intro v3 v4 mm H locs ls hct hH hl hres
      exfalso; exact hct.zero
    | succ n31 ih31 =>
      have J100 : ∀ (v3 : Int32) (v4 : Int32) (v5 : Int32) (s0 : Int32) (mm : zM) (H : Heap) (locs : List Loc) (ls : Array Slot), (zCt 100 (n31 + 1) v4) → (v4 < 100) → zH D lyR cy ad s.heap mm H locs → lv_has ls 7 [(0, .ref (ad 0)), (1, .int p1), (2, .int p2), (3, .int v3), (4, .int v4), (5, .int v5)] → f_X6_great_100 p1 p2 (fun wv3 wv4 wmm => f_X6_great_31 p1 p2 n31 wv3 wv4 wmm) v3 v4 v5 s0 mm = res → W p l e { frames := 1, cells := 0, slots := 0, locals := 22 } s m args below meth c H locs 0 0 (MQ below (zQi D lyR cy ad res.1 res.2) args s 0 0 (zA lyR ad)) (F0 m 100 ls [.int s0]) := by
        intro v3 v4 v5 s0 mm H locs ls hct hv hH hl hres
        refine lv_istore (lv' := [(6, _), (0, _), (1, _), (2, _), (3, _), (4, _), (5, _)]) hx hb dX6_great_100 hl (by decide) rfl (fun ls hl => ?_)
        refine lv_iload_n hx hb dX6_great_102 rfl (lv_at hl 4 rfl) ?_
        refine lv_iload hx hb dX6_great_103 (lv_at hl 6 rfl) ?_
        refine lv_if_eq (tgt := 121) hx hb dX6_great_105 (by decide) (fun c105_12 => ?_) (fun c105_12 => ?_)
        · have hres := zif_pos c105_12 hres
          refine lv_iconst (v := (0 : Int32)) hx hb dX6_great_121 (by decide) ?_
          refine lv_iadd hx hb dX6_great_122 ?_
          refine lv_istore_n (lv' := [(3, _), (6, _), (0, _), (1, _), (2, _), (4, _), (5, _)]) hx hb dX6_great_123 rfl hl (by decide) rfl (fun ls hl => ?_)
          refine ziinc (lv' := [(4, _), (3, _), (6, _), (0, _), (1, _), (2, _), (5, _)]) (k := 5) hx hb (1 : Int32) (by decide) dX6_great_124 hl rfl (by decide) rfl (fun ls hl => ?_)
          refine lv_goto (tgt := 31) hx hb dX6_great_127 (by decide) ?_
          exact ih31 _ _ _ _ _ _ (by first | exact zCt.start (by decide) (by decide) | exact zCt.begin (by decide) (by decide) (by decide) | exact zCt.step (m := 100) hct (by first | assumption | (clear hres; grind [f_X6_in, f_X6_isBlock, f_X6_isAhead, f_X6_isSheet])) (by decide)) hH (lv_sub hl [3, 4, 5, 1, 0] rfl) hres
        · have hres := zif_neg c105_12 hres
          refine lv_iload_n hx hb dX6_great_108 rfl (lv_at hl 3 rfl) ?_
          refine lv_if_eq (tgt := 117) hx hb dX6_great_109 (by decide) (fun c109_14 => ?_) (fun c109_14 => ?_)
          · have hres := zif_pos c109_14 hres
            refine lv_iconst (v := (1 : Int32)) hx hb dX6_great_117 (by decide) ?_
            refine lv_goto (tgt := 122) hx hb dX6_great_118 (by decide) ?_
            refine lv_iadd hx hb dX6_great_122 ?_
            refine lv_istore_n (lv' := [(3, _), (6, _), (0, _), (1, _), (2, _), (4, _), (5, _)]) hx hb dX6_great_123 rfl hl (by decide) rfl (fun ls hl => ?_)
            refine ziinc (lv' := [(4, _), (3, _), (6, _), (0, _), (1, _), (2, _), (5, _)]) (k := 5) hx hb (1 : Int32) (by decide) dX6_great_124 hl rfl (by decide) rfl (fun ls hl => ?_)
            refine lv_goto (tgt := 31) hx hb dX6_great_127 (by decide) ?_
            exact ih31 _ _ _ _ _ _ (by first | exact zCt.start (by decide) (by decide) | exact zCt.begin (by decide) (by decide) (by decide) | exact zCt.step (m := 100) hct (by first | assumption | (clear hres; grind [f_X6_in, f_X6_isBlock, f_X6_isAhead, f_X6_isSheet])) (by decide)) hH (lv_sub hl [3, 4, 5, 1, 0] rfl) hres
          · have hres := zif_neg c109_14 hres
            refine lv_iload hx hb dX6_great_112 (lv_at hl 0 rfl) ?_
            refine lv_if_eq (tgt := 121) hx hb dX6_great_114 (by decide) (fun c114_16 => ?_) (fun c114_16 => ?_)
            · have hres := zif_pos c114_16 hres
              refine lv_iconst (v := (0 : Int32)) hx hb dX6_great_121 (by decide) ?_
              refine lv_iadd hx hb dX6_great_122 ?_
              refine lv_istore_n (lv' := [(3, _), (6, _), (0, _), (1, _), (2, _), (4, _), (5, _)]) hx hb dX6_great_123 rfl hl (by decide) rfl (fun ls hl => ?_)
              refine ziinc (lv' := [(4, _), (3, _), (6, _), (0, _), (1, _), (2, _), (5, _)]) (k := 5) hx hb (1 : Int32) (by decide) dX6_great_124 hl rfl (by decide) rfl (fun ls hl => ?_)
              refine lv_goto (tgt := 31) hx hb dX6_great_127 (by decide) ?_
              exact ih31 _ _ _ _ _ _ (by first | exact zCt.start (by decide) (by decide) | exact zCt.begin (by decide) (by decide) (by decide) | exact zCt.step (m := 100) hct (by first | assumption | (clear hres; grind [f_X6_in, f_X6_isBlock, f_X6_isAhead, f_X6_isSheet])) (by decide)) hH (lv_sub hl [3, 4, 5, 1, 0] rfl) hres
            · have hres := zif_neg c114_16 hres
              refine lv_iconst (v := (1 : Int32)) hx hb dX6_great_117 (by decide) ?_
              refine lv_goto (tgt := 122) hx hb dX6_great_118 (by decide) ?_
              refine lv_iadd hx hb dX6_great_122 ?_
              refine lv_istore_n (lv' := [(3, _), (6, _), (0, _), (1, _), (2, _), (4, _), (5, _)]) hx hb dX6_great_123 rfl hl (by decide) rfl (fun ls hl => ?_)
              refine ziinc (lv' := [(4, _), (3, _), (6, _), (0, _), (1, _), (2, _), (5, _)]) (k := 5) hx hb (1 : Int32) (by decide) dX6_great_124 hl rfl (by decide) rfl (fun ls hl => ?_)
              refine lv_goto (tgt := 31) hx hb dX6_great_127 (by decide) ?_
              exact ih31 _ _ _ _ _ _ (by first | exact zCt.start (by decide) (by decide) | exact zCt.begin (by decide) (by decide) (by decide) | exact zCt.step (m := 100) hct (by first | assumption | (clear hres; grind [f_X6_in, f_X6_isBlock, f_X6_isAhead, f_X6_isSheet])) (by decide)) hH (lv_sub hl [3, 4, 5, 1, 0] rfl) hres
      have J99 : ∀ (v3 : Int32) (v4 : Int32) (v5 : Int32) (mm : zM) (H : Heap) (locs : List Loc) (ls : Array Slot), (zCt 100 (n31 + 1) v4) → (v4 < 100) → zH D lyR cy ad s.heap mm H locs → lv_has ls 7 [(0, .ref (ad 0)), (1, .int p1), (2, .int p2), (3, .int v3), (4, .int v4), (5, .int v5)] → f_X6_great_99 p1 p2 (fun wv3 wv4 wmm => f_X6_great_31 p1 p2 n31 wv3 wv4 wmm) v3 v4 v5 mm = res → W p l e { frames := 1, cells := 0, slots := 0, locals := 22 } s m args below meth c H locs 0 0 (MQ below (zQi D lyR cy ad res.1 res.2) args s 0 0 (zA lyR ad)) (F0 m 99 ls []) := by
        intro v3 v4 v5 mm H locs ls hct hv hH hl hres
        refine lv_iconst (v := (0 : Int32)) hx hb dX6_great_99 (by decide) ?_
        exact J100 _ _ _ _ _ _ _ _ (by assumption) (by first | assumption | (clear hres; grind [f_X6_in, f_X6_isBlock, f_X6_isAhead, f_X6_isSheet])) hH (lv_sub hl [0, 1, 2, 3, 4, 5] rfl) hres
      have J63 : ∀ (v3 : Int32) (v4 : Int32) (s0 : Int32) (mm : zM) (H : Heap) (locs : List Loc) (ls : Array Slot), (zCt 100 (n31 + 1) v4) → (v4 < 100) → zH D lyR cy ad s.heap mm H locs → lv_has ls 7 [(0, .ref (ad 0)), (1, .int p1), (2, .int p2), (3, .int v3), (4, .int v4)] → f_X6_great_63 p1 p2 (fun wv3 wv4 wmm => f_X6_great_31 p1 p2 n31 wv3 wv4 wmm) v3 v4 s0 mm = res → W p l e { frames := 1, cells := 0, slots := 0, locals := 22 } s m args below meth c H locs 0 0 (MQ below (zQi D lyR cy ad res.1 res.2) args s 0 0 (zA lyR ad)) (F0 m 63 ls [.int s0]) := by
        intro v3 v4 s0 mm H locs ls hct hv hH hl hres
        refine lv_istore (lv' := [(5, _), (0, _), (1, _), (2, _), (3, _), (4, _)]) hx hb dX6_great_63 hl (by decide) rfl (fun ls hl => ?_)
        refine lv_iload hx hb dX6_great_65 (lv_at hl 5 rfl) ?_
        refine lv_iconst (v := (1 : Int32)) hx hb dX6_great_67 (by decide) ?_
        refine lv_iadd hx hb dX6_great_68 ?_
        refine lv_aload_n hx hb dX6_great_69 rfl (lv_at hl 1 rfl) ?_
        refine zgR C0 hH zK6 0 (by decide) _ zR0 rfl kF_X6_9 dX6_great_70 ?_
        refine lv_bipush (v := (13 : Int32)) hx hb dX6_great_73 (by decide) ?_
        refine zaldK C0 hH zS31.is zS31.ln (k := 13) (by decide) (by unfold vp_in; decide) dX6_great_75 ?_
        refine lv_icmp_ge (tgt := 99) hx hb dX6_great_76 (by decide) (fun c76_10 => ?_) (fun c76_10 => ?_)
        · have hres := zif_pos c76_10 hres
          exact J99 _ _ _ _ _ _ _ (by assumption) (by first | assumption | (clear hres; grind [f_X6_in, f_X6_isBlock, f_X6_isAhead, f_X6_isSheet])) hH (lv_sub hl [1, 2, 3, 4, 5, 0] rfl) hres
        · have hres := zif_neg c76_10 hres
          refine lv_aload_n hx hb dX6_great_79 rfl (lv_at hl 1 rfl) ?_
          refine zgR C0 hH zK6 0 (by decide) _ zR0 rfl kF_X6_9 dX6_great_80 ?_
          refine lv_sipush (v := (148 : Int32)) hx hb dX6_great_83 (by decide) ?_
          refine lv_iload hx hb dX6_great_86 (lv_at hl 5 rfl) ?_
          refine lv_iadd hx hb dX6_great_88 ?_
          refine lv_iconst (v := (1 : Int32)) hx hb dX6_great_89 (by decide) ?_
          refine lv_iadd hx hb dX6_great_90 ?_
          refine zald C0 hH zS31.is zS31.ln (by exact zin448.mpr (by have q0 := hH.many; have q1 := hH.booked; have q2 := hH.coded; have q3 := hH.taped; have q4 := hH.here; have q5 := hH.ncode; obtain ⟨qa, qb, -⟩ := hct; clear hres; grind [f_X6_in, f_X6_isBlock, f_X6_isAhead, f_X6_isSheet])) dX6_great_91 ?_
          refine lv_if_le (tgt := 99) hx hb dX6_great_92 (by decide) (fun c92_11 => ?_) (fun c92_11 => ?_)
          · have hres := zif_pos c92_11 hres
            exact J99 _ _ _ _ _ _ _ (by assumption) (by first | assumption | (clear hres; grind [f_X6_in, f_X6_isBlock, f_X6_isAhead, f_X6_isSheet])) hH (lv_sub hl [1, 2, 3, 4, 5, 0] rfl) hres
          · have hres := zif_neg c92_11 hres
            refine lv_iconst (v := (1 : Int32)) hx hb dX6_great_95 (by decide) ?_
            refine lv_goto (tgt := 100) hx hb dX6_great_96 (by decide) ?_
            exact J100 _ _ _ _ _ _ _ _ (by assumption) (by first | assumption | (clear hres; grind [f_X6_in, f_X6_isBlock, f_X6_isAhead, f_X6_isSheet])) hH (lv_sub hl [1, 2, 3, 4, 5, 0] rfl) hres
      intro v3 v4 mm H locs ls hct hH hl hres
      have g0 := hH.booked
      refine lv_iload hx hb dX6_great_31 (lv_at hl 4 rfl) ?_
      refine lv_aload_n hx hb dX6_great_33 rfl (lv_at hl 0 rfl) ?_
      refine zgR C0 hH zK6 0 (by decide) _ zR0 rfl kF_X6_9 dX6_great_34 ?_
      refine lv_bipush (v := (13 : Int32)) hx hb dX6_great_37 (by decide) ?_
      refine zaldK C0 hH zS31.is zS31.ln (k := 13) (by decide) (by unfold vp_in; decide) dX6_great_39 ?_
      refine lv_icmp_ge (tgt := 130) hx hb dX6_great_40 (by decide) (fun c40_8 => ?_) (fun c40_8 => ?_)
      · have hres := zif_pos c40_8 hres
        refine lv_iload_n hx hb dX6_great_130 rfl (lv_at hl 3 rfl) ?_
        exact zreti C0 hH dX6_great_131 (zfst hres) (zsnd hres)
      · have hres := zif_neg c40_8 hres
        refine lv_aload_n hx hb dX6_great_43 rfl (lv_at hl 0 rfl) ?_
        refine zgR C0 hH zK6 0 (by decide) _ zR0 rfl kF_X6_9 dX6_great_44 ?_
        refine lv_sipush (v := (148 : Int32)) hx hb dX6_great_47 (by decide) ?_
        refine lv_iload hx hb dX6_great_50 (lv_at hl 4 rfl) ?_
        refine lv_iadd hx hb dX6_great_52 ?_
        refine zald C0 hH zS31.is zS31.ln (by exact zin448.mpr (by have q0 := hH.many; have q1 := hH.booked; have q2 := hH.coded; have q3 := hH.taped; have q4 := hH.here; have q5 := hH.ncode; obtain ⟨qa, qb, -⟩ := hct; clear hres; grind [f_X6_in, f_X6_isBlock, f_X6_isAhead, f_X6_isSheet])) dX6_great_53 ?_
        refine lv_iload_n hx hb dX6_great_54 rfl (lv_at hl 1 rfl) ?_
        refine lv_icmp_lt (tgt := 62) hx hb dX6_great_55 (by decide) (fun c55_9 => ?_) (fun c55_9 => ?_)
        · have hres := zif_pos c55_9 hres
          refine lv_iconst (v := (0 : Int32)) hx hb dX6_great_62 (by decide) ?_
          exact J63 _ _ _ _ _ _ _ (by assumption) (by first | assumption | (clear hres; grind [f_X6_in, f_X6_isBlock, f_X6_isAhead, f_X6_isSheet])) hH (lv_sub hl [0, 1, 2, 3, 4] rfl) hres
        · have hres := zif_neg c55_9 hres
          refine lv_iconst (v := (1 : Int32)) hx hb dX6_great_58 (by decide) ?_
          refine lv_goto (tgt := 63) hx hb dX6_great_59 (by decide) ?_
          exact J63 _ _ _ _ _ _ _ (by assumption) (by first | assumption | (clear hres; grind [f_X6_in, f_X6_isBlock, f_X6_isAhead, f_X6_isSheet])) hH (lv_sub hl [0, 1, 2, 3, 4] rfl) hres
  refine lv_iload_n hx hb dX6_great_0 rfl (lv_at hl 1 rfl) ?_
  refine lv_iconst (v := (1 : Int32)) hx hb dX6_great_1 (by decide) ?_
  refine lv_sipush (v := (400 : Int32)) hx hb dX6_great_2 (by decide) ?_
  refine zcz (zrunS C0 hH (c_X6_in l D cy ad _ _ _ _) kM_X6_57 kq_X6_in rfl hl.1 rfl rfl rfl ⟨Nat.le_of_ble_eq_true rfl, Nat.le_of_ble_eq_true rfl⟩ (Nat.le_of_ble_eq_true rfl) dX6_great_5) hH (fun H locs hH h01_1 => ?_)
  refine lv_if_eq (tgt := 20) hx hb dX6_great_8 (by decide) (fun c8_3 => ?_) (fun c8_3 => ?_)
  · have hres := zif_pos c8_3 hres
    exact J20 _ _ _ _ hH (lv_sub hl [0] rfl) hres
  · have hres := zif_neg c8_3 hres
    refine lv_iload_n hx hb dX6_great_11 rfl (lv_at hl 2 rfl) ?_
    refine lv_iconst (v := (0 : Int32)) hx hb dX6_great_12 (by decide) ?_
    refine lv_iconst (v := (1 : Int32)) hx hb dX6_great_13 (by decide) ?_
    refine zcz (zrunS C0 hH (c_X6_in l D cy ad _ _ _ _) kM_X6_57 kq_X6_in rfl hl.1 rfl rfl rfl ⟨Nat.le_of_ble_eq_true rfl, Nat.le_of_ble_eq_true rfl⟩ (Nat.le_of_ble_eq_true rfl) dX6_great_14) hH (fun H locs hH h01_4 => ?_)
    refine lv_if_ne (tgt := 26) hx hb dX6_great_17 (by decide) (fun c17_6 => ?_) (fun c17_6 => ?_)
    · have hres := zif_neg c17_6 hres
      refine lv_iconst (v := (0 : Int32)) hx hb dX6_great_26 (by decide) ?_
      refine lv_istore_n (lv' := [(3, _), (0, _), (1, _), (2, _)]) hx hb dX6_great_27 rfl hl (by decide) rfl (fun ls hl => ?_)
      refine lv_iconst (v := (0 : Int32)) hx hb dX6_great_28 (by decide) ?_
      refine lv_istore (lv' := [(4, _), (3, _), (0, _), (1, _), (2, _)]) hx hb dX6_great_29 hl (by decide) rfl (fun ls hl => ?_)
      exact L31 (101) _ _ _ _ _ _ (by first | exact zCt.start (by decide) (by decide) | exact zCt.begin (by decide) (by decide) (by decide) | exact zCt.step (m := 100) hct (by first | assumption | (clear hres; grind [f_X6_in, f_X6_isBlock, f_X6_isAhead, f_X6_isSheet])) (by decide)) hH (lv_sub hl [2, 3, 4, 1, 0] rfl) hres
    · have hres := zif_pos c17_6 hres
      exact J20 _ _ _ _ hH (lv_sub hl [0] rfl) hres
set_option maxRecDepth 100000 in
set_option maxHeartbeats 4000000 in
theorem c_X6_noise (l : Launch) (D : va_G) (cy : Nat → ClassId) (ad : Nat → Nat) (M : zM) (p1 : Int32) : Met l yX6_noise (Cond.code yX6_noise cX6_noise 5 (some .long) :: zG) ({ frames := 2, cells := 0, slots := 0, locals := 43 }) (zP D lyR cy ad [.ref (ad 0), .int p1] M) (zQl D lyR cy ad (f_X6_noise p1 M).1 (f_X6_noise p1 M).2) 0 0 (zA lyR ad) := by
  generalize hres : (f_X6_noise p1 M) = res
  refine zMet (by decide) (Nat.le_of_ble_eq_true rfl) ?_
  intro p e s m args below meth c ls C0 hH hl
  obtain ⟨⟨hx, hb, hml, hown, hts⟩, -⟩ := id C0
  have hz : ∀ w ∈ zG, w.before args s = true := fun w h => hts w (List.mem_cons_of_mem _ h)
  have hl : lv_has ls 5 [(0, .ref (ad 0)), (1, .int p1)] := hl
  have g0 := hH.many
  have L20 : ∀ (n20 : Nat), ∀ (v2 : Int64) (v4 : Int32) (mm : zM) (H : Heap) (locs : List Loc) (ls : Array Slot), (zCt 100 n20 v4) → zH D lyR cy ad s.heap mm H locs → lv_has ls 5 [(0, .ref (ad 0)), (1, .int p1), (2, .long v2), (4, .int v4)] → f_X6_noise_20 p1 n20 v2 v4 mm = res → W p l e { frames := 2, cells := 0, slots := 0, locals := 43 } s m args below meth c H locs 0 0 (MQ below (zQl D lyR cy ad res.1 res.2) args s 0 0 (zA lyR ad)) (F0 m 20 ls []) := by
    intro n20
    induction n20 with
    | zero =>
      intro v2 v4 mm H locs ls hct hH hl hres
      exfalso; exact hct.zero
    | succ n20 ih20 =>
      intro v2 v4 mm H locs ls hct hH hl hres
      have g0 := hH.booked
      refine lv_iload hx hb dX6_noise_20 (lv_at hl 3 rfl) ?_
      refine lv_aload_n hx hb dX6_noise_22 rfl (lv_at hl 0 rfl) ?_
      refine zgR C0 hH zK6 0 (by decide) _ zR0 rfl kF_X6_9 dX6_noise_23 ?_
      refine lv_bipush (v := (13 : Int32)) hx hb dX6_noise_26 (by decide) ?_
      refine zaldK C0 hH zS31.is zS31.ln (k := 13) (by decide) (by unfold vp_in; decide) dX6_noise_28 ?_
      refine lv_icmp_ge (tgt := 76) hx hb dX6_noise_29 (by decide) (fun c29_5 => ?_) (fun c29_5 => ?_)
      · have hres := zif_pos c29_5 hres
        refine lv_lload_n hx hb dX6_noise_76 rfl (lv_at hl 2 rfl) ?_
        exact zretl C0 hH dX6_noise_77 (zfst hres) (zsnd hres)
      · have hres := zif_neg c29_5 hres
        refine lv_lload_n hx hb dX6_noise_32 rfl (lv_at hl 2 rfl) ?_
        refine lv_aload_n hx hb dX6_noise_33 rfl (lv_at hl 0 rfl) ?_
        refine zgR C0 hH zK6 0 (by decide) _ zR0 rfl kF_X6_9 dX6_noise_34 ?_
        refine lv_sipush (v := (248 : Int32)) hx hb dX6_noise_37 (by decide) ?_
        refine lv_iload hx hb dX6_noise_40 (lv_at hl 3 rfl) ?_
        refine lv_iadd hx hb dX6_noise_42 ?_
        refine zald C0 hH zS31.is zS31.ln (by exact zin448.mpr (by have q0 := hH.many; have q1 := hH.booked; have q2 := hH.coded; have q3 := hH.taped; have q4 := hH.here; have q5 := hH.ncode; obtain ⟨qa, qb, -⟩ := hct; clear hres; grind [f_X6_in, f_X6_isBlock, f_X6_isAhead, f_X6_isSheet])) dX6_noise_43 ?_
        refine lv_iload_n hx hb dX6_noise_44 rfl (lv_at hl 1 rfl) ?_
        refine lv_ishr hx hb dX6_noise_45 ?_
        refine lv_iconst (v := (1 : Int32)) hx hb dX6_noise_46 (by decide) ?_
        refine lv_iand hx hb dX6_noise_47 ?_
        refine lv_iconst (v := (1 : Int32)) hx hb dX6_noise_48 (by decide) ?_
        refine lv_icmp_ne (tgt := 67) hx hb dX6_noise_49 (by decide) (fun c49_6 => ?_) (fun c49_6 => ?_)
        · have hres := zif_neg c49_6 hres
          refine lv_lconst (v := (0 : Int64)) hx hb dX6_noise_67 (by decide) ?_
          refine lv_ladd hx hb dX6_noise_68 ?_
          refine lv_lstore_n (lv' := [(2, _), (0, _), (1, _), (4, _)]) hx hb dX6_noise_69 rfl hl (by decide) rfl (fun ls hl => ?_)
          refine ziinc (lv' := [(4, _), (2, _), (0, _), (1, _)]) (k := 3) hx hb (1 : Int32) (by decide) dX6_noise_70 hl rfl (by decide) rfl (fun ls hl => ?_)
          refine lv_goto (tgt := 20) hx hb dX6_noise_73 (by decide) ?_
          exact ih20 _ _ _ _ _ _ (by first | exact zCt.start (by decide) (by decide) | exact zCt.begin (by decide) (by decide) (by decide) | exact zCt.step (m := 100) hct (by first | assumption | (clear hres; grind [f_X6_in, f_X6_isBlock, f_X6_isAhead, f_X6_isSheet])) (by decide)) hH (lv_sub hl [2, 3, 1, 0] rfl) hres
        · have hres := zif_pos c49_6 hres
          refine lv_aload_n hx hb dX6_noise_52 rfl (lv_at hl 0 rfl) ?_
          refine zgR C0 hH zK6 0 (by decide) _ zR0 rfl kF_X6_9 dX6_noise_53 ?_
          refine lv_sipush (v := (348 : Int32)) hx hb dX6_noise_56 (by decide) ?_
          refine lv_iload hx hb dX6_noise_59 (lv_at hl 3 rfl) ?_
          refine lv_iadd hx hb dX6_noise_61 ?_
          refine zald C0 hH zS31.is zS31.ln (by exact zin448.mpr (by have q0 := hH.many; have q1 := hH.booked; have q2 := hH.coded; have q3 := hH.taped; have q4 := hH.here; have q5 := hH.ncode; obtain ⟨qa, qb, -⟩ := hct; clear hres; grind [f_X6_in, f_X6_isBlock, f_X6_isAhead, f_X6_isSheet])) dX6_noise_62 ?_
          refine lv_i2l hx hb dX6_noise_63 rfl ?_
          refine lv_goto (tgt := 68) hx hb dX6_noise_64 (by decide) ?_
          refine lv_ladd hx hb dX6_noise_68 ?_
          refine lv_lstore_n (lv' := [(2, _), (0, _), (1, _), (4, _)]) hx hb dX6_noise_69 rfl hl (by decide) rfl (fun ls hl => ?_)
          refine ziinc (lv' := [(4, _), (2, _), (0, _), (1, _)]) (k := 3) hx hb (1 : Int32) (by decide) dX6_noise_70 hl rfl (by decide) rfl (fun ls hl => ?_)
          refine lv_goto (tgt := 20) hx hb dX6_noise_73 (by decide) ?_
          exact ih20 _ _ _ _ _ _ (by first | exact zCt.start (by decide) (by decide) | exact zCt.begin (by decide) (by decide) (by decide) | exact zCt.step (m := 100) hct (by first | assumption | (clear hres; grind [f_X6_in, f_X6_isBlock, f_X6_isAhead, f_X6_isSheet])) (by decide)) hH (lv_sub hl [2, 3, 1, 0] rfl) hres
  refine lv_aload_n hx hb dX6_noise_0 rfl (lv_at hl 0 rfl) ?_
  refine lv_iload_n hx hb dX6_noise_1 rfl (lv_at hl 1 rfl) ?_
  refine zcz (zrunV C0 hH (c_X6_isBlock l D cy ad _ _) kM_X6_92 zK6 kq_X6_isBlock zR0 rfl hl.1 rfl rfl rfl ⟨Nat.le_of_ble_eq_true rfl, Nat.le_of_ble_eq_true rfl⟩ (Nat.le_of_ble_eq_true rfl) dX6_noise_2) hH (fun H locs hH h01_1 => ?_)
  refine lv_if_ne (tgt := 15) hx hb dX6_noise_5 (by decide) (fun c5_3 => ?_) (fun c5_3 => ?_)
  · have hres := zif_neg c5_3 hres
    refine lv_lconst (v := (0 : Int64)) hx hb dX6_noise_15 (by decide) ?_
    refine lv_lstore_n (lv' := [(2, _), (0, _), (1, _)]) hx hb dX6_noise_16 rfl hl (by decide) rfl (fun ls hl => ?_)
    refine lv_iconst (v := (0 : Int32)) hx hb dX6_noise_17 (by decide) ?_
    refine lv_istore (lv' := [(4, _), (2, _), (0, _), (1, _)]) hx hb dX6_noise_18 hl (by decide) rfl (fun ls hl => ?_)
    exact L20 (101) _ _ _ _ _ _ (by first | exact zCt.start (by decide) (by decide) | exact zCt.begin (by decide) (by decide) (by decide) | exact zCt.step (m := 100) hct (by first | assumption | (clear hres; grind [f_X6_in, f_X6_isBlock, f_X6_isAhead, f_X6_isSheet])) (by decide)) hH (lv_sub hl [2, 3, 1, 0] rfl) hres
  · have hres := zif_pos c5_3 hres
    refine lv_aload_n hx hb dX6_noise_8 rfl (lv_at hl 0 rfl) ?_
    refine lv_iconst (v := (0 : Int32)) hx hb dX6_noise_9 (by decide) ?_
    refine zci (zrunV C0 hH (c_X6_no l D cy ad _ _ (by decide)) kM_X6_85 zK6 kq_X6_no zR0 rfl hl.1 rfl rfl rfl ⟨Nat.le_of_ble_eq_true rfl, Nat.le_of_ble_eq_true rfl⟩ (Nat.le_of_ble_eq_true rfl) dX6_noise_10) hH (fun H locs hH => ?_)
    refine lv_i2l hx hb dX6_noise_13 rfl ?_
    exact zretl C0 hH dX6_noise_14 (zfst hres) (zsnd hres)
set_option maxRecDepth 100000 in
set_option maxHeartbeats 4000000 in
theorem c_X6_lay (l : Launch) (D : va_G) (cy : Nat → ClassId) (ad : Nat → Nat) (M : zM) (a0 : Nat) (ha0 : zS3 a0) (a1 : Nat) (ha1 : zS3 a1) : Met l yX6_lay (Cond.code yX6_lay cX6_lay 3 none :: zG) ({ frames := 0, cells := 0, slots := 0, locals := 0 }) (zP D lyR cy ad [.ref (ad a0), .ref (ad a1)] M) (zQv D lyR cy ad (f_X6_lay a0 a1 M)) 0 0 (zA lyR ad) := by
  generalize hres : (f_X6_lay a0 a1 M) = res
  refine zMet (by decide) (Nat.le_of_ble_eq_true rfl) ?_
  intro p e s m args below meth c ls C0 hH hl
  obtain ⟨⟨hx, hb, hml, hown, hts⟩, -⟩ := id C0
  have hz : ∀ w ∈ zG, w.before args s = true := fun w h => hts w (List.mem_cons_of_mem _ h)
  have hl : lv_has ls 3 [(0, .ref (ad a0)), (1, .ref (ad a1))] := hl
  have L2 : ∀ (n2 : Nat), ∀ (v2 : Int32) (mm : zM) (H : Heap) (locs : List Loc) (ls : Array Slot), (zCt 448 n2 v2) → zH D lyR cy ad s.heap mm H locs → lv_has ls 3 [(0, .ref (ad a0)), (1, .ref (ad a1)), (2, .int v2)] → f_X6_lay_2 a0 a1 n2 v2 mm = res → W p l e { frames := 0, cells := 0, slots := 0, locals := 0 } s m args below meth c H locs 0 0 (MQ below (zQv D lyR cy ad res) args s 0 0 (zA lyR ad)) (F0 m 2 ls []) := by
    intro n2
    induction n2 with
    | zero =>
      intro v2 mm H locs ls hct hH hl hres
      exfalso; exact hct.zero
    | succ n2 ih2 =>
      intro v2 mm H locs ls hct hH hl hres
      refine lv_iload_n hx hb dX6_lay_2 rfl (lv_at hl 2 rfl) ?_
      refine lv_sipush (v := (448 : Int32)) hx hb dX6_lay_3 (by decide) ?_
      refine lv_icmp_ge (tgt := 21) hx hb dX6_lay_6 (by decide) (fun c6_1 => ?_) (fun c6_1 => ?_)
      · have hres := zif_pos c6_1 hres
        exact zretv C0 hH dX6_lay_21 hres
      · have hres := zif_neg c6_1 hres
        refine lv_aload_n hx hb dX6_lay_9 rfl (lv_at hl 1 rfl) ?_
        refine lv_iload_n hx hb dX6_lay_10 rfl (lv_at hl 2 rfl) ?_
        refine lv_aload_n hx hb dX6_lay_11 rfl (lv_at hl 0 rfl) ?_
        refine lv_iload_n hx hb dX6_lay_12 rfl (lv_at hl 2 rfl) ?_
        refine zald C0 hH ha0.is ha0.ln (by exact zin448.mpr (by have q0 := hH.many; have q1 := hH.booked; have q2 := hH.coded; have q3 := hH.taped; have q4 := hH.here; have q5 := hH.ncode; obtain ⟨qa, qb, -⟩ := hct; clear hres; grind [f_X6_in, f_X6_isBlock, f_X6_isAhead, f_X6_isSheet])) dX6_lay_13 ?_
        refine zast C0 hH ha1.is ha1.ln (by exact zin448.mpr (by have q0 := hH.many; have q1 := hH.booked; have q2 := hH.coded; have q3 := hH.taped; have q4 := hH.here; have q5 := hH.ncode; obtain ⟨qa, qb, -⟩ := hct; clear hres; grind [f_X6_in, f_X6_isBlock, f_X6_isAhead, f_X6_isSheet])) (by exact zfitLay hH ha0 ha1) dX6_lay_14 (fun H locs hH => ?_)
        refine ziinc (lv' := [(2, _), (0, _), (1, _)]) (k := 2) hx hb (1 : Int32) (by decide) dX6_lay_15 hl rfl (by decide) rfl (fun ls hl => ?_)
        refine lv_goto (tgt := 2) hx hb dX6_lay_18 (by decide) ?_
        exact ih2 _ _ _ _ _ (by first | exact zCt.start (by decide) (by decide) | exact zCt.begin (by decide) (by decide) (by decide) | exact zCt.step (m := 448) hct (by first | assumption | (clear hres; grind [f_X6_in, f_X6_isBlock, f_X6_isAhead, f_X6_isSheet])) (by decide)) hH (lv_sub hl [1, 2, 0] rfl) hres
  refine lv_iconst (v := (0 : Int32)) hx hb dX6_lay_0 (by decide) ?_
  refine lv_istore_n (lv' := [(2, _), (0, _), (1, _)]) hx hb dX6_lay_1 rfl hl (by decide) rfl (fun ls hl => ?_)
  exact L2 (449) _ _ _ _ _ (by first | exact zCt.start (by decide) (by decide) | exact zCt.begin (by decide) (by decide) (by decide) | exact zCt.step (m := 448) hct (by first | assumption | (clear hres; grind [f_X6_in, f_X6_isBlock, f_X6_isAhead, f_X6_isSheet])) (by decide)) hH (lv_sub hl [1, 2, 0] rfl) hres
set_option maxRecDepth 100000 in
set_option maxHeartbeats 4000000 in
theorem c_X6_isAhead (l : Launch) (D : va_G) (cy : Nat → ClassId) (ad : Nat → Nat) (M : zM) (p0 : Int32) : Met l yX6_isAhead (Cond.code yX6_isAhead cX6_isAhead 1 (some .boolean) :: zG) ({ frames := 1, cells := 0, slots := 0, locals := 22 }) (zP D lyR cy ad [.int p0] M) (zQz D lyR cy ad (f_X6_isAhead p0) M) 0 0 (zA lyR ad) := by
  generalize hres : (f_X6_isAhead p0) = res
  refine zMet (by decide) (Nat.le_of_ble_eq_true rfl) ?_
  intro p e s m args below meth c ls C0 hH hl
  obtain ⟨⟨hx, hb, hml, hown, hts⟩, -⟩ := id C0
  have hz : ∀ w ∈ zG, w.before args s = true := fun w h => hts w (List.mem_cons_of_mem _ h)
  have hl : lv_has ls 1 [(0, .int p0)] := hl
  refine lv_iload_n hx hb dX6_isAhead_0 rfl (lv_at hl 0 rfl) ?_
  refine lv_iconst (v := (1 : Int32)) hx hb dX6_isAhead_1 (by decide) ?_
  refine lv_bipush (v := (60 : Int32)) hx hb dX6_isAhead_2 (by decide) ?_
  refine zcz (zrunS C0 hH (c_X6_in l D cy ad _ _ _ _) kM_X6_57 kq_X6_in rfl hl.1 rfl rfl rfl ⟨Nat.le_of_ble_eq_true rfl, Nat.le_of_ble_eq_true rfl⟩ (Nat.le_of_ble_eq_true rfl) dX6_isAhead_4) hH (fun H locs hH h01_1 => ?_)
  exact zretz C0 hH dX6_isAhead_7 (by first | exact Or.inl rfl | exact Or.inr rfl | assumption) hres rfl
set_option maxRecDepth 100000 in
set_option maxHeartbeats 4000000 in
theorem c_X6_jumps (l : Launch) (D : va_G) (cy : Nat → ClassId) (ad : Nat → Nat) (M : zM) (p1 : Int32) (hn : p1 ≤ 60) : Met l yX6_jumps (Cond.code yX6_jumps cX6_jumps 4 (some .int) :: zG) ({ frames := 0, cells := 0, slots := 0, locals := 0 }) (zP D lyR cy ad [.ref (ad 0), .int p1] M) (zQi D lyR cy ad (f_X6_jumps p1 M) M) 0 0 (zA lyR ad) := by
  generalize hres : (f_X6_jumps p1 M) = res
  refine zMet (by decide) (Nat.le_of_ble_eq_true rfl) ?_
  intro p e s m args below meth c ls C0 hH hl
  obtain ⟨⟨hx, hb, hml, hown, hts⟩, -⟩ := id C0
  have hz : ∀ w ∈ zG, w.before args s = true := fun w h => hts w (List.mem_cons_of_mem _ h)
  have hl : lv_has ls 4 [(0, .ref (ad 0)), (1, .int p1)] := hl
  have g0 := hH.many
  have L4 : ∀ (n4 : Nat), ∀ (v2 : Int32) (v3 : Int32) (H : Heap) (locs : List Loc) (ls : Array Slot), (zCt 60 n4 v3) → (p1 ≤ 60) → zH D lyR cy ad s.heap M H locs → lv_has ls 4 [(0, .ref (ad 0)), (1, .int p1), (2, .int v2), (3, .int v3)] → f_X6_jumps_4 p1 M n4 v2 v3 = res → W p l e { frames := 0, cells := 0, slots := 0, locals := 0 } s m args below meth c H locs 0 0 (MQ below (zQi D lyR cy ad res M) args s 0 0 (zA lyR ad)) (F0 m 4 ls []) := by
    intro n4
    induction n4 with
    | zero =>
      intro v2 v3 H locs ls hct hn hH hl hres
      exfalso; exact hct.zero
    | succ n4 ih4 =>
      intro v2 v3 H locs ls hct hn hH hl hres
      refine lv_iload_n hx hb dX6_jumps_4 rfl (lv_at hl 3 rfl) ?_
      refine lv_iload_n hx hb dX6_jumps_5 rfl (lv_at hl 1 rfl) ?_
      refine lv_icmp_ge (tgt := 32) hx hb dX6_jumps_6 (by decide) (fun c6_1 => ?_) (fun c6_1 => ?_)
      · have hres := zif_pos c6_1 hres
        refine lv_iload_n hx hb dX6_jumps_32 rfl (lv_at hl 2 rfl) ?_
        exact zreti C0 hH dX6_jumps_33 hres rfl
      · have hres := zif_neg c6_1 hres
        refine lv_iload_n hx hb dX6_jumps_9 rfl (lv_at hl 2 rfl) ?_
        refine lv_aload_n hx hb dX6_jumps_10 rfl (lv_at hl 0 rfl) ?_
        refine zgR C0 hH zK6 12 (by decide) _ zR0 rfl kF_X6_31 dX6_jumps_11 ?_
        refine lv_iload_n hx hb dX6_jumps_14 rfl (lv_at hl 3 rfl) ?_
        refine zald C0 hH (zR_i (by decide) (by decide)) rfl (by exact zin60.mpr (by have q0 := hH.many; have q1 := hH.booked; have q2 := hH.coded; have q3 := hH.taped; have q4 := hH.here; have q5 := hH.ncode; obtain ⟨qa, qb, -⟩ := hct; clear hres; grind [f_X6_in, f_X6_isBlock, f_X6_isAhead, f_X6_isSheet])) dX6_jumps_15 ?_
        refine lv_if_le (tgt := 23) hx hb dX6_jumps_16 (by decide) (fun c16_2 => ?_) (fun c16_2 => ?_)
        · have hres := zif_pos c16_2 hres
          refine lv_iconst (v := (0 : Int32)) hx hb dX6_jumps_23 (by decide) ?_
          refine lv_iadd hx hb dX6_jumps_24 ?_
          refine lv_istore_n (lv' := [(2, _), (0, _), (1, _), (3, _)]) hx hb dX6_jumps_25 rfl hl (by decide) rfl (fun ls hl => ?_)
          refine ziinc (lv' := [(3, _), (2, _), (0, _), (1, _)]) (k := 3) hx hb (1 : Int32) (by decide) dX6_jumps_26 hl rfl (by decide) rfl (fun ls hl => ?_)
          refine lv_goto (tgt := 4) hx hb dX6_jumps_29 (by decide) ?_
          exact ih4 _ _ _ _ _ (by first | exact zCt.start (by decide) (by decide) | exact zCt.begin (by decide) (by decide) (by decide) | exact zCt.step (m := 60) hct (by first | assumption | (clear hres; grind [f_X6_in, f_X6_isBlock, f_X6_isAhead, f_X6_isSheet])) (by decide)) (by assumption) hH (lv_sub hl [2, 3, 1, 0] rfl) hres
        · have hres := zif_neg c16_2 hres
          refine lv_iconst (v := (1 : Int32)) hx hb dX6_jumps_19 (by decide) ?_
          refine lv_goto (tgt := 24) hx hb dX6_jumps_20 (by decide) ?_
          refine lv_iadd hx hb dX6_jumps_24 ?_
          refine lv_istore_n (lv' := [(2, _), (0, _), (1, _), (3, _)]) hx hb dX6_jumps_25 rfl hl (by decide) rfl (fun ls hl => ?_)
          refine ziinc (lv' := [(3, _), (2, _), (0, _), (1, _)]) (k := 3) hx hb (1 : Int32) (by decide) dX6_jumps_26 hl rfl (by decide) rfl (fun ls hl => ?_)
          refine lv_goto (tgt := 4) hx hb dX6_jumps_29 (by decide) ?_
          exact ih4 _ _ _ _ _ (by first | exact zCt.start (by decide) (by decide) | exact zCt.begin (by decide) (by decide) (by decide) | exact zCt.step (m := 60) hct (by first | assumption | (clear hres; grind [f_X6_in, f_X6_isBlock, f_X6_isAhead, f_X6_isSheet])) (by decide)) (by assumption) hH (lv_sub hl [2, 3, 1, 0] rfl) hres
  refine lv_iconst (v := (0 : Int32)) hx hb dX6_jumps_0 (by decide) ?_
  refine lv_istore_n (lv' := [(2, _), (0, _), (1, _)]) hx hb dX6_jumps_1 rfl hl (by decide) rfl (fun ls hl => ?_)
  refine lv_iconst (v := (0 : Int32)) hx hb dX6_jumps_2 (by decide) ?_
  refine lv_istore_n (lv' := [(3, _), (2, _), (0, _), (1, _)]) hx hb dX6_jumps_3 rfl hl (by decide) rfl (fun ls hl => ?_)
  exact L4 (61) _ _ _ _ _ (by first | exact zCt.start (by decide) (by decide) | exact zCt.begin (by decide) (by decide) (by decide) | exact zCt.step (m := 60) hct (by first | assumption | (clear hres; grind [f_X6_in, f_X6_isBlock, f_X6_isAhead, f_X6_isSheet])) (by decide)) (by assumption) hH (lv_sub hl [2, 3, 1, 0] rfl) hres
set_option maxRecDepth 100000 in
set_option maxHeartbeats 4000000 in
theorem c_X6_greatest (l : Launch) (D : va_G) (cy : Nat → ClassId) (ad : Nat → Nat) (M : zM) (p1 : Int32) (hn : p1 ≤ 60) : Met l yX6_greatest (Cond.code yX6_greatest cX6_greatest 4 (some .int) :: zG) ({ frames := 1, cells := 0, slots := 0, locals := 21 }) (zP D lyR cy ad [.ref (ad 0), .int p1] M) (zQi D lyR cy ad (f_X6_greatest p1 M) M) 0 0 (zA lyR ad) := by
  generalize hres : (f_X6_greatest p1 M) = res
  refine zMet (by decide) (Nat.le_of_ble_eq_true rfl) ?_
  intro p e s m args below meth c ls C0 hH hl
  obtain ⟨⟨hx, hb, hml, hown, hts⟩, -⟩ := id C0
  have hz : ∀ w ∈ zG, w.before args s = true := fun w h => hts w (List.mem_cons_of_mem _ h)
  have hl : lv_has ls 4 [(0, .ref (ad 0)), (1, .int p1)] := hl
  have g0 := hH.many
  have L4 : ∀ (n4 : Nat), ∀ (v2 : Int32) (v3 : Int32) (H : Heap) (locs : List Loc) (ls : Array Slot), (zCt 60 n4 v3) → (p1 ≤ 60) → zH D lyR cy ad s.heap M H locs → lv_has ls 4 [(0, .ref (ad 0)), (1, .int p1), (2, .int v2), (3, .int v3)] → f_X6_greatest_4 p1 M n4 v2 v3 = res → W p l e { frames := 1, cells := 0, slots := 0, locals := 21 } s m args below meth c H locs 0 0 (MQ below (zQi D lyR cy ad res M) args s 0 0 (zA lyR ad)) (F0 m 4 ls []) := by
    intro n4
    induction n4 with
    | zero =>
      intro v2 v3 H locs ls hct hn hH hl hres
      exfalso; exact hct.zero
    | succ n4 ih4 =>
      intro v2 v3 H locs ls hct hn hH hl hres
      refine lv_iload_n hx hb dX6_greatest_4 rfl (lv_at hl 3 rfl) ?_
      refine lv_iload_n hx hb dX6_greatest_5 rfl (lv_at hl 1 rfl) ?_
      refine lv_icmp_ge (tgt := 26) hx hb dX6_greatest_6 (by decide) (fun c6_1 => ?_) (fun c6_1 => ?_)
      · have hres := zif_pos c6_1 hres
        refine lv_iload_n hx hb dX6_greatest_26 rfl (lv_at hl 2 rfl) ?_
        exact zreti C0 hH dX6_greatest_27 hres rfl
      · have hres := zif_neg c6_1 hres
        refine lv_iload_n hx hb dX6_greatest_9 rfl (lv_at hl 2 rfl) ?_
        refine lv_aload_n hx hb dX6_greatest_10 rfl (lv_at hl 0 rfl) ?_
        refine zgR C0 hH zK6 12 (by decide) _ zR0 rfl kF_X6_31 dX6_greatest_11 ?_
        refine lv_iload_n hx hb dX6_greatest_14 rfl (lv_at hl 3 rfl) ?_
        refine zald C0 hH (zR_i (by decide) (by decide)) rfl (by exact zin60.mpr (by have q0 := hH.many; have q1 := hH.booked; have q2 := hH.coded; have q3 := hH.taped; have q4 := hH.here; have q5 := hH.ncode; obtain ⟨qa, qb, -⟩ := hct; clear hres; grind [f_X6_in, f_X6_isBlock, f_X6_isAhead, f_X6_isSheet])) dX6_greatest_15 ?_
        refine zci (zrunS C0 hH (c_X6_greater l D cy ad _ _ _) kM_X6_71 kq_X6_greater rfl hl.1 rfl rfl rfl ⟨Nat.le_of_ble_eq_true rfl, Nat.le_of_ble_eq_true rfl⟩ (Nat.le_of_ble_eq_true rfl) dX6_greatest_16) hH (fun H locs hH => ?_)
        refine lv_istore_n (lv' := [(2, _), (0, _), (1, _), (3, _)]) hx hb dX6_greatest_19 rfl hl (by decide) rfl (fun ls hl => ?_)
        refine ziinc (lv' := [(3, _), (2, _), (0, _), (1, _)]) (k := 3) hx hb (1 : Int32) (by decide) dX6_greatest_20 hl rfl (by decide) rfl (fun ls hl => ?_)
        refine lv_goto (tgt := 4) hx hb dX6_greatest_23 (by decide) ?_
        exact ih4 _ _ _ _ _ (by first | exact zCt.start (by decide) (by decide) | exact zCt.begin (by decide) (by decide) (by decide) | exact zCt.step (m := 60) hct (by first | assumption | (clear hres; grind [f_X6_in, f_X6_isBlock, f_X6_isAhead, f_X6_isSheet])) (by decide)) (by assumption) hH (lv_sub hl [2, 3, 1, 0] rfl) hres
  refine lv_iconst (v := (0 : Int32)) hx hb dX6_greatest_0 (by decide) ?_
  refine lv_istore_n (lv' := [(2, _), (0, _), (1, _)]) hx hb dX6_greatest_1 rfl hl (by decide) rfl (fun ls hl => ?_)
  refine lv_iconst (v := (0 : Int32)) hx hb dX6_greatest_2 (by decide) ?_
  refine lv_istore_n (lv' := [(3, _), (2, _), (0, _), (1, _)]) hx hb dX6_greatest_3 rfl hl (by decide) rfl (fun ls hl => ?_)
  exact L4 (61) _ _ _ _ _ (by first | exact zCt.start (by decide) (by decide) | exact zCt.begin (by decide) (by decide) (by decide) | exact zCt.step (m := 60) hct (by first | assumption | (clear hres; grind [f_X6_in, f_X6_isBlock, f_X6_isAhead, f_X6_isSheet])) (by decide)) (by assumption) hH (lv_sub hl [2, 3, 1, 0] rfl) hres
set_option maxRecDepth 100000 in
set_option maxHeartbeats 4000000 in
theorem c_X6_longOf (l : Launch) (D : va_G) (cy : Nat → ClassId) (ad : Nat → Nat) (M : zM) (p1 : Int32) (hs : 0 ≤ p1 ∧ p1 < 4) : Met l yX6_longOf (Cond.code yX6_longOf cX6_longOf 2 (some .int) :: zG) ({ frames := 0, cells := 0, slots := 0, locals := 0 }) (zP D lyR cy ad [.ref (ad 0), .int p1] M) (zQi D lyR cy ad (f_X6_longOf p1 M) M) 0 0 (zA lyR ad) := by
  generalize hres : (f_X6_longOf p1 M) = res
  refine zMet (by decide) (Nat.le_of_ble_eq_true rfl) ?_
  intro p e s m args below meth c ls C0 hH hl
  obtain ⟨⟨hx, hb, hml, hown, hts⟩, -⟩ := id C0
  have hz : ∀ w ∈ zG, w.before args s = true := fun w h => hts w (List.mem_cons_of_mem _ h)
  have hl : lv_has ls 2 [(0, .ref (ad 0)), (1, .int p1)] := hl
  have g0 := hH.many
  refine lv_aload_n hx hb dX6_longOf_0 rfl (lv_at hl 0 rfl) ?_
  refine zgR C0 hH zK6 22 (by decide) _ zR0 rfl kF_X6_46 dX6_longOf_1 ?_
  refine lv_iload_n hx hb dX6_longOf_4 rfl (lv_at hl 1 rfl) ?_
  refine zald C0 hH (zR_i (by decide) (by decide)) rfl (by exact zin4.mpr (by have q0 := hH.many; have q1 := hH.booked; have q2 := hH.coded; have q3 := hH.taped; have q4 := hH.here; have q5 := hH.ncode; clear hres; grind [f_X6_in, f_X6_isBlock, f_X6_isAhead, f_X6_isSheet])) dX6_longOf_5 ?_
  exact zreti C0 hH dX6_longOf_6 hres rfl
set_option maxRecDepth 100000 in
set_option maxHeartbeats 4000000 in
theorem c_X6_isSheet (l : Launch) (D : va_G) (cy : Nat → ClassId) (ad : Nat → Nat) (M : zM) (p0 : Int32) : Met l yX6_isSheet (Cond.code yX6_isSheet cX6_isSheet 1 (some .boolean) :: zG) ({ frames := 1, cells := 0, slots := 0, locals := 22 }) (zP D lyR cy ad [.int p0] M) (zQz D lyR cy ad (f_X6_isSheet p0) M) 0 0 (zA lyR ad) := by
  generalize hres : (f_X6_isSheet p0) = res
  refine zMet (by decide) (Nat.le_of_ble_eq_true rfl) ?_
  intro p e s m args below meth c ls C0 hH hl
  obtain ⟨⟨hx, hb, hml, hown, hts⟩, -⟩ := id C0
  have hz : ∀ w ∈ zG, w.before args s = true := fun w h => hts w (List.mem_cons_of_mem _ h)
  have hl : lv_has ls 1 [(0, .int p0)] := hl
  refine lv_iload_n hx hb dX6_isSheet_0 rfl (lv_at hl 0 rfl) ?_
  refine lv_iconst (v := (0 : Int32)) hx hb dX6_isSheet_1 (by decide) ?_
  refine lv_iconst (v := (3 : Int32)) hx hb dX6_isSheet_2 (by decide) ?_
  refine zcz (zrunS C0 hH (c_X6_in l D cy ad _ _ _ _) kM_X6_57 kq_X6_in rfl hl.1 rfl rfl rfl ⟨Nat.le_of_ble_eq_true rfl, Nat.le_of_ble_eq_true rfl⟩ (Nat.le_of_ble_eq_true rfl) dX6_isSheet_3) hH (fun H locs hH h01_1 => ?_)
  exact zretz C0 hH dX6_isSheet_6 (by first | exact Or.inl rfl | exact Or.inr rfl | assumption) hres rfl
set_option maxRecDepth 100000 in
set_option maxHeartbeats 4000000 in
theorem c_X6_byteAt (l : Launch) (D : va_G) (cy : Nat → ClassId) (ad : Nat → Nat) (M : zM) : Met l yX6_byteAt (Cond.code yX6_byteAt cX6_byteAt 1 (some .int) :: zG) ({ frames := 0, cells := 0, slots := 0, locals := 0 }) (zP D lyR cy ad [.ref (ad 0)] M) (zQi D lyR cy ad (f_X6_byteAt M) M) 0 0 (zA lyR ad) := by
  generalize hres : (f_X6_byteAt M) = res
  refine zMet (by decide) (Nat.le_of_ble_eq_true rfl) ?_
  intro p e s m args below meth c ls C0 hH hl
  obtain ⟨⟨hx, hb, hml, hown, hts⟩, -⟩ := id C0
  have hz : ∀ w ∈ zG, w.before args s = true := fun w h => hts w (List.mem_cons_of_mem _ h)
  have hl : lv_has ls 1 [(0, .ref (ad 0))] := hl
  have g0 := hH.many
  refine lv_aload_n hx hb dX6_byteAt_0 rfl (lv_at hl 0 rfl) ?_
  refine zgI C0 hH zK6 17 (by decide) zR0 rfl kF_X6_180 dX6_byteAt_1 ?_
  refine lv_aload_n hx hb dX6_byteAt_4 rfl (lv_at hl 0 rfl) ?_
  refine zgI C0 hH zK6 5 (by decide) zR0 rfl kF_X6_183 dX6_byteAt_5 ?_
  refine lv_icmp_ge (tgt := 23) hx hb dX6_byteAt_8 (by decide) (fun c8_1 => ?_) (fun c8_1 => ?_)
  · have hres := zif_pos c8_1 hres
    refine lv_iconst (v := (-1 : Int32)) hx hb dX6_byteAt_23 (by decide) ?_
    exact zreti C0 hH dX6_byteAt_24 hres rfl
  · have hres := zif_neg c8_1 hres
    refine lv_aload_n hx hb dX6_byteAt_11 rfl (lv_at hl 0 rfl) ?_
    refine zgR C0 hH zK6 4 (by decide) _ zR0 rfl kF_X6_19 dX6_byteAt_12 ?_
    refine lv_aload_n hx hb dX6_byteAt_15 rfl (lv_at hl 0 rfl) ?_
    refine zgI C0 hH zK6 17 (by decide) zR0 rfl kF_X6_180 dX6_byteAt_16 ?_
    refine zald C0 hH (zR_i (by decide) (by decide)) rfl (by exact zin60.mpr (by have q0 := hH.many; have q1 := hH.booked; have q2 := hH.coded; have q3 := hH.taped; have q4 := hH.here; have q5 := hH.ncode; clear hres; grind [f_X6_in, f_X6_isBlock, f_X6_isAhead, f_X6_isSheet])) dX6_byteAt_19 ?_
    refine lv_goto (tgt := 24) hx hb dX6_byteAt_20 (by decide) ?_
    exact zreti C0 hH dX6_byteAt_24 hres rfl
set_option maxRecDepth 100000 in
set_option maxHeartbeats 4000000 in
theorem c_X6_fails (l : Launch) (D : va_G) (cy : Nat → ClassId) (ad : Nat → Nat) (M : zM) : Met l yX6_fails (Cond.code yX6_fails cX6_fails 1 none :: zG) ({ frames := 0, cells := 0, slots := 0, locals := 0 }) (zP D lyR cy ad [.ref (ad 0)] M) (zQv D lyR cy ad (f_X6_fails M)) 0 0 (zA lyR ad) := by
  generalize hres : (f_X6_fails M) = res
  refine zMet (by decide) (Nat.le_of_ble_eq_true rfl) ?_
  intro p e s m args below meth c ls C0 hH hl
  obtain ⟨⟨hx, hb, hml, hown, hts⟩, -⟩ := id C0
  have hz : ∀ w ∈ zG, w.before args s = true := fun w h => hts w (List.mem_cons_of_mem _ h)
  have hl : lv_has ls 1 [(0, .ref (ad 0))] := hl
  have g0 := hH.many
  refine lv_aload_n hx hb dX6_fails_0 rfl (lv_at hl 0 rfl) ?_
  refine zgI C0 hH zK6 18 (by decide) zR0 rfl kF_X6_186 dX6_fails_1 ?_
  refine lv_if_ge (tgt := 15) hx hb dX6_fails_4 (by decide) (fun c4_1 => ?_) (fun c4_1 => ?_)
  · have hres := zif_pos c4_1 hres
    exact zretv C0 hH dX6_fails_15 hres
  · have hres := zif_neg c4_1 hres
    refine lv_aload_n hx hb dX6_fails_7 rfl (lv_at hl 0 rfl) ?_
    refine lv_aload_n hx hb dX6_fails_8 rfl (lv_at hl 0 rfl) ?_
    refine zgI C0 hH zK6 17 (by decide) zR0 rfl kF_X6_180 dX6_fails_9 ?_
    refine zp C0 hH zK6 18 (by decide) zR0 rfl rfl zOk_int zcn kF_X6_186 dX6_fails_12 (fun H locs hH => ?_)
    exact zretv C0 hH dX6_fails_15 hres
set_option maxRecDepth 100000 in
set_option maxHeartbeats 4000000 in
theorem c_X6_may (l : Launch) (D : va_G) (cy : Nat → ClassId) (ad : Nat → Nat) (M : zM) (p1 : Int32) (hc : 0 ≤ p1) : Met l yX6_may (Cond.code yX6_may cX6_may 3 (some .boolean) :: zG) ({ frames := 1, cells := 0, slots := 0, locals := 20 }) (zP D lyR cy ad [.ref (ad 0), .int p1] M) (zQz D lyR cy ad (f_X6_may p1 M).1 (f_X6_may p1 M).2) 0 0 (zA lyR ad) := by
  generalize hres : (f_X6_may p1 M) = res
  refine zMet (by decide) (Nat.le_of_ble_eq_true rfl) ?_
  intro p e s m args below meth c ls C0 hH hl
  obtain ⟨⟨hx, hb, hml, hown, hts⟩, -⟩ := id C0
  have hz : ∀ w ∈ zG, w.before args s = true := fun w h => hts w (List.mem_cons_of_mem _ h)
  have hl : lv_has ls 3 [(0, .ref (ad 0)), (1, .int p1)] := hl
  have g0 := hH.many
  have J20 : ∀ (s0 : Int32) (mm : zM) (H : Heap) (locs : List Loc) (ls : Array Slot), (s0 = 0 ∨ s0 = 1) → (s0 = 0 ∨ mm.1 0 17 < mm.1 0 5) → zH D lyR cy ad s.heap mm H locs → lv_has ls 3 [(0, .ref (ad 0))] → f_X6_may_20 p1 s0 mm = res → W p l e { frames := 1, cells := 0, slots := 0, locals := 20 } s m args below meth c H locs 0 0 (MQ below (zQz D lyR cy ad res.1 res.2) args s 0 0 (zA lyR ad)) (F0 m 20 ls [.int s0]) := by
    intro s0 mm H locs ls h01 hsl hH hl hres
    refine lv_istore_n (lv' := [(2, _), (0, _)]) hx hb dX6_may_20 rfl hl (by decide) rfl (fun ls hl => ?_)
    refine lv_aload_n hx hb dX6_may_21 rfl (lv_at hl 1 rfl) ?_
    refine lv_dup hx hb dX6_may_22 rfl ?_
    refine zgI C0 hH zK6 17 (by decide) zR0 rfl kF_X6_180 dX6_may_23 ?_
    refine lv_iload_n hx hb dX6_may_26 rfl (lv_at hl 0 rfl) ?_
    refine lv_if_eq (tgt := 34) hx hb dX6_may_27 (by decide) (fun c27_4 => ?_) (fun c27_4 => ?_)
    · have hres := zif_pos c27_4 hres
      refine lv_iconst (v := (0 : Int32)) hx hb dX6_may_34 (by decide) ?_
      refine lv_iadd hx hb dX6_may_35 ?_
      refine zp C0 hH zK6 17 (by decide) zR0 rfl rfl zOk_int (zcs (by first | decide | (have q0 := hH.many; have q1 := hH.booked; have q2 := hH.coded; have q3 := hH.taped; have q4 := hH.here; have q5 := hH.ncode; clear hres; grind))) kF_X6_180 dX6_may_36 (fun H locs hH => ?_)
      refine lv_iload_n hx hb dX6_may_39 rfl (lv_at hl 0 rfl) ?_
      exact zretz C0 hH dX6_may_40 (by first | exact Or.inl rfl | exact Or.inr rfl | assumption) (zfst hres) (zsnd hres)
    · have hres := zif_neg c27_4 hres
      refine lv_iconst (v := (1 : Int32)) hx hb dX6_may_30 (by decide) ?_
      refine lv_goto (tgt := 35) hx hb dX6_may_31 (by decide) ?_
      refine lv_iadd hx hb dX6_may_35 ?_
      refine zp C0 hH zK6 17 (by decide) zR0 rfl rfl zOk_int (zcs (by first | decide | (have q0 := hH.many; have q1 := hH.booked; have q2 := hH.coded; have q3 := hH.taped; have q4 := hH.here; have q5 := hH.ncode; clear hres; grind))) kF_X6_180 dX6_may_36 (fun H locs hH => ?_)
      refine lv_iload_n hx hb dX6_may_39 rfl (lv_at hl 0 rfl) ?_
      exact zretz C0 hH dX6_may_40 (by first | exact Or.inl rfl | exact Or.inr rfl | assumption) (zfst hres) (zsnd hres)
  have J19 : ∀ (mm : zM) (H : Heap) (locs : List Loc) (ls : Array Slot), zH D lyR cy ad s.heap mm H locs → lv_has ls 3 [(0, .ref (ad 0))] → f_X6_may_19 p1 mm = res → W p l e { frames := 1, cells := 0, slots := 0, locals := 20 } s m args below meth c H locs 0 0 (MQ below (zQz D lyR cy ad res.1 res.2) args s 0 0 (zA lyR ad)) (F0 m 19 ls []) := by
    intro mm H locs ls hH hl hres
    refine lv_iconst (v := (0 : Int32)) hx hb dX6_may_19 (by decide) ?_
    exact J20 _ _ _ _ _ (by first | exact Or.inl rfl | exact Or.inr rfl | assumption) (by first | exact Or.inl rfl | exact Or.inr (by clear hres; grind [f_X6_byteAt])) hH (lv_sub hl [0] rfl) hres
  refine lv_aload_n hx hb dX6_may_0 rfl (lv_at hl 0 rfl) ?_
  refine zgI C0 hH zK6 18 (by decide) zR0 rfl kF_X6_186 dX6_may_1 ?_
  refine lv_if_ge (tgt := 19) hx hb dX6_may_4 (by decide) (fun c4_1 => ?_) (fun c4_1 => ?_)
  · have hres := zif_pos c4_1 hres
    exact J19 _ _ _ _ hH (lv_sub hl [0] rfl) hres
  · have hres := zif_neg c4_1 hres
    refine lv_aload_n hx hb dX6_may_7 rfl (lv_at hl 0 rfl) ?_
    refine zci (zrunV C0 hH (c_X6_byteAt l D cy ad _) kM_X6_189 zK6 kq_X6_byteAt zR0 rfl hl.1 rfl rfl rfl ⟨Nat.le_of_ble_eq_true rfl, Nat.le_of_ble_eq_true rfl⟩ (Nat.le_of_ble_eq_true rfl) dX6_may_8) hH (fun H locs hH => ?_)
    refine lv_iload_n hx hb dX6_may_11 rfl (lv_at hl 1 rfl) ?_
    refine lv_icmp_ne (tgt := 19) hx hb dX6_may_12 (by decide) (fun c12_3 => ?_) (fun c12_3 => ?_)
    · have hres := zif_neg c12_3 hres
      exact J19 _ _ _ _ hH (lv_sub hl [0] rfl) hres
    · have hres := zif_pos c12_3 hres
      refine lv_iconst (v := (1 : Int32)) hx hb dX6_may_15 (by decide) ?_
      refine lv_goto (tgt := 20) hx hb dX6_may_16 (by decide) ?_
      exact J20 _ _ _ _ _ (by first | exact Or.inl rfl | exact Or.inr rfl | assumption) (by first | exact Or.inl rfl | exact Or.inr (by clear hres; grind [f_X6_byteAt])) hH (lv_sub hl [0] rfl) hres
set_option maxRecDepth 100000 in
set_option maxHeartbeats 4000000 in
theorem c_X6_must (l : Launch) (D : va_G) (cy : Nat → ClassId) (ad : Nat → Nat) (M : zM) (p1 : Int32) (hc : 0 ≤ p1) : Met l yX6_must (Cond.code yX6_must cX6_must 2 none :: zG) ({ frames := 2, cells := 0, slots := 0, locals := 42 }) (zP D lyR cy ad [.ref (ad 0), .int p1] M) (zQv D lyR cy ad (f_X6_must p1 M)) 0 0 (zA lyR ad) := by
  generalize hres : (f_X6_must p1 M) = res
  refine zMet (by decide) (Nat.le_of_ble_eq_true rfl) ?_
  intro p e s m args below meth c ls C0 hH hl
  obtain ⟨⟨hx, hb, hml, hown, hts⟩, -⟩ := id C0
  have hz : ∀ w ∈ zG, w.before args s = true := fun w h => hts w (List.mem_cons_of_mem _ h)
  have hl : lv_has ls 2 [(0, .ref (ad 0)), (1, .int p1)] := hl
  have g0 := hH.many
  refine lv_aload_n hx hb dX6_must_0 rfl (lv_at hl 0 rfl) ?_
  refine lv_iload_n hx hb dX6_must_1 rfl (lv_at hl 1 rfl) ?_
  refine zcz (zrunV C0 hH (c_X6_may l D cy ad _ _ (by decide)) kM_X6_193 zK6 kq_X6_may zR0 rfl hl.1 rfl rfl rfl ⟨Nat.le_of_ble_eq_true rfl, Nat.le_of_ble_eq_true rfl⟩ (Nat.le_of_ble_eq_true rfl) dX6_must_2) hH (fun H locs hH h01_1 => ?_)
  refine lv_if_ne (tgt := 12) hx hb dX6_must_5 (by decide) (fun c5_3 => ?_) (fun c5_3 => ?_)
  · have hres := zif_neg c5_3 hres
    exact zretv C0 hH dX6_must_12 hres
  · have hres := zif_pos c5_3 hres
    refine lv_aload_n hx hb dX6_must_8 rfl (lv_at hl 0 rfl) ?_
    refine zcv (zrunV C0 hH (c_X6_fails l D cy ad _) kM_X6_196 zK6 kq_X6_fails zR0 rfl hl.1 rfl rfl rfl ⟨Nat.le_of_ble_eq_true rfl, Nat.le_of_ble_eq_true rfl⟩ (Nat.le_of_ble_eq_true rfl) dX6_must_9) hH (fun H locs hH => ?_)
    exact zretv C0 hH dX6_must_12 hres
set_option maxRecDepth 100000 in
set_option maxHeartbeats 4000000 in
theorem c_X6_emit (l : Launch) (D : va_G) (cy : Nat → ClassId) (ad : Nat → Nat) (M : zM) (p1 : Int32) (he : M.1 0 18 < 0 → M.1 0 16 ≤ 59) : Met l yX6_emit (Cond.code yX6_emit cX6_emit 2 none :: zG) ({ frames := 0, cells := 0, slots := 0, locals := 0 }) (zP D lyR cy ad [.ref (ad 0), .int p1] M) (zQv D lyR cy ad (f_X6_emit p1 M)) 0 0 (zA lyR ad) := by
  generalize hres : (f_X6_emit p1 M) = res
  refine zMet (by decide) (Nat.le_of_ble_eq_true rfl) ?_
  intro p e s m args below meth c ls C0 hH hl
  obtain ⟨⟨hx, hb, hml, hown, hts⟩, -⟩ := id C0
  have hz : ∀ w ∈ zG, w.before args s = true := fun w h => hts w (List.mem_cons_of_mem _ h)
  have hl : lv_has ls 2 [(0, .ref (ad 0)), (1, .int p1)] := hl
  have g0 := hH.many
  refine lv_aload_n hx hb dX6_emit_0 rfl (lv_at hl 0 rfl) ?_
  refine zgI C0 hH zK6 18 (by decide) zR0 rfl kF_X6_186 dX6_emit_1 ?_
  refine lv_if_ge (tgt := 27) hx hb dX6_emit_4 (by decide) (fun c4_1 => ?_) (fun c4_1 => ?_)
  · have hres := zif_pos c4_1 hres
    exact zretv C0 hH dX6_emit_27 hres
  · have hres := zif_neg c4_1 hres
    refine lv_aload_n hx hb dX6_emit_7 rfl (lv_at hl 0 rfl) ?_
    refine zgR C0 hH zK6 15 (by decide) _ zR0 rfl kF_X6_37 dX6_emit_8 ?_
    refine lv_aload_n hx hb dX6_emit_11 rfl (lv_at hl 0 rfl) ?_
    refine zgI C0 hH zK6 16 (by decide) zR0 rfl kF_X6_199 dX6_emit_12 ?_
    refine lv_iload_n hx hb dX6_emit_15 rfl (lv_at hl 1 rfl) ?_
    refine zast C0 hH (zR_i (by decide) (by decide)) rfl (by exact zin64.mpr (by have q0 := hH.many; have q1 := hH.booked; have q2 := hH.coded; have q3 := hH.taped; have q4 := hH.here; have q5 := hH.ncode; clear hres; grind [f_X6_in, f_X6_isBlock, f_X6_isAhead, f_X6_isSheet])) zcn dX6_emit_16 (fun H locs hH => ?_)
    refine lv_aload_n hx hb dX6_emit_17 rfl (lv_at hl 0 rfl) ?_
    refine lv_dup hx hb dX6_emit_18 rfl ?_
    refine zgI C0 hH zK6 16 (by decide) zR0 rfl kF_X6_199 dX6_emit_19 ?_
    refine lv_iconst (v := (1 : Int32)) hx hb dX6_emit_22 (by decide) ?_
    refine lv_iadd hx hb dX6_emit_23 ?_
    refine zp C0 hH zK6 16 (by decide) zR0 rfl rfl zOk_int (zcs (by first | decide | (have q0 := hH.many; have q1 := hH.booked; have q2 := hH.coded; have q3 := hH.taped; have q4 := hH.here; have q5 := hH.ncode; clear hres; grind [f_X6_in, f_X6_isBlock, f_X6_isAhead, f_X6_isSheet]))) kF_X6_199 dX6_emit_24 (fun H locs hH => ?_)
    exact zretv C0 hH dX6_emit_27 hres
set_option maxRecDepth 100000 in
set_option maxHeartbeats 4000000 in
theorem c_X6_isDigit (l : Launch) (D : va_G) (cy : Nat → ClassId) (ad : Nat → Nat) (M : zM) (p0 : Int32) : Met l yX6_isDigit (Cond.code yX6_isDigit cX6_isDigit 1 (some .boolean) :: zG) ({ frames := 1, cells := 0, slots := 0, locals := 22 }) (zP D lyR cy ad [.int p0] M) (zQz D lyR cy ad (f_X6_isDigit p0) M) 0 0 (zA lyR ad) := by
  generalize hres : (f_X6_isDigit p0) = res
  refine zMet (by decide) (Nat.le_of_ble_eq_true rfl) ?_
  intro p e s m args below meth c ls C0 hH hl
  obtain ⟨⟨hx, hb, hml, hown, hts⟩, -⟩ := id C0
  have hz : ∀ w ∈ zG, w.before args s = true := fun w h => hts w (List.mem_cons_of_mem _ h)
  have hl : lv_has ls 1 [(0, .int p0)] := hl
  refine lv_iload_n hx hb dX6_isDigit_0 rfl (lv_at hl 0 rfl) ?_
  refine lv_bipush (v := (48 : Int32)) hx hb dX6_isDigit_1 (by decide) ?_
  refine lv_bipush (v := (57 : Int32)) hx hb dX6_isDigit_3 (by decide) ?_
  refine zcz (zrunS C0 hH (c_X6_in l D cy ad _ _ _ _) kM_X6_57 kq_X6_in rfl hl.1 rfl rfl rfl ⟨Nat.le_of_ble_eq_true rfl, Nat.le_of_ble_eq_true rfl⟩ (Nat.le_of_ble_eq_true rfl) dX6_isDigit_5) hH (fun H locs hH h01_1 => ?_)
  exact zretz C0 hH dX6_isDigit_8 (by first | exact Or.inl rfl | exact Or.inr rfl | assumption) hres rfl
set_option maxRecDepth 100000 in
set_option maxHeartbeats 4000000 in
theorem c_X6_nameOf (l : Launch) (D : va_G) (cy : Nat → ClassId) (ad : Nat → Nat) (M : zM) (p0 : Int32) : Met l yX6_nameOf (Cond.code yX6_nameOf cX6_nameOf 1 (some .int) :: zG) ({ frames := 0, cells := 0, slots := 0, locals := 0 }) (zP D lyR cy ad [.int p0] M) (zQi D lyR cy ad (f_X6_nameOf p0) M) 0 0 (zA lyR ad) := by
  generalize hres : (f_X6_nameOf p0) = res
  refine zMet (by decide) (Nat.le_of_ble_eq_true rfl) ?_
  intro p e s m args below meth c ls C0 hH hl
  obtain ⟨⟨hx, hb, hml, hown, hts⟩, -⟩ := id C0
  have hz : ∀ w ∈ zG, w.before args s = true := fun w h => hts w (List.mem_cons_of_mem _ h)
  have hl : lv_has ls 1 [(0, .int p0)] := hl
  refine lv_iload_n hx hb dX6_nameOf_0 rfl (lv_at hl 0 rfl) ?_
  refine zcase hres (fun c1_1_98 hres => ?_) (fun c1_1_98 hres => ?_)
  · refine ztab (tgt := 90) hx hb c1_1_98 dX6_nameOf_1 (by decide) (by decide) rfl (by decide) ?_
    refine lv_iconst (v := (1 : Int32)) hx hb dX6_nameOf_90 (by decide) ?_
    exact zreti C0 hH dX6_nameOf_91 hres rfl
  · skip
    refine zcase hres (fun c1_1_100 hres => ?_) (fun c1_1_100 hres => ?_)
    · refine ztab (tgt := 96) hx hb c1_1_100 dX6_nameOf_1 (by decide) (by decide) rfl (by decide) ?_
      refine lv_iconst (v := (4 : Int32)) hx hb dX6_nameOf_96 (by decide) ?_
      exact zreti C0 hH dX6_nameOf_97 hres rfl
    · skip
      refine zcase hres (fun c1_1_103 hres => ?_) (fun c1_1_103 hres => ?_)
      · refine ztab (tgt := 92) hx hb c1_1_103 dX6_nameOf_1 (by decide) (by decide) rfl (by decide) ?_
        refine lv_iconst (v := (2 : Int32)) hx hb dX6_nameOf_92 (by decide) ?_
        exact zreti C0 hH dX6_nameOf_93 hres rfl
      · skip
        refine zcase hres (fun c1_1_107 hres => ?_) (fun c1_1_107 hres => ?_)
        · refine ztab (tgt := 94) hx hb c1_1_107 dX6_nameOf_1 (by decide) (by decide) rfl (by decide) ?_
          refine lv_iconst (v := (3 : Int32)) hx hb dX6_nameOf_94 (by decide) ?_
          exact zreti C0 hH dX6_nameOf_95 hres rfl
        · skip
          refine zcase hres (fun c1_1_112 hres => ?_) (fun c1_1_112 hres => ?_)
          · refine ztab (tgt := 98) hx hb c1_1_112 dX6_nameOf_1 (by decide) (by decide) rfl (by decide) ?_
            refine lv_iconst (v := (5 : Int32)) hx hb dX6_nameOf_98 (by decide) ?_
            exact zreti C0 hH dX6_nameOf_99 hres rfl
          · skip
            refine zcase hres (fun c1_1_115 hres => ?_) (fun c1_1_115 hres => ?_)
            · refine ztab (tgt := 88) hx hb c1_1_115 dX6_nameOf_1 (by decide) (by decide) rfl (by decide) ?_
              refine lv_iconst (v := (0 : Int32)) hx hb dX6_nameOf_88 (by decide) ?_
              exact zreti C0 hH dX6_nameOf_89 hres rfl
            · skip
              refine ztabD (tgt := 100) hx hb [(98 : Int32), (100 : Int32), (103 : Int32), (107 : Int32), (112 : Int32), (115 : Int32)] (List.forall_mem_cons.mpr ⟨c1_1_98, (List.forall_mem_cons.mpr ⟨c1_1_100, (List.forall_mem_cons.mpr ⟨c1_1_103, (List.forall_mem_cons.mpr ⟨c1_1_107, (List.forall_mem_cons.mpr ⟨c1_1_112, (List.forall_mem_cons.mpr ⟨c1_1_115, (fun _ h => absurd h List.not_mem_nil)⟩)⟩)⟩)⟩)⟩)⟩) dX6_nameOf_1 (by decide) (by decide) (by decide) ?_
              refine lv_iconst (v := (-1 : Int32)) hx hb dX6_nameOf_100 (by decide) ?_
              exact zreti C0 hH dX6_nameOf_101 hres rfl
set_option maxRecDepth 100000 in
set_option maxHeartbeats 4000000 in
theorem c_X6_number (l : Launch) (D : va_G) (cy : Nat → ClassId) (ad : Nat → Nat) (M : zM) (he : M.1 0 18 < 0 → M.1 0 16 ≤ 59) : Met l yX6_number (Cond.code yX6_number cX6_number 3 none :: zG) ({ frames := 2, cells := 0, slots := 0, locals := 42 }) (zP D lyR cy ad [.ref (ad 0)] M) (zQv D lyR cy ad (f_X6_number M)) 0 0 (zA lyR ad) := by
  generalize hres : (f_X6_number M) = res
  refine zMet (by decide) (Nat.le_of_ble_eq_true rfl) ?_
  intro p e s m args below meth c ls C0 hH hl
  obtain ⟨⟨hx, hb, hml, hown, hts⟩, -⟩ := id C0
  have hz : ∀ w ∈ zG, w.before args s = true := fun w h => hts w (List.mem_cons_of_mem _ h)
  have hl : lv_has ls 3 [(0, .ref (ad 0))] := hl
  have g0 := hH.many
  have J48 : ∀ (v1 : Int32) (mm : zM) (H : Heap) (locs : List Loc) (ls : Array Slot), (mm.1 0 18 < 0 → mm.1 0 16 ≤ 59) → zH D lyR cy ad s.heap mm H locs → lv_has ls 3 [(0, .ref (ad 0)), (1, .int v1)] → f_X6_number_48 v1 mm = res → W p l e { frames := 2, cells := 0, slots := 0, locals := 42 } s m args below meth c H locs 0 0 (MQ below (zQv D lyR cy ad res) args s 0 0 (zA lyR ad)) (F0 m 48 ls []) := by
    intro v1 mm H locs ls he hH hl hres
    refine lv_aload_n hx hb dX6_number_48 rfl (lv_at hl 0 rfl) ?_
    refine lv_iload_n hx hb dX6_number_49 rfl (lv_at hl 1 rfl) ?_
    refine zcv (zrunV C0 hH (c_X6_emit l D cy ad _ _ (by first | assumption | (intro _; omega))) kM_X6_205 zK6 kq_X6_emit zR0 rfl hl.1 rfl rfl rfl ⟨Nat.le_of_ble_eq_true rfl, Nat.le_of_ble_eq_true rfl⟩ (Nat.le_of_ble_eq_true rfl) dX6_number_50) hH (fun H locs hH => ?_)
    exact zretv C0 hH dX6_number_53 hres
  have L4 : ∀ (n4 : Nat), ∀ (v1 : Int32) (v2 : Int32) (mm : zM) (H : Heap) (locs : List Loc) (ls : Array Slot), (zCt 3 n4 v2) → (mm.1 0 18 < 0 → mm.1 0 16 ≤ 59) → zH D lyR cy ad s.heap mm H locs → lv_has ls 3 [(0, .ref (ad 0)), (1, .int v1), (2, .int v2)] → f_X6_number_4 n4 v1 v2 mm = res → W p l e { frames := 2, cells := 0, slots := 0, locals := 42 } s m args below meth c H locs 0 0 (MQ below (zQv D lyR cy ad res) args s 0 0 (zA lyR ad)) (F0 m 4 ls []) := by
    intro n4
    induction n4 with
    | zero =>
      intro v1 v2 mm H locs ls hct he hH hl hres
      exfalso; exact hct.zero
    | succ n4 ih4 =>
      intro v1 v2 mm H locs ls hct he hH hl hres
      refine lv_iload_n hx hb dX6_number_4 rfl (lv_at hl 2 rfl) ?_
      refine lv_iconst (v := (3 : Int32)) hx hb dX6_number_5 (by decide) ?_
      refine lv_icmp_ge (tgt := 48) hx hb dX6_number_6 (by decide) (fun c6_1 => ?_) (fun c6_1 => ?_)
      · have hres := zif_pos c6_1 hres
        exact J48 _ _ _ _ _ (by assumption) hH (lv_sub hl [0, 1] rfl) hres
      · have hres := zif_neg c6_1 hres
        refine lv_aload_n hx hb dX6_number_9 rfl (lv_at hl 0 rfl) ?_
        refine zci (zrunV C0 hH (c_X6_byteAt l D cy ad _) kM_X6_189 zK6 kq_X6_byteAt zR0 rfl hl.1 rfl rfl rfl ⟨Nat.le_of_ble_eq_true rfl, Nat.le_of_ble_eq_true rfl⟩ (Nat.le_of_ble_eq_true rfl) dX6_number_10) hH (fun H locs hH => ?_)
        refine zcz (zrunS C0 hH (c_X6_isDigit l D cy ad _ _) kM_X6_202 kq_X6_isDigit rfl hl.1 rfl rfl rfl ⟨Nat.le_of_ble_eq_true rfl, Nat.le_of_ble_eq_true rfl⟩ (Nat.le_of_ble_eq_true rfl) dX6_number_13) hH (fun H locs hH h01_3 => ?_)
        refine lv_if_eq (tgt := 48) hx hb dX6_number_16 (by decide) (fun c16_5 => ?_) (fun c16_5 => ?_)
        · have hres := zif_pos c16_5 hres
          exact J48 _ _ _ _ _ (by assumption) hH (lv_sub hl [0, 1] rfl) hres
        · have hres := zif_neg c16_5 hres
          refine lv_bipush (v := (10 : Int32)) hx hb dX6_number_19 (by decide) ?_
          refine lv_iload_n hx hb dX6_number_21 rfl (lv_at hl 1 rfl) ?_
          refine lv_imul hx hb dX6_number_22 ?_
          refine lv_aload_n hx hb dX6_number_23 rfl (lv_at hl 0 rfl) ?_
          refine zci (zrunV C0 hH (c_X6_byteAt l D cy ad _) kM_X6_189 zK6 kq_X6_byteAt zR0 rfl hl.1 rfl rfl rfl ⟨Nat.le_of_ble_eq_true rfl, Nat.le_of_ble_eq_true rfl⟩ (Nat.le_of_ble_eq_true rfl) dX6_number_24) hH (fun H locs hH => ?_)
          refine lv_iadd hx hb dX6_number_27 ?_
          refine lv_bipush (v := (48 : Int32)) hx hb dX6_number_28 (by decide) ?_
          refine lv_isub hx hb dX6_number_30 ?_
          refine lv_istore_n (lv' := [(1, _), (0, _), (2, _)]) hx hb dX6_number_31 rfl hl (by decide) rfl (fun ls hl => ?_)
          refine ziinc (lv' := [(2, _), (1, _), (0, _)]) (k := 2) hx hb (1 : Int32) (by decide) dX6_number_32 hl rfl (by decide) rfl (fun ls hl => ?_)
          refine lv_aload_n hx hb dX6_number_35 rfl (lv_at hl 2 rfl) ?_
          refine lv_dup hx hb dX6_number_36 rfl ?_
          refine zgI C0 hH zK6 17 (by decide) zR0 rfl kF_X6_180 dX6_number_37 ?_
          refine lv_iconst (v := (1 : Int32)) hx hb dX6_number_40 (by decide) ?_
          refine lv_iadd hx hb dX6_number_41 ?_
          refine zp C0 hH zK6 17 (by decide) zR0 rfl rfl zOk_int (zcs (by first | decide | (have q0 := hH.many; have q1 := hH.booked; have q2 := hH.coded; have q3 := hH.taped; have q4 := hH.here; have q5 := hH.ncode; obtain ⟨qa, qb, -⟩ := hct; clear hres; grind [f_X6_isDigit, f_X6_in, f_X6_byteAt]))) kF_X6_180 dX6_number_42 (fun H locs hH => ?_)
          refine lv_goto (tgt := 4) hx hb dX6_number_45 (by decide) ?_
          exact ih4 _ _ _ _ _ _ (by first | exact zCt.start (by decide) (by decide) | exact zCt.begin (by decide) (by decide) (by decide) | exact zCt.step (m := 3) hct (by first | assumption | (clear hres; grind [f_X6_in, f_X6_isBlock, f_X6_isAhead, f_X6_isSheet])) (by decide)) (by first | assumption | (rw [zpI_off (by decide), zpI_off (by decide)]; assumption)) hH (lv_sub hl [2, 1, 0] rfl) hres
  refine lv_iconst (v := (0 : Int32)) hx hb dX6_number_0 (by decide) ?_
  refine lv_istore_n (lv' := [(1, _), (0, _)]) hx hb dX6_number_1 rfl hl (by decide) rfl (fun ls hl => ?_)
  refine lv_iconst (v := (0 : Int32)) hx hb dX6_number_2 (by decide) ?_
  refine lv_istore_n (lv' := [(2, _), (1, _), (0, _)]) hx hb dX6_number_3 rfl hl (by decide) rfl (fun ls hl => ?_)
  exact L4 (4) _ _ _ _ _ _ (by first | exact zCt.start (by decide) (by decide) | exact zCt.begin (by decide) (by decide) (by decide) | exact zCt.step (m := 3) hct (by first | assumption | (clear hres; grind [f_X6_in, f_X6_isBlock, f_X6_isAhead, f_X6_isSheet])) (by decide)) (by first | assumption | (rw [zpI_off (by decide), zpI_off (by decide)]; assumption)) hH (lv_sub hl [2, 1, 0] rfl) hres
set_option maxRecDepth 100000 in
set_option maxHeartbeats 4000000 in
theorem c_X6_opens (l : Launch) (D : va_G) (cy : Nat → ClassId) (ad : Nat → Nat) (M : zM) (p1 : Int32) (hc : 0 ≤ p1) : Met l yX6_opens (Cond.code yX6_opens cX6_opens 2 (some .boolean) :: zG) ({ frames := 1, cells := 0, slots := 0, locals := 20 }) (zP D lyR cy ad [.ref (ad 0), .int p1] M) (zQz D lyR cy ad (f_X6_opens p1 M).1 (f_X6_opens p1 M).2) 0 0 (zA lyR ad) := by
  generalize hres : (f_X6_opens p1 M) = res
  refine zMet (by decide) (Nat.le_of_ble_eq_true rfl) ?_
  intro p e s m args below meth c ls C0 hH hl
  obtain ⟨⟨hx, hb, hml, hown, hts⟩, -⟩ := id C0
  have hz : ∀ w ∈ zG, w.before args s = true := fun w h => hts w (List.mem_cons_of_mem _ h)
  have hl : lv_has ls 2 [(0, .ref (ad 0)), (1, .int p1)] := hl
  have g0 := hH.many
  refine lv_aload_n hx hb dX6_opens_0 rfl (lv_at hl 0 rfl) ?_
  refine zgI C0 hH zK6 18 (by decide) zR0 rfl kF_X6_186 dX6_opens_1 ?_
  refine lv_if_ge (tgt := 15) hx hb dX6_opens_4 (by decide) (fun c4_1 => ?_) (fun c4_1 => ?_)
  · have hres := zif_pos c4_1 hres
    refine lv_iconst (v := (0 : Int32)) hx hb dX6_opens_15 (by decide) ?_
    exact zretz C0 hH dX6_opens_16 (by first | exact Or.inl rfl | exact Or.inr rfl | assumption) (zfst hres) (zsnd hres)
  · have hres := zif_neg c4_1 hres
    refine lv_aload_n hx hb dX6_opens_7 rfl (lv_at hl 0 rfl) ?_
    refine zci (zrunV C0 hH (c_X6_byteAt l D cy ad _) kM_X6_189 zK6 kq_X6_byteAt zR0 rfl hl.1 rfl rfl rfl ⟨Nat.le_of_ble_eq_true rfl, Nat.le_of_ble_eq_true rfl⟩ (Nat.le_of_ble_eq_true rfl) dX6_opens_8) hH (fun H locs hH => ?_)
    refine lv_iload_n hx hb dX6_opens_11 rfl (lv_at hl 1 rfl) ?_
    refine lv_icmp_eq (tgt := 17) hx hb dX6_opens_12 (by decide) (fun c12_3 => ?_) (fun c12_3 => ?_)
    · have hres := zif_pos c12_3 hres
      refine lv_aload_n hx hb dX6_opens_17 rfl (lv_at hl 0 rfl) ?_
      refine zgI C0 hH zK6 19 (by decide) zR0 rfl kF_X6_208 dX6_opens_18 ?_
      refine lv_iconst (v := (5 : Int32)) hx hb dX6_opens_21 (by decide) ?_
      refine lv_icmp_ne (tgt := 31) hx hb dX6_opens_22 (by decide) (fun c22_4 => ?_) (fun c22_4 => ?_)
      · have hres := zif_neg c22_4 hres
        refine lv_aload_n hx hb dX6_opens_31 rfl (lv_at hl 0 rfl) ?_
        refine lv_dup hx hb dX6_opens_32 rfl ?_
        refine zgI C0 hH zK6 19 (by decide) zR0 rfl kF_X6_208 dX6_opens_33 ?_
        refine lv_iconst (v := (1 : Int32)) hx hb dX6_opens_36 (by decide) ?_
        refine lv_iadd hx hb dX6_opens_37 ?_
        refine zp C0 hH zK6 19 (by decide) zR0 rfl rfl zOk_int zcn kF_X6_208 dX6_opens_38 (fun H locs hH => ?_)
        refine lv_aload_n hx hb dX6_opens_41 rfl (lv_at hl 0 rfl) ?_
        refine lv_dup hx hb dX6_opens_42 rfl ?_
        refine zgI C0 hH zK6 17 (by decide) zR0 rfl kF_X6_180 dX6_opens_43 ?_
        refine lv_iconst (v := (1 : Int32)) hx hb dX6_opens_46 (by decide) ?_
        refine lv_iadd hx hb dX6_opens_47 ?_
        refine zp C0 hH zK6 17 (by decide) zR0 rfl rfl zOk_int (zcs (by have q0 := hH.here; have q1 := hH.taped; (try rw [zpI_off (by decide)]); clear hres; grind [f_X6_byteAt, zpI_off])) kF_X6_180 dX6_opens_48 (fun H locs hH => ?_)
        refine lv_iconst (v := (1 : Int32)) hx hb dX6_opens_51 (by decide) ?_
        exact zretz C0 hH dX6_opens_52 (by first | exact Or.inl rfl | exact Or.inr rfl | assumption) (zfst hres) (zsnd hres)
      · have hres := zif_pos c22_4 hres
        refine lv_aload_n hx hb dX6_opens_25 rfl (lv_at hl 0 rfl) ?_
        refine zcv (zrunV C0 hH (c_X6_fails l D cy ad _) kM_X6_196 zK6 kq_X6_fails zR0 rfl hl.1 rfl rfl rfl ⟨Nat.le_of_ble_eq_true rfl, Nat.le_of_ble_eq_true rfl⟩ (Nat.le_of_ble_eq_true rfl) dX6_opens_26) hH (fun H locs hH => ?_)
        refine lv_iconst (v := (0 : Int32)) hx hb dX6_opens_29 (by decide) ?_
        exact zretz C0 hH dX6_opens_30 (by first | exact Or.inl rfl | exact Or.inr rfl | assumption) (zfst hres) (zsnd hres)
    · have hres := zif_neg c12_3 hres
      refine lv_iconst (v := (0 : Int32)) hx hb dX6_opens_15 (by decide) ?_
      exact zretz C0 hH dX6_opens_16 (by first | exact Or.inl rfl | exact Or.inr rfl | assumption) (zfst hres) (zsnd hres)
set_option maxRecDepth 100000 in
set_option maxHeartbeats 4000000 in
theorem c_X6_feed (l : Launch) (D : va_G) (cy : Nat → ClassId) (ad : Nat → Nat) (M : zM) (p1 : Int32) (p2 : Int32) : Met l yX6_feed (Cond.code yX6_feed cX6_feed 4 (some .int) :: zG) ({ frames := 1, cells := 0, slots := 0, locals := 22 }) (zP D lyR cy ad [.ref (ad 0), .int p1, .int p2] M) (zQi D lyR cy ad (f_X6_feed p1 p2 M).1 (f_X6_feed p1 p2 M).2) 0 0 (zA lyR ad) := by
  generalize hres : (f_X6_feed p1 p2 M) = res
  refine zMet (by decide) (Nat.le_of_ble_eq_true rfl) ?_
  intro p e s m args below meth c ls C0 hH hl
  obtain ⟨⟨hx, hb, hml, hown, hts⟩, -⟩ := id C0
  have hz : ∀ w ∈ zG, w.before args s = true := fun w h => hts w (List.mem_cons_of_mem _ h)
  have hl : lv_has ls 4 [(0, .ref (ad 0)), (1, .int p1), (2, .int p2)] := hl
  have g0 := hH.many
  have L36 : ∀ (n36 : Nat), ∀ (v3 : Int32) (mm : zM) (H : Heap) (locs : List Loc) (ls : Array Slot), (zCd 3 n36 v3) → (mm.1 0 5 + v3 ≤ 59) → zH D lyR cy ad s.heap mm H locs → lv_has ls 4 [(0, .ref (ad 0)), (1, .int p1), (3, .int v3)] → f_X6_feed_36 p1 p2 n36 v3 mm = res → W p l e { frames := 1, cells := 0, slots := 0, locals := 22 } s m args below meth c H locs 0 0 (MQ below (zQi D lyR cy ad res.1 res.2) args s 0 0 (zA lyR ad)) (F0 m 36 ls []) := by
    intro n36
    induction n36 with
    | zero =>
      intro v3 mm H locs ls hct hlen hH hl hres
      exfalso; exact hct.zero
    | succ n36 ih36 =>
      intro v3 mm H locs ls hct hlen hH hl hres
      have g0 := hH.taped
      refine lv_iload_n hx hb dX6_feed_36 rfl (lv_at hl 2 rfl) ?_
      refine lv_if_lt (tgt := 75) hx hb dX6_feed_37 (by decide) (fun c37_8 => ?_) (fun c37_8 => ?_)
      · have hres := zif_pos c37_8 hres
        refine lv_aload_n hx hb dX6_feed_75 rfl (lv_at hl 0 rfl) ?_
        refine zgI C0 hH zK6 5 (by decide) zR0 rfl kF_X6_183 dX6_feed_76 ?_
        exact zreti C0 hH dX6_feed_79 (zfst hres) (zsnd hres)
      · have hres := zif_neg c37_8 hres
        refine lv_aload_n hx hb dX6_feed_40 rfl (lv_at hl 0 rfl) ?_
        refine zgR C0 hH zK6 4 (by decide) _ zR0 rfl kF_X6_19 dX6_feed_41 ?_
        refine lv_aload_n hx hb dX6_feed_44 rfl (lv_at hl 0 rfl) ?_
        refine zgI C0 hH zK6 5 (by decide) zR0 rfl kF_X6_183 dX6_feed_45 ?_
        refine lv_iload_n hx hb dX6_feed_48 rfl (lv_at hl 1 rfl) ?_
        refine lv_bipush (v := (8 : Int32)) hx hb dX6_feed_49 (by decide) ?_
        refine lv_iload_n hx hb dX6_feed_51 rfl (lv_at hl 2 rfl) ?_
        refine lv_imul hx hb dX6_feed_52 ?_
        refine lv_ishr hx hb dX6_feed_53 ?_
        refine lv_sipush (v := (255 : Int32)) hx hb dX6_feed_54 (by decide) ?_
        refine lv_iand hx hb dX6_feed_57 ?_
        refine zast C0 hH (zR_i (by decide) (by decide)) rfl (by exact zin60.mpr (by have q0 := hH.many; have q1 := hH.booked; have q2 := hH.coded; have q3 := hH.taped; have q4 := hH.here; have q5 := hH.ncode; obtain ⟨qa, qb, -⟩ := hct; clear hres; grind [f_X6_in, f_X6_isBlock, f_X6_isAhead, f_X6_isSheet])) zcn dX6_feed_58 (fun H locs hH => ?_)
        refine lv_aload_n hx hb dX6_feed_59 rfl (lv_at hl 0 rfl) ?_
        refine lv_dup hx hb dX6_feed_60 rfl ?_
        refine zgI C0 hH zK6 5 (by decide) zR0 rfl kF_X6_183 dX6_feed_61 ?_
        refine lv_iconst (v := (1 : Int32)) hx hb dX6_feed_64 (by decide) ?_
        refine lv_iadd hx hb dX6_feed_65 ?_
        refine zp C0 hH zK6 5 (by decide) zR0 rfl rfl zOk_int (zcs (by rw [zpI_off (fun h => absurd h.1 (by decide))]; obtain ⟨qa, qb, -⟩ := hct; clear hres; grind)) kF_X6_183 dX6_feed_66 (fun H locs hH => ?_)
        refine ziinc (lv' := [(3, _), (0, _), (1, _)]) (k := 2) hx hb (-1 : Int32) (by decide) dX6_feed_69 hl rfl (by decide) rfl (fun ls hl => ?_)
        refine lv_goto (tgt := 36) hx hb dX6_feed_72 (by decide) ?_
        exact ih36 _ _ _ _ _ (by first | exact zCd.begin (by decide) (by decide) (by decide) | exact zCd.begin (by clear hres; grind [f_X6_in, f_X6_isBlock, f_X6_isAhead, f_X6_isSheet]) (by clear hres; grind [f_X6_in, f_X6_isBlock, f_X6_isAhead, f_X6_isSheet]) (by decide) | exact zCd.step1 hct (by clear hres; grind [f_X6_in, f_X6_isBlock, f_X6_isAhead, f_X6_isSheet])) (by first | (rw [zpI_at, zpI_off (fun h => absurd h.1 (by decide))]; obtain ⟨qa, qb, -⟩ := hct; clear hres; grind) | (have q0 := hH.taped; clear hres; grind [f_X6_in])) hH (lv_sub hl [1, 2, 0] rfl) hres
  refine lv_iload_n hx hb dX6_feed_0 rfl (lv_at hl 2 rfl) ?_
  refine lv_iconst (v := (1 : Int32)) hx hb dX6_feed_1 (by decide) ?_
  refine lv_iconst (v := (4 : Int32)) hx hb dX6_feed_2 (by decide) ?_
  refine zcz (zrunS C0 hH (c_X6_in l D cy ad _ _ _ _) kM_X6_57 kq_X6_in rfl hl.1 rfl rfl rfl ⟨Nat.le_of_ble_eq_true rfl, Nat.le_of_ble_eq_true rfl⟩ (Nat.le_of_ble_eq_true rfl) dX6_feed_3) hH (fun H locs hH h01_1 => ?_)
  refine lv_if_ne (tgt := 15) hx hb dX6_feed_6 (by decide) (fun c6_3 => ?_) (fun c6_3 => ?_)
  · have hres := zif_neg c6_3 hres
    refine lv_aload_n hx hb dX6_feed_15 rfl (lv_at hl 0 rfl) ?_
    refine zgI C0 hH zK6 5 (by decide) zR0 rfl kF_X6_183 dX6_feed_16 ?_
    refine lv_iload_n hx hb dX6_feed_19 rfl (lv_at hl 2 rfl) ?_
    refine lv_iadd hx hb dX6_feed_20 ?_
    refine lv_bipush (v := (60 : Int32)) hx hb dX6_feed_21 (by decide) ?_
    refine lv_icmp_le (tgt := 32) hx hb dX6_feed_23 (by decide) (fun c23_4 => ?_) (fun c23_4 => ?_)
    · have hres := zif_pos c23_4 hres
      refine lv_iload_n hx hb dX6_feed_32 rfl (lv_at hl 2 rfl) ?_
      refine lv_iconst (v := (1 : Int32)) hx hb dX6_feed_33 (by decide) ?_
      refine lv_isub hx hb dX6_feed_34 ?_
      refine lv_istore_n (lv' := [(3, _), (0, _), (1, _), (2, _)]) hx hb dX6_feed_35 rfl hl (by decide) rfl (fun ls hl => ?_)
      exact L36 (5) _ _ _ _ _ (by first | exact zCd.begin (by decide) (by decide) (by decide) | exact zCd.begin (by clear hres; grind [f_X6_in, f_X6_isBlock, f_X6_isAhead, f_X6_isSheet]) (by clear hres; grind [f_X6_in, f_X6_isBlock, f_X6_isAhead, f_X6_isSheet]) (by decide) | exact zCd.step1 hct (by clear hres; grind [f_X6_in, f_X6_isBlock, f_X6_isAhead, f_X6_isSheet])) (by first | (rw [zpI_at, zpI_off (fun h => absurd h.1 (by decide))]; obtain ⟨qa, qb, -⟩ := hct; clear hres; grind) | (have q0 := hH.taped; clear hres; grind [f_X6_in])) hH (lv_sub hl [1, 2, 0] rfl) hres
    · have hres := zif_neg c23_4 hres
      refine lv_aload_n hx hb dX6_feed_26 rfl (lv_at hl 0 rfl) ?_
      refine lv_iconst (v := (1 : Int32)) hx hb dX6_feed_27 (by decide) ?_
      refine zci (zrunV C0 hH (c_X6_no l D cy ad _ _ (by decide)) kM_X6_85 zK6 kq_X6_no zR0 rfl hl.1 rfl rfl rfl ⟨Nat.le_of_ble_eq_true rfl, Nat.le_of_ble_eq_true rfl⟩ (Nat.le_of_ble_eq_true rfl) dX6_feed_28) hH (fun H locs hH => ?_)
      exact zreti C0 hH dX6_feed_31 (zfst hres) (zsnd hres)
  · have hres := zif_pos c6_3 hres
    refine lv_aload_n hx hb dX6_feed_9 rfl (lv_at hl 0 rfl) ?_
    refine lv_iconst (v := (0 : Int32)) hx hb dX6_feed_10 (by decide) ?_
    refine zci (zrunV C0 hH (c_X6_no l D cy ad _ _ (by decide)) kM_X6_85 zK6 kq_X6_no zR0 rfl hl.1 rfl rfl rfl ⟨Nat.le_of_ble_eq_true rfl, Nat.le_of_ble_eq_true rfl⟩ (Nat.le_of_ble_eq_true rfl) dX6_feed_11) hH (fun H locs hH => ?_)
    exact zreti C0 hH dX6_feed_14 (zfst hres) (zsnd hres)
set_option maxRecDepth 100000 in
set_option maxHeartbeats 4000000 in
theorem c_X6_wipe (l : Launch) (D : va_G) (cy : Nat → ClassId) (ad : Nat → Nat) (M : zM) : Met l yX6_wipe (Cond.code yX6_wipe cX6_wipe 2 (some .int) :: zG) ({ frames := 0, cells := 0, slots := 0, locals := 0 }) (zP D lyR cy ad [.ref (ad 0)] M) (zQi D lyR cy ad (f_X6_wipe M).1 (f_X6_wipe M).2) 0 0 (zA lyR ad) := by
  generalize hres : (f_X6_wipe M) = res
  refine zMet (by decide) (Nat.le_of_ble_eq_true rfl) ?_
  intro p e s m args below meth c ls C0 hH hl
  obtain ⟨⟨hx, hb, hml, hown, hts⟩, -⟩ := id C0
  have hz : ∀ w ∈ zG, w.before args s = true := fun w h => hts w (List.mem_cons_of_mem _ h)
  have hl : lv_has ls 2 [(0, .ref (ad 0))] := hl
  have g0 := hH.many
  refine lv_aload_n hx hb dX6_wipe_0 rfl (lv_at hl 0 rfl) ?_
  refine zgI C0 hH zK6 5 (by decide) zR0 rfl kF_X6_183 dX6_wipe_1 ?_
  refine lv_istore_n (lv' := [(1, _), (0, _)]) hx hb dX6_wipe_4 rfl hl (by decide) rfl (fun ls hl => ?_)
  refine lv_aload_n hx hb dX6_wipe_5 rfl (lv_at hl 1 rfl) ?_
  refine lv_iconst (v := (0 : Int32)) hx hb dX6_wipe_6 (by decide) ?_
  refine zp C0 hH zK6 5 (by decide) zR0 rfl rfl zOk_int (zcs (by first | decide | (have q0 := hH.many; have q1 := hH.booked; have q2 := hH.coded; have q3 := hH.taped; have q4 := hH.here; have q5 := hH.ncode; clear hres; grind [f_X6_in, f_X6_isBlock, f_X6_isAhead, f_X6_isSheet]))) kF_X6_183 dX6_wipe_7 (fun H locs hH => ?_)
  refine lv_iload_n hx hb dX6_wipe_10 rfl (lv_at hl 0 rfl) ?_
  exact zreti C0 hH dX6_wipe_11 (zfst hres) (zsnd hres)
set_option maxRecDepth 100000 in
set_option maxHeartbeats 4000000 in
theorem c_X6_plain (l : Launch) (D : va_G) (cy : Nat → ClassId) (ad : Nat → Nat) (M : zM) : Met l yX6_plain (Cond.code yX6_plain cX6_plain 2 (some .int) :: zG) ({ frames := 0, cells := 0, slots := 0, locals := 0 }) (zP D lyR cy ad [.ref (ad 0)] M) (zQi D lyR cy ad (f_X6_plain M).1 (f_X6_plain M).2) 0 0 (zA lyR ad) := by
  generalize hres : (f_X6_plain M) = res
  refine zMet (by decide) (Nat.le_of_ble_eq_true rfl) ?_
  intro p e s m args below meth c ls C0 hH hl
  obtain ⟨⟨hx, hb, hml, hown, hts⟩, -⟩ := id C0
  have hz : ∀ w ∈ zG, w.before args s = true := fun w h => hts w (List.mem_cons_of_mem _ h)
  have hl : lv_has ls 2 [(0, .ref (ad 0))] := hl
  have g0 := hH.many
  refine lv_aload_n hx hb dX6_plain_0 rfl (lv_at hl 0 rfl) ?_
  refine zgR C0 hH zK6 0 (by decide) _ zR0 rfl kF_X6_9 dX6_plain_1 ?_
  refine lv_iconst (v := (5 : Int32)) hx hb dX6_plain_4 (by decide) ?_
  refine zaldK C0 hH zS31.is zS31.ln (k := 5) (by decide) (by unfold vp_in; decide) dX6_plain_5 ?_
  refine lv_if_ge (tgt := 13) hx hb dX6_plain_6 (by decide) (fun c6_1 => ?_) (fun c6_1 => ?_)
  · have hres := zif_pos c6_1 hres
    refine lv_iconst (v := (1 : Int32)) hx hb dX6_plain_13 (by decide) ?_
    refine lv_istore_n (lv' := [(1, _), (0, _)]) hx hb dX6_plain_14 rfl hl (by decide) rfl (fun ls hl => ?_)
    refine lv_aload_n hx hb dX6_plain_15 rfl (lv_at hl 1 rfl) ?_
    refine zgR C0 hH zK6 0 (by decide) _ zR0 rfl kF_X6_9 dX6_plain_16 ?_
    refine lv_iconst (v := (5 : Int32)) hx hb dX6_plain_19 (by decide) ?_
    refine lv_iconst (v := (-1 : Int32)) hx hb dX6_plain_20 (by decide) ?_
    refine zastK C0 hH zS31.is zS31.ln (k := 5) (by decide) (by unfold vp_in; decide) (zcs (by first | decide | (have q0 := hH.many; have q1 := hH.booked; have q2 := hH.coded; have q3 := hH.taped; have q4 := hH.here; have q5 := hH.ncode; clear hres; grind [f_X6_in, f_X6_isBlock, f_X6_isAhead, f_X6_isSheet]))) dX6_plain_21 (fun H locs hH => ?_)
    refine lv_iload_n hx hb dX6_plain_22 rfl (lv_at hl 0 rfl) ?_
    exact zreti C0 hH dX6_plain_23 (zfst hres) (zsnd hres)
  · have hres := zif_neg c6_1 hres
    refine lv_iconst (v := (0 : Int32)) hx hb dX6_plain_9 (by decide) ?_
    refine lv_goto (tgt := 14) hx hb dX6_plain_10 (by decide) ?_
    refine lv_istore_n (lv' := [(1, _), (0, _)]) hx hb dX6_plain_14 rfl hl (by decide) rfl (fun ls hl => ?_)
    refine lv_aload_n hx hb dX6_plain_15 rfl (lv_at hl 1 rfl) ?_
    refine zgR C0 hH zK6 0 (by decide) _ zR0 rfl kF_X6_9 dX6_plain_16 ?_
    refine lv_iconst (v := (5 : Int32)) hx hb dX6_plain_19 (by decide) ?_
    refine lv_iconst (v := (-1 : Int32)) hx hb dX6_plain_20 (by decide) ?_
    refine zastK C0 hH zS31.is zS31.ln (k := 5) (by decide) (by unfold vp_in; decide) (zcs (by first | decide | (have q0 := hH.many; have q1 := hH.booked; have q2 := hH.coded; have q3 := hH.taped; have q4 := hH.here; have q5 := hH.ncode; clear hres; grind [f_X6_in, f_X6_isBlock, f_X6_isAhead, f_X6_isSheet]))) dX6_plain_21 (fun H locs hH => ?_)
    refine lv_iload_n hx hb dX6_plain_22 rfl (lv_at hl 0 rfl) ?_
    exact zreti C0 hH dX6_plain_23 (zfst hres) (zsnd hres)
set_option maxRecDepth 100000 in
set_option maxHeartbeats 4000000 in
theorem c_X6_sheet (l : Launch) (D : va_G) (cy : Nat → ClassId) (ad : Nat → Nat) (M : zM) (p1 : Int32) (p2 : Int32) (p3 : Int32) : Met l yX6_sheet (Cond.code yX6_sheet cX6_sheet 5 (some .int) :: zG) ({ frames := 2, cells := 0, slots := 0, locals := 42 }) (zP D lyR cy ad [.ref (ad 0), .int p1, .int p2, .int p3] M) (zQi D lyR cy ad (f_X6_sheet p1 p2 p3 M).1 (f_X6_sheet p1 p2 p3 M).2) 0 0 (zA lyR ad) := by
  generalize hres : (f_X6_sheet p1 p2 p3 M) = res
  refine zMet (by decide) (Nat.le_of_ble_eq_true rfl) ?_
  intro p e s m args below meth c ls C0 hH hl
  obtain ⟨⟨hx, hb, hml, hown, hts⟩, -⟩ := id C0
  have hz : ∀ w ∈ zG, w.before args s = true := fun w h => hts w (List.mem_cons_of_mem _ h)
  have hl : lv_has ls 5 [(0, .ref (ad 0)), (1, .int p1), (2, .int p2), (3, .int p3)] := hl
  have g0 := hH.many
  have J29 : ∀ (mm : zM) (H : Heap) (locs : List Loc) (ls : Array Slot), zH D lyR cy ad s.heap mm H locs → lv_has ls 5 [(0, .ref (ad 0))] → f_X6_sheet_29 p1 p2 p3 mm = res → W p l e { frames := 2, cells := 0, slots := 0, locals := 42 } s m args below meth c H locs 0 0 (MQ below (zQi D lyR cy ad res.1 res.2) args s 0 0 (zA lyR ad)) (F0 m 29 ls []) := by
    intro mm H locs ls hH hl hres
    refine lv_aload_n hx hb dX6_sheet_29 rfl (lv_at hl 0 rfl) ?_
    refine lv_iconst (v := (0 : Int32)) hx hb dX6_sheet_30 (by decide) ?_
    refine zci (zrunV C0 hH (c_X6_no l D cy ad _ _ (by decide)) kM_X6_85 zK6 kq_X6_no zR0 rfl hl.1 rfl rfl rfl ⟨Nat.le_of_ble_eq_true rfl, Nat.le_of_ble_eq_true rfl⟩ (Nat.le_of_ble_eq_true rfl) dX6_sheet_31) hH (fun H locs hH => ?_)
    exact zreti C0 hH dX6_sheet_34 (zfst hres) (zsnd hres)
  have L83 : ∀ (n83 : Nat), ∀ (v4 : Int32) (mm : zM) (H : Heap) (locs : List Loc) (ls : Array Slot), (zCt 40 n83 v4) → (0 ≤ p1 ∧ p1 < 4) → zH D lyR cy ad s.heap mm H locs → lv_has ls 5 [(0, .ref (ad 0)), (1, .int p1), (4, .int v4)] → f_X6_sheet_83 p1 p2 p3 n83 v4 mm = res → W p l e { frames := 2, cells := 0, slots := 0, locals := 42 } s m args below meth c H locs 0 0 (MQ below (zQi D lyR cy ad res.1 res.2) args s 0 0 (zA lyR ad)) (F0 m 83 ls []) := by
    intro n83
    induction n83 with
    | zero =>
      intro v4 mm H locs ls hct hs hH hl hres
      exfalso; exact hct.zero
    | succ n83 ih83 =>
      intro v4 mm H locs ls hct hs hH hl hres
      refine lv_iload hx hb dX6_sheet_83 (lv_at hl 2 rfl) ?_
      refine lv_bipush (v := (40 : Int32)) hx hb dX6_sheet_85 (by decide) ?_
      refine lv_icmp_ge (tgt := 109) hx hb dX6_sheet_87 (by decide) (fun c87_16 => ?_) (fun c87_16 => ?_)
      · have hres := zif_pos c87_16 hres
        refine lv_aload_n hx hb dX6_sheet_109 rfl (lv_at hl 0 rfl) ?_
        refine zgR C0 hH zK6 22 (by decide) _ zR0 rfl kF_X6_46 dX6_sheet_110 ?_
        refine lv_iload_n hx hb dX6_sheet_113 rfl (lv_at hl 1 rfl) ?_
        refine zald C0 hH (zR_i (by decide) (by decide)) rfl (by exact zin4.mpr (by have q0 := hH.many; have q1 := hH.booked; have q2 := hH.coded; have q3 := hH.taped; have q4 := hH.here; have q5 := hH.ncode; obtain ⟨qa, qb, -⟩ := hct; clear hres; grind [f_X6_in, f_X6_isBlock, f_X6_isAhead, f_X6_isSheet])) dX6_sheet_114 ?_
        exact zreti C0 hH dX6_sheet_115 (zfst hres) (zsnd hres)
      · have hres := zif_neg c87_16 hres
        refine lv_aload_n hx hb dX6_sheet_90 rfl (lv_at hl 0 rfl) ?_
        refine zgR C0 hH zK6 23 (by decide) _ zR0 rfl kF_X6_49 dX6_sheet_91 ?_
        refine lv_bipush (v := (40 : Int32)) hx hb dX6_sheet_94 (by decide) ?_
        refine lv_iload_n hx hb dX6_sheet_96 rfl (lv_at hl 1 rfl) ?_
        refine lv_imul hx hb dX6_sheet_97 ?_
        refine lv_iload hx hb dX6_sheet_98 (lv_at hl 2 rfl) ?_
        refine lv_iadd hx hb dX6_sheet_100 ?_
        refine lv_lconst (v := (0 : Int64)) hx hb dX6_sheet_101 (by decide) ?_
        refine zlst C0 hH zR14 rfl (by exact zin160.mpr (by have q0 := hH.many; have q1 := hH.booked; have q2 := hH.coded; have q3 := hH.taped; have q4 := hH.here; have q5 := hH.ncode; obtain ⟨qa, qb, -⟩ := hct; clear hres; grind [f_X6_in, f_X6_isBlock, f_X6_isAhead, f_X6_isSheet])) dX6_sheet_102 (fun H locs hH => ?_)
        refine ziinc (lv' := [(4, _), (0, _), (1, _)]) (k := 2) hx hb (1 : Int32) (by decide) dX6_sheet_103 hl rfl (by decide) rfl (fun ls hl => ?_)
        refine lv_goto (tgt := 83) hx hb dX6_sheet_106 (by decide) ?_
        exact ih83 _ _ _ _ _ (by first | exact zCt.start (by decide) (by decide) | exact zCt.begin (by decide) (by decide) (by decide) | exact zCt.step (m := 40) hct (by first | assumption | (clear hres; grind [f_X6_in, f_X6_isBlock, f_X6_isAhead, f_X6_isSheet])) (by decide)) (by first | assumption | (clear hres; grind [f_X6_in, f_X6_isBlock, f_X6_isAhead, f_X6_isSheet])) hH (lv_sub hl [1, 2, 0] rfl) hres
  have J79 : ∀ (s0 : Int32) (s1 : Int32) (mm : zM) (H : Heap) (locs : List Loc) (ls : Array Slot), (0 ≤ p1 ∧ p1 < 4) → (0 ≤ s0 ∧ s0 ≤ 40) → (0 ≤ s1 ∧ s1 < 4) → zH D lyR cy ad s.heap mm H locs → lv_has ls 5 [(0, .ref (ad 0)), (1, .int p1)] → f_X6_sheet_79 p1 p2 p3 s0 s1 mm = res → W p l e { frames := 2, cells := 0, slots := 0, locals := 42 } s m args below meth c H locs 0 0 (MQ below (zQi D lyR cy ad res.1 res.2) args s 0 0 (zA lyR ad)) (F0 m 79 ls [.int s0, .int s1, .ref (ad 13)]) := by
    intro s0 s1 mm H locs ls hs hv0 hv1 hH hl hres
    refine zast C0 hH (zR_i (by decide) (by decide)) rfl (by exact zin4.mpr (by have q0 := hH.many; have q1 := hH.booked; have q2 := hH.coded; have q3 := hH.taped; have q4 := hH.here; have q5 := hH.ncode; clear hres; grind [f_X6_in, f_X6_isBlock, f_X6_isAhead, f_X6_isSheet])) (zcs (by first | decide | (have q0 := hH.many; have q1 := hH.booked; have q2 := hH.coded; have q3 := hH.taped; have q4 := hH.here; have q5 := hH.ncode; clear hres; grind [f_X6_in, f_X6_isBlock, f_X6_isAhead, f_X6_isSheet]))) dX6_sheet_79 (fun H locs hH => ?_)
    refine lv_iconst (v := (0 : Int32)) hx hb dX6_sheet_80 (by decide) ?_
    refine lv_istore (lv' := [(4, _), (0, _), (1, _)]) hx hb dX6_sheet_81 hl (by decide) rfl (fun ls hl => ?_)
    exact L83 (41) _ _ _ _ _ (by first | exact zCt.start (by decide) (by decide) | exact zCt.begin (by decide) (by decide) (by decide) | exact zCt.step (m := 40) hct (by first | assumption | (clear hres; grind [f_X6_in, f_X6_isBlock, f_X6_isAhead, f_X6_isSheet])) (by decide)) (by first | assumption | (clear hres; grind [f_X6_in, f_X6_isBlock, f_X6_isAhead, f_X6_isSheet])) hH (lv_sub hl [1, 2, 0] rfl) hres
  have J35 : ∀ (mm : zM) (H : Heap) (locs : List Loc) (ls : Array Slot), (0 ≤ p1 ∧ p1 < 4) → zH D lyR cy ad s.heap mm H locs → lv_has ls 5 [(0, .ref (ad 0)), (1, .int p1), (2, .int p2), (3, .int p3)] → f_X6_sheet_35 p1 p2 p3 mm = res → W p l e { frames := 2, cells := 0, slots := 0, locals := 42 } s m args below meth c H locs 0 0 (MQ below (zQi D lyR cy ad res.1 res.2) args s 0 0 (zA lyR ad)) (F0 m 35 ls []) := by
    intro mm H locs ls hs hH hl hres
    refine lv_iload_n hx hb dX6_sheet_35 rfl (lv_at hl 3 rfl) ?_
    refine lv_if_ge (tgt := 46) hx hb dX6_sheet_36 (by decide) (fun c36_9 => ?_) (fun c36_9 => ?_)
    · have hres := zif_pos c36_9 hres
      refine lv_iload_n hx hb dX6_sheet_46 rfl (lv_at hl 3 rfl) ?_
      refine lv_bipush (v := (40 : Int32)) hx hb dX6_sheet_47 (by decide) ?_
      refine lv_icmp_le (tgt := 58) hx hb dX6_sheet_49 (by decide) (fun c49_10 => ?_) (fun c49_10 => ?_)
      · have hres := zif_pos c49_10 hres
        refine lv_aload_n hx hb dX6_sheet_58 rfl (lv_at hl 0 rfl) ?_
        refine zgR C0 hH zK6 21 (by decide) _ zR0 rfl kF_X6_43 dX6_sheet_59 ?_
        refine lv_iload_n hx hb dX6_sheet_62 rfl (lv_at hl 1 rfl) ?_
        refine lv_iload_n hx hb dX6_sheet_63 rfl (lv_at hl 2 rfl) ?_
        refine zast C0 hH (zR_i (by decide) (by decide)) rfl (by exact zin4.mpr (by have q0 := hH.many; have q1 := hH.booked; have q2 := hH.coded; have q3 := hH.taped; have q4 := hH.here; have q5 := hH.ncode; clear hres; grind [f_X6_in, f_X6_isBlock, f_X6_isAhead, f_X6_isSheet])) zcn dX6_sheet_64 (fun H locs hH => ?_)
        refine lv_aload_n hx hb dX6_sheet_65 rfl (lv_at hl 0 rfl) ?_
        refine zgR C0 hH zK6 22 (by decide) _ zR0 rfl kF_X6_46 dX6_sheet_66 ?_
        refine lv_iload_n hx hb dX6_sheet_69 rfl (lv_at hl 1 rfl) ?_
        refine lv_iload_n hx hb dX6_sheet_70 rfl (lv_at hl 2 rfl) ?_
        refine lv_if_ne (tgt := 78) hx hb dX6_sheet_71 (by decide) (fun c71_12 => ?_) (fun c71_12 => ?_)
        · have hres := zif_neg c71_12 hres
          refine lv_iload_n hx hb dX6_sheet_78 rfl (lv_at hl 3 rfl) ?_
          exact J79 _ _ _ _ _ _ (by first | assumption | (clear hres; grind [f_X6_in, f_X6_isBlock, f_X6_isAhead, f_X6_isSheet])) (by first | decide | (clear hres; grind [f_X6_in, f_X6_isBlock, f_X6_isAhead, f_X6_isSheet])) (by assumption) hH (lv_sub hl [0, 1] rfl) hres
        · have hres := zif_pos c71_12 hres
          refine lv_iconst (v := (0 : Int32)) hx hb dX6_sheet_74 (by decide) ?_
          refine lv_goto (tgt := 79) hx hb dX6_sheet_75 (by decide) ?_
          exact J79 _ _ _ _ _ _ (by first | assumption | (clear hres; grind [f_X6_in, f_X6_isBlock, f_X6_isAhead, f_X6_isSheet])) (by first | decide | (clear hres; grind [f_X6_in, f_X6_isBlock, f_X6_isAhead, f_X6_isSheet])) (by assumption) hH (lv_sub hl [0, 1] rfl) hres
      · have hres := zif_neg c49_10 hres
        refine lv_aload_n hx hb dX6_sheet_52 rfl (lv_at hl 0 rfl) ?_
        refine lv_iconst (v := (0 : Int32)) hx hb dX6_sheet_53 (by decide) ?_
        refine zci (zrunV C0 hH (c_X6_no l D cy ad _ _ (by decide)) kM_X6_85 zK6 kq_X6_no zR0 rfl hl.1 rfl rfl rfl ⟨Nat.le_of_ble_eq_true rfl, Nat.le_of_ble_eq_true rfl⟩ (Nat.le_of_ble_eq_true rfl) dX6_sheet_54) hH (fun H locs hH => ?_)
        exact zreti C0 hH dX6_sheet_57 (zfst hres) (zsnd hres)
    · have hres := zif_neg c36_9 hres
      refine lv_aload_n hx hb dX6_sheet_39 rfl (lv_at hl 0 rfl) ?_
      refine lv_bipush (v := (6 : Int32)) hx hb dX6_sheet_40 (by decide) ?_
      refine zci (zrunV C0 hH (c_X6_no l D cy ad _ _ (by decide)) kM_X6_85 zK6 kq_X6_no zR0 rfl hl.1 rfl rfl rfl ⟨Nat.le_of_ble_eq_true rfl, Nat.le_of_ble_eq_true rfl⟩ (Nat.le_of_ble_eq_true rfl) dX6_sheet_42) hH (fun H locs hH => ?_)
      exact zreti C0 hH dX6_sheet_45 (zfst hres) (zsnd hres)
  refine lv_iload_n hx hb dX6_sheet_0 rfl (lv_at hl 1 rfl) ?_
  refine zcz (zrunS C0 hH (c_X6_isSheet l D cy ad _ _) kM_X6_174 kq_X6_isSheet rfl hl.1 rfl rfl rfl ⟨Nat.le_of_ble_eq_true rfl, Nat.le_of_ble_eq_true rfl⟩ (Nat.le_of_ble_eq_true rfl) dX6_sheet_1) hH (fun H locs hH h01_1 => ?_)
  refine lv_if_eq (tgt := 29) hx hb dX6_sheet_4 (by decide) (fun c4_3 => ?_) (fun c4_3 => ?_)
  · have hres := zif_pos c4_3 hres
    exact J29 _ _ _ _ hH (lv_sub hl [0] rfl) hres
  · have hres := zif_neg c4_3 hres
    refine lv_iload_n hx hb dX6_sheet_7 rfl (lv_at hl 2 rfl) ?_
    refine lv_if_eq (tgt := 35) hx hb dX6_sheet_8 (by decide) (fun c8_4 => ?_) (fun c8_4 => ?_)
    · have hres := zif_pos c8_4 hres
      exact J35 _ _ _ _ (by first | assumption | (clear hres; grind [f_X6_in, f_X6_isBlock, f_X6_isAhead, f_X6_isSheet])) hH (lv_sub hl [0, 1, 2, 3] rfl) hres
    · have hres := zif_neg c8_4 hres
      refine lv_iload_n hx hb dX6_sheet_11 rfl (lv_at hl 2 rfl) ?_
      refine lv_bipush (v := (8 : Int32)) hx hb dX6_sheet_12 (by decide) ?_
      refine lv_icmp_eq (tgt := 35) hx hb dX6_sheet_14 (by decide) (fun c14_5 => ?_) (fun c14_5 => ?_)
      · have hres := zif_pos c14_5 hres
        exact J35 _ _ _ _ (by first | assumption | (clear hres; grind [f_X6_in, f_X6_isBlock, f_X6_isAhead, f_X6_isSheet])) hH (lv_sub hl [0, 1, 2, 3] rfl) hres
      · have hres := zif_neg c14_5 hres
        refine lv_iload_n hx hb dX6_sheet_17 rfl (lv_at hl 2 rfl) ?_
        refine lv_bipush (v := (16 : Int32)) hx hb dX6_sheet_18 (by decide) ?_
        refine lv_icmp_eq (tgt := 35) hx hb dX6_sheet_20 (by decide) (fun c20_6 => ?_) (fun c20_6 => ?_)
        · have hres := zif_pos c20_6 hres
          exact J35 _ _ _ _ (by first | assumption | (clear hres; grind [f_X6_in, f_X6_isBlock, f_X6_isAhead, f_X6_isSheet])) hH (lv_sub hl [0, 1, 2, 3] rfl) hres
        · have hres := zif_neg c20_6 hres
          refine lv_iload_n hx hb dX6_sheet_23 rfl (lv_at hl 2 rfl) ?_
          refine lv_bipush (v := (64 : Int32)) hx hb dX6_sheet_24 (by decide) ?_
          refine lv_icmp_eq (tgt := 35) hx hb dX6_sheet_26 (by decide) (fun c26_7 => ?_) (fun c26_7 => ?_)
          · have hres := zif_pos c26_7 hres
            exact J35 _ _ _ _ (by first | assumption | (clear hres; grind [f_X6_in, f_X6_isBlock, f_X6_isAhead, f_X6_isSheet])) hH (lv_sub hl [0, 1, 2, 3] rfl) hres
          · have hres := zif_neg c26_7 hres
            exact J29 _ _ _ _ hH (lv_sub hl [0] rfl) hres
set_option maxRecDepth 100000 in
set_option maxHeartbeats 4000000 in
theorem c_X6_write (l : Launch) (D : va_G) (cy : Nat → ClassId) (ad : Nat → Nat) (M : zM) (p1 : Int32) (p2 : Int32) (p3 : Int64) : Met l yX6_write (Cond.code yX6_write cX6_write 7 (some .long) :: zG) ({ frames := 2, cells := 0, slots := 0, locals := 42 }) (zP D lyR cy ad [.ref (ad 0), .int p1, .int p2, .long p3] M) (zQl D lyR cy ad (f_X6_write p1 p2 p3 M).1 (f_X6_write p1 p2 p3 M).2) 0 0 (zA lyR ad) := by
  generalize hres : (f_X6_write p1 p2 p3 M) = res
  refine zMet (by decide) (Nat.le_of_ble_eq_true rfl) ?_
  intro p e s m args below meth c ls C0 hH hl
  obtain ⟨⟨hx, hb, hml, hown, hts⟩, -⟩ := id C0
  have hz : ∀ w ∈ zG, w.before args s = true := fun w h => hts w (List.mem_cons_of_mem _ h)
  have hl : lv_has ls 7 [(0, .ref (ad 0)), (1, .int p1), (2, .int p2), (3, .long p3)] := hl
  have g0 := hH.many
  refine lv_iload_n hx hb dX6_write_0 rfl (lv_at hl 1 rfl) ?_
  refine zcz (zrunS C0 hH (c_X6_isSheet l D cy ad _ _) kM_X6_174 kq_X6_isSheet rfl hl.1 rfl rfl rfl ⟨Nat.le_of_ble_eq_true rfl, Nat.le_of_ble_eq_true rfl⟩ (Nat.le_of_ble_eq_true rfl) dX6_write_1) hH (fun H locs hH h01_1 => ?_)
  refine lv_if_ne (tgt := 14) hx hb dX6_write_4 (by decide) (fun c4_3 => ?_) (fun c4_3 => ?_)
  · have hres := zif_neg c4_3 hres
    refine lv_aload_n hx hb dX6_write_14 rfl (lv_at hl 0 rfl) ?_
    refine zgR C0 hH zK6 21 (by decide) _ zR0 rfl kF_X6_43 dX6_write_15 ?_
    refine lv_iload_n hx hb dX6_write_18 rfl (lv_at hl 1 rfl) ?_
    refine zald C0 hH (zR_i (by decide) (by decide)) rfl (by exact zin4.mpr (by have q0 := hH.many; have q1 := hH.booked; have q2 := hH.coded; have q3 := hH.taped; have q4 := hH.here; have q5 := hH.ncode; clear hres; grind [f_X6_in, f_X6_isBlock, f_X6_isAhead, f_X6_isSheet])) dX6_write_19 ?_
    refine lv_if_ne (tgt := 30) hx hb dX6_write_20 (by decide) (fun c20_4 => ?_) (fun c20_4 => ?_)
    · have hres := zif_neg c20_4 hres
      refine lv_iload_n hx hb dX6_write_30 rfl (lv_at hl 2 rfl) ?_
      refine lv_iconst (v := (0 : Int32)) hx hb dX6_write_31 (by decide) ?_
      refine lv_aload_n hx hb dX6_write_32 rfl (lv_at hl 0 rfl) ?_
      refine zgR C0 hH zK6 22 (by decide) _ zR0 rfl kF_X6_46 dX6_write_33 ?_
      refine lv_iload_n hx hb dX6_write_36 rfl (lv_at hl 1 rfl) ?_
      refine zald C0 hH (zR_i (by decide) (by decide)) rfl (by exact zin4.mpr (by have q0 := hH.many; have q1 := hH.booked; have q2 := hH.coded; have q3 := hH.taped; have q4 := hH.here; have q5 := hH.ncode; clear hres; grind [f_X6_in, f_X6_isBlock, f_X6_isAhead, f_X6_isSheet])) dX6_write_37 ?_
      refine lv_iconst (v := (1 : Int32)) hx hb dX6_write_38 (by decide) ?_
      refine lv_isub hx hb dX6_write_39 ?_
      refine zcz (zrunS C0 hH (c_X6_in l D cy ad _ _ _ _) kM_X6_57 kq_X6_in rfl hl.1 rfl rfl rfl ⟨Nat.le_of_ble_eq_true rfl, Nat.le_of_ble_eq_true rfl⟩ (Nat.le_of_ble_eq_true rfl) dX6_write_40) hH (fun H locs hH h01_5 => ?_)
      refine lv_if_ne (tgt := 53) hx hb dX6_write_43 (by decide) (fun c43_7 => ?_) (fun c43_7 => ?_)
      · have hres := zif_neg c43_7 hres
        refine lv_aload_n hx hb dX6_write_53 rfl (lv_at hl 0 rfl) ?_
        refine zgR C0 hH zK6 23 (by decide) _ zR0 rfl kF_X6_49 dX6_write_54 ?_
        refine lv_bipush (v := (40 : Int32)) hx hb dX6_write_57 (by decide) ?_
        refine lv_iload_n hx hb dX6_write_59 rfl (lv_at hl 1 rfl) ?_
        refine lv_imul hx hb dX6_write_60 ?_
        refine lv_iload_n hx hb dX6_write_61 rfl (lv_at hl 2 rfl) ?_
        refine lv_iadd hx hb dX6_write_62 ?_
        refine zlld C0 hH zR14 rfl (by exact zin160.mpr (by have q0 := hH.many; have q1 := hH.booked; have q2 := hH.coded; have q3 := hH.taped; have q4 := hH.here; have q5 := hH.ncode; clear hres; grind [f_X6_in, f_X6_isBlock, f_X6_isAhead, f_X6_isSheet])) dX6_write_63 ?_
        refine lv_lstore (lv' := [(5, _), (0, _), (1, _), (2, _), (3, _)]) hx hb dX6_write_64 hl (by decide) rfl (fun ls hl => ?_)
        refine lv_aload_n hx hb dX6_write_66 rfl (lv_at hl 1 rfl) ?_
        refine zgR C0 hH zK6 23 (by decide) _ zR0 rfl kF_X6_49 dX6_write_67 ?_
        refine lv_bipush (v := (40 : Int32)) hx hb dX6_write_70 (by decide) ?_
        refine lv_iload_n hx hb dX6_write_72 rfl (lv_at hl 2 rfl) ?_
        refine lv_imul hx hb dX6_write_73 ?_
        refine lv_iload_n hx hb dX6_write_74 rfl (lv_at hl 3 rfl) ?_
        refine lv_iadd hx hb dX6_write_75 ?_
        refine lv_aload_n hx hb dX6_write_76 rfl (lv_at hl 1 rfl) ?_
        refine zgR C0 hH zK6 21 (by decide) _ zR0 rfl kF_X6_43 dX6_write_77 ?_
        refine lv_iload_n hx hb dX6_write_80 rfl (lv_at hl 2 rfl) ?_
        refine zald C0 hH (zR_i (by decide) (by decide)) rfl (by exact zin4.mpr (by have q0 := hH.many; have q1 := hH.booked; have q2 := hH.coded; have q3 := hH.taped; have q4 := hH.here; have q5 := hH.ncode; clear hres; grind [f_X6_in, f_X6_isBlock, f_X6_isAhead, f_X6_isSheet])) dX6_write_81 ?_
        refine lv_bipush (v := (8 : Int32)) hx hb dX6_write_82 (by decide) ?_
        refine lv_icmp_ne (tgt := 94) hx hb dX6_write_84 (by decide) (fun c84_9 => ?_) (fun c84_9 => ?_)
        · have hres := zif_neg c84_9 hres
          refine lv_aload_n hx hb dX6_write_94 rfl (lv_at hl 1 rfl) ?_
          refine zgR C0 hH zK6 21 (by decide) _ zR0 rfl kF_X6_43 dX6_write_95 ?_
          refine lv_iload_n hx hb dX6_write_98 rfl (lv_at hl 2 rfl) ?_
          refine zald C0 hH (zR_i (by decide) (by decide)) rfl (by exact zin4.mpr (by have q0 := hH.many; have q1 := hH.booked; have q2 := hH.coded; have q3 := hH.taped; have q4 := hH.here; have q5 := hH.ncode; clear hres; grind [f_X6_in, f_X6_isBlock, f_X6_isAhead, f_X6_isSheet])) dX6_write_99 ?_
          refine lv_bipush (v := (16 : Int32)) hx hb dX6_write_100 (by decide) ?_
          refine lv_icmp_ne (tgt := 112) hx hb dX6_write_102 (by decide) (fun c102_10 => ?_) (fun c102_10 => ?_)
          · have hres := zif_neg c102_10 hres
            refine lv_lload_n hx hb dX6_write_112 rfl (lv_at hl 4 rfl) ?_
            refine zlst C0 hH zR14 rfl (by exact zin160.mpr (by have q0 := hH.many; have q1 := hH.booked; have q2 := hH.coded; have q3 := hH.taped; have q4 := hH.here; have q5 := hH.ncode; clear hres; grind [f_X6_in, f_X6_isBlock, f_X6_isAhead, f_X6_isSheet])) dX6_write_113 (fun H locs hH => ?_)
            refine lv_lload hx hb dX6_write_114 (lv_at hl 0 rfl) ?_
            exact zretl C0 hH dX6_write_116 (zfst hres) (zsnd hres)
          · have hres := zif_pos c102_10 hres
            refine lv_lload_n hx hb dX6_write_105 rfl (lv_at hl 4 rfl) ?_
            refine lv_l2i hx hb dX6_write_106 rfl ?_
            refine lv_i2s hx hb dX6_write_107 rfl ?_
            refine lv_i2l hx hb dX6_write_108 rfl ?_
            refine lv_goto (tgt := 113) hx hb dX6_write_109 (by decide) ?_
            refine zlst C0 hH zR14 rfl (by exact zin160.mpr (by have q0 := hH.many; have q1 := hH.booked; have q2 := hH.coded; have q3 := hH.taped; have q4 := hH.here; have q5 := hH.ncode; clear hres; grind [f_X6_in, f_X6_isBlock, f_X6_isAhead, f_X6_isSheet])) dX6_write_113 (fun H locs hH => ?_)
            refine lv_lload hx hb dX6_write_114 (lv_at hl 0 rfl) ?_
            exact zretl C0 hH dX6_write_116 (zfst hres) (zsnd hres)
        · have hres := zif_pos c84_9 hres
          refine lv_lload_n hx hb dX6_write_87 rfl (lv_at hl 4 rfl) ?_
          refine lv_l2i hx hb dX6_write_88 rfl ?_
          refine lv_i2b hx hb dX6_write_89 rfl ?_
          refine lv_i2l hx hb dX6_write_90 rfl ?_
          refine lv_goto (tgt := 113) hx hb dX6_write_91 (by decide) ?_
          refine zlst C0 hH zR14 rfl (by exact zin160.mpr (by have q0 := hH.many; have q1 := hH.booked; have q2 := hH.coded; have q3 := hH.taped; have q4 := hH.here; have q5 := hH.ncode; clear hres; grind [f_X6_in, f_X6_isBlock, f_X6_isAhead, f_X6_isSheet])) dX6_write_113 (fun H locs hH => ?_)
          refine lv_lload hx hb dX6_write_114 (lv_at hl 0 rfl) ?_
          exact zretl C0 hH dX6_write_116 (zfst hres) (zsnd hres)
      · have hres := zif_pos c43_7 hres
        refine lv_aload_n hx hb dX6_write_46 rfl (lv_at hl 0 rfl) ?_
        refine lv_iconst (v := (0 : Int32)) hx hb dX6_write_47 (by decide) ?_
        refine zci (zrunV C0 hH (c_X6_no l D cy ad _ _ (by decide)) kM_X6_85 zK6 kq_X6_no zR0 rfl hl.1 rfl rfl rfl ⟨Nat.le_of_ble_eq_true rfl, Nat.le_of_ble_eq_true rfl⟩ (Nat.le_of_ble_eq_true rfl) dX6_write_48) hH (fun H locs hH => ?_)
        refine lv_i2l hx hb dX6_write_51 rfl ?_
        exact zretl C0 hH dX6_write_52 (zfst hres) (zsnd hres)
    · have hres := zif_pos c20_4 hres
      refine lv_aload_n hx hb dX6_write_23 rfl (lv_at hl 0 rfl) ?_
      refine lv_iconst (v := (5 : Int32)) hx hb dX6_write_24 (by decide) ?_
      refine zci (zrunV C0 hH (c_X6_no l D cy ad _ _ (by decide)) kM_X6_85 zK6 kq_X6_no zR0 rfl hl.1 rfl rfl rfl ⟨Nat.le_of_ble_eq_true rfl, Nat.le_of_ble_eq_true rfl⟩ (Nat.le_of_ble_eq_true rfl) dX6_write_25) hH (fun H locs hH => ?_)
      refine lv_i2l hx hb dX6_write_28 rfl ?_
      exact zretl C0 hH dX6_write_29 (zfst hres) (zsnd hres)
  · have hres := zif_pos c4_3 hres
    refine lv_aload_n hx hb dX6_write_7 rfl (lv_at hl 0 rfl) ?_
    refine lv_iconst (v := (0 : Int32)) hx hb dX6_write_8 (by decide) ?_
    refine zci (zrunV C0 hH (c_X6_no l D cy ad _ _ (by decide)) kM_X6_85 zK6 kq_X6_no zR0 rfl hl.1 rfl rfl rfl ⟨Nat.le_of_ble_eq_true rfl, Nat.le_of_ble_eq_true rfl⟩ (Nat.le_of_ble_eq_true rfl) dX6_write_9) hH (fun H locs hH => ?_)
    refine lv_i2l hx hb dX6_write_12 rfl ?_
    exact zretl C0 hH dX6_write_13 (zfst hres) (zsnd hres)
set_option maxRecDepth 100000 in
set_option maxHeartbeats 4000000 in
theorem c_X6_copy (l : Launch) (D : va_G) (cy : Nat → ClassId) (ad : Nat → Nat) (M : zM) (p1 : Int32) (p2 : Int32) (p3 : Int32) (p4 : Int32) (p5 : Int32) : Met l yX6_copy (Cond.code yX6_copy cX6_copy 7 (some .int) :: zG) ({ frames := 2, cells := 0, slots := 0, locals := 42 }) (zP D lyR cy ad [.ref (ad 0), .int p1, .int p2, .int p3, .int p4, .int p5] M) (zQi D lyR cy ad (f_X6_copy p1 p2 p3 p4 p5 M).1 (f_X6_copy p1 p2 p3 p4 p5 M).2) 0 0 (zA lyR ad) := by
  generalize hres : (f_X6_copy p1 p2 p3 p4 p5 M) = res
  refine zMet (by decide) (Nat.le_of_ble_eq_true rfl) ?_
  intro p e s m args below meth c ls C0 hH hl
  obtain ⟨⟨hx, hb, hml, hown, hts⟩, -⟩ := id C0
  have hz : ∀ w ∈ zG, w.before args s = true := fun w h => hts w (List.mem_cons_of_mem _ h)
  have hl : lv_has ls 7 [(0, .ref (ad 0)), (1, .int p1), (2, .int p2), (3, .int p3), (4, .int p4), (5, .int p5)] := hl
  have g0 := hH.many
  have J14 : ∀ (mm : zM) (H : Heap) (locs : List Loc) (ls : Array Slot), zH D lyR cy ad s.heap mm H locs → lv_has ls 7 [(0, .ref (ad 0))] → f_X6_copy_14 p1 p2 p3 p4 p5 mm = res → W p l e { frames := 2, cells := 0, slots := 0, locals := 42 } s m args below meth c H locs 0 0 (MQ below (zQi D lyR cy ad res.1 res.2) args s 0 0 (zA lyR ad)) (F0 m 14 ls []) := by
    intro mm H locs ls hH hl hres
    refine lv_aload_n hx hb dX6_copy_14 rfl (lv_at hl 0 rfl) ?_
    refine lv_iconst (v := (0 : Int32)) hx hb dX6_copy_15 (by decide) ?_
    refine zci (zrunV C0 hH (c_X6_no l D cy ad _ _ (by decide)) kM_X6_85 zK6 kq_X6_no zR0 rfl hl.1 rfl rfl rfl ⟨Nat.le_of_ble_eq_true rfl, Nat.le_of_ble_eq_true rfl⟩ (Nat.le_of_ble_eq_true rfl) dX6_copy_16) hH (fun H locs hH => ?_)
    exact zreti C0 hH dX6_copy_19 (zfst hres) (zsnd hres)
  have J38 : ∀ (mm : zM) (H : Heap) (locs : List Loc) (ls : Array Slot), zH D lyR cy ad s.heap mm H locs → lv_has ls 7 [(0, .ref (ad 0))] → f_X6_copy_38 p1 p2 p3 p4 p5 mm = res → W p l e { frames := 2, cells := 0, slots := 0, locals := 42 } s m args below meth c H locs 0 0 (MQ below (zQi D lyR cy ad res.1 res.2) args s 0 0 (zA lyR ad)) (F0 m 38 ls []) := by
    intro mm H locs ls hH hl hres
    refine lv_aload_n hx hb dX6_copy_38 rfl (lv_at hl 0 rfl) ?_
    refine lv_iconst (v := (5 : Int32)) hx hb dX6_copy_39 (by decide) ?_
    refine zci (zrunV C0 hH (c_X6_no l D cy ad _ _ (by decide)) kM_X6_85 zK6 kq_X6_no zR0 rfl hl.1 rfl rfl rfl ⟨Nat.le_of_ble_eq_true rfl, Nat.le_of_ble_eq_true rfl⟩ (Nat.le_of_ble_eq_true rfl) dX6_copy_40) hH (fun H locs hH => ?_)
    exact zreti C0 hH dX6_copy_43 (zfst hres) (zsnd hres)
  have J106 : ∀ (mm : zM) (H : Heap) (locs : List Loc) (ls : Array Slot), zH D lyR cy ad s.heap mm H locs → lv_has ls 7 [(0, .ref (ad 0))] → f_X6_copy_106 p1 p2 p3 p4 p5 mm = res → W p l e { frames := 2, cells := 0, slots := 0, locals := 42 } s m args below meth c H locs 0 0 (MQ below (zQi D lyR cy ad res.1 res.2) args s 0 0 (zA lyR ad)) (F0 m 106 ls []) := by
    intro mm H locs ls hH hl hres
    refine lv_aload_n hx hb dX6_copy_106 rfl (lv_at hl 0 rfl) ?_
    refine lv_iconst (v := (0 : Int32)) hx hb dX6_copy_107 (by decide) ?_
    refine zci (zrunV C0 hH (c_X6_no l D cy ad _ _ (by decide)) kM_X6_85 zK6 kq_X6_no zR0 rfl hl.1 rfl rfl rfl ⟨Nat.le_of_ble_eq_true rfl, Nat.le_of_ble_eq_true rfl⟩ (Nat.le_of_ble_eq_true rfl) dX6_copy_108) hH (fun H locs hH => ?_)
    exact zreti C0 hH dX6_copy_111 (zfst hres) (zsnd hres)
  have L152 : ∀ (n152 : Nat), ∀ (v6 : Int32) (mm : zM) (H : Heap) (locs : List Loc) (ls : Array Slot), (zCt 40 n152 v6) → ((0 ≤ p1 ∧ p1 < 4) ∧ (0 ≤ p3 ∧ p3 < 4) ∧ 0 ≤ p5 ∧ (0 ≤ p2 ∧ p2 + p5 ≤ 40) ∧ (0 ≤ p4 ∧ p4 + p5 ≤ 40) ∧ p2 ≤ 40 ∧ p4 ≤ 40 ∧ p5 ≤ 40) → zH D lyR cy ad s.heap mm H locs → lv_has ls 7 [(0, .ref (ad 0)), (3, .int p3), (4, .int p4), (5, .int p5), (6, .int v6)] → f_X6_copy_152 p1 p2 p3 p4 p5 n152 v6 mm = res → W p l e { frames := 2, cells := 0, slots := 0, locals := 42 } s m args below meth c H locs 0 0 (MQ below (zQi D lyR cy ad res.1 res.2) args s 0 0 (zA lyR ad)) (F0 m 152 ls []) := by
    intro n152
    induction n152 with
    | zero =>
      intro v6 mm H locs ls hct hq hH hl hres
      exfalso; exact hct.zero
    | succ n152 ih152 =>
      intro v6 mm H locs ls hct hq hH hl hres
      refine lv_iload hx hb dX6_copy_152 (lv_at hl 4 rfl) ?_
      refine lv_iload hx hb dX6_copy_154 (lv_at hl 3 rfl) ?_
      refine lv_icmp_ge (tgt := 187) hx hb dX6_copy_156 (by decide) (fun c156_21 => ?_) (fun c156_21 => ?_)
      · have hres := zif_pos c156_21 hres
        refine lv_iload hx hb dX6_copy_187 (lv_at hl 3 rfl) ?_
        exact zreti C0 hH dX6_copy_189 (zfst hres) (zsnd hres)
      · have hres := zif_neg c156_21 hres
        refine lv_aload_n hx hb dX6_copy_159 rfl (lv_at hl 0 rfl) ?_
        refine zgR C0 hH zK6 23 (by decide) _ zR0 rfl kF_X6_49 dX6_copy_160 ?_
        refine lv_bipush (v := (40 : Int32)) hx hb dX6_copy_163 (by decide) ?_
        refine lv_iload_n hx hb dX6_copy_165 rfl (lv_at hl 1 rfl) ?_
        refine lv_imul hx hb dX6_copy_166 ?_
        refine lv_iload hx hb dX6_copy_167 (lv_at hl 2 rfl) ?_
        refine lv_iadd hx hb dX6_copy_169 ?_
        refine lv_iload hx hb dX6_copy_170 (lv_at hl 4 rfl) ?_
        refine lv_iadd hx hb dX6_copy_172 ?_
        refine lv_aload_n hx hb dX6_copy_173 rfl (lv_at hl 0 rfl) ?_
        refine zgR C0 hH zK6 24 (by decide) _ zR0 rfl kF_X6_53 dX6_copy_174 ?_
        refine lv_iload hx hb dX6_copy_177 (lv_at hl 4 rfl) ?_
        refine zlld C0 hH zR15 rfl (by exact zin40.mpr (by have q0 := hH.many; have q1 := hH.booked; have q2 := hH.coded; have q3 := hH.taped; have q4 := hH.here; have q5 := hH.ncode; obtain ⟨qa, qb, -⟩ := hct; clear hres; grind [f_X6_in, f_X6_isBlock, f_X6_isAhead, f_X6_isSheet])) dX6_copy_179 ?_
        refine zlst C0 hH zR14 rfl (by exact zin160.mpr (by have q0 := hH.many; have q1 := hH.booked; have q2 := hH.coded; have q3 := hH.taped; have q4 := hH.here; have q5 := hH.ncode; obtain ⟨qa, qb, -⟩ := hct; clear hres; grind [f_X6_in, f_X6_isBlock, f_X6_isAhead, f_X6_isSheet])) dX6_copy_180 (fun H locs hH => ?_)
        refine ziinc (lv' := [(6, _), (0, _), (3, _), (4, _), (5, _)]) (k := 4) hx hb (1 : Int32) (by decide) dX6_copy_181 hl rfl (by decide) rfl (fun ls hl => ?_)
        refine lv_goto (tgt := 152) hx hb dX6_copy_184 (by decide) ?_
        exact ih152 _ _ _ _ _ (by first | exact zCt.start (by decide) (by decide) | exact zCt.begin (by decide) (by decide) (by decide) | exact zCt.step (m := 40) hct (by first | assumption | (clear hres; grind [f_X6_in, f_X6_isBlock, f_X6_isAhead, f_X6_isSheet])) (by decide)) (by first | assumption | (have q1 := hH.longs p1.toNatClampNeg; have q3 := hH.longs p3.toNatClampNeg; clear hres; grind [f_X6_in, f_X6_isBlock, f_X6_isAhead, f_X6_isSheet])) hH (lv_sub hl [1, 2, 3, 4, 0] rfl) hres
  have L115 : ∀ (n115 : Nat), ∀ (v6 : Int32) (mm : zM) (H : Heap) (locs : List Loc) (ls : Array Slot), (zCt 40 n115 v6) → ((0 ≤ p1 ∧ p1 < 4) ∧ (0 ≤ p3 ∧ p3 < 4) ∧ 0 ≤ p5 ∧ (0 ≤ p2 ∧ p2 + p5 ≤ 40) ∧ (0 ≤ p4 ∧ p4 + p5 ≤ 40) ∧ p2 ≤ 40 ∧ p4 ≤ 40 ∧ p5 ≤ 40) → zH D lyR cy ad s.heap mm H locs → lv_has ls 7 [(0, .ref (ad 0)), (1, .int p1), (2, .int p2), (3, .int p3), (4, .int p4), (5, .int p5), (6, .int v6)] → f_X6_copy_115 p1 p2 p3 p4 p5 n115 v6 mm = res → W p l e { frames := 2, cells := 0, slots := 0, locals := 42 } s m args below meth c H locs 0 0 (MQ below (zQi D lyR cy ad res.1 res.2) args s 0 0 (zA lyR ad)) (F0 m 115 ls []) := by
    intro n115
    induction n115 with
    | zero =>
      intro v6 mm H locs ls hct hq hH hl hres
      exfalso; exact hct.zero
    | succ n115 ih115 =>
      intro v6 mm H locs ls hct hq hH hl hres
      refine lv_iload hx hb dX6_copy_115 (lv_at hl 6 rfl) ?_
      refine lv_iload hx hb dX6_copy_117 (lv_at hl 5 rfl) ?_
      refine lv_icmp_ge (tgt := 149) hx hb dX6_copy_119 (by decide) (fun c119_19 => ?_) (fun c119_19 => ?_)
      · have hres := zif_pos c119_19 hres
        refine lv_iconst (v := (0 : Int32)) hx hb dX6_copy_149 (by decide) ?_
        refine lv_istore (lv' := [(6, _), (0, _), (1, _), (2, _), (3, _), (4, _), (5, _)]) hx hb dX6_copy_150 hl (by decide) rfl (fun ls hl => ?_)
        exact L152 (41) _ _ _ _ _ (by first | exact zCt.start (by decide) (by decide) | exact zCt.begin (by decide) (by decide) (by decide) | exact zCt.step (m := 40) hct (by first | assumption | (clear hres; grind [f_X6_in, f_X6_isBlock, f_X6_isAhead, f_X6_isSheet])) (by decide)) (by first | assumption | (have q1 := hH.longs p1.toNatClampNeg; have q3 := hH.longs p3.toNatClampNeg; clear hres; grind [f_X6_in, f_X6_isBlock, f_X6_isAhead, f_X6_isSheet])) hH (lv_sub hl [1, 4, 5, 6, 0] rfl) hres
      · have hres := zif_neg c119_19 hres
        refine lv_aload_n hx hb dX6_copy_122 rfl (lv_at hl 0 rfl) ?_
        refine zgR C0 hH zK6 24 (by decide) _ zR0 rfl kF_X6_53 dX6_copy_123 ?_
        refine lv_iload hx hb dX6_copy_126 (lv_at hl 6 rfl) ?_
        refine lv_aload_n hx hb dX6_copy_128 rfl (lv_at hl 0 rfl) ?_
        refine zgR C0 hH zK6 23 (by decide) _ zR0 rfl kF_X6_49 dX6_copy_129 ?_
        refine lv_bipush (v := (40 : Int32)) hx hb dX6_copy_132 (by decide) ?_
        refine lv_iload_n hx hb dX6_copy_134 rfl (lv_at hl 1 rfl) ?_
        refine lv_imul hx hb dX6_copy_135 ?_
        refine lv_iload_n hx hb dX6_copy_136 rfl (lv_at hl 2 rfl) ?_
        refine lv_iadd hx hb dX6_copy_137 ?_
        refine lv_iload hx hb dX6_copy_138 (lv_at hl 6 rfl) ?_
        refine lv_iadd hx hb dX6_copy_140 ?_
        refine zlld C0 hH zR14 rfl (by exact zin160.mpr (by have q0 := hH.many; have q1 := hH.booked; have q2 := hH.coded; have q3 := hH.taped; have q4 := hH.here; have q5 := hH.ncode; obtain ⟨qa, qb, -⟩ := hct; clear hres; grind [f_X6_in, f_X6_isBlock, f_X6_isAhead, f_X6_isSheet])) dX6_copy_141 ?_
        refine zlst C0 hH zR15 rfl (by exact zin40.mpr (by have q0 := hH.many; have q1 := hH.booked; have q2 := hH.coded; have q3 := hH.taped; have q4 := hH.here; have q5 := hH.ncode; obtain ⟨qa, qb, -⟩ := hct; clear hres; grind [f_X6_in, f_X6_isBlock, f_X6_isAhead, f_X6_isSheet])) dX6_copy_142 (fun H locs hH => ?_)
        refine ziinc (lv' := [(6, _), (0, _), (1, _), (2, _), (3, _), (4, _), (5, _)]) (k := 6) hx hb (1 : Int32) (by decide) dX6_copy_143 hl rfl (by decide) rfl (fun ls hl => ?_)
        refine lv_goto (tgt := 115) hx hb dX6_copy_146 (by decide) ?_
        exact ih115 _ _ _ _ _ (by first | exact zCt.start (by decide) (by decide) | exact zCt.begin (by decide) (by decide) (by decide) | exact zCt.step (m := 40) hct (by first | assumption | (clear hres; grind [f_X6_in, f_X6_isBlock, f_X6_isAhead, f_X6_isSheet])) (by decide)) (by first | assumption | (have q1 := hH.longs p1.toNatClampNeg; have q3 := hH.longs p3.toNatClampNeg; clear hres; grind [f_X6_in, f_X6_isBlock, f_X6_isAhead, f_X6_isSheet])) hH (lv_sub hl [1, 2, 3, 4, 5, 6, 0] rfl) hres
  refine lv_iload_n hx hb dX6_copy_0 rfl (lv_at hl 1 rfl) ?_
  refine zcz (zrunS C0 hH (c_X6_isSheet l D cy ad _ _) kM_X6_174 kq_X6_isSheet rfl hl.1 rfl rfl rfl ⟨Nat.le_of_ble_eq_true rfl, Nat.le_of_ble_eq_true rfl⟩ (Nat.le_of_ble_eq_true rfl) dX6_copy_1) hH (fun H locs hH h01_1 => ?_)
  refine lv_if_eq (tgt := 14) hx hb dX6_copy_4 (by decide) (fun c4_3 => ?_) (fun c4_3 => ?_)
  · have hres := zif_pos c4_3 hres
    exact J14 _ _ _ _ hH (lv_sub hl [0] rfl) hres
  · have hres := zif_neg c4_3 hres
    refine lv_iload_n hx hb dX6_copy_7 rfl (lv_at hl 3 rfl) ?_
    refine zcz (zrunS C0 hH (c_X6_isSheet l D cy ad _ _) kM_X6_174 kq_X6_isSheet rfl hl.1 rfl rfl rfl ⟨Nat.le_of_ble_eq_true rfl, Nat.le_of_ble_eq_true rfl⟩ (Nat.le_of_ble_eq_true rfl) dX6_copy_8) hH (fun H locs hH h01_4 => ?_)
    refine lv_if_ne (tgt := 20) hx hb dX6_copy_11 (by decide) (fun c11_6 => ?_) (fun c11_6 => ?_)
    · have hres := zif_neg c11_6 hres
      refine lv_aload_n hx hb dX6_copy_20 rfl (lv_at hl 0 rfl) ?_
      refine zgR C0 hH zK6 21 (by decide) _ zR0 rfl kF_X6_43 dX6_copy_21 ?_
      refine lv_iload_n hx hb dX6_copy_24 rfl (lv_at hl 1 rfl) ?_
      refine zald C0 hH (zR_i (by decide) (by decide)) rfl (by exact zin4.mpr (by have q0 := hH.many; have q1 := hH.booked; have q2 := hH.coded; have q3 := hH.taped; have q4 := hH.here; have q5 := hH.ncode; clear hres; grind [f_X6_in, f_X6_isBlock, f_X6_isAhead, f_X6_isSheet])) dX6_copy_25 ?_
      refine lv_if_eq (tgt := 38) hx hb dX6_copy_26 (by decide) (fun c26_7 => ?_) (fun c26_7 => ?_)
      · have hres := zif_pos c26_7 hres
        exact J38 _ _ _ _ hH (lv_sub hl [0] rfl) hres
      · have hres := zif_neg c26_7 hres
        refine lv_aload_n hx hb dX6_copy_29 rfl (lv_at hl 0 rfl) ?_
        refine zgR C0 hH zK6 21 (by decide) _ zR0 rfl kF_X6_43 dX6_copy_30 ?_
        refine lv_iload_n hx hb dX6_copy_33 rfl (lv_at hl 3 rfl) ?_
        refine zald C0 hH (zR_i (by decide) (by decide)) rfl (by exact zin4.mpr (by have q0 := hH.many; have q1 := hH.booked; have q2 := hH.coded; have q3 := hH.taped; have q4 := hH.here; have q5 := hH.ncode; clear hres; grind [f_X6_in, f_X6_isBlock, f_X6_isAhead, f_X6_isSheet])) dX6_copy_34 ?_
        refine lv_if_ne (tgt := 44) hx hb dX6_copy_35 (by decide) (fun c35_8 => ?_) (fun c35_8 => ?_)
        · have hres := zif_neg c35_8 hres
          refine lv_aload_n hx hb dX6_copy_44 rfl (lv_at hl 0 rfl) ?_
          refine zgR C0 hH zK6 21 (by decide) _ zR0 rfl kF_X6_43 dX6_copy_45 ?_
          refine lv_iload_n hx hb dX6_copy_48 rfl (lv_at hl 1 rfl) ?_
          refine zald C0 hH (zR_i (by decide) (by decide)) rfl (by exact zin4.mpr (by have q0 := hH.many; have q1 := hH.booked; have q2 := hH.coded; have q3 := hH.taped; have q4 := hH.here; have q5 := hH.ncode; clear hres; grind [f_X6_in, f_X6_isBlock, f_X6_isAhead, f_X6_isSheet])) dX6_copy_49 ?_
          refine lv_aload_n hx hb dX6_copy_50 rfl (lv_at hl 0 rfl) ?_
          refine zgR C0 hH zK6 21 (by decide) _ zR0 rfl kF_X6_43 dX6_copy_51 ?_
          refine lv_iload_n hx hb dX6_copy_54 rfl (lv_at hl 3 rfl) ?_
          refine zald C0 hH (zR_i (by decide) (by decide)) rfl (by exact zin4.mpr (by have q0 := hH.many; have q1 := hH.booked; have q2 := hH.coded; have q3 := hH.taped; have q4 := hH.here; have q5 := hH.ncode; clear hres; grind [f_X6_in, f_X6_isBlock, f_X6_isAhead, f_X6_isSheet])) dX6_copy_55 ?_
          refine lv_icmp_eq (tgt := 65) hx hb dX6_copy_56 (by decide) (fun c56_9 => ?_) (fun c56_9 => ?_)
          · have hres := zif_pos c56_9 hres
            refine lv_iload_n hx hb dX6_copy_65 rfl (lv_at hl 2 rfl) ?_
            refine lv_if_lt (tgt := 106) hx hb dX6_copy_66 (by decide) (fun c66_10 => ?_) (fun c66_10 => ?_)
            · have hres := zif_pos c66_10 hres
              exact J106 _ _ _ _ hH (lv_sub hl [0] rfl) hres
            · have hres := zif_neg c66_10 hres
              refine lv_iload hx hb dX6_copy_69 (lv_at hl 4 rfl) ?_
              refine lv_if_lt (tgt := 106) hx hb dX6_copy_71 (by decide) (fun c71_11 => ?_) (fun c71_11 => ?_)
              · have hres := zif_pos c71_11 hres
                exact J106 _ _ _ _ hH (lv_sub hl [0] rfl) hres
              · have hres := zif_neg c71_11 hres
                refine lv_iload hx hb dX6_copy_74 (lv_at hl 5 rfl) ?_
                refine lv_if_lt (tgt := 106) hx hb dX6_copy_76 (by decide) (fun c76_12 => ?_) (fun c76_12 => ?_)
                · have hres := zif_pos c76_12 hres
                  exact J106 _ _ _ _ hH (lv_sub hl [0] rfl) hres
                · have hres := zif_neg c76_12 hres
                  refine lv_iload_n hx hb dX6_copy_79 rfl (lv_at hl 2 rfl) ?_
                  refine lv_aload_n hx hb dX6_copy_80 rfl (lv_at hl 0 rfl) ?_
                  refine zgR C0 hH zK6 22 (by decide) _ zR0 rfl kF_X6_46 dX6_copy_81 ?_
                  refine lv_iload_n hx hb dX6_copy_84 rfl (lv_at hl 1 rfl) ?_
                  refine zald C0 hH (zR_i (by decide) (by decide)) rfl (by exact zin4.mpr (by have q0 := hH.many; have q1 := hH.booked; have q2 := hH.coded; have q3 := hH.taped; have q4 := hH.here; have q5 := hH.ncode; clear hres; grind [f_X6_in, f_X6_isBlock, f_X6_isAhead, f_X6_isSheet])) dX6_copy_85 ?_
                  refine lv_iload hx hb dX6_copy_86 (lv_at hl 5 rfl) ?_
                  refine lv_isub hx hb dX6_copy_88 ?_
                  refine lv_icmp_gt (tgt := 106) hx hb dX6_copy_89 (by decide) (fun c89_13 => ?_) (fun c89_13 => ?_)
                  · have hres := zif_pos c89_13 hres
                    exact J106 _ _ _ _ hH (lv_sub hl [0] rfl) hres
                  · have hres := zif_neg c89_13 hres
                    refine lv_iload hx hb dX6_copy_92 (lv_at hl 4 rfl) ?_
                    refine lv_aload_n hx hb dX6_copy_94 rfl (lv_at hl 0 rfl) ?_
                    refine zgR C0 hH zK6 22 (by decide) _ zR0 rfl kF_X6_46 dX6_copy_95 ?_
                    refine lv_iload_n hx hb dX6_copy_98 rfl (lv_at hl 3 rfl) ?_
                    refine zald C0 hH (zR_i (by decide) (by decide)) rfl (by exact zin4.mpr (by have q0 := hH.many; have q1 := hH.booked; have q2 := hH.coded; have q3 := hH.taped; have q4 := hH.here; have q5 := hH.ncode; clear hres; grind [f_X6_in, f_X6_isBlock, f_X6_isAhead, f_X6_isSheet])) dX6_copy_99 ?_
                    refine lv_iload hx hb dX6_copy_100 (lv_at hl 5 rfl) ?_
                    refine lv_isub hx hb dX6_copy_102 ?_
                    refine lv_icmp_le (tgt := 112) hx hb dX6_copy_103 (by decide) (fun c103_14 => ?_) (fun c103_14 => ?_)
                    · have hres := zif_pos c103_14 hres
                      refine lv_iconst (v := (0 : Int32)) hx hb dX6_copy_112 (by decide) ?_
                      refine lv_istore (lv' := [(6, _), (0, _), (1, _), (2, _), (3, _), (4, _), (5, _)]) hx hb dX6_copy_113 hl (by decide) rfl (fun ls hl => ?_)
                      exact L115 (41) _ _ _ _ _ (by first | exact zCt.start (by decide) (by decide) | exact zCt.begin (by decide) (by decide) (by decide) | exact zCt.step (m := 40) hct (by first | assumption | (clear hres; grind [f_X6_in, f_X6_isBlock, f_X6_isAhead, f_X6_isSheet])) (by decide)) (by first | assumption | (have q1 := hH.longs p1.toNatClampNeg; have q3 := hH.longs p3.toNatClampNeg; clear hres; grind [f_X6_in, f_X6_isBlock, f_X6_isAhead, f_X6_isSheet])) hH (lv_sub hl [1, 2, 3, 4, 5, 6, 0] rfl) hres
                    · have hres := zif_neg c103_14 hres
                      exact J106 _ _ _ _ hH (lv_sub hl [0] rfl) hres
          · have hres := zif_neg c56_9 hres
            refine lv_aload_n hx hb dX6_copy_59 rfl (lv_at hl 0 rfl) ?_
            refine lv_iconst (v := (2 : Int32)) hx hb dX6_copy_60 (by decide) ?_
            refine zci (zrunV C0 hH (c_X6_no l D cy ad _ _ (by decide)) kM_X6_85 zK6 kq_X6_no zR0 rfl hl.1 rfl rfl rfl ⟨Nat.le_of_ble_eq_true rfl, Nat.le_of_ble_eq_true rfl⟩ (Nat.le_of_ble_eq_true rfl) dX6_copy_61) hH (fun H locs hH => ?_)
            exact zreti C0 hH dX6_copy_64 (zfst hres) (zsnd hres)
        · have hres := zif_pos c35_8 hres
          exact J38 _ _ _ _ hH (lv_sub hl [0] rfl) hres
    · have hres := zif_pos c11_6 hres
      exact J14 _ _ _ _ hH (lv_sub hl [0] rfl) hres
set_option maxRecDepth 100000 in
set_option maxHeartbeats 4000000 in
theorem c_X6_read (l : Launch) (D : va_G) (cy : Nat → ClassId) (ad : Nat → Nat) (M : zM) (p1 : Int32) : Met l yX6_read (Cond.code yX6_read cX6_read 3 (some .int) :: zG) ({ frames := 2, cells := 0, slots := 0, locals := 43 }) (zP D lyR cy ad [.ref (ad 0), .int p1] M) (zQi D lyR cy ad (f_X6_read p1 M).1 (f_X6_read p1 M).2) 0 0 (zA lyR ad) := by
  generalize hres : (f_X6_read p1 M) = res
  refine zMet (by decide) (Nat.le_of_ble_eq_true rfl) ?_
  intro p e s m args below meth c ls C0 hH hl
  obtain ⟨⟨hx, hb, hml, hown, hts⟩, -⟩ := id C0
  have hz : ∀ w ∈ zG, w.before args s = true := fun w h => hts w (List.mem_cons_of_mem _ h)
  have hl : lv_has ls 3 [(0, .ref (ad 0)), (1, .int p1)] := hl
  have g0 := hH.many
  have L30 : ∀ (n30 : Nat), ∀ (v2 : Int32) (mm : zM) (H : Heap) (locs : List Loc) (ls : Array Slot), (zCt 40 n30 v2) → (0 ≤ p1 ∧ p1 < 4) → zH D lyR cy ad s.heap mm H locs → lv_has ls 3 [(0, .ref (ad 0)), (1, .int p1), (2, .int v2)] → f_X6_read_30 p1 n30 v2 mm = res → W p l e { frames := 2, cells := 0, slots := 0, locals := 43 } s m args below meth c H locs 0 0 (MQ below (zQi D lyR cy ad res.1 res.2) args s 0 0 (zA lyR ad)) (F0 m 30 ls []) := by
    intro n30
    induction n30 with
    | zero =>
      intro v2 mm H locs ls hct hs hH hl hres
      exfalso; exact hct.zero
    | succ n30 ih30 =>
      intro v2 mm H locs ls hct hs hH hl hres
      have g0 := hH.longs p1.toNatClampNeg
      refine lv_iload_n hx hb dX6_read_30 rfl (lv_at hl 2 rfl) ?_
      refine lv_aload_n hx hb dX6_read_31 rfl (lv_at hl 0 rfl) ?_
      refine zgR C0 hH zK6 22 (by decide) _ zR0 rfl kF_X6_46 dX6_read_32 ?_
      refine lv_iload_n hx hb dX6_read_35 rfl (lv_at hl 1 rfl) ?_
      refine zald C0 hH (zR_i (by decide) (by decide)) rfl (by exact zin4.mpr (by have q0 := hH.many; have q1 := hH.booked; have q2 := hH.coded; have q3 := hH.taped; have q4 := hH.here; have q5 := hH.ncode; obtain ⟨qa, qb, -⟩ := hct; clear hres; grind [f_X6_in, f_X6_isBlock, f_X6_isAhead, f_X6_isSheet])) dX6_read_36 ?_
      refine lv_icmp_ge (tgt := 80) hx hb dX6_read_37 (by decide) (fun c37_7 => ?_) (fun c37_7 => ?_)
      · have hres := zif_pos c37_7 hres
        refine lv_iconst (v := (0 : Int32)) hx hb dX6_read_80 (by decide) ?_
        exact zreti C0 hH dX6_read_81 (zfst hres) (zsnd hres)
      · have hres := zif_neg c37_7 hres
        refine lv_aload_n hx hb dX6_read_40 rfl (lv_at hl 0 rfl) ?_
        refine lv_iload_n hx hb dX6_read_41 rfl (lv_at hl 2 rfl) ?_
        refine zcz (zrunV C0 hH (c_X6_isBlock l D cy ad _ _) kM_X6_92 zK6 kq_X6_isBlock zR0 rfl hl.1 rfl rfl rfl ⟨Nat.le_of_ble_eq_true rfl, Nat.le_of_ble_eq_true rfl⟩ (Nat.le_of_ble_eq_true rfl) dX6_read_42) hH (fun H locs hH h01_8 => ?_)
        refine lv_if_eq (tgt := 70) hx hb dX6_read_45 (by decide) (fun c45_10 => ?_) (fun c45_10 => ?_)
        · have hres := zif_pos c45_10 hres
          refine lv_iconst (v := (1 : Int32)) hx hb dX6_read_70 (by decide) ?_
          refine lv_iload_n hx hb dX6_read_71 rfl (lv_at hl 2 rfl) ?_
          refine lv_iadd hx hb dX6_read_72 ?_
          exact zreti C0 hH dX6_read_73 (zfst hres) (zsnd hres)
        · have hres := zif_neg c45_10 hres
          refine lv_aload_n hx hb dX6_read_48 rfl (lv_at hl 0 rfl) ?_
          refine zgR C0 hH zK6 23 (by decide) _ zR0 rfl kF_X6_49 dX6_read_49 ?_
          refine lv_bipush (v := (40 : Int32)) hx hb dX6_read_52 (by decide) ?_
          refine lv_iload_n hx hb dX6_read_54 rfl (lv_at hl 1 rfl) ?_
          refine lv_imul hx hb dX6_read_55 ?_
          refine lv_iload_n hx hb dX6_read_56 rfl (lv_at hl 2 rfl) ?_
          refine lv_iadd hx hb dX6_read_57 ?_
          refine zlld C0 hH zR14 rfl (by exact zin160.mpr (by have q0 := hH.many; have q1 := hH.booked; have q2 := hH.coded; have q3 := hH.taped; have q4 := hH.here; have q5 := hH.ncode; obtain ⟨qa, qb, -⟩ := hct; clear hres; grind [f_X6_in, f_X6_isBlock, f_X6_isAhead, f_X6_isSheet])) dX6_read_58 ?_
          refine lv_aload_n hx hb dX6_read_59 rfl (lv_at hl 0 rfl) ?_
          refine lv_iload_n hx hb dX6_read_60 rfl (lv_at hl 2 rfl) ?_
          refine lv_iconst (v := (5 : Int32)) hx hb dX6_read_61 (by decide) ?_
          refine zci (zrunV C0 hH (c_X6_at l D cy ad _ _ _ (by first | assumption | (have q0 := hH.many; (try obtain ⟨qa, qb, -⟩ := hct); clear hres; grind [f_X6_in, f_X6_isBlock, f_X6_isAhead, f_X6_isSheet])) (by first | decide | assumption | (clear hres; grind [f_X6_in, f_X6_isBlock, f_X6_isAhead, f_X6_isSheet]))) kM_X6_61 zK6 kq_X6_at zR0 rfl hl.1 rfl rfl rfl ⟨Nat.le_of_ble_eq_true rfl, Nat.le_of_ble_eq_true rfl⟩ (Nat.le_of_ble_eq_true rfl) dX6_read_62) hH (fun H locs hH => ?_)
          refine lv_i2l hx hb dX6_read_65 rfl ?_
          refine W.lcmp hx hb dX6_read_66 ?_
          refine lv_if_eq (tgt := 74) hx hb dX6_read_67 (by decide) (fun c67_12 => ?_) (fun c67_12 => ?_)
          · have hres := zif_pos c67_12 hres
            refine ziinc (lv' := [(2, _), (0, _), (1, _)]) (k := 2) hx hb (1 : Int32) (by decide) dX6_read_74 hl rfl (by decide) rfl (fun ls hl => ?_)
            refine lv_goto (tgt := 30) hx hb dX6_read_77 (by decide) ?_
            exact ih30 _ _ _ _ _ (by first | exact zCt.start (by decide) (by decide) | exact zCt.begin (by decide) (by decide) (by decide) | exact zCt.step (m := 40) hct (by first | assumption | (clear hres; grind [f_X6_in, f_X6_isBlock, f_X6_isAhead, f_X6_isSheet])) (by decide)) (by first | assumption | (clear hres; grind [f_X6_in, f_X6_isBlock, f_X6_isAhead, f_X6_isSheet])) hH (lv_sub hl [1, 2, 0] rfl) hres
          · have hres := zif_neg c67_12 hres
            refine lv_iconst (v := (1 : Int32)) hx hb dX6_read_70 (by decide) ?_
            refine lv_iload_n hx hb dX6_read_71 rfl (lv_at hl 2 rfl) ?_
            refine lv_iadd hx hb dX6_read_72 ?_
            exact zreti C0 hH dX6_read_73 (zfst hres) (zsnd hres)
  refine lv_iload_n hx hb dX6_read_0 rfl (lv_at hl 1 rfl) ?_
  refine zcz (zrunS C0 hH (c_X6_isSheet l D cy ad _ _) kM_X6_174 kq_X6_isSheet rfl hl.1 rfl rfl rfl ⟨Nat.le_of_ble_eq_true rfl, Nat.le_of_ble_eq_true rfl⟩ (Nat.le_of_ble_eq_true rfl) dX6_read_1) hH (fun H locs hH h01_1 => ?_)
  refine lv_if_ne (tgt := 13) hx hb dX6_read_4 (by decide) (fun c4_3 => ?_) (fun c4_3 => ?_)
  · have hres := zif_neg c4_3 hres
    refine lv_aload_n hx hb dX6_read_13 rfl (lv_at hl 0 rfl) ?_
    refine zgR C0 hH zK6 21 (by decide) _ zR0 rfl kF_X6_43 dX6_read_14 ?_
    refine lv_iload_n hx hb dX6_read_17 rfl (lv_at hl 1 rfl) ?_
    refine zald C0 hH (zR_i (by decide) (by decide)) rfl (by exact zin4.mpr (by have q0 := hH.many; have q1 := hH.booked; have q2 := hH.coded; have q3 := hH.taped; have q4 := hH.here; have q5 := hH.ncode; clear hres; grind [f_X6_in, f_X6_isBlock, f_X6_isAhead, f_X6_isSheet])) dX6_read_18 ?_
    refine lv_if_ne (tgt := 28) hx hb dX6_read_19 (by decide) (fun c19_4 => ?_) (fun c19_4 => ?_)
    · have hres := zif_neg c19_4 hres
      refine lv_iconst (v := (0 : Int32)) hx hb dX6_read_28 (by decide) ?_
      refine lv_istore_n (lv' := [(2, _), (0, _), (1, _)]) hx hb dX6_read_29 rfl hl (by decide) rfl (fun ls hl => ?_)
      exact L30 (41) _ _ _ _ _ (by first | exact zCt.start (by decide) (by decide) | exact zCt.begin (by decide) (by decide) (by decide) | exact zCt.step (m := 40) hct (by first | assumption | (clear hres; grind [f_X6_in, f_X6_isBlock, f_X6_isAhead, f_X6_isSheet])) (by decide)) (by first | assumption | (clear hres; grind [f_X6_in, f_X6_isBlock, f_X6_isAhead, f_X6_isSheet])) hH (lv_sub hl [1, 2, 0] rfl) hres
    · have hres := zif_pos c19_4 hres
      refine lv_aload_n hx hb dX6_read_22 rfl (lv_at hl 0 rfl) ?_
      refine lv_iconst (v := (5 : Int32)) hx hb dX6_read_23 (by decide) ?_
      refine zci (zrunV C0 hH (c_X6_no l D cy ad _ _ (by decide)) kM_X6_85 zK6 kq_X6_no zR0 rfl hl.1 rfl rfl rfl ⟨Nat.le_of_ble_eq_true rfl, Nat.le_of_ble_eq_true rfl⟩ (Nat.le_of_ble_eq_true rfl) dX6_read_24) hH (fun H locs hH => ?_)
      exact zreti C0 hH dX6_read_27 (zfst hres) (zsnd hres)
  · have hres := zif_pos c4_3 hres
    refine lv_aload_n hx hb dX6_read_7 rfl (lv_at hl 0 rfl) ?_
    refine lv_iconst (v := (0 : Int32)) hx hb dX6_read_8 (by decide) ?_
    refine zci (zrunV C0 hH (c_X6_no l D cy ad _ _ (by decide)) kM_X6_85 zK6 kq_X6_no zR0 rfl hl.1 rfl rfl rfl ⟨Nat.le_of_ble_eq_true rfl, Nat.le_of_ble_eq_true rfl⟩ (Nat.le_of_ble_eq_true rfl) dX6_read_9) hH (fun H locs hH => ?_)
    exact zreti C0 hH dX6_read_12 (zfst hres) (zsnd hres)
set_option maxRecDepth 100000 in
set_option maxHeartbeats 4000000 in
theorem c_X6_image (l : Launch) (D : va_G) (cy : Nat → ClassId) (ad : Nat → Nat) (M : zM) : Met l yX6_image (Cond.code yX6_image cX6_image 1 (some .int) :: zG) ({ frames := 1, cells := 0, slots := 0, locals := 22 }) (zP D lyR cy ad [.ref (ad 0)] M) (zQi D lyR cy ad (f_X6_image M).1 (f_X6_image M).2) 0 0 (zA lyR ad) := by
  generalize hres : (f_X6_image M) = res
  refine zMet (by decide) (Nat.le_of_ble_eq_true rfl) ?_
  intro p e s m args below meth c ls C0 hH hl
  obtain ⟨⟨hx, hb, hml, hown, hts⟩, -⟩ := id C0
  have hz : ∀ w ∈ zG, w.before args s = true := fun w h => hts w (List.mem_cons_of_mem _ h)
  have hl : lv_has ls 1 [(0, .ref (ad 0))] := hl
  have g0 := hH.many
  refine lv_aload_n hx hb dX6_image_0 rfl (lv_at hl 0 rfl) ?_
  refine zgR C0 hH zK6 0 (by decide) _ zR0 rfl kF_X6_9 dX6_image_1 ?_
  refine lv_aload_n hx hb dX6_image_4 rfl (lv_at hl 0 rfl) ?_
  refine zgR C0 hH zK6 1 (by decide) _ zR0 rfl kF_X6_13 dX6_image_5 ?_
  refine zcv (zrunS C0 hH (c_X6_lay l D cy ad _ _ zS31 _ zS32) kM_X6_149 kq_X6_lay rfl hl.1 rfl rfl rfl ⟨Nat.le_of_ble_eq_true rfl, Nat.le_of_ble_eq_true rfl⟩ (Nat.le_of_ble_eq_true rfl) dX6_image_8) hH (fun H locs hH => ?_)
  refine lv_aload_n hx hb dX6_image_11 rfl (lv_at hl 0 rfl) ?_
  refine lv_iconst (v := (1 : Int32)) hx hb dX6_image_12 (by decide) ?_
  refine zp C0 hH zK6 3 (by decide) zR0 rfl rfl (zOk_01 (by first | exact Or.inl rfl | exact Or.inr rfl | assumption)) zcn kF_X6_242 dX6_image_13 (fun H locs hH => ?_)
  refine lv_iconst (v := (1 : Int32)) hx hb dX6_image_16 (by decide) ?_
  exact zreti C0 hH dX6_image_17 (zfst hres) (zsnd hres)
set_option maxRecDepth 100000 in
set_option maxHeartbeats 4000000 in
theorem c_X6_undo (l : Launch) (D : va_G) (cy : Nat → ClassId) (ad : Nat → Nat) (M : zM) : Met l yX6_undo (Cond.code yX6_undo cX6_undo 1 (some .int) :: zG) ({ frames := 1, cells := 0, slots := 0, locals := 22 }) (zP D lyR cy ad [.ref (ad 0)] M) (zQi D lyR cy ad (f_X6_undo M).1 (f_X6_undo M).2) 0 0 (zA lyR ad) := by
  generalize hres : (f_X6_undo M) = res
  refine zMet (by decide) (Nat.le_of_ble_eq_true rfl) ?_
  intro p e s m args below meth c ls C0 hH hl
  obtain ⟨⟨hx, hb, hml, hown, hts⟩, -⟩ := id C0
  have hz : ∀ w ∈ zG, w.before args s = true := fun w h => hts w (List.mem_cons_of_mem _ h)
  have hl : lv_has ls 1 [(0, .ref (ad 0))] := hl
  have g0 := hH.many
  refine lv_aload_n hx hb dX6_undo_0 rfl (lv_at hl 0 rfl) ?_
  refine zgI C0 hH zK6 3 (by decide) zR0 rfl kF_X6_242 dX6_undo_1 ?_
  refine lv_if_ne (tgt := 13) hx hb dX6_undo_4 (by decide) (fun c4_1 => ?_) (fun c4_1 => ?_)
  · have hres := zif_neg c4_1 hres
    refine lv_aload_n hx hb dX6_undo_13 rfl (lv_at hl 0 rfl) ?_
    refine zgR C0 hH zK6 1 (by decide) _ zR0 rfl kF_X6_13 dX6_undo_14 ?_
    refine lv_aload_n hx hb dX6_undo_17 rfl (lv_at hl 0 rfl) ?_
    refine zgR C0 hH zK6 0 (by decide) _ zR0 rfl kF_X6_9 dX6_undo_18 ?_
    refine zcv (zrunS C0 hH (c_X6_lay l D cy ad _ _ zS32 _ zS31) kM_X6_149 kq_X6_lay rfl hl.1 rfl rfl rfl ⟨Nat.le_of_ble_eq_true rfl, Nat.le_of_ble_eq_true rfl⟩ (Nat.le_of_ble_eq_true rfl) dX6_undo_21) hH (fun H locs hH => ?_)
    refine lv_aload_n hx hb dX6_undo_24 rfl (lv_at hl 0 rfl) ?_
    refine zgR C0 hH zK6 0 (by decide) _ zR0 rfl kF_X6_9 dX6_undo_25 ?_
    refine lv_iconst (v := (0 : Int32)) hx hb dX6_undo_28 (by decide) ?_
    refine zaldK C0 hH zS31.is zS31.ln (k := 0) (by decide) (by unfold vp_in; decide) dX6_undo_29 ?_
    exact zreti C0 hH dX6_undo_30 (zfst hres) (zsnd hres)
  · have hres := zif_pos c4_1 hres
    refine lv_aload_n hx hb dX6_undo_7 rfl (lv_at hl 0 rfl) ?_
    refine lv_iconst (v := (3 : Int32)) hx hb dX6_undo_8 (by decide) ?_
    refine zci (zrunV C0 hH (c_X6_no l D cy ad _ _ (by decide)) kM_X6_85 zK6 kq_X6_no zR0 rfl hl.1 rfl rfl rfl ⟨Nat.le_of_ble_eq_true rfl, Nat.le_of_ble_eq_true rfl⟩ (Nat.le_of_ble_eq_true rfl) dX6_undo_9) hH (fun H locs hH => ?_)
    exact zreti C0 hH dX6_undo_12 (zfst hres) (zsnd hres)
set_option maxRecDepth 100000 in
set_option maxHeartbeats 4000000 in
theorem c_X6_tear (l : Launch) (D : va_G) (cy : Nat → ClassId) (ad : Nat → Nat) (M : zM) : Met l yX6_tear (Cond.code yX6_tear cX6_tear 2 (some .int) :: zG) ({ frames := 0, cells := 0, slots := 0, locals := 0 }) (zP D lyR cy ad [.ref (ad 0)] M) (zQi D lyR cy ad (f_X6_tear M).1 (f_X6_tear M).2) 0 0 (zA lyR ad) := by
  generalize hres : (f_X6_tear M) = res
  refine zMet (by decide) (Nat.le_of_ble_eq_true rfl) ?_
  intro p e s m args below meth c ls C0 hH hl
  obtain ⟨⟨hx, hb, hml, hown, hts⟩, -⟩ := id C0
  have hz : ∀ w ∈ zG, w.before args s = true := fun w h => hts w (List.mem_cons_of_mem _ h)
  have hl : lv_has ls 2 [(0, .ref (ad 0))] := hl
  have g0 := hH.many
  refine lv_aload_n hx hb dX6_tear_0 rfl (lv_at hl 0 rfl) ?_
  refine zgI C0 hH zK6 3 (by decide) zR0 rfl kF_X6_242 dX6_tear_1 ?_
  refine lv_if_eq (tgt := 11) hx hb dX6_tear_4 (by decide) (fun c4_1 => ?_) (fun c4_1 => ?_)
  · have hres := zif_pos c4_1 hres
    refine lv_iconst (v := (0 : Int32)) hx hb dX6_tear_11 (by decide) ?_
    refine lv_istore_n (lv' := [(1, _), (0, _)]) hx hb dX6_tear_12 rfl hl (by decide) rfl (fun ls hl => ?_)
    refine lv_aload_n hx hb dX6_tear_13 rfl (lv_at hl 1 rfl) ?_
    refine lv_iconst (v := (0 : Int32)) hx hb dX6_tear_14 (by decide) ?_
    refine zp C0 hH zK6 3 (by decide) zR0 rfl rfl (zOk_01 (by first | exact Or.inl rfl | exact Or.inr rfl | assumption)) zcn kF_X6_242 dX6_tear_15 (fun H locs hH => ?_)
    refine lv_iload_n hx hb dX6_tear_18 rfl (lv_at hl 0 rfl) ?_
    exact zreti C0 hH dX6_tear_19 (zfst hres) (zsnd hres)
  · have hres := zif_neg c4_1 hres
    refine lv_iconst (v := (1 : Int32)) hx hb dX6_tear_7 (by decide) ?_
    refine lv_goto (tgt := 12) hx hb dX6_tear_8 (by decide) ?_
    refine lv_istore_n (lv' := [(1, _), (0, _)]) hx hb dX6_tear_12 rfl hl (by decide) rfl (fun ls hl => ?_)
    refine lv_aload_n hx hb dX6_tear_13 rfl (lv_at hl 1 rfl) ?_
    refine lv_iconst (v := (0 : Int32)) hx hb dX6_tear_14 (by decide) ?_
    refine zp C0 hH zK6 3 (by decide) zR0 rfl rfl (zOk_01 (by first | exact Or.inl rfl | exact Or.inr rfl | assumption)) zcn kF_X6_242 dX6_tear_15 (fun H locs hH => ?_)
    refine lv_iload_n hx hb dX6_tear_18 rfl (lv_at hl 0 rfl) ?_
    exact zreti C0 hH dX6_tear_19 (zfst hres) (zsnd hres)
set_option maxRecDepth 100000 in
set_option maxHeartbeats 4000000 in
theorem c_X6_count (l : Launch) (D : va_G) (cy : Nat → ClassId) (ad : Nat → Nat) (M : zM) (p1 : Int32) : Met l yX6_count (Cond.code yX6_count cX6_count 2 (some .int) :: zG) ({ frames := 1, cells := 0, slots := 0, locals := 21 }) (zP D lyR cy ad [.ref (ad 0), .int p1] M) (zQi D lyR cy ad (f_X6_count p1 M).1 (f_X6_count p1 M).2) 0 0 (zA lyR ad) := by
  generalize hres : (f_X6_count p1 M) = res
  refine zMet (by decide) (Nat.le_of_ble_eq_true rfl) ?_
  intro p e s m args below meth c ls C0 hH hl
  obtain ⟨⟨hx, hb, hml, hown, hts⟩, -⟩ := id C0
  have hz : ∀ w ∈ zG, w.before args s = true := fun w h => hts w (List.mem_cons_of_mem _ h)
  have hl : lv_has ls 2 [(0, .ref (ad 0)), (1, .int p1)] := hl
  have g0 := hH.many
  refine lv_iload_n hx hb dX6_count_0 rfl (lv_at hl 1 rfl) ?_
  refine zcase hres (fun c1_1_0 hres => ?_) (fun c1_1_0 hres => ?_)
  · refine ztab (tgt := 48) hx hb c1_1_0 dX6_count_1 (by decide) (by decide) rfl (by decide) ?_
    refine lv_aload_n hx hb dX6_count_48 rfl (lv_at hl 0 rfl) ?_
    refine zgR C0 hH zK6 0 (by decide) _ zR0 rfl kF_X6_9 dX6_count_49 ?_
    refine lv_iconst (v := (0 : Int32)) hx hb dX6_count_52 (by decide) ?_
    refine zaldK C0 hH zS31.is zS31.ln (k := 0) (by decide) (by unfold vp_in; decide) dX6_count_53 ?_
    exact zreti C0 hH dX6_count_54 (zfst hres) (zsnd hres)
  · skip
    refine zcase hres (fun c1_1_1 hres => ?_) (fun c1_1_1 hres => ?_)
    · refine ztab (tgt := 55) hx hb c1_1_1 dX6_count_1 (by decide) (by decide) rfl (by decide) ?_
      refine lv_aload_n hx hb dX6_count_55 rfl (lv_at hl 0 rfl) ?_
      refine zgR C0 hH zK6 0 (by decide) _ zR0 rfl kF_X6_9 dX6_count_56 ?_
      refine lv_iconst (v := (3 : Int32)) hx hb dX6_count_59 (by decide) ?_
      refine zaldK C0 hH zS31.is zS31.ln (k := 3) (by decide) (by unfold vp_in; decide) dX6_count_60 ?_
      exact zreti C0 hH dX6_count_61 (zfst hres) (zsnd hres)
    · skip
      refine zcase hres (fun c1_1_2 hres => ?_) (fun c1_1_2 hres => ?_)
      · refine ztab (tgt := 62) hx hb c1_1_2 dX6_count_1 (by decide) (by decide) rfl (by decide) ?_
        refine lv_aload_n hx hb dX6_count_62 rfl (lv_at hl 0 rfl) ?_
        refine zgR C0 hH zK6 0 (by decide) _ zR0 rfl kF_X6_9 dX6_count_63 ?_
        refine lv_iconst (v := (4 : Int32)) hx hb dX6_count_66 (by decide) ?_
        refine zaldK C0 hH zS31.is zS31.ln (k := 4) (by decide) (by unfold vp_in; decide) dX6_count_67 ?_
        exact zreti C0 hH dX6_count_68 (zfst hres) (zsnd hres)
      · skip
        refine zcase hres (fun c1_1_3 hres => ?_) (fun c1_1_3 hres => ?_)
        · refine ztab (tgt := 69) hx hb c1_1_3 dX6_count_1 (by decide) (by decide) rfl (by decide) ?_
          refine lv_aload_n hx hb dX6_count_69 rfl (lv_at hl 0 rfl) ?_
          refine zgR C0 hH zK6 0 (by decide) _ zR0 rfl kF_X6_9 dX6_count_70 ?_
          refine lv_iconst (v := (5 : Int32)) hx hb dX6_count_73 (by decide) ?_
          refine zaldK C0 hH zS31.is zS31.ln (k := 5) (by decide) (by unfold vp_in; decide) dX6_count_74 ?_
          refine lv_if_ge (tgt := 82) hx hb dX6_count_75 (by decide) (fun c75_2 => ?_) (fun c75_2 => ?_)
          · have hres := zif_pos c75_2 hres
            refine lv_iconst (v := (1 : Int32)) hx hb dX6_count_82 (by decide) ?_
            exact zreti C0 hH dX6_count_83 (zfst hres) (zsnd hres)
          · have hres := zif_neg c75_2 hres
            refine lv_iconst (v := (0 : Int32)) hx hb dX6_count_78 (by decide) ?_
            refine lv_goto (tgt := 83) hx hb dX6_count_79 (by decide) ?_
            exact zreti C0 hH dX6_count_83 (zfst hres) (zsnd hres)
        · skip
          refine zcase hres (fun c1_1_4 hres => ?_) (fun c1_1_4 hres => ?_)
          · refine ztab (tgt := 84) hx hb c1_1_4 dX6_count_1 (by decide) (by decide) rfl (by decide) ?_
            refine lv_aload_n hx hb dX6_count_84 rfl (lv_at hl 0 rfl) ?_
            refine zgI C0 hH zK6 5 (by decide) zR0 rfl kF_X6_183 dX6_count_85 ?_
            exact zreti C0 hH dX6_count_88 (zfst hres) (zsnd hres)
          · skip
            refine zcase hres (fun c1_1_5 hres => ?_) (fun c1_1_5 hres => ?_)
            · refine ztab (tgt := 89) hx hb c1_1_5 dX6_count_1 (by decide) (by decide) rfl (by decide) ?_
              refine lv_aload_n hx hb dX6_count_89 rfl (lv_at hl 0 rfl) ?_
              refine zgR C0 hH zK6 0 (by decide) _ zR0 rfl kF_X6_9 dX6_count_90 ?_
              refine lv_iconst (v := (2 : Int32)) hx hb dX6_count_93 (by decide) ?_
              refine zaldK C0 hH zS31.is zS31.ln (k := 2) (by decide) (by unfold vp_in; decide) dX6_count_94 ?_
              exact zreti C0 hH dX6_count_95 (zfst hres) (zsnd hres)
            · skip
              refine zcase hres (fun c1_1_6 hres => ?_) (fun c1_1_6 hres => ?_)
              · refine ztab (tgt := 96) hx hb c1_1_6 dX6_count_1 (by decide) (by decide) rfl (by decide) ?_
                refine lv_aload_n hx hb dX6_count_96 rfl (lv_at hl 0 rfl) ?_
                refine zgR C0 hH zK6 0 (by decide) _ zR0 rfl kF_X6_9 dX6_count_97 ?_
                refine lv_iconst (v := (1 : Int32)) hx hb dX6_count_100 (by decide) ?_
                refine zaldK C0 hH zS31.is zS31.ln (k := 1) (by decide) (by unfold vp_in; decide) dX6_count_101 ?_
                exact zreti C0 hH dX6_count_102 (zfst hres) (zsnd hres)
              · skip
                refine zcase hres (fun c1_1_7 hres => ?_) (fun c1_1_7 hres => ?_)
                · refine ztab (tgt := 103) hx hb c1_1_7 dX6_count_1 (by decide) (by decide) rfl (by decide) ?_
                  refine lv_aload_n hx hb dX6_count_103 rfl (lv_at hl 0 rfl) ?_
                  refine zgR C0 hH zK6 0 (by decide) _ zR0 rfl kF_X6_9 dX6_count_104 ?_
                  refine lv_bipush (v := (13 : Int32)) hx hb dX6_count_107 (by decide) ?_
                  refine zaldK C0 hH zS31.is zS31.ln (k := 13) (by decide) (by unfold vp_in; decide) dX6_count_109 ?_
                  exact zreti C0 hH dX6_count_110 (zfst hres) (zsnd hres)
                · skip
                  refine ztabD (tgt := 111) hx hb [(0 : Int32), (1 : Int32), (2 : Int32), (3 : Int32), (4 : Int32), (5 : Int32), (6 : Int32), (7 : Int32)] (List.forall_mem_cons.mpr ⟨c1_1_0, (List.forall_mem_cons.mpr ⟨c1_1_1, (List.forall_mem_cons.mpr ⟨c1_1_2, (List.forall_mem_cons.mpr ⟨c1_1_3, (List.forall_mem_cons.mpr ⟨c1_1_4, (List.forall_mem_cons.mpr ⟨c1_1_5, (List.forall_mem_cons.mpr ⟨c1_1_6, (List.forall_mem_cons.mpr ⟨c1_1_7, (fun _ h => absurd h List.not_mem_nil)⟩)⟩)⟩)⟩)⟩)⟩)⟩)⟩) dX6_count_1 (by decide) (by decide) (by decide) ?_
                  refine lv_aload_n hx hb dX6_count_111 rfl (lv_at hl 0 rfl) ?_
                  refine lv_iconst (v := (0 : Int32)) hx hb dX6_count_112 (by decide) ?_
                  refine zci (zrunV C0 hH (c_X6_no l D cy ad _ _ (by decide)) kM_X6_85 zK6 kq_X6_no zR0 rfl hl.1 rfl rfl rfl ⟨Nat.le_of_ble_eq_true rfl, Nat.le_of_ble_eq_true rfl⟩ (Nat.le_of_ble_eq_true rfl) dX6_count_113) hH (fun H locs hH => ?_)
                  exact zreti C0 hH dX6_count_116 (zfst hres) (zsnd hres)
set_option maxRecDepth 100000 in
set_option maxHeartbeats 4000000 in
theorem c_X6_status (l : Launch) (D : va_G) (cy : Nat → ClassId) (ad : Nat → Nat) (M : zM) (p1 : Int32) : Met l yX6_status (Cond.code yX6_status cX6_status 4 (some .int) :: zG) ({ frames := 1, cells := 0, slots := 0, locals := 22 }) (zP D lyR cy ad [.ref (ad 0), .int p1] M) (zQi D lyR cy ad (f_X6_status p1 M).1 (f_X6_status p1 M).2) 0 0 (zA lyR ad) := by
  generalize hres : (f_X6_status p1 M) = res
  refine zMet (by decide) (Nat.le_of_ble_eq_true rfl) ?_
  intro p e s m args below meth c ls C0 hH hl
  obtain ⟨⟨hx, hb, hml, hown, hts⟩, -⟩ := id C0
  have hz : ∀ w ∈ zG, w.before args s = true := fun w h => hts w (List.mem_cons_of_mem _ h)
  have hl : lv_has ls 4 [(0, .ref (ad 0)), (1, .int p1)] := hl
  have g0 := hH.many
  have L20 : ∀ (n20 : Nat), ∀ (v2 : Int32) (v3 : Int32) (mm : zM) (H : Heap) (locs : List Loc) (ls : Array Slot), (zCt 7 n20 v3) → zH D lyR cy ad s.heap mm H locs → lv_has ls 4 [(0, .ref (ad 0)), (1, .int p1), (2, .int v2), (3, .int v3)] → f_X6_status_20 p1 n20 v2 v3 mm = res → W p l e { frames := 1, cells := 0, slots := 0, locals := 22 } s m args below meth c H locs 0 0 (MQ below (zQi D lyR cy ad res.1 res.2) args s 0 0 (zA lyR ad)) (F0 m 20 ls []) := by
    intro n20
    induction n20 with
    | zero =>
      intro v2 v3 mm H locs ls hct hH hl hres
      exfalso; exact hct.zero
    | succ n20 ih20 =>
      have J36 : ∀ (v3 : Int32) (s0 : Int32) (mm : zM) (H : Heap) (locs : List Loc) (ls : Array Slot), (zCt 7 (n20 + 1) v3) → (v3 < 7) → zH D lyR cy ad s.heap mm H locs → lv_has ls 4 [(0, .ref (ad 0)), (1, .int p1), (3, .int v3)] → f_X6_status_36 p1 (fun wv2 wv3 wmm => f_X6_status_20 p1 n20 wv2 wv3 wmm) v3 s0 mm = res → W p l e { frames := 1, cells := 0, slots := 0, locals := 22 } s m args below meth c H locs 0 0 (MQ below (zQi D lyR cy ad res.1 res.2) args s 0 0 (zA lyR ad)) (F0 m 36 ls [.int s0]) := by
        intro v3 s0 mm H locs ls hct hv hH hl hres
        refine lv_aload_n hx hb dX6_status_36 rfl (lv_at hl 0 rfl) ?_
        refine zgR C0 hH zK6 6 (by decide) _ zR0 rfl kF_X6_22 dX6_status_37 ?_
        refine lv_iload_n hx hb dX6_status_40 rfl (lv_at hl 2 rfl) ?_
        refine zald C0 hH (zR_i (by decide) (by decide)) rfl (by exact zin7.mpr (by have q0 := hH.many; have q1 := hH.booked; have q2 := hH.coded; have q3 := hH.taped; have q4 := hH.here; have q5 := hH.ncode; obtain ⟨qa, qb, -⟩ := hct; clear hres; grind [f_X6_in, f_X6_isBlock, f_X6_isAhead, f_X6_isSheet])) dX6_status_41 ?_
        refine lv_goto (tgt := 46) hx hb dX6_status_42 (by decide) ?_
        refine lv_iadd hx hb dX6_status_46 ?_
        refine lv_istore_n (lv' := [(2, _), (0, _), (1, _), (3, _)]) hx hb dX6_status_47 rfl hl (by decide) rfl (fun ls hl => ?_)
        refine ziinc (lv' := [(3, _), (2, _), (0, _), (1, _)]) (k := 3) hx hb (1 : Int32) (by decide) dX6_status_48 hl rfl (by decide) rfl (fun ls hl => ?_)
        refine lv_goto (tgt := 20) hx hb dX6_status_51 (by decide) ?_
        exact ih20 _ _ _ _ _ _ (by first | exact zCt.start (by decide) (by decide) | exact zCt.begin (by decide) (by decide) (by decide) | exact zCt.step (m := 7) hct (by first | assumption | (clear hres; grind [f_X6_in, f_X6_isBlock, f_X6_isAhead, f_X6_isSheet])) (by decide)) hH (lv_sub hl [2, 3, 1, 0] rfl) hres
      intro v2 v3 mm H locs ls hct hH hl hres
      refine lv_iload_n hx hb dX6_status_20 rfl (lv_at hl 3 rfl) ?_
      refine lv_bipush (v := (7 : Int32)) hx hb dX6_status_21 (by decide) ?_
      refine lv_icmp_ge (tgt := 54) hx hb dX6_status_23 (by decide) (fun c23_5 => ?_) (fun c23_5 => ?_)
      · have hres := zif_pos c23_5 hres
        refine lv_iload_n hx hb dX6_status_54 rfl (lv_at hl 2 rfl) ?_
        exact zreti C0 hH dX6_status_55 (zfst hres) (zsnd hres)
      · have hres := zif_neg c23_5 hres
        refine lv_iload_n hx hb dX6_status_26 rfl (lv_at hl 2 rfl) ?_
        refine lv_iload_n hx hb dX6_status_27 rfl (lv_at hl 1 rfl) ?_
        refine lv_if_lt (tgt := 36) hx hb dX6_status_28 (by decide) (fun c28_6 => ?_) (fun c28_6 => ?_)
        · have hres := zif_pos c28_6 hres
          exact J36 _ _ _ _ _ _ (by assumption) (by first | assumption | (clear hres; grind [f_X6_in, f_X6_isBlock, f_X6_isAhead, f_X6_isSheet])) hH (lv_sub hl [0, 1, 3] rfl) hres
        · have hres := zif_neg c28_6 hres
          refine lv_iload_n hx hb dX6_status_31 rfl (lv_at hl 1 rfl) ?_
          refine lv_iload_n hx hb dX6_status_32 rfl (lv_at hl 3 rfl) ?_
          refine lv_icmp_ne (tgt := 45) hx hb dX6_status_33 (by decide) (fun c33_7 => ?_) (fun c33_7 => ?_)
          · have hres := zif_neg c33_7 hres
            refine lv_iconst (v := (0 : Int32)) hx hb dX6_status_45 (by decide) ?_
            refine lv_iadd hx hb dX6_status_46 ?_
            refine lv_istore_n (lv' := [(2, _), (0, _), (1, _), (3, _)]) hx hb dX6_status_47 rfl hl (by decide) rfl (fun ls hl => ?_)
            refine ziinc (lv' := [(3, _), (2, _), (0, _), (1, _)]) (k := 3) hx hb (1 : Int32) (by decide) dX6_status_48 hl rfl (by decide) rfl (fun ls hl => ?_)
            refine lv_goto (tgt := 20) hx hb dX6_status_51 (by decide) ?_
            exact ih20 _ _ _ _ _ _ (by first | exact zCt.start (by decide) (by decide) | exact zCt.begin (by decide) (by decide) (by decide) | exact zCt.step (m := 7) hct (by first | assumption | (clear hres; grind [f_X6_in, f_X6_isBlock, f_X6_isAhead, f_X6_isSheet])) (by decide)) hH (lv_sub hl [2, 3, 1, 0] rfl) hres
          · have hres := zif_pos c33_7 hres
            exact J36 _ _ _ _ _ _ (by assumption) (by first | assumption | (clear hres; grind [f_X6_in, f_X6_isBlock, f_X6_isAhead, f_X6_isSheet])) hH (lv_sub hl [0, 1, 3] rfl) hres
  refine lv_iload_n hx hb dX6_status_0 rfl (lv_at hl 1 rfl) ?_
  refine lv_iconst (v := (-1 : Int32)) hx hb dX6_status_1 (by decide) ?_
  refine lv_bipush (v := (6 : Int32)) hx hb dX6_status_2 (by decide) ?_
  refine zcz (zrunS C0 hH (c_X6_in l D cy ad _ _ _ _) kM_X6_57 kq_X6_in rfl hl.1 rfl rfl rfl ⟨Nat.le_of_ble_eq_true rfl, Nat.le_of_ble_eq_true rfl⟩ (Nat.le_of_ble_eq_true rfl) dX6_status_4) hH (fun H locs hH h01_1 => ?_)
  refine lv_if_ne (tgt := 16) hx hb dX6_status_7 (by decide) (fun c7_3 => ?_) (fun c7_3 => ?_)
  · have hres := zif_neg c7_3 hres
    refine lv_iconst (v := (0 : Int32)) hx hb dX6_status_16 (by decide) ?_
    refine lv_istore_n (lv' := [(2, _), (0, _), (1, _)]) hx hb dX6_status_17 rfl hl (by decide) rfl (fun ls hl => ?_)
    refine lv_iconst (v := (0 : Int32)) hx hb dX6_status_18 (by decide) ?_
    refine lv_istore_n (lv' := [(3, _), (2, _), (0, _), (1, _)]) hx hb dX6_status_19 rfl hl (by decide) rfl (fun ls hl => ?_)
    exact L20 (8) _ _ _ _ _ _ (by first | exact zCt.start (by decide) (by decide) | exact zCt.begin (by decide) (by decide) (by decide) | exact zCt.step (m := 7) hct (by first | assumption | (clear hres; grind [f_X6_in, f_X6_isBlock, f_X6_isAhead, f_X6_isSheet])) (by decide)) hH (lv_sub hl [2, 3, 1, 0] rfl) hres
  · have hres := zif_pos c7_3 hres
    refine lv_aload_n hx hb dX6_status_10 rfl (lv_at hl 0 rfl) ?_
    refine lv_iconst (v := (0 : Int32)) hx hb dX6_status_11 (by decide) ?_
    refine zci (zrunV C0 hH (c_X6_no l D cy ad _ _ (by decide)) kM_X6_85 zK6 kq_X6_no zR0 rfl hl.1 rfl rfl rfl ⟨Nat.le_of_ble_eq_true rfl, Nat.le_of_ble_eq_true rfl⟩ (Nat.le_of_ble_eq_true rfl) dX6_status_12) hH (fun H locs hH => ?_)
    exact zreti C0 hH dX6_status_15 (zfst hres) (zsnd hres)
