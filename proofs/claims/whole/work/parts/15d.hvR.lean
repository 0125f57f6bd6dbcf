set_option maxRecDepth 100000 in
set_option maxHeartbeats 4000000 in
theorem c_X6_gives (l : Launch) (D : va_G) (cy : Nat → ClassId) (ad : Nat → Nat) (M : zM) (p1 : Int32) (p2 : Int32) (p3 : Int32) (hV : zVal M) (hbk : 0 ≤ p1 ∧ p1 < 10) (hs : 0 ≤ p3 ∧ p3 < 4) : Met l yX6_gives (Cond.code yX6_gives cX6_gives 7 (some .boolean) :: zG) ({ frames := 7, cells := 0, slots := 0, locals := 167 }) (zP D lyR cy ad [.ref (ad 0), .int p1, .int p2, .int p3] M) (zQz D lyR cy ad (f_X6_gives p1 p2 p3 M).1 (f_X6_gives p1 p2 p3 M).2) 0 0 (zA lyR ad) := by
  generalize hres : (f_X6_gives p1 p2 p3 M) = res
  refine zMet (by decide) (Nat.le_of_ble_eq_true rfl) ?_
  intro p e s m args below meth c ls C0 hH hl
  obtain ⟨⟨hx, hb, hml, hown, hts⟩, -⟩ := id C0
  have hz : ∀ w ∈ zG, w.before args s = true := fun w h => hts w (List.mem_cons_of_mem _ h)
  have hl : lv_has ls 7 [(0, .ref (ad 0)), (1, .int p1), (2, .int p2), (3, .int p3)] := hl
  have gl := hH.longs p3.toNatClampNeg
  have J82 : ∀ (v5 : Int32) (mm : zM) (H : Heap) (locs : List Loc) (ls : Array Slot), (v5 = 0 ∨ v5 = 1) → zH D lyR cy ad s.heap mm H locs → lv_has ls 7 [(0, .ref (ad 0)), (5, .int v5)] → f_X6_gives_82 p1 p2 p3 v5 mm = res → W p l e { frames := 7, cells := 0, slots := 0, locals := 167 } s m args below meth c H locs 0 0 (MQ below (zQz D lyR cy ad res.1 res.2) args s 0 0 (zA lyR ad)) (F0 m 82 ls []) := by
    intro v5 mm H locs ls h01 hH hl hres
    refine lv_aload_n hx hb dX6_gives_82 rfl (lv_at hl 0 rfl) ?_
    refine zgR C0 hH zK6 2 (by decide) _ zR0 rfl kF_X6_16 dX6_gives_83 ?_
    refine lv_aload_n hx hb dX6_gives_86 rfl (lv_at hl 0 rfl) ?_
    refine zgR C0 hH zK6 0 (by decide) _ zR0 rfl kF_X6_9 dX6_gives_87 ?_
    have g0 := hH.many
    refine zcv (zrunS C0 hH (c_X6_lay l D cy ad _ _ zS33 _ zS31) kM_X6_149 kq_X6_lay rfl hl.1 rfl rfl rfl ⟨Nat.le_of_ble_eq_true rfl, Nat.le_of_ble_eq_true rfl⟩ (Nat.le_of_ble_eq_true rfl) dX6_gives_90) hH (fun H locs hH => ?_)
    refine lv_iload hx hb dX6_gives_93 (lv_at hl 1 rfl) ?_
    exact zretz C0 hH dX6_gives_95 (by first | exact Or.inl rfl | exact Or.inr rfl | assumption) (zfst hres) (zsnd hres)
  have L32 : ∀ (n32 : Nat), ∀ (v4 : Int32) (v5 : Int32) (v6 : Int32) (mm : zM) (H : Heap) (locs : List Loc) (ls : Array Slot), (zCt 40 n32 v6) → (zVal mm) → (v4 ≤ 40) → (0 ≤ p3 ∧ p3 < 4) → (v5 = 0 ∨ v5 = 1) → zH D lyR cy ad s.heap mm H locs → lv_has ls 7 [(0, .ref (ad 0)), (3, .int p3), (4, .int v4), (5, .int v5), (6, .int v6)] → f_X6_gives_32 p1 p2 p3 n32 v4 v5 v6 mm = res → W p l e { frames := 7, cells := 0, slots := 0, locals := 167 } s m args below meth c H locs 0 0 (MQ below (zQz D lyR cy ad res.1 res.2) args s 0 0 (zA lyR ad)) (F0 m 32 ls []) := by
    intro n32
    induction n32 with
    | zero =>
      intro v4 v5 v6 mm H locs ls hct hV hL hs h01 hH hl hres
      exfalso; exact hct.zero
    | succ n32 ih32 =>
      intro v4 v5 v6 mm H locs ls hct hV hL hs h01 hH hl hres
      refine lv_iload hx hb dX6_gives_32 (lv_at hl 4 rfl) ?_
      refine lv_iload hx hb dX6_gives_34 (lv_at hl 2 rfl) ?_
      refine lv_icmp_ge (tgt := 82) hx hb dX6_gives_36 (by decide) (fun c36_4 => ?_) (fun c36_4 => ?_)
      · have hres := zif_pos c36_4 hres
        exact J82 _ _ _ _ _ (by first | exact Or.inl rfl | exact Or.inr rfl | assumption) hH (lv_sub hl [0, 3] rfl) hres
      · have hres := zif_neg c36_4 hres
        refine lv_iload hx hb dX6_gives_39 (lv_at hl 3 rfl) ?_
        refine lv_if_eq (tgt := 82) hx hb dX6_gives_41 (by decide) (fun c41_5 => ?_) (fun c41_5 => ?_)
        · have hres := zif_pos c41_5 hres
          exact J82 _ _ _ _ _ (by first | exact Or.inl rfl | exact Or.inr rfl | assumption) hH (lv_sub hl [0, 3] rfl) hres
        · have hres := zif_neg c41_5 hres
          refine lv_aload_n hx hb dX6_gives_44 rfl (lv_at hl 0 rfl) ?_
          have g0 := hH.many
          refine zcv (zrunV C0 hH (c_X6_tick l D cy ad _ (by exact hV)) kM_X6_140 zK6 kq_X6_tick zR0 rfl hl.1 rfl rfl rfl ⟨Nat.le_of_ble_eq_true rfl, Nat.le_of_ble_eq_true rfl⟩ (Nat.le_of_ble_eq_true rfl) dX6_gives_45) hH (fun H locs hH => ?_)
          have hV := zVof hH (hV.to (sm_tick g0))
          refine lv_aload_n hx hb dX6_gives_48 rfl (lv_at hl 0 rfl) ?_
          refine zgR C0 hH zK6 23 (by decide) _ zR0 rfl kF_X6_49 dX6_gives_49 ?_
          refine lv_bipush (v := (40 : Int32)) hx hb dX6_gives_52 (by decide) ?_
          refine lv_iload_n hx hb dX6_gives_54 rfl (lv_at hl 1 rfl) ?_
          refine lv_imul hx hb dX6_gives_55 ?_
          refine lv_iload hx hb dX6_gives_56 (lv_at hl 4 rfl) ?_
          refine lv_iadd hx hb dX6_gives_58 ?_
          refine zlld C0 hH zR14 rfl (by exact wr_X6b hs hct.1 (Int32.lt_of_lt_of_le (Int32.not_le.mp (by assumption)) hL)) dX6_gives_59 ?_
          refine lv_aload_n hx hb dX6_gives_60 rfl (lv_at hl 0 rfl) ?_
          refine zgI C0 hH zK6 10 (by decide) zR0 rfl kF_X6_124 dX6_gives_61 ?_
          refine lv_i2l hx hb dX6_gives_64 rfl ?_
          refine W.lcmp hx hb dX6_gives_65 ?_
          refine lv_if_ne (tgt := 73) hx hb dX6_gives_66 (by decide) (fun c66_7 => ?_) (fun c66_7 => ?_)
          · have hres := zif_neg c66_7 hres
            refine lv_iconst (v := (0 : Int32)) hx hb dX6_gives_73 (by decide) ?_
            refine lv_istore (lv' := [(5, _), (0, _), (3, _), (4, _), (6, _)]) hx hb dX6_gives_74 hl (by decide) rfl (fun ls hl => ?_)
            refine ziinc (lv' := [(6, _), (5, _), (0, _), (3, _), (4, _)]) (k := 4) hx hb (1 : Int32) (by decide) dX6_gives_76 hl rfl (by decide) rfl (fun ls hl => ?_)
            refine lv_goto (tgt := 32) hx hb dX6_gives_79 (by decide) ?_
            exact ih32 _ _ _ _ _ _ _ (by first | exact zCt.start (by decide) (by decide) | exact zCt.begin (by decide) (by decide) (by decide) | exact zCt.step (m := 40) hct (by first | assumption | exact Int32.not_le.mp (by assumption) | exact Int32.lt_of_lt_of_le (Int32.not_le.mp (by assumption)) hL) (by decide)) (by exact hV) (by first | exact hL | exact gl.2) (by exact hs) (by first | exact Or.inl rfl | exact Or.inr rfl | assumption) hH (lv_sub hl [2, 3, 4, 1, 0] rfl) hres
          · have hres := zif_pos c66_7 hres
            refine lv_iconst (v := (1 : Int32)) hx hb dX6_gives_69 (by decide) ?_
            refine lv_goto (tgt := 74) hx hb dX6_gives_70 (by decide) ?_
            refine lv_istore (lv' := [(5, _), (0, _), (3, _), (4, _), (6, _)]) hx hb dX6_gives_74 hl (by decide) rfl (fun ls hl => ?_)
            refine ziinc (lv' := [(6, _), (5, _), (0, _), (3, _), (4, _)]) (k := 4) hx hb (1 : Int32) (by decide) dX6_gives_76 hl rfl (by decide) rfl (fun ls hl => ?_)
            refine lv_goto (tgt := 32) hx hb dX6_gives_79 (by decide) ?_
            exact ih32 _ _ _ _ _ _ _ (by first | exact zCt.start (by decide) (by decide) | exact zCt.begin (by decide) (by decide) (by decide) | exact zCt.step (m := 40) hct (by first | assumption | exact Int32.not_le.mp (by assumption) | exact Int32.lt_of_lt_of_le (Int32.not_le.mp (by assumption)) hL) (by decide)) (by exact hV) (by first | exact hL | exact gl.2) (by exact hs) (by first | exact Or.inl rfl | exact Or.inr rfl | assumption) hH (lv_sub hl [2, 3, 4, 1, 0] rfl) hres
  refine lv_aload_n hx hb dX6_gives_0 rfl (lv_at hl 0 rfl) ?_
  refine lv_iload_n hx hb dX6_gives_1 rfl (lv_at hl 3 rfl) ?_
  have g0 := hH.many
  refine zci (zrunV C0 hH (c_X6_longOf l D cy ad _ _ (by exact hs)) kM_X6_171 zK6 kq_X6_longOf zR0 rfl hl.1 rfl rfl rfl ⟨Nat.le_of_ble_eq_true rfl, Nat.le_of_ble_eq_true rfl⟩ (Nat.le_of_ble_eq_true rfl) dX6_gives_2) hH (fun H locs hH => ?_)
  refine lv_istore (lv' := [(4, _), (0, _), (1, _), (2, _), (3, _)]) hx hb dX6_gives_5 hl (by decide) rfl (fun ls hl => ?_)
  refine lv_iconst (v := (1 : Int32)) hx hb dX6_gives_7 (by decide) ?_
  refine lv_istore (lv' := [(5, _), (4, _), (0, _), (1, _), (2, _), (3, _)]) hx hb dX6_gives_8 hl (by decide) rfl (fun ls hl => ?_)
  refine lv_aload_n hx hb dX6_gives_10 rfl (lv_at hl 2 rfl) ?_
  refine zgR C0 hH zK6 0 (by decide) _ zR0 rfl kF_X6_9 dX6_gives_11 ?_
  refine lv_aload_n hx hb dX6_gives_14 rfl (lv_at hl 2 rfl) ?_
  refine zgR C0 hH zK6 2 (by decide) _ zR0 rfl kF_X6_16 dX6_gives_15 ?_
  have g0 := hH.many
  refine zcv (zrunS C0 hH (c_X6_lay l D cy ad _ _ zS31 _ zS33) kM_X6_149 kq_X6_lay rfl hl.1 rfl rfl rfl ⟨Nat.le_of_ble_eq_true rfl, Nat.le_of_ble_eq_true rfl⟩ (Nat.le_of_ble_eq_true rfl) dX6_gives_18) hH (fun H locs hH => ?_)
  have hV := zVof hH (hV.to (sm_row (rw_lay (by decide))))
  refine lv_aload_n hx hb dX6_gives_21 rfl (lv_at hl 2 rfl) ?_
  refine lv_iload_n hx hb dX6_gives_22 rfl (lv_at hl 3 rfl) ?_
  refine lv_iconst (v := (0 : Int32)) hx hb dX6_gives_23 (by decide) ?_
  refine lv_iload_n hx hb dX6_gives_24 rfl (lv_at hl 4 rfl) ?_
  have g0 := hH.many
  refine zci (zrunV C0 hH (c_X6_become l D cy ad _ _ _ _ (by exact hbk) (by decide)) kM_X6_88 zK6 kq_X6_become zR0 rfl hl.1 rfl rfl rfl ⟨Nat.le_of_ble_eq_true rfl, Nat.le_of_ble_eq_true rfl⟩ (Nat.le_of_ble_eq_true rfl) dX6_gives_25) hH (fun H locs hH => ?_)
  have hV := zVof hH (hV.to (sm_become hbk (by decide)))
  refine lv_pop hx hb dX6_gives_28 rfl ?_
  refine lv_iconst (v := (0 : Int32)) hx hb dX6_gives_29 (by decide) ?_
  refine lv_istore (lv' := [(6, _), (5, _), (4, _), (0, _), (1, _), (2, _), (3, _)]) hx hb dX6_gives_30 hl (by decide) rfl (fun ls hl => ?_)
  exact L32 (41) _ _ _ _ _ _ _ (by first | exact zCt.start (by decide) (by decide) | exact zCt.begin (by decide) (by decide) (by decide) | exact zCt.step (m := 40) hct (by first | assumption | exact Int32.not_le.mp (by assumption) | exact Int32.lt_of_lt_of_le (Int32.not_le.mp (by assumption)) hL) (by decide)) (by exact hV) (by first | exact hL | exact gl.2) (by exact hs) (by first | exact Or.inl rfl | exact Or.inr rfl | assumption) hH (lv_sub hl [3, 6, 2, 1, 0] rfl) hres
set_option maxRecDepth 100000 in
set_option maxHeartbeats 4000000 in
theorem c_X6_which (l : Launch) (D : va_G) (cy : Nat → ClassId) (ad : Nat → Nat) (M : zM) (p1 : Int32) (p2 : Int32) (hV : zVal M) : Met l yX6_which (Cond.code yX6_which cX6_which 5 (some .int) :: zG) ({ frames := 8, cells := 0, slots := 0, locals := 193 }) (zP D lyR cy ad [.ref (ad 0), .int p1, .int p2] M) (zQi D lyR cy ad (f_X6_which p1 p2 M).1 (f_X6_which p1 p2 M).2) 0 0 (zA lyR ad) := by
  generalize hres : (f_X6_which p1 p2 M) = res
  refine zMet (by decide) (Nat.le_of_ble_eq_true rfl) ?_
  intro p e s m args below meth c ls C0 hH hl
  obtain ⟨⟨hx, hb, hml, hown, hts⟩, -⟩ := id C0
  have hz : ∀ w ∈ zG, w.before args s = true := fun w h => hts w (List.mem_cons_of_mem _ h)
  have hl : lv_has ls 5 [(0, .ref (ad 0)), (1, .int p1), (2, .int p2)] := hl
  have gq := hH.many
  have J15 : ∀ (mm : zM) (H : Heap) (locs : List Loc) (ls : Array Slot), zH D lyR cy ad s.heap mm H locs → lv_has ls 5 [(0, .ref (ad 0))] → f_X6_which_15 p1 p2 mm = res → W p l e { frames := 8, cells := 0, slots := 0, locals := 193 } s m args below meth c H locs 0 0 (MQ below (zQi D lyR cy ad res.1 res.2) args s 0 0 (zA lyR ad)) (F0 m 15 ls []) := by
    intro mm H locs ls hH hl hres
    refine lv_aload_n hx hb dX6_which_15 rfl (lv_at hl 0 rfl) ?_
    refine lv_iconst (v := (0 : Int32)) hx hb dX6_which_16 (by decide) ?_
    have g0 := hH.many
    refine zci (zrunV C0 hH (c_X6_no l D cy ad _ _ (by decide)) kM_X6_85 zK6 kq_X6_no zR0 rfl hl.1 rfl rfl rfl ⟨Nat.le_of_ble_eq_true rfl, Nat.le_of_ble_eq_true rfl⟩ (Nat.le_of_ble_eq_true rfl) dX6_which_17) hH (fun H locs hH => ?_)
    exact zreti C0 hH dX6_which_20 (zfst hres) (zsnd hres)
  have L56 : ∀ (n56 : Nat), ∀ (v3 : Int32) (v4 : Int32) (mm : zM) (H : Heap) (locs : List Loc) (ls : Array Slot), (zCt 6 n56 v4) → (zVal mm) → (0 ≤ p1 ∧ p1 < 10) → (0 ≤ p2 ∧ p2 < 4) → zH D lyR cy ad s.heap mm H locs → lv_has ls 5 [(0, .ref (ad 0)), (1, .int p1), (2, .int p2), (3, .int v3), (4, .int v4)] → f_X6_which_56 p1 p2 n56 v3 v4 mm = res → W p l e { frames := 8, cells := 0, slots := 0, locals := 193 } s m args below meth c H locs 0 0 (MQ below (zQi D lyR cy ad res.1 res.2) args s 0 0 (zA lyR ad)) (F0 m 56 ls []) := by
    intro n56
    induction n56 with
    | zero =>
      intro v3 v4 mm H locs ls hct hV hbk hs hH hl hres
      exfalso; exact hct.zero
    | succ n56 ih56 =>
      intro v3 v4 mm H locs ls hct hV hbk hs hH hl hres
      refine lv_iload hx hb dX6_which_56 (lv_at hl 4 rfl) ?_
      refine lv_iconst (v := (5 : Int32)) hx hb dX6_which_58 (by decide) ?_
      refine lv_icmp_gt (tgt := 90) hx hb dX6_which_59 (by decide) (fun c59_13 => ?_) (fun c59_13 => ?_)
      · have hres := zif_pos c59_13 hres
        refine lv_iload_n hx hb dX6_which_90 rfl (lv_at hl 3 rfl) ?_
        exact zreti C0 hH dX6_which_91 (zfst hres) (zsnd hres)
      · have hres := zif_neg c59_13 hres
        refine lv_iload_n hx hb dX6_which_62 rfl (lv_at hl 3 rfl) ?_
        refine lv_aload_n hx hb dX6_which_63 rfl (lv_at hl 0 rfl) ?_
        refine lv_iload_n hx hb dX6_which_64 rfl (lv_at hl 1 rfl) ?_
        refine lv_iload hx hb dX6_which_65 (lv_at hl 4 rfl) ?_
        refine lv_iload_n hx hb dX6_which_67 rfl (lv_at hl 2 rfl) ?_
        have gl := hH.longs p2.toNatClampNeg
        have g0 := hH.many
        refine zcz (zrunV C0 hH (c_X6_gives l D cy ad _ _ _ _ (by exact hV) (by first | assumption | exact ib10 g0 (by assumption) | exact ⟨hm.1, Int32.lt_of_lt_of_le hm.2 g0.2⟩) (by first | assumption | exact is_X6 (by assumption))) kM_X6_177 zK6 kq_X6_gives zR0 rfl hl.1 rfl rfl rfl ⟨Nat.le_of_ble_eq_true rfl, Nat.le_of_ble_eq_true rfl⟩ (Nat.le_of_ble_eq_true rfl) dX6_which_68) hH (fun H locs hH h01_14 => ?_)
        have hV := zVof hH (hV.to (sm_gives gl.2))
        refine lv_if_eq (tgt := 81) hx hb dX6_which_71 (by decide) (fun c71_16 => ?_) (fun c71_16 => ?_)
        · have hres := zif_pos c71_16 hres
          refine lv_iconst (v := (0 : Int32)) hx hb dX6_which_81 (by decide) ?_
          refine lv_ior hx hb dX6_which_82 ?_
          refine lv_istore_n (lv' := [(3, _), (0, _), (1, _), (2, _), (4, _)]) hx hb dX6_which_83 rfl hl (by decide) rfl (fun ls hl => ?_)
          refine ziinc (lv' := [(4, _), (3, _), (0, _), (1, _), (2, _)]) (k := 4) hx hb (1 : Int32) (by decide) dX6_which_84 hl rfl (by decide) rfl (fun ls hl => ?_)
          refine lv_goto (tgt := 56) hx hb dX6_which_87 (by decide) ?_
          exact ih56 _ _ _ _ _ _ (by first | exact zCt.start (by decide) (by decide) | exact zCt.step (m := 6) hct (by have q99 := Int32.not_lt.mp ‹¬ 5 < v4›; clear hres hz hts; grind) (by decide)) (by exact hV) (by first | assumption | exact ib10 gq (by assumption)) (by first | assumption | exact is_X6 (by assumption)) hH (lv_sub hl [2, 3, 4, 1, 0] rfl) hres
        · have hres := zif_neg c71_16 hres
          refine lv_iconst (v := (1 : Int32)) hx hb dX6_which_74 (by decide) ?_
          refine lv_iload hx hb dX6_which_75 (lv_at hl 4 rfl) ?_
          refine lv_ishl hx hb dX6_which_77 ?_
          refine lv_goto (tgt := 82) hx hb dX6_which_78 (by decide) ?_
          refine lv_ior hx hb dX6_which_82 ?_
          refine lv_istore_n (lv' := [(3, _), (0, _), (1, _), (2, _), (4, _)]) hx hb dX6_which_83 rfl hl (by decide) rfl (fun ls hl => ?_)
          refine ziinc (lv' := [(4, _), (3, _), (0, _), (1, _), (2, _)]) (k := 4) hx hb (1 : Int32) (by decide) dX6_which_84 hl rfl (by decide) rfl (fun ls hl => ?_)
          refine lv_goto (tgt := 56) hx hb dX6_which_87 (by decide) ?_
          exact ih56 _ _ _ _ _ _ (by first | exact zCt.start (by decide) (by decide) | exact zCt.step (m := 6) hct (by have q99 := Int32.not_lt.mp ‹¬ 5 < v4›; clear hres hz hts; grind) (by decide)) (by exact hV) (by first | assumption | exact ib10 gq (by assumption)) (by first | assumption | exact is_X6 (by assumption)) hH (lv_sub hl [2, 3, 4, 1, 0] rfl) hres
  refine lv_aload_n hx hb dX6_which_0 rfl (lv_at hl 0 rfl) ?_
  refine lv_iload_n hx hb dX6_which_1 rfl (lv_at hl 1 rfl) ?_
  have g0 := hH.many
  refine zcz (zrunV C0 hH (c_X6_isBlock l D cy ad _ _) kM_X6_92 zK6 kq_X6_isBlock zR0 rfl hl.1 rfl rfl rfl ⟨Nat.le_of_ble_eq_true rfl, Nat.le_of_ble_eq_true rfl⟩ (Nat.le_of_ble_eq_true rfl) dX6_which_2) hH (fun H locs hH h01_1 => ?_)
  refine lv_if_eq (tgt := 15) hx hb dX6_which_5 (by decide) (fun c5_3 => ?_) (fun c5_3 => ?_)
  · have hres := zif_pos c5_3 hres
    exact J15 _ _ _ _ hH (lv_sub hl [0] rfl) hres
  · have hres := zif_neg c5_3 hres
    refine lv_iload_n hx hb dX6_which_8 rfl (lv_at hl 2 rfl) ?_
    have g0 := hH.many
    refine zcz (zrunS C0 hH (c_X6_isSheet l D cy ad _ _) kM_X6_174 kq_X6_isSheet rfl hl.1 rfl rfl rfl ⟨Nat.le_of_ble_eq_true rfl, Nat.le_of_ble_eq_true rfl⟩ (Nat.le_of_ble_eq_true rfl) dX6_which_9) hH (fun H locs hH h01_4 => ?_)
    refine lv_if_ne (tgt := 21) hx hb dX6_which_12 (by decide) (fun c12_6 => ?_) (fun c12_6 => ?_)
    · have hres := zif_neg c12_6 hres
      refine lv_aload_n hx hb dX6_which_21 rfl (lv_at hl 0 rfl) ?_
      refine zgR C0 hH zK6 21 (by decide) _ zR0 rfl kF_X6_43 dX6_which_22 ?_
      refine lv_iload_n hx hb dX6_which_25 rfl (lv_at hl 2 rfl) ?_
      refine zald C0 hH (zR_i (by decide) (by decide)) rfl (by exact zin4.mpr (is_X6 ‹¬ f_X6_isSheet p2 = 0›)) dX6_which_26 ?_
      refine lv_if_ne (tgt := 36) hx hb dX6_which_27 (by decide) (fun c27_7 => ?_) (fun c27_7 => ?_)
      · have hres := zif_neg c27_7 hres
        refine lv_aload_n hx hb dX6_which_36 rfl (lv_at hl 0 rfl) ?_
        refine lv_iload_n hx hb dX6_which_37 rfl (lv_at hl 2 rfl) ?_
        have g0 := hH.many
        refine zci (zrunV C0 hH (c_X6_longOf l D cy ad _ _ (by exact is_X6 (by assumption))) kM_X6_171 zK6 kq_X6_longOf zR0 rfl hl.1 rfl rfl rfl ⟨Nat.le_of_ble_eq_true rfl, Nat.le_of_ble_eq_true rfl⟩ (Nat.le_of_ble_eq_true rfl) dX6_which_38) hH (fun H locs hH => ?_)
        refine lv_if_ne (tgt := 51) hx hb dX6_which_41 (by decide) (fun c41_9 => ?_) (fun c41_9 => ?_)
        · have hres := zif_neg c41_9 hres
          refine lv_iconst (v := (0 : Int32)) hx hb dX6_which_51 (by decide) ?_
          refine lv_istore_n (lv' := [(3, _), (0, _), (1, _), (2, _)]) hx hb dX6_which_52 rfl hl (by decide) rfl (fun ls hl => ?_)
          refine lv_iconst (v := (0 : Int32)) hx hb dX6_which_53 (by decide) ?_
          refine lv_istore (lv' := [(4, _), (3, _), (0, _), (1, _), (2, _)]) hx hb dX6_which_54 hl (by decide) rfl (fun ls hl => ?_)
          exact L56 (7) _ _ _ _ _ _ (by first | exact zCt.start (by decide) (by decide) | exact zCt.step (m := 6) hct (by have q99 := Int32.not_lt.mp ‹¬ 5 < v4›; clear hres hz hts; grind) (by decide)) (by exact hV) (by first | assumption | exact ib10 gq (by assumption)) (by first | assumption | exact is_X6 (by assumption)) hH (lv_sub hl [2, 3, 4, 1, 0] rfl) hres
        · have hres := zif_pos c41_9 hres
          refine lv_aload_n hx hb dX6_which_44 rfl (lv_at hl 0 rfl) ?_
          refine lv_bipush (v := (6 : Int32)) hx hb dX6_which_45 (by decide) ?_
          have g0 := hH.many
          refine zci (zrunV C0 hH (c_X6_no l D cy ad _ _ (by decide)) kM_X6_85 zK6 kq_X6_no zR0 rfl hl.1 rfl rfl rfl ⟨Nat.le_of_ble_eq_true rfl, Nat.le_of_ble_eq_true rfl⟩ (Nat.le_of_ble_eq_true rfl) dX6_which_47) hH (fun H locs hH => ?_)
          exact zreti C0 hH dX6_which_50 (zfst hres) (zsnd hres)
      · have hres := zif_pos c27_7 hres
        refine lv_aload_n hx hb dX6_which_30 rfl (lv_at hl 0 rfl) ?_
        refine lv_iconst (v := (5 : Int32)) hx hb dX6_which_31 (by decide) ?_
        have g0 := hH.many
        refine zci (zrunV C0 hH (c_X6_no l D cy ad _ _ (by decide)) kM_X6_85 zK6 kq_X6_no zR0 rfl hl.1 rfl rfl rfl ⟨Nat.le_of_ble_eq_true rfl, Nat.le_of_ble_eq_true rfl⟩ (Nat.le_of_ble_eq_true rfl) dX6_which_32) hH (fun H locs hH => ?_)
        exact zreti C0 hH dX6_which_35 (zfst hres) (zsnd hres)
    · have hres := zif_pos c12_6 hres
      exact J15 _ _ _ _ hH (lv_sub hl [0] rfl) hres
set_option maxRecDepth 100000 in
set_option maxHeartbeats 4000000 in
theorem c_X6_together (l : Launch) (D : va_G) (cy : Nat → ClassId) (ad : Nat → Nat) (M : zM) (p1 : Int32) (p2 : Int32) (p3 : Int32) (hV : zVal M) : Met l yX6_together (Cond.code yX6_together cX6_together 6 (some .int) :: zG) ({ frames := 8, cells := 0, slots := 0, locals := 189 }) (zP D lyR cy ad [.ref (ad 0), .int p1, .int p2, .int p3] M) (zQi D lyR cy ad (f_X6_together p1 p2 p3 M).1 (f_X6_together p1 p2 p3 M).2) 0 0 (zA lyR ad) := by
  generalize hres : (f_X6_together p1 p2 p3 M) = res
  refine zMet (by decide) (Nat.le_of_ble_eq_true rfl) ?_
  intro p e s m args below meth c ls C0 hH hl
  obtain ⟨⟨hx, hb, hml, hown, hts⟩, -⟩ := id C0
  have hz : ∀ w ∈ zG, w.before args s = true := fun w h => hts w (List.mem_cons_of_mem _ h)
  have hl : lv_has ls 6 [(0, .ref (ad 0)), (1, .int p1), (2, .int p2), (3, .int p3)] := hl
  have g0 := hH.many
  have J28 : ∀ (mm : zM) (H : Heap) (locs : List Loc) (ls : Array Slot), zH D lyR cy ad s.heap mm H locs → lv_has ls 6 [(0, .ref (ad 0))] → f_X6_together_28 p1 p2 p3 mm = res → W p l e { frames := 8, cells := 0, slots := 0, locals := 189 } s m args below meth c H locs 0 0 (MQ below (zQi D lyR cy ad res.1 res.2) args s 0 0 (zA lyR ad)) (F0 m 28 ls []) := by
    intro mm H locs ls hH hl hres
    refine lv_aload_n hx hb dX6_together_28 rfl (lv_at hl 0 rfl) ?_
    refine lv_iconst (v := (0 : Int32)) hx hb dX6_together_29 (by decide) ?_
    have g0 := hH.many
    refine zci (zrunV C0 hH (c_X6_no l D cy ad _ _ (by decide)) kM_X6_85 zK6 kq_X6_no zR0 rfl hl.1 rfl rfl rfl ⟨Nat.le_of_ble_eq_true rfl, Nat.le_of_ble_eq_true rfl⟩ (Nat.le_of_ble_eq_true rfl) dX6_together_30) hH (fun H locs hH => ?_)
    exact zreti C0 hH dX6_together_33 (zfst hres) (zsnd hres)
  have L67 : ∀ (n67 : Nat), ∀ (v4 : Int32) (v5 : Int32) (mm : zM) (H : Heap) (locs : List Loc) (ls : Array Slot), (zCt 60 n67 v5) → (p3 ≤ 60) → zH D lyR cy ad s.heap mm H locs → lv_has ls 6 [(0, .ref (ad 0)), (1, .int p1), (2, .int p2), (3, .int p3), (4, .int v4), (5, .int v5)] → f_X6_together_67 p1 p2 p3 n67 v4 v5 mm = res → W p l e { frames := 8, cells := 0, slots := 0, locals := 189 } s m args below meth c H locs 0 0 (MQ below (zQi D lyR cy ad res.1 res.2) args s 0 0 (zA lyR ad)) (F0 m 67 ls []) := by
    intro n67
    induction n67 with
    | zero =>
      intro v4 v5 mm H locs ls hct hn hH hl hres
      exfalso; exact hct.zero
    | succ n67 ih67 =>
      intro v4 v5 mm H locs ls hct hn hH hl hres
      refine lv_iload hx hb dX6_together_67 (lv_at hl 5 rfl) ?_
      refine lv_iload_n hx hb dX6_together_69 rfl (lv_at hl 3 rfl) ?_
      refine lv_icmp_ge (tgt := 105) hx hb dX6_together_70 (by decide) (fun c70_15 => ?_) (fun c70_15 => ?_)
      · have hres := zif_pos c70_15 hres
        refine lv_iload hx hb dX6_together_105 (lv_at hl 4 rfl) ?_
        exact zreti C0 hH dX6_together_107 (zfst hres) (zsnd hres)
      · have hres := zif_neg c70_15 hres
        refine lv_iload hx hb dX6_together_73 (lv_at hl 4 rfl) ?_
        refine lv_aload_n hx hb dX6_together_75 rfl (lv_at hl 0 rfl) ?_
        refine zgR C0 hH zK6 13 (by decide) _ zR0 rfl kF_X6_34 dX6_together_76 ?_
        refine lv_iload hx hb dX6_together_79 (lv_at hl 5 rfl) ?_
        refine zald C0 hH (zR_i (by decide) (by decide)) rfl (by exact zin60.mpr ⟨hct.1, Int32.lt_of_lt_of_le (Int32.not_le.mp (by assumption)) hn⟩) dX6_together_81 ?_
        refine lv_iload_n hx hb dX6_together_82 rfl (lv_at hl 1 rfl) ?_
        refine lv_ishr hx hb dX6_together_83 ?_
        refine lv_aload_n hx hb dX6_together_84 rfl (lv_at hl 0 rfl) ?_
        refine zgR C0 hH zK6 13 (by decide) _ zR0 rfl kF_X6_34 dX6_together_85 ?_
        refine lv_iload hx hb dX6_together_88 (lv_at hl 5 rfl) ?_
        refine zald C0 hH (zR_i (by decide) (by decide)) rfl (by exact zin60.mpr ⟨hct.1, Int32.lt_of_lt_of_le (Int32.not_le.mp (by assumption)) hn⟩) dX6_together_90 ?_
        refine lv_iload_n hx hb dX6_together_91 rfl (lv_at hl 2 rfl) ?_
        refine lv_ishr hx hb dX6_together_92 ?_
        refine lv_iand hx hb dX6_together_93 ?_
        refine lv_iconst (v := (1 : Int32)) hx hb dX6_together_94 (by decide) ?_
        refine lv_iand hx hb dX6_together_95 ?_
        refine lv_iadd hx hb dX6_together_96 ?_
        refine lv_istore (lv' := [(4, _), (0, _), (1, _), (2, _), (3, _), (5, _)]) hx hb dX6_together_97 hl (by decide) rfl (fun ls hl => ?_)
        refine ziinc (lv' := [(5, _), (4, _), (0, _), (1, _), (2, _), (3, _)]) (k := 5) hx hb (1 : Int32) (by decide) dX6_together_99 hl rfl (by decide) rfl (fun ls hl => ?_)
        refine lv_goto (tgt := 67) hx hb dX6_together_102 (by decide) ?_
        exact ih67 _ _ _ _ _ _ (by first | exact zCt.start (by decide) (by decide) | exact zCt.begin (by decide) (by decide) (by decide) | exact zCt.step (m := 60) hct (by first | assumption | exact Int32.not_le.mp (by assumption) | exact Int32.lt_of_lt_of_le (Int32.not_le.mp (by assumption)) hn) (by decide)) (by first | assumption | exact ia_X6 (by assumption)) hH (lv_sub hl [2, 3, 4, 5, 1, 0] rfl) hres
  refine lv_aload_n hx hb dX6_together_0 rfl (lv_at hl 0 rfl) ?_
  refine lv_iload_n hx hb dX6_together_1 rfl (lv_at hl 1 rfl) ?_
  have g0 := hH.many
  refine zcz (zrunV C0 hH (c_X6_isBlock l D cy ad _ _) kM_X6_92 zK6 kq_X6_isBlock zR0 rfl hl.1 rfl rfl rfl ⟨Nat.le_of_ble_eq_true rfl, Nat.le_of_ble_eq_true rfl⟩ (Nat.le_of_ble_eq_true rfl) dX6_together_2) hH (fun H locs hH h01_1 => ?_)
  refine lv_if_eq (tgt := 28) hx hb dX6_together_5 (by decide) (fun c5_3 => ?_) (fun c5_3 => ?_)
  · have hres := zif_pos c5_3 hres
    exact J28 _ _ _ _ hH (lv_sub hl [0] rfl) hres
  · have hres := zif_neg c5_3 hres
    refine lv_aload_n hx hb dX6_together_8 rfl (lv_at hl 0 rfl) ?_
    refine lv_iload_n hx hb dX6_together_9 rfl (lv_at hl 2 rfl) ?_
    have g0 := hH.many
    refine zcz (zrunV C0 hH (c_X6_isBlock l D cy ad _ _) kM_X6_92 zK6 kq_X6_isBlock zR0 rfl hl.1 rfl rfl rfl ⟨Nat.le_of_ble_eq_true rfl, Nat.le_of_ble_eq_true rfl⟩ (Nat.le_of_ble_eq_true rfl) dX6_together_10) hH (fun H locs hH h01_4 => ?_)
    refine lv_if_eq (tgt := 28) hx hb dX6_together_13 (by decide) (fun c13_6 => ?_) (fun c13_6 => ?_)
    · have hres := zif_pos c13_6 hres
      exact J28 _ _ _ _ hH (lv_sub hl [0] rfl) hres
    · have hres := zif_neg c13_6 hres
      refine lv_iload_n hx hb dX6_together_16 rfl (lv_at hl 1 rfl) ?_
      refine lv_iload_n hx hb dX6_together_17 rfl (lv_at hl 2 rfl) ?_
      refine lv_icmp_eq (tgt := 28) hx hb dX6_together_18 (by decide) (fun c18_7 => ?_) (fun c18_7 => ?_)
      · have hres := zif_pos c18_7 hres
        exact J28 _ _ _ _ hH (lv_sub hl [0] rfl) hres
      · have hres := zif_neg c18_7 hres
        refine lv_iload_n hx hb dX6_together_21 rfl (lv_at hl 3 rfl) ?_
        have g0 := hH.many
        refine zcz (zrunS C0 hH (c_X6_isAhead l D cy ad _ _) kM_X6_146 kq_X6_isAhead rfl hl.1 rfl rfl rfl ⟨Nat.le_of_ble_eq_true rfl, Nat.le_of_ble_eq_true rfl⟩ (Nat.le_of_ble_eq_true rfl) dX6_together_22) hH (fun H locs hH h01_8 => ?_)
        refine lv_if_ne (tgt := 34) hx hb dX6_together_25 (by decide) (fun c25_10 => ?_) (fun c25_10 => ?_)
        · have hres := zif_neg c25_10 hres
          refine lv_aload_n hx hb dX6_together_34 rfl (lv_at hl 0 rfl) ?_
          refine zgR C0 hH zK6 0 (by decide) _ zR0 rfl kF_X6_9 dX6_together_35 ?_
          refine lv_aload_n hx hb dX6_together_38 rfl (lv_at hl 0 rfl) ?_
          refine zgR C0 hH zK6 2 (by decide) _ zR0 rfl kF_X6_16 dX6_together_39 ?_
          have g0 := hH.many
          refine zcv (zrunS C0 hH (c_X6_lay l D cy ad _ _ zS31 _ zS33) kM_X6_149 kq_X6_lay rfl hl.1 rfl rfl rfl ⟨Nat.le_of_ble_eq_true rfl, Nat.le_of_ble_eq_true rfl⟩ (Nat.le_of_ble_eq_true rfl) dX6_together_42) hH (fun H locs hH => ?_)
          have hV := zVof hH (hV.to (sm_row (rw_lay (by decide))))
          refine lv_aload_n hx hb dX6_together_45 rfl (lv_at hl 0 rfl) ?_
          refine lv_iload_n hx hb dX6_together_46 rfl (lv_at hl 3 rfl) ?_
          have g0 := hH.many
          refine zcv (zrunV C0 hH (c_X6_goes l D cy ad _ _ (by exact hV) (by first | assumption | exact ia_X6 (by assumption))) kM_X6_153 zK6 kq_X6_goes zR0 rfl hl.1 rfl rfl rfl ⟨Nat.le_of_ble_eq_true rfl, Nat.le_of_ble_eq_true rfl⟩ (Nat.le_of_ble_eq_true rfl) dX6_together_47) hH (fun H locs hH => ?_)
          have hV := zVof hH (hV.to (sm_goes g0))
          refine lv_aload_n hx hb dX6_together_50 rfl (lv_at hl 0 rfl) ?_
          refine zgR C0 hH zK6 2 (by decide) _ zR0 rfl kF_X6_16 dX6_together_51 ?_
          refine lv_aload_n hx hb dX6_together_54 rfl (lv_at hl 0 rfl) ?_
          refine zgR C0 hH zK6 0 (by decide) _ zR0 rfl kF_X6_9 dX6_together_55 ?_
          have g0 := hH.many
          refine zcv (zrunS C0 hH (c_X6_lay l D cy ad _ _ zS33 _ zS31) kM_X6_149 kq_X6_lay rfl hl.1 rfl rfl rfl ⟨Nat.le_of_ble_eq_true rfl, Nat.le_of_ble_eq_true rfl⟩ (Nat.le_of_ble_eq_true rfl) dX6_together_58) hH (fun H locs hH => ?_)
          refine lv_iconst (v := (0 : Int32)) hx hb dX6_together_61 (by decide) ?_
          refine lv_istore (lv' := [(4, _), (0, _), (1, _), (2, _), (3, _)]) hx hb dX6_together_62 hl (by decide) rfl (fun ls hl => ?_)
          refine lv_iconst (v := (0 : Int32)) hx hb dX6_together_64 (by decide) ?_
          refine lv_istore (lv' := [(5, _), (4, _), (0, _), (1, _), (2, _), (3, _)]) hx hb dX6_together_65 hl (by decide) rfl (fun ls hl => ?_)
          exact L67 (61) _ _ _ _ _ _ (by first | exact zCt.start (by decide) (by decide) | exact zCt.begin (by decide) (by decide) (by decide) | exact zCt.step (m := 60) hct (by first | assumption | exact Int32.not_le.mp (by assumption) | exact Int32.lt_of_lt_of_le (Int32.not_le.mp (by assumption)) hn) (by decide)) (by first | assumption | exact ia_X6 (by assumption)) hH (lv_sub hl [2, 3, 4, 5, 1, 0] rfl) hres
        · have hres := zif_pos c25_10 hres
          exact J28 _ _ _ _ hH (lv_sub hl [0] rfl) hres
set_option maxRecDepth 100000 in
set_option maxHeartbeats 4000000 in
theorem c_X6_draws (l : Launch) (D : va_G) (cy : Nat → ClassId) (ad : Nat → Nat) (M : zM) (p1 : Int32) (hV : zVal M) : Met l yX6_draws (Cond.code yX6_draws cX6_draws 7 (some .int) :: zG) ({ frames := 7, cells := 0, slots := 0, locals := 167 }) (zP D lyR cy ad [.ref (ad 0), .int p1] M) (zQi D lyR cy ad (f_X6_draws p1 M).1 (f_X6_draws p1 M).2) 0 0 (zA lyR ad) := by
  generalize hres : (f_X6_draws p1 M) = res
  refine zMet (by decide) (Nat.le_of_ble_eq_true rfl) ?_
  intro p e s m args below meth c ls C0 hH hl
  obtain ⟨⟨hx, hb, hml, hown, hts⟩, -⟩ := id C0
  have hz : ∀ w ∈ zG, w.before args s = true := fun w h => hts w (List.mem_cons_of_mem _ h)
  have hl : lv_has ls 7 [(0, .ref (ad 0)), (1, .int p1)] := hl
  have g0 := hH.many
  have L40 : ∀ (n40 : Nat), ∀ (v2 : Int32) (v3 : Int32) (v4 : Int32) (mm : zM) (H : Heap) (locs : List Loc) (ls : Array Slot), (zCt 40 n40 v4) → (zVal mm) → (0 ≤ p1 ∧ p1 < 4) → zH D lyR cy ad s.heap mm H locs → lv_has ls 7 [(0, .ref (ad 0)), (1, .int p1), (2, .int v2), (3, .int v3), (4, .int v4)] → f_X6_draws_40 p1 n40 v2 v3 v4 mm = res → W p l e { frames := 7, cells := 0, slots := 0, locals := 167 } s m args below meth c H locs 0 0 (MQ below (zQi D lyR cy ad res.1 res.2) args s 0 0 (zA lyR ad)) (F0 m 40 ls []) := by
    intro n40
    induction n40 with
    | zero =>
      intro v2 v3 v4 mm H locs ls hct hV hs hH hl hres
      exfalso; exact hct.zero
    | succ n40 ih40 =>
      intro v2 v3 v4 mm H locs ls hct hV hs hH hl hres
      have gl := hH.longs p1.toNatClampNeg
      refine lv_iload hx hb dX6_draws_40 (lv_at hl 4 rfl) ?_
      refine lv_aload_n hx hb dX6_draws_42 rfl (lv_at hl 0 rfl) ?_
      refine zgR C0 hH zK6 22 (by decide) _ zR0 rfl kF_X6_46 dX6_draws_43 ?_
      refine lv_iload_n hx hb dX6_draws_46 rfl (lv_at hl 1 rfl) ?_
      refine zald C0 hH (zR_i (by decide) (by decide)) rfl (by first | exact zin4.mpr hs | exact zin4.mpr (is_X6 ‹¬ f_X6_isSheet p1 = 0›)) dX6_draws_47 ?_
      refine lv_icmp_ge (tgt := 105) hx hb dX6_draws_48 (by decide) (fun c48_8 => ?_) (fun c48_8 => ?_)
      · have hres := zif_pos c48_8 hres
        refine lv_aload_n hx hb dX6_draws_105 rfl (lv_at hl 0 rfl) ?_
        refine zgR C0 hH zK6 0 (by decide) _ zR0 rfl kF_X6_9 dX6_draws_106 ?_
        refine lv_iconst (v := (2 : Int32)) hx hb dX6_draws_109 (by decide) ?_
        refine lv_iload_n hx hb dX6_draws_110 rfl (lv_at hl 2 rfl) ?_
        refine zastK C0 hH zS31.is zS31.ln (k := 2) (by decide) (by unfold vp_in; decide) zcn dX6_draws_111 (fun H locs hH => ?_)
        have hV := zVof hH (hV.to (sm_put1 (by decide)))
        refine lv_iload_n hx hb dX6_draws_112 rfl (lv_at hl 3 rfl) ?_
        exact zreti C0 hH dX6_draws_113 (zfst hres) (zsnd hres)
      · have hres := zif_neg c48_8 hres
        refine lv_aload_n hx hb dX6_draws_51 rfl (lv_at hl 0 rfl) ?_
        refine zgR C0 hH zK6 23 (by decide) _ zR0 rfl kF_X6_49 dX6_draws_52 ?_
        refine lv_bipush (v := (40 : Int32)) hx hb dX6_draws_55 (by decide) ?_
        refine lv_iload_n hx hb dX6_draws_57 rfl (lv_at hl 1 rfl) ?_
        refine lv_imul hx hb dX6_draws_58 ?_
        refine lv_iload hx hb dX6_draws_59 (lv_at hl 4 rfl) ?_
        refine lv_iadd hx hb dX6_draws_61 ?_
        refine zlld C0 hH zR14 rfl (by exact wr_X6b hs hct.1 (Int32.lt_of_lt_of_le (Int32.not_le.mp (by assumption)) gl.2)) dX6_draws_62 ?_
        refine lv_lstore (lv' := [(5, _), (0, _), (1, _), (2, _), (3, _), (4, _)]) hx hb dX6_draws_63 hl (by decide) rfl (fun ls hl => ?_)
        refine lv_lload hx hb dX6_draws_65 (lv_at hl 0 rfl) ?_
        refine lv_ldc2 (v := (-99 : Int64)) hx hb hown (hz _ kK_X6_238) dX6_draws_67 ?_
        refine W.lcmp hx hb dX6_draws_70 ?_
        refine lv_if_lt (tgt := 99) hx hb dX6_draws_71 (by decide) (fun c71_11 => ?_) (fun c71_11 => ?_)
        · have hres := zif_pos c71_11 hres
          refine ziinc (lv' := [(4, _), (5, _), (0, _), (1, _), (2, _), (3, _)]) (k := 5) hx hb (1 : Int32) (by decide) dX6_draws_99 hl rfl (by decide) rfl (fun ls hl => ?_)
          refine lv_goto (tgt := 40) hx hb dX6_draws_102 (by decide) ?_
          exact ih40 _ _ _ _ _ _ _ (by first | exact zCt.start (by decide) (by decide) | exact zCt.begin (by decide) (by decide) (by decide) | exact zCt.step (m := 40) hct (by first | assumption | exact Int32.not_le.mp (by assumption) | exact Int32.lt_of_lt_of_le (Int32.not_le.mp (by assumption)) gl.2) (by decide)) (by exact hV) (by first | assumption | (clear hres hz hts; grind [f_X6_in, f_X6_isBlock, f_X6_isAhead, f_X6_isSheet])) hH (lv_sub hl [2, 3, 4, 5, 0] rfl) hres
        · have hres := zif_neg c71_11 hres
          refine lv_lload hx hb dX6_draws_74 (lv_at hl 0 rfl) ?_
          refine lv_ldc2 (v := (99 : Int64)) hx hb hown (hz _ kK_X6_240) dX6_draws_76 ?_
          refine W.lcmp hx hb dX6_draws_79 ?_
          refine lv_if_gt (tgt := 99) hx hb dX6_draws_80 (by decide) (fun c80_12 => ?_) (fun c80_12 => ?_)
          · have hres := zif_pos c80_12 hres
            refine ziinc (lv' := [(4, _), (5, _), (0, _), (1, _), (2, _), (3, _)]) (k := 5) hx hb (1 : Int32) (by decide) dX6_draws_99 hl rfl (by decide) rfl (fun ls hl => ?_)
            refine lv_goto (tgt := 40) hx hb dX6_draws_102 (by decide) ?_
            exact ih40 _ _ _ _ _ _ _ (by first | exact zCt.start (by decide) (by decide) | exact zCt.begin (by decide) (by decide) (by decide) | exact zCt.step (m := 40) hct (by first | assumption | exact Int32.not_le.mp (by assumption) | exact Int32.lt_of_lt_of_le (Int32.not_le.mp (by assumption)) gl.2) (by decide)) (by exact hV) (by first | assumption | (clear hres hz hts; grind [f_X6_in, f_X6_isBlock, f_X6_isAhead, f_X6_isSheet])) hH (lv_sub hl [2, 3, 4, 5, 0] rfl) hres
          · have hres := zif_neg c80_12 hres
            refine lv_aload_n hx hb dX6_draws_83 rfl (lv_at hl 1 rfl) ?_
            refine zgR C0 hH zK6 0 (by decide) _ zR0 rfl kF_X6_9 dX6_draws_84 ?_
            refine lv_iconst (v := (2 : Int32)) hx hb dX6_draws_87 (by decide) ?_
            refine lv_lload hx hb dX6_draws_88 (lv_at hl 0 rfl) ?_
            refine lv_l2i hx hb dX6_draws_90 rfl ?_
            refine zastK C0 hH zS31.is zS31.ln (k := 2) (by decide) (by unfold vp_in; decide) zcn dX6_draws_91 (fun H locs hH => ?_)
            have hV := zVof hH (hV.to (sm_put1 (by decide)))
            refine lv_aload_n hx hb dX6_draws_92 rfl (lv_at hl 1 rfl) ?_
            have g0 := hH.many
            refine zcv (zrunV C0 hH (c_X6_tick l D cy ad _ (by exact hV)) kM_X6_140 zK6 kq_X6_tick zR0 rfl hl.1 rfl rfl rfl ⟨Nat.le_of_ble_eq_true rfl, Nat.le_of_ble_eq_true rfl⟩ (Nat.le_of_ble_eq_true rfl) dX6_draws_93) hH (fun H locs hH => ?_)
            have hV := zVof hH (hV.to (sm_tick g0))
            refine ziinc (lv' := [(3, _), (5, _), (0, _), (1, _), (2, _), (4, _)]) (k := 4) hx hb (1 : Int32) (by decide) dX6_draws_96 hl rfl (by decide) rfl (fun ls hl => ?_)
            refine ziinc (lv' := [(4, _), (3, _), (5, _), (0, _), (1, _), (2, _)]) (k := 5) hx hb (1 : Int32) (by decide) dX6_draws_99 hl rfl (by decide) rfl (fun ls hl => ?_)
            refine lv_goto (tgt := 40) hx hb dX6_draws_102 (by decide) ?_
            exact ih40 _ _ _ _ _ _ _ (by first | exact zCt.start (by decide) (by decide) | exact zCt.begin (by decide) (by decide) (by decide) | exact zCt.step (m := 40) hct (by first | assumption | exact Int32.not_le.mp (by assumption) | exact Int32.lt_of_lt_of_le (Int32.not_le.mp (by assumption)) gl.2) (by decide)) (by exact hV) (by first | assumption | (clear hres hz hts; grind [f_X6_in, f_X6_isBlock, f_X6_isAhead, f_X6_isSheet])) hH (lv_sub hl [3, 4, 5, 1, 0] rfl) hres
  refine lv_iload_n hx hb dX6_draws_0 rfl (lv_at hl 1 rfl) ?_
  have g0 := hH.many
  refine zcz (zrunS C0 hH (c_X6_isSheet l D cy ad _ _) kM_X6_174 kq_X6_isSheet rfl hl.1 rfl rfl rfl ⟨Nat.le_of_ble_eq_true rfl, Nat.le_of_ble_eq_true rfl⟩ (Nat.le_of_ble_eq_true rfl) dX6_draws_1) hH (fun H locs hH h01_1 => ?_)
  refine lv_if_ne (tgt := 13) hx hb dX6_draws_4 (by decide) (fun c4_3 => ?_) (fun c4_3 => ?_)
  · have hres := zif_neg c4_3 hres
    refine lv_aload_n hx hb dX6_draws_13 rfl (lv_at hl 0 rfl) ?_
    refine zgR C0 hH zK6 21 (by decide) _ zR0 rfl kF_X6_43 dX6_draws_14 ?_
    refine lv_iload_n hx hb dX6_draws_17 rfl (lv_at hl 1 rfl) ?_
    refine zald C0 hH (zR_i (by decide) (by decide)) rfl (by first | exact zin4.mpr hs | exact zin4.mpr (is_X6 ‹¬ f_X6_isSheet p1 = 0›)) dX6_draws_18 ?_
    refine lv_if_ne (tgt := 28) hx hb dX6_draws_19 (by decide) (fun c19_4 => ?_) (fun c19_4 => ?_)
    · have hres := zif_neg c19_4 hres
      refine lv_aload_n hx hb dX6_draws_28 rfl (lv_at hl 0 rfl) ?_
      refine zgR C0 hH zK6 0 (by decide) _ zR0 rfl kF_X6_9 dX6_draws_29 ?_
      refine lv_iconst (v := (2 : Int32)) hx hb dX6_draws_32 (by decide) ?_
      refine zaldK C0 hH zS31.is zS31.ln (k := 2) (by decide) (by unfold vp_in; decide) dX6_draws_33 ?_
      refine lv_istore_n (lv' := [(2, _), (0, _), (1, _)]) hx hb dX6_draws_34 rfl hl (by decide) rfl (fun ls hl => ?_)
      refine lv_iconst (v := (0 : Int32)) hx hb dX6_draws_35 (by decide) ?_
      refine lv_istore_n (lv' := [(3, _), (2, _), (0, _), (1, _)]) hx hb dX6_draws_36 rfl hl (by decide) rfl (fun ls hl => ?_)
      refine lv_iconst (v := (0 : Int32)) hx hb dX6_draws_37 (by decide) ?_
      refine lv_istore (lv' := [(4, _), (3, _), (2, _), (0, _), (1, _)]) hx hb dX6_draws_38 hl (by decide) rfl (fun ls hl => ?_)
      exact L40 (41) _ _ _ _ _ _ _ (by first | exact zCt.start (by decide) (by decide) | exact zCt.begin (by decide) (by decide) (by decide) | exact zCt.step (m := 40) hct (by first | assumption | exact Int32.not_le.mp (by assumption) | exact Int32.lt_of_lt_of_le (Int32.not_le.mp (by assumption)) gl.2) (by decide)) (by exact hV) (by first | assumption | (clear hres hz hts; grind [f_X6_in, f_X6_isBlock, f_X6_isAhead, f_X6_isSheet])) hH (lv_sub hl [3, 4, 2, 1, 0] rfl) hres
    · have hres := zif_pos c19_4 hres
      refine lv_aload_n hx hb dX6_draws_22 rfl (lv_at hl 0 rfl) ?_
      refine lv_iconst (v := (5 : Int32)) hx hb dX6_draws_23 (by decide) ?_
      have g0 := hH.many
      refine zci (zrunV C0 hH (c_X6_no l D cy ad _ _ (by decide)) kM_X6_85 zK6 kq_X6_no zR0 rfl hl.1 rfl rfl rfl ⟨Nat.le_of_ble_eq_true rfl, Nat.le_of_ble_eq_true rfl⟩ (Nat.le_of_ble_eq_true rfl) dX6_draws_24) hH (fun H locs hH => ?_)
      exact zreti C0 hH dX6_draws_27 (zfst hres) (zsnd hres)
  · have hres := zif_pos c4_3 hres
    refine lv_aload_n hx hb dX6_draws_7 rfl (lv_at hl 0 rfl) ?_
    refine lv_iconst (v := (0 : Int32)) hx hb dX6_draws_8 (by decide) ?_
    have g0 := hH.many
    refine zci (zrunV C0 hH (c_X6_no l D cy ad _ _ (by decide)) kM_X6_85 zK6 kq_X6_no zR0 rfl hl.1 rfl rfl rfl ⟨Nat.le_of_ble_eq_true rfl, Nat.le_of_ble_eq_true rfl⟩ (Nat.le_of_ble_eq_true rfl) dX6_draws_9) hH (fun H locs hH => ?_)
    exact zreti C0 hH dX6_draws_12 (zfst hres) (zsnd hres)
