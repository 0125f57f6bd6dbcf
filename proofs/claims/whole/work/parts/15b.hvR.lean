set_option maxRecDepth 100000 in
set_option maxHeartbeats 4000000 in
theorem c_X6_round (l : Launch) (D : va_G) (cy : Nat → ClassId) (ad : Nat → Nat) (M : zM) (hV : zVal M) : Met l yX6_round (Cond.code yX6_round cX6_round 3 (some .boolean) :: zG) ({ frames := 5, cells := 0, slots := 0, locals := 121 }) (zP D lyR cy ad [.ref (ad 0)] M) (zQz D lyR cy ad (f_X6_round M).1 (f_X6_round M).2) 0 0 (zA lyR ad) := by
  generalize hres : (f_X6_round M) = res
  refine zMet (by decide) (Nat.le_of_ble_eq_true rfl) ?_
  intro p e s m args below meth c ls C0 hH hl
  obtain ⟨⟨hx, hb, hml, hown, hts⟩, -⟩ := id C0
  have hz : ∀ w ∈ zG, w.before args s = true := fun w h => hts w (List.mem_cons_of_mem _ h)
  have hl : lv_has ls 3 [(0, .ref (ad 0))] := hl
  have g0 := hH.many
  have L33 : ∀ (n33 : Nat), ∀ (v1 : Int32) (v2 : Int32) (mm : zM) (H : Heap) (locs : List Loc) (ls : Array Slot), (zCt 10 n33 v2) → (zVal mm) → (v1 = 0 ∨ v1 = 1) → zH D lyR cy ad s.heap mm H locs → lv_has ls 3 [(0, .ref (ad 0)), (1, .int v1), (2, .int v2)] → f_X6_round_33 n33 v1 v2 mm = res → W p l e { frames := 5, cells := 0, slots := 0, locals := 121 } s m args below meth c H locs 0 0 (MQ below (zQz D lyR cy ad res.1 res.2) args s 0 0 (zA lyR ad)) (F0 m 33 ls []) := by
    intro n33
    induction n33 with
    | zero =>
      intro v1 v2 mm H locs ls hct hV h01 hH hl hres
      exfalso; exact hct.zero
    | succ n33 ih33 =>
      intro v1 v2 mm H locs ls hct hV h01 hH hl hres
      have gh := hH.many
      refine lv_iload_n hx hb dX6_round_33 rfl (lv_at hl 2 rfl) ?_
      refine lv_aload_n hx hb dX6_round_34 rfl (lv_at hl 0 rfl) ?_
      refine zgR C0 hH zK6 0 (by decide) _ zR0 rfl kF_X6_9 dX6_round_35 ?_
      refine lv_iconst (v := (0 : Int32)) hx hb dX6_round_38 (by decide) ?_
      refine zaldK C0 hH zS31.is zS31.ln (k := 0) (by decide) (by unfold vp_in; decide) dX6_round_39 ?_
      refine lv_icmp_ge (tgt := 133) hx hb dX6_round_40 (by decide) (fun c40_4 => ?_) (fun c40_4 => ?_)
      · have hres := zif_pos c40_4 hres
        refine lv_iload_n hx hb dX6_round_133 rfl (lv_at hl 1 rfl) ?_
        exact zretz C0 hH dX6_round_134 (by first | exact Or.inl rfl | exact Or.inr rfl | assumption) (zfst hres) (zsnd hres)
      · have hres := zif_neg c40_4 hres
        refine lv_aload_n hx hb dX6_round_43 rfl (lv_at hl 0 rfl) ?_
        refine zgR C0 hH zK6 7 (by decide) _ zR0 rfl kF_X6_25 dX6_round_44 ?_
        refine lv_iload_n hx hb dX6_round_47 rfl (lv_at hl 2 rfl) ?_
        refine lv_aload_n hx hb dX6_round_48 rfl (lv_at hl 0 rfl) ?_
        refine zgR C0 hH zK6 8 (by decide) _ zR0 rfl kF_X6_28 dX6_round_49 ?_
        refine lv_iload_n hx hb dX6_round_52 rfl (lv_at hl 2 rfl) ?_
        refine zald C0 hH (zR_i (by decide) (by decide)) rfl (by exact zin10.mpr (zb10 hct.1 (by assumption) gh.2)) dX6_round_53 ?_
        refine zast C0 hH (zR_i (by decide) (by decide)) rfl (by exact zin10.mpr (zb10 hct.1 (by assumption) gh.2)) zcn dX6_round_54 (fun H locs hH => ?_)
        have hV := zVof hH (hV.to (sm_put0 (by decide)))
        refine lv_aload_n hx hb dX6_round_55 rfl (lv_at hl 0 rfl) ?_
        refine zgR C0 hH zK6 8 (by decide) _ zR0 rfl kF_X6_28 dX6_round_56 ?_
        refine lv_iload_n hx hb dX6_round_59 rfl (lv_at hl 2 rfl) ?_
        refine zald C0 hH (zR_i (by decide) (by decide)) rfl (by exact zin10.mpr (zb10 hct.1 (by assumption) gh.2)) dX6_round_60 ?_
        refine lv_if_eq (tgt := 127) hx hb dX6_round_61 (by decide) (fun c61_6 => ?_) (fun c61_6 => ?_)
        · have hres := zif_pos c61_6 hres
          refine ziinc (lv' := [(2, _), (0, _), (1, _)]) (k := 2) hx hb (1 : Int32) (by decide) dX6_round_127 hl rfl (by decide) rfl (fun ls hl => ?_)
          refine lv_goto (tgt := 33) hx hb dX6_round_130 (by decide) ?_
          exact ih33 _ _ _ _ _ _ (by first | exact zCt.start (by decide) (by decide) | exact zCt.begin (by decide) (by decide) (by decide) | exact zCt.step (m := 10) hct (by first | assumption | exact Int32.not_le.mp (by assumption) | exact Int32.lt_of_lt_of_le (Int32.not_le.mp (by assumption)) gh.2) (by decide)) (by exact hV) (by first | exact Or.inl rfl | exact Or.inr rfl | assumption) hH (lv_sub hl [1, 2, 0] rfl) hres
        · have hres := zif_neg c61_6 hres
          refine lv_aload_n hx hb dX6_round_64 rfl (lv_at hl 0 rfl) ?_
          refine lv_iload_n hx hb dX6_round_65 rfl (lv_at hl 2 rfl) ?_
          refine lv_iconst (v := (5 : Int32)) hx hb dX6_round_66 (by decide) ?_
          refine lv_aload_n hx hb dX6_round_67 rfl (lv_at hl 0 rfl) ?_
          refine lv_iload_n hx hb dX6_round_68 rfl (lv_at hl 2 rfl) ?_
          refine lv_iconst (v := (5 : Int32)) hx hb dX6_round_69 (by decide) ?_
          have g0 := hH.many
          refine zci (zrunV C0 hH (c_X6_at l D cy ad _ _ _ (by exact zb10 hct.1 (by assumption) gh.2) (by decide)) kM_X6_61 zK6 kq_X6_at zR0 rfl hl.1 rfl rfl rfl ⟨Nat.le_of_ble_eq_true rfl, Nat.le_of_ble_eq_true rfl⟩ (Nat.le_of_ble_eq_true rfl) dX6_round_70) hH (fun H locs hH => ?_)
          refine lv_aload_n hx hb dX6_round_73 rfl (lv_at hl 0 rfl) ?_
          refine zgR C0 hH zK6 8 (by decide) _ zR0 rfl kF_X6_28 dX6_round_74 ?_
          refine lv_iload_n hx hb dX6_round_77 rfl (lv_at hl 2 rfl) ?_
          refine zald C0 hH (zR_i (by decide) (by decide)) rfl (by exact zin10.mpr (zb10 hct.1 (by assumption) gh.2)) dX6_round_78 ?_
          refine lv_iadd hx hb dX6_round_79 ?_
          have g0 := hH.many
          refine zci (zrunV C0 hH (c_X6_become l D cy ad _ _ _ _ (by exact zb10 hct.1 (by assumption) gh.2) (by decide)) kM_X6_88 zK6 kq_X6_become zR0 rfl hl.1 rfl rfl rfl ⟨Nat.le_of_ble_eq_true rfl, Nat.le_of_ble_eq_true rfl⟩ (Nat.le_of_ble_eq_true rfl) dX6_round_80) hH (fun H locs hH => ?_)
          have hV := zVof hH (hV.to (sm_become (zb10 hct.1 (by assumption) gh.2) (by decide)))
          refine lv_pop hx hb dX6_round_83 rfl ?_
          refine lv_aload_n hx hb dX6_round_84 rfl (lv_at hl 0 rfl) ?_
          refine lv_dup hx hb dX6_round_85 rfl ?_
          refine zgI C0 hH zK6 9 (by decide) zR0 rfl kF_X6_108 dX6_round_86 ?_
          refine lv_iconst (v := (1 : Int32)) hx hb dX6_round_89 (by decide) ?_
          refine lv_iload_n hx hb dX6_round_90 rfl (lv_at hl 2 rfl) ?_
          refine lv_ishl hx hb dX6_round_91 ?_
          refine lv_ior hx hb dX6_round_92 ?_
          refine zp C0 hH zK6 9 (by decide) zR0 rfl rfl zOk_int zcn kF_X6_108 dX6_round_93 (fun H locs hH => ?_)
          have hV := zVof hH (hV.to (sm_put0 (by decide)))
          refine lv_aload_n hx hb dX6_round_96 rfl (lv_at hl 0 rfl) ?_
          refine lv_dup hx hb dX6_round_97 rfl ?_
          refine zgI C0 hH zK6 10 (by decide) zR0 rfl kF_X6_124 dX6_round_98 ?_
          refine lv_iconst (v := (1 : Int32)) hx hb dX6_round_101 (by decide) ?_
          refine lv_iadd hx hb dX6_round_102 ?_
          refine zp C0 hH zK6 10 (by decide) zR0 rfl rfl zOk_int zcn kF_X6_124 dX6_round_103 (fun H locs hH => ?_)
          have hV := zVof hH (hV.to (sm_put0 (by decide)))
          refine lv_aload_n hx hb dX6_round_106 rfl (lv_at hl 0 rfl) ?_
          refine lv_dup hx hb dX6_round_107 rfl ?_
          refine zgI C0 hH zK6 11 (by decide) zR0 rfl kF_X6_127 dX6_round_108 ?_
          refine lv_aload_n hx hb dX6_round_111 rfl (lv_at hl 0 rfl) ?_
          refine zgR C0 hH zK6 8 (by decide) _ zR0 rfl kF_X6_28 dX6_round_112 ?_
          refine lv_iload_n hx hb dX6_round_115 rfl (lv_at hl 2 rfl) ?_
          refine zald C0 hH (zR_i (by decide) (by decide)) rfl (by exact zin10.mpr (zb10 hct.1 (by assumption) gh.2)) dX6_round_116 ?_
          have g0 := hH.many
          refine zcl (zrunS C0 hH (c_X6_without l D cy ad _ _) kM_X6_112 kq_X6_without rfl hl.1 rfl rfl rfl ⟨Nat.le_of_ble_eq_true rfl, Nat.le_of_ble_eq_true rfl⟩ (Nat.le_of_ble_eq_true rfl) dX6_round_117) hH (fun H locs hH => ?_)
          refine lv_l2i hx hb dX6_round_120 rfl ?_
          refine lv_iadd hx hb dX6_round_121 ?_
          refine zp C0 hH zK6 11 (by decide) zR0 rfl rfl zOk_int zcn kF_X6_127 dX6_round_122 (fun H locs hH => ?_)
          have hV := zVof hH (hV.to (sm_put0 (by decide)))
          refine lv_iconst (v := (1 : Int32)) hx hb dX6_round_125 (by decide) ?_
          refine lv_istore_n (lv' := [(1, _), (0, _), (2, _)]) hx hb dX6_round_126 rfl hl (by decide) rfl (fun ls hl => ?_)
          refine ziinc (lv' := [(2, _), (1, _), (0, _)]) (k := 2) hx hb (1 : Int32) (by decide) dX6_round_127 hl rfl (by decide) rfl (fun ls hl => ?_)
          refine lv_goto (tgt := 33) hx hb dX6_round_130 (by decide) ?_
          exact ih33 _ _ _ _ _ _ (by first | exact zCt.start (by decide) (by decide) | exact zCt.begin (by decide) (by decide) (by decide) | exact zCt.step (m := 10) hct (by first | assumption | exact Int32.not_le.mp (by assumption) | exact Int32.lt_of_lt_of_le (Int32.not_le.mp (by assumption)) gh.2) (by decide)) (by exact hV) (by first | exact Or.inl rfl | exact Or.inr rfl | assumption) hH (lv_sub hl [2, 1, 0] rfl) hres
  have L4 : ∀ (n4 : Nat), ∀ (v1 : Int32) (v2 : Int32) (mm : zM) (H : Heap) (locs : List Loc) (ls : Array Slot), (zCt 10 n4 v2) → (zVal mm) → (v1 = 0 ∨ v1 = 1) → zH D lyR cy ad s.heap mm H locs → lv_has ls 3 [(0, .ref (ad 0)), (1, .int v1), (2, .int v2)] → f_X6_round_4 n4 v1 v2 mm = res → W p l e { frames := 5, cells := 0, slots := 0, locals := 121 } s m args below meth c H locs 0 0 (MQ below (zQz D lyR cy ad res.1 res.2) args s 0 0 (zA lyR ad)) (F0 m 4 ls []) := by
    intro n4
    induction n4 with
    | zero =>
      intro v1 v2 mm H locs ls hct hV h01 hH hl hres
      exfalso; exact hct.zero
    | succ n4 ih4 =>
      intro v1 v2 mm H locs ls hct hV h01 hH hl hres
      have gh := hH.many
      refine lv_iload_n hx hb dX6_round_4 rfl (lv_at hl 2 rfl) ?_
      refine lv_aload_n hx hb dX6_round_5 rfl (lv_at hl 0 rfl) ?_
      refine zgR C0 hH zK6 0 (by decide) _ zR0 rfl kF_X6_9 dX6_round_6 ?_
      refine lv_iconst (v := (0 : Int32)) hx hb dX6_round_9 (by decide) ?_
      refine zaldK C0 hH zS31.is zS31.ln (k := 0) (by decide) (by unfold vp_in; decide) dX6_round_10 ?_
      refine lv_icmp_ge (tgt := 31) hx hb dX6_round_11 (by decide) (fun c11_1 => ?_) (fun c11_1 => ?_)
      · have hres := zif_pos c11_1 hres
        refine lv_iconst (v := (0 : Int32)) hx hb dX6_round_31 (by decide) ?_
        refine lv_istore_n (lv' := [(2, _), (0, _), (1, _)]) hx hb dX6_round_32 rfl hl (by decide) rfl (fun ls hl => ?_)
        exact L33 (11) _ _ _ _ _ _ (by first | exact zCt.start (by decide) (by decide) | exact zCt.begin (by decide) (by decide) (by decide) | exact zCt.step (m := 10) hct (by first | assumption | exact Int32.not_le.mp (by assumption) | exact Int32.lt_of_lt_of_le (Int32.not_le.mp (by assumption)) gh.2) (by decide)) (by exact hV) (by first | exact Or.inl rfl | exact Or.inr rfl | assumption) hH (lv_sub hl [1, 2, 0] rfl) hres
      · have hres := zif_neg c11_1 hres
        refine lv_aload_n hx hb dX6_round_14 rfl (lv_at hl 0 rfl) ?_
        refine zgR C0 hH zK6 8 (by decide) _ zR0 rfl kF_X6_28 dX6_round_15 ?_
        refine lv_iload_n hx hb dX6_round_18 rfl (lv_at hl 2 rfl) ?_
        refine lv_aload_n hx hb dX6_round_19 rfl (lv_at hl 0 rfl) ?_
        refine lv_iload_n hx hb dX6_round_20 rfl (lv_at hl 2 rfl) ?_
        have g0 := hH.many
        refine zci (zrunV C0 hH (c_X6_stepsOf l D cy ad _ _ (by exact hV) (by first | assumption | exact ⟨hct.1, Int32.not_le.mp (by assumption)⟩)) kM_X6_121 zK6 kq_X6_stepsOf zR0 rfl hl.1 rfl rfl rfl ⟨Nat.le_of_ble_eq_true rfl, Nat.le_of_ble_eq_true rfl⟩ (Nat.le_of_ble_eq_true rfl) dX6_round_21) hH (fun H locs hH => ?_)
        have hV := zVof hH (hV.to (sm_row rw_stepsOf))
        refine zast C0 hH (zR_i (by decide) (by decide)) rfl (by exact zin10.mpr (zb10 hct.1 (by assumption) gh.2)) zcn dX6_round_24 (fun H locs hH => ?_)
        have hV := zVof hH (hV.to (sm_put0 (by decide)))
        refine ziinc (lv' := [(2, _), (0, _), (1, _)]) (k := 2) hx hb (1 : Int32) (by decide) dX6_round_25 hl rfl (by decide) rfl (fun ls hl => ?_)
        refine lv_goto (tgt := 4) hx hb dX6_round_28 (by decide) ?_
        exact ih4 _ _ _ _ _ _ (by first | exact zCt.start (by decide) (by decide) | exact zCt.begin (by decide) (by decide) (by decide) | exact zCt.step (m := 10) hct (by first | assumption | exact Int32.not_le.mp (by assumption) | exact Int32.lt_of_lt_of_le (Int32.not_le.mp (by assumption)) gh.2) (by decide)) (by exact hV) (by first | exact Or.inl rfl | exact Or.inr rfl | assumption) hH (lv_sub hl [1, 2, 0] rfl) hres
  refine lv_iconst (v := (0 : Int32)) hx hb dX6_round_0 (by decide) ?_
  refine lv_istore_n (lv' := [(1, _), (0, _)]) hx hb dX6_round_1 rfl hl (by decide) rfl (fun ls hl => ?_)
  refine lv_iconst (v := (0 : Int32)) hx hb dX6_round_2 (by decide) ?_
  refine lv_istore_n (lv' := [(2, _), (1, _), (0, _)]) hx hb dX6_round_3 rfl hl (by decide) rfl (fun ls hl => ?_)
  exact L4 (11) _ _ _ _ _ _ (by first | exact zCt.start (by decide) (by decide) | exact zCt.begin (by decide) (by decide) (by decide) | exact zCt.step (m := 10) hct (by first | assumption | exact Int32.not_le.mp (by assumption) | exact Int32.lt_of_lt_of_le (Int32.not_le.mp (by assumption)) gh.2) (by decide)) (by exact hV) (by first | exact Or.inl rfl | exact Or.inr rfl | assumption) hH (lv_sub hl [2, 1, 0] rfl) hres
set_option maxRecDepth 100000 in
set_option maxHeartbeats 4000000 in
theorem c_X6_tick (l : Launch) (D : va_G) (cy : Nat → ClassId) (ad : Nat → Nat) (M : zM) (hV : zVal M) : Met l yX6_tick (Cond.code yX6_tick cX6_tick 5 none :: zG) ({ frames := 6, cells := 0, slots := 0, locals := 143 }) (zP D lyR cy ad [.ref (ad 0)] M) (zQv D lyR cy ad (f_X6_tick M)) 0 0 (zA lyR ad) := by
  generalize hres : (f_X6_tick M) = res
  refine zMet (by decide) (Nat.le_of_ble_eq_true rfl) ?_
  intro p e s m args below meth c ls C0 hH hl
  obtain ⟨⟨hx, hb, hml, hown, hts⟩, -⟩ := id C0
  have hz : ∀ w ∈ zG, w.before args s = true := fun w h => hts w (List.mem_cons_of_mem _ h)
  have hl : lv_has ls 5 [(0, .ref (ad 0))] := hl
  have g0 := hH.many
  have L100 : ∀ (n100 : Nat), ∀ (v3 : Int32) (mm : zM) (H : Heap) (locs : List Loc) (ls : Array Slot), (zCt 10 n100 v3) → (zVal mm) → zH D lyR cy ad s.heap mm H locs → lv_has ls 5 [(0, .ref (ad 0)), (3, .int v3)] → f_X6_tick_100 n100 v3 mm = res → W p l e { frames := 6, cells := 0, slots := 0, locals := 143 } s m args below meth c H locs 0 0 (MQ below (zQv D lyR cy ad res) args s 0 0 (zA lyR ad)) (F0 m 100 ls []) := by
    intro n100
    induction n100 with
    | zero =>
      intro v3 mm H locs ls hct hV hH hl hres
      exfalso; exact hct.zero
    | succ n100 ih100 =>
      have J190 : ∀ (v3 : Int32) (s0 : Int32) (s1 : Int32) (s2 : Int32) (mm : zM) (H : Heap) (locs : List Loc) (ls : Array Slot), (zCt 10 (n100 + 1) v3) → (v3 < 10) → (zVal mm) → (0 ≤ s1 ∧ s1 ≤ 6) → (0 ≤ s2 ∧ s2 < 10) → zH D lyR cy ad s.heap mm H locs → lv_has ls 5 [(0, .ref (ad 0)), (3, .int v3)] → f_X6_tick_190 (fun wv3 wmm => f_X6_tick_100 n100 wv3 wmm) v3 s0 s1 s2 mm = res → W p l e { frames := 6, cells := 0, slots := 0, locals := 143 } s m args below meth c H locs 0 0 (MQ below (zQv D lyR cy ad res) args s 0 0 (zA lyR ad)) (F0 m 190 ls [.int s0, .int s1, .int s2, .ref (ad 0)]) := by
        intro v3 s0 s1 s2 mm H locs ls hct hv hV h1 h2 hH hl hres
        have g0 := hH.many
        refine zci (zrunV C0 hH (c_X6_become l D cy ad _ _ _ _ (by exact h2) (by exact h1)) kM_X6_88 zK6 kq_X6_become zR0 rfl hl.1 rfl rfl rfl ⟨Nat.le_of_ble_eq_true rfl, Nat.le_of_ble_eq_true rfl⟩ (Nat.le_of_ble_eq_true rfl) dX6_tick_190) hH (fun H locs hH => ?_)
        have hV := zVof hH (hV.to (sm_become h2 h1))
        refine lv_pop hx hb dX6_tick_193 rfl ?_
        refine ziinc (lv' := [(3, _), (0, _)]) (k := 1) hx hb (1 : Int32) (by decide) dX6_tick_194 hl rfl (by decide) rfl (fun ls hl => ?_)
        refine lv_goto (tgt := 100) hx hb dX6_tick_197 (by decide) ?_
        exact ih100 _ _ _ _ _ (by first | exact zCt.start (by decide) (by decide) | exact zCt.begin (by decide) (by decide) (by decide) | exact zCt.step (m := 10) hct (by first | assumption | exact Int32.not_le.mp (by assumption) | exact Int32.lt_of_lt_of_le (Int32.not_le.mp (by assumption)) gh.2) (by decide)) (by exact hV) hH (lv_sub hl [1, 0] rfl) hres
      have J157 : ∀ (v3 : Int32) (v4 : Int32) (s0 : Int32) (s1 : Int32) (s2 : Int32) (mm : zM) (H : Heap) (locs : List Loc) (ls : Array Slot), (zCt 10 (n100 + 1) v3) → (v3 < 10) → (zVal mm) → (0 ≤ s1 ∧ s1 ≤ 6) → (0 ≤ s2 ∧ s2 < 10) → zH D lyR cy ad s.heap mm H locs → lv_has ls 5 [(0, .ref (ad 0)), (3, .int v3), (4, .int v4)] → f_X6_tick_157 (fun wv3 wmm => f_X6_tick_100 n100 wv3 wmm) v3 v4 s0 s1 s2 mm = res → W p l e { frames := 6, cells := 0, slots := 0, locals := 143 } s m args below meth c H locs 0 0 (MQ below (zQv D lyR cy ad res) args s 0 0 (zA lyR ad)) (F0 m 157 ls [.int s0, .int s1, .int s2, .ref (ad 0)]) := by
        intro v3 v4 s0 s1 s2 mm H locs ls hct hv hV h1 h2 hH hl hres
        have g0 := hH.many
        refine zci (zrunV C0 hH (c_X6_become l D cy ad _ _ _ _ (by exact h2) (by exact h1)) kM_X6_88 zK6 kq_X6_become zR0 rfl hl.1 rfl rfl rfl ⟨Nat.le_of_ble_eq_true rfl, Nat.le_of_ble_eq_true rfl⟩ (Nat.le_of_ble_eq_true rfl) dX6_tick_157) hH (fun H locs hH => ?_)
        have hV := zVof hH (hV.to (sm_become h2 h1))
        refine lv_pop hx hb dX6_tick_160 rfl ?_
        refine lv_aload_n hx hb dX6_tick_161 rfl (lv_at hl 0 rfl) ?_
        refine lv_iload_n hx hb dX6_tick_162 rfl (lv_at hl 1 rfl) ?_
        refine lv_iconst (v := (4 : Int32)) hx hb dX6_tick_163 (by decide) ?_
        refine lv_iload hx hb dX6_tick_164 (lv_at hl 2 rfl) ?_
        refine lv_if_eq (tgt := 184) hx hb dX6_tick_166 (by decide) (fun c166_24 => ?_) (fun c166_24 => ?_)
        · have hres := zif_pos c166_24 hres
          refine lv_aload_n hx hb dX6_tick_184 rfl (lv_at hl 0 rfl) ?_
          refine lv_iload_n hx hb dX6_tick_185 rfl (lv_at hl 1 rfl) ?_
          refine lv_iconst (v := (4 : Int32)) hx hb dX6_tick_186 (by decide) ?_
          have g0 := hH.many
          refine zci (zrunV C0 hH (c_X6_at l D cy ad _ _ _ (by exact ⟨hct.1, hv⟩) (by decide)) kM_X6_61 zK6 kq_X6_at zR0 rfl hl.1 rfl rfl rfl ⟨Nat.le_of_ble_eq_true rfl, Nat.le_of_ble_eq_true rfl⟩ (Nat.le_of_ble_eq_true rfl) dX6_tick_187) hH (fun H locs hH => ?_)
          exact J190 _ _ _ _ _ _ _ _ (by exact hct) (by first | exact hv | exact (zb10 hct.1 (by assumption) gh.2).2) (by exact hV) (by first | decide | assumption) (by first | assumption | exact ⟨hct.1, hv⟩) hH (lv_sub hl [0, 1] rfl) hres
        · have hres := zif_neg c166_24 hres
          refine lv_iconst (v := (0 : Int32)) hx hb dX6_tick_169 (by decide) ?_
          refine lv_aload_n hx hb dX6_tick_170 rfl (lv_at hl 0 rfl) ?_
          refine lv_iload_n hx hb dX6_tick_171 rfl (lv_at hl 1 rfl) ?_
          refine lv_iconst (v := (4 : Int32)) hx hb dX6_tick_172 (by decide) ?_
          have g0 := hH.many
          refine zci (zrunV C0 hH (c_X6_at l D cy ad _ _ _ (by exact ⟨hct.1, hv⟩) (by decide)) kM_X6_61 zK6 kq_X6_at zR0 rfl hl.1 rfl rfl rfl ⟨Nat.le_of_ble_eq_true rfl, Nat.le_of_ble_eq_true rfl⟩ (Nat.le_of_ble_eq_true rfl) dX6_tick_173) hH (fun H locs hH => ?_)
          refine lv_iconst (v := (1 : Int32)) hx hb dX6_tick_176 (by decide) ?_
          refine lv_isub hx hb dX6_tick_177 ?_
          have g0 := hH.many
          refine zci (zrunS C0 hH (c_X6_greater l D cy ad _ _ _) kM_X6_71 kq_X6_greater rfl hl.1 rfl rfl rfl ⟨Nat.le_of_ble_eq_true rfl, Nat.le_of_ble_eq_true rfl⟩ (Nat.le_of_ble_eq_true rfl) dX6_tick_178) hH (fun H locs hH => ?_)
          refine lv_goto (tgt := 190) hx hb dX6_tick_181 (by decide) ?_
          exact J190 _ _ _ _ _ _ _ _ (by exact hct) (by first | exact hv | exact (zb10 hct.1 (by assumption) gh.2).2) (by exact hV) (by first | decide | assumption) (by first | assumption | exact ⟨hct.1, hv⟩) hH (lv_sub hl [0, 1] rfl) hres
      have J127 : ∀ (v3 : Int32) (s0 : Int32) (mm : zM) (H : Heap) (locs : List Loc) (ls : Array Slot), (zCt 10 (n100 + 1) v3) → (v3 < 10) → (zVal mm) → zH D lyR cy ad s.heap mm H locs → lv_has ls 5 [(0, .ref (ad 0)), (3, .int v3)] → f_X6_tick_127 (fun wv3 wmm => f_X6_tick_100 n100 wv3 wmm) v3 s0 mm = res → W p l e { frames := 6, cells := 0, slots := 0, locals := 143 } s m args below meth c H locs 0 0 (MQ below (zQv D lyR cy ad res) args s 0 0 (zA lyR ad)) (F0 m 127 ls [.int s0]) := by
        intro v3 s0 mm H locs ls hct hv hV hH hl hres
        refine lv_istore (lv' := [(4, _), (0, _), (3, _)]) hx hb dX6_tick_127 hl (by decide) rfl (fun ls hl => ?_)
        refine lv_aload_n hx hb dX6_tick_129 rfl (lv_at hl 1 rfl) ?_
        refine lv_iload_n hx hb dX6_tick_130 rfl (lv_at hl 2 rfl) ?_
        refine lv_bipush (v := (6 : Int32)) hx hb dX6_tick_131 (by decide) ?_
        refine lv_iload hx hb dX6_tick_133 (lv_at hl 0 rfl) ?_
        refine lv_if_eq (tgt := 142) hx hb dX6_tick_135 (by decide) (fun c135_20 => ?_) (fun c135_20 => ?_)
        · have hres := zif_pos c135_20 hres
          refine lv_sipush (v := (999 : Int32)) hx hb dX6_tick_142 (by decide) ?_
          refine lv_aload_n hx hb dX6_tick_145 rfl (lv_at hl 1 rfl) ?_
          refine lv_iload_n hx hb dX6_tick_146 rfl (lv_at hl 2 rfl) ?_
          refine lv_bipush (v := (6 : Int32)) hx hb dX6_tick_147 (by decide) ?_
          have g0 := hH.many
          refine zci (zrunV C0 hH (c_X6_at l D cy ad _ _ _ (by exact ⟨hct.1, hv⟩) (by decide)) kM_X6_61 zK6 kq_X6_at zR0 rfl hl.1 rfl rfl rfl ⟨Nat.le_of_ble_eq_true rfl, Nat.le_of_ble_eq_true rfl⟩ (Nat.le_of_ble_eq_true rfl) dX6_tick_149) hH (fun H locs hH => ?_)
          refine lv_iconst (v := (1 : Int32)) hx hb dX6_tick_152 (by decide) ?_
          refine lv_iadd hx hb dX6_tick_153 ?_
          have g0 := hH.many
          refine zci (zrunS C0 hH (c_X6_lesser l D cy ad _ _ _) kM_X6_65 kq_X6_lesser rfl hl.1 rfl rfl rfl ⟨Nat.le_of_ble_eq_true rfl, Nat.le_of_ble_eq_true rfl⟩ (Nat.le_of_ble_eq_true rfl) dX6_tick_154) hH (fun H locs hH => ?_)
          exact J157 _ _ _ _ _ _ _ _ _ (by exact hct) (by first | exact hv | exact (zb10 hct.1 (by assumption) gh.2).2) (by exact hV) (by first | decide | assumption) (by first | assumption | exact ⟨hct.1, hv⟩) hH (lv_sub hl [1, 2, 0] rfl) hres
        · have hres := zif_neg c135_20 hres
          refine lv_iconst (v := (0 : Int32)) hx hb dX6_tick_138 (by decide) ?_
          refine lv_goto (tgt := 157) hx hb dX6_tick_139 (by decide) ?_
          exact J157 _ _ _ _ _ _ _ _ _ (by exact hct) (by first | exact hv | exact (zb10 hct.1 (by assumption) gh.2).2) (by exact hV) (by first | decide | assumption) (by first | assumption | exact ⟨hct.1, hv⟩) hH (lv_sub hl [1, 2, 0] rfl) hres
      intro v3 mm H locs ls hct hV hH hl hres
      have gh := hH.many
      refine lv_iload_n hx hb dX6_tick_100 rfl (lv_at hl 1 rfl) ?_
      refine lv_aload_n hx hb dX6_tick_101 rfl (lv_at hl 0 rfl) ?_
      refine zgR C0 hH zK6 0 (by decide) _ zR0 rfl kF_X6_9 dX6_tick_102 ?_
      refine lv_iconst (v := (0 : Int32)) hx hb dX6_tick_105 (by decide) ?_
      refine zaldK C0 hH zS31.is zS31.ln (k := 0) (by decide) (by unfold vp_in; decide) dX6_tick_106 ?_
      refine lv_icmp_ge (tgt := 200) hx hb dX6_tick_107 (by decide) (fun c107_14 => ?_) (fun c107_14 => ?_)
      · have hres := zif_pos c107_14 hres
        refine lv_aload_n hx hb dX6_tick_200 rfl (lv_at hl 0 rfl) ?_
        refine zgR C0 hH zK6 0 (by decide) _ zR0 rfl kF_X6_9 dX6_tick_201 ?_
        refine lv_iconst (v := (3 : Int32)) hx hb dX6_tick_204 (by decide) ?_
        refine lv_dup2_11 hx hb dX6_tick_205 rfl rfl ?_
        refine zaldK C0 hH zS31.is zS31.ln (k := 3) (by decide) (by unfold vp_in; decide) dX6_tick_206 ?_
        refine lv_iconst (v := (1 : Int32)) hx hb dX6_tick_207 (by decide) ?_
        refine lv_iadd hx hb dX6_tick_208 ?_
        refine zastK C0 hH zS31.is zS31.ln (k := 3) (by decide) (by unfold vp_in; decide) zcn dX6_tick_209 (fun H locs hH => ?_)
        have hV := zVof hH (hV.to (sm_put1 (by decide)))
        refine lv_aload_n hx hb dX6_tick_210 rfl (lv_at hl 0 rfl) ?_
        refine zgR C0 hH zK6 0 (by decide) _ zR0 rfl kF_X6_9 dX6_tick_211 ?_
        refine lv_bipush (v := (6 : Int32)) hx hb dX6_tick_214 (by decide) ?_
        refine lv_aload_n hx hb dX6_tick_216 rfl (lv_at hl 0 rfl) ?_
        refine zgI C0 hH zK6 10 (by decide) zR0 rfl kF_X6_124 dX6_tick_217 ?_
        have g0 := hH.many
        refine zci (zrunS C0 hH (c_X6_classOf l D cy ad _ _) kM_X6_134 kq_X6_classOf rfl hl.1 rfl rfl rfl ⟨Nat.le_of_ble_eq_true rfl, Nat.le_of_ble_eq_true rfl⟩ (Nat.le_of_ble_eq_true rfl) dX6_tick_220) hH (fun H locs hH => ?_)
        refine lv_iadd hx hb dX6_tick_223 ?_
        refine lv_dup2_11 hx hb dX6_tick_224 rfl rfl ?_
        refine zald C0 hH zS31.is zS31.ln (by exact zoff 6 6 (cls_X6 _).1 (cls_X6 _).2 (by decide)) dX6_tick_225 ?_
        refine lv_iconst (v := (1 : Int32)) hx hb dX6_tick_226 (by decide) ?_
        refine lv_iadd hx hb dX6_tick_227 ?_
        refine zast C0 hH zS31.is zS31.ln (by exact zoff 6 6 (cls_X6 _).1 (cls_X6 _).2 (by decide)) (by exact zfit12 (cls_X6 _)) dX6_tick_228 (fun H locs hH => ?_)
        have hV := zVof hH (hV.to (sm_put12 (cls_X6 _)))
        refine lv_aload_n hx hb dX6_tick_229 rfl (lv_at hl 0 rfl) ?_
        have g0 := hH.many
        refine zcv (zrunV C0 hH (c_X6_books l D cy ad _) kM_X6_137 zK6 kq_X6_books zR0 rfl hl.1 rfl rfl rfl ⟨Nat.le_of_ble_eq_true rfl, Nat.le_of_ble_eq_true rfl⟩ (Nat.le_of_ble_eq_true rfl) dX6_tick_230) hH (fun H locs hH => ?_)
        have hV := zVof hH (hV.to sm_books)
        exact zretv C0 hH dX6_tick_233 hres
      · have hres := zif_neg c107_14 hres
        refine lv_aload_n hx hb dX6_tick_110 rfl (lv_at hl 0 rfl) ?_
        refine zgI C0 hH zK6 9 (by decide) zR0 rfl kF_X6_108 dX6_tick_111 ?_
        refine lv_iload_n hx hb dX6_tick_114 rfl (lv_at hl 1 rfl) ?_
        refine lv_ishr hx hb dX6_tick_115 ?_
        refine lv_iconst (v := (1 : Int32)) hx hb dX6_tick_116 (by decide) ?_
        refine lv_iand hx hb dX6_tick_117 ?_
        refine lv_iconst (v := (1 : Int32)) hx hb dX6_tick_118 (by decide) ?_
        refine lv_icmp_ne (tgt := 126) hx hb dX6_tick_119 (by decide) (fun c119_19 => ?_) (fun c119_19 => ?_)
        · have hres := zif_neg c119_19 hres
          refine lv_iconst (v := (0 : Int32)) hx hb dX6_tick_126 (by decide) ?_
          exact J127 _ _ _ _ _ _ (by exact hct) (by first | exact hv | exact (zb10 hct.1 (by assumption) gh.2).2) (by exact hV) hH (lv_sub hl [0, 1] rfl) hres
        · have hres := zif_pos c119_19 hres
          refine lv_iconst (v := (1 : Int32)) hx hb dX6_tick_122 (by decide) ?_
          refine lv_goto (tgt := 127) hx hb dX6_tick_123 (by decide) ?_
          exact J127 _ _ _ _ _ _ (by exact hct) (by first | exact hv | exact (zb10 hct.1 (by assumption) gh.2).2) (by exact hV) hH (lv_sub hl [0, 1] rfl) hres
  have J96 : ∀ (s0 : Int32) (s1 : Int32) (s2 : Int32) (mm : zM) (H : Heap) (locs : List Loc) (ls : Array Slot), (zVal mm) → (s2 = 4) → zH D lyR cy ad s.heap mm H locs → lv_has ls 5 [(0, .ref (ad 0))] → f_X6_tick_96 s0 s1 s2 mm = res → W p l e { frames := 6, cells := 0, slots := 0, locals := 143 } s m args below meth c H locs 0 0 (MQ below (zQv D lyR cy ad res) args s 0 0 (zA lyR ad)) (F0 m 96 ls [.int s0, .int s1, .int s2, .ref (ad 1)]) := by
    intro s0 s1 s2 mm H locs ls hV h4 hH hl hres
    refine lv_iadd hx hb dX6_tick_96 ?_
    refine zast C0 hH zS31.is zS31.ln (by rw [h4]; unfold vp_in; decide) (by rw [h4]; exact zcn) dX6_tick_97 (fun H locs hH => ?_)
    have hV := zVof hH (hV.to (by rw [h4]; exact sm_put1 (by decide)))
    refine lv_iconst (v := (0 : Int32)) hx hb dX6_tick_98 (by decide) ?_
    refine lv_istore_n (lv' := [(3, _), (0, _)]) hx hb dX6_tick_99 rfl hl (by decide) rfl (fun ls hl => ?_)
    exact L100 (11) _ _ _ _ _ (by first | exact zCt.start (by decide) (by decide) | exact zCt.begin (by decide) (by decide) (by decide) | exact zCt.step (m := 10) hct (by first | assumption | exact Int32.not_le.mp (by assumption) | exact Int32.lt_of_lt_of_le (Int32.not_le.mp (by assumption)) gh.2) (by decide)) (by exact hV) hH (lv_sub hl [1, 0] rfl) hres
  have J80 : ∀ (v2 : Int32) (mm : zM) (H : Heap) (locs : List Loc) (ls : Array Slot), (zVal mm) → zH D lyR cy ad s.heap mm H locs → lv_has ls 5 [(0, .ref (ad 0)), (2, .int v2)] → f_X6_tick_80 v2 mm = res → W p l e { frames := 6, cells := 0, slots := 0, locals := 143 } s m args below meth c H locs 0 0 (MQ below (zQv D lyR cy ad res) args s 0 0 (zA lyR ad)) (F0 m 80 ls []) := by
    intro v2 mm H locs ls hV hH hl hres
    refine lv_aload_n hx hb dX6_tick_80 rfl (lv_at hl 0 rfl) ?_
    refine zgR C0 hH zK6 0 (by decide) _ zR0 rfl kF_X6_9 dX6_tick_81 ?_
    refine lv_iconst (v := (4 : Int32)) hx hb dX6_tick_84 (by decide) ?_
    refine lv_dup2_11 hx hb dX6_tick_85 rfl rfl ?_
    refine zaldK C0 hH zS31.is zS31.ln (k := 4) (by decide) (by unfold vp_in; decide) dX6_tick_86 ?_
    refine lv_iload_n hx hb dX6_tick_87 rfl (lv_at hl 1 rfl) ?_
    refine lv_if_eq (tgt := 95) hx hb dX6_tick_88 (by decide) (fun c88_12 => ?_) (fun c88_12 => ?_)
    · have hres := zif_pos c88_12 hres
      refine lv_iconst (v := (0 : Int32)) hx hb dX6_tick_95 (by decide) ?_
      exact J96 _ _ _ _ _ _ _ (by exact hV) (by rfl) hH (lv_sub hl [0] rfl) hres
    · have hres := zif_neg c88_12 hres
      refine lv_iconst (v := (1 : Int32)) hx hb dX6_tick_91 (by decide) ?_
      refine lv_goto (tgt := 96) hx hb dX6_tick_92 (by decide) ?_
      exact J96 _ _ _ _ _ _ _ (by exact hV) (by rfl) hH (lv_sub hl [0] rfl) hres
  have L59 : ∀ (n59 : Nat), ∀ (v1 : Int32) (v2 : Int32) (mm : zM) (H : Heap) (locs : List Loc) (ls : Array Slot), (zCt 40 n59 v1) → (zVal mm) → zH D lyR cy ad s.heap mm H locs → lv_has ls 5 [(0, .ref (ad 0)), (1, .int v1), (2, .int v2)] → f_X6_tick_59 n59 v1 v2 mm = res → W p l e { frames := 6, cells := 0, slots := 0, locals := 143 } s m args below meth c H locs 0 0 (MQ below (zQv D lyR cy ad res) args s 0 0 (zA lyR ad)) (F0 m 59 ls []) := by
    intro n59
    induction n59 with
    | zero =>
      intro v1 v2 mm H locs ls hct hV hH hl hres
      exfalso; exact hct.zero
    | succ n59 ih59 =>
      intro v1 v2 mm H locs ls hct hV hH hl hres
      refine lv_iload_n hx hb dX6_tick_59 rfl (lv_at hl 2 rfl) ?_
      refine lv_if_eq (tgt := 80) hx hb dX6_tick_60 (by decide) (fun c60_7 => ?_) (fun c60_7 => ?_)
      · have hres := zif_pos c60_7 hres
        exact J80 _ _ _ _ _ (by exact hV) hH (lv_sub hl [0, 2] rfl) hres
      · have hres := zif_neg c60_7 hres
        refine lv_iload_n hx hb dX6_tick_63 rfl (lv_at hl 1 rfl) ?_
        refine lv_bipush (v := (40 : Int32)) hx hb dX6_tick_64 (by decide) ?_
        refine lv_icmp_ge (tgt := 80) hx hb dX6_tick_66 (by decide) (fun c66_8 => ?_) (fun c66_8 => ?_)
        · have hres := zif_pos c66_8 hres
          exact J80 _ _ _ _ _ (by exact hV) hH (lv_sub hl [0, 2] rfl) hres
        · have hres := zif_neg c66_8 hres
          refine lv_aload_n hx hb dX6_tick_69 rfl (lv_at hl 0 rfl) ?_
          have g0 := hH.many
          refine zcz (zrunV C0 hH (c_X6_round l D cy ad _ (by exact hV)) kM_X6_130 zK6 kq_X6_round zR0 rfl hl.1 rfl rfl rfl ⟨Nat.le_of_ble_eq_true rfl, Nat.le_of_ble_eq_true rfl⟩ (Nat.le_of_ble_eq_true rfl) dX6_tick_70) hH (fun H locs hH h01_9 => ?_)
          have hV := zVof hH (hV.to (sm_round g0))
          refine lv_istore_n (lv' := [(2, _), (0, _), (1, _)]) hx hb dX6_tick_73 rfl hl (by decide) rfl (fun ls hl => ?_)
          refine ziinc (lv' := [(1, _), (2, _), (0, _)]) (k := 2) hx hb (1 : Int32) (by decide) dX6_tick_74 hl rfl (by decide) rfl (fun ls hl => ?_)
          refine lv_goto (tgt := 59) hx hb dX6_tick_77 (by decide) ?_
          exact ih59 _ _ _ _ _ _ (by first | exact zCt.start (by decide) (by decide) | exact zCt.begin (by decide) (by decide) (by decide) | exact zCt.step (m := 40) hct (by first | assumption | exact Int32.not_le.mp (by assumption)) (by decide)) (by exact hV) hH (lv_sub hl [2, 0, 1] rfl) hres
  have L32 : ∀ (n32 : Nat), ∀ (v1 : Int32) (mm : zM) (H : Heap) (locs : List Loc) (ls : Array Slot), (zCt 10 n32 v1) → (zVal mm) → zH D lyR cy ad s.heap mm H locs → lv_has ls 5 [(0, .ref (ad 0)), (1, .int v1)] → f_X6_tick_32 n32 v1 mm = res → W p l e { frames := 6, cells := 0, slots := 0, locals := 143 } s m args below meth c H locs 0 0 (MQ below (zQv D lyR cy ad res) args s 0 0 (zA lyR ad)) (F0 m 32 ls []) := by
    intro n32
    induction n32 with
    | zero =>
      intro v1 mm H locs ls hct hV hH hl hres
      exfalso; exact hct.zero
    | succ n32 ih32 =>
      intro v1 mm H locs ls hct hV hH hl hres
      have gh := hH.many
      refine lv_iload_n hx hb dX6_tick_32 rfl (lv_at hl 1 rfl) ?_
      refine lv_aload_n hx hb dX6_tick_33 rfl (lv_at hl 0 rfl) ?_
      refine zgR C0 hH zK6 0 (by decide) _ zR0 rfl kF_X6_9 dX6_tick_34 ?_
      refine lv_iconst (v := (0 : Int32)) hx hb dX6_tick_37 (by decide) ?_
      refine zaldK C0 hH zS31.is zS31.ln (k := 0) (by decide) (by unfold vp_in; decide) dX6_tick_38 ?_
      refine lv_icmp_ge (tgt := 55) hx hb dX6_tick_39 (by decide) (fun c39_5 => ?_) (fun c39_5 => ?_)
      · have hres := zif_pos c39_5 hres
        refine lv_iconst (v := (0 : Int32)) hx hb dX6_tick_55 (by decide) ?_
        refine lv_istore_n (lv' := [(1, _), (0, _)]) hx hb dX6_tick_56 rfl hl (by decide) rfl (fun ls hl => ?_)
        refine lv_iconst (v := (1 : Int32)) hx hb dX6_tick_57 (by decide) ?_
        refine lv_istore_n (lv' := [(2, _), (1, _), (0, _)]) hx hb dX6_tick_58 rfl hl (by decide) rfl (fun ls hl => ?_)
        exact L59 (41) _ _ _ _ _ _ (by first | exact zCt.start (by decide) (by decide) | exact zCt.begin (by decide) (by decide) (by decide) | exact zCt.step (m := 40) hct (by first | assumption | exact Int32.not_le.mp (by assumption)) (by decide)) (by exact hV) hH (lv_sub hl [2, 1, 0] rfl) hres
      · have hres := zif_neg c39_5 hres
        refine lv_aload_n hx hb dX6_tick_42 rfl (lv_at hl 0 rfl) ?_
        refine zgR C0 hH zK6 7 (by decide) _ zR0 rfl kF_X6_25 dX6_tick_43 ?_
        refine lv_iload_n hx hb dX6_tick_46 rfl (lv_at hl 1 rfl) ?_
        refine lv_iconst (v := (0 : Int32)) hx hb dX6_tick_47 (by decide) ?_
        refine zast C0 hH (zR_i (by decide) (by decide)) rfl (by exact zin10.mpr (zb10 hct.1 (by assumption) gh.2)) zcn dX6_tick_48 (fun H locs hH => ?_)
        have hV := zVof hH (hV.to (sm_put0 (by decide)))
        refine ziinc (lv' := [(1, _), (0, _)]) (k := 1) hx hb (1 : Int32) (by decide) dX6_tick_49 hl rfl (by decide) rfl (fun ls hl => ?_)
        refine lv_goto (tgt := 32) hx hb dX6_tick_52 (by decide) ?_
        exact ih32 _ _ _ _ _ (by first | exact zCt.start (by decide) (by decide) | exact zCt.begin (by decide) (by decide) (by decide) | exact zCt.step (m := 10) hct (by first | assumption | exact Int32.not_le.mp (by assumption) | exact Int32.lt_of_lt_of_le (Int32.not_le.mp (by assumption)) gh.2) (by decide)) (by exact hV) hH (lv_sub hl [1, 0] rfl) hres
  refine lv_aload_n hx hb dX6_tick_0 rfl (lv_at hl 0 rfl) ?_
  refine zgR C0 hH zK6 0 (by decide) _ zR0 rfl kF_X6_9 dX6_tick_1 ?_
  refine lv_iconst (v := (1 : Int32)) hx hb dX6_tick_4 (by decide) ?_
  refine lv_dup2_11 hx hb dX6_tick_5 rfl rfl ?_
  refine zaldK C0 hH zS31.is zS31.ln (k := 1) (by decide) (by unfold vp_in; decide) dX6_tick_6 ?_
  refine lv_aload_n hx hb dX6_tick_7 rfl (lv_at hl 0 rfl) ?_
  refine zgR C0 hH zK6 0 (by decide) _ zR0 rfl kF_X6_9 dX6_tick_8 ?_
  refine lv_iconst (v := (2 : Int32)) hx hb dX6_tick_11 (by decide) ?_
  refine zaldK C0 hH zS31.is zS31.ln (k := 2) (by decide) (by unfold vp_in; decide) dX6_tick_12 ?_
  refine lv_iadd hx hb dX6_tick_13 ?_
  refine zastK C0 hH zS31.is zS31.ln (k := 1) (by decide) (by unfold vp_in; decide) zcn dX6_tick_14 (fun H locs hH => ?_)
  have hV := zVof hH (hV.to (sm_put1 (by decide)))
  refine lv_aload_n hx hb dX6_tick_15 rfl (lv_at hl 0 rfl) ?_
  refine lv_iconst (v := (0 : Int32)) hx hb dX6_tick_16 (by decide) ?_
  refine zp C0 hH zK6 9 (by decide) zR0 rfl rfl zOk_int zcn kF_X6_108 dX6_tick_17 (fun H locs hH => ?_)
  have hV := zVof hH (hV.to (sm_put0 (by decide)))
  refine lv_aload_n hx hb dX6_tick_20 rfl (lv_at hl 0 rfl) ?_
  refine lv_iconst (v := (0 : Int32)) hx hb dX6_tick_21 (by decide) ?_
  refine zp C0 hH zK6 10 (by decide) zR0 rfl rfl zOk_int zcn kF_X6_124 dX6_tick_22 (fun H locs hH => ?_)
  have hV := zVof hH (hV.to (sm_put0 (by decide)))
  refine lv_aload_n hx hb dX6_tick_25 rfl (lv_at hl 0 rfl) ?_
  refine lv_iconst (v := (0 : Int32)) hx hb dX6_tick_26 (by decide) ?_
  refine zp C0 hH zK6 11 (by decide) zR0 rfl rfl zOk_int zcn kF_X6_127 dX6_tick_27 (fun H locs hH => ?_)
  have hV := zVof hH (hV.to (sm_put0 (by decide)))
  refine lv_iconst (v := (0 : Int32)) hx hb dX6_tick_30 (by decide) ?_
  refine lv_istore_n (lv' := [(1, _), (0, _)]) hx hb dX6_tick_31 rfl hl (by decide) rfl (fun ls hl => ?_)
  exact L32 (11) _ _ _ _ _ (by first | exact zCt.start (by decide) (by decide) | exact zCt.begin (by decide) (by decide) (by decide) | exact zCt.step (m := 10) hct (by first | assumption | exact Int32.not_le.mp (by assumption) | exact Int32.lt_of_lt_of_le (Int32.not_le.mp (by assumption)) gh.2) (by decide)) (by exact hV) hH (lv_sub hl [1, 0] rfl) hres
set_option maxRecDepth 100000 in
set_option maxHeartbeats 4000000 in
theorem c_X6_ticks (l : Launch) (D : va_G) (cy : Nat → ClassId) (ad : Nat → Nat) (M : zM) (p1 : Int32) (hV : zVal M) : Met l yX6_ticks (Cond.code yX6_ticks cX6_ticks 3 (some .int) :: zG) ({ frames := 7, cells := 0, slots := 0, locals := 167 }) (zP D lyR cy ad [.ref (ad 0), .int p1] M) (zQi D lyR cy ad (f_X6_ticks p1 M).1 (f_X6_ticks p1 M).2) 0 0 (zA lyR ad) := by
  generalize hres : (f_X6_ticks p1 M) = res
  refine zMet (by decide) (Nat.le_of_ble_eq_true rfl) ?_
  intro p e s m args below meth c ls C0 hH hl
  obtain ⟨⟨hx, hb, hml, hown, hts⟩, -⟩ := id C0
  have hz : ∀ w ∈ zG, w.before args s = true := fun w h => hts w (List.mem_cons_of_mem _ h)
  have hl : lv_has ls 3 [(0, .ref (ad 0)), (1, .int p1)] := hl
  have g0 := hH.many
  have L18 : ∀ (n18 : Nat), ∀ (v2 : Int32) (mm : zM) (H : Heap) (locs : List Loc) (ls : Array Slot), (zCt 100 n18 v2) → (zVal mm) → (p1 ≤ 100) → zH D lyR cy ad s.heap mm H locs → lv_has ls 3 [(0, .ref (ad 0)), (1, .int p1), (2, .int v2)] → f_X6_ticks_18 p1 n18 v2 mm = res → W p l e { frames := 7, cells := 0, slots := 0, locals := 167 } s m args below meth c H locs 0 0 (MQ below (zQi D lyR cy ad res.1 res.2) args s 0 0 (zA lyR ad)) (F0 m 18 ls []) := by
    intro n18
    induction n18 with
    | zero =>
      intro v2 mm H locs ls hct hV hp hH hl hres
      exfalso; exact hct.zero
    | succ n18 ih18 =>
      intro v2 mm H locs ls hct hV hp hH hl hres
      refine lv_iload_n hx hb dX6_ticks_18 rfl (lv_at hl 2 rfl) ?_
      refine lv_iload_n hx hb dX6_ticks_19 rfl (lv_at hl 1 rfl) ?_
      refine lv_icmp_ge (tgt := 33) hx hb dX6_ticks_20 (by decide) (fun c20_5 => ?_) (fun c20_5 => ?_)
      · have hres := zif_pos c20_5 hres
        refine lv_aload_n hx hb dX6_ticks_33 rfl (lv_at hl 0 rfl) ?_
        refine zgI C0 hH zK6 10 (by decide) zR0 rfl kF_X6_124 dX6_ticks_34 ?_
        exact zreti C0 hH dX6_ticks_37 (zfst hres) (zsnd hres)
      · have hres := zif_neg c20_5 hres
        refine lv_aload_n hx hb dX6_ticks_23 rfl (lv_at hl 0 rfl) ?_
        have g0 := hH.many
        refine zcv (zrunV C0 hH (c_X6_tick l D cy ad _ (by exact hV)) kM_X6_140 zK6 kq_X6_tick zR0 rfl hl.1 rfl rfl rfl ⟨Nat.le_of_ble_eq_true rfl, Nat.le_of_ble_eq_true rfl⟩ (Nat.le_of_ble_eq_true rfl) dX6_ticks_24) hH (fun H locs hH => ?_)
        have hV := zVof hH (hV.to (sm_tick g0))
        refine ziinc (lv' := [(2, _), (0, _), (1, _)]) (k := 2) hx hb (1 : Int32) (by decide) dX6_ticks_27 hl rfl (by decide) rfl (fun ls hl => ?_)
        refine lv_goto (tgt := 18) hx hb dX6_ticks_30 (by decide) ?_
        exact ih18 _ _ _ _ _ (by first | exact zCt.start (by decide) (by decide) | exact zCt.begin (by decide) (by decide) (by decide) | exact zCt.step (m := 100) hct (by first | assumption | exact Int32.not_le.mp (by assumption) | exact Int32.lt_of_lt_of_le (Int32.not_le.mp (by assumption)) hp) (by decide)) (by exact hV) (by first | assumption | (clear hres hz hts; grind [f_X6_in, f_X6_isBlock, f_X6_isAhead, f_X6_isSheet])) hH (lv_sub hl [1, 2, 0] rfl) hres
  refine lv_iload_n hx hb dX6_ticks_0 rfl (lv_at hl 1 rfl) ?_
  refine lv_iconst (v := (1 : Int32)) hx hb dX6_ticks_1 (by decide) ?_
  refine lv_bipush (v := (100 : Int32)) hx hb dX6_ticks_2 (by decide) ?_
  have g0 := hH.many
  refine zcz (zrunS C0 hH (c_X6_in l D cy ad _ _ _ _) kM_X6_57 kq_X6_in rfl hl.1 rfl rfl rfl ⟨Nat.le_of_ble_eq_true rfl, Nat.le_of_ble_eq_true rfl⟩ (Nat.le_of_ble_eq_true rfl) dX6_ticks_4) hH (fun H locs hH h01_1 => ?_)
  refine lv_if_ne (tgt := 16) hx hb dX6_ticks_7 (by decide) (fun c7_3 => ?_) (fun c7_3 => ?_)
  · have hres := zif_neg c7_3 hres
    refine lv_iconst (v := (0 : Int32)) hx hb dX6_ticks_16 (by decide) ?_
    refine lv_istore_n (lv' := [(2, _), (0, _), (1, _)]) hx hb dX6_ticks_17 rfl hl (by decide) rfl (fun ls hl => ?_)
    exact L18 (101) _ _ _ _ _ (by first | exact zCt.start (by decide) (by decide) | exact zCt.begin (by decide) (by decide) (by decide) | exact zCt.step (m := 100) hct (by first | assumption | exact Int32.not_le.mp (by assumption) | exact Int32.lt_of_lt_of_le (Int32.not_le.mp (by assumption)) hp) (by decide)) (by exact hV) (by first | assumption | (clear hres hz hts; grind [f_X6_in, f_X6_isBlock, f_X6_isAhead, f_X6_isSheet])) hH (lv_sub hl [1, 2, 0] rfl) hres
  · have hres := zif_pos c7_3 hres
    refine lv_aload_n hx hb dX6_ticks_10 rfl (lv_at hl 0 rfl) ?_
    refine lv_iconst (v := (0 : Int32)) hx hb dX6_ticks_11 (by decide) ?_
    have g0 := hH.many
    refine zci (zrunV C0 hH (c_X6_no l D cy ad _ _ (by decide)) kM_X6_85 zK6 kq_X6_no zR0 rfl hl.1 rfl rfl rfl ⟨Nat.le_of_ble_eq_true rfl, Nat.le_of_ble_eq_true rfl⟩ (Nat.le_of_ble_eq_true rfl) dX6_ticks_12) hH (fun H locs hH => ?_)
    exact zreti C0 hH dX6_ticks_15 (zfst hres) (zsnd hres)
set_option maxRecDepth 100000 in
set_option maxHeartbeats 4000000 in
theorem c_X6_until (l : Launch) (D : va_G) (cy : Nat → ClassId) (ad : Nat → Nat) (M : zM) (p1 : Int32) (p2 : Int32) (hV : zVal M) : Met l yX6_until (Cond.code yX6_until cX6_until 5 (some .int) :: zG) ({ frames := 7, cells := 0, slots := 0, locals := 167 }) (zP D lyR cy ad [.ref (ad 0), .int p1, .int p2] M) (zQi D lyR cy ad (f_X6_until p1 p2 M).1 (f_X6_until p1 p2 M).2) 0 0 (zA lyR ad) := by
  generalize hres : (f_X6_until p1 p2 M) = res
  refine zMet (by decide) (Nat.le_of_ble_eq_true rfl) ?_
  intro p e s m args below meth c ls C0 hH hl
  obtain ⟨⟨hx, hb, hml, hown, hts⟩, -⟩ := id C0
  have hz : ∀ w ∈ zG, w.before args s = true := fun w h => hts w (List.mem_cons_of_mem _ h)
  have hl : lv_has ls 5 [(0, .ref (ad 0)), (1, .int p1), (2, .int p2)] := hl
  have g0 := hH.many
  have J21 : ∀ (mm : zM) (H : Heap) (locs : List Loc) (ls : Array Slot), zH D lyR cy ad s.heap mm H locs → lv_has ls 5 [(0, .ref (ad 0))] → f_X6_until_21 p1 p2 mm = res → W p l e { frames := 7, cells := 0, slots := 0, locals := 167 } s m args below meth c H locs 0 0 (MQ below (zQi D lyR cy ad res.1 res.2) args s 0 0 (zA lyR ad)) (F0 m 21 ls []) := by
    intro mm H locs ls hH hl hres
    refine lv_aload_n hx hb dX6_until_21 rfl (lv_at hl 0 rfl) ?_
    refine lv_iconst (v := (0 : Int32)) hx hb dX6_until_22 (by decide) ?_
    have g0 := hH.many
    refine zci (zrunV C0 hH (c_X6_no l D cy ad _ _ (by decide)) kM_X6_85 zK6 kq_X6_no zR0 rfl hl.1 rfl rfl rfl ⟨Nat.le_of_ble_eq_true rfl, Nat.le_of_ble_eq_true rfl⟩ (Nat.le_of_ble_eq_true rfl) dX6_until_23) hH (fun H locs hH => ?_)
    exact zreti C0 hH dX6_until_26 (zfst hres) (zsnd hres)
  have L32 : ∀ (n32 : Nat), ∀ (v3 : Int32) (v4 : Int32) (mm : zM) (H : Heap) (locs : List Loc) (ls : Array Slot), (zCt 100 n32 v3) → (zVal mm) → (p2 ≤ 100) → zH D lyR cy ad s.heap mm H locs → lv_has ls 5 [(0, .ref (ad 0)), (1, .int p1), (2, .int p2), (3, .int v3), (4, .int v4)] → f_X6_until_32 p1 p2 n32 v3 v4 mm = res → W p l e { frames := 7, cells := 0, slots := 0, locals := 167 } s m args below meth c H locs 0 0 (MQ below (zQi D lyR cy ad res.1 res.2) args s 0 0 (zA lyR ad)) (F0 m 32 ls []) := by
    intro n32
    induction n32 with
    | zero =>
      intro v3 v4 mm H locs ls hct hV hp hH hl hres
      exfalso; exact hct.zero
    | succ n32 ih32 =>
      intro v3 v4 mm H locs ls hct hV hp hH hl hres
      refine lv_iload hx hb dX6_until_32 (lv_at hl 4 rfl) ?_
      refine lv_if_eq (tgt := 67) hx hb dX6_until_34 (by decide) (fun c34_8 => ?_) (fun c34_8 => ?_)
      · have hres := zif_pos c34_8 hres
        refine lv_iload_n hx hb dX6_until_67 rfl (lv_at hl 3 rfl) ?_
        exact zreti C0 hH dX6_until_68 (zfst hres) (zsnd hres)
      · have hres := zif_neg c34_8 hres
        refine lv_iload_n hx hb dX6_until_37 rfl (lv_at hl 3 rfl) ?_
        refine lv_iload_n hx hb dX6_until_38 rfl (lv_at hl 2 rfl) ?_
        refine lv_icmp_ge (tgt := 67) hx hb dX6_until_39 (by decide) (fun c39_9 => ?_) (fun c39_9 => ?_)
        · have hres := zif_pos c39_9 hres
          refine lv_iload_n hx hb dX6_until_67 rfl (lv_at hl 3 rfl) ?_
          exact zreti C0 hH dX6_until_68 (zfst hres) (zsnd hres)
        · have hres := zif_neg c39_9 hres
          refine lv_aload_n hx hb dX6_until_42 rfl (lv_at hl 0 rfl) ?_
          have g0 := hH.many
          refine zcv (zrunV C0 hH (c_X6_tick l D cy ad _ (by exact hV)) kM_X6_140 zK6 kq_X6_tick zR0 rfl hl.1 rfl rfl rfl ⟨Nat.le_of_ble_eq_true rfl, Nat.le_of_ble_eq_true rfl⟩ (Nat.le_of_ble_eq_true rfl) dX6_until_43) hH (fun H locs hH => ?_)
          have hV := zVof hH (hV.to (sm_tick g0))
          refine ziinc (lv' := [(3, _), (0, _), (1, _), (2, _), (4, _)]) (k := 3) hx hb (1 : Int32) (by decide) dX6_until_46 hl rfl (by decide) rfl (fun ls hl => ?_)
          refine lv_aload_n hx hb dX6_until_49 rfl (lv_at hl 1 rfl) ?_
          refine zgI C0 hH zK6 10 (by decide) zR0 rfl kF_X6_124 dX6_until_50 ?_
          refine lv_iload_n hx hb dX6_until_53 rfl (lv_at hl 2 rfl) ?_
          refine lv_icmp_ge (tgt := 61) hx hb dX6_until_54 (by decide) (fun c54_11 => ?_) (fun c54_11 => ?_)
          · have hres := zif_pos c54_11 hres
            refine lv_iconst (v := (0 : Int32)) hx hb dX6_until_61 (by decide) ?_
            refine lv_istore (lv' := [(4, _), (3, _), (0, _), (1, _), (2, _)]) hx hb dX6_until_62 hl (by decide) rfl (fun ls hl => ?_)
            refine lv_goto (tgt := 32) hx hb dX6_until_64 (by decide) ?_
            exact ih32 _ _ _ _ _ _ (by first | exact zCt.start (by decide) (by decide) | exact zCt.begin (by decide) (by decide) (by decide) | exact zCt.step (m := 100) hct (by first | assumption | exact Int32.not_le.mp (by assumption) | exact Int32.lt_of_lt_of_le (Int32.not_le.mp (by assumption)) hp) (by decide)) (by exact hV) (by first | assumption | (clear hres hz hts; grind [f_X6_in, f_X6_isBlock, f_X6_isAhead, f_X6_isSheet])) hH (lv_sub hl [2, 3, 4, 1, 0] rfl) hres
          · have hres := zif_neg c54_11 hres
            refine lv_iconst (v := (1 : Int32)) hx hb dX6_until_57 (by decide) ?_
            refine lv_goto (tgt := 62) hx hb dX6_until_58 (by decide) ?_
            refine lv_istore (lv' := [(4, _), (3, _), (0, _), (1, _), (2, _)]) hx hb dX6_until_62 hl (by decide) rfl (fun ls hl => ?_)
            refine lv_goto (tgt := 32) hx hb dX6_until_64 (by decide) ?_
            exact ih32 _ _ _ _ _ _ (by first | exact zCt.start (by decide) (by decide) | exact zCt.begin (by decide) (by decide) (by decide) | exact zCt.step (m := 100) hct (by first | assumption | exact Int32.not_le.mp (by assumption) | exact Int32.lt_of_lt_of_le (Int32.not_le.mp (by assumption)) hp) (by decide)) (by exact hV) (by first | assumption | (clear hres hz hts; grind [f_X6_in, f_X6_isBlock, f_X6_isAhead, f_X6_isSheet])) hH (lv_sub hl [2, 3, 4, 1, 0] rfl) hres
  refine lv_iload_n hx hb dX6_until_0 rfl (lv_at hl 1 rfl) ?_
  refine lv_iconst (v := (1 : Int32)) hx hb dX6_until_1 (by decide) ?_
  refine lv_sipush (v := (400 : Int32)) hx hb dX6_until_2 (by decide) ?_
  have g0 := hH.many
  refine zcz (zrunS C0 hH (c_X6_in l D cy ad _ _ _ _) kM_X6_57 kq_X6_in rfl hl.1 rfl rfl rfl ⟨Nat.le_of_ble_eq_true rfl, Nat.le_of_ble_eq_true rfl⟩ (Nat.le_of_ble_eq_true rfl) dX6_until_5) hH (fun H locs hH h01_1 => ?_)
  refine lv_if_eq (tgt := 21) hx hb dX6_until_8 (by decide) (fun c8_3 => ?_) (fun c8_3 => ?_)
  · have hres := zif_pos c8_3 hres
    exact J21 _ _ _ _ hH (lv_sub hl [0] rfl) hres
  · have hres := zif_neg c8_3 hres
    refine lv_iload_n hx hb dX6_until_11 rfl (lv_at hl 2 rfl) ?_
    refine lv_iconst (v := (1 : Int32)) hx hb dX6_until_12 (by decide) ?_
    refine lv_bipush (v := (100 : Int32)) hx hb dX6_until_13 (by decide) ?_
    have g0 := hH.many
    refine zcz (zrunS C0 hH (c_X6_in l D cy ad _ _ _ _) kM_X6_57 kq_X6_in rfl hl.1 rfl rfl rfl ⟨Nat.le_of_ble_eq_true rfl, Nat.le_of_ble_eq_true rfl⟩ (Nat.le_of_ble_eq_true rfl) dX6_until_15) hH (fun H locs hH h01_4 => ?_)
    refine lv_if_ne (tgt := 27) hx hb dX6_until_18 (by decide) (fun c18_6 => ?_) (fun c18_6 => ?_)
    · have hres := zif_neg c18_6 hres
      refine lv_iconst (v := (0 : Int32)) hx hb dX6_until_27 (by decide) ?_
      refine lv_istore_n (lv' := [(3, _), (0, _), (1, _), (2, _)]) hx hb dX6_until_28 rfl hl (by decide) rfl (fun ls hl => ?_)
      refine lv_iconst (v := (1 : Int32)) hx hb dX6_until_29 (by decide) ?_
      refine lv_istore (lv' := [(4, _), (3, _), (0, _), (1, _), (2, _)]) hx hb dX6_until_30 hl (by decide) rfl (fun ls hl => ?_)
      exact L32 (101) _ _ _ _ _ _ (by first | exact zCt.start (by decide) (by decide) | exact zCt.begin (by decide) (by decide) (by decide) | exact zCt.step (m := 100) hct (by first | assumption | exact Int32.not_le.mp (by assumption) | exact Int32.lt_of_lt_of_le (Int32.not_le.mp (by assumption)) hp) (by decide)) (by exact hV) (by first | assumption | (clear hres hz hts; grind [f_X6_in, f_X6_isBlock, f_X6_isAhead, f_X6_isSheet])) hH (lv_sub hl [2, 3, 4, 1, 0] rfl) hres
    · have hres := zif_pos c18_6 hres
      exact J21 _ _ _ _ hH (lv_sub hl [0] rfl) hres
set_option maxRecDepth 100000 in
set_option maxHeartbeats 4000000 in
theorem c_X6_goes (l : Launch) (D : va_G) (cy : Nat → ClassId) (ad : Nat → Nat) (M : zM) (p1 : Int32) (hV : zVal M) (hn : p1 ≤ 60) : Met l yX6_goes (Cond.code yX6_goes cX6_goes 3 none :: zG) ({ frames := 7, cells := 0, slots := 0, locals := 167 }) (zP D lyR cy ad [.ref (ad 0), .int p1] M) (zQv D lyR cy ad (f_X6_goes p1 M)) 0 0 (zA lyR ad) := by
  generalize hres : (f_X6_goes p1 M) = res
  refine zMet (by decide) (Nat.le_of_ble_eq_true rfl) ?_
  intro p e s m args below meth c ls C0 hH hl
  obtain ⟨⟨hx, hb, hml, hown, hts⟩, -⟩ := id C0
  have hz : ∀ w ∈ zG, w.before args s = true := fun w h => hts w (List.mem_cons_of_mem _ h)
  have hl : lv_has ls 3 [(0, .ref (ad 0)), (1, .int p1)] := hl
  have g0 := hH.many
  have L7 : ∀ (n7 : Nat), ∀ (v2 : Int32) (mm : zM) (H : Heap) (locs : List Loc) (ls : Array Slot), (zCt 60 n7 v2) → (zVal mm) → (p1 ≤ 60) → zH D lyR cy ad s.heap mm H locs → lv_has ls 3 [(0, .ref (ad 0)), (1, .int p1), (2, .int v2)] → f_X6_goes_7 p1 n7 v2 mm = res → W p l e { frames := 7, cells := 0, slots := 0, locals := 167 } s m args below meth c H locs 0 0 (MQ below (zQv D lyR cy ad res) args s 0 0 (zA lyR ad)) (F0 m 7 ls []) := by
    intro n7
    induction n7 with
    | zero =>
      intro v2 mm H locs ls hct hV hn hH hl hres
      exfalso; exact hct.zero
    | succ n7 ih7 =>
      intro v2 mm H locs ls hct hV hn hH hl hres
      refine lv_iload_n hx hb dX6_goes_7 rfl (lv_at hl 2 rfl) ?_
      refine lv_iload_n hx hb dX6_goes_8 rfl (lv_at hl 1 rfl) ?_
      refine lv_icmp_ge (tgt := 55) hx hb dX6_goes_9 (by decide) (fun c9_2 => ?_) (fun c9_2 => ?_)
      · have hres := zif_pos c9_2 hres
        exact zretv C0 hH dX6_goes_55 hres
      · have hres := zif_neg c9_2 hres
        refine lv_aload_n hx hb dX6_goes_12 rfl (lv_at hl 0 rfl) ?_
        have g0 := hH.many
        refine zcv (zrunV C0 hH (c_X6_tick l D cy ad _ (by exact hV)) kM_X6_140 zK6 kq_X6_tick zR0 rfl hl.1 rfl rfl rfl ⟨Nat.le_of_ble_eq_true rfl, Nat.le_of_ble_eq_true rfl⟩ (Nat.le_of_ble_eq_true rfl) dX6_goes_13) hH (fun H locs hH => ?_)
        have hV := zVof hH (hV.to (sm_tick g0))
        refine lv_aload_n hx hb dX6_goes_16 rfl (lv_at hl 0 rfl) ?_
        refine zgR C0 hH zK6 12 (by decide) _ zR0 rfl kF_X6_31 dX6_goes_17 ?_
        refine lv_iload_n hx hb dX6_goes_20 rfl (lv_at hl 2 rfl) ?_
        refine lv_aload_n hx hb dX6_goes_21 rfl (lv_at hl 0 rfl) ?_
        refine zgI C0 hH zK6 10 (by decide) zR0 rfl kF_X6_124 dX6_goes_22 ?_
        refine zast C0 hH (zR_i (by decide) (by decide)) rfl (by exact zin60.mpr ⟨hct.1, Int32.lt_of_lt_of_le (Int32.not_le.mp (by assumption)) hn⟩) zcn dX6_goes_25 (fun H locs hH => ?_)
        have hV := zVof hH (hV.to (sm_put0 (by decide)))
        refine lv_aload_n hx hb dX6_goes_26 rfl (lv_at hl 0 rfl) ?_
        refine zgR C0 hH zK6 13 (by decide) _ zR0 rfl kF_X6_34 dX6_goes_27 ?_
        refine lv_iload_n hx hb dX6_goes_30 rfl (lv_at hl 2 rfl) ?_
        refine lv_aload_n hx hb dX6_goes_31 rfl (lv_at hl 0 rfl) ?_
        refine zgI C0 hH zK6 9 (by decide) zR0 rfl kF_X6_108 dX6_goes_32 ?_
        refine zast C0 hH (zR_i (by decide) (by decide)) rfl (by exact zin60.mpr ⟨hct.1, Int32.lt_of_lt_of_le (Int32.not_le.mp (by assumption)) hn⟩) zcn dX6_goes_35 (fun H locs hH => ?_)
        have hV := zVof hH (hV.to (sm_put0 (by decide)))
        refine lv_aload_n hx hb dX6_goes_36 rfl (lv_at hl 0 rfl) ?_
        refine lv_dup hx hb dX6_goes_37 rfl ?_
        refine zgI C0 hH zK6 14 (by decide) zR0 rfl kF_X6_143 dX6_goes_38 ?_
        refine lv_aload_n hx hb dX6_goes_41 rfl (lv_at hl 0 rfl) ?_
        refine zgI C0 hH zK6 11 (by decide) zR0 rfl kF_X6_127 dX6_goes_42 ?_
        refine lv_iadd hx hb dX6_goes_45 ?_
        refine zp C0 hH zK6 14 (by decide) zR0 rfl rfl zOk_int zcn kF_X6_143 dX6_goes_46 (fun H locs hH => ?_)
        have hV := zVof hH (hV.to (sm_put0 (by decide)))
        refine ziinc (lv' := [(2, _), (0, _), (1, _)]) (k := 2) hx hb (1 : Int32) (by decide) dX6_goes_49 hl rfl (by decide) rfl (fun ls hl => ?_)
        refine lv_goto (tgt := 7) hx hb dX6_goes_52 (by decide) ?_
        exact ih7 _ _ _ _ _ (by first | exact zCt.start (by decide) (by decide) | exact zCt.begin (by decide) (by decide) (by decide) | exact zCt.step (m := 60) hct (by first | assumption | exact Int32.not_le.mp (by assumption) | exact Int32.lt_of_lt_of_le (Int32.not_le.mp (by assumption)) hn) (by decide)) (by exact hV) (by assumption) hH (lv_sub hl [1, 2, 0] rfl) hres
  refine lv_aload_n hx hb dX6_goes_0 rfl (lv_at hl 0 rfl) ?_
  refine lv_iconst (v := (0 : Int32)) hx hb dX6_goes_1 (by decide) ?_
  refine zp C0 hH zK6 14 (by decide) zR0 rfl rfl zOk_int zcn kF_X6_143 dX6_goes_2 (fun H locs hH => ?_)
  have hV := zVof hH (hV.to (sm_put0 (by decide)))
  refine lv_iconst (v := (0 : Int32)) hx hb dX6_goes_5 (by decide) ?_
  refine lv_istore_n (lv' := [(2, _), (0, _), (1, _)]) hx hb dX6_goes_6 rfl hl (by decide) rfl (fun ls hl => ?_)
  exact L7 (61) _ _ _ _ _ (by first | exact zCt.start (by decide) (by decide) | exact zCt.begin (by decide) (by decide) (by decide) | exact zCt.step (m := 60) hct (by first | assumption | exact Int32.not_le.mp (by assumption) | exact Int32.lt_of_lt_of_le (Int32.not_le.mp (by assumption)) hn) (by decide)) (by exact hV) (by assumption) hH (lv_sub hl [1, 2, 0] rfl) hres
