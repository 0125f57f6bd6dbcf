set_option maxRecDepth 100000 in
set_option maxHeartbeats 4000000 in
theorem c_X6_ahead (l : Launch) (D : va_G) (cy : Nat → ClassId) (ad : Nat → Nat) (M : zM) (p1 : Int32) (p2 : Int32) (hV : zVal M) : Met l yX6_ahead (Cond.code yX6_ahead cX6_ahead 4 (some .int) :: zG) ({ frames := 8, cells := 0, slots := 0, locals := 189 }) (zP D lyR cy ad [.ref (ad 0), .int p1, .int p2] M) (zQi D lyR cy ad (f_X6_ahead p1 p2 M).1 (f_X6_ahead p1 p2 M).2) 0 0 (zA lyR ad) := by
  generalize hres : (f_X6_ahead p1 p2 M) = res
  refine zMet (by decide) (Nat.le_of_ble_eq_true rfl) ?_
  intro p e s m args below meth c ls C0 hH hl
  obtain ⟨⟨hx, hb, hml, hown, hts⟩, -⟩ := id C0
  have hz : ∀ w ∈ zG, w.before args s = true := fun w h => hts w (List.mem_cons_of_mem _ h)
  have hl : lv_has ls 4 [(0, .ref (ad 0)), (1, .int p1), (2, .int p2)] := hl
  have gq := hH.many
  have J23 : ∀ (mm : zM) (H : Heap) (locs : List Loc) (ls : Array Slot), zH D lyR cy ad s.heap mm H locs → lv_has ls 4 [(0, .ref (ad 0))] → f_X6_ahead_23 p1 p2 mm = res → W p l e { frames := 8, cells := 0, slots := 0, locals := 189 } s m args below meth c H locs 0 0 (MQ below (zQi D lyR cy ad res.1 res.2) args s 0 0 (zA lyR ad)) (F0 m 23 ls []) := by
    intro mm H locs ls hH hl hres
    refine lv_aload_n hx hb dX6_ahead_23 rfl (lv_at hl 0 rfl) ?_
    refine lv_iconst (v := (0 : Int32)) hx hb dX6_ahead_24 (by decide) ?_
    have g0 := hH.many
    refine zci (zrunV C0 hH (c_X6_no l D cy ad _ _ (by decide)) kM_X6_85 zK6 kq_X6_no zR0 rfl hl.1 rfl rfl rfl ⟨Nat.le_of_ble_eq_true rfl, Nat.le_of_ble_eq_true rfl⟩ (Nat.le_of_ble_eq_true rfl) dX6_ahead_25) hH (fun H locs hH => ?_)
    exact zreti C0 hH dX6_ahead_28 (zfst hres) (zsnd hres)
  have J62 : ∀ (s0 : Int32) (mm : zM) (H : Heap) (locs : List Loc) (ls : Array Slot), (p1 ≤ 60) → zH D lyR cy ad s.heap mm H locs → lv_has ls 4 [(0, .ref (ad 0)), (1, .int p1), (2, .int p2)] → f_X6_ahead_62 p1 p2 s0 mm = res → W p l e { frames := 8, cells := 0, slots := 0, locals := 189 } s m args below meth c H locs 0 0 (MQ below (zQi D lyR cy ad res.1 res.2) args s 0 0 (zA lyR ad)) (F0 m 62 ls [.int s0]) := by
    intro s0 mm H locs ls hn hH hl hres
    refine lv_istore_n (lv' := [(3, _), (0, _), (1, _), (2, _)]) hx hb dX6_ahead_62 rfl hl (by decide) rfl (fun ls hl => ?_)
    refine lv_aload_n hx hb dX6_ahead_63 rfl (lv_at hl 1 rfl) ?_
    refine zgR C0 hH zK6 2 (by decide) _ zR0 rfl kF_X6_16 dX6_ahead_64 ?_
    refine lv_aload_n hx hb dX6_ahead_67 rfl (lv_at hl 1 rfl) ?_
    refine zgR C0 hH zK6 0 (by decide) _ zR0 rfl kF_X6_9 dX6_ahead_68 ?_
    have g0 := hH.many
    refine zcv (zrunS C0 hH (c_X6_lay l D cy ad _ _ zS33 _ zS31) kM_X6_149 kq_X6_lay rfl hl.1 rfl rfl rfl ⟨Nat.le_of_ble_eq_true rfl, Nat.le_of_ble_eq_true rfl⟩ (Nat.le_of_ble_eq_true rfl) dX6_ahead_71) hH (fun H locs hH => ?_)
    refine lv_iload_n hx hb dX6_ahead_74 rfl (lv_at hl 3 rfl) ?_
    refine zcase hres (fun c75_13_0 hres => ?_) (fun c75_13_0 hres => ?_)
    · refine ztab (tgt := 104) hx hb c75_13_0 dX6_ahead_75 (by decide) (by decide) rfl (by decide) ?_
      refine lv_aload_n hx hb dX6_ahead_104 rfl (lv_at hl 1 rfl) ?_
      refine lv_iload_n hx hb dX6_ahead_105 rfl (lv_at hl 2 rfl) ?_
      have g0 := hH.many
      refine zci (zrunV C0 hH (c_X6_jumps l D cy ad _ _ (by first | assumption | exact ia_X6 (by assumption))) kM_X6_157 zK6 kq_X6_jumps zR0 rfl hl.1 rfl rfl rfl ⟨Nat.le_of_ble_eq_true rfl, Nat.le_of_ble_eq_true rfl⟩ (Nat.le_of_ble_eq_true rfl) dX6_ahead_106) hH (fun H locs hH => ?_)
      exact zreti C0 hH dX6_ahead_109 (zfst hres) (zsnd hres)
    · skip
      refine zcase hres (fun c75_13_1 hres => ?_) (fun c75_13_1 hres => ?_)
      · refine ztab (tgt := 110) hx hb c75_13_1 dX6_ahead_75 (by decide) (by decide) rfl (by decide) ?_
        refine lv_aload_n hx hb dX6_ahead_110 rfl (lv_at hl 1 rfl) ?_
        refine lv_iload_n hx hb dX6_ahead_111 rfl (lv_at hl 2 rfl) ?_
        have g0 := hH.many
        refine zci (zrunV C0 hH (c_X6_jumps l D cy ad _ _ (by first | assumption | exact ia_X6 (by assumption))) kM_X6_157 zK6 kq_X6_jumps zR0 rfl hl.1 rfl rfl rfl ⟨Nat.le_of_ble_eq_true rfl, Nat.le_of_ble_eq_true rfl⟩ (Nat.le_of_ble_eq_true rfl) dX6_ahead_112) hH (fun H locs hH => ?_)
        refine lv_iload_n hx hb dX6_ahead_115 rfl (lv_at hl 2 rfl) ?_
        refine lv_icmp_ne (tgt := 123) hx hb dX6_ahead_116 (by decide) (fun c116_16 => ?_) (fun c116_16 => ?_)
        · have hres := zif_neg c116_16 hres
          refine lv_iconst (v := (0 : Int32)) hx hb dX6_ahead_123 (by decide) ?_
          exact zreti C0 hH dX6_ahead_124 (zfst hres) (zsnd hres)
        · have hres := zif_pos c116_16 hres
          refine lv_iconst (v := (1 : Int32)) hx hb dX6_ahead_119 (by decide) ?_
          refine lv_goto (tgt := 124) hx hb dX6_ahead_120 (by decide) ?_
          exact zreti C0 hH dX6_ahead_124 (zfst hres) (zsnd hres)
      · skip
        refine zcase hres (fun c75_13_2 hres => ?_) (fun c75_13_2 hres => ?_)
        · refine ztab (tgt := 125) hx hb c75_13_2 dX6_ahead_75 (by decide) (by decide) rfl (by decide) ?_
          refine lv_aload_n hx hb dX6_ahead_125 rfl (lv_at hl 1 rfl) ?_
          refine lv_iload_n hx hb dX6_ahead_126 rfl (lv_at hl 2 rfl) ?_
          have g0 := hH.many
          refine zci (zrunV C0 hH (c_X6_greatest l D cy ad _ _ (by first | assumption | exact ia_X6 (by assumption))) kM_X6_160 zK6 kq_X6_greatest zR0 rfl hl.1 rfl rfl rfl ⟨Nat.le_of_ble_eq_true rfl, Nat.le_of_ble_eq_true rfl⟩ (Nat.le_of_ble_eq_true rfl) dX6_ahead_127) hH (fun H locs hH => ?_)
          exact zreti C0 hH dX6_ahead_130 (zfst hres) (zsnd hres)
        · skip
          refine zcase hres (fun c75_13_3 hres => ?_) (fun c75_13_3 hres => ?_)
          · refine ztab (tgt := 131) hx hb c75_13_3 dX6_ahead_75 (by decide) (by decide) rfl (by decide) ?_
            refine lv_aload_n hx hb dX6_ahead_131 rfl (lv_at hl 1 rfl) ?_
            refine zgI C0 hH zK6 14 (by decide) zR0 rfl kF_X6_143 dX6_ahead_132 ?_
            exact zreti C0 hH dX6_ahead_135 (zfst hres) (zsnd hres)
          · skip
            refine ztabD (tgt := 136) hx hb [(0 : Int32), (1 : Int32), (2 : Int32), (3 : Int32)] (List.forall_mem_cons.mpr ⟨c75_13_0, (List.forall_mem_cons.mpr ⟨c75_13_1, (List.forall_mem_cons.mpr ⟨c75_13_2, (List.forall_mem_cons.mpr ⟨c75_13_3, (fun _ h => absurd h List.not_mem_nil)⟩)⟩)⟩)⟩) dX6_ahead_75 (by decide) (by decide) (by decide) ?_
            refine lv_iload_n hx hb dX6_ahead_136 rfl (lv_at hl 0 rfl) ?_
            exact zreti C0 hH dX6_ahead_137 (zfst hres) (zsnd hres)
  refine lv_iload_n hx hb dX6_ahead_0 rfl (lv_at hl 1 rfl) ?_
  have g0 := hH.many
  refine zcz (zrunS C0 hH (c_X6_isAhead l D cy ad _ _) kM_X6_146 kq_X6_isAhead rfl hl.1 rfl rfl rfl ⟨Nat.le_of_ble_eq_true rfl, Nat.le_of_ble_eq_true rfl⟩ (Nat.le_of_ble_eq_true rfl) dX6_ahead_1) hH (fun H locs hH h01_1 => ?_)
  refine lv_if_eq (tgt := 23) hx hb dX6_ahead_4 (by decide) (fun c4_3 => ?_) (fun c4_3 => ?_)
  · have hres := zif_pos c4_3 hres
    exact J23 _ _ _ _ hH (lv_sub hl [0] rfl) hres
  · have hres := zif_neg c4_3 hres
    refine lv_iload_n hx hb dX6_ahead_7 rfl (lv_at hl 2 rfl) ?_
    refine lv_iconst (v := (0 : Int32)) hx hb dX6_ahead_8 (by decide) ?_
    refine lv_iconst (v := (3 : Int32)) hx hb dX6_ahead_9 (by decide) ?_
    refine lv_aload_n hx hb dX6_ahead_10 rfl (lv_at hl 0 rfl) ?_
    refine zgR C0 hH zK6 0 (by decide) _ zR0 rfl kF_X6_9 dX6_ahead_11 ?_
    refine lv_iconst (v := (0 : Int32)) hx hb dX6_ahead_14 (by decide) ?_
    refine zaldK C0 hH zS31.is zS31.ln (k := 0) (by decide) (by unfold vp_in; decide) dX6_ahead_15 ?_
    refine lv_iadd hx hb dX6_ahead_16 ?_
    have g0 := hH.many
    refine zcz (zrunS C0 hH (c_X6_in l D cy ad _ _ _ _) kM_X6_57 kq_X6_in rfl hl.1 rfl rfl rfl ⟨Nat.le_of_ble_eq_true rfl, Nat.le_of_ble_eq_true rfl⟩ (Nat.le_of_ble_eq_true rfl) dX6_ahead_17) hH (fun H locs hH h01_4 => ?_)
    refine lv_if_ne (tgt := 29) hx hb dX6_ahead_20 (by decide) (fun c20_6 => ?_) (fun c20_6 => ?_)
    · have hres := zif_neg c20_6 hres
      refine lv_aload_n hx hb dX6_ahead_29 rfl (lv_at hl 0 rfl) ?_
      refine zgR C0 hH zK6 0 (by decide) _ zR0 rfl kF_X6_9 dX6_ahead_30 ?_
      refine lv_aload_n hx hb dX6_ahead_33 rfl (lv_at hl 0 rfl) ?_
      refine zgR C0 hH zK6 2 (by decide) _ zR0 rfl kF_X6_16 dX6_ahead_34 ?_
      have g0 := hH.many
      refine zcv (zrunS C0 hH (c_X6_lay l D cy ad _ _ zS31 _ zS33) kM_X6_149 kq_X6_lay rfl hl.1 rfl rfl rfl ⟨Nat.le_of_ble_eq_true rfl, Nat.le_of_ble_eq_true rfl⟩ (Nat.le_of_ble_eq_true rfl) dX6_ahead_37) hH (fun H locs hH => ?_)
      have hV := zVof hH (hV.to (sm_row (rw_lay (by decide))))
      refine lv_aload_n hx hb dX6_ahead_40 rfl (lv_at hl 0 rfl) ?_
      refine lv_iload_n hx hb dX6_ahead_41 rfl (lv_at hl 1 rfl) ?_
      have g0 := hH.many
      refine zcv (zrunV C0 hH (c_X6_goes l D cy ad _ _ (by exact hV) (by first | assumption | exact ia_X6 (by assumption))) kM_X6_153 zK6 kq_X6_goes zR0 rfl hl.1 rfl rfl rfl ⟨Nat.le_of_ble_eq_true rfl, Nat.le_of_ble_eq_true rfl⟩ (Nat.le_of_ble_eq_true rfl) dX6_ahead_42) hH (fun H locs hH => ?_)
      have hV := zVof hH (hV.to (sm_goes g0))
      refine lv_iload_n hx hb dX6_ahead_45 rfl (lv_at hl 2 rfl) ?_
      refine lv_iconst (v := (3 : Int32)) hx hb dX6_ahead_46 (by decide) ?_
      refine lv_icmp_le (tgt := 61) hx hb dX6_ahead_47 (by decide) (fun c47_9 => ?_) (fun c47_9 => ?_)
      · have hres := zif_pos c47_9 hres
        refine lv_iconst (v := (0 : Int32)) hx hb dX6_ahead_61 (by decide) ?_
        exact J62 _ _ _ _ _ (by first | assumption | exact ia_X6 (by assumption)) hH (lv_sub hl [0, 1, 2] rfl) hres
      · have hres := zif_neg c47_9 hres
        refine lv_aload_n hx hb dX6_ahead_50 rfl (lv_at hl 0 rfl) ?_
        refine lv_iload_n hx hb dX6_ahead_51 rfl (lv_at hl 2 rfl) ?_
        refine lv_iconst (v := (4 : Int32)) hx hb dX6_ahead_52 (by decide) ?_
        refine lv_isub hx hb dX6_ahead_53 ?_
        refine lv_iconst (v := (5 : Int32)) hx hb dX6_ahead_54 (by decide) ?_
        have g0 := hH.many
        refine zci (zrunV C0 hH (c_X6_at l D cy ad _ _ _ (by exact ah_X6 gq (by assumption) (by assumption)) (by decide)) kM_X6_61 zK6 kq_X6_at zR0 rfl hl.1 rfl rfl rfl ⟨Nat.le_of_ble_eq_true rfl, Nat.le_of_ble_eq_true rfl⟩ (Nat.le_of_ble_eq_true rfl) dX6_ahead_55) hH (fun H locs hH => ?_)
        refine lv_goto (tgt := 62) hx hb dX6_ahead_58 (by decide) ?_
        exact J62 _ _ _ _ _ (by first | assumption | exact ia_X6 (by assumption)) hH (lv_sub hl [0, 1, 2] rfl) hres
    · have hres := zif_pos c20_6 hres
      exact J23 _ _ _ _ hH (lv_sub hl [0] rfl) hres
set_option maxRecDepth 100000 in
set_option maxHeartbeats 4000000 in
theorem c_X6_isSo (l : Launch) (D : va_G) (cy : Nat → ClassId) (ad : Nat → Nat) (M : zM) (p1 : Int32) (p2 : Int32) (p3 : Int32) (p4 : Int32) (p5 : Int32) (hV : zVal M) (hn : p1 ≤ 60) (hcl : zCe p2) : Met l yX6_isSo (Cond.code yX6_isSo cX6_isSo 6 (some .boolean) :: zG) ({ frames := 8, cells := 0, slots := 0, locals := 189 }) (zP D lyR cy ad [.ref (ad 0), .int p1, .int p2, .int p3, .int p4, .int p5] M) (zQz D lyR cy ad (f_X6_isSo p1 p2 p3 p4 p5 M).1 (f_X6_isSo p1 p2 p3 p4 p5 M).2) 0 0 (zA lyR ad) := by
  generalize hres : (f_X6_isSo p1 p2 p3 p4 p5 M) = res
  refine zMet (by decide) (Nat.le_of_ble_eq_true rfl) ?_
  intro p e s m args below meth c ls C0 hH hl
  obtain ⟨⟨hx, hb, hml, hown, hts⟩, -⟩ := id C0
  have hz : ∀ w ∈ zG, w.before args s = true := fun w h => hts w (List.mem_cons_of_mem _ h)
  have hl : lv_has ls 6 [(0, .ref (ad 0)), (1, .int p1), (2, .int p2), (3, .int p3), (4, .int p4), (5, .int p5)] := hl
  have g0 := hH.many
  refine lv_aload_n hx hb dX6_isSo_0 rfl (lv_at hl 0 rfl) ?_
  refine zgR C0 hH zK6 0 (by decide) _ zR0 rfl kF_X6_9 dX6_isSo_1 ?_
  refine lv_aload_n hx hb dX6_isSo_4 rfl (lv_at hl 0 rfl) ?_
  refine zgR C0 hH zK6 2 (by decide) _ zR0 rfl kF_X6_16 dX6_isSo_5 ?_
  have g0 := hH.many
  refine zcv (zrunS C0 hH (c_X6_lay l D cy ad _ _ zS31 _ zS33) kM_X6_149 kq_X6_lay rfl hl.1 rfl rfl rfl ⟨Nat.le_of_ble_eq_true rfl, Nat.le_of_ble_eq_true rfl⟩ (Nat.le_of_ble_eq_true rfl) dX6_isSo_8) hH (fun H locs hH => ?_)
  have hV := zVof hH (hV.to (sm_row (rw_lay (by decide))))
  refine lv_aload_n hx hb dX6_isSo_11 rfl (lv_at hl 0 rfl) ?_
  refine zgR C0 hH zK6 0 (by decide) _ zR0 rfl kF_X6_9 dX6_isSo_12 ?_
  refine lv_iload_n hx hb dX6_isSo_15 rfl (lv_at hl 2 rfl) ?_
  refine lv_iload_n hx hb dX6_isSo_16 rfl (lv_at hl 3 rfl) ?_
  refine zast C0 hH zS31.is zS31.ln (by exact hcl.in) (by exact hcl.fit) dX6_isSo_17 (fun H locs hH => ?_)
  have hV := zVof hH (hV.to hcl.sm)
  refine lv_aload_n hx hb dX6_isSo_18 rfl (lv_at hl 0 rfl) ?_
  refine lv_iload_n hx hb dX6_isSo_19 rfl (lv_at hl 1 rfl) ?_
  have g0 := hH.many
  refine zcv (zrunV C0 hH (c_X6_goes l D cy ad _ _ (by exact hV) (by first | assumption | exact ia_X6 (by assumption))) kM_X6_153 zK6 kq_X6_goes zR0 rfl hl.1 rfl rfl rfl ⟨Nat.le_of_ble_eq_true rfl, Nat.le_of_ble_eq_true rfl⟩ (Nat.le_of_ble_eq_true rfl) dX6_isSo_20) hH (fun H locs hH => ?_)
  have hV := zVof hH (hV.to (sm_goes g0))
  refine lv_aload_n hx hb dX6_isSo_23 rfl (lv_at hl 0 rfl) ?_
  refine zgR C0 hH zK6 2 (by decide) _ zR0 rfl kF_X6_16 dX6_isSo_24 ?_
  refine lv_aload_n hx hb dX6_isSo_27 rfl (lv_at hl 0 rfl) ?_
  refine zgR C0 hH zK6 0 (by decide) _ zR0 rfl kF_X6_9 dX6_isSo_28 ?_
  have g0 := hH.many
  refine zcv (zrunS C0 hH (c_X6_lay l D cy ad _ _ zS33 _ zS31) kM_X6_149 kq_X6_lay rfl hl.1 rfl rfl rfl ⟨Nat.le_of_ble_eq_true rfl, Nat.le_of_ble_eq_true rfl⟩ (Nat.le_of_ble_eq_true rfl) dX6_isSo_31) hH (fun H locs hH => ?_)
  refine lv_iload hx hb dX6_isSo_34 (lv_at hl 4 rfl) ?_
  refine lv_if_ne (tgt := 56) hx hb dX6_isSo_36 (by decide) (fun c36_5 => ?_) (fun c36_5 => ?_)
  · have hres := zif_neg c36_5 hres
    refine lv_aload_n hx hb dX6_isSo_56 rfl (lv_at hl 0 rfl) ?_
    refine lv_iload_n hx hb dX6_isSo_57 rfl (lv_at hl 1 rfl) ?_
    have g0 := hH.many
    refine zci (zrunV C0 hH (c_X6_greatest l D cy ad _ _ (by first | assumption | exact ia_X6 (by assumption))) kM_X6_160 zK6 kq_X6_greatest zR0 rfl hl.1 rfl rfl rfl ⟨Nat.le_of_ble_eq_true rfl, Nat.le_of_ble_eq_true rfl⟩ (Nat.le_of_ble_eq_true rfl) dX6_isSo_58) hH (fun H locs hH => ?_)
    refine lv_iload hx hb dX6_isSo_61 (lv_at hl 5 rfl) ?_
    refine lv_icmp_gt (tgt := 70) hx hb dX6_isSo_63 (by decide) (fun c63_7 => ?_) (fun c63_7 => ?_)
    · have hres := zif_pos c63_7 hres
      refine lv_iconst (v := (0 : Int32)) hx hb dX6_isSo_70 (by decide) ?_
      exact zretz C0 hH dX6_isSo_71 (by first | exact Or.inl rfl | exact Or.inr rfl | assumption) (zfst hres) (zsnd hres)
    · have hres := zif_neg c63_7 hres
      refine lv_iconst (v := (1 : Int32)) hx hb dX6_isSo_66 (by decide) ?_
      refine lv_goto (tgt := 71) hx hb dX6_isSo_67 (by decide) ?_
      exact zretz C0 hH dX6_isSo_71 (by first | exact Or.inl rfl | exact Or.inr rfl | assumption) (zfst hres) (zsnd hres)
  · have hres := zif_pos c36_5 hres
    refine lv_aload_n hx hb dX6_isSo_39 rfl (lv_at hl 0 rfl) ?_
    refine lv_iload_n hx hb dX6_isSo_40 rfl (lv_at hl 1 rfl) ?_
    have g0 := hH.many
    refine zci (zrunV C0 hH (c_X6_jumps l D cy ad _ _ (by first | assumption | exact ia_X6 (by assumption))) kM_X6_157 zK6 kq_X6_jumps zR0 rfl hl.1 rfl rfl rfl ⟨Nat.le_of_ble_eq_true rfl, Nat.le_of_ble_eq_true rfl⟩ (Nat.le_of_ble_eq_true rfl) dX6_isSo_41) hH (fun H locs hH => ?_)
    refine lv_iload_n hx hb dX6_isSo_44 rfl (lv_at hl 1 rfl) ?_
    refine lv_icmp_ne (tgt := 52) hx hb dX6_isSo_45 (by decide) (fun c45_9 => ?_) (fun c45_9 => ?_)
    · have hres := zif_neg c45_9 hres
      refine lv_iconst (v := (0 : Int32)) hx hb dX6_isSo_52 (by decide) ?_
      refine lv_goto (tgt := 71) hx hb dX6_isSo_53 (by decide) ?_
      exact zretz C0 hH dX6_isSo_71 (by first | exact Or.inl rfl | exact Or.inr rfl | assumption) (zfst hres) (zsnd hres)
    · have hres := zif_pos c45_9 hres
      refine lv_iconst (v := (1 : Int32)) hx hb dX6_isSo_48 (by decide) ?_
      refine lv_goto (tgt := 71) hx hb dX6_isSo_49 (by decide) ?_
      exact zretz C0 hH dX6_isSo_71 (by first | exact Or.inl rfl | exact Or.inr rfl | assumption) (zfst hres) (zsnd hres)
set_option maxRecDepth 100000 in
set_option maxHeartbeats 4000000 in
theorem c_X6_leastSo (l : Launch) (D : va_G) (cy : Nat → ClassId) (ad : Nat → Nat) (M : zM) (p1 : Int32) (p2 : Int32) (p3 : Int32) (p4 : Int32) (hV : zVal M) (hn : p1 ≤ 60) (hcl : zCe p2) : Met l yX6_leastSo (Cond.code yX6_leastSo cX6_leastSo 6 (some .int) :: zG) ({ frames := 9, cells := 0, slots := 0, locals := 214 }) (zP D lyR cy ad [.ref (ad 0), .int p1, .int p2, .int p3, .int p4] M) (zQi D lyR cy ad (f_X6_leastSo p1 p2 p3 p4 M).1 (f_X6_leastSo p1 p2 p3 p4 M).2) 0 0 (zA lyR ad) := by
  generalize hres : (f_X6_leastSo p1 p2 p3 p4 M) = res
  refine zMet (by decide) (Nat.le_of_ble_eq_true rfl) ?_
  intro p e s m args below meth c ls C0 hH hl
  obtain ⟨⟨hx, hb, hml, hown, hts⟩, -⟩ := id C0
  have hz : ∀ w ∈ zG, w.before args s = true := fun w h => hts w (List.mem_cons_of_mem _ h)
  have hl : lv_has ls 6 [(0, .ref (ad 0)), (1, .int p1), (2, .int p2), (3, .int p3), (4, .int p4)] := hl
  have g0 := hH.many
  have J30 : ∀ (v5 : Int32) (mm : zM) (H : Heap) (locs : List Loc) (ls : Array Slot), zH D lyR cy ad s.heap mm H locs → lv_has ls 6 [(0, .ref (ad 0)), (5, .int v5)] → f_X6_leastSo_30 p1 p2 p3 p4 v5 mm = res → W p l e { frames := 9, cells := 0, slots := 0, locals := 214 } s m args below meth c H locs 0 0 (MQ below (zQi D lyR cy ad res.1 res.2) args s 0 0 (zA lyR ad)) (F0 m 30 ls []) := by
    intro v5 mm H locs ls hH hl hres
    refine lv_iload hx hb dX6_leastSo_30 (lv_at hl 1 rfl) ?_
    refine lv_bipush (v := (99 : Int32)) hx hb dX6_leastSo_32 (by decide) ?_
    refine lv_icmp_gt (tgt := 42) hx hb dX6_leastSo_34 (by decide) (fun c34_5 => ?_) (fun c34_5 => ?_)
    · have hres := zif_pos c34_5 hres
      refine lv_aload_n hx hb dX6_leastSo_42 rfl (lv_at hl 0 rfl) ?_
      refine lv_iconst (v := (3 : Int32)) hx hb dX6_leastSo_43 (by decide) ?_
      have g0 := hH.many
      refine zci (zrunV C0 hH (c_X6_no l D cy ad _ _ (by decide)) kM_X6_85 zK6 kq_X6_no zR0 rfl hl.1 rfl rfl rfl ⟨Nat.le_of_ble_eq_true rfl, Nat.le_of_ble_eq_true rfl⟩ (Nat.le_of_ble_eq_true rfl) dX6_leastSo_44) hH (fun H locs hH => ?_)
      exact zreti C0 hH dX6_leastSo_47 (zfst hres) (zsnd hres)
    · have hres := zif_neg c34_5 hres
      refine lv_iload hx hb dX6_leastSo_37 (lv_at hl 1 rfl) ?_
      refine lv_goto (tgt := 47) hx hb dX6_leastSo_39 (by decide) ?_
      exact zreti C0 hH dX6_leastSo_47 (zfst hres) (zsnd hres)
  have L3 : ∀ (n3 : Nat), ∀ (v5 : Int32) (mm : zM) (H : Heap) (locs : List Loc) (ls : Array Slot), (zCt 100 n3 v5) → (zVal mm) → (p1 ≤ 60) → (zCe p2) → zH D lyR cy ad s.heap mm H locs → lv_has ls 6 [(0, .ref (ad 0)), (1, .int p1), (2, .int p2), (3, .int p3), (4, .int p4), (5, .int v5)] → f_X6_leastSo_3 p1 p2 p3 p4 n3 v5 mm = res → W p l e { frames := 9, cells := 0, slots := 0, locals := 214 } s m args below meth c H locs 0 0 (MQ below (zQi D lyR cy ad res.1 res.2) args s 0 0 (zA lyR ad)) (F0 m 3 ls []) := by
    intro n3
    induction n3 with
    | zero =>
      intro v5 mm H locs ls hct hV hn hcl hH hl hres
      exfalso; exact hct.zero
    | succ n3 ih3 =>
      intro v5 mm H locs ls hct hV hn hcl hH hl hres
      refine lv_iload hx hb dX6_leastSo_3 (lv_at hl 5 rfl) ?_
      refine lv_bipush (v := (99 : Int32)) hx hb dX6_leastSo_5 (by decide) ?_
      refine lv_icmp_gt (tgt := 30) hx hb dX6_leastSo_7 (by decide) (fun c7_1 => ?_) (fun c7_1 => ?_)
      · have hres := zif_pos c7_1 hres
        exact J30 _ _ _ _ _ hH (lv_sub hl [0, 5] rfl) hres
      · have hres := zif_neg c7_1 hres
        refine lv_aload_n hx hb dX6_leastSo_10 rfl (lv_at hl 0 rfl) ?_
        refine lv_iload_n hx hb dX6_leastSo_11 rfl (lv_at hl 1 rfl) ?_
        refine lv_iload_n hx hb dX6_leastSo_12 rfl (lv_at hl 2 rfl) ?_
        refine lv_iload hx hb dX6_leastSo_13 (lv_at hl 5 rfl) ?_
        refine lv_iload_n hx hb dX6_leastSo_15 rfl (lv_at hl 3 rfl) ?_
        refine lv_iload hx hb dX6_leastSo_16 (lv_at hl 4 rfl) ?_
        have g0 := hH.many
        refine zcz (zrunV C0 hH (c_X6_isSo l D cy ad _ _ _ _ _ _ (by exact hV) (by first | assumption | exact ia_X6 (by assumption)) (by assumption)) kM_X6_163 zK6 kq_X6_isSo zR0 rfl hl.1 rfl rfl rfl ⟨Nat.le_of_ble_eq_true rfl, Nat.le_of_ble_eq_true rfl⟩ (Nat.le_of_ble_eq_true rfl) dX6_leastSo_18) hH (fun H locs hH h01_2 => ?_)
        have hV := zVof hH (hV.to sm_isSo)
        refine lv_if_ne (tgt := 30) hx hb dX6_leastSo_21 (by decide) (fun c21_4 => ?_) (fun c21_4 => ?_)
        · have hres := zif_neg c21_4 hres
          exact J30 _ _ _ _ _ hH (lv_sub hl [0, 5] rfl) hres
        · have hres := zif_pos c21_4 hres
          refine ziinc (lv' := [(5, _), (0, _), (1, _), (2, _), (3, _), (4, _)]) (k := 5) hx hb (1 : Int32) (by decide) dX6_leastSo_24 hl rfl (by decide) rfl (fun ls hl => ?_)
          refine lv_goto (tgt := 3) hx hb dX6_leastSo_27 (by decide) ?_
          exact ih3 _ _ _ _ _ (by first | exact zCt.start (by decide) (by decide) | exact zCt.step (m := 100) hct (by have q99 := Int32.not_lt.mp ‹¬ 99 < v5›; clear hres hz hts; grind) (by decide)) (by exact hV) (by assumption) (by assumption) hH (lv_sub hl [1, 2, 3, 4, 5, 0] rfl) hres
  refine lv_iconst (v := (0 : Int32)) hx hb dX6_leastSo_0 (by decide) ?_
  refine lv_istore (lv' := [(5, _), (0, _), (1, _), (2, _), (3, _), (4, _)]) hx hb dX6_leastSo_1 hl (by decide) rfl (fun ls hl => ?_)
  exact L3 (101) _ _ _ _ _ (by first | exact zCt.start (by decide) (by decide) | exact zCt.step (m := 100) hct (by have q99 := Int32.not_lt.mp ‹¬ 99 < v5›; clear hres hz hts; grind) (by decide)) (by exact hV) (by assumption) (by assumption) hH (lv_sub hl [1, 2, 3, 4, 5, 0] rfl) hres
set_option maxRecDepth 100000 in
set_option maxHeartbeats 4000000 in
theorem c_X6_from (l : Launch) (D : va_G) (cy : Nat → ClassId) (ad : Nat → Nat) (M : zM) (p1 : Int32) (hV : zVal M) : Met l yX6_from (Cond.code yX6_from cX6_from 2 (some .int) :: zG) ({ frames := 10, cells := 0, slots := 0, locals := 239 }) (zP D lyR cy ad [.ref (ad 0), .int p1] M) (zQi D lyR cy ad (f_X6_from p1 M).1 (f_X6_from p1 M).2) 0 0 (zA lyR ad) := by
  generalize hres : (f_X6_from p1 M) = res
  refine zMet (by decide) (Nat.le_of_ble_eq_true rfl) ?_
  intro p e s m args below meth c ls C0 hH hl
  obtain ⟨⟨hx, hb, hml, hown, hts⟩, -⟩ := id C0
  have hz : ∀ w ∈ zG, w.before args s = true := fun w h => hts w (List.mem_cons_of_mem _ h)
  have hl : lv_has ls 2 [(0, .ref (ad 0)), (1, .int p1)] := hl
  have g0 := hH.many
  refine lv_iload_n hx hb dX6_from_0 rfl (lv_at hl 1 rfl) ?_
  have g0 := hH.many
  refine zcz (zrunS C0 hH (c_X6_isAhead l D cy ad _ _) kM_X6_146 kq_X6_isAhead rfl hl.1 rfl rfl rfl ⟨Nat.le_of_ble_eq_true rfl, Nat.le_of_ble_eq_true rfl⟩ (Nat.le_of_ble_eq_true rfl) dX6_from_1) hH (fun H locs hH h01_1 => ?_)
  refine lv_if_eq (tgt := 18) hx hb dX6_from_4 (by decide) (fun c4_3 => ?_) (fun c4_3 => ?_)
  · have hres := zif_pos c4_3 hres
    refine lv_aload_n hx hb dX6_from_18 rfl (lv_at hl 0 rfl) ?_
    refine lv_iconst (v := (0 : Int32)) hx hb dX6_from_19 (by decide) ?_
    have g0 := hH.many
    refine zci (zrunV C0 hH (c_X6_no l D cy ad _ _ (by decide)) kM_X6_85 zK6 kq_X6_no zR0 rfl hl.1 rfl rfl rfl ⟨Nat.le_of_ble_eq_true rfl, Nat.le_of_ble_eq_true rfl⟩ (Nat.le_of_ble_eq_true rfl) dX6_from_20) hH (fun H locs hH => ?_)
    exact zreti C0 hH dX6_from_23 (zfst hres) (zsnd hres)
  · have hres := zif_neg c4_3 hres
    refine lv_aload_n hx hb dX6_from_7 rfl (lv_at hl 0 rfl) ?_
    refine lv_iload_n hx hb dX6_from_8 rfl (lv_at hl 1 rfl) ?_
    refine lv_iconst (v := (2 : Int32)) hx hb dX6_from_9 (by decide) ?_
    refine lv_iconst (v := (0 : Int32)) hx hb dX6_from_10 (by decide) ?_
    refine lv_iconst (v := (0 : Int32)) hx hb dX6_from_11 (by decide) ?_
    have g0 := hH.many
    refine zci (zrunV C0 hH (c_X6_leastSo l D cy ad _ _ _ _ _ (by exact hV) (by first | assumption | exact ia_X6 (by assumption)) (by exact Or.inl rfl)) kM_X6_167 zK6 kq_X6_leastSo zR0 rfl hl.1 rfl rfl rfl ⟨Nat.le_of_ble_eq_true rfl, Nat.le_of_ble_eq_true rfl⟩ (Nat.le_of_ble_eq_true rfl) dX6_from_12) hH (fun H locs hH => ?_)
    refine lv_goto (tgt := 23) hx hb dX6_from_15 (by decide) ?_
    exact zreti C0 hH dX6_from_23 (zfst hres) (zsnd hres)
set_option maxRecDepth 100000 in
set_option maxHeartbeats 4000000 in
theorem c_X6_still (l : Launch) (D : va_G) (cy : Nat → ClassId) (ad : Nat → Nat) (M : zM) (p1 : Int32) (p2 : Int32) (p3 : Int32) (hV : zVal M) : Met l yX6_still (Cond.code yX6_still cX6_still 4 (some .int) :: zG) ({ frames := 10, cells := 0, slots := 0, locals := 239 }) (zP D lyR cy ad [.ref (ad 0), .int p1, .int p2, .int p3] M) (zQi D lyR cy ad (f_X6_still p1 p2 p3 M).1 (f_X6_still p1 p2 p3 M).2) 0 0 (zA lyR ad) := by
  generalize hres : (f_X6_still p1 p2 p3 M) = res
  refine zMet (by decide) (Nat.le_of_ble_eq_true rfl) ?_
  intro p e s m args below meth c ls C0 hH hl
  obtain ⟨⟨hx, hb, hml, hown, hts⟩, -⟩ := id C0
  have hz : ∀ w ∈ zG, w.before args s = true := fun w h => hts w (List.mem_cons_of_mem _ h)
  have hl : lv_has ls 4 [(0, .ref (ad 0)), (1, .int p1), (2, .int p2), (3, .int p3)] := hl
  have g0 := hH.many
  have J26 : ∀ (mm : zM) (H : Heap) (locs : List Loc) (ls : Array Slot), zH D lyR cy ad s.heap mm H locs → lv_has ls 4 [(0, .ref (ad 0))] → f_X6_still_26 p1 p2 p3 mm = res → W p l e { frames := 10, cells := 0, slots := 0, locals := 239 } s m args below meth c H locs 0 0 (MQ below (zQi D lyR cy ad res.1 res.2) args s 0 0 (zA lyR ad)) (F0 m 26 ls []) := by
    intro mm H locs ls hH hl hres
    refine lv_aload_n hx hb dX6_still_26 rfl (lv_at hl 0 rfl) ?_
    refine lv_iconst (v := (0 : Int32)) hx hb dX6_still_27 (by decide) ?_
    have g0 := hH.many
    refine zci (zrunV C0 hH (c_X6_no l D cy ad _ _ (by decide)) kM_X6_85 zK6 kq_X6_no zR0 rfl hl.1 rfl rfl rfl ⟨Nat.le_of_ble_eq_true rfl, Nat.le_of_ble_eq_true rfl⟩ (Nat.le_of_ble_eq_true rfl) dX6_still_28) hH (fun H locs hH => ?_)
    exact zreti C0 hH dX6_still_31 (zfst hres) (zsnd hres)
  refine lv_aload_n hx hb dX6_still_0 rfl (lv_at hl 0 rfl) ?_
  refine lv_iload_n hx hb dX6_still_1 rfl (lv_at hl 1 rfl) ?_
  have g0 := hH.many
  refine zcz (zrunV C0 hH (c_X6_isBlock l D cy ad _ _) kM_X6_92 zK6 kq_X6_isBlock zR0 rfl hl.1 rfl rfl rfl ⟨Nat.le_of_ble_eq_true rfl, Nat.le_of_ble_eq_true rfl⟩ (Nat.le_of_ble_eq_true rfl) dX6_still_2) hH (fun H locs hH h01_1 => ?_)
  refine lv_if_eq (tgt := 26) hx hb dX6_still_5 (by decide) (fun c5_3 => ?_) (fun c5_3 => ?_)
  · have hres := zif_pos c5_3 hres
    exact J26 _ _ _ _ hH (lv_sub hl [0] rfl) hres
  · have hres := zif_neg c5_3 hres
    refine lv_iload_n hx hb dX6_still_8 rfl (lv_at hl 2 rfl) ?_
    have g0 := hH.many
    refine zcz (zrunS C0 hH (c_X6_isAhead l D cy ad _ _) kM_X6_146 kq_X6_isAhead rfl hl.1 rfl rfl rfl ⟨Nat.le_of_ble_eq_true rfl, Nat.le_of_ble_eq_true rfl⟩ (Nat.le_of_ble_eq_true rfl) dX6_still_9) hH (fun H locs hH h01_4 => ?_)
    refine lv_if_eq (tgt := 26) hx hb dX6_still_12 (by decide) (fun c12_6 => ?_) (fun c12_6 => ?_)
    · have hres := zif_pos c12_6 hres
      exact J26 _ _ _ _ hH (lv_sub hl [0] rfl) hres
    · have hres := zif_neg c12_6 hres
      refine lv_iload_n hx hb dX6_still_15 rfl (lv_at hl 3 rfl) ?_
      refine lv_iconst (v := (0 : Int32)) hx hb dX6_still_16 (by decide) ?_
      refine lv_sipush (v := (400 : Int32)) hx hb dX6_still_17 (by decide) ?_
      have g0 := hH.many
      refine zcz (zrunS C0 hH (c_X6_in l D cy ad _ _ _ _) kM_X6_57 kq_X6_in rfl hl.1 rfl rfl rfl ⟨Nat.le_of_ble_eq_true rfl, Nat.le_of_ble_eq_true rfl⟩ (Nat.le_of_ble_eq_true rfl) dX6_still_20) hH (fun H locs hH h01_7 => ?_)
      refine lv_if_ne (tgt := 32) hx hb dX6_still_23 (by decide) (fun c23_9 => ?_) (fun c23_9 => ?_)
      · have hres := zif_neg c23_9 hres
        refine lv_aload_n hx hb dX6_still_32 rfl (lv_at hl 0 rfl) ?_
        refine lv_iload_n hx hb dX6_still_33 rfl (lv_at hl 2 rfl) ?_
        refine lv_bipush (v := (78 : Int32)) hx hb dX6_still_34 (by decide) ?_
        refine lv_bipush (v := (7 : Int32)) hx hb dX6_still_36 (by decide) ?_
        refine lv_iload_n hx hb dX6_still_38 rfl (lv_at hl 1 rfl) ?_
        refine lv_imul hx hb dX6_still_39 ?_
        refine lv_iadd hx hb dX6_still_40 ?_
        refine lv_iconst (v := (4 : Int32)) hx hb dX6_still_41 (by decide) ?_
        refine lv_iadd hx hb dX6_still_42 ?_
        refine lv_iconst (v := (1 : Int32)) hx hb dX6_still_43 (by decide) ?_
        refine lv_iload_n hx hb dX6_still_44 rfl (lv_at hl 3 rfl) ?_
        have g0 := hH.many
        refine zci (zrunV C0 hH (c_X6_leastSo l D cy ad _ _ _ _ _ (by exact hV) (by first | assumption | exact ia_X6 (by assumption)) (by exact zCe.of (ib10 g0 (by assumption)))) kM_X6_167 zK6 kq_X6_leastSo zR0 rfl hl.1 rfl rfl rfl ⟨Nat.le_of_ble_eq_true rfl, Nat.le_of_ble_eq_true rfl⟩ (Nat.le_of_ble_eq_true rfl) dX6_still_45) hH (fun H locs hH => ?_)
        exact zreti C0 hH dX6_still_48 (zfst hres) (zsnd hres)
      · have hres := zif_pos c23_9 hres
        exact J26 _ _ _ _ hH (lv_sub hl [0] rfl) hres
