set_option maxRecDepth 100000 in
set_option maxHeartbeats 4000000 in
theorem c_X6_given (l : Launch) (D : va_G) (cy : Nat → ClassId) (ad : Nat → Nat) (M : zM) (p1 : Int32) (p2 : Int32) (hV : zVal M) (hbk : 0 ≤ p1 ∧ p1 < 10) : Met l yX6_given (Cond.code yX6_given cX6_given 6 (some .int) :: zG) ({ frames := 2, cells := 0, slots := 0, locals := 45 }) (zP D lyR cy ad [.ref (ad 0), .int p1, .int p2] M) (zQi D lyR cy ad (f_X6_given p1 p2 M).1 (f_X6_given p1 p2 M).2) 0 0 (zA lyR ad) := by
  generalize hres : (f_X6_given p1 p2 M) = res
  refine zMet (by decide) (Nat.le_of_ble_eq_true rfl) ?_
  intro p e s m args below meth c ls C0 hH hl
  obtain ⟨⟨hx, hb, hml, hown, hts⟩, -⟩ := id C0
  have hz : ∀ w ∈ zG, w.before args s = true := fun w h => hts w (List.mem_cons_of_mem _ h)
  have hl : lv_has ls 6 [(0, .ref (ad 0)), (1, .int p1), (2, .int p2)] := hl
  have g0 := hH.many
  have L5 : ∀ (n5 : Nat), ∀ (v3 : Int32) (v4 : Int32) (mm : zM) (H : Heap) (locs : List Loc) (ls : Array Slot), (zCt 60 n5 v4) → (zVal mm) → (zGv mm v3 v4) → zH D lyR cy ad s.heap mm H locs → lv_has ls 6 [(0, .ref (ad 0)), (1, .int p1), (2, .int p2), (3, .int v3), (4, .int v4)] → f_X6_given_5 p1 p2 n5 v3 v4 mm = res → W p l e { frames := 2, cells := 0, slots := 0, locals := 45 } s m args below meth c H locs 0 0 (MQ below (zQi D lyR cy ad res.1 res.2) args s 0 0 (zA lyR ad)) (F0 m 5 ls []) := by
    intro n5
    induction n5 with
    | zero =>
      intro v3 v4 mm H locs ls hct hV hg hH hl hres
      exfalso; exact hct.zero
    | succ n5 ih5 =>
      intro v3 v4 mm H locs ls hct hV hg hH hl hres
      have g1 := hH.coded
      refine lv_iload hx hb dX6_given_5 (lv_at hl 4 rfl) ?_
      refine lv_aload_n hx hb dX6_given_7 rfl (lv_at hl 0 rfl) ?_
      refine zgR C0 hH zK6 0 (by decide) _ zR0 rfl kF_X6_9 dX6_given_8 ?_
      refine lv_iconst (v := (5 : Int32)) hx hb dX6_given_11 (by decide) ?_
      refine zaldK C0 hH zS31.is zS31.ln (k := 5) (by decide) (by unfold vp_in; decide) dX6_given_12 ?_
      refine lv_icmp_ge (tgt := 137) hx hb dX6_given_13 (by decide) (fun c13_1 => ?_) (fun c13_1 => ?_)
      · have hres := zif_pos c13_1 hres
        refine lv_aload_n hx hb dX6_given_137 rfl (lv_at hl 0 rfl) ?_
        refine zgR C0 hH zK6 20 (by decide) _ zR0 rfl kF_X6_40 dX6_given_138 ?_
        refine lv_iconst (v := (0 : Int32)) hx hb dX6_given_141 (by decide) ?_
        refine zaldK C0 hH (zR_i (by decide) (by decide)) rfl (k := 0) (by decide) (by unfold vp_in; decide) dX6_given_142 ?_
        exact zreti C0 hH dX6_given_143 (zfst hres) (zsnd hres)
      · have hres := zif_neg c13_1 hres
        refine lv_aload_n hx hb dX6_given_16 rfl (lv_at hl 0 rfl) ?_
        refine zgR C0 hH zK6 0 (by decide) _ zR0 rfl kF_X6_9 dX6_given_17 ?_
        refine lv_bipush (v := (14 : Int32)) hx hb dX6_given_20 (by decide) ?_
        refine lv_iload hx hb dX6_given_22 (lv_at hl 4 rfl) ?_
        refine lv_iadd hx hb dX6_given_24 ?_
        have gg := gv_all hV hg hct.1 (by assumption) g1.2
        refine zald C0 hH zS31.is zS31.ln (by exact zoff 14 _ hct.1 hct.2.1 (by decide)) dX6_given_25 ?_
        refine lv_istore (lv' := [(5, _), (0, _), (1, _), (2, _), (3, _), (4, _)]) hx hb dX6_given_26 hl (by decide) rfl (fun ls hl => ?_)
        refine lv_iload hx hb dX6_given_28 (lv_at hl 0 rfl) ?_
        refine lv_sipush (v := (2000 : Int32)) hx hb dX6_given_30 (by decide) ?_
        refine lv_icmp_ge (tgt := 73) hx hb dX6_given_33 (by decide) (fun c33_3 => ?_) (fun c33_3 => ?_)
        · have hres := zif_pos c33_3 hres
          refine lv_iload hx hb dX6_given_73 (lv_at hl 0 rfl) ?_
          refine lv_sipush (v := (2004 : Int32)) hx hb dX6_given_75 (by decide) ?_
          refine lv_icmp_ne (tgt := 101) hx hb dX6_given_78 (by decide) (fun c78_4 => ?_) (fun c78_4 => ?_)
          · have hres := zif_neg c78_4 hres
            refine ziinc (lv' := [(3, _), (5, _), (0, _), (1, _), (2, _), (4, _)]) (k := 4) hx hb (-1 : Int32) (by decide) dX6_given_101 hl rfl (by decide) rfl (fun ls hl => ?_)
            refine lv_aload_n hx hb dX6_given_104 rfl (lv_at hl 2 rfl) ?_
            refine zgR C0 hH zK6 20 (by decide) _ zR0 rfl kF_X6_40 dX6_given_105 ?_
            refine lv_iload_n hx hb dX6_given_108 rfl (lv_at hl 0 rfl) ?_
            refine lv_iconst (v := (1 : Int32)) hx hb dX6_given_109 (by decide) ?_
            refine lv_isub hx hb dX6_given_110 ?_
            refine lv_iload hx hb dX6_given_111 (lv_at hl 1 rfl) ?_
            refine lv_aload_n hx hb dX6_given_113 rfl (lv_at hl 2 rfl) ?_
            refine zgR C0 hH zK6 20 (by decide) _ zR0 rfl kF_X6_40 dX6_given_114 ?_
            refine lv_iload_n hx hb dX6_given_117 rfl (lv_at hl 0 rfl) ?_
            refine lv_iconst (v := (1 : Int32)) hx hb dX6_given_118 (by decide) ?_
            refine lv_isub hx hb dX6_given_119 ?_
            refine zald C0 hH (zR_i (by decide) (by decide)) rfl (by exact (gi2 (gg.2.2.2 (by assumption) (by assumption)).1 gg.1).2) dX6_given_120 ?_
            refine lv_aload_n hx hb dX6_given_121 rfl (lv_at hl 2 rfl) ?_
            refine zgR C0 hH zK6 20 (by decide) _ zR0 rfl kF_X6_40 dX6_given_122 ?_
            refine lv_iload_n hx hb dX6_given_125 rfl (lv_at hl 0 rfl) ?_
            refine zald C0 hH (zR_i (by decide) (by decide)) rfl (by exact (gi2 (gg.2.2.2 (by assumption) (by assumption)).1 gg.1).1) dX6_given_126 ?_
            have g0 := hH.many
            refine zci (zrunS C0 hH (c_X6_done l D cy ad _ _ _ _) kM_X6_235 kq_X6_done rfl hl.1 rfl rfl rfl ⟨Nat.le_of_ble_eq_true rfl, Nat.le_of_ble_eq_true rfl⟩ (Nat.le_of_ble_eq_true rfl) dX6_given_127) hH (fun H locs hH => ?_)
            refine zast C0 hH (zR_i (by decide) (by decide)) rfl (by exact (gi2 (gg.2.2.2 (by assumption) (by assumption)).1 gg.1).2) zcn dX6_given_130 (fun H locs hH => ?_)
            have hV := zVof hH (hV.to (sm_put0 (by decide)))
            have hg2 := (gg.2.2.2 (by assumption) (by assumption)).2
            refine ziinc (lv' := [(4, _), (3, _), (5, _), (0, _), (1, _), (2, _)]) (k := 5) hx hb (1 : Int32) (by decide) dX6_given_131 hl rfl (by decide) rfl (fun ls hl => ?_)
            refine lv_goto (tgt := 5) hx hb dX6_given_134 (by decide) ?_
            exact ih5 _ _ _ _ _ _ (by first | exact zCt.start (by decide) (by decide) | exact zCt.begin (by decide) (by decide) (by decide) | exact zCt.step (m := 60) hct (by first | assumption | exact Int32.not_le.mp (by assumption) | exact Int32.lt_of_lt_of_le (Int32.not_le.mp (by assumption)) g1.2) (by decide)) (by exact hV) (by first | exact hg2.row (zpI_ne.1 1 (by decide)) | exact zGv.start) hH (lv_sub hl [3, 4, 5, 1, 0] rfl) hres
          · have hres := zif_pos c78_4 hres
            refine lv_aload_n hx hb dX6_given_81 rfl (lv_at hl 1 rfl) ?_
            refine zgR C0 hH zK6 20 (by decide) _ zR0 rfl kF_X6_40 dX6_given_82 ?_
            refine lv_iload_n hx hb dX6_given_85 rfl (lv_at hl 4 rfl) ?_
            refine lv_iconst (v := (1 : Int32)) hx hb dX6_given_86 (by decide) ?_
            refine lv_isub hx hb dX6_given_87 ?_
            refine lv_aload_n hx hb dX6_given_88 rfl (lv_at hl 1 rfl) ?_
            refine zgR C0 hH zK6 20 (by decide) _ zR0 rfl kF_X6_40 dX6_given_89 ?_
            refine lv_iload_n hx hb dX6_given_92 rfl (lv_at hl 4 rfl) ?_
            refine lv_iconst (v := (1 : Int32)) hx hb dX6_given_93 (by decide) ?_
            refine lv_isub hx hb dX6_given_94 ?_
            refine zald C0 hH (zR_i (by decide) (by decide)) rfl (by exact gi1 (gg.2.2.1 (by assumption)).1 gg.1) dX6_given_95 ?_
            refine lv_ineg hx hb dX6_given_96 ?_
            refine zast C0 hH (zR_i (by decide) (by decide)) rfl (by exact gi1 (gg.2.2.1 (by assumption)).1 gg.1) zcn dX6_given_97 (fun H locs hH => ?_)
            have hV := zVof hH (hV.to (sm_put0 (by decide)))
            have hg2 := (gg.2.2.1 (by assumption)).2
            refine lv_goto (tgt := 131) hx hb dX6_given_98 (by decide) ?_
            refine ziinc (lv' := [(4, _), (5, _), (0, _), (1, _), (2, _), (3, _)]) (k := 5) hx hb (1 : Int32) (by decide) dX6_given_131 hl rfl (by decide) rfl (fun ls hl => ?_)
            refine lv_goto (tgt := 5) hx hb dX6_given_134 (by decide) ?_
            exact ih5 _ _ _ _ _ _ (by first | exact zCt.start (by decide) (by decide) | exact zCt.begin (by decide) (by decide) (by decide) | exact zCt.step (m := 60) hct (by first | assumption | exact Int32.not_le.mp (by assumption) | exact Int32.lt_of_lt_of_le (Int32.not_le.mp (by assumption)) g1.2) (by decide)) (by exact hV) (by first | exact hg2.row (zpI_ne.1 1 (by decide)) | exact zGv.start) hH (lv_sub hl [2, 3, 4, 5, 0] rfl) hres
        · have hres := zif_neg c33_3 hres
          refine lv_aload_n hx hb dX6_given_36 rfl (lv_at hl 1 rfl) ?_
          refine zgR C0 hH zK6 20 (by decide) _ zR0 rfl kF_X6_40 dX6_given_37 ?_
          refine lv_iload_n hx hb dX6_given_40 rfl (lv_at hl 4 rfl) ?_
          refine lv_iload hx hb dX6_given_41 (lv_at hl 0 rfl) ?_
          refine lv_sipush (v := (1000 : Int32)) hx hb dX6_given_43 (by decide) ?_
          refine lv_icmp_ge (tgt := 54) hx hb dX6_given_46 (by decide) (fun c46_8 => ?_) (fun c46_8 => ?_)
          · have hres := zif_pos c46_8 hres
            refine lv_aload_n hx hb dX6_given_54 rfl (lv_at hl 1 rfl) ?_
            refine lv_iload hx hb dX6_given_55 (lv_at hl 0 rfl) ?_
            refine lv_sipush (v := (1000 : Int32)) hx hb dX6_given_57 (by decide) ?_
            refine lv_isub hx hb dX6_given_60 ?_
            refine lv_iload_n hx hb dX6_given_61 rfl (lv_at hl 2 rfl) ?_
            refine lv_iload_n hx hb dX6_given_62 rfl (lv_at hl 3 rfl) ?_
            have g0 := hH.many
            refine zci (zrunV C0 hH (c_X6_worthOf l D cy ad _ _ _ _ (by first | assumption | (have q0 := hH.many; (try obtain ⟨qa, qb, -⟩ := hct); clear hres hz hts; grind [f_X6_in, f_X6_isBlock, f_X6_isAhead, f_X6_isSheet]))) kM_X6_232 zK6 kq_X6_worthOf zR0 rfl hl.1 rfl rfl rfl ⟨Nat.le_of_ble_eq_true rfl, Nat.le_of_ble_eq_true rfl⟩ (Nat.le_of_ble_eq_true rfl) dX6_given_63) hH (fun H locs hH => ?_)
            refine zast C0 hH (zR_i (by decide) (by decide)) rfl (by exact gi0 hg.2.1 gg.1) zcn dX6_given_66 (fun H locs hH => ?_)
            have hV := zVof hH (hV.to (sm_put0 (by decide)))
            have hg2 := gg.2.1 (by assumption)
            refine ziinc (lv' := [(3, _), (5, _), (0, _), (1, _), (2, _), (4, _)]) (k := 4) hx hb (1 : Int32) (by decide) dX6_given_67 hl rfl (by decide) rfl (fun ls hl => ?_)
            refine lv_goto (tgt := 131) hx hb dX6_given_70 (by decide) ?_
            refine ziinc (lv' := [(4, _), (3, _), (5, _), (0, _), (1, _), (2, _)]) (k := 5) hx hb (1 : Int32) (by decide) dX6_given_131 hl rfl (by decide) rfl (fun ls hl => ?_)
            refine lv_goto (tgt := 5) hx hb dX6_given_134 (by decide) ?_
            exact ih5 _ _ _ _ _ _ (by first | exact zCt.start (by decide) (by decide) | exact zCt.begin (by decide) (by decide) (by decide) | exact zCt.step (m := 60) hct (by first | assumption | exact Int32.not_le.mp (by assumption) | exact Int32.lt_of_lt_of_le (Int32.not_le.mp (by assumption)) g1.2) (by decide)) (by exact hV) (by first | exact hg2.row (zpI_ne.1 1 (by decide)) | exact zGv.start) hH (lv_sub hl [3, 4, 5, 1, 0] rfl) hres
          · have hres := zif_neg c46_8 hres
            refine lv_iload hx hb dX6_given_49 (lv_at hl 0 rfl) ?_
            refine lv_goto (tgt := 66) hx hb dX6_given_51 (by decide) ?_
            refine zast C0 hH (zR_i (by decide) (by decide)) rfl (by exact gi0 hg.2.1 gg.1) zcn dX6_given_66 (fun H locs hH => ?_)
            have hV := zVof hH (hV.to (sm_put0 (by decide)))
            have hg2 := gg.2.1 (by assumption)
            refine ziinc (lv' := [(3, _), (5, _), (0, _), (1, _), (2, _), (4, _)]) (k := 4) hx hb (1 : Int32) (by decide) dX6_given_67 hl rfl (by decide) rfl (fun ls hl => ?_)
            refine lv_goto (tgt := 131) hx hb dX6_given_70 (by decide) ?_
            refine ziinc (lv' := [(4, _), (3, _), (5, _), (0, _), (1, _), (2, _)]) (k := 5) hx hb (1 : Int32) (by decide) dX6_given_131 hl rfl (by decide) rfl (fun ls hl => ?_)
            refine lv_goto (tgt := 5) hx hb dX6_given_134 (by decide) ?_
            exact ih5 _ _ _ _ _ _ (by first | exact zCt.start (by decide) (by decide) | exact zCt.begin (by decide) (by decide) (by decide) | exact zCt.step (m := 60) hct (by first | assumption | exact Int32.not_le.mp (by assumption) | exact Int32.lt_of_lt_of_le (Int32.not_le.mp (by assumption)) g1.2) (by decide)) (by exact hV) (by first | exact hg2.row (zpI_ne.1 1 (by decide)) | exact zGv.start) hH (lv_sub hl [3, 4, 5, 1, 0] rfl) hres
  refine lv_iconst (v := (0 : Int32)) hx hb dX6_given_0 (by decide) ?_
  refine lv_istore_n (lv' := [(3, _), (0, _), (1, _), (2, _)]) hx hb dX6_given_1 rfl hl (by decide) rfl (fun ls hl => ?_)
  refine lv_iconst (v := (0 : Int32)) hx hb dX6_given_2 (by decide) ?_
  refine lv_istore (lv' := [(4, _), (3, _), (0, _), (1, _), (2, _)]) hx hb dX6_given_3 hl (by decide) rfl (fun ls hl => ?_)
  exact L5 (61) _ _ _ _ _ _ (by first | exact zCt.start (by decide) (by decide) | exact zCt.begin (by decide) (by decide) (by decide) | exact zCt.step (m := 60) hct (by first | assumption | exact Int32.not_le.mp (by assumption) | exact Int32.lt_of_lt_of_le (Int32.not_le.mp (by assumption)) g1.2) (by decide)) (by exact hV) (by first | exact hg2.row (zpI_ne.1 1 (by decide)) | exact zGv.start) hH (lv_sub hl [2, 3, 4, 1, 0] rfl) hres
set_option maxRecDepth 100000 in
set_option maxHeartbeats 4000000 in
theorem c_X6_holdsOf (l : Launch) (D : va_G) (cy : Nat → ClassId) (ad : Nat → Nat) (M : zM) (p1 : Int32) (p2 : Int32) (hV : zVal M) (hbk : 0 ≤ p1 ∧ p1 < 10) : Met l yX6_holdsOf (Cond.code yX6_holdsOf cX6_holdsOf 4 (some .int) :: zG) ({ frames := 3, cells := 0, slots := 0, locals := 70 }) (zP D lyR cy ad [.ref (ad 0), .int p1, .int p2] M) (zQi D lyR cy ad (f_X6_holdsOf p1 p2 M).1 (f_X6_holdsOf p1 p2 M).2) 0 0 (zA lyR ad) := by
  generalize hres : (f_X6_holdsOf p1 p2 M) = res
  refine zMet (by decide) (Nat.le_of_ble_eq_true rfl) ?_
  intro p e s m args below meth c ls C0 hH hl
  obtain ⟨⟨hx, hb, hml, hown, hts⟩, -⟩ := id C0
  have hz : ∀ w ∈ zG, w.before args s = true := fun w h => hts w (List.mem_cons_of_mem _ h)
  have hl : lv_has ls 4 [(0, .ref (ad 0)), (1, .int p1), (2, .int p2)] := hl
  have g0 := hH.many
  refine lv_aload_n hx hb dX6_holdsOf_0 rfl (lv_at hl 0 rfl) ?_
  refine lv_iload_n hx hb dX6_holdsOf_1 rfl (lv_at hl 1 rfl) ?_
  refine lv_iload_n hx hb dX6_holdsOf_2 rfl (lv_at hl 2 rfl) ?_
  have g0 := hH.many
  refine zci (zrunV C0 hH (c_X6_plainHolds l D cy ad _ _ _ (by first | assumption | (have q0 := hH.many; (try obtain ⟨qa, qb, -⟩ := hct); clear hres hz hts; grind [f_X6_in, f_X6_isBlock, f_X6_isAhead, f_X6_isSheet]))) kM_X6_68 zK6 kq_X6_plainHolds zR0 rfl hl.1 rfl rfl rfl ⟨Nat.le_of_ble_eq_true rfl, Nat.le_of_ble_eq_true rfl⟩ (Nat.le_of_ble_eq_true rfl) dX6_holdsOf_3) hH (fun H locs hH => ?_)
  refine lv_istore_n (lv' := [(3, _), (0, _), (1, _), (2, _)]) hx hb dX6_holdsOf_6 rfl hl (by decide) rfl (fun ls hl => ?_)
  refine lv_aload_n hx hb dX6_holdsOf_7 rfl (lv_at hl 1 rfl) ?_
  refine lv_iload_n hx hb dX6_holdsOf_8 rfl (lv_at hl 2 rfl) ?_
  refine lv_iconst (v := (0 : Int32)) hx hb dX6_holdsOf_9 (by decide) ?_
  have g0 := hH.many
  refine zci (zrunV C0 hH (c_X6_at l D cy ad _ _ _ (by first | assumption | (have q0 := hH.many; (try obtain ⟨qa, qb, -⟩ := hct); clear hres hz hts; grind [f_X6_in, f_X6_isBlock, f_X6_isAhead, f_X6_isSheet])) (by first | decide | assumption | (clear hres hz hts; grind [f_X6_in, f_X6_isBlock, f_X6_isAhead, f_X6_isSheet]))) kM_X6_61 zK6 kq_X6_at zR0 rfl hl.1 rfl rfl rfl ⟨Nat.le_of_ble_eq_true rfl, Nat.le_of_ble_eq_true rfl⟩ (Nat.le_of_ble_eq_true rfl) dX6_holdsOf_10) hH (fun H locs hH => ?_)
  refine zcase hres (fun c13_3_1 hres => ?_) (fun c13_3_1 hres => ?_)
  · refine ztab (tgt := 48) hx hb c13_3_1 dX6_holdsOf_13 (by decide) (by decide) rfl (by decide) ?_
    refine lv_iload_n hx hb dX6_holdsOf_48 rfl (lv_at hl 0 rfl) ?_
    refine lv_iload_n hx hb dX6_holdsOf_49 rfl (lv_at hl 3 rfl) ?_
    refine lv_iadd hx hb dX6_holdsOf_50 ?_
    exact zreti C0 hH dX6_holdsOf_51 (zfst hres) (zsnd hres)
  · skip
    refine zcase hres (fun c13_3_2 hres => ?_) (fun c13_3_2 hres => ?_)
    · refine ztab (tgt := 52) hx hb c13_3_2 dX6_holdsOf_13 (by decide) (by decide) rfl (by decide) ?_
      refine lv_iconst (v := (0 : Int32)) hx hb dX6_holdsOf_52 (by decide) ?_
      refine lv_iload_n hx hb dX6_holdsOf_53 rfl (lv_at hl 0 rfl) ?_
      refine lv_iconst (v := (2 : Int32)) hx hb dX6_holdsOf_54 (by decide) ?_
      refine lv_idiv hx hb dX6_holdsOf_55 (by first | assumption | decide) ?_
      refine lv_aload_n hx hb dX6_holdsOf_56 rfl (lv_at hl 1 rfl) ?_
      refine lv_iload_n hx hb dX6_holdsOf_57 rfl (lv_at hl 2 rfl) ?_
      refine lv_iconst (v := (4 : Int32)) hx hb dX6_holdsOf_58 (by decide) ?_
      have g0 := hH.many
      refine zci (zrunV C0 hH (c_X6_at l D cy ad _ _ _ (by first | assumption | (have q0 := hH.many; (try obtain ⟨qa, qb, -⟩ := hct); clear hres hz hts; grind [f_X6_in, f_X6_isBlock, f_X6_isAhead, f_X6_isSheet])) (by first | decide | assumption | (clear hres hz hts; grind [f_X6_in, f_X6_isBlock, f_X6_isAhead, f_X6_isSheet]))) kM_X6_61 zK6 kq_X6_at zR0 rfl hl.1 rfl rfl rfl ⟨Nat.le_of_ble_eq_true rfl, Nat.le_of_ble_eq_true rfl⟩ (Nat.le_of_ble_eq_true rfl) dX6_holdsOf_59) hH (fun H locs hH => ?_)
      refine lv_isub hx hb dX6_holdsOf_62 ?_
      have g0 := hH.many
      refine zci (zrunS C0 hH (c_X6_greater l D cy ad _ _ _) kM_X6_71 kq_X6_greater rfl hl.1 rfl rfl rfl ⟨Nat.le_of_ble_eq_true rfl, Nat.le_of_ble_eq_true rfl⟩ (Nat.le_of_ble_eq_true rfl) dX6_holdsOf_63) hH (fun H locs hH => ?_)
      exact zreti C0 hH dX6_holdsOf_66 (zfst hres) (zsnd hres)
    · skip
      refine zcase hres (fun c13_3_3 hres => ?_) (fun c13_3_3 hres => ?_)
      · refine ztab (tgt := 67) hx hb c13_3_3 dX6_holdsOf_13 (by decide) (by decide) rfl (by decide) ?_
        refine lv_aload_n hx hb dX6_holdsOf_67 rfl (lv_at hl 1 rfl) ?_
        refine zgR C0 hH zK6 0 (by decide) _ zR0 rfl kF_X6_9 dX6_holdsOf_68 ?_
        refine lv_iconst (v := (5 : Int32)) hx hb dX6_holdsOf_71 (by decide) ?_
        refine zaldK C0 hH zS31.is zS31.ln (k := 5) (by decide) (by unfold vp_in; decide) dX6_holdsOf_72 ?_
        refine lv_if_ge (tgt := 85) hx hb dX6_holdsOf_73 (by decide) (fun c73_6 => ?_) (fun c73_6 => ?_)
        · have hres := zif_pos c73_6 hres
          refine lv_iconst (v := (0 : Int32)) hx hb dX6_holdsOf_85 (by decide) ?_
          refine lv_sipush (v := (9999 : Int32)) hx hb dX6_holdsOf_86 (by decide) ?_
          refine lv_aload_n hx hb dX6_holdsOf_89 rfl (lv_at hl 1 rfl) ?_
          refine lv_iload_n hx hb dX6_holdsOf_90 rfl (lv_at hl 2 rfl) ?_
          refine lv_iload_n hx hb dX6_holdsOf_91 rfl (lv_at hl 3 rfl) ?_
          have g0 := hH.many
          refine zci (zrunV C0 hH (c_X6_given l D cy ad _ _ _ (by exact hV) (by first | assumption | exact ib10 g0 (by assumption) | exact ⟨hm.1, Int32.lt_of_lt_of_le hm.2 g0.2⟩)) kM_X6_74 zK6 kq_X6_given zR0 rfl hl.1 rfl rfl rfl ⟨Nat.le_of_ble_eq_true rfl, Nat.le_of_ble_eq_true rfl⟩ (Nat.le_of_ble_eq_true rfl) dX6_holdsOf_92) hH (fun H locs hH => ?_)
          have hV := zVof hH (hV.to (sm_row rw_given))
          have g0 := hH.many
          refine zci (zrunS C0 hH (c_X6_lesser l D cy ad _ _ _) kM_X6_65 kq_X6_lesser rfl hl.1 rfl rfl rfl ⟨Nat.le_of_ble_eq_true rfl, Nat.le_of_ble_eq_true rfl⟩ (Nat.le_of_ble_eq_true rfl) dX6_holdsOf_95) hH (fun H locs hH => ?_)
          have g0 := hH.many
          refine zci (zrunS C0 hH (c_X6_greater l D cy ad _ _ _) kM_X6_71 kq_X6_greater rfl hl.1 rfl rfl rfl ⟨Nat.le_of_ble_eq_true rfl, Nat.le_of_ble_eq_true rfl⟩ (Nat.le_of_ble_eq_true rfl) dX6_holdsOf_98) hH (fun H locs hH => ?_)
          exact zreti C0 hH dX6_holdsOf_101 (zfst hres) (zsnd hres)
        · have hres := zif_neg c73_6 hres
          refine lv_aload_n hx hb dX6_holdsOf_76 rfl (lv_at hl 1 rfl) ?_
          refine lv_iload_n hx hb dX6_holdsOf_77 rfl (lv_at hl 2 rfl) ?_
          refine lv_iconst (v := (1 : Int32)) hx hb dX6_holdsOf_78 (by decide) ?_
          have g0 := hH.many
          refine zci (zrunV C0 hH (c_X6_at l D cy ad _ _ _ (by first | assumption | (have q0 := hH.many; (try obtain ⟨qa, qb, -⟩ := hct); clear hres hz hts; grind [f_X6_in, f_X6_isBlock, f_X6_isAhead, f_X6_isSheet])) (by first | decide | assumption | (clear hres hz hts; grind [f_X6_in, f_X6_isBlock, f_X6_isAhead, f_X6_isSheet]))) kM_X6_61 zK6 kq_X6_at zR0 rfl hl.1 rfl rfl rfl ⟨Nat.le_of_ble_eq_true rfl, Nat.le_of_ble_eq_true rfl⟩ (Nat.le_of_ble_eq_true rfl) dX6_holdsOf_79) hH (fun H locs hH => ?_)
          refine lv_goto (tgt := 101) hx hb dX6_holdsOf_82 (by decide) ?_
          exact zreti C0 hH dX6_holdsOf_101 (zfst hres) (zsnd hres)
      · skip
        refine zcase hres (fun c13_3_4 hres => ?_) (fun c13_3_4 hres => ?_)
        · refine ztab (tgt := 102) hx hb c13_3_4 dX6_holdsOf_13 (by decide) (by decide) rfl (by decide) ?_
          refine lv_iload_n hx hb dX6_holdsOf_102 rfl (lv_at hl 0 rfl) ?_
          refine lv_iload_n hx hb dX6_holdsOf_103 rfl (lv_at hl 3 rfl) ?_
          refine lv_iadd hx hb dX6_holdsOf_104 ?_
          refine lv_iload_n hx hb dX6_holdsOf_105 rfl (lv_at hl 3 rfl) ?_
          refine lv_bipush (v := (40 : Int32)) hx hb dX6_holdsOf_106 (by decide) ?_
          refine lv_icmp_lt (tgt := 115) hx hb dX6_holdsOf_108 (by decide) (fun c108_11 => ?_) (fun c108_11 => ?_)
          · have hres := zif_pos c108_11 hres
            refine lv_iconst (v := (1 : Int32)) hx hb dX6_holdsOf_115 (by decide) ?_
            refine lv_imul hx hb dX6_holdsOf_116 ?_
            exact zreti C0 hH dX6_holdsOf_117 (zfst hres) (zsnd hres)
          · have hres := zif_neg c108_11 hres
            refine lv_iconst (v := (3 : Int32)) hx hb dX6_holdsOf_111 (by decide) ?_
            refine lv_goto (tgt := 116) hx hb dX6_holdsOf_112 (by decide) ?_
            refine lv_imul hx hb dX6_holdsOf_116 ?_
            exact zreti C0 hH dX6_holdsOf_117 (zfst hres) (zsnd hres)
        · skip
          refine zcase hres (fun c13_3_5 hres => ?_) (fun c13_3_5 hres => ?_)
          · refine ztab (tgt := 118) hx hb c13_3_5 dX6_holdsOf_13 (by decide) (by decide) rfl (by decide) ?_
            refine lv_iconst (v := (0 : Int32)) hx hb dX6_holdsOf_118 (by decide) ?_
            refine lv_iconst (v := (0 : Int32)) hx hb dX6_holdsOf_119 (by decide) ?_
            refine lv_iload_n hx hb dX6_holdsOf_120 rfl (lv_at hl 0 rfl) ?_
            refine lv_iconst (v := (2 : Int32)) hx hb dX6_holdsOf_121 (by decide) ?_
            refine lv_idiv hx hb dX6_holdsOf_122 (by first | assumption | decide) ?_
            refine lv_aload_n hx hb dX6_holdsOf_123 rfl (lv_at hl 1 rfl) ?_
            refine lv_iload_n hx hb dX6_holdsOf_124 rfl (lv_at hl 2 rfl) ?_
            refine lv_iconst (v := (4 : Int32)) hx hb dX6_holdsOf_125 (by decide) ?_
            have g0 := hH.many
            refine zci (zrunV C0 hH (c_X6_at l D cy ad _ _ _ (by first | assumption | (have q0 := hH.many; (try obtain ⟨qa, qb, -⟩ := hct); clear hres hz hts; grind [f_X6_in, f_X6_isBlock, f_X6_isAhead, f_X6_isSheet])) (by first | decide | assumption | (clear hres hz hts; grind [f_X6_in, f_X6_isBlock, f_X6_isAhead, f_X6_isSheet]))) kM_X6_61 zK6 kq_X6_at zR0 rfl hl.1 rfl rfl rfl ⟨Nat.le_of_ble_eq_true rfl, Nat.le_of_ble_eq_true rfl⟩ (Nat.le_of_ble_eq_true rfl) dX6_holdsOf_126) hH (fun H locs hH => ?_)
            refine lv_isub hx hb dX6_holdsOf_129 ?_
            have g0 := hH.many
            refine zci (zrunS C0 hH (c_X6_greater l D cy ad _ _ _) kM_X6_71 kq_X6_greater rfl hl.1 rfl rfl rfl ⟨Nat.le_of_ble_eq_true rfl, Nat.le_of_ble_eq_true rfl⟩ (Nat.le_of_ble_eq_true rfl) dX6_holdsOf_130) hH (fun H locs hH => ?_)
            refine lv_aload_n hx hb dX6_holdsOf_133 rfl (lv_at hl 1 rfl) ?_
            refine lv_iload_n hx hb dX6_holdsOf_134 rfl (lv_at hl 2 rfl) ?_
            refine lv_iconst (v := (4 : Int32)) hx hb dX6_holdsOf_135 (by decide) ?_
            have g0 := hH.many
            refine zci (zrunV C0 hH (c_X6_at l D cy ad _ _ _ (by first | assumption | (have q0 := hH.many; (try obtain ⟨qa, qb, -⟩ := hct); clear hres hz hts; grind [f_X6_in, f_X6_isBlock, f_X6_isAhead, f_X6_isSheet])) (by first | decide | assumption | (clear hres hz hts; grind [f_X6_in, f_X6_isBlock, f_X6_isAhead, f_X6_isSheet]))) kM_X6_61 zK6 kq_X6_at zR0 rfl hl.1 rfl rfl rfl ⟨Nat.le_of_ble_eq_true rfl, Nat.le_of_ble_eq_true rfl⟩ (Nat.le_of_ble_eq_true rfl) dX6_holdsOf_136) hH (fun H locs hH => ?_)
            refine lv_isub hx hb dX6_holdsOf_139 ?_
            have g0 := hH.many
            refine zci (zrunS C0 hH (c_X6_greater l D cy ad _ _ _) kM_X6_71 kq_X6_greater rfl hl.1 rfl rfl rfl ⟨Nat.le_of_ble_eq_true rfl, Nat.le_of_ble_eq_true rfl⟩ (Nat.le_of_ble_eq_true rfl) dX6_holdsOf_140) hH (fun H locs hH => ?_)
            exact zreti C0 hH dX6_holdsOf_143 (zfst hres) (zsnd hres)
          · skip
            refine ztabD (tgt := 144) hx hb [(1 : Int32), (2 : Int32), (3 : Int32), (4 : Int32), (5 : Int32)] (List.forall_mem_cons.mpr ⟨c13_3_1, (List.forall_mem_cons.mpr ⟨c13_3_2, (List.forall_mem_cons.mpr ⟨c13_3_3, (List.forall_mem_cons.mpr ⟨c13_3_4, (List.forall_mem_cons.mpr ⟨c13_3_5, (fun _ h => absurd h List.not_mem_nil)⟩)⟩)⟩)⟩)⟩) dX6_holdsOf_13 (by decide) (by decide) (by decide) ?_
            refine lv_iload_n hx hb dX6_holdsOf_144 rfl (lv_at hl 0 rfl) ?_
            exact zreti C0 hH dX6_holdsOf_145 (zfst hres) (zsnd hres)
set_option maxRecDepth 100000 in
set_option maxHeartbeats 4000000 in
theorem c_X6_of (l : Launch) (D : va_G) (cy : Nat → ClassId) (ad : Nat → Nat) (M : zM) (p1 : Int32) (p2 : Int32) (hV : zVal M) : Met l yX6_of (Cond.code yX6_of cX6_of 3 (some .int) :: zG) ({ frames := 4, cells := 0, slots := 0, locals := 93 }) (zP D lyR cy ad [.ref (ad 0), .int p1, .int p2] M) (zQi D lyR cy ad (f_X6_of p1 p2 M).1 (f_X6_of p1 p2 M).2) 0 0 (zA lyR ad) := by
  generalize hres : (f_X6_of p1 p2 M) = res
  refine zMet (by decide) (Nat.le_of_ble_eq_true rfl) ?_
  intro p e s m args below meth c ls C0 hH hl
  obtain ⟨⟨hx, hb, hml, hown, hts⟩, -⟩ := id C0
  have hz : ∀ w ∈ zG, w.before args s = true := fun w h => hts w (List.mem_cons_of_mem _ h)
  have hl : lv_has ls 3 [(0, .ref (ad 0)), (1, .int p1), (2, .int p2)] := hl
  have g0 := hH.many
  have J18 : ∀ (mm : zM) (H : Heap) (locs : List Loc) (ls : Array Slot), zH D lyR cy ad s.heap mm H locs → lv_has ls 3 [(0, .ref (ad 0))] → f_X6_of_18 p1 p2 mm = res → W p l e { frames := 4, cells := 0, slots := 0, locals := 93 } s m args below meth c H locs 0 0 (MQ below (zQi D lyR cy ad res.1 res.2) args s 0 0 (zA lyR ad)) (F0 m 18 ls []) := by
    intro mm H locs ls hH hl hres
    refine lv_aload_n hx hb dX6_of_18 rfl (lv_at hl 0 rfl) ?_
    refine lv_iconst (v := (0 : Int32)) hx hb dX6_of_19 (by decide) ?_
    have g0 := hH.many
    refine zci (zrunV C0 hH (c_X6_no l D cy ad _ _ (by decide)) kM_X6_85 zK6 kq_X6_no zR0 rfl hl.1 rfl rfl rfl ⟨Nat.le_of_ble_eq_true rfl, Nat.le_of_ble_eq_true rfl⟩ (Nat.le_of_ble_eq_true rfl) dX6_of_20) hH (fun H locs hH => ?_)
    exact zreti C0 hH dX6_of_23 (zfst hres) (zsnd hres)
  refine lv_aload_n hx hb dX6_of_0 rfl (lv_at hl 0 rfl) ?_
  refine lv_iload_n hx hb dX6_of_1 rfl (lv_at hl 1 rfl) ?_
  have g0 := hH.many
  refine zcz (zrunV C0 hH (c_X6_isBlock l D cy ad _ _) kM_X6_92 zK6 kq_X6_isBlock zR0 rfl hl.1 rfl rfl rfl ⟨Nat.le_of_ble_eq_true rfl, Nat.le_of_ble_eq_true rfl⟩ (Nat.le_of_ble_eq_true rfl) dX6_of_2) hH (fun H locs hH h01_1 => ?_)
  refine lv_if_eq (tgt := 18) hx hb dX6_of_5 (by decide) (fun c5_3 => ?_) (fun c5_3 => ?_)
  · have hres := zif_pos c5_3 hres
    exact J18 _ _ _ _ hH (lv_sub hl [0] rfl) hres
  · have hres := zif_neg c5_3 hres
    refine lv_iload_n hx hb dX6_of_8 rfl (lv_at hl 2 rfl) ?_
    refine lv_iconst (v := (0 : Int32)) hx hb dX6_of_9 (by decide) ?_
    refine lv_bipush (v := (8 : Int32)) hx hb dX6_of_10 (by decide) ?_
    have g0 := hH.many
    refine zcz (zrunS C0 hH (c_X6_in l D cy ad _ _ _ _) kM_X6_57 kq_X6_in rfl hl.1 rfl rfl rfl ⟨Nat.le_of_ble_eq_true rfl, Nat.le_of_ble_eq_true rfl⟩ (Nat.le_of_ble_eq_true rfl) dX6_of_12) hH (fun H locs hH h01_4 => ?_)
    refine lv_if_ne (tgt := 24) hx hb dX6_of_15 (by decide) (fun c15_6 => ?_) (fun c15_6 => ?_)
    · have hres := zif_neg c15_6 hres
      refine lv_iload_n hx hb dX6_of_24 rfl (lv_at hl 2 rfl) ?_
      refine lv_bipush (v := (7 : Int32)) hx hb dX6_of_25 (by decide) ?_
      refine lv_icmp_ne (tgt := 38) hx hb dX6_of_27 (by decide) (fun c27_7 => ?_) (fun c27_7 => ?_)
      · have hres := zif_neg c27_7 hres
        refine lv_iload_n hx hb dX6_of_38 rfl (lv_at hl 2 rfl) ?_
        refine lv_bipush (v := (8 : Int32)) hx hb dX6_of_39 (by decide) ?_
        refine lv_icmp_ne (tgt := 59) hx hb dX6_of_41 (by decide) (fun c41_8 => ?_) (fun c41_8 => ?_)
        · have hres := zif_neg c41_8 hres
          refine lv_aload_n hx hb dX6_of_59 rfl (lv_at hl 0 rfl) ?_
          refine lv_iload_n hx hb dX6_of_60 rfl (lv_at hl 1 rfl) ?_
          refine lv_iload_n hx hb dX6_of_61 rfl (lv_at hl 2 rfl) ?_
          have g0 := hH.many
          refine zci (zrunV C0 hH (c_X6_at l D cy ad _ _ _ (by first | assumption | exact ib10 g0 (by assumption)) (by first | decide | assumption | (clear hres hz hts; grind [f_X6_in, f_X6_isBlock, f_X6_isAhead, f_X6_isSheet]))) kM_X6_61 zK6 kq_X6_at zR0 rfl hl.1 rfl rfl rfl ⟨Nat.le_of_ble_eq_true rfl, Nat.le_of_ble_eq_true rfl⟩ (Nat.le_of_ble_eq_true rfl) dX6_of_62) hH (fun H locs hH => ?_)
          exact zreti C0 hH dX6_of_65 (zfst hres) (zsnd hres)
        · have hres := zif_pos c41_8 hres
          refine lv_aload_n hx hb dX6_of_44 rfl (lv_at hl 0 rfl) ?_
          refine lv_iload_n hx hb dX6_of_45 rfl (lv_at hl 1 rfl) ?_
          refine lv_aload_n hx hb dX6_of_46 rfl (lv_at hl 0 rfl) ?_
          refine lv_iload_n hx hb dX6_of_47 rfl (lv_at hl 1 rfl) ?_
          refine lv_bipush (v := (6 : Int32)) hx hb dX6_of_48 (by decide) ?_
          have g0 := hH.many
          refine zci (zrunV C0 hH (c_X6_at l D cy ad _ _ _ (by first | assumption | exact ib10 g0 (by assumption)) (by first | decide | assumption | (clear hres hz hts; grind [f_X6_in, f_X6_isBlock, f_X6_isAhead, f_X6_isSheet]))) kM_X6_61 zK6 kq_X6_at zR0 rfl hl.1 rfl rfl rfl ⟨Nat.le_of_ble_eq_true rfl, Nat.le_of_ble_eq_true rfl⟩ (Nat.le_of_ble_eq_true rfl) dX6_of_50) hH (fun H locs hH => ?_)
          have g0 := hH.many
          refine zci (zrunV C0 hH (c_X6_holdsOf l D cy ad _ _ _ (by exact hV) (by first | assumption | exact ib10 g0 (by assumption) | exact ⟨hm.1, Int32.lt_of_lt_of_le hm.2 g0.2⟩)) kM_X6_98 zK6 kq_X6_holdsOf zR0 rfl hl.1 rfl rfl rfl ⟨Nat.le_of_ble_eq_true rfl, Nat.le_of_ble_eq_true rfl⟩ (Nat.le_of_ble_eq_true rfl) dX6_of_53) hH (fun H locs hH => ?_)
          have hV := zVof hH (hV.to (sm_row rw_holdsOf))
          refine lv_goto (tgt := 65) hx hb dX6_of_56 (by decide) ?_
          exact zreti C0 hH dX6_of_65 (zfst hres) (zsnd hres)
      · have hres := zif_pos c27_7 hres
        refine lv_aload_n hx hb dX6_of_30 rfl (lv_at hl 0 rfl) ?_
        refine lv_iload_n hx hb dX6_of_31 rfl (lv_at hl 1 rfl) ?_
        have g0 := hH.many
        refine zci (zrunV C0 hH (c_X6_pull l D cy ad _ _ (by exact ib_X6 g0 (by assumption))) kM_X6_95 zK6 kq_X6_pull zR0 rfl hl.1 rfl rfl rfl ⟨Nat.le_of_ble_eq_true rfl, Nat.le_of_ble_eq_true rfl⟩ (Nat.le_of_ble_eq_true rfl) dX6_of_32) hH (fun H locs hH => ?_)
        refine lv_goto (tgt := 65) hx hb dX6_of_35 (by decide) ?_
        exact zreti C0 hH dX6_of_65 (zfst hres) (zsnd hres)
    · have hres := zif_pos c15_6 hres
      exact J18 _ _ _ _ hH (lv_sub hl [0] rfl) hres
set_option maxRecDepth 100000 in
set_option maxHeartbeats 4000000 in
theorem c_X6_as (l : Launch) (D : va_G) (cy : Nat → ClassId) (ad : Nat → Nat) (M : zM) (p1 : Int32) (p2 : Int32) (hV : zVal M) : Met l yX6_as (Cond.code yX6_as cX6_as 3 (some .int) :: zG) ({ frames := 4, cells := 0, slots := 0, locals := 93 }) (zP D lyR cy ad [.ref (ad 0), .int p1, .int p2] M) (zQi D lyR cy ad (f_X6_as p1 p2 M).1 (f_X6_as p1 p2 M).2) 0 0 (zA lyR ad) := by
  generalize hres : (f_X6_as p1 p2 M) = res
  refine zMet (by decide) (Nat.le_of_ble_eq_true rfl) ?_
  intro p e s m args below meth c ls C0 hH hl
  obtain ⟨⟨hx, hb, hml, hown, hts⟩, -⟩ := id C0
  have hz : ∀ w ∈ zG, w.before args s = true := fun w h => hts w (List.mem_cons_of_mem _ h)
  have hl : lv_has ls 3 [(0, .ref (ad 0)), (1, .int p1), (2, .int p2)] := hl
  have g0 := hH.many
  have J17 : ∀ (mm : zM) (H : Heap) (locs : List Loc) (ls : Array Slot), zH D lyR cy ad s.heap mm H locs → lv_has ls 3 [(0, .ref (ad 0))] → f_X6_as_17 p1 p2 mm = res → W p l e { frames := 4, cells := 0, slots := 0, locals := 93 } s m args below meth c H locs 0 0 (MQ below (zQi D lyR cy ad res.1 res.2) args s 0 0 (zA lyR ad)) (F0 m 17 ls []) := by
    intro mm H locs ls hH hl hres
    refine lv_aload_n hx hb dX6_as_17 rfl (lv_at hl 0 rfl) ?_
    refine lv_iconst (v := (0 : Int32)) hx hb dX6_as_18 (by decide) ?_
    have g0 := hH.many
    refine zci (zrunV C0 hH (c_X6_no l D cy ad _ _ (by decide)) kM_X6_85 zK6 kq_X6_no zR0 rfl hl.1 rfl rfl rfl ⟨Nat.le_of_ble_eq_true rfl, Nat.le_of_ble_eq_true rfl⟩ (Nat.le_of_ble_eq_true rfl) dX6_as_19) hH (fun H locs hH => ?_)
    exact zreti C0 hH dX6_as_22 (zfst hres) (zsnd hres)
  refine lv_aload_n hx hb dX6_as_0 rfl (lv_at hl 0 rfl) ?_
  refine lv_iload_n hx hb dX6_as_1 rfl (lv_at hl 1 rfl) ?_
  have g0 := hH.many
  refine zcz (zrunV C0 hH (c_X6_isBlock l D cy ad _ _) kM_X6_92 zK6 kq_X6_isBlock zR0 rfl hl.1 rfl rfl rfl ⟨Nat.le_of_ble_eq_true rfl, Nat.le_of_ble_eq_true rfl⟩ (Nat.le_of_ble_eq_true rfl) dX6_as_2) hH (fun H locs hH h01_1 => ?_)
  refine lv_if_eq (tgt := 17) hx hb dX6_as_5 (by decide) (fun c5_3 => ?_) (fun c5_3 => ?_)
  · have hres := zif_pos c5_3 hres
    exact J17 _ _ _ _ hH (lv_sub hl [0] rfl) hres
  · have hres := zif_neg c5_3 hres
    refine lv_iload_n hx hb dX6_as_8 rfl (lv_at hl 2 rfl) ?_
    refine lv_iconst (v := (0 : Int32)) hx hb dX6_as_9 (by decide) ?_
    refine lv_iconst (v := (5 : Int32)) hx hb dX6_as_10 (by decide) ?_
    have g0 := hH.many
    refine zcz (zrunS C0 hH (c_X6_in l D cy ad _ _ _ _) kM_X6_57 kq_X6_in rfl hl.1 rfl rfl rfl ⟨Nat.le_of_ble_eq_true rfl, Nat.le_of_ble_eq_true rfl⟩ (Nat.le_of_ble_eq_true rfl) dX6_as_11) hH (fun H locs hH h01_4 => ?_)
    refine lv_if_ne (tgt := 23) hx hb dX6_as_14 (by decide) (fun c14_6 => ?_) (fun c14_6 => ?_)
    · have hres := zif_neg c14_6 hres
      refine lv_aload_n hx hb dX6_as_23 rfl (lv_at hl 0 rfl) ?_
      refine lv_iload_n hx hb dX6_as_24 rfl (lv_at hl 1 rfl) ?_
      refine lv_iconst (v := (0 : Int32)) hx hb dX6_as_25 (by decide) ?_
      have g0 := hH.many
      refine zci (zrunV C0 hH (c_X6_at l D cy ad _ _ _ (by first | assumption | exact ib10 g0 (by assumption)) (by first | decide | assumption | (clear hres hz hts; grind [f_X6_in, f_X6_isBlock, f_X6_isAhead, f_X6_isSheet]))) kM_X6_61 zK6 kq_X6_at zR0 rfl hl.1 rfl rfl rfl ⟨Nat.le_of_ble_eq_true rfl, Nat.le_of_ble_eq_true rfl⟩ (Nat.le_of_ble_eq_true rfl) dX6_as_26) hH (fun H locs hH => ?_)
      refine lv_iload_n hx hb dX6_as_29 rfl (lv_at hl 2 rfl) ?_
      have g0 := hH.many
      refine zcz (zrunS C0 hH (c_X6_isUnder l D cy ad _ _ _) kM_X6_101 kq_X6_isUnder rfl hl.1 rfl rfl rfl ⟨Nat.le_of_ble_eq_true rfl, Nat.le_of_ble_eq_true rfl⟩ (Nat.le_of_ble_eq_true rfl) dX6_as_30) hH (fun H locs hH h01_8 => ?_)
      refine lv_if_eq (tgt := 51) hx hb dX6_as_33 (by decide) (fun c33_10 => ?_) (fun c33_10 => ?_)
      · have hres := zif_pos c33_10 hres
        refine lv_aload_n hx hb dX6_as_51 rfl (lv_at hl 0 rfl) ?_
        refine lv_iconst (v := (2 : Int32)) hx hb dX6_as_52 (by decide) ?_
        have g0 := hH.many
        refine zci (zrunV C0 hH (c_X6_no l D cy ad _ _ (by decide)) kM_X6_85 zK6 kq_X6_no zR0 rfl hl.1 rfl rfl rfl ⟨Nat.le_of_ble_eq_true rfl, Nat.le_of_ble_eq_true rfl⟩ (Nat.le_of_ble_eq_true rfl) dX6_as_53) hH (fun H locs hH => ?_)
        exact zreti C0 hH dX6_as_56 (zfst hres) (zsnd hres)
      · have hres := zif_neg c33_10 hres
        refine lv_aload_n hx hb dX6_as_36 rfl (lv_at hl 0 rfl) ?_
        refine lv_iload_n hx hb dX6_as_37 rfl (lv_at hl 1 rfl) ?_
        refine lv_aload_n hx hb dX6_as_38 rfl (lv_at hl 0 rfl) ?_
        refine lv_iload_n hx hb dX6_as_39 rfl (lv_at hl 1 rfl) ?_
        refine lv_bipush (v := (6 : Int32)) hx hb dX6_as_40 (by decide) ?_
        have g0 := hH.many
        refine zci (zrunV C0 hH (c_X6_at l D cy ad _ _ _ (by first | assumption | exact ib10 g0 (by assumption)) (by first | decide | assumption | (clear hres hz hts; grind [f_X6_in, f_X6_isBlock, f_X6_isAhead, f_X6_isSheet]))) kM_X6_61 zK6 kq_X6_at zR0 rfl hl.1 rfl rfl rfl ⟨Nat.le_of_ble_eq_true rfl, Nat.le_of_ble_eq_true rfl⟩ (Nat.le_of_ble_eq_true rfl) dX6_as_42) hH (fun H locs hH => ?_)
        have g0 := hH.many
        refine zci (zrunV C0 hH (c_X6_holdsOf l D cy ad _ _ _ (by exact hV) (by first | assumption | exact ib10 g0 (by assumption) | exact ⟨hm.1, Int32.lt_of_lt_of_le hm.2 g0.2⟩)) kM_X6_98 zK6 kq_X6_holdsOf zR0 rfl hl.1 rfl rfl rfl ⟨Nat.le_of_ble_eq_true rfl, Nat.le_of_ble_eq_true rfl⟩ (Nat.le_of_ble_eq_true rfl) dX6_as_45) hH (fun H locs hH => ?_)
        have hV := zVof hH (hV.to (sm_row rw_holdsOf))
        refine lv_goto (tgt := 56) hx hb dX6_as_48 (by decide) ?_
        exact zreti C0 hH dX6_as_56 (zfst hres) (zsnd hres)
    · have hres := zif_pos c14_6 hres
      exact J17 _ _ _ _ hH (lv_sub hl [0] rfl) hres
set_option maxRecDepth 100000 in
set_option maxHeartbeats 4000000 in
theorem c_X6_holds (l : Launch) (D : va_G) (cy : Nat → ClassId) (ad : Nat → Nat) (M : zM) (p1 : Int32) (p2 : Int32) (hV : zVal M) : Met l yX6_holds (Cond.code yX6_holds cX6_holds 3 (some .int) :: zG) ({ frames := 4, cells := 0, slots := 0, locals := 93 }) (zP D lyR cy ad [.ref (ad 0), .int p1, .int p2] M) (zQi D lyR cy ad (f_X6_holds p1 p2 M).1 (f_X6_holds p1 p2 M).2) 0 0 (zA lyR ad) := by
  generalize hres : (f_X6_holds p1 p2 M) = res
  refine zMet (by decide) (Nat.le_of_ble_eq_true rfl) ?_
  intro p e s m args below meth c ls C0 hH hl
  obtain ⟨⟨hx, hb, hml, hown, hts⟩, -⟩ := id C0
  have hz : ∀ w ∈ zG, w.before args s = true := fun w h => hts w (List.mem_cons_of_mem _ h)
  have hl : lv_has ls 3 [(0, .ref (ad 0)), (1, .int p1), (2, .int p2)] := hl
  have g0 := hH.many
  have J28 : ∀ (mm : zM) (H : Heap) (locs : List Loc) (ls : Array Slot), zH D lyR cy ad s.heap mm H locs → lv_has ls 3 [(0, .ref (ad 0))] → f_X6_holds_28 p1 p2 mm = res → W p l e { frames := 4, cells := 0, slots := 0, locals := 93 } s m args below meth c H locs 0 0 (MQ below (zQi D lyR cy ad res.1 res.2) args s 0 0 (zA lyR ad)) (F0 m 28 ls []) := by
    intro mm H locs ls hH hl hres
    refine lv_aload_n hx hb dX6_holds_28 rfl (lv_at hl 0 rfl) ?_
    refine lv_iconst (v := (0 : Int32)) hx hb dX6_holds_29 (by decide) ?_
    have g0 := hH.many
    refine zci (zrunV C0 hH (c_X6_no l D cy ad _ _ (by decide)) kM_X6_85 zK6 kq_X6_no zR0 rfl hl.1 rfl rfl rfl ⟨Nat.le_of_ble_eq_true rfl, Nat.le_of_ble_eq_true rfl⟩ (Nat.le_of_ble_eq_true rfl) dX6_holds_30) hH (fun H locs hH => ?_)
    exact zreti C0 hH dX6_holds_33 (zfst hres) (zsnd hres)
  refine lv_aload_n hx hb dX6_holds_0 rfl (lv_at hl 0 rfl) ?_
  refine lv_iload_n hx hb dX6_holds_1 rfl (lv_at hl 1 rfl) ?_
  have g0 := hH.many
  refine zcz (zrunV C0 hH (c_X6_isBlock l D cy ad _ _) kM_X6_92 zK6 kq_X6_isBlock zR0 rfl hl.1 rfl rfl rfl ⟨Nat.le_of_ble_eq_true rfl, Nat.le_of_ble_eq_true rfl⟩ (Nat.le_of_ble_eq_true rfl) dX6_holds_2) hH (fun H locs hH h01_1 => ?_)
  refine lv_if_eq (tgt := 28) hx hb dX6_holds_5 (by decide) (fun c5_3 => ?_) (fun c5_3 => ?_)
  · have hres := zif_pos c5_3 hres
    exact J28 _ _ _ _ hH (lv_sub hl [0] rfl) hres
  · have hres := zif_neg c5_3 hres
    refine lv_iload_n hx hb dX6_holds_8 rfl (lv_at hl 2 rfl) ?_
    refine lv_iconst (v := (0 : Int32)) hx hb dX6_holds_9 (by decide) ?_
    refine lv_sipush (v := (999 : Int32)) hx hb dX6_holds_10 (by decide) ?_
    have g0 := hH.many
    refine zcz (zrunS C0 hH (c_X6_in l D cy ad _ _ _ _) kM_X6_57 kq_X6_in rfl hl.1 rfl rfl rfl ⟨Nat.le_of_ble_eq_true rfl, Nat.le_of_ble_eq_true rfl⟩ (Nat.le_of_ble_eq_true rfl) dX6_holds_13) hH (fun H locs hH h01_4 => ?_)
    refine lv_if_eq (tgt := 28) hx hb dX6_holds_16 (by decide) (fun c16_6 => ?_) (fun c16_6 => ?_)
    · have hres := zif_pos c16_6 hres
      exact J28 _ _ _ _ hH (lv_sub hl [0] rfl) hres
    · have hres := zif_neg c16_6 hres
      refine lv_aload_n hx hb dX6_holds_19 rfl (lv_at hl 0 rfl) ?_
      refine lv_iload_n hx hb dX6_holds_20 rfl (lv_at hl 1 rfl) ?_
      refine lv_iload_n hx hb dX6_holds_21 rfl (lv_at hl 2 rfl) ?_
      have g0 := hH.many
      refine zci (zrunV C0 hH (c_X6_holdsOf l D cy ad _ _ _ (by exact hV) (by first | assumption | exact ib10 g0 (by assumption) | exact ⟨hm.1, Int32.lt_of_lt_of_le hm.2 g0.2⟩)) kM_X6_98 zK6 kq_X6_holdsOf zR0 rfl hl.1 rfl rfl rfl ⟨Nat.le_of_ble_eq_true rfl, Nat.le_of_ble_eq_true rfl⟩ (Nat.le_of_ble_eq_true rfl) dX6_holds_22) hH (fun H locs hH => ?_)
      have hV := zVof hH (hV.to (sm_row rw_holdsOf))
      refine lv_goto (tgt := 33) hx hb dX6_holds_25 (by decide) ?_
      exact zreti C0 hH dX6_holds_33 (zfst hres) (zsnd hres)
set_option maxRecDepth 100000 in
set_option maxHeartbeats 4000000 in
theorem c_X6_says (l : Launch) (D : va_G) (cy : Nat → ClassId) (ad : Nat → Nat) (M : zM) (p1 : Int32) (hV : zVal M) : Met l yX6_says (Cond.code yX6_says cX6_says 2 (some .int) :: zG) ({ frames := 3, cells := 0, slots := 0, locals := 70 }) (zP D lyR cy ad [.ref (ad 0), .int p1] M) (zQi D lyR cy ad (f_X6_says p1 M).1 (f_X6_says p1 M).2) 0 0 (zA lyR ad) := by
  generalize hres : (f_X6_says p1 M) = res
  refine zMet (by decide) (Nat.le_of_ble_eq_true rfl) ?_
  intro p e s m args below meth c ls C0 hH hl
  obtain ⟨⟨hx, hb, hml, hown, hts⟩, -⟩ := id C0
  have hz : ∀ w ∈ zG, w.before args s = true := fun w h => hts w (List.mem_cons_of_mem _ h)
  have hl : lv_has ls 2 [(0, .ref (ad 0)), (1, .int p1)] := hl
  have g0 := hH.many
  refine lv_aload_n hx hb dX6_says_0 rfl (lv_at hl 0 rfl) ?_
  refine lv_iload_n hx hb dX6_says_1 rfl (lv_at hl 1 rfl) ?_
  have g0 := hH.many
  refine zcz (zrunV C0 hH (c_X6_isBlock l D cy ad _ _) kM_X6_92 zK6 kq_X6_isBlock zR0 rfl hl.1 rfl rfl rfl ⟨Nat.le_of_ble_eq_true rfl, Nat.le_of_ble_eq_true rfl⟩ (Nat.le_of_ble_eq_true rfl) dX6_says_2) hH (fun H locs hH h01_1 => ?_)
  refine lv_if_ne (tgt := 14) hx hb dX6_says_5 (by decide) (fun c5_3 => ?_) (fun c5_3 => ?_)
  · have hres := zif_neg c5_3 hres
    refine lv_aload_n hx hb dX6_says_14 rfl (lv_at hl 0 rfl) ?_
    refine zgR C0 hH zK6 0 (by decide) _ zR0 rfl kF_X6_9 dX6_says_15 ?_
    refine lv_iconst (v := (5 : Int32)) hx hb dX6_says_18 (by decide) ?_
    refine zaldK C0 hH zS31.is zS31.ln (k := 5) (by decide) (by unfold vp_in; decide) dX6_says_19 ?_
    refine lv_if_ge (tgt := 31) hx hb dX6_says_20 (by decide) (fun c20_4 => ?_) (fun c20_4 => ?_)
    · have hres := zif_pos c20_4 hres
      refine lv_aload_n hx hb dX6_says_31 rfl (lv_at hl 0 rfl) ?_
      refine lv_iload_n hx hb dX6_says_32 rfl (lv_at hl 1 rfl) ?_
      refine lv_aload_n hx hb dX6_says_33 rfl (lv_at hl 0 rfl) ?_
      refine lv_iload_n hx hb dX6_says_34 rfl (lv_at hl 1 rfl) ?_
      refine lv_bipush (v := (6 : Int32)) hx hb dX6_says_35 (by decide) ?_
      have g0 := hH.many
      refine zci (zrunV C0 hH (c_X6_at l D cy ad _ _ _ (by first | assumption | exact ib10 g0 (by assumption)) (by first | decide | assumption | (clear hres hz hts; grind [f_X6_in, f_X6_isBlock, f_X6_isAhead, f_X6_isSheet]))) kM_X6_61 zK6 kq_X6_at zR0 rfl hl.1 rfl rfl rfl ⟨Nat.le_of_ble_eq_true rfl, Nat.le_of_ble_eq_true rfl⟩ (Nat.le_of_ble_eq_true rfl) dX6_says_37) hH (fun H locs hH => ?_)
      have g0 := hH.many
      refine zci (zrunV C0 hH (c_X6_given l D cy ad _ _ _ (by exact hV) (by first | assumption | exact ib10 g0 (by assumption) | exact ⟨hm.1, Int32.lt_of_lt_of_le hm.2 g0.2⟩)) kM_X6_74 zK6 kq_X6_given zR0 rfl hl.1 rfl rfl rfl ⟨Nat.le_of_ble_eq_true rfl, Nat.le_of_ble_eq_true rfl⟩ (Nat.le_of_ble_eq_true rfl) dX6_says_40) hH (fun H locs hH => ?_)
      have hV := zVof hH (hV.to (sm_row rw_given))
      exact zreti C0 hH dX6_says_43 (zfst hres) (zsnd hres)
    · have hres := zif_neg c20_4 hres
      refine lv_aload_n hx hb dX6_says_23 rfl (lv_at hl 0 rfl) ?_
      refine lv_iconst (v := (3 : Int32)) hx hb dX6_says_24 (by decide) ?_
      have g0 := hH.many
      refine zci (zrunV C0 hH (c_X6_no l D cy ad _ _ (by decide)) kM_X6_85 zK6 kq_X6_no zR0 rfl hl.1 rfl rfl rfl ⟨Nat.le_of_ble_eq_true rfl, Nat.le_of_ble_eq_true rfl⟩ (Nat.le_of_ble_eq_true rfl) dX6_says_25) hH (fun H locs hH => ?_)
      refine lv_goto (tgt := 43) hx hb dX6_says_28 (by decide) ?_
      exact zreti C0 hH dX6_says_43 (zfst hres) (zsnd hres)
  · have hres := zif_pos c5_3 hres
    refine lv_aload_n hx hb dX6_says_8 rfl (lv_at hl 0 rfl) ?_
    refine lv_iconst (v := (0 : Int32)) hx hb dX6_says_9 (by decide) ?_
    have g0 := hH.many
    refine zci (zrunV C0 hH (c_X6_no l D cy ad _ _ (by decide)) kM_X6_85 zK6 kq_X6_no zR0 rfl hl.1 rfl rfl rfl ⟨Nat.le_of_ble_eq_true rfl, Nat.le_of_ble_eq_true rfl⟩ (Nat.le_of_ble_eq_true rfl) dX6_says_10) hH (fun H locs hH => ?_)
    exact zreti C0 hH dX6_says_13 (zfst hres) (zsnd hres)
set_option maxRecDepth 100000 in
set_option maxHeartbeats 4000000 in
theorem c_X6_stepsOf (l : Launch) (D : va_G) (cy : Nat → ClassId) (ad : Nat → Nat) (M : zM) (p1 : Int32) (hV : zVal M) (hm : 0 ≤ p1 ∧ p1 < M.1 1 0) : Met l yX6_stepsOf (Cond.code yX6_stepsOf cX6_stepsOf 9 (some .int) :: zG) ({ frames := 4, cells := 0, slots := 0, locals := 93 }) (zP D lyR cy ad [.ref (ad 0), .int p1] M) (zQi D lyR cy ad (f_X6_stepsOf p1 M).1 (f_X6_stepsOf p1 M).2) 0 0 (zA lyR ad) := by
  generalize hres : (f_X6_stepsOf p1 M) = res
  refine zMet (by decide) (Nat.le_of_ble_eq_true rfl) ?_
  intro p e s m args below meth c ls C0 hH hl
  obtain ⟨⟨hx, hb, hml, hown, hts⟩, -⟩ := id C0
  have hz : ∀ w ∈ zG, w.before args s = true := fun w h => hts w (List.mem_cons_of_mem _ h)
  have hl : lv_has ls 9 [(0, .ref (ad 0)), (1, .int p1)] := hl
  have g0 := hH.many
  have J123 : ∀ (v2 : Int32) (s0 : Int32) (mm : zM) (H : Heap) (locs : List Loc) (ls : Array Slot), zH D lyR cy ad s.heap mm H locs → lv_has ls 9 [(2, .int v2)] → f_X6_stepsOf_123 p1 v2 s0 mm = res → W p l e { frames := 4, cells := 0, slots := 0, locals := 93 } s m args below meth c H locs 0 0 (MQ below (zQi D lyR cy ad res.1 res.2) args s 0 0 (zA lyR ad)) (F0 m 123 ls [.int s0]) := by
    intro v2 s0 mm H locs ls hH hl hres
    refine lv_istore (lv' := [(8, _), (2, _)]) hx hb dX6_stepsOf_123 hl (by decide) rfl (fun ls hl => ?_)
    refine lv_iload_n hx hb dX6_stepsOf_125 rfl (lv_at hl 1 rfl) ?_
    refine lv_if_ge (tgt := 135) hx hb dX6_stepsOf_126 (by decide) (fun c126_15 => ?_) (fun c126_15 => ?_)
    · have hres := zif_pos c126_15 hres
      refine lv_iload hx hb dX6_stepsOf_135 (lv_at hl 0 rfl) ?_
      exact zreti C0 hH dX6_stepsOf_137 (zfst hres) (zsnd hres)
    · have hres := zif_neg c126_15 hres
      refine lv_iload hx hb dX6_stepsOf_129 (lv_at hl 0 rfl) ?_
      refine lv_ineg hx hb dX6_stepsOf_131 ?_
      refine lv_goto (tgt := 137) hx hb dX6_stepsOf_132 (by decide) ?_
      exact zreti C0 hH dX6_stepsOf_137 (zfst hres) (zsnd hres)
  have J62 : ∀ (v2 : Int32) (v4 : Int32) (s0 : Int32) (mm : zM) (H : Heap) (locs : List Loc) (ls : Array Slot), (0 ≤ p1 ∧ p1 < mm.1 1 0) → zH D lyR cy ad s.heap mm H locs → lv_has ls 9 [(0, .ref (ad 0)), (1, .int p1), (2, .int v2), (4, .int v4)] → f_X6_stepsOf_62 p1 v2 v4 s0 mm = res → W p l e { frames := 4, cells := 0, slots := 0, locals := 93 } s m args below meth c H locs 0 0 (MQ below (zQi D lyR cy ad res.1 res.2) args s 0 0 (zA lyR ad)) (F0 m 62 ls [.int s0]) := by
    intro v2 v4 s0 mm H locs ls hm hH hl hres
    have g0 := hH.many
    refine lv_istore (lv' := [(5, _), (0, _), (1, _), (2, _), (4, _)]) hx hb dX6_stepsOf_62 hl (by decide) rfl (fun ls hl => ?_)
    refine lv_iload_n hx hb dX6_stepsOf_64 rfl (lv_at hl 3 rfl) ?_
    have g0 := hH.many
    refine zcl (zrunS C0 hH (c_X6_without l D cy ad _ _) kM_X6_112 kq_X6_without rfl hl.1 rfl rfl rfl ⟨Nat.le_of_ble_eq_true rfl, Nat.le_of_ble_eq_true rfl⟩ (Nat.le_of_ble_eq_true rfl) dX6_stepsOf_65) hH (fun H locs hH => ?_)
    refine lv_iload hx hb dX6_stepsOf_68 (lv_at hl 0 rfl) ?_
    refine lv_i2l hx hb dX6_stepsOf_70 rfl ?_
    refine W.lcmp hx hb dX6_stepsOf_71 ?_
    refine lv_if_gt (tgt := 77) hx hb dX6_stepsOf_72 (by decide) (fun c72_9 => ?_) (fun c72_9 => ?_)
    · have hres := zif_pos c72_9 hres
      refine lv_iload_n hx hb dX6_stepsOf_77 rfl (lv_at hl 3 rfl) ?_
      have g0 := hH.many
      refine zcl (zrunS C0 hH (c_X6_without l D cy ad _ _) kM_X6_112 kq_X6_without rfl hl.1 rfl rfl rfl ⟨Nat.le_of_ble_eq_true rfl, Nat.le_of_ble_eq_true rfl⟩ (Nat.le_of_ble_eq_true rfl) dX6_stepsOf_78) hH (fun H locs hH => ?_)
      refine lv_iload hx hb dX6_stepsOf_81 (lv_at hl 4 rfl) ?_
      refine lv_i2l hx hb dX6_stepsOf_83 rfl ?_
      refine lv_lsub hx hb dX6_stepsOf_84 ?_
      refine lv_aload_n hx hb dX6_stepsOf_85 rfl (lv_at hl 1 rfl) ?_
      refine lv_iload_n hx hb dX6_stepsOf_86 rfl (lv_at hl 2 rfl) ?_
      have g0 := hH.many
      refine zci (zrunV C0 hH (c_X6_springs l D cy ad _ _ (by exact hm)) kM_X6_116 zK6 kq_X6_springs zR0 rfl hl.1 rfl rfl rfl ⟨Nat.le_of_ble_eq_true rfl, Nat.le_of_ble_eq_true rfl⟩ (Nat.le_of_ble_eq_true rfl) dX6_stepsOf_87) hH (fun H locs hH => ?_)
      refine lv_i2l hx hb dX6_stepsOf_90 rfl ?_
      refine lv_ldiv hx hb dX6_stepsOf_91 (by exact spr_X6) ?_
      refine lv_lstore (lv' := [(6, _), (5, _), (0, _), (1, _), (2, _), (4, _)]) hx hb dX6_stepsOf_92 hl (by decide) rfl (fun ls hl => ?_)
      refine lv_lload hx hb dX6_stepsOf_94 (lv_at hl 0 rfl) ?_
      refine lv_lconst (v := (1 : Int64)) hx hb dX6_stepsOf_96 (by decide) ?_
      refine W.lcmp hx hb dX6_stepsOf_97 ?_
      refine lv_if_ge (tgt := 105) hx hb dX6_stepsOf_98 (by decide) (fun c98_13 => ?_) (fun c98_13 => ?_)
      · have hres := zif_pos c98_13 hres
        refine lv_lload hx hb dX6_stepsOf_105 (lv_at hl 0 rfl) ?_
        refine lv_ldc2 (v := (999 : Int64)) hx hb hown (hz _ kK_X6_119) dX6_stepsOf_107 ?_
        refine W.lcmp hx hb dX6_stepsOf_110 ?_
        refine lv_if_le (tgt := 120) hx hb dX6_stepsOf_111 (by decide) (fun c111_14 => ?_) (fun c111_14 => ?_)
        · have hres := zif_pos c111_14 hres
          refine lv_lload hx hb dX6_stepsOf_120 (lv_at hl 0 rfl) ?_
          refine lv_l2i hx hb dX6_stepsOf_122 rfl ?_
          exact J123 _ _ _ _ _ _ hH (lv_sub hl [4] rfl) hres
        · have hres := zif_neg c111_14 hres
          refine lv_sipush (v := (999 : Int32)) hx hb dX6_stepsOf_114 (by decide) ?_
          refine lv_goto (tgt := 123) hx hb dX6_stepsOf_117 (by decide) ?_
          exact J123 _ _ _ _ _ _ hH (lv_sub hl [4] rfl) hres
      · have hres := zif_neg c98_13 hres
        refine lv_iconst (v := (1 : Int32)) hx hb dX6_stepsOf_101 (by decide) ?_
        refine lv_goto (tgt := 123) hx hb dX6_stepsOf_102 (by decide) ?_
        exact J123 _ _ _ _ _ _ hH (lv_sub hl [4] rfl) hres
    · have hres := zif_neg c72_9 hres
      refine lv_iconst (v := (0 : Int32)) hx hb dX6_stepsOf_75 (by decide) ?_
      exact zreti C0 hH dX6_stepsOf_76 (zfst hres) (zsnd hres)
  have J23 : ∀ (v2 : Int32) (s0 : Int32) (mm : zM) (H : Heap) (locs : List Loc) (ls : Array Slot), (zVal mm) → (0 ≤ p1 ∧ p1 < mm.1 1 0) → zH D lyR cy ad s.heap mm H locs → lv_has ls 9 [(0, .ref (ad 0)), (1, .int p1), (2, .int v2)] → f_X6_stepsOf_23 p1 v2 s0 mm = res → W p l e { frames := 4, cells := 0, slots := 0, locals := 93 } s m args below meth c H locs 0 0 (MQ below (zQi D lyR cy ad res.1 res.2) args s 0 0 (zA lyR ad)) (F0 m 23 ls [.int s0]) := by
    intro v2 s0 mm H locs ls hV hm hH hl hres
    have g0 := hH.many
    refine lv_istore_n (lv' := [(3, _), (0, _), (1, _), (2, _)]) hx hb dX6_stepsOf_23 rfl hl (by decide) rfl (fun ls hl => ?_)
    refine lv_aload_n hx hb dX6_stepsOf_24 rfl (lv_at hl 1 rfl) ?_
    refine lv_iload_n hx hb dX6_stepsOf_25 rfl (lv_at hl 2 rfl) ?_
    refine lv_aload_n hx hb dX6_stepsOf_26 rfl (lv_at hl 1 rfl) ?_
    refine zgR C0 hH zK6 7 (by decide) _ zR0 rfl kF_X6_25 dX6_stepsOf_27 ?_
    refine lv_iload_n hx hb dX6_stepsOf_30 rfl (lv_at hl 2 rfl) ?_
    refine zald C0 hH (zR_i (by decide) (by decide)) rfl (by exact zin10.mpr ⟨hm.1, Int32.lt_of_lt_of_le hm.2 g0.2⟩) dX6_stepsOf_31 ?_
    have g0 := hH.many
    refine zcl (zrunS C0 hH (c_X6_without l D cy ad _ _) kM_X6_112 kq_X6_without rfl hl.1 rfl rfl rfl ⟨Nat.le_of_ble_eq_true rfl, Nat.le_of_ble_eq_true rfl⟩ (Nat.le_of_ble_eq_true rfl) dX6_stepsOf_32) hH (fun H locs hH => ?_)
    refine lv_l2i hx hb dX6_stepsOf_35 rfl ?_
    have g0 := hH.many
    refine zci (zrunV C0 hH (c_X6_rubsOf l D cy ad _ _ _ (by exact ⟨hm.1, Int32.lt_of_lt_of_le hm.2 g0.2⟩)) kM_X6_105 zK6 kq_X6_rubsOf zR0 rfl hl.1 rfl rfl rfl ⟨Nat.le_of_ble_eq_true rfl, Nat.le_of_ble_eq_true rfl⟩ (Nat.le_of_ble_eq_true rfl) dX6_stepsOf_36) hH (fun H locs hH => ?_)
    refine lv_istore (lv' := [(4, _), (3, _), (0, _), (1, _), (2, _)]) hx hb dX6_stepsOf_39 hl (by decide) rfl (fun ls hl => ?_)
    refine lv_iload_n hx hb dX6_stepsOf_41 rfl (lv_at hl 1 rfl) ?_
    refine lv_if_eq (tgt := 50) hx hb dX6_stepsOf_42 (by decide) (fun c42_5 => ?_) (fun c42_5 => ?_)
    · have hres := zif_pos c42_5 hres
      refine lv_aload_n hx hb dX6_stepsOf_50 rfl (lv_at hl 2 rfl) ?_
      refine lv_iload_n hx hb dX6_stepsOf_51 rfl (lv_at hl 3 rfl) ?_
      refine lv_aload_n hx hb dX6_stepsOf_52 rfl (lv_at hl 2 rfl) ?_
      refine lv_iload_n hx hb dX6_stepsOf_53 rfl (lv_at hl 3 rfl) ?_
      refine lv_bipush (v := (6 : Int32)) hx hb dX6_stepsOf_54 (by decide) ?_
      have g0 := hH.many
      refine zci (zrunV C0 hH (c_X6_at l D cy ad _ _ _ (by exact ⟨hm.1, Int32.lt_of_lt_of_le hm.2 g0.2⟩) (by decide)) kM_X6_61 zK6 kq_X6_at zR0 rfl hl.1 rfl rfl rfl ⟨Nat.le_of_ble_eq_true rfl, Nat.le_of_ble_eq_true rfl⟩ (Nat.le_of_ble_eq_true rfl) dX6_stepsOf_56) hH (fun H locs hH => ?_)
      have g0 := hH.many
      refine zci (zrunV C0 hH (c_X6_holdsOf l D cy ad _ _ _ (by exact hV) (by exact ⟨hm.1, Int32.lt_of_lt_of_le hm.2 g0.2⟩)) kM_X6_98 zK6 kq_X6_holdsOf zR0 rfl hl.1 rfl rfl rfl ⟨Nat.le_of_ble_eq_true rfl, Nat.le_of_ble_eq_true rfl⟩ (Nat.le_of_ble_eq_true rfl) dX6_stepsOf_59) hH (fun H locs hH => ?_)
      have hV := zVof hH (hV.to (sm_row rw_holdsOf))
      exact J62 _ _ _ _ _ _ _ (by first | assumption | exact ⟨hm.1, by rw [rw_holdsOf]; exact hm.2⟩) hH (lv_sub hl [2, 3, 4, 0] rfl) hres
    · have hres := zif_neg c42_5 hres
      refine lv_iload hx hb dX6_stepsOf_45 (lv_at hl 0 rfl) ?_
      refine lv_goto (tgt := 62) hx hb dX6_stepsOf_47 (by decide) ?_
      exact J62 _ _ _ _ _ _ _ (by first | assumption | exact ⟨hm.1, by rw [rw_holdsOf]; exact hm.2⟩) hH (lv_sub hl [2, 3, 4, 0] rfl) hres
  refine lv_aload_n hx hb dX6_stepsOf_0 rfl (lv_at hl 0 rfl) ?_
  refine lv_iload_n hx hb dX6_stepsOf_1 rfl (lv_at hl 1 rfl) ?_
  have g0 := hH.many
  refine zci (zrunV C0 hH (c_X6_pull l D cy ad _ _ (by exact hm)) kM_X6_95 zK6 kq_X6_pull zR0 rfl hl.1 rfl rfl rfl ⟨Nat.le_of_ble_eq_true rfl, Nat.le_of_ble_eq_true rfl⟩ (Nat.le_of_ble_eq_true rfl) dX6_stepsOf_2) hH (fun H locs hH => ?_)
  refine lv_istore_n (lv' := [(2, _), (0, _), (1, _)]) hx hb dX6_stepsOf_5 rfl hl (by decide) rfl (fun ls hl => ?_)
  refine lv_aload_n hx hb dX6_stepsOf_6 rfl (lv_at hl 1 rfl) ?_
  refine zgI C0 hH zK6 9 (by decide) zR0 rfl kF_X6_108 dX6_stepsOf_7 ?_
  refine lv_iload_n hx hb dX6_stepsOf_10 rfl (lv_at hl 2 rfl) ?_
  refine lv_ishr hx hb dX6_stepsOf_11 ?_
  refine lv_iconst (v := (1 : Int32)) hx hb dX6_stepsOf_12 (by decide) ?_
  refine lv_iand hx hb dX6_stepsOf_13 ?_
  refine lv_iconst (v := (1 : Int32)) hx hb dX6_stepsOf_14 (by decide) ?_
  refine lv_icmp_ne (tgt := 22) hx hb dX6_stepsOf_15 (by decide) (fun c15_2 => ?_) (fun c15_2 => ?_)
  · have hres := zif_neg c15_2 hres
    refine lv_iconst (v := (0 : Int32)) hx hb dX6_stepsOf_22 (by decide) ?_
    exact J23 _ _ _ _ _ _ (by exact hV) (by first | assumption | exact ⟨hm.1, by rw [rw_holdsOf]; exact hm.2⟩) hH (lv_sub hl [1, 2, 0] rfl) hres
  · have hres := zif_pos c15_2 hres
    refine lv_iconst (v := (1 : Int32)) hx hb dX6_stepsOf_18 (by decide) ?_
    refine lv_goto (tgt := 23) hx hb dX6_stepsOf_19 (by decide) ?_
    exact J23 _ _ _ _ _ _ (by exact hV) (by first | assumption | exact ⟨hm.1, by rw [rw_holdsOf]; exact hm.2⟩) hH (lv_sub hl [1, 2, 0] rfl) hres
