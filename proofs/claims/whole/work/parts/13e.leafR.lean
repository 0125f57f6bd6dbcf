set_option maxRecDepth 100000 in
set_option maxHeartbeats 4000000 in
theorem c_X6_must (l : Launch) (D : va_G) (cy : Nat → ClassId) (ad : Nat → Nat) (M : zM) (p1 : Int32) (hc : 0 ≤ p1) : Met l yX6_must (Cond.code yX6_must cX6_must 2 none :: zG) ({ frames := 2, cells := 0, slots := 0, locals := 42 }) (zP D lyR cy ad [.ref (ad 0), .int p1] M) (zQv D lyR cy ad (f_X6_must p1 M)) 0 0 (zA lyR ad) := by
  generalize hres : (f_X6_must p1 M) = res
  refine zMet (by decide) (Nat.le_of_ble_eq_true rfl) ?_
  intro p e s m args below meth c ls C0 hH hl
  obtain ⟨⟨hx, hb, hml, hown, hts⟩, -⟩ := id C0
  have hz : ∀ w ∈ zG, w.before args s = true := fun w h => hts w (List.mem_cons_of_mem _ h)
  have hl : lv_has ls 2 [(0, .ref (ad 0)), (1, .int p1)] := hl
  have g0 := hH.many
  refine lv_aload_n hx hb dX6_must_0 rfl (lv_at hl 0 rfl) ?_
  refine lv_iload_n hx hb dX6_must_1 rfl (lv_at hl 1 rfl) ?_
  refine zcz (zrunV C0 hH (c_X6_may l D cy ad _ _ (by first | decide | assumption)) kM_X6_193 zK6 kq_X6_may zR0 rfl hl.1 rfl rfl rfl ⟨Nat.le_of_ble_eq_true rfl, Nat.le_of_ble_eq_true rfl⟩ (Nat.le_of_ble_eq_true rfl) dX6_must_2) hH (fun H locs hH h01_1 => ?_)
  refine lv_if_ne (tgt := 12) hx hb dX6_must_5 (by decide) (fun c5_3 => ?_) (fun c5_3 => ?_)
  · have hres := zif_neg c5_3 hres
    exact zretv C0 hH dX6_must_12 hres
  · have hres := zif_pos c5_3 hres
    refine lv_aload_n hx hb dX6_must_8 rfl (lv_at hl 0 rfl) ?_
    refine zcv (zrunV C0 hH (c_X6_fails l D cy ad _) kM_X6_196 zK6 kq_X6_fails zR0 rfl hl.1 rfl rfl rfl ⟨Nat.le_of_ble_eq_true rfl, Nat.le_of_ble_eq_true rfl⟩ (Nat.le_of_ble_eq_true rfl) dX6_must_9) hH (fun H locs hH => ?_)
    exact zretv C0 hH dX6_must_12 hres
set_option maxRecDepth 100000 in
set_option maxHeartbeats 4000000 in
theorem c_X6_emit (l : Launch) (D : va_G) (cy : Nat → ClassId) (ad : Nat → Nat) (M : zM) (p1 : Int32) (he : M.1 0 18 < 0 → M.1 0 16 ≤ 59) : Met l yX6_emit (Cond.code yX6_emit cX6_emit 2 none :: zG) ({ frames := 0, cells := 0, slots := 0, locals := 0 }) (zP D lyR cy ad [.ref (ad 0), .int p1] M) (zQv D lyR cy ad (f_X6_emit p1 M)) 0 0 (zA lyR ad) := by
  generalize hres : (f_X6_emit p1 M) = res
  refine zMet (by decide) (Nat.le_of_ble_eq_true rfl) ?_
  intro p e s m args below meth c ls C0 hH hl
  obtain ⟨⟨hx, hb, hml, hown, hts⟩, -⟩ := id C0
  have hz : ∀ w ∈ zG, w.before args s = true := fun w h => hts w (List.mem_cons_of_mem _ h)
  have hl : lv_has ls 2 [(0, .ref (ad 0)), (1, .int p1)] := hl
  have g0 := hH.many
  refine lv_aload_n hx hb dX6_emit_0 rfl (lv_at hl 0 rfl) ?_
  refine zgI C0 hH zK6 18 (by decide) zR0 rfl kF_X6_186 dX6_emit_1 ?_
  refine lv_if_ge (tgt := 27) hx hb dX6_emit_4 (by decide) (fun c4_1 => ?_) (fun c4_1 => ?_)
  · have hres := zif_pos c4_1 hres
    exact zretv C0 hH dX6_emit_27 hres
  · have hres := zif_neg c4_1 hres
    refine lv_aload_n hx hb dX6_emit_7 rfl (lv_at hl 0 rfl) ?_
    refine zgR C0 hH zK6 15 (by decide) _ zR0 rfl kF_X6_37 dX6_emit_8 ?_
    refine lv_aload_n hx hb dX6_emit_11 rfl (lv_at hl 0 rfl) ?_
    refine zgI C0 hH zK6 16 (by decide) zR0 rfl kF_X6_199 dX6_emit_12 ?_
    refine lv_iload_n hx hb dX6_emit_15 rfl (lv_at hl 1 rfl) ?_
    refine zast C0 hH (zR_i (by decide) (by decide)) rfl (by exact zin64.mpr (by have q0 := hH.ncode; clear hres hz hts; grind [f_X6_in, f_X6_isBlock, f_X6_isAhead, f_X6_isSheet])) zcn dX6_emit_16 (fun H locs hH => ?_)
    refine lv_aload_n hx hb dX6_emit_17 rfl (lv_at hl 0 rfl) ?_
    refine lv_dup hx hb dX6_emit_18 rfl ?_
    refine zgI C0 hH zK6 16 (by decide) zR0 rfl kF_X6_199 dX6_emit_19 ?_
    refine lv_iconst (v := (1 : Int32)) hx hb dX6_emit_22 (by decide) ?_
    refine lv_iadd hx hb dX6_emit_23 ?_
    refine zp C0 hH zK6 16 (by decide) zR0 rfl rfl zOk_int (zcs (by have q0 := hH.ncode; rw [zpI_off (fun h => absurd h.1 (by decide))] at q0 ⊢; have q1 := he (Int32.not_le.mp (by assumption)); clear hres hz hts; grind)) kF_X6_199 dX6_emit_24 (fun H locs hH => ?_)
    exact zretv C0 hH dX6_emit_27 hres
set_option maxRecDepth 100000 in
set_option maxHeartbeats 4000000 in
theorem c_X6_isDigit (l : Launch) (D : va_G) (cy : Nat → ClassId) (ad : Nat → Nat) (M : zM) (p0 : Int32) : Met l yX6_isDigit (Cond.code yX6_isDigit cX6_isDigit 1 (some .boolean) :: zG) ({ frames := 1, cells := 0, slots := 0, locals := 22 }) (zP D lyR cy ad [.int p0] M) (zQz D lyR cy ad (f_X6_isDigit p0) M) 0 0 (zA lyR ad) := by
  generalize hres : (f_X6_isDigit p0) = res
  refine zMet (by decide) (Nat.le_of_ble_eq_true rfl) ?_
  intro p e s m args below meth c ls C0 hH hl
  obtain ⟨⟨hx, hb, hml, hown, hts⟩, -⟩ := id C0
  have hz : ∀ w ∈ zG, w.before args s = true := fun w h => hts w (List.mem_cons_of_mem _ h)
  have hl : lv_has ls 1 [(0, .int p0)] := hl
  refine lv_iload_n hx hb dX6_isDigit_0 rfl (lv_at hl 0 rfl) ?_
  refine lv_bipush (v := (48 : Int32)) hx hb dX6_isDigit_1 (by decide) ?_
  refine lv_bipush (v := (57 : Int32)) hx hb dX6_isDigit_3 (by decide) ?_
  refine zcz (zrunS C0 hH (c_X6_in l D cy ad _ _ _ _) kM_X6_57 kq_X6_in rfl hl.1 rfl rfl rfl ⟨Nat.le_of_ble_eq_true rfl, Nat.le_of_ble_eq_true rfl⟩ (Nat.le_of_ble_eq_true rfl) dX6_isDigit_5) hH (fun H locs hH h01_1 => ?_)
  exact zretz C0 hH dX6_isDigit_8 (by first | exact Or.inl rfl | exact Or.inr rfl | assumption) hres rfl
set_option maxRecDepth 100000 in
set_option maxHeartbeats 4000000 in
theorem c_X6_nameOf (l : Launch) (D : va_G) (cy : Nat → ClassId) (ad : Nat → Nat) (M : zM) (p0 : Int32) : Met l yX6_nameOf (Cond.code yX6_nameOf cX6_nameOf 1 (some .int) :: zG) ({ frames := 0, cells := 0, slots := 0, locals := 0 }) (zP D lyR cy ad [.int p0] M) (zQi D lyR cy ad (f_X6_nameOf p0) M) 0 0 (zA lyR ad) := by
  generalize hres : (f_X6_nameOf p0) = res
  refine zMet (by decide) (Nat.le_of_ble_eq_true rfl) ?_
  intro p e s m args below meth c ls C0 hH hl
  obtain ⟨⟨hx, hb, hml, hown, hts⟩, -⟩ := id C0
  have hz : ∀ w ∈ zG, w.before args s = true := fun w h => hts w (List.mem_cons_of_mem _ h)
  have hl : lv_has ls 1 [(0, .int p0)] := hl
  refine lv_iload_n hx hb dX6_nameOf_0 rfl (lv_at hl 0 rfl) ?_
  refine zcase hres (fun c1_1_98 hres => ?_) (fun c1_1_98 hres => ?_)
  · refine ztab (tgt := 90) hx hb c1_1_98 dX6_nameOf_1 (by decide) (by decide) rfl (by decide) ?_
    refine lv_iconst (v := (1 : Int32)) hx hb dX6_nameOf_90 (by decide) ?_
    exact zreti C0 hH dX6_nameOf_91 hres rfl
  · skip
    refine zcase hres (fun c1_1_100 hres => ?_) (fun c1_1_100 hres => ?_)
    · refine ztab (tgt := 96) hx hb c1_1_100 dX6_nameOf_1 (by decide) (by decide) rfl (by decide) ?_
      refine lv_iconst (v := (4 : Int32)) hx hb dX6_nameOf_96 (by decide) ?_
      exact zreti C0 hH dX6_nameOf_97 hres rfl
    · skip
      refine zcase hres (fun c1_1_103 hres => ?_) (fun c1_1_103 hres => ?_)
      · refine ztab (tgt := 92) hx hb c1_1_103 dX6_nameOf_1 (by decide) (by decide) rfl (by decide) ?_
        refine lv_iconst (v := (2 : Int32)) hx hb dX6_nameOf_92 (by decide) ?_
        exact zreti C0 hH dX6_nameOf_93 hres rfl
      · skip
        refine zcase hres (fun c1_1_107 hres => ?_) (fun c1_1_107 hres => ?_)
        · refine ztab (tgt := 94) hx hb c1_1_107 dX6_nameOf_1 (by decide) (by decide) rfl (by decide) ?_
          refine lv_iconst (v := (3 : Int32)) hx hb dX6_nameOf_94 (by decide) ?_
          exact zreti C0 hH dX6_nameOf_95 hres rfl
        · skip
          refine zcase hres (fun c1_1_112 hres => ?_) (fun c1_1_112 hres => ?_)
          · refine ztab (tgt := 98) hx hb c1_1_112 dX6_nameOf_1 (by decide) (by decide) rfl (by decide) ?_
            refine lv_iconst (v := (5 : Int32)) hx hb dX6_nameOf_98 (by decide) ?_
            exact zreti C0 hH dX6_nameOf_99 hres rfl
          · skip
            refine zcase hres (fun c1_1_115 hres => ?_) (fun c1_1_115 hres => ?_)
            · refine ztab (tgt := 88) hx hb c1_1_115 dX6_nameOf_1 (by decide) (by decide) rfl (by decide) ?_
              refine lv_iconst (v := (0 : Int32)) hx hb dX6_nameOf_88 (by decide) ?_
              exact zreti C0 hH dX6_nameOf_89 hres rfl
            · skip
              refine ztabD (tgt := 100) hx hb [(98 : Int32), (100 : Int32), (103 : Int32), (107 : Int32), (112 : Int32), (115 : Int32)] (List.forall_mem_cons.mpr ⟨c1_1_98, (List.forall_mem_cons.mpr ⟨c1_1_100, (List.forall_mem_cons.mpr ⟨c1_1_103, (List.forall_mem_cons.mpr ⟨c1_1_107, (List.forall_mem_cons.mpr ⟨c1_1_112, (List.forall_mem_cons.mpr ⟨c1_1_115, (fun _ h => absurd h List.not_mem_nil)⟩)⟩)⟩)⟩)⟩)⟩) dX6_nameOf_1 (by decide) (by decide) (by decide) ?_
              refine lv_iconst (v := (-1 : Int32)) hx hb dX6_nameOf_100 (by decide) ?_
              exact zreti C0 hH dX6_nameOf_101 hres rfl
set_option maxRecDepth 100000 in
set_option maxHeartbeats 4000000 in
theorem c_X6_number (l : Launch) (D : va_G) (cy : Nat → ClassId) (ad : Nat → Nat) (M : zM) (he : M.1 0 18 < 0 → M.1 0 16 ≤ 59) : Met l yX6_number (Cond.code yX6_number cX6_number 3 none :: zG) ({ frames := 2, cells := 0, slots := 0, locals := 42 }) (zP D lyR cy ad [.ref (ad 0)] M) (zQv D lyR cy ad (f_X6_number M)) 0 0 (zA lyR ad) := by
  generalize hres : (f_X6_number M) = res
  refine zMet (by decide) (Nat.le_of_ble_eq_true rfl) ?_
  intro p e s m args below meth c ls C0 hH hl
  obtain ⟨⟨hx, hb, hml, hown, hts⟩, -⟩ := id C0
  have hz : ∀ w ∈ zG, w.before args s = true := fun w h => hts w (List.mem_cons_of_mem _ h)
  have hl : lv_has ls 3 [(0, .ref (ad 0))] := hl
  have g0 := hH.many
  have J48 : ∀ (v1 : Int32) (mm : zM) (H : Heap) (locs : List Loc) (ls : Array Slot), (mm.1 0 18 < 0 → mm.1 0 16 ≤ 59) → zH D lyR cy ad s.heap mm H locs → lv_has ls 3 [(0, .ref (ad 0)), (1, .int v1)] → f_X6_number_48 v1 mm = res → W p l e { frames := 2, cells := 0, slots := 0, locals := 42 } s m args below meth c H locs 0 0 (MQ below (zQv D lyR cy ad res) args s 0 0 (zA lyR ad)) (F0 m 48 ls []) := by
    intro v1 mm H locs ls he hH hl hres
    refine lv_aload_n hx hb dX6_number_48 rfl (lv_at hl 0 rfl) ?_
    refine lv_iload_n hx hb dX6_number_49 rfl (lv_at hl 1 rfl) ?_
    refine zcv (zrunV C0 hH (c_X6_emit l D cy ad _ _ (by first | assumption | (intro _; omega))) kM_X6_205 zK6 kq_X6_emit zR0 rfl hl.1 rfl rfl rfl ⟨Nat.le_of_ble_eq_true rfl, Nat.le_of_ble_eq_true rfl⟩ (Nat.le_of_ble_eq_true rfl) dX6_number_50) hH (fun H locs hH => ?_)
    exact zretv C0 hH dX6_number_53 hres
  have L4 : ∀ (n4 : Nat), ∀ (v1 : Int32) (v2 : Int32) (mm : zM) (H : Heap) (locs : List Loc) (ls : Array Slot), (zCt 3 n4 v2) → (mm.1 0 18 < 0 → mm.1 0 16 ≤ 59) → zH D lyR cy ad s.heap mm H locs → lv_has ls 3 [(0, .ref (ad 0)), (1, .int v1), (2, .int v2)] → f_X6_number_4 n4 v1 v2 mm = res → W p l e { frames := 2, cells := 0, slots := 0, locals := 42 } s m args below meth c H locs 0 0 (MQ below (zQv D lyR cy ad res) args s 0 0 (zA lyR ad)) (F0 m 4 ls []) := by
    intro n4
    induction n4 with
    | zero =>
      intro v1 v2 mm H locs ls hct he hH hl hres
      exfalso; exact hct.zero
    | succ n4 ih4 =>
      intro v1 v2 mm H locs ls hct he hH hl hres
      refine lv_iload_n hx hb dX6_number_4 rfl (lv_at hl 2 rfl) ?_
      refine lv_iconst (v := (3 : Int32)) hx hb dX6_number_5 (by decide) ?_
      refine lv_icmp_ge (tgt := 48) hx hb dX6_number_6 (by decide) (fun c6_1 => ?_) (fun c6_1 => ?_)
      · have hres := zif_pos c6_1 hres
        exact J48 _ _ _ _ _ (by assumption) hH (lv_sub hl [0, 1] rfl) hres
      · have hres := zif_neg c6_1 hres
        refine lv_aload_n hx hb dX6_number_9 rfl (lv_at hl 0 rfl) ?_
        refine zci (zrunV C0 hH (c_X6_byteAt l D cy ad _) kM_X6_189 zK6 kq_X6_byteAt zR0 rfl hl.1 rfl rfl rfl ⟨Nat.le_of_ble_eq_true rfl, Nat.le_of_ble_eq_true rfl⟩ (Nat.le_of_ble_eq_true rfl) dX6_number_10) hH (fun H locs hH => ?_)
        refine zcz (zrunS C0 hH (c_X6_isDigit l D cy ad _ _) kM_X6_202 kq_X6_isDigit rfl hl.1 rfl rfl rfl ⟨Nat.le_of_ble_eq_true rfl, Nat.le_of_ble_eq_true rfl⟩ (Nat.le_of_ble_eq_true rfl) dX6_number_13) hH (fun H locs hH h01_3 => ?_)
        refine lv_if_eq (tgt := 48) hx hb dX6_number_16 (by decide) (fun c16_5 => ?_) (fun c16_5 => ?_)
        · have hres := zif_pos c16_5 hres
          exact J48 _ _ _ _ _ (by assumption) hH (lv_sub hl [0, 1] rfl) hres
        · have hres := zif_neg c16_5 hres
          refine lv_bipush (v := (10 : Int32)) hx hb dX6_number_19 (by decide) ?_
          refine lv_iload_n hx hb dX6_number_21 rfl (lv_at hl 1 rfl) ?_
          refine lv_imul hx hb dX6_number_22 ?_
          refine lv_aload_n hx hb dX6_number_23 rfl (lv_at hl 0 rfl) ?_
          refine zci (zrunV C0 hH (c_X6_byteAt l D cy ad _) kM_X6_189 zK6 kq_X6_byteAt zR0 rfl hl.1 rfl rfl rfl ⟨Nat.le_of_ble_eq_true rfl, Nat.le_of_ble_eq_true rfl⟩ (Nat.le_of_ble_eq_true rfl) dX6_number_24) hH (fun H locs hH => ?_)
          refine lv_iadd hx hb dX6_number_27 ?_
          refine lv_bipush (v := (48 : Int32)) hx hb dX6_number_28 (by decide) ?_
          refine lv_isub hx hb dX6_number_30 ?_
          refine lv_istore_n (lv' := [(1, _), (0, _), (2, _)]) hx hb dX6_number_31 rfl hl (by decide) rfl (fun ls hl => ?_)
          refine ziinc (lv' := [(2, _), (1, _), (0, _)]) (k := 2) hx hb (1 : Int32) (by decide) dX6_number_32 hl rfl (by decide) rfl (fun ls hl => ?_)
          refine lv_aload_n hx hb dX6_number_35 rfl (lv_at hl 2 rfl) ?_
          refine lv_dup hx hb dX6_number_36 rfl ?_
          refine zgI C0 hH zK6 17 (by decide) zR0 rfl kF_X6_180 dX6_number_37 ?_
          refine lv_iconst (v := (1 : Int32)) hx hb dX6_number_40 (by decide) ?_
          refine lv_iadd hx hb dX6_number_41 ?_
          refine zp C0 hH zK6 17 (by decide) zR0 rfl rfl zOk_int (zcs (by first | decide | (have q0 := hH.here; have q1 := hH.taped; obtain ⟨qa, qb, -⟩ := hct; clear hres hz hts; grind [f_X6_isDigit, f_X6_in, f_X6_byteAt]))) kF_X6_180 dX6_number_42 (fun H locs hH => ?_)
          refine lv_goto (tgt := 4) hx hb dX6_number_45 (by decide) ?_
          exact ih4 _ _ _ _ _ _ (by first | exact zCt.start (by decide) (by decide) | exact zCt.begin (by decide) (by decide) (by decide) | exact zCt.step (m := 3) hct (by first | assumption | exact Int32.not_le.mp (by assumption) | exact Int32.lt_of_lt_of_le (Int32.not_le.mp (by assumption)) g0.2 | (clear hres hz hts; grind [f_X6_in, f_X6_isBlock, f_X6_isAhead, f_X6_isSheet])) (by decide)) (by first | assumption | (rw [zpI_off (by decide), zpI_off (by decide)]; assumption)) hH (lv_sub hl [2, 1, 0] rfl) hres
  refine lv_iconst (v := (0 : Int32)) hx hb dX6_number_0 (by decide) ?_
  refine lv_istore_n (lv' := [(1, _), (0, _)]) hx hb dX6_number_1 rfl hl (by decide) rfl (fun ls hl => ?_)
  refine lv_iconst (v := (0 : Int32)) hx hb dX6_number_2 (by decide) ?_
  refine lv_istore_n (lv' := [(2, _), (1, _), (0, _)]) hx hb dX6_number_3 rfl hl (by decide) rfl (fun ls hl => ?_)
  exact L4 (4) _ _ _ _ _ _ (by first | exact zCt.start (by decide) (by decide) | exact zCt.begin (by decide) (by decide) (by decide) | exact zCt.step (m := 3) hct (by first | assumption | exact Int32.not_le.mp (by assumption) | exact Int32.lt_of_lt_of_le (Int32.not_le.mp (by assumption)) g0.2 | (clear hres hz hts; grind [f_X6_in, f_X6_isBlock, f_X6_isAhead, f_X6_isSheet])) (by decide)) (by first | assumption | (rw [zpI_off (by decide), zpI_off (by decide)]; assumption)) hH (lv_sub hl [2, 1, 0] rfl) hres
set_option maxRecDepth 100000 in
set_option maxHeartbeats 4000000 in
theorem c_X6_opens (l : Launch) (D : va_G) (cy : Nat → ClassId) (ad : Nat → Nat) (M : zM) (p1 : Int32) (hc : 0 ≤ p1) : Met l yX6_opens (Cond.code yX6_opens cX6_opens 2 (some .boolean) :: zG) ({ frames := 1, cells := 0, slots := 0, locals := 20 }) (zP D lyR cy ad [.ref (ad 0), .int p1] M) (zQz D lyR cy ad (f_X6_opens p1 M).1 (f_X6_opens p1 M).2) 0 0 (zA lyR ad) := by
  generalize hres : (f_X6_opens p1 M) = res
  refine zMet (by decide) (Nat.le_of_ble_eq_true rfl) ?_
  intro p e s m args below meth c ls C0 hH hl
  obtain ⟨⟨hx, hb, hml, hown, hts⟩, -⟩ := id C0
  have hz : ∀ w ∈ zG, w.before args s = true := fun w h => hts w (List.mem_cons_of_mem _ h)
  have hl : lv_has ls 2 [(0, .ref (ad 0)), (1, .int p1)] := hl
  have g0 := hH.many
  refine lv_aload_n hx hb dX6_opens_0 rfl (lv_at hl 0 rfl) ?_
  refine zgI C0 hH zK6 18 (by decide) zR0 rfl kF_X6_186 dX6_opens_1 ?_
  refine lv_if_ge (tgt := 15) hx hb dX6_opens_4 (by decide) (fun c4_1 => ?_) (fun c4_1 => ?_)
  · have hres := zif_pos c4_1 hres
    refine lv_iconst (v := (0 : Int32)) hx hb dX6_opens_15 (by decide) ?_
    exact zretz C0 hH dX6_opens_16 (by first | exact Or.inl rfl | exact Or.inr rfl | assumption) (zfst hres) (zsnd hres)
  · have hres := zif_neg c4_1 hres
    refine lv_aload_n hx hb dX6_opens_7 rfl (lv_at hl 0 rfl) ?_
    refine zci (zrunV C0 hH (c_X6_byteAt l D cy ad _) kM_X6_189 zK6 kq_X6_byteAt zR0 rfl hl.1 rfl rfl rfl ⟨Nat.le_of_ble_eq_true rfl, Nat.le_of_ble_eq_true rfl⟩ (Nat.le_of_ble_eq_true rfl) dX6_opens_8) hH (fun H locs hH => ?_)
    refine lv_iload_n hx hb dX6_opens_11 rfl (lv_at hl 1 rfl) ?_
    refine lv_icmp_eq (tgt := 17) hx hb dX6_opens_12 (by decide) (fun c12_3 => ?_) (fun c12_3 => ?_)
    · have hres := zif_pos c12_3 hres
      refine lv_aload_n hx hb dX6_opens_17 rfl (lv_at hl 0 rfl) ?_
      refine zgI C0 hH zK6 19 (by decide) zR0 rfl kF_X6_208 dX6_opens_18 ?_
      refine lv_iconst (v := (5 : Int32)) hx hb dX6_opens_21 (by decide) ?_
      refine lv_icmp_ne (tgt := 31) hx hb dX6_opens_22 (by decide) (fun c22_4 => ?_) (fun c22_4 => ?_)
      · have hres := zif_neg c22_4 hres
        refine lv_aload_n hx hb dX6_opens_31 rfl (lv_at hl 0 rfl) ?_
        refine lv_dup hx hb dX6_opens_32 rfl ?_
        refine zgI C0 hH zK6 19 (by decide) zR0 rfl kF_X6_208 dX6_opens_33 ?_
        refine lv_iconst (v := (1 : Int32)) hx hb dX6_opens_36 (by decide) ?_
        refine lv_iadd hx hb dX6_opens_37 ?_
        refine zp C0 hH zK6 19 (by decide) zR0 rfl rfl zOk_int zcn kF_X6_208 dX6_opens_38 (fun H locs hH => ?_)
        refine lv_aload_n hx hb dX6_opens_41 rfl (lv_at hl 0 rfl) ?_
        refine lv_dup hx hb dX6_opens_42 rfl ?_
        refine zgI C0 hH zK6 17 (by decide) zR0 rfl kF_X6_180 dX6_opens_43 ?_
        refine lv_iconst (v := (1 : Int32)) hx hb dX6_opens_46 (by decide) ?_
        refine lv_iadd hx hb dX6_opens_47 ?_
        refine zp C0 hH zK6 17 (by decide) zR0 rfl rfl zOk_int (zcs (by have q0 := hH.here; have q1 := hH.taped; (try rw [zpI_off (by decide)]); clear hres hz hts; grind [f_X6_byteAt, zpI_off])) kF_X6_180 dX6_opens_48 (fun H locs hH => ?_)
        refine lv_iconst (v := (1 : Int32)) hx hb dX6_opens_51 (by decide) ?_
        exact zretz C0 hH dX6_opens_52 (by first | exact Or.inl rfl | exact Or.inr rfl | assumption) (zfst hres) (zsnd hres)
      · have hres := zif_pos c22_4 hres
        refine lv_aload_n hx hb dX6_opens_25 rfl (lv_at hl 0 rfl) ?_
        refine zcv (zrunV C0 hH (c_X6_fails l D cy ad _) kM_X6_196 zK6 kq_X6_fails zR0 rfl hl.1 rfl rfl rfl ⟨Nat.le_of_ble_eq_true rfl, Nat.le_of_ble_eq_true rfl⟩ (Nat.le_of_ble_eq_true rfl) dX6_opens_26) hH (fun H locs hH => ?_)
        refine lv_iconst (v := (0 : Int32)) hx hb dX6_opens_29 (by decide) ?_
        exact zretz C0 hH dX6_opens_30 (by first | exact Or.inl rfl | exact Or.inr rfl | assumption) (zfst hres) (zsnd hres)
    · have hres := zif_neg c12_3 hres
      refine lv_iconst (v := (0 : Int32)) hx hb dX6_opens_15 (by decide) ?_
      exact zretz C0 hH dX6_opens_16 (by first | exact Or.inl rfl | exact Or.inr rfl | assumption) (zfst hres) (zsnd hres)
set_option maxRecDepth 100000 in
set_option maxHeartbeats 4000000 in
theorem c_X6_feed (l : Launch) (D : va_G) (cy : Nat → ClassId) (ad : Nat → Nat) (M : zM) (p1 : Int32) (p2 : Int32) : Met l yX6_feed (Cond.code yX6_feed cX6_feed 4 (some .int) :: zG) ({ frames := 1, cells := 0, slots := 0, locals := 22 }) (zP D lyR cy ad [.ref (ad 0), .int p1, .int p2] M) (zQi D lyR cy ad (f_X6_feed p1 p2 M).1 (f_X6_feed p1 p2 M).2) 0 0 (zA lyR ad) := by
  generalize hres : (f_X6_feed p1 p2 M) = res
  refine zMet (by decide) (Nat.le_of_ble_eq_true rfl) ?_
  intro p e s m args below meth c ls C0 hH hl
  obtain ⟨⟨hx, hb, hml, hown, hts⟩, -⟩ := id C0
  have hz : ∀ w ∈ zG, w.before args s = true := fun w h => hts w (List.mem_cons_of_mem _ h)
  have hl : lv_has ls 4 [(0, .ref (ad 0)), (1, .int p1), (2, .int p2)] := hl
  have g0 := hH.many
  have L36 : ∀ (n36 : Nat), ∀ (v3 : Int32) (mm : zM) (H : Heap) (locs : List Loc) (ls : Array Slot), (zCd 3 n36 v3) → (mm.1 0 5 + v3 ≤ 59) → zH D lyR cy ad s.heap mm H locs → lv_has ls 4 [(0, .ref (ad 0)), (1, .int p1), (3, .int v3)] → f_X6_feed_36 p1 p2 n36 v3 mm = res → W p l e { frames := 1, cells := 0, slots := 0, locals := 22 } s m args below meth c H locs 0 0 (MQ below (zQi D lyR cy ad res.1 res.2) args s 0 0 (zA lyR ad)) (F0 m 36 ls []) := by
    intro n36
    induction n36 with
    | zero =>
      intro v3 mm H locs ls hct hlen hH hl hres
      exfalso; exact hct.zero
    | succ n36 ih36 =>
      intro v3 mm H locs ls hct hlen hH hl hres
      have g0 := hH.taped
      refine lv_iload_n hx hb dX6_feed_36 rfl (lv_at hl 2 rfl) ?_
      refine lv_if_lt (tgt := 75) hx hb dX6_feed_37 (by decide) (fun c37_8 => ?_) (fun c37_8 => ?_)
      · have hres := zif_pos c37_8 hres
        refine lv_aload_n hx hb dX6_feed_75 rfl (lv_at hl 0 rfl) ?_
        refine zgI C0 hH zK6 5 (by decide) zR0 rfl kF_X6_183 dX6_feed_76 ?_
        exact zreti C0 hH dX6_feed_79 (zfst hres) (zsnd hres)
      · have hres := zif_neg c37_8 hres
        refine lv_aload_n hx hb dX6_feed_40 rfl (lv_at hl 0 rfl) ?_
        refine zgR C0 hH zK6 4 (by decide) _ zR0 rfl kF_X6_19 dX6_feed_41 ?_
        refine lv_aload_n hx hb dX6_feed_44 rfl (lv_at hl 0 rfl) ?_
        refine zgI C0 hH zK6 5 (by decide) zR0 rfl kF_X6_183 dX6_feed_45 ?_
        refine lv_iload_n hx hb dX6_feed_48 rfl (lv_at hl 1 rfl) ?_
        refine lv_bipush (v := (8 : Int32)) hx hb dX6_feed_49 (by decide) ?_
        refine lv_iload_n hx hb dX6_feed_51 rfl (lv_at hl 2 rfl) ?_
        refine lv_imul hx hb dX6_feed_52 ?_
        refine lv_ishr hx hb dX6_feed_53 ?_
        refine lv_sipush (v := (255 : Int32)) hx hb dX6_feed_54 (by decide) ?_
        refine lv_iand hx hb dX6_feed_57 ?_
        refine zast C0 hH (zR_i (by decide) (by decide)) rfl (by exact zin60.mpr (by have q0 := hH.taped; obtain ⟨qa, qb, -⟩ := hct; clear hres hz hts; grind [f_X6_in, f_X6_isBlock, f_X6_isAhead, f_X6_isSheet])) zcn dX6_feed_58 (fun H locs hH => ?_)
        refine lv_aload_n hx hb dX6_feed_59 rfl (lv_at hl 0 rfl) ?_
        refine lv_dup hx hb dX6_feed_60 rfl ?_
        refine zgI C0 hH zK6 5 (by decide) zR0 rfl kF_X6_183 dX6_feed_61 ?_
        refine lv_iconst (v := (1 : Int32)) hx hb dX6_feed_64 (by decide) ?_
        refine lv_iadd hx hb dX6_feed_65 ?_
        refine zp C0 hH zK6 5 (by decide) zR0 rfl rfl zOk_int (zcs (by rw [zpI_off (fun h => absurd h.1 (by decide))]; obtain ⟨qa, qb, -⟩ := hct; clear hres hz hts; grind)) kF_X6_183 dX6_feed_66 (fun H locs hH => ?_)
        refine ziinc (lv' := [(3, _), (0, _), (1, _)]) (k := 2) hx hb (-1 : Int32) (by decide) dX6_feed_69 hl rfl (by decide) rfl (fun ls hl => ?_)
        refine lv_goto (tgt := 36) hx hb dX6_feed_72 (by decide) ?_
        exact ih36 _ _ _ _ _ (by first | exact zCd.begin (by decide) (by decide) (by decide) | exact zCd.begin (by clear hres hz hts; grind [f_X6_in, f_X6_isBlock, f_X6_isAhead, f_X6_isSheet]) (by clear hres hz hts; grind [f_X6_in, f_X6_isBlock, f_X6_isAhead, f_X6_isSheet]) (by decide) | exact zCd.step1 hct (by clear hres hz hts; grind [f_X6_in, f_X6_isBlock, f_X6_isAhead, f_X6_isSheet])) (by first | (rw [zpI_at, zpI_off (fun h => absurd h.1 (by decide))]; obtain ⟨qa, qb, -⟩ := hct; clear hres hz hts; grind) | (have q0 := hH.taped; clear hres hz hts; grind [f_X6_in])) hH (lv_sub hl [1, 2, 0] rfl) hres
  refine lv_iload_n hx hb dX6_feed_0 rfl (lv_at hl 2 rfl) ?_
  refine lv_iconst (v := (1 : Int32)) hx hb dX6_feed_1 (by decide) ?_
  refine lv_iconst (v := (4 : Int32)) hx hb dX6_feed_2 (by decide) ?_
  refine zcz (zrunS C0 hH (c_X6_in l D cy ad _ _ _ _) kM_X6_57 kq_X6_in rfl hl.1 rfl rfl rfl ⟨Nat.le_of_ble_eq_true rfl, Nat.le_of_ble_eq_true rfl⟩ (Nat.le_of_ble_eq_true rfl) dX6_feed_3) hH (fun H locs hH h01_1 => ?_)
  refine lv_if_ne (tgt := 15) hx hb dX6_feed_6 (by decide) (fun c6_3 => ?_) (fun c6_3 => ?_)
  · have hres := zif_neg c6_3 hres
    refine lv_aload_n hx hb dX6_feed_15 rfl (lv_at hl 0 rfl) ?_
    refine zgI C0 hH zK6 5 (by decide) zR0 rfl kF_X6_183 dX6_feed_16 ?_
    refine lv_iload_n hx hb dX6_feed_19 rfl (lv_at hl 2 rfl) ?_
    refine lv_iadd hx hb dX6_feed_20 ?_
    refine lv_bipush (v := (60 : Int32)) hx hb dX6_feed_21 (by decide) ?_
    refine lv_icmp_le (tgt := 32) hx hb dX6_feed_23 (by decide) (fun c23_4 => ?_) (fun c23_4 => ?_)
    · have hres := zif_pos c23_4 hres
      refine lv_iload_n hx hb dX6_feed_32 rfl (lv_at hl 2 rfl) ?_
      refine lv_iconst (v := (1 : Int32)) hx hb dX6_feed_33 (by decide) ?_
      refine lv_isub hx hb dX6_feed_34 ?_
      refine lv_istore_n (lv' := [(3, _), (0, _), (1, _), (2, _)]) hx hb dX6_feed_35 rfl hl (by decide) rfl (fun ls hl => ?_)
      exact L36 (5) _ _ _ _ _ (by first | exact zCd.begin (by decide) (by decide) (by decide) | exact zCd.begin (by clear hres hz hts; grind [f_X6_in, f_X6_isBlock, f_X6_isAhead, f_X6_isSheet]) (by clear hres hz hts; grind [f_X6_in, f_X6_isBlock, f_X6_isAhead, f_X6_isSheet]) (by decide) | exact zCd.step1 hct (by clear hres hz hts; grind [f_X6_in, f_X6_isBlock, f_X6_isAhead, f_X6_isSheet])) (by first | (rw [zpI_at, zpI_off (fun h => absurd h.1 (by decide))]; obtain ⟨qa, qb, -⟩ := hct; clear hres hz hts; grind) | (have q0 := hH.taped; clear hres hz hts; grind [f_X6_in])) hH (lv_sub hl [1, 2, 0] rfl) hres
    · have hres := zif_neg c23_4 hres
      refine lv_aload_n hx hb dX6_feed_26 rfl (lv_at hl 0 rfl) ?_
      refine lv_iconst (v := (1 : Int32)) hx hb dX6_feed_27 (by decide) ?_
      refine zci (zrunV C0 hH (c_X6_no l D cy ad _ _ (by decide)) kM_X6_85 zK6 kq_X6_no zR0 rfl hl.1 rfl rfl rfl ⟨Nat.le_of_ble_eq_true rfl, Nat.le_of_ble_eq_true rfl⟩ (Nat.le_of_ble_eq_true rfl) dX6_feed_28) hH (fun H locs hH => ?_)
      exact zreti C0 hH dX6_feed_31 (zfst hres) (zsnd hres)
  · have hres := zif_pos c6_3 hres
    refine lv_aload_n hx hb dX6_feed_9 rfl (lv_at hl 0 rfl) ?_
    refine lv_iconst (v := (0 : Int32)) hx hb dX6_feed_10 (by decide) ?_
    refine zci (zrunV C0 hH (c_X6_no l D cy ad _ _ (by decide)) kM_X6_85 zK6 kq_X6_no zR0 rfl hl.1 rfl rfl rfl ⟨Nat.le_of_ble_eq_true rfl, Nat.le_of_ble_eq_true rfl⟩ (Nat.le_of_ble_eq_true rfl) dX6_feed_11) hH (fun H locs hH => ?_)
    exact zreti C0 hH dX6_feed_14 (zfst hres) (zsnd hres)
set_option maxRecDepth 100000 in
set_option maxHeartbeats 4000000 in
theorem c_X6_wipe (l : Launch) (D : va_G) (cy : Nat → ClassId) (ad : Nat → Nat) (M : zM) : Met l yX6_wipe (Cond.code yX6_wipe cX6_wipe 2 (some .int) :: zG) ({ frames := 0, cells := 0, slots := 0, locals := 0 }) (zP D lyR cy ad [.ref (ad 0)] M) (zQi D lyR cy ad (f_X6_wipe M).1 (f_X6_wipe M).2) 0 0 (zA lyR ad) := by
  generalize hres : (f_X6_wipe M) = res
  refine zMet (by decide) (Nat.le_of_ble_eq_true rfl) ?_
  intro p e s m args below meth c ls C0 hH hl
  obtain ⟨⟨hx, hb, hml, hown, hts⟩, -⟩ := id C0
  have hz : ∀ w ∈ zG, w.before args s = true := fun w h => hts w (List.mem_cons_of_mem _ h)
  have hl : lv_has ls 2 [(0, .ref (ad 0))] := hl
  have g0 := hH.many
  refine lv_aload_n hx hb dX6_wipe_0 rfl (lv_at hl 0 rfl) ?_
  refine zgI C0 hH zK6 5 (by decide) zR0 rfl kF_X6_183 dX6_wipe_1 ?_
  refine lv_istore_n (lv' := [(1, _), (0, _)]) hx hb dX6_wipe_4 rfl hl (by decide) rfl (fun ls hl => ?_)
  refine lv_aload_n hx hb dX6_wipe_5 rfl (lv_at hl 1 rfl) ?_
  refine lv_iconst (v := (0 : Int32)) hx hb dX6_wipe_6 (by decide) ?_
  refine zp C0 hH zK6 5 (by decide) zR0 rfl rfl zOk_int (zcs (by first | decide | (clear hres hz hts; grind [f_X6_in, f_X6_isBlock, f_X6_isAhead, f_X6_isSheet]))) kF_X6_183 dX6_wipe_7 (fun H locs hH => ?_)
  refine lv_iload_n hx hb dX6_wipe_10 rfl (lv_at hl 0 rfl) ?_
  exact zreti C0 hH dX6_wipe_11 (zfst hres) (zsnd hres)
set_option maxRecDepth 100000 in
set_option maxHeartbeats 4000000 in
theorem c_X6_plain (l : Launch) (D : va_G) (cy : Nat → ClassId) (ad : Nat → Nat) (M : zM) : Met l yX6_plain (Cond.code yX6_plain cX6_plain 2 (some .int) :: zG) ({ frames := 0, cells := 0, slots := 0, locals := 0 }) (zP D lyR cy ad [.ref (ad 0)] M) (zQi D lyR cy ad (f_X6_plain M).1 (f_X6_plain M).2) 0 0 (zA lyR ad) := by
  generalize hres : (f_X6_plain M) = res
  refine zMet (by decide) (Nat.le_of_ble_eq_true rfl) ?_
  intro p e s m args below meth c ls C0 hH hl
  obtain ⟨⟨hx, hb, hml, hown, hts⟩, -⟩ := id C0
  have hz : ∀ w ∈ zG, w.before args s = true := fun w h => hts w (List.mem_cons_of_mem _ h)
  have hl : lv_has ls 2 [(0, .ref (ad 0))] := hl
  have g0 := hH.many
  refine lv_aload_n hx hb dX6_plain_0 rfl (lv_at hl 0 rfl) ?_
  refine zgR C0 hH zK6 0 (by decide) _ zR0 rfl kF_X6_9 dX6_plain_1 ?_
  refine lv_iconst (v := (5 : Int32)) hx hb dX6_plain_4 (by decide) ?_
  refine zaldK C0 hH zS31.is zS31.ln (k := 5) (by decide) (by unfold vp_in; decide) dX6_plain_5 ?_
  refine lv_if_ge (tgt := 13) hx hb dX6_plain_6 (by decide) (fun c6_1 => ?_) (fun c6_1 => ?_)
  · have hres := zif_pos c6_1 hres
    refine lv_iconst (v := (1 : Int32)) hx hb dX6_plain_13 (by decide) ?_
    refine lv_istore_n (lv' := [(1, _), (0, _)]) hx hb dX6_plain_14 rfl hl (by decide) rfl (fun ls hl => ?_)
    refine lv_aload_n hx hb dX6_plain_15 rfl (lv_at hl 1 rfl) ?_
    refine zgR C0 hH zK6 0 (by decide) _ zR0 rfl kF_X6_9 dX6_plain_16 ?_
    refine lv_iconst (v := (5 : Int32)) hx hb dX6_plain_19 (by decide) ?_
    refine lv_iconst (v := (-1 : Int32)) hx hb dX6_plain_20 (by decide) ?_
    refine zastK C0 hH zS31.is zS31.ln (k := 5) (by decide) (by unfold vp_in; decide) (zcs (by first | decide | (clear hres hz hts; grind [f_X6_in, f_X6_isBlock, f_X6_isAhead, f_X6_isSheet]))) dX6_plain_21 (fun H locs hH => ?_)
    refine lv_iload_n hx hb dX6_plain_22 rfl (lv_at hl 0 rfl) ?_
    exact zreti C0 hH dX6_plain_23 (zfst hres) (zsnd hres)
  · have hres := zif_neg c6_1 hres
    refine lv_iconst (v := (0 : Int32)) hx hb dX6_plain_9 (by decide) ?_
    refine lv_goto (tgt := 14) hx hb dX6_plain_10 (by decide) ?_
    refine lv_istore_n (lv' := [(1, _), (0, _)]) hx hb dX6_plain_14 rfl hl (by decide) rfl (fun ls hl => ?_)
    refine lv_aload_n hx hb dX6_plain_15 rfl (lv_at hl 1 rfl) ?_
    refine zgR C0 hH zK6 0 (by decide) _ zR0 rfl kF_X6_9 dX6_plain_16 ?_
    refine lv_iconst (v := (5 : Int32)) hx hb dX6_plain_19 (by decide) ?_
    refine lv_iconst (v := (-1 : Int32)) hx hb dX6_plain_20 (by decide) ?_
    refine zastK C0 hH zS31.is zS31.ln (k := 5) (by decide) (by unfold vp_in; decide) (zcs (by first | decide | (clear hres hz hts; grind [f_X6_in, f_X6_isBlock, f_X6_isAhead, f_X6_isSheet]))) dX6_plain_21 (fun H locs hH => ?_)
    refine lv_iload_n hx hb dX6_plain_22 rfl (lv_at hl 0 rfl) ?_
    exact zreti C0 hH dX6_plain_23 (zfst hres) (zsnd hres)
set_option maxRecDepth 100000 in
set_option maxHeartbeats 4000000 in
theorem c_X6_sheet (l : Launch) (D : va_G) (cy : Nat → ClassId) (ad : Nat → Nat) (M : zM) (p1 : Int32) (p2 : Int32) (p3 : Int32) : Met l yX6_sheet (Cond.code yX6_sheet cX6_sheet 5 (some .int) :: zG) ({ frames := 2, cells := 0, slots := 0, locals := 42 }) (zP D lyR cy ad [.ref (ad 0), .int p1, .int p2, .int p3] M) (zQi D lyR cy ad (f_X6_sheet p1 p2 p3 M).1 (f_X6_sheet p1 p2 p3 M).2) 0 0 (zA lyR ad) := by
  generalize hres : (f_X6_sheet p1 p2 p3 M) = res
  refine zMet (by decide) (Nat.le_of_ble_eq_true rfl) ?_
  intro p e s m args below meth c ls C0 hH hl
  obtain ⟨⟨hx, hb, hml, hown, hts⟩, -⟩ := id C0
  have hz : ∀ w ∈ zG, w.before args s = true := fun w h => hts w (List.mem_cons_of_mem _ h)
  have hl : lv_has ls 5 [(0, .ref (ad 0)), (1, .int p1), (2, .int p2), (3, .int p3)] := hl
  have g0 := hH.many
  have J29 : ∀ (mm : zM) (H : Heap) (locs : List Loc) (ls : Array Slot), zH D lyR cy ad s.heap mm H locs → lv_has ls 5 [(0, .ref (ad 0))] → f_X6_sheet_29 p1 p2 p3 mm = res → W p l e { frames := 2, cells := 0, slots := 0, locals := 42 } s m args below meth c H locs 0 0 (MQ below (zQi D lyR cy ad res.1 res.2) args s 0 0 (zA lyR ad)) (F0 m 29 ls []) := by
    intro mm H locs ls hH hl hres
    refine lv_aload_n hx hb dX6_sheet_29 rfl (lv_at hl 0 rfl) ?_
    refine lv_iconst (v := (0 : Int32)) hx hb dX6_sheet_30 (by decide) ?_
    refine zci (zrunV C0 hH (c_X6_no l D cy ad _ _ (by decide)) kM_X6_85 zK6 kq_X6_no zR0 rfl hl.1 rfl rfl rfl ⟨Nat.le_of_ble_eq_true rfl, Nat.le_of_ble_eq_true rfl⟩ (Nat.le_of_ble_eq_true rfl) dX6_sheet_31) hH (fun H locs hH => ?_)
    exact zreti C0 hH dX6_sheet_34 (zfst hres) (zsnd hres)
  have L83 : ∀ (n83 : Nat), ∀ (v4 : Int32) (mm : zM) (H : Heap) (locs : List Loc) (ls : Array Slot), (zCt 40 n83 v4) → (0 ≤ p1 ∧ p1 < 4) → zH D lyR cy ad s.heap mm H locs → lv_has ls 5 [(0, .ref (ad 0)), (1, .int p1), (4, .int v4)] → f_X6_sheet_83 p1 p2 p3 n83 v4 mm = res → W p l e { frames := 2, cells := 0, slots := 0, locals := 42 } s m args below meth c H locs 0 0 (MQ below (zQi D lyR cy ad res.1 res.2) args s 0 0 (zA lyR ad)) (F0 m 83 ls []) := by
    intro n83
    induction n83 with
    | zero =>
      intro v4 mm H locs ls hct hs hH hl hres
      exfalso; exact hct.zero
    | succ n83 ih83 =>
      intro v4 mm H locs ls hct hs hH hl hres
      refine lv_iload hx hb dX6_sheet_83 (lv_at hl 2 rfl) ?_
      refine lv_bipush (v := (40 : Int32)) hx hb dX6_sheet_85 (by decide) ?_
      refine lv_icmp_ge (tgt := 109) hx hb dX6_sheet_87 (by decide) (fun c87_16 => ?_) (fun c87_16 => ?_)
      · have hres := zif_pos c87_16 hres
        refine lv_aload_n hx hb dX6_sheet_109 rfl (lv_at hl 0 rfl) ?_
        refine zgR C0 hH zK6 22 (by decide) _ zR0 rfl kF_X6_46 dX6_sheet_110 ?_
        refine lv_iload_n hx hb dX6_sheet_113 rfl (lv_at hl 1 rfl) ?_
        refine zald C0 hH (zR_i (by decide) (by decide)) rfl (by exact zin4.mpr (by obtain ⟨qa, qb, -⟩ := hct; clear hres hz hts; grind [f_X6_in, f_X6_isBlock, f_X6_isAhead, f_X6_isSheet])) dX6_sheet_114 ?_
        exact zreti C0 hH dX6_sheet_115 (zfst hres) (zsnd hres)
      · have hres := zif_neg c87_16 hres
        refine lv_aload_n hx hb dX6_sheet_90 rfl (lv_at hl 0 rfl) ?_
        refine zgR C0 hH zK6 23 (by decide) _ zR0 rfl kF_X6_49 dX6_sheet_91 ?_
        refine lv_bipush (v := (40 : Int32)) hx hb dX6_sheet_94 (by decide) ?_
        refine lv_iload_n hx hb dX6_sheet_96 rfl (lv_at hl 1 rfl) ?_
        refine lv_imul hx hb dX6_sheet_97 ?_
        refine lv_iload hx hb dX6_sheet_98 (lv_at hl 2 rfl) ?_
        refine lv_iadd hx hb dX6_sheet_100 ?_
        refine lv_lconst (v := (0 : Int64)) hx hb dX6_sheet_101 (by decide) ?_
        refine zlst C0 hH zR14 rfl (by exact zin160.mpr (by obtain ⟨qa, qb, -⟩ := hct; clear hres hz hts; grind [f_X6_in, f_X6_isBlock, f_X6_isAhead, f_X6_isSheet])) dX6_sheet_102 (fun H locs hH => ?_)
        refine ziinc (lv' := [(4, _), (0, _), (1, _)]) (k := 2) hx hb (1 : Int32) (by decide) dX6_sheet_103 hl rfl (by decide) rfl (fun ls hl => ?_)
        refine lv_goto (tgt := 83) hx hb dX6_sheet_106 (by decide) ?_
        exact ih83 _ _ _ _ _ (by first | exact zCt.start (by decide) (by decide) | exact zCt.begin (by decide) (by decide) (by decide) | exact zCt.step (m := 40) hct (by first | assumption | exact Int32.not_le.mp (by assumption) | exact Int32.lt_of_lt_of_le (Int32.not_le.mp (by assumption)) g0.2 | (clear hres hz hts; grind [f_X6_in, f_X6_isBlock, f_X6_isAhead, f_X6_isSheet])) (by decide)) (by first | assumption | (clear hres hz hts; grind [f_X6_in, f_X6_isBlock, f_X6_isAhead, f_X6_isSheet])) hH (lv_sub hl [1, 2, 0] rfl) hres
  have J79 : ∀ (s0 : Int32) (s1 : Int32) (mm : zM) (H : Heap) (locs : List Loc) (ls : Array Slot), (0 ≤ p1 ∧ p1 < 4) → (0 ≤ s0 ∧ s0 ≤ 40) → (0 ≤ s1 ∧ s1 < 4) → zH D lyR cy ad s.heap mm H locs → lv_has ls 5 [(0, .ref (ad 0)), (1, .int p1)] → f_X6_sheet_79 p1 p2 p3 s0 s1 mm = res → W p l e { frames := 2, cells := 0, slots := 0, locals := 42 } s m args below meth c H locs 0 0 (MQ below (zQi D lyR cy ad res.1 res.2) args s 0 0 (zA lyR ad)) (F0 m 79 ls [.int s0, .int s1, .ref (ad 13)]) := by
    intro s0 s1 mm H locs ls hs hv0 hv1 hH hl hres
    refine zast C0 hH (zR_i (by decide) (by decide)) rfl (by exact zin4.mpr (by clear hres hz hts; grind [f_X6_in, f_X6_isBlock, f_X6_isAhead, f_X6_isSheet])) (zcs (by first | decide | (clear hres hz hts; grind [f_X6_in, f_X6_isBlock, f_X6_isAhead, f_X6_isSheet]))) dX6_sheet_79 (fun H locs hH => ?_)
    refine lv_iconst (v := (0 : Int32)) hx hb dX6_sheet_80 (by decide) ?_
    refine lv_istore (lv' := [(4, _), (0, _), (1, _)]) hx hb dX6_sheet_81 hl (by decide) rfl (fun ls hl => ?_)
    exact L83 (41) _ _ _ _ _ (by first | exact zCt.start (by decide) (by decide) | exact zCt.begin (by decide) (by decide) (by decide) | exact zCt.step (m := 40) hct (by first | assumption | exact Int32.not_le.mp (by assumption) | exact Int32.lt_of_lt_of_le (Int32.not_le.mp (by assumption)) g0.2 | (clear hres hz hts; grind [f_X6_in, f_X6_isBlock, f_X6_isAhead, f_X6_isSheet])) (by decide)) (by first | assumption | (clear hres hz hts; grind [f_X6_in, f_X6_isBlock, f_X6_isAhead, f_X6_isSheet])) hH (lv_sub hl [1, 2, 0] rfl) hres
  have J35 : ∀ (mm : zM) (H : Heap) (locs : List Loc) (ls : Array Slot), (0 ≤ p1 ∧ p1 < 4) → zH D lyR cy ad s.heap mm H locs → lv_has ls 5 [(0, .ref (ad 0)), (1, .int p1), (2, .int p2), (3, .int p3)] → f_X6_sheet_35 p1 p2 p3 mm = res → W p l e { frames := 2, cells := 0, slots := 0, locals := 42 } s m args below meth c H locs 0 0 (MQ below (zQi D lyR cy ad res.1 res.2) args s 0 0 (zA lyR ad)) (F0 m 35 ls []) := by
    intro mm H locs ls hs hH hl hres
    refine lv_iload_n hx hb dX6_sheet_35 rfl (lv_at hl 3 rfl) ?_
    refine lv_if_ge (tgt := 46) hx hb dX6_sheet_36 (by decide) (fun c36_9 => ?_) (fun c36_9 => ?_)
    · have hres := zif_pos c36_9 hres
      refine lv_iload_n hx hb dX6_sheet_46 rfl (lv_at hl 3 rfl) ?_
      refine lv_bipush (v := (40 : Int32)) hx hb dX6_sheet_47 (by decide) ?_
      refine lv_icmp_le (tgt := 58) hx hb dX6_sheet_49 (by decide) (fun c49_10 => ?_) (fun c49_10 => ?_)
      · have hres := zif_pos c49_10 hres
        refine lv_aload_n hx hb dX6_sheet_58 rfl (lv_at hl 0 rfl) ?_
        refine zgR C0 hH zK6 21 (by decide) _ zR0 rfl kF_X6_43 dX6_sheet_59 ?_
        refine lv_iload_n hx hb dX6_sheet_62 rfl (lv_at hl 1 rfl) ?_
        refine lv_iload_n hx hb dX6_sheet_63 rfl (lv_at hl 2 rfl) ?_
        refine zast C0 hH (zR_i (by decide) (by decide)) rfl (by exact zin4.mpr (by clear hres hz hts; grind [f_X6_in, f_X6_isBlock, f_X6_isAhead, f_X6_isSheet])) zcn dX6_sheet_64 (fun H locs hH => ?_)
        refine lv_aload_n hx hb dX6_sheet_65 rfl (lv_at hl 0 rfl) ?_
        refine zgR C0 hH zK6 22 (by decide) _ zR0 rfl kF_X6_46 dX6_sheet_66 ?_
        refine lv_iload_n hx hb dX6_sheet_69 rfl (lv_at hl 1 rfl) ?_
        refine lv_iload_n hx hb dX6_sheet_70 rfl (lv_at hl 2 rfl) ?_
        refine lv_if_ne (tgt := 78) hx hb dX6_sheet_71 (by decide) (fun c71_12 => ?_) (fun c71_12 => ?_)
        · have hres := zif_neg c71_12 hres
          refine lv_iload_n hx hb dX6_sheet_78 rfl (lv_at hl 3 rfl) ?_
          exact J79 _ _ _ _ _ _ (by first | assumption | (clear hres hz hts; grind [f_X6_in, f_X6_isBlock, f_X6_isAhead, f_X6_isSheet])) (by first | decide | (clear hres hz hts; grind [f_X6_in, f_X6_isBlock, f_X6_isAhead, f_X6_isSheet])) (by assumption) hH (lv_sub hl [0, 1] rfl) hres
        · have hres := zif_pos c71_12 hres
          refine lv_iconst (v := (0 : Int32)) hx hb dX6_sheet_74 (by decide) ?_
          refine lv_goto (tgt := 79) hx hb dX6_sheet_75 (by decide) ?_
          exact J79 _ _ _ _ _ _ (by first | assumption | (clear hres hz hts; grind [f_X6_in, f_X6_isBlock, f_X6_isAhead, f_X6_isSheet])) (by first | decide | (clear hres hz hts; grind [f_X6_in, f_X6_isBlock, f_X6_isAhead, f_X6_isSheet])) (by assumption) hH (lv_sub hl [0, 1] rfl) hres
      · have hres := zif_neg c49_10 hres
        refine lv_aload_n hx hb dX6_sheet_52 rfl (lv_at hl 0 rfl) ?_
        refine lv_iconst (v := (0 : Int32)) hx hb dX6_sheet_53 (by decide) ?_
        refine zci (zrunV C0 hH (c_X6_no l D cy ad _ _ (by decide)) kM_X6_85 zK6 kq_X6_no zR0 rfl hl.1 rfl rfl rfl ⟨Nat.le_of_ble_eq_true rfl, Nat.le_of_ble_eq_true rfl⟩ (Nat.le_of_ble_eq_true rfl) dX6_sheet_54) hH (fun H locs hH => ?_)
        exact zreti C0 hH dX6_sheet_57 (zfst hres) (zsnd hres)
    · have hres := zif_neg c36_9 hres
      refine lv_aload_n hx hb dX6_sheet_39 rfl (lv_at hl 0 rfl) ?_
      refine lv_bipush (v := (6 : Int32)) hx hb dX6_sheet_40 (by decide) ?_
      refine zci (zrunV C0 hH (c_X6_no l D cy ad _ _ (by decide)) kM_X6_85 zK6 kq_X6_no zR0 rfl hl.1 rfl rfl rfl ⟨Nat.le_of_ble_eq_true rfl, Nat.le_of_ble_eq_true rfl⟩ (Nat.le_of_ble_eq_true rfl) dX6_sheet_42) hH (fun H locs hH => ?_)
      exact zreti C0 hH dX6_sheet_45 (zfst hres) (zsnd hres)
  refine lv_iload_n hx hb dX6_sheet_0 rfl (lv_at hl 1 rfl) ?_
  refine zcz (zrunS C0 hH (c_X6_isSheet l D cy ad _ _) kM_X6_174 kq_X6_isSheet rfl hl.1 rfl rfl rfl ⟨Nat.le_of_ble_eq_true rfl, Nat.le_of_ble_eq_true rfl⟩ (Nat.le_of_ble_eq_true rfl) dX6_sheet_1) hH (fun H locs hH h01_1 => ?_)
  refine lv_if_eq (tgt := 29) hx hb dX6_sheet_4 (by decide) (fun c4_3 => ?_) (fun c4_3 => ?_)
  · have hres := zif_pos c4_3 hres
    exact J29 _ _ _ _ hH (lv_sub hl [0] rfl) hres
  · have hres := zif_neg c4_3 hres
    refine lv_iload_n hx hb dX6_sheet_7 rfl (lv_at hl 2 rfl) ?_
    refine lv_if_eq (tgt := 35) hx hb dX6_sheet_8 (by decide) (fun c8_4 => ?_) (fun c8_4 => ?_)
    · have hres := zif_pos c8_4 hres
      exact J35 _ _ _ _ (by first | assumption | (clear hres hz hts; grind [f_X6_in, f_X6_isBlock, f_X6_isAhead, f_X6_isSheet])) hH (lv_sub hl [0, 1, 2, 3] rfl) hres
    · have hres := zif_neg c8_4 hres
      refine lv_iload_n hx hb dX6_sheet_11 rfl (lv_at hl 2 rfl) ?_
      refine lv_bipush (v := (8 : Int32)) hx hb dX6_sheet_12 (by decide) ?_
      refine lv_icmp_eq (tgt := 35) hx hb dX6_sheet_14 (by decide) (fun c14_5 => ?_) (fun c14_5 => ?_)
      · have hres := zif_pos c14_5 hres
        exact J35 _ _ _ _ (by first | assumption | (clear hres hz hts; grind [f_X6_in, f_X6_isBlock, f_X6_isAhead, f_X6_isSheet])) hH (lv_sub hl [0, 1, 2, 3] rfl) hres
      · have hres := zif_neg c14_5 hres
        refine lv_iload_n hx hb dX6_sheet_17 rfl (lv_at hl 2 rfl) ?_
        refine lv_bipush (v := (16 : Int32)) hx hb dX6_sheet_18 (by decide) ?_
        refine lv_icmp_eq (tgt := 35) hx hb dX6_sheet_20 (by decide) (fun c20_6 => ?_) (fun c20_6 => ?_)
        · have hres := zif_pos c20_6 hres
          exact J35 _ _ _ _ (by first | assumption | (clear hres hz hts; grind [f_X6_in, f_X6_isBlock, f_X6_isAhead, f_X6_isSheet])) hH (lv_sub hl [0, 1, 2, 3] rfl) hres
        · have hres := zif_neg c20_6 hres
          refine lv_iload_n hx hb dX6_sheet_23 rfl (lv_at hl 2 rfl) ?_
          refine lv_bipush (v := (64 : Int32)) hx hb dX6_sheet_24 (by decide) ?_
          refine lv_icmp_eq (tgt := 35) hx hb dX6_sheet_26 (by decide) (fun c26_7 => ?_) (fun c26_7 => ?_)
          · have hres := zif_pos c26_7 hres
            exact J35 _ _ _ _ (by first | assumption | (clear hres hz hts; grind [f_X6_in, f_X6_isBlock, f_X6_isAhead, f_X6_isSheet])) hH (lv_sub hl [0, 1, 2, 3] rfl) hres
          · have hres := zif_neg c26_7 hres
            exact J29 _ _ _ _ hH (lv_sub hl [0] rfl) hres
