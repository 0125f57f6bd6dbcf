set_option maxRecDepth 100000 in
set_option maxHeartbeats 4000000 in
theorem c_X6_done (l : Launch) (D : va_G) (cy : Nat → ClassId) (ad : Nat → Nat) (M : zM) (p0 : Int32) (p1 : Int32) (p2 : Int32) : Met l yX6_done (Cond.code yX6_done cX6_done 3 (some .int) :: zG) ({ frames := 1, cells := 0, slots := 0, locals := 21 }) (zP D lyR cy ad [.int p0, .int p1, .int p2] M) (zQi D lyR cy ad (f_X6_done p0 p1 p2) M) 0 0 (zA lyR ad) := by
  generalize hres : (f_X6_done p0 p1 p2) = res
  refine zMet (by decide) (Nat.le_of_ble_eq_true rfl) ?_
  intro p e s m args below meth c ls C0 hH hl
  obtain ⟨⟨hx, hb, hml, hown, hts⟩, -⟩ := id C0
  have hz : ∀ w ∈ zG, w.before args s = true := fun w h => hts w (List.mem_cons_of_mem _ h)
  have hl : lv_has ls 3 [(0, .int p0), (1, .int p1), (2, .int p2)] := hl
  refine lv_iload_n hx hb dX6_done_0 rfl (lv_at hl 0 rfl) ?_
  refine zcase hres (fun c1_1_2000 hres => ?_) (fun c1_1_2000 hres => ?_)
  · refine ztab (tgt := 32) hx hb c1_1_2000 dX6_done_1 (by decide) (by decide) rfl (by decide) ?_
    refine lv_iload_n hx hb dX6_done_32 rfl (lv_at hl 1 rfl) ?_
    refine lv_iload_n hx hb dX6_done_33 rfl (lv_at hl 2 rfl) ?_
    refine lv_iadd hx hb dX6_done_34 ?_
    exact zreti C0 hH dX6_done_35 hres rfl
  · skip
    refine zcase hres (fun c1_1_2001 hres => ?_) (fun c1_1_2001 hres => ?_)
    · refine ztab (tgt := 36) hx hb c1_1_2001 dX6_done_1 (by decide) (by decide) rfl (by decide) ?_
      refine lv_iload_n hx hb dX6_done_36 rfl (lv_at hl 1 rfl) ?_
      refine lv_iload_n hx hb dX6_done_37 rfl (lv_at hl 2 rfl) ?_
      refine lv_isub hx hb dX6_done_38 ?_
      exact zreti C0 hH dX6_done_39 hres rfl
    · skip
      refine zcase hres (fun c1_1_2002 hres => ?_) (fun c1_1_2002 hres => ?_)
      · refine ztab (tgt := 40) hx hb c1_1_2002 dX6_done_1 (by decide) (by decide) rfl (by decide) ?_
        refine lv_iload_n hx hb dX6_done_40 rfl (lv_at hl 1 rfl) ?_
        refine lv_iload_n hx hb dX6_done_41 rfl (lv_at hl 2 rfl) ?_
        refine lv_imul hx hb dX6_done_42 ?_
        exact zreti C0 hH dX6_done_43 hres rfl
      · skip
        refine zcase hres (fun c1_1_2003 hres => ?_) (fun c1_1_2003 hres => ?_)
        · refine ztab (tgt := 44) hx hb c1_1_2003 dX6_done_1 (by decide) (by decide) rfl (by decide) ?_
          refine lv_iload_n hx hb dX6_done_44 rfl (lv_at hl 2 rfl) ?_
          refine lv_if_ne (tgt := 52) hx hb dX6_done_45 (by decide) (fun c45_2 => ?_) (fun c45_2 => ?_)
          · have hres := zif_neg c45_2 hres
            refine lv_iload_n hx hb dX6_done_52 rfl (lv_at hl 2 rfl) ?_
            refine lv_iconst (v := (-1 : Int32)) hx hb dX6_done_53 (by decide) ?_
            refine lv_icmp_ne (tgt := 62) hx hb dX6_done_54 (by decide) (fun c54_3 => ?_) (fun c54_3 => ?_)
            · have hres := zif_neg c54_3 hres
              refine lv_iload_n hx hb dX6_done_62 rfl (lv_at hl 1 rfl) ?_
              refine lv_iload_n hx hb dX6_done_63 rfl (lv_at hl 2 rfl) ?_
              refine lv_idiv hx hb dX6_done_64 (by first | assumption | decide) ?_
              exact zreti C0 hH dX6_done_65 hres rfl
            · have hres := zif_pos c54_3 hres
              refine lv_iload_n hx hb dX6_done_57 rfl (lv_at hl 1 rfl) ?_
              refine lv_ineg hx hb dX6_done_58 ?_
              refine lv_goto (tgt := 65) hx hb dX6_done_59 (by decide) ?_
              exact zreti C0 hH dX6_done_65 hres rfl
          · have hres := zif_pos c45_2 hres
            refine lv_iconst (v := (0 : Int32)) hx hb dX6_done_48 (by decide) ?_
            refine lv_goto (tgt := 65) hx hb dX6_done_49 (by decide) ?_
            exact zreti C0 hH dX6_done_65 hres rfl
        · skip
          refine ztabD (tgt := 66) hx hb [(2000 : Int32), (2001 : Int32), (2002 : Int32), (2003 : Int32)] (List.forall_mem_cons.mpr ⟨c1_1_2000, (List.forall_mem_cons.mpr ⟨c1_1_2001, (List.forall_mem_cons.mpr ⟨c1_1_2002, (List.forall_mem_cons.mpr ⟨c1_1_2003, (fun _ h => absurd h List.not_mem_nil)⟩)⟩)⟩)⟩) dX6_done_1 (by decide) (by decide) (by decide) ?_
          refine lv_iload_n hx hb dX6_done_66 rfl (lv_at hl 1 rfl) ?_
          refine lv_iload_n hx hb dX6_done_67 rfl (lv_at hl 2 rfl) ?_
          refine zci (zrunS C0 hH (c_X6_greater l D cy ad _ _ _) kM_X6_71 kq_X6_greater rfl hl.1 rfl rfl rfl ⟨Nat.le_of_ble_eq_true rfl, Nat.le_of_ble_eq_true rfl⟩ (Nat.le_of_ble_eq_true rfl) dX6_done_68) hH (fun H locs hH => ?_)
          exact zreti C0 hH dX6_done_71 hres rfl
set_option maxRecDepth 100000 in
set_option maxHeartbeats 4000000 in
theorem c_X6_rubsOf (l : Launch) (D : va_G) (cy : Nat → ClassId) (ad : Nat → Nat) (M : zM) (p1 : Int32) (p2 : Int32) (hbk : 0 ≤ p1 ∧ p1 < 10) : Met l yX6_rubsOf (Cond.code yX6_rubsOf cX6_rubsOf 4 (some .int) :: zG) ({ frames := 1, cells := 0, slots := 0, locals := 22 }) (zP D lyR cy ad [.ref (ad 0), .int p1, .int p2] M) (zQi D lyR cy ad (f_X6_rubsOf p1 p2 M) M) 0 0 (zA lyR ad) := by
  generalize hres : (f_X6_rubsOf p1 p2 M) = res
  refine zMet (by decide) (Nat.le_of_ble_eq_true rfl) ?_
  intro p e s m args below meth c ls C0 hH hl
  obtain ⟨⟨hx, hb, hml, hown, hts⟩, -⟩ := id C0
  have hz : ∀ w ∈ zG, w.before args s = true := fun w h => hts w (List.mem_cons_of_mem _ h)
  have hl : lv_has ls 4 [(0, .ref (ad 0)), (1, .int p1), (2, .int p2)] := hl
  have g0 := hH.many
  refine lv_aload_n hx hb dX6_rubsOf_0 rfl (lv_at hl 0 rfl) ?_
  refine lv_iload_n hx hb dX6_rubsOf_1 rfl (lv_at hl 1 rfl) ?_
  refine lv_iconst (v := (2 : Int32)) hx hb dX6_rubsOf_2 (by decide) ?_
  refine zci (zrunV C0 hH (c_X6_at l D cy ad _ _ _ (by first | assumption | (have q0 := hH.many; (try obtain ⟨qa, qb, -⟩ := hct); clear hres hz hts; grind [f_X6_in, f_X6_isBlock, f_X6_isAhead, f_X6_isSheet])) (by first | decide | assumption | (clear hres hz hts; grind [f_X6_in, f_X6_isBlock, f_X6_isAhead, f_X6_isSheet]))) kM_X6_61 zK6 kq_X6_at zR0 rfl hl.1 rfl rfl rfl ⟨Nat.le_of_ble_eq_true rfl, Nat.le_of_ble_eq_true rfl⟩ (Nat.le_of_ble_eq_true rfl) dX6_rubsOf_3) hH (fun H locs hH => ?_)
  refine lv_istore_n (lv' := [(3, _), (0, _), (1, _), (2, _)]) hx hb dX6_rubsOf_6 rfl hl (by decide) rfl (fun ls hl => ?_)
  refine lv_aload_n hx hb dX6_rubsOf_7 rfl (lv_at hl 1 rfl) ?_
  refine lv_iload_n hx hb dX6_rubsOf_8 rfl (lv_at hl 2 rfl) ?_
  refine lv_iconst (v := (0 : Int32)) hx hb dX6_rubsOf_9 (by decide) ?_
  refine zci (zrunV C0 hH (c_X6_at l D cy ad _ _ _ (by first | assumption | (have q0 := hH.many; (try obtain ⟨qa, qb, -⟩ := hct); clear hres hz hts; grind [f_X6_in, f_X6_isBlock, f_X6_isAhead, f_X6_isSheet])) (by first | decide | assumption | (clear hres hz hts; grind [f_X6_in, f_X6_isBlock, f_X6_isAhead, f_X6_isSheet]))) kM_X6_61 zK6 kq_X6_at zR0 rfl hl.1 rfl rfl rfl ⟨Nat.le_of_ble_eq_true rfl, Nat.le_of_ble_eq_true rfl⟩ (Nat.le_of_ble_eq_true rfl) dX6_rubsOf_10) hH (fun H locs hH => ?_)
  refine zcase hres (fun c13_3_1 hres => ?_) (fun c13_3_1 hres => ?_)
  · refine ztab (tgt := 48) hx hb c13_3_1 dX6_rubsOf_13 (by decide) (by decide) rfl (by decide) ?_
    refine lv_iload_n hx hb dX6_rubsOf_48 rfl (lv_at hl 0 rfl) ?_
    exact zreti C0 hH dX6_rubsOf_49 hres rfl
  · skip
    refine zcase hres (fun c13_3_2 hres => ?_) (fun c13_3_2 hres => ?_)
    · refine ztab (tgt := 50) hx hb c13_3_2 dX6_rubsOf_13 (by decide) (by decide) rfl (by decide) ?_
      refine lv_sipush (v := (999 : Int32)) hx hb dX6_rubsOf_50 (by decide) ?_
      refine lv_iload_n hx hb dX6_rubsOf_53 rfl (lv_at hl 0 rfl) ?_
      refine lv_iconst (v := (2 : Int32)) hx hb dX6_rubsOf_54 (by decide) ?_
      refine lv_idiv hx hb dX6_rubsOf_55 (by first | assumption | decide) ?_
      refine lv_iload_n hx hb dX6_rubsOf_56 rfl (lv_at hl 3 rfl) ?_
      refine lv_iadd hx hb dX6_rubsOf_57 ?_
      refine zci (zrunS C0 hH (c_X6_lesser l D cy ad _ _ _) kM_X6_65 kq_X6_lesser rfl hl.1 rfl rfl rfl ⟨Nat.le_of_ble_eq_true rfl, Nat.le_of_ble_eq_true rfl⟩ (Nat.le_of_ble_eq_true rfl) dX6_rubsOf_58) hH (fun H locs hH => ?_)
      exact zreti C0 hH dX6_rubsOf_61 hres rfl
    · skip
      refine zcase hres (fun c13_3_4 hres => ?_) (fun c13_3_4 hres => ?_)
      · refine ztab (tgt := 48) hx hb c13_3_4 dX6_rubsOf_13 (by decide) (by decide) rfl (by decide) ?_
        refine lv_iload_n hx hb dX6_rubsOf_48 rfl (lv_at hl 0 rfl) ?_
        exact zreti C0 hH dX6_rubsOf_49 hres rfl
      · skip
        refine zcase hres (fun c13_3_5 hres => ?_) (fun c13_3_5 hres => ?_)
        · refine ztab (tgt := 50) hx hb c13_3_5 dX6_rubsOf_13 (by decide) (by decide) rfl (by decide) ?_
          refine lv_sipush (v := (999 : Int32)) hx hb dX6_rubsOf_50 (by decide) ?_
          refine lv_iload_n hx hb dX6_rubsOf_53 rfl (lv_at hl 0 rfl) ?_
          refine lv_iconst (v := (2 : Int32)) hx hb dX6_rubsOf_54 (by decide) ?_
          refine lv_idiv hx hb dX6_rubsOf_55 (by first | assumption | decide) ?_
          refine lv_iload_n hx hb dX6_rubsOf_56 rfl (lv_at hl 3 rfl) ?_
          refine lv_iadd hx hb dX6_rubsOf_57 ?_
          refine zci (zrunS C0 hH (c_X6_lesser l D cy ad _ _ _) kM_X6_65 kq_X6_lesser rfl hl.1 rfl rfl rfl ⟨Nat.le_of_ble_eq_true rfl, Nat.le_of_ble_eq_true rfl⟩ (Nat.le_of_ble_eq_true rfl) dX6_rubsOf_58) hH (fun H locs hH => ?_)
          exact zreti C0 hH dX6_rubsOf_61 hres rfl
        · skip
          refine ztabD (tgt := 62) hx hb [(1 : Int32), (2 : Int32), (4 : Int32), (5 : Int32)] (List.forall_mem_cons.mpr ⟨c13_3_1, (List.forall_mem_cons.mpr ⟨c13_3_2, (List.forall_mem_cons.mpr ⟨c13_3_4, (List.forall_mem_cons.mpr ⟨c13_3_5, (fun _ h => absurd h List.not_mem_nil)⟩)⟩)⟩)⟩) dX6_rubsOf_13 (by decide) (by decide) (by decide) ?_
          refine lv_iconst (v := (0 : Int32)) hx hb dX6_rubsOf_62 (by decide) ?_
          refine lv_iload_n hx hb dX6_rubsOf_63 rfl (lv_at hl 0 rfl) ?_
          refine lv_iload_n hx hb dX6_rubsOf_64 rfl (lv_at hl 3 rfl) ?_
          refine lv_isub hx hb dX6_rubsOf_65 ?_
          refine zci (zrunS C0 hH (c_X6_greater l D cy ad _ _ _) kM_X6_71 kq_X6_greater rfl hl.1 rfl rfl rfl ⟨Nat.le_of_ble_eq_true rfl, Nat.le_of_ble_eq_true rfl⟩ (Nat.le_of_ble_eq_true rfl) dX6_rubsOf_66) hH (fun H locs hH => ?_)
          exact zreti C0 hH dX6_rubsOf_69 hres rfl
set_option maxRecDepth 100000 in
set_option maxHeartbeats 4000000 in
theorem c_X6_placeOf (l : Launch) (D : va_G) (cy : Nat → ClassId) (ad : Nat → Nat) (M : zM) (p1 : Int32) (hbk : p1 < 10) : Met l yX6_placeOf (Cond.code yX6_placeOf cX6_placeOf 2 (some .int) :: zG) ({ frames := 1, cells := 0, slots := 0, locals := 22 }) (zP D lyR cy ad [.ref (ad 0), .int p1] M) (zQi D lyR cy ad (f_X6_placeOf p1 M) M) 0 0 (zA lyR ad) := by
  generalize hres : (f_X6_placeOf p1 M) = res
  refine zMet (by decide) (Nat.le_of_ble_eq_true rfl) ?_
  intro p e s m args below meth c ls C0 hH hl
  obtain ⟨⟨hx, hb, hml, hown, hts⟩, -⟩ := id C0
  have hz : ∀ w ∈ zG, w.before args s = true := fun w h => hts w (List.mem_cons_of_mem _ h)
  have hl : lv_has ls 2 [(0, .ref (ad 0)), (1, .int p1)] := hl
  have g0 := hH.many
  refine lv_iload_n hx hb dX6_placeOf_0 rfl (lv_at hl 1 rfl) ?_
  refine lv_if_ge (tgt := 13) hx hb dX6_placeOf_1 (by decide) (fun c1_1 => ?_) (fun c1_1 => ?_)
  · have hres := zif_pos c1_1 hres
    refine lv_aload_n hx hb dX6_placeOf_13 rfl (lv_at hl 0 rfl) ?_
    refine lv_iload_n hx hb dX6_placeOf_14 rfl (lv_at hl 1 rfl) ?_
    refine lv_iconst (v := (5 : Int32)) hx hb dX6_placeOf_15 (by decide) ?_
    refine zci (zrunV C0 hH (c_X6_at l D cy ad _ _ _ (by first | assumption | (have q0 := hH.many; (try obtain ⟨qa, qb, -⟩ := hct); clear hres hz hts; grind [f_X6_in, f_X6_isBlock, f_X6_isAhead, f_X6_isSheet])) (by first | decide | assumption | (clear hres hz hts; grind [f_X6_in, f_X6_isBlock, f_X6_isAhead, f_X6_isSheet]))) kM_X6_61 zK6 kq_X6_at zR0 rfl hl.1 rfl rfl rfl ⟨Nat.le_of_ble_eq_true rfl, Nat.le_of_ble_eq_true rfl⟩ (Nat.le_of_ble_eq_true rfl) dX6_placeOf_16) hH (fun H locs hH => ?_)
    exact zreti C0 hH dX6_placeOf_19 hres rfl
  · have hres := zif_neg c1_1 hres
    refine lv_aload_n hx hb dX6_placeOf_4 rfl (lv_at hl 0 rfl) ?_
    refine zgR C0 hH zK6 0 (by decide) _ zR0 rfl kF_X6_9 dX6_placeOf_5 ?_
    refine lv_iconst (v := (1 : Int32)) hx hb dX6_placeOf_8 (by decide) ?_
    refine zaldK C0 hH zS31.is zS31.ln (k := 1) (by decide) (by unfold vp_in; decide) dX6_placeOf_9 ?_
    refine lv_goto (tgt := 19) hx hb dX6_placeOf_10 (by decide) ?_
    exact zreti C0 hH dX6_placeOf_19 hres rfl
set_option maxRecDepth 100000 in
set_option maxHeartbeats 4000000 in
theorem c_X6_isLast (l : Launch) (D : va_G) (cy : Nat → ClassId) (ad : Nat → Nat) (M : zM) (p1 : Int32) : Met l yX6_isLast (Cond.code yX6_isLast cX6_isLast 2 (some .boolean) :: zG) ({ frames := 0, cells := 0, slots := 0, locals := 0 }) (zP D lyR cy ad [.ref (ad 0), .int p1] M) (zQz D lyR cy ad (f_X6_isLast p1 M) M) 0 0 (zA lyR ad) := by
  generalize hres : (f_X6_isLast p1 M) = res
  refine zMet (by decide) (Nat.le_of_ble_eq_true rfl) ?_
  intro p e s m args below meth c ls C0 hH hl
  obtain ⟨⟨hx, hb, hml, hown, hts⟩, -⟩ := id C0
  have hz : ∀ w ∈ zG, w.before args s = true := fun w h => hts w (List.mem_cons_of_mem _ h)
  have hl : lv_has ls 2 [(0, .ref (ad 0)), (1, .int p1)] := hl
  have g0 := hH.many
  refine lv_iload_n hx hb dX6_isLast_0 rfl (lv_at hl 1 rfl) ?_
  refine lv_aload_n hx hb dX6_isLast_1 rfl (lv_at hl 0 rfl) ?_
  refine zgR C0 hH zK6 0 (by decide) _ zR0 rfl kF_X6_9 dX6_isLast_2 ?_
  refine lv_iconst (v := (0 : Int32)) hx hb dX6_isLast_5 (by decide) ?_
  refine zaldK C0 hH zS31.is zS31.ln (k := 0) (by decide) (by unfold vp_in; decide) dX6_isLast_6 ?_
  refine lv_iconst (v := (1 : Int32)) hx hb dX6_isLast_7 (by decide) ?_
  refine lv_isub hx hb dX6_isLast_8 ?_
  refine lv_icmp_ne (tgt := 16) hx hb dX6_isLast_9 (by decide) (fun c9_1 => ?_) (fun c9_1 => ?_)
  · have hres := zif_neg c9_1 hres
    refine lv_iconst (v := (0 : Int32)) hx hb dX6_isLast_16 (by decide) ?_
    exact zretz C0 hH dX6_isLast_17 (by first | exact Or.inl rfl | exact Or.inr rfl | assumption) hres rfl
  · have hres := zif_pos c9_1 hres
    refine lv_iconst (v := (1 : Int32)) hx hb dX6_isLast_12 (by decide) ?_
    refine lv_goto (tgt := 17) hx hb dX6_isLast_13 (by decide) ?_
    exact zretz C0 hH dX6_isLast_17 (by first | exact Or.inl rfl | exact Or.inr rfl | assumption) hres rfl
set_option maxRecDepth 100000 in
set_option maxHeartbeats 4000000 in
theorem c_X6_pull (l : Launch) (D : va_G) (cy : Nat → ClassId) (ad : Nat → Nat) (M : zM) (p1 : Int32) (hm : 0 ≤ p1 ∧ p1 < M.1 1 0) : Met l yX6_pull (Cond.code yX6_pull cX6_pull 3 (some .int) :: zG) ({ frames := 2, cells := 0, slots := 0, locals := 43 }) (zP D lyR cy ad [.ref (ad 0), .int p1] M) (zQi D lyR cy ad (f_X6_pull p1 M) M) 0 0 (zA lyR ad) := by
  generalize hres : (f_X6_pull p1 M) = res
  refine zMet (by decide) (Nat.le_of_ble_eq_true rfl) ?_
  intro p e s m args below meth c ls C0 hH hl
  obtain ⟨⟨hx, hb, hml, hown, hts⟩, -⟩ := id C0
  have hz : ∀ w ∈ zG, w.before args s = true := fun w h => hts w (List.mem_cons_of_mem _ h)
  have hl : lv_has ls 3 [(0, .ref (ad 0)), (1, .int p1)] := hl
  have g0 := hH.many
  refine lv_aload_n hx hb dX6_pull_0 rfl (lv_at hl 0 rfl) ?_
  refine lv_iload_n hx hb dX6_pull_1 rfl (lv_at hl 1 rfl) ?_
  refine lv_iconst (v := (3 : Int32)) hx hb dX6_pull_2 (by decide) ?_
  refine zci (zrunV C0 hH (c_X6_at l D cy ad _ _ _ (by first | exact ⟨hm.1, Int32.lt_of_lt_of_le hm.2 g0.2⟩ | exact ⟨(il_X6 g0 hm (by assumption)).1, (il_X6 g0 hm (by assumption)).2.1⟩) (by decide)) kM_X6_61 zK6 kq_X6_at zR0 rfl hl.1 rfl rfl rfl ⟨Nat.le_of_ble_eq_true rfl, Nat.le_of_ble_eq_true rfl⟩ (Nat.le_of_ble_eq_true rfl) dX6_pull_3) hH (fun H locs hH => ?_)
  refine lv_aload_n hx hb dX6_pull_6 rfl (lv_at hl 0 rfl) ?_
  refine lv_iload_n hx hb dX6_pull_7 rfl (lv_at hl 1 rfl) ?_
  refine lv_iconst (v := (1 : Int32)) hx hb dX6_pull_8 (by decide) ?_
  refine lv_isub hx hb dX6_pull_9 ?_
  refine zci (zrunV C0 hH (c_X6_placeOf l D cy ad _ _ (by first | exact Int32.lt_of_lt_of_le hm.2 g0.2 | exact (il_X6 g0 hm (by assumption)).2.1 | (clear hres hz hts; grind))) kM_X6_77 zK6 kq_X6_placeOf zR0 rfl hl.1 rfl rfl rfl ⟨Nat.le_of_ble_eq_true rfl, Nat.le_of_ble_eq_true rfl⟩ (Nat.le_of_ble_eq_true rfl) dX6_pull_10) hH (fun H locs hH => ?_)
  refine lv_aload_n hx hb dX6_pull_13 rfl (lv_at hl 0 rfl) ?_
  refine lv_iload_n hx hb dX6_pull_14 rfl (lv_at hl 1 rfl) ?_
  refine zci (zrunV C0 hH (c_X6_placeOf l D cy ad _ _ (by first | exact Int32.lt_of_lt_of_le hm.2 g0.2 | exact (il_X6 g0 hm (by assumption)).2.1 | (clear hres hz hts; grind))) kM_X6_77 zK6 kq_X6_placeOf zR0 rfl hl.1 rfl rfl rfl ⟨Nat.le_of_ble_eq_true rfl, Nat.le_of_ble_eq_true rfl⟩ (Nat.le_of_ble_eq_true rfl) dX6_pull_15) hH (fun H locs hH => ?_)
  refine lv_isub hx hb dX6_pull_18 ?_
  refine lv_imul hx hb dX6_pull_19 ?_
  refine lv_istore_n (lv' := [(2, _), (0, _), (1, _)]) hx hb dX6_pull_20 rfl hl (by decide) rfl (fun ls hl => ?_)
  refine lv_aload_n hx hb dX6_pull_21 rfl (lv_at hl 1 rfl) ?_
  refine lv_iload_n hx hb dX6_pull_22 rfl (lv_at hl 2 rfl) ?_
  refine zcz (zrunV C0 hH (c_X6_isLast l D cy ad _ _) kM_X6_81 zK6 kq_X6_isLast zR0 rfl hl.1 rfl rfl rfl ⟨Nat.le_of_ble_eq_true rfl, Nat.le_of_ble_eq_true rfl⟩ (Nat.le_of_ble_eq_true rfl) dX6_pull_23) hH (fun H locs hH h01_5 => ?_)
  refine lv_if_eq (tgt := 33) hx hb dX6_pull_26 (by decide) (fun c26_7 => ?_) (fun c26_7 => ?_)
  · have hres := zif_pos c26_7 hres
    refine lv_iload_n hx hb dX6_pull_33 rfl (lv_at hl 0 rfl) ?_
    refine lv_aload_n hx hb dX6_pull_34 rfl (lv_at hl 1 rfl) ?_
    refine lv_iload_n hx hb dX6_pull_35 rfl (lv_at hl 2 rfl) ?_
    refine lv_iconst (v := (1 : Int32)) hx hb dX6_pull_36 (by decide) ?_
    refine lv_iadd hx hb dX6_pull_37 ?_
    refine lv_iconst (v := (3 : Int32)) hx hb dX6_pull_38 (by decide) ?_
    refine zci (zrunV C0 hH (c_X6_at l D cy ad _ _ _ (by first | exact ⟨hm.1, Int32.lt_of_lt_of_le hm.2 g0.2⟩ | exact ⟨(il_X6 g0 hm (by assumption)).1, (il_X6 g0 hm (by assumption)).2.1⟩) (by decide)) kM_X6_61 zK6 kq_X6_at zR0 rfl hl.1 rfl rfl rfl ⟨Nat.le_of_ble_eq_true rfl, Nat.le_of_ble_eq_true rfl⟩ (Nat.le_of_ble_eq_true rfl) dX6_pull_39) hH (fun H locs hH => ?_)
    refine lv_aload_n hx hb dX6_pull_42 rfl (lv_at hl 1 rfl) ?_
    refine lv_iload_n hx hb dX6_pull_43 rfl (lv_at hl 2 rfl) ?_
    refine zci (zrunV C0 hH (c_X6_placeOf l D cy ad _ _ (by first | exact Int32.lt_of_lt_of_le hm.2 g0.2 | exact (il_X6 g0 hm (by assumption)).2.1 | (clear hres hz hts; grind))) kM_X6_77 zK6 kq_X6_placeOf zR0 rfl hl.1 rfl rfl rfl ⟨Nat.le_of_ble_eq_true rfl, Nat.le_of_ble_eq_true rfl⟩ (Nat.le_of_ble_eq_true rfl) dX6_pull_44) hH (fun H locs hH => ?_)
    refine lv_aload_n hx hb dX6_pull_47 rfl (lv_at hl 1 rfl) ?_
    refine lv_iload_n hx hb dX6_pull_48 rfl (lv_at hl 2 rfl) ?_
    refine lv_iconst (v := (1 : Int32)) hx hb dX6_pull_49 (by decide) ?_
    refine lv_iadd hx hb dX6_pull_50 ?_
    refine zci (zrunV C0 hH (c_X6_placeOf l D cy ad _ _ (by first | exact Int32.lt_of_lt_of_le hm.2 g0.2 | exact (il_X6 g0 hm (by assumption)).2.1 | (clear hres hz hts; grind))) kM_X6_77 zK6 kq_X6_placeOf zR0 rfl hl.1 rfl rfl rfl ⟨Nat.le_of_ble_eq_true rfl, Nat.le_of_ble_eq_true rfl⟩ (Nat.le_of_ble_eq_true rfl) dX6_pull_51) hH (fun H locs hH => ?_)
    refine lv_isub hx hb dX6_pull_54 ?_
    refine lv_imul hx hb dX6_pull_55 ?_
    refine lv_isub hx hb dX6_pull_56 ?_
    exact zreti C0 hH dX6_pull_57 hres rfl
  · have hres := zif_neg c26_7 hres
    refine lv_iload_n hx hb dX6_pull_29 rfl (lv_at hl 0 rfl) ?_
    refine lv_goto (tgt := 57) hx hb dX6_pull_30 (by decide) ?_
    exact zreti C0 hH dX6_pull_57 hres rfl
set_option maxRecDepth 100000 in
set_option maxHeartbeats 4000000 in
theorem c_X6_springs (l : Launch) (D : va_G) (cy : Nat → ClassId) (ad : Nat → Nat) (M : zM) (p1 : Int32) (hm : 0 ≤ p1 ∧ p1 < M.1 1 0) : Met l yX6_springs (Cond.code yX6_springs cX6_springs 2 (some .int) :: zG) ({ frames := 1, cells := 0, slots := 0, locals := 22 }) (zP D lyR cy ad [.ref (ad 0), .int p1] M) (zQi D lyR cy ad (f_X6_springs p1 M) M) 0 0 (zA lyR ad) := by
  generalize hres : (f_X6_springs p1 M) = res
  refine zMet (by decide) (Nat.le_of_ble_eq_true rfl) ?_
  intro p e s m args below meth c ls C0 hH hl
  obtain ⟨⟨hx, hb, hml, hown, hts⟩, -⟩ := id C0
  have hz : ∀ w ∈ zG, w.before args s = true := fun w h => hts w (List.mem_cons_of_mem _ h)
  have hl : lv_has ls 2 [(0, .ref (ad 0)), (1, .int p1)] := hl
  have g0 := hH.many
  have J27 : ∀ (s0 : Int32) (s1 : Int32) (s2 : Int32) (H : Heap) (locs : List Loc) (ls : Array Slot), zH D lyR cy ad s.heap M H locs → lv_has ls 2 [] → f_X6_springs_27 p1 M s0 s1 s2 = res → W p l e { frames := 1, cells := 0, slots := 0, locals := 22 } s m args below meth c H locs 0 0 (MQ below (zQi D lyR cy ad res M) args s 0 0 (zA lyR ad)) (F0 m 27 ls [.int s0, .int s1, .int s2]) := by
    intro s0 s1 s2 H locs ls hH hl hres
    refine lv_iadd hx hb dX6_springs_27 ?_
    refine zci (zrunS C0 hH (c_X6_greater l D cy ad _ _ _) kM_X6_71 kq_X6_greater rfl hl.1 rfl rfl rfl ⟨Nat.le_of_ble_eq_true rfl, Nat.le_of_ble_eq_true rfl⟩ (Nat.le_of_ble_eq_true rfl) dX6_springs_28) hH (fun H locs hH => ?_)
    exact zreti C0 hH dX6_springs_31 hres rfl
  refine lv_iconst (v := (1 : Int32)) hx hb dX6_springs_0 (by decide) ?_
  refine lv_aload_n hx hb dX6_springs_1 rfl (lv_at hl 0 rfl) ?_
  refine lv_iload_n hx hb dX6_springs_2 rfl (lv_at hl 1 rfl) ?_
  refine lv_iconst (v := (3 : Int32)) hx hb dX6_springs_3 (by decide) ?_
  refine zci (zrunV C0 hH (c_X6_at l D cy ad _ _ _ (by first | exact ⟨hm.1, Int32.lt_of_lt_of_le hm.2 g0.2⟩ | exact ⟨(il_X6 g0 hm (by assumption)).1, (il_X6 g0 hm (by assumption)).2.1⟩) (by decide)) kM_X6_61 zK6 kq_X6_at zR0 rfl hl.1 rfl rfl rfl ⟨Nat.le_of_ble_eq_true rfl, Nat.le_of_ble_eq_true rfl⟩ (Nat.le_of_ble_eq_true rfl) dX6_springs_4) hH (fun H locs hH => ?_)
  refine lv_aload_n hx hb dX6_springs_7 rfl (lv_at hl 0 rfl) ?_
  refine lv_iload_n hx hb dX6_springs_8 rfl (lv_at hl 1 rfl) ?_
  refine zcz (zrunV C0 hH (c_X6_isLast l D cy ad _ _) kM_X6_81 zK6 kq_X6_isLast zR0 rfl hl.1 rfl rfl rfl ⟨Nat.le_of_ble_eq_true rfl, Nat.le_of_ble_eq_true rfl⟩ (Nat.le_of_ble_eq_true rfl) dX6_springs_9) hH (fun H locs hH h01_2 => ?_)
  refine lv_if_eq (tgt := 19) hx hb dX6_springs_12 (by decide) (fun c12_4 => ?_) (fun c12_4 => ?_)
  · have hres := zif_pos c12_4 hres
    refine lv_aload_n hx hb dX6_springs_19 rfl (lv_at hl 0 rfl) ?_
    refine lv_iload_n hx hb dX6_springs_20 rfl (lv_at hl 1 rfl) ?_
    refine lv_iconst (v := (1 : Int32)) hx hb dX6_springs_21 (by decide) ?_
    refine lv_iadd hx hb dX6_springs_22 ?_
    refine lv_iconst (v := (3 : Int32)) hx hb dX6_springs_23 (by decide) ?_
    refine zci (zrunV C0 hH (c_X6_at l D cy ad _ _ _ (by first | exact ⟨hm.1, Int32.lt_of_lt_of_le hm.2 g0.2⟩ | exact ⟨(il_X6 g0 hm (by assumption)).1, (il_X6 g0 hm (by assumption)).2.1⟩) (by decide)) kM_X6_61 zK6 kq_X6_at zR0 rfl hl.1 rfl rfl rfl ⟨Nat.le_of_ble_eq_true rfl, Nat.le_of_ble_eq_true rfl⟩ (Nat.le_of_ble_eq_true rfl) dX6_springs_24) hH (fun H locs hH => ?_)
    exact J27 _ _ _ _ _ _ hH (lv_sub hl [] rfl) hres
  · have hres := zif_neg c12_4 hres
    refine lv_iconst (v := (0 : Int32)) hx hb dX6_springs_15 (by decide) ?_
    refine lv_goto (tgt := 27) hx hb dX6_springs_16 (by decide) ?_
    exact J27 _ _ _ _ _ _ hH (lv_sub hl [] rfl) hres
set_option maxRecDepth 100000 in
set_option maxHeartbeats 4000000 in
theorem c_X6_block (l : Launch) (D : va_G) (cy : Nat → ClassId) (ad : Nat → Nat) (M : zM) (p1 : Int32) (p2 : Int32) (p3 : Int32) (p4 : Int32) : Met l yX6_block (Cond.code yX6_block cX6_block 6 (some .int) :: zG) ({ frames := 2, cells := 0, slots := 0, locals := 46 }) (zP D lyR cy ad [.ref (ad 0), .int p1, .int p2, .int p3, .int p4] M) (zQi D lyR cy ad (f_X6_block p1 p2 p3 p4 M).1 (f_X6_block p1 p2 p3 p4 M).2) 0 0 (zA lyR ad) := by
  generalize hres : (f_X6_block p1 p2 p3 p4 M) = res
  refine zMet (by decide) (Nat.le_of_ble_eq_true rfl) ?_
  intro p e s m args below meth c ls C0 hH hl
  obtain ⟨⟨hx, hb, hml, hown, hts⟩, -⟩ := id C0
  have hz : ∀ w ∈ zG, w.before args s = true := fun w h => hts w (List.mem_cons_of_mem _ h)
  have hl : lv_has ls 6 [(0, .ref (ad 0)), (1, .int p1), (2, .int p2), (3, .int p3), (4, .int p4)] := hl
  have g0 := hH.many
  have J42 : ∀ (mm : zM) (H : Heap) (locs : List Loc) (ls : Array Slot), zH D lyR cy ad s.heap mm H locs → lv_has ls 6 [(0, .ref (ad 0))] → f_X6_block_42 p1 p2 p3 p4 mm = res → W p l e { frames := 2, cells := 0, slots := 0, locals := 46 } s m args below meth c H locs 0 0 (MQ below (zQi D lyR cy ad res.1 res.2) args s 0 0 (zA lyR ad)) (F0 m 42 ls []) := by
    intro mm H locs ls hH hl hres
    refine lv_aload_n hx hb dX6_block_42 rfl (lv_at hl 0 rfl) ?_
    refine lv_iconst (v := (0 : Int32)) hx hb dX6_block_43 (by decide) ?_
    refine zci (zrunV C0 hH (c_X6_no l D cy ad _ _ (by decide)) kM_X6_85 zK6 kq_X6_no zR0 rfl hl.1 rfl rfl rfl ⟨Nat.le_of_ble_eq_true rfl, Nat.le_of_ble_eq_true rfl⟩ (Nat.le_of_ble_eq_true rfl) dX6_block_44) hH (fun H locs hH => ?_)
    exact zreti C0 hH dX6_block_47 (zfst hres) (zsnd hres)
  refine lv_iload_n hx hb dX6_block_0 rfl (lv_at hl 1 rfl) ?_
  refine lv_iconst (v := (0 : Int32)) hx hb dX6_block_1 (by decide) ?_
  refine lv_iconst (v := (5 : Int32)) hx hb dX6_block_2 (by decide) ?_
  refine zcz (zrunS C0 hH (c_X6_in l D cy ad _ _ _ _) kM_X6_57 kq_X6_in rfl hl.1 rfl rfl rfl ⟨Nat.le_of_ble_eq_true rfl, Nat.le_of_ble_eq_true rfl⟩ (Nat.le_of_ble_eq_true rfl) dX6_block_3) hH (fun H locs hH h01_1 => ?_)
  refine lv_if_eq (tgt := 42) hx hb dX6_block_6 (by decide) (fun c6_3 => ?_) (fun c6_3 => ?_)
  · have hres := zif_pos c6_3 hres
    exact J42 _ _ _ _ hH (lv_sub hl [0] rfl) hres
  · have hres := zif_neg c6_3 hres
    refine lv_iload_n hx hb dX6_block_9 rfl (lv_at hl 2 rfl) ?_
    refine lv_iconst (v := (1 : Int32)) hx hb dX6_block_10 (by decide) ?_
    refine lv_sipush (v := (999 : Int32)) hx hb dX6_block_11 (by decide) ?_
    refine zcz (zrunS C0 hH (c_X6_in l D cy ad _ _ _ _) kM_X6_57 kq_X6_in rfl hl.1 rfl rfl rfl ⟨Nat.le_of_ble_eq_true rfl, Nat.le_of_ble_eq_true rfl⟩ (Nat.le_of_ble_eq_true rfl) dX6_block_14) hH (fun H locs hH h01_4 => ?_)
    refine lv_if_eq (tgt := 42) hx hb dX6_block_17 (by decide) (fun c17_6 => ?_) (fun c17_6 => ?_)
    · have hres := zif_pos c17_6 hres
      exact J42 _ _ _ _ hH (lv_sub hl [0] rfl) hres
    · have hres := zif_neg c17_6 hres
      refine lv_iload_n hx hb dX6_block_20 rfl (lv_at hl 3 rfl) ?_
      refine lv_iconst (v := (0 : Int32)) hx hb dX6_block_21 (by decide) ?_
      refine lv_sipush (v := (999 : Int32)) hx hb dX6_block_22 (by decide) ?_
      refine zcz (zrunS C0 hH (c_X6_in l D cy ad _ _ _ _) kM_X6_57 kq_X6_in rfl hl.1 rfl rfl rfl ⟨Nat.le_of_ble_eq_true rfl, Nat.le_of_ble_eq_true rfl⟩ (Nat.le_of_ble_eq_true rfl) dX6_block_25) hH (fun H locs hH h01_7 => ?_)
      refine lv_if_eq (tgt := 42) hx hb dX6_block_28 (by decide) (fun c28_9 => ?_) (fun c28_9 => ?_)
      · have hres := zif_pos c28_9 hres
        exact J42 _ _ _ _ hH (lv_sub hl [0] rfl) hres
      · have hres := zif_neg c28_9 hres
        refine lv_iload hx hb dX6_block_31 (lv_at hl 4 rfl) ?_
        refine lv_iconst (v := (0 : Int32)) hx hb dX6_block_33 (by decide) ?_
        refine lv_bipush (v := (99 : Int32)) hx hb dX6_block_34 (by decide) ?_
        refine zcz (zrunS C0 hH (c_X6_in l D cy ad _ _ _ _) kM_X6_57 kq_X6_in rfl hl.1 rfl rfl rfl ⟨Nat.le_of_ble_eq_true rfl, Nat.le_of_ble_eq_true rfl⟩ (Nat.le_of_ble_eq_true rfl) dX6_block_36) hH (fun H locs hH h01_10 => ?_)
        refine lv_if_ne (tgt := 48) hx hb dX6_block_39 (by decide) (fun c39_12 => ?_) (fun c39_12 => ?_)
        · have hres := zif_neg c39_12 hres
          refine lv_aload_n hx hb dX6_block_48 rfl (lv_at hl 0 rfl) ?_
          refine zgR C0 hH zK6 0 (by decide) _ zR0 rfl kF_X6_9 dX6_block_49 ?_
          refine lv_iconst (v := (0 : Int32)) hx hb dX6_block_52 (by decide) ?_
          refine zaldK C0 hH zS31.is zS31.ln (k := 0) (by decide) (by unfold vp_in; decide) dX6_block_53 ?_
          refine lv_istore (lv' := [(5, _), (0, _), (1, _), (2, _), (3, _), (4, _)]) hx hb dX6_block_54 hl (by decide) rfl (fun ls hl => ?_)
          refine lv_iload hx hb dX6_block_56 (lv_at hl 0 rfl) ?_
          refine lv_bipush (v := (10 : Int32)) hx hb dX6_block_58 (by decide) ?_
          refine lv_icmp_ne (tgt := 69) hx hb dX6_block_60 (by decide) (fun c60_14 => ?_) (fun c60_14 => ?_)
          · have hres := zif_neg c60_14 hres
            refine lv_aload_n hx hb dX6_block_69 rfl (lv_at hl 1 rfl) ?_
            refine zgR C0 hH zK6 0 (by decide) _ zR0 rfl kF_X6_9 dX6_block_70 ?_
            refine lv_iconst (v := (0 : Int32)) hx hb dX6_block_73 (by decide) ?_
            refine lv_dup2_11 hx hb dX6_block_74 rfl rfl ?_
            refine zaldK C0 hH zS31.is zS31.ln (k := 0) (by decide) (by unfold vp_in; decide) dX6_block_75 ?_
            refine lv_iconst (v := (1 : Int32)) hx hb dX6_block_76 (by decide) ?_
            refine lv_iadd hx hb dX6_block_77 ?_
            refine zastK C0 hH zS31.is zS31.ln (k := 0) (by decide) (by unfold vp_in; decide) (zcs (by first | decide | (have q0 := hH.many; clear hres hz hts; grind [f_X6_in, f_X6_isBlock, f_X6_isAhead, f_X6_isSheet]))) dX6_block_78 (fun H locs hH => ?_)
            refine lv_aload_n hx hb dX6_block_79 rfl (lv_at hl 1 rfl) ?_
            refine lv_iload hx hb dX6_block_80 (lv_at hl 0 rfl) ?_
            refine lv_iconst (v := (0 : Int32)) hx hb dX6_block_82 (by decide) ?_
            refine lv_iload_n hx hb dX6_block_83 rfl (lv_at hl 2 rfl) ?_
            refine zci (zrunV C0 hH (c_X6_become l D cy ad _ _ _ _ (by first | assumption | (have q0 := hH.many; (try obtain ⟨qa, qb, -⟩ := hct); clear hres hz hts; grind [f_X6_in, f_X6_isBlock, f_X6_isAhead, f_X6_isSheet])) (by first | decide | assumption | (clear hres hz hts; grind [f_X6_in, f_X6_isBlock, f_X6_isAhead, f_X6_isSheet]))) kM_X6_88 zK6 kq_X6_become zR0 rfl hl.1 rfl rfl rfl ⟨Nat.le_of_ble_eq_true rfl, Nat.le_of_ble_eq_true rfl⟩ (Nat.le_of_ble_eq_true rfl) dX6_block_84) hH (fun H locs hH => ?_)
            refine lv_pop hx hb dX6_block_87 rfl ?_
            refine lv_aload_n hx hb dX6_block_88 rfl (lv_at hl 1 rfl) ?_
            refine lv_iload hx hb dX6_block_89 (lv_at hl 0 rfl) ?_
            refine lv_iconst (v := (1 : Int32)) hx hb dX6_block_91 (by decide) ?_
            refine lv_iload_n hx hb dX6_block_92 rfl (lv_at hl 3 rfl) ?_
            refine zci (zrunV C0 hH (c_X6_become l D cy ad _ _ _ _ (by first | assumption | (have q0 := hH.many; (try obtain ⟨qa, qb, -⟩ := hct); clear hres hz hts; grind [f_X6_in, f_X6_isBlock, f_X6_isAhead, f_X6_isSheet])) (by first | decide | assumption | (clear hres hz hts; grind [f_X6_in, f_X6_isBlock, f_X6_isAhead, f_X6_isSheet]))) kM_X6_88 zK6 kq_X6_become zR0 rfl hl.1 rfl rfl rfl ⟨Nat.le_of_ble_eq_true rfl, Nat.le_of_ble_eq_true rfl⟩ (Nat.le_of_ble_eq_true rfl) dX6_block_93) hH (fun H locs hH => ?_)
            refine lv_pop hx hb dX6_block_96 rfl ?_
            refine lv_aload_n hx hb dX6_block_97 rfl (lv_at hl 1 rfl) ?_
            refine lv_iload hx hb dX6_block_98 (lv_at hl 0 rfl) ?_
            refine lv_iconst (v := (2 : Int32)) hx hb dX6_block_100 (by decide) ?_
            refine lv_iload_n hx hb dX6_block_101 rfl (lv_at hl 4 rfl) ?_
            refine zci (zrunV C0 hH (c_X6_become l D cy ad _ _ _ _ (by first | assumption | (have q0 := hH.many; (try obtain ⟨qa, qb, -⟩ := hct); clear hres hz hts; grind [f_X6_in, f_X6_isBlock, f_X6_isAhead, f_X6_isSheet])) (by first | decide | assumption | (clear hres hz hts; grind [f_X6_in, f_X6_isBlock, f_X6_isAhead, f_X6_isSheet]))) kM_X6_88 zK6 kq_X6_become zR0 rfl hl.1 rfl rfl rfl ⟨Nat.le_of_ble_eq_true rfl, Nat.le_of_ble_eq_true rfl⟩ (Nat.le_of_ble_eq_true rfl) dX6_block_102) hH (fun H locs hH => ?_)
            refine lv_pop hx hb dX6_block_105 rfl ?_
            refine lv_aload_n hx hb dX6_block_106 rfl (lv_at hl 1 rfl) ?_
            refine lv_iload hx hb dX6_block_107 (lv_at hl 0 rfl) ?_
            refine lv_iconst (v := (3 : Int32)) hx hb dX6_block_109 (by decide) ?_
            refine lv_iload hx hb dX6_block_110 (lv_at hl 5 rfl) ?_
            refine zci (zrunV C0 hH (c_X6_become l D cy ad _ _ _ _ (by first | assumption | (have q0 := hH.many; (try obtain ⟨qa, qb, -⟩ := hct); clear hres hz hts; grind [f_X6_in, f_X6_isBlock, f_X6_isAhead, f_X6_isSheet])) (by first | decide | assumption | (clear hres hz hts; grind [f_X6_in, f_X6_isBlock, f_X6_isAhead, f_X6_isSheet]))) kM_X6_88 zK6 kq_X6_become zR0 rfl hl.1 rfl rfl rfl ⟨Nat.le_of_ble_eq_true rfl, Nat.le_of_ble_eq_true rfl⟩ (Nat.le_of_ble_eq_true rfl) dX6_block_112) hH (fun H locs hH => ?_)
            refine lv_pop hx hb dX6_block_115 rfl ?_
            refine lv_aload_n hx hb dX6_block_116 rfl (lv_at hl 1 rfl) ?_
            refine lv_iload hx hb dX6_block_117 (lv_at hl 0 rfl) ?_
            refine lv_iconst (v := (4 : Int32)) hx hb dX6_block_119 (by decide) ?_
            refine lv_iconst (v := (0 : Int32)) hx hb dX6_block_120 (by decide) ?_
            refine zci (zrunV C0 hH (c_X6_become l D cy ad _ _ _ _ (by first | assumption | (have q0 := hH.many; (try obtain ⟨qa, qb, -⟩ := hct); clear hres hz hts; grind [f_X6_in, f_X6_isBlock, f_X6_isAhead, f_X6_isSheet])) (by first | decide | assumption | (clear hres hz hts; grind [f_X6_in, f_X6_isBlock, f_X6_isAhead, f_X6_isSheet]))) kM_X6_88 zK6 kq_X6_become zR0 rfl hl.1 rfl rfl rfl ⟨Nat.le_of_ble_eq_true rfl, Nat.le_of_ble_eq_true rfl⟩ (Nat.le_of_ble_eq_true rfl) dX6_block_121) hH (fun H locs hH => ?_)
            refine lv_pop hx hb dX6_block_124 rfl ?_
            refine lv_aload_n hx hb dX6_block_125 rfl (lv_at hl 1 rfl) ?_
            refine lv_iload hx hb dX6_block_126 (lv_at hl 0 rfl) ?_
            refine lv_iconst (v := (5 : Int32)) hx hb dX6_block_128 (by decide) ?_
            refine lv_iconst (v := (0 : Int32)) hx hb dX6_block_129 (by decide) ?_
            refine zci (zrunV C0 hH (c_X6_become l D cy ad _ _ _ _ (by first | assumption | (have q0 := hH.many; (try obtain ⟨qa, qb, -⟩ := hct); clear hres hz hts; grind [f_X6_in, f_X6_isBlock, f_X6_isAhead, f_X6_isSheet])) (by first | decide | assumption | (clear hres hz hts; grind [f_X6_in, f_X6_isBlock, f_X6_isAhead, f_X6_isSheet]))) kM_X6_88 zK6 kq_X6_become zR0 rfl hl.1 rfl rfl rfl ⟨Nat.le_of_ble_eq_true rfl, Nat.le_of_ble_eq_true rfl⟩ (Nat.le_of_ble_eq_true rfl) dX6_block_130) hH (fun H locs hH => ?_)
            refine lv_pop hx hb dX6_block_133 rfl ?_
            refine lv_aload_n hx hb dX6_block_134 rfl (lv_at hl 1 rfl) ?_
            refine lv_iload hx hb dX6_block_135 (lv_at hl 0 rfl) ?_
            refine lv_bipush (v := (6 : Int32)) hx hb dX6_block_137 (by decide) ?_
            refine lv_iconst (v := (0 : Int32)) hx hb dX6_block_139 (by decide) ?_
            refine zci (zrunV C0 hH (c_X6_become l D cy ad _ _ _ _ (by first | assumption | (have q0 := hH.many; (try obtain ⟨qa, qb, -⟩ := hct); clear hres hz hts; grind [f_X6_in, f_X6_isBlock, f_X6_isAhead, f_X6_isSheet])) (by first | decide | assumption | (clear hres hz hts; grind [f_X6_in, f_X6_isBlock, f_X6_isAhead, f_X6_isSheet]))) kM_X6_88 zK6 kq_X6_become zR0 rfl hl.1 rfl rfl rfl ⟨Nat.le_of_ble_eq_true rfl, Nat.le_of_ble_eq_true rfl⟩ (Nat.le_of_ble_eq_true rfl) dX6_block_140) hH (fun H locs hH => ?_)
            refine lv_pop hx hb dX6_block_143 rfl ?_
            refine lv_iload hx hb dX6_block_144 (lv_at hl 0 rfl) ?_
            exact zreti C0 hH dX6_block_146 (zfst hres) (zsnd hres)
          · have hres := zif_pos c60_14 hres
            refine lv_aload_n hx hb dX6_block_63 rfl (lv_at hl 1 rfl) ?_
            refine lv_iconst (v := (1 : Int32)) hx hb dX6_block_64 (by decide) ?_
            refine zci (zrunV C0 hH (c_X6_no l D cy ad _ _ (by decide)) kM_X6_85 zK6 kq_X6_no zR0 rfl hl.1 rfl rfl rfl ⟨Nat.le_of_ble_eq_true rfl, Nat.le_of_ble_eq_true rfl⟩ (Nat.le_of_ble_eq_true rfl) dX6_block_65) hH (fun H locs hH => ?_)
            exact zreti C0 hH dX6_block_68 (zfst hres) (zsnd hres)
        · have hres := zif_pos c39_12 hres
          exact J42 _ _ _ _ hH (lv_sub hl [0] rfl) hres
set_option maxRecDepth 100000 in
set_option maxHeartbeats 4000000 in
theorem c_X6_set (l : Launch) (D : va_G) (cy : Nat → ClassId) (ad : Nat → Nat) (M : zM) (p1 : Int32) (p2 : Int32) (p3 : Int32) : Met l yX6_set (Cond.code yX6_set cX6_set 4 (some .int) :: zG) ({ frames := 2, cells := 0, slots := 0, locals := 46 }) (zP D lyR cy ad [.ref (ad 0), .int p1, .int p2, .int p3] M) (zQi D lyR cy ad (f_X6_set p1 p2 p3 M).1 (f_X6_set p1 p2 p3 M).2) 0 0 (zA lyR ad) := by
  generalize hres : (f_X6_set p1 p2 p3 M) = res
  refine zMet (by decide) (Nat.le_of_ble_eq_true rfl) ?_
  intro p e s m args below meth c ls C0 hH hl
  obtain ⟨⟨hx, hb, hml, hown, hts⟩, -⟩ := id C0
  have hz : ∀ w ∈ zG, w.before args s = true := fun w h => hts w (List.mem_cons_of_mem _ h)
  have hl : lv_has ls 4 [(0, .ref (ad 0)), (1, .int p1), (2, .int p2), (3, .int p3)] := hl
  have g0 := hH.many
  have J47 : ∀ (mm : zM) (H : Heap) (locs : List Loc) (ls : Array Slot), zH D lyR cy ad s.heap mm H locs → lv_has ls 4 [(0, .ref (ad 0))] → f_X6_set_47 p1 p2 p3 mm = res → W p l e { frames := 2, cells := 0, slots := 0, locals := 46 } s m args below meth c H locs 0 0 (MQ below (zQi D lyR cy ad res.1 res.2) args s 0 0 (zA lyR ad)) (F0 m 47 ls []) := by
    intro mm H locs ls hH hl hres
    refine lv_aload_n hx hb dX6_set_47 rfl (lv_at hl 0 rfl) ?_
    refine lv_iconst (v := (0 : Int32)) hx hb dX6_set_48 (by decide) ?_
    refine zci (zrunV C0 hH (c_X6_no l D cy ad _ _ (by decide)) kM_X6_85 zK6 kq_X6_no zR0 rfl hl.1 rfl rfl rfl ⟨Nat.le_of_ble_eq_true rfl, Nat.le_of_ble_eq_true rfl⟩ (Nat.le_of_ble_eq_true rfl) dX6_set_49) hH (fun H locs hH => ?_)
    exact zreti C0 hH dX6_set_52 (zfst hres) (zsnd hres)
  have J41 : ∀ (s0 : Int32) (s1 : Int32) (s2 : Int32) (mm : zM) (H : Heap) (locs : List Loc) (ls : Array Slot), (0 ≤ p1 ∧ p1 < 10) → (0 ≤ p2 ∧ p2 ≤ 6) → zH D lyR cy ad s.heap mm H locs → lv_has ls 4 [(0, .ref (ad 0)), (1, .int p1), (2, .int p2), (3, .int p3)] → f_X6_set_41 p1 p2 p3 s0 s1 s2 mm = res → W p l e { frames := 2, cells := 0, slots := 0, locals := 46 } s m args below meth c H locs 0 0 (MQ below (zQi D lyR cy ad res.1 res.2) args s 0 0 (zA lyR ad)) (F0 m 41 ls [.int s0, .int s1, .int s2]) := by
    intro s0 s1 s2 mm H locs ls hbk hw hH hl hres
    refine zcz (zrunS C0 hH (c_X6_in l D cy ad _ _ _ _) kM_X6_57 kq_X6_in rfl hl.1 rfl rfl rfl ⟨Nat.le_of_ble_eq_true rfl, Nat.le_of_ble_eq_true rfl⟩ (Nat.le_of_ble_eq_true rfl) dX6_set_41) hH (fun H locs hH h01_10 => ?_)
    refine lv_if_ne (tgt := 53) hx hb dX6_set_44 (by decide) (fun c44_12 => ?_) (fun c44_12 => ?_)
    · have hres := zif_neg c44_12 hres
      refine lv_aload_n hx hb dX6_set_53 rfl (lv_at hl 0 rfl) ?_
      refine lv_iload_n hx hb dX6_set_54 rfl (lv_at hl 1 rfl) ?_
      refine lv_iload_n hx hb dX6_set_55 rfl (lv_at hl 2 rfl) ?_
      refine lv_iload_n hx hb dX6_set_56 rfl (lv_at hl 3 rfl) ?_
      refine zci (zrunV C0 hH (c_X6_become l D cy ad _ _ _ _ (by first | assumption | (have q0 := hH.many; (try obtain ⟨qa, qb, -⟩ := hct); clear hres hz hts; grind [f_X6_in, f_X6_isBlock, f_X6_isAhead, f_X6_isSheet])) (by first | decide | assumption | (clear hres hz hts; grind [f_X6_in, f_X6_isBlock, f_X6_isAhead, f_X6_isSheet]))) kM_X6_88 zK6 kq_X6_become zR0 rfl hl.1 rfl rfl rfl ⟨Nat.le_of_ble_eq_true rfl, Nat.le_of_ble_eq_true rfl⟩ (Nat.le_of_ble_eq_true rfl) dX6_set_57) hH (fun H locs hH => ?_)
      exact zreti C0 hH dX6_set_60 (zfst hres) (zsnd hres)
    · have hres := zif_pos c44_12 hres
      exact J47 _ _ _ _ hH (lv_sub hl [0] rfl) hres
  have J28 : ∀ (s0 : Int32) (s1 : Int32) (mm : zM) (H : Heap) (locs : List Loc) (ls : Array Slot), (0 ≤ p1 ∧ p1 < 10) → (0 ≤ p2 ∧ p2 ≤ 6) → zH D lyR cy ad s.heap mm H locs → lv_has ls 4 [(0, .ref (ad 0)), (1, .int p1), (2, .int p2), (3, .int p3)] → f_X6_set_28 p1 p2 p3 s0 s1 mm = res → W p l e { frames := 2, cells := 0, slots := 0, locals := 46 } s m args below meth c H locs 0 0 (MQ below (zQi D lyR cy ad res.1 res.2) args s 0 0 (zA lyR ad)) (F0 m 28 ls [.int s0, .int s1]) := by
    intro s0 s1 mm H locs ls hbk hw hH hl hres
    refine lv_iload_n hx hb dX6_set_28 rfl (lv_at hl 2 rfl) ?_
    refine lv_iconst (v := (3 : Int32)) hx hb dX6_set_29 (by decide) ?_
    refine lv_icmp_ge (tgt := 39) hx hb dX6_set_30 (by decide) (fun c30_9 => ?_) (fun c30_9 => ?_)
    · have hres := zif_pos c30_9 hres
      refine lv_bipush (v := (99 : Int32)) hx hb dX6_set_39 (by decide) ?_
      exact J41 _ _ _ _ _ _ _ (by first | assumption | (have q0 := hH.many; (try obtain ⟨qa, qb, -⟩ := hct); clear hres hz hts; grind [f_X6_in, f_X6_isBlock, f_X6_isAhead, f_X6_isSheet])) (by first | decide | assumption | (clear hres hz hts; grind [f_X6_in, f_X6_isBlock, f_X6_isAhead, f_X6_isSheet])) hH (lv_sub hl [0, 1, 2, 3] rfl) hres
    · have hres := zif_neg c30_9 hres
      refine lv_sipush (v := (999 : Int32)) hx hb dX6_set_33 (by decide) ?_
      refine lv_goto (tgt := 41) hx hb dX6_set_36 (by decide) ?_
      exact J41 _ _ _ _ _ _ _ (by first | assumption | (have q0 := hH.many; (try obtain ⟨qa, qb, -⟩ := hct); clear hres hz hts; grind [f_X6_in, f_X6_isBlock, f_X6_isAhead, f_X6_isSheet])) (by first | decide | assumption | (clear hres hz hts; grind [f_X6_in, f_X6_isBlock, f_X6_isAhead, f_X6_isSheet])) hH (lv_sub hl [0, 1, 2, 3] rfl) hres
  refine lv_aload_n hx hb dX6_set_0 rfl (lv_at hl 0 rfl) ?_
  refine lv_iload_n hx hb dX6_set_1 rfl (lv_at hl 1 rfl) ?_
  refine zcz (zrunV C0 hH (c_X6_isBlock l D cy ad _ _) kM_X6_92 zK6 kq_X6_isBlock zR0 rfl hl.1 rfl rfl rfl ⟨Nat.le_of_ble_eq_true rfl, Nat.le_of_ble_eq_true rfl⟩ (Nat.le_of_ble_eq_true rfl) dX6_set_2) hH (fun H locs hH h01_1 => ?_)
  refine lv_if_eq (tgt := 47) hx hb dX6_set_5 (by decide) (fun c5_3 => ?_) (fun c5_3 => ?_)
  · have hres := zif_pos c5_3 hres
    exact J47 _ _ _ _ hH (lv_sub hl [0] rfl) hres
  · have hres := zif_neg c5_3 hres
    refine lv_iload_n hx hb dX6_set_8 rfl (lv_at hl 2 rfl) ?_
    refine lv_iconst (v := (1 : Int32)) hx hb dX6_set_9 (by decide) ?_
    refine lv_iconst (v := (4 : Int32)) hx hb dX6_set_10 (by decide) ?_
    refine zcz (zrunS C0 hH (c_X6_in l D cy ad _ _ _ _) kM_X6_57 kq_X6_in rfl hl.1 rfl rfl rfl ⟨Nat.le_of_ble_eq_true rfl, Nat.le_of_ble_eq_true rfl⟩ (Nat.le_of_ble_eq_true rfl) dX6_set_11) hH (fun H locs hH h01_4 => ?_)
    refine lv_if_eq (tgt := 47) hx hb dX6_set_14 (by decide) (fun c14_6 => ?_) (fun c14_6 => ?_)
    · have hres := zif_pos c14_6 hres
      exact J47 _ _ _ _ hH (lv_sub hl [0] rfl) hres
    · have hres := zif_neg c14_6 hres
      refine lv_iload_n hx hb dX6_set_17 rfl (lv_at hl 3 rfl) ?_
      refine lv_iload_n hx hb dX6_set_18 rfl (lv_at hl 2 rfl) ?_
      refine lv_iconst (v := (1 : Int32)) hx hb dX6_set_19 (by decide) ?_
      refine lv_icmp_ne (tgt := 27) hx hb dX6_set_20 (by decide) (fun c20_7 => ?_) (fun c20_7 => ?_)
      · have hres := zif_neg c20_7 hres
        refine lv_iconst (v := (0 : Int32)) hx hb dX6_set_27 (by decide) ?_
        exact J28 _ _ _ _ _ _ (by first | assumption | (have q0 := hH.many; (try obtain ⟨qa, qb, -⟩ := hct); clear hres hz hts; grind [f_X6_in, f_X6_isBlock, f_X6_isAhead, f_X6_isSheet])) (by first | decide | assumption | (clear hres hz hts; grind [f_X6_in, f_X6_isBlock, f_X6_isAhead, f_X6_isSheet])) hH (lv_sub hl [0, 1, 2, 3] rfl) hres
      · have hres := zif_pos c20_7 hres
        refine lv_iconst (v := (1 : Int32)) hx hb dX6_set_23 (by decide) ?_
        refine lv_goto (tgt := 28) hx hb dX6_set_24 (by decide) ?_
        exact J28 _ _ _ _ _ _ (by first | assumption | (have q0 := hH.many; (try obtain ⟨qa, qb, -⟩ := hct); clear hres hz hts; grind [f_X6_in, f_X6_isBlock, f_X6_isAhead, f_X6_isSheet])) (by first | decide | assumption | (clear hres hz hts; grind [f_X6_in, f_X6_isBlock, f_X6_isAhead, f_X6_isSheet])) hH (lv_sub hl [0, 1, 2, 3] rfl) hres
set_option maxRecDepth 100000 in
set_option maxHeartbeats 4000000 in
theorem c_X6_isUnder (l : Launch) (D : va_G) (cy : Nat → ClassId) (ad : Nat → Nat) (M : zM) (p0 : Int32) (p1 : Int32) : Met l yX6_isUnder (Cond.code yX6_isUnder cX6_isUnder 2 (some .boolean) :: zG) ({ frames := 0, cells := 0, slots := 0, locals := 0 }) (zP D lyR cy ad [.int p0, .int p1] M) (zQz D lyR cy ad (f_X6_isUnder p0 p1) M) 0 0 (zA lyR ad) := by
  generalize hres : (f_X6_isUnder p0 p1) = res
  refine zMet (by decide) (Nat.le_of_ble_eq_true rfl) ?_
  intro p e s m args below meth c ls C0 hH hl
  obtain ⟨⟨hx, hb, hml, hown, hts⟩, -⟩ := id C0
  have hz : ∀ w ∈ zG, w.before args s = true := fun w h => hts w (List.mem_cons_of_mem _ h)
  have hl : lv_has ls 2 [(0, .int p0), (1, .int p1)] := hl
  have J19 : ∀  (H : Heap) (locs : List Loc) (ls : Array Slot), zH D lyR cy ad s.heap M H locs → lv_has ls 2 [(0, .int p0), (1, .int p1)] → f_X6_isUnder_19 p0 p1 = res → W p l e { frames := 0, cells := 0, slots := 0, locals := 0 } s m args below meth c H locs 0 0 (MQ below (zQz D lyR cy ad res M) args s 0 0 (zA lyR ad)) (F0 m 19 ls []) := by
    intro H locs ls hH hl hres
    refine lv_iload_n hx hb dX6_isUnder_19 rfl (lv_at hl 1 rfl) ?_
    refine lv_iconst (v := (2 : Int32)) hx hb dX6_isUnder_20 (by decide) ?_
    refine lv_icmp_ne (tgt := 33) hx hb dX6_isUnder_21 (by decide) (fun c21_5 => ?_) (fun c21_5 => ?_)
    · have hres := zif_neg c21_5 hres
      refine lv_iconst (v := (0 : Int32)) hx hb dX6_isUnder_33 (by decide) ?_
      exact zretz C0 hH dX6_isUnder_34 (by first | exact Or.inl rfl | exact Or.inr rfl | assumption) hres rfl
    · have hres := zif_pos c21_5 hres
      refine lv_iload_n hx hb dX6_isUnder_24 rfl (lv_at hl 0 rfl) ?_
      refine lv_iconst (v := (5 : Int32)) hx hb dX6_isUnder_25 (by decide) ?_
      refine lv_icmp_ne (tgt := 33) hx hb dX6_isUnder_26 (by decide) (fun c26_6 => ?_) (fun c26_6 => ?_)
      · have hres := zif_neg c26_6 hres
        refine lv_iconst (v := (0 : Int32)) hx hb dX6_isUnder_33 (by decide) ?_
        exact zretz C0 hH dX6_isUnder_34 (by first | exact Or.inl rfl | exact Or.inr rfl | assumption) hres rfl
      · have hres := zif_pos c26_6 hres
        refine lv_iconst (v := (1 : Int32)) hx hb dX6_isUnder_29 (by decide) ?_
        refine lv_goto (tgt := 34) hx hb dX6_isUnder_30 (by decide) ?_
        exact zretz C0 hH dX6_isUnder_34 (by first | exact Or.inl rfl | exact Or.inr rfl | assumption) hres rfl
  refine lv_iload_n hx hb dX6_isUnder_0 rfl (lv_at hl 1 rfl) ?_
  refine lv_if_eq (tgt := 29) hx hb dX6_isUnder_1 (by decide) (fun c1_1 => ?_) (fun c1_1 => ?_)
  · have hres := zif_pos c1_1 hres
    refine lv_iconst (v := (1 : Int32)) hx hb dX6_isUnder_29 (by decide) ?_
    refine lv_goto (tgt := 34) hx hb dX6_isUnder_30 (by decide) ?_
    exact zretz C0 hH dX6_isUnder_34 (by first | exact Or.inl rfl | exact Or.inr rfl | assumption) hres rfl
  · have hres := zif_neg c1_1 hres
    refine lv_iload_n hx hb dX6_isUnder_4 rfl (lv_at hl 0 rfl) ?_
    refine lv_iload_n hx hb dX6_isUnder_5 rfl (lv_at hl 1 rfl) ?_
    refine lv_icmp_eq (tgt := 29) hx hb dX6_isUnder_6 (by decide) (fun c6_2 => ?_) (fun c6_2 => ?_)
    · have hres := zif_pos c6_2 hres
      refine lv_iconst (v := (1 : Int32)) hx hb dX6_isUnder_29 (by decide) ?_
      refine lv_goto (tgt := 34) hx hb dX6_isUnder_30 (by decide) ?_
      exact zretz C0 hH dX6_isUnder_34 (by first | exact Or.inl rfl | exact Or.inr rfl | assumption) hres rfl
    · have hres := zif_neg c6_2 hres
      refine lv_iload_n hx hb dX6_isUnder_9 rfl (lv_at hl 1 rfl) ?_
      refine lv_iconst (v := (1 : Int32)) hx hb dX6_isUnder_10 (by decide) ?_
      refine lv_icmp_ne (tgt := 19) hx hb dX6_isUnder_11 (by decide) (fun c11_3 => ?_) (fun c11_3 => ?_)
      · have hres := zif_neg c11_3 hres
        exact J19 _ _ _ hH (lv_sub hl [0, 1] rfl) hres
      · have hres := zif_pos c11_3 hres
        refine lv_iload_n hx hb dX6_isUnder_14 rfl (lv_at hl 0 rfl) ?_
        refine lv_iconst (v := (4 : Int32)) hx hb dX6_isUnder_15 (by decide) ?_
        refine lv_icmp_eq (tgt := 29) hx hb dX6_isUnder_16 (by decide) (fun c16_4 => ?_) (fun c16_4 => ?_)
        · have hres := zif_pos c16_4 hres
          refine lv_iconst (v := (1 : Int32)) hx hb dX6_isUnder_29 (by decide) ?_
          refine lv_goto (tgt := 34) hx hb dX6_isUnder_30 (by decide) ?_
          exact zretz C0 hH dX6_isUnder_34 (by first | exact Or.inl rfl | exact Or.inr rfl | assumption) hres rfl
        · have hres := zif_neg c16_4 hres
          exact J19 _ _ _ hH (lv_sub hl [0, 1] rfl) hres
set_option maxRecDepth 100000 in
set_option maxHeartbeats 4000000 in
theorem c_X6_rubs (l : Launch) (D : va_G) (cy : Nat → ClassId) (ad : Nat → Nat) (M : zM) (p1 : Int32) (p2 : Int32) : Met l yX6_rubs (Cond.code yX6_rubs cX6_rubs 3 (some .int) :: zG) ({ frames := 2, cells := 0, slots := 0, locals := 45 }) (zP D lyR cy ad [.ref (ad 0), .int p1, .int p2] M) (zQi D lyR cy ad (f_X6_rubs p1 p2 M).1 (f_X6_rubs p1 p2 M).2) 0 0 (zA lyR ad) := by
  generalize hres : (f_X6_rubs p1 p2 M) = res
  refine zMet (by decide) (Nat.le_of_ble_eq_true rfl) ?_
  intro p e s m args below meth c ls C0 hH hl
  obtain ⟨⟨hx, hb, hml, hown, hts⟩, -⟩ := id C0
  have hz : ∀ w ∈ zG, w.before args s = true := fun w h => hts w (List.mem_cons_of_mem _ h)
  have hl : lv_has ls 3 [(0, .ref (ad 0)), (1, .int p1), (2, .int p2)] := hl
  have g0 := hH.many
  have J28 : ∀ (mm : zM) (H : Heap) (locs : List Loc) (ls : Array Slot), zH D lyR cy ad s.heap mm H locs → lv_has ls 3 [(0, .ref (ad 0))] → f_X6_rubs_28 p1 p2 mm = res → W p l e { frames := 2, cells := 0, slots := 0, locals := 45 } s m args below meth c H locs 0 0 (MQ below (zQi D lyR cy ad res.1 res.2) args s 0 0 (zA lyR ad)) (F0 m 28 ls []) := by
    intro mm H locs ls hH hl hres
    refine lv_aload_n hx hb dX6_rubs_28 rfl (lv_at hl 0 rfl) ?_
    refine lv_iconst (v := (0 : Int32)) hx hb dX6_rubs_29 (by decide) ?_
    refine zci (zrunV C0 hH (c_X6_no l D cy ad _ _ (by decide)) kM_X6_85 zK6 kq_X6_no zR0 rfl hl.1 rfl rfl rfl ⟨Nat.le_of_ble_eq_true rfl, Nat.le_of_ble_eq_true rfl⟩ (Nat.le_of_ble_eq_true rfl) dX6_rubs_30) hH (fun H locs hH => ?_)
    exact zreti C0 hH dX6_rubs_33 (zfst hres) (zsnd hres)
  refine lv_aload_n hx hb dX6_rubs_0 rfl (lv_at hl 0 rfl) ?_
  refine lv_iload_n hx hb dX6_rubs_1 rfl (lv_at hl 1 rfl) ?_
  refine zcz (zrunV C0 hH (c_X6_isBlock l D cy ad _ _) kM_X6_92 zK6 kq_X6_isBlock zR0 rfl hl.1 rfl rfl rfl ⟨Nat.le_of_ble_eq_true rfl, Nat.le_of_ble_eq_true rfl⟩ (Nat.le_of_ble_eq_true rfl) dX6_rubs_2) hH (fun H locs hH h01_1 => ?_)
  refine lv_if_eq (tgt := 28) hx hb dX6_rubs_5 (by decide) (fun c5_3 => ?_) (fun c5_3 => ?_)
  · have hres := zif_pos c5_3 hres
    exact J28 _ _ _ _ hH (lv_sub hl [0] rfl) hres
  · have hres := zif_neg c5_3 hres
    refine lv_iload_n hx hb dX6_rubs_8 rfl (lv_at hl 2 rfl) ?_
    refine lv_iconst (v := (0 : Int32)) hx hb dX6_rubs_9 (by decide) ?_
    refine lv_sipush (v := (999 : Int32)) hx hb dX6_rubs_10 (by decide) ?_
    refine zcz (zrunS C0 hH (c_X6_in l D cy ad _ _ _ _) kM_X6_57 kq_X6_in rfl hl.1 rfl rfl rfl ⟨Nat.le_of_ble_eq_true rfl, Nat.le_of_ble_eq_true rfl⟩ (Nat.le_of_ble_eq_true rfl) dX6_rubs_13) hH (fun H locs hH h01_4 => ?_)
    refine lv_if_eq (tgt := 28) hx hb dX6_rubs_16 (by decide) (fun c16_6 => ?_) (fun c16_6 => ?_)
    · have hres := zif_pos c16_6 hres
      exact J28 _ _ _ _ hH (lv_sub hl [0] rfl) hres
    · have hres := zif_neg c16_6 hres
      refine lv_aload_n hx hb dX6_rubs_19 rfl (lv_at hl 0 rfl) ?_
      refine lv_iload_n hx hb dX6_rubs_20 rfl (lv_at hl 1 rfl) ?_
      refine lv_iload_n hx hb dX6_rubs_21 rfl (lv_at hl 2 rfl) ?_
      refine zci (zrunV C0 hH (c_X6_rubsOf l D cy ad _ _ _ (by first | assumption | (have q0 := hH.many; (try obtain ⟨qa, qb, -⟩ := hct); clear hres hz hts; grind [f_X6_in, f_X6_isBlock, f_X6_isAhead, f_X6_isSheet]))) kM_X6_105 zK6 kq_X6_rubsOf zR0 rfl hl.1 rfl rfl rfl ⟨Nat.le_of_ble_eq_true rfl, Nat.le_of_ble_eq_true rfl⟩ (Nat.le_of_ble_eq_true rfl) dX6_rubs_22) hH (fun H locs hH => ?_)
      refine lv_goto (tgt := 33) hx hb dX6_rubs_25 (by decide) ?_
      exact zreti C0 hH dX6_rubs_33 (zfst hres) (zsnd hres)
