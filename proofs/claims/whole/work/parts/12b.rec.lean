set_option maxRecDepth 100000 in
set_option maxHeartbeats 4000000 in
theorem c_X4_factorG (fr lo : Nat) (Fsum Ffac : Nat → Int32 → zM → Int32 × zM) (l : Launch) (D : va_G) (cy : Nat → ClassId) (ad : Nat → Nat) (M : zM) (a0 : Nat) (ha0 : zTxt a0) (p1 : Int32) (hsum : ∀ (M : zM) (a0 : Nat) (ha0 : zTxt a0) (q : Int32), p1 < 5 ∧ q = p1 + 1 → Met l yX4_sum (Cond.code yX4_sum cX4_sum 6 (some .int) :: zG) ({ frames := fr + 2, cells := 0, slots := 0, locals := lo + 80 }) (zP D lyC cy ad [.ref (ad a0), .int q] M) (zQi D lyC cy ad (Fsum a0 q M).1 (Fsum a0 q M).2) 0 0 (zA lyC ad)) (hfac : ∀ (M : zM) (a0 : Nat) (ha0 : zTxt a0) (q : Int32), p1 < 5 ∧ q = p1 + 1 → Met l yX4_factor (Cond.code yX4_factor cX4_factor 5 (some .int) :: zG) ({ frames := fr, cells := 0, slots := 0, locals := lo }) (zP D lyC cy ad [.ref (ad a0), .int q] M) (zQi D lyC cy ad (Ffac a0 q M).1 (Ffac a0 q M).2) 0 0 (zA lyC ad)) : Met l yX4_factor (Cond.code yX4_factor cX4_factor 5 (some .int) :: zG) ({ frames := fr + 3, cells := 0, slots := 0, locals := lo + 120 }) (zP D lyC cy ad [.ref (ad a0), .int p1] M) (zQi D lyC cy ad (f_X4_factor Fsum Ffac a0 p1 M).1 (f_X4_factor Fsum Ffac a0 p1 M).2) 0 0 (zA lyC ad) := by
  generalize hres : (f_X4_factor Fsum Ffac a0 p1 M) = res
  refine zMet (by decide) (Nat.le_of_ble_eq_true rfl) ?_
  intro p e s m args below meth c ls C0 hH hl
  obtain ⟨⟨hx, hb, hml, hown, hts⟩, -⟩ := id C0
  have hz : ∀ w ∈ zG, w.before args s = true := fun w h => hts w (List.mem_cons_of_mem _ h)
  have hl : lv_has ls 5 [(0, .ref (ad a0)), (1, .int p1)] := hl
  have L22 : ∀ (n22 : Nat), ∀ (v3 : Int32) (v4 : Int32) (mm : zM) (H : Heap) (locs : List Loc) (ls : Array Slot), (zCt 3 n22 v4) → zH D lyC cy ad s.heap mm H locs → lv_has ls 5 [(0, .ref (ad a0)), (3, .int v3), (4, .int v4)] → f_X4_factor_22 Fsum Ffac a0 p1 n22 v3 v4 mm = res → W p l e { frames := fr + 3, cells := 0, slots := 0, locals := lo + 120 } s m args below meth c H locs 0 0 (MQ below (zQi D lyC cy ad res.1 res.2) args s 0 0 (zA lyC ad)) (F0 m 22 ls []) := by
    intro n22
    induction n22 with
    | zero =>
      intro v3 v4 mm H locs ls hct hH hl hres
      exfalso; exact hct.zero
    | succ n22 ih22 =>
      intro v3 v4 mm H locs ls hct hH hl hres
      refine lv_iload hx hb dX4_factor_22 (lv_at hl 2 rfl) ?_
      refine lv_iconst (v := (3 : Int32)) hx hb dX4_factor_24 (by decide) ?_
      refine lv_icmp_ge (tgt := 73) hx hb dX4_factor_25 (by decide) (fun c25_11 => ?_) (fun c25_11 => ?_)
      · have hres := zif_pos c25_11 hres
        refine lv_iload_n hx hb dX4_factor_73 rfl (lv_at hl 1 rfl) ?_
        exact zreti C0 hH dX4_factor_74 (zfst hres) (zsnd hres)
      · have hres := zif_neg c25_11 hres
        refine lv_aload_n hx hb dX4_factor_28 rfl (lv_at hl 0 rfl) ?_
        refine zgI C0 hH zK4 3 (by decide) ha0.is rfl kF_X4_61 dX4_factor_29 ?_
        refine lv_bipush (v := (48 : Int32)) hx hb dX4_factor_32 (by decide) ?_
        refine lv_icmp_lt (tgt := 73) hx hb dX4_factor_34 (by decide) (fun c34_12 => ?_) (fun c34_12 => ?_)
        · have hres := zif_pos c34_12 hres
          refine lv_iload_n hx hb dX4_factor_73 rfl (lv_at hl 1 rfl) ?_
          exact zreti C0 hH dX4_factor_74 (zfst hres) (zsnd hres)
        · have hres := zif_neg c34_12 hres
          refine lv_aload_n hx hb dX4_factor_37 rfl (lv_at hl 0 rfl) ?_
          refine zgI C0 hH zK4 3 (by decide) ha0.is rfl kF_X4_61 dX4_factor_38 ?_
          refine lv_bipush (v := (57 : Int32)) hx hb dX4_factor_41 (by decide) ?_
          refine lv_icmp_gt (tgt := 73) hx hb dX4_factor_43 (by decide) (fun c43_13 => ?_) (fun c43_13 => ?_)
          · have hres := zif_pos c43_13 hres
            refine lv_iload_n hx hb dX4_factor_73 rfl (lv_at hl 1 rfl) ?_
            exact zreti C0 hH dX4_factor_74 (zfst hres) (zsnd hres)
          · have hres := zif_neg c43_13 hres
            refine lv_bipush (v := (10 : Int32)) hx hb dX4_factor_46 (by decide) ?_
            refine lv_iload_n hx hb dX4_factor_48 rfl (lv_at hl 1 rfl) ?_
            refine lv_imul hx hb dX4_factor_49 ?_
            refine lv_aload_n hx hb dX4_factor_50 rfl (lv_at hl 0 rfl) ?_
            refine zgI C0 hH zK4 3 (by decide) ha0.is rfl kF_X4_61 dX4_factor_51 ?_
            refine lv_iadd hx hb dX4_factor_54 ?_
            refine lv_bipush (v := (48 : Int32)) hx hb dX4_factor_55 (by decide) ?_
            refine lv_isub hx hb dX4_factor_57 ?_
            refine lv_istore_n (lv' := [(3, _), (0, _), (4, _)]) hx hb dX4_factor_58 rfl hl (by decide) rfl (fun ls hl => ?_)
            refine lv_aload_n hx hb dX4_factor_59 rfl (lv_at hl 1 rfl) ?_
            refine lv_aload_n hx hb dX4_factor_60 rfl (lv_at hl 1 rfl) ?_
            refine zgI C0 hH zK4 3 (by decide) ha0.is rfl kF_X4_61 dX4_factor_61 ?_
            refine zcv (zrunV C0 hH (c_X4_pass l D cy ad _ _ ha0 _) kM_X4_67 zK4 kq_X4_pass ha0.is rfl hl.1 rfl rfl rfl ⟨by dsimp only; omega, by dsimp only; omega⟩ (Nat.le_of_ble_eq_true rfl) dX4_factor_64) hH (fun H locs hH => ?_)
            refine ziinc (lv' := [(4, _), (3, _), (0, _)]) (k := 2) hx hb (1 : Int32) (by decide) dX4_factor_67 hl rfl (by decide) rfl (fun ls hl => ?_)
            refine lv_goto (tgt := 22) hx hb dX4_factor_70 (by decide) ?_
            exact ih22 _ _ _ _ _ _ (by first | exact zCt.start (by decide) (by decide) | exact zCt.step (m := 3) hct (by clear hres; grind [f_X5_within, f_X2_has]) (by decide)) hH (lv_sub hl [2, 1, 0] rfl) hres
  have J172 : ∀ (v3 : Int32) (s0 : Int32) (mm : zM) (H : Heap) (locs : List Loc) (ls : Array Slot), zH D lyC cy ad s.heap mm H locs → lv_has ls 5 [(3, .int v3)] → f_X4_factor_172 Fsum Ffac a0 p1 v3 s0 mm = res → W p l e { frames := fr + 3, cells := 0, slots := 0, locals := lo + 120 } s m args below meth c H locs 0 0 (MQ below (zQi D lyC cy ad res.1 res.2) args s 0 0 (zA lyC ad)) (F0 m 172 ls [.int s0, .ref (ad a0)]) := by
    intro v3 s0 mm H locs ls hH hl hres
    refine zcv (zrunV C0 hH (c_X4_pass l D cy ad _ _ ha0 _) kM_X4_67 zK4 kq_X4_pass ha0.is rfl hl.1 rfl rfl rfl ⟨by dsimp only; omega, by dsimp only; omega⟩ (Nat.le_of_ble_eq_true rfl) dX4_factor_172) hH (fun H locs hH => ?_)
    refine lv_iload_n hx hb dX4_factor_175 rfl (lv_at hl 0 rfl) ?_
    exact zreti C0 hH dX4_factor_176 (zfst hres) (zsnd hres)
  have J158 : ∀ (v2 : Int32) (v3 : Int32) (mm : zM) (H : Heap) (locs : List Loc) (ls : Array Slot), zH D lyC cy ad s.heap mm H locs → lv_has ls 5 [(0, .ref (ad a0)), (2, .int v2), (3, .int v3)] → f_X4_factor_158 Fsum Ffac a0 p1 v2 v3 mm = res → W p l e { frames := fr + 3, cells := 0, slots := 0, locals := lo + 120 } s m args below meth c H locs 0 0 (MQ below (zQi D lyC cy ad res.1 res.2) args s 0 0 (zA lyC ad)) (F0 m 158 ls []) := by
    intro v2 v3 mm H locs ls hH hl hres
    refine lv_aload_n hx hb dX4_factor_158 rfl (lv_at hl 0 rfl) ?_
    refine lv_iload_n hx hb dX4_factor_159 rfl (lv_at hl 1 rfl) ?_
    refine lv_bipush (v := (91 : Int32)) hx hb dX4_factor_160 (by decide) ?_
    refine lv_icmp_ne (tgt := 170) hx hb dX4_factor_162 (by decide) (fun c162_29 => ?_) (fun c162_29 => ?_)
    · have hres := zif_neg c162_29 hres
      refine lv_bipush (v := (41 : Int32)) hx hb dX4_factor_170 (by decide) ?_
      exact J172 _ _ _ _ _ _ hH (lv_sub hl [2] rfl) hres
    · have hres := zif_pos c162_29 hres
      refine lv_bipush (v := (93 : Int32)) hx hb dX4_factor_165 (by decide) ?_
      refine lv_goto (tgt := 172) hx hb dX4_factor_167 (by decide) ?_
      exact J172 _ _ _ _ _ _ hH (lv_sub hl [2] rfl) hres
  have J93 : ∀ (v2 : Int32) (mm : zM) (H : Heap) (locs : List Loc) (ls : Array Slot), zH D lyC cy ad s.heap mm H locs → lv_has ls 5 [(0, .ref (ad a0)), (1, .int p1), (2, .int v2)] → f_X4_factor_93 Fsum Ffac a0 p1 v2 mm = res → W p l e { frames := fr + 3, cells := 0, slots := 0, locals := lo + 120 } s m args below meth c H locs 0 0 (MQ below (zQi D lyC cy ad res.1 res.2) args s 0 0 (zA lyC ad)) (F0 m 93 ls []) := by
    intro v2 mm H locs ls hH hl hres
    refine lv_iload_n hx hb dX4_factor_93 rfl (lv_at hl 1 rfl) ?_
    refine lv_iconst (v := (5 : Int32)) hx hb dX4_factor_94 (by decide) ?_
    refine lv_icmp_lt (tgt := 106) hx hb dX4_factor_95 (by decide) (fun c95_16 => ?_) (fun c95_16 => ?_)
    · have hres := zif_pos c95_16 hres
      refine lv_aload_n hx hb dX4_factor_106 rfl (lv_at hl 0 rfl) ?_
      refine lv_iload_n hx hb dX4_factor_107 rfl (lv_at hl 2 rfl) ?_
      refine zcv (zrunV C0 hH (c_X4_pass l D cy ad _ _ ha0 _) kM_X4_67 zK4 kq_X4_pass ha0.is rfl hl.1 rfl rfl rfl ⟨by dsimp only; omega, by dsimp only; omega⟩ (Nat.le_of_ble_eq_true rfl) dX4_factor_108) hH (fun H locs hH => ?_)
      refine lv_iload_n hx hb dX4_factor_111 rfl (lv_at hl 2 rfl) ?_
      refine lv_bipush (v := (45 : Int32)) hx hb dX4_factor_112 (by decide) ?_
      refine lv_icmp_ne (tgt := 126) hx hb dX4_factor_114 (by decide) (fun c114_18 => ?_) (fun c114_18 => ?_)
      · have hres := zif_neg c114_18 hres
        refine lv_aload_n hx hb dX4_factor_126 rfl (lv_at hl 0 rfl) ?_
        refine lv_iload_n hx hb dX4_factor_127 rfl (lv_at hl 1 rfl) ?_
        refine lv_iconst (v := (1 : Int32)) hx hb dX4_factor_128 (by decide) ?_
        refine lv_iadd hx hb dX4_factor_129 ?_
        refine zci (zrunV C0 hH (hsum _ _ ha0 _ (by exact ⟨by assumption, rfl⟩)) kM_X4_28 zK4 kq_X4_sum ha0.is rfl hl.1 rfl rfl rfl ⟨by dsimp only; omega, by dsimp only; omega⟩ (Nat.le_of_ble_eq_true rfl) dX4_factor_130) hH (fun H locs hH => ?_)
        refine lv_istore_n (lv' := [(3, _), (0, _), (1, _), (2, _)]) hx hb dX4_factor_133 rfl hl (by decide) rfl (fun ls hl => ?_)
        refine lv_iload_n hx hb dX4_factor_134 rfl (lv_at hl 3 rfl) ?_
        refine lv_bipush (v := (91 : Int32)) hx hb dX4_factor_135 (by decide) ?_
        refine lv_icmp_ne (tgt := 158) hx hb dX4_factor_137 (by decide) (fun c137_21 => ?_) (fun c137_21 => ?_)
        · have hres := zif_neg c137_21 hres
          exact J158 _ _ _ _ _ _ hH (lv_sub hl [1, 3, 0] rfl) hres
        · have hres := zif_pos c137_21 hres
          refine lv_aload_n hx hb dX4_factor_140 rfl (lv_at hl 1 rfl) ?_
          refine lv_bipush (v := (44 : Int32)) hx hb dX4_factor_141 (by decide) ?_
          refine zcv (zrunV C0 hH (c_X4_pass l D cy ad _ _ ha0 _) kM_X4_67 zK4 kq_X4_pass ha0.is rfl hl.1 rfl rfl rfl ⟨by dsimp only; omega, by dsimp only; omega⟩ (Nat.le_of_ble_eq_true rfl) dX4_factor_143) hH (fun H locs hH => ?_)
          refine lv_iload_n hx hb dX4_factor_146 rfl (lv_at hl 0 rfl) ?_
          refine lv_aload_n hx hb dX4_factor_147 rfl (lv_at hl 1 rfl) ?_
          refine lv_iload_n hx hb dX4_factor_148 rfl (lv_at hl 2 rfl) ?_
          refine lv_iconst (v := (1 : Int32)) hx hb dX4_factor_149 (by decide) ?_
          refine lv_iadd hx hb dX4_factor_150 ?_
          refine zci (zrunV C0 hH (hsum _ _ ha0 _ (by exact ⟨by assumption, rfl⟩)) kM_X4_28 zK4 kq_X4_sum ha0.is rfl hl.1 rfl rfl rfl ⟨by dsimp only; omega, by dsimp only; omega⟩ (Nat.le_of_ble_eq_true rfl) dX4_factor_151) hH (fun H locs hH => ?_)
          refine zmax C0 hl.1 kM_X4_74 (by dsimp only; omega) (by simp [Value.category]; try omega) dX4_factor_154 ?_
          refine lv_istore_n (lv' := [(3, _), (0, _), (1, _), (2, _)]) hx hb dX4_factor_157 rfl hl (by decide) rfl (fun ls hl => ?_)
          exact J158 _ _ _ _ _ _ hH (lv_sub hl [1, 3, 0] rfl) hres
      · have hres := zif_pos c114_18 hres
        refine lv_aload_n hx hb dX4_factor_117 rfl (lv_at hl 0 rfl) ?_
        refine lv_iload_n hx hb dX4_factor_118 rfl (lv_at hl 1 rfl) ?_
        refine lv_iconst (v := (1 : Int32)) hx hb dX4_factor_119 (by decide) ?_
        refine lv_iadd hx hb dX4_factor_120 ?_
        refine zci (zrunV C0 hH (hfac _ _ ha0 _ (by exact ⟨by assumption, rfl⟩)) kM_X4_71 zK4 kq_X4_factor ha0.is rfl hl.1 rfl rfl rfl ⟨by dsimp only; omega, by dsimp only; omega⟩ (Nat.le_of_ble_eq_true rfl) dX4_factor_121) hH (fun H locs hH => ?_)
        refine lv_ineg hx hb dX4_factor_124 ?_
        exact zreti C0 hH dX4_factor_125 (zfst hres) (zsnd hres)
    · have hres := zif_neg c95_16 hres
      refine lv_aload_n hx hb dX4_factor_98 rfl (lv_at hl 0 rfl) ?_
      refine lv_bipush (v := (-2 : Int32)) hx hb dX4_factor_99 (by decide) ?_
      refine zcv (zrunV C0 hH (c_X4_pass l D cy ad _ _ ha0 _) kM_X4_67 zK4 kq_X4_pass ha0.is rfl hl.1 rfl rfl rfl ⟨by dsimp only; omega, by dsimp only; omega⟩ (Nat.le_of_ble_eq_true rfl) dX4_factor_101) hH (fun H locs hH => ?_)
      refine lv_iconst (v := (0 : Int32)) hx hb dX4_factor_104 (by decide) ?_
      exact zreti C0 hH dX4_factor_105 (zfst hres) (zsnd hres)
  have J197 : ∀ (v3 : Int32) (s0 : Int32) (mm : zM) (H : Heap) (locs : List Loc) (ls : Array Slot), zH D lyC cy ad s.heap mm H locs → lv_has ls 5 [(3, .int v3)] → f_X4_factor_197 Fsum Ffac a0 p1 v3 s0 mm = res → W p l e { frames := fr + 3, cells := 0, slots := 0, locals := lo + 120 } s m args below meth c H locs 0 0 (MQ below (zQi D lyC cy ad res.1 res.2) args s 0 0 (zA lyC ad)) (F0 m 197 ls [.int s0, .ref (ad a0)]) := by
    intro v3 s0 mm H locs ls hH hl hres
    refine zcv (zrunV C0 hH (c_X4_pass l D cy ad _ _ ha0 _) kM_X4_67 zK4 kq_X4_pass ha0.is rfl hl.1 rfl rfl rfl ⟨by dsimp only; omega, by dsimp only; omega⟩ (Nat.le_of_ble_eq_true rfl) dX4_factor_197) hH (fun H locs hH => ?_)
    refine lv_iload_n hx hb dX4_factor_200 rfl (lv_at hl 0 rfl) ?_
    exact zreti C0 hH dX4_factor_201 (zfst hres) (zsnd hres)
  have J75 : ∀ (v2 : Int32) (mm : zM) (H : Heap) (locs : List Loc) (ls : Array Slot), zH D lyC cy ad s.heap mm H locs → lv_has ls 5 [(0, .ref (ad a0)), (1, .int p1), (2, .int v2)] → f_X4_factor_75 Fsum Ffac a0 p1 v2 mm = res → W p l e { frames := fr + 3, cells := 0, slots := 0, locals := lo + 120 } s m args below meth c H locs 0 0 (MQ below (zQi D lyC cy ad res.1 res.2) args s 0 0 (zA lyC ad)) (F0 m 75 ls []) := by
    intro v2 mm H locs ls hH hl hres
    refine lv_iload_n hx hb dX4_factor_75 rfl (lv_at hl 2 rfl) ?_
    refine lv_bipush (v := (45 : Int32)) hx hb dX4_factor_76 (by decide) ?_
    refine lv_icmp_eq (tgt := 93) hx hb dX4_factor_78 (by decide) (fun c78_4 => ?_) (fun c78_4 => ?_)
    · have hres := zif_pos c78_4 hres
      exact J93 _ _ _ _ _ hH (lv_sub hl [0, 1, 2] rfl) hres
    · have hres := zif_neg c78_4 hres
      refine lv_iload_n hx hb dX4_factor_81 rfl (lv_at hl 2 rfl) ?_
      refine lv_bipush (v := (40 : Int32)) hx hb dX4_factor_82 (by decide) ?_
      refine lv_icmp_eq (tgt := 93) hx hb dX4_factor_84 (by decide) (fun c84_5 => ?_) (fun c84_5 => ?_)
      · have hres := zif_pos c84_5 hres
        exact J93 _ _ _ _ _ hH (lv_sub hl [0, 1, 2] rfl) hres
      · have hres := zif_neg c84_5 hres
        refine lv_iload_n hx hb dX4_factor_87 rfl (lv_at hl 2 rfl) ?_
        refine lv_bipush (v := (91 : Int32)) hx hb dX4_factor_88 (by decide) ?_
        refine lv_icmp_ne (tgt := 177) hx hb dX4_factor_90 (by decide) (fun c90_6 => ?_) (fun c90_6 => ?_)
        · have hres := zif_neg c90_6 hres
          refine lv_aload_n hx hb dX4_factor_177 rfl (lv_at hl 0 rfl) ?_
          refine lv_iload_n hx hb dX4_factor_178 rfl (lv_at hl 2 rfl) ?_
          refine zci (zrunV C0 hH (c_X4_named l D cy ad _ _ ha0 _) kM_X4_80 zK4 kq_X4_named ha0.is rfl hl.1 rfl rfl rfl ⟨by dsimp only; omega, by dsimp only; omega⟩ (Nat.le_of_ble_eq_true rfl) dX4_factor_179) hH (fun H locs hH => ?_)
          refine lv_istore_n (lv' := [(3, _), (0, _), (1, _), (2, _)]) hx hb dX4_factor_182 rfl hl (by decide) rfl (fun ls hl => ?_)
          refine lv_aload_n hx hb dX4_factor_183 rfl (lv_at hl 1 rfl) ?_
          refine lv_iload_n hx hb dX4_factor_184 rfl (lv_at hl 3 rfl) ?_
          refine zcz (zrunS C0 hH (c_X4_isName l D cy ad _ _) kM_X4_83 kq_X4_isName rfl hl.1 rfl rfl rfl ⟨by dsimp only; omega, by dsimp only; omega⟩ (Nat.le_of_ble_eq_true rfl) dX4_factor_185) hH (fun H locs hH h01_8 => ?_)
          refine lv_if_eq (tgt := 195) hx hb dX4_factor_188 (by decide) (fun c188_10 => ?_) (fun c188_10 => ?_)
          · have hres := zif_pos c188_10 hres
            refine lv_bipush (v := (-2 : Int32)) hx hb dX4_factor_195 (by decide) ?_
            exact J197 _ _ _ _ _ _ hH (lv_sub hl [0] rfl) hres
          · have hres := zif_neg c188_10 hres
            refine lv_iload_n hx hb dX4_factor_191 rfl (lv_at hl 3 rfl) ?_
            refine lv_goto (tgt := 197) hx hb dX4_factor_192 (by decide) ?_
            exact J197 _ _ _ _ _ _ hH (lv_sub hl [0] rfl) hres
        · have hres := zif_pos c90_6 hres
          exact J93 _ _ _ _ _ hH (lv_sub hl [0, 1, 2] rfl) hres
  refine lv_aload_n hx hb dX4_factor_0 rfl (lv_at hl 0 rfl) ?_
  refine zgI C0 hH zK4 3 (by decide) ha0.is rfl kF_X4_61 dX4_factor_1 ?_
  refine lv_istore_n (lv' := [(2, _), (0, _), (1, _)]) hx hb dX4_factor_4 rfl hl (by decide) rfl (fun ls hl => ?_)
  refine lv_iconst (v := (0 : Int32)) hx hb dX4_factor_5 (by decide) ?_
  refine lv_istore_n (lv' := [(3, _), (2, _), (0, _), (1, _)]) hx hb dX4_factor_6 rfl hl (by decide) rfl (fun ls hl => ?_)
  refine lv_iload_n hx hb dX4_factor_7 rfl (lv_at hl 1 rfl) ?_
  refine lv_bipush (v := (48 : Int32)) hx hb dX4_factor_8 (by decide) ?_
  refine lv_icmp_lt (tgt := 75) hx hb dX4_factor_10 (by decide) (fun c10_2 => ?_) (fun c10_2 => ?_)
  · have hres := zif_pos c10_2 hres
    exact J75 _ _ _ _ _ hH (lv_sub hl [2, 3, 1] rfl) hres
  · have hres := zif_neg c10_2 hres
    refine lv_iload_n hx hb dX4_factor_13 rfl (lv_at hl 1 rfl) ?_
    refine lv_bipush (v := (57 : Int32)) hx hb dX4_factor_14 (by decide) ?_
    refine lv_icmp_gt (tgt := 75) hx hb dX4_factor_16 (by decide) (fun c16_3 => ?_) (fun c16_3 => ?_)
    · have hres := zif_pos c16_3 hres
      exact J75 _ _ _ _ _ hH (lv_sub hl [2, 3, 1] rfl) hres
    · have hres := zif_neg c16_3 hres
      refine lv_iconst (v := (0 : Int32)) hx hb dX4_factor_19 (by decide) ?_
      refine lv_istore (lv' := [(4, _), (3, _), (2, _), (0, _), (1, _)]) hx hb dX4_factor_20 hl (by decide) rfl (fun ls hl => ?_)
      exact L22 _ _ _ _ _ _ _ (by first | exact zCt.start (by decide) (by decide) | exact zCt.step (m := 3) hct (by clear hres; grind [f_X5_within, f_X2_has]) (by decide)) hH (lv_sub hl [3, 1, 0] rfl) hres
set_option maxRecDepth 100000 in
set_option maxHeartbeats 4000000 in
theorem c_X4_productG (fr lo : Nat) (Ffac : Nat → Int32 → zM → Int32 × zM) (l : Launch) (D : va_G) (cy : Nat → ClassId) (ad : Nat → Nat) (M : zM) (a0 : Nat) (ha0 : zTxt a0) (p1 : Int32) (hfac : ∀ (M : zM) (a0 : Nat) (ha0 : zTxt a0) (q : Int32), q = p1 → Met l yX4_factor (Cond.code yX4_factor cX4_factor 5 (some .int) :: zG) ({ frames := fr, cells := 0, slots := 0, locals := lo }) (zP D lyC cy ad [.ref (ad a0), .int q] M) (zQi D lyC cy ad (Ffac a0 q M).1 (Ffac a0 q M).2) 0 0 (zA lyC ad)) : Met l yX4_product (Cond.code yX4_product cX4_product 6 (some .int) :: zG) ({ frames := fr + 1, cells := 0, slots := 0, locals := lo + 40 }) (zP D lyC cy ad [.ref (ad a0), .int p1] M) (zQi D lyC cy ad (f_X4_product Ffac a0 p1 M).1 (f_X4_product Ffac a0 p1 M).2) 0 0 (zA lyC ad) := by
  generalize hres : (f_X4_product Ffac a0 p1 M) = res
  refine zMet (by decide) (Nat.le_of_ble_eq_true rfl) ?_
  intro p e s m args below meth c ls C0 hH hl
  obtain ⟨⟨hx, hb, hml, hown, hts⟩, -⟩ := id C0
  have hz : ∀ w ∈ zG, w.before args s = true := fun w h => hts w (List.mem_cons_of_mem _ h)
  have hl : lv_has ls 6 [(0, .ref (ad a0)), (1, .int p1)] := hl
  have L8 : ∀ (n8 : Nat), ∀ (v2 : Int32) (v3 : Int32) (mm : zM) (H : Heap) (locs : List Loc) (ls : Array Slot), (zCt 60 n8 v3) → zH D lyC cy ad s.heap mm H locs → lv_has ls 6 [(0, .ref (ad a0)), (1, .int p1), (2, .int v2), (3, .int v3)] → f_X4_product_8 Ffac a0 p1 n8 v2 v3 mm = res → W p l e { frames := fr + 1, cells := 0, slots := 0, locals := lo + 40 } s m args below meth c H locs 0 0 (MQ below (zQi D lyC cy ad res.1 res.2) args s 0 0 (zA lyC ad)) (F0 m 8 ls []) := by
    intro n8
    induction n8 with
    | zero =>
      intro v2 v3 mm H locs ls hct hH hl hres
      exfalso; exact hct.zero
    | succ n8 ih8 =>
      have J32 : ∀ (v2 : Int32) (v3 : Int32) (mm : zM) (H : Heap) (locs : List Loc) (ls : Array Slot), (zCt 60 (n8 + 1) v3) → (v3 < 60) → zH D lyC cy ad s.heap mm H locs → lv_has ls 6 [(0, .ref (ad a0)), (1, .int p1), (2, .int v2), (3, .int v3)] → f_X4_product_32 Ffac a0 p1 (fun wv2 wv3 wmm => f_X4_product_8 Ffac a0 p1 n8 wv2 wv3 wmm) v2 v3 mm = res → W p l e { frames := fr + 1, cells := 0, slots := 0, locals := lo + 40 } s m args below meth c H locs 0 0 (MQ below (zQi D lyC cy ad res.1 res.2) args s 0 0 (zA lyC ad)) (F0 m 32 ls []) := by
        intro v2 v3 mm H locs ls hct hv hH hl hres
        refine lv_aload_n hx hb dX4_product_32 rfl (lv_at hl 0 rfl) ?_
        refine zgI C0 hH zK4 3 (by decide) ha0.is rfl kF_X4_61 dX4_product_33 ?_
        refine lv_istore (lv' := [(4, _), (0, _), (1, _), (2, _), (3, _)]) hx hb dX4_product_36 hl (by decide) rfl (fun ls hl => ?_)
        refine lv_aload_n hx hb dX4_product_38 rfl (lv_at hl 1 rfl) ?_
        refine lv_iload hx hb dX4_product_39 (lv_at hl 0 rfl) ?_
        refine zcv (zrunV C0 hH (c_X4_pass l D cy ad _ _ ha0 _) kM_X4_67 zK4 kq_X4_pass ha0.is rfl hl.1 rfl rfl rfl ⟨by dsimp only; omega, by dsimp only; omega⟩ (Nat.le_of_ble_eq_true rfl) dX4_product_41) hH (fun H locs hH => ?_)
        refine lv_aload_n hx hb dX4_product_44 rfl (lv_at hl 1 rfl) ?_
        refine lv_iload_n hx hb dX4_product_45 rfl (lv_at hl 2 rfl) ?_
        refine zci (zrunV C0 hH (hfac _ _ ha0 _ (by exact rfl)) kM_X4_71 zK4 kq_X4_factor ha0.is rfl hl.1 rfl rfl rfl ⟨by dsimp only; omega, by dsimp only; omega⟩ (Nat.le_of_ble_eq_true rfl) dX4_product_46) hH (fun H locs hH => ?_)
        refine lv_istore (lv' := [(5, _), (4, _), (0, _), (1, _), (2, _), (3, _)]) hx hb dX4_product_49 hl (by decide) rfl (fun ls hl => ?_)
        refine lv_iload hx hb dX4_product_51 (lv_at hl 1 rfl) ?_
        refine lv_bipush (v := (42 : Int32)) hx hb dX4_product_53 (by decide) ?_
        refine lv_icmp_ne (tgt := 66) hx hb dX4_product_55 (by decide) (fun c55_10 => ?_) (fun c55_10 => ?_)
        · have hres := zif_neg c55_10 hres
          refine lv_iload hx hb dX4_product_66 (lv_at hl 0 rfl) ?_
          refine lv_if_ne (tgt := 75) hx hb dX4_product_68 (by decide) (fun c68_11 => ?_) (fun c68_11 => ?_)
          · have hres := zif_neg c68_11 hres
            refine lv_iload_n hx hb dX4_product_75 rfl (lv_at hl 4 rfl) ?_
            refine lv_iload hx hb dX4_product_76 (lv_at hl 0 rfl) ?_
            refine lv_idiv hx hb dX4_product_78 (by first | assumption | decide) ?_
            refine lv_istore_n (lv' := [(2, _), (5, _), (4, _), (0, _), (1, _), (3, _)]) hx hb dX4_product_79 rfl hl (by decide) rfl (fun ls hl => ?_)
            refine ziinc (lv' := [(3, _), (2, _), (5, _), (4, _), (0, _), (1, _)]) (k := 5) hx hb (1 : Int32) (by decide) dX4_product_80 hl rfl (by decide) rfl (fun ls hl => ?_)
            refine lv_goto (tgt := 8) hx hb dX4_product_83 (by decide) ?_
            exact ih8 _ _ _ _ _ _ (by first | exact zCt.start (by decide) (by decide) | exact zCt.step (m := 60) hct (by clear hres; grind [f_X5_within, f_X2_has]) (by decide)) hH (lv_sub hl [4, 5, 1, 0] rfl) hres
          · have hres := zif_pos c68_11 hres
            refine lv_iconst (v := (0 : Int32)) hx hb dX4_product_71 (by decide) ?_
            refine lv_goto (tgt := 79) hx hb dX4_product_72 (by decide) ?_
            refine lv_istore_n (lv' := [(2, _), (5, _), (4, _), (0, _), (1, _), (3, _)]) hx hb dX4_product_79 rfl hl (by decide) rfl (fun ls hl => ?_)
            refine ziinc (lv' := [(3, _), (2, _), (5, _), (4, _), (0, _), (1, _)]) (k := 5) hx hb (1 : Int32) (by decide) dX4_product_80 hl rfl (by decide) rfl (fun ls hl => ?_)
            refine lv_goto (tgt := 8) hx hb dX4_product_83 (by decide) ?_
            exact ih8 _ _ _ _ _ _ (by first | exact zCt.start (by decide) (by decide) | exact zCt.step (m := 60) hct (by clear hres; grind [f_X5_within, f_X2_has]) (by decide)) hH (lv_sub hl [4, 5, 1, 0] rfl) hres
        · have hres := zif_pos c55_10 hres
          refine lv_iload_n hx hb dX4_product_58 rfl (lv_at hl 4 rfl) ?_
          refine lv_iload hx hb dX4_product_59 (lv_at hl 0 rfl) ?_
          refine lv_imul hx hb dX4_product_61 ?_
          refine lv_istore_n (lv' := [(2, _), (5, _), (4, _), (0, _), (1, _), (3, _)]) hx hb dX4_product_62 rfl hl (by decide) rfl (fun ls hl => ?_)
          refine lv_goto (tgt := 80) hx hb dX4_product_63 (by decide) ?_
          refine ziinc (lv' := [(3, _), (2, _), (5, _), (4, _), (0, _), (1, _)]) (k := 5) hx hb (1 : Int32) (by decide) dX4_product_80 hl rfl (by decide) rfl (fun ls hl => ?_)
          refine lv_goto (tgt := 8) hx hb dX4_product_83 (by decide) ?_
          exact ih8 _ _ _ _ _ _ (by first | exact zCt.start (by decide) (by decide) | exact zCt.step (m := 60) hct (by clear hres; grind [f_X5_within, f_X2_has]) (by decide)) hH (lv_sub hl [4, 5, 1, 0] rfl) hres
      intro v2 v3 mm H locs ls hct hH hl hres
      refine lv_iload_n hx hb dX4_product_8 rfl (lv_at hl 3 rfl) ?_
      refine lv_bipush (v := (60 : Int32)) hx hb dX4_product_9 (by decide) ?_
      refine lv_icmp_ge (tgt := 86) hx hb dX4_product_11 (by decide) (fun c11_3 => ?_) (fun c11_3 => ?_)
      · have hres := zif_pos c11_3 hres
        refine lv_iload_n hx hb dX4_product_86 rfl (lv_at hl 2 rfl) ?_
        exact zreti C0 hH dX4_product_87 (zfst hres) (zsnd hres)
      · have hres := zif_neg c11_3 hres
        refine lv_aload_n hx hb dX4_product_14 rfl (lv_at hl 0 rfl) ?_
        refine zgI C0 hH zK4 3 (by decide) ha0.is rfl kF_X4_61 dX4_product_15 ?_
        refine lv_bipush (v := (42 : Int32)) hx hb dX4_product_18 (by decide) ?_
        refine lv_icmp_eq (tgt := 32) hx hb dX4_product_20 (by decide) (fun c20_4 => ?_) (fun c20_4 => ?_)
        · have hres := zif_pos c20_4 hres
          exact J32 _ _ _ _ _ _ (by assumption) (by first | assumption | (clear hres; grind [f_X5_within, f_X2_has])) hH (lv_sub hl [0, 1, 2, 3] rfl) hres
        · have hres := zif_neg c20_4 hres
          refine lv_aload_n hx hb dX4_product_23 rfl (lv_at hl 0 rfl) ?_
          refine zgI C0 hH zK4 3 (by decide) ha0.is rfl kF_X4_61 dX4_product_24 ?_
          refine lv_bipush (v := (47 : Int32)) hx hb dX4_product_27 (by decide) ?_
          refine lv_icmp_ne (tgt := 86) hx hb dX4_product_29 (by decide) (fun c29_5 => ?_) (fun c29_5 => ?_)
          · have hres := zif_neg c29_5 hres
            refine lv_iload_n hx hb dX4_product_86 rfl (lv_at hl 2 rfl) ?_
            exact zreti C0 hH dX4_product_87 (zfst hres) (zsnd hres)
          · have hres := zif_pos c29_5 hres
            exact J32 _ _ _ _ _ _ (by assumption) (by first | assumption | (clear hres; grind [f_X5_within, f_X2_has])) hH (lv_sub hl [0, 1, 2, 3] rfl) hres
  refine lv_aload_n hx hb dX4_product_0 rfl (lv_at hl 0 rfl) ?_
  refine lv_iload_n hx hb dX4_product_1 rfl (lv_at hl 1 rfl) ?_
  refine zci (zrunV C0 hH (hfac _ _ ha0 _ (by exact rfl)) kM_X4_71 zK4 kq_X4_factor ha0.is rfl hl.1 rfl rfl rfl ⟨by dsimp only; omega, by dsimp only; omega⟩ (Nat.le_of_ble_eq_true rfl) dX4_product_2) hH (fun H locs hH => ?_)
  refine lv_istore_n (lv' := [(2, _), (0, _), (1, _)]) hx hb dX4_product_5 rfl hl (by decide) rfl (fun ls hl => ?_)
  refine lv_iconst (v := (0 : Int32)) hx hb dX4_product_6 (by decide) ?_
  refine lv_istore_n (lv' := [(3, _), (2, _), (0, _), (1, _)]) hx hb dX4_product_7 rfl hl (by decide) rfl (fun ls hl => ?_)
  exact L8 _ _ _ _ _ _ _ (by first | exact zCt.start (by decide) (by decide) | exact zCt.step (m := 60) hct (by clear hres; grind [f_X5_within, f_X2_has]) (by decide)) hH (lv_sub hl [2, 3, 1, 0] rfl) hres
set_option maxRecDepth 100000 in
set_option maxHeartbeats 4000000 in
theorem c_X4_sumG (fr lo : Nat) (Fprod : Nat → Int32 → zM → Int32 × zM) (l : Launch) (D : va_G) (cy : Nat → ClassId) (ad : Nat → Nat) (M : zM) (a0 : Nat) (ha0 : zTxt a0) (p1 : Int32) (hprod : ∀ (M : zM) (a0 : Nat) (ha0 : zTxt a0) (q : Int32), q = p1 → Met l yX4_product (Cond.code yX4_product cX4_product 6 (some .int) :: zG) ({ frames := fr, cells := 0, slots := 0, locals := lo }) (zP D lyC cy ad [.ref (ad a0), .int q] M) (zQi D lyC cy ad (Fprod a0 q M).1 (Fprod a0 q M).2) 0 0 (zA lyC ad)) : Met l yX4_sum (Cond.code yX4_sum cX4_sum 6 (some .int) :: zG) ({ frames := fr + 1, cells := 0, slots := 0, locals := lo + 40 }) (zP D lyC cy ad [.ref (ad a0), .int p1] M) (zQi D lyC cy ad (f_X4_sum Fprod a0 p1 M).1 (f_X4_sum Fprod a0 p1 M).2) 0 0 (zA lyC ad) := by
  generalize hres : (f_X4_sum Fprod a0 p1 M) = res
  refine zMet (by decide) (Nat.le_of_ble_eq_true rfl) ?_
  intro p e s m args below meth c ls C0 hH hl
  obtain ⟨⟨hx, hb, hml, hown, hts⟩, -⟩ := id C0
  have hz : ∀ w ∈ zG, w.before args s = true := fun w h => hts w (List.mem_cons_of_mem _ h)
  have hl : lv_has ls 6 [(0, .ref (ad a0)), (1, .int p1)] := hl
  have L8 : ∀ (n8 : Nat), ∀ (v2 : Int32) (v3 : Int32) (mm : zM) (H : Heap) (locs : List Loc) (ls : Array Slot), (zCt 60 n8 v3) → zH D lyC cy ad s.heap mm H locs → lv_has ls 6 [(0, .ref (ad a0)), (1, .int p1), (2, .int v2), (3, .int v3)] → f_X4_sum_8 Fprod a0 p1 n8 v2 v3 mm = res → W p l e { frames := fr + 1, cells := 0, slots := 0, locals := lo + 40 } s m args below meth c H locs 0 0 (MQ below (zQi D lyC cy ad res.1 res.2) args s 0 0 (zA lyC ad)) (F0 m 8 ls []) := by
    intro n8
    induction n8 with
    | zero =>
      intro v2 v3 mm H locs ls hct hH hl hres
      exfalso; exact hct.zero
    | succ n8 ih8 =>
      have J32 : ∀ (v2 : Int32) (v3 : Int32) (mm : zM) (H : Heap) (locs : List Loc) (ls : Array Slot), (zCt 60 (n8 + 1) v3) → (v3 < 60) → zH D lyC cy ad s.heap mm H locs → lv_has ls 6 [(0, .ref (ad a0)), (1, .int p1), (2, .int v2), (3, .int v3)] → f_X4_sum_32 Fprod a0 p1 (fun wv2 wv3 wmm => f_X4_sum_8 Fprod a0 p1 n8 wv2 wv3 wmm) v2 v3 mm = res → W p l e { frames := fr + 1, cells := 0, slots := 0, locals := lo + 40 } s m args below meth c H locs 0 0 (MQ below (zQi D lyC cy ad res.1 res.2) args s 0 0 (zA lyC ad)) (F0 m 32 ls []) := by
        intro v2 v3 mm H locs ls hct hv hH hl hres
        refine lv_aload_n hx hb dX4_sum_32 rfl (lv_at hl 0 rfl) ?_
        refine zgI C0 hH zK4 3 (by decide) ha0.is rfl kF_X4_61 dX4_sum_33 ?_
        refine lv_istore (lv' := [(4, _), (0, _), (1, _), (2, _), (3, _)]) hx hb dX4_sum_36 hl (by decide) rfl (fun ls hl => ?_)
        refine lv_aload_n hx hb dX4_sum_38 rfl (lv_at hl 1 rfl) ?_
        refine lv_iload hx hb dX4_sum_39 (lv_at hl 0 rfl) ?_
        refine zcv (zrunV C0 hH (c_X4_pass l D cy ad _ _ ha0 _) kM_X4_67 zK4 kq_X4_pass ha0.is rfl hl.1 rfl rfl rfl ⟨by dsimp only; omega, by dsimp only; omega⟩ (Nat.le_of_ble_eq_true rfl) dX4_sum_41) hH (fun H locs hH => ?_)
        refine lv_aload_n hx hb dX4_sum_44 rfl (lv_at hl 1 rfl) ?_
        refine lv_iload_n hx hb dX4_sum_45 rfl (lv_at hl 2 rfl) ?_
        refine zci (zrunV C0 hH (hprod _ _ ha0 _ (by exact rfl)) kM_X4_64 zK4 kq_X4_product ha0.is rfl hl.1 rfl rfl rfl ⟨by dsimp only; omega, by dsimp only; omega⟩ (Nat.le_of_ble_eq_true rfl) dX4_sum_46) hH (fun H locs hH => ?_)
        refine lv_istore (lv' := [(5, _), (4, _), (0, _), (1, _), (2, _), (3, _)]) hx hb dX4_sum_49 hl (by decide) rfl (fun ls hl => ?_)
        refine lv_iload hx hb dX4_sum_51 (lv_at hl 1 rfl) ?_
        refine lv_bipush (v := (43 : Int32)) hx hb dX4_sum_53 (by decide) ?_
        refine lv_icmp_ne (tgt := 65) hx hb dX4_sum_55 (by decide) (fun c55_10 => ?_) (fun c55_10 => ?_)
        · have hres := zif_neg c55_10 hres
          refine lv_iload_n hx hb dX4_sum_65 rfl (lv_at hl 4 rfl) ?_
          refine lv_iload hx hb dX4_sum_66 (lv_at hl 0 rfl) ?_
          refine lv_isub hx hb dX4_sum_68 ?_
          refine lv_istore_n (lv' := [(2, _), (5, _), (4, _), (0, _), (1, _), (3, _)]) hx hb dX4_sum_69 rfl hl (by decide) rfl (fun ls hl => ?_)
          refine ziinc (lv' := [(3, _), (2, _), (5, _), (4, _), (0, _), (1, _)]) (k := 5) hx hb (1 : Int32) (by decide) dX4_sum_70 hl rfl (by decide) rfl (fun ls hl => ?_)
          refine lv_goto (tgt := 8) hx hb dX4_sum_73 (by decide) ?_
          exact ih8 _ _ _ _ _ _ (by first | exact zCt.start (by decide) (by decide) | exact zCt.step (m := 60) hct (by clear hres; grind [f_X5_within, f_X2_has]) (by decide)) hH (lv_sub hl [4, 5, 1, 0] rfl) hres
        · have hres := zif_pos c55_10 hres
          refine lv_iload_n hx hb dX4_sum_58 rfl (lv_at hl 4 rfl) ?_
          refine lv_iload hx hb dX4_sum_59 (lv_at hl 0 rfl) ?_
          refine lv_iadd hx hb dX4_sum_61 ?_
          refine lv_goto (tgt := 69) hx hb dX4_sum_62 (by decide) ?_
          refine lv_istore_n (lv' := [(2, _), (5, _), (4, _), (0, _), (1, _), (3, _)]) hx hb dX4_sum_69 rfl hl (by decide) rfl (fun ls hl => ?_)
          refine ziinc (lv' := [(3, _), (2, _), (5, _), (4, _), (0, _), (1, _)]) (k := 5) hx hb (1 : Int32) (by decide) dX4_sum_70 hl rfl (by decide) rfl (fun ls hl => ?_)
          refine lv_goto (tgt := 8) hx hb dX4_sum_73 (by decide) ?_
          exact ih8 _ _ _ _ _ _ (by first | exact zCt.start (by decide) (by decide) | exact zCt.step (m := 60) hct (by clear hres; grind [f_X5_within, f_X2_has]) (by decide)) hH (lv_sub hl [4, 5, 1, 0] rfl) hres
      intro v2 v3 mm H locs ls hct hH hl hres
      refine lv_iload_n hx hb dX4_sum_8 rfl (lv_at hl 3 rfl) ?_
      refine lv_bipush (v := (60 : Int32)) hx hb dX4_sum_9 (by decide) ?_
      refine lv_icmp_ge (tgt := 76) hx hb dX4_sum_11 (by decide) (fun c11_3 => ?_) (fun c11_3 => ?_)
      · have hres := zif_pos c11_3 hres
        refine lv_iload_n hx hb dX4_sum_76 rfl (lv_at hl 2 rfl) ?_
        exact zreti C0 hH dX4_sum_77 (zfst hres) (zsnd hres)
      · have hres := zif_neg c11_3 hres
        refine lv_aload_n hx hb dX4_sum_14 rfl (lv_at hl 0 rfl) ?_
        refine zgI C0 hH zK4 3 (by decide) ha0.is rfl kF_X4_61 dX4_sum_15 ?_
        refine lv_bipush (v := (43 : Int32)) hx hb dX4_sum_18 (by decide) ?_
        refine lv_icmp_eq (tgt := 32) hx hb dX4_sum_20 (by decide) (fun c20_4 => ?_) (fun c20_4 => ?_)
        · have hres := zif_pos c20_4 hres
          exact J32 _ _ _ _ _ _ (by assumption) (by first | assumption | (clear hres; grind [f_X5_within, f_X2_has])) hH (lv_sub hl [0, 1, 2, 3] rfl) hres
        · have hres := zif_neg c20_4 hres
          refine lv_aload_n hx hb dX4_sum_23 rfl (lv_at hl 0 rfl) ?_
          refine zgI C0 hH zK4 3 (by decide) ha0.is rfl kF_X4_61 dX4_sum_24 ?_
          refine lv_bipush (v := (45 : Int32)) hx hb dX4_sum_27 (by decide) ?_
          refine lv_icmp_ne (tgt := 76) hx hb dX4_sum_29 (by decide) (fun c29_5 => ?_) (fun c29_5 => ?_)
          · have hres := zif_neg c29_5 hres
            refine lv_iload_n hx hb dX4_sum_76 rfl (lv_at hl 2 rfl) ?_
            exact zreti C0 hH dX4_sum_77 (zfst hres) (zsnd hres)
          · have hres := zif_pos c29_5 hres
            exact J32 _ _ _ _ _ _ (by assumption) (by first | assumption | (clear hres; grind [f_X5_within, f_X2_has])) hH (lv_sub hl [0, 1, 2, 3] rfl) hres
  refine lv_aload_n hx hb dX4_sum_0 rfl (lv_at hl 0 rfl) ?_
  refine lv_iload_n hx hb dX4_sum_1 rfl (lv_at hl 1 rfl) ?_
  refine zci (zrunV C0 hH (hprod _ _ ha0 _ (by exact rfl)) kM_X4_64 zK4 kq_X4_product ha0.is rfl hl.1 rfl rfl rfl ⟨by dsimp only; omega, by dsimp only; omega⟩ (Nat.le_of_ble_eq_true rfl) dX4_sum_2) hH (fun H locs hH => ?_)
  refine lv_istore_n (lv' := [(2, _), (0, _), (1, _)]) hx hb dX4_sum_5 rfl hl (by decide) rfl (fun ls hl => ?_)
  refine lv_iconst (v := (0 : Int32)) hx hb dX4_sum_6 (by decide) ?_
  refine lv_istore_n (lv' := [(3, _), (2, _), (0, _), (1, _)]) hx hb dX4_sum_7 rfl hl (by decide) rfl (fun ls hl => ?_)
  exact L8 _ _ _ _ _ _ _ (by first | exact zCt.start (by decide) (by decide) | exact zCt.step (m := 60) hct (by clear hres; grind [f_X5_within, f_X2_has]) (by decide)) hH (lv_sub hl [2, 3, 1, 0] rfl) hres
