set_option maxRecDepth 100000 in
set_option maxHeartbeats 4000000 in
theorem c_X6_factorG (fr lo : Nat) (o : Int32) (Fsum Ffac : zM → zM) (hFs : zPr Fsum) (hFf : zPr Ffac) (l : Launch) (D : va_G) (cy : Nat → ClassId) (ad : Nat → Nat) (M : zM) (hP : zPS 0 M) (ho : M.1 0 19 = o) (hsum : ∀ (M : zM), zPS 0 M ∧ M.1 0 19 = o + 1 ∧ ¬ o = 5 → Met l yX6_sum (Cond.code yX6_sum cX6_sum 3 none :: zG) ({ frames := fr + 4, cells := 0, slots := 0, locals := lo + 160 }) (zP D lyR cy ad [.ref (ad 0)] M) (zQv D lyR cy ad (Fsum M)) 0 0 (zA lyR ad)) (hfac : ∀ (M : zM), zPS 0 M ∧ M.1 0 19 = o + 1 ∧ ¬ o = 5 → Met l yX6_factor (Cond.code yX6_factor cX6_factor 1 none :: zG) ({ frames := fr, cells := 0, slots := 0, locals := lo }) (zP D lyR cy ad [.ref (ad 0)] M) (zQv D lyR cy ad (Ffac M)) 0 0 (zA lyR ad)) : Met l yX6_factor (Cond.code yX6_factor cX6_factor 1 none :: zG) ({ frames := fr + 5, cells := 0, slots := 0, locals := lo + 200 }) (zP D lyR cy ad [.ref (ad 0)] M) (zQv D lyR cy ad (f_X6_factor Fsum Ffac M)) 0 0 (zA lyR ad) := by
  generalize hres : (f_X6_factor Fsum Ffac M) = res
  refine zMet (by decide) (Nat.le_of_ble_eq_true rfl) ?_
  intro p e s m args below meth c ls C0 hH hl
  obtain ⟨⟨hx, hb, hml, hown, hts⟩, -⟩ := id C0
  have hz : ∀ w ∈ zG, w.before args s = true := fun w h => hts w (List.mem_cons_of_mem _ h)
  have hl : lv_has ls 1 [(0, .ref (ad 0))] := hl
  have g0 := hH.many
  refine lv_aload_n hx hb dX6_factor_0 rfl (lv_at hl 0 rfl) ?_
  refine zgI C0 hH zK6 18 (by decide) zR0 rfl kF_X6_186 dX6_factor_1 ?_
  refine lv_if_lt (tgt := 8) hx hb dX6_factor_4 (by decide) (fun c4_1 => ?_) (fun c4_1 => ?_)
  · have hres := zif_pos c4_1 hres
    refine lv_aload_n hx hb dX6_factor_8 rfl (lv_at hl 0 rfl) ?_
    refine zci (zrunV C0 hH (c_X6_byteAt l D cy ad _) kM_X6_189 zK6 kq_X6_byteAt zR0 rfl hl.1 rfl rfl rfl ⟨by dsimp only; omega, by dsimp only; omega⟩ (Nat.le_of_ble_eq_true rfl) dX6_factor_9) hH (fun H locs hH => ?_)
    refine zcz (zrunS C0 hH (c_X6_isDigit l D cy ad _ _) kM_X6_202 kq_X6_isDigit rfl hl.1 rfl rfl rfl ⟨by dsimp only; omega, by dsimp only; omega⟩ (Nat.le_of_ble_eq_true rfl) dX6_factor_12) hH (fun H locs hH h01_3 => ?_)
    refine lv_if_eq (tgt := 25) hx hb dX6_factor_15 (by decide) (fun c15_5 => ?_) (fun c15_5 => ?_)
    · have hres := zif_pos c15_5 hres
      refine lv_aload_n hx hb dX6_factor_25 rfl (lv_at hl 0 rfl) ?_
      refine zci (zrunV C0 hH (c_X6_byteAt l D cy ad _) kM_X6_189 zK6 kq_X6_byteAt zR0 rfl hl.1 rfl rfl rfl ⟨by dsimp only; omega, by dsimp only; omega⟩ (Nat.le_of_ble_eq_true rfl) dX6_factor_26) hH (fun H locs hH => ?_)
      refine zci (zrunS C0 hH (c_X6_nameOf l D cy ad _ _) kM_X6_214 kq_X6_nameOf rfl hl.1 rfl rfl rfl ⟨by dsimp only; omega, by dsimp only; omega⟩ (Nat.le_of_ble_eq_true rfl) dX6_factor_29) hH (fun H locs hH => ?_)
      refine lv_if_lt (tgt := 63) hx hb dX6_factor_32 (by decide) (fun c32_8 => ?_) (fun c32_8 => ?_)
      · have hres := zif_pos c32_8 hres
        refine lv_aload_n hx hb dX6_factor_63 rfl (lv_at hl 0 rfl) ?_
        refine lv_bipush (v := (45 : Int32)) hx hb dX6_factor_64 (by decide) ?_
        refine zcz (zrunV C0 hH (c_X6_opens l D cy ad _ _ (by decide)) kM_X6_217 zK6 kq_X6_opens zR0 rfl hl.1 rfl rfl rfl ⟨by dsimp only; omega, by dsimp only; omega⟩ (Nat.le_of_ble_eq_true rfl) dX6_factor_66) hH (fun H locs hH h01_9 => ?_)
        have o1 := l_opens (c := 45) hP (by decide)
        refine lv_if_eq (tgt := 96) hx hb dX6_factor_69 (by decide) (fun c69_11 => ?_) (fun c69_11 => ?_)
        · have hres := zif_pos c69_11 hres
          refine lv_aload_n hx hb dX6_factor_96 rfl (lv_at hl 0 rfl) ?_
          refine lv_bipush (v := (40 : Int32)) hx hb dX6_factor_97 (by decide) ?_
          refine zcz (zrunV C0 hH (c_X6_opens l D cy ad _ _ (by decide)) kM_X6_217 zK6 kq_X6_opens zR0 rfl hl.1 rfl rfl rfl ⟨by dsimp only; omega, by dsimp only; omega⟩ (Nat.le_of_ble_eq_true rfl) dX6_factor_99) hH (fun H locs hH h01_12 => ?_)
          have o2 := l_opens (c := 40) (o1.1 ‹(f_X6_opens 45 M).1 = 0›).1 (by decide)
          refine lv_if_eq (tgt := 128) hx hb dX6_factor_102 (by decide) (fun c102_14 => ?_) (fun c102_14 => ?_)
          · have hres := zif_pos c102_14 hres
            refine lv_aload_n hx hb dX6_factor_128 rfl (lv_at hl 0 rfl) ?_
            refine lv_bipush (v := (91 : Int32)) hx hb dX6_factor_129 (by decide) ?_
            refine zcz (zrunV C0 hH (c_X6_opens l D cy ad _ _ (by decide)) kM_X6_217 zK6 kq_X6_opens zR0 rfl hl.1 rfl rfl rfl ⟨by dsimp only; omega, by dsimp only; omega⟩ (Nat.le_of_ble_eq_true rfl) dX6_factor_131) hH (fun H locs hH h01_15 => ?_)
            have o3 := l_opens (c := 91) (o2.1 ‹(f_X6_opens 40 (f_X6_opens 45 M).2).1 = 0›).1 (by decide)
            refine lv_if_eq (tgt := 177) hx hb dX6_factor_134 (by decide) (fun c134_17 => ?_) (fun c134_17 => ?_)
            · have hres := zif_pos c134_17 hres
              refine lv_aload_n hx hb dX6_factor_177 rfl (lv_at hl 0 rfl) ?_
              refine zcv (zrunV C0 hH (c_X6_fails l D cy ad _) kM_X6_196 zK6 kq_X6_fails zR0 rfl hl.1 rfl rfl rfl ⟨by dsimp only; omega, by dsimp only; omega⟩ (Nat.le_of_ble_eq_true rfl) dX6_factor_178) hH (fun H locs hH => ?_)
              exact zretv C0 hH dX6_factor_181 hres
            · have hres := zif_neg c134_17 hres
              refine lv_aload_n hx hb dX6_factor_137 rfl (lv_at hl 0 rfl) ?_
              refine zcv (zrunV C0 hH (hsum _ (by exact ⟨(o3.2 ‹¬ (f_X6_opens 91 (f_X6_opens 40 (f_X6_opens 45 M).2).2).1 = 0›).1.weak (by decide), (o3.2 ‹¬ (f_X6_opens 91 (f_X6_opens 40 (f_X6_opens 45 M).2).2).1 = 0›).2.1.trans (by rw [(o2.1 ‹(f_X6_opens 40 (f_X6_opens 45 M).2).1 = 0›).2.2.1, (o1.1 ‹(f_X6_opens 45 M).1 = 0›).2.2.1, ho]), fun q => (o3.2 ‹¬ (f_X6_opens 91 (f_X6_opens 40 (f_X6_opens 45 M).2).2).1 = 0›).2.2.1 ((o2.1 ‹(f_X6_opens 40 (f_X6_opens 45 M).2).1 = 0›).2.2.1.trans ((o1.1 ‹(f_X6_opens 45 M).1 = 0›).2.2.1.trans (ho.trans q)))⟩)) kM_X6_223 zK6 kq_X6_sum zR0 rfl hl.1 rfl rfl rfl ⟨by dsimp only; omega, by dsimp only; omega⟩ (Nat.le_of_ble_eq_true rfl) dX6_factor_138) hH (fun H locs hH => ?_)
              have a1 := hFs _ (0 + 1) (by decide) (o3.2 ‹¬ (f_X6_opens 91 (f_X6_opens 40 (f_X6_opens 45 M).2).2).1 = 0›).1
              refine lv_aload_n hx hb dX6_factor_141 rfl (lv_at hl 0 rfl) ?_
              refine lv_bipush (v := (44 : Int32)) hx hb dX6_factor_142 (by decide) ?_
              refine zcv (zrunV C0 hH (c_X6_must l D cy ad _ _ (by decide)) kM_X6_226 zK6 kq_X6_must zR0 rfl hl.1 rfl rfl rfl ⟨by dsimp only; omega, by dsimp only; omega⟩ (Nat.le_of_ble_eq_true rfl) dX6_factor_144) hH (fun H locs hH => ?_)
              have a2 := l_must (c := 44) a1.1 (by decide)
              refine lv_aload_n hx hb dX6_factor_147 rfl (lv_at hl 0 rfl) ?_
              refine zcv (zrunV C0 hH (hsum _ (by exact ⟨a2.1.weak (by decide), a2.2.2.1.trans (a1.2.2.1.trans ((o3.2 ‹¬ (f_X6_opens 91 (f_X6_opens 40 (f_X6_opens 45 M).2).2).1 = 0›).2.1.trans (by rw [(o2.1 ‹(f_X6_opens 40 (f_X6_opens 45 M).2).1 = 0›).2.2.1, (o1.1 ‹(f_X6_opens 45 M).1 = 0›).2.2.1, ho]))), fun q => (o3.2 ‹¬ (f_X6_opens 91 (f_X6_opens 40 (f_X6_opens 45 M).2).2).1 = 0›).2.2.1 ((o2.1 ‹(f_X6_opens 40 (f_X6_opens 45 M).2).1 = 0›).2.2.1.trans ((o1.1 ‹(f_X6_opens 45 M).1 = 0›).2.2.1.trans (ho.trans q)))⟩)) kM_X6_223 zK6 kq_X6_sum zR0 rfl hl.1 rfl rfl rfl ⟨by dsimp only; omega, by dsimp only; omega⟩ (Nat.le_of_ble_eq_true rfl) dX6_factor_148) hH (fun H locs hH => ?_)
              have a3 := hFs _ (0 + 1) (by decide) a2.1
              refine lv_aload_n hx hb dX6_factor_151 rfl (lv_at hl 0 rfl) ?_
              refine lv_bipush (v := (93 : Int32)) hx hb dX6_factor_152 (by decide) ?_
              refine zcv (zrunV C0 hH (c_X6_must l D cy ad _ _ (by decide)) kM_X6_226 zK6 kq_X6_must zR0 rfl hl.1 rfl rfl rfl ⟨by dsimp only; omega, by dsimp only; omega⟩ (Nat.le_of_ble_eq_true rfl) dX6_factor_154) hH (fun H locs hH => ?_)
              have a4 := l_must (c := 93) a3.1 (by decide)
              refine lv_aload_n hx hb dX6_factor_157 rfl (lv_at hl 0 rfl) ?_
              refine lv_sipush (v := (2005 : Int32)) hx hb dX6_factor_158 (by decide) ?_
              refine zcv (zrunV C0 hH (c_X6_emit l D cy ad _ _ (by exact pe1 a4.1)) kM_X6_205 zK6 kq_X6_emit zR0 rfl hl.1 rfl rfl rfl ⟨by dsimp only; omega, by dsimp only; omega⟩ (Nat.le_of_ble_eq_true rfl) dX6_factor_161) hH (fun H locs hH => ?_)
              refine lv_aload_n hx hb dX6_factor_164 rfl (lv_at hl 0 rfl) ?_
              refine lv_dup hx hb dX6_factor_165 rfl ?_
              refine zgI C0 hH zK6 19 (by decide) zR0 rfl kF_X6_208 dX6_factor_166 ?_
              refine lv_iconst (v := (1 : Int32)) hx hb dX6_factor_169 (by decide) ?_
              refine lv_isub hx hb dX6_factor_170 ?_
              refine zp C0 hH zK6 19 (by decide) zR0 rfl rfl zOk_int zcn kF_X6_208 dX6_factor_171 (fun H locs hH => ?_)
              refine lv_goto (tgt := 181) hx hb dX6_factor_174 (by decide) ?_
              exact zretv C0 hH dX6_factor_181 hres
          · have hres := zif_neg c102_14 hres
            refine lv_aload_n hx hb dX6_factor_105 rfl (lv_at hl 0 rfl) ?_
            refine zcv (zrunV C0 hH (hsum _ (by exact ⟨(o2.2 ‹¬ (f_X6_opens 40 (f_X6_opens 45 M).2).1 = 0›).1.weak (by decide), (o2.2 ‹¬ (f_X6_opens 40 (f_X6_opens 45 M).2).1 = 0›).2.1.trans (by rw [(o1.1 ‹(f_X6_opens 45 M).1 = 0›).2.2.1, ho]), fun q => (o2.2 ‹¬ (f_X6_opens 40 (f_X6_opens 45 M).2).1 = 0›).2.2.1 ((o1.1 ‹(f_X6_opens 45 M).1 = 0›).2.2.1.trans (ho.trans q))⟩)) kM_X6_223 zK6 kq_X6_sum zR0 rfl hl.1 rfl rfl rfl ⟨by dsimp only; omega, by dsimp only; omega⟩ (Nat.le_of_ble_eq_true rfl) dX6_factor_106) hH (fun H locs hH => ?_)
            refine lv_aload_n hx hb dX6_factor_109 rfl (lv_at hl 0 rfl) ?_
            refine lv_bipush (v := (41 : Int32)) hx hb dX6_factor_110 (by decide) ?_
            refine zcv (zrunV C0 hH (c_X6_must l D cy ad _ _ (by decide)) kM_X6_226 zK6 kq_X6_must zR0 rfl hl.1 rfl rfl rfl ⟨by dsimp only; omega, by dsimp only; omega⟩ (Nat.le_of_ble_eq_true rfl) dX6_factor_112) hH (fun H locs hH => ?_)
            refine lv_aload_n hx hb dX6_factor_115 rfl (lv_at hl 0 rfl) ?_
            refine lv_dup hx hb dX6_factor_116 rfl ?_
            refine zgI C0 hH zK6 19 (by decide) zR0 rfl kF_X6_208 dX6_factor_117 ?_
            refine lv_iconst (v := (1 : Int32)) hx hb dX6_factor_120 (by decide) ?_
            refine lv_isub hx hb dX6_factor_121 ?_
            refine zp C0 hH zK6 19 (by decide) zR0 rfl rfl zOk_int zcn kF_X6_208 dX6_factor_122 (fun H locs hH => ?_)
            refine lv_goto (tgt := 181) hx hb dX6_factor_125 (by decide) ?_
            exact zretv C0 hH dX6_factor_181 hres
        · have hres := zif_neg c69_11 hres
          refine lv_aload_n hx hb dX6_factor_72 rfl (lv_at hl 0 rfl) ?_
          refine zcv (zrunV C0 hH (hfac _ (by exact ⟨(o1.2 ‹¬ (f_X6_opens 45 M).1 = 0›).1.weak (by decide), (o1.2 ‹¬ (f_X6_opens 45 M).1 = 0›).2.1.trans (by rw [ho]), fun q => (o1.2 ‹¬ (f_X6_opens 45 M).1 = 0›).2.2.1 (ho.trans q)⟩)) kM_X6_220 zK6 kq_X6_factor zR0 rfl hl.1 rfl rfl rfl ⟨by dsimp only; omega, by dsimp only; omega⟩ (Nat.le_of_ble_eq_true rfl) dX6_factor_73) hH (fun H locs hH => ?_)
          have a1 := hFf _ (0 + 1) (by decide) (o1.2 ‹¬ (f_X6_opens 45 M).1 = 0›).1
          refine lv_aload_n hx hb dX6_factor_76 rfl (lv_at hl 0 rfl) ?_
          refine lv_sipush (v := (2004 : Int32)) hx hb dX6_factor_77 (by decide) ?_
          refine zcv (zrunV C0 hH (c_X6_emit l D cy ad _ _ (by exact pe1 a1.1)) kM_X6_205 zK6 kq_X6_emit zR0 rfl hl.1 rfl rfl rfl ⟨by dsimp only; omega, by dsimp only; omega⟩ (Nat.le_of_ble_eq_true rfl) dX6_factor_80) hH (fun H locs hH => ?_)
          refine lv_aload_n hx hb dX6_factor_83 rfl (lv_at hl 0 rfl) ?_
          refine lv_dup hx hb dX6_factor_84 rfl ?_
          refine zgI C0 hH zK6 19 (by decide) zR0 rfl kF_X6_208 dX6_factor_85 ?_
          refine lv_iconst (v := (1 : Int32)) hx hb dX6_factor_88 (by decide) ?_
          refine lv_isub hx hb dX6_factor_89 ?_
          refine zp C0 hH zK6 19 (by decide) zR0 rfl rfl zOk_int zcn kF_X6_208 dX6_factor_90 (fun H locs hH => ?_)
          refine lv_goto (tgt := 181) hx hb dX6_factor_93 (by decide) ?_
          exact zretv C0 hH dX6_factor_181 hres
      · have hres := zif_neg c32_8 hres
        refine lv_aload_n hx hb dX6_factor_35 rfl (lv_at hl 0 rfl) ?_
        refine lv_sipush (v := (1000 : Int32)) hx hb dX6_factor_36 (by decide) ?_
        refine lv_aload_n hx hb dX6_factor_39 rfl (lv_at hl 0 rfl) ?_
        refine zci (zrunV C0 hH (c_X6_byteAt l D cy ad _) kM_X6_189 zK6 kq_X6_byteAt zR0 rfl hl.1 rfl rfl rfl ⟨by dsimp only; omega, by dsimp only; omega⟩ (Nat.le_of_ble_eq_true rfl) dX6_factor_40) hH (fun H locs hH => ?_)
        refine zci (zrunS C0 hH (c_X6_nameOf l D cy ad _ _) kM_X6_214 kq_X6_nameOf rfl hl.1 rfl rfl rfl ⟨by dsimp only; omega, by dsimp only; omega⟩ (Nat.le_of_ble_eq_true rfl) dX6_factor_43) hH (fun H locs hH => ?_)
        refine lv_iadd hx hb dX6_factor_46 ?_
        refine zcv (zrunV C0 hH (c_X6_emit l D cy ad _ _ (by exact pe0 hP (nm_X6 (by assumption)))) kM_X6_205 zK6 kq_X6_emit zR0 rfl hl.1 rfl rfl rfl ⟨by dsimp only; omega, by dsimp only; omega⟩ (Nat.le_of_ble_eq_true rfl) dX6_factor_47) hH (fun H locs hH => ?_)
        refine lv_aload_n hx hb dX6_factor_50 rfl (lv_at hl 0 rfl) ?_
        refine lv_dup hx hb dX6_factor_51 rfl ?_
        refine zgI C0 hH zK6 17 (by decide) zR0 rfl kF_X6_180 dX6_factor_52 ?_
        refine lv_iconst (v := (1 : Int32)) hx hb dX6_factor_55 (by decide) ?_
        refine lv_iadd hx hb dX6_factor_56 ?_
        refine zp C0 hH zK6 17 (by decide) zR0 rfl rfl zOk_int (zcs (by rw [em17]; exact zst60 hP (nm_X6 (by assumption)))) kF_X6_180 dX6_factor_57 (fun H locs hH => ?_)
        refine lv_goto (tgt := 181) hx hb dX6_factor_60 (by decide) ?_
        exact zretv C0 hH dX6_factor_181 hres
    · have hres := zif_neg c15_5 hres
      refine lv_aload_n hx hb dX6_factor_18 rfl (lv_at hl 0 rfl) ?_
      refine zcv (zrunV C0 hH (c_X6_number l D cy ad _ (by exact pe0 hP (ba_X6 rfl (dg_X6 (by assumption))))) kM_X6_211 zK6 kq_X6_number zR0 rfl hl.1 rfl rfl rfl ⟨by dsimp only; omega, by dsimp only; omega⟩ (Nat.le_of_ble_eq_true rfl) dX6_factor_19) hH (fun H locs hH => ?_)
      refine lv_goto (tgt := 181) hx hb dX6_factor_22 (by decide) ?_
      exact zretv C0 hH dX6_factor_181 hres
  · have hres := zif_neg c4_1 hres
    exact zretv C0 hH dX6_factor_7 hres
set_option maxRecDepth 100000 in
set_option maxHeartbeats 4000000 in
theorem c_X6_termG (fr lo : Nat) (o : Int32) (Ffac : zM → zM) (hF : zPr Ffac) (l : Launch) (D : va_G) (cy : Nat → ClassId) (ad : Nat → Nat) (M : zM) (hP : zPS 0 M) (ho : M.1 0 19 = o) (hsub : ∀ (M : zM), zPS 0 M ∧ M.1 0 19 = o → Met l yX6_factor (Cond.code yX6_factor cX6_factor 1 none :: zG) ({ frames := fr, cells := 0, slots := 0, locals := lo }) (zP D lyR cy ad [.ref (ad 0)] M) (zQv D lyR cy ad (Ffac M)) 0 0 (zA lyR ad)) : Met l yX6_term (Cond.code yX6_term cX6_term 3 none :: zG) ({ frames := fr + 2, cells := 0, slots := 0, locals := lo + 80 }) (zP D lyR cy ad [.ref (ad 0)] M) (zQv D lyR cy ad (f_X6_term Ffac M)) 0 0 (zA lyR ad) := by
  generalize hres : (f_X6_term Ffac M) = res
  refine zMet (by decide) (Nat.le_of_ble_eq_true rfl) ?_
  intro p e s m args below meth c ls C0 hH hl
  obtain ⟨⟨hx, hb, hml, hown, hts⟩, -⟩ := id C0
  have hz : ∀ w ∈ zG, w.before args s = true := fun w h => hts w (List.mem_cons_of_mem _ h)
  have hl : lv_has ls 3 [(0, .ref (ad 0))] := hl
  have L6 : ∀ (n6 : Nat), ∀ (v1 : Int32) (mm : zM) (H : Heap) (locs : List Loc) (ls : Array Slot), (zPS 0 mm) → (mm.1 0 19 = o) → (zFu n6 v1 mm) → zH D lyR cy ad s.heap mm H locs → lv_has ls 3 [(0, .ref (ad 0)), (1, .int v1)] → f_X6_term_6 Ffac n6 v1 mm = res → W p l e { frames := fr + 2, cells := 0, slots := 0, locals := lo + 80 } s m args below meth c H locs 0 0 (MQ below (zQv D lyR cy ad res) args s 0 0 (zA lyR ad)) (F0 m 6 ls []) := by
    intro n6
    induction n6 with
    | zero =>
      intro v1 mm H locs ls hP1 hop hfu hH hl hres
      exfalso; exact hfu.zero hP1
    | succ n6 ih6 =>
      have J51 : ∀ (v2 : Int32) (s0 : Int32) (mm : zM) (H : Heap) (locs : List Loc) (ls : Array Slot), (zQf (s0 = 0) n6 mm) → (mm.1 0 19 = o) → zH D lyR cy ad s.heap mm H locs → lv_has ls 3 [(0, .ref (ad 0)), (2, .int v2)] → f_X6_term_51 Ffac (fun wv1 wmm => f_X6_term_6 Ffac n6 wv1 wmm) v2 s0 mm = res → W p l e { frames := fr + 2, cells := 0, slots := 0, locals := lo + 80 } s m args below meth c H locs 0 0 (MQ below (zQv D lyR cy ad res) args s 0 0 (zA lyR ad)) (F0 m 51 ls [.int s0]) := by
        intro v2 s0 mm H locs ls hq hop hH hl hres
        refine lv_istore_n (lv' := [(1, _), (0, _), (2, _)]) hx hb dX6_term_51 rfl hl (by decide) rfl (fun ls hl => ?_)
        refine lv_iload_n hx hb dX6_term_52 rfl (lv_at hl 0 rfl) ?_
        refine lv_if_eq (tgt := 65) hx hb dX6_term_53 (by decide) (fun c53_10 => ?_) (fun c53_10 => ?_)
        · have hres := zif_pos c53_10 hres
          refine lv_goto (tgt := 6) hx hb dX6_term_65 (by decide) ?_
          exact ih6 _ _ _ _ _ (by first | exact hA.1 | exact (hq.1 (by assumption)).1 | exact hE.1) (by first | exact hA.2.2.1.trans ho | exact hop | exact hE.2.2.1.trans (hD.2.2.1.trans hop)) (by first | exact zFu.start hA.1 | exact ⟨fun _ => (hq.1 (by assumption)).2, fun q => absurd (by assumption) q⟩ | exact ⟨fun q => absurd q (by assumption), fun _ => by have g1 := hE.2.1; have g2 := hD.2.1; have g3 := (hq.2 (by assumption)).2; omega⟩) hH (lv_sub hl [1, 0] rfl) hres
        · have hres := zif_neg c53_10 hres
          refine lv_aload_n hx hb dX6_term_56 rfl (lv_at hl 1 rfl) ?_
          refine zcv (zrunV C0 hH (hsub _ (by exact ⟨(hq.2 (by assumption)).1.weak (by decide), hop⟩)) kM_X6_220 zK6 kq_X6_factor zR0 rfl hl.1 rfl rfl rfl ⟨by dsimp only; omega, by dsimp only; omega⟩ (Nat.le_of_ble_eq_true rfl) dX6_term_57) hH (fun H locs hH => ?_)
          have hD := hF _ 1 (by decide) (hq.2 (by assumption)).1
          refine lv_aload_n hx hb dX6_term_60 rfl (lv_at hl 1 rfl) ?_
          refine lv_iload_n hx hb dX6_term_61 rfl (lv_at hl 2 rfl) ?_
          refine zcv (zrunV C0 hH (c_X6_emit l D cy ad _ _ (by exact pe1 hD.1)) kM_X6_205 zK6 kq_X6_emit zR0 rfl hl.1 rfl rfl rfl ⟨by dsimp only; omega, by dsimp only; omega⟩ (Nat.le_of_ble_eq_true rfl) dX6_term_62) hH (fun H locs hH => ?_)
          have hE := l_emit (v := v2) (j := 0) hD.1 (Int.le_refl 0)
          refine lv_goto (tgt := 6) hx hb dX6_term_65 (by decide) ?_
          exact ih6 _ _ _ _ _ (by first | exact hA.1 | exact (hq.1 (by assumption)).1 | exact hE.1) (by first | exact hA.2.2.1.trans ho | exact hop | exact hE.2.2.1.trans (hD.2.2.1.trans hop)) (by first | exact zFu.start hA.1 | exact ⟨fun _ => (hq.1 (by assumption)).2, fun q => absurd (by assumption) q⟩ | exact ⟨fun q => absurd q (by assumption), fun _ => by have g1 := hE.2.1; have g2 := hD.2.1; have g3 := (hq.2 (by assumption)).2; omega⟩) hH (lv_sub hl [1, 0] rfl) hres
      have J41 : ∀ (s0 : Int32) (mm : zM) (H : Heap) (locs : List Loc) (ls : Array Slot), (zQf (s0 < 0) n6 mm) → (mm.1 0 19 = o) → zH D lyR cy ad s.heap mm H locs → lv_has ls 3 [(0, .ref (ad 0))] → f_X6_term_41 Ffac (fun wv1 wmm => f_X6_term_6 Ffac n6 wv1 wmm) s0 mm = res → W p l e { frames := fr + 2, cells := 0, slots := 0, locals := lo + 80 } s m args below meth c H locs 0 0 (MQ below (zQv D lyR cy ad res) args s 0 0 (zA lyR ad)) (F0 m 41 ls [.int s0]) := by
        intro s0 mm H locs ls hq hop hH hl hres
        refine lv_istore_n (lv' := [(2, _), (0, _)]) hx hb dX6_term_41 rfl hl (by decide) rfl (fun ls hl => ?_)
        refine lv_iload_n hx hb dX6_term_42 rfl (lv_at hl 0 rfl) ?_
        refine lv_if_lt (tgt := 50) hx hb dX6_term_43 (by decide) (fun c43_9 => ?_) (fun c43_9 => ?_)
        · have hres := zif_pos c43_9 hres
          refine lv_iconst (v := (0 : Int32)) hx hb dX6_term_50 (by decide) ?_
          exact J51 _ _ _ _ _ _ (by first | exact zQu rfl (hq.1 (by assumption)).1 (hq.1 (by assumption)).2 | exact zQm (by decide) (hq.2 (by assumption)).1 (hq.2 (by assumption)).2) (by exact hop) hH (lv_sub hl [1, 0] rfl) hres
        · have hres := zif_neg c43_9 hres
          refine lv_iconst (v := (1 : Int32)) hx hb dX6_term_46 (by decide) ?_
          refine lv_goto (tgt := 51) hx hb dX6_term_47 (by decide) ?_
          exact J51 _ _ _ _ _ _ (by first | exact zQu rfl (hq.1 (by assumption)).1 (hq.1 (by assumption)).2 | exact zQm (by decide) (hq.2 (by assumption)).1 (hq.2 (by assumption)).2) (by exact hop) hH (lv_sub hl [1, 0] rfl) hres
      intro v1 mm H locs ls hP1 hop hfu hH hl hres
      refine lv_iload_n hx hb dX6_term_6 rfl (lv_at hl 1 rfl) ?_
      refine lv_if_eq (tgt := 68) hx hb dX6_term_7 (by decide) (fun c7_2 => ?_) (fun c7_2 => ?_)
      · have hres := zif_pos c7_2 hres
        exact zretv C0 hH dX6_term_68 hres
      · have hres := zif_neg c7_2 hres
        refine lv_aload_n hx hb dX6_term_10 rfl (lv_at hl 0 rfl) ?_
        refine lv_bipush (v := (42 : Int32)) hx hb dX6_term_11 (by decide) ?_
        refine zcz (zrunV C0 hH (c_X6_may l D cy ad _ _ (by first | decide | assumption)) kM_X6_193 zK6 kq_X6_may zR0 rfl hl.1 rfl rfl rfl ⟨by dsimp only; omega, by dsimp only; omega⟩ (Nat.le_of_ble_eq_true rfl) dX6_term_13) hH (fun H locs hH h01_3 => ?_)
        have hB := l_may (c := 42) hP1 (by decide)
        refine lv_if_eq (tgt := 25) hx hb dX6_term_16 (by decide) (fun c16_5 => ?_) (fun c16_5 => ?_)
        · have hres := zif_pos c16_5 hres
          refine lv_aload_n hx hb dX6_term_25 rfl (lv_at hl 0 rfl) ?_
          refine lv_bipush (v := (47 : Int32)) hx hb dX6_term_26 (by decide) ?_
          refine zcz (zrunV C0 hH (c_X6_may l D cy ad _ _ (by first | decide | assumption)) kM_X6_193 zK6 kq_X6_may zR0 rfl hl.1 rfl rfl rfl ⟨by dsimp only; omega, by dsimp only; omega⟩ (Nat.le_of_ble_eq_true rfl) dX6_term_28) hH (fun H locs hH h01_6 => ?_)
          have hB2 := l_may (c := 47) hB.1 (by decide)
          refine lv_if_eq (tgt := 40) hx hb dX6_term_31 (by decide) (fun c31_8 => ?_) (fun c31_8 => ?_)
          · have hres := zif_pos c31_8 hres
            refine lv_iconst (v := (-1 : Int32)) hx hb dX6_term_40 (by decide) ?_
            exact J41 _ _ _ _ _ (by first | exact zQm (by decide) (hB.2.2 ‹¬ (f_X6_may 42 mm).1 = 0›).1 (by have g1 := (hB.2.2 ‹¬ (f_X6_may 42 mm).1 = 0›).2; have g2 := hfu.2 ‹¬ v1 = 0›; omega) | exact zQm (by decide) (hB2.2.2 ‹¬ (f_X6_may 47 (f_X6_may 42 mm).2).1 = 0›).1 (by have g1 := (hB2.2.2 ‹¬ (f_X6_may 47 (f_X6_may 42 mm).2).1 = 0›).2; have g0 := hB.2.1.1; have g2 := hfu.2 ‹¬ v1 = 0›; omega) | exact zQu (by decide) hB2.1 (by have g1 := hB2.2.1.1; have g0 := hB.2.1.1; have g2 := hfu.2 ‹¬ v1 = 0›; omega)) (by first | exact hB.2.1.2.1.trans hop | exact hB2.2.1.2.1.trans (hB.2.1.2.1.trans hop)) hH (lv_sub hl [0] rfl) hres
          · have hres := zif_neg c31_8 hres
            refine lv_sipush (v := (2003 : Int32)) hx hb dX6_term_34 (by decide) ?_
            refine lv_goto (tgt := 41) hx hb dX6_term_37 (by decide) ?_
            exact J41 _ _ _ _ _ (by first | exact zQm (by decide) (hB.2.2 ‹¬ (f_X6_may 42 mm).1 = 0›).1 (by have g1 := (hB.2.2 ‹¬ (f_X6_may 42 mm).1 = 0›).2; have g2 := hfu.2 ‹¬ v1 = 0›; omega) | exact zQm (by decide) (hB2.2.2 ‹¬ (f_X6_may 47 (f_X6_may 42 mm).2).1 = 0›).1 (by have g1 := (hB2.2.2 ‹¬ (f_X6_may 47 (f_X6_may 42 mm).2).1 = 0›).2; have g0 := hB.2.1.1; have g2 := hfu.2 ‹¬ v1 = 0›; omega) | exact zQu (by decide) hB2.1 (by have g1 := hB2.2.1.1; have g0 := hB.2.1.1; have g2 := hfu.2 ‹¬ v1 = 0›; omega)) (by first | exact hB.2.1.2.1.trans hop | exact hB2.2.1.2.1.trans (hB.2.1.2.1.trans hop)) hH (lv_sub hl [0] rfl) hres
        · have hres := zif_neg c16_5 hres
          refine lv_sipush (v := (2002 : Int32)) hx hb dX6_term_19 (by decide) ?_
          refine lv_goto (tgt := 41) hx hb dX6_term_22 (by decide) ?_
          exact J41 _ _ _ _ _ (by first | exact zQm (by decide) (hB.2.2 ‹¬ (f_X6_may 42 mm).1 = 0›).1 (by have g1 := (hB.2.2 ‹¬ (f_X6_may 42 mm).1 = 0›).2; have g2 := hfu.2 ‹¬ v1 = 0›; omega) | exact zQm (by decide) (hB2.2.2 ‹¬ (f_X6_may 47 (f_X6_may 42 mm).2).1 = 0›).1 (by have g1 := (hB2.2.2 ‹¬ (f_X6_may 47 (f_X6_may 42 mm).2).1 = 0›).2; have g0 := hB.2.1.1; have g2 := hfu.2 ‹¬ v1 = 0›; omega) | exact zQu (by decide) hB2.1 (by have g1 := hB2.2.1.1; have g0 := hB.2.1.1; have g2 := hfu.2 ‹¬ v1 = 0›; omega)) (by first | exact hB.2.1.2.1.trans hop | exact hB2.2.1.2.1.trans (hB.2.1.2.1.trans hop)) hH (lv_sub hl [0] rfl) hres
  refine lv_aload_n hx hb dX6_term_0 rfl (lv_at hl 0 rfl) ?_
  refine zcv (zrunV C0 hH (hsub _ (by exact ⟨hP, ho⟩)) kM_X6_220 zK6 kq_X6_factor zR0 rfl hl.1 rfl rfl rfl ⟨by dsimp only; omega, by dsimp only; omega⟩ (Nat.le_of_ble_eq_true rfl) dX6_term_1) hH (fun H locs hH => ?_)
  have hA := hF _ 0 (Int.le_refl 0) hP
  refine lv_iconst (v := (1 : Int32)) hx hb dX6_term_4 (by decide) ?_
  refine lv_istore_n (lv' := [(1, _), (0, _)]) hx hb dX6_term_5 rfl hl (by decide) rfl (fun ls hl => ?_)
  exact L6 (63) _ _ _ _ _ (by first | exact hA.1 | exact (hq.1 (by assumption)).1 | exact hE.1) (by first | exact hA.2.2.1.trans ho | exact hop | exact hE.2.2.1.trans (hD.2.2.1.trans hop)) (by first | exact zFu.start hA.1 | exact ⟨fun _ => (hq.1 (by assumption)).2, fun q => absurd (by assumption) q⟩ | exact ⟨fun q => absurd q (by assumption), fun _ => by have g1 := hE.2.1; have g2 := hD.2.1; have g3 := (hq.2 (by assumption)).2; omega⟩) hH (lv_sub hl [1, 0] rfl) hres
set_option maxRecDepth 100000 in
set_option maxHeartbeats 4000000 in
theorem c_X6_sumG (fr lo : Nat) (o : Int32) (Fterm : zM → zM) (hF : zPr Fterm) (l : Launch) (D : va_G) (cy : Nat → ClassId) (ad : Nat → Nat) (M : zM) (hP : zPS 0 M) (ho : M.1 0 19 = o) (hsub : ∀ (M : zM), zPS 0 M ∧ M.1 0 19 = o → Met l yX6_term (Cond.code yX6_term cX6_term 3 none :: zG) ({ frames := fr, cells := 0, slots := 0, locals := lo }) (zP D lyR cy ad [.ref (ad 0)] M) (zQv D lyR cy ad (Fterm M)) 0 0 (zA lyR ad)) : Met l yX6_sum (Cond.code yX6_sum cX6_sum 3 none :: zG) ({ frames := fr + 2, cells := 0, slots := 0, locals := lo + 80 }) (zP D lyR cy ad [.ref (ad 0)] M) (zQv D lyR cy ad (f_X6_sum Fterm M)) 0 0 (zA lyR ad) := by
  generalize hres : (f_X6_sum Fterm M) = res
  refine zMet (by decide) (Nat.le_of_ble_eq_true rfl) ?_
  intro p e s m args below meth c ls C0 hH hl
  obtain ⟨⟨hx, hb, hml, hown, hts⟩, -⟩ := id C0
  have hz : ∀ w ∈ zG, w.before args s = true := fun w h => hts w (List.mem_cons_of_mem _ h)
  have hl : lv_has ls 3 [(0, .ref (ad 0))] := hl
  have L6 : ∀ (n6 : Nat), ∀ (v1 : Int32) (mm : zM) (H : Heap) (locs : List Loc) (ls : Array Slot), (zPS 0 mm) → (mm.1 0 19 = o) → (zFu n6 v1 mm) → zH D lyR cy ad s.heap mm H locs → lv_has ls 3 [(0, .ref (ad 0)), (1, .int v1)] → f_X6_sum_6 Fterm n6 v1 mm = res → W p l e { frames := fr + 2, cells := 0, slots := 0, locals := lo + 80 } s m args below meth c H locs 0 0 (MQ below (zQv D lyR cy ad res) args s 0 0 (zA lyR ad)) (F0 m 6 ls []) := by
    intro n6
    induction n6 with
    | zero =>
      intro v1 mm H locs ls hP1 hop hfu hH hl hres
      exfalso; exact hfu.zero hP1
    | succ n6 ih6 =>
      have J51 : ∀ (v2 : Int32) (s0 : Int32) (mm : zM) (H : Heap) (locs : List Loc) (ls : Array Slot), (zQf (s0 = 0) n6 mm) → (mm.1 0 19 = o) → zH D lyR cy ad s.heap mm H locs → lv_has ls 3 [(0, .ref (ad 0)), (2, .int v2)] → f_X6_sum_51 Fterm (fun wv1 wmm => f_X6_sum_6 Fterm n6 wv1 wmm) v2 s0 mm = res → W p l e { frames := fr + 2, cells := 0, slots := 0, locals := lo + 80 } s m args below meth c H locs 0 0 (MQ below (zQv D lyR cy ad res) args s 0 0 (zA lyR ad)) (F0 m 51 ls [.int s0]) := by
        intro v2 s0 mm H locs ls hq hop hH hl hres
        refine lv_istore_n (lv' := [(1, _), (0, _), (2, _)]) hx hb dX6_sum_51 rfl hl (by decide) rfl (fun ls hl => ?_)
        refine lv_iload_n hx hb dX6_sum_52 rfl (lv_at hl 0 rfl) ?_
        refine lv_if_eq (tgt := 65) hx hb dX6_sum_53 (by decide) (fun c53_10 => ?_) (fun c53_10 => ?_)
        · have hres := zif_pos c53_10 hres
          refine lv_goto (tgt := 6) hx hb dX6_sum_65 (by decide) ?_
          exact ih6 _ _ _ _ _ (by first | exact hA.1 | exact (hq.1 (by assumption)).1 | exact hE.1) (by first | exact hA.2.2.1.trans ho | exact hop | exact hE.2.2.1.trans (hD.2.2.1.trans hop)) (by first | exact zFu.start hA.1 | exact ⟨fun _ => (hq.1 (by assumption)).2, fun q => absurd (by assumption) q⟩ | exact ⟨fun q => absurd q (by assumption), fun _ => by have g1 := hE.2.1; have g2 := hD.2.1; have g3 := (hq.2 (by assumption)).2; omega⟩) hH (lv_sub hl [1, 0] rfl) hres
        · have hres := zif_neg c53_10 hres
          refine lv_aload_n hx hb dX6_sum_56 rfl (lv_at hl 1 rfl) ?_
          refine zcv (zrunV C0 hH (hsub _ (by exact ⟨(hq.2 (by assumption)).1.weak (by decide), hop⟩)) kM_X6_229 zK6 kq_X6_term zR0 rfl hl.1 rfl rfl rfl ⟨by dsimp only; omega, by dsimp only; omega⟩ (Nat.le_of_ble_eq_true rfl) dX6_sum_57) hH (fun H locs hH => ?_)
          have hD := hF _ 1 (by decide) (hq.2 (by assumption)).1
          refine lv_aload_n hx hb dX6_sum_60 rfl (lv_at hl 1 rfl) ?_
          refine lv_iload_n hx hb dX6_sum_61 rfl (lv_at hl 2 rfl) ?_
          refine zcv (zrunV C0 hH (c_X6_emit l D cy ad _ _ (by exact pe1 hD.1)) kM_X6_205 zK6 kq_X6_emit zR0 rfl hl.1 rfl rfl rfl ⟨by dsimp only; omega, by dsimp only; omega⟩ (Nat.le_of_ble_eq_true rfl) dX6_sum_62) hH (fun H locs hH => ?_)
          have hE := l_emit (v := v2) (j := 0) hD.1 (Int.le_refl 0)
          refine lv_goto (tgt := 6) hx hb dX6_sum_65 (by decide) ?_
          exact ih6 _ _ _ _ _ (by first | exact hA.1 | exact (hq.1 (by assumption)).1 | exact hE.1) (by first | exact hA.2.2.1.trans ho | exact hop | exact hE.2.2.1.trans (hD.2.2.1.trans hop)) (by first | exact zFu.start hA.1 | exact ⟨fun _ => (hq.1 (by assumption)).2, fun q => absurd (by assumption) q⟩ | exact ⟨fun q => absurd q (by assumption), fun _ => by have g1 := hE.2.1; have g2 := hD.2.1; have g3 := (hq.2 (by assumption)).2; omega⟩) hH (lv_sub hl [1, 0] rfl) hres
      have J41 : ∀ (s0 : Int32) (mm : zM) (H : Heap) (locs : List Loc) (ls : Array Slot), (zQf (s0 < 0) n6 mm) → (mm.1 0 19 = o) → zH D lyR cy ad s.heap mm H locs → lv_has ls 3 [(0, .ref (ad 0))] → f_X6_sum_41 Fterm (fun wv1 wmm => f_X6_sum_6 Fterm n6 wv1 wmm) s0 mm = res → W p l e { frames := fr + 2, cells := 0, slots := 0, locals := lo + 80 } s m args below meth c H locs 0 0 (MQ below (zQv D lyR cy ad res) args s 0 0 (zA lyR ad)) (F0 m 41 ls [.int s0]) := by
        intro s0 mm H locs ls hq hop hH hl hres
        refine lv_istore_n (lv' := [(2, _), (0, _)]) hx hb dX6_sum_41 rfl hl (by decide) rfl (fun ls hl => ?_)
        refine lv_iload_n hx hb dX6_sum_42 rfl (lv_at hl 0 rfl) ?_
        refine lv_if_lt (tgt := 50) hx hb dX6_sum_43 (by decide) (fun c43_9 => ?_) (fun c43_9 => ?_)
        · have hres := zif_pos c43_9 hres
          refine lv_iconst (v := (0 : Int32)) hx hb dX6_sum_50 (by decide) ?_
          exact J51 _ _ _ _ _ _ (by first | exact zQu rfl (hq.1 (by assumption)).1 (hq.1 (by assumption)).2 | exact zQm (by decide) (hq.2 (by assumption)).1 (hq.2 (by assumption)).2) (by exact hop) hH (lv_sub hl [1, 0] rfl) hres
        · have hres := zif_neg c43_9 hres
          refine lv_iconst (v := (1 : Int32)) hx hb dX6_sum_46 (by decide) ?_
          refine lv_goto (tgt := 51) hx hb dX6_sum_47 (by decide) ?_
          exact J51 _ _ _ _ _ _ (by first | exact zQu rfl (hq.1 (by assumption)).1 (hq.1 (by assumption)).2 | exact zQm (by decide) (hq.2 (by assumption)).1 (hq.2 (by assumption)).2) (by exact hop) hH (lv_sub hl [1, 0] rfl) hres
      intro v1 mm H locs ls hP1 hop hfu hH hl hres
      refine lv_iload_n hx hb dX6_sum_6 rfl (lv_at hl 1 rfl) ?_
      refine lv_if_eq (tgt := 68) hx hb dX6_sum_7 (by decide) (fun c7_2 => ?_) (fun c7_2 => ?_)
      · have hres := zif_pos c7_2 hres
        exact zretv C0 hH dX6_sum_68 hres
      · have hres := zif_neg c7_2 hres
        refine lv_aload_n hx hb dX6_sum_10 rfl (lv_at hl 0 rfl) ?_
        refine lv_bipush (v := (43 : Int32)) hx hb dX6_sum_11 (by decide) ?_
        refine zcz (zrunV C0 hH (c_X6_may l D cy ad _ _ (by first | decide | assumption)) kM_X6_193 zK6 kq_X6_may zR0 rfl hl.1 rfl rfl rfl ⟨by dsimp only; omega, by dsimp only; omega⟩ (Nat.le_of_ble_eq_true rfl) dX6_sum_13) hH (fun H locs hH h01_3 => ?_)
        have hB := l_may (c := 43) hP1 (by decide)
        refine lv_if_eq (tgt := 25) hx hb dX6_sum_16 (by decide) (fun c16_5 => ?_) (fun c16_5 => ?_)
        · have hres := zif_pos c16_5 hres
          refine lv_aload_n hx hb dX6_sum_25 rfl (lv_at hl 0 rfl) ?_
          refine lv_bipush (v := (45 : Int32)) hx hb dX6_sum_26 (by decide) ?_
          refine zcz (zrunV C0 hH (c_X6_may l D cy ad _ _ (by first | decide | assumption)) kM_X6_193 zK6 kq_X6_may zR0 rfl hl.1 rfl rfl rfl ⟨by dsimp only; omega, by dsimp only; omega⟩ (Nat.le_of_ble_eq_true rfl) dX6_sum_28) hH (fun H locs hH h01_6 => ?_)
          have hB2 := l_may (c := 45) hB.1 (by decide)
          refine lv_if_eq (tgt := 40) hx hb dX6_sum_31 (by decide) (fun c31_8 => ?_) (fun c31_8 => ?_)
          · have hres := zif_pos c31_8 hres
            refine lv_iconst (v := (-1 : Int32)) hx hb dX6_sum_40 (by decide) ?_
            exact J41 _ _ _ _ _ (by first | exact zQm (by decide) (hB.2.2 ‹¬ (f_X6_may 43 mm).1 = 0›).1 (by have g1 := (hB.2.2 ‹¬ (f_X6_may 43 mm).1 = 0›).2; have g2 := hfu.2 ‹¬ v1 = 0›; omega) | exact zQm (by decide) (hB2.2.2 ‹¬ (f_X6_may 45 (f_X6_may 43 mm).2).1 = 0›).1 (by have g1 := (hB2.2.2 ‹¬ (f_X6_may 45 (f_X6_may 43 mm).2).1 = 0›).2; have g0 := hB.2.1.1; have g2 := hfu.2 ‹¬ v1 = 0›; omega) | exact zQu (by decide) hB2.1 (by have g1 := hB2.2.1.1; have g0 := hB.2.1.1; have g2 := hfu.2 ‹¬ v1 = 0›; omega)) (by first | exact hB.2.1.2.1.trans hop | exact hB2.2.1.2.1.trans (hB.2.1.2.1.trans hop)) hH (lv_sub hl [0] rfl) hres
          · have hres := zif_neg c31_8 hres
            refine lv_sipush (v := (2001 : Int32)) hx hb dX6_sum_34 (by decide) ?_
            refine lv_goto (tgt := 41) hx hb dX6_sum_37 (by decide) ?_
            exact J41 _ _ _ _ _ (by first | exact zQm (by decide) (hB.2.2 ‹¬ (f_X6_may 43 mm).1 = 0›).1 (by have g1 := (hB.2.2 ‹¬ (f_X6_may 43 mm).1 = 0›).2; have g2 := hfu.2 ‹¬ v1 = 0›; omega) | exact zQm (by decide) (hB2.2.2 ‹¬ (f_X6_may 45 (f_X6_may 43 mm).2).1 = 0›).1 (by have g1 := (hB2.2.2 ‹¬ (f_X6_may 45 (f_X6_may 43 mm).2).1 = 0›).2; have g0 := hB.2.1.1; have g2 := hfu.2 ‹¬ v1 = 0›; omega) | exact zQu (by decide) hB2.1 (by have g1 := hB2.2.1.1; have g0 := hB.2.1.1; have g2 := hfu.2 ‹¬ v1 = 0›; omega)) (by first | exact hB.2.1.2.1.trans hop | exact hB2.2.1.2.1.trans (hB.2.1.2.1.trans hop)) hH (lv_sub hl [0] rfl) hres
        · have hres := zif_neg c16_5 hres
          refine lv_sipush (v := (2000 : Int32)) hx hb dX6_sum_19 (by decide) ?_
          refine lv_goto (tgt := 41) hx hb dX6_sum_22 (by decide) ?_
          exact J41 _ _ _ _ _ (by first | exact zQm (by decide) (hB.2.2 ‹¬ (f_X6_may 43 mm).1 = 0›).1 (by have g1 := (hB.2.2 ‹¬ (f_X6_may 43 mm).1 = 0›).2; have g2 := hfu.2 ‹¬ v1 = 0›; omega) | exact zQm (by decide) (hB2.2.2 ‹¬ (f_X6_may 45 (f_X6_may 43 mm).2).1 = 0›).1 (by have g1 := (hB2.2.2 ‹¬ (f_X6_may 45 (f_X6_may 43 mm).2).1 = 0›).2; have g0 := hB.2.1.1; have g2 := hfu.2 ‹¬ v1 = 0›; omega) | exact zQu (by decide) hB2.1 (by have g1 := hB2.2.1.1; have g0 := hB.2.1.1; have g2 := hfu.2 ‹¬ v1 = 0›; omega)) (by first | exact hB.2.1.2.1.trans hop | exact hB2.2.1.2.1.trans (hB.2.1.2.1.trans hop)) hH (lv_sub hl [0] rfl) hres
  refine lv_aload_n hx hb dX6_sum_0 rfl (lv_at hl 0 rfl) ?_
  refine zcv (zrunV C0 hH (hsub _ (by exact ⟨hP, ho⟩)) kM_X6_229 zK6 kq_X6_term zR0 rfl hl.1 rfl rfl rfl ⟨by dsimp only; omega, by dsimp only; omega⟩ (Nat.le_of_ble_eq_true rfl) dX6_sum_1) hH (fun H locs hH => ?_)
  have hA := hF _ 0 (Int.le_refl 0) hP
  refine lv_iconst (v := (1 : Int32)) hx hb dX6_sum_4 (by decide) ?_
  refine lv_istore_n (lv' := [(1, _), (0, _)]) hx hb dX6_sum_5 rfl hl (by decide) rfl (fun ls hl => ?_)
  exact L6 (63) _ _ _ _ _ (by first | exact hA.1 | exact (hq.1 (by assumption)).1 | exact hE.1) (by first | exact hA.2.2.1.trans ho | exact hop | exact hE.2.2.1.trans (hD.2.2.1.trans hop)) (by first | exact zFu.start hA.1 | exact ⟨fun _ => (hq.1 (by assumption)).2, fun q => absurd (by assumption) q⟩ | exact ⟨fun q => absurd q (by assumption), fun _ => by have g1 := hE.2.1; have g2 := hD.2.1; have g3 := (hq.2 (by assumption)).2; omega⟩) hH (lv_sub hl [1, 0] rfl) hres
