abbrev df0 : List Value := [.int 0, .int 0, .int 0, .int 0, .int 0, .int 0, .int 0, .int 0, .int 0, .int 0, .int 0]
theorem dfok0 (j : Nat) (hj : j < 11) : defaultValue (tyX0 j) = vp_V df0 j := match j, hj with | 0, _ => rfl | 1, _ => rfl | 2, _ => rfl | 3, _ => rfl | 4, _ => rfl | 5, _ => rfl | 6, _ => rfl | 7, _ => rfl | 8, _ => rfl | 9, _ => rfl | 10, _ => rfl | n + 11, h => absurd h (by omega)
abbrev df1 : List Value := [.null, .null, .null, .null, .int 0, .int 0, .int 0, .int 0]
theorem dfok1 (j : Nat) (hj : j < 8) : defaultValue (tyX1 j) = vp_V df1 j := match j, hj with | 0, _ => rfl | 1, _ => rfl | 2, _ => rfl | 3, _ => rfl | 4, _ => rfl | 5, _ => rfl | 6, _ => rfl | 7, _ => rfl | n + 8, h => absurd h (by omega)
abbrev df2 : List Value := [.null, .int 0, .int 0, .int 0, .null, .int 0, .int 0, .int 0, .int 0]
theorem dfok2 (j : Nat) (hj : j < 9) : defaultValue (tyX2 j) = vp_V df2 j := match j, hj with | 0, _ => rfl | 1, _ => rfl | 2, _ => rfl | 3, _ => rfl | 4, _ => rfl | 5, _ => rfl | 6, _ => rfl | 7, _ => rfl | 8, _ => rfl | n + 9, h => absurd h (by omega)
abbrev df3 : List Value := [.null, .int 0, .int 0]
theorem dfok3 (j : Nat) (hj : j < 3) : defaultValue (tyX3 j) = vp_V df3 j := match j, hj with | 0, _ => rfl | 1, _ => rfl | 2, _ => rfl | n + 3, h => absurd h (by omega)
abbrev df4 : List Value := [.null, .int 0, .int 0, .int 0, .int 0, .int 0, .int 0, .int 0, .int 0, .int 0, .int 0]
theorem dfok4 (j : Nat) (hj : j < 11) : defaultValue (tyX4 j) = vp_V df4 j := match j, hj with | 0, _ => rfl | 1, _ => rfl | 2, _ => rfl | 3, _ => rfl | 4, _ => rfl | 5, _ => rfl | 6, _ => rfl | 7, _ => rfl | 8, _ => rfl | 9, _ => rfl | 10, _ => rfl | n + 11, h => absurd h (by omega)
abbrev df5 : List Value := [.null, .null, .null, .null, .null, .int 0, .null, .null, .null]
theorem dfok5 (j : Nat) (hj : j < 9) : defaultValue (tyX5 j) = vp_V df5 j := match j, hj with | 0, _ => rfl | 1, _ => rfl | 2, _ => rfl | 3, _ => rfl | 4, _ => rfl | 5, _ => rfl | 6, _ => rfl | 7, _ => rfl | 8, _ => rfl | n + 9, h => absurd h (by omega)
abbrev df6 : List Value := [.null, .null, .null, .int 0, .null, .int 0, .null, .null, .null, .int 0, .int 0, .int 0, .null, .null, .int 0, .null, .int 0, .int 0, .int 0, .int 0, .null, .null, .null, .null, .null]
theorem dfok6 (j : Nat) (hj : j < 25) : defaultValue (tyX6 j) = vp_V df6 j := match j, hj with | 0, _ => rfl | 1, _ => rfl | 2, _ => rfl | 3, _ => rfl | 4, _ => rfl | 5, _ => rfl | 6, _ => rfl | 7, _ => rfl | 8, _ => rfl | 9, _ => rfl | 10, _ => rfl | 11, _ => rfl | 12, _ => rfl | 13, _ => rfl | 14, _ => rfl | 15, _ => rfl | 16, _ => rfl | 17, _ => rfl | 18, _ => rfl | 19, _ => rfl | 20, _ => rfl | 21, _ => rfl | 22, _ => rfl | 23, _ => rfl | 24, _ => rfl | n + 25, h => absurd h (by omega)
def wBl (a : Nat → Nat) : va_W := [(a 0, .inr (0, df0))]
def wTx (cy : Nat → ClassId) (a : Nat → Nat) : va_W := [(a 0, .inr (4, [.ref (a 1), .int 0, .int 0, .int 0, .int 0, .int 0, .int 0, .int 0, .int 0, .int 0, .int 0])), (a 1, .inl (cy 7, 60, .inl (fun _ => 0)))]
def wSh (cy : Nat → ClassId) (a : Nat → Nat) : va_W := [(a 0, .inr (3, [.ref (a 1), .int 0, .int 0])), (a 1, .inl (cy 8, 40, .inr (.inl (fun _ => 0))))]
def wBk (cy : Nat → ClassId) (a : Nat → Nat) : va_W := [(a 0, .inr (1, [.ref (a 1), .ref (a 2), .ref (a 3), .ref (a 4), .int 0, .int 0, .int 0, .int 0])), (a 1, .inl (cy 7, 100, .inl (fun _ => 0))), (a 2, .inl (cy 7, 100, .inl (fun _ => 0))), (a 3, .inl (cy 7, 100, .inl (fun _ => 0))), (a 4, .inl (cy 7, 7, .inl (fun _ => 0)))]
def wRow (cy : Nat → ClassId) (a : Nat → Nat) : va_W := [(a 0, .inr (2, [.ref (a 1), .int 0, .int 0, .int 1, .ref (a 12), .int 0, .int 0, .int 0, .int 0])), (a 1, .inl (cy 9, 10, .inr (.inr (.inr (.inr (fun k => some (a (2 + k)))))))), (a 2, .inr (0, df0)), (a 3, .inr (0, df0)), (a 4, .inr (0, df0)), (a 5, .inr (0, df0)), (a 6, .inr (0, df0)), (a 7, .inr (0, df0)), (a 8, .inr (0, df0)), (a 9, .inr (0, df0)), (a 10, .inr (0, df0)), (a 11, .inr (0, df0)), (a 12, .inr (4, [.ref (a 13), .int 0, .int 0, .int 0, .int 0, .int 0, .int 0, .int 0, .int 0, .int 0, .int 0])), (a 13, .inl (cy 7, 60, .inl (fun _ => 0)))]
set_option maxRecDepth 20000 in
/-- Block() -/
theorem c_X0_init (l : Launch) (D : va_G) (cy : Nat → ClassId) (h sz : Nat) : Met l yX0_init (Cond.code yX0_init cX0_init 1 none :: zG) { frames := 1, cells := 0, slots := 0, locals := 12 } (zIP D cy h sz 0 df0) (zIQ D h sz (wBl)) 0 0 (zIA h sz) := by
  refine zIMet (by decide) rfl (by decide) ?_
  intro p e s m args below meth c ls C0 hH hl
  obtain ⟨hx, hb⟩ := And.intro C0.1.1 C0.1.2.1
  refine lv_aload_n hx hb dX0_init_0 rfl (lv_at hl 0 rfl) ?_
  refine iObj C0 hl.1 kM_X0_3 (by decide) (by decide) dX0_init_1 ?_
  exact iRet (w := wBl) (fun _ => h) C0 hH rfl dX0_init_4
set_option maxRecDepth 20000 in
/-- Text() -/
theorem c_X4_init (l : Launch) (D : va_G) (cy : Nat → ClassId) (h sz : Nat) : Met l yX4_init (Cond.code yX4_init cX4_init 1 none :: zG) { frames := 1, cells := 1, slots := 60, locals := 12 } (zIP D cy h sz 4 df4) (zIQ D h sz (wTx cy)) 1 60 (zIA h sz) := by
  refine zIMet (by decide) rfl (by decide) ?_
  intro p e s m args below meth c ls C0 hH hl
  obtain ⟨hx, hb⟩ := And.intro C0.1.1 C0.1.2.1
  refine lv_aload_n hx hb dX4_init_0 rfl (lv_at hl 0 rfl) ?_
  refine iObj C0 hl.1 kM_X4_3 (by decide) (by decide) dX4_init_1 ?_
  refine lv_aload_n hx hb dX4_init_4 rfl (lv_at hl 0 rfl) ?_
  refine lv_bipush (v := (60 : Int32)) hx hb dX4_init_5 (by decide) ?_
  refine iNewI C0 hH 60 (by decide) (by decide) (by decide) (by decide) (by decide) dX4_init_7 (fun q1 H hH => ?_)
  have hH : zIH D h s ((h, .inr (4, [.null, .int 0, .int 0, .int 0, .int 0, .int 0, .int 0, .int 0, .int 0, .int 0, .int 0])) :: [(q1, .inl (cy 7, 60, .inl (fun _ => 0)))]) _ _ := hH
  refine iPut C0 hH zK4 rfl 0 (by decide) kF_X4_9 rfl rfl (Nat.le_of_ble_eq_true rfl) dX4_init_9 (fun H locs hH => ?_)
  have hH : zIH D h s ((h, .inr (4, [.ref q1, .int 0, .int 0, .int 0, .int 0, .int 0, .int 0, .int 0, .int 0, .int 0, .int 0])) :: [(q1, .inl (cy 7, 60, .inl (fun _ => 0)))]) _ _ := hH
  refine lv_aload_n hx hb dX4_init_12 rfl (lv_at hl 0 rfl) ?_
  refine lv_iconst (v := (0 : Int32)) hx hb dX4_init_13 (by decide) ?_
  refine iPut C0 hH zK4 rfl 1 (by decide) kF_X4_15 rfl rfl (Nat.le_of_ble_eq_true rfl) dX4_init_14 (fun H locs hH => ?_)
  have hH : zIH D h s ((h, .inr (4, [.ref q1, .int 0, .int 0, .int 0, .int 0, .int 0, .int 0, .int 0, .int 0, .int 0, .int 0])) :: [(q1, .inl (cy 7, 60, .inl (fun _ => 0)))]) _ _ := hH
  exact iRet (w := wTx cy) (fun c => match c with | 0 => h | _ => q1) C0 hH rfl dX4_init_17
set_option maxRecDepth 20000 in
/-- Sheet() -/
theorem c_X3_init (l : Launch) (D : va_G) (cy : Nat → ClassId) (h sz : Nat) : Met l yX3_init (Cond.code yX3_init cX3_init 1 none :: zG) { frames := 1, cells := 1, slots := 40, locals := 12 } (zIP D cy h sz 3 df3) (zIQ D h sz (wSh cy)) 1 40 (zIA h sz) := by
  refine zIMet (by decide) rfl (by decide) ?_
  intro p e s m args below meth c ls C0 hH hl
  obtain ⟨hx, hb⟩ := And.intro C0.1.1 C0.1.2.1
  refine lv_aload_n hx hb dX3_init_0 rfl (lv_at hl 0 rfl) ?_
  refine iObj C0 hl.1 kM_X3_3 (by decide) (by decide) dX3_init_1 ?_
  refine lv_aload_n hx hb dX3_init_4 rfl (lv_at hl 0 rfl) ?_
  refine lv_bipush (v := (40 : Int32)) hx hb dX3_init_5 (by decide) ?_
  refine iNewL C0 hH 40 (by decide) (by decide) (by decide) (by decide) (by decide) dX3_init_7 (fun q1 H hH => ?_)
  have hH : zIH D h s ((h, .inr (3, [.null, .int 0, .int 0])) :: [(q1, .inl (cy 8, 40, .inr (.inl (fun _ => 0))))]) _ _ := hH
  refine iPut C0 hH zK3 rfl 0 (by decide) kF_X3_9 rfl rfl (Nat.le_of_ble_eq_true rfl) dX3_init_9 (fun H locs hH => ?_)
  have hH : zIH D h s ((h, .inr (3, [.ref q1, .int 0, .int 0])) :: [(q1, .inl (cy 8, 40, .inr (.inl (fun _ => 0))))]) _ _ := hH
  refine lv_aload_n hx hb dX3_init_12 rfl (lv_at hl 0 rfl) ?_
  refine lv_iconst (v := (0 : Int32)) hx hb dX3_init_13 (by decide) ?_
  refine iPut C0 hH zK3 rfl 1 (by decide) kF_X3_15 rfl rfl (Nat.le_of_ble_eq_true rfl) dX3_init_14 (fun H locs hH => ?_)
  have hH : zIH D h s ((h, .inr (3, [.ref q1, .int 0, .int 0])) :: [(q1, .inl (cy 8, 40, .inr (.inl (fun _ => 0))))]) _ _ := hH
  refine lv_aload_n hx hb dX3_init_17 rfl (lv_at hl 0 rfl) ?_
  refine lv_iconst (v := (0 : Int32)) hx hb dX3_init_18 (by decide) ?_
  refine iPut C0 hH zK3 rfl 2 (by decide) kF_X3_19 rfl rfl (Nat.le_of_ble_eq_true rfl) dX3_init_19 (fun H locs hH => ?_)
  have hH : zIH D h s ((h, .inr (3, [.ref q1, .int 0, .int 0])) :: [(q1, .inl (cy 8, 40, .inr (.inl (fun _ => 0))))]) _ _ := hH
  exact iRet (w := wSh cy) (fun c => match c with | 0 => h | _ => q1) C0 hH rfl dX3_init_22
set_option maxRecDepth 20000 in
/-- Book() -/
theorem c_X1_init (l : Launch) (D : va_G) (cy : Nat → ClassId) (h sz : Nat) : Met l yX1_init (Cond.code yX1_init cX1_init 1 none :: zG) { frames := 1, cells := 4, slots := 307, locals := 12 } (zIP D cy h sz 1 df1) (zIQ D h sz (wBk cy)) 4 307 (zIA h sz) := by
  refine zIMet (by decide) rfl (by decide) ?_
  intro p e s m args below meth c ls C0 hH hl
  obtain ⟨hx, hb⟩ := And.intro C0.1.1 C0.1.2.1
  refine lv_aload_n hx hb dX1_init_0 rfl (lv_at hl 0 rfl) ?_
  refine iObj C0 hl.1 kM_X1_3 (by decide) (by decide) dX1_init_1 ?_
  refine lv_aload_n hx hb dX1_init_4 rfl (lv_at hl 0 rfl) ?_
  refine lv_bipush (v := (100 : Int32)) hx hb dX1_init_5 (by decide) ?_
  refine iNewI C0 hH 100 (by decide) (by decide) (by decide) (by decide) (by decide) dX1_init_7 (fun q1 H hH => ?_)
  have hH : zIH D h s ((h, .inr (1, [.null, .null, .null, .null, .int 0, .int 0, .int 0, .int 0])) :: [(q1, .inl (cy 7, 100, .inl (fun _ => 0)))]) _ _ := hH
  refine iPut C0 hH zK1 rfl 0 (by decide) kF_X1_9 rfl rfl (Nat.le_of_ble_eq_true rfl) dX1_init_9 (fun H locs hH => ?_)
  have hH : zIH D h s ((h, .inr (1, [.ref q1, .null, .null, .null, .int 0, .int 0, .int 0, .int 0])) :: [(q1, .inl (cy 7, 100, .inl (fun _ => 0)))]) _ _ := hH
  refine lv_aload_n hx hb dX1_init_12 rfl (lv_at hl 0 rfl) ?_
  refine lv_bipush (v := (100 : Int32)) hx hb dX1_init_13 (by decide) ?_
  refine iNewI C0 hH 100 (by decide) (by decide) (by decide) (by decide) (by decide) dX1_init_15 (fun q2 H hH => ?_)
  have hH : zIH D h s ((h, .inr (1, [.ref q1, .null, .null, .null, .int 0, .int 0, .int 0, .int 0])) :: ([(q1, .inl (cy 7, 100, .inl (fun _ => 0)))] ++ [(q2, .inl (cy 7, 100, .inl (fun _ => 0)))])) _ _ := hH
  refine iPut C0 hH zK1 rfl 1 (by decide) kF_X1_15 rfl rfl (Nat.le_of_ble_eq_true rfl) dX1_init_17 (fun H locs hH => ?_)
  have hH : zIH D h s ((h, .inr (1, [.ref q1, .ref q2, .null, .null, .int 0, .int 0, .int 0, .int 0])) :: ([(q1, .inl (cy 7, 100, .inl (fun _ => 0)))] ++ [(q2, .inl (cy 7, 100, .inl (fun _ => 0)))])) _ _ := hH
  refine lv_aload_n hx hb dX1_init_20 rfl (lv_at hl 0 rfl) ?_
  refine lv_bipush (v := (100 : Int32)) hx hb dX1_init_21 (by decide) ?_
  refine iNewI C0 hH 100 (by decide) (by decide) (by decide) (by decide) (by decide) dX1_init_23 (fun q3 H hH => ?_)
  have hH : zIH D h s ((h, .inr (1, [.ref q1, .ref q2, .null, .null, .int 0, .int 0, .int 0, .int 0])) :: (([(q1, .inl (cy 7, 100, .inl (fun _ => 0)))] ++ [(q2, .inl (cy 7, 100, .inl (fun _ => 0)))]) ++ [(q3, .inl (cy 7, 100, .inl (fun _ => 0)))])) _ _ := hH
  refine iPut C0 hH zK1 rfl 2 (by decide) kF_X1_18 rfl rfl (Nat.le_of_ble_eq_true rfl) dX1_init_25 (fun H locs hH => ?_)
  have hH : zIH D h s ((h, .inr (1, [.ref q1, .ref q2, .ref q3, .null, .int 0, .int 0, .int 0, .int 0])) :: (([(q1, .inl (cy 7, 100, .inl (fun _ => 0)))] ++ [(q2, .inl (cy 7, 100, .inl (fun _ => 0)))]) ++ [(q3, .inl (cy 7, 100, .inl (fun _ => 0)))])) _ _ := hH
  refine lv_aload_n hx hb dX1_init_28 rfl (lv_at hl 0 rfl) ?_
  refine lv_bipush (v := (7 : Int32)) hx hb dX1_init_29 (by decide) ?_
  refine iNewI C0 hH 7 (by decide) (by decide) (by decide) (by decide) (by decide) dX1_init_31 (fun q4 H hH => ?_)
  have hH : zIH D h s ((h, .inr (1, [.ref q1, .ref q2, .ref q3, .null, .int 0, .int 0, .int 0, .int 0])) :: ((([(q1, .inl (cy 7, 100, .inl (fun _ => 0)))] ++ [(q2, .inl (cy 7, 100, .inl (fun _ => 0)))]) ++ [(q3, .inl (cy 7, 100, .inl (fun _ => 0)))]) ++ [(q4, .inl (cy 7, 7, .inl (fun _ => 0)))])) _ _ := hH
  refine iPut C0 hH zK1 rfl 3 (by decide) kF_X1_21 rfl rfl (Nat.le_of_ble_eq_true rfl) dX1_init_33 (fun H locs hH => ?_)
  have hH : zIH D h s ((h, .inr (1, [.ref q1, .ref q2, .ref q3, .ref q4, .int 0, .int 0, .int 0, .int 0])) :: ((([(q1, .inl (cy 7, 100, .inl (fun _ => 0)))] ++ [(q2, .inl (cy 7, 100, .inl (fun _ => 0)))]) ++ [(q3, .inl (cy 7, 100, .inl (fun _ => 0)))]) ++ [(q4, .inl (cy 7, 7, .inl (fun _ => 0)))])) _ _ := hH
  refine lv_aload_n hx hb dX1_init_36 rfl (lv_at hl 0 rfl) ?_
  refine lv_iconst (v := (0 : Int32)) hx hb dX1_init_37 (by decide) ?_
  refine iPut C0 hH zK1 rfl 4 (by decide) kF_X1_24 rfl rfl (Nat.le_of_ble_eq_true rfl) dX1_init_38 (fun H locs hH => ?_)
  have hH : zIH D h s ((h, .inr (1, [.ref q1, .ref q2, .ref q3, .ref q4, .int 0, .int 0, .int 0, .int 0])) :: ((([(q1, .inl (cy 7, 100, .inl (fun _ => 0)))] ++ [(q2, .inl (cy 7, 100, .inl (fun _ => 0)))]) ++ [(q3, .inl (cy 7, 100, .inl (fun _ => 0)))]) ++ [(q4, .inl (cy 7, 7, .inl (fun _ => 0)))])) _ _ := hH
  refine lv_aload_n hx hb dX1_init_41 rfl (lv_at hl 0 rfl) ?_
  refine lv_iconst (v := (0 : Int32)) hx hb dX1_init_42 (by decide) ?_
  refine iPut C0 hH zK1 rfl 5 (by decide) kF_X1_28 rfl rfl (Nat.le_of_ble_eq_true rfl) dX1_init_43 (fun H locs hH => ?_)
  have hH : zIH D h s ((h, .inr (1, [.ref q1, .ref q2, .ref q3, .ref q4, .int 0, .int 0, .int 0, .int 0])) :: ((([(q1, .inl (cy 7, 100, .inl (fun _ => 0)))] ++ [(q2, .inl (cy 7, 100, .inl (fun _ => 0)))]) ++ [(q3, .inl (cy 7, 100, .inl (fun _ => 0)))]) ++ [(q4, .inl (cy 7, 7, .inl (fun _ => 0)))])) _ _ := hH
  refine lv_aload_n hx hb dX1_init_46 rfl (lv_at hl 0 rfl) ?_
  refine lv_iconst (v := (0 : Int32)) hx hb dX1_init_47 (by decide) ?_
  refine iPut C0 hH zK1 rfl 6 (by decide) kF_X1_31 rfl rfl (Nat.le_of_ble_eq_true rfl) dX1_init_48 (fun H locs hH => ?_)
  have hH : zIH D h s ((h, .inr (1, [.ref q1, .ref q2, .ref q3, .ref q4, .int 0, .int 0, .int 0, .int 0])) :: ((([(q1, .inl (cy 7, 100, .inl (fun _ => 0)))] ++ [(q2, .inl (cy 7, 100, .inl (fun _ => 0)))]) ++ [(q3, .inl (cy 7, 100, .inl (fun _ => 0)))]) ++ [(q4, .inl (cy 7, 7, .inl (fun _ => 0)))])) _ _ := hH
  refine lv_aload_n hx hb dX1_init_51 rfl (lv_at hl 0 rfl) ?_
  refine lv_iconst (v := (0 : Int32)) hx hb dX1_init_52 (by decide) ?_
  refine iPut C0 hH zK1 rfl 7 (by decide) kF_X1_34 rfl rfl (Nat.le_of_ble_eq_true rfl) dX1_init_53 (fun H locs hH => ?_)
  have hH : zIH D h s ((h, .inr (1, [.ref q1, .ref q2, .ref q3, .ref q4, .int 0, .int 0, .int 0, .int 0])) :: ((([(q1, .inl (cy 7, 100, .inl (fun _ => 0)))] ++ [(q2, .inl (cy 7, 100, .inl (fun _ => 0)))]) ++ [(q3, .inl (cy 7, 100, .inl (fun _ => 0)))]) ++ [(q4, .inl (cy 7, 7, .inl (fun _ => 0)))])) _ _ := hH
  exact iRet (w := wBk cy) (fun c => match c with | 0 => h | 1 => q1 | 2 => q2 | 3 => q3 | _ => q4) C0 hH rfl dX1_init_56
