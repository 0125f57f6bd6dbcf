section IITER
variable {p : Program} {l : Launch} {e : Env} {R : Room} {s : State} {m : MethodId} {args : Array Value} {below : List Frame} {meth : Method} {c : Code} {H : Heap} {locs : List Loc} {cells slots : Nat} {Q : State → Prop}
variable {ls : Array Slot} {cw : Cond} {D : va_G} {cy : Nat → ClassId} {h : Nat}
/-- one turn of Row()'s loop -/
theorem row_iter (C0 : zIF p m c cX2_init 2 s args RX2 cw D cy meth) (hR : 2 ≤ R.frames ∧ 32 ≤ R.locals) {i : Int32} (hi : ¬ 10 ≤ i) (hin : vp_in i 10) {j : Int32} (hj : i + 1 = j) {k : Nat} (hk : i.toNatClampNeg = k) {arr : Nat} {f : Nat → Option Nat} {fs : List Value} {ws : va_W} (hfs : fs[0]? = some (.ref arr)) (hH : zIH D h s ((h, .inr (2, fs)) :: (arr, .inl (cy 9, 10, .inr (.inr (.inr (.inr f))))) :: ws) H locs) (hl : lv_has ls 2 [(1, .int i), (0, .ref h)]) (hcells : cells + 1 ≤ R.cells) (hslots : slots + 11 ≤ R.slots)
    (kk : ∀ (b : Nat) (H1 : Heap) (locs1 : List Loc) (ls1 : Array Slot), zIH D h s ((h, .inr (2, fs)) :: (arr, .inl (cy 9, 10, .inr (.inr (.inr (.inr (va_up f k (some b))))))) :: (ws ++ [(b, .inr (0, df0))])) H1 locs1 → lv_has ls1 2 [(1, .int j), (0, .ref h)] → W p l e R s m args below meth c H1 locs1 (cells + 1) (slots + 11) Q (F0 m 61 ls1 [])) : W p l e R s m args below meth c H locs cells slots Q (F0 m 61 ls []) := by
  subst hj
  subst hk
  obtain ⟨hx, hb⟩ := And.intro C0.1.1 C0.1.2.1
  refine lv_iload_n hx hb dX2_init_61 rfl (lv_at hl 0 rfl) ?_
  refine lv_bipush (v := (10 : Int32)) hx hb dX2_init_62 (by decide) ?_
  refine lv_icmp_ge (tgt := 86) hx hb dX2_init_64 (by decide) (fun hc => absurd hc hi) (fun _ => ?_)
  refine lv_aload_n hx hb dX2_init_67 rfl (lv_at hl 1 rfl) ?_
  refine iGet C0 hH zK2 0 (by decide) kF_X2_11 hfs dX2_init_68 ?_
  refine lv_iload_n hx hb dX2_init_71 rfl (lv_at hl 0 rfl) ?_
  refine iNew C0 hH zK0 kL_X2_9 kO_X0 kC_X0 dfok0 hcells hslots dX2_init_72 (fun x H hH => ?_)
  refine lv_dup hx hb dX2_init_75 rfl ?_
  refine iCallN C0 hH (c_X0_init l D cy x H.size) kN_X2_47 zn0 hl.1 rfl rfl ⟨by show 1 + 1 ≤ R.frames; omega, by show 8 + (1 + 11) + 12 ≤ R.locals; omega⟩ ⟨hcells, hslots⟩ (Nat.le_of_ble_eq_true rfl) dX2_init_76 (fun a H locs ha hH2 => ?_)
  subst ha
  have hH : zIH D h s ((h, .inr (2, fs)) :: (arr, .inl (cy 9, 10, .inr (.inr (.inr (.inr f))))) :: (ws ++ [(a 0, .inr (0, df0))])) _ _ := hH2
  refine iAstq C0 (Or.inl ⟨rfl, rfl⟩) zK0 hH (List.mem_append_right _ (List.mem_singleton.mpr rfl)) hin dX2_init_79 (fun H locs hH => ?_)
  refine ziinc (lv' := [(1, _), (0, _)]) (k := 0) hx hb (1 : Int32) (by decide) dX2_init_80 hl rfl (by decide) rfl (fun ls hl => ?_)
  refine lv_goto (tgt := 61) hx hb dX2_init_83 (by decide) ?_
  exact kk (a 0) H locs ls hH hl
end IITER
set_option maxRecDepth 20000 in
/-- Row() -/
theorem c_X2_init (l : Launch) (D : va_G) (cy : Nat → ClassId) (h sz : Nat) : Met l yX2_init (Cond.code yX2_init cX2_init 2 none :: zG) { frames := 2, cells := 13, slots := 191, locals := 32 } (zIP D cy h sz 2 df2) (zIQ D h sz (wRow cy)) 13 191 (zIA h sz) := by
  refine zIMet (by decide) rfl (by decide) ?_
  intro p e s m args below meth c ls C0 hH hl
  obtain ⟨hx, hb⟩ := And.intro C0.1.1 C0.1.2.1
  refine lv_aload_n hx hb dX2_init_0 rfl (lv_at hl 0 rfl) ?_
  refine iObj C0 hl.1 kM_X2_3 (by decide) (by decide) dX2_init_1 ?_
  refine lv_aload_n hx hb dX2_init_4 rfl (lv_at hl 0 rfl) ?_
  refine lv_bipush (v := (10 : Int32)) hx hb dX2_init_5 (by decide) ?_
  refine iNewQ (κ := 9) C0 hH (Or.inl ⟨rfl, rfl⟩) kL_X2_9 10 (by decide) (by decide) (by decide) (by decide) (by decide) dX2_init_7 (fun q1 H hH => ?_)
  have hH : zIH D h s ((h, .inr (2, [.null, .int 0, .int 0, .int 0, .null, .int 0, .int 0, .int 0, .int 0])) :: [(q1, .inl (cy 9, 10, .inr (.inr (.inr (.inr (fun _ => none))))))]) _ _ := hH
  refine iPut C0 hH zK2 rfl 0 (by decide) kF_X2_11 rfl rfl (Nat.le_of_ble_eq_true rfl) dX2_init_10 (fun H locs hH => ?_)
  have hH : zIH D h s ((h, .inr (2, [.ref q1, .int 0, .int 0, .int 0, .null, .int 0, .int 0, .int 0, .int 0])) :: [(q1, .inl (cy 9, 10, .inr (.inr (.inr (.inr (fun _ => none))))))]) _ _ := hH
  refine lv_aload_n hx hb dX2_init_13 rfl (lv_at hl 0 rfl) ?_
  refine lv_iconst (v := (0 : Int32)) hx hb dX2_init_14 (by decide) ?_
  refine iPut C0 hH zK2 rfl 1 (by decide) kF_X2_17 rfl rfl (Nat.le_of_ble_eq_true rfl) dX2_init_15 (fun H locs hH => ?_)
  have hH : zIH D h s ((h, .inr (2, [.ref q1, .int 0, .int 0, .int 0, .null, .int 0, .int 0, .int 0, .int 0])) :: [(q1, .inl (cy 9, 10, .inr (.inr (.inr (.inr (fun _ => none))))))]) _ _ := hH
  refine lv_aload_n hx hb dX2_init_18 rfl (lv_at hl 0 rfl) ?_
  refine lv_iconst (v := (0 : Int32)) hx hb dX2_init_19 (by decide) ?_
  refine iPut C0 hH zK2 rfl 2 (by decide) kF_X2_21 rfl rfl (Nat.le_of_ble_eq_true rfl) dX2_init_20 (fun H locs hH => ?_)
  have hH : zIH D h s ((h, .inr (2, [.ref q1, .int 0, .int 0, .int 0, .null, .int 0, .int 0, .int 0, .int 0])) :: [(q1, .inl (cy 9, 10, .inr (.inr (.inr (.inr (fun _ => none))))))]) _ _ := hH
  refine lv_aload_n hx hb dX2_init_23 rfl (lv_at hl 0 rfl) ?_
  refine lv_iconst (v := (1 : Int32)) hx hb dX2_init_24 (by decide) ?_
  refine iPut C0 hH zK2 rfl 3 (by decide) kF_X2_24 rfl rfl (Nat.le_of_ble_eq_true rfl) dX2_init_25 (fun H locs hH => ?_)
  have hH : zIH D h s ((h, .inr (2, [.ref q1, .int 0, .int 0, .int 1, .null, .int 0, .int 0, .int 0, .int 0])) :: [(q1, .inl (cy 9, 10, .inr (.inr (.inr (.inr (fun _ => none))))))]) _ _ := hH
  refine lv_aload_n hx hb dX2_init_28 rfl (lv_at hl 0 rfl) ?_
  refine iNew C0 hH zK4 kL_X2_27 kO_X4 kC_X4 dfok4 (by decide) (by decide) dX2_init_29 (fun x H hH => ?_)
  refine lv_dup hx hb dX2_init_32 rfl ?_
  refine iCallN C0 hH (c_X4_init l D cy x H.size) kN_X2_29 zn4 hl.1 rfl rfl (by decide) (by decide) (Nat.le_of_ble_eq_true rfl) dX2_init_33 (fun t H locs ha hH2 => ?_)
  subst ha
  have hH : zIH D h s ((h, .inr (2, [.ref q1, .int 0, .int 0, .int 1, .null, .int 0, .int 0, .int 0, .int 0])) :: ([(q1, .inl (cy 9, 10, .inr (.inr (.inr (.inr (fun _ => none))))))] ++ wTx cy t)) _ _ := hH2
  refine iPut C0 hH zK2 rfl 4 (by decide) kF_X2_30 rfl rfl (Nat.le_of_ble_eq_true rfl) dX2_init_36 (fun H locs hH => ?_)
  have hH : zIH D h s ((h, .inr (2, [.ref q1, .int 0, .int 0, .int 1, .ref (t 0), .int 0, .int 0, .int 0, .int 0])) :: ([(q1, .inl (cy 9, 10, .inr (.inr (.inr (.inr (fun _ => none))))))] ++ wTx cy t)) _ _ := hH
  refine lv_aload_n hx hb dX2_init_39 rfl (lv_at hl 0 rfl) ?_
  refine lv_iconst (v := (0 : Int32)) hx hb dX2_init_40 (by decide) ?_
  refine iPut C0 hH zK2 rfl 5 (by decide) kF_X2_34 rfl rfl (Nat.le_of_ble_eq_true rfl) dX2_init_41 (fun H locs hH => ?_)
  have hH : zIH D h s ((h, .inr (2, [.ref q1, .int 0, .int 0, .int 1, .ref (t 0), .int 0, .int 0, .int 0, .int 0])) :: ([(q1, .inl (cy 9, 10, .inr (.inr (.inr (.inr (fun _ => none))))))] ++ wTx cy t)) _ _ := hH
  refine lv_aload_n hx hb dX2_init_44 rfl (lv_at hl 0 rfl) ?_
  refine lv_iconst (v := (0 : Int32)) hx hb dX2_init_45 (by decide) ?_
  refine iPut C0 hH zK2 rfl 6 (by decide) kF_X2_37 rfl rfl (Nat.le_of_ble_eq_true rfl) dX2_init_46 (fun H locs hH => ?_)
  have hH : zIH D h s ((h, .inr (2, [.ref q1, .int 0, .int 0, .int 1, .ref (t 0), .int 0, .int 0, .int 0, .int 0])) :: ([(q1, .inl (cy 9, 10, .inr (.inr (.inr (.inr (fun _ => none))))))] ++ wTx cy t)) _ _ := hH
  refine lv_aload_n hx hb dX2_init_49 rfl (lv_at hl 0 rfl) ?_
  refine lv_iconst (v := (0 : Int32)) hx hb dX2_init_50 (by decide) ?_
  refine iPut C0 hH zK2 rfl 7 (by decide) kF_X2_40 rfl rfl (Nat.le_of_ble_eq_true rfl) dX2_init_51 (fun H locs hH => ?_)
  have hH : zIH D h s ((h, .inr (2, [.ref q1, .int 0, .int 0, .int 1, .ref (t 0), .int 0, .int 0, .int 0, .int 0])) :: ([(q1, .inl (cy 9, 10, .inr (.inr (.inr (.inr (fun _ => none))))))] ++ wTx cy t)) _ _ := hH
  refine lv_aload_n hx hb dX2_init_54 rfl (lv_at hl 0 rfl) ?_
  refine lv_iconst (v := (0 : Int32)) hx hb dX2_init_55 (by decide) ?_
  refine iPut C0 hH zK2 rfl 8 (by decide) kF_X2_43 rfl rfl (Nat.le_of_ble_eq_true rfl) dX2_init_56 (fun H locs hH => ?_)
  have hH : zIH D h s ((h, .inr (2, [.ref q1, .int 0, .int 0, .int 1, .ref (t 0), .int 0, .int 0, .int 0, .int 0])) :: ([(q1, .inl (cy 9, 10, .inr (.inr (.inr (.inr (fun _ => none))))))] ++ wTx cy t)) _ _ := hH
  refine lv_iconst (v := (0 : Int32)) hx hb dX2_init_59 (by decide) ?_
  refine lv_istore_n (lv' := [(1, .int 0), (0, .ref h)]) hx hb dX2_init_60 rfl hl (by decide) rfl (fun ls hl => ?_)
  refine row_iter C0 (by decide) (i := 0) (by decide) (by unfold vp_in; decide) (j := 1) (by decide) (k := 0) (by decide) rfl hH hl (by decide) (by decide) (fun b0 H locs ls hH hl => ?_)
  refine row_iter C0 (by decide) (i := 1) (by decide) (by unfold vp_in; decide) (j := 2) (by decide) (k := 1) (by decide) rfl hH hl (by decide) (by decide) (fun b1 H locs ls hH hl => ?_)
  refine row_iter C0 (by decide) (i := 2) (by decide) (by unfold vp_in; decide) (j := 3) (by decide) (k := 2) (by decide) rfl hH hl (by decide) (by decide) (fun b2 H locs ls hH hl => ?_)
  refine row_iter C0 (by decide) (i := 3) (by decide) (by unfold vp_in; decide) (j := 4) (by decide) (k := 3) (by decide) rfl hH hl (by decide) (by decide) (fun b3 H locs ls hH hl => ?_)
  refine row_iter C0 (by decide) (i := 4) (by decide) (by unfold vp_in; decide) (j := 5) (by decide) (k := 4) (by decide) rfl hH hl (by decide) (by decide) (fun b4 H locs ls hH hl => ?_)
  refine row_iter C0 (by decide) (i := 5) (by decide) (by unfold vp_in; decide) (j := 6) (by decide) (k := 5) (by decide) rfl hH hl (by decide) (by decide) (fun b5 H locs ls hH hl => ?_)
  refine row_iter C0 (by decide) (i := 6) (by decide) (by unfold vp_in; decide) (j := 7) (by decide) (k := 6) (by decide) rfl hH hl (by decide) (by decide) (fun b6 H locs ls hH hl => ?_)
  refine row_iter C0 (by decide) (i := 7) (by decide) (by unfold vp_in; decide) (j := 8) (by decide) (k := 7) (by decide) rfl hH hl (by decide) (by decide) (fun b7 H locs ls hH hl => ?_)
  refine row_iter C0 (by decide) (i := 8) (by decide) (by unfold vp_in; decide) (j := 9) (by decide) (k := 8) (by decide) rfl hH hl (by decide) (by decide) (fun b8 H locs ls hH hl => ?_)
  refine row_iter C0 (by decide) (i := 9) (by decide) (by unfold vp_in; decide) (j := 10) (by decide) (k := 9) (by decide) rfl hH hl (by decide) (by decide) (fun b9 H locs ls hH hl => ?_)
  refine lv_iload_n hx hb dX2_init_61 rfl (lv_at hl 0 rfl) ?_
  refine lv_bipush (v := (10 : Int32)) hx hb dX2_init_62 (by decide) ?_
  refine lv_icmp_ge (tgt := 86) hx hb dX2_init_64 (by decide) (fun _ => ?_) (fun hc => absurd (by decide) hc)
  obtain ⟨u, hu⟩ : ∃ u : Nat → Nat, u = (fun c => match c with | 0 => h | 1 => q1 | 2 => b0 | 3 => b1 | 4 => b2 | 5 => b3 | 6 => b4 | 7 => b5 | 8 => b6 | 9 => b7 | 10 => b8 | 11 => b9 | 12 => t 0 | _ => t 1) := ⟨_, rfl⟩
  have hH : zIH D h s ([(h, .inr (2, [.ref q1, .int 0, .int 0, .int 1, .ref (t 0), .int 0, .int 0, .int 0, .int 0]))] ++ (q1, .inl (cy 9, 10, .inr (.inr (.inr (.inr (va_up (va_up (va_up (va_up (va_up (va_up (va_up (va_up (va_up (va_up (fun _ => none) 0 (some b0)) 1 (some b1)) 2 (some b2)) 3 (some b3)) 4 (some b4)) 5 (some b5)) 6 (some b6)) 7 (some b7)) 8 (some b8)) 9 (some b9))))))) :: (wTx cy t ++ [(b0, .inr (0, df0)), (b1, .inr (0, df0)), (b2, .inr (0, df0)), (b3, .inr (0, df0)), (b4, .inr (0, df0)), (b5, .inr (0, df0)), (b6, .inr (0, df0)), (b7, .inr (0, df0)), (b8, .inr (0, df0)), (b9, .inr (0, df0))])) _ _ := hH
  have hH := zIH.perm hH (List.Perm.append_left _ (List.Perm.cons _ List.perm_append_comm))
  have hP := va_P.refs (g := fun k => some (u (2 + k))) hH.1 (fun k hk => by
    have h10 : k = 0 ∨ k = 1 ∨ k = 2 ∨ k = 3 ∨ k = 4 ∨ k = 5 ∨ k = 6 ∨ k = 7 ∨ k = 8 ∨ k = 9 := by omega
    subst hu
    rcases h10 with rfl | rfl | rfl | rfl | rfl | rfl | rfl | rfl | rfl | rfl <;> rfl)
  have hD := va_D.same (w' := wRow cy u) hH.2.1 (by subst hu; rfl)
  have hP : va_P D vwCl (wRow cy u) H := by subst hu; exact hP
  refine W.widen (k := 13) (n := 191) (by decide) (by decide) ?_
  exact iRet (w := wRow cy) u C0 ⟨hP, hD, hH.2.2⟩ (by subst hu; rfl) dX2_init_86
