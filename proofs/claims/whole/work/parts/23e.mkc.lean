def wRowF (cy : Nat → ClassId) (a : Nat → Nat) (f : Nat → Option Nat) : va_W := [(a 0, .inr (2, [.ref (a 1), .int 0, .int 0, .int 1, .ref (a 12), .int 0, .int 0, .int 0, .int 0])), (a 1, .inl (cy 9, 10, .inr (.inr (.inr (.inr f))))), (a 2, .inr (0, df0)), (a 3, .inr (0, df0)), (a 4, .inr (0, df0)), (a 5, .inr (0, df0)), (a 6, .inr (0, df0)), (a 7, .inr (0, df0)), (a 8, .inr (0, df0)), (a 9, .inr (0, df0)), (a 10, .inr (0, df0)), (a 11, .inr (0, df0)), (a 12, .inr (4, [.ref (a 13), .int 0, .int 0, .int 0, .int 0, .int 0, .int 0, .int 0, .int 0, .int 0, .int 0])), (a 13, .inl (cy 7, 60, .inl (fun _ => 0)))]
theorem wRowF_at {D : va_G} {cy : Nat → ClassId} {a : Nat → Nat} {f : Nat → Option Nat} {H : Heap} (h : va_P D vwCl (wRow cy a) H) (hf : ∀ k, k < 10 → f k = some (a (2 + k))) : va_P D vwCl (wRowF cy a f) H :=
  va_P.refs (w0 := [(a 0, .inr (2, [.ref (a 1), .int 0, .int 0, .int 1, .ref (a 12), .int 0, .int 0, .int 0, .int 0]))]) (g := f) h (fun k hk => (hf k hk).symm)
theorem va_P.left {D : va_G} {cl : List vw_C} {w1 w2 : va_W} {H : Heap} (h : va_P D cl (w1 ++ w2) H) : va_P D cl w1 H := va_P_mem.mpr fun q hq => va_P_mem.mp h q (List.mem_append_left _ hq)
theorem va_P.right {D : va_G} {cl : List vw_C} {w1 w2 : va_W} {H : Heap} (h : va_P D cl (w1 ++ w2) H) : va_P D cl w2 H := va_P_mem.mpr fun q hq => va_P_mem.mp h q (List.mem_append_right _ hq)
def m0C : zM := (fun c => if c = 1 then (fun k => if k = 3 then 1 else 0) else if c = 15 then (fun k => if k = 3 then 1 else 0) else if c = 29 then (fun k => if k = 3 then 1 else 0) else (fun _ => 0), fun _ _ => 0)
def adC (h : Nat) (u1 u2 u3 u4 u5 u6 : Nat → Nat) (sa : Nat) (v0 v1 v2 v3 : Nat → Nat) (fo : Nat) (c : Nat) : Nat :=
  if c = 0 then h else if c < 15 then u1 (c - 1) else if c < 29 then u2 (c - 15) else if c < 43 then u3 (c - 29) else if c < 48 then u4 (c - 43) else if c < 53 then u5 (c - 48) else if c < 55 then u6 (c - 53) else if c = 55 then sa else if c < 58 then v0 (c - 56) else if c < 60 then v1 (c - 58) else if c < 62 then v2 (c - 60) else if c < 64 then v3 (c - 62) else fo
def wX5 (cy : Nat → ClassId) (u : Nat → Nat) (h : Nat) (u1 u2 u3 u4 u5 u6 : Nat → Nat) (sa : Nat) (v0 v1 v2 v3 : Nat → Nat) (fo : Nat) : va_W :=
  [(h, .inr (5, [.ref (u1 0), .ref (u2 0), .ref (u3 0), .ref (u4 0), .ref (u5 0), .int 0, .ref (u6 0), .ref sa, .ref fo]))] ++ (wRowF cy u1 (fun k => some (u (2 + 1 + k))) ++ (wRowF cy u2 (fun k => some (u (16 + 1 + k))) ++ (wRowF cy u3 (fun k => some (u (30 + 1 + k))) ++ (wBk cy u4 ++ (wBk cy u5 ++ (wTx cy u6 ++ ([(sa, .inl (cy 10, 4, .inr (.inr (.inr (.inr (fun k => some (u (55 + 1 + 2 * k))))))))] ++ (wSh cy v0 ++ (wSh cy v1 ++ (wSh cy v2 ++ (wSh cy v3 ++ [(fo, .inl (cy 7, 7, .inl (fun _ => 0)))])))))))))))
set_option maxRecDepth 100000 in
set_option maxHeartbeats 4000000 in
theorem wX5_eq {cy : Nat → ClassId} {h : Nat} {u1 u2 u3 u4 u5 u6 : Nat → Nat} {sa : Nat} {v0 v1 v2 v3 : Nat → Nat} {fo : Nat} : zC lyC cy (adC h u1 u2 u3 u4 u5 u6 sa v0 v1 v2 v3 fo) m0C = wX5 cy (adC h u1 u2 u3 u4 u5 u6 sa v0 v1 v2 v3 fo) h u1 u2 u3 u4 u5 u6 sa v0 v1 v2 v3 fo := rfl
section IITER5
variable {p : Program} {l : Launch} {e : Env} {R : Room} {s : State} {m : MethodId} {args : Array Value} {below : List Frame} {meth : Method} {c : Code} {H : Heap} {locs : List Loc} {cells slots : Nat} {Q : State → Prop}
variable {ls : Array Slot} {cw : Cond} {D : va_G} {cy : Nat → ClassId} {h : Nat}
/-- one turn of DoorCreaks()'s loop -/
theorem sheet_iter (C0 : zIF p m c cX5_init 2 s args RX5 cw D cy meth) (hR : 2 ≤ R.frames ∧ 32 ≤ R.locals) {i : Int32} (hi : ¬ 4 ≤ i) (hin : vp_in i 4) {j : Int32} (hj : i + 1 = j) {k : Nat} (hk : i.toNatClampNeg = k) {arr : Nat} {f : Nat → Option Nat} {fs : List Value} {ws : va_W} (hfs : fs[7]? = some (.ref arr)) (hH : zIH D h s ((h, .inr (5, fs)) :: (arr, .inl (cy 10, 4, .inr (.inr (.inr (.inr f))))) :: ws) H locs) (hl : lv_has ls 2 [(1, .int i), (0, .ref h)]) (hcells : cells + 2 ≤ R.cells) (hslots : slots + 43 ≤ R.slots)
    (kk : ∀ (a : Nat → Nat) (H1 : Heap) (locs1 : List Loc) (ls1 : Array Slot), zIH D h s ((h, .inr (5, fs)) :: (arr, .inl (cy 10, 4, .inr (.inr (.inr (.inr (va_up f k (some (a 0)))))))) :: (ws ++ wSh cy a)) H1 locs1 → lv_has ls1 2 [(1, .int j), (0, .ref h)] → W p l e R s m args below meth c H1 locs1 (cells + 2) (slots + 43) Q (F0 m 93 ls1 [])) : W p l e R s m args below meth c H locs cells slots Q (F0 m 93 ls []) := by
  subst hj
  subst hk
  obtain ⟨hx, hb⟩ := And.intro C0.1.1 C0.1.2.1
  refine lv_iload_n hx hb dX5_init_93 rfl (lv_at hl 0 rfl) ?_
  refine lv_iconst (v := (4 : Int32)) hx hb dX5_init_94 (by decide) ?_
  refine lv_icmp_ge (tgt := 117) hx hb dX5_init_95 (by decide) (fun hc => absurd hc hi) (fun _ => ?_)
  refine lv_aload_n hx hb dX5_init_98 rfl (lv_at hl 1 rfl) ?_
  refine iGet C0 hH zK5 7 (by decide) kF_X5_45 hfs dX5_init_99 ?_
  refine lv_iload_n hx hb dX5_init_102 rfl (lv_at hl 0 rfl) ?_
  refine iNew C0 hH zK3 kL_X5_43 kO_X3 kC_X3 dfok3 (by omega) (by omega) dX5_init_103 (fun x H hH => ?_)
  refine lv_dup hx hb dX5_init_106 rfl ?_
  refine iCallN C0 hH (c_X3_init l D cy x H.size) kN_X5_53 zn3 hl.1 rfl rfl ⟨by show 1 + 1 ≤ R.frames; omega, by show 8 + (1 + 11) + 12 ≤ R.locals; omega⟩ ⟨by omega, by omega⟩ (Nat.le_of_ble_eq_true rfl) dX5_init_107 (fun a H locs ha hH2 => ?_)
  subst ha
  have hH : zIH D h s ((h, .inr (5, fs)) :: (arr, .inl (cy 10, 4, .inr (.inr (.inr (.inr f))))) :: (ws ++ wSh cy a)) _ _ := hH2
  refine iAstq C0 (Or.inr ⟨rfl, rfl⟩) zK3 hH (List.mem_append_right _ List.mem_cons_self) hin dX5_init_110 (fun H locs hH => ?_)
  refine ziinc (lv' := [(1, _), (0, _)]) (k := 0) hx hb (1 : Int32) (by decide) dX5_init_111 hl rfl (by decide) rfl (fun ls hl => ?_)
  refine lv_goto (tgt := 93) hx hb dX5_init_114 (by decide) ?_
  exact kk a H locs ls hH hl
end IITER5
/-- the world of a new DoorCreaks, laid out -/
theorem zIH_wX5 {D : va_G} {cy : Nat → ClassId} {h : Nat} {s : State} {H : Heap} {locs : List Loc} {u1 u2 u3 u4 u5 u6 : Nat → Nat} {sa : Nat} {v0 v1 v2 v3 : Nat → Nat} {fo : Nat}
    (hH : zIH D h s ((h, .inr (5, [.ref (u1 0), .ref (u2 0), .ref (u3 0), .ref (u4 0), .ref (u5 0), .int 0, .ref (u6 0), .ref sa, .ref fo])) :: (sa, .inl (cy 10, 4, .inr (.inr (.inr (.inr (va_up (va_up (va_up (va_up (fun _ => none) 0 (some (v0 0))) 1 (some (v1 0))) 2 (some (v2 0))) 3 (some (v3 0)))))))) :: ((((((((((wRow cy u1 ++ wRow cy u2) ++ wRow cy u3) ++ wBk cy u4) ++ wBk cy u5) ++ wTx cy u6) ++ [(fo, .inl (cy 7, 7, .inl (fun _ => 0)))]) ++ wSh cy v0) ++ wSh cy v1) ++ wSh cy v2) ++ wSh cy v3)) H locs) : zIH D h s (zC lyC cy (adC h u1 u2 u3 u4 u5 u6 sa v0 v1 v2 v3 fo) m0C) H locs := by
  obtain ⟨hP, hD, hS⟩ := hH
  have hPo : va_P D vwCl [(h, .inr (5, [.ref (u1 0), .ref (u2 0), .ref (u3 0), .ref (u4 0), .ref (u5 0), .int 0, .ref (u6 0), .ref sa, .ref fo]))] H := va_P.left (w1 := [(h, .inr (5, [.ref (u1 0), .ref (u2 0), .ref (u3 0), .ref (u4 0), .ref (u5 0), .int 0, .ref (u6 0), .ref sa, .ref fo]))]) hP
  have hP1 : va_P D vwCl ((sa, .inl (cy 10, 4, .inr (.inr (.inr (.inr (va_up (va_up (va_up (va_up (fun _ => none) 0 (some (v0 0))) 1 (some (v1 0))) 2 (some (v2 0))) 3 (some (v3 0)))))))) :: ((((((((((wRow cy u1 ++ wRow cy u2) ++ wRow cy u3) ++ wBk cy u4) ++ wBk cy u5) ++ wTx cy u6) ++ [(fo, .inl (cy 7, 7, .inl (fun _ => 0)))]) ++ wSh cy v0) ++ wSh cy v1) ++ wSh cy v2) ++ wSh cy v3)) H := va_P.right (w1 := [(h, .inr (5, [.ref (u1 0), .ref (u2 0), .ref (u3 0), .ref (u4 0), .ref (u5 0), .int 0, .ref (u6 0), .ref sa, .ref fo]))]) hP
  have hPs : va_P D vwCl [(sa, .inl (cy 10, 4, .inr (.inr (.inr (.inr (va_up (va_up (va_up (va_up (fun _ => none) 0 (some (v0 0))) 1 (some (v1 0))) 2 (some (v2 0))) 3 (some (v3 0))))))))] H := va_P.left (w1 := [(sa, .inl (cy 10, 4, .inr (.inr (.inr (.inr (va_up (va_up (va_up (va_up (fun _ => none) 0 (some (v0 0))) 1 (some (v1 0))) 2 (some (v2 0))) 3 (some (v3 0))))))))]) hP1
  have hPr : va_P D vwCl ((((((((((wRow cy u1 ++ wRow cy u2) ++ wRow cy u3) ++ wBk cy u4) ++ wBk cy u5) ++ wTx cy u6) ++ [(fo, .inl (cy 7, 7, .inl (fun _ => 0)))]) ++ wSh cy v0) ++ wSh cy v1) ++ wSh cy v2) ++ wSh cy v3) H := va_P.right (w1 := [(sa, .inl (cy 10, 4, .inr (.inr (.inr (.inr (va_up (va_up (va_up (va_up (fun _ => none) 0 (some (v0 0))) 1 (some (v1 0))) 2 (some (v2 0))) 3 (some (v3 0))))))))]) hP1
  have s3 := hPr.right
  have hPr := hPr.left
  have s2 := hPr.right
  have hPr := hPr.left
  have s1 := hPr.right
  have hPr := hPr.left
  have s0 := hPr.right
  have hPr := hPr.left
  have pf := hPr.right
  have hPr := hPr.left
  have p6 := hPr.right
  have hPr := hPr.left
  have p5 := hPr.right
  have hPr := hPr.left
  have p4 := hPr.right
  have hPr := hPr.left
  have p3 := hPr.right
  have hPr := hPr.left
  have p2 := hPr.right
  have p1 := hPr.left
  refine ⟨?_, ?_, hS⟩
  · rw [wX5_eq]
    have q1 := wRowF_at (f := fun k => some (adC h u1 u2 u3 u4 u5 u6 sa v0 v1 v2 v3 fo (2 + 1 + k))) p1 (fun k hk => by
      show some (adC h u1 u2 u3 u4 u5 u6 sa v0 v1 v2 v3 fo (2 + 1 + k)) = _
      unfold adC
      rw [if_neg (by omega), if_pos (by omega), show 2 + 1 + k - 1 = 2 + k by omega])
    have q2 := wRowF_at (f := fun k => some (adC h u1 u2 u3 u4 u5 u6 sa v0 v1 v2 v3 fo (16 + 1 + k))) p2 (fun k hk => by
      show some (adC h u1 u2 u3 u4 u5 u6 sa v0 v1 v2 v3 fo (16 + 1 + k)) = _
      unfold adC
      rw [if_neg (by omega), if_neg (by omega), if_pos (by omega), show 16 + 1 + k - 15 = 2 + k by omega])
    have q3 := wRowF_at (f := fun k => some (adC h u1 u2 u3 u4 u5 u6 sa v0 v1 v2 v3 fo (30 + 1 + k))) p3 (fun k hk => by
      show some (adC h u1 u2 u3 u4 u5 u6 sa v0 v1 v2 v3 fo (30 + 1 + k)) = _
      unfold adC
      rw [if_neg (by omega), if_neg (by omega), if_neg (by omega), if_pos (by omega), show 30 + 1 + k - 29 = 2 + k by omega])
    have qs := va_P.refs (w0 := []) (w1 := []) (g := fun k => some (adC h u1 u2 u3 u4 u5 u6 sa v0 v1 v2 v3 fo (55 + 1 + 2 * k))) hPs (fun k hk => by
      rcases (show k = 0 ∨ k = 1 ∨ k = 2 ∨ k = 3 by omega) with rfl | rfl | rfl | rfl <;> rfl)
    exact va_P.app hPo (va_P.app q1 (va_P.app q2 (va_P.app q3 (va_P.app p4 (va_P.app p5 (va_P.app p6 (va_P.app qs (va_P.app s0 (va_P.app s1 (va_P.app s2 (va_P.app s3 pf)))))))))))
  · rw [wX5_eq]
    have hp : ((h, .inr (5, [.ref (u1 0), .ref (u2 0), .ref (u3 0), .ref (u4 0), .ref (u5 0), .int 0, .ref (u6 0), .ref sa, .ref fo])) :: (sa, .inl (cy 10, 4, .inr (.inr (.inr (.inr (va_up (va_up (va_up (va_up (fun _ => none) 0 (some (v0 0))) 1 (some (v1 0))) 2 (some (v2 0))) 3 (some (v3 0)))))))) :: ((((((((((wRow cy u1 ++ wRow cy u2) ++ wRow cy u3) ++ wBk cy u4) ++ wBk cy u5) ++ wTx cy u6) ++ [(fo, .inl (cy 7, 7, .inl (fun _ => 0)))]) ++ wSh cy v0) ++ wSh cy v1) ++ wSh cy v2) ++ wSh cy v3)).Perm ((h, .inr (5, [.ref (u1 0), .ref (u2 0), .ref (u3 0), .ref (u4 0), .ref (u5 0), .int 0, .ref (u6 0), .ref sa, .ref fo])) :: ((((((wRow cy u1 ++ wRow cy u2) ++ wRow cy u3) ++ wBk cy u4) ++ wBk cy u5) ++ wTx cy u6) ++ (sa, .inl (cy 10, 4, .inr (.inr (.inr (.inr (va_up (va_up (va_up (va_up (fun _ => none) 0 (some (v0 0))) 1 (some (v1 0))) 2 (some (v2 0))) 3 (some (v3 0)))))))) :: ((((wSh cy v0) ++ wSh cy v1) ++ wSh cy v2) ++ wSh cy v3 ++ [(fo, .inl (cy 7, 7, .inl (fun _ => 0)))]))) := by
      refine List.Perm.cons _ (List.Perm.trans (List.Perm.cons _ ?_) List.perm_middle.symm)
      simp only [List.append_assoc]
      refine List.Perm.append_left _ (List.Perm.append_left _ (List.Perm.append_left _ (List.Perm.append_left _ (List.Perm.append_left _ (List.Perm.append_left _ ?_)))))
      have e : wSh cy v0 ++ (wSh cy v1 ++ (wSh cy v2 ++ (wSh cy v3 ++ [(fo, .inl (cy 7, 7, .inl (fun _ => 0)))]))) = (wSh cy v0 ++ (wSh cy v1 ++ (wSh cy v2 ++ wSh cy v3))) ++ [(fo, .inl (cy 7, 7, .inl (fun _ => 0)))] := by simp only [List.append_assoc]
      rw [e]
      exact List.perm_append_comm
    exact va_D.same (hD.perm hp) rfl
set_option maxHeartbeats 4000000 in
set_option maxRecDepth 20000 in
/-- DoorCreaks() -/
theorem c_X5_init (l : Launch) (D : va_G) (cy : Nat → ClassId) (h sz : Nat) : Met l yX5_init (Cond.code yX5_init cX5_init 2 none :: zG) { frames := 3, cells := 64, slots := 1484, locals := 53 } (zIP D cy h sz 5 df5) (zIQ D h sz (fun a => zC lyC cy a m0C)) 64 1484 (zIA h sz) := by
  refine zIMet (by decide) rfl (by decide) ?_
  intro p e s m args below meth c ls C0 hH hl
  obtain ⟨hx, hb⟩ := And.intro C0.1.1 C0.1.2.1
  refine lv_aload_n hx hb dX5_init_0 rfl (lv_at hl 0 rfl) ?_
  refine iObj C0 hl.1 kM_X5_3 (by decide) (by decide) dX5_init_1 ?_
  refine lv_aload_n hx hb dX5_init_4 rfl (lv_at hl 0 rfl) ?_
  refine iNew C0 hH zK2 kL_X5_9 kO_X2 kC_X2 dfok2 (by decide) (by decide) dX5_init_5 (fun x H hH => ?_)
  refine lv_dup hx hb dX5_init_8 rfl ?_
  refine iCall C0 hH (c_X2_init l D cy x H.size) kM_X5_11 zn2 hl.1 rfl rfl (by decide) (by decide) (Nat.le_of_ble_eq_true rfl) dX5_init_9 (fun u1 H locs ha hH2 => ?_)
  subst ha
  have hH : zIH D h s ((h, .inr (5, [.null, .null, .null, .null, .null, .int 0, .null, .null, .null])) :: wRow cy u1) _ _ := hH2
  refine iPut C0 hH zK5 rfl 0 (by decide) kF_X5_12 rfl rfl (Nat.le_of_ble_eq_true rfl) dX5_init_12 (fun H locs hH => ?_)
  have hH : zIH D h s ((h, .inr (5, [.ref (u1 0), .null, .null, .null, .null, .int 0, .null, .null, .null])) :: wRow cy u1) _ _ := hH
  refine lv_aload_n hx hb dX5_init_15 rfl (lv_at hl 0 rfl) ?_
  refine iNew C0 hH zK2 kL_X5_9 kO_X2 kC_X2 dfok2 (by decide) (by decide) dX5_init_16 (fun x H hH => ?_)
  refine lv_dup hx hb dX5_init_19 rfl ?_
  refine iCall C0 hH (c_X2_init l D cy x H.size) kM_X5_11 zn2 hl.1 rfl rfl (by decide) (by decide) (Nat.le_of_ble_eq_true rfl) dX5_init_20 (fun u2 H locs ha hH2 => ?_)
  subst ha
  have hH : zIH D h s ((h, .inr (5, [.ref (u1 0), .null, .null, .null, .null, .int 0, .null, .null, .null])) :: (wRow cy u1 ++ wRow cy u2)) _ _ := hH2
  refine iPut C0 hH zK5 rfl 1 (by decide) kF_X5_16 rfl rfl (Nat.le_of_ble_eq_true rfl) dX5_init_23 (fun H locs hH => ?_)
  have hH : zIH D h s ((h, .inr (5, [.ref (u1 0), .ref (u2 0), .null, .null, .null, .int 0, .null, .null, .null])) :: (wRow cy u1 ++ wRow cy u2)) _ _ := hH
  refine lv_aload_n hx hb dX5_init_26 rfl (lv_at hl 0 rfl) ?_
  refine iNew C0 hH zK2 kL_X5_9 kO_X2 kC_X2 dfok2 (by decide) (by decide) dX5_init_27 (fun x H hH => ?_)
  refine lv_dup hx hb dX5_init_30 rfl ?_
  refine iCall C0 hH (c_X2_init l D cy x H.size) kM_X5_11 zn2 hl.1 rfl rfl (by decide) (by decide) (Nat.le_of_ble_eq_true rfl) dX5_init_31 (fun u3 H locs ha hH2 => ?_)
  subst ha
  have hH : zIH D h s ((h, .inr (5, [.ref (u1 0), .ref (u2 0), .null, .null, .null, .int 0, .null, .null, .null])) :: ((wRow cy u1 ++ wRow cy u2) ++ wRow cy u3)) _ _ := hH2
  refine iPut C0 hH zK5 rfl 2 (by decide) kF_X5_19 rfl rfl (Nat.le_of_ble_eq_true rfl) dX5_init_34 (fun H locs hH => ?_)
  have hH : zIH D h s ((h, .inr (5, [.ref (u1 0), .ref (u2 0), .ref (u3 0), .null, .null, .int 0, .null, .null, .null])) :: ((wRow cy u1 ++ wRow cy u2) ++ wRow cy u3)) _ _ := hH
  refine lv_aload_n hx hb dX5_init_37 rfl (lv_at hl 0 rfl) ?_
  refine iNew C0 hH zK1 kL_X5_22 kO_X1 kC_X1 dfok1 (by decide) (by decide) dX5_init_38 (fun x H hH => ?_)
  refine lv_dup hx hb dX5_init_41 rfl ?_
  refine iCallN C0 hH (c_X1_init l D cy x H.size) kN_X5_24 zn1 hl.1 rfl rfl (by decide) (by decide) (Nat.le_of_ble_eq_true rfl) dX5_init_42 (fun u4 H locs ha hH2 => ?_)
  subst ha
  have hH : zIH D h s ((h, .inr (5, [.ref (u1 0), .ref (u2 0), .ref (u3 0), .null, .null, .int 0, .null, .null, .null])) :: (((wRow cy u1 ++ wRow cy u2) ++ wRow cy u3) ++ wBk cy u4)) _ _ := hH2
  refine iPut C0 hH zK5 rfl 3 (by decide) kF_X5_25 rfl rfl (Nat.le_of_ble_eq_true rfl) dX5_init_45 (fun H locs hH => ?_)
  have hH : zIH D h s ((h, .inr (5, [.ref (u1 0), .ref (u2 0), .ref (u3 0), .ref (u4 0), .null, .int 0, .null, .null, .null])) :: (((wRow cy u1 ++ wRow cy u2) ++ wRow cy u3) ++ wBk cy u4)) _ _ := hH
  refine lv_aload_n hx hb dX5_init_48 rfl (lv_at hl 0 rfl) ?_
  refine iNew C0 hH zK1 kL_X5_22 kO_X1 kC_X1 dfok1 (by decide) (by decide) dX5_init_49 (fun x H hH => ?_)
  refine lv_dup hx hb dX5_init_52 rfl ?_
  refine iCallN C0 hH (c_X1_init l D cy x H.size) kN_X5_24 zn1 hl.1 rfl rfl (by decide) (by decide) (Nat.le_of_ble_eq_true rfl) dX5_init_53 (fun u5 H locs ha hH2 => ?_)
  subst ha
  have hH : zIH D h s ((h, .inr (5, [.ref (u1 0), .ref (u2 0), .ref (u3 0), .ref (u4 0), .null, .int 0, .null, .null, .null])) :: ((((wRow cy u1 ++ wRow cy u2) ++ wRow cy u3) ++ wBk cy u4) ++ wBk cy u5)) _ _ := hH2
  refine iPut C0 hH zK5 rfl 4 (by decide) kF_X5_29 rfl rfl (Nat.le_of_ble_eq_true rfl) dX5_init_56 (fun H locs hH => ?_)
  have hH : zIH D h s ((h, .inr (5, [.ref (u1 0), .ref (u2 0), .ref (u3 0), .ref (u4 0), .ref (u5 0), .int 0, .null, .null, .null])) :: ((((wRow cy u1 ++ wRow cy u2) ++ wRow cy u3) ++ wBk cy u4) ++ wBk cy u5)) _ _ := hH
  refine lv_aload_n hx hb dX5_init_59 rfl (lv_at hl 0 rfl) ?_
  refine lv_iconst (v := (0 : Int32)) hx hb dX5_init_60 (by decide) ?_
  refine iPut C0 hH zK5 rfl 5 (by decide) kF_X5_32 rfl rfl (Nat.le_of_ble_eq_true rfl) dX5_init_61 (fun H locs hH => ?_)
  have hH : zIH D h s ((h, .inr (5, [.ref (u1 0), .ref (u2 0), .ref (u3 0), .ref (u4 0), .ref (u5 0), .int 0, .null, .null, .null])) :: ((((wRow cy u1 ++ wRow cy u2) ++ wRow cy u3) ++ wBk cy u4) ++ wBk cy u5)) _ _ := hH
  refine lv_aload_n hx hb dX5_init_64 rfl (lv_at hl 0 rfl) ?_
  refine iNew C0 hH zK4 kL_X5_36 kO_X4 kC_X4 dfok4 (by decide) (by decide) dX5_init_65 (fun x H hH => ?_)
  refine lv_dup hx hb dX5_init_68 rfl ?_
  refine iCallN C0 hH (c_X4_init l D cy x H.size) kN_X5_38 zn4 hl.1 rfl rfl (by decide) (by decide) (Nat.le_of_ble_eq_true rfl) dX5_init_69 (fun u6 H locs ha hH2 => ?_)
  subst ha
  have hH : zIH D h s ((h, .inr (5, [.ref (u1 0), .ref (u2 0), .ref (u3 0), .ref (u4 0), .ref (u5 0), .int 0, .null, .null, .null])) :: (((((wRow cy u1 ++ wRow cy u2) ++ wRow cy u3) ++ wBk cy u4) ++ wBk cy u5) ++ wTx cy u6)) _ _ := hH2
  refine iPut C0 hH zK5 rfl 6 (by decide) kF_X5_39 rfl rfl (Nat.le_of_ble_eq_true rfl) dX5_init_72 (fun H locs hH => ?_)
  have hH : zIH D h s ((h, .inr (5, [.ref (u1 0), .ref (u2 0), .ref (u3 0), .ref (u4 0), .ref (u5 0), .int 0, .ref (u6 0), .null, .null])) :: (((((wRow cy u1 ++ wRow cy u2) ++ wRow cy u3) ++ wBk cy u4) ++ wBk cy u5) ++ wTx cy u6)) _ _ := hH
  refine lv_aload_n hx hb dX5_init_75 rfl (lv_at hl 0 rfl) ?_
  refine lv_iconst (v := (4 : Int32)) hx hb dX5_init_76 (by decide) ?_
  refine iNewQ (κ := 10) C0 hH (Or.inr ⟨rfl, rfl⟩) kL_X5_43 4 (by decide) (by decide) (by decide) (by decide) (by decide) dX5_init_77 (fun sa H hH => ?_)
  have hH : zIH D h s ((h, .inr (5, [.ref (u1 0), .ref (u2 0), .ref (u3 0), .ref (u4 0), .ref (u5 0), .int 0, .ref (u6 0), .null, .null])) :: ((((((wRow cy u1 ++ wRow cy u2) ++ wRow cy u3) ++ wBk cy u4) ++ wBk cy u5) ++ wTx cy u6) ++ [(sa, .inl (cy 10, 4, .inr (.inr (.inr (.inr (fun _ => none))))))])) _ _ := hH
  refine iPut C0 hH zK5 rfl 7 (by decide) kF_X5_45 rfl rfl (Nat.le_of_ble_eq_true rfl) dX5_init_80 (fun H locs hH => ?_)
  have hH : zIH D h s ((h, .inr (5, [.ref (u1 0), .ref (u2 0), .ref (u3 0), .ref (u4 0), .ref (u5 0), .int 0, .ref (u6 0), .ref sa, .null])) :: ((((((wRow cy u1 ++ wRow cy u2) ++ wRow cy u3) ++ wBk cy u4) ++ wBk cy u5) ++ wTx cy u6) ++ [(sa, .inl (cy 10, 4, .inr (.inr (.inr (.inr (fun _ => none))))))])) _ _ := hH
  refine lv_aload_n hx hb dX5_init_83 rfl (lv_at hl 0 rfl) ?_
  refine lv_bipush (v := (7 : Int32)) hx hb dX5_init_84 (by decide) ?_
  refine iNewI C0 hH 7 (by decide) (by decide) (by decide) (by decide) (by decide) dX5_init_86 (fun fo H hH => ?_)
  have hH : zIH D h s ((h, .inr (5, [.ref (u1 0), .ref (u2 0), .ref (u3 0), .ref (u4 0), .ref (u5 0), .int 0, .ref (u6 0), .ref sa, .null])) :: (((((((wRow cy u1 ++ wRow cy u2) ++ wRow cy u3) ++ wBk cy u4) ++ wBk cy u5) ++ wTx cy u6) ++ [(sa, .inl (cy 10, 4, .inr (.inr (.inr (.inr (fun _ => none))))))]) ++ [(fo, .inl (cy 7, 7, .inl (fun _ => 0)))])) _ _ := hH
  refine iPut C0 hH zK5 rfl 8 (by decide) kF_X5_49 rfl rfl (Nat.le_of_ble_eq_true rfl) dX5_init_88 (fun H locs hH => ?_)
  have hH : zIH D h s ((h, .inr (5, [.ref (u1 0), .ref (u2 0), .ref (u3 0), .ref (u4 0), .ref (u5 0), .int 0, .ref (u6 0), .ref sa, .ref fo])) :: (((((((wRow cy u1 ++ wRow cy u2) ++ wRow cy u3) ++ wBk cy u4) ++ wBk cy u5) ++ wTx cy u6) ++ [(sa, .inl (cy 10, 4, .inr (.inr (.inr (.inr (fun _ => none))))))]) ++ [(fo, .inl (cy 7, 7, .inl (fun _ => 0)))])) _ _ := hH
  refine lv_iconst (v := (0 : Int32)) hx hb dX5_init_91 (by decide) ?_
  refine lv_istore_n (lv' := [(1, .int 0), (0, .ref h)]) hx hb dX5_init_92 rfl hl (by decide) rfl (fun ls hl => ?_)
  have hH : zIH D h s ((h, .inr (5, [.ref (u1 0), .ref (u2 0), .ref (u3 0), .ref (u4 0), .ref (u5 0), .int 0, .ref (u6 0), .ref sa, .ref fo])) :: (sa, .inl (cy 10, 4, .inr (.inr (.inr (.inr (fun _ => none)))))) :: ((((((wRow cy u1 ++ wRow cy u2) ++ wRow cy u3) ++ wBk cy u4) ++ wBk cy u5) ++ wTx cy u6) ++ [(fo, .inl (cy 7, 7, .inl (fun _ => 0)))])) _ _ := zIH.perm hH (List.Perm.cons _ (by rw [List.append_assoc]; exact List.perm_middle))
  refine sheet_iter C0 (by decide) (i := 0) (by decide) (by unfold vp_in; decide) (j := 1) (by decide) (k := 0) (by decide) rfl hH hl (by decide) (by decide) (fun v0 H locs ls hH hl => ?_)
  refine sheet_iter C0 (by decide) (i := 1) (by decide) (by unfold vp_in; decide) (j := 2) (by decide) (k := 1) (by decide) rfl hH hl (by decide) (by decide) (fun v1 H locs ls hH hl => ?_)
  refine sheet_iter C0 (by decide) (i := 2) (by decide) (by unfold vp_in; decide) (j := 3) (by decide) (k := 2) (by decide) rfl hH hl (by decide) (by decide) (fun v2 H locs ls hH hl => ?_)
  refine sheet_iter C0 (by decide) (i := 3) (by decide) (by unfold vp_in; decide) (j := 4) (by decide) (k := 3) (by decide) rfl hH hl (by decide) (by decide) (fun v3 H locs ls hH hl => ?_)
  refine lv_iload_n hx hb dX5_init_93 rfl (lv_at hl 0 rfl) ?_
  refine lv_iconst (v := (4 : Int32)) hx hb dX5_init_94 (by decide) ?_
  refine lv_icmp_ge (tgt := 117) hx hb dX5_init_95 (by decide) (fun _ => ?_) (fun hc => absurd (by decide) hc)
  refine W.widen (k := 64) (n := 1484) (by decide) (by decide) ?_
  have hW := zIH_wX5 hH
  exact iRet (w := fun a => zC lyC cy a m0C) (adC h u1 u2 u3 u4 u5 u6 sa v0 v1 v2 v3 fo) C0 hW rfl dX5_init_117
