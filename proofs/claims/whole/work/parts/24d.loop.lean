set_option maxRecDepth 20000 in
set_option maxHeartbeats 4000000 in
theorem lw_switch {p : Program} {l : Launch} {e : Env} {s : State} {m : MethodId} {below : List Frame} {meth : Method} {c : Code} {D : va_G} {cy : Nat → ClassId} {b L : Nat} {xs : Nat → Int32} {ad1 ad2 : Nat → Nat} {H : Heap} {locs : List Loc} {cells slots : Nat} {Q : State → Prop} {ls : Array Slot} {C R : zM} {i k : Int32} (F : zLF p s m meth c b L xs D cy) (hf : cells + 0 ≤ room_1.cells ∧ slots + 0 ≤ room_1.slots) (h1 : vp_in (i + 1) L) (h2 : vp_in (i + 2) L) (h3 : vp_in (i + 3) L) (h4 : vp_in (i + 4) L) (h5 : vp_in (i + 5) L) (hH : zL2 D cy s H locs ad1 ad2 C R) (hI : zIN C R) (hl : lv_has ls 4 [(3, .int i), (2, .ref (ad2 0)), (1, .ref (ad1 0)), (0, .ref b)])
    (next : ∀ (C' R' : zM) (H1 : Heap) (locs1 : List Loc), zL2 D cy s H1 locs1 ad1 ad2 C' R' → zIN C' R' → W p l e room_1 s m #[Value.ref b] below meth c H1 locs1 cells slots Q (F0 m 1289 ls [])) :
    W p l e room_1 s m #[Value.ref b] below meth c H locs cells slots Q (F0 m 33 ls [.int k]) := by
  obtain ⟨hx, hb, -⟩ := id F.1
  by_cases k0 : k = 0
  · exact ztab (v := (0 : Int32)) (off := 163) (tgt := 196) hx hb k0 dL_law_33 (by decide) (by decide) rfl (by decide) (lw_case0 F hf h1 h2 h3 h4 h5 hH hI hl next)
  by_cases k1 : k = 1
  · exact ztab (v := (1 : Int32)) (off := 216) (tgt := 249) hx hb k1 dL_law_33 (by decide) (by decide) rfl (by decide) (lw_case1 F hf h1 h2 h3 h4 h5 hH hI hl next)
  by_cases k2 : k = 2
  · exact ztab (v := (2 : Int32)) (off := 249) (tgt := 282) hx hb k2 dL_law_33 (by decide) (by decide) rfl (by decide) (lw_case2 F hf h1 h2 h3 h4 h5 hH hI hl next)
  by_cases k3 : k = 3
  · exact ztab (v := (3 : Int32)) (off := 292) (tgt := 325) hx hb k3 dL_law_33 (by decide) (by decide) rfl (by decide) (lw_case3 F hf h1 h2 h3 h4 h5 hH hI hl next)
  by_cases k4 : k = 4
  · exact ztab (v := (4 : Int32)) (off := 325) (tgt := 358) hx hb k4 dL_law_33 (by decide) (by decide) rfl (by decide) (lw_case4 F hf h1 h2 h3 h4 h5 hH hI hl next)
  by_cases k5 : k = 5
  · exact ztab (v := (5 : Int32)) (off := 358) (tgt := 391) hx hb k5 dL_law_33 (by decide) (by decide) rfl (by decide) (lw_case5 F hf h1 h2 h3 h4 h5 hH hI hl next)
  by_cases k6 : k = 6
  · exact ztab (v := (6 : Int32)) (off := 391) (tgt := 424) hx hb k6 dL_law_33 (by decide) (by decide) rfl (by decide) (lw_case6 F hf h1 h2 h3 h4 h5 hH hI hl next)
  by_cases k7 : k = 7
  · exact ztab (v := (7 : Int32)) (off := 424) (tgt := 457) hx hb k7 dL_law_33 (by decide) (by decide) rfl (by decide) (lw_case7 F hf h1 h2 h3 h4 h5 hH hI hl next)
  by_cases k8 : k = 8
  · exact ztab (v := (8 : Int32)) (off := 457) (tgt := 490) hx hb k8 dL_law_33 (by decide) (by decide) rfl (by decide) (lw_case8 F hf h1 h2 h3 h4 h5 hH hI hl next)
  by_cases k9 : k = 9
  · exact ztab (v := (9 : Int32)) (off := 480) (tgt := 513) hx hb k9 dL_law_33 (by decide) (by decide) rfl (by decide) (lw_case9 F hf h1 h2 h3 h4 h5 hH hI hl next)
  by_cases k10 : k = 10
  · exact ztab (v := (10 : Int32)) (off := 503) (tgt := 536) hx hb k10 dL_law_33 (by decide) (by decide) rfl (by decide) (lw_case10 F hf h1 h2 h3 h4 h5 hH hI hl next)
  by_cases k11 : k = 11
  · exact ztab (v := (11 : Int32)) (off := 536) (tgt := 569) hx hb k11 dL_law_33 (by decide) (by decide) rfl (by decide) (lw_case11 F hf h1 h2 h3 h4 h5 hH hI hl next)
  by_cases k12 : k = 12
  · exact ztab (v := (12 : Int32)) (off := 569) (tgt := 602) hx hb k12 dL_law_33 (by decide) (by decide) rfl (by decide) (lw_case12 F hf h1 h2 h3 h4 h5 hH hI hl next)
  by_cases k13 : k = 13
  · exact ztab (v := (13 : Int32)) (off := 592) (tgt := 625) hx hb k13 dL_law_33 (by decide) (by decide) rfl (by decide) (lw_case13 F hf h1 h2 h3 h4 h5 hH hI hl next)
  by_cases k14 : k = 14
  · exact ztab (v := (14 : Int32)) (off := 605) (tgt := 638) hx hb k14 dL_law_33 (by decide) (by decide) rfl (by decide) (lw_case14 F hf h1 h2 h3 h4 h5 hH hI hl next)
  by_cases k15 : k = 15
  · exact ztab (v := (15 : Int32)) (off := 618) (tgt := 651) hx hb k15 dL_law_33 (by decide) (by decide) rfl (by decide) (lw_case15 F hf h1 h2 h3 h4 h5 hH hI hl next)
  by_cases k16 : k = 16
  · exact ztab (v := (16 : Int32)) (off := 651) (tgt := 684) hx hb k16 dL_law_33 (by decide) (by decide) rfl (by decide) (lw_case16 F hf h1 h2 h3 h4 h5 hH hI hl next)
  by_cases k17 : k = 17
  · exact ztab (v := (17 : Int32)) (off := 675) (tgt := 708) hx hb k17 dL_law_33 (by decide) (by decide) rfl (by decide) (lw_case17 F hf h1 h2 h3 h4 h5 hH hI hl next)
  by_cases k18 : k = 18
  · exact ztab (v := (18 : Int32)) (off := 708) (tgt := 741) hx hb k18 dL_law_33 (by decide) (by decide) rfl (by decide) (lw_case18 F hf h1 h2 h3 h4 h5 hH hI hl next)
  by_cases k19 : k = 19
  · exact ztab (v := (19 : Int32)) (off := 731) (tgt := 764) hx hb k19 dL_law_33 (by decide) (by decide) rfl (by decide) (lw_case19 F hf h1 h2 h3 h4 h5 hH hI hl next)
  by_cases k20 : k = 20
  · exact ztab (v := (20 : Int32)) (off := 774) (tgt := 807) hx hb k20 dL_law_33 (by decide) (by decide) rfl (by decide) (lw_case20 F hf h1 h2 h3 h4 h5 hH hI hl next)
  by_cases k21 : k = 21
  · exact ztab (v := (21 : Int32)) (off := 807) (tgt := 840) hx hb k21 dL_law_33 (by decide) (by decide) rfl (by decide) (lw_case21 F hf h1 h2 h3 h4 h5 hH hI hl next)
  by_cases k22 : k = 22
  · exact ztab (v := (22 : Int32)) (off := 850) (tgt := 883) hx hb k22 dL_law_33 (by decide) (by decide) rfl (by decide) (lw_case22 F hf h1 h2 h3 h4 h5 hH hI hl next)
  by_cases k23 : k = 23
  · exact ztab (v := (23 : Int32)) (off := 883) (tgt := 916) hx hb k23 dL_law_33 (by decide) (by decide) rfl (by decide) (lw_case23 F hf h1 h2 h3 h4 h5 hH hI hl next)
  by_cases k24 : k = 24
  · exact ztab (v := (24 : Int32)) (off := 896) (tgt := 929) hx hb k24 dL_law_33 (by decide) (by decide) rfl (by decide) (lw_case24 F hf h1 h2 h3 h4 h5 hH hI hl next)
  by_cases k25 : k = 25
  · exact ztab (v := (25 : Int32)) (off := 909) (tgt := 942) hx hb k25 dL_law_33 (by decide) (by decide) rfl (by decide) (lw_case25 F hf h1 h2 h3 h4 h5 hH hI hl next)
  by_cases k26 : k = 26
  · exact ztab (v := (26 : Int32)) (off := 922) (tgt := 955) hx hb k26 dL_law_33 (by decide) (by decide) rfl (by decide) (lw_case26 F hf h1 h2 h3 h4 h5 hH hI hl next)
  by_cases k27 : k = 27
  · exact ztab (v := (27 : Int32)) (off := 945) (tgt := 978) hx hb k27 dL_law_33 (by decide) (by decide) rfl (by decide) (lw_case27 F hf h1 h2 h3 h4 h5 hH hI hl next)
  by_cases k28 : k = 28
  · exact ztab (v := (28 : Int32)) (off := 988) (tgt := 1021) hx hb k28 dL_law_33 (by decide) (by decide) rfl (by decide) (lw_case28 F hf h1 h2 h3 h4 h5 hH hI hl next)
  by_cases k29 : k = 29
  · exact ztab (v := (29 : Int32)) (off := 1062) (tgt := 1095) hx hb k29 dL_law_33 (by decide) (by decide) rfl (by decide) (lw_case29 F hf h1 h2 h3 h4 h5 hH hI hl next)
  by_cases k30 : k = 30
  · exact ztab (v := (30 : Int32)) (off := 1125) (tgt := 1158) hx hb k30 dL_law_33 (by decide) (by decide) rfl (by decide) (lw_case30 F hf h1 h2 h3 h4 h5 hH hI hl next)
  by_cases k31 : k = 31
  · exact ztab (v := (31 : Int32)) (off := 1148) (tgt := 1181) hx hb k31 dL_law_33 (by decide) (by decide) rfl (by decide) (lw_case31 F hf h1 h2 h3 h4 h5 hH hI hl next)
  by_cases k32 : k = 32
  · exact ztab (v := (32 : Int32)) (off := 1171) (tgt := 1204) hx hb k32 dL_law_33 (by decide) (by decide) rfl (by decide) (lw_case32 F hf h1 h2 h3 h4 h5 hH hI hl next)
  by_cases k33 : k = 33
  · exact ztab (v := (33 : Int32)) (off := 1184) (tgt := 1217) hx hb k33 dL_law_33 (by decide) (by decide) rfl (by decide) (lw_case33 F hf h1 h2 h3 h4 h5 hH hI hl next)
  by_cases k34 : k = 34
  · exact ztab (v := (34 : Int32)) (off := 1197) (tgt := 1230) hx hb k34 dL_law_33 (by decide) (by decide) rfl (by decide) (lw_case34 F hf h1 h2 h3 h4 h5 hH hI hl next)
  by_cases k35 : k = 35
  · exact ztab (v := (35 : Int32)) (off := 1210) (tgt := 1243) hx hb k35 dL_law_33 (by decide) (by decide) rfl (by decide) (lw_case35 F hf h1 h2 h3 h4 h5 hH hI hl next)
  by_cases k36 : k = 36
  · exact ztab (v := (36 : Int32)) (off := 1233) (tgt := 1266) hx hb k36 dL_law_33 (by decide) (by decide) rfl (by decide) (lw_case36 F hf h1 h2 h3 h4 h5 hH hI hl next)
  exact ztabD (tgt := 1289) hx hb [(0 : Int32), (1 : Int32), (2 : Int32), (3 : Int32), (4 : Int32), (5 : Int32), (6 : Int32), (7 : Int32), (8 : Int32), (9 : Int32), (10 : Int32), (11 : Int32), (12 : Int32), (13 : Int32), (14 : Int32), (15 : Int32), (16 : Int32), (17 : Int32), (18 : Int32), (19 : Int32), (20 : Int32), (21 : Int32), (22 : Int32), (23 : Int32), (24 : Int32), (25 : Int32), (26 : Int32), (27 : Int32), (28 : Int32), (29 : Int32), (30 : Int32), (31 : Int32), (32 : Int32), (33 : Int32), (34 : Int32), (35 : Int32), (36 : Int32)] (List.forall_mem_cons.mpr ⟨k0, (List.forall_mem_cons.mpr ⟨k1, (List.forall_mem_cons.mpr ⟨k2, (List.forall_mem_cons.mpr ⟨k3, (List.forall_mem_cons.mpr ⟨k4, (List.forall_mem_cons.mpr ⟨k5, (List.forall_mem_cons.mpr ⟨k6, (List.forall_mem_cons.mpr ⟨k7, (List.forall_mem_cons.mpr ⟨k8, (List.forall_mem_cons.mpr ⟨k9, (List.forall_mem_cons.mpr ⟨k10, (List.forall_mem_cons.mpr ⟨k11, (List.forall_mem_cons.mpr ⟨k12, (List.forall_mem_cons.mpr ⟨k13, (List.forall_mem_cons.mpr ⟨k14, (List.forall_mem_cons.mpr ⟨k15, (List.forall_mem_cons.mpr ⟨k16, (List.forall_mem_cons.mpr ⟨k17, (List.forall_mem_cons.mpr ⟨k18, (List.forall_mem_cons.mpr ⟨k19, (List.forall_mem_cons.mpr ⟨k20, (List.forall_mem_cons.mpr ⟨k21, (List.forall_mem_cons.mpr ⟨k22, (List.forall_mem_cons.mpr ⟨k23, (List.forall_mem_cons.mpr ⟨k24, (List.forall_mem_cons.mpr ⟨k25, (List.forall_mem_cons.mpr ⟨k26, (List.forall_mem_cons.mpr ⟨k27, (List.forall_mem_cons.mpr ⟨k28, (List.forall_mem_cons.mpr ⟨k29, (List.forall_mem_cons.mpr ⟨k30, (List.forall_mem_cons.mpr ⟨k31, (List.forall_mem_cons.mpr ⟨k32, (List.forall_mem_cons.mpr ⟨k33, (List.forall_mem_cons.mpr ⟨k34, (List.forall_mem_cons.mpr ⟨k35, (List.forall_mem_cons.mpr ⟨k36, (fun _ h => absurd h List.not_mem_nil)⟩)⟩)⟩)⟩)⟩)⟩)⟩)⟩)⟩)⟩)⟩)⟩)⟩)⟩)⟩)⟩)⟩)⟩)⟩)⟩)⟩)⟩)⟩)⟩)⟩)⟩)⟩)⟩)⟩)⟩)⟩)⟩)⟩)⟩)⟩)⟩)⟩) dL_law_33 rfl (by decide +kernel) (by decide) (next C R H locs hH hI)
theorem nI_six {L i : Nat} (hL : L ≤ 384) (hi : i ≤ 384) (h : ¬ nI L - 6 < nI i) : i + 6 ≤ L := by
  rw [Int32.lt_iff_toInt_lt, Int32.toInt_sub, nI_toInt (by omega), nI_toInt (by omega), show (6 : Int32).toInt = 6 by decide, Int.bmod_eq_of_le (by omega) (by omega)] at h
  omega
set_option maxRecDepth 20000 in
/-- the law's loop: at its head, with i ints read, the class and the reference stand as the relation asks -/
theorem law_loop {p : Program} {l : Launch} {e : Env} {s : State} {m : MethodId} {below : List Frame} {meth : Method} {c : Code} {D : va_G} {cy : Nat → ClassId} {b L : Nat} {xs : Nat → Int32} {ad1 ad2 : Nat → Nat} (F : zLF p s m meth c b L xs D cy) (hL : L ≤ 384) : ∀ (n i : Nat), i ≤ 384 → L ≤ i + n → ∀ (C R : zM) (H : Heap) (locs : List Loc) (ls : Array Slot), zL2 D cy s H locs ad1 ad2 C R → zIN C R → lv_has ls 4 [(3, .int (nI i)), (2, .ref (ad2 0)), (1, .ref (ad1 0)), (0, .ref b)] → W p l e room_1 s m #[Value.ref b] below meth c H locs 81 3405 (lw_Z below #[Value.ref b] s) (F0 m 18 ls []) := by
  obtain ⟨⟨hx, hb, hr, hml, hown, hts, hX, hbl, hlocks, hgv⟩, -⟩ := id F
  have hbA : ¬ (fun q : Nat => s.heap.size ≤ q) b := Nat.not_le.mpr hbl
  intro n
  induction n with
  | zero =>
    intro i hi hin C R H locs ls hH hI hl
    have hS := hH.2.2.2.2.2.1
    refine lv_iload_n hx hb dL_law_18 rfl (lv_at hl 0 rfl) ?_
    refine lv_aload_n hx hb dL_law_19 rfl (lv_at hl 3 rfl) ?_
    refine va_slen hx hb hX hbl hbA hS dL_law_20 ?_
    refine lv_bipush (v := (6 : Int32)) hx hb dL_law_21 (by decide) ?_
    refine lv_isub hx hb dL_law_23 ?_
    refine lv_icmp_gt (tgt := 1295) hx hb dL_law_24 (by decide) (fun _ => ?_) (fun hc => absurd (nI_six hL hi hc) (by omega))
    refine lv_iconst (v := 1) hx hb dL_law_1295 (by decide) ?_
    refine va_forget (fun q hq => hS.2.2 q hq) ?_
    refine W.widen (k := 600000) (n := 7302250) (by decide) (by decide) ?_
    exact lw_ret hx hb hr hlocks dL_law_1296
  | succ n ih =>
    intro i hi hin C R H locs ls hH hI hl
    have hS := hH.2.2.2.2.2.1
    refine lv_iload_n hx hb dL_law_18 rfl (lv_at hl 0 rfl) ?_
    refine lv_aload_n hx hb dL_law_19 rfl (lv_at hl 3 rfl) ?_
    refine va_slen hx hb hX hbl hbA hS dL_law_20 ?_
    refine lv_bipush (v := (6 : Int32)) hx hb dL_law_21 (by decide) ?_
    refine lv_isub hx hb dL_law_23 ?_
    refine lv_icmp_gt (tgt := 1295) hx hb dL_law_24 (by decide) (fun _ => ?_) (fun hc => ?_)
    · refine lv_iconst (v := 1) hx hb dL_law_1295 (by decide) ?_
      refine va_forget (fun q hq => hS.2.2 q hq) ?_
      refine W.widen (k := 600000) (n := 7302250) (by decide) (by decide) ?_
      exact lw_ret hx hb hr hlocks dL_law_1296
    · have h6 : i + 6 ≤ L := nI_six hL hi hc
      have hj : ∀ j : Nat, j < 6 → vp_in (nI i + nI j) L := fun j hj => by
        rw [nI_add]
        exact vp_in_nI (by omega) (by omega)
      refine lv_aload_n hx hb dL_law_27 rfl (lv_at hl 3 rfl) ?_
      refine lv_iload_n hx hb dL_law_28 rfl (lv_at hl 0 rfl) ?_
      refine va_sld hx hb hX hbl hbA hS (vp_in_nI (by omega) (by omega)) dL_law_29 ?_
      refine lv_bipush (v := (63 : Int32)) hx hb dL_law_30 (by decide) ?_
      refine lv_iand hx hb dL_law_32 ?_
      refine lw_switch F ⟨Nat.le_of_ble_eq_true rfl, Nat.le_of_ble_eq_true rfl⟩ (hj 1 (by omega)) (hj 2 (by omega)) (hj 3 (by omega)) (hj 4 (by omega)) (hj 5 (by omega)) hH hI hl (fun C' R' H1 locs1 hH hI => ?_)
      refine ziinc (lv' := [(3, .int (nI i + 6)), (2, .ref (ad2 0)), (1, .ref (ad1 0)), (0, .ref b)]) (k := 0) hx hb (6 : Int32) (by decide) dL_law_1289 hl rfl (by decide) rfl (fun ls hl => ?_)
      refine lv_goto (tgt := 18) hx hb dL_law_1292 (by decide) ?_
      have e : nI i + 6 = nI (i + 6) := nI_add i 6
      rw [e] at hl
      exact ih (i + 6) (by omega) (by omega) C' R' H1 locs1 ls hH hI hl
