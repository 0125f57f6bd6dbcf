section LCT
variable {p : Program} {l : Launch} {e : Env} {s : State} {m : MethodId} {below : List Frame} {meth : Method} {c : Code} {H : Heap} {locs : List Loc} {cells slots : Nat} {Q : State → Prop}
variable {pc : Nat} {ls : Array Slot} {rest : List Value} {D : va_G} {cy : Nat → ClassId} {b : Nat} {ws : va_W}
/-- a constructor, called by the law -/
theorem lCtor {y : MethodName} {bytes : ByteArray} {maxL index x κ mc ms : Nat} {fs : List Value} {rm : Room} {w : (Nat → Nat) → va_W} (hfix : CallFix p m c cL_law 4 s #[Value.ref b] lw_tbl RL) (hK : va_K D vwCl (zT cy) s) (hN : zNw s) (hA0 : va_AO RX0 s) (hA3 : va_AO RX3 s) (hP : va_P D vwCl (ws ++ [(x, .inr (κ, fs))]) H) (hD : va_D (fun q : Nat => s.heap.size ≤ q) (ws ++ [(x, .inr (κ, fs))])) (hS : va_S (fun q : Nat => s.heap.size ≤ q) s.heap H locs)
    (hM : Met l y (Cond.code y bytes maxL none :: zG) rm (zIP D cy x H.size κ fs) (zIQ D x H.size w) mc ms (zIA x H.size)) (hlink : Cond.methodLink RL index y ∈ zG) (hcal : zCin y bytes maxL) (hsz : ls.size = 4) (hrc : rm.cells = mc) (hrs : rm.slots = ms) (hR : rm.frames + 1 ≤ room_1.frames ∧ 8 + (maxL + 11) + rm.locals ≤ room_1.locals) (hf : cells + mc ≤ room_1.cells ∧ slots + ms ≤ room_1.slots) (hW : (rest.map fun v => v.category).sum ≤ 8) (hdg : decode cL_law pc = .ok (.invokespecial index, 3))
    (kk : ∀ (a : Nat → Nat) (H1 : Heap) (locs1 : List Loc), a 0 = x → va_P D vwCl (ws ++ w a) H1 → va_D (fun q : Nat => s.heap.size ≤ q) (ws ++ w a) → va_S (fun q : Nat => s.heap.size ≤ q) s.heap H1 locs1 → W p l e room_1 s m #[Value.ref b] below meth c H1 locs1 (cells + mc) (slots + ms) Q (F0 m (pc + 3) ls rest)) : W p l e room_1 s m #[Value.ref b] below meth c H locs cells slots Q (F0 m pc ls (.ref x :: rest)) := by
  obtain ⟨g1, g2, g3, g4, g5⟩ := hcal
  have hts := hfix.2.2.2.2
  have hin : ∀ w ∈ zG, w.before #[Value.ref b] s = true := fun w h => hts w (zG_tbl w h)
  have hP1 : va_P D vwCl [(x, .inr (κ, fs))] H := hP.right
  have hx0 : s.heap.size ≤ x := hD.2 ws.length (x, .inr (κ, fs)) (by rw [List.getElem?_append_right (Nat.le_refl _), Nat.sub_self]; rfl)
  have hA : ∀ q, zIA x H.size q → (fun q : Nat => s.heap.size ≤ q) q := by
    rintro q (rfl | hq)
    · exact hx0
    · exact Nat.le_trans hS.1 hq
  refine va_callv (va_runI (As := []) hfix hM ⟨callB_of 0 hts (zGoodL g3) rfl hrc hrs (hin _ g2) (hin _ hlink) g5 hR, g4, hin _ g1⟩
    ⟨zIP_blind, fun U hU hW => ⟨rfl, by rw [hU], by rw [hU]; exact hP1, va_K.moved hW.alike hK, zNw.warm hW hN, hA0.moved hW.alike, hA3.moved hW.alike⟩⟩ rfl rfl hsz rfl (lv_room hW) hdg hf) hS (fun q _ hq => hA q hq) hA (fun u t H1 locs1 ht hvm hp hb hz hk hS => ?_)
  obtain ⟨hP2, hD2⟩ := hb
  rw [ht] at hP2
  obtain ⟨hP3, hD3⟩ := zJoin hP hD hA hk hP2 hD2
  exact kk u H1 locs1 hp hP3 hD3 hS
end LCT
theorem arr_known {s : State} {args : Array Value} {ty : FieldType} (hno : ∀ C, ty ≠ .object C) (h : (Cond.arrayClass ty).before args s = true) : ∃ cA, ArrOfT s cA ty ∧ va_RA s cA ty := by
  obtain ⟨cA, kA, comp, h1, h2, h3⟩ := Cond.arrayClass_spec h
  refine ⟨cA, fun n z => ⟨fun k h => (by cases h), kA, h2, comp, h3⟩, ?_⟩
  cases ty with
  | object C => exact absurd rfl (hno C)
  | _ => exact h1
theorem arr_over {s : State} {C : String} (h : va_AO C s) : ∃ cA, ArrOfT s cA (.object C) ∧ va_RA s cA (.object C) := by
  obtain ⟨comp, cA, kA, h1, h2, h3, h4, h5⟩ := Cond.arrayOver_spec h
  exact ⟨cA, fun n z => ⟨fun k h => (by cases h), kA, h3, comp, h4⟩, kA, comp, h3, h4, h1, h5⟩
theorem zSL_of {s : State} {b : Nat} (hts : ∀ w ∈ lw_tbl, w.before #[Value.ref b] s = true) (hgv : (Jvm.Cond.and given_1 narrow_1).before #[Value.ref b] s = true) : zSL s := by
  have hs := flat_of_before _ hgv
  have ha : (Cond.arrayOf (.static "DoorCreaks" "UNDER" "[I") .int).before #[Value.ref b] s = true := hs _ (by decide +kernel)
  have hn : (Cond.eq (.length (.static "DoorCreaks" "UNDER" "[I")) (.int 6)).before #[Value.ref b] s = true := hs _ (by decide +kernel)
  have e0 : (Cond.eq (.elem (.static "DoorCreaks" "UNDER" "[I") (.int 0)) (.int (-1))).before #[Value.ref b] s = true := hs _ (by decide +kernel)
  have e1 : (Cond.eq (.elem (.static "DoorCreaks" "UNDER" "[I") (.int 1)) (.int 0)).before #[Value.ref b] s = true := hs _ (by decide +kernel)
  have e2 : (Cond.eq (.elem (.static "DoorCreaks" "UNDER" "[I") (.int 2)) (.int 0)).before #[Value.ref b] s = true := hs _ (by decide +kernel)
  have e3 : (Cond.eq (.elem (.static "DoorCreaks" "UNDER" "[I") (.int 3)) (.int 0)).before #[Value.ref b] s = true := hs _ (by decide +kernel)
  have e4 : (Cond.eq (.elem (.static "DoorCreaks" "UNDER" "[I") (.int 4)) (.int 1)).before #[Value.ref b] s = true := hs _ (by decide +kernel)
  have e5 : (Cond.eq (.elem (.static "DoorCreaks" "UNDER" "[I") (.int 5)) (.int 2)).before #[Value.ref b] s = true := hs _ (by decide +kernel)
  obtain ⟨t, h1, h2⟩ := va_Tof (tm := .static "DoorCreaks" "UNDER" "[I") (ty := .int) (N := 6) (f := fun j => .int (zUnI j)) (A := fun q : Nat => s.heap.size ≤ q) (by decide) ha (va_eqt hn) (fun j hj => by
    rcases (show j = 0 ∨ j = 1 ∨ j = 2 ∨ j = 3 ∨ j = 4 ∨ j = 5 by omega) with rfl | rfl | rfl | rfl | rfl | rfl
    · exact va_eqt e0
    · exact va_eqt e1
    · exact va_eqt e2
    · exact va_eqt e3
    · exact va_eqt e4
    · exact va_eqt e5) (fun a h => Nat.not_le.mpr h)
  have hl : (Cond.laysStatic "DoorCreaks" "UNDER" "[I").before #[Value.ref b] s = true := hts _ (by decide +kernel)
  exact ⟨t, va_Zof hl (hts _ (zG_tbl _ kC_X5)) h1 (fun a h => Nat.not_le.mpr h), h2⟩
set_option maxRecDepth 20000 in
/-- from the entry, for every script of at most 384 ints, the law comes to its end with true -/
theorem whole_start {p : Program} {e : Env} {s : State} {m : MethodId} {below : List Frame} {meth : Method} {c : Code} (l : Launch) (hflags : l.flags = flags0) {b L : Nat} {xs : Nat → Int32} (hL : L ≤ 384) (C0 : lw_At p s m meth c b L xs) : W p l e room_1 s m #[Value.ref b] below meth c s.heap [] 0 0 (lw_Z below #[Value.ref b] s) (entryFrame m ([Value.ref b] : List Value).toArray 4) := by
  obtain ⟨hx, hb, hr, hml, hown, hts, hX, hbl, hlocks, hgv⟩ := id C0
  have hown : s.vm.findClass RL = some m.cls := hown
  have hin : ∀ w ∈ zG, w.before #[Value.ref b] s = true := fun w h => hts w (zG_tbl w h)
  have hA : ∀ q : Nat, s.heap.size ≤ q → (fun q : Nat => s.heap.size ≤ q) q := fun _ h => h
  obtain ⟨c0, iS0, hKn0⟩ := u_known (C := RX0) (T := TX0) (N := 11) (n := 11) hts (fun w h => zG_tbl _ (kW_X0 w h)) (hin _ kO_X0)
  obtain ⟨c1, iS1, hKn1⟩ := u_known (C := RX1) (T := TX1) (N := 8) (n := 8) hts (fun w h => zG_tbl _ (kW_X1 w h)) (hin _ kO_X1)
  obtain ⟨c2, iS2, hKn2⟩ := u_known (C := RX2) (T := TX2) (N := 9) (n := 9) hts (fun w h => zG_tbl _ (kW_X2 w h)) (hin _ kO_X2)
  obtain ⟨c3, iS3, hKn3⟩ := u_known (C := RX3) (T := TX3) (N := 3) (n := 3) hts (fun w h => zG_tbl _ (kW_X3 w h)) (hin _ kO_X3)
  obtain ⟨c4, iS4, hKn4⟩ := u_known (C := RX4) (T := TX4) (N := 11) (n := 11) hts (fun w h => zG_tbl _ (kW_X4 w h)) (hin _ kO_X4)
  obtain ⟨c5, iS5, hKn5⟩ := u_known (C := RX5) (T := TX5) (N := 9) (n := 9) hts (fun w h => zG_tbl _ (kW_X5 w h)) (hin _ kO_X5)
  obtain ⟨c6, iS6, hKn6⟩ := u_known (C := RX6) (T := TX6) (N := 25) (n := 25) hts (fun w h => zG_tbl _ (kW_X6 w h)) (hin _ kO_X6)
  obtain ⟨D, hKc⟩ : ∃ D : va_G, ∀ (k : Nat) (q : vw_C), vwCl[k]? = some q → u_Kn s q.1 q.2.1 q.2.2 (D.1 k) (D.2 k) := by
    refine ⟨(fun k => match k with | 0 => c0 | 1 => c1 | 2 => c2 | 3 => c3 | 4 => c4 | 5 => c5 | _ => c6, fun k => match k with | 0 => iS0 | 1 => iS1 | 2 => iS2 | 3 => iS3 | 4 => iS4 | 5 => iS5 | _ => iS6), ?_⟩
    intro k q hq
    match k, hq with
    | 0, hq => cases hq; exact hKn0
    | 1, hq => cases hq; exact hKn1
    | 2, hq => cases hq; exact hKn2
    | 3, hq => cases hq; exact hKn3
    | 4, hq => cases hq; exact hKn4
    | 5, hq => cases hq; exact hKn5
    | 6, hq => cases hq; exact hKn6
    | k + 7, hq => simp [vwCl] at hq
  have hA0 : va_AO RX0 s := va_AO.of (hts (.arrayOver (.object RX0)) (by decide +kernel))
  have hA3 : va_AO RX3 s := va_AO.of (hts (.arrayOver (.object RX3)) (by decide +kernel))
  obtain ⟨a7, h71, h72⟩ := arr_known (ty := .int) (fun C h => by cases h) (hin _ kA_69)
  obtain ⟨a8, h81, h82⟩ := arr_known (ty := .long) (fun C h => by cases h) (hin _ kA_227)
  obtain ⟨a9, h91, h92⟩ := arr_over hA0
  obtain ⟨a10, h101, h102⟩ := arr_over hA3
  obtain ⟨cy, e7, e8, e9, e10⟩ : ∃ cy : Nat → ClassId, cy 7 = a7 ∧ cy 8 = a8 ∧ cy 9 = a9 ∧ cy 10 = a10 := ⟨fun k => if k = 7 then a7 else if k = 8 then a8 else if k = 9 then a9 else a10, rfl, rfl, rfl, rfl⟩
  subst e7; subst e8; subst e9; subst e10
  have hK : va_K D vwCl (zT cy) s := ⟨hKc, fun k q hq => by
    match k, hq with
    | 0, hq => cases hq; exact ⟨h71, h72⟩
    | 1, hq => cases hq; exact ⟨h81, h82⟩
    | 2, hq => cases hq; exact ⟨h91, h92⟩
    | 3, hq => cases hq; exact ⟨h101, h102⟩
    | k + 4, hq => simp [zT] at hq⟩
  have hN : zNw s := fun w hw => va_Nw.of (List.all_eq_true.mp (by decide +kernel : zNest.all Cond.onTables = true) w hw) (hts w (zNest_tbl w hw))
  have F : zLF p s m meth c b L xs D cy := ⟨C0, hK, hN, zSL_of hts hgv⟩
  have hfix : CallFix p m c cL_law 4 s #[Value.ref b] lw_tbl RL := ⟨hx, hb, hml, hown, hts⟩
  have hS : va_S (fun q : Nat => s.heap.size ≤ q) s.heap s.heap [] := va_S.rf
  have hP : va_P D vwCl [] s.heap := fun k q h => by simp at h
  have hD : va_D (fun q : Nat => s.heap.size ≤ q) [] := ⟨fun i j p q h => by simp at h, fun k q h => by simp at h⟩
  have hl := lv_entry ([.ref b]) (n := 4) (Nat.le_of_ble_eq_true rfl)
  rw [lg_entry_eq]
  generalize (lg_sl ([.ref b]) ++ List.replicate (4 - (lg_sl ([.ref b])).length) Slot.unset).toArray = ls at hl ⊢
  have hl : lv_has ls 4 [(0, .ref b)] := hl
  refine va_new (D := D) (C := RX5) (T := TX5) (N := 9) (ci := 5) (fs := df5) hx hb hts (fun w h => zG_tbl _ (kW_X5 w h)) tyX5 tyX5_ok hown (hin _ kL_L_7) (hin _ kO_X5) (hin _ kC_X5) hK hP hD hS hA rfl dfok5 (by decide) (by decide) dL_law_0 (fun x1 H hP hD hS => ?_)
  refine lv_dup hx hb dL_law_3 rfl ?_
  refine lCtor (ws := []) hfix hK hN hA0 hA3 hP hD hS (c_X5_init l D cy x1 H.size) kM_L_9 zn5 hl.1 rfl rfl ⟨Nat.le_of_ble_eq_true rfl, Nat.le_of_ble_eq_true rfl⟩ ⟨Nat.le_of_ble_eq_true rfl, Nat.le_of_ble_eq_true rfl⟩ (Nat.le_of_ble_eq_true rfl) dL_law_4 (fun ad1 H locs ha1 hP2 hD2 hS2 => ?_)
  subst ha1
  have hP : va_P D vwCl (zC lyC cy ad1 m0C) _ := hP2
  have hD : va_D (fun q : Nat => s.heap.size ≤ q) (zC lyC cy ad1 m0C) := hD2
  have hS := hS2
  refine lv_astore_n (lv' := [(1, .ref (ad1 0)), (0, .ref b)]) hx hb dL_law_7 rfl hl (by decide) rfl (fun ls hl => ?_)
  refine va_new (D := D) (C := RX6) (T := TX6) (N := 25) (ci := 6) (fs := df6) hx hb hts (fun w h => zG_tbl _ (kW_X6 w h)) tyX6 tyX6_ok hown (hin _ kL_L_10) (hin _ kO_X6) (hin _ kC_X6) hK hP hD hS hA rfl dfok6 (by decide) (by decide) dL_law_8 (fun x2 H hP hD hS => ?_)
  refine lv_dup hx hb dL_law_11 rfl ?_
  refine lCtor hfix hK hN hA0 hA3 hP hD hS (c_X6_init l D cy x2 H.size) kM_L_12 zn6 hl.1 rfl rfl ⟨Nat.le_of_ble_eq_true rfl, Nat.le_of_ble_eq_true rfl⟩ ⟨Nat.le_of_ble_eq_true rfl, Nat.le_of_ble_eq_true rfl⟩ (Nat.le_of_ble_eq_true rfl) dL_law_12 (fun ad2 H locs ha2 hP2 hD2 hS2 => ?_)
  subst ha2
  have hP := hP2
  have hD := hD2
  have hS := hS2
  refine lv_astore_n (lv' := [(2, .ref (ad2 0)), (1, .ref (ad1 0)), (0, .ref b)]) hx hb dL_law_15 rfl hl (by decide) rfl (fun ls hl => ?_)
  refine lv_iconst (v := (0 : Int32)) hx hb dL_law_16 (by decide) ?_
  refine lv_istore_n (lv' := [(3, .int (nI 0)), (2, .ref (ad2 0)), (1, .ref (ad1 0)), (0, .ref b)]) hx hb dL_law_17 rfl hl (by decide) rfl (fun ls hl => ?_)
  have hlen : (zC lyC cy ad1 m0C).length = 65 := by simp [zC, lyC]
  have hH : zL2 D cy s H locs ad1 ad2 m0C m0R := by
    refine ⟨hP.left, hP.right, ⟨fun i j p q hi hj => hD.1 i j p q ?_ ?_, fun k q hk => hD.2 k q ?_⟩, ⟨fun i j p q hi hj hpq => ?_, fun k q hk => hD.2 (65 + k) q ?_⟩, fun i j hi hj he => ?_, hS, m0C_iv, m0R_iv⟩
    · rw [List.getElem?_append_left (List.getElem?_eq_some_iff.mp hi).1]; exact hi
    · rw [List.getElem?_append_left (List.getElem?_eq_some_iff.mp hj).1]; exact hj
    · rw [List.getElem?_append_left (List.getElem?_eq_some_iff.mp hk).1]; exact hk
    · have h1 := hD.1 (65 + i) (65 + j) p q (by rw [List.getElem?_append_right (by omega), hlen, Nat.add_sub_cancel_left]; exact hi) (by rw [List.getElem?_append_right (by omega), hlen, Nat.add_sub_cancel_left]; exact hj) hpq
      omega
    · rw [List.getElem?_append_right (by omega), hlen, Nat.add_sub_cancel_left]; exact hk
    · have h1 := hD.1 i (65 + j) _ _ (by rw [List.getElem?_append_left (by omega)]; exact zC_at hi) (by rw [List.getElem?_append_right (by omega), hlen, Nat.add_sub_cancel_left]; exact zC_at hj) he
      omega
  refine W.widen (k := 81) (n := 3405) (Nat.le_of_ble_eq_true rfl) (Nat.le_of_ble_eq_true rfl) ?_
  exact law_loop F hL L 0 (by omega) (by omega) m0C m0R H locs ls hH m0_in hl
set_option maxHeartbeats 4000000 in
theorem lw_walk (l : Launch) (hflags : l.flags = flags0) (b : Addr) (xs : List Int32) : MetFree l x (headSpec (Jvm.Cond.code x code maxLocals ret :: tables_1) room_1) (lw_P b xs) (fun _ _ _ _ _ => True) lw_Q := by
  refine MetFree.of_bodyS (code := code) (maxLocals := maxLocals) (ret := ret) (by decide) ?_ ?_
  · intro args s m h hn
    obtain ⟨meth, c, h1, h2, h3, h4, h5, h6, -, -⟩ := Cond.code_spec hn (atoms_spec (ws := Jvm.Cond.code x code maxLocals ret :: tables_1) h _ List.mem_cons_self)
    exact ⟨meth, c, h1, h2, h3, h4, h5, h6⟩
  · intro p e s m args below meth c s₁ B hml0 hP _
    obtain ⟨rfl, hx, hbd, hgv⟩ := hP
    obtain ⟨scr, harrAt, hlist, hof, hsmall⟩ := hx
    obtain ⟨hcb, hkn, -, -⟩ := State.arrayAt?_spec harrAt
    have hown : s.vm.findClass R_law = some m.cls := findClass_of_methodNamed B.named
    have hts0 : ∀ c ∈ (Jvm.Cond.code x code maxLocals ret :: tables_1), c.before #[Value.ref b] s = true := atoms_spec (ws := Jvm.Cond.code x code maxLocals ret :: tables_1) B.pre
    have hts : ∀ w ∈ lw_tbl, w.before #[Value.ref b] s = true := k2_hts_sels lw_privs (fun w hw => hts0 w (List.mem_cons_of_mem _ hw)) lw_privs_ok
    have hml : c.maxLocals = 4 := B.maxLocals_eq (hts0 _ List.mem_cons_self)
    have X₀ : Stand p l e room_1 s m #[Value.ref b] below meth c s₁ [] 0 0 := Stand.of_body B
    have hh0 : s₁.heap = s.heap := by rw [B.state]; rfl
    have hsz : scr.slots.size = xs.length := by rw [← Array.length_toList, hlist, List.length_map]
    have hval : ∀ j : Nat, j < xs.length → scr.slots[j]? = some (.int (xs.getD j 0)) := fun j hj => by
      rw [← Array.getElem?_toList, hlist]
      simp [hj]
    have hbl : b < s.heap.size := (Array.getElem?_eq_some_iff.mp hcb).1
    have hX : va_X b xs.length (fun j => xs.getD j 0) s s.heap := ⟨scr, hcb, hof, hkn, hsz, hval⟩
    have K : W p l e room_1 s m #[Value.ref b] below meth c s₁.heap [] 0 0 (lw_Z below #[Value.ref b] s) (entryFrame m ([Value.ref b] : List Value).toArray 4) := by
      rw [hh0]
      exact whole_start l hflags hbd ⟨B.exec, B.bytes, B.returns, hml, hown, hts, hX, hbl, B.notSynchronized, hgv⟩
    obtain ⟨t, a1, o, b1, b2, b3⟩ := K s₁ rfl X₀
    exact ⟨t, o, a1, b1, b2, b3⟩
theorem lw_pre_spec {args : Array Value} {s : State} (h : (Jvm.Cond.and given_1 narrow_1).before args s = true) (hr : rest_1_c.before args s = true) : ∃ (b : Addr) (xs : List Int32), lw_P b xs args s := by
  have hs := flat_of_before _ h
  have hq := flat_of_before _ hr
  have hc : (Cond.count 1).before args s = true := hs _ (by decide +kernel)
  have harr : (Cond.arrayOf (.arg 0) .int).before args s = true := hs _ (by decide +kernel)
  have hle : (Cond.le (.length (.arg 0)) (.int 384)).before args s = true := hs _ (by decide +kernel)
  have hlen : (Cond.isInt (.length (.arg 0))).before args s = true := hq _ (by decide +kernel)
  have hall : (Cond.all (.arg 0) (.isInt (.elem (.arg 0) (.index 0)))).before args s = true := hq _ (by decide +kernel)
  obtain ⟨b, xs, hb, hx⟩ := State.ints_of_pre rfl harr hlen hall
  have hsm : xs.length < 2 ^ 31 := hx.choose_spec.2.2.2
  have hev : (Term.length (.arg 0)).eval args s none [] s = some (.int xs.length.toInt32) := hx.length_eval hb
  have hv := Cond.le_ints hev (show (Term.int 384).eval args s none [] s = some (.int 384) from rfl)
  have hd : xs.length.toInt32 ≤ 384 := by
    simpa [Cond.before, Cond.holds, hv] using hle
  have hN : xs.length ≤ 384 := (Int32.ofNat_le_ofNat hsm (by decide)).mp (show Int32.ofNat xs.length ≤ Int32.ofNat 384 from hd)
  exact ⟨b, xs, Cond.one_arg hc (show args[0]? = some (.ref b) from hb), hx, hN, h⟩
theorem lw_comes (l : Launch) (hflags : l.flags = flags0) : Comes l x (Jvm.Cond.code x code maxLocals ret :: tables_1) room_1 (fun tb e args s => Calls_1 tb e args s ∧ rest_1 tb e args s ∧ Pre_1 tb e args s)
    (fun _ _ args s o t => lw_Q args s o t) := by
  intro p e ha hc hk s m args below hf hfit hheap happ hpre
  obtain ⟨b, xs, hP⟩ := lw_pre_spec hpre.2.2 hpre.2.1
  obtain ⟨k, o, h1, h2, h3, hQ⟩ := lw_walk l hflags b xs p e ha hc hk s m args below hf ((Spec.applies_iff_loose hf).mp happ).1 hP trivial
  exact ⟨k, o, h1, h2, h3, hQ⟩
theorem lw_frame {s t : State} {o : Outcome} {args : Array Value} (h : Framed s o t [] 600000 7302250) :
    Framed s o t (fieldLocs frame_1_writes args s ++ arrayLocs frame_1_arrays args s ++ staticLocs frame_1_statics s) 600000 7302250 := h
theorem lw_limb (L : Cond) (hL : ∀ (args : Array Value) (s t : State), L.after args s (.returned (some (.int 1))) t = true) :
    ArmFor flags0 classFile x code maxLocals ret World_1 tables_1 room_1 Calls_1 rest_1 Pre_1
      (fun tb e a s o t => postC L tb e a s o t ∧ Framed s o t (fieldLocs frame_1_writes a s ++ arrayLocs frame_1_arrays a s ++ staticLocs frame_1_statics s) 600000 7302250) := by
  intro l hflags _ _ p e ha hc hk s m args below hf hfit hheap happ hpre
  obtain ⟨k, o, h1, h2, h3, rfl, hF⟩ := lw_comes l hflags p e ha hc hk s m args below hf hfit hheap happ hpre
  exact ⟨k, _, h1, h2, h3, hL args s _, lw_frame hF⟩
theorem i_vc : Claimed_1_1 ∧ Claimed_1_2 := ⟨lw_limb limb_1_1 (fun args s t => by simp [limb_1_1, Cond.after, Cond.holds, Cond.value]), lw_limb limb_1_2 (fun args s t => Cond.after_iff.mpr (by
  first | (rw [show limb_1_2 = Cond.eq .result (.int 1) from rfl, Cond.eq_ints (x := 1) (y := 1) rfl rfl]; simp; done) | (simp [limb_1_2, Cond.value, Term.eval]; done)))⟩
