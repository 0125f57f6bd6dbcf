section IROWS
variable {p : Program} {l : Launch} {e : Env} {R : Room} {s : State} {m : MethodId} {args : Array Value} {below : List Frame} {meth : Method} {c : Code} {H : Heap} {locs : List Loc} {cells slots : Nat} {Q : State → Prop}
variable {cc : ByteArray} {nL pc : Nat} {ls : Array Slot} {rest : List Value} {own : String} {cw : Cond} {D : va_G} {cy : Nat → ClassId} {h : Nat} {ws : va_W}
theorem iObj (C0 : zIF p m c cc nL s args own cw D cy meth) {idx a : Nat} (hls : ls.size = nL) (hlink : Cond.methodLink own idx objectInit ∈ zG) (hfr : 1 ≤ R.frames) (hlo : 12 ≤ R.locals) (hdg : decode cc pc = .ok (.invokespecial idx, 3))
    (kk : W p l e R s m args below meth c H locs cells slots Q (F0 m (pc + 3) ls [])) : W p l e R s m args below meth c H locs cells slots Q (F0 m pc ls [.ref a]) := by
  obtain ⟨⟨hx, hb, hml, hown, hts⟩, -⟩ := C0
  refine W.objInit hx hb hown (hts _ (List.mem_cons_of_mem _ hlink)) (hts _ (List.mem_cons_of_mem _ kI_J_objectInit)) (hts _ (List.mem_cons_of_mem _ kD_J_objectInit)) rfl (by rw [hml]; exact hls) rfl hdg hfr ?_ ?_
  · show 2 * 0 + _ + 12 ≤ R.locals
    simpa using hlo
  · exact W.eq (g2 := F0 m (pc + 3) ls []) rfl kk
theorem iPut (C0 : zIF p m c cc nL s args own cw D cy meth) {κ N index a : Nat} {C : String} {T : u_T} {ty : Nat → FieldType} {fs : List Value} {v : Value} (hH : zIH D h s ((a, .inr (κ, fs)) :: ws) H locs) (hC : zCl κ C T N ty) (ho : C = own) (k : Nat) (hk : k < N) (hlink : Cond.fieldLink own index C (T k).2.1 (T k).2.2.1 ∈ zG) (hn : narrow (ty k) v = v) (hfit : fits (ty k) v = true) (hl : k < fs.length) (hdg : decode cc pc = .ok (.putfield index, 3))
    (kk : ∀ (H1 : Heap) (locs1 : List Loc), zIH D h s ((a, .inr (κ, fs.set k v)) :: ws) H1 locs1 → W p l e R s m args below meth c H1 locs1 cells slots Q (F0 m (pc + 3) ls rest)) : W p l e R s m args below meth c H locs cells slots Q (F0 m pc ls (v :: .ref a :: rest)) := by
  obtain ⟨⟨hx, hb, hml, hown, hts⟩, hK, hN, -, -, hin, -⟩ := C0
  obtain ⟨h1, h2, h3, h4, h5, h6, h7⟩ := hC
  obtain ⟨hP, hD, hS⟩ := hH
  cases hf : (T k).2.2.2 with
  | false => exact va_put (ci := κ) (ty := ty k) hx hb hts (fun w h => List.mem_cons_of_mem _ (h4 w h)) ty h6 h7 hown hK hP hD hS 0 rfl h1 k hk (hts _ (List.mem_cons_of_mem _ hlink)) (by rw [h5 k hk]; exact fun _ h => h) hf (h6 k hk) hn hfit hl hdg (fun H1 locs1 hP hD hS => kk H1 locs1 ⟨hP, hD, hS⟩)
  | true => exact va_putF (ci := κ) (ty := ty k) hx hb hts (fun w h => List.mem_cons_of_mem _ (h4 w h)) ty h6 h7 hown hK hP hD hS 0 rfl h1 k hk (hts _ (List.mem_cons_of_mem _ hlink)) (by rw [h5 k hk]; exact fun _ h => h) hf hin ((h5 k hk).trans ho) (h6 k hk) hn hfit hl hdg (fun H1 locs1 hP hD hS => kk H1 locs1 ⟨hP, hD, hS⟩)
theorem iGet (C0 : zIF p m c cc nL s args own cw D cy meth) {κ N index a : Nat} {C : String} {T : u_T} {ty : Nat → FieldType} {fs : List Value} {v : Value} (hH : zIH D h s ((a, .inr (κ, fs)) :: ws) H locs) (hC : zCl κ C T N ty) (k : Nat) (hk : k < N) (hlink : Cond.fieldLink own index C (T k).2.1 (T k).2.2.1 ∈ zG) (hv : fs[k]? = some v) (hdg : decode cc pc = .ok (.getfield index, 3))
    (kk : W p l e R s m args below meth c H locs cells slots Q (F0 m (pc + 3) ls (v :: rest))) : W p l e R s m args below meth c H locs cells slots Q (F0 m pc ls (.ref a :: rest)) := by
  obtain ⟨⟨hx, hb, hml, hown, hts⟩, hK, hN, -, -, hin, -⟩ := C0
  obtain ⟨h1, h2, h3, h4, h5, h6, h7⟩ := hC
  obtain ⟨hP, hD, hS⟩ := hH
  exact va_get (ci := κ) hx hb hts (fun w h => List.mem_cons_of_mem _ (h4 w h)) hown hK hP 0 rfl h1 k hk (hts _ (List.mem_cons_of_mem _ hlink)) (by rw [h5 k hk]; exact fun _ h => h) hv hdg kk
theorem zT_last {cA : ClassId} {ty : FieldType} (hK : va_K D vwCl (zT cy ++ [(cA, ty)]) s) : ArrOfT s cA ty ∧ va_RA s cA ty := hK.2 4 (cA, ty) rfl
theorem iNewI (C0 : zIF p m c cc nL s args own cw D cy meth) (hH : zIH D h s ws H locs) {n : Int32} (N : Nat) (hn : ¬ n < 0) (hN : n.toNatClampNeg = N) (hbt : N * 4 ≤ 536870912) (hcells : cells + 1 ≤ R.cells) (hslots : slots + N ≤ R.slots) (hdg : decode cc pc = .ok (.newarray .int, 2))
    (kk : ∀ (q : Nat) (H1 : Heap), zIH D h s (ws ++ [(q, .inl (cy 7, N, .inl (fun _ => 0)))]) H1 locs → W p l e R s m args below meth c H1 locs (cells + 1) (slots + N) Q (F0 m (pc + 2) ls (.ref q :: rest))) : W p l e R s m args below meth c H locs cells slots Q (F0 m pc ls (.int n :: rest)) := by
  obtain ⟨⟨hx, hb, hml, hown, hts⟩, hK, -⟩ := C0
  obtain ⟨hP, hD, hS⟩ := hH
  refine va_newa (atype := .int) (a0 := (N, .inl (fun _ => 0))) hx hb (hts _ (List.mem_cons_of_mem _ kA_69)) (ty := .int) rfl hK hP hD hS zIA_new (fun _ => rfl) hn hN hbt hcells hslots hdg (fun q cA H1 hK1 hP hD hS => ?_)
  have h1 : s.vm.findClass ("[" ++ FieldType.int.toString) = some cA := (zT_last hK1).2
  have h2 : s.vm.findClass ("[" ++ FieldType.int.toString) = some (cy 7) := (hK.2 0 (cy 7, .int) rfl).2
  have h3 : cA = cy 7 := Option.some.inj (h1.symm.trans h2)
  subst h3
  exact kk q H1 ⟨hP, hD, hS⟩
theorem iNewL (C0 : zIF p m c cc nL s args own cw D cy meth) (hH : zIH D h s ws H locs) {n : Int32} (N : Nat) (hn : ¬ n < 0) (hN : n.toNatClampNeg = N) (hbt : N * 8 ≤ 536870912) (hcells : cells + 1 ≤ R.cells) (hslots : slots + N ≤ R.slots) (hdg : decode cc pc = .ok (.newarray .long, 2))
    (kk : ∀ (q : Nat) (H1 : Heap), zIH D h s (ws ++ [(q, .inl (cy 8, N, .inr (.inl (fun _ => 0))))]) H1 locs → W p l e R s m args below meth c H1 locs (cells + 1) (slots + N) Q (F0 m (pc + 2) ls (.ref q :: rest))) : W p l e R s m args below meth c H locs cells slots Q (F0 m pc ls (.int n :: rest)) := by
  obtain ⟨⟨hx, hb, hml, hown, hts⟩, hK, -⟩ := C0
  obtain ⟨hP, hD, hS⟩ := hH
  refine va_newa (atype := .long) (a0 := (N, .inr (.inl (fun _ => 0)))) hx hb (hts _ (List.mem_cons_of_mem _ kA_227)) (ty := .long) rfl hK hP hD hS zIA_new (fun _ => rfl) hn hN hbt hcells hslots hdg (fun q cA H1 hK1 hP hD hS => ?_)
  have h1 : s.vm.findClass ("[" ++ FieldType.long.toString) = some cA := (zT_last hK1).2
  have h2 : s.vm.findClass ("[" ++ FieldType.long.toString) = some (cy 8) := (hK.2 1 (cy 8, .long) rfl).2
  have h3 : cA = cy 8 := Option.some.inj (h1.symm.trans h2)
  subst h3
  exact kk q H1 ⟨hP, hD, hS⟩
/-- an array of references: of blocks (9) or of sheets (10) -/
theorem iNewQ (C0 : zIF p m c cc nL s args own cw D cy meth) (hH : zIH D h s ws H locs) {C : String} {κ index : Nat} (hκ : (C = RX0 ∧ κ = 9) ∨ (C = RX3 ∧ κ = 10)) (hlink : Cond.classLink own index C ∈ zG) {n : Int32} (N : Nat) (hn : ¬ n < 0) (hN : n.toNatClampNeg = N) (hbt : N * 4 ≤ 536870912) (hcells : cells + 1 ≤ R.cells) (hslots : slots + N ≤ R.slots) (hdg : decode cc pc = .ok (.anewarray index, 3))
    (kk : ∀ (q : Nat) (H1 : Heap), zIH D h s (ws ++ [(q, .inl (cy κ, N, .inr (.inr (.inr (.inr (fun _ => none))))))]) H1 locs → W p l e R s m args below meth c H1 locs (cells + 1) (slots + N) Q (F0 m (pc + 3) ls (.ref q :: rest))) : W p l e R s m args below meth c H locs cells slots Q (F0 m pc ls (.int n :: rest)) := by
  obtain ⟨⟨hx, hb, hml, hown, hts⟩, hK, -, -, -, -, hA0, hA3⟩ := C0
  obtain ⟨hP, hD, hS⟩ := hH
  have hAO : va_AO C s := by rcases hκ with ⟨rfl, -⟩ | ⟨rfl, -⟩ <;> assumption
  refine va_newq (C := C) hx hb hown (hts _ (List.mem_cons_of_mem _ hlink)) hAO hK hP hD hS zIA_new hn hN hbt hcells hslots hdg (fun q cA H1 hK1 hP hD hS => ?_)
  obtain ⟨_, _, _, _, _, h1⟩ := (zT_last hK1).2
  have h3 : cA = cy κ := by
    rcases hκ with ⟨rfl, rfl⟩ | ⟨rfl, rfl⟩
    · obtain ⟨_, _, _, _, _, h2⟩ := (hK.2 2 (cy 9, .object RX0) rfl).2
      exact Option.some.inj (h1.symm.trans h2)
    · obtain ⟨_, _, _, _, _, h2⟩ := (hK.2 3 (cy 10, .object RX3) rfl).2
      exact Option.some.inj (h1.symm.trans h2)
  subst h3
  exact kk q H1 ⟨hP, hD, hS⟩
theorem iNew (C0 : zIF p m c cc nL s args own cw D cy meth) (hH : zIH D h s ws H locs) {κ N index : Nat} {C : String} {T : u_T} {ty : Nat → FieldType} (hC : zCl κ C T N ty) (hlink : Cond.classLink own index C ∈ zG) (hinst : Cond.instantiable C N ∈ zG) (hini : Cond.initialized C ∈ zG) {fs : List Value} (hfs : ∀ j, j < N → defaultValue (ty j) = vp_V fs j) (hcells : cells + 1 ≤ R.cells) (hslots : slots + N ≤ R.slots) (hdg : decode cc pc = .ok (.new index, 3))
    (kk : ∀ (q : Nat) (H1 : Heap), zIH D h s (ws ++ [(q, .inr (κ, fs))]) H1 locs → W p l e R s m args below meth c H1 locs (cells + 1) (slots + N) Q (F0 m (pc + 3) ls (.ref q :: rest))) : W p l e R s m args below meth c H locs cells slots Q (F0 m pc ls rest) := by
  obtain ⟨⟨hx, hb, hml, hown, hts⟩, hK, -⟩ := C0
  obtain ⟨h1, h2, h3, h4, h5, h6, h7⟩ := hC
  obtain ⟨hP, hD, hS⟩ := hH
  exact va_new (C := C) (T := T) (N := N) (ci := κ) hx hb hts (fun w h => List.mem_cons_of_mem _ (h4 w h)) ty h6 hown (hts _ (List.mem_cons_of_mem _ hlink)) (hts _ (List.mem_cons_of_mem _ hinst)) (hts _ (List.mem_cons_of_mem _ hini)) hK hP hD hS zIA_new h1 hfs hcells hslots hdg (fun q H1 hP hD hS => kk q H1 ⟨hP, hD, hS⟩)
/-- a new object into the array that stands second -/
theorem iAstq (C0 : zIF p m c cc nL s args own cw D cy meth) {κ ci N a0 a1 n v : Nat} {e0 : va_E} {f : Nat → Option Nat} {vs : List Value} {C : String} {T : u_T} {ty : Nat → FieldType} (hκ : (C = RX0 ∧ κ = 9) ∨ (C = RX3 ∧ κ = 10)) (hC : zCl ci C T N ty) (hH : zIH D h s ((a0, e0) :: (a1, .inl (cy κ, n, .inr (.inr (.inr (.inr f))))) :: ws) H locs) (hv : (v, .inr (ci, vs)) ∈ ws) {i : Int32} (hin : vp_in i n) (hdg : decode cc pc = .ok (.aastore, 1))
    (kk : ∀ (H1 : Heap) (locs1 : List Loc), zIH D h s ((a0, e0) :: (a1, .inl (cy κ, n, .inr (.inr (.inr (.inr (va_up f i.toNatClampNeg (some v))))))) :: ws) H1 locs1 → W p l e R s m args below meth c H1 locs1 cells slots Q (F0 m (pc + 1) ls rest)) : W p l e R s m args below meth c H locs cells slots Q (F0 m pc ls (.ref v :: .int i :: .ref a1 :: rest)) := by
  obtain ⟨⟨hx, hb, hml, hown, hts⟩, hK, -⟩ := C0
  obtain ⟨h1, h2, h3, h4, h5, h6, h7⟩ := hC
  obtain ⟨hP, hD, hS⟩ := hH
  obtain ⟨k, hk⟩ := List.getElem?_of_mem hv
  have key : ∃ t0 : Nat, (zT cy)[t0]? = some (cy κ, FieldType.object C) := by
    rcases hκ with ⟨rfl, rfl⟩ | ⟨rfl, rfl⟩
    · exact ⟨2, rfl⟩
    · exact ⟨3, rfl⟩
  obtain ⟨t0, ht0⟩ := key
  exact va_astq (r := (C, T, N)) hx hb hK hP hD hS 1 t0 (k + 2) ci rfl ht0 (by simpa using hk) h1 hin hdg (fun H1 locs1 hP hD hS => kk H1 locs1 ⟨hP, hD, hS⟩)
theorem iAst (C0 : zIF p m c cc nL s args own cw D cy meth) {a1 q0 n : Nat} {f : Nat → Int32} (hH : zIH D h s ws H locs) (hq : ws[q0]? = some (a1, .inl (cy 7, n, .inl f))) {i x : Int32} (hin : vp_in i n) (hdg : decode cc pc = .ok (.iastore, 1))
    (kk : ∀ (H1 : Heap) (locs1 : List Loc), zIH D h s (ws.set q0 (a1, .inl (cy 7, n, .inl (upd f i.toNatClampNeg x)))) H1 locs1 → W p l e R s m args below meth c H1 locs1 cells slots Q (F0 m (pc + 1) ls rest)) : W p l e R s m args below meth c H locs cells slots Q (F0 m pc ls (.int x :: .int i :: .ref a1 :: rest)) := by
  obtain ⟨⟨hx, hb, hml, hown, hts⟩, hK, -⟩ := C0
  obtain ⟨hP, hD, hS⟩ := hH
  exact va_iast hx hb hK hP hD hS q0 0 hq rfl hin hdg (fun H1 locs1 hP hD hS => kk H1 locs1 ⟨hP, hD, hS⟩)
/-- what a caller is told of a constructor -/
def zCin (y : MethodName) (bytes : ByteArray) (maxL : Nat) : Prop := Cond.instanceMethod y ∈ zG ∧ Cond.initialized y.cls ∈ zG ∧ Cond.code y bytes maxL none ∈ zG ∧ y.name = "<init>" ∧ (y.cls ≠ "java/lang/invoke/MethodHandle" ∧ y.cls ≠ "java/lang/invoke/VarHandle" ∧ (parseMethodDescriptor y.desc).map (fun d => d.parameters.length) = some 0)
theorem iJoin {x κ mc ms : Nat} {fs st0 : List Value} {w : (Nat → Nat) → va_W} (hr : va_Run p l e R s m args below meth c H locs cells slots mc ms (F0 m pc ls st0) rest (zIQ D x H.size w (Value.ref x :: []).toArray) (zIA x H.size)) (hH : zIH D h s (ws ++ [(x, .inr (κ, fs))]) H locs)
    (kk : ∀ (a : Nat → Nat) (H1 : Heap) (locs1 : List Loc), a 0 = x → zIH D h s (ws ++ w a) H1 locs1 → W p l e R s m args below meth c H1 locs1 (cells + mc) (slots + ms) Q (F0 m (pc + 3) ls rest)) : W p l e R s m args below meth c H locs cells slots Q (F0 m pc ls st0) := by
  obtain ⟨hP, hD, hS⟩ := hH
  have hx : zIA h s.heap.size x := hD.2 ws.length (x, .inr (κ, fs)) (by rw [List.getElem?_append_right (Nat.le_refl _), Nat.sub_self]; rfl)
  have hA : ∀ q, zIA x H.size q → zIA h s.heap.size q := by
    rintro q (rfl | hq)
    · exact hx
    · exact Or.inr (Nat.le_trans hS.1 hq)
  refine va_callv hr hS (fun q _ hq => hA q hq) hA (fun u t H1 locs1 ht hvm hp hb hz hk hS => ?_)
  obtain ⟨hP1, hD1⟩ := hb
  rw [ht] at hP1
  obtain ⟨hP2, hD2⟩ := zJoin hP hD hA hk hP1 hD1
  exact kk u H1 locs1 hp ⟨hP2, hD2, hS⟩
theorem iCall {y : MethodName} {bytes : ByteArray} {maxL index x κ mc ms : Nat} {fs : List Value} {rm : Room} {w : (Nat → Nat) → va_W} (C0 : zIF p m c cc nL s args own cw D cy meth) (hH : zIH D h s (ws ++ [(x, .inr (κ, fs))]) H locs)
    (hM : Met l y (Cond.code y bytes maxL none :: zG) rm (zIP D cy x H.size κ fs) (zIQ D x H.size w) mc ms (zIA x H.size)) (hlink : Cond.methodLink own index y ∈ zG) (hcal : zCin y bytes maxL) (hsz : ls.size = nL) (hrc : rm.cells = mc) (hrs : rm.slots = ms) (hR : rm.frames + 1 ≤ R.frames ∧ 8 + (maxL + 11) + rm.locals ≤ R.locals) (hf : cells + mc ≤ R.cells ∧ slots + ms ≤ R.slots) (hW : (rest.map fun v => v.category).sum ≤ 8) (hdg : decode cc pc = .ok (.invokespecial index, 3))
    (kk : ∀ (a : Nat → Nat) (H1 : Heap) (locs1 : List Loc), a 0 = x → zIH D h s (ws ++ w a) H1 locs1 → W p l e R s m args below meth c H1 locs1 (cells + mc) (slots + ms) Q (F0 m (pc + 3) ls rest)) : W p l e R s m args below meth c H locs cells slots Q (F0 m pc ls (.ref x :: rest)) := by
  obtain ⟨hfix, hK, hN, -, -, -, hA0, hA3⟩ := id C0
  obtain ⟨g1, g2, g3, g4, g5⟩ := hcal
  have hts := hfix.2.2.2.2
  have hin : ∀ w ∈ zG, w.before args s = true := fun w h => hts w (List.mem_cons_of_mem _ h)
  have hP1 : va_P D vwCl [(x, .inr (κ, fs))] H := va_P_mem.mpr fun q hq => va_P_mem.mp hH.1 q (List.mem_append_right _ hq)
  refine iJoin (va_runI (As := []) hfix hM ⟨callB_of 0 hts (zGood g3) rfl hrc hrs (hin _ g2) (hin _ hlink) g5 hR, g4, hin _ g1⟩
    ⟨zIP_blind, fun U hU hW => ⟨rfl, by rw [hU], by rw [hU]; exact hP1, va_K.moved hW.alike hK, zNw.warm hW hN, hA0.moved hW.alike, hA3.moved hW.alike⟩⟩ rfl rfl hsz rfl (lv_room hW) hdg hf) hH kk
theorem iCallN {y : MethodName} {bytes : ByteArray} {maxL index x κ mc ms : Nat} {fs : List Value} {rm : Room} {w : (Nat → Nat) → va_W} (C0 : zIF p m c cc nL s args own cw D cy meth) (hH : zIH D h s (ws ++ [(x, .inr (κ, fs))]) H locs)
    (hM : Met l y (Cond.code y bytes maxL none :: zG) rm (zIP D cy x H.size κ fs) (zIQ D x H.size w) mc ms (zIA x H.size)) (hlink : Cond.methodLinkNest own index y RX5 ∈ zNest) (hcal : zCin y bytes maxL) (hsz : ls.size = nL) (hrc : rm.cells = mc) (hrs : rm.slots = ms) (hR : rm.frames + 1 ≤ R.frames ∧ 8 + (maxL + 11) + rm.locals ≤ R.locals) (hf : cells + mc ≤ R.cells ∧ slots + ms ≤ R.slots) (hW : (rest.map fun v => v.category).sum ≤ 8) (hdg : decode cc pc = .ok (.invokespecial index, 3))
    (kk : ∀ (a : Nat → Nat) (H1 : Heap) (locs1 : List Loc), a 0 = x → zIH D h s (ws ++ w a) H1 locs1 → W p l e R s m args below meth c H1 locs1 (cells + mc) (slots + ms) Q (F0 m (pc + 3) ls rest)) : W p l e R s m args below meth c H locs cells slots Q (F0 m pc ls (.ref x :: rest)) := by
  obtain ⟨hfix, hK, hN, -, -, -, hA0, hA3⟩ := id C0
  obtain ⟨g1, g2, g3, g4, g5⟩ := hcal
  have hts := hfix.2.2.2.2
  have hin : ∀ w ∈ zG, w.before args s = true := fun w h => hts w (List.mem_cons_of_mem _ h)
  have hP1 : va_P D vwCl [(x, .inr (κ, fs))] H := va_P_mem.mpr fun q hq => va_P_mem.mp hH.1 q (List.mem_append_right _ hq)
  refine iJoin (va_runIN (As := []) hfix hM ⟨va_cnB 0 hts (zGood g3) rfl hrc hrs (hN _ hlink) (hin _ g2) g5 hR, g4, hin _ g1⟩
    ⟨zIP_blind, fun U hU hW => ⟨rfl, by rw [hU], by rw [hU]; exact hP1, va_K.moved hW.alike hK, zNw.warm hW hN, hA0.moved hW.alike, hA3.moved hW.alike⟩⟩ rfl rfl hsz rfl (lv_room hW) hdg hf) hH kk
theorem iRet {w : (Nat → Nat) → va_W} (a : Nat → Nat) (C0 : zIF p m c cc nL s args own cw D cy meth) (hH : zIH D h s (w a) H locs) (ha : a 0 = h) (hdg : decode cc pc = .ok (.return_, 1)) : W p l e R s m args below meth c H locs cells slots (MQ below (zIQ D h s.heap.size w) args s cells slots (zIA h s.heap.size)) (F0 m pc ls []) := by
  obtain ⟨⟨hx, hb, hml, hown, hts⟩, hK, -, hr, hlk, -⟩ := C0
  obtain ⟨hP, hD, hS⟩ := hH
  exact W.vret hx hb hr (fun t ht hW => ⟨⟨a, rfl, ha, by rw [ht]; exact hP, hD⟩, hS.F ht⟩) hS.2.2 hdg hlk
end IROWS
theorem zn0 : zCin yX0_init cX0_init 1 := ⟨kI_X0_init, kC_X0, kD_X0_init, rfl, by decide +kernel⟩
theorem zn1 : zCin yX1_init cX1_init 1 := ⟨kI_X1_init, kC_X1, kD_X1_init, rfl, by decide +kernel⟩
theorem zn2 : zCin yX2_init cX2_init 2 := ⟨kI_X2_init, kC_X2, kD_X2_init, rfl, by decide +kernel⟩
theorem zn3 : zCin yX3_init cX3_init 1 := ⟨kI_X3_init, kC_X3, kD_X3_init, rfl, by decide +kernel⟩
theorem zn4 : zCin yX4_init cX4_init 1 := ⟨kI_X4_init, kC_X4, kD_X4_init, rfl, by decide +kernel⟩
theorem zn5 : zCin yX5_init cX5_init 2 := ⟨kI_X5_init, kC_X5, kD_X5_init, rfl, by decide +kernel⟩
theorem zn6 : zCin yX6_init cX6_init 2 := ⟨kI_X6_init, kC_X6, kD_X6_init, rfl, by decide +kernel⟩
