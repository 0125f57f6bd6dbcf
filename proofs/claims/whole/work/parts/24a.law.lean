def R_law : String := "DoorCreaksLaw"
def lw_P (b : Addr) (xs : List Int32) (args : Array Value) (s : State) : Prop := args = #[.ref b] ∧ s.IntsAt b xs ∧ xs.length ≤ 384 ∧ (Jvm.Cond.and given_1 narrow_1).before args s = true
def lw_Q (_ : Array Value) (s : State) (o : Outcome) (t : State) : Prop := o = .returned (some (.int 1)) ∧ Framed s o t [] 600000 7302250
def lw_Z (below : List Frame) (a : Array Value) (s : State) : State → Prop := fun t => ∃ o, t.status = .running ∧ Ended t below o ∧ lw_Q a s o t
/-- the law's own end, with 1 on the stack, nothing written that was there before, its room as the claim has it -/
theorem lw_ret {p : Program} {l : Launch} {e : Env} {s : State} {m : MethodId} {below : List Frame} {meth : Method} {c : Code} {b : Nat} (hx : p.tables.exec = Jvm.exec) (hb : c.code = code) (hr : meth.sig.returnType = ret) (hlocks : meth.locks = false) {pc : Nat} {H : Heap} {ls : Array Slot} (hdg : decode code pc = .ok (.ireturn, 1)) : W p l e room_1 s m #[Value.ref b] below meth c H [] 600000 7302250 (lw_Z below #[Value.ref b] s) (F0 m pc ls [.int 1]) := by
  intro T hT X
  obtain ⟨fs, hret, hrun, hended, hW, hframe⟩ := X.leave (v := some (.int 1)) (hlocks := hlocks) (fun h => by rw [hr] at h; cases h)
  have hmeth' : T.vm.method? m = some meth := X.method'
  refine ⟨T.setFrames fs, ?_, .returned (some (.int 1)), hrun, hended, rfl, ⟨_, rfl⟩, hW, hframe⟩
  jvm_step X.here [X.here.top, hx, hb, hdg, hmeth', hr, ret, narrow_b1]
  (try refine ⟨rfl, ?_⟩); (try refine ⟨rfl, ?_⟩)
  first | (intro acts; rw [hret _ acts rfl rfl rfl]) | rw [hret _ _ rfl rfl rfl]
  exact Steps.refl _
/-- what holds at the law's entry: the machine, the code, the tables' words (any of lw_tbl by 'hts w (by decide +kernel)'), the script of L ints xs at the cell b, what the Statement gives of the start (any of its parts by flat_of_before) -/
def lw_At (p : Program) (s : State) (m : MethodId) (meth : Method) (c : Code) (b L : Nat) (xs : Nat → Int32) : Prop :=
  p.tables.exec = Jvm.exec ∧ c.code = code ∧ meth.sig.returnType = ret ∧ c.maxLocals = 4 ∧ s.vm.findClass R_law = some m.cls ∧ (∀ w ∈ lw_tbl, w.before #[Value.ref b] s = true) ∧ va_X b L xs s s.heap ∧ b < s.heap.size ∧ meth.locks = false ∧ (Jvm.Cond.and given_1 narrow_1).before #[Value.ref b] s = true
/-! the law's two worlds, side by side -/
def zL2 (D : va_G) (cy : Nat → ClassId) (s : State) (H : Heap) (locs : List Loc) (ad1 ad2 : Nat → Nat) (C R : zM) : Prop :=
  va_P D vwCl (zC lyC cy ad1 C) H ∧ va_P D vwCl (zC lyR cy ad2 R) H ∧ va_D (fun q : Nat => s.heap.size ≤ q) (zC lyC cy ad1 C) ∧ va_D (fun q : Nat => s.heap.size ≤ q) (zC lyR cy ad2 R) ∧ (∀ i j, i < 65 → j < 16 → ad1 i ≠ ad2 j) ∧ va_S (fun q : Nat => s.heap.size ≤ q) s.heap H locs ∧ zIv lyC C ∧ zIv lyR R
def zSL (s : State) : Prop := ∃ t : Nat, va_Z RX5 "UNDER" "[I" (.ref t) (fun q : Nat => s.heap.size ≤ q) s s.heap ∧ va_T .int t 6 (fun j => .int (zUnI j)) (fun q : Nat => s.heap.size ≤ q) s s.heap
def zLF (p : Program) (s : State) (m : MethodId) (meth : Method) (c : Code) (b L : Nat) (xs : Nat → Int32) (D : va_G) (cy : Nat → ClassId) : Prop :=
  lw_At p s m meth c b L xs ∧ va_K D vwCl (zT cy) s ∧ zNw s ∧ zSL s
theorem zGoodL {cw' : Cond} (h : cw' ∈ zG) : GoodIn lw_tbl (cw' :: zG) := fun w hw => by
  rcases List.mem_cons.mp hw with rfl | hw
  · exact ⟨zG_tbl _ h, good_of_word (zG_good _ h)⟩
  · exact ⟨zG_tbl _ hw, good_of_word (zG_good _ hw)⟩
theorem zA_lt {A : Nat → Prop} {ly : zLy} {cy : Nat → ClassId} {ad : Nat → Nat} {M : zM} (hD : va_D A (zC ly cy ad M)) : ∀ q, zA ly ad q → A q := by
  rintro q ⟨c, hc, rfl⟩
  exact hD.2 c (ad c, zE ly cy ad M c) (zC_at hc)
theorem zD_own {A : Nat → Prop} {ly : zLy} {cy : Nat → ClassId} {ad : Nat → Nat} {M : zM} (hD : va_D A (zC ly cy ad M)) : va_D (zA ly ad) (zC ly cy ad M) :=
  ⟨hD.1, fun k q hk => by
    obtain ⟨h1, rfl⟩ := zC_inv hk
    exact ⟨k, h1, rfl⟩⟩
section LROWS
variable {p : Program} {l : Launch} {e : Env} {s : State} {m : MethodId} {below : List Frame} {meth : Method} {c : Code} {H : Heap} {locs : List Loc} {cells slots : Nat} {Q : State → Prop}
variable {pc : Nat} {ls : Array Slot} {rest : List Value} {D : va_G} {cy : Nat → ClassId} {b L : Nat} {xs : Nat → Int32} {ad1 ad2 : Nat → Nat} {C R : zM}
theorem lrunV {y : MethodName} {bytes : ByteArray} {maxL n index : Nat} {rt : Option FieldType} {Cn : String} {rm : Room} {Qc : Array Value → State → Outcome → State → Prop} {As st0 : List Value} {κ N : Nat} {T : u_T} {ty : Nat → FieldType} {ly : zLy} {ad : Nat → Nat} {M : zM} (F : zLF p s m meth c b L xs D cy)
    (hS : va_S (fun q : Nat => s.heap.size ≤ q) s.heap H locs) (hP : va_P D vwCl (zC ly cy ad M) H) (hD : va_D (fun q : Nat => s.heap.size ≤ q) (zC ly cy ad M)) (hV : zIv ly M)
    (hM : Met l y (Cond.code y bytes maxL rt :: zG) rm (zP D ly cy ad (.ref (ad 0) :: As) M) Qc 0 0 (zA ly ad)) (hlink : Cond.methodLink RL index y ∈ zG) (hC : zCl κ Cn T N ty) (hcal : zCal Cn y bytes maxL rt n) (hi : zIs ly 0 κ) (hn : As.length = n) (hsz : ls.size = 4) (hst : st0 = As.reverse ++ .ref (ad 0) :: rest) (hrc : rm.cells = 0) (hrs : rm.slots = 0) (hR : rm.frames + 1 ≤ room_1.frames ∧ 8 + (maxL + 11) + rm.locals ≤ room_1.locals) (hf : cells + 0 ≤ room_1.cells ∧ slots + 0 ≤ room_1.slots) (hW : (rest.map fun v => v.category).sum ≤ 8) (hdg : decode cL_law pc = .ok (.invokevirtual index, 3)) :
    va_Run p l e room_1 s m #[Value.ref b] below meth c H locs cells slots 0 0 (F0 m pc ls st0) rest (Qc (Value.ref (ad 0) :: As).toArray) (zA ly ad) := by
  obtain ⟨⟨hx, hb, hr, hml, hown, hts, hX, hbl, hlocks, hgv⟩, hK, hN, t, hz1, hz2⟩ := F
  obtain ⟨g2, g3, g4, g5, hd⟩ := hcal
  have hin : ∀ w ∈ zG, w.before #[Value.ref b] s = true := fun w h => hts w (zG_tbl w h)
  have hini : (Cond.initialized y.cls).before #[Value.ref b] s = true := by rw [hd.1]; exact hin _ g4
  have hown : s.vm.findClass RL = some m.cls := hown
  have hfix : CallFix p m c cL_law 4 s #[Value.ref b] lw_tbl RL := ⟨hx, hb, hml, hown, hts⟩
  have hq : ∀ a : Nat, a < s.heap.size → ¬ (fun q : Nat => s.heap.size ≤ q) a → H[a]? = s.heap[a]? := hS.2.1
  have hz1 := (hz1.kept hq).narrow (zA_lt hD)
  have hz2 := (hz2.kept hq).narrow (zA_lt hD)
  subst hst
  exact va_runV (C := Cn) hfix hM ⟨callB_of n hts (zGoodL g5) rfl hrc hrs hini (hin _ hlink) hd.2 hR, hin _ g2, hin _ g3⟩
    ⟨zP_blind, va_recv hK hP hC.1 (by rw [zC_at hi.1, zE_obj hi.2 hC.2.1 rfl]), fun U hU hW => ⟨rfl, by rw [hU]; exact hP, va_K.moved hW.alike hK, zD_own hD, zNw.warm hW hN, ⟨t, by rw [hU]; exact hz1.moved hW.alike, by rw [hU]; exact hz2.moved hW.alike⟩, hV⟩⟩
    rfl hn hsz rfl (lv_room hW) hdg hf
theorem zL2.off1 (hH : zL2 D cy s H locs ad1 ad2 C R) : ∀ (k : Nat) (q : Nat × va_E), (zC lyR cy ad2 R)[k]? = some q → q.1 < H.size ∧ ¬ zA lyC ad1 q.1 := by
  intro k q hq
  refine ⟨(hH.2.1 k q hq).lt, ?_⟩
  obtain ⟨hk, rfl⟩ := zC_inv hq
  rintro ⟨i, hi, he⟩
  exact hH.2.2.2.2.1 i k hi hk he.symm
theorem zL2.off2 (hH : zL2 D cy s H locs ad1 ad2 C R) : ∀ (k : Nat) (q : Nat × va_E), (zC lyC cy ad1 C)[k]? = some q → q.1 < H.size ∧ ¬ zA lyR ad2 q.1 := by
  intro k q hq
  refine ⟨(hH.1 k q hq).lt, ?_⟩
  obtain ⟨hk, rfl⟩ := zC_inv hq
  rintro ⟨i, hi, he⟩
  exact hH.2.2.2.2.1 k i hk hi he
theorem lci1 {v : Int32} {C' : zM} {a : Array Value} {st0 : List Value} (hr : va_Run p l e room_1 s m #[Value.ref b] below meth c H locs cells slots 0 0 (F0 m pc ls st0) rest (zQi D lyC cy ad1 v C' a) (zA lyC ad1)) (hH : zL2 D cy s H locs ad1 ad2 C R)
    (kk : ∀ (H1 : Heap) (locs1 : List Loc), zL2 D cy s H1 locs1 ad1 ad2 C' R → W p l e room_1 s m #[Value.ref b] below meth c H1 locs1 cells slots Q (F0 m (pc + 3) ls (.int v :: rest))) : W p l e room_1 s m #[Value.ref b] below meth c H locs cells slots Q (F0 m pc ls st0) := by
  obtain ⟨hP1, hP2, hD1, hD2, hne, hS, hV1, hV2⟩ := id hH
  refine va_calli hr hS (fun q _ h => zA_lt hD1 q h) (fun q h => zA_lt hD1 q h) (fun r u t H1 locs1 ht hvm hp hb hz hk hS => ?_)
  subst hp
  exact kk H1 locs1 ⟨by rw [← ht]; exact hb.1, hP2.kept (fun k q hq => hk q.1 (hH.off1 k q hq).1 (hH.off1 k q hq).2), zD_any hD1, hD2, hne, hS, hb.2, hV2⟩
theorem lcl1 {v : Int64} {C' : zM} {a : Array Value} {st0 : List Value} (hr : va_Run p l e room_1 s m #[Value.ref b] below meth c H locs cells slots 0 0 (F0 m pc ls st0) rest (zQl D lyC cy ad1 v C' a) (zA lyC ad1)) (hH : zL2 D cy s H locs ad1 ad2 C R)
    (kk : ∀ (H1 : Heap) (locs1 : List Loc), zL2 D cy s H1 locs1 ad1 ad2 C' R → W p l e room_1 s m #[Value.ref b] below meth c H1 locs1 cells slots Q (F0 m (pc + 3) ls (.long v :: rest))) : W p l e room_1 s m #[Value.ref b] below meth c H locs cells slots Q (F0 m pc ls st0) := by
  obtain ⟨hP1, hP2, hD1, hD2, hne, hS, hV1, hV2⟩ := id hH
  refine va_calll hr hS (fun q _ h => zA_lt hD1 q h) (fun q h => zA_lt hD1 q h) (fun r u t H1 locs1 ht hvm hp hb hz hk hS => ?_)
  subst hp
  exact kk H1 locs1 ⟨by rw [← ht]; exact hb.1, hP2.kept (fun k q hq => hk q.1 (hH.off1 k q hq).1 (hH.off1 k q hq).2), zD_any hD1, hD2, hne, hS, hb.2, hV2⟩
theorem lci2 {v : Int32} {R' : zM} {a : Array Value} {st0 : List Value} (hr : va_Run p l e room_1 s m #[Value.ref b] below meth c H locs cells slots 0 0 (F0 m pc ls st0) rest (zQi D lyR cy ad2 v R' a) (zA lyR ad2)) (hH : zL2 D cy s H locs ad1 ad2 C R)
    (kk : ∀ (H1 : Heap) (locs1 : List Loc), zL2 D cy s H1 locs1 ad1 ad2 C R' → W p l e room_1 s m #[Value.ref b] below meth c H1 locs1 cells slots Q (F0 m (pc + 3) ls (.int v :: rest))) : W p l e room_1 s m #[Value.ref b] below meth c H locs cells slots Q (F0 m pc ls st0) := by
  obtain ⟨hP1, hP2, hD1, hD2, hne, hS, hV1, hV2⟩ := id hH
  refine va_calli hr hS (fun q _ h => zA_lt hD2 q h) (fun q h => zA_lt hD2 q h) (fun r u t H1 locs1 ht hvm hp hb hz hk hS => ?_)
  subst hp
  exact kk H1 locs1 ⟨hP1.kept (fun k q hq => hk q.1 (hH.off2 k q hq).1 (hH.off2 k q hq).2), by rw [← ht]; exact hb.1, hD1, zD_any hD2, hne, hS, hV1, hb.2⟩
theorem lcl2 {v : Int64} {R' : zM} {a : Array Value} {st0 : List Value} (hr : va_Run p l e room_1 s m #[Value.ref b] below meth c H locs cells slots 0 0 (F0 m pc ls st0) rest (zQl D lyR cy ad2 v R' a) (zA lyR ad2)) (hH : zL2 D cy s H locs ad1 ad2 C R)
    (kk : ∀ (H1 : Heap) (locs1 : List Loc), zL2 D cy s H1 locs1 ad1 ad2 C R' → W p l e room_1 s m #[Value.ref b] below meth c H1 locs1 cells slots Q (F0 m (pc + 3) ls (.long v :: rest))) : W p l e room_1 s m #[Value.ref b] below meth c H locs cells slots Q (F0 m pc ls st0) := by
  obtain ⟨hP1, hP2, hD1, hD2, hne, hS, hV1, hV2⟩ := id hH
  refine va_calll hr hS (fun q _ h => zA_lt hD2 q h) (fun q h => zA_lt hD2 q h) (fun r u t H1 locs1 ht hvm hp hb hz hk hS => ?_)
  subst hp
  exact kk H1 locs1 ⟨hP1.kept (fun k q hq => hk q.1 (hH.off2 k q hq).1 (hH.off2 k q hq).2), by rw [← ht]; exact hb.1, hD1, zD_any hD2, hne, hS, hV1, hb.2⟩
end LROWS
