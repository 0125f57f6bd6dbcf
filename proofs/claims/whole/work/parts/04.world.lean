/-! memory of ints and longs by cell and place; a layout says which cells there are, of which kind, which fields are references, how long arrays are -/
abbrev zM : Type := (Nat → Nat → Int32) × (Nat → Nat → Int64)
def zrI (M : zM) (c : Nat) (f : Nat → Int32) : zM := (va_up M.1 c f, M.2)
def zrL (M : zM) (c : Nat) (f : Nat → Int64) : zM := (M.1, va_up M.2 c f)
def zpI (M : zM) (c k : Nat) (v : Int32) : zM := zrI M c (upd (M.1 c) k v)
def zpL (M : zM) (c k : Nat) (v : Int64) : zM := zrL M c (vp_updL (M.2 c) k v)
abbrev zLy : Type := Nat × (Nat → Nat) × (Nat → Nat → Nat → Option Nat) × (Nat → Nat) × (Nat → Nat → Nat → Option (Int32 × Int32))
def zNf (κ : Nat) : Nat := match κ with
  | 0 => 11
  | 1 => 8
  | 2 => 9
  | 3 => 3
  | 4 => 11
  | 5 => 9
  | _ => 25
def zV (ly : zLy) (ad : Nat → Nat) (M : zM) (κ c k : Nat) : Value := match ly.2.2.1 κ c k with
  | some t => .ref (ad t)
  | none => .int (M.1 c k)
def zFs (ly : zLy) (ad : Nat → Nat) (M : zM) (κ c N : Nat) : List Value := (List.range N).map (zV ly ad M κ c)
def zE (ly : zLy) (cy : Nat → ClassId) (ad : Nat → Nat) (M : zM) (c : Nat) : va_E :=
  if ly.2.1 c < 7 then .inr (ly.2.1 c, zFs ly ad M (ly.2.1 c) c (zNf (ly.2.1 c)))
  else if ly.2.1 c = 7 then .inl (cy 7, ly.2.2.2.1 c, .inl (M.1 c))
  else if ly.2.1 c = 8 then .inl (cy 8, ly.2.2.2.1 c, .inr (.inl (M.2 c)))
  else .inl (cy (ly.2.1 c), ly.2.2.2.1 c, .inr (.inr (.inr (.inr (fun k => (ly.2.2.1 (ly.2.1 c) c k).map ad)))))
def zC (ly : zLy) (cy : Nat → ClassId) (ad : Nat → Nat) (M : zM) : va_W := (List.range ly.1).map (fun c => (ad c, zE ly cy ad M c))
def zA (ly : zLy) (ad : Nat → Nat) : Nat → Prop := fun q => ∃ c, c < ly.1 ∧ q = ad c
def zT (cy : Nat → ClassId) : List (ClassId × FieldType) := [(cy 7, .int), (cy 8, .long), (cy 9, .object RX0), (cy 10, .object RX3)]
def zIs (ly : zLy) (c κ : Nat) : Prop := c < ly.1 ∧ ly.2.1 c = κ
/-- the bounds that the layout tells of some places hold -/
def zIv (ly : zLy) (M : zM) : Prop := ∀ c, c < ly.1 → ∀ (k : Nat) (lo hi : Int32), ly.2.2.2.2 (ly.2.1 c) c k = some (lo, hi) → lo ≤ M.1 c k ∧ M.1 c k ≤ hi
/-- what may stand at a place -/
def zFit (o : Option (Int32 × Int32)) (v : Int32) : Prop := ∀ lo hi : Int32, o = some (lo, hi) → lo ≤ v ∧ v ≤ hi
theorem zcn {v : Int32} : zFit none v := fun _ _ h => by cases h
theorem zcs {lo hi v : Int32} (h : lo ≤ v ∧ v ≤ hi) : zFit (some (lo, hi)) v := fun _ _ e => by cases e; exact h
theorem zIv.put {ly : zLy} {M : zM} {c κ k : Nat} {v : Int32} (h : zIv ly M) (hi : zIs ly c κ) (hf : zFit (ly.2.2.2.2 κ c k) v) : zIv ly (zpI M c k v) := by
  intro a ha j lo hi' e
  by_cases hac : a = c
  · subst hac
    by_cases hjk : j = k
    · subst hjk
      rw [hi.2] at e
      have : (zpI M a j v).1 a j = v := by simp [zpI, zrI, va_up, upd]
      rw [this]
      exact hf lo hi' e
    · have : (zpI M a k v).1 a j = M.1 a j := by simp [zpI, zrI, va_up, upd, hjk]
      rw [this]
      exact h a ha j lo hi' e
  · have : (zpI M c k v).1 a j = M.1 a j := by simp [zpI, zrI, va_up, hac]
    rw [this]
    exact h a ha j lo hi' e
theorem zIv.row {ly : zLy} {M : zM} {c κ : Nat} {f : Nat → Int32} (h : zIv ly M) (hi : zIs ly c κ) (hf : ∀ k, zFit (ly.2.2.2.2 κ c k) (f k)) : zIv ly (zrI M c f) := by
  intro a ha j lo hi' e
  by_cases hac : a = c
  · subst hac
    rw [hi.2] at e
    have : (zrI M a f).1 a j = f j := by simp [zrI, va_up]
    rw [this]
    exact hf j lo hi' e
  · have : (zrI M c f).1 a j = M.1 a j := by simp [zrI, va_up, hac]
    rw [this]
    exact h a ha j lo hi' e
theorem zC_at {ly : zLy} {cy : Nat → ClassId} {ad : Nat → Nat} {M : zM} {c : Nat} (h : c < ly.1) : (zC ly cy ad M)[c]? = some (ad c, zE ly cy ad M c) := by
  simp [zC, h]
theorem zC_inv {ly : zLy} {cy : Nat → ClassId} {ad : Nat → Nat} {M : zM} {k : Nat} {q : Nat × va_E} (h : (zC ly cy ad M)[k]? = some q) : k < ly.1 ∧ q = (ad k, zE ly cy ad M k) := by
  have hk : k < ly.1 := by
    have := (List.getElem?_eq_some_iff.mp h).1
    simpa [zC] using this
  rw [zC_at hk] at h
  exact ⟨hk, (Option.some.inj h).symm⟩
theorem zE_congr {ly : zLy} {cy : Nat → ClassId} {ad : Nat → Nat} {M M' : zM} {c : Nat} (h1 : M'.1 c = M.1 c) (h2 : M'.2 c = M.2 c) : zE ly cy ad M' c = zE ly cy ad M c := by
  have h : zV ly ad M' (ly.2.1 c) c = zV ly ad M (ly.2.1 c) c := by
    funext k
    unfold zV
    rw [h1]
  unfold zE zFs
  rw [h, h1, h2]
theorem zC_set {ly : zLy} {cy : Nat → ClassId} {ad : Nat → Nat} {M M' : zM} {c : Nat} (hc : c < ly.1) (h1 : ∀ a, a ≠ c → M'.1 a = M.1 a) (h2 : ∀ a, a ≠ c → M'.2 a = M.2 a) : (zC ly cy ad M).set c (ad c, zE ly cy ad M' c) = zC ly cy ad M' := by
  apply List.ext_getElem?
  intro j
  have hlen : c < (zC ly cy ad M).length := by simpa [zC] using hc
  by_cases hj : j = c
  · subst hj
    rw [List.getElem?_set_self hlen, zC_at hc]
  · rw [List.getElem?_set_ne (Ne.symm hj)]
    by_cases hl : j < ly.1
    · rw [zC_at hl, zC_at hl, zE_congr (h1 j hj) (h2 j hj)]
    · rw [List.getElem?_eq_none (by simp [zC]; omega), List.getElem?_eq_none (by simp [zC]; omega)]
theorem zD_any {ly : zLy} {cy : Nat → ClassId} {ad : Nat → Nat} {M M' : zM} {A : Nat → Prop} (h : va_D A (zC ly cy ad M)) : va_D A (zC ly cy ad M') := by
  refine ⟨fun i j p q hi hj hpq => ?_, fun k q hk => ?_⟩
  · obtain ⟨li, rfl⟩ := zC_inv hi
    obtain ⟨lj, rfl⟩ := zC_inv hj
    exact h.1 i j _ _ (zC_at li) (zC_at lj) hpq
  · obtain ⟨lk, rfl⟩ := zC_inv hk
    exact h.2 k (ad k, zE ly cy ad M k) (zC_at lk)
theorem zE_obj {ly : zLy} {cy : Nat → ClassId} {ad : Nat → Nat} {M : zM} {c κ N : Nat} (hkd : ly.2.1 c = κ) (hlt : κ < 7) (hN : zNf κ = N) : zE ly cy ad M c = .inr (κ, zFs ly ad M κ c N) := by
  subst hkd; subst hN
  unfold zE
  rw [if_pos hlt]
theorem zE_ints {ly : zLy} {cy : Nat → ClassId} {ad : Nat → Nat} {M : zM} {c n : Nat} (hkd : ly.2.1 c = 7) (hn : ly.2.2.2.1 c = n) : zE ly cy ad M c = .inl (cy 7, n, .inl (M.1 c)) := by
  subst hn
  unfold zE
  rw [hkd]
  rfl
theorem zE_longs {ly : zLy} {cy : Nat → ClassId} {ad : Nat → Nat} {M : zM} {c n : Nat} (hkd : ly.2.1 c = 8) (hn : ly.2.2.2.1 c = n) : zE ly cy ad M c = .inl (cy 8, n, .inr (.inl (M.2 c))) := by
  subst hn
  unfold zE
  rw [hkd]
  rfl
theorem zE_refs {ly : zLy} {cy : Nat → ClassId} {ad : Nat → Nat} {M : zM} {c n κ : Nat} (hκ : κ = 9 ∨ κ = 10) (hkd : ly.2.1 c = κ) (hn : ly.2.2.2.1 c = n) : zE ly cy ad M c = .inl (cy κ, n, .inr (.inr (.inr (.inr (fun k => (ly.2.2.1 κ c k).map ad))))) := by
  subst hn; subst hkd
  unfold zE
  rcases hκ with h | h <;> rw [h] <;> rfl
theorem zFs_int {ly : zLy} {ad : Nat → Nat} {M : zM} {κ c N k : Nat} (hk : k < N) (hr : ly.2.2.1 κ c k = none) : (zFs ly ad M κ c N)[k]? = some (.int (M.1 c k)) := by
  simp [zFs, hk, zV, hr]
theorem zFs_ref {ly : zLy} {ad : Nat → Nat} {M : zM} {κ c N k t : Nat} (hk : k < N) (hr : ly.2.2.1 κ c k = some t) : (zFs ly ad M κ c N)[k]? = some (.ref (ad t)) := by
  simp [zFs, hk, zV, hr]
theorem zFs_set {ly : zLy} {ad : Nat → Nat} {M : zM} {κ c N k : Nat} {v : Int32} (hr : ly.2.2.1 κ c k = none) : (zFs ly ad M κ c N).set k (.int v) = zFs ly ad (zpI M c k v) κ c N := by
  apply List.ext_getElem?
  intro j
  by_cases hj : j < N
  · by_cases hjk : j = k
    · subst hjk
      rw [List.getElem?_set_self (by simpa [zFs] using hj)]
      rw [zFs_int hj hr]
      simp [zpI, zrI, va_up, upd]
    · rw [List.getElem?_set_ne (Ne.symm hjk)]
      simp only [zFs, List.getElem?_map, List.getElem?_range hj, Option.map_some]
      unfold zV
      cases ly.2.2.1 κ c j with
      | some t => rfl
      | none => simp [zpI, zrI, va_up, upd, hjk]
  · rw [List.getElem?_eq_none (by simp [zFs]; omega), List.getElem?_eq_none (by simp [zFs]; omega)]
/-- the nest mates' words hold -/
def zNw (U : State) : Prop := ∀ w ∈ zNest, va_Nw w U
theorem zNw.same {u U : State} (h : u.vm = U.vm) (hZ : zNw u) : zNw U := fun w hw => va_Nw.same (List.all_eq_true.mp (by decide +kernel : zNest.all Cond.onTables = true) w hw) h (hZ w hw)
theorem zNw.warm {s U : State} (hW : s.WarmedH U.vm) (hZ : zNw s) : zNw U := fun w hw => by
  have h1 := zNest_is w hw
  have h2 := hZ w hw
  cases w with
  | fieldLinkNest a i b n d h => exact va_Nw.warmF hW h2
  | methodLinkNest a i x h => exact va_Nw.warmM hW h2
  | _ => exact absurd h1 (by simp [zIsN])
/-- the class's table of kinds, at the start and ever since: nobody writes it -/
def zUnI (j : Nat) : Int32 := match j with
  | 0 => -1
  | 1 => 0
  | 2 => 0
  | 3 => 0
  | 4 => 1
  | _ => 2
def zSt (ly : zLy) (ad : Nat → Nat) (U : State) (H : Heap) : Prop := ∃ t : Nat, va_Z RX5 "UNDER" "[I" (.ref t) (zA ly ad) U H ∧ va_T .int t 6 (fun j => .int (zUnI j)) (zA ly ad) U H
theorem zSt.to {ly : zLy} {ad : Nat → Nat} {u U : State} {H H1 : Heap} (h : zSt ly ad u H) (hvm : u.vm.Alike U.vm) (hq : ∀ a : Nat, a < H.size → ¬ zA ly ad a → H1[a]? = H[a]?) : zSt ly ad U H1 := by
  obtain ⟨t, h1, h2⟩ := h
  exact ⟨t, (h1.moved hvm).kept hq, (h2.moved hvm).kept hq⟩
/-- the world of a layout, in a heap, since a start -/
def zH (D : va_G) (ly : zLy) (cy : Nat → ClassId) (ad : Nat → Nat) (H0 : Heap) (M : zM) (H : Heap) (locs : List Loc) : Prop := va_P D vwCl (zC ly cy ad M) H ∧ va_D (zA ly ad) (zC ly cy ad M) ∧ va_S (zA ly ad) H0 H locs ∧ zIv ly M
/-- what stays in a method -/
def zF (ly : zLy) (ad : Nat → Nat) (p : Program) (m : MethodId) (c : Code) (cc : ByteArray) (nL : Nat) (s : State) (args : Array Value) (own : String) (cw : Cond) (D : va_G) (cy : Nat → ClassId) (meth : Method) (ret : Option FieldType) : Prop :=
  CallFix p m c cc nL s args (cw :: zG) own ∧ va_K D vwCl (zT cy) s ∧ zNw s ∧ meth.sig.returnType = ret ∧ meth.locks = false ∧ zSt ly ad s s.heap
def zP (D : va_G) (ly : zLy) (cy : Nat → ClassId) (ad : Nat → Nat) (vals : List Value) (M : zM) : Array Value → State → Prop :=
  va_Pc vals (fun U => va_P D vwCl (zC ly cy ad M) U.heap ∧ va_K D vwCl (zT cy) U ∧ va_D (zA ly ad) (zC ly cy ad M) ∧ zNw U ∧ zSt ly ad U U.heap ∧ zIv ly M)
def zQi (D : va_G) (ly : zLy) (cy : Nat → ClassId) (ad : Nat → Nat) (v : Int32) (M : zM) : Array Value → State → Outcome → State → Prop := va_Qi (S := Unit) (fun x _ => x = v) (fun _ t => va_P D vwCl (zC ly cy ad M) t.heap ∧ zIv ly M) (zA ly ad)
def zQz (D : va_G) (ly : zLy) (cy : Nat → ClassId) (ad : Nat → Nat) (v : Int32) (M : zM) : Array Value → State → Outcome → State → Prop := va_Qi (S := Unit) (fun x _ => x = v ∧ (v = 0 ∨ v = 1)) (fun _ t => va_P D vwCl (zC ly cy ad M) t.heap ∧ zIv ly M) (zA ly ad)
def zQl (D : va_G) (ly : zLy) (cy : Nat → ClassId) (ad : Nat → Nat) (v : Int64) (M : zM) : Array Value → State → Outcome → State → Prop := va_Ql (S := Unit) (fun x _ => x = v) (fun _ t => va_P D vwCl (zC ly cy ad M) t.heap ∧ zIv ly M) (zA ly ad)
def zQv (D : va_G) (ly : zLy) (cy : Nat → ClassId) (ad : Nat → Nat) (M : zM) : Array Value → State → Outcome → State → Prop := va_Qv (S := Unit) (fun _ => True) (fun _ t => va_P D vwCl (zC ly cy ad M) t.heap ∧ zIv ly M) (zA ly ad)
theorem zP_blind {D : va_G} {ly : zLy} {cy : Nat → ClassId} {ad : Nat → Nat} {vals : List Value} {M : zM} : FrameBlind (zP D ly cy ad vals M) := fun a U g mk q => by
  obtain ⟨h0, h1, h2, h3, h4, h5, h6⟩ := q
  exact ⟨h0, h1, va_K.moved (u := U) (U := U.calling g mk a) (Vm.Alike.refl U.vm) h2, h3, zNw.same (u := U) (U := U.calling g mk a) rfl h4, h5.to (u := U) (U := U.calling g mk a) (Vm.Alike.refl U.vm) (fun _ _ _ => rfl), h6⟩
theorem zMet {l : Launch} {y : MethodName} {cc : ByteArray} {maxL : Nat} {ret : Option FieldType} {rm : Room} {D : va_G} {ly : zLy} {cy : Nat → ClassId} {ad : Nat → Nat} {vals : List Value} {M : zM} {Qc : Array Value → State → Outcome → State → Prop} (hy : plainName y.cls = true) (hle : (lg_sl vals).length ≤ maxL)
    (body : ∀ (p : Program) (e : Env) (s : State) (m : MethodId) (args : Array Value) (below : List Frame) (meth : Method) (c : Code) (ls : Array Slot), zF ly ad p m c cc maxL s args y.cls (Cond.code y cc maxL ret) D cy meth ret → zH D ly cy ad s.heap M s.heap [] → lv_has ls maxL (lv_args 0 vals) → W p l e rm s m args below meth c s.heap [] 0 0 (MQ below Qc args s 0 0 (zA ly ad)) (F0 m 0 ls [])) :
    Met l y (Cond.code y cc maxL ret :: zG) rm (zP D ly cy ad vals M) Qc 0 0 (zA ly ad) := by
  refine Met.ofW (cc := cc) (maxL := maxL) (ret := ret) hy rfl ?_
  intro p e s m args below meth c s₁ B hml hv
  obtain ⟨rfl, hP, hK, hD, hN, hU, hV⟩ := hv
  have hl := lv_entry vals (n := maxL) hle
  rw [lg_entry_eq]
  exact body p e s m _ below meth c _ ⟨⟨B.exec, B.bytes, hml, findClass_of_methodNamed B.named, atoms_spec (ws := Cond.code y cc maxL ret :: zG) B.pre⟩, hK, hN, B.returns, B.notSynchronized, hU⟩ ⟨hP, hD, va_S.rf, hV⟩ hl
/-- a class of the list, with all that is asked of it -/
def zCl (κ : Nat) (C : String) (T : u_T) (N : Nat) (ty : Nat → FieldType) : Prop := vwCl[κ]? = some (C, T, N) ∧ κ < 7 ∧ zNf κ = N ∧ (∀ w ∈ u_ws C T N, w ∈ zG) ∧ (∀ k, k < N → (T k).1 = C) ∧ (∀ k, k < N → parseFieldDescriptor (T k).2.2.1 = some (ty k)) ∧ (∀ a, a < N → ∀ b, b < N → a ≠ b → (T a).2.1 ≠ (T b).2.1)
theorem zK0 : zCl 0 RX0 TX0 11 tyX0 := ⟨rfl, by decide, rfl, kW_X0, by decide +kernel, tyX0_ok, nmX0⟩
theorem zK1 : zCl 1 RX1 TX1 8 tyX1 := ⟨rfl, by decide, rfl, kW_X1, by decide +kernel, tyX1_ok, nmX1⟩
theorem zK2 : zCl 2 RX2 TX2 9 tyX2 := ⟨rfl, by decide, rfl, kW_X2, by decide +kernel, tyX2_ok, nmX2⟩
theorem zK3 : zCl 3 RX3 TX3 3 tyX3 := ⟨rfl, by decide, rfl, kW_X3, by decide +kernel, tyX3_ok, nmX3⟩
theorem zK4 : zCl 4 RX4 TX4 11 tyX4 := ⟨rfl, by decide, rfl, kW_X4, by decide +kernel, tyX4_ok, nmX4⟩
theorem zK5 : zCl 5 RX5 TX5 9 tyX5 := ⟨rfl, by decide, rfl, kW_X5, by decide +kernel, tyX5_ok, nmX5⟩
theorem zK6 : zCl 6 RX6 TX6 25 tyX6 := ⟨rfl, by decide, rfl, kW_X6, by decide +kernel, tyX6_ok, nmX6⟩
section ZROWS
variable {p : Program} {l : Launch} {e : Env} {R : Room} {s : State} {m : MethodId} {args : Array Value} {below : List Frame} {meth : Method} {c : Code} {H : Heap} {locs : List Loc} {Q : State → Prop}
variable {cc : ByteArray} {nL pc : Nat} {ls : Array Slot} {rest : List Value} {own : String} {cw : Cond} {D : va_G} {cy : Nat → ClassId} {ret : Option FieldType} {ly : zLy} {ad : Nat → Nat} {M : zM}
theorem zgI (C0 : zF ly ad p m c cc nL s args own cw D cy meth ret) (hH : zH D ly cy ad s.heap M H locs) {κ N index : Nat} {C : String} {T : u_T} {ty : Nat → FieldType} (hC : zCl κ C T N ty) (k : Nat) (hk : k < N) {c0 : Nat} (hi : zIs ly c0 κ) (hr : ly.2.2.1 κ c0 k = none) (hlink : Cond.fieldLink own index C (T k).2.1 (T k).2.2.1 ∈ zG) (hdg : decode cc pc = .ok (.getfield index, 3))
    (kk : W p l e R s m args below meth c H locs 0 0 Q (F0 m (pc + 3) ls (.int (M.1 c0 k) :: rest))) : W p l e R s m args below meth c H locs 0 0 Q (F0 m pc ls (.ref (ad c0) :: rest)) := by
  obtain ⟨⟨hx, hb, hml, hown, hts⟩, hK, hN, -, -, -⟩ := C0
  obtain ⟨h1, h2, h3, h4, h5, h6, h7⟩ := hC
  exact va_get (ci := κ) (fs := zFs ly ad M κ c0 N) hx hb hts (fun w h => List.mem_cons_of_mem _ (h4 w h)) hown hK hH.1 c0 (by rw [zC_at hi.1, zE_obj hi.2 h2 h3]) h1 k hk (hts _ (List.mem_cons_of_mem _ hlink)) (by rw [h5 k hk]; exact fun _ h => h) (zFs_int hk hr) hdg kk
theorem zgR (C0 : zF ly ad p m c cc nL s args own cw D cy meth ret) (hH : zH D ly cy ad s.heap M H locs) {κ N index : Nat} {C : String} {T : u_T} {ty : Nat → FieldType} (hC : zCl κ C T N ty) (k : Nat) (hk : k < N) {c0 : Nat} (t : Nat) (hi : zIs ly c0 κ) (hr : ly.2.2.1 κ c0 k = some t) (hlink : Cond.fieldLink own index C (T k).2.1 (T k).2.2.1 ∈ zG) (hdg : decode cc pc = .ok (.getfield index, 3))
    (kk : W p l e R s m args below meth c H locs 0 0 Q (F0 m (pc + 3) ls (.ref (ad t) :: rest))) : W p l e R s m args below meth c H locs 0 0 Q (F0 m pc ls (.ref (ad c0) :: rest)) := by
  obtain ⟨⟨hx, hb, hml, hown, hts⟩, hK, hN, -, -, -⟩ := C0
  obtain ⟨h1, h2, h3, h4, h5, h6, h7⟩ := hC
  exact va_get (ci := κ) (fs := zFs ly ad M κ c0 N) hx hb hts (fun w h => List.mem_cons_of_mem _ (h4 w h)) hown hK hH.1 c0 (by rw [zC_at hi.1, zE_obj hi.2 h2 h3]) h1 k hk (hts _ (List.mem_cons_of_mem _ hlink)) (by rw [h5 k hk]; exact fun _ h => h) (zFs_ref hk hr) hdg kk
theorem zgIN (C0 : zF ly ad p m c cc nL s args own cw D cy meth ret) (hH : zH D ly cy ad s.heap M H locs) {κ N index : Nat} {C host : String} {T : u_T} {ty : Nat → FieldType} (hC : zCl κ C T N ty) (k : Nat) (hk : k < N) {c0 : Nat} (hi : zIs ly c0 κ) (hr : ly.2.2.1 κ c0 k = none) (hlink : Cond.fieldLinkNest own index C (T k).2.1 (T k).2.2.1 host ∈ zNest) (hdg : decode cc pc = .ok (.getfield index, 3))
    (kk : W p l e R s m args below meth c H locs 0 0 Q (F0 m (pc + 3) ls (.int (M.1 c0 k) :: rest))) : W p l e R s m args below meth c H locs 0 0 Q (F0 m pc ls (.ref (ad c0) :: rest)) := by
  obtain ⟨⟨hx, hb, hml, hown, hts⟩, hK, hN, -, -, -⟩ := C0
  obtain ⟨h1, h2, h3, h4, h5, h6, h7⟩ := hC
  exact va_getN (ci := κ) (fs := zFs ly ad M κ c0 N) hx hb hts (fun w h => List.mem_cons_of_mem _ (h4 w h)) hown hK hH.1 c0 (by rw [zC_at hi.1, zE_obj hi.2 h2 h3]) h1 k hk (va_Nw.use rfl (hN _ hlink)) (by rw [h5 k hk]; exact fun _ h => h) (zFs_int hk hr) hdg kk
theorem zgRN (C0 : zF ly ad p m c cc nL s args own cw D cy meth ret) (hH : zH D ly cy ad s.heap M H locs) {κ N index : Nat} {C host : String} {T : u_T} {ty : Nat → FieldType} (hC : zCl κ C T N ty) (k : Nat) (hk : k < N) {c0 : Nat} (t : Nat) (hi : zIs ly c0 κ) (hr : ly.2.2.1 κ c0 k = some t) (hlink : Cond.fieldLinkNest own index C (T k).2.1 (T k).2.2.1 host ∈ zNest) (hdg : decode cc pc = .ok (.getfield index, 3))
    (kk : W p l e R s m args below meth c H locs 0 0 Q (F0 m (pc + 3) ls (.ref (ad t) :: rest))) : W p l e R s m args below meth c H locs 0 0 Q (F0 m pc ls (.ref (ad c0) :: rest)) := by
  obtain ⟨⟨hx, hb, hml, hown, hts⟩, hK, hN, -, -, -⟩ := C0
  obtain ⟨h1, h2, h3, h4, h5, h6, h7⟩ := hC
  exact va_getN (ci := κ) (fs := zFs ly ad M κ c0 N) hx hb hts (fun w h => List.mem_cons_of_mem _ (h4 w h)) hown hK hH.1 c0 (by rw [zC_at hi.1, zE_obj hi.2 h2 h3]) h1 k hk (va_Nw.use rfl (hN _ hlink)) (by rw [h5 k hk]; exact fun _ h => h) (zFs_ref hk hr) hdg kk
theorem zH_put {D : va_G} {ly : zLy} {cy : Nat → ClassId} {ad : Nat → Nat} {M M' : zM} {H0 H1 : Heap} {locs1 : List Loc} {c0 : Nat} (hc : c0 < ly.1) (h1 : ∀ a, a ≠ c0 → M'.1 a = M.1 a) (h2 : ∀ a, a ≠ c0 → M'.2 a = M.2 a) {en : va_E} (he : en = zE ly cy ad M' c0)
    (hP : va_P D vwCl ((zC ly cy ad M).set c0 (ad c0, en)) H1) (hD : va_D (zA ly ad) ((zC ly cy ad M).set c0 (ad c0, en))) (hS : va_S (zA ly ad) H0 H1 locs1) (hV : zIv ly M') : zH D ly cy ad H0 M' H1 locs1 := by
  subst he
  rw [zC_set hc h1 h2] at hP hD
  exact ⟨hP, hD, hS, hV⟩
theorem zpI_ne {M : zM} {c k : Nat} {v : Int32} : (∀ a, a ≠ c → (zpI M c k v).1 a = M.1 a) ∧ (∀ a, a ≠ c → (zpI M c k v).2 a = M.2 a) := ⟨fun a h => by simp [zpI, zrI, va_up, h], fun a h => rfl⟩
theorem zpL_ne {M : zM} {c k : Nat} {v : Int64} : (∀ a, a ≠ c → (zpL M c k v).1 a = M.1 a) ∧ (∀ a, a ≠ c → (zpL M c k v).2 a = M.2 a) := ⟨fun a h => rfl, fun a h => by simp [zpL, zrL, va_up, h]⟩
theorem zrI_ne {M : zM} {c : Nat} {f : Nat → Int32} : (∀ a, a ≠ c → (zrI M c f).1 a = M.1 a) ∧ (∀ a, a ≠ c → (zrI M c f).2 a = M.2 a) := ⟨fun a h => by simp [zrI, va_up, h], fun a h => rfl⟩
theorem zrL_ne {M : zM} {c : Nat} {f : Nat → Int64} : (∀ a, a ≠ c → (zrL M c f).1 a = M.1 a) ∧ (∀ a, a ≠ c → (zrL M c f).2 a = M.2 a) := ⟨fun a h => rfl, fun a h => by simp [zrL, va_up, h]⟩
/-- what may be written into a field of that type as it is -/
def zOk (ty : FieldType) (v : Int32) : Prop := narrow ty (.int v) = .int v ∧ fits ty (.int v) = true
theorem zOk_int {v : Int32} : zOk .int v := ⟨rfl, rfl⟩
theorem zOk_01 {v : Int32} (h : v = 0 ∨ v = 1) : zOk .boolean v := by rcases h with rfl | rfl <;> exact ⟨by decide, by decide⟩
theorem zp (C0 : zF ly ad p m c cc nL s args own cw D cy meth ret) (hH : zH D ly cy ad s.heap M H locs) {κ N index : Nat} {C : String} {T : u_T} {ty : Nat → FieldType} (hC : zCl κ C T N ty) (k : Nat) (hk : k < N) {c0 : Nat} (hi : zIs ly c0 κ) (hr : ly.2.2.1 κ c0 k = none) (hfin : (T k).2.2.2 = false) {v : Int32} (hv : zOk (ty k) v) (hf : zFit (ly.2.2.2.2 κ c0 k) v) (hlink : Cond.fieldLink own index C (T k).2.1 (T k).2.2.1 ∈ zG) (hdg : decode cc pc = .ok (.putfield index, 3))
    (kk : ∀ (H1 : Heap) (locs1 : List Loc), zH D ly cy ad s.heap (zpI M c0 k v) H1 locs1 → W p l e R s m args below meth c H1 locs1 0 0 Q (F0 m (pc + 3) ls rest)) : W p l e R s m args below meth c H locs 0 0 Q (F0 m pc ls (.int v :: .ref (ad c0) :: rest)) := by
  obtain ⟨⟨hx, hb, hml, hown, hts⟩, hK, hN, -, -, -⟩ := C0
  obtain ⟨h1, h2, h3, h4, h5, h6, h7⟩ := hC
  refine va_put (ci := κ) (fs := zFs ly ad M κ c0 N) hx hb hts (fun w h => List.mem_cons_of_mem _ (h4 w h)) ty h6 h7 hown hK hH.1 hH.2.1 hH.2.2.1 c0 (by rw [zC_at hi.1, zE_obj hi.2 h2 h3]) h1 k hk (hts _ (List.mem_cons_of_mem _ hlink)) (by rw [h5 k hk]; exact fun _ h => h) hfin (h6 k hk) hv.1 hv.2 (by simpa [zFs] using hk) hdg (fun H1 locs1 hP hD hS => ?_)
  exact kk H1 locs1 (zH_put hi.1 zpI_ne.1 zpI_ne.2 (by rw [zE_obj hi.2 h2 h3, zFs_set hr]) hP hD hS (hH.2.2.2.put hi hf))
theorem zpN (C0 : zF ly ad p m c cc nL s args own cw D cy meth ret) (hH : zH D ly cy ad s.heap M H locs) {κ N index : Nat} {C host : String} {T : u_T} {ty : Nat → FieldType} (hC : zCl κ C T N ty) (k : Nat) (hk : k < N) {c0 : Nat} (hi : zIs ly c0 κ) (hr : ly.2.2.1 κ c0 k = none) (hfin : (T k).2.2.2 = false) {v : Int32} (hv : zOk (ty k) v) (hf : zFit (ly.2.2.2.2 κ c0 k) v) (hlink : Cond.fieldLinkNest own index C (T k).2.1 (T k).2.2.1 host ∈ zNest) (hdg : decode cc pc = .ok (.putfield index, 3))
    (kk : ∀ (H1 : Heap) (locs1 : List Loc), zH D ly cy ad s.heap (zpI M c0 k v) H1 locs1 → W p l e R s m args below meth c H1 locs1 0 0 Q (F0 m (pc + 3) ls rest)) : W p l e R s m args below meth c H locs 0 0 Q (F0 m pc ls (.int v :: .ref (ad c0) :: rest)) := by
  obtain ⟨⟨hx, hb, hml, hown, hts⟩, hK, hN, -, -, -⟩ := C0
  obtain ⟨h1, h2, h3, h4, h5, h6, h7⟩ := hC
  refine va_putN (ci := κ) (fs := zFs ly ad M κ c0 N) hx hb hts (fun w h => List.mem_cons_of_mem _ (h4 w h)) ty h6 h7 hown hK hH.1 hH.2.1 hH.2.2.1 c0 (by rw [zC_at hi.1, zE_obj hi.2 h2 h3]) h1 k hk (va_Nw.use rfl (hN _ hlink)) (by rw [h5 k hk]; exact fun _ h => h) hfin (h6 k hk) hv.1 hv.2 (by simpa [zFs] using hk) hdg (fun H1 locs1 hP hD hS => ?_)
  exact kk H1 locs1 (zH_put hi.1 zpI_ne.1 zpI_ne.2 (by rw [zE_obj hi.2 h2 h3, zFs_set hr]) hP hD hS (hH.2.2.2.put hi hf))
theorem zald (C0 : zF ly ad p m c cc nL s args own cw D cy meth ret) (hH : zH D ly cy ad s.heap M H locs) {c0 n : Nat} (hi : zIs ly c0 7) (hn : ly.2.2.2.1 c0 = n) {i : Int32} (hin : vp_in i n) (hdg : decode cc pc = .ok (.iaload, 1))
    (kk : W p l e R s m args below meth c H locs 0 0 Q (F0 m (pc + 1) ls (.int (M.1 c0 i.toNatClampNeg) :: rest))) : W p l e R s m args below meth c H locs 0 0 Q (F0 m pc ls (.int i :: .ref (ad c0) :: rest)) := by
  obtain ⟨⟨hx, hb, hml, hown, hts⟩, hK, hN, -, -, -⟩ := C0
  exact va_iald hx hb hK hH.1 c0 0 (by rw [zC_at hi.1, zE_ints hi.2 hn]) rfl hin hdg kk
theorem zlld (C0 : zF ly ad p m c cc nL s args own cw D cy meth ret) (hH : zH D ly cy ad s.heap M H locs) {c0 n : Nat} (hi : zIs ly c0 8) (hn : ly.2.2.2.1 c0 = n) {i : Int32} (hin : vp_in i n) (hdg : decode cc pc = .ok (.laload, 1))
    (kk : W p l e R s m args below meth c H locs 0 0 Q (F0 m (pc + 1) ls (.long (M.2 c0 i.toNatClampNeg) :: rest))) : W p l e R s m args below meth c H locs 0 0 Q (F0 m pc ls (.int i :: .ref (ad c0) :: rest)) := by
  obtain ⟨⟨hx, hb, hml, hown, hts⟩, hK, hN, -, -, -⟩ := C0
  exact va_lald hx hb hK hH.1 c0 1 (by rw [zC_at hi.1, zE_longs hi.2 hn]) rfl hin hdg kk
theorem zqld9 (C0 : zF ly ad p m c cc nL s args own cw D cy meth ret) (hH : zH D ly cy ad s.heap M H locs) {c0 n : Nat} (t : Nat) (hi : zIs ly c0 9) (hn : ly.2.2.2.1 c0 = n) {i : Int32} (hin : vp_in i n) (hr : ly.2.2.1 9 c0 i.toNatClampNeg = some t) (hdg : decode cc pc = .ok (.aaload, 1))
    (kk : W p l e R s m args below meth c H locs 0 0 Q (F0 m (pc + 1) ls (.ref (ad t) :: rest))) : W p l e R s m args below meth c H locs 0 0 Q (F0 m pc ls (.int i :: .ref (ad c0) :: rest)) := by
  obtain ⟨⟨hx, hb, hml, hown, hts⟩, hK, hN, -, -, -⟩ := C0
  refine va_aldq hx hb hK hH.1 c0 2 (by rw [zC_at hi.1, zE_refs (Or.inl rfl) hi.2 hn]) rfl hin hdg ?_
  rw [hr]
  exact kk
theorem zqld10 (C0 : zF ly ad p m c cc nL s args own cw D cy meth ret) (hH : zH D ly cy ad s.heap M H locs) {c0 n : Nat} (t : Nat) (hi : zIs ly c0 10) (hn : ly.2.2.2.1 c0 = n) {i : Int32} (hin : vp_in i n) (hr : ly.2.2.1 10 c0 i.toNatClampNeg = some t) (hdg : decode cc pc = .ok (.aaload, 1))
    (kk : W p l e R s m args below meth c H locs 0 0 Q (F0 m (pc + 1) ls (.ref (ad t) :: rest))) : W p l e R s m args below meth c H locs 0 0 Q (F0 m pc ls (.int i :: .ref (ad c0) :: rest)) := by
  obtain ⟨⟨hx, hb, hml, hown, hts⟩, hK, hN, -, -, -⟩ := C0
  refine va_aldq hx hb hK hH.1 c0 3 (by rw [zC_at hi.1, zE_refs (Or.inr rfl) hi.2 hn]) rfl hin hdg ?_
  rw [hr]
  exact kk
theorem zast (C0 : zF ly ad p m c cc nL s args own cw D cy meth ret) (hH : zH D ly cy ad s.heap M H locs) {c0 n : Nat} (hi : zIs ly c0 7) (hn : ly.2.2.2.1 c0 = n) {i x : Int32} (hin : vp_in i n) (hf : zFit (ly.2.2.2.2 7 c0 i.toNatClampNeg) x) (hdg : decode cc pc = .ok (.iastore, 1))
    (kk : ∀ (H1 : Heap) (locs1 : List Loc), zH D ly cy ad s.heap (zpI M c0 i.toNatClampNeg x) H1 locs1 → W p l e R s m args below meth c H1 locs1 0 0 Q (F0 m (pc + 1) ls rest)) : W p l e R s m args below meth c H locs 0 0 Q (F0 m pc ls (.int x :: .int i :: .ref (ad c0) :: rest)) := by
  obtain ⟨⟨hx, hb, hml, hown, hts⟩, hK, hN, -, -, -⟩ := C0
  refine va_iast hx hb hK hH.1 hH.2.1 hH.2.2.1 c0 0 (by rw [zC_at hi.1, zE_ints hi.2 hn]) rfl hin hdg (fun H1 locs1 hP hD hS => ?_)
  exact kk H1 locs1 (zH_put hi.1 zpI_ne.1 zpI_ne.2 (by rw [zE_ints hi.2 hn]; simp [zpI, zrI, va_up]) hP hD hS (hH.2.2.2.put hi hf))
theorem zlst (C0 : zF ly ad p m c cc nL s args own cw D cy meth ret) (hH : zH D ly cy ad s.heap M H locs) {c0 n : Nat} (hi : zIs ly c0 8) (hn : ly.2.2.2.1 c0 = n) {i : Int32} {x : Int64} (hin : vp_in i n) (hdg : decode cc pc = .ok (.lastore, 1))
    (kk : ∀ (H1 : Heap) (locs1 : List Loc), zH D ly cy ad s.heap (zpL M c0 i.toNatClampNeg x) H1 locs1 → W p l e R s m args below meth c H1 locs1 0 0 Q (F0 m (pc + 1) ls rest)) : W p l e R s m args below meth c H locs 0 0 Q (F0 m pc ls (.long x :: .int i :: .ref (ad c0) :: rest)) := by
  obtain ⟨⟨hx, hb, hml, hown, hts⟩, hK, hN, -, -, -⟩ := C0
  refine va_last hx hb hK hH.1 hH.2.1 hH.2.2.1 c0 1 (by rw [zC_at hi.1, zE_longs hi.2 hn]) rfl hin hdg (fun H1 locs1 hP hD hS => ?_)
  exact kk H1 locs1 (zH_put hi.1 zpL_ne.1 zpL_ne.2 (by rw [zE_longs hi.2 hn]; simp [zpL, zrL, va_up]) hP hD hS hH.2.2.2)
/-- what a callee's name needs of the tables -/
def zCal (C : String) (y : MethodName) (bytes : ByteArray) (maxL : Nat) (rt : Option FieldType) (n : Nat) : Prop := Cond.instanceMethod y ∈ zG ∧ Cond.selects C y y ∈ zG ∧ Cond.initialized C ∈ zG ∧ Cond.code y bytes maxL rt ∈ zG ∧ (y.cls = C ∧ y.cls ≠ "java/lang/invoke/MethodHandle" ∧ y.cls ≠ "java/lang/invoke/VarHandle" ∧ (parseMethodDescriptor y.desc).map (fun d => d.parameters.length) = some n)
def zCalS (y : MethodName) (bytes : ByteArray) (maxL : Nat) (rt : Option FieldType) (n : Nat) : Prop := Cond.static y ∈ zG ∧ Cond.initialized y.cls ∈ zG ∧ Cond.code y bytes maxL rt ∈ zG ∧ (y.cls ≠ "java/lang/invoke/MethodHandle" ∧ y.cls ≠ "java/lang/invoke/VarHandle" ∧ (parseMethodDescriptor y.desc).map (fun d => d.parameters.length) = some n)
theorem zGood {cw cw' : Cond} (h : cw' ∈ zG) : GoodIn (cw :: zG) (cw' :: zG) := fun w hw => by
  rcases List.mem_cons.mp hw with rfl | hw
  · exact ⟨List.mem_cons_of_mem _ h, good_of_word (zG_good _ h)⟩
  · exact ⟨List.mem_cons_of_mem _ hw, good_of_word (zG_good _ hw)⟩
theorem zrunV {y : MethodName} {bytes : ByteArray} {maxL n index : Nat} {rt : Option FieldType} {C : String} {rm : Room} {Qc : Array Value → State → Outcome → State → Prop} {As st0 : List Value} {c0 κ N : Nat} {T : u_T} {ty : Nat → FieldType} (C0 : zF ly ad p m c cc nL s args own cw D cy meth ret) (hH : zH D ly cy ad s.heap M H locs)
    (hM : Met l y (Cond.code y bytes maxL rt :: zG) rm (zP D ly cy ad (.ref (ad c0) :: As) M) Qc 0 0 (zA ly ad)) (hlink : Cond.methodLink own index y ∈ zG) (hC : zCl κ C T N ty) (hcal : zCal C y bytes maxL rt n) (hi : zIs ly c0 κ) (hn : As.length = n) (hsz : ls.size = nL) (hst : st0 = As.reverse ++ .ref (ad c0) :: rest) (hrc : rm.cells = 0) (hrs : rm.slots = 0) (hR : rm.frames + 1 ≤ R.frames ∧ 8 + (maxL + 11) + rm.locals ≤ R.locals) (hW : (rest.map fun v => v.category).sum ≤ 8) (hdg : decode cc pc = .ok (.invokevirtual index, 3)) :
    va_Run p l e R s m args below meth c H locs 0 0 0 0 (F0 m pc ls st0) rest (Qc (Value.ref (ad c0) :: As).toArray) (zA ly ad) := by
  obtain ⟨hfix, hK, hN, -, -, hUn⟩ := id C0
  obtain ⟨g2, g3, g4, g5, hd⟩ := hcal
  have hts := hfix.2.2.2.2
  have hin : ∀ w ∈ zG, w.before args s = true := fun w h => hts w (List.mem_cons_of_mem _ h)
  have hini : (Cond.initialized y.cls).before args s = true := by rw [hd.1]; exact hin _ g4
  subst hst
  exact va_runV (C := C) hfix hM ⟨callB_of n hts (zGood g5) rfl hrc hrs hini (hin _ hlink) hd.2 hR, hin _ g2, hin _ g3⟩
    ⟨zP_blind, va_recv hK hH.1 hC.1 (by rw [zC_at hi.1, zE_obj hi.2 hC.2.1 rfl]), fun U hU hW => ⟨rfl, by rw [hU]; exact hH.1, va_K.moved hW.alike hK, hH.2.1, zNw.warm hW hN, by rw [hU]; exact hUn.to hW.alike hH.2.2.1.2.1, hH.2.2.2⟩⟩
    rfl hn hsz rfl (lv_room hW) hdg ⟨Nat.zero_le _, Nat.zero_le _⟩
theorem zrunS {y : MethodName} {bytes : ByteArray} {maxL n index : Nat} {rt : Option FieldType} {rm : Room} {Qc : Array Value → State → Outcome → State → Prop} {As st0 : List Value} (C0 : zF ly ad p m c cc nL s args own cw D cy meth ret) (hH : zH D ly cy ad s.heap M H locs)
    (hM : Met l y (Cond.code y bytes maxL rt :: zG) rm (zP D ly cy ad As M) Qc 0 0 (zA ly ad)) (hlink : Cond.methodLink own index y ∈ zG) (hcal : zCalS y bytes maxL rt n) (hn : As.length = n) (hsz : ls.size = nL) (hst : st0 = As.reverse ++ rest) (hrc : rm.cells = 0) (hrs : rm.slots = 0) (hR : rm.frames + 1 ≤ R.frames ∧ 8 + (maxL + 11) + rm.locals ≤ R.locals) (hW : (rest.map fun v => v.category).sum ≤ 8) (hdg : decode cc pc = .ok (.invokestatic index, 3)) :
    va_Run p l e R s m args below meth c H locs 0 0 0 0 (F0 m pc ls st0) rest (Qc As.toArray) (zA ly ad) := by
  obtain ⟨hfix, hK, hN, -, -, hUn⟩ := id C0
  obtain ⟨g2, g4, g5, hd⟩ := hcal
  have hts := hfix.2.2.2.2
  have hin : ∀ w ∈ zG, w.before args s = true := fun w h => hts w (List.mem_cons_of_mem _ h)
  subst hst
  exact va_runS hfix hM ⟨callB_of n hts (zGood g5) rfl hrc hrs (hin _ g4) (hin _ hlink) hd hR, hin _ g2⟩
    ⟨zP_blind, fun U hU hW => ⟨rfl, by rw [hU]; exact hH.1, va_K.moved hW.alike hK, hH.2.1, zNw.warm hW hN, by rw [hU]; exact hUn.to hW.alike hH.2.2.1.2.1, hH.2.2.2⟩⟩
    rfl hn hsz rfl (lv_room hW) hdg ⟨Nat.zero_le _, Nat.zero_le _⟩
theorem zci {v : Int32} {M' : zM} {a : Array Value} {st0 : List Value} (hr : va_Run p l e R s m args below meth c H locs 0 0 0 0 (F0 m pc ls st0) rest (zQi D ly cy ad v M' a) (zA ly ad)) (hH : zH D ly cy ad s.heap M H locs)
    (kk : ∀ (H1 : Heap) (locs1 : List Loc), zH D ly cy ad s.heap M' H1 locs1 → W p l e R s m args below meth c H1 locs1 0 0 Q (F0 m (pc + 3) ls (.int v :: rest))) : W p l e R s m args below meth c H locs 0 0 Q (F0 m pc ls st0) := by
  refine va_calli hr hH.2.2.1 (fun _ _ h => h) (fun _ h => h) (fun r u t H1 locs1 ht hvm hp hb hz hk hS => ?_)
  subst hp
  exact kk H1 locs1 ⟨by rw [← ht]; exact hb.1, zD_any hH.2.1, hS, hb.2⟩
theorem zcz {v : Int32} {M' : zM} {a : Array Value} {st0 : List Value} (hr : va_Run p l e R s m args below meth c H locs 0 0 0 0 (F0 m pc ls st0) rest (zQz D ly cy ad v M' a) (zA ly ad)) (hH : zH D ly cy ad s.heap M H locs)
    (kk : ∀ (H1 : Heap) (locs1 : List Loc), zH D ly cy ad s.heap M' H1 locs1 → (v = 0 ∨ v = 1) → W p l e R s m args below meth c H1 locs1 0 0 Q (F0 m (pc + 3) ls (.int v :: rest))) : W p l e R s m args below meth c H locs 0 0 Q (F0 m pc ls st0) := by
  refine va_calli hr hH.2.2.1 (fun _ _ h => h) (fun _ h => h) (fun r u t H1 locs1 ht hvm hp hb hz hk hS => ?_)
  obtain ⟨rfl, h01⟩ := hp
  exact kk H1 locs1 ⟨by rw [← ht]; exact hb.1, zD_any hH.2.1, hS, hb.2⟩ h01
theorem zcl {v : Int64} {M' : zM} {a : Array Value} {st0 : List Value} (hr : va_Run p l e R s m args below meth c H locs 0 0 0 0 (F0 m pc ls st0) rest (zQl D ly cy ad v M' a) (zA ly ad)) (hH : zH D ly cy ad s.heap M H locs)
    (kk : ∀ (H1 : Heap) (locs1 : List Loc), zH D ly cy ad s.heap M' H1 locs1 → W p l e R s m args below meth c H1 locs1 0 0 Q (F0 m (pc + 3) ls (.long v :: rest))) : W p l e R s m args below meth c H locs 0 0 Q (F0 m pc ls st0) := by
  refine va_calll hr hH.2.2.1 (fun _ _ h => h) (fun _ h => h) (fun r u t H1 locs1 ht hvm hp hb hz hk hS => ?_)
  subst hp
  exact kk H1 locs1 ⟨by rw [← ht]; exact hb.1, zD_any hH.2.1, hS, hb.2⟩
theorem zcv {M' : zM} {a : Array Value} {st0 : List Value} (hr : va_Run p l e R s m args below meth c H locs 0 0 0 0 (F0 m pc ls st0) rest (zQv D ly cy ad M' a) (zA ly ad)) (hH : zH D ly cy ad s.heap M H locs)
    (kk : ∀ (H1 : Heap) (locs1 : List Loc), zH D ly cy ad s.heap M' H1 locs1 → W p l e R s m args below meth c H1 locs1 0 0 Q (F0 m (pc + 3) ls rest)) : W p l e R s m args below meth c H locs 0 0 Q (F0 m pc ls st0) := by
  refine va_callv hr hH.2.2.1 (fun _ _ h => h) (fun _ h => h) (fun u t H1 locs1 ht hvm hp hb hz hk hS => ?_)
  exact kk H1 locs1 ⟨by rw [← ht]; exact hb.1, zD_any hH.2.1, hS, hb.2⟩
theorem zreti {x v : Int32} {M' : zM} (C0 : zF ly ad p m c cc nL s args own cw D cy meth (some .int)) (hH : zH D ly cy ad s.heap M H locs) (hdg : decode cc pc = .ok (.ireturn, 1)) (hv : x = v) (hM : M = M') : W p l e R s m args below meth c H locs 0 0 (MQ below (zQi D ly cy ad v M') args s 0 0 (zA ly ad)) (F0 m pc ls [.int x]) := by
  obtain ⟨⟨hx, hb, hml, hown, hts⟩, hK, hN, hr, hlk, -⟩ := C0
  subst hv; subst hM
  exact W.iret hx hb hr (fun t ht hW => ⟨⟨x, (), rfl, rfl, ⟨by rw [ht]; exact hH.1, hH.2.2.2⟩⟩, hH.2.2.1.F ht⟩) hH.2.2.1.2.2 hdg hlk
theorem zretz {x v : Int32} {M' : zM} (C0 : zF ly ad p m c cc nL s args own cw D cy meth (some .boolean)) (hH : zH D ly cy ad s.heap M H locs) (hdg : decode cc pc = .ok (.ireturn, 1)) (h01 : x = 0 ∨ x = 1) (hv : x = v) (hM : M = M') : W p l e R s m args below meth c H locs 0 0 (MQ below (zQz D ly cy ad v M') args s 0 0 (zA ly ad)) (F0 m pc ls [.int x]) := by
  obtain ⟨⟨hx, hb, hml, hown, hts⟩, hK, hN, hr, hlk, -⟩ := C0
  subst hv; subst hM
  exact W.zret hx hb hr (zOk_01 h01).1 (fun t ht hW => ⟨⟨x, (), rfl, ⟨rfl, h01⟩, ⟨by rw [ht]; exact hH.1, hH.2.2.2⟩⟩, hH.2.2.1.F ht⟩) hH.2.2.1.2.2 hdg hlk
theorem zretl {x v : Int64} {M' : zM} (C0 : zF ly ad p m c cc nL s args own cw D cy meth (some .long)) (hH : zH D ly cy ad s.heap M H locs) (hdg : decode cc pc = .ok (.lreturn, 1)) (hv : x = v) (hM : M = M') : W p l e R s m args below meth c H locs 0 0 (MQ below (zQl D ly cy ad v M') args s 0 0 (zA ly ad)) (F0 m pc ls [.long x]) := by
  obtain ⟨⟨hx, hb, hml, hown, hts⟩, hK, hN, hr, hlk, -⟩ := C0
  subst hv; subst hM
  exact W.lret hx hb hr (fun t ht hW => ⟨⟨x, (), rfl, rfl, ⟨by rw [ht]; exact hH.1, hH.2.2.2⟩⟩, hH.2.2.1.F ht⟩) hH.2.2.1.2.2 hdg hlk
theorem zretv {M' : zM} (C0 : zF ly ad p m c cc nL s args own cw D cy meth none) (hH : zH D ly cy ad s.heap M H locs) (hdg : decode cc pc = .ok (.return_, 1)) (hM : M = M') : W p l e R s m args below meth c H locs 0 0 (MQ below (zQv D ly cy ad M') args s 0 0 (zA ly ad)) (F0 m pc ls []) := by
  obtain ⟨⟨hx, hb, hml, hown, hts⟩, hK, hN, hr, hlk, -⟩ := C0
  subst hM
  exact W.vret hx hb hr (fun t ht hW => ⟨⟨(), rfl, trivial, ⟨by rw [ht]; exact hH.1, hH.2.2.2⟩⟩, hH.2.2.1.F ht⟩) hH.2.2.1.2.2 hdg hlk
theorem zmax (C0 : zF ly ad p m c cc nL s args own cw D cy meth ret) (hsz : ls.size = nL) {index : Nat} (hlink : Cond.methodLink own index Lib.Math.max.name ∈ zG) (hf : 1 ≤ R.frames) (hl : (rest.map fun v => v.category).sum + 13 ≤ R.locals) {x y : Int32} (hdg : decode cc pc = .ok (.invokestatic index, 3))
    (kk : W p l e R s m args below meth c H locs 0 0 Q (F0 m (pc + 3) ls (.int (if x < y then y else x) :: rest))) : W p l e R s m args below meth c H locs 0 0 Q (F0 m pc ls (.int y :: .int x :: rest)) := by
  obtain ⟨⟨hx, hb, hml, hown, hts⟩, hK, hN, -, -, -⟩ := C0
  have hin : ∀ w ∈ zG, w.before args s = true := fun w h => hts w (List.mem_cons_of_mem _ h)
  exact va_mmax hx hb (hml.trans hsz.symm) hown (hin _ hlink) (hin _ kT_J_max) (hin _ kC_Math) (hin _ kD_J_max) hf hl (Nat.zero_le _) (Nat.zero_le _) hdg kk
theorem zmin (C0 : zF ly ad p m c cc nL s args own cw D cy meth ret) (hsz : ls.size = nL) {index : Nat} (hlink : Cond.methodLink own index Lib.Math.min.name ∈ zG) (hf : 1 ≤ R.frames) (hl : (rest.map fun v => v.category).sum + 13 ≤ R.locals) {x y : Int32} (hdg : decode cc pc = .ok (.invokestatic index, 3))
    (kk : W p l e R s m args below meth c H locs 0 0 Q (F0 m (pc + 3) ls (.int (if y < x then y else x) :: rest))) : W p l e R s m args below meth c H locs 0 0 Q (F0 m pc ls (.int y :: .int x :: rest)) := by
  obtain ⟨⟨hx, hb, hml, hown, hts⟩, hK, hN, -, -, -⟩ := C0
  have hin : ∀ w ∈ zG, w.before args s = true := fun w h => hts w (List.mem_cons_of_mem _ h)
  exact va_mmin hx hb (hml.trans hsz.symm) hown (hin _ hlink) (hin _ kT_J_min) (hin _ kC_Math) (hin _ kD_J_min) hf hl (Nat.zero_le _) (Nat.zero_le _) hdg kk
theorem zmaxl (C0 : zF ly ad p m c cc nL s args own cw D cy meth ret) (hsz : ls.size = nL) {index : Nat} (hlink : Cond.methodLink own index Lib.MathLoose.max_long.x ∈ zG) (hf : 1 ≤ R.frames) (hl : (rest.map fun v => v.category).sum + 15 ≤ R.locals) {x y : Int64} (hdg : decode cc pc = .ok (.invokestatic index, 3))
    (kk : W p l e R s m args below meth c H locs 0 0 Q (F0 m (pc + 3) ls (.long (if y < x then x else y) :: rest))) : W p l e R s m args below meth c H locs 0 0 Q (F0 m pc ls (.long y :: .long x :: rest)) := by
  obtain ⟨⟨hx, hb, hml, hown, hts⟩, hK, hN, -, -, -⟩ := C0
  have hin : ∀ w ∈ zG, w.before args s = true := fun w h => hts w (List.mem_cons_of_mem _ h)
  exact va_mmax_long hx hb (hml.trans hsz.symm) hown (hin _ hlink) (hin _ kT_J_max_long) (hin _ kC_Math) (hin _ kD_J_max_long) hf hl (Nat.zero_le _) (Nat.zero_le _) hdg kk
theorem zminl (C0 : zF ly ad p m c cc nL s args own cw D cy meth ret) (hsz : ls.size = nL) {index : Nat} (hlink : Cond.methodLink own index Lib.MathLoose.min_long.x ∈ zG) (hf : 1 ≤ R.frames) (hl : (rest.map fun v => v.category).sum + 15 ≤ R.locals) {x y : Int64} (hdg : decode cc pc = .ok (.invokestatic index, 3))
    (kk : W p l e R s m args below meth c H locs 0 0 Q (F0 m (pc + 3) ls (.long (if y < x then y else x) :: rest))) : W p l e R s m args below meth c H locs 0 0 Q (F0 m pc ls (.long y :: .long x :: rest)) := by
  obtain ⟨⟨hx, hb, hml, hown, hts⟩, hK, hN, -, -, -⟩ := C0
  have hin : ∀ w ∈ zG, w.before args s = true := fun w h => hts w (List.mem_cons_of_mem _ h)
  exact va_mmin_long hx hb (hml.trans hsz.symm) hown (hin _ hlink) (hin _ kT_J_min_long) (hin _ kC_Math) (hin _ kD_J_min_long) hf hl (Nat.zero_le _) (Nat.zero_le _) hdg kk
theorem zabsl (C0 : zF ly ad p m c cc nL s args own cw D cy meth ret) (hsz : ls.size = nL) {index : Nat} (hlink : Cond.methodLink own index Lib.MathLoose.abs_long.x ∈ zG) (hf : 1 ≤ R.frames) (hl : (rest.map fun v => v.category).sum + 13 ≤ R.locals) {x : Int64} (hdg : decode cc pc = .ok (.invokestatic index, 3))
    (kk : W p l e R s m args below meth c H locs 0 0 Q (F0 m (pc + 3) ls (.long (if 0 < x then x else -x) :: rest))) : W p l e R s m args below meth c H locs 0 0 Q (F0 m pc ls (.long x :: rest)) := by
  obtain ⟨⟨hx, hb, hml, hown, hts⟩, hK, hN, -, -, -⟩ := C0
  have hin : ∀ w ∈ zG, w.before args s = true := fun w h => hts w (List.mem_cons_of_mem _ h)
  exact va_mabs_long hx hb (hml.trans hsz.symm) hown (hin _ hlink) (hin _ kT_J_abs_long) (hin _ kC_Math) (hin _ kD_J_abs_long) hf hl (Nat.zero_le _) (Nat.zero_le _) hdg kk
theorem zcpyi (C0 : zF ly ad p m c cc nL s args own cw D cy meth ret) (hH : zH D ly cy ad s.heap M H locs) (hsz : ls.size = nL) {index : Nat} (hlink : Cond.methodLink own index arraycopyName ∈ zG) {c0 c1 n0 n1 : Nat} (hi0 : zIs ly c0 7) (hn0 : ly.2.2.2.1 c0 = n0) (hi1 : zIs ly c1 7) (hn1 : ly.2.2.2.1 c1 = n1) {sp dp n : Int32} (h1 : ¬ sp < 0) (h2 : ¬ dp < 0) (h3 : ¬ n < 0) (h4 : sp.toNatClampNeg + n.toNatClampNeg ≤ n0) (hf5 : ∀ k, zFit (ly.2.2.2.2 7 c1 k) (va_cpy (M.1 c0) (M.1 c1) sp.toNatClampNeg dp.toNatClampNeg n.toNatClampNeg k)) (h5 : dp.toNatClampNeg + n.toNatClampNeg ≤ n1)
    (hf : 1 ≤ R.frames) (hl : (rest.map fun v => v.category).sum + (nativeFrameWords "java/lang/System" "arraycopy" 5 + 11) ≤ R.locals) (hdg : decode cc pc = .ok (.invokestatic index, 3))
    (kk : ∀ (H1 : Heap) (locs1 : List Loc), zH D ly cy ad s.heap (zrI M c1 (va_cpy (M.1 c0) (M.1 c1) sp.toNatClampNeg dp.toNatClampNeg n.toNatClampNeg)) H1 locs1 → W p l e R s m args below meth c H1 locs1 0 0 Q (F0 m (pc + 3) ls rest)) : W p l e R s m args below meth c H locs 0 0 Q (F0 m pc ls (.int n :: .int dp :: .ref (ad c1) :: .int sp :: .ref (ad c0) :: rest)) := by
  obtain ⟨⟨hx, hb, hml, hown, hts⟩, hK, hN, -, -, -⟩ := C0
  have hin : ∀ w ∈ zG, w.before args s = true := fun w h => hts w (List.mem_cons_of_mem _ h)
  refine va_copyi hx hb (hml.trans hsz.symm) hown (hin _ hlink) (hin _ kB_J_arraycopy) (hin _ kT_J_arraycopy) (hin _ kC_System) hK hH.1 hH.2.1 hH.2.2.1 c0 c1 0 0 (by rw [zC_at hi0.1, zE_ints hi0.2 hn0]) (by rw [zC_at hi1.1, zE_ints hi1.2 hn1]) rfl rfl rfl h1 h2 h3 h4 h5 (fun _ _ => rfl) hf hl hdg (fun H1 locs1 hP hD hS => ?_)
  exact kk H1 locs1 (zH_put hi1.1 zrI_ne.1 zrI_ne.2 (by rw [zE_ints hi1.2 hn1]; simp [zrI, va_up]) hP hD hS (hH.2.2.2.row hi1 hf5))
theorem zcpyl (C0 : zF ly ad p m c cc nL s args own cw D cy meth ret) (hH : zH D ly cy ad s.heap M H locs) (hsz : ls.size = nL) {index : Nat} (hlink : Cond.methodLink own index arraycopyName ∈ zG) {c0 c1 n0 n1 : Nat} (hi0 : zIs ly c0 8) (hn0 : ly.2.2.2.1 c0 = n0) (hi1 : zIs ly c1 8) (hn1 : ly.2.2.2.1 c1 = n1) {sp dp n : Int32} (h1 : ¬ sp < 0) (h2 : ¬ dp < 0) (h3 : ¬ n < 0) (h4 : sp.toNatClampNeg + n.toNatClampNeg ≤ n0) (h5 : dp.toNatClampNeg + n.toNatClampNeg ≤ n1)
    (hf : 1 ≤ R.frames) (hl : (rest.map fun v => v.category).sum + (nativeFrameWords "java/lang/System" "arraycopy" 5 + 11) ≤ R.locals) (hdg : decode cc pc = .ok (.invokestatic index, 3))
    (kk : ∀ (H1 : Heap) (locs1 : List Loc), zH D ly cy ad s.heap (zrL M c1 (va_cpy (M.2 c0) (M.2 c1) sp.toNatClampNeg dp.toNatClampNeg n.toNatClampNeg)) H1 locs1 → W p l e R s m args below meth c H1 locs1 0 0 Q (F0 m (pc + 3) ls rest)) : W p l e R s m args below meth c H locs 0 0 Q (F0 m pc ls (.int n :: .int dp :: .ref (ad c1) :: .int sp :: .ref (ad c0) :: rest)) := by
  obtain ⟨⟨hx, hb, hml, hown, hts⟩, hK, hN, -, -, -⟩ := C0
  have hin : ∀ w ∈ zG, w.before args s = true := fun w h => hts w (List.mem_cons_of_mem _ h)
  refine va_copyl hx hb (hml.trans hsz.symm) hown (hin _ hlink) (hin _ kB_J_arraycopy) (hin _ kT_J_arraycopy) (hin _ kC_System) hK hH.1 hH.2.1 hH.2.2.1 c0 c1 1 1 (by rw [zC_at hi0.1, zE_longs hi0.2 hn0]) (by rw [zC_at hi1.1, zE_longs hi1.2 hn1]) rfl rfl rfl h1 h2 h3 h4 h5 (fun _ _ => rfl) hf hl hdg (fun H1 locs1 hP hD hS => ?_)
  exact kk H1 locs1 (zH_put hi1.1 zrL_ne.1 zrL_ne.2 (by rw [zE_longs hi1.2 hn1]; simp [zrL, va_up]) hP hD hS hH.2.2.2)
theorem zgets (C0 : zF ly ad p m c cc nL s args own cw D cy meth ret) (hH : zH D ly cy ad s.heap M H locs) {index : Nat} (hlink : Cond.fieldLink own index RX5 "UNDER" "[I" ∈ zG) (hdg : decode cc pc = .ok (.getstatic index, 3))
    (kk : ∀ t : Nat, va_T .int t 6 (fun j => .int (zUnI j)) (zA ly ad) s s.heap → W p l e R s m args below meth c H locs 0 0 Q (F0 m (pc + 3) ls (.ref t :: rest))) : W p l e R s m args below meth c H locs 0 0 Q (F0 m pc ls rest) := by
  obtain ⟨⟨hx, hb, hml, hown, hts⟩, hK, hN, -, -, t, h1, h2⟩ := C0
  exact va_gets hx hb h1 hH.2.2.1 hown (hts _ (List.mem_cons_of_mem _ hlink)) (fun _ h => h) hdg (kk t h2)
theorem zunld (C0 : zF ly ad p m c cc nL s args own cw D cy meth ret) (hH : zH D ly cy ad s.heap M H locs) {t : Nat} (hT : va_T .int t 6 (fun j => .int (zUnI j)) (zA ly ad) s s.heap) {i : Int32} (hin : vp_in i 6) (hdg : decode cc pc = .ok (.iaload, 1))
    (kk : W p l e R s m args below meth c H locs 0 0 Q (F0 m (pc + 1) ls (.int (zUnI i.toNatClampNeg) :: rest))) : W p l e R s m args below meth c H locs 0 0 Q (F0 m pc ls (.int i :: .ref t :: rest)) := by
  obtain ⟨⟨hx, hb, hml, hown, hts⟩, hK, hN, -, -, -⟩ := C0
  exact va_ti hx hb hT hH.2.2.1 hin rfl hdg kk
end ZROWS
theorem zif_pos {c : Prop} {d : Decidable c} {α : Type} {a b r : α} (h : c) (e : @ite α c d a b = r) : a = r := by rw [← e, if_pos h]
theorem zif_neg {c : Prop} {d : Decidable c} {α : Type} {a b r : α} (h : ¬ c) (e : @ite α c d a b = r) : b = r := by rw [← e, if_neg h]
