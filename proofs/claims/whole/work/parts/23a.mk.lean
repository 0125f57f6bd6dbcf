/-! the making of objects: a constructor's world is the cell that it gets, and those that it makes -/
def zIA (h sz : Nat) : Nat → Prop := fun q => q = h ∨ sz ≤ q
def zIP (D : va_G) (cy : Nat → ClassId) (h sz κ : Nat) (fs : List Value) : Array Value → State → Prop :=
  va_Pc [.ref h] (fun U => U.heap.size = sz ∧ va_P D vwCl [(h, .inr (κ, fs))] U.heap ∧ va_K D vwCl (zT cy) U ∧ zNw U ∧ va_AO RX0 U ∧ va_AO RX3 U)
def zIQ (D : va_G) (h sz : Nat) (w : (Nat → Nat) → va_W) : Array Value → State → Outcome → State → Prop :=
  va_Qv (S := Nat → Nat) (fun a => a 0 = h) (fun a t => va_P D vwCl (w a) t.heap ∧ va_D (zIA h sz) (w a)) (zIA h sz)
theorem zIP_blind {D : va_G} {cy : Nat → ClassId} {h sz κ : Nat} {fs : List Value} : FrameBlind (zIP D cy h sz κ fs) := fun a U g mk q => by
  obtain ⟨h0, h1, h2, h3, h4, h5, h6⟩ := q
  exact ⟨h0, h1, h2, va_K.moved (u := U) (U := U.calling g mk a) (Vm.Alike.refl U.vm) h3, zNw.same (u := U) (U := U.calling g mk a) rfl h4, va_AO.moved (u := U) (U := U.calling g mk a) (Vm.Alike.refl U.vm) h5, va_AO.moved (u := U) (U := U.calling g mk a) (Vm.Alike.refl U.vm) h6⟩
def zIF (p : Program) (m : MethodId) (c : Code) (cc : ByteArray) (nL : Nat) (s : State) (args : Array Value) (own : String) (cw : Cond) (D : va_G) (cy : Nat → ClassId) (meth : Method) : Prop :=
  CallFix p m c cc nL s args (cw :: zG) own ∧ va_K D vwCl (zT cy) s ∧ zNw s ∧ meth.sig.returnType = none ∧ meth.locks = false ∧ meth.name = "<init>" ∧ va_AO RX0 s ∧ va_AO RX3 s
def zIH (D : va_G) (h : Nat) (s : State) (ws : va_W) (H : Heap) (locs : List Loc) : Prop := va_P D vwCl ws H ∧ va_D (zIA h s.heap.size) ws ∧ va_S (zIA h s.heap.size) s.heap H locs
theorem va_P_mem {D : va_G} {cl : List vw_C} {ws : va_W} {H : Heap} : va_P D cl ws H ↔ ∀ q ∈ ws, va_at D cl q H := by
  constructor
  · intro h q hq
    obtain ⟨k, hk⟩ := List.getElem?_of_mem hq
    exact h k q hk
  · intro h k q hk
    exact h q (List.mem_of_getElem? hk)
theorem va_D_nd {A : Nat → Prop} {ws : va_W} : va_D A ws ↔ (ws.map (fun q => q.1)).Nodup ∧ ∀ q ∈ ws, A q.1 := by
  constructor
  · intro h
    refine ⟨?_, fun q hq => ?_⟩
    · rw [List.nodup_iff_pairwise_ne, List.pairwise_iff_getElem]
      intro i j hi hj hij he
      simp only [List.length_map] at hi hj
      simp only [List.getElem_map] at he
      have := h.1 i j _ _ (List.getElem?_eq_getElem hi) (List.getElem?_eq_getElem hj) he
      omega
    · obtain ⟨k, hk⟩ := List.getElem?_of_mem hq
      exact h.2 k q hk
  · rintro ⟨h1, h2⟩
    refine ⟨fun i j p q hi hj hpq => ?_, fun k q hk => h2 q (List.mem_of_getElem? hk)⟩
    rw [List.nodup_iff_pairwise_ne, List.pairwise_iff_getElem] at h1
    obtain ⟨li, ei⟩ := List.getElem?_eq_some_iff.mp hi
    obtain ⟨lj, ej⟩ := List.getElem?_eq_some_iff.mp hj
    rcases Nat.lt_trichotomy i j with h | h | h
    · refine absurd ?_ (h1 i j (by simpa using li) (by simpa using lj) h)
      simp only [List.getElem_map, ei, ej, hpq]
    · exact h
    · refine absurd ?_ (h1 j i (by simpa using lj) (by simpa using li) h)
      simp only [List.getElem_map, ei, ej, hpq]
theorem va_P.perm {D : va_G} {cl : List vw_C} {ws ws' : va_W} {H : Heap} (h : va_P D cl ws H) (hp : ws.Perm ws') : va_P D cl ws' H := va_P_mem.mpr (fun q hq => va_P_mem.mp h q (hp.mem_iff.mpr hq))
theorem va_D.perm {A : Nat → Prop} {ws ws' : va_W} (h : va_D A ws) (hp : ws.Perm ws') : va_D A ws' := by
  obtain ⟨h1, h2⟩ := va_D_nd.mp h
  exact va_D_nd.mpr ⟨(hp.map _).nodup_iff.mp h1, fun q hq => h2 q (hp.mem_iff.mpr hq)⟩
theorem zIH.perm {D : va_G} {h : Nat} {s : State} {ws ws' : va_W} {H : Heap} {locs : List Loc} (hH : zIH D h s ws H locs) (hp : ws.Perm ws') : zIH D h s ws' H locs := ⟨hH.1.perm hp, hH.2.1.perm hp, hH.2.2⟩
theorem zIA_new {h sz : Nat} : ∀ q : Nat, sz ≤ q → zIA h sz q := fun _ h => Or.inr h
theorem zJoin {D : va_G} {cl : List vw_C} {A : Nat → Prop} {ws w1 : va_W} {x : Nat} {e : va_E} {H H1 : Heap} (hP : va_P D cl (ws ++ [(x, e)]) H) (hD : va_D A (ws ++ [(x, e)])) (hA : ∀ q, zIA x H.size q → A q) (hk : ∀ q : Nat, q < H.size → ¬ zIA x H.size q → H1[q]? = H[q]?) (hP1 : va_P D cl w1 H1) (hD1 : va_D (zIA x H.size) w1) : va_P D cl (ws ++ w1) H1 ∧ va_D A (ws ++ w1) := by
  have up : ∀ (k : Nat) (q : Nat × va_E), ws[k]? = some q → (ws ++ [(x, e)])[k]? = some q := fun k q hq => by
    rw [List.getElem?_append_left (List.getElem?_eq_some_iff.mp hq).1]; exact hq
  have hlast : (ws ++ [(x, e)])[ws.length]? = some (x, e) := by
    rw [List.getElem?_append_right (Nat.le_refl _), Nat.sub_self]; rfl
  have hno : ∀ (k : Nat) (q : Nat × va_E), ws[k]? = some q → q.1 < H.size ∧ ¬ zIA x H.size q.1 := fun k q hq => by
    have h1 := (hP k q (up k q hq)).lt
    refine ⟨h1, ?_⟩
    rintro (h2 | h2)
    · have := hD.1 k ws.length q (x, e) (up k q hq) hlast h2
      have := (List.getElem?_eq_some_iff.mp hq).1
      omega
    · omega
  refine ⟨va_P.app (fun k q hq => (hP k q (up k q hq)).kept (hk q.1 (hno k q hq).1 (hno k q hq).2)) hP1, va_D.app ⟨fun i j p q hi hj => hD.1 i j p q (up i p hi) (up j q hj), fun k q hq => hD.2 k q (up k q hq)⟩ (hD1.weaken fun _ q _ hz => hA q.1 hz) ?_⟩
  intro i j p q hi hj he
  exact (hno i p hi).2 (by rw [he]; exact hD1.2 j q hj)
/-- an array of references is told by its places -/
theorem va_P.refs {D : va_G} {cl : List vw_C} {w0 w1 : va_W} {q n : Nat} {cA : ClassId} {f g : Nat → Option Nat} {H : Heap} (h : va_P D cl (w0 ++ (q, .inl (cA, n, .inr (.inr (.inr (.inr f))))) :: w1) H) (hfg : ∀ k, k < n → f k = g k) : va_P D cl (w0 ++ (q, .inl (cA, n, .inr (.inr (.inr (.inr g))))) :: w1) H := by
  rw [va_P_mem] at h ⊢
  intro x hx
  rcases List.mem_append.mp hx with h1 | h1
  · exact h x (List.mem_append_left _ h1)
  · rcases List.mem_cons.mp h1 with h2 | h2
    · subst h2
      have h3 : H[q]? = some (vp_cell cA (n, .inr (.inr (.inr (.inr f))))) := h (q, .inl (cA, n, .inr (.inr (.inr (.inr f))))) (List.mem_append_right _ List.mem_cons_self)
      show H[q]? = some (vp_cell cA (n, .inr (.inr (.inr (.inr g)))))
      rw [h3, vp_cell_q, vp_cell_q]
      congr 1
      unfold arrV
      congr 1
      exact congrArg _ (funext fun i => congrArg va_rf (hfg i.1 i.2))
    · exact h x (List.mem_append_right _ (List.mem_cons_of_mem _ h2))
theorem va_D.same {A : Nat → Prop} {w w' : va_W} (h : va_D A w) (he : w'.map (fun q => q.1) = w.map (fun q => q.1)) : va_D A w' := by
  obtain ⟨h1, h2⟩ := va_D_nd.mp h
  refine va_D_nd.mpr ⟨by rw [he]; exact h1, fun q hq => ?_⟩
  have h3 : q.1 ∈ w.map (fun q => q.1) := by rw [← he]; exact List.mem_map_of_mem hq
  obtain ⟨y, hy, hyq⟩ := List.mem_map.mp h3
  rw [← hyq]
  exact h2 y hy
theorem zIMet {l : Launch} {y : MethodName} {cc : ByteArray} {maxL : Nat} {rm : Room} {D : va_G} {cy : Nat → ClassId} {h sz κ : Nat} {fs : List Value} {w : (Nat → Nat) → va_W} {mc ms : Nat} (hy : plainName y.cls = true) (hym : y.name = "<init>") (hle : 1 ≤ maxL)
    (body : ∀ (p : Program) (e : Env) (s : State) (m : MethodId) (args : Array Value) (below : List Frame) (meth : Method) (c : Code) (ls : Array Slot), zIF p m c cc maxL s args y.cls (Cond.code y cc maxL none) D cy meth → zIH D h s [(h, .inr (κ, fs))] s.heap [] → lv_has ls maxL [(0, .ref h)] → W p l e rm s m args below meth c s.heap [] 0 0 (MQ below (zIQ D h s.heap.size w) args s mc ms (zIA h s.heap.size)) (F0 m 0 ls [])) :
    Met l y (Cond.code y cc maxL none :: zG) rm (zIP D cy h sz κ fs) (zIQ D h sz w) mc ms (zIA h sz) := by
  refine Met.ofW (cc := cc) (maxL := maxL) (ret := none) hy rfl ?_
  intro p e s m args below meth c s₁ B hml hv
  obtain ⟨rfl, hsz, hP, hK, hN, hA0, hA3⟩ := hv
  subst hsz
  have hl := lv_entry ([.ref h]) (n := maxL) hle
  rw [lg_entry_eq]
  refine body p e s m _ below meth c _ ⟨⟨B.exec, B.bytes, hml, findClass_of_methodNamed B.named, atoms_spec (ws := Cond.code y cc maxL none :: zG) B.pre⟩, hK, hN, B.returns, B.notSynchronized, ?_, hA0, hA3⟩ ⟨hP, ?_, va_S.rf⟩ hl
  · exact (name_of_methodNamed B.named B.method).1.trans hym
  · refine va_D_nd.mpr ⟨by simp, fun q hq => ?_⟩
    rw [List.mem_singleton] at hq
    subst hq
    exact Or.inl rfl
