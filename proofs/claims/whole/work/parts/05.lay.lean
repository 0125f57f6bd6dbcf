/-! the class's cells: 0 the object, 1 15 29 the rows live kept trial (row, its array, ten blocks, text, bytes), 43 48 the books (book, four arrays), 53 54 the tape, 55 the sheets' array, 56.. the sheets (sheet, numbers), 64 the findings -/
def kdC (c : Nat) : Nat :=
  if c = 0 then 5
  else if c < 43 then (if (c - 1) % 14 = 0 then 2 else if (c - 1) % 14 = 1 then 9 else if (c - 1) % 14 < 12 then 0 else if (c - 1) % 14 = 12 then 4 else 7)
  else if c < 53 then (if (c - 43) % 5 = 0 then 1 else 7)
  else if c = 53 then 4 else if c = 54 then 7 else if c = 55 then 10
  else if c < 64 then (if c % 2 = 0 then 3 else 8) else 7
def tgC (κ c k : Nat) : Option Nat := match κ with
  | 5 => (match k with | 0 => some 1 | 1 => some 15 | 2 => some 29 | 3 => some 43 | 4 => some 48 | 6 => some 53 | 7 => some 55 | 8 => some 64 | _ => none)
  | 2 => (match k with | 0 => some (c + 1) | 4 => some (c + 12) | _ => none)
  | 9 => some (c + 1 + k)
  | 1 => (match k with | 0 => some (c + 1) | 1 => some (c + 2) | 2 => some (c + 3) | 3 => some (c + 4) | _ => none)
  | 4 => (match k with | 0 => some (c + 1) | _ => none)
  | 10 => some (c + 1 + 2 * k)
  | 3 => (match k with | 0 => some (c + 1) | _ => none)
  | _ => none
def lnC (c : Nat) : Nat :=
  if c < 43 then (if (c - 1) % 14 = 1 then 10 else 60)
  else if c < 53 then (if (c - 43) % 5 = 4 then 7 else 100)
  else if c = 54 then 60 else if c = 55 then 4 else if c = 64 then 7 else 40
def crC (κ _c k : Nat) : Option (Int32 × Int32) := match κ with
  | 1 => (match k with | 4 => some (0, 100) | 5 => some (0, 99) | _ => none)
  | 2 => (match k with | 1 => some (0, 10) | _ => none)
  | 3 => (match k with | 2 => some (0, 40) | _ => none)
  | 4 => (match k with | 1 => some (0, 60) | 2 => some (0, 60) | _ => none)
  | _ => none
def lyC : zLy := (65, kdC, tgC, lnC, crC)
/-! the reference's: 0 the object, then its arrays -/
def kdR (c : Nat) : Nat := if c = 0 then 6 else if c = 14 then 8 else if c = 15 then 8 else 7
def tgR (κ _c k : Nat) : Option Nat := match κ with
  | 6 => (match k with | 0 => some 1 | 1 => some 2 | 2 => some 3 | 4 => some 4 | 6 => some 5 | 7 => some 6 | 8 => some 7 | 12 => some 8 | 13 => some 9 | 15 => some 10 | 20 => some 11 | 21 => some 12 | 22 => some 13 | 23 => some 14 | 24 => some 15 | _ => none)
  | _ => none
def lnR (c : Nat) : Nat := match c with
  | 1 => 448
  | 2 => 448
  | 3 => 448
  | 4 => 60
  | 5 => 7
  | 6 => 10
  | 7 => 10
  | 8 => 60
  | 9 => 60
  | 10 => 64
  | 11 => 64
  | 12 => 4
  | 13 => 4
  | 14 => 160
  | _ => 40
def crS (k : Nat) : Option (Int32 × Int32) := match k with
  | 0 => some (0, 10)
  | 5 => some (-1, 60)
  | 13 => some (0, 100)
  | _ => none
def crR (_κ c k : Nat) : Option (Int32 × Int32) := match c with
  | 0 => (match k with | 5 => some (0, 60) | 16 => some (0, 60) | 17 => some (0, 60) | _ => none)
  | 1 => crS k
  | 2 => crS k
  | 3 => crS k
  | 13 => some (0, 40)
  | _ => none
def lyR : zLy := (16, kdR, tgR, lnR, crR)
theorem zlt {i : Int32} {n : Nat} (h : vp_in i n) : i.toNatClampNeg < n := Nat.not_le.mp fun q => h (Or.inr q)
def zRow (r : Nat) : Prop := r = 1 ∨ r = 15 ∨ r = 29
def zTxt (t : Nat) : Prop := t = 13 ∨ t = 27 ∨ t = 41 ∨ t = 53
def zBk (k : Nat) : Prop := k = 43 ∨ k = 48
def zSh (c : Nat) : Prop := c = 56 ∨ c = 58 ∨ c = 60 ∨ c = 62
def zBl (c : Nat) : Prop := zIs lyC c 0
def zS3 (c : Nat) : Prop := c = 1 ∨ c = 2 ∨ c = 3
theorem zX0 : zIs lyC 0 5 := ⟨by decide, by decide⟩
theorem zRow.is {r : Nat} (h : zRow r) : zIs lyC r 2 := by rcases h with rfl | rfl | rfl <;> exact ⟨by decide, by decide⟩
theorem zRow.arr {r : Nat} (h : zRow r) : zIs lyC (r + 1) 9 := by rcases h with rfl | rfl | rfl <;> exact ⟨by decide, by decide⟩
theorem zRow.ln {r : Nat} (h : zRow r) : lyC.2.2.2.1 (r + 1) = 10 := by rcases h with rfl | rfl | rfl <;> decide
theorem zRow.txt {r : Nat} (h : zRow r) : zTxt (r + 12) := by rcases h with rfl | rfl | rfl <;> simp [zTxt]
theorem zRow.blk {r b : Nat} (h : zRow r) (hb : b < 10) : zBl (r + 2 + b) := by
  have key : ∀ b, b < 10 → (1 + 2 + b < 65 ∧ kdC (1 + 2 + b) = 0) ∧ (15 + 2 + b < 65 ∧ kdC (15 + 2 + b) = 0) ∧ (29 + 2 + b < 65 ∧ kdC (29 + 2 + b) = 0) := by decide
  obtain ⟨k1, k2, k3⟩ := key b hb
  rcases h with rfl | rfl | rfl
  · exact k1
  · exact k2
  · exact k3
theorem zTxt.is {t : Nat} (h : zTxt t) : zIs lyC t 4 := by rcases h with rfl | rfl | rfl | rfl <;> exact ⟨by decide, by decide⟩
theorem zTxt.arr {t : Nat} (h : zTxt t) : zIs lyC (t + 1) 7 := by rcases h with rfl | rfl | rfl | rfl <;> exact ⟨by decide, by decide⟩
theorem zTxt.ln {t : Nat} (h : zTxt t) : lyC.2.2.2.1 (t + 1) = 60 := by rcases h with rfl | rfl | rfl | rfl <;> decide
theorem zBk.is {k : Nat} (h : zBk k) : zIs lyC k 1 := by rcases h with rfl | rfl <;> exact ⟨by decide, by decide⟩
theorem zBk.a1 {k : Nat} (h : zBk k) : zIs lyC (k + 1) 7 := by rcases h with rfl | rfl <;> exact ⟨by decide, by decide⟩
theorem zBk.a2 {k : Nat} (h : zBk k) : zIs lyC (k + 2) 7 := by rcases h with rfl | rfl <;> exact ⟨by decide, by decide⟩
theorem zBk.a3 {k : Nat} (h : zBk k) : zIs lyC (k + 3) 7 := by rcases h with rfl | rfl <;> exact ⟨by decide, by decide⟩
theorem zBk.a4 {k : Nat} (h : zBk k) : zIs lyC (k + 4) 7 := by rcases h with rfl | rfl <;> exact ⟨by decide, by decide⟩
theorem zBk.l1 {k : Nat} (h : zBk k) : lyC.2.2.2.1 (k + 1) = 100 := by rcases h with rfl | rfl <;> decide
theorem zBk.l2 {k : Nat} (h : zBk k) : lyC.2.2.2.1 (k + 2) = 100 := by rcases h with rfl | rfl <;> decide
theorem zBk.l3 {k : Nat} (h : zBk k) : lyC.2.2.2.1 (k + 3) = 100 := by rcases h with rfl | rfl <;> decide
theorem zBk.l4 {k : Nat} (h : zBk k) : lyC.2.2.2.1 (k + 4) = 7 := by rcases h with rfl | rfl <;> decide
theorem zSh.is {c : Nat} (h : zSh c) : zIs lyC c 3 := by rcases h with rfl | rfl | rfl | rfl <;> exact ⟨by decide, by decide⟩
theorem zSh.arr {c : Nat} (h : zSh c) : zIs lyC (c + 1) 8 := by rcases h with rfl | rfl | rfl | rfl <;> exact ⟨by decide, by decide⟩
theorem zSh.ln {c : Nat} (h : zSh c) : lyC.2.2.2.1 (c + 1) = 40 := by rcases h with rfl | rfl | rfl | rfl <;> decide
theorem zSh.of {i : Nat} (h : i < 4) : zSh (55 + 1 + 2 * i) := by
  have : i = 0 ∨ i = 1 ∨ i = 2 ∨ i = 3 := by omega
  rcases this with rfl | rfl | rfl | rfl <;> simp [zSh]
theorem zSs : zIs lyC 55 10 := ⟨by decide, by decide⟩
theorem zSs_ln : lyC.2.2.2.1 55 = 4 := by decide
theorem zFo : zIs lyC 64 7 := ⟨by decide, by decide⟩
theorem zFo_ln : lyC.2.2.2.1 64 = 7 := by decide
theorem zRow1 : zRow 1 := Or.inl rfl
theorem zRow15 : zRow 15 := Or.inr (Or.inl rfl)
theorem zRow29 : zRow 29 := Or.inr (Or.inr rfl)
theorem zBk43 : zBk 43 := Or.inl rfl
theorem zBk48 : zBk 48 := Or.inr rfl
theorem zTxt53 : zTxt 53 := Or.inr (Or.inr (Or.inr rfl))
theorem zR0 : zIs lyR 0 6 := ⟨by decide, by decide⟩
theorem zR_i {c : Nat} (h : c < 14) (h0 : c ≠ 0) : zIs lyR c 7 := by
  have key : ∀ c, c < 14 → c ≠ 0 → c < 16 ∧ kdR c = 7 := by decide
  exact key c h h0
theorem zR14 : zIs lyR 14 8 := ⟨by decide, by decide⟩
theorem zR15 : zIs lyR 15 8 := ⟨by decide, by decide⟩
theorem zS3.is {c : Nat} (h : zS3 c) : zIs lyR c 7 := by rcases h with rfl | rfl | rfl <;> exact ⟨by decide, by decide⟩
theorem zS3.ln {c : Nat} (h : zS3 c) : lyR.2.2.2.1 c = 448 := by rcases h with rfl | rfl | rfl <;> rfl
theorem zS31 : zS3 1 := Or.inl rfl
theorem zS32 : zS3 2 := Or.inr (Or.inl rfl)
theorem zS33 : zS3 3 := Or.inr (Or.inr rfl)
section ZROWS2
variable {p : Program} {l : Launch} {e : Env} {R : Room} {s : State} {m : MethodId} {args : Array Value} {below : List Frame} {meth : Method} {c : Code} {H : Heap} {locs : List Loc} {cells slots : Nat} {Q : State → Prop}
variable {cc : ByteArray} {nL pc : Nat} {ls : Array Slot} {rest : List Value}
/-- iinc, its number as it is written -/
theorem ziinc (hexec : p.tables.exec = Jvm.exec) (hb : c.code = cc) {i k : Nat} {n : Int} {x : Int32} (w : Int32) {lv lv' : List (Nat × Value)} (hw : Int32.ofInt n = w) (hdg : decode cc pc = .ok (.iinc i n, 3)) (h : lv_has ls nL lv) (hk : lv[k]? = some (i, .int x)) (hn : i < nL) (hl : (i, Value.int (x + w)) :: lv.filter (fun q => !(q.1 == i) && !(q.1 + 1 == i && q.2.category == 2)) = lv')
    (kk : ∀ ls' : Array Slot, lv_has ls' nL lv' → W p l e R s m args below meth c H locs cells slots Q (F0 m (pc + 3) ls' rest)) : W p l e R s m args below meth c H locs cells slots Q (F0 m pc ls rest) := by
  subst hw
  exact lv_iinc hexec hb hdg h hk rfl hn hl kk
/-- a switch by a table: one of its numbers -/
theorem ztab (hexec : p.tables.exec = Jvm.exec) (hb : c.code = cc) {dflt lo hi : Int} {offs : Array Int} {len : Nat} {x v : Int32} {off : Int} {tgt : Nat} (hv : x = v) (hdg : decode cc pc = .ok (.tableswitch dflt lo hi offs, len)) (h1 : ¬ v.toInt < lo) (h2 : ¬ hi < v.toInt) (ho : offs[(v.toInt - lo).toNat]? = some off) (ht : (pc : Int) + off = (tgt : Int))
    (k : W p l e R s m args below meth c H locs cells slots Q (F0 m tgt ls rest)) : W p l e R s m args below meth c H locs cells slots Q (F0 m pc ls (.int x :: rest)) := by
  subst hv
  exact lv_tableIn hexec hb hdg h1 h2 ho ht k
/-- none of those that are told -/
theorem ztabD (hexec : p.tables.exec = Jvm.exec) (hb : c.code = cc) {dflt lo hi : Int} {offs : Array Int} {len : Nat} {x : Int32} {tgt : Nat} (vs : List Int32) (hne : ∀ v ∈ vs, ¬ x = v) (hdg : decode cc pc = .ok (.tableswitch dflt lo hi offs, len)) (hsz : (hi - lo).toNat + 1 = offs.size) (hchk : ∀ j, j < offs.size → offs[j]? = some dflt ∨ ∃ v ∈ vs, v.toInt = lo + j) (ht : (pc : Int) + dflt = (tgt : Int))
    (k : W p l e R s m args below meth c H locs cells slots Q (F0 m tgt ls rest)) : W p l e R s m args below meth c H locs cells slots Q (F0 m pc ls (.int x :: rest)) := by
  by_cases h1 : x.toInt < lo
  · exact lv_tableOut hexec hb hdg (Or.inl h1) ht k
  · by_cases h2 : hi < x.toInt
    · exact lv_tableOut hexec hb hdg (Or.inr h2) ht k
    · have hj : (x.toInt - lo).toNat < offs.size := by omega
      rcases hchk _ hj with h | ⟨v, hv, hve⟩
      · exact lv_tableIn hexec hb hdg h1 h2 h ht k
      · refine absurd (Int32.toInt_inj.mp ?_) (hne v hv)
        rw [hve]
        omega
theorem zlook (hexec : p.tables.exec = Jvm.exec) (hb : c.code = cc) {dflt : Int} {ps : Array (Int × Int)} {len : Nat} {x v : Int32} {off : Int} {tgt : Nat} (hv : x = v) (hdg : decode cc pc = .ok (.lookupswitch dflt ps, len)) (hp : (ps.toList.zip (ps.toList.drop 1)).all (fun (a, next) => a.1 < next.1) = true) (ho : Op.lookupswitch.offset ps.toList dflt v.toInt = off) (ht : (pc : Int) + off = (tgt : Int))
    (k : W p l e R s m args below meth c H locs cells slots Q (F0 m tgt ls rest)) : W p l e R s m args below meth c H locs cells slots Q (F0 m pc ls (.int x :: rest)) := by
  subst hv
  exact lv_lookup hexec hb hdg hp ho ht k
end ZROWS2
section ZROWS3
variable {p : Program} {l : Launch} {e : Env} {R : Room} {s : State} {m : MethodId} {args : Array Value} {below : List Frame} {meth : Method} {c : Code} {H : Heap} {locs : List Loc} {Q : State → Prop}
variable {cc : ByteArray} {nL pc : Nat} {ls : Array Slot} {rest : List Value} {own : String} {cw : Cond} {D : va_G} {cy : Nat → ClassId} {ret : Option FieldType} {ad : Nat → Nat} {M : zM}
/-- a block of a row -/
theorem zqldB (C0 : zF lyC ad p m c cc nL s args own cw D cy meth ret) (hH : zH D lyC cy ad s.heap M H locs) {r : Nat} (hr : zRow r) {i : Int32} (hin : vp_in i 10) (hdg : decode cc pc = .ok (.aaload, 1))
    (kk : zBl (r + 2 + i.toNatClampNeg) → W p l e R s m args below meth c H locs 0 0 Q (F0 m (pc + 1) ls (.ref (ad (r + 2 + i.toNatClampNeg)) :: rest))) : W p l e R s m args below meth c H locs 0 0 Q (F0 m pc ls (.int i :: .ref (ad (r + 1)) :: rest)) :=
  zqld9 C0 hH (r + 2 + i.toNatClampNeg) hr.arr hr.ln hin rfl hdg (kk (hr.blk (zlt hin)))
/-- a sheet -/
theorem zqldS (C0 : zF lyC ad p m c cc nL s args own cw D cy meth ret) (hH : zH D lyC cy ad s.heap M H locs) {i : Int32} (hin : vp_in i 4) (hdg : decode cc pc = .ok (.aaload, 1))
    (kk : zSh (56 + 2 * i.toNatClampNeg) → W p l e R s m args below meth c H locs 0 0 Q (F0 m (pc + 1) ls (.ref (ad (56 + 2 * i.toNatClampNeg)) :: rest))) : W p l e R s m args below meth c H locs 0 0 Q (F0 m pc ls (.int i :: .ref (ad 55) :: rest)) :=
  zqld10 C0 hH (56 + 2 * i.toNatClampNeg) zSs zSs_ln hin rfl hdg (kk (zSh.of (zlt hin)))
end ZROWS3
section ZROWS4
variable {p : Program} {l : Launch} {e : Env} {R : Room} {s : State} {m : MethodId} {args : Array Value} {below : List Frame} {meth : Method} {c : Code} {H : Heap} {locs : List Loc} {Q : State → Prop}
variable {cc : ByteArray} {nL pc : Nat} {ls : Array Slot} {rest : List Value} {own : String} {cw : Cond} {D : va_G} {cy : Nat → ClassId} {ret : Option FieldType} {ly : zLy} {ad : Nat → Nat} {M : zM}
/-! at a place that is written as a number -/
theorem zaldK (C0 : zF ly ad p m c cc nL s args own cw D cy meth ret) (hH : zH D ly cy ad s.heap M H locs) {c0 n : Nat} (hi : zIs ly c0 7) (hn : ly.2.2.2.1 c0 = n) {i : Int32} {k : Nat} (hk : i.toNatClampNeg = k) (hin : vp_in i n) (hdg : decode cc pc = .ok (.iaload, 1))
    (kk : W p l e R s m args below meth c H locs 0 0 Q (F0 m (pc + 1) ls (.int (M.1 c0 k) :: rest))) : W p l e R s m args below meth c H locs 0 0 Q (F0 m pc ls (.int i :: .ref (ad c0) :: rest)) := by
  subst hk
  exact zald C0 hH hi hn hin hdg kk
theorem zlldK (C0 : zF ly ad p m c cc nL s args own cw D cy meth ret) (hH : zH D ly cy ad s.heap M H locs) {c0 n : Nat} (hi : zIs ly c0 8) (hn : ly.2.2.2.1 c0 = n) {i : Int32} {k : Nat} (hk : i.toNatClampNeg = k) (hin : vp_in i n) (hdg : decode cc pc = .ok (.laload, 1))
    (kk : W p l e R s m args below meth c H locs 0 0 Q (F0 m (pc + 1) ls (.long (M.2 c0 k) :: rest))) : W p l e R s m args below meth c H locs 0 0 Q (F0 m pc ls (.int i :: .ref (ad c0) :: rest)) := by
  subst hk
  exact zlld C0 hH hi hn hin hdg kk
theorem zastK (C0 : zF ly ad p m c cc nL s args own cw D cy meth ret) (hH : zH D ly cy ad s.heap M H locs) {c0 n : Nat} (hi : zIs ly c0 7) (hn : ly.2.2.2.1 c0 = n) {i x : Int32} {k : Nat} (hk : i.toNatClampNeg = k) (hin : vp_in i n) (hf : zFit (ly.2.2.2.2 7 c0 k) x) (hdg : decode cc pc = .ok (.iastore, 1))
    (kk : ∀ (H1 : Heap) (locs1 : List Loc), zH D ly cy ad s.heap (zpI M c0 k x) H1 locs1 → W p l e R s m args below meth c H1 locs1 0 0 Q (F0 m (pc + 1) ls rest)) : W p l e R s m args below meth c H locs 0 0 Q (F0 m pc ls (.int x :: .int i :: .ref (ad c0) :: rest)) := by
  subst hk
  exact zast C0 hH hi hn hin hf hdg kk
theorem zlstK (C0 : zF ly ad p m c cc nL s args own cw D cy meth ret) (hH : zH D ly cy ad s.heap M H locs) {c0 n : Nat} (hi : zIs ly c0 8) (hn : ly.2.2.2.1 c0 = n) {i : Int32} {x : Int64} {k : Nat} (hk : i.toNatClampNeg = k) (hin : vp_in i n) (hdg : decode cc pc = .ok (.lastore, 1))
    (kk : ∀ (H1 : Heap) (locs1 : List Loc), zH D ly cy ad s.heap (zpL M c0 k x) H1 locs1 → W p l e R s m args below meth c H1 locs1 0 0 Q (F0 m (pc + 1) ls rest)) : W p l e R s m args below meth c H locs 0 0 Q (F0 m pc ls (.long x :: .int i :: .ref (ad c0) :: rest)) := by
  subst hk
  exact zlst C0 hH hi hn hin hdg kk
end ZROWS4
theorem zcase {c : Prop} {d : Decidable c} {α : Type} {a b r : α} {G : Prop} (e : @ite α c d a b = r) (h1 : c → a = r → G) (h2 : ¬ c → b = r → G) : G := by
  by_cases h : c
  · exact h1 h (zif_pos h e)
  · exact h2 h (zif_neg h e)
theorem zH.row {D : va_G} {cy : Nat → ClassId} {ad : Nat → Nat} {H0 H : Heap} {M : zM} {locs : List Loc} {r : Nat} (h : zH D lyC cy ad H0 M H locs) (hr : zRow r) : 0 ≤ M.1 r 1 ∧ M.1 r 1 ≤ 10 := h.2.2.2 r hr.is.1 1 0 10 (by rw [hr.is.2]; rfl)
theorem zH.txt {D : va_G} {cy : Nat → ClassId} {ad : Nat → Nat} {H0 H : Heap} {M : zM} {locs : List Loc} {r : Nat} (h : zH D lyC cy ad H0 M H locs) (hr : zTxt r) : 0 ≤ M.1 r 1 ∧ M.1 r 1 ≤ 60 := h.2.2.2 r hr.is.1 1 0 60 (by rw [hr.is.2]; rfl)
theorem zH.bkl {D : va_G} {cy : Nat → ClassId} {ad : Nat → Nat} {H0 H : Heap} {M : zM} {locs : List Loc} {r : Nat} (h : zH D lyC cy ad H0 M H locs) (hr : zBk r) : 0 ≤ M.1 r 4 ∧ M.1 r 4 ≤ 100 := h.2.2.2 r hr.is.1 4 0 100 (by rw [hr.is.2]; rfl)
theorem zH.bkn {D : va_G} {cy : Nat → ClassId} {ad : Nat → Nat} {H0 H : Heap} {M : zM} {locs : List Loc} {r : Nat} (h : zH D lyC cy ad H0 M H locs) (hr : zBk r) : 0 ≤ M.1 r 5 ∧ M.1 r 5 ≤ 99 := h.2.2.2 r hr.is.1 5 0 99 (by rw [hr.is.2]; rfl)
theorem zH.sh {D : va_G} {cy : Nat → ClassId} {ad : Nat → Nat} {H0 H : Heap} {M : zM} {locs : List Loc} {r : Nat} (h : zH D lyC cy ad H0 M H locs) (hr : zSh r) : 0 ≤ M.1 r 2 ∧ M.1 r 2 ≤ 40 := h.2.2.2 r hr.is.1 2 0 40 (by rw [hr.is.2]; rfl)
theorem zH.txa {D : va_G} {cy : Nat → ClassId} {ad : Nat → Nat} {H0 H : Heap} {M : zM} {locs : List Loc} {r : Nat} (h : zH D lyC cy ad H0 M H locs) (hr : zTxt r) : 0 ≤ M.1 r 2 ∧ M.1 r 2 ≤ 60 := h.2.2.2 r hr.is.1 2 0 60 (by rw [hr.is.2]; rfl)
theorem zH.many {D : va_G} {cy : Nat → ClassId} {ad : Nat → Nat} {H0 H : Heap} {M : zM} {locs : List Loc} (h : zH D lyR cy ad H0 M H locs) : 0 ≤ M.1 1 0 ∧ M.1 1 0 ≤ 10 := h.2.2.2 1 (by decide) 0 0 10 rfl
theorem zH.coded {D : va_G} {cy : Nat → ClassId} {ad : Nat → Nat} {H0 H : Heap} {M : zM} {locs : List Loc} (h : zH D lyR cy ad H0 M H locs) : -1 ≤ M.1 1 5 ∧ M.1 1 5 ≤ 60 := h.2.2.2 1 (by decide) 5 (-1) 60 rfl
theorem zH.booked {D : va_G} {cy : Nat → ClassId} {ad : Nat → Nat} {H0 H : Heap} {M : zM} {locs : List Loc} (h : zH D lyR cy ad H0 M H locs) : 0 ≤ M.1 1 13 ∧ M.1 1 13 ≤ 100 := h.2.2.2 1 (by decide) 13 0 100 rfl
theorem zH.taped {D : va_G} {cy : Nat → ClassId} {ad : Nat → Nat} {H0 H : Heap} {M : zM} {locs : List Loc} (h : zH D lyR cy ad H0 M H locs) : 0 ≤ M.1 0 5 ∧ M.1 0 5 ≤ 60 := h.2.2.2 0 (by decide) 5 0 60 rfl
theorem zH.longs {D : va_G} {cy : Nat → ClassId} {ad : Nat → Nat} {H0 H : Heap} {M : zM} {locs : List Loc} (h : zH D lyR cy ad H0 M H locs) (k : Nat) : 0 ≤ M.1 13 k ∧ M.1 13 k ≤ 40 := h.2.2.2 13 (by decide) k 0 40 rfl
theorem zclamp {x : Int32} {n : Nat} (m : Int32) (hm : m.toInt = n) (h : 0 ≤ x ∧ x ≤ m) : x.toNatClampNeg ≤ n := by
  obtain ⟨h0, h1⟩ := h
  rw [Int32.le_iff_toInt_le] at h0 h1
  show x.toInt.toNat ≤ n
  omega
theorem zH.here {D : va_G} {cy : Nat → ClassId} {ad : Nat → Nat} {H0 H : Heap} {M : zM} {locs : List Loc} (h : zH D lyR cy ad H0 M H locs) : 0 ≤ M.1 0 17 ∧ M.1 0 17 ≤ 60 := h.2.2.2 0 (by decide) 17 0 60 rfl
theorem zH.ncode {D : va_G} {cy : Nat → ClassId} {ad : Nat → Nat} {H0 H : Heap} {M : zM} {locs : List Loc} (h : zH D lyR cy ad H0 M H locs) : 0 ≤ M.1 0 16 ∧ M.1 0 16 ≤ 60 := h.2.2.2 0 (by decide) 16 0 60 rfl
theorem crS_hi {k : Nat} (h : 14 ≤ k) : crS k = none := by
  unfold crS
  split <;> first | omega | rfl
theorem zfitS {i v : Int32} (h : 14 ≤ i) : zFit (lyR.2.2.2.2 7 1 i.toNatClampNeg) v := by
  have h1 : 14 ≤ i.toNatClampNeg := by
    rw [Int32.le_iff_toInt_le] at h
    have : (14 : Int32).toInt = 14 := by decide
    show 14 ≤ i.toInt.toNat
    omega
  show zFit (crS i.toNatClampNeg) v
  rw [crS_hi h1]
  exact zcn
theorem zS3.cr {c : Nat} (h : zS3 c) (κ k : Nat) : lyR.2.2.2.2 κ c k = crS k := by rcases h with rfl | rfl | rfl <;> rfl
theorem zfitLay {D : va_G} {cy : Nat → ClassId} {ad : Nat → Nat} {H0 H : Heap} {M : zM} {locs : List Loc} {a b k : Nat} (h : zH D lyR cy ad H0 M H locs) (ha : zS3 a) (hb : zS3 b) : zFit (lyR.2.2.2.2 7 b k) (M.1 a k) := by
  rw [hb.cr]
  intro lo hi e
  exact h.2.2.2 a ha.is.1 k lo hi (by rw [ha.cr]; exact e)
