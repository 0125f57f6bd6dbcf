/-! indices and counters, in ints -/
theorem zvin {x : Int32} {n : Nat} (m : Int32) (hm : m.toInt = n) : vp_in x n ↔ 0 ≤ x ∧ x < m := by
  rw [vp_in_iff, Int32.le_iff_toInt_le, Int32.lt_iff_toInt_lt, hm]
  have h0 : (0 : Int32).toInt = 0 := by decide
  rw [h0]
theorem zin4 {x : Int32} : vp_in x 4 ↔ 0 ≤ x ∧ x < 4 := zvin 4 (by decide)
theorem zin6 {x : Int32} : vp_in x 6 ↔ 0 ≤ x ∧ x < 6 := zvin 6 (by decide)
theorem zin7 {x : Int32} : vp_in x 7 ↔ 0 ≤ x ∧ x < 7 := zvin 7 (by decide)
theorem zin10 {x : Int32} : vp_in x 10 ↔ 0 ≤ x ∧ x < 10 := zvin 10 (by decide)
theorem zin40 {x : Int32} : vp_in x 40 ↔ 0 ≤ x ∧ x < 40 := zvin 40 (by decide)
theorem zin60 {x : Int32} : vp_in x 60 ↔ 0 ≤ x ∧ x < 60 := zvin 60 (by decide)
theorem zin64 {x : Int32} : vp_in x 64 ↔ 0 ≤ x ∧ x < 64 := zvin 64 (by decide)
theorem zin100 {x : Int32} : vp_in x 100 ↔ 0 ≤ x ∧ x < 100 := zvin 100 (by decide)
theorem zin160 {x : Int32} : vp_in x 160 ↔ 0 ≤ x ∧ x < 160 := zvin 160 (by decide)
theorem zin448 {x : Int32} : vp_in x 448 ↔ 0 ≤ x ∧ x < 448 := zvin 448 (by decide)
theorem zadd1 {x m : Int32} (h : x < m) : (x + 1).toInt = x.toInt + 1 := by
  rw [Int32.lt_iff_toInt_lt] at h
  have h1 : (1 : Int32).toInt = 1 := by decide
  have hm := Int32.toInt_lt m
  have hx := Int32.le_toInt x
  rw [Int32.toInt_add, h1]
  apply Int.bmod_eq_of_le <;> omega
theorem zsub1 {x m : Int32} (h : m < x) : (x - 1).toInt = x.toInt - 1 := by
  rw [Int32.lt_iff_toInt_lt] at h
  have h1 : (1 : Int32).toInt = 1 := by decide
  have hm := Int32.le_toInt m
  have hx := Int32.toInt_lt x
  rw [Int32.toInt_sub, h1]
  apply Int.bmod_eq_of_le <;> omega
/-- a counter that goes up to B, with fuel n left -/
def zCt (B : Int32) (n : Nat) (v : Int32) : Prop := 0 ≤ v ∧ v ≤ B ∧ B.toInt < v.toInt + n
theorem zCt.start {B : Int32} {n : Nat} (h0 : 0 ≤ B) (h : B.toInt < n) : zCt B n 0 := by
  refine ⟨by decide, h0, ?_⟩
  have : (0 : Int32).toInt = 0 := by decide
  omega
theorem zCt.begin {B v : Int32} {n : Nat} (h0 : 0 ≤ v) (h1 : v ≤ B) (h : B.toInt < n) : zCt B n v := ⟨h0, h1, by
  rw [Int32.le_iff_toInt_le] at h0
  have : (0 : Int32).toInt = 0 := by decide
  omega⟩
theorem zCt.zero {B v : Int32} (h : zCt B 0 v) : False := by
  obtain ⟨-, h1, h2⟩ := h
  rw [Int32.le_iff_toInt_le] at h1
  omega
theorem zCt.step {B v m : Int32} {n : Nat} (h : zCt B (n + 1) v) (hv : v < m) (hm : m ≤ B) : zCt B n (v + 1) := by
  obtain ⟨h0, h1, h2⟩ := h
  have h3 := zadd1 hv
  rw [Int32.lt_iff_toInt_lt] at hv
  rw [Int32.le_iff_toInt_le] at h0 h1 hm
  refine ⟨?_, ?_, ?_⟩
  · rw [Int32.le_iff_toInt_le]; omega
  · rw [Int32.le_iff_toInt_le]; omega
  · omega
/-- a counter that goes down to -1, with fuel n left -/
def zCd (B : Int32) (n : Nat) (v : Int32) : Prop := -1 ≤ v ∧ v ≤ B ∧ v.toInt + 1 < n
theorem zCd.begin {B v : Int32} {n : Nat} (h0 : -1 ≤ v) (h1 : v ≤ B) (h : B.toInt + 1 < n) : zCd B n v := ⟨h0, h1, by
  rw [Int32.le_iff_toInt_le] at h1
  omega⟩
theorem zCd.zero {B v : Int32} (h : zCd B 0 v) : False := by
  obtain ⟨h0, h1, h2⟩ := h
  rw [Int32.le_iff_toInt_le] at h0
  have : (-1 : Int32).toInt = -1 := by decide
  omega
theorem zCd.step {B v : Int32} {n : Nat} (h : zCd B (n + 1) v) (hv : 0 ≤ v) : zCd B n (v - 1) := by
  obtain ⟨h0, h1, h2⟩ := h
  have h9 : (-1 : Int32) < v := by
    rw [Int32.le_iff_toInt_le] at hv
    rw [Int32.lt_iff_toInt_lt]
    have : (-1 : Int32).toInt = -1 := by decide
    have : (0 : Int32).toInt = 0 := by decide
    omega
  have h3 := zsub1 h9
  have e1 : (-1 : Int32).toInt = -1 := by decide
  have e0 : (0 : Int32).toInt = 0 := by decide
  rw [Int32.le_iff_toInt_le] at h1 hv
  refine ⟨?_, ?_, ?_⟩
  · rw [Int32.le_iff_toInt_le]; omega
  · rw [Int32.le_iff_toInt_le]; omega
  · omega
/-- the same of a method of the machine's own classes -/
theorem zMetF {l : Launch} {y : MethodName} {cc : ByteArray} {maxL : Nat} {ret : Option FieldType} {rm : Room} {D : va_G} {ly : zLy} {cy : Nat → ClassId} {ad : Nat → Nat} {vals : List Value} {M : zM} {Qc : Array Value → State → Outcome → State → Prop} (hy : plainFor y = true) (hle : (lg_sl vals).length ≤ maxL)
    (body : ∀ (p : Program) (e : Env) (s : State) (m : MethodId) (args : Array Value) (below : List Frame) (meth : Method) (c : Code) (ls : Array Slot), zF ly ad p m c cc maxL s args y.cls (Cond.code y cc maxL ret) D cy meth ret → zH D ly cy ad s.heap M s.heap [] → lv_has ls maxL (lv_args 0 vals) → W p l e rm s m args below meth c s.heap [] 0 0 (MQ below Qc args s 0 0 (zA ly ad)) (F0 m 0 ls [])) :
    Met l y (Cond.code y cc maxL ret :: zG) rm (zP D ly cy ad vals M) Qc 0 0 (zA ly ad) := by
  refine va_MetF (cc := cc) (maxL := maxL) (ret := ret) hy rfl ?_
  intro p e s m args below meth c s₁ B hml hv
  obtain ⟨rfl, hP, hK, hD, hN, hU, hV⟩ := hv
  have hl := lv_entry vals (n := maxL) hle
  rw [lg_entry_eq]
  exact body p e s m _ below meth c _ ⟨⟨B.exec, B.bytes, hml, findClass_of_methodNamed B.named, atoms_spec (ws := Cond.code y cc maxL ret :: zG) B.pre⟩, hK, hN, B.returns, B.notSynchronized, hU⟩ ⟨hP, hD, va_S.rf, hV⟩ hl
theorem zmx_ne (q : Int32) : ¬ (if (1 : Int32) < q then q else (1 : Int32)).toInt64 = 0 := by
  intro h
  have h1 := congrArg Int64.toInt h
  rw [Int32.toInt_toInt64] at h1
  have h0 : (0 : Int64).toInt = 0 := by decide
  rw [h0] at h1
  split at h1
  · rename_i hq
    rw [Int32.lt_iff_toInt_lt] at hq
    have : (1 : Int32).toInt = 1 := by decide
    omega
  · exact absurd h1 (by decide)
theorem zcp60 {x : Int32} (h : 0 ≤ x ∧ x ≤ 60) : (0 : Int32).toNatClampNeg + x.toNatClampNeg ≤ 60 := by
  have h1 := zclamp 60 (n := 60) (by decide) h
  have h2 : (0 : Int32).toNatClampNeg = 0 := by decide
  omega
theorem zfst {α β : Type} {a : α} {b : β} {r : α × β} (h : (a, b) = r) : a = r.1 := by rw [← h]
theorem zsnd {α β : Type} {a : α} {b : β} {r : α × β} (h : (a, b) = r) : b = r.2 := by rw [← h]
theorem zoff {v : Int32} {N : Nat} (K m : Int32) (h0 : 0 ≤ v) (h1 : v ≤ m) (hd : 0 ≤ K.toInt ∧ K.toInt + m.toInt < N ∧ K.toInt + m.toInt < 2147483648) : vp_in (K + v) N := by
  rw [Int32.le_iff_toInt_le] at h0 h1
  have z0 : (0 : Int32).toInt = 0 := by decide
  rw [z0] at h0
  have e : (K + v).toInt = K.toInt + v.toInt := by
    rw [Int32.toInt_add]
    apply Int.bmod_eq_of_le <;> omega
  rw [vp_in_iff, e]
  omega
theorem zoff1 {v : Int32} {N : Nat} (K m : Int32) (h0 : 0 ≤ v) (h1 : v ≤ m) (hd : 0 ≤ K.toInt ∧ K.toInt + m.toInt + 1 < N ∧ K.toInt + m.toInt + 1 < 2147483648) : vp_in (K + v + 1) N := by
  rw [Int32.le_iff_toInt_le] at h0 h1
  have z0 : (0 : Int32).toInt = 0 := by decide
  have z1 : (1 : Int32).toInt = 1 := by decide
  rw [z0] at h0
  have e : (K + v + 1).toInt = K.toInt + v.toInt + 1 := by
    rw [Int32.toInt_add, Int32.toInt_add, z1]
    rw [Int.bmod_eq_of_le (n := K.toInt + v.toInt) (by omega) (by omega)]
    apply Int.bmod_eq_of_le <;> omega
  rw [vp_in_iff, e]
  omega
