/-! numbers -/
theorem lgc_eq {x y : Int64} : lg_cmp x y = 0 ↔ x = y := by
  unfold lg_cmp
  split
  · rename_i h
    exact ⟨fun q => absurd q (by decide), fun q => absurd h (by rw [q]; exact Int64.lt_irrefl)⟩
  · split
    · rename_i h; exact ⟨fun _ => h, fun _ => rfl⟩
    · rename_i h; exact ⟨fun q => absurd q (by decide), fun q => absurd q h⟩
theorem lgc_gt {x y : Int64} : 0 < lg_cmp x y ↔ y < x := by
  unfold lg_cmp
  split
  · rename_i h
    exact ⟨fun _ => h, fun _ => by decide⟩
  · rename_i h0
    split
    · rename_i h; exact ⟨fun q => absurd q (by decide), fun q => absurd q h0⟩
    · rename_i h; exact ⟨fun q => absurd q (by decide), fun q => absurd q h0⟩
theorem lgc_lt {x y : Int64} : lg_cmp x y < 0 ↔ x < y := by
  unfold lg_cmp
  split
  · rename_i h
    exact ⟨fun q => absurd q (by decide), fun q => absurd h (Int64.lt_asymm q)⟩
  · rename_i h0
    split
    · rename_i h; exact ⟨fun q => absurd q (by decide), fun q => absurd q (by rw [h]; exact Int64.lt_irrefl)⟩
    · rename_i h; exact ⟨fun _ => Int64.lt_of_le_of_ne (Int64.not_lt.mp h0) h, fun _ => by decide⟩
theorem lgc_ge {x y : Int64} : 0 ≤ lg_cmp x y ↔ y ≤ x := by
  rw [← Int32.not_lt, lgc_lt, Int64.not_lt]
theorem lgc_le {x y : Int64} : lg_cmp x y ≤ 0 ↔ x ≤ y := by
  rw [← Int32.not_lt, lgc_gt, Int64.not_lt]
theorem zcl0 {j : Nat} (h : j < 1000) : (nI j).toNatClampNeg = j := nI_clamp (by omega)
/-! places of a block in the reference's row -/
def zB (S : Nat → Int32) (b w : Nat) : Int32 := S (78 + 7 * b + w)
theorem rAt0 {b : Nat} {M : zM} (hb : b < 10) : f_X6_at (nI b) (0 : Int32) M = zB (M.1 1) b 0 := by
  have key : ∀ b, b < 10 → (((78 : Int32) + ((7 : Int32) * nI b)) + 0).toNatClampNeg = 78 + 7 * b + 0 := by decide
  unfold f_X6_at zB; rw [key b hb]
theorem rAt1 {b : Nat} {M : zM} (hb : b < 10) : f_X6_at (nI b) (1 : Int32) M = zB (M.1 1) b 1 := by
  have key : ∀ b, b < 10 → (((78 : Int32) + ((7 : Int32) * nI b)) + 1).toNatClampNeg = 78 + 7 * b + 1 := by decide
  unfold f_X6_at zB; rw [key b hb]
theorem rAt2 {b : Nat} {M : zM} (hb : b < 10) : f_X6_at (nI b) (2 : Int32) M = zB (M.1 1) b 2 := by
  have key : ∀ b, b < 10 → (((78 : Int32) + ((7 : Int32) * nI b)) + 2).toNatClampNeg = 78 + 7 * b + 2 := by decide
  unfold f_X6_at zB; rw [key b hb]
theorem rAt3 {b : Nat} {M : zM} (hb : b < 10) : f_X6_at (nI b) (3 : Int32) M = zB (M.1 1) b 3 := by
  have key : ∀ b, b < 10 → (((78 : Int32) + ((7 : Int32) * nI b)) + 3).toNatClampNeg = 78 + 7 * b + 3 := by decide
  unfold f_X6_at zB; rw [key b hb]
theorem rAt4 {b : Nat} {M : zM} (hb : b < 10) : f_X6_at (nI b) (4 : Int32) M = zB (M.1 1) b 4 := by
  have key : ∀ b, b < 10 → (((78 : Int32) + ((7 : Int32) * nI b)) + 4).toNatClampNeg = 78 + 7 * b + 4 := by decide
  unfold f_X6_at zB; rw [key b hb]
theorem rAt5 {b : Nat} {M : zM} (hb : b < 10) : f_X6_at (nI b) (5 : Int32) M = zB (M.1 1) b 5 := by
  have key : ∀ b, b < 10 → (((78 : Int32) + ((7 : Int32) * nI b)) + 5).toNatClampNeg = 78 + 7 * b + 5 := by decide
  unfold f_X6_at zB; rw [key b hb]
theorem rAt6 {b : Nat} {M : zM} (hb : b < 10) : f_X6_at (nI b) (6 : Int32) M = zB (M.1 1) b 6 := by
  have key : ∀ b, b < 10 → (((78 : Int32) + ((7 : Int32) * nI b)) + 6).toNatClampNeg = 78 + 7 * b + 6 := by decide
  unfold f_X6_at zB; rw [key b hb]
theorem rBc {b w : Nat} {v : Int32} {M : zM} (hb : b < 10) (hw : w < 7) : (f_X6_become (nI b) (nI w) v M).2 = zpI M 1 (78 + 7 * b + w) v := by
  have key : ∀ b, b < 10 → ∀ w, w < 7 → (((78 : Int32) + ((7 : Int32) * nI b)) + nI w).toNatClampNeg = 78 + 7 * b + w := by decide
  unfold f_X6_become
  simp only []
  rw [key b hb w hw]
theorem zB_same {M : zM} {b w : Nat} {v : Int32} : zB ((zpI M 1 (78 + 7 * b + w) v).1 1) b w = v := zpI_at
theorem zB_ne {M : zM} {b w b' w' : Nat} {v : Int32} (hw : w < 7) (hw' : w' < 7) (h : ¬ (b' = b ∧ w' = w)) : zB ((zpI M 1 (78 + 7 * b + w) v).1 1) b' w' = zB (M.1 1) b' w' :=
  zpI_off (fun q => h (by have := q.2; omega))
/-! bits -/
theorem zbit_and {x : Int32} : x &&& 1 = 0 ∨ x &&& 1 = 1 := by
  have h : (x &&& 1).toBitVec = BitVec.setWidth 32 (BitVec.ofBool (x.toBitVec.getLsbD 0)) := by
    have e : (x &&& 1).toBitVec = x.toBitVec &&& 1#32 := rfl
    rw [e]
    apply BitVec.eq_of_getLsbD_eq
    intro i hi
    simp only [BitVec.getLsbD_and, BitVec.getLsbD_setWidth, BitVec.getLsbD_ofBool, BitVec.getLsbD_one]
    by_cases h0 : i = 0
    · subst h0; simp
    · simp [h0]
  cases hx : x.toBitVec.getLsbD 0
  · left
    rw [hx] at h
    exact Int32.toBitVec_inj.mp h
  · right
    rw [hx] at h
    exact Int32.toBitVec_inj.mp h
def zbt (x : Int32) (b : Nat) : Int32 := (x >>> (nI b &&& 31)) &&& 1
theorem zand_or {x y : Int32} : (x ||| y) &&& 1 = (x &&& 1) ||| (y &&& 1) := by
  apply Int32.toBitVec_inj.mp
  show (x.toBitVec ||| y.toBitVec) &&& 1#32 = (x.toBitVec &&& 1#32) ||| (y.toBitVec &&& 1#32)
  apply BitVec.eq_of_getLsbD_eq
  intro i hi
  simp only [BitVec.getLsbD_and, BitVec.getLsbD_or, Bool.and_or_distrib_right]
theorem zbt_or {x : Int32} {b c : Nat} (hb : b < 10) (hc : c < 10) : zbt (x ||| ((1 : Int32) <<< (nI b &&& 31))) c = if c = b then 1 else zbt x c := by
  have key : ∀ b, b < 10 → ∀ c, c < 10 → (((1 : Int32) <<< (nI b &&& 31)) >>> (nI c &&& 31)) &&& 1 = if c = b then 1 else 0 := by decide
  unfold zbt
  rw [Int32.shiftRight_or, zand_or, key b hb c hc]
  split
  · rcases zbit_and (x := x >>> (nI c &&& 31)) with h | h <;> rw [h] <;> decide
  · exact Int32.or_zero
theorem zbt01 {x : Int32} {b : Nat} : zbt x b = 0 ∨ zbt x b = 1 := zbit_and
