/-- reading with d levels left: what is open is 5 less d -/
theorem c_X4_facD (l : Launch) (D : va_G) (cy : Nat → ClassId) (ad : Nat → Nat) : ∀ (d : Nat), d ≤ 5 → ∀ (M : zM) (a0 : Nat) (ha0 : zTxt a0) (q : Int32), q = 5 - nI d →
    Met l yX4_factor (Cond.code yX4_factor cX4_factor 5 (some .int) :: zG) ({ frames := 3 + 3 * d, cells := 0, slots := 0, locals := 120 + 120 * d }) (zP D lyC cy ad [.ref (ad a0), .int q] M) (zQi D lyC cy ad (g_X4_fac d a0 q M).1 (g_X4_fac d a0 q M).2) 0 0 (zA lyC ad) := by
  intro d
  induction d with
  | zero =>
    intro _ M a0 ha0 q hq
    have h5 : ¬ q < 5 := by subst hq; decide
    exact c_X4_factorG 0 0 (fun _ _ m => (0, m)) (fun _ _ m => (0, m)) l D cy ad M a0 ha0 q (fun _ _ _ _ h => absurd h.1 h5) (fun _ _ _ _ h => absurd h.1 h5)
  | succ d ih =>
    intro hd M a0 ha0 q hq
    have key : ∀ d : Nat, d ≤ 4 → (5 : Int32) - nI (d + 1) + 1 = 5 - nI d := by decide
    have hq1 : ∀ q' : Int32, q' = q + 1 → q' = 5 - nI d := fun q' h => by rw [h, hq]; exact key d (by omega)
    have hprod : ∀ (M : zM) (a0 : Nat) (ha0 : zTxt a0) (q : Int32), q = 5 - nI d → Met l yX4_product (Cond.code yX4_product cX4_product 6 (some .int) :: zG) ({ frames := 3 + 3 * d + 1, cells := 0, slots := 0, locals := 120 + 120 * d + 40 }) (zP D lyC cy ad [.ref (ad a0), .int q] M) (zQi D lyC cy ad (g_X4_prod d a0 q M).1 (g_X4_prod d a0 q M).2) 0 0 (zA lyC ad) := fun M a0 ha0 q hq =>
      c_X4_productG (3 + 3 * d) (120 + 120 * d) (g_X4_fac d) l D cy ad M a0 ha0 q (fun M a0 ha0 q' h => ih (by omega) M a0 ha0 q' (h.trans hq))
    have hsum : ∀ (M : zM) (a0 : Nat) (ha0 : zTxt a0) (q : Int32), q = 5 - nI d → Met l yX4_sum (Cond.code yX4_sum cX4_sum 6 (some .int) :: zG) ({ frames := 3 + 3 * d + 2, cells := 0, slots := 0, locals := 120 + 120 * d + 80 }) (zP D lyC cy ad [.ref (ad a0), .int q] M) (zQi D lyC cy ad (g_X4_sum d a0 q M).1 (g_X4_sum d a0 q M).2) 0 0 (zA lyC ad) := fun M a0 ha0 q hq =>
      c_X4_sumG (3 + 3 * d + 1) (120 + 120 * d + 40) (g_X4_prod d) l D cy ad M a0 ha0 q (fun M a0 ha0 q' h => hprod M a0 ha0 q' (h.trans hq))
    have e1 : 3 + 3 * (d + 1) = 3 + 3 * d + 3 := by omega
    have e2 : 120 + 120 * (d + 1) = 120 + 120 * d + 120 := by omega
    rw [e1, e2]
    exact c_X4_factorG (3 + 3 * d) (120 + 120 * d) (g_X4_sum d) (g_X4_fac d) l D cy ad M a0 ha0 q (fun M a0 ha0 q' h => hsum M a0 ha0 q' (hq1 q' h.2)) (fun M a0 ha0 q' h => ih (by omega) M a0 ha0 q' (hq1 q' h.2))
theorem c_X4_sum (l : Launch) (D : va_G) (cy : Nat → ClassId) (ad : Nat → Nat) (M : zM) (a0 : Nat) (ha0 : zTxt a0) (q : Int32) (hq : q = 0) : Met l yX4_sum (Cond.code yX4_sum cX4_sum 6 (some .int) :: zG) ({ frames := 20, cells := 0, slots := 0, locals := 800 }) (zP D lyC cy ad [.ref (ad a0), .int q] M) (zQi D lyC cy ad (g_X4_sum 5 a0 q M).1 (g_X4_sum 5 a0 q M).2) 0 0 (zA lyC ad) := by
  have h5 : q = 5 - nI 5 := by rw [hq]; decide
  exact c_X4_sumG 19 760 (g_X4_prod 5) l D cy ad M a0 ha0 q (fun M a0 ha0 q' h => c_X4_productG 18 720 (g_X4_fac 5) l D cy ad M a0 ha0 q' (fun M a0 ha0 q'' h' => c_X4_facD l D cy ad 5 (Nat.le_refl 5) M a0 ha0 q'' (h'.trans (h.trans h5))))
