/-- the reference's reading with d levels left -/
theorem c_X6_facD (l : Launch) (D : va_G) (cy : Nat → ClassId) (ad : Nat → Nat) : ∀ (d : Nat), d ≤ 5 → ∀ (M : zM), zPS 0 M → M.1 0 19 = 5 - nI d →
    Met l yX6_factor (Cond.code yX6_factor cX6_factor 1 none :: zG) ({ frames := 5 + 5 * d, cells := 0, slots := 0, locals := 200 + 200 * d }) (zP D lyR cy ad [.ref (ad 0)] M) (zQv D lyR cy ad (g_X6_fac d M)) 0 0 (zA lyR ad) := by
  intro d
  induction d with
  | zero =>
    intro _ M hP ho
    have h5 : (5 : Int32) - nI 0 = 5 := by decide
    exact c_X6_factorG 0 0 (5 - nI 0) (fun m => m) (fun m => m) zPr_id zPr_id l D cy ad M hP ho (fun _ h => absurd h5 h.2.2) (fun _ h => absurd h5 h.2.2)
  | succ d ih =>
    intro hd M hP ho
    have key : ∀ d : Nat, d ≤ 4 → (5 : Int32) - nI (d + 1) + 1 = 5 - nI d := by decide
    have kd := key d (by omega)
    have hterm : ∀ (M : zM), zPS 0 M ∧ M.1 0 19 = 5 - nI d → Met l yX6_term (Cond.code yX6_term cX6_term 3 none :: zG) ({ frames := 5 + 5 * d + 2, cells := 0, slots := 0, locals := 200 + 200 * d + 80 }) (zP D lyR cy ad [.ref (ad 0)] M) (zQv D lyR cy ad (g_X6_term d M)) 0 0 (zA lyR ad) := fun M h =>
      c_X6_termG (5 + 5 * d) (200 + 200 * d) (5 - nI d) (g_X6_fac d) (zPr_fac d) l D cy ad M h.1 h.2 (fun M h => ih (by omega) M h.1 h.2)
    have hsum : ∀ (M : zM), zPS 0 M ∧ M.1 0 19 = 5 - nI d → Met l yX6_sum (Cond.code yX6_sum cX6_sum 3 none :: zG) ({ frames := 5 + 5 * d + 4, cells := 0, slots := 0, locals := 200 + 200 * d + 160 }) (zP D lyR cy ad [.ref (ad 0)] M) (zQv D lyR cy ad (g_X6_sum d M)) 0 0 (zA lyR ad) := fun M h =>
      c_X6_sumG (5 + 5 * d + 2) (200 + 200 * d + 80) (5 - nI d) (g_X6_term d) (zPr_term d) l D cy ad M h.1 h.2 hterm
    have e1 : 5 + 5 * (d + 1) = 5 + 5 * d + 5 := by omega
    have e2 : 200 + 200 * (d + 1) = 200 + 200 * d + 200 := by omega
    rw [e1, e2]
    exact c_X6_factorG (5 + 5 * d) (200 + 200 * d) (5 - nI (d + 1)) (g_X6_sum d) (g_X6_fac d) (zPr_sum d) (zPr_fac d) l D cy ad M hP ho (fun M h => hsum M ⟨h.1, h.2.1.trans kd⟩) (fun M h => ih (by omega) M h.1 (h.2.1.trans kd))
theorem c_X6_sum (l : Launch) (D : va_G) (cy : Nat → ClassId) (ad : Nat → Nat) (M : zM) (hP : zPS 0 M ∧ M.1 0 19 = 0) : Met l yX6_sum (Cond.code yX6_sum cX6_sum 3 none :: zG) ({ frames := 34, cells := 0, slots := 0, locals := 1360 }) (zP D lyR cy ad [.ref (ad 0)] M) (zQv D lyR cy ad (g_X6_sum 5 M)) 0 0 (zA lyR ad) := by
  have h5 : (0 : Int32) = 5 - nI 5 := by decide
  exact c_X6_sumG 32 1280 0 (g_X6_term 5) (zPr_term 5) l D cy ad M hP.1 hP.2 (fun M h => c_X6_termG 30 1200 0 (g_X6_fac 5) (zPr_fac 5) l D cy ad M h.1 h.2 (fun M h => c_X6_facD l D cy ad 5 (Nat.le_refl 5) M h.1 (h.2.trans h5)))
