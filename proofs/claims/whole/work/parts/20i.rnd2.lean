/-! what the class's ticks, and the reference's, leave as it was -/
def zFc (r : Nat) (M M' : zM) : Prop := (∀ c, ¬ c = r → ¬ (r + 2 ≤ c ∧ c < r + 13) → M'.1 c = M.1 c) ∧ (∀ k, k < 2 → M'.1 (r + 12) k = M.1 (r + 12) k) ∧ M'.2 = M.2
theorem zFc.rf {r : Nat} {M : zM} : zFc r M M := ⟨fun _ _ _ => rfl, fun _ _ => rfl, rfl⟩
theorem zFc.tr {r : Nat} {A B C : zM} (h : zFc r A B) (k : zFc r B C) : zFc r A C := ⟨fun c h1 h2 => (k.1 c h1 h2).trans (h.1 c h1 h2), fun j hj => (k.2.1 j hj).trans (h.2.1 j hj), k.2.2.trans h.2.2⟩
theorem fc_blk {r b k : Nat} {v : Int32} {C : zM} (hb : b < 10) : zFc r C (zpI C (r + 2 + b) k v) := ⟨fun c h1 h2 => zpI_ne.1 c (by omega), fun j hj => zpI_off (by omega), rfl⟩
theorem fc_row {r k : Nat} {v : Int32} {C : zM} : zFc r C (zpI C r k v) := ⟨fun c h1 h2 => zpI_ne.1 c h1, fun j hj => zpI_off (by omega), rfl⟩
theorem fc_tg {r : Nat} {C C' : zM} (h : zTg (r + 12) C C') : zFc r C C' := ⟨fun c h1 h2 => h.1 c (by omega), fun k hk => h.2.1 k hk, h.2.2⟩
def zRf (M M' : zM) : Prop := (∀ c, ¬ (c = 0 ∨ c = 1 ∨ c = 6 ∨ c = 7 ∨ c = 11) → M'.1 c = M.1 c) ∧ (∀ k, ¬ (k = 9 ∨ k = 10 ∨ k = 11) → M'.1 0 k = M.1 0 k) ∧ M'.2 = M.2
theorem zRf.rf {M : zM} : zRf M M := ⟨fun _ _ => rfl, fun _ _ => rfl, rfl⟩
theorem zRf.tr {A B C : zM} (h : zRf A B) (k : zRf B C) : zRf A C := ⟨fun c h1 => (k.1 c h1).trans (h.1 c h1), fun j hj => (k.2.1 j hj).trans (h.2.1 j hj), k.2.2.trans h.2.2⟩
theorem rf_put {c k : Nat} {v : Int32} {M : zM} (h : c = 1 ∨ c = 6 ∨ c = 7 ∨ c = 11) : zRf M (zpI M c k v) := ⟨fun a ha => zpI_ne.1 a (by omega), fun j hj => zpI_off (by omega), rfl⟩
theorem rf_put0 {k : Nat} {v : Int32} {M : zM} (h : k = 9 ∨ k = 10 ∨ k = 11) : zRf M (zpI M 0 k v) := ⟨fun a ha => zpI_ne.1 a (by omega), fun j hj => zpI_off (by omega), rfl⟩
theorem rf_f11 {M M' : zM} (h : zF11 M M') : zRf M M' := ⟨fun c hc => h.1 c (by omega), fun k hk => by rw [h.1 0 (by omega)], h.2⟩
/-- one number of one block is written on both sides -/
theorem zRw.put {L r j w : Nat} {x : Int32} {C C' R R' : zM} (h : zRw L r C (R.1 1)) (hj : j < L) (hw : w < 7) (k1 : C'.1 r 1 = C.1 r 1) (k2 : C'.1 r 2 = C.1 r 2) (k3 : C'.1 r 3 = C.1 r 3)
    (kb : ∀ b w', b < 10 → w' < 7 → ¬ (b = j ∧ w' = w) → C'.1 (r + 2 + b) w' = C.1 (r + 2 + b) w') (kx : C'.1 (r + 2 + j) w = x) (kt : C'.1 (r + 12) 1 = C.1 (r + 12) 1) (kq : C'.1 (r + 13) = C.1 (r + 13))
    (e : R'.1 1 = (zpI R 1 (78 + 7 * j + w) x).1 1) (bd : zBd (R'.1 1) j) : zRw L r C' (R'.1 1) := by
  obtain ⟨h0, h1, h2, h3, h4, h5, h6, h7⟩ := h
  have eo : ∀ k, ¬ k = 78 + 7 * j + w → R'.1 1 k = R.1 1 k := fun k hk => by rw [e]; exact zpI_off (by omega)
  have eb : ∀ b w', w' < 7 → ¬ (b = j ∧ w' = w) → zB (R'.1 1) b w' = zB (R.1 1) b w' := fun b w' hw' hn => by rw [e]; exact zB_ne hw hw' hn
  refine ⟨h0, k1.trans h1, (eo 0 (by omega)).trans h2, k2.trans (h3.trans (eo 1 (by omega)).symm), k3.trans (h4.trans (eo 2 (by omega)).symm), fun b w' hb hw' => ?_, fun b hb => ?_, ?_⟩
  · by_cases q : b = j ∧ w' = w
    · obtain ⟨rfl, rfl⟩ := q
      rw [kx, e]
      exact zB_same.symm
    · rw [kb b w' (by omega) hw' q, eb b w' hw' q]
      exact h5 b w' hb hw'
  · by_cases q : b = j
    · subst q; exact bd
    · have hb6 := h6 b hb
      unfold zBd at hb6 ⊢
      rw [eb b 0 (by omega) (fun z => q z.1), eb b 1 (by omega) (fun z => q z.1), eb b 2 (by omega) (fun z => q z.1), eb b 6 (by omega) (fun z => q z.1)]
      exact hb6
  · rw [kt, kq]
    exact h7.cg (fun _ _ => rfl) (eo 5 (by omega)) (fun i hi => eo (14 + i) (by omega))
theorem zBd.put {M M' : zM} {j w : Nat} {x : Int32} (h : zBd (M.1 1) j) (hw : w = 3 ∨ w = 4 ∨ w = 5) (e : M'.1 1 = (zpI M 1 (78 + 7 * j + w) x).1 1) : zBd (M'.1 1) j := by
  unfold zBd at h ⊢
  rw [e, zB_ne (by omega) (by omega) (by omega), zB_ne (by omega) (by omega) (by omega), zB_ne (by omega) (by omega) (by omega), zB_ne (by omega) (by omega) (by omega)]
  exact h
/-! the second loop of a round -/
def zmv (c : Nat) (md : Int32) (C : zM) : zM := zpI (zpI (zpI C c 9 md) c 5 (C.1 c 5 + zSg (C.1 c 8) md)) c 10 1
def zRc (r c j : Nat) (md : Int32) (C : zM) : zM := zpI (zpI (zpI (zmv c md C) r 5 (C.1 r 5 + 1)) r 6 (C.1 r 6 ||| ((1 : Int32) <<< (nI j &&& 31)))) r 7 (C.1 r 7 + md)
def zRr (j : Nat) (T : Int32) (R : zM) : zM := zpI (zpI (zpI (zpI (zpI R 6 j T) 1 (78 + 7 * j + 5) (zB (R.1 1) j 5 + T)) 0 9 (R.1 0 9 ||| ((1 : Int32) <<< (nI j &&& 31)))) 0 10 (R.1 0 10 + 1)) 0 11 (R.1 0 11 + (f_X6_without T).toInt32)
theorem zmv_9 {c : Nat} {md : Int32} {C : zM} : (zmv c md C).1 c 9 = md := (zpI_off (by omega)).trans ((zpI_off (by omega)).trans zpI_at)
theorem zmv_ne {c a : Nat} {md : Int32} {C : zM} (h : a ≠ c) : (zmv c md C).1 a = C.1 a := (zpI_ne.1 a h).trans ((zpI_ne.1 a h).trans (zpI_ne.1 a h))
theorem r34_exit {r n L : Nat} {v : Int32} {C : zM} (h : C.1 r 1 = nI L) : f_X2_round_34 r (n + 1) v (nI L) C = (v, C) := by
  rw [f_X2_round_34, h, if_pos (Int32.le_refl _)]
theorem r34_step {r n L j : Nat} {v : Int32} {C : zM} (h : C.1 r 1 = nI L) (hj : j < L) (hL : L ≤ 10) : f_X2_round_34 r (n + 1) v (nI j) C = f_X2_round_79 r (fun wv1 wv2 wmm => f_X2_round_34 r n wv1 wv2 wmm) v (nI j) (r + 2 + j) (if j + 1 < L then C.1 (r + 2 + (j + 1)) 3 else 0) (C.1 (r + 2 + j) 3) (r + 2 + j) C := by
  rw [f_X2_round_34, h, if_neg (nI_ge hj (by omega)), nI_1, zcl0 (show j < 1000 by omega)]
  by_cases q : j + 1 < L
  · rw [if_neg (nI_ge q (by omega)), if_pos q, zcl0 (show j + 1 < 1000 by omega)]
  · rw [if_pos (nI_le (by omega) (by omega)), if_neg q]
theorem r79_no {r c j : Nat} {k : Int32 → Int32 → zM → Int32 × zM} {v s0 s1 : Int32} {C : zM} (h : ¬ zGo (C.1 c 8) (zAga c C)) : f_X2_round_79 r k v (nI j) c s0 s1 c C = k v (nI (j + 1)) (zpI C c 9 0) := by
  unfold f_X2_round_79
  simp only []
  rw [mv_no h, zpI_at, if_pos (Int32.le_refl _), nI_1]
theorem r79_go {r c j : Nat} {k : Int32 → Int32 → zM → Int32 × zM} {v s0 s1 : Int32} {C : zM} (h : zGo (C.1 c 8) (zAga c C)) (h0 : 0 ≤ zAga c C) (hc : r ≠ c) : f_X2_round_79 r k v (nI j) c s0 s1 c C = k 1 (nI (j + 1)) (zRc r c j (zMd (C.1 c 8) (f_X0_rubsBy c (C.1 c 9) C) (s1 + s0)) C) := by
  unfold f_X2_round_79
  simp only []
  rw [mv_go h h0]
  have hmd := zMd_w (zMd_in (pull := C.1 c 8) (rubs := f_X0_rubsBy c (C.1 c 9) C) (spr := s1 + s0))
  unfold zRc
  generalize zMd (C.1 c 8) (f_X0_rubsBy c (C.1 c 9) C) (s1 + s0) = md at hmd ⊢
  have e9 := zmv_9 (c := c) (md := md) (C := C)
  have er := zmv_ne (c := c) (md := md) (C := C) hc
  change (if (zmv c md C).1 c 9 ≤ 0 then k v (nI j + 1) (zmv c md C) else k 1 (nI j + 1) (zpI (zpI (zpI (zmv c md C) r 5 ((zmv c md C).1 r 5 + 1)) r 6 ((zpI (zmv c md C) r 5 ((zmv c md C).1 r 5 + 1)).1 r 6 ||| 1 <<< (nI j &&& 31))) r 7 ((zpI (zpI (zmv c md C) r 5 ((zmv c md C).1 r 5 + 1)) r 6 ((zpI (zmv c md C) r 5 ((zmv c md C).1 r 5 + 1)).1 r 6 ||| 1 <<< (nI j &&& 31))).1 r 7 + (zpI (zpI (zmv c md C) r 5 ((zmv c md C).1 r 5 + 1)) r 6 ((zpI (zmv c md C) r 5 ((zmv c md C).1 r 5 + 1)).1 r 6 ||| 1 <<< (nI j &&& 31))).1 c 9))) = _
  rw [e9, if_neg hmd.2.2.2.2, nI_1]
  generalize zmv c md C = Z at e9 er ⊢
  have a1 : (zpI Z r 5 (Z.1 r 5 + 1)).1 r 6 = C.1 r 6 := (zpI_off (by omega)).trans (by rw [er])
  have a2 : ∀ x, (zpI (zpI Z r 5 (Z.1 r 5 + 1)) r 6 x).1 r 7 = C.1 r 7 := fun x => (zpI_off (by omega)).trans ((zpI_off (by omega)).trans (by rw [er]))
  have a3 : ∀ x, (zpI (zpI Z r 5 (Z.1 r 5 + 1)) r 6 x).1 c 9 = md := fun x => (zpI_off (by omega)).trans ((zpI_off (by omega)).trans e9)
  rw [a2, a3, a1, er]
theorem r33_exit {n L : Nat} {w : Int32} {R : zM} (h : R.1 1 0 = nI L) : f_X6_round_33 (n + 1) w (nI L) R = (w, R) := by
  rw [f_X6_round_33, h, if_pos (Int32.le_refl _)]
theorem rBc5 {b : Nat} {v : Int32} {M : zM} (hb : b < 10) : (f_X6_become (nI b) (5 : Int32) v M).2 = zpI M 1 (78 + 7 * b + 5) v := rBc (w := 5) hb (by omega)
theorem r33_no {n L j : Nat} {w : Int32} {R : zM} (h : R.1 1 0 = nI L) (hj : j < L) (hL : L ≤ 10) (ht : R.1 7 j = 0) : f_X6_round_33 (n + 1) w (nI j) R = f_X6_round_33 n w (nI (j + 1)) (zpI R 6 j 0) := by
  have e : (zpI R 6 j 0).1 7 j = 0 := (zpI_off (by omega)).trans ht
  rw [f_X6_round_33, h, if_neg (nI_ge hj (by omega)), nI_1, zcl0 (show j < 1000 by omega)]
  simp only [ht, e, if_true]
theorem r33_go {n L j : Nat} {w : Int32} {R : zM} (h : R.1 1 0 = nI L) (hj : j < L) (hL : L ≤ 10) (ht : ¬ R.1 7 j = 0) : f_X6_round_33 (n + 1) w (nI j) R = f_X6_round_33 n 1 (nI (j + 1)) (zRr j (R.1 7 j) R) := by
  have hb10 : j < 10 := by omega
  rw [f_X6_round_33, h, if_neg (nI_ge hj (by omega)), nI_1, zcl0 (show j < 1000 by omega)]
  simp only []
  unfold zRr
  generalize hT : R.1 7 j = T at ht
  have e7 : (zpI R 6 j T).1 7 j = T := (zpI_off (by omega)).trans hT
  have e5 : f_X6_at (nI j) 5 (zpI R 6 j T) = zB (R.1 1) j 5 := by rw [rAt5 hb10, zpI_ne.1 1 (by omega)]
  rw [e7, if_neg ht, e5, rBc5 hb10]
  generalize hA : zpI (zpI R 6 j T) 1 (78 + 7 * j + 5) (zB (R.1 1) j 5 + T) = A
  have a9 : A.1 0 9 = R.1 0 9 := by rw [← hA]; exact (zpI_off (by omega)).trans (zpI_off (by omega))
  have a10 : ∀ x, (zpI A 0 9 x).1 0 10 = R.1 0 10 := fun x => (zpI_off (by omega)).trans (by rw [← hA]; exact (zpI_off (by omega)).trans (zpI_off (by omega)))
  have a11 : ∀ x y, (zpI (zpI A 0 9 x) 0 10 y).1 0 11 = R.1 0 11 := fun x y => (zpI_off (by omega)).trans ((zpI_off (by omega)).trans (by rw [← hA]; exact (zpI_off (by omega)).trans (zpI_off (by omega))))
  have a7 : ∀ x y, (zpI (zpI A 0 9 x) 0 10 y).1 7 j = T := fun x y => (zpI_off (by omega)).trans ((zpI_off (by omega)).trans (by rw [← hA]; exact (zpI_off (by omega)).trans e7))
  rw [a7, a11, a10, a9]
theorem rnd2_no {L r j : Nat} {R0 C R : zM} (h : zIm L r R0 C R) (hj : j < L) : zIm L r R0 (zpI C (r + 2 + j) 9 0) (zpI R 6 j 0) := by
  obtain ⟨hw, ha, h7, h9, h10, h5, h6, h8⟩ := h
  have hL := hw.1
  have e1 : (zpI R 6 j 0).1 1 = R.1 1 := zpI_ne.1 1 (by omega)
  have e0 : (zpI R 6 j 0).1 0 = R.1 0 := zpI_ne.1 0 (by omega)
  refine ⟨by rw [e1]; exact hw.sr (sr_blk (by omega) (by omega)), ha.row e1, fun b hb => ?_, fun b hb => ?_, fun b hb => ?_, ?_, ?_, ?_⟩
  · rw [zpI_off (by omega)]; exact h7 b hb
  · by_cases q : b = j
    · subst q
      rw [zpI_at, zpI_at]
      exact ⟨by decide, by decide, by decide⟩
    · rw [zpI_off (by omega), zpI_off (by omega)]; exact h9 b hb
  · rw [zpI_off (by omega), e0]; exact h10 b hb
  · rw [zpI_off (by omega), e0]; exact h5
  · rw [zpI_off (by omega), e0]; exact h6
  · rw [zpI_off (by omega), e0]; exact h8
theorem zRc_b {r j b k : Nat} {md : Int32} {C : zM} (h : ¬ (b = j ∧ (k = 5 ∨ k = 9 ∨ k = 10))) : (zRc r (r + 2 + j) j md C).1 (r + 2 + b) k = C.1 (r + 2 + b) k := by
  unfold zRc zmv
  rw [zpI_off (by omega), zpI_off (by omega), zpI_off (by omega), zpI_off (by omega), zpI_off (by omega), zpI_off (by omega)]
theorem zRc_o {r j c : Nat} {md : Int32} {C : zM} (h1 : c ≠ r) (h2 : c ≠ r + 2 + j) : (zRc r (r + 2 + j) j md C).1 c = C.1 c := by
  unfold zRc zmv
  rw [zpI_ne.1 c h1, zpI_ne.1 c h1, zpI_ne.1 c h1, zpI_ne.1 c h2, zpI_ne.1 c h2, zpI_ne.1 c h2]
theorem zRc_r {r j k : Nat} {md : Int32} {C : zM} (h : k < 5 ∨ 7 < k) : (zRc r (r + 2 + j) j md C).1 r k = C.1 r k := by
  unfold zRc zmv
  rw [zpI_off (by omega), zpI_off (by omega), zpI_off (by omega), zpI_off (by omega), zpI_off (by omega), zpI_off (by omega)]
theorem zRc_5 {r j : Nat} {md : Int32} {C : zM} : (zRc r (r + 2 + j) j md C).1 (r + 2 + j) 5 = C.1 (r + 2 + j) 5 + zSg (C.1 (r + 2 + j) 8) md := by
  unfold zRc zmv
  rw [zpI_off (by omega), zpI_off (by omega), zpI_off (by omega), zpI_off (by omega), zpI_at]
theorem zRc_9 {r j : Nat} {md : Int32} {C : zM} : (zRc r (r + 2 + j) j md C).1 (r + 2 + j) 9 = md := by
  unfold zRc
  rw [zpI_off (by omega), zpI_off (by omega), zpI_off (by omega)]
  exact zmv_9
theorem zRc_10 {r j : Nat} {md : Int32} {C : zM} : (zRc r (r + 2 + j) j md C).1 (r + 2 + j) 10 = 1 := by
  unfold zRc zmv
  rw [zpI_off (by omega), zpI_off (by omega), zpI_off (by omega), zpI_at]
theorem zRc_r5 {r j : Nat} {md : Int32} {C : zM} : (zRc r (r + 2 + j) j md C).1 r 5 = C.1 r 5 + 1 ∧ (zRc r (r + 2 + j) j md C).1 r 6 = C.1 r 6 ||| ((1 : Int32) <<< (nI j &&& 31)) ∧ (zRc r (r + 2 + j) j md C).1 r 7 = C.1 r 7 + md := by
  unfold zRc
  refine ⟨?_, ?_, zpI_at⟩
  · rw [zpI_off (by omega), zpI_off (by omega), zpI_at]
  · rw [zpI_off (by omega), zpI_at]
theorem zRr_1 {j : Nat} {T : Int32} {R : zM} : (zRr j T R).1 1 = (zpI R 1 (78 + 7 * j + 5) (zB (R.1 1) j 5 + T)).1 1 := by
  unfold zRr
  rw [zpI_ne.1 1 (by omega), zpI_ne.1 1 (by omega), zpI_ne.1 1 (by omega)]
  funext k
  by_cases q : k = 78 + 7 * j + 5
  · subst q; rw [zpI_at, zpI_at]
  · rw [zpI_off (by omega), zpI_off (by omega), zpI_off (by omega)]
theorem zRr_6 {j b : Nat} {T : Int32} {R : zM} : (zRr j T R).1 6 b = if b = j then T else R.1 6 b := by
  unfold zRr
  rw [zpI_ne.1 6 (by omega), zpI_ne.1 6 (by omega), zpI_ne.1 6 (by omega), zpI_ne.1 6 (by omega)]
  by_cases q : b = j
  · subst q; rw [zpI_at, if_pos rfl]
  · rw [zpI_off (by omega), if_neg q]
theorem zRr_7 {j : Nat} {T : Int32} {R : zM} : (zRr j T R).1 7 = R.1 7 := by
  unfold zRr
  rw [zpI_ne.1 7 (by omega), zpI_ne.1 7 (by omega), zpI_ne.1 7 (by omega), zpI_ne.1 7 (by omega), zpI_ne.1 7 (by omega)]
theorem zRr_0 {j : Nat} {T : Int32} {R : zM} : (zRr j T R).1 0 9 = R.1 0 9 ||| ((1 : Int32) <<< (nI j &&& 31)) ∧ (zRr j T R).1 0 10 = R.1 0 10 + 1 ∧ (zRr j T R).1 0 11 = R.1 0 11 + (f_X6_without T).toInt32 := by
  unfold zRr
  refine ⟨?_, ?_, zpI_at⟩
  · rw [zpI_off (by omega), zpI_off (by omega), zpI_at]
  · rw [zpI_off (by omega), zpI_at]
theorem rf_zRr {j : Nat} {T : Int32} {R : zM} : zRf R (zRr j T R) := (rf_put (by omega)).tr ((rf_put (by omega)).tr ((rf_put0 (by omega)).tr ((rf_put0 (by omega)).tr (rf_put0 (by omega)))))
theorem fc_zRc {r j : Nat} {md : Int32} {C : zM} (hj : j < 10) : zFc r C (zRc r (r + 2 + j) j md C) := (fc_blk hj).tr ((fc_blk hj).tr ((fc_blk hj).tr (fc_row.tr (fc_row.tr fc_row))))
theorem rnd2_go {L r j : Nat} {md : Int32} {R0 C R : zM} (h : zIm L r R0 C R) (hj : j < L) (hm : 1 ≤ md ∧ md ≤ 999) : zIm L r R0 (zRc r (r + 2 + j) j md C) (zRr j (zSg (C.1 (r + 2 + j) 8) md) R) := by
  obtain ⟨hw, ha, h7, h9, h10, h5, h6, h8⟩ := h
  have hL := hw.1
  have hb10 : j < 10 := by omega
  have k5 := hw.2.2.2.2.2.1 j 5 hj (by omega)
  have kb := hw.2.2.2.2.2.2.1 j hj
  have hT := zSg_w (p := C.1 (r + 2 + j) 8) hm
  generalize hTT : zSg (C.1 (r + 2 + j) 8) md = T at hT
  have e1 := zRr_1 (j := j) (T := T) (R := R)
  have z0 := zRr_0 (j := j) (T := T) (R := R)
  have r5 := zRc_r5 (r := r) (j := j) (md := md) (C := C)
  have ar : (zpI R 1 (78 + 7 * j + 5) (zB (R.1 1) j 5 + T)).1 1 = (zRr j T R).1 1 := e1.symm
  refine ⟨hw.put (w := 5) hj (by omega) (zRc_r (by omega)) (zRc_r (by omega)) (zRc_r (by omega)) (fun b w' _ hw' hn => zRc_b (by omega)) (zRc_5.trans (by rw [k5, hTT])) (by rw [zRc_o (by omega) (by omega)]) (zRc_o (by omega) (by omega)) e1 (kb.put (by omega) e1), ?_, fun b hb => ?_, fun b hb => ?_, fun b hb => ?_, ?_, ?_, ?_⟩
  · exact (ha.place (v := zB (R.1 1) j 5 + T) hb10).row e1
  · rw [zRc_b (by omega)]; exact h7 b hb
  · rw [zRr_6]
    by_cases q : b = j
    · subst q
      rw [zRc_9, if_pos rfl, hT.1]
      exact ⟨rfl, Int32.le_trans (by decide) hm.1, hm.2⟩
    · rw [zRc_b (by omega), if_neg q]; exact h9 b hb
  · rw [z0.1, zbt_or hb10 (show b < 10 by omega)]
    by_cases q : b = j
    · subst q
      rw [zRc_10, if_pos rfl]
    · rw [zRc_b (by omega), if_neg q]; exact h10 b hb
  · rw [r5.1, z0.2.1, h5]
  · rw [r5.2.1, z0.1, h6]
  · rw [r5.2.2, z0.2.2, h8, hT.1]
theorem round_eq {L r : Nat} {R0 C R : zM} (h : zIm L r R0 C R) : (f_X2_round r C).1 = (f_X6_round R).1 ∧ zIm L r R0 (f_X2_round r C).2 (f_X6_round R).2 ∧ zFc r C (f_X2_round r C).2 ∧ zRf R (f_X6_round R).2 := by
  have hL := h.1.1
  have loop2 : ∀ (A B : zM), zIm L r R0 A B → (∀ b, b < L → zTh L r b A (B.1 7 b)) → zFc r C A → zRf R B → (f_X2_round_34 r 11 0 0 A).1 = (f_X6_round_33 11 0 0 B).1 ∧ zIm L r R0 (f_X2_round_34 r 11 0 0 A).2 (f_X6_round_33 11 0 0 B).2 ∧ zFc r C (f_X2_round_34 r 11 0 0 A).2 ∧ zRf R (f_X6_round_33 11 0 0 B).2 := by
    intro A B hi ht hc hr
    exact zlock (L := L) (P := fun j (a b : Int32 × zM) => a.1 = b.1 ∧ zIm L r R0 a.2 b.2 ∧ (∀ q, j ≤ q → q < L → zTh L r q a.2 (b.2.1 7 q)) ∧ zFc r C a.2 ∧ zRf R b.2)
      (Q := fun (x y : Int32 × zM) => x.1 = y.1 ∧ zIm L r R0 x.2 y.2 ∧ zFc r C x.2 ∧ zRf R y.2)
      (F := fun n j (a : Int32 × zM) => f_X2_round_34 r n a.1 (nI j) a.2) (G := fun n j (b : Int32 × zM) => f_X6_round_33 n b.1 (nI j) b.2)
      (by
        intro n m a b hP
        obtain ⟨p1, p2, -, p4, p5⟩ := hP
        show (f_X2_round_34 r (n + 1) a.1 (nI L) a.2).1 = (f_X6_round_33 (m + 1) b.1 (nI L) b.2).1 ∧ _
        rw [r34_exit p2.1.2.1, r33_exit p2.1.2.2.1]
        exact ⟨p1, p2, p4, p5⟩)
      (by
        intro n m j a b hj hP
        obtain ⟨p1, p2, p3, p4, p5⟩ := hP
        have hA := zAga_eq p2 hj (C' := a.2) (fun _ _ => rfl)
        have hth := p3 j (Nat.le_refl j) hj
        by_cases hg : zGo (a.2.1 (r + 2 + j) 8) (zAga (r + 2 + j) a.2)
        · have hT := hth.1 hg
          have hmd := zMd_in (pull := a.2.1 (r + 2 + j) 8) (rubs := f_X0_rubsBy (r + 2 + j) (a.2.1 (r + 2 + j) 9) a.2) (spr := a.2.1 (r + 2 + j) 3 + (if j + 1 < L then a.2.1 (r + 2 + (j + 1)) 3 else 0))
          refine ⟨(1, zRc r (r + 2 + j) j (zMd (a.2.1 (r + 2 + j) 8) (f_X0_rubsBy (r + 2 + j) (a.2.1 (r + 2 + j) 9) a.2) (a.2.1 (r + 2 + j) 3 + (if j + 1 < L then a.2.1 (r + 2 + (j + 1)) 3 else 0))) a.2), (1, zRr j (b.2.1 7 j) b.2), ⟨rfl, ?_, fun q hq1 hq2 => ?_, p4.tr (fc_zRc (by omega)), p5.tr rf_zRr⟩, ?_, ?_⟩
          · show zIm L r R0 _ (zRr j (b.2.1 7 j) b.2)
            rw [hT]
            exact rnd2_go p2 hj hmd
          · show zTh L r q _ ((zRr j (b.2.1 7 j) b.2).1 7 q)
            rw [zRr_7]
            exact (p3 q (by omega) hq2).cg (zRc_o (by omega) (by omega)) (by rw [zRc_b (by omega)])
          · show f_X2_round_34 r (n + 1) a.1 (nI j) a.2 = _
            rw [r34_step p2.1.2.1 hj hL, r79_go hg (by rw [hA.1]; exact hA.2.2) (by omega)]
          · show f_X6_round_33 (m + 1) b.1 (nI j) b.2 = _
            rw [r33_go p2.1.2.2.1 hj hL (by rw [hT]; exact (zSg_w hmd).2)]
        · have hT := hth.2 hg
          refine ⟨(a.1, zpI a.2 (r + 2 + j) 9 0), (b.1, zpI b.2 6 j 0), ⟨p1, rnd2_no p2 hj, fun q hq1 hq2 => ?_, p4.tr (fc_blk (by omega)), p5.tr (rf_put (by omega))⟩, ?_, ?_⟩
          · show zTh L r q _ ((zpI b.2 6 j 0).1 7 q)
            rw [zpI_off (by omega)]
            exact (p3 q (by omega) hq2).cg (zpI_ne.1 _ (by omega)) (zpI_off (by omega))
          · show f_X2_round_34 r (n + 1) a.1 (nI j) a.2 = _
            rw [r34_step p2.1.2.1 hj hL, r79_no hg]
          · show f_X6_round_33 (m + 1) b.1 (nI j) b.2 = _
            rw [r33_no p2.1.2.2.1 hj hL hT])
      (L - 0) 11 11 0 (0, A) (0, B) rfl (Nat.zero_le L) (by omega) (by omega) ⟨rfl, hi, fun q _ hq => ht q hq, hc, hr⟩
  exact zlock (L := L) (P := fun j (a b : zM) => zIm L r R0 a b ∧ (∀ q, q < j → zTh L r q a (b.1 7 q)) ∧ zFc r C a ∧ zRf R b)
    (Q := fun (x y : Int32 × zM) => x.1 = y.1 ∧ zIm L r R0 x.2 y.2 ∧ zFc r C x.2 ∧ zRf R y.2)
    (F := fun n j (a : zM) => f_X2_round_2 r n (nI j) a) (G := fun n j (b : zM) => f_X6_round_4 n 0 (nI j) b)
    (by
      intro n m a b hP
      obtain ⟨p2, p3, p4, p5⟩ := hP
      show (f_X2_round_2 r (n + 1) (nI L) a).1 = (f_X6_round_4 (m + 1) 0 (nI L) b).1 ∧ _
      rw [r2_exit p2.1.2.1, r4_exit p2.1.2.2.1]
      exact loop2 a b p2 p3 p4 p5)
    (by
      intro n m j a b hj hP
      obtain ⟨p2, p3, p4, p5⟩ := hP
      have hs := rnd1_step p2 p3 hj
      exact ⟨_, _, ⟨hs.1, hs.2, p4.tr (fc_blk (by omega)), p5.tr ((rf_f11 f11_steps).tr (rf_put (by omega)))⟩, r2_step p2.1.2.1 hj hL, r4_step p2.1.2.2.1 hj hL⟩)
    (L - 0) 11 11 0 C R rfl (Nat.zero_le L) (by omega) (by omega) ⟨h, fun q hq => absurd hq (Nat.not_lt_zero q), zFc.rf, zRf.rf⟩
