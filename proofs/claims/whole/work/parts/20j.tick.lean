/-! a tick on both sides -/
theorem zlock2 {α β γ δ : Type} {L : Nat} {P : Nat → α → β → Prop} {Q : γ → δ → Prop} {F : Nat → Nat → α → γ} {G : Nat → Nat → β → δ}
    (h : ∀ n m j a b, j ≤ L → P j a b → Q (F (n + 1) j a) (G (m + 1) j b) ∨ (j < L ∧ ∃ a' b', P (j + 1) a' b' ∧ F (n + 1) j a = F n (j + 1) a' ∧ G (m + 1) j b = G m (j + 1) b')) :
    ∀ k n m j a b, k = L - j → j ≤ L → L < j + n → L < j + m → P j a b → Q (F n j a) (G m j b) := by
  intro k
  induction k with
  | zero =>
    intro n m j a b hk hj hn hm hP
    obtain ⟨n, rfl⟩ : ∃ n', n = n' + 1 := ⟨n - 1, by omega⟩
    obtain ⟨m, rfl⟩ : ∃ m', m = m' + 1 := ⟨m - 1, by omega⟩
    rcases h n m j a b hj hP with q | ⟨q, -⟩
    · exact q
    · omega
  | succ k ih =>
    intro n m j a b hk hj hn hm hP
    obtain ⟨n, rfl⟩ : ∃ n', n = n' + 1 := ⟨n - 1, by omega⟩
    obtain ⟨m, rfl⟩ : ∃ m', m = m' + 1 := ⟨m - 1, by omega⟩
    rcases h n m j a b hj hP with q | ⟨q, a', b', h1, h2, h3⟩
    · exact q
    · rw [h2, h3]
      exact ih n m (j + 1) a' b' (by omega) (by omega) (by omega) (by omega) h1
/-! the reference's book -/
theorem bk3 : ∀ (n j : Nat) (M : zM), j ≤ 99 → j < n → (∀ c, c ≠ 1 → (f_X6_books_3 n (nI j) M).1 c = M.1 c) ∧ (f_X6_books_3 n (nI j) M).2 = M.2 ∧ (∀ k : Nat, (f_X6_books_3 n (nI j) M).1 1 k = if k = 13 then f_X6_lesser 100 (M.1 1 13 + 1) else if k = 148 then M.1 0 10 else if k = 248 then M.1 0 9 else if k = 348 then M.1 0 11 else if (148 < k ∧ k ≤ 148 + j) ∨ (248 < k ∧ k ≤ 248 + j) ∨ (348 < k ∧ k ≤ 348 + j) then M.1 1 (k - 1) else M.1 1 k) := by
  have key : ∀ i : Nat, i ≤ 98 → ((148 : Int32) + nI (i + 1)).toNatClampNeg = 149 + i ∧ ((248 : Int32) + nI (i + 1)).toNatClampNeg = 249 + i ∧ ((348 : Int32) + nI (i + 1)).toNatClampNeg = 349 + i ∧ (((148 : Int32) + nI (i + 1)) - 1).toNatClampNeg = 148 + i ∧ (((248 : Int32) + nI (i + 1)) - 1).toNatClampNeg = 248 + i ∧ (((348 : Int32) + nI (i + 1)) - 1).toNatClampNeg = 348 + i ∧ nI (i + 1) + (-1 : Int32) = nI i ∧ ¬ nI (i + 1) ≤ 0 := by decide +kernel
  intro n
  induction n with
  | zero => intro j M h1 h2; omega
  | succ n ih =>
    intro j M h1 h2
    cases j with
    | zero =>
      unfold f_X6_books_3
      rw [if_pos (show nI 0 ≤ 0 by decide)]
      simp only []
      have a1 : (zpI M 1 148 (M.1 0 10)).1 0 9 = M.1 0 9 := zpI_off (by omega)
      rw [a1]
      have a2 : (zpI (zpI M 1 148 (M.1 0 10)) 1 248 (M.1 0 9)).1 0 11 = M.1 0 11 := (zpI_off (by omega)).trans (zpI_off (by omega))
      rw [a2]
      have a3 : (zpI (zpI (zpI M 1 148 (M.1 0 10)) 1 248 (M.1 0 9)) 1 348 (M.1 0 11)).1 1 13 = M.1 1 13 := (zpI_off (by omega)).trans ((zpI_off (by omega)).trans (zpI_off (by omega)))
      rw [a3]
      refine ⟨fun c hc => ?_, rfl, fun k => ?_⟩
      · rw [zpI_ne.1 c hc, zpI_ne.1 c hc, zpI_ne.1 c hc, zpI_ne.1 c hc]
      · by_cases q1 : k = 13
        · subst q1; rw [zpI_at, if_pos rfl]
        rw [zpI_off (by omega), if_neg q1]
        by_cases q4 : k = 348
        · subst q4; rw [zpI_at, if_neg (by omega), if_neg (by omega), if_pos rfl]
        rw [zpI_off (by omega)]
        by_cases q3 : k = 248
        · subst q3; rw [zpI_at, if_neg (by omega), if_pos rfl]
        rw [zpI_off (by omega)]
        by_cases q2 : k = 148
        · subst q2; rw [zpI_at, if_pos rfl]
        rw [zpI_off (by omega), if_neg q2, if_neg q3, if_neg q4, if_neg (by omega)]
    | succ i =>
      obtain ⟨e1, e2, e3, e4, e5, e6, e7, e8⟩ := key i (by omega)
      unfold f_X6_books_3
      rw [if_neg e8]
      simp only []
      rw [e1, e2, e3, e4, e5, e6, e7]
      have a2 : (zpI M 1 (149 + i) (M.1 1 (148 + i))).1 1 (248 + i) = M.1 1 (248 + i) := zpI_off (by omega)
      rw [a2]
      have a3 : (zpI (zpI M 1 (149 + i) (M.1 1 (148 + i))) 1 (249 + i) (M.1 1 (248 + i))).1 1 (348 + i) = M.1 1 (348 + i) := (zpI_off (by omega)).trans (zpI_off (by omega))
      rw [a3]
      generalize hZ : zpI (zpI (zpI M 1 (149 + i) (M.1 1 (148 + i))) 1 (249 + i) (M.1 1 (248 + i))) 1 (349 + i) (M.1 1 (348 + i)) = Z
      have z1 : ∀ c, c ≠ 1 → Z.1 c = M.1 c := fun c hc => by rw [← hZ, zpI_ne.1 c hc, zpI_ne.1 c hc, zpI_ne.1 c hc]
      have zk : ∀ k, ¬ (k = 149 + i ∨ k = 249 + i ∨ k = 349 + i) → Z.1 1 k = M.1 1 k := fun k hk => by rw [← hZ, zpI_off (by omega), zpI_off (by omega), zpI_off (by omega)]
      have zp1 : Z.1 1 (149 + i) = M.1 1 (148 + i) := by rw [← hZ, zpI_off (by omega), zpI_off (by omega), zpI_at]
      have zp2 : Z.1 1 (249 + i) = M.1 1 (248 + i) := by rw [← hZ, zpI_off (by omega), zpI_at]
      have zp3 : Z.1 1 (349 + i) = M.1 1 (348 + i) := by rw [← hZ, zpI_at]
      obtain ⟨f1, f2, f3⟩ := ih i Z (by omega) (by omega)
      refine ⟨fun c hc => (f1 c hc).trans (z1 c hc), f2.trans (by rw [← hZ]; rfl), fun k => ?_⟩
      rw [f3, zk 13 (by omega), z1 0 (by omega)]
      by_cases q1 : k = 13
      · rw [if_pos q1, if_pos q1]
      by_cases q2 : k = 148
      · rw [if_neg q1, if_pos q2, if_neg q1, if_pos q2]
      by_cases q3 : k = 248
      · rw [if_neg q1, if_neg q2, if_pos q3, if_neg q1, if_neg q2, if_pos q3]
      by_cases q4 : k = 348
      · rw [if_neg q1, if_neg q2, if_neg q3, if_pos q4, if_neg q1, if_neg q2, if_neg q3, if_pos q4]
      rw [if_neg q1, if_neg q2, if_neg q3, if_neg q4, if_neg q1, if_neg q2, if_neg q3, if_neg q4]
      by_cases q5 : (148 < k ∧ k ≤ 148 + i) ∨ (248 < k ∧ k ≤ 248 + i) ∨ (348 < k ∧ k ≤ 348 + i)
      · rw [if_pos q5, if_pos (by omega), zk (k - 1) (by omega)]
      · rw [if_neg q5]
        by_cases p1 : k = 149 + i
        · rw [if_pos (by omega), p1, zp1, show 149 + i - 1 = 148 + i by omega]
        by_cases p2 : k = 249 + i
        · rw [if_pos (by omega), p2, zp2, show 249 + i - 1 = 248 + i by omega]
        by_cases p3 : k = 349 + i
        · rw [if_pos (by omega), p3, zp3, show 349 + i - 1 = 348 + i by omega]
        rw [if_neg (by omega), zk k (by omega)]
/-! the end of a tick -/
/-- what a tick of the reference does to its book and counts; v: whether it chatters -/
def zBt (R R' : zM) (v : Int32) : Prop := R'.1 1 3 = R.1 1 3 + 1 ∧ R'.1 1 4 = R.1 1 4 + (if v = 0 then 0 else 1) ∧ R'.1 1 13 = f_X6_lesser 100 (R.1 1 13 + 1) ∧
  (∀ i, i < 7 → R'.1 1 (6 + i) = R.1 1 (6 + i) + (if nI i = f_X6_classOf (R'.1 0 10) then 1 else 0)) ∧
  (∀ i, i < 100 → R'.1 1 (148 + i) = if i = 0 then R'.1 0 10 else R.1 1 (148 + (i - 1))) ∧
  (∀ i, i < 100 → R'.1 1 (248 + i) = if i = 0 then R'.1 0 9 else R.1 1 (248 + (i - 1))) ∧
  (∀ i, i < 100 → R'.1 1 (348 + i) = if i = 0 then R'.1 0 11 else R.1 1 (348 + (i - 1)))
def zTq (L r : Nat) (C0 R0 Rs : zM) (v : Int32) (C' R' : zM) : Prop := zRw L r C' (R'.1 1) ∧ C'.1 r 5 = R'.1 0 10 ∧ C'.1 r 6 = R'.1 0 9 ∧ C'.1 r 7 = R'.1 0 11 ∧ C'.1 r 8 = v ∧ zBt Rs R' v ∧ zFc r C0 C' ∧ zRf R0 R'
theorem cls_k {q : Int32} : ∃ k : Nat, k ≤ 6 ∧ f_X6_classOf q = nI k := nI_of2 (by decide) (Int32.not_lt.mpr (cls_X6 q).1) (cls_X6 q).2
theorem zRw.row {L r : Nat} {C : zM} {S S' : Nat → Int32} (h : zRw L r C S) (e : ∀ k, (k < 3 ∨ k = 5 ∨ (14 ≤ k ∧ k < 148)) → S' k = S k) : zRw L r C S' := by
  obtain ⟨h0, h1, h2, h3, h4, h5, h6, h7⟩ := h
  refine ⟨h0, h1, (e 0 (by omega)).trans h2, h3.trans (e 1 (by omega)).symm, h4.trans (e 2 (by omega)).symm, fun b w hb hw => (h5 b w hb hw).trans (e (78 + 7 * b + w) (by omega)).symm, fun b hb => ?_, h7.cg (fun _ _ => rfl) (e 5 (by omega)) (fun i hi => e (14 + i) (by omega))⟩
  have hb6 := h6 b hb
  unfold zBd zB at hb6 ⊢
  rw [e (78 + 7 * b + 0) (by omega), e (78 + 7 * b + 1) (by omega), e (78 + 7 * b + 2) (by omega), e (78 + 7 * b + 6) (by omega)]
  exact hb6
theorem t100_exit {m L : Nat} {R : zM} (h : R.1 1 0 = nI L) : f_X6_tick_100 (m + 1) (nI L) R = f_X6_books (zpI (zpI R 1 3 (R.1 1 3 + 1)) 1 ((6 : Int32) + f_X6_classOf (R.1 0 10)).toNatClampNeg ((zpI R 1 3 (R.1 1 3 + 1)).1 1 ((6 : Int32) + f_X6_classOf (R.1 0 10)).toNatClampNeg + 1)) := by
  rw [f_X6_tick_100, h, if_pos (Int32.le_refl _)]
  simp only []
  rw [zpI_ne.1 0 (by omega)]
theorem t99_exit {n r L : Nat} {C : zM} (h : C.1 r 1 = nI L) : f_X2_tick_99 r (n + 1) (nI L) C = C := by
  rw [f_X2_tick_99, h, if_pos (Int32.le_refl _)]
theorem t99_step {n r L j : Nat} {C : zM} (h : C.1 r 1 = nI L) (hj : j < L) (hL : L ≤ 10) : f_X2_tick_99 r (n + 1) (nI j) C = f_X2_tick_99 r n (nI (j + 1)) (f_X0_endTick (r + 2 + j) C) := by
  rw [f_X2_tick_99, h, if_neg (nI_ge hj (by omega)), nI_1, zcl0 (show j < 1000 by omega)]
theorem rBc4 {b : Nat} {v : Int32} {M : zM} (hb : b < 10) : (f_X6_become (nI b) (4 : Int32) v M).2 = zpI M 1 (78 + 7 * b + 4) v := rBc (w := 4) hb (by omega)
theorem rBc6 {b : Nat} {v : Int32} {M : zM} (hb : b < 10) : (f_X6_become (nI b) (6 : Int32) v M).2 = zpI M 1 (78 + 7 * b + 6) v := rBc (w := 6) hb (by omega)
theorem t100_step {n L j : Nat} {R : zM} (h : R.1 1 0 = nI L) (hj : j < L) (hL : L ≤ 10) : f_X6_tick_100 (n + 1) (nI j) R = f_X6_tick_100 n (nI (j + 1)) (if zbt (R.1 0 9) j = 1 then zpI (zpI R 1 (78 + 7 * j + 6) 0) 1 (78 + 7 * j + 4) (f_X6_greater 0 (zB (R.1 1) j 4 - 1)) else zpI (zpI R 1 (78 + 7 * j + 6) (f_X6_lesser 999 (zB (R.1 1) j 6 + 1))) 1 (78 + 7 * j + 4) (zB (R.1 1) j 4)) := by
  have hb10 : j < 10 := by omega
  have k4 : ∀ x, f_X6_at (nI j) 4 (zpI R 1 (78 + 7 * j + 6) x) = zB (R.1 1) j 4 := fun x => by rw [rAt4 hb10]; exact zB_ne (by omega) (by omega) (by omega)
  rw [f_X6_tick_100, h, if_neg (nI_ge hj (by omega))]
  by_cases q : zbt (R.1 0 9) j = 1
  · rw [if_pos q]
    unfold zbt at q
    rw [if_pos q]
    unfold f_X6_tick_127
    rw [if_neg (by decide)]
    unfold f_X6_tick_157
    simp only []
    rw [if_neg (by decide)]
    unfold f_X6_tick_190
    simp only []
    rw [rBc6 hb10, k4, rBc4 hb10, nI_1]
  · rw [if_neg q]
    unfold zbt at q
    rw [if_neg q]
    unfold f_X6_tick_127
    rw [if_pos rfl]
    simp only []
    unfold f_X6_tick_157
    simp only []
    rw [if_pos trivial]
    unfold f_X6_tick_190
    simp only []
    rw [rAt6 hb10, rBc6 hb10, k4, rBc4 hb10, nI_1]
theorem std_in {s : Int32} (h : 0 ≤ s ∧ s ≤ 999) : 0 ≤ f_X6_lesser 999 (s + 1) ∧ f_X6_lesser 999 (s + 1) ≤ 999 := by
  have key : ∀ j : Nat, j ≤ 999 → 0 ≤ f_X6_lesser 999 (nI j + 1) ∧ f_X6_lesser 999 (nI j + 1) ≤ 999 := by decide +kernel
  obtain ⟨j, hj, rfl⟩ := zis (n := 999) 999 (by decide) h.1 h.2
  exact key j hj
theorem zBd.put6 {M M' : zM} {j : Nat} {x : Int32} (h : zBd (M.1 1) j) (hx : 0 ≤ x ∧ x ≤ 999) (e : M'.1 1 = (zpI M 1 (78 + 7 * j + 6) x).1 1) : zBd (M'.1 1) j := by
  unfold zBd at h ⊢
  rw [e, zB_ne (by omega) (by omega) (by omega), zB_ne (by omega) (by omega) (by omega), zB_ne (by omega) (by omega) (by omega), zB_same]
  exact ⟨h.1, h.2.1, h.2.2.1, hx⟩
/-- the loop that ends a tick -/
theorem tick_end {L r : Nat} {C0 R0 C R : zM} {v : Int32} (hw : zRw L r C (R.1 1)) (h10 : ∀ b, b < L → C.1 (r + 2 + b) 10 = zbt (R.1 0 9) b) (h5 : C.1 r 5 = R.1 0 10) (h6 : C.1 r 6 = R.1 0 9) (h7 : C.1 r 7 = R.1 0 11) (h8 : C.1 r 8 = v) (hc : zFc r C0 C) (hr : zRf R0 R) (Rs : zM)
    (hs : ∀ k, (k < 78 ∨ 148 ≤ k) → R.1 1 k = if k = 4 then Rs.1 1 4 + (if v = 0 then 0 else 1) else Rs.1 1 k) : zTq L r C0 R0 Rs v (f_X2_tick_99 r 11 0 C) (f_X6_tick_100 11 0 R) := by
  have hL := hw.1
  exact zlock (L := L) (P := fun j (a b : zM) => zRw L r a (b.1 1) ∧ (∀ q, q < L → a.1 (r + 2 + q) 10 = zbt (b.1 0 9) q) ∧ a.1 r 5 = b.1 0 10 ∧ a.1 r 6 = b.1 0 9 ∧ a.1 r 7 = b.1 0 11 ∧ a.1 r 8 = v ∧ zFc r C0 a ∧ zRf R0 b ∧ (∀ k, (k < 78 ∨ 148 ≤ k) → b.1 1 k = if k = 4 then Rs.1 1 4 + (if v = 0 then 0 else 1) else Rs.1 1 k))
    (Q := fun x y => zTq L r C0 R0 Rs v x y) (F := fun n j (a : zM) => f_X2_tick_99 r n (nI j) a) (G := fun n j (b : zM) => f_X6_tick_100 n (nI j) b)
    (by
      intro n m a b hP
      obtain ⟨p1, p2, p3, p4, p5, p6, p7, p8, p9⟩ := hP
      show zTq L r C0 R0 Rs v (f_X2_tick_99 r (n + 1) (nI L) a) (f_X6_tick_100 (m + 1) (nI L) b)
      rw [t99_exit p1.2.1, t100_exit p1.2.2.1]
      obtain ⟨ck, hck, eck⟩ := cls_k (q := b.1 0 10)
      have ek : ∀ j : Nat, j ≤ 6 → ((6 : Int32) + nI j).toNatClampNeg = 6 + j := by decide
      rw [eck, ek ck hck]
      have x3 : (zpI b 1 3 (b.1 1 3 + 1)).1 1 (6 + ck) = b.1 1 (6 + ck) := zpI_off (by omega)
      rw [x3]
      generalize hZ : zpI (zpI b 1 3 (b.1 1 3 + 1)) 1 (6 + ck) (b.1 1 (6 + ck) + 1) = Z
      have z1 : ∀ c, c ≠ 1 → Z.1 c = b.1 c := fun c hc => by rw [← hZ, zpI_ne.1 c hc, zpI_ne.1 c hc]
      have zk : ∀ k, ¬ (k = 3 ∨ k = 6 + ck) → Z.1 1 k = b.1 1 k := fun k hk => by rw [← hZ, zpI_off (by omega), zpI_off (by omega)]
      have z3 : Z.1 1 3 = b.1 1 3 + 1 := by rw [← hZ, zpI_off (by omega), zpI_at]
      have z6 : Z.1 1 (6 + ck) = b.1 1 (6 + ck) + 1 := by rw [← hZ, zpI_at]
      obtain ⟨f1, f2, f3⟩ := bk3 101 99 Z (by omega) (by omega)
      have fb : f_X6_books Z = f_X6_books_3 101 (nI 99) Z := rfl
      rw [← fb] at f1 f2 f3
      generalize f_X6_books Z = Y at f1 f2 f3
      have y0 : Y.1 0 = b.1 0 := (f1 0 (by omega)).trans (z1 0 (by omega))
      have yk : ∀ k, ¬ (k = 3 ∨ k = 6 + ck ∨ k = 13 ∨ (148 ≤ k ∧ k < 448)) → Y.1 1 k = b.1 1 k := fun k hk => by
        rw [f3, if_neg (by omega), if_neg (by omega), if_neg (by omega), if_neg (by omega), if_neg (by omega), zk k (by omega)]
      have yr : zRf b Y := ⟨fun c hc => (f1 c (by omega)).trans (z1 c (by omega)), fun k hk => by rw [y0], f2.trans (by rw [← hZ]; rfl)⟩
      refine ⟨p1.row (fun k hk => yk k (by omega)), by rw [y0]; exact p3, by rw [y0]; exact p4, by rw [y0]; exact p5, p6, ?_, p7, p8.tr yr⟩
      rw [z1 0 (by omega)] at f3
      refine ⟨?_, ?_, ?_, fun i hi => ?_, fun i hi => ?_, fun i hi => ?_, fun i hi => ?_⟩
      · rw [f3, if_neg (by omega), if_neg (by omega), if_neg (by omega), if_neg (by omega), if_neg (by omega), z3, p9 3 (by omega), if_neg (by omega)]
      · rw [yk 4 (by omega), p9 4 (by omega), if_pos rfl]
      · rw [f3, if_pos rfl, zk 13 (by omega), p9 13 (by omega), if_neg (by omega)]
      · rw [f3, if_neg (by omega), if_neg (by omega), if_neg (by omega), if_neg (by omega), if_neg (by omega), y0, eck]
        by_cases q : i = ck
        · subst q; rw [z6, if_pos rfl, p9 (6 + i) (by omega), if_neg (by omega)]
        · rw [zk (6 + i) (by omega), if_neg (fun z => q ((nI_eq (by omega) (by omega)).mp z)), p9 (6 + i) (by omega), if_neg (by omega)]
          exact (Int32.add_zero _).symm
      · rw [f3, y0]
        by_cases q : i = 0
        · subst q; rw [if_neg (by omega), if_pos rfl, if_pos rfl]
        · rw [if_neg (by omega), if_neg (by omega), if_neg (by omega), if_neg (by omega), if_pos (by omega), if_neg q, zk (148 + i - 1) (by omega), p9 (148 + i - 1) (by omega), if_neg (by omega), show 148 + i - 1 = 148 + (i - 1) by omega]
      · rw [f3, y0]
        by_cases q : i = 0
        · subst q; rw [if_neg (by omega), if_neg (by omega), if_pos rfl, if_pos rfl]
        · rw [if_neg (by omega), if_neg (by omega), if_neg (by omega), if_neg (by omega), if_pos (by omega), if_neg q, zk (248 + i - 1) (by omega), p9 (248 + i - 1) (by omega), if_neg (by omega), show 248 + i - 1 = 248 + (i - 1) by omega]
      · rw [f3, y0]
        by_cases q : i = 0
        · subst q; rw [if_neg (by omega), if_neg (by omega), if_neg (by omega), if_pos rfl, if_pos rfl]
        · rw [if_neg (by omega), if_neg (by omega), if_neg (by omega), if_neg (by omega), if_pos (by omega), if_neg q, zk (348 + i - 1) (by omega), p9 (348 + i - 1) (by omega), if_neg (by omega), show 348 + i - 1 = 348 + (i - 1) by omega])
    (by
      intro n m j a b hj hP
      obtain ⟨p1, p2, p3, p4, p5, p6, p7, p8, p9⟩ := hP
      have kd := p2 j hj
      have k6 := p1.2.2.2.2.2.1 j 6 hj (by omega)
      have k4 := p1.2.2.2.2.2.1 j 4 hj (by omega)
      have bd := p1.2.2.2.2.2.2.1 j hj
      have put2 : ∀ (x y : Int32) (a' : zM), (0 ≤ x ∧ x ≤ 999) → (∀ c k, ¬ (c = r + 2 + j ∧ (k = 6 ∨ k = 4)) → a'.1 c k = a.1 c k) → a'.1 (r + 2 + j) 6 = x → a'.1 (r + 2 + j) 4 = y → a'.2 = a.2 →
          (zRw L r a' ((zpI (zpI b 1 (78 + 7 * j + 6) x) 1 (78 + 7 * j + 4) y).1 1) ∧ (∀ q, q < L → a'.1 (r + 2 + q) 10 = zbt ((zpI (zpI b 1 (78 + 7 * j + 6) x) 1 (78 + 7 * j + 4) y).1 0 9) q) ∧ a'.1 r 5 = (zpI (zpI b 1 (78 + 7 * j + 6) x) 1 (78 + 7 * j + 4) y).1 0 10 ∧ a'.1 r 6 = (zpI (zpI b 1 (78 + 7 * j + 6) x) 1 (78 + 7 * j + 4) y).1 0 9 ∧ a'.1 r 7 = (zpI (zpI b 1 (78 + 7 * j + 6) x) 1 (78 + 7 * j + 4) y).1 0 11 ∧ a'.1 r 8 = v ∧ zFc r C0 a' ∧ zRf R0 (zpI (zpI b 1 (78 + 7 * j + 6) x) 1 (78 + 7 * j + 4) y) ∧ (∀ k, (k < 78 ∨ 148 ≤ k) → (zpI (zpI b 1 (78 + 7 * j + 6) x) 1 (78 + 7 * j + 4) y).1 1 k = if k = 4 then Rs.1 1 4 + (if v = 0 then 0 else 1) else Rs.1 1 k)) := by
        intro x y a' hx ho hx6 hy4 hl
        have b0 : (zpI (zpI b 1 (78 + 7 * j + 6) x) 1 (78 + 7 * j + 4) y).1 0 = b.1 0 := (zpI_ne.1 0 (by omega)).trans (zpI_ne.1 0 (by omega))
        rw [b0]
        have mid : zRw L r (zpI a (r + 2 + j) 6 x) ((zpI b 1 (78 + 7 * j + 6) x).1 1) := p1.put (w := 6) hj (by omega) (zpI_off (by omega)) (zpI_off (by omega)) (zpI_off (by omega)) (fun q w' _ _ hn => zpI_off (by omega)) zpI_at (zpI_off (by omega)) (zpI_ne.1 _ (by omega)) rfl (bd.put6 hx rfl)
        refine ⟨mid.put (w := 4) hj (by omega) ?_ ?_ ?_ (fun q w' hq hw' hn => ?_) hy4 ?_ ?_ rfl ((bd.put6 hx rfl).put (by omega) rfl), fun q hq => ?_, ?_, ?_, ?_, ?_, ?_, p8.tr ((rf_put (by omega)).tr (rf_put (by omega))), fun k hk => ?_⟩
        · rw [ho _ _ (by omega), zpI_off (by omega)]
        · rw [ho _ _ (by omega), zpI_off (by omega)]
        · rw [ho _ _ (by omega), zpI_off (by omega)]
        · by_cases z : q = j ∧ w' = 6
          · obtain ⟨rfl, rfl⟩ := z
            rw [hx6, zpI_at]
          · rw [ho _ _ (by omega), zpI_off (by omega)]
        · rw [ho _ _ (by omega), zpI_off (by omega)]
        · funext k
          rw [ho _ _ (by omega), zpI_off (by omega)]
        · rw [ho _ _ (by omega)]; exact p2 q hq
        · rw [ho _ _ (by omega)]; exact p3
        · rw [ho _ _ (by omega)]; exact p4
        · rw [ho _ _ (by omega)]; exact p5
        · rw [ho _ _ (by omega)]; exact p6
        · refine p7.tr ⟨fun c h1 h2 => funext fun k => ho _ _ (by omega), fun k hk => ho _ _ (by omega), hl⟩
        · rw [zpI_off (by omega), zpI_off (by omega)]
          exact p9 k hk
      by_cases q : zbt (b.1 0 9) j = 1
      · have e10 : ¬ a.1 (r + 2 + j) 10 = 0 := by rw [kd, q]; decide
        refine ⟨f_X0_endTick (r + 2 + j) a, zpI (zpI b 1 (78 + 7 * j + 6) 0) 1 (78 + 7 * j + 4) (f_X6_greater 0 (zB (b.1 1) j 4 - 1)), ?_, t99_step p1.2.1 hj hL, ?_⟩
        · have ee : f_X0_endTick (r + 2 + j) a = zpI (zpI a (r + 2 + j) 6 0) (r + 2 + j) 4 (f_X6_greater 0 (zB (b.1 1) j 4 - 1)) := by
            unfold f_X0_endTick
            rw [if_neg e10]
            simp only []
            rw [zpI_off (by omega), k4, zmx0]
          rw [ee]
          exact put2 0 _ _ ⟨by decide, by decide⟩ (fun c k hk => by rw [zpI_off (by omega), zpI_off (by omega)]) (by rw [zpI_off (by omega), zpI_at]) zpI_at rfl
        · show f_X6_tick_100 (m + 1) (nI j) b = _
          rw [t100_step p1.2.2.1 hj hL, if_pos q]
      · have q0 : zbt (b.1 0 9) j = 0 := by
          rcases zbt01 (x := b.1 0 9) (b := j) with z | z
          · exact z
          · exact absurd z q
        have e10 : a.1 (r + 2 + j) 10 = 0 := by rw [kd, q0]
        refine ⟨f_X0_endTick (r + 2 + j) a, zpI (zpI b 1 (78 + 7 * j + 6) (f_X6_lesser 999 (zB (b.1 1) j 6 + 1))) 1 (78 + 7 * j + 4) (zB (b.1 1) j 4), ?_, t99_step p1.2.1 hj hL, ?_⟩
        · have ee : f_X0_endTick (r + 2 + j) a = zpI a (r + 2 + j) 6 (f_X6_lesser 999 (zB (b.1 1) j 6 + 1)) := by
            unfold f_X0_endTick
            rw [if_pos e10]
            simp only []
            rw [k6, zmn2]
          rw [ee]
          exact put2 _ _ _ (std_in bd.2.2.2) (fun c k hk => zpI_off (by omega)) zpI_at (by rw [zpI_off (by omega), k4]) rfl
        · show f_X6_tick_100 (m + 1) (nI j) b = _
          rw [t100_step p1.2.2.1 hj hL, if_neg q])
    (L - 0) 11 11 0 C R rfl (Nat.zero_le L) (by omega) (by omega) ⟨hw, h10, h5, h6, h7, h8, hc, hr, hs⟩
