/-! two loops side by side -/
theorem zlock {α β γ δ : Type} {L : Nat} {P : Nat → α → β → Prop} {Q : γ → δ → Prop} {F : Nat → Nat → α → γ} {G : Nat → Nat → β → δ}
    (hexit : ∀ n m a b, P L a b → Q (F (n + 1) L a) (G (m + 1) L b))
    (hstep : ∀ n m j a b, j < L → P j a b → ∃ a' b', P (j + 1) a' b' ∧ F (n + 1) j a = F n (j + 1) a' ∧ G (m + 1) j b = G m (j + 1) b') :
    ∀ k n m j a b, k = L - j → j ≤ L → L < j + n → L < j + m → P j a b → Q (F n j a) (G m j b) := by
  intro k
  induction k with
  | zero =>
    intro n m j a b hk hj hn hm hP
    obtain rfl : j = L := by omega
    obtain ⟨n, rfl⟩ : ∃ n', n = n' + 1 := ⟨n - 1, by omega⟩
    obtain ⟨m, rfl⟩ : ∃ m', m = m' + 1 := ⟨m - 1, by omega⟩
    exact hexit n m a b hP
  | succ k ih =>
    intro n m j a b hk hj hn hm hP
    obtain ⟨n, rfl⟩ : ∃ n', n = n' + 1 := ⟨n - 1, by omega⟩
    obtain ⟨m, rfl⟩ : ∃ m', m = m' + 1 := ⟨m - 1, by omega⟩
    obtain ⟨a', b', h1, h2, h3⟩ := hstep n m j a b (by omega) hP
    rw [h2, h3]
    exact ih n m (j + 1) a' b' (by omega) (by omega) (by omega) (by omega) h1
/-- one loop -/
theorem zloop {α γ : Type} {L : Nat} {P : Nat → α → Prop} {Q : γ → Prop} {F : Nat → Nat → α → γ}
    (hexit : ∀ n a, P L a → Q (F (n + 1) L a))
    (hstep : ∀ n j a, j < L → P j a → ∃ a', P (j + 1) a' ∧ F (n + 1) j a = F n (j + 1) a') :
    ∀ k n j a, k = L - j → j ≤ L → L < j + n → P j a → Q (F n j a) := by
  intro k
  induction k with
  | zero =>
    intro n j a hk hj hn hP
    obtain rfl : j = L := by omega
    obtain ⟨n, rfl⟩ : ∃ n', n = n' + 1 := ⟨n - 1, by omega⟩
    exact hexit n a hP
  | succ k ih =>
    intro n j a hk hj hn hP
    obtain ⟨n, rfl⟩ : ∃ n', n = n' + 1 := ⟨n - 1, by omega⟩
    obtain ⟨a', h1, h2⟩ := hstep n j a (by omega) hP
    rw [h2]
    exact ih n (j + 1) a' (by omega) (by omega) (by omega) h1
/-! the same row -/
def zSr (r : Nat) (C C' : zM) : Prop := C'.1 r 1 = C.1 r 1 ∧ C'.1 r 2 = C.1 r 2 ∧ C'.1 r 3 = C.1 r 3 ∧ (∀ b w, b < 10 → w < 7 → C'.1 (r + 2 + b) w = C.1 (r + 2 + b) w) ∧ C'.1 (r + 12) 1 = C.1 (r + 12) 1 ∧ C'.1 (r + 13) = C.1 (r + 13)
theorem zSr.tr {r : Nat} {A B C : zM} (h : zSr r A B) (k : zSr r B C) : zSr r A C := ⟨k.1.trans h.1, k.2.1.trans h.2.1, k.2.2.1.trans h.2.2.1, fun b w hb hw => (k.2.2.2.1 b w hb hw).trans (h.2.2.2.1 b w hb hw), k.2.2.2.2.1.trans h.2.2.2.2.1, k.2.2.2.2.2.trans h.2.2.2.2.2⟩
theorem zSr.rf {r : Nat} {A : zM} : zSr r A A := ⟨rfl, rfl, rfl, fun _ _ _ _ => rfl, rfl, rfl⟩
theorem sr_blk {r b k : Nat} {v : Int32} {C : zM} (hb : b < 10) (hk : 7 ≤ k) : zSr r C (zpI C (r + 2 + b) k v) :=
  ⟨zpI_off (by omega), zpI_off (by omega), zpI_off (by omega), fun b' w _ hw => zpI_off (by omega), zpI_off (by omega), zpI_ne.1 _ (by omega)⟩
theorem sr_row {r k : Nat} {v : Int32} {C : zM} (hk : 5 ≤ k) : zSr r C (zpI C r k v) :=
  ⟨zpI_off (by omega), zpI_off (by omega), zpI_off (by omega), fun b' w _ hw => zpI_off (by omega), zpI_off (by omega), zpI_ne.1 _ (by omega)⟩
theorem sr_tg {r : Nat} {C C' : zM} (h : zTg (r + 12) C C') : zSr r C C' :=
  ⟨by rw [h.1 r (by omega)], by rw [h.1 r (by omega)], by rw [h.1 r (by omega)], fun b w hb _ => by rw [h.1 (r + 2 + b) (by omega)], h.2.1 1 (by omega), h.1 (r + 13) (by omega)⟩
theorem zRw.sr {L r : Nat} {C C' : zM} {S : Nat → Int32} (h : zRw L r C S) (k : zSr r C C') : zRw L r C' S := by
  obtain ⟨h0, h1, h2, h3, h4, h5, h6, h7⟩ := h
  obtain ⟨k1, k2, k3, k4, k5, k6⟩ := k
  refine ⟨h0, k1.trans h1, h2, k2.trans h3, k3.trans h4, fun b w hb hw => (k4 b w (by omega) hw).trans (h5 b w hb hw), h6, ?_⟩
  rw [k5, k6]
  exact h7
/-- the reference's row but for the places -/
def zAg (R0 R : zM) : Prop := (∀ k, k < 78 → R.1 1 k = R0.1 1 k) ∧ (∀ b w, b < 10 → w < 7 → w ≠ 5 → zB (R.1 1) b w = zB (R0.1 1) b w) ∧ (∀ k, 148 ≤ k → R.1 1 k = R0.1 1 k)
theorem zAg.rf {R : zM} : zAg R R := ⟨fun _ _ => rfl, fun _ _ _ _ _ => rfl, fun _ _ => rfl⟩
theorem zAg.row {R0 R R' : zM} (h : zAg R0 R) (e : R'.1 1 = R.1 1) : zAg R0 R' := by
  unfold zAg at h ⊢
  rw [e]
  exact h
theorem zAg.place {R0 R : zM} {b : Nat} {v : Int32} (h : zAg R0 R) (hb : b < 10) : zAg R0 (zpI R 1 (78 + 7 * b + 5) v) := by
  refine ⟨fun k hk => (zpI_off (by omega)).trans (h.1 k hk), fun b' w hb' hw h5 => (zB_ne (by omega) hw (by omega)).trans (h.2.1 b' w hb' hw h5), fun k hk => (zpI_off (by omega)).trans (h.2.2 k hk)⟩
/-- the reference's holds don't turn on the places -/
theorem hold_cg {L r b : Nat} {s : Int32} {C R0 R : zM} (h : zRw L r C (R0.1 1)) (hb : b < L) (ha : zAg R0 R) : (f_X6_holdsOf (nI b) s R).1 = (f_X6_holdsOf (nI b) s R0).1 := by
  have hb10 : b < 10 := by have := h.1; omega
  have a0 := ha.2.1 b 0 hb10 (by omega) (by omega)
  have a1 := ha.2.1 b 1 hb10 (by omega) (by omega)
  have a2 := ha.2.1 b 2 hb10 (by omega) (by omega)
  have a4 := ha.2.1 b 4 hb10 (by omega) (by omega)
  have a5 := ha.1 5 (by omega)
  have ap := ha.1 2 (by omega)
  unfold f_X6_holdsOf f_X6_plainHolds
  simp only [rAt0 hb10, rAt1 hb10, rAt4 hb10, a0, a1, a4, a5]
  by_cases q1 : zB (R0.1 1) b 0 = 1
  · simp only [q1, if_true]
  by_cases q2 : zB (R0.1 1) b 0 = 2
  · rw [if_neg q1, if_pos q2, if_neg q1, if_pos q2]
  by_cases q3 : zB (R0.1 1) b 0 = 3
  · rw [if_neg q1, if_neg q2, if_pos q3, if_neg q1, if_neg q2, if_pos q3]
    rcases h.2.2.2.2.2.2.2 with ⟨e1, e2⟩ | ⟨e1, e2, E, e3, e4⟩
    · rw [if_neg (Int32.not_le.mpr e2), if_neg (Int32.not_le.mpr e2)]
    · rw [if_pos e2, if_pos e2]
      have e5 := e4 b s R hb10 a5 (fun i hi => ha.1 (14 + i) (by omega))
      have e6 := e4 b s R0 hb10 rfl (fun i _ => rfl)
      simp only []
      rw [e5, e6, a1, a2, a4, ap]
  by_cases q4 : zB (R0.1 1) b 0 = 4
  · rw [if_neg q1, if_neg q2, if_neg q3, if_pos q4, if_neg q1, if_neg q2, if_neg q3, if_pos q4]
    by_cases q : s < 40
    · rw [if_pos q, if_pos q]
    · rw [if_neg q, if_neg q]
  by_cases q5 : zB (R0.1 1) b 0 = 5
  · rw [if_neg q1, if_neg q2, if_neg q3, if_neg q4, if_pos q5, if_neg q1, if_neg q2, if_neg q3, if_neg q4, if_pos q5]
  · rw [if_neg q1, if_neg q2, if_neg q3, if_neg q4, if_neg q5, if_neg q1, if_neg q2, if_neg q3, if_neg q4, if_neg q5]
