theorem tb_60 {t n : Nat} {C R : zM} (h : zTb t n C R) : 0 ≤ R.1 0 5 ∧ R.1 0 5 ≤ 60 := by
  rw [h.2.1]
  have := h.2.2.1
  exact ⟨nI_pos' (by omega), nI_le (b := 60) this (by omega)⟩
/-- a text without a fault: its codes, and what the class reads -/
theorem law_ok {n : Nat} {C R : zM} (h : zTb 53 n C R) (hf : (lwR R).1 0 18 < 0) : ∃ ks, zCo (lwR R) ks ∧ zGd ks ∧ ks.length ≤ 60 ∧ 1 ≤ n ∧ (∀ q : Nat → Int32, (∀ i, i < n → q i = R.1 4 i) → zLwC (nI n) q (zEx ks)) := by
  obtain ⟨-, r2⟩ := read_eq h
  obtain ⟨ks, hco, -⟩ := r2 hf
  have hg : zGd ks := by
    intro e
    have htb : zTb 53 n ((fun c k => if c = 53 ∧ 5 ≤ k then e (k - 5) else C.1 c k), C.2) R := by
      obtain ⟨a1, a2, a3, a4, a5⟩ := h
      refine ⟨?_, a2, a3, fun i hi => ?_, a5⟩
      · show (if (53 : Nat) = 53 ∧ 5 ≤ 1 then e (1 - 5) else C.1 53 1) = nI n
        rw [if_neg (by omega)]; exact a1
      · show (if 53 + 1 = 53 ∧ 5 ≤ i then e (i - 5) else C.1 (53 + 1) i) = R.1 4 i
        rw [if_neg (by omega)]; exact a4 i hi
    obtain ⟨-, s2⟩ := read_eq htb
    obtain ⟨ls, lco, lex⟩ := s2 hf
    rw [co_uniq hco lco]
    refine ⟨_, lex e (fun w => ?_)⟩
    show (if (53 : Nat) = 53 ∧ 5 ≤ 5 + w then e (5 + w - 5) else C.1 53 (5 + w)) = e w
    rw [if_pos (by omega), show 5 + w - 5 = w by omega]
  have hS := ps_lwR (tb_60 h)
  have hl : ks.length ≤ 60 := by
    have := hco.1
    have := hS.2.1
    omega
  have hn1 : 1 ≤ n := by
    cases hk : ks with
    | nil =>
      obtain ⟨v, hv⟩ := hg (fun _ => 0)
      rw [hk] at hv
      exact absurd hv (by simp [exL])
    | cons x xs =>
      have h1 := hco.1
      rw [hk] at h1
      simp only [List.length_cons] at h1
      obtain ⟨b1, b2, b3, b4, b5, b6⟩ := hS
      have := b6 (zf1.mp hf)
      have e5 : (lwR R).1 0 5 = nI n := (f0_lwR.2.1 5 (by omega)).trans h.2.1
      rw [e5, nI_toInt (by have := h.2.2.1; omega)] at b4
      omega
  refine ⟨ks, hco, hg, hl, hn1, fun q hq t it k p s M hne e1 eb => ?_⟩
  rw [valueFor_fst]
  generalize hM6 : zpI (zpI (zpI (zpI (zpI (zpI M t 5 s) t 6 ((zpI M t 5 s).1 it 1)) t 7 ((zpI (zpI M t 5 s) t 6 ((zpI M t 5 s).1 it 1)).1 it 2)) t 8 k) t 9 ((zpI (zpI (zpI (zpI M t 5 s) t 6 ((zpI M t 5 s).1 it 1)) t 7 ((zpI (zpI M t 5 s) t 6 ((zpI M t 5 s).1 it 1)).1 it 2)) t 8 k).1 it 4)) t 10 p = M6
  have m5 : M6.1 t 5 = s := by rw [← hM6]; simp (disch := omega) only [zpI_off, zpI_at]
  have m6 : M6.1 t 6 = M.1 it 1 := by rw [← hM6]; simp (disch := omega) only [zpI_off, zpI_at]
  have m7 : M6.1 t 7 = M.1 it 2 := by rw [← hM6]; simp (disch := omega) only [zpI_off, zpI_at]
  have m8 : M6.1 t 8 = k := by rw [← hM6]; simp (disch := omega) only [zpI_off, zpI_at]
  have m9 : M6.1 t 9 = M.1 it 4 := by rw [← hM6]; simp (disch := omega) only [zpI_off, zpI_at]
  have m10 : M6.1 t 10 = p := by rw [← hM6]; simp (disch := omega) only [zpI_off, zpI_at]
  have m1 : M6.1 t 1 = M.1 t 1 := by rw [← hM6]; simp (disch := omega) only [zpI_off]
  have mb : M6.1 (t + 1) = M.1 (t + 1) := by rw [← hM6]; funext i; simp (disch := omega) only [zpI_off]
  have hn60 := h.2.2.1
  have htb : zTb t n M6 R := ⟨by rw [m1]; exact e1, h.2.1, h.2.2.1, fun i hi => by rw [mb, eb i (by rw [nI_toInt (by omega)]; omega)]; exact hq i hi, h.2.2.2.2⟩
  obtain ⟨-, s2⟩ := read_eq htb
  obtain ⟨ls, lco, lex⟩ := s2 hf
  rw [co_uniq hco lco]
  refine (zEx_of (e := fun w => M6.1 t (5 + w)) (fun i hi => ?_) (lex _ (fun _ => rfl))).symm
  match i, hi with
  | 0, _ => exact m5
  | 1, _ => exact m6
  | 2, _ => exact m7
  | 3, _ => exact m8
  | 4, _ => exact m9
  | 5, _ => exact m10
/-- the codes are laid into the row -/
theorem law72 {c : Nat} (hc : c ≤ 60) : ∀ (d f j : Nat) (M : zM), d = c - j → j ≤ c → c < j + f → M.1 0 16 = nI c → ∃ M' : zM, f_X6_law_72 f (nI j) M = (0, zpI M' 0 5 0) ∧ (∀ a, a ≠ 1 → M'.1 a = M.1 a) ∧ M'.2 = M.2 ∧ (∀ k, M'.1 1 k = if 14 + j ≤ k ∧ k < 14 + c then M.1 10 (k - 14) else M.1 1 k) := by
  intro d
  induction d with
  | zero =>
    intro f j M hd hj hf h16
    obtain ⟨f, rfl⟩ : ∃ f', f = f' + 1 := ⟨f - 1, by omega⟩
    obtain rfl : j = c := by omega
    refine ⟨M, ?_, fun _ _ => rfl, rfl, fun k => ?_⟩
    · rw [f_X6_law_72, h16, if_pos (Int32.le_refl _)]
    · rw [if_neg (by omega)]
  | succ d ih =>
    intro f j M hd hj hf h16
    obtain ⟨f, rfl⟩ : ∃ f', f = f' + 1 := ⟨f - 1, by omega⟩
    have hjc : j < c := by omega
    have e14 : ((14 : Int32) + nI j).toNatClampNeg = 14 + j := by
      rw [gv_ix (nI_pos' (by omega)) (nI_le (b := 60) (by omega) (by omega)), zcl0 (show j < 1000 by omega)]
    obtain ⟨M', k1, k2, k3, k4⟩ := ih f (j + 1) (zpI M 1 (14 + j) (M.1 10 j)) (by omega) (by omega) (by omega) ((zpI_off (by omega)).trans h16)
    refine ⟨M', ?_, fun a ha => (k2 a ha).trans (zpI_ne.1 a ha), k3, fun k => ?_⟩
    · rw [f_X6_law_72, h16, if_neg (nI_ge hjc (by omega)), e14, zcl0 (show j < 1000 by omega), nI_1]
      exact k1
    · rw [k4, zpI_ne.1 10 (by omega)]
      by_cases q : 14 + (j + 1) ≤ k ∧ k < 14 + c
      · rw [if_pos q, if_pos (by omega)]
      · rw [if_neg q]
        by_cases q2 : k = 14 + j
        · subst q2
          rw [zpI_at, if_pos (by omega), show 14 + j - 14 = j by omega]
        · rw [zpI_off (by omega), if_neg (by omega)]
theorem m_law {C R : zM} (h : zIN C R) : zEq (f_X5_law C) (f_X6_law R) := by
  obtain ⟨n, ht⟩ := h.2.2.1
  obtain ⟨L, hw⟩ := h.1.1
  obtain ⟨r1, -⟩ := read_eq ht
  have htf := tf_readAll (t := 53) (M := C)
  have hf0 := f0_lwR (R := R)
  have hlk := law_ok ht
  have hps := ps_lwR (tb_60 ht)
  unfold f_X5_law
  rw [findFault_eq]
  rw [law_lwR]
  generalize f_X4_readAll 53 C = Z at htf r1 ⊢
  generalize lwR R = Y at hf0 r1 hlk hps ⊢
  unfold f_X6_law_46
  simp only []
  rw [r1]
  by_cases q : Y.1 0 18 < 0
  rotate_left
  · rw [if_neg q, if_neg q]
    refine ⟨rfl, IN_tape (n := n) h (ht.cg (htf.2.1 1 (by omega)) (htf.1 54 (by omega)) (hf0.2.1 5 (by omega)) (hf0.1 4 (by omega))) (fun c k hk => by rw [htf.1 c (by omega)]) htf.2.2 (fun c k hk => ?_) hf0.2.2⟩
    by_cases z : c = 0
    · subst z
      obtain rfl : k = 3 := by omega
      exact hf0.2.1 3 (by omega)
    · rw [hf0.1 c (by omega)]
  · rw [if_pos q, if_pos q]
    obtain ⟨ks, hco, hg, hl, hn1, hlw⟩ := hlk q
    have h16 : Y.1 0 16 = nI ks.length := by
      apply Int32.toInt_inj.mp
      rw [hco.1, nI_toInt (by omega)]
    obtain ⟨M', k1, k2, k3, k4⟩ := law72 (c := ks.length) hl ks.length 61 0 (zpI Y 1 5 (nI ks.length)) (by omega) (by omega) (by omega) ((zpI_off (by omega)).trans h16)
    rw [h16]
    have k1 : f_X6_law_72 61 0 (zpI Y 1 5 (nI ks.length)) = (0, zpI M' 0 5 0) := k1
    rw [k1]
    generalize hX : Z.2 = X at htf
    -- the reference's row
    have row : ∀ k, M'.1 1 k = if k = 5 then nI ks.length else if 14 ≤ k ∧ k < 14 + ks.length then Y.1 10 (k - 14) else R.1 1 k := by
      intro k
      have z1 : Y.1 1 = R.1 1 := hf0.1 1 (by omega)
      rw [k4, zpI_ne.1 10 (by omega)]
      by_cases z : 14 + 0 ≤ k ∧ k < 14 + ks.length
      · rw [if_pos z, if_neg (by omega), if_pos (by omega)]
      · rw [if_neg z]
        by_cases z5 : k = 5
        · subst z5; rw [zpI_at, if_pos rfl]
        · rw [zpI_off (by omega), if_neg z5, if_neg (by omega), z1]
    have roc : ∀ c, c ≠ 1 → M'.1 c = Y.1 c := fun c hc => (k2 c hc).trans (zpI_ne.1 c hc)
    generalize hR' : zpI M' 0 5 0 = R'
    have rr1 : ∀ k, R'.1 1 k = M'.1 1 k := fun k => by rw [← hR', zpI_off (by omega)]
    have ro : ∀ k, ¬ (k = 5 ∨ (14 ≤ k ∧ k < 78)) → R'.1 1 k = R.1 1 k := fun k hk => by rw [rr1, row, if_neg (by omega), if_neg (by omega)]
    have rS5 : R'.1 1 5 = nI ks.length := by rw [rr1, row, if_pos rfl]
    have rSk : ∀ i, i < ks.length → ks[i]? = some (R'.1 1 (14 + i)) := fun i hi => by
      rw [rr1, row, if_neg (by omega), if_pos (by omega), show 14 + i - 14 = i by omega]
      exact hco.2 i hi
    have rcell : ∀ c k, ¬ ((c = 0 ∧ ¬ k = 3) ∨ c = 1 ∨ c = 10) → R'.1 c k = R.1 c k := fun c k hk => by
      rw [← hR', zpI_off (by omega), roc c (by omega)]
      by_cases z : c = 0
      · subst z
        obtain rfl : k = 3 := by omega
        exact hf0.2.1 3 (by omega)
      · rw [hf0.1 c (by omega)]
    have r05 : R'.1 0 5 = 0 := by rw [← hR']; exact zpI_at
    have r2 : R'.2 = R.2 := by rw [← hR']; exact k3.trans hf0.2.2
    -- the class's cells
    generalize hC' : zpI (f_X4_copyFrom 13 53 X) 53 1 0 = C'
    have x1 : X.1 53 1 = nI n := (htf.2.1 1 (by omega)).trans ht.1
    have x54 : X.1 54 = C.1 54 := htf.1 54 (by omega)
    have c131 : C'.1 13 1 = nI n := by
      rw [← hC']
      unfold f_X4_copyFrom
      simp only []
      rw [zpI_off (by omega), zrI_ne.1 13 (by omega), zpI_at, x1]
    have c14 : ∀ i, i < n → C'.1 14 i = C.1 54 i := fun i hi => by
      rw [← hC']
      unfold f_X4_copyFrom
      simp only []
      have e0 : (0 : Int32).toNatClampNeg = 0 := by decide
      have hn60 := ht.2.2.1
      rw [zpI_off (by omega)]
      show (va_cpy ((zpI X 13 1 (X.1 53 1)).1 54) ((zpI X 13 1 (X.1 53 1)).1 14) (0 : Int32).toNatClampNeg (0 : Int32).toNatClampNeg ((zpI X 13 1 (X.1 53 1)).1 13 1).toNatClampNeg) i = C.1 54 i
      rw [zpI_at, x1, zcl0 (show n < 1000 by omega), e0, pk_cpy_in (by omega) (by omega), zpI_ne.1 54 (by omega), x54, show 0 + (i - 0) = i by omega]
    have co : ∀ c k, ¬ (c = 13 ∨ c = 14 ∨ c = 53) → C'.1 c k = C.1 c k := fun c k hk => by
      rw [← hC']
      unfold f_X4_copyFrom
      simp only []
      rw [zpI_off (by omega), zrI_ne.1 c (by omega), zpI_off (by omega), htf.1 c (by omega)]
    have c531 : C'.1 53 1 = 0 := by rw [← hC']; exact zpI_at
    have c2 : C'.2 = C.2 := by rw [← hC']; exact htf.2.2
    clear hC' hR' hX
    have hn60 := ht.2.2.1
    refine ⟨rfl, ⟨⟨L, ?_⟩, h.1.2.1.cg (fun c h1 h2 => funext fun k => co c k (by omega)) (fun k hk => ro k (by omega)), (zVal_of hg hl rS5 rSk).vl⟩, ?_⟩
    · obtain ⟨h0, h1, h2, h3, h4, h5, h6, h7⟩ := hw
      refine ⟨h0, (co 1 1 (by omega)).trans h1, (ro 0 (by omega)).trans h2, (co 1 2 (by omega)).trans (h3.trans (ro 1 (by omega)).symm), (co 1 3 (by omega)).trans (h4.trans (ro 2 (by omega)).symm), fun b w hb hw' => ?_, fun b hb => ?_, Or.inr ⟨?_, ?_, zEx ks, ?_, zLwR_of hg hl rS5 rSk⟩⟩
      · rw [co _ _ (by omega)]
        unfold zB
        rw [ro _ (by omega)]
        exact h5 b w hb hw'
      · have hb6 := h6 b hb
        unfold zBd zB at hb6 ⊢
        rw [ro _ (by omega), ro _ (by omega), ro _ (by omega), ro _ (by omega)]
        exact hb6
      · show 0 < C'.1 13 1
        rw [c131]
        exact nI_lt (a := 0) (by omega) (by omega)
      · rw [rS5]; exact nI_pos' (by omega)
      · show zLwC (C'.1 13 1) (C'.1 14) (zEx ks)
        rw [c131]
        exact hlw (C'.1 14) (fun i hi => (c14 i hi).trans (ht.2.2.2.1 i hi))
    · obtain ⟨⟨w1, w2⟩, -, w3, w4⟩ := h.2
      have r12 : R'.1 12 = R.1 12 := funext fun k => rcell 12 k (by omega)
      have r13 : R'.1 13 = R.1 13 := funext fun k => rcell 13 k (by omega)
      refine ⟨⟨?_, fun z => ?_⟩, ⟨0, c531, r05, by omega, fun i hi => absurd hi (Nat.not_lt_zero i), fun i hi => absurd hi (Nat.not_lt_zero i)⟩, fun k hk => ?_, fun q hq => ?_⟩
      · rw [co 0 5 (by omega), rcell 0 3 (by omega)]; exact w1
      · rw [co 0 5 (by omega)] at z
        obtain ⟨⟨L2, u1⟩, u2, u3⟩ := w2 z
        have rr2 : R'.1 2 = R.1 2 := funext fun k => rcell 2 k (by omega)
        rw [rr2]
        exact ⟨⟨L2, u1.cg (fun c k z1 z2 => co c k (by omega))⟩, u2.cg (fun c z1 z2 => funext fun k => co c k (by omega)) (fun _ _ => rfl), u3⟩
      · rw [co 64 k (by omega), rcell 5 k (by omega)]; exact w3 k hk
      · rw [co _ 1 (by omega), co _ 2 (by omega), r12, r13, c2, r2]
        exact w4 q hq
