/-! the reference reckons its codes on a pile -/
def zPl (f : Nat → Int32) : List Int32 → Prop
  | [] => True
  | x :: st => f st.length = x ∧ zPl f st
theorem zPl.cg {f g : Nat → Int32} : ∀ {st : List Int32}, zPl f st → (∀ i, i < st.length → g i = f i) → zPl g st := by
  intro st
  induction st with
  | nil => intro _ _; trivial
  | cons x st ih =>
    intro h e
    refine ⟨(e st.length (by simp)).trans h.1, ih h.2 (fun i hi => e i (by simp; omega))⟩
theorem zPl.put {M : zM} {st : List Int32} {x : Int32} (h : zPl (M.1 11) st) : zPl ((zpI M 11 st.length x).1 11) (x :: st) := ⟨zpI_at, h.cg (fun i hi => zpI_off (by omega))⟩
/-- the six names, as the reference has them -/
def zeR (b : Nat) (s : Int32) (M : zM) : Nat → Int32 := fun w => match w with
  | 0 => s
  | 1 => zB (M.1 1) b 1
  | 2 => zB (M.1 1) b 2
  | 3 => nI b
  | 4 => zB (M.1 1) b 4
  | _ => M.1 1 2
theorem wr_eq {b : Nat} {s w : Int32} {M : zM} (hb : b < 10) : f_X6_worthOf w (nI b) s M = wrC (zeR b s M) w := by
  unfold f_X6_worthOf wrC
  simp only [rAt1 hb, rAt2 hb, rAt4 hb]
  rfl
theorem zeR_cg {b : Nat} {s : Int32} {M M' : zM} (h : M'.1 1 = M.1 1) : zeR b s M' = zeR b s M := by
  funext w
  unfold zeR
  rw [h]
theorem giv_eq {b c : Nat} {s : Int32} {cs : List Int32} (hb : b < 10) (hc : cs.length = c) (hc60 : c ≤ 60) : ∀ (n k : Nat) (st : List Int32) (v : Int32) (M : zM), k + n = 61 → k ≤ c → st.length ≤ k → M.1 1 5 = nI c → (∀ i, i < c → cs[i]? = some (M.1 1 (14 + i))) → zPl (M.1 11) st → exL (zeR b s M) (cs.drop k) st = some [v] → (f_X6_given_5 (nI b) s n (nI st.length) (nI k) M).1 = v := by
  intro n
  induction n with
  | zero => intro k st v M h1 h2; omega
  | succ n ih =>
    intro k st v M hkn hkc hst h5 hcs hpl hex
    by_cases q : k = c
    · subst q
      rw [List.drop_eq_nil_of_le (by omega)] at hex
      have hst1 : st = [v] := Option.some.inj hex
      subst hst1
      rw [f_X6_given_5, h5, if_pos (Int32.le_refl _)]
      exact hpl.1
    · have hkc2 : k < c := by omega
      have hck := hcs k hkc2
      have hdrop : cs.drop k = M.1 1 (14 + k) :: cs.drop (k + 1) := by
        rw [List.drop_eq_getElem_cons (by omega : k < cs.length)]
        congr 1
        rw [List.getElem?_eq_getElem (by omega)] at hck
        exact Option.some.inj hck
      rw [hdrop] at hex
      have e14 : ((14 : Int32) + nI k).toNatClampNeg = 14 + k := by
        rw [gv_ix (nI_pos' (by omega)) (nI_le (b := 60) (by omega) (by omega)), zcl0 (show k < 1000 by omega)]
      have hl := zcl0 (j := st.length) (by omega)
      rw [f_X6_given_5, h5, if_neg (nI_ge hkc2 (by omega)), e14]
      simp only []
      generalize M.1 1 (14 + k) = C at hex
      have hbd : (exC (zeR b s M) C st).bind (exL (zeR b s M) (cs.drop (k + 1))) = some [v] := hex
      have fin : ∀ (st' : List Int32) (M' : zM), exC (zeR b s M) C st = some st' → st'.length ≤ k + 1 → M'.1 1 = M.1 1 → zPl (M'.1 11) st' → (f_X6_given_5 (nI b) s n (nI st'.length) (nI k + 1) M').1 = v := by
        intro st' M' h1 h2 h3 h4
        rw [h1] at hbd
        have hbd : exL (zeR b s M) (cs.drop (k + 1)) st' = some [v] := hbd
        rw [nI_1]
        exact ih (k + 1) st' v M' (by omega) (by omega) h2 (by rw [h3]; exact h5) (by rw [h3]; exact hcs) h4 (by rw [zeR_cg h3]; exact hbd)
      by_cases q2 : 2000 ≤ C
      · rw [if_pos q2]
        by_cases q4 : C = 2004
        · rw [if_pos q4]
          cases st with
          | nil =>
            exfalso
            have : exC (zeR b s M) C [] = none := by unfold exC; rw [if_pos q2, if_pos q4]
            rw [this] at hbd
            exact absurd hbd (by simp)
          | cons a r =>
            have el : (nI (a :: r).length - 1).toNatClampNeg = r.length := by
              show (nI (r.length + 1) - 1).toNatClampNeg = r.length
              rw [nI_pred, zcl0 (by simp at hst; omega)]
            rw [el, hpl.1]
            have hx : exC (zeR b s M) C (a :: r) = some (-a :: r) := by unfold exC; rw [if_pos q2, if_pos q4]
            exact fin (-a :: r) _ hx (by simp at hst ⊢; omega) (zpI_ne.1 1 (by omega)) (hpl.2.put)
        · rw [if_neg q4]
          cases st with
          | nil =>
            exfalso
            have : exC (zeR b s M) C [] = none := by unfold exC; rw [if_pos q2, if_neg q4]
            rw [this] at hbd
            exact absurd hbd (by simp)
          | cons y r0 =>
            cases r0 with
            | nil =>
              exfalso
              have : exC (zeR b s M) C [y] = none := by unfold exC; rw [if_pos q2, if_neg q4]
              rw [this] at hbd
              exact absurd hbd (by simp)
            | cons a r =>
              have em1 : nI (y :: a :: r).length + -1 = nI (r.length + 1) := pk_m1 (r.length + 1)
              rw [em1, nI_pred, zcl0 (show r.length + 1 < 1000 by simp at hst; omega), zcl0 (show r.length < 1000 by simp at hst; omega)]
              have h1 : M.1 11 (r.length + 1) = y := hpl.1
              have h2 : M.1 11 r.length = a := hpl.2.1
              rw [h1, h2]
              have hx : exC (zeR b s M) C (y :: a :: r) = some (f_X6_done C a y :: r) := by unfold exC; rw [if_pos q2, if_neg q4]
              exact fin (f_X6_done C a y :: r) _ hx (by simp at hst ⊢; omega) (zpI_ne.1 1 (by omega)) (hpl.2.2.put)
      · rw [if_neg q2]
        by_cases q1 : 1000 ≤ C
        · rw [if_pos q1, wr_eq hb, nI_1 st.length, hl]
          have hx : exC (zeR b s M) C st = some (wrC (zeR b s M) (C - 1000) :: st) := by unfold exC; rw [if_neg q2, if_pos q1]
          exact fin (wrC (zeR b s M) (C - 1000) :: st) _ hx (by simp; omega) (zpI_ne.1 1 (by omega)) hpl.put
        · rw [if_neg q1, nI_1 st.length, hl]
          have hx : exC (zeR b s M) C st = some (C :: st) := by unfold exC; rw [if_neg q2, if_neg q1]
          exact fin (C :: st) _ hx (by simp; omega) (zpI_ne.1 1 (by omega)) hpl.put
theorem wrC_cg {e e' : Nat → Int32} {w : Int32} (h : ∀ i, i < 6 → e i = e' i) : wrC e w = wrC e' w := by
  unfold wrC
  rw [h 0 (by omega), h 1 (by omega), h 2 (by omega), h 3 (by omega), h 4 (by omega), h 5 (by omega)]
theorem exL_cg {e e' : Nat → Int32} (h : ∀ i, i < 6 → e i = e' i) : ∀ (cs st : List Int32), exL e cs st = exL e' cs st := by
  have hc : ∀ c st, exC e c st = exC e' c st := by
    intro c st
    unfold exC
    rw [wrC_cg h]
  intro cs
  induction cs with
  | nil => intro st; rfl
  | cons c cs ih =>
    intro st
    show (exC e c st).bind (exL e cs) = (exC e' c st).bind (exL e' cs)
    rw [hc c st]
    cases exC e' c st with
    | none => rfl
    | some x => exact ih x
/-- the six names by number -/
def zeN (s h g k d p : Int32) : Nat → Int32 := fun w => match w with
  | 0 => s
  | 1 => h
  | 2 => g
  | 3 => k
  | 4 => d
  | _ => p
def zEx (ks : List Int32) : zEv := fun s h g k d p => match exL (zeN s h g k d p) ks [] with
  | some (v :: _) => v
  | _ => 0
theorem zEx_of {ks : List Int32} {s h g k d p v : Int32} {e : Nat → Int32} (he : ∀ i, i < 6 → e i = zeN s h g k d p i) (hx : exL e ks [] = some [v]) : zEx ks s h g k d p = v := by
  unfold zEx
  rw [← exL_cg he, hx]
/-- codes that any names go through -/
def zGd (ks : List Int32) : Prop := ∀ e : Nat → Int32, ∃ v, exL e ks [] = some [v]
theorem zLwR_of {S : Nat → Int32} {ks : List Int32} (hg : zGd ks) (hl : ks.length ≤ 60) (h5 : S 5 = nI ks.length) (hS : ∀ i, i < ks.length → ks[i]? = some (S (14 + i))) : zLwR S (zEx ks) := by
  intro b s M hb e5 eS
  obtain ⟨v, hv⟩ := hg (zeR b s M)
  have hx := zEx_of (s := s) (h := zB (M.1 1) b 1) (g := zB (M.1 1) b 2) (k := nI b) (d := zB (M.1 1) b 4) (p := M.1 1 2) (e := zeR b s M) (fun i _ => rfl) hv
  rw [hx]
  exact giv_eq (cs := ks) (c := ks.length) (s := s) hb rfl hl 61 0 [] v M rfl (Nat.zero_le _) (Nat.le_refl 0) (e5.trans h5) (fun i hi => by rw [eS i (by omega)]; exact hS i hi) trivial hv
theorem hg_of {e : Nat → Int32} {c : Nat → Int32} : ∀ (suf : List Int32) (p : Nat) (st r : List Int32), (∀ i, i < suf.length → suf[i]? = some (c (p + i))) → zHg c p = st.length → exL e suf st = some r → ∀ k, p ≤ k → k < p + suf.length → 2000 ≤ c k → (if c k = 2004 then 1 else 2) ≤ zHg c k := by
  intro suf
  induction suf with
  | nil => intro p st r _ _ _ k h1 h2; simp at h2; omega
  | cons x suf ih =>
    intro p st r hs hh hx k h1 h2 h3
    have hx0 : x = c p := by
      have := hs 0 (by simp)
      simpa using this
    have hbd : (exC e x st).bind (exL e suf) = some r := hx
    cases hE : exC e x st with
    | none => rw [hE] at hbd; exact absurd hbd (by simp)
    | some st' =>
      rw [hE] at hbd
      have hbd : exL e suf st' = some r := hbd
      have step : zHg c (p + 1) = st'.length ∧ (2000 ≤ c p → (if c p = 2004 then 1 else 2) ≤ zHg c p) := by
        have hz : zHg c (p + 1) = if c p < 2000 then zHg c p + 1 else if c p = 2004 then zHg c p else zHg c p - 1 := rfl
        rw [hz, ← hx0, hh]
        unfold exC at hE
        by_cases q2 : 2000 ≤ x
        · rw [if_pos q2] at hE
          rw [if_neg (Int32.not_lt.mpr q2)]
          by_cases q4 : x = 2004
          · rw [if_pos q4] at hE
            rw [if_pos q4, if_pos q4]
            cases st with
            | nil => exact absurd hE (by simp)
            | cons a t =>
              have := Option.some.inj hE
              rw [← this]
              simp only [List.length_cons]
              exact ⟨trivial, fun _ => by omega⟩
          · rw [if_neg q4] at hE
            rw [if_neg q4, if_neg q4]
            cases st with
            | nil => exact absurd hE (by simp)
            | cons a t =>
              cases t with
              | nil => exact absurd hE (by simp)
              | cons b u =>
                have := Option.some.inj hE
                rw [← this]
                simp only [List.length_cons]
                exact ⟨by omega, fun _ => by omega⟩
        · rw [if_neg q2] at hE
          rw [if_pos (Int32.not_le.mp q2)]
          refine ⟨?_, fun z => absurd z q2⟩
          split at hE
          · rw [← Option.some.inj hE]; simp
          · rw [← Option.some.inj hE]; simp
      by_cases q : k = p
      · subst q; exact step.2 h3
      · exact ih (p + 1) st' r (fun i hi => by
          have := hs (i + 1) (by simp; omega)
          rw [show p + 1 + i = p + (i + 1) by omega, ← this]
          simp) step.1 hbd k (by omega) (by simp at h2; omega) h3
/-- the law's codes can be reckoned -/
theorem zVal_of {M : zM} {ks : List Int32} (hg : zGd ks) (hl : ks.length ≤ 60) (h5 : M.1 1 5 = nI ks.length) (hS : ∀ i, i < ks.length → ks[i]? = some (M.1 1 (14 + i))) : zVal M := by
  intro k hk hc h2
  obtain ⟨v, hv⟩ := hg (fun _ => 0)
  rw [h5, nI_toInt (by omega)] at hc
  exact hg_of (c := fun i => M.1 1 (14 + i)) ks 0 [] [v] (fun i hi => by rw [Nat.zero_add]; exact hS i hi) rfl hv k (Nat.zero_le k) (by omega) h2
theorem zVal_none {M : zM} (h : M.1 1 5 < 0) : zVal M := by
  intro k hk hc h2
  rw [zf1] at h
  omega
