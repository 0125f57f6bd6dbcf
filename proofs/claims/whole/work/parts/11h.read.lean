/-! a reading of a text: findFault and valueFor begin it and go through its sum; the fault at the end of the sum is findFault's alone -/
def f_X4_readAll_28 (a0 : Nat) (s0 : Int32) (mm : zM) : Int32 × zM :=
(let m4 : zM := zpI mm a0 3 s0;
(let x5 : Int32 × zM := g_X4_sum 5 a0 (0 : Int32) m4;
(let x6 : Int32 := (x5.1);
(if (0 : Int32) ≤ ((x5.2).1 a0 4) then
(x6, (x5.2))
else
(if ((x5.2).1 a0 1) ≤ ((x5.2).1 a0 2) then
(x6, (x5.2))
else
(let m9 : zM := zpI (x5.2) a0 4 ((x5.2).1 a0 2);
(x6, m9)))))))
def f_X4_readAll (a0 : Nat) (M : zM) : Int32 × zM :=
(let m1 : zM := zpI M a0 2 (0 : Int32);
(let m2 : zM := zpI m1 a0 4 (-1 : Int32);
(if (m2.1 a0 1) ≤ (0 : Int32) then
f_X4_readAll_28 a0 (-1 : Int32) m2
else
f_X4_readAll_28 a0 (m2.1 (a0 + 1) 0) m2)))
def zRd (t : Nat) (Z : Int32 × zM) : Int32 × zM := if (0 : Int32) ≤ Z.2.1 t 4 then Z else if Z.2.1 t 1 ≤ Z.2.1 t 2 then Z else (Z.1, zpI Z.2 t 4 (Z.2.1 t 2))
theorem rd_fst {t : Nat} {Z : Int32 × zM} : (zRd t Z).1 = Z.1 := by
  unfold zRd
  split
  · rfl
  · split <;> rfl
theorem rd_28 {t : Nat} {s0 : Int32} {A : zM} : f_X4_readAll_28 t s0 A = zRd t (g_X4_sum 5 t 0 (zpI A t 3 s0)) := by
  unfold f_X4_readAll_28 zRd
  simp only []
theorem readAll_rd {t : Nat} {M : zM} : f_X4_readAll t M = zRd t (g_X4_sum 5 t 0 (f_X4_begin t M)) := by
  have ha : f_X4_readAll t M = (if (zpI (zpI M t 2 0) t 4 (-1)).1 t 1 ≤ 0 then f_X4_readAll_28 t (-1) (zpI (zpI M t 2 0) t 4 (-1)) else f_X4_readAll_28 t ((zpI (zpI M t 2 0) t 4 (-1)).1 (t + 1) 0) (zpI (zpI M t 2 0) t 4 (-1))) := rfl
  have hb : f_X4_begin t M = (if (zpI (zpI M t 2 0) t 4 (-1)).1 t 1 ≤ 0 then zpI (zpI (zpI M t 2 0) t 4 (-1)) t 3 (-1) else zpI (zpI (zpI M t 2 0) t 4 (-1)) t 3 ((zpI (zpI M t 2 0) t 4 (-1)).1 (t + 1) 0)) := rfl
  rw [ha, hb, rd_28, rd_28]
  by_cases q : (zpI (zpI M t 2 0) t 4 (-1)).1 t 1 ≤ 0
  · rw [if_pos q, if_pos q]
  · rw [if_neg q, if_neg q]
theorem findFault_eq {t : Nat} {M : zM} : f_X4_findFault t M = ((f_X4_readAll t M).2.1 t 4, (f_X4_readAll t M).2) := by
  rw [readAll_rd]
  unfold f_X4_findFault zRd
  simp only []
  generalize g_X4_sum 5 t 0 (f_X4_begin t M) = Z
  by_cases q : (0 : Int32) ≤ Z.2.1 t 4
  · repeat rw [if_pos q]
  · repeat rw [if_neg q]
    by_cases w : Z.2.1 t 1 ≤ Z.2.1 t 2
    · repeat rw [if_pos w]
    · repeat rw [if_neg w]
theorem valueFor_fst {t it : Nat} {k p s : Int32} {M : zM} : (f_X4_valueFor t it k p s M).1 = (f_X4_readAll t (zpI (zpI (zpI (zpI (zpI (zpI M t 5 s) t 6 ((zpI M t 5 s).1 it 1)) t 7 ((zpI (zpI M t 5 s) t 6 ((zpI M t 5 s).1 it 1)).1 it 2)) t 8 k) t 9 ((zpI (zpI (zpI (zpI M t 5 s) t 6 ((zpI M t 5 s).1 it 1)) t 7 ((zpI (zpI M t 5 s) t 6 ((zpI M t 5 s).1 it 1)).1 it 2)) t 8 k).1 it 4)) t 10 p)).1 := by
  rw [readAll_rd, rd_fst]
  unfold f_X4_valueFor
  simp only []
