theorem kq_X5_within : zCalS yX5_within cX5_within 3 (some .boolean) 3 := ⟨kT_X5_within, kC_X5, kD_X5_within, by decide, by decide, by decide +kernel⟩
theorem kq_X5_finding : zCal RX5 yX5_finding cX5_finding 3 (some .int) 1 := ⟨kI_X5_finding, kS_X5_finding, kC_X5, kD_X5_finding, rfl, by decide, by decide, by decide +kernel⟩
theorem kq_X0_begin : zCal RX0 yX0_begin cX0_begin 5 none 4 := ⟨kI_X0_begin, kS_X0_begin, kC_X0, kD_X0_begin, rfl, by decide, by decide, by decide +kernel⟩
theorem kq_X5_block : zCal RX5 yX5_block cX5_block 6 (some .int) 4 := ⟨kI_X5_block, kS_X5_block, kC_X5, kD_X5_block, rfl, by decide, by decide, by decide +kernel⟩
theorem kq_X2_has : zCal RX2 yX2_has cX2_has 2 (some .boolean) 1 := ⟨kI_X2_has, kS_X2_has, kC_X2, kD_X2_has, rfl, by decide, by decide, by decide +kernel⟩
theorem kq_X2_pullOf : zCal RX2 yX2_pullOf cX2_pullOf 6 (some .int) 1 := ⟨kI_X2_pullOf, kS_X2_pullOf, kC_X2, kD_X2_pullOf, rfl, by decide, by decide, by decide +kernel⟩
theorem kq_X0_plainHolds : zCal RX0 yX0_plainHolds cX0_plainHolds 2 (some .int) 1 := ⟨kI_X0_plainHolds, kS_X0_plainHolds, kC_X0, kD_X0_plainHolds, rfl, by decide, by decide, by decide +kernel⟩
theorem kq_X0_rustyHolds : zCal RX0 yX0_rustyHolds cX0_rustyHolds 2 (some .int) 1 := ⟨kI_X0_rustyHolds, kS_X0_rustyHolds, kC_X0, kD_X0_rustyHolds, rfl, by decide, by decide, by decide +kernel⟩
theorem kq_X0_oiledHolds : zCal RX0 yX0_oiledHolds cX0_oiledHolds 2 (some .int) 1 := ⟨kI_X0_oiledHolds, kS_X0_oiledHolds, kC_X0, kD_X0_oiledHolds, rfl, by decide, by decide, by decide +kernel⟩
theorem kq_X4_begin : zCal RX4 yX4_begin cX4_begin 1 none 0 := ⟨kI_X4_begin, kS_X4_begin, kC_X4, kD_X4_begin, rfl, by decide, by decide, by decide +kernel⟩
theorem kq_X4_pass : zCal RX4 yX4_pass cX4_pass 2 none 1 := ⟨kI_X4_pass, kS_X4_pass, kC_X4, kD_X4_pass, rfl, by decide, by decide, by decide +kernel⟩
theorem kq_X4_named : zCal RX4 yX4_named cX4_named 2 (some .int) 1 := ⟨kI_X4_named, kS_X4_named, kC_X4, kD_X4_named, rfl, by decide, by decide, by decide +kernel⟩
theorem kq_X4_isName : zCalS yX4_isName cX4_isName 1 (some .boolean) 1 := ⟨kT_X4_isName, kC_X4, kD_X4_isName, by decide, by decide, by decide +kernel⟩
theorem kq_X4_factor : zCal RX4 yX4_factor cX4_factor 5 (some .int) 1 := ⟨kI_X4_factor, kS_X4_factor, kC_X4, kD_X4_factor, rfl, by decide, by decide, by decide +kernel⟩
theorem kq_X4_product : zCal RX4 yX4_product cX4_product 6 (some .int) 1 := ⟨kI_X4_product, kS_X4_product, kC_X4, kD_X4_product, rfl, by decide, by decide, by decide +kernel⟩
theorem kq_X4_sum : zCal RX4 yX4_sum cX4_sum 6 (some .int) 1 := ⟨kI_X4_sum, kS_X4_sum, kC_X4, kD_X4_sum, rfl, by decide, by decide, by decide +kernel⟩
theorem kq_X4_valueFor : zCal RX4 yX4_valueFor cX4_valueFor 5 (some .int) 4 := ⟨kI_X4_valueFor, kS_X4_valueFor, kC_X4, kD_X4_valueFor, rfl, by decide, by decide, by decide +kernel⟩
theorem kq_X2_holdsOf : zCal RX2 yX2_holdsOf cX2_holdsOf 4 (some .int) 2 := ⟨kI_X2_holdsOf, kS_X2_holdsOf, kC_X2, kD_X2_holdsOf, rfl, by decide, by decide, by decide +kernel⟩
theorem kq_X5_of : zCal RX5 yX5_of cX5_of 4 (some .int) 2 := ⟨kI_X5_of, kS_X5_of, kC_X5, kD_X5_of, rfl, by decide, by decide, by decide +kernel⟩
theorem kq_X5_canBecome : zCalS yX5_canBecome cX5_canBecome 2 (some .boolean) 2 := ⟨kT_X5_canBecome, kC_X5, kD_X5_canBecome, by decide, by decide, by decide +kernel⟩
theorem kq_X5_set : zCal RX5 yX5_set cX5_set 6 (some .int) 3 := ⟨kI_X5_set, kS_X5_set, kC_X5, kD_X5_set, rfl, by decide, by decide, by decide +kernel⟩
theorem kq_X5_isOf : zCalS yX5_isOf cX5_isOf 4 (some .boolean) 2 := ⟨kT_X5_isOf, kC_X5, kD_X5_isOf, by decide, by decide, by decide +kernel⟩
theorem kq_X5_as : zCal RX5 yX5_as cX5_as 4 (some .int) 2 := ⟨kI_X5_as, kS_X5_as, kC_X5, kD_X5_as, rfl, by decide, by decide, by decide +kernel⟩
theorem kq_X5_holds : zCal RX5 yX5_holds cX5_holds 3 (some .int) 2 := ⟨kI_X5_holds, kS_X5_holds, kC_X5, kD_X5_holds, rfl, by decide, by decide, by decide +kernel⟩
theorem kq_X0_rubsBy : zCal RX0 yX0_rubsBy cX0_rubsBy 2 (some .int) 1 := ⟨kI_X0_rubsBy, kS_X0_rubsBy, kC_X0, kD_X0_rubsBy, rfl, by decide, by decide, by decide +kernel⟩
theorem kq_X5_rubs : zCal RX5 yX5_rubs cX5_rubs 3 (some .int) 2 := ⟨kI_X5_rubs, kS_X5_rubs, kC_X5, kD_X5_rubs, rfl, by decide, by decide, by decide +kernel⟩
theorem kq_X5_push : zCal RX5 yX5_push cX5_push 4 (some .int) 2 := ⟨kI_X5_push, kS_X5_push, kC_X5, kD_X5_push, rfl, by decide, by decide, by decide +kernel⟩
theorem kq_X5_oil : zCal RX5 yX5_oil cX5_oil 4 (some .int) 2 := ⟨kI_X5_oil, kS_X5_oil, kC_X5, kD_X5_oil, rfl, by decide, by decide, by decide +kernel⟩
theorem kq_X5_pace : zCal RX5 yX5_pace cX5_pace 3 (some .int) 1 := ⟨kI_X5_pace, kS_X5_pace, kC_X5, kD_X5_pace, rfl, by decide, by decide, by decide +kernel⟩
theorem kq_X0_startTick : zCal RX0 yX0_startTick cX0_startTick 2 none 1 := ⟨kI_X0_startTick, kS_X0_startTick, kC_X0, kD_X0_startTick, rfl, by decide, by decide, by decide +kernel⟩
theorem kq_X0_move : zCal RX0 yX0_move cX0_move 7 none 1 := ⟨kI_X0_move, kS_X0_move, kC_X0, kD_X0_move, rfl, by decide, by decide, by decide +kernel⟩
theorem kq_X2_round : zCal RX2 yX2_round cX2_round 4 (some .boolean) 0 := ⟨kI_X2_round, kS_X2_round, kC_X2, kD_X2_round, rfl, by decide, by decide, by decide +kernel⟩
theorem kq_X0_endTick : zCal RX0 yX0_endTick cX0_endTick 1 none 0 := ⟨kI_X0_endTick, kS_X0_endTick, kC_X0, kD_X0_endTick, rfl, by decide, by decide, by decide +kernel⟩
theorem kq_X2_tick : zCal RX2 yX2_tick cX2_tick 3 none 0 := ⟨kI_X2_tick, kS_X2_tick, kC_X2, kD_X2_tick, rfl, by decide, by decide, by decide +kernel⟩
theorem kq_X1_classOf : zCalS yX1_classOf cX1_classOf 2 (some .int) 1 := ⟨kT_X1_classOf, kC_X1, kD_X1_classOf, by decide, by decide, by decide +kernel⟩
theorem kq_X1_enter : zCal RX1 yX1_enter cX1_enter 2 none 1 := ⟨kI_X1_enter, kS_X1_enter, kC_X1, kD_X1_enter, rfl, by decide, by decide, by decide +kernel⟩
theorem kq_X5_ticks : zCal RX5 yX5_ticks cX5_ticks 3 (some .int) 1 := ⟨kI_X5_ticks, kS_X5_ticks, kC_X5, kD_X5_ticks, rfl, by decide, by decide, by decide +kernel⟩
theorem kq_X5_until : zCal RX5 yX5_until cX5_until 4 (some .int) 2 := ⟨kI_X5_until, kS_X5_until, kC_X5, kD_X5_until, rfl, by decide, by decide, by decide +kernel⟩
theorem kq_J9_floorMod_7cf53 : zCalS yJ9_floorMod_7cf53 cJ9_floorMod_7cf53 3 (some .int) 2 := ⟨kT_J_floorMod, kC_Math, kD_J_floorMod, by decide, by decide, by decide +kernel⟩
theorem kq_X1_slot : zCal RX1 yX1_slot cX1_slot 2 (some .int) 1 := ⟨kI_X1_slot, kS_X1_slot, kC_X1, kD_X1_slot, rfl, by decide, by decide, by decide +kernel⟩
theorem kq_X5_book : zCal RX5 yX5_book cX5_book 3 (some .int) 2 := ⟨kI_X5_book, kS_X5_book, kC_X5, kD_X5_book, rfl, by decide, by decide, by decide +kernel⟩
theorem kq_X5_counts : zCal RX5 yX5_counts cX5_counts 2 (some .int) 1 := ⟨kI_X5_counts, kS_X5_counts, kC_X5, kD_X5_counts, rfl, by decide, by decide, by decide +kernel⟩
theorem kq_X5_power : zCal RX5 yX5_power cX5_power 2 (some .int) 0 := ⟨kI_X5_power, kS_X5_power, kC_X5, kD_X5_power, rfl, by decide, by decide, by decide +kernel⟩
theorem kq_X5_tone : zCal RX5 yX5_tone cX5_tone 3 (some .int) 0 := ⟨kI_X5_tone, kS_X5_tone, kC_X5, kD_X5_tone, rfl, by decide, by decide, by decide +kernel⟩
theorem kq_X5_great : zCal RX5 yX5_great cX5_great 6 (some .int) 2 := ⟨kI_X5_great, kS_X5_great, kC_X5, kD_X5_great, rfl, by decide, by decide, by decide +kernel⟩
theorem kq_X5_noise : zCal RX5 yX5_noise cX5_noise 6 (some .long) 1 := ⟨kI_X5_noise, kS_X5_noise, kC_X5, kD_X5_noise, rfl, by decide, by decide, by decide +kernel⟩
theorem kq_X4_copyFrom : zCal RX4 yX4_copyFrom cX4_copyFrom 2 none 1 := ⟨kI_X4_copyFrom, kS_X4_copyFrom, kC_X4, kD_X4_copyFrom, rfl, by decide, by decide, by decide +kernel⟩
theorem kq_X0_copyFrom : zCal RX0 yX0_copyFrom cX0_copyFrom 2 none 1 := ⟨kI_X0_copyFrom, kS_X0_copyFrom, kC_X0, kD_X0_copyFrom, rfl, by decide, by decide, by decide +kernel⟩
theorem kq_X2_copyFrom : zCal RX2 yX2_copyFrom cX2_copyFrom 3 none 1 := ⟨kI_X2_copyFrom, kS_X2_copyFrom, kC_X2, kD_X2_copyFrom, rfl, by decide, by decide, by decide +kernel⟩
theorem kq_X5_ahead : zCal RX5 yX5_ahead cX5_ahead 7 (some .int) 2 := ⟨kI_X5_ahead, kS_X5_ahead, kC_X5, kD_X5_ahead, rfl, by decide, by decide, by decide +kernel⟩
theorem kq_X5_from : zCal RX5 yX5_from cX5_from 5 (some .int) 1 := ⟨kI_X5_from, kS_X5_from, kC_X5, kD_X5_from, rfl, by decide, by decide, by decide +kernel⟩
theorem kq_X5_still : zCal RX5 yX5_still cX5_still 7 (some .int) 3 := ⟨kI_X5_still, kS_X5_still, kC_X5, kD_X5_still, rfl, by decide, by decide, by decide +kernel⟩
theorem kq_X3_isMissing : zCal RX3 yX3_isMissing cX3_isMissing 1 (some .boolean) 0 := ⟨kI_X3_isMissing, kS_X3_isMissing, kC_X3, kD_X3_isMissing, rfl, by decide, by decide, by decide +kernel⟩
theorem kq_X5_which : zCal RX5 yX5_which cX5_which 8 (some .int) 2 := ⟨kI_X5_which, kS_X5_which, kC_X5, kD_X5_which, rfl, by decide, by decide, by decide +kernel⟩
theorem kq_X5_together : zCal RX5 yX5_together cX5_together 6 (some .int) 3 := ⟨kI_X5_together, kS_X5_together, kC_X5, kD_X5_together, rfl, by decide, by decide, by decide +kernel⟩
theorem kq_X5_feed : zCal RX5 yX5_feed cX5_feed 4 (some .int) 2 := ⟨kI_X5_feed, kS_X5_feed, kC_X5, kD_X5_feed, rfl, by decide, by decide, by decide +kernel⟩
theorem kq_X5_wipe : zCal RX5 yX5_wipe cX5_wipe 2 (some .int) 0 := ⟨kI_X5_wipe, kS_X5_wipe, kC_X5, kD_X5_wipe, rfl, by decide, by decide, by decide +kernel⟩
theorem kq_X4_findFault : zCal RX4 yX4_findFault cX4_findFault 1 (some .int) 0 := ⟨kI_X4_findFault, kS_X4_findFault, kC_X4, kD_X4_findFault, rfl, by decide, by decide, by decide +kernel⟩
theorem kq_X5_law : zCal RX5 yX5_law cX5_law 2 (some .int) 0 := ⟨kI_X5_law, kS_X5_law, kC_X5, kD_X5_law, rfl, by decide, by decide, by decide +kernel⟩
theorem kq_X5_plain : zCal RX5 yX5_plain cX5_plain 2 (some .int) 0 := ⟨kI_X5_plain, kS_X5_plain, kC_X5, kD_X5_plain, rfl, by decide, by decide, by decide +kernel⟩
theorem kq_X5_says : zCal RX5 yX5_says cX5_says 3 (some .int) 1 := ⟨kI_X5_says, kS_X5_says, kC_X5, kD_X5_says, rfl, by decide, by decide, by decide +kernel⟩
theorem kq_X3_begin : zCal RX3 yX3_begin cX3_begin 4 none 2 := ⟨kI_X3_begin, kS_X3_begin, kC_X3, kD_X3_begin, rfl, by decide, by decide, by decide +kernel⟩
theorem kq_X5_sheet : zCal RX5 yX5_sheet cX5_sheet 4 (some .int) 3 := ⟨kI_X5_sheet, kS_X5_sheet, kC_X5, kD_X5_sheet, rfl, by decide, by decide, by decide +kernel⟩
theorem kq_X3_lowestBits : zCal RX3 yX3_lowestBits cX3_lowestBits 3 (some .long) 1 := ⟨kI_X3_lowestBits, kS_X3_lowestBits, kC_X3, kD_X3_lowestBits, rfl, by decide, by decide, by decide +kernel⟩
theorem kq_X5_write : zCal RX5 yX5_write cX5_write 8 (some .long) 3 := ⟨kI_X5_write, kS_X5_write, kC_X5, kD_X5_write, rfl, by decide, by decide, by decide +kernel⟩
theorem kq_X3_hasPart : zCal RX3 yX3_hasPart cX3_hasPart 3 (some .boolean) 2 := ⟨kI_X3_hasPart, kS_X3_hasPart, kC_X3, kD_X3_hasPart, rfl, by decide, by decide, by decide +kernel⟩
theorem kq_X5_copy : zCal RX5 yX5_copy cX5_copy 8 (some .int) 5 := ⟨kI_X5_copy, kS_X5_copy, kC_X5, kD_X5_copy, rfl, by decide, by decide, by decide +kernel⟩
theorem kq_X5_draws : zCal RX5 yX5_draws cX5_draws 8 (some .int) 1 := ⟨kI_X5_draws, kS_X5_draws, kC_X5, kD_X5_draws, rfl, by decide, by decide, by decide +kernel⟩
theorem kq_X5_read : zCal RX5 yX5_read cX5_read 4 (some .int) 1 := ⟨kI_X5_read, kS_X5_read, kC_X5, kD_X5_read, rfl, by decide, by decide, by decide +kernel⟩
theorem kq_X1_copyFrom : zCal RX1 yX1_copyFrom cX1_copyFrom 2 none 1 := ⟨kI_X1_copyFrom, kS_X1_copyFrom, kC_X1, kD_X1_copyFrom, rfl, by decide, by decide, by decide +kernel⟩
theorem kq_X5_image : zCal RX5 yX5_image cX5_image 1 (some .int) 0 := ⟨kI_X5_image, kS_X5_image, kC_X5, kD_X5_image, rfl, by decide, by decide, by decide +kernel⟩
theorem kq_X5_undo : zCal RX5 yX5_undo cX5_undo 1 (some .int) 0 := ⟨kI_X5_undo, kS_X5_undo, kC_X5, kD_X5_undo, rfl, by decide, by decide, by decide +kernel⟩
theorem kq_X5_tear : zCal RX5 yX5_tear cX5_tear 2 (some .int) 0 := ⟨kI_X5_tear, kS_X5_tear, kC_X5, kD_X5_tear, rfl, by decide, by decide, by decide +kernel⟩
theorem kq_X5_count : zCal RX5 yX5_count cX5_count 2 (some .int) 1 := ⟨kI_X5_count, kS_X5_count, kC_X5, kD_X5_count, rfl, by decide, by decide, by decide +kernel⟩
theorem kq_X5_status : zCal RX5 yX5_status cX5_status 4 (some .int) 1 := ⟨kI_X5_status, kS_X5_status, kC_X5, kD_X5_status, rfl, by decide, by decide, by decide +kernel⟩
def f_X5_within (p0 : Int32) (p1 : Int32) (p2 : Int32) : Int32 :=
(if p0 < p1 then
(0 : Int32)
else
(if p2 < p0 then
(0 : Int32)
else
(1 : Int32)))
def f_X5_finding (p1 : Int32) (M : zM) : Int32 × zM :=
(let x1 : Int32 := ((-1000000001 : Int32) - p1);
(let x3 : Int32 := f_X5_within x1 (0 : Int32) (6 : Int32);
(if x3 = (0 : Int32) then
(p1, M)
else
(let m5 : zM := zpI M 64 x1.toNatClampNeg ((M.1 64 x1.toNatClampNeg) + (1 : Int32));
(p1, m5)))))
def f_X0_begin (a0 : Nat) (p1 : Int32) (p2 : Int32) (p3 : Int32) (p4 : Int32) (M : zM) : zM :=
(let m1 : zM := zpI M a0 0 p1;
(let m2 : zM := zpI m1 a0 1 p2;
(let m3 : zM := zpI m2 a0 2 p3;
(let m4 : zM := zpI m3 a0 3 p4;
(let m5 : zM := zpI m4 a0 4 (0 : Int32);
(let m6 : zM := zpI m5 a0 5 (0 : Int32);
(let m7 : zM := zpI m6 a0 6 (0 : Int32);
m7)))))))
def f_X5_block_42 (p1 : Int32) (p2 : Int32) (p3 : Int32) (p4 : Int32) (mm : zM) : Int32 × zM :=
(let x19 : Int32 × zM := f_X5_finding (-1000000001 : Int32) mm;
((x19.1), (x19.2)))
def f_X5_block (p1 : Int32) (p2 : Int32) (p3 : Int32) (p4 : Int32) (M : zM) : Int32 × zM :=
(let x2 : Int32 := f_X5_within p1 (0 : Int32) (5 : Int32);
(if x2 = (0 : Int32) then
f_X5_block_42 p1 p2 p3 p4 M
else
(let x5 : Int32 := f_X5_within p2 (1 : Int32) (999 : Int32);
(if x5 = (0 : Int32) then
f_X5_block_42 p1 p2 p3 p4 M
else
(let x8 : Int32 := f_X5_within p3 (0 : Int32) (999 : Int32);
(if x8 = (0 : Int32) then
f_X5_block_42 p1 p2 p3 p4 M
else
(let x11 : Int32 := f_X5_within p4 (0 : Int32) (99 : Int32);
(if x11 = (0 : Int32) then
f_X5_block_42 p1 p2 p3 p4 M
else
(if (M.1 1 1) < (10 : Int32) then
(let x14 : Int32 := (M.1 1 1);
(let m16 : zM := f_X0_begin (3 + x14.toNatClampNeg) p1 p2 p3 p4 M;
(let m17 : zM := zpI m16 1 1 ((m16.1 1 1) + (1 : Int32));
(x14, m17))))
else
(let x18 : Int32 × zM := f_X5_finding (-1000000002 : Int32) M;
((x18.1), (x18.2))))))))))))
def f_X2_has (a0 : Nat) (p1 : Int32) (M : zM) : Int32 :=
(if p1 < (0 : Int32) then
(0 : Int32)
else
(if (M.1 a0 1) ≤ p1 then
(0 : Int32)
else
(1 : Int32)))
def f_X2_pullOf_29 (a0 : Nat) (p1 : Int32) (M : zM) (c2 : Nat) (s0 : Int32) : Int32 :=
(let x4 : Int32 := ((M.1 c2 3) * (s0 - (M.1 c2 5)));
(if (M.1 a0 1) ≤ (p1 + (1 : Int32)) then
x4
else
(let x7 : Int32 := (x4 - ((M.1 ((a0 + 2) + (p1 + (1 : Int32)).toNatClampNeg) 3) * ((M.1 c2 5) - (M.1 ((a0 + 2) + (p1 + (1 : Int32)).toNatClampNeg) 5))));
x7)))
def f_X2_pullOf (a0 : Nat) (p1 : Int32) (M : zM) : Int32 :=
(if p1 = (0 : Int32) then
f_X2_pullOf_29 a0 p1 M ((a0 + 2) + p1.toNatClampNeg) (M.1 a0 2)
else
f_X2_pullOf_29 a0 p1 M ((a0 + 2) + p1.toNatClampNeg) (M.1 ((a0 + 2) + (p1 - (1 : Int32)).toNatClampNeg) 5))
def f_X0_plainHolds (a0 : Nat) (p1 : Int32) (M : zM) : Int32 :=
(let x1 : Int32 := (p1 / (4 : Int32));
((M.1 a0 1) + (if x1 < (50 : Int32) then x1 else (50 : Int32))))
def f_X0_rustyHolds (a0 : Nat) (p1 : Int32) (M : zM) : Int32 :=
(let x1 : Int32 := f_X0_plainHolds a0 p1 M;
(x1 + p1))
def f_X0_oiledHolds (a0 : Nat) (p1 : Int32) (M : zM) : Int32 :=
(let x1 : Int32 := f_X0_plainHolds a0 p1 M;
(let x2 : Int32 := ((x1 / (2 : Int32)) - (M.1 a0 4));
(if (0 : Int32) < x2 then x2 else (0 : Int32))))
def f_X4_begin (a0 : Nat) (M : zM) : zM :=
(let m1 : zM := zpI M a0 2 (0 : Int32);
(let m2 : zM := zpI m1 a0 4 (-1 : Int32);
(if (m2.1 a0 1) ≤ (0 : Int32) then
(let m4 : zM := zpI m2 a0 3 (-1 : Int32);
m4)
else
(let m5 : zM := zpI m2 a0 3 (m2.1 (a0 + 1) 0);
m5))))
def f_X4_pass_54 (a0 : Nat) (p1 : Int32) (mm : zM) : zM :=
(if (0 : Int32) ≤ (mm.1 a0 4) then
(let m8 : zM := zpI mm a0 3 (-1 : Int32);
m8)
else
(if (mm.1 a0 1) ≤ (mm.1 a0 2) then
(let m10 : zM := zpI mm a0 3 (-1 : Int32);
m10)
else
(let m11 : zM := zpI mm a0 3 (mm.1 (a0 + 1) (mm.1 a0 2).toNatClampNeg);
m11)))
def f_X4_pass_39 (a0 : Nat) (p1 : Int32) (mm : zM) : zM :=
(if (0 : Int32) ≤ (mm.1 a0 4) then
f_X4_pass_54 a0 p1 mm
else
(let m6 : zM := zpI mm a0 4 (mm.1 a0 2);
f_X4_pass_54 a0 p1 m6))
def f_X4_pass (a0 : Nat) (p1 : Int32) (M : zM) : zM :=
(if (0 : Int32) ≤ (M.1 a0 4) then
f_X4_pass_39 a0 p1 M
else
(if (M.1 a0 1) ≤ (M.1 a0 2) then
f_X4_pass_39 a0 p1 M
else
(if (M.1 a0 3) = p1 then
(let m4 : zM := zpI M a0 2 ((M.1 a0 2) + (1 : Int32));
f_X4_pass_54 a0 p1 m4)
else
f_X4_pass_39 a0 p1 M)))
def f_X4_named (a0 : Nat) (p1 : Int32) (M : zM) : Int32 :=
(if p1 = (98 : Int32) then
(M.1 a0 6)
else
(if p1 = (100 : Int32) then
(M.1 a0 9)
else
(if p1 = (103 : Int32) then
(M.1 a0 7)
else
(if p1 = (107 : Int32) then
(M.1 a0 8)
else
(if p1 = (112 : Int32) then
(M.1 a0 10)
else
(if p1 = (115 : Int32) then
(M.1 a0 5)
else
(0 : Int32)))))))
def f_X4_isName (p0 : Int32) : Int32 :=
(if p0 = (115 : Int32) then
(1 : Int32)
else
(if p0 = (98 : Int32) then
(1 : Int32)
else
(if p0 = (103 : Int32) then
(1 : Int32)
else
(if p0 = (107 : Int32) then
(1 : Int32)
else
(if p0 = (100 : Int32) then
(1 : Int32)
else
(if p0 = (112 : Int32) then
(1 : Int32)
else
(0 : Int32)))))))
def f_X4_factor_22 (Fsum Ffac : Nat → Int32 → zM → Int32 × zM) (a0 : Nat) (p1 : Int32) : Nat → Int32 → Int32 → zM → (Int32 × zM)
  | 0, v3, v4, mm => (0, mm)
  | n22 + 1, v3, v4, mm => (if (3 : Int32) ≤ v4 then
(v3, mm)
else
(if (mm.1 a0 3) < (48 : Int32) then
(v3, mm)
else
(if (57 : Int32) < (mm.1 a0 3) then
(v3, mm)
else
(let x14 : Int32 := ((((10 : Int32) * v3) + (mm.1 a0 3)) - (48 : Int32));
(let m15 : zM := f_X4_pass a0 (mm.1 a0 3) mm;
f_X4_factor_22 Fsum Ffac a0 p1 n22 x14 (v4 + (1 : Int32)) m15)))))
def f_X4_factor_172 (Fsum Ffac : Nat → Int32 → zM → Int32 × zM) (a0 : Nat) (p1 : Int32) (v3 : Int32) (s0 : Int32) (mm : zM) : Int32 × zM :=
(let m30 : zM := f_X4_pass a0 s0 mm;
(v3, m30))
def f_X4_factor_158 (Fsum Ffac : Nat → Int32 → zM → Int32 × zM) (a0 : Nat) (p1 : Int32) (v2 : Int32) (v3 : Int32) (mm : zM) : Int32 × zM :=
(if v2 = (91 : Int32) then
f_X4_factor_172 Fsum Ffac a0 p1 v3 (93 : Int32) mm
else
f_X4_factor_172 Fsum Ffac a0 p1 v3 (41 : Int32) mm)
def f_X4_factor_93 (Fsum Ffac : Nat → Int32 → zM → Int32 × zM) (a0 : Nat) (p1 : Int32) (v2 : Int32) (mm : zM) : Int32 × zM :=
(if p1 < (5 : Int32) then
(let m17 : zM := f_X4_pass a0 v2 mm;
(if v2 = (45 : Int32) then
(let x26 : Int32 × zM := Ffac a0 (p1 + (1 : Int32)) m17;
((-(x26.1)), (x26.2)))
else
(let x19 : Int32 × zM := Fsum a0 (p1 + (1 : Int32)) m17;
(let x20 : Int32 := (x19.1);
(if v2 = (91 : Int32) then
(let m22 : zM := f_X4_pass a0 (44 : Int32) (x19.2);
(let x23 : Int32 × zM := Fsum a0 (p1 + (1 : Int32)) m22;
(let x24 : Int32 := (x23.1);
(let x25 : Int32 := (if x20 < x24 then x24 else x20);
f_X4_factor_158 Fsum Ffac a0 p1 v2 x25 (x23.2)))))
else
f_X4_factor_158 Fsum Ffac a0 p1 v2 x20 (x19.2))))))
else
(let m27 : zM := f_X4_pass a0 (-2 : Int32) mm;
((0 : Int32), m27)))
def f_X4_factor_197 (Fsum Ffac : Nat → Int32 → zM → Int32 × zM) (a0 : Nat) (p1 : Int32) (v3 : Int32) (s0 : Int32) (mm : zM) : Int32 × zM :=
(let m28 : zM := f_X4_pass a0 s0 mm;
(v3, m28))
def f_X4_factor_75 (Fsum Ffac : Nat → Int32 → zM → Int32 × zM) (a0 : Nat) (p1 : Int32) (v2 : Int32) (mm : zM) : Int32 × zM :=
(if v2 = (45 : Int32) then
f_X4_factor_93 Fsum Ffac a0 p1 v2 mm
else
(if v2 = (40 : Int32) then
f_X4_factor_93 Fsum Ffac a0 p1 v2 mm
else
(if v2 = (91 : Int32) then
f_X4_factor_93 Fsum Ffac a0 p1 v2 mm
else
(let x7 : Int32 := f_X4_named a0 v2 mm;
(let x9 : Int32 := f_X4_isName v2;
(if x9 = (0 : Int32) then
f_X4_factor_197 Fsum Ffac a0 p1 x7 (-2 : Int32) mm
else
f_X4_factor_197 Fsum Ffac a0 p1 x7 v2 mm))))))
def f_X4_factor (Fsum Ffac : Nat → Int32 → zM → Int32 × zM) (a0 : Nat) (p1 : Int32) (M : zM) : Int32 × zM :=
(let x1 : Int32 := (M.1 a0 3);
(if x1 < (48 : Int32) then
f_X4_factor_75 Fsum Ffac a0 p1 x1 M
else
(if (57 : Int32) < x1 then
f_X4_factor_75 Fsum Ffac a0 p1 x1 M
else
f_X4_factor_22 Fsum Ffac a0 p1 (4) (0 : Int32) (0 : Int32) M)))
def f_X4_product_32 (Ffac : Nat → Int32 → zM → Int32 × zM) (a0 : Nat) (p1 : Int32) (k8 : Int32 → Int32 → zM → (Int32 × zM)) (v2 : Int32) (v3 : Int32) (mm : zM) : Int32 × zM :=
(let x6 : Int32 := (mm.1 a0 3);
(let m7 : zM := f_X4_pass a0 x6 mm;
(let x8 : Int32 × zM := Ffac a0 p1 m7;
(let x9 : Int32 := (x8.1);
(if x6 = (42 : Int32) then
(let x13 : Int32 := (v2 * x9);
k8 x13 (v3 + (1 : Int32)) (x8.2))
else
(if x9 = (0 : Int32) then
k8 (0 : Int32) (v3 + (1 : Int32)) (x8.2)
else
(let x12 : Int32 := (v2 / x9);
k8 x12 (v3 + (1 : Int32)) (x8.2))))))))
def f_X4_product_8 (Ffac : Nat → Int32 → zM → Int32 × zM) (a0 : Nat) (p1 : Int32) : Nat → Int32 → Int32 → zM → (Int32 × zM)
  | 0, v2, v3, mm => (0, mm)
  | n8 + 1, v2, v3, mm => (if (60 : Int32) ≤ v3 then
(v2, mm)
else
(if (mm.1 a0 3) = (42 : Int32) then
f_X4_product_32 Ffac a0 p1 (fun wv2 wv3 wmm => f_X4_product_8 Ffac a0 p1 n8 wv2 wv3 wmm) v2 v3 mm
else
(if (mm.1 a0 3) = (47 : Int32) then
f_X4_product_32 Ffac a0 p1 (fun wv2 wv3 wmm => f_X4_product_8 Ffac a0 p1 n8 wv2 wv3 wmm) v2 v3 mm
else
(v2, mm))))
def f_X4_product (Ffac : Nat → Int32 → zM → Int32 × zM) (a0 : Nat) (p1 : Int32) (M : zM) : Int32 × zM :=
(let x1 : Int32 × zM := Ffac a0 p1 M;
(let x2 : Int32 := (x1.1);
f_X4_product_8 Ffac a0 p1 (61) x2 (0 : Int32) (x1.2)))
def f_X4_sum_32 (Fprod : Nat → Int32 → zM → Int32 × zM) (a0 : Nat) (p1 : Int32) (k8 : Int32 → Int32 → zM → (Int32 × zM)) (v2 : Int32) (v3 : Int32) (mm : zM) : Int32 × zM :=
(let x6 : Int32 := (mm.1 a0 3);
(let m7 : zM := f_X4_pass a0 x6 mm;
(let x8 : Int32 × zM := Fprod a0 p1 m7;
(let x9 : Int32 := (x8.1);
(if x6 = (43 : Int32) then
(let x12 : Int32 := (v2 + x9);
k8 x12 (v3 + (1 : Int32)) (x8.2))
else
(let x11 : Int32 := (v2 - x9);
k8 x11 (v3 + (1 : Int32)) (x8.2)))))))
def f_X4_sum_8 (Fprod : Nat → Int32 → zM → Int32 × zM) (a0 : Nat) (p1 : Int32) : Nat → Int32 → Int32 → zM → (Int32 × zM)
  | 0, v2, v3, mm => (0, mm)
  | n8 + 1, v2, v3, mm => (if (60 : Int32) ≤ v3 then
(v2, mm)
else
(if (mm.1 a0 3) = (43 : Int32) then
f_X4_sum_32 Fprod a0 p1 (fun wv2 wv3 wmm => f_X4_sum_8 Fprod a0 p1 n8 wv2 wv3 wmm) v2 v3 mm
else
(if (mm.1 a0 3) = (45 : Int32) then
f_X4_sum_32 Fprod a0 p1 (fun wv2 wv3 wmm => f_X4_sum_8 Fprod a0 p1 n8 wv2 wv3 wmm) v2 v3 mm
else
(v2, mm))))
def f_X4_sum (Fprod : Nat → Int32 → zM → Int32 × zM) (a0 : Nat) (p1 : Int32) (M : zM) : Int32 × zM :=
(let x1 : Int32 × zM := Fprod a0 p1 M;
(let x2 : Int32 := (x1.1);
f_X4_sum_8 Fprod a0 p1 (61) x2 (0 : Int32) (x1.2)))
def g_X4_fac : Nat → Nat → Int32 → zM → Int32 × zM
  | 0 => f_X4_factor (fun _ _ m => (0, m)) (fun _ _ m => (0, m))
  | d + 1 => f_X4_factor (f_X4_sum (f_X4_product (g_X4_fac d))) (g_X4_fac d)
def g_X4_prod (d : Nat) : Nat → Int32 → zM → Int32 × zM := f_X4_product (g_X4_fac d)
def g_X4_sum (d : Nat) : Nat → Int32 → zM → Int32 × zM := f_X4_sum (g_X4_prod d)

def f_X4_valueFor (a0 : Nat) (a1 : Nat) (p2 : Int32) (p3 : Int32) (p4 : Int32) (M : zM) : Int32 × zM :=
(let m1 : zM := zpI M a0 5 p4;
(let m2 : zM := zpI m1 a0 6 (m1.1 a1 1);
(let m3 : zM := zpI m2 a0 7 (m2.1 a1 2);
(let m4 : zM := zpI m3 a0 8 p2;
(let m5 : zM := zpI m4 a0 9 (m4.1 a1 4);
(let m6 : zM := zpI m5 a0 10 p3;
(let m7 : zM := f_X4_begin a0 m6;
(let x8 : Int32 × zM := g_X4_sum 5 a0 (0 : Int32) m7;
((x8.1), (x8.2))))))))))
def f_X2_holdsOf (a0 : Nat) (p1 : Int32) (p2 : Int32) (M : zM) : Int32 × zM :=
(let x3 : Int32 := (M.1 ((a0 + 2) + p1.toNatClampNeg) 0);
(if x3 = (1 : Int32) then
(let x4 : Int32 := f_X0_rustyHolds ((a0 + 2) + p1.toNatClampNeg) p2 M;
(x4, M))
else
(if x3 = (2 : Int32) then
(let x5 : Int32 := f_X0_oiledHolds ((a0 + 2) + p1.toNatClampNeg) p2 M;
(x5, M))
else
(if x3 = (3 : Int32) then
(if (M.1 (a0 + 12) 1) = (0 : Int32) then
((M.1 ((a0 + 2) + p1.toNatClampNeg) 1), M)
else
(let x7 : Int32 × zM := f_X4_valueFor (a0 + 12) ((a0 + 2) + p1.toNatClampNeg) p1 (M.1 a0 3) p2 M;
(let x8 : Int32 := (x7.1);
(let x9 : Int32 := (if x8 < (9999 : Int32) then x8 else (9999 : Int32));
((if (0 : Int32) < x9 then x9 else (0 : Int32)), (x7.2))))))
else
(if x3 = (4 : Int32) then
(if p2 < (40 : Int32) then
(let x11 : Int32 := f_X0_rustyHolds ((a0 + 2) + p1.toNatClampNeg) p2 M;
(x11, M))
else
(let x12 : Int32 := f_X0_rustyHolds ((a0 + 2) + p1.toNatClampNeg) p2 M;
(((3 : Int32) * x12), M)))
else
(if x3 = (5 : Int32) then
(let x13 : Int32 := f_X0_oiledHolds ((a0 + 2) + p1.toNatClampNeg) p2 M;
(let x14 : Int32 := (x13 - (M.1 ((a0 + 2) + p1.toNatClampNeg) 4));
((if (0 : Int32) < x14 then x14 else (0 : Int32)), M)))
else
(let x15 : Int32 := f_X0_plainHolds ((a0 + 2) + p1.toNatClampNeg) p2 M;
(x15, M))))))))
def f_X5_of (p1 : Int32) (p2 : Int32) (M : zM) : Int32 × zM :=
(let x2 : Int32 := f_X2_has 1 p1 M;
(if x2 = (0 : Int32) then
(let x9 : Int32 × zM := f_X5_finding (-1000000001 : Int32) M;
((x9.1), (x9.2)))
else
(if p2 = (0 : Int32) then
((M.1 (3 + p1.toNatClampNeg) 0), M)
else
(if p2 = (1 : Int32) then
((M.1 (3 + p1.toNatClampNeg) 1), M)
else
(if p2 = (2 : Int32) then
((M.1 (3 + p1.toNatClampNeg) 2), M)
else
(if p2 = (3 : Int32) then
((M.1 (3 + p1.toNatClampNeg) 3), M)
else
(if p2 = (4 : Int32) then
((M.1 (3 + p1.toNatClampNeg) 4), M)
else
(if p2 = (5 : Int32) then
((M.1 (3 + p1.toNatClampNeg) 5), M)
else
(if p2 = (6 : Int32) then
((M.1 (3 + p1.toNatClampNeg) 6), M)
else
(if p2 = (7 : Int32) then
(let x6 : Int32 := f_X2_pullOf 1 p1 M;
(x6, M))
else
(if p2 = (8 : Int32) then
(let x7 : Int32 × zM := f_X2_holdsOf 1 p1 (M.1 (3 + p1.toNatClampNeg) 6) M;
((x7.1), (x7.2)))
else
(let x8 : Int32 × zM := f_X5_finding (-1000000001 : Int32) M;
((x8.1), (x8.2))))))))))))))
def f_X5_canBecome (p0 : Int32) (p1 : Int32) : Int32 :=
(if p0 = (1 : Int32) then
(let x3 : Int32 := f_X5_within p1 (1 : Int32) (999 : Int32);
x3)
else
(if p0 = (2 : Int32) then
(let x5 : Int32 := f_X5_within p1 (0 : Int32) (999 : Int32);
x5)
else
(if p0 = (3 : Int32) then
(let x7 : Int32 := f_X5_within p1 (0 : Int32) (99 : Int32);
x7)
else
(if p0 = (4 : Int32) then
(let x9 : Int32 := f_X5_within p1 (0 : Int32) (99 : Int32);
x9)
else
(0 : Int32)))))
def f_X5_set_19 (p1 : Int32) (p2 : Int32) (p3 : Int32) (mm : zM) : Int32 × zM :=
(let x17 : Int32 × zM := f_X5_finding (-1000000001 : Int32) mm;
((x17.1), (x17.2)))
def f_X5_set (p1 : Int32) (p2 : Int32) (p3 : Int32) (M : zM) : Int32 × zM :=
(let x2 : Int32 := f_X2_has 1 p1 M;
(if x2 = (0 : Int32) then
f_X5_set_19 p1 p2 p3 M
else
(let x5 : Int32 := f_X5_canBecome p2 p3;
(if x5 = (0 : Int32) then
f_X5_set_19 p1 p2 p3 M
else
(if p2 = (1 : Int32) then
(let x9 : Int32 := (M.1 (3 + p1.toNatClampNeg) 1);
(let m10 : zM := zpI M (3 + p1.toNatClampNeg) 1 p3;
(x9, m10)))
else
(if p2 = (2 : Int32) then
(let x11 : Int32 := (M.1 (3 + p1.toNatClampNeg) 2);
(let m12 : zM := zpI M (3 + p1.toNatClampNeg) 2 p3;
(x11, m12)))
else
(if p2 = (3 : Int32) then
(let x13 : Int32 := (M.1 (3 + p1.toNatClampNeg) 3);
(let m14 : zM := zpI M (3 + p1.toNatClampNeg) 3 p3;
(x13, m14)))
else
(let x15 : Int32 := (M.1 (3 + p1.toNatClampNeg) 4);
(let m16 : zM := zpI M (3 + p1.toNatClampNeg) 4 p3;
(x15, m16))))))))))
def f_X5_isOf_4 (p0 : Int32) (p1 : Int32) (M : zM) : Nat → Int32 → Int32 → Int32
  | 0, v2, v3 => 0
  | n4 + 1, v2, v3 => (if (6 : Int32) ≤ v3 then
(0 : Int32)
else
(let x3 : Int32 := f_X5_within v2 (0 : Int32) (5 : Int32);
(if x3 = (0 : Int32) then
(0 : Int32)
else
(if v2 = p1 then
(1 : Int32)
else
(let x7 : Int32 := (zUnI v2.toNatClampNeg);
f_X5_isOf_4 p0 p1 M n4 x7 (v3 + (1 : Int32)))))))
def f_X5_isOf (p0 : Int32) (p1 : Int32) (M : zM) : Int32 :=
f_X5_isOf_4 p0 p1 M (7) p0 (0 : Int32)
def f_X5_as_20 (p1 : Int32) (p2 : Int32) (mm : zM) : Int32 × zM :=
(let x13 : Int32 × zM := f_X5_finding (-1000000001 : Int32) mm;
((x13.1), (x13.2)))
def f_X5_as (p1 : Int32) (p2 : Int32) (M : zM) : Int32 × zM :=
(let x2 : Int32 := f_X2_has 1 p1 M;
(if x2 = (0 : Int32) then
f_X5_as_20 p1 p2 M
else
(let x5 : Int32 := f_X5_within p2 (0 : Int32) (5 : Int32);
(if x5 = (0 : Int32) then
f_X5_as_20 p1 p2 M
else
(let x9 : Int32 := f_X5_isOf (M.1 (3 + p1.toNatClampNeg) 0) p2 M;
(if x9 = (0 : Int32) then
(let x12 : Int32 × zM := f_X5_finding (-1000000003 : Int32) M;
((x12.1), (x12.2)))
else
(let x11 : Int32 × zM := f_X2_holdsOf 1 p1 (M.1 (3 + p1.toNatClampNeg) 6) M;
((x11.1), (x11.2)))))))))
def f_X5_holds_22 (p1 : Int32) (p2 : Int32) (mm : zM) : Int32 × zM :=
(let x8 : Int32 × zM := f_X5_finding (-1000000001 : Int32) mm;
((x8.1), (x8.2)))
def f_X5_holds (p1 : Int32) (p2 : Int32) (M : zM) : Int32 × zM :=
(let x2 : Int32 := f_X2_has 1 p1 M;
(if x2 = (0 : Int32) then
f_X5_holds_22 p1 p2 M
else
(let x5 : Int32 := f_X5_within p2 (0 : Int32) (999 : Int32);
(if x5 = (0 : Int32) then
f_X5_holds_22 p1 p2 M
else
(let x7 : Int32 × zM := f_X2_holdsOf 1 p1 p2 M;
((x7.1), (x7.2)))))))
def f_X0_rubsBy (a0 : Nat) (p1 : Int32) (M : zM) : Int32 :=
(let x2 : Int32 := (M.1 a0 0);
(if x2 = (1 : Int32) then
(M.1 a0 2)
else
(if x2 = (2 : Int32) then
(let x3 : Int32 := (((M.1 a0 2) / (2 : Int32)) + p1);
(if x3 < (999 : Int32) then x3 else (999 : Int32)))
else
(if x2 = (4 : Int32) then
(M.1 a0 2)
else
(if x2 = (5 : Int32) then
(let x4 : Int32 := (((M.1 a0 2) / (2 : Int32)) + p1);
(if x4 < (999 : Int32) then x4 else (999 : Int32)))
else
(let x5 : Int32 := ((M.1 a0 2) - p1);
(if (0 : Int32) < x5 then x5 else (0 : Int32))))))))
def f_X5_rubs_22 (p1 : Int32) (p2 : Int32) (mm : zM) : Int32 × zM :=
(let x9 : Int32 × zM := f_X5_finding (-1000000001 : Int32) mm;
((x9.1), (x9.2)))
def f_X5_rubs (p1 : Int32) (p2 : Int32) (M : zM) : Int32 × zM :=
(let x2 : Int32 := f_X2_has 1 p1 M;
(if x2 = (0 : Int32) then
f_X5_rubs_22 p1 p2 M
else
(let x5 : Int32 := f_X5_within p2 (0 : Int32) (999 : Int32);
(if x5 = (0 : Int32) then
f_X5_rubs_22 p1 p2 M
else
(let x8 : Int32 := f_X0_rubsBy (3 + p1.toNatClampNeg) p2 M;
(x8, M))))))
def f_X5_push_24 (p1 : Int32) (p2 : Int32) (mm : zM) : Int32 × zM :=
(let x10 : Int32 × zM := f_X5_finding (-1000000001 : Int32) mm;
((x10.1), (x10.2)))
def f_X5_push (p1 : Int32) (p2 : Int32) (M : zM) : Int32 × zM :=
(let x2 : Int32 := f_X2_has 1 p1 M;
(if x2 = (0 : Int32) then
f_X5_push_24 p1 p2 M
else
(let x5 : Int32 := f_X5_within p2 (-9999 : Int32) (9999 : Int32);
(if x5 = (0 : Int32) then
f_X5_push_24 p1 p2 M
else
(let m8 : zM := zpI M (3 + p1.toNatClampNeg) 5 ((M.1 (3 + p1.toNatClampNeg) 5) + p2);
(let m9 : zM := zpI m8 (3 + p1.toNatClampNeg) 6 (0 : Int32);
((m9.1 (3 + p1.toNatClampNeg) 5), m9)))))))
def f_X5_oil_21 (p1 : Int32) (p2 : Int32) (mm : zM) : Int32 × zM :=
(let x10 : Int32 × zM := f_X5_finding (-1000000001 : Int32) mm;
((x10.1), (x10.2)))
def f_X5_oil (p1 : Int32) (p2 : Int32) (M : zM) : Int32 × zM :=
(let x2 : Int32 := f_X2_has 1 p1 M;
(if x2 = (0 : Int32) then
f_X5_oil_21 p1 p2 M
else
(let x5 : Int32 := f_X5_within p2 (1 : Int32) (99 : Int32);
(if x5 = (0 : Int32) then
f_X5_oil_21 p1 p2 M
else
(let x8 : Int32 := ((M.1 (3 + p1.toNatClampNeg) 4) + p2);
(let m9 : zM := zpI M (3 + p1.toNatClampNeg) 4 (if x8 < (99 : Int32) then x8 else (99 : Int32));
((m9.1 (3 + p1.toNatClampNeg) 4), m9)))))))
def f_X5_pace (p1 : Int32) (M : zM) : Int32 × zM :=
(let x2 : Int32 := f_X5_within p1 (-99 : Int32) (99 : Int32);
(if x2 = (0 : Int32) then
(let x6 : Int32 × zM := f_X5_finding (-1000000001 : Int32) M;
((x6.1), (x6.2)))
else
(let x4 : Int32 := (M.1 1 3);
(let m5 : zM := zpI M 1 3 p1;
(x4, m5)))))
def f_X0_startTick (a0 : Nat) (p1 : Int32) (M : zM) : zM :=
(let m1 : zM := zpI M a0 7 p1;
(let m2 : zM := zpI m1 a0 9 (0 : Int32);
(let m3 : zM := zpI m2 a0 10 (0 : Int32);
m3)))
def f_X0_move_36 (a0 : Nat) (p1 : Int32) (v2 : Int64) (v4 : Int32) (s0 : Int32) (s1 : Int64) (mm : zM) : zM :=
(if (0 : Int32) < (lg_cmp s1 (s0.toInt64)) then
(let x6 : Int64 := ((v2 - (v4.toInt64)) / ((if (1 : Int32) < p1 then p1 else (1 : Int32)).toInt64));
(let x7 : Int64 := (if x6 < (999 : Int64) then x6 else (999 : Int64));
(let m8 : zM := zpI mm a0 9 ((if x7 < (1 : Int64) then (1 : Int64) else x7).toInt32);
(if (m8.1 a0 8) ≤ (0 : Int32) then
(let m10 : zM := zpI m8 a0 5 ((m8.1 a0 5) + (-(m8.1 a0 9)));
(let m11 : zM := zpI m10 a0 10 (1 : Int32);
m11))
else
(let m12 : zM := zpI m8 a0 5 ((m8.1 a0 5) + (m8.1 a0 9));
(let m13 : zM := zpI m12 a0 10 (1 : Int32);
m13))))))
else
(let m14 : zM := zpI mm a0 9 (0 : Int32);
m14))
def f_X0_move (a0 : Nat) (p1 : Int32) (M : zM) : zM :=
(let x1 : Int64 := ((M.1 a0 8).toInt64);
(let x2 : Int64 := (if 0 < x1 then x1 else -x1);
(let x3 : Int32 := f_X0_rubsBy a0 (M.1 a0 9) M;
(if (M.1 a0 10) = (0 : Int32) then
f_X0_move_36 a0 p1 x2 x3 (M.1 a0 7) x2 M
else
f_X0_move_36 a0 p1 x2 x3 x3 x2 M))))
def f_X2_round_79 (a0 : Nat) (k34 : Int32 → Int32 → zM → (Int32 × zM)) (v1 : Int32) (v2 : Int32) (c3 : Nat) (s0 : Int32) (s1 : Int32) (d2 : Nat) (mm : zM) : Int32 × zM :=
(let m9 : zM := f_X0_move d2 (s1 + s0) mm;
(if (m9.1 c3 9) ≤ (0 : Int32) then
k34 v1 (v2 + (1 : Int32)) m9
else
(let m11 : zM := zpI m9 a0 5 ((m9.1 a0 5) + (1 : Int32));
(let m12 : zM := zpI m11 a0 6 ((m11.1 a0 6) ||| ((1 : Int32) <<< (v2 &&& 31)));
(let m13 : zM := zpI m12 a0 7 ((m12.1 a0 7) + (m12.1 c3 9));
k34 (1 : Int32) (v2 + (1 : Int32)) m13)))))
def f_X2_round_34 (a0 : Nat) : Nat → Int32 → Int32 → zM → (Int32 × zM)
  | 0, v1, v2, mm => (0, mm)
  | n34 + 1, v1, v2, mm => (if (mm.1 a0 1) ≤ v2 then
(v1, mm)
else
(if (mm.1 a0 1) ≤ (v2 + (1 : Int32)) then
f_X2_round_79 a0 (fun wv1 wv2 wmm => f_X2_round_34 a0 n34 wv1 wv2 wmm) v1 v2 ((a0 + 2) + v2.toNatClampNeg) (0 : Int32) (mm.1 ((a0 + 2) + v2.toNatClampNeg) 3) ((a0 + 2) + v2.toNatClampNeg) mm
else
f_X2_round_79 a0 (fun wv1 wv2 wmm => f_X2_round_34 a0 n34 wv1 wv2 wmm) v1 v2 ((a0 + 2) + v2.toNatClampNeg) (mm.1 ((a0 + 2) + (v2 + (1 : Int32)).toNatClampNeg) 3) (mm.1 ((a0 + 2) + v2.toNatClampNeg) 3) ((a0 + 2) + v2.toNatClampNeg) mm))
def f_X2_round_2 (a0 : Nat) : Nat → Int32 → zM → (Int32 × zM)
  | 0, v1, mm => (0, mm)
  | n2 + 1, v1, mm => (if (mm.1 a0 1) ≤ v1 then
f_X2_round_34 a0 (11) (0 : Int32) (0 : Int32) mm
else
(let x3 : Int32 := f_X2_pullOf a0 v1 mm;
(let m4 : zM := zpI mm ((a0 + 2) + v1.toNatClampNeg) 8 x3;
f_X2_round_2 a0 n2 (v1 + (1 : Int32)) m4)))
def f_X2_round (a0 : Nat) (M : zM) : Int32 × zM :=
f_X2_round_2 a0 (11) (0 : Int32) M
def f_X0_endTick (a0 : Nat) (M : zM) : zM :=
(if (M.1 a0 10) = (0 : Int32) then
(let x2 : Int32 := ((M.1 a0 6) + (1 : Int32));
(let m3 : zM := zpI M a0 6 (if x2 < (999 : Int32) then x2 else (999 : Int32));
m3))
else
(let m4 : zM := zpI M a0 6 (0 : Int32);
(let x5 : Int32 := ((m4.1 a0 4) - (1 : Int32));
(let m6 : zM := zpI m4 a0 4 (if (0 : Int32) < x5 then x5 else (0 : Int32));
m6))))
def f_X2_tick_99 (a0 : Nat) : Nat → Int32 → zM → zM
  | 0, v2, mm => mm
  | n99 + 1, v2, mm => (if (mm.1 a0 1) ≤ v2 then
mm
else
(let m18 : zM := f_X0_endTick ((a0 + 2) + v2.toNatClampNeg) mm;
f_X2_tick_99 a0 n99 (v2 + (1 : Int32)) m18))
def f_X2_tick_92 (a0 : Nat) (v1 : Int32) (mm : zM) : zM :=
(let m15 : zM := zpI mm a0 8 v1;
f_X2_tick_99 a0 (11) (0 : Int32) m15)
def f_X2_tick_71 (a0 : Nat) : Nat → Int32 → Int32 → zM → zM
  | 0, v1, v2, mm => mm
  | n71 + 1, v1, v2, mm => (if (40 : Int32) ≤ v2 then
f_X2_tick_92 a0 v1 mm
else
(if v1 = (0 : Int32) then
f_X2_tick_92 a0 v1 mm
else
(let x13 : Int32 × zM := f_X2_round a0 mm;
(let x14 : Int32 := (x13.1);
f_X2_tick_71 a0 n71 x14 (v2 + (1 : Int32)) (x13.2)))))
def f_X2_tick_30 (a0 : Nat) : Nat → Int32 → zM → zM
  | 0, v1, mm => mm
  | n30 + 1, v1, mm => (if (mm.1 a0 1) ≤ v1 then
f_X2_tick_71 a0 (41) (1 : Int32) (0 : Int32) mm
else
(let x8 : Int32 × zM := f_X2_holdsOf a0 v1 (mm.1 ((a0 + 2) + v1.toNatClampNeg) 6) mm;
(let m9 : zM := f_X0_startTick ((a0 + 2) + v1.toNatClampNeg) (x8.1) (x8.2);
f_X2_tick_30 a0 n30 (v1 + (1 : Int32)) m9)))
def f_X2_tick (a0 : Nat) (M : zM) : zM :=
(let m1 : zM := zpI M a0 2 ((M.1 a0 2) + (M.1 a0 3));
(let m2 : zM := zpI m1 a0 5 (0 : Int32);
(let m3 : zM := zpI m2 a0 6 (0 : Int32);
(let m4 : zM := zpI m3 a0 7 (0 : Int32);
f_X2_tick_30 a0 (11) (0 : Int32) m4))))
def f_X1_classOf_2 (p0 : Int32) : Nat → Int32 → Int32
  | 0, v1 => 0
  | n2 + 1, v1 => (if (6 : Int32) ≤ v1 then
v1
else
(if p0 < ((1 : Int32) <<< (v1 &&& 31)) then
v1
else
f_X1_classOf_2 p0 n2 (v1 + (1 : Int32))))
def f_X1_classOf (p0 : Int32) : Int32 :=
f_X1_classOf_2 p0 (7) (0 : Int32)
def f_X1_enter (a0 : Nat) (a1 : Nat) (M : zM) : zM :=
(let m1 : zM := zpI M (a0 + 1) (M.1 a0 5).toNatClampNeg (M.1 a1 5);
(let m2 : zM := zpI m1 (a0 + 2) (m1.1 a0 5).toNatClampNeg (m1.1 a1 6);
(let m3 : zM := zpI m2 (a0 + 3) (m2.1 a0 5).toNatClampNeg (m2.1 a1 7);
(let m4 : zM := zpI m3 a0 5 (((m3.1 a0 5) + (1 : Int32)) - ((m3.1 a0 5) + (1 : Int32)) / (100 : Int32) * (100 : Int32));
(let x5 : Int32 := ((m4.1 a0 4) + (1 : Int32));
(let m6 : zM := zpI m4 a0 4 (if x5 < (100 : Int32) then x5 else (100 : Int32));
(let x7 : Int32 := f_X1_classOf (m6.1 a1 5);
(let m8 : zM := zpI m6 (a0 + 4) x7.toNatClampNeg ((m6.1 (a0 + 4) x7.toNatClampNeg) + (1 : Int32));
(let m9 : zM := zpI m8 a0 6 ((m8.1 a0 6) + (1 : Int32));
(if (m9.1 a1 8) = (0 : Int32) then
(let m11 : zM := zpI m9 a0 7 ((m9.1 a0 7) + (0 : Int32));
m11)
else
(let m12 : zM := zpI m9 a0 7 ((m9.1 a0 7) + (1 : Int32));
m12)))))))))))
def f_X5_ticks_19 (p1 : Int32) : Nat → Int32 → zM → (Int32 × zM)
  | 0, v2, mm => (0, mm)
  | n19 + 1, v2, mm => (if p1 ≤ v2 then
((mm.1 1 5), mm)
else
(let m6 : zM := f_X2_tick 1 mm;
(let m7 : zM := f_X1_enter 43 1 m6;
f_X5_ticks_19 p1 n19 (v2 + (1 : Int32)) m7)))
def f_X5_ticks (p1 : Int32) (M : zM) : Int32 × zM :=
(let x2 : Int32 := f_X5_within p1 (1 : Int32) (100 : Int32);
(if x2 = (0 : Int32) then
(let x4 : Int32 × zM := f_X5_finding (-1000000001 : Int32) M;
((x4.1), (x4.2)))
else
f_X5_ticks_19 p1 (101) (0 : Int32) M))
def f_X5_until_21 (p1 : Int32) (p2 : Int32) (mm : zM) : Int32 × zM :=
(let x7 : Int32 × zM := f_X5_finding (-1000000001 : Int32) mm;
((x7.1), (x7.2)))
def f_X5_until_30 (p1 : Int32) (p2 : Int32) : Nat → Int32 → zM → (Int32 × zM)
  | 0, v3, mm => (0, mm)
  | n30 + 1, v3, mm => (if p2 < v3 then
(p2, mm)
else
(let m9 : zM := f_X2_tick 1 mm;
(let m10 : zM := f_X1_enter 43 1 m9;
(if (m10.1 1 5) < p1 then
f_X5_until_30 p1 p2 n30 (v3 + (1 : Int32)) m10
else
(v3, m10)))))
def f_X5_until (p1 : Int32) (p2 : Int32) (M : zM) : Int32 × zM :=
(let x2 : Int32 := f_X5_within p1 (1 : Int32) (400 : Int32);
(if x2 = (0 : Int32) then
f_X5_until_21 p1 p2 M
else
(let x5 : Int32 := f_X5_within p2 (1 : Int32) (100 : Int32);
(if x5 = (0 : Int32) then
f_X5_until_21 p1 p2 M
else
f_X5_until_30 p1 p2 (102) (1 : Int32) M))))
def f_J9_floorMod_7cf53 (p0 : Int32) (p1 : Int32) : Int32 :=
(let x1 : Int32 := (p0 - p0 / p1 * p1);
(if (0 : Int32) ≤ (p0 ^^^ p1) then
x1
else
(if x1 = (0 : Int32) then
x1
else
(x1 + p1))))
def f_X1_slot (a0 : Nat) (p1 : Int32) (M : zM) : Int32 :=
(let x1 : Int32 := f_J9_floorMod_7cf53 (((M.1 a0 5) - (1 : Int32)) - p1) (100 : Int32);
x1)
def f_X5_book (p1 : Int32) (p2 : Int32) (M : zM) : Int32 × zM :=
(let x2 : Int32 := f_X5_within p1 (0 : Int32) ((M.1 43 4) - (1 : Int32));
(if x2 = (0 : Int32) then
(let x9 : Int32 × zM := f_X5_finding (-1000000001 : Int32) M;
((x9.1), (x9.2)))
else
(if p2 = (0 : Int32) then
(let x5 : Int32 := f_X1_slot 43 p1 M;
((M.1 44 x5.toNatClampNeg), M))
else
(if p2 = (1 : Int32) then
(let x6 : Int32 := f_X1_slot 43 p1 M;
((M.1 45 x6.toNatClampNeg), M))
else
(if p2 = (2 : Int32) then
(let x7 : Int32 := f_X1_slot 43 p1 M;
((M.1 46 x7.toNatClampNeg), M))
else
(let x8 : Int32 × zM := f_X5_finding (-1000000001 : Int32) M;
((x8.1), (x8.2))))))))
def f_X5_counts (p1 : Int32) (M : zM) : Int32 × zM :=
(let x2 : Int32 := f_X5_within p1 (0 : Int32) (6 : Int32);
(if x2 = (0 : Int32) then
(let x4 : Int32 × zM := f_X5_finding (-1000000001 : Int32) M;
((x4.1), (x4.2)))
else
((M.1 47 p1.toNatClampNeg), M)))
def f_X5_power_2 (M : zM) : Nat → Int32 → Int32
  | 0, v1 => 0
  | n2 + 1, v1 => (if (7 : Int32) ≤ v1 then
(1 : Int32)
else
(if (M.1 47 v1.toNatClampNeg) ≤ (M.1 47 (v1 - (1 : Int32)).toNatClampNeg) then
f_X5_power_2 M n2 (v1 + (1 : Int32))
else
(0 : Int32)))
def f_X5_power (M : zM) : Int32 :=
f_X5_power_2 M (8) (2 : Int32)
def f_X5_tone_4 : Nat → Int32 → Int32 → zM → (Int32 × zM)
  | 0, v1, v2, mm => (0, mm)
  | n4 + 1, v1, v2, mm => (if (mm.1 43 4) ≤ v2 then
(let x2 : Int32 × zM := f_X5_finding (-1000000004 : Int32) mm;
((x2.1), (x2.2)))
else
(let x3 : Int32 := f_X1_slot 43 v2 mm;
(if (mm.1 44 x3.toNatClampNeg) ≤ (0 : Int32) then
f_X5_tone_4 n4 v1 (v2 + (1 : Int32)) mm
else
(if v1 < (0 : Int32) then
f_X5_tone_4 n4 v2 (v2 + (1 : Int32)) mm
else
((v2 - v1), mm)))))
def f_X5_tone (M : zM) : Int32 × zM :=
f_X5_tone_4 (101) (-1 : Int32) (0 : Int32) M
def f_X5_great_20 (p1 : Int32) (p2 : Int32) (mm : zM) : Int32 × zM :=
(let x7 : Int32 × zM := f_X5_finding (-1000000001 : Int32) mm;
((x7.1), (x7.2)))
def f_X5_great_35 (p1 : Int32) (p2 : Int32) : Nat → Int32 → Int32 → Int32 → zM → (Int32 × zM)
  | 0, v3, v4, v5, mm => (0, mm)
  | n35 + 1, v3, v4, v5, mm => (if (mm.1 43 4) ≤ v5 then
(if p2 = (0 : Int32) then
(v3, mm)
else
(v4, mm))
else
(let x10 : Int32 := f_X1_slot 43 v5 mm;
(if (mm.1 44 x10.toNatClampNeg) < p1 then
f_X5_great_35 p1 p2 n35 v3 v4 (v5 + (1 : Int32)) mm
else
(if (mm.1 43 4) ≤ (v5 + (1 : Int32)) then
f_X5_great_35 p1 p2 n35 (v3 + (1 : Int32)) v4 (v5 + (1 : Int32)) mm
else
(let x13 : Int32 := f_X1_slot 43 (v5 + (1 : Int32)) mm;
(if (mm.1 44 x13.toNatClampNeg) ≤ (0 : Int32) then
f_X5_great_35 p1 p2 n35 (v3 + (1 : Int32)) v4 (v5 + (1 : Int32)) mm
else
f_X5_great_35 p1 p2 n35 (v3 + (1 : Int32)) (v4 + (1 : Int32)) (v5 + (1 : Int32)) mm))))))
def f_X5_great (p1 : Int32) (p2 : Int32) (M : zM) : Int32 × zM :=
(let x2 : Int32 := f_X5_within p1 (1 : Int32) (400 : Int32);
(if x2 = (0 : Int32) then
f_X5_great_20 p1 p2 M
else
(let x5 : Int32 := f_X5_within p2 (0 : Int32) (1 : Int32);
(if x5 = (0 : Int32) then
f_X5_great_20 p1 p2 M
else
f_X5_great_35 p1 p2 (101) (0 : Int32) (0 : Int32) (0 : Int32) M))))
def f_X5_noise_24 (p1 : Int32) : Nat → Int64 → Int32 → zM → (Int64 × zM)
  | 0, v2, v4, mm => (0, mm)
  | n24 + 1, v2, v4, mm => (if (mm.1 43 4) ≤ v4 then
(v2, mm)
else
(let x6 : Int32 := f_X1_slot 43 v4 mm;
(if (((mm.1 45 x6.toNatClampNeg) >>> (p1 &&& 31)) &&& (1 : Int32)) = (1 : Int32) then
(let x8 : Int64 := (v2 + ((mm.1 46 x6.toNatClampNeg).toInt64));
f_X5_noise_24 p1 n24 x8 (v4 + (1 : Int32)) mm)
else
f_X5_noise_24 p1 n24 v2 (v4 + (1 : Int32)) mm)))
def f_X5_noise (p1 : Int32) (M : zM) : Int64 × zM :=
(let x2 : Int32 := f_X2_has 1 p1 M;
(if x2 = (0 : Int32) then
(let x4 : Int32 × zM := f_X5_finding (-1000000001 : Int32) M;
(((x4.1).toInt64), (x4.2)))
else
f_X5_noise_24 p1 (101) (0 : Int64) (0 : Int32) M))
def f_X4_copyFrom (a0 : Nat) (a1 : Nat) (M : zM) : zM :=
(let m1 : zM := zpI M a0 1 (M.1 a1 1);
(let m2 : zM := zrI m1 (a0 + 1) (va_cpy (m1.1 (a1 + 1)) (m1.1 (a0 + 1)) (0 : Int32).toNatClampNeg (0 : Int32).toNatClampNeg (m1.1 a0 1).toNatClampNeg);
m2))
def f_X0_copyFrom (a0 : Nat) (a1 : Nat) (M : zM) : zM :=
(let m1 : zM := zpI M a0 0 (M.1 a1 0);
(let m2 : zM := zpI m1 a0 1 (m1.1 a1 1);
(let m3 : zM := zpI m2 a0 2 (m2.1 a1 2);
(let m4 : zM := zpI m3 a0 3 (m3.1 a1 3);
(let m5 : zM := zpI m4 a0 4 (m4.1 a1 4);
(let m6 : zM := zpI m5 a0 5 (m5.1 a1 5);
(let m7 : zM := zpI m6 a0 6 (m6.1 a1 6);
m7)))))))
def f_X2_copyFrom_37 (a0 : Nat) (a1 : Nat) : Nat → Int32 → zM → zM
  | 0, v2, mm => mm
  | n37 + 1, v2, mm => (if (mm.1 a0 1) ≤ v2 then
mm
else
(let m8 : zM := f_X0_copyFrom ((a0 + 2) + v2.toNatClampNeg) ((a1 + 2) + v2.toNatClampNeg) mm;
f_X2_copyFrom_37 a0 a1 n37 (v2 + (1 : Int32)) m8))
def f_X2_copyFrom (a0 : Nat) (a1 : Nat) (M : zM) : zM :=
(let m1 : zM := zpI M a0 1 (M.1 a1 1);
(let m2 : zM := zpI m1 a0 2 (m1.1 a1 2);
(let m3 : zM := zpI m2 a0 3 (m2.1 a1 3);
(let m4 : zM := f_X4_copyFrom (a0 + 12) (a1 + 12) m3;
f_X2_copyFrom_37 a0 a1 (11) (0 : Int32) m4))))
def f_X5_ahead_27 (p1 : Int32) (p2 : Int32) (mm : zM) : Int32 × zM :=
(let x8 : Int32 × zM := f_X5_finding (-1000000001 : Int32) mm;
((x8.1), (x8.2)))
def f_X5_ahead_85 (p1 : Int32) (p2 : Int32) (k56 : Int32 → Int32 → Int32 → Int32 → zM → (Int32 × zM)) (v4 : Int32) (v5 : Int32) (v6 : Int32) (s0 : Int32) (s1 : Int32) (mm : zM) : Int32 × zM :=
(let x15 : Int32 := (s1 + s0);
(let x16 : Int32 := (mm.1 29 5);
(let x17 : Int32 := (if v4 < x16 then x16 else v4);
(let x18 : Int32 := (v5 + (mm.1 29 7));
k56 x15 x17 x18 (v6 + (1 : Int32)) mm))))
def f_X5_ahead_56 (p1 : Int32) (p2 : Int32) : Nat → Int32 → Int32 → Int32 → Int32 → zM → (Int32 × zM)
  | 0, v3, v4, v5, v6, mm => (0, mm)
  | n56 + 1, v3, v4, v5, v6, mm => (if p1 ≤ v6 then
(if p2 = (0 : Int32) then
(v3, mm)
else
(if p2 = (1 : Int32) then
(if v3 = p1 then
((1 : Int32), mm)
else
((0 : Int32), mm))
else
(if p2 = (2 : Int32) then
(v4, mm)
else
(if p2 = (3 : Int32) then
(v5, mm)
else
((mm.1 (31 + (p2 - (4 : Int32)).toNatClampNeg) 5), mm)))))
else
(let m13 : zM := f_X2_tick 29 mm;
(if (m13.1 29 5) ≤ (0 : Int32) then
f_X5_ahead_85 p1 p2 (fun wv3 wv4 wv5 wv6 wmm => f_X5_ahead_56 p1 p2 n56 wv3 wv4 wv5 wv6 wmm) v4 v5 v6 (0 : Int32) v3 m13
else
f_X5_ahead_85 p1 p2 (fun wv3 wv4 wv5 wv6 wmm => f_X5_ahead_56 p1 p2 n56 wv3 wv4 wv5 wv6 wmm) v4 v5 v6 (1 : Int32) v3 m13)))
def f_X5_ahead (p1 : Int32) (p2 : Int32) (M : zM) : Int32 × zM :=
(let x2 : Int32 := f_X5_within p1 (1 : Int32) (60 : Int32);
(if x2 = (0 : Int32) then
f_X5_ahead_27 p1 p2 M
else
(let x5 : Int32 := f_X5_within p2 (0 : Int32) ((3 : Int32) + (M.1 1 1));
(if x5 = (0 : Int32) then
f_X5_ahead_27 p1 p2 M
else
(let m7 : zM := f_X2_copyFrom 29 1 M;
f_X5_ahead_56 p1 p2 (61) (0 : Int32) (0 : Int32) (0 : Int32) (0 : Int32) m7)))))
def f_X5_from_88 (p1 : Int32) (k19 : Int32 → zM → (Int32 × zM)) (v2 : Int32) (v3 : Int32) (mm : zM) : Int32 × zM :=
(if v3 = (0 : Int32) then
k19 (v2 + (1 : Int32)) mm
else
(v2, mm))
def f_X5_from_49 (p1 : Int32) (k19 : Int32 → zM → (Int32 × zM)) : Nat → Int32 → Int32 → Int32 → zM → (Int32 × zM)
  | 0, v2, v3, v4, mm => (0, mm)
  | n49 + 1, v2, v3, v4, mm => (if p1 ≤ v4 then
f_X5_from_88 p1 k19 v2 v3 mm
else
(if v3 = (0 : Int32) then
f_X5_from_88 p1 k19 v2 v3 mm
else
(let m11 : zM := f_X2_tick 29 mm;
(if (m11.1 29 5) ≤ (0 : Int32) then
f_X5_from_49 p1 k19 n49 v2 (0 : Int32) (v4 + (1 : Int32)) m11
else
f_X5_from_49 p1 k19 n49 v2 (1 : Int32) (v4 + (1 : Int32)) m11))))
def f_X5_from_19 (p1 : Int32) : Nat → Int32 → zM → (Int32 × zM)
  | 0, v2, mm => (0, mm)
  | n19 + 1, v2, mm => (if (99 : Int32) < v2 then
(let x6 : Int32 × zM := f_X5_finding (-1000000004 : Int32) mm;
((x6.1), (x6.2)))
else
(let m7 : zM := f_X2_copyFrom 29 1 mm;
(let m8 : zM := zpI m7 29 3 v2;
f_X5_from_49 p1 (fun wv2 wmm => f_X5_from_19 p1 n19 wv2 wmm) (61) v2 (1 : Int32) (0 : Int32) m8)))
def f_X5_from (p1 : Int32) (M : zM) : Int32 × zM :=
(let x2 : Int32 := f_X5_within p1 (1 : Int32) (60 : Int32);
(if x2 = (0 : Int32) then
(let x4 : Int32 × zM := f_X5_finding (-1000000001 : Int32) M;
((x4.1), (x4.2)))
else
f_X5_from_19 p1 (101) (0 : Int32) M))
def f_X5_still_32 (p1 : Int32) (p2 : Int32) (p3 : Int32) (mm : zM) : Int32 × zM :=
(let x10 : Int32 × zM := f_X5_finding (-1000000001 : Int32) mm;
((x10.1), (x10.2)))
def f_X5_still_122 (p1 : Int32) (p2 : Int32) (p3 : Int32) (k42 : Int32 → zM → (Int32 × zM)) (v4 : Int32) (v5 : Int32) (mm : zM) : Int32 × zM :=
(if v5 = (0 : Int32) then
k42 (v4 + (1 : Int32)) mm
else
(v4, mm))
def f_X5_still_80 (p1 : Int32) (p2 : Int32) (p3 : Int32) (k42 : Int32 → zM → (Int32 × zM)) : Nat → Int32 → Int32 → Int32 → zM → (Int32 × zM)
  | 0, v4, v5, v6, mm => (0, mm)
  | n80 + 1, v4, v5, v6, mm => (if p2 ≤ v6 then
f_X5_still_122 p1 p2 p3 k42 v4 v5 mm
else
(if v5 = (0 : Int32) then
f_X5_still_122 p1 p2 p3 k42 v4 v5 mm
else
(let m18 : zM := f_X2_tick 29 mm;
(if p3 < (m18.1 29 5) then
f_X5_still_80 p1 p2 p3 k42 n80 v4 (0 : Int32) (v6 + (1 : Int32)) m18
else
f_X5_still_80 p1 p2 p3 k42 n80 v4 (1 : Int32) (v6 + (1 : Int32)) m18))))
def f_X5_still_42 (p1 : Int32) (p2 : Int32) (p3 : Int32) : Nat → Int32 → zM → (Int32 × zM)
  | 0, v4, mm => (0, mm)
  | n42 + 1, v4, mm => (if (99 : Int32) < v4 then
(let x12 : Int32 × zM := f_X5_finding (-1000000004 : Int32) mm;
((x12.1), (x12.2)))
else
(let m13 : zM := f_X2_copyFrom 29 1 mm;
(let m15 : zM := zpI m13 (31 + p1.toNatClampNeg) 4 v4;
f_X5_still_80 p1 p2 p3 (fun wv4 wmm => f_X5_still_42 p1 p2 p3 n42 wv4 wmm) (61) v4 (1 : Int32) (0 : Int32) m15)))
def f_X5_still (p1 : Int32) (p2 : Int32) (p3 : Int32) (M : zM) : Int32 × zM :=
(let x2 : Int32 := f_X2_has 1 p1 M;
(if x2 = (0 : Int32) then
f_X5_still_32 p1 p2 p3 M
else
(let x5 : Int32 := f_X5_within p2 (1 : Int32) (60 : Int32);
(if x5 = (0 : Int32) then
f_X5_still_32 p1 p2 p3 M
else
(let x8 : Int32 := f_X5_within p3 (0 : Int32) (400 : Int32);
(if x8 = (0 : Int32) then
f_X5_still_32 p1 p2 p3 M
else
f_X5_still_42 p1 p2 p3 (101) (0 : Int32) M))))))
def f_X3_isMissing (a0 : Nat) (M : zM) : Int32 :=
(if (M.1 a0 1) = (0 : Int32) then
(1 : Int32)
else
(0 : Int32))
def f_X5_which_20 (p1 : Int32) (p2 : Int32) (mm : zM) : Int32 × zM :=
(let x14 : Int32 × zM := f_X5_finding (-1000000001 : Int32) mm;
((x14.1), (x14.2)))
def f_X5_which_159 (p1 : Int32) (p2 : Int32) (k68 : Nat → Int32 → Int32 → zM → (Int32 × zM)) (c3 : Nat) (v4 : Int32) (v5 : Int32) (v6 : Int32) (mm : zM) : Int32 × zM :=
(if v6 = (0 : Int32) then
(let x24 : Int32 := (v4 ||| (0 : Int32));
k68 c3 x24 (v5 + (1 : Int32)) mm)
else
(let x25 : Int32 := (v4 ||| ((1 : Int32) <<< (v5 &&& 31)));
k68 c3 x25 (v5 + (1 : Int32)) mm))
def f_X5_which_106 (p1 : Int32) (p2 : Int32) (k68 : Nat → Int32 → Int32 → zM → (Int32 × zM)) : Nat → Nat → Int32 → Int32 → Int32 → Int32 → zM → (Int32 × zM)
  | 0, c3, v4, v5, v6, v7, mm => (0, mm)
  | n106 + 1, c3, v4, v5, v6, v7, mm => (if (mm.1 c3 2) ≤ v7 then
f_X5_which_159 p1 p2 k68 c3 v4 v5 v6 mm
else
(if v6 = (0 : Int32) then
f_X5_which_159 p1 p2 k68 c3 v4 v5 v6 mm
else
(let m21 : zM := f_X2_tick 29 mm;
(if (lg_cmp ((m21.1 29 5).toInt64) (m21.2 (c3 + 1) v7.toNatClampNeg)) = (0 : Int32) then
f_X5_which_106 p1 p2 k68 n106 c3 v4 v5 (1 : Int32) (v7 + (1 : Int32)) m21
else
f_X5_which_106 p1 p2 k68 n106 c3 v4 v5 (0 : Int32) (v7 + (1 : Int32)) m21))))
def f_X5_which_68 (p1 : Int32) (p2 : Int32) : Nat → Nat → Int32 → Int32 → zM → (Int32 × zM)
  | 0, c3, v4, v5, mm => (0, mm)
  | n68 + 1, c3, v4, v5, mm => (if (6 : Int32) ≤ v5 then
(v4, mm)
else
(let m16 : zM := f_X2_copyFrom 29 1 mm;
(let m18 : zM := zpI m16 (31 + p1.toNatClampNeg) 0 v5;
f_X5_which_106 p1 p2 (fun wc3 wv4 wv5 wmm => f_X5_which_68 p1 p2 n68 wc3 wv4 wv5 wmm) (41) c3 v4 v5 (1 : Int32) (0 : Int32) m18)))
def f_X5_which (p1 : Int32) (p2 : Int32) (M : zM) : Int32 × zM :=
(let x2 : Int32 := f_X2_has 1 p1 M;
(if x2 = (0 : Int32) then
f_X5_which_20 p1 p2 M
else
(let x5 : Int32 := f_X5_within p2 (0 : Int32) (3 : Int32);
(if x5 = (0 : Int32) then
f_X5_which_20 p1 p2 M
else
(let x9 : Int32 := f_X3_isMissing (56 + 2 * p2.toNatClampNeg) M;
(if x9 = (0 : Int32) then
(if (M.1 (56 + 2 * p2.toNatClampNeg) 2) = (0 : Int32) then
(let x12 : Int32 × zM := f_X5_finding (-1000000007 : Int32) M;
((x12.1), (x12.2)))
else
f_X5_which_68 p1 p2 (7) (56 + 2 * p2.toNatClampNeg) (0 : Int32) (0 : Int32) M)
else
(let x13 : Int32 × zM := f_X5_finding (-1000000006 : Int32) M;
((x13.1), (x13.2)))))))))
def f_X5_together_37 (p1 : Int32) (p2 : Int32) (p3 : Int32) (mm : zM) : Int32 × zM :=
(let x12 : Int32 × zM := f_X5_finding (-1000000001 : Int32) mm;
((x12.1), (x12.2)))
def f_X5_together_61 (p1 : Int32) (p2 : Int32) (p3 : Int32) : Nat → Int32 → Int32 → zM → (Int32 × zM)
  | 0, v4, v5, mm => (0, mm)
  | n61 + 1, v4, v5, mm => (if p3 ≤ v5 then
(v4, mm)
else
(let m14 : zM := f_X2_tick 29 mm;
(let x15 : Int32 := (v4 + ((((m14.1 29 6) >>> (p1 &&& 31)) &&& ((m14.1 29 6) >>> (p2 &&& 31))) &&& (1 : Int32)));
f_X5_together_61 p1 p2 p3 n61 x15 (v5 + (1 : Int32)) m14)))
def f_X5_together (p1 : Int32) (p2 : Int32) (p3 : Int32) (M : zM) : Int32 × zM :=
(let x2 : Int32 := f_X2_has 1 p1 M;
(if x2 = (0 : Int32) then
f_X5_together_37 p1 p2 p3 M
else
(let x5 : Int32 := f_X2_has 1 p2 M;
(if x5 = (0 : Int32) then
f_X5_together_37 p1 p2 p3 M
else
(if p1 = p2 then
f_X5_together_37 p1 p2 p3 M
else
(let x9 : Int32 := f_X5_within p3 (1 : Int32) (60 : Int32);
(if x9 = (0 : Int32) then
f_X5_together_37 p1 p2 p3 M
else
(let m11 : zM := f_X2_copyFrom 29 1 M;
f_X5_together_61 p1 p2 p3 (61) (0 : Int32) (0 : Int32) m11))))))))
def f_X5_feed_41 (p1 : Int32) (p2 : Int32) : Nat → Int32 → zM → (Int32 × zM)
  | 0, v3, mm => (0, mm)
  | n41 + 1, v3, mm => (if v3 < (0 : Int32) then
((mm.1 53 1), mm)
else
(let m9 : zM := zpI mm 54 (mm.1 53 1).toNatClampNeg (((p1.toUInt32 >>> (((8 : Int32) * v3).toUInt32 &&& Int32.toUInt32 31)).toInt32) &&& (255 : Int32));
(let m10 : zM := zpI m9 53 1 ((m9.1 53 1) + (1 : Int32));
f_X5_feed_41 p1 p2 n41 (v3 + (-1 : Int32)) m10)))
def f_X5_feed (p1 : Int32) (p2 : Int32) (M : zM) : Int32 × zM :=
(let x2 : Int32 := f_X5_within p2 (1 : Int32) (4 : Int32);
(if x2 = (0 : Int32) then
(let x7 : Int32 × zM := f_X5_finding (-1000000001 : Int32) M;
((x7.1), (x7.2)))
else
(if ((M.1 53 1) + p2) ≤ (60 : Int32) then
(let x5 : Int32 := (p2 - (1 : Int32));
f_X5_feed_41 p1 p2 (5) x5 M)
else
(let x6 : Int32 × zM := f_X5_finding (-1000000002 : Int32) M;
((x6.1), (x6.2))))))
def f_X5_wipe (M : zM) : Int32 × zM :=
(let x1 : Int32 := (M.1 53 1);
(let m2 : zM := zpI M 53 1 (0 : Int32);
(x1, m2)))
def f_X4_findFault (a0 : Nat) (M : zM) : Int32 × zM :=
(let m1 : zM := f_X4_begin a0 M;
(let x2 : Int32 × zM := g_X4_sum 5 a0 (0 : Int32) m1;
(if (0 : Int32) ≤ ((x2.2).1 a0 4) then
(((x2.2).1 a0 4), (x2.2))
else
(if ((x2.2).1 a0 1) ≤ ((x2.2).1 a0 2) then
(((x2.2).1 a0 4), (x2.2))
else
(let m5 : zM := zpI (x2.2) a0 4 ((x2.2).1 a0 2);
((m5.1 a0 4), m5))))))
def f_X5_law (M : zM) : Int32 × zM :=
(let x1 : Int32 × zM := f_X4_findFault 53 M;
(let x2 : Int32 := (x1.1);
(if x2 < (0 : Int32) then
(let m4 : zM := f_X4_copyFrom 13 53 (x1.2);
(let m5 : zM := zpI m4 53 1 (0 : Int32);
((0 : Int32), m5)))
else
(((-1 : Int32) - x2), (x1.2)))))
def f_X5_plain (M : zM) : Int32 × zM :=
(if (M.1 13 1) ≤ (0 : Int32) then
(let m2 : zM := zpI M 13 1 (0 : Int32);
((0 : Int32), m2))
else
(let m3 : zM := zpI M 13 1 (0 : Int32);
((1 : Int32), m3)))
def f_X5_says (p1 : Int32) (M : zM) : Int32 × zM :=
(let x2 : Int32 := f_X2_has 1 p1 M;
(if x2 = (0 : Int32) then
(let x8 : Int32 × zM := f_X5_finding (-1000000001 : Int32) M;
((x8.1), (x8.2)))
else
(if (M.1 13 1) = (0 : Int32) then
(let x7 : Int32 × zM := f_X5_finding (-1000000004 : Int32) M;
((x7.1), (x7.2)))
else
(let x6 : Int32 × zM := f_X4_valueFor 13 (3 + p1.toNatClampNeg) p1 (M.1 1 3) (M.1 (3 + p1.toNatClampNeg) 6) M;
((x6.1), (x6.2))))))
def f_X3_begin_20 (a0 : Nat) (p1 : Int32) (p2 : Int32) : Nat → Int32 → zM → zM
  | 0, v3, mm => mm
  | n20 + 1, v3, mm => (if (40 : Int32) ≤ v3 then
mm
else
(let m5 : zM := zpL mm (a0 + 1) v3.toNatClampNeg (0 : Int64);
f_X3_begin_20 a0 p1 p2 n20 (v3 + (1 : Int32)) m5))
def f_X3_begin_15 (a0 : Nat) (p1 : Int32) (p2 : Int32) (s0 : Int32) (mm : zM) : zM :=
(let m3 : zM := zpI mm a0 2 s0;
f_X3_begin_20 a0 p1 p2 (41) (0 : Int32) m3)
def f_X3_begin (a0 : Nat) (p1 : Int32) (p2 : Int32) (M : zM) : zM :=
(let m1 : zM := zpI M a0 1 p1;
(if p1 = (0 : Int32) then
f_X3_begin_15 a0 p1 p2 (0 : Int32) m1
else
f_X3_begin_15 a0 p1 p2 p2 m1))
def f_X5_sheet_31 (p1 : Int32) (p2 : Int32) (p3 : Int32) (mm : zM) : Int32 × zM :=
(let x8 : Int32 × zM := f_X5_finding (-1000000001 : Int32) mm;
((x8.1), (x8.2)))
def f_X5_sheet_38 (p1 : Int32) (p2 : Int32) (p3 : Int32) (mm : zM) : Int32 × zM :=
(if (0 : Int32) ≤ p3 then
(if p3 ≤ (40 : Int32) then
(let m12 : zM := f_X3_begin (56 + 2 * p1.toNatClampNeg) p2 p3 mm;
((m12.1 (56 + 2 * p1.toNatClampNeg) 2), m12))
else
(let x14 : Int32 × zM := f_X5_finding (-1000000001 : Int32) mm;
((x14.1), (x14.2))))
else
(let x15 : Int32 × zM := f_X5_finding (-1000000007 : Int32) mm;
((x15.1), (x15.2))))
def f_X5_sheet (p1 : Int32) (p2 : Int32) (p3 : Int32) (M : zM) : Int32 × zM :=
(let x2 : Int32 := f_X5_within p1 (0 : Int32) (3 : Int32);
(if x2 = (0 : Int32) then
f_X5_sheet_31 p1 p2 p3 M
else
(if p2 = (0 : Int32) then
f_X5_sheet_38 p1 p2 p3 M
else
(if p2 = (8 : Int32) then
f_X5_sheet_38 p1 p2 p3 M
else
(if p2 = (16 : Int32) then
f_X5_sheet_38 p1 p2 p3 M
else
(if p2 = (64 : Int32) then
f_X5_sheet_38 p1 p2 p3 M
else
f_X5_sheet_31 p1 p2 p3 M))))))
def f_X3_lowestBits (a0 : Nat) (p1 : Int64) (M : zM) : Int64 :=
(let x2 : Int32 := (M.1 a0 1);
(if x2 = (8 : Int32) then
(((p1.toInt32).toInt8.toInt32).toInt64)
else
(if x2 = (16 : Int32) then
(((p1.toInt32).toInt16.toInt32).toInt64)
else
p1)))
def f_X5_write (p1 : Int32) (p2 : Int32) (p3 : Int64) (M : zM) : Int64 × zM :=
(let x2 : Int32 := f_X5_within p1 (0 : Int32) (3 : Int32);
(if x2 = (0 : Int32) then
(let x16 : Int32 × zM := f_X5_finding (-1000000001 : Int32) M;
(((x16.1).toInt64), (x16.2)))
else
(let x6 : Int32 := f_X3_isMissing (56 + 2 * p1.toNatClampNeg) M;
(if x6 = (0 : Int32) then
(let x9 : Int32 := f_X5_within p2 (0 : Int32) ((M.1 (56 + 2 * p1.toNatClampNeg) 2) - (1 : Int32));
(if x9 = (0 : Int32) then
(let x14 : Int32 × zM := f_X5_finding (-1000000001 : Int32) M;
(((x14.1).toInt64), (x14.2)))
else
(let x11 : Int64 := (M.2 ((56 + 2 * p1.toNatClampNeg) + 1) p2.toNatClampNeg);
(let x12 : Int64 := f_X3_lowestBits (56 + 2 * p1.toNatClampNeg) p3 M;
(let m13 : zM := zpL M ((56 + 2 * p1.toNatClampNeg) + 1) p2.toNatClampNeg x12;
(x11, m13))))))
else
(let x15 : Int32 × zM := f_X5_finding (-1000000006 : Int32) M;
(((x15.1).toInt64), (x15.2)))))))
def f_X3_hasPart (a0 : Nat) (p1 : Int32) (p2 : Int32) (M : zM) : Int32 :=
(if p1 < (0 : Int32) then
(0 : Int32)
else
(if p2 < (0 : Int32) then
(0 : Int32)
else
(if (M.1 a0 2) < p2 then
(0 : Int32)
else
(if ((M.1 a0 2) - p2) < p1 then
(0 : Int32)
else
(1 : Int32)))))
def f_X5_copy_18 (p1 : Int32) (p2 : Int32) (p3 : Int32) (p4 : Int32) (p5 : Int32) (mm : zM) : Int32 × zM :=
(let x24 : Int32 × zM := f_X5_finding (-1000000001 : Int32) mm;
((x24.1), (x24.2)))
def f_X5_copy_57 (p1 : Int32) (p2 : Int32) (p3 : Int32) (p4 : Int32) (p5 : Int32) (mm : zM) : Int32 × zM :=
(let x25 : Int32 × zM := f_X5_finding (-1000000006 : Int32) mm;
((x25.1), (x25.2)))
def f_X5_copy_107 (p1 : Int32) (p2 : Int32) (p3 : Int32) (p4 : Int32) (p5 : Int32) (mm : zM) : Int32 × zM :=
(let x26 : Int32 × zM := f_X5_finding (-1000000001 : Int32) mm;
((x26.1), (x26.2)))
def f_X5_copy (p1 : Int32) (p2 : Int32) (p3 : Int32) (p4 : Int32) (p5 : Int32) (M : zM) : Int32 × zM :=
(let x2 : Int32 := f_X5_within p1 (0 : Int32) (3 : Int32);
(if x2 = (0 : Int32) then
f_X5_copy_18 p1 p2 p3 p4 p5 M
else
(let x5 : Int32 := f_X5_within p3 (0 : Int32) (3 : Int32);
(if x5 = (0 : Int32) then
f_X5_copy_18 p1 p2 p3 p4 p5 M
else
(let x10 : Int32 := f_X3_isMissing (56 + 2 * p1.toNatClampNeg) M;
(if x10 = (0 : Int32) then
(let x13 : Int32 := f_X3_isMissing (56 + 2 * p3.toNatClampNeg) M;
(if x13 = (0 : Int32) then
(if (M.1 (56 + 2 * p1.toNatClampNeg) 1) = (M.1 (56 + 2 * p3.toNatClampNeg) 1) then
(let x17 : Int32 := f_X3_hasPart (56 + 2 * p1.toNatClampNeg) p2 p5 M;
(if x17 = (0 : Int32) then
f_X5_copy_107 p1 p2 p3 p4 p5 M
else
(let x20 : Int32 := f_X3_hasPart (56 + 2 * p3.toNatClampNeg) p4 p5 M;
(if x20 = (0 : Int32) then
f_X5_copy_107 p1 p2 p3 p4 p5 M
else
(let m22 : zM := zrL M ((56 + 2 * p3.toNatClampNeg) + 1) (va_cpy (M.2 ((56 + 2 * p1.toNatClampNeg) + 1)) (M.2 ((56 + 2 * p3.toNatClampNeg) + 1)) p2.toNatClampNeg p4.toNatClampNeg p5.toNatClampNeg);
(p5, m22))))))
else
(let x23 : Int32 × zM := f_X5_finding (-1000000003 : Int32) M;
((x23.1), (x23.2))))
else
f_X5_copy_57 p1 p2 p3 p4 p5 M))
else
f_X5_copy_57 p1 p2 p3 p4 p5 M))))))
def f_X5_draws_51 (p1 : Int32) : Nat → Nat → Int32 → Int32 → Int32 → zM → (Int32 × zM)
  | 0, c2, v3, v4, v5, mm => (0, mm)
  | n51 + 1, c2, v3, v4, v5, mm => (if (mm.1 c2 2) ≤ v5 then
(let m12 : zM := zpI mm 1 3 v3;
(v4, m12))
else
(let x13 : Int64 := (mm.2 (c2 + 1) v5.toNatClampNeg);
(if (lg_cmp x13 (-99 : Int64)) < (0 : Int32) then
f_X5_draws_51 p1 n51 c2 v3 v4 (v5 + (1 : Int32)) mm
else
(if (0 : Int32) < (lg_cmp x13 (99 : Int64)) then
f_X5_draws_51 p1 n51 c2 v3 v4 (v5 + (1 : Int32)) mm
else
(let m16 : zM := zpI mm 1 3 (x13.toInt32);
(let m17 : zM := f_X2_tick 1 m16;
(let m18 : zM := f_X1_enter 43 1 m17;
f_X5_draws_51 p1 n51 c2 v3 (v4 + (1 : Int32)) (v5 + (1 : Int32)) m18)))))))
def f_X5_draws (p1 : Int32) (M : zM) : Int32 × zM :=
(let x2 : Int32 := f_X5_within p1 (0 : Int32) (3 : Int32);
(if x2 = (0 : Int32) then
(let x10 : Int32 × zM := f_X5_finding (-1000000001 : Int32) M;
((x10.1), (x10.2)))
else
(let x6 : Int32 := f_X3_isMissing (56 + 2 * p1.toNatClampNeg) M;
(if x6 = (0 : Int32) then
(let x8 : Int32 := (M.1 1 3);
f_X5_draws_51 p1 (41) (56 + 2 * p1.toNatClampNeg) x8 (0 : Int32) (0 : Int32) M)
else
(let x9 : Int32 × zM := f_X5_finding (-1000000006 : Int32) M;
((x9.1), (x9.2)))))))
def f_X5_read_39 (p1 : Int32) : Nat → Nat → Int32 → zM → (Int32 × zM)
  | 0, c2, v3, mm => (0, mm)
  | n39 + 1, c2, v3, mm => (if (mm.1 c2 2) ≤ v3 then
((0 : Int32), mm)
else
(let x12 : Int32 := f_X2_has 1 v3 mm;
(if x12 = (0 : Int32) then
(((1 : Int32) + v3), mm)
else
(if (lg_cmp ((mm.1 (3 + v3.toNatClampNeg) 5).toInt64) (mm.2 (c2 + 1) v3.toNatClampNeg)) = (0 : Int32) then
f_X5_read_39 p1 n39 c2 (v3 + (1 : Int32)) mm
else
(((1 : Int32) + v3), mm)))))
def f_X5_read (p1 : Int32) (M : zM) : Int32 × zM :=
(let x2 : Int32 := f_X5_within p1 (0 : Int32) (3 : Int32);
(if x2 = (0 : Int32) then
(let x9 : Int32 × zM := f_X5_finding (-1000000001 : Int32) M;
((x9.1), (x9.2)))
else
(let x6 : Int32 := f_X3_isMissing (56 + 2 * p1.toNatClampNeg) M;
(if x6 = (0 : Int32) then
f_X5_read_39 p1 (41) (56 + 2 * p1.toNatClampNeg) (0 : Int32) M
else
(let x8 : Int32 × zM := f_X5_finding (-1000000006 : Int32) M;
((x8.1), (x8.2)))))))
def f_X1_copyFrom (a0 : Nat) (a1 : Nat) (M : zM) : zM :=
(let m1 : zM := zrI M (a0 + 1) (va_cpy (M.1 (a1 + 1)) (M.1 (a0 + 1)) (0 : Int32).toNatClampNeg (0 : Int32).toNatClampNeg (100 : Int32).toNatClampNeg);
(let m2 : zM := zrI m1 (a0 + 2) (va_cpy (m1.1 (a1 + 2)) (m1.1 (a0 + 2)) (0 : Int32).toNatClampNeg (0 : Int32).toNatClampNeg (100 : Int32).toNatClampNeg);
(let m3 : zM := zrI m2 (a0 + 3) (va_cpy (m2.1 (a1 + 3)) (m2.1 (a0 + 3)) (0 : Int32).toNatClampNeg (0 : Int32).toNatClampNeg (100 : Int32).toNatClampNeg);
(let m4 : zM := zrI m3 (a0 + 4) (va_cpy (m3.1 (a1 + 4)) (m3.1 (a0 + 4)) (0 : Int32).toNatClampNeg (0 : Int32).toNatClampNeg (7 : Int32).toNatClampNeg);
(let m5 : zM := zpI m4 a0 4 (m4.1 a1 4);
(let m6 : zM := zpI m5 a0 5 (m5.1 a1 5);
(let m7 : zM := zpI m6 a0 6 (m6.1 a1 6);
(let m8 : zM := zpI m7 a0 7 (m7.1 a1 7);
m8))))))))
def f_X5_image (M : zM) : Int32 × zM :=
(let m1 : zM := f_X2_copyFrom 15 1 M;
(let m2 : zM := f_X1_copyFrom 48 43 m1;
(let m3 : zM := zpI m2 0 5 (1 : Int32);
((1 : Int32), m3))))
def f_X5_undo (M : zM) : Int32 × zM :=
(if (M.1 0 5) = (0 : Int32) then
(let x4 : Int32 × zM := f_X5_finding (-1000000004 : Int32) M;
((x4.1), (x4.2)))
else
(let m2 : zM := f_X2_copyFrom 1 15 M;
(let m3 : zM := f_X1_copyFrom 43 48 m2;
((m3.1 1 1), m3))))
def f_X5_tear (M : zM) : Int32 × zM :=
(if (M.1 0 5) = (0 : Int32) then
(let m2 : zM := zpI M 0 5 (0 : Int32);
((0 : Int32), m2))
else
(let m3 : zM := zpI M 0 5 (0 : Int32);
((1 : Int32), m3)))
def f_X5_count (p1 : Int32) (M : zM) : Int32 × zM :=
(if p1 = (0 : Int32) then
((M.1 1 1), M)
else
(if p1 = (1 : Int32) then
((M.1 43 6), M)
else
(if p1 = (2 : Int32) then
((M.1 43 7), M)
else
(if p1 = (3 : Int32) then
(if (M.1 13 1) ≤ (0 : Int32) then
((0 : Int32), M)
else
((1 : Int32), M))
else
(if p1 = (4 : Int32) then
((M.1 53 1), M)
else
(if p1 = (5 : Int32) then
((M.1 1 3), M)
else
(if p1 = (6 : Int32) then
((M.1 1 2), M)
else
(if p1 = (7 : Int32) then
((M.1 43 4), M)
else
(let x3 : Int32 × zM := f_X5_finding (-1000000001 : Int32) M;
((x3.1), (x3.2)))))))))))
def f_X5_status_32 (p1 : Int32) : Nat → Int32 → Int32 → zM → (Int32 × zM)
  | 0, v2, v3, mm => (0, mm)
  | n32 + 1, v2, v3, mm => (if (7 : Int32) ≤ v3 then
(v2, mm)
else
(let x7 : Int32 := (v2 + (mm.1 64 v3.toNatClampNeg));
f_X5_status_32 p1 n32 x7 (v3 + (1 : Int32)) mm))
def f_X5_status (p1 : Int32) (M : zM) : Int32 × zM :=
(let x2 : Int32 := f_X5_within p1 (-1 : Int32) (6 : Int32);
(if x2 = (0 : Int32) then
(let x5 : Int32 × zM := f_X5_finding (-1000000001 : Int32) M;
((x5.1), (x5.2)))
else
(if p1 < (0 : Int32) then
f_X5_status_32 p1 (8) (0 : Int32) (0 : Int32) M
else
((M.1 64 p1.toNatClampNeg), M))))
