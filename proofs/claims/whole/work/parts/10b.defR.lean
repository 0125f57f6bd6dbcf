theorem kq_X6_in : zCalS yX6_in cX6_in 3 (some .boolean) 3 := ⟨kT_X6_in, kC_X6, kD_X6_in, by decide, by decide, by decide +kernel⟩
theorem kq_X6_lesser : zCalS yX6_lesser cX6_lesser 2 (some .int) 2 := ⟨kT_X6_lesser, kC_X6, kD_X6_lesser, by decide, by decide, by decide +kernel⟩
theorem kq_X6_greater : zCalS yX6_greater cX6_greater 2 (some .int) 2 := ⟨kT_X6_greater, kC_X6, kD_X6_greater, by decide, by decide, by decide +kernel⟩
theorem kq_X6_without : zCalS yX6_without cX6_without 1 (some .long) 1 := ⟨kT_X6_without, kC_X6, kD_X6_without, by decide, by decide, by decide +kernel⟩
theorem kq_X6_no : zCal RX6 yX6_no cX6_no 2 (some .int) 1 := ⟨kI_X6_no, kS_X6_no, kC_X6, kD_X6_no, rfl, by decide, by decide, by decide +kernel⟩
theorem kq_X6_isBlock : zCal RX6 yX6_isBlock cX6_isBlock 2 (some .boolean) 1 := ⟨kI_X6_isBlock, kS_X6_isBlock, kC_X6, kD_X6_isBlock, rfl, by decide, by decide, by decide +kernel⟩
theorem kq_X6_at : zCal RX6 yX6_at cX6_at 3 (some .int) 2 := ⟨kI_X6_at, kS_X6_at, kC_X6, kD_X6_at, rfl, by decide, by decide, by decide +kernel⟩
theorem kq_X6_become : zCal RX6 yX6_become cX6_become 5 (some .int) 3 := ⟨kI_X6_become, kS_X6_become, kC_X6, kD_X6_become, rfl, by decide, by decide, by decide +kernel⟩
theorem kq_X6_plainHolds : zCal RX6 yX6_plainHolds cX6_plainHolds 3 (some .int) 2 := ⟨kI_X6_plainHolds, kS_X6_plainHolds, kC_X6, kD_X6_plainHolds, rfl, by decide, by decide, by decide +kernel⟩
theorem kq_X6_worthOf : zCal RX6 yX6_worthOf cX6_worthOf 4 (some .int) 3 := ⟨kI_X6_worthOf, kS_X6_worthOf, kC_X6, kD_X6_worthOf, rfl, by decide, by decide, by decide +kernel⟩
theorem kq_X6_done : zCalS yX6_done cX6_done 3 (some .int) 3 := ⟨kT_X6_done, kC_X6, kD_X6_done, by decide, by decide, by decide +kernel⟩
theorem kq_X6_given : zCal RX6 yX6_given cX6_given 6 (some .int) 2 := ⟨kI_X6_given, kS_X6_given, kC_X6, kD_X6_given, rfl, by decide, by decide, by decide +kernel⟩
theorem kq_X6_holdsOf : zCal RX6 yX6_holdsOf cX6_holdsOf 4 (some .int) 2 := ⟨kI_X6_holdsOf, kS_X6_holdsOf, kC_X6, kD_X6_holdsOf, rfl, by decide, by decide, by decide +kernel⟩
theorem kq_X6_rubsOf : zCal RX6 yX6_rubsOf cX6_rubsOf 4 (some .int) 2 := ⟨kI_X6_rubsOf, kS_X6_rubsOf, kC_X6, kD_X6_rubsOf, rfl, by decide, by decide, by decide +kernel⟩
theorem kq_X6_placeOf : zCal RX6 yX6_placeOf cX6_placeOf 2 (some .int) 1 := ⟨kI_X6_placeOf, kS_X6_placeOf, kC_X6, kD_X6_placeOf, rfl, by decide, by decide, by decide +kernel⟩
theorem kq_X6_isLast : zCal RX6 yX6_isLast cX6_isLast 2 (some .boolean) 1 := ⟨kI_X6_isLast, kS_X6_isLast, kC_X6, kD_X6_isLast, rfl, by decide, by decide, by decide +kernel⟩
theorem kq_X6_pull : zCal RX6 yX6_pull cX6_pull 3 (some .int) 1 := ⟨kI_X6_pull, kS_X6_pull, kC_X6, kD_X6_pull, rfl, by decide, by decide, by decide +kernel⟩
theorem kq_X6_springs : zCal RX6 yX6_springs cX6_springs 2 (some .int) 1 := ⟨kI_X6_springs, kS_X6_springs, kC_X6, kD_X6_springs, rfl, by decide, by decide, by decide +kernel⟩
theorem kq_X6_block : zCal RX6 yX6_block cX6_block 6 (some .int) 4 := ⟨kI_X6_block, kS_X6_block, kC_X6, kD_X6_block, rfl, by decide, by decide, by decide +kernel⟩
theorem kq_X6_of : zCal RX6 yX6_of cX6_of 3 (some .int) 2 := ⟨kI_X6_of, kS_X6_of, kC_X6, kD_X6_of, rfl, by decide, by decide, by decide +kernel⟩
theorem kq_X6_set : zCal RX6 yX6_set cX6_set 4 (some .int) 3 := ⟨kI_X6_set, kS_X6_set, kC_X6, kD_X6_set, rfl, by decide, by decide, by decide +kernel⟩
theorem kq_X6_isUnder : zCalS yX6_isUnder cX6_isUnder 2 (some .boolean) 2 := ⟨kT_X6_isUnder, kC_X6, kD_X6_isUnder, by decide, by decide, by decide +kernel⟩
theorem kq_X6_as : zCal RX6 yX6_as cX6_as 3 (some .int) 2 := ⟨kI_X6_as, kS_X6_as, kC_X6, kD_X6_as, rfl, by decide, by decide, by decide +kernel⟩
theorem kq_X6_holds : zCal RX6 yX6_holds cX6_holds 3 (some .int) 2 := ⟨kI_X6_holds, kS_X6_holds, kC_X6, kD_X6_holds, rfl, by decide, by decide, by decide +kernel⟩
theorem kq_X6_rubs : zCal RX6 yX6_rubs cX6_rubs 3 (some .int) 2 := ⟨kI_X6_rubs, kS_X6_rubs, kC_X6, kD_X6_rubs, rfl, by decide, by decide, by decide +kernel⟩
theorem kq_X6_push : zCal RX6 yX6_push cX6_push 3 (some .int) 2 := ⟨kI_X6_push, kS_X6_push, kC_X6, kD_X6_push, rfl, by decide, by decide, by decide +kernel⟩
theorem kq_X6_oil : zCal RX6 yX6_oil cX6_oil 3 (some .int) 2 := ⟨kI_X6_oil, kS_X6_oil, kC_X6, kD_X6_oil, rfl, by decide, by decide, by decide +kernel⟩
theorem kq_X6_pace : zCal RX6 yX6_pace cX6_pace 3 (some .int) 1 := ⟨kI_X6_pace, kS_X6_pace, kC_X6, kD_X6_pace, rfl, by decide, by decide, by decide +kernel⟩
theorem kq_X6_stepsOf : zCal RX6 yX6_stepsOf cX6_stepsOf 9 (some .int) 1 := ⟨kI_X6_stepsOf, kS_X6_stepsOf, kC_X6, kD_X6_stepsOf, rfl, by decide, by decide, by decide +kernel⟩
theorem kq_X6_round : zCal RX6 yX6_round cX6_round 3 (some .boolean) 0 := ⟨kI_X6_round, kS_X6_round, kC_X6, kD_X6_round, rfl, by decide, by decide, by decide +kernel⟩
theorem kq_X6_classOf : zCalS yX6_classOf cX6_classOf 3 (some .int) 1 := ⟨kT_X6_classOf, kC_X6, kD_X6_classOf, by decide, by decide, by decide +kernel⟩
theorem kq_X6_books : zCal RX6 yX6_books cX6_books 2 none 0 := ⟨kI_X6_books, kS_X6_books, kC_X6, kD_X6_books, rfl, by decide, by decide, by decide +kernel⟩
theorem kq_X6_tick : zCal RX6 yX6_tick cX6_tick 5 none 0 := ⟨kI_X6_tick, kS_X6_tick, kC_X6, kD_X6_tick, rfl, by decide, by decide, by decide +kernel⟩
theorem kq_X6_ticks : zCal RX6 yX6_ticks cX6_ticks 3 (some .int) 1 := ⟨kI_X6_ticks, kS_X6_ticks, kC_X6, kD_X6_ticks, rfl, by decide, by decide, by decide +kernel⟩
theorem kq_X6_until : zCal RX6 yX6_until cX6_until 5 (some .int) 2 := ⟨kI_X6_until, kS_X6_until, kC_X6, kD_X6_until, rfl, by decide, by decide, by decide +kernel⟩
theorem kq_X6_book : zCal RX6 yX6_book cX6_book 3 (some .int) 2 := ⟨kI_X6_book, kS_X6_book, kC_X6, kD_X6_book, rfl, by decide, by decide, by decide +kernel⟩
theorem kq_X6_counts : zCal RX6 yX6_counts cX6_counts 2 (some .int) 1 := ⟨kI_X6_counts, kS_X6_counts, kC_X6, kD_X6_counts, rfl, by decide, by decide, by decide +kernel⟩
theorem kq_X6_power : zCal RX6 yX6_power cX6_power 3 (some .int) 0 := ⟨kI_X6_power, kS_X6_power, kC_X6, kD_X6_power, rfl, by decide, by decide, by decide +kernel⟩
theorem kq_X6_tone : zCal RX6 yX6_tone cX6_tone 3 (some .int) 0 := ⟨kI_X6_tone, kS_X6_tone, kC_X6, kD_X6_tone, rfl, by decide, by decide, by decide +kernel⟩
theorem kq_X6_great : zCal RX6 yX6_great cX6_great 7 (some .int) 2 := ⟨kI_X6_great, kS_X6_great, kC_X6, kD_X6_great, rfl, by decide, by decide, by decide +kernel⟩
theorem kq_X6_noise : zCal RX6 yX6_noise cX6_noise 5 (some .long) 1 := ⟨kI_X6_noise, kS_X6_noise, kC_X6, kD_X6_noise, rfl, by decide, by decide, by decide +kernel⟩
theorem kq_X6_lay : zCalS yX6_lay cX6_lay 3 none 2 := ⟨kT_X6_lay, kC_X6, kD_X6_lay, by decide, by decide, by decide +kernel⟩
theorem kq_X6_goes : zCal RX6 yX6_goes cX6_goes 3 none 1 := ⟨kI_X6_goes, kS_X6_goes, kC_X6, kD_X6_goes, rfl, by decide, by decide, by decide +kernel⟩
theorem kq_X6_isAhead : zCalS yX6_isAhead cX6_isAhead 1 (some .boolean) 1 := ⟨kT_X6_isAhead, kC_X6, kD_X6_isAhead, by decide, by decide, by decide +kernel⟩
theorem kq_X6_jumps : zCal RX6 yX6_jumps cX6_jumps 4 (some .int) 1 := ⟨kI_X6_jumps, kS_X6_jumps, kC_X6, kD_X6_jumps, rfl, by decide, by decide, by decide +kernel⟩
theorem kq_X6_greatest : zCal RX6 yX6_greatest cX6_greatest 4 (some .int) 1 := ⟨kI_X6_greatest, kS_X6_greatest, kC_X6, kD_X6_greatest, rfl, by decide, by decide, by decide +kernel⟩
theorem kq_X6_ahead : zCal RX6 yX6_ahead cX6_ahead 4 (some .int) 2 := ⟨kI_X6_ahead, kS_X6_ahead, kC_X6, kD_X6_ahead, rfl, by decide, by decide, by decide +kernel⟩
theorem kq_X6_isSo : zCal RX6 yX6_isSo cX6_isSo 6 (some .boolean) 5 := ⟨kI_X6_isSo, kS_X6_isSo, kC_X6, kD_X6_isSo, rfl, by decide, by decide, by decide +kernel⟩
theorem kq_X6_leastSo : zCal RX6 yX6_leastSo cX6_leastSo 6 (some .int) 4 := ⟨kI_X6_leastSo, kS_X6_leastSo, kC_X6, kD_X6_leastSo, rfl, by decide, by decide, by decide +kernel⟩
theorem kq_X6_from : zCal RX6 yX6_from cX6_from 2 (some .int) 1 := ⟨kI_X6_from, kS_X6_from, kC_X6, kD_X6_from, rfl, by decide, by decide, by decide +kernel⟩
theorem kq_X6_still : zCal RX6 yX6_still cX6_still 4 (some .int) 3 := ⟨kI_X6_still, kS_X6_still, kC_X6, kD_X6_still, rfl, by decide, by decide, by decide +kernel⟩
theorem kq_X6_longOf : zCal RX6 yX6_longOf cX6_longOf 2 (some .int) 1 := ⟨kI_X6_longOf, kS_X6_longOf, kC_X6, kD_X6_longOf, rfl, by decide, by decide, by decide +kernel⟩
theorem kq_X6_gives : zCal RX6 yX6_gives cX6_gives 7 (some .boolean) 3 := ⟨kI_X6_gives, kS_X6_gives, kC_X6, kD_X6_gives, rfl, by decide, by decide, by decide +kernel⟩
theorem kq_X6_isSheet : zCalS yX6_isSheet cX6_isSheet 1 (some .boolean) 1 := ⟨kT_X6_isSheet, kC_X6, kD_X6_isSheet, by decide, by decide, by decide +kernel⟩
theorem kq_X6_which : zCal RX6 yX6_which cX6_which 5 (some .int) 2 := ⟨kI_X6_which, kS_X6_which, kC_X6, kD_X6_which, rfl, by decide, by decide, by decide +kernel⟩
theorem kq_X6_together : zCal RX6 yX6_together cX6_together 6 (some .int) 3 := ⟨kI_X6_together, kS_X6_together, kC_X6, kD_X6_together, rfl, by decide, by decide, by decide +kernel⟩
theorem kq_X6_byteAt : zCal RX6 yX6_byteAt cX6_byteAt 1 (some .int) 0 := ⟨kI_X6_byteAt, kS_X6_byteAt, kC_X6, kD_X6_byteAt, rfl, by decide, by decide, by decide +kernel⟩
theorem kq_X6_fails : zCal RX6 yX6_fails cX6_fails 1 none 0 := ⟨kI_X6_fails, kS_X6_fails, kC_X6, kD_X6_fails, rfl, by decide, by decide, by decide +kernel⟩
theorem kq_X6_may : zCal RX6 yX6_may cX6_may 3 (some .boolean) 1 := ⟨kI_X6_may, kS_X6_may, kC_X6, kD_X6_may, rfl, by decide, by decide, by decide +kernel⟩
theorem kq_X6_must : zCal RX6 yX6_must cX6_must 2 none 1 := ⟨kI_X6_must, kS_X6_must, kC_X6, kD_X6_must, rfl, by decide, by decide, by decide +kernel⟩
theorem kq_X6_emit : zCal RX6 yX6_emit cX6_emit 2 none 1 := ⟨kI_X6_emit, kS_X6_emit, kC_X6, kD_X6_emit, rfl, by decide, by decide, by decide +kernel⟩
theorem kq_X6_isDigit : zCalS yX6_isDigit cX6_isDigit 1 (some .boolean) 1 := ⟨kT_X6_isDigit, kC_X6, kD_X6_isDigit, by decide, by decide, by decide +kernel⟩
theorem kq_X6_nameOf : zCalS yX6_nameOf cX6_nameOf 1 (some .int) 1 := ⟨kT_X6_nameOf, kC_X6, kD_X6_nameOf, by decide, by decide, by decide +kernel⟩
theorem kq_X6_number : zCal RX6 yX6_number cX6_number 3 none 0 := ⟨kI_X6_number, kS_X6_number, kC_X6, kD_X6_number, rfl, by decide, by decide, by decide +kernel⟩
theorem kq_X6_opens : zCal RX6 yX6_opens cX6_opens 2 (some .boolean) 1 := ⟨kI_X6_opens, kS_X6_opens, kC_X6, kD_X6_opens, rfl, by decide, by decide, by decide +kernel⟩
theorem kq_X6_term : zCal RX6 yX6_term cX6_term 3 none 0 := ⟨kI_X6_term, kS_X6_term, kC_X6, kD_X6_term, rfl, by decide, by decide, by decide +kernel⟩
theorem kq_X6_sum : zCal RX6 yX6_sum cX6_sum 3 none 0 := ⟨kI_X6_sum, kS_X6_sum, kC_X6, kD_X6_sum, rfl, by decide, by decide, by decide +kernel⟩
theorem kq_X6_factor : zCal RX6 yX6_factor cX6_factor 1 none 0 := ⟨kI_X6_factor, kS_X6_factor, kC_X6, kD_X6_factor, rfl, by decide, by decide, by decide +kernel⟩
theorem kq_X6_feed : zCal RX6 yX6_feed cX6_feed 4 (some .int) 2 := ⟨kI_X6_feed, kS_X6_feed, kC_X6, kD_X6_feed, rfl, by decide, by decide, by decide +kernel⟩
theorem kq_X6_wipe : zCal RX6 yX6_wipe cX6_wipe 2 (some .int) 0 := ⟨kI_X6_wipe, kS_X6_wipe, kC_X6, kD_X6_wipe, rfl, by decide, by decide, by decide +kernel⟩
theorem kq_X6_law : zCal RX6 yX6_law cX6_law 2 (some .int) 0 := ⟨kI_X6_law, kS_X6_law, kC_X6, kD_X6_law, rfl, by decide, by decide, by decide +kernel⟩
theorem kq_X6_plain : zCal RX6 yX6_plain cX6_plain 2 (some .int) 0 := ⟨kI_X6_plain, kS_X6_plain, kC_X6, kD_X6_plain, rfl, by decide, by decide, by decide +kernel⟩
theorem kq_X6_says : zCal RX6 yX6_says cX6_says 2 (some .int) 1 := ⟨kI_X6_says, kS_X6_says, kC_X6, kD_X6_says, rfl, by decide, by decide, by decide +kernel⟩
theorem kq_X6_sheet : zCal RX6 yX6_sheet cX6_sheet 5 (some .int) 3 := ⟨kI_X6_sheet, kS_X6_sheet, kC_X6, kD_X6_sheet, rfl, by decide, by decide, by decide +kernel⟩
theorem kq_X6_write : zCal RX6 yX6_write cX6_write 7 (some .long) 3 := ⟨kI_X6_write, kS_X6_write, kC_X6, kD_X6_write, rfl, by decide, by decide, by decide +kernel⟩
theorem kq_X6_copy : zCal RX6 yX6_copy cX6_copy 7 (some .int) 5 := ⟨kI_X6_copy, kS_X6_copy, kC_X6, kD_X6_copy, rfl, by decide, by decide, by decide +kernel⟩
theorem kq_X6_draws : zCal RX6 yX6_draws cX6_draws 7 (some .int) 1 := ⟨kI_X6_draws, kS_X6_draws, kC_X6, kD_X6_draws, rfl, by decide, by decide, by decide +kernel⟩
theorem kq_X6_read : zCal RX6 yX6_read cX6_read 3 (some .int) 1 := ⟨kI_X6_read, kS_X6_read, kC_X6, kD_X6_read, rfl, by decide, by decide, by decide +kernel⟩
theorem kq_X6_image : zCal RX6 yX6_image cX6_image 1 (some .int) 0 := ⟨kI_X6_image, kS_X6_image, kC_X6, kD_X6_image, rfl, by decide, by decide, by decide +kernel⟩
theorem kq_X6_undo : zCal RX6 yX6_undo cX6_undo 1 (some .int) 0 := ⟨kI_X6_undo, kS_X6_undo, kC_X6, kD_X6_undo, rfl, by decide, by decide, by decide +kernel⟩
theorem kq_X6_tear : zCal RX6 yX6_tear cX6_tear 2 (some .int) 0 := ⟨kI_X6_tear, kS_X6_tear, kC_X6, kD_X6_tear, rfl, by decide, by decide, by decide +kernel⟩
theorem kq_X6_count : zCal RX6 yX6_count cX6_count 2 (some .int) 1 := ⟨kI_X6_count, kS_X6_count, kC_X6, kD_X6_count, rfl, by decide, by decide, by decide +kernel⟩
theorem kq_X6_status : zCal RX6 yX6_status cX6_status 4 (some .int) 1 := ⟨kI_X6_status, kS_X6_status, kC_X6, kD_X6_status, rfl, by decide, by decide, by decide +kernel⟩
def f_X6_in (p0 : Int32) (p1 : Int32) (p2 : Int32) : Int32 :=
(if p0 < p1 then
(0 : Int32)
else
(if p2 < p0 then
(0 : Int32)
else
(1 : Int32)))
def f_X6_lesser (p0 : Int32) (p1 : Int32) : Int32 :=
(if p1 ≤ p0 then
p1
else
p0)
def f_X6_greater (p0 : Int32) (p1 : Int32) : Int32 :=
(if p0 ≤ p1 then
p1
else
p0)
def f_X6_without (p0 : Int32) : Int64 :=
(if (0 : Int32) ≤ p0 then
(p0.toInt64)
else
(-(p0.toInt64)))
def f_X6_no (p1 : Int32) (M : zM) : Int32 × zM :=
(let m1 : zM := zpI M 5 p1.toNatClampNeg ((M.1 5 p1.toNatClampNeg) + (1 : Int32));
(((-1000000001 : Int32) - p1), m1))
def f_X6_isBlock (p1 : Int32) (M : zM) : Int32 :=
(let x2 : Int32 := f_X6_in p1 (0 : Int32) ((M.1 1 0) - (1 : Int32));
x2)
def f_X6_at (p1 : Int32) (p2 : Int32) (M : zM) : Int32 :=
(M.1 1 (((78 : Int32) + ((7 : Int32) * p1)) + p2).toNatClampNeg)
def f_X6_become (p1 : Int32) (p2 : Int32) (p3 : Int32) (M : zM) : Int32 × zM :=
(let x1 : Int32 := f_X6_at p1 p2 M;
(let m2 : zM := zpI M 1 (((78 : Int32) + ((7 : Int32) * p1)) + p2).toNatClampNeg p3;
(x1, m2)))
def f_X6_plainHolds (p1 : Int32) (p2 : Int32) (M : zM) : Int32 :=
(let x1 : Int32 := f_X6_at p1 (1 : Int32) M;
(let x2 : Int32 := f_X6_lesser (p2 / (4 : Int32)) (50 : Int32);
(x1 + x2)))
def f_X6_worthOf (p1 : Int32) (p2 : Int32) (p3 : Int32) (M : zM) : Int32 :=
(if p1 = (0 : Int32) then
p3
else
(if p1 = (1 : Int32) then
(let x2 : Int32 := f_X6_at p2 (1 : Int32) M;
x2)
else
(if p1 = (2 : Int32) then
(let x3 : Int32 := f_X6_at p2 (2 : Int32) M;
x3)
else
(if p1 = (3 : Int32) then
p2
else
(if p1 = (4 : Int32) then
(let x4 : Int32 := f_X6_at p2 (4 : Int32) M;
x4)
else
(M.1 1 2))))))
def f_X6_done (p0 : Int32) (p1 : Int32) (p2 : Int32) : Int32 :=
(if p0 = (2000 : Int32) then
(p1 + p2)
else
(if p0 = (2001 : Int32) then
(p1 - p2)
else
(if p0 = (2002 : Int32) then
(p1 * p2)
else
(if p0 = (2003 : Int32) then
(if p2 = (0 : Int32) then
(0 : Int32)
else
(if p2 = (-1 : Int32) then
(-p1)
else
(p1 / p2)))
else
(let x4 : Int32 := f_X6_greater p1 p2;
x4)))))
def f_X6_given_5 (p1 : Int32) (p2 : Int32) : Nat → Int32 → Int32 → zM → (Int32 × zM)
  | 0, v3, v4, mm => (0, mm)
  | n5 + 1, v3, v4, mm => (if (mm.1 1 5) ≤ v4 then
((mm.1 11 0), mm)
else
(let x2 : Int32 := (mm.1 1 ((14 : Int32) + v4).toNatClampNeg);
(if (2000 : Int32) ≤ x2 then
(if x2 = (2004 : Int32) then
(let m7 : zM := zpI mm 11 (v3 - (1 : Int32)).toNatClampNeg (-(mm.1 11 (v3 - (1 : Int32)).toNatClampNeg));
f_X6_given_5 p1 p2 n5 v3 (v4 + (1 : Int32)) m7)
else
(let x5 : Int32 := f_X6_done x2 (mm.1 11 ((v3 + (-1 : Int32)) - (1 : Int32)).toNatClampNeg) (mm.1 11 (v3 + (-1 : Int32)).toNatClampNeg);
(let m6 : zM := zpI mm 11 ((v3 + (-1 : Int32)) - (1 : Int32)).toNatClampNeg x5;
f_X6_given_5 p1 p2 n5 (v3 + (-1 : Int32)) (v4 + (1 : Int32)) m6)))
else
(if (1000 : Int32) ≤ x2 then
(let x9 : Int32 := f_X6_worthOf (x2 - (1000 : Int32)) p1 p2 mm;
(let m10 : zM := zpI mm 11 v3.toNatClampNeg x9;
f_X6_given_5 p1 p2 n5 (v3 + (1 : Int32)) (v4 + (1 : Int32)) m10))
else
(let m11 : zM := zpI mm 11 v3.toNatClampNeg x2;
f_X6_given_5 p1 p2 n5 (v3 + (1 : Int32)) (v4 + (1 : Int32)) m11)))))
def f_X6_given (p1 : Int32) (p2 : Int32) (M : zM) : Int32 × zM :=
f_X6_given_5 p1 p2 (61) (0 : Int32) (0 : Int32) M
def f_X6_holdsOf (p1 : Int32) (p2 : Int32) (M : zM) : Int32 × zM :=
(let x1 : Int32 := f_X6_plainHolds p1 p2 M;
(let x2 : Int32 := f_X6_at p1 (0 : Int32) M;
(if x2 = (1 : Int32) then
((x1 + p2), M)
else
(if x2 = (2 : Int32) then
(let x4 : Int32 := f_X6_at p1 (4 : Int32) M;
(let x5 : Int32 := f_X6_greater (0 : Int32) ((x1 / (2 : Int32)) - x4);
(x5, M)))
else
(if x2 = (3 : Int32) then
(if (0 : Int32) ≤ (M.1 1 5) then
(let x7 : Int32 × zM := f_X6_given p1 p2 M;
(let x8 : Int32 := f_X6_lesser (9999 : Int32) (x7.1);
(let x9 : Int32 := f_X6_greater (0 : Int32) x8;
(x9, (x7.2)))))
else
(let x10 : Int32 := f_X6_at p1 (1 : Int32) M;
(x10, M)))
else
(if x2 = (4 : Int32) then
(if p2 < (40 : Int32) then
(((x1 + p2) * (1 : Int32)), M)
else
(((x1 + p2) * (3 : Int32)), M))
else
(if x2 = (5 : Int32) then
(let x12 : Int32 := f_X6_at p1 (4 : Int32) M;
(let x13 : Int32 := f_X6_greater (0 : Int32) ((x1 / (2 : Int32)) - x12);
(let x14 : Int32 := f_X6_at p1 (4 : Int32) M;
(let x15 : Int32 := f_X6_greater (0 : Int32) (x13 - x14);
(x15, M)))))
else
(x1, M))))))))
def f_X6_rubsOf (p1 : Int32) (p2 : Int32) (M : zM) : Int32 :=
(let x1 : Int32 := f_X6_at p1 (2 : Int32) M;
(let x2 : Int32 := f_X6_at p1 (0 : Int32) M;
(if x2 = (1 : Int32) then
x1
else
(if x2 = (2 : Int32) then
(let x4 : Int32 := f_X6_lesser (999 : Int32) ((x1 / (2 : Int32)) + p2);
x4)
else
(if x2 = (4 : Int32) then
x1
else
(if x2 = (5 : Int32) then
(let x5 : Int32 := f_X6_lesser (999 : Int32) ((x1 / (2 : Int32)) + p2);
x5)
else
(let x6 : Int32 := f_X6_greater (0 : Int32) (x1 - p2);
x6)))))))
def f_X6_placeOf (p1 : Int32) (M : zM) : Int32 :=
(if (0 : Int32) ≤ p1 then
(let x2 : Int32 := f_X6_at p1 (5 : Int32) M;
x2)
else
(M.1 1 1))
def f_X6_isLast (p1 : Int32) (M : zM) : Int32 :=
(if p1 = ((M.1 1 0) - (1 : Int32)) then
(1 : Int32)
else
(0 : Int32))
def f_X6_pull (p1 : Int32) (M : zM) : Int32 :=
(let x1 : Int32 := f_X6_at p1 (3 : Int32) M;
(let x2 : Int32 := f_X6_placeOf (p1 - (1 : Int32)) M;
(let x3 : Int32 := f_X6_placeOf p1 M;
(let x4 : Int32 := (x1 * (x2 - x3));
(let x6 : Int32 := f_X6_isLast p1 M;
(if x6 = (0 : Int32) then
(let x8 : Int32 := f_X6_at (p1 + (1 : Int32)) (3 : Int32) M;
(let x9 : Int32 := f_X6_placeOf p1 M;
(let x10 : Int32 := f_X6_placeOf (p1 + (1 : Int32)) M;
(x4 - (x8 * (x9 - x10))))))
else
x4))))))
def f_X6_springs_27 (p1 : Int32) (M : zM) (s0 : Int32) (s1 : Int32) (s2 : Int32) : Int32 :=
(let x6 : Int32 := f_X6_greater s2 (s1 + s0);
x6)
def f_X6_springs (p1 : Int32) (M : zM) : Int32 :=
(let x1 : Int32 := f_X6_at p1 (3 : Int32) M;
(let x3 : Int32 := f_X6_isLast p1 M;
(if x3 = (0 : Int32) then
(let x5 : Int32 := f_X6_at (p1 + (1 : Int32)) (3 : Int32) M;
f_X6_springs_27 p1 M x5 x1 (1 : Int32))
else
f_X6_springs_27 p1 M (0 : Int32) x1 (1 : Int32))))
def f_X6_block_42 (p1 : Int32) (p2 : Int32) (p3 : Int32) (p4 : Int32) (mm : zM) : Int32 × zM :=
(let x24 : Int32 × zM := f_X6_no (0 : Int32) mm;
((x24.1), (x24.2)))
def f_X6_block (p1 : Int32) (p2 : Int32) (p3 : Int32) (p4 : Int32) (M : zM) : Int32 × zM :=
(let x2 : Int32 := f_X6_in p1 (0 : Int32) (5 : Int32);
(if x2 = (0 : Int32) then
f_X6_block_42 p1 p2 p3 p4 M
else
(let x5 : Int32 := f_X6_in p2 (1 : Int32) (999 : Int32);
(if x5 = (0 : Int32) then
f_X6_block_42 p1 p2 p3 p4 M
else
(let x8 : Int32 := f_X6_in p3 (0 : Int32) (999 : Int32);
(if x8 = (0 : Int32) then
f_X6_block_42 p1 p2 p3 p4 M
else
(let x11 : Int32 := f_X6_in p4 (0 : Int32) (99 : Int32);
(if x11 = (0 : Int32) then
f_X6_block_42 p1 p2 p3 p4 M
else
(let x13 : Int32 := (M.1 1 0);
(if x13 = (10 : Int32) then
(let x23 : Int32 × zM := f_X6_no (1 : Int32) M;
((x23.1), (x23.2)))
else
(let m15 : zM := zpI M 1 0 ((M.1 1 0) + (1 : Int32));
(let x16 : Int32 × zM := f_X6_become x13 (0 : Int32) p1 m15;
(let x17 : Int32 × zM := f_X6_become x13 (1 : Int32) p2 (x16.2);
(let x18 : Int32 × zM := f_X6_become x13 (2 : Int32) p3 (x17.2);
(let x19 : Int32 × zM := f_X6_become x13 (3 : Int32) p4 (x18.2);
(let x20 : Int32 × zM := f_X6_become x13 (4 : Int32) (0 : Int32) (x19.2);
(let x21 : Int32 × zM := f_X6_become x13 (5 : Int32) (0 : Int32) (x20.2);
(let x22 : Int32 × zM := f_X6_become x13 (6 : Int32) (0 : Int32) (x21.2);
(x13, (x22.2))))))))))))))))))))
def f_X6_of_18 (p1 : Int32) (p2 : Int32) (mm : zM) : Int32 × zM :=
(let x13 : Int32 × zM := f_X6_no (0 : Int32) mm;
((x13.1), (x13.2)))
def f_X6_of (p1 : Int32) (p2 : Int32) (M : zM) : Int32 × zM :=
(let x2 : Int32 := f_X6_isBlock p1 M;
(if x2 = (0 : Int32) then
f_X6_of_18 p1 p2 M
else
(let x5 : Int32 := f_X6_in p2 (0 : Int32) (8 : Int32);
(if x5 = (0 : Int32) then
f_X6_of_18 p1 p2 M
else
(if p2 = (7 : Int32) then
(let x12 : Int32 := f_X6_pull p1 M;
(x12, M))
else
(if p2 = (8 : Int32) then
(let x10 : Int32 := f_X6_at p1 (6 : Int32) M;
(let x11 : Int32 × zM := f_X6_holdsOf p1 x10 M;
((x11.1), (x11.2))))
else
(let x9 : Int32 := f_X6_at p1 p2 M;
(x9, M))))))))
def f_X6_set_47 (p1 : Int32) (p2 : Int32) (p3 : Int32) (mm : zM) : Int32 × zM :=
(let x8 : Int32 × zM := f_X6_no (0 : Int32) mm;
((x8.1), (x8.2)))
def f_X6_set_41 (p1 : Int32) (p2 : Int32) (p3 : Int32) (s0 : Int32) (s1 : Int32) (s2 : Int32) (mm : zM) : Int32 × zM :=
(let x11 : Int32 := f_X6_in s2 s1 s0;
(if x11 = (0 : Int32) then
f_X6_set_47 p1 p2 p3 mm
else
(let x13 : Int32 × zM := f_X6_become p1 p2 p3 mm;
((x13.1), (x13.2)))))
def f_X6_set_28 (p1 : Int32) (p2 : Int32) (p3 : Int32) (s0 : Int32) (s1 : Int32) (mm : zM) : Int32 × zM :=
(if (3 : Int32) ≤ p2 then
f_X6_set_41 p1 p2 p3 (99 : Int32) s0 s1 mm
else
f_X6_set_41 p1 p2 p3 (999 : Int32) s0 s1 mm)
def f_X6_set (p1 : Int32) (p2 : Int32) (p3 : Int32) (M : zM) : Int32 × zM :=
(let x2 : Int32 := f_X6_isBlock p1 M;
(if x2 = (0 : Int32) then
f_X6_set_47 p1 p2 p3 M
else
(let x5 : Int32 := f_X6_in p2 (1 : Int32) (4 : Int32);
(if x5 = (0 : Int32) then
f_X6_set_47 p1 p2 p3 M
else
(if p2 = (1 : Int32) then
f_X6_set_28 p1 p2 p3 (1 : Int32) p3 M
else
f_X6_set_28 p1 p2 p3 (0 : Int32) p3 M)))))
def f_X6_isUnder_19 (p0 : Int32) (p1 : Int32) : Int32 :=
(if p1 = (2 : Int32) then
(if p0 = (5 : Int32) then
(1 : Int32)
else
(0 : Int32))
else
(0 : Int32))
def f_X6_isUnder (p0 : Int32) (p1 : Int32) : Int32 :=
(if p1 = (0 : Int32) then
(1 : Int32)
else
(if p0 = p1 then
(1 : Int32)
else
(if p1 = (1 : Int32) then
(if p0 = (4 : Int32) then
(1 : Int32)
else
f_X6_isUnder_19 p0 p1)
else
f_X6_isUnder_19 p0 p1)))
def f_X6_as_17 (p1 : Int32) (p2 : Int32) (mm : zM) : Int32 × zM :=
(let x14 : Int32 × zM := f_X6_no (0 : Int32) mm;
((x14.1), (x14.2)))
def f_X6_as (p1 : Int32) (p2 : Int32) (M : zM) : Int32 × zM :=
(let x2 : Int32 := f_X6_isBlock p1 M;
(if x2 = (0 : Int32) then
f_X6_as_17 p1 p2 M
else
(let x5 : Int32 := f_X6_in p2 (0 : Int32) (5 : Int32);
(if x5 = (0 : Int32) then
f_X6_as_17 p1 p2 M
else
(let x7 : Int32 := f_X6_at p1 (0 : Int32) M;
(let x9 : Int32 := f_X6_isUnder x7 p2;
(if x9 = (0 : Int32) then
(let x11 : Int32 × zM := f_X6_no (2 : Int32) M;
((x11.1), (x11.2)))
else
(let x12 : Int32 := f_X6_at p1 (6 : Int32) M;
(let x13 : Int32 × zM := f_X6_holdsOf p1 x12 M;
((x13.1), (x13.2)))))))))))
def f_X6_holds_28 (p1 : Int32) (p2 : Int32) (mm : zM) : Int32 × zM :=
(let x8 : Int32 × zM := f_X6_no (0 : Int32) mm;
((x8.1), (x8.2)))
def f_X6_holds (p1 : Int32) (p2 : Int32) (M : zM) : Int32 × zM :=
(let x2 : Int32 := f_X6_isBlock p1 M;
(if x2 = (0 : Int32) then
f_X6_holds_28 p1 p2 M
else
(let x5 : Int32 := f_X6_in p2 (0 : Int32) (999 : Int32);
(if x5 = (0 : Int32) then
f_X6_holds_28 p1 p2 M
else
(let x7 : Int32 × zM := f_X6_holdsOf p1 p2 M;
((x7.1), (x7.2)))))))
def f_X6_rubs_28 (p1 : Int32) (p2 : Int32) (mm : zM) : Int32 × zM :=
(let x8 : Int32 × zM := f_X6_no (0 : Int32) mm;
((x8.1), (x8.2)))
def f_X6_rubs (p1 : Int32) (p2 : Int32) (M : zM) : Int32 × zM :=
(let x2 : Int32 := f_X6_isBlock p1 M;
(if x2 = (0 : Int32) then
f_X6_rubs_28 p1 p2 M
else
(let x5 : Int32 := f_X6_in p2 (0 : Int32) (999 : Int32);
(if x5 = (0 : Int32) then
f_X6_rubs_28 p1 p2 M
else
(let x7 : Int32 := f_X6_rubsOf p1 p2 M;
(x7, M))))))
def f_X6_push_21 (p1 : Int32) (p2 : Int32) (mm : zM) : Int32 × zM :=
(let x11 : Int32 × zM := f_X6_no (0 : Int32) mm;
((x11.1), (x11.2)))
def f_X6_push (p1 : Int32) (p2 : Int32) (M : zM) : Int32 × zM :=
(let x2 : Int32 := f_X6_isBlock p1 M;
(if x2 = (0 : Int32) then
f_X6_push_21 p1 p2 M
else
(let x5 : Int32 := f_X6_in p2 (-9999 : Int32) (9999 : Int32);
(if x5 = (0 : Int32) then
f_X6_push_21 p1 p2 M
else
(let x7 : Int32 := f_X6_at p1 (5 : Int32) M;
(let x8 : Int32 × zM := f_X6_become p1 (5 : Int32) (x7 + p2) M;
(let x9 : Int32 × zM := f_X6_become p1 (6 : Int32) (0 : Int32) (x8.2);
(let x10 : Int32 := f_X6_at p1 (5 : Int32) (x9.2);
(x10, (x9.2))))))))))
def f_X6_oil_18 (p1 : Int32) (p2 : Int32) (mm : zM) : Int32 × zM :=
(let x11 : Int32 × zM := f_X6_no (0 : Int32) mm;
((x11.1), (x11.2)))
def f_X6_oil (p1 : Int32) (p2 : Int32) (M : zM) : Int32 × zM :=
(let x2 : Int32 := f_X6_isBlock p1 M;
(if x2 = (0 : Int32) then
f_X6_oil_18 p1 p2 M
else
(let x5 : Int32 := f_X6_in p2 (1 : Int32) (99 : Int32);
(if x5 = (0 : Int32) then
f_X6_oil_18 p1 p2 M
else
(let x7 : Int32 := f_X6_at p1 (4 : Int32) M;
(let x8 : Int32 := f_X6_lesser (99 : Int32) (x7 + p2);
(let x9 : Int32 × zM := f_X6_become p1 (4 : Int32) x8 M;
(let x10 : Int32 := f_X6_at p1 (4 : Int32) (x9.2);
(x10, (x9.2))))))))))
def f_X6_pace (p1 : Int32) (M : zM) : Int32 × zM :=
(let x2 : Int32 := f_X6_in p1 (-99 : Int32) (99 : Int32);
(if x2 = (0 : Int32) then
(let x6 : Int32 × zM := f_X6_no (0 : Int32) M;
((x6.1), (x6.2)))
else
(let x4 : Int32 := (M.1 1 2);
(let m5 : zM := zpI M 1 2 p1;
(x4, m5)))))
def f_X6_stepsOf_123 (p1 : Int32) (v2 : Int32) (s0 : Int32) (mm : zM) : Int32 × zM :=
(if (0 : Int32) ≤ v2 then
(s0, mm)
else
((-s0), mm))
def f_X6_stepsOf_62 (p1 : Int32) (v2 : Int32) (v4 : Int32) (s0 : Int32) (mm : zM) : Int32 × zM :=
(let x8 : Int64 := f_X6_without v2;
(if (0 : Int32) < (lg_cmp x8 (s0.toInt64)) then
(let x10 : Int64 := f_X6_without v2;
(let x11 : Int32 := f_X6_springs p1 mm;
(let x12 : Int64 := ((x10 - (v4.toInt64)) / (x11.toInt64));
(if (0 : Int32) ≤ (lg_cmp x12 (1 : Int64)) then
(if (lg_cmp x12 (999 : Int64)) ≤ (0 : Int32) then
f_X6_stepsOf_123 p1 v2 (x12.toInt32) mm
else
f_X6_stepsOf_123 p1 v2 (999 : Int32) mm)
else
f_X6_stepsOf_123 p1 v2 (1 : Int32) mm))))
else
((0 : Int32), mm)))
def f_X6_stepsOf_23 (p1 : Int32) (v2 : Int32) (s0 : Int32) (mm : zM) : Int32 × zM :=
(let x3 : Int64 := f_X6_without (mm.1 6 p1.toNatClampNeg);
(let x4 : Int32 := f_X6_rubsOf p1 (x3.toInt32) mm;
(if s0 = (0 : Int32) then
(let x6 : Int32 := f_X6_at p1 (6 : Int32) mm;
(let x7 : Int32 × zM := f_X6_holdsOf p1 x6 mm;
f_X6_stepsOf_62 p1 v2 x4 (x7.1) (x7.2)))
else
f_X6_stepsOf_62 p1 v2 x4 x4 mm)))
def f_X6_stepsOf (p1 : Int32) (M : zM) : Int32 × zM :=
(let x1 : Int32 := f_X6_pull p1 M;
(if (((M.1 0 9) >>> (p1 &&& 31)) &&& (1 : Int32)) = (1 : Int32) then
f_X6_stepsOf_23 p1 x1 (1 : Int32) M
else
f_X6_stepsOf_23 p1 x1 (0 : Int32) M))
def f_X6_round_33 : Nat → Int32 → Int32 → zM → (Int32 × zM)
  | 0, v1, v2, mm => (0, mm)
  | n33 + 1, v1, v2, mm => (if (mm.1 1 0) ≤ v2 then
(v1, mm)
else
(let m5 : zM := zpI mm 6 v2.toNatClampNeg (mm.1 7 v2.toNatClampNeg);
(if (m5.1 7 v2.toNatClampNeg) = (0 : Int32) then
f_X6_round_33 n33 v1 (v2 + (1 : Int32)) m5
else
(let x7 : Int32 := f_X6_at v2 (5 : Int32) m5;
(let x8 : Int32 × zM := f_X6_become v2 (5 : Int32) (x7 + (m5.1 7 v2.toNatClampNeg)) m5;
(let m9 : zM := zpI (x8.2) 0 9 (((x8.2).1 0 9) ||| ((1 : Int32) <<< (v2 &&& 31)));
(let m10 : zM := zpI m9 0 10 ((m9.1 0 10) + (1 : Int32));
(let x11 : Int64 := f_X6_without (m10.1 7 v2.toNatClampNeg);
(let m12 : zM := zpI m10 0 11 ((m10.1 0 11) + (x11.toInt32));
f_X6_round_33 n33 (1 : Int32) (v2 + (1 : Int32)) m12)))))))))
def f_X6_round_4 : Nat → Int32 → Int32 → zM → (Int32 × zM)
  | 0, v1, v2, mm => (0, mm)
  | n4 + 1, v1, v2, mm => (if (mm.1 1 0) ≤ v2 then
f_X6_round_33 (11) v1 (0 : Int32) mm
else
(let x2 : Int32 × zM := f_X6_stepsOf v2 mm;
(let m3 : zM := zpI (x2.2) 7 v2.toNatClampNeg (x2.1);
f_X6_round_4 n4 v1 (v2 + (1 : Int32)) m3)))
def f_X6_round (M : zM) : Int32 × zM :=
f_X6_round_4 (11) (0 : Int32) (0 : Int32) M
def f_X6_classOf_4 (p0 : Int32) : Nat → Int32 → Int32 → Int32
  | 0, v1, v2 => 0
  | n4 + 1, v1, v2 => (if v2 ≤ (0 : Int32) then
v1
else
(if (6 : Int32) ≤ v1 then
v1
else
(let x3 : Int32 := (v2 / (2 : Int32));
f_X6_classOf_4 p0 n4 (v1 + (1 : Int32)) x3)))
def f_X6_classOf (p0 : Int32) : Int32 :=
f_X6_classOf_4 p0 (7) (0 : Int32) p0
def f_X6_books_3 : Nat → Int32 → zM → zM
  | 0, v1, mm => mm
  | n3 + 1, v1, mm => (if v1 ≤ (0 : Int32) then
(let m2 : zM := zpI mm 1 148 (mm.1 0 10);
(let m3 : zM := zpI m2 1 248 (m2.1 0 9);
(let m4 : zM := zpI m3 1 348 (m3.1 0 11);
(let x5 : Int32 := f_X6_lesser (100 : Int32) ((m4.1 1 13) + (1 : Int32));
(let m6 : zM := zpI m4 1 13 x5;
m6)))))
else
(let m7 : zM := zpI mm 1 ((148 : Int32) + v1).toNatClampNeg (mm.1 1 (((148 : Int32) + v1) - (1 : Int32)).toNatClampNeg);
(let m8 : zM := zpI m7 1 ((248 : Int32) + v1).toNatClampNeg (m7.1 1 (((248 : Int32) + v1) - (1 : Int32)).toNatClampNeg);
(let m9 : zM := zpI m8 1 ((348 : Int32) + v1).toNatClampNeg (m8.1 1 (((348 : Int32) + v1) - (1 : Int32)).toNatClampNeg);
f_X6_books_3 n3 (v1 + (-1 : Int32)) m9))))
def f_X6_books (M : zM) : zM :=
f_X6_books_3 (101) (99 : Int32) M
def f_X6_tick_190 (k100 : Int32 → zM → zM) (v3 : Int32) (s0 : Int32) (s1 : Int32) (s2 : Int32) (mm : zM) : zM :=
(let x28 : Int32 × zM := f_X6_become s2 s1 s0 mm;
k100 (v3 + (1 : Int32)) (x28.2))
def f_X6_tick_157 (k100 : Int32 → zM → zM) (v3 : Int32) (v4 : Int32) (s0 : Int32) (s1 : Int32) (s2 : Int32) (mm : zM) : zM :=
(let x23 : Int32 × zM := f_X6_become s2 s1 s0 mm;
(if v4 = (0 : Int32) then
(let x25 : Int32 := f_X6_at v3 (4 : Int32) (x23.2);
f_X6_tick_190 k100 v3 x25 (4 : Int32) v3 (x23.2))
else
(let x26 : Int32 := f_X6_at v3 (4 : Int32) (x23.2);
(let x27 : Int32 := f_X6_greater (0 : Int32) (x26 - (1 : Int32));
f_X6_tick_190 k100 v3 x27 (4 : Int32) v3 (x23.2)))))
def f_X6_tick_127 (k100 : Int32 → zM → zM) (v3 : Int32) (s0 : Int32) (mm : zM) : zM :=
(if s0 = (0 : Int32) then
(let x21 : Int32 := f_X6_at v3 (6 : Int32) mm;
(let x22 : Int32 := f_X6_lesser (999 : Int32) (x21 + (1 : Int32));
f_X6_tick_157 k100 v3 s0 x22 (6 : Int32) v3 mm))
else
f_X6_tick_157 k100 v3 s0 (0 : Int32) (6 : Int32) v3 mm)
def f_X6_tick_100 : Nat → Int32 → zM → zM
  | 0, v3, mm => mm
  | n100 + 1, v3, mm => (if (mm.1 1 0) ≤ v3 then
(let m15 : zM := zpI mm 1 3 ((mm.1 1 3) + (1 : Int32));
(let x16 : Int32 := f_X6_classOf (m15.1 0 10);
(let m17 : zM := zpI m15 1 ((6 : Int32) + x16).toNatClampNeg ((m15.1 1 ((6 : Int32) + x16).toNatClampNeg) + (1 : Int32));
(let m18 : zM := f_X6_books m17;
m18))))
else
(if (((mm.1 0 9) >>> (v3 &&& 31)) &&& (1 : Int32)) = (1 : Int32) then
f_X6_tick_127 (fun wv3 wmm => f_X6_tick_100 n100 wv3 wmm) v3 (1 : Int32) mm
else
f_X6_tick_127 (fun wv3 wmm => f_X6_tick_100 n100 wv3 wmm) v3 (0 : Int32) mm))
def f_X6_tick_96 (s0 : Int32) (s1 : Int32) (s2 : Int32) (mm : zM) : zM :=
(let m13 : zM := zpI mm 1 s2.toNatClampNeg (s1 + s0);
f_X6_tick_100 (11) (0 : Int32) m13)
def f_X6_tick_80 (v2 : Int32) (mm : zM) : zM :=
(if v2 = (0 : Int32) then
f_X6_tick_96 (0 : Int32) (mm.1 1 4) (4 : Int32) mm
else
f_X6_tick_96 (1 : Int32) (mm.1 1 4) (4 : Int32) mm)
def f_X6_tick_59 : Nat → Int32 → Int32 → zM → zM
  | 0, v1, v2, mm => mm
  | n59 + 1, v1, v2, mm => (if v2 = (0 : Int32) then
f_X6_tick_80 v2 mm
else
(if (40 : Int32) ≤ v1 then
f_X6_tick_80 v2 mm
else
(let x10 : Int32 × zM := f_X6_round mm;
(let x11 : Int32 := (x10.1);
f_X6_tick_59 n59 (v1 + (1 : Int32)) x11 (x10.2)))))
def f_X6_tick_32 : Nat → Int32 → zM → zM
  | 0, v1, mm => mm
  | n32 + 1, v1, mm => (if (mm.1 1 0) ≤ v1 then
f_X6_tick_59 (41) (0 : Int32) (1 : Int32) mm
else
(let m6 : zM := zpI mm 6 v1.toNatClampNeg (0 : Int32);
f_X6_tick_32 n32 (v1 + (1 : Int32)) m6))
def f_X6_tick (M : zM) : zM :=
(let m1 : zM := zpI M 1 1 ((M.1 1 1) + (M.1 1 2));
(let m2 : zM := zpI m1 0 9 (0 : Int32);
(let m3 : zM := zpI m2 0 10 (0 : Int32);
(let m4 : zM := zpI m3 0 11 (0 : Int32);
f_X6_tick_32 (11) (0 : Int32) m4))))
def f_X6_ticks_18 (p1 : Int32) : Nat → Int32 → zM → (Int32 × zM)
  | 0, v2, mm => (0, mm)
  | n18 + 1, v2, mm => (if p1 ≤ v2 then
((mm.1 0 10), mm)
else
(let m6 : zM := f_X6_tick mm;
f_X6_ticks_18 p1 n18 (v2 + (1 : Int32)) m6))
def f_X6_ticks (p1 : Int32) (M : zM) : Int32 × zM :=
(let x2 : Int32 := f_X6_in p1 (1 : Int32) (100 : Int32);
(if x2 = (0 : Int32) then
(let x4 : Int32 × zM := f_X6_no (0 : Int32) M;
((x4.1), (x4.2)))
else
f_X6_ticks_18 p1 (101) (0 : Int32) M))
def f_X6_until_21 (p1 : Int32) (p2 : Int32) (mm : zM) : Int32 × zM :=
(let x7 : Int32 × zM := f_X6_no (0 : Int32) mm;
((x7.1), (x7.2)))
def f_X6_until_32 (p1 : Int32) (p2 : Int32) : Nat → Int32 → Int32 → zM → (Int32 × zM)
  | 0, v3, v4, mm => (0, mm)
  | n32 + 1, v3, v4, mm => (if v4 = (0 : Int32) then
(v3, mm)
else
(if p2 ≤ v3 then
(v3, mm)
else
(let m10 : zM := f_X6_tick mm;
(if p1 ≤ (m10.1 0 10) then
f_X6_until_32 p1 p2 n32 (v3 + (1 : Int32)) (0 : Int32) m10
else
f_X6_until_32 p1 p2 n32 (v3 + (1 : Int32)) (1 : Int32) m10))))
def f_X6_until (p1 : Int32) (p2 : Int32) (M : zM) : Int32 × zM :=
(let x2 : Int32 := f_X6_in p1 (1 : Int32) (400 : Int32);
(if x2 = (0 : Int32) then
f_X6_until_21 p1 p2 M
else
(let x5 : Int32 := f_X6_in p2 (1 : Int32) (100 : Int32);
(if x5 = (0 : Int32) then
f_X6_until_21 p1 p2 M
else
f_X6_until_32 p1 p2 (101) (0 : Int32) (1 : Int32) M))))
def f_X6_book_26 (p1 : Int32) (p2 : Int32) (mm : zM) : Int32 × zM :=
(let x7 : Int32 × zM := f_X6_no (0 : Int32) mm;
((x7.1), (x7.2)))
def f_X6_book (p1 : Int32) (p2 : Int32) (M : zM) : Int32 × zM :=
(let x2 : Int32 := f_X6_in p1 (0 : Int32) ((M.1 1 13) - (1 : Int32));
(if x2 = (0 : Int32) then
f_X6_book_26 p1 p2 M
else
(let x5 : Int32 := f_X6_in p2 (0 : Int32) (2 : Int32);
(if x5 = (0 : Int32) then
f_X6_book_26 p1 p2 M
else
((M.1 1 (((148 : Int32) + ((100 : Int32) * p2)) + p1).toNatClampNeg), M)))))
def f_X6_counts (p1 : Int32) (M : zM) : Int32 × zM :=
(let x2 : Int32 := f_X6_in p1 (0 : Int32) (6 : Int32);
(if x2 = (0 : Int32) then
(let x4 : Int32 × zM := f_X6_no (0 : Int32) M;
((x4.1), (x4.2)))
else
((M.1 1 ((6 : Int32) + p1).toNatClampNeg), M)))
def f_X6_power_4 (M : zM) : Nat → Int32 → Int32 → Int32
  | 0, v1, v2 => 0
  | n4 + 1, v1, v2 => (if (6 : Int32) < v2 then
(if v1 = (0 : Int32) then
(0 : Int32)
else
(1 : Int32))
else
(if v1 = (0 : Int32) then
f_X6_power_4 M n4 (0 : Int32) (v2 + (1 : Int32))
else
(if (M.1 1 (((6 : Int32) + v2) - (1 : Int32)).toNatClampNeg) < (M.1 1 ((6 : Int32) + v2).toNatClampNeg) then
f_X6_power_4 M n4 (0 : Int32) (v2 + (1 : Int32))
else
f_X6_power_4 M n4 (1 : Int32) (v2 + (1 : Int32)))))
def f_X6_power (M : zM) : Int32 :=
f_X6_power_4 M (8) (1 : Int32) (2 : Int32)
def f_X6_tone_4 : Nat → Int32 → Int32 → zM → (Int32 × zM)
  | 0, v1, v2, mm => (0, mm)
  | n4 + 1, v1, v2, mm => (if (mm.1 1 13) ≤ v2 then
(let x2 : Int32 × zM := f_X6_no (3 : Int32) mm;
((x2.1), (x2.2)))
else
(if (mm.1 1 ((148 : Int32) + v2).toNatClampNeg) ≤ (0 : Int32) then
f_X6_tone_4 n4 v1 (v2 + (1 : Int32)) mm
else
(if v1 < (0 : Int32) then
f_X6_tone_4 n4 v2 (v2 + (1 : Int32)) mm
else
((v2 - v1), mm))))
def f_X6_tone (M : zM) : Int32 × zM :=
f_X6_tone_4 (101) (-1 : Int32) (0 : Int32) M
def f_X6_great_20 (p1 : Int32) (p2 : Int32) (mm : zM) : Int32 × zM :=
(let x7 : Int32 × zM := f_X6_no (0 : Int32) mm;
((x7.1), (x7.2)))
def f_X6_great_100 (p1 : Int32) (p2 : Int32) (k31 : Int32 → Int32 → zM → (Int32 × zM)) (v3 : Int32) (v4 : Int32) (v5 : Int32) (s0 : Int32) (mm : zM) : Int32 × zM :=
(if v5 = (0 : Int32) then
(let x13 : Int32 := (v3 + (0 : Int32));
k31 x13 (v4 + (1 : Int32)) mm)
else
(if p2 = (0 : Int32) then
(let x15 : Int32 := (v3 + (1 : Int32));
k31 x15 (v4 + (1 : Int32)) mm)
else
(if s0 = (0 : Int32) then
(let x17 : Int32 := (v3 + (0 : Int32));
k31 x17 (v4 + (1 : Int32)) mm)
else
(let x18 : Int32 := (v3 + (1 : Int32));
k31 x18 (v4 + (1 : Int32)) mm))))
def f_X6_great_99 (p1 : Int32) (p2 : Int32) (k31 : Int32 → Int32 → zM → (Int32 × zM)) (v3 : Int32) (v4 : Int32) (v5 : Int32) (mm : zM) : Int32 × zM :=
f_X6_great_100 p1 p2 k31 v3 v4 v5 (0 : Int32) mm
def f_X6_great_63 (p1 : Int32) (p2 : Int32) (k31 : Int32 → Int32 → zM → (Int32 × zM)) (v3 : Int32) (v4 : Int32) (s0 : Int32) (mm : zM) : Int32 × zM :=
(if (mm.1 1 13) ≤ (v4 + (1 : Int32)) then
f_X6_great_99 p1 p2 k31 v3 v4 s0 mm
else
(if (mm.1 1 (((148 : Int32) + v4) + (1 : Int32)).toNatClampNeg) ≤ (0 : Int32) then
f_X6_great_99 p1 p2 k31 v3 v4 s0 mm
else
f_X6_great_100 p1 p2 k31 v3 v4 s0 (1 : Int32) mm))
def f_X6_great_31 (p1 : Int32) (p2 : Int32) : Nat → Int32 → Int32 → zM → (Int32 × zM)
  | 0, v3, v4, mm => (0, mm)
  | n31 + 1, v3, v4, mm => (if (mm.1 1 13) ≤ v4 then
(v3, mm)
else
(if (mm.1 1 ((148 : Int32) + v4).toNatClampNeg) < p1 then
f_X6_great_63 p1 p2 (fun wv3 wv4 wmm => f_X6_great_31 p1 p2 n31 wv3 wv4 wmm) v3 v4 (0 : Int32) mm
else
f_X6_great_63 p1 p2 (fun wv3 wv4 wmm => f_X6_great_31 p1 p2 n31 wv3 wv4 wmm) v3 v4 (1 : Int32) mm))
def f_X6_great (p1 : Int32) (p2 : Int32) (M : zM) : Int32 × zM :=
(let x2 : Int32 := f_X6_in p1 (1 : Int32) (400 : Int32);
(if x2 = (0 : Int32) then
f_X6_great_20 p1 p2 M
else
(let x5 : Int32 := f_X6_in p2 (0 : Int32) (1 : Int32);
(if x5 = (0 : Int32) then
f_X6_great_20 p1 p2 M
else
f_X6_great_31 p1 p2 (101) (0 : Int32) (0 : Int32) M))))
def f_X6_noise_20 (p1 : Int32) : Nat → Int64 → Int32 → zM → (Int64 × zM)
  | 0, v2, v4, mm => (0, mm)
  | n20 + 1, v2, v4, mm => (if (mm.1 1 13) ≤ v4 then
(v2, mm)
else
(if (((mm.1 1 ((248 : Int32) + v4).toNatClampNeg) >>> (p1 &&& 31)) &&& (1 : Int32)) = (1 : Int32) then
(let x8 : Int64 := (v2 + ((mm.1 1 ((348 : Int32) + v4).toNatClampNeg).toInt64));
f_X6_noise_20 p1 n20 x8 (v4 + (1 : Int32)) mm)
else
(let x7 : Int64 := (v2 + (0 : Int64));
f_X6_noise_20 p1 n20 x7 (v4 + (1 : Int32)) mm)))
def f_X6_noise (p1 : Int32) (M : zM) : Int64 × zM :=
(let x2 : Int32 := f_X6_isBlock p1 M;
(if x2 = (0 : Int32) then
(let x4 : Int32 × zM := f_X6_no (0 : Int32) M;
(((x4.1).toInt64), (x4.2)))
else
f_X6_noise_20 p1 (101) (0 : Int64) (0 : Int32) M))
def f_X6_lay_2 (a0 : Nat) (a1 : Nat) : Nat → Int32 → zM → zM
  | 0, v2, mm => mm
  | n2 + 1, v2, mm => (if (448 : Int32) ≤ v2 then
mm
else
(let m2 : zM := zpI mm a1 v2.toNatClampNeg (mm.1 a0 v2.toNatClampNeg);
f_X6_lay_2 a0 a1 n2 (v2 + (1 : Int32)) m2))
def f_X6_lay (a0 : Nat) (a1 : Nat) (M : zM) : zM :=
f_X6_lay_2 a0 a1 (449) (0 : Int32) M
def f_X6_goes_7 (p1 : Int32) : Nat → Int32 → zM → zM
  | 0, v2, mm => mm
  | n7 + 1, v2, mm => (if p1 ≤ v2 then
mm
else
(let m3 : zM := f_X6_tick mm;
(let m4 : zM := zpI m3 8 v2.toNatClampNeg (m3.1 0 10);
(let m5 : zM := zpI m4 9 v2.toNatClampNeg (m4.1 0 9);
(let m6 : zM := zpI m5 0 14 ((m5.1 0 14) + (m5.1 0 11));
f_X6_goes_7 p1 n7 (v2 + (1 : Int32)) m6)))))
def f_X6_goes (p1 : Int32) (M : zM) : zM :=
(let m1 : zM := zpI M 0 14 (0 : Int32);
f_X6_goes_7 p1 (61) (0 : Int32) m1)
def f_X6_isAhead (p0 : Int32) : Int32 :=
(let x2 : Int32 := f_X6_in p0 (1 : Int32) (60 : Int32);
x2)
def f_X6_jumps_4 (p1 : Int32) (M : zM) : Nat → Int32 → Int32 → Int32
  | 0, v2, v3 => 0
  | n4 + 1, v2, v3 => (if p1 ≤ v3 then
v2
else
(if (M.1 8 v3.toNatClampNeg) ≤ (0 : Int32) then
(let x3 : Int32 := (v2 + (0 : Int32));
f_X6_jumps_4 p1 M n4 x3 (v3 + (1 : Int32)))
else
(let x4 : Int32 := (v2 + (1 : Int32));
f_X6_jumps_4 p1 M n4 x4 (v3 + (1 : Int32)))))
def f_X6_jumps (p1 : Int32) (M : zM) : Int32 :=
f_X6_jumps_4 p1 M (61) (0 : Int32) (0 : Int32)
def f_X6_greatest_4 (p1 : Int32) (M : zM) : Nat → Int32 → Int32 → Int32
  | 0, v2, v3 => 0
  | n4 + 1, v2, v3 => (if p1 ≤ v3 then
v2
else
(let x2 : Int32 := f_X6_greater v2 (M.1 8 v3.toNatClampNeg);
f_X6_greatest_4 p1 M n4 x2 (v3 + (1 : Int32))))
def f_X6_greatest (p1 : Int32) (M : zM) : Int32 :=
f_X6_greatest_4 p1 M (61) (0 : Int32) (0 : Int32)
def f_X6_ahead_23 (p1 : Int32) (p2 : Int32) (mm : zM) : Int32 × zM :=
(let x11 : Int32 × zM := f_X6_no (0 : Int32) mm;
((x11.1), (x11.2)))
def f_X6_ahead_62 (p1 : Int32) (p2 : Int32) (s0 : Int32) (mm : zM) : Int32 × zM :=
(let m12 : zM := f_X6_lay 3 1 mm;
(if p2 = (0 : Int32) then
(let x14 : Int32 := f_X6_jumps p1 m12;
(x14, m12))
else
(if p2 = (1 : Int32) then
(let x15 : Int32 := f_X6_jumps p1 m12;
(if x15 = p1 then
((1 : Int32), m12)
else
((0 : Int32), m12)))
else
(if p2 = (2 : Int32) then
(let x17 : Int32 := f_X6_greatest p1 m12;
(x17, m12))
else
(if p2 = (3 : Int32) then
((m12.1 0 14), m12)
else
(s0, m12))))))
def f_X6_ahead (p1 : Int32) (p2 : Int32) (M : zM) : Int32 × zM :=
(let x2 : Int32 := f_X6_isAhead p1;
(if x2 = (0 : Int32) then
f_X6_ahead_23 p1 p2 M
else
(let x5 : Int32 := f_X6_in p2 (0 : Int32) ((3 : Int32) + (M.1 1 0));
(if x5 = (0 : Int32) then
f_X6_ahead_23 p1 p2 M
else
(let m7 : zM := f_X6_lay 1 3 M;
(let m8 : zM := f_X6_goes p1 m7;
(if p2 ≤ (3 : Int32) then
f_X6_ahead_62 p1 p2 (0 : Int32) m8
else
(let x10 : Int32 := f_X6_at (p2 - (4 : Int32)) (5 : Int32) m8;
f_X6_ahead_62 p1 p2 x10 m8))))))))
def f_X6_isSo (p1 : Int32) (p2 : Int32) (p3 : Int32) (p4 : Int32) (p5 : Int32) (M : zM) : Int32 × zM :=
(let m1 : zM := f_X6_lay 1 3 M;
(let m2 : zM := zpI m1 1 p2.toNatClampNeg p3;
(let m3 : zM := f_X6_goes p1 m2;
(let m4 : zM := f_X6_lay 3 1 m3;
(if p4 = (0 : Int32) then
(let x8 : Int32 := f_X6_jumps p1 m4;
(if x8 = p1 then
((1 : Int32), m4)
else
((0 : Int32), m4)))
else
(let x6 : Int32 := f_X6_greatest p1 m4;
(if p5 < x6 then
((0 : Int32), m4)
else
((1 : Int32), m4))))))))
def f_X6_leastSo_30 (p1 : Int32) (p2 : Int32) (p3 : Int32) (p4 : Int32) (v5 : Int32) (mm : zM) : Int32 × zM :=
(if (99 : Int32) < v5 then
(let x6 : Int32 × zM := f_X6_no (3 : Int32) mm;
((x6.1), (x6.2)))
else
(v5, mm))
def f_X6_leastSo_3 (p1 : Int32) (p2 : Int32) (p3 : Int32) (p4 : Int32) : Nat → Int32 → zM → (Int32 × zM)
  | 0, v5, mm => (0, mm)
  | n3 + 1, v5, mm => (if (99 : Int32) < v5 then
f_X6_leastSo_30 p1 p2 p3 p4 v5 mm
else
(let x3 : Int32 × zM := f_X6_isSo p1 p2 v5 p3 p4 mm;
(if (x3.1) = (0 : Int32) then
f_X6_leastSo_3 p1 p2 p3 p4 n3 (v5 + (1 : Int32)) (x3.2)
else
f_X6_leastSo_30 p1 p2 p3 p4 v5 (x3.2))))
def f_X6_leastSo (p1 : Int32) (p2 : Int32) (p3 : Int32) (p4 : Int32) (M : zM) : Int32 × zM :=
f_X6_leastSo_3 p1 p2 p3 p4 (101) (0 : Int32) M
def f_X6_from (p1 : Int32) (M : zM) : Int32 × zM :=
(let x2 : Int32 := f_X6_isAhead p1;
(if x2 = (0 : Int32) then
(let x4 : Int32 × zM := f_X6_no (0 : Int32) M;
((x4.1), (x4.2)))
else
(let x5 : Int32 × zM := f_X6_leastSo p1 (2 : Int32) (0 : Int32) (0 : Int32) M;
((x5.1), (x5.2)))))
def f_X6_still_26 (p1 : Int32) (p2 : Int32) (p3 : Int32) (mm : zM) : Int32 × zM :=
(let x11 : Int32 × zM := f_X6_no (0 : Int32) mm;
((x11.1), (x11.2)))
def f_X6_still (p1 : Int32) (p2 : Int32) (p3 : Int32) (M : zM) : Int32 × zM :=
(let x2 : Int32 := f_X6_isBlock p1 M;
(if x2 = (0 : Int32) then
f_X6_still_26 p1 p2 p3 M
else
(let x5 : Int32 := f_X6_isAhead p2;
(if x5 = (0 : Int32) then
f_X6_still_26 p1 p2 p3 M
else
(let x8 : Int32 := f_X6_in p3 (0 : Int32) (400 : Int32);
(if x8 = (0 : Int32) then
f_X6_still_26 p1 p2 p3 M
else
(let x10 : Int32 × zM := f_X6_leastSo p2 (((78 : Int32) + ((7 : Int32) * p1)) + (4 : Int32)) (1 : Int32) p3 M;
((x10.1), (x10.2)))))))))
def f_X6_longOf (p1 : Int32) (M : zM) : Int32 :=
(M.1 13 p1.toNatClampNeg)
def f_X6_gives_82 (p1 : Int32) (p2 : Int32) (p3 : Int32) (v5 : Int32) (mm : zM) : Int32 × zM :=
(let m8 : zM := f_X6_lay 3 1 mm;
(v5, m8))
def f_X6_gives_32 (p1 : Int32) (p2 : Int32) (p3 : Int32) : Nat → Int32 → Int32 → Int32 → zM → (Int32 × zM)
  | 0, v4, v5, v6, mm => (0, mm)
  | n32 + 1, v4, v5, v6, mm => (if v4 ≤ v6 then
f_X6_gives_82 p1 p2 p3 v5 mm
else
(if v5 = (0 : Int32) then
f_X6_gives_82 p1 p2 p3 v5 mm
else
(let m6 : zM := f_X6_tick mm;
(if (lg_cmp (m6.2 14 (((40 : Int32) * p3) + v6).toNatClampNeg) ((m6.1 0 10).toInt64)) = (0 : Int32) then
f_X6_gives_32 p1 p2 p3 n32 v4 (1 : Int32) (v6 + (1 : Int32)) m6
else
f_X6_gives_32 p1 p2 p3 n32 v4 (0 : Int32) (v6 + (1 : Int32)) m6))))
def f_X6_gives (p1 : Int32) (p2 : Int32) (p3 : Int32) (M : zM) : Int32 × zM :=
(let x1 : Int32 := f_X6_longOf p3 M;
(let m2 : zM := f_X6_lay 1 3 M;
(let x3 : Int32 × zM := f_X6_become p1 (0 : Int32) p2 m2;
f_X6_gives_32 p1 p2 p3 (41) x1 (1 : Int32) (0 : Int32) (x3.2))))
def f_X6_isSheet (p0 : Int32) : Int32 :=
(let x2 : Int32 := f_X6_in p0 (0 : Int32) (3 : Int32);
x2)
def f_X6_which_15 (p1 : Int32) (p2 : Int32) (mm : zM) : Int32 × zM :=
(let x12 : Int32 × zM := f_X6_no (0 : Int32) mm;
((x12.1), (x12.2)))
def f_X6_which_56 (p1 : Int32) (p2 : Int32) : Nat → Int32 → Int32 → zM → (Int32 × zM)
  | 0, v3, v4, mm => (0, mm)
  | n56 + 1, v3, v4, mm => (if (5 : Int32) < v4 then
(v3, mm)
else
(let x15 : Int32 × zM := f_X6_gives p1 v4 p2 mm;
(if (x15.1) = (0 : Int32) then
(let x17 : Int32 := (v3 ||| (0 : Int32));
f_X6_which_56 p1 p2 n56 x17 (v4 + (1 : Int32)) (x15.2))
else
(let x18 : Int32 := (v3 ||| ((1 : Int32) <<< (v4 &&& 31)));
f_X6_which_56 p1 p2 n56 x18 (v4 + (1 : Int32)) (x15.2)))))
def f_X6_which (p1 : Int32) (p2 : Int32) (M : zM) : Int32 × zM :=
(let x2 : Int32 := f_X6_isBlock p1 M;
(if x2 = (0 : Int32) then
f_X6_which_15 p1 p2 M
else
(let x5 : Int32 := f_X6_isSheet p2;
(if x5 = (0 : Int32) then
f_X6_which_15 p1 p2 M
else
(if (M.1 12 p2.toNatClampNeg) = (0 : Int32) then
(let x11 : Int32 × zM := f_X6_no (5 : Int32) M;
((x11.1), (x11.2)))
else
(let x8 : Int32 := f_X6_longOf p2 M;
(if x8 = (0 : Int32) then
(let x10 : Int32 × zM := f_X6_no (6 : Int32) M;
((x10.1), (x10.2)))
else
f_X6_which_56 p1 p2 (7) (0 : Int32) (0 : Int32) M)))))))
def f_X6_together_28 (p1 : Int32) (p2 : Int32) (p3 : Int32) (mm : zM) : Int32 × zM :=
(let x14 : Int32 × zM := f_X6_no (0 : Int32) mm;
((x14.1), (x14.2)))
def f_X6_together_67 (p1 : Int32) (p2 : Int32) (p3 : Int32) : Nat → Int32 → Int32 → zM → (Int32 × zM)
  | 0, v4, v5, mm => (0, mm)
  | n67 + 1, v4, v5, mm => (if p3 ≤ v5 then
(v4, mm)
else
(let x16 : Int32 := (v4 + ((((mm.1 9 v5.toNatClampNeg) >>> (p1 &&& 31)) &&& ((mm.1 9 v5.toNatClampNeg) >>> (p2 &&& 31))) &&& (1 : Int32)));
f_X6_together_67 p1 p2 p3 n67 x16 (v5 + (1 : Int32)) mm))
def f_X6_together (p1 : Int32) (p2 : Int32) (p3 : Int32) (M : zM) : Int32 × zM :=
(let x2 : Int32 := f_X6_isBlock p1 M;
(if x2 = (0 : Int32) then
f_X6_together_28 p1 p2 p3 M
else
(let x5 : Int32 := f_X6_isBlock p2 M;
(if x5 = (0 : Int32) then
f_X6_together_28 p1 p2 p3 M
else
(if p1 = p2 then
f_X6_together_28 p1 p2 p3 M
else
(let x9 : Int32 := f_X6_isAhead p3;
(if x9 = (0 : Int32) then
f_X6_together_28 p1 p2 p3 M
else
(let m11 : zM := f_X6_lay 1 3 M;
(let m12 : zM := f_X6_goes p3 m11;
(let m13 : zM := f_X6_lay 3 1 m12;
f_X6_together_67 p1 p2 p3 (61) (0 : Int32) (0 : Int32) m13))))))))))
def f_X6_byteAt (M : zM) : Int32 :=
(if (M.1 0 5) ≤ (M.1 0 17) then
(-1 : Int32)
else
(M.1 4 (M.1 0 17).toNatClampNeg))
def f_X6_fails (M : zM) : zM :=
(if (0 : Int32) ≤ (M.1 0 18) then
M
else
(let m2 : zM := zpI M 0 18 (M.1 0 17);
m2))
def f_X6_may_20 (p1 : Int32) (s0 : Int32) (mm : zM) : Int32 × zM :=
(if s0 = (0 : Int32) then
(let m5 : zM := zpI mm 0 17 ((mm.1 0 17) + (0 : Int32));
(s0, m5))
else
(let m6 : zM := zpI mm 0 17 ((mm.1 0 17) + (1 : Int32));
(s0, m6)))
def f_X6_may_19 (p1 : Int32) (mm : zM) : Int32 × zM :=
f_X6_may_20 p1 (0 : Int32) mm
def f_X6_may (p1 : Int32) (M : zM) : Int32 × zM :=
(if (0 : Int32) ≤ (M.1 0 18) then
f_X6_may_19 p1 M
else
(let x2 : Int32 := f_X6_byteAt M;
(if x2 = p1 then
f_X6_may_20 p1 (1 : Int32) M
else
f_X6_may_19 p1 M)))
def f_X6_must (p1 : Int32) (M : zM) : zM :=
(let x2 : Int32 × zM := f_X6_may p1 M;
(if (x2.1) = (0 : Int32) then
(let m4 : zM := f_X6_fails (x2.2);
m4)
else
(x2.2)))
def f_X6_emit (p1 : Int32) (M : zM) : zM :=
(if (0 : Int32) ≤ (M.1 0 18) then
M
else
(let m2 : zM := zpI M 10 (M.1 0 16).toNatClampNeg p1;
(let m3 : zM := zpI m2 0 16 ((m2.1 0 16) + (1 : Int32));
m3)))
def f_X6_isDigit (p0 : Int32) : Int32 :=
(let x2 : Int32 := f_X6_in p0 (48 : Int32) (57 : Int32);
x2)
def f_X6_nameOf (p0 : Int32) : Int32 :=
(if p0 = (98 : Int32) then
(1 : Int32)
else
(if p0 = (100 : Int32) then
(4 : Int32)
else
(if p0 = (103 : Int32) then
(2 : Int32)
else
(if p0 = (107 : Int32) then
(3 : Int32)
else
(if p0 = (112 : Int32) then
(5 : Int32)
else
(if p0 = (115 : Int32) then
(0 : Int32)
else
(-1 : Int32)))))))
def f_X6_number_48 (v1 : Int32) (mm : zM) : zM :=
(let m9 : zM := f_X6_emit v1 mm;
m9)
def f_X6_number_4 : Nat → Int32 → Int32 → zM → zM
  | 0, v1, v2, mm => mm
  | n4 + 1, v1, v2, mm => (if (3 : Int32) ≤ v2 then
f_X6_number_48 v1 mm
else
(let x2 : Int32 := f_X6_byteAt mm;
(let x4 : Int32 := f_X6_isDigit x2;
(if x4 = (0 : Int32) then
f_X6_number_48 v1 mm
else
(let x6 : Int32 := f_X6_byteAt mm;
(let x7 : Int32 := ((((10 : Int32) * v1) + x6) - (48 : Int32));
(let m8 : zM := zpI mm 0 17 ((mm.1 0 17) + (1 : Int32));
f_X6_number_4 n4 x7 (v2 + (1 : Int32)) m8)))))))
def f_X6_number (M : zM) : zM :=
f_X6_number_4 (4) (0 : Int32) (0 : Int32) M
def f_X6_opens (p1 : Int32) (M : zM) : Int32 × zM :=
(if (0 : Int32) ≤ (M.1 0 18) then
((0 : Int32), M)
else
(let x2 : Int32 := f_X6_byteAt M;
(if x2 = p1 then
(if (M.1 0 19) = (5 : Int32) then
(let m7 : zM := f_X6_fails M;
((0 : Int32), m7))
else
(let m5 : zM := zpI M 0 19 ((M.1 0 19) + (1 : Int32));
(let m6 : zM := zpI m5 0 17 ((m5.1 0 17) + (1 : Int32));
((1 : Int32), m6))))
else
((0 : Int32), M))))
def f_X6_feed_36 (p1 : Int32) (p2 : Int32) : Nat → Int32 → zM → (Int32 × zM)
  | 0, v3, mm => (0, mm)
  | n36 + 1, v3, mm => (if v3 < (0 : Int32) then
((mm.1 0 5), mm)
else
(let m9 : zM := zpI mm 4 (mm.1 0 5).toNatClampNeg ((p1 >>> (((8 : Int32) * v3) &&& 31)) &&& (255 : Int32));
(let m10 : zM := zpI m9 0 5 ((m9.1 0 5) + (1 : Int32));
f_X6_feed_36 p1 p2 n36 (v3 + (-1 : Int32)) m10)))
def f_X6_feed (p1 : Int32) (p2 : Int32) (M : zM) : Int32 × zM :=
(let x2 : Int32 := f_X6_in p2 (1 : Int32) (4 : Int32);
(if x2 = (0 : Int32) then
(let x7 : Int32 × zM := f_X6_no (0 : Int32) M;
((x7.1), (x7.2)))
else
(if ((M.1 0 5) + p2) ≤ (60 : Int32) then
(let x5 : Int32 := (p2 - (1 : Int32));
f_X6_feed_36 p1 p2 (5) x5 M)
else
(let x6 : Int32 × zM := f_X6_no (1 : Int32) M;
((x6.1), (x6.2))))))
def f_X6_wipe (M : zM) : Int32 × zM :=
(let x1 : Int32 := (M.1 0 5);
(let m2 : zM := zpI M 0 5 (0 : Int32);
(x1, m2)))
def f_X6_factor (Fsum Ffac : zM → zM) (M : zM) : zM :=
(if (M.1 0 18) < (0 : Int32) then
(let x2 : Int32 := f_X6_byteAt M;
(let x4 : Int32 := f_X6_isDigit x2;
(if x4 = (0 : Int32) then
(let x6 : Int32 := f_X6_byteAt M;
(let x7 : Int32 := f_X6_nameOf x6;
(if x7 < (0 : Int32) then
(let x10 : Int32 × zM := f_X6_opens (45 : Int32) M;
(if (x10.1) = (0 : Int32) then
(let x13 : Int32 × zM := f_X6_opens (40 : Int32) (x10.2);
(if (x13.1) = (0 : Int32) then
(let x16 : Int32 × zM := f_X6_opens (91 : Int32) (x13.2);
(if (x16.1) = (0 : Int32) then
(let m18 : zM := f_X6_fails (x16.2);
m18)
else
(let m19 : zM := Fsum (x16.2);
(let m20 : zM := f_X6_must (44 : Int32) m19;
(let m21 : zM := Fsum m20;
(let m22 : zM := f_X6_must (93 : Int32) m21;
(let m23 : zM := f_X6_emit (2005 : Int32) m22;
(let m24 : zM := zpI m23 0 19 ((m23.1 0 19) - (1 : Int32));
m24))))))))
else
(let m25 : zM := Fsum (x13.2);
(let m26 : zM := f_X6_must (41 : Int32) m25;
(let m27 : zM := zpI m26 0 19 ((m26.1 0 19) - (1 : Int32));
m27)))))
else
(let m28 : zM := Ffac (x10.2);
(let m29 : zM := f_X6_emit (2004 : Int32) m28;
(let m30 : zM := zpI m29 0 19 ((m29.1 0 19) - (1 : Int32));
m30)))))
else
(let x31 : Int32 := f_X6_byteAt M;
(let x32 : Int32 := f_X6_nameOf x31;
(let m33 : zM := f_X6_emit ((1000 : Int32) + x32) M;
(let m34 : zM := zpI m33 0 17 ((m33.1 0 17) + (1 : Int32));
m34)))))))
else
(let m35 : zM := f_X6_number M;
m35))))
else
M)
def f_X6_term_51 (Ffac : zM → zM) (k6 : Int32 → zM → zM) (v2 : Int32) (s0 : Int32) (mm : zM) : zM :=
(if s0 = (0 : Int32) then
k6 s0 mm
else
(let m11 : zM := Ffac mm;
(let m12 : zM := f_X6_emit v2 m11;
k6 s0 m12)))
def f_X6_term_41 (Ffac : zM → zM) (k6 : Int32 → zM → zM) (s0 : Int32) (mm : zM) : zM :=
(if s0 < (0 : Int32) then
f_X6_term_51 Ffac k6 s0 (0 : Int32) mm
else
f_X6_term_51 Ffac k6 s0 (1 : Int32) mm)
def f_X6_term_6 (Ffac : zM → zM) : Nat → Int32 → zM → zM
  | 0, v1, mm => mm
  | n6 + 1, v1, mm => (if v1 = (0 : Int32) then
mm
else
(let x4 : Int32 × zM := f_X6_may (42 : Int32) mm;
(if (x4.1) = (0 : Int32) then
(let x7 : Int32 × zM := f_X6_may (47 : Int32) (x4.2);
(if (x7.1) = (0 : Int32) then
f_X6_term_41 Ffac (fun wv1 wmm => f_X6_term_6 Ffac n6 wv1 wmm) (-1 : Int32) (x7.2)
else
f_X6_term_41 Ffac (fun wv1 wmm => f_X6_term_6 Ffac n6 wv1 wmm) (2003 : Int32) (x7.2)))
else
f_X6_term_41 Ffac (fun wv1 wmm => f_X6_term_6 Ffac n6 wv1 wmm) (2002 : Int32) (x4.2))))
def f_X6_term (Ffac : zM → zM) (M : zM) : zM :=
(let m1 : zM := Ffac M;
f_X6_term_6 Ffac (63) (1 : Int32) m1)
def f_X6_sum_51 (Fterm : zM → zM) (k6 : Int32 → zM → zM) (v2 : Int32) (s0 : Int32) (mm : zM) : zM :=
(if s0 = (0 : Int32) then
k6 s0 mm
else
(let m11 : zM := Fterm mm;
(let m12 : zM := f_X6_emit v2 m11;
k6 s0 m12)))
def f_X6_sum_41 (Fterm : zM → zM) (k6 : Int32 → zM → zM) (s0 : Int32) (mm : zM) : zM :=
(if s0 < (0 : Int32) then
f_X6_sum_51 Fterm k6 s0 (0 : Int32) mm
else
f_X6_sum_51 Fterm k6 s0 (1 : Int32) mm)
def f_X6_sum_6 (Fterm : zM → zM) : Nat → Int32 → zM → zM
  | 0, v1, mm => mm
  | n6 + 1, v1, mm => (if v1 = (0 : Int32) then
mm
else
(let x4 : Int32 × zM := f_X6_may (43 : Int32) mm;
(if (x4.1) = (0 : Int32) then
(let x7 : Int32 × zM := f_X6_may (45 : Int32) (x4.2);
(if (x7.1) = (0 : Int32) then
f_X6_sum_41 Fterm (fun wv1 wmm => f_X6_sum_6 Fterm n6 wv1 wmm) (-1 : Int32) (x7.2)
else
f_X6_sum_41 Fterm (fun wv1 wmm => f_X6_sum_6 Fterm n6 wv1 wmm) (2001 : Int32) (x7.2)))
else
f_X6_sum_41 Fterm (fun wv1 wmm => f_X6_sum_6 Fterm n6 wv1 wmm) (2000 : Int32) (x4.2))))
def f_X6_sum (Fterm : zM → zM) (M : zM) : zM :=
(let m1 : zM := Fterm M;
f_X6_sum_6 Fterm (63) (1 : Int32) m1)
def g_X6_fac : Nat → zM → zM
  | 0 => f_X6_factor (fun m => m) (fun m => m)
  | d + 1 => f_X6_factor (f_X6_sum (f_X6_term (g_X6_fac d))) (g_X6_fac d)
def g_X6_term (d : Nat) : zM → zM := f_X6_term (g_X6_fac d)
def g_X6_sum (d : Nat) : zM → zM := f_X6_sum (g_X6_term d)

def f_X6_law_72 : Nat → Int32 → zM → (Int32 × zM)
  | 0, v1, mm => (0, mm)
  | n72 + 1, v1, mm => (if (mm.1 0 16) ≤ v1 then
(let m12 : zM := zpI mm 0 5 (0 : Int32);
((0 : Int32), m12))
else
(let m13 : zM := zpI mm 1 ((14 : Int32) + v1).toNatClampNeg (mm.1 10 v1.toNatClampNeg);
f_X6_law_72 n72 (v1 + (1 : Int32)) m13))
def f_X6_law_46 (mm : zM) : Int32 × zM :=
(if (mm.1 0 18) < (0 : Int32) then
(let m10 : zM := zpI mm 1 5 (mm.1 0 16);
f_X6_law_72 (61) (0 : Int32) m10)
else
(((-1 : Int32) - (mm.1 0 18)), mm))
def f_X6_law (M : zM) : Int32 × zM :=
(let m1 : zM := zpI M 0 16 (0 : Int32);
(let m2 : zM := zpI m1 0 17 (0 : Int32);
(let m3 : zM := zpI m2 0 18 (-1 : Int32);
(let m4 : zM := zpI m3 0 19 (0 : Int32);
(let m5 : zM := g_X6_sum 5 m4;
(if (0 : Int32) ≤ (m5.1 0 18) then
f_X6_law_46 m5
else
(if (m5.1 0 5) ≤ (m5.1 0 17) then
f_X6_law_46 m5
else
(let m8 : zM := f_X6_fails m5;
f_X6_law_46 m8))))))))
def f_X6_plain (M : zM) : Int32 × zM :=
(if (0 : Int32) ≤ (M.1 1 5) then
(let m2 : zM := zpI M 1 5 (-1 : Int32);
((1 : Int32), m2))
else
(let m3 : zM := zpI M 1 5 (-1 : Int32);
((0 : Int32), m3)))
def f_X6_says (p1 : Int32) (M : zM) : Int32 × zM :=
(let x2 : Int32 := f_X6_isBlock p1 M;
(if x2 = (0 : Int32) then
(let x8 : Int32 × zM := f_X6_no (0 : Int32) M;
((x8.1), (x8.2)))
else
(if (0 : Int32) ≤ (M.1 1 5) then
(let x5 : Int32 := f_X6_at p1 (6 : Int32) M;
(let x6 : Int32 × zM := f_X6_given p1 x5 M;
((x6.1), (x6.2))))
else
(let x7 : Int32 × zM := f_X6_no (3 : Int32) M;
((x7.1), (x7.2))))))
def f_X6_sheet_29 (p1 : Int32) (p2 : Int32) (p3 : Int32) (mm : zM) : Int32 × zM :=
(let x8 : Int32 × zM := f_X6_no (0 : Int32) mm;
((x8.1), (x8.2)))
def f_X6_sheet_83 (p1 : Int32) (p2 : Int32) (p3 : Int32) : Nat → Int32 → zM → (Int32 × zM)
  | 0, v4, mm => (0, mm)
  | n83 + 1, v4, mm => (if (40 : Int32) ≤ v4 then
((mm.1 13 p1.toNatClampNeg), mm)
else
(let m17 : zM := zpL mm 14 (((40 : Int32) * p1) + v4).toNatClampNeg (0 : Int64);
f_X6_sheet_83 p1 p2 p3 n83 (v4 + (1 : Int32)) m17))
def f_X6_sheet_79 (p1 : Int32) (p2 : Int32) (p3 : Int32) (s0 : Int32) (s1 : Int32) (mm : zM) : Int32 × zM :=
(let m15 : zM := zpI mm 13 s1.toNatClampNeg s0;
f_X6_sheet_83 p1 p2 p3 (41) (0 : Int32) m15)
def f_X6_sheet_35 (p1 : Int32) (p2 : Int32) (p3 : Int32) (mm : zM) : Int32 × zM :=
(if (0 : Int32) ≤ p3 then
(if p3 ≤ (40 : Int32) then
(let m11 : zM := zpI mm 12 p1.toNatClampNeg p2;
(if p2 = (0 : Int32) then
f_X6_sheet_79 p1 p2 p3 (0 : Int32) p1 m11
else
f_X6_sheet_79 p1 p2 p3 p3 p1 m11))
else
(let x13 : Int32 × zM := f_X6_no (0 : Int32) mm;
((x13.1), (x13.2))))
else
(let x14 : Int32 × zM := f_X6_no (6 : Int32) mm;
((x14.1), (x14.2))))
def f_X6_sheet (p1 : Int32) (p2 : Int32) (p3 : Int32) (M : zM) : Int32 × zM :=
(let x2 : Int32 := f_X6_isSheet p1;
(if x2 = (0 : Int32) then
f_X6_sheet_29 p1 p2 p3 M
else
(if p2 = (0 : Int32) then
f_X6_sheet_35 p1 p2 p3 M
else
(if p2 = (8 : Int32) then
f_X6_sheet_35 p1 p2 p3 M
else
(if p2 = (16 : Int32) then
f_X6_sheet_35 p1 p2 p3 M
else
(if p2 = (64 : Int32) then
f_X6_sheet_35 p1 p2 p3 M
else
f_X6_sheet_29 p1 p2 p3 M))))))
def f_X6_write (p1 : Int32) (p2 : Int32) (p3 : Int64) (M : zM) : Int64 × zM :=
(let x2 : Int32 := f_X6_isSheet p1;
(if x2 = (0 : Int32) then
(let x16 : Int32 × zM := f_X6_no (0 : Int32) M;
(((x16.1).toInt64), (x16.2)))
else
(if (M.1 12 p1.toNatClampNeg) = (0 : Int32) then
(let x15 : Int32 × zM := f_X6_no (5 : Int32) M;
(((x15.1).toInt64), (x15.2)))
else
(let x6 : Int32 := f_X6_in p2 (0 : Int32) ((M.1 13 p1.toNatClampNeg) - (1 : Int32));
(if x6 = (0 : Int32) then
(let x14 : Int32 × zM := f_X6_no (0 : Int32) M;
(((x14.1).toInt64), (x14.2)))
else
(let x8 : Int64 := (M.2 14 (((40 : Int32) * p1) + p2).toNatClampNeg);
(if (M.1 12 p1.toNatClampNeg) = (8 : Int32) then
(let m13 : zM := zpL M 14 (((40 : Int32) * p1) + p2).toNatClampNeg (((p3.toInt32).toInt8.toInt32).toInt64);
(x8, m13))
else
(if (M.1 12 p1.toNatClampNeg) = (16 : Int32) then
(let m12 : zM := zpL M 14 (((40 : Int32) * p1) + p2).toNatClampNeg (((p3.toInt32).toInt16.toInt32).toInt64);
(x8, m12))
else
(let m11 : zM := zpL M 14 (((40 : Int32) * p1) + p2).toNatClampNeg p3;
(x8, m11))))))))))
def f_X6_copy_14 (p1 : Int32) (p2 : Int32) (p3 : Int32) (p4 : Int32) (p5 : Int32) (mm : zM) : Int32 × zM :=
(let x16 : Int32 × zM := f_X6_no (0 : Int32) mm;
((x16.1), (x16.2)))
def f_X6_copy_38 (p1 : Int32) (p2 : Int32) (p3 : Int32) (p4 : Int32) (p5 : Int32) (mm : zM) : Int32 × zM :=
(let x17 : Int32 × zM := f_X6_no (5 : Int32) mm;
((x17.1), (x17.2)))
def f_X6_copy_106 (p1 : Int32) (p2 : Int32) (p3 : Int32) (p4 : Int32) (p5 : Int32) (mm : zM) : Int32 × zM :=
(let x18 : Int32 × zM := f_X6_no (0 : Int32) mm;
((x18.1), (x18.2)))
def f_X6_copy_152 (p1 : Int32) (p2 : Int32) (p3 : Int32) (p4 : Int32) (p5 : Int32) : Nat → Int32 → zM → (Int32 × zM)
  | 0, v6, mm => (0, mm)
  | n152 + 1, v6, mm => (if p5 ≤ v6 then
(p5, mm)
else
(let m22 : zM := zpL mm 14 ((((40 : Int32) * p3) + p4) + v6).toNatClampNeg (mm.2 15 v6.toNatClampNeg);
f_X6_copy_152 p1 p2 p3 p4 p5 n152 (v6 + (1 : Int32)) m22))
def f_X6_copy_115 (p1 : Int32) (p2 : Int32) (p3 : Int32) (p4 : Int32) (p5 : Int32) : Nat → Int32 → zM → (Int32 × zM)
  | 0, v6, mm => (0, mm)
  | n115 + 1, v6, mm => (if p5 ≤ v6 then
f_X6_copy_152 p1 p2 p3 p4 p5 (41) (0 : Int32) mm
else
(let m20 : zM := zpL mm 15 v6.toNatClampNeg (mm.2 14 ((((40 : Int32) * p1) + p2) + v6).toNatClampNeg);
f_X6_copy_115 p1 p2 p3 p4 p5 n115 (v6 + (1 : Int32)) m20))
def f_X6_copy (p1 : Int32) (p2 : Int32) (p3 : Int32) (p4 : Int32) (p5 : Int32) (M : zM) : Int32 × zM :=
(let x2 : Int32 := f_X6_isSheet p1;
(if x2 = (0 : Int32) then
f_X6_copy_14 p1 p2 p3 p4 p5 M
else
(let x5 : Int32 := f_X6_isSheet p3;
(if x5 = (0 : Int32) then
f_X6_copy_14 p1 p2 p3 p4 p5 M
else
(if (M.1 12 p1.toNatClampNeg) = (0 : Int32) then
f_X6_copy_38 p1 p2 p3 p4 p5 M
else
(if (M.1 12 p3.toNatClampNeg) = (0 : Int32) then
f_X6_copy_38 p1 p2 p3 p4 p5 M
else
(if (M.1 12 p1.toNatClampNeg) = (M.1 12 p3.toNatClampNeg) then
(if p2 < (0 : Int32) then
f_X6_copy_106 p1 p2 p3 p4 p5 M
else
(if p4 < (0 : Int32) then
f_X6_copy_106 p1 p2 p3 p4 p5 M
else
(if p5 < (0 : Int32) then
f_X6_copy_106 p1 p2 p3 p4 p5 M
else
(if ((M.1 13 p1.toNatClampNeg) - p5) < p2 then
f_X6_copy_106 p1 p2 p3 p4 p5 M
else
(if p4 ≤ ((M.1 13 p3.toNatClampNeg) - p5) then
f_X6_copy_115 p1 p2 p3 p4 p5 (41) (0 : Int32) M
else
f_X6_copy_106 p1 p2 p3 p4 p5 M)))))
else
(let x15 : Int32 × zM := f_X6_no (2 : Int32) M;
((x15.1), (x15.2))))))))))
def f_X6_draws_40 (p1 : Int32) : Nat → Int32 → Int32 → Int32 → zM → (Int32 × zM)
  | 0, v2, v3, v4, mm => (0, mm)
  | n40 + 1, v2, v3, v4, mm => (if (mm.1 13 p1.toNatClampNeg) ≤ v4 then
(let m9 : zM := zpI mm 1 2 v2;
(v3, m9))
else
(let x10 : Int64 := (mm.2 14 (((40 : Int32) * p1) + v4).toNatClampNeg);
(if (lg_cmp x10 (-99 : Int64)) < (0 : Int32) then
f_X6_draws_40 p1 n40 v2 v3 (v4 + (1 : Int32)) mm
else
(if (0 : Int32) < (lg_cmp x10 (99 : Int64)) then
f_X6_draws_40 p1 n40 v2 v3 (v4 + (1 : Int32)) mm
else
(let m13 : zM := zpI mm 1 2 (x10.toInt32);
(let m14 : zM := f_X6_tick m13;
f_X6_draws_40 p1 n40 v2 (v3 + (1 : Int32)) (v4 + (1 : Int32)) m14))))))
def f_X6_draws (p1 : Int32) (M : zM) : Int32 × zM :=
(let x2 : Int32 := f_X6_isSheet p1;
(if x2 = (0 : Int32) then
(let x7 : Int32 × zM := f_X6_no (0 : Int32) M;
((x7.1), (x7.2)))
else
(if (M.1 12 p1.toNatClampNeg) = (0 : Int32) then
(let x6 : Int32 × zM := f_X6_no (5 : Int32) M;
((x6.1), (x6.2)))
else
(let x5 : Int32 := (M.1 1 2);
f_X6_draws_40 p1 (41) x5 (0 : Int32) (0 : Int32) M))))
def f_X6_read_30 (p1 : Int32) : Nat → Int32 → zM → (Int32 × zM)
  | 0, v2, mm => (0, mm)
  | n30 + 1, v2, mm => (if (mm.1 13 p1.toNatClampNeg) ≤ v2 then
((0 : Int32), mm)
else
(let x9 : Int32 := f_X6_isBlock v2 mm;
(if x9 = (0 : Int32) then
(((1 : Int32) + v2), mm)
else
(let x11 : Int32 := f_X6_at v2 (5 : Int32) mm;
(if (lg_cmp (mm.2 14 (((40 : Int32) * p1) + v2).toNatClampNeg) (x11.toInt64)) = (0 : Int32) then
f_X6_read_30 p1 n30 (v2 + (1 : Int32)) mm
else
(((1 : Int32) + v2), mm))))))
def f_X6_read (p1 : Int32) (M : zM) : Int32 × zM :=
(let x2 : Int32 := f_X6_isSheet p1;
(if x2 = (0 : Int32) then
(let x6 : Int32 × zM := f_X6_no (0 : Int32) M;
((x6.1), (x6.2)))
else
(if (M.1 12 p1.toNatClampNeg) = (0 : Int32) then
(let x5 : Int32 × zM := f_X6_no (5 : Int32) M;
((x5.1), (x5.2)))
else
f_X6_read_30 p1 (41) (0 : Int32) M)))
def f_X6_image (M : zM) : Int32 × zM :=
(let m1 : zM := f_X6_lay 1 2 M;
(let m2 : zM := zpI m1 0 3 (1 : Int32);
((1 : Int32), m2)))
def f_X6_undo (M : zM) : Int32 × zM :=
(if (M.1 0 3) = (0 : Int32) then
(let x3 : Int32 × zM := f_X6_no (3 : Int32) M;
((x3.1), (x3.2)))
else
(let m2 : zM := f_X6_lay 2 1 M;
((m2.1 1 0), m2)))
def f_X6_tear (M : zM) : Int32 × zM :=
(if (M.1 0 3) = (0 : Int32) then
(let m2 : zM := zpI M 0 3 (0 : Int32);
((0 : Int32), m2))
else
(let m3 : zM := zpI M 0 3 (0 : Int32);
((1 : Int32), m3)))
def f_X6_count (p1 : Int32) (M : zM) : Int32 × zM :=
(if p1 = (0 : Int32) then
((M.1 1 0), M)
else
(if p1 = (1 : Int32) then
((M.1 1 3), M)
else
(if p1 = (2 : Int32) then
((M.1 1 4), M)
else
(if p1 = (3 : Int32) then
(if (0 : Int32) ≤ (M.1 1 5) then
((1 : Int32), M)
else
((0 : Int32), M))
else
(if p1 = (4 : Int32) then
((M.1 0 5), M)
else
(if p1 = (5 : Int32) then
((M.1 1 2), M)
else
(if p1 = (6 : Int32) then
((M.1 1 1), M)
else
(if p1 = (7 : Int32) then
((M.1 1 13), M)
else
(let x3 : Int32 × zM := f_X6_no (0 : Int32) M;
((x3.1), (x3.2)))))))))))
def f_X6_status_36 (p1 : Int32) (k20 : Int32 → Int32 → zM → (Int32 × zM)) (v3 : Int32) (s0 : Int32) (mm : zM) : Int32 × zM :=
(let x9 : Int32 := (s0 + (mm.1 5 v3.toNatClampNeg));
k20 x9 (v3 + (1 : Int32)) mm)
def f_X6_status_20 (p1 : Int32) : Nat → Int32 → Int32 → zM → (Int32 × zM)
  | 0, v2, v3, mm => (0, mm)
  | n20 + 1, v2, v3, mm => (if (7 : Int32) ≤ v3 then
(v2, mm)
else
(if p1 < (0 : Int32) then
f_X6_status_36 p1 (fun wv2 wv3 wmm => f_X6_status_20 p1 n20 wv2 wv3 wmm) v3 v2 mm
else
(if p1 = v3 then
f_X6_status_36 p1 (fun wv2 wv3 wmm => f_X6_status_20 p1 n20 wv2 wv3 wmm) v3 v2 mm
else
(let x8 : Int32 := (v2 + (0 : Int32));
f_X6_status_20 p1 n20 x8 (v3 + (1 : Int32)) mm))))
def f_X6_status (p1 : Int32) (M : zM) : Int32 × zM :=
(let x2 : Int32 := f_X6_in p1 (-1 : Int32) (6 : Int32);
(if x2 = (0 : Int32) then
(let x4 : Int32 × zM := f_X6_no (0 : Int32) M;
((x4.1), (x4.2)))
else
f_X6_status_20 p1 (8) (0 : Int32) (0 : Int32) M))
