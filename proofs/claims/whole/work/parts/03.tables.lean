/-! tables, by program out of the task: methods, and what each constant pool entry of a class is, with the place of its word in lw_tbl -/
abbrev kM : Type := MethodName × ByteArray × Nat × Option FieldType × Nat × Nat × Nat
def mt_0 : List kM := [(yX0_init, cX0_init, 2, none, 0, 0, 2),
  (yX0_begin, cX0_begin, 3, none, 0, 1, 0),
  (yX0_letters, cX0_letters, 1, (some .int), 0, 0, 0),
  (yX0_signs, cX0_signs, 1, (some .int), 0, 0, 0),
  (yX0_hasCord, cX0_hasCord, 2, (some .boolean), 0, 1, 0),
  (yX0_rowOf, cX0_rowOf, 2, (some (.object "KnotSigns$Row")), 0, 1, 0),
  (yX0_giveRow, cX0_giveRow, 3, none, 0, 2, 0),
  (yX0_dropRow, cX0_dropRow, 2, none, 0, 1, 0),
  (yX0_menBits, cX0_menBits, 3, (some .int), 0, 0, 0),
  (yX0_scrapAt, cX0_scrapAt, 2, (some (.object "KnotSigns$Row")), 0, 1, 0),
  (yX0_addScrap, cX0_addScrap, 2, (some .boolean), 0, 1, 0),
  (yX0_become, cX0_become, 3, none, 0, 1, 0),
  (yX1_init, cX1_init, 1, none, 1, 0, 2),
  (yX1_begin, cX1_begin, 3, none, 1, 1, 0),
  (yX1_setApart, cX1_setApart, 4, none, 1, 3, 0),
  (yX1_apartOf, cX1_apartOf, 3, (some .int), 1, 2, 0),
  (yX1_lives, cX1_lives, 2, (some .boolean), 1, 1, 0),
  (yX1_setMaster, cX1_setMaster, 3, none, 1, 2, 0),
  (yX1_masterOf, cX1_masterOf, 2, (some .int), 1, 1, 0),
  (yX1_comesOf, cX1_comesOf, 5, (some .boolean), 1, 2, 0),
  (yX1_keep, cX1_keep, 3, none, 1, 1, 0),
  (yX1_isMan, cX1_isMan, 1, (some .boolean), 1, 1, 1),
  (yX2_init, cX2_init, 2, none, 2, 1, 2),
  (yX2_at, cX2_at, 2, (some .int), 2, 1, 0),
  (yX2_empty, cX2_empty, 1, none, 2, 0, 0),
  (yX2_add, cX2_add, 2, (some .boolean), 2, 1, 0),
  (yX2_put, cX2_put, 3, none, 2, 2, 0),
  (yX3_init, cX3_init, 1, none, 3, 0, 2),
  (yX3_stepsBetween, cX3_stepsBetween, 4, (some .int), 3, 3, 0),
  (yX3_gather, cX3_gather, 3, none, 3, 2, 0)]
def mt_1 : List kM := [(yX3_beganAt, cX3_beganAt, 3, (some .boolean), 3, 2, 0),
  (yX3_spread, cX3_spread, 4, none, 3, 2, 0),
  (yX3_has, cX3_has, 4, (some .boolean), 3, 1, 0),
  (yX3_stepsTo, cX3_stepsTo, 4, (some .int), 3, 1, 0),
  (yX3_readShortest, cX3_readShortest, 4, none, 3, 1, 0),
  (yX3_forget, cX3_forget, 3, none, 3, 0, 0),
  (yX3_reach, cX3_reach, 5, none, 3, 2, 0),
  (yX3_numberOf, cX3_numberOf, 4, (some .int), 3, 1, 0),
  (yX3_longer, cX3_longer, 3, (some .int), 3, 2, 0),
  (yX3_read, cX3_read, 5, none, 3, 2, 0),
  (yX3_change, cX3_change, 9, none, 3, 6, 0),
  (yX3_opposite, cX3_opposite, 2, (some .int), 3, 1, 0),
  (yX3_slideAll, cX3_slideAll, 4, none, 3, 1, 0),
  (yX3_slideAt, cX3_slideAt, 7, none, 3, 2, 0),
  (yX4_init, cX4_init, 2, none, 4, 0, 2),
  (yX4_cords, cX4_cords, 3, (some .int), 4, 1, 0),
  (yX4_say, cX4_say, 2, (some .int), 4, 1, 0),
  (yX4_wipe, cX4_wipe, 2, (some .int), 4, 0, 0),
  (yX4_fault, cX4_fault, 4, (some .int), 4, 0, 0),
  (yX4_teach, cX4_teach, 3, (some .int), 4, 1, 0),
  (yX4_drown, cX4_drown, 2, (some .int), 4, 1, 0),
  (yX4_row, cX4_row, 4, (some .int), 4, 2, 0),
  (yX4_same, cX4_same, 5, (some .int), 4, 2, 0),
  (yX4_shortest, cX4_shortest, 4, (some .int), 4, 2, 0),
  (yX4_rows, cX4_rows, 3, (some .int), 4, 1, 0),
  (yX4_twist, cX4_twist, 3, (some .int), 4, 1, 0),
  (yX4_ends, cX4_ends, 6, (some .int), 4, 2, 0),
  (yX4_about, cX4_about, 10, (some .int), 4, 3, 0),
  (yX4_slips, cX4_slips, 5, (some .int), 4, 2, 0),
  (yX4_whose, cX4_whose, 3, (some .int), 4, 1, 0)]
def mt_2 : List kM := [(yX4_forger, cX4_forger, 4, (some .int), 4, 2, 0),
  (yX4_given, cX4_given, 6, (some .int), 4, 3, 0),
  (yX4_worn, cX4_worn, 8, (some .int), 4, 2, 0),
  (yX4_scrap, cX4_scrap, 2, (some .int), 4, 0, 0),
  (yX4_burn, cX4_burn, 2, (some .int), 4, 0, 0),
  (yX4_who, cX4_who, 4, (some .int), 4, 0, 0),
  (yX4_descent, cX4_descent, 7, (some .int), 4, 2, 0),
  (yX4_year, cX4_year, 8, (some .int), 4, 4, 0),
  (yX4_image, cX4_image, 3, (some .int), 4, 1, 0),
  (yX4_restore, cX4_restore, 3, (some .int), 4, 1, 0),
  (yX4_told, cX4_told, 2, (some .int), 4, 1, 0),
  (yX4_signOf, cX4_signOf, 2, (some .int), 4, 2, 1),
  (yX4_codeOf, cX4_codeOf, 2, (some .int), 4, 2, 1),
  (yX4_letterOf, cX4_letterOf, 2, (some .int), 4, 2, 1),
  (yX4_worth, cX4_worth, 2, (some .int), 4, 2, 1),
  (yX4_placeAfter, cX4_placeAfter, 2, (some .int), 4, 2, 1),
  (yX4_twistOf, cX4_twistOf, 4, (some .int), 4, 2, 1),
  (yX4_changed, cX4_changed, 4, (some .int), 4, 2, 1),
  (yX4_copy, cX4_copy, 3, none, 4, 2, 1),
  (yX4_sizeOrCode, cX4_sizeOrCode, 3, (some .int), 4, 2, 0),
  (yX4_cut, cX4_cut, 2, (some .int), 4, 2, 1),
  (yX4_leftOver, cX4_leftOver, 2, (some .int), 4, 2, 1),
  (yX4_readPad, cX4_readPad, 4, (some .int), 4, 0, 0),
  (yX4_countFillings, cX4_countFillings, 3, (some .int), 4, 0, 0),
  (yX4_fillLost, cX4_fillLost, 4, none, 4, 1, 0),
  (yX4_signForLost, cX4_signForLost, 4, (some .int), 4, 1, 0),
  (yX4_slipsFrom, cX4_slipsFrom, 7, (some .int), 4, 2, 0),
  (yX4_nearest, cX4_nearest, 8, (some .int), 4, 2, 0),
  (yX4_manOrSlips, cX4_manOrSlips, 5, (some .int), 4, 3, 0),
  (yX4_hasAllScraps, cX4_hasAllScraps, 6, (some .boolean), 4, 1, 0)]
def mt_3 : List kM := [(yX4_placeOf, cX4_placeOf, 5, (some .int), 4, 3, 1),
  (yX4_choose, cX4_choose, 4, none, 4, 3, 1),
  (yX4_imageAt, cX4_imageAt, 2, (some (.object "KnotSigns$Coast")), 4, 1, 0),
  (yX5_init, cX5_init, 1, none, 5, 0, 2),
  (yX5_in, cX5_in, 3, (some .boolean), 5, 3, 1),
  (yX5_has, cX5_has, 2, (some .boolean), 5, 2, 1),
  (yX5_kinds, cX5_kinds, 1, (some .int), 5, 0, 0),
  (yX5_isMan, cX5_isMan, 2, (some .boolean), 5, 1, 0),
  (yX5_letterOf, cX5_letterOf, 2, (some .int), 5, 1, 0),
  (yX5_isSmall, cX5_isSmall, 2, (some .boolean), 5, 1, 0),
  (yX5_codeOf, cX5_codeOf, 2, (some .int), 5, 1, 0),
  (yX5_signOf, cX5_signOf, 2, (some .int), 5, 1, 0),
  (yX5_cords, cX5_cords, 3, (some .int), 5, 1, 0),
  (yX5_say, cX5_say, 2, (some .int), 5, 1, 0),
  (yX5_wipe, cX5_wipe, 2, (some .int), 5, 0, 0),
  (yX5_faultOf, cX5_faultOf, 4, (some .int), 5, 0, 0),
  (yX5_fault, cX5_fault, 1, (some .int), 5, 0, 0),
  (yX5_opens, cX5_opens, 3, (some .int), 5, 0, 0),
  (yX5_barOfPad, cX5_barOfPad, 1, (some .int), 5, 0, 0),
  (yX5_teach, cX5_teach, 4, (some .int), 5, 1, 0),
  (yX5_drown, cX5_drown, 2, (some .int), 5, 1, 0),
  (yX5_row, cX5_row, 3, (some .int), 5, 2, 0),
  (yX5_shorter, cX5_shorter, 5, (some .int), 5, 1, 0),
  (yX5_number, cX5_number, 3, (some .int), 5, 0, 0),
  (yX5_layRow, cX5_layRow, 4, none, 5, 1, 0),
  (yX5_layMan, cX5_layMan, 3, none, 5, 1, 0),
  (yX5_reach, cX5_reach, 3, none, 5, 2, 0),
  (yX5_areOpposite, cX5_areOpposite, 3, (some .boolean), 5, 2, 0),
  (yX5_apart, cX5_apart, 2, (some .int), 5, 2, 1),
  (yX5_keep, cX5_keep, 2, none, 5, 0, 0)]
def mt_4 : List kM := [(yX5_back, cX5_back, 2, none, 5, 0, 0),
  (yX5_slide, cX5_slide, 5, none, 5, 1, 0),
  (yX5_layRows, cX5_layRows, 3, none, 5, 1, 0),
  (yX5_same, cX5_same, 3, (some .int), 5, 2, 0),
  (yX5_shortest, cX5_shortest, 4, (some .int), 5, 2, 0),
  (yX5_rows, cX5_rows, 2, (some .int), 5, 1, 0),
  (yX5_twistOf, cX5_twistOf, 3, (some .int), 5, 0, 0),
  (yX5_twist, cX5_twist, 2, (some .int), 5, 1, 0),
  (yX5_hang, cX5_hang, 7, none, 5, 1, 0),
  (yX5_isCord, cX5_isCord, 2, (some .boolean), 5, 1, 0),
  (yX5_ends, cX5_ends, 5, (some .int), 5, 2, 0),
  (yX5_about, cX5_about, 4, (some .int), 5, 3, 0),
  (yX5_slipsTo, cX5_slipsTo, 5, (some .int), 5, 1, 0),
  (yX5_slips, cX5_slips, 3, (some .int), 5, 2, 0),
  (yX5_layNearest, cX5_layNearest, 4, none, 5, 1, 0),
  (yX5_whose, cX5_whose, 4, (some .int), 5, 1, 0),
  (yX5_forger, cX5_forger, 3, (some .int), 5, 2, 0),
  (yX5_given, cX5_given, 6, (some .int), 5, 3, 0),
  (yX5_powerOf, cX5_powerOf, 5, (some .int), 5, 2, 0),
  (yX5_worn, cX5_worn, 9, (some .int), 5, 2, 0),
  (yX5_scrap, cX5_scrap, 2, (some .int), 5, 0, 0),
  (yX5_burn, cX5_burn, 2, (some .int), 5, 0, 0),
  (yX5_endOf, cX5_endOf, 7, (some .int), 5, 3, 0),
  (yX5_who, cX5_who, 5, (some .int), 5, 0, 0),
  (yX5_comesOf, cX5_comesOf, 6, (some .boolean), 5, 1, 0),
  (yX5_descent, cX5_descent, 12, (some .int), 5, 2, 0),
  (yX5_year, cX5_year, 8, (some .int), 5, 4, 0),
  (yX5_image, cX5_image, 4, (some .int), 5, 1, 0),
  (yX5_restore, cX5_restore, 4, (some .int), 5, 1, 0),
  (yX5_told, cX5_told, 2, (some .int), 5, 1, 0)]
def mt_5 : List kM := [(yL_law, cL_law, 4, (some .boolean), 6, 1, 1)]
def mt : List kM := mt_0 ++ mt_1 ++ mt_2 ++ mt_3 ++ mt_4 ++ mt_5
def mE (k : Nat) : kM := mt.getD k (yL_law, cL_law, 0, none, 0, 0, 0)
def mY (k : Nat) : MethodName := (mE k).1
def mC (k : Nat) : ByteArray := (mE k).2.1
def mL (k : Nat) : Nat := (mE k).2.2.1
def mR (k : Nat) : Option FieldType := (mE k).2.2.2.1
def mO (k : Nat) : Nat := (mE k).2.2.2.2.1
def mA (k : Nat) : Nat := (mE k).2.2.2.2.2.1
def mF (k : Nat) : Nat := (mE k).2.2.2.2.2.2
def cRn (c : Nat) : String := ([RX0, RX1, RX2, RX3, RX4, RX5, RL] : List String).getD c RL
def cTf (c : Nat) : u_T := ([TX0, TX1, TX2, TX3, TX4, TX5] : List u_T).getD c TX0
def cTy (c : Nat) : Nat → FieldType := ([tyX0, tyX1, tyX2, tyX3, tyX4, tyX5] : List (Nat → FieldType)).getD c tyX0
def cNn (c : Nat) : Nat := ([6, 6, 2, 6, 8, 25] : List Nat).getD c 0
def kG (t : List (Nat × Nat × Nat × Nat × Nat × Nat)) (o i : Nat) : Option (Nat × Nat × Nat × Nat) := (t.find? (fun e => e.1 == o && e.2.1 == i)).map (fun e => e.2.2)
/-- own class, entry, class of the field, its slot, 1 if by the nest, the word -/
def ftb : List (Nat × Nat × Nat × Nat × Nat × Nat) := [(2, 9, 2, 0, 0, 71), (2, 15, 2, 1, 0, 72), (4, 64, 2, 1, 1, 73), (3, 77, 2, 1, 1, 74), (0, 9, 0, 0, 0, 90), (4, 53, 0, 0, 1, 91), (0, 17, 0, 1, 0, 92), (0, 21, 0, 2, 0, 93), (0, 25, 0, 3, 0, 94), (0, 31, 0, 4, 0, 95), (4, 177, 0, 4, 1, 96), (4, 218, 0, 5, 1, 97), (3, 11, 3, 0, 0, 121), (3, 15, 3, 1, 0, 122), (3, 18, 3, 2, 0, 123), (3, 26, 3, 3, 0, 124), (3, 50, 3, 4, 0, 125), (4, 112, 3, 4, 1, 126), (3, 42, 3, 5, 0, 127), (1, 9, 1, 0, 0, 147), (1, 15, 1, 1, 0, 148), (1, 19, 1, 2, 0, 149), (1, 22, 1, 3, 0, 150), (1, 25, 1, 4, 0, 151), (4, 237, 1, 4, 1, 152), (1, 29, 1, 5, 0, 153), (4, 192, 1, 5, 1, 154), (4, 14, 4, 0, 0, 168), (4, 21, 4, 1, 0, 169), (4, 25, 4, 2, 0, 170), (4, 32, 4, 3, 0, 171), (4, 39, 4, 4, 0, 172), (4, 43, 4, 5, 0, 173), (4, 46, 4, 6, 0, 174), (4, 49, 4, 7, 0, 175), (5, 7, 5, 0, 0, 563), (5, 68, 5, 1, 0, 564), (5, 13, 5, 2, 0, 565), (5, 17, 5, 3, 0, 566), (5, 83, 5, 4, 0, 567), (5, 20, 5, 5, 0, 568), (5, 23, 5, 6, 0, 569), (5, 86, 5, 7, 0, 570), (5, 26, 5, 8, 0, 571), (5, 29, 5, 9, 0, 572), (5, 111, 5, 10, 0, 573), (5, 33, 5, 11, 0, 574), (5, 36, 5, 12, 0, 575), (5, 117, 5, 13, 0, 576), (5, 39, 5, 14, 0, 577), (5, 120, 5, 15, 0, 578), (5, 42, 5, 16, 0, 579), (5, 45, 5, 17, 0, 580), (5, 48, 5, 18, 0, 581), (5, 168, 5, 19, 0, 582), (5, 171, 5, 20, 0, 583), (5, 51, 5, 21, 0, 584), (5, 54, 5, 22, 0, 585), (5, 57, 5, 23, 0, 586), (5, 60, 5, 24, 0, 587)]
/-- own class, entry, method, 1 if by the nest, 0, the word -/
def ctb : List (Nat × Nat × Nat × Nat × Nat × Nat) := [(6, 9, 44, 0, 0, 59), (4, 11, 22, 0, 0, 67), (4, 20, 0, 0, 0, 83), (0, 28, 22, 0, 0, 89), (4, 31, 27, 1, 0, 115), (3, 23, 22, 0, 0, 120), (4, 38, 12, 1, 0, 143), (6, 13, 45, 0, 0, 193), (4, 57, 1, 0, 0, 197), (6, 18, 46, 0, 0, 201), (4, 60, 25, 0, 0, 205), (6, 22, 47, 0, 0, 209), (4, 67, 24, 0, 0, 213), (6, 27, 48, 0, 0, 217), (4, 70, 23, 0, 0, 221), (4, 74, 2, 0, 0, 225), (4, 78, 71, 0, 0, 229), (6, 31, 49, 0, 0, 232), (4, 82, 82, 0, 0, 236), (4, 225, 48, 0, 0, 240), (4, 85, 6, 0, 0, 241), (0, 38, 78, 1, 0, 245), (6, 35, 50, 0, 0, 248), (4, 89, 5, 0, 0, 252), (4, 93, 7, 0, 0, 256), (6, 39, 51, 0, 0, 260), (4, 96, 79, 0, 0, 264), (4, 171, 72, 0, 0, 268), (6, 44, 52, 0, 0, 271), (4, 100, 28, 0, 0, 275), (3, 30, 30, 0, 0, 279), (3, 53, 37, 0, 0, 283), (3, 80, 23, 0, 0, 287), (3, 84, 38, 0, 0, 288), (3, 34, 33, 0, 0, 292), (3, 38, 31, 0, 0, 296), (3, 56, 35, 0, 0, 300), (3, 59, 36, 0, 0, 304), (3, 63, 39, 0, 0, 308), (3, 87, 24, 0, 0, 312), (3, 90, 25, 0, 0, 313), (3, 94, 80, 1, 0, 314), (3, 97, 81, 1, 0, 317), (3, 100, 26, 0, 0, 320), (3, 67, 42, 0, 0, 324), (3, 103, 43, 0, 0, 328), (3, 113, 73, 1, 0, 332), (3, 109, 40, 0, 0, 338), (3, 119, 74, 1, 0, 342), (3, 106, 41, 0, 0, 345), (6, 48, 53, 0, 0, 349), (4, 104, 29, 0, 0, 353), (3, 46, 32, 0, 0, 357), (4, 108, 34, 0, 0, 361), (6, 52, 54, 0, 0, 369), (6, 56, 55, 0, 0, 373), (4, 115, 76, 0, 0, 377), (4, 135, 74, 0, 0, 380), (6, 60, 56, 0, 0, 381), (4, 118, 4, 0, 0, 385), (4, 121, 73, 0, 0, 389), (4, 124, 75, 0, 0, 390), (6, 64, 57, 0, 0, 393), (6, 69, 58, 0, 0, 401), (4, 138, 86, 0, 0, 405), (6, 73, 59, 0, 0, 409), (4, 142, 87, 0, 0, 413), (4, 145, 88, 0, 0, 417), (6, 77, 60, 0, 0, 421), (6, 81, 61, 0, 0, 425), (4, 149, 3, 0, 0, 429), (0, 34, 2, 0, 0, 433), (4, 152, 80, 0, 0, 434), (4, 155, 81, 0, 0, 435), (6, 85, 62, 0, 0, 436), (4, 158, 83, 0, 0, 440), (4, 161, 84, 0, 0, 444), (4, 198, 78, 0, 0, 448), (4, 203, 26, 0, 0, 449), (4, 164, 32, 0, 0, 450), (4, 168, 85, 0, 0, 451), (6, 89, 63, 0, 0, 455), (4, 174, 10, 0, 0, 459), (6, 93, 64, 0, 0, 463), (6, 97, 65, 0, 0, 467), (4, 180, 89, 0, 0, 471), (4, 228, 9, 0, 0, 475), (4, 231, 90, 0, 0, 479), (6, 101, 66, 0, 0, 482), (4, 183, 13, 0, 0, 486), (4, 184, 14, 0, 0, 490), (1, 32, 21, 0, 0, 494), (4, 188, 91, 0, 0, 497), (4, 234, 20, 0, 0, 500), (4, 240, 16, 0, 0, 504), (4, 243, 19, 0, 0, 508), (4, 247, 17, 0, 0, 512), (4, 250, 15, 0, 0, 516), (4, 195, 18, 0, 0, 520), (6, 105, 67, 0, 0, 524), (4, 207, 77, 0, 0, 529), (6, 110, 68, 0, 0, 532), (4, 210, 92, 0, 0, 536), (4, 214, 11, 0, 0, 540), (6, 114, 69, 0, 0, 544), (6, 118, 70, 0, 0, 548), (4, 222, 8, 0, 0, 552), (6, 12, 93, 0, 0, 558), (6, 17, 102, 0, 0, 639), (5, 64, 94, 0, 0, 643), (6, 21, 103, 0, 0, 646), (6, 26, 104, 0, 0, 650), (6, 30, 106, 0, 0, 654), (5, 92, 105, 0, 0, 658), (5, 89, 101, 0, 0, 662), (6, 34, 109, 0, 0, 666), (5, 99, 108, 0, 0, 670), (5, 96, 107, 0, 0, 674), (6, 38, 110, 0, 0, 678), (5, 102, 97, 0, 0, 682), (5, 71, 95, 0, 0, 686), (6, 43, 111, 0, 0, 689), (5, 105, 100, 0, 0, 693), (5, 75, 99, 0, 0, 697), (5, 79, 98, 0, 0, 701), (6, 47, 123, 0, 0, 705), (5, 153, 122, 0, 0, 709), (5, 143, 115, 0, 0, 713), (5, 129, 113, 0, 0, 717), (5, 108, 96, 0, 0, 721), (5, 114, 112, 0, 0, 725), (5, 132, 116, 0, 0, 729), (5, 147, 114, 0, 0, 733), (5, 150, 121, 0, 0, 737), (5, 123, 119, 0, 0, 741), (5, 126, 117, 0, 0, 745), (5, 136, 120, 0, 0, 749), (5, 139, 118, 0, 0, 753), (6, 51, 124, 0, 0, 756), (6, 55, 125, 0, 0, 760), (6, 59, 127, 0, 0, 764), (5, 156, 126, 0, 0, 768), (6, 63, 130, 0, 0, 772), (5, 159, 129, 0, 0, 776), (5, 162, 128, 0, 0, 780), (6, 68, 131, 0, 0, 784), (6, 72, 133, 0, 0, 788), (5, 165, 132, 0, 0, 792), (6, 76, 135, 0, 0, 796), (5, 174, 134, 0, 0, 800), (6, 80, 136, 0, 0, 804), (6, 84, 137, 0, 0, 808), (6, 88, 139, 0, 0, 812), (5, 177, 138, 0, 0, 816), (6, 92, 140, 0, 0, 820), (6, 96, 141, 0, 0, 824), (6, 100, 143, 0, 0, 828), (5, 180, 142, 0, 0, 832), (6, 104, 145, 0, 0, 836), (5, 184, 144, 0, 0, 840), (6, 109, 146, 0, 0, 844), (6, 113, 147, 0, 0, 849), (6, 117, 148, 0, 0, 853), (6, 121, 149, 0, 0, 857)]
/-- own class, entry, 0 min 1 max 2 abs, .., the word -/
def jtb : List (Nat × Nat × Nat × Nat × Nat × Nat) := [(3, 116, 2, 0, 0, 335), (3, 71, 0, 0, 0, 366), (4, 127, 0, 0, 0, 397), (4, 132, 1, 0, 0, 398)]
/-- Object.<init> -/
def otb : List (Nat × Nat × Nat × Nat × Nat × Nat) := [(4, 1, 0, 0, 0, 62), (2, 3, 0, 0, 0, 70), (0, 3, 0, 0, 0, 86), (3, 3, 0, 0, 0, 118), (1, 3, 0, 0, 0, 146), (5, 1, 0, 0, 0, 561)]
/-- own class, entry, constant -/
def ktb : List (Nat × Nat × Nat × Nat × Nat × Nat) := [(3, 70, 55987, 0, 0, 365), (4, 202, 65537, 0, 0, 528), (5, 32, 55987, 0, 0, 562), (5, 187, 65537, 0, 0, 848)]
/-- own class, entry, class -/
def ntb : List (Nat × Nat × Nat × Nat × Nat × Nat) := [(6, 7, 4, 0, 0, 57), (4, 7, 2, 0, 0, 65), (4, 18, 0, 0, 0, 81), (0, 15, 2, 0, 0, 87), (4, 29, 3, 0, 0, 113), (3, 21, 2, 0, 0, 119), (4, 36, 1, 0, 0, 141), (6, 10, 5, 0, 0, 556)]
/-- places: of a method its words code, static or instanceMethod, selects, initialized -/
def mpl : List (Nat × Nat × Nat × Nat) := [(85, 84, 85, 52), (200, 198, 199, 52), (228, 226, 227, 52), (432, 430, 431, 52), (388, 386, 387, 52), (255, 253, 254, 52), (244, 242, 243, 52), (259, 257, 258, 52), (555, 553, 554, 52), (478, 476, 477, 52), (462, 460, 461, 52), (543, 541, 542, 52), (145, 144, 145, 54), (489, 487, 488, 54), (493, 491, 492, 54), (519, 517, 518, 54), (507, 505, 506, 54), (515, 513, 514, 54), (523, 521, 522, 54), (511, 509, 510, 54), (503, 501, 502, 54), (496, 495, 496, 54), (69, 68, 69, 51), (224, 222, 223, 51), (216, 214, 215, 51), (208, 206, 207, 51), (323, 321, 322, 51), (117, 116, 117, 53), (278, 276, 277, 53), (356, 354, 355, 53), (282, 281, 2, 53), (299, 298, 6, 53), (360, 358, 359, 53), (295, 294, 5, 53), (364, 362, 363, 53), (303, 302, 7, 53), (307, 306, 8, 53), (286, 285, 3, 53), (291, 290, 4, 53), (311, 310, 9, 53), (341, 340, 12, 53), (348, 347, 13, 53), (327, 326, 10, 53), (331, 330, 11, 53), (61, 60, 61, 50), (196, 194, 195, 50), (204, 202, 203, 50), (212, 210, 211, 50), (220, 218, 219, 50), (235, 233, 234, 50), (251, 249, 250, 50), (263, 261, 262, 50), (274, 272, 273, 50), (352, 350, 351, 50), (372, 370, 371, 50), (376, 374, 375, 50), (384, 382, 383, 50), (396, 394, 395, 50), (404, 402, 403, 50), (412, 410, 411, 50), (424, 422, 423, 50), (428, 426, 427, 50), (439, 437, 438, 50), (458, 456, 457, 50), (466, 464, 465, 50), (470, 468, 469, 50), (485, 483, 484, 50), (527, 525, 526, 50), (535, 533, 534, 50), (547, 545, 546, 50), (551, 549, 550, 50), (231, 230, 231, 50), (270, 269, 270, 50), (334, 333, 334, 50), (344, 343, 344, 50), (392, 391, 392, 50), (379, 378, 379, 50), (531, 530, 531, 50), (247, 246, 247, 50), (267, 266, 1, 50), (316, 315, 316, 50), (319, 318, 319, 50), (239, 238, 0, 50), (443, 442, 17, 50), (447, 446, 18, 50), (454, 453, 19, 50), (408, 407, 14, 50), (416, 415, 15, 50), (420, 419, 16, 50), (474, 473, 20, 50), (481, 480, 481, 50), (499, 498, 499, 50), (539, 538, 21, 50), (560, 559, 560, 55), (645, 644, 645, 55), (688, 687, 688, 55), (724, 723, 33, 55), (685, 684, 26, 55), (704, 703, 29, 55), (700, 699, 28, 55), (696, 695, 27, 55), (665, 664, 23, 55), (642, 640, 641, 55), (649, 647, 648, 55), (653, 651, 652, 55), (661, 660, 22, 55), (657, 655, 656, 55), (677, 676, 25, 55), (673, 672, 24, 55), (669, 667, 668, 55), (681, 679, 680, 55), (692, 690, 691, 55), (728, 727, 34, 55), (720, 719, 32, 55), (736, 735, 36, 55), (716, 715, 31, 55), (732, 731, 35, 55), (748, 747, 39, 55), (755, 754, 755, 55), (744, 743, 38, 55), (752, 751, 40, 55), (740, 739, 37, 55), (712, 711, 30, 55), (708, 706, 707, 55), (759, 757, 758, 55), (763, 761, 762, 55), (771, 770, 41, 55), (767, 765, 766, 55), (783, 782, 43, 55), (779, 778, 42, 55), (775, 773, 774, 55), (787, 785, 786, 55), (795, 794, 44, 55), (791, 789, 790, 55), (803, 802, 45, 55), (799, 797, 798, 55), (807, 805, 806, 55), (811, 809, 810, 55), (819, 818, 46, 55), (815, 813, 814, 55), (823, 821, 822, 55), (827, 825, 826, 55), (835, 834, 47, 55), (831, 829, 830, 55), (843, 842, 48, 55), (839, 837, 838, 55), (847, 845, 846, 55), (852, 850, 851, 55), (856, 854, 855, 55), (860, 858, 859, 55)]
