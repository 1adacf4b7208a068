theorem lk_X4_toldOfPart_1 (x : Int32) : ((1 : Nat) : Int) + Op.lookupswitch.offset (#[((3 : Int), (27 : Int)), (10, 37)] : Array (Int × Int)).toList 47 x.toInt = ((xswT x [(3, 28), (10, 38)] 48 : Nat) : Int) := by
  unfold xswT xswT xswT
  by_cases h3 : x = 3
  · subst h3; decide +kernel
  · by_cases h10 : x = 10
    · subst h10; decide +kernel
    · rw [if_neg h3, if_neg h10]
      have a3 : ¬ x.toInt = 3 := fun z => h3 (Int32.toInt_inj.mp z)
      have a10 : ¬ x.toInt = 10 := fun z => h10 (Int32.toInt_inj.mp z)
      simp [Op.lookupswitch.offset, a3, a10, Ne.symm a3, Ne.symm a10]
def pX4_set_0 : List (Nat × XOp) := [(0, xo_il 1 1), (1, xo_ic 0 2), (2, xo_ref 1000000 5), (5, xo_alen 6), (6, xo_ic 1 7), (7, xo_isub 8), (8, xo_p3 f_within 11), (11, xo_if_eq 27 14), (14, xo_il 3 15), (15, xo_ic 0 16), (16, xo_ref 1000000 19), (19, xo_il 1 20), (20, xo_iald 21), (21, xo_p3 f_within 24), (24, xo_if_ne 30 27), (27, xo_ic (-2) 29), (29, xo_iret), (30, xo_al 0 31), (31, xo_il 2 32), (32, xo_il 1 33), (33, xo_callV yX4_told cX4_told 3 (some .int) 2 4 36), (36, xo_is 4 38), (38, xo_il 4 40), (40, xo_ic (-1000) 43), (43, xo_ic_ne 49 46), (46, xo_ic (-2) 48), (48, xo_iret), (49, xo_il 1 50), (50, xo_sw [(0, 84), (1, 95), (2, 106), (3, 117), (4, 130)] 143), (84, xo_al 0 85), (85, xo_get 4 3 88), (88, xo_il 3 89), (89, xo_putI 2 7 92), (92, xo_goto 153), (95, xo_al 0 96), (96, xo_get 4 3 99), (99, xo_il 3 100), (100, xo_putI 2 8 103), (103, xo_goto 153), (106, xo_al 0 107)]
theorem sX4_set_0 : XPr RX4 cX4_set 5 (some .int) 10 pX4_set_0 :=
  XPr.cons (xs_iload_n dX4_set_0 rfl) <|
  XPr.cons (xs_iconst dX4_set_1 (by decide +kernel)) <|
  XPr.cons (xs_gets (C := RX4) (n := "MOST_OF") (d := "[I") (fun E ad A s g => g.2.1.1) gw_256 dX4_set_2) <|
  XPr.cons (xs_alen dX4_set_5) <|
  XPr.cons (xs_iconst dX4_set_6 (by decide +kernel)) <|
  XPr.cons (xs_isub dX4_set_7) <|
  XPr.cons (xs_p3 (xs_callS gw_258 gw_259 gw_72 gw_260 (by decide +kernel) (Nat.le_of_ble_eq_true rfl) dX4_set_8) c_X4_within (Nat.le_of_ble_eq_true rfl)) <|
  XPr.cons (xs_if_eq dX4_set_11 (by decide +kernel)) <|
  XPr.cons (xs_iload_n dX4_set_14 rfl) <|
  XPr.cons (xs_iconst dX4_set_15 (by decide +kernel)) <|
  XPr.cons (xs_gets (C := RX4) (n := "MOST_OF") (d := "[I") (fun E ad A s g => g.2.1.1) gw_256 dX4_set_16) <|
  XPr.cons (xs_iload_n dX4_set_19 rfl) <|
  XPr.cons (xs_iald dX4_set_20) <|
  XPr.cons (xs_p3 (xs_callS gw_258 gw_259 gw_72 gw_260 (by decide +kernel) (Nat.le_of_ble_eq_true rfl) dX4_set_21) c_X4_within (Nat.le_of_ble_eq_true rfl)) <|
  XPr.cons (xs_if_ne dX4_set_24 (by decide +kernel)) <|
  XPr.cons (xs_bipush dX4_set_27 (by decide +kernel)) <|
  XPr.cons (xs_iret rfl dX4_set_29) <|
  XPr.cons (xs_aload_n dX4_set_30 rfl) <|
  XPr.cons (xs_iload_n dX4_set_31 rfl) <|
  XPr.cons (xs_iload_n dX4_set_32 rfl) <|
  XPr.cons (xs_callV (T := TX4) rfl gw_261 gw_262 gw_263 gw_72 gw_264 (by decide +kernel) (Nat.le_of_ble_eq_true rfl) dX4_set_33) <|
  XPr.cons (xs_istore dX4_set_36 (Nat.le_of_ble_eq_true rfl)) <|
  XPr.cons (xs_iload dX4_set_38) <|
  XPr.cons (xs_sipush dX4_set_40 (by decide +kernel)) <|
  XPr.cons (xs_ic_ne dX4_set_43 (by decide +kernel)) <|
  XPr.cons (xs_bipush dX4_set_46 (by decide +kernel)) <|
  XPr.cons (xs_iret rfl dX4_set_48) <|
  XPr.cons (xs_iload_n dX4_set_49 rfl) <|
  XPr.cons (xs_table (ts := [84, 95, 106, 117, 130]) dX4_set_50 (by decide +kernel) (by decide +kernel) (by decide +kernel) (by decide +kernel)) <|
  XPr.cons (xs_aload_n dX4_set_84 rfl) <|
  XPr.cons (xs_get (T := TX4) rfl gX4 (Nat.le_of_ble_eq_true rfl) gw_230 dX4_set_85) <|
  XPr.cons (xs_iload_n dX4_set_88 rfl) <|
  XPr.cons (xs_putI (T := TX2) rfl gX2 tyX2_ok nmX2 (Nat.le_of_ble_eq_true rfl) gw_173 rfl (by decide +kernel) dX4_set_89) <|
  XPr.cons (xs_goto dX4_set_92 (by decide +kernel)) <|
  XPr.cons (xs_aload_n dX4_set_95 rfl) <|
  XPr.cons (xs_get (T := TX4) rfl gX4 (Nat.le_of_ble_eq_true rfl) gw_230 dX4_set_96) <|
  XPr.cons (xs_iload_n dX4_set_99 rfl) <|
  XPr.cons (xs_putI (T := TX2) rfl gX2 tyX2_ok nmX2 (Nat.le_of_ble_eq_true rfl) gw_176 rfl (by decide +kernel) dX4_set_100) <|
  XPr.cons (xs_goto dX4_set_103 (by decide +kernel)) <|
  XPr.cons (xs_aload_n dX4_set_106 rfl) <|
  XPr.nil
def pX4_set_1 : List (Nat × XOp) := [(107, xo_get 4 3 110), (110, xo_il 3 111), (111, xo_putI 2 9 114), (114, xo_goto 153), (117, xo_al 0 118), (118, xo_get 4 3 121), (121, xo_get 2 1 124), (124, xo_il 2 125), (125, xo_il 3 126), (126, xo_iast 127), (127, xo_goto 153), (130, xo_al 0 131), (131, xo_get 4 3 134), (134, xo_get 2 4 137), (137, xo_il 2 138), (138, xo_il 3 139), (139, xo_iast 140), (140, xo_goto 153), (143, xo_al 0 144), (144, xo_get 4 3 147), (147, xo_get 2 5 150), (150, xo_il 2 151), (151, xo_il 3 152), (152, xo_iast 153), (153, xo_il 4 155), (155, xo_iret)]
theorem sX4_set_1 : XPr RX4 cX4_set 5 (some .int) 10 pX4_set_1 :=
  XPr.cons (xs_get (T := TX4) rfl gX4 (Nat.le_of_ble_eq_true rfl) gw_230 dX4_set_107) <|
  XPr.cons (xs_iload_n dX4_set_110 rfl) <|
  XPr.cons (xs_putI (T := TX2) rfl gX2 tyX2_ok nmX2 (Nat.le_of_ble_eq_true rfl) gw_177 rfl (by decide +kernel) dX4_set_111) <|
  XPr.cons (xs_goto dX4_set_114 (by decide +kernel)) <|
  XPr.cons (xs_aload_n dX4_set_117 rfl) <|
  XPr.cons (xs_get (T := TX4) rfl gX4 (Nat.le_of_ble_eq_true rfl) gw_230 dX4_set_118) <|
  XPr.cons (xs_get (T := TX2) rfl gX2 (Nat.le_of_ble_eq_true rfl) gw_162 dX4_set_121) <|
  XPr.cons (xs_iload_n dX4_set_124 rfl) <|
  XPr.cons (xs_iload_n dX4_set_125 rfl) <|
  XPr.cons (xs_iast dX4_set_126) <|
  XPr.cons (xs_goto dX4_set_127 (by decide +kernel)) <|
  XPr.cons (xs_aload_n dX4_set_130 rfl) <|
  XPr.cons (xs_get (T := TX4) rfl gX4 (Nat.le_of_ble_eq_true rfl) gw_230 dX4_set_131) <|
  XPr.cons (xs_get (T := TX2) rfl gX2 (Nat.le_of_ble_eq_true rfl) gw_168 dX4_set_134) <|
  XPr.cons (xs_iload_n dX4_set_137 rfl) <|
  XPr.cons (xs_iload_n dX4_set_138 rfl) <|
  XPr.cons (xs_iast dX4_set_139) <|
  XPr.cons (xs_goto dX4_set_140 (by decide +kernel)) <|
  XPr.cons (xs_aload_n dX4_set_143 rfl) <|
  XPr.cons (xs_get (T := TX4) rfl gX4 (Nat.le_of_ble_eq_true rfl) gw_230 dX4_set_144) <|
  XPr.cons (xs_get (T := TX2) rfl gX2 (Nat.le_of_ble_eq_true rfl) gw_170 dX4_set_147) <|
  XPr.cons (xs_iload_n dX4_set_150 rfl) <|
  XPr.cons (xs_iload_n dX4_set_151 rfl) <|
  XPr.cons (xs_iast dX4_set_152) <|
  XPr.cons (xs_iload dX4_set_153) <|
  XPr.cons (xs_iret rfl dX4_set_155) <|
  XPr.nil
def pX4_set : List (Nat × XOp) := pX4_set_0 ++ pX4_set_1
theorem sX4_set : XPr RX4 cX4_set 5 (some .int) 10 pX4_set := (sX4_set_0).app sX4_set_1
def pX4_wright : List (Nat × XOp) := [(0, xo_il 1 1), (1, xo_ic 0 2), (2, xo_ic 5 3), (3, xo_p3 f_within 6), (6, xo_if_eq 29 9), (9, xo_il 2 10), (10, xo_ic 0 11), (11, xo_ic 9 13), (13, xo_p3 f_within 16), (16, xo_if_eq 29 19), (19, xo_il 3 20), (20, xo_ic 0 21), (21, xo_ic 99 23), (23, xo_p3 f_within 26), (26, xo_if_ne 32 29), (29, xo_ic (-2) 31), (31, xo_iret), (32, xo_al 0 33), (33, xo_get 4 3 36), (36, xo_il 1 37), (37, xo_il 2 38), (38, xo_il 3 39), (39, xo_callV yX2_comes cX2_comes 4 (some .int) 3 2 42), (42, xo_iret)]
theorem sX4_wright : XPr RX4 cX4_wright 4 (some .int) 10 pX4_wright :=
  XPr.cons (xs_iload_n dX4_wright_0 rfl) <|
  XPr.cons (xs_iconst dX4_wright_1 (by decide +kernel)) <|
  XPr.cons (xs_iconst dX4_wright_2 (by decide +kernel)) <|
  XPr.cons (xs_p3 (xs_callS gw_258 gw_259 gw_72 gw_260 (by decide +kernel) (Nat.le_of_ble_eq_true rfl) dX4_wright_3) c_X4_within (Nat.le_of_ble_eq_true rfl)) <|
  XPr.cons (xs_if_eq dX4_wright_6 (by decide +kernel)) <|
  XPr.cons (xs_iload_n dX4_wright_9 rfl) <|
  XPr.cons (xs_iconst dX4_wright_10 (by decide +kernel)) <|
  XPr.cons (xs_bipush dX4_wright_11 (by decide +kernel)) <|
  XPr.cons (xs_p3 (xs_callS gw_258 gw_259 gw_72 gw_260 (by decide +kernel) (Nat.le_of_ble_eq_true rfl) dX4_wright_13) c_X4_within (Nat.le_of_ble_eq_true rfl)) <|
  XPr.cons (xs_if_eq dX4_wright_16 (by decide +kernel)) <|
  XPr.cons (xs_iload_n dX4_wright_19 rfl) <|
  XPr.cons (xs_iconst dX4_wright_20 (by decide +kernel)) <|
  XPr.cons (xs_bipush dX4_wright_21 (by decide +kernel)) <|
  XPr.cons (xs_p3 (xs_callS gw_258 gw_259 gw_72 gw_260 (by decide +kernel) (Nat.le_of_ble_eq_true rfl) dX4_wright_23) c_X4_within (Nat.le_of_ble_eq_true rfl)) <|
  XPr.cons (xs_if_ne dX4_wright_26 (by decide +kernel)) <|
  XPr.cons (xs_bipush dX4_wright_29 (by decide +kernel)) <|
  XPr.cons (xs_iret rfl dX4_wright_31) <|
  XPr.cons (xs_aload_n dX4_wright_32 rfl) <|
  XPr.cons (xs_get (T := TX4) rfl gX4 (Nat.le_of_ble_eq_true rfl) gw_230 dX4_wright_33) <|
  XPr.cons (xs_iload_n dX4_wright_36 rfl) <|
  XPr.cons (xs_iload_n dX4_wright_37 rfl) <|
  XPr.cons (xs_iload_n dX4_wright_38 rfl) <|
  XPr.cons (xs_callV (T := TX2) rfl gw_332 gw_333 gw_334 gw_75 gw_335 (by decide +kernel) (Nat.le_of_ble_eq_true rfl) dX4_wright_39) <|
  XPr.cons (xs_iret rfl dX4_wright_42) <|
  XPr.nil
def pX4_told : List (Nat × XOp) := [(0, xo_il 2 1), (1, xo_sw [(0, 64), (1, 72), (2, 80), (3, 88), (4, 108), (5, 108), (6, 108), (7, 108), (8, 108), (9, 108), (10, 88), (11, 88)] 108), (64, xo_al 0 65), (65, xo_get 4 3 68), (68, xo_get 2 7 71), (71, xo_iret), (72, xo_al 0 73), (73, xo_get 4 3 76), (76, xo_get 2 8 79), (79, xo_iret), (80, xo_al 0 81), (81, xo_get 4 3 84), (84, xo_get 2 9 87), (87, xo_iret), (88, xo_il 1 89), (89, xo_p1 f_isPart 92), (92, xo_if_eq 104 95), (95, xo_al 0 96), (96, xo_il 1 97), (97, xo_il 2 98), (98, xo_callV yX4_toldOfPart cX4_toldOfPart 3 (some .int) 2 4 101), (101, xo_goto 107), (104, xo_ic (-1000) 107), (107, xo_iret), (108, xo_al 0 109), (109, xo_get 4 3 112), (112, xo_il 1 113), (113, xo_callV yX2_has cX2_has 2 (some .boolean) 1 2 116), (116, xo_if_eq 128 119), (119, xo_al 0 120), (120, xo_il 1 121), (121, xo_il 2 122), (122, xo_callV yX4_toldOfWright cX4_toldOfWright 3 (some .int) 2 4 125), (125, xo_goto 131), (128, xo_ic (-1000) 131), (131, xo_iret)]
theorem sX4_told : XPr RX4 cX4_told 3 (some .int) 10 pX4_told :=
  XPr.cons (xs_iload_n dX4_told_0 rfl) <|
  XPr.cons (xs_table (ts := [64, 72, 80, 88, 108, 108, 108, 108, 108, 108, 88, 88]) dX4_told_1 (by decide +kernel) (by decide +kernel) (by decide +kernel) (by decide +kernel)) <|
  XPr.cons (xs_aload_n dX4_told_64 rfl) <|
  XPr.cons (xs_get (T := TX4) rfl gX4 (Nat.le_of_ble_eq_true rfl) gw_230 dX4_told_65) <|
  XPr.cons (xs_get (T := TX2) rfl gX2 (Nat.le_of_ble_eq_true rfl) gw_173 dX4_told_68) <|
  XPr.cons (xs_iret rfl dX4_told_71) <|
  XPr.cons (xs_aload_n dX4_told_72 rfl) <|
  XPr.cons (xs_get (T := TX4) rfl gX4 (Nat.le_of_ble_eq_true rfl) gw_230 dX4_told_73) <|
  XPr.cons (xs_get (T := TX2) rfl gX2 (Nat.le_of_ble_eq_true rfl) gw_176 dX4_told_76) <|
  XPr.cons (xs_iret rfl dX4_told_79) <|
  XPr.cons (xs_aload_n dX4_told_80 rfl) <|
  XPr.cons (xs_get (T := TX4) rfl gX4 (Nat.le_of_ble_eq_true rfl) gw_230 dX4_told_81) <|
  XPr.cons (xs_get (T := TX2) rfl gX2 (Nat.le_of_ble_eq_true rfl) gw_177 dX4_told_84) <|
  XPr.cons (xs_iret rfl dX4_told_87) <|
  XPr.cons (xs_iload_n dX4_told_88 rfl) <|
  XPr.cons (xs_p1 (xs_callS gw_265 gw_266 gw_72 gw_267 (by decide +kernel) (Nat.le_of_ble_eq_true rfl) dX4_told_89) c_X4_isPart (Nat.le_of_ble_eq_true rfl)) <|
  XPr.cons (xs_if_eq dX4_told_92 (by decide +kernel)) <|
  XPr.cons (xs_aload_n dX4_told_95 rfl) <|
  XPr.cons (xs_iload_n dX4_told_96 rfl) <|
  XPr.cons (xs_iload_n dX4_told_97 rfl) <|
  XPr.cons (xs_callV (T := TX4) rfl gw_268 gw_270 gw_0 gw_72 gw_271 (by decide +kernel) (Nat.le_of_ble_eq_true rfl) dX4_told_98) <|
  XPr.cons (xs_goto dX4_told_101 (by decide +kernel)) <|
  XPr.cons (xs_sipush dX4_told_104 (by decide +kernel)) <|
  XPr.cons (xs_iret rfl dX4_told_107) <|
  XPr.cons (xs_aload_n dX4_told_108 rfl) <|
  XPr.cons (xs_get (T := TX4) rfl gX4 (Nat.le_of_ble_eq_true rfl) gw_230 dX4_told_109) <|
  XPr.cons (xs_iload_n dX4_told_112 rfl) <|
  XPr.cons (xs_callV (T := TX2) rfl gw_282 gw_283 gw_284 gw_75 gw_285 (by decide +kernel) (Nat.le_of_ble_eq_true rfl) dX4_told_113) <|
  XPr.cons (xs_if_eq dX4_told_116 (by decide +kernel)) <|
  XPr.cons (xs_aload_n dX4_told_119 rfl) <|
  XPr.cons (xs_iload_n dX4_told_120 rfl) <|
  XPr.cons (xs_iload_n dX4_told_121 rfl) <|
  XPr.cons (xs_callV (T := TX4) rfl gw_287 gw_289 gw_1 gw_72 gw_290 (by decide +kernel) (Nat.le_of_ble_eq_true rfl) dX4_told_122) <|
  XPr.cons (xs_goto dX4_told_125 (by decide +kernel)) <|
  XPr.cons (xs_sipush dX4_told_128 (by decide +kernel)) <|
  XPr.cons (xs_iret rfl dX4_told_131) <|
  XPr.nil
def pX4_toldOfPart : List (Nat × XOp) := [(0, xo_il 2 1), (1, xo_sw [(3, 28), (10, 38)] 48), (28, xo_al 0 29), (29, xo_get 4 3 32), (32, xo_get 2 1 35), (35, xo_il 1 36), (36, xo_iald 37), (37, xo_iret), (38, xo_al 0 39), (39, xo_get 4 3 42), (42, xo_get 2 0 45), (45, xo_il 1 46), (46, xo_iald 47), (47, xo_iret), (48, xo_al 0 49), (49, xo_get 4 3 52), (52, xo_il 1 53), (53, xo_callV yX2_leaks cX2_leaks 3 (some .int) 1 2 56), (56, xo_iret)]
theorem sX4_toldOfPart : XPr RX4 cX4_toldOfPart 3 (some .int) 10 pX4_toldOfPart :=
  XPr.cons (xs_iload_n dX4_toldOfPart_0 rfl) <|
  XPr.cons (xs_lookup dX4_toldOfPart_1 (by decide +kernel) lk_X4_toldOfPart_1) <|
  XPr.cons (xs_aload_n dX4_toldOfPart_28 rfl) <|
  XPr.cons (xs_get (T := TX4) rfl gX4 (Nat.le_of_ble_eq_true rfl) gw_230 dX4_toldOfPart_29) <|
  XPr.cons (xs_get (T := TX2) rfl gX2 (Nat.le_of_ble_eq_true rfl) gw_162 dX4_toldOfPart_32) <|
  XPr.cons (xs_iload_n dX4_toldOfPart_35 rfl) <|
  XPr.cons (xs_iald dX4_toldOfPart_36) <|
  XPr.cons (xs_iret rfl dX4_toldOfPart_37) <|
  XPr.cons (xs_aload_n dX4_toldOfPart_38 rfl) <|
  XPr.cons (xs_get (T := TX4) rfl gX4 (Nat.le_of_ble_eq_true rfl) gw_230 dX4_toldOfPart_39) <|
  XPr.cons (xs_get (T := TX2) rfl gX2 (Nat.le_of_ble_eq_true rfl) gw_160 dX4_toldOfPart_42) <|
  XPr.cons (xs_iload_n dX4_toldOfPart_45 rfl) <|
  XPr.cons (xs_iald dX4_toldOfPart_46) <|
  XPr.cons (xs_iret rfl dX4_toldOfPart_47) <|
  XPr.cons (xs_aload_n dX4_toldOfPart_48 rfl) <|
  XPr.cons (xs_get (T := TX4) rfl gX4 (Nat.le_of_ble_eq_true rfl) gw_230 dX4_toldOfPart_49) <|
  XPr.cons (xs_iload_n dX4_toldOfPart_52 rfl) <|
  XPr.cons (xs_callV (T := TX2) rfl gw_272 gw_273 gw_274 gw_75 gw_275 (by decide +kernel) (Nat.le_of_ble_eq_true rfl) dX4_toldOfPart_53) <|
  XPr.cons (xs_iret rfl dX4_toldOfPart_56) <|
  XPr.nil
def pX4_toldOfWright : List (Nat × XOp) := [(0, xo_il 2 1), (1, xo_sw [(4, 40), (5, 50), (6, 60), (7, 70), (8, 80), (9, 89)] 98), (40, xo_al 0 41), (41, xo_get 4 3 44), (44, xo_get 2 4 47), (47, xo_il 1 48), (48, xo_iald 49), (49, xo_iret), (50, xo_al 0 51), (51, xo_get 4 3 54), (54, xo_get 2 5 57), (57, xo_il 1 58), (58, xo_iald 59), (59, xo_iret), (60, xo_al 0 61), (61, xo_get 4 3 64), (64, xo_get 2 3 67), (67, xo_il 1 68), (68, xo_iald 69), (69, xo_iret), (70, xo_al 0 71), (71, xo_get 4 3 74), (74, xo_get 2 6 77), (77, xo_il 1 78), (78, xo_iald 79), (79, xo_iret), (80, xo_al 0 81), (81, xo_get 4 3 84), (84, xo_il 1 85), (85, xo_callV yX2_madeBy cX2_madeBy 4 (some .int) 1 2 88), (88, xo_iret), (89, xo_al 0 90), (90, xo_get 4 3 93), (93, xo_il 1 94), (94, xo_callV yX2_pumps cX2_pumps 4 (some .int) 1 2 97), (97, xo_iret), (98, xo_ic (-1000) 101), (101, xo_iret)]
theorem sX4_toldOfWright : XPr RX4 cX4_toldOfWright 3 (some .int) 10 pX4_toldOfWright :=
  XPr.cons (xs_iload_n dX4_toldOfWright_0 rfl) <|
  XPr.cons (xs_table (ts := [40, 50, 60, 70, 80, 89]) dX4_toldOfWright_1 (by decide +kernel) (by decide +kernel) (by decide +kernel) (by decide +kernel)) <|
  XPr.cons (xs_aload_n dX4_toldOfWright_40 rfl) <|
  XPr.cons (xs_get (T := TX4) rfl gX4 (Nat.le_of_ble_eq_true rfl) gw_230 dX4_toldOfWright_41) <|
  XPr.cons (xs_get (T := TX2) rfl gX2 (Nat.le_of_ble_eq_true rfl) gw_168 dX4_toldOfWright_44) <|
  XPr.cons (xs_iload_n dX4_toldOfWright_47 rfl) <|
  XPr.cons (xs_iald dX4_toldOfWright_48) <|
  XPr.cons (xs_iret rfl dX4_toldOfWright_49) <|
  XPr.cons (xs_aload_n dX4_toldOfWright_50 rfl) <|
  XPr.cons (xs_get (T := TX4) rfl gX4 (Nat.le_of_ble_eq_true rfl) gw_230 dX4_toldOfWright_51) <|
  XPr.cons (xs_get (T := TX2) rfl gX2 (Nat.le_of_ble_eq_true rfl) gw_170 dX4_toldOfWright_54) <|
  XPr.cons (xs_iload_n dX4_toldOfWright_57 rfl) <|
  XPr.cons (xs_iald dX4_toldOfWright_58) <|
  XPr.cons (xs_iret rfl dX4_toldOfWright_59) <|
  XPr.cons (xs_aload_n dX4_toldOfWright_60 rfl) <|
  XPr.cons (xs_get (T := TX4) rfl gX4 (Nat.le_of_ble_eq_true rfl) gw_230 dX4_toldOfWright_61) <|
  XPr.cons (xs_get (T := TX2) rfl gX2 (Nat.le_of_ble_eq_true rfl) gw_166 dX4_toldOfWright_64) <|
  XPr.cons (xs_iload_n dX4_toldOfWright_67 rfl) <|
  XPr.cons (xs_iald dX4_toldOfWright_68) <|
  XPr.cons (xs_iret rfl dX4_toldOfWright_69) <|
  XPr.cons (xs_aload_n dX4_toldOfWright_70 rfl) <|
  XPr.cons (xs_get (T := TX4) rfl gX4 (Nat.le_of_ble_eq_true rfl) gw_230 dX4_toldOfWright_71) <|
  XPr.cons (xs_get (T := TX2) rfl gX2 (Nat.le_of_ble_eq_true rfl) gw_172 dX4_toldOfWright_74) <|
  XPr.cons (xs_iload_n dX4_toldOfWright_77 rfl) <|
  XPr.cons (xs_iald dX4_toldOfWright_78) <|
  XPr.cons (xs_iret rfl dX4_toldOfWright_79) <|
  XPr.cons (xs_aload_n dX4_toldOfWright_80 rfl) <|
  XPr.cons (xs_get (T := TX4) rfl gX4 (Nat.le_of_ble_eq_true rfl) gw_230 dX4_toldOfWright_81) <|
  XPr.cons (xs_iload_n dX4_toldOfWright_84 rfl) <|
  XPr.cons (xs_callV (T := TX2) rfl gw_291 gw_292 gw_293 gw_75 gw_294 (by decide +kernel) (Nat.le_of_ble_eq_true rfl) dX4_toldOfWright_85) <|
  XPr.cons (xs_iret rfl dX4_toldOfWright_88) <|
  XPr.cons (xs_aload_n dX4_toldOfWright_89 rfl) <|
  XPr.cons (xs_get (T := TX4) rfl gX4 (Nat.le_of_ble_eq_true rfl) gw_230 dX4_toldOfWright_90) <|
  XPr.cons (xs_iload_n dX4_toldOfWright_93 rfl) <|
  XPr.cons (xs_callV (T := TX2) rfl gw_295 gw_296 gw_297 gw_75 gw_298 (by decide +kernel) (Nat.le_of_ble_eq_true rfl) dX4_toldOfWright_94) <|
  XPr.cons (xs_iret rfl dX4_toldOfWright_97) <|
  XPr.cons (xs_sipush dX4_toldOfWright_98 (by decide +kernel)) <|
  XPr.cons (xs_iret rfl dX4_toldOfWright_101) <|
  XPr.nil
def pX4_asks : List (Nat × XOp) := [(0, xo_al 0 1), (1, xo_get 4 3 4), (4, xo_il 1 5), (5, xo_callV yX2_has cX2_has 2 (some .boolean) 1 2 8), (8, xo_if_eq 27 11), (11, xo_il 2 12), (12, xo_p1 f_isPart 15), (15, xo_if_eq 27 18), (18, xo_il 3 19), (19, xo_ic 0 20), (20, xo_ic 1 21), (21, xo_p3 f_within 24), (24, xo_if_ne 30 27), (27, xo_ic (-2) 29), (29, xo_iret), (30, xo_il 3 31), (31, xo_if_ne 46 34), (34, xo_al 0 35), (35, xo_get 4 3 38), (38, xo_il 1 39), (39, xo_il 2 40), (40, xo_callV yX2_makes cX2_makes 7 (some .int) 2 2 43), (43, xo_goto 55), (46, xo_al 0 47), (47, xo_get 4 3 50), (50, xo_il 1 51), (51, xo_il 2 52), (52, xo_callV yX2_mends cX2_mends 5 (some .int) 2 2 55), (55, xo_iret)]
theorem sX4_asks : XPr RX4 cX4_asks 4 (some .int) 10 pX4_asks :=
  XPr.cons (xs_aload_n dX4_asks_0 rfl) <|
  XPr.cons (xs_get (T := TX4) rfl gX4 (Nat.le_of_ble_eq_true rfl) gw_230 dX4_asks_1) <|
  XPr.cons (xs_iload_n dX4_asks_4 rfl) <|
  XPr.cons (xs_callV (T := TX2) rfl gw_282 gw_283 gw_284 gw_75 gw_285 (by decide +kernel) (Nat.le_of_ble_eq_true rfl) dX4_asks_5) <|
  XPr.cons (xs_if_eq dX4_asks_8 (by decide +kernel)) <|
  XPr.cons (xs_iload_n dX4_asks_11 rfl) <|
  XPr.cons (xs_p1 (xs_callS gw_265 gw_266 gw_72 gw_267 (by decide +kernel) (Nat.le_of_ble_eq_true rfl) dX4_asks_12) c_X4_isPart (Nat.le_of_ble_eq_true rfl)) <|
  XPr.cons (xs_if_eq dX4_asks_15 (by decide +kernel)) <|
  XPr.cons (xs_iload_n dX4_asks_18 rfl) <|
  XPr.cons (xs_iconst dX4_asks_19 (by decide +kernel)) <|
  XPr.cons (xs_iconst dX4_asks_20 (by decide +kernel)) <|
  XPr.cons (xs_p3 (xs_callS gw_258 gw_259 gw_72 gw_260 (by decide +kernel) (Nat.le_of_ble_eq_true rfl) dX4_asks_21) c_X4_within (Nat.le_of_ble_eq_true rfl)) <|
  XPr.cons (xs_if_ne dX4_asks_24 (by decide +kernel)) <|
  XPr.cons (xs_bipush dX4_asks_27 (by decide +kernel)) <|
  XPr.cons (xs_iret rfl dX4_asks_29) <|
  XPr.cons (xs_iload_n dX4_asks_30 rfl) <|
  XPr.cons (xs_if_ne dX4_asks_31 (by decide +kernel)) <|
  XPr.cons (xs_aload_n dX4_asks_34 rfl) <|
  XPr.cons (xs_get (T := TX4) rfl gX4 (Nat.le_of_ble_eq_true rfl) gw_230 dX4_asks_35) <|
  XPr.cons (xs_iload_n dX4_asks_38 rfl) <|
  XPr.cons (xs_iload_n dX4_asks_39 rfl) <|
  XPr.cons (xs_callV (T := TX2) rfl gw_341 gw_342 gw_343 gw_75 gw_344 (by decide +kernel) (Nat.le_of_ble_eq_true rfl) dX4_asks_40) <|
  XPr.cons (xs_goto dX4_asks_43 (by decide +kernel)) <|
  XPr.cons (xs_aload_n dX4_asks_46 rfl) <|
  XPr.cons (xs_get (T := TX4) rfl gX4 (Nat.le_of_ble_eq_true rfl) gw_230 dX4_asks_47) <|
  XPr.cons (xs_iload_n dX4_asks_50 rfl) <|
  XPr.cons (xs_iload_n dX4_asks_51 rfl) <|
  XPr.cons (xs_callV (T := TX2) rfl gw_346 gw_347 gw_348 gw_75 gw_349 (by decide +kernel) (Nat.le_of_ble_eq_true rfl) dX4_asks_52) <|
  XPr.cons (xs_iret rfl dX4_asks_55) <|
  XPr.nil
def pX4_feed : List (Nat × XOp) := [(0, xo_il 1 1), (1, xo_ic 0 2), (2, xo_ic 255 5), (5, xo_p3 f_within 8), (8, xo_if_ne 14 11), (11, xo_ic (-2) 13), (13, xo_iret), (14, xo_al 0 15), (15, xo_get 4 2 18), (18, xo_il 1 19), (19, xo_callV yX0_takes cX0_takes 2 (some .boolean) 1 0 22), (22, xo_if_eq 35 25), (25, xo_al 0 26), (26, xo_get 4 2 29), (29, xo_get 0 1 32), (32, xo_goto 37), (35, xo_ic (-4) 37), (37, xo_iret)]
theorem sX4_feed : XPr RX4 cX4_feed 2 (some .int) 10 pX4_feed :=
  XPr.cons (xs_iload_n dX4_feed_0 rfl) <|
  XPr.cons (xs_iconst dX4_feed_1 (by decide +kernel)) <|
  XPr.cons (xs_sipush dX4_feed_2 (by decide +kernel)) <|
  XPr.cons (xs_p3 (xs_callS gw_258 gw_259 gw_72 gw_260 (by decide +kernel) (Nat.le_of_ble_eq_true rfl) dX4_feed_5) c_X4_within (Nat.le_of_ble_eq_true rfl)) <|
  XPr.cons (xs_if_ne dX4_feed_8 (by decide +kernel)) <|
  XPr.cons (xs_bipush dX4_feed_11 (by decide +kernel)) <|
  XPr.cons (xs_iret rfl dX4_feed_13) <|
  XPr.cons (xs_aload_n dX4_feed_14 rfl) <|
  XPr.cons (xs_get (T := TX4) rfl gX4 (Nat.le_of_ble_eq_true rfl) gw_229 dX4_feed_15) <|
  XPr.cons (xs_iload_n dX4_feed_18 rfl) <|
  XPr.cons (xs_callV (T := TX0) rfl gw_354 gw_355 gw_356 gw_74 gw_357 (by decide +kernel) (Nat.le_of_ble_eq_true rfl) dX4_feed_19) <|
  XPr.cons (xs_if_eq dX4_feed_22 (by decide +kernel)) <|
  XPr.cons (xs_aload_n dX4_feed_25 rfl) <|
  XPr.cons (xs_get (T := TX4) rfl gX4 (Nat.le_of_ble_eq_true rfl) gw_229 dX4_feed_26) <|
  XPr.cons (xs_get (T := TX0) rfl gX0 (Nat.le_of_ble_eq_true rfl) gw_126 dX4_feed_29) <|
  XPr.cons (xs_goto dX4_feed_32 (by decide +kernel)) <|
  XPr.cons (xs_bipush dX4_feed_35 (by decide +kernel)) <|
  XPr.cons (xs_iret rfl dX4_feed_37) <|
  XPr.nil
def pX4_text : List (Nat × XOp) := [(0, xo_al 0 1), (1, xo_get 4 1 4), (4, xo_ic 0 5), (5, xo_ic 5 6), (6, xo_p3 f_within 9), (9, xo_if_ne 15 12), (12, xo_ic (-4) 14), (14, xo_iret), (15, xo_al 0 16), (16, xo_get 4 2 19), (19, xo_al 0 20), (20, xo_get 4 0 23), (23, xo_al 0 24), (24, xo_get 4 1 27), (27, xo_aald 2 28), (28, xo_callV yX0_reads cX0_reads 3 (some .int) 1 0 31), (31, xo_is 1 32), (32, xo_al 0 33), (33, xo_get 4 2 36), (36, xo_ic 0 37), (37, xo_putI 0 1 40), (40, xo_il 1 41), (41, xo_ic (-1) 42), (42, xo_ic_eq 50 45), (45, xo_ic (-100) 47), (47, xo_il 1 48), (48, xo_isub 49), (49, xo_iret), (50, xo_al 0 51), (51, xo_dupR 52), (52, xo_get 4 1 55), (55, xo_ic 1 56), (56, xo_iadd 57), (57, xo_putI 4 1 60), (60, xo_al 0 61), (61, xo_get 4 1 64), (64, xo_ic 1 65), (65, xo_isub 66), (66, xo_iret)]
theorem sX4_text : XPr RX4 cX4_text 2 (some .int) 10 pX4_text :=
  XPr.cons (xs_aload_n dX4_text_0 rfl) <|
  XPr.cons (xs_get (T := TX4) rfl gX4 (Nat.le_of_ble_eq_true rfl) gw_228 dX4_text_1) <|
  XPr.cons (xs_iconst dX4_text_4 (by decide +kernel)) <|
  XPr.cons (xs_iconst dX4_text_5 (by decide +kernel)) <|
  XPr.cons (xs_p3 (xs_callS gw_258 gw_259 gw_72 gw_260 (by decide +kernel) (Nat.le_of_ble_eq_true rfl) dX4_text_6) c_X4_within (Nat.le_of_ble_eq_true rfl)) <|
  XPr.cons (xs_if_ne dX4_text_9 (by decide +kernel)) <|
  XPr.cons (xs_bipush dX4_text_12 (by decide +kernel)) <|
  XPr.cons (xs_iret rfl dX4_text_14) <|
  XPr.cons (xs_aload_n dX4_text_15 rfl) <|
  XPr.cons (xs_get (T := TX4) rfl gX4 (Nat.le_of_ble_eq_true rfl) gw_229 dX4_text_16) <|
  XPr.cons (xs_aload_n dX4_text_19 rfl) <|
  XPr.cons (xs_get (T := TX4) rfl gX4 (Nat.le_of_ble_eq_true rfl) gw_227 dX4_text_20) <|
  XPr.cons (xs_aload_n dX4_text_23 rfl) <|
  XPr.cons (xs_get (T := TX4) rfl gX4 (Nat.le_of_ble_eq_true rfl) gw_228 dX4_text_24) <|
  XPr.cons (xs_aald (C := "WhoBuiltSails$Text") (fun _ => rfl) dX4_text_27) <|
  XPr.cons (xs_callV (T := TX0) rfl gw_362 gw_363 gw_364 gw_74 gw_365 (by decide +kernel) (Nat.le_of_ble_eq_true rfl) dX4_text_28) <|
  XPr.cons (xs_istore_n dX4_text_31 rfl (Nat.le_of_ble_eq_true rfl)) <|
  XPr.cons (xs_aload_n dX4_text_32 rfl) <|
  XPr.cons (xs_get (T := TX4) rfl gX4 (Nat.le_of_ble_eq_true rfl) gw_229 dX4_text_33) <|
  XPr.cons (xs_iconst dX4_text_36 (by decide +kernel)) <|
  XPr.cons (xs_putI (T := TX0) rfl gX0 tyX0_ok nmX0 (Nat.le_of_ble_eq_true rfl) gw_126 rfl (by decide +kernel) dX4_text_37) <|
  XPr.cons (xs_iload_n dX4_text_40 rfl) <|
  XPr.cons (xs_iconst dX4_text_41 (by decide +kernel)) <|
  XPr.cons (xs_ic_eq dX4_text_42 (by decide +kernel)) <|
  XPr.cons (xs_bipush dX4_text_45 (by decide +kernel)) <|
  XPr.cons (xs_iload_n dX4_text_47 rfl) <|
  XPr.cons (xs_isub dX4_text_48) <|
  XPr.cons (xs_iret rfl dX4_text_49) <|
  XPr.cons (xs_aload_n dX4_text_50 rfl) <|
  XPr.cons (xs_dupR dX4_text_51) <|
  XPr.cons (xs_get (T := TX4) rfl gX4 (Nat.le_of_ble_eq_true rfl) gw_228 dX4_text_52) <|
  XPr.cons (xs_iconst dX4_text_55 (by decide +kernel)) <|
  XPr.cons (xs_iadd dX4_text_56) <|
  XPr.cons (xs_putI (T := TX4) rfl gX4 tyX4_ok nmX4 (Nat.le_of_ble_eq_true rfl) gw_228 rfl (by decide +kernel) dX4_text_57) <|
  XPr.cons (xs_aload_n dX4_text_60 rfl) <|
  XPr.cons (xs_get (T := TX4) rfl gX4 (Nat.le_of_ble_eq_true rfl) gw_228 dX4_text_61) <|
  XPr.cons (xs_iconst dX4_text_64 (by decide +kernel)) <|
  XPr.cons (xs_isub dX4_text_65) <|
  XPr.cons (xs_iret rfl dX4_text_66) <|
  XPr.nil
def pX4_force : List (Nat × XOp) := [(0, xo_al 0 1), (1, xo_il 1 2), (2, xo_callV yX4_isText cX4_isText 2 (some .boolean) 1 4 5), (5, xo_if_ne 11 8), (8, xo_ic (-2) 10), (10, xo_iret), (11, xo_al 0 12), (12, xo_get 4 3 15), (15, xo_get 2 10 18), (18, xo_get 3 0 21), (21, xo_is 2 22), (22, xo_al 0 23), (23, xo_get 4 3 26), (26, xo_al 0 27), (27, xo_get 4 0 30), (30, xo_il 1 31), (31, xo_aald 2 32), (32, xo_putR 2 10 35), (35, xo_il 2 36), (36, xo_iret)]
theorem sX4_force : XPr RX4 cX4_force 3 (some .int) 10 pX4_force :=
  XPr.cons (xs_aload_n dX4_force_0 rfl) <|
  XPr.cons (xs_iload_n dX4_force_1 rfl) <|
  XPr.cons (xs_callV (T := TX4) rfl gw_496 gw_498 gw_18 gw_72 gw_499 (by decide +kernel) (Nat.le_of_ble_eq_true rfl) dX4_force_2) <|
  XPr.cons (xs_if_ne dX4_force_5 (by decide +kernel)) <|
  XPr.cons (xs_bipush dX4_force_8 (by decide +kernel)) <|
  XPr.cons (xs_iret rfl dX4_force_10) <|
  XPr.cons (xs_aload_n dX4_force_11 rfl) <|
  XPr.cons (xs_get (T := TX4) rfl gX4 (Nat.le_of_ble_eq_true rfl) gw_230 dX4_force_12) <|
  XPr.cons (xs_get (T := TX2) rfl gX2 (Nat.le_of_ble_eq_true rfl) gw_180 dX4_force_15) <|
  XPr.cons (xs_get (T := TX3) rfl gX3 (Nat.le_of_ble_eq_true rfl) gw_101 dX4_force_18) <|
  XPr.cons (xs_istore_n dX4_force_21 rfl (Nat.le_of_ble_eq_true rfl)) <|
  XPr.cons (xs_aload_n dX4_force_22 rfl) <|
  XPr.cons (xs_get (T := TX4) rfl gX4 (Nat.le_of_ble_eq_true rfl) gw_230 dX4_force_23) <|
  XPr.cons (xs_aload_n dX4_force_26 rfl) <|
  XPr.cons (xs_get (T := TX4) rfl gX4 (Nat.le_of_ble_eq_true rfl) gw_227 dX4_force_27) <|
  XPr.cons (xs_iload_n dX4_force_30 rfl) <|
  XPr.cons (xs_aald (C := "WhoBuiltSails$Text") (fun _ => rfl) dX4_force_31) <|
  XPr.cons (xs_putR (C2 := "WhoBuiltSails$Text") (T := TX2) rfl gX2 tyX2_ok nmX2 (Nat.le_of_ble_eq_true rfl) gw_180 rfl (by decide +kernel) dX4_force_32) <|
  XPr.cons (xs_iload_n dX4_force_35 rfl) <|
  XPr.cons (xs_iret rfl dX4_force_36) <|
  XPr.nil
def pX4_builds : List (Nat × XOp) := [(0, xo_al 0 1), (1, xo_get 4 3 4), (4, xo_il 1 5), (5, xo_callV yX2_has cX2_has 2 (some .boolean) 1 2 8), (8, xo_if_eq 18 11), (11, xo_il 2 12), (12, xo_p1 f_isPart 15), (15, xo_if_ne 21 18), (18, xo_ic (-2) 20), (20, xo_iret), (21, xo_al 0 22), (22, xo_get 4 3 25), (25, xo_get 2 6 28), (28, xo_il 1 29), (29, xo_iald 30), (30, xo_if_eq 36 33), (33, xo_ic (-3) 35), (35, xo_iret), (36, xo_al 0 37), (37, xo_get 4 3 40), (40, xo_il 1 41), (41, xo_il 2 42), (42, xo_callV yX2_build cX2_build 3 none 2 2 45), (45, xo_al 0 46), (46, xo_get 4 3 49), (49, xo_get 2 1 52), (52, xo_il 2 53), (53, xo_iald 54), (54, xo_iret)]
theorem sX4_builds : XPr RX4 cX4_builds 3 (some .int) 10 pX4_builds :=
  XPr.cons (xs_aload_n dX4_builds_0 rfl) <|
  XPr.cons (xs_get (T := TX4) rfl gX4 (Nat.le_of_ble_eq_true rfl) gw_230 dX4_builds_1) <|
  XPr.cons (xs_iload_n dX4_builds_4 rfl) <|
  XPr.cons (xs_callV (T := TX2) rfl gw_282 gw_283 gw_284 gw_75 gw_285 (by decide +kernel) (Nat.le_of_ble_eq_true rfl) dX4_builds_5) <|
  XPr.cons (xs_if_eq dX4_builds_8 (by decide +kernel)) <|
  XPr.cons (xs_iload_n dX4_builds_11 rfl) <|
  XPr.cons (xs_p1 (xs_callS gw_265 gw_266 gw_72 gw_267 (by decide +kernel) (Nat.le_of_ble_eq_true rfl) dX4_builds_12) c_X4_isPart (Nat.le_of_ble_eq_true rfl)) <|
  XPr.cons (xs_if_ne dX4_builds_15 (by decide +kernel)) <|
  XPr.cons (xs_bipush dX4_builds_18 (by decide +kernel)) <|
  XPr.cons (xs_iret rfl dX4_builds_20) <|
  XPr.cons (xs_aload_n dX4_builds_21 rfl) <|
  XPr.cons (xs_get (T := TX4) rfl gX4 (Nat.le_of_ble_eq_true rfl) gw_230 dX4_builds_22) <|
  XPr.cons (xs_get (T := TX2) rfl gX2 (Nat.le_of_ble_eq_true rfl) gw_172 dX4_builds_25) <|
  XPr.cons (xs_iload_n dX4_builds_28 rfl) <|
  XPr.cons (xs_iald dX4_builds_29) <|
  XPr.cons (xs_if_eq dX4_builds_30 (by decide +kernel)) <|
  XPr.cons (xs_bipush dX4_builds_33 (by decide +kernel)) <|
  XPr.cons (xs_iret rfl dX4_builds_35) <|
  XPr.cons (xs_aload_n dX4_builds_36 rfl) <|
  XPr.cons (xs_get (T := TX4) rfl gX4 (Nat.le_of_ble_eq_true rfl) gw_230 dX4_builds_37) <|
  XPr.cons (xs_iload_n dX4_builds_40 rfl) <|
  XPr.cons (xs_iload_n dX4_builds_41 rfl) <|
  XPr.cons (xs_callV (T := TX2) rfl gw_504 gw_505 gw_506 gw_75 gw_507 (by decide +kernel) (Nat.le_of_ble_eq_true rfl) dX4_builds_42) <|
  XPr.cons (xs_aload_n dX4_builds_45 rfl) <|
  XPr.cons (xs_get (T := TX4) rfl gX4 (Nat.le_of_ble_eq_true rfl) gw_230 dX4_builds_46) <|
  XPr.cons (xs_get (T := TX2) rfl gX2 (Nat.le_of_ble_eq_true rfl) gw_162 dX4_builds_49) <|
  XPr.cons (xs_iload_n dX4_builds_52 rfl) <|
  XPr.cons (xs_iald dX4_builds_53) <|
  XPr.cons (xs_iret rfl dX4_builds_54) <|
  XPr.nil
def pX4_bound : List (Nat × XOp) := [(0, xo_al 0 1), (1, xo_get 4 3 4), (4, xo_callV yX2_bind cX2_bind 2 none 0 2 7), (7, xo_al 0 8), (8, xo_get 4 3 11), (11, xo_ic 1 12), (12, xo_callV yX2_who cX2_who 4 (some .int) 1 2 15), (15, xo_iret)]
theorem sX4_bound : XPr RX4 cX4_bound 1 (some .int) 10 pX4_bound :=
  XPr.cons (xs_aload_n dX4_bound_0 rfl) <|
  XPr.cons (xs_get (T := TX4) rfl gX4 (Nat.le_of_ble_eq_true rfl) gw_230 dX4_bound_1) <|
  XPr.cons (xs_callV (T := TX2) rfl gw_513 gw_514 gw_515 gw_75 gw_516 (by decide +kernel) (Nat.le_of_ble_eq_true rfl) dX4_bound_4) <|
  XPr.cons (xs_aload_n dX4_bound_7 rfl) <|
  XPr.cons (xs_get (T := TX4) rfl gX4 (Nat.le_of_ble_eq_true rfl) gw_230 dX4_bound_8) <|
  XPr.cons (xs_iconst dX4_bound_11 (by decide +kernel)) <|
  XPr.cons (xs_callV (T := TX2) rfl gw_517 gw_319 gw_320 gw_75 gw_321 (by decide +kernel) (Nat.le_of_ble_eq_true rfl) dX4_bound_12) <|
  XPr.cons (xs_iret rfl dX4_bound_15) <|
  XPr.nil
def pX4_home : List (Nat × XOp) := [(0, xo_al 0 1), (1, xo_get 4 3 4), (4, xo_callV yX2_isDown cX2_isDown 1 (some .boolean) 0 2 7), (7, xo_if_eq 13 10), (10, xo_ic (-3) 12), (12, xo_iret), (13, xo_al 0 14), (14, xo_get 4 3 17), (17, xo_ic 1 18), (18, xo_callV yX2_who cX2_who 4 (some .int) 1 2 21), (21, xo_is 1 22), (22, xo_al 0 23), (23, xo_get 4 3 26), (26, xo_ic 1 27), (27, xo_ic 0 28), (28, xo_callV yX2_allMove cX2_allMove 4 none 2 2 31), (31, xo_il 1 32), (32, xo_iret)]
theorem sX4_home : XPr RX4 cX4_home 2 (some .int) 10 pX4_home :=
  XPr.cons (xs_aload_n dX4_home_0 rfl) <|
  XPr.cons (xs_get (T := TX4) rfl gX4 (Nat.le_of_ble_eq_true rfl) gw_230 dX4_home_1) <|
  XPr.cons (xs_callV (T := TX2) rfl gw_522 gw_523 gw_524 gw_75 gw_525 (by decide +kernel) (Nat.le_of_ble_eq_true rfl) dX4_home_4) <|
  XPr.cons (xs_if_eq dX4_home_7 (by decide +kernel)) <|
  XPr.cons (xs_bipush dX4_home_10 (by decide +kernel)) <|
  XPr.cons (xs_iret rfl dX4_home_12) <|
  XPr.cons (xs_aload_n dX4_home_13 rfl) <|
  XPr.cons (xs_get (T := TX4) rfl gX4 (Nat.le_of_ble_eq_true rfl) gw_230 dX4_home_14) <|
  XPr.cons (xs_iconst dX4_home_17 (by decide +kernel)) <|
  XPr.cons (xs_callV (T := TX2) rfl gw_517 gw_319 gw_320 gw_75 gw_321 (by decide +kernel) (Nat.le_of_ble_eq_true rfl) dX4_home_18) <|
  XPr.cons (xs_istore_n dX4_home_21 rfl (Nat.le_of_ble_eq_true rfl)) <|
  XPr.cons (xs_aload_n dX4_home_22 rfl) <|
  XPr.cons (xs_get (T := TX4) rfl gX4 (Nat.le_of_ble_eq_true rfl) gw_230 dX4_home_23) <|
  XPr.cons (xs_iconst dX4_home_26 (by decide +kernel)) <|
  XPr.cons (xs_iconst dX4_home_27 (by decide +kernel)) <|
  XPr.cons (xs_callV (T := TX2) rfl gw_526 gw_527 gw_528 gw_75 gw_529 (by decide +kernel) (Nat.le_of_ble_eq_true rfl) dX4_home_28) <|
  XPr.cons (xs_iload_n dX4_home_31 rfl) <|
  XPr.cons (xs_iret rfl dX4_home_32) <|
  XPr.nil
def pX4_day : List (Nat × XOp) := [(0, xo_al 0 1), (1, xo_get 4 3 4), (4, xo_get 2 7 7), (7, xo_ic 999 10), (10, xo_ic_ge 23 13), (13, xo_al 0 14), (14, xo_get 4 3 17), (17, xo_callV yX2_isDown cX2_isDown 1 (some .boolean) 0 2 20), (20, xo_if_eq 26 23), (23, xo_ic (-3) 25), (25, xo_iret), (26, xo_al 0 27), (27, xo_get 4 3 30), (30, xo_callV yX2_passDay cX2_passDay 3 none 0 2 33), (33, xo_al 0 34), (34, xo_get 4 3 37), (37, xo_get 2 9 40), (40, xo_iret)]
theorem sX4_day : XPr RX4 cX4_day 1 (some .int) 10 pX4_day :=
  XPr.cons (xs_aload_n dX4_day_0 rfl) <|
  XPr.cons (xs_get (T := TX4) rfl gX4 (Nat.le_of_ble_eq_true rfl) gw_230 dX4_day_1) <|
  XPr.cons (xs_get (T := TX2) rfl gX2 (Nat.le_of_ble_eq_true rfl) gw_173 dX4_day_4) <|
  XPr.cons (xs_sipush dX4_day_7 (by decide +kernel)) <|
  XPr.cons (xs_ic_ge dX4_day_10 (by decide +kernel)) <|
  XPr.cons (xs_aload_n dX4_day_13 rfl) <|
  XPr.cons (xs_get (T := TX4) rfl gX4 (Nat.le_of_ble_eq_true rfl) gw_230 dX4_day_14) <|
  XPr.cons (xs_callV (T := TX2) rfl gw_522 gw_523 gw_524 gw_75 gw_525 (by decide +kernel) (Nat.le_of_ble_eq_true rfl) dX4_day_17) <|
  XPr.cons (xs_if_eq dX4_day_20 (by decide +kernel)) <|
  XPr.cons (xs_bipush dX4_day_23 (by decide +kernel)) <|
  XPr.cons (xs_iret rfl dX4_day_25) <|
  XPr.cons (xs_aload_n dX4_day_26 rfl) <|
  XPr.cons (xs_get (T := TX4) rfl gX4 (Nat.le_of_ble_eq_true rfl) gw_230 dX4_day_27) <|
  XPr.cons (xs_callV (T := TX2) rfl gw_534 gw_535 gw_536 gw_75 gw_537 (by decide +kernel) (Nat.le_of_ble_eq_true rfl) dX4_day_30) <|
  XPr.cons (xs_aload_n dX4_day_33 rfl) <|
  XPr.cons (xs_get (T := TX4) rfl gX4 (Nat.le_of_ble_eq_true rfl) gw_230 dX4_day_34) <|
  XPr.cons (xs_get (T := TX2) rfl gX2 (Nat.le_of_ble_eq_true rfl) gw_177 dX4_day_37) <|
  XPr.cons (xs_iret rfl dX4_day_40) <|
  XPr.nil
def pX4_run_0 : List (Nat × XOp) := [(0, xo_il 1 1), (1, xo_ic 0 2), (2, xo_ic 40 4), (4, xo_p3 f_within 7), (7, xo_if_eq 29 10), (10, xo_il 2 11), (11, xo_ic 0 12), (12, xo_ic 2 13), (13, xo_p3 f_within 16), (16, xo_if_ne 32 19), (19, xo_il 2 20), (20, xo_ic 10 22), (22, xo_isub 23), (23, xo_p1 f_isPart 26), (26, xo_if_ne 32 29), (29, xo_ic (-2) 31), (31, xo_iret), (32, xo_al 0 33), (33, xo_get 4 4 36), (36, xo_al 0 37), (37, xo_get 4 3 40), (40, xo_callV yX2_becomes cX2_becomes 2 none 1 2 43), (43, xo_al 0 44), (44, xo_get 4 4 47), (47, xo_il 1 48), (48, xo_callV yX2_pass cX2_pass 3 none 1 2 51), (51, xo_il 2 52), (52, xo_sw [(0, 80), (1, 88), (2, 97)] 105), (80, xo_al 0 81), (81, xo_get 4 4 84), (84, xo_get 2 9 87), (87, xo_iret), (88, xo_al 0 89), (89, xo_get 4 4 92), (92, xo_ic 2 93), (93, xo_callV yX2_who cX2_who 4 (some .int) 1 2 96), (96, xo_iret), (97, xo_al 0 98), (98, xo_get 4 4 101), (101, xo_callV yX2_allLeak cX2_allLeak 3 (some .int) 0 2 104)]
theorem sX4_run_0 : XPr RX4 cX4_run 3 (some .int) 10 pX4_run_0 :=
  XPr.cons (xs_iload_n dX4_run_0 rfl) <|
  XPr.cons (xs_iconst dX4_run_1 (by decide +kernel)) <|
  XPr.cons (xs_bipush dX4_run_2 (by decide +kernel)) <|
  XPr.cons (xs_p3 (xs_callS gw_258 gw_259 gw_72 gw_260 (by decide +kernel) (Nat.le_of_ble_eq_true rfl) dX4_run_4) c_X4_within (Nat.le_of_ble_eq_true rfl)) <|
  XPr.cons (xs_if_eq dX4_run_7 (by decide +kernel)) <|
  XPr.cons (xs_iload_n dX4_run_10 rfl) <|
  XPr.cons (xs_iconst dX4_run_11 (by decide +kernel)) <|
  XPr.cons (xs_iconst dX4_run_12 (by decide +kernel)) <|
  XPr.cons (xs_p3 (xs_callS gw_258 gw_259 gw_72 gw_260 (by decide +kernel) (Nat.le_of_ble_eq_true rfl) dX4_run_13) c_X4_within (Nat.le_of_ble_eq_true rfl)) <|
  XPr.cons (xs_if_ne dX4_run_16 (by decide +kernel)) <|
  XPr.cons (xs_iload_n dX4_run_19 rfl) <|
  XPr.cons (xs_bipush dX4_run_20 (by decide +kernel)) <|
  XPr.cons (xs_isub dX4_run_22) <|
  XPr.cons (xs_p1 (xs_callS gw_265 gw_266 gw_72 gw_267 (by decide +kernel) (Nat.le_of_ble_eq_true rfl) dX4_run_23) c_X4_isPart (Nat.le_of_ble_eq_true rfl)) <|
  XPr.cons (xs_if_ne dX4_run_26 (by decide +kernel)) <|
  XPr.cons (xs_bipush dX4_run_29 (by decide +kernel)) <|
  XPr.cons (xs_iret rfl dX4_run_31) <|
  XPr.cons (xs_aload_n dX4_run_32 rfl) <|
  XPr.cons (xs_get (T := TX4) rfl gX4 (Nat.le_of_ble_eq_true rfl) gw_231 dX4_run_33) <|
  XPr.cons (xs_aload_n dX4_run_36 rfl) <|
  XPr.cons (xs_get (T := TX4) rfl gX4 (Nat.le_of_ble_eq_true rfl) gw_230 dX4_run_37) <|
  XPr.cons (xs_callV (T := TX2) rfl gw_555 gw_556 gw_557 gw_75 gw_558 (by decide +kernel) (Nat.le_of_ble_eq_true rfl) dX4_run_40) <|
  XPr.cons (xs_aload_n dX4_run_43 rfl) <|
  XPr.cons (xs_get (T := TX4) rfl gX4 (Nat.le_of_ble_eq_true rfl) gw_231 dX4_run_44) <|
  XPr.cons (xs_iload_n dX4_run_47 rfl) <|
  XPr.cons (xs_callV (T := TX2) rfl gw_562 gw_563 gw_564 gw_75 gw_565 (by decide +kernel) (Nat.le_of_ble_eq_true rfl) dX4_run_48) <|
  XPr.cons (xs_iload_n dX4_run_51 rfl) <|
  XPr.cons (xs_table (ts := [80, 88, 97]) dX4_run_52 (by decide +kernel) (by decide +kernel) (by decide +kernel) (by decide +kernel)) <|
  XPr.cons (xs_aload_n dX4_run_80 rfl) <|
  XPr.cons (xs_get (T := TX4) rfl gX4 (Nat.le_of_ble_eq_true rfl) gw_231 dX4_run_81) <|
  XPr.cons (xs_get (T := TX2) rfl gX2 (Nat.le_of_ble_eq_true rfl) gw_177 dX4_run_84) <|
  XPr.cons (xs_iret rfl dX4_run_87) <|
  XPr.cons (xs_aload_n dX4_run_88 rfl) <|
  XPr.cons (xs_get (T := TX4) rfl gX4 (Nat.le_of_ble_eq_true rfl) gw_231 dX4_run_89) <|
  XPr.cons (xs_iconst dX4_run_92 (by decide +kernel)) <|
  XPr.cons (xs_callV (T := TX2) rfl gw_517 gw_319 gw_320 gw_75 gw_321 (by decide +kernel) (Nat.le_of_ble_eq_true rfl) dX4_run_93) <|
  XPr.cons (xs_iret rfl dX4_run_96) <|
  XPr.cons (xs_aload_n dX4_run_97 rfl) <|
  XPr.cons (xs_get (T := TX4) rfl gX4 (Nat.le_of_ble_eq_true rfl) gw_231 dX4_run_98) <|
  XPr.cons (xs_callV (T := TX2) rfl gw_567 gw_540 gw_541 gw_75 gw_542 (by decide +kernel) (Nat.le_of_ble_eq_true rfl) dX4_run_101) <|
  XPr.nil
def pX4_run_1 : List (Nat × XOp) := [(104, xo_iret), (105, xo_al 0 106), (106, xo_get 4 4 109), (109, xo_get 2 1 112), (112, xo_il 2 113), (113, xo_ic 10 115), (115, xo_isub 116), (116, xo_iald 117), (117, xo_iret)]
theorem sX4_run_1 : XPr RX4 cX4_run 3 (some .int) 10 pX4_run_1 :=
  XPr.cons (xs_iret rfl dX4_run_104) <|
  XPr.cons (xs_aload_n dX4_run_105 rfl) <|
  XPr.cons (xs_get (T := TX4) rfl gX4 (Nat.le_of_ble_eq_true rfl) gw_231 dX4_run_106) <|
  XPr.cons (xs_get (T := TX2) rfl gX2 (Nat.le_of_ble_eq_true rfl) gw_162 dX4_run_109) <|
  XPr.cons (xs_iload_n dX4_run_112 rfl) <|
  XPr.cons (xs_bipush dX4_run_113 (by decide +kernel)) <|
  XPr.cons (xs_isub dX4_run_115) <|
  XPr.cons (xs_iald dX4_run_116) <|
  XPr.cons (xs_iret rfl dX4_run_117) <|
  XPr.nil
def pX4_run : List (Nat × XOp) := pX4_run_0 ++ pX4_run_1
theorem sX4_run : XPr RX4 cX4_run 3 (some .int) 10 pX4_run := (sX4_run_0).app sX4_run_1
def pX4_down : List (Nat × XOp) := [(0, xo_al 0 1), (1, xo_get 4 4 4), (4, xo_al 0 5), (5, xo_get 4 3 8), (8, xo_callV yX2_becomes cX2_becomes 2 none 1 2 11), (11, xo_ic 0 12), (12, xo_is 1 13), (13, xo_il 1 14), (14, xo_ic 60 16), (16, xo_ic_gt 44 19), (19, xo_al 0 20), (20, xo_get 4 4 23), (23, xo_callV yX2_isDown cX2_isDown 1 (some .boolean) 0 2 26), (26, xo_if_eq 31 29), (29, xo_il 1 30), (30, xo_iret), (31, xo_al 0 32), (32, xo_get 4 4 35), (35, xo_callV yX2_passDay cX2_passDay 3 none 0 2 38), (38, xo_inc 1 1 41), (41, xo_goto 13), (44, xo_ic (-1) 45), (45, xo_iret)]
theorem sX4_down : XPr RX4 cX4_down 2 (some .int) 10 pX4_down :=
  XPr.cons (xs_aload_n dX4_down_0 rfl) <|
  XPr.cons (xs_get (T := TX4) rfl gX4 (Nat.le_of_ble_eq_true rfl) gw_231 dX4_down_1) <|
  XPr.cons (xs_aload_n dX4_down_4 rfl) <|
  XPr.cons (xs_get (T := TX4) rfl gX4 (Nat.le_of_ble_eq_true rfl) gw_230 dX4_down_5) <|
  XPr.cons (xs_callV (T := TX2) rfl gw_555 gw_556 gw_557 gw_75 gw_558 (by decide +kernel) (Nat.le_of_ble_eq_true rfl) dX4_down_8) <|
  XPr.cons (xs_iconst dX4_down_11 (by decide +kernel)) <|
  XPr.cons (xs_istore_n dX4_down_12 rfl (Nat.le_of_ble_eq_true rfl)) <|
  XPr.cons (xs_iload_n dX4_down_13 rfl) <|
  XPr.cons (xs_bipush dX4_down_14 (by decide +kernel)) <|
  XPr.cons (xs_ic_gt dX4_down_16 (by decide +kernel)) <|
  XPr.cons (xs_aload_n dX4_down_19 rfl) <|
  XPr.cons (xs_get (T := TX4) rfl gX4 (Nat.le_of_ble_eq_true rfl) gw_231 dX4_down_20) <|
  XPr.cons (xs_callV (T := TX2) rfl gw_522 gw_523 gw_524 gw_75 gw_525 (by decide +kernel) (Nat.le_of_ble_eq_true rfl) dX4_down_23) <|
  XPr.cons (xs_if_eq dX4_down_26 (by decide +kernel)) <|
  XPr.cons (xs_iload_n dX4_down_29 rfl) <|
  XPr.cons (xs_iret rfl dX4_down_30) <|
  XPr.cons (xs_aload_n dX4_down_31 rfl) <|
  XPr.cons (xs_get (T := TX4) rfl gX4 (Nat.le_of_ble_eq_true rfl) gw_231 dX4_down_32) <|
  XPr.cons (xs_callV (T := TX2) rfl gw_534 gw_535 gw_536 gw_75 gw_537 (by decide +kernel) (Nat.le_of_ble_eq_true rfl) dX4_down_35) <|
  XPr.cons (xs_iinc dX4_down_38 (by decide +kernel) (Nat.le_of_ble_eq_true rfl)) <|
  XPr.cons (xs_goto dX4_down_41 (by decide +kernel)) <|
  XPr.cons (xs_iconst dX4_down_44 (by decide +kernel)) <|
  XPr.cons (xs_iret rfl dX4_down_45) <|
  XPr.nil
def pX4_yard_0 : List (Nat × XOp) := [(0, xo_il 1 1), (1, xo_ic 0 2), (2, xo_ic 20 4), (4, xo_p3 f_within 7), (7, xo_if_eq 19 10), (10, xo_il 2 11), (11, xo_ic 0 12), (12, xo_ic 1 13), (13, xo_p3 f_within 16), (16, xo_if_ne 22 19), (19, xo_ic (-2) 21), (21, xo_iret), (22, xo_al 0 23), (23, xo_get 4 3 26), (26, xo_ic 0 27), (27, xo_callV yX2_who cX2_who 4 (some .int) 1 2 30), (30, xo_if_ne 37 33), (33, xo_ic 0 34), (34, xo_goto 51), (37, xo_ic 3 38), (38, xo_ic 10 40), (40, xo_al 0 41), (41, xo_get 4 3 44), (44, xo_callV yX2_partsMade cX2_partsMade 1 (some .int) 0 2 47), (47, xo_isub 48), (48, xo_p2 f_min 51), (51, xo_is 3 52), (52, xo_ic 0 53), (53, xo_is 4 55), (55, xo_ic 101 57), (57, xo_is 5 59), (59, xo_ic 0 60), (60, xo_is 6 62), (62, xo_il 6 64), (64, xo_ref 1000002 67), (67, xo_il 3 68), (68, xo_iald 69), (69, xo_ic_ge 108 72), (72, xo_il 5 74), (74, xo_if_le 108 77)]
theorem sX4_yard_0 : XPr RX4 cX4_yard 8 (some .int) 10 pX4_yard_0 :=
  XPr.cons (xs_iload_n dX4_yard_0 rfl) <|
  XPr.cons (xs_iconst dX4_yard_1 (by decide +kernel)) <|
  XPr.cons (xs_bipush dX4_yard_2 (by decide +kernel)) <|
  XPr.cons (xs_p3 (xs_callS gw_258 gw_259 gw_72 gw_260 (by decide +kernel) (Nat.le_of_ble_eq_true rfl) dX4_yard_4) c_X4_within (Nat.le_of_ble_eq_true rfl)) <|
  XPr.cons (xs_if_eq dX4_yard_7 (by decide +kernel)) <|
  XPr.cons (xs_iload_n dX4_yard_10 rfl) <|
  XPr.cons (xs_iconst dX4_yard_11 (by decide +kernel)) <|
  XPr.cons (xs_iconst dX4_yard_12 (by decide +kernel)) <|
  XPr.cons (xs_p3 (xs_callS gw_258 gw_259 gw_72 gw_260 (by decide +kernel) (Nat.le_of_ble_eq_true rfl) dX4_yard_13) c_X4_within (Nat.le_of_ble_eq_true rfl)) <|
  XPr.cons (xs_if_ne dX4_yard_16 (by decide +kernel)) <|
  XPr.cons (xs_bipush dX4_yard_19 (by decide +kernel)) <|
  XPr.cons (xs_iret rfl dX4_yard_21) <|
  XPr.cons (xs_aload_n dX4_yard_22 rfl) <|
  XPr.cons (xs_get (T := TX4) rfl gX4 (Nat.le_of_ble_eq_true rfl) gw_230 dX4_yard_23) <|
  XPr.cons (xs_iconst dX4_yard_26 (by decide +kernel)) <|
  XPr.cons (xs_callV (T := TX2) rfl gw_517 gw_319 gw_320 gw_75 gw_321 (by decide +kernel) (Nat.le_of_ble_eq_true rfl) dX4_yard_27) <|
  XPr.cons (xs_if_ne dX4_yard_30 (by decide +kernel)) <|
  XPr.cons (xs_iconst dX4_yard_33 (by decide +kernel)) <|
  XPr.cons (xs_goto dX4_yard_34 (by decide +kernel)) <|
  XPr.cons (xs_iconst dX4_yard_37 (by decide +kernel)) <|
  XPr.cons (xs_bipush dX4_yard_38 (by decide +kernel)) <|
  XPr.cons (xs_aload_n dX4_yard_40 rfl) <|
  XPr.cons (xs_get (T := TX4) rfl gX4 (Nat.le_of_ble_eq_true rfl) gw_230 dX4_yard_41) <|
  XPr.cons (xs_callV (T := TX2) rfl gw_576 gw_577 gw_578 gw_75 gw_579 (by decide +kernel) (Nat.le_of_ble_eq_true rfl) dX4_yard_44) <|
  XPr.cons (xs_isub dX4_yard_47) <|
  XPr.cons (xs_mmin gw_580 gw_316 gw_78 gw_317 dX4_yard_48) <|
  XPr.cons (xs_istore_n dX4_yard_51 rfl (Nat.le_of_ble_eq_true rfl)) <|
  XPr.cons (xs_iconst dX4_yard_52 (by decide +kernel)) <|
  XPr.cons (xs_istore dX4_yard_53 (Nat.le_of_ble_eq_true rfl)) <|
  XPr.cons (xs_bipush dX4_yard_55 (by decide +kernel)) <|
  XPr.cons (xs_istore dX4_yard_57 (Nat.le_of_ble_eq_true rfl)) <|
  XPr.cons (xs_iconst dX4_yard_59 (by decide +kernel)) <|
  XPr.cons (xs_istore dX4_yard_60 (Nat.le_of_ble_eq_true rfl)) <|
  XPr.cons (xs_iload dX4_yard_62) <|
  XPr.cons (xs_gets (C := RX4) (n := "WAYS") (d := "[I") (fun E ad A s g => g.2.2.2.1.1) gw_581 dX4_yard_64) <|
  XPr.cons (xs_iload_n dX4_yard_67 rfl) <|
  XPr.cons (xs_iald dX4_yard_68) <|
  XPr.cons (xs_ic_ge dX4_yard_69 (by decide +kernel)) <|
  XPr.cons (xs_iload dX4_yard_72) <|
  XPr.cons (xs_if_le dX4_yard_74 (by decide +kernel)) <|
  XPr.nil
def pX4_yard_1 : List (Nat × XOp) := [(77, xo_al 0 78), (78, xo_il 6 80), (80, xo_il 3 81), (81, xo_il 1 82), (82, xo_callV yX4_waterBy cX4_waterBy 7 (some .int) 3 4 85), (85, xo_is 7 87), (87, xo_il 7 89), (89, xo_il 5 91), (91, xo_ic_ge 102 94), (94, xo_il 6 96), (96, xo_is 4 98), (98, xo_il 7 100), (100, xo_is 5 102), (102, xo_inc 6 1 105), (105, xo_goto 62), (108, xo_il 2 109), (109, xo_if_ne 117 112), (112, xo_il 4 114), (114, xo_goto 119), (117, xo_il 5 119), (119, xo_iret)]
theorem sX4_yard_1 : XPr RX4 cX4_yard 8 (some .int) 10 pX4_yard_1 :=
  XPr.cons (xs_aload_n dX4_yard_77 rfl) <|
  XPr.cons (xs_iload dX4_yard_78) <|
  XPr.cons (xs_iload_n dX4_yard_80 rfl) <|
  XPr.cons (xs_iload_n dX4_yard_81 rfl) <|
  XPr.cons (xs_callV (T := TX4) rfl gw_583 gw_585 gw_20 gw_72 gw_586 (by decide +kernel) (Nat.le_of_ble_eq_true rfl) dX4_yard_82) <|
  XPr.cons (xs_istore dX4_yard_85 (Nat.le_of_ble_eq_true rfl)) <|
  XPr.cons (xs_iload dX4_yard_87) <|
  XPr.cons (xs_iload dX4_yard_89) <|
  XPr.cons (xs_ic_ge dX4_yard_91 (by decide +kernel)) <|
  XPr.cons (xs_iload dX4_yard_94) <|
  XPr.cons (xs_istore dX4_yard_96 (Nat.le_of_ble_eq_true rfl)) <|
  XPr.cons (xs_iload dX4_yard_98) <|
  XPr.cons (xs_istore dX4_yard_100 (Nat.le_of_ble_eq_true rfl)) <|
  XPr.cons (xs_iinc dX4_yard_102 (by decide +kernel) (Nat.le_of_ble_eq_true rfl)) <|
  XPr.cons (xs_goto dX4_yard_105 (by decide +kernel)) <|
  XPr.cons (xs_iload_n dX4_yard_108 rfl) <|
  XPr.cons (xs_if_ne dX4_yard_109 (by decide +kernel)) <|
  XPr.cons (xs_iload dX4_yard_112) <|
  XPr.cons (xs_goto dX4_yard_114 (by decide +kernel)) <|
  XPr.cons (xs_iload dX4_yard_117) <|
  XPr.cons (xs_iret rfl dX4_yard_119) <|
  XPr.nil
def pX4_yard : List (Nat × XOp) := pX4_yard_0 ++ pX4_yard_1
theorem sX4_yard : XPr RX4 cX4_yard 8 (some .int) 10 pX4_yard := (sX4_yard_0).app sX4_yard_1
def pX4_waterBy_0 : List (Nat × XOp) := [(0, xo_al 0 1), (1, xo_get 4 4 4), (4, xo_al 0 5), (5, xo_get 4 3 8), (8, xo_callV yX2_becomes cX2_becomes 2 none 1 2 11), (11, xo_ic (-1) 12), (12, xo_is 4 14), (14, xo_il 2 15), (15, xo_ic 1 16), (16, xo_isub 17), (17, xo_is 5 19), (19, xo_il 5 21), (21, xo_if_lt 103 24), (24, xo_il 1 25), (25, xo_ref 1000002 28), (28, xo_il 5 30), (30, xo_iald 31), (31, xo_idiv 32), (32, xo_ic 6 34), (34, xo_irem 35), (35, xo_ic 1 36), (36, xo_isub 37), (37, xo_is 6 39), (39, xo_al 0 40), (40, xo_get 4 4 43), (43, xo_il 4 45), (45, xo_ic 1 46), (46, xo_iadd 47), (47, xo_callV yX2_nextUnmade cX2_nextUnmade 3 (some .int) 1 2 50), (50, xo_is 4 52), (52, xo_il 4 54), (54, xo_ic (-1) 55), (55, xo_ic_eq 83 58), (58, xo_al 0 59), (59, xo_get 4 4 62), (62, xo_il 6 64), (64, xo_callV yX2_has cX2_has 2 (some .boolean) 1 2 67), (67, xo_if_eq 83 70), (70, xo_al 0 71), (71, xo_get 4 4 74)]
theorem sX4_waterBy_0 : XPr RX4 cX4_waterBy 7 (some .int) 10 pX4_waterBy_0 :=
  XPr.cons (xs_aload_n dX4_waterBy_0 rfl) <|
  XPr.cons (xs_get (T := TX4) rfl gX4 (Nat.le_of_ble_eq_true rfl) gw_231 dX4_waterBy_1) <|
  XPr.cons (xs_aload_n dX4_waterBy_4 rfl) <|
  XPr.cons (xs_get (T := TX4) rfl gX4 (Nat.le_of_ble_eq_true rfl) gw_230 dX4_waterBy_5) <|
  XPr.cons (xs_callV (T := TX2) rfl gw_555 gw_556 gw_557 gw_75 gw_558 (by decide +kernel) (Nat.le_of_ble_eq_true rfl) dX4_waterBy_8) <|
  XPr.cons (xs_iconst dX4_waterBy_11 (by decide +kernel)) <|
  XPr.cons (xs_istore dX4_waterBy_12 (Nat.le_of_ble_eq_true rfl)) <|
  XPr.cons (xs_iload_n dX4_waterBy_14 rfl) <|
  XPr.cons (xs_iconst dX4_waterBy_15 (by decide +kernel)) <|
  XPr.cons (xs_isub dX4_waterBy_16) <|
  XPr.cons (xs_istore dX4_waterBy_17 (Nat.le_of_ble_eq_true rfl)) <|
  XPr.cons (xs_iload dX4_waterBy_19) <|
  XPr.cons (xs_if_lt dX4_waterBy_21 (by decide +kernel)) <|
  XPr.cons (xs_iload_n dX4_waterBy_24 rfl) <|
  XPr.cons (xs_gets (C := RX4) (n := "WAYS") (d := "[I") (fun E ad A s g => g.2.2.2.1.1) gw_581 dX4_waterBy_25) <|
  XPr.cons (xs_iload dX4_waterBy_28) <|
  XPr.cons (xs_iald dX4_waterBy_30) <|
  XPr.cons (xs_idiv dX4_waterBy_31) <|
  XPr.cons (xs_bipush dX4_waterBy_32 (by decide +kernel)) <|
  XPr.cons (xs_irem dX4_waterBy_34) <|
  XPr.cons (xs_iconst dX4_waterBy_35 (by decide +kernel)) <|
  XPr.cons (xs_isub dX4_waterBy_36) <|
  XPr.cons (xs_istore dX4_waterBy_37 (Nat.le_of_ble_eq_true rfl)) <|
  XPr.cons (xs_aload_n dX4_waterBy_39 rfl) <|
  XPr.cons (xs_get (T := TX4) rfl gX4 (Nat.le_of_ble_eq_true rfl) gw_231 dX4_waterBy_40) <|
  XPr.cons (xs_iload dX4_waterBy_43) <|
  XPr.cons (xs_iconst dX4_waterBy_45 (by decide +kernel)) <|
  XPr.cons (xs_iadd dX4_waterBy_46) <|
  XPr.cons (xs_callV (T := TX2) rfl gw_587 gw_588 gw_589 gw_75 gw_590 (by decide +kernel) (Nat.le_of_ble_eq_true rfl) dX4_waterBy_47) <|
  XPr.cons (xs_istore dX4_waterBy_50 (Nat.le_of_ble_eq_true rfl)) <|
  XPr.cons (xs_iload dX4_waterBy_52) <|
  XPr.cons (xs_iconst dX4_waterBy_54 (by decide +kernel)) <|
  XPr.cons (xs_ic_eq dX4_waterBy_55 (by decide +kernel)) <|
  XPr.cons (xs_aload_n dX4_waterBy_58 rfl) <|
  XPr.cons (xs_get (T := TX4) rfl gX4 (Nat.le_of_ble_eq_true rfl) gw_231 dX4_waterBy_59) <|
  XPr.cons (xs_iload dX4_waterBy_62) <|
  XPr.cons (xs_callV (T := TX2) rfl gw_282 gw_283 gw_284 gw_75 gw_285 (by decide +kernel) (Nat.le_of_ble_eq_true rfl) dX4_waterBy_64) <|
  XPr.cons (xs_if_eq dX4_waterBy_67 (by decide +kernel)) <|
  XPr.cons (xs_aload_n dX4_waterBy_70 rfl) <|
  XPr.cons (xs_get (T := TX4) rfl gX4 (Nat.le_of_ble_eq_true rfl) gw_231 dX4_waterBy_71) <|
  XPr.nil
def pX4_waterBy_1 : List (Nat × XOp) := [(74, xo_get 2 6 77), (77, xo_il 6 79), (79, xo_iald 80), (80, xo_if_eq 86 83), (83, xo_ic 101 85), (85, xo_iret), (86, xo_al 0 87), (87, xo_get 4 4 90), (90, xo_il 6 92), (92, xo_il 4 94), (94, xo_callV yX2_build cX2_build 3 none 2 2 97), (97, xo_inc 5 (-1) 100), (100, xo_goto 19), (103, xo_al 0 104), (104, xo_get 4 4 107), (107, xo_callV yX2_bind cX2_bind 2 none 0 2 110), (110, xo_al 0 111), (111, xo_get 4 4 114), (114, xo_il 3 115), (115, xo_callV yX2_pass cX2_pass 3 none 1 2 118), (118, xo_al 0 119), (119, xo_get 4 4 122), (122, xo_get 2 9 125), (125, xo_iret)]
theorem sX4_waterBy_1 : XPr RX4 cX4_waterBy 7 (some .int) 10 pX4_waterBy_1 :=
  XPr.cons (xs_get (T := TX2) rfl gX2 (Nat.le_of_ble_eq_true rfl) gw_172 dX4_waterBy_74) <|
  XPr.cons (xs_iload dX4_waterBy_77) <|
  XPr.cons (xs_iald dX4_waterBy_79) <|
  XPr.cons (xs_if_eq dX4_waterBy_80 (by decide +kernel)) <|
  XPr.cons (xs_bipush dX4_waterBy_83 (by decide +kernel)) <|
  XPr.cons (xs_iret rfl dX4_waterBy_85) <|
  XPr.cons (xs_aload_n dX4_waterBy_86 rfl) <|
  XPr.cons (xs_get (T := TX4) rfl gX4 (Nat.le_of_ble_eq_true rfl) gw_231 dX4_waterBy_87) <|
  XPr.cons (xs_iload dX4_waterBy_90) <|
  XPr.cons (xs_iload dX4_waterBy_92) <|
  XPr.cons (xs_callV (T := TX2) rfl gw_504 gw_505 gw_506 gw_75 gw_507 (by decide +kernel) (Nat.le_of_ble_eq_true rfl) dX4_waterBy_94) <|
  XPr.cons (xs_iinc dX4_waterBy_97 (by decide +kernel) (Nat.le_of_ble_eq_true rfl)) <|
  XPr.cons (xs_goto dX4_waterBy_100 (by decide +kernel)) <|
  XPr.cons (xs_aload_n dX4_waterBy_103 rfl) <|
  XPr.cons (xs_get (T := TX4) rfl gX4 (Nat.le_of_ble_eq_true rfl) gw_231 dX4_waterBy_104) <|
  XPr.cons (xs_callV (T := TX2) rfl gw_513 gw_514 gw_515 gw_75 gw_516 (by decide +kernel) (Nat.le_of_ble_eq_true rfl) dX4_waterBy_107) <|
  XPr.cons (xs_aload_n dX4_waterBy_110 rfl) <|
  XPr.cons (xs_get (T := TX4) rfl gX4 (Nat.le_of_ble_eq_true rfl) gw_231 dX4_waterBy_111) <|
  XPr.cons (xs_iload_n dX4_waterBy_114 rfl) <|
  XPr.cons (xs_callV (T := TX2) rfl gw_562 gw_563 gw_564 gw_75 gw_565 (by decide +kernel) (Nat.le_of_ble_eq_true rfl) dX4_waterBy_115) <|
  XPr.cons (xs_aload_n dX4_waterBy_118 rfl) <|
  XPr.cons (xs_get (T := TX4) rfl gX4 (Nat.le_of_ble_eq_true rfl) gw_231 dX4_waterBy_119) <|
  XPr.cons (xs_get (T := TX2) rfl gX2 (Nat.le_of_ble_eq_true rfl) gw_177 dX4_waterBy_122) <|
  XPr.cons (xs_iret rfl dX4_waterBy_125) <|
  XPr.nil
def pX4_waterBy : List (Nat × XOp) := pX4_waterBy_0 ++ pX4_waterBy_1
theorem sX4_waterBy : XPr RX4 cX4_waterBy 7 (some .int) 10 pX4_waterBy := (sX4_waterBy_0).app sX4_waterBy_1
def pX4_stands : List (Nat × XOp) := [(0, xo_il 1 1), (1, xo_ic 1 2), (2, xo_ic 40 4), (4, xo_p3 f_within 7), (7, xo_if_ne 13 10), (10, xo_ic (-2) 12), (12, xo_iret), (13, xo_ic 99 15), (15, xo_is 2 16), (16, xo_il 2 17), (17, xo_if_lt 65 20), (20, xo_al 0 21), (21, xo_get 4 4 24), (24, xo_al 0 25), (25, xo_get 4 3 28), (28, xo_callV yX2_becomes cX2_becomes 2 none 1 2 31), (31, xo_al 0 32), (32, xo_get 4 4 35), (35, xo_il 2 36), (36, xo_putI 2 8 39), (39, xo_al 0 40), (40, xo_get 4 4 43), (43, xo_il 1 44), (44, xo_callV yX2_pass cX2_pass 3 none 1 2 47), (47, xo_al 0 48), (48, xo_get 4 4 51), (51, xo_callV yX2_isDown cX2_isDown 1 (some .boolean) 0 2 54), (54, xo_if_ne 59 57), (57, xo_il 2 58), (58, xo_iret), (59, xo_inc 2 (-1) 62), (62, xo_goto 16), (65, xo_ic (-1) 66), (66, xo_iret)]
theorem sX4_stands : XPr RX4 cX4_stands 3 (some .int) 10 pX4_stands :=
  XPr.cons (xs_iload_n dX4_stands_0 rfl) <|
  XPr.cons (xs_iconst dX4_stands_1 (by decide +kernel)) <|
  XPr.cons (xs_bipush dX4_stands_2 (by decide +kernel)) <|
  XPr.cons (xs_p3 (xs_callS gw_258 gw_259 gw_72 gw_260 (by decide +kernel) (Nat.le_of_ble_eq_true rfl) dX4_stands_4) c_X4_within (Nat.le_of_ble_eq_true rfl)) <|
  XPr.cons (xs_if_ne dX4_stands_7 (by decide +kernel)) <|
  XPr.cons (xs_bipush dX4_stands_10 (by decide +kernel)) <|
  XPr.cons (xs_iret rfl dX4_stands_12) <|
  XPr.cons (xs_bipush dX4_stands_13 (by decide +kernel)) <|
  XPr.cons (xs_istore_n dX4_stands_15 rfl (Nat.le_of_ble_eq_true rfl)) <|
  XPr.cons (xs_iload_n dX4_stands_16 rfl) <|
  XPr.cons (xs_if_lt dX4_stands_17 (by decide +kernel)) <|
  XPr.cons (xs_aload_n dX4_stands_20 rfl) <|
  XPr.cons (xs_get (T := TX4) rfl gX4 (Nat.le_of_ble_eq_true rfl) gw_231 dX4_stands_21) <|
  XPr.cons (xs_aload_n dX4_stands_24 rfl) <|
  XPr.cons (xs_get (T := TX4) rfl gX4 (Nat.le_of_ble_eq_true rfl) gw_230 dX4_stands_25) <|
  XPr.cons (xs_callV (T := TX2) rfl gw_555 gw_556 gw_557 gw_75 gw_558 (by decide +kernel) (Nat.le_of_ble_eq_true rfl) dX4_stands_28) <|
  XPr.cons (xs_aload_n dX4_stands_31 rfl) <|
  XPr.cons (xs_get (T := TX4) rfl gX4 (Nat.le_of_ble_eq_true rfl) gw_231 dX4_stands_32) <|
  XPr.cons (xs_iload_n dX4_stands_35 rfl) <|
  XPr.cons (xs_putI (T := TX2) rfl gX2 tyX2_ok nmX2 (Nat.le_of_ble_eq_true rfl) gw_176 rfl (by decide +kernel) dX4_stands_36) <|
  XPr.cons (xs_aload_n dX4_stands_39 rfl) <|
  XPr.cons (xs_get (T := TX4) rfl gX4 (Nat.le_of_ble_eq_true rfl) gw_231 dX4_stands_40) <|
  XPr.cons (xs_iload_n dX4_stands_43 rfl) <|
  XPr.cons (xs_callV (T := TX2) rfl gw_562 gw_563 gw_564 gw_75 gw_565 (by decide +kernel) (Nat.le_of_ble_eq_true rfl) dX4_stands_44) <|
  XPr.cons (xs_aload_n dX4_stands_47 rfl) <|
  XPr.cons (xs_get (T := TX4) rfl gX4 (Nat.le_of_ble_eq_true rfl) gw_231 dX4_stands_48) <|
  XPr.cons (xs_callV (T := TX2) rfl gw_522 gw_523 gw_524 gw_75 gw_525 (by decide +kernel) (Nat.le_of_ble_eq_true rfl) dX4_stands_51) <|
  XPr.cons (xs_if_ne dX4_stands_54 (by decide +kernel)) <|
  XPr.cons (xs_iload_n dX4_stands_57 rfl) <|
  XPr.cons (xs_iret rfl dX4_stands_58) <|
  XPr.cons (xs_iinc dX4_stands_59 (by decide +kernel) (Nat.le_of_ble_eq_true rfl)) <|
  XPr.cons (xs_goto dX4_stands_62 (by decide +kernel)) <|
  XPr.cons (xs_iconst dX4_stands_65 (by decide +kernel)) <|
  XPr.cons (xs_iret rfl dX4_stands_66) <|
  XPr.nil
def pX4_go_0 : List (Nat × XOp) := [(0, xo_il 1 1), (1, xo_ic 0 2), (2, xo_ic 40 4), (4, xo_p3 f_within 7), (7, xo_if_eq 19 10), (10, xo_il 2 11), (11, xo_ic 0 12), (12, xo_ic 1 13), (13, xo_p3 f_within 16), (16, xo_if_ne 22 19), (19, xo_ic (-2) 21), (21, xo_iret), (22, xo_ic (-1) 23), (23, xo_is 3 24), (24, xo_ic 6 26), (26, xo_is 4 28), (28, xo_ic 0 29), (29, xo_is 5 31), (31, xo_il 5 33), (33, xo_ic 1 34), (34, xo_al 0 35), (35, xo_get 4 3 38), (38, xo_get 2 2 41), (41, xo_ishl 42), (42, xo_ic_ge 82 45), (45, xo_il 5 47), (47, xo_p1 f_bits 50), (50, xo_is 6 52), (52, xo_il 6 54), (54, xo_il 4 56), (56, xo_ic_ge 76 59), (59, xo_al 0 60), (60, xo_il 5 62), (62, xo_il 1 63), (63, xo_callV yX4_comesHomeWith cX4_comesHomeWith 4 (some .boolean) 2 4 66), (66, xo_if_eq 76 69), (69, xo_il 5 71), (71, xo_is 3 72), (72, xo_il 6 74), (74, xo_is 4 76)]
theorem sX4_go_0 : XPr RX4 cX4_go 7 (some .int) 10 pX4_go_0 :=
  XPr.cons (xs_iload_n dX4_go_0 rfl) <|
  XPr.cons (xs_iconst dX4_go_1 (by decide +kernel)) <|
  XPr.cons (xs_bipush dX4_go_2 (by decide +kernel)) <|
  XPr.cons (xs_p3 (xs_callS gw_258 gw_259 gw_72 gw_260 (by decide +kernel) (Nat.le_of_ble_eq_true rfl) dX4_go_4) c_X4_within (Nat.le_of_ble_eq_true rfl)) <|
  XPr.cons (xs_if_eq dX4_go_7 (by decide +kernel)) <|
  XPr.cons (xs_iload_n dX4_go_10 rfl) <|
  XPr.cons (xs_iconst dX4_go_11 (by decide +kernel)) <|
  XPr.cons (xs_iconst dX4_go_12 (by decide +kernel)) <|
  XPr.cons (xs_p3 (xs_callS gw_258 gw_259 gw_72 gw_260 (by decide +kernel) (Nat.le_of_ble_eq_true rfl) dX4_go_13) c_X4_within (Nat.le_of_ble_eq_true rfl)) <|
  XPr.cons (xs_if_ne dX4_go_16 (by decide +kernel)) <|
  XPr.cons (xs_bipush dX4_go_19 (by decide +kernel)) <|
  XPr.cons (xs_iret rfl dX4_go_21) <|
  XPr.cons (xs_iconst dX4_go_22 (by decide +kernel)) <|
  XPr.cons (xs_istore_n dX4_go_23 rfl (Nat.le_of_ble_eq_true rfl)) <|
  XPr.cons (xs_bipush dX4_go_24 (by decide +kernel)) <|
  XPr.cons (xs_istore dX4_go_26 (Nat.le_of_ble_eq_true rfl)) <|
  XPr.cons (xs_iconst dX4_go_28 (by decide +kernel)) <|
  XPr.cons (xs_istore dX4_go_29 (Nat.le_of_ble_eq_true rfl)) <|
  XPr.cons (xs_iload dX4_go_31) <|
  XPr.cons (xs_iconst dX4_go_33 (by decide +kernel)) <|
  XPr.cons (xs_aload_n dX4_go_34 rfl) <|
  XPr.cons (xs_get (T := TX4) rfl gX4 (Nat.le_of_ble_eq_true rfl) gw_230 dX4_go_35) <|
  XPr.cons (xs_get (T := TX2) rfl gX2 (Nat.le_of_ble_eq_true rfl) gw_164 dX4_go_38) <|
  XPr.cons (xs_ishl dX4_go_41) <|
  XPr.cons (xs_ic_ge dX4_go_42 (by decide +kernel)) <|
  XPr.cons (xs_iload dX4_go_45) <|
  XPr.cons (xs_p1 (xs_callS gw_599 gw_323 gw_79 gw_324 (by decide +kernel) (Nat.le_of_ble_eq_true rfl) dX4_go_47) c_J6_bitCount_0f7a4 (Nat.le_of_ble_eq_true rfl)) <|
  XPr.cons (xs_istore dX4_go_50 (Nat.le_of_ble_eq_true rfl)) <|
  XPr.cons (xs_iload dX4_go_52) <|
  XPr.cons (xs_iload dX4_go_54) <|
  XPr.cons (xs_ic_ge dX4_go_56 (by decide +kernel)) <|
  XPr.cons (xs_aload_n dX4_go_59 rfl) <|
  XPr.cons (xs_iload dX4_go_60) <|
  XPr.cons (xs_iload_n dX4_go_62 rfl) <|
  XPr.cons (xs_callV (T := TX4) rfl gw_600 gw_602 gw_21 gw_72 gw_603 (by decide +kernel) (Nat.le_of_ble_eq_true rfl) dX4_go_63) <|
  XPr.cons (xs_if_eq dX4_go_66 (by decide +kernel)) <|
  XPr.cons (xs_iload dX4_go_69) <|
  XPr.cons (xs_istore_n dX4_go_71 rfl (Nat.le_of_ble_eq_true rfl)) <|
  XPr.cons (xs_iload dX4_go_72) <|
  XPr.cons (xs_istore dX4_go_74 (Nat.le_of_ble_eq_true rfl)) <|
  XPr.nil
def pX4_go_1 : List (Nat × XOp) := [(76, xo_inc 5 1 79), (79, xo_goto 31), (82, xo_il 2 83), (83, xo_if_eq 91 86), (86, xo_il 3 87), (87, xo_ic (-1) 88), (88, xo_ic_ne 95 91), (91, xo_il 3 92), (92, xo_goto 97), (95, xo_il 4 97), (97, xo_iret)]
theorem sX4_go_1 : XPr RX4 cX4_go 7 (some .int) 10 pX4_go_1 :=
  XPr.cons (xs_iinc dX4_go_76 (by decide +kernel) (Nat.le_of_ble_eq_true rfl)) <|
  XPr.cons (xs_goto dX4_go_79 (by decide +kernel)) <|
  XPr.cons (xs_iload_n dX4_go_82 rfl) <|
  XPr.cons (xs_if_eq dX4_go_83 (by decide +kernel)) <|
  XPr.cons (xs_iload_n dX4_go_86 rfl) <|
  XPr.cons (xs_iconst dX4_go_87 (by decide +kernel)) <|
  XPr.cons (xs_ic_ne dX4_go_88 (by decide +kernel)) <|
  XPr.cons (xs_iload_n dX4_go_91 rfl) <|
  XPr.cons (xs_goto dX4_go_92 (by decide +kernel)) <|
  XPr.cons (xs_iload dX4_go_95) <|
  XPr.cons (xs_iret rfl dX4_go_97) <|
  XPr.nil
def pX4_go : List (Nat × XOp) := pX4_go_0 ++ pX4_go_1
theorem sX4_go : XPr RX4 cX4_go 7 (some .int) 10 pX4_go := (sX4_go_0).app sX4_go_1
def pX4_comesHomeWith_0 : List (Nat × XOp) := [(0, xo_il 1 1), (1, xo_al 0 2), (2, xo_get 4 3 5), (5, xo_ic 2 6), (6, xo_callV yX2_who cX2_who 4 (some .int) 1 2 9), (9, xo_iand 10), (10, xo_if_eq 15 13), (13, xo_ic 0 14), (14, xo_zret), (15, xo_al 0 16), (16, xo_get 4 4 19), (19, xo_al 0 20), (20, xo_get 4 3 23), (23, xo_callV yX2_becomes cX2_becomes 2 none 1 2 26), (26, xo_al 0 27), (27, xo_get 4 4 30), (30, xo_ic 1 31), (31, xo_ic 0 32), (32, xo_callV yX2_allMove cX2_allMove 4 none 2 2 35), (35, xo_ic 0 36), (36, xo_is 3 37), (37, xo_il 3 38), (38, xo_al 0 39), (39, xo_get 4 4 42), (42, xo_get 2 2 45), (45, xo_ic_ge 73 48), (48, xo_il 1 49), (49, xo_il 3 50), (50, xo_ishr 51), (51, xo_ic 1 52), (52, xo_iand 53), (53, xo_ic 1 54), (54, xo_ic_ne 67 57), (57, xo_al 0 58), (58, xo_get 4 4 61), (61, xo_get 2 6 64), (64, xo_il 3 65), (65, xo_ic 1 66), (66, xo_iast 67), (67, xo_inc 3 1 70)]
theorem sX4_comesHomeWith_0 : XPr RX4 cX4_comesHomeWith 4 (some .boolean) 10 pX4_comesHomeWith_0 :=
  XPr.cons (xs_iload_n dX4_comesHomeWith_0 rfl) <|
  XPr.cons (xs_aload_n dX4_comesHomeWith_1 rfl) <|
  XPr.cons (xs_get (T := TX4) rfl gX4 (Nat.le_of_ble_eq_true rfl) gw_230 dX4_comesHomeWith_2) <|
  XPr.cons (xs_iconst dX4_comesHomeWith_5 (by decide +kernel)) <|
  XPr.cons (xs_callV (T := TX2) rfl gw_517 gw_319 gw_320 gw_75 gw_321 (by decide +kernel) (Nat.le_of_ble_eq_true rfl) dX4_comesHomeWith_6) <|
  XPr.cons (xs_iand dX4_comesHomeWith_9) <|
  XPr.cons (xs_if_eq dX4_comesHomeWith_10 (by decide +kernel)) <|
  XPr.cons (xs_iconst dX4_comesHomeWith_13 (by decide +kernel)) <|
  XPr.cons (xs_zret rfl dX4_comesHomeWith_14) <|
  XPr.cons (xs_aload_n dX4_comesHomeWith_15 rfl) <|
  XPr.cons (xs_get (T := TX4) rfl gX4 (Nat.le_of_ble_eq_true rfl) gw_231 dX4_comesHomeWith_16) <|
  XPr.cons (xs_aload_n dX4_comesHomeWith_19 rfl) <|
  XPr.cons (xs_get (T := TX4) rfl gX4 (Nat.le_of_ble_eq_true rfl) gw_230 dX4_comesHomeWith_20) <|
  XPr.cons (xs_callV (T := TX2) rfl gw_555 gw_556 gw_557 gw_75 gw_558 (by decide +kernel) (Nat.le_of_ble_eq_true rfl) dX4_comesHomeWith_23) <|
  XPr.cons (xs_aload_n dX4_comesHomeWith_26 rfl) <|
  XPr.cons (xs_get (T := TX4) rfl gX4 (Nat.le_of_ble_eq_true rfl) gw_231 dX4_comesHomeWith_27) <|
  XPr.cons (xs_iconst dX4_comesHomeWith_30 (by decide +kernel)) <|
  XPr.cons (xs_iconst dX4_comesHomeWith_31 (by decide +kernel)) <|
  XPr.cons (xs_callV (T := TX2) rfl gw_526 gw_527 gw_528 gw_75 gw_529 (by decide +kernel) (Nat.le_of_ble_eq_true rfl) dX4_comesHomeWith_32) <|
  XPr.cons (xs_iconst dX4_comesHomeWith_35 (by decide +kernel)) <|
  XPr.cons (xs_istore_n dX4_comesHomeWith_36 rfl (Nat.le_of_ble_eq_true rfl)) <|
  XPr.cons (xs_iload_n dX4_comesHomeWith_37 rfl) <|
  XPr.cons (xs_aload_n dX4_comesHomeWith_38 rfl) <|
  XPr.cons (xs_get (T := TX4) rfl gX4 (Nat.le_of_ble_eq_true rfl) gw_231 dX4_comesHomeWith_39) <|
  XPr.cons (xs_get (T := TX2) rfl gX2 (Nat.le_of_ble_eq_true rfl) gw_164 dX4_comesHomeWith_42) <|
  XPr.cons (xs_ic_ge dX4_comesHomeWith_45 (by decide +kernel)) <|
  XPr.cons (xs_iload_n dX4_comesHomeWith_48 rfl) <|
  XPr.cons (xs_iload_n dX4_comesHomeWith_49 rfl) <|
  XPr.cons (xs_ishr dX4_comesHomeWith_50) <|
  XPr.cons (xs_iconst dX4_comesHomeWith_51 (by decide +kernel)) <|
  XPr.cons (xs_iand dX4_comesHomeWith_52) <|
  XPr.cons (xs_iconst dX4_comesHomeWith_53 (by decide +kernel)) <|
  XPr.cons (xs_ic_ne dX4_comesHomeWith_54 (by decide +kernel)) <|
  XPr.cons (xs_aload_n dX4_comesHomeWith_57 rfl) <|
  XPr.cons (xs_get (T := TX4) rfl gX4 (Nat.le_of_ble_eq_true rfl) gw_231 dX4_comesHomeWith_58) <|
  XPr.cons (xs_get (T := TX2) rfl gX2 (Nat.le_of_ble_eq_true rfl) gw_172 dX4_comesHomeWith_61) <|
  XPr.cons (xs_iload_n dX4_comesHomeWith_64 rfl) <|
  XPr.cons (xs_iconst dX4_comesHomeWith_65 (by decide +kernel)) <|
  XPr.cons (xs_iast dX4_comesHomeWith_66) <|
  XPr.cons (xs_iinc dX4_comesHomeWith_67 (by decide +kernel) (Nat.le_of_ble_eq_true rfl)) <|
  XPr.nil
def pX4_comesHomeWith_1 : List (Nat × XOp) := [(70, xo_goto 37), (73, xo_al 0 74), (74, xo_get 4 4 77), (77, xo_il 2 78), (78, xo_callV yX2_pass cX2_pass 3 none 1 2 81), (81, xo_al 0 82), (82, xo_get 4 4 85), (85, xo_callV yX2_isDown cX2_isDown 1 (some .boolean) 0 2 88), (88, xo_if_ne 95 91), (91, xo_ic 1 92), (92, xo_goto 96), (95, xo_ic 0 96), (96, xo_zret)]
theorem sX4_comesHomeWith_1 : XPr RX4 cX4_comesHomeWith 4 (some .boolean) 10 pX4_comesHomeWith_1 :=
  XPr.cons (xs_goto dX4_comesHomeWith_70 (by decide +kernel)) <|
  XPr.cons (xs_aload_n dX4_comesHomeWith_73 rfl) <|
  XPr.cons (xs_get (T := TX4) rfl gX4 (Nat.le_of_ble_eq_true rfl) gw_231 dX4_comesHomeWith_74) <|
  XPr.cons (xs_iload_n dX4_comesHomeWith_77 rfl) <|
  XPr.cons (xs_callV (T := TX2) rfl gw_562 gw_563 gw_564 gw_75 gw_565 (by decide +kernel) (Nat.le_of_ble_eq_true rfl) dX4_comesHomeWith_78) <|
  XPr.cons (xs_aload_n dX4_comesHomeWith_81 rfl) <|
  XPr.cons (xs_get (T := TX4) rfl gX4 (Nat.le_of_ble_eq_true rfl) gw_231 dX4_comesHomeWith_82) <|
  XPr.cons (xs_callV (T := TX2) rfl gw_522 gw_523 gw_524 gw_75 gw_525 (by decide +kernel) (Nat.le_of_ble_eq_true rfl) dX4_comesHomeWith_85) <|
  XPr.cons (xs_if_ne dX4_comesHomeWith_88 (by decide +kernel)) <|
  XPr.cons (xs_iconst dX4_comesHomeWith_91 (by decide +kernel)) <|
  XPr.cons (xs_goto dX4_comesHomeWith_92 (by decide +kernel)) <|
  XPr.cons (xs_iconst dX4_comesHomeWith_95 (by decide +kernel)) <|
  XPr.cons (xs_zret rfl dX4_comesHomeWith_96) <|
  XPr.nil
def pX4_comesHomeWith : List (Nat × XOp) := pX4_comesHomeWith_0 ++ pX4_comesHomeWith_1
theorem sX4_comesHomeWith : XPr RX4 cX4_comesHomeWith 4 (some .boolean) 10 pX4_comesHomeWith := (sX4_comesHomeWith_0).app sX4_comesHomeWith_1
def pX4_worst : List (Nat × XOp) := [(0, xo_ic (-1) 1), (1, xo_is 1 2), (2, xo_ic 0 3), (3, xo_is 2 4), (4, xo_ic 0 5), (5, xo_is 3 6), (6, xo_il 3 7), (7, xo_ic 10 9), (9, xo_ic_ge 39 12), (12, xo_al 0 13), (13, xo_get 4 3 16), (16, xo_il 3 17), (17, xo_callV yX2_leaks cX2_leaks 3 (some .int) 1 2 20), (20, xo_is 4 22), (22, xo_il 4 24), (24, xo_il 2 25), (25, xo_ic_le 33 28), (28, xo_il 3 29), (29, xo_is 1 30), (30, xo_il 4 32), (32, xo_is 2 33), (33, xo_inc 3 1 36), (36, xo_goto 6), (39, xo_il 1 40), (40, xo_iret)]
theorem sX4_worst : XPr RX4 cX4_worst 5 (some .int) 10 pX4_worst :=
  XPr.cons (xs_iconst dX4_worst_0 (by decide +kernel)) <|
  XPr.cons (xs_istore_n dX4_worst_1 rfl (Nat.le_of_ble_eq_true rfl)) <|
  XPr.cons (xs_iconst dX4_worst_2 (by decide +kernel)) <|
  XPr.cons (xs_istore_n dX4_worst_3 rfl (Nat.le_of_ble_eq_true rfl)) <|
  XPr.cons (xs_iconst dX4_worst_4 (by decide +kernel)) <|
  XPr.cons (xs_istore_n dX4_worst_5 rfl (Nat.le_of_ble_eq_true rfl)) <|
  XPr.cons (xs_iload_n dX4_worst_6 rfl) <|
  XPr.cons (xs_bipush dX4_worst_7 (by decide +kernel)) <|
  XPr.cons (xs_ic_ge dX4_worst_9 (by decide +kernel)) <|
  XPr.cons (xs_aload_n dX4_worst_12 rfl) <|
  XPr.cons (xs_get (T := TX4) rfl gX4 (Nat.le_of_ble_eq_true rfl) gw_230 dX4_worst_13) <|
  XPr.cons (xs_iload_n dX4_worst_16 rfl) <|
  XPr.cons (xs_callV (T := TX2) rfl gw_272 gw_273 gw_274 gw_75 gw_275 (by decide +kernel) (Nat.le_of_ble_eq_true rfl) dX4_worst_17) <|
  XPr.cons (xs_istore dX4_worst_20 (Nat.le_of_ble_eq_true rfl)) <|
  XPr.cons (xs_iload dX4_worst_22) <|
  XPr.cons (xs_iload_n dX4_worst_24 rfl) <|
  XPr.cons (xs_ic_le dX4_worst_25 (by decide +kernel)) <|
  XPr.cons (xs_iload_n dX4_worst_28 rfl) <|
  XPr.cons (xs_istore_n dX4_worst_29 rfl (Nat.le_of_ble_eq_true rfl)) <|
  XPr.cons (xs_iload dX4_worst_30) <|
  XPr.cons (xs_istore_n dX4_worst_32 rfl (Nat.le_of_ble_eq_true rfl)) <|
  XPr.cons (xs_iinc dX4_worst_33 (by decide +kernel) (Nat.le_of_ble_eq_true rfl)) <|
  XPr.cons (xs_goto dX4_worst_36 (by decide +kernel)) <|
  XPr.cons (xs_iload_n dX4_worst_39 rfl) <|
  XPr.cons (xs_iret rfl dX4_worst_40) <|
  XPr.nil
def pX4_mean : List (Nat × XOp) := [(0, xo_il 1 1), (1, xo_ic 0 2), (2, xo_ic 1 3), (3, xo_p3 f_within 6), (6, xo_if_ne 13 9), (9, xo_lc (-4611686018427387904) 12), (12, xo_lret), (13, xo_ic 0 14), (14, xo_is 2 15), (15, xo_ic 0 16), (16, xo_is 3 17), (17, xo_il 3 18), (18, xo_ic 10 20), (20, xo_ic_ge 41 23), (23, xo_il 2 24), (24, xo_al 0 25), (25, xo_get 4 3 28), (28, xo_get 2 1 31), (31, xo_il 3 32), (32, xo_iald 33), (33, xo_iadd 34), (34, xo_is 2 35), (35, xo_inc 3 1 38), (38, xo_goto 17), (41, xo_il 2 42), (42, xo_ic 10 44), (44, xo_il 1 45), (45, xo_callS yX4_lowestTerms cX4_lowestTerms 5 (some .long) 3 48), (48, xo_lret)]
theorem sX4_mean : XPr RX4 cX4_mean 4 (some .long) 10 pX4_mean :=
  XPr.cons (xs_iload_n dX4_mean_0 rfl) <|
  XPr.cons (xs_iconst dX4_mean_1 (by decide +kernel)) <|
  XPr.cons (xs_iconst dX4_mean_2 (by decide +kernel)) <|
  XPr.cons (xs_p3 (xs_callS gw_258 gw_259 gw_72 gw_260 (by decide +kernel) (Nat.le_of_ble_eq_true rfl) dX4_mean_3) c_X4_within (Nat.le_of_ble_eq_true rfl)) <|
  XPr.cons (xs_if_ne dX4_mean_6 (by decide +kernel)) <|
  XPr.cons (xs_ldc2 gw_612 dX4_mean_9) <|
  XPr.cons (xs_lret rfl dX4_mean_12) <|
  XPr.cons (xs_iconst dX4_mean_13 (by decide +kernel)) <|
  XPr.cons (xs_istore_n dX4_mean_14 rfl (Nat.le_of_ble_eq_true rfl)) <|
  XPr.cons (xs_iconst dX4_mean_15 (by decide +kernel)) <|
  XPr.cons (xs_istore_n dX4_mean_16 rfl (Nat.le_of_ble_eq_true rfl)) <|
  XPr.cons (xs_iload_n dX4_mean_17 rfl) <|
  XPr.cons (xs_bipush dX4_mean_18 (by decide +kernel)) <|
  XPr.cons (xs_ic_ge dX4_mean_20 (by decide +kernel)) <|
  XPr.cons (xs_iload_n dX4_mean_23 rfl) <|
  XPr.cons (xs_aload_n dX4_mean_24 rfl) <|
  XPr.cons (xs_get (T := TX4) rfl gX4 (Nat.le_of_ble_eq_true rfl) gw_230 dX4_mean_25) <|
  XPr.cons (xs_get (T := TX2) rfl gX2 (Nat.le_of_ble_eq_true rfl) gw_162 dX4_mean_28) <|
  XPr.cons (xs_iload_n dX4_mean_31 rfl) <|
  XPr.cons (xs_iald dX4_mean_32) <|
  XPr.cons (xs_iadd dX4_mean_33) <|
  XPr.cons (xs_istore_n dX4_mean_34 rfl (Nat.le_of_ble_eq_true rfl)) <|
  XPr.cons (xs_iinc dX4_mean_35 (by decide +kernel) (Nat.le_of_ble_eq_true rfl)) <|
  XPr.cons (xs_goto dX4_mean_38 (by decide +kernel)) <|
  XPr.cons (xs_iload_n dX4_mean_41 rfl) <|
  XPr.cons (xs_bipush dX4_mean_42 (by decide +kernel)) <|
  XPr.cons (xs_iload_n dX4_mean_44 rfl) <|
  XPr.cons (xs_callS gw_613 gw_614 gw_72 gw_615 (by decide +kernel) (Nat.le_of_ble_eq_true rfl) dX4_mean_45) <|
  XPr.cons (xs_lret rfl dX4_mean_48) <|
  XPr.nil
def pX4_tells_0 : List (Nat × XOp) := [(0, xo_il 1 1), (1, xo_p1 f_isSheet 4), (4, xo_if_eq 28 7), (7, xo_al 0 8), (8, xo_get 4 3 11), (11, xo_il 2 12), (12, xo_callV yX2_has cX2_has 2 (some .boolean) 1 2 15), (15, xo_if_eq 28 18), (18, xo_il 3 19), (19, xo_ic 0 20), (20, xo_ic 8 22), (22, xo_p3 f_within 25), (25, xo_if_ne 31 28), (28, xo_ic (-2) 30), (30, xo_iret), (31, xo_al 0 32), (32, xo_get 4 7 35), (35, xo_il 1 36), (36, xo_aald 3 37), (37, xo_as 4 39), (39, xo_al 4 41), (41, xo_callV yX1_isMissing cX1_isMissing 1 (some .boolean) 0 1 44), (44, xo_if_eq 50 47), (47, xo_ic (-11) 49), (49, xo_iret), (50, xo_al 4 52), (52, xo_get 1 1 55), (55, xo_ic 20 57), (57, xo_ic_le 63 60), (60, xo_ic (-2) 62), (62, xo_iret), (63, xo_il 3 64), (64, xo_sw [(0, 112), (1, 122), (2, 133), (3, 144), (4, 153), (5, 144), (6, 162), (7, 171)] 184), (112, xo_al 0 113), (113, xo_al 4 115), (115, xo_il 2 116), (116, xo_ic 0 117), (117, xo_ic 0 118), (118, xo_callV yX4_firstOtherwise cX4_firstOtherwise 6 (some .int) 4 4 121), (121, xo_iret)]
theorem sX4_tells_0 : XPr RX4 cX4_tells 5 (some .int) 10 pX4_tells_0 :=
  XPr.cons (xs_iload_n dX4_tells_0 rfl) <|
  XPr.cons (xs_p1 (xs_callS gw_620 gw_621 gw_72 gw_622 (by decide +kernel) (Nat.le_of_ble_eq_true rfl) dX4_tells_1) c_X4_isSheet (Nat.le_of_ble_eq_true rfl)) <|
  XPr.cons (xs_if_eq dX4_tells_4 (by decide +kernel)) <|
  XPr.cons (xs_aload_n dX4_tells_7 rfl) <|
  XPr.cons (xs_get (T := TX4) rfl gX4 (Nat.le_of_ble_eq_true rfl) gw_230 dX4_tells_8) <|
  XPr.cons (xs_iload_n dX4_tells_11 rfl) <|
  XPr.cons (xs_callV (T := TX2) rfl gw_282 gw_283 gw_284 gw_75 gw_285 (by decide +kernel) (Nat.le_of_ble_eq_true rfl) dX4_tells_12) <|
  XPr.cons (xs_if_eq dX4_tells_15 (by decide +kernel)) <|
  XPr.cons (xs_iload_n dX4_tells_18 rfl) <|
  XPr.cons (xs_iconst dX4_tells_19 (by decide +kernel)) <|
  XPr.cons (xs_bipush dX4_tells_20 (by decide +kernel)) <|
  XPr.cons (xs_p3 (xs_callS gw_258 gw_259 gw_72 gw_260 (by decide +kernel) (Nat.le_of_ble_eq_true rfl) dX4_tells_22) c_X4_within (Nat.le_of_ble_eq_true rfl)) <|
  XPr.cons (xs_if_ne dX4_tells_25 (by decide +kernel)) <|
  XPr.cons (xs_bipush dX4_tells_28 (by decide +kernel)) <|
  XPr.cons (xs_iret rfl dX4_tells_30) <|
  XPr.cons (xs_aload_n dX4_tells_31 rfl) <|
  XPr.cons (xs_get (T := TX4) rfl gX4 (Nat.le_of_ble_eq_true rfl) gw_234 dX4_tells_32) <|
  XPr.cons (xs_iload_n dX4_tells_35 rfl) <|
  XPr.cons (xs_aald (C := "WhoBuiltSails$Sheet") (fun _ => rfl) dX4_tells_36) <|
  XPr.cons (xs_astore dX4_tells_37 (Nat.le_of_ble_eq_true rfl)) <|
  XPr.cons (xs_aload dX4_tells_39) <|
  XPr.cons (xs_callV (T := TX1) rfl gw_623 gw_624 gw_625 gw_76 gw_626 (by decide +kernel) (Nat.le_of_ble_eq_true rfl) dX4_tells_41) <|
  XPr.cons (xs_if_eq dX4_tells_44 (by decide +kernel)) <|
  XPr.cons (xs_bipush dX4_tells_47 (by decide +kernel)) <|
  XPr.cons (xs_iret rfl dX4_tells_49) <|
  XPr.cons (xs_aload dX4_tells_50) <|
  XPr.cons (xs_get (T := TX1) rfl gX1 (Nat.le_of_ble_eq_true rfl) gw_217 dX4_tells_52) <|
  XPr.cons (xs_bipush dX4_tells_55 (by decide +kernel)) <|
  XPr.cons (xs_ic_le dX4_tells_57 (by decide +kernel)) <|
  XPr.cons (xs_bipush dX4_tells_60 (by decide +kernel)) <|
  XPr.cons (xs_iret rfl dX4_tells_62) <|
  XPr.cons (xs_iload_n dX4_tells_63 rfl) <|
  XPr.cons (xs_table (ts := [112, 122, 133, 144, 153, 144, 162, 171]) dX4_tells_64 (by decide +kernel) (by decide +kernel) (by decide +kernel) (by decide +kernel)) <|
  XPr.cons (xs_aload_n dX4_tells_112 rfl) <|
  XPr.cons (xs_aload dX4_tells_113) <|
  XPr.cons (xs_iload_n dX4_tells_115 rfl) <|
  XPr.cons (xs_iconst dX4_tells_116 (by decide +kernel)) <|
  XPr.cons (xs_iconst dX4_tells_117 (by decide +kernel)) <|
  XPr.cons (xs_callV (T := TX4) rfl gw_627 gw_629 gw_22 gw_72 gw_630 (by decide +kernel) (Nat.le_of_ble_eq_true rfl) dX4_tells_118) <|
  XPr.cons (xs_iret rfl dX4_tells_121) <|
  XPr.nil
def pX4_tells_1 : List (Nat × XOp) := [(122, xo_al 0 123), (123, xo_al 4 125), (125, xo_il 2 126), (126, xo_il 3 127), (127, xo_ic 6 129), (129, xo_callV yX4_bitsThatFit cX4_bitsThatFit 7 (some .int) 4 4 132), (132, xo_iret), (133, xo_al 0 134), (134, xo_al 4 136), (136, xo_il 2 137), (137, xo_il 3 138), (138, xo_ic 10 140), (140, xo_callV yX4_bitsThatFit cX4_bitsThatFit 7 (some .int) 4 4 143), (143, xo_iret), (144, xo_al 0 145), (145, xo_al 4 147), (147, xo_il 2 148), (148, xo_il 3 149), (149, xo_callV yX4_howManyFit cX4_howManyFit 6 (some .int) 3 4 152), (152, xo_iret), (153, xo_al 0 154), (154, xo_al 4 156), (156, xo_il 2 157), (157, xo_ic 3 158), (158, xo_callV yX4_leastThatFits cX4_leastThatFits 5 (some .int) 3 4 161), (161, xo_iret), (162, xo_al 0 163), (163, xo_al 4 165), (165, xo_il 2 166), (166, xo_ic 5 167), (167, xo_callV yX4_leastThatFits cX4_leastThatFits 5 (some .int) 3 4 170), (170, xo_iret), (171, xo_al 0 172), (172, xo_al 4 174), (174, xo_il 2 175), (175, xo_il 3 176), (176, xo_al 0 177), (177, xo_get 4 1 180), (180, xo_callV yX4_bitsThatFit cX4_bitsThatFit 7 (some .int) 4 4 183), (183, xo_iret)]
theorem sX4_tells_1 : XPr RX4 cX4_tells 5 (some .int) 10 pX4_tells_1 :=
  XPr.cons (xs_aload_n dX4_tells_122 rfl) <|
  XPr.cons (xs_aload dX4_tells_123) <|
  XPr.cons (xs_iload_n dX4_tells_125 rfl) <|
  XPr.cons (xs_iload_n dX4_tells_126 rfl) <|
  XPr.cons (xs_bipush dX4_tells_127 (by decide +kernel)) <|
  XPr.cons (xs_callV (T := TX4) rfl gw_631 gw_633 gw_23 gw_72 gw_634 (by decide +kernel) (Nat.le_of_ble_eq_true rfl) dX4_tells_129) <|
  XPr.cons (xs_iret rfl dX4_tells_132) <|
  XPr.cons (xs_aload_n dX4_tells_133 rfl) <|
  XPr.cons (xs_aload dX4_tells_134) <|
  XPr.cons (xs_iload_n dX4_tells_136 rfl) <|
  XPr.cons (xs_iload_n dX4_tells_137 rfl) <|
  XPr.cons (xs_bipush dX4_tells_138 (by decide +kernel)) <|
  XPr.cons (xs_callV (T := TX4) rfl gw_631 gw_633 gw_23 gw_72 gw_634 (by decide +kernel) (Nat.le_of_ble_eq_true rfl) dX4_tells_140) <|
  XPr.cons (xs_iret rfl dX4_tells_143) <|
  XPr.cons (xs_aload_n dX4_tells_144 rfl) <|
  XPr.cons (xs_aload dX4_tells_145) <|
  XPr.cons (xs_iload_n dX4_tells_147 rfl) <|
  XPr.cons (xs_iload_n dX4_tells_148 rfl) <|
  XPr.cons (xs_callV (T := TX4) rfl gw_635 gw_637 gw_24 gw_72 gw_638 (by decide +kernel) (Nat.le_of_ble_eq_true rfl) dX4_tells_149) <|
  XPr.cons (xs_iret rfl dX4_tells_152) <|
  XPr.cons (xs_aload_n dX4_tells_153 rfl) <|
  XPr.cons (xs_aload dX4_tells_154) <|
  XPr.cons (xs_iload_n dX4_tells_156 rfl) <|
  XPr.cons (xs_iconst dX4_tells_157 (by decide +kernel)) <|
  XPr.cons (xs_callV (T := TX4) rfl gw_639 gw_641 gw_25 gw_72 gw_642 (by decide +kernel) (Nat.le_of_ble_eq_true rfl) dX4_tells_158) <|
  XPr.cons (xs_iret rfl dX4_tells_161) <|
  XPr.cons (xs_aload_n dX4_tells_162 rfl) <|
  XPr.cons (xs_aload dX4_tells_163) <|
  XPr.cons (xs_iload_n dX4_tells_165 rfl) <|
  XPr.cons (xs_iconst dX4_tells_166 (by decide +kernel)) <|
  XPr.cons (xs_callV (T := TX4) rfl gw_639 gw_641 gw_25 gw_72 gw_642 (by decide +kernel) (Nat.le_of_ble_eq_true rfl) dX4_tells_167) <|
  XPr.cons (xs_iret rfl dX4_tells_170) <|
  XPr.cons (xs_aload_n dX4_tells_171 rfl) <|
  XPr.cons (xs_aload dX4_tells_172) <|
  XPr.cons (xs_iload_n dX4_tells_174 rfl) <|
  XPr.cons (xs_iload_n dX4_tells_175 rfl) <|
  XPr.cons (xs_aload_n dX4_tells_176 rfl) <|
  XPr.cons (xs_get (T := TX4) rfl gX4 (Nat.le_of_ble_eq_true rfl) gw_228 dX4_tells_177) <|
  XPr.cons (xs_callV (T := TX4) rfl gw_631 gw_633 gw_23 gw_72 gw_634 (by decide +kernel) (Nat.le_of_ble_eq_true rfl) dX4_tells_180) <|
  XPr.cons (xs_iret rfl dX4_tells_183) <|
  XPr.nil
def pX4_tells_2 : List (Nat × XOp) := [(184, xo_al 0 185), (185, xo_al 4 187), (187, xo_il 2 188), (188, xo_il 3 189), (189, xo_ic 10 191), (191, xo_callV yX4_bitsThatFit cX4_bitsThatFit 7 (some .int) 4 4 194), (194, xo_iret)]
theorem sX4_tells_2 : XPr RX4 cX4_tells 5 (some .int) 10 pX4_tells_2 :=
  XPr.cons (xs_aload_n dX4_tells_184 rfl) <|
  XPr.cons (xs_aload dX4_tells_185) <|
  XPr.cons (xs_iload_n dX4_tells_187 rfl) <|
  XPr.cons (xs_iload_n dX4_tells_188 rfl) <|
  XPr.cons (xs_bipush dX4_tells_189 (by decide +kernel)) <|
  XPr.cons (xs_callV (T := TX4) rfl gw_631 gw_633 gw_23 gw_72 gw_634 (by decide +kernel) (Nat.le_of_ble_eq_true rfl) dX4_tells_191) <|
  XPr.cons (xs_iret rfl dX4_tells_194) <|
  XPr.nil
def pX4_tells : List (Nat × XOp) := pX4_tells_0 ++ pX4_tells_1 ++ pX4_tells_2
theorem sX4_tells : XPr RX4 cX4_tells 5 (some .int) 10 pX4_tells := ((sX4_tells_0).app sX4_tells_1).app sX4_tells_2
def pX4_firstOtherwise_0 : List (Nat × XOp) := [(0, xo_al 0 1), (1, xo_get 4 4 4), (4, xo_al 0 5), (5, xo_get 4 3 8), (8, xo_callV yX2_becomes cX2_becomes 2 none 1 2 11), (11, xo_il 3 12), (12, xo_sw [(1, 60), (2, 74), (3, 88), (4, 146), (5, 102), (6, 146), (7, 114), (8, 131)] 146), (60, xo_al 0 61), (61, xo_get 4 4 64), (64, xo_get 2 3 67), (67, xo_il 2 68), (68, xo_il 4 70), (70, xo_iast 71), (71, xo_goto 146), (74, xo_al 0 75), (75, xo_get 4 4 78), (78, xo_get 2 4 81), (81, xo_il 2 82), (82, xo_il 4 84), (84, xo_iast 85), (85, xo_goto 146), (88, xo_al 0 89), (89, xo_get 4 4 92), (92, xo_get 2 5 95), (95, xo_il 2 96), (96, xo_il 4 98), (98, xo_iast 99), (99, xo_goto 146), (102, xo_al 0 103), (103, xo_get 4 4 106), (106, xo_il 4 108), (108, xo_putI 2 8 111), (111, xo_goto 146), (114, xo_al 0 115), (115, xo_get 4 4 118), (118, xo_al 0 119), (119, xo_get 4 0 122), (122, xo_il 4 124), (124, xo_aald 2 125), (125, xo_putR 2 10 128)]
theorem sX4_firstOtherwise_0 : XPr RX4 cX4_firstOtherwise 6 (some .int) 10 pX4_firstOtherwise_0 :=
  XPr.cons (xs_aload_n dX4_firstOtherwise_0 rfl) <|
  XPr.cons (xs_get (T := TX4) rfl gX4 (Nat.le_of_ble_eq_true rfl) gw_231 dX4_firstOtherwise_1) <|
  XPr.cons (xs_aload_n dX4_firstOtherwise_4 rfl) <|
  XPr.cons (xs_get (T := TX4) rfl gX4 (Nat.le_of_ble_eq_true rfl) gw_230 dX4_firstOtherwise_5) <|
  XPr.cons (xs_callV (T := TX2) rfl gw_555 gw_556 gw_557 gw_75 gw_558 (by decide +kernel) (Nat.le_of_ble_eq_true rfl) dX4_firstOtherwise_8) <|
  XPr.cons (xs_iload_n dX4_firstOtherwise_11 rfl) <|
  XPr.cons (xs_table (ts := [60, 74, 88, 146, 102, 146, 114, 131]) dX4_firstOtherwise_12 (by decide +kernel) (by decide +kernel) (by decide +kernel) (by decide +kernel)) <|
  XPr.cons (xs_aload_n dX4_firstOtherwise_60 rfl) <|
  XPr.cons (xs_get (T := TX4) rfl gX4 (Nat.le_of_ble_eq_true rfl) gw_231 dX4_firstOtherwise_61) <|
  XPr.cons (xs_get (T := TX2) rfl gX2 (Nat.le_of_ble_eq_true rfl) gw_166 dX4_firstOtherwise_64) <|
  XPr.cons (xs_iload_n dX4_firstOtherwise_67 rfl) <|
  XPr.cons (xs_iload dX4_firstOtherwise_68) <|
  XPr.cons (xs_iast dX4_firstOtherwise_70) <|
  XPr.cons (xs_goto dX4_firstOtherwise_71 (by decide +kernel)) <|
  XPr.cons (xs_aload_n dX4_firstOtherwise_74 rfl) <|
  XPr.cons (xs_get (T := TX4) rfl gX4 (Nat.le_of_ble_eq_true rfl) gw_231 dX4_firstOtherwise_75) <|
  XPr.cons (xs_get (T := TX2) rfl gX2 (Nat.le_of_ble_eq_true rfl) gw_168 dX4_firstOtherwise_78) <|
  XPr.cons (xs_iload_n dX4_firstOtherwise_81 rfl) <|
  XPr.cons (xs_iload dX4_firstOtherwise_82) <|
  XPr.cons (xs_iast dX4_firstOtherwise_84) <|
  XPr.cons (xs_goto dX4_firstOtherwise_85 (by decide +kernel)) <|
  XPr.cons (xs_aload_n dX4_firstOtherwise_88 rfl) <|
  XPr.cons (xs_get (T := TX4) rfl gX4 (Nat.le_of_ble_eq_true rfl) gw_231 dX4_firstOtherwise_89) <|
  XPr.cons (xs_get (T := TX2) rfl gX2 (Nat.le_of_ble_eq_true rfl) gw_170 dX4_firstOtherwise_92) <|
  XPr.cons (xs_iload_n dX4_firstOtherwise_95 rfl) <|
  XPr.cons (xs_iload dX4_firstOtherwise_96) <|
  XPr.cons (xs_iast dX4_firstOtherwise_98) <|
  XPr.cons (xs_goto dX4_firstOtherwise_99 (by decide +kernel)) <|
  XPr.cons (xs_aload_n dX4_firstOtherwise_102 rfl) <|
  XPr.cons (xs_get (T := TX4) rfl gX4 (Nat.le_of_ble_eq_true rfl) gw_231 dX4_firstOtherwise_103) <|
  XPr.cons (xs_iload dX4_firstOtherwise_106) <|
  XPr.cons (xs_putI (T := TX2) rfl gX2 tyX2_ok nmX2 (Nat.le_of_ble_eq_true rfl) gw_176 rfl (by decide +kernel) dX4_firstOtherwise_108) <|
  XPr.cons (xs_goto dX4_firstOtherwise_111 (by decide +kernel)) <|
  XPr.cons (xs_aload_n dX4_firstOtherwise_114 rfl) <|
  XPr.cons (xs_get (T := TX4) rfl gX4 (Nat.le_of_ble_eq_true rfl) gw_231 dX4_firstOtherwise_115) <|
  XPr.cons (xs_aload_n dX4_firstOtherwise_118 rfl) <|
  XPr.cons (xs_get (T := TX4) rfl gX4 (Nat.le_of_ble_eq_true rfl) gw_227 dX4_firstOtherwise_119) <|
  XPr.cons (xs_iload dX4_firstOtherwise_122) <|
  XPr.cons (xs_aald (C := "WhoBuiltSails$Text") (fun _ => rfl) dX4_firstOtherwise_124) <|
  XPr.cons (xs_putR (C2 := "WhoBuiltSails$Text") (T := TX2) rfl gX2 tyX2_ok nmX2 (Nat.le_of_ble_eq_true rfl) gw_180 rfl (by decide +kernel) dX4_firstOtherwise_125) <|
  XPr.nil
def pX4_firstOtherwise_1 : List (Nat × XOp) := [(128, xo_goto 146), (131, xo_al 0 132), (132, xo_get 4 4 135), (135, xo_get 2 1 138), (138, xo_il 4 140), (140, xo_ic 99 142), (142, xo_iast 143), (143, xo_goto 146), (146, xo_ic 0 147), (147, xo_is 5 149), (149, xo_il 5 151), (151, xo_al 1 152), (152, xo_get 1 1 155), (155, xo_ic_ge 191 158), (158, xo_al 0 159), (159, xo_get 4 4 162), (162, xo_callV yX2_passDay cX2_passDay 3 none 0 2 165), (165, xo_al 0 166), (166, xo_get 4 4 169), (169, xo_get 2 9 172), (172, xo_al 1 173), (173, xo_get 1 2 176), (176, xo_il 5 178), (178, xo_iald 179), (179, xo_ic_eq 185 182), (182, xo_il 5 184), (184, xo_iret), (185, xo_inc 5 1 188), (188, xo_goto 149), (191, xo_ic (-1) 192), (192, xo_iret)]
theorem sX4_firstOtherwise_1 : XPr RX4 cX4_firstOtherwise 6 (some .int) 10 pX4_firstOtherwise_1 :=
  XPr.cons (xs_goto dX4_firstOtherwise_128 (by decide +kernel)) <|
  XPr.cons (xs_aload_n dX4_firstOtherwise_131 rfl) <|
  XPr.cons (xs_get (T := TX4) rfl gX4 (Nat.le_of_ble_eq_true rfl) gw_231 dX4_firstOtherwise_132) <|
  XPr.cons (xs_get (T := TX2) rfl gX2 (Nat.le_of_ble_eq_true rfl) gw_162 dX4_firstOtherwise_135) <|
  XPr.cons (xs_iload dX4_firstOtherwise_138) <|
  XPr.cons (xs_bipush dX4_firstOtherwise_140 (by decide +kernel)) <|
  XPr.cons (xs_iast dX4_firstOtherwise_142) <|
  XPr.cons (xs_goto dX4_firstOtherwise_143 (by decide +kernel)) <|
  XPr.cons (xs_iconst dX4_firstOtherwise_146 (by decide +kernel)) <|
  XPr.cons (xs_istore dX4_firstOtherwise_147 (Nat.le_of_ble_eq_true rfl)) <|
  XPr.cons (xs_iload dX4_firstOtherwise_149) <|
  XPr.cons (xs_aload_n dX4_firstOtherwise_151 rfl) <|
  XPr.cons (xs_get (T := TX1) rfl gX1 (Nat.le_of_ble_eq_true rfl) gw_217 dX4_firstOtherwise_152) <|
  XPr.cons (xs_ic_ge dX4_firstOtherwise_155 (by decide +kernel)) <|
  XPr.cons (xs_aload_n dX4_firstOtherwise_158 rfl) <|
  XPr.cons (xs_get (T := TX4) rfl gX4 (Nat.le_of_ble_eq_true rfl) gw_231 dX4_firstOtherwise_159) <|
  XPr.cons (xs_callV (T := TX2) rfl gw_534 gw_535 gw_536 gw_75 gw_537 (by decide +kernel) (Nat.le_of_ble_eq_true rfl) dX4_firstOtherwise_162) <|
  XPr.cons (xs_aload_n dX4_firstOtherwise_165 rfl) <|
  XPr.cons (xs_get (T := TX4) rfl gX4 (Nat.le_of_ble_eq_true rfl) gw_231 dX4_firstOtherwise_166) <|
  XPr.cons (xs_get (T := TX2) rfl gX2 (Nat.le_of_ble_eq_true rfl) gw_177 dX4_firstOtherwise_169) <|
  XPr.cons (xs_aload_n dX4_firstOtherwise_172 rfl) <|
  XPr.cons (xs_get (T := TX1) rfl gX1 (Nat.le_of_ble_eq_true rfl) gw_219 dX4_firstOtherwise_173) <|
  XPr.cons (xs_iload dX4_firstOtherwise_176) <|
  XPr.cons (xs_iald dX4_firstOtherwise_178) <|
  XPr.cons (xs_ic_eq dX4_firstOtherwise_179 (by decide +kernel)) <|
  XPr.cons (xs_iload dX4_firstOtherwise_182) <|
  XPr.cons (xs_iret rfl dX4_firstOtherwise_184) <|
  XPr.cons (xs_iinc dX4_firstOtherwise_185 (by decide +kernel) (Nat.le_of_ble_eq_true rfl)) <|
  XPr.cons (xs_goto dX4_firstOtherwise_188 (by decide +kernel)) <|
  XPr.cons (xs_iconst dX4_firstOtherwise_191 (by decide +kernel)) <|
  XPr.cons (xs_iret rfl dX4_firstOtherwise_192) <|
  XPr.nil
def pX4_firstOtherwise : List (Nat × XOp) := pX4_firstOtherwise_0 ++ pX4_firstOtherwise_1
theorem sX4_firstOtherwise : XPr RX4 cX4_firstOtherwise 6 (some .int) 10 pX4_firstOtherwise := (sX4_firstOtherwise_0).app sX4_firstOtherwise_1
def pX4_bitsThatFit : List (Nat × XOp) := [(0, xo_ic 0 1), (1, xo_is 5 3), (3, xo_ic 0 4), (4, xo_is 6 6), (6, xo_il 6 8), (8, xo_il 4 10), (10, xo_ic_ge 41 13), (13, xo_al 0 14), (14, xo_al 1 15), (15, xo_il 2 16), (16, xo_il 3 17), (17, xo_il 6 19), (19, xo_callV yX4_firstOtherwise cX4_firstOtherwise 6 (some .int) 4 4 22), (22, xo_ic (-1) 23), (23, xo_ic_ne 35 26), (26, xo_il 5 28), (28, xo_ic 1 29), (29, xo_il 6 31), (31, xo_ishl 32), (32, xo_ior 33), (33, xo_is 5 35), (35, xo_inc 6 1 38), (38, xo_goto 6), (41, xo_il 5 43), (43, xo_iret)]
theorem sX4_bitsThatFit : XPr RX4 cX4_bitsThatFit 7 (some .int) 10 pX4_bitsThatFit :=
  XPr.cons (xs_iconst dX4_bitsThatFit_0 (by decide +kernel)) <|
  XPr.cons (xs_istore dX4_bitsThatFit_1 (Nat.le_of_ble_eq_true rfl)) <|
  XPr.cons (xs_iconst dX4_bitsThatFit_3 (by decide +kernel)) <|
  XPr.cons (xs_istore dX4_bitsThatFit_4 (Nat.le_of_ble_eq_true rfl)) <|
  XPr.cons (xs_iload dX4_bitsThatFit_6) <|
  XPr.cons (xs_iload dX4_bitsThatFit_8) <|
  XPr.cons (xs_ic_ge dX4_bitsThatFit_10 (by decide +kernel)) <|
  XPr.cons (xs_aload_n dX4_bitsThatFit_13 rfl) <|
  XPr.cons (xs_aload_n dX4_bitsThatFit_14 rfl) <|
  XPr.cons (xs_iload_n dX4_bitsThatFit_15 rfl) <|
  XPr.cons (xs_iload_n dX4_bitsThatFit_16 rfl) <|
  XPr.cons (xs_iload dX4_bitsThatFit_17) <|
  XPr.cons (xs_callV (T := TX4) rfl gw_627 gw_629 gw_22 gw_72 gw_630 (by decide +kernel) (Nat.le_of_ble_eq_true rfl) dX4_bitsThatFit_19) <|
  XPr.cons (xs_iconst dX4_bitsThatFit_22 (by decide +kernel)) <|
  XPr.cons (xs_ic_ne dX4_bitsThatFit_23 (by decide +kernel)) <|
  XPr.cons (xs_iload dX4_bitsThatFit_26) <|
  XPr.cons (xs_iconst dX4_bitsThatFit_28 (by decide +kernel)) <|
  XPr.cons (xs_iload dX4_bitsThatFit_29) <|
  XPr.cons (xs_ishl dX4_bitsThatFit_31) <|
  XPr.cons (xs_ior dX4_bitsThatFit_32) <|
  XPr.cons (xs_istore dX4_bitsThatFit_33 (Nat.le_of_ble_eq_true rfl)) <|
  XPr.cons (xs_iinc dX4_bitsThatFit_35 (by decide +kernel) (Nat.le_of_ble_eq_true rfl)) <|
  XPr.cons (xs_goto dX4_bitsThatFit_38 (by decide +kernel)) <|
  XPr.cons (xs_iload dX4_bitsThatFit_41) <|
  XPr.cons (xs_iret rfl dX4_bitsThatFit_43) <|
  XPr.nil
def pX4_howManyFit : List (Nat × XOp) := [(0, xo_ic 0 1), (1, xo_is 4 3), (3, xo_ic 0 4), (4, xo_is 5 6), (6, xo_il 5 8), (8, xo_ic 99 10), (10, xo_ic_gt 35 13), (13, xo_al 0 14), (14, xo_al 1 15), (15, xo_il 2 16), (16, xo_il 3 17), (17, xo_il 5 19), (19, xo_callV yX4_firstOtherwise cX4_firstOtherwise 6 (some .int) 4 4 22), (22, xo_ic (-1) 23), (23, xo_ic_ne 29 26), (26, xo_inc 4 1 29), (29, xo_inc 5 1 32), (32, xo_goto 6), (35, xo_il 4 37), (37, xo_iret)]
theorem sX4_howManyFit : XPr RX4 cX4_howManyFit 6 (some .int) 10 pX4_howManyFit :=
  XPr.cons (xs_iconst dX4_howManyFit_0 (by decide +kernel)) <|
  XPr.cons (xs_istore dX4_howManyFit_1 (Nat.le_of_ble_eq_true rfl)) <|
  XPr.cons (xs_iconst dX4_howManyFit_3 (by decide +kernel)) <|
  XPr.cons (xs_istore dX4_howManyFit_4 (Nat.le_of_ble_eq_true rfl)) <|
  XPr.cons (xs_iload dX4_howManyFit_6) <|
  XPr.cons (xs_bipush dX4_howManyFit_8 (by decide +kernel)) <|
  XPr.cons (xs_ic_gt dX4_howManyFit_10 (by decide +kernel)) <|
  XPr.cons (xs_aload_n dX4_howManyFit_13 rfl) <|
  XPr.cons (xs_aload_n dX4_howManyFit_14 rfl) <|
  XPr.cons (xs_iload_n dX4_howManyFit_15 rfl) <|
  XPr.cons (xs_iload_n dX4_howManyFit_16 rfl) <|
  XPr.cons (xs_iload dX4_howManyFit_17) <|
  XPr.cons (xs_callV (T := TX4) rfl gw_627 gw_629 gw_22 gw_72 gw_630 (by decide +kernel) (Nat.le_of_ble_eq_true rfl) dX4_howManyFit_19) <|
  XPr.cons (xs_iconst dX4_howManyFit_22 (by decide +kernel)) <|
  XPr.cons (xs_ic_ne dX4_howManyFit_23 (by decide +kernel)) <|
  XPr.cons (xs_iinc dX4_howManyFit_26 (by decide +kernel) (Nat.le_of_ble_eq_true rfl)) <|
  XPr.cons (xs_iinc dX4_howManyFit_29 (by decide +kernel) (Nat.le_of_ble_eq_true rfl)) <|
  XPr.cons (xs_goto dX4_howManyFit_32 (by decide +kernel)) <|
  XPr.cons (xs_iload dX4_howManyFit_35) <|
  XPr.cons (xs_iret rfl dX4_howManyFit_37) <|
  XPr.nil
def pX4_leastThatFits : List (Nat × XOp) := [(0, xo_ic 0 1), (1, xo_is 4 3), (3, xo_il 4 5), (5, xo_ic 99 7), (7, xo_ic_gt 32 10), (10, xo_al 0 11), (11, xo_al 1 12), (12, xo_il 2 13), (13, xo_il 3 14), (14, xo_il 4 16), (16, xo_callV yX4_firstOtherwise cX4_firstOtherwise 6 (some .int) 4 4 19), (19, xo_ic (-1) 20), (20, xo_ic_ne 26 23), (23, xo_il 4 25), (25, xo_iret), (26, xo_inc 4 1 29), (29, xo_goto 3), (32, xo_ic (-1) 33), (33, xo_iret)]
theorem sX4_leastThatFits : XPr RX4 cX4_leastThatFits 5 (some .int) 10 pX4_leastThatFits :=
  XPr.cons (xs_iconst dX4_leastThatFits_0 (by decide +kernel)) <|
  XPr.cons (xs_istore dX4_leastThatFits_1 (Nat.le_of_ble_eq_true rfl)) <|
  XPr.cons (xs_iload dX4_leastThatFits_3) <|
  XPr.cons (xs_bipush dX4_leastThatFits_5 (by decide +kernel)) <|
  XPr.cons (xs_ic_gt dX4_leastThatFits_7 (by decide +kernel)) <|
  XPr.cons (xs_aload_n dX4_leastThatFits_10 rfl) <|
  XPr.cons (xs_aload_n dX4_leastThatFits_11 rfl) <|
  XPr.cons (xs_iload_n dX4_leastThatFits_12 rfl) <|
  XPr.cons (xs_iload_n dX4_leastThatFits_13 rfl) <|
  XPr.cons (xs_iload dX4_leastThatFits_14) <|
  XPr.cons (xs_callV (T := TX4) rfl gw_627 gw_629 gw_22 gw_72 gw_630 (by decide +kernel) (Nat.le_of_ble_eq_true rfl) dX4_leastThatFits_16) <|
  XPr.cons (xs_iconst dX4_leastThatFits_19 (by decide +kernel)) <|
  XPr.cons (xs_ic_ne dX4_leastThatFits_20 (by decide +kernel)) <|
  XPr.cons (xs_iload dX4_leastThatFits_23) <|
  XPr.cons (xs_iret rfl dX4_leastThatFits_25) <|
  XPr.cons (xs_iinc dX4_leastThatFits_26 (by decide +kernel) (Nat.le_of_ble_eq_true rfl)) <|
  XPr.cons (xs_goto dX4_leastThatFits_29 (by decide +kernel)) <|
  XPr.cons (xs_iconst dX4_leastThatFits_32 (by decide +kernel)) <|
  XPr.cons (xs_iret rfl dX4_leastThatFits_33) <|
  XPr.nil
def pX4_film_0 : List (Nat × XOp) := [(0, xo_il 1 1), (1, xo_p1 f_isSheet 4), (4, xo_if_eq 17 7), (7, xo_il 2 8), (8, xo_ic 0 9), (9, xo_ic 20 11), (11, xo_p3 f_within 14), (14, xo_if_ne 20 17), (17, xo_ic (-2) 19), (19, xo_iret), (20, xo_al 0 21), (21, xo_get 4 7 24), (24, xo_il 1 25), (25, xo_aald 3 26), (26, xo_as 3 27), (27, xo_al 3 28), (28, xo_ic 0 29), (29, xo_il 2 30), (30, xo_callV yX1_becomes cX1_becomes 4 none 2 1 33), (33, xo_al 0 34), (34, xo_get 4 4 37), (37, xo_al 0 38), (38, xo_get 4 3 41), (41, xo_callV yX2_becomes cX2_becomes 2 none 1 2 44), (44, xo_ic 0 45), (45, xo_is 4 47), (47, xo_il 4 49), (49, xo_il 2 50), (50, xo_ic_ge 79 53), (53, xo_al 0 54), (54, xo_get 4 4 57), (57, xo_callV yX2_passDay cX2_passDay 3 none 0 2 60), (60, xo_al 3 61), (61, xo_il 4 63), (63, xo_al 0 64), (64, xo_get 4 4 67), (67, xo_get 2 9 70), (70, xo_callV yX1_put cX1_put 3 none 2 1 73), (73, xo_inc 4 1 76), (76, xo_goto 47)]
theorem sX4_film_0 : XPr RX4 cX4_film 5 (some .int) 10 pX4_film_0 :=
  XPr.cons (xs_iload_n dX4_film_0 rfl) <|
  XPr.cons (xs_p1 (xs_callS gw_620 gw_621 gw_72 gw_622 (by decide +kernel) (Nat.le_of_ble_eq_true rfl) dX4_film_1) c_X4_isSheet (Nat.le_of_ble_eq_true rfl)) <|
  XPr.cons (xs_if_eq dX4_film_4 (by decide +kernel)) <|
  XPr.cons (xs_iload_n dX4_film_7 rfl) <|
  XPr.cons (xs_iconst dX4_film_8 (by decide +kernel)) <|
  XPr.cons (xs_bipush dX4_film_9 (by decide +kernel)) <|
  XPr.cons (xs_p3 (xs_callS gw_258 gw_259 gw_72 gw_260 (by decide +kernel) (Nat.le_of_ble_eq_true rfl) dX4_film_11) c_X4_within (Nat.le_of_ble_eq_true rfl)) <|
  XPr.cons (xs_if_ne dX4_film_14 (by decide +kernel)) <|
  XPr.cons (xs_bipush dX4_film_17 (by decide +kernel)) <|
  XPr.cons (xs_iret rfl dX4_film_19) <|
  XPr.cons (xs_aload_n dX4_film_20 rfl) <|
  XPr.cons (xs_get (T := TX4) rfl gX4 (Nat.le_of_ble_eq_true rfl) gw_234 dX4_film_21) <|
  XPr.cons (xs_iload_n dX4_film_24 rfl) <|
  XPr.cons (xs_aald (C := "WhoBuiltSails$Sheet") (fun _ => rfl) dX4_film_25) <|
  XPr.cons (xs_astore_n dX4_film_26 rfl (Nat.le_of_ble_eq_true rfl)) <|
  XPr.cons (xs_aload_n dX4_film_27 rfl) <|
  XPr.cons (xs_iconst dX4_film_28 (by decide +kernel)) <|
  XPr.cons (xs_iload_n dX4_film_29 rfl) <|
  XPr.cons (xs_callV (T := TX1) rfl gw_647 gw_648 gw_649 gw_76 gw_650 (by decide +kernel) (Nat.le_of_ble_eq_true rfl) dX4_film_30) <|
  XPr.cons (xs_aload_n dX4_film_33 rfl) <|
  XPr.cons (xs_get (T := TX4) rfl gX4 (Nat.le_of_ble_eq_true rfl) gw_231 dX4_film_34) <|
  XPr.cons (xs_aload_n dX4_film_37 rfl) <|
  XPr.cons (xs_get (T := TX4) rfl gX4 (Nat.le_of_ble_eq_true rfl) gw_230 dX4_film_38) <|
  XPr.cons (xs_callV (T := TX2) rfl gw_555 gw_556 gw_557 gw_75 gw_558 (by decide +kernel) (Nat.le_of_ble_eq_true rfl) dX4_film_41) <|
  XPr.cons (xs_iconst dX4_film_44 (by decide +kernel)) <|
  XPr.cons (xs_istore dX4_film_45 (Nat.le_of_ble_eq_true rfl)) <|
  XPr.cons (xs_iload dX4_film_47) <|
  XPr.cons (xs_iload_n dX4_film_49 rfl) <|
  XPr.cons (xs_ic_ge dX4_film_50 (by decide +kernel)) <|
  XPr.cons (xs_aload_n dX4_film_53 rfl) <|
  XPr.cons (xs_get (T := TX4) rfl gX4 (Nat.le_of_ble_eq_true rfl) gw_231 dX4_film_54) <|
  XPr.cons (xs_callV (T := TX2) rfl gw_534 gw_535 gw_536 gw_75 gw_537 (by decide +kernel) (Nat.le_of_ble_eq_true rfl) dX4_film_57) <|
  XPr.cons (xs_aload_n dX4_film_60 rfl) <|
  XPr.cons (xs_iload dX4_film_61) <|
  XPr.cons (xs_aload_n dX4_film_63 rfl) <|
  XPr.cons (xs_get (T := TX4) rfl gX4 (Nat.le_of_ble_eq_true rfl) gw_231 dX4_film_64) <|
  XPr.cons (xs_get (T := TX2) rfl gX2 (Nat.le_of_ble_eq_true rfl) gw_177 dX4_film_67) <|
  XPr.cons (xs_callV (T := TX1) rfl gw_653 gw_654 gw_655 gw_76 gw_656 (by decide +kernel) (Nat.le_of_ble_eq_true rfl) dX4_film_70) <|
  XPr.cons (xs_iinc dX4_film_73 (by decide +kernel) (Nat.le_of_ble_eq_true rfl)) <|
  XPr.cons (xs_goto dX4_film_76 (by decide +kernel)) <|
  XPr.nil
def pX4_film_1 : List (Nat × XOp) := [(79, xo_il 2 80), (80, xo_iret)]
theorem sX4_film_1 : XPr RX4 cX4_film 5 (some .int) 10 pX4_film_1 :=
  XPr.cons (xs_iload_n dX4_film_79 rfl) <|
  XPr.cons (xs_iret rfl dX4_film_80) <|
  XPr.nil
def pX4_film : List (Nat × XOp) := pX4_film_0 ++ pX4_film_1
theorem sX4_film : XPr RX4 cX4_film 5 (some .int) 10 pX4_film := (sX4_film_0).app sX4_film_1
def pX4_drawn : List (Nat × XOp) := [(0, xo_il 2 1), (1, xo_ic 0 2), (2, xo_ic 40 4), (4, xo_p3 f_within 7), (7, xo_if_ne 13 10), (10, xo_ic (-2) 12), (12, xo_iret), (13, xo_al 0 14), (14, xo_il 1 15), (15, xo_il 2 16), (16, xo_callV yX4_waterDrawn cX4_waterDrawn 5 (some .int) 2 4 19), (19, xo_iret)]
theorem sX4_drawn : XPr RX4 cX4_drawn 3 (some .int) 10 pX4_drawn :=
  XPr.cons (xs_iload_n dX4_drawn_0 rfl) <|
  XPr.cons (xs_iconst dX4_drawn_1 (by decide +kernel)) <|
  XPr.cons (xs_bipush dX4_drawn_2 (by decide +kernel)) <|
  XPr.cons (xs_p3 (xs_callS gw_258 gw_259 gw_72 gw_260 (by decide +kernel) (Nat.le_of_ble_eq_true rfl) dX4_drawn_4) c_X4_within (Nat.le_of_ble_eq_true rfl)) <|
  XPr.cons (xs_if_ne dX4_drawn_7 (by decide +kernel)) <|
  XPr.cons (xs_bipush dX4_drawn_10 (by decide +kernel)) <|
  XPr.cons (xs_iret rfl dX4_drawn_12) <|
  XPr.cons (xs_aload_n dX4_drawn_13 rfl) <|
  XPr.cons (xs_iload_n dX4_drawn_14 rfl) <|
  XPr.cons (xs_iload_n dX4_drawn_15 rfl) <|
  XPr.cons (xs_callV (T := TX4) rfl gw_666 gw_668 gw_26 gw_72 gw_669 (by decide +kernel) (Nat.le_of_ble_eq_true rfl) dX4_drawn_16) <|
  XPr.cons (xs_iret rfl dX4_drawn_19) <|
  XPr.nil
def pX4_waterDrawn : List (Nat × XOp) := [(0, xo_al 0 1), (1, xo_get 4 4 4), (4, xo_al 0 5), (5, xo_get 4 3 8), (8, xo_callV yX2_becomes cX2_becomes 2 none 1 2 11), (11, xo_il 1 12), (12, xo_is 3 13), (13, xo_ic 0 14), (14, xo_is 4 16), (16, xo_il 4 18), (18, xo_il 2 19), (19, xo_ic_ge 58 22), (22, xo_il 3 23), (23, xo_ic 1103515245 25), (25, xo_imul 26), (26, xo_ic 12345 29), (29, xo_iadd 30), (30, xo_is 3 31), (31, xo_al 0 32), (32, xo_get 4 4 35), (35, xo_il 3 36), (36, xo_ic 9 38), (38, xo_iushr 39), (39, xo_ic 100 41), (41, xo_irem 42), (42, xo_putI 2 8 45), (45, xo_al 0 46), (46, xo_get 4 4 49), (49, xo_callV yX2_passDay cX2_passDay 3 none 0 2 52), (52, xo_inc 4 1 55), (55, xo_goto 16), (58, xo_al 0 59), (59, xo_get 4 4 62), (62, xo_get 2 9 65), (65, xo_iret)]
theorem sX4_waterDrawn : XPr RX4 cX4_waterDrawn 5 (some .int) 10 pX4_waterDrawn :=
  XPr.cons (xs_aload_n dX4_waterDrawn_0 rfl) <|
  XPr.cons (xs_get (T := TX4) rfl gX4 (Nat.le_of_ble_eq_true rfl) gw_231 dX4_waterDrawn_1) <|
  XPr.cons (xs_aload_n dX4_waterDrawn_4 rfl) <|
  XPr.cons (xs_get (T := TX4) rfl gX4 (Nat.le_of_ble_eq_true rfl) gw_230 dX4_waterDrawn_5) <|
  XPr.cons (xs_callV (T := TX2) rfl gw_555 gw_556 gw_557 gw_75 gw_558 (by decide +kernel) (Nat.le_of_ble_eq_true rfl) dX4_waterDrawn_8) <|
  XPr.cons (xs_iload_n dX4_waterDrawn_11 rfl) <|
  XPr.cons (xs_istore_n dX4_waterDrawn_12 rfl (Nat.le_of_ble_eq_true rfl)) <|
  XPr.cons (xs_iconst dX4_waterDrawn_13 (by decide +kernel)) <|
  XPr.cons (xs_istore dX4_waterDrawn_14 (Nat.le_of_ble_eq_true rfl)) <|
  XPr.cons (xs_iload dX4_waterDrawn_16) <|
  XPr.cons (xs_iload_n dX4_waterDrawn_18 rfl) <|
  XPr.cons (xs_ic_ge dX4_waterDrawn_19 (by decide +kernel)) <|
  XPr.cons (xs_iload_n dX4_waterDrawn_22 rfl) <|
  XPr.cons (xs_ldc gw_670 dX4_waterDrawn_23) <|
  XPr.cons (xs_imul dX4_waterDrawn_25) <|
  XPr.cons (xs_sipush dX4_waterDrawn_26 (by decide +kernel)) <|
  XPr.cons (xs_iadd dX4_waterDrawn_29) <|
  XPr.cons (xs_istore_n dX4_waterDrawn_30 rfl (Nat.le_of_ble_eq_true rfl)) <|
  XPr.cons (xs_aload_n dX4_waterDrawn_31 rfl) <|
  XPr.cons (xs_get (T := TX4) rfl gX4 (Nat.le_of_ble_eq_true rfl) gw_231 dX4_waterDrawn_32) <|
  XPr.cons (xs_iload_n dX4_waterDrawn_35 rfl) <|
  XPr.cons (xs_bipush dX4_waterDrawn_36 (by decide +kernel)) <|
  XPr.cons (xs_iushr dX4_waterDrawn_38) <|
  XPr.cons (xs_bipush dX4_waterDrawn_39 (by decide +kernel)) <|
  XPr.cons (xs_irem dX4_waterDrawn_41) <|
  XPr.cons (xs_putI (T := TX2) rfl gX2 tyX2_ok nmX2 (Nat.le_of_ble_eq_true rfl) gw_176 rfl (by decide +kernel) dX4_waterDrawn_42) <|
  XPr.cons (xs_aload_n dX4_waterDrawn_45 rfl) <|
  XPr.cons (xs_get (T := TX4) rfl gX4 (Nat.le_of_ble_eq_true rfl) gw_231 dX4_waterDrawn_46) <|
  XPr.cons (xs_callV (T := TX2) rfl gw_534 gw_535 gw_536 gw_75 gw_537 (by decide +kernel) (Nat.le_of_ble_eq_true rfl) dX4_waterDrawn_49) <|
  XPr.cons (xs_iinc dX4_waterDrawn_52 (by decide +kernel) (Nat.le_of_ble_eq_true rfl)) <|
  XPr.cons (xs_goto dX4_waterDrawn_55 (by decide +kernel)) <|
  XPr.cons (xs_aload_n dX4_waterDrawn_58 rfl) <|
  XPr.cons (xs_get (T := TX4) rfl gX4 (Nat.le_of_ble_eq_true rfl) gw_231 dX4_waterDrawn_59) <|
  XPr.cons (xs_get (T := TX2) rfl gX2 (Nat.le_of_ble_eq_true rfl) gw_177 dX4_waterDrawn_62) <|
  XPr.cons (xs_iret rfl dX4_waterDrawn_65) <|
  XPr.nil
def pX4_chance : List (Nat × XOp) := [(0, xo_il 2 1), (1, xo_ic 1 2), (2, xo_ic 20 4), (4, xo_p3 f_within 7), (7, xo_if_eq 19 10), (10, xo_il 3 11), (11, xo_ic 0 12), (12, xo_ic 1 13), (13, xo_p3 f_within 16), (16, xo_if_ne 23 19), (19, xo_lc (-4611686018427387904) 22), (22, xo_lret), (23, xo_ic 0 24), (24, xo_is 4 26), (26, xo_ic 0 27), (27, xo_is 5 29), (29, xo_il 5 31), (31, xo_il 2 32), (32, xo_ic_ge 59 35), (35, xo_al 0 36), (36, xo_il 1 37), (37, xo_il 5 39), (39, xo_iadd 40), (40, xo_ic 10 42), (42, xo_callV yX4_waterDrawn cX4_waterDrawn 5 (some .int) 2 4 45), (45, xo_ic 100 47), (47, xo_ic_lt 53 50), (50, xo_inc 4 1 53), (53, xo_inc 5 1 56), (56, xo_goto 29), (59, xo_il 4 61), (61, xo_il 2 62), (62, xo_il 3 63), (63, xo_callS yX4_lowestTerms cX4_lowestTerms 5 (some .long) 3 66), (66, xo_lret)]
theorem sX4_chance : XPr RX4 cX4_chance 6 (some .long) 10 pX4_chance :=
  XPr.cons (xs_iload_n dX4_chance_0 rfl) <|
  XPr.cons (xs_iconst dX4_chance_1 (by decide +kernel)) <|
  XPr.cons (xs_bipush dX4_chance_2 (by decide +kernel)) <|
  XPr.cons (xs_p3 (xs_callS gw_258 gw_259 gw_72 gw_260 (by decide +kernel) (Nat.le_of_ble_eq_true rfl) dX4_chance_4) c_X4_within (Nat.le_of_ble_eq_true rfl)) <|
  XPr.cons (xs_if_eq dX4_chance_7 (by decide +kernel)) <|
  XPr.cons (xs_iload_n dX4_chance_10 rfl) <|
  XPr.cons (xs_iconst dX4_chance_11 (by decide +kernel)) <|
  XPr.cons (xs_iconst dX4_chance_12 (by decide +kernel)) <|
  XPr.cons (xs_p3 (xs_callS gw_258 gw_259 gw_72 gw_260 (by decide +kernel) (Nat.le_of_ble_eq_true rfl) dX4_chance_13) c_X4_within (Nat.le_of_ble_eq_true rfl)) <|
  XPr.cons (xs_if_ne dX4_chance_16 (by decide +kernel)) <|
  XPr.cons (xs_ldc2 gw_612 dX4_chance_19) <|
  XPr.cons (xs_lret rfl dX4_chance_22) <|
  XPr.cons (xs_iconst dX4_chance_23 (by decide +kernel)) <|
  XPr.cons (xs_istore dX4_chance_24 (Nat.le_of_ble_eq_true rfl)) <|
  XPr.cons (xs_iconst dX4_chance_26 (by decide +kernel)) <|
  XPr.cons (xs_istore dX4_chance_27 (Nat.le_of_ble_eq_true rfl)) <|
  XPr.cons (xs_iload dX4_chance_29) <|
  XPr.cons (xs_iload_n dX4_chance_31 rfl) <|
  XPr.cons (xs_ic_ge dX4_chance_32 (by decide +kernel)) <|
  XPr.cons (xs_aload_n dX4_chance_35 rfl) <|
  XPr.cons (xs_iload_n dX4_chance_36 rfl) <|
  XPr.cons (xs_iload dX4_chance_37) <|
  XPr.cons (xs_iadd dX4_chance_39) <|
  XPr.cons (xs_bipush dX4_chance_40 (by decide +kernel)) <|
  XPr.cons (xs_callV (T := TX4) rfl gw_666 gw_668 gw_26 gw_72 gw_669 (by decide +kernel) (Nat.le_of_ble_eq_true rfl) dX4_chance_42) <|
  XPr.cons (xs_bipush dX4_chance_45 (by decide +kernel)) <|
  XPr.cons (xs_ic_lt dX4_chance_47 (by decide +kernel)) <|
  XPr.cons (xs_iinc dX4_chance_50 (by decide +kernel) (Nat.le_of_ble_eq_true rfl)) <|
  XPr.cons (xs_iinc dX4_chance_53 (by decide +kernel) (Nat.le_of_ble_eq_true rfl)) <|
  XPr.cons (xs_goto dX4_chance_56 (by decide +kernel)) <|
  XPr.cons (xs_iload dX4_chance_59) <|
  XPr.cons (xs_iload_n dX4_chance_61 rfl) <|
  XPr.cons (xs_iload_n dX4_chance_62 rfl) <|
  XPr.cons (xs_callS gw_613 gw_614 gw_72 gw_615 (by decide +kernel) (Nat.le_of_ble_eq_true rfl) dX4_chance_63) <|
  XPr.cons (xs_lret rfl dX4_chance_66) <|
  XPr.nil
def pX4_image : List (Nat × XOp) := [(0, xo_al 0 1), (1, xo_get 4 5 4), (4, xo_al 0 5), (5, xo_get 4 3 8), (8, xo_callV yX2_becomes cX2_becomes 2 none 1 2 11), (11, xo_al 0 12), (12, xo_ic 1 13), (13, xo_putZ 4 6 16), (16, xo_al 0 17), (17, xo_get 4 5 20), (20, xo_get 2 2 23), (23, xo_iret)]
theorem sX4_image : XPr RX4 cX4_image 1 (some .int) 10 pX4_image :=
  XPr.cons (xs_aload_n dX4_image_0 rfl) <|
  XPr.cons (xs_get (T := TX4) rfl gX4 (Nat.le_of_ble_eq_true rfl) gw_232 dX4_image_1) <|
  XPr.cons (xs_aload_n dX4_image_4 rfl) <|
  XPr.cons (xs_get (T := TX4) rfl gX4 (Nat.le_of_ble_eq_true rfl) gw_230 dX4_image_5) <|
  XPr.cons (xs_callV (T := TX2) rfl gw_555 gw_556 gw_557 gw_75 gw_558 (by decide +kernel) (Nat.le_of_ble_eq_true rfl) dX4_image_8) <|
  XPr.cons (xs_aload_n dX4_image_11 rfl) <|
  XPr.cons (xs_iconst dX4_image_12 (by decide +kernel)) <|
  XPr.cons (xs_putZ (T := TX4) rfl gX4 tyX4_ok nmX4 (Nat.le_of_ble_eq_true rfl) gw_233 rfl (by decide +kernel) dX4_image_13) <|
  XPr.cons (xs_aload_n dX4_image_16 rfl) <|
  XPr.cons (xs_get (T := TX4) rfl gX4 (Nat.le_of_ble_eq_true rfl) gw_232 dX4_image_17) <|
  XPr.cons (xs_get (T := TX2) rfl gX2 (Nat.le_of_ble_eq_true rfl) gw_164 dX4_image_20) <|
  XPr.cons (xs_iret rfl dX4_image_23) <|
  XPr.nil
def pX4_back : List (Nat × XOp) := [(0, xo_al 0 1), (1, xo_get 4 6 4), (4, xo_if_ne 10 7), (7, xo_ic (-3) 9), (9, xo_iret), (10, xo_al 0 11), (11, xo_get 4 3 14), (14, xo_al 0 15), (15, xo_get 4 5 18), (18, xo_callV yX2_becomes cX2_becomes 2 none 1 2 21), (21, xo_al 0 22), (22, xo_get 4 3 25), (25, xo_get 2 2 28), (28, xo_iret)]
theorem sX4_back : XPr RX4 cX4_back 1 (some .int) 10 pX4_back :=
  XPr.cons (xs_aload_n dX4_back_0 rfl) <|
  XPr.cons (xs_get (T := TX4) rfl gX4 (Nat.le_of_ble_eq_true rfl) gw_233 dX4_back_1) <|
  XPr.cons (xs_if_ne dX4_back_4 (by decide +kernel)) <|
  XPr.cons (xs_bipush dX4_back_7 (by decide +kernel)) <|
  XPr.cons (xs_iret rfl dX4_back_9) <|
  XPr.cons (xs_aload_n dX4_back_10 rfl) <|
  XPr.cons (xs_get (T := TX4) rfl gX4 (Nat.le_of_ble_eq_true rfl) gw_230 dX4_back_11) <|
  XPr.cons (xs_aload_n dX4_back_14 rfl) <|
  XPr.cons (xs_get (T := TX4) rfl gX4 (Nat.le_of_ble_eq_true rfl) gw_232 dX4_back_15) <|
  XPr.cons (xs_callV (T := TX2) rfl gw_555 gw_556 gw_557 gw_75 gw_558 (by decide +kernel) (Nat.le_of_ble_eq_true rfl) dX4_back_18) <|
  XPr.cons (xs_aload_n dX4_back_21 rfl) <|
  XPr.cons (xs_get (T := TX4) rfl gX4 (Nat.le_of_ble_eq_true rfl) gw_230 dX4_back_22) <|
  XPr.cons (xs_get (T := TX2) rfl gX2 (Nat.le_of_ble_eq_true rfl) gw_164 dX4_back_25) <|
  XPr.cons (xs_iret rfl dX4_back_28) <|
  XPr.nil
def pX4_count : List (Nat × XOp) := [(0, xo_il 1 1), (1, xo_sw [(0, 40), (1, 48), (2, 56), (3, 68), (4, 73), (5, 81)] 92), (40, xo_al 0 41), (41, xo_get 4 3 44), (44, xo_get 2 2 47), (47, xo_iret), (48, xo_al 0 49), (49, xo_get 4 3 52), (52, xo_callV yX2_partsMade cX2_partsMade 1 (some .int) 0 2 55), (55, xo_iret), (56, xo_al 0 57), (57, xo_get 4 3 60), (60, xo_ic 1 61), (61, xo_callV yX2_who cX2_who 4 (some .int) 1 2 64), (64, xo_p1 f_bits 67), (67, xo_iret), (68, xo_al 0 69), (69, xo_get 4 1 72), (72, xo_iret), (73, xo_al 0 74), (74, xo_get 4 2 77), (77, xo_get 0 1 80), (80, xo_iret), (81, xo_al 0 82), (82, xo_get 4 3 85), (85, xo_get 2 10 88), (88, xo_get 3 0 91), (91, xo_iret), (92, xo_ic (-2) 94), (94, xo_iret)]
theorem sX4_count : XPr RX4 cX4_count 2 (some .int) 10 pX4_count :=
  XPr.cons (xs_iload_n dX4_count_0 rfl) <|
  XPr.cons (xs_table (ts := [40, 48, 56, 68, 73, 81]) dX4_count_1 (by decide +kernel) (by decide +kernel) (by decide +kernel) (by decide +kernel)) <|
  XPr.cons (xs_aload_n dX4_count_40 rfl) <|
  XPr.cons (xs_get (T := TX4) rfl gX4 (Nat.le_of_ble_eq_true rfl) gw_230 dX4_count_41) <|
  XPr.cons (xs_get (T := TX2) rfl gX2 (Nat.le_of_ble_eq_true rfl) gw_164 dX4_count_44) <|
  XPr.cons (xs_iret rfl dX4_count_47) <|
  XPr.cons (xs_aload_n dX4_count_48 rfl) <|
  XPr.cons (xs_get (T := TX4) rfl gX4 (Nat.le_of_ble_eq_true rfl) gw_230 dX4_count_49) <|
  XPr.cons (xs_callV (T := TX2) rfl gw_576 gw_577 gw_578 gw_75 gw_579 (by decide +kernel) (Nat.le_of_ble_eq_true rfl) dX4_count_52) <|
  XPr.cons (xs_iret rfl dX4_count_55) <|
  XPr.cons (xs_aload_n dX4_count_56 rfl) <|
  XPr.cons (xs_get (T := TX4) rfl gX4 (Nat.le_of_ble_eq_true rfl) gw_230 dX4_count_57) <|
  XPr.cons (xs_iconst dX4_count_60 (by decide +kernel)) <|
  XPr.cons (xs_callV (T := TX2) rfl gw_517 gw_319 gw_320 gw_75 gw_321 (by decide +kernel) (Nat.le_of_ble_eq_true rfl) dX4_count_61) <|
  XPr.cons (xs_p1 (xs_callS gw_599 gw_323 gw_79 gw_324 (by decide +kernel) (Nat.le_of_ble_eq_true rfl) dX4_count_64) c_J6_bitCount_0f7a4 (Nat.le_of_ble_eq_true rfl)) <|
  XPr.cons (xs_iret rfl dX4_count_67) <|
  XPr.cons (xs_aload_n dX4_count_68 rfl) <|
  XPr.cons (xs_get (T := TX4) rfl gX4 (Nat.le_of_ble_eq_true rfl) gw_228 dX4_count_69) <|
  XPr.cons (xs_iret rfl dX4_count_72) <|
  XPr.cons (xs_aload_n dX4_count_73 rfl) <|
  XPr.cons (xs_get (T := TX4) rfl gX4 (Nat.le_of_ble_eq_true rfl) gw_229 dX4_count_74) <|
  XPr.cons (xs_get (T := TX0) rfl gX0 (Nat.le_of_ble_eq_true rfl) gw_126 dX4_count_77) <|
  XPr.cons (xs_iret rfl dX4_count_80) <|
  XPr.cons (xs_aload_n dX4_count_81 rfl) <|
  XPr.cons (xs_get (T := TX4) rfl gX4 (Nat.le_of_ble_eq_true rfl) gw_230 dX4_count_82) <|
  XPr.cons (xs_get (T := TX2) rfl gX2 (Nat.le_of_ble_eq_true rfl) gw_180 dX4_count_85) <|
  XPr.cons (xs_get (T := TX3) rfl gX3 (Nat.le_of_ble_eq_true rfl) gw_101 dX4_count_88) <|
  XPr.cons (xs_iret rfl dX4_count_91) <|
  XPr.cons (xs_bipush dX4_count_92 (by decide +kernel)) <|
  XPr.cons (xs_iret rfl dX4_count_94) <|
  XPr.nil
def pX4_sheet : List (Nat × XOp) := [(0, xo_il 1 1), (1, xo_p1 f_isSheet 4), (4, xo_if_eq 16 7), (7, xo_il 2 8), (8, xo_ic (-1) 9), (9, xo_ic 2 10), (10, xo_p3 f_within 13), (13, xo_if_ne 19 16), (16, xo_ic (-2) 18), (18, xo_iret), (19, xo_il 2 20), (20, xo_ic (-1) 21), (21, xo_ic_ne 37 24), (24, xo_al 0 25), (25, xo_get 4 7 28), (28, xo_il 1 29), (29, xo_aald 3 30), (30, xo_ic (-1) 31), (31, xo_ic 0 32), (32, xo_callV yX1_becomes cX1_becomes 4 none 2 1 35), (35, xo_ic 1 36), (36, xo_iret), (37, xo_il 3 38), (38, xo_ic 40 40), (40, xo_ic_le 46 43), (43, xo_ic (-2) 45), (45, xo_iret), (46, xo_il 3 47), (47, xo_if_ge 53 50), (50, xo_ic (-14) 52), (52, xo_iret), (53, xo_al 0 54), (54, xo_get 4 7 57), (57, xo_il 1 58), (58, xo_aald 3 59), (59, xo_il 2 60), (60, xo_il 3 61), (61, xo_callV yX1_becomes cX1_becomes 4 none 2 1 64), (64, xo_ic 1 65), (65, xo_iret)]
theorem sX4_sheet : XPr RX4 cX4_sheet 4 (some .int) 10 pX4_sheet :=
  XPr.cons (xs_iload_n dX4_sheet_0 rfl) <|
  XPr.cons (xs_p1 (xs_callS gw_620 gw_621 gw_72 gw_622 (by decide +kernel) (Nat.le_of_ble_eq_true rfl) dX4_sheet_1) c_X4_isSheet (Nat.le_of_ble_eq_true rfl)) <|
  XPr.cons (xs_if_eq dX4_sheet_4 (by decide +kernel)) <|
  XPr.cons (xs_iload_n dX4_sheet_7 rfl) <|
  XPr.cons (xs_iconst dX4_sheet_8 (by decide +kernel)) <|
  XPr.cons (xs_iconst dX4_sheet_9 (by decide +kernel)) <|
  XPr.cons (xs_p3 (xs_callS gw_258 gw_259 gw_72 gw_260 (by decide +kernel) (Nat.le_of_ble_eq_true rfl) dX4_sheet_10) c_X4_within (Nat.le_of_ble_eq_true rfl)) <|
  XPr.cons (xs_if_ne dX4_sheet_13 (by decide +kernel)) <|
  XPr.cons (xs_bipush dX4_sheet_16 (by decide +kernel)) <|
  XPr.cons (xs_iret rfl dX4_sheet_18) <|
  XPr.cons (xs_iload_n dX4_sheet_19 rfl) <|
  XPr.cons (xs_iconst dX4_sheet_20 (by decide +kernel)) <|
  XPr.cons (xs_ic_ne dX4_sheet_21 (by decide +kernel)) <|
  XPr.cons (xs_aload_n dX4_sheet_24 rfl) <|
  XPr.cons (xs_get (T := TX4) rfl gX4 (Nat.le_of_ble_eq_true rfl) gw_234 dX4_sheet_25) <|
  XPr.cons (xs_iload_n dX4_sheet_28 rfl) <|
  XPr.cons (xs_aald (C := "WhoBuiltSails$Sheet") (fun _ => rfl) dX4_sheet_29) <|
  XPr.cons (xs_iconst dX4_sheet_30 (by decide +kernel)) <|
  XPr.cons (xs_iconst dX4_sheet_31 (by decide +kernel)) <|
  XPr.cons (xs_callV (T := TX1) rfl gw_647 gw_648 gw_649 gw_76 gw_650 (by decide +kernel) (Nat.le_of_ble_eq_true rfl) dX4_sheet_32) <|
  XPr.cons (xs_iconst dX4_sheet_35 (by decide +kernel)) <|
  XPr.cons (xs_iret rfl dX4_sheet_36) <|
  XPr.cons (xs_iload_n dX4_sheet_37 rfl) <|
  XPr.cons (xs_bipush dX4_sheet_38 (by decide +kernel)) <|
  XPr.cons (xs_ic_le dX4_sheet_40 (by decide +kernel)) <|
  XPr.cons (xs_bipush dX4_sheet_43 (by decide +kernel)) <|
  XPr.cons (xs_iret rfl dX4_sheet_45) <|
  XPr.cons (xs_iload_n dX4_sheet_46 rfl) <|
  XPr.cons (xs_if_ge dX4_sheet_47 (by decide +kernel)) <|
  XPr.cons (xs_bipush dX4_sheet_50 (by decide +kernel)) <|
  XPr.cons (xs_iret rfl dX4_sheet_52) <|
  XPr.cons (xs_aload_n dX4_sheet_53 rfl) <|
  XPr.cons (xs_get (T := TX4) rfl gX4 (Nat.le_of_ble_eq_true rfl) gw_234 dX4_sheet_54) <|
  XPr.cons (xs_iload_n dX4_sheet_57 rfl) <|
  XPr.cons (xs_aald (C := "WhoBuiltSails$Sheet") (fun _ => rfl) dX4_sheet_58) <|
  XPr.cons (xs_iload_n dX4_sheet_59 rfl) <|
  XPr.cons (xs_iload_n dX4_sheet_60 rfl) <|
  XPr.cons (xs_callV (T := TX1) rfl gw_647 gw_648 gw_649 gw_76 gw_650 (by decide +kernel) (Nat.le_of_ble_eq_true rfl) dX4_sheet_61) <|
  XPr.cons (xs_iconst dX4_sheet_64 (by decide +kernel)) <|
  XPr.cons (xs_iret rfl dX4_sheet_65) <|
  XPr.nil
def pX4_cell : List (Nat × XOp) := [(0, xo_il 1 1), (1, xo_p1 f_isSheet 4), (4, xo_if_ne 10 7), (7, xo_ic (-2) 9), (9, xo_iret), (10, xo_al 0 11), (11, xo_get 4 7 14), (14, xo_il 1 15), (15, xo_aald 3 16), (16, xo_as 4 18), (18, xo_al 4 20), (20, xo_callV yX1_isMissing cX1_isMissing 1 (some .boolean) 0 1 23), (23, xo_if_eq 29 26), (26, xo_ic (-11) 28), (28, xo_iret), (29, xo_al 4 31), (31, xo_il 2 32), (32, xo_ic 1 33), (33, xo_callV yX1_holds cX1_holds 3 (some .boolean) 2 1 36), (36, xo_if_ne 42 39), (39, xo_ic (-12) 41), (41, xo_iret), (42, xo_al 4 44), (44, xo_il 2 45), (45, xo_il 3 46), (46, xo_callV yX1_put cX1_put 3 none 2 1 49), (49, xo_ic 1 50), (50, xo_iret)]
theorem sX4_cell : XPr RX4 cX4_cell 5 (some .int) 10 pX4_cell :=
  XPr.cons (xs_iload_n dX4_cell_0 rfl) <|
  XPr.cons (xs_p1 (xs_callS gw_620 gw_621 gw_72 gw_622 (by decide +kernel) (Nat.le_of_ble_eq_true rfl) dX4_cell_1) c_X4_isSheet (Nat.le_of_ble_eq_true rfl)) <|
  XPr.cons (xs_if_ne dX4_cell_4 (by decide +kernel)) <|
  XPr.cons (xs_bipush dX4_cell_7 (by decide +kernel)) <|
  XPr.cons (xs_iret rfl dX4_cell_9) <|
  XPr.cons (xs_aload_n dX4_cell_10 rfl) <|
  XPr.cons (xs_get (T := TX4) rfl gX4 (Nat.le_of_ble_eq_true rfl) gw_234 dX4_cell_11) <|
  XPr.cons (xs_iload_n dX4_cell_14 rfl) <|
  XPr.cons (xs_aald (C := "WhoBuiltSails$Sheet") (fun _ => rfl) dX4_cell_15) <|
  XPr.cons (xs_astore dX4_cell_16 (Nat.le_of_ble_eq_true rfl)) <|
  XPr.cons (xs_aload dX4_cell_18) <|
  XPr.cons (xs_callV (T := TX1) rfl gw_623 gw_624 gw_625 gw_76 gw_626 (by decide +kernel) (Nat.le_of_ble_eq_true rfl) dX4_cell_20) <|
  XPr.cons (xs_if_eq dX4_cell_23 (by decide +kernel)) <|
  XPr.cons (xs_bipush dX4_cell_26 (by decide +kernel)) <|
  XPr.cons (xs_iret rfl dX4_cell_28) <|
  XPr.cons (xs_aload dX4_cell_29) <|
  XPr.cons (xs_iload_n dX4_cell_31 rfl) <|
  XPr.cons (xs_iconst dX4_cell_32 (by decide +kernel)) <|
  XPr.cons (xs_callV (T := TX1) rfl gw_695 gw_658 gw_659 gw_76 gw_660 (by decide +kernel) (Nat.le_of_ble_eq_true rfl) dX4_cell_33) <|
  XPr.cons (xs_if_ne dX4_cell_36 (by decide +kernel)) <|
  XPr.cons (xs_bipush dX4_cell_39 (by decide +kernel)) <|
  XPr.cons (xs_iret rfl dX4_cell_41) <|
  XPr.cons (xs_aload dX4_cell_42) <|
  XPr.cons (xs_iload_n dX4_cell_44 rfl) <|
  XPr.cons (xs_iload_n dX4_cell_45 rfl) <|
  XPr.cons (xs_callV (T := TX1) rfl gw_653 gw_654 gw_655 gw_76 gw_656 (by decide +kernel) (Nat.le_of_ble_eq_true rfl) dX4_cell_46) <|
  XPr.cons (xs_iconst dX4_cell_49 (by decide +kernel)) <|
  XPr.cons (xs_iret rfl dX4_cell_50) <|
  XPr.nil
def pX4_copy_0 : List (Nat × XOp) := [(0, xo_il 1 1), (1, xo_p1 f_isSheet 4), (4, xo_if_eq 14 7), (7, xo_il 3 8), (8, xo_p1 f_isSheet 11), (11, xo_if_ne 17 14), (14, xo_ic (-2) 16), (16, xo_iret), (17, xo_al 0 18), (18, xo_get 4 7 21), (21, xo_il 1 22), (22, xo_aald 3 23), (23, xo_as 6 25), (25, xo_al 0 26), (26, xo_get 4 7 29), (29, xo_il 3 30), (30, xo_aald 3 31), (31, xo_as 7 33), (33, xo_al 6 35), (35, xo_callV yX1_isMissing cX1_isMissing 1 (some .boolean) 0 1 38), (38, xo_if_ne 49 41), (41, xo_al 7 43), (43, xo_callV yX1_isMissing cX1_isMissing 1 (some .boolean) 0 1 46), (46, xo_if_eq 52 49), (49, xo_ic (-11) 51), (51, xo_iret), (52, xo_al 6 54), (54, xo_get 1 0 57), (57, xo_al 7 59), (59, xo_get 1 0 62), (62, xo_ic_eq 68 65), (65, xo_ic (-13) 67), (67, xo_iret), (68, xo_al 6 70), (70, xo_il 2 71), (71, xo_il 5 73), (73, xo_callV yX1_holds cX1_holds 3 (some .boolean) 2 1 76), (76, xo_if_eq 91 79), (79, xo_al 7 81), (81, xo_il 4 83)]
theorem sX4_copy_0 : XPr RX4 cX4_copy 8 (some .int) 10 pX4_copy_0 :=
  XPr.cons (xs_iload_n dX4_copy_0 rfl) <|
  XPr.cons (xs_p1 (xs_callS gw_620 gw_621 gw_72 gw_622 (by decide +kernel) (Nat.le_of_ble_eq_true rfl) dX4_copy_1) c_X4_isSheet (Nat.le_of_ble_eq_true rfl)) <|
  XPr.cons (xs_if_eq dX4_copy_4 (by decide +kernel)) <|
  XPr.cons (xs_iload_n dX4_copy_7 rfl) <|
  XPr.cons (xs_p1 (xs_callS gw_620 gw_621 gw_72 gw_622 (by decide +kernel) (Nat.le_of_ble_eq_true rfl) dX4_copy_8) c_X4_isSheet (Nat.le_of_ble_eq_true rfl)) <|
  XPr.cons (xs_if_ne dX4_copy_11 (by decide +kernel)) <|
  XPr.cons (xs_bipush dX4_copy_14 (by decide +kernel)) <|
  XPr.cons (xs_iret rfl dX4_copy_16) <|
  XPr.cons (xs_aload_n dX4_copy_17 rfl) <|
  XPr.cons (xs_get (T := TX4) rfl gX4 (Nat.le_of_ble_eq_true rfl) gw_234 dX4_copy_18) <|
  XPr.cons (xs_iload_n dX4_copy_21 rfl) <|
  XPr.cons (xs_aald (C := "WhoBuiltSails$Sheet") (fun _ => rfl) dX4_copy_22) <|
  XPr.cons (xs_astore dX4_copy_23 (Nat.le_of_ble_eq_true rfl)) <|
  XPr.cons (xs_aload_n dX4_copy_25 rfl) <|
  XPr.cons (xs_get (T := TX4) rfl gX4 (Nat.le_of_ble_eq_true rfl) gw_234 dX4_copy_26) <|
  XPr.cons (xs_iload_n dX4_copy_29 rfl) <|
  XPr.cons (xs_aald (C := "WhoBuiltSails$Sheet") (fun _ => rfl) dX4_copy_30) <|
  XPr.cons (xs_astore dX4_copy_31 (Nat.le_of_ble_eq_true rfl)) <|
  XPr.cons (xs_aload dX4_copy_33) <|
  XPr.cons (xs_callV (T := TX1) rfl gw_623 gw_624 gw_625 gw_76 gw_626 (by decide +kernel) (Nat.le_of_ble_eq_true rfl) dX4_copy_35) <|
  XPr.cons (xs_if_ne dX4_copy_38 (by decide +kernel)) <|
  XPr.cons (xs_aload dX4_copy_41) <|
  XPr.cons (xs_callV (T := TX1) rfl gw_623 gw_624 gw_625 gw_76 gw_626 (by decide +kernel) (Nat.le_of_ble_eq_true rfl) dX4_copy_43) <|
  XPr.cons (xs_if_eq dX4_copy_46 (by decide +kernel)) <|
  XPr.cons (xs_bipush dX4_copy_49 (by decide +kernel)) <|
  XPr.cons (xs_iret rfl dX4_copy_51) <|
  XPr.cons (xs_aload dX4_copy_52) <|
  XPr.cons (xs_get (T := TX1) rfl gX1 (Nat.le_of_ble_eq_true rfl) gw_215 dX4_copy_54) <|
  XPr.cons (xs_aload dX4_copy_57) <|
  XPr.cons (xs_get (T := TX1) rfl gX1 (Nat.le_of_ble_eq_true rfl) gw_215 dX4_copy_59) <|
  XPr.cons (xs_ic_eq dX4_copy_62 (by decide +kernel)) <|
  XPr.cons (xs_bipush dX4_copy_65 (by decide +kernel)) <|
  XPr.cons (xs_iret rfl dX4_copy_67) <|
  XPr.cons (xs_aload dX4_copy_68) <|
  XPr.cons (xs_iload_n dX4_copy_70 rfl) <|
  XPr.cons (xs_iload dX4_copy_71) <|
  XPr.cons (xs_callV (T := TX1) rfl gw_695 gw_658 gw_659 gw_76 gw_660 (by decide +kernel) (Nat.le_of_ble_eq_true rfl) dX4_copy_73) <|
  XPr.cons (xs_if_eq dX4_copy_76 (by decide +kernel)) <|
  XPr.cons (xs_aload dX4_copy_79) <|
  XPr.cons (xs_iload dX4_copy_81) <|
  XPr.nil
def pX4_copy_1 : List (Nat × XOp) := [(83, xo_il 5 85), (85, xo_callV yX1_holds cX1_holds 3 (some .boolean) 2 1 88), (88, xo_if_ne 94 91), (91, xo_ic (-12) 93), (93, xo_iret), (94, xo_al 6 96), (96, xo_get 1 2 99), (99, xo_il 2 100), (100, xo_al 7 102), (102, xo_get 1 2 105), (105, xo_il 4 107), (107, xo_il 5 109), (109, xo_acopy 112), (112, xo_il 5 114), (114, xo_iret)]
theorem sX4_copy_1 : XPr RX4 cX4_copy 8 (some .int) 10 pX4_copy_1 :=
  XPr.cons (xs_iload dX4_copy_83) <|
  XPr.cons (xs_callV (T := TX1) rfl gw_695 gw_658 gw_659 gw_76 gw_660 (by decide +kernel) (Nat.le_of_ble_eq_true rfl) dX4_copy_85) <|
  XPr.cons (xs_if_ne dX4_copy_88 (by decide +kernel)) <|
  XPr.cons (xs_bipush dX4_copy_91 (by decide +kernel)) <|
  XPr.cons (xs_iret rfl dX4_copy_93) <|
  XPr.cons (xs_aload dX4_copy_94) <|
  XPr.cons (xs_get (T := TX1) rfl gX1 (Nat.le_of_ble_eq_true rfl) gw_219 dX4_copy_96) <|
  XPr.cons (xs_iload_n dX4_copy_99 rfl) <|
  XPr.cons (xs_aload dX4_copy_100) <|
  XPr.cons (xs_get (T := TX1) rfl gX1 (Nat.le_of_ble_eq_true rfl) gw_219 dX4_copy_102) <|
  XPr.cons (xs_iload dX4_copy_105) <|
  XPr.cons (xs_iload dX4_copy_107) <|
  XPr.cons (xs_acopy gw_700 gw_561 gw_560 gw_84 dX4_copy_109) <|
  XPr.cons (xs_iload dX4_copy_112) <|
  XPr.cons (xs_iret rfl dX4_copy_114) <|
  XPr.nil
def pX4_copy : List (Nat × XOp) := pX4_copy_0 ++ pX4_copy_1
theorem sX4_copy : XPr RX4 cX4_copy 8 (some .int) 10 pX4_copy := (sX4_copy_0).app sX4_copy_1
def pX4_gang_0 : List (Nat × XOp) := [(0, xo_il 1 1), (1, xo_p1 f_isSheet 4), (4, xo_if_eq 26 7), (7, xo_il 2 8), (8, xo_ic 0 9), (9, xo_ic 2 10), (10, xo_p3 f_within 13), (13, xo_if_eq 26 16), (16, xo_il 4 18), (18, xo_ic 0 19), (19, xo_ic 5 20), (20, xo_p3 f_within 23), (23, xo_if_ne 29 26), (26, xo_ic (-2) 28), (28, xo_iret), (29, xo_al 0 30), (30, xo_get 4 7 33), (33, xo_il 1 34), (34, xo_aald 3 35), (35, xo_as 5 37), (37, xo_al 5 39), (39, xo_callV yX1_isMissing cX1_isMissing 1 (some .boolean) 0 1 42), (42, xo_if_eq 48 45), (45, xo_ic (-11) 47), (47, xo_iret), (48, xo_al 5 50), (50, xo_get 1 0 53), (53, xo_il 2 54), (54, xo_ic_eq 60 57), (57, xo_ic (-13) 59), (59, xo_iret), (60, xo_ic 0 61), (61, xo_is 6 63), (63, xo_il 3 64), (64, xo_is 7 66), (66, xo_ic 0 67), (67, xo_is 8 69), (69, xo_il 8 71), (71, xo_il 4 73), (73, xo_ic_ge 137 76)]
theorem sX4_gang_0 : XPr RX4 cX4_gang 9 (some .int) 10 pX4_gang_0 :=
  XPr.cons (xs_iload_n dX4_gang_0 rfl) <|
  XPr.cons (xs_p1 (xs_callS gw_620 gw_621 gw_72 gw_622 (by decide +kernel) (Nat.le_of_ble_eq_true rfl) dX4_gang_1) c_X4_isSheet (Nat.le_of_ble_eq_true rfl)) <|
  XPr.cons (xs_if_eq dX4_gang_4 (by decide +kernel)) <|
  XPr.cons (xs_iload_n dX4_gang_7 rfl) <|
  XPr.cons (xs_iconst dX4_gang_8 (by decide +kernel)) <|
  XPr.cons (xs_iconst dX4_gang_9 (by decide +kernel)) <|
  XPr.cons (xs_p3 (xs_callS gw_258 gw_259 gw_72 gw_260 (by decide +kernel) (Nat.le_of_ble_eq_true rfl) dX4_gang_10) c_X4_within (Nat.le_of_ble_eq_true rfl)) <|
  XPr.cons (xs_if_eq dX4_gang_13 (by decide +kernel)) <|
  XPr.cons (xs_iload dX4_gang_16) <|
  XPr.cons (xs_iconst dX4_gang_18 (by decide +kernel)) <|
  XPr.cons (xs_iconst dX4_gang_19 (by decide +kernel)) <|
  XPr.cons (xs_p3 (xs_callS gw_258 gw_259 gw_72 gw_260 (by decide +kernel) (Nat.le_of_ble_eq_true rfl) dX4_gang_20) c_X4_within (Nat.le_of_ble_eq_true rfl)) <|
  XPr.cons (xs_if_ne dX4_gang_23 (by decide +kernel)) <|
  XPr.cons (xs_bipush dX4_gang_26 (by decide +kernel)) <|
  XPr.cons (xs_iret rfl dX4_gang_28) <|
  XPr.cons (xs_aload_n dX4_gang_29 rfl) <|
  XPr.cons (xs_get (T := TX4) rfl gX4 (Nat.le_of_ble_eq_true rfl) gw_234 dX4_gang_30) <|
  XPr.cons (xs_iload_n dX4_gang_33 rfl) <|
  XPr.cons (xs_aald (C := "WhoBuiltSails$Sheet") (fun _ => rfl) dX4_gang_34) <|
  XPr.cons (xs_astore dX4_gang_35 (Nat.le_of_ble_eq_true rfl)) <|
  XPr.cons (xs_aload dX4_gang_37) <|
  XPr.cons (xs_callV (T := TX1) rfl gw_623 gw_624 gw_625 gw_76 gw_626 (by decide +kernel) (Nat.le_of_ble_eq_true rfl) dX4_gang_39) <|
  XPr.cons (xs_if_eq dX4_gang_42 (by decide +kernel)) <|
  XPr.cons (xs_bipush dX4_gang_45 (by decide +kernel)) <|
  XPr.cons (xs_iret rfl dX4_gang_47) <|
  XPr.cons (xs_aload dX4_gang_48) <|
  XPr.cons (xs_get (T := TX1) rfl gX1 (Nat.le_of_ble_eq_true rfl) gw_215 dX4_gang_50) <|
  XPr.cons (xs_iload_n dX4_gang_53 rfl) <|
  XPr.cons (xs_ic_eq dX4_gang_54 (by decide +kernel)) <|
  XPr.cons (xs_bipush dX4_gang_57 (by decide +kernel)) <|
  XPr.cons (xs_iret rfl dX4_gang_59) <|
  XPr.cons (xs_iconst dX4_gang_60 (by decide +kernel)) <|
  XPr.cons (xs_istore dX4_gang_61 (Nat.le_of_ble_eq_true rfl)) <|
  XPr.cons (xs_iload_n dX4_gang_63 rfl) <|
  XPr.cons (xs_istore dX4_gang_64 (Nat.le_of_ble_eq_true rfl)) <|
  XPr.cons (xs_iconst dX4_gang_66 (by decide +kernel)) <|
  XPr.cons (xs_istore dX4_gang_67 (Nat.le_of_ble_eq_true rfl)) <|
  XPr.cons (xs_iload dX4_gang_69) <|
  XPr.cons (xs_iload dX4_gang_71) <|
  XPr.cons (xs_ic_ge dX4_gang_73 (by decide +kernel)) <|
  XPr.nil
def pX4_gang_1 : List (Nat × XOp) := [(76, xo_al 5 78), (78, xo_il 7 80), (80, xo_ic 3 81), (81, xo_callV yX1_holds cX1_holds 3 (some .boolean) 2 1 84), (84, xo_if_ne 90 87), (87, xo_ic (-12) 89), (89, xo_iret), (90, xo_al 0 91), (91, xo_al 5 93), (93, xo_get 1 2 96), (96, xo_il 7 98), (98, xo_iald 99), (99, xo_al 5 101), (101, xo_get 1 2 104), (104, xo_il 7 106), (106, xo_ic 1 107), (107, xo_iadd 108), (108, xo_iald 109), (109, xo_al 5 111), (111, xo_get 1 2 114), (114, xo_il 7 116), (116, xo_ic 2 117), (117, xo_iadd 118), (118, xo_iald 119), (119, xo_callV yX4_wright cX4_wright 4 (some .int) 3 4 122), (122, xo_if_lt 128 125), (125, xo_inc 6 1 128), (128, xo_inc 7 3 131), (131, xo_inc 8 1 134), (134, xo_goto 69), (137, xo_il 6 139), (139, xo_iret)]
theorem sX4_gang_1 : XPr RX4 cX4_gang 9 (some .int) 10 pX4_gang_1 :=
  XPr.cons (xs_aload dX4_gang_76) <|
  XPr.cons (xs_iload dX4_gang_78) <|
  XPr.cons (xs_iconst dX4_gang_80 (by decide +kernel)) <|
  XPr.cons (xs_callV (T := TX1) rfl gw_695 gw_658 gw_659 gw_76 gw_660 (by decide +kernel) (Nat.le_of_ble_eq_true rfl) dX4_gang_81) <|
  XPr.cons (xs_if_ne dX4_gang_84 (by decide +kernel)) <|
  XPr.cons (xs_bipush dX4_gang_87 (by decide +kernel)) <|
  XPr.cons (xs_iret rfl dX4_gang_89) <|
  XPr.cons (xs_aload_n dX4_gang_90 rfl) <|
  XPr.cons (xs_aload dX4_gang_91) <|
  XPr.cons (xs_get (T := TX1) rfl gX1 (Nat.le_of_ble_eq_true rfl) gw_219 dX4_gang_93) <|
  XPr.cons (xs_iload dX4_gang_96) <|
  XPr.cons (xs_iald dX4_gang_98) <|
  XPr.cons (xs_aload dX4_gang_99) <|
  XPr.cons (xs_get (T := TX1) rfl gX1 (Nat.le_of_ble_eq_true rfl) gw_219 dX4_gang_101) <|
  XPr.cons (xs_iload dX4_gang_104) <|
  XPr.cons (xs_iconst dX4_gang_106 (by decide +kernel)) <|
  XPr.cons (xs_iadd dX4_gang_107) <|
  XPr.cons (xs_iald dX4_gang_108) <|
  XPr.cons (xs_aload dX4_gang_109) <|
  XPr.cons (xs_get (T := TX1) rfl gX1 (Nat.le_of_ble_eq_true rfl) gw_219 dX4_gang_111) <|
  XPr.cons (xs_iload dX4_gang_114) <|
  XPr.cons (xs_iconst dX4_gang_116 (by decide +kernel)) <|
  XPr.cons (xs_iadd dX4_gang_117) <|
  XPr.cons (xs_iald dX4_gang_118) <|
  XPr.cons (xs_callV (T := TX4) rfl gw_705 gw_329 gw_330 gw_72 gw_331 (by decide +kernel) (Nat.le_of_ble_eq_true rfl) dX4_gang_119) <|
  XPr.cons (xs_if_lt dX4_gang_122 (by decide +kernel)) <|
  XPr.cons (xs_iinc dX4_gang_125 (by decide +kernel) (Nat.le_of_ble_eq_true rfl)) <|
  XPr.cons (xs_iinc dX4_gang_128 (by decide +kernel) (Nat.le_of_ble_eq_true rfl)) <|
  XPr.cons (xs_iinc dX4_gang_131 (by decide +kernel) (Nat.le_of_ble_eq_true rfl)) <|
  XPr.cons (xs_goto dX4_gang_134 (by decide +kernel)) <|
  XPr.cons (xs_iload dX4_gang_137) <|
  XPr.cons (xs_iret rfl dX4_gang_139) <|
  XPr.nil
def pX4_gang : List (Nat × XOp) := pX4_gang_0 ++ pX4_gang_1
theorem sX4_gang : XPr RX4 cX4_gang 9 (some .int) 10 pX4_gang := (sX4_gang_0).app sX4_gang_1
def pX4_taken_0 : List (Nat × XOp) := [(0, xo_il 2 1), (1, xo_ic 0 2), (2, xo_ic 5 3), (3, xo_p3 f_within 6), (6, xo_if_ne 12 9), (9, xo_ic (-2) 11), (11, xo_iret), (12, xo_al 0 13), (13, xo_get 4 3 16), (16, xo_il 1 17), (17, xo_callV yX2_has cX2_has 2 (some .boolean) 1 2 20), (20, xo_if_ne 26 23), (23, xo_ic (-11) 25), (25, xo_iret), (26, xo_al 0 27), (27, xo_get 4 3 30), (30, xo_get 2 3 33), (33, xo_il 1 34), (34, xo_iald 35), (35, xo_is 3 36), (36, xo_ic 0 37), (37, xo_is 4 39), (39, xo_il 4 41), (41, xo_ic 6 43), (43, xo_ic_ge 82 46), (46, xo_il 3 47), (47, xo_ic 0 48), (48, xo_ic 5 49), (49, xo_p3 f_within 52), (52, xo_if_eq 82 55), (55, xo_il 3 56), (56, xo_il 2 57), (57, xo_ic_ne 70 60), (60, xo_al 0 61), (61, xo_get 4 3 64), (64, xo_get 2 4 67), (67, xo_il 1 68), (68, xo_iald 69), (69, xo_iret), (70, xo_ref 1000001 73)]
theorem sX4_taken_0 : XPr RX4 cX4_taken 5 (some .int) 10 pX4_taken_0 :=
  XPr.cons (xs_iload_n dX4_taken_0 rfl) <|
  XPr.cons (xs_iconst dX4_taken_1 (by decide +kernel)) <|
  XPr.cons (xs_iconst dX4_taken_2 (by decide +kernel)) <|
  XPr.cons (xs_p3 (xs_callS gw_258 gw_259 gw_72 gw_260 (by decide +kernel) (Nat.le_of_ble_eq_true rfl) dX4_taken_3) c_X4_within (Nat.le_of_ble_eq_true rfl)) <|
  XPr.cons (xs_if_ne dX4_taken_6 (by decide +kernel)) <|
  XPr.cons (xs_bipush dX4_taken_9 (by decide +kernel)) <|
  XPr.cons (xs_iret rfl dX4_taken_11) <|
  XPr.cons (xs_aload_n dX4_taken_12 rfl) <|
  XPr.cons (xs_get (T := TX4) rfl gX4 (Nat.le_of_ble_eq_true rfl) gw_230 dX4_taken_13) <|
  XPr.cons (xs_iload_n dX4_taken_16 rfl) <|
  XPr.cons (xs_callV (T := TX2) rfl gw_282 gw_283 gw_284 gw_75 gw_285 (by decide +kernel) (Nat.le_of_ble_eq_true rfl) dX4_taken_17) <|
  XPr.cons (xs_if_ne dX4_taken_20 (by decide +kernel)) <|
  XPr.cons (xs_bipush dX4_taken_23 (by decide +kernel)) <|
  XPr.cons (xs_iret rfl dX4_taken_25) <|
  XPr.cons (xs_aload_n dX4_taken_26 rfl) <|
  XPr.cons (xs_get (T := TX4) rfl gX4 (Nat.le_of_ble_eq_true rfl) gw_230 dX4_taken_27) <|
  XPr.cons (xs_get (T := TX2) rfl gX2 (Nat.le_of_ble_eq_true rfl) gw_166 dX4_taken_30) <|
  XPr.cons (xs_iload_n dX4_taken_33 rfl) <|
  XPr.cons (xs_iald dX4_taken_34) <|
  XPr.cons (xs_istore_n dX4_taken_35 rfl (Nat.le_of_ble_eq_true rfl)) <|
  XPr.cons (xs_iconst dX4_taken_36 (by decide +kernel)) <|
  XPr.cons (xs_istore dX4_taken_37 (Nat.le_of_ble_eq_true rfl)) <|
  XPr.cons (xs_iload dX4_taken_39) <|
  XPr.cons (xs_bipush dX4_taken_41 (by decide +kernel)) <|
  XPr.cons (xs_ic_ge dX4_taken_43 (by decide +kernel)) <|
  XPr.cons (xs_iload_n dX4_taken_46 rfl) <|
  XPr.cons (xs_iconst dX4_taken_47 (by decide +kernel)) <|
  XPr.cons (xs_iconst dX4_taken_48 (by decide +kernel)) <|
  XPr.cons (xs_p3 (xs_callS gw_258 gw_259 gw_72 gw_260 (by decide +kernel) (Nat.le_of_ble_eq_true rfl) dX4_taken_49) c_X4_within (Nat.le_of_ble_eq_true rfl)) <|
  XPr.cons (xs_if_eq dX4_taken_52 (by decide +kernel)) <|
  XPr.cons (xs_iload_n dX4_taken_55 rfl) <|
  XPr.cons (xs_iload_n dX4_taken_56 rfl) <|
  XPr.cons (xs_ic_ne dX4_taken_57 (by decide +kernel)) <|
  XPr.cons (xs_aload_n dX4_taken_60 rfl) <|
  XPr.cons (xs_get (T := TX4) rfl gX4 (Nat.le_of_ble_eq_true rfl) gw_230 dX4_taken_61) <|
  XPr.cons (xs_get (T := TX2) rfl gX2 (Nat.le_of_ble_eq_true rfl) gw_168 dX4_taken_64) <|
  XPr.cons (xs_iload_n dX4_taken_67 rfl) <|
  XPr.cons (xs_iald dX4_taken_68) <|
  XPr.cons (xs_iret rfl dX4_taken_69) <|
  XPr.cons (xs_gets (C := RX4) (n := "ABOVE") (d := "[I") (fun E ad A s g => g.2.2.1.1) gw_710 dX4_taken_70) <|
  XPr.nil
def pX4_taken_1 : List (Nat × XOp) := [(73, xo_il 3 74), (74, xo_iald 75), (75, xo_is 3 76), (76, xo_inc 4 1 79), (79, xo_goto 39), (82, xo_ic (-13) 84), (84, xo_iret)]
theorem sX4_taken_1 : XPr RX4 cX4_taken 5 (some .int) 10 pX4_taken_1 :=
  XPr.cons (xs_iload_n dX4_taken_73 rfl) <|
  XPr.cons (xs_iald dX4_taken_74) <|
  XPr.cons (xs_istore_n dX4_taken_75 rfl (Nat.le_of_ble_eq_true rfl)) <|
  XPr.cons (xs_iinc dX4_taken_76 (by decide +kernel) (Nat.le_of_ble_eq_true rfl)) <|
  XPr.cons (xs_goto dX4_taken_79 (by decide +kernel)) <|
  XPr.cons (xs_bipush dX4_taken_82 (by decide +kernel)) <|
  XPr.cons (xs_iret rfl dX4_taken_84) <|
  XPr.nil
def pX4_taken : List (Nat × XOp) := pX4_taken_0 ++ pX4_taken_1
theorem sX4_taken : XPr RX4 cX4_taken 5 (some .int) 10 pX4_taken := (sX4_taken_0).app sX4_taken_1
def pX4_isText : List (Nat × XOp) := [(0, xo_il 1 1), (1, xo_ic 0 2), (2, xo_al 0 3), (3, xo_get 4 1 6), (6, xo_ic 1 7), (7, xo_isub 8), (8, xo_p3 f_within 11), (11, xo_zret)]
theorem sX4_isText : XPr RX4 cX4_isText 2 (some .boolean) 10 pX4_isText :=
  XPr.cons (xs_iload_n dX4_isText_0 rfl) <|
  XPr.cons (xs_iconst dX4_isText_1 (by decide +kernel)) <|
  XPr.cons (xs_aload_n dX4_isText_2 rfl) <|
  XPr.cons (xs_get (T := TX4) rfl gX4 (Nat.le_of_ble_eq_true rfl) gw_228 dX4_isText_3) <|
  XPr.cons (xs_iconst dX4_isText_6 (by decide +kernel)) <|
  XPr.cons (xs_isub dX4_isText_7) <|
  XPr.cons (xs_p3 (xs_callS gw_258 gw_259 gw_72 gw_260 (by decide +kernel) (Nat.le_of_ble_eq_true rfl) dX4_isText_8) c_X4_within (Nat.le_of_ble_eq_true rfl)) <|
  XPr.cons (xs_zret rfl dX4_isText_11) <|
  XPr.nil
def pX4_lowestTerms : List (Nat × XOp) := [(0, xo_ic 1 1), (1, xo_is 3 2), (2, xo_ic 2 3), (3, xo_is 4 5), (5, xo_il 4 7), (7, xo_il 1 8), (8, xo_ic_gt 34 11), (11, xo_il 0 12), (12, xo_il 4 14), (14, xo_irem 15), (15, xo_if_ne 28 18), (18, xo_il 1 19), (19, xo_il 4 21), (21, xo_irem 22), (22, xo_if_ne 28 25), (25, xo_il 4 27), (27, xo_is 3 28), (28, xo_inc 4 1 31), (31, xo_goto 5), (34, xo_il 2 35), (35, xo_if_ne 45 38), (38, xo_il 0 39), (39, xo_il 3 40), (40, xo_idiv 41), (41, xo_i2l 42), (42, xo_goto 49), (45, xo_il 1 46), (46, xo_il 3 47), (47, xo_idiv 48), (48, xo_i2l 49), (49, xo_lret)]
theorem sX4_lowestTerms : XPr RX4 cX4_lowestTerms 5 (some .long) 10 pX4_lowestTerms :=
  XPr.cons (xs_iconst dX4_lowestTerms_0 (by decide +kernel)) <|
  XPr.cons (xs_istore_n dX4_lowestTerms_1 rfl (Nat.le_of_ble_eq_true rfl)) <|
  XPr.cons (xs_iconst dX4_lowestTerms_2 (by decide +kernel)) <|
  XPr.cons (xs_istore dX4_lowestTerms_3 (Nat.le_of_ble_eq_true rfl)) <|
  XPr.cons (xs_iload dX4_lowestTerms_5) <|
  XPr.cons (xs_iload_n dX4_lowestTerms_7 rfl) <|
  XPr.cons (xs_ic_gt dX4_lowestTerms_8 (by decide +kernel)) <|
  XPr.cons (xs_iload_n dX4_lowestTerms_11 rfl) <|
  XPr.cons (xs_iload dX4_lowestTerms_12) <|
  XPr.cons (xs_irem dX4_lowestTerms_14) <|
  XPr.cons (xs_if_ne dX4_lowestTerms_15 (by decide +kernel)) <|
  XPr.cons (xs_iload_n dX4_lowestTerms_18 rfl) <|
  XPr.cons (xs_iload dX4_lowestTerms_19) <|
  XPr.cons (xs_irem dX4_lowestTerms_21) <|
  XPr.cons (xs_if_ne dX4_lowestTerms_22 (by decide +kernel)) <|
  XPr.cons (xs_iload dX4_lowestTerms_25) <|
  XPr.cons (xs_istore_n dX4_lowestTerms_27 rfl (Nat.le_of_ble_eq_true rfl)) <|
  XPr.cons (xs_iinc dX4_lowestTerms_28 (by decide +kernel) (Nat.le_of_ble_eq_true rfl)) <|
  XPr.cons (xs_goto dX4_lowestTerms_31 (by decide +kernel)) <|
  XPr.cons (xs_iload_n dX4_lowestTerms_34 rfl) <|
  XPr.cons (xs_if_ne dX4_lowestTerms_35 (by decide +kernel)) <|
  XPr.cons (xs_iload_n dX4_lowestTerms_38 rfl) <|
  XPr.cons (xs_iload_n dX4_lowestTerms_39 rfl) <|
  XPr.cons (xs_idiv dX4_lowestTerms_40) <|
  XPr.cons (xs_i2l dX4_lowestTerms_41) <|
  XPr.cons (xs_goto dX4_lowestTerms_42 (by decide +kernel)) <|
  XPr.cons (xs_iload_n dX4_lowestTerms_45 rfl) <|
  XPr.cons (xs_iload_n dX4_lowestTerms_46 rfl) <|
  XPr.cons (xs_idiv dX4_lowestTerms_47) <|
  XPr.cons (xs_i2l dX4_lowestTerms_48) <|
  XPr.cons (xs_lret rfl dX4_lowestTerms_49) <|
  XPr.nil
