def pX0_takes : List (Nat × XOp) := [(0, xo_al 0 1), (1, xo_get 0 1 4), (4, xo_ic 160 7), (7, xo_ic_lt 12 10), (10, xo_ic 0 11), (11, xo_zret), (12, xo_al 0 13), (13, xo_get 0 0 16), (16, xo_al 0 17), (17, xo_get 0 1 20), (20, xo_il 1 21), (21, xo_iast 22), (22, xo_al 0 23), (23, xo_dupR 24), (24, xo_get 0 1 27), (27, xo_ic 1 28), (28, xo_iadd 29), (29, xo_putI 0 1 32), (32, xo_ic 1 33), (33, xo_zret)]
theorem sX0_takes : XPr RX0 cX0_takes 2 (some .boolean) 10 pX0_takes :=
  XPr.cons (xs_aload_n dX0_takes_0 rfl) <|
  XPr.cons (xs_get (T := TX0) rfl gX0 (Nat.le_of_ble_eq_true rfl) gw_125 dX0_takes_1) <|
  XPr.cons (xs_sipush dX0_takes_4 (by decide +kernel)) <|
  XPr.cons (xs_ic_lt dX0_takes_7 (by decide +kernel)) <|
  XPr.cons (xs_iconst dX0_takes_10 (by decide +kernel)) <|
  XPr.cons (xs_zret rfl dX0_takes_11) <|
  XPr.cons (xs_aload_n dX0_takes_12 rfl) <|
  XPr.cons (xs_get (T := TX0) rfl gX0 (Nat.le_of_ble_eq_true rfl) gw_124 dX0_takes_13) <|
  XPr.cons (xs_aload_n dX0_takes_16 rfl) <|
  XPr.cons (xs_get (T := TX0) rfl gX0 (Nat.le_of_ble_eq_true rfl) gw_125 dX0_takes_17) <|
  XPr.cons (xs_iload_n dX0_takes_20 rfl) <|
  XPr.cons (xs_iast dX0_takes_21) <|
  XPr.cons (xs_aload_n dX0_takes_22 rfl) <|
  XPr.cons (xs_dupR dX0_takes_23) <|
  XPr.cons (xs_get (T := TX0) rfl gX0 (Nat.le_of_ble_eq_true rfl) gw_125 dX0_takes_24) <|
  XPr.cons (xs_iconst dX0_takes_27 (by decide +kernel)) <|
  XPr.cons (xs_iadd dX0_takes_28) <|
  XPr.cons (xs_putI (T := TX0) rfl gX0 tyX0_ok nmX0 (Nat.le_of_ble_eq_true rfl) gw_125 rfl (by decide +kernel) dX0_takes_29) <|
  XPr.cons (xs_iconst dX0_takes_32 (by decide +kernel)) <|
  XPr.cons (xs_zret rfl dX0_takes_33) <|
  XPr.nil
def pX0_reads_0 : List (Nat × XOp) := [(0, xo_al 0 1), (1, xo_al 1 2), (2, xo_putR 0 8 5), (5, xo_al 0 6), (6, xo_get 0 8 9), (9, xo_callV yX3_clear cX3_clear 1 none 0 3 12), (12, xo_al 0 13), (13, xo_ic 0 14), (14, xo_putI 0 2 17), (17, xo_al 0 18), (18, xo_ic 0 19), (19, xo_putI 0 6 22), (22, xo_al 0 23), (23, xo_ic (-1) 24), (24, xo_putI 0 7 27), (27, xo_al 0 28), (28, xo_callV yX0_next cX0_next 1 none 0 0 31), (31, xo_ic 0 32), (32, xo_is 2 33), (33, xo_il 2 34), (34, xo_ic 2 35), (35, xo_ic_gt 70 38), (38, xo_al 0 39), (39, xo_ic 6 41), (41, xo_il 2 42), (42, xo_iadd 43), (43, xo_callV yX0_needs cX0_needs 2 none 1 0 46), (46, xo_al 0 47), (47, xo_callV yX0_readOr cX0_readOr 2 none 0 0 50), (50, xo_al 0 51), (51, xo_ic 59 53), (53, xo_callV yX0_needs cX0_needs 2 none 1 0 56), (56, xo_al 0 57), (57, xo_get 0 8 60), (60, xo_il 2 61), (61, xo_callV yX3_endHere cX3_endHere 2 none 1 3 64), (64, xo_inc 2 1 67), (67, xo_goto 33), (70, xo_al 0 71), (71, xo_get 0 3 74)]
theorem sX0_reads_0 : XPr RX0 cX0_reads 3 (some .int) 10 pX0_reads_0 :=
  XPr.cons (xs_aload_n dX0_reads_0 rfl) <|
  XPr.cons (xs_aload_n dX0_reads_1 rfl) <|
  XPr.cons (xs_putR (C2 := "WhoBuiltSails$Text") (T := TX0) rfl gX0 tyX0_ok nmX0 (Nat.le_of_ble_eq_true rfl) gw_133 rfl (by decide +kernel) dX0_reads_2) <|
  XPr.cons (xs_aload_n dX0_reads_5 rfl) <|
  XPr.cons (xs_get (T := TX0) rfl gX0 (Nat.le_of_ble_eq_true rfl) gw_133 dX0_reads_6) <|
  XPr.cons (xs_callV (T := TX3) rfl gw_366 gw_367 gw_368 gw_73 gw_369 (by decide +kernel) (Nat.le_of_ble_eq_true rfl) dX0_reads_9) <|
  XPr.cons (xs_aload_n dX0_reads_12 rfl) <|
  XPr.cons (xs_iconst dX0_reads_13 (by decide +kernel)) <|
  XPr.cons (xs_putI (T := TX0) rfl gX0 tyX0_ok nmX0 (Nat.le_of_ble_eq_true rfl) gw_127 rfl (by decide +kernel) dX0_reads_14) <|
  XPr.cons (xs_aload_n dX0_reads_17 rfl) <|
  XPr.cons (xs_iconst dX0_reads_18 (by decide +kernel)) <|
  XPr.cons (xs_putI (T := TX0) rfl gX0 tyX0_ok nmX0 (Nat.le_of_ble_eq_true rfl) gw_131 rfl (by decide +kernel) dX0_reads_19) <|
  XPr.cons (xs_aload_n dX0_reads_22 rfl) <|
  XPr.cons (xs_iconst dX0_reads_23 (by decide +kernel)) <|
  XPr.cons (xs_putI (T := TX0) rfl gX0 tyX0_ok nmX0 (Nat.le_of_ble_eq_true rfl) gw_132 rfl (by decide +kernel) dX0_reads_24) <|
  XPr.cons (xs_aload_n dX0_reads_27 rfl) <|
  XPr.cons (xs_callV (T := TX0) rfl gw_370 gw_372 gw_3 gw_74 gw_373 (by decide +kernel) (Nat.le_of_ble_eq_true rfl) dX0_reads_28) <|
  XPr.cons (xs_iconst dX0_reads_31 (by decide +kernel)) <|
  XPr.cons (xs_istore_n dX0_reads_32 rfl (Nat.le_of_ble_eq_true rfl)) <|
  XPr.cons (xs_iload_n dX0_reads_33 rfl) <|
  XPr.cons (xs_iconst dX0_reads_34 (by decide +kernel)) <|
  XPr.cons (xs_ic_gt dX0_reads_35 (by decide +kernel)) <|
  XPr.cons (xs_aload_n dX0_reads_38 rfl) <|
  XPr.cons (xs_bipush dX0_reads_39 (by decide +kernel)) <|
  XPr.cons (xs_iload_n dX0_reads_41 rfl) <|
  XPr.cons (xs_iadd dX0_reads_42) <|
  XPr.cons (xs_callV (T := TX0) rfl gw_435 gw_437 gw_6 gw_74 gw_438 (by decide +kernel) (Nat.le_of_ble_eq_true rfl) dX0_reads_43) <|
  XPr.cons (xs_aload_n dX0_reads_46 rfl) <|
  XPr.cons (xs_callV (T := TX0) rfl gw_443 gw_445 gw_8 gw_74 gw_446 (by decide +kernel) (Nat.le_of_ble_eq_true rfl) dX0_reads_47) <|
  XPr.cons (xs_aload_n dX0_reads_50 rfl) <|
  XPr.cons (xs_bipush dX0_reads_51 (by decide +kernel)) <|
  XPr.cons (xs_callV (T := TX0) rfl gw_435 gw_437 gw_6 gw_74 gw_438 (by decide +kernel) (Nat.le_of_ble_eq_true rfl) dX0_reads_53) <|
  XPr.cons (xs_aload_n dX0_reads_56 rfl) <|
  XPr.cons (xs_get (T := TX0) rfl gX0 (Nat.le_of_ble_eq_true rfl) gw_133 dX0_reads_57) <|
  XPr.cons (xs_iload_n dX0_reads_60 rfl) <|
  XPr.cons (xs_callV (T := TX3) rfl gw_487 gw_488 gw_489 gw_73 gw_490 (by decide +kernel) (Nat.le_of_ble_eq_true rfl) dX0_reads_61) <|
  XPr.cons (xs_iinc dX0_reads_64 (by decide +kernel) (Nat.le_of_ble_eq_true rfl)) <|
  XPr.cons (xs_goto dX0_reads_67 (by decide +kernel)) <|
  XPr.cons (xs_aload_n dX0_reads_70 rfl) <|
  XPr.cons (xs_get (T := TX0) rfl gX0 (Nat.le_of_ble_eq_true rfl) gw_128 dX0_reads_71) <|
  XPr.nil
def pX0_reads_1 : List (Nat × XOp) := [(74, xo_ic 13 76), (76, xo_ic_eq 83 79), (79, xo_al 0 80), (80, xo_callV yX0_fails cX0_fails 1 none 0 0 83), (83, xo_al 0 84), (84, xo_get 0 7 87), (87, xo_iret)]
theorem sX0_reads_1 : XPr RX0 cX0_reads 3 (some .int) 10 pX0_reads_1 :=
  XPr.cons (xs_bipush dX0_reads_74 (by decide +kernel)) <|
  XPr.cons (xs_ic_eq dX0_reads_76 (by decide +kernel)) <|
  XPr.cons (xs_aload_n dX0_reads_79 rfl) <|
  XPr.cons (xs_callV (T := TX0) rfl gw_439 gw_441 gw_7 gw_74 gw_442 (by decide +kernel) (Nat.le_of_ble_eq_true rfl) dX0_reads_80) <|
  XPr.cons (xs_aload_n dX0_reads_83 rfl) <|
  XPr.cons (xs_get (T := TX0) rfl gX0 (Nat.le_of_ble_eq_true rfl) gw_132 dX0_reads_84) <|
  XPr.cons (xs_iret rfl dX0_reads_87) <|
  XPr.nil
def pX0_reads : List (Nat × XOp) := pX0_reads_0 ++ pX0_reads_1
theorem sX0_reads : XPr RX0 cX0_reads 3 (some .int) 10 pX0_reads := (sX0_reads_0).app sX0_reads_1
def pX0_fails : List (Nat × XOp) := [(0, xo_al 0 1), (1, xo_get 0 7 4), (4, xo_ic (-1) 5), (5, xo_ic_ne 16 8), (8, xo_al 0 9), (9, xo_al 0 10), (10, xo_get 0 4 13), (13, xo_putI 0 7 16), (16, xo_al 0 17), (17, xo_ic 14 19), (19, xo_putI 0 3 22), (22, xo_vret)]
theorem sX0_fails : XPr RX0 cX0_fails 1 none 10 pX0_fails :=
  XPr.cons (xs_aload_n dX0_fails_0 rfl) <|
  XPr.cons (xs_get (T := TX0) rfl gX0 (Nat.le_of_ble_eq_true rfl) gw_132 dX0_fails_1) <|
  XPr.cons (xs_iconst dX0_fails_4 (by decide +kernel)) <|
  XPr.cons (xs_ic_ne dX0_fails_5 (by decide +kernel)) <|
  XPr.cons (xs_aload_n dX0_fails_8 rfl) <|
  XPr.cons (xs_aload_n dX0_fails_9 rfl) <|
  XPr.cons (xs_get (T := TX0) rfl gX0 (Nat.le_of_ble_eq_true rfl) gw_129 dX0_fails_10) <|
  XPr.cons (xs_putI (T := TX0) rfl gX0 tyX0_ok nmX0 (Nat.le_of_ble_eq_true rfl) gw_132 rfl (by decide +kernel) dX0_fails_13) <|
  XPr.cons (xs_aload_n dX0_fails_16 rfl) <|
  XPr.cons (xs_bipush dX0_fails_17 (by decide +kernel)) <|
  XPr.cons (xs_putI (T := TX0) rfl gX0 tyX0_ok nmX0 (Nat.le_of_ble_eq_true rfl) gw_128 rfl (by decide +kernel) dX0_fails_19) <|
  XPr.cons (xs_vret rfl dX0_fails_22) <|
  XPr.nil
def pX0_needs : List (Nat × XOp) := [(0, xo_al 0 1), (1, xo_get 0 3 4), (4, xo_il 1 5), (5, xo_ic_ne 15 8), (8, xo_al 0 9), (9, xo_callV yX0_next cX0_next 1 none 0 0 12), (12, xo_goto 19), (15, xo_al 0 16), (16, xo_callV yX0_fails cX0_fails 1 none 0 0 19), (19, xo_vret)]
theorem sX0_needs : XPr RX0 cX0_needs 2 none 10 pX0_needs :=
  XPr.cons (xs_aload_n dX0_needs_0 rfl) <|
  XPr.cons (xs_get (T := TX0) rfl gX0 (Nat.le_of_ble_eq_true rfl) gw_128 dX0_needs_1) <|
  XPr.cons (xs_iload_n dX0_needs_4 rfl) <|
  XPr.cons (xs_ic_ne dX0_needs_5 (by decide +kernel)) <|
  XPr.cons (xs_aload_n dX0_needs_8 rfl) <|
  XPr.cons (xs_callV (T := TX0) rfl gw_370 gw_372 gw_3 gw_74 gw_373 (by decide +kernel) (Nat.le_of_ble_eq_true rfl) dX0_needs_9) <|
  XPr.cons (xs_goto dX0_needs_12 (by decide +kernel)) <|
  XPr.cons (xs_aload_n dX0_needs_15 rfl) <|
  XPr.cons (xs_callV (T := TX0) rfl gw_439 gw_441 gw_7 gw_74 gw_442 (by decide +kernel) (Nat.le_of_ble_eq_true rfl) dX0_needs_16) <|
  XPr.cons (xs_vret rfl dX0_needs_19) <|
  XPr.nil
def pX0_readOr : List (Nat × XOp) := [(0, xo_al 0 1), (1, xo_callV yX0_readAnd cX0_readAnd 2 none 0 0 4), (4, xo_ic 0 5), (5, xo_is 1 6), (6, xo_il 1 7), (7, xo_ic 160 10), (10, xo_ic_ge 45 13), (13, xo_al 0 14), (14, xo_get 0 3 17), (17, xo_ic 9 19), (19, xo_ic_ne 45 22), (22, xo_al 0 23), (23, xo_callV yX0_next cX0_next 1 none 0 0 26), (26, xo_al 0 27), (27, xo_callV yX0_readAnd cX0_readAnd 2 none 0 0 30), (30, xo_al 0 31), (31, xo_get 0 8 34), (34, xo_ic (-7) 36), (36, xo_callV yX3_add cX3_add 2 none 1 3 39), (39, xo_inc 1 1 42), (42, xo_goto 6), (45, xo_vret)]
theorem sX0_readOr : XPr RX0 cX0_readOr 2 none 10 pX0_readOr :=
  XPr.cons (xs_aload_n dX0_readOr_0 rfl) <|
  XPr.cons (xs_callV (T := TX0) rfl gw_447 gw_449 gw_9 gw_74 gw_450 (by decide +kernel) (Nat.le_of_ble_eq_true rfl) dX0_readOr_1) <|
  XPr.cons (xs_iconst dX0_readOr_4 (by decide +kernel)) <|
  XPr.cons (xs_istore_n dX0_readOr_5 rfl (Nat.le_of_ble_eq_true rfl)) <|
  XPr.cons (xs_iload_n dX0_readOr_6 rfl) <|
  XPr.cons (xs_sipush dX0_readOr_7 (by decide +kernel)) <|
  XPr.cons (xs_ic_ge dX0_readOr_10 (by decide +kernel)) <|
  XPr.cons (xs_aload_n dX0_readOr_13 rfl) <|
  XPr.cons (xs_get (T := TX0) rfl gX0 (Nat.le_of_ble_eq_true rfl) gw_128 dX0_readOr_14) <|
  XPr.cons (xs_bipush dX0_readOr_17 (by decide +kernel)) <|
  XPr.cons (xs_ic_ne dX0_readOr_19 (by decide +kernel)) <|
  XPr.cons (xs_aload_n dX0_readOr_22 rfl) <|
  XPr.cons (xs_callV (T := TX0) rfl gw_370 gw_372 gw_3 gw_74 gw_373 (by decide +kernel) (Nat.le_of_ble_eq_true rfl) dX0_readOr_23) <|
  XPr.cons (xs_aload_n dX0_readOr_26 rfl) <|
  XPr.cons (xs_callV (T := TX0) rfl gw_447 gw_449 gw_9 gw_74 gw_450 (by decide +kernel) (Nat.le_of_ble_eq_true rfl) dX0_readOr_27) <|
  XPr.cons (xs_aload_n dX0_readOr_30 rfl) <|
  XPr.cons (xs_get (T := TX0) rfl gX0 (Nat.le_of_ble_eq_true rfl) gw_133 dX0_readOr_31) <|
  XPr.cons (xs_bipush dX0_readOr_34 (by decide +kernel)) <|
  XPr.cons (xs_callV (T := TX3) rfl gw_471 gw_472 gw_473 gw_73 gw_474 (by decide +kernel) (Nat.le_of_ble_eq_true rfl) dX0_readOr_36) <|
  XPr.cons (xs_iinc dX0_readOr_39 (by decide +kernel) (Nat.le_of_ble_eq_true rfl)) <|
  XPr.cons (xs_goto dX0_readOr_42 (by decide +kernel)) <|
  XPr.cons (xs_vret rfl dX0_readOr_45) <|
  XPr.nil
def pX0_readAnd : List (Nat × XOp) := [(0, xo_al 0 1), (1, xo_callV yX0_readNot cX0_readNot 1 none 0 0 4), (4, xo_ic 0 5), (5, xo_is 1 6), (6, xo_il 1 7), (7, xo_ic 160 10), (10, xo_ic_ge 45 13), (13, xo_al 0 14), (14, xo_get 0 3 17), (17, xo_ic 10 19), (19, xo_ic_ne 45 22), (22, xo_al 0 23), (23, xo_callV yX0_next cX0_next 1 none 0 0 26), (26, xo_al 0 27), (27, xo_callV yX0_readNot cX0_readNot 1 none 0 0 30), (30, xo_al 0 31), (31, xo_get 0 8 34), (34, xo_ic (-8) 36), (36, xo_callV yX3_add cX3_add 2 none 1 3 39), (39, xo_inc 1 1 42), (42, xo_goto 6), (45, xo_vret)]
theorem sX0_readAnd : XPr RX0 cX0_readAnd 2 none 10 pX0_readAnd :=
  XPr.cons (xs_aload_n dX0_readAnd_0 rfl) <|
  XPr.cons (xs_callV (T := TX0) rfl gw_451 gw_453 gw_10 gw_74 gw_454 (by decide +kernel) (Nat.le_of_ble_eq_true rfl) dX0_readAnd_1) <|
  XPr.cons (xs_iconst dX0_readAnd_4 (by decide +kernel)) <|
  XPr.cons (xs_istore_n dX0_readAnd_5 rfl (Nat.le_of_ble_eq_true rfl)) <|
  XPr.cons (xs_iload_n dX0_readAnd_6 rfl) <|
  XPr.cons (xs_sipush dX0_readAnd_7 (by decide +kernel)) <|
  XPr.cons (xs_ic_ge dX0_readAnd_10 (by decide +kernel)) <|
  XPr.cons (xs_aload_n dX0_readAnd_13 rfl) <|
  XPr.cons (xs_get (T := TX0) rfl gX0 (Nat.le_of_ble_eq_true rfl) gw_128 dX0_readAnd_14) <|
  XPr.cons (xs_bipush dX0_readAnd_17 (by decide +kernel)) <|
  XPr.cons (xs_ic_ne dX0_readAnd_19 (by decide +kernel)) <|
  XPr.cons (xs_aload_n dX0_readAnd_22 rfl) <|
  XPr.cons (xs_callV (T := TX0) rfl gw_370 gw_372 gw_3 gw_74 gw_373 (by decide +kernel) (Nat.le_of_ble_eq_true rfl) dX0_readAnd_23) <|
  XPr.cons (xs_aload_n dX0_readAnd_26 rfl) <|
  XPr.cons (xs_callV (T := TX0) rfl gw_451 gw_453 gw_10 gw_74 gw_454 (by decide +kernel) (Nat.le_of_ble_eq_true rfl) dX0_readAnd_27) <|
  XPr.cons (xs_aload_n dX0_readAnd_30 rfl) <|
  XPr.cons (xs_get (T := TX0) rfl gX0 (Nat.le_of_ble_eq_true rfl) gw_133 dX0_readAnd_31) <|
  XPr.cons (xs_bipush dX0_readAnd_34 (by decide +kernel)) <|
  XPr.cons (xs_callV (T := TX3) rfl gw_471 gw_472 gw_473 gw_73 gw_474 (by decide +kernel) (Nat.le_of_ble_eq_true rfl) dX0_readAnd_36) <|
  XPr.cons (xs_iinc dX0_readAnd_39 (by decide +kernel) (Nat.le_of_ble_eq_true rfl)) <|
  XPr.cons (xs_goto dX0_readAnd_42 (by decide +kernel)) <|
  XPr.cons (xs_vret rfl dX0_readAnd_45) <|
  XPr.nil
def pX0_readNot : List (Nat × XOp) := [(0, xo_al 0 1), (1, xo_get 0 3 4), (4, xo_ic 11 6), (6, xo_ic_eq 16 9), (9, xo_al 0 10), (10, xo_callV yX0_readCompared cX0_readCompared 2 none 0 0 13), (13, xo_goto 54), (16, xo_al 0 17), (17, xo_callV yX0_opens cX0_opens 1 (some .boolean) 0 0 20), (20, xo_if_eq 54 23), (23, xo_al 0 24), (24, xo_callV yX0_readNot cX0_readNot 1 none 0 0 27), (27, xo_al 0 28), (28, xo_get 0 8 31), (31, xo_ic 0 32), (32, xo_callV yX3_add cX3_add 2 none 1 3 35), (35, xo_al 0 36), (36, xo_get 0 8 39), (39, xo_ic (-10) 41), (41, xo_callV yX3_add cX3_add 2 none 1 3 44), (44, xo_al 0 45), (45, xo_dupR 46), (46, xo_get 0 6 49), (49, xo_ic 1 50), (50, xo_isub 51), (51, xo_putI 0 6 54), (54, xo_vret)]
theorem sX0_readNot : XPr RX0 cX0_readNot 1 none 10 pX0_readNot :=
  XPr.cons (xs_aload_n dX0_readNot_0 rfl) <|
  XPr.cons (xs_get (T := TX0) rfl gX0 (Nat.le_of_ble_eq_true rfl) gw_128 dX0_readNot_1) <|
  XPr.cons (xs_bipush dX0_readNot_4 (by decide +kernel)) <|
  XPr.cons (xs_ic_eq dX0_readNot_6 (by decide +kernel)) <|
  XPr.cons (xs_aload_n dX0_readNot_9 rfl) <|
  XPr.cons (xs_callV (T := TX0) rfl gw_455 gw_457 gw_11 gw_74 gw_458 (by decide +kernel) (Nat.le_of_ble_eq_true rfl) dX0_readNot_10) <|
  XPr.cons (xs_goto dX0_readNot_13 (by decide +kernel)) <|
  XPr.cons (xs_aload_n dX0_readNot_16 rfl) <|
  XPr.cons (xs_callV (T := TX0) rfl gw_479 gw_481 gw_16 gw_74 gw_482 (by decide +kernel) (Nat.le_of_ble_eq_true rfl) dX0_readNot_17) <|
  XPr.cons (xs_if_eq dX0_readNot_20 (by decide +kernel)) <|
  XPr.cons (xs_aload_n dX0_readNot_23 rfl) <|
  XPr.cons (xs_callV (T := TX0) rfl gw_451 gw_453 gw_10 gw_74 gw_454 (by decide +kernel) (Nat.le_of_ble_eq_true rfl) dX0_readNot_24) <|
  XPr.cons (xs_aload_n dX0_readNot_27 rfl) <|
  XPr.cons (xs_get (T := TX0) rfl gX0 (Nat.le_of_ble_eq_true rfl) gw_133 dX0_readNot_28) <|
  XPr.cons (xs_iconst dX0_readNot_31 (by decide +kernel)) <|
  XPr.cons (xs_callV (T := TX3) rfl gw_471 gw_472 gw_473 gw_73 gw_474 (by decide +kernel) (Nat.le_of_ble_eq_true rfl) dX0_readNot_32) <|
  XPr.cons (xs_aload_n dX0_readNot_35 rfl) <|
  XPr.cons (xs_get (T := TX0) rfl gX0 (Nat.le_of_ble_eq_true rfl) gw_133 dX0_readNot_36) <|
  XPr.cons (xs_bipush dX0_readNot_39 (by decide +kernel)) <|
  XPr.cons (xs_callV (T := TX3) rfl gw_471 gw_472 gw_473 gw_73 gw_474 (by decide +kernel) (Nat.le_of_ble_eq_true rfl) dX0_readNot_41) <|
  XPr.cons (xs_aload_n dX0_readNot_44 rfl) <|
  XPr.cons (xs_dupR dX0_readNot_45) <|
  XPr.cons (xs_get (T := TX0) rfl gX0 (Nat.le_of_ble_eq_true rfl) gw_131 dX0_readNot_46) <|
  XPr.cons (xs_iconst dX0_readNot_49 (by decide +kernel)) <|
  XPr.cons (xs_isub dX0_readNot_50) <|
  XPr.cons (xs_putI (T := TX0) rfl gX0 tyX0_ok nmX0 (Nat.le_of_ble_eq_true rfl) gw_131 rfl (by decide +kernel) dX0_readNot_51) <|
  XPr.cons (xs_vret rfl dX0_readNot_54) <|
  XPr.nil
def pX0_readCompared : List (Nat × XOp) := [(0, xo_al 0 1), (1, xo_callV yX0_readSum cX0_readSum 3 none 0 0 4), (4, xo_al 0 5), (5, xo_get 0 3 8), (8, xo_ic 60 10), (10, xo_ic_eq 22 13), (13, xo_al 0 14), (14, xo_get 0 3 17), (17, xo_ic 61 19), (19, xo_ic_ne 55 22), (22, xo_al 0 23), (23, xo_get 0 3 26), (26, xo_ic 60 28), (28, xo_ic_ne 36 31), (31, xo_ic (-9) 33), (33, xo_goto 38), (36, xo_ic (-10) 38), (38, xo_is 1 39), (39, xo_al 0 40), (40, xo_callV yX0_next cX0_next 1 none 0 0 43), (43, xo_al 0 44), (44, xo_callV yX0_readSum cX0_readSum 3 none 0 0 47), (47, xo_al 0 48), (48, xo_get 0 8 51), (51, xo_il 1 52), (52, xo_callV yX3_add cX3_add 2 none 1 3 55), (55, xo_vret)]
theorem sX0_readCompared : XPr RX0 cX0_readCompared 2 none 10 pX0_readCompared :=
  XPr.cons (xs_aload_n dX0_readCompared_0 rfl) <|
  XPr.cons (xs_callV (T := TX0) rfl gw_459 gw_461 gw_12 gw_74 gw_462 (by decide +kernel) (Nat.le_of_ble_eq_true rfl) dX0_readCompared_1) <|
  XPr.cons (xs_aload_n dX0_readCompared_4 rfl) <|
  XPr.cons (xs_get (T := TX0) rfl gX0 (Nat.le_of_ble_eq_true rfl) gw_128 dX0_readCompared_5) <|
  XPr.cons (xs_bipush dX0_readCompared_8 (by decide +kernel)) <|
  XPr.cons (xs_ic_eq dX0_readCompared_10 (by decide +kernel)) <|
  XPr.cons (xs_aload_n dX0_readCompared_13 rfl) <|
  XPr.cons (xs_get (T := TX0) rfl gX0 (Nat.le_of_ble_eq_true rfl) gw_128 dX0_readCompared_14) <|
  XPr.cons (xs_bipush dX0_readCompared_17 (by decide +kernel)) <|
  XPr.cons (xs_ic_ne dX0_readCompared_19 (by decide +kernel)) <|
  XPr.cons (xs_aload_n dX0_readCompared_22 rfl) <|
  XPr.cons (xs_get (T := TX0) rfl gX0 (Nat.le_of_ble_eq_true rfl) gw_128 dX0_readCompared_23) <|
  XPr.cons (xs_bipush dX0_readCompared_26 (by decide +kernel)) <|
  XPr.cons (xs_ic_ne dX0_readCompared_28 (by decide +kernel)) <|
  XPr.cons (xs_bipush dX0_readCompared_31 (by decide +kernel)) <|
  XPr.cons (xs_goto dX0_readCompared_33 (by decide +kernel)) <|
  XPr.cons (xs_bipush dX0_readCompared_36 (by decide +kernel)) <|
  XPr.cons (xs_istore_n dX0_readCompared_38 rfl (Nat.le_of_ble_eq_true rfl)) <|
  XPr.cons (xs_aload_n dX0_readCompared_39 rfl) <|
  XPr.cons (xs_callV (T := TX0) rfl gw_370 gw_372 gw_3 gw_74 gw_373 (by decide +kernel) (Nat.le_of_ble_eq_true rfl) dX0_readCompared_40) <|
  XPr.cons (xs_aload_n dX0_readCompared_43 rfl) <|
  XPr.cons (xs_callV (T := TX0) rfl gw_459 gw_461 gw_12 gw_74 gw_462 (by decide +kernel) (Nat.le_of_ble_eq_true rfl) dX0_readCompared_44) <|
  XPr.cons (xs_aload_n dX0_readCompared_47 rfl) <|
  XPr.cons (xs_get (T := TX0) rfl gX0 (Nat.le_of_ble_eq_true rfl) gw_133 dX0_readCompared_48) <|
  XPr.cons (xs_iload_n dX0_readCompared_51 rfl) <|
  XPr.cons (xs_callV (T := TX3) rfl gw_471 gw_472 gw_473 gw_73 gw_474 (by decide +kernel) (Nat.le_of_ble_eq_true rfl) dX0_readCompared_52) <|
  XPr.cons (xs_vret rfl dX0_readCompared_55) <|
  XPr.nil
def pX0_readSum : List (Nat × XOp) := [(0, xo_al 0 1), (1, xo_callV yX0_readTerm cX0_readTerm 2 none 0 0 4), (4, xo_ic 0 5), (5, xo_is 1 6), (6, xo_il 1 7), (7, xo_ic 160 10), (10, xo_ic_ge 70 13), (13, xo_al 0 14), (14, xo_get 0 3 17), (17, xo_ic 43 19), (19, xo_ic_eq 31 22), (22, xo_al 0 23), (23, xo_get 0 3 26), (26, xo_ic 45 28), (28, xo_ic_ne 70 31), (31, xo_al 0 32), (32, xo_get 0 3 35), (35, xo_ic 43 37), (37, xo_ic_ne 45 40), (40, xo_ic (-11) 42), (42, xo_goto 47), (45, xo_ic (-12) 47), (47, xo_is 2 48), (48, xo_al 0 49), (49, xo_callV yX0_next cX0_next 1 none 0 0 52), (52, xo_al 0 53), (53, xo_callV yX0_readTerm cX0_readTerm 2 none 0 0 56), (56, xo_al 0 57), (57, xo_get 0 8 60), (60, xo_il 2 61), (61, xo_callV yX3_add cX3_add 2 none 1 3 64), (64, xo_inc 1 1 67), (67, xo_goto 6), (70, xo_vret)]
theorem sX0_readSum : XPr RX0 cX0_readSum 3 none 10 pX0_readSum :=
  XPr.cons (xs_aload_n dX0_readSum_0 rfl) <|
  XPr.cons (xs_callV (T := TX0) rfl gw_463 gw_465 gw_13 gw_74 gw_466 (by decide +kernel) (Nat.le_of_ble_eq_true rfl) dX0_readSum_1) <|
  XPr.cons (xs_iconst dX0_readSum_4 (by decide +kernel)) <|
  XPr.cons (xs_istore_n dX0_readSum_5 rfl (Nat.le_of_ble_eq_true rfl)) <|
  XPr.cons (xs_iload_n dX0_readSum_6 rfl) <|
  XPr.cons (xs_sipush dX0_readSum_7 (by decide +kernel)) <|
  XPr.cons (xs_ic_ge dX0_readSum_10 (by decide +kernel)) <|
  XPr.cons (xs_aload_n dX0_readSum_13 rfl) <|
  XPr.cons (xs_get (T := TX0) rfl gX0 (Nat.le_of_ble_eq_true rfl) gw_128 dX0_readSum_14) <|
  XPr.cons (xs_bipush dX0_readSum_17 (by decide +kernel)) <|
  XPr.cons (xs_ic_eq dX0_readSum_19 (by decide +kernel)) <|
  XPr.cons (xs_aload_n dX0_readSum_22 rfl) <|
  XPr.cons (xs_get (T := TX0) rfl gX0 (Nat.le_of_ble_eq_true rfl) gw_128 dX0_readSum_23) <|
  XPr.cons (xs_bipush dX0_readSum_26 (by decide +kernel)) <|
  XPr.cons (xs_ic_ne dX0_readSum_28 (by decide +kernel)) <|
  XPr.cons (xs_aload_n dX0_readSum_31 rfl) <|
  XPr.cons (xs_get (T := TX0) rfl gX0 (Nat.le_of_ble_eq_true rfl) gw_128 dX0_readSum_32) <|
  XPr.cons (xs_bipush dX0_readSum_35 (by decide +kernel)) <|
  XPr.cons (xs_ic_ne dX0_readSum_37 (by decide +kernel)) <|
  XPr.cons (xs_bipush dX0_readSum_40 (by decide +kernel)) <|
  XPr.cons (xs_goto dX0_readSum_42 (by decide +kernel)) <|
  XPr.cons (xs_bipush dX0_readSum_45 (by decide +kernel)) <|
  XPr.cons (xs_istore_n dX0_readSum_47 rfl (Nat.le_of_ble_eq_true rfl)) <|
  XPr.cons (xs_aload_n dX0_readSum_48 rfl) <|
  XPr.cons (xs_callV (T := TX0) rfl gw_370 gw_372 gw_3 gw_74 gw_373 (by decide +kernel) (Nat.le_of_ble_eq_true rfl) dX0_readSum_49) <|
  XPr.cons (xs_aload_n dX0_readSum_52 rfl) <|
  XPr.cons (xs_callV (T := TX0) rfl gw_463 gw_465 gw_13 gw_74 gw_466 (by decide +kernel) (Nat.le_of_ble_eq_true rfl) dX0_readSum_53) <|
  XPr.cons (xs_aload_n dX0_readSum_56 rfl) <|
  XPr.cons (xs_get (T := TX0) rfl gX0 (Nat.le_of_ble_eq_true rfl) gw_133 dX0_readSum_57) <|
  XPr.cons (xs_iload_n dX0_readSum_60 rfl) <|
  XPr.cons (xs_callV (T := TX3) rfl gw_471 gw_472 gw_473 gw_73 gw_474 (by decide +kernel) (Nat.le_of_ble_eq_true rfl) dX0_readSum_61) <|
  XPr.cons (xs_iinc dX0_readSum_64 (by decide +kernel) (Nat.le_of_ble_eq_true rfl)) <|
  XPr.cons (xs_goto dX0_readSum_67 (by decide +kernel)) <|
  XPr.cons (xs_vret rfl dX0_readSum_70) <|
  XPr.nil
def pX0_readTerm : List (Nat × XOp) := [(0, xo_al 0 1), (1, xo_callV yX0_readOne cX0_readOne 1 none 0 0 4), (4, xo_ic 0 5), (5, xo_is 1 6), (6, xo_il 1 7), (7, xo_ic 160 10), (10, xo_ic_ge 45 13), (13, xo_al 0 14), (14, xo_get 0 3 17), (17, xo_ic 42 19), (19, xo_ic_ne 45 22), (22, xo_al 0 23), (23, xo_callV yX0_next cX0_next 1 none 0 0 26), (26, xo_al 0 27), (27, xo_callV yX0_readOne cX0_readOne 1 none 0 0 30), (30, xo_al 0 31), (31, xo_get 0 8 34), (34, xo_ic (-13) 36), (36, xo_callV yX3_add cX3_add 2 none 1 3 39), (39, xo_inc 1 1 42), (42, xo_goto 6), (45, xo_vret)]
theorem sX0_readTerm : XPr RX0 cX0_readTerm 2 none 10 pX0_readTerm :=
  XPr.cons (xs_aload_n dX0_readTerm_0 rfl) <|
  XPr.cons (xs_callV (T := TX0) rfl gw_467 gw_469 gw_14 gw_74 gw_470 (by decide +kernel) (Nat.le_of_ble_eq_true rfl) dX0_readTerm_1) <|
  XPr.cons (xs_iconst dX0_readTerm_4 (by decide +kernel)) <|
  XPr.cons (xs_istore_n dX0_readTerm_5 rfl (Nat.le_of_ble_eq_true rfl)) <|
  XPr.cons (xs_iload_n dX0_readTerm_6 rfl) <|
  XPr.cons (xs_sipush dX0_readTerm_7 (by decide +kernel)) <|
  XPr.cons (xs_ic_ge dX0_readTerm_10 (by decide +kernel)) <|
  XPr.cons (xs_aload_n dX0_readTerm_13 rfl) <|
  XPr.cons (xs_get (T := TX0) rfl gX0 (Nat.le_of_ble_eq_true rfl) gw_128 dX0_readTerm_14) <|
  XPr.cons (xs_bipush dX0_readTerm_17 (by decide +kernel)) <|
  XPr.cons (xs_ic_ne dX0_readTerm_19 (by decide +kernel)) <|
  XPr.cons (xs_aload_n dX0_readTerm_22 rfl) <|
  XPr.cons (xs_callV (T := TX0) rfl gw_370 gw_372 gw_3 gw_74 gw_373 (by decide +kernel) (Nat.le_of_ble_eq_true rfl) dX0_readTerm_23) <|
  XPr.cons (xs_aload_n dX0_readTerm_26 rfl) <|
  XPr.cons (xs_callV (T := TX0) rfl gw_467 gw_469 gw_14 gw_74 gw_470 (by decide +kernel) (Nat.le_of_ble_eq_true rfl) dX0_readTerm_27) <|
  XPr.cons (xs_aload_n dX0_readTerm_30 rfl) <|
  XPr.cons (xs_get (T := TX0) rfl gX0 (Nat.le_of_ble_eq_true rfl) gw_133 dX0_readTerm_31) <|
  XPr.cons (xs_bipush dX0_readTerm_34 (by decide +kernel)) <|
  XPr.cons (xs_callV (T := TX3) rfl gw_471 gw_472 gw_473 gw_73 gw_474 (by decide +kernel) (Nat.le_of_ble_eq_true rfl) dX0_readTerm_36) <|
  XPr.cons (xs_iinc dX0_readTerm_39 (by decide +kernel) (Nat.le_of_ble_eq_true rfl)) <|
  XPr.cons (xs_goto dX0_readTerm_42 (by decide +kernel)) <|
  XPr.cons (xs_vret rfl dX0_readTerm_45) <|
  XPr.nil
def pX0_readOne_0 : List (Nat × XOp) := [(0, xo_al 0 1), (1, xo_get 0 3 4), (4, xo_ic 12 6), (6, xo_ic_ne 27 9), (9, xo_al 0 10), (10, xo_get 0 8 13), (13, xo_al 0 14), (14, xo_get 0 5 17), (17, xo_callV yX3_add cX3_add 2 none 1 3 20), (20, xo_al 0 21), (21, xo_callV yX0_next cX0_next 1 none 0 0 24), (24, xo_goto 95), (27, xo_al 0 28), (28, xo_get 0 3 31), (31, xo_ic 0 32), (32, xo_ic 5 33), (33, xo_p3 f_within 36), (36, xo_if_eq 59 39), (39, xo_al 0 40), (40, xo_get 0 8 43), (43, xo_ic (-1) 44), (44, xo_al 0 45), (45, xo_get 0 3 48), (48, xo_isub 49), (49, xo_callV yX3_add cX3_add 2 none 1 3 52), (52, xo_al 0 53), (53, xo_callV yX0_next cX0_next 1 none 0 0 56), (56, xo_goto 95), (59, xo_al 0 60), (60, xo_get 0 3 63), (63, xo_ic 45 65), (65, xo_ic_ne 75 68), (68, xo_al 0 69), (69, xo_callV yX0_readMinus cX0_readMinus 1 none 0 0 72), (72, xo_goto 95), (75, xo_al 0 76), (76, xo_get 0 3 79), (79, xo_ic 40 81), (81, xo_ic_ne 91 84), (84, xo_al 0 85)]
theorem sX0_readOne_0 : XPr RX0 cX0_readOne 1 none 10 pX0_readOne_0 :=
  XPr.cons (xs_aload_n dX0_readOne_0 rfl) <|
  XPr.cons (xs_get (T := TX0) rfl gX0 (Nat.le_of_ble_eq_true rfl) gw_128 dX0_readOne_1) <|
  XPr.cons (xs_bipush dX0_readOne_4 (by decide +kernel)) <|
  XPr.cons (xs_ic_ne dX0_readOne_6 (by decide +kernel)) <|
  XPr.cons (xs_aload_n dX0_readOne_9 rfl) <|
  XPr.cons (xs_get (T := TX0) rfl gX0 (Nat.le_of_ble_eq_true rfl) gw_133 dX0_readOne_10) <|
  XPr.cons (xs_aload_n dX0_readOne_13 rfl) <|
  XPr.cons (xs_get (T := TX0) rfl gX0 (Nat.le_of_ble_eq_true rfl) gw_130 dX0_readOne_14) <|
  XPr.cons (xs_callV (T := TX3) rfl gw_471 gw_472 gw_473 gw_73 gw_474 (by decide +kernel) (Nat.le_of_ble_eq_true rfl) dX0_readOne_17) <|
  XPr.cons (xs_aload_n dX0_readOne_20 rfl) <|
  XPr.cons (xs_callV (T := TX0) rfl gw_370 gw_372 gw_3 gw_74 gw_373 (by decide +kernel) (Nat.le_of_ble_eq_true rfl) dX0_readOne_21) <|
  XPr.cons (xs_goto dX0_readOne_24 (by decide +kernel)) <|
  XPr.cons (xs_aload_n dX0_readOne_27 rfl) <|
  XPr.cons (xs_get (T := TX0) rfl gX0 (Nat.le_of_ble_eq_true rfl) gw_128 dX0_readOne_28) <|
  XPr.cons (xs_iconst dX0_readOne_31 (by decide +kernel)) <|
  XPr.cons (xs_iconst dX0_readOne_32 (by decide +kernel)) <|
  XPr.cons (xs_p3 (xs_callN (host := RX4) (by decide +kernel) gw_259 gw_72 gw_260 (by decide +kernel) (Nat.le_of_ble_eq_true rfl) dX0_readOne_33) c_X4_within (Nat.le_of_ble_eq_true rfl)) <|
  XPr.cons (xs_if_eq dX0_readOne_36 (by decide +kernel)) <|
  XPr.cons (xs_aload_n dX0_readOne_39 rfl) <|
  XPr.cons (xs_get (T := TX0) rfl gX0 (Nat.le_of_ble_eq_true rfl) gw_133 dX0_readOne_40) <|
  XPr.cons (xs_iconst dX0_readOne_43 (by decide +kernel)) <|
  XPr.cons (xs_aload_n dX0_readOne_44 rfl) <|
  XPr.cons (xs_get (T := TX0) rfl gX0 (Nat.le_of_ble_eq_true rfl) gw_128 dX0_readOne_45) <|
  XPr.cons (xs_isub dX0_readOne_48) <|
  XPr.cons (xs_callV (T := TX3) rfl gw_471 gw_472 gw_473 gw_73 gw_474 (by decide +kernel) (Nat.le_of_ble_eq_true rfl) dX0_readOne_49) <|
  XPr.cons (xs_aload_n dX0_readOne_52 rfl) <|
  XPr.cons (xs_callV (T := TX0) rfl gw_370 gw_372 gw_3 gw_74 gw_373 (by decide +kernel) (Nat.le_of_ble_eq_true rfl) dX0_readOne_53) <|
  XPr.cons (xs_goto dX0_readOne_56 (by decide +kernel)) <|
  XPr.cons (xs_aload_n dX0_readOne_59 rfl) <|
  XPr.cons (xs_get (T := TX0) rfl gX0 (Nat.le_of_ble_eq_true rfl) gw_128 dX0_readOne_60) <|
  XPr.cons (xs_bipush dX0_readOne_63 (by decide +kernel)) <|
  XPr.cons (xs_ic_ne dX0_readOne_65 (by decide +kernel)) <|
  XPr.cons (xs_aload_n dX0_readOne_68 rfl) <|
  XPr.cons (xs_callV (T := TX0) rfl gw_475 gw_477 gw_15 gw_74 gw_478 (by decide +kernel) (Nat.le_of_ble_eq_true rfl) dX0_readOne_69) <|
  XPr.cons (xs_goto dX0_readOne_72 (by decide +kernel)) <|
  XPr.cons (xs_aload_n dX0_readOne_75 rfl) <|
  XPr.cons (xs_get (T := TX0) rfl gX0 (Nat.le_of_ble_eq_true rfl) gw_128 dX0_readOne_76) <|
  XPr.cons (xs_bipush dX0_readOne_79 (by decide +kernel)) <|
  XPr.cons (xs_ic_ne dX0_readOne_81 (by decide +kernel)) <|
  XPr.cons (xs_aload_n dX0_readOne_84 rfl) <|
  XPr.nil
def pX0_readOne_1 : List (Nat × XOp) := [(85, xo_callV yX0_readBracket cX0_readBracket 1 none 0 0 88), (88, xo_goto 95), (91, xo_al 0 92), (92, xo_callV yX0_fails cX0_fails 1 none 0 0 95), (95, xo_vret)]
theorem sX0_readOne_1 : XPr RX0 cX0_readOne 1 none 10 pX0_readOne_1 :=
  XPr.cons (xs_callV (T := TX0) rfl gw_483 gw_485 gw_17 gw_74 gw_486 (by decide +kernel) (Nat.le_of_ble_eq_true rfl) dX0_readOne_85) <|
  XPr.cons (xs_goto dX0_readOne_88 (by decide +kernel)) <|
  XPr.cons (xs_aload_n dX0_readOne_91 rfl) <|
  XPr.cons (xs_callV (T := TX0) rfl gw_439 gw_441 gw_7 gw_74 gw_442 (by decide +kernel) (Nat.le_of_ble_eq_true rfl) dX0_readOne_92) <|
  XPr.cons (xs_vret rfl dX0_readOne_95) <|
  XPr.nil
def pX0_readOne : List (Nat × XOp) := pX0_readOne_0 ++ pX0_readOne_1
theorem sX0_readOne : XPr RX0 cX0_readOne 1 none 10 pX0_readOne := (sX0_readOne_0).app sX0_readOne_1
def pX0_readMinus : List (Nat × XOp) := [(0, xo_al 0 1), (1, xo_callV yX0_opens cX0_opens 1 (some .boolean) 0 0 4), (4, xo_if_eq 38 7), (7, xo_al 0 8), (8, xo_get 0 8 11), (11, xo_ic 0 12), (12, xo_callV yX3_add cX3_add 2 none 1 3 15), (15, xo_al 0 16), (16, xo_callV yX0_readOne cX0_readOne 1 none 0 0 19), (19, xo_al 0 20), (20, xo_get 0 8 23), (23, xo_ic (-12) 25), (25, xo_callV yX3_add cX3_add 2 none 1 3 28), (28, xo_al 0 29), (29, xo_dupR 30), (30, xo_get 0 6 33), (33, xo_ic 1 34), (34, xo_isub 35), (35, xo_putI 0 6 38), (38, xo_vret)]
theorem sX0_readMinus : XPr RX0 cX0_readMinus 1 none 10 pX0_readMinus :=
  XPr.cons (xs_aload_n dX0_readMinus_0 rfl) <|
  XPr.cons (xs_callV (T := TX0) rfl gw_479 gw_481 gw_16 gw_74 gw_482 (by decide +kernel) (Nat.le_of_ble_eq_true rfl) dX0_readMinus_1) <|
  XPr.cons (xs_if_eq dX0_readMinus_4 (by decide +kernel)) <|
  XPr.cons (xs_aload_n dX0_readMinus_7 rfl) <|
  XPr.cons (xs_get (T := TX0) rfl gX0 (Nat.le_of_ble_eq_true rfl) gw_133 dX0_readMinus_8) <|
  XPr.cons (xs_iconst dX0_readMinus_11 (by decide +kernel)) <|
  XPr.cons (xs_callV (T := TX3) rfl gw_471 gw_472 gw_473 gw_73 gw_474 (by decide +kernel) (Nat.le_of_ble_eq_true rfl) dX0_readMinus_12) <|
  XPr.cons (xs_aload_n dX0_readMinus_15 rfl) <|
  XPr.cons (xs_callV (T := TX0) rfl gw_467 gw_469 gw_14 gw_74 gw_470 (by decide +kernel) (Nat.le_of_ble_eq_true rfl) dX0_readMinus_16) <|
  XPr.cons (xs_aload_n dX0_readMinus_19 rfl) <|
  XPr.cons (xs_get (T := TX0) rfl gX0 (Nat.le_of_ble_eq_true rfl) gw_133 dX0_readMinus_20) <|
  XPr.cons (xs_bipush dX0_readMinus_23 (by decide +kernel)) <|
  XPr.cons (xs_callV (T := TX3) rfl gw_471 gw_472 gw_473 gw_73 gw_474 (by decide +kernel) (Nat.le_of_ble_eq_true rfl) dX0_readMinus_25) <|
  XPr.cons (xs_aload_n dX0_readMinus_28 rfl) <|
  XPr.cons (xs_dupR dX0_readMinus_29) <|
  XPr.cons (xs_get (T := TX0) rfl gX0 (Nat.le_of_ble_eq_true rfl) gw_131 dX0_readMinus_30) <|
  XPr.cons (xs_iconst dX0_readMinus_33 (by decide +kernel)) <|
  XPr.cons (xs_isub dX0_readMinus_34) <|
  XPr.cons (xs_putI (T := TX0) rfl gX0 tyX0_ok nmX0 (Nat.le_of_ble_eq_true rfl) gw_131 rfl (by decide +kernel) dX0_readMinus_35) <|
  XPr.cons (xs_vret rfl dX0_readMinus_38) <|
  XPr.nil
def pX0_readBracket : List (Nat × XOp) := [(0, xo_al 0 1), (1, xo_callV yX0_opens cX0_opens 1 (some .boolean) 0 0 4), (4, xo_if_eq 27 7), (7, xo_al 0 8), (8, xo_callV yX0_readOr cX0_readOr 2 none 0 0 11), (11, xo_al 0 12), (12, xo_ic 41 14), (14, xo_callV yX0_needs cX0_needs 2 none 1 0 17), (17, xo_al 0 18), (18, xo_dupR 19), (19, xo_get 0 6 22), (22, xo_ic 1 23), (23, xo_isub 24), (24, xo_putI 0 6 27), (27, xo_vret)]
theorem sX0_readBracket : XPr RX0 cX0_readBracket 1 none 10 pX0_readBracket :=
  XPr.cons (xs_aload_n dX0_readBracket_0 rfl) <|
  XPr.cons (xs_callV (T := TX0) rfl gw_479 gw_481 gw_16 gw_74 gw_482 (by decide +kernel) (Nat.le_of_ble_eq_true rfl) dX0_readBracket_1) <|
  XPr.cons (xs_if_eq dX0_readBracket_4 (by decide +kernel)) <|
  XPr.cons (xs_aload_n dX0_readBracket_7 rfl) <|
  XPr.cons (xs_callV (T := TX0) rfl gw_443 gw_445 gw_8 gw_74 gw_446 (by decide +kernel) (Nat.le_of_ble_eq_true rfl) dX0_readBracket_8) <|
  XPr.cons (xs_aload_n dX0_readBracket_11 rfl) <|
  XPr.cons (xs_bipush dX0_readBracket_12 (by decide +kernel)) <|
  XPr.cons (xs_callV (T := TX0) rfl gw_435 gw_437 gw_6 gw_74 gw_438 (by decide +kernel) (Nat.le_of_ble_eq_true rfl) dX0_readBracket_14) <|
  XPr.cons (xs_aload_n dX0_readBracket_17 rfl) <|
  XPr.cons (xs_dupR dX0_readBracket_18) <|
  XPr.cons (xs_get (T := TX0) rfl gX0 (Nat.le_of_ble_eq_true rfl) gw_131 dX0_readBracket_19) <|
  XPr.cons (xs_iconst dX0_readBracket_22 (by decide +kernel)) <|
  XPr.cons (xs_isub dX0_readBracket_23) <|
  XPr.cons (xs_putI (T := TX0) rfl gX0 tyX0_ok nmX0 (Nat.le_of_ble_eq_true rfl) gw_131 rfl (by decide +kernel) dX0_readBracket_24) <|
  XPr.cons (xs_vret rfl dX0_readBracket_27) <|
  XPr.nil
def pX0_opens : List (Nat × XOp) := [(0, xo_al 0 1), (1, xo_get 0 6 4), (4, xo_ic 5 5), (5, xo_ic_lt 14 8), (8, xo_al 0 9), (9, xo_callV yX0_fails cX0_fails 1 none 0 0 12), (12, xo_ic 0 13), (13, xo_zret), (14, xo_al 0 15), (15, xo_dupR 16), (16, xo_get 0 6 19), (19, xo_ic 1 20), (20, xo_iadd 21), (21, xo_putI 0 6 24), (24, xo_al 0 25), (25, xo_callV yX0_next cX0_next 1 none 0 0 28), (28, xo_ic 1 29), (29, xo_zret)]
theorem sX0_opens : XPr RX0 cX0_opens 1 (some .boolean) 10 pX0_opens :=
  XPr.cons (xs_aload_n dX0_opens_0 rfl) <|
  XPr.cons (xs_get (T := TX0) rfl gX0 (Nat.le_of_ble_eq_true rfl) gw_131 dX0_opens_1) <|
  XPr.cons (xs_iconst dX0_opens_4 (by decide +kernel)) <|
  XPr.cons (xs_ic_lt dX0_opens_5 (by decide +kernel)) <|
  XPr.cons (xs_aload_n dX0_opens_8 rfl) <|
  XPr.cons (xs_callV (T := TX0) rfl gw_439 gw_441 gw_7 gw_74 gw_442 (by decide +kernel) (Nat.le_of_ble_eq_true rfl) dX0_opens_9) <|
  XPr.cons (xs_iconst dX0_opens_12 (by decide +kernel)) <|
  XPr.cons (xs_zret rfl dX0_opens_13) <|
  XPr.cons (xs_aload_n dX0_opens_14 rfl) <|
  XPr.cons (xs_dupR dX0_opens_15) <|
  XPr.cons (xs_get (T := TX0) rfl gX0 (Nat.le_of_ble_eq_true rfl) gw_131 dX0_opens_16) <|
  XPr.cons (xs_iconst dX0_opens_19 (by decide +kernel)) <|
  XPr.cons (xs_iadd dX0_opens_20) <|
  XPr.cons (xs_putI (T := TX0) rfl gX0 tyX0_ok nmX0 (Nat.le_of_ble_eq_true rfl) gw_131 rfl (by decide +kernel) dX0_opens_21) <|
  XPr.cons (xs_aload_n dX0_opens_24 rfl) <|
  XPr.cons (xs_callV (T := TX0) rfl gw_370 gw_372 gw_3 gw_74 gw_373 (by decide +kernel) (Nat.le_of_ble_eq_true rfl) dX0_opens_25) <|
  XPr.cons (xs_iconst dX0_opens_28 (by decide +kernel)) <|
  XPr.cons (xs_zret rfl dX0_opens_29) <|
  XPr.nil
def pX0_next_0 : List (Nat × XOp) := [(0, xo_al 0 1), (1, xo_get 0 2 4), (4, xo_al 0 5), (5, xo_get 0 1 8), (8, xo_ic_ge 52 11), (11, xo_al 0 12), (12, xo_get 0 0 15), (15, xo_al 0 16), (16, xo_get 0 2 19), (19, xo_iald 20), (20, xo_ic 32 22), (22, xo_ic_eq 39 25), (25, xo_al 0 26), (26, xo_get 0 0 29), (29, xo_al 0 30), (30, xo_get 0 2 33), (33, xo_iald 34), (34, xo_ic 10 36), (36, xo_ic_ne 52 39), (39, xo_al 0 40), (40, xo_dupR 41), (41, xo_get 0 2 44), (44, xo_ic 1 45), (45, xo_iadd 46), (46, xo_putI 0 2 49), (49, xo_goto 0), (52, xo_al 0 53), (53, xo_al 0 54), (54, xo_get 0 2 57), (57, xo_putI 0 4 60), (60, xo_al 0 61), (61, xo_get 0 2 64), (64, xo_al 0 65), (65, xo_get 0 1 68), (68, xo_ic_lt 80 71), (71, xo_al 0 72), (72, xo_ic 13 74), (74, xo_putI 0 3 77), (77, xo_goto 175), (80, xo_al 0 81)]
theorem sX0_next_0 : XPr RX0 cX0_next 1 none 10 pX0_next_0 :=
  XPr.cons (xs_aload_n dX0_next_0 rfl) <|
  XPr.cons (xs_get (T := TX0) rfl gX0 (Nat.le_of_ble_eq_true rfl) gw_127 dX0_next_1) <|
  XPr.cons (xs_aload_n dX0_next_4 rfl) <|
  XPr.cons (xs_get (T := TX0) rfl gX0 (Nat.le_of_ble_eq_true rfl) gw_125 dX0_next_5) <|
  XPr.cons (xs_ic_ge dX0_next_8 (by decide +kernel)) <|
  XPr.cons (xs_aload_n dX0_next_11 rfl) <|
  XPr.cons (xs_get (T := TX0) rfl gX0 (Nat.le_of_ble_eq_true rfl) gw_124 dX0_next_12) <|
  XPr.cons (xs_aload_n dX0_next_15 rfl) <|
  XPr.cons (xs_get (T := TX0) rfl gX0 (Nat.le_of_ble_eq_true rfl) gw_127 dX0_next_16) <|
  XPr.cons (xs_iald dX0_next_19) <|
  XPr.cons (xs_bipush dX0_next_20 (by decide +kernel)) <|
  XPr.cons (xs_ic_eq dX0_next_22 (by decide +kernel)) <|
  XPr.cons (xs_aload_n dX0_next_25 rfl) <|
  XPr.cons (xs_get (T := TX0) rfl gX0 (Nat.le_of_ble_eq_true rfl) gw_124 dX0_next_26) <|
  XPr.cons (xs_aload_n dX0_next_29 rfl) <|
  XPr.cons (xs_get (T := TX0) rfl gX0 (Nat.le_of_ble_eq_true rfl) gw_127 dX0_next_30) <|
  XPr.cons (xs_iald dX0_next_33) <|
  XPr.cons (xs_bipush dX0_next_34 (by decide +kernel)) <|
  XPr.cons (xs_ic_ne dX0_next_36 (by decide +kernel)) <|
  XPr.cons (xs_aload_n dX0_next_39 rfl) <|
  XPr.cons (xs_dupR dX0_next_40) <|
  XPr.cons (xs_get (T := TX0) rfl gX0 (Nat.le_of_ble_eq_true rfl) gw_127 dX0_next_41) <|
  XPr.cons (xs_iconst dX0_next_44 (by decide +kernel)) <|
  XPr.cons (xs_iadd dX0_next_45) <|
  XPr.cons (xs_putI (T := TX0) rfl gX0 tyX0_ok nmX0 (Nat.le_of_ble_eq_true rfl) gw_127 rfl (by decide +kernel) dX0_next_46) <|
  XPr.cons (xs_goto dX0_next_49 (by decide +kernel)) <|
  XPr.cons (xs_aload_n dX0_next_52 rfl) <|
  XPr.cons (xs_aload_n dX0_next_53 rfl) <|
  XPr.cons (xs_get (T := TX0) rfl gX0 (Nat.le_of_ble_eq_true rfl) gw_127 dX0_next_54) <|
  XPr.cons (xs_putI (T := TX0) rfl gX0 tyX0_ok nmX0 (Nat.le_of_ble_eq_true rfl) gw_129 rfl (by decide +kernel) dX0_next_57) <|
  XPr.cons (xs_aload_n dX0_next_60 rfl) <|
  XPr.cons (xs_get (T := TX0) rfl gX0 (Nat.le_of_ble_eq_true rfl) gw_127 dX0_next_61) <|
  XPr.cons (xs_aload_n dX0_next_64 rfl) <|
  XPr.cons (xs_get (T := TX0) rfl gX0 (Nat.le_of_ble_eq_true rfl) gw_125 dX0_next_65) <|
  XPr.cons (xs_ic_lt dX0_next_68 (by decide +kernel)) <|
  XPr.cons (xs_aload_n dX0_next_71 rfl) <|
  XPr.cons (xs_bipush dX0_next_72 (by decide +kernel)) <|
  XPr.cons (xs_putI (T := TX0) rfl gX0 tyX0_ok nmX0 (Nat.le_of_ble_eq_true rfl) gw_128 rfl (by decide +kernel) dX0_next_74) <|
  XPr.cons (xs_goto dX0_next_77 (by decide +kernel)) <|
  XPr.cons (xs_aload_n dX0_next_80 rfl) <|
  XPr.nil
def pX0_next_1 : List (Nat × XOp) := [(81, xo_get 0 0 84), (84, xo_al 0 85), (85, xo_get 0 2 88), (88, xo_iald 89), (89, xo_ic 97 91), (91, xo_ic 122 93), (93, xo_p3 f_within 96), (96, xo_if_eq 106 99), (99, xo_al 0 100), (100, xo_callV yX0_nextWord cX0_nextWord 5 none 0 0 103), (103, xo_goto 175), (106, xo_al 0 107), (107, xo_get 0 0 110), (110, xo_al 0 111), (111, xo_get 0 2 114), (114, xo_iald 115), (115, xo_ic 48 117), (117, xo_ic 57 119), (119, xo_p3 f_within 122), (122, xo_if_eq 132 125), (125, xo_al 0 126), (126, xo_callV yX0_nextNumber cX0_nextNumber 1 none 0 0 129), (129, xo_goto 175), (132, xo_al 0 133), (133, xo_al 0 134), (134, xo_get 0 0 137), (137, xo_al 0 138), (138, xo_get 0 2 141), (141, xo_iald 142), (142, xo_p1 f_sign 145), (145, xo_if_eq 160 148), (148, xo_al 0 149), (149, xo_get 0 0 152), (152, xo_al 0 153), (153, xo_get 0 2 156), (156, xo_iald 157), (157, xo_goto 162), (160, xo_ic 14 162), (162, xo_putI 0 3 165), (165, xo_al 0 166)]
theorem sX0_next_1 : XPr RX0 cX0_next 1 none 10 pX0_next_1 :=
  XPr.cons (xs_get (T := TX0) rfl gX0 (Nat.le_of_ble_eq_true rfl) gw_124 dX0_next_81) <|
  XPr.cons (xs_aload_n dX0_next_84 rfl) <|
  XPr.cons (xs_get (T := TX0) rfl gX0 (Nat.le_of_ble_eq_true rfl) gw_127 dX0_next_85) <|
  XPr.cons (xs_iald dX0_next_88) <|
  XPr.cons (xs_bipush dX0_next_89 (by decide +kernel)) <|
  XPr.cons (xs_bipush dX0_next_91 (by decide +kernel)) <|
  XPr.cons (xs_p3 (xs_callN (host := RX4) (by decide +kernel) gw_259 gw_72 gw_260 (by decide +kernel) (Nat.le_of_ble_eq_true rfl) dX0_next_93) c_X4_within (Nat.le_of_ble_eq_true rfl)) <|
  XPr.cons (xs_if_eq dX0_next_96 (by decide +kernel)) <|
  XPr.cons (xs_aload_n dX0_next_99 rfl) <|
  XPr.cons (xs_callV (T := TX0) rfl gw_375 gw_377 gw_4 gw_74 gw_378 (by decide +kernel) (Nat.le_of_ble_eq_true rfl) dX0_next_100) <|
  XPr.cons (xs_goto dX0_next_103 (by decide +kernel)) <|
  XPr.cons (xs_aload_n dX0_next_106 rfl) <|
  XPr.cons (xs_get (T := TX0) rfl gX0 (Nat.le_of_ble_eq_true rfl) gw_124 dX0_next_107) <|
  XPr.cons (xs_aload_n dX0_next_110 rfl) <|
  XPr.cons (xs_get (T := TX0) rfl gX0 (Nat.le_of_ble_eq_true rfl) gw_127 dX0_next_111) <|
  XPr.cons (xs_iald dX0_next_114) <|
  XPr.cons (xs_bipush dX0_next_115 (by decide +kernel)) <|
  XPr.cons (xs_bipush dX0_next_117 (by decide +kernel)) <|
  XPr.cons (xs_p3 (xs_callN (host := RX4) (by decide +kernel) gw_259 gw_72 gw_260 (by decide +kernel) (Nat.le_of_ble_eq_true rfl) dX0_next_119) c_X4_within (Nat.le_of_ble_eq_true rfl)) <|
  XPr.cons (xs_if_eq dX0_next_122 (by decide +kernel)) <|
  XPr.cons (xs_aload_n dX0_next_125 rfl) <|
  XPr.cons (xs_callV (T := TX0) rfl gw_428 gw_430 gw_5 gw_74 gw_431 (by decide +kernel) (Nat.le_of_ble_eq_true rfl) dX0_next_126) <|
  XPr.cons (xs_goto dX0_next_129 (by decide +kernel)) <|
  XPr.cons (xs_aload_n dX0_next_132 rfl) <|
  XPr.cons (xs_aload_n dX0_next_133 rfl) <|
  XPr.cons (xs_get (T := TX0) rfl gX0 (Nat.le_of_ble_eq_true rfl) gw_124 dX0_next_134) <|
  XPr.cons (xs_aload_n dX0_next_137 rfl) <|
  XPr.cons (xs_get (T := TX0) rfl gX0 (Nat.le_of_ble_eq_true rfl) gw_127 dX0_next_138) <|
  XPr.cons (xs_iald dX0_next_141) <|
  XPr.cons (xs_p1 (xs_callS gw_432 gw_433 gw_74 gw_434 (by decide +kernel) (Nat.le_of_ble_eq_true rfl) dX0_next_142) c_X0_isSign (Nat.le_of_ble_eq_true rfl)) <|
  XPr.cons (xs_if_eq dX0_next_145 (by decide +kernel)) <|
  XPr.cons (xs_aload_n dX0_next_148 rfl) <|
  XPr.cons (xs_get (T := TX0) rfl gX0 (Nat.le_of_ble_eq_true rfl) gw_124 dX0_next_149) <|
  XPr.cons (xs_aload_n dX0_next_152 rfl) <|
  XPr.cons (xs_get (T := TX0) rfl gX0 (Nat.le_of_ble_eq_true rfl) gw_127 dX0_next_153) <|
  XPr.cons (xs_iald dX0_next_156) <|
  XPr.cons (xs_goto dX0_next_157 (by decide +kernel)) <|
  XPr.cons (xs_bipush dX0_next_160 (by decide +kernel)) <|
  XPr.cons (xs_putI (T := TX0) rfl gX0 tyX0_ok nmX0 (Nat.le_of_ble_eq_true rfl) gw_128 rfl (by decide +kernel) dX0_next_162) <|
  XPr.cons (xs_aload_n dX0_next_165 rfl) <|
  XPr.nil
def pX0_next_2 : List (Nat × XOp) := [(166, xo_dupR 167), (167, xo_get 0 2 170), (170, xo_ic 1 171), (171, xo_iadd 172), (172, xo_putI 0 2 175), (175, xo_vret)]
theorem sX0_next_2 : XPr RX0 cX0_next 1 none 10 pX0_next_2 :=
  XPr.cons (xs_dupR dX0_next_166) <|
  XPr.cons (xs_get (T := TX0) rfl gX0 (Nat.le_of_ble_eq_true rfl) gw_127 dX0_next_167) <|
  XPr.cons (xs_iconst dX0_next_170 (by decide +kernel)) <|
  XPr.cons (xs_iadd dX0_next_171) <|
  XPr.cons (xs_putI (T := TX0) rfl gX0 tyX0_ok nmX0 (Nat.le_of_ble_eq_true rfl) gw_127 rfl (by decide +kernel) dX0_next_172) <|
  XPr.cons (xs_vret rfl dX0_next_175) <|
  XPr.nil
def pX0_next : List (Nat × XOp) := pX0_next_0 ++ pX0_next_1 ++ pX0_next_2
theorem sX0_next : XPr RX0 cX0_next 1 none 10 pX0_next := ((sX0_next_0).app sX0_next_1).app sX0_next_2
def pX0_nextNumber_0 : List (Nat × XOp) := [(0, xo_al 0 1), (1, xo_ic 0 2), (2, xo_putI 0 5 5), (5, xo_al 0 6), (6, xo_get 0 2 9), (9, xo_al 0 10), (10, xo_get 0 1 13), (13, xo_ic_ge 85 16), (16, xo_al 0 17), (17, xo_get 0 0 20), (20, xo_al 0 21), (21, xo_get 0 2 24), (24, xo_iald 25), (25, xo_ic 48 27), (27, xo_ic 57 29), (29, xo_p3 f_within 32), (32, xo_if_eq 85 35), (35, xo_al 0 36), (36, xo_get 0 2 39), (39, xo_al 0 40), (40, xo_get 0 4 43), (43, xo_isub 44), (44, xo_ic 4 45), (45, xo_ic_ge 72 48), (48, xo_al 0 49), (49, xo_al 0 50), (50, xo_get 0 5 53), (53, xo_ic 10 55), (55, xo_imul 56), (56, xo_al 0 57), (57, xo_get 0 0 60), (60, xo_al 0 61), (61, xo_get 0 2 64), (64, xo_iald 65), (65, xo_iadd 66), (66, xo_ic 48 68), (68, xo_isub 69), (69, xo_putI 0 5 72), (72, xo_al 0 73), (73, xo_dupR 74)]
theorem sX0_nextNumber_0 : XPr RX0 cX0_nextNumber 1 none 10 pX0_nextNumber_0 :=
  XPr.cons (xs_aload_n dX0_nextNumber_0 rfl) <|
  XPr.cons (xs_iconst dX0_nextNumber_1 (by decide +kernel)) <|
  XPr.cons (xs_putI (T := TX0) rfl gX0 tyX0_ok nmX0 (Nat.le_of_ble_eq_true rfl) gw_130 rfl (by decide +kernel) dX0_nextNumber_2) <|
  XPr.cons (xs_aload_n dX0_nextNumber_5 rfl) <|
  XPr.cons (xs_get (T := TX0) rfl gX0 (Nat.le_of_ble_eq_true rfl) gw_127 dX0_nextNumber_6) <|
  XPr.cons (xs_aload_n dX0_nextNumber_9 rfl) <|
  XPr.cons (xs_get (T := TX0) rfl gX0 (Nat.le_of_ble_eq_true rfl) gw_125 dX0_nextNumber_10) <|
  XPr.cons (xs_ic_ge dX0_nextNumber_13 (by decide +kernel)) <|
  XPr.cons (xs_aload_n dX0_nextNumber_16 rfl) <|
  XPr.cons (xs_get (T := TX0) rfl gX0 (Nat.le_of_ble_eq_true rfl) gw_124 dX0_nextNumber_17) <|
  XPr.cons (xs_aload_n dX0_nextNumber_20 rfl) <|
  XPr.cons (xs_get (T := TX0) rfl gX0 (Nat.le_of_ble_eq_true rfl) gw_127 dX0_nextNumber_21) <|
  XPr.cons (xs_iald dX0_nextNumber_24) <|
  XPr.cons (xs_bipush dX0_nextNumber_25 (by decide +kernel)) <|
  XPr.cons (xs_bipush dX0_nextNumber_27 (by decide +kernel)) <|
  XPr.cons (xs_p3 (xs_callN (host := RX4) (by decide +kernel) gw_259 gw_72 gw_260 (by decide +kernel) (Nat.le_of_ble_eq_true rfl) dX0_nextNumber_29) c_X4_within (Nat.le_of_ble_eq_true rfl)) <|
  XPr.cons (xs_if_eq dX0_nextNumber_32 (by decide +kernel)) <|
  XPr.cons (xs_aload_n dX0_nextNumber_35 rfl) <|
  XPr.cons (xs_get (T := TX0) rfl gX0 (Nat.le_of_ble_eq_true rfl) gw_127 dX0_nextNumber_36) <|
  XPr.cons (xs_aload_n dX0_nextNumber_39 rfl) <|
  XPr.cons (xs_get (T := TX0) rfl gX0 (Nat.le_of_ble_eq_true rfl) gw_129 dX0_nextNumber_40) <|
  XPr.cons (xs_isub dX0_nextNumber_43) <|
  XPr.cons (xs_iconst dX0_nextNumber_44 (by decide +kernel)) <|
  XPr.cons (xs_ic_ge dX0_nextNumber_45 (by decide +kernel)) <|
  XPr.cons (xs_aload_n dX0_nextNumber_48 rfl) <|
  XPr.cons (xs_aload_n dX0_nextNumber_49 rfl) <|
  XPr.cons (xs_get (T := TX0) rfl gX0 (Nat.le_of_ble_eq_true rfl) gw_130 dX0_nextNumber_50) <|
  XPr.cons (xs_bipush dX0_nextNumber_53 (by decide +kernel)) <|
  XPr.cons (xs_imul dX0_nextNumber_55) <|
  XPr.cons (xs_aload_n dX0_nextNumber_56 rfl) <|
  XPr.cons (xs_get (T := TX0) rfl gX0 (Nat.le_of_ble_eq_true rfl) gw_124 dX0_nextNumber_57) <|
  XPr.cons (xs_aload_n dX0_nextNumber_60 rfl) <|
  XPr.cons (xs_get (T := TX0) rfl gX0 (Nat.le_of_ble_eq_true rfl) gw_127 dX0_nextNumber_61) <|
  XPr.cons (xs_iald dX0_nextNumber_64) <|
  XPr.cons (xs_iadd dX0_nextNumber_65) <|
  XPr.cons (xs_bipush dX0_nextNumber_66 (by decide +kernel)) <|
  XPr.cons (xs_isub dX0_nextNumber_68) <|
  XPr.cons (xs_putI (T := TX0) rfl gX0 tyX0_ok nmX0 (Nat.le_of_ble_eq_true rfl) gw_130 rfl (by decide +kernel) dX0_nextNumber_69) <|
  XPr.cons (xs_aload_n dX0_nextNumber_72 rfl) <|
  XPr.cons (xs_dupR dX0_nextNumber_73) <|
  XPr.nil
def pX0_nextNumber_1 : List (Nat × XOp) := [(74, xo_get 0 2 77), (77, xo_ic 1 78), (78, xo_iadd 79), (79, xo_putI 0 2 82), (82, xo_goto 5), (85, xo_al 0 86), (86, xo_al 0 87), (87, xo_get 0 2 90), (90, xo_al 0 91), (91, xo_get 0 4 94), (94, xo_isub 95), (95, xo_ic 4 96), (96, xo_ic_le 104 99), (99, xo_ic 14 101), (101, xo_goto 106), (104, xo_ic 12 106), (106, xo_putI 0 3 109), (109, xo_vret)]
theorem sX0_nextNumber_1 : XPr RX0 cX0_nextNumber 1 none 10 pX0_nextNumber_1 :=
  XPr.cons (xs_get (T := TX0) rfl gX0 (Nat.le_of_ble_eq_true rfl) gw_127 dX0_nextNumber_74) <|
  XPr.cons (xs_iconst dX0_nextNumber_77 (by decide +kernel)) <|
  XPr.cons (xs_iadd dX0_nextNumber_78) <|
  XPr.cons (xs_putI (T := TX0) rfl gX0 tyX0_ok nmX0 (Nat.le_of_ble_eq_true rfl) gw_127 rfl (by decide +kernel) dX0_nextNumber_79) <|
  XPr.cons (xs_goto dX0_nextNumber_82 (by decide +kernel)) <|
  XPr.cons (xs_aload_n dX0_nextNumber_85 rfl) <|
  XPr.cons (xs_aload_n dX0_nextNumber_86 rfl) <|
  XPr.cons (xs_get (T := TX0) rfl gX0 (Nat.le_of_ble_eq_true rfl) gw_127 dX0_nextNumber_87) <|
  XPr.cons (xs_aload_n dX0_nextNumber_90 rfl) <|
  XPr.cons (xs_get (T := TX0) rfl gX0 (Nat.le_of_ble_eq_true rfl) gw_129 dX0_nextNumber_91) <|
  XPr.cons (xs_isub dX0_nextNumber_94) <|
  XPr.cons (xs_iconst dX0_nextNumber_95 (by decide +kernel)) <|
  XPr.cons (xs_ic_le dX0_nextNumber_96 (by decide +kernel)) <|
  XPr.cons (xs_bipush dX0_nextNumber_99 (by decide +kernel)) <|
  XPr.cons (xs_goto dX0_nextNumber_101 (by decide +kernel)) <|
  XPr.cons (xs_bipush dX0_nextNumber_104 (by decide +kernel)) <|
  XPr.cons (xs_putI (T := TX0) rfl gX0 tyX0_ok nmX0 (Nat.le_of_ble_eq_true rfl) gw_128 rfl (by decide +kernel) dX0_nextNumber_106) <|
  XPr.cons (xs_vret rfl dX0_nextNumber_109) <|
  XPr.nil
def pX0_nextNumber : List (Nat × XOp) := pX0_nextNumber_0 ++ pX0_nextNumber_1
theorem sX0_nextNumber : XPr RX0 cX0_nextNumber 1 none 10 pX0_nextNumber := (sX0_nextNumber_0).app sX0_nextNumber_1
