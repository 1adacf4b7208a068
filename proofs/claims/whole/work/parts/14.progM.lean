def pX5_isOne : List (Nat × XOp) := [(0, xo_il 1 1), (1, xo_i2l 2), (2, xo_lc 0 3), (3, xo_al 0 4), (4, xo_get 5 13 7), (7, xo_ic 1 8), (8, xo_isub 9), (9, xo_i2l 10), (10, xo_q3 f_in 13), (13, xo_zret)]
theorem sX5_isOne : XPr RX5 cX5_isOne 2 (some .boolean) 10 pX5_isOne :=
  XPr.cons (xs_iload_n dX5_isOne_0 rfl) <|
  XPr.cons (xs_i2l dX5_isOne_1) <|
  XPr.cons (xs_lconst dX5_isOne_2 (by decide +kernel)) <|
  XPr.cons (xs_aload_n dX5_isOne_3 rfl) <|
  XPr.cons (xs_get (T := TX5) rfl gX5 (Nat.le_of_ble_eq_true rfl) gw_734 dX5_isOne_4) <|
  XPr.cons (xs_iconst dX5_isOne_7 (by decide +kernel)) <|
  XPr.cons (xs_isub dX5_isOne_8) <|
  XPr.cons (xs_i2l dX5_isOne_9) <|
  XPr.cons (xs_q3 (xs_callS gw_866 gw_867 gw_77 gw_868 (by decide +kernel) (Nat.le_of_ble_eq_true rfl) dX5_isOne_10) c_X5_in (Nat.le_of_ble_eq_true rfl)) <|
  XPr.cons (xs_zret rfl dX5_isOne_13) <|
  XPr.nil
def pX5_isOf : List (Nat × XOp) := [(0, xo_il 1 1), (1, xo_ic 3 2), (2, xo_ic_lt 34 5), (5, xo_il 1 6), (6, xo_ic 3 7), (7, xo_ic_eq 16 10), (10, xo_il 1 11), (11, xo_ic 9 13), (13, xo_ic_le 26 16), (16, xo_il 2 17), (17, xo_p1 f_isPart 20), (20, xo_if_eq 38 23), (23, xo_goto 34), (26, xo_al 0 27), (27, xo_il 2 28), (28, xo_callV yX5_isOne cX5_isOne 2 (some .boolean) 1 5 31), (31, xo_if_eq 38 34), (34, xo_ic 1 35), (35, xo_goto 39), (38, xo_ic 0 39), (39, xo_zret)]
theorem sX5_isOf : XPr RX5 cX5_isOf 3 (some .boolean) 10 pX5_isOf :=
  XPr.cons (xs_iload_n dX5_isOf_0 rfl) <|
  XPr.cons (xs_iconst dX5_isOf_1 (by decide +kernel)) <|
  XPr.cons (xs_ic_lt dX5_isOf_2 (by decide +kernel)) <|
  XPr.cons (xs_iload_n dX5_isOf_5 rfl) <|
  XPr.cons (xs_iconst dX5_isOf_6 (by decide +kernel)) <|
  XPr.cons (xs_ic_eq dX5_isOf_7 (by decide +kernel)) <|
  XPr.cons (xs_iload_n dX5_isOf_10 rfl) <|
  XPr.cons (xs_bipush dX5_isOf_11 (by decide +kernel)) <|
  XPr.cons (xs_ic_le dX5_isOf_13 (by decide +kernel)) <|
  XPr.cons (xs_iload_n dX5_isOf_16 rfl) <|
  XPr.cons (xs_p1 (xs_callS gw_873 gw_874 gw_77 gw_875 (by decide +kernel) (Nat.le_of_ble_eq_true rfl) dX5_isOf_17) c_X5_isPart (Nat.le_of_ble_eq_true rfl)) <|
  XPr.cons (xs_if_eq dX5_isOf_20 (by decide +kernel)) <|
  XPr.cons (xs_goto dX5_isOf_23 (by decide +kernel)) <|
  XPr.cons (xs_aload_n dX5_isOf_26 rfl) <|
  XPr.cons (xs_iload_n dX5_isOf_27 rfl) <|
  XPr.cons (xs_callV (T := TX5) rfl gw_877 gw_879 gw_29 gw_77 gw_880 (by decide +kernel) (Nat.le_of_ble_eq_true rfl) dX5_isOf_28) <|
  XPr.cons (xs_if_eq dX5_isOf_31 (by decide +kernel)) <|
  XPr.cons (xs_iconst dX5_isOf_34 (by decide +kernel)) <|
  XPr.cons (xs_goto dX5_isOf_35 (by decide +kernel)) <|
  XPr.cons (xs_iconst dX5_isOf_38 (by decide +kernel)) <|
  XPr.cons (xs_zret rfl dX5_isOf_39) <|
  XPr.nil
def pX5_set : List (Nat × XOp) := [(0, xo_il 1 1), (1, xo_i2l 2), (2, xo_lc 0 3), (3, xo_lc 5 6), (6, xo_q3 f_in 9), (9, xo_if_eq 35 12), (12, xo_al 0 13), (13, xo_il 1 14), (14, xo_il 2 15), (15, xo_callV yX5_isOf cX5_isOf 3 (some .boolean) 2 5 18), (18, xo_if_eq 35 21), (21, xo_il 3 22), (22, xo_i2l 23), (23, xo_lc 0 24), (24, xo_il 1 25), (25, xo_p1 f_mostOf 28), (28, xo_i2l 29), (29, xo_q3 f_in 32), (32, xo_if_ne 38 35), (35, xo_ic (-2) 37), (37, xo_iret), (38, xo_al 0 39), (39, xo_il 2 40), (40, xo_il 1 41), (41, xo_callV yX5_told cX5_told 3 (some .int) 2 5 44), (44, xo_is 4 46), (46, xo_al 0 47), (47, xo_il 1 48), (48, xo_il 2 49), (49, xo_il 3 50), (50, xo_callV yX5_lays cX5_lays 4 none 3 5 53), (53, xo_il 4 55), (55, xo_iret)]
theorem sX5_set : XPr RX5 cX5_set 5 (some .int) 10 pX5_set :=
  XPr.cons (xs_iload_n dX5_set_0 rfl) <|
  XPr.cons (xs_i2l dX5_set_1) <|
  XPr.cons (xs_lconst dX5_set_2 (by decide +kernel)) <|
  XPr.cons (xs_ldc2 gw_865 dX5_set_3) <|
  XPr.cons (xs_q3 (xs_callS gw_866 gw_867 gw_77 gw_868 (by decide +kernel) (Nat.le_of_ble_eq_true rfl) dX5_set_6) c_X5_in (Nat.le_of_ble_eq_true rfl)) <|
  XPr.cons (xs_if_eq dX5_set_9 (by decide +kernel)) <|
  XPr.cons (xs_aload_n dX5_set_12 rfl) <|
  XPr.cons (xs_iload_n dX5_set_13 rfl) <|
  XPr.cons (xs_iload_n dX5_set_14 rfl) <|
  XPr.cons (xs_callV (T := TX5) rfl gw_869 gw_871 gw_28 gw_77 gw_872 (by decide +kernel) (Nat.le_of_ble_eq_true rfl) dX5_set_15) <|
  XPr.cons (xs_if_eq dX5_set_18 (by decide +kernel)) <|
  XPr.cons (xs_iload_n dX5_set_21 rfl) <|
  XPr.cons (xs_i2l dX5_set_22) <|
  XPr.cons (xs_lconst dX5_set_23 (by decide +kernel)) <|
  XPr.cons (xs_iload_n dX5_set_24 rfl) <|
  XPr.cons (xs_p1 (xs_callS gw_881 gw_882 gw_77 gw_883 (by decide +kernel) (Nat.le_of_ble_eq_true rfl) dX5_set_25) c_X5_mostOf (Nat.le_of_ble_eq_true rfl)) <|
  XPr.cons (xs_i2l dX5_set_28) <|
  XPr.cons (xs_q3 (xs_callS gw_866 gw_867 gw_77 gw_868 (by decide +kernel) (Nat.le_of_ble_eq_true rfl) dX5_set_29) c_X5_in (Nat.le_of_ble_eq_true rfl)) <|
  XPr.cons (xs_if_ne dX5_set_32 (by decide +kernel)) <|
  XPr.cons (xs_bipush dX5_set_35 (by decide +kernel)) <|
  XPr.cons (xs_iret rfl dX5_set_37) <|
  XPr.cons (xs_aload_n dX5_set_38 rfl) <|
  XPr.cons (xs_iload_n dX5_set_39 rfl) <|
  XPr.cons (xs_iload_n dX5_set_40 rfl) <|
  XPr.cons (xs_callV (T := TX5) rfl gw_884 gw_885 gw_886 gw_77 gw_887 (by decide +kernel) (Nat.le_of_ble_eq_true rfl) dX5_set_41) <|
  XPr.cons (xs_istore dX5_set_44 (Nat.le_of_ble_eq_true rfl)) <|
  XPr.cons (xs_aload_n dX5_set_46 rfl) <|
  XPr.cons (xs_iload_n dX5_set_47 rfl) <|
  XPr.cons (xs_iload_n dX5_set_48 rfl) <|
  XPr.cons (xs_iload_n dX5_set_49 rfl) <|
  XPr.cons (xs_callV (T := TX5) rfl gw_993 gw_995 gw_52 gw_77 gw_996 (by decide +kernel) (Nat.le_of_ble_eq_true rfl) dX5_set_50) <|
  XPr.cons (xs_iload dX5_set_53) <|
  XPr.cons (xs_iret rfl dX5_set_55) <|
  XPr.nil
def pX5_lays_0 : List (Nat × XOp) := [(0, xo_il 1 1), (1, xo_ic 3 2), (2, xo_ic_ge 58 5), (5, xo_al 0 6), (6, xo_il 1 7), (7, xo_if_ne 14 10), (10, xo_il 3 11), (11, xo_goto 18), (14, xo_al 0 15), (15, xo_get 5 7 18), (18, xo_putI 5 7 21), (21, xo_al 0 22), (22, xo_il 1 23), (23, xo_ic 1 24), (24, xo_ic_ne 31 27), (27, xo_il 3 28), (28, xo_goto 35), (31, xo_al 0 32), (32, xo_get 5 8 35), (35, xo_putI 5 8 38), (38, xo_al 0 39), (39, xo_il 1 40), (40, xo_ic 2 41), (41, xo_ic_ne 48 44), (44, xo_il 3 45), (45, xo_goto 52), (48, xo_al 0 49), (49, xo_get 5 9 52), (52, xo_putI 5 9 55), (55, xo_goto 100), (58, xo_il 1 59), (59, xo_ic 3 60), (60, xo_ic_ne 73 63), (63, xo_al 0 64), (64, xo_get 5 11 67), (67, xo_il 2 68), (68, xo_il 3 69), (69, xo_iast 70), (70, xo_goto 100), (73, xo_il 1 74)]
theorem sX5_lays_0 : XPr RX5 cX5_lays 4 none 10 pX5_lays_0 :=
  XPr.cons (xs_iload_n dX5_lays_0 rfl) <|
  XPr.cons (xs_iconst dX5_lays_1 (by decide +kernel)) <|
  XPr.cons (xs_ic_ge dX5_lays_2 (by decide +kernel)) <|
  XPr.cons (xs_aload_n dX5_lays_5 rfl) <|
  XPr.cons (xs_iload_n dX5_lays_6 rfl) <|
  XPr.cons (xs_if_ne dX5_lays_7 (by decide +kernel)) <|
  XPr.cons (xs_iload_n dX5_lays_10 rfl) <|
  XPr.cons (xs_goto dX5_lays_11 (by decide +kernel)) <|
  XPr.cons (xs_aload_n dX5_lays_14 rfl) <|
  XPr.cons (xs_get (T := TX5) rfl gX5 (Nat.le_of_ble_eq_true rfl) gw_728 dX5_lays_15) <|
  XPr.cons (xs_putI (T := TX5) rfl gX5 tyX5_ok nmX5 (Nat.le_of_ble_eq_true rfl) gw_728 rfl (by decide +kernel) dX5_lays_18) <|
  XPr.cons (xs_aload_n dX5_lays_21 rfl) <|
  XPr.cons (xs_iload_n dX5_lays_22 rfl) <|
  XPr.cons (xs_iconst dX5_lays_23 (by decide +kernel)) <|
  XPr.cons (xs_ic_ne dX5_lays_24 (by decide +kernel)) <|
  XPr.cons (xs_iload_n dX5_lays_27 rfl) <|
  XPr.cons (xs_goto dX5_lays_28 (by decide +kernel)) <|
  XPr.cons (xs_aload_n dX5_lays_31 rfl) <|
  XPr.cons (xs_get (T := TX5) rfl gX5 (Nat.le_of_ble_eq_true rfl) gw_729 dX5_lays_32) <|
  XPr.cons (xs_putI (T := TX5) rfl gX5 tyX5_ok nmX5 (Nat.le_of_ble_eq_true rfl) gw_729 rfl (by decide +kernel) dX5_lays_35) <|
  XPr.cons (xs_aload_n dX5_lays_38 rfl) <|
  XPr.cons (xs_iload_n dX5_lays_39 rfl) <|
  XPr.cons (xs_iconst dX5_lays_40 (by decide +kernel)) <|
  XPr.cons (xs_ic_ne dX5_lays_41 (by decide +kernel)) <|
  XPr.cons (xs_iload_n dX5_lays_44 rfl) <|
  XPr.cons (xs_goto dX5_lays_45 (by decide +kernel)) <|
  XPr.cons (xs_aload_n dX5_lays_48 rfl) <|
  XPr.cons (xs_get (T := TX5) rfl gX5 (Nat.le_of_ble_eq_true rfl) gw_730 dX5_lays_49) <|
  XPr.cons (xs_putI (T := TX5) rfl gX5 tyX5_ok nmX5 (Nat.le_of_ble_eq_true rfl) gw_730 rfl (by decide +kernel) dX5_lays_52) <|
  XPr.cons (xs_goto dX5_lays_55 (by decide +kernel)) <|
  XPr.cons (xs_iload_n dX5_lays_58 rfl) <|
  XPr.cons (xs_iconst dX5_lays_59 (by decide +kernel)) <|
  XPr.cons (xs_ic_ne dX5_lays_60 (by decide +kernel)) <|
  XPr.cons (xs_aload_n dX5_lays_63 rfl) <|
  XPr.cons (xs_get (T := TX5) rfl gX5 (Nat.le_of_ble_eq_true rfl) gw_732 dX5_lays_64) <|
  XPr.cons (xs_iload_n dX5_lays_67 rfl) <|
  XPr.cons (xs_iload_n dX5_lays_68 rfl) <|
  XPr.cons (xs_iast dX5_lays_69) <|
  XPr.cons (xs_goto dX5_lays_70 (by decide +kernel)) <|
  XPr.cons (xs_iload_n dX5_lays_73 rfl) <|
  XPr.nil
def pX5_lays_1 : List (Nat × XOp) := [(74, xo_ic 7 76), (76, xo_ic_ge 95 79), (79, xo_al 0 80), (80, xo_get 5 12 83), (83, xo_ic 4 84), (84, xo_il 2 85), (85, xo_imul 86), (86, xo_il 1 87), (87, xo_iadd 88), (88, xo_ic 4 89), (89, xo_isub 90), (90, xo_il 3 91), (91, xo_iast 92), (92, xo_goto 100), (95, xo_al 0 96), (96, xo_il 3 97), (97, xo_putI 5 4 100), (100, xo_vret)]
theorem sX5_lays_1 : XPr RX5 cX5_lays 4 none 10 pX5_lays_1 :=
  XPr.cons (xs_bipush dX5_lays_74 (by decide +kernel)) <|
  XPr.cons (xs_ic_ge dX5_lays_76 (by decide +kernel)) <|
  XPr.cons (xs_aload_n dX5_lays_79 rfl) <|
  XPr.cons (xs_get (T := TX5) rfl gX5 (Nat.le_of_ble_eq_true rfl) gw_733 dX5_lays_80) <|
  XPr.cons (xs_iconst dX5_lays_83 (by decide +kernel)) <|
  XPr.cons (xs_iload_n dX5_lays_84 rfl) <|
  XPr.cons (xs_imul dX5_lays_85) <|
  XPr.cons (xs_iload_n dX5_lays_86 rfl) <|
  XPr.cons (xs_iadd dX5_lays_87) <|
  XPr.cons (xs_iconst dX5_lays_88 (by decide +kernel)) <|
  XPr.cons (xs_isub dX5_lays_89) <|
  XPr.cons (xs_iload_n dX5_lays_90 rfl) <|
  XPr.cons (xs_iast dX5_lays_91) <|
  XPr.cons (xs_goto dX5_lays_92 (by decide +kernel)) <|
  XPr.cons (xs_aload_n dX5_lays_95 rfl) <|
  XPr.cons (xs_iload_n dX5_lays_96 rfl) <|
  XPr.cons (xs_putI (T := TX5) rfl gX5 tyX5_ok nmX5 (Nat.le_of_ble_eq_true rfl) gw_725 rfl (by decide +kernel) dX5_lays_97) <|
  XPr.cons (xs_vret rfl dX5_lays_100) <|
  XPr.nil
def pX5_lays : List (Nat × XOp) := pX5_lays_0 ++ pX5_lays_1
theorem sX5_lays : XPr RX5 cX5_lays 4 none 10 pX5_lays := (sX5_lays_0).app sX5_lays_1
def pX5_wright_0 : List (Nat × XOp) := [(0, xo_il 1 1), (1, xo_i2l 2), (2, xo_lc 0 3), (3, xo_lc 5 6), (6, xo_q3 f_in 9), (9, xo_if_eq 36 12), (12, xo_il 2 13), (13, xo_i2l 14), (14, xo_lc 0 15), (15, xo_lc 9 18), (18, xo_q3 f_in 21), (21, xo_if_eq 36 24), (24, xo_il 3 25), (25, xo_i2l 26), (26, xo_lc 0 27), (27, xo_lc 99 30), (30, xo_q3 f_in 33), (33, xo_if_ne 39 36), (36, xo_ic (-2) 38), (38, xo_iret), (39, xo_al 0 40), (40, xo_get 5 13 43), (43, xo_ic 5 44), (44, xo_ic_ne 50 47), (47, xo_ic (-4) 49), (49, xo_iret), (50, xo_al 0 51), (51, xo_get 5 12 54), (54, xo_ic 4 55), (55, xo_al 0 56), (56, xo_get 5 13 59), (59, xo_imul 60), (60, xo_il 2 61), (61, xo_iast 62), (62, xo_al 0 63), (63, xo_get 5 12 66), (66, xo_ic 4 67), (67, xo_al 0 68), (68, xo_get 5 13 71), (71, xo_imul 72)]
theorem sX5_wright_0 : XPr RX5 cX5_wright 4 (some .int) 10 pX5_wright_0 :=
  XPr.cons (xs_iload_n dX5_wright_0 rfl) <|
  XPr.cons (xs_i2l dX5_wright_1) <|
  XPr.cons (xs_lconst dX5_wright_2 (by decide +kernel)) <|
  XPr.cons (xs_ldc2 gw_865 dX5_wright_3) <|
  XPr.cons (xs_q3 (xs_callS gw_866 gw_867 gw_77 gw_868 (by decide +kernel) (Nat.le_of_ble_eq_true rfl) dX5_wright_6) c_X5_in (Nat.le_of_ble_eq_true rfl)) <|
  XPr.cons (xs_if_eq dX5_wright_9 (by decide +kernel)) <|
  XPr.cons (xs_iload_n dX5_wright_12 rfl) <|
  XPr.cons (xs_i2l dX5_wright_13) <|
  XPr.cons (xs_lconst dX5_wright_14 (by decide +kernel)) <|
  XPr.cons (xs_ldc2 gw_876 dX5_wright_15) <|
  XPr.cons (xs_q3 (xs_callS gw_866 gw_867 gw_77 gw_868 (by decide +kernel) (Nat.le_of_ble_eq_true rfl) dX5_wright_18) c_X5_in (Nat.le_of_ble_eq_true rfl)) <|
  XPr.cons (xs_if_eq dX5_wright_21 (by decide +kernel)) <|
  XPr.cons (xs_iload_n dX5_wright_24 rfl) <|
  XPr.cons (xs_i2l dX5_wright_25) <|
  XPr.cons (xs_lconst dX5_wright_26 (by decide +kernel)) <|
  XPr.cons (xs_ldc2 gw_1001 dX5_wright_27) <|
  XPr.cons (xs_q3 (xs_callS gw_866 gw_867 gw_77 gw_868 (by decide +kernel) (Nat.le_of_ble_eq_true rfl) dX5_wright_30) c_X5_in (Nat.le_of_ble_eq_true rfl)) <|
  XPr.cons (xs_if_ne dX5_wright_33 (by decide +kernel)) <|
  XPr.cons (xs_bipush dX5_wright_36 (by decide +kernel)) <|
  XPr.cons (xs_iret rfl dX5_wright_38) <|
  XPr.cons (xs_aload_n dX5_wright_39 rfl) <|
  XPr.cons (xs_get (T := TX5) rfl gX5 (Nat.le_of_ble_eq_true rfl) gw_734 dX5_wright_40) <|
  XPr.cons (xs_iconst dX5_wright_43 (by decide +kernel)) <|
  XPr.cons (xs_ic_ne dX5_wright_44 (by decide +kernel)) <|
  XPr.cons (xs_bipush dX5_wright_47 (by decide +kernel)) <|
  XPr.cons (xs_iret rfl dX5_wright_49) <|
  XPr.cons (xs_aload_n dX5_wright_50 rfl) <|
  XPr.cons (xs_get (T := TX5) rfl gX5 (Nat.le_of_ble_eq_true rfl) gw_733 dX5_wright_51) <|
  XPr.cons (xs_iconst dX5_wright_54 (by decide +kernel)) <|
  XPr.cons (xs_aload_n dX5_wright_55 rfl) <|
  XPr.cons (xs_get (T := TX5) rfl gX5 (Nat.le_of_ble_eq_true rfl) gw_734 dX5_wright_56) <|
  XPr.cons (xs_imul dX5_wright_59) <|
  XPr.cons (xs_iload_n dX5_wright_60 rfl) <|
  XPr.cons (xs_iast dX5_wright_61) <|
  XPr.cons (xs_aload_n dX5_wright_62 rfl) <|
  XPr.cons (xs_get (T := TX5) rfl gX5 (Nat.le_of_ble_eq_true rfl) gw_733 dX5_wright_63) <|
  XPr.cons (xs_iconst dX5_wright_66 (by decide +kernel)) <|
  XPr.cons (xs_aload_n dX5_wright_67 rfl) <|
  XPr.cons (xs_get (T := TX5) rfl gX5 (Nat.le_of_ble_eq_true rfl) gw_734 dX5_wright_68) <|
  XPr.cons (xs_imul dX5_wright_71) <|
  XPr.nil
def pX5_wright_1 : List (Nat × XOp) := [(72, xo_ic 1 73), (73, xo_iadd 74), (74, xo_il 3 75), (75, xo_iast 76), (76, xo_al 0 77), (77, xo_get 5 12 80), (80, xo_ic 4 81), (81, xo_al 0 82), (82, xo_get 5 13 85), (85, xo_imul 86), (86, xo_ic 2 87), (87, xo_iadd 88), (88, xo_il 1 89), (89, xo_iast 90), (90, xo_al 0 91), (91, xo_get 5 12 94), (94, xo_ic 4 95), (95, xo_al 0 96), (96, xo_get 5 13 99), (99, xo_imul 100), (100, xo_ic 3 101), (101, xo_iadd 102), (102, xo_ic 0 103), (103, xo_iast 104), (104, xo_al 0 105), (105, xo_dupR 106), (106, xo_get 5 13 109), (109, xo_ic 1 110), (110, xo_iadd 111), (111, xo_putI 5 13 114), (114, xo_al 0 115), (115, xo_get 5 13 118), (118, xo_ic 1 119), (119, xo_isub 120), (120, xo_iret)]
theorem sX5_wright_1 : XPr RX5 cX5_wright 4 (some .int) 10 pX5_wright_1 :=
  XPr.cons (xs_iconst dX5_wright_72 (by decide +kernel)) <|
  XPr.cons (xs_iadd dX5_wright_73) <|
  XPr.cons (xs_iload_n dX5_wright_74 rfl) <|
  XPr.cons (xs_iast dX5_wright_75) <|
  XPr.cons (xs_aload_n dX5_wright_76 rfl) <|
  XPr.cons (xs_get (T := TX5) rfl gX5 (Nat.le_of_ble_eq_true rfl) gw_733 dX5_wright_77) <|
  XPr.cons (xs_iconst dX5_wright_80 (by decide +kernel)) <|
  XPr.cons (xs_aload_n dX5_wright_81 rfl) <|
  XPr.cons (xs_get (T := TX5) rfl gX5 (Nat.le_of_ble_eq_true rfl) gw_734 dX5_wright_82) <|
  XPr.cons (xs_imul dX5_wright_85) <|
  XPr.cons (xs_iconst dX5_wright_86 (by decide +kernel)) <|
  XPr.cons (xs_iadd dX5_wright_87) <|
  XPr.cons (xs_iload_n dX5_wright_88 rfl) <|
  XPr.cons (xs_iast dX5_wright_89) <|
  XPr.cons (xs_aload_n dX5_wright_90 rfl) <|
  XPr.cons (xs_get (T := TX5) rfl gX5 (Nat.le_of_ble_eq_true rfl) gw_733 dX5_wright_91) <|
  XPr.cons (xs_iconst dX5_wright_94 (by decide +kernel)) <|
  XPr.cons (xs_aload_n dX5_wright_95 rfl) <|
  XPr.cons (xs_get (T := TX5) rfl gX5 (Nat.le_of_ble_eq_true rfl) gw_734 dX5_wright_96) <|
  XPr.cons (xs_imul dX5_wright_99) <|
  XPr.cons (xs_iconst dX5_wright_100 (by decide +kernel)) <|
  XPr.cons (xs_iadd dX5_wright_101) <|
  XPr.cons (xs_iconst dX5_wright_102 (by decide +kernel)) <|
  XPr.cons (xs_iast dX5_wright_103) <|
  XPr.cons (xs_aload_n dX5_wright_104 rfl) <|
  XPr.cons (xs_dupR dX5_wright_105) <|
  XPr.cons (xs_get (T := TX5) rfl gX5 (Nat.le_of_ble_eq_true rfl) gw_734 dX5_wright_106) <|
  XPr.cons (xs_iconst dX5_wright_109 (by decide +kernel)) <|
  XPr.cons (xs_iadd dX5_wright_110) <|
  XPr.cons (xs_putI (T := TX5) rfl gX5 tyX5_ok nmX5 (Nat.le_of_ble_eq_true rfl) gw_734 rfl (by decide +kernel) dX5_wright_111) <|
  XPr.cons (xs_aload_n dX5_wright_114 rfl) <|
  XPr.cons (xs_get (T := TX5) rfl gX5 (Nat.le_of_ble_eq_true rfl) gw_734 dX5_wright_115) <|
  XPr.cons (xs_iconst dX5_wright_118 (by decide +kernel)) <|
  XPr.cons (xs_isub dX5_wright_119) <|
  XPr.cons (xs_iret rfl dX5_wright_120) <|
  XPr.nil
def pX5_wright : List (Nat × XOp) := pX5_wright_0 ++ pX5_wright_1
theorem sX5_wright : XPr RX5 cX5_wright 4 (some .int) 10 pX5_wright := (sX5_wright_0).app sX5_wright_1
def pX5_told_0 : List (Nat × XOp) := [(0, xo_il 2 1), (1, xo_i2l 2), (2, xo_lc 0 3), (3, xo_lc 11 6), (6, xo_q3 f_in 9), (9, xo_if_eq 21 12), (12, xo_al 0 13), (13, xo_il 2 14), (14, xo_il 1 15), (15, xo_callV yX5_isOf cX5_isOf 3 (some .boolean) 2 5 18), (18, xo_if_ne 25 21), (21, xo_ic (-1000) 24), (24, xo_iret), (25, xo_il 2 26), (26, xo_ic 4 27), (27, xo_ic_ge 72 30), (30, xo_il 2 31), (31, xo_if_ne 41 34), (34, xo_al 0 35), (35, xo_get 5 7 38), (38, xo_goto 71), (41, xo_il 2 42), (42, xo_ic 1 43), (43, xo_ic_ne 53 46), (46, xo_al 0 47), (47, xo_get 5 8 50), (50, xo_goto 71), (53, xo_il 2 54), (54, xo_ic 2 55), (55, xo_ic_ne 65 58), (58, xo_al 0 59), (59, xo_get 5 9 62), (62, xo_goto 71), (65, xo_al 0 66), (66, xo_get 5 11 69), (69, xo_il 1 70), (70, xo_iald 71), (71, xo_iret), (72, xo_il 2 73), (73, xo_ic 8 75)]
theorem sX5_told_0 : XPr RX5 cX5_told 3 (some .int) 10 pX5_told_0 :=
  XPr.cons (xs_iload_n dX5_told_0 rfl) <|
  XPr.cons (xs_i2l dX5_told_1) <|
  XPr.cons (xs_lconst dX5_told_2 (by decide +kernel)) <|
  XPr.cons (xs_ldc2 gw_888 dX5_told_3) <|
  XPr.cons (xs_q3 (xs_callS gw_866 gw_867 gw_77 gw_868 (by decide +kernel) (Nat.le_of_ble_eq_true rfl) dX5_told_6) c_X5_in (Nat.le_of_ble_eq_true rfl)) <|
  XPr.cons (xs_if_eq dX5_told_9 (by decide +kernel)) <|
  XPr.cons (xs_aload_n dX5_told_12 rfl) <|
  XPr.cons (xs_iload_n dX5_told_13 rfl) <|
  XPr.cons (xs_iload_n dX5_told_14 rfl) <|
  XPr.cons (xs_callV (T := TX5) rfl gw_869 gw_871 gw_28 gw_77 gw_872 (by decide +kernel) (Nat.le_of_ble_eq_true rfl) dX5_told_15) <|
  XPr.cons (xs_if_ne dX5_told_18 (by decide +kernel)) <|
  XPr.cons (xs_sipush dX5_told_21 (by decide +kernel)) <|
  XPr.cons (xs_iret rfl dX5_told_24) <|
  XPr.cons (xs_iload_n dX5_told_25 rfl) <|
  XPr.cons (xs_iconst dX5_told_26 (by decide +kernel)) <|
  XPr.cons (xs_ic_ge dX5_told_27 (by decide +kernel)) <|
  XPr.cons (xs_iload_n dX5_told_30 rfl) <|
  XPr.cons (xs_if_ne dX5_told_31 (by decide +kernel)) <|
  XPr.cons (xs_aload_n dX5_told_34 rfl) <|
  XPr.cons (xs_get (T := TX5) rfl gX5 (Nat.le_of_ble_eq_true rfl) gw_728 dX5_told_35) <|
  XPr.cons (xs_goto dX5_told_38 (by decide +kernel)) <|
  XPr.cons (xs_iload_n dX5_told_41 rfl) <|
  XPr.cons (xs_iconst dX5_told_42 (by decide +kernel)) <|
  XPr.cons (xs_ic_ne dX5_told_43 (by decide +kernel)) <|
  XPr.cons (xs_aload_n dX5_told_46 rfl) <|
  XPr.cons (xs_get (T := TX5) rfl gX5 (Nat.le_of_ble_eq_true rfl) gw_729 dX5_told_47) <|
  XPr.cons (xs_goto dX5_told_50 (by decide +kernel)) <|
  XPr.cons (xs_iload_n dX5_told_53 rfl) <|
  XPr.cons (xs_iconst dX5_told_54 (by decide +kernel)) <|
  XPr.cons (xs_ic_ne dX5_told_55 (by decide +kernel)) <|
  XPr.cons (xs_aload_n dX5_told_58 rfl) <|
  XPr.cons (xs_get (T := TX5) rfl gX5 (Nat.le_of_ble_eq_true rfl) gw_730 dX5_told_59) <|
  XPr.cons (xs_goto dX5_told_62 (by decide +kernel)) <|
  XPr.cons (xs_aload_n dX5_told_65 rfl) <|
  XPr.cons (xs_get (T := TX5) rfl gX5 (Nat.le_of_ble_eq_true rfl) gw_732 dX5_told_66) <|
  XPr.cons (xs_iload_n dX5_told_69 rfl) <|
  XPr.cons (xs_iald dX5_told_70) <|
  XPr.cons (xs_iret rfl dX5_told_71) <|
  XPr.cons (xs_iload_n dX5_told_72 rfl) <|
  XPr.cons (xs_bipush dX5_told_73 (by decide +kernel)) <|
  XPr.nil
def pX5_told_1 : List (Nat × XOp) := [(75, xo_ic_ge 91 78), (78, xo_al 0 79), (79, xo_get 5 12 82), (82, xo_ic 4 83), (83, xo_il 1 84), (84, xo_imul 85), (85, xo_il 2 86), (86, xo_iadd 87), (87, xo_ic 4 88), (88, xo_isub 89), (89, xo_iald 90), (90, xo_iret), (91, xo_il 2 92), (92, xo_ic 8 94), (94, xo_ic_ne 105 97), (97, xo_al 0 98), (98, xo_il 1 99), (99, xo_callV yX5_madeBy cX5_madeBy 4 (some .int) 1 5 102), (102, xo_goto 139), (105, xo_il 2 106), (106, xo_ic 9 108), (108, xo_ic_ne 119 111), (111, xo_al 0 112), (112, xo_il 1 113), (113, xo_callV yX5_pumpsOf cX5_pumpsOf 5 (some .int) 1 5 116), (116, xo_goto 139), (119, xo_il 2 120), (120, xo_ic 10 122), (122, xo_ic_ne 134 125), (125, xo_al 0 126), (126, xo_get 5 10 129), (129, xo_il 1 130), (130, xo_iald 131), (131, xo_goto 139), (134, xo_al 0 135), (135, xo_il 1 136), (136, xo_callV yX5_leaksOf cX5_leaksOf 3 (some .int) 1 5 139), (139, xo_iret)]
theorem sX5_told_1 : XPr RX5 cX5_told 3 (some .int) 10 pX5_told_1 :=
  XPr.cons (xs_ic_ge dX5_told_75 (by decide +kernel)) <|
  XPr.cons (xs_aload_n dX5_told_78 rfl) <|
  XPr.cons (xs_get (T := TX5) rfl gX5 (Nat.le_of_ble_eq_true rfl) gw_733 dX5_told_79) <|
  XPr.cons (xs_iconst dX5_told_82 (by decide +kernel)) <|
  XPr.cons (xs_iload_n dX5_told_83 rfl) <|
  XPr.cons (xs_imul dX5_told_84) <|
  XPr.cons (xs_iload_n dX5_told_85 rfl) <|
  XPr.cons (xs_iadd dX5_told_86) <|
  XPr.cons (xs_iconst dX5_told_87 (by decide +kernel)) <|
  XPr.cons (xs_isub dX5_told_88) <|
  XPr.cons (xs_iald dX5_told_89) <|
  XPr.cons (xs_iret rfl dX5_told_90) <|
  XPr.cons (xs_iload_n dX5_told_91 rfl) <|
  XPr.cons (xs_bipush dX5_told_92 (by decide +kernel)) <|
  XPr.cons (xs_ic_ne dX5_told_94 (by decide +kernel)) <|
  XPr.cons (xs_aload_n dX5_told_97 rfl) <|
  XPr.cons (xs_iload_n dX5_told_98 rfl) <|
  XPr.cons (xs_callV (T := TX5) rfl gw_889 gw_891 gw_30 gw_77 gw_892 (by decide +kernel) (Nat.le_of_ble_eq_true rfl) dX5_told_99) <|
  XPr.cons (xs_goto dX5_told_102 (by decide +kernel)) <|
  XPr.cons (xs_iload_n dX5_told_105 rfl) <|
  XPr.cons (xs_bipush dX5_told_106 (by decide +kernel)) <|
  XPr.cons (xs_ic_ne dX5_told_108 (by decide +kernel)) <|
  XPr.cons (xs_aload_n dX5_told_111 rfl) <|
  XPr.cons (xs_iload_n dX5_told_112 rfl) <|
  XPr.cons (xs_callV (T := TX5) rfl gw_893 gw_895 gw_31 gw_77 gw_896 (by decide +kernel) (Nat.le_of_ble_eq_true rfl) dX5_told_113) <|
  XPr.cons (xs_goto dX5_told_116 (by decide +kernel)) <|
  XPr.cons (xs_iload_n dX5_told_119 rfl) <|
  XPr.cons (xs_bipush dX5_told_120 (by decide +kernel)) <|
  XPr.cons (xs_ic_ne dX5_told_122 (by decide +kernel)) <|
  XPr.cons (xs_aload_n dX5_told_125 rfl) <|
  XPr.cons (xs_get (T := TX5) rfl gX5 (Nat.le_of_ble_eq_true rfl) gw_731 dX5_told_126) <|
  XPr.cons (xs_iload_n dX5_told_129 rfl) <|
  XPr.cons (xs_iald dX5_told_130) <|
  XPr.cons (xs_goto dX5_told_131 (by decide +kernel)) <|
  XPr.cons (xs_aload_n dX5_told_134 rfl) <|
  XPr.cons (xs_iload_n dX5_told_135 rfl) <|
  XPr.cons (xs_callV (T := TX5) rfl gw_986 gw_988 gw_51 gw_77 gw_989 (by decide +kernel) (Nat.le_of_ble_eq_true rfl) dX5_told_136) <|
  XPr.cons (xs_iret rfl dX5_told_139) <|
  XPr.nil
def pX5_told : List (Nat × XOp) := pX5_told_0 ++ pX5_told_1
theorem sX5_told : XPr RX5 cX5_told 3 (some .int) 10 pX5_told := (sX5_told_0).app sX5_told_1
def pX5_madeBy : List (Nat × XOp) := [(0, xo_ic 0 1), (1, xo_is 2 2), (2, xo_ic 0 3), (3, xo_is 3 4), (4, xo_il 3 5), (5, xo_ic 10 7), (7, xo_ic_ge 36 10), (10, xo_il 2 11), (11, xo_al 0 12), (12, xo_get 5 10 15), (15, xo_il 3 16), (16, xo_iald 17), (17, xo_il 1 18), (18, xo_ic_ne 25 21), (21, xo_ic 1 22), (22, xo_goto 26), (25, xo_ic 0 26), (26, xo_il 3 27), (27, xo_ishl 28), (28, xo_ior 29), (29, xo_is 2 30), (30, xo_inc 3 1 33), (33, xo_goto 4), (36, xo_il 2 37), (37, xo_iret)]
theorem sX5_madeBy : XPr RX5 cX5_madeBy 4 (some .int) 10 pX5_madeBy :=
  XPr.cons (xs_iconst dX5_madeBy_0 (by decide +kernel)) <|
  XPr.cons (xs_istore_n dX5_madeBy_1 rfl (Nat.le_of_ble_eq_true rfl)) <|
  XPr.cons (xs_iconst dX5_madeBy_2 (by decide +kernel)) <|
  XPr.cons (xs_istore_n dX5_madeBy_3 rfl (Nat.le_of_ble_eq_true rfl)) <|
  XPr.cons (xs_iload_n dX5_madeBy_4 rfl) <|
  XPr.cons (xs_bipush dX5_madeBy_5 (by decide +kernel)) <|
  XPr.cons (xs_ic_ge dX5_madeBy_7 (by decide +kernel)) <|
  XPr.cons (xs_iload_n dX5_madeBy_10 rfl) <|
  XPr.cons (xs_aload_n dX5_madeBy_11 rfl) <|
  XPr.cons (xs_get (T := TX5) rfl gX5 (Nat.le_of_ble_eq_true rfl) gw_731 dX5_madeBy_12) <|
  XPr.cons (xs_iload_n dX5_madeBy_15 rfl) <|
  XPr.cons (xs_iald dX5_madeBy_16) <|
  XPr.cons (xs_iload_n dX5_madeBy_17 rfl) <|
  XPr.cons (xs_ic_ne dX5_madeBy_18 (by decide +kernel)) <|
  XPr.cons (xs_iconst dX5_madeBy_21 (by decide +kernel)) <|
  XPr.cons (xs_goto dX5_madeBy_22 (by decide +kernel)) <|
  XPr.cons (xs_iconst dX5_madeBy_25 (by decide +kernel)) <|
  XPr.cons (xs_iload_n dX5_madeBy_26 rfl) <|
  XPr.cons (xs_ishl dX5_madeBy_27) <|
  XPr.cons (xs_ior dX5_madeBy_28) <|
  XPr.cons (xs_istore_n dX5_madeBy_29 rfl (Nat.le_of_ble_eq_true rfl)) <|
  XPr.cons (xs_iinc dX5_madeBy_30 (by decide +kernel) (Nat.le_of_ble_eq_true rfl)) <|
  XPr.cons (xs_goto dX5_madeBy_33 (by decide +kernel)) <|
  XPr.cons (xs_iload_n dX5_madeBy_36 rfl) <|
  XPr.cons (xs_iret rfl dX5_madeBy_37) <|
  XPr.nil
def pX5_isAt : List (Nat × XOp) := [(0, xo_al 0 1), (1, xo_get 5 12 4), (4, xo_ic 4 5), (5, xo_il 1 6), (6, xo_imul 7), (7, xo_ic 3 8), (8, xo_iadd 9), (9, xo_iald 10), (10, xo_il 2 11), (11, xo_ic_ne 18 14), (14, xo_ic 1 15), (15, xo_goto 19), (18, xo_ic 0 19), (19, xo_zret)]
theorem sX5_isAt : XPr RX5 cX5_isAt 3 (some .boolean) 10 pX5_isAt :=
  XPr.cons (xs_aload_n dX5_isAt_0 rfl) <|
  XPr.cons (xs_get (T := TX5) rfl gX5 (Nat.le_of_ble_eq_true rfl) gw_733 dX5_isAt_1) <|
  XPr.cons (xs_iconst dX5_isAt_4 (by decide +kernel)) <|
  XPr.cons (xs_iload_n dX5_isAt_5 rfl) <|
  XPr.cons (xs_imul dX5_isAt_6) <|
  XPr.cons (xs_iconst dX5_isAt_7 (by decide +kernel)) <|
  XPr.cons (xs_iadd dX5_isAt_8) <|
  XPr.cons (xs_iald dX5_isAt_9) <|
  XPr.cons (xs_iload_n dX5_isAt_10 rfl) <|
  XPr.cons (xs_ic_ne dX5_isAt_11 (by decide +kernel)) <|
  XPr.cons (xs_iconst dX5_isAt_14 (by decide +kernel)) <|
  XPr.cons (xs_goto dX5_isAt_15 (by decide +kernel)) <|
  XPr.cons (xs_iconst dX5_isAt_18 (by decide +kernel)) <|
  XPr.cons (xs_zret rfl dX5_isAt_19) <|
  XPr.nil
def pX5_whoIs : List (Nat × XOp) := [(0, xo_ic 0 1), (1, xo_is 2 2), (2, xo_ic 0 3), (3, xo_is 3 4), (4, xo_il 3 5), (5, xo_al 0 6), (6, xo_get 5 13 9), (9, xo_ic_ge 37 12), (12, xo_il 2 13), (13, xo_al 0 14), (14, xo_il 3 15), (15, xo_il 1 16), (16, xo_callV yX5_isAt cX5_isAt 3 (some .boolean) 2 5 19), (19, xo_if_eq 26 22), (22, xo_ic 1 23), (23, xo_goto 27), (26, xo_ic 0 27), (27, xo_il 3 28), (28, xo_ishl 29), (29, xo_ior 30), (30, xo_is 2 31), (31, xo_inc 3 1 34), (34, xo_goto 4), (37, xo_il 2 38), (38, xo_iret)]
theorem sX5_whoIs : XPr RX5 cX5_whoIs 4 (some .int) 10 pX5_whoIs :=
  XPr.cons (xs_iconst dX5_whoIs_0 (by decide +kernel)) <|
  XPr.cons (xs_istore_n dX5_whoIs_1 rfl (Nat.le_of_ble_eq_true rfl)) <|
  XPr.cons (xs_iconst dX5_whoIs_2 (by decide +kernel)) <|
  XPr.cons (xs_istore_n dX5_whoIs_3 rfl (Nat.le_of_ble_eq_true rfl)) <|
  XPr.cons (xs_iload_n dX5_whoIs_4 rfl) <|
  XPr.cons (xs_aload_n dX5_whoIs_5 rfl) <|
  XPr.cons (xs_get (T := TX5) rfl gX5 (Nat.le_of_ble_eq_true rfl) gw_734 dX5_whoIs_6) <|
  XPr.cons (xs_ic_ge dX5_whoIs_9 (by decide +kernel)) <|
  XPr.cons (xs_iload_n dX5_whoIs_12 rfl) <|
  XPr.cons (xs_aload_n dX5_whoIs_13 rfl) <|
  XPr.cons (xs_iload_n dX5_whoIs_14 rfl) <|
  XPr.cons (xs_iload_n dX5_whoIs_15 rfl) <|
  XPr.cons (xs_callV (T := TX5) rfl gw_979 gw_981 gw_50 gw_77 gw_982 (by decide +kernel) (Nat.le_of_ble_eq_true rfl) dX5_whoIs_16) <|
  XPr.cons (xs_if_eq dX5_whoIs_19 (by decide +kernel)) <|
  XPr.cons (xs_iconst dX5_whoIs_22 (by decide +kernel)) <|
  XPr.cons (xs_goto dX5_whoIs_23 (by decide +kernel)) <|
  XPr.cons (xs_iconst dX5_whoIs_26 (by decide +kernel)) <|
  XPr.cons (xs_iload_n dX5_whoIs_27 rfl) <|
  XPr.cons (xs_ishl dX5_whoIs_28) <|
  XPr.cons (xs_ior dX5_whoIs_29) <|
  XPr.cons (xs_istore_n dX5_whoIs_30 rfl (Nat.le_of_ble_eq_true rfl)) <|
  XPr.cons (xs_iinc dX5_whoIs_31 (by decide +kernel) (Nat.le_of_ble_eq_true rfl)) <|
  XPr.cons (xs_goto dX5_whoIs_34 (by decide +kernel)) <|
  XPr.cons (xs_iload_n dX5_whoIs_37 rfl) <|
  XPr.cons (xs_iret rfl dX5_whoIs_38) <|
  XPr.nil
def pX5_feed : List (Nat × XOp) := [(0, xo_il 1 1), (1, xo_i2l 2), (2, xo_lc 0 3), (3, xo_lc 255 6), (6, xo_q3 f_in 9), (9, xo_if_ne 15 12), (12, xo_ic (-2) 14), (14, xo_iret), (15, xo_al 0 16), (16, xo_get 5 6 19), (19, xo_ic 160 22), (22, xo_ic_ne 28 25), (25, xo_ic (-4) 27), (27, xo_iret), (28, xo_al 0 29), (29, xo_get 5 5 32), (32, xo_al 0 33), (33, xo_get 5 6 36), (36, xo_il 1 37), (37, xo_iast 38), (38, xo_al 0 39), (39, xo_dupR 40), (40, xo_get 5 6 43), (43, xo_ic 1 44), (44, xo_iadd 45), (45, xo_putI 5 6 48), (48, xo_al 0 49), (49, xo_get 5 6 52), (52, xo_iret)]
theorem sX5_feed : XPr RX5 cX5_feed 2 (some .int) 10 pX5_feed :=
  XPr.cons (xs_iload_n dX5_feed_0 rfl) <|
  XPr.cons (xs_i2l dX5_feed_1) <|
  XPr.cons (xs_lconst dX5_feed_2 (by decide +kernel)) <|
  XPr.cons (xs_ldc2 gw_1007 dX5_feed_3) <|
  XPr.cons (xs_q3 (xs_callS gw_866 gw_867 gw_77 gw_868 (by decide +kernel) (Nat.le_of_ble_eq_true rfl) dX5_feed_6) c_X5_in (Nat.le_of_ble_eq_true rfl)) <|
  XPr.cons (xs_if_ne dX5_feed_9 (by decide +kernel)) <|
  XPr.cons (xs_bipush dX5_feed_12 (by decide +kernel)) <|
  XPr.cons (xs_iret rfl dX5_feed_14) <|
  XPr.cons (xs_aload_n dX5_feed_15 rfl) <|
  XPr.cons (xs_get (T := TX5) rfl gX5 (Nat.le_of_ble_eq_true rfl) gw_727 dX5_feed_16) <|
  XPr.cons (xs_sipush dX5_feed_19 (by decide +kernel)) <|
  XPr.cons (xs_ic_ne dX5_feed_22 (by decide +kernel)) <|
  XPr.cons (xs_bipush dX5_feed_25 (by decide +kernel)) <|
  XPr.cons (xs_iret rfl dX5_feed_27) <|
  XPr.cons (xs_aload_n dX5_feed_28 rfl) <|
  XPr.cons (xs_get (T := TX5) rfl gX5 (Nat.le_of_ble_eq_true rfl) gw_726 dX5_feed_29) <|
  XPr.cons (xs_aload_n dX5_feed_32 rfl) <|
  XPr.cons (xs_get (T := TX5) rfl gX5 (Nat.le_of_ble_eq_true rfl) gw_727 dX5_feed_33) <|
  XPr.cons (xs_iload_n dX5_feed_36 rfl) <|
  XPr.cons (xs_iast dX5_feed_37) <|
  XPr.cons (xs_aload_n dX5_feed_38 rfl) <|
  XPr.cons (xs_dupR dX5_feed_39) <|
  XPr.cons (xs_get (T := TX5) rfl gX5 (Nat.le_of_ble_eq_true rfl) gw_727 dX5_feed_40) <|
  XPr.cons (xs_iconst dX5_feed_43 (by decide +kernel)) <|
  XPr.cons (xs_iadd dX5_feed_44) <|
  XPr.cons (xs_putI (T := TX5) rfl gX5 tyX5_ok nmX5 (Nat.le_of_ble_eq_true rfl) gw_727 rfl (by decide +kernel) dX5_feed_45) <|
  XPr.cons (xs_aload_n dX5_feed_48 rfl) <|
  XPr.cons (xs_get (T := TX5) rfl gX5 (Nat.le_of_ble_eq_true rfl) gw_727 dX5_feed_49) <|
  XPr.cons (xs_iret rfl dX5_feed_52) <|
  XPr.nil
def pX5_byteAt : List (Nat × XOp) := [(0, xo_il 1 1), (1, xo_al 0 2), (2, xo_get 5 21 5), (5, xo_ic_ge 22 8), (8, xo_al 0 9), (9, xo_get 5 1 12), (12, xo_al 0 13), (13, xo_get 5 20 16), (16, xo_il 1 17), (17, xo_iadd 18), (18, xo_iald 19), (19, xo_goto 23), (22, xo_ic (-1) 23), (23, xo_iret)]
theorem sX5_byteAt : XPr RX5 cX5_byteAt 2 (some .int) 10 pX5_byteAt :=
  XPr.cons (xs_iload_n dX5_byteAt_0 rfl) <|
  XPr.cons (xs_aload_n dX5_byteAt_1 rfl) <|
  XPr.cons (xs_get (T := TX5) rfl gX5 (Nat.le_of_ble_eq_true rfl) gw_742 dX5_byteAt_2) <|
  XPr.cons (xs_ic_ge dX5_byteAt_5 (by decide +kernel)) <|
  XPr.cons (xs_aload_n dX5_byteAt_8 rfl) <|
  XPr.cons (xs_get (T := TX5) rfl gX5 (Nat.le_of_ble_eq_true rfl) gw_722 dX5_byteAt_9) <|
  XPr.cons (xs_aload_n dX5_byteAt_12 rfl) <|
  XPr.cons (xs_get (T := TX5) rfl gX5 (Nat.le_of_ble_eq_true rfl) gw_741 dX5_byteAt_13) <|
  XPr.cons (xs_iload_n dX5_byteAt_16 rfl) <|
  XPr.cons (xs_iadd dX5_byteAt_17) <|
  XPr.cons (xs_iald dX5_byteAt_18) <|
  XPr.cons (xs_goto dX5_byteAt_19 (by decide +kernel)) <|
  XPr.cons (xs_iconst dX5_byteAt_22 (by decide +kernel)) <|
  XPr.cons (xs_iret rfl dX5_byteAt_23) <|
  XPr.nil
def pX5_next_0 : List (Nat × XOp) := [(0, xo_al 0 1), (1, xo_al 0 2), (2, xo_get 5 22 5), (5, xo_callV yX5_byteAt cX5_byteAt 2 (some .int) 1 5 8), (8, xo_ic 32 10), (10, xo_ic_eq 26 13), (13, xo_al 0 14), (14, xo_al 0 15), (15, xo_get 5 22 18), (18, xo_callV yX5_byteAt cX5_byteAt 2 (some .int) 1 5 21), (21, xo_ic 10 23), (23, xo_ic_ne 39 26), (26, xo_al 0 27), (27, xo_dupR 28), (28, xo_get 5 22 31), (31, xo_ic 1 32), (32, xo_iadd 33), (33, xo_putI 5 22 36), (36, xo_goto 0), (39, xo_al 0 40), (40, xo_al 0 41), (41, xo_get 5 22 44), (44, xo_putI 5 24 47), (47, xo_al 0 48), (48, xo_al 0 49), (49, xo_get 5 22 52), (52, xo_callV yX5_byteAt cX5_byteAt 2 (some .int) 1 5 55), (55, xo_is 1 56), (56, xo_al 0 57), (57, xo_ic 4 58), (58, xo_putI 5 23 61), (61, xo_il 1 62), (62, xo_if_ge 81 65), (65, xo_al 0 66), (66, xo_ic 0 67), (67, xo_putI 5 23 70), (70, xo_al 0 71), (71, xo_al 0 72), (72, xo_get 5 21 75), (75, xo_putI 5 24 78)]
theorem sX5_next_0 : XPr RX5 cX5_next 3 none 10 pX5_next_0 :=
  XPr.cons (xs_aload_n dX5_next_0 rfl) <|
  XPr.cons (xs_aload_n dX5_next_1 rfl) <|
  XPr.cons (xs_get (T := TX5) rfl gX5 (Nat.le_of_ble_eq_true rfl) gw_743 dX5_next_2) <|
  XPr.cons (xs_callV (T := TX5) rfl gw_909 gw_911 gw_35 gw_77 gw_912 (by decide +kernel) (Nat.le_of_ble_eq_true rfl) dX5_next_5) <|
  XPr.cons (xs_bipush dX5_next_8 (by decide +kernel)) <|
  XPr.cons (xs_ic_eq dX5_next_10 (by decide +kernel)) <|
  XPr.cons (xs_aload_n dX5_next_13 rfl) <|
  XPr.cons (xs_aload_n dX5_next_14 rfl) <|
  XPr.cons (xs_get (T := TX5) rfl gX5 (Nat.le_of_ble_eq_true rfl) gw_743 dX5_next_15) <|
  XPr.cons (xs_callV (T := TX5) rfl gw_909 gw_911 gw_35 gw_77 gw_912 (by decide +kernel) (Nat.le_of_ble_eq_true rfl) dX5_next_18) <|
  XPr.cons (xs_bipush dX5_next_21 (by decide +kernel)) <|
  XPr.cons (xs_ic_ne dX5_next_23 (by decide +kernel)) <|
  XPr.cons (xs_aload_n dX5_next_26 rfl) <|
  XPr.cons (xs_dupR dX5_next_27) <|
  XPr.cons (xs_get (T := TX5) rfl gX5 (Nat.le_of_ble_eq_true rfl) gw_743 dX5_next_28) <|
  XPr.cons (xs_iconst dX5_next_31 (by decide +kernel)) <|
  XPr.cons (xs_iadd dX5_next_32) <|
  XPr.cons (xs_putI (T := TX5) rfl gX5 tyX5_ok nmX5 (Nat.le_of_ble_eq_true rfl) gw_743 rfl (by decide +kernel) dX5_next_33) <|
  XPr.cons (xs_goto dX5_next_36 (by decide +kernel)) <|
  XPr.cons (xs_aload_n dX5_next_39 rfl) <|
  XPr.cons (xs_aload_n dX5_next_40 rfl) <|
  XPr.cons (xs_get (T := TX5) rfl gX5 (Nat.le_of_ble_eq_true rfl) gw_743 dX5_next_41) <|
  XPr.cons (xs_putI (T := TX5) rfl gX5 tyX5_ok nmX5 (Nat.le_of_ble_eq_true rfl) gw_745 rfl (by decide +kernel) dX5_next_44) <|
  XPr.cons (xs_aload_n dX5_next_47 rfl) <|
  XPr.cons (xs_aload_n dX5_next_48 rfl) <|
  XPr.cons (xs_get (T := TX5) rfl gX5 (Nat.le_of_ble_eq_true rfl) gw_743 dX5_next_49) <|
  XPr.cons (xs_callV (T := TX5) rfl gw_909 gw_911 gw_35 gw_77 gw_912 (by decide +kernel) (Nat.le_of_ble_eq_true rfl) dX5_next_52) <|
  XPr.cons (xs_istore_n dX5_next_55 rfl (Nat.le_of_ble_eq_true rfl)) <|
  XPr.cons (xs_aload_n dX5_next_56 rfl) <|
  XPr.cons (xs_iconst dX5_next_57 (by decide +kernel)) <|
  XPr.cons (xs_putI (T := TX5) rfl gX5 tyX5_ok nmX5 (Nat.le_of_ble_eq_true rfl) gw_744 rfl (by decide +kernel) dX5_next_58) <|
  XPr.cons (xs_iload_n dX5_next_61 rfl) <|
  XPr.cons (xs_if_ge dX5_next_62 (by decide +kernel)) <|
  XPr.cons (xs_aload_n dX5_next_65 rfl) <|
  XPr.cons (xs_iconst dX5_next_66 (by decide +kernel)) <|
  XPr.cons (xs_putI (T := TX5) rfl gX5 tyX5_ok nmX5 (Nat.le_of_ble_eq_true rfl) gw_744 rfl (by decide +kernel) dX5_next_67) <|
  XPr.cons (xs_aload_n dX5_next_70 rfl) <|
  XPr.cons (xs_aload_n dX5_next_71 rfl) <|
  XPr.cons (xs_get (T := TX5) rfl gX5 (Nat.le_of_ble_eq_true rfl) gw_742 dX5_next_72) <|
  XPr.cons (xs_putI (T := TX5) rfl gX5 tyX5_ok nmX5 (Nat.le_of_ble_eq_true rfl) gw_745 rfl (by decide +kernel) dX5_next_75) <|
  XPr.nil
def pX5_next_1 : List (Nat × XOp) := [(78, xo_goto 321), (81, xo_il 1 82), (82, xo_i2l 83), (83, xo_lc 97 86), (86, xo_lc 122 89), (89, xo_q3 f_in 92), (92, xo_if_eq 134 95), (95, xo_al 0 96), (96, xo_ic 1 97), (97, xo_putI 5 23 100), (100, xo_al 0 101), (101, xo_al 0 102), (102, xo_get 5 22 105), (105, xo_callV yX5_byteAt cX5_byteAt 2 (some .int) 1 5 108), (108, xo_i2l 109), (109, xo_lc 97 112), (112, xo_lc 122 115), (115, xo_q3 f_in 118), (118, xo_if_eq 321 121), (121, xo_al 0 122), (122, xo_dupR 123), (123, xo_get 5 22 126), (126, xo_ic 1 127), (127, xo_iadd 128), (128, xo_putI 5 22 131), (131, xo_goto 100), (134, xo_il 1 135), (135, xo_i2l 136), (136, xo_lc 48 139), (139, xo_lc 57 142), (142, xo_q3 f_in 145), (145, xo_if_eq 252 148), (148, xo_al 0 149), (149, xo_ic 2 150), (150, xo_putI 5 23 153), (153, xo_al 0 154), (154, xo_lc 0 155), (155, xo_putJ 5 25 158), (158, xo_ic 0 159), (159, xo_is 2 160)]
theorem sX5_next_1 : XPr RX5 cX5_next 3 none 10 pX5_next_1 :=
  XPr.cons (xs_goto dX5_next_78 (by decide +kernel)) <|
  XPr.cons (xs_iload_n dX5_next_81 rfl) <|
  XPr.cons (xs_i2l dX5_next_82) <|
  XPr.cons (xs_ldc2 gw_913 dX5_next_83) <|
  XPr.cons (xs_ldc2 gw_914 dX5_next_86) <|
  XPr.cons (xs_q3 (xs_callS gw_866 gw_867 gw_77 gw_868 (by decide +kernel) (Nat.le_of_ble_eq_true rfl) dX5_next_89) c_X5_in (Nat.le_of_ble_eq_true rfl)) <|
  XPr.cons (xs_if_eq dX5_next_92 (by decide +kernel)) <|
  XPr.cons (xs_aload_n dX5_next_95 rfl) <|
  XPr.cons (xs_iconst dX5_next_96 (by decide +kernel)) <|
  XPr.cons (xs_putI (T := TX5) rfl gX5 tyX5_ok nmX5 (Nat.le_of_ble_eq_true rfl) gw_744 rfl (by decide +kernel) dX5_next_97) <|
  XPr.cons (xs_aload_n dX5_next_100 rfl) <|
  XPr.cons (xs_aload_n dX5_next_101 rfl) <|
  XPr.cons (xs_get (T := TX5) rfl gX5 (Nat.le_of_ble_eq_true rfl) gw_743 dX5_next_102) <|
  XPr.cons (xs_callV (T := TX5) rfl gw_909 gw_911 gw_35 gw_77 gw_912 (by decide +kernel) (Nat.le_of_ble_eq_true rfl) dX5_next_105) <|
  XPr.cons (xs_i2l dX5_next_108) <|
  XPr.cons (xs_ldc2 gw_913 dX5_next_109) <|
  XPr.cons (xs_ldc2 gw_914 dX5_next_112) <|
  XPr.cons (xs_q3 (xs_callS gw_866 gw_867 gw_77 gw_868 (by decide +kernel) (Nat.le_of_ble_eq_true rfl) dX5_next_115) c_X5_in (Nat.le_of_ble_eq_true rfl)) <|
  XPr.cons (xs_if_eq dX5_next_118 (by decide +kernel)) <|
  XPr.cons (xs_aload_n dX5_next_121 rfl) <|
  XPr.cons (xs_dupR dX5_next_122) <|
  XPr.cons (xs_get (T := TX5) rfl gX5 (Nat.le_of_ble_eq_true rfl) gw_743 dX5_next_123) <|
  XPr.cons (xs_iconst dX5_next_126 (by decide +kernel)) <|
  XPr.cons (xs_iadd dX5_next_127) <|
  XPr.cons (xs_putI (T := TX5) rfl gX5 tyX5_ok nmX5 (Nat.le_of_ble_eq_true rfl) gw_743 rfl (by decide +kernel) dX5_next_128) <|
  XPr.cons (xs_goto dX5_next_131 (by decide +kernel)) <|
  XPr.cons (xs_iload_n dX5_next_134 rfl) <|
  XPr.cons (xs_i2l dX5_next_135) <|
  XPr.cons (xs_ldc2 gw_915 dX5_next_136) <|
  XPr.cons (xs_ldc2 gw_916 dX5_next_139) <|
  XPr.cons (xs_q3 (xs_callS gw_866 gw_867 gw_77 gw_868 (by decide +kernel) (Nat.le_of_ble_eq_true rfl) dX5_next_142) c_X5_in (Nat.le_of_ble_eq_true rfl)) <|
  XPr.cons (xs_if_eq dX5_next_145 (by decide +kernel)) <|
  XPr.cons (xs_aload_n dX5_next_148 rfl) <|
  XPr.cons (xs_iconst dX5_next_149 (by decide +kernel)) <|
  XPr.cons (xs_putI (T := TX5) rfl gX5 tyX5_ok nmX5 (Nat.le_of_ble_eq_true rfl) gw_744 rfl (by decide +kernel) dX5_next_150) <|
  XPr.cons (xs_aload_n dX5_next_153 rfl) <|
  XPr.cons (xs_lconst dX5_next_154 (by decide +kernel)) <|
  XPr.cons (xs_putJ (T := TX5) rfl gX5 tyX5_ok nmX5 (Nat.le_of_ble_eq_true rfl) gw_746 rfl (by decide +kernel) dX5_next_155) <|
  XPr.cons (xs_iconst dX5_next_158 (by decide +kernel)) <|
  XPr.cons (xs_istore_n dX5_next_159 rfl (Nat.le_of_ble_eq_true rfl)) <|
  XPr.nil
def pX5_next_2 : List (Nat × XOp) := [(160, xo_al 0 161), (161, xo_al 0 162), (162, xo_get 5 22 165), (165, xo_callV yX5_byteAt cX5_byteAt 2 (some .int) 1 5 168), (168, xo_i2l 169), (169, xo_lc 48 172), (172, xo_lc 57 175), (175, xo_q3 f_in 178), (178, xo_if_eq 235 181), (181, xo_al 0 182), (182, xo_il 2 183), (183, xo_ic 4 184), (184, xo_ic_ge 212 187), (187, xo_lc 10 190), (190, xo_al 0 191), (191, xo_get 5 25 194), (194, xo_lmul 195), (195, xo_al 0 196), (196, xo_al 0 197), (197, xo_get 5 22 200), (200, xo_callV yX5_byteAt cX5_byteAt 2 (some .int) 1 5 203), (203, xo_i2l 204), (204, xo_ladd 205), (205, xo_lc 48 208), (208, xo_lsub 209), (209, xo_goto 216), (212, xo_al 0 213), (213, xo_get 5 25 216), (216, xo_putJ 5 25 219), (219, xo_inc 2 1 222), (222, xo_al 0 223), (223, xo_dupR 224), (224, xo_get 5 22 227), (227, xo_ic 1 228), (228, xo_iadd 229), (229, xo_putI 5 22 232), (232, xo_goto 160), (235, xo_al 0 236), (236, xo_il 2 237), (237, xo_ic 4 238)]
theorem sX5_next_2 : XPr RX5 cX5_next 3 none 10 pX5_next_2 :=
  XPr.cons (xs_aload_n dX5_next_160 rfl) <|
  XPr.cons (xs_aload_n dX5_next_161 rfl) <|
  XPr.cons (xs_get (T := TX5) rfl gX5 (Nat.le_of_ble_eq_true rfl) gw_743 dX5_next_162) <|
  XPr.cons (xs_callV (T := TX5) rfl gw_909 gw_911 gw_35 gw_77 gw_912 (by decide +kernel) (Nat.le_of_ble_eq_true rfl) dX5_next_165) <|
  XPr.cons (xs_i2l dX5_next_168) <|
  XPr.cons (xs_ldc2 gw_915 dX5_next_169) <|
  XPr.cons (xs_ldc2 gw_916 dX5_next_172) <|
  XPr.cons (xs_q3 (xs_callS gw_866 gw_867 gw_77 gw_868 (by decide +kernel) (Nat.le_of_ble_eq_true rfl) dX5_next_175) c_X5_in (Nat.le_of_ble_eq_true rfl)) <|
  XPr.cons (xs_if_eq dX5_next_178 (by decide +kernel)) <|
  XPr.cons (xs_aload_n dX5_next_181 rfl) <|
  XPr.cons (xs_iload_n dX5_next_182 rfl) <|
  XPr.cons (xs_iconst dX5_next_183 (by decide +kernel)) <|
  XPr.cons (xs_ic_ge dX5_next_184 (by decide +kernel)) <|
  XPr.cons (xs_ldc2 gw_917 dX5_next_187) <|
  XPr.cons (xs_aload_n dX5_next_190 rfl) <|
  XPr.cons (xs_get (T := TX5) rfl gX5 (Nat.le_of_ble_eq_true rfl) gw_746 dX5_next_191) <|
  XPr.cons (xs_lmul dX5_next_194) <|
  XPr.cons (xs_aload_n dX5_next_195 rfl) <|
  XPr.cons (xs_aload_n dX5_next_196 rfl) <|
  XPr.cons (xs_get (T := TX5) rfl gX5 (Nat.le_of_ble_eq_true rfl) gw_743 dX5_next_197) <|
  XPr.cons (xs_callV (T := TX5) rfl gw_909 gw_911 gw_35 gw_77 gw_912 (by decide +kernel) (Nat.le_of_ble_eq_true rfl) dX5_next_200) <|
  XPr.cons (xs_i2l dX5_next_203) <|
  XPr.cons (xs_ladd dX5_next_204) <|
  XPr.cons (xs_ldc2 gw_915 dX5_next_205) <|
  XPr.cons (xs_lsub dX5_next_208) <|
  XPr.cons (xs_goto dX5_next_209 (by decide +kernel)) <|
  XPr.cons (xs_aload_n dX5_next_212 rfl) <|
  XPr.cons (xs_get (T := TX5) rfl gX5 (Nat.le_of_ble_eq_true rfl) gw_746 dX5_next_213) <|
  XPr.cons (xs_putJ (T := TX5) rfl gX5 tyX5_ok nmX5 (Nat.le_of_ble_eq_true rfl) gw_746 rfl (by decide +kernel) dX5_next_216) <|
  XPr.cons (xs_iinc dX5_next_219 (by decide +kernel) (Nat.le_of_ble_eq_true rfl)) <|
  XPr.cons (xs_aload_n dX5_next_222 rfl) <|
  XPr.cons (xs_dupR dX5_next_223) <|
  XPr.cons (xs_get (T := TX5) rfl gX5 (Nat.le_of_ble_eq_true rfl) gw_743 dX5_next_224) <|
  XPr.cons (xs_iconst dX5_next_227 (by decide +kernel)) <|
  XPr.cons (xs_iadd dX5_next_228) <|
  XPr.cons (xs_putI (T := TX5) rfl gX5 tyX5_ok nmX5 (Nat.le_of_ble_eq_true rfl) gw_743 rfl (by decide +kernel) dX5_next_229) <|
  XPr.cons (xs_goto dX5_next_232 (by decide +kernel)) <|
  XPr.cons (xs_aload_n dX5_next_235 rfl) <|
  XPr.cons (xs_iload_n dX5_next_236 rfl) <|
  XPr.cons (xs_iconst dX5_next_237 (by decide +kernel)) <|
  XPr.nil
def pX5_next_3 : List (Nat × XOp) := [(238, xo_ic_le 245 241), (241, xo_ic 4 242), (242, xo_goto 246), (245, xo_ic 2 246), (246, xo_putI 5 23 249), (249, xo_goto 321), (252, xo_il 1 253), (253, xo_ic 40 255), (255, xo_ic_eq 300 258), (258, xo_il 1 259), (259, xo_ic 41 261), (261, xo_ic_eq 300 264), (264, xo_il 1 265), (265, xo_ic 59 267), (267, xo_ic_eq 300 270), (270, xo_il 1 271), (271, xo_ic 43 273), (273, xo_ic_eq 300 276), (276, xo_il 1 277), (277, xo_ic 45 279), (279, xo_ic_eq 300 282), (282, xo_il 1 283), (283, xo_ic 42 285), (285, xo_ic_eq 300 288), (288, xo_il 1 289), (289, xo_ic 60 291), (291, xo_ic_eq 300 294), (294, xo_il 1 295), (295, xo_ic 61 297), (297, xo_ic_ne 321 300), (300, xo_al 0 301), (301, xo_ic 3 302), (302, xo_putI 5 23 305), (305, xo_al 0 306), (306, xo_il 1 307), (307, xo_i2l 308), (308, xo_putJ 5 25 311), (311, xo_al 0 312), (312, xo_dupR 313), (313, xo_get 5 22 316)]
theorem sX5_next_3 : XPr RX5 cX5_next 3 none 10 pX5_next_3 :=
  XPr.cons (xs_ic_le dX5_next_238 (by decide +kernel)) <|
  XPr.cons (xs_iconst dX5_next_241 (by decide +kernel)) <|
  XPr.cons (xs_goto dX5_next_242 (by decide +kernel)) <|
  XPr.cons (xs_iconst dX5_next_245 (by decide +kernel)) <|
  XPr.cons (xs_putI (T := TX5) rfl gX5 tyX5_ok nmX5 (Nat.le_of_ble_eq_true rfl) gw_744 rfl (by decide +kernel) dX5_next_246) <|
  XPr.cons (xs_goto dX5_next_249 (by decide +kernel)) <|
  XPr.cons (xs_iload_n dX5_next_252 rfl) <|
  XPr.cons (xs_bipush dX5_next_253 (by decide +kernel)) <|
  XPr.cons (xs_ic_eq dX5_next_255 (by decide +kernel)) <|
  XPr.cons (xs_iload_n dX5_next_258 rfl) <|
  XPr.cons (xs_bipush dX5_next_259 (by decide +kernel)) <|
  XPr.cons (xs_ic_eq dX5_next_261 (by decide +kernel)) <|
  XPr.cons (xs_iload_n dX5_next_264 rfl) <|
  XPr.cons (xs_bipush dX5_next_265 (by decide +kernel)) <|
  XPr.cons (xs_ic_eq dX5_next_267 (by decide +kernel)) <|
  XPr.cons (xs_iload_n dX5_next_270 rfl) <|
  XPr.cons (xs_bipush dX5_next_271 (by decide +kernel)) <|
  XPr.cons (xs_ic_eq dX5_next_273 (by decide +kernel)) <|
  XPr.cons (xs_iload_n dX5_next_276 rfl) <|
  XPr.cons (xs_bipush dX5_next_277 (by decide +kernel)) <|
  XPr.cons (xs_ic_eq dX5_next_279 (by decide +kernel)) <|
  XPr.cons (xs_iload_n dX5_next_282 rfl) <|
  XPr.cons (xs_bipush dX5_next_283 (by decide +kernel)) <|
  XPr.cons (xs_ic_eq dX5_next_285 (by decide +kernel)) <|
  XPr.cons (xs_iload_n dX5_next_288 rfl) <|
  XPr.cons (xs_bipush dX5_next_289 (by decide +kernel)) <|
  XPr.cons (xs_ic_eq dX5_next_291 (by decide +kernel)) <|
  XPr.cons (xs_iload_n dX5_next_294 rfl) <|
  XPr.cons (xs_bipush dX5_next_295 (by decide +kernel)) <|
  XPr.cons (xs_ic_ne dX5_next_297 (by decide +kernel)) <|
  XPr.cons (xs_aload_n dX5_next_300 rfl) <|
  XPr.cons (xs_iconst dX5_next_301 (by decide +kernel)) <|
  XPr.cons (xs_putI (T := TX5) rfl gX5 tyX5_ok nmX5 (Nat.le_of_ble_eq_true rfl) gw_744 rfl (by decide +kernel) dX5_next_302) <|
  XPr.cons (xs_aload_n dX5_next_305 rfl) <|
  XPr.cons (xs_iload_n dX5_next_306 rfl) <|
  XPr.cons (xs_i2l dX5_next_307) <|
  XPr.cons (xs_putJ (T := TX5) rfl gX5 tyX5_ok nmX5 (Nat.le_of_ble_eq_true rfl) gw_746 rfl (by decide +kernel) dX5_next_308) <|
  XPr.cons (xs_aload_n dX5_next_311 rfl) <|
  XPr.cons (xs_dupR dX5_next_312) <|
  XPr.cons (xs_get (T := TX5) rfl gX5 (Nat.le_of_ble_eq_true rfl) gw_743 dX5_next_313) <|
  XPr.nil
def pX5_next_4 : List (Nat × XOp) := [(316, xo_ic 1 317), (317, xo_iadd 318), (318, xo_putI 5 22 321), (321, xo_vret)]
theorem sX5_next_4 : XPr RX5 cX5_next 3 none 10 pX5_next_4 :=
  XPr.cons (xs_iconst dX5_next_316 (by decide +kernel)) <|
  XPr.cons (xs_iadd dX5_next_317) <|
  XPr.cons (xs_putI (T := TX5) rfl gX5 tyX5_ok nmX5 (Nat.le_of_ble_eq_true rfl) gw_743 rfl (by decide +kernel) dX5_next_318) <|
  XPr.cons (xs_vret rfl dX5_next_321) <|
  XPr.nil
def pX5_next : List (Nat × XOp) := pX5_next_0 ++ pX5_next_1 ++ pX5_next_2 ++ pX5_next_3 ++ pX5_next_4
theorem sX5_next : XPr RX5 cX5_next 3 none 10 pX5_next := ((((sX5_next_0).app sX5_next_1).app sX5_next_2).app sX5_next_3).app sX5_next_4
def pX5_fail : List (Nat × XOp) := [(0, xo_al 0 1), (1, xo_get 5 27 4), (4, xo_if_ne 20 7), (7, xo_al 0 8), (8, xo_ic 1 9), (9, xo_putZ 5 27 12), (12, xo_al 0 13), (13, xo_al 0 14), (14, xo_get 5 24 17), (17, xo_putI 5 28 20), (20, xo_vret)]
theorem sX5_fail : XPr RX5 cX5_fail 1 none 10 pX5_fail :=
  XPr.cons (xs_aload_n dX5_fail_0 rfl) <|
  XPr.cons (xs_get (T := TX5) rfl gX5 (Nat.le_of_ble_eq_true rfl) gw_748 dX5_fail_1) <|
  XPr.cons (xs_if_ne dX5_fail_4 (by decide +kernel)) <|
  XPr.cons (xs_aload_n dX5_fail_7 rfl) <|
  XPr.cons (xs_iconst dX5_fail_8 (by decide +kernel)) <|
  XPr.cons (xs_putZ (T := TX5) rfl gX5 tyX5_ok nmX5 (Nat.le_of_ble_eq_true rfl) gw_748 rfl (by decide +kernel) dX5_fail_9) <|
  XPr.cons (xs_aload_n dX5_fail_12 rfl) <|
  XPr.cons (xs_aload_n dX5_fail_13 rfl) <|
  XPr.cons (xs_get (T := TX5) rfl gX5 (Nat.le_of_ble_eq_true rfl) gw_745 dX5_fail_14) <|
  XPr.cons (xs_putI (T := TX5) rfl gX5 tyX5_ok nmX5 (Nat.le_of_ble_eq_true rfl) gw_749 rfl (by decide +kernel) dX5_fail_17) <|
  XPr.cons (xs_vret rfl dX5_fail_20) <|
  XPr.nil
def pX5_isLetter : List (Nat × XOp) := [(0, xo_al 0 1), (1, xo_get 5 24 4), (4, xo_il 1 5), (5, xo_iadd 6), (6, xo_al 0 7), (7, xo_get 5 22 10), (10, xo_ic_ge 35 13), (13, xo_al 0 14), (14, xo_al 0 15), (15, xo_get 5 24 18), (18, xo_il 1 19), (19, xo_iadd 20), (20, xo_callV yX5_byteAt cX5_byteAt 2 (some .int) 1 5 23), (23, xo_il 2 24), (24, xo_ic_ne 31 27), (27, xo_ic 1 28), (28, xo_goto 44), (31, xo_ic 0 32), (32, xo_goto 44), (35, xo_il 2 36), (36, xo_if_ne 43 39), (39, xo_ic 1 40), (40, xo_goto 44), (43, xo_ic 0 44), (44, xo_zret)]
theorem sX5_isLetter : XPr RX5 cX5_isLetter 3 (some .boolean) 10 pX5_isLetter :=
  XPr.cons (xs_aload_n dX5_isLetter_0 rfl) <|
  XPr.cons (xs_get (T := TX5) rfl gX5 (Nat.le_of_ble_eq_true rfl) gw_745 dX5_isLetter_1) <|
  XPr.cons (xs_iload_n dX5_isLetter_4 rfl) <|
  XPr.cons (xs_iadd dX5_isLetter_5) <|
  XPr.cons (xs_aload_n dX5_isLetter_6 rfl) <|
  XPr.cons (xs_get (T := TX5) rfl gX5 (Nat.le_of_ble_eq_true rfl) gw_743 dX5_isLetter_7) <|
  XPr.cons (xs_ic_ge dX5_isLetter_10 (by decide +kernel)) <|
  XPr.cons (xs_aload_n dX5_isLetter_13 rfl) <|
  XPr.cons (xs_aload_n dX5_isLetter_14 rfl) <|
  XPr.cons (xs_get (T := TX5) rfl gX5 (Nat.le_of_ble_eq_true rfl) gw_745 dX5_isLetter_15) <|
  XPr.cons (xs_iload_n dX5_isLetter_18 rfl) <|
  XPr.cons (xs_iadd dX5_isLetter_19) <|
  XPr.cons (xs_callV (T := TX5) rfl gw_909 gw_911 gw_35 gw_77 gw_912 (by decide +kernel) (Nat.le_of_ble_eq_true rfl) dX5_isLetter_20) <|
  XPr.cons (xs_iload_n dX5_isLetter_23 rfl) <|
  XPr.cons (xs_ic_ne dX5_isLetter_24 (by decide +kernel)) <|
  XPr.cons (xs_iconst dX5_isLetter_27 (by decide +kernel)) <|
  XPr.cons (xs_goto dX5_isLetter_28 (by decide +kernel)) <|
  XPr.cons (xs_iconst dX5_isLetter_31 (by decide +kernel)) <|
  XPr.cons (xs_goto dX5_isLetter_32 (by decide +kernel)) <|
  XPr.cons (xs_iload_n dX5_isLetter_35 rfl) <|
  XPr.cons (xs_if_ne dX5_isLetter_36 (by decide +kernel)) <|
  XPr.cons (xs_iconst dX5_isLetter_39 (by decide +kernel)) <|
  XPr.cons (xs_goto dX5_isLetter_40 (by decide +kernel)) <|
  XPr.cons (xs_iconst dX5_isLetter_43 (by decide +kernel)) <|
  XPr.cons (xs_zret rfl dX5_isLetter_44) <|
  XPr.nil
def pX5_isWord_0 : List (Nat × XOp) := [(0, xo_al 0 1), (1, xo_get 5 27 4), (4, xo_if_ne 112 7), (7, xo_al 0 8), (8, xo_get 5 23 11), (11, xo_ic 1 12), (12, xo_ic_ne 112 15), (15, xo_al 0 16), (16, xo_get 5 22 19), (19, xo_al 0 20), (20, xo_get 5 24 23), (23, xo_ic 8 25), (25, xo_iadd 26), (26, xo_ic_gt 112 29), (29, xo_al 0 30), (30, xo_ic 0 31), (31, xo_il 1 32), (32, xo_callV yX5_isLetter cX5_isLetter 3 (some .boolean) 2 5 35), (35, xo_if_eq 112 38), (38, xo_al 0 39), (39, xo_ic 1 40), (40, xo_il 2 41), (41, xo_callV yX5_isLetter cX5_isLetter 3 (some .boolean) 2 5 44), (44, xo_if_eq 112 47), (47, xo_al 0 48), (48, xo_ic 2 49), (49, xo_il 3 50), (50, xo_callV yX5_isLetter cX5_isLetter 3 (some .boolean) 2 5 53), (53, xo_if_eq 112 56), (56, xo_al 0 57), (57, xo_ic 3 58), (58, xo_il 4 60), (60, xo_callV yX5_isLetter cX5_isLetter 3 (some .boolean) 2 5 63), (63, xo_if_eq 112 66), (66, xo_al 0 67), (67, xo_ic 4 68), (68, xo_il 5 70), (70, xo_callV yX5_isLetter cX5_isLetter 3 (some .boolean) 2 5 73), (73, xo_if_eq 112 76), (76, xo_al 0 77)]
theorem sX5_isWord_0 : XPr RX5 cX5_isWord 9 (some .boolean) 10 pX5_isWord_0 :=
  XPr.cons (xs_aload_n dX5_isWord_0 rfl) <|
  XPr.cons (xs_get (T := TX5) rfl gX5 (Nat.le_of_ble_eq_true rfl) gw_748 dX5_isWord_1) <|
  XPr.cons (xs_if_ne dX5_isWord_4 (by decide +kernel)) <|
  XPr.cons (xs_aload_n dX5_isWord_7 rfl) <|
  XPr.cons (xs_get (T := TX5) rfl gX5 (Nat.le_of_ble_eq_true rfl) gw_744 dX5_isWord_8) <|
  XPr.cons (xs_iconst dX5_isWord_11 (by decide +kernel)) <|
  XPr.cons (xs_ic_ne dX5_isWord_12 (by decide +kernel)) <|
  XPr.cons (xs_aload_n dX5_isWord_15 rfl) <|
  XPr.cons (xs_get (T := TX5) rfl gX5 (Nat.le_of_ble_eq_true rfl) gw_743 dX5_isWord_16) <|
  XPr.cons (xs_aload_n dX5_isWord_19 rfl) <|
  XPr.cons (xs_get (T := TX5) rfl gX5 (Nat.le_of_ble_eq_true rfl) gw_745 dX5_isWord_20) <|
  XPr.cons (xs_bipush dX5_isWord_23 (by decide +kernel)) <|
  XPr.cons (xs_iadd dX5_isWord_25) <|
  XPr.cons (xs_ic_gt dX5_isWord_26 (by decide +kernel)) <|
  XPr.cons (xs_aload_n dX5_isWord_29 rfl) <|
  XPr.cons (xs_iconst dX5_isWord_30 (by decide +kernel)) <|
  XPr.cons (xs_iload_n dX5_isWord_31 rfl) <|
  XPr.cons (xs_callV (T := TX5) rfl gw_922 gw_924 gw_37 gw_77 gw_925 (by decide +kernel) (Nat.le_of_ble_eq_true rfl) dX5_isWord_32) <|
  XPr.cons (xs_if_eq dX5_isWord_35 (by decide +kernel)) <|
  XPr.cons (xs_aload_n dX5_isWord_38 rfl) <|
  XPr.cons (xs_iconst dX5_isWord_39 (by decide +kernel)) <|
  XPr.cons (xs_iload_n dX5_isWord_40 rfl) <|
  XPr.cons (xs_callV (T := TX5) rfl gw_922 gw_924 gw_37 gw_77 gw_925 (by decide +kernel) (Nat.le_of_ble_eq_true rfl) dX5_isWord_41) <|
  XPr.cons (xs_if_eq dX5_isWord_44 (by decide +kernel)) <|
  XPr.cons (xs_aload_n dX5_isWord_47 rfl) <|
  XPr.cons (xs_iconst dX5_isWord_48 (by decide +kernel)) <|
  XPr.cons (xs_iload_n dX5_isWord_49 rfl) <|
  XPr.cons (xs_callV (T := TX5) rfl gw_922 gw_924 gw_37 gw_77 gw_925 (by decide +kernel) (Nat.le_of_ble_eq_true rfl) dX5_isWord_50) <|
  XPr.cons (xs_if_eq dX5_isWord_53 (by decide +kernel)) <|
  XPr.cons (xs_aload_n dX5_isWord_56 rfl) <|
  XPr.cons (xs_iconst dX5_isWord_57 (by decide +kernel)) <|
  XPr.cons (xs_iload dX5_isWord_58) <|
  XPr.cons (xs_callV (T := TX5) rfl gw_922 gw_924 gw_37 gw_77 gw_925 (by decide +kernel) (Nat.le_of_ble_eq_true rfl) dX5_isWord_60) <|
  XPr.cons (xs_if_eq dX5_isWord_63 (by decide +kernel)) <|
  XPr.cons (xs_aload_n dX5_isWord_66 rfl) <|
  XPr.cons (xs_iconst dX5_isWord_67 (by decide +kernel)) <|
  XPr.cons (xs_iload dX5_isWord_68) <|
  XPr.cons (xs_callV (T := TX5) rfl gw_922 gw_924 gw_37 gw_77 gw_925 (by decide +kernel) (Nat.le_of_ble_eq_true rfl) dX5_isWord_70) <|
  XPr.cons (xs_if_eq dX5_isWord_73 (by decide +kernel)) <|
  XPr.cons (xs_aload_n dX5_isWord_76 rfl) <|
  XPr.nil
def pX5_isWord_1 : List (Nat × XOp) := [(77, xo_ic 5 78), (78, xo_il 6 80), (80, xo_callV yX5_isLetter cX5_isLetter 3 (some .boolean) 2 5 83), (83, xo_if_eq 112 86), (86, xo_al 0 87), (87, xo_ic 6 89), (89, xo_il 7 91), (91, xo_callV yX5_isLetter cX5_isLetter 3 (some .boolean) 2 5 94), (94, xo_if_eq 112 97), (97, xo_al 0 98), (98, xo_ic 7 100), (100, xo_il 8 102), (102, xo_callV yX5_isLetter cX5_isLetter 3 (some .boolean) 2 5 105), (105, xo_if_eq 112 108), (108, xo_ic 1 109), (109, xo_goto 113), (112, xo_ic 0 113), (113, xo_zret)]
theorem sX5_isWord_1 : XPr RX5 cX5_isWord 9 (some .boolean) 10 pX5_isWord_1 :=
  XPr.cons (xs_iconst dX5_isWord_77 (by decide +kernel)) <|
  XPr.cons (xs_iload dX5_isWord_78) <|
  XPr.cons (xs_callV (T := TX5) rfl gw_922 gw_924 gw_37 gw_77 gw_925 (by decide +kernel) (Nat.le_of_ble_eq_true rfl) dX5_isWord_80) <|
  XPr.cons (xs_if_eq dX5_isWord_83 (by decide +kernel)) <|
  XPr.cons (xs_aload_n dX5_isWord_86 rfl) <|
  XPr.cons (xs_bipush dX5_isWord_87 (by decide +kernel)) <|
  XPr.cons (xs_iload dX5_isWord_89) <|
  XPr.cons (xs_callV (T := TX5) rfl gw_922 gw_924 gw_37 gw_77 gw_925 (by decide +kernel) (Nat.le_of_ble_eq_true rfl) dX5_isWord_91) <|
  XPr.cons (xs_if_eq dX5_isWord_94 (by decide +kernel)) <|
  XPr.cons (xs_aload_n dX5_isWord_97 rfl) <|
  XPr.cons (xs_bipush dX5_isWord_98 (by decide +kernel)) <|
  XPr.cons (xs_iload dX5_isWord_100) <|
  XPr.cons (xs_callV (T := TX5) rfl gw_922 gw_924 gw_37 gw_77 gw_925 (by decide +kernel) (Nat.le_of_ble_eq_true rfl) dX5_isWord_102) <|
  XPr.cons (xs_if_eq dX5_isWord_105 (by decide +kernel)) <|
  XPr.cons (xs_iconst dX5_isWord_108 (by decide +kernel)) <|
  XPr.cons (xs_goto dX5_isWord_109 (by decide +kernel)) <|
  XPr.cons (xs_iconst dX5_isWord_112 (by decide +kernel)) <|
  XPr.cons (xs_zret rfl dX5_isWord_113) <|
  XPr.nil
def pX5_isWord : List (Nat × XOp) := pX5_isWord_0 ++ pX5_isWord_1
theorem sX5_isWord : XPr RX5 cX5_isWord 9 (some .boolean) 10 pX5_isWord := (sX5_isWord_0).app sX5_isWord_1
def pX5_isSign : List (Nat × XOp) := [(0, xo_al 0 1), (1, xo_get 5 27 4), (4, xo_if_ne 29 7), (7, xo_al 0 8), (8, xo_get 5 23 11), (11, xo_ic 3 12), (12, xo_ic_ne 29 15), (15, xo_al 0 16), (16, xo_get 5 25 19), (19, xo_il 1 20), (20, xo_i2l 21), (21, xo_lcmp 22), (22, xo_if_ne 29 25), (25, xo_ic 1 26), (26, xo_goto 30), (29, xo_ic 0 30), (30, xo_zret)]
theorem sX5_isSign : XPr RX5 cX5_isSign 2 (some .boolean) 10 pX5_isSign :=
  XPr.cons (xs_aload_n dX5_isSign_0 rfl) <|
  XPr.cons (xs_get (T := TX5) rfl gX5 (Nat.le_of_ble_eq_true rfl) gw_748 dX5_isSign_1) <|
  XPr.cons (xs_if_ne dX5_isSign_4 (by decide +kernel)) <|
  XPr.cons (xs_aload_n dX5_isSign_7 rfl) <|
  XPr.cons (xs_get (T := TX5) rfl gX5 (Nat.le_of_ble_eq_true rfl) gw_744 dX5_isSign_8) <|
  XPr.cons (xs_iconst dX5_isSign_11 (by decide +kernel)) <|
  XPr.cons (xs_ic_ne dX5_isSign_12 (by decide +kernel)) <|
  XPr.cons (xs_aload_n dX5_isSign_15 rfl) <|
  XPr.cons (xs_get (T := TX5) rfl gX5 (Nat.le_of_ble_eq_true rfl) gw_746 dX5_isSign_16) <|
  XPr.cons (xs_iload_n dX5_isSign_19 rfl) <|
  XPr.cons (xs_i2l dX5_isSign_20) <|
  XPr.cons (xs_lcmp dX5_isSign_21) <|
  XPr.cons (xs_if_ne dX5_isSign_22 (by decide +kernel)) <|
  XPr.cons (xs_iconst dX5_isSign_25 (by decide +kernel)) <|
  XPr.cons (xs_goto dX5_isSign_26 (by decide +kernel)) <|
  XPr.cons (xs_iconst dX5_isSign_29 (by decide +kernel)) <|
  XPr.cons (xs_zret rfl dX5_isSign_30) <|
  XPr.nil
def pX5_opens : List (Nat × XOp) := [(0, xo_al 0 1), (1, xo_get 5 26 4), (4, xo_ic 5 5), (5, xo_ic_ne 14 8), (8, xo_al 0 9), (9, xo_callV yX5_fail cX5_fail 1 none 0 5 12), (12, xo_ic 0 13), (13, xo_zret), (14, xo_al 0 15), (15, xo_dupR 16), (16, xo_get 5 26 19), (19, xo_ic 1 20), (20, xo_iadd 21), (21, xo_putI 5 26 24), (24, xo_al 0 25), (25, xo_callV yX5_next cX5_next 3 none 0 5 28), (28, xo_ic 1 29), (29, xo_zret)]
theorem sX5_opens : XPr RX5 cX5_opens 1 (some .boolean) 10 pX5_opens :=
  XPr.cons (xs_aload_n dX5_opens_0 rfl) <|
  XPr.cons (xs_get (T := TX5) rfl gX5 (Nat.le_of_ble_eq_true rfl) gw_747 dX5_opens_1) <|
  XPr.cons (xs_iconst dX5_opens_4 (by decide +kernel)) <|
  XPr.cons (xs_ic_ne dX5_opens_5 (by decide +kernel)) <|
  XPr.cons (xs_aload_n dX5_opens_8 rfl) <|
  XPr.cons (xs_callV (T := TX5) rfl gw_930 gw_932 gw_39 gw_77 gw_933 (by decide +kernel) (Nat.le_of_ble_eq_true rfl) dX5_opens_9) <|
  XPr.cons (xs_iconst dX5_opens_12 (by decide +kernel)) <|
  XPr.cons (xs_zret rfl dX5_opens_13) <|
  XPr.cons (xs_aload_n dX5_opens_14 rfl) <|
  XPr.cons (xs_dupR dX5_opens_15) <|
  XPr.cons (xs_get (T := TX5) rfl gX5 (Nat.le_of_ble_eq_true rfl) gw_747 dX5_opens_16) <|
  XPr.cons (xs_iconst dX5_opens_19 (by decide +kernel)) <|
  XPr.cons (xs_iadd dX5_opens_20) <|
  XPr.cons (xs_putI (T := TX5) rfl gX5 tyX5_ok nmX5 (Nat.le_of_ble_eq_true rfl) gw_747 rfl (by decide +kernel) dX5_opens_21) <|
  XPr.cons (xs_aload_n dX5_opens_24 rfl) <|
  XPr.cons (xs_callV (T := TX5) rfl gw_905 gw_907 gw_34 gw_77 gw_908 (by decide +kernel) (Nat.le_of_ble_eq_true rfl) dX5_opens_25) <|
  XPr.cons (xs_iconst dX5_opens_28 (by decide +kernel)) <|
  XPr.cons (xs_zret rfl dX5_opens_29) <|
  XPr.nil
def pX5_name_0 : List (Nat × XOp) := [(0, xo_al 0 1), (1, xo_ic 115 3), (3, xo_ic 107 5), (5, xo_ic 105 7), (7, xo_ic 108 9), (9, xo_ic 108 11), (11, xo_ic 0 12), (12, xo_ic 0 13), (13, xo_ic 0 14), (14, xo_callV yX5_isWord cX5_isWord 9 (some .boolean) 8 5 17), (17, xo_if_eq 25 20), (20, xo_al 0 21), (21, xo_get 5 14 24), (24, xo_iret), (25, xo_al 0 26), (26, xo_ic 115 28), (28, xo_ic 111 30), (30, xo_ic 117 32), (32, xo_ic 110 34), (34, xo_ic 100 36), (36, xo_ic 0 37), (37, xo_ic 0 38), (38, xo_ic 0 39), (39, xo_callV yX5_isWord cX5_isWord 9 (some .boolean) 8 5 42), (42, xo_if_eq 50 45), (45, xo_al 0 46), (46, xo_get 5 15 49), (49, xo_iret), (50, xo_al 0 51), (51, xo_ic 110 53), (53, xo_ic 117 55), (55, xo_ic 109 57), (57, xo_ic 98 59), (59, xo_ic 101 61), (61, xo_ic 114 63), (63, xo_ic 0 64), (64, xo_ic 0 65), (65, xo_callV yX5_isWord cX5_isWord 9 (some .boolean) 8 5 68), (68, xo_if_eq 76 71), (71, xo_al 0 72)]
theorem sX5_name_0 : XPr RX5 cX5_name 1 (some .int) 10 pX5_name_0 :=
  XPr.cons (xs_aload_n dX5_name_0 rfl) <|
  XPr.cons (xs_bipush dX5_name_1 (by decide +kernel)) <|
  XPr.cons (xs_bipush dX5_name_3 (by decide +kernel)) <|
  XPr.cons (xs_bipush dX5_name_5 (by decide +kernel)) <|
  XPr.cons (xs_bipush dX5_name_7 (by decide +kernel)) <|
  XPr.cons (xs_bipush dX5_name_9 (by decide +kernel)) <|
  XPr.cons (xs_iconst dX5_name_11 (by decide +kernel)) <|
  XPr.cons (xs_iconst dX5_name_12 (by decide +kernel)) <|
  XPr.cons (xs_iconst dX5_name_13 (by decide +kernel)) <|
  XPr.cons (xs_callV (T := TX5) rfl gw_918 gw_920 gw_36 gw_77 gw_921 (by decide +kernel) (Nat.le_of_ble_eq_true rfl) dX5_name_14) <|
  XPr.cons (xs_if_eq dX5_name_17 (by decide +kernel)) <|
  XPr.cons (xs_aload_n dX5_name_20 rfl) <|
  XPr.cons (xs_get (T := TX5) rfl gX5 (Nat.le_of_ble_eq_true rfl) gw_735 dX5_name_21) <|
  XPr.cons (xs_iret rfl dX5_name_24) <|
  XPr.cons (xs_aload_n dX5_name_25 rfl) <|
  XPr.cons (xs_bipush dX5_name_26 (by decide +kernel)) <|
  XPr.cons (xs_bipush dX5_name_28 (by decide +kernel)) <|
  XPr.cons (xs_bipush dX5_name_30 (by decide +kernel)) <|
  XPr.cons (xs_bipush dX5_name_32 (by decide +kernel)) <|
  XPr.cons (xs_bipush dX5_name_34 (by decide +kernel)) <|
  XPr.cons (xs_iconst dX5_name_36 (by decide +kernel)) <|
  XPr.cons (xs_iconst dX5_name_37 (by decide +kernel)) <|
  XPr.cons (xs_iconst dX5_name_38 (by decide +kernel)) <|
  XPr.cons (xs_callV (T := TX5) rfl gw_918 gw_920 gw_36 gw_77 gw_921 (by decide +kernel) (Nat.le_of_ble_eq_true rfl) dX5_name_39) <|
  XPr.cons (xs_if_eq dX5_name_42 (by decide +kernel)) <|
  XPr.cons (xs_aload_n dX5_name_45 rfl) <|
  XPr.cons (xs_get (T := TX5) rfl gX5 (Nat.le_of_ble_eq_true rfl) gw_736 dX5_name_46) <|
  XPr.cons (xs_iret rfl dX5_name_49) <|
  XPr.cons (xs_aload_n dX5_name_50 rfl) <|
  XPr.cons (xs_bipush dX5_name_51 (by decide +kernel)) <|
  XPr.cons (xs_bipush dX5_name_53 (by decide +kernel)) <|
  XPr.cons (xs_bipush dX5_name_55 (by decide +kernel)) <|
  XPr.cons (xs_bipush dX5_name_57 (by decide +kernel)) <|
  XPr.cons (xs_bipush dX5_name_59 (by decide +kernel)) <|
  XPr.cons (xs_bipush dX5_name_61 (by decide +kernel)) <|
  XPr.cons (xs_iconst dX5_name_63 (by decide +kernel)) <|
  XPr.cons (xs_iconst dX5_name_64 (by decide +kernel)) <|
  XPr.cons (xs_callV (T := TX5) rfl gw_918 gw_920 gw_36 gw_77 gw_921 (by decide +kernel) (Nat.le_of_ble_eq_true rfl) dX5_name_65) <|
  XPr.cons (xs_if_eq dX5_name_68 (by decide +kernel)) <|
  XPr.cons (xs_aload_n dX5_name_71 rfl) <|
  XPr.nil
def pX5_name_1 : List (Nat × XOp) := [(72, xo_get 5 16 75), (75, xo_iret), (76, xo_al 0 77), (77, xo_ic 100 79), (79, xo_ic 97 81), (81, xo_ic 121 83), (83, xo_ic 0 84), (84, xo_ic 0 85), (85, xo_ic 0 86), (86, xo_ic 0 87), (87, xo_ic 0 88), (88, xo_callV yX5_isWord cX5_isWord 9 (some .boolean) 8 5 91), (91, xo_if_eq 99 94), (94, xo_al 0 95), (95, xo_get 5 17 98), (98, xo_iret), (99, xo_al 0 100), (100, xo_ic 119 102), (102, xo_ic 97 104), (104, xo_ic 116 106), (106, xo_ic 101 108), (108, xo_ic 114 110), (110, xo_ic 0 111), (111, xo_ic 0 112), (112, xo_ic 0 113), (113, xo_callV yX5_isWord cX5_isWord 9 (some .boolean) 8 5 116), (116, xo_if_eq 124 119), (119, xo_al 0 120), (120, xo_get 5 18 123), (123, xo_iret), (124, xo_al 0 125), (125, xo_ic 112 127), (127, xo_ic 97 129), (129, xo_ic 114 131), (131, xo_ic 116 133), (133, xo_ic 0 134), (134, xo_ic 0 135), (135, xo_ic 0 136), (136, xo_ic 0 137), (137, xo_callV yX5_isWord cX5_isWord 9 (some .boolean) 8 5 140)]
theorem sX5_name_1 : XPr RX5 cX5_name 1 (some .int) 10 pX5_name_1 :=
  XPr.cons (xs_get (T := TX5) rfl gX5 (Nat.le_of_ble_eq_true rfl) gw_737 dX5_name_72) <|
  XPr.cons (xs_iret rfl dX5_name_75) <|
  XPr.cons (xs_aload_n dX5_name_76 rfl) <|
  XPr.cons (xs_bipush dX5_name_77 (by decide +kernel)) <|
  XPr.cons (xs_bipush dX5_name_79 (by decide +kernel)) <|
  XPr.cons (xs_bipush dX5_name_81 (by decide +kernel)) <|
  XPr.cons (xs_iconst dX5_name_83 (by decide +kernel)) <|
  XPr.cons (xs_iconst dX5_name_84 (by decide +kernel)) <|
  XPr.cons (xs_iconst dX5_name_85 (by decide +kernel)) <|
  XPr.cons (xs_iconst dX5_name_86 (by decide +kernel)) <|
  XPr.cons (xs_iconst dX5_name_87 (by decide +kernel)) <|
  XPr.cons (xs_callV (T := TX5) rfl gw_918 gw_920 gw_36 gw_77 gw_921 (by decide +kernel) (Nat.le_of_ble_eq_true rfl) dX5_name_88) <|
  XPr.cons (xs_if_eq dX5_name_91 (by decide +kernel)) <|
  XPr.cons (xs_aload_n dX5_name_94 rfl) <|
  XPr.cons (xs_get (T := TX5) rfl gX5 (Nat.le_of_ble_eq_true rfl) gw_738 dX5_name_95) <|
  XPr.cons (xs_iret rfl dX5_name_98) <|
  XPr.cons (xs_aload_n dX5_name_99 rfl) <|
  XPr.cons (xs_bipush dX5_name_100 (by decide +kernel)) <|
  XPr.cons (xs_bipush dX5_name_102 (by decide +kernel)) <|
  XPr.cons (xs_bipush dX5_name_104 (by decide +kernel)) <|
  XPr.cons (xs_bipush dX5_name_106 (by decide +kernel)) <|
  XPr.cons (xs_bipush dX5_name_108 (by decide +kernel)) <|
  XPr.cons (xs_iconst dX5_name_110 (by decide +kernel)) <|
  XPr.cons (xs_iconst dX5_name_111 (by decide +kernel)) <|
  XPr.cons (xs_iconst dX5_name_112 (by decide +kernel)) <|
  XPr.cons (xs_callV (T := TX5) rfl gw_918 gw_920 gw_36 gw_77 gw_921 (by decide +kernel) (Nat.le_of_ble_eq_true rfl) dX5_name_113) <|
  XPr.cons (xs_if_eq dX5_name_116 (by decide +kernel)) <|
  XPr.cons (xs_aload_n dX5_name_119 rfl) <|
  XPr.cons (xs_get (T := TX5) rfl gX5 (Nat.le_of_ble_eq_true rfl) gw_739 dX5_name_120) <|
  XPr.cons (xs_iret rfl dX5_name_123) <|
  XPr.cons (xs_aload_n dX5_name_124 rfl) <|
  XPr.cons (xs_bipush dX5_name_125 (by decide +kernel)) <|
  XPr.cons (xs_bipush dX5_name_127 (by decide +kernel)) <|
  XPr.cons (xs_bipush dX5_name_129 (by decide +kernel)) <|
  XPr.cons (xs_bipush dX5_name_131 (by decide +kernel)) <|
  XPr.cons (xs_iconst dX5_name_133 (by decide +kernel)) <|
  XPr.cons (xs_iconst dX5_name_134 (by decide +kernel)) <|
  XPr.cons (xs_iconst dX5_name_135 (by decide +kernel)) <|
  XPr.cons (xs_iconst dX5_name_136 (by decide +kernel)) <|
  XPr.cons (xs_callV (T := TX5) rfl gw_918 gw_920 gw_36 gw_77 gw_921 (by decide +kernel) (Nat.le_of_ble_eq_true rfl) dX5_name_137) <|
  XPr.nil
def pX5_name_2 : List (Nat × XOp) := [(140, xo_if_eq 148 143), (143, xo_al 0 144), (144, xo_get 5 19 147), (147, xo_iret), (148, xo_al 0 149), (149, xo_callV yX5_fail cX5_fail 1 none 0 5 152), (152, xo_ic 0 153), (153, xo_iret)]
theorem sX5_name_2 : XPr RX5 cX5_name 1 (some .int) 10 pX5_name_2 :=
  XPr.cons (xs_if_eq dX5_name_140 (by decide +kernel)) <|
  XPr.cons (xs_aload_n dX5_name_143 rfl) <|
  XPr.cons (xs_get (T := TX5) rfl gX5 (Nat.le_of_ble_eq_true rfl) gw_740 dX5_name_144) <|
  XPr.cons (xs_iret rfl dX5_name_147) <|
  XPr.cons (xs_aload_n dX5_name_148 rfl) <|
  XPr.cons (xs_callV (T := TX5) rfl gw_930 gw_932 gw_39 gw_77 gw_933 (by decide +kernel) (Nat.le_of_ble_eq_true rfl) dX5_name_149) <|
  XPr.cons (xs_iconst dX5_name_152 (by decide +kernel)) <|
  XPr.cons (xs_iret rfl dX5_name_153) <|
  XPr.nil
def pX5_name : List (Nat × XOp) := pX5_name_0 ++ pX5_name_1 ++ pX5_name_2
theorem sX5_name : XPr RX5 cX5_name 1 (some .int) 10 pX5_name := ((sX5_name_0).app sX5_name_1).app sX5_name_2
def pX5_atom_0 : List (Nat × XOp) := [(0, xo_ic 0 1), (1, xo_is 1 2), (2, xo_al 0 3), (3, xo_ic 45 5), (5, xo_callV yX5_isSign cX5_isSign 2 (some .boolean) 1 5 8), (8, xo_if_eq 37 11), (11, xo_al 0 12), (12, xo_callV yX5_opens cX5_opens 1 (some .boolean) 0 5 15), (15, xo_if_eq 161 18), (18, xo_al 0 19), (19, xo_callV yX5_atom cX5_atom 2 (some .int) 0 5 22), (22, xo_ineg 23), (23, xo_is 1 24), (24, xo_al 0 25), (25, xo_dupR 26), (26, xo_get 5 26 29), (29, xo_ic 1 30), (30, xo_isub 31), (31, xo_putI 5 26 34), (34, xo_goto 161), (37, xo_al 0 38), (38, xo_ic 40 40), (40, xo_callV yX5_isSign cX5_isSign 2 (some .boolean) 1 5 43), (43, xo_if_eq 95 46), (46, xo_al 0 47), (47, xo_callV yX5_opens cX5_opens 1 (some .boolean) 0 5 50), (50, xo_if_eq 161 53), (53, xo_al 0 54), (54, xo_callV yX5_either cX5_either 3 (some .int) 0 5 57), (57, xo_is 1 58), (58, xo_al 0 59), (59, xo_ic 41 61), (61, xo_callV yX5_isSign cX5_isSign 2 (some .boolean) 1 5 64), (64, xo_if_ne 71 67), (67, xo_al 0 68), (68, xo_callV yX5_fail cX5_fail 1 none 0 5 71), (71, xo_al 0 72), (72, xo_dupR 73), (73, xo_get 5 26 76), (76, xo_ic 1 77)]
theorem sX5_atom_0 : XPr RX5 cX5_atom 2 (some .int) 10 pX5_atom_0 :=
  XPr.cons (xs_iconst dX5_atom_0 (by decide +kernel)) <|
  XPr.cons (xs_istore_n dX5_atom_1 rfl (Nat.le_of_ble_eq_true rfl)) <|
  XPr.cons (xs_aload_n dX5_atom_2 rfl) <|
  XPr.cons (xs_bipush dX5_atom_3 (by decide +kernel)) <|
  XPr.cons (xs_callV (T := TX5) rfl gw_962 gw_964 gw_47 gw_77 gw_965 (by decide +kernel) (Nat.le_of_ble_eq_true rfl) dX5_atom_5) <|
  XPr.cons (xs_if_eq dX5_atom_8 (by decide +kernel)) <|
  XPr.cons (xs_aload_n dX5_atom_11 rfl) <|
  XPr.cons (xs_callV (T := TX5) rfl gw_946 gw_948 gw_43 gw_77 gw_949 (by decide +kernel) (Nat.le_of_ble_eq_true rfl) dX5_atom_12) <|
  XPr.cons (xs_if_eq dX5_atom_15 (by decide +kernel)) <|
  XPr.cons (xs_aload_n dX5_atom_18 rfl) <|
  XPr.cons (xs_callV (T := TX5) rfl gw_958 gw_960 gw_46 gw_77 gw_961 (by decide +kernel) (Nat.le_of_ble_eq_true rfl) dX5_atom_19) <|
  XPr.cons (xs_ineg dX5_atom_22) <|
  XPr.cons (xs_istore_n dX5_atom_23 rfl (Nat.le_of_ble_eq_true rfl)) <|
  XPr.cons (xs_aload_n dX5_atom_24 rfl) <|
  XPr.cons (xs_dupR dX5_atom_25) <|
  XPr.cons (xs_get (T := TX5) rfl gX5 (Nat.le_of_ble_eq_true rfl) gw_747 dX5_atom_26) <|
  XPr.cons (xs_iconst dX5_atom_29 (by decide +kernel)) <|
  XPr.cons (xs_isub dX5_atom_30) <|
  XPr.cons (xs_putI (T := TX5) rfl gX5 tyX5_ok nmX5 (Nat.le_of_ble_eq_true rfl) gw_747 rfl (by decide +kernel) dX5_atom_31) <|
  XPr.cons (xs_goto dX5_atom_34 (by decide +kernel)) <|
  XPr.cons (xs_aload_n dX5_atom_37 rfl) <|
  XPr.cons (xs_bipush dX5_atom_38 (by decide +kernel)) <|
  XPr.cons (xs_callV (T := TX5) rfl gw_962 gw_964 gw_47 gw_77 gw_965 (by decide +kernel) (Nat.le_of_ble_eq_true rfl) dX5_atom_40) <|
  XPr.cons (xs_if_eq dX5_atom_43 (by decide +kernel)) <|
  XPr.cons (xs_aload_n dX5_atom_46 rfl) <|
  XPr.cons (xs_callV (T := TX5) rfl gw_946 gw_948 gw_43 gw_77 gw_949 (by decide +kernel) (Nat.le_of_ble_eq_true rfl) dX5_atom_47) <|
  XPr.cons (xs_if_eq dX5_atom_50 (by decide +kernel)) <|
  XPr.cons (xs_aload_n dX5_atom_53 rfl) <|
  XPr.cons (xs_callV (T := TX5) rfl gw_934 gw_936 gw_40 gw_77 gw_937 (by decide +kernel) (Nat.le_of_ble_eq_true rfl) dX5_atom_54) <|
  XPr.cons (xs_istore_n dX5_atom_57 rfl (Nat.le_of_ble_eq_true rfl)) <|
  XPr.cons (xs_aload_n dX5_atom_58 rfl) <|
  XPr.cons (xs_bipush dX5_atom_59 (by decide +kernel)) <|
  XPr.cons (xs_callV (T := TX5) rfl gw_962 gw_964 gw_47 gw_77 gw_965 (by decide +kernel) (Nat.le_of_ble_eq_true rfl) dX5_atom_61) <|
  XPr.cons (xs_if_ne dX5_atom_64 (by decide +kernel)) <|
  XPr.cons (xs_aload_n dX5_atom_67 rfl) <|
  XPr.cons (xs_callV (T := TX5) rfl gw_930 gw_932 gw_39 gw_77 gw_933 (by decide +kernel) (Nat.le_of_ble_eq_true rfl) dX5_atom_68) <|
  XPr.cons (xs_aload_n dX5_atom_71 rfl) <|
  XPr.cons (xs_dupR dX5_atom_72) <|
  XPr.cons (xs_get (T := TX5) rfl gX5 (Nat.le_of_ble_eq_true rfl) gw_747 dX5_atom_73) <|
  XPr.cons (xs_iconst dX5_atom_76 (by decide +kernel)) <|
  XPr.nil
def pX5_atom_1 : List (Nat × XOp) := [(77, xo_isub 78), (78, xo_putI 5 26 81), (81, xo_al 0 82), (82, xo_get 5 27 85), (85, xo_if_ne 161 88), (88, xo_al 0 89), (89, xo_callV yX5_next cX5_next 3 none 0 5 92), (92, xo_goto 161), (95, xo_al 0 96), (96, xo_get 5 27 99), (99, xo_if_ne 123 102), (102, xo_al 0 103), (103, xo_get 5 23 106), (106, xo_ic 2 107), (107, xo_ic_ne 123 110), (110, xo_al 0 111), (111, xo_get 5 25 114), (114, xo_l2i 115), (115, xo_is 1 116), (116, xo_al 0 117), (117, xo_callV yX5_next cX5_next 3 none 0 5 120), (120, xo_goto 161), (123, xo_al 0 124), (124, xo_get 5 27 127), (127, xo_if_ne 157 130), (130, xo_al 0 131), (131, xo_get 5 23 134), (134, xo_ic 1 135), (135, xo_ic_ne 157 138), (138, xo_al 0 139), (139, xo_callV yX5_name cX5_name 1 (some .int) 0 5 142), (142, xo_is 1 143), (143, xo_al 0 144), (144, xo_get 5 27 147), (147, xo_if_ne 161 150), (150, xo_al 0 151), (151, xo_callV yX5_next cX5_next 3 none 0 5 154), (154, xo_goto 161), (157, xo_al 0 158), (158, xo_callV yX5_fail cX5_fail 1 none 0 5 161)]
theorem sX5_atom_1 : XPr RX5 cX5_atom 2 (some .int) 10 pX5_atom_1 :=
  XPr.cons (xs_isub dX5_atom_77) <|
  XPr.cons (xs_putI (T := TX5) rfl gX5 tyX5_ok nmX5 (Nat.le_of_ble_eq_true rfl) gw_747 rfl (by decide +kernel) dX5_atom_78) <|
  XPr.cons (xs_aload_n dX5_atom_81 rfl) <|
  XPr.cons (xs_get (T := TX5) rfl gX5 (Nat.le_of_ble_eq_true rfl) gw_748 dX5_atom_82) <|
  XPr.cons (xs_if_ne dX5_atom_85 (by decide +kernel)) <|
  XPr.cons (xs_aload_n dX5_atom_88 rfl) <|
  XPr.cons (xs_callV (T := TX5) rfl gw_905 gw_907 gw_34 gw_77 gw_908 (by decide +kernel) (Nat.le_of_ble_eq_true rfl) dX5_atom_89) <|
  XPr.cons (xs_goto dX5_atom_92 (by decide +kernel)) <|
  XPr.cons (xs_aload_n dX5_atom_95 rfl) <|
  XPr.cons (xs_get (T := TX5) rfl gX5 (Nat.le_of_ble_eq_true rfl) gw_748 dX5_atom_96) <|
  XPr.cons (xs_if_ne dX5_atom_99 (by decide +kernel)) <|
  XPr.cons (xs_aload_n dX5_atom_102 rfl) <|
  XPr.cons (xs_get (T := TX5) rfl gX5 (Nat.le_of_ble_eq_true rfl) gw_744 dX5_atom_103) <|
  XPr.cons (xs_iconst dX5_atom_106 (by decide +kernel)) <|
  XPr.cons (xs_ic_ne dX5_atom_107 (by decide +kernel)) <|
  XPr.cons (xs_aload_n dX5_atom_110 rfl) <|
  XPr.cons (xs_get (T := TX5) rfl gX5 (Nat.le_of_ble_eq_true rfl) gw_746 dX5_atom_111) <|
  XPr.cons (xs_l2i dX5_atom_114) <|
  XPr.cons (xs_istore_n dX5_atom_115 rfl (Nat.le_of_ble_eq_true rfl)) <|
  XPr.cons (xs_aload_n dX5_atom_116 rfl) <|
  XPr.cons (xs_callV (T := TX5) rfl gw_905 gw_907 gw_34 gw_77 gw_908 (by decide +kernel) (Nat.le_of_ble_eq_true rfl) dX5_atom_117) <|
  XPr.cons (xs_goto dX5_atom_120 (by decide +kernel)) <|
  XPr.cons (xs_aload_n dX5_atom_123 rfl) <|
  XPr.cons (xs_get (T := TX5) rfl gX5 (Nat.le_of_ble_eq_true rfl) gw_748 dX5_atom_124) <|
  XPr.cons (xs_if_ne dX5_atom_127 (by decide +kernel)) <|
  XPr.cons (xs_aload_n dX5_atom_130 rfl) <|
  XPr.cons (xs_get (T := TX5) rfl gX5 (Nat.le_of_ble_eq_true rfl) gw_744 dX5_atom_131) <|
  XPr.cons (xs_iconst dX5_atom_134 (by decide +kernel)) <|
  XPr.cons (xs_ic_ne dX5_atom_135 (by decide +kernel)) <|
  XPr.cons (xs_aload_n dX5_atom_138 rfl) <|
  XPr.cons (xs_callV (T := TX5) rfl gw_966 gw_968 gw_48 gw_77 gw_969 (by decide +kernel) (Nat.le_of_ble_eq_true rfl) dX5_atom_139) <|
  XPr.cons (xs_istore_n dX5_atom_142 rfl (Nat.le_of_ble_eq_true rfl)) <|
  XPr.cons (xs_aload_n dX5_atom_143 rfl) <|
  XPr.cons (xs_get (T := TX5) rfl gX5 (Nat.le_of_ble_eq_true rfl) gw_748 dX5_atom_144) <|
  XPr.cons (xs_if_ne dX5_atom_147 (by decide +kernel)) <|
  XPr.cons (xs_aload_n dX5_atom_150 rfl) <|
  XPr.cons (xs_callV (T := TX5) rfl gw_905 gw_907 gw_34 gw_77 gw_908 (by decide +kernel) (Nat.le_of_ble_eq_true rfl) dX5_atom_151) <|
  XPr.cons (xs_goto dX5_atom_154 (by decide +kernel)) <|
  XPr.cons (xs_aload_n dX5_atom_157 rfl) <|
  XPr.cons (xs_callV (T := TX5) rfl gw_930 gw_932 gw_39 gw_77 gw_933 (by decide +kernel) (Nat.le_of_ble_eq_true rfl) dX5_atom_158) <|
  XPr.nil
def pX5_atom_2 : List (Nat × XOp) := [(161, xo_il 1 162), (162, xo_iret)]
theorem sX5_atom_2 : XPr RX5 cX5_atom 2 (some .int) 10 pX5_atom_2 :=
  XPr.cons (xs_iload_n dX5_atom_161 rfl) <|
  XPr.cons (xs_iret rfl dX5_atom_162) <|
  XPr.nil
def pX5_atom : List (Nat × XOp) := pX5_atom_0 ++ pX5_atom_1 ++ pX5_atom_2
theorem sX5_atom : XPr RX5 cX5_atom 2 (some .int) 10 pX5_atom := ((sX5_atom_0).app sX5_atom_1).app sX5_atom_2
def pX5_term : List (Nat × XOp) := [(0, xo_al 0 1), (1, xo_callV yX5_atom cX5_atom 2 (some .int) 0 5 4), (4, xo_is 1 5), (5, xo_al 0 6), (6, xo_ic 42 8), (8, xo_callV yX5_isSign cX5_isSign 2 (some .boolean) 1 5 11), (11, xo_if_eq 28 14), (14, xo_al 0 15), (15, xo_callV yX5_next cX5_next 3 none 0 5 18), (18, xo_il 1 19), (19, xo_al 0 20), (20, xo_callV yX5_atom cX5_atom 2 (some .int) 0 5 23), (23, xo_imul 24), (24, xo_is 1 25), (25, xo_goto 5), (28, xo_il 1 29), (29, xo_iret)]
theorem sX5_term : XPr RX5 cX5_term 2 (some .int) 10 pX5_term :=
  XPr.cons (xs_aload_n dX5_term_0 rfl) <|
  XPr.cons (xs_callV (T := TX5) rfl gw_958 gw_960 gw_46 gw_77 gw_961 (by decide +kernel) (Nat.le_of_ble_eq_true rfl) dX5_term_1) <|
  XPr.cons (xs_istore_n dX5_term_4 rfl (Nat.le_of_ble_eq_true rfl)) <|
  XPr.cons (xs_aload_n dX5_term_5 rfl) <|
  XPr.cons (xs_bipush dX5_term_6 (by decide +kernel)) <|
  XPr.cons (xs_callV (T := TX5) rfl gw_962 gw_964 gw_47 gw_77 gw_965 (by decide +kernel) (Nat.le_of_ble_eq_true rfl) dX5_term_8) <|
  XPr.cons (xs_if_eq dX5_term_11 (by decide +kernel)) <|
  XPr.cons (xs_aload_n dX5_term_14 rfl) <|
  XPr.cons (xs_callV (T := TX5) rfl gw_905 gw_907 gw_34 gw_77 gw_908 (by decide +kernel) (Nat.le_of_ble_eq_true rfl) dX5_term_15) <|
  XPr.cons (xs_iload_n dX5_term_18 rfl) <|
  XPr.cons (xs_aload_n dX5_term_19 rfl) <|
  XPr.cons (xs_callV (T := TX5) rfl gw_958 gw_960 gw_46 gw_77 gw_961 (by decide +kernel) (Nat.le_of_ble_eq_true rfl) dX5_term_20) <|
  XPr.cons (xs_imul dX5_term_23) <|
  XPr.cons (xs_istore_n dX5_term_24 rfl (Nat.le_of_ble_eq_true rfl)) <|
  XPr.cons (xs_goto dX5_term_25 (by decide +kernel)) <|
  XPr.cons (xs_iload_n dX5_term_28 rfl) <|
  XPr.cons (xs_iret rfl dX5_term_29) <|
  XPr.nil
def pX5_added : List (Nat × XOp) := [(0, xo_al 0 1), (1, xo_callV yX5_term cX5_term 2 (some .int) 0 5 4), (4, xo_is 1 5), (5, xo_al 0 6), (6, xo_ic 43 8), (8, xo_callV yX5_isSign cX5_isSign 2 (some .boolean) 1 5 11), (11, xo_if_ne 23 14), (14, xo_al 0 15), (15, xo_ic 45 17), (17, xo_callV yX5_isSign cX5_isSign 2 (some .boolean) 1 5 20), (20, xo_if_eq 66 23), (23, xo_al 0 24), (24, xo_get 5 25 27), (27, xo_lc 43 30), (30, xo_lcmp 31), (31, xo_if_ne 38 34), (34, xo_ic 1 35), (35, xo_goto 39), (38, xo_ic 0 39), (39, xo_is 2 40), (40, xo_al 0 41), (41, xo_callV yX5_next cX5_next 3 none 0 5 44), (44, xo_al 0 45), (45, xo_callV yX5_term cX5_term 2 (some .int) 0 5 48), (48, xo_is 3 49), (49, xo_il 2 50), (50, xo_if_eq 59 53), (53, xo_il 1 54), (54, xo_il 3 55), (55, xo_iadd 56), (56, xo_goto 62), (59, xo_il 1 60), (60, xo_il 3 61), (61, xo_isub 62), (62, xo_is 1 63), (63, xo_goto 5), (66, xo_il 1 67), (67, xo_iret)]
theorem sX5_added : XPr RX5 cX5_added 4 (some .int) 10 pX5_added :=
  XPr.cons (xs_aload_n dX5_added_0 rfl) <|
  XPr.cons (xs_callV (T := TX5) rfl gw_954 gw_956 gw_45 gw_77 gw_957 (by decide +kernel) (Nat.le_of_ble_eq_true rfl) dX5_added_1) <|
  XPr.cons (xs_istore_n dX5_added_4 rfl (Nat.le_of_ble_eq_true rfl)) <|
  XPr.cons (xs_aload_n dX5_added_5 rfl) <|
  XPr.cons (xs_bipush dX5_added_6 (by decide +kernel)) <|
  XPr.cons (xs_callV (T := TX5) rfl gw_962 gw_964 gw_47 gw_77 gw_965 (by decide +kernel) (Nat.le_of_ble_eq_true rfl) dX5_added_8) <|
  XPr.cons (xs_if_ne dX5_added_11 (by decide +kernel)) <|
  XPr.cons (xs_aload_n dX5_added_14 rfl) <|
  XPr.cons (xs_bipush dX5_added_15 (by decide +kernel)) <|
  XPr.cons (xs_callV (T := TX5) rfl gw_962 gw_964 gw_47 gw_77 gw_965 (by decide +kernel) (Nat.le_of_ble_eq_true rfl) dX5_added_17) <|
  XPr.cons (xs_if_eq dX5_added_20 (by decide +kernel)) <|
  XPr.cons (xs_aload_n dX5_added_23 rfl) <|
  XPr.cons (xs_get (T := TX5) rfl gX5 (Nat.le_of_ble_eq_true rfl) gw_746 dX5_added_24) <|
  XPr.cons (xs_ldc2 gw_970 dX5_added_27) <|
  XPr.cons (xs_lcmp dX5_added_30) <|
  XPr.cons (xs_if_ne dX5_added_31 (by decide +kernel)) <|
  XPr.cons (xs_iconst dX5_added_34 (by decide +kernel)) <|
  XPr.cons (xs_goto dX5_added_35 (by decide +kernel)) <|
  XPr.cons (xs_iconst dX5_added_38 (by decide +kernel)) <|
  XPr.cons (xs_istore_n dX5_added_39 rfl (Nat.le_of_ble_eq_true rfl)) <|
  XPr.cons (xs_aload_n dX5_added_40 rfl) <|
  XPr.cons (xs_callV (T := TX5) rfl gw_905 gw_907 gw_34 gw_77 gw_908 (by decide +kernel) (Nat.le_of_ble_eq_true rfl) dX5_added_41) <|
  XPr.cons (xs_aload_n dX5_added_44 rfl) <|
  XPr.cons (xs_callV (T := TX5) rfl gw_954 gw_956 gw_45 gw_77 gw_957 (by decide +kernel) (Nat.le_of_ble_eq_true rfl) dX5_added_45) <|
  XPr.cons (xs_istore_n dX5_added_48 rfl (Nat.le_of_ble_eq_true rfl)) <|
  XPr.cons (xs_iload_n dX5_added_49 rfl) <|
  XPr.cons (xs_if_eq dX5_added_50 (by decide +kernel)) <|
  XPr.cons (xs_iload_n dX5_added_53 rfl) <|
  XPr.cons (xs_iload_n dX5_added_54 rfl) <|
  XPr.cons (xs_iadd dX5_added_55) <|
  XPr.cons (xs_goto dX5_added_56 (by decide +kernel)) <|
  XPr.cons (xs_iload_n dX5_added_59 rfl) <|
  XPr.cons (xs_iload_n dX5_added_60 rfl) <|
  XPr.cons (xs_isub dX5_added_61) <|
  XPr.cons (xs_istore_n dX5_added_62 rfl (Nat.le_of_ble_eq_true rfl)) <|
  XPr.cons (xs_goto dX5_added_63 (by decide +kernel)) <|
  XPr.cons (xs_iload_n dX5_added_66 rfl) <|
  XPr.cons (xs_iret rfl dX5_added_67) <|
  XPr.nil
def pX5_not_0 : List (Nat × XOp) := [(0, xo_al 0 1), (1, xo_ic 110 3), (3, xo_ic 111 5), (5, xo_ic 116 7), (7, xo_ic 0 8), (8, xo_ic 0 9), (9, xo_ic 0 10), (10, xo_ic 0 11), (11, xo_ic 0 12), (12, xo_callV yX5_isWord cX5_isWord 9 (some .boolean) 8 5 15), (15, xo_if_eq 52 18), (18, xo_al 0 19), (19, xo_callV yX5_opens cX5_opens 1 (some .boolean) 0 5 22), (22, xo_if_ne 27 25), (25, xo_ic 0 26), (26, xo_iret), (27, xo_al 0 28), (28, xo_callV yX5_not cX5_not 4 (some .int) 0 5 31), (31, xo_is 1 32), (32, xo_al 0 33), (33, xo_dupR 34), (34, xo_get 5 26 37), (37, xo_ic 1 38), (38, xo_isub 39), (39, xo_putI 5 26 42), (42, xo_il 1 43), (43, xo_if_ne 50 46), (46, xo_ic 1 47), (47, xo_goto 51), (50, xo_ic 0 51), (51, xo_iret), (52, xo_al 0 53), (53, xo_callV yX5_added cX5_added 4 (some .int) 0 5 56), (56, xo_is 1 57), (57, xo_al 0 58), (58, xo_ic 60 60), (60, xo_callV yX5_isSign cX5_isSign 2 (some .boolean) 1 5 63), (63, xo_if_ne 77 66), (66, xo_al 0 67), (67, xo_ic 61 69)]
theorem sX5_not_0 : XPr RX5 cX5_not 4 (some .int) 10 pX5_not_0 :=
  XPr.cons (xs_aload_n dX5_not_0 rfl) <|
  XPr.cons (xs_bipush dX5_not_1 (by decide +kernel)) <|
  XPr.cons (xs_bipush dX5_not_3 (by decide +kernel)) <|
  XPr.cons (xs_bipush dX5_not_5 (by decide +kernel)) <|
  XPr.cons (xs_iconst dX5_not_7 (by decide +kernel)) <|
  XPr.cons (xs_iconst dX5_not_8 (by decide +kernel)) <|
  XPr.cons (xs_iconst dX5_not_9 (by decide +kernel)) <|
  XPr.cons (xs_iconst dX5_not_10 (by decide +kernel)) <|
  XPr.cons (xs_iconst dX5_not_11 (by decide +kernel)) <|
  XPr.cons (xs_callV (T := TX5) rfl gw_918 gw_920 gw_36 gw_77 gw_921 (by decide +kernel) (Nat.le_of_ble_eq_true rfl) dX5_not_12) <|
  XPr.cons (xs_if_eq dX5_not_15 (by decide +kernel)) <|
  XPr.cons (xs_aload_n dX5_not_18 rfl) <|
  XPr.cons (xs_callV (T := TX5) rfl gw_946 gw_948 gw_43 gw_77 gw_949 (by decide +kernel) (Nat.le_of_ble_eq_true rfl) dX5_not_19) <|
  XPr.cons (xs_if_ne dX5_not_22 (by decide +kernel)) <|
  XPr.cons (xs_iconst dX5_not_25 (by decide +kernel)) <|
  XPr.cons (xs_iret rfl dX5_not_26) <|
  XPr.cons (xs_aload_n dX5_not_27 rfl) <|
  XPr.cons (xs_callV (T := TX5) rfl gw_942 gw_944 gw_42 gw_77 gw_945 (by decide +kernel) (Nat.le_of_ble_eq_true rfl) dX5_not_28) <|
  XPr.cons (xs_istore_n dX5_not_31 rfl (Nat.le_of_ble_eq_true rfl)) <|
  XPr.cons (xs_aload_n dX5_not_32 rfl) <|
  XPr.cons (xs_dupR dX5_not_33) <|
  XPr.cons (xs_get (T := TX5) rfl gX5 (Nat.le_of_ble_eq_true rfl) gw_747 dX5_not_34) <|
  XPr.cons (xs_iconst dX5_not_37 (by decide +kernel)) <|
  XPr.cons (xs_isub dX5_not_38) <|
  XPr.cons (xs_putI (T := TX5) rfl gX5 tyX5_ok nmX5 (Nat.le_of_ble_eq_true rfl) gw_747 rfl (by decide +kernel) dX5_not_39) <|
  XPr.cons (xs_iload_n dX5_not_42 rfl) <|
  XPr.cons (xs_if_ne dX5_not_43 (by decide +kernel)) <|
  XPr.cons (xs_iconst dX5_not_46 (by decide +kernel)) <|
  XPr.cons (xs_goto dX5_not_47 (by decide +kernel)) <|
  XPr.cons (xs_iconst dX5_not_50 (by decide +kernel)) <|
  XPr.cons (xs_iret rfl dX5_not_51) <|
  XPr.cons (xs_aload_n dX5_not_52 rfl) <|
  XPr.cons (xs_callV (T := TX5) rfl gw_950 gw_952 gw_44 gw_77 gw_953 (by decide +kernel) (Nat.le_of_ble_eq_true rfl) dX5_not_53) <|
  XPr.cons (xs_istore_n dX5_not_56 rfl (Nat.le_of_ble_eq_true rfl)) <|
  XPr.cons (xs_aload_n dX5_not_57 rfl) <|
  XPr.cons (xs_bipush dX5_not_58 (by decide +kernel)) <|
  XPr.cons (xs_callV (T := TX5) rfl gw_962 gw_964 gw_47 gw_77 gw_965 (by decide +kernel) (Nat.le_of_ble_eq_true rfl) dX5_not_60) <|
  XPr.cons (xs_if_ne dX5_not_63 (by decide +kernel)) <|
  XPr.cons (xs_aload_n dX5_not_66 rfl) <|
  XPr.cons (xs_bipush dX5_not_67 (by decide +kernel)) <|
  XPr.nil
def pX5_not_1 : List (Nat × XOp) := [(69, xo_callV yX5_isSign cX5_isSign 2 (some .boolean) 1 5 72), (72, xo_if_ne 77 75), (75, xo_il 1 76), (76, xo_iret), (77, xo_al 0 78), (78, xo_get 5 25 81), (81, xo_lc 60 84), (84, xo_lcmp 85), (85, xo_if_ne 92 88), (88, xo_ic 1 89), (89, xo_goto 93), (92, xo_ic 0 93), (93, xo_is 2 94), (94, xo_al 0 95), (95, xo_callV yX5_next cX5_next 3 none 0 5 98), (98, xo_al 0 99), (99, xo_callV yX5_added cX5_added 4 (some .int) 0 5 102), (102, xo_is 3 103), (103, xo_il 2 104), (104, xo_if_eq 115 107), (107, xo_il 1 108), (108, xo_il 3 109), (109, xo_ic_ge 124 112), (112, xo_goto 120), (115, xo_il 1 116), (116, xo_il 3 117), (117, xo_ic_ne 124 120), (120, xo_ic 1 121), (121, xo_goto 125), (124, xo_ic 0 125), (125, xo_iret)]
theorem sX5_not_1 : XPr RX5 cX5_not 4 (some .int) 10 pX5_not_1 :=
  XPr.cons (xs_callV (T := TX5) rfl gw_962 gw_964 gw_47 gw_77 gw_965 (by decide +kernel) (Nat.le_of_ble_eq_true rfl) dX5_not_69) <|
  XPr.cons (xs_if_ne dX5_not_72 (by decide +kernel)) <|
  XPr.cons (xs_iload_n dX5_not_75 rfl) <|
  XPr.cons (xs_iret rfl dX5_not_76) <|
  XPr.cons (xs_aload_n dX5_not_77 rfl) <|
  XPr.cons (xs_get (T := TX5) rfl gX5 (Nat.le_of_ble_eq_true rfl) gw_746 dX5_not_78) <|
  XPr.cons (xs_ldc2 gw_971 dX5_not_81) <|
  XPr.cons (xs_lcmp dX5_not_84) <|
  XPr.cons (xs_if_ne dX5_not_85 (by decide +kernel)) <|
  XPr.cons (xs_iconst dX5_not_88 (by decide +kernel)) <|
  XPr.cons (xs_goto dX5_not_89 (by decide +kernel)) <|
  XPr.cons (xs_iconst dX5_not_92 (by decide +kernel)) <|
  XPr.cons (xs_istore_n dX5_not_93 rfl (Nat.le_of_ble_eq_true rfl)) <|
  XPr.cons (xs_aload_n dX5_not_94 rfl) <|
  XPr.cons (xs_callV (T := TX5) rfl gw_905 gw_907 gw_34 gw_77 gw_908 (by decide +kernel) (Nat.le_of_ble_eq_true rfl) dX5_not_95) <|
  XPr.cons (xs_aload_n dX5_not_98 rfl) <|
  XPr.cons (xs_callV (T := TX5) rfl gw_950 gw_952 gw_44 gw_77 gw_953 (by decide +kernel) (Nat.le_of_ble_eq_true rfl) dX5_not_99) <|
  XPr.cons (xs_istore_n dX5_not_102 rfl (Nat.le_of_ble_eq_true rfl)) <|
  XPr.cons (xs_iload_n dX5_not_103 rfl) <|
  XPr.cons (xs_if_eq dX5_not_104 (by decide +kernel)) <|
  XPr.cons (xs_iload_n dX5_not_107 rfl) <|
  XPr.cons (xs_iload_n dX5_not_108 rfl) <|
  XPr.cons (xs_ic_ge dX5_not_109 (by decide +kernel)) <|
  XPr.cons (xs_goto dX5_not_112 (by decide +kernel)) <|
  XPr.cons (xs_iload_n dX5_not_115 rfl) <|
  XPr.cons (xs_iload_n dX5_not_116 rfl) <|
  XPr.cons (xs_ic_ne dX5_not_117 (by decide +kernel)) <|
  XPr.cons (xs_iconst dX5_not_120 (by decide +kernel)) <|
  XPr.cons (xs_goto dX5_not_121 (by decide +kernel)) <|
  XPr.cons (xs_iconst dX5_not_124 (by decide +kernel)) <|
  XPr.cons (xs_iret rfl dX5_not_125) <|
  XPr.nil
def pX5_not : List (Nat × XOp) := pX5_not_0 ++ pX5_not_1
theorem sX5_not : XPr RX5 cX5_not 4 (some .int) 10 pX5_not := (sX5_not_0).app sX5_not_1
def pX5_both : List (Nat × XOp) := [(0, xo_al 0 1), (1, xo_callV yX5_not cX5_not 4 (some .int) 0 5 4), (4, xo_is 1 5), (5, xo_al 0 6), (6, xo_ic 97 8), (8, xo_ic 110 10), (10, xo_ic 100 12), (12, xo_ic 0 13), (13, xo_ic 0 14), (14, xo_ic 0 15), (15, xo_ic 0 16), (16, xo_ic 0 17), (17, xo_callV yX5_isWord cX5_isWord 9 (some .boolean) 8 5 20), (20, xo_if_eq 49 23), (23, xo_al 0 24), (24, xo_callV yX5_next cX5_next 3 none 0 5 27), (27, xo_al 0 28), (28, xo_callV yX5_not cX5_not 4 (some .int) 0 5 31), (31, xo_is 2 32), (32, xo_il 1 33), (33, xo_if_eq 44 36), (36, xo_il 2 37), (37, xo_if_eq 44 40), (40, xo_ic 1 41), (41, xo_goto 45), (44, xo_ic 0 45), (45, xo_is 1 46), (46, xo_goto 5), (49, xo_il 1 50), (50, xo_iret)]
theorem sX5_both : XPr RX5 cX5_both 3 (some .int) 10 pX5_both :=
  XPr.cons (xs_aload_n dX5_both_0 rfl) <|
  XPr.cons (xs_callV (T := TX5) rfl gw_942 gw_944 gw_42 gw_77 gw_945 (by decide +kernel) (Nat.le_of_ble_eq_true rfl) dX5_both_1) <|
  XPr.cons (xs_istore_n dX5_both_4 rfl (Nat.le_of_ble_eq_true rfl)) <|
  XPr.cons (xs_aload_n dX5_both_5 rfl) <|
  XPr.cons (xs_bipush dX5_both_6 (by decide +kernel)) <|
  XPr.cons (xs_bipush dX5_both_8 (by decide +kernel)) <|
  XPr.cons (xs_bipush dX5_both_10 (by decide +kernel)) <|
  XPr.cons (xs_iconst dX5_both_12 (by decide +kernel)) <|
  XPr.cons (xs_iconst dX5_both_13 (by decide +kernel)) <|
  XPr.cons (xs_iconst dX5_both_14 (by decide +kernel)) <|
  XPr.cons (xs_iconst dX5_both_15 (by decide +kernel)) <|
  XPr.cons (xs_iconst dX5_both_16 (by decide +kernel)) <|
  XPr.cons (xs_callV (T := TX5) rfl gw_918 gw_920 gw_36 gw_77 gw_921 (by decide +kernel) (Nat.le_of_ble_eq_true rfl) dX5_both_17) <|
  XPr.cons (xs_if_eq dX5_both_20 (by decide +kernel)) <|
  XPr.cons (xs_aload_n dX5_both_23 rfl) <|
  XPr.cons (xs_callV (T := TX5) rfl gw_905 gw_907 gw_34 gw_77 gw_908 (by decide +kernel) (Nat.le_of_ble_eq_true rfl) dX5_both_24) <|
  XPr.cons (xs_aload_n dX5_both_27 rfl) <|
  XPr.cons (xs_callV (T := TX5) rfl gw_942 gw_944 gw_42 gw_77 gw_945 (by decide +kernel) (Nat.le_of_ble_eq_true rfl) dX5_both_28) <|
  XPr.cons (xs_istore_n dX5_both_31 rfl (Nat.le_of_ble_eq_true rfl)) <|
  XPr.cons (xs_iload_n dX5_both_32 rfl) <|
  XPr.cons (xs_if_eq dX5_both_33 (by decide +kernel)) <|
  XPr.cons (xs_iload_n dX5_both_36 rfl) <|
  XPr.cons (xs_if_eq dX5_both_37 (by decide +kernel)) <|
  XPr.cons (xs_iconst dX5_both_40 (by decide +kernel)) <|
  XPr.cons (xs_goto dX5_both_41 (by decide +kernel)) <|
  XPr.cons (xs_iconst dX5_both_44 (by decide +kernel)) <|
  XPr.cons (xs_istore_n dX5_both_45 rfl (Nat.le_of_ble_eq_true rfl)) <|
  XPr.cons (xs_goto dX5_both_46 (by decide +kernel)) <|
  XPr.cons (xs_iload_n dX5_both_49 rfl) <|
  XPr.cons (xs_iret rfl dX5_both_50) <|
  XPr.nil
def pX5_either : List (Nat × XOp) := [(0, xo_al 0 1), (1, xo_callV yX5_both cX5_both 3 (some .int) 0 5 4), (4, xo_is 1 5), (5, xo_al 0 6), (6, xo_ic 111 8), (8, xo_ic 114 10), (10, xo_ic 0 11), (11, xo_ic 0 12), (12, xo_ic 0 13), (13, xo_ic 0 14), (14, xo_ic 0 15), (15, xo_ic 0 16), (16, xo_callV yX5_isWord cX5_isWord 9 (some .boolean) 8 5 19), (19, xo_if_eq 48 22), (22, xo_al 0 23), (23, xo_callV yX5_next cX5_next 3 none 0 5 26), (26, xo_al 0 27), (27, xo_callV yX5_both cX5_both 3 (some .int) 0 5 30), (30, xo_is 2 31), (31, xo_il 1 32), (32, xo_if_ne 39 35), (35, xo_il 2 36), (36, xo_if_eq 43 39), (39, xo_ic 1 40), (40, xo_goto 44), (43, xo_ic 0 44), (44, xo_is 1 45), (45, xo_goto 5), (48, xo_il 1 49), (49, xo_iret)]
theorem sX5_either : XPr RX5 cX5_either 3 (some .int) 10 pX5_either :=
  XPr.cons (xs_aload_n dX5_either_0 rfl) <|
  XPr.cons (xs_callV (T := TX5) rfl gw_938 gw_940 gw_41 gw_77 gw_941 (by decide +kernel) (Nat.le_of_ble_eq_true rfl) dX5_either_1) <|
  XPr.cons (xs_istore_n dX5_either_4 rfl (Nat.le_of_ble_eq_true rfl)) <|
  XPr.cons (xs_aload_n dX5_either_5 rfl) <|
  XPr.cons (xs_bipush dX5_either_6 (by decide +kernel)) <|
  XPr.cons (xs_bipush dX5_either_8 (by decide +kernel)) <|
  XPr.cons (xs_iconst dX5_either_10 (by decide +kernel)) <|
  XPr.cons (xs_iconst dX5_either_11 (by decide +kernel)) <|
  XPr.cons (xs_iconst dX5_either_12 (by decide +kernel)) <|
  XPr.cons (xs_iconst dX5_either_13 (by decide +kernel)) <|
  XPr.cons (xs_iconst dX5_either_14 (by decide +kernel)) <|
  XPr.cons (xs_iconst dX5_either_15 (by decide +kernel)) <|
  XPr.cons (xs_callV (T := TX5) rfl gw_918 gw_920 gw_36 gw_77 gw_921 (by decide +kernel) (Nat.le_of_ble_eq_true rfl) dX5_either_16) <|
  XPr.cons (xs_if_eq dX5_either_19 (by decide +kernel)) <|
  XPr.cons (xs_aload_n dX5_either_22 rfl) <|
  XPr.cons (xs_callV (T := TX5) rfl gw_905 gw_907 gw_34 gw_77 gw_908 (by decide +kernel) (Nat.le_of_ble_eq_true rfl) dX5_either_23) <|
  XPr.cons (xs_aload_n dX5_either_26 rfl) <|
  XPr.cons (xs_callV (T := TX5) rfl gw_938 gw_940 gw_41 gw_77 gw_941 (by decide +kernel) (Nat.le_of_ble_eq_true rfl) dX5_either_27) <|
  XPr.cons (xs_istore_n dX5_either_30 rfl (Nat.le_of_ble_eq_true rfl)) <|
  XPr.cons (xs_iload_n dX5_either_31 rfl) <|
  XPr.cons (xs_if_ne dX5_either_32 (by decide +kernel)) <|
  XPr.cons (xs_iload_n dX5_either_35 rfl) <|
  XPr.cons (xs_if_eq dX5_either_36 (by decide +kernel)) <|
  XPr.cons (xs_iconst dX5_either_39 (by decide +kernel)) <|
  XPr.cons (xs_goto dX5_either_40 (by decide +kernel)) <|
  XPr.cons (xs_iconst dX5_either_43 (by decide +kernel)) <|
  XPr.cons (xs_istore_n dX5_either_44 rfl (Nat.le_of_ble_eq_true rfl)) <|
  XPr.cons (xs_goto dX5_either_45 (by decide +kernel)) <|
  XPr.cons (xs_iload_n dX5_either_48 rfl) <|
  XPr.cons (xs_iret rfl dX5_either_49) <|
  XPr.nil
def pX5_part : List (Nat × XOp) := [(0, xo_il 1 1), (1, xo_if_ne 8 4), (4, xo_al 0 5), (5, xo_callV yX5_fail cX5_fail 1 none 0 5 8), (8, xo_al 0 9), (9, xo_get 5 27 12), (12, xo_if_ne 19 15), (15, xo_al 0 16), (16, xo_callV yX5_next cX5_next 3 none 0 5 19), (19, xo_al 0 20), (20, xo_get 5 27 23), (23, xo_if_eq 30 26), (26, xo_ic 0 27), (27, xo_goto 34), (30, xo_al 0 31), (31, xo_callV yX5_either cX5_either 3 (some .int) 0 5 34), (34, xo_is 2 35), (35, xo_al 0 36), (36, xo_ic 59 38), (38, xo_callV yX5_isSign cX5_isSign 2 (some .boolean) 1 5 41), (41, xo_if_ne 48 44), (44, xo_al 0 45), (45, xo_callV yX5_fail cX5_fail 1 none 0 5 48), (48, xo_al 0 49), (49, xo_get 5 27 52), (52, xo_if_ne 59 55), (55, xo_al 0 56), (56, xo_callV yX5_next cX5_next 3 none 0 5 59), (59, xo_il 2 60), (60, xo_iret)]
theorem sX5_part : XPr RX5 cX5_part 3 (some .int) 10 pX5_part :=
  XPr.cons (xs_iload_n dX5_part_0 rfl) <|
  XPr.cons (xs_if_ne dX5_part_1 (by decide +kernel)) <|
  XPr.cons (xs_aload_n dX5_part_4 rfl) <|
  XPr.cons (xs_callV (T := TX5) rfl gw_930 gw_932 gw_39 gw_77 gw_933 (by decide +kernel) (Nat.le_of_ble_eq_true rfl) dX5_part_5) <|
  XPr.cons (xs_aload_n dX5_part_8 rfl) <|
  XPr.cons (xs_get (T := TX5) rfl gX5 (Nat.le_of_ble_eq_true rfl) gw_748 dX5_part_9) <|
  XPr.cons (xs_if_ne dX5_part_12 (by decide +kernel)) <|
  XPr.cons (xs_aload_n dX5_part_15 rfl) <|
  XPr.cons (xs_callV (T := TX5) rfl gw_905 gw_907 gw_34 gw_77 gw_908 (by decide +kernel) (Nat.le_of_ble_eq_true rfl) dX5_part_16) <|
  XPr.cons (xs_aload_n dX5_part_19 rfl) <|
  XPr.cons (xs_get (T := TX5) rfl gX5 (Nat.le_of_ble_eq_true rfl) gw_748 dX5_part_20) <|
  XPr.cons (xs_if_eq dX5_part_23 (by decide +kernel)) <|
  XPr.cons (xs_iconst dX5_part_26 (by decide +kernel)) <|
  XPr.cons (xs_goto dX5_part_27 (by decide +kernel)) <|
  XPr.cons (xs_aload_n dX5_part_30 rfl) <|
  XPr.cons (xs_callV (T := TX5) rfl gw_934 gw_936 gw_40 gw_77 gw_937 (by decide +kernel) (Nat.le_of_ble_eq_true rfl) dX5_part_31) <|
  XPr.cons (xs_istore_n dX5_part_34 rfl (Nat.le_of_ble_eq_true rfl)) <|
  XPr.cons (xs_aload_n dX5_part_35 rfl) <|
  XPr.cons (xs_bipush dX5_part_36 (by decide +kernel)) <|
  XPr.cons (xs_callV (T := TX5) rfl gw_962 gw_964 gw_47 gw_77 gw_965 (by decide +kernel) (Nat.le_of_ble_eq_true rfl) dX5_part_38) <|
  XPr.cons (xs_if_ne dX5_part_41 (by decide +kernel)) <|
  XPr.cons (xs_aload_n dX5_part_44 rfl) <|
  XPr.cons (xs_callV (T := TX5) rfl gw_930 gw_932 gw_39 gw_77 gw_933 (by decide +kernel) (Nat.le_of_ble_eq_true rfl) dX5_part_45) <|
  XPr.cons (xs_aload_n dX5_part_48 rfl) <|
  XPr.cons (xs_get (T := TX5) rfl gX5 (Nat.le_of_ble_eq_true rfl) gw_748 dX5_part_49) <|
  XPr.cons (xs_if_ne dX5_part_52 (by decide +kernel)) <|
  XPr.cons (xs_aload_n dX5_part_55 rfl) <|
  XPr.cons (xs_callV (T := TX5) rfl gw_905 gw_907 gw_34 gw_77 gw_908 (by decide +kernel) (Nat.le_of_ble_eq_true rfl) dX5_part_56) <|
  XPr.cons (xs_iload_n dX5_part_59 rfl) <|
  XPr.cons (xs_iret rfl dX5_part_60) <|
  XPr.nil
def pX5_read_0 : List (Nat × XOp) := [(0, xo_al 0 1), (1, xo_ic 160 4), (4, xo_il 1 5), (5, xo_imul 6), (6, xo_putI 5 20 9), (9, xo_al 0 10), (10, xo_al 0 11), (11, xo_get 5 2 14), (14, xo_il 1 15), (15, xo_iald 16), (16, xo_putI 5 21 19), (19, xo_al 0 20), (20, xo_ic 0 21), (21, xo_putI 5 22 24), (24, xo_al 0 25), (25, xo_ic 0 26), (26, xo_putI 5 26 29), (29, xo_al 0 30), (30, xo_ic 0 31), (31, xo_putZ 5 27 34), (34, xo_al 0 35), (35, xo_callV yX5_next cX5_next 3 none 0 5 38), (38, xo_al 0 39), (39, xo_al 0 40), (40, xo_ic 109 42), (42, xo_ic 97 44), (44, xo_ic 107 46), (46, xo_ic 101 48), (48, xo_ic 115 50), (50, xo_ic 0 51), (51, xo_ic 0 52), (52, xo_ic 0 53), (53, xo_callV yX5_isWord cX5_isWord 9 (some .boolean) 8 5 56), (56, xo_callV yX5_part cX5_part 3 (some .int) 1 5 59), (59, xo_is 3 60), (60, xo_al 0 61), (61, xo_get 5 27 64), (64, xo_if_eq 71 67), (67, xo_ic 0 68), (68, xo_goto 92)]
theorem sX5_read_0 : XPr RX5 cX5_read 6 (some .int) 10 pX5_read_0 :=
  XPr.cons (xs_aload_n dX5_read_0 rfl) <|
  XPr.cons (xs_sipush dX5_read_1 (by decide +kernel)) <|
  XPr.cons (xs_iload_n dX5_read_4 rfl) <|
  XPr.cons (xs_imul dX5_read_5) <|
  XPr.cons (xs_putI (T := TX5) rfl gX5 tyX5_ok nmX5 (Nat.le_of_ble_eq_true rfl) gw_741 rfl (by decide +kernel) dX5_read_6) <|
  XPr.cons (xs_aload_n dX5_read_9 rfl) <|
  XPr.cons (xs_aload_n dX5_read_10 rfl) <|
  XPr.cons (xs_get (T := TX5) rfl gX5 (Nat.le_of_ble_eq_true rfl) gw_723 dX5_read_11) <|
  XPr.cons (xs_iload_n dX5_read_14 rfl) <|
  XPr.cons (xs_iald dX5_read_15) <|
  XPr.cons (xs_putI (T := TX5) rfl gX5 tyX5_ok nmX5 (Nat.le_of_ble_eq_true rfl) gw_742 rfl (by decide +kernel) dX5_read_16) <|
  XPr.cons (xs_aload_n dX5_read_19 rfl) <|
  XPr.cons (xs_iconst dX5_read_20 (by decide +kernel)) <|
  XPr.cons (xs_putI (T := TX5) rfl gX5 tyX5_ok nmX5 (Nat.le_of_ble_eq_true rfl) gw_743 rfl (by decide +kernel) dX5_read_21) <|
  XPr.cons (xs_aload_n dX5_read_24 rfl) <|
  XPr.cons (xs_iconst dX5_read_25 (by decide +kernel)) <|
  XPr.cons (xs_putI (T := TX5) rfl gX5 tyX5_ok nmX5 (Nat.le_of_ble_eq_true rfl) gw_747 rfl (by decide +kernel) dX5_read_26) <|
  XPr.cons (xs_aload_n dX5_read_29 rfl) <|
  XPr.cons (xs_iconst dX5_read_30 (by decide +kernel)) <|
  XPr.cons (xs_putZ (T := TX5) rfl gX5 tyX5_ok nmX5 (Nat.le_of_ble_eq_true rfl) gw_748 rfl (by decide +kernel) dX5_read_31) <|
  XPr.cons (xs_aload_n dX5_read_34 rfl) <|
  XPr.cons (xs_callV (T := TX5) rfl gw_905 gw_907 gw_34 gw_77 gw_908 (by decide +kernel) (Nat.le_of_ble_eq_true rfl) dX5_read_35) <|
  XPr.cons (xs_aload_n dX5_read_38 rfl) <|
  XPr.cons (xs_aload_n dX5_read_39 rfl) <|
  XPr.cons (xs_bipush dX5_read_40 (by decide +kernel)) <|
  XPr.cons (xs_bipush dX5_read_42 (by decide +kernel)) <|
  XPr.cons (xs_bipush dX5_read_44 (by decide +kernel)) <|
  XPr.cons (xs_bipush dX5_read_46 (by decide +kernel)) <|
  XPr.cons (xs_bipush dX5_read_48 (by decide +kernel)) <|
  XPr.cons (xs_iconst dX5_read_50 (by decide +kernel)) <|
  XPr.cons (xs_iconst dX5_read_51 (by decide +kernel)) <|
  XPr.cons (xs_iconst dX5_read_52 (by decide +kernel)) <|
  XPr.cons (xs_callV (T := TX5) rfl gw_918 gw_920 gw_36 gw_77 gw_921 (by decide +kernel) (Nat.le_of_ble_eq_true rfl) dX5_read_53) <|
  XPr.cons (xs_callV (T := TX5) rfl gw_926 gw_928 gw_38 gw_77 gw_929 (by decide +kernel) (Nat.le_of_ble_eq_true rfl) dX5_read_56) <|
  XPr.cons (xs_istore_n dX5_read_59 rfl (Nat.le_of_ble_eq_true rfl)) <|
  XPr.cons (xs_aload_n dX5_read_60 rfl) <|
  XPr.cons (xs_get (T := TX5) rfl gX5 (Nat.le_of_ble_eq_true rfl) gw_748 dX5_read_61) <|
  XPr.cons (xs_if_eq dX5_read_64 (by decide +kernel)) <|
  XPr.cons (xs_iconst dX5_read_67 (by decide +kernel)) <|
  XPr.cons (xs_goto dX5_read_68 (by decide +kernel)) <|
  XPr.nil
def pX5_read_1 : List (Nat × XOp) := [(71, xo_al 0 72), (72, xo_al 0 73), (73, xo_ic 109 75), (75, xo_ic 101 77), (77, xo_ic 110 79), (79, xo_ic 100 81), (81, xo_ic 115 83), (83, xo_ic 0 84), (84, xo_ic 0 85), (85, xo_ic 0 86), (86, xo_callV yX5_isWord cX5_isWord 9 (some .boolean) 8 5 89), (89, xo_callV yX5_part cX5_part 3 (some .int) 1 5 92), (92, xo_is 4 94), (94, xo_al 0 95), (95, xo_get 5 27 98), (98, xo_if_eq 105 101), (101, xo_ic 0 102), (102, xo_goto 126), (105, xo_al 0 106), (106, xo_al 0 107), (107, xo_ic 112 109), (109, xo_ic 117 111), (111, xo_ic 109 113), (113, xo_ic 112 115), (115, xo_ic 115 117), (117, xo_ic 0 118), (118, xo_ic 0 119), (119, xo_ic 0 120), (120, xo_callV yX5_isWord cX5_isWord 9 (some .boolean) 8 5 123), (123, xo_callV yX5_part cX5_part 3 (some .int) 1 5 126), (126, xo_is 5 128), (128, xo_al 0 129), (129, xo_get 5 27 132), (132, xo_if_ne 146 135), (135, xo_al 0 136), (136, xo_get 5 23 139), (139, xo_if_eq 146 142), (142, xo_al 0 143), (143, xo_callV yX5_fail cX5_fail 1 none 0 5 146), (146, xo_il 2 147)]
theorem sX5_read_1 : XPr RX5 cX5_read 6 (some .int) 10 pX5_read_1 :=
  XPr.cons (xs_aload_n dX5_read_71 rfl) <|
  XPr.cons (xs_aload_n dX5_read_72 rfl) <|
  XPr.cons (xs_bipush dX5_read_73 (by decide +kernel)) <|
  XPr.cons (xs_bipush dX5_read_75 (by decide +kernel)) <|
  XPr.cons (xs_bipush dX5_read_77 (by decide +kernel)) <|
  XPr.cons (xs_bipush dX5_read_79 (by decide +kernel)) <|
  XPr.cons (xs_bipush dX5_read_81 (by decide +kernel)) <|
  XPr.cons (xs_iconst dX5_read_83 (by decide +kernel)) <|
  XPr.cons (xs_iconst dX5_read_84 (by decide +kernel)) <|
  XPr.cons (xs_iconst dX5_read_85 (by decide +kernel)) <|
  XPr.cons (xs_callV (T := TX5) rfl gw_918 gw_920 gw_36 gw_77 gw_921 (by decide +kernel) (Nat.le_of_ble_eq_true rfl) dX5_read_86) <|
  XPr.cons (xs_callV (T := TX5) rfl gw_926 gw_928 gw_38 gw_77 gw_929 (by decide +kernel) (Nat.le_of_ble_eq_true rfl) dX5_read_89) <|
  XPr.cons (xs_istore dX5_read_92 (Nat.le_of_ble_eq_true rfl)) <|
  XPr.cons (xs_aload_n dX5_read_94 rfl) <|
  XPr.cons (xs_get (T := TX5) rfl gX5 (Nat.le_of_ble_eq_true rfl) gw_748 dX5_read_95) <|
  XPr.cons (xs_if_eq dX5_read_98 (by decide +kernel)) <|
  XPr.cons (xs_iconst dX5_read_101 (by decide +kernel)) <|
  XPr.cons (xs_goto dX5_read_102 (by decide +kernel)) <|
  XPr.cons (xs_aload_n dX5_read_105 rfl) <|
  XPr.cons (xs_aload_n dX5_read_106 rfl) <|
  XPr.cons (xs_bipush dX5_read_107 (by decide +kernel)) <|
  XPr.cons (xs_bipush dX5_read_109 (by decide +kernel)) <|
  XPr.cons (xs_bipush dX5_read_111 (by decide +kernel)) <|
  XPr.cons (xs_bipush dX5_read_113 (by decide +kernel)) <|
  XPr.cons (xs_bipush dX5_read_115 (by decide +kernel)) <|
  XPr.cons (xs_iconst dX5_read_117 (by decide +kernel)) <|
  XPr.cons (xs_iconst dX5_read_118 (by decide +kernel)) <|
  XPr.cons (xs_iconst dX5_read_119 (by decide +kernel)) <|
  XPr.cons (xs_callV (T := TX5) rfl gw_918 gw_920 gw_36 gw_77 gw_921 (by decide +kernel) (Nat.le_of_ble_eq_true rfl) dX5_read_120) <|
  XPr.cons (xs_callV (T := TX5) rfl gw_926 gw_928 gw_38 gw_77 gw_929 (by decide +kernel) (Nat.le_of_ble_eq_true rfl) dX5_read_123) <|
  XPr.cons (xs_istore dX5_read_126 (Nat.le_of_ble_eq_true rfl)) <|
  XPr.cons (xs_aload_n dX5_read_128 rfl) <|
  XPr.cons (xs_get (T := TX5) rfl gX5 (Nat.le_of_ble_eq_true rfl) gw_748 dX5_read_129) <|
  XPr.cons (xs_if_ne dX5_read_132 (by decide +kernel)) <|
  XPr.cons (xs_aload_n dX5_read_135 rfl) <|
  XPr.cons (xs_get (T := TX5) rfl gX5 (Nat.le_of_ble_eq_true rfl) gw_744 dX5_read_136) <|
  XPr.cons (xs_if_eq dX5_read_139 (by decide +kernel)) <|
  XPr.cons (xs_aload_n dX5_read_142 rfl) <|
  XPr.cons (xs_callV (T := TX5) rfl gw_930 gw_932 gw_39 gw_77 gw_933 (by decide +kernel) (Nat.le_of_ble_eq_true rfl) dX5_read_143) <|
  XPr.cons (xs_iload_n dX5_read_146 rfl) <|
  XPr.nil
def pX5_read_2 : List (Nat × XOp) := [(147, xo_if_ne 154 150), (150, xo_il 3 151), (151, xo_goto 166), (154, xo_il 2 155), (155, xo_ic 1 156), (156, xo_ic_ne 164 159), (159, xo_il 4 161), (161, xo_goto 166), (164, xo_il 5 166), (166, xo_iret)]
theorem sX5_read_2 : XPr RX5 cX5_read 6 (some .int) 10 pX5_read_2 :=
  XPr.cons (xs_if_ne dX5_read_147 (by decide +kernel)) <|
  XPr.cons (xs_iload_n dX5_read_150 rfl) <|
  XPr.cons (xs_goto dX5_read_151 (by decide +kernel)) <|
  XPr.cons (xs_iload_n dX5_read_154 rfl) <|
  XPr.cons (xs_iconst dX5_read_155 (by decide +kernel)) <|
  XPr.cons (xs_ic_ne dX5_read_156 (by decide +kernel)) <|
  XPr.cons (xs_iload dX5_read_159) <|
  XPr.cons (xs_goto dX5_read_161 (by decide +kernel)) <|
  XPr.cons (xs_iload dX5_read_164) <|
  XPr.cons (xs_iret rfl dX5_read_166) <|
  XPr.nil
def pX5_read : List (Nat × XOp) := pX5_read_0 ++ pX5_read_1 ++ pX5_read_2
theorem sX5_read : XPr RX5 cX5_read 6 (some .int) 10 pX5_read := ((sX5_read_0).app sX5_read_1).app sX5_read_2
def pX5_text_0 : List (Nat × XOp) := [(0, xo_al 0 1), (1, xo_get 5 3 4), (4, xo_ic 6 6), (6, xo_ic_ne 12 9), (9, xo_ic (-4) 11), (11, xo_iret), (12, xo_ic 0 13), (13, xo_is 1 14), (14, xo_il 1 15), (15, xo_al 0 16), (16, xo_get 5 6 19), (19, xo_ic_ge 49 22), (22, xo_al 0 23), (23, xo_get 5 1 26), (26, xo_ic 160 29), (29, xo_al 0 30), (30, xo_get 5 3 33), (33, xo_imul 34), (34, xo_il 1 35), (35, xo_iadd 36), (36, xo_al 0 37), (37, xo_get 5 5 40), (40, xo_il 1 41), (41, xo_iald 42), (42, xo_iast 43), (43, xo_inc 1 1 46), (46, xo_goto 14), (49, xo_al 0 50), (50, xo_get 5 2 53), (53, xo_al 0 54), (54, xo_get 5 3 57), (57, xo_al 0 58), (58, xo_get 5 6 61), (61, xo_iast 62), (62, xo_al 0 63), (63, xo_ic 0 64), (64, xo_putI 5 6 67), (67, xo_al 0 68), (68, xo_al 0 69), (69, xo_get 5 3 72)]
theorem sX5_text_0 : XPr RX5 cX5_text 2 (some .int) 10 pX5_text_0 :=
  XPr.cons (xs_aload_n dX5_text_0 rfl) <|
  XPr.cons (xs_get (T := TX5) rfl gX5 (Nat.le_of_ble_eq_true rfl) gw_724 dX5_text_1) <|
  XPr.cons (xs_bipush dX5_text_4 (by decide +kernel)) <|
  XPr.cons (xs_ic_ne dX5_text_6 (by decide +kernel)) <|
  XPr.cons (xs_bipush dX5_text_9 (by decide +kernel)) <|
  XPr.cons (xs_iret rfl dX5_text_11) <|
  XPr.cons (xs_iconst dX5_text_12 (by decide +kernel)) <|
  XPr.cons (xs_istore_n dX5_text_13 rfl (Nat.le_of_ble_eq_true rfl)) <|
  XPr.cons (xs_iload_n dX5_text_14 rfl) <|
  XPr.cons (xs_aload_n dX5_text_15 rfl) <|
  XPr.cons (xs_get (T := TX5) rfl gX5 (Nat.le_of_ble_eq_true rfl) gw_727 dX5_text_16) <|
  XPr.cons (xs_ic_ge dX5_text_19 (by decide +kernel)) <|
  XPr.cons (xs_aload_n dX5_text_22 rfl) <|
  XPr.cons (xs_get (T := TX5) rfl gX5 (Nat.le_of_ble_eq_true rfl) gw_722 dX5_text_23) <|
  XPr.cons (xs_sipush dX5_text_26 (by decide +kernel)) <|
  XPr.cons (xs_aload_n dX5_text_29 rfl) <|
  XPr.cons (xs_get (T := TX5) rfl gX5 (Nat.le_of_ble_eq_true rfl) gw_724 dX5_text_30) <|
  XPr.cons (xs_imul dX5_text_33) <|
  XPr.cons (xs_iload_n dX5_text_34 rfl) <|
  XPr.cons (xs_iadd dX5_text_35) <|
  XPr.cons (xs_aload_n dX5_text_36 rfl) <|
  XPr.cons (xs_get (T := TX5) rfl gX5 (Nat.le_of_ble_eq_true rfl) gw_726 dX5_text_37) <|
  XPr.cons (xs_iload_n dX5_text_40 rfl) <|
  XPr.cons (xs_iald dX5_text_41) <|
  XPr.cons (xs_iast dX5_text_42) <|
  XPr.cons (xs_iinc dX5_text_43 (by decide +kernel) (Nat.le_of_ble_eq_true rfl)) <|
  XPr.cons (xs_goto dX5_text_46 (by decide +kernel)) <|
  XPr.cons (xs_aload_n dX5_text_49 rfl) <|
  XPr.cons (xs_get (T := TX5) rfl gX5 (Nat.le_of_ble_eq_true rfl) gw_723 dX5_text_50) <|
  XPr.cons (xs_aload_n dX5_text_53 rfl) <|
  XPr.cons (xs_get (T := TX5) rfl gX5 (Nat.le_of_ble_eq_true rfl) gw_724 dX5_text_54) <|
  XPr.cons (xs_aload_n dX5_text_57 rfl) <|
  XPr.cons (xs_get (T := TX5) rfl gX5 (Nat.le_of_ble_eq_true rfl) gw_727 dX5_text_58) <|
  XPr.cons (xs_iast dX5_text_61) <|
  XPr.cons (xs_aload_n dX5_text_62 rfl) <|
  XPr.cons (xs_iconst dX5_text_63 (by decide +kernel)) <|
  XPr.cons (xs_putI (T := TX5) rfl gX5 tyX5_ok nmX5 (Nat.le_of_ble_eq_true rfl) gw_727 rfl (by decide +kernel) dX5_text_64) <|
  XPr.cons (xs_aload_n dX5_text_67 rfl) <|
  XPr.cons (xs_aload_n dX5_text_68 rfl) <|
  XPr.cons (xs_get (T := TX5) rfl gX5 (Nat.le_of_ble_eq_true rfl) gw_724 dX5_text_69) <|
  XPr.nil
def pX5_text_1 : List (Nat × XOp) := [(72, xo_ic 0 73), (73, xo_callV yX5_read cX5_read 6 (some .int) 2 5 76), (76, xo_is 1 77), (77, xo_al 0 78), (78, xo_get 5 27 81), (81, xo_if_eq 92 84), (84, xo_ic (-100) 86), (86, xo_al 0 87), (87, xo_get 5 28 90), (90, xo_isub 91), (91, xo_iret), (92, xo_al 0 93), (93, xo_dupR 94), (94, xo_get 5 3 97), (97, xo_ic 1 98), (98, xo_iadd 99), (99, xo_putI 5 3 102), (102, xo_al 0 103), (103, xo_get 5 3 106), (106, xo_ic 1 107), (107, xo_isub 108), (108, xo_iret)]
theorem sX5_text_1 : XPr RX5 cX5_text 2 (some .int) 10 pX5_text_1 :=
  XPr.cons (xs_iconst dX5_text_72 (by decide +kernel)) <|
  XPr.cons (xs_callV (T := TX5) rfl gw_901 gw_903 gw_33 gw_77 gw_904 (by decide +kernel) (Nat.le_of_ble_eq_true rfl) dX5_text_73) <|
  XPr.cons (xs_istore_n dX5_text_76 rfl (Nat.le_of_ble_eq_true rfl)) <|
  XPr.cons (xs_aload_n dX5_text_77 rfl) <|
  XPr.cons (xs_get (T := TX5) rfl gX5 (Nat.le_of_ble_eq_true rfl) gw_748 dX5_text_78) <|
  XPr.cons (xs_if_eq dX5_text_81 (by decide +kernel)) <|
  XPr.cons (xs_bipush dX5_text_84 (by decide +kernel)) <|
  XPr.cons (xs_aload_n dX5_text_86 rfl) <|
  XPr.cons (xs_get (T := TX5) rfl gX5 (Nat.le_of_ble_eq_true rfl) gw_749 dX5_text_87) <|
  XPr.cons (xs_isub dX5_text_90) <|
  XPr.cons (xs_iret rfl dX5_text_91) <|
  XPr.cons (xs_aload_n dX5_text_92 rfl) <|
  XPr.cons (xs_dupR dX5_text_93) <|
  XPr.cons (xs_get (T := TX5) rfl gX5 (Nat.le_of_ble_eq_true rfl) gw_724 dX5_text_94) <|
  XPr.cons (xs_iconst dX5_text_97 (by decide +kernel)) <|
  XPr.cons (xs_iadd dX5_text_98) <|
  XPr.cons (xs_putI (T := TX5) rfl gX5 tyX5_ok nmX5 (Nat.le_of_ble_eq_true rfl) gw_724 rfl (by decide +kernel) dX5_text_99) <|
  XPr.cons (xs_aload_n dX5_text_102 rfl) <|
  XPr.cons (xs_get (T := TX5) rfl gX5 (Nat.le_of_ble_eq_true rfl) gw_724 dX5_text_103) <|
  XPr.cons (xs_iconst dX5_text_106 (by decide +kernel)) <|
  XPr.cons (xs_isub dX5_text_107) <|
  XPr.cons (xs_iret rfl dX5_text_108) <|
  XPr.nil
def pX5_text : List (Nat × XOp) := pX5_text_0 ++ pX5_text_1
theorem sX5_text : XPr RX5 cX5_text 2 (some .int) 10 pX5_text := (sX5_text_0).app sX5_text_1
def pX5_force : List (Nat × XOp) := [(0, xo_il 1 1), (1, xo_i2l 2), (2, xo_lc 0 3), (3, xo_al 0 4), (4, xo_get 5 3 7), (7, xo_ic 1 8), (8, xo_isub 9), (9, xo_i2l 10), (10, xo_q3 f_in 13), (13, xo_if_ne 19 16), (16, xo_ic (-2) 18), (18, xo_iret), (19, xo_al 0 20), (20, xo_get 5 4 23), (23, xo_is 2 24), (24, xo_al 0 25), (25, xo_il 1 26), (26, xo_putI 5 4 29), (29, xo_il 2 30), (30, xo_iret)]
theorem sX5_force : XPr RX5 cX5_force 3 (some .int) 10 pX5_force :=
  XPr.cons (xs_iload_n dX5_force_0 rfl) <|
  XPr.cons (xs_i2l dX5_force_1) <|
  XPr.cons (xs_lconst dX5_force_2 (by decide +kernel)) <|
  XPr.cons (xs_aload_n dX5_force_3 rfl) <|
  XPr.cons (xs_get (T := TX5) rfl gX5 (Nat.le_of_ble_eq_true rfl) gw_724 dX5_force_4) <|
  XPr.cons (xs_iconst dX5_force_7 (by decide +kernel)) <|
  XPr.cons (xs_isub dX5_force_8) <|
  XPr.cons (xs_i2l dX5_force_9) <|
  XPr.cons (xs_q3 (xs_callS gw_866 gw_867 gw_77 gw_868 (by decide +kernel) (Nat.le_of_ble_eq_true rfl) dX5_force_10) c_X5_in (Nat.le_of_ble_eq_true rfl)) <|
  XPr.cons (xs_if_ne dX5_force_13 (by decide +kernel)) <|
  XPr.cons (xs_bipush dX5_force_16 (by decide +kernel)) <|
  XPr.cons (xs_iret rfl dX5_force_18) <|
  XPr.cons (xs_aload_n dX5_force_19 rfl) <|
  XPr.cons (xs_get (T := TX5) rfl gX5 (Nat.le_of_ble_eq_true rfl) gw_725 dX5_force_20) <|
  XPr.cons (xs_istore_n dX5_force_23 rfl (Nat.le_of_ble_eq_true rfl)) <|
  XPr.cons (xs_aload_n dX5_force_24 rfl) <|
  XPr.cons (xs_iload_n dX5_force_25 rfl) <|
  XPr.cons (xs_putI (T := TX5) rfl gX5 tyX5_ok nmX5 (Nat.le_of_ble_eq_true rfl) gw_725 rfl (by decide +kernel) dX5_force_26) <|
  XPr.cons (xs_iload_n dX5_force_29 rfl) <|
  XPr.cons (xs_iret rfl dX5_force_30) <|
  XPr.nil
def pX5_says_0 : List (Nat × XOp) := [(0, xo_al 0 1), (1, xo_al 0 2), (2, xo_get 5 12 5), (5, xo_ic 4 6), (6, xo_il 2 7), (7, xo_imul 8), (8, xo_ic 1 9), (9, xo_iadd 10), (10, xo_iald 11), (11, xo_putI 5 14 14), (14, xo_al 0 15), (15, xo_il 3 16), (16, xo_ic (-1) 17), (17, xo_ic_ne 24 20), (20, xo_ic 0 21), (21, xo_goto 30), (24, xo_al 0 25), (25, xo_get 5 11 28), (28, xo_il 3 29), (29, xo_iald 30), (30, xo_putI 5 15 33), (33, xo_al 0 34), (34, xo_al 0 35), (35, xo_get 5 12 38), (38, xo_ic 4 39), (39, xo_il 2 40), (40, xo_imul 41), (41, xo_iald 42), (42, xo_putI 5 16 45), (45, xo_al 0 46), (46, xo_al 0 47), (47, xo_get 5 7 50), (50, xo_putI 5 17 53), (53, xo_al 0 54), (54, xo_al 0 55), (55, xo_get 5 9 58), (58, xo_putI 5 18 61), (61, xo_al 0 62), (62, xo_il 3 63), (63, xo_ic (-1) 64)]
theorem sX5_says_0 : XPr RX5 cX5_says 4 (some .int) 10 pX5_says_0 :=
  XPr.cons (xs_aload_n dX5_says_0 rfl) <|
  XPr.cons (xs_aload_n dX5_says_1 rfl) <|
  XPr.cons (xs_get (T := TX5) rfl gX5 (Nat.le_of_ble_eq_true rfl) gw_733 dX5_says_2) <|
  XPr.cons (xs_iconst dX5_says_5 (by decide +kernel)) <|
  XPr.cons (xs_iload_n dX5_says_6 rfl) <|
  XPr.cons (xs_imul dX5_says_7) <|
  XPr.cons (xs_iconst dX5_says_8 (by decide +kernel)) <|
  XPr.cons (xs_iadd dX5_says_9) <|
  XPr.cons (xs_iald dX5_says_10) <|
  XPr.cons (xs_putI (T := TX5) rfl gX5 tyX5_ok nmX5 (Nat.le_of_ble_eq_true rfl) gw_735 rfl (by decide +kernel) dX5_says_11) <|
  XPr.cons (xs_aload_n dX5_says_14 rfl) <|
  XPr.cons (xs_iload_n dX5_says_15 rfl) <|
  XPr.cons (xs_iconst dX5_says_16 (by decide +kernel)) <|
  XPr.cons (xs_ic_ne dX5_says_17 (by decide +kernel)) <|
  XPr.cons (xs_iconst dX5_says_20 (by decide +kernel)) <|
  XPr.cons (xs_goto dX5_says_21 (by decide +kernel)) <|
  XPr.cons (xs_aload_n dX5_says_24 rfl) <|
  XPr.cons (xs_get (T := TX5) rfl gX5 (Nat.le_of_ble_eq_true rfl) gw_732 dX5_says_25) <|
  XPr.cons (xs_iload_n dX5_says_28 rfl) <|
  XPr.cons (xs_iald dX5_says_29) <|
  XPr.cons (xs_putI (T := TX5) rfl gX5 tyX5_ok nmX5 (Nat.le_of_ble_eq_true rfl) gw_736 rfl (by decide +kernel) dX5_says_30) <|
  XPr.cons (xs_aload_n dX5_says_33 rfl) <|
  XPr.cons (xs_aload_n dX5_says_34 rfl) <|
  XPr.cons (xs_get (T := TX5) rfl gX5 (Nat.le_of_ble_eq_true rfl) gw_733 dX5_says_35) <|
  XPr.cons (xs_iconst dX5_says_38 (by decide +kernel)) <|
  XPr.cons (xs_iload_n dX5_says_39 rfl) <|
  XPr.cons (xs_imul dX5_says_40) <|
  XPr.cons (xs_iald dX5_says_41) <|
  XPr.cons (xs_putI (T := TX5) rfl gX5 tyX5_ok nmX5 (Nat.le_of_ble_eq_true rfl) gw_737 rfl (by decide +kernel) dX5_says_42) <|
  XPr.cons (xs_aload_n dX5_says_45 rfl) <|
  XPr.cons (xs_aload_n dX5_says_46 rfl) <|
  XPr.cons (xs_get (T := TX5) rfl gX5 (Nat.le_of_ble_eq_true rfl) gw_728 dX5_says_47) <|
  XPr.cons (xs_putI (T := TX5) rfl gX5 tyX5_ok nmX5 (Nat.le_of_ble_eq_true rfl) gw_738 rfl (by decide +kernel) dX5_says_50) <|
  XPr.cons (xs_aload_n dX5_says_53 rfl) <|
  XPr.cons (xs_aload_n dX5_says_54 rfl) <|
  XPr.cons (xs_get (T := TX5) rfl gX5 (Nat.le_of_ble_eq_true rfl) gw_730 dX5_says_55) <|
  XPr.cons (xs_putI (T := TX5) rfl gX5 tyX5_ok nmX5 (Nat.le_of_ble_eq_true rfl) gw_739 rfl (by decide +kernel) dX5_says_58) <|
  XPr.cons (xs_aload_n dX5_says_61 rfl) <|
  XPr.cons (xs_iload_n dX5_says_62 rfl) <|
  XPr.cons (xs_iconst dX5_says_63 (by decide +kernel)) <|
  XPr.nil
def pX5_says_1 : List (Nat × XOp) := [(64, xo_ic_ne 71 67), (67, xo_ic 0 68), (68, xo_goto 72), (71, xo_il 3 72), (72, xo_putI 5 19 75), (75, xo_al 0 76), (76, xo_al 0 77), (77, xo_get 5 4 80), (80, xo_il 1 81), (81, xo_callV yX5_read cX5_read 6 (some .int) 2 5 84), (84, xo_ic 0 85), (85, xo_ic 99 87), (87, xo_p3 f_clamp 90), (90, xo_iret)]
theorem sX5_says_1 : XPr RX5 cX5_says 4 (some .int) 10 pX5_says_1 :=
  XPr.cons (xs_ic_ne dX5_says_64 (by decide +kernel)) <|
  XPr.cons (xs_iconst dX5_says_67 (by decide +kernel)) <|
  XPr.cons (xs_goto dX5_says_68 (by decide +kernel)) <|
  XPr.cons (xs_iload_n dX5_says_71 rfl) <|
  XPr.cons (xs_putI (T := TX5) rfl gX5 tyX5_ok nmX5 (Nat.le_of_ble_eq_true rfl) gw_740 rfl (by decide +kernel) dX5_says_72) <|
  XPr.cons (xs_aload_n dX5_says_75 rfl) <|
  XPr.cons (xs_aload_n dX5_says_76 rfl) <|
  XPr.cons (xs_get (T := TX5) rfl gX5 (Nat.le_of_ble_eq_true rfl) gw_725 dX5_says_77) <|
  XPr.cons (xs_iload_n dX5_says_80 rfl) <|
  XPr.cons (xs_callV (T := TX5) rfl gw_901 gw_903 gw_33 gw_77 gw_904 (by decide +kernel) (Nat.le_of_ble_eq_true rfl) dX5_says_81) <|
  XPr.cons (xs_iconst dX5_says_84 (by decide +kernel)) <|
  XPr.cons (xs_bipush dX5_says_85 (by decide +kernel)) <|
  XPr.cons (xs_p3 (xs_callS gw_972 gw_973 gw_77 gw_974 (by decide +kernel) (Nat.le_of_ble_eq_true rfl) dX5_says_87) c_X5_within (Nat.le_of_ble_eq_true rfl)) <|
  XPr.cons (xs_iret rfl dX5_says_90) <|
  XPr.nil
def pX5_says : List (Nat × XOp) := pX5_says_0 ++ pX5_says_1
theorem sX5_says : XPr RX5 cX5_says 4 (some .int) 10 pX5_says := (sX5_says_0).app sX5_says_1
def pX5_makesOf_0 : List (Nat × XOp) := [(0, xo_al 0 1), (1, xo_get 5 12 4), (4, xo_ic 4 5), (5, xo_il 1 6), (6, xo_imul 7), (7, xo_ic 2 8), (8, xo_iadd 9), (9, xo_iald 10), (10, xo_is 3 11), (11, xo_il 3 12), (12, xo_ic 5 13), (13, xo_ic_ne 30 16), (16, xo_il 2 17), (17, xo_p1 f_isUnder 20), (20, xo_if_eq 27 23), (23, xo_ic 0 24), (24, xo_goto 29), (27, xo_ic 99 29), (29, xo_iret), (30, xo_al 0 31), (31, xo_ic 0 32), (32, xo_il 1 33), (33, xo_il 2 34), (34, xo_callV yX5_says cX5_says 4 (some .int) 3 5 37), (37, xo_is 4 39), (39, xo_al 0 40), (40, xo_il 1 41), (41, xo_callV yX5_madeBy cX5_madeBy 4 (some .int) 1 5 44), (44, xo_ic 1 45), (45, xo_il 2 46), (46, xo_ishl 47), (47, xo_ic (-1) 48), (48, xo_ixor 49), (49, xo_iand 50), (50, xo_p1 f_bitsM 53), (53, xo_is 5 55), (55, xo_il 2 56), (56, xo_p1 f_isUnder 59), (59, xo_if_eq 76 62), (62, xo_il 4 64)]
theorem sX5_makesOf_0 : XPr RX5 cX5_makesOf 8 (some .int) 10 pX5_makesOf_0 :=
  XPr.cons (xs_aload_n dX5_makesOf_0 rfl) <|
  XPr.cons (xs_get (T := TX5) rfl gX5 (Nat.le_of_ble_eq_true rfl) gw_733 dX5_makesOf_1) <|
  XPr.cons (xs_iconst dX5_makesOf_4 (by decide +kernel)) <|
  XPr.cons (xs_iload_n dX5_makesOf_5 rfl) <|
  XPr.cons (xs_imul dX5_makesOf_6) <|
  XPr.cons (xs_iconst dX5_makesOf_7 (by decide +kernel)) <|
  XPr.cons (xs_iadd dX5_makesOf_8) <|
  XPr.cons (xs_iald dX5_makesOf_9) <|
  XPr.cons (xs_istore_n dX5_makesOf_10 rfl (Nat.le_of_ble_eq_true rfl)) <|
  XPr.cons (xs_iload_n dX5_makesOf_11 rfl) <|
  XPr.cons (xs_iconst dX5_makesOf_12 (by decide +kernel)) <|
  XPr.cons (xs_ic_ne dX5_makesOf_13 (by decide +kernel)) <|
  XPr.cons (xs_iload_n dX5_makesOf_16 rfl) <|
  XPr.cons (xs_p1 (xs_callS gw_990 gw_991 gw_77 gw_992 (by decide +kernel) (Nat.le_of_ble_eq_true rfl) dX5_makesOf_17) c_X5_isUnder (Nat.le_of_ble_eq_true rfl)) <|
  XPr.cons (xs_if_eq dX5_makesOf_20 (by decide +kernel)) <|
  XPr.cons (xs_iconst dX5_makesOf_23 (by decide +kernel)) <|
  XPr.cons (xs_goto dX5_makesOf_24 (by decide +kernel)) <|
  XPr.cons (xs_bipush dX5_makesOf_27 (by decide +kernel)) <|
  XPr.cons (xs_iret rfl dX5_makesOf_29) <|
  XPr.cons (xs_aload_n dX5_makesOf_30 rfl) <|
  XPr.cons (xs_iconst dX5_makesOf_31 (by decide +kernel)) <|
  XPr.cons (xs_iload_n dX5_makesOf_32 rfl) <|
  XPr.cons (xs_iload_n dX5_makesOf_33 rfl) <|
  XPr.cons (xs_callV (T := TX5) rfl gw_897 gw_899 gw_32 gw_77 gw_900 (by decide +kernel) (Nat.le_of_ble_eq_true rfl) dX5_makesOf_34) <|
  XPr.cons (xs_istore dX5_makesOf_37 (Nat.le_of_ble_eq_true rfl)) <|
  XPr.cons (xs_aload_n dX5_makesOf_39 rfl) <|
  XPr.cons (xs_iload_n dX5_makesOf_40 rfl) <|
  XPr.cons (xs_callV (T := TX5) rfl gw_889 gw_891 gw_30 gw_77 gw_892 (by decide +kernel) (Nat.le_of_ble_eq_true rfl) dX5_makesOf_41) <|
  XPr.cons (xs_iconst dX5_makesOf_44 (by decide +kernel)) <|
  XPr.cons (xs_iload_n dX5_makesOf_45 rfl) <|
  XPr.cons (xs_ishl dX5_makesOf_46) <|
  XPr.cons (xs_iconst dX5_makesOf_47 (by decide +kernel)) <|
  XPr.cons (xs_ixor dX5_makesOf_48) <|
  XPr.cons (xs_iand dX5_makesOf_49) <|
  XPr.cons (xs_p1 (xs_callS gw_983 gw_984 gw_77 gw_985 (by decide +kernel) (Nat.le_of_ble_eq_true rfl) dX5_makesOf_50) c_X5_bitsOf (Nat.le_of_ble_eq_true rfl)) <|
  XPr.cons (xs_istore dX5_makesOf_53 (Nat.le_of_ble_eq_true rfl)) <|
  XPr.cons (xs_iload_n dX5_makesOf_55 rfl) <|
  XPr.cons (xs_p1 (xs_callS gw_990 gw_991 gw_77 gw_992 (by decide +kernel) (Nat.le_of_ble_eq_true rfl) dX5_makesOf_56) c_X5_isUnder (Nat.le_of_ble_eq_true rfl)) <|
  XPr.cons (xs_if_eq dX5_makesOf_59 (by decide +kernel)) <|
  XPr.cons (xs_iload dX5_makesOf_62) <|
  XPr.nil
def pX5_makesOf_1 : List (Nat × XOp) := [(64, xo_al 0 65), (65, xo_get 5 12 68), (68, xo_ic 4 69), (69, xo_il 1 70), (70, xo_imul 71), (71, xo_iald 72), (72, xo_iadd 73), (73, xo_goto 78), (76, xo_il 4 78), (78, xo_ic 0 79), (79, xo_ic 99 81), (81, xo_p3 f_clamp 84), (84, xo_is 6 86), (86, xo_il 5 88), (88, xo_if_ne 98 91), (91, xo_il 4 93), (93, xo_ic 2 94), (94, xo_idiv 95), (95, xo_goto 100), (98, xo_il 4 100), (100, xo_is 7 102), (102, xo_il 3 103), (103, xo_ic 1 104), (104, xo_ic_ne 112 107), (107, xo_il 6 109), (109, xo_goto 150), (112, xo_il 3 113), (113, xo_ic 3 114), (114, xo_ic_ne 125 117), (117, xo_il 6 119), (119, xo_il 5 121), (121, xo_iadd 122), (122, xo_goto 150), (125, xo_il 3 126), (126, xo_ic 2 127), (127, xo_ic_ne 135 130), (130, xo_il 7 132), (132, xo_goto 150), (135, xo_il 3 136), (136, xo_ic 4 137)]
theorem sX5_makesOf_1 : XPr RX5 cX5_makesOf 8 (some .int) 10 pX5_makesOf_1 :=
  XPr.cons (xs_aload_n dX5_makesOf_64 rfl) <|
  XPr.cons (xs_get (T := TX5) rfl gX5 (Nat.le_of_ble_eq_true rfl) gw_733 dX5_makesOf_65) <|
  XPr.cons (xs_iconst dX5_makesOf_68 (by decide +kernel)) <|
  XPr.cons (xs_iload_n dX5_makesOf_69 rfl) <|
  XPr.cons (xs_imul dX5_makesOf_70) <|
  XPr.cons (xs_iald dX5_makesOf_71) <|
  XPr.cons (xs_iadd dX5_makesOf_72) <|
  XPr.cons (xs_goto dX5_makesOf_73 (by decide +kernel)) <|
  XPr.cons (xs_iload dX5_makesOf_76) <|
  XPr.cons (xs_iconst dX5_makesOf_78 (by decide +kernel)) <|
  XPr.cons (xs_bipush dX5_makesOf_79 (by decide +kernel)) <|
  XPr.cons (xs_p3 (xs_callS gw_972 gw_973 gw_77 gw_974 (by decide +kernel) (Nat.le_of_ble_eq_true rfl) dX5_makesOf_81) c_X5_within (Nat.le_of_ble_eq_true rfl)) <|
  XPr.cons (xs_istore dX5_makesOf_84 (Nat.le_of_ble_eq_true rfl)) <|
  XPr.cons (xs_iload dX5_makesOf_86) <|
  XPr.cons (xs_if_ne dX5_makesOf_88 (by decide +kernel)) <|
  XPr.cons (xs_iload dX5_makesOf_91) <|
  XPr.cons (xs_iconst dX5_makesOf_93 (by decide +kernel)) <|
  XPr.cons (xs_idiv dX5_makesOf_94) <|
  XPr.cons (xs_goto dX5_makesOf_95 (by decide +kernel)) <|
  XPr.cons (xs_iload dX5_makesOf_98) <|
  XPr.cons (xs_istore dX5_makesOf_100 (Nat.le_of_ble_eq_true rfl)) <|
  XPr.cons (xs_iload_n dX5_makesOf_102 rfl) <|
  XPr.cons (xs_iconst dX5_makesOf_103 (by decide +kernel)) <|
  XPr.cons (xs_ic_ne dX5_makesOf_104 (by decide +kernel)) <|
  XPr.cons (xs_iload dX5_makesOf_107) <|
  XPr.cons (xs_goto dX5_makesOf_109 (by decide +kernel)) <|
  XPr.cons (xs_iload_n dX5_makesOf_112 rfl) <|
  XPr.cons (xs_iconst dX5_makesOf_113 (by decide +kernel)) <|
  XPr.cons (xs_ic_ne dX5_makesOf_114 (by decide +kernel)) <|
  XPr.cons (xs_iload dX5_makesOf_117) <|
  XPr.cons (xs_iload dX5_makesOf_119) <|
  XPr.cons (xs_iadd dX5_makesOf_121) <|
  XPr.cons (xs_goto dX5_makesOf_122 (by decide +kernel)) <|
  XPr.cons (xs_iload_n dX5_makesOf_125 rfl) <|
  XPr.cons (xs_iconst dX5_makesOf_126 (by decide +kernel)) <|
  XPr.cons (xs_ic_ne dX5_makesOf_127 (by decide +kernel)) <|
  XPr.cons (xs_iload dX5_makesOf_130) <|
  XPr.cons (xs_goto dX5_makesOf_132 (by decide +kernel)) <|
  XPr.cons (xs_iload_n dX5_makesOf_135 rfl) <|
  XPr.cons (xs_iconst dX5_makesOf_136 (by decide +kernel)) <|
  XPr.nil
def pX5_makesOf_2 : List (Nat × XOp) := [(137, xo_ic_ne 148 140), (140, xo_il 7 142), (142, xo_ic 10 144), (144, xo_iadd 145), (145, xo_goto 150), (148, xo_il 4 150), (150, xo_ic 0 151), (151, xo_ic 99 153), (153, xo_p3 f_clamp 156), (156, xo_iret)]
theorem sX5_makesOf_2 : XPr RX5 cX5_makesOf 8 (some .int) 10 pX5_makesOf_2 :=
  XPr.cons (xs_ic_ne dX5_makesOf_137 (by decide +kernel)) <|
  XPr.cons (xs_iload dX5_makesOf_140) <|
  XPr.cons (xs_bipush dX5_makesOf_142 (by decide +kernel)) <|
  XPr.cons (xs_iadd dX5_makesOf_144) <|
  XPr.cons (xs_goto dX5_makesOf_145 (by decide +kernel)) <|
  XPr.cons (xs_iload dX5_makesOf_148) <|
  XPr.cons (xs_iconst dX5_makesOf_150 (by decide +kernel)) <|
  XPr.cons (xs_bipush dX5_makesOf_151 (by decide +kernel)) <|
  XPr.cons (xs_p3 (xs_callS gw_972 gw_973 gw_77 gw_974 (by decide +kernel) (Nat.le_of_ble_eq_true rfl) dX5_makesOf_153) c_X5_within (Nat.le_of_ble_eq_true rfl)) <|
  XPr.cons (xs_iret rfl dX5_makesOf_156) <|
  XPr.nil
def pX5_makesOf : List (Nat × XOp) := pX5_makesOf_0 ++ pX5_makesOf_1 ++ pX5_makesOf_2
theorem sX5_makesOf : XPr RX5 cX5_makesOf 8 (some .int) 10 pX5_makesOf := ((sX5_makesOf_0).app sX5_makesOf_1).app sX5_makesOf_2
def pX5_mendsOf_0 : List (Nat × XOp) := [(0, xo_al 0 1), (1, xo_get 5 12 4), (4, xo_ic 4 5), (5, xo_il 1 6), (6, xo_imul 7), (7, xo_ic 2 8), (8, xo_iadd 9), (9, xo_iald 10), (10, xo_is 3 11), (11, xo_il 3 12), (12, xo_ic 5 13), (13, xo_ic_eq 32 16), (16, xo_il 3 17), (17, xo_ic 4 18), (18, xo_ic_ne 34 21), (21, xo_al 0 22), (22, xo_get 5 11 25), (25, xo_il 2 26), (26, xo_iald 27), (27, xo_ic 49 29), (29, xo_ic_le 34 32), (32, xo_ic 0 33), (33, xo_iret), (34, xo_al 0 35), (35, xo_ic 1 36), (36, xo_il 1 37), (37, xo_il 2 38), (38, xo_callV yX5_says cX5_says 4 (some .int) 3 5 41), (41, xo_is 4 43), (43, xo_il 2 44), (44, xo_p1 f_isUnder 47), (47, xo_if_eq 57 50), (50, xo_ic 2 51), (51, xo_il 4 53), (53, xo_imul 54), (54, xo_goto 59), (57, xo_il 4 59), (59, xo_ic 0 60), (60, xo_ic 99 62), (62, xo_p3 f_clamp 65)]
theorem sX5_mendsOf_0 : XPr RX5 cX5_mendsOf 6 (some .int) 10 pX5_mendsOf_0 :=
  XPr.cons (xs_aload_n dX5_mendsOf_0 rfl) <|
  XPr.cons (xs_get (T := TX5) rfl gX5 (Nat.le_of_ble_eq_true rfl) gw_733 dX5_mendsOf_1) <|
  XPr.cons (xs_iconst dX5_mendsOf_4 (by decide +kernel)) <|
  XPr.cons (xs_iload_n dX5_mendsOf_5 rfl) <|
  XPr.cons (xs_imul dX5_mendsOf_6) <|
  XPr.cons (xs_iconst dX5_mendsOf_7 (by decide +kernel)) <|
  XPr.cons (xs_iadd dX5_mendsOf_8) <|
  XPr.cons (xs_iald dX5_mendsOf_9) <|
  XPr.cons (xs_istore_n dX5_mendsOf_10 rfl (Nat.le_of_ble_eq_true rfl)) <|
  XPr.cons (xs_iload_n dX5_mendsOf_11 rfl) <|
  XPr.cons (xs_iconst dX5_mendsOf_12 (by decide +kernel)) <|
  XPr.cons (xs_ic_eq dX5_mendsOf_13 (by decide +kernel)) <|
  XPr.cons (xs_iload_n dX5_mendsOf_16 rfl) <|
  XPr.cons (xs_iconst dX5_mendsOf_17 (by decide +kernel)) <|
  XPr.cons (xs_ic_ne dX5_mendsOf_18 (by decide +kernel)) <|
  XPr.cons (xs_aload_n dX5_mendsOf_21 rfl) <|
  XPr.cons (xs_get (T := TX5) rfl gX5 (Nat.le_of_ble_eq_true rfl) gw_732 dX5_mendsOf_22) <|
  XPr.cons (xs_iload_n dX5_mendsOf_25 rfl) <|
  XPr.cons (xs_iald dX5_mendsOf_26) <|
  XPr.cons (xs_bipush dX5_mendsOf_27 (by decide +kernel)) <|
  XPr.cons (xs_ic_le dX5_mendsOf_29 (by decide +kernel)) <|
  XPr.cons (xs_iconst dX5_mendsOf_32 (by decide +kernel)) <|
  XPr.cons (xs_iret rfl dX5_mendsOf_33) <|
  XPr.cons (xs_aload_n dX5_mendsOf_34 rfl) <|
  XPr.cons (xs_iconst dX5_mendsOf_35 (by decide +kernel)) <|
  XPr.cons (xs_iload_n dX5_mendsOf_36 rfl) <|
  XPr.cons (xs_iload_n dX5_mendsOf_37 rfl) <|
  XPr.cons (xs_callV (T := TX5) rfl gw_897 gw_899 gw_32 gw_77 gw_900 (by decide +kernel) (Nat.le_of_ble_eq_true rfl) dX5_mendsOf_38) <|
  XPr.cons (xs_istore dX5_mendsOf_41 (Nat.le_of_ble_eq_true rfl)) <|
  XPr.cons (xs_iload_n dX5_mendsOf_43 rfl) <|
  XPr.cons (xs_p1 (xs_callS gw_990 gw_991 gw_77 gw_992 (by decide +kernel) (Nat.le_of_ble_eq_true rfl) dX5_mendsOf_44) c_X5_isUnder (Nat.le_of_ble_eq_true rfl)) <|
  XPr.cons (xs_if_eq dX5_mendsOf_47 (by decide +kernel)) <|
  XPr.cons (xs_iconst dX5_mendsOf_50 (by decide +kernel)) <|
  XPr.cons (xs_iload dX5_mendsOf_51) <|
  XPr.cons (xs_imul dX5_mendsOf_53) <|
  XPr.cons (xs_goto dX5_mendsOf_54 (by decide +kernel)) <|
  XPr.cons (xs_iload dX5_mendsOf_57) <|
  XPr.cons (xs_iconst dX5_mendsOf_59 (by decide +kernel)) <|
  XPr.cons (xs_bipush dX5_mendsOf_60 (by decide +kernel)) <|
  XPr.cons (xs_p3 (xs_callS gw_972 gw_973 gw_77 gw_974 (by decide +kernel) (Nat.le_of_ble_eq_true rfl) dX5_mendsOf_62) c_X5_within (Nat.le_of_ble_eq_true rfl)) <|
  XPr.nil
def pX5_mendsOf_1 : List (Nat × XOp) := [(65, xo_is 5 67), (67, xo_il 3 68), (68, xo_ic 1 69), (69, xo_ic_ne 77 72), (72, xo_il 5 74), (74, xo_goto 91), (77, xo_il 3 78), (78, xo_ic 3 79), (79, xo_ic_ne 89 82), (82, xo_il 5 84), (84, xo_ic 1 85), (85, xo_iadd 86), (86, xo_goto 91), (89, xo_il 4 91), (91, xo_ic 0 92), (92, xo_ic 99 94), (94, xo_p3 f_clamp 97), (97, xo_iret)]
theorem sX5_mendsOf_1 : XPr RX5 cX5_mendsOf 6 (some .int) 10 pX5_mendsOf_1 :=
  XPr.cons (xs_istore dX5_mendsOf_65 (Nat.le_of_ble_eq_true rfl)) <|
  XPr.cons (xs_iload_n dX5_mendsOf_67 rfl) <|
  XPr.cons (xs_iconst dX5_mendsOf_68 (by decide +kernel)) <|
  XPr.cons (xs_ic_ne dX5_mendsOf_69 (by decide +kernel)) <|
  XPr.cons (xs_iload dX5_mendsOf_72) <|
  XPr.cons (xs_goto dX5_mendsOf_74 (by decide +kernel)) <|
  XPr.cons (xs_iload_n dX5_mendsOf_77 rfl) <|
  XPr.cons (xs_iconst dX5_mendsOf_78 (by decide +kernel)) <|
  XPr.cons (xs_ic_ne dX5_mendsOf_79 (by decide +kernel)) <|
  XPr.cons (xs_iload dX5_mendsOf_82) <|
  XPr.cons (xs_iconst dX5_mendsOf_84 (by decide +kernel)) <|
  XPr.cons (xs_iadd dX5_mendsOf_85) <|
  XPr.cons (xs_goto dX5_mendsOf_86 (by decide +kernel)) <|
  XPr.cons (xs_iload dX5_mendsOf_89) <|
  XPr.cons (xs_iconst dX5_mendsOf_91 (by decide +kernel)) <|
  XPr.cons (xs_bipush dX5_mendsOf_92 (by decide +kernel)) <|
  XPr.cons (xs_p3 (xs_callS gw_972 gw_973 gw_77 gw_974 (by decide +kernel) (Nat.le_of_ble_eq_true rfl) dX5_mendsOf_94) c_X5_within (Nat.le_of_ble_eq_true rfl)) <|
  XPr.cons (xs_iret rfl dX5_mendsOf_97) <|
  XPr.nil
def pX5_mendsOf : List (Nat × XOp) := pX5_mendsOf_0 ++ pX5_mendsOf_1
theorem sX5_mendsOf : XPr RX5 cX5_mendsOf 6 (some .int) 10 pX5_mendsOf := (sX5_mendsOf_0).app sX5_mendsOf_1
def pX5_pumpsOf_0 : List (Nat × XOp) := [(0, xo_al 0 1), (1, xo_get 5 12 4), (4, xo_ic 4 5), (5, xo_il 1 6), (6, xo_imul 7), (7, xo_ic 2 8), (8, xo_iadd 9), (9, xo_iald 10), (10, xo_is 2 11), (11, xo_il 2 12), (12, xo_ic 5 13), (13, xo_ic_eq 30 16), (16, xo_il 2 17), (17, xo_ic 4 18), (18, xo_ic_ne 48 21), (21, xo_al 0 22), (22, xo_get 5 9 25), (25, xo_ic 30 27), (27, xo_ic_ge 48 30), (30, xo_il 2 31), (31, xo_ic 5 32), (32, xo_ic_ne 46 35), (35, xo_al 0 36), (36, xo_get 5 12 39), (39, xo_ic 4 40), (40, xo_il 1 41), (41, xo_imul 42), (42, xo_iald 43), (43, xo_goto 47), (46, xo_ic 0 47), (47, xo_iret), (48, xo_al 0 49), (49, xo_ic 2 50), (50, xo_il 1 51), (51, xo_ic (-1) 52), (52, xo_callV yX5_says cX5_says 4 (some .int) 3 5 55), (55, xo_is 3 56), (56, xo_al 0 57), (57, xo_ic 1 58), (58, xo_callV yX5_whoIs cX5_whoIs 4 (some .int) 1 5 61)]
theorem sX5_pumpsOf_0 : XPr RX5 cX5_pumpsOf 5 (some .int) 10 pX5_pumpsOf_0 :=
  XPr.cons (xs_aload_n dX5_pumpsOf_0 rfl) <|
  XPr.cons (xs_get (T := TX5) rfl gX5 (Nat.le_of_ble_eq_true rfl) gw_733 dX5_pumpsOf_1) <|
  XPr.cons (xs_iconst dX5_pumpsOf_4 (by decide +kernel)) <|
  XPr.cons (xs_iload_n dX5_pumpsOf_5 rfl) <|
  XPr.cons (xs_imul dX5_pumpsOf_6) <|
  XPr.cons (xs_iconst dX5_pumpsOf_7 (by decide +kernel)) <|
  XPr.cons (xs_iadd dX5_pumpsOf_8) <|
  XPr.cons (xs_iald dX5_pumpsOf_9) <|
  XPr.cons (xs_istore_n dX5_pumpsOf_10 rfl (Nat.le_of_ble_eq_true rfl)) <|
  XPr.cons (xs_iload_n dX5_pumpsOf_11 rfl) <|
  XPr.cons (xs_iconst dX5_pumpsOf_12 (by decide +kernel)) <|
  XPr.cons (xs_ic_eq dX5_pumpsOf_13 (by decide +kernel)) <|
  XPr.cons (xs_iload_n dX5_pumpsOf_16 rfl) <|
  XPr.cons (xs_iconst dX5_pumpsOf_17 (by decide +kernel)) <|
  XPr.cons (xs_ic_ne dX5_pumpsOf_18 (by decide +kernel)) <|
  XPr.cons (xs_aload_n dX5_pumpsOf_21 rfl) <|
  XPr.cons (xs_get (T := TX5) rfl gX5 (Nat.le_of_ble_eq_true rfl) gw_730 dX5_pumpsOf_22) <|
  XPr.cons (xs_bipush dX5_pumpsOf_25 (by decide +kernel)) <|
  XPr.cons (xs_ic_ge dX5_pumpsOf_27 (by decide +kernel)) <|
  XPr.cons (xs_iload_n dX5_pumpsOf_30 rfl) <|
  XPr.cons (xs_iconst dX5_pumpsOf_31 (by decide +kernel)) <|
  XPr.cons (xs_ic_ne dX5_pumpsOf_32 (by decide +kernel)) <|
  XPr.cons (xs_aload_n dX5_pumpsOf_35 rfl) <|
  XPr.cons (xs_get (T := TX5) rfl gX5 (Nat.le_of_ble_eq_true rfl) gw_733 dX5_pumpsOf_36) <|
  XPr.cons (xs_iconst dX5_pumpsOf_39 (by decide +kernel)) <|
  XPr.cons (xs_iload_n dX5_pumpsOf_40 rfl) <|
  XPr.cons (xs_imul dX5_pumpsOf_41) <|
  XPr.cons (xs_iald dX5_pumpsOf_42) <|
  XPr.cons (xs_goto dX5_pumpsOf_43 (by decide +kernel)) <|
  XPr.cons (xs_iconst dX5_pumpsOf_46 (by decide +kernel)) <|
  XPr.cons (xs_iret rfl dX5_pumpsOf_47) <|
  XPr.cons (xs_aload_n dX5_pumpsOf_48 rfl) <|
  XPr.cons (xs_iconst dX5_pumpsOf_49 (by decide +kernel)) <|
  XPr.cons (xs_iload_n dX5_pumpsOf_50 rfl) <|
  XPr.cons (xs_iconst dX5_pumpsOf_51 (by decide +kernel)) <|
  XPr.cons (xs_callV (T := TX5) rfl gw_897 gw_899 gw_32 gw_77 gw_900 (by decide +kernel) (Nat.le_of_ble_eq_true rfl) dX5_pumpsOf_52) <|
  XPr.cons (xs_istore_n dX5_pumpsOf_55 rfl (Nat.le_of_ble_eq_true rfl)) <|
  XPr.cons (xs_aload_n dX5_pumpsOf_56 rfl) <|
  XPr.cons (xs_iconst dX5_pumpsOf_57 (by decide +kernel)) <|
  XPr.cons (xs_callV (T := TX5) rfl gw_975 gw_977 gw_49 gw_77 gw_978 (by decide +kernel) (Nat.le_of_ble_eq_true rfl) dX5_pumpsOf_58) <|
  XPr.nil
def pX5_pumpsOf_1 : List (Nat × XOp) := [(61, xo_ic 1 62), (62, xo_il 1 63), (63, xo_ishl 64), (64, xo_ic (-1) 65), (65, xo_ixor 66), (66, xo_iand 67), (67, xo_p1 f_bitsM 70), (70, xo_is 4 72), (72, xo_il 2 73), (73, xo_ic 1 74), (74, xo_ic_eq 82 77), (77, xo_il 2 78), (78, xo_ic 3 79), (79, xo_ic_ne 88 82), (82, xo_il 3 83), (83, xo_ic 2 84), (84, xo_idiv 85), (85, xo_goto 106), (88, xo_il 2 89), (89, xo_ic 2 90), (90, xo_ic_eq 98 93), (93, xo_il 2 94), (94, xo_ic 4 95), (95, xo_ic_ne 105 98), (98, xo_il 3 99), (99, xo_il 4 101), (101, xo_iadd 102), (102, xo_goto 106), (105, xo_il 3 106), (106, xo_ic 0 107), (107, xo_ic 99 109), (109, xo_p3 f_clamp 112), (112, xo_iret)]
theorem sX5_pumpsOf_1 : XPr RX5 cX5_pumpsOf 5 (some .int) 10 pX5_pumpsOf_1 :=
  XPr.cons (xs_iconst dX5_pumpsOf_61 (by decide +kernel)) <|
  XPr.cons (xs_iload_n dX5_pumpsOf_62 rfl) <|
  XPr.cons (xs_ishl dX5_pumpsOf_63) <|
  XPr.cons (xs_iconst dX5_pumpsOf_64 (by decide +kernel)) <|
  XPr.cons (xs_ixor dX5_pumpsOf_65) <|
  XPr.cons (xs_iand dX5_pumpsOf_66) <|
  XPr.cons (xs_p1 (xs_callS gw_983 gw_984 gw_77 gw_985 (by decide +kernel) (Nat.le_of_ble_eq_true rfl) dX5_pumpsOf_67) c_X5_bitsOf (Nat.le_of_ble_eq_true rfl)) <|
  XPr.cons (xs_istore dX5_pumpsOf_70 (Nat.le_of_ble_eq_true rfl)) <|
  XPr.cons (xs_iload_n dX5_pumpsOf_72 rfl) <|
  XPr.cons (xs_iconst dX5_pumpsOf_73 (by decide +kernel)) <|
  XPr.cons (xs_ic_eq dX5_pumpsOf_74 (by decide +kernel)) <|
  XPr.cons (xs_iload_n dX5_pumpsOf_77 rfl) <|
  XPr.cons (xs_iconst dX5_pumpsOf_78 (by decide +kernel)) <|
  XPr.cons (xs_ic_ne dX5_pumpsOf_79 (by decide +kernel)) <|
  XPr.cons (xs_iload_n dX5_pumpsOf_82 rfl) <|
  XPr.cons (xs_iconst dX5_pumpsOf_83 (by decide +kernel)) <|
  XPr.cons (xs_idiv dX5_pumpsOf_84) <|
  XPr.cons (xs_goto dX5_pumpsOf_85 (by decide +kernel)) <|
  XPr.cons (xs_iload_n dX5_pumpsOf_88 rfl) <|
  XPr.cons (xs_iconst dX5_pumpsOf_89 (by decide +kernel)) <|
  XPr.cons (xs_ic_eq dX5_pumpsOf_90 (by decide +kernel)) <|
  XPr.cons (xs_iload_n dX5_pumpsOf_93 rfl) <|
  XPr.cons (xs_iconst dX5_pumpsOf_94 (by decide +kernel)) <|
  XPr.cons (xs_ic_ne dX5_pumpsOf_95 (by decide +kernel)) <|
  XPr.cons (xs_iload_n dX5_pumpsOf_98 rfl) <|
  XPr.cons (xs_iload dX5_pumpsOf_99) <|
  XPr.cons (xs_iadd dX5_pumpsOf_101) <|
  XPr.cons (xs_goto dX5_pumpsOf_102 (by decide +kernel)) <|
  XPr.cons (xs_iload_n dX5_pumpsOf_105 rfl) <|
  XPr.cons (xs_iconst dX5_pumpsOf_106 (by decide +kernel)) <|
  XPr.cons (xs_bipush dX5_pumpsOf_107 (by decide +kernel)) <|
  XPr.cons (xs_p3 (xs_callS gw_972 gw_973 gw_77 gw_974 (by decide +kernel) (Nat.le_of_ble_eq_true rfl) dX5_pumpsOf_109) c_X5_within (Nat.le_of_ble_eq_true rfl)) <|
  XPr.cons (xs_iret rfl dX5_pumpsOf_112) <|
  XPr.nil
def pX5_pumpsOf : List (Nat × XOp) := pX5_pumpsOf_0 ++ pX5_pumpsOf_1
theorem sX5_pumpsOf : XPr RX5 cX5_pumpsOf 5 (some .int) 10 pX5_pumpsOf := (sX5_pumpsOf_0).app sX5_pumpsOf_1
def pX5_asks : List (Nat × XOp) := [(0, xo_al 0 1), (1, xo_il 1 2), (2, xo_callV yX5_isOne cX5_isOne 2 (some .boolean) 1 5 5), (5, xo_if_eq 25 8), (8, xo_il 2 9), (9, xo_p1 f_isPart 12), (12, xo_if_eq 25 15), (15, xo_il 3 16), (16, xo_i2l 17), (17, xo_lc 0 18), (18, xo_lc 1 19), (19, xo_q3 f_in 22), (22, xo_if_ne 28 25), (25, xo_ic (-2) 27), (27, xo_iret), (28, xo_il 3 29), (29, xo_if_ne 41 32), (32, xo_al 0 33), (33, xo_il 1 34), (34, xo_il 2 35), (35, xo_callV yX5_makesOf cX5_makesOf 8 (some .int) 2 5 38), (38, xo_goto 47), (41, xo_al 0 42), (42, xo_il 1 43), (43, xo_il 2 44), (44, xo_callV yX5_mendsOf cX5_mendsOf 6 (some .int) 2 5 47), (47, xo_iret)]
theorem sX5_asks : XPr RX5 cX5_asks 4 (some .int) 10 pX5_asks :=
  XPr.cons (xs_aload_n dX5_asks_0 rfl) <|
  XPr.cons (xs_iload_n dX5_asks_1 rfl) <|
  XPr.cons (xs_callV (T := TX5) rfl gw_877 gw_879 gw_29 gw_77 gw_880 (by decide +kernel) (Nat.le_of_ble_eq_true rfl) dX5_asks_2) <|
  XPr.cons (xs_if_eq dX5_asks_5 (by decide +kernel)) <|
  XPr.cons (xs_iload_n dX5_asks_8 rfl) <|
  XPr.cons (xs_p1 (xs_callS gw_873 gw_874 gw_77 gw_875 (by decide +kernel) (Nat.le_of_ble_eq_true rfl) dX5_asks_9) c_X5_isPart (Nat.le_of_ble_eq_true rfl)) <|
  XPr.cons (xs_if_eq dX5_asks_12 (by decide +kernel)) <|
  XPr.cons (xs_iload_n dX5_asks_15 rfl) <|
  XPr.cons (xs_i2l dX5_asks_16) <|
  XPr.cons (xs_lconst dX5_asks_17 (by decide +kernel)) <|
  XPr.cons (xs_lconst dX5_asks_18 (by decide +kernel)) <|
  XPr.cons (xs_q3 (xs_callS gw_866 gw_867 gw_77 gw_868 (by decide +kernel) (Nat.le_of_ble_eq_true rfl) dX5_asks_19) c_X5_in (Nat.le_of_ble_eq_true rfl)) <|
  XPr.cons (xs_if_ne dX5_asks_22 (by decide +kernel)) <|
  XPr.cons (xs_bipush dX5_asks_25 (by decide +kernel)) <|
  XPr.cons (xs_iret rfl dX5_asks_27) <|
  XPr.cons (xs_iload_n dX5_asks_28 rfl) <|
  XPr.cons (xs_if_ne dX5_asks_29 (by decide +kernel)) <|
  XPr.cons (xs_aload_n dX5_asks_32 rfl) <|
  XPr.cons (xs_iload_n dX5_asks_33 rfl) <|
  XPr.cons (xs_iload_n dX5_asks_34 rfl) <|
  XPr.cons (xs_callV (T := TX5) rfl gw_1020 gw_1022 gw_53 gw_77 gw_1023 (by decide +kernel) (Nat.le_of_ble_eq_true rfl) dX5_asks_35) <|
  XPr.cons (xs_goto dX5_asks_38 (by decide +kernel)) <|
  XPr.cons (xs_aload_n dX5_asks_41 rfl) <|
  XPr.cons (xs_iload_n dX5_asks_42 rfl) <|
  XPr.cons (xs_iload_n dX5_asks_43 rfl) <|
  XPr.cons (xs_callV (T := TX5) rfl gw_1024 gw_1026 gw_54 gw_77 gw_1027 (by decide +kernel) (Nat.le_of_ble_eq_true rfl) dX5_asks_44) <|
  XPr.cons (xs_iret rfl dX5_asks_47) <|
  XPr.nil
def pX5_built : List (Nat × XOp) := [(0, xo_al 0 1), (1, xo_il 1 2), (2, xo_il 2 3), (3, xo_callV yX5_makesOf cX5_makesOf 8 (some .int) 2 5 6), (6, xo_is 3 7), (7, xo_al 0 8), (8, xo_get 5 10 11), (11, xo_il 2 12), (12, xo_il 1 13), (13, xo_iast 14), (14, xo_al 0 15), (15, xo_get 5 11 18), (18, xo_il 2 19), (19, xo_il 3 20), (20, xo_iast 21), (21, xo_il 3 22), (22, xo_iret)]
theorem sX5_built : XPr RX5 cX5_built 4 (some .int) 10 pX5_built :=
  XPr.cons (xs_aload_n dX5_built_0 rfl) <|
  XPr.cons (xs_iload_n dX5_built_1 rfl) <|
  XPr.cons (xs_iload_n dX5_built_2 rfl) <|
  XPr.cons (xs_callV (T := TX5) rfl gw_1020 gw_1022 gw_53 gw_77 gw_1023 (by decide +kernel) (Nat.le_of_ble_eq_true rfl) dX5_built_3) <|
  XPr.cons (xs_istore_n dX5_built_6 rfl (Nat.le_of_ble_eq_true rfl)) <|
  XPr.cons (xs_aload_n dX5_built_7 rfl) <|
  XPr.cons (xs_get (T := TX5) rfl gX5 (Nat.le_of_ble_eq_true rfl) gw_731 dX5_built_8) <|
  XPr.cons (xs_iload_n dX5_built_11 rfl) <|
  XPr.cons (xs_iload_n dX5_built_12 rfl) <|
  XPr.cons (xs_iast dX5_built_13) <|
  XPr.cons (xs_aload_n dX5_built_14 rfl) <|
  XPr.cons (xs_get (T := TX5) rfl gX5 (Nat.le_of_ble_eq_true rfl) gw_732 dX5_built_15) <|
  XPr.cons (xs_iload_n dX5_built_18 rfl) <|
  XPr.cons (xs_iload_n dX5_built_19 rfl) <|
  XPr.cons (xs_iast dX5_built_20) <|
  XPr.cons (xs_iload_n dX5_built_21 rfl) <|
  XPr.cons (xs_iret rfl dX5_built_22) <|
  XPr.nil
def pX5_builds : List (Nat × XOp) := [(0, xo_al 0 1), (1, xo_il 1 2), (2, xo_callV yX5_isOne cX5_isOne 2 (some .boolean) 1 5 5), (5, xo_if_eq 15 8), (8, xo_il 2 9), (9, xo_p1 f_isPart 12), (12, xo_if_ne 18 15), (15, xo_ic (-2) 17), (17, xo_iret), (18, xo_al 0 19), (19, xo_il 1 20), (20, xo_ic 0 21), (21, xo_callV yX5_isAt cX5_isAt 3 (some .boolean) 2 5 24), (24, xo_if_eq 36 27), (27, xo_al 0 28), (28, xo_il 1 29), (29, xo_il 2 30), (30, xo_callV yX5_built cX5_built 4 (some .int) 2 5 33), (33, xo_goto 38), (36, xo_ic (-3) 38), (38, xo_iret)]
theorem sX5_builds : XPr RX5 cX5_builds 3 (some .int) 10 pX5_builds :=
  XPr.cons (xs_aload_n dX5_builds_0 rfl) <|
  XPr.cons (xs_iload_n dX5_builds_1 rfl) <|
  XPr.cons (xs_callV (T := TX5) rfl gw_877 gw_879 gw_29 gw_77 gw_880 (by decide +kernel) (Nat.le_of_ble_eq_true rfl) dX5_builds_2) <|
  XPr.cons (xs_if_eq dX5_builds_5 (by decide +kernel)) <|
  XPr.cons (xs_iload_n dX5_builds_8 rfl) <|
  XPr.cons (xs_p1 (xs_callS gw_873 gw_874 gw_77 gw_875 (by decide +kernel) (Nat.le_of_ble_eq_true rfl) dX5_builds_9) c_X5_isPart (Nat.le_of_ble_eq_true rfl)) <|
  XPr.cons (xs_if_ne dX5_builds_12 (by decide +kernel)) <|
  XPr.cons (xs_bipush dX5_builds_15 (by decide +kernel)) <|
  XPr.cons (xs_iret rfl dX5_builds_17) <|
  XPr.cons (xs_aload_n dX5_builds_18 rfl) <|
  XPr.cons (xs_iload_n dX5_builds_19 rfl) <|
  XPr.cons (xs_iconst dX5_builds_20 (by decide +kernel)) <|
  XPr.cons (xs_callV (T := TX5) rfl gw_979 gw_981 gw_50 gw_77 gw_982 (by decide +kernel) (Nat.le_of_ble_eq_true rfl) dX5_builds_21) <|
  XPr.cons (xs_if_eq dX5_builds_24 (by decide +kernel)) <|
  XPr.cons (xs_aload_n dX5_builds_27 rfl) <|
  XPr.cons (xs_iload_n dX5_builds_28 rfl) <|
  XPr.cons (xs_iload_n dX5_builds_29 rfl) <|
  XPr.cons (xs_callV (T := TX5) rfl gw_1032 gw_1034 gw_55 gw_77 gw_1035 (by decide +kernel) (Nat.le_of_ble_eq_true rfl) dX5_builds_30) <|
  XPr.cons (xs_goto dX5_builds_33 (by decide +kernel)) <|
  XPr.cons (xs_bipush dX5_builds_36 (by decide +kernel)) <|
  XPr.cons (xs_iret rfl dX5_builds_38) <|
  XPr.nil
def pX5_binds : List (Nat × XOp) := [(0, xo_ic 0 1), (1, xo_is 1 2), (2, xo_il 1 3), (3, xo_al 0 4), (4, xo_get 5 13 7), (7, xo_ic_ge 57 10), (10, xo_al 0 11), (11, xo_get 5 12 14), (14, xo_ic 4 15), (15, xo_il 1 16), (16, xo_imul 17), (17, xo_ic 3 18), (18, xo_iadd 19), (19, xo_al 0 20), (20, xo_il 1 21), (21, xo_ic 0 22), (22, xo_callV yX5_isAt cX5_isAt 3 (some .boolean) 2 5 25), (25, xo_if_eq 40 28), (28, xo_al 0 29), (29, xo_il 1 30), (30, xo_callV yX5_madeBy cX5_madeBy 4 (some .int) 1 5 33), (33, xo_if_eq 40 36), (36, xo_ic 1 37), (37, xo_goto 50), (40, xo_al 0 41), (41, xo_get 5 12 44), (44, xo_ic 4 45), (45, xo_il 1 46), (46, xo_imul 47), (47, xo_ic 3 48), (48, xo_iadd 49), (49, xo_iald 50), (50, xo_iast 51), (51, xo_inc 1 1 54), (54, xo_goto 2), (57, xo_vret)]
theorem sX5_binds : XPr RX5 cX5_binds 2 none 10 pX5_binds :=
  XPr.cons (xs_iconst dX5_binds_0 (by decide +kernel)) <|
  XPr.cons (xs_istore_n dX5_binds_1 rfl (Nat.le_of_ble_eq_true rfl)) <|
  XPr.cons (xs_iload_n dX5_binds_2 rfl) <|
  XPr.cons (xs_aload_n dX5_binds_3 rfl) <|
  XPr.cons (xs_get (T := TX5) rfl gX5 (Nat.le_of_ble_eq_true rfl) gw_734 dX5_binds_4) <|
  XPr.cons (xs_ic_ge dX5_binds_7 (by decide +kernel)) <|
  XPr.cons (xs_aload_n dX5_binds_10 rfl) <|
  XPr.cons (xs_get (T := TX5) rfl gX5 (Nat.le_of_ble_eq_true rfl) gw_733 dX5_binds_11) <|
  XPr.cons (xs_iconst dX5_binds_14 (by decide +kernel)) <|
  XPr.cons (xs_iload_n dX5_binds_15 rfl) <|
  XPr.cons (xs_imul dX5_binds_16) <|
  XPr.cons (xs_iconst dX5_binds_17 (by decide +kernel)) <|
  XPr.cons (xs_iadd dX5_binds_18) <|
  XPr.cons (xs_aload_n dX5_binds_19 rfl) <|
  XPr.cons (xs_iload_n dX5_binds_20 rfl) <|
  XPr.cons (xs_iconst dX5_binds_21 (by decide +kernel)) <|
  XPr.cons (xs_callV (T := TX5) rfl gw_979 gw_981 gw_50 gw_77 gw_982 (by decide +kernel) (Nat.le_of_ble_eq_true rfl) dX5_binds_22) <|
  XPr.cons (xs_if_eq dX5_binds_25 (by decide +kernel)) <|
  XPr.cons (xs_aload_n dX5_binds_28 rfl) <|
  XPr.cons (xs_iload_n dX5_binds_29 rfl) <|
  XPr.cons (xs_callV (T := TX5) rfl gw_889 gw_891 gw_30 gw_77 gw_892 (by decide +kernel) (Nat.le_of_ble_eq_true rfl) dX5_binds_30) <|
  XPr.cons (xs_if_eq dX5_binds_33 (by decide +kernel)) <|
  XPr.cons (xs_iconst dX5_binds_36 (by decide +kernel)) <|
  XPr.cons (xs_goto dX5_binds_37 (by decide +kernel)) <|
  XPr.cons (xs_aload_n dX5_binds_40 rfl) <|
  XPr.cons (xs_get (T := TX5) rfl gX5 (Nat.le_of_ble_eq_true rfl) gw_733 dX5_binds_41) <|
  XPr.cons (xs_iconst dX5_binds_44 (by decide +kernel)) <|
  XPr.cons (xs_iload_n dX5_binds_45 rfl) <|
  XPr.cons (xs_imul dX5_binds_46) <|
  XPr.cons (xs_iconst dX5_binds_47 (by decide +kernel)) <|
  XPr.cons (xs_iadd dX5_binds_48) <|
  XPr.cons (xs_iald dX5_binds_49) <|
  XPr.cons (xs_iast dX5_binds_50) <|
  XPr.cons (xs_iinc dX5_binds_51 (by decide +kernel) (Nat.le_of_ble_eq_true rfl)) <|
  XPr.cons (xs_goto dX5_binds_54 (by decide +kernel)) <|
  XPr.cons (xs_vret rfl dX5_binds_57) <|
  XPr.nil
def pX5_bound : List (Nat × XOp) := [(0, xo_al 0 1), (1, xo_callV yX5_binds cX5_binds 2 none 0 5 4), (4, xo_al 0 5), (5, xo_ic 1 6), (6, xo_callV yX5_whoIs cX5_whoIs 4 (some .int) 1 5 9), (9, xo_iret)]
theorem sX5_bound : XPr RX5 cX5_bound 1 (some .int) 10 pX5_bound :=
  XPr.cons (xs_aload_n dX5_bound_0 rfl) <|
  XPr.cons (xs_callV (T := TX5) rfl gw_1040 gw_1042 gw_56 gw_77 gw_1043 (by decide +kernel) (Nat.le_of_ble_eq_true rfl) dX5_bound_1) <|
  XPr.cons (xs_aload_n dX5_bound_4 rfl) <|
  XPr.cons (xs_iconst dX5_bound_5 (by decide +kernel)) <|
  XPr.cons (xs_callV (T := TX5) rfl gw_975 gw_977 gw_49 gw_77 gw_978 (by decide +kernel) (Nat.le_of_ble_eq_true rfl) dX5_bound_6) <|
  XPr.cons (xs_iret rfl dX5_bound_9) <|
  XPr.nil
def pX5_home_0 : List (Nat × XOp) := [(0, xo_al 0 1), (1, xo_get 5 9 4), (4, xo_ic 100 6), (6, xo_ic_ne 12 9), (9, xo_ic (-3) 11), (11, xo_iret), (12, xo_al 0 13), (13, xo_ic 1 14), (14, xo_callV yX5_whoIs cX5_whoIs 4 (some .int) 1 5 17), (17, xo_is 1 18), (18, xo_ic 0 19), (19, xo_is 2 20), (20, xo_il 2 21), (21, xo_al 0 22), (22, xo_get 5 13 25), (25, xo_ic_ge 67 28), (28, xo_al 0 29), (29, xo_get 5 12 32), (32, xo_ic 4 33), (33, xo_il 2 34), (34, xo_imul 35), (35, xo_ic 3 36), (36, xo_iadd 37), (37, xo_al 0 38), (38, xo_il 2 39), (39, xo_ic 1 40), (40, xo_callV yX5_isAt cX5_isAt 3 (some .boolean) 2 5 43), (43, xo_if_eq 50 46), (46, xo_ic 0 47), (47, xo_goto 60), (50, xo_al 0 51), (51, xo_get 5 12 54), (54, xo_ic 4 55), (55, xo_il 2 56), (56, xo_imul 57), (57, xo_ic 3 58), (58, xo_iadd 59), (59, xo_iald 60), (60, xo_iast 61), (61, xo_inc 2 1 64)]
theorem sX5_home_0 : XPr RX5 cX5_home 3 (some .int) 10 pX5_home_0 :=
  XPr.cons (xs_aload_n dX5_home_0 rfl) <|
  XPr.cons (xs_get (T := TX5) rfl gX5 (Nat.le_of_ble_eq_true rfl) gw_730 dX5_home_1) <|
  XPr.cons (xs_bipush dX5_home_4 (by decide +kernel)) <|
  XPr.cons (xs_ic_ne dX5_home_6 (by decide +kernel)) <|
  XPr.cons (xs_bipush dX5_home_9 (by decide +kernel)) <|
  XPr.cons (xs_iret rfl dX5_home_11) <|
  XPr.cons (xs_aload_n dX5_home_12 rfl) <|
  XPr.cons (xs_iconst dX5_home_13 (by decide +kernel)) <|
  XPr.cons (xs_callV (T := TX5) rfl gw_975 gw_977 gw_49 gw_77 gw_978 (by decide +kernel) (Nat.le_of_ble_eq_true rfl) dX5_home_14) <|
  XPr.cons (xs_istore_n dX5_home_17 rfl (Nat.le_of_ble_eq_true rfl)) <|
  XPr.cons (xs_iconst dX5_home_18 (by decide +kernel)) <|
  XPr.cons (xs_istore_n dX5_home_19 rfl (Nat.le_of_ble_eq_true rfl)) <|
  XPr.cons (xs_iload_n dX5_home_20 rfl) <|
  XPr.cons (xs_aload_n dX5_home_21 rfl) <|
  XPr.cons (xs_get (T := TX5) rfl gX5 (Nat.le_of_ble_eq_true rfl) gw_734 dX5_home_22) <|
  XPr.cons (xs_ic_ge dX5_home_25 (by decide +kernel)) <|
  XPr.cons (xs_aload_n dX5_home_28 rfl) <|
  XPr.cons (xs_get (T := TX5) rfl gX5 (Nat.le_of_ble_eq_true rfl) gw_733 dX5_home_29) <|
  XPr.cons (xs_iconst dX5_home_32 (by decide +kernel)) <|
  XPr.cons (xs_iload_n dX5_home_33 rfl) <|
  XPr.cons (xs_imul dX5_home_34) <|
  XPr.cons (xs_iconst dX5_home_35 (by decide +kernel)) <|
  XPr.cons (xs_iadd dX5_home_36) <|
  XPr.cons (xs_aload_n dX5_home_37 rfl) <|
  XPr.cons (xs_iload_n dX5_home_38 rfl) <|
  XPr.cons (xs_iconst dX5_home_39 (by decide +kernel)) <|
  XPr.cons (xs_callV (T := TX5) rfl gw_979 gw_981 gw_50 gw_77 gw_982 (by decide +kernel) (Nat.le_of_ble_eq_true rfl) dX5_home_40) <|
  XPr.cons (xs_if_eq dX5_home_43 (by decide +kernel)) <|
  XPr.cons (xs_iconst dX5_home_46 (by decide +kernel)) <|
  XPr.cons (xs_goto dX5_home_47 (by decide +kernel)) <|
  XPr.cons (xs_aload_n dX5_home_50 rfl) <|
  XPr.cons (xs_get (T := TX5) rfl gX5 (Nat.le_of_ble_eq_true rfl) gw_733 dX5_home_51) <|
  XPr.cons (xs_iconst dX5_home_54 (by decide +kernel)) <|
  XPr.cons (xs_iload_n dX5_home_55 rfl) <|
  XPr.cons (xs_imul dX5_home_56) <|
  XPr.cons (xs_iconst dX5_home_57 (by decide +kernel)) <|
  XPr.cons (xs_iadd dX5_home_58) <|
  XPr.cons (xs_iald dX5_home_59) <|
  XPr.cons (xs_iast dX5_home_60) <|
  XPr.cons (xs_iinc dX5_home_61 (by decide +kernel) (Nat.le_of_ble_eq_true rfl)) <|
  XPr.nil
def pX5_home_1 : List (Nat × XOp) := [(64, xo_goto 20), (67, xo_il 1 68), (68, xo_iret)]
theorem sX5_home_1 : XPr RX5 cX5_home 3 (some .int) 10 pX5_home_1 :=
  XPr.cons (xs_goto dX5_home_64 (by decide +kernel)) <|
  XPr.cons (xs_iload_n dX5_home_67 rfl) <|
  XPr.cons (xs_iret rfl dX5_home_68) <|
  XPr.nil
def pX5_home : List (Nat × XOp) := pX5_home_0 ++ pX5_home_1
theorem sX5_home : XPr RX5 cX5_home 3 (some .int) 10 pX5_home := (sX5_home_0).app sX5_home_1
def pX5_leaksOf : List (Nat × XOp) := [(0, xo_al 0 1), (1, xo_get 5 8 4), (4, xo_al 0 5), (5, xo_get 5 11 8), (8, xo_il 1 9), (9, xo_iald 10), (10, xo_ic_ge 17 13), (13, xo_ic 0 14), (14, xo_goto 28), (17, xo_al 0 18), (18, xo_get 5 8 21), (21, xo_al 0 22), (22, xo_get 5 11 25), (25, xo_il 1 26), (26, xo_iald 27), (27, xo_isub 28), (28, xo_is 2 29), (29, xo_il 1 30), (30, xo_p1 f_isUnder 33), (33, xo_if_eq 40 36), (36, xo_il 2 37), (37, xo_goto 43), (40, xo_il 2 41), (41, xo_ic 2 42), (42, xo_idiv 43), (43, xo_iret)]
theorem sX5_leaksOf : XPr RX5 cX5_leaksOf 3 (some .int) 10 pX5_leaksOf :=
  XPr.cons (xs_aload_n dX5_leaksOf_0 rfl) <|
  XPr.cons (xs_get (T := TX5) rfl gX5 (Nat.le_of_ble_eq_true rfl) gw_729 dX5_leaksOf_1) <|
  XPr.cons (xs_aload_n dX5_leaksOf_4 rfl) <|
  XPr.cons (xs_get (T := TX5) rfl gX5 (Nat.le_of_ble_eq_true rfl) gw_732 dX5_leaksOf_5) <|
  XPr.cons (xs_iload_n dX5_leaksOf_8 rfl) <|
  XPr.cons (xs_iald dX5_leaksOf_9) <|
  XPr.cons (xs_ic_ge dX5_leaksOf_10 (by decide +kernel)) <|
  XPr.cons (xs_iconst dX5_leaksOf_13 (by decide +kernel)) <|
  XPr.cons (xs_goto dX5_leaksOf_14 (by decide +kernel)) <|
  XPr.cons (xs_aload_n dX5_leaksOf_17 rfl) <|
  XPr.cons (xs_get (T := TX5) rfl gX5 (Nat.le_of_ble_eq_true rfl) gw_729 dX5_leaksOf_18) <|
  XPr.cons (xs_aload_n dX5_leaksOf_21 rfl) <|
  XPr.cons (xs_get (T := TX5) rfl gX5 (Nat.le_of_ble_eq_true rfl) gw_732 dX5_leaksOf_22) <|
  XPr.cons (xs_iload_n dX5_leaksOf_25 rfl) <|
  XPr.cons (xs_iald dX5_leaksOf_26) <|
  XPr.cons (xs_isub dX5_leaksOf_27) <|
  XPr.cons (xs_istore_n dX5_leaksOf_28 rfl (Nat.le_of_ble_eq_true rfl)) <|
  XPr.cons (xs_iload_n dX5_leaksOf_29 rfl) <|
  XPr.cons (xs_p1 (xs_callS gw_990 gw_991 gw_77 gw_992 (by decide +kernel) (Nat.le_of_ble_eq_true rfl) dX5_leaksOf_30) c_X5_isUnder (Nat.le_of_ble_eq_true rfl)) <|
  XPr.cons (xs_if_eq dX5_leaksOf_33 (by decide +kernel)) <|
  XPr.cons (xs_iload_n dX5_leaksOf_36 rfl) <|
  XPr.cons (xs_goto dX5_leaksOf_37 (by decide +kernel)) <|
  XPr.cons (xs_iload_n dX5_leaksOf_40 rfl) <|
  XPr.cons (xs_iconst dX5_leaksOf_41 (by decide +kernel)) <|
  XPr.cons (xs_idiv dX5_leaksOf_42) <|
  XPr.cons (xs_iret rfl dX5_leaksOf_43) <|
  XPr.nil
def pX5_leaksAll : List (Nat × XOp) := [(0, xo_ic 0 1), (1, xo_is 1 2), (2, xo_ic 0 3), (3, xo_is 2 4), (4, xo_il 2 5), (5, xo_ic 10 7), (7, xo_ic_ge 24 10), (10, xo_il 1 11), (11, xo_al 0 12), (12, xo_il 2 13), (13, xo_callV yX5_leaksOf cX5_leaksOf 3 (some .int) 1 5 16), (16, xo_iadd 17), (17, xo_is 1 18), (18, xo_inc 2 1 21), (21, xo_goto 4), (24, xo_il 1 25), (25, xo_iret)]
theorem sX5_leaksAll : XPr RX5 cX5_leaksAll 3 (some .int) 10 pX5_leaksAll :=
  XPr.cons (xs_iconst dX5_leaksAll_0 (by decide +kernel)) <|
  XPr.cons (xs_istore_n dX5_leaksAll_1 rfl (Nat.le_of_ble_eq_true rfl)) <|
  XPr.cons (xs_iconst dX5_leaksAll_2 (by decide +kernel)) <|
  XPr.cons (xs_istore_n dX5_leaksAll_3 rfl (Nat.le_of_ble_eq_true rfl)) <|
  XPr.cons (xs_iload_n dX5_leaksAll_4 rfl) <|
  XPr.cons (xs_bipush dX5_leaksAll_5 (by decide +kernel)) <|
  XPr.cons (xs_ic_ge dX5_leaksAll_7 (by decide +kernel)) <|
  XPr.cons (xs_iload_n dX5_leaksAll_10 rfl) <|
  XPr.cons (xs_aload_n dX5_leaksAll_11 rfl) <|
  XPr.cons (xs_iload_n dX5_leaksAll_12 rfl) <|
  XPr.cons (xs_callV (T := TX5) rfl gw_986 gw_988 gw_51 gw_77 gw_989 (by decide +kernel) (Nat.le_of_ble_eq_true rfl) dX5_leaksAll_13) <|
  XPr.cons (xs_iadd dX5_leaksAll_16) <|
  XPr.cons (xs_istore_n dX5_leaksAll_17 rfl (Nat.le_of_ble_eq_true rfl)) <|
  XPr.cons (xs_iinc dX5_leaksAll_18 (by decide +kernel) (Nat.le_of_ble_eq_true rfl)) <|
  XPr.cons (xs_goto dX5_leaksAll_21 (by decide +kernel)) <|
  XPr.cons (xs_iload_n dX5_leaksAll_24 rfl) <|
  XPr.cons (xs_iret rfl dX5_leaksAll_25) <|
  XPr.nil
def pX5_works_0 : List (Nat × XOp) := [(0, xo_al 0 1), (1, xo_al 0 2), (2, xo_get 5 9 5), (5, xo_al 0 6), (6, xo_il 1 7), (7, xo_callV yX5_pumpsOf cX5_pumpsOf 5 (some .int) 1 5 10), (10, xo_isub 11), (11, xo_ic 0 12), (12, xo_ic 100 14), (14, xo_p3 f_clamp 17), (17, xo_putI 5 9 20), (20, xo_ic (-1) 21), (21, xo_is 2 22), (22, xo_ic 0 23), (23, xo_is 3 24), (24, xo_il 3 25), (25, xo_ic 10 27), (27, xo_ic_ge 72 30), (30, xo_al 0 31), (31, xo_get 5 10 34), (34, xo_il 3 35), (35, xo_iald 36), (36, xo_il 1 37), (37, xo_ic_ne 64 40), (40, xo_il 2 41), (41, xo_ic (-1) 42), (42, xo_ic_eq 60 45), (45, xo_al 0 46), (46, xo_get 5 11 49), (49, xo_il 3 50), (50, xo_iald 51), (51, xo_al 0 52), (52, xo_get 5 11 55), (55, xo_il 2 56), (56, xo_iald 57), (57, xo_ic_ge 64 60), (60, xo_il 3 61), (61, xo_goto 65), (64, xo_il 2 65), (65, xo_is 2 66)]
theorem sX5_works_0 : XPr RX5 cX5_works 4 none 10 pX5_works_0 :=
  XPr.cons (xs_aload_n dX5_works_0 rfl) <|
  XPr.cons (xs_aload_n dX5_works_1 rfl) <|
  XPr.cons (xs_get (T := TX5) rfl gX5 (Nat.le_of_ble_eq_true rfl) gw_730 dX5_works_2) <|
  XPr.cons (xs_aload_n dX5_works_5 rfl) <|
  XPr.cons (xs_iload_n dX5_works_6 rfl) <|
  XPr.cons (xs_callV (T := TX5) rfl gw_893 gw_895 gw_31 gw_77 gw_896 (by decide +kernel) (Nat.le_of_ble_eq_true rfl) dX5_works_7) <|
  XPr.cons (xs_isub dX5_works_10) <|
  XPr.cons (xs_iconst dX5_works_11 (by decide +kernel)) <|
  XPr.cons (xs_bipush dX5_works_12 (by decide +kernel)) <|
  XPr.cons (xs_p3 (xs_callS gw_972 gw_973 gw_77 gw_974 (by decide +kernel) (Nat.le_of_ble_eq_true rfl) dX5_works_14) c_X5_within (Nat.le_of_ble_eq_true rfl)) <|
  XPr.cons (xs_putI (T := TX5) rfl gX5 tyX5_ok nmX5 (Nat.le_of_ble_eq_true rfl) gw_730 rfl (by decide +kernel) dX5_works_17) <|
  XPr.cons (xs_iconst dX5_works_20 (by decide +kernel)) <|
  XPr.cons (xs_istore_n dX5_works_21 rfl (Nat.le_of_ble_eq_true rfl)) <|
  XPr.cons (xs_iconst dX5_works_22 (by decide +kernel)) <|
  XPr.cons (xs_istore_n dX5_works_23 rfl (Nat.le_of_ble_eq_true rfl)) <|
  XPr.cons (xs_iload_n dX5_works_24 rfl) <|
  XPr.cons (xs_bipush dX5_works_25 (by decide +kernel)) <|
  XPr.cons (xs_ic_ge dX5_works_27 (by decide +kernel)) <|
  XPr.cons (xs_aload_n dX5_works_30 rfl) <|
  XPr.cons (xs_get (T := TX5) rfl gX5 (Nat.le_of_ble_eq_true rfl) gw_731 dX5_works_31) <|
  XPr.cons (xs_iload_n dX5_works_34 rfl) <|
  XPr.cons (xs_iald dX5_works_35) <|
  XPr.cons (xs_iload_n dX5_works_36 rfl) <|
  XPr.cons (xs_ic_ne dX5_works_37 (by decide +kernel)) <|
  XPr.cons (xs_iload_n dX5_works_40 rfl) <|
  XPr.cons (xs_iconst dX5_works_41 (by decide +kernel)) <|
  XPr.cons (xs_ic_eq dX5_works_42 (by decide +kernel)) <|
  XPr.cons (xs_aload_n dX5_works_45 rfl) <|
  XPr.cons (xs_get (T := TX5) rfl gX5 (Nat.le_of_ble_eq_true rfl) gw_732 dX5_works_46) <|
  XPr.cons (xs_iload_n dX5_works_49 rfl) <|
  XPr.cons (xs_iald dX5_works_50) <|
  XPr.cons (xs_aload_n dX5_works_51 rfl) <|
  XPr.cons (xs_get (T := TX5) rfl gX5 (Nat.le_of_ble_eq_true rfl) gw_732 dX5_works_52) <|
  XPr.cons (xs_iload_n dX5_works_55 rfl) <|
  XPr.cons (xs_iald dX5_works_56) <|
  XPr.cons (xs_ic_ge dX5_works_57 (by decide +kernel)) <|
  XPr.cons (xs_iload_n dX5_works_60 rfl) <|
  XPr.cons (xs_goto dX5_works_61 (by decide +kernel)) <|
  XPr.cons (xs_iload_n dX5_works_64 rfl) <|
  XPr.cons (xs_istore_n dX5_works_65 rfl (Nat.le_of_ble_eq_true rfl)) <|
  XPr.nil
def pX5_works_1 : List (Nat × XOp) := [(66, xo_inc 3 1 69), (69, xo_goto 24), (72, xo_il 2 73), (73, xo_ic (-1) 74), (74, xo_ic_eq 102 77), (77, xo_al 0 78), (78, xo_get 5 11 81), (81, xo_il 2 82), (82, xo_al 0 83), (83, xo_get 5 11 86), (86, xo_il 2 87), (87, xo_iald 88), (88, xo_al 0 89), (89, xo_il 1 90), (90, xo_il 2 91), (91, xo_callV yX5_mendsOf cX5_mendsOf 6 (some .int) 2 5 94), (94, xo_iadd 95), (95, xo_ic 0 96), (96, xo_ic 99 98), (98, xo_p3 f_clamp 101), (101, xo_iast 102), (102, xo_vret)]
theorem sX5_works_1 : XPr RX5 cX5_works 4 none 10 pX5_works_1 :=
  XPr.cons (xs_iinc dX5_works_66 (by decide +kernel) (Nat.le_of_ble_eq_true rfl)) <|
  XPr.cons (xs_goto dX5_works_69 (by decide +kernel)) <|
  XPr.cons (xs_iload_n dX5_works_72 rfl) <|
  XPr.cons (xs_iconst dX5_works_73 (by decide +kernel)) <|
  XPr.cons (xs_ic_eq dX5_works_74 (by decide +kernel)) <|
  XPr.cons (xs_aload_n dX5_works_77 rfl) <|
  XPr.cons (xs_get (T := TX5) rfl gX5 (Nat.le_of_ble_eq_true rfl) gw_732 dX5_works_78) <|
  XPr.cons (xs_iload_n dX5_works_81 rfl) <|
  XPr.cons (xs_aload_n dX5_works_82 rfl) <|
  XPr.cons (xs_get (T := TX5) rfl gX5 (Nat.le_of_ble_eq_true rfl) gw_732 dX5_works_83) <|
  XPr.cons (xs_iload_n dX5_works_86 rfl) <|
  XPr.cons (xs_iald dX5_works_87) <|
  XPr.cons (xs_aload_n dX5_works_88 rfl) <|
  XPr.cons (xs_iload_n dX5_works_89 rfl) <|
  XPr.cons (xs_iload_n dX5_works_90 rfl) <|
  XPr.cons (xs_callV (T := TX5) rfl gw_1024 gw_1026 gw_54 gw_77 gw_1027 (by decide +kernel) (Nat.le_of_ble_eq_true rfl) dX5_works_91) <|
  XPr.cons (xs_iadd dX5_works_94) <|
  XPr.cons (xs_iconst dX5_works_95 (by decide +kernel)) <|
  XPr.cons (xs_bipush dX5_works_96 (by decide +kernel)) <|
  XPr.cons (xs_p3 (xs_callS gw_972 gw_973 gw_77 gw_974 (by decide +kernel) (Nat.le_of_ble_eq_true rfl) dX5_works_98) c_X5_within (Nat.le_of_ble_eq_true rfl)) <|
  XPr.cons (xs_iast dX5_works_101) <|
  XPr.cons (xs_vret rfl dX5_works_102) <|
  XPr.nil
def pX5_works : List (Nat × XOp) := pX5_works_0 ++ pX5_works_1
theorem sX5_works : XPr RX5 cX5_works 4 none 10 pX5_works := (sX5_works_0).app sX5_works_1
def pX5_passes_0 : List (Nat × XOp) := [(0, xo_al 0 1), (1, xo_get 5 9 4), (4, xo_ic 100 6), (6, xo_ic_ge 104 9), (9, xo_al 0 10), (10, xo_al 0 11), (11, xo_get 5 9 14), (14, xo_al 0 15), (15, xo_callV yX5_leaksAll cX5_leaksAll 3 (some .int) 0 5 18), (18, xo_ic 10 20), (20, xo_idiv 21), (21, xo_iadd 22), (22, xo_ic 0 23), (23, xo_ic 100 25), (25, xo_p3 f_clamp 28), (28, xo_putI 5 9 31), (31, xo_al 0 32), (32, xo_get 5 9 35), (35, xo_ic 100 37), (37, xo_ic_ne 44 40), (40, xo_ic 1 41), (41, xo_goto 45), (44, xo_ic 0 45), (45, xo_is 1 46), (46, xo_ic 0 47), (47, xo_is 2 48), (48, xo_il 2 49), (49, xo_al 0 50), (50, xo_get 5 13 53), (53, xo_ic_ge 104 56), (56, xo_al 0 57), (57, xo_il 2 58), (58, xo_ic 1 59), (59, xo_callV yX5_isAt cX5_isAt 3 (some .boolean) 2 5 62), (62, xo_if_eq 80 65), (65, xo_il 1 66), (66, xo_if_eq 80 69), (69, xo_al 0 70), (70, xo_get 5 12 73), (73, xo_ic 4 74)]
theorem sX5_passes_0 : XPr RX5 cX5_passes 3 none 10 pX5_passes_0 :=
  XPr.cons (xs_aload_n dX5_passes_0 rfl) <|
  XPr.cons (xs_get (T := TX5) rfl gX5 (Nat.le_of_ble_eq_true rfl) gw_730 dX5_passes_1) <|
  XPr.cons (xs_bipush dX5_passes_4 (by decide +kernel)) <|
  XPr.cons (xs_ic_ge dX5_passes_6 (by decide +kernel)) <|
  XPr.cons (xs_aload_n dX5_passes_9 rfl) <|
  XPr.cons (xs_aload_n dX5_passes_10 rfl) <|
  XPr.cons (xs_get (T := TX5) rfl gX5 (Nat.le_of_ble_eq_true rfl) gw_730 dX5_passes_11) <|
  XPr.cons (xs_aload_n dX5_passes_14 rfl) <|
  XPr.cons (xs_callV (T := TX5) rfl gw_1056 gw_1058 gw_58 gw_77 gw_1059 (by decide +kernel) (Nat.le_of_ble_eq_true rfl) dX5_passes_15) <|
  XPr.cons (xs_bipush dX5_passes_18 (by decide +kernel)) <|
  XPr.cons (xs_idiv dX5_passes_20) <|
  XPr.cons (xs_iadd dX5_passes_21) <|
  XPr.cons (xs_iconst dX5_passes_22 (by decide +kernel)) <|
  XPr.cons (xs_bipush dX5_passes_23 (by decide +kernel)) <|
  XPr.cons (xs_p3 (xs_callS gw_972 gw_973 gw_77 gw_974 (by decide +kernel) (Nat.le_of_ble_eq_true rfl) dX5_passes_25) c_X5_within (Nat.le_of_ble_eq_true rfl)) <|
  XPr.cons (xs_putI (T := TX5) rfl gX5 tyX5_ok nmX5 (Nat.le_of_ble_eq_true rfl) gw_730 rfl (by decide +kernel) dX5_passes_28) <|
  XPr.cons (xs_aload_n dX5_passes_31 rfl) <|
  XPr.cons (xs_get (T := TX5) rfl gX5 (Nat.le_of_ble_eq_true rfl) gw_730 dX5_passes_32) <|
  XPr.cons (xs_bipush dX5_passes_35 (by decide +kernel)) <|
  XPr.cons (xs_ic_ne dX5_passes_37 (by decide +kernel)) <|
  XPr.cons (xs_iconst dX5_passes_40 (by decide +kernel)) <|
  XPr.cons (xs_goto dX5_passes_41 (by decide +kernel)) <|
  XPr.cons (xs_iconst dX5_passes_44 (by decide +kernel)) <|
  XPr.cons (xs_istore_n dX5_passes_45 rfl (Nat.le_of_ble_eq_true rfl)) <|
  XPr.cons (xs_iconst dX5_passes_46 (by decide +kernel)) <|
  XPr.cons (xs_istore_n dX5_passes_47 rfl (Nat.le_of_ble_eq_true rfl)) <|
  XPr.cons (xs_iload_n dX5_passes_48 rfl) <|
  XPr.cons (xs_aload_n dX5_passes_49 rfl) <|
  XPr.cons (xs_get (T := TX5) rfl gX5 (Nat.le_of_ble_eq_true rfl) gw_734 dX5_passes_50) <|
  XPr.cons (xs_ic_ge dX5_passes_53 (by decide +kernel)) <|
  XPr.cons (xs_aload_n dX5_passes_56 rfl) <|
  XPr.cons (xs_iload_n dX5_passes_57 rfl) <|
  XPr.cons (xs_iconst dX5_passes_58 (by decide +kernel)) <|
  XPr.cons (xs_callV (T := TX5) rfl gw_979 gw_981 gw_50 gw_77 gw_982 (by decide +kernel) (Nat.le_of_ble_eq_true rfl) dX5_passes_59) <|
  XPr.cons (xs_if_eq dX5_passes_62 (by decide +kernel)) <|
  XPr.cons (xs_iload_n dX5_passes_65 rfl) <|
  XPr.cons (xs_if_eq dX5_passes_66 (by decide +kernel)) <|
  XPr.cons (xs_aload_n dX5_passes_69 rfl) <|
  XPr.cons (xs_get (T := TX5) rfl gX5 (Nat.le_of_ble_eq_true rfl) gw_733 dX5_passes_70) <|
  XPr.cons (xs_iconst dX5_passes_73 (by decide +kernel)) <|
  XPr.nil
def pX5_passes_1 : List (Nat × XOp) := [(74, xo_il 2 75), (75, xo_imul 76), (76, xo_ic 3 77), (77, xo_iadd 78), (78, xo_ic 2 79), (79, xo_iast 80), (80, xo_al 0 81), (81, xo_il 2 82), (82, xo_ic 1 83), (83, xo_callV yX5_isAt cX5_isAt 3 (some .boolean) 2 5 86), (86, xo_if_eq 98 89), (89, xo_il 1 90), (90, xo_if_ne 98 93), (93, xo_al 0 94), (94, xo_il 2 95), (95, xo_callV yX5_works cX5_works 4 none 1 5 98), (98, xo_inc 2 1 101), (101, xo_goto 48), (104, xo_al 0 105), (105, xo_dupR 106), (106, xo_get 5 7 109), (109, xo_ic 1 110), (110, xo_iadd 111), (111, xo_putI 5 7 114), (114, xo_vret)]
theorem sX5_passes_1 : XPr RX5 cX5_passes 3 none 10 pX5_passes_1 :=
  XPr.cons (xs_iload_n dX5_passes_74 rfl) <|
  XPr.cons (xs_imul dX5_passes_75) <|
  XPr.cons (xs_iconst dX5_passes_76 (by decide +kernel)) <|
  XPr.cons (xs_iadd dX5_passes_77) <|
  XPr.cons (xs_iconst dX5_passes_78 (by decide +kernel)) <|
  XPr.cons (xs_iast dX5_passes_79) <|
  XPr.cons (xs_aload_n dX5_passes_80 rfl) <|
  XPr.cons (xs_iload_n dX5_passes_81 rfl) <|
  XPr.cons (xs_iconst dX5_passes_82 (by decide +kernel)) <|
  XPr.cons (xs_callV (T := TX5) rfl gw_979 gw_981 gw_50 gw_77 gw_982 (by decide +kernel) (Nat.le_of_ble_eq_true rfl) dX5_passes_83) <|
  XPr.cons (xs_if_eq dX5_passes_86 (by decide +kernel)) <|
  XPr.cons (xs_iload_n dX5_passes_89 rfl) <|
  XPr.cons (xs_if_ne dX5_passes_90 (by decide +kernel)) <|
  XPr.cons (xs_aload_n dX5_passes_93 rfl) <|
  XPr.cons (xs_iload_n dX5_passes_94 rfl) <|
  XPr.cons (xs_callV (T := TX5) rfl gw_1060 gw_1062 gw_59 gw_77 gw_1063 (by decide +kernel) (Nat.le_of_ble_eq_true rfl) dX5_passes_95) <|
  XPr.cons (xs_iinc dX5_passes_98 (by decide +kernel) (Nat.le_of_ble_eq_true rfl)) <|
  XPr.cons (xs_goto dX5_passes_101 (by decide +kernel)) <|
  XPr.cons (xs_aload_n dX5_passes_104 rfl) <|
  XPr.cons (xs_dupR dX5_passes_105) <|
  XPr.cons (xs_get (T := TX5) rfl gX5 (Nat.le_of_ble_eq_true rfl) gw_728 dX5_passes_106) <|
  XPr.cons (xs_iconst dX5_passes_109 (by decide +kernel)) <|
  XPr.cons (xs_iadd dX5_passes_110) <|
  XPr.cons (xs_putI (T := TX5) rfl gX5 tyX5_ok nmX5 (Nat.le_of_ble_eq_true rfl) gw_728 rfl (by decide +kernel) dX5_passes_111) <|
  XPr.cons (xs_vret rfl dX5_passes_114) <|
  XPr.nil
def pX5_passes : List (Nat × XOp) := pX5_passes_0 ++ pX5_passes_1
theorem sX5_passes : XPr RX5 cX5_passes 3 none 10 pX5_passes := (sX5_passes_0).app sX5_passes_1
def pX5_day : List (Nat × XOp) := [(0, xo_al 0 1), (1, xo_get 5 7 4), (4, xo_ic 999 7), (7, xo_ic_eq 19 10), (10, xo_al 0 11), (11, xo_get 5 9 14), (14, xo_ic 100 16), (16, xo_ic_ne 22 19), (19, xo_ic (-3) 21), (21, xo_iret), (22, xo_al 0 23), (23, xo_callV yX5_passes cX5_passes 3 none 0 5 26), (26, xo_al 0 27), (27, xo_get 5 9 30), (30, xo_iret)]
theorem sX5_day : XPr RX5 cX5_day 1 (some .int) 10 pX5_day :=
  XPr.cons (xs_aload_n dX5_day_0 rfl) <|
  XPr.cons (xs_get (T := TX5) rfl gX5 (Nat.le_of_ble_eq_true rfl) gw_728 dX5_day_1) <|
  XPr.cons (xs_sipush dX5_day_4 (by decide +kernel)) <|
  XPr.cons (xs_ic_eq dX5_day_7 (by decide +kernel)) <|
  XPr.cons (xs_aload_n dX5_day_10 rfl) <|
  XPr.cons (xs_get (T := TX5) rfl gX5 (Nat.le_of_ble_eq_true rfl) gw_730 dX5_day_11) <|
  XPr.cons (xs_bipush dX5_day_14 (by decide +kernel)) <|
  XPr.cons (xs_ic_ne dX5_day_16 (by decide +kernel)) <|
  XPr.cons (xs_bipush dX5_day_19 (by decide +kernel)) <|
  XPr.cons (xs_iret rfl dX5_day_21) <|
  XPr.cons (xs_aload_n dX5_day_22 rfl) <|
  XPr.cons (xs_callV (T := TX5) rfl gw_1052 gw_1054 gw_57 gw_77 gw_1055 (by decide +kernel) (Nat.le_of_ble_eq_true rfl) dX5_day_23) <|
  XPr.cons (xs_aload_n dX5_day_26 rfl) <|
  XPr.cons (xs_get (T := TX5) rfl gX5 (Nat.le_of_ble_eq_true rfl) gw_730 dX5_day_27) <|
  XPr.cons (xs_iret rfl dX5_day_30) <|
  XPr.nil
def pX5_laysAside_0 : List (Nat × XOp) := [(0, xo_ic 0 1), (1, xo_is 1 2), (2, xo_il 1 3), (3, xo_ic 20 5), (5, xo_ic_ge 26 8), (8, xo_al 0 9), (9, xo_get 5 29 12), (12, xo_il 1 13), (13, xo_al 0 14), (14, xo_get 5 12 17), (17, xo_il 1 18), (18, xo_iald 19), (19, xo_iast 20), (20, xo_inc 1 1 23), (23, xo_goto 2), (26, xo_ic 0 27), (27, xo_is 1 28), (28, xo_il 1 29), (29, xo_ic 10 31), (31, xo_ic_ge 70 34), (34, xo_al 0 35), (35, xo_get 5 29 38), (38, xo_ic 20 40), (40, xo_il 1 41), (41, xo_iadd 42), (42, xo_al 0 43), (43, xo_get 5 10 46), (46, xo_il 1 47), (47, xo_iald 48), (48, xo_iast 49), (49, xo_al 0 50), (50, xo_get 5 29 53), (53, xo_ic 30 55), (55, xo_il 1 56), (56, xo_iadd 57), (57, xo_al 0 58), (58, xo_get 5 11 61), (61, xo_il 1 62), (62, xo_iald 63), (63, xo_iast 64)]
theorem sX5_laysAside_0 : XPr RX5 cX5_laysAside 2 none 10 pX5_laysAside_0 :=
  XPr.cons (xs_iconst dX5_laysAside_0 (by decide +kernel)) <|
  XPr.cons (xs_istore_n dX5_laysAside_1 rfl (Nat.le_of_ble_eq_true rfl)) <|
  XPr.cons (xs_iload_n dX5_laysAside_2 rfl) <|
  XPr.cons (xs_bipush dX5_laysAside_3 (by decide +kernel)) <|
  XPr.cons (xs_ic_ge dX5_laysAside_5 (by decide +kernel)) <|
  XPr.cons (xs_aload_n dX5_laysAside_8 rfl) <|
  XPr.cons (xs_get (T := TX5) rfl gX5 (Nat.le_of_ble_eq_true rfl) gw_750 dX5_laysAside_9) <|
  XPr.cons (xs_iload_n dX5_laysAside_12 rfl) <|
  XPr.cons (xs_aload_n dX5_laysAside_13 rfl) <|
  XPr.cons (xs_get (T := TX5) rfl gX5 (Nat.le_of_ble_eq_true rfl) gw_733 dX5_laysAside_14) <|
  XPr.cons (xs_iload_n dX5_laysAside_17 rfl) <|
  XPr.cons (xs_iald dX5_laysAside_18) <|
  XPr.cons (xs_iast dX5_laysAside_19) <|
  XPr.cons (xs_iinc dX5_laysAside_20 (by decide +kernel) (Nat.le_of_ble_eq_true rfl)) <|
  XPr.cons (xs_goto dX5_laysAside_23 (by decide +kernel)) <|
  XPr.cons (xs_iconst dX5_laysAside_26 (by decide +kernel)) <|
  XPr.cons (xs_istore_n dX5_laysAside_27 rfl (Nat.le_of_ble_eq_true rfl)) <|
  XPr.cons (xs_iload_n dX5_laysAside_28 rfl) <|
  XPr.cons (xs_bipush dX5_laysAside_29 (by decide +kernel)) <|
  XPr.cons (xs_ic_ge dX5_laysAside_31 (by decide +kernel)) <|
  XPr.cons (xs_aload_n dX5_laysAside_34 rfl) <|
  XPr.cons (xs_get (T := TX5) rfl gX5 (Nat.le_of_ble_eq_true rfl) gw_750 dX5_laysAside_35) <|
  XPr.cons (xs_bipush dX5_laysAside_38 (by decide +kernel)) <|
  XPr.cons (xs_iload_n dX5_laysAside_40 rfl) <|
  XPr.cons (xs_iadd dX5_laysAside_41) <|
  XPr.cons (xs_aload_n dX5_laysAside_42 rfl) <|
  XPr.cons (xs_get (T := TX5) rfl gX5 (Nat.le_of_ble_eq_true rfl) gw_731 dX5_laysAside_43) <|
  XPr.cons (xs_iload_n dX5_laysAside_46 rfl) <|
  XPr.cons (xs_iald dX5_laysAside_47) <|
  XPr.cons (xs_iast dX5_laysAside_48) <|
  XPr.cons (xs_aload_n dX5_laysAside_49 rfl) <|
  XPr.cons (xs_get (T := TX5) rfl gX5 (Nat.le_of_ble_eq_true rfl) gw_750 dX5_laysAside_50) <|
  XPr.cons (xs_bipush dX5_laysAside_53 (by decide +kernel)) <|
  XPr.cons (xs_iload_n dX5_laysAside_55 rfl) <|
  XPr.cons (xs_iadd dX5_laysAside_56) <|
  XPr.cons (xs_aload_n dX5_laysAside_57 rfl) <|
  XPr.cons (xs_get (T := TX5) rfl gX5 (Nat.le_of_ble_eq_true rfl) gw_732 dX5_laysAside_58) <|
  XPr.cons (xs_iload_n dX5_laysAside_61 rfl) <|
  XPr.cons (xs_iald dX5_laysAside_62) <|
  XPr.cons (xs_iast dX5_laysAside_63) <|
  XPr.nil
def pX5_laysAside_1 : List (Nat × XOp) := [(64, xo_inc 1 1 67), (67, xo_goto 28), (70, xo_al 0 71), (71, xo_get 5 29 74), (74, xo_ic 40 76), (76, xo_al 0 77), (77, xo_get 5 7 80), (80, xo_iast 81), (81, xo_al 0 82), (82, xo_get 5 29 85), (85, xo_ic 41 87), (87, xo_al 0 88), (88, xo_get 5 8 91), (91, xo_iast 92), (92, xo_al 0 93), (93, xo_get 5 29 96), (96, xo_ic 42 98), (98, xo_al 0 99), (99, xo_get 5 9 102), (102, xo_iast 103), (103, xo_vret)]
theorem sX5_laysAside_1 : XPr RX5 cX5_laysAside 2 none 10 pX5_laysAside_1 :=
  XPr.cons (xs_iinc dX5_laysAside_64 (by decide +kernel) (Nat.le_of_ble_eq_true rfl)) <|
  XPr.cons (xs_goto dX5_laysAside_67 (by decide +kernel)) <|
  XPr.cons (xs_aload_n dX5_laysAside_70 rfl) <|
  XPr.cons (xs_get (T := TX5) rfl gX5 (Nat.le_of_ble_eq_true rfl) gw_750 dX5_laysAside_71) <|
  XPr.cons (xs_bipush dX5_laysAside_74 (by decide +kernel)) <|
  XPr.cons (xs_aload_n dX5_laysAside_76 rfl) <|
  XPr.cons (xs_get (T := TX5) rfl gX5 (Nat.le_of_ble_eq_true rfl) gw_728 dX5_laysAside_77) <|
  XPr.cons (xs_iast dX5_laysAside_80) <|
  XPr.cons (xs_aload_n dX5_laysAside_81 rfl) <|
  XPr.cons (xs_get (T := TX5) rfl gX5 (Nat.le_of_ble_eq_true rfl) gw_750 dX5_laysAside_82) <|
  XPr.cons (xs_bipush dX5_laysAside_85 (by decide +kernel)) <|
  XPr.cons (xs_aload_n dX5_laysAside_87 rfl) <|
  XPr.cons (xs_get (T := TX5) rfl gX5 (Nat.le_of_ble_eq_true rfl) gw_729 dX5_laysAside_88) <|
  XPr.cons (xs_iast dX5_laysAside_91) <|
  XPr.cons (xs_aload_n dX5_laysAside_92 rfl) <|
  XPr.cons (xs_get (T := TX5) rfl gX5 (Nat.le_of_ble_eq_true rfl) gw_750 dX5_laysAside_93) <|
  XPr.cons (xs_bipush dX5_laysAside_96 (by decide +kernel)) <|
  XPr.cons (xs_aload_n dX5_laysAside_98 rfl) <|
  XPr.cons (xs_get (T := TX5) rfl gX5 (Nat.le_of_ble_eq_true rfl) gw_730 dX5_laysAside_99) <|
  XPr.cons (xs_iast dX5_laysAside_102) <|
  XPr.cons (xs_vret rfl dX5_laysAside_103) <|
  XPr.nil
def pX5_laysAside : List (Nat × XOp) := pX5_laysAside_0 ++ pX5_laysAside_1
theorem sX5_laysAside : XPr RX5 cX5_laysAside 2 none 10 pX5_laysAside := (sX5_laysAside_0).app sX5_laysAside_1
def pX5_laysBack_0 : List (Nat × XOp) := [(0, xo_ic 0 1), (1, xo_is 1 2), (2, xo_il 1 3), (3, xo_ic 20 5), (5, xo_ic_ge 26 8), (8, xo_al 0 9), (9, xo_get 5 12 12), (12, xo_il 1 13), (13, xo_al 0 14), (14, xo_get 5 29 17), (17, xo_il 1 18), (18, xo_iald 19), (19, xo_iast 20), (20, xo_inc 1 1 23), (23, xo_goto 2), (26, xo_ic 0 27), (27, xo_is 1 28), (28, xo_il 1 29), (29, xo_ic 10 31), (31, xo_ic_ge 70 34), (34, xo_al 0 35), (35, xo_get 5 10 38), (38, xo_il 1 39), (39, xo_al 0 40), (40, xo_get 5 29 43), (43, xo_ic 20 45), (45, xo_il 1 46), (46, xo_iadd 47), (47, xo_iald 48), (48, xo_iast 49), (49, xo_al 0 50), (50, xo_get 5 11 53), (53, xo_il 1 54), (54, xo_al 0 55), (55, xo_get 5 29 58), (58, xo_ic 30 60), (60, xo_il 1 61), (61, xo_iadd 62), (62, xo_iald 63), (63, xo_iast 64)]
theorem sX5_laysBack_0 : XPr RX5 cX5_laysBack 2 none 10 pX5_laysBack_0 :=
  XPr.cons (xs_iconst dX5_laysBack_0 (by decide +kernel)) <|
  XPr.cons (xs_istore_n dX5_laysBack_1 rfl (Nat.le_of_ble_eq_true rfl)) <|
  XPr.cons (xs_iload_n dX5_laysBack_2 rfl) <|
  XPr.cons (xs_bipush dX5_laysBack_3 (by decide +kernel)) <|
  XPr.cons (xs_ic_ge dX5_laysBack_5 (by decide +kernel)) <|
  XPr.cons (xs_aload_n dX5_laysBack_8 rfl) <|
  XPr.cons (xs_get (T := TX5) rfl gX5 (Nat.le_of_ble_eq_true rfl) gw_733 dX5_laysBack_9) <|
  XPr.cons (xs_iload_n dX5_laysBack_12 rfl) <|
  XPr.cons (xs_aload_n dX5_laysBack_13 rfl) <|
  XPr.cons (xs_get (T := TX5) rfl gX5 (Nat.le_of_ble_eq_true rfl) gw_750 dX5_laysBack_14) <|
  XPr.cons (xs_iload_n dX5_laysBack_17 rfl) <|
  XPr.cons (xs_iald dX5_laysBack_18) <|
  XPr.cons (xs_iast dX5_laysBack_19) <|
  XPr.cons (xs_iinc dX5_laysBack_20 (by decide +kernel) (Nat.le_of_ble_eq_true rfl)) <|
  XPr.cons (xs_goto dX5_laysBack_23 (by decide +kernel)) <|
  XPr.cons (xs_iconst dX5_laysBack_26 (by decide +kernel)) <|
  XPr.cons (xs_istore_n dX5_laysBack_27 rfl (Nat.le_of_ble_eq_true rfl)) <|
  XPr.cons (xs_iload_n dX5_laysBack_28 rfl) <|
  XPr.cons (xs_bipush dX5_laysBack_29 (by decide +kernel)) <|
  XPr.cons (xs_ic_ge dX5_laysBack_31 (by decide +kernel)) <|
  XPr.cons (xs_aload_n dX5_laysBack_34 rfl) <|
  XPr.cons (xs_get (T := TX5) rfl gX5 (Nat.le_of_ble_eq_true rfl) gw_731 dX5_laysBack_35) <|
  XPr.cons (xs_iload_n dX5_laysBack_38 rfl) <|
  XPr.cons (xs_aload_n dX5_laysBack_39 rfl) <|
  XPr.cons (xs_get (T := TX5) rfl gX5 (Nat.le_of_ble_eq_true rfl) gw_750 dX5_laysBack_40) <|
  XPr.cons (xs_bipush dX5_laysBack_43 (by decide +kernel)) <|
  XPr.cons (xs_iload_n dX5_laysBack_45 rfl) <|
  XPr.cons (xs_iadd dX5_laysBack_46) <|
  XPr.cons (xs_iald dX5_laysBack_47) <|
  XPr.cons (xs_iast dX5_laysBack_48) <|
  XPr.cons (xs_aload_n dX5_laysBack_49 rfl) <|
  XPr.cons (xs_get (T := TX5) rfl gX5 (Nat.le_of_ble_eq_true rfl) gw_732 dX5_laysBack_50) <|
  XPr.cons (xs_iload_n dX5_laysBack_53 rfl) <|
  XPr.cons (xs_aload_n dX5_laysBack_54 rfl) <|
  XPr.cons (xs_get (T := TX5) rfl gX5 (Nat.le_of_ble_eq_true rfl) gw_750 dX5_laysBack_55) <|
  XPr.cons (xs_bipush dX5_laysBack_58 (by decide +kernel)) <|
  XPr.cons (xs_iload_n dX5_laysBack_60 rfl) <|
  XPr.cons (xs_iadd dX5_laysBack_61) <|
  XPr.cons (xs_iald dX5_laysBack_62) <|
  XPr.cons (xs_iast dX5_laysBack_63) <|
  XPr.nil
def pX5_laysBack_1 : List (Nat × XOp) := [(64, xo_inc 1 1 67), (67, xo_goto 28), (70, xo_al 0 71), (71, xo_al 0 72), (72, xo_get 5 29 75), (75, xo_ic 40 77), (77, xo_iald 78), (78, xo_putI 5 7 81), (81, xo_al 0 82), (82, xo_al 0 83), (83, xo_get 5 29 86), (86, xo_ic 41 88), (88, xo_iald 89), (89, xo_putI 5 8 92), (92, xo_al 0 93), (93, xo_al 0 94), (94, xo_get 5 29 97), (97, xo_ic 42 99), (99, xo_iald 100), (100, xo_putI 5 9 103), (103, xo_vret)]
theorem sX5_laysBack_1 : XPr RX5 cX5_laysBack 2 none 10 pX5_laysBack_1 :=
  XPr.cons (xs_iinc dX5_laysBack_64 (by decide +kernel) (Nat.le_of_ble_eq_true rfl)) <|
  XPr.cons (xs_goto dX5_laysBack_67 (by decide +kernel)) <|
  XPr.cons (xs_aload_n dX5_laysBack_70 rfl) <|
  XPr.cons (xs_aload_n dX5_laysBack_71 rfl) <|
  XPr.cons (xs_get (T := TX5) rfl gX5 (Nat.le_of_ble_eq_true rfl) gw_750 dX5_laysBack_72) <|
  XPr.cons (xs_bipush dX5_laysBack_75 (by decide +kernel)) <|
  XPr.cons (xs_iald dX5_laysBack_77) <|
  XPr.cons (xs_putI (T := TX5) rfl gX5 tyX5_ok nmX5 (Nat.le_of_ble_eq_true rfl) gw_728 rfl (by decide +kernel) dX5_laysBack_78) <|
  XPr.cons (xs_aload_n dX5_laysBack_81 rfl) <|
  XPr.cons (xs_aload_n dX5_laysBack_82 rfl) <|
  XPr.cons (xs_get (T := TX5) rfl gX5 (Nat.le_of_ble_eq_true rfl) gw_750 dX5_laysBack_83) <|
  XPr.cons (xs_bipush dX5_laysBack_86 (by decide +kernel)) <|
  XPr.cons (xs_iald dX5_laysBack_88) <|
  XPr.cons (xs_putI (T := TX5) rfl gX5 tyX5_ok nmX5 (Nat.le_of_ble_eq_true rfl) gw_729 rfl (by decide +kernel) dX5_laysBack_89) <|
  XPr.cons (xs_aload_n dX5_laysBack_92 rfl) <|
  XPr.cons (xs_aload_n dX5_laysBack_93 rfl) <|
  XPr.cons (xs_get (T := TX5) rfl gX5 (Nat.le_of_ble_eq_true rfl) gw_750 dX5_laysBack_94) <|
  XPr.cons (xs_bipush dX5_laysBack_97 (by decide +kernel)) <|
  XPr.cons (xs_iald dX5_laysBack_99) <|
  XPr.cons (xs_putI (T := TX5) rfl gX5 tyX5_ok nmX5 (Nat.le_of_ble_eq_true rfl) gw_730 rfl (by decide +kernel) dX5_laysBack_100) <|
  XPr.cons (xs_vret rfl dX5_laysBack_103) <|
  XPr.nil
def pX5_laysBack : List (Nat × XOp) := pX5_laysBack_0 ++ pX5_laysBack_1
theorem sX5_laysBack : XPr RX5 cX5_laysBack 2 none 10 pX5_laysBack := (sX5_laysBack_0).app sX5_laysBack_1
def pX5_sails : List (Nat × XOp) := [(0, xo_ic 0 1), (1, xo_is 2 2), (2, xo_il 2 3), (3, xo_il 1 4), (4, xo_ic_ge 17 7), (7, xo_al 0 8), (8, xo_callV yX5_passes cX5_passes 3 none 0 5 11), (11, xo_inc 2 1 14), (14, xo_goto 2), (17, xo_vret)]
theorem sX5_sails : XPr RX5 cX5_sails 3 none 10 pX5_sails :=
  XPr.cons (xs_iconst dX5_sails_0 (by decide +kernel)) <|
  XPr.cons (xs_istore_n dX5_sails_1 rfl (Nat.le_of_ble_eq_true rfl)) <|
  XPr.cons (xs_iload_n dX5_sails_2 rfl) <|
  XPr.cons (xs_iload_n dX5_sails_3 rfl) <|
  XPr.cons (xs_ic_ge dX5_sails_4 (by decide +kernel)) <|
  XPr.cons (xs_aload_n dX5_sails_7 rfl) <|
  XPr.cons (xs_callV (T := TX5) rfl gw_1052 gw_1054 gw_57 gw_77 gw_1055 (by decide +kernel) (Nat.le_of_ble_eq_true rfl) dX5_sails_8) <|
  XPr.cons (xs_iinc dX5_sails_11 (by decide +kernel) (Nat.le_of_ble_eq_true rfl)) <|
  XPr.cons (xs_goto dX5_sails_14 (by decide +kernel)) <|
  XPr.cons (xs_vret rfl dX5_sails_17) <|
  XPr.nil
def pX5_waterBehind : List (Nat × XOp) := [(0, xo_al 0 1), (1, xo_callV yX5_laysAside cX5_laysAside 2 none 0 5 4), (4, xo_al 0 5), (5, xo_il 1 6), (6, xo_callV yX5_sails cX5_sails 3 none 1 5 9), (9, xo_al 0 10), (10, xo_get 5 9 13), (13, xo_is 2 14), (14, xo_al 0 15), (15, xo_callV yX5_laysBack cX5_laysBack 2 none 0 5 18), (18, xo_il 2 19), (19, xo_iret)]
theorem sX5_waterBehind : XPr RX5 cX5_waterBehind 3 (some .int) 10 pX5_waterBehind :=
  XPr.cons (xs_aload_n dX5_waterBehind_0 rfl) <|
  XPr.cons (xs_callV (T := TX5) rfl gw_1071 gw_1073 gw_60 gw_77 gw_1074 (by decide +kernel) (Nat.le_of_ble_eq_true rfl) dX5_waterBehind_1) <|
  XPr.cons (xs_aload_n dX5_waterBehind_4 rfl) <|
  XPr.cons (xs_iload_n dX5_waterBehind_5 rfl) <|
  XPr.cons (xs_callV (T := TX5) rfl gw_1075 gw_1077 gw_61 gw_77 gw_1078 (by decide +kernel) (Nat.le_of_ble_eq_true rfl) dX5_waterBehind_6) <|
  XPr.cons (xs_aload_n dX5_waterBehind_9 rfl) <|
  XPr.cons (xs_get (T := TX5) rfl gX5 (Nat.le_of_ble_eq_true rfl) gw_730 dX5_waterBehind_10) <|
  XPr.cons (xs_istore_n dX5_waterBehind_13 rfl (Nat.le_of_ble_eq_true rfl)) <|
  XPr.cons (xs_aload_n dX5_waterBehind_14 rfl) <|
  XPr.cons (xs_callV (T := TX5) rfl gw_1079 gw_1081 gw_62 gw_77 gw_1082 (by decide +kernel) (Nat.le_of_ble_eq_true rfl) dX5_waterBehind_15) <|
  XPr.cons (xs_iload_n dX5_waterBehind_18 rfl) <|
  XPr.cons (xs_iret rfl dX5_waterBehind_19) <|
  XPr.nil
def pX5_run_0 : List (Nat × XOp) := [(0, xo_il 1 1), (1, xo_i2l 2), (2, xo_lc 0 3), (3, xo_lc 40 6), (6, xo_q3 f_in 9), (9, xo_if_eq 38 12), (12, xo_il 2 13), (13, xo_i2l 14), (14, xo_lc 0 15), (15, xo_lc 2 18), (18, xo_q3 f_in 21), (21, xo_if_ne 41 24), (24, xo_il 2 25), (25, xo_i2l 26), (26, xo_lc 10 29), (29, xo_lc 19 32), (32, xo_q3 f_in 35), (35, xo_if_ne 41 38), (38, xo_ic (-2) 40), (40, xo_iret), (41, xo_al 0 42), (42, xo_callV yX5_laysAside cX5_laysAside 2 none 0 5 45), (45, xo_al 0 46), (46, xo_il 1 47), (47, xo_callV yX5_sails cX5_sails 3 none 1 5 50), (50, xo_il 2 51), (51, xo_if_ne 61 54), (54, xo_al 0 55), (55, xo_get 5 9 58), (58, xo_goto 95), (61, xo_il 2 62), (62, xo_ic 1 63), (63, xo_ic_ne 74 66), (66, xo_al 0 67), (67, xo_ic 2 68), (68, xo_callV yX5_whoIs cX5_whoIs 4 (some .int) 1 5 71), (71, xo_goto 95), (74, xo_il 2 75), (75, xo_ic 2 76), (76, xo_ic_ne 86 79)]
theorem sX5_run_0 : XPr RX5 cX5_run 4 (some .int) 10 pX5_run_0 :=
  XPr.cons (xs_iload_n dX5_run_0 rfl) <|
  XPr.cons (xs_i2l dX5_run_1) <|
  XPr.cons (xs_lconst dX5_run_2 (by decide +kernel)) <|
  XPr.cons (xs_ldc2 gw_1068 dX5_run_3) <|
  XPr.cons (xs_q3 (xs_callS gw_866 gw_867 gw_77 gw_868 (by decide +kernel) (Nat.le_of_ble_eq_true rfl) dX5_run_6) c_X5_in (Nat.le_of_ble_eq_true rfl)) <|
  XPr.cons (xs_if_eq dX5_run_9 (by decide +kernel)) <|
  XPr.cons (xs_iload_n dX5_run_12 rfl) <|
  XPr.cons (xs_i2l dX5_run_13) <|
  XPr.cons (xs_lconst dX5_run_14 (by decide +kernel)) <|
  XPr.cons (xs_ldc2 gw_1069 dX5_run_15) <|
  XPr.cons (xs_q3 (xs_callS gw_866 gw_867 gw_77 gw_868 (by decide +kernel) (Nat.le_of_ble_eq_true rfl) dX5_run_18) c_X5_in (Nat.le_of_ble_eq_true rfl)) <|
  XPr.cons (xs_if_ne dX5_run_21 (by decide +kernel)) <|
  XPr.cons (xs_iload_n dX5_run_24 rfl) <|
  XPr.cons (xs_i2l dX5_run_25) <|
  XPr.cons (xs_ldc2 gw_917 dX5_run_26) <|
  XPr.cons (xs_ldc2 gw_1070 dX5_run_29) <|
  XPr.cons (xs_q3 (xs_callS gw_866 gw_867 gw_77 gw_868 (by decide +kernel) (Nat.le_of_ble_eq_true rfl) dX5_run_32) c_X5_in (Nat.le_of_ble_eq_true rfl)) <|
  XPr.cons (xs_if_ne dX5_run_35 (by decide +kernel)) <|
  XPr.cons (xs_bipush dX5_run_38 (by decide +kernel)) <|
  XPr.cons (xs_iret rfl dX5_run_40) <|
  XPr.cons (xs_aload_n dX5_run_41 rfl) <|
  XPr.cons (xs_callV (T := TX5) rfl gw_1071 gw_1073 gw_60 gw_77 gw_1074 (by decide +kernel) (Nat.le_of_ble_eq_true rfl) dX5_run_42) <|
  XPr.cons (xs_aload_n dX5_run_45 rfl) <|
  XPr.cons (xs_iload_n dX5_run_46 rfl) <|
  XPr.cons (xs_callV (T := TX5) rfl gw_1075 gw_1077 gw_61 gw_77 gw_1078 (by decide +kernel) (Nat.le_of_ble_eq_true rfl) dX5_run_47) <|
  XPr.cons (xs_iload_n dX5_run_50 rfl) <|
  XPr.cons (xs_if_ne dX5_run_51 (by decide +kernel)) <|
  XPr.cons (xs_aload_n dX5_run_54 rfl) <|
  XPr.cons (xs_get (T := TX5) rfl gX5 (Nat.le_of_ble_eq_true rfl) gw_730 dX5_run_55) <|
  XPr.cons (xs_goto dX5_run_58 (by decide +kernel)) <|
  XPr.cons (xs_iload_n dX5_run_61 rfl) <|
  XPr.cons (xs_iconst dX5_run_62 (by decide +kernel)) <|
  XPr.cons (xs_ic_ne dX5_run_63 (by decide +kernel)) <|
  XPr.cons (xs_aload_n dX5_run_66 rfl) <|
  XPr.cons (xs_iconst dX5_run_67 (by decide +kernel)) <|
  XPr.cons (xs_callV (T := TX5) rfl gw_975 gw_977 gw_49 gw_77 gw_978 (by decide +kernel) (Nat.le_of_ble_eq_true rfl) dX5_run_68) <|
  XPr.cons (xs_goto dX5_run_71 (by decide +kernel)) <|
  XPr.cons (xs_iload_n dX5_run_74 rfl) <|
  XPr.cons (xs_iconst dX5_run_75 (by decide +kernel)) <|
  XPr.cons (xs_ic_ne dX5_run_76 (by decide +kernel)) <|
  XPr.nil
def pX5_run_1 : List (Nat × XOp) := [(79, xo_al 0 80), (80, xo_callV yX5_leaksAll cX5_leaksAll 3 (some .int) 0 5 83), (83, xo_goto 95), (86, xo_al 0 87), (87, xo_get 5 11 90), (90, xo_il 2 91), (91, xo_ic 10 93), (93, xo_isub 94), (94, xo_iald 95), (95, xo_is 3 96), (96, xo_al 0 97), (97, xo_callV yX5_laysBack cX5_laysBack 2 none 0 5 100), (100, xo_il 3 101), (101, xo_iret)]
theorem sX5_run_1 : XPr RX5 cX5_run 4 (some .int) 10 pX5_run_1 :=
  XPr.cons (xs_aload_n dX5_run_79 rfl) <|
  XPr.cons (xs_callV (T := TX5) rfl gw_1056 gw_1058 gw_58 gw_77 gw_1059 (by decide +kernel) (Nat.le_of_ble_eq_true rfl) dX5_run_80) <|
  XPr.cons (xs_goto dX5_run_83 (by decide +kernel)) <|
  XPr.cons (xs_aload_n dX5_run_86 rfl) <|
  XPr.cons (xs_get (T := TX5) rfl gX5 (Nat.le_of_ble_eq_true rfl) gw_732 dX5_run_87) <|
  XPr.cons (xs_iload_n dX5_run_90 rfl) <|
  XPr.cons (xs_bipush dX5_run_91 (by decide +kernel)) <|
  XPr.cons (xs_isub dX5_run_93) <|
  XPr.cons (xs_iald dX5_run_94) <|
  XPr.cons (xs_istore_n dX5_run_95 rfl (Nat.le_of_ble_eq_true rfl)) <|
  XPr.cons (xs_aload_n dX5_run_96 rfl) <|
  XPr.cons (xs_callV (T := TX5) rfl gw_1079 gw_1081 gw_62 gw_77 gw_1082 (by decide +kernel) (Nat.le_of_ble_eq_true rfl) dX5_run_97) <|
  XPr.cons (xs_iload_n dX5_run_100 rfl) <|
  XPr.cons (xs_iret rfl dX5_run_101) <|
  XPr.nil
def pX5_run : List (Nat × XOp) := pX5_run_0 ++ pX5_run_1
theorem sX5_run : XPr RX5 cX5_run 4 (some .int) 10 pX5_run := (sX5_run_0).app sX5_run_1
def pX5_down : List (Nat × XOp) := [(0, xo_al 0 1), (1, xo_callV yX5_laysAside cX5_laysAside 2 none 0 5 4), (4, xo_ic 0 5), (5, xo_is 1 6), (6, xo_il 1 7), (7, xo_ic 60 9), (9, xo_ic_gt 31 12), (12, xo_al 0 13), (13, xo_get 5 9 16), (16, xo_ic 100 18), (18, xo_ic_ge 31 21), (21, xo_al 0 22), (22, xo_callV yX5_passes cX5_passes 3 none 0 5 25), (25, xo_inc 1 1 28), (28, xo_goto 6), (31, xo_al 0 32), (32, xo_callV yX5_laysBack cX5_laysBack 2 none 0 5 35), (35, xo_il 1 36), (36, xo_ic 60 38), (38, xo_ic_le 45 41), (41, xo_ic (-1) 42), (42, xo_goto 46), (45, xo_il 1 46), (46, xo_iret)]
theorem sX5_down : XPr RX5 cX5_down 2 (some .int) 10 pX5_down :=
  XPr.cons (xs_aload_n dX5_down_0 rfl) <|
  XPr.cons (xs_callV (T := TX5) rfl gw_1071 gw_1073 gw_60 gw_77 gw_1074 (by decide +kernel) (Nat.le_of_ble_eq_true rfl) dX5_down_1) <|
  XPr.cons (xs_iconst dX5_down_4 (by decide +kernel)) <|
  XPr.cons (xs_istore_n dX5_down_5 rfl (Nat.le_of_ble_eq_true rfl)) <|
  XPr.cons (xs_iload_n dX5_down_6 rfl) <|
  XPr.cons (xs_bipush dX5_down_7 (by decide +kernel)) <|
  XPr.cons (xs_ic_gt dX5_down_9 (by decide +kernel)) <|
  XPr.cons (xs_aload_n dX5_down_12 rfl) <|
  XPr.cons (xs_get (T := TX5) rfl gX5 (Nat.le_of_ble_eq_true rfl) gw_730 dX5_down_13) <|
  XPr.cons (xs_bipush dX5_down_16 (by decide +kernel)) <|
  XPr.cons (xs_ic_ge dX5_down_18 (by decide +kernel)) <|
  XPr.cons (xs_aload_n dX5_down_21 rfl) <|
  XPr.cons (xs_callV (T := TX5) rfl gw_1052 gw_1054 gw_57 gw_77 gw_1055 (by decide +kernel) (Nat.le_of_ble_eq_true rfl) dX5_down_22) <|
  XPr.cons (xs_iinc dX5_down_25 (by decide +kernel) (Nat.le_of_ble_eq_true rfl)) <|
  XPr.cons (xs_goto dX5_down_28 (by decide +kernel)) <|
  XPr.cons (xs_aload_n dX5_down_31 rfl) <|
  XPr.cons (xs_callV (T := TX5) rfl gw_1079 gw_1081 gw_62 gw_77 gw_1082 (by decide +kernel) (Nat.le_of_ble_eq_true rfl) dX5_down_32) <|
  XPr.cons (xs_iload_n dX5_down_35 rfl) <|
  XPr.cons (xs_bipush dX5_down_36 (by decide +kernel)) <|
  XPr.cons (xs_ic_le dX5_down_38 (by decide +kernel)) <|
  XPr.cons (xs_iconst dX5_down_41 (by decide +kernel)) <|
  XPr.cons (xs_goto dX5_down_42 (by decide +kernel)) <|
  XPr.cons (xs_iload_n dX5_down_45 rfl) <|
  XPr.cons (xs_iret rfl dX5_down_46) <|
  XPr.nil
def pX5_tries_0 : List (Nat × XOp) := [(0, xo_il 1 1), (1, xo_al 0 2), (2, xo_get 5 31 5), (5, xo_ic_ne 52 8), (8, xo_al 0 9), (9, xo_callV yX5_laysAside cX5_laysAside 2 none 0 5 12), (12, xo_al 0 13), (13, xo_callV yX5_binds cX5_binds 2 none 0 5 16), (16, xo_al 0 17), (17, xo_il 3 18), (18, xo_callV yX5_sails cX5_sails 3 none 1 5 21), (21, xo_al 0 22), (22, xo_get 5 9 25), (25, xo_is 4 27), (27, xo_al 0 28), (28, xo_callV yX5_laysBack cX5_laysBack 2 none 0 5 31), (31, xo_il 4 33), (33, xo_al 0 34), (34, xo_get 5 33 37), (37, xo_ic_ge 51 40), (40, xo_al 0 41), (41, xo_il 2 42), (42, xo_putI 5 32 45), (45, xo_al 0 46), (46, xo_il 4 48), (48, xo_putI 5 33 51), (51, xo_vret), (52, xo_al 0 53), (53, xo_get 5 11 56), (56, xo_al 0 57), (57, xo_get 5 30 60), (60, xo_il 1 61), (61, xo_iald 62), (62, xo_iald 63), (63, xo_is 4 65), (65, xo_ic 0 66), (66, xo_is 5 68), (68, xo_il 5 70), (70, xo_al 0 71), (71, xo_get 5 13 74)]
theorem sX5_tries_0 : XPr RX5 cX5_tries 6 none 10 pX5_tries_0 :=
  XPr.cons (xs_iload_n dX5_tries_0 rfl) <|
  XPr.cons (xs_aload_n dX5_tries_1 rfl) <|
  XPr.cons (xs_get (T := TX5) rfl gX5 (Nat.le_of_ble_eq_true rfl) gw_752 dX5_tries_2) <|
  XPr.cons (xs_ic_ne dX5_tries_5 (by decide +kernel)) <|
  XPr.cons (xs_aload_n dX5_tries_8 rfl) <|
  XPr.cons (xs_callV (T := TX5) rfl gw_1071 gw_1073 gw_60 gw_77 gw_1074 (by decide +kernel) (Nat.le_of_ble_eq_true rfl) dX5_tries_9) <|
  XPr.cons (xs_aload_n dX5_tries_12 rfl) <|
  XPr.cons (xs_callV (T := TX5) rfl gw_1040 gw_1042 gw_56 gw_77 gw_1043 (by decide +kernel) (Nat.le_of_ble_eq_true rfl) dX5_tries_13) <|
  XPr.cons (xs_aload_n dX5_tries_16 rfl) <|
  XPr.cons (xs_iload_n dX5_tries_17 rfl) <|
  XPr.cons (xs_callV (T := TX5) rfl gw_1075 gw_1077 gw_61 gw_77 gw_1078 (by decide +kernel) (Nat.le_of_ble_eq_true rfl) dX5_tries_18) <|
  XPr.cons (xs_aload_n dX5_tries_21 rfl) <|
  XPr.cons (xs_get (T := TX5) rfl gX5 (Nat.le_of_ble_eq_true rfl) gw_730 dX5_tries_22) <|
  XPr.cons (xs_istore dX5_tries_25 (Nat.le_of_ble_eq_true rfl)) <|
  XPr.cons (xs_aload_n dX5_tries_27 rfl) <|
  XPr.cons (xs_callV (T := TX5) rfl gw_1079 gw_1081 gw_62 gw_77 gw_1082 (by decide +kernel) (Nat.le_of_ble_eq_true rfl) dX5_tries_28) <|
  XPr.cons (xs_iload dX5_tries_31) <|
  XPr.cons (xs_aload_n dX5_tries_33 rfl) <|
  XPr.cons (xs_get (T := TX5) rfl gX5 (Nat.le_of_ble_eq_true rfl) gw_754 dX5_tries_34) <|
  XPr.cons (xs_ic_ge dX5_tries_37 (by decide +kernel)) <|
  XPr.cons (xs_aload_n dX5_tries_40 rfl) <|
  XPr.cons (xs_iload_n dX5_tries_41 rfl) <|
  XPr.cons (xs_putI (T := TX5) rfl gX5 tyX5_ok nmX5 (Nat.le_of_ble_eq_true rfl) gw_753 rfl (by decide +kernel) dX5_tries_42) <|
  XPr.cons (xs_aload_n dX5_tries_45 rfl) <|
  XPr.cons (xs_iload dX5_tries_46) <|
  XPr.cons (xs_putI (T := TX5) rfl gX5 tyX5_ok nmX5 (Nat.le_of_ble_eq_true rfl) gw_754 rfl (by decide +kernel) dX5_tries_48) <|
  XPr.cons (xs_vret rfl dX5_tries_51) <|
  XPr.cons (xs_aload_n dX5_tries_52 rfl) <|
  XPr.cons (xs_get (T := TX5) rfl gX5 (Nat.le_of_ble_eq_true rfl) gw_732 dX5_tries_53) <|
  XPr.cons (xs_aload_n dX5_tries_56 rfl) <|
  XPr.cons (xs_get (T := TX5) rfl gX5 (Nat.le_of_ble_eq_true rfl) gw_751 dX5_tries_57) <|
  XPr.cons (xs_iload_n dX5_tries_60 rfl) <|
  XPr.cons (xs_iald dX5_tries_61) <|
  XPr.cons (xs_iald dX5_tries_62) <|
  XPr.cons (xs_istore dX5_tries_63 (Nat.le_of_ble_eq_true rfl)) <|
  XPr.cons (xs_iconst dX5_tries_65 (by decide +kernel)) <|
  XPr.cons (xs_istore dX5_tries_66 (Nat.le_of_ble_eq_true rfl)) <|
  XPr.cons (xs_iload dX5_tries_68) <|
  XPr.cons (xs_aload_n dX5_tries_70 rfl) <|
  XPr.cons (xs_get (T := TX5) rfl gX5 (Nat.le_of_ble_eq_true rfl) gw_734 dX5_tries_71) <|
  XPr.nil
def pX5_tries_1 : List (Nat × XOp) := [(74, xo_ic_ge 148 77), (77, xo_al 0 78), (78, xo_il 5 80), (80, xo_ic 0 81), (81, xo_callV yX5_isAt cX5_isAt 3 (some .boolean) 2 5 84), (84, xo_if_eq 142 87), (87, xo_al 0 88), (88, xo_il 5 90), (90, xo_al 0 91), (91, xo_get 5 30 94), (94, xo_il 1 95), (95, xo_iald 96), (96, xo_callV yX5_built cX5_built 4 (some .int) 2 5 99), (99, xo_popI 100), (100, xo_al 0 101), (101, xo_il 1 102), (102, xo_ic 1 103), (103, xo_iadd 104), (104, xo_ic 6 106), (106, xo_il 2 107), (107, xo_imul 108), (108, xo_il 5 110), (110, xo_iadd 111), (111, xo_ic 1 112), (112, xo_iadd 113), (113, xo_il 3 114), (114, xo_callV yX5_tries cX5_tries 6 none 3 5 117), (117, xo_al 0 118), (118, xo_get 5 10 121), (121, xo_al 0 122), (122, xo_get 5 30 125), (125, xo_il 1 126), (126, xo_iald 127), (127, xo_ic (-1) 128), (128, xo_iast 129), (129, xo_al 0 130), (130, xo_get 5 11 133), (133, xo_al 0 134), (134, xo_get 5 30 137), (137, xo_il 1 138)]
theorem sX5_tries_1 : XPr RX5 cX5_tries 6 none 10 pX5_tries_1 :=
  XPr.cons (xs_ic_ge dX5_tries_74 (by decide +kernel)) <|
  XPr.cons (xs_aload_n dX5_tries_77 rfl) <|
  XPr.cons (xs_iload dX5_tries_78) <|
  XPr.cons (xs_iconst dX5_tries_80 (by decide +kernel)) <|
  XPr.cons (xs_callV (T := TX5) rfl gw_979 gw_981 gw_50 gw_77 gw_982 (by decide +kernel) (Nat.le_of_ble_eq_true rfl) dX5_tries_81) <|
  XPr.cons (xs_if_eq dX5_tries_84 (by decide +kernel)) <|
  XPr.cons (xs_aload_n dX5_tries_87 rfl) <|
  XPr.cons (xs_iload dX5_tries_88) <|
  XPr.cons (xs_aload_n dX5_tries_90 rfl) <|
  XPr.cons (xs_get (T := TX5) rfl gX5 (Nat.le_of_ble_eq_true rfl) gw_751 dX5_tries_91) <|
  XPr.cons (xs_iload_n dX5_tries_94 rfl) <|
  XPr.cons (xs_iald dX5_tries_95) <|
  XPr.cons (xs_callV (T := TX5) rfl gw_1032 gw_1034 gw_55 gw_77 gw_1035 (by decide +kernel) (Nat.le_of_ble_eq_true rfl) dX5_tries_96) <|
  XPr.cons (xs_popI dX5_tries_99) <|
  XPr.cons (xs_aload_n dX5_tries_100 rfl) <|
  XPr.cons (xs_iload_n dX5_tries_101 rfl) <|
  XPr.cons (xs_iconst dX5_tries_102 (by decide +kernel)) <|
  XPr.cons (xs_iadd dX5_tries_103) <|
  XPr.cons (xs_bipush dX5_tries_104 (by decide +kernel)) <|
  XPr.cons (xs_iload_n dX5_tries_106 rfl) <|
  XPr.cons (xs_imul dX5_tries_107) <|
  XPr.cons (xs_iload dX5_tries_108) <|
  XPr.cons (xs_iadd dX5_tries_110) <|
  XPr.cons (xs_iconst dX5_tries_111 (by decide +kernel)) <|
  XPr.cons (xs_iadd dX5_tries_112) <|
  XPr.cons (xs_iload_n dX5_tries_113 rfl) <|
  XPr.cons (xs_callV (T := TX5) rfl gw_1092 gw_1094 gw_63 gw_77 gw_1095 (by decide +kernel) (Nat.le_of_ble_eq_true rfl) dX5_tries_114) <|
  XPr.cons (xs_aload_n dX5_tries_117 rfl) <|
  XPr.cons (xs_get (T := TX5) rfl gX5 (Nat.le_of_ble_eq_true rfl) gw_731 dX5_tries_118) <|
  XPr.cons (xs_aload_n dX5_tries_121 rfl) <|
  XPr.cons (xs_get (T := TX5) rfl gX5 (Nat.le_of_ble_eq_true rfl) gw_751 dX5_tries_122) <|
  XPr.cons (xs_iload_n dX5_tries_125 rfl) <|
  XPr.cons (xs_iald dX5_tries_126) <|
  XPr.cons (xs_iconst dX5_tries_127 (by decide +kernel)) <|
  XPr.cons (xs_iast dX5_tries_128) <|
  XPr.cons (xs_aload_n dX5_tries_129 rfl) <|
  XPr.cons (xs_get (T := TX5) rfl gX5 (Nat.le_of_ble_eq_true rfl) gw_732 dX5_tries_130) <|
  XPr.cons (xs_aload_n dX5_tries_133 rfl) <|
  XPr.cons (xs_get (T := TX5) rfl gX5 (Nat.le_of_ble_eq_true rfl) gw_751 dX5_tries_134) <|
  XPr.cons (xs_iload_n dX5_tries_137 rfl) <|
  XPr.nil
def pX5_tries_2 : List (Nat × XOp) := [(138, xo_iald 139), (139, xo_il 4 141), (141, xo_iast 142), (142, xo_inc 5 1 145), (145, xo_goto 68), (148, xo_vret)]
theorem sX5_tries_2 : XPr RX5 cX5_tries 6 none 10 pX5_tries_2 :=
  XPr.cons (xs_iald dX5_tries_138) <|
  XPr.cons (xs_iload dX5_tries_139) <|
  XPr.cons (xs_iast dX5_tries_141) <|
  XPr.cons (xs_iinc dX5_tries_142 (by decide +kernel) (Nat.le_of_ble_eq_true rfl)) <|
  XPr.cons (xs_goto dX5_tries_145 (by decide +kernel)) <|
  XPr.cons (xs_vret rfl dX5_tries_148) <|
  XPr.nil
def pX5_tries : List (Nat × XOp) := pX5_tries_0 ++ pX5_tries_1 ++ pX5_tries_2
theorem sX5_tries : XPr RX5 cX5_tries 6 none 10 pX5_tries := ((sX5_tries_0).app sX5_tries_1).app sX5_tries_2
def pX5_yard_0 : List (Nat × XOp) := [(0, xo_il 1 1), (1, xo_i2l 2), (2, xo_lc 0 3), (3, xo_lc 20 6), (6, xo_q3 f_in 9), (9, xo_if_eq 22 12), (12, xo_il 2 13), (13, xo_i2l 14), (14, xo_lc 0 15), (15, xo_lc 1 16), (16, xo_q3 f_in 19), (19, xo_if_ne 25 22), (22, xo_ic (-2) 24), (24, xo_iret), (25, xo_al 0 26), (26, xo_ic 0 27), (27, xo_putI 5 31 30), (30, xo_ic 0 31), (31, xo_is 3 32), (32, xo_il 3 33), (33, xo_ic 10 35), (35, xo_ic_ge 90 38), (38, xo_al 0 39), (39, xo_get 5 10 42), (42, xo_il 3 43), (43, xo_iald 44), (44, xo_ic (-1) 45), (45, xo_ic_ne 84 48), (48, xo_al 0 49), (49, xo_get 5 31 52), (52, xo_ic 3 53), (53, xo_ic_ge 84 56), (56, xo_al 0 57), (57, xo_ic 0 58), (58, xo_callV yX5_whoIs cX5_whoIs 4 (some .int) 1 5 61), (61, xo_if_eq 84 64), (64, xo_al 0 65), (65, xo_get 5 30 68), (68, xo_al 0 69), (69, xo_get 5 31 72)]
theorem sX5_yard_0 : XPr RX5 cX5_yard 4 (some .int) 10 pX5_yard_0 :=
  XPr.cons (xs_iload_n dX5_yard_0 rfl) <|
  XPr.cons (xs_i2l dX5_yard_1) <|
  XPr.cons (xs_lconst dX5_yard_2 (by decide +kernel)) <|
  XPr.cons (xs_ldc2 gw_1091 dX5_yard_3) <|
  XPr.cons (xs_q3 (xs_callS gw_866 gw_867 gw_77 gw_868 (by decide +kernel) (Nat.le_of_ble_eq_true rfl) dX5_yard_6) c_X5_in (Nat.le_of_ble_eq_true rfl)) <|
  XPr.cons (xs_if_eq dX5_yard_9 (by decide +kernel)) <|
  XPr.cons (xs_iload_n dX5_yard_12 rfl) <|
  XPr.cons (xs_i2l dX5_yard_13) <|
  XPr.cons (xs_lconst dX5_yard_14 (by decide +kernel)) <|
  XPr.cons (xs_lconst dX5_yard_15 (by decide +kernel)) <|
  XPr.cons (xs_q3 (xs_callS gw_866 gw_867 gw_77 gw_868 (by decide +kernel) (Nat.le_of_ble_eq_true rfl) dX5_yard_16) c_X5_in (Nat.le_of_ble_eq_true rfl)) <|
  XPr.cons (xs_if_ne dX5_yard_19 (by decide +kernel)) <|
  XPr.cons (xs_bipush dX5_yard_22 (by decide +kernel)) <|
  XPr.cons (xs_iret rfl dX5_yard_24) <|
  XPr.cons (xs_aload_n dX5_yard_25 rfl) <|
  XPr.cons (xs_iconst dX5_yard_26 (by decide +kernel)) <|
  XPr.cons (xs_putI (T := TX5) rfl gX5 tyX5_ok nmX5 (Nat.le_of_ble_eq_true rfl) gw_752 rfl (by decide +kernel) dX5_yard_27) <|
  XPr.cons (xs_iconst dX5_yard_30 (by decide +kernel)) <|
  XPr.cons (xs_istore_n dX5_yard_31 rfl (Nat.le_of_ble_eq_true rfl)) <|
  XPr.cons (xs_iload_n dX5_yard_32 rfl) <|
  XPr.cons (xs_bipush dX5_yard_33 (by decide +kernel)) <|
  XPr.cons (xs_ic_ge dX5_yard_35 (by decide +kernel)) <|
  XPr.cons (xs_aload_n dX5_yard_38 rfl) <|
  XPr.cons (xs_get (T := TX5) rfl gX5 (Nat.le_of_ble_eq_true rfl) gw_731 dX5_yard_39) <|
  XPr.cons (xs_iload_n dX5_yard_42 rfl) <|
  XPr.cons (xs_iald dX5_yard_43) <|
  XPr.cons (xs_iconst dX5_yard_44 (by decide +kernel)) <|
  XPr.cons (xs_ic_ne dX5_yard_45 (by decide +kernel)) <|
  XPr.cons (xs_aload_n dX5_yard_48 rfl) <|
  XPr.cons (xs_get (T := TX5) rfl gX5 (Nat.le_of_ble_eq_true rfl) gw_752 dX5_yard_49) <|
  XPr.cons (xs_iconst dX5_yard_52 (by decide +kernel)) <|
  XPr.cons (xs_ic_ge dX5_yard_53 (by decide +kernel)) <|
  XPr.cons (xs_aload_n dX5_yard_56 rfl) <|
  XPr.cons (xs_iconst dX5_yard_57 (by decide +kernel)) <|
  XPr.cons (xs_callV (T := TX5) rfl gw_975 gw_977 gw_49 gw_77 gw_978 (by decide +kernel) (Nat.le_of_ble_eq_true rfl) dX5_yard_58) <|
  XPr.cons (xs_if_eq dX5_yard_61 (by decide +kernel)) <|
  XPr.cons (xs_aload_n dX5_yard_64 rfl) <|
  XPr.cons (xs_get (T := TX5) rfl gX5 (Nat.le_of_ble_eq_true rfl) gw_751 dX5_yard_65) <|
  XPr.cons (xs_aload_n dX5_yard_68 rfl) <|
  XPr.cons (xs_get (T := TX5) rfl gX5 (Nat.le_of_ble_eq_true rfl) gw_752 dX5_yard_69) <|
  XPr.nil
def pX5_yard_1 : List (Nat × XOp) := [(72, xo_il 3 73), (73, xo_iast 74), (74, xo_al 0 75), (75, xo_dupR 76), (76, xo_get 5 31 79), (79, xo_ic 1 80), (80, xo_iadd 81), (81, xo_putI 5 31 84), (84, xo_inc 3 1 87), (87, xo_goto 32), (90, xo_al 0 91), (91, xo_ic 0 92), (92, xo_putI 5 32 95), (95, xo_al 0 96), (96, xo_ic 101 98), (98, xo_putI 5 33 101), (101, xo_al 0 102), (102, xo_ic 0 103), (103, xo_ic 0 104), (104, xo_il 1 105), (105, xo_callV yX5_tries cX5_tries 6 none 3 5 108), (108, xo_il 2 109), (109, xo_if_ne 119 112), (112, xo_al 0 113), (113, xo_get 5 32 116), (116, xo_goto 123), (119, xo_al 0 120), (120, xo_get 5 33 123), (123, xo_iret)]
theorem sX5_yard_1 : XPr RX5 cX5_yard 4 (some .int) 10 pX5_yard_1 :=
  XPr.cons (xs_iload_n dX5_yard_72 rfl) <|
  XPr.cons (xs_iast dX5_yard_73) <|
  XPr.cons (xs_aload_n dX5_yard_74 rfl) <|
  XPr.cons (xs_dupR dX5_yard_75) <|
  XPr.cons (xs_get (T := TX5) rfl gX5 (Nat.le_of_ble_eq_true rfl) gw_752 dX5_yard_76) <|
  XPr.cons (xs_iconst dX5_yard_79 (by decide +kernel)) <|
  XPr.cons (xs_iadd dX5_yard_80) <|
  XPr.cons (xs_putI (T := TX5) rfl gX5 tyX5_ok nmX5 (Nat.le_of_ble_eq_true rfl) gw_752 rfl (by decide +kernel) dX5_yard_81) <|
  XPr.cons (xs_iinc dX5_yard_84 (by decide +kernel) (Nat.le_of_ble_eq_true rfl)) <|
  XPr.cons (xs_goto dX5_yard_87 (by decide +kernel)) <|
  XPr.cons (xs_aload_n dX5_yard_90 rfl) <|
  XPr.cons (xs_iconst dX5_yard_91 (by decide +kernel)) <|
  XPr.cons (xs_putI (T := TX5) rfl gX5 tyX5_ok nmX5 (Nat.le_of_ble_eq_true rfl) gw_753 rfl (by decide +kernel) dX5_yard_92) <|
  XPr.cons (xs_aload_n dX5_yard_95 rfl) <|
  XPr.cons (xs_bipush dX5_yard_96 (by decide +kernel)) <|
  XPr.cons (xs_putI (T := TX5) rfl gX5 tyX5_ok nmX5 (Nat.le_of_ble_eq_true rfl) gw_754 rfl (by decide +kernel) dX5_yard_98) <|
  XPr.cons (xs_aload_n dX5_yard_101 rfl) <|
  XPr.cons (xs_iconst dX5_yard_102 (by decide +kernel)) <|
  XPr.cons (xs_iconst dX5_yard_103 (by decide +kernel)) <|
  XPr.cons (xs_iload_n dX5_yard_104 rfl) <|
  XPr.cons (xs_callV (T := TX5) rfl gw_1092 gw_1094 gw_63 gw_77 gw_1095 (by decide +kernel) (Nat.le_of_ble_eq_true rfl) dX5_yard_105) <|
  XPr.cons (xs_iload_n dX5_yard_108 rfl) <|
  XPr.cons (xs_if_ne dX5_yard_109 (by decide +kernel)) <|
  XPr.cons (xs_aload_n dX5_yard_112 rfl) <|
  XPr.cons (xs_get (T := TX5) rfl gX5 (Nat.le_of_ble_eq_true rfl) gw_753 dX5_yard_113) <|
  XPr.cons (xs_goto dX5_yard_116 (by decide +kernel)) <|
  XPr.cons (xs_aload_n dX5_yard_119 rfl) <|
  XPr.cons (xs_get (T := TX5) rfl gX5 (Nat.le_of_ble_eq_true rfl) gw_754 dX5_yard_120) <|
  XPr.cons (xs_iret rfl dX5_yard_123) <|
  XPr.nil
def pX5_yard : List (Nat × XOp) := pX5_yard_0 ++ pX5_yard_1
theorem sX5_yard : XPr RX5 cX5_yard 4 (some .int) 10 pX5_yard := (sX5_yard_0).app sX5_yard_1
def pX5_stands : List (Nat × XOp) := [(0, xo_il 1 1), (1, xo_i2l 2), (2, xo_lc 1 3), (3, xo_lc 40 6), (6, xo_q3 f_in 9), (9, xo_if_ne 15 12), (12, xo_ic (-2) 14), (14, xo_iret), (15, xo_al 0 16), (16, xo_get 5 8 19), (19, xo_is 2 20), (20, xo_ic (-1) 21), (21, xo_is 3 22), (22, xo_ic 99 24), (24, xo_is 4 26), (26, xo_il 4 28), (28, xo_if_lt 65 31), (31, xo_il 3 32), (32, xo_ic (-1) 33), (33, xo_ic_ne 65 36), (36, xo_al 0 37), (37, xo_il 4 39), (39, xo_putI 5 8 42), (42, xo_al 0 43), (43, xo_il 1 44), (44, xo_callV yX5_waterBehind cX5_waterBehind 3 (some .int) 1 5 47), (47, xo_ic 100 49), (49, xo_ic_ge 57 52), (52, xo_il 4 54), (54, xo_goto 58), (57, xo_ic (-1) 58), (58, xo_is 3 59), (59, xo_inc 4 (-1) 62), (62, xo_goto 26), (65, xo_al 0 66), (66, xo_il 2 67), (67, xo_putI 5 8 70), (70, xo_il 3 71), (71, xo_iret)]
theorem sX5_stands : XPr RX5 cX5_stands 5 (some .int) 10 pX5_stands :=
  XPr.cons (xs_iload_n dX5_stands_0 rfl) <|
  XPr.cons (xs_i2l dX5_stands_1) <|
  XPr.cons (xs_lconst dX5_stands_2 (by decide +kernel)) <|
  XPr.cons (xs_ldc2 gw_1068 dX5_stands_3) <|
  XPr.cons (xs_q3 (xs_callS gw_866 gw_867 gw_77 gw_868 (by decide +kernel) (Nat.le_of_ble_eq_true rfl) dX5_stands_6) c_X5_in (Nat.le_of_ble_eq_true rfl)) <|
  XPr.cons (xs_if_ne dX5_stands_9 (by decide +kernel)) <|
  XPr.cons (xs_bipush dX5_stands_12 (by decide +kernel)) <|
  XPr.cons (xs_iret rfl dX5_stands_14) <|
  XPr.cons (xs_aload_n dX5_stands_15 rfl) <|
  XPr.cons (xs_get (T := TX5) rfl gX5 (Nat.le_of_ble_eq_true rfl) gw_729 dX5_stands_16) <|
  XPr.cons (xs_istore_n dX5_stands_19 rfl (Nat.le_of_ble_eq_true rfl)) <|
  XPr.cons (xs_iconst dX5_stands_20 (by decide +kernel)) <|
  XPr.cons (xs_istore_n dX5_stands_21 rfl (Nat.le_of_ble_eq_true rfl)) <|
  XPr.cons (xs_bipush dX5_stands_22 (by decide +kernel)) <|
  XPr.cons (xs_istore dX5_stands_24 (Nat.le_of_ble_eq_true rfl)) <|
  XPr.cons (xs_iload dX5_stands_26) <|
  XPr.cons (xs_if_lt dX5_stands_28 (by decide +kernel)) <|
  XPr.cons (xs_iload_n dX5_stands_31 rfl) <|
  XPr.cons (xs_iconst dX5_stands_32 (by decide +kernel)) <|
  XPr.cons (xs_ic_ne dX5_stands_33 (by decide +kernel)) <|
  XPr.cons (xs_aload_n dX5_stands_36 rfl) <|
  XPr.cons (xs_iload dX5_stands_37) <|
  XPr.cons (xs_putI (T := TX5) rfl gX5 tyX5_ok nmX5 (Nat.le_of_ble_eq_true rfl) gw_729 rfl (by decide +kernel) dX5_stands_39) <|
  XPr.cons (xs_aload_n dX5_stands_42 rfl) <|
  XPr.cons (xs_iload_n dX5_stands_43 rfl) <|
  XPr.cons (xs_callV (T := TX5) rfl gw_1100 gw_1102 gw_64 gw_77 gw_1103 (by decide +kernel) (Nat.le_of_ble_eq_true rfl) dX5_stands_44) <|
  XPr.cons (xs_bipush dX5_stands_47 (by decide +kernel)) <|
  XPr.cons (xs_ic_ge dX5_stands_49 (by decide +kernel)) <|
  XPr.cons (xs_iload dX5_stands_52) <|
  XPr.cons (xs_goto dX5_stands_54 (by decide +kernel)) <|
  XPr.cons (xs_iconst dX5_stands_57 (by decide +kernel)) <|
  XPr.cons (xs_istore_n dX5_stands_58 rfl (Nat.le_of_ble_eq_true rfl)) <|
  XPr.cons (xs_iinc dX5_stands_59 (by decide +kernel) (Nat.le_of_ble_eq_true rfl)) <|
  XPr.cons (xs_goto dX5_stands_62 (by decide +kernel)) <|
  XPr.cons (xs_aload_n dX5_stands_65 rfl) <|
  XPr.cons (xs_iload_n dX5_stands_66 rfl) <|
  XPr.cons (xs_putI (T := TX5) rfl gX5 tyX5_ok nmX5 (Nat.le_of_ble_eq_true rfl) gw_729 rfl (by decide +kernel) dX5_stands_67) <|
  XPr.cons (xs_iload_n dX5_stands_70 rfl) <|
  XPr.cons (xs_iret rfl dX5_stands_71) <|
  XPr.nil
def pX5_goers_0 : List (Nat × XOp) := [(0, xo_ic 1 1), (1, xo_al 0 2), (2, xo_get 5 13 5), (5, xo_ishl 6), (6, xo_ic 1 7), (7, xo_isub 8), (8, xo_al 0 9), (9, xo_ic 2 10), (10, xo_callV yX5_whoIs cX5_whoIs 4 (some .int) 1 5 13), (13, xo_ic (-1) 14), (14, xo_ixor 15), (15, xo_iand 16), (16, xo_is 2 17), (17, xo_al 0 18), (18, xo_ic 1 19), (19, xo_callV yX5_whoIs cX5_whoIs 4 (some .int) 1 5 22), (22, xo_is 3 23), (23, xo_ic (-1) 24), (24, xo_is 4 26), (26, xo_ic 0 27), (27, xo_is 5 29), (29, xo_il 5 31), (31, xo_ic 1 32), (32, xo_al 0 33), (33, xo_get 5 13 36), (36, xo_ishl 37), (37, xo_ic_ge 100 40), (40, xo_il 5 42), (42, xo_il 2 43), (43, xo_ic (-1) 44), (44, xo_ixor 45), (45, xo_iand 46), (46, xo_if_ne 94 49), (49, xo_il 4 51), (51, xo_ic (-1) 52), (52, xo_ic_eq 68 55), (55, xo_il 5 57), (57, xo_p1 f_bitsM 60), (60, xo_il 4 62), (62, xo_p1 f_bitsM 65)]
theorem sX5_goers_0 : XPr RX5 cX5_goers 6 (some .int) 10 pX5_goers_0 :=
  XPr.cons (xs_iconst dX5_goers_0 (by decide +kernel)) <|
  XPr.cons (xs_aload_n dX5_goers_1 rfl) <|
  XPr.cons (xs_get (T := TX5) rfl gX5 (Nat.le_of_ble_eq_true rfl) gw_734 dX5_goers_2) <|
  XPr.cons (xs_ishl dX5_goers_5) <|
  XPr.cons (xs_iconst dX5_goers_6 (by decide +kernel)) <|
  XPr.cons (xs_isub dX5_goers_7) <|
  XPr.cons (xs_aload_n dX5_goers_8 rfl) <|
  XPr.cons (xs_iconst dX5_goers_9 (by decide +kernel)) <|
  XPr.cons (xs_callV (T := TX5) rfl gw_975 gw_977 gw_49 gw_77 gw_978 (by decide +kernel) (Nat.le_of_ble_eq_true rfl) dX5_goers_10) <|
  XPr.cons (xs_iconst dX5_goers_13 (by decide +kernel)) <|
  XPr.cons (xs_ixor dX5_goers_14) <|
  XPr.cons (xs_iand dX5_goers_15) <|
  XPr.cons (xs_istore_n dX5_goers_16 rfl (Nat.le_of_ble_eq_true rfl)) <|
  XPr.cons (xs_aload_n dX5_goers_17 rfl) <|
  XPr.cons (xs_iconst dX5_goers_18 (by decide +kernel)) <|
  XPr.cons (xs_callV (T := TX5) rfl gw_975 gw_977 gw_49 gw_77 gw_978 (by decide +kernel) (Nat.le_of_ble_eq_true rfl) dX5_goers_19) <|
  XPr.cons (xs_istore_n dX5_goers_22 rfl (Nat.le_of_ble_eq_true rfl)) <|
  XPr.cons (xs_iconst dX5_goers_23 (by decide +kernel)) <|
  XPr.cons (xs_istore dX5_goers_24 (Nat.le_of_ble_eq_true rfl)) <|
  XPr.cons (xs_iconst dX5_goers_26 (by decide +kernel)) <|
  XPr.cons (xs_istore dX5_goers_27 (Nat.le_of_ble_eq_true rfl)) <|
  XPr.cons (xs_iload dX5_goers_29) <|
  XPr.cons (xs_iconst dX5_goers_31 (by decide +kernel)) <|
  XPr.cons (xs_aload_n dX5_goers_32 rfl) <|
  XPr.cons (xs_get (T := TX5) rfl gX5 (Nat.le_of_ble_eq_true rfl) gw_734 dX5_goers_33) <|
  XPr.cons (xs_ishl dX5_goers_36) <|
  XPr.cons (xs_ic_ge dX5_goers_37 (by decide +kernel)) <|
  XPr.cons (xs_iload dX5_goers_40) <|
  XPr.cons (xs_iload_n dX5_goers_42 rfl) <|
  XPr.cons (xs_iconst dX5_goers_43 (by decide +kernel)) <|
  XPr.cons (xs_ixor dX5_goers_44) <|
  XPr.cons (xs_iand dX5_goers_45) <|
  XPr.cons (xs_if_ne dX5_goers_46 (by decide +kernel)) <|
  XPr.cons (xs_iload dX5_goers_49) <|
  XPr.cons (xs_iconst dX5_goers_51 (by decide +kernel)) <|
  XPr.cons (xs_ic_eq dX5_goers_52 (by decide +kernel)) <|
  XPr.cons (xs_iload dX5_goers_55) <|
  XPr.cons (xs_p1 (xs_callS gw_983 gw_984 gw_77 gw_985 (by decide +kernel) (Nat.le_of_ble_eq_true rfl) dX5_goers_57) c_X5_bitsOf (Nat.le_of_ble_eq_true rfl)) <|
  XPr.cons (xs_iload dX5_goers_60) <|
  XPr.cons (xs_p1 (xs_callS gw_983 gw_984 gw_77 gw_985 (by decide +kernel) (Nat.le_of_ble_eq_true rfl) dX5_goers_62) c_X5_bitsOf (Nat.le_of_ble_eq_true rfl)) <|
  XPr.nil
def pX5_goers_1 : List (Nat × XOp) := [(65, xo_ic_ge 94 68), (68, xo_al 0 69), (69, xo_il 5 71), (71, xo_il 2 72), (72, xo_callV yX5_placed cX5_placed 4 none 2 5 75), (75, xo_al 0 76), (76, xo_il 1 77), (77, xo_callV yX5_waterBehind cX5_waterBehind 3 (some .int) 1 5 80), (80, xo_ic 100 82), (82, xo_ic_ge 90 85), (85, xo_il 5 87), (87, xo_goto 92), (90, xo_il 4 92), (92, xo_is 4 94), (94, xo_inc 5 1 97), (97, xo_goto 29), (100, xo_al 0 101), (101, xo_il 3 102), (102, xo_il 2 103), (103, xo_callV yX5_placed cX5_placed 4 none 2 5 106), (106, xo_il 4 108), (108, xo_iret)]
theorem sX5_goers_1 : XPr RX5 cX5_goers 6 (some .int) 10 pX5_goers_1 :=
  XPr.cons (xs_ic_ge dX5_goers_65 (by decide +kernel)) <|
  XPr.cons (xs_aload_n dX5_goers_68 rfl) <|
  XPr.cons (xs_iload dX5_goers_69) <|
  XPr.cons (xs_iload_n dX5_goers_71 rfl) <|
  XPr.cons (xs_callV (T := TX5) rfl gw_1112 gw_1114 gw_66 gw_77 gw_1115 (by decide +kernel) (Nat.le_of_ble_eq_true rfl) dX5_goers_72) <|
  XPr.cons (xs_aload_n dX5_goers_75 rfl) <|
  XPr.cons (xs_iload_n dX5_goers_76 rfl) <|
  XPr.cons (xs_callV (T := TX5) rfl gw_1100 gw_1102 gw_64 gw_77 gw_1103 (by decide +kernel) (Nat.le_of_ble_eq_true rfl) dX5_goers_77) <|
  XPr.cons (xs_bipush dX5_goers_80 (by decide +kernel)) <|
  XPr.cons (xs_ic_ge dX5_goers_82 (by decide +kernel)) <|
  XPr.cons (xs_iload dX5_goers_85) <|
  XPr.cons (xs_goto dX5_goers_87 (by decide +kernel)) <|
  XPr.cons (xs_iload dX5_goers_90) <|
  XPr.cons (xs_istore dX5_goers_92 (Nat.le_of_ble_eq_true rfl)) <|
  XPr.cons (xs_iinc dX5_goers_94 (by decide +kernel) (Nat.le_of_ble_eq_true rfl)) <|
  XPr.cons (xs_goto dX5_goers_97 (by decide +kernel)) <|
  XPr.cons (xs_aload_n dX5_goers_100 rfl) <|
  XPr.cons (xs_iload_n dX5_goers_101 rfl) <|
  XPr.cons (xs_iload_n dX5_goers_102 rfl) <|
  XPr.cons (xs_callV (T := TX5) rfl gw_1112 gw_1114 gw_66 gw_77 gw_1115 (by decide +kernel) (Nat.le_of_ble_eq_true rfl) dX5_goers_103) <|
  XPr.cons (xs_iload dX5_goers_106) <|
  XPr.cons (xs_iret rfl dX5_goers_108) <|
  XPr.nil
def pX5_goers : List (Nat × XOp) := pX5_goers_0 ++ pX5_goers_1
theorem sX5_goers : XPr RX5 cX5_goers 6 (some .int) 10 pX5_goers := (sX5_goers_0).app sX5_goers_1
def pX5_placed : List (Nat × XOp) := [(0, xo_ic 0 1), (1, xo_is 3 2), (2, xo_il 3 3), (3, xo_al 0 4), (4, xo_get 5 13 7), (7, xo_ic_ge 44 10), (10, xo_al 0 11), (11, xo_get 5 12 14), (14, xo_ic 4 15), (15, xo_il 3 16), (16, xo_imul 17), (17, xo_ic 3 18), (18, xo_iadd 19), (19, xo_il 2 20), (20, xo_il 3 21), (21, xo_ishr 22), (22, xo_ic 1 23), (23, xo_iand 24), (24, xo_ic 1 25), (25, xo_ic_ne 36 28), (28, xo_il 1 29), (29, xo_il 3 30), (30, xo_ishr 31), (31, xo_ic 1 32), (32, xo_iand 33), (33, xo_goto 37), (36, xo_ic 2 37), (37, xo_iast 38), (38, xo_inc 3 1 41), (41, xo_goto 2), (44, xo_vret)]
theorem sX5_placed : XPr RX5 cX5_placed 4 none 10 pX5_placed :=
  XPr.cons (xs_iconst dX5_placed_0 (by decide +kernel)) <|
  XPr.cons (xs_istore_n dX5_placed_1 rfl (Nat.le_of_ble_eq_true rfl)) <|
  XPr.cons (xs_iload_n dX5_placed_2 rfl) <|
  XPr.cons (xs_aload_n dX5_placed_3 rfl) <|
  XPr.cons (xs_get (T := TX5) rfl gX5 (Nat.le_of_ble_eq_true rfl) gw_734 dX5_placed_4) <|
  XPr.cons (xs_ic_ge dX5_placed_7 (by decide +kernel)) <|
  XPr.cons (xs_aload_n dX5_placed_10 rfl) <|
  XPr.cons (xs_get (T := TX5) rfl gX5 (Nat.le_of_ble_eq_true rfl) gw_733 dX5_placed_11) <|
  XPr.cons (xs_iconst dX5_placed_14 (by decide +kernel)) <|
  XPr.cons (xs_iload_n dX5_placed_15 rfl) <|
  XPr.cons (xs_imul dX5_placed_16) <|
  XPr.cons (xs_iconst dX5_placed_17 (by decide +kernel)) <|
  XPr.cons (xs_iadd dX5_placed_18) <|
  XPr.cons (xs_iload_n dX5_placed_19 rfl) <|
  XPr.cons (xs_iload_n dX5_placed_20 rfl) <|
  XPr.cons (xs_ishr dX5_placed_21) <|
  XPr.cons (xs_iconst dX5_placed_22 (by decide +kernel)) <|
  XPr.cons (xs_iand dX5_placed_23) <|
  XPr.cons (xs_iconst dX5_placed_24 (by decide +kernel)) <|
  XPr.cons (xs_ic_ne dX5_placed_25 (by decide +kernel)) <|
  XPr.cons (xs_iload_n dX5_placed_28 rfl) <|
  XPr.cons (xs_iload_n dX5_placed_29 rfl) <|
  XPr.cons (xs_ishr dX5_placed_30) <|
  XPr.cons (xs_iconst dX5_placed_31 (by decide +kernel)) <|
  XPr.cons (xs_iand dX5_placed_32) <|
  XPr.cons (xs_goto dX5_placed_33 (by decide +kernel)) <|
  XPr.cons (xs_iconst dX5_placed_36 (by decide +kernel)) <|
  XPr.cons (xs_iast dX5_placed_37) <|
  XPr.cons (xs_iinc dX5_placed_38 (by decide +kernel) (Nat.le_of_ble_eq_true rfl)) <|
  XPr.cons (xs_goto dX5_placed_41 (by decide +kernel)) <|
  XPr.cons (xs_vret rfl dX5_placed_44) <|
  XPr.nil
def pX5_go : List (Nat × XOp) := [(0, xo_il 1 1), (1, xo_i2l 2), (2, xo_lc 0 3), (3, xo_lc 40 6), (6, xo_q3 f_in 9), (9, xo_if_eq 22 12), (12, xo_il 2 13), (13, xo_i2l 14), (14, xo_lc 0 15), (15, xo_lc 1 16), (16, xo_q3 f_in 19), (19, xo_if_ne 25 22), (22, xo_ic (-2) 24), (24, xo_iret), (25, xo_al 0 26), (26, xo_il 1 27), (27, xo_callV yX5_goers cX5_goers 6 (some .int) 1 5 30), (30, xo_is 3 31), (31, xo_il 2 32), (32, xo_if_eq 40 35), (35, xo_il 3 36), (36, xo_ic (-1) 37), (37, xo_ic_ne 44 40), (40, xo_il 3 41), (41, xo_goto 48), (44, xo_il 3 45), (45, xo_p1 f_bitsM 48), (48, xo_iret)]
theorem sX5_go : XPr RX5 cX5_go 4 (some .int) 10 pX5_go :=
  XPr.cons (xs_iload_n dX5_go_0 rfl) <|
  XPr.cons (xs_i2l dX5_go_1) <|
  XPr.cons (xs_lconst dX5_go_2 (by decide +kernel)) <|
  XPr.cons (xs_ldc2 gw_1068 dX5_go_3) <|
  XPr.cons (xs_q3 (xs_callS gw_866 gw_867 gw_77 gw_868 (by decide +kernel) (Nat.le_of_ble_eq_true rfl) dX5_go_6) c_X5_in (Nat.le_of_ble_eq_true rfl)) <|
  XPr.cons (xs_if_eq dX5_go_9 (by decide +kernel)) <|
  XPr.cons (xs_iload_n dX5_go_12 rfl) <|
  XPr.cons (xs_i2l dX5_go_13) <|
  XPr.cons (xs_lconst dX5_go_14 (by decide +kernel)) <|
  XPr.cons (xs_lconst dX5_go_15 (by decide +kernel)) <|
  XPr.cons (xs_q3 (xs_callS gw_866 gw_867 gw_77 gw_868 (by decide +kernel) (Nat.le_of_ble_eq_true rfl) dX5_go_16) c_X5_in (Nat.le_of_ble_eq_true rfl)) <|
  XPr.cons (xs_if_ne dX5_go_19 (by decide +kernel)) <|
  XPr.cons (xs_bipush dX5_go_22 (by decide +kernel)) <|
  XPr.cons (xs_iret rfl dX5_go_24) <|
  XPr.cons (xs_aload_n dX5_go_25 rfl) <|
  XPr.cons (xs_iload_n dX5_go_26 rfl) <|
  XPr.cons (xs_callV (T := TX5) rfl gw_1108 gw_1110 gw_65 gw_77 gw_1111 (by decide +kernel) (Nat.le_of_ble_eq_true rfl) dX5_go_27) <|
  XPr.cons (xs_istore_n dX5_go_30 rfl (Nat.le_of_ble_eq_true rfl)) <|
  XPr.cons (xs_iload_n dX5_go_31 rfl) <|
  XPr.cons (xs_if_eq dX5_go_32 (by decide +kernel)) <|
  XPr.cons (xs_iload_n dX5_go_35 rfl) <|
  XPr.cons (xs_iconst dX5_go_36 (by decide +kernel)) <|
  XPr.cons (xs_ic_ne dX5_go_37 (by decide +kernel)) <|
  XPr.cons (xs_iload_n dX5_go_40 rfl) <|
  XPr.cons (xs_goto dX5_go_41 (by decide +kernel)) <|
  XPr.cons (xs_iload_n dX5_go_44 rfl) <|
  XPr.cons (xs_p1 (xs_callS gw_983 gw_984 gw_77 gw_985 (by decide +kernel) (Nat.le_of_ble_eq_true rfl) dX5_go_45) c_X5_bitsOf (Nat.le_of_ble_eq_true rfl)) <|
  XPr.cons (xs_iret rfl dX5_go_48) <|
  XPr.nil
def pX5_worst : List (Nat × XOp) := [(0, xo_ic (-1) 1), (1, xo_is 1 2), (2, xo_ic 0 3), (3, xo_is 2 4), (4, xo_ic 0 5), (5, xo_is 3 6), (6, xo_il 3 7), (7, xo_ic 10 9), (9, xo_ic_ge 35 12), (12, xo_al 0 13), (13, xo_il 3 14), (14, xo_callV yX5_leaksOf cX5_leaksOf 3 (some .int) 1 5 17), (17, xo_il 2 18), (18, xo_ic_le 29 21), (21, xo_il 3 22), (22, xo_is 1 23), (23, xo_al 0 24), (24, xo_il 3 25), (25, xo_callV yX5_leaksOf cX5_leaksOf 3 (some .int) 1 5 28), (28, xo_is 2 29), (29, xo_inc 3 1 32), (32, xo_goto 6), (35, xo_il 1 36), (36, xo_iret)]
theorem sX5_worst : XPr RX5 cX5_worst 4 (some .int) 10 pX5_worst :=
  XPr.cons (xs_iconst dX5_worst_0 (by decide +kernel)) <|
  XPr.cons (xs_istore_n dX5_worst_1 rfl (Nat.le_of_ble_eq_true rfl)) <|
  XPr.cons (xs_iconst dX5_worst_2 (by decide +kernel)) <|
  XPr.cons (xs_istore_n dX5_worst_3 rfl (Nat.le_of_ble_eq_true rfl)) <|
  XPr.cons (xs_iconst dX5_worst_4 (by decide +kernel)) <|
  XPr.cons (xs_istore_n dX5_worst_5 rfl (Nat.le_of_ble_eq_true rfl)) <|
  XPr.cons (xs_iload_n dX5_worst_6 rfl) <|
  XPr.cons (xs_bipush dX5_worst_7 (by decide +kernel)) <|
  XPr.cons (xs_ic_ge dX5_worst_9 (by decide +kernel)) <|
  XPr.cons (xs_aload_n dX5_worst_12 rfl) <|
  XPr.cons (xs_iload_n dX5_worst_13 rfl) <|
  XPr.cons (xs_callV (T := TX5) rfl gw_986 gw_988 gw_51 gw_77 gw_989 (by decide +kernel) (Nat.le_of_ble_eq_true rfl) dX5_worst_14) <|
  XPr.cons (xs_iload_n dX5_worst_17 rfl) <|
  XPr.cons (xs_ic_le dX5_worst_18 (by decide +kernel)) <|
  XPr.cons (xs_iload_n dX5_worst_21 rfl) <|
  XPr.cons (xs_istore_n dX5_worst_22 rfl (Nat.le_of_ble_eq_true rfl)) <|
  XPr.cons (xs_aload_n dX5_worst_23 rfl) <|
  XPr.cons (xs_iload_n dX5_worst_24 rfl) <|
  XPr.cons (xs_callV (T := TX5) rfl gw_986 gw_988 gw_51 gw_77 gw_989 (by decide +kernel) (Nat.le_of_ble_eq_true rfl) dX5_worst_25) <|
  XPr.cons (xs_istore_n dX5_worst_28 rfl (Nat.le_of_ble_eq_true rfl)) <|
  XPr.cons (xs_iinc dX5_worst_29 (by decide +kernel) (Nat.le_of_ble_eq_true rfl)) <|
  XPr.cons (xs_goto dX5_worst_32 (by decide +kernel)) <|
  XPr.cons (xs_iload_n dX5_worst_35 rfl) <|
  XPr.cons (xs_iret rfl dX5_worst_36) <|
  XPr.nil
def pX5_lowest : List (Nat × XOp) := [(0, xo_ll 0 1), (1, xo_ls 5 3), (3, xo_ll 2 4), (4, xo_ls 7 6), (6, xo_ll 7 8), (8, xo_lc 0 9), (9, xo_lcmp 10), (10, xo_if_eq 31 13), (13, xo_ll 5 15), (15, xo_ll 7 17), (17, xo_lrem 18), (18, xo_ls 9 20), (20, xo_ll 7 22), (22, xo_ls 5 24), (24, xo_ll 9 26), (26, xo_ls 7 28), (28, xo_goto 6), (31, xo_il 4 33), (33, xo_if_ne 43 36), (36, xo_ll 0 37), (37, xo_ll 5 39), (39, xo_ldiv 40), (40, xo_goto 47), (43, xo_ll 2 44), (44, xo_ll 5 46), (46, xo_ldiv 47), (47, xo_lret)]
theorem sX5_lowest : XPr RX5 cX5_lowest 11 (some .long) 10 pX5_lowest :=
  XPr.cons (xs_lload_n dX5_lowest_0 rfl) <|
  XPr.cons (xs_lstore dX5_lowest_1 (Nat.le_of_ble_eq_true rfl)) <|
  XPr.cons (xs_lload_n dX5_lowest_3 rfl) <|
  XPr.cons (xs_lstore dX5_lowest_4 (Nat.le_of_ble_eq_true rfl)) <|
  XPr.cons (xs_lload dX5_lowest_6) <|
  XPr.cons (xs_lconst dX5_lowest_8 (by decide +kernel)) <|
  XPr.cons (xs_lcmp dX5_lowest_9) <|
  XPr.cons (xs_if_eq dX5_lowest_10 (by decide +kernel)) <|
  XPr.cons (xs_lload dX5_lowest_13) <|
  XPr.cons (xs_lload dX5_lowest_15) <|
  XPr.cons (xs_lrem dX5_lowest_17) <|
  XPr.cons (xs_lstore dX5_lowest_18 (Nat.le_of_ble_eq_true rfl)) <|
  XPr.cons (xs_lload dX5_lowest_20) <|
  XPr.cons (xs_lstore dX5_lowest_22 (Nat.le_of_ble_eq_true rfl)) <|
  XPr.cons (xs_lload dX5_lowest_24) <|
  XPr.cons (xs_lstore dX5_lowest_26 (Nat.le_of_ble_eq_true rfl)) <|
  XPr.cons (xs_goto dX5_lowest_28 (by decide +kernel)) <|
  XPr.cons (xs_iload dX5_lowest_31) <|
  XPr.cons (xs_if_ne dX5_lowest_33 (by decide +kernel)) <|
  XPr.cons (xs_lload_n dX5_lowest_36 rfl) <|
  XPr.cons (xs_lload dX5_lowest_37) <|
  XPr.cons (xs_ldiv dX5_lowest_39) <|
  XPr.cons (xs_goto dX5_lowest_40 (by decide +kernel)) <|
  XPr.cons (xs_lload_n dX5_lowest_43 rfl) <|
  XPr.cons (xs_lload dX5_lowest_44) <|
  XPr.cons (xs_ldiv dX5_lowest_46) <|
  XPr.cons (xs_lret rfl dX5_lowest_47) <|
  XPr.nil
def pX5_mean : List (Nat × XOp) := [(0, xo_ic 0 1), (1, xo_is 2 2), (2, xo_ic 0 3), (3, xo_is 3 4), (4, xo_il 3 5), (5, xo_ic 10 7), (7, xo_ic_ge 25 10), (10, xo_il 2 11), (11, xo_al 0 12), (12, xo_get 5 11 15), (15, xo_il 3 16), (16, xo_iald 17), (17, xo_iadd 18), (18, xo_is 2 19), (19, xo_inc 3 1 22), (22, xo_goto 4), (25, xo_il 1 26), (26, xo_i2l 27), (27, xo_lc 0 28), (28, xo_lc 1 29), (29, xo_q3 f_in 32), (32, xo_if_eq 47 35), (35, xo_il 2 36), (36, xo_i2l 37), (37, xo_lc 10 40), (40, xo_il 1 41), (41, xo_callS yX5_lowest cX5_lowest 11 (some .long) 3 44), (44, xo_goto 50), (47, xo_lc (-4611686018427387904) 50), (50, xo_lret)]
theorem sX5_mean : XPr RX5 cX5_mean 4 (some .long) 10 pX5_mean :=
  XPr.cons (xs_iconst dX5_mean_0 (by decide +kernel)) <|
  XPr.cons (xs_istore_n dX5_mean_1 rfl (Nat.le_of_ble_eq_true rfl)) <|
  XPr.cons (xs_iconst dX5_mean_2 (by decide +kernel)) <|
  XPr.cons (xs_istore_n dX5_mean_3 rfl (Nat.le_of_ble_eq_true rfl)) <|
  XPr.cons (xs_iload_n dX5_mean_4 rfl) <|
  XPr.cons (xs_bipush dX5_mean_5 (by decide +kernel)) <|
  XPr.cons (xs_ic_ge dX5_mean_7 (by decide +kernel)) <|
  XPr.cons (xs_iload_n dX5_mean_10 rfl) <|
  XPr.cons (xs_aload_n dX5_mean_11 rfl) <|
  XPr.cons (xs_get (T := TX5) rfl gX5 (Nat.le_of_ble_eq_true rfl) gw_732 dX5_mean_12) <|
  XPr.cons (xs_iload_n dX5_mean_15 rfl) <|
  XPr.cons (xs_iald dX5_mean_16) <|
  XPr.cons (xs_iadd dX5_mean_17) <|
  XPr.cons (xs_istore_n dX5_mean_18 rfl (Nat.le_of_ble_eq_true rfl)) <|
  XPr.cons (xs_iinc dX5_mean_19 (by decide +kernel) (Nat.le_of_ble_eq_true rfl)) <|
  XPr.cons (xs_goto dX5_mean_22 (by decide +kernel)) <|
  XPr.cons (xs_iload_n dX5_mean_25 rfl) <|
  XPr.cons (xs_i2l dX5_mean_26) <|
  XPr.cons (xs_lconst dX5_mean_27 (by decide +kernel)) <|
  XPr.cons (xs_lconst dX5_mean_28 (by decide +kernel)) <|
  XPr.cons (xs_q3 (xs_callS gw_866 gw_867 gw_77 gw_868 (by decide +kernel) (Nat.le_of_ble_eq_true rfl) dX5_mean_29) c_X5_in (Nat.le_of_ble_eq_true rfl)) <|
  XPr.cons (xs_if_eq dX5_mean_32 (by decide +kernel)) <|
  XPr.cons (xs_iload_n dX5_mean_35 rfl) <|
  XPr.cons (xs_i2l dX5_mean_36) <|
  XPr.cons (xs_ldc2 gw_917 dX5_mean_37) <|
  XPr.cons (xs_iload_n dX5_mean_40 rfl) <|
  XPr.cons (xs_callS gw_1124 gw_1125 gw_77 gw_1126 (by decide +kernel) (Nat.le_of_ble_eq_true rfl) dX5_mean_41) <|
  XPr.cons (xs_goto dX5_mean_44 (by decide +kernel)) <|
  XPr.cons (xs_ldc2 gw_1127 dX5_mean_47) <|
  XPr.cons (xs_lret rfl dX5_mean_50) <|
  XPr.nil
def pX5_firstOther : List (Nat × XOp) := [(0, xo_al 0 1), (1, xo_callV yX5_laysAside cX5_laysAside 2 none 0 5 4), (4, xo_ic (-1) 5), (5, xo_is 2 6), (6, xo_ic 0 7), (7, xo_is 3 8), (8, xo_il 3 9), (9, xo_al 0 10), (10, xo_get 5 44 13), (13, xo_il 1 14), (14, xo_iald 15), (15, xo_ic_ge 57 18), (18, xo_il 2 19), (19, xo_ic (-1) 20), (20, xo_ic_ne 57 23), (23, xo_al 0 24), (24, xo_callV yX5_passes cX5_passes 3 none 0 5 27), (27, xo_al 0 28), (28, xo_get 5 9 31), (31, xo_al 0 32), (32, xo_get 5 45 35), (35, xo_ic 40 37), (37, xo_il 1 38), (38, xo_imul 39), (39, xo_il 3 40), (40, xo_iadd 41), (41, xo_iald 42), (42, xo_ic_ne 49 45), (45, xo_ic (-1) 46), (46, xo_goto 50), (49, xo_il 3 50), (50, xo_is 2 51), (51, xo_inc 3 1 54), (54, xo_goto 8), (57, xo_al 0 58), (58, xo_callV yX5_laysBack cX5_laysBack 2 none 0 5 61), (61, xo_il 2 62), (62, xo_iret)]
theorem sX5_firstOther : XPr RX5 cX5_firstOther 4 (some .int) 10 pX5_firstOther :=
  XPr.cons (xs_aload_n dX5_firstOther_0 rfl) <|
  XPr.cons (xs_callV (T := TX5) rfl gw_1071 gw_1073 gw_60 gw_77 gw_1074 (by decide +kernel) (Nat.le_of_ble_eq_true rfl) dX5_firstOther_1) <|
  XPr.cons (xs_iconst dX5_firstOther_4 (by decide +kernel)) <|
  XPr.cons (xs_istore_n dX5_firstOther_5 rfl (Nat.le_of_ble_eq_true rfl)) <|
  XPr.cons (xs_iconst dX5_firstOther_6 (by decide +kernel)) <|
  XPr.cons (xs_istore_n dX5_firstOther_7 rfl (Nat.le_of_ble_eq_true rfl)) <|
  XPr.cons (xs_iload_n dX5_firstOther_8 rfl) <|
  XPr.cons (xs_aload_n dX5_firstOther_9 rfl) <|
  XPr.cons (xs_get (T := TX5) rfl gX5 (Nat.le_of_ble_eq_true rfl) gw_765 dX5_firstOther_10) <|
  XPr.cons (xs_iload_n dX5_firstOther_13 rfl) <|
  XPr.cons (xs_iald dX5_firstOther_14) <|
  XPr.cons (xs_ic_ge dX5_firstOther_15 (by decide +kernel)) <|
  XPr.cons (xs_iload_n dX5_firstOther_18 rfl) <|
  XPr.cons (xs_iconst dX5_firstOther_19 (by decide +kernel)) <|
  XPr.cons (xs_ic_ne dX5_firstOther_20 (by decide +kernel)) <|
  XPr.cons (xs_aload_n dX5_firstOther_23 rfl) <|
  XPr.cons (xs_callV (T := TX5) rfl gw_1052 gw_1054 gw_57 gw_77 gw_1055 (by decide +kernel) (Nat.le_of_ble_eq_true rfl) dX5_firstOther_24) <|
  XPr.cons (xs_aload_n dX5_firstOther_27 rfl) <|
  XPr.cons (xs_get (T := TX5) rfl gX5 (Nat.le_of_ble_eq_true rfl) gw_730 dX5_firstOther_28) <|
  XPr.cons (xs_aload_n dX5_firstOther_31 rfl) <|
  XPr.cons (xs_get (T := TX5) rfl gX5 (Nat.le_of_ble_eq_true rfl) gw_766 dX5_firstOther_32) <|
  XPr.cons (xs_bipush dX5_firstOther_35 (by decide +kernel)) <|
  XPr.cons (xs_iload_n dX5_firstOther_37 rfl) <|
  XPr.cons (xs_imul dX5_firstOther_38) <|
  XPr.cons (xs_iload_n dX5_firstOther_39 rfl) <|
  XPr.cons (xs_iadd dX5_firstOther_40) <|
  XPr.cons (xs_iald dX5_firstOther_41) <|
  XPr.cons (xs_ic_ne dX5_firstOther_42 (by decide +kernel)) <|
  XPr.cons (xs_iconst dX5_firstOther_45 (by decide +kernel)) <|
  XPr.cons (xs_goto dX5_firstOther_46 (by decide +kernel)) <|
  XPr.cons (xs_iload_n dX5_firstOther_49 rfl) <|
  XPr.cons (xs_istore_n dX5_firstOther_50 rfl (Nat.le_of_ble_eq_true rfl)) <|
  XPr.cons (xs_iinc dX5_firstOther_51 (by decide +kernel) (Nat.le_of_ble_eq_true rfl)) <|
  XPr.cons (xs_goto dX5_firstOther_54 (by decide +kernel)) <|
  XPr.cons (xs_aload_n dX5_firstOther_57 rfl) <|
  XPr.cons (xs_callV (T := TX5) rfl gw_1079 gw_1081 gw_62 gw_77 gw_1082 (by decide +kernel) (Nat.le_of_ble_eq_true rfl) dX5_firstOther_58) <|
  XPr.cons (xs_iload_n dX5_firstOther_61 rfl) <|
  XPr.cons (xs_iret rfl dX5_firstOther_62) <|
  XPr.nil
def pX5_soundSet : List (Nat × XOp) := [(0, xo_ic 0 1), (1, xo_is 2 2), (2, xo_ic 0 3), (3, xo_is 3 4), (4, xo_il 3 5), (5, xo_ic 10 7), (7, xo_ic_ge 59 10), (10, xo_al 0 11), (11, xo_get 5 11 14), (14, xo_il 3 15), (15, xo_iald 16), (16, xo_is 4 18), (18, xo_al 0 19), (19, xo_get 5 11 22), (22, xo_il 3 23), (23, xo_ic 99 25), (25, xo_iast 26), (26, xo_il 2 27), (27, xo_al 0 28), (28, xo_il 1 29), (29, xo_callV yX5_firstOther cX5_firstOther 4 (some .int) 1 5 32), (32, xo_ic (-1) 33), (33, xo_ic_ne 40 36), (36, xo_ic 1 37), (37, xo_goto 41), (40, xo_ic 0 41), (41, xo_il 3 42), (42, xo_ishl 43), (43, xo_ior 44), (44, xo_is 2 45), (45, xo_al 0 46), (46, xo_get 5 11 49), (49, xo_il 3 50), (50, xo_il 4 52), (52, xo_iast 53), (53, xo_inc 3 1 56), (56, xo_goto 4), (59, xo_il 2 60), (60, xo_iret)]
theorem sX5_soundSet : XPr RX5 cX5_soundSet 5 (some .int) 10 pX5_soundSet :=
  XPr.cons (xs_iconst dX5_soundSet_0 (by decide +kernel)) <|
  XPr.cons (xs_istore_n dX5_soundSet_1 rfl (Nat.le_of_ble_eq_true rfl)) <|
  XPr.cons (xs_iconst dX5_soundSet_2 (by decide +kernel)) <|
  XPr.cons (xs_istore_n dX5_soundSet_3 rfl (Nat.le_of_ble_eq_true rfl)) <|
  XPr.cons (xs_iload_n dX5_soundSet_4 rfl) <|
  XPr.cons (xs_bipush dX5_soundSet_5 (by decide +kernel)) <|
  XPr.cons (xs_ic_ge dX5_soundSet_7 (by decide +kernel)) <|
  XPr.cons (xs_aload_n dX5_soundSet_10 rfl) <|
  XPr.cons (xs_get (T := TX5) rfl gX5 (Nat.le_of_ble_eq_true rfl) gw_732 dX5_soundSet_11) <|
  XPr.cons (xs_iload_n dX5_soundSet_14 rfl) <|
  XPr.cons (xs_iald dX5_soundSet_15) <|
  XPr.cons (xs_istore dX5_soundSet_16 (Nat.le_of_ble_eq_true rfl)) <|
  XPr.cons (xs_aload_n dX5_soundSet_18 rfl) <|
  XPr.cons (xs_get (T := TX5) rfl gX5 (Nat.le_of_ble_eq_true rfl) gw_732 dX5_soundSet_19) <|
  XPr.cons (xs_iload_n dX5_soundSet_22 rfl) <|
  XPr.cons (xs_bipush dX5_soundSet_23 (by decide +kernel)) <|
  XPr.cons (xs_iast dX5_soundSet_25) <|
  XPr.cons (xs_iload_n dX5_soundSet_26 rfl) <|
  XPr.cons (xs_aload_n dX5_soundSet_27 rfl) <|
  XPr.cons (xs_iload_n dX5_soundSet_28 rfl) <|
  XPr.cons (xs_callV (T := TX5) rfl gw_1137 gw_1139 gw_67 gw_77 gw_1140 (by decide +kernel) (Nat.le_of_ble_eq_true rfl) dX5_soundSet_29) <|
  XPr.cons (xs_iconst dX5_soundSet_32 (by decide +kernel)) <|
  XPr.cons (xs_ic_ne dX5_soundSet_33 (by decide +kernel)) <|
  XPr.cons (xs_iconst dX5_soundSet_36 (by decide +kernel)) <|
  XPr.cons (xs_goto dX5_soundSet_37 (by decide +kernel)) <|
  XPr.cons (xs_iconst dX5_soundSet_40 (by decide +kernel)) <|
  XPr.cons (xs_iload_n dX5_soundSet_41 rfl) <|
  XPr.cons (xs_ishl dX5_soundSet_42) <|
  XPr.cons (xs_ior dX5_soundSet_43) <|
  XPr.cons (xs_istore_n dX5_soundSet_44 rfl (Nat.le_of_ble_eq_true rfl)) <|
  XPr.cons (xs_aload_n dX5_soundSet_45 rfl) <|
  XPr.cons (xs_get (T := TX5) rfl gX5 (Nat.le_of_ble_eq_true rfl) gw_732 dX5_soundSet_46) <|
  XPr.cons (xs_iload_n dX5_soundSet_49 rfl) <|
  XPr.cons (xs_iload dX5_soundSet_50) <|
  XPr.cons (xs_iast dX5_soundSet_52) <|
  XPr.cons (xs_iinc dX5_soundSet_53 (by decide +kernel) (Nat.le_of_ble_eq_true rfl)) <|
  XPr.cons (xs_goto dX5_soundSet_56 (by decide +kernel)) <|
  XPr.cons (xs_iload_n dX5_soundSet_59 rfl) <|
  XPr.cons (xs_iret rfl dX5_soundSet_60) <|
  XPr.nil
def pX5_tells_0 : List (Nat × XOp) := [(0, xo_il 1 1), (1, xo_p1 f_isSheet 4), (4, xo_if_eq 27 7), (7, xo_al 0 8), (8, xo_il 2 9), (9, xo_callV yX5_isOne cX5_isOne 2 (some .boolean) 1 5 12), (12, xo_if_eq 27 15), (15, xo_il 3 16), (16, xo_i2l 17), (17, xo_lc 0 18), (18, xo_lc 8 21), (21, xo_q3 f_in 24), (24, xo_if_ne 30 27), (27, xo_ic (-2) 29), (29, xo_iret), (30, xo_al 0 31), (31, xo_get 5 42 34), (34, xo_il 1 35), (35, xo_zald 36), (36, xo_if_ne 42 39), (39, xo_ic (-11) 41), (41, xo_iret), (42, xo_al 0 43), (43, xo_get 5 44 46), (46, xo_il 1 47), (47, xo_iald 48), (48, xo_ic 20 50), (50, xo_ic_le 56 53), (53, xo_ic (-2) 55), (55, xo_iret), (56, xo_il 3 57), (57, xo_if_eq 66 60), (60, xo_il 3 61), (61, xo_ic 8 63), (63, xo_ic_ne 84 66), (66, xo_il 3 67), (67, xo_if_ne 78 70), (70, xo_al 0 71), (71, xo_il 1 72), (72, xo_callV yX5_firstOther cX5_firstOther 4 (some .int) 1 5 75)]
theorem sX5_tells_0 : XPr RX5 cX5_tells 11 (some .int) 10 pX5_tells_0 :=
  XPr.cons (xs_iload_n dX5_tells_0 rfl) <|
  XPr.cons (xs_p1 (xs_callS gw_1132 gw_1133 gw_77 gw_1134 (by decide +kernel) (Nat.le_of_ble_eq_true rfl) dX5_tells_1) c_X5_isSheet (Nat.le_of_ble_eq_true rfl)) <|
  XPr.cons (xs_if_eq dX5_tells_4 (by decide +kernel)) <|
  XPr.cons (xs_aload_n dX5_tells_7 rfl) <|
  XPr.cons (xs_iload_n dX5_tells_8 rfl) <|
  XPr.cons (xs_callV (T := TX5) rfl gw_877 gw_879 gw_29 gw_77 gw_880 (by decide +kernel) (Nat.le_of_ble_eq_true rfl) dX5_tells_9) <|
  XPr.cons (xs_if_eq dX5_tells_12 (by decide +kernel)) <|
  XPr.cons (xs_iload_n dX5_tells_15 rfl) <|
  XPr.cons (xs_i2l dX5_tells_16) <|
  XPr.cons (xs_lconst dX5_tells_17 (by decide +kernel)) <|
  XPr.cons (xs_ldc2 gw_1136 dX5_tells_18) <|
  XPr.cons (xs_q3 (xs_callS gw_866 gw_867 gw_77 gw_868 (by decide +kernel) (Nat.le_of_ble_eq_true rfl) dX5_tells_21) c_X5_in (Nat.le_of_ble_eq_true rfl)) <|
  XPr.cons (xs_if_ne dX5_tells_24 (by decide +kernel)) <|
  XPr.cons (xs_bipush dX5_tells_27 (by decide +kernel)) <|
  XPr.cons (xs_iret rfl dX5_tells_29) <|
  XPr.cons (xs_aload_n dX5_tells_30 rfl) <|
  XPr.cons (xs_get (T := TX5) rfl gX5 (Nat.le_of_ble_eq_true rfl) gw_763 dX5_tells_31) <|
  XPr.cons (xs_iload_n dX5_tells_34 rfl) <|
  XPr.cons (xs_zald dX5_tells_35) <|
  XPr.cons (xs_if_ne dX5_tells_36 (by decide +kernel)) <|
  XPr.cons (xs_bipush dX5_tells_39 (by decide +kernel)) <|
  XPr.cons (xs_iret rfl dX5_tells_41) <|
  XPr.cons (xs_aload_n dX5_tells_42 rfl) <|
  XPr.cons (xs_get (T := TX5) rfl gX5 (Nat.le_of_ble_eq_true rfl) gw_765 dX5_tells_43) <|
  XPr.cons (xs_iload_n dX5_tells_46 rfl) <|
  XPr.cons (xs_iald dX5_tells_47) <|
  XPr.cons (xs_bipush dX5_tells_48 (by decide +kernel)) <|
  XPr.cons (xs_ic_le dX5_tells_50 (by decide +kernel)) <|
  XPr.cons (xs_bipush dX5_tells_53 (by decide +kernel)) <|
  XPr.cons (xs_iret rfl dX5_tells_55) <|
  XPr.cons (xs_iload_n dX5_tells_56 rfl) <|
  XPr.cons (xs_if_eq dX5_tells_57 (by decide +kernel)) <|
  XPr.cons (xs_iload_n dX5_tells_60 rfl) <|
  XPr.cons (xs_bipush dX5_tells_61 (by decide +kernel)) <|
  XPr.cons (xs_ic_ne dX5_tells_63 (by decide +kernel)) <|
  XPr.cons (xs_iload_n dX5_tells_66 rfl) <|
  XPr.cons (xs_if_ne dX5_tells_67 (by decide +kernel)) <|
  XPr.cons (xs_aload_n dX5_tells_70 rfl) <|
  XPr.cons (xs_iload_n dX5_tells_71 rfl) <|
  XPr.cons (xs_callV (T := TX5) rfl gw_1137 gw_1139 gw_67 gw_77 gw_1140 (by decide +kernel) (Nat.le_of_ble_eq_true rfl) dX5_tells_72) <|
  XPr.nil
def pX5_tells_1 : List (Nat × XOp) := [(75, xo_goto 83), (78, xo_al 0 79), (79, xo_il 1 80), (80, xo_callV yX5_soundSet cX5_soundSet 5 (some .int) 1 5 83), (83, xo_iret), (84, xo_il 3 85), (85, xo_ic 1 86), (86, xo_ic_ne 94 89), (89, xo_ic 6 91), (91, xo_goto 124), (94, xo_il 3 95), (95, xo_ic 2 96), (96, xo_ic_ne 103 99), (99, xo_ic 4 100), (100, xo_goto 124), (103, xo_il 3 104), (104, xo_ic 5 105), (105, xo_ic_ge 112 108), (108, xo_ic 5 109), (109, xo_goto 124), (112, xo_il 3 113), (113, xo_ic 7 115), (115, xo_ic_ge 122 118), (118, xo_ic 1 119), (119, xo_goto 124), (122, xo_ic 7 124), (124, xo_is 4 126), (126, xo_il 4 128), (128, xo_ic 7 130), (130, xo_ic_ne 140 133), (133, xo_al 0 134), (134, xo_get 5 4 137), (137, xo_goto 147), (140, xo_al 0 141), (141, xo_il 2 142), (142, xo_il 4 144), (144, xo_callV yX5_told cX5_told 3 (some .int) 2 5 147), (147, xo_is 5 149), (149, xo_il 4 151), (151, xo_ic 7 153)]
theorem sX5_tells_1 : XPr RX5 cX5_tells 11 (some .int) 10 pX5_tells_1 :=
  XPr.cons (xs_goto dX5_tells_75 (by decide +kernel)) <|
  XPr.cons (xs_aload_n dX5_tells_78 rfl) <|
  XPr.cons (xs_iload_n dX5_tells_79 rfl) <|
  XPr.cons (xs_callV (T := TX5) rfl gw_1141 gw_1143 gw_68 gw_77 gw_1144 (by decide +kernel) (Nat.le_of_ble_eq_true rfl) dX5_tells_80) <|
  XPr.cons (xs_iret rfl dX5_tells_83) <|
  XPr.cons (xs_iload_n dX5_tells_84 rfl) <|
  XPr.cons (xs_iconst dX5_tells_85 (by decide +kernel)) <|
  XPr.cons (xs_ic_ne dX5_tells_86 (by decide +kernel)) <|
  XPr.cons (xs_bipush dX5_tells_89 (by decide +kernel)) <|
  XPr.cons (xs_goto dX5_tells_91 (by decide +kernel)) <|
  XPr.cons (xs_iload_n dX5_tells_94 rfl) <|
  XPr.cons (xs_iconst dX5_tells_95 (by decide +kernel)) <|
  XPr.cons (xs_ic_ne dX5_tells_96 (by decide +kernel)) <|
  XPr.cons (xs_iconst dX5_tells_99 (by decide +kernel)) <|
  XPr.cons (xs_goto dX5_tells_100 (by decide +kernel)) <|
  XPr.cons (xs_iload_n dX5_tells_103 rfl) <|
  XPr.cons (xs_iconst dX5_tells_104 (by decide +kernel)) <|
  XPr.cons (xs_ic_ge dX5_tells_105 (by decide +kernel)) <|
  XPr.cons (xs_iconst dX5_tells_108 (by decide +kernel)) <|
  XPr.cons (xs_goto dX5_tells_109 (by decide +kernel)) <|
  XPr.cons (xs_iload_n dX5_tells_112 rfl) <|
  XPr.cons (xs_bipush dX5_tells_113 (by decide +kernel)) <|
  XPr.cons (xs_ic_ge dX5_tells_115 (by decide +kernel)) <|
  XPr.cons (xs_iconst dX5_tells_118 (by decide +kernel)) <|
  XPr.cons (xs_goto dX5_tells_119 (by decide +kernel)) <|
  XPr.cons (xs_bipush dX5_tells_122 (by decide +kernel)) <|
  XPr.cons (xs_istore dX5_tells_124 (Nat.le_of_ble_eq_true rfl)) <|
  XPr.cons (xs_iload dX5_tells_126) <|
  XPr.cons (xs_bipush dX5_tells_128 (by decide +kernel)) <|
  XPr.cons (xs_ic_ne dX5_tells_130 (by decide +kernel)) <|
  XPr.cons (xs_aload_n dX5_tells_133 rfl) <|
  XPr.cons (xs_get (T := TX5) rfl gX5 (Nat.le_of_ble_eq_true rfl) gw_725 dX5_tells_134) <|
  XPr.cons (xs_goto dX5_tells_137 (by decide +kernel)) <|
  XPr.cons (xs_aload_n dX5_tells_140 rfl) <|
  XPr.cons (xs_iload_n dX5_tells_141 rfl) <|
  XPr.cons (xs_iload dX5_tells_142) <|
  XPr.cons (xs_callV (T := TX5) rfl gw_884 gw_885 gw_886 gw_77 gw_887 (by decide +kernel) (Nat.le_of_ble_eq_true rfl) dX5_tells_144) <|
  XPr.cons (xs_istore dX5_tells_147 (Nat.le_of_ble_eq_true rfl)) <|
  XPr.cons (xs_iload dX5_tells_149) <|
  XPr.cons (xs_bipush dX5_tells_151 (by decide +kernel)) <|
  XPr.nil
def pX5_tells_2 : List (Nat × XOp) := [(153, xo_ic_ne 165 156), (156, xo_al 0 157), (157, xo_get 5 3 160), (160, xo_ic 1 161), (161, xo_isub 162), (162, xo_goto 189), (165, xo_il 4 167), (167, xo_ic 6 169), (169, xo_ic_ne 176 172), (172, xo_ic 5 173), (173, xo_goto 189), (176, xo_il 4 178), (178, xo_ic 4 179), (179, xo_ic_ne 187 182), (182, xo_ic 9 184), (184, xo_goto 189), (187, xo_ic 99 189), (189, xo_is 6 191), (191, xo_ic 0 192), (192, xo_is 7 194), (194, xo_ic 0 195), (195, xo_is 8 197), (197, xo_ic (-1) 198), (198, xo_is 9 200), (200, xo_il 6 202), (202, xo_is 10 204), (204, xo_il 10 206), (206, xo_if_lt 260 209), (209, xo_al 0 210), (210, xo_il 4 212), (212, xo_il 2 213), (213, xo_il 10 215), (215, xo_callV yX5_lays cX5_lays 4 none 3 5 218), (218, xo_al 0 219), (219, xo_il 1 220), (220, xo_callV yX5_firstOther cX5_firstOther 4 (some .int) 1 5 223), (223, xo_ic (-1) 224), (224, xo_ic_ne 254 227), (227, xo_il 7 229), (229, xo_il 10 231)]
theorem sX5_tells_2 : XPr RX5 cX5_tells 11 (some .int) 10 pX5_tells_2 :=
  XPr.cons (xs_ic_ne dX5_tells_153 (by decide +kernel)) <|
  XPr.cons (xs_aload_n dX5_tells_156 rfl) <|
  XPr.cons (xs_get (T := TX5) rfl gX5 (Nat.le_of_ble_eq_true rfl) gw_724 dX5_tells_157) <|
  XPr.cons (xs_iconst dX5_tells_160 (by decide +kernel)) <|
  XPr.cons (xs_isub dX5_tells_161) <|
  XPr.cons (xs_goto dX5_tells_162 (by decide +kernel)) <|
  XPr.cons (xs_iload dX5_tells_165) <|
  XPr.cons (xs_bipush dX5_tells_167 (by decide +kernel)) <|
  XPr.cons (xs_ic_ne dX5_tells_169 (by decide +kernel)) <|
  XPr.cons (xs_iconst dX5_tells_172 (by decide +kernel)) <|
  XPr.cons (xs_goto dX5_tells_173 (by decide +kernel)) <|
  XPr.cons (xs_iload dX5_tells_176) <|
  XPr.cons (xs_iconst dX5_tells_178 (by decide +kernel)) <|
  XPr.cons (xs_ic_ne dX5_tells_179 (by decide +kernel)) <|
  XPr.cons (xs_bipush dX5_tells_182 (by decide +kernel)) <|
  XPr.cons (xs_goto dX5_tells_184 (by decide +kernel)) <|
  XPr.cons (xs_bipush dX5_tells_187 (by decide +kernel)) <|
  XPr.cons (xs_istore dX5_tells_189 (Nat.le_of_ble_eq_true rfl)) <|
  XPr.cons (xs_iconst dX5_tells_191 (by decide +kernel)) <|
  XPr.cons (xs_istore dX5_tells_192 (Nat.le_of_ble_eq_true rfl)) <|
  XPr.cons (xs_iconst dX5_tells_194 (by decide +kernel)) <|
  XPr.cons (xs_istore dX5_tells_195 (Nat.le_of_ble_eq_true rfl)) <|
  XPr.cons (xs_iconst dX5_tells_197 (by decide +kernel)) <|
  XPr.cons (xs_istore dX5_tells_198 (Nat.le_of_ble_eq_true rfl)) <|
  XPr.cons (xs_iload dX5_tells_200) <|
  XPr.cons (xs_istore dX5_tells_202 (Nat.le_of_ble_eq_true rfl)) <|
  XPr.cons (xs_iload dX5_tells_204) <|
  XPr.cons (xs_if_lt dX5_tells_206 (by decide +kernel)) <|
  XPr.cons (xs_aload_n dX5_tells_209 rfl) <|
  XPr.cons (xs_iload dX5_tells_210) <|
  XPr.cons (xs_iload_n dX5_tells_212 rfl) <|
  XPr.cons (xs_iload dX5_tells_213) <|
  XPr.cons (xs_callV (T := TX5) rfl gw_993 gw_995 gw_52 gw_77 gw_996 (by decide +kernel) (Nat.le_of_ble_eq_true rfl) dX5_tells_215) <|
  XPr.cons (xs_aload_n dX5_tells_218 rfl) <|
  XPr.cons (xs_iload_n dX5_tells_219 rfl) <|
  XPr.cons (xs_callV (T := TX5) rfl gw_1137 gw_1139 gw_67 gw_77 gw_1140 (by decide +kernel) (Nat.le_of_ble_eq_true rfl) dX5_tells_220) <|
  XPr.cons (xs_iconst dX5_tells_223 (by decide +kernel)) <|
  XPr.cons (xs_ic_ne dX5_tells_224 (by decide +kernel)) <|
  XPr.cons (xs_iload dX5_tells_227) <|
  XPr.cons (xs_iload dX5_tells_229) <|
  XPr.nil
def pX5_tells_3 : List (Nat × XOp) := [(231, xo_ic 10 233), (233, xo_ic_ge 243 236), (236, xo_ic 1 237), (237, xo_il 10 239), (239, xo_ishl 240), (240, xo_goto 244), (243, xo_ic 0 244), (244, xo_ior 245), (245, xo_is 7 247), (247, xo_inc 8 1 250), (250, xo_il 10 252), (252, xo_is 9 254), (254, xo_inc 10 (-1) 257), (257, xo_goto 204), (260, xo_al 0 261), (261, xo_il 4 263), (263, xo_il 2 264), (264, xo_il 5 266), (266, xo_callV yX5_lays cX5_lays 4 none 3 5 269), (269, xo_il 3 270), (270, xo_ic 3 271), (271, xo_ic_eq 279 274), (274, xo_il 3 275), (275, xo_ic 5 276), (276, xo_ic_ne 284 279), (279, xo_il 8 281), (281, xo_goto 302), (284, xo_il 3 285), (285, xo_ic 4 286), (286, xo_ic_eq 295 289), (289, xo_il 3 290), (290, xo_ic 6 292), (292, xo_ic_ne 300 295), (295, xo_il 9 297), (297, xo_goto 302), (300, xo_il 7 302), (302, xo_iret)]
theorem sX5_tells_3 : XPr RX5 cX5_tells 11 (some .int) 10 pX5_tells_3 :=
  XPr.cons (xs_bipush dX5_tells_231 (by decide +kernel)) <|
  XPr.cons (xs_ic_ge dX5_tells_233 (by decide +kernel)) <|
  XPr.cons (xs_iconst dX5_tells_236 (by decide +kernel)) <|
  XPr.cons (xs_iload dX5_tells_237) <|
  XPr.cons (xs_ishl dX5_tells_239) <|
  XPr.cons (xs_goto dX5_tells_240 (by decide +kernel)) <|
  XPr.cons (xs_iconst dX5_tells_243 (by decide +kernel)) <|
  XPr.cons (xs_ior dX5_tells_244) <|
  XPr.cons (xs_istore dX5_tells_245 (Nat.le_of_ble_eq_true rfl)) <|
  XPr.cons (xs_iinc dX5_tells_247 (by decide +kernel) (Nat.le_of_ble_eq_true rfl)) <|
  XPr.cons (xs_iload dX5_tells_250) <|
  XPr.cons (xs_istore dX5_tells_252 (Nat.le_of_ble_eq_true rfl)) <|
  XPr.cons (xs_iinc dX5_tells_254 (by decide +kernel) (Nat.le_of_ble_eq_true rfl)) <|
  XPr.cons (xs_goto dX5_tells_257 (by decide +kernel)) <|
  XPr.cons (xs_aload_n dX5_tells_260 rfl) <|
  XPr.cons (xs_iload dX5_tells_261) <|
  XPr.cons (xs_iload_n dX5_tells_263 rfl) <|
  XPr.cons (xs_iload dX5_tells_264) <|
  XPr.cons (xs_callV (T := TX5) rfl gw_993 gw_995 gw_52 gw_77 gw_996 (by decide +kernel) (Nat.le_of_ble_eq_true rfl) dX5_tells_266) <|
  XPr.cons (xs_iload_n dX5_tells_269 rfl) <|
  XPr.cons (xs_iconst dX5_tells_270 (by decide +kernel)) <|
  XPr.cons (xs_ic_eq dX5_tells_271 (by decide +kernel)) <|
  XPr.cons (xs_iload_n dX5_tells_274 rfl) <|
  XPr.cons (xs_iconst dX5_tells_275 (by decide +kernel)) <|
  XPr.cons (xs_ic_ne dX5_tells_276 (by decide +kernel)) <|
  XPr.cons (xs_iload dX5_tells_279) <|
  XPr.cons (xs_goto dX5_tells_281 (by decide +kernel)) <|
  XPr.cons (xs_iload_n dX5_tells_284 rfl) <|
  XPr.cons (xs_iconst dX5_tells_285 (by decide +kernel)) <|
  XPr.cons (xs_ic_eq dX5_tells_286 (by decide +kernel)) <|
  XPr.cons (xs_iload_n dX5_tells_289 rfl) <|
  XPr.cons (xs_bipush dX5_tells_290 (by decide +kernel)) <|
  XPr.cons (xs_ic_ne dX5_tells_292 (by decide +kernel)) <|
  XPr.cons (xs_iload dX5_tells_295) <|
  XPr.cons (xs_goto dX5_tells_297 (by decide +kernel)) <|
  XPr.cons (xs_iload dX5_tells_300) <|
  XPr.cons (xs_iret rfl dX5_tells_302) <|
  XPr.nil
def pX5_tells : List (Nat × XOp) := pX5_tells_0 ++ pX5_tells_1 ++ pX5_tells_2 ++ pX5_tells_3
theorem sX5_tells : XPr RX5 cX5_tells 11 (some .int) 10 pX5_tells := (((sX5_tells_0).app sX5_tells_1).app sX5_tells_2).app sX5_tells_3
def pX5_film_0 : List (Nat × XOp) := [(0, xo_il 1 1), (1, xo_p1 f_isSheet 4), (4, xo_if_eq 19 7), (7, xo_il 2 8), (8, xo_i2l 9), (9, xo_lc 0 10), (10, xo_lc 20 13), (13, xo_q3 f_in 16), (16, xo_if_ne 22 19), (19, xo_ic (-2) 21), (21, xo_iret), (22, xo_al 0 23), (23, xo_il 1 24), (24, xo_ic 0 25), (25, xo_il 2 26), (26, xo_callV yX5_sheet cX5_sheet 5 (some .int) 3 5 29), (29, xo_popI 30), (30, xo_al 0 31), (31, xo_callV yX5_laysAside cX5_laysAside 2 none 0 5 34), (34, xo_ic 0 35), (35, xo_is 3 36), (36, xo_il 3 37), (37, xo_il 2 38), (38, xo_ic_ge 66 41), (41, xo_al 0 42), (42, xo_callV yX5_passes cX5_passes 3 none 0 5 45), (45, xo_al 0 46), (46, xo_get 5 45 49), (49, xo_ic 40 51), (51, xo_il 1 52), (52, xo_imul 53), (53, xo_il 3 54), (54, xo_iadd 55), (55, xo_al 0 56), (56, xo_get 5 9 59), (59, xo_iast 60), (60, xo_inc 3 1 63), (63, xo_goto 36), (66, xo_al 0 67), (67, xo_callV yX5_laysBack cX5_laysBack 2 none 0 5 70)]
theorem sX5_film_0 : XPr RX5 cX5_film 4 (some .int) 10 pX5_film_0 :=
  XPr.cons (xs_iload_n dX5_film_0 rfl) <|
  XPr.cons (xs_p1 (xs_callS gw_1132 gw_1133 gw_77 gw_1134 (by decide +kernel) (Nat.le_of_ble_eq_true rfl) dX5_film_1) c_X5_isSheet (Nat.le_of_ble_eq_true rfl)) <|
  XPr.cons (xs_if_eq dX5_film_4 (by decide +kernel)) <|
  XPr.cons (xs_iload_n dX5_film_7 rfl) <|
  XPr.cons (xs_i2l dX5_film_8) <|
  XPr.cons (xs_lconst dX5_film_9 (by decide +kernel)) <|
  XPr.cons (xs_ldc2 gw_1091 dX5_film_10) <|
  XPr.cons (xs_q3 (xs_callS gw_866 gw_867 gw_77 gw_868 (by decide +kernel) (Nat.le_of_ble_eq_true rfl) dX5_film_13) c_X5_in (Nat.le_of_ble_eq_true rfl)) <|
  XPr.cons (xs_if_ne dX5_film_16 (by decide +kernel)) <|
  XPr.cons (xs_bipush dX5_film_19 (by decide +kernel)) <|
  XPr.cons (xs_iret rfl dX5_film_21) <|
  XPr.cons (xs_aload_n dX5_film_22 rfl) <|
  XPr.cons (xs_iload_n dX5_film_23 rfl) <|
  XPr.cons (xs_iconst dX5_film_24 (by decide +kernel)) <|
  XPr.cons (xs_iload_n dX5_film_25 rfl) <|
  XPr.cons (xs_callV (T := TX5) rfl gw_1149 gw_1150 gw_1151 gw_77 gw_1152 (by decide +kernel) (Nat.le_of_ble_eq_true rfl) dX5_film_26) <|
  XPr.cons (xs_popI dX5_film_29) <|
  XPr.cons (xs_aload_n dX5_film_30 rfl) <|
  XPr.cons (xs_callV (T := TX5) rfl gw_1071 gw_1073 gw_60 gw_77 gw_1074 (by decide +kernel) (Nat.le_of_ble_eq_true rfl) dX5_film_31) <|
  XPr.cons (xs_iconst dX5_film_34 (by decide +kernel)) <|
  XPr.cons (xs_istore_n dX5_film_35 rfl (Nat.le_of_ble_eq_true rfl)) <|
  XPr.cons (xs_iload_n dX5_film_36 rfl) <|
  XPr.cons (xs_iload_n dX5_film_37 rfl) <|
  XPr.cons (xs_ic_ge dX5_film_38 (by decide +kernel)) <|
  XPr.cons (xs_aload_n dX5_film_41 rfl) <|
  XPr.cons (xs_callV (T := TX5) rfl gw_1052 gw_1054 gw_57 gw_77 gw_1055 (by decide +kernel) (Nat.le_of_ble_eq_true rfl) dX5_film_42) <|
  XPr.cons (xs_aload_n dX5_film_45 rfl) <|
  XPr.cons (xs_get (T := TX5) rfl gX5 (Nat.le_of_ble_eq_true rfl) gw_766 dX5_film_46) <|
  XPr.cons (xs_bipush dX5_film_49 (by decide +kernel)) <|
  XPr.cons (xs_iload_n dX5_film_51 rfl) <|
  XPr.cons (xs_imul dX5_film_52) <|
  XPr.cons (xs_iload_n dX5_film_53 rfl) <|
  XPr.cons (xs_iadd dX5_film_54) <|
  XPr.cons (xs_aload_n dX5_film_55 rfl) <|
  XPr.cons (xs_get (T := TX5) rfl gX5 (Nat.le_of_ble_eq_true rfl) gw_730 dX5_film_56) <|
  XPr.cons (xs_iast dX5_film_59) <|
  XPr.cons (xs_iinc dX5_film_60 (by decide +kernel) (Nat.le_of_ble_eq_true rfl)) <|
  XPr.cons (xs_goto dX5_film_63 (by decide +kernel)) <|
  XPr.cons (xs_aload_n dX5_film_66 rfl) <|
  XPr.cons (xs_callV (T := TX5) rfl gw_1079 gw_1081 gw_62 gw_77 gw_1082 (by decide +kernel) (Nat.le_of_ble_eq_true rfl) dX5_film_67) <|
  XPr.nil
def pX5_film_1 : List (Nat × XOp) := [(70, xo_il 2 71), (71, xo_iret)]
theorem sX5_film_1 : XPr RX5 cX5_film 4 (some .int) 10 pX5_film_1 :=
  XPr.cons (xs_iload_n dX5_film_70 rfl) <|
  XPr.cons (xs_iret rfl dX5_film_71) <|
  XPr.nil
def pX5_film : List (Nat × XOp) := pX5_film_0 ++ pX5_film_1
theorem sX5_film : XPr RX5 cX5_film 4 (some .int) 10 pX5_film := (sX5_film_0).app sX5_film_1
def pX5_waterDrawn : List (Nat × XOp) := [(0, xo_al 0 1), (1, xo_callV yX5_laysAside cX5_laysAside 2 none 0 5 4), (4, xo_il 1 5), (5, xo_is 3 6), (6, xo_ic 0 7), (7, xo_is 4 9), (9, xo_il 4 11), (11, xo_il 2 12), (12, xo_ic_ge 46 15), (15, xo_il 3 16), (16, xo_ic 1103515245 19), (19, xo_imul 20), (20, xo_ic 12345 23), (23, xo_iadd 24), (24, xo_is 3 25), (25, xo_al 0 26), (26, xo_il 3 27), (27, xo_ic 9 29), (29, xo_iushr 30), (30, xo_ic 100 32), (32, xo_irem 33), (33, xo_putI 5 8 36), (36, xo_al 0 37), (37, xo_callV yX5_passes cX5_passes 3 none 0 5 40), (40, xo_inc 4 1 43), (43, xo_goto 9), (46, xo_al 0 47), (47, xo_get 5 9 50), (50, xo_is 4 52), (52, xo_al 0 53), (53, xo_callV yX5_laysBack cX5_laysBack 2 none 0 5 56), (56, xo_il 4 58), (58, xo_iret)]
theorem sX5_waterDrawn : XPr RX5 cX5_waterDrawn 5 (some .int) 10 pX5_waterDrawn :=
  XPr.cons (xs_aload_n dX5_waterDrawn_0 rfl) <|
  XPr.cons (xs_callV (T := TX5) rfl gw_1071 gw_1073 gw_60 gw_77 gw_1074 (by decide +kernel) (Nat.le_of_ble_eq_true rfl) dX5_waterDrawn_1) <|
  XPr.cons (xs_iload_n dX5_waterDrawn_4 rfl) <|
  XPr.cons (xs_istore_n dX5_waterDrawn_5 rfl (Nat.le_of_ble_eq_true rfl)) <|
  XPr.cons (xs_iconst dX5_waterDrawn_6 (by decide +kernel)) <|
  XPr.cons (xs_istore dX5_waterDrawn_7 (Nat.le_of_ble_eq_true rfl)) <|
  XPr.cons (xs_iload dX5_waterDrawn_9) <|
  XPr.cons (xs_iload_n dX5_waterDrawn_11 rfl) <|
  XPr.cons (xs_ic_ge dX5_waterDrawn_12 (by decide +kernel)) <|
  XPr.cons (xs_iload_n dX5_waterDrawn_15 rfl) <|
  XPr.cons (xs_ldc_w gw_1162 dX5_waterDrawn_16) <|
  XPr.cons (xs_imul dX5_waterDrawn_19) <|
  XPr.cons (xs_sipush dX5_waterDrawn_20 (by decide +kernel)) <|
  XPr.cons (xs_iadd dX5_waterDrawn_23) <|
  XPr.cons (xs_istore_n dX5_waterDrawn_24 rfl (Nat.le_of_ble_eq_true rfl)) <|
  XPr.cons (xs_aload_n dX5_waterDrawn_25 rfl) <|
  XPr.cons (xs_iload_n dX5_waterDrawn_26 rfl) <|
  XPr.cons (xs_bipush dX5_waterDrawn_27 (by decide +kernel)) <|
  XPr.cons (xs_iushr dX5_waterDrawn_29) <|
  XPr.cons (xs_bipush dX5_waterDrawn_30 (by decide +kernel)) <|
  XPr.cons (xs_irem dX5_waterDrawn_32) <|
  XPr.cons (xs_putI (T := TX5) rfl gX5 tyX5_ok nmX5 (Nat.le_of_ble_eq_true rfl) gw_729 rfl (by decide +kernel) dX5_waterDrawn_33) <|
  XPr.cons (xs_aload_n dX5_waterDrawn_36 rfl) <|
  XPr.cons (xs_callV (T := TX5) rfl gw_1052 gw_1054 gw_57 gw_77 gw_1055 (by decide +kernel) (Nat.le_of_ble_eq_true rfl) dX5_waterDrawn_37) <|
  XPr.cons (xs_iinc dX5_waterDrawn_40 (by decide +kernel) (Nat.le_of_ble_eq_true rfl)) <|
  XPr.cons (xs_goto dX5_waterDrawn_43 (by decide +kernel)) <|
  XPr.cons (xs_aload_n dX5_waterDrawn_46 rfl) <|
  XPr.cons (xs_get (T := TX5) rfl gX5 (Nat.le_of_ble_eq_true rfl) gw_730 dX5_waterDrawn_47) <|
  XPr.cons (xs_istore dX5_waterDrawn_50 (Nat.le_of_ble_eq_true rfl)) <|
  XPr.cons (xs_aload_n dX5_waterDrawn_52 rfl) <|
  XPr.cons (xs_callV (T := TX5) rfl gw_1079 gw_1081 gw_62 gw_77 gw_1082 (by decide +kernel) (Nat.le_of_ble_eq_true rfl) dX5_waterDrawn_53) <|
  XPr.cons (xs_iload dX5_waterDrawn_56) <|
  XPr.cons (xs_iret rfl dX5_waterDrawn_58) <|
  XPr.nil
def pX5_drawn : List (Nat × XOp) := [(0, xo_il 2 1), (1, xo_i2l 2), (2, xo_lc 0 3), (3, xo_lc 40 6), (6, xo_q3 f_in 9), (9, xo_if_eq 21 12), (12, xo_al 0 13), (13, xo_il 1 14), (14, xo_il 2 15), (15, xo_callV yX5_waterDrawn cX5_waterDrawn 5 (some .int) 2 5 18), (18, xo_goto 23), (21, xo_ic (-2) 23), (23, xo_iret)]
theorem sX5_drawn : XPr RX5 cX5_drawn 3 (some .int) 10 pX5_drawn :=
  XPr.cons (xs_iload_n dX5_drawn_0 rfl) <|
  XPr.cons (xs_i2l dX5_drawn_1) <|
  XPr.cons (xs_lconst dX5_drawn_2 (by decide +kernel)) <|
  XPr.cons (xs_ldc2 gw_1068 dX5_drawn_3) <|
  XPr.cons (xs_q3 (xs_callS gw_866 gw_867 gw_77 gw_868 (by decide +kernel) (Nat.le_of_ble_eq_true rfl) dX5_drawn_6) c_X5_in (Nat.le_of_ble_eq_true rfl)) <|
  XPr.cons (xs_if_eq dX5_drawn_9 (by decide +kernel)) <|
  XPr.cons (xs_aload_n dX5_drawn_12 rfl) <|
  XPr.cons (xs_iload_n dX5_drawn_13 rfl) <|
  XPr.cons (xs_iload_n dX5_drawn_14 rfl) <|
  XPr.cons (xs_callV (T := TX5) rfl gw_1158 gw_1160 gw_69 gw_77 gw_1161 (by decide +kernel) (Nat.le_of_ble_eq_true rfl) dX5_drawn_15) <|
  XPr.cons (xs_goto dX5_drawn_18 (by decide +kernel)) <|
  XPr.cons (xs_bipush dX5_drawn_21 (by decide +kernel)) <|
  XPr.cons (xs_iret rfl dX5_drawn_23) <|
  XPr.nil
def pX5_chance_0 : List (Nat × XOp) := [(0, xo_il 2 1), (1, xo_i2l 2), (2, xo_lc 1 3), (3, xo_lc 20 6), (6, xo_q3 f_in 9), (9, xo_if_eq 22 12), (12, xo_il 3 13), (13, xo_i2l 14), (14, xo_lc 0 15), (15, xo_lc 1 16), (16, xo_q3 f_in 19), (19, xo_if_ne 26 22), (22, xo_lc (-4611686018427387904) 25), (25, xo_lret), (26, xo_lc 0 27), (27, xo_ls 4 29), (29, xo_ic 0 30), (30, xo_is 6 32), (32, xo_il 6 34), (34, xo_il 2 35), (35, xo_ic_ge 69 38), (38, xo_ll 4 40), (40, xo_al 0 41), (41, xo_il 1 42), (42, xo_il 6 44), (44, xo_iadd 45), (45, xo_ic 10 47), (47, xo_callV yX5_waterDrawn cX5_waterDrawn 5 (some .int) 2 5 50), (50, xo_ic 100 52), (52, xo_ic_ne 59 55), (55, xo_lc 1 56), (56, xo_goto 60), (59, xo_lc 0 60), (60, xo_ladd 61), (61, xo_ls 4 63), (63, xo_inc 6 1 66), (66, xo_goto 32), (69, xo_ll 4 71), (71, xo_il 2 72), (72, xo_i2l 73)]
theorem sX5_chance_0 : XPr RX5 cX5_chance 7 (some .long) 10 pX5_chance_0 :=
  XPr.cons (xs_iload_n dX5_chance_0 rfl) <|
  XPr.cons (xs_i2l dX5_chance_1) <|
  XPr.cons (xs_lconst dX5_chance_2 (by decide +kernel)) <|
  XPr.cons (xs_ldc2 gw_1091 dX5_chance_3) <|
  XPr.cons (xs_q3 (xs_callS gw_866 gw_867 gw_77 gw_868 (by decide +kernel) (Nat.le_of_ble_eq_true rfl) dX5_chance_6) c_X5_in (Nat.le_of_ble_eq_true rfl)) <|
  XPr.cons (xs_if_eq dX5_chance_9 (by decide +kernel)) <|
  XPr.cons (xs_iload_n dX5_chance_12 rfl) <|
  XPr.cons (xs_i2l dX5_chance_13) <|
  XPr.cons (xs_lconst dX5_chance_14 (by decide +kernel)) <|
  XPr.cons (xs_lconst dX5_chance_15 (by decide +kernel)) <|
  XPr.cons (xs_q3 (xs_callS gw_866 gw_867 gw_77 gw_868 (by decide +kernel) (Nat.le_of_ble_eq_true rfl) dX5_chance_16) c_X5_in (Nat.le_of_ble_eq_true rfl)) <|
  XPr.cons (xs_if_ne dX5_chance_19 (by decide +kernel)) <|
  XPr.cons (xs_ldc2 gw_1127 dX5_chance_22) <|
  XPr.cons (xs_lret rfl dX5_chance_25) <|
  XPr.cons (xs_lconst dX5_chance_26 (by decide +kernel)) <|
  XPr.cons (xs_lstore dX5_chance_27 (Nat.le_of_ble_eq_true rfl)) <|
  XPr.cons (xs_iconst dX5_chance_29 (by decide +kernel)) <|
  XPr.cons (xs_istore dX5_chance_30 (Nat.le_of_ble_eq_true rfl)) <|
  XPr.cons (xs_iload dX5_chance_32) <|
  XPr.cons (xs_iload_n dX5_chance_34 rfl) <|
  XPr.cons (xs_ic_ge dX5_chance_35 (by decide +kernel)) <|
  XPr.cons (xs_lload dX5_chance_38) <|
  XPr.cons (xs_aload_n dX5_chance_40 rfl) <|
  XPr.cons (xs_iload_n dX5_chance_41 rfl) <|
  XPr.cons (xs_iload dX5_chance_42) <|
  XPr.cons (xs_iadd dX5_chance_44) <|
  XPr.cons (xs_bipush dX5_chance_45 (by decide +kernel)) <|
  XPr.cons (xs_callV (T := TX5) rfl gw_1158 gw_1160 gw_69 gw_77 gw_1161 (by decide +kernel) (Nat.le_of_ble_eq_true rfl) dX5_chance_47) <|
  XPr.cons (xs_bipush dX5_chance_50 (by decide +kernel)) <|
  XPr.cons (xs_ic_ne dX5_chance_52 (by decide +kernel)) <|
  XPr.cons (xs_lconst dX5_chance_55 (by decide +kernel)) <|
  XPr.cons (xs_goto dX5_chance_56 (by decide +kernel)) <|
  XPr.cons (xs_lconst dX5_chance_59 (by decide +kernel)) <|
  XPr.cons (xs_ladd dX5_chance_60) <|
  XPr.cons (xs_lstore dX5_chance_61 (Nat.le_of_ble_eq_true rfl)) <|
  XPr.cons (xs_iinc dX5_chance_63 (by decide +kernel) (Nat.le_of_ble_eq_true rfl)) <|
  XPr.cons (xs_goto dX5_chance_66 (by decide +kernel)) <|
  XPr.cons (xs_lload dX5_chance_69) <|
  XPr.cons (xs_iload_n dX5_chance_71 rfl) <|
  XPr.cons (xs_i2l dX5_chance_72) <|
  XPr.nil
def pX5_chance_1 : List (Nat × XOp) := [(73, xo_il 3 74), (74, xo_callS yX5_lowest cX5_lowest 11 (some .long) 3 77), (77, xo_lret)]
theorem sX5_chance_1 : XPr RX5 cX5_chance 7 (some .long) 10 pX5_chance_1 :=
  XPr.cons (xs_iload_n dX5_chance_73 rfl) <|
  XPr.cons (xs_callS gw_1124 gw_1125 gw_77 gw_1126 (by decide +kernel) (Nat.le_of_ble_eq_true rfl) dX5_chance_74) <|
  XPr.cons (xs_lret rfl dX5_chance_77) <|
  XPr.nil
def pX5_chance : List (Nat × XOp) := pX5_chance_0 ++ pX5_chance_1
theorem sX5_chance : XPr RX5 cX5_chance 7 (some .long) 10 pX5_chance := (sX5_chance_0).app sX5_chance_1
def pX5_image_0 : List (Nat × XOp) := [(0, xo_ic 0 1), (1, xo_is 1 2), (2, xo_il 1 3), (3, xo_ic 20 5), (5, xo_ic_ge 26 8), (8, xo_al 0 9), (9, xo_get 5 34 12), (12, xo_il 1 13), (13, xo_al 0 14), (14, xo_get 5 12 17), (17, xo_il 1 18), (18, xo_iald 19), (19, xo_iast 20), (20, xo_inc 1 1 23), (23, xo_goto 2), (26, xo_ic 0 27), (27, xo_is 1 28), (28, xo_il 1 29), (29, xo_ic 10 31), (31, xo_ic_ge 64 34), (34, xo_al 0 35), (35, xo_get 5 35 38), (38, xo_il 1 39), (39, xo_al 0 40), (40, xo_get 5 10 43), (43, xo_il 1 44), (44, xo_iald 45), (45, xo_iast 46), (46, xo_al 0 47), (47, xo_get 5 36 50), (50, xo_il 1 51), (51, xo_al 0 52), (52, xo_get 5 11 55), (55, xo_il 1 56), (56, xo_iald 57), (57, xo_iast 58), (58, xo_inc 1 1 61), (61, xo_goto 28), (64, xo_al 0 65), (65, xo_al 0 66)]
theorem sX5_image_0 : XPr RX5 cX5_image 2 (some .int) 10 pX5_image_0 :=
  XPr.cons (xs_iconst dX5_image_0 (by decide +kernel)) <|
  XPr.cons (xs_istore_n dX5_image_1 rfl (Nat.le_of_ble_eq_true rfl)) <|
  XPr.cons (xs_iload_n dX5_image_2 rfl) <|
  XPr.cons (xs_bipush dX5_image_3 (by decide +kernel)) <|
  XPr.cons (xs_ic_ge dX5_image_5 (by decide +kernel)) <|
  XPr.cons (xs_aload_n dX5_image_8 rfl) <|
  XPr.cons (xs_get (T := TX5) rfl gX5 (Nat.le_of_ble_eq_true rfl) gw_755 dX5_image_9) <|
  XPr.cons (xs_iload_n dX5_image_12 rfl) <|
  XPr.cons (xs_aload_n dX5_image_13 rfl) <|
  XPr.cons (xs_get (T := TX5) rfl gX5 (Nat.le_of_ble_eq_true rfl) gw_733 dX5_image_14) <|
  XPr.cons (xs_iload_n dX5_image_17 rfl) <|
  XPr.cons (xs_iald dX5_image_18) <|
  XPr.cons (xs_iast dX5_image_19) <|
  XPr.cons (xs_iinc dX5_image_20 (by decide +kernel) (Nat.le_of_ble_eq_true rfl)) <|
  XPr.cons (xs_goto dX5_image_23 (by decide +kernel)) <|
  XPr.cons (xs_iconst dX5_image_26 (by decide +kernel)) <|
  XPr.cons (xs_istore_n dX5_image_27 rfl (Nat.le_of_ble_eq_true rfl)) <|
  XPr.cons (xs_iload_n dX5_image_28 rfl) <|
  XPr.cons (xs_bipush dX5_image_29 (by decide +kernel)) <|
  XPr.cons (xs_ic_ge dX5_image_31 (by decide +kernel)) <|
  XPr.cons (xs_aload_n dX5_image_34 rfl) <|
  XPr.cons (xs_get (T := TX5) rfl gX5 (Nat.le_of_ble_eq_true rfl) gw_756 dX5_image_35) <|
  XPr.cons (xs_iload_n dX5_image_38 rfl) <|
  XPr.cons (xs_aload_n dX5_image_39 rfl) <|
  XPr.cons (xs_get (T := TX5) rfl gX5 (Nat.le_of_ble_eq_true rfl) gw_731 dX5_image_40) <|
  XPr.cons (xs_iload_n dX5_image_43 rfl) <|
  XPr.cons (xs_iald dX5_image_44) <|
  XPr.cons (xs_iast dX5_image_45) <|
  XPr.cons (xs_aload_n dX5_image_46 rfl) <|
  XPr.cons (xs_get (T := TX5) rfl gX5 (Nat.le_of_ble_eq_true rfl) gw_757 dX5_image_47) <|
  XPr.cons (xs_iload_n dX5_image_50 rfl) <|
  XPr.cons (xs_aload_n dX5_image_51 rfl) <|
  XPr.cons (xs_get (T := TX5) rfl gX5 (Nat.le_of_ble_eq_true rfl) gw_732 dX5_image_52) <|
  XPr.cons (xs_iload_n dX5_image_55 rfl) <|
  XPr.cons (xs_iald dX5_image_56) <|
  XPr.cons (xs_iast dX5_image_57) <|
  XPr.cons (xs_iinc dX5_image_58 (by decide +kernel) (Nat.le_of_ble_eq_true rfl)) <|
  XPr.cons (xs_goto dX5_image_61 (by decide +kernel)) <|
  XPr.cons (xs_aload_n dX5_image_64 rfl) <|
  XPr.cons (xs_aload_n dX5_image_65 rfl) <|
  XPr.nil
def pX5_image_1 : List (Nat × XOp) := [(66, xo_get 5 13 69), (69, xo_putI 5 37 72), (72, xo_al 0 73), (73, xo_al 0 74), (74, xo_get 5 7 77), (77, xo_putI 5 38 80), (80, xo_al 0 81), (81, xo_al 0 82), (82, xo_get 5 8 85), (85, xo_putI 5 39 88), (88, xo_al 0 89), (89, xo_al 0 90), (90, xo_get 5 9 93), (93, xo_putI 5 40 96), (96, xo_al 0 97), (97, xo_al 0 98), (98, xo_get 5 4 101), (101, xo_putI 5 41 104), (104, xo_al 0 105), (105, xo_get 5 13 108), (108, xo_iret)]
theorem sX5_image_1 : XPr RX5 cX5_image 2 (some .int) 10 pX5_image_1 :=
  XPr.cons (xs_get (T := TX5) rfl gX5 (Nat.le_of_ble_eq_true rfl) gw_734 dX5_image_66) <|
  XPr.cons (xs_putI (T := TX5) rfl gX5 tyX5_ok nmX5 (Nat.le_of_ble_eq_true rfl) gw_758 rfl (by decide +kernel) dX5_image_69) <|
  XPr.cons (xs_aload_n dX5_image_72 rfl) <|
  XPr.cons (xs_aload_n dX5_image_73 rfl) <|
  XPr.cons (xs_get (T := TX5) rfl gX5 (Nat.le_of_ble_eq_true rfl) gw_728 dX5_image_74) <|
  XPr.cons (xs_putI (T := TX5) rfl gX5 tyX5_ok nmX5 (Nat.le_of_ble_eq_true rfl) gw_759 rfl (by decide +kernel) dX5_image_77) <|
  XPr.cons (xs_aload_n dX5_image_80 rfl) <|
  XPr.cons (xs_aload_n dX5_image_81 rfl) <|
  XPr.cons (xs_get (T := TX5) rfl gX5 (Nat.le_of_ble_eq_true rfl) gw_729 dX5_image_82) <|
  XPr.cons (xs_putI (T := TX5) rfl gX5 tyX5_ok nmX5 (Nat.le_of_ble_eq_true rfl) gw_760 rfl (by decide +kernel) dX5_image_85) <|
  XPr.cons (xs_aload_n dX5_image_88 rfl) <|
  XPr.cons (xs_aload_n dX5_image_89 rfl) <|
  XPr.cons (xs_get (T := TX5) rfl gX5 (Nat.le_of_ble_eq_true rfl) gw_730 dX5_image_90) <|
  XPr.cons (xs_putI (T := TX5) rfl gX5 tyX5_ok nmX5 (Nat.le_of_ble_eq_true rfl) gw_761 rfl (by decide +kernel) dX5_image_93) <|
  XPr.cons (xs_aload_n dX5_image_96 rfl) <|
  XPr.cons (xs_aload_n dX5_image_97 rfl) <|
  XPr.cons (xs_get (T := TX5) rfl gX5 (Nat.le_of_ble_eq_true rfl) gw_725 dX5_image_98) <|
  XPr.cons (xs_putI (T := TX5) rfl gX5 tyX5_ok nmX5 (Nat.le_of_ble_eq_true rfl) gw_762 rfl (by decide +kernel) dX5_image_101) <|
  XPr.cons (xs_aload_n dX5_image_104 rfl) <|
  XPr.cons (xs_get (T := TX5) rfl gX5 (Nat.le_of_ble_eq_true rfl) gw_734 dX5_image_105) <|
  XPr.cons (xs_iret rfl dX5_image_108) <|
  XPr.nil
def pX5_image : List (Nat × XOp) := pX5_image_0 ++ pX5_image_1
theorem sX5_image : XPr RX5 cX5_image 2 (some .int) 10 pX5_image := (sX5_image_0).app sX5_image_1
def pX5_back_0 : List (Nat × XOp) := [(0, xo_al 0 1), (1, xo_get 5 37 4), (4, xo_ic (-1) 5), (5, xo_ic_ne 11 8), (8, xo_ic (-3) 10), (10, xo_iret), (11, xo_ic 0 12), (12, xo_is 1 13), (13, xo_il 1 14), (14, xo_ic 20 16), (16, xo_ic_ge 37 19), (19, xo_al 0 20), (20, xo_get 5 12 23), (23, xo_il 1 24), (24, xo_al 0 25), (25, xo_get 5 34 28), (28, xo_il 1 29), (29, xo_iald 30), (30, xo_iast 31), (31, xo_inc 1 1 34), (34, xo_goto 13), (37, xo_ic 0 38), (38, xo_is 1 39), (39, xo_il 1 40), (40, xo_ic 10 42), (42, xo_ic_ge 75 45), (45, xo_al 0 46), (46, xo_get 5 10 49), (49, xo_il 1 50), (50, xo_al 0 51), (51, xo_get 5 35 54), (54, xo_il 1 55), (55, xo_iald 56), (56, xo_iast 57), (57, xo_al 0 58), (58, xo_get 5 11 61), (61, xo_il 1 62), (62, xo_al 0 63), (63, xo_get 5 36 66), (66, xo_il 1 67)]
theorem sX5_back_0 : XPr RX5 cX5_back 2 (some .int) 10 pX5_back_0 :=
  XPr.cons (xs_aload_n dX5_back_0 rfl) <|
  XPr.cons (xs_get (T := TX5) rfl gX5 (Nat.le_of_ble_eq_true rfl) gw_758 dX5_back_1) <|
  XPr.cons (xs_iconst dX5_back_4 (by decide +kernel)) <|
  XPr.cons (xs_ic_ne dX5_back_5 (by decide +kernel)) <|
  XPr.cons (xs_bipush dX5_back_8 (by decide +kernel)) <|
  XPr.cons (xs_iret rfl dX5_back_10) <|
  XPr.cons (xs_iconst dX5_back_11 (by decide +kernel)) <|
  XPr.cons (xs_istore_n dX5_back_12 rfl (Nat.le_of_ble_eq_true rfl)) <|
  XPr.cons (xs_iload_n dX5_back_13 rfl) <|
  XPr.cons (xs_bipush dX5_back_14 (by decide +kernel)) <|
  XPr.cons (xs_ic_ge dX5_back_16 (by decide +kernel)) <|
  XPr.cons (xs_aload_n dX5_back_19 rfl) <|
  XPr.cons (xs_get (T := TX5) rfl gX5 (Nat.le_of_ble_eq_true rfl) gw_733 dX5_back_20) <|
  XPr.cons (xs_iload_n dX5_back_23 rfl) <|
  XPr.cons (xs_aload_n dX5_back_24 rfl) <|
  XPr.cons (xs_get (T := TX5) rfl gX5 (Nat.le_of_ble_eq_true rfl) gw_755 dX5_back_25) <|
  XPr.cons (xs_iload_n dX5_back_28 rfl) <|
  XPr.cons (xs_iald dX5_back_29) <|
  XPr.cons (xs_iast dX5_back_30) <|
  XPr.cons (xs_iinc dX5_back_31 (by decide +kernel) (Nat.le_of_ble_eq_true rfl)) <|
  XPr.cons (xs_goto dX5_back_34 (by decide +kernel)) <|
  XPr.cons (xs_iconst dX5_back_37 (by decide +kernel)) <|
  XPr.cons (xs_istore_n dX5_back_38 rfl (Nat.le_of_ble_eq_true rfl)) <|
  XPr.cons (xs_iload_n dX5_back_39 rfl) <|
  XPr.cons (xs_bipush dX5_back_40 (by decide +kernel)) <|
  XPr.cons (xs_ic_ge dX5_back_42 (by decide +kernel)) <|
  XPr.cons (xs_aload_n dX5_back_45 rfl) <|
  XPr.cons (xs_get (T := TX5) rfl gX5 (Nat.le_of_ble_eq_true rfl) gw_731 dX5_back_46) <|
  XPr.cons (xs_iload_n dX5_back_49 rfl) <|
  XPr.cons (xs_aload_n dX5_back_50 rfl) <|
  XPr.cons (xs_get (T := TX5) rfl gX5 (Nat.le_of_ble_eq_true rfl) gw_756 dX5_back_51) <|
  XPr.cons (xs_iload_n dX5_back_54 rfl) <|
  XPr.cons (xs_iald dX5_back_55) <|
  XPr.cons (xs_iast dX5_back_56) <|
  XPr.cons (xs_aload_n dX5_back_57 rfl) <|
  XPr.cons (xs_get (T := TX5) rfl gX5 (Nat.le_of_ble_eq_true rfl) gw_732 dX5_back_58) <|
  XPr.cons (xs_iload_n dX5_back_61 rfl) <|
  XPr.cons (xs_aload_n dX5_back_62 rfl) <|
  XPr.cons (xs_get (T := TX5) rfl gX5 (Nat.le_of_ble_eq_true rfl) gw_757 dX5_back_63) <|
  XPr.cons (xs_iload_n dX5_back_66 rfl) <|
  XPr.nil
def pX5_back_1 : List (Nat × XOp) := [(67, xo_iald 68), (68, xo_iast 69), (69, xo_inc 1 1 72), (72, xo_goto 39), (75, xo_al 0 76), (76, xo_al 0 77), (77, xo_get 5 37 80), (80, xo_putI 5 13 83), (83, xo_al 0 84), (84, xo_al 0 85), (85, xo_get 5 38 88), (88, xo_putI 5 7 91), (91, xo_al 0 92), (92, xo_al 0 93), (93, xo_get 5 39 96), (96, xo_putI 5 8 99), (99, xo_al 0 100), (100, xo_al 0 101), (101, xo_get 5 40 104), (104, xo_putI 5 9 107), (107, xo_al 0 108), (108, xo_al 0 109), (109, xo_get 5 41 112), (112, xo_putI 5 4 115), (115, xo_al 0 116), (116, xo_get 5 13 119), (119, xo_iret)]
theorem sX5_back_1 : XPr RX5 cX5_back 2 (some .int) 10 pX5_back_1 :=
  XPr.cons (xs_iald dX5_back_67) <|
  XPr.cons (xs_iast dX5_back_68) <|
  XPr.cons (xs_iinc dX5_back_69 (by decide +kernel) (Nat.le_of_ble_eq_true rfl)) <|
  XPr.cons (xs_goto dX5_back_72 (by decide +kernel)) <|
  XPr.cons (xs_aload_n dX5_back_75 rfl) <|
  XPr.cons (xs_aload_n dX5_back_76 rfl) <|
  XPr.cons (xs_get (T := TX5) rfl gX5 (Nat.le_of_ble_eq_true rfl) gw_758 dX5_back_77) <|
  XPr.cons (xs_putI (T := TX5) rfl gX5 tyX5_ok nmX5 (Nat.le_of_ble_eq_true rfl) gw_734 rfl (by decide +kernel) dX5_back_80) <|
  XPr.cons (xs_aload_n dX5_back_83 rfl) <|
  XPr.cons (xs_aload_n dX5_back_84 rfl) <|
  XPr.cons (xs_get (T := TX5) rfl gX5 (Nat.le_of_ble_eq_true rfl) gw_759 dX5_back_85) <|
  XPr.cons (xs_putI (T := TX5) rfl gX5 tyX5_ok nmX5 (Nat.le_of_ble_eq_true rfl) gw_728 rfl (by decide +kernel) dX5_back_88) <|
  XPr.cons (xs_aload_n dX5_back_91 rfl) <|
  XPr.cons (xs_aload_n dX5_back_92 rfl) <|
  XPr.cons (xs_get (T := TX5) rfl gX5 (Nat.le_of_ble_eq_true rfl) gw_760 dX5_back_93) <|
  XPr.cons (xs_putI (T := TX5) rfl gX5 tyX5_ok nmX5 (Nat.le_of_ble_eq_true rfl) gw_729 rfl (by decide +kernel) dX5_back_96) <|
  XPr.cons (xs_aload_n dX5_back_99 rfl) <|
  XPr.cons (xs_aload_n dX5_back_100 rfl) <|
  XPr.cons (xs_get (T := TX5) rfl gX5 (Nat.le_of_ble_eq_true rfl) gw_761 dX5_back_101) <|
  XPr.cons (xs_putI (T := TX5) rfl gX5 tyX5_ok nmX5 (Nat.le_of_ble_eq_true rfl) gw_730 rfl (by decide +kernel) dX5_back_104) <|
  XPr.cons (xs_aload_n dX5_back_107 rfl) <|
  XPr.cons (xs_aload_n dX5_back_108 rfl) <|
  XPr.cons (xs_get (T := TX5) rfl gX5 (Nat.le_of_ble_eq_true rfl) gw_762 dX5_back_109) <|
  XPr.cons (xs_putI (T := TX5) rfl gX5 tyX5_ok nmX5 (Nat.le_of_ble_eq_true rfl) gw_725 rfl (by decide +kernel) dX5_back_112) <|
  XPr.cons (xs_aload_n dX5_back_115 rfl) <|
  XPr.cons (xs_get (T := TX5) rfl gX5 (Nat.le_of_ble_eq_true rfl) gw_734 dX5_back_116) <|
  XPr.cons (xs_iret rfl dX5_back_119) <|
  XPr.nil
def pX5_back : List (Nat × XOp) := pX5_back_0 ++ pX5_back_1
theorem sX5_back : XPr RX5 cX5_back 2 (some .int) 10 pX5_back := (sX5_back_0).app sX5_back_1
def pX5_madeMany : List (Nat × XOp) := [(0, xo_ic 0 1), (1, xo_is 1 2), (2, xo_ic 0 3), (3, xo_is 2 4), (4, xo_il 2 5), (5, xo_ic 10 7), (7, xo_ic_ge 34 10), (10, xo_il 1 11), (11, xo_al 0 12), (12, xo_get 5 10 15), (15, xo_il 2 16), (16, xo_iald 17), (17, xo_ic (-1) 18), (18, xo_ic_ne 25 21), (21, xo_ic 0 22), (22, xo_goto 26), (25, xo_ic 1 26), (26, xo_iadd 27), (27, xo_is 1 28), (28, xo_inc 2 1 31), (31, xo_goto 4), (34, xo_il 1 35), (35, xo_iret)]
theorem sX5_madeMany : XPr RX5 cX5_madeMany 3 (some .int) 10 pX5_madeMany :=
  XPr.cons (xs_iconst dX5_madeMany_0 (by decide +kernel)) <|
  XPr.cons (xs_istore_n dX5_madeMany_1 rfl (Nat.le_of_ble_eq_true rfl)) <|
  XPr.cons (xs_iconst dX5_madeMany_2 (by decide +kernel)) <|
  XPr.cons (xs_istore_n dX5_madeMany_3 rfl (Nat.le_of_ble_eq_true rfl)) <|
  XPr.cons (xs_iload_n dX5_madeMany_4 rfl) <|
  XPr.cons (xs_bipush dX5_madeMany_5 (by decide +kernel)) <|
  XPr.cons (xs_ic_ge dX5_madeMany_7 (by decide +kernel)) <|
  XPr.cons (xs_iload_n dX5_madeMany_10 rfl) <|
  XPr.cons (xs_aload_n dX5_madeMany_11 rfl) <|
  XPr.cons (xs_get (T := TX5) rfl gX5 (Nat.le_of_ble_eq_true rfl) gw_731 dX5_madeMany_12) <|
  XPr.cons (xs_iload_n dX5_madeMany_15 rfl) <|
  XPr.cons (xs_iald dX5_madeMany_16) <|
  XPr.cons (xs_iconst dX5_madeMany_17 (by decide +kernel)) <|
  XPr.cons (xs_ic_ne dX5_madeMany_18 (by decide +kernel)) <|
  XPr.cons (xs_iconst dX5_madeMany_21 (by decide +kernel)) <|
  XPr.cons (xs_goto dX5_madeMany_22 (by decide +kernel)) <|
  XPr.cons (xs_iconst dX5_madeMany_25 (by decide +kernel)) <|
  XPr.cons (xs_iadd dX5_madeMany_26) <|
  XPr.cons (xs_istore_n dX5_madeMany_27 rfl (Nat.le_of_ble_eq_true rfl)) <|
  XPr.cons (xs_iinc dX5_madeMany_28 (by decide +kernel) (Nat.le_of_ble_eq_true rfl)) <|
  XPr.cons (xs_goto dX5_madeMany_31 (by decide +kernel)) <|
  XPr.cons (xs_iload_n dX5_madeMany_34 rfl) <|
  XPr.cons (xs_iret rfl dX5_madeMany_35) <|
  XPr.nil
def pX5_count_0 : List (Nat × XOp) := [(0, xo_il 1 1), (1, xo_i2l 2), (2, xo_lc 0 3), (3, xo_lc 5 6), (6, xo_q3 f_in 9), (9, xo_if_ne 15 12), (12, xo_ic (-2) 14), (14, xo_iret), (15, xo_il 1 16), (16, xo_if_ne 26 19), (19, xo_al 0 20), (20, xo_get 5 13 23), (23, xo_goto 82), (26, xo_il 1 27), (27, xo_ic 1 28), (28, xo_ic_ne 38 31), (31, xo_al 0 32), (32, xo_callV yX5_madeMany cX5_madeMany 3 (some .int) 0 5 35), (35, xo_goto 82), (38, xo_il 1 39), (39, xo_ic 2 40), (40, xo_ic_ne 54 43), (43, xo_al 0 44), (44, xo_ic 1 45), (45, xo_callV yX5_whoIs cX5_whoIs 4 (some .int) 1 5 48), (48, xo_p1 f_bitsM 51), (51, xo_goto 82), (54, xo_il 1 55), (55, xo_ic 3 56), (56, xo_ic_ne 66 59), (59, xo_al 0 60), (60, xo_get 5 3 63), (63, xo_goto 82), (66, xo_il 1 67), (67, xo_ic 4 68), (68, xo_ic_ne 78 71), (71, xo_al 0 72), (72, xo_get 5 6 75), (75, xo_goto 82), (78, xo_al 0 79)]
theorem sX5_count_0 : XPr RX5 cX5_count 2 (some .int) 10 pX5_count_0 :=
  XPr.cons (xs_iload_n dX5_count_0 rfl) <|
  XPr.cons (xs_i2l dX5_count_1) <|
  XPr.cons (xs_lconst dX5_count_2 (by decide +kernel)) <|
  XPr.cons (xs_ldc2 gw_865 dX5_count_3) <|
  XPr.cons (xs_q3 (xs_callS gw_866 gw_867 gw_77 gw_868 (by decide +kernel) (Nat.le_of_ble_eq_true rfl) dX5_count_6) c_X5_in (Nat.le_of_ble_eq_true rfl)) <|
  XPr.cons (xs_if_ne dX5_count_9 (by decide +kernel)) <|
  XPr.cons (xs_bipush dX5_count_12 (by decide +kernel)) <|
  XPr.cons (xs_iret rfl dX5_count_14) <|
  XPr.cons (xs_iload_n dX5_count_15 rfl) <|
  XPr.cons (xs_if_ne dX5_count_16 (by decide +kernel)) <|
  XPr.cons (xs_aload_n dX5_count_19 rfl) <|
  XPr.cons (xs_get (T := TX5) rfl gX5 (Nat.le_of_ble_eq_true rfl) gw_734 dX5_count_20) <|
  XPr.cons (xs_goto dX5_count_23 (by decide +kernel)) <|
  XPr.cons (xs_iload_n dX5_count_26 rfl) <|
  XPr.cons (xs_iconst dX5_count_27 (by decide +kernel)) <|
  XPr.cons (xs_ic_ne dX5_count_28 (by decide +kernel)) <|
  XPr.cons (xs_aload_n dX5_count_31 rfl) <|
  XPr.cons (xs_callV (T := TX5) rfl gw_1179 gw_1181 gw_70 gw_77 gw_1182 (by decide +kernel) (Nat.le_of_ble_eq_true rfl) dX5_count_32) <|
  XPr.cons (xs_goto dX5_count_35 (by decide +kernel)) <|
  XPr.cons (xs_iload_n dX5_count_38 rfl) <|
  XPr.cons (xs_iconst dX5_count_39 (by decide +kernel)) <|
  XPr.cons (xs_ic_ne dX5_count_40 (by decide +kernel)) <|
  XPr.cons (xs_aload_n dX5_count_43 rfl) <|
  XPr.cons (xs_iconst dX5_count_44 (by decide +kernel)) <|
  XPr.cons (xs_callV (T := TX5) rfl gw_975 gw_977 gw_49 gw_77 gw_978 (by decide +kernel) (Nat.le_of_ble_eq_true rfl) dX5_count_45) <|
  XPr.cons (xs_p1 (xs_callS gw_983 gw_984 gw_77 gw_985 (by decide +kernel) (Nat.le_of_ble_eq_true rfl) dX5_count_48) c_X5_bitsOf (Nat.le_of_ble_eq_true rfl)) <|
  XPr.cons (xs_goto dX5_count_51 (by decide +kernel)) <|
  XPr.cons (xs_iload_n dX5_count_54 rfl) <|
  XPr.cons (xs_iconst dX5_count_55 (by decide +kernel)) <|
  XPr.cons (xs_ic_ne dX5_count_56 (by decide +kernel)) <|
  XPr.cons (xs_aload_n dX5_count_59 rfl) <|
  XPr.cons (xs_get (T := TX5) rfl gX5 (Nat.le_of_ble_eq_true rfl) gw_724 dX5_count_60) <|
  XPr.cons (xs_goto dX5_count_63 (by decide +kernel)) <|
  XPr.cons (xs_iload_n dX5_count_66 rfl) <|
  XPr.cons (xs_iconst dX5_count_67 (by decide +kernel)) <|
  XPr.cons (xs_ic_ne dX5_count_68 (by decide +kernel)) <|
  XPr.cons (xs_aload_n dX5_count_71 rfl) <|
  XPr.cons (xs_get (T := TX5) rfl gX5 (Nat.le_of_ble_eq_true rfl) gw_727 dX5_count_72) <|
  XPr.cons (xs_goto dX5_count_75 (by decide +kernel)) <|
  XPr.cons (xs_aload_n dX5_count_78 rfl) <|
  XPr.nil
def pX5_count_1 : List (Nat × XOp) := [(79, xo_get 5 4 82), (82, xo_iret)]
theorem sX5_count_1 : XPr RX5 cX5_count 2 (some .int) 10 pX5_count_1 :=
  XPr.cons (xs_get (T := TX5) rfl gX5 (Nat.le_of_ble_eq_true rfl) gw_725 dX5_count_79) <|
  XPr.cons (xs_iret rfl dX5_count_82) <|
  XPr.nil
def pX5_count : List (Nat × XOp) := pX5_count_0 ++ pX5_count_1
theorem sX5_count : XPr RX5 cX5_count 2 (some .int) 10 pX5_count := (sX5_count_0).app sX5_count_1
def pX5_sheet_0 : List (Nat × XOp) := [(0, xo_il 1 1), (1, xo_p1 f_isSheet 4), (4, xo_if_eq 31 7), (7, xo_il 2 8), (8, xo_i2l 9), (9, xo_lc (-1) 12), (12, xo_lc 2 15), (15, xo_q3 f_in 18), (18, xo_if_eq 31 21), (21, xo_il 2 22), (22, xo_if_lt 34 25), (25, xo_il 3 26), (26, xo_ic 40 28), (28, xo_ic_le 34 31), (31, xo_ic (-2) 33), (33, xo_iret), (34, xo_il 2 35), (35, xo_if_lt 45 38), (38, xo_il 3 39), (39, xo_if_ge 45 42), (42, xo_ic (-14) 44), (44, xo_iret), (45, xo_al 0 46), (46, xo_get 5 42 49), (49, xo_il 1 50), (50, xo_il 2 51), (51, xo_if_lt 58 54), (54, xo_ic 1 55), (55, xo_goto 59), (58, xo_ic 0 59), (59, xo_zast 60), (60, xo_al 0 61), (61, xo_get 5 43 64), (64, xo_il 1 65), (65, xo_il 2 66), (66, xo_iast 67), (67, xo_al 0 68), (68, xo_get 5 44 71), (71, xo_il 1 72), (72, xo_il 3 73)]
theorem sX5_sheet_0 : XPr RX5 cX5_sheet 5 (some .int) 10 pX5_sheet_0 :=
  XPr.cons (xs_iload_n dX5_sheet_0 rfl) <|
  XPr.cons (xs_p1 (xs_callS gw_1132 gw_1133 gw_77 gw_1134 (by decide +kernel) (Nat.le_of_ble_eq_true rfl) dX5_sheet_1) c_X5_isSheet (Nat.le_of_ble_eq_true rfl)) <|
  XPr.cons (xs_if_eq dX5_sheet_4 (by decide +kernel)) <|
  XPr.cons (xs_iload_n dX5_sheet_7 rfl) <|
  XPr.cons (xs_i2l dX5_sheet_8) <|
  XPr.cons (xs_ldc2 gw_1153 dX5_sheet_9) <|
  XPr.cons (xs_ldc2 gw_1069 dX5_sheet_12) <|
  XPr.cons (xs_q3 (xs_callS gw_866 gw_867 gw_77 gw_868 (by decide +kernel) (Nat.le_of_ble_eq_true rfl) dX5_sheet_15) c_X5_in (Nat.le_of_ble_eq_true rfl)) <|
  XPr.cons (xs_if_eq dX5_sheet_18 (by decide +kernel)) <|
  XPr.cons (xs_iload_n dX5_sheet_21 rfl) <|
  XPr.cons (xs_if_lt dX5_sheet_22 (by decide +kernel)) <|
  XPr.cons (xs_iload_n dX5_sheet_25 rfl) <|
  XPr.cons (xs_bipush dX5_sheet_26 (by decide +kernel)) <|
  XPr.cons (xs_ic_le dX5_sheet_28 (by decide +kernel)) <|
  XPr.cons (xs_bipush dX5_sheet_31 (by decide +kernel)) <|
  XPr.cons (xs_iret rfl dX5_sheet_33) <|
  XPr.cons (xs_iload_n dX5_sheet_34 rfl) <|
  XPr.cons (xs_if_lt dX5_sheet_35 (by decide +kernel)) <|
  XPr.cons (xs_iload_n dX5_sheet_38 rfl) <|
  XPr.cons (xs_if_ge dX5_sheet_39 (by decide +kernel)) <|
  XPr.cons (xs_bipush dX5_sheet_42 (by decide +kernel)) <|
  XPr.cons (xs_iret rfl dX5_sheet_44) <|
  XPr.cons (xs_aload_n dX5_sheet_45 rfl) <|
  XPr.cons (xs_get (T := TX5) rfl gX5 (Nat.le_of_ble_eq_true rfl) gw_763 dX5_sheet_46) <|
  XPr.cons (xs_iload_n dX5_sheet_49 rfl) <|
  XPr.cons (xs_iload_n dX5_sheet_50 rfl) <|
  XPr.cons (xs_if_lt dX5_sheet_51 (by decide +kernel)) <|
  XPr.cons (xs_iconst dX5_sheet_54 (by decide +kernel)) <|
  XPr.cons (xs_goto dX5_sheet_55 (by decide +kernel)) <|
  XPr.cons (xs_iconst dX5_sheet_58 (by decide +kernel)) <|
  XPr.cons (xs_zast dX5_sheet_59) <|
  XPr.cons (xs_aload_n dX5_sheet_60 rfl) <|
  XPr.cons (xs_get (T := TX5) rfl gX5 (Nat.le_of_ble_eq_true rfl) gw_764 dX5_sheet_61) <|
  XPr.cons (xs_iload_n dX5_sheet_64 rfl) <|
  XPr.cons (xs_iload_n dX5_sheet_65 rfl) <|
  XPr.cons (xs_iast dX5_sheet_66) <|
  XPr.cons (xs_aload_n dX5_sheet_67 rfl) <|
  XPr.cons (xs_get (T := TX5) rfl gX5 (Nat.le_of_ble_eq_true rfl) gw_765 dX5_sheet_68) <|
  XPr.cons (xs_iload_n dX5_sheet_71 rfl) <|
  XPr.cons (xs_iload_n dX5_sheet_72 rfl) <|
  XPr.nil
def pX5_sheet_1 : List (Nat × XOp) := [(73, xo_iast 74), (74, xo_ic 0 75), (75, xo_is 4 77), (77, xo_il 4 79), (79, xo_il 3 80), (80, xo_ic_ge 106 83), (83, xo_il 2 84), (84, xo_if_lt 106 87), (87, xo_al 0 88), (88, xo_get 5 45 91), (91, xo_ic 40 93), (93, xo_il 1 94), (94, xo_imul 95), (95, xo_il 4 97), (97, xo_iadd 98), (98, xo_ic 0 99), (99, xo_iast 100), (100, xo_inc 4 1 103), (103, xo_goto 77), (106, xo_ic 1 107), (107, xo_iret)]
theorem sX5_sheet_1 : XPr RX5 cX5_sheet 5 (some .int) 10 pX5_sheet_1 :=
  XPr.cons (xs_iast dX5_sheet_73) <|
  XPr.cons (xs_iconst dX5_sheet_74 (by decide +kernel)) <|
  XPr.cons (xs_istore dX5_sheet_75 (Nat.le_of_ble_eq_true rfl)) <|
  XPr.cons (xs_iload dX5_sheet_77) <|
  XPr.cons (xs_iload_n dX5_sheet_79 rfl) <|
  XPr.cons (xs_ic_ge dX5_sheet_80 (by decide +kernel)) <|
  XPr.cons (xs_iload_n dX5_sheet_83 rfl) <|
  XPr.cons (xs_if_lt dX5_sheet_84 (by decide +kernel)) <|
  XPr.cons (xs_aload_n dX5_sheet_87 rfl) <|
  XPr.cons (xs_get (T := TX5) rfl gX5 (Nat.le_of_ble_eq_true rfl) gw_766 dX5_sheet_88) <|
  XPr.cons (xs_bipush dX5_sheet_91 (by decide +kernel)) <|
  XPr.cons (xs_iload_n dX5_sheet_93 rfl) <|
  XPr.cons (xs_imul dX5_sheet_94) <|
  XPr.cons (xs_iload dX5_sheet_95) <|
  XPr.cons (xs_iadd dX5_sheet_97) <|
  XPr.cons (xs_iconst dX5_sheet_98 (by decide +kernel)) <|
  XPr.cons (xs_iast dX5_sheet_99) <|
  XPr.cons (xs_iinc dX5_sheet_100 (by decide +kernel) (Nat.le_of_ble_eq_true rfl)) <|
  XPr.cons (xs_goto dX5_sheet_103 (by decide +kernel)) <|
  XPr.cons (xs_iconst dX5_sheet_106 (by decide +kernel)) <|
  XPr.cons (xs_iret rfl dX5_sheet_107) <|
  XPr.nil
def pX5_sheet : List (Nat × XOp) := pX5_sheet_0 ++ pX5_sheet_1
theorem sX5_sheet : XPr RX5 cX5_sheet 5 (some .int) 10 pX5_sheet := (sX5_sheet_0).app sX5_sheet_1
def pX5_cell_0 : List (Nat × XOp) := [(0, xo_il 1 1), (1, xo_p1 f_isSheet 4), (4, xo_if_ne 10 7), (7, xo_ic (-2) 9), (9, xo_iret), (10, xo_al 0 11), (11, xo_get 5 42 14), (14, xo_il 1 15), (15, xo_zald 16), (16, xo_if_ne 22 19), (19, xo_ic (-11) 21), (21, xo_iret), (22, xo_il 2 23), (23, xo_i2l 24), (24, xo_lc 0 25), (25, xo_al 0 26), (26, xo_get 5 44 29), (29, xo_il 1 30), (30, xo_iald 31), (31, xo_ic 1 32), (32, xo_isub 33), (33, xo_i2l 34), (34, xo_q3 f_in 37), (37, xo_if_ne 43 40), (40, xo_ic (-12) 42), (42, xo_iret), (43, xo_al 0 44), (44, xo_get 5 45 47), (47, xo_ic 40 49), (49, xo_il 1 50), (50, xo_imul 51), (51, xo_il 2 52), (52, xo_iadd 53), (53, xo_al 0 54), (54, xo_get 5 43 57), (57, xo_il 1 58), (58, xo_iald 59), (59, xo_if_ne 67 62), (62, xo_il 3 63), (63, xo_i2b 64)]
theorem sX5_cell_0 : XPr RX5 cX5_cell 4 (some .int) 10 pX5_cell_0 :=
  XPr.cons (xs_iload_n dX5_cell_0 rfl) <|
  XPr.cons (xs_p1 (xs_callS gw_1132 gw_1133 gw_77 gw_1134 (by decide +kernel) (Nat.le_of_ble_eq_true rfl) dX5_cell_1) c_X5_isSheet (Nat.le_of_ble_eq_true rfl)) <|
  XPr.cons (xs_if_ne dX5_cell_4 (by decide +kernel)) <|
  XPr.cons (xs_bipush dX5_cell_7 (by decide +kernel)) <|
  XPr.cons (xs_iret rfl dX5_cell_9) <|
  XPr.cons (xs_aload_n dX5_cell_10 rfl) <|
  XPr.cons (xs_get (T := TX5) rfl gX5 (Nat.le_of_ble_eq_true rfl) gw_763 dX5_cell_11) <|
  XPr.cons (xs_iload_n dX5_cell_14 rfl) <|
  XPr.cons (xs_zald dX5_cell_15) <|
  XPr.cons (xs_if_ne dX5_cell_16 (by decide +kernel)) <|
  XPr.cons (xs_bipush dX5_cell_19 (by decide +kernel)) <|
  XPr.cons (xs_iret rfl dX5_cell_21) <|
  XPr.cons (xs_iload_n dX5_cell_22 rfl) <|
  XPr.cons (xs_i2l dX5_cell_23) <|
  XPr.cons (xs_lconst dX5_cell_24 (by decide +kernel)) <|
  XPr.cons (xs_aload_n dX5_cell_25 rfl) <|
  XPr.cons (xs_get (T := TX5) rfl gX5 (Nat.le_of_ble_eq_true rfl) gw_765 dX5_cell_26) <|
  XPr.cons (xs_iload_n dX5_cell_29 rfl) <|
  XPr.cons (xs_iald dX5_cell_30) <|
  XPr.cons (xs_iconst dX5_cell_31 (by decide +kernel)) <|
  XPr.cons (xs_isub dX5_cell_32) <|
  XPr.cons (xs_i2l dX5_cell_33) <|
  XPr.cons (xs_q3 (xs_callS gw_866 gw_867 gw_77 gw_868 (by decide +kernel) (Nat.le_of_ble_eq_true rfl) dX5_cell_34) c_X5_in (Nat.le_of_ble_eq_true rfl)) <|
  XPr.cons (xs_if_ne dX5_cell_37 (by decide +kernel)) <|
  XPr.cons (xs_bipush dX5_cell_40 (by decide +kernel)) <|
  XPr.cons (xs_iret rfl dX5_cell_42) <|
  XPr.cons (xs_aload_n dX5_cell_43 rfl) <|
  XPr.cons (xs_get (T := TX5) rfl gX5 (Nat.le_of_ble_eq_true rfl) gw_766 dX5_cell_44) <|
  XPr.cons (xs_bipush dX5_cell_47 (by decide +kernel)) <|
  XPr.cons (xs_iload_n dX5_cell_49 rfl) <|
  XPr.cons (xs_imul dX5_cell_50) <|
  XPr.cons (xs_iload_n dX5_cell_51 rfl) <|
  XPr.cons (xs_iadd dX5_cell_52) <|
  XPr.cons (xs_aload_n dX5_cell_53 rfl) <|
  XPr.cons (xs_get (T := TX5) rfl gX5 (Nat.le_of_ble_eq_true rfl) gw_764 dX5_cell_54) <|
  XPr.cons (xs_iload_n dX5_cell_57 rfl) <|
  XPr.cons (xs_iald dX5_cell_58) <|
  XPr.cons (xs_if_ne dX5_cell_59 (by decide +kernel)) <|
  XPr.cons (xs_iload_n dX5_cell_62 rfl) <|
  XPr.cons (xs_i2b dX5_cell_63) <|
  XPr.nil
def pX5_cell_1 : List (Nat × XOp) := [(64, xo_goto 83), (67, xo_al 0 68), (68, xo_get 5 43 71), (71, xo_il 1 72), (72, xo_iald 73), (73, xo_ic 1 74), (74, xo_ic_ne 82 77), (77, xo_il 3 78), (78, xo_i2s 79), (79, xo_goto 83), (82, xo_il 3 83), (83, xo_iast 84), (84, xo_ic 1 85), (85, xo_iret)]
theorem sX5_cell_1 : XPr RX5 cX5_cell 4 (some .int) 10 pX5_cell_1 :=
  XPr.cons (xs_goto dX5_cell_64 (by decide +kernel)) <|
  XPr.cons (xs_aload_n dX5_cell_67 rfl) <|
  XPr.cons (xs_get (T := TX5) rfl gX5 (Nat.le_of_ble_eq_true rfl) gw_764 dX5_cell_68) <|
  XPr.cons (xs_iload_n dX5_cell_71 rfl) <|
  XPr.cons (xs_iald dX5_cell_72) <|
  XPr.cons (xs_iconst dX5_cell_73 (by decide +kernel)) <|
  XPr.cons (xs_ic_ne dX5_cell_74 (by decide +kernel)) <|
  XPr.cons (xs_iload_n dX5_cell_77 rfl) <|
  XPr.cons (xs_i2s dX5_cell_78) <|
  XPr.cons (xs_goto dX5_cell_79 (by decide +kernel)) <|
  XPr.cons (xs_iload_n dX5_cell_82 rfl) <|
  XPr.cons (xs_iast dX5_cell_83) <|
  XPr.cons (xs_iconst dX5_cell_84 (by decide +kernel)) <|
  XPr.cons (xs_iret rfl dX5_cell_85) <|
  XPr.nil
def pX5_cell : List (Nat × XOp) := pX5_cell_0 ++ pX5_cell_1
theorem sX5_cell : XPr RX5 cX5_cell 4 (some .int) 10 pX5_cell := (sX5_cell_0).app sX5_cell_1
def pX5_copy_0 : List (Nat × XOp) := [(0, xo_il 1 1), (1, xo_p1 f_isSheet 4), (4, xo_if_eq 14 7), (7, xo_il 3 8), (8, xo_p1 f_isSheet 11), (11, xo_if_ne 17 14), (14, xo_ic (-2) 16), (16, xo_iret), (17, xo_al 0 18), (18, xo_get 5 42 21), (21, xo_il 1 22), (22, xo_zald 23), (23, xo_if_eq 35 26), (26, xo_al 0 27), (27, xo_get 5 42 30), (30, xo_il 3 31), (31, xo_zald 32), (32, xo_if_ne 38 35), (35, xo_ic (-11) 37), (37, xo_iret), (38, xo_al 0 39), (39, xo_get 5 43 42), (42, xo_il 1 43), (43, xo_iald 44), (44, xo_al 0 45), (45, xo_get 5 43 48), (48, xo_il 3 49), (49, xo_iald 50), (50, xo_ic_eq 56 53), (53, xo_ic (-13) 55), (55, xo_iret), (56, xo_il 5 58), (58, xo_if_lt 97 61), (61, xo_il 2 62), (62, xo_if_lt 97 65), (65, xo_il 4 67), (67, xo_if_lt 97 70), (70, xo_il 2 71), (71, xo_al 0 72), (72, xo_get 5 44 75)]
theorem sX5_copy_0 : XPr RX5 cX5_copy 9 (some .int) 10 pX5_copy_0 :=
  XPr.cons (xs_iload_n dX5_copy_0 rfl) <|
  XPr.cons (xs_p1 (xs_callS gw_1132 gw_1133 gw_77 gw_1134 (by decide +kernel) (Nat.le_of_ble_eq_true rfl) dX5_copy_1) c_X5_isSheet (Nat.le_of_ble_eq_true rfl)) <|
  XPr.cons (xs_if_eq dX5_copy_4 (by decide +kernel)) <|
  XPr.cons (xs_iload_n dX5_copy_7 rfl) <|
  XPr.cons (xs_p1 (xs_callS gw_1132 gw_1133 gw_77 gw_1134 (by decide +kernel) (Nat.le_of_ble_eq_true rfl) dX5_copy_8) c_X5_isSheet (Nat.le_of_ble_eq_true rfl)) <|
  XPr.cons (xs_if_ne dX5_copy_11 (by decide +kernel)) <|
  XPr.cons (xs_bipush dX5_copy_14 (by decide +kernel)) <|
  XPr.cons (xs_iret rfl dX5_copy_16) <|
  XPr.cons (xs_aload_n dX5_copy_17 rfl) <|
  XPr.cons (xs_get (T := TX5) rfl gX5 (Nat.le_of_ble_eq_true rfl) gw_763 dX5_copy_18) <|
  XPr.cons (xs_iload_n dX5_copy_21 rfl) <|
  XPr.cons (xs_zald dX5_copy_22) <|
  XPr.cons (xs_if_eq dX5_copy_23 (by decide +kernel)) <|
  XPr.cons (xs_aload_n dX5_copy_26 rfl) <|
  XPr.cons (xs_get (T := TX5) rfl gX5 (Nat.le_of_ble_eq_true rfl) gw_763 dX5_copy_27) <|
  XPr.cons (xs_iload_n dX5_copy_30 rfl) <|
  XPr.cons (xs_zald dX5_copy_31) <|
  XPr.cons (xs_if_ne dX5_copy_32 (by decide +kernel)) <|
  XPr.cons (xs_bipush dX5_copy_35 (by decide +kernel)) <|
  XPr.cons (xs_iret rfl dX5_copy_37) <|
  XPr.cons (xs_aload_n dX5_copy_38 rfl) <|
  XPr.cons (xs_get (T := TX5) rfl gX5 (Nat.le_of_ble_eq_true rfl) gw_764 dX5_copy_39) <|
  XPr.cons (xs_iload_n dX5_copy_42 rfl) <|
  XPr.cons (xs_iald dX5_copy_43) <|
  XPr.cons (xs_aload_n dX5_copy_44 rfl) <|
  XPr.cons (xs_get (T := TX5) rfl gX5 (Nat.le_of_ble_eq_true rfl) gw_764 dX5_copy_45) <|
  XPr.cons (xs_iload_n dX5_copy_48 rfl) <|
  XPr.cons (xs_iald dX5_copy_49) <|
  XPr.cons (xs_ic_eq dX5_copy_50 (by decide +kernel)) <|
  XPr.cons (xs_bipush dX5_copy_53 (by decide +kernel)) <|
  XPr.cons (xs_iret rfl dX5_copy_55) <|
  XPr.cons (xs_iload dX5_copy_56) <|
  XPr.cons (xs_if_lt dX5_copy_58 (by decide +kernel)) <|
  XPr.cons (xs_iload_n dX5_copy_61 rfl) <|
  XPr.cons (xs_if_lt dX5_copy_62 (by decide +kernel)) <|
  XPr.cons (xs_iload dX5_copy_65) <|
  XPr.cons (xs_if_lt dX5_copy_67 (by decide +kernel)) <|
  XPr.cons (xs_iload_n dX5_copy_70 rfl) <|
  XPr.cons (xs_aload_n dX5_copy_71 rfl) <|
  XPr.cons (xs_get (T := TX5) rfl gX5 (Nat.le_of_ble_eq_true rfl) gw_765 dX5_copy_72) <|
  XPr.nil
def pX5_copy_1 : List (Nat × XOp) := [(75, xo_il 1 76), (76, xo_iald 77), (77, xo_il 5 79), (79, xo_isub 80), (80, xo_ic_gt 97 83), (83, xo_il 4 85), (85, xo_al 0 86), (86, xo_get 5 44 89), (89, xo_il 3 90), (90, xo_iald 91), (91, xo_il 5 93), (93, xo_isub 94), (94, xo_ic_le 100 97), (97, xo_ic (-12) 99), (99, xo_iret), (100, xo_il 1 101), (101, xo_il 3 102), (102, xo_ic_ne 115 105), (105, xo_il 2 106), (106, xo_il 4 108), (108, xo_ic_ge 115 111), (111, xo_ic 1 112), (112, xo_goto 116), (115, xo_ic 0 116), (116, xo_is 6 118), (118, xo_ic 0 119), (119, xo_is 7 121), (121, xo_il 7 123), (123, xo_il 5 125), (125, xo_ic_ge 182 128), (128, xo_il 6 130), (130, xo_if_eq 143 133), (133, xo_il 5 135), (135, xo_ic 1 136), (136, xo_isub 137), (137, xo_il 7 139), (139, xo_isub 140), (140, xo_goto 145), (143, xo_il 7 145), (145, xo_is 8 147)]
theorem sX5_copy_1 : XPr RX5 cX5_copy 9 (some .int) 10 pX5_copy_1 :=
  XPr.cons (xs_iload_n dX5_copy_75 rfl) <|
  XPr.cons (xs_iald dX5_copy_76) <|
  XPr.cons (xs_iload dX5_copy_77) <|
  XPr.cons (xs_isub dX5_copy_79) <|
  XPr.cons (xs_ic_gt dX5_copy_80 (by decide +kernel)) <|
  XPr.cons (xs_iload dX5_copy_83) <|
  XPr.cons (xs_aload_n dX5_copy_85 rfl) <|
  XPr.cons (xs_get (T := TX5) rfl gX5 (Nat.le_of_ble_eq_true rfl) gw_765 dX5_copy_86) <|
  XPr.cons (xs_iload_n dX5_copy_89 rfl) <|
  XPr.cons (xs_iald dX5_copy_90) <|
  XPr.cons (xs_iload dX5_copy_91) <|
  XPr.cons (xs_isub dX5_copy_93) <|
  XPr.cons (xs_ic_le dX5_copy_94 (by decide +kernel)) <|
  XPr.cons (xs_bipush dX5_copy_97 (by decide +kernel)) <|
  XPr.cons (xs_iret rfl dX5_copy_99) <|
  XPr.cons (xs_iload_n dX5_copy_100 rfl) <|
  XPr.cons (xs_iload_n dX5_copy_101 rfl) <|
  XPr.cons (xs_ic_ne dX5_copy_102 (by decide +kernel)) <|
  XPr.cons (xs_iload_n dX5_copy_105 rfl) <|
  XPr.cons (xs_iload dX5_copy_106) <|
  XPr.cons (xs_ic_ge dX5_copy_108 (by decide +kernel)) <|
  XPr.cons (xs_iconst dX5_copy_111 (by decide +kernel)) <|
  XPr.cons (xs_goto dX5_copy_112 (by decide +kernel)) <|
  XPr.cons (xs_iconst dX5_copy_115 (by decide +kernel)) <|
  XPr.cons (xs_istore dX5_copy_116 (Nat.le_of_ble_eq_true rfl)) <|
  XPr.cons (xs_iconst dX5_copy_118 (by decide +kernel)) <|
  XPr.cons (xs_istore dX5_copy_119 (Nat.le_of_ble_eq_true rfl)) <|
  XPr.cons (xs_iload dX5_copy_121) <|
  XPr.cons (xs_iload dX5_copy_123) <|
  XPr.cons (xs_ic_ge dX5_copy_125 (by decide +kernel)) <|
  XPr.cons (xs_iload dX5_copy_128) <|
  XPr.cons (xs_if_eq dX5_copy_130 (by decide +kernel)) <|
  XPr.cons (xs_iload dX5_copy_133) <|
  XPr.cons (xs_iconst dX5_copy_135 (by decide +kernel)) <|
  XPr.cons (xs_isub dX5_copy_136) <|
  XPr.cons (xs_iload dX5_copy_137) <|
  XPr.cons (xs_isub dX5_copy_139) <|
  XPr.cons (xs_goto dX5_copy_140 (by decide +kernel)) <|
  XPr.cons (xs_iload dX5_copy_143) <|
  XPr.cons (xs_istore dX5_copy_145 (Nat.le_of_ble_eq_true rfl)) <|
  XPr.nil
def pX5_copy_2 : List (Nat × XOp) := [(147, xo_al 0 148), (148, xo_get 5 45 151), (151, xo_ic 40 153), (153, xo_il 3 154), (154, xo_imul 155), (155, xo_il 4 157), (157, xo_iadd 158), (158, xo_il 8 160), (160, xo_iadd 161), (161, xo_al 0 162), (162, xo_get 5 45 165), (165, xo_ic 40 167), (167, xo_il 1 168), (168, xo_imul 169), (169, xo_il 2 170), (170, xo_iadd 171), (171, xo_il 8 173), (173, xo_iadd 174), (174, xo_iald 175), (175, xo_iast 176), (176, xo_inc 7 1 179), (179, xo_goto 121), (182, xo_il 5 184), (184, xo_iret)]
theorem sX5_copy_2 : XPr RX5 cX5_copy 9 (some .int) 10 pX5_copy_2 :=
  XPr.cons (xs_aload_n dX5_copy_147 rfl) <|
  XPr.cons (xs_get (T := TX5) rfl gX5 (Nat.le_of_ble_eq_true rfl) gw_766 dX5_copy_148) <|
  XPr.cons (xs_bipush dX5_copy_151 (by decide +kernel)) <|
  XPr.cons (xs_iload_n dX5_copy_153 rfl) <|
  XPr.cons (xs_imul dX5_copy_154) <|
  XPr.cons (xs_iload dX5_copy_155) <|
  XPr.cons (xs_iadd dX5_copy_157) <|
  XPr.cons (xs_iload dX5_copy_158) <|
  XPr.cons (xs_iadd dX5_copy_160) <|
  XPr.cons (xs_aload_n dX5_copy_161 rfl) <|
  XPr.cons (xs_get (T := TX5) rfl gX5 (Nat.le_of_ble_eq_true rfl) gw_766 dX5_copy_162) <|
  XPr.cons (xs_bipush dX5_copy_165 (by decide +kernel)) <|
  XPr.cons (xs_iload_n dX5_copy_167 rfl) <|
  XPr.cons (xs_imul dX5_copy_168) <|
  XPr.cons (xs_iload_n dX5_copy_169 rfl) <|
  XPr.cons (xs_iadd dX5_copy_170) <|
  XPr.cons (xs_iload dX5_copy_171) <|
  XPr.cons (xs_iadd dX5_copy_173) <|
  XPr.cons (xs_iald dX5_copy_174) <|
  XPr.cons (xs_iast dX5_copy_175) <|
  XPr.cons (xs_iinc dX5_copy_176 (by decide +kernel) (Nat.le_of_ble_eq_true rfl)) <|
  XPr.cons (xs_goto dX5_copy_179 (by decide +kernel)) <|
  XPr.cons (xs_iload dX5_copy_182) <|
  XPr.cons (xs_iret rfl dX5_copy_184) <|
  XPr.nil
def pX5_copy : List (Nat × XOp) := pX5_copy_0 ++ pX5_copy_1 ++ pX5_copy_2
theorem sX5_copy : XPr RX5 cX5_copy 9 (some .int) 10 pX5_copy := ((sX5_copy_0).app sX5_copy_1).app sX5_copy_2
def pX5_gang_0 : List (Nat × XOp) := [(0, xo_il 1 1), (1, xo_p1 f_isSheet 4), (4, xo_if_eq 32 7), (7, xo_il 2 8), (8, xo_i2l 9), (9, xo_lc 0 10), (10, xo_lc 2 13), (13, xo_q3 f_in 16), (16, xo_if_eq 32 19), (19, xo_il 4 21), (21, xo_i2l 22), (22, xo_lc 0 23), (23, xo_lc 5 26), (26, xo_q3 f_in 29), (29, xo_if_ne 35 32), (32, xo_ic (-2) 34), (34, xo_iret), (35, xo_al 0 36), (36, xo_get 5 42 39), (39, xo_il 1 40), (40, xo_zald 41), (41, xo_if_eq 57 44), (44, xo_al 0 45), (45, xo_get 5 43 48), (48, xo_il 1 49), (49, xo_iald 50), (50, xo_il 2 51), (51, xo_ic_eq 57 54), (54, xo_ic (-13) 56), (56, xo_iret), (57, xo_al 0 58), (58, xo_get 5 42 61), (61, xo_il 1 62), (62, xo_zald 63), (63, xo_if_ne 69 66), (66, xo_ic (-11) 68), (68, xo_iret), (69, xo_ic 0 70), (70, xo_is 5 72), (72, xo_ic 0 73)]
theorem sX5_gang_0 : XPr RX5 cX5_gang 8 (some .int) 10 pX5_gang_0 :=
  XPr.cons (xs_iload_n dX5_gang_0 rfl) <|
  XPr.cons (xs_p1 (xs_callS gw_1132 gw_1133 gw_77 gw_1134 (by decide +kernel) (Nat.le_of_ble_eq_true rfl) dX5_gang_1) c_X5_isSheet (Nat.le_of_ble_eq_true rfl)) <|
  XPr.cons (xs_if_eq dX5_gang_4 (by decide +kernel)) <|
  XPr.cons (xs_iload_n dX5_gang_7 rfl) <|
  XPr.cons (xs_i2l dX5_gang_8) <|
  XPr.cons (xs_lconst dX5_gang_9 (by decide +kernel)) <|
  XPr.cons (xs_ldc2 gw_1069 dX5_gang_10) <|
  XPr.cons (xs_q3 (xs_callS gw_866 gw_867 gw_77 gw_868 (by decide +kernel) (Nat.le_of_ble_eq_true rfl) dX5_gang_13) c_X5_in (Nat.le_of_ble_eq_true rfl)) <|
  XPr.cons (xs_if_eq dX5_gang_16 (by decide +kernel)) <|
  XPr.cons (xs_iload dX5_gang_19) <|
  XPr.cons (xs_i2l dX5_gang_21) <|
  XPr.cons (xs_lconst dX5_gang_22 (by decide +kernel)) <|
  XPr.cons (xs_ldc2 gw_865 dX5_gang_23) <|
  XPr.cons (xs_q3 (xs_callS gw_866 gw_867 gw_77 gw_868 (by decide +kernel) (Nat.le_of_ble_eq_true rfl) dX5_gang_26) c_X5_in (Nat.le_of_ble_eq_true rfl)) <|
  XPr.cons (xs_if_ne dX5_gang_29 (by decide +kernel)) <|
  XPr.cons (xs_bipush dX5_gang_32 (by decide +kernel)) <|
  XPr.cons (xs_iret rfl dX5_gang_34) <|
  XPr.cons (xs_aload_n dX5_gang_35 rfl) <|
  XPr.cons (xs_get (T := TX5) rfl gX5 (Nat.le_of_ble_eq_true rfl) gw_763 dX5_gang_36) <|
  XPr.cons (xs_iload_n dX5_gang_39 rfl) <|
  XPr.cons (xs_zald dX5_gang_40) <|
  XPr.cons (xs_if_eq dX5_gang_41 (by decide +kernel)) <|
  XPr.cons (xs_aload_n dX5_gang_44 rfl) <|
  XPr.cons (xs_get (T := TX5) rfl gX5 (Nat.le_of_ble_eq_true rfl) gw_764 dX5_gang_45) <|
  XPr.cons (xs_iload_n dX5_gang_48 rfl) <|
  XPr.cons (xs_iald dX5_gang_49) <|
  XPr.cons (xs_iload_n dX5_gang_50 rfl) <|
  XPr.cons (xs_ic_eq dX5_gang_51 (by decide +kernel)) <|
  XPr.cons (xs_bipush dX5_gang_54 (by decide +kernel)) <|
  XPr.cons (xs_iret rfl dX5_gang_56) <|
  XPr.cons (xs_aload_n dX5_gang_57 rfl) <|
  XPr.cons (xs_get (T := TX5) rfl gX5 (Nat.le_of_ble_eq_true rfl) gw_763 dX5_gang_58) <|
  XPr.cons (xs_iload_n dX5_gang_61 rfl) <|
  XPr.cons (xs_zald dX5_gang_62) <|
  XPr.cons (xs_if_ne dX5_gang_63 (by decide +kernel)) <|
  XPr.cons (xs_bipush dX5_gang_66 (by decide +kernel)) <|
  XPr.cons (xs_iret rfl dX5_gang_68) <|
  XPr.cons (xs_iconst dX5_gang_69 (by decide +kernel)) <|
  XPr.cons (xs_istore dX5_gang_70 (Nat.le_of_ble_eq_true rfl)) <|
  XPr.cons (xs_iconst dX5_gang_72 (by decide +kernel)) <|
  XPr.nil
def pX5_gang_1 : List (Nat × XOp) := [(73, xo_is 6 75), (75, xo_il 6 77), (77, xo_il 4 79), (79, xo_ic_ge 167 82), (82, xo_il 3 83), (83, xo_if_lt 103 86), (86, xo_il 3 87), (87, xo_al 0 88), (88, xo_get 5 44 91), (91, xo_il 1 92), (92, xo_iald 93), (93, xo_ic 3 94), (94, xo_il 6 96), (96, xo_imul 97), (97, xo_isub 98), (98, xo_ic 3 99), (99, xo_isub 100), (100, xo_ic_le 106 103), (103, xo_ic (-12) 105), (105, xo_iret), (106, xo_ic 40 108), (108, xo_il 1 109), (109, xo_imul 110), (110, xo_il 3 111), (111, xo_iadd 112), (112, xo_ic 3 113), (113, xo_il 6 115), (115, xo_imul 116), (116, xo_iadd 117), (117, xo_is 7 119), (119, xo_il 5 121), (121, xo_al 0 122), (122, xo_al 0 123), (123, xo_get 5 45 126), (126, xo_il 7 128), (128, xo_iald 129), (129, xo_al 0 130), (130, xo_get 5 45 133), (133, xo_il 7 135), (135, xo_ic 1 136)]
theorem sX5_gang_1 : XPr RX5 cX5_gang 8 (some .int) 10 pX5_gang_1 :=
  XPr.cons (xs_istore dX5_gang_73 (Nat.le_of_ble_eq_true rfl)) <|
  XPr.cons (xs_iload dX5_gang_75) <|
  XPr.cons (xs_iload dX5_gang_77) <|
  XPr.cons (xs_ic_ge dX5_gang_79 (by decide +kernel)) <|
  XPr.cons (xs_iload_n dX5_gang_82 rfl) <|
  XPr.cons (xs_if_lt dX5_gang_83 (by decide +kernel)) <|
  XPr.cons (xs_iload_n dX5_gang_86 rfl) <|
  XPr.cons (xs_aload_n dX5_gang_87 rfl) <|
  XPr.cons (xs_get (T := TX5) rfl gX5 (Nat.le_of_ble_eq_true rfl) gw_765 dX5_gang_88) <|
  XPr.cons (xs_iload_n dX5_gang_91 rfl) <|
  XPr.cons (xs_iald dX5_gang_92) <|
  XPr.cons (xs_iconst dX5_gang_93 (by decide +kernel)) <|
  XPr.cons (xs_iload dX5_gang_94) <|
  XPr.cons (xs_imul dX5_gang_96) <|
  XPr.cons (xs_isub dX5_gang_97) <|
  XPr.cons (xs_iconst dX5_gang_98 (by decide +kernel)) <|
  XPr.cons (xs_isub dX5_gang_99) <|
  XPr.cons (xs_ic_le dX5_gang_100 (by decide +kernel)) <|
  XPr.cons (xs_bipush dX5_gang_103 (by decide +kernel)) <|
  XPr.cons (xs_iret rfl dX5_gang_105) <|
  XPr.cons (xs_bipush dX5_gang_106 (by decide +kernel)) <|
  XPr.cons (xs_iload_n dX5_gang_108 rfl) <|
  XPr.cons (xs_imul dX5_gang_109) <|
  XPr.cons (xs_iload_n dX5_gang_110 rfl) <|
  XPr.cons (xs_iadd dX5_gang_111) <|
  XPr.cons (xs_iconst dX5_gang_112 (by decide +kernel)) <|
  XPr.cons (xs_iload dX5_gang_113) <|
  XPr.cons (xs_imul dX5_gang_115) <|
  XPr.cons (xs_iadd dX5_gang_116) <|
  XPr.cons (xs_istore dX5_gang_117 (Nat.le_of_ble_eq_true rfl)) <|
  XPr.cons (xs_iload dX5_gang_119) <|
  XPr.cons (xs_aload_n dX5_gang_121 rfl) <|
  XPr.cons (xs_aload_n dX5_gang_122 rfl) <|
  XPr.cons (xs_get (T := TX5) rfl gX5 (Nat.le_of_ble_eq_true rfl) gw_766 dX5_gang_123) <|
  XPr.cons (xs_iload dX5_gang_126) <|
  XPr.cons (xs_iald dX5_gang_128) <|
  XPr.cons (xs_aload_n dX5_gang_129 rfl) <|
  XPr.cons (xs_get (T := TX5) rfl gX5 (Nat.le_of_ble_eq_true rfl) gw_766 dX5_gang_130) <|
  XPr.cons (xs_iload dX5_gang_133) <|
  XPr.cons (xs_iconst dX5_gang_135 (by decide +kernel)) <|
  XPr.nil
def pX5_gang_2 : List (Nat × XOp) := [(136, xo_iadd 137), (137, xo_iald 138), (138, xo_al 0 139), (139, xo_get 5 45 142), (142, xo_il 7 144), (144, xo_ic 2 145), (145, xo_iadd 146), (146, xo_iald 147), (147, xo_callV yX5_wright cX5_wright 4 (some .int) 3 5 150), (150, xo_if_lt 157 153), (153, xo_ic 1 154), (154, xo_goto 158), (157, xo_ic 0 158), (158, xo_iadd 159), (159, xo_is 5 161), (161, xo_inc 6 1 164), (164, xo_goto 75), (167, xo_il 5 169), (169, xo_iret)]
theorem sX5_gang_2 : XPr RX5 cX5_gang 8 (some .int) 10 pX5_gang_2 :=
  XPr.cons (xs_iadd dX5_gang_136) <|
  XPr.cons (xs_iald dX5_gang_137) <|
  XPr.cons (xs_aload_n dX5_gang_138 rfl) <|
  XPr.cons (xs_get (T := TX5) rfl gX5 (Nat.le_of_ble_eq_true rfl) gw_766 dX5_gang_139) <|
  XPr.cons (xs_iload dX5_gang_142) <|
  XPr.cons (xs_iconst dX5_gang_144 (by decide +kernel)) <|
  XPr.cons (xs_iadd dX5_gang_145) <|
  XPr.cons (xs_iald dX5_gang_146) <|
  XPr.cons (xs_callV (T := TX5) rfl gw_1196 gw_998 gw_999 gw_77 gw_1000 (by decide +kernel) (Nat.le_of_ble_eq_true rfl) dX5_gang_147) <|
  XPr.cons (xs_if_lt dX5_gang_150 (by decide +kernel)) <|
  XPr.cons (xs_iconst dX5_gang_153 (by decide +kernel)) <|
  XPr.cons (xs_goto dX5_gang_154 (by decide +kernel)) <|
  XPr.cons (xs_iconst dX5_gang_157 (by decide +kernel)) <|
  XPr.cons (xs_iadd dX5_gang_158) <|
  XPr.cons (xs_istore dX5_gang_159 (Nat.le_of_ble_eq_true rfl)) <|
  XPr.cons (xs_iinc dX5_gang_161 (by decide +kernel) (Nat.le_of_ble_eq_true rfl)) <|
  XPr.cons (xs_goto dX5_gang_164 (by decide +kernel)) <|
  XPr.cons (xs_iload dX5_gang_167) <|
  XPr.cons (xs_iret rfl dX5_gang_169) <|
  XPr.nil
def pX5_gang : List (Nat × XOp) := pX5_gang_0 ++ pX5_gang_1 ++ pX5_gang_2
theorem sX5_gang : XPr RX5 cX5_gang 8 (some .int) 10 pX5_gang := ((sX5_gang_0).app sX5_gang_1).app sX5_gang_2
def pX5_taken_0 : List (Nat × XOp) := [(0, xo_il 2 1), (1, xo_i2l 2), (2, xo_lc 0 3), (3, xo_lc 5 6), (6, xo_q3 f_in 9), (9, xo_if_ne 15 12), (12, xo_ic (-2) 14), (14, xo_iret), (15, xo_al 0 16), (16, xo_il 1 17), (17, xo_callV yX5_isOne cX5_isOne 2 (some .boolean) 1 5 20), (20, xo_if_ne 26 23), (23, xo_ic (-11) 25), (25, xo_iret), (26, xo_al 0 27), (27, xo_get 5 12 30), (30, xo_ic 4 31), (31, xo_il 1 32), (32, xo_imul 33), (33, xo_ic 2 34), (34, xo_iadd 35), (35, xo_iald 36), (36, xo_is 3 37), (37, xo_il 3 38), (38, xo_ic (-1) 39), (39, xo_ic_eq 55 42), (42, xo_il 3 43), (43, xo_il 2 44), (44, xo_ic_eq 55 47), (47, xo_il 3 48), (48, xo_p1 f_over 51), (51, xo_is 3 52), (52, xo_goto 37), (55, xo_il 3 56), (56, xo_il 2 57), (57, xo_ic_ne 71 60), (60, xo_al 0 61), (61, xo_get 5 12 64), (64, xo_ic 4 65), (65, xo_il 1 66)]
theorem sX5_taken_0 : XPr RX5 cX5_taken 4 (some .int) 10 pX5_taken_0 :=
  XPr.cons (xs_iload_n dX5_taken_0 rfl) <|
  XPr.cons (xs_i2l dX5_taken_1) <|
  XPr.cons (xs_lconst dX5_taken_2 (by decide +kernel)) <|
  XPr.cons (xs_ldc2 gw_865 dX5_taken_3) <|
  XPr.cons (xs_q3 (xs_callS gw_866 gw_867 gw_77 gw_868 (by decide +kernel) (Nat.le_of_ble_eq_true rfl) dX5_taken_6) c_X5_in (Nat.le_of_ble_eq_true rfl)) <|
  XPr.cons (xs_if_ne dX5_taken_9 (by decide +kernel)) <|
  XPr.cons (xs_bipush dX5_taken_12 (by decide +kernel)) <|
  XPr.cons (xs_iret rfl dX5_taken_14) <|
  XPr.cons (xs_aload_n dX5_taken_15 rfl) <|
  XPr.cons (xs_iload_n dX5_taken_16 rfl) <|
  XPr.cons (xs_callV (T := TX5) rfl gw_877 gw_879 gw_29 gw_77 gw_880 (by decide +kernel) (Nat.le_of_ble_eq_true rfl) dX5_taken_17) <|
  XPr.cons (xs_if_ne dX5_taken_20 (by decide +kernel)) <|
  XPr.cons (xs_bipush dX5_taken_23 (by decide +kernel)) <|
  XPr.cons (xs_iret rfl dX5_taken_25) <|
  XPr.cons (xs_aload_n dX5_taken_26 rfl) <|
  XPr.cons (xs_get (T := TX5) rfl gX5 (Nat.le_of_ble_eq_true rfl) gw_733 dX5_taken_27) <|
  XPr.cons (xs_iconst dX5_taken_30 (by decide +kernel)) <|
  XPr.cons (xs_iload_n dX5_taken_31 rfl) <|
  XPr.cons (xs_imul dX5_taken_32) <|
  XPr.cons (xs_iconst dX5_taken_33 (by decide +kernel)) <|
  XPr.cons (xs_iadd dX5_taken_34) <|
  XPr.cons (xs_iald dX5_taken_35) <|
  XPr.cons (xs_istore_n dX5_taken_36 rfl (Nat.le_of_ble_eq_true rfl)) <|
  XPr.cons (xs_iload_n dX5_taken_37 rfl) <|
  XPr.cons (xs_iconst dX5_taken_38 (by decide +kernel)) <|
  XPr.cons (xs_ic_eq dX5_taken_39 (by decide +kernel)) <|
  XPr.cons (xs_iload_n dX5_taken_42 rfl) <|
  XPr.cons (xs_iload_n dX5_taken_43 rfl) <|
  XPr.cons (xs_ic_eq dX5_taken_44 (by decide +kernel)) <|
  XPr.cons (xs_iload_n dX5_taken_47 rfl) <|
  XPr.cons (xs_p1 (xs_callS gw_1201 gw_1202 gw_77 gw_1203 (by decide +kernel) (Nat.le_of_ble_eq_true rfl) dX5_taken_48) c_X5_over (Nat.le_of_ble_eq_true rfl)) <|
  XPr.cons (xs_istore_n dX5_taken_51 rfl (Nat.le_of_ble_eq_true rfl)) <|
  XPr.cons (xs_goto dX5_taken_52 (by decide +kernel)) <|
  XPr.cons (xs_iload_n dX5_taken_55 rfl) <|
  XPr.cons (xs_iload_n dX5_taken_56 rfl) <|
  XPr.cons (xs_ic_ne dX5_taken_57 (by decide +kernel)) <|
  XPr.cons (xs_aload_n dX5_taken_60 rfl) <|
  XPr.cons (xs_get (T := TX5) rfl gX5 (Nat.le_of_ble_eq_true rfl) gw_733 dX5_taken_61) <|
  XPr.cons (xs_iconst dX5_taken_64 (by decide +kernel)) <|
  XPr.cons (xs_iload_n dX5_taken_65 rfl) <|
  XPr.nil
def pX5_taken_1 : List (Nat × XOp) := [(66, xo_imul 67), (67, xo_iald 68), (68, xo_goto 73), (71, xo_ic (-13) 73), (73, xo_iret)]
theorem sX5_taken_1 : XPr RX5 cX5_taken 4 (some .int) 10 pX5_taken_1 :=
  XPr.cons (xs_imul dX5_taken_66) <|
  XPr.cons (xs_iald dX5_taken_67) <|
  XPr.cons (xs_goto dX5_taken_68 (by decide +kernel)) <|
  XPr.cons (xs_bipush dX5_taken_71 (by decide +kernel)) <|
  XPr.cons (xs_iret rfl dX5_taken_73) <|
  XPr.nil
def pX5_taken : List (Nat × XOp) := pX5_taken_0 ++ pX5_taken_1
theorem sX5_taken : XPr RX5 cX5_taken 4 (some .int) 10 pX5_taken := (sX5_taken_0).app sX5_taken_1
