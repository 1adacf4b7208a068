def pX1_isMissing : List (Nat × XOp) := [(0, xo_al 0 1), (1, xo_get 1 0 4), (4, xo_ic (-1) 5), (5, xo_ic_ne 12 8), (8, xo_ic 1 9), (9, xo_goto 13), (12, xo_ic 0 13), (13, xo_zret)]
theorem sX1_isMissing : XPr RX1 cX1_isMissing 1 (some .boolean) 10 pX1_isMissing :=
  XPr.cons (xs_aload_n dX1_isMissing_0 rfl) <|
  XPr.cons (xs_get (T := TX1) rfl gX1 (Nat.le_of_ble_eq_true rfl) gw_214 dX1_isMissing_1) <|
  XPr.cons (xs_iconst dX1_isMissing_4 (by decide +kernel)) <|
  XPr.cons (xs_ic_ne dX1_isMissing_5 (by decide +kernel)) <|
  XPr.cons (xs_iconst dX1_isMissing_8 (by decide +kernel)) <|
  XPr.cons (xs_goto dX1_isMissing_9 (by decide +kernel)) <|
  XPr.cons (xs_iconst dX1_isMissing_12 (by decide +kernel)) <|
  XPr.cons (xs_zret rfl dX1_isMissing_13) <|
  XPr.nil
def pX1_becomes : List (Nat × XOp) := [(0, xo_al 0 1), (1, xo_il 1 2), (2, xo_putI 1 0 5), (5, xo_al 0 6), (6, xo_ic 0 7), (7, xo_ic 40 9), (9, xo_il 2 10), (10, xo_p2 f_min 13), (13, xo_p2 f_max 16), (16, xo_putI 1 1 19), (19, xo_ic 0 20), (20, xo_is 3 21), (21, xo_il 3 22), (22, xo_ic 40 24), (24, xo_ic_ge 40 27), (27, xo_al 0 28), (28, xo_get 1 2 31), (31, xo_il 3 32), (32, xo_ic 0 33), (33, xo_iast 34), (34, xo_inc 3 1 37), (37, xo_goto 21), (40, xo_vret)]
theorem sX1_becomes : XPr RX1 cX1_becomes 4 none 10 pX1_becomes :=
  XPr.cons (xs_aload_n dX1_becomes_0 rfl) <|
  XPr.cons (xs_iload_n dX1_becomes_1 rfl) <|
  XPr.cons (xs_putI (T := TX1) rfl gX1 tyX1_ok nmX1 (Nat.le_of_ble_eq_true rfl) gw_214 rfl (by decide +kernel) dX1_becomes_2) <|
  XPr.cons (xs_aload_n dX1_becomes_5 rfl) <|
  XPr.cons (xs_iconst dX1_becomes_6 (by decide +kernel)) <|
  XPr.cons (xs_bipush dX1_becomes_7 (by decide +kernel)) <|
  XPr.cons (xs_iload_n dX1_becomes_9 rfl) <|
  XPr.cons (xs_mmin gw_651 gw_316 gw_78 gw_317 dX1_becomes_10) <|
  XPr.cons (xs_mmax gw_652 gw_277 gw_78 gw_278 dX1_becomes_13) <|
  XPr.cons (xs_putI (T := TX1) rfl gX1 tyX1_ok nmX1 (Nat.le_of_ble_eq_true rfl) gw_216 rfl (by decide +kernel) dX1_becomes_16) <|
  XPr.cons (xs_iconst dX1_becomes_19 (by decide +kernel)) <|
  XPr.cons (xs_istore_n dX1_becomes_20 rfl (Nat.le_of_ble_eq_true rfl)) <|
  XPr.cons (xs_iload_n dX1_becomes_21 rfl) <|
  XPr.cons (xs_bipush dX1_becomes_22 (by decide +kernel)) <|
  XPr.cons (xs_ic_ge dX1_becomes_24 (by decide +kernel)) <|
  XPr.cons (xs_aload_n dX1_becomes_27 rfl) <|
  XPr.cons (xs_get (T := TX1) rfl gX1 (Nat.le_of_ble_eq_true rfl) gw_218 dX1_becomes_28) <|
  XPr.cons (xs_iload_n dX1_becomes_31 rfl) <|
  XPr.cons (xs_iconst dX1_becomes_32 (by decide +kernel)) <|
  XPr.cons (xs_iast dX1_becomes_33) <|
  XPr.cons (xs_iinc dX1_becomes_34 (by decide +kernel) (Nat.le_of_ble_eq_true rfl)) <|
  XPr.cons (xs_goto dX1_becomes_37 (by decide +kernel)) <|
  XPr.cons (xs_vret rfl dX1_becomes_40) <|
  XPr.nil
def pX1_holds : List (Nat × XOp) := [(0, xo_il 2 1), (1, xo_ic 0 2), (2, xo_al 0 3), (3, xo_get 1 1 6), (6, xo_p3 f_within 9), (9, xo_if_eq 30 12), (12, xo_il 1 13), (13, xo_ic 0 14), (14, xo_al 0 15), (15, xo_get 1 1 18), (18, xo_il 2 19), (19, xo_isub 20), (20, xo_p3 f_within 23), (23, xo_if_eq 30 26), (26, xo_ic 1 27), (27, xo_goto 31), (30, xo_ic 0 31), (31, xo_zret)]
theorem sX1_holds : XPr RX1 cX1_holds 3 (some .boolean) 10 pX1_holds :=
  XPr.cons (xs_iload_n dX1_holds_0 rfl) <|
  XPr.cons (xs_iconst dX1_holds_1 (by decide +kernel)) <|
  XPr.cons (xs_aload_n dX1_holds_2 rfl) <|
  XPr.cons (xs_get (T := TX1) rfl gX1 (Nat.le_of_ble_eq_true rfl) gw_216 dX1_holds_3) <|
  XPr.cons (xs_p3 (xs_callN (host := RX4) (by decide +kernel) gw_259 gw_72 gw_260 (by decide +kernel) (Nat.le_of_ble_eq_true rfl) dX1_holds_6) c_X4_within (Nat.le_of_ble_eq_true rfl)) <|
  XPr.cons (xs_if_eq dX1_holds_9 (by decide +kernel)) <|
  XPr.cons (xs_iload_n dX1_holds_12 rfl) <|
  XPr.cons (xs_iconst dX1_holds_13 (by decide +kernel)) <|
  XPr.cons (xs_aload_n dX1_holds_14 rfl) <|
  XPr.cons (xs_get (T := TX1) rfl gX1 (Nat.le_of_ble_eq_true rfl) gw_216 dX1_holds_15) <|
  XPr.cons (xs_iload_n dX1_holds_18 rfl) <|
  XPr.cons (xs_isub dX1_holds_19) <|
  XPr.cons (xs_p3 (xs_callN (host := RX4) (by decide +kernel) gw_259 gw_72 gw_260 (by decide +kernel) (Nat.le_of_ble_eq_true rfl) dX1_holds_20) c_X4_within (Nat.le_of_ble_eq_true rfl)) <|
  XPr.cons (xs_if_eq dX1_holds_23 (by decide +kernel)) <|
  XPr.cons (xs_iconst dX1_holds_26 (by decide +kernel)) <|
  XPr.cons (xs_goto dX1_holds_27 (by decide +kernel)) <|
  XPr.cons (xs_iconst dX1_holds_30 (by decide +kernel)) <|
  XPr.cons (xs_zret rfl dX1_holds_31) <|
  XPr.nil
def pX1_put : List (Nat × XOp) := [(0, xo_al 0 1), (1, xo_il 1 2), (2, xo_ic 1 3), (3, xo_callV yX1_holds cX1_holds 3 (some .boolean) 2 1 6), (6, xo_if_eq 41 9), (9, xo_al 0 10), (10, xo_get 1 2 13), (13, xo_il 1 14), (14, xo_al 0 15), (15, xo_get 1 0 18), (18, xo_if_ne 26 21), (21, xo_il 2 22), (22, xo_i2b 23), (23, xo_goto 40), (26, xo_al 0 27), (27, xo_get 1 0 30), (30, xo_ic 1 31), (31, xo_ic_ne 39 34), (34, xo_il 2 35), (35, xo_i2s 36), (36, xo_goto 40), (39, xo_il 2 40), (40, xo_iast 41), (41, xo_vret)]
theorem sX1_put : XPr RX1 cX1_put 3 none 10 pX1_put :=
  XPr.cons (xs_aload_n dX1_put_0 rfl) <|
  XPr.cons (xs_iload_n dX1_put_1 rfl) <|
  XPr.cons (xs_iconst dX1_put_2 (by decide +kernel)) <|
  XPr.cons (xs_callV (T := TX1) rfl gw_657 gw_658 gw_659 gw_76 gw_660 (by decide +kernel) (Nat.le_of_ble_eq_true rfl) dX1_put_3) <|
  XPr.cons (xs_if_eq dX1_put_6 (by decide +kernel)) <|
  XPr.cons (xs_aload_n dX1_put_9 rfl) <|
  XPr.cons (xs_get (T := TX1) rfl gX1 (Nat.le_of_ble_eq_true rfl) gw_218 dX1_put_10) <|
  XPr.cons (xs_iload_n dX1_put_13 rfl) <|
  XPr.cons (xs_aload_n dX1_put_14 rfl) <|
  XPr.cons (xs_get (T := TX1) rfl gX1 (Nat.le_of_ble_eq_true rfl) gw_214 dX1_put_15) <|
  XPr.cons (xs_if_ne dX1_put_18 (by decide +kernel)) <|
  XPr.cons (xs_iload_n dX1_put_21 rfl) <|
  XPr.cons (xs_i2b dX1_put_22) <|
  XPr.cons (xs_goto dX1_put_23 (by decide +kernel)) <|
  XPr.cons (xs_aload_n dX1_put_26 rfl) <|
  XPr.cons (xs_get (T := TX1) rfl gX1 (Nat.le_of_ble_eq_true rfl) gw_214 dX1_put_27) <|
  XPr.cons (xs_iconst dX1_put_30 (by decide +kernel)) <|
  XPr.cons (xs_ic_ne dX1_put_31 (by decide +kernel)) <|
  XPr.cons (xs_iload_n dX1_put_34 rfl) <|
  XPr.cons (xs_i2s dX1_put_35) <|
  XPr.cons (xs_goto dX1_put_36 (by decide +kernel)) <|
  XPr.cons (xs_iload_n dX1_put_39 rfl) <|
  XPr.cons (xs_iast dX1_put_40) <|
  XPr.cons (xs_vret rfl dX1_put_41) <|
  XPr.nil
def pX2_becomes_0 : List (Nat × XOp) := [(0, xo_al 1 1), (1, xo_get 2 0 4), (4, xo_ic 0 5), (5, xo_al 0 6), (6, xo_get 2 0 9), (9, xo_ic 0 10), (10, xo_ic 10 12), (12, xo_acopy 15), (15, xo_al 1 16), (16, xo_get 2 1 19), (19, xo_ic 0 20), (20, xo_al 0 21), (21, xo_get 2 1 24), (24, xo_ic 0 25), (25, xo_ic 10 27), (27, xo_acopy 30), (30, xo_al 0 31), (31, xo_al 1 32), (32, xo_get 2 2 35), (35, xo_putI 2 2 38), (38, xo_al 1 39), (39, xo_get 2 3 42), (42, xo_ic 0 43), (43, xo_al 0 44), (44, xo_get 2 3 47), (47, xo_ic 0 48), (48, xo_ic 5 49), (49, xo_acopy 52), (52, xo_al 1 53), (53, xo_get 2 4 56), (56, xo_ic 0 57), (57, xo_al 0 58), (58, xo_get 2 4 61), (61, xo_ic 0 62), (62, xo_ic 5 63), (63, xo_acopy 66), (66, xo_al 1 67), (67, xo_get 2 5 70), (70, xo_ic 0 71), (71, xo_al 0 72)]
theorem sX2_becomes_0 : XPr RX2 cX2_becomes 2 none 10 pX2_becomes_0 :=
  XPr.cons (xs_aload_n dX2_becomes_0 rfl) <|
  XPr.cons (xs_get (T := TX2) rfl gX2 (Nat.le_of_ble_eq_true rfl) gw_159 dX2_becomes_1) <|
  XPr.cons (xs_iconst dX2_becomes_4 (by decide +kernel)) <|
  XPr.cons (xs_aload_n dX2_becomes_5 rfl) <|
  XPr.cons (xs_get (T := TX2) rfl gX2 (Nat.le_of_ble_eq_true rfl) gw_159 dX2_becomes_6) <|
  XPr.cons (xs_iconst dX2_becomes_9 (by decide +kernel)) <|
  XPr.cons (xs_bipush dX2_becomes_10 (by decide +kernel)) <|
  XPr.cons (xs_acopy gw_559 gw_561 gw_560 gw_84 dX2_becomes_12) <|
  XPr.cons (xs_aload_n dX2_becomes_15 rfl) <|
  XPr.cons (xs_get (T := TX2) rfl gX2 (Nat.le_of_ble_eq_true rfl) gw_161 dX2_becomes_16) <|
  XPr.cons (xs_iconst dX2_becomes_19 (by decide +kernel)) <|
  XPr.cons (xs_aload_n dX2_becomes_20 rfl) <|
  XPr.cons (xs_get (T := TX2) rfl gX2 (Nat.le_of_ble_eq_true rfl) gw_161 dX2_becomes_21) <|
  XPr.cons (xs_iconst dX2_becomes_24 (by decide +kernel)) <|
  XPr.cons (xs_bipush dX2_becomes_25 (by decide +kernel)) <|
  XPr.cons (xs_acopy gw_559 gw_561 gw_560 gw_84 dX2_becomes_27) <|
  XPr.cons (xs_aload_n dX2_becomes_30 rfl) <|
  XPr.cons (xs_aload_n dX2_becomes_31 rfl) <|
  XPr.cons (xs_get (T := TX2) rfl gX2 (Nat.le_of_ble_eq_true rfl) gw_163 dX2_becomes_32) <|
  XPr.cons (xs_putI (T := TX2) rfl gX2 tyX2_ok nmX2 (Nat.le_of_ble_eq_true rfl) gw_163 rfl (by decide +kernel) dX2_becomes_35) <|
  XPr.cons (xs_aload_n dX2_becomes_38 rfl) <|
  XPr.cons (xs_get (T := TX2) rfl gX2 (Nat.le_of_ble_eq_true rfl) gw_165 dX2_becomes_39) <|
  XPr.cons (xs_iconst dX2_becomes_42 (by decide +kernel)) <|
  XPr.cons (xs_aload_n dX2_becomes_43 rfl) <|
  XPr.cons (xs_get (T := TX2) rfl gX2 (Nat.le_of_ble_eq_true rfl) gw_165 dX2_becomes_44) <|
  XPr.cons (xs_iconst dX2_becomes_47 (by decide +kernel)) <|
  XPr.cons (xs_iconst dX2_becomes_48 (by decide +kernel)) <|
  XPr.cons (xs_acopy gw_559 gw_561 gw_560 gw_84 dX2_becomes_49) <|
  XPr.cons (xs_aload_n dX2_becomes_52 rfl) <|
  XPr.cons (xs_get (T := TX2) rfl gX2 (Nat.le_of_ble_eq_true rfl) gw_167 dX2_becomes_53) <|
  XPr.cons (xs_iconst dX2_becomes_56 (by decide +kernel)) <|
  XPr.cons (xs_aload_n dX2_becomes_57 rfl) <|
  XPr.cons (xs_get (T := TX2) rfl gX2 (Nat.le_of_ble_eq_true rfl) gw_167 dX2_becomes_58) <|
  XPr.cons (xs_iconst dX2_becomes_61 (by decide +kernel)) <|
  XPr.cons (xs_iconst dX2_becomes_62 (by decide +kernel)) <|
  XPr.cons (xs_acopy gw_559 gw_561 gw_560 gw_84 dX2_becomes_63) <|
  XPr.cons (xs_aload_n dX2_becomes_66 rfl) <|
  XPr.cons (xs_get (T := TX2) rfl gX2 (Nat.le_of_ble_eq_true rfl) gw_169 dX2_becomes_67) <|
  XPr.cons (xs_iconst dX2_becomes_70 (by decide +kernel)) <|
  XPr.cons (xs_aload_n dX2_becomes_71 rfl) <|
  XPr.nil
def pX2_becomes_1 : List (Nat × XOp) := [(72, xo_get 2 5 75), (75, xo_ic 0 76), (76, xo_ic 5 77), (77, xo_acopy 80), (80, xo_al 1 81), (81, xo_get 2 6 84), (84, xo_ic 0 85), (85, xo_al 0 86), (86, xo_get 2 6 89), (89, xo_ic 0 90), (90, xo_ic 5 91), (91, xo_acopy 94), (94, xo_al 0 95), (95, xo_al 1 96), (96, xo_get 2 7 99), (99, xo_putI 2 7 102), (102, xo_al 0 103), (103, xo_al 1 104), (104, xo_get 2 8 107), (107, xo_putI 2 8 110), (110, xo_al 0 111), (111, xo_al 1 112), (112, xo_get 2 9 115), (115, xo_putI 2 9 118), (118, xo_al 0 119), (119, xo_al 1 120), (120, xo_get 2 10 123), (123, xo_putR 2 10 126), (126, xo_vret)]
theorem sX2_becomes_1 : XPr RX2 cX2_becomes 2 none 10 pX2_becomes_1 :=
  XPr.cons (xs_get (T := TX2) rfl gX2 (Nat.le_of_ble_eq_true rfl) gw_169 dX2_becomes_72) <|
  XPr.cons (xs_iconst dX2_becomes_75 (by decide +kernel)) <|
  XPr.cons (xs_iconst dX2_becomes_76 (by decide +kernel)) <|
  XPr.cons (xs_acopy gw_559 gw_561 gw_560 gw_84 dX2_becomes_77) <|
  XPr.cons (xs_aload_n dX2_becomes_80 rfl) <|
  XPr.cons (xs_get (T := TX2) rfl gX2 (Nat.le_of_ble_eq_true rfl) gw_171 dX2_becomes_81) <|
  XPr.cons (xs_iconst dX2_becomes_84 (by decide +kernel)) <|
  XPr.cons (xs_aload_n dX2_becomes_85 rfl) <|
  XPr.cons (xs_get (T := TX2) rfl gX2 (Nat.le_of_ble_eq_true rfl) gw_171 dX2_becomes_86) <|
  XPr.cons (xs_iconst dX2_becomes_89 (by decide +kernel)) <|
  XPr.cons (xs_iconst dX2_becomes_90 (by decide +kernel)) <|
  XPr.cons (xs_acopy gw_559 gw_561 gw_560 gw_84 dX2_becomes_91) <|
  XPr.cons (xs_aload_n dX2_becomes_94 rfl) <|
  XPr.cons (xs_aload_n dX2_becomes_95 rfl) <|
  XPr.cons (xs_get (T := TX2) rfl gX2 (Nat.le_of_ble_eq_true rfl) gw_174 dX2_becomes_96) <|
  XPr.cons (xs_putI (T := TX2) rfl gX2 tyX2_ok nmX2 (Nat.le_of_ble_eq_true rfl) gw_174 rfl (by decide +kernel) dX2_becomes_99) <|
  XPr.cons (xs_aload_n dX2_becomes_102 rfl) <|
  XPr.cons (xs_aload_n dX2_becomes_103 rfl) <|
  XPr.cons (xs_get (T := TX2) rfl gX2 (Nat.le_of_ble_eq_true rfl) gw_175 dX2_becomes_104) <|
  XPr.cons (xs_putI (T := TX2) rfl gX2 tyX2_ok nmX2 (Nat.le_of_ble_eq_true rfl) gw_175 rfl (by decide +kernel) dX2_becomes_107) <|
  XPr.cons (xs_aload_n dX2_becomes_110 rfl) <|
  XPr.cons (xs_aload_n dX2_becomes_111 rfl) <|
  XPr.cons (xs_get (T := TX2) rfl gX2 (Nat.le_of_ble_eq_true rfl) gw_178 dX2_becomes_112) <|
  XPr.cons (xs_putI (T := TX2) rfl gX2 tyX2_ok nmX2 (Nat.le_of_ble_eq_true rfl) gw_178 rfl (by decide +kernel) dX2_becomes_115) <|
  XPr.cons (xs_aload_n dX2_becomes_118 rfl) <|
  XPr.cons (xs_aload_n dX2_becomes_119 rfl) <|
  XPr.cons (xs_get (T := TX2) rfl gX2 (Nat.le_of_ble_eq_true rfl) gw_179 dX2_becomes_120) <|
  XPr.cons (xs_putR (C2 := "WhoBuiltSails$Text") (T := TX2) rfl gX2 tyX2_ok nmX2 (Nat.le_of_ble_eq_true rfl) gw_179 rfl (by decide +kernel) dX2_becomes_123) <|
  XPr.cons (xs_vret rfl dX2_becomes_126) <|
  XPr.nil
def pX2_becomes : List (Nat × XOp) := pX2_becomes_0 ++ pX2_becomes_1
theorem sX2_becomes : XPr RX2 cX2_becomes 2 none 10 pX2_becomes := (sX2_becomes_0).app sX2_becomes_1
def pX2_has : List (Nat × XOp) := [(0, xo_il 1 1), (1, xo_ic 0 2), (2, xo_al 0 3), (3, xo_get 2 2 6), (6, xo_ic 1 7), (7, xo_isub 8), (8, xo_p3 f_within 11), (11, xo_zret)]
theorem sX2_has : XPr RX2 cX2_has 2 (some .boolean) 10 pX2_has :=
  XPr.cons (xs_iload_n dX2_has_0 rfl) <|
  XPr.cons (xs_iconst dX2_has_1 (by decide +kernel)) <|
  XPr.cons (xs_aload_n dX2_has_2 rfl) <|
  XPr.cons (xs_get (T := TX2) rfl gX2 (Nat.le_of_ble_eq_true rfl) gw_163 dX2_has_3) <|
  XPr.cons (xs_iconst dX2_has_6 (by decide +kernel)) <|
  XPr.cons (xs_isub dX2_has_7) <|
  XPr.cons (xs_p3 (xs_callN (host := RX4) (by decide +kernel) gw_259 gw_72 gw_260 (by decide +kernel) (Nat.le_of_ble_eq_true rfl) dX2_has_8) c_X4_within (Nat.le_of_ble_eq_true rfl)) <|
  XPr.cons (xs_zret rfl dX2_has_11) <|
  XPr.nil
def pX2_isDown : List (Nat × XOp) := [(0, xo_al 0 1), (1, xo_get 2 9 4), (4, xo_ic 100 6), (6, xo_ic_lt 13 9), (9, xo_ic 1 10), (10, xo_goto 14), (13, xo_ic 0 14), (14, xo_zret)]
theorem sX2_isDown : XPr RX2 cX2_isDown 1 (some .boolean) 10 pX2_isDown :=
  XPr.cons (xs_aload_n dX2_isDown_0 rfl) <|
  XPr.cons (xs_get (T := TX2) rfl gX2 (Nat.le_of_ble_eq_true rfl) gw_178 dX2_isDown_1) <|
  XPr.cons (xs_bipush dX2_isDown_4 (by decide +kernel)) <|
  XPr.cons (xs_ic_lt dX2_isDown_6 (by decide +kernel)) <|
  XPr.cons (xs_iconst dX2_isDown_9 (by decide +kernel)) <|
  XPr.cons (xs_goto dX2_isDown_10 (by decide +kernel)) <|
  XPr.cons (xs_iconst dX2_isDown_13 (by decide +kernel)) <|
  XPr.cons (xs_zret rfl dX2_isDown_14) <|
  XPr.nil
def pX2_comes_0 : List (Nat × XOp) := [(0, xo_al 0 1), (1, xo_get 2 2 4), (4, xo_ic 0 5), (5, xo_ic 4 6), (6, xo_p3 f_within 9), (9, xo_if_ne 15 12), (12, xo_ic (-4) 14), (14, xo_iret), (15, xo_al 0 16), (16, xo_get 2 3 19), (19, xo_al 0 20), (20, xo_get 2 2 23), (23, xo_il 1 24), (24, xo_iast 25), (25, xo_al 0 26), (26, xo_get 2 4 29), (29, xo_al 0 30), (30, xo_get 2 2 33), (33, xo_il 2 34), (34, xo_iast 35), (35, xo_al 0 36), (36, xo_get 2 5 39), (39, xo_al 0 40), (40, xo_get 2 2 43), (43, xo_il 3 44), (44, xo_iast 45), (45, xo_al 0 46), (46, xo_get 2 6 49), (49, xo_al 0 50), (50, xo_get 2 2 53), (53, xo_ic 0 54), (54, xo_iast 55), (55, xo_al 0 56), (56, xo_dupR 57), (57, xo_get 2 2 60), (60, xo_ic 1 61), (61, xo_iadd 62), (62, xo_putI 2 2 65), (65, xo_al 0 66), (66, xo_get 2 2 69)]
theorem sX2_comes_0 : XPr RX2 cX2_comes 4 (some .int) 10 pX2_comes_0 :=
  XPr.cons (xs_aload_n dX2_comes_0 rfl) <|
  XPr.cons (xs_get (T := TX2) rfl gX2 (Nat.le_of_ble_eq_true rfl) gw_163 dX2_comes_1) <|
  XPr.cons (xs_iconst dX2_comes_4 (by decide +kernel)) <|
  XPr.cons (xs_iconst dX2_comes_5 (by decide +kernel)) <|
  XPr.cons (xs_p3 (xs_callN (host := RX4) (by decide +kernel) gw_259 gw_72 gw_260 (by decide +kernel) (Nat.le_of_ble_eq_true rfl) dX2_comes_6) c_X4_within (Nat.le_of_ble_eq_true rfl)) <|
  XPr.cons (xs_if_ne dX2_comes_9 (by decide +kernel)) <|
  XPr.cons (xs_bipush dX2_comes_12 (by decide +kernel)) <|
  XPr.cons (xs_iret rfl dX2_comes_14) <|
  XPr.cons (xs_aload_n dX2_comes_15 rfl) <|
  XPr.cons (xs_get (T := TX2) rfl gX2 (Nat.le_of_ble_eq_true rfl) gw_165 dX2_comes_16) <|
  XPr.cons (xs_aload_n dX2_comes_19 rfl) <|
  XPr.cons (xs_get (T := TX2) rfl gX2 (Nat.le_of_ble_eq_true rfl) gw_163 dX2_comes_20) <|
  XPr.cons (xs_iload_n dX2_comes_23 rfl) <|
  XPr.cons (xs_iast dX2_comes_24) <|
  XPr.cons (xs_aload_n dX2_comes_25 rfl) <|
  XPr.cons (xs_get (T := TX2) rfl gX2 (Nat.le_of_ble_eq_true rfl) gw_167 dX2_comes_26) <|
  XPr.cons (xs_aload_n dX2_comes_29 rfl) <|
  XPr.cons (xs_get (T := TX2) rfl gX2 (Nat.le_of_ble_eq_true rfl) gw_163 dX2_comes_30) <|
  XPr.cons (xs_iload_n dX2_comes_33 rfl) <|
  XPr.cons (xs_iast dX2_comes_34) <|
  XPr.cons (xs_aload_n dX2_comes_35 rfl) <|
  XPr.cons (xs_get (T := TX2) rfl gX2 (Nat.le_of_ble_eq_true rfl) gw_169 dX2_comes_36) <|
  XPr.cons (xs_aload_n dX2_comes_39 rfl) <|
  XPr.cons (xs_get (T := TX2) rfl gX2 (Nat.le_of_ble_eq_true rfl) gw_163 dX2_comes_40) <|
  XPr.cons (xs_iload_n dX2_comes_43 rfl) <|
  XPr.cons (xs_iast dX2_comes_44) <|
  XPr.cons (xs_aload_n dX2_comes_45 rfl) <|
  XPr.cons (xs_get (T := TX2) rfl gX2 (Nat.le_of_ble_eq_true rfl) gw_171 dX2_comes_46) <|
  XPr.cons (xs_aload_n dX2_comes_49 rfl) <|
  XPr.cons (xs_get (T := TX2) rfl gX2 (Nat.le_of_ble_eq_true rfl) gw_163 dX2_comes_50) <|
  XPr.cons (xs_iconst dX2_comes_53 (by decide +kernel)) <|
  XPr.cons (xs_iast dX2_comes_54) <|
  XPr.cons (xs_aload_n dX2_comes_55 rfl) <|
  XPr.cons (xs_dupR dX2_comes_56) <|
  XPr.cons (xs_get (T := TX2) rfl gX2 (Nat.le_of_ble_eq_true rfl) gw_163 dX2_comes_57) <|
  XPr.cons (xs_iconst dX2_comes_60 (by decide +kernel)) <|
  XPr.cons (xs_iadd dX2_comes_61) <|
  XPr.cons (xs_putI (T := TX2) rfl gX2 tyX2_ok nmX2 (Nat.le_of_ble_eq_true rfl) gw_163 rfl (by decide +kernel) dX2_comes_62) <|
  XPr.cons (xs_aload_n dX2_comes_65 rfl) <|
  XPr.cons (xs_get (T := TX2) rfl gX2 (Nat.le_of_ble_eq_true rfl) gw_163 dX2_comes_66) <|
  XPr.nil
def pX2_comes_1 : List (Nat × XOp) := [(69, xo_ic 1 70), (70, xo_isub 71), (71, xo_iret)]
theorem sX2_comes_1 : XPr RX2 cX2_comes 4 (some .int) 10 pX2_comes_1 :=
  XPr.cons (xs_iconst dX2_comes_69 (by decide +kernel)) <|
  XPr.cons (xs_isub dX2_comes_70) <|
  XPr.cons (xs_iret rfl dX2_comes_71) <|
  XPr.nil
def pX2_comes : List (Nat × XOp) := pX2_comes_0 ++ pX2_comes_1
theorem sX2_comes : XPr RX2 cX2_comes 4 (some .int) 10 pX2_comes := (sX2_comes_0).app sX2_comes_1
def pX2_who : List (Nat × XOp) := [(0, xo_ic 0 1), (1, xo_is 2 2), (2, xo_ic 0 3), (3, xo_is 3 4), (4, xo_il 3 5), (5, xo_al 0 6), (6, xo_get 2 2 9), (9, xo_ic_ge 34 12), (12, xo_al 0 13), (13, xo_get 2 6 16), (16, xo_il 3 17), (17, xo_iald 18), (18, xo_il 1 19), (19, xo_ic_ne 28 22), (22, xo_il 2 23), (23, xo_ic 1 24), (24, xo_il 3 25), (25, xo_ishl 26), (26, xo_ior 27), (27, xo_is 2 28), (28, xo_inc 3 1 31), (31, xo_goto 4), (34, xo_il 2 35), (35, xo_iret)]
theorem sX2_who : XPr RX2 cX2_who 4 (some .int) 10 pX2_who :=
  XPr.cons (xs_iconst dX2_who_0 (by decide +kernel)) <|
  XPr.cons (xs_istore_n dX2_who_1 rfl (Nat.le_of_ble_eq_true rfl)) <|
  XPr.cons (xs_iconst dX2_who_2 (by decide +kernel)) <|
  XPr.cons (xs_istore_n dX2_who_3 rfl (Nat.le_of_ble_eq_true rfl)) <|
  XPr.cons (xs_iload_n dX2_who_4 rfl) <|
  XPr.cons (xs_aload_n dX2_who_5 rfl) <|
  XPr.cons (xs_get (T := TX2) rfl gX2 (Nat.le_of_ble_eq_true rfl) gw_163 dX2_who_6) <|
  XPr.cons (xs_ic_ge dX2_who_9 (by decide +kernel)) <|
  XPr.cons (xs_aload_n dX2_who_12 rfl) <|
  XPr.cons (xs_get (T := TX2) rfl gX2 (Nat.le_of_ble_eq_true rfl) gw_171 dX2_who_13) <|
  XPr.cons (xs_iload_n dX2_who_16 rfl) <|
  XPr.cons (xs_iald dX2_who_17) <|
  XPr.cons (xs_iload_n dX2_who_18 rfl) <|
  XPr.cons (xs_ic_ne dX2_who_19 (by decide +kernel)) <|
  XPr.cons (xs_iload_n dX2_who_22 rfl) <|
  XPr.cons (xs_iconst dX2_who_23 (by decide +kernel)) <|
  XPr.cons (xs_iload_n dX2_who_24 rfl) <|
  XPr.cons (xs_ishl dX2_who_25) <|
  XPr.cons (xs_ior dX2_who_26) <|
  XPr.cons (xs_istore_n dX2_who_27 rfl (Nat.le_of_ble_eq_true rfl)) <|
  XPr.cons (xs_iinc dX2_who_28 (by decide +kernel) (Nat.le_of_ble_eq_true rfl)) <|
  XPr.cons (xs_goto dX2_who_31 (by decide +kernel)) <|
  XPr.cons (xs_iload_n dX2_who_34 rfl) <|
  XPr.cons (xs_iret rfl dX2_who_35) <|
  XPr.nil
def pX2_allMove : List (Nat × XOp) := [(0, xo_ic 0 1), (1, xo_is 3 2), (2, xo_il 3 3), (3, xo_al 0 4), (4, xo_get 2 2 7), (7, xo_ic_ge 33 10), (10, xo_al 0 11), (11, xo_get 2 6 14), (14, xo_il 3 15), (15, xo_iald 16), (16, xo_il 1 17), (17, xo_ic_ne 27 20), (20, xo_al 0 21), (21, xo_get 2 6 24), (24, xo_il 3 25), (25, xo_il 2 26), (26, xo_iast 27), (27, xo_inc 3 1 30), (30, xo_goto 2), (33, xo_vret)]
theorem sX2_allMove : XPr RX2 cX2_allMove 4 none 10 pX2_allMove :=
  XPr.cons (xs_iconst dX2_allMove_0 (by decide +kernel)) <|
  XPr.cons (xs_istore_n dX2_allMove_1 rfl (Nat.le_of_ble_eq_true rfl)) <|
  XPr.cons (xs_iload_n dX2_allMove_2 rfl) <|
  XPr.cons (xs_aload_n dX2_allMove_3 rfl) <|
  XPr.cons (xs_get (T := TX2) rfl gX2 (Nat.le_of_ble_eq_true rfl) gw_163 dX2_allMove_4) <|
  XPr.cons (xs_ic_ge dX2_allMove_7 (by decide +kernel)) <|
  XPr.cons (xs_aload_n dX2_allMove_10 rfl) <|
  XPr.cons (xs_get (T := TX2) rfl gX2 (Nat.le_of_ble_eq_true rfl) gw_171 dX2_allMove_11) <|
  XPr.cons (xs_iload_n dX2_allMove_14 rfl) <|
  XPr.cons (xs_iald dX2_allMove_15) <|
  XPr.cons (xs_iload_n dX2_allMove_16 rfl) <|
  XPr.cons (xs_ic_ne dX2_allMove_17 (by decide +kernel)) <|
  XPr.cons (xs_aload_n dX2_allMove_20 rfl) <|
  XPr.cons (xs_get (T := TX2) rfl gX2 (Nat.le_of_ble_eq_true rfl) gw_171 dX2_allMove_21) <|
  XPr.cons (xs_iload_n dX2_allMove_24 rfl) <|
  XPr.cons (xs_iload_n dX2_allMove_25 rfl) <|
  XPr.cons (xs_iast dX2_allMove_26) <|
  XPr.cons (xs_iinc dX2_allMove_27 (by decide +kernel) (Nat.le_of_ble_eq_true rfl)) <|
  XPr.cons (xs_goto dX2_allMove_30 (by decide +kernel)) <|
  XPr.cons (xs_vret rfl dX2_allMove_33) <|
  XPr.nil
def pX2_madeBy : List (Nat × XOp) := [(0, xo_ic 0 1), (1, xo_is 2 2), (2, xo_ic 0 3), (3, xo_is 3 4), (4, xo_il 3 5), (5, xo_ic 10 7), (7, xo_ic_ge 32 10), (10, xo_al 0 11), (11, xo_get 2 0 14), (14, xo_il 3 15), (15, xo_iald 16), (16, xo_il 1 17), (17, xo_ic_ne 26 20), (20, xo_il 2 21), (21, xo_ic 1 22), (22, xo_il 3 23), (23, xo_ishl 24), (24, xo_ior 25), (25, xo_is 2 26), (26, xo_inc 3 1 29), (29, xo_goto 4), (32, xo_il 2 33), (33, xo_iret)]
theorem sX2_madeBy : XPr RX2 cX2_madeBy 4 (some .int) 10 pX2_madeBy :=
  XPr.cons (xs_iconst dX2_madeBy_0 (by decide +kernel)) <|
  XPr.cons (xs_istore_n dX2_madeBy_1 rfl (Nat.le_of_ble_eq_true rfl)) <|
  XPr.cons (xs_iconst dX2_madeBy_2 (by decide +kernel)) <|
  XPr.cons (xs_istore_n dX2_madeBy_3 rfl (Nat.le_of_ble_eq_true rfl)) <|
  XPr.cons (xs_iload_n dX2_madeBy_4 rfl) <|
  XPr.cons (xs_bipush dX2_madeBy_5 (by decide +kernel)) <|
  XPr.cons (xs_ic_ge dX2_madeBy_7 (by decide +kernel)) <|
  XPr.cons (xs_aload_n dX2_madeBy_10 rfl) <|
  XPr.cons (xs_get (T := TX2) rfl gX2 (Nat.le_of_ble_eq_true rfl) gw_159 dX2_madeBy_11) <|
  XPr.cons (xs_iload_n dX2_madeBy_14 rfl) <|
  XPr.cons (xs_iald dX2_madeBy_15) <|
  XPr.cons (xs_iload_n dX2_madeBy_16 rfl) <|
  XPr.cons (xs_ic_ne dX2_madeBy_17 (by decide +kernel)) <|
  XPr.cons (xs_iload_n dX2_madeBy_20 rfl) <|
  XPr.cons (xs_iconst dX2_madeBy_21 (by decide +kernel)) <|
  XPr.cons (xs_iload_n dX2_madeBy_22 rfl) <|
  XPr.cons (xs_ishl dX2_madeBy_23) <|
  XPr.cons (xs_ior dX2_madeBy_24) <|
  XPr.cons (xs_istore_n dX2_madeBy_25 rfl (Nat.le_of_ble_eq_true rfl)) <|
  XPr.cons (xs_iinc dX2_madeBy_26 (by decide +kernel) (Nat.le_of_ble_eq_true rfl)) <|
  XPr.cons (xs_goto dX2_madeBy_29 (by decide +kernel)) <|
  XPr.cons (xs_iload_n dX2_madeBy_32 rfl) <|
  XPr.cons (xs_iret rfl dX2_madeBy_33) <|
  XPr.nil
def pX2_partsMade : List (Nat × XOp) := [(0, xo_ic 10 2), (2, xo_al 0 3), (3, xo_ic (-1) 4), (4, xo_callV yX2_madeBy cX2_madeBy 4 (some .int) 1 2 7), (7, xo_p1 f_bits 10), (10, xo_isub 11), (11, xo_iret)]
theorem sX2_partsMade : XPr RX2 cX2_partsMade 1 (some .int) 10 pX2_partsMade :=
  XPr.cons (xs_bipush dX2_partsMade_0 (by decide +kernel)) <|
  XPr.cons (xs_aload_n dX2_partsMade_2 rfl) <|
  XPr.cons (xs_iconst dX2_partsMade_3 (by decide +kernel)) <|
  XPr.cons (xs_callV (T := TX2) rfl gw_345 gw_292 gw_293 gw_75 gw_294 (by decide +kernel) (Nat.le_of_ble_eq_true rfl) dX2_partsMade_4) <|
  XPr.cons (xs_p1 (xs_callS gw_322 gw_323 gw_79 gw_324 (by decide +kernel) (Nat.le_of_ble_eq_true rfl) dX2_partsMade_7) c_J6_bitCount_0f7a4 (Nat.le_of_ble_eq_true rfl)) <|
  XPr.cons (xs_isub dX2_partsMade_10) <|
  XPr.cons (xs_iret rfl dX2_partsMade_11) <|
  XPr.nil
def pX2_nextUnmade : List (Nat × XOp) := [(0, xo_ic 0 1), (1, xo_il 1 2), (2, xo_p2 f_max 5), (5, xo_is 2 6), (6, xo_il 2 7), (7, xo_ic 10 9), (9, xo_ic_ge 30 12), (12, xo_al 0 13), (13, xo_get 2 0 16), (16, xo_il 2 17), (17, xo_iald 18), (18, xo_ic (-1) 19), (19, xo_ic_ne 24 22), (22, xo_il 2 23), (23, xo_iret), (24, xo_inc 2 1 27), (27, xo_goto 6), (30, xo_ic (-1) 31), (31, xo_iret)]
theorem sX2_nextUnmade : XPr RX2 cX2_nextUnmade 3 (some .int) 10 pX2_nextUnmade :=
  XPr.cons (xs_iconst dX2_nextUnmade_0 (by decide +kernel)) <|
  XPr.cons (xs_iload_n dX2_nextUnmade_1 rfl) <|
  XPr.cons (xs_mmax gw_276 gw_277 gw_78 gw_278 dX2_nextUnmade_2) <|
  XPr.cons (xs_istore_n dX2_nextUnmade_5 rfl (Nat.le_of_ble_eq_true rfl)) <|
  XPr.cons (xs_iload_n dX2_nextUnmade_6 rfl) <|
  XPr.cons (xs_bipush dX2_nextUnmade_7 (by decide +kernel)) <|
  XPr.cons (xs_ic_ge dX2_nextUnmade_9 (by decide +kernel)) <|
  XPr.cons (xs_aload_n dX2_nextUnmade_12 rfl) <|
  XPr.cons (xs_get (T := TX2) rfl gX2 (Nat.le_of_ble_eq_true rfl) gw_159 dX2_nextUnmade_13) <|
  XPr.cons (xs_iload_n dX2_nextUnmade_16 rfl) <|
  XPr.cons (xs_iald dX2_nextUnmade_17) <|
  XPr.cons (xs_iconst dX2_nextUnmade_18 (by decide +kernel)) <|
  XPr.cons (xs_ic_ne dX2_nextUnmade_19 (by decide +kernel)) <|
  XPr.cons (xs_iload_n dX2_nextUnmade_22 rfl) <|
  XPr.cons (xs_iret rfl dX2_nextUnmade_23) <|
  XPr.cons (xs_iinc dX2_nextUnmade_24 (by decide +kernel) (Nat.le_of_ble_eq_true rfl)) <|
  XPr.cons (xs_goto dX2_nextUnmade_27 (by decide +kernel)) <|
  XPr.cons (xs_iconst dX2_nextUnmade_30 (by decide +kernel)) <|
  XPr.cons (xs_iret rfl dX2_nextUnmade_31) <|
  XPr.nil
def pX2_leastSound : List (Nat × XOp) := [(0, xo_ic (-1) 1), (1, xo_is 2 2), (2, xo_ic 100 4), (4, xo_is 3 5), (5, xo_ic 0 6), (6, xo_is 4 8), (8, xo_il 4 10), (10, xo_ic 10 12), (12, xo_ic_ge 54 15), (15, xo_al 0 16), (16, xo_get 2 0 19), (19, xo_il 4 21), (21, xo_iald 22), (22, xo_il 1 23), (23, xo_ic_ne 48 26), (26, xo_al 0 27), (27, xo_get 2 1 30), (30, xo_il 4 32), (32, xo_iald 33), (33, xo_il 3 34), (34, xo_ic_ge 48 37), (37, xo_il 4 39), (39, xo_is 2 40), (40, xo_al 0 41), (41, xo_get 2 1 44), (44, xo_il 4 46), (46, xo_iald 47), (47, xo_is 3 48), (48, xo_inc 4 1 51), (51, xo_goto 8), (54, xo_il 2 55), (55, xo_iret)]
theorem sX2_leastSound : XPr RX2 cX2_leastSound 5 (some .int) 10 pX2_leastSound :=
  XPr.cons (xs_iconst dX2_leastSound_0 (by decide +kernel)) <|
  XPr.cons (xs_istore_n dX2_leastSound_1 rfl (Nat.le_of_ble_eq_true rfl)) <|
  XPr.cons (xs_bipush dX2_leastSound_2 (by decide +kernel)) <|
  XPr.cons (xs_istore_n dX2_leastSound_4 rfl (Nat.le_of_ble_eq_true rfl)) <|
  XPr.cons (xs_iconst dX2_leastSound_5 (by decide +kernel)) <|
  XPr.cons (xs_istore dX2_leastSound_6 (Nat.le_of_ble_eq_true rfl)) <|
  XPr.cons (xs_iload dX2_leastSound_8) <|
  XPr.cons (xs_bipush dX2_leastSound_10 (by decide +kernel)) <|
  XPr.cons (xs_ic_ge dX2_leastSound_12 (by decide +kernel)) <|
  XPr.cons (xs_aload_n dX2_leastSound_15 rfl) <|
  XPr.cons (xs_get (T := TX2) rfl gX2 (Nat.le_of_ble_eq_true rfl) gw_159 dX2_leastSound_16) <|
  XPr.cons (xs_iload dX2_leastSound_19) <|
  XPr.cons (xs_iald dX2_leastSound_21) <|
  XPr.cons (xs_iload_n dX2_leastSound_22 rfl) <|
  XPr.cons (xs_ic_ne dX2_leastSound_23 (by decide +kernel)) <|
  XPr.cons (xs_aload_n dX2_leastSound_26 rfl) <|
  XPr.cons (xs_get (T := TX2) rfl gX2 (Nat.le_of_ble_eq_true rfl) gw_161 dX2_leastSound_27) <|
  XPr.cons (xs_iload dX2_leastSound_30) <|
  XPr.cons (xs_iald dX2_leastSound_32) <|
  XPr.cons (xs_iload_n dX2_leastSound_33 rfl) <|
  XPr.cons (xs_ic_ge dX2_leastSound_34 (by decide +kernel)) <|
  XPr.cons (xs_iload dX2_leastSound_37) <|
  XPr.cons (xs_istore_n dX2_leastSound_39 rfl (Nat.le_of_ble_eq_true rfl)) <|
  XPr.cons (xs_aload_n dX2_leastSound_40 rfl) <|
  XPr.cons (xs_get (T := TX2) rfl gX2 (Nat.le_of_ble_eq_true rfl) gw_161 dX2_leastSound_41) <|
  XPr.cons (xs_iload dX2_leastSound_44) <|
  XPr.cons (xs_iald dX2_leastSound_46) <|
  XPr.cons (xs_istore_n dX2_leastSound_47 rfl (Nat.le_of_ble_eq_true rfl)) <|
  XPr.cons (xs_iinc dX2_leastSound_48 (by decide +kernel) (Nat.le_of_ble_eq_true rfl)) <|
  XPr.cons (xs_goto dX2_leastSound_51 (by decide +kernel)) <|
  XPr.cons (xs_iload_n dX2_leastSound_54 rfl) <|
  XPr.cons (xs_iret rfl dX2_leastSound_55) <|
  XPr.nil
def pX2_leaks : List (Nat × XOp) := [(0, xo_ic 0 1), (1, xo_al 0 2), (2, xo_get 2 8 5), (5, xo_al 0 6), (6, xo_get 2 1 9), (9, xo_il 1 10), (10, xo_iald 11), (11, xo_isub 12), (12, xo_p2 f_max 15), (15, xo_is 2 16), (16, xo_il 1 17), (17, xo_p1 f_isUnder 20), (20, xo_if_eq 27 23), (23, xo_il 2 24), (24, xo_goto 30), (27, xo_il 2 28), (28, xo_ic 2 29), (29, xo_idiv 30), (30, xo_iret)]
theorem sX2_leaks : XPr RX2 cX2_leaks 3 (some .int) 10 pX2_leaks :=
  XPr.cons (xs_iconst dX2_leaks_0 (by decide +kernel)) <|
  XPr.cons (xs_aload_n dX2_leaks_1 rfl) <|
  XPr.cons (xs_get (T := TX2) rfl gX2 (Nat.le_of_ble_eq_true rfl) gw_175 dX2_leaks_2) <|
  XPr.cons (xs_aload_n dX2_leaks_5 rfl) <|
  XPr.cons (xs_get (T := TX2) rfl gX2 (Nat.le_of_ble_eq_true rfl) gw_161 dX2_leaks_6) <|
  XPr.cons (xs_iload_n dX2_leaks_9 rfl) <|
  XPr.cons (xs_iald dX2_leaks_10) <|
  XPr.cons (xs_isub dX2_leaks_11) <|
  XPr.cons (xs_mmax gw_276 gw_277 gw_78 gw_278 dX2_leaks_12) <|
  XPr.cons (xs_istore_n dX2_leaks_15 rfl (Nat.le_of_ble_eq_true rfl)) <|
  XPr.cons (xs_iload_n dX2_leaks_16 rfl) <|
  XPr.cons (xs_p1 (xs_callN (host := RX4) (by decide +kernel) gw_280 gw_72 gw_281 (by decide +kernel) (Nat.le_of_ble_eq_true rfl) dX2_leaks_17) c_X4_isUnder (Nat.le_of_ble_eq_true rfl)) <|
  XPr.cons (xs_if_eq dX2_leaks_20 (by decide +kernel)) <|
  XPr.cons (xs_iload_n dX2_leaks_23 rfl) <|
  XPr.cons (xs_goto dX2_leaks_24 (by decide +kernel)) <|
  XPr.cons (xs_iload_n dX2_leaks_27 rfl) <|
  XPr.cons (xs_iconst dX2_leaks_28 (by decide +kernel)) <|
  XPr.cons (xs_idiv dX2_leaks_29) <|
  XPr.cons (xs_iret rfl dX2_leaks_30) <|
  XPr.nil
def pX2_allLeak : List (Nat × XOp) := [(0, xo_ic 0 1), (1, xo_is 1 2), (2, xo_ic 0 3), (3, xo_is 2 4), (4, xo_il 2 5), (5, xo_ic 10 7), (7, xo_ic_ge 24 10), (10, xo_il 1 11), (11, xo_al 0 12), (12, xo_il 2 13), (13, xo_callV yX2_leaks cX2_leaks 3 (some .int) 1 2 16), (16, xo_iadd 17), (17, xo_is 1 18), (18, xo_inc 2 1 21), (21, xo_goto 4), (24, xo_il 1 25), (25, xo_iret)]
theorem sX2_allLeak : XPr RX2 cX2_allLeak 3 (some .int) 10 pX2_allLeak :=
  XPr.cons (xs_iconst dX2_allLeak_0 (by decide +kernel)) <|
  XPr.cons (xs_istore_n dX2_allLeak_1 rfl (Nat.le_of_ble_eq_true rfl)) <|
  XPr.cons (xs_iconst dX2_allLeak_2 (by decide +kernel)) <|
  XPr.cons (xs_istore_n dX2_allLeak_3 rfl (Nat.le_of_ble_eq_true rfl)) <|
  XPr.cons (xs_iload_n dX2_allLeak_4 rfl) <|
  XPr.cons (xs_bipush dX2_allLeak_5 (by decide +kernel)) <|
  XPr.cons (xs_ic_ge dX2_allLeak_7 (by decide +kernel)) <|
  XPr.cons (xs_iload_n dX2_allLeak_10 rfl) <|
  XPr.cons (xs_aload_n dX2_allLeak_11 rfl) <|
  XPr.cons (xs_iload_n dX2_allLeak_12 rfl) <|
  XPr.cons (xs_callV (T := TX2) rfl gw_543 gw_273 gw_274 gw_75 gw_275 (by decide +kernel) (Nat.le_of_ble_eq_true rfl) dX2_allLeak_13) <|
  XPr.cons (xs_iadd dX2_allLeak_16) <|
  XPr.cons (xs_istore_n dX2_allLeak_17 rfl (Nat.le_of_ble_eq_true rfl)) <|
  XPr.cons (xs_iinc dX2_allLeak_18 (by decide +kernel) (Nat.le_of_ble_eq_true rfl)) <|
  XPr.cons (xs_goto dX2_allLeak_21 (by decide +kernel)) <|
  XPr.cons (xs_iload_n dX2_allLeak_24 rfl) <|
  XPr.cons (xs_iret rfl dX2_allLeak_25) <|
  XPr.nil
def pX2_telling_0 : List (Nat × XOp) := [(0, xo_il 3 1), (1, xo_p1 f_isPart 4), (4, xo_is 4 6), (6, xo_al 0 7), (7, xo_get 2 11 10), (10, xo_ic 0 11), (11, xo_al 0 12), (12, xo_get 2 5 15), (15, xo_il 2 16), (16, xo_iald 17), (17, xo_iast 18), (18, xo_al 0 19), (19, xo_get 2 11 22), (22, xo_ic 1 23), (23, xo_il 4 25), (25, xo_if_eq 37 28), (28, xo_al 0 29), (29, xo_get 2 1 32), (32, xo_il 3 33), (33, xo_iald 34), (34, xo_goto 38), (37, xo_ic 0 38), (38, xo_iast 39), (39, xo_al 0 40), (40, xo_get 2 11 43), (43, xo_ic 2 44), (44, xo_al 0 45), (45, xo_get 2 4 48), (48, xo_il 2 49), (49, xo_iald 50), (50, xo_iast 51), (51, xo_al 0 52), (52, xo_get 2 11 55), (55, xo_ic 3 56), (56, xo_al 0 57), (57, xo_get 2 7 60), (60, xo_iast 61), (61, xo_al 0 62), (62, xo_get 2 11 65), (65, xo_ic 4 66)]
theorem sX2_telling_0 : XPr RX2 cX2_telling 5 (some .int) 10 pX2_telling_0 :=
  XPr.cons (xs_iload_n dX2_telling_0 rfl) <|
  XPr.cons (xs_p1 (xs_callN (host := RX4) (by decide +kernel) gw_266 gw_72 gw_267 (by decide +kernel) (Nat.le_of_ble_eq_true rfl) dX2_telling_1) c_X4_isPart (Nat.le_of_ble_eq_true rfl)) <|
  XPr.cons (xs_istore dX2_telling_4 (Nat.le_of_ble_eq_true rfl)) <|
  XPr.cons (xs_aload_n dX2_telling_6 rfl) <|
  XPr.cons (xs_get (T := TX2) rfl gX2 (Nat.le_of_ble_eq_true rfl) gw_181 dX2_telling_7) <|
  XPr.cons (xs_iconst dX2_telling_10 (by decide +kernel)) <|
  XPr.cons (xs_aload_n dX2_telling_11 rfl) <|
  XPr.cons (xs_get (T := TX2) rfl gX2 (Nat.le_of_ble_eq_true rfl) gw_169 dX2_telling_12) <|
  XPr.cons (xs_iload_n dX2_telling_15 rfl) <|
  XPr.cons (xs_iald dX2_telling_16) <|
  XPr.cons (xs_iast dX2_telling_17) <|
  XPr.cons (xs_aload_n dX2_telling_18 rfl) <|
  XPr.cons (xs_get (T := TX2) rfl gX2 (Nat.le_of_ble_eq_true rfl) gw_181 dX2_telling_19) <|
  XPr.cons (xs_iconst dX2_telling_22 (by decide +kernel)) <|
  XPr.cons (xs_iload dX2_telling_23) <|
  XPr.cons (xs_if_eq dX2_telling_25 (by decide +kernel)) <|
  XPr.cons (xs_aload_n dX2_telling_28 rfl) <|
  XPr.cons (xs_get (T := TX2) rfl gX2 (Nat.le_of_ble_eq_true rfl) gw_161 dX2_telling_29) <|
  XPr.cons (xs_iload_n dX2_telling_32 rfl) <|
  XPr.cons (xs_iald dX2_telling_33) <|
  XPr.cons (xs_goto dX2_telling_34 (by decide +kernel)) <|
  XPr.cons (xs_iconst dX2_telling_37 (by decide +kernel)) <|
  XPr.cons (xs_iast dX2_telling_38) <|
  XPr.cons (xs_aload_n dX2_telling_39 rfl) <|
  XPr.cons (xs_get (T := TX2) rfl gX2 (Nat.le_of_ble_eq_true rfl) gw_181 dX2_telling_40) <|
  XPr.cons (xs_iconst dX2_telling_43 (by decide +kernel)) <|
  XPr.cons (xs_aload_n dX2_telling_44 rfl) <|
  XPr.cons (xs_get (T := TX2) rfl gX2 (Nat.le_of_ble_eq_true rfl) gw_167 dX2_telling_45) <|
  XPr.cons (xs_iload_n dX2_telling_48 rfl) <|
  XPr.cons (xs_iald dX2_telling_49) <|
  XPr.cons (xs_iast dX2_telling_50) <|
  XPr.cons (xs_aload_n dX2_telling_51 rfl) <|
  XPr.cons (xs_get (T := TX2) rfl gX2 (Nat.le_of_ble_eq_true rfl) gw_181 dX2_telling_52) <|
  XPr.cons (xs_iconst dX2_telling_55 (by decide +kernel)) <|
  XPr.cons (xs_aload_n dX2_telling_56 rfl) <|
  XPr.cons (xs_get (T := TX2) rfl gX2 (Nat.le_of_ble_eq_true rfl) gw_174 dX2_telling_57) <|
  XPr.cons (xs_iast dX2_telling_60) <|
  XPr.cons (xs_aload_n dX2_telling_61 rfl) <|
  XPr.cons (xs_get (T := TX2) rfl gX2 (Nat.le_of_ble_eq_true rfl) gw_181 dX2_telling_62) <|
  XPr.cons (xs_iconst dX2_telling_65 (by decide +kernel)) <|
  XPr.nil
def pX2_telling_1 : List (Nat × XOp) := [(66, xo_al 0 67), (67, xo_get 2 9 70), (70, xo_iast 71), (71, xo_al 0 72), (72, xo_get 2 11 75), (75, xo_ic 5 76), (76, xo_il 4 78), (78, xo_if_eq 85 81), (81, xo_il 3 82), (82, xo_goto 86), (85, xo_ic 0 86), (86, xo_iast 87), (87, xo_al 0 88), (88, xo_get 2 10 91), (91, xo_il 1 92), (92, xo_al 0 93), (93, xo_get 2 11 96), (96, xo_callV yX3_value cX3_value 6 (some .int) 2 3 99), (99, xo_p1 f_bound 102), (102, xo_iret)]
theorem sX2_telling_1 : XPr RX2 cX2_telling 5 (some .int) 10 pX2_telling_1 :=
  XPr.cons (xs_aload_n dX2_telling_66 rfl) <|
  XPr.cons (xs_get (T := TX2) rfl gX2 (Nat.le_of_ble_eq_true rfl) gw_178 dX2_telling_67) <|
  XPr.cons (xs_iast dX2_telling_70) <|
  XPr.cons (xs_aload_n dX2_telling_71 rfl) <|
  XPr.cons (xs_get (T := TX2) rfl gX2 (Nat.le_of_ble_eq_true rfl) gw_181 dX2_telling_72) <|
  XPr.cons (xs_iconst dX2_telling_75 (by decide +kernel)) <|
  XPr.cons (xs_iload dX2_telling_76) <|
  XPr.cons (xs_if_eq dX2_telling_78 (by decide +kernel)) <|
  XPr.cons (xs_iload_n dX2_telling_81 rfl) <|
  XPr.cons (xs_goto dX2_telling_82 (by decide +kernel)) <|
  XPr.cons (xs_iconst dX2_telling_85 (by decide +kernel)) <|
  XPr.cons (xs_iast dX2_telling_86) <|
  XPr.cons (xs_aload_n dX2_telling_87 rfl) <|
  XPr.cons (xs_get (T := TX2) rfl gX2 (Nat.le_of_ble_eq_true rfl) gw_179 dX2_telling_88) <|
  XPr.cons (xs_iload_n dX2_telling_91 rfl) <|
  XPr.cons (xs_aload_n dX2_telling_92 rfl) <|
  XPr.cons (xs_get (T := TX2) rfl gX2 (Nat.le_of_ble_eq_true rfl) gw_181 dX2_telling_93) <|
  XPr.cons (xs_callV (T := TX3) rfl gw_304 gw_305 gw_306 gw_73 gw_307 (by decide +kernel) (Nat.le_of_ble_eq_true rfl) dX2_telling_96) <|
  XPr.cons (xs_p1 (xs_callS gw_312 gw_313 gw_75 gw_314 (by decide +kernel) (Nat.le_of_ble_eq_true rfl) dX2_telling_99) c_X2_bounded (Nat.le_of_ble_eq_true rfl)) <|
  XPr.cons (xs_iret rfl dX2_telling_102) <|
  XPr.nil
def pX2_telling : List (Nat × XOp) := pX2_telling_0 ++ pX2_telling_1
theorem sX2_telling : XPr RX2 cX2_telling 5 (some .int) 10 pX2_telling := (sX2_telling_0).app sX2_telling_1
def pX2_makes_0 : List (Nat × XOp) := [(0, xo_al 0 1), (1, xo_ic 0 2), (2, xo_il 1 3), (3, xo_il 2 4), (4, xo_callV yX2_telling cX2_telling 5 (some .int) 3 2 7), (7, xo_is 3 8), (8, xo_al 0 9), (9, xo_il 1 10), (10, xo_callV yX2_madeBy cX2_madeBy 4 (some .int) 1 2 13), (13, xo_ic 1 14), (14, xo_il 2 15), (15, xo_ishl 16), (16, xo_ic (-1) 17), (17, xo_ixor 18), (18, xo_iand 19), (19, xo_p1 f_bits 22), (22, xo_is 4 24), (24, xo_il 2 25), (25, xo_p1 f_isUnder 28), (28, xo_if_eq 42 31), (31, xo_il 3 32), (32, xo_al 0 33), (33, xo_get 2 4 36), (36, xo_il 1 37), (37, xo_iald 38), (38, xo_iadd 39), (39, xo_goto 43), (42, xo_il 3 43), (43, xo_is 5 45), (45, xo_il 4 47), (47, xo_if_ne 56 50), (50, xo_il 3 51), (51, xo_ic 2 52), (52, xo_idiv 53), (53, xo_goto 57), (56, xo_il 3 57), (57, xo_is 6 59), (59, xo_al 0 60), (60, xo_get 2 3 63), (63, xo_il 1 64)]
theorem sX2_makes_0 : XPr RX2 cX2_makes 7 (some .int) 10 pX2_makes_0 :=
  XPr.cons (xs_aload_n dX2_makes_0 rfl) <|
  XPr.cons (xs_iconst dX2_makes_1 (by decide +kernel)) <|
  XPr.cons (xs_iload_n dX2_makes_2 rfl) <|
  XPr.cons (xs_iload_n dX2_makes_3 rfl) <|
  XPr.cons (xs_callV (T := TX2) rfl gw_299 gw_301 gw_2 gw_75 gw_302 (by decide +kernel) (Nat.le_of_ble_eq_true rfl) dX2_makes_4) <|
  XPr.cons (xs_istore_n dX2_makes_7 rfl (Nat.le_of_ble_eq_true rfl)) <|
  XPr.cons (xs_aload_n dX2_makes_8 rfl) <|
  XPr.cons (xs_iload_n dX2_makes_9 rfl) <|
  XPr.cons (xs_callV (T := TX2) rfl gw_345 gw_292 gw_293 gw_75 gw_294 (by decide +kernel) (Nat.le_of_ble_eq_true rfl) dX2_makes_10) <|
  XPr.cons (xs_iconst dX2_makes_13 (by decide +kernel)) <|
  XPr.cons (xs_iload_n dX2_makes_14 rfl) <|
  XPr.cons (xs_ishl dX2_makes_15) <|
  XPr.cons (xs_iconst dX2_makes_16 (by decide +kernel)) <|
  XPr.cons (xs_ixor dX2_makes_17) <|
  XPr.cons (xs_iand dX2_makes_18) <|
  XPr.cons (xs_p1 (xs_callS gw_322 gw_323 gw_79 gw_324 (by decide +kernel) (Nat.le_of_ble_eq_true rfl) dX2_makes_19) c_J6_bitCount_0f7a4 (Nat.le_of_ble_eq_true rfl)) <|
  XPr.cons (xs_istore dX2_makes_22 (Nat.le_of_ble_eq_true rfl)) <|
  XPr.cons (xs_iload_n dX2_makes_24 rfl) <|
  XPr.cons (xs_p1 (xs_callN (host := RX4) (by decide +kernel) gw_280 gw_72 gw_281 (by decide +kernel) (Nat.le_of_ble_eq_true rfl) dX2_makes_25) c_X4_isUnder (Nat.le_of_ble_eq_true rfl)) <|
  XPr.cons (xs_if_eq dX2_makes_28 (by decide +kernel)) <|
  XPr.cons (xs_iload_n dX2_makes_31 rfl) <|
  XPr.cons (xs_aload_n dX2_makes_32 rfl) <|
  XPr.cons (xs_get (T := TX2) rfl gX2 (Nat.le_of_ble_eq_true rfl) gw_167 dX2_makes_33) <|
  XPr.cons (xs_iload_n dX2_makes_36 rfl) <|
  XPr.cons (xs_iald dX2_makes_37) <|
  XPr.cons (xs_iadd dX2_makes_38) <|
  XPr.cons (xs_goto dX2_makes_39 (by decide +kernel)) <|
  XPr.cons (xs_iload_n dX2_makes_42 rfl) <|
  XPr.cons (xs_istore dX2_makes_43 (Nat.le_of_ble_eq_true rfl)) <|
  XPr.cons (xs_iload dX2_makes_45) <|
  XPr.cons (xs_if_ne dX2_makes_47 (by decide +kernel)) <|
  XPr.cons (xs_iload_n dX2_makes_50 rfl) <|
  XPr.cons (xs_iconst dX2_makes_51 (by decide +kernel)) <|
  XPr.cons (xs_idiv dX2_makes_52) <|
  XPr.cons (xs_goto dX2_makes_53 (by decide +kernel)) <|
  XPr.cons (xs_iload_n dX2_makes_56 rfl) <|
  XPr.cons (xs_istore dX2_makes_57 (Nat.le_of_ble_eq_true rfl)) <|
  XPr.cons (xs_aload_n dX2_makes_59 rfl) <|
  XPr.cons (xs_get (T := TX2) rfl gX2 (Nat.le_of_ble_eq_true rfl) gw_165 dX2_makes_60) <|
  XPr.cons (xs_iload_n dX2_makes_63 rfl) <|
  XPr.nil
def pX2_makes_1 : List (Nat × XOp) := [(64, xo_iald 65), (65, xo_sw [(1, 100), (2, 106), (3, 112), (4, 121), (5, 130)] 144), (100, xo_il 5 102), (102, xo_p1 f_bound 105), (105, xo_iret), (106, xo_il 6 108), (108, xo_p1 f_bound 111), (111, xo_iret), (112, xo_il 5 114), (114, xo_il 4 116), (116, xo_iadd 117), (117, xo_p1 f_bound 120), (120, xo_iret), (121, xo_il 6 123), (123, xo_ic 10 125), (125, xo_iadd 126), (126, xo_p1 f_bound 129), (129, xo_iret), (130, xo_il 2 131), (131, xo_p1 f_isUnder 134), (134, xo_if_eq 141 137), (137, xo_ic 0 138), (138, xo_goto 143), (141, xo_ic 99 143), (143, xo_iret), (144, xo_il 3 145), (145, xo_p1 f_bound 148), (148, xo_iret)]
theorem sX2_makes_1 : XPr RX2 cX2_makes 7 (some .int) 10 pX2_makes_1 :=
  XPr.cons (xs_iald dX2_makes_64) <|
  XPr.cons (xs_table (ts := [100, 106, 112, 121, 130]) dX2_makes_65 (by decide +kernel) (by decide +kernel) (by decide +kernel) (by decide +kernel)) <|
  XPr.cons (xs_iload dX2_makes_100) <|
  XPr.cons (xs_p1 (xs_callS gw_312 gw_313 gw_75 gw_314 (by decide +kernel) (Nat.le_of_ble_eq_true rfl) dX2_makes_102) c_X2_bounded (Nat.le_of_ble_eq_true rfl)) <|
  XPr.cons (xs_iret rfl dX2_makes_105) <|
  XPr.cons (xs_iload dX2_makes_106) <|
  XPr.cons (xs_p1 (xs_callS gw_312 gw_313 gw_75 gw_314 (by decide +kernel) (Nat.le_of_ble_eq_true rfl) dX2_makes_108) c_X2_bounded (Nat.le_of_ble_eq_true rfl)) <|
  XPr.cons (xs_iret rfl dX2_makes_111) <|
  XPr.cons (xs_iload dX2_makes_112) <|
  XPr.cons (xs_iload dX2_makes_114) <|
  XPr.cons (xs_iadd dX2_makes_116) <|
  XPr.cons (xs_p1 (xs_callS gw_312 gw_313 gw_75 gw_314 (by decide +kernel) (Nat.le_of_ble_eq_true rfl) dX2_makes_117) c_X2_bounded (Nat.le_of_ble_eq_true rfl)) <|
  XPr.cons (xs_iret rfl dX2_makes_120) <|
  XPr.cons (xs_iload dX2_makes_121) <|
  XPr.cons (xs_bipush dX2_makes_123 (by decide +kernel)) <|
  XPr.cons (xs_iadd dX2_makes_125) <|
  XPr.cons (xs_p1 (xs_callS gw_312 gw_313 gw_75 gw_314 (by decide +kernel) (Nat.le_of_ble_eq_true rfl) dX2_makes_126) c_X2_bounded (Nat.le_of_ble_eq_true rfl)) <|
  XPr.cons (xs_iret rfl dX2_makes_129) <|
  XPr.cons (xs_iload_n dX2_makes_130 rfl) <|
  XPr.cons (xs_p1 (xs_callN (host := RX4) (by decide +kernel) gw_280 gw_72 gw_281 (by decide +kernel) (Nat.le_of_ble_eq_true rfl) dX2_makes_131) c_X4_isUnder (Nat.le_of_ble_eq_true rfl)) <|
  XPr.cons (xs_if_eq dX2_makes_134 (by decide +kernel)) <|
  XPr.cons (xs_iconst dX2_makes_137 (by decide +kernel)) <|
  XPr.cons (xs_goto dX2_makes_138 (by decide +kernel)) <|
  XPr.cons (xs_bipush dX2_makes_141 (by decide +kernel)) <|
  XPr.cons (xs_iret rfl dX2_makes_143) <|
  XPr.cons (xs_iload_n dX2_makes_144 rfl) <|
  XPr.cons (xs_p1 (xs_callS gw_312 gw_313 gw_75 gw_314 (by decide +kernel) (Nat.le_of_ble_eq_true rfl) dX2_makes_145) c_X2_bounded (Nat.le_of_ble_eq_true rfl)) <|
  XPr.cons (xs_iret rfl dX2_makes_148) <|
  XPr.nil
def pX2_makes : List (Nat × XOp) := pX2_makes_0 ++ pX2_makes_1
theorem sX2_makes : XPr RX2 cX2_makes 7 (some .int) 10 pX2_makes := (sX2_makes_0).app sX2_makes_1
def pX2_mends_0 : List (Nat × XOp) := [(0, xo_al 0 1), (1, xo_ic 1 2), (2, xo_il 1 3), (3, xo_il 2 4), (4, xo_callV yX2_telling cX2_telling 5 (some .int) 3 2 7), (7, xo_is 3 8), (8, xo_il 2 9), (9, xo_p1 f_isUnder 12), (12, xo_if_eq 21 15), (15, xo_il 3 16), (16, xo_ic 2 17), (17, xo_imul 18), (18, xo_goto 22), (21, xo_il 3 22), (22, xo_is 4 24), (24, xo_al 0 25), (25, xo_get 2 3 28), (28, xo_il 1 29), (29, xo_iald 30), (30, xo_sw [(1, 64), (2, 100), (3, 70), (4, 78), (5, 98)] 100), (64, xo_il 4 66), (66, xo_p1 f_bound 69), (69, xo_iret), (70, xo_il 4 72), (72, xo_ic 1 73), (73, xo_iadd 74), (74, xo_p1 f_bound 77), (77, xo_iret), (78, xo_al 0 79), (79, xo_get 2 1 82), (82, xo_il 2 83), (83, xo_iald 84), (84, xo_ic 50 86), (86, xo_ic_lt 93 89), (89, xo_ic 0 90), (90, xo_goto 97), (93, xo_il 3 94), (94, xo_p1 f_bound 97), (97, xo_iret), (98, xo_ic 0 99)]
theorem sX2_mends_0 : XPr RX2 cX2_mends 5 (some .int) 10 pX2_mends_0 :=
  XPr.cons (xs_aload_n dX2_mends_0 rfl) <|
  XPr.cons (xs_iconst dX2_mends_1 (by decide +kernel)) <|
  XPr.cons (xs_iload_n dX2_mends_2 rfl) <|
  XPr.cons (xs_iload_n dX2_mends_3 rfl) <|
  XPr.cons (xs_callV (T := TX2) rfl gw_299 gw_301 gw_2 gw_75 gw_302 (by decide +kernel) (Nat.le_of_ble_eq_true rfl) dX2_mends_4) <|
  XPr.cons (xs_istore_n dX2_mends_7 rfl (Nat.le_of_ble_eq_true rfl)) <|
  XPr.cons (xs_iload_n dX2_mends_8 rfl) <|
  XPr.cons (xs_p1 (xs_callN (host := RX4) (by decide +kernel) gw_280 gw_72 gw_281 (by decide +kernel) (Nat.le_of_ble_eq_true rfl) dX2_mends_9) c_X4_isUnder (Nat.le_of_ble_eq_true rfl)) <|
  XPr.cons (xs_if_eq dX2_mends_12 (by decide +kernel)) <|
  XPr.cons (xs_iload_n dX2_mends_15 rfl) <|
  XPr.cons (xs_iconst dX2_mends_16 (by decide +kernel)) <|
  XPr.cons (xs_imul dX2_mends_17) <|
  XPr.cons (xs_goto dX2_mends_18 (by decide +kernel)) <|
  XPr.cons (xs_iload_n dX2_mends_21 rfl) <|
  XPr.cons (xs_istore dX2_mends_22 (Nat.le_of_ble_eq_true rfl)) <|
  XPr.cons (xs_aload_n dX2_mends_24 rfl) <|
  XPr.cons (xs_get (T := TX2) rfl gX2 (Nat.le_of_ble_eq_true rfl) gw_165 dX2_mends_25) <|
  XPr.cons (xs_iload_n dX2_mends_28 rfl) <|
  XPr.cons (xs_iald dX2_mends_29) <|
  XPr.cons (xs_table (ts := [64, 100, 70, 78, 98]) dX2_mends_30 (by decide +kernel) (by decide +kernel) (by decide +kernel) (by decide +kernel)) <|
  XPr.cons (xs_iload dX2_mends_64) <|
  XPr.cons (xs_p1 (xs_callS gw_312 gw_313 gw_75 gw_314 (by decide +kernel) (Nat.le_of_ble_eq_true rfl) dX2_mends_66) c_X2_bounded (Nat.le_of_ble_eq_true rfl)) <|
  XPr.cons (xs_iret rfl dX2_mends_69) <|
  XPr.cons (xs_iload dX2_mends_70) <|
  XPr.cons (xs_iconst dX2_mends_72 (by decide +kernel)) <|
  XPr.cons (xs_iadd dX2_mends_73) <|
  XPr.cons (xs_p1 (xs_callS gw_312 gw_313 gw_75 gw_314 (by decide +kernel) (Nat.le_of_ble_eq_true rfl) dX2_mends_74) c_X2_bounded (Nat.le_of_ble_eq_true rfl)) <|
  XPr.cons (xs_iret rfl dX2_mends_77) <|
  XPr.cons (xs_aload_n dX2_mends_78 rfl) <|
  XPr.cons (xs_get (T := TX2) rfl gX2 (Nat.le_of_ble_eq_true rfl) gw_161 dX2_mends_79) <|
  XPr.cons (xs_iload_n dX2_mends_82 rfl) <|
  XPr.cons (xs_iald dX2_mends_83) <|
  XPr.cons (xs_bipush dX2_mends_84 (by decide +kernel)) <|
  XPr.cons (xs_ic_lt dX2_mends_86 (by decide +kernel)) <|
  XPr.cons (xs_iconst dX2_mends_89 (by decide +kernel)) <|
  XPr.cons (xs_goto dX2_mends_90 (by decide +kernel)) <|
  XPr.cons (xs_iload_n dX2_mends_93 rfl) <|
  XPr.cons (xs_p1 (xs_callS gw_312 gw_313 gw_75 gw_314 (by decide +kernel) (Nat.le_of_ble_eq_true rfl) dX2_mends_94) c_X2_bounded (Nat.le_of_ble_eq_true rfl)) <|
  XPr.cons (xs_iret rfl dX2_mends_97) <|
  XPr.cons (xs_iconst dX2_mends_98 (by decide +kernel)) <|
  XPr.nil
def pX2_mends_1 : List (Nat × XOp) := [(99, xo_iret), (100, xo_il 3 101), (101, xo_p1 f_bound 104), (104, xo_iret)]
theorem sX2_mends_1 : XPr RX2 cX2_mends 5 (some .int) 10 pX2_mends_1 :=
  XPr.cons (xs_iret rfl dX2_mends_99) <|
  XPr.cons (xs_iload_n dX2_mends_100 rfl) <|
  XPr.cons (xs_p1 (xs_callS gw_312 gw_313 gw_75 gw_314 (by decide +kernel) (Nat.le_of_ble_eq_true rfl) dX2_mends_101) c_X2_bounded (Nat.le_of_ble_eq_true rfl)) <|
  XPr.cons (xs_iret rfl dX2_mends_104) <|
  XPr.nil
def pX2_mends : List (Nat × XOp) := pX2_mends_0 ++ pX2_mends_1
theorem sX2_mends : XPr RX2 cX2_mends 5 (some .int) 10 pX2_mends := (sX2_mends_0).app sX2_mends_1
def pX2_pumps_0 : List (Nat × XOp) := [(0, xo_al 0 1), (1, xo_ic 2 2), (2, xo_il 1 3), (3, xo_ic (-1) 4), (4, xo_callV yX2_telling cX2_telling 5 (some .int) 3 2 7), (7, xo_is 2 8), (8, xo_il 2 9), (9, xo_al 0 10), (10, xo_ic 1 11), (11, xo_callV yX2_who cX2_who 4 (some .int) 1 2 14), (14, xo_ic 1 15), (15, xo_il 1 16), (16, xo_ishl 17), (17, xo_ic (-1) 18), (18, xo_ixor 19), (19, xo_iand 20), (20, xo_p1 f_bits 23), (23, xo_iadd 24), (24, xo_is 3 25), (25, xo_al 0 26), (26, xo_get 2 3 29), (29, xo_il 1 30), (30, xo_iald 31), (31, xo_sw [(1, 64), (2, 71), (3, 64), (4, 76), (5, 94)] 101), (64, xo_il 2 65), (65, xo_ic 2 66), (66, xo_idiv 67), (67, xo_p1 f_bound 70), (70, xo_iret), (71, xo_il 3 72), (72, xo_p1 f_bound 75), (75, xo_iret), (76, xo_al 0 77), (77, xo_get 2 9 80), (80, xo_ic 30 82), (82, xo_ic_lt 92 85), (85, xo_il 3 86), (86, xo_p1 f_bound 89), (89, xo_goto 93), (92, xo_ic 0 93)]
theorem sX2_pumps_0 : XPr RX2 cX2_pumps 4 (some .int) 10 pX2_pumps_0 :=
  XPr.cons (xs_aload_n dX2_pumps_0 rfl) <|
  XPr.cons (xs_iconst dX2_pumps_1 (by decide +kernel)) <|
  XPr.cons (xs_iload_n dX2_pumps_2 rfl) <|
  XPr.cons (xs_iconst dX2_pumps_3 (by decide +kernel)) <|
  XPr.cons (xs_callV (T := TX2) rfl gw_299 gw_301 gw_2 gw_75 gw_302 (by decide +kernel) (Nat.le_of_ble_eq_true rfl) dX2_pumps_4) <|
  XPr.cons (xs_istore_n dX2_pumps_7 rfl (Nat.le_of_ble_eq_true rfl)) <|
  XPr.cons (xs_iload_n dX2_pumps_8 rfl) <|
  XPr.cons (xs_aload_n dX2_pumps_9 rfl) <|
  XPr.cons (xs_iconst dX2_pumps_10 (by decide +kernel)) <|
  XPr.cons (xs_callV (T := TX2) rfl gw_318 gw_319 gw_320 gw_75 gw_321 (by decide +kernel) (Nat.le_of_ble_eq_true rfl) dX2_pumps_11) <|
  XPr.cons (xs_iconst dX2_pumps_14 (by decide +kernel)) <|
  XPr.cons (xs_iload_n dX2_pumps_15 rfl) <|
  XPr.cons (xs_ishl dX2_pumps_16) <|
  XPr.cons (xs_iconst dX2_pumps_17 (by decide +kernel)) <|
  XPr.cons (xs_ixor dX2_pumps_18) <|
  XPr.cons (xs_iand dX2_pumps_19) <|
  XPr.cons (xs_p1 (xs_callS gw_322 gw_323 gw_79 gw_324 (by decide +kernel) (Nat.le_of_ble_eq_true rfl) dX2_pumps_20) c_J6_bitCount_0f7a4 (Nat.le_of_ble_eq_true rfl)) <|
  XPr.cons (xs_iadd dX2_pumps_23) <|
  XPr.cons (xs_istore_n dX2_pumps_24 rfl (Nat.le_of_ble_eq_true rfl)) <|
  XPr.cons (xs_aload_n dX2_pumps_25 rfl) <|
  XPr.cons (xs_get (T := TX2) rfl gX2 (Nat.le_of_ble_eq_true rfl) gw_165 dX2_pumps_26) <|
  XPr.cons (xs_iload_n dX2_pumps_29 rfl) <|
  XPr.cons (xs_iald dX2_pumps_30) <|
  XPr.cons (xs_table (ts := [64, 71, 64, 76, 94]) dX2_pumps_31 (by decide +kernel) (by decide +kernel) (by decide +kernel) (by decide +kernel)) <|
  XPr.cons (xs_iload_n dX2_pumps_64 rfl) <|
  XPr.cons (xs_iconst dX2_pumps_65 (by decide +kernel)) <|
  XPr.cons (xs_idiv dX2_pumps_66) <|
  XPr.cons (xs_p1 (xs_callS gw_312 gw_313 gw_75 gw_314 (by decide +kernel) (Nat.le_of_ble_eq_true rfl) dX2_pumps_67) c_X2_bounded (Nat.le_of_ble_eq_true rfl)) <|
  XPr.cons (xs_iret rfl dX2_pumps_70) <|
  XPr.cons (xs_iload_n dX2_pumps_71 rfl) <|
  XPr.cons (xs_p1 (xs_callS gw_312 gw_313 gw_75 gw_314 (by decide +kernel) (Nat.le_of_ble_eq_true rfl) dX2_pumps_72) c_X2_bounded (Nat.le_of_ble_eq_true rfl)) <|
  XPr.cons (xs_iret rfl dX2_pumps_75) <|
  XPr.cons (xs_aload_n dX2_pumps_76 rfl) <|
  XPr.cons (xs_get (T := TX2) rfl gX2 (Nat.le_of_ble_eq_true rfl) gw_178 dX2_pumps_77) <|
  XPr.cons (xs_bipush dX2_pumps_80 (by decide +kernel)) <|
  XPr.cons (xs_ic_lt dX2_pumps_82 (by decide +kernel)) <|
  XPr.cons (xs_iload_n dX2_pumps_85 rfl) <|
  XPr.cons (xs_p1 (xs_callS gw_312 gw_313 gw_75 gw_314 (by decide +kernel) (Nat.le_of_ble_eq_true rfl) dX2_pumps_86) c_X2_bounded (Nat.le_of_ble_eq_true rfl)) <|
  XPr.cons (xs_goto dX2_pumps_89 (by decide +kernel)) <|
  XPr.cons (xs_iconst dX2_pumps_92 (by decide +kernel)) <|
  XPr.nil
def pX2_pumps_1 : List (Nat × XOp) := [(93, xo_iret), (94, xo_al 0 95), (95, xo_get 2 4 98), (98, xo_il 1 99), (99, xo_iald 100), (100, xo_iret), (101, xo_il 2 102), (102, xo_p1 f_bound 105), (105, xo_iret)]
theorem sX2_pumps_1 : XPr RX2 cX2_pumps 4 (some .int) 10 pX2_pumps_1 :=
  XPr.cons (xs_iret rfl dX2_pumps_93) <|
  XPr.cons (xs_aload_n dX2_pumps_94 rfl) <|
  XPr.cons (xs_get (T := TX2) rfl gX2 (Nat.le_of_ble_eq_true rfl) gw_167 dX2_pumps_95) <|
  XPr.cons (xs_iload_n dX2_pumps_98 rfl) <|
  XPr.cons (xs_iald dX2_pumps_99) <|
  XPr.cons (xs_iret rfl dX2_pumps_100) <|
  XPr.cons (xs_iload_n dX2_pumps_101 rfl) <|
  XPr.cons (xs_p1 (xs_callS gw_312 gw_313 gw_75 gw_314 (by decide +kernel) (Nat.le_of_ble_eq_true rfl) dX2_pumps_102) c_X2_bounded (Nat.le_of_ble_eq_true rfl)) <|
  XPr.cons (xs_iret rfl dX2_pumps_105) <|
  XPr.nil
def pX2_pumps : List (Nat × XOp) := pX2_pumps_0 ++ pX2_pumps_1
theorem sX2_pumps : XPr RX2 cX2_pumps 4 (some .int) 10 pX2_pumps := (sX2_pumps_0).app sX2_pumps_1
def pX2_build : List (Nat × XOp) := [(0, xo_al 0 1), (1, xo_get 2 1 4), (4, xo_il 2 5), (5, xo_al 0 6), (6, xo_il 1 7), (7, xo_il 2 8), (8, xo_callV yX2_makes cX2_makes 7 (some .int) 2 2 11), (11, xo_iast 12), (12, xo_al 0 13), (13, xo_get 2 0 16), (16, xo_il 2 17), (17, xo_il 1 18), (18, xo_iast 19), (19, xo_vret)]
theorem sX2_build : XPr RX2 cX2_build 3 none 10 pX2_build :=
  XPr.cons (xs_aload_n dX2_build_0 rfl) <|
  XPr.cons (xs_get (T := TX2) rfl gX2 (Nat.le_of_ble_eq_true rfl) gw_161 dX2_build_1) <|
  XPr.cons (xs_iload_n dX2_build_4 rfl) <|
  XPr.cons (xs_aload_n dX2_build_5 rfl) <|
  XPr.cons (xs_iload_n dX2_build_6 rfl) <|
  XPr.cons (xs_iload_n dX2_build_7 rfl) <|
  XPr.cons (xs_callV (T := TX2) rfl gw_508 gw_342 gw_343 gw_75 gw_344 (by decide +kernel) (Nat.le_of_ble_eq_true rfl) dX2_build_8) <|
  XPr.cons (xs_iast dX2_build_11) <|
  XPr.cons (xs_aload_n dX2_build_12 rfl) <|
  XPr.cons (xs_get (T := TX2) rfl gX2 (Nat.le_of_ble_eq_true rfl) gw_159 dX2_build_13) <|
  XPr.cons (xs_iload_n dX2_build_16 rfl) <|
  XPr.cons (xs_iload_n dX2_build_17 rfl) <|
  XPr.cons (xs_iast dX2_build_18) <|
  XPr.cons (xs_vret rfl dX2_build_19) <|
  XPr.nil
def pX2_bind : List (Nat × XOp) := [(0, xo_ic 0 1), (1, xo_is 1 2), (2, xo_il 1 3), (3, xo_al 0 4), (4, xo_get 2 2 7), (7, xo_ic_ge 40 10), (10, xo_al 0 11), (11, xo_get 2 6 14), (14, xo_il 1 15), (15, xo_iald 16), (16, xo_if_ne 34 19), (19, xo_al 0 20), (20, xo_il 1 21), (21, xo_callV yX2_madeBy cX2_madeBy 4 (some .int) 1 2 24), (24, xo_if_eq 34 27), (27, xo_al 0 28), (28, xo_get 2 6 31), (31, xo_il 1 32), (32, xo_ic 1 33), (33, xo_iast 34), (34, xo_inc 1 1 37), (37, xo_goto 2), (40, xo_vret)]
theorem sX2_bind : XPr RX2 cX2_bind 2 none 10 pX2_bind :=
  XPr.cons (xs_iconst dX2_bind_0 (by decide +kernel)) <|
  XPr.cons (xs_istore_n dX2_bind_1 rfl (Nat.le_of_ble_eq_true rfl)) <|
  XPr.cons (xs_iload_n dX2_bind_2 rfl) <|
  XPr.cons (xs_aload_n dX2_bind_3 rfl) <|
  XPr.cons (xs_get (T := TX2) rfl gX2 (Nat.le_of_ble_eq_true rfl) gw_163 dX2_bind_4) <|
  XPr.cons (xs_ic_ge dX2_bind_7 (by decide +kernel)) <|
  XPr.cons (xs_aload_n dX2_bind_10 rfl) <|
  XPr.cons (xs_get (T := TX2) rfl gX2 (Nat.le_of_ble_eq_true rfl) gw_171 dX2_bind_11) <|
  XPr.cons (xs_iload_n dX2_bind_14 rfl) <|
  XPr.cons (xs_iald dX2_bind_15) <|
  XPr.cons (xs_if_ne dX2_bind_16 (by decide +kernel)) <|
  XPr.cons (xs_aload_n dX2_bind_19 rfl) <|
  XPr.cons (xs_iload_n dX2_bind_20 rfl) <|
  XPr.cons (xs_callV (T := TX2) rfl gw_345 gw_292 gw_293 gw_75 gw_294 (by decide +kernel) (Nat.le_of_ble_eq_true rfl) dX2_bind_21) <|
  XPr.cons (xs_if_eq dX2_bind_24 (by decide +kernel)) <|
  XPr.cons (xs_aload_n dX2_bind_27 rfl) <|
  XPr.cons (xs_get (T := TX2) rfl gX2 (Nat.le_of_ble_eq_true rfl) gw_171 dX2_bind_28) <|
  XPr.cons (xs_iload_n dX2_bind_31 rfl) <|
  XPr.cons (xs_iconst dX2_bind_32 (by decide +kernel)) <|
  XPr.cons (xs_iast dX2_bind_33) <|
  XPr.cons (xs_iinc dX2_bind_34 (by decide +kernel) (Nat.le_of_ble_eq_true rfl)) <|
  XPr.cons (xs_goto dX2_bind_37 (by decide +kernel)) <|
  XPr.cons (xs_vret rfl dX2_bind_40) <|
  XPr.nil
def pX2_passDay_0 : List (Nat × XOp) := [(0, xo_al 0 1), (1, xo_callV yX2_isDown cX2_isDown 1 (some .boolean) 0 2 4), (4, xo_if_ne 127 7), (7, xo_al 0 8), (8, xo_ic 100 10), (10, xo_al 0 11), (11, xo_get 2 9 14), (14, xo_al 0 15), (15, xo_callV yX2_allLeak cX2_allLeak 3 (some .int) 0 2 18), (18, xo_ic 10 20), (20, xo_idiv 21), (21, xo_iadd 22), (22, xo_p2 f_min 25), (25, xo_putI 2 9 28), (28, xo_ic 0 29), (29, xo_is 1 30), (30, xo_il 1 31), (31, xo_al 0 32), (32, xo_get 2 2 35), (35, xo_ic_ge 114 38), (38, xo_al 0 39), (39, xo_callV yX2_isDown cX2_isDown 1 (some .boolean) 0 2 42), (42, xo_if_ne 114 45), (45, xo_al 0 46), (46, xo_get 2 6 49), (49, xo_il 1 50), (50, xo_iald 51), (51, xo_ic 1 52), (52, xo_ic_ne 108 55), (55, xo_al 0 56), (56, xo_ic 0 57), (57, xo_al 0 58), (58, xo_get 2 9 61), (61, xo_al 0 62), (62, xo_il 1 63), (63, xo_callV yX2_pumps cX2_pumps 4 (some .int) 1 2 66), (66, xo_isub 67), (67, xo_p2 f_max 70), (70, xo_putI 2 9 73), (73, xo_al 0 74)]
theorem sX2_passDay_0 : XPr RX2 cX2_passDay 3 none 10 pX2_passDay_0 :=
  XPr.cons (xs_aload_n dX2_passDay_0 rfl) <|
  XPr.cons (xs_callV (T := TX2) rfl gw_538 gw_523 gw_524 gw_75 gw_525 (by decide +kernel) (Nat.le_of_ble_eq_true rfl) dX2_passDay_1) <|
  XPr.cons (xs_if_ne dX2_passDay_4 (by decide +kernel)) <|
  XPr.cons (xs_aload_n dX2_passDay_7 rfl) <|
  XPr.cons (xs_bipush dX2_passDay_8 (by decide +kernel)) <|
  XPr.cons (xs_aload_n dX2_passDay_10 rfl) <|
  XPr.cons (xs_get (T := TX2) rfl gX2 (Nat.le_of_ble_eq_true rfl) gw_178 dX2_passDay_11) <|
  XPr.cons (xs_aload_n dX2_passDay_14 rfl) <|
  XPr.cons (xs_callV (T := TX2) rfl gw_539 gw_540 gw_541 gw_75 gw_542 (by decide +kernel) (Nat.le_of_ble_eq_true rfl) dX2_passDay_15) <|
  XPr.cons (xs_bipush dX2_passDay_18 (by decide +kernel)) <|
  XPr.cons (xs_idiv dX2_passDay_20) <|
  XPr.cons (xs_iadd dX2_passDay_21) <|
  XPr.cons (xs_mmin gw_315 gw_316 gw_78 gw_317 dX2_passDay_22) <|
  XPr.cons (xs_putI (T := TX2) rfl gX2 tyX2_ok nmX2 (Nat.le_of_ble_eq_true rfl) gw_178 rfl (by decide +kernel) dX2_passDay_25) <|
  XPr.cons (xs_iconst dX2_passDay_28 (by decide +kernel)) <|
  XPr.cons (xs_istore_n dX2_passDay_29 rfl (Nat.le_of_ble_eq_true rfl)) <|
  XPr.cons (xs_iload_n dX2_passDay_30 rfl) <|
  XPr.cons (xs_aload_n dX2_passDay_31 rfl) <|
  XPr.cons (xs_get (T := TX2) rfl gX2 (Nat.le_of_ble_eq_true rfl) gw_163 dX2_passDay_32) <|
  XPr.cons (xs_ic_ge dX2_passDay_35 (by decide +kernel)) <|
  XPr.cons (xs_aload_n dX2_passDay_38 rfl) <|
  XPr.cons (xs_callV (T := TX2) rfl gw_538 gw_523 gw_524 gw_75 gw_525 (by decide +kernel) (Nat.le_of_ble_eq_true rfl) dX2_passDay_39) <|
  XPr.cons (xs_if_ne dX2_passDay_42 (by decide +kernel)) <|
  XPr.cons (xs_aload_n dX2_passDay_45 rfl) <|
  XPr.cons (xs_get (T := TX2) rfl gX2 (Nat.le_of_ble_eq_true rfl) gw_171 dX2_passDay_46) <|
  XPr.cons (xs_iload_n dX2_passDay_49 rfl) <|
  XPr.cons (xs_iald dX2_passDay_50) <|
  XPr.cons (xs_iconst dX2_passDay_51 (by decide +kernel)) <|
  XPr.cons (xs_ic_ne dX2_passDay_52 (by decide +kernel)) <|
  XPr.cons (xs_aload_n dX2_passDay_55 rfl) <|
  XPr.cons (xs_iconst dX2_passDay_56 (by decide +kernel)) <|
  XPr.cons (xs_aload_n dX2_passDay_57 rfl) <|
  XPr.cons (xs_get (T := TX2) rfl gX2 (Nat.le_of_ble_eq_true rfl) gw_178 dX2_passDay_58) <|
  XPr.cons (xs_aload_n dX2_passDay_61 rfl) <|
  XPr.cons (xs_iload_n dX2_passDay_62 rfl) <|
  XPr.cons (xs_callV (T := TX2) rfl gw_544 gw_296 gw_297 gw_75 gw_298 (by decide +kernel) (Nat.le_of_ble_eq_true rfl) dX2_passDay_63) <|
  XPr.cons (xs_isub dX2_passDay_66) <|
  XPr.cons (xs_mmax gw_276 gw_277 gw_78 gw_278 dX2_passDay_67) <|
  XPr.cons (xs_putI (T := TX2) rfl gX2 tyX2_ok nmX2 (Nat.le_of_ble_eq_true rfl) gw_178 rfl (by decide +kernel) dX2_passDay_70) <|
  XPr.cons (xs_aload_n dX2_passDay_73 rfl) <|
  XPr.nil
def pX2_passDay_1 : List (Nat × XOp) := [(74, xo_il 1 75), (75, xo_callV yX2_leastSound cX2_leastSound 5 (some .int) 1 2 78), (78, xo_is 2 79), (79, xo_il 2 80), (80, xo_ic (-1) 81), (81, xo_ic_eq 108 84), (84, xo_al 0 85), (85, xo_get 2 1 88), (88, xo_il 2 89), (89, xo_ic 99 91), (91, xo_al 0 92), (92, xo_get 2 1 95), (95, xo_il 2 96), (96, xo_iald 97), (97, xo_al 0 98), (98, xo_il 1 99), (99, xo_il 2 100), (100, xo_callV yX2_mends cX2_mends 5 (some .int) 2 2 103), (103, xo_iadd 104), (104, xo_p2 f_min 107), (107, xo_iast 108), (108, xo_inc 1 1 111), (111, xo_goto 30), (114, xo_al 0 115), (115, xo_callV yX2_isDown cX2_isDown 1 (some .boolean) 0 2 118), (118, xo_if_eq 127 121), (121, xo_al 0 122), (122, xo_ic 1 123), (123, xo_ic 2 124), (124, xo_callV yX2_allMove cX2_allMove 4 none 2 2 127), (127, xo_al 0 128), (128, xo_dupR 129), (129, xo_get 2 7 132), (132, xo_ic 1 133), (133, xo_iadd 134), (134, xo_putI 2 7 137), (137, xo_vret)]
theorem sX2_passDay_1 : XPr RX2 cX2_passDay 3 none 10 pX2_passDay_1 :=
  XPr.cons (xs_iload_n dX2_passDay_74 rfl) <|
  XPr.cons (xs_callV (T := TX2) rfl gw_545 gw_547 gw_19 gw_75 gw_548 (by decide +kernel) (Nat.le_of_ble_eq_true rfl) dX2_passDay_75) <|
  XPr.cons (xs_istore_n dX2_passDay_78 rfl (Nat.le_of_ble_eq_true rfl)) <|
  XPr.cons (xs_iload_n dX2_passDay_79 rfl) <|
  XPr.cons (xs_iconst dX2_passDay_80 (by decide +kernel)) <|
  XPr.cons (xs_ic_eq dX2_passDay_81 (by decide +kernel)) <|
  XPr.cons (xs_aload_n dX2_passDay_84 rfl) <|
  XPr.cons (xs_get (T := TX2) rfl gX2 (Nat.le_of_ble_eq_true rfl) gw_161 dX2_passDay_85) <|
  XPr.cons (xs_iload_n dX2_passDay_88 rfl) <|
  XPr.cons (xs_bipush dX2_passDay_89 (by decide +kernel)) <|
  XPr.cons (xs_aload_n dX2_passDay_91 rfl) <|
  XPr.cons (xs_get (T := TX2) rfl gX2 (Nat.le_of_ble_eq_true rfl) gw_161 dX2_passDay_92) <|
  XPr.cons (xs_iload_n dX2_passDay_95 rfl) <|
  XPr.cons (xs_iald dX2_passDay_96) <|
  XPr.cons (xs_aload_n dX2_passDay_97 rfl) <|
  XPr.cons (xs_iload_n dX2_passDay_98 rfl) <|
  XPr.cons (xs_iload_n dX2_passDay_99 rfl) <|
  XPr.cons (xs_callV (T := TX2) rfl gw_549 gw_347 gw_348 gw_75 gw_349 (by decide +kernel) (Nat.le_of_ble_eq_true rfl) dX2_passDay_100) <|
  XPr.cons (xs_iadd dX2_passDay_103) <|
  XPr.cons (xs_mmin gw_315 gw_316 gw_78 gw_317 dX2_passDay_104) <|
  XPr.cons (xs_iast dX2_passDay_107) <|
  XPr.cons (xs_iinc dX2_passDay_108 (by decide +kernel) (Nat.le_of_ble_eq_true rfl)) <|
  XPr.cons (xs_goto dX2_passDay_111 (by decide +kernel)) <|
  XPr.cons (xs_aload_n dX2_passDay_114 rfl) <|
  XPr.cons (xs_callV (T := TX2) rfl gw_538 gw_523 gw_524 gw_75 gw_525 (by decide +kernel) (Nat.le_of_ble_eq_true rfl) dX2_passDay_115) <|
  XPr.cons (xs_if_eq dX2_passDay_118 (by decide +kernel)) <|
  XPr.cons (xs_aload_n dX2_passDay_121 rfl) <|
  XPr.cons (xs_iconst dX2_passDay_122 (by decide +kernel)) <|
  XPr.cons (xs_iconst dX2_passDay_123 (by decide +kernel)) <|
  XPr.cons (xs_callV (T := TX2) rfl gw_550 gw_527 gw_528 gw_75 gw_529 (by decide +kernel) (Nat.le_of_ble_eq_true rfl) dX2_passDay_124) <|
  XPr.cons (xs_aload_n dX2_passDay_127 rfl) <|
  XPr.cons (xs_dupR dX2_passDay_128) <|
  XPr.cons (xs_get (T := TX2) rfl gX2 (Nat.le_of_ble_eq_true rfl) gw_174 dX2_passDay_129) <|
  XPr.cons (xs_iconst dX2_passDay_132 (by decide +kernel)) <|
  XPr.cons (xs_iadd dX2_passDay_133) <|
  XPr.cons (xs_putI (T := TX2) rfl gX2 tyX2_ok nmX2 (Nat.le_of_ble_eq_true rfl) gw_174 rfl (by decide +kernel) dX2_passDay_134) <|
  XPr.cons (xs_vret rfl dX2_passDay_137) <|
  XPr.nil
def pX2_passDay : List (Nat × XOp) := pX2_passDay_0 ++ pX2_passDay_1
theorem sX2_passDay : XPr RX2 cX2_passDay 3 none 10 pX2_passDay := (sX2_passDay_0).app sX2_passDay_1
def pX2_pass : List (Nat × XOp) := [(0, xo_ic 0 1), (1, xo_is 2 2), (2, xo_il 2 3), (3, xo_il 1 4), (4, xo_ic_ge 17 7), (7, xo_al 0 8), (8, xo_callV yX2_passDay cX2_passDay 3 none 0 2 11), (11, xo_inc 2 1 14), (14, xo_goto 2), (17, xo_vret)]
theorem sX2_pass : XPr RX2 cX2_pass 3 none 10 pX2_pass :=
  XPr.cons (xs_iconst dX2_pass_0 (by decide +kernel)) <|
  XPr.cons (xs_istore_n dX2_pass_1 rfl (Nat.le_of_ble_eq_true rfl)) <|
  XPr.cons (xs_iload_n dX2_pass_2 rfl) <|
  XPr.cons (xs_iload_n dX2_pass_3 rfl) <|
  XPr.cons (xs_ic_ge dX2_pass_4 (by decide +kernel)) <|
  XPr.cons (xs_aload_n dX2_pass_7 rfl) <|
  XPr.cons (xs_callV (T := TX2) rfl gw_566 gw_535 gw_536 gw_75 gw_537 (by decide +kernel) (Nat.le_of_ble_eq_true rfl) dX2_pass_8) <|
  XPr.cons (xs_iinc dX2_pass_11 (by decide +kernel) (Nat.le_of_ble_eq_true rfl)) <|
  XPr.cons (xs_goto dX2_pass_14 (by decide +kernel)) <|
  XPr.cons (xs_vret rfl dX2_pass_17) <|
  XPr.nil
def pX3_clear : List (Nat × XOp) := [(0, xo_al 0 1), (1, xo_ic 0 2), (2, xo_putI 3 3 5), (5, xo_vret)]
theorem sX3_clear : XPr RX3 cX3_clear 1 none 10 pX3_clear :=
  XPr.cons (xs_aload_n dX3_clear_0 rfl) <|
  XPr.cons (xs_iconst dX3_clear_1 (by decide +kernel)) <|
  XPr.cons (xs_putI (T := TX3) rfl gX3 tyX3_ok nmX3 (Nat.le_of_ble_eq_true rfl) gw_104 rfl (by decide +kernel) dX3_clear_2) <|
  XPr.cons (xs_vret rfl dX3_clear_5) <|
  XPr.nil
def pX3_add : List (Nat × XOp) := [(0, xo_al 0 1), (1, xo_get 3 3 4), (4, xo_ic 320 7), (7, xo_ic_ge 30 10), (10, xo_al 0 11), (11, xo_get 3 1 14), (14, xo_al 0 15), (15, xo_get 3 3 18), (18, xo_il 1 19), (19, xo_iast 20), (20, xo_al 0 21), (21, xo_dupR 22), (22, xo_get 3 3 25), (25, xo_ic 1 26), (26, xo_iadd 27), (27, xo_putI 3 3 30), (30, xo_vret)]
theorem sX3_add : XPr RX3 cX3_add 2 none 10 pX3_add :=
  XPr.cons (xs_aload_n dX3_add_0 rfl) <|
  XPr.cons (xs_get (T := TX3) rfl gX3 (Nat.le_of_ble_eq_true rfl) gw_104 dX3_add_1) <|
  XPr.cons (xs_sipush dX3_add_4 (by decide +kernel)) <|
  XPr.cons (xs_ic_ge dX3_add_7 (by decide +kernel)) <|
  XPr.cons (xs_aload_n dX3_add_10 rfl) <|
  XPr.cons (xs_get (T := TX3) rfl gX3 (Nat.le_of_ble_eq_true rfl) gw_102 dX3_add_11) <|
  XPr.cons (xs_aload_n dX3_add_14 rfl) <|
  XPr.cons (xs_get (T := TX3) rfl gX3 (Nat.le_of_ble_eq_true rfl) gw_104 dX3_add_15) <|
  XPr.cons (xs_iload_n dX3_add_18 rfl) <|
  XPr.cons (xs_iast dX3_add_19) <|
  XPr.cons (xs_aload_n dX3_add_20 rfl) <|
  XPr.cons (xs_dupR dX3_add_21) <|
  XPr.cons (xs_get (T := TX3) rfl gX3 (Nat.le_of_ble_eq_true rfl) gw_104 dX3_add_22) <|
  XPr.cons (xs_iconst dX3_add_25 (by decide +kernel)) <|
  XPr.cons (xs_iadd dX3_add_26) <|
  XPr.cons (xs_putI (T := TX3) rfl gX3 tyX3_ok nmX3 (Nat.le_of_ble_eq_true rfl) gw_104 rfl (by decide +kernel) dX3_add_27) <|
  XPr.cons (xs_vret rfl dX3_add_30) <|
  XPr.nil
def pX3_endHere : List (Nat × XOp) := [(0, xo_il 1 1), (1, xo_ic 0 2), (2, xo_al 0 3), (3, xo_get 3 2 6), (6, xo_alen 7), (7, xo_ic 1 8), (8, xo_isub 9), (9, xo_p3 f_within 12), (12, xo_if_eq 25 15), (15, xo_al 0 16), (16, xo_get 3 2 19), (19, xo_il 1 20), (20, xo_al 0 21), (21, xo_get 3 3 24), (24, xo_iast 25), (25, xo_vret)]
theorem sX3_endHere : XPr RX3 cX3_endHere 2 none 10 pX3_endHere :=
  XPr.cons (xs_iload_n dX3_endHere_0 rfl) <|
  XPr.cons (xs_iconst dX3_endHere_1 (by decide +kernel)) <|
  XPr.cons (xs_aload_n dX3_endHere_2 rfl) <|
  XPr.cons (xs_get (T := TX3) rfl gX3 (Nat.le_of_ble_eq_true rfl) gw_103 dX3_endHere_3) <|
  XPr.cons (xs_alen dX3_endHere_6) <|
  XPr.cons (xs_iconst dX3_endHere_7 (by decide +kernel)) <|
  XPr.cons (xs_isub dX3_endHere_8) <|
  XPr.cons (xs_p3 (xs_callN (host := RX4) (by decide +kernel) gw_259 gw_72 gw_260 (by decide +kernel) (Nat.le_of_ble_eq_true rfl) dX3_endHere_9) c_X4_within (Nat.le_of_ble_eq_true rfl)) <|
  XPr.cons (xs_if_eq dX3_endHere_12 (by decide +kernel)) <|
  XPr.cons (xs_aload_n dX3_endHere_15 rfl) <|
  XPr.cons (xs_get (T := TX3) rfl gX3 (Nat.le_of_ble_eq_true rfl) gw_103 dX3_endHere_16) <|
  XPr.cons (xs_iload_n dX3_endHere_19 rfl) <|
  XPr.cons (xs_aload_n dX3_endHere_20 rfl) <|
  XPr.cons (xs_get (T := TX3) rfl gX3 (Nat.le_of_ble_eq_true rfl) gw_104 dX3_endHere_21) <|
  XPr.cons (xs_iast dX3_endHere_24) <|
  XPr.cons (xs_vret rfl dX3_endHere_25) <|
  XPr.nil
def pX3_value_0 : List (Nat × XOp) := [(0, xo_il 1 1), (1, xo_ic 0 2), (2, xo_al 0 3), (3, xo_get 3 2 6), (6, xo_alen 7), (7, xo_ic 1 8), (8, xo_isub 9), (9, xo_p3 f_within 12), (12, xo_if_ne 17 15), (15, xo_ic 0 16), (16, xo_iret), (17, xo_ic 0 18), (18, xo_is 3 19), (19, xo_il 1 20), (20, xo_if_ne 27 23), (23, xo_ic 0 24), (24, xo_goto 35), (27, xo_al 0 28), (28, xo_get 3 2 31), (31, xo_il 1 32), (32, xo_ic 1 33), (33, xo_isub 34), (34, xo_iald 35), (35, xo_is 4 37), (37, xo_il 4 39), (39, xo_al 0 40), (40, xo_get 3 2 43), (43, xo_il 1 44), (44, xo_iald 45), (45, xo_ic_ge 159 48), (48, xo_il 4 50), (50, xo_ic 320 53), (53, xo_ic_ge 159 56), (56, xo_al 0 57), (57, xo_get 3 1 60), (60, xo_il 4 62), (62, xo_iald 63), (63, xo_is 5 65), (65, xo_il 5 67), (67, xo_ic (-7) 69)]
theorem sX3_value_0 : XPr RX3 cX3_value 6 (some .int) 10 pX3_value_0 :=
  XPr.cons (xs_iload_n dX3_value_0 rfl) <|
  XPr.cons (xs_iconst dX3_value_1 (by decide +kernel)) <|
  XPr.cons (xs_aload_n dX3_value_2 rfl) <|
  XPr.cons (xs_get (T := TX3) rfl gX3 (Nat.le_of_ble_eq_true rfl) gw_103 dX3_value_3) <|
  XPr.cons (xs_alen dX3_value_6) <|
  XPr.cons (xs_iconst dX3_value_7 (by decide +kernel)) <|
  XPr.cons (xs_isub dX3_value_8) <|
  XPr.cons (xs_p3 (xs_callN (host := RX4) (by decide +kernel) gw_259 gw_72 gw_260 (by decide +kernel) (Nat.le_of_ble_eq_true rfl) dX3_value_9) c_X4_within (Nat.le_of_ble_eq_true rfl)) <|
  XPr.cons (xs_if_ne dX3_value_12 (by decide +kernel)) <|
  XPr.cons (xs_iconst dX3_value_15 (by decide +kernel)) <|
  XPr.cons (xs_iret rfl dX3_value_16) <|
  XPr.cons (xs_iconst dX3_value_17 (by decide +kernel)) <|
  XPr.cons (xs_istore_n dX3_value_18 rfl (Nat.le_of_ble_eq_true rfl)) <|
  XPr.cons (xs_iload_n dX3_value_19 rfl) <|
  XPr.cons (xs_if_ne dX3_value_20 (by decide +kernel)) <|
  XPr.cons (xs_iconst dX3_value_23 (by decide +kernel)) <|
  XPr.cons (xs_goto dX3_value_24 (by decide +kernel)) <|
  XPr.cons (xs_aload_n dX3_value_27 rfl) <|
  XPr.cons (xs_get (T := TX3) rfl gX3 (Nat.le_of_ble_eq_true rfl) gw_103 dX3_value_28) <|
  XPr.cons (xs_iload_n dX3_value_31 rfl) <|
  XPr.cons (xs_iconst dX3_value_32 (by decide +kernel)) <|
  XPr.cons (xs_isub dX3_value_33) <|
  XPr.cons (xs_iald dX3_value_34) <|
  XPr.cons (xs_istore dX3_value_35 (Nat.le_of_ble_eq_true rfl)) <|
  XPr.cons (xs_iload dX3_value_37) <|
  XPr.cons (xs_aload_n dX3_value_39 rfl) <|
  XPr.cons (xs_get (T := TX3) rfl gX3 (Nat.le_of_ble_eq_true rfl) gw_103 dX3_value_40) <|
  XPr.cons (xs_iload_n dX3_value_43 rfl) <|
  XPr.cons (xs_iald dX3_value_44) <|
  XPr.cons (xs_ic_ge dX3_value_45 (by decide +kernel)) <|
  XPr.cons (xs_iload dX3_value_48) <|
  XPr.cons (xs_sipush dX3_value_50 (by decide +kernel)) <|
  XPr.cons (xs_ic_ge dX3_value_53 (by decide +kernel)) <|
  XPr.cons (xs_aload_n dX3_value_56 rfl) <|
  XPr.cons (xs_get (T := TX3) rfl gX3 (Nat.le_of_ble_eq_true rfl) gw_102 dX3_value_57) <|
  XPr.cons (xs_iload dX3_value_60) <|
  XPr.cons (xs_iald dX3_value_62) <|
  XPr.cons (xs_istore dX3_value_63 (Nat.le_of_ble_eq_true rfl)) <|
  XPr.cons (xs_iload dX3_value_65) <|
  XPr.cons (xs_bipush dX3_value_67 (by decide +kernel)) <|
  XPr.nil
def pX3_value_1 : List (Nat × XOp) := [(69, xo_ic_gt 112 72), (72, xo_il 3 73), (73, xo_ic 2 74), (74, xo_ic_ge 79 77), (77, xo_ic 0 78), (78, xo_iret), (79, xo_inc 3 (-1) 82), (82, xo_al 0 83), (83, xo_get 3 4 86), (86, xo_il 3 87), (87, xo_ic 1 88), (88, xo_isub 89), (89, xo_il 5 91), (91, xo_al 0 92), (92, xo_get 3 4 95), (95, xo_il 3 96), (96, xo_ic 1 97), (97, xo_isub 98), (98, xo_iald 99), (99, xo_al 0 100), (100, xo_get 3 4 103), (103, xo_il 3 104), (104, xo_iald 105), (105, xo_p3 f_join 108), (108, xo_iast 109), (109, xo_goto 153), (112, xo_il 3 113), (113, xo_ic 64 115), (115, xo_ic_ge 126 118), (118, xo_il 5 120), (120, xo_al 2 121), (121, xo_alen 122), (122, xo_ineg 123), (123, xo_ic_ge 128 126), (126, xo_ic 0 127), (127, xo_iret), (128, xo_al 0 129), (129, xo_get 3 4 132), (132, xo_il 3 133), (133, xo_il 5 135)]
theorem sX3_value_1 : XPr RX3 cX3_value 6 (some .int) 10 pX3_value_1 :=
  XPr.cons (xs_ic_gt dX3_value_69 (by decide +kernel)) <|
  XPr.cons (xs_iload_n dX3_value_72 rfl) <|
  XPr.cons (xs_iconst dX3_value_73 (by decide +kernel)) <|
  XPr.cons (xs_ic_ge dX3_value_74 (by decide +kernel)) <|
  XPr.cons (xs_iconst dX3_value_77 (by decide +kernel)) <|
  XPr.cons (xs_iret rfl dX3_value_78) <|
  XPr.cons (xs_iinc dX3_value_79 (by decide +kernel) (Nat.le_of_ble_eq_true rfl)) <|
  XPr.cons (xs_aload_n dX3_value_82 rfl) <|
  XPr.cons (xs_get (T := TX3) rfl gX3 (Nat.le_of_ble_eq_true rfl) gw_105 dX3_value_83) <|
  XPr.cons (xs_iload_n dX3_value_86 rfl) <|
  XPr.cons (xs_iconst dX3_value_87 (by decide +kernel)) <|
  XPr.cons (xs_isub dX3_value_88) <|
  XPr.cons (xs_iload dX3_value_89) <|
  XPr.cons (xs_aload_n dX3_value_91 rfl) <|
  XPr.cons (xs_get (T := TX3) rfl gX3 (Nat.le_of_ble_eq_true rfl) gw_105 dX3_value_92) <|
  XPr.cons (xs_iload_n dX3_value_95 rfl) <|
  XPr.cons (xs_iconst dX3_value_96 (by decide +kernel)) <|
  XPr.cons (xs_isub dX3_value_97) <|
  XPr.cons (xs_iald dX3_value_98) <|
  XPr.cons (xs_aload_n dX3_value_99 rfl) <|
  XPr.cons (xs_get (T := TX3) rfl gX3 (Nat.le_of_ble_eq_true rfl) gw_105 dX3_value_100) <|
  XPr.cons (xs_iload_n dX3_value_103 rfl) <|
  XPr.cons (xs_iald dX3_value_104) <|
  XPr.cons (xs_p3 (xs_callS gw_309 gw_310 gw_73 gw_311 (by decide +kernel) (Nat.le_of_ble_eq_true rfl) dX3_value_105) c_X3_joined (Nat.le_of_ble_eq_true rfl)) <|
  XPr.cons (xs_iast dX3_value_108) <|
  XPr.cons (xs_goto dX3_value_109 (by decide +kernel)) <|
  XPr.cons (xs_iload_n dX3_value_112 rfl) <|
  XPr.cons (xs_bipush dX3_value_113 (by decide +kernel)) <|
  XPr.cons (xs_ic_ge dX3_value_115 (by decide +kernel)) <|
  XPr.cons (xs_iload dX3_value_118) <|
  XPr.cons (xs_aload_n dX3_value_120 rfl) <|
  XPr.cons (xs_alen dX3_value_121) <|
  XPr.cons (xs_ineg dX3_value_122) <|
  XPr.cons (xs_ic_ge dX3_value_123 (by decide +kernel)) <|
  XPr.cons (xs_iconst dX3_value_126 (by decide +kernel)) <|
  XPr.cons (xs_iret rfl dX3_value_127) <|
  XPr.cons (xs_aload_n dX3_value_128 rfl) <|
  XPr.cons (xs_get (T := TX3) rfl gX3 (Nat.le_of_ble_eq_true rfl) gw_105 dX3_value_129) <|
  XPr.cons (xs_iload_n dX3_value_132 rfl) <|
  XPr.cons (xs_iload dX3_value_133) <|
  XPr.nil
def pX3_value_2 : List (Nat × XOp) := [(135, xo_if_lt 143 138), (138, xo_il 5 140), (140, xo_goto 149), (143, xo_al 2 144), (144, xo_ic (-1) 145), (145, xo_il 5 147), (147, xo_isub 148), (148, xo_iald 149), (149, xo_iast 150), (150, xo_inc 3 1 153), (153, xo_inc 4 1 156), (156, xo_goto 37), (159, xo_il 3 160), (160, xo_ic 1 161), (161, xo_ic_ne 173 164), (164, xo_al 0 165), (165, xo_get 3 4 168), (168, xo_ic 0 169), (169, xo_iald 170), (170, xo_goto 174), (173, xo_ic 0 174), (174, xo_iret)]
theorem sX3_value_2 : XPr RX3 cX3_value 6 (some .int) 10 pX3_value_2 :=
  XPr.cons (xs_if_lt dX3_value_135 (by decide +kernel)) <|
  XPr.cons (xs_iload dX3_value_138) <|
  XPr.cons (xs_goto dX3_value_140 (by decide +kernel)) <|
  XPr.cons (xs_aload_n dX3_value_143 rfl) <|
  XPr.cons (xs_iconst dX3_value_144 (by decide +kernel)) <|
  XPr.cons (xs_iload dX3_value_145) <|
  XPr.cons (xs_isub dX3_value_147) <|
  XPr.cons (xs_iald dX3_value_148) <|
  XPr.cons (xs_iast dX3_value_149) <|
  XPr.cons (xs_iinc dX3_value_150 (by decide +kernel) (Nat.le_of_ble_eq_true rfl)) <|
  XPr.cons (xs_iinc dX3_value_153 (by decide +kernel) (Nat.le_of_ble_eq_true rfl)) <|
  XPr.cons (xs_goto dX3_value_156 (by decide +kernel)) <|
  XPr.cons (xs_iload_n dX3_value_159 rfl) <|
  XPr.cons (xs_iconst dX3_value_160 (by decide +kernel)) <|
  XPr.cons (xs_ic_ne dX3_value_161 (by decide +kernel)) <|
  XPr.cons (xs_aload_n dX3_value_164 rfl) <|
  XPr.cons (xs_get (T := TX3) rfl gX3 (Nat.le_of_ble_eq_true rfl) gw_105 dX3_value_165) <|
  XPr.cons (xs_iconst dX3_value_168 (by decide +kernel)) <|
  XPr.cons (xs_iald dX3_value_169) <|
  XPr.cons (xs_goto dX3_value_170 (by decide +kernel)) <|
  XPr.cons (xs_iconst dX3_value_173 (by decide +kernel)) <|
  XPr.cons (xs_iret rfl dX3_value_174) <|
  XPr.nil
def pX3_value : List (Nat × XOp) := pX3_value_0 ++ pX3_value_1 ++ pX3_value_2
theorem sX3_value : XPr RX3 cX3_value 6 (some .int) 10 pX3_value := ((sX3_value_0).app sX3_value_1).app sX3_value_2
