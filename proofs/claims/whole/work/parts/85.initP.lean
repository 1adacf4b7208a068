-- ===== the constructors' programs =====
theorem gw_27 : Cond.selects RX5 yX5_spell yX5_spell ∈ gTs := gTs_of 27 (by decide +kernel) (by decide +kernel)
theorem gw_85 : Cond.classLink RL 7 RX4 ∈ gTs := gTs_of 85 (by decide +kernel) (by decide +kernel)
theorem gw_86 : Cond.instantiable RX4 8 ∈ gTs := gTs_of 86 (by decide +kernel) (by decide +kernel)
theorem gw_87 : Cond.methodLink RL 9 yX4_init ∈ gTs := gTs_of 87 (by decide +kernel) (by decide +kernel)
theorem gw_88 : Cond.instanceMethod yX4_init ∈ gTs := gTs_of 88 (by decide +kernel) (by decide +kernel)
theorem gw_89 : Cond.code yX4_init cX4_init 2 none ∈ gTs := gTs_of 89 (by decide +kernel) (by decide +kernel)
theorem gw_90 : Cond.methodLink RX4 3 objectInit ∈ gTs := gTs_of 90 (by decide +kernel) (by decide +kernel)
theorem gw_91 : Cond.instanceMethod objectInit ∈ gTs := gTs_of 91 (by decide +kernel) (by decide +kernel)
theorem gw_92 : Cond.code objectInit ⟨#[0xb1]⟩ 1 none ∈ gTs := gTs_of 92 (by decide +kernel) (by decide +kernel)
theorem gw_93 : Cond.classLink RX4 9 RX3 ∈ gTs := gTs_of 93 (by decide +kernel) (by decide +kernel)
theorem gw_95 : Cond.instantiable RX3 5 ∈ gTs := gTs_of 95 (by decide +kernel) (by decide +kernel)
theorem gw_96 : Cond.methodLink RX4 15 yX3_init ∈ gTs := gTs_of 96 (by decide +kernel) (by decide +kernel)
theorem gw_97 : Cond.instanceMethod yX3_init ∈ gTs := gTs_of 97 (by decide +kernel) (by decide +kernel)
theorem gw_98 : Cond.code yX3_init cX3_init 2 none ∈ gTs := gTs_of 98 (by decide +kernel) (by decide +kernel)
theorem gw_99 : Cond.methodLink RX3 3 objectInit ∈ gTs := gTs_of 99 (by decide +kernel) (by decide +kernel)
theorem gw_100 : Cond.fieldLink RX3 21 "WhoBuiltSails$Text" "which" "I" ∈ gTs := gTs_of 100 (by decide +kernel) (by decide +kernel)
theorem gw_117 : Cond.arrayClass .int ∈ gTs := gTs_of 117 (by decide +kernel) (by decide +kernel)
theorem gw_118 : Cond.classLink RX4 22 RX0 ∈ gTs := gTs_of 118 (by decide +kernel) (by decide +kernel)
theorem gw_119 : Cond.instantiable RX0 9 ∈ gTs := gTs_of 119 (by decide +kernel) (by decide +kernel)
theorem gw_121 : Cond.instanceMethod yX0_init ∈ gTs := gTs_of 121 (by decide +kernel) (by decide +kernel)
theorem gw_122 : Cond.code yX0_init cX0_init 1 none ∈ gTs := gTs_of 122 (by decide +kernel) (by decide +kernel)
theorem gw_123 : Cond.methodLink RX0 3 objectInit ∈ gTs := gTs_of 123 (by decide +kernel) (by decide +kernel)
theorem gw_153 : Cond.classLink RX4 29 RX2 ∈ gTs := gTs_of 153 (by decide +kernel) (by decide +kernel)
theorem gw_154 : Cond.instantiable RX2 12 ∈ gTs := gTs_of 154 (by decide +kernel) (by decide +kernel)
theorem gw_155 : Cond.methodLink RX4 31 yX2_init ∈ gTs := gTs_of 155 (by decide +kernel) (by decide +kernel)
theorem gw_156 : Cond.instanceMethod yX2_init ∈ gTs := gTs_of 156 (by decide +kernel) (by decide +kernel)
theorem gw_157 : Cond.code yX2_init cX2_init 3 none ∈ gTs := gTs_of 157 (by decide +kernel) (by decide +kernel)
theorem gw_158 : Cond.methodLink RX2 3 objectInit ∈ gTs := gTs_of 158 (by decide +kernel) (by decide +kernel)
theorem gw_207 : Cond.classLink RX4 44 RX1 ∈ gTs := gTs_of 207 (by decide +kernel) (by decide +kernel)
theorem gw_209 : Cond.instantiable RX1 3 ∈ gTs := gTs_of 209 (by decide +kernel) (by decide +kernel)
theorem gw_211 : Cond.instanceMethod yX1_init ∈ gTs := gTs_of 211 (by decide +kernel) (by decide +kernel)
theorem gw_212 : Cond.code yX1_init cX1_init 1 none ∈ gTs := gTs_of 212 (by decide +kernel) (by decide +kernel)
theorem gw_213 : Cond.methodLink RX1 3 objectInit ∈ gTs := gTs_of 213 (by decide +kernel) (by decide +kernel)
theorem gw_712 : Cond.classLink RL 10 RX5 ∈ gTs := gTs_of 712 (by decide +kernel) (by decide +kernel)
theorem gw_713 : Cond.instantiable RX5 46 ∈ gTs := gTs_of 713 (by decide +kernel) (by decide +kernel)
theorem gw_714 : Cond.methodLink RL 12 yX5_init ∈ gTs := gTs_of 714 (by decide +kernel) (by decide +kernel)
theorem gw_715 : Cond.instanceMethod yX5_init ∈ gTs := gTs_of 715 (by decide +kernel) (by decide +kernel)
theorem gw_716 : Cond.code yX5_init cX5_init 2 none ∈ gTs := gTs_of 716 (by decide +kernel) (by decide +kernel)
theorem gw_717 : Cond.methodLink RX5 7 objectInit ∈ gTs := gTs_of 717 (by decide +kernel) (by decide +kernel)
theorem gw_718 : Cond.methodLink RX5 66 yX5_spell ∈ gTs := gTs_of 718 (by decide +kernel) (by decide +kernel)
theorem gw_720 : Cond.instanceMethod yX5_spell ∈ gTs := gTs_of 720 (by decide +kernel) (by decide +kernel)
theorem gw_721 : Cond.code yX5_spell cX5_spell 10 none ∈ gTs := gTs_of 721 (by decide +kernel) (by decide +kernel)
theorem gw_860 : Cond.arrayClass .boolean ∈ gTs := gTs_of 860 (by decide +kernel) (by decide +kernel)
def pX0_init : List (Nat × XOp) := [(0, xo_al 0 1), (1, xo_objI 4), (4, xo_al 0 5), (5, xo_ic 160 8), (8, xo_newa 0 1 160 10), (10, xo_putR 0 0 13), (13, xo_vret)]
theorem sX0_init : GPr RX0 cX0_init 1 none true 2 10 pX0_init :=
  GPr.cons (gs_aload_n dX0_init_0 rfl) <|
  GPr.cons (gs_objI gw_123 gw_91 gw_92 dX0_init_1) <|
  GPr.cons (gs_aload_n dX0_init_4 rfl) <|
  GPr.cons (gs_sipush dX0_init_5 (by decide +kernel)) <|
  GPr.cons (gs_newI gw_117 (Nat.le_of_ble_eq_true rfl) (Nat.le_of_ble_eq_true rfl) dX0_init_8) <|
  GPr.cons (gs_putRAF (fty := .int) (T := TX0) rfl gX0 tyX0_ok nmX0 (Nat.le_of_ble_eq_true rfl) gw_124 rfl rfl rfl (by decide +kernel) dX0_init_10) <|
  GPr.cons (gs_vret rfl dX0_init_13) <|
  GPr.nil
def pX1_init : List (Nat × XOp) := [(0, xo_al 0 1), (1, xo_objI 4), (4, xo_al 0 5), (5, xo_ic (-1) 6), (6, xo_putI 1 0 9), (9, xo_al 0 10), (10, xo_ic 40 12), (12, xo_newa 0 1 40 14), (14, xo_putR 1 2 17), (17, xo_vret)]
theorem sX1_init : GPr RX1 cX1_init 1 none true 2 10 pX1_init :=
  GPr.cons (gs_aload_n dX1_init_0 rfl) <|
  GPr.cons (gs_objI gw_213 gw_91 gw_92 dX1_init_1) <|
  GPr.cons (gs_aload_n dX1_init_4 rfl) <|
  GPr.cons (gs_iconst dX1_init_5 (by decide +kernel)) <|
  GPr.cons (gs_putI (T := TX1) rfl gX1 tyX1_ok nmX1 (Nat.le_of_ble_eq_true rfl) gw_214 rfl (by decide +kernel) dX1_init_6) <|
  GPr.cons (gs_aload_n dX1_init_9 rfl) <|
  GPr.cons (gs_bipush dX1_init_10 (by decide +kernel)) <|
  GPr.cons (gs_newI gw_117 (Nat.le_of_ble_eq_true rfl) (Nat.le_of_ble_eq_true rfl) dX1_init_12) <|
  GPr.cons (gs_putRAF (fty := .int) (T := TX1) rfl gX1 tyX1_ok nmX1 (Nat.le_of_ble_eq_true rfl) gw_218 rfl rfl rfl (by decide +kernel) dX1_init_14) <|
  GPr.cons (gs_vret rfl dX1_init_17) <|
  GPr.nil
def pX2_init : List (Nat × XOp) := [(0, xo_al 0 1), (1, xo_objI 4), (4, xo_al 0 5), (5, xo_ic 10 7), (7, xo_newa 0 1 10 9), (9, xo_putR 2 0 12), (12, xo_al 0 13), (13, xo_ic 10 15), (15, xo_newa 0 2 10 17), (17, xo_putR 2 1 20), (20, xo_al 0 21), (21, xo_ic 5 22), (22, xo_newa 0 3 5 24), (24, xo_putR 2 3 27), (27, xo_al 0 28), (28, xo_ic 5 29), (29, xo_newa 0 4 5 31), (31, xo_putR 2 4 34), (34, xo_al 0 35), (35, xo_ic 5 36), (36, xo_newa 0 5 5 38), (38, xo_putR 2 5 41), (41, xo_al 0 42), (42, xo_ic 5 43), (43, xo_newa 0 6 5 45), (45, xo_putR 2 6 48), (48, xo_al 0 49), (49, xo_ic 20 51), (51, xo_putI 2 8 54), (54, xo_al 0 55), (55, xo_ic 6 57), (57, xo_newa 0 7 6 59), (59, xo_putR 2 11 62), (62, xo_al 0 63), (63, xo_al 1 64), (64, xo_putR 2 10 67), (67, xo_ic 0 68), (68, xo_is 2 69), (69, xo_il 2 70), (70, xo_ic 10 72), (72, xo_ic_ge 88 75), (75, xo_al 0 76), (76, xo_get 2 0 79), (79, xo_il 2 80), (80, xo_ic (-1) 81), (81, xo_iast 82), (82, xo_inc 2 1 85), (85, xo_goto 69), (88, xo_vret)]
theorem sX2_init : GPr RX2 cX2_init 3 none true 8 10 pX2_init :=
  GPr.cons (gs_aload_n dX2_init_0 rfl) <|
  GPr.cons (gs_objI gw_158 gw_91 gw_92 dX2_init_1) <|
  GPr.cons (gs_aload_n dX2_init_4 rfl) <|
  GPr.cons (gs_bipush dX2_init_5 (by decide +kernel)) <|
  GPr.cons (gs_newI gw_117 (Nat.le_of_ble_eq_true rfl) (Nat.le_of_ble_eq_true rfl) dX2_init_7) <|
  GPr.cons (gs_putRAF (fty := .int) (T := TX2) rfl gX2 tyX2_ok nmX2 (Nat.le_of_ble_eq_true rfl) gw_159 rfl rfl rfl (by decide +kernel) dX2_init_9) <|
  GPr.cons (gs_aload_n dX2_init_12 rfl) <|
  GPr.cons (gs_bipush dX2_init_13 (by decide +kernel)) <|
  GPr.cons (gs_newI gw_117 (Nat.le_of_ble_eq_true rfl) (Nat.le_of_ble_eq_true rfl) dX2_init_15) <|
  GPr.cons (gs_putRAF (fty := .int) (T := TX2) rfl gX2 tyX2_ok nmX2 (Nat.le_of_ble_eq_true rfl) gw_161 rfl rfl rfl (by decide +kernel) dX2_init_17) <|
  GPr.cons (gs_aload_n dX2_init_20 rfl) <|
  GPr.cons (gs_iconst dX2_init_21 (by decide +kernel)) <|
  GPr.cons (gs_newI gw_117 (Nat.le_of_ble_eq_true rfl) (Nat.le_of_ble_eq_true rfl) dX2_init_22) <|
  GPr.cons (gs_putRAF (fty := .int) (T := TX2) rfl gX2 tyX2_ok nmX2 (Nat.le_of_ble_eq_true rfl) gw_165 rfl rfl rfl (by decide +kernel) dX2_init_24) <|
  GPr.cons (gs_aload_n dX2_init_27 rfl) <|
  GPr.cons (gs_iconst dX2_init_28 (by decide +kernel)) <|
  GPr.cons (gs_newI gw_117 (Nat.le_of_ble_eq_true rfl) (Nat.le_of_ble_eq_true rfl) dX2_init_29) <|
  GPr.cons (gs_putRAF (fty := .int) (T := TX2) rfl gX2 tyX2_ok nmX2 (Nat.le_of_ble_eq_true rfl) gw_167 rfl rfl rfl (by decide +kernel) dX2_init_31) <|
  GPr.cons (gs_aload_n dX2_init_34 rfl) <|
  GPr.cons (gs_iconst dX2_init_35 (by decide +kernel)) <|
  GPr.cons (gs_newI gw_117 (Nat.le_of_ble_eq_true rfl) (Nat.le_of_ble_eq_true rfl) dX2_init_36) <|
  GPr.cons (gs_putRAF (fty := .int) (T := TX2) rfl gX2 tyX2_ok nmX2 (Nat.le_of_ble_eq_true rfl) gw_169 rfl rfl rfl (by decide +kernel) dX2_init_38) <|
  GPr.cons (gs_aload_n dX2_init_41 rfl) <|
  GPr.cons (gs_iconst dX2_init_42 (by decide +kernel)) <|
  GPr.cons (gs_newI gw_117 (Nat.le_of_ble_eq_true rfl) (Nat.le_of_ble_eq_true rfl) dX2_init_43) <|
  GPr.cons (gs_putRAF (fty := .int) (T := TX2) rfl gX2 tyX2_ok nmX2 (Nat.le_of_ble_eq_true rfl) gw_171 rfl rfl rfl (by decide +kernel) dX2_init_45) <|
  GPr.cons (gs_aload_n dX2_init_48 rfl) <|
  GPr.cons (gs_bipush dX2_init_49 (by decide +kernel)) <|
  GPr.cons (gs_putI (T := TX2) rfl gX2 tyX2_ok nmX2 (Nat.le_of_ble_eq_true rfl) gw_175 rfl (by decide +kernel) dX2_init_51) <|
  GPr.cons (gs_aload_n dX2_init_54 rfl) <|
  GPr.cons (gs_bipush dX2_init_55 (by decide +kernel)) <|
  GPr.cons (gs_newI gw_117 (Nat.le_of_ble_eq_true rfl) (Nat.le_of_ble_eq_true rfl) dX2_init_57) <|
  GPr.cons (gs_putRAF (fty := .int) (T := TX2) rfl gX2 tyX2_ok nmX2 (Nat.le_of_ble_eq_true rfl) gw_181 rfl rfl rfl (by decide +kernel) dX2_init_59) <|
  GPr.cons (gs_aload_n dX2_init_62 rfl) <|
  GPr.cons (gs_aload_n dX2_init_63 rfl) <|
  GPr.cons (gs_putR (C2 := "WhoBuiltSails$Text") (T := TX2) rfl gX2 tyX2_ok nmX2 (Nat.le_of_ble_eq_true rfl) gw_179 rfl (by decide +kernel) dX2_init_64) <|
  GPr.cons (gs_iconst dX2_init_67 (by decide +kernel)) <|
  GPr.cons (gs_istore_n dX2_init_68 rfl (Nat.le_of_ble_eq_true rfl)) <|
  GPr.cons (gs_iload_n dX2_init_69 rfl) <|
  GPr.cons (gs_bipush dX2_init_70 (by decide +kernel)) <|
  GPr.cons (gs_ic_ge dX2_init_72 (by decide +kernel)) <|
  GPr.cons (gs_aload_n dX2_init_75 rfl) <|
  GPr.cons (gs_get (T := TX2) rfl gX2 (Nat.le_of_ble_eq_true rfl) gw_159 dX2_init_76) <|
  GPr.cons (gs_iload_n dX2_init_79 rfl) <|
  GPr.cons (gs_iconst dX2_init_80 (by decide +kernel)) <|
  GPr.cons (gs_iast dX2_init_81) <|
  GPr.cons (gs_iinc dX2_init_82 (by decide +kernel) (Nat.le_of_ble_eq_true rfl)) <|
  GPr.cons (gs_goto dX2_init_85 (by decide +kernel)) <|
  GPr.cons (gs_vret rfl dX2_init_88) <|
  GPr.nil
def pX3_init : List (Nat × XOp) := [(0, xo_al 0 1), (1, xo_objI 4), (4, xo_al 0 5), (5, xo_ic 320 8), (8, xo_newa 0 1 320 10), (10, xo_putR 3 1 13), (13, xo_al 0 14), (14, xo_ic 3 15), (15, xo_newa 0 2 3 17), (17, xo_putR 3 2 20), (20, xo_al 0 21), (21, xo_ic 64 23), (23, xo_newa 0 3 64 25), (25, xo_putR 3 4 28), (28, xo_al 0 29), (29, xo_il 1 30), (30, xo_putI 3 0 33), (33, xo_al 0 34), (34, xo_get 3 1 37), (37, xo_ic 0 38), (38, xo_ic (-1) 39), (39, xo_iast 40), (40, xo_al 0 41), (41, xo_get 3 1 44), (44, xo_ic 1 45), (45, xo_ic 1 46), (46, xo_iast 47), (47, xo_al 0 48), (48, xo_get 3 1 51), (51, xo_ic 2 52), (52, xo_ic 3 53), (53, xo_iast 54), (54, xo_al 0 55), (55, xo_get 3 2 58), (58, xo_ic 0 59), (59, xo_ic 1 60), (60, xo_iast 61), (61, xo_al 0 62), (62, xo_get 3 2 65), (65, xo_ic 1 66), (66, xo_ic 2 67), (67, xo_iast 68), (68, xo_al 0 69), (69, xo_get 3 2 72), (72, xo_ic 2 73), (73, xo_ic 3 74), (74, xo_iast 75), (75, xo_al 0 76), (76, xo_ic 3 77), (77, xo_putI 3 3 80), (80, xo_vret)]
theorem sX3_init : GPr RX3 cX3_init 2 none true 4 10 pX3_init :=
  GPr.cons (gs_aload_n dX3_init_0 rfl) <|
  GPr.cons (gs_objI gw_99 gw_91 gw_92 dX3_init_1) <|
  GPr.cons (gs_aload_n dX3_init_4 rfl) <|
  GPr.cons (gs_sipush dX3_init_5 (by decide +kernel)) <|
  GPr.cons (gs_newI gw_117 (Nat.le_of_ble_eq_true rfl) (Nat.le_of_ble_eq_true rfl) dX3_init_8) <|
  GPr.cons (gs_putRAF (fty := .int) (T := TX3) rfl gX3 tyX3_ok nmX3 (Nat.le_of_ble_eq_true rfl) gw_102 rfl rfl rfl (by decide +kernel) dX3_init_10) <|
  GPr.cons (gs_aload_n dX3_init_13 rfl) <|
  GPr.cons (gs_iconst dX3_init_14 (by decide +kernel)) <|
  GPr.cons (gs_newI gw_117 (Nat.le_of_ble_eq_true rfl) (Nat.le_of_ble_eq_true rfl) dX3_init_15) <|
  GPr.cons (gs_putRAF (fty := .int) (T := TX3) rfl gX3 tyX3_ok nmX3 (Nat.le_of_ble_eq_true rfl) gw_103 rfl rfl rfl (by decide +kernel) dX3_init_17) <|
  GPr.cons (gs_aload_n dX3_init_20 rfl) <|
  GPr.cons (gs_bipush dX3_init_21 (by decide +kernel)) <|
  GPr.cons (gs_newI gw_117 (Nat.le_of_ble_eq_true rfl) (Nat.le_of_ble_eq_true rfl) dX3_init_23) <|
  GPr.cons (gs_putRAF (fty := .int) (T := TX3) rfl gX3 tyX3_ok nmX3 (Nat.le_of_ble_eq_true rfl) gw_105 rfl rfl rfl (by decide +kernel) dX3_init_25) <|
  GPr.cons (gs_aload_n dX3_init_28 rfl) <|
  GPr.cons (gs_iload_n dX3_init_29 rfl) <|
  GPr.cons (gs_putIF (T := TX3) rfl gX3 tyX3_ok nmX3 (Nat.le_of_ble_eq_true rfl) gw_100 rfl rfl rfl (by decide +kernel) dX3_init_30) <|
  GPr.cons (gs_aload_n dX3_init_33 rfl) <|
  GPr.cons (gs_get (T := TX3) rfl gX3 (Nat.le_of_ble_eq_true rfl) gw_102 dX3_init_34) <|
  GPr.cons (gs_iconst dX3_init_37 (by decide +kernel)) <|
  GPr.cons (gs_iconst dX3_init_38 (by decide +kernel)) <|
  GPr.cons (gs_iast dX3_init_39) <|
  GPr.cons (gs_aload_n dX3_init_40 rfl) <|
  GPr.cons (gs_get (T := TX3) rfl gX3 (Nat.le_of_ble_eq_true rfl) gw_102 dX3_init_41) <|
  GPr.cons (gs_iconst dX3_init_44 (by decide +kernel)) <|
  GPr.cons (gs_iconst dX3_init_45 (by decide +kernel)) <|
  GPr.cons (gs_iast dX3_init_46) <|
  GPr.cons (gs_aload_n dX3_init_47 rfl) <|
  GPr.cons (gs_get (T := TX3) rfl gX3 (Nat.le_of_ble_eq_true rfl) gw_102 dX3_init_48) <|
  GPr.cons (gs_iconst dX3_init_51 (by decide +kernel)) <|
  GPr.cons (gs_iconst dX3_init_52 (by decide +kernel)) <|
  GPr.cons (gs_iast dX3_init_53) <|
  GPr.cons (gs_aload_n dX3_init_54 rfl) <|
  GPr.cons (gs_get (T := TX3) rfl gX3 (Nat.le_of_ble_eq_true rfl) gw_103 dX3_init_55) <|
  GPr.cons (gs_iconst dX3_init_58 (by decide +kernel)) <|
  GPr.cons (gs_iconst dX3_init_59 (by decide +kernel)) <|
  GPr.cons (gs_iast dX3_init_60) <|
  GPr.cons (gs_aload_n dX3_init_61 rfl) <|
  GPr.cons (gs_get (T := TX3) rfl gX3 (Nat.le_of_ble_eq_true rfl) gw_103 dX3_init_62) <|
  GPr.cons (gs_iconst dX3_init_65 (by decide +kernel)) <|
  GPr.cons (gs_iconst dX3_init_66 (by decide +kernel)) <|
  GPr.cons (gs_iast dX3_init_67) <|
  GPr.cons (gs_aload_n dX3_init_68 rfl) <|
  GPr.cons (gs_get (T := TX3) rfl gX3 (Nat.le_of_ble_eq_true rfl) gw_103 dX3_init_69) <|
  GPr.cons (gs_iconst dX3_init_72 (by decide +kernel)) <|
  GPr.cons (gs_iconst dX3_init_73 (by decide +kernel)) <|
  GPr.cons (gs_iast dX3_init_74) <|
  GPr.cons (gs_aload_n dX3_init_75 rfl) <|
  GPr.cons (gs_iconst dX3_init_76 (by decide +kernel)) <|
  GPr.cons (gs_putI (T := TX3) rfl gX3 tyX3_ok nmX3 (Nat.le_of_ble_eq_true rfl) gw_104 rfl (by decide +kernel) dX3_init_77) <|
  GPr.cons (gs_vret rfl dX3_init_80) <|
  GPr.nil
def pX4_init_A : List (Nat × XOp) := [(0, xo_al 0 1), (1, xo_objI 4), (4, xo_al 0 5), (5, xo_ic 6 7), (7, xo_newq 2 1 6 10), (10, xo_putR 4 0 13), (13, xo_ic 0 14), (14, xo_is 1 15)]
theorem sX4_init_A : GPr RX4 cX4_init 2 none true 61 50 pX4_init_A :=
  GPr.cons (gs_aload_n dX4_init_0 rfl) <|
  GPr.cons (gs_objI gw_90 gw_91 gw_92 dX4_init_1) <|
  GPr.cons (gs_aload_n dX4_init_4 rfl) <|
  GPr.cons (gs_bipush dX4_init_5 (by decide +kernel)) <|
  GPr.cons (gs_newqT gw_93 (Nat.le_of_ble_eq_true rfl) (Nat.le_of_ble_eq_true rfl) dX4_init_7) <|
  GPr.cons (gs_putRAF (fty := .object "WhoBuiltSails$Text") (T := TX4) rfl gX4 tyX4_ok nmX4 (Nat.le_of_ble_eq_true rfl) gw_227 rfl rfl rfl (by decide +kernel) dX4_init_10) <|
  GPr.cons (gs_iconst dX4_init_13 (by decide +kernel)) <|
  GPr.cons (gs_istore_n dX4_init_14 rfl (Nat.le_of_ble_eq_true rfl)) <|
  GPr.nil
def pX4_init_B0 : List (Nat × XOp) := [(15, xo_il 1 16), (16, xo_ic 6 18), (18, xo_ic_ge 41 21), (21, xo_al 0 22), (22, xo_get 4 0 25), (25, xo_il 1 26), (26, xo_new 3 2 [.int 0, .null, .null, .int 0, .null] 29), (29, xo_dupR 30), (30, xo_il 1 31), (31, xo_callI yX3_init cX3_init 2 1 61 34), (34, xo_aast 2 3 35), (35, xo_inc 1 1 38), (38, xo_goto 15)]
theorem sX4_init_B0 : GPr RX4 cX4_init 2 none true 61 50 pX4_init_B0 :=
  GPr.cons (gs_iload_n dX4_init_15 rfl) <|
  GPr.cons (gs_bipush dX4_init_16 (by decide +kernel)) <|
  GPr.cons (gs_ic_ge dX4_init_18 (by decide +kernel)) <|
  GPr.cons (gs_aload_n dX4_init_21 rfl) <|
  GPr.cons (gs_get (T := TX4) rfl gX4 (Nat.le_of_ble_eq_true rfl) gw_227 dX4_init_22) <|
  GPr.cons (gs_iload_n dX4_init_25 rfl) <|
  GPr.cons (gs_new (T := TX3) (ty := tyX3) rfl gX3 tyX3_ok gw_93 gw_95 gw_73 (fun j hj => by rcases (show j = 0 ∨ j = 1 ∨ j = 2 ∨ j = 3 ∨ j = 4 by omega) with rfl | rfl | rfl | rfl | rfl <;> rfl) (fun _ => rfl) (Nat.le_of_ble_eq_true rfl) (Nat.le_of_ble_eq_true rfl) dX4_init_26) <|
  GPr.cons (gs_dupR dX4_init_29) <|
  GPr.cons (gs_iload_n dX4_init_30 rfl) <|
  GPr.cons (gs_callI gw_96 gw_97 gw_73 gw_98 rfl (by decide +kernel) (Nat.le_of_ble_eq_true rfl) dX4_init_31) <|
  GPr.cons (gs_aast (r := (RX3, TX3, 5)) (fun _ => rfl) rfl dX4_init_34) <|
  GPr.cons (gs_iinc dX4_init_35 (by decide +kernel) (Nat.le_of_ble_eq_true rfl)) <|
  GPr.cons (gs_goto dX4_init_38 (by decide +kernel)) <|
  GPr.nil
def pX4_init_B1 : List (Nat × XOp) := [(15, xo_il 1 16), (16, xo_ic 6 18), (18, xo_ic_ge 41 21), (21, xo_al 0 22), (22, xo_get 4 0 25), (25, xo_il 1 26), (26, xo_new 3 6 [.int 0, .null, .null, .int 0, .null] 29), (29, xo_dupR 30), (30, xo_il 1 31), (31, xo_callI yX3_init cX3_init 2 1 61 34), (34, xo_aast 2 3 35), (35, xo_inc 1 1 38), (38, xo_goto 15)]
theorem sX4_init_B1 : GPr RX4 cX4_init 2 none true 61 50 pX4_init_B1 :=
  GPr.cons (gs_iload_n dX4_init_15 rfl) <|
  GPr.cons (gs_bipush dX4_init_16 (by decide +kernel)) <|
  GPr.cons (gs_ic_ge dX4_init_18 (by decide +kernel)) <|
  GPr.cons (gs_aload_n dX4_init_21 rfl) <|
  GPr.cons (gs_get (T := TX4) rfl gX4 (Nat.le_of_ble_eq_true rfl) gw_227 dX4_init_22) <|
  GPr.cons (gs_iload_n dX4_init_25 rfl) <|
  GPr.cons (gs_new (T := TX3) (ty := tyX3) rfl gX3 tyX3_ok gw_93 gw_95 gw_73 (fun j hj => by rcases (show j = 0 ∨ j = 1 ∨ j = 2 ∨ j = 3 ∨ j = 4 by omega) with rfl | rfl | rfl | rfl | rfl <;> rfl) (fun _ => rfl) (Nat.le_of_ble_eq_true rfl) (Nat.le_of_ble_eq_true rfl) dX4_init_26) <|
  GPr.cons (gs_dupR dX4_init_29) <|
  GPr.cons (gs_iload_n dX4_init_30 rfl) <|
  GPr.cons (gs_callI gw_96 gw_97 gw_73 gw_98 rfl (by decide +kernel) (Nat.le_of_ble_eq_true rfl) dX4_init_31) <|
  GPr.cons (gs_aast (r := (RX3, TX3, 5)) (fun _ => rfl) rfl dX4_init_34) <|
  GPr.cons (gs_iinc dX4_init_35 (by decide +kernel) (Nat.le_of_ble_eq_true rfl)) <|
  GPr.cons (gs_goto dX4_init_38 (by decide +kernel)) <|
  GPr.nil
def pX4_init_B2 : List (Nat × XOp) := [(15, xo_il 1 16), (16, xo_ic 6 18), (18, xo_ic_ge 41 21), (21, xo_al 0 22), (22, xo_get 4 0 25), (25, xo_il 1 26), (26, xo_new 3 10 [.int 0, .null, .null, .int 0, .null] 29), (29, xo_dupR 30), (30, xo_il 1 31), (31, xo_callI yX3_init cX3_init 2 1 61 34), (34, xo_aast 2 3 35), (35, xo_inc 1 1 38), (38, xo_goto 15)]
theorem sX4_init_B2 : GPr RX4 cX4_init 2 none true 61 50 pX4_init_B2 :=
  GPr.cons (gs_iload_n dX4_init_15 rfl) <|
  GPr.cons (gs_bipush dX4_init_16 (by decide +kernel)) <|
  GPr.cons (gs_ic_ge dX4_init_18 (by decide +kernel)) <|
  GPr.cons (gs_aload_n dX4_init_21 rfl) <|
  GPr.cons (gs_get (T := TX4) rfl gX4 (Nat.le_of_ble_eq_true rfl) gw_227 dX4_init_22) <|
  GPr.cons (gs_iload_n dX4_init_25 rfl) <|
  GPr.cons (gs_new (T := TX3) (ty := tyX3) rfl gX3 tyX3_ok gw_93 gw_95 gw_73 (fun j hj => by rcases (show j = 0 ∨ j = 1 ∨ j = 2 ∨ j = 3 ∨ j = 4 by omega) with rfl | rfl | rfl | rfl | rfl <;> rfl) (fun _ => rfl) (Nat.le_of_ble_eq_true rfl) (Nat.le_of_ble_eq_true rfl) dX4_init_26) <|
  GPr.cons (gs_dupR dX4_init_29) <|
  GPr.cons (gs_iload_n dX4_init_30 rfl) <|
  GPr.cons (gs_callI gw_96 gw_97 gw_73 gw_98 rfl (by decide +kernel) (Nat.le_of_ble_eq_true rfl) dX4_init_31) <|
  GPr.cons (gs_aast (r := (RX3, TX3, 5)) (fun _ => rfl) rfl dX4_init_34) <|
  GPr.cons (gs_iinc dX4_init_35 (by decide +kernel) (Nat.le_of_ble_eq_true rfl)) <|
  GPr.cons (gs_goto dX4_init_38 (by decide +kernel)) <|
  GPr.nil
def pX4_init_B3 : List (Nat × XOp) := [(15, xo_il 1 16), (16, xo_ic 6 18), (18, xo_ic_ge 41 21), (21, xo_al 0 22), (22, xo_get 4 0 25), (25, xo_il 1 26), (26, xo_new 3 14 [.int 0, .null, .null, .int 0, .null] 29), (29, xo_dupR 30), (30, xo_il 1 31), (31, xo_callI yX3_init cX3_init 2 1 61 34), (34, xo_aast 2 3 35), (35, xo_inc 1 1 38), (38, xo_goto 15)]
theorem sX4_init_B3 : GPr RX4 cX4_init 2 none true 61 50 pX4_init_B3 :=
  GPr.cons (gs_iload_n dX4_init_15 rfl) <|
  GPr.cons (gs_bipush dX4_init_16 (by decide +kernel)) <|
  GPr.cons (gs_ic_ge dX4_init_18 (by decide +kernel)) <|
  GPr.cons (gs_aload_n dX4_init_21 rfl) <|
  GPr.cons (gs_get (T := TX4) rfl gX4 (Nat.le_of_ble_eq_true rfl) gw_227 dX4_init_22) <|
  GPr.cons (gs_iload_n dX4_init_25 rfl) <|
  GPr.cons (gs_new (T := TX3) (ty := tyX3) rfl gX3 tyX3_ok gw_93 gw_95 gw_73 (fun j hj => by rcases (show j = 0 ∨ j = 1 ∨ j = 2 ∨ j = 3 ∨ j = 4 by omega) with rfl | rfl | rfl | rfl | rfl <;> rfl) (fun _ => rfl) (Nat.le_of_ble_eq_true rfl) (Nat.le_of_ble_eq_true rfl) dX4_init_26) <|
  GPr.cons (gs_dupR dX4_init_29) <|
  GPr.cons (gs_iload_n dX4_init_30 rfl) <|
  GPr.cons (gs_callI gw_96 gw_97 gw_73 gw_98 rfl (by decide +kernel) (Nat.le_of_ble_eq_true rfl) dX4_init_31) <|
  GPr.cons (gs_aast (r := (RX3, TX3, 5)) (fun _ => rfl) rfl dX4_init_34) <|
  GPr.cons (gs_iinc dX4_init_35 (by decide +kernel) (Nat.le_of_ble_eq_true rfl)) <|
  GPr.cons (gs_goto dX4_init_38 (by decide +kernel)) <|
  GPr.nil
def pX4_init_B4 : List (Nat × XOp) := [(15, xo_il 1 16), (16, xo_ic 6 18), (18, xo_ic_ge 41 21), (21, xo_al 0 22), (22, xo_get 4 0 25), (25, xo_il 1 26), (26, xo_new 3 18 [.int 0, .null, .null, .int 0, .null] 29), (29, xo_dupR 30), (30, xo_il 1 31), (31, xo_callI yX3_init cX3_init 2 1 61 34), (34, xo_aast 2 3 35), (35, xo_inc 1 1 38), (38, xo_goto 15)]
theorem sX4_init_B4 : GPr RX4 cX4_init 2 none true 61 50 pX4_init_B4 :=
  GPr.cons (gs_iload_n dX4_init_15 rfl) <|
  GPr.cons (gs_bipush dX4_init_16 (by decide +kernel)) <|
  GPr.cons (gs_ic_ge dX4_init_18 (by decide +kernel)) <|
  GPr.cons (gs_aload_n dX4_init_21 rfl) <|
  GPr.cons (gs_get (T := TX4) rfl gX4 (Nat.le_of_ble_eq_true rfl) gw_227 dX4_init_22) <|
  GPr.cons (gs_iload_n dX4_init_25 rfl) <|
  GPr.cons (gs_new (T := TX3) (ty := tyX3) rfl gX3 tyX3_ok gw_93 gw_95 gw_73 (fun j hj => by rcases (show j = 0 ∨ j = 1 ∨ j = 2 ∨ j = 3 ∨ j = 4 by omega) with rfl | rfl | rfl | rfl | rfl <;> rfl) (fun _ => rfl) (Nat.le_of_ble_eq_true rfl) (Nat.le_of_ble_eq_true rfl) dX4_init_26) <|
  GPr.cons (gs_dupR dX4_init_29) <|
  GPr.cons (gs_iload_n dX4_init_30 rfl) <|
  GPr.cons (gs_callI gw_96 gw_97 gw_73 gw_98 rfl (by decide +kernel) (Nat.le_of_ble_eq_true rfl) dX4_init_31) <|
  GPr.cons (gs_aast (r := (RX3, TX3, 5)) (fun _ => rfl) rfl dX4_init_34) <|
  GPr.cons (gs_iinc dX4_init_35 (by decide +kernel) (Nat.le_of_ble_eq_true rfl)) <|
  GPr.cons (gs_goto dX4_init_38 (by decide +kernel)) <|
  GPr.nil
def pX4_init_B5 : List (Nat × XOp) := [(15, xo_il 1 16), (16, xo_ic 6 18), (18, xo_ic_ge 41 21), (21, xo_al 0 22), (22, xo_get 4 0 25), (25, xo_il 1 26), (26, xo_new 3 22 [.int 0, .null, .null, .int 0, .null] 29), (29, xo_dupR 30), (30, xo_il 1 31), (31, xo_callI yX3_init cX3_init 2 1 61 34), (34, xo_aast 2 3 35), (35, xo_inc 1 1 38), (38, xo_goto 15)]
theorem sX4_init_B5 : GPr RX4 cX4_init 2 none true 61 50 pX4_init_B5 :=
  GPr.cons (gs_iload_n dX4_init_15 rfl) <|
  GPr.cons (gs_bipush dX4_init_16 (by decide +kernel)) <|
  GPr.cons (gs_ic_ge dX4_init_18 (by decide +kernel)) <|
  GPr.cons (gs_aload_n dX4_init_21 rfl) <|
  GPr.cons (gs_get (T := TX4) rfl gX4 (Nat.le_of_ble_eq_true rfl) gw_227 dX4_init_22) <|
  GPr.cons (gs_iload_n dX4_init_25 rfl) <|
  GPr.cons (gs_new (T := TX3) (ty := tyX3) rfl gX3 tyX3_ok gw_93 gw_95 gw_73 (fun j hj => by rcases (show j = 0 ∨ j = 1 ∨ j = 2 ∨ j = 3 ∨ j = 4 by omega) with rfl | rfl | rfl | rfl | rfl <;> rfl) (fun _ => rfl) (Nat.le_of_ble_eq_true rfl) (Nat.le_of_ble_eq_true rfl) dX4_init_26) <|
  GPr.cons (gs_dupR dX4_init_29) <|
  GPr.cons (gs_iload_n dX4_init_30 rfl) <|
  GPr.cons (gs_callI gw_96 gw_97 gw_73 gw_98 rfl (by decide +kernel) (Nat.le_of_ble_eq_true rfl) dX4_init_31) <|
  GPr.cons (gs_aast (r := (RX3, TX3, 5)) (fun _ => rfl) rfl dX4_init_34) <|
  GPr.cons (gs_iinc dX4_init_35 (by decide +kernel) (Nat.le_of_ble_eq_true rfl)) <|
  GPr.cons (gs_goto dX4_init_38 (by decide +kernel)) <|
  GPr.nil
def pX4_init_C : List (Nat × XOp) := [(41, xo_al 0 42), (42, xo_ic 1 43), (43, xo_putI 4 1 46), (46, xo_al 0 47), (47, xo_new 0 26 [.null, .int 0, .int 0, .int 0, .int 0, .int 0, .int 0, .int 0, .null] 50), (50, xo_dupR 51), (51, xo_callI yX0_init cX0_init 1 0 61 54), (54, xo_putR 4 2 57), (57, xo_al 0 58), (58, xo_new 2 28 [.null, .null, .int 0, .null, .null, .null, .null, .int 0, .int 0, .int 0, .null, .null] 61), (61, xo_dupR 62), (62, xo_al 0 63), (63, xo_get 4 0 66), (66, xo_ic 0 67), (67, xo_aald 2 68), (68, xo_callI yX2_init cX2_init 3 1 61 71), (71, xo_putR 4 3 74), (74, xo_al 0 75), (75, xo_new 2 36 [.null, .null, .int 0, .null, .null, .null, .null, .int 0, .int 0, .int 0, .null, .null] 78), (78, xo_dupR 79), (79, xo_al 0 80), (80, xo_get 4 0 83), (83, xo_ic 0 84), (84, xo_aald 2 85), (85, xo_callI yX2_init cX2_init 3 1 61 88), (88, xo_putR 4 4 91), (91, xo_al 0 92), (92, xo_new 2 44 [.null, .null, .int 0, .null, .null, .null, .null, .int 0, .int 0, .int 0, .null, .null] 95), (95, xo_dupR 96), (96, xo_al 0 97), (97, xo_get 4 0 100), (100, xo_ic 0 101), (101, xo_aald 2 102), (102, xo_callI yX2_init cX2_init 3 1 61 105), (105, xo_putR 4 5 108), (108, xo_al 0 109), (109, xo_ic 4 110), (110, xo_newq 3 52 4 113), (113, xo_putR 4 7 116), (116, xo_ic 0 117), (117, xo_is 1 118)]
theorem sX4_init_C : GPr RX4 cX4_init 2 none true 61 50 pX4_init_C :=
  GPr.cons (gs_aload_n dX4_init_41 rfl) <|
  GPr.cons (gs_iconst dX4_init_42 (by decide +kernel)) <|
  GPr.cons (gs_putI (T := TX4) rfl gX4 tyX4_ok nmX4 (Nat.le_of_ble_eq_true rfl) gw_228 rfl (by decide +kernel) dX4_init_43) <|
  GPr.cons (gs_aload_n dX4_init_46 rfl) <|
  GPr.cons (gs_new (T := TX0) (ty := tyX0) rfl gX0 tyX0_ok gw_118 gw_119 gw_74 (fun j hj => by rcases (show j = 0 ∨ j = 1 ∨ j = 2 ∨ j = 3 ∨ j = 4 ∨ j = 5 ∨ j = 6 ∨ j = 7 ∨ j = 8 by omega) with rfl | rfl | rfl | rfl | rfl | rfl | rfl | rfl | rfl <;> rfl) (fun _ => rfl) (Nat.le_of_ble_eq_true rfl) (Nat.le_of_ble_eq_true rfl) dX4_init_47) <|
  GPr.cons (gs_dupR dX4_init_50) <|
  GPr.cons (gs_callN (host := RX4) (by decide +kernel) gw_121 gw_74 gw_122 rfl (by decide +kernel) (Nat.le_of_ble_eq_true rfl) dX4_init_51) <|
  GPr.cons (gs_putRF (C2 := "WhoBuiltSails$Reader") (T := TX4) rfl gX4 tyX4_ok nmX4 (Nat.le_of_ble_eq_true rfl) gw_229 rfl rfl rfl (by decide +kernel) dX4_init_54) <|
  GPr.cons (gs_aload_n dX4_init_57 rfl) <|
  GPr.cons (gs_new (T := TX2) (ty := tyX2) rfl gX2 tyX2_ok gw_153 gw_154 gw_75 (fun j hj => by rcases (show j = 0 ∨ j = 1 ∨ j = 2 ∨ j = 3 ∨ j = 4 ∨ j = 5 ∨ j = 6 ∨ j = 7 ∨ j = 8 ∨ j = 9 ∨ j = 10 ∨ j = 11 by omega) with rfl | rfl | rfl | rfl | rfl | rfl | rfl | rfl | rfl | rfl | rfl | rfl <;> rfl) (fun _ => rfl) (Nat.le_of_ble_eq_true rfl) (Nat.le_of_ble_eq_true rfl) dX4_init_58) <|
  GPr.cons (gs_dupR dX4_init_61) <|
  GPr.cons (gs_aload_n dX4_init_62 rfl) <|
  GPr.cons (gs_get (T := TX4) rfl gX4 (Nat.le_of_ble_eq_true rfl) gw_227 dX4_init_63) <|
  GPr.cons (gs_iconst dX4_init_66 (by decide +kernel)) <|
  GPr.cons (gs_aald (C := "WhoBuiltSails$Text") (fun _ => rfl) dX4_init_67) <|
  GPr.cons (gs_callI gw_155 gw_156 gw_75 gw_157 rfl (by decide +kernel) (Nat.le_of_ble_eq_true rfl) dX4_init_68) <|
  GPr.cons (gs_putRF (C2 := "WhoBuiltSails$Ship") (T := TX4) rfl gX4 tyX4_ok nmX4 (Nat.le_of_ble_eq_true rfl) gw_230 rfl rfl rfl (by decide +kernel) dX4_init_71) <|
  GPr.cons (gs_aload_n dX4_init_74 rfl) <|
  GPr.cons (gs_new (T := TX2) (ty := tyX2) rfl gX2 tyX2_ok gw_153 gw_154 gw_75 (fun j hj => by rcases (show j = 0 ∨ j = 1 ∨ j = 2 ∨ j = 3 ∨ j = 4 ∨ j = 5 ∨ j = 6 ∨ j = 7 ∨ j = 8 ∨ j = 9 ∨ j = 10 ∨ j = 11 by omega) with rfl | rfl | rfl | rfl | rfl | rfl | rfl | rfl | rfl | rfl | rfl | rfl <;> rfl) (fun _ => rfl) (Nat.le_of_ble_eq_true rfl) (Nat.le_of_ble_eq_true rfl) dX4_init_75) <|
  GPr.cons (gs_dupR dX4_init_78) <|
  GPr.cons (gs_aload_n dX4_init_79 rfl) <|
  GPr.cons (gs_get (T := TX4) rfl gX4 (Nat.le_of_ble_eq_true rfl) gw_227 dX4_init_80) <|
  GPr.cons (gs_iconst dX4_init_83 (by decide +kernel)) <|
  GPr.cons (gs_aald (C := "WhoBuiltSails$Text") (fun _ => rfl) dX4_init_84) <|
  GPr.cons (gs_callI gw_155 gw_156 gw_75 gw_157 rfl (by decide +kernel) (Nat.le_of_ble_eq_true rfl) dX4_init_85) <|
  GPr.cons (gs_putRF (C2 := "WhoBuiltSails$Ship") (T := TX4) rfl gX4 tyX4_ok nmX4 (Nat.le_of_ble_eq_true rfl) gw_231 rfl rfl rfl (by decide +kernel) dX4_init_88) <|
  GPr.cons (gs_aload_n dX4_init_91 rfl) <|
  GPr.cons (gs_new (T := TX2) (ty := tyX2) rfl gX2 tyX2_ok gw_153 gw_154 gw_75 (fun j hj => by rcases (show j = 0 ∨ j = 1 ∨ j = 2 ∨ j = 3 ∨ j = 4 ∨ j = 5 ∨ j = 6 ∨ j = 7 ∨ j = 8 ∨ j = 9 ∨ j = 10 ∨ j = 11 by omega) with rfl | rfl | rfl | rfl | rfl | rfl | rfl | rfl | rfl | rfl | rfl | rfl <;> rfl) (fun _ => rfl) (Nat.le_of_ble_eq_true rfl) (Nat.le_of_ble_eq_true rfl) dX4_init_92) <|
  GPr.cons (gs_dupR dX4_init_95) <|
  GPr.cons (gs_aload_n dX4_init_96 rfl) <|
  GPr.cons (gs_get (T := TX4) rfl gX4 (Nat.le_of_ble_eq_true rfl) gw_227 dX4_init_97) <|
  GPr.cons (gs_iconst dX4_init_100 (by decide +kernel)) <|
  GPr.cons (gs_aald (C := "WhoBuiltSails$Text") (fun _ => rfl) dX4_init_101) <|
  GPr.cons (gs_callI gw_155 gw_156 gw_75 gw_157 rfl (by decide +kernel) (Nat.le_of_ble_eq_true rfl) dX4_init_102) <|
  GPr.cons (gs_putRF (C2 := "WhoBuiltSails$Ship") (T := TX4) rfl gX4 tyX4_ok nmX4 (Nat.le_of_ble_eq_true rfl) gw_232 rfl rfl rfl (by decide +kernel) dX4_init_105) <|
  GPr.cons (gs_aload_n dX4_init_108 rfl) <|
  GPr.cons (gs_iconst dX4_init_109 (by decide +kernel)) <|
  GPr.cons (gs_newqS gw_207 (Nat.le_of_ble_eq_true rfl) (Nat.le_of_ble_eq_true rfl) dX4_init_110) <|
  GPr.cons (gs_putRAF (fty := .object "WhoBuiltSails$Sheet") (T := TX4) rfl gX4 tyX4_ok nmX4 (Nat.le_of_ble_eq_true rfl) gw_234 rfl rfl rfl (by decide +kernel) dX4_init_113) <|
  GPr.cons (gs_iconst dX4_init_116 (by decide +kernel)) <|
  GPr.cons (gs_istore_n dX4_init_117 rfl (Nat.le_of_ble_eq_true rfl)) <|
  GPr.nil
def pX4_init_D0 : List (Nat × XOp) := [(118, xo_il 1 119), (119, xo_ic 4 120), (120, xo_ic_ge 142 123), (123, xo_al 0 124), (124, xo_get 4 7 127), (127, xo_il 1 128), (128, xo_new 1 53 [.int 0, .int 0, .null] 131), (131, xo_dupR 132), (132, xo_callI yX1_init cX1_init 1 0 61 135), (135, xo_aast 3 1 136), (136, xo_inc 1 1 139), (139, xo_goto 118), (142, xo_vret)]
theorem sX4_init_D0 : GPr RX4 cX4_init 2 none true 61 50 pX4_init_D0 :=
  GPr.cons (gs_iload_n dX4_init_118 rfl) <|
  GPr.cons (gs_iconst dX4_init_119 (by decide +kernel)) <|
  GPr.cons (gs_ic_ge dX4_init_120 (by decide +kernel)) <|
  GPr.cons (gs_aload_n dX4_init_123 rfl) <|
  GPr.cons (gs_get (T := TX4) rfl gX4 (Nat.le_of_ble_eq_true rfl) gw_234 dX4_init_124) <|
  GPr.cons (gs_iload_n dX4_init_127 rfl) <|
  GPr.cons (gs_new (T := TX1) (ty := tyX1) rfl gX1 tyX1_ok gw_207 gw_209 gw_76 (fun j hj => by rcases (show j = 0 ∨ j = 1 ∨ j = 2 by omega) with rfl | rfl | rfl <;> rfl) (fun _ => rfl) (Nat.le_of_ble_eq_true rfl) (Nat.le_of_ble_eq_true rfl) dX4_init_128) <|
  GPr.cons (gs_dupR dX4_init_131) <|
  GPr.cons (gs_callN (host := RX4) (by decide +kernel) gw_211 gw_76 gw_212 rfl (by decide +kernel) (Nat.le_of_ble_eq_true rfl) dX4_init_132) <|
  GPr.cons (gs_aast (r := (RX1, TX1, 3)) (fun _ => rfl) rfl dX4_init_135) <|
  GPr.cons (gs_iinc dX4_init_136 (by decide +kernel) (Nat.le_of_ble_eq_true rfl)) <|
  GPr.cons (gs_goto dX4_init_139 (by decide +kernel)) <|
  GPr.cons (gs_vret rfl dX4_init_142) <|
  GPr.nil
def pX4_init_D1 : List (Nat × XOp) := [(118, xo_il 1 119), (119, xo_ic 4 120), (120, xo_ic_ge 142 123), (123, xo_al 0 124), (124, xo_get 4 7 127), (127, xo_il 1 128), (128, xo_new 1 55 [.int 0, .int 0, .null] 131), (131, xo_dupR 132), (132, xo_callI yX1_init cX1_init 1 0 61 135), (135, xo_aast 3 1 136), (136, xo_inc 1 1 139), (139, xo_goto 118), (142, xo_vret)]
theorem sX4_init_D1 : GPr RX4 cX4_init 2 none true 61 50 pX4_init_D1 :=
  GPr.cons (gs_iload_n dX4_init_118 rfl) <|
  GPr.cons (gs_iconst dX4_init_119 (by decide +kernel)) <|
  GPr.cons (gs_ic_ge dX4_init_120 (by decide +kernel)) <|
  GPr.cons (gs_aload_n dX4_init_123 rfl) <|
  GPr.cons (gs_get (T := TX4) rfl gX4 (Nat.le_of_ble_eq_true rfl) gw_234 dX4_init_124) <|
  GPr.cons (gs_iload_n dX4_init_127 rfl) <|
  GPr.cons (gs_new (T := TX1) (ty := tyX1) rfl gX1 tyX1_ok gw_207 gw_209 gw_76 (fun j hj => by rcases (show j = 0 ∨ j = 1 ∨ j = 2 by omega) with rfl | rfl | rfl <;> rfl) (fun _ => rfl) (Nat.le_of_ble_eq_true rfl) (Nat.le_of_ble_eq_true rfl) dX4_init_128) <|
  GPr.cons (gs_dupR dX4_init_131) <|
  GPr.cons (gs_callN (host := RX4) (by decide +kernel) gw_211 gw_76 gw_212 rfl (by decide +kernel) (Nat.le_of_ble_eq_true rfl) dX4_init_132) <|
  GPr.cons (gs_aast (r := (RX1, TX1, 3)) (fun _ => rfl) rfl dX4_init_135) <|
  GPr.cons (gs_iinc dX4_init_136 (by decide +kernel) (Nat.le_of_ble_eq_true rfl)) <|
  GPr.cons (gs_goto dX4_init_139 (by decide +kernel)) <|
  GPr.cons (gs_vret rfl dX4_init_142) <|
  GPr.nil
def pX4_init_D2 : List (Nat × XOp) := [(118, xo_il 1 119), (119, xo_ic 4 120), (120, xo_ic_ge 142 123), (123, xo_al 0 124), (124, xo_get 4 7 127), (127, xo_il 1 128), (128, xo_new 1 57 [.int 0, .int 0, .null] 131), (131, xo_dupR 132), (132, xo_callI yX1_init cX1_init 1 0 61 135), (135, xo_aast 3 1 136), (136, xo_inc 1 1 139), (139, xo_goto 118), (142, xo_vret)]
theorem sX4_init_D2 : GPr RX4 cX4_init 2 none true 61 50 pX4_init_D2 :=
  GPr.cons (gs_iload_n dX4_init_118 rfl) <|
  GPr.cons (gs_iconst dX4_init_119 (by decide +kernel)) <|
  GPr.cons (gs_ic_ge dX4_init_120 (by decide +kernel)) <|
  GPr.cons (gs_aload_n dX4_init_123 rfl) <|
  GPr.cons (gs_get (T := TX4) rfl gX4 (Nat.le_of_ble_eq_true rfl) gw_234 dX4_init_124) <|
  GPr.cons (gs_iload_n dX4_init_127 rfl) <|
  GPr.cons (gs_new (T := TX1) (ty := tyX1) rfl gX1 tyX1_ok gw_207 gw_209 gw_76 (fun j hj => by rcases (show j = 0 ∨ j = 1 ∨ j = 2 by omega) with rfl | rfl | rfl <;> rfl) (fun _ => rfl) (Nat.le_of_ble_eq_true rfl) (Nat.le_of_ble_eq_true rfl) dX4_init_128) <|
  GPr.cons (gs_dupR dX4_init_131) <|
  GPr.cons (gs_callN (host := RX4) (by decide +kernel) gw_211 gw_76 gw_212 rfl (by decide +kernel) (Nat.le_of_ble_eq_true rfl) dX4_init_132) <|
  GPr.cons (gs_aast (r := (RX1, TX1, 3)) (fun _ => rfl) rfl dX4_init_135) <|
  GPr.cons (gs_iinc dX4_init_136 (by decide +kernel) (Nat.le_of_ble_eq_true rfl)) <|
  GPr.cons (gs_goto dX4_init_139 (by decide +kernel)) <|
  GPr.cons (gs_vret rfl dX4_init_142) <|
  GPr.nil
def pX4_init_D3 : List (Nat × XOp) := [(118, xo_il 1 119), (119, xo_ic 4 120), (120, xo_ic_ge 142 123), (123, xo_al 0 124), (124, xo_get 4 7 127), (127, xo_il 1 128), (128, xo_new 1 59 [.int 0, .int 0, .null] 131), (131, xo_dupR 132), (132, xo_callI yX1_init cX1_init 1 0 61 135), (135, xo_aast 3 1 136), (136, xo_inc 1 1 139), (139, xo_goto 118), (142, xo_vret)]
theorem sX4_init_D3 : GPr RX4 cX4_init 2 none true 61 50 pX4_init_D3 :=
  GPr.cons (gs_iload_n dX4_init_118 rfl) <|
  GPr.cons (gs_iconst dX4_init_119 (by decide +kernel)) <|
  GPr.cons (gs_ic_ge dX4_init_120 (by decide +kernel)) <|
  GPr.cons (gs_aload_n dX4_init_123 rfl) <|
  GPr.cons (gs_get (T := TX4) rfl gX4 (Nat.le_of_ble_eq_true rfl) gw_234 dX4_init_124) <|
  GPr.cons (gs_iload_n dX4_init_127 rfl) <|
  GPr.cons (gs_new (T := TX1) (ty := tyX1) rfl gX1 tyX1_ok gw_207 gw_209 gw_76 (fun j hj => by rcases (show j = 0 ∨ j = 1 ∨ j = 2 by omega) with rfl | rfl | rfl <;> rfl) (fun _ => rfl) (Nat.le_of_ble_eq_true rfl) (Nat.le_of_ble_eq_true rfl) dX4_init_128) <|
  GPr.cons (gs_dupR dX4_init_131) <|
  GPr.cons (gs_callN (host := RX4) (by decide +kernel) gw_211 gw_76 gw_212 rfl (by decide +kernel) (Nat.le_of_ble_eq_true rfl) dX4_init_132) <|
  GPr.cons (gs_aast (r := (RX1, TX1, 3)) (fun _ => rfl) rfl dX4_init_135) <|
  GPr.cons (gs_iinc dX4_init_136 (by decide +kernel) (Nat.le_of_ble_eq_true rfl)) <|
  GPr.cons (gs_goto dX4_init_139 (by decide +kernel)) <|
  GPr.cons (gs_vret rfl dX4_init_142) <|
  GPr.nil
def pX5_spell : List (Nat × XOp) := [(0, xo_al 0 1), (1, xo_get 5 1 4), (4, xo_il 1 5), (5, xo_il 2 6), (6, xo_iast 7), (7, xo_al 0 8), (8, xo_get 5 1 11), (11, xo_il 1 12), (12, xo_ic 1 13), (13, xo_iadd 14), (14, xo_il 3 15), (15, xo_iast 16), (16, xo_al 0 17), (17, xo_get 5 1 20), (20, xo_il 1 21), (21, xo_ic 2 22), (22, xo_iadd 23), (23, xo_il 4 25), (25, xo_iast 26), (26, xo_al 0 27), (27, xo_get 5 1 30), (30, xo_il 1 31), (31, xo_ic 3 32), (32, xo_iadd 33), (33, xo_il 5 35), (35, xo_iast 36), (36, xo_al 0 37), (37, xo_get 5 1 40), (40, xo_il 1 41), (41, xo_ic 4 42), (42, xo_iadd 43), (43, xo_il 6 45), (45, xo_iast 46), (46, xo_al 0 47), (47, xo_get 5 1 50), (50, xo_il 1 51), (51, xo_ic 5 52), (52, xo_iadd 53), (53, xo_il 7 55), (55, xo_iast 56), (56, xo_al 0 57), (57, xo_get 5 1 60), (60, xo_il 1 61), (61, xo_ic 6 63), (63, xo_iadd 64), (64, xo_il 8 66), (66, xo_iast 67), (67, xo_al 0 68), (68, xo_get 5 1 71), (71, xo_il 1 72), (72, xo_ic 7 74), (74, xo_iadd 75), (75, xo_il 9 77), (77, xo_iast 78), (78, xo_vret)]
theorem sX5_spell : GPr RX5 cX5_spell 10 none false 16 10 pX5_spell :=
  GPr.cons (gs_aload_n dX5_spell_0 rfl) <|
  GPr.cons (gs_get (T := TX5) rfl gX5 (Nat.le_of_ble_eq_true rfl) gw_722 dX5_spell_1) <|
  GPr.cons (gs_iload_n dX5_spell_4 rfl) <|
  GPr.cons (gs_iload_n dX5_spell_5 rfl) <|
  GPr.cons (gs_iast dX5_spell_6) <|
  GPr.cons (gs_aload_n dX5_spell_7 rfl) <|
  GPr.cons (gs_get (T := TX5) rfl gX5 (Nat.le_of_ble_eq_true rfl) gw_722 dX5_spell_8) <|
  GPr.cons (gs_iload_n dX5_spell_11 rfl) <|
  GPr.cons (gs_iconst dX5_spell_12 (by decide +kernel)) <|
  GPr.cons (gs_iadd dX5_spell_13) <|
  GPr.cons (gs_iload_n dX5_spell_14 rfl) <|
  GPr.cons (gs_iast dX5_spell_15) <|
  GPr.cons (gs_aload_n dX5_spell_16 rfl) <|
  GPr.cons (gs_get (T := TX5) rfl gX5 (Nat.le_of_ble_eq_true rfl) gw_722 dX5_spell_17) <|
  GPr.cons (gs_iload_n dX5_spell_20 rfl) <|
  GPr.cons (gs_iconst dX5_spell_21 (by decide +kernel)) <|
  GPr.cons (gs_iadd dX5_spell_22) <|
  GPr.cons (gs_iload dX5_spell_23) <|
  GPr.cons (gs_iast dX5_spell_25) <|
  GPr.cons (gs_aload_n dX5_spell_26 rfl) <|
  GPr.cons (gs_get (T := TX5) rfl gX5 (Nat.le_of_ble_eq_true rfl) gw_722 dX5_spell_27) <|
  GPr.cons (gs_iload_n dX5_spell_30 rfl) <|
  GPr.cons (gs_iconst dX5_spell_31 (by decide +kernel)) <|
  GPr.cons (gs_iadd dX5_spell_32) <|
  GPr.cons (gs_iload dX5_spell_33) <|
  GPr.cons (gs_iast dX5_spell_35) <|
  GPr.cons (gs_aload_n dX5_spell_36 rfl) <|
  GPr.cons (gs_get (T := TX5) rfl gX5 (Nat.le_of_ble_eq_true rfl) gw_722 dX5_spell_37) <|
  GPr.cons (gs_iload_n dX5_spell_40 rfl) <|
  GPr.cons (gs_iconst dX5_spell_41 (by decide +kernel)) <|
  GPr.cons (gs_iadd dX5_spell_42) <|
  GPr.cons (gs_iload dX5_spell_43) <|
  GPr.cons (gs_iast dX5_spell_45) <|
  GPr.cons (gs_aload_n dX5_spell_46 rfl) <|
  GPr.cons (gs_get (T := TX5) rfl gX5 (Nat.le_of_ble_eq_true rfl) gw_722 dX5_spell_47) <|
  GPr.cons (gs_iload_n dX5_spell_50 rfl) <|
  GPr.cons (gs_iconst dX5_spell_51 (by decide +kernel)) <|
  GPr.cons (gs_iadd dX5_spell_52) <|
  GPr.cons (gs_iload dX5_spell_53) <|
  GPr.cons (gs_iast dX5_spell_55) <|
  GPr.cons (gs_aload_n dX5_spell_56 rfl) <|
  GPr.cons (gs_get (T := TX5) rfl gX5 (Nat.le_of_ble_eq_true rfl) gw_722 dX5_spell_57) <|
  GPr.cons (gs_iload_n dX5_spell_60 rfl) <|
  GPr.cons (gs_bipush dX5_spell_61 (by decide +kernel)) <|
  GPr.cons (gs_iadd dX5_spell_63) <|
  GPr.cons (gs_iload dX5_spell_64) <|
  GPr.cons (gs_iast dX5_spell_66) <|
  GPr.cons (gs_aload_n dX5_spell_67 rfl) <|
  GPr.cons (gs_get (T := TX5) rfl gX5 (Nat.le_of_ble_eq_true rfl) gw_722 dX5_spell_68) <|
  GPr.cons (gs_iload_n dX5_spell_71 rfl) <|
  GPr.cons (gs_bipush dX5_spell_72 (by decide +kernel)) <|
  GPr.cons (gs_iadd dX5_spell_74) <|
  GPr.cons (gs_iload dX5_spell_75) <|
  GPr.cons (gs_iast dX5_spell_77) <|
  GPr.cons (gs_vret rfl dX5_spell_78) <|
  GPr.nil
def pX5_init_A : List (Nat × XOp) := [(0, xo_al 0 1), (1, xo_objI 4), (4, xo_al 0 5), (5, xo_ic 960 8), (8, xo_newa 0 1 960 10), (10, xo_putR 5 1 13), (13, xo_al 0 14), (14, xo_ic 6 16), (16, xo_newa 0 2 6 18), (18, xo_putR 5 2 21), (21, xo_al 0 22), (22, xo_ic 160 25), (25, xo_newa 0 3 160 27), (27, xo_putR 5 5 30), (30, xo_al 0 31), (31, xo_ic 20 33), (33, xo_putI 5 8 36), (36, xo_al 0 37), (37, xo_ic 10 39), (39, xo_newa 0 4 10 41), (41, xo_putR 5 10 44), (44, xo_al 0 45), (45, xo_ic 10 47), (47, xo_newa 0 5 10 49), (49, xo_putR 5 11 52), (52, xo_al 0 53), (53, xo_ic 20 55), (55, xo_newa 0 6 20 57), (57, xo_putR 5 12 60), (60, xo_al 0 61), (61, xo_ic 43 63), (63, xo_newa 0 7 43 65), (65, xo_putR 5 29 68), (68, xo_al 0 69), (69, xo_ic 3 70), (70, xo_newa 0 8 3 72), (72, xo_putR 5 30 75), (75, xo_al 0 76), (76, xo_ic 20 78), (78, xo_newa 0 9 20 80), (80, xo_putR 5 34 83), (83, xo_al 0 84), (84, xo_ic 10 86), (86, xo_newa 0 10 10 88), (88, xo_putR 5 35 91), (91, xo_al 0 92), (92, xo_ic 10 94), (94, xo_newa 0 11 10 96), (96, xo_putR 5 36 99), (99, xo_al 0 100), (100, xo_ic (-1) 101), (101, xo_putI 5 37 104), (104, xo_al 0 105), (105, xo_ic 4 106), (106, xo_newa 1 12 4 108), (108, xo_putR 5 42 111), (111, xo_al 0 112), (112, xo_ic 4 113), (113, xo_newa 0 13 4 115), (115, xo_putR 5 43 118), (118, xo_al 0 119), (119, xo_ic 4 120), (120, xo_newa 0 14 4 122), (122, xo_putR 5 44 125), (125, xo_al 0 126), (126, xo_ic 160 129), (129, xo_newa 0 15 160 131), (131, xo_putR 5 45 134), (134, xo_ic 0 135), (135, xo_is 1 136)]
theorem sX5_init_A : GPr RX5 cX5_init 2 none true 16 50 pX5_init_A :=
  GPr.cons (gs_aload_n dX5_init_0 rfl) <|
  GPr.cons (gs_objI gw_717 gw_91 gw_92 dX5_init_1) <|
  GPr.cons (gs_aload_n dX5_init_4 rfl) <|
  GPr.cons (gs_sipush dX5_init_5 (by decide +kernel)) <|
  GPr.cons (gs_newI gw_117 (Nat.le_of_ble_eq_true rfl) (Nat.le_of_ble_eq_true rfl) dX5_init_8) <|
  GPr.cons (gs_putRAF (fty := .int) (T := TX5) rfl gX5 tyX5_ok nmX5 (Nat.le_of_ble_eq_true rfl) gw_722 rfl rfl rfl (by decide +kernel) dX5_init_10) <|
  GPr.cons (gs_aload_n dX5_init_13 rfl) <|
  GPr.cons (gs_bipush dX5_init_14 (by decide +kernel)) <|
  GPr.cons (gs_newI gw_117 (Nat.le_of_ble_eq_true rfl) (Nat.le_of_ble_eq_true rfl) dX5_init_16) <|
  GPr.cons (gs_putRAF (fty := .int) (T := TX5) rfl gX5 tyX5_ok nmX5 (Nat.le_of_ble_eq_true rfl) gw_723 rfl rfl rfl (by decide +kernel) dX5_init_18) <|
  GPr.cons (gs_aload_n dX5_init_21 rfl) <|
  GPr.cons (gs_sipush dX5_init_22 (by decide +kernel)) <|
  GPr.cons (gs_newI gw_117 (Nat.le_of_ble_eq_true rfl) (Nat.le_of_ble_eq_true rfl) dX5_init_25) <|
  GPr.cons (gs_putRAF (fty := .int) (T := TX5) rfl gX5 tyX5_ok nmX5 (Nat.le_of_ble_eq_true rfl) gw_726 rfl rfl rfl (by decide +kernel) dX5_init_27) <|
  GPr.cons (gs_aload_n dX5_init_30 rfl) <|
  GPr.cons (gs_bipush dX5_init_31 (by decide +kernel)) <|
  GPr.cons (gs_putI (T := TX5) rfl gX5 tyX5_ok nmX5 (Nat.le_of_ble_eq_true rfl) gw_729 rfl (by decide +kernel) dX5_init_33) <|
  GPr.cons (gs_aload_n dX5_init_36 rfl) <|
  GPr.cons (gs_bipush dX5_init_37 (by decide +kernel)) <|
  GPr.cons (gs_newI gw_117 (Nat.le_of_ble_eq_true rfl) (Nat.le_of_ble_eq_true rfl) dX5_init_39) <|
  GPr.cons (gs_putRAF (fty := .int) (T := TX5) rfl gX5 tyX5_ok nmX5 (Nat.le_of_ble_eq_true rfl) gw_731 rfl rfl rfl (by decide +kernel) dX5_init_41) <|
  GPr.cons (gs_aload_n dX5_init_44 rfl) <|
  GPr.cons (gs_bipush dX5_init_45 (by decide +kernel)) <|
  GPr.cons (gs_newI gw_117 (Nat.le_of_ble_eq_true rfl) (Nat.le_of_ble_eq_true rfl) dX5_init_47) <|
  GPr.cons (gs_putRAF (fty := .int) (T := TX5) rfl gX5 tyX5_ok nmX5 (Nat.le_of_ble_eq_true rfl) gw_732 rfl rfl rfl (by decide +kernel) dX5_init_49) <|
  GPr.cons (gs_aload_n dX5_init_52 rfl) <|
  GPr.cons (gs_bipush dX5_init_53 (by decide +kernel)) <|
  GPr.cons (gs_newI gw_117 (Nat.le_of_ble_eq_true rfl) (Nat.le_of_ble_eq_true rfl) dX5_init_55) <|
  GPr.cons (gs_putRAF (fty := .int) (T := TX5) rfl gX5 tyX5_ok nmX5 (Nat.le_of_ble_eq_true rfl) gw_733 rfl rfl rfl (by decide +kernel) dX5_init_57) <|
  GPr.cons (gs_aload_n dX5_init_60 rfl) <|
  GPr.cons (gs_bipush dX5_init_61 (by decide +kernel)) <|
  GPr.cons (gs_newI gw_117 (Nat.le_of_ble_eq_true rfl) (Nat.le_of_ble_eq_true rfl) dX5_init_63) <|
  GPr.cons (gs_putRAF (fty := .int) (T := TX5) rfl gX5 tyX5_ok nmX5 (Nat.le_of_ble_eq_true rfl) gw_750 rfl rfl rfl (by decide +kernel) dX5_init_65) <|
  GPr.cons (gs_aload_n dX5_init_68 rfl) <|
  GPr.cons (gs_iconst dX5_init_69 (by decide +kernel)) <|
  GPr.cons (gs_newI gw_117 (Nat.le_of_ble_eq_true rfl) (Nat.le_of_ble_eq_true rfl) dX5_init_70) <|
  GPr.cons (gs_putRAF (fty := .int) (T := TX5) rfl gX5 tyX5_ok nmX5 (Nat.le_of_ble_eq_true rfl) gw_751 rfl rfl rfl (by decide +kernel) dX5_init_72) <|
  GPr.cons (gs_aload_n dX5_init_75 rfl) <|
  GPr.cons (gs_bipush dX5_init_76 (by decide +kernel)) <|
  GPr.cons (gs_newI gw_117 (Nat.le_of_ble_eq_true rfl) (Nat.le_of_ble_eq_true rfl) dX5_init_78) <|
  GPr.cons (gs_putRAF (fty := .int) (T := TX5) rfl gX5 tyX5_ok nmX5 (Nat.le_of_ble_eq_true rfl) gw_755 rfl rfl rfl (by decide +kernel) dX5_init_80) <|
  GPr.cons (gs_aload_n dX5_init_83 rfl) <|
  GPr.cons (gs_bipush dX5_init_84 (by decide +kernel)) <|
  GPr.cons (gs_newI gw_117 (Nat.le_of_ble_eq_true rfl) (Nat.le_of_ble_eq_true rfl) dX5_init_86) <|
  GPr.cons (gs_putRAF (fty := .int) (T := TX5) rfl gX5 tyX5_ok nmX5 (Nat.le_of_ble_eq_true rfl) gw_756 rfl rfl rfl (by decide +kernel) dX5_init_88) <|
  GPr.cons (gs_aload_n dX5_init_91 rfl) <|
  GPr.cons (gs_bipush dX5_init_92 (by decide +kernel)) <|
  GPr.cons (gs_newI gw_117 (Nat.le_of_ble_eq_true rfl) (Nat.le_of_ble_eq_true rfl) dX5_init_94) <|
  GPr.cons (gs_putRAF (fty := .int) (T := TX5) rfl gX5 tyX5_ok nmX5 (Nat.le_of_ble_eq_true rfl) gw_757 rfl rfl rfl (by decide +kernel) dX5_init_96) <|
  GPr.cons (gs_aload_n dX5_init_99 rfl) <|
  GPr.cons (gs_iconst dX5_init_100 (by decide +kernel)) <|
  GPr.cons (gs_putI (T := TX5) rfl gX5 tyX5_ok nmX5 (Nat.le_of_ble_eq_true rfl) gw_758 rfl (by decide +kernel) dX5_init_101) <|
  GPr.cons (gs_aload_n dX5_init_104 rfl) <|
  GPr.cons (gs_iconst dX5_init_105 (by decide +kernel)) <|
  GPr.cons (gs_newZ gw_860 (Nat.le_of_ble_eq_true rfl) (Nat.le_of_ble_eq_true rfl) dX5_init_106) <|
  GPr.cons (gs_putRAF (fty := .boolean) (T := TX5) rfl gX5 tyX5_ok nmX5 (Nat.le_of_ble_eq_true rfl) gw_763 rfl rfl rfl (by decide +kernel) dX5_init_108) <|
  GPr.cons (gs_aload_n dX5_init_111 rfl) <|
  GPr.cons (gs_iconst dX5_init_112 (by decide +kernel)) <|
  GPr.cons (gs_newI gw_117 (Nat.le_of_ble_eq_true rfl) (Nat.le_of_ble_eq_true rfl) dX5_init_113) <|
  GPr.cons (gs_putRAF (fty := .int) (T := TX5) rfl gX5 tyX5_ok nmX5 (Nat.le_of_ble_eq_true rfl) gw_764 rfl rfl rfl (by decide +kernel) dX5_init_115) <|
  GPr.cons (gs_aload_n dX5_init_118 rfl) <|
  GPr.cons (gs_iconst dX5_init_119 (by decide +kernel)) <|
  GPr.cons (gs_newI gw_117 (Nat.le_of_ble_eq_true rfl) (Nat.le_of_ble_eq_true rfl) dX5_init_120) <|
  GPr.cons (gs_putRAF (fty := .int) (T := TX5) rfl gX5 tyX5_ok nmX5 (Nat.le_of_ble_eq_true rfl) gw_765 rfl rfl rfl (by decide +kernel) dX5_init_122) <|
  GPr.cons (gs_aload_n dX5_init_125 rfl) <|
  GPr.cons (gs_sipush dX5_init_126 (by decide +kernel)) <|
  GPr.cons (gs_newI gw_117 (Nat.le_of_ble_eq_true rfl) (Nat.le_of_ble_eq_true rfl) dX5_init_129) <|
  GPr.cons (gs_putRAF (fty := .int) (T := TX5) rfl gX5 tyX5_ok nmX5 (Nat.le_of_ble_eq_true rfl) gw_766 rfl rfl rfl (by decide +kernel) dX5_init_131) <|
  GPr.cons (gs_iconst dX5_init_134 (by decide +kernel)) <|
  GPr.cons (gs_istore_n dX5_init_135 rfl (Nat.le_of_ble_eq_true rfl)) <|
  GPr.nil
def pX5_init_B : List (Nat × XOp) := [(136, xo_il 1 137), (137, xo_ic 10 139), (139, xo_ic_ge 155 142), (142, xo_al 0 143), (143, xo_get 5 10 146), (146, xo_il 1 147), (147, xo_ic (-1) 148), (148, xo_iast 149), (149, xo_inc 1 1 152), (152, xo_goto 136)]
theorem sX5_init_B : GPr RX5 cX5_init 2 none true 16 50 pX5_init_B :=
  GPr.cons (gs_iload_n dX5_init_136 rfl) <|
  GPr.cons (gs_bipush dX5_init_137 (by decide +kernel)) <|
  GPr.cons (gs_ic_ge dX5_init_139 (by decide +kernel)) <|
  GPr.cons (gs_aload_n dX5_init_142 rfl) <|
  GPr.cons (gs_get (T := TX5) rfl gX5 (Nat.le_of_ble_eq_true rfl) gw_731 dX5_init_143) <|
  GPr.cons (gs_iload_n dX5_init_146 rfl) <|
  GPr.cons (gs_iconst dX5_init_147 (by decide +kernel)) <|
  GPr.cons (gs_iast dX5_init_148) <|
  GPr.cons (gs_iinc dX5_init_149 (by decide +kernel) (Nat.le_of_ble_eq_true rfl)) <|
  GPr.cons (gs_goto dX5_init_152 (by decide +kernel)) <|
  GPr.nil
def pX5_init_C : List (Nat × XOp) := [(155, xo_al 0 156), (156, xo_ic 0 157), (157, xo_ic 109 159), (159, xo_ic 97 161), (161, xo_ic 107 163), (163, xo_ic 101 165), (165, xo_ic 115 167), (167, xo_ic 32 169), (169, xo_ic 115 171), (171, xo_ic 107 173), (173, xo_callG yX5_spell cX5_spell 10 9 5 16 176), (176, xo_al 0 177), (177, xo_ic 8 179), (179, xo_ic 105 181), (181, xo_ic 108 183), (183, xo_ic 108 185), (185, xo_ic 32 187), (187, xo_ic 59 189), (189, xo_ic 32 191), (191, xo_ic 109 193), (193, xo_ic 101 195), (195, xo_callG yX5_spell cX5_spell 10 9 5 16 198), (198, xo_al 0 199), (199, xo_ic 16 201), (201, xo_ic 110 203), (203, xo_ic 100 205), (205, xo_ic 115 207), (207, xo_ic 32 209), (209, xo_ic 49 211), (211, xo_ic 32 213), (213, xo_ic 59 215), (215, xo_ic 32 217), (217, xo_callG yX5_spell cX5_spell 10 9 5 16 220), (220, xo_al 0 221), (221, xo_ic 24 223), (223, xo_ic 112 225), (225, xo_ic 117 227), (227, xo_ic 109 229), (229, xo_ic 112 231), (231, xo_ic 115 233), (233, xo_ic 32 235), (235, xo_ic 51 237), (237, xo_ic 32 239), (239, xo_callG yX5_spell cX5_spell 10 9 5 16 242), (242, xo_al 0 243), (243, xo_ic 32 245), (245, xo_ic 59 247), (247, xo_ic 32 249), (249, xo_ic 32 251), (251, xo_ic 32 253), (253, xo_ic 32 255), (255, xo_ic 32 257), (257, xo_ic 32 259), (259, xo_ic 32 261), (261, xo_callG yX5_spell cX5_spell 10 9 5 16 264), (264, xo_al 0 265), (265, xo_get 5 2 268), (268, xo_ic 0 269), (269, xo_ic 40 271), (271, xo_iast 272), (272, xo_al 0 273), (273, xo_ic 1 274), (274, xo_putI 5 3 277), (277, xo_vret)]
theorem sX5_init_C : GPr RX5 cX5_init 2 none true 16 50 pX5_init_C :=
  GPr.cons (gs_aload_n dX5_init_155 rfl) <|
  GPr.cons (gs_iconst dX5_init_156 (by decide +kernel)) <|
  GPr.cons (gs_bipush dX5_init_157 (by decide +kernel)) <|
  GPr.cons (gs_bipush dX5_init_159 (by decide +kernel)) <|
  GPr.cons (gs_bipush dX5_init_161 (by decide +kernel)) <|
  GPr.cons (gs_bipush dX5_init_163 (by decide +kernel)) <|
  GPr.cons (gs_bipush dX5_init_165 (by decide +kernel)) <|
  GPr.cons (gs_bipush dX5_init_167 (by decide +kernel)) <|
  GPr.cons (gs_bipush dX5_init_169 (by decide +kernel)) <|
  GPr.cons (gs_bipush dX5_init_171 (by decide +kernel)) <|
  GPr.cons (gs_callG (T := TX5) rfl gw_718 gw_720 gw_27 gw_77 gw_721 (by decide +kernel) (Nat.le_of_ble_eq_true rfl) dX5_init_173) <|
  GPr.cons (gs_aload_n dX5_init_176 rfl) <|
  GPr.cons (gs_bipush dX5_init_177 (by decide +kernel)) <|
  GPr.cons (gs_bipush dX5_init_179 (by decide +kernel)) <|
  GPr.cons (gs_bipush dX5_init_181 (by decide +kernel)) <|
  GPr.cons (gs_bipush dX5_init_183 (by decide +kernel)) <|
  GPr.cons (gs_bipush dX5_init_185 (by decide +kernel)) <|
  GPr.cons (gs_bipush dX5_init_187 (by decide +kernel)) <|
  GPr.cons (gs_bipush dX5_init_189 (by decide +kernel)) <|
  GPr.cons (gs_bipush dX5_init_191 (by decide +kernel)) <|
  GPr.cons (gs_bipush dX5_init_193 (by decide +kernel)) <|
  GPr.cons (gs_callG (T := TX5) rfl gw_718 gw_720 gw_27 gw_77 gw_721 (by decide +kernel) (Nat.le_of_ble_eq_true rfl) dX5_init_195) <|
  GPr.cons (gs_aload_n dX5_init_198 rfl) <|
  GPr.cons (gs_bipush dX5_init_199 (by decide +kernel)) <|
  GPr.cons (gs_bipush dX5_init_201 (by decide +kernel)) <|
  GPr.cons (gs_bipush dX5_init_203 (by decide +kernel)) <|
  GPr.cons (gs_bipush dX5_init_205 (by decide +kernel)) <|
  GPr.cons (gs_bipush dX5_init_207 (by decide +kernel)) <|
  GPr.cons (gs_bipush dX5_init_209 (by decide +kernel)) <|
  GPr.cons (gs_bipush dX5_init_211 (by decide +kernel)) <|
  GPr.cons (gs_bipush dX5_init_213 (by decide +kernel)) <|
  GPr.cons (gs_bipush dX5_init_215 (by decide +kernel)) <|
  GPr.cons (gs_callG (T := TX5) rfl gw_718 gw_720 gw_27 gw_77 gw_721 (by decide +kernel) (Nat.le_of_ble_eq_true rfl) dX5_init_217) <|
  GPr.cons (gs_aload_n dX5_init_220 rfl) <|
  GPr.cons (gs_bipush dX5_init_221 (by decide +kernel)) <|
  GPr.cons (gs_bipush dX5_init_223 (by decide +kernel)) <|
  GPr.cons (gs_bipush dX5_init_225 (by decide +kernel)) <|
  GPr.cons (gs_bipush dX5_init_227 (by decide +kernel)) <|
  GPr.cons (gs_bipush dX5_init_229 (by decide +kernel)) <|
  GPr.cons (gs_bipush dX5_init_231 (by decide +kernel)) <|
  GPr.cons (gs_bipush dX5_init_233 (by decide +kernel)) <|
  GPr.cons (gs_bipush dX5_init_235 (by decide +kernel)) <|
  GPr.cons (gs_bipush dX5_init_237 (by decide +kernel)) <|
  GPr.cons (gs_callG (T := TX5) rfl gw_718 gw_720 gw_27 gw_77 gw_721 (by decide +kernel) (Nat.le_of_ble_eq_true rfl) dX5_init_239) <|
  GPr.cons (gs_aload_n dX5_init_242 rfl) <|
  GPr.cons (gs_bipush dX5_init_243 (by decide +kernel)) <|
  GPr.cons (gs_bipush dX5_init_245 (by decide +kernel)) <|
  GPr.cons (gs_bipush dX5_init_247 (by decide +kernel)) <|
  GPr.cons (gs_bipush dX5_init_249 (by decide +kernel)) <|
  GPr.cons (gs_bipush dX5_init_251 (by decide +kernel)) <|
  GPr.cons (gs_bipush dX5_init_253 (by decide +kernel)) <|
  GPr.cons (gs_bipush dX5_init_255 (by decide +kernel)) <|
  GPr.cons (gs_bipush dX5_init_257 (by decide +kernel)) <|
  GPr.cons (gs_bipush dX5_init_259 (by decide +kernel)) <|
  GPr.cons (gs_callG (T := TX5) rfl gw_718 gw_720 gw_27 gw_77 gw_721 (by decide +kernel) (Nat.le_of_ble_eq_true rfl) dX5_init_261) <|
  GPr.cons (gs_aload_n dX5_init_264 rfl) <|
  GPr.cons (gs_get (T := TX5) rfl gX5 (Nat.le_of_ble_eq_true rfl) gw_723 dX5_init_265) <|
  GPr.cons (gs_iconst dX5_init_268 (by decide +kernel)) <|
  GPr.cons (gs_bipush dX5_init_269 (by decide +kernel)) <|
  GPr.cons (gs_iast dX5_init_271) <|
  GPr.cons (gs_aload_n dX5_init_272 rfl) <|
  GPr.cons (gs_iconst dX5_init_273 (by decide +kernel)) <|
  GPr.cons (gs_putI (T := TX5) rfl gX5 tyX5_ok nmX5 (Nat.le_of_ble_eq_true rfl) gw_724 rfl (by decide +kernel) dX5_init_274) <|
  GPr.cons (gs_vret rfl dX5_init_277) <|
  GPr.nil
def pL_law_A : List (Nat × XOp) := [(0, xo_new 4 0 [.null, .int 0, .null, .null, .null, .null, .int 0, .null] 3), (3, xo_dupR 4), (4, xo_callI yX4_init cX4_init 2 0 77 7), (7, xo_as 1 8), (8, xo_new 5 61 [.int 0, .null, .null, .int 0, .int 0, .null, .int 0, .int 0, .int 0, .int 0, .null, .null, .null, .int 0, .int 0, .int 0, .int 0, .int 0, .int 0, .int 0, .int 0, .int 0, .int 0, .int 0, .int 0, .long 0, .int 0, .int 0, .int 0, .null, .null, .int 0, .int 0, .int 0, .null, .null, .null, .int 0, .int 0, .int 0, .int 0, .int 0, .null, .null, .null, .null] 11), (11, xo_dupR 12), (12, xo_callI yX5_init cX5_init 2 0 77 15), (15, xo_as 2 16)]
theorem sL_law_A : GPr RL cL_law 4 (some .boolean) false 77 112 pL_law_A :=
  GPr.cons (gs_new (T := TX4) (ty := tyX4) rfl gX4 tyX4_ok gw_85 gw_86 gw_72 (fun j hj => by rcases (show j = 0 ∨ j = 1 ∨ j = 2 ∨ j = 3 ∨ j = 4 ∨ j = 5 ∨ j = 6 ∨ j = 7 by omega) with rfl | rfl | rfl | rfl | rfl | rfl | rfl | rfl <;> rfl) (fun _ => rfl) (Nat.le_of_ble_eq_true rfl) (Nat.le_of_ble_eq_true rfl) dL_law_0) <|
  GPr.cons (gs_dupR dL_law_3) <|
  GPr.cons (gs_callI gw_87 gw_88 gw_72 gw_89 rfl (by decide +kernel) (Nat.le_of_ble_eq_true rfl) dL_law_4) <|
  GPr.cons (gs_astore_n dL_law_7 rfl (Nat.le_of_ble_eq_true rfl)) <|
  GPr.cons (gs_new (T := TX5) (ty := tyX5) rfl gX5 tyX5_ok gw_712 gw_713 gw_77 (fun j hj => by rcases (show j = 0 ∨ j = 1 ∨ j = 2 ∨ j = 3 ∨ j = 4 ∨ j = 5 ∨ j = 6 ∨ j = 7 ∨ j = 8 ∨ j = 9 ∨ j = 10 ∨ j = 11 ∨ j = 12 ∨ j = 13 ∨ j = 14 ∨ j = 15 ∨ j = 16 ∨ j = 17 ∨ j = 18 ∨ j = 19 ∨ j = 20 ∨ j = 21 ∨ j = 22 ∨ j = 23 ∨ j = 24 ∨ j = 25 ∨ j = 26 ∨ j = 27 ∨ j = 28 ∨ j = 29 ∨ j = 30 ∨ j = 31 ∨ j = 32 ∨ j = 33 ∨ j = 34 ∨ j = 35 ∨ j = 36 ∨ j = 37 ∨ j = 38 ∨ j = 39 ∨ j = 40 ∨ j = 41 ∨ j = 42 ∨ j = 43 ∨ j = 44 ∨ j = 45 by omega) with rfl | rfl | rfl | rfl | rfl | rfl | rfl | rfl | rfl | rfl | rfl | rfl | rfl | rfl | rfl | rfl | rfl | rfl | rfl | rfl | rfl | rfl | rfl | rfl | rfl | rfl | rfl | rfl | rfl | rfl | rfl | rfl | rfl | rfl | rfl | rfl | rfl | rfl | rfl | rfl | rfl | rfl | rfl | rfl | rfl | rfl <;> rfl) (fun _ => rfl) (Nat.le_of_ble_eq_true rfl) (Nat.le_of_ble_eq_true rfl) dL_law_8) <|
  GPr.cons (gs_dupR dL_law_11) <|
  GPr.cons (gs_callI gw_714 gw_715 gw_77 gw_716 rfl (by decide +kernel) (Nat.le_of_ble_eq_true rfl) dL_law_12) <|
  GPr.cons (gs_astore_n dL_law_15 rfl (Nat.le_of_ble_eq_true rfl)) <|
  GPr.nil
