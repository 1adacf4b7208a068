-- ===== a place of the literal; the class's words, kept by the machine =====
theorem xb_ch : ∀ i, i < 63 → (((xByt.getD i 0) &&& 255).toUInt32 % 65536).toInt32 = xByt.getD i 0 ∧ narrow .char (.int (xByt.getD i 0)) = .int (xByt.getD i 0) := by decide +kernel
def pJ0_ck : List (Nat × XOp) := [(0, xo_il 0 1), (1, xo_il 1 2), (2, xo_chk 8), (8, xo_popI 9), (9, xo_vret)]
theorem sJ0_ck : XPr RJ0 cJ0_checkIndex_df160 2 none 1 pJ0_ck :=
  XPr.cons (xs_iload_n dJ0_checkIndex_df160_0 rfl) <|
  XPr.cons (xs_iload_n dJ0_checkIndex_df160_1 rfl) <|
  XPr.cons (xs_chk rfl (Nat.le_of_ble_eq_true rfl) dJ0_checkIndex_df160_2 dJ0_checkIndex_df160_5) <|
  XPr.cons (xs_popI dJ0_checkIndex_df160_8) <|
  XPr.cons (xs_vret rfl dJ0_checkIndex_df160_9) <|
  XPr.nil
theorem c_J0_ck (E : XEnv) (i n : Int32) (h0 : ¬ i < 0) (h1 : i < n) : XCall E 1 yJ0_checkIndex_df160 cJ0_checkIndex_df160 2 none [.int i, .int n] [] (fun r _ => r = none) :=
  XCall.of (by decide +kernel) (xle rfl) (xgo sJ0_ck [] 60 (xle rfl) ⟨⟨h0, h1⟩, rfl⟩)
def pJ1_ch : List (Nat × XOp) := [(0, xo_il 1 1), (1, xo_al 0 2), (2, xo_jlen 3), (3, xo_callS yJ0_checkIndex_df160 cJ0_checkIndex_df160 2 none 2 6), (6, xo_al 0 7), (7, xo_il 1 8), (8, xo_jb 9), (9, xo_ic 255 12), (12, xo_iand 13), (13, xo_i2c 14), (14, xo_nret .char)]
theorem sJ1_ch : XPr RJ1 cJ1_charAt_3b067 2 (some .char) 2 pJ1_ch :=
  XPr.cons (xs_iload_n dJ1_charAt_3b067_0 rfl) <|
  XPr.cons (xs_aload_n dJ1_charAt_3b067_1 rfl) <|
  XPr.cons (xs_jlen dJ1_charAt_3b067_2) <|
  XPr.cons (xs_callS gw_401 gw_402 gw_80 gw_403 (by decide +kernel) (Nat.le_of_ble_eq_true rfl) dJ1_charAt_3b067_3) <|
  XPr.cons (xs_aload_n dJ1_charAt_3b067_6 rfl) <|
  XPr.cons (xs_iload_n dJ1_charAt_3b067_7 rfl) <|
  XPr.cons (xs_jb dJ1_charAt_3b067_8) <|
  XPr.cons (xs_sipush dJ1_charAt_3b067_9 (by decide +kernel)) <|
  XPr.cons (xs_iand dJ1_charAt_3b067_12) <|
  XPr.cons (xs_i2c dJ1_charAt_3b067_13) <|
  XPr.cons (xs_nret rfl dJ1_charAt_3b067_14) <|
  XPr.nil
theorem c_J1_ch (E : XEnv) (i : Nat) (hi : i < 63) : XCall E 2 yJ1_charAt_3b067 cJ1_charAt_3b067 2 (some .char) [.ref 1000004, .int (nI i)] [] (fun r _ => r = some (.int (xByt.getD i 0))) := by
  have ci : (nI i).toNatClampNeg = i := nI_clamp (by omega)
  have hb := xb_ch i hi
  refine XCall.of (by decide +kernel) (xle rfl) (xgo sJ1_ch [] 60 (xle rfl) ⟨rfl, XIn.sub [] (xle rfl) (c_J0_ck E (nI i) 63 (nI_pos (by omega)) (nI_lt (b := 63) hi (by omega))) List.nodup_nil (Nat.le_of_ble_eq_true rfl) rfl rfl (fun r σ' hl hr => ?_)⟩)
  subst hr
  refine ⟨rfl, vp_in_nI (by omega) (by omega), ?_⟩
  rw [ci]
  refine ⟨?_, ?_⟩
  · rw [hb.1]
    exact hb.2
  · rw [hb.1]
def pJ0_ch : List (Nat × XOp) := [(0, xo_al 0 1), (1, xo_callJ yJ0_isLatin1_aae02 cJ0_isLatin1_aae02 1 (some .boolean) 0 4), (4, xo_if_eq 16 7), (7, xo_al 0 8), (8, xo_jval 11), (11, xo_il 1 12), (12, xo_callS yJ1_charAt_3b067 cJ1_charAt_3b067 2 (some .char) 2 15), (15, xo_nret .char)]
theorem sJ0_ch : XPr RJ0 cJ0_charAt_5068e 2 (some .char) 3 pJ0_ch :=
  XPr.cons (xs_aload_n dJ0_charAt_5068e_0 rfl) <|
  XPr.cons (xs_callJ gw_394 gw_395 gw_396 gw_80 gw_397 (by decide +kernel) (Nat.le_of_ble_eq_true rfl) dJ0_charAt_5068e_1) <|
  XPr.cons (xs_if_eq dJ0_charAt_5068e_4 (by decide +kernel)) <|
  XPr.cons (xs_aload_n dJ0_charAt_5068e_7 rfl) <|
  XPr.cons (xs_jval rfl dJ0_charAt_5068e_8) <|
  XPr.cons (xs_iload_n dJ0_charAt_5068e_11 rfl) <|
  XPr.cons (xs_callS gw_398 gw_399 gw_81 gw_400 (by decide +kernel) (Nat.le_of_ble_eq_true rfl) dJ0_charAt_5068e_12) <|
  XPr.cons (xs_nret rfl dJ0_charAt_5068e_15) <|
  XPr.nil
theorem c_J0_ch (E : XEnv) (i : Nat) (hi : i < 63) : XCall E 3 yJ0_charAt_5068e cJ0_charAt_5068e 2 (some .char) [.ref 1000003, .int (nI i)] [] (fun r _ => r = some (.int (xByt.getD i 0))) := by
  refine XCall.of (by decide +kernel) (xle rfl) (xgo sJ0_ch [] 60 (xle rfl) ⟨rfl, XIn.sub [] (xle rfl) (c_J0_lat E) List.nodup_nil (Nat.le_of_ble_eq_true rfl) rfl rfl (fun r σ' hl hr => ?_)⟩)
  subst hr
  refine ⟨fun y => absurd y (by decide), fun _ => ⟨rfl, XIn.sub [] (xle rfl) (c_J1_ch E i hi) List.nodup_nil (Nat.le_of_ble_eq_true rfl) rfl rfl (fun r σ' hl hr => ?_)⟩⟩
  subst hr
  exact ⟨(xb_ch i hi).2, rfl⟩
section JOPS
variable {own : String} {cc : ByteArray} {nL : Nat} {rt : Option FieldType} {mL pc : Nat}
theorem xs_strAt {index : Nat} (hk : Cond.methodLink own index yJ0_charAt_5068e ∈ gTs) (hd : 3 < mL) (hdg : decode cc pc = .ok (.invokevirtual index, 3)) : XSnd own cc nL rt mL pc (xo_strAt (pc + 3)) := by
  intro E Lv n0 Q X hLv hX lv st σ h
  obtain ⟨i, st, rfl, h0⟩ := pI_e h
  obtain ⟨q, st, rfl, h1⟩ := pR_e h0
  cases hsm : smal st with
  | false => simp only [hsm] at h1
  | true =>
    simp only [hsm] at h1
    obtain ⟨hq, hin, h2⟩ := h1
    subst hq
    obtain ⟨k, hk1, rfl⟩ := nI_of (fun z => hin (Or.inl z))
    have hk0 : k < 63 := Nat.lt_of_not_le (fun z => hin (Or.inr (by rw [nI_clamp (by omega)]; exact z)))
    rw [nI_clamp (by omega)] at h2
    refine (xs_callJ (n := 1) hk gw_391 gw_392 gw_80 gw_393 (by decide +kernel) (Nat.le_of_ble_eq_true rfl) hdg) E Lv n0 Q X hLv hX lv _ σ ?_
    show 1000003 = 1000003 ∧ (match smal st with
      | true => XIn E Lv yJ0_charAt_5068e cJ0_charAt_5068e 2 (some .char) [.ref 1000003, .int (nI k)] σ fun r σ' => X (pc + 3) lv (xpush r st) σ'
      | false => False)
    rw [hsm]
    exact ⟨rfl, XIn.sub [] (Nat.lt_of_lt_of_le hd hLv) (c_J0_ch E k hk0) List.nodup_nil (Nat.le_of_ble_eq_true rfl) rfl rfl (fun r σ' hl hr => by subst hr; exact h2)⟩
end JOPS
theorem sX0_nextWord_0 : XPr RX0 cX0_nextWord 5 none 10 pX0_nextWord_0 :=
  XPr.cons (xs_aload_n dX0_nextWord_0 rfl) <|
  XPr.cons (xs_get (T := TX0) rfl gX0 (Nat.le_of_ble_eq_true rfl) gw_127 dX0_nextWord_1) <|
  XPr.cons (xs_aload_n dX0_nextWord_4 rfl) <|
  XPr.cons (xs_get (T := TX0) rfl gX0 (Nat.le_of_ble_eq_true rfl) gw_125 dX0_nextWord_5) <|
  XPr.cons (xs_ic_ge dX0_nextWord_8 (by decide +kernel)) <|
  XPr.cons (xs_aload_n dX0_nextWord_11 rfl) <|
  XPr.cons (xs_get (T := TX0) rfl gX0 (Nat.le_of_ble_eq_true rfl) gw_124 dX0_nextWord_12) <|
  XPr.cons (xs_aload_n dX0_nextWord_15 rfl) <|
  XPr.cons (xs_get (T := TX0) rfl gX0 (Nat.le_of_ble_eq_true rfl) gw_127 dX0_nextWord_16) <|
  XPr.cons (xs_iald dX0_nextWord_19) <|
  XPr.cons (xs_bipush dX0_nextWord_20 (by decide +kernel)) <|
  XPr.cons (xs_bipush dX0_nextWord_22 (by decide +kernel)) <|
  XPr.cons (xs_p3 (xs_callN (host := RX4) (by decide +kernel) gw_259 gw_72 gw_260 (by decide +kernel) (Nat.le_of_ble_eq_true rfl) dX0_nextWord_24) c_X4_within (Nat.le_of_ble_eq_true rfl)) <|
  XPr.cons (xs_if_eq dX0_nextWord_27 (by decide +kernel)) <|
  XPr.cons (xs_aload_n dX0_nextWord_30 rfl) <|
  XPr.cons (xs_dupR dX0_nextWord_31) <|
  XPr.cons (xs_get (T := TX0) rfl gX0 (Nat.le_of_ble_eq_true rfl) gw_127 dX0_nextWord_32) <|
  XPr.cons (xs_iconst dX0_nextWord_35 (by decide +kernel)) <|
  XPr.cons (xs_iadd dX0_nextWord_36) <|
  XPr.cons (xs_putI (T := TX0) rfl gX0 tyX0_ok nmX0 (Nat.le_of_ble_eq_true rfl) gw_127 rfl (by decide +kernel) dX0_nextWord_37) <|
  XPr.cons (xs_goto dX0_nextWord_40 (by decide +kernel)) <|
  XPr.cons (xs_aload_n dX0_nextWord_43 rfl) <|
  XPr.cons (xs_bipush dX0_nextWord_44 (by decide +kernel)) <|
  XPr.cons (xs_putI (T := TX0) rfl gX0 tyX0_ok nmX0 (Nat.le_of_ble_eq_true rfl) gw_128 rfl (by decide +kernel) dX0_nextWord_46) <|
  XPr.cons (xs_iconst dX0_nextWord_49 (by decide +kernel)) <|
  XPr.cons (xs_istore_n dX0_nextWord_50 rfl (Nat.le_of_ble_eq_true rfl)) <|
  XPr.cons (xs_aload_n dX0_nextWord_51 rfl) <|
  XPr.cons (xs_get (T := TX0) rfl gX0 (Nat.le_of_ble_eq_true rfl) gw_129 dX0_nextWord_52) <|
  XPr.cons (xs_istore_n dX0_nextWord_55 rfl (Nat.le_of_ble_eq_true rfl)) <|
  XPr.cons (xs_iconst dX0_nextWord_56 (by decide +kernel)) <|
  XPr.cons (xs_istore_n dX0_nextWord_57 rfl (Nat.le_of_ble_eq_true rfl)) <|
  XPr.cons (xs_iconst dX0_nextWord_58 (by decide +kernel)) <|
  XPr.cons (xs_istore dX0_nextWord_59 (Nat.le_of_ble_eq_true rfl)) <|
  XPr.cons (xs_iload dX0_nextWord_61) <|
  XPr.cons (xs_ldcS rfl dX0_nextWord_63) <|
  XPr.cons (xs_strLen gw_380 (Nat.le_of_ble_eq_true rfl) dX0_nextWord_65) <|
  XPr.cons (xs_ic_ge dX0_nextWord_68 (by decide +kernel)) <|
  XPr.cons (xs_ldcS rfl dX0_nextWord_71) <|
  XPr.cons (xs_iload dX0_nextWord_73) <|
  XPr.cons (xs_strAt gw_390 (Nat.le_of_ble_eq_true rfl) dX0_nextWord_75) <|
  XPr.nil
theorem sX0_nextWord_1 : XPr RX0 cX0_nextWord 5 none 10 pX0_nextWord_1 :=
  XPr.cons (xs_bipush dX0_nextWord_78 (by decide +kernel)) <|
  XPr.cons (xs_ic_eq dX0_nextWord_80 (by decide +kernel)) <|
  XPr.cons (xs_iload_n dX0_nextWord_83 rfl) <|
  XPr.cons (xs_if_eq dX0_nextWord_84 (by decide +kernel)) <|
  XPr.cons (xs_iload_n dX0_nextWord_87 rfl) <|
  XPr.cons (xs_aload_n dX0_nextWord_88 rfl) <|
  XPr.cons (xs_get (T := TX0) rfl gX0 (Nat.le_of_ble_eq_true rfl) gw_127 dX0_nextWord_89) <|
  XPr.cons (xs_ic_ge dX0_nextWord_92 (by decide +kernel)) <|
  XPr.cons (xs_aload_n dX0_nextWord_95 rfl) <|
  XPr.cons (xs_get (T := TX0) rfl gX0 (Nat.le_of_ble_eq_true rfl) gw_124 dX0_nextWord_96) <|
  XPr.cons (xs_iload_n dX0_nextWord_99 rfl) <|
  XPr.cons (xs_iald dX0_nextWord_100) <|
  XPr.cons (xs_ldcS rfl dX0_nextWord_101) <|
  XPr.cons (xs_iload dX0_nextWord_103) <|
  XPr.cons (xs_strAt gw_390 (Nat.le_of_ble_eq_true rfl) dX0_nextWord_105) <|
  XPr.cons (xs_ic_ne dX0_nextWord_108 (by decide +kernel)) <|
  XPr.cons (xs_iconst dX0_nextWord_111 (by decide +kernel)) <|
  XPr.cons (xs_goto dX0_nextWord_112 (by decide +kernel)) <|
  XPr.cons (xs_iconst dX0_nextWord_115 (by decide +kernel)) <|
  XPr.cons (xs_istore_n dX0_nextWord_116 rfl (Nat.le_of_ble_eq_true rfl)) <|
  XPr.cons (xs_iinc dX0_nextWord_117 (by decide +kernel) (Nat.le_of_ble_eq_true rfl)) <|
  XPr.cons (xs_goto dX0_nextWord_120 (by decide +kernel)) <|
  XPr.cons (xs_iload_n dX0_nextWord_123 rfl) <|
  XPr.cons (xs_if_eq dX0_nextWord_124 (by decide +kernel)) <|
  XPr.cons (xs_iload_n dX0_nextWord_127 rfl) <|
  XPr.cons (xs_aload_n dX0_nextWord_128 rfl) <|
  XPr.cons (xs_get (T := TX0) rfl gX0 (Nat.le_of_ble_eq_true rfl) gw_127 dX0_nextWord_129) <|
  XPr.cons (xs_ic_ne dX0_nextWord_132 (by decide +kernel)) <|
  XPr.cons (xs_aload_n dX0_nextWord_135 rfl) <|
  XPr.cons (xs_iload_n dX0_nextWord_136 rfl) <|
  XPr.cons (xs_putI (T := TX0) rfl gX0 tyX0_ok nmX0 (Nat.le_of_ble_eq_true rfl) gw_128 rfl (by decide +kernel) dX0_nextWord_137) <|
  XPr.cons (xs_iinc dX0_nextWord_140 (by decide +kernel) (Nat.le_of_ble_eq_true rfl)) <|
  XPr.cons (xs_aload_n dX0_nextWord_143 rfl) <|
  XPr.cons (xs_get (T := TX0) rfl gX0 (Nat.le_of_ble_eq_true rfl) gw_129 dX0_nextWord_144) <|
  XPr.cons (xs_istore_n dX0_nextWord_147 rfl (Nat.le_of_ble_eq_true rfl)) <|
  XPr.cons (xs_iconst dX0_nextWord_148 (by decide +kernel)) <|
  XPr.cons (xs_istore_n dX0_nextWord_149 rfl (Nat.le_of_ble_eq_true rfl)) <|
  XPr.cons (xs_iinc dX0_nextWord_150 (by decide +kernel) (Nat.le_of_ble_eq_true rfl)) <|
  XPr.cons (xs_goto dX0_nextWord_153 (by decide +kernel)) <|
  XPr.cons (xs_vret rfl dX0_nextWord_156) <|
  XPr.nil
theorem sX0_nextWord : XPr RX0 cX0_nextWord 5 none 10 pX0_nextWord := (sX0_nextWord_0).app sX0_nextWord_1
theorem word_all (E : XEnv) (bs : F32) (n : Nat) (wh : Int32) (en wt : F32) (hn : n ≤ 160) : WordOk E bs n wh en wt := word_ok E bs n wh en wt sX0_nextWord hn
