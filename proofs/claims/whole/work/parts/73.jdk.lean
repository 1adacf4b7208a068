-- ===== the JDK's code for the literal =====
theorem gw_398 : Cond.methodLink RJ0 495 yJ1_charAt_3b067 ∈ gTs := gTs_of 398 (by decide +kernel) (by decide +kernel)
theorem gw_399 : Cond.static yJ1_charAt_3b067 ∈ gTs := gTs_of 399 (by decide +kernel) (by decide +kernel)
theorem gw_400 : Cond.code yJ1_charAt_3b067 cJ1_charAt_3b067 2 (some .char) ∈ gTs := gTs_of 400 (by decide +kernel) (by decide +kernel)
theorem gw_401 : Cond.methodLink RJ1 9 yJ0_checkIndex_df160 ∈ gTs := gTs_of 401 (by decide +kernel) (by decide +kernel)
theorem gw_402 : Cond.static yJ0_checkIndex_df160 ∈ gTs := gTs_of 402 (by decide +kernel) (by decide +kernel)
theorem gw_403 : Cond.code yJ0_checkIndex_df160 cJ0_checkIndex_df160 2 none ∈ gTs := gTs_of 403 (by decide +kernel) (by decide +kernel)
theorem gw_404 : Cond.fieldLink RJ0 1053 RJ3 "SIOOBE_FORMATTER" "Ljava/util/function/BiFunction;" ∈ gTs := gTs_of 404 (by decide +kernel) (by decide +kernel)
theorem gw_406 : Cond.methodLink RJ0 1059 yJ3_checkIndex_8e157 ∈ gTs := gTs_of 406 (by decide +kernel) (by decide +kernel)
theorem gw_407 : Cond.static yJ3_checkIndex_8e157 ∈ gTs := gTs_of 407 (by decide +kernel) (by decide +kernel)
theorem gw_408 : Cond.code yJ3_checkIndex_8e157 cJ3_checkIndex_8e157 3 (some .int) ∈ gTs := gTs_of 408 (by decide +kernel) (by decide +kernel)
theorem gw_81 : Cond.initialized RJ1 ∈ gTs := gTs_of 81 (by decide +kernel) (by decide +kernel)
theorem gw_82 : Cond.initialized RJ3 ∈ gTs := gTs_of 82 (by decide +kernel) (by decide +kernel)
def pJ3_ck : List (Nat × XOp) := [(0, xo_il 0 1), (1, xo_if_lt 9 4), (4, xo_il 0 5), (5, xo_il 1 6), (6, xo_ic_lt 16 9), (16, xo_il 0 17), (17, xo_iret)]
theorem sJ3_ck : XPr RJ3 cJ3_checkIndex_8e157 3 (some .int) 0 pJ3_ck :=
  XPr.cons (xs_iload_n dJ3_checkIndex_8e157_0 rfl) <|
  XPr.cons (xs_if_lt dJ3_checkIndex_8e157_1 (by decide +kernel)) <|
  XPr.cons (xs_iload_n dJ3_checkIndex_8e157_4 rfl) <|
  XPr.cons (xs_iload_n dJ3_checkIndex_8e157_5 rfl) <|
  XPr.cons (xs_ic_lt dJ3_checkIndex_8e157_6 (by decide +kernel)) <|
  XPr.cons (xs_iload_n dJ3_checkIndex_8e157_16 rfl) <|
  XPr.cons (xs_iret rfl dJ3_checkIndex_8e157_17) <|
  XPr.nil
theorem c_J3_ckR (E : XEnv) (i n : Int32) (k : Nat) (h0 : ¬ i < 0) (h1 : i < n) : XCall E 0 yJ3_checkIndex_8e157 cJ3_checkIndex_8e157 3 (some .int) [.int i, .int n, .ref k] [] (fun r _ => r = some (.int i)) :=
  XCall.of (by decide +kernel) (xle rfl) (xgo sJ3_ck [] 60 (xle rfl) ⟨fun y => absurd y h0, fun _ => ⟨fun _ => rfl, fun y => absurd h1 y⟩⟩)
theorem c_J3_ckN (E : XEnv) (i n : Int32) (h0 : ¬ i < 0) (h1 : i < n) : XCall E 0 yJ3_checkIndex_8e157 cJ3_checkIndex_8e157 3 (some .int) [.int i, .int n, .null] [] (fun r _ => r = some (.int i)) :=
  XCall.of (by decide +kernel) (xle rfl) (xgo sJ3_ck [] 60 (xle rfl) ⟨fun y => absurd y h0, fun _ => ⟨fun _ => rfl, fun y => absurd h1 y⟩⟩)
def pJ0_coder : List (Nat × XOp) := [(0, xo_jcs 3), (3, xo_if_eq 13 6), (6, xo_al 0 7), (7, xo_jcod 10), (10, xo_goto 14), (13, xo_ic 1 14), (14, xo_nret .byte)]
theorem sJ0_coder : XPr RJ0 cJ0_coder_7d493 1 (some .byte) 0 pJ0_coder :=
  XPr.cons (xs_jcs rfl dJ0_coder_7d493_0) <|
  XPr.cons (xs_if_eq dJ0_coder_7d493_3 (by decide +kernel)) <|
  XPr.cons (xs_aload_n dJ0_coder_7d493_6 rfl) <|
  XPr.cons (xs_jcod rfl dJ0_coder_7d493_7) <|
  XPr.cons (xs_goto dJ0_coder_7d493_10 (by decide +kernel)) <|
  XPr.cons (xs_iconst dJ0_coder_7d493_13 (by decide +kernel)) <|
  XPr.cons (xs_nret rfl dJ0_coder_7d493_14) <|
  XPr.nil
theorem c_J0_coder (E : XEnv) : XCall E 0 yJ0_coder_7d493 cJ0_coder_7d493 1 (some .byte) [.ref 1000003] [] (fun r _ => r = some (.int 0)) :=
  XCall.of (by decide +kernel) (xle rfl) (xgo sJ0_coder [] 60 (xle rfl) ⟨fun y => absurd y (by decide), fun _ => ⟨rfl, rfl, rfl⟩⟩)
def pJ0_lat : List (Nat × XOp) := [(0, xo_jcs 3), (3, xo_if_eq 17 6), (6, xo_al 0 7), (7, xo_jcod 10), (10, xo_if_ne 17 13), (13, xo_ic 1 14), (14, xo_goto 18), (17, xo_ic 0 18), (18, xo_zret)]
theorem sJ0_lat : XPr RJ0 cJ0_isLatin1_aae02 1 (some .boolean) 0 pJ0_lat :=
  XPr.cons (xs_jcs rfl dJ0_isLatin1_aae02_0) <|
  XPr.cons (xs_if_eq dJ0_isLatin1_aae02_3 (by decide +kernel)) <|
  XPr.cons (xs_aload_n dJ0_isLatin1_aae02_6 rfl) <|
  XPr.cons (xs_jcod rfl dJ0_isLatin1_aae02_7) <|
  XPr.cons (xs_if_ne dJ0_isLatin1_aae02_10 (by decide +kernel)) <|
  XPr.cons (xs_iconst dJ0_isLatin1_aae02_13 (by decide +kernel)) <|
  XPr.cons (xs_goto dJ0_isLatin1_aae02_14 (by decide +kernel)) <|
  XPr.cons (xs_iconst dJ0_isLatin1_aae02_17 (by decide +kernel)) <|
  XPr.cons (xs_zret rfl dJ0_isLatin1_aae02_18) <|
  XPr.nil
theorem c_J0_lat (E : XEnv) : XCall E 0 yJ0_isLatin1_aae02 cJ0_isLatin1_aae02 1 (some .boolean) [.ref 1000003] [] (fun r _ => r = some (.int 1)) :=
  XCall.of (by decide +kernel) (xle rfl) (xgo sJ0_lat [] 60 (xle rfl) ⟨fun y => absurd y (by decide), fun _ => ⟨rfl, fun y => absurd rfl y, fun _ => ⟨Or.inr rfl, rfl⟩⟩⟩)
def pJ0_length : List (Nat × XOp) := [(0, xo_al 0 1), (1, xo_jval 4), (4, xo_jlen 5), (5, xo_al 0 6), (6, xo_callJ yJ0_coder_7d493 cJ0_coder_7d493 1 (some .byte) 0 9), (9, xo_ishr 10), (10, xo_iret)]
theorem sJ0_length : XPr RJ0 cJ0_length_8abf5 1 (some .int) 1 pJ0_length :=
  XPr.cons (xs_aload_n dJ0_length_8abf5_0 rfl) <|
  XPr.cons (xs_jval rfl dJ0_length_8abf5_1) <|
  XPr.cons (xs_jlen dJ0_length_8abf5_4) <|
  XPr.cons (xs_aload_n dJ0_length_8abf5_5 rfl) <|
  XPr.cons (xs_callJ gw_384 gw_385 gw_386 gw_80 gw_387 (by decide +kernel) (Nat.le_of_ble_eq_true rfl) dJ0_length_8abf5_6) <|
  XPr.cons (xs_ishr dJ0_length_8abf5_9) <|
  XPr.cons (xs_iret rfl dJ0_length_8abf5_10) <|
  XPr.nil
theorem c_J0_length (E : XEnv) : XCall E 1 yJ0_length_8abf5 cJ0_length_8abf5 1 (some .int) [.ref 1000003] [] (fun r _ => r = some (.int 63)) := by
  refine XCall.of (by decide +kernel) (xle rfl) (xgo sJ0_length [] 60 (xle rfl) ⟨rfl, rfl, rfl, XIn.sub [] (xle rfl) (c_J0_coder E) List.nodup_nil (Nat.le_of_ble_eq_true rfl) rfl rfl (fun r σ' hl hr => ?_)⟩)
  subst hr
  rfl
section JOPS
variable {own : String} {cc : ByteArray} {nL : Nat} {rt : Option FieldType} {mL pc : Nat}
theorem xs_strLen {index : Nat} (hk : Cond.methodLink own index yJ0_length_8abf5 ∈ gTs) (hd : 1 < mL) (hdg : decode cc pc = .ok (.invokevirtual index, 3)) : XSnd own cc nL rt mL pc (xo_strLen (pc + 3)) := by
  intro E Lv n0 Q X hLv hX lv st σ h
  obtain ⟨q, st, rfl, h1⟩ := pR_e h
  cases hsm : smal st with
  | false => simp only [hsm] at h1
  | true =>
    simp only [hsm] at h1
    obtain ⟨hq, h2⟩ := h1
    subst hq
    refine (xs_callJ (n := 0) hk gw_381 gw_382 gw_80 gw_383 (by decide +kernel) (Nat.le_of_ble_eq_true rfl) hdg) E Lv n0 Q X hLv hX lv _ σ ?_
    show 1000003 = 1000003 ∧ (match smal st with
      | true => XIn E Lv yJ0_length_8abf5 cJ0_length_8abf5 1 (some .int) [.ref 1000003] σ fun r σ' => X (pc + 3) lv (xpush r st) σ'
      | false => False)
    rw [hsm]
    exact ⟨rfl, XIn.sub [] (Nat.lt_of_lt_of_le hd hLv) (c_J0_length E) List.nodup_nil (Nat.le_of_ble_eq_true rfl) rfl rfl (fun r σ' hl hr => by subst hr; exact h2)⟩
end JOPS
