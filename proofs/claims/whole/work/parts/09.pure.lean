-- ===== functions without a world =====
def f_within (v a b : Int32) : Int32 := if v < a then 0 else if b < v then 0 else 1
def f_isPart (v : Int32) : Int32 := f_within v 0 9
def f_isSheet (v : Int32) : Int32 := f_within v 0 3
def f_isUnder (v : Int32) : Int32 := if v - v / 2 * 2 = 0 then 1 else 0
def f_max (a b : Int32) : Int32 := if a < b then b else a
def f_min (a b : Int32) : Int32 := if b < a then b else a
def f_ushr (x y : Int32) : Int32 := (x.toUInt32 >>> (y.toUInt32 &&& Int32.toUInt32 31)).toInt32
def f_bits5 (x : Int32) : Int32 := x + f_ushr x 16
def f_bits4 (x : Int32) : Int32 := x + f_ushr x 8
def f_bits3 (x : Int32) : Int32 := (x + f_ushr x 4) &&& 252645135
def f_bits2 (x : Int32) : Int32 := (x &&& 858993459) + (f_ushr x 2 &&& 858993459)
def f_bits1 (x : Int32) : Int32 := x - (f_ushr x 1 &&& 1431655765)
def f_bits (x : Int32) : Int32 := f_bits5 (f_bits4 (f_bits3 (f_bits2 (f_bits1 x)))) &&& 63
def f_bound (v : Int32) : Int32 := f_max 0 (f_min 99 v)
def f_join (s a b : Int32) : Int32 := if s = -12 then a - b else if s = -11 then a + b else if s = -10 then (if a = b then 1 else 0) else if s = -9 then (if a < b then 1 else 0) else if s = -8 then (if a = 0 then 0 else if b = 0 then 0 else 1) else if s = -7 then (if a = 0 then (if b = 0 then 0 else 1) else 1) else a * b
def f_sign (v : Int32) : Int32 := if f_within v 40 43 = 0 then (if v = 45 then 1 else if f_within v 59 61 = 0 then 0 else 1) else 1
def f_in (v a b : Int64) : Int32 := if lg_cmp v a < 0 then 0 else if 0 < lg_cmp v b then 0 else 1
def f_clamp (v a b : Int32) : Int32 := if a ≤ v then (if v ≤ b then v else b) else a
def f_mostOf (w : Int32) : Int32 := if w = 0 then 999 else if w = 2 then 100 else if w = 4 then 9 else 99
def f_over (k : Int32) : Int32 := if k = 0 then -1 else if k = 3 then 1 else if k = 4 then 2 else 0
def f_bitsL : Nat → Int32 → Int32 → Int32
  | 0, _, n => n
  | k + 1, v, n => if v = 0 then n else f_bitsL k (v &&& (v - 1)) (n + 1)
def f_bitsM (v : Int32) : Int32 := f_bitsL (v.toBitVec.toNat + 1) v 0
theorem f_within_01 (v a b : Int32) : f_within v a b = 0 ∨ f_within v a b = 1 := by
  unfold f_within
  split
  · exact Or.inl rfl
  · split
    · exact Or.inl rfl
    · exact Or.inr rfl
theorem xs_mmax {own : String} {cc : ByteArray} {nL : Nat} {rt : Option FieldType} {mL pc index : Nat} (h1 : Cond.methodLink own index Lib.Math.max.name ∈ gTs) (h2 : Cond.static Lib.Math.max.name ∈ gTs) (h3 : Cond.initialized "java/lang/Math" ∈ gTs) (h4 : Cond.code Lib.Math.max.name Lib.Math.max.code 2 (some .int) ∈ gTs) (hdg : decode cc pc = .ok (.invokestatic index, 3)) : XSnd own cc nL rt mL pc (xo_p2 f_max (pc + 3)) := by
  intro E Lv n0 Q X hLv hX lv st σ h
  obtain ⟨b, st, rfl, h1'⟩ := pI_e h
  obtain ⟨a, st, rfl, h2'⟩ := pI_e h1'
  cases hsm : smal st with
  | false => simp only [hsm] at h2'
  | true =>
    simp only [hsm] at h2'
    intro p e R s m args below meth c H locs cells slots Z D cA ad A ls hC hR hl hw hE
    have hsum := smal_e (ad := ad) hsm
    exact va_mmax hC.1 hC.2.1 (hC.2.2.1.trans hl.1.symm) hC.2.2.2.1 (hC.2.2.2.2 _ h1) (hC.2.2.2.2 _ h2) (hC.2.2.2.2 _ h3) (hC.2.2.2.2 _ h4) (by have := hR.1; omega) (by have := hR.2.1; omega) hR.2.2.1 hR.2.2.2 hdg (hX _ _ _ _ h2' p e R s m args below meth c H locs cells slots Z D cA ad A ls hC hR hl hw hE)
theorem xs_mmin {own : String} {cc : ByteArray} {nL : Nat} {rt : Option FieldType} {mL pc index : Nat} (h1 : Cond.methodLink own index Lib.Math.min.name ∈ gTs) (h2 : Cond.static Lib.Math.min.name ∈ gTs) (h3 : Cond.initialized "java/lang/Math" ∈ gTs) (h4 : Cond.code Lib.Math.min.name Lib.Math.min.code 2 (some .int) ∈ gTs) (hdg : decode cc pc = .ok (.invokestatic index, 3)) : XSnd own cc nL rt mL pc (xo_p2 f_min (pc + 3)) := by
  intro E Lv n0 Q X hLv hX lv st σ h
  obtain ⟨b, st, rfl, h1'⟩ := pI_e h
  obtain ⟨a, st, rfl, h2'⟩ := pI_e h1'
  cases hsm : smal st with
  | false => simp only [hsm] at h2'
  | true =>
    simp only [hsm] at h2'
    intro p e R s m args below meth c H locs cells slots Z D cA ad A ls hC hR hl hw hE
    have hsum := smal_e (ad := ad) hsm
    exact va_mmin hC.1 hC.2.1 (hC.2.2.1.trans hl.1.symm) hC.2.2.2.1 (hC.2.2.2.2 _ h1) (hC.2.2.2.2 _ h2) (hC.2.2.2.2 _ h3) (hC.2.2.2.2 _ h4) (by have := hR.1; omega) (by have := hR.2.1; omega) hR.2.2.1 hR.2.2.2 hdg (hX _ _ _ _ h2' p e R s m args below meth c H locs cells slots Z D cA ad A ls hC hR hl hw hE)
def pX4_within : List (Nat × XOp) := [(0, xo_il 0 1), (1, xo_il 1 2), (2, xo_ic_lt 14 5), (5, xo_il 0 6), (6, xo_il 2 7), (7, xo_ic_gt 14 10), (10, xo_ic 1 11), (11, xo_goto 15), (14, xo_ic 0 15), (15, xo_zret)]
theorem sX4_within : XPr RX4 cX4_within 3 (some .boolean) 0 pX4_within :=
  XPr.cons (xs_iload_n dX4_within_0 rfl) <|
  XPr.cons (xs_iload_n dX4_within_1 rfl) <|
  XPr.cons (xs_ic_lt dX4_within_2 (by decide +kernel)) <|
  XPr.cons (xs_iload_n dX4_within_5 rfl) <|
  XPr.cons (xs_iload_n dX4_within_6 rfl) <|
  XPr.cons (xs_ic_gt dX4_within_7 (by decide +kernel)) <|
  XPr.cons (xs_iconst dX4_within_10 (by decide +kernel)) <|
  XPr.cons (xs_goto dX4_within_11 (by decide +kernel)) <|
  XPr.cons (xs_iconst dX4_within_14 (by decide +kernel)) <|
  XPr.cons (xs_zret rfl dX4_within_15) <|
  XPr.nil
set_option maxRecDepth 20000 in
theorem c_X4_within (E : XEnv) (a b c : Int32) : XCall E 0 yX4_within cX4_within 3 (some .boolean) [.int a, .int b, .int c] [] (fun r _ => r = some (.int (f_within a b c))) := by
  refine XCall.of (by decide +kernel) (Nat.le_of_ble_eq_true rfl) (xgo sX4_within [] 60 (Nat.le_refl _) ?_)
  refine ⟨fun h1 => ?_, fun h1 => ⟨fun h2 => ?_, fun h2 => ?_⟩⟩
  · exact ⟨Or.inl rfl, congrArg (fun x => some (Value.int x)) (by simp [f_within, h1])⟩
  · exact ⟨Or.inl rfl, congrArg (fun x => some (Value.int x)) (by simp [f_within, h1, h2])⟩
  · exact ⟨Or.inr rfl, congrArg (fun x => some (Value.int x)) (by simp [f_within, h1, h2])⟩
def pX4_isPart : List (Nat × XOp) := [(0, xo_il 0 1), (1, xo_ic 0 2), (2, xo_ic 9 4), (4, xo_p3 f_within 7), (7, xo_zret)]
theorem sX4_isPart : XPr RX4 cX4_isPart 1 (some .boolean) 1 pX4_isPart :=
  XPr.cons (xs_iload_n dX4_isPart_0 rfl) <|
  XPr.cons (xs_iconst dX4_isPart_1 (by decide +kernel)) <|
  XPr.cons (xs_bipush dX4_isPart_2 (by decide +kernel)) <|
  XPr.cons (xs_p3 (xs_callS gw_258 gw_259 gw_72 gw_260 (by decide +kernel) (Nat.le_of_ble_eq_true rfl) dX4_isPart_4) c_X4_within (Nat.le_of_ble_eq_true rfl)) <|
  XPr.cons (xs_zret rfl dX4_isPart_7) <|
  XPr.nil
set_option maxRecDepth 20000 in
theorem c_X4_isPart (E : XEnv) (a : Int32) : XCall E 1 yX4_isPart cX4_isPart 1 (some .boolean) [.int a] [] (fun r _ => r = some (.int (f_isPart a))) := by
  refine XCall.of (by decide +kernel) (Nat.le_of_ble_eq_true rfl) (xgo sX4_isPart [] 60 (Nat.le_refl _) ?_)
  exact ⟨f_within_01 _ _ _, rfl⟩
def pX4_isSheet : List (Nat × XOp) := [(0, xo_il 0 1), (1, xo_ic 0 2), (2, xo_ic 3 3), (3, xo_p3 f_within 6), (6, xo_zret)]
theorem sX4_isSheet : XPr RX4 cX4_isSheet 1 (some .boolean) 1 pX4_isSheet :=
  XPr.cons (xs_iload_n dX4_isSheet_0 rfl) <|
  XPr.cons (xs_iconst dX4_isSheet_1 (by decide +kernel)) <|
  XPr.cons (xs_iconst dX4_isSheet_2 (by decide +kernel)) <|
  XPr.cons (xs_p3 (xs_callS gw_258 gw_259 gw_72 gw_260 (by decide +kernel) (Nat.le_of_ble_eq_true rfl) dX4_isSheet_3) c_X4_within (Nat.le_of_ble_eq_true rfl)) <|
  XPr.cons (xs_zret rfl dX4_isSheet_6) <|
  XPr.nil
set_option maxRecDepth 20000 in
theorem c_X4_isSheet (E : XEnv) (a : Int32) : XCall E 1 yX4_isSheet cX4_isSheet 1 (some .boolean) [.int a] [] (fun r _ => r = some (.int (f_isSheet a))) := by
  refine XCall.of (by decide +kernel) (Nat.le_of_ble_eq_true rfl) (xgo sX4_isSheet [] 60 (Nat.le_refl _) ?_)
  exact ⟨f_within_01 _ _ _, rfl⟩
def pX4_isUnder : List (Nat × XOp) := [(0, xo_il 0 1), (1, xo_ic 2 2), (2, xo_irem 3), (3, xo_if_ne 10 6), (6, xo_ic 1 7), (7, xo_goto 11), (10, xo_ic 0 11), (11, xo_zret)]
theorem sX4_isUnder : XPr RX4 cX4_isUnder 1 (some .boolean) 0 pX4_isUnder :=
  XPr.cons (xs_iload_n dX4_isUnder_0 rfl) <|
  XPr.cons (xs_iconst dX4_isUnder_1 (by decide +kernel)) <|
  XPr.cons (xs_irem dX4_isUnder_2) <|
  XPr.cons (xs_if_ne dX4_isUnder_3 (by decide +kernel)) <|
  XPr.cons (xs_iconst dX4_isUnder_6 (by decide +kernel)) <|
  XPr.cons (xs_goto dX4_isUnder_7 (by decide +kernel)) <|
  XPr.cons (xs_iconst dX4_isUnder_10 (by decide +kernel)) <|
  XPr.cons (xs_zret rfl dX4_isUnder_11) <|
  XPr.nil
set_option maxRecDepth 20000 in
theorem c_X4_isUnder (E : XEnv) (a : Int32) : XCall E 0 yX4_isUnder cX4_isUnder 1 (some .boolean) [.int a] [] (fun r _ => r = some (.int (f_isUnder a))) := by
  refine XCall.of (by decide +kernel) (Nat.le_of_ble_eq_true rfl) (xgo sX4_isUnder [] 60 (Nat.le_refl _) ?_)
  refine ⟨by decide, ⟨fun h1 => ?_, fun h1 => ?_⟩⟩
  · exact ⟨Or.inl rfl, congrArg (fun x => some (Value.int x)) (by simp [f_isUnder, h1])⟩
  · exact ⟨Or.inr rfl, congrArg (fun x => some (Value.int x)) (by simp [f_isUnder, h1])⟩
def pJ6_bitCount_0f7a4_0 : List (Nat × XOp) := [(0, xo_il 0 1), (1, xo_il 0 2), (2, xo_ic 1 3), (3, xo_iushr 4), (4, xo_ic 1431655765 7), (7, xo_iand 8), (8, xo_isub 9), (9, xo_is 0 10), (10, xo_il 0 11), (11, xo_ic 858993459 14), (14, xo_iand 15), (15, xo_il 0 16), (16, xo_ic 2 17), (17, xo_iushr 18), (18, xo_ic 858993459 21), (21, xo_iand 22), (22, xo_iadd 23), (23, xo_is 0 24), (24, xo_il 0 25), (25, xo_il 0 26), (26, xo_ic 4 27), (27, xo_iushr 28), (28, xo_iadd 29), (29, xo_ic 252645135 32), (32, xo_iand 33), (33, xo_is 0 34), (34, xo_il 0 35), (35, xo_il 0 36), (36, xo_ic 8 38), (38, xo_iushr 39), (39, xo_iadd 40), (40, xo_is 0 41), (41, xo_il 0 42), (42, xo_il 0 43), (43, xo_ic 16 45), (45, xo_iushr 46), (46, xo_iadd 47), (47, xo_is 0 48), (48, xo_il 0 49), (49, xo_ic 63 51)]
theorem sJ6_bitCount_0f7a4_0 : XPr RJ6 cJ6_bitCount_0f7a4 1 (some .int) 0 pJ6_bitCount_0f7a4_0 :=
  XPr.cons (xs_iload_n dJ6_bitCount_0f7a4_0 rfl) <|
  XPr.cons (xs_iload_n dJ6_bitCount_0f7a4_1 rfl) <|
  XPr.cons (xs_iconst dJ6_bitCount_0f7a4_2 (by decide +kernel)) <|
  XPr.cons (xs_iushr dJ6_bitCount_0f7a4_3) <|
  XPr.cons (xs_ldc_w gw_325 dJ6_bitCount_0f7a4_4) <|
  XPr.cons (xs_iand dJ6_bitCount_0f7a4_7) <|
  XPr.cons (xs_isub dJ6_bitCount_0f7a4_8) <|
  XPr.cons (xs_istore_n dJ6_bitCount_0f7a4_9 rfl (Nat.le_of_ble_eq_true rfl)) <|
  XPr.cons (xs_iload_n dJ6_bitCount_0f7a4_10 rfl) <|
  XPr.cons (xs_ldc_w gw_326 dJ6_bitCount_0f7a4_11) <|
  XPr.cons (xs_iand dJ6_bitCount_0f7a4_14) <|
  XPr.cons (xs_iload_n dJ6_bitCount_0f7a4_15 rfl) <|
  XPr.cons (xs_iconst dJ6_bitCount_0f7a4_16 (by decide +kernel)) <|
  XPr.cons (xs_iushr dJ6_bitCount_0f7a4_17) <|
  XPr.cons (xs_ldc_w gw_326 dJ6_bitCount_0f7a4_18) <|
  XPr.cons (xs_iand dJ6_bitCount_0f7a4_21) <|
  XPr.cons (xs_iadd dJ6_bitCount_0f7a4_22) <|
  XPr.cons (xs_istore_n dJ6_bitCount_0f7a4_23 rfl (Nat.le_of_ble_eq_true rfl)) <|
  XPr.cons (xs_iload_n dJ6_bitCount_0f7a4_24 rfl) <|
  XPr.cons (xs_iload_n dJ6_bitCount_0f7a4_25 rfl) <|
  XPr.cons (xs_iconst dJ6_bitCount_0f7a4_26 (by decide +kernel)) <|
  XPr.cons (xs_iushr dJ6_bitCount_0f7a4_27) <|
  XPr.cons (xs_iadd dJ6_bitCount_0f7a4_28) <|
  XPr.cons (xs_ldc_w gw_327 dJ6_bitCount_0f7a4_29) <|
  XPr.cons (xs_iand dJ6_bitCount_0f7a4_32) <|
  XPr.cons (xs_istore_n dJ6_bitCount_0f7a4_33 rfl (Nat.le_of_ble_eq_true rfl)) <|
  XPr.cons (xs_iload_n dJ6_bitCount_0f7a4_34 rfl) <|
  XPr.cons (xs_iload_n dJ6_bitCount_0f7a4_35 rfl) <|
  XPr.cons (xs_bipush dJ6_bitCount_0f7a4_36 (by decide +kernel)) <|
  XPr.cons (xs_iushr dJ6_bitCount_0f7a4_38) <|
  XPr.cons (xs_iadd dJ6_bitCount_0f7a4_39) <|
  XPr.cons (xs_istore_n dJ6_bitCount_0f7a4_40 rfl (Nat.le_of_ble_eq_true rfl)) <|
  XPr.cons (xs_iload_n dJ6_bitCount_0f7a4_41 rfl) <|
  XPr.cons (xs_iload_n dJ6_bitCount_0f7a4_42 rfl) <|
  XPr.cons (xs_bipush dJ6_bitCount_0f7a4_43 (by decide +kernel)) <|
  XPr.cons (xs_iushr dJ6_bitCount_0f7a4_45) <|
  XPr.cons (xs_iadd dJ6_bitCount_0f7a4_46) <|
  XPr.cons (xs_istore_n dJ6_bitCount_0f7a4_47 rfl (Nat.le_of_ble_eq_true rfl)) <|
  XPr.cons (xs_iload_n dJ6_bitCount_0f7a4_48 rfl) <|
  XPr.cons (xs_bipush dJ6_bitCount_0f7a4_49 (by decide +kernel)) <|
  XPr.nil
def pJ6_bitCount_0f7a4_1 : List (Nat × XOp) := [(51, xo_iand 52), (52, xo_iret)]
theorem sJ6_bitCount_0f7a4_1 : XPr RJ6 cJ6_bitCount_0f7a4 1 (some .int) 0 pJ6_bitCount_0f7a4_1 :=
  XPr.cons (xs_iand dJ6_bitCount_0f7a4_51) <|
  XPr.cons (xs_iret rfl dJ6_bitCount_0f7a4_52) <|
  XPr.nil
def pJ6_bitCount_0f7a4 : List (Nat × XOp) := pJ6_bitCount_0f7a4_0 ++ pJ6_bitCount_0f7a4_1
theorem sJ6_bitCount_0f7a4 : XPr RJ6 cJ6_bitCount_0f7a4 1 (some .int) 0 pJ6_bitCount_0f7a4 := (sJ6_bitCount_0f7a4_0).app sJ6_bitCount_0f7a4_1
set_option maxRecDepth 20000 in
theorem c_J6_bitCount_0f7a4 (E : XEnv) (a : Int32) : XCall E 0 yJ6_bitCount_0f7a4 cJ6_bitCount_0f7a4 1 (some .int) [.int a] [] (fun r _ => r = some (.int (f_bits a))) := by
  refine XCall.of (by decide +kernel) (Nat.le_of_ble_eq_true rfl) (xgo sJ6_bitCount_0f7a4 [] 60 (Nat.le_refl _) ?_)
  exact rfl
def pX2_bounded : List (Nat × XOp) := [(0, xo_ic 0 1), (1, xo_ic 99 3), (3, xo_il 0 4), (4, xo_p2 f_min 7), (7, xo_p2 f_max 10), (10, xo_iret)]
theorem sX2_bounded : XPr RX2 cX2_bounded 1 (some .int) 1 pX2_bounded :=
  XPr.cons (xs_iconst dX2_bounded_0 (by decide +kernel)) <|
  XPr.cons (xs_bipush dX2_bounded_1 (by decide +kernel)) <|
  XPr.cons (xs_iload_n dX2_bounded_3 rfl) <|
  XPr.cons (xs_mmin gw_315 gw_316 gw_78 gw_317 dX2_bounded_4) <|
  XPr.cons (xs_mmax gw_276 gw_277 gw_78 gw_278 dX2_bounded_7) <|
  XPr.cons (xs_iret rfl dX2_bounded_10) <|
  XPr.nil
set_option maxRecDepth 20000 in
theorem c_X2_bounded (E : XEnv) (a : Int32) : XCall E 1 yX2_bounded cX2_bounded 1 (some .int) [.int a] [] (fun r _ => r = some (.int (f_bound a))) := by
  refine XCall.of (by decide +kernel) (Nat.le_of_ble_eq_true rfl) (xgo sX2_bounded [] 60 (Nat.le_refl _) ?_)
  exact rfl
def pX0_isSign : List (Nat × XOp) := [(0, xo_il 0 1), (1, xo_ic 40 3), (3, xo_ic 43 5), (5, xo_p3 f_within 8), (8, xo_if_ne 28 11), (11, xo_il 0 12), (12, xo_ic 45 14), (14, xo_ic_eq 28 17), (17, xo_il 0 18), (18, xo_ic 59 20), (20, xo_ic 61 22), (22, xo_p3 f_within 25), (25, xo_if_eq 32 28), (28, xo_ic 1 29), (29, xo_goto 33), (32, xo_ic 0 33), (33, xo_zret)]
theorem sX0_isSign : XPr RX0 cX0_isSign 1 (some .boolean) 1 pX0_isSign :=
  XPr.cons (xs_iload_n dX0_isSign_0 rfl) <|
  XPr.cons (xs_bipush dX0_isSign_1 (by decide +kernel)) <|
  XPr.cons (xs_bipush dX0_isSign_3 (by decide +kernel)) <|
  XPr.cons (xs_p3 (xs_callN (host := RX4) (by decide +kernel) gw_259 gw_72 gw_260 (by decide +kernel) (Nat.le_of_ble_eq_true rfl) dX0_isSign_5) c_X4_within (Nat.le_of_ble_eq_true rfl)) <|
  XPr.cons (xs_if_ne dX0_isSign_8 (by decide +kernel)) <|
  XPr.cons (xs_iload_n dX0_isSign_11 rfl) <|
  XPr.cons (xs_bipush dX0_isSign_12 (by decide +kernel)) <|
  XPr.cons (xs_ic_eq dX0_isSign_14 (by decide +kernel)) <|
  XPr.cons (xs_iload_n dX0_isSign_17 rfl) <|
  XPr.cons (xs_bipush dX0_isSign_18 (by decide +kernel)) <|
  XPr.cons (xs_bipush dX0_isSign_20 (by decide +kernel)) <|
  XPr.cons (xs_p3 (xs_callN (host := RX4) (by decide +kernel) gw_259 gw_72 gw_260 (by decide +kernel) (Nat.le_of_ble_eq_true rfl) dX0_isSign_22) c_X4_within (Nat.le_of_ble_eq_true rfl)) <|
  XPr.cons (xs_if_eq dX0_isSign_25 (by decide +kernel)) <|
  XPr.cons (xs_iconst dX0_isSign_28 (by decide +kernel)) <|
  XPr.cons (xs_goto dX0_isSign_29 (by decide +kernel)) <|
  XPr.cons (xs_iconst dX0_isSign_32 (by decide +kernel)) <|
  XPr.cons (xs_zret rfl dX0_isSign_33) <|
  XPr.nil
set_option maxRecDepth 20000 in
theorem c_X0_isSign (E : XEnv) (a : Int32) : XCall E 1 yX0_isSign cX0_isSign 1 (some .boolean) [.int a] [] (fun r _ => r = some (.int (f_sign a))) := by
  refine XCall.of (by decide +kernel) (Nat.le_of_ble_eq_true rfl) (xgo sX0_isSign [] 60 (Nat.le_refl _) ?_)
  refine ⟨fun h1 => ?_, fun h1 => ⟨fun h2 => ?_, fun h2 => ⟨fun h3 => ?_, fun h3 => ?_⟩⟩⟩
  · exact ⟨Or.inr rfl, congrArg (fun x => some (Value.int x)) (by simp [f_sign, h1])⟩
  · exact ⟨Or.inr rfl, congrArg (fun x => some (Value.int x)) (by simp [f_sign, h1, h2])⟩
  · exact ⟨Or.inl rfl, congrArg (fun x => some (Value.int x)) (by simp [f_sign, h1, h2, h3])⟩
  · exact ⟨Or.inr rfl, congrArg (fun x => some (Value.int x)) (by simp [f_sign, h1, h2, h3])⟩
def pX3_joined_0 : List (Nat × XOp) := [(0, xo_il 0 1), (1, xo_sw [((-12), 94), ((-11), 90), ((-10), 79), ((-9), 68), ((-8), 54), ((-7), 40)] 98), (40, xo_il 1 41), (41, xo_if_ne 48 44), (44, xo_il 2 45), (45, xo_if_eq 52 48), (48, xo_ic 1 49), (49, xo_goto 53), (52, xo_ic 0 53), (53, xo_iret), (54, xo_il 1 55), (55, xo_if_eq 66 58), (58, xo_il 2 59), (59, xo_if_eq 66 62), (62, xo_ic 1 63), (63, xo_goto 67), (66, xo_ic 0 67), (67, xo_iret), (68, xo_il 1 69), (69, xo_il 2 70), (70, xo_ic_ge 77 73), (73, xo_ic 1 74), (74, xo_goto 78), (77, xo_ic 0 78), (78, xo_iret), (79, xo_il 1 80), (80, xo_il 2 81), (81, xo_ic_ne 88 84), (84, xo_ic 1 85), (85, xo_goto 89), (88, xo_ic 0 89), (89, xo_iret), (90, xo_il 1 91), (91, xo_il 2 92), (92, xo_iadd 93), (93, xo_iret), (94, xo_il 1 95), (95, xo_il 2 96), (96, xo_isub 97), (97, xo_iret)]
theorem sX3_joined_0 : XPr RX3 cX3_joined 3 (some .int) 0 pX3_joined_0 :=
  XPr.cons (xs_iload_n dX3_joined_0 rfl) <|
  XPr.cons (xs_table (ts := [94, 90, 79, 68, 54, 40]) dX3_joined_1 (by decide +kernel) (by decide +kernel) (by decide +kernel) (by decide +kernel)) <|
  XPr.cons (xs_iload_n dX3_joined_40 rfl) <|
  XPr.cons (xs_if_ne dX3_joined_41 (by decide +kernel)) <|
  XPr.cons (xs_iload_n dX3_joined_44 rfl) <|
  XPr.cons (xs_if_eq dX3_joined_45 (by decide +kernel)) <|
  XPr.cons (xs_iconst dX3_joined_48 (by decide +kernel)) <|
  XPr.cons (xs_goto dX3_joined_49 (by decide +kernel)) <|
  XPr.cons (xs_iconst dX3_joined_52 (by decide +kernel)) <|
  XPr.cons (xs_iret rfl dX3_joined_53) <|
  XPr.cons (xs_iload_n dX3_joined_54 rfl) <|
  XPr.cons (xs_if_eq dX3_joined_55 (by decide +kernel)) <|
  XPr.cons (xs_iload_n dX3_joined_58 rfl) <|
  XPr.cons (xs_if_eq dX3_joined_59 (by decide +kernel)) <|
  XPr.cons (xs_iconst dX3_joined_62 (by decide +kernel)) <|
  XPr.cons (xs_goto dX3_joined_63 (by decide +kernel)) <|
  XPr.cons (xs_iconst dX3_joined_66 (by decide +kernel)) <|
  XPr.cons (xs_iret rfl dX3_joined_67) <|
  XPr.cons (xs_iload_n dX3_joined_68 rfl) <|
  XPr.cons (xs_iload_n dX3_joined_69 rfl) <|
  XPr.cons (xs_ic_ge dX3_joined_70 (by decide +kernel)) <|
  XPr.cons (xs_iconst dX3_joined_73 (by decide +kernel)) <|
  XPr.cons (xs_goto dX3_joined_74 (by decide +kernel)) <|
  XPr.cons (xs_iconst dX3_joined_77 (by decide +kernel)) <|
  XPr.cons (xs_iret rfl dX3_joined_78) <|
  XPr.cons (xs_iload_n dX3_joined_79 rfl) <|
  XPr.cons (xs_iload_n dX3_joined_80 rfl) <|
  XPr.cons (xs_ic_ne dX3_joined_81 (by decide +kernel)) <|
  XPr.cons (xs_iconst dX3_joined_84 (by decide +kernel)) <|
  XPr.cons (xs_goto dX3_joined_85 (by decide +kernel)) <|
  XPr.cons (xs_iconst dX3_joined_88 (by decide +kernel)) <|
  XPr.cons (xs_iret rfl dX3_joined_89) <|
  XPr.cons (xs_iload_n dX3_joined_90 rfl) <|
  XPr.cons (xs_iload_n dX3_joined_91 rfl) <|
  XPr.cons (xs_iadd dX3_joined_92) <|
  XPr.cons (xs_iret rfl dX3_joined_93) <|
  XPr.cons (xs_iload_n dX3_joined_94 rfl) <|
  XPr.cons (xs_iload_n dX3_joined_95 rfl) <|
  XPr.cons (xs_isub dX3_joined_96) <|
  XPr.cons (xs_iret rfl dX3_joined_97) <|
  XPr.nil
def pX3_joined_1 : List (Nat × XOp) := [(98, xo_il 1 99), (99, xo_il 2 100), (100, xo_imul 101), (101, xo_iret)]
theorem sX3_joined_1 : XPr RX3 cX3_joined 3 (some .int) 0 pX3_joined_1 :=
  XPr.cons (xs_iload_n dX3_joined_98 rfl) <|
  XPr.cons (xs_iload_n dX3_joined_99 rfl) <|
  XPr.cons (xs_imul dX3_joined_100) <|
  XPr.cons (xs_iret rfl dX3_joined_101) <|
  XPr.nil
def pX3_joined : List (Nat × XOp) := pX3_joined_0 ++ pX3_joined_1
theorem sX3_joined : XPr RX3 cX3_joined 3 (some .int) 0 pX3_joined := (sX3_joined_0).app sX3_joined_1
set_option maxRecDepth 20000 in
theorem c_X3_joined (E : XEnv) (a b c : Int32) : XCall E 0 yX3_joined cX3_joined 3 (some .int) [.int a, .int b, .int c] [] (fun r _ => r = some (.int (f_join a b c))) := by
  refine XCall.of (by decide +kernel) (Nat.le_of_ble_eq_true rfl) (xgo sX3_joined [] 60 (Nat.le_refl _) ?_)
  refine ⟨fun h1 => ?_, fun n1 => ⟨fun h1 => ?_, fun n2 => ⟨fun h1 => ?_, fun n3 => ⟨fun h1 => ?_, fun n4 => ⟨fun h1 => ?_, fun n5 => ⟨fun h1 => ?_, fun n6 => ?_⟩⟩⟩⟩⟩⟩
  · exact congrArg (fun x => some (Value.int x)) (by simp [f_join, h1])
  · exact congrArg (fun x => some (Value.int x)) (by simp [f_join, h1])
  · refine ⟨fun h2 => ?_, fun h2 => ?_⟩
    · exact congrArg (fun x => some (Value.int x)) (by simp [f_join, h1, h2])
    · exact congrArg (fun x => some (Value.int x)) (by simp [f_join, h1, h2])
  · refine ⟨fun h2 => ?_, fun h2 => ?_⟩
    · exact congrArg (fun x => some (Value.int x)) (by simp [f_join, h1, h2])
    · exact congrArg (fun x => some (Value.int x)) (by simp [f_join, h1, h2])
  · refine ⟨fun h2 => ?_, fun h2 => ⟨fun h3 => ?_, fun h3 => ?_⟩⟩
    · exact congrArg (fun x => some (Value.int x)) (by simp [f_join, h1, h2])
    · exact congrArg (fun x => some (Value.int x)) (by simp [f_join, h1, h2, h3])
    · exact congrArg (fun x => some (Value.int x)) (by simp [f_join, h1, h2, h3])
  · refine ⟨fun h2 => ?_, fun h2 => ⟨fun h3 => ?_, fun h3 => ?_⟩⟩
    · exact congrArg (fun x => some (Value.int x)) (by simp [f_join, h1, h2])
    · exact congrArg (fun x => some (Value.int x)) (by simp [f_join, h1, h2, h3])
    · exact congrArg (fun x => some (Value.int x)) (by simp [f_join, h1, h2, h3])
  · exact congrArg (fun x => some (Value.int x)) (by simp [f_join, n1, n2, n3, n4, n5, n6])
def pX5_in : List (Nat × XOp) := [(0, xo_ll 0 1), (1, xo_ll 2 2), (2, xo_lcmp 3), (3, xo_if_lt 17 6), (6, xo_ll 0 7), (7, xo_ll 4 9), (9, xo_lcmp 10), (10, xo_if_gt 17 13), (13, xo_ic 1 14), (14, xo_goto 18), (17, xo_ic 0 18), (18, xo_zret)]
theorem sX5_in : XPr RX5 cX5_in 6 (some .boolean) 0 pX5_in :=
  XPr.cons (xs_lload_n dX5_in_0 rfl) <|
  XPr.cons (xs_lload_n dX5_in_1 rfl) <|
  XPr.cons (xs_lcmp dX5_in_2) <|
  XPr.cons (xs_if_lt dX5_in_3 (by decide +kernel)) <|
  XPr.cons (xs_lload_n dX5_in_6 rfl) <|
  XPr.cons (xs_lload dX5_in_7) <|
  XPr.cons (xs_lcmp dX5_in_9) <|
  XPr.cons (xs_if_gt dX5_in_10 (by decide +kernel)) <|
  XPr.cons (xs_iconst dX5_in_13 (by decide +kernel)) <|
  XPr.cons (xs_goto dX5_in_14 (by decide +kernel)) <|
  XPr.cons (xs_iconst dX5_in_17 (by decide +kernel)) <|
  XPr.cons (xs_zret rfl dX5_in_18) <|
  XPr.nil
set_option maxRecDepth 20000 in
theorem c_X5_in (E : XEnv) (a b c : Int64) : XCall E 0 yX5_in cX5_in 6 (some .boolean) [.long a, .long b, .long c] [] (fun r _ => r = some (.int (f_in a b c))) := by
  refine XCall.of (by decide +kernel) (Nat.le_of_ble_eq_true rfl) (xgo sX5_in [] 60 (Nat.le_refl _) ?_)
  refine ⟨fun h1 => ?_, fun h1 => ⟨fun h2 => ?_, fun h2 => ?_⟩⟩
  · exact ⟨Or.inl rfl, congrArg (fun x => some (Value.int x)) (by simp [f_in, h1])⟩
  · exact ⟨Or.inl rfl, congrArg (fun x => some (Value.int x)) (by simp [f_in, h1, h2])⟩
  · exact ⟨Or.inr rfl, congrArg (fun x => some (Value.int x)) (by simp [f_in, h1, h2])⟩
def pX5_within : List (Nat × XOp) := [(0, xo_il 0 1), (1, xo_il 1 2), (2, xo_ic_ge 9 5), (5, xo_il 1 6), (6, xo_goto 19), (9, xo_il 0 10), (10, xo_il 2 11), (11, xo_ic_le 18 14), (14, xo_il 2 15), (15, xo_goto 19), (18, xo_il 0 19), (19, xo_iret)]
theorem sX5_within : XPr RX5 cX5_within 3 (some .int) 0 pX5_within :=
  XPr.cons (xs_iload_n dX5_within_0 rfl) <|
  XPr.cons (xs_iload_n dX5_within_1 rfl) <|
  XPr.cons (xs_ic_ge dX5_within_2 (by decide +kernel)) <|
  XPr.cons (xs_iload_n dX5_within_5 rfl) <|
  XPr.cons (xs_goto dX5_within_6 (by decide +kernel)) <|
  XPr.cons (xs_iload_n dX5_within_9 rfl) <|
  XPr.cons (xs_iload_n dX5_within_10 rfl) <|
  XPr.cons (xs_ic_le dX5_within_11 (by decide +kernel)) <|
  XPr.cons (xs_iload_n dX5_within_14 rfl) <|
  XPr.cons (xs_goto dX5_within_15 (by decide +kernel)) <|
  XPr.cons (xs_iload_n dX5_within_18 rfl) <|
  XPr.cons (xs_iret rfl dX5_within_19) <|
  XPr.nil
set_option maxRecDepth 20000 in
theorem c_X5_within (E : XEnv) (a b c : Int32) : XCall E 0 yX5_within cX5_within 3 (some .int) [.int a, .int b, .int c] [] (fun r _ => r = some (.int (f_clamp a b c))) := by
  refine XCall.of (by decide +kernel) (Nat.le_of_ble_eq_true rfl) (xgo sX5_within [] 60 (Nat.le_refl _) ?_)
  refine ⟨fun h1 => ⟨fun h2 => ?_, fun h2 => ?_⟩, fun h1 => ?_⟩
  · exact congrArg (fun x => some (Value.int x)) (by simp [f_clamp, h1, h2])
  · exact congrArg (fun x => some (Value.int x)) (by simp [f_clamp, h1, h2])
  · exact congrArg (fun x => some (Value.int x)) (by simp [f_clamp, h1])
def pX5_isUnder : List (Nat × XOp) := [(0, xo_il 0 1), (1, xo_ic 2 2), (2, xo_irem 3), (3, xo_if_ne 10 6), (6, xo_ic 1 7), (7, xo_goto 11), (10, xo_ic 0 11), (11, xo_zret)]
theorem sX5_isUnder : XPr RX5 cX5_isUnder 1 (some .boolean) 0 pX5_isUnder :=
  XPr.cons (xs_iload_n dX5_isUnder_0 rfl) <|
  XPr.cons (xs_iconst dX5_isUnder_1 (by decide +kernel)) <|
  XPr.cons (xs_irem dX5_isUnder_2) <|
  XPr.cons (xs_if_ne dX5_isUnder_3 (by decide +kernel)) <|
  XPr.cons (xs_iconst dX5_isUnder_6 (by decide +kernel)) <|
  XPr.cons (xs_goto dX5_isUnder_7 (by decide +kernel)) <|
  XPr.cons (xs_iconst dX5_isUnder_10 (by decide +kernel)) <|
  XPr.cons (xs_zret rfl dX5_isUnder_11) <|
  XPr.nil
set_option maxRecDepth 20000 in
theorem c_X5_isUnder (E : XEnv) (a : Int32) : XCall E 0 yX5_isUnder cX5_isUnder 1 (some .boolean) [.int a] [] (fun r _ => r = some (.int (f_isUnder a))) := by
  refine XCall.of (by decide +kernel) (Nat.le_of_ble_eq_true rfl) (xgo sX5_isUnder [] 60 (Nat.le_refl _) ?_)
  refine ⟨by decide, ⟨fun h1 => ?_, fun h1 => ?_⟩⟩
  · exact ⟨Or.inl rfl, congrArg (fun x => some (Value.int x)) (by simp [f_isUnder, h1])⟩
  · exact ⟨Or.inr rfl, congrArg (fun x => some (Value.int x)) (by simp [f_isUnder, h1])⟩
