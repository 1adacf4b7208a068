-- ===== functions without a world, the second part =====
theorem lg_lt {x y : Int64} : lg_cmp x y < 0 ↔ x < y := by
  unfold lg_cmp
  by_cases h1 : x > y
  · rw [if_pos h1]
    exact ⟨fun h => absurd h (by decide), fun h => absurd h1 (Int64.lt_asymm h)⟩
  · rw [if_neg h1]
    by_cases h2 : x = y
    · rw [if_pos h2, h2]
      exact ⟨fun h => absurd h (by decide), fun h => absurd h Int64.lt_irrefl⟩
    · rw [if_neg h2]
      exact ⟨fun _ => Int64.lt_of_le_of_ne (Int64.not_lt.mp h1) h2, fun _ => by decide⟩
theorem lg_gt {x y : Int64} : 0 < lg_cmp x y ↔ y < x := by
  unfold lg_cmp
  by_cases h1 : x > y
  · rw [if_pos h1]
    exact ⟨fun _ => h1, fun _ => by decide⟩
  · rw [if_neg h1]
    refine ⟨fun h => ?_, fun h => absurd h h1⟩
    split at h
    · exact absurd h (by decide)
    · exact absurd h (by decide)
theorem i2l_lt {a b : Int32} : a.toInt64 < b.toInt64 ↔ a < b := by
  rw [Int64.lt_iff_toInt_lt, Int32.lt_iff_toInt_lt, Int32.toInt_toInt64, Int32.toInt_toInt64]
theorem f_in_w {v a b : Int32} {a' b' : Int64} (ha : a.toInt64 = a') (hb : b.toInt64 = b') : f_in v.toInt64 a' b' = f_within v a b := by
  subst ha; subst hb
  unfold f_in f_within
  simp only [lg_lt, lg_gt, i2l_lt]
def pX5_isPart : List (Nat × XOp) := [(0, xo_il 0 1), (1, xo_i2l 2), (2, xo_lc 0 3), (3, xo_lc 9 6), (6, xo_q3 f_in 9), (9, xo_zret)]
theorem sX5_isPart : XPr RX5 cX5_isPart 1 (some .boolean) 1 pX5_isPart :=
  XPr.cons (xs_iload_n dX5_isPart_0 rfl) <|
  XPr.cons (xs_i2l dX5_isPart_1) <|
  XPr.cons (xs_lconst dX5_isPart_2 (by decide +kernel)) <|
  XPr.cons (xs_ldc2 gw_876 dX5_isPart_3) <|
  XPr.cons (xs_q3 (xs_callS gw_866 gw_867 gw_77 gw_868 (by decide +kernel) (Nat.le_of_ble_eq_true rfl) dX5_isPart_6) c_X5_in (Nat.le_of_ble_eq_true rfl)) <|
  XPr.cons (xs_zret rfl dX5_isPart_9) <|
  XPr.nil

set_option maxRecDepth 20000 in
theorem c_X5_isPart (E : XEnv) (a : Int32) : XCall E 1 yX5_isPart cX5_isPart 1 (some .boolean) [.int a] [] (fun r _ => r = some (.int (f_isPart a))) := by
  refine XCall.of (by decide +kernel) (Nat.le_of_ble_eq_true rfl) (xgo sX5_isPart [] 60 (Nat.le_refl _) ?_)
  have e : f_in a.toInt64 0 9 = f_isPart a := f_in_w (a := 0) (b := 9) (by decide +kernel) (by decide +kernel)
  exact ⟨e ▸ f_within_01 _ _ _, congrArg (fun x => some (Value.int x)) e⟩
def pX5_isSheet : List (Nat × XOp) := [(0, xo_il 0 1), (1, xo_i2l 2), (2, xo_lc 0 3), (3, xo_lc 3 6), (6, xo_q3 f_in 9), (9, xo_zret)]
theorem sX5_isSheet : XPr RX5 cX5_isSheet 1 (some .boolean) 1 pX5_isSheet :=
  XPr.cons (xs_iload_n dX5_isSheet_0 rfl) <|
  XPr.cons (xs_i2l dX5_isSheet_1) <|
  XPr.cons (xs_lconst dX5_isSheet_2 (by decide +kernel)) <|
  XPr.cons (xs_ldc2 gw_1135 dX5_isSheet_3) <|
  XPr.cons (xs_q3 (xs_callS gw_866 gw_867 gw_77 gw_868 (by decide +kernel) (Nat.le_of_ble_eq_true rfl) dX5_isSheet_6) c_X5_in (Nat.le_of_ble_eq_true rfl)) <|
  XPr.cons (xs_zret rfl dX5_isSheet_9) <|
  XPr.nil

set_option maxRecDepth 20000 in
theorem c_X5_isSheet (E : XEnv) (a : Int32) : XCall E 1 yX5_isSheet cX5_isSheet 1 (some .boolean) [.int a] [] (fun r _ => r = some (.int (f_isSheet a))) := by
  refine XCall.of (by decide +kernel) (Nat.le_of_ble_eq_true rfl) (xgo sX5_isSheet [] 60 (Nat.le_refl _) ?_)
  have e : f_in a.toInt64 0 3 = f_isSheet a := f_in_w (a := 0) (b := 3) (by decide +kernel) (by decide +kernel)
  exact ⟨e ▸ f_within_01 _ _ _, congrArg (fun x => some (Value.int x)) e⟩
def pX5_mostOf : List (Nat × XOp) := [(0, xo_il 0 1), (1, xo_if_ne 10 4), (4, xo_ic 999 7), (7, xo_goto 32), (10, xo_il 0 11), (11, xo_ic 2 12), (12, xo_ic_ne 20 15), (15, xo_ic 100 17), (17, xo_goto 32), (20, xo_il 0 21), (21, xo_ic 4 22), (22, xo_ic_ne 30 25), (25, xo_ic 9 27), (27, xo_goto 32), (30, xo_ic 99 32), (32, xo_iret)]
theorem sX5_mostOf : XPr RX5 cX5_mostOf 1 (some .int) 0 pX5_mostOf :=
  XPr.cons (xs_iload_n dX5_mostOf_0 rfl) <|
  XPr.cons (xs_if_ne dX5_mostOf_1 (by decide +kernel)) <|
  XPr.cons (xs_sipush dX5_mostOf_4 (by decide +kernel)) <|
  XPr.cons (xs_goto dX5_mostOf_7 (by decide +kernel)) <|
  XPr.cons (xs_iload_n dX5_mostOf_10 rfl) <|
  XPr.cons (xs_iconst dX5_mostOf_11 (by decide +kernel)) <|
  XPr.cons (xs_ic_ne dX5_mostOf_12 (by decide +kernel)) <|
  XPr.cons (xs_bipush dX5_mostOf_15 (by decide +kernel)) <|
  XPr.cons (xs_goto dX5_mostOf_17 (by decide +kernel)) <|
  XPr.cons (xs_iload_n dX5_mostOf_20 rfl) <|
  XPr.cons (xs_iconst dX5_mostOf_21 (by decide +kernel)) <|
  XPr.cons (xs_ic_ne dX5_mostOf_22 (by decide +kernel)) <|
  XPr.cons (xs_bipush dX5_mostOf_25 (by decide +kernel)) <|
  XPr.cons (xs_goto dX5_mostOf_27 (by decide +kernel)) <|
  XPr.cons (xs_bipush dX5_mostOf_30 (by decide +kernel)) <|
  XPr.cons (xs_iret rfl dX5_mostOf_32) <|
  XPr.nil

set_option maxRecDepth 20000 in
theorem c_X5_mostOf (E : XEnv) (a : Int32) : XCall E 0 yX5_mostOf cX5_mostOf 1 (some .int) [.int a] [] (fun r _ => r = some (.int (f_mostOf a))) := by
  refine XCall.of (by decide +kernel) (Nat.le_of_ble_eq_true rfl) (xgo sX5_mostOf [] 60 (Nat.le_refl _) ?_)
  refine ⟨fun h1 => ⟨fun h2 => ⟨fun h3 => ?_, fun h3 => ?_⟩, fun h2 => ?_⟩, fun h1 => ?_⟩
  · exact congrArg (fun x => some (Value.int x)) (by simp [f_mostOf, h1, h2, h3])
  · exact congrArg (fun x => some (Value.int x)) (by simp [f_mostOf, h1, h2, h3])
  · exact congrArg (fun x => some (Value.int x)) (by simp [f_mostOf, h1, h2])
  · exact congrArg (fun x => some (Value.int x)) (by simp [f_mostOf, h1])
def pX5_over : List (Nat × XOp) := [(0, xo_il 0 1), (1, xo_if_ne 8 4), (4, xo_ic (-1) 5), (5, xo_goto 27), (8, xo_il 0 9), (9, xo_ic 3 10), (10, xo_ic_ne 17 13), (13, xo_ic 1 14), (14, xo_goto 27), (17, xo_il 0 18), (18, xo_ic 4 19), (19, xo_ic_ne 26 22), (22, xo_ic 2 23), (23, xo_goto 27), (26, xo_ic 0 27), (27, xo_iret)]
theorem sX5_over : XPr RX5 cX5_over 1 (some .int) 0 pX5_over :=
  XPr.cons (xs_iload_n dX5_over_0 rfl) <|
  XPr.cons (xs_if_ne dX5_over_1 (by decide +kernel)) <|
  XPr.cons (xs_iconst dX5_over_4 (by decide +kernel)) <|
  XPr.cons (xs_goto dX5_over_5 (by decide +kernel)) <|
  XPr.cons (xs_iload_n dX5_over_8 rfl) <|
  XPr.cons (xs_iconst dX5_over_9 (by decide +kernel)) <|
  XPr.cons (xs_ic_ne dX5_over_10 (by decide +kernel)) <|
  XPr.cons (xs_iconst dX5_over_13 (by decide +kernel)) <|
  XPr.cons (xs_goto dX5_over_14 (by decide +kernel)) <|
  XPr.cons (xs_iload_n dX5_over_17 rfl) <|
  XPr.cons (xs_iconst dX5_over_18 (by decide +kernel)) <|
  XPr.cons (xs_ic_ne dX5_over_19 (by decide +kernel)) <|
  XPr.cons (xs_iconst dX5_over_22 (by decide +kernel)) <|
  XPr.cons (xs_goto dX5_over_23 (by decide +kernel)) <|
  XPr.cons (xs_iconst dX5_over_26 (by decide +kernel)) <|
  XPr.cons (xs_iret rfl dX5_over_27) <|
  XPr.nil

set_option maxRecDepth 20000 in
theorem c_X5_over (E : XEnv) (a : Int32) : XCall E 0 yX5_over cX5_over 1 (some .int) [.int a] [] (fun r _ => r = some (.int (f_over a))) := by
  refine XCall.of (by decide +kernel) (Nat.le_of_ble_eq_true rfl) (xgo sX5_over [] 60 (Nat.le_refl _) ?_)
  refine ⟨fun h1 => ⟨fun h2 => ⟨fun h3 => ?_, fun h3 => ?_⟩, fun h2 => ?_⟩, fun h1 => ?_⟩
  · exact congrArg (fun x => some (Value.int x)) (by simp [f_over, h1, h2, h3])
  · exact congrArg (fun x => some (Value.int x)) (by simp [f_over, h1, h2, h3])
  · exact congrArg (fun x => some (Value.int x)) (by simp [f_over, h1, h2])
  · exact congrArg (fun x => some (Value.int x)) (by simp [f_over, h1])
def pX5_bitsOf : List (Nat × XOp) := [(0, xo_ic 0 1), (1, xo_is 1 2), (2, xo_il 0 3), (3, xo_is 2 4), (4, xo_il 2 5), (5, xo_if_eq 20 8), (8, xo_inc 1 1 11), (11, xo_il 2 12), (12, xo_il 2 13), (13, xo_ic 1 14), (14, xo_isub 15), (15, xo_iand 16), (16, xo_is 2 17), (17, xo_goto 4), (20, xo_il 1 21), (21, xo_iret)]
theorem sX5_bitsOf : XPr RX5 cX5_bitsOf 3 (some .int) 0 pX5_bitsOf :=
  XPr.cons (xs_iconst dX5_bitsOf_0 (by decide +kernel)) <|
  XPr.cons (xs_istore_n dX5_bitsOf_1 rfl (Nat.le_of_ble_eq_true rfl)) <|
  XPr.cons (xs_iload_n dX5_bitsOf_2 rfl) <|
  XPr.cons (xs_istore_n dX5_bitsOf_3 rfl (Nat.le_of_ble_eq_true rfl)) <|
  XPr.cons (xs_iload_n dX5_bitsOf_4 rfl) <|
  XPr.cons (xs_if_eq dX5_bitsOf_5 (by decide +kernel)) <|
  XPr.cons (xs_iinc dX5_bitsOf_8 (by decide +kernel) (Nat.le_of_ble_eq_true rfl)) <|
  XPr.cons (xs_iload_n dX5_bitsOf_11 rfl) <|
  XPr.cons (xs_iload_n dX5_bitsOf_12 rfl) <|
  XPr.cons (xs_iconst dX5_bitsOf_13 (by decide +kernel)) <|
  XPr.cons (xs_isub dX5_bitsOf_14) <|
  XPr.cons (xs_iand dX5_bitsOf_15) <|
  XPr.cons (xs_istore_n dX5_bitsOf_16 rfl (Nat.le_of_ble_eq_true rfl)) <|
  XPr.cons (xs_goto dX5_bitsOf_17 (by decide +kernel)) <|
  XPr.cons (xs_iload_n dX5_bitsOf_20 rfl) <|
  XPr.cons (xs_iret rfl dX5_bitsOf_21) <|
  XPr.nil
theorem f_and_pred {v : Int32} (h : ¬ v = 0) : (v &&& (v - 1)).toBitVec.toNat < v.toBitVec.toNat := by
  have h0 : v.toBitVec.toNat ≠ 0 := fun z => h (Int32.toBitVec_inj.mp (BitVec.eq_of_toNat_eq z))
  have h1 : (v &&& (v - 1)).toBitVec.toNat ≤ (v - 1).toBitVec.toNat := by
    rw [Int32.toBitVec_and, BitVec.toNat_and]
    exact Nat.and_le_right
  have h2 : (v - 1).toBitVec.toNat = v.toBitVec.toNat - 1 := by
    rw [Int32.toBitVec_sub]
    have := v.toBitVec.isLt
    have e1 : (1 : Int32).toBitVec = 1#32 := by decide +kernel
    rw [e1]
    rw [BitVec.toNat_sub]
    simp only [BitVec.toNat_ofNat]
    omega
  omega
theorem f_bitsL_more : ∀ (k j : Nat) (v n : Int32), v.toBitVec.toNat < k → v.toBitVec.toNat < j → f_bitsL k v n = f_bitsL j v n
  | 0, _, _, _, h, _ => absurd h (Nat.not_lt_zero _)
  | _ + 1, 0, _, _, _, h => absurd h (Nat.not_lt_zero _)
  | k + 1, j + 1, v, n, h1, h2 => by
    unfold f_bitsL
    by_cases hv : v = 0
    · rw [if_pos hv, if_pos hv]
    · rw [if_neg hv, if_neg hv]
      have := f_and_pred hv
      exact f_bitsL_more k j _ _ (by omega) (by omega)
theorem l_X5_bitsOf (E : XEnv) (a : Int32) : ∀ (k : Nat) (v n : Int32), v.toBitVec.toNat < k → XAt E RX5 cX5_bitsOf 3 (some .int) 0 0 (fun r _ => r = some (.int (f_bitsL k v n))) 4 [(0, .int a), (1, .int n), (2, .int v)] [] []
  | 0, _, _, h => absurd h (Nat.not_lt_zero _)
  | k + 1, v, n, h => by
    refine xgo sX5_bitsOf [4] 60 (Nat.le_refl _) ⟨fun h1 => ?_, fun h1 => ?_⟩
    · exact congrArg (fun x => some (Value.int x)) (by simp [f_bitsL, h1])
    · have := f_and_pred h1
      have e : f_bitsL (k + 1) v n = f_bitsL k (v &&& (v - 1)) (n + 1) := by rw [f_bitsL, if_neg h1]
      rw [e]
      exact l_X5_bitsOf E a k _ _ (by omega)
set_option maxRecDepth 20000 in
theorem c_X5_bitsOf (E : XEnv) (a : Int32) : XCall E 0 yX5_bitsOf cX5_bitsOf 3 (some .int) [.int a] [] (fun r _ => r = some (.int (f_bitsM a))) := by
  refine XCall.of (by decide +kernel) (Nat.le_of_ble_eq_true rfl) (xgo sX5_bitsOf [4] 60 (Nat.le_refl _) ?_)
  show XAt E RX5 cX5_bitsOf 3 (some .int) 0 0 (fun r _ => r = some (.int (f_bitsM a))) 4 [(0, .int a), (1, .int 0), (2, .int a)] [] []
  exact l_X5_bitsOf E a _ a 0 (Nat.lt_succ_self _)
