-- ===== both sides in one world =====
def PL : List Nat := [0, 1, 2, 3, 4, 5, 6, 7, 8, 9, 10, 11, 12, 13, 14, 15, 16, 17, 18, 19, 20, 21, 22, 23, 24, 25, 26, 27, 28, 29, 30, 31, 32, 33, 34, 35, 36, 37, 38, 39, 40, 41, 42, 43, 44, 45, 46, 47, 48, 49, 50, 51, 52, 53, 54, 55, 56, 57, 58, 59, 60]
def QL : List Nat := [61, 62, 63, 64, 65, 66, 67, 68, 69, 70, 71, 72, 73, 74, 75, 76]
def lW (A : AS) (g : GQ) (B : AS) (h : YQ) : XW := (gW A g).map (xpE PL) ++ (mW B h).map (xpE QL)
theorem gW_len (A : AS) (g : GQ) : (gW A g).length = 61 := rfl
theorem mW_len (B : AS) (h : YQ) : (mW B h).length = 16 := rfl
theorem PL_e : PL = List.range' 0 61 := by decide +kernel
theorem QL_e : QL = List.range' 61 16 := by decide +kernel
theorem gWx_len (A : AS) (g : GQ) : ((gW A g).map (xpE PL)).length = 61 := by rw [List.length_map, gW_len]
theorem mWx_len (B : AS) (h : YQ) : ((mW B h).map (xpE QL)).length = 16 := by rw [List.length_map, mW_len]
theorem lW_sC (A : AS) (g : GQ) (B : AS) (h : YQ) : xSub PL (lW A g B h) (gW A g) := by
  have t := xsub_run PL (gW A g) [] ((mW B h).map (xpE QL))
  rw [gW_len, show ([] : XW).length = 0 from rfl, ← PL_e] at t
  exact t
theorem lW_sR (A : AS) (g : GQ) (B : AS) (h : YQ) : xSub QL (lW A g B h) (mW B h) := by
  have t := xsub_run QL (mW B h) ((gW A g).map (xpE PL)) []
  rw [mW_len, gWx_len, ← QL_e, List.append_nil] at t
  exact t
theorem lW_mC (A : AS) (g : GQ) (B : AS) (h : YQ) (A' : AS) (g' : GQ) : xmg PL PL (gW A' g') (lW A g B h) = lW A' g' B h := by
  have t := xmg_run PL (gW A' g') ((gW A g).map (xpE PL)) [] ((mW B h).map (xpE QL)) (by rw [gWx_len, gW_len])
  rw [gW_len, show ([] : XW).length = 0 from rfl, ← PL_e] at t
  exact t
theorem lW_mR (A : AS) (g : GQ) (B : AS) (h : YQ) (B' : AS) (h' : YQ) : xmg QL QL (mW B' h') (lW A g B h) = lW A g B' h' := by
  have t := xmg_run QL (mW B' h') ((mW B h).map (xpE QL)) ((gW A g).map (xpE PL)) [] (by rw [mWx_len, mW_len])
  rw [mW_len, gWx_len, ← QL_e, List.append_nil, List.append_nil] at t
  exact t
theorem PL_nd : PL.Nodup := by decide +kernel
theorem QL_nd : QL.Nodup := by decide +kernel
theorem gLC {E : XEnv} {Lv d : Nat} {y : MethodName} {cc : ByteArray} {nL : Nat} {rt : Option FieldType} {as : List Value} {Qc K : XQ} (A : AS) (g : GQ) (B : AS) (h : YQ) (hd : d < Lv) (has : as = as.map (xv (xp PL))) (hc : XCall E d y cc nL rt (.ref 0 :: as) (gW A g) Qc) (k : ∀ r σ', Qc r σ' → ∃ A' g', σ' = gW A' g' ∧ K r (lW A' g' B h)) : XIn E Lv y cc nL rt (.ref 0 :: as) (lW A g B h) K := by
  refine XIn.sub PL hd hc PL_nd (Nat.le_of_ble_eq_true rfl) (lW_sC A g B h) (by rw [List.map_cons, ← has]; rfl) (fun r σ' _ hq => ?_)
  obtain ⟨A', g', rfl, hk⟩ := k r σ' hq
  rw [lW_mC]
  exact hk
theorem gLR {E : XEnv} {Lv d : Nat} {y : MethodName} {cc : ByteArray} {nL : Nat} {rt : Option FieldType} {as : List Value} {Qc K : XQ} (A : AS) (g : GQ) (B : AS) (h : YQ) (hd : d < Lv) (has : as = as.map (xv (xp QL))) (hc : XCall E d y cc nL rt (.ref 0 :: as) (mW B h) Qc) (k : ∀ r σ', Qc r σ' → ∃ B' h', σ' = mW B' h' ∧ K r (lW A g B' h')) : XIn E Lv y cc nL rt (.ref 61 :: as) (lW A g B h) K := by
  refine XIn.sub QL hd hc QL_nd (Nat.le_of_ble_eq_true rfl) (lW_sR A g B h) (by rw [List.map_cons, ← has]; rfl) (fun r σ' _ hq => ?_)
  obtain ⟨B', h', rfl, hk⟩ := k r σ' hq
  rw [lW_mR]
  exact hk
