-- ===== the reference: masks =====
theorem whoN_10 (f : F32) (w : Int32) {k : Nat} (h : k ≤ 10) : whoN f w k < 1024 := Nat.lt_of_lt_of_le (whoN_lt f w k) (Nat.pow_le_pow_right (n := 2) (by decide) h)
theorem mask_ge : (List.range 10).all (fun k => (List.range 1024).all fun m => f_bitsM (nI m &&& (((1 : Int32) <<< (nI k &&& 31)) ^^^ (-1))) == f_bits (nI m &&& (((1 : Int32) <<< (nI k &&& 31)) ^^^ (-1)))) = true := by decide +kernel
theorem mask_e {m k : Nat} (h : m < 1024) (hk : k < 10) : f_bitsM (nI m &&& (((1 : Int32) <<< (nI k &&& 31)) ^^^ (-1))) = f_bits (nI m &&& (((1 : Int32) <<< (nI k &&& 31)) ^^^ (-1))) := by
  simpa using List.all_eq_true.mp (List.all_eq_true.mp mask_ge k (List.mem_range.mpr hk)) m (List.mem_range.mpr h)
theorem mask_F (f : F32) (w : Int32) {n k : Nat} (hn : n ≤ 10) (hk : k < 10) : f_bitsM (whoF f w n &&& (((1 : Int32) <<< (nI k &&& 31)) ^^^ (-1))) = f_bits (whoF f w n &&& (((1 : Int32) <<< (nI k &&& 31)) ^^^ (-1))) := by
  rw [whoF_N f w n hn]
  exact mask_e (whoN_10 f w hn) hk
