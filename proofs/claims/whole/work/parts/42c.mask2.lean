-- ===== so few others =====
theorem mask_l0 : (List.range 10).all (fun k => (List.range 1024).all fun m => decide (0 ≤ f_bits (nI m &&& (((1 : Int32) <<< (nI k &&& 31)) ^^^ (-1)))) && decide (f_bits (nI m &&& (((1 : Int32) <<< (nI k &&& 31)) ^^^ (-1))) ≤ nI 10)) = true := by decide +kernel
theorem oth_nI (S : SH) (one : Nat) {k : Nat} (hk : k < 10) : ∃ c, c ≤ 10 ∧ othF S one k = nI c := by
  unfold othF
  rw [whoF_N S.ma (nI one) 10 (Nat.le_refl _)]
  have h := List.all_eq_true.mp (List.all_eq_true.mp mask_l0 k (List.mem_range.mpr hk)) _ (List.mem_range.mpr (whoN_10 S.ma (nI one) (Nat.le_refl 10)))
  rw [Bool.and_eq_true] at h
  exact i32_of (by omega) (of_decide_eq_true h.1) (of_decide_eq_true h.2)
theorem knot_0 : (List.range 109).all (fun x => (List.range 11).all fun o => f_bound (f_bound (nI x) + nI o) == f_bound (nI x + nI o)) = true := by decide +kernel
theorem knot_e {x o : Nat} (hx : x < 109) (ho : o ≤ 10) : f_bound (f_bound (nI x) + nI o) = f_bound (nI x + nI o) := by
  simpa using List.all_eq_true.mp (List.all_eq_true.mp knot_0 x (List.mem_range.mpr hx)) o (List.mem_range.mpr (by omega))
