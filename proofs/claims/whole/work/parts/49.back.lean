-- ===== laid back =====
def backF (f W : F32) (k : Nat) : F32 := fun j => if j < k then W j else f j
theorem back_s (f W : F32) (k : Nat) : upd (backF f W k) k (W k) = backF f W (k + 1) := by
  funext j
  unfold upd backF
  by_cases q : j = k
  · subst q
    rw [if_pos rfl, if_pos (by omega)]
  · rw [if_neg q]
    by_cases q2 : j < k
    · rw [if_pos q2, if_pos (by omega)]
    · rw [if_neg q2, if_neg (by omega)]
theorem back_0 (f W : F32) : backF f W 0 = f := by
  funext j
  unfold backF
  rw [if_neg (by omega)]
def mWb (A : AS) (h : YQ) (M So R : F32) : XW := (((mW A h).set 4 (.inl (0, 10, .inl M))).set 5 (.inl (0, 10, .inl So))).set 6 (.inl (0, 20, .inl R))
section MODEL
variable (E : XEnv) (A : AS) (h : YQ)
set_option maxRecDepth 100000 in
set_option maxHeartbeats 4000000 in
theorem l_X5_backB (R : F32) (j : Nat) : ∀ (k : Nat), k + j = 10 → XAt E RX5 cX5_laysBack 2 none 10 16 (fun r σ' => r = none ∧ σ' = mWb (A.set_S (((A.S.setDy (h.wz 40)).setSe (h.wz 41)).setWa (h.wz 42))) h (backF A.S.ma (fun j => h.wz (20 + j)) 10) (backF A.S.so (fun j => h.wz (30 + j)) 10) R) 28 [(0, .ref 0), (1, .int (nI k))] [] (mWb A h (backF A.S.ma (fun j => h.wz (20 + j)) k) (backF A.S.so (fun j => h.wz (30 + j)) k) R) := by
  induction j with
  | zero =>
    intro k hk
    obtain rfl : k = 10 := by omega
    exact xgo sX5_laysBack [28] 60 (xle rfl) ⟨fun _ => ⟨vp_in_nI (n := 40) (by omega) (by omega), vp_in_nI (n := 41) (by omega) (by omega), vp_in_nI (n := 42) (by omega) (by omega), rfl, rfl⟩, fun h => absurd (nI_le (a := 10) (b := 10) (Nat.le_refl _) (by omega)) h⟩
  | succ j IH =>
    intro k hk
    have ih := IH (k + 1) (by omega)
    have hc : (nI k).toNatClampNeg = k := nI_clamp (by omega)
    have a20 : (20 : Int32) + nI k = nI (20 + k) := by rw [show (20 : Int32) = nI 20 from rfl, nI_add]
    have a30 : (30 : Int32) + nI k = nI (30 + k) := by rw [show (30 : Int32) = nI 30 from rfl, nI_add]
    have c20 : (nI (20 + k)).toNatClampNeg = 20 + k := nI_clamp (by omega)
    have c30 : (nI (30 + k)).toNatClampNeg = 30 + k := nI_clamp (by omega)
    refine xgo sX5_laysBack [28] 60 (xle rfl) ⟨fun h => absurd h (nI_ge (b := 10) (by omega) (by omega)), fun _ => ⟨by rw [a20]; exact vp_in_nI (by omega) (by omega), vp_in_nI (by omega) (by omega), by rw [a30]; exact vp_in_nI (by omega) (by omega), vp_in_nI (by omega) (by omega), ?_⟩⟩
    have b1 := back_s A.S.ma (fun j => h.wz (20 + j)) k
    have b2 := back_s A.S.so (fun j => h.wz (30 + j)) k
    rw [nI_succ, ← b1, ← b2] at ih
    rw [a20, a30, c20, c30, hc]
    exact ih
set_option maxRecDepth 100000 in
set_option maxHeartbeats 4000000 in
theorem l_X5_backA (j : Nat) : ∀ (k : Nat), k + j = 20 → XAt E RX5 cX5_laysBack 2 none 10 16 (fun r σ' => r = none ∧ σ' = mWb (A.set_S (((A.S.setDy (h.wz 40)).setSe (h.wz 41)).setWa (h.wz 42))) h (backF A.S.ma (fun j => h.wz (20 + j)) 10) (backF A.S.so (fun j => h.wz (30 + j)) 10) (backF (rowsF A.S) h.wz 20)) 2 [(0, .ref 0), (1, .int (nI k))] [] (mWb A h A.S.ma A.S.so (backF (rowsF A.S) h.wz k)) := by
  induction j with
  | zero =>
    intro k hk
    obtain rfl : k = 20 := by omega
    have t := l_X5_backB E A h (backF (rowsF A.S) h.wz 20) 10 0 rfl
    rw [back_0, back_0] at t
    exact xgo sX5_laysBack [2, 28] 60 (xle rfl) ⟨fun _ => t, fun h => absurd (nI_le (a := 20) (b := 20) (Nat.le_refl _) (by omega)) h⟩
  | succ j IH =>
    intro k hk
    have ih := IH (k + 1) (by omega)
    have hc : (nI k).toNatClampNeg = k := nI_clamp (by omega)
    have b1 := back_s (rowsF A.S) h.wz k
    refine xgo sX5_laysBack [2, 28] 60 (xle rfl) ⟨fun h => absurd h (nI_ge (b := 20) (by omega) (by omega)), fun _ => ⟨vp_in_nI (by omega) (by omega), vp_in_nI (by omega) (by omega), ?_⟩⟩
    rw [nI_succ, ← b1] at ih
    rw [hc]
    exact ih
theorem c_X5_laysBack0 : XCall E 10 yX5_laysBack cX5_laysBack 2 none [.ref 0] (mW A h) (fun r σ' => r = none ∧ σ' = mWb (A.set_S (((A.S.setDy (h.wz 40)).setSe (h.wz 41)).setWa (h.wz 42))) h (backF A.S.ma (fun j => h.wz (20 + j)) 10) (backF A.S.so (fun j => h.wz (30 + j)) 10) (backF (rowsF A.S) h.wz 20)) := by
  have t := l_X5_backA E A h 20 0 rfl
  rw [back_0] at t
  exact XCall.of (by decide +kernel) (xle rfl) (xgo sX5_laysBack [2, 28] 60 (xle rfl) t)
end MODEL
