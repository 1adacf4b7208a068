def mWz (A : AS) (h : YQ) (X : F32) : XW := (mW A h).set 7 (.inl (0, 43, .inl X))
theorem mWz_e (A : AS) (h : YQ) (X : F32) : mWz A h X = mW A (h.set_wz X) := rfl
section MODEL
variable (E : XEnv) (A : AS) (h : YQ)
set_option maxRecDepth 100000 in
set_option maxHeartbeats 4000000 in
theorem l_X5_asideB (j : Nat) : ∀ (k : Nat), k + j = 10 → XAt E RX5 cX5_laysAside 2 none 10 16 (fun r σ' => r = none ∧ σ' = mWz A h (asideF A.S h.wz)) 28 [(0, .ref 0), (1, .int (nI k))] [] (mWz A h (laidF A.S h.wz 20 k)) := by
  induction j with
  | zero =>
    intro k hk
    obtain rfl : k = 10 := by omega
    exact xgo sX5_laysAside [28] 60 (xle rfl) ⟨fun _ => ⟨vp_in_nI (n := 40) (by omega) (by omega), vp_in_nI (n := 41) (by omega) (by omega), vp_in_nI (n := 42) (by omega) (by omega), rfl, rfl⟩, fun h => absurd (nI_le (a := 10) (b := 10) (Nat.le_refl _) (by omega)) h⟩
  | succ j IH =>
    intro k hk
    have ih := IH (k + 1) (by omega)
    have hc : (nI k).toNatClampNeg = k := nI_clamp (by omega)
    have a20 : (20 : Int32) + nI k = nI (20 + k) := by rw [show (20 : Int32) = nI 20 from rfl, nI_add]
    have a30 : (30 : Int32) + nI k = nI (30 + k) := by rw [show (30 : Int32) = nI 30 from rfl, nI_add]
    have c20 : (nI (20 + k)).toNatClampNeg = 20 + k := nI_clamp (by omega)
    have c30 : (nI (30 + k)).toNatClampNeg = 30 + k := nI_clamp (by omega)
    refine xgo sX5_laysAside [28] 60 (xle rfl) ⟨fun h => absurd h (nI_ge (b := 10) (by omega) (by omega)), fun _ => ⟨vp_in_nI (by omega) (by omega), by rw [a20]; exact vp_in_nI (by omega) (by omega), vp_in_nI (by omega) (by omega), by rw [a30]; exact vp_in_nI (by omega) (by omega), ?_⟩⟩
    rw [nI_succ, ← laid_b A.S h.wz (b := k) (by omega)] at ih
    rw [a20, a30, c20, c30, hc]
    exact ih
set_option maxRecDepth 100000 in
set_option maxHeartbeats 4000000 in
theorem l_X5_asideA (j : Nat) : ∀ (k : Nat), k + j = 20 → XAt E RX5 cX5_laysAside 2 none 10 16 (fun r σ' => r = none ∧ σ' = mWz A h (asideF A.S h.wz)) 2 [(0, .ref 0), (1, .int (nI k))] [] (mWz A h (laidF A.S h.wz k 0)) := by
  induction j with
  | zero =>
    intro k hk
    obtain rfl : k = 20 := by omega
    exact xgo sX5_laysAside [2, 28] 60 (xle rfl) ⟨fun _ => l_X5_asideB E A h 10 0 rfl, fun h => absurd (nI_le (a := 20) (b := 20) (Nat.le_refl _) (by omega)) h⟩
  | succ j IH =>
    intro k hk
    have ih := IH (k + 1) (by omega)
    have hc : (nI k).toNatClampNeg = k := nI_clamp (by omega)
    refine xgo sX5_laysAside [2, 28] 60 (xle rfl) ⟨fun h => absurd h (nI_ge (b := 20) (by omega) (by omega)), fun _ => ⟨vp_in_nI (by omega) (by omega), vp_in_nI (by omega) (by omega), ?_⟩⟩
    rw [nI_succ, ← laid_a A.S h.wz (a := k) (by omega)] at ih
    rw [hc]
    exact ih
theorem laid_0 (S : SH) (f : F32) : laidF S f 0 0 = f := by
  funext j
  unfold laidF
  rw [if_neg (by omega), if_neg (by omega), if_neg (by omega)]
theorem c_X5_laysAside : XCall E 10 yX5_laysAside cX5_laysAside 2 none [.ref 0] (mW A h) (fun r σ' => r = none ∧ σ' = mWz A h (asideF A.S h.wz)) := by
  have t := l_X5_asideA E A h 20 0 rfl
  rw [laid_0] at t
  exact XCall.of (by decide +kernel) (xle rfl) (xgo sX5_laysAside [2, 28] 60 (xle rfl) t)
end MODEL
