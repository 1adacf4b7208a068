-- ===== the reference: who goes =====
/-- where they are, when just these of the left are aboard: the first k -/
def plcF (pl : F32) (set left : Int32) (k : Nat) : F32 := fun j => if j < k then (if (left >>> (nI j &&& 31)) &&& 1 = 1 then (set >>> (nI j &&& 31)) &&& 1 else 2) else pl j
theorem plc_s (pl : F32) (set left : Int32) (k : Nat) : upd (plcF pl set left k) k (if (left >>> (nI k &&& 31)) &&& 1 = 1 then (set >>> (nI k &&& 31)) &&& 1 else 2) = plcF pl set left (k + 1) := by
  funext j
  unfold upd plcF
  by_cases q : j = k
  · subst q
    rw [if_pos rfl, if_pos (show j < j + 1 by omega)]
  · rw [if_neg q]
    by_cases q2 : j < k
    · rw [if_pos q2, if_pos (show j < k + 1 by omega)]
    · rw [if_neg q2, if_neg (show ¬ j < k + 1 by omega)]
theorem plc_0 (pl : F32) (set left : Int32) : plcF pl set left 0 = pl := by
  funext j
  unfold plcF
  rw [if_neg (by omega)]
section MODEL
variable (E : XEnv) (A : AS) (h : YQ)
set_option maxRecDepth 100000 in
set_option maxHeartbeats 4000000 in
theorem l_X5_placed (hn : A.S.n ≤ 5) (set left : Int32) (j : Nat) : ∀ (k : Nat), k + j = A.S.n → XAt E RX5 cX5_placed 4 none 10 16 (fun r σ' => r = none ∧ σ' = mW (A.set_S (A.S.setPl (plcF A.S.pl set left A.S.n))) h) 2 [(0, .ref 0), (1, .int set), (2, .int left), (3, .int (nI k))] [] (mW (A.set_S (A.S.setPl (plcF A.S.pl set left k))) h) := by
  induction j with
  | zero =>
    intro k hk
    obtain rfl : k = A.S.n := by omega
    exact xgo sX5_placed [2] 60 (xle rfl) ⟨fun _ => ⟨rfl, rfl⟩, fun h => absurd (nI_le (a := A.S.n) (b := A.S.n) (Nat.le_refl _) (by omega)) h⟩
  | succ j IH =>
    intro k hk
    have ih := IH (k + 1) (by omega)
    have e3 : (4 : Int32) * nI k + 3 = nI (4 * k + 3) := ix4 k 3 (by omega)
    have c3 : (nI (4 * k + 3)).toNatClampNeg = 4 * k + 3 := nI_clamp (by omega)
    have ps := plc_s A.S.pl set left k
    rw [nI_succ, ← ps] at ih
    refine xgo sX5_placed [2] 60 (xle rfl) ⟨fun h => absurd h (nI_ge (b := A.S.n) (by omega) (by omega)), fun _ => ⟨fun q => ⟨by rw [e3]; exact vp_in_nI (by omega) (by omega), ?_⟩, fun q => ⟨by rw [e3]; exact vp_in_nI (by omega) (by omega), ?_⟩⟩⟩
    · rw [if_neg q] at ih
      rw [e3, c3, rowsU3]
      exact ih
    · rw [if_pos q] at ih
      rw [e3, c3, rowsU3]
      exact ih
theorem c_X5_placed (hn : A.S.n ≤ 5) (set left : Int32) : XCall E 10 yX5_placed cX5_placed 4 none [.ref 0, .int set, .int left] (mW A h) (fun r σ' => r = none ∧ σ' = mW (A.set_S (A.S.setPl (plcF A.S.pl set left A.S.n))) h) := by
  have t := l_X5_placed E A h hn set left A.S.n 0 (Nat.zero_add _)
  rw [plc_0] at t
  exact XCall.of (by decide +kernel) (xle rfl) (xgo sX5_placed [2] 60 (xle rfl) t)
end MODEL
