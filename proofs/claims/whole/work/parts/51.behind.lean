-- ===== the water behind so many days =====
section MODEL
variable (E : XEnv) (A : AS)
set_option maxRecDepth 100000 in
set_option maxHeartbeats 4000000 in
theorem c_X5_waterBehind {tv : TV} {tx ts : F32} (hs : SaysOk E A tv tx ts) (N : Nat) (hN : N < 2147483647) (S : SH) (h : YQ) (htx : h.tx = tx) (hts : h.ts = ts) (hR : RI S) : XCall E 105 yX5_waterBehind cX5_waterBehind 3 (some .int) [.ref 0, .int (nI N)] (mW (A.set_S S) h) (fun r σ' => r = some (.int (daysF tv N S).wa) ∧ ∃ x, σ' = mW (A.set_S S) ((h.set_wz (asideF S h.wz)).rd x)) := by
  refine XCall.of (by decide +kernel) (xle rfl) (xgo sX5_waterBehind [] 60 (xle rfl) (XIn.same (xle rfl) (c_X5_laysAside E (A.set_S S) h) (fun r σ' _ q => ?_)))
  obtain ⟨rfl, rfl⟩ := q
  refine XIn.same (xle rfl) (c_X5_sails E A hs N hN S (h.set_wz (asideF S h.wz)) htx hts hR) (fun r σ' _ q => ?_)
  obtain ⟨rfl, x, rfl⟩ := q
  refine XIn.same (xle rfl) (c_X5_laysBack E A ((h.set_wz (asideF S h.wz)).rd x) S (daysF tv N S) h.wz rfl (daysF_n tv N S)) (fun r σ' _ q => ?_)
  obtain ⟨rfl, rfl⟩ := q
  exact ⟨rfl, x, rfl⟩
end MODEL
