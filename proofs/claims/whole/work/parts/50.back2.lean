-- ===== laid back, out of what was laid aside =====
theorem aside_r (S : SH) (f : F32) {k : Nat} (hk : k < 20) : asideF S f k = rowsF S k := by
  unfold asideF upd laidF
  rw [if_neg (by omega), if_neg (by omega), if_neg (by omega), if_pos hk]
theorem aside_m (S : SH) (f : F32) {k : Nat} (hk : k < 10) : asideF S f (20 + k) = S.ma k := by
  unfold asideF upd laidF
  rw [if_neg (by omega), if_neg (by omega), if_neg (by omega), if_neg (by omega), if_pos (by omega), show 20 + k - 20 = k by omega]
theorem aside_s (S : SH) (f : F32) {k : Nat} (hk : k < 10) : asideF S f (30 + k) = S.so k := by
  unfold asideF upd laidF
  rw [if_neg (by omega), if_neg (by omega), if_neg (by omega), if_neg (by omega), if_neg (by omega), if_pos (by omega), show 30 + k - 30 = k by omega]
theorem xEq_back (A : AS) (h : YQ) (S T : SH) (f : F32) (hw : h.wz = asideF S f) (hn : T.n = S.n) :
    xEq (mWb ((A.set_S T).set_S (((T.setDy (h.wz 40)).setSe (h.wz 41)).setWa (h.wz 42))) h (backF T.ma (fun j => h.wz (20 + j)) 10) (backF T.so (fun j => h.wz (30 + j)) 10) (backF (rowsF T) h.wz 20)) (mW (A.set_S S) h) := by
  have d0 : h.wz 40 = S.dy := by rw [hw]; rfl
  have d1 : h.wz 41 = S.se := by rw [hw]; rfl
  have d2 : h.wz 42 = S.wa := by rw [hw]; rfl
  rw [d0, d1, d2]
  have e0 : nI T.n = nI S.n := by rw [hn]
  unfold mWb mW
  refine xEq_cons (show _ = _ from ?_) (xEq_cons (xce_rfl _) (xEq_cons (xce_rfl _) (xEq_cons (xce_rfl _) (xEq_cons ⟨rfl, rfl, fun k hk => ?_⟩ (xEq_cons ⟨rfl, rfl, fun k hk => ?_⟩ (xEq_cons ⟨rfl, rfl, fun k hk => ?_⟩ (xEq_rfl _)))))))
  · rw [show nI ((A.set_S T).set_S (((T.setDy S.dy).setSe S.se).setWa S.wa)).S.n = nI (A.set_S S).S.n from e0]
    rfl
  · unfold backF
    rw [if_pos hk, hw]
    exact aside_m S f hk
  · unfold backF
    rw [if_pos hk, hw]
    exact aside_s S f hk
  · unfold backF
    rw [if_pos hk, hw]
    exact aside_r S f hk
theorem c_X5_laysBack (E : XEnv) (A : AS) (h : YQ) (S T : SH) (f : F32) (hw : h.wz = asideF S f) (hn : T.n = S.n) : XCall E 10 yX5_laysBack cX5_laysBack 2 none [.ref 0] (mW (A.set_S T) h) (fun r σ' => r = none ∧ σ' = mW (A.set_S S) h) :=
  (c_X5_laysBack0 E (A.set_S T) h).conv (fun r σ' q => ⟨mW (A.set_S S) h, by rw [q.2]; exact xEq_back A h S T f hw hn, q.1, rfl⟩)
