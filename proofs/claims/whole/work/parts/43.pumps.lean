-- ===== the reference: pumps, makes =====
theorem whoN_10 (f : F32) (w : Int32) {k : Nat} (h : k ≤ 10) : whoN f w k < 1024 := Nat.lt_of_lt_of_le (whoN_lt f w k) (Nat.pow_le_pow_right (n := 2) (by decide) h)
theorem mask_ge : (List.range 10).all (fun k => (List.range 1024).all fun m => f_bitsM (nI m &&& (((1 : Int32) <<< (nI k &&& 31)) ^^^ (-1))) == f_bits (nI m &&& (((1 : Int32) <<< (nI k &&& 31)) ^^^ (-1)))) = true := by decide +kernel
theorem mask_e {m k : Nat} (h : m < 1024) (hk : k < 10) : f_bitsM (nI m &&& (((1 : Int32) <<< (nI k &&& 31)) ^^^ (-1))) = f_bits (nI m &&& (((1 : Int32) <<< (nI k &&& 31)) ^^^ (-1))) := by
  simpa using List.all_eq_true.mp (List.all_eq_true.mp mask_ge k (List.mem_range.mpr hk)) m (List.mem_range.mpr h)
theorem mask_F (f : F32) (w : Int32) {n k : Nat} (hn : n ≤ 10) (hk : k < 10) : f_bitsM (whoF f w n &&& (((1 : Int32) <<< (nI k &&& 31)) ^^^ (-1))) = f_bits (whoF f w n &&& (((1 : Int32) <<< (nI k &&& 31)) ^^^ (-1))) := by
  rw [whoF_N f w n hn]
  exact mask_e (whoN_10 f w hn) hk
section MODEL
variable (E : XEnv) (A : AS) (h : YQ)
set_option maxRecDepth 100000 in
set_option maxHeartbeats 4000000 in
theorem c_X5_pumpsOf {tv : TV} {tx ts : F32} (hs : SaysOk E A tv tx ts) (htx : h.tx = tx) (hts : h.ts = ts) (S : SH) (hn : S.n ≤ 5) (one : Nat) (h1 : one < S.n) : XCall E 101 yX5_pumpsOf cX5_pumpsOf 5 (some .int) [.ref 0, .int (nI one)] (mW (A.set_S S) h) (fun r σ' => r = some (.int (pumpsF tv S one)) ∧ ∃ x, σ' = mW (A.set_S S) (h.rd x)) := by
  have e2 : (4 : Int32) * nI one + 2 = nI (4 * one + 2) := ix4 one 2 (by omega)
  have c2 : (nI (4 * one + 2)).toNatClampNeg = 4 * one + 2 := nI_clamp (by omega)
  have e0 : (4 : Int32) * nI one = nI (4 * one) := ix40 one
  have c0 : (nI (4 * one)).toNatClampNeg = 4 * one := nI_clamp (by omega)
  have tail : ¬ S.ki one = 5 → (S.ki one = 4 → ¬ S.wa < 30) → XAt E RX5 cX5_pumpsOf 5 (some .int) 101 16 (fun r σ' => r = some (.int (pumpsF tv S one)) ∧ ∃ x, σ' = mW (A.set_S S) (h.rd x)) 48 [(0, .ref 0), (1, .int (nI one)), (2, .int (S.ki one))] [] (mW (A.set_S S) h) := by
    intro q5 q4
    refine xgo sX5_pumpsOf [] 100 (xle rfl) (XIn.same (xle rfl) (hs S h 2 one (-1) 0 0 htx hts hn (by omega) h1 (Or.inl ⟨rfl, rfl, rfl⟩)) (fun r σ' _ q => ?_))
    obtain ⟨rfl, x, rfl⟩ := q
    refine XIn.same (xle rfl) (c_X5_whoIs E (A.set_S S) (h.rd x) hn 1) (fun r σ' _ q => ?_)
    obtain ⟨rfl, rfl⟩ := q
    have em : f_bitsM (whoF S.pl 1 S.n &&& (((1 : Int32) <<< (nI one &&& 31)) ^^^ (-1))) = abrF S one := mask_F S.pl 1 (by omega) (by omega)
    have half : ∀ v : Int32, v = f_bound (tv 2 (nmF S one 0 0)) / 2 → (S.ki one = 1 ∨ S.ki one = 3) → f_clamp v 0 99 = pumpsF tv S one := by
      intro v hv hk
      rw [f_clamp_b, hv]
      unfold pumpsF
      rcases hk with q | q
      · rw [if_pos q]
      · rw [if_neg (show ¬ S.ki one = 1 by rw [q]; decide), if_neg (show ¬ S.ki one = 2 by rw [q]; decide), if_pos q]
    have more : ∀ v : Int32, v = f_bound (tv 2 (nmF S one 0 0)) + abrF S one → (S.ki one = 2 ∨ S.ki one = 4) → f_clamp v 0 99 = pumpsF tv S one := by
      intro v hv hk
      rw [f_clamp_b, hv]
      unfold pumpsF
      rcases hk with q | q
      · rw [if_neg (show ¬ S.ki one = 1 by rw [q]; decide), if_pos q]
      · rw [if_neg (show ¬ S.ki one = 1 by rw [q]; decide), if_neg (show ¬ S.ki one = 2 by rw [q]; decide), if_neg (show ¬ S.ki one = 3 by rw [q]; decide), if_pos q, if_neg (q4 q)]
    have none' : ∀ v : Int32, v = f_bound (tv 2 (nmF S one 0 0)) → ¬ S.ki one = 1 → ¬ S.ki one = 3 → ¬ S.ki one = 2 → ¬ S.ki one = 4 → f_clamp v 0 99 = pumpsF tv S one := by
      intro v hv n1 n3 n2 n4
      rw [f_clamp_b, hv]
      unfold pumpsF
      rw [if_neg n1, if_neg n2, if_neg n3, if_neg n4, if_neg q5]
    refine ⟨fun n1 => ⟨?_, x, rfl⟩, fun n1 => ⟨fun n3 => ⟨fun n2 => ⟨?_, x, rfl⟩, fun n2 => ⟨fun n4 => ⟨?_, x, rfl⟩, fun n4 => ⟨?_, x, rfl⟩⟩⟩, fun n3 => ⟨by decide, ?_, x, rfl⟩⟩⟩
    · sorry
    · sorry
    · sorry
    · sorry
    · sorry
  sorry
end MODEL
