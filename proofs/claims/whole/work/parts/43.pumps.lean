-- ===== the reference: pumps, makes =====
section MODEL
variable (E : XEnv) (A : AS) (h : YQ)
set_option maxRecDepth 100000 in
set_option maxHeartbeats 4000000 in
theorem c_X5_pumpsOf {tv : TV} {tx ts : F32} (hs : SaysOk E A tv tx ts) (htx : h.tx = tx) (hts : h.ts = ts) (S : SH) (hn : S.n ≤ 5) (one : Nat) (h1 : one < S.n) : XCall E 101 yX5_pumpsOf cX5_pumpsOf 5 (some .int) [.ref 0, .int (nI one)] (mW (A.set_S S) h) (fun r σ' => r = some (.int (pumpsF tv S one)) ∧ ∃ x, σ' = mW (A.set_S S) (h.rd x)) := by
  have e2 : (4 : Int32) * nI one + 2 = nI (4 * one + 2) := ix4 one 2 (by omega)
  have c2 : (nI (4 * one + 2)).toNatClampNeg = 4 * one + 2 := nI_clamp (by omega)
  have e0 : (4 : Int32) * nI one = nI (4 * one) := ix40 one
  have c0 : (nI (4 * one)).toNatClampNeg = 4 * one := nI_clamp (by omega)
  have tail : ¬ S.ki one = 5 → (S.ki one = 4 → ¬ S.wa < 30) → XAt E RX5 cX5_pumpsOf 5 (some .int) 101 16 (fun r σ' => r = some (.int (pumpsF tv S one)) ∧ ∃ x, σ' = mW (A.set_S S) (h.rd x)) 48 [(0, .ref 0), (1, .int (nI one)), (2, .int (S.ki one))] [] (mW (A.set_S S) h) := by
    intro q5 q4
    refine xgo sX5_pumpsOf [] 100 (xle rfl) (XIn.same (xle rfl) (hs S h 2 one (-1) 0 0 htx hts hn (by omega) h1 (Or.inl ⟨rfl, rfl, rfl⟩)) (fun r σ' _ q => ?_))
    obtain ⟨rfl, x, rfl⟩ := q
    refine XIn.same (xle rfl) (c_X5_whoIs E (A.set_S S) (h.rd x) hn 1) (fun r σ' _ q => ?_)
    obtain ⟨rfl, rfl⟩ := q
    have em : f_bitsM (whoF S.pl 1 S.n &&& (((1 : Int32) <<< (nI one &&& 31)) ^^^ (-1))) = abrF S one := mask_F S.pl 1 (by omega) (by omega)
    have half : ∀ v : Int32, v = f_bound (tv 2 (nmF S one 0 0)) / 2 → (S.ki one = 1 ∨ S.ki one = 3) → f_clamp v 0 99 = pumpsF tv S one := by
      intro v hv hk
      rw [f_clamp_b, hv]
      unfold pumpsF
      rcases hk with q | q
      · rw [if_pos q]
      · rw [if_neg (show ¬ S.ki one = 1 by rw [q]; decide), if_neg (show ¬ S.ki one = 2 by rw [q]; decide), if_pos q]
    have more : ∀ v : Int32, v = f_bound (tv 2 (nmF S one 0 0)) + abrF S one → (S.ki one = 2 ∨ S.ki one = 4) → f_clamp v 0 99 = pumpsF tv S one := by
      intro v hv hk
      rw [f_clamp_b, hv]
      unfold pumpsF
      rcases hk with q | q
      · rw [if_neg (show ¬ S.ki one = 1 by rw [q]; decide), if_pos q]
      · rw [if_neg (show ¬ S.ki one = 1 by rw [q]; decide), if_neg (show ¬ S.ki one = 2 by rw [q]; decide), if_neg (show ¬ S.ki one = 3 by rw [q]; decide), if_pos q, if_neg (q4 q)]
    have none' : ∀ v : Int32, v = f_bound (tv 2 (nmF S one 0 0)) → ¬ S.ki one = 1 → ¬ S.ki one = 3 → ¬ S.ki one = 2 → ¬ S.ki one = 4 → f_clamp v 0 99 = pumpsF tv S one := by
      intro v hv n1 n3 n2 n4
      rw [f_clamp_b, hv]
      unfold pumpsF
      rw [if_neg n1, if_neg n2, if_neg n3, if_neg n4, if_neg q5]
    refine ⟨fun n1 => ⟨by decide, ?_, x, rfl⟩, fun n1 => ⟨fun n3 => ⟨fun n2 => ⟨?_, x, rfl⟩, fun n2 => ⟨fun n4 => ⟨?_, x, rfl⟩, fun n4 => ⟨?_, x, rfl⟩⟩⟩, fun n3 => ⟨by decide, ?_, x, rfl⟩⟩⟩
    · rw [half _ rfl (Or.inl n1)]
    · exact congrArg (fun v => some (Value.int v)) (more _ (congrArg (fun v => f_bound (tv 2 (nmF S one 0 0)) + v) em) (Or.inl n2))
    · rw [none' _ rfl n1 n3 n2 n4]
    · exact congrArg (fun v => some (Value.int v)) (more _ (congrArg (fun v => f_bound (tv 2 (nmF S one 0 0)) + v) em) (Or.inr n4))
    · rw [half _ rfl (Or.inr n3)]
  refine XCall.of (by decide +kernel) (xle rfl) (xgo sX5_pumpsOf [48] 100 (xle rfl) ⟨by rw [e2]; exact vp_in_nI (by omega) (by omega), ?_⟩)
  rw [e2, c2, rows2]
  have z5 : S.ki one = 5 → S.nu one = pumpsF tv S one := fun q => by
    unfold pumpsF
    rw [if_neg (show ¬ S.ki one = 1 by rw [q]; decide), if_neg (show ¬ S.ki one = 2 by rw [q]; decide), if_neg (show ¬ S.ki one = 3 by rw [q]; decide), if_neg (show ¬ S.ki one = 4 by rw [q]; decide), if_pos q]
  have z4 : S.ki one = 4 → S.wa < 30 → (0 : Int32) = pumpsF tv S one := fun q w => by
    unfold pumpsF
    rw [if_neg (show ¬ S.ki one = 1 by rw [q]; decide), if_neg (show ¬ S.ki one = 2 by rw [q]; decide), if_neg (show ¬ S.ki one = 3 by rw [q]; decide), if_pos q, if_pos w]
  refine ⟨fun q5 => ⟨fun z => absurd q5 z, fun _ => ⟨by rw [e0]; exact vp_in_nI (by omega) (by omega), ?_, h.rq, rfl⟩⟩, fun q5 => ⟨fun q4 => tail q5 (fun z => absurd z q4), fun q4 => ⟨fun q => tail q5 (fun _ => Int32.not_lt.mpr q), fun q => ⟨fun _ => ⟨?_, h.rq, rfl⟩, fun z => absurd z q5⟩⟩⟩⟩
  · rw [e0, c0, rows0]
    exact congrArg (fun v => some (Value.int v)) (z5 q5)
  · exact congrArg (fun v => some (Value.int v)) (z4 q4 (Int32.not_le.mp q))
end MODEL
