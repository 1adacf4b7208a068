-- ===== the reference: makes =====
section MODEL
variable (E : XEnv) (A : AS) (h : YQ)
def caF (tv : TV) (S : SH) (one k : Nat) : Int32 := if f_isUnder (nI k) = 0 then f_bound (tv 0 (nmF S one (S.so k) (nI k))) else f_bound (tv 0 (nmF S one (S.so k) (nI k))) + S.nu one
def brF (tv : TV) (S : SH) (one k : Nat) : Int32 := if othF S one k = 0 then f_bound (tv 0 (nmF S one (S.so k) (nI k))) / 2 else f_bound (tv 0 (nmF S one (S.so k) (nI k)))
theorem ca_nI (tv : TV) (S : SH) (one k : Nat) (hu : 0 ≤ S.nu one ∧ S.nu one ≤ 9) : ∃ x, x < 109 ∧ caF tv S one k = nI x := by
  obtain ⟨b, hb, e⟩ := f_bound_nI (tv 0 (nmF S one (S.so k) (nI k)))
  obtain ⟨u, hu', eu⟩ := i32_of (N := 9) (by omega) hu.1 hu.2
  unfold caF
  rw [e, eu, nI_add]
  by_cases z : f_isUnder (nI k) = 0
  · rw [if_pos z]
    exact ⟨b, by omega, rfl⟩
  · rw [if_neg z]
    exact ⟨b + u, by omega, rfl⟩
set_option maxRecDepth 100000 in
set_option maxHeartbeats 4000000 in
theorem l_X5_makes {tv : TV} (S : SH) (one k : Nat) (hk : k < 10) (hu : 0 ≤ S.nu one ∧ S.nu one ≤ 9) (q5 : ¬ S.ki one = 5) (w : XW) (x : RQ) (hw : w = mW (A.set_S S) (h.rd x)) : XAt E RX5 cX5_makesOf 8 (some .int) 101 16 (fun r σ' => r = some (.int (makesF tv S one k)) ∧ ∃ x, σ' = mW (A.set_S S) (h.rd x)) 102 [(0, .ref 0), (1, .int (nI one)), (2, .int (nI k)), (3, .int (S.ki one)), (4, .int (f_bound (tv 0 (nmF S one (S.so k) (nI k))))), (5, .int (othF S one k)), (6, .int (f_bound (caF tv S one k))), (7, .int (brF tv S one k))] [] w := by
  subst hw
  refine xgo sX5_makesOf [] 100 (xle rfl) ⟨fun n1 => ⟨fun n3 => ⟨fun n2 => ⟨fun n4 => ⟨?_, x, rfl⟩, fun n4 => ⟨?_, x, rfl⟩⟩, fun n2 => ⟨?_, x, rfl⟩⟩, fun n3 => ⟨?_, x, rfl⟩⟩, fun n1 => ⟨?_, x, rfl⟩⟩
  · refine congrArg (fun v => some (Value.int v)) ?_
    rw [f_clamp_b]
    unfold makesF
    rw [if_neg n1, if_neg n2, if_neg n3, if_neg n4, if_neg q5]
  · refine congrArg (fun v => some (Value.int v)) ?_
    rw [f_clamp_b]
    unfold makesF
    rw [if_neg n1, if_neg n2, if_neg n3, if_pos n4]
    rfl
  · refine congrArg (fun v => some (Value.int v)) ?_
    rw [f_clamp_b]
    unfold makesF
    rw [if_neg n1, if_pos n2]
    rfl
  · refine congrArg (fun v => some (Value.int v)) ?_
    rw [f_clamp_b]
    unfold makesF
    rw [if_neg n1, if_neg (show ¬ S.ki one = 2 by rw [n3]; decide), if_pos n3]
    obtain ⟨c, hc, ec⟩ := oth_nI S one hk
    obtain ⟨y, hy, ey⟩ := ca_nI tv S one k hu
    show f_bound (f_bound (caF tv S one k) + othF S one k) = f_bound (caF tv S one k + othF S one k)
    rw [ec, ey]
    exact knot_e hy hc
  · refine congrArg (fun v => some (Value.int v)) ?_
    rw [f_clamp_b, f_bound_i]
    unfold makesF
    rw [if_pos n1]
    rfl
set_option maxRecDepth 100000 in
set_option maxHeartbeats 4000000 in
theorem c_X5_makesOf {tv : TV} {tx ts : F32} (hs : SaysOk E A tv tx ts) (htx : h.tx = tx) (hts : h.ts = ts) (S : SH) (hn : S.n ≤ 5) (one k : Nat) (h1 : one < S.n) (hk : k < 10) (hu : 0 ≤ S.nu one ∧ S.nu one ≤ 9) : XCall E 101 yX5_makesOf cX5_makesOf 8 (some .int) [.ref 0, .int (nI one), .int (nI k)] (mW (A.set_S S) h) (fun r σ' => r = some (.int (makesF tv S one k)) ∧ ∃ x, σ' = mW (A.set_S S) (h.rd x)) := by
  have e2 : (4 : Int32) * nI one + 2 = nI (4 * one + 2) := ix4 one 2 (by omega)
  have c2 : (nI (4 * one + 2)).toNatClampNeg = 4 * one + 2 := nI_clamp (by omega)
  have e0 : (4 : Int32) * nI one = nI (4 * one) := ix40 one
  have c0 : (nI (4 * one)).toNatClampNeg = 4 * one := nI_clamp (by omega)
  refine XCall.of (by decide +kernel) (xle rfl) (xgo sX5_makesOf [86, 102] 100 (xle rfl) ⟨by rw [e2]; exact vp_in_nI (by omega) (by omega), ?_⟩)
  rw [e2, c2, rows2]
  refine ⟨fun q5 => XIn.same (xle rfl) (hs S h 0 one (nI k) (S.so k) (nI k) htx hts hn (by omega) h1 (Or.inr ⟨k, hk, rfl, rfl, rfl⟩)) (fun r σ' _ q => ?_), fun q5 => ⟨fun u => ⟨?_, h.rq, rfl⟩, fun u => ⟨?_, h.rq, rfl⟩⟩⟩
  · have q5 : ¬ S.ki one = 5 := q5
    obtain ⟨rfl, x, rfl⟩ := q
    refine XIn.same (xle rfl) (c_X5_madeBy E (A.set_S S) (h.rd x) (nI one)) (fun r σ' _ q => ?_)
    obtain ⟨rfl, rfl⟩ := q
    have em : f_bitsM (whoF S.ma (nI one) 10 &&& (((1 : Int32) <<< (nI k &&& 31)) ^^^ (-1))) = othF S one k := mask_F S.ma (nI one) (Nat.le_refl _) hk
    have t86 : ∀ ca, ca = f_bound (caF tv S one k) → XAt E RX5 cX5_makesOf 8 (some .int) 101 16 (fun r σ' => r = some (.int (makesF tv S one k)) ∧ ∃ x, σ' = mW (A.set_S S) (h.rd x)) 86 [(0, .ref 0), (1, .int (nI one)), (2, .int (nI k)), (3, .int (S.ki one)), (4, .int (f_bound (tv 0 (nmF S one (S.so k) (nI k))))), (5, .int (othF S one k)), (6, .int ca)] [] (mW (A.set_S S) (h.rd x)) := by
      intro ca hca
      subst hca
      have t := l_X5_makes E A h (tv := tv) S one k hk hu q5 _ x rfl
      refine xgo sX5_makesOf [102] 100 (xle rfl) ⟨fun o => ?_, fun o => ⟨by decide, ?_⟩⟩
      · have e : brF tv S one k = f_bound (tv 0 (nmF S one (S.so k) (nI k))) := by unfold brF; rw [if_neg o]
        rw [e] at t
        exact t
      · have e : brF tv S one k = f_bound (tv 0 (nmF S one (S.so k) (nI k))) / 2 := by unfold brF; rw [if_pos o]
        rw [e] at t
        exact t
    refine ⟨fun u => ?_, fun u => ⟨by rw [e0]; exact vp_in_nI (by omega) (by omega), ?_⟩⟩
    · have t := t86 (f_clamp (f_bound (tv 0 (nmF S one (S.so k) (nI k)))) 0 99) (by rw [f_clamp_b]; unfold caF; rw [if_pos u])
      rw [← em] at t
      exact t
    · rw [e0, c0, rows0]
      have t := t86 (f_clamp (f_bound (tv 0 (nmF S one (S.so k) (nI k))) + S.nu one) 0 99) (by rw [f_clamp_b]; unfold caF; rw [if_neg u])
      rw [← em] at t
      exact t
  · have q5 : S.ki one = 5 := q5
    refine congrArg (fun v => some (Value.int v)) ?_
    unfold makesF
    rw [if_neg (show ¬ S.ki one = 1 by rw [q5]; decide), if_neg (show ¬ S.ki one = 2 by rw [q5]; decide), if_neg (show ¬ S.ki one = 3 by rw [q5]; decide), if_neg (show ¬ S.ki one = 4 by rw [q5]; decide), if_pos q5, if_pos u]
  · have q5 : S.ki one = 5 := q5
    refine congrArg (fun v => some (Value.int v)) ?_
    unfold makesF
    rw [if_neg (show ¬ S.ki one = 1 by rw [q5]; decide), if_neg (show ¬ S.ki one = 2 by rw [q5]; decide), if_neg (show ¬ S.ki one = 3 by rw [q5]; decide), if_neg (show ¬ S.ki one = 4 by rw [q5]; decide), if_pos q5, if_neg u]
end MODEL
