-- ===== the reference: what one makes, mends, pumps, if what a text says is right =====
def RQ : Type := Int32 × Int32 × Int32 × Int32 × Int32 × Int32 × Int32 × Int32 × Int32 × Int32 × Int32 × Int64 × Int32 × Int32 × Int32
def YQ.rd (h : YQ) (x : RQ) : YQ := (h.tx, h.ts, x.1, x.2.1, x.2.2.1, x.2.2.2.1, x.2.2.2.2.1, x.2.2.2.2.2.1, x.2.2.2.2.2.2.1, x.2.2.2.2.2.2.2.1, x.2.2.2.2.2.2.2.2.1, x.2.2.2.2.2.2.2.2.2.1, x.2.2.2.2.2.2.2.2.2.2.1, x.2.2.2.2.2.2.2.2.2.2.2.1, x.2.2.2.2.2.2.2.2.2.2.2.2.1, x.2.2.2.2.2.2.2.2.2.2.2.2.2.1, x.2.2.2.2.2.2.2.2.2.2.2.2.2.2, h.wz, h.ba, h.b1, h.b2, h.b3, h.rk, h.bk, h.sk, h.k1, h.k2, h.k3, h.k4, h.k5, h.it0, h.so, h.sz, h.it, h.th)
def YQ.rq (h : YQ) : RQ := (h.o1, h.o2, h.o3, h.o4, h.o5, h.o6, h.p1, h.p2, h.p3, h.p4, h.p5, h.pw, h.p6, h.p7, h.p8)
theorem YQ.rd_rq (h : YQ) : h.rd h.rq = h := rfl
theorem YQ.rd_rd (h : YQ) (x y : RQ) : (h.rd x).rd y = h.rd y := rfl
/-- what a text says, the reference's way, is the rule's value -/
def SaysOk (E : XEnv) (A : AS) (tv : TV) (tx ts : F32) : Prop := ∀ (S : SH) (h : YQ) (wh one : Nat) (t so pa : Int32), h.tx = tx → h.ts = ts → S.n ≤ 5 → wh < 3 → one < S.n →
  ((t = -1 ∧ so = 0 ∧ pa = 0) ∨ ∃ k, k < 10 ∧ t = nI k ∧ so = S.so k ∧ pa = nI k) →
  XCall E 100 yX5_says cX5_says 4 (some .int) [.ref 0, .int (nI wh), .int (nI one), .int t] (mW (A.set_S S) h) (fun r σ' => r = some (.int (f_bound (tv wh (nmF S one so pa)))) ∧ ∃ x, σ' = mW (A.set_S S) (h.rd x))
theorem f_clamp_b (v : Int32) : f_clamp v 0 99 = f_bound v := by
  unfold f_clamp f_bound f_max f_min
  by_cases h0 : (0 : Int32) ≤ v
  · by_cases h1 : v ≤ 99
    · rw [if_pos h0, if_pos h1]
      have e : (if v < 99 then v else 99) = v := by
        by_cases h3 : v < 99
        · rw [if_pos h3]
        · rw [if_neg h3]
          exact Int32.le_antisymm (Int32.not_lt.mp h3) h1
      rw [e]
      by_cases h2 : (0 : Int32) < v
      · rw [if_pos h2]
      · rw [if_neg h2]
        exact Int32.le_antisymm (Int32.not_lt.mp h2) h0
    · rw [if_pos h0, if_neg h1, if_neg (fun z => h1 (Int32.le_of_lt z))]
      rfl
  · have hl := Int32.not_le.mp h0
    rw [if_neg h0, if_pos (show v < 99 from Int32.lt_trans hl (by decide)), if_neg (fun z => Int32.lt_irrefl (Int32.lt_trans hl z))]
theorem f_bound_nI (v : Int32) : ∃ b, b < 100 ∧ f_bound v = nI b := by
  have h : 0 ≤ f_bound v ∧ f_bound v ≤ nI 99 := by
    rw [← f_clamp_b]
    unfold f_clamp
    by_cases h0 : (0 : Int32) ≤ v
    · by_cases h1 : v ≤ 99
      · rw [if_pos h0, if_pos h1]
        exact ⟨h0, h1⟩
      · rw [if_pos h0, if_neg h1]
        exact ⟨by decide, by decide⟩
    · rw [if_neg h0]
      exact ⟨by decide, by decide⟩
  obtain ⟨k, hk, e⟩ := i32_of (by omega) h.1 h.2
  exact ⟨k, by omega, e⟩
theorem f_bound_all (P : Int32 → Bool) (h : (List.range 100).all (fun b => P (nI b)) = true) (v : Int32) : P (f_bound v) = true := by
  obtain ⟨b, hb, e⟩ := f_bound_nI v
  rw [e]
  exact List.all_eq_true.mp h b (List.mem_range.mpr hb)
theorem f_bound_i (v : Int32) : f_bound (f_bound v) = f_bound v := by
  simpa using f_bound_all (fun b => f_bound b == b) (by decide +kernel) v
theorem f_bound_2 (v : Int32) : f_bound (f_bound (f_bound v * 2) + 1) = f_bound (f_bound v * 2 + 1) := by
  simpa using f_bound_all (fun b => f_bound (f_bound (b * 2) + 1) == f_bound (b * 2 + 1)) (by decide +kernel) v
section MODEL
variable (E : XEnv) (A : AS) (h : YQ)
set_option maxRecDepth 100000 in
set_option maxHeartbeats 4000000 in
theorem c_X5_mendsOf {tv : TV} {tx ts : F32} (hs : SaysOk E A tv tx ts) (htx : h.tx = tx) (hts : h.ts = ts) (S : SH) (hn : S.n ≤ 5) (one k : Nat) (h1 : one < S.n) (hk : k < 10) : XCall E 101 yX5_mendsOf cX5_mendsOf 6 (some .int) [.ref 0, .int (nI one), .int (nI k)] (mW (A.set_S S) h) (fun r σ' => r = some (.int (mendsF tv S one k)) ∧ ∃ x, σ' = mW (A.set_S S) (h.rd x)) := by
  have e2 : (4 : Int32) * nI one + 2 = nI (4 * one + 2) := ix4 one 2 (by omega)
  have c2 : (nI (4 * one + 2)).toNatClampNeg = 4 * one + 2 := nI_clamp (by omega)
  have ck : (nI k).toNatClampNeg = k := nI_clamp (by omega)
  have tail : ¬ S.ki one = 5 → (S.ki one = 4 → S.so k < 50) → XAt E RX5 cX5_mendsOf 6 (some .int) 101 16 (fun r σ' => r = some (.int (mendsF tv S one k)) ∧ ∃ x, σ' = mW (A.set_S S) (h.rd x)) 34 [(0, .ref 0), (1, .int (nI one)), (2, .int (nI k)), (3, .int (S.ki one))] [] (mW (A.set_S S) h) := by
    intro q5 q4
    refine xgo sX5_mendsOf [] 100 (xle rfl) (XIn.same (xle rfl) (hs S h 1 one (nI k) (S.so k) (nI k) htx hts hn (by omega) h1 (Or.inr ⟨k, hk, rfl, rfl, rfl⟩)) (fun r σ' _ q => ?_))
    obtain ⟨rfl, x, rfl⟩ := q
    have fin : ∀ v, v = f_bound (tv 1 (nmF S one (S.so k) (nI k))) → ¬ S.ki one = 1 → ¬ S.ki one = 3 → f_clamp v 0 99 = mendsF tv S one k := by
      intro v hv n1 n3
      rw [f_clamp_b, hv]
      unfold mendsF
      rw [if_neg n1]
      by_cases n2 : S.ki one = 2
      · rw [if_pos n2]
      · rw [if_neg n2, if_neg n3]
        by_cases n4 : S.ki one = 4
        · rw [if_pos n4, if_pos (q4 n4)]
        · rw [if_neg n4, if_neg q5]
    have fin1 : ∀ v, v = f_bound (if f_isUnder (nI k) = 0 then f_bound (tv 1 (nmF S one (S.so k) (nI k))) else f_bound (tv 1 (nmF S one (S.so k) (nI k))) * 2) → S.ki one = 1 → f_clamp v 0 99 = mendsF tv S one k := by
      intro v hv n1
      rw [f_clamp_b, hv, f_bound_i]
      unfold mendsF
      rw [if_pos n1]
    have fin3 : ∀ v, v = f_bound (if f_isUnder (nI k) = 0 then f_bound (tv 1 (nmF S one (S.so k) (nI k))) else f_bound (tv 1 (nmF S one (S.so k) (nI k))) * 2) → S.ki one = 3 → f_clamp (v + 1) 0 99 = mendsF tv S one k := by
      intro v hv n3
      rw [f_clamp_b, hv]
      unfold mendsF
      rw [if_neg (show ¬ S.ki one = 1 by rw [n3]; decide), if_neg (show ¬ S.ki one = 2 by rw [n3]; decide), if_pos n3]
      by_cases u : f_isUnder (nI k) = 0
      · rw [if_pos u, f_bound_i]
      · rw [if_neg u]
        exact f_bound_2 _
    refine ⟨fun u => ⟨fun n1 => ⟨fun n3 => ⟨?_, x, rfl⟩, fun n3 => ⟨?_, x, rfl⟩⟩, fun n1 => ⟨?_, x, rfl⟩⟩, fun u => ⟨fun n1 => ⟨fun n3 => ⟨?_, x, rfl⟩, fun n3 => ⟨?_, x, rfl⟩⟩, fun n1 => ⟨?_, x, rfl⟩⟩⟩
    · rw [fin _ rfl n1 n3]
    · rw [fin3 _ (by rw [if_pos u, f_clamp_b]) n3]
    · rw [fin1 _ (by rw [if_pos u, f_clamp_b]) n1]
    · rw [fin _ rfl n1 n3]
    · rw [fin3 _ (by rw [if_neg u, f_clamp_b, Int32.mul_comm]) n3]
    · rw [fin1 _ (by rw [if_neg u, f_clamp_b, Int32.mul_comm]) n1]
  refine XCall.of (by decide +kernel) (xle rfl) (xgo sX5_mendsOf [34] 100 (xle rfl) ⟨by rw [e2]; exact vp_in_nI (by omega) (by omega), ?_⟩)
  rw [e2, c2, rows2]
  have z5 : S.ki one = 5 → (0 : Int32) = mendsF tv S one k := fun q => by
    unfold mendsF
    rw [if_neg (show ¬ S.ki one = 1 by rw [q]; decide), if_neg (show ¬ S.ki one = 2 by rw [q]; decide), if_neg (show ¬ S.ki one = 3 by rw [q]; decide), if_neg (show ¬ S.ki one = 4 by rw [q]; decide), if_pos q]
  have lt50 : ∀ v : Int32, v ≤ 49 → v < 50 := fun v q => Int32.lt_of_le_of_lt q (by decide)
  have ge50 : ∀ v : Int32, ¬ v ≤ 49 → ¬ v < 50 := fun v q z => q (by
    rw [Int32.le_iff_toInt_le]
    have := Int32.lt_iff_toInt_lt.mp z
    have e1 : (50 : Int32).toInt = 50 := by decide
    have e2 : (49 : Int32).toInt = 49 := by decide
    omega)
  refine ⟨fun q5 => ⟨by rw [← z5 q5], h.rq, rfl⟩, fun q5 => ⟨fun q4 => tail q5 (fun z => absurd z q4), fun q4 => ⟨vp_in_nI (by omega) (by omega), fun q => tail q5 (fun _ => lt50 _ (by rw [ck] at q; exact q)), fun q => ⟨?_, h.rq, rfl⟩⟩⟩⟩
  rw [ck] at q
  have q4 : S.ki one = 4 := q4
  have q : ¬ S.so k ≤ 49 := q
  unfold mendsF
  rw [if_neg (show ¬ S.ki one = 1 by rw [q4]; decide), if_neg (show ¬ S.ki one = 2 by rw [q4]; decide), if_neg (show ¬ S.ki one = 3 by rw [q4]; decide), if_pos q4, if_neg (ge50 _ q)]
end MODEL
