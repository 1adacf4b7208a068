-- ===== the reference: told, lays, set, asks, builds, count =====
def DI (S : SH) : Prop := 0 ≤ S.dy ∧ S.dy ≤ 999
theorem nI_i0 {x N : Nat} (h : x ≤ N) (hN : N < 2147483648) : 0 ≤ nI x ∧ nI x ≤ nI N := ⟨nI_pos' (by omega), nI_le h hN⟩
def isOfF (S : SH) (what of : Int32) : Int32 := if what < 3 then 1 else if what = 3 ∨ 9 < what then f_isPart of else hasF S of
theorem isOf_01 (S : SH) (what of : Int32) : isOfF S what of = 0 ∨ isOfF S what of = 1 := by
  unfold isOfF
  split
  · exact Or.inr rfl
  · split
    · exact f_within_01 _ _ _
    · exact f_within_01 _ _ _
theorem told_low {tv : TV} {S : SH} {of : Int32} {w : Nat} (h : w < 3) : toldF tv S of (nI w) = if w = 0 then S.dy else if w = 1 then S.se else S.wa := by
  rcases (by omega : w = 0 ∨ w = 1 ∨ w = 2) with rfl | rfl | rfl <;> rfl
theorem told_part {tv : TV} {S : SH} {w k : Nat} (h : w = 3 ∨ w = 10 ∨ w = 11) (hk : k < 10) : toldF tv S (nI k) (nI w) = tpF S k (nI w) := by
  have hp : ¬ f_isPart (nI k) = 0 := by
    have : f_isPart (nI k) = 1 := fw_in (n := 10) (by omega) hk
    rw [this]; decide
  have hc : (nI k).toNatClampNeg = k := nI_clamp (by omega)
  unfold toldF
  rcases h with rfl | rfl | rfl
  · rw [if_neg (by decide), if_neg (by decide), if_neg (by decide), if_pos (by decide), if_neg hp, hc]
  · rw [if_neg (by decide), if_neg (by decide), if_neg (by decide), if_pos (by decide), if_neg hp, hc]
  · rw [if_neg (by decide), if_neg (by decide), if_neg (by decide), if_pos (by decide), if_neg hp, hc]
theorem told_one {tv : TV} {S : SH} {w k : Nat} (h : 4 ≤ w) (h9 : w ≤ 9) (hk : k < S.n) (h5 : S.n ≤ 5) : toldF tv S (nI k) (nI w) = twF tv S k (nI w) := by
  have hp : ¬ f_within (nI k) 0 (nI S.n - 1) = 0 := by
    rw [fw_in (by omega) hk]; decide
  have hc : (nI k).toNatClampNeg = k := nI_clamp (by omega)
  unfold toldF
  rcases (by omega : w = 4 ∨ w = 5 ∨ w = 6 ∨ w = 7 ∨ w = 8 ∨ w = 9) with rfl | rfl | rfl | rfl | rfl | rfl
  · rw [if_neg (by decide), if_neg (by decide), if_neg (by decide), if_neg (by decide), if_neg hp, hc]
  · rw [if_neg (by decide), if_neg (by decide), if_neg (by decide), if_neg (by decide), if_neg hp, hc]
  · rw [if_neg (by decide), if_neg (by decide), if_neg (by decide), if_neg (by decide), if_neg hp, hc]
  · rw [if_neg (by decide), if_neg (by decide), if_neg (by decide), if_neg (by decide), if_neg hp, hc]
  · rw [if_neg (by decide), if_neg (by decide), if_neg (by decide), if_neg (by decide), if_neg hp, hc]
  · rw [if_neg (by decide), if_neg (by decide), if_neg (by decide), if_neg (by decide), if_neg hp, hc]
theorem isOf_part {S : SH} {w : Nat} {of : Int32} (h : w = 3 ∨ w = 10 ∨ w = 11) : isOfF S (nI w) of = f_isPart of := by
  unfold isOfF
  rcases h with rfl | rfl | rfl
  · rw [if_neg (by decide), if_pos (by decide)]
  · rw [if_neg (by decide), if_pos (by decide)]
  · rw [if_neg (by decide), if_pos (by decide)]
theorem isOf_one {S : SH} {w : Nat} {of : Int32} (h : 4 ≤ w) (h9 : w ≤ 9) : isOfF S (nI w) of = hasF S of := by
  unfold isOfF
  rcases (by omega : w = 4 ∨ w = 5 ∨ w = 6 ∨ w = 7 ∨ w = 8 ∨ w = 9) with rfl | rfl | rfl | rfl | rfl | rfl <;> rw [if_neg (by decide), if_neg (by decide)]
/-- there is no such -/
theorem told_no {tv : TV} {S : SH} {w : Nat} {of : Int32} (hw : w < 12) (h : isOfF S (nI w) of = 0) : toldF tv S of (nI w) = -1000 := by
  rcases (by omega : w < 3 ∨ (w = 3 ∨ w = 10 ∨ w = 11) ∨ (4 ≤ w ∧ w ≤ 9)) with q | q | ⟨q, q2⟩
  · refine absurd h ?_
    unfold isOfF
    rw [if_pos (show nI w < 3 from nI_lt (b := 3) q (by omega))]
    decide
  · rw [isOf_part q] at h
    unfold toldF
    rcases q with rfl | rfl | rfl
    · rw [if_neg (by decide), if_neg (by decide), if_neg (by decide), if_pos (by decide), if_pos h]
    · rw [if_neg (by decide), if_neg (by decide), if_neg (by decide), if_pos (by decide), if_pos h]
    · rw [if_neg (by decide), if_neg (by decide), if_neg (by decide), if_pos (by decide), if_pos h]
  · rw [isOf_one q q2] at h
    have h : f_within of 0 (nI S.n - 1) = 0 := h
    unfold toldF
    rcases (by omega : w = 4 ∨ w = 5 ∨ w = 6 ∨ w = 7 ∨ w = 8 ∨ w = 9) with rfl | rfl | rfl | rfl | rfl | rfl <;> rw [if_neg (by decide), if_neg (by decide), if_neg (by decide), if_neg (by decide), if_pos h]
/-- which one it is of -/
theorem isOf_at {S : SH} {w : Nat} {of : Int32} (h5 : S.n ≤ 5) (h : ¬ isOfF S (nI w) of = 0) : ((w = 3 ∨ w = 10 ∨ w = 11) → ∃ k, k < 10 ∧ of = nI k) ∧ ((4 ≤ w ∧ w ≤ 9) → ∃ k, k < S.n ∧ of = nI k) := by
  refine ⟨fun q => ?_, fun q => ?_⟩
  · rw [isOf_part q] at h
    exact fp_e h
  · rw [isOf_one q.1 q.2] at h
    exact fw_e (by omega) h
theorem told_what {tv : TV} {S : SH} {of what : Int32} (h : f_within what 0 11 = 0) : toldF tv S of what = -1000 := by
  have ne : ∀ w, w < 12 → ¬ what = nI w := fun w hw z => by
    have e1 : f_within (nI w) 0 11 = 1 := fw_in (n := 12) (by omega) hw
    rw [z, e1] at h
    exact absurd h (by decide)
  unfold toldF
  rw [if_neg (show ¬ what = 0 from ne 0 (by omega)), if_neg (show ¬ what = 1 from ne 1 (by omega)), if_neg (show ¬ what = 2 from ne 2 (by omega)), if_neg (show ¬ (what = 3 ∨ what = 10 ∨ what = 11) from fun z => z.elim (ne 3 (by omega)) (fun z => z.elim (ne 10 (by omega)) (ne 11 (by omega))))]
  split
  · rfl
  · unfold twF
    rw [if_neg (show ¬ what = 4 from ne 4 (by omega)), if_neg (show ¬ what = 5 from ne 5 (by omega)), if_neg (show ¬ what = 6 from ne 6 (by omega)), if_neg (show ¬ what = 7 from ne 7 (by omega)), if_neg (show ¬ what = 8 from ne 8 (by omega)), if_neg (show ¬ what = 9 from ne 9 (by omega))]
theorem ge0_n {x : Int32} (h : 0 ≤ x) : ¬ x = -1000 := fun z => by rw [z] at h; exact absurd h (by decide)
theorem told_set {tv : TV} {S : SH} {w : Nat} {of : Int32} (hR : RI S) (hD : DI S) (hw : w < 6) (h : ¬ isOfF S (nI w) of = 0) : ¬ toldF tv S of (nI w) = -1000 := by
  obtain ⟨hn, hse, hso, hwa, hrow⟩ := hR
  obtain ⟨a3, a4⟩ := isOf_at hn h
  rcases (by omega : w = 0 ∨ w = 1 ∨ w = 2 ∨ w = 3 ∨ w = 4 ∨ w = 5) with rfl | rfl | rfl | rfl | rfl | rfl
  · exact ge0_n hD.1
  · exact ge0_n hse.1
  · exact ge0_n hwa.1
  · obtain ⟨k, hk, rfl⟩ := a3 (Or.inl rfl)
    rw [told_part (Or.inl rfl) hk]
    exact ge0_n (hso k hk).1
  · obtain ⟨k, hk, rfl⟩ := a4 ⟨by omega, by omega⟩
    rw [told_one (by omega) (by omega) hk hn]
    exact ge0_n (hrow k hk).1.1
  · obtain ⟨k, hk, rfl⟩ := a4 ⟨by omega, by omega⟩
    rw [told_one (by omega) (by omega) hk hn]
    exact ge0_n (hrow k hk).2.1.1
def laySF (S : SH) (w k : Nat) (v : Int32) : SH := if w = 0 then S.setDy v else if w = 1 then S.setSe v else if w = 2 then S.setWa v else if w = 3 then S.setSo (upd S.so k v) else if w = 4 then S.setNu (upd S.nu k v) else if w = 5 then S.setSk (upd S.sk k v) else S.setKi (upd S.ki k v)
section MODEL
variable (E : XEnv) (A : AS) (h : YQ)
set_option maxRecDepth 100000 in
theorem c_X5_isOf (what of : Int32) : XCall E 11 yX5_isOf cX5_isOf 3 (some .boolean) [.ref 0, .int what, .int of] (mW A h) (fun r σ' => r = some (.int (isOfF A.S what of)) ∧ σ' = mW A h) := by
  have p01 : f_isPart of = 0 ∨ f_isPart of = 1 := f_within_01 _ _ _
  have h01 : hasF A.S of = 0 ∨ hasF A.S of = 1 := f_within_01 _ _ _
  unfold isOfF
  refine XCall.of (by decide +kernel) (xle rfl) (xgo sX5_isOf [16, 26] 60 (xle rfl) ⟨fun q => ⟨Or.inr rfl, by rw [if_pos q], rfl⟩, fun q => ?_⟩)
  have part : (what = 3 ∨ 9 < what) → XAt E RX5 cX5_isOf 3 (some .boolean) 11 16 (fun r σ' => r = some (.int (if what < 3 then 1 else if what = 3 ∨ 9 < what then f_isPart of else hasF A.S of)) ∧ σ' = mW A h) 16 [(0, .ref 0), (1, .int what), (2, .int of)] [] (mW A h) := by
    intro z
    rw [if_neg q, if_pos z]
    refine xgo sX5_isOf [] 60 (xle rfl) ⟨fun y => ⟨Or.inl rfl, by rw [y], rfl⟩, fun y => ⟨Or.inr rfl, ?_, rfl⟩⟩
    rcases p01 with e | e
    · exact absurd e y
    · rw [e]
  have one : ¬ (what = 3 ∨ 9 < what) → XAt E RX5 cX5_isOf 3 (some .boolean) 11 16 (fun r σ' => r = some (.int (if what < 3 then 1 else if what = 3 ∨ 9 < what then f_isPart of else hasF A.S of)) ∧ σ' = mW A h) 26 [(0, .ref 0), (1, .int what), (2, .int of)] [] (mW A h) := by
    intro z
    rw [if_neg q, if_neg z]
    refine xgo sX5_isOf [] 60 (xle rfl) (XIn.same (xle rfl) (c_X5_isOne E A h of) (fun r σ' _ z => ?_))
    obtain ⟨rfl, rfl⟩ := z
    refine ⟨fun y => ⟨Or.inl rfl, by rw [y], rfl⟩, fun y => ⟨Or.inr rfl, ?_, rfl⟩⟩
    rcases h01 with e | e
    · exact absurd e y
    · rw [e]
  exact ⟨fun z => part (Or.inl z), fun z => ⟨fun y => one (fun x => x.elim z (fun x => absurd x (Int32.not_lt.mpr y))), fun y => part (Or.inr (Int32.not_le.mp y))⟩⟩
theorem row_told (S : SH) {w k : Nat} (h : 4 ≤ w) (h8 : w < 8) (tv : TV) : rowsF S (4 * k + w - 4) = twF tv S k (nI w) := by
  rcases (by omega : w = 4 ∨ w = 5 ∨ w = 6 ∨ w = 7) with rfl | rfl | rfl | rfl
  · rw [show 4 * k + 4 - 4 = 4 * k by omega, rows0]; rfl
  · rw [show 4 * k + 5 - 4 = 4 * k + 1 by omega, rows1]; rfl
  · rw [show 4 * k + 6 - 4 = 4 * k + 2 by omega, rows2]; rfl
  · rw [show 4 * k + 7 - 4 = 4 * k + 3 by omega, rows3]; rfl
theorem ix_w {k w : Nat} (hk : k < 5) (h : 4 ≤ w) (h8 : w < 8) : (4 : Int32) * nI k + nI w - 4 = nI (4 * k + w - 4) := by
  rw [ix4 k w (by omega)]
  exact pk_sub (b := 4) (by omega)
set_option maxRecDepth 100000 in
set_option maxHeartbeats 4000000 in
theorem c_X5_told (hs : SaysOk E A (tvA A A.ru) h.tx h.ts) (hR : RI A.S) (of what : Int32) : XCall E 109 yX5_told cX5_told 3 (some .int) [.ref 0, .int of, .int what] (mW A h) (YRk (o_told A of what) h) := by
  have hn := hR.1
  have ew : f_in what.toInt64 0 11 = f_within what 0 11 := f_in0 what 11 (by decide +kernel)
  unfold o_told
  refine XCall.of (by decide +kernel) (xle rfl) (xgo sX5_told [25] 60 (xle rfl) ⟨fun q => ?_, fun q => ?_⟩)
  · rw [ew] at q
    exact ⟨by rw [told_what q], h, Yk.same h, rfl⟩
  · rw [ew] at q
    obtain ⟨w, hw, rfl⟩ := fw_e (n := 12) (by omega) q
    refine XIn.same (xle rfl) (c_X5_isOf E A h (nI w) of) (fun r σ' _ z => ?_)
    obtain ⟨rfl, rfl⟩ := z
    refine ⟨fun z => ?_, fun z => ⟨by rw [told_no hw z], h, Yk.same h, rfl⟩⟩
    obtain ⟨a3, a4⟩ := isOf_at hn z
    show XAt E RX5 cX5_told 3 (some .int) 109 16 _ 25 [(0, .ref 0), (1, .int of), (2, .int (nI w))] [] (mW A h)
    have n8 : ¬ nI w = 8 → w ≠ 8 := fun y z => y (by rw [z]; rfl)
    have n9 : ¬ nI w = 9 → w ≠ 9 := fun y z => y (by rw [z]; rfl)
    have n10 : ¬ nI w = 10 → w ≠ 10 := fun y z => y (by rw [z]; rfl)
    have n0 : ¬ nI w = 0 → w ≠ 0 := fun y z => y (by rw [z]; rfl)
    have n1 : ¬ nI w = 1 → w ≠ 1 := fun y z => y (by rw [z]; rfl)
    have n2 : ¬ nI w = 2 → w ≠ 2 := fun y z => y (by rw [z]; rfl)
    have l4 : (4 : Int32) ≤ nI w ↔ 4 ≤ w := nI_leI (a := 4) (by omega) (by omega)
    have l8 : (8 : Int32) ≤ nI w ↔ 8 ≤ w := nI_leI (a := 8) (by omega) (by omega)
    have eqw : ∀ m, m < 12 → nI w = nI m → w = m := fun m hm z => (nI_eq (by omega) (by omega)).mp z
    refine xgo sX5_told [] 60 (xle rfl) ⟨fun y => ⟨fun y2 => ⟨fun y3 => ⟨fun y4 => ⟨fun y5 => ?_, fun y5 => ?_⟩, fun y4 => ?_⟩, fun y3 => ?_⟩, fun y2 => ?_⟩, fun y => ⟨fun y2 => ⟨fun y3 => ⟨fun y4 => ?_, fun y4 => ?_⟩, fun y3 => ?_⟩, fun y2 => ?_⟩⟩
    · have h11 : w = 11 := by
        have := l8.mp y2
        have := n8 y3
        have := n9 y4
        have := n10 y5
        omega
      subst h11
      obtain ⟨k, hk, rfl⟩ := a3 (Or.inr (Or.inr rfl))
      refine XIn.same (xle rfl) (c_X5_leaksOf E A h hR k hk) (fun r σ' _ z => ?_)
      obtain ⟨rfl, rfl⟩ := z
      exact ⟨by rw [told_part (Or.inr (Or.inr rfl)) hk]; rfl, h, Yk.same h, rfl⟩
    · obtain rfl : w = 10 := eqw 10 (by omega) y5
      obtain ⟨k, hk, rfl⟩ := a3 (Or.inr (Or.inl rfl))
      refine ⟨vp_in_nI (by omega) (by omega), ?_, h, Yk.same h, rfl⟩
      rw [told_part (Or.inr (Or.inl rfl)) hk, nI_clamp (by omega : k < 2147483648)]
      rfl
    · obtain rfl : w = 9 := eqw 9 (by omega) y4
      obtain ⟨k, hk, rfl⟩ := a4 ⟨by omega, by omega⟩
      refine XIn.same (xle rfl) (c_X5_pumpsOf E A h hs rfl rfl A.S hn k hk) (fun r σ' _ z => ?_)
      obtain ⟨rfl, x, rfl⟩ := z
      exact ⟨by rw [told_one (by omega) (by omega) hk hn]; rfl, h.rd x, Yk.rd h x, rfl⟩
    · obtain rfl : w = 8 := eqw 8 (by omega) y3
      obtain ⟨k, hk, rfl⟩ := a4 ⟨by omega, by omega⟩
      refine XIn.same (xle rfl) (c_X5_madeBy E A h (nI k)) (fun r σ' _ z => ?_)
      obtain ⟨rfl, rfl⟩ := z
      exact ⟨by rw [told_one (by omega) (by omega) hk hn]; rfl, h, Yk.same h, rfl⟩
    · have h4 := l4.mp y
      have h8 : w < 8 := Nat.lt_of_not_le (fun z => y2 (l8.mpr z))
      obtain ⟨k, hk, rfl⟩ := a4 ⟨by omega, by omega⟩
      have ei := ix_w (k := k) (w := w) (by omega) h4 h8
      refine ⟨by rw [ei]; exact vp_in_nI (by omega) (by omega), ?_, h, Yk.same h, rfl⟩
      rw [ei, nI_clamp (by omega : 4 * k + w - 4 < 2147483648), row_told A.S h4 h8 (tvA A A.ru), told_one h4 (by omega) hk hn]
    · have h3 : w = 3 := by
        have h4 : ¬ 4 ≤ w := fun z => y (l4.mpr z)
        have := n0 y2
        have := n1 y3
        have := n2 y4
        omega
      subst h3
      obtain ⟨k, hk, rfl⟩ := a3 (Or.inl rfl)
      refine ⟨vp_in_nI (by omega) (by omega), ?_, h, Yk.same h, rfl⟩
      rw [told_part (Or.inl rfl) hk, nI_clamp (by omega : k < 2147483648)]
      rfl
    · obtain rfl : w = 2 := eqw 2 (by omega) y4
      exact ⟨rfl, h, Yk.same h, rfl⟩
    · obtain rfl : w = 1 := eqw 1 (by omega) y3
      exact ⟨rfl, h, Yk.same h, rfl⟩
    · obtain rfl : w = 0 := eqw 0 (by omega) y2
      exact ⟨rfl, h, Yk.same h, rfl⟩
set_option maxRecDepth 100000 in
theorem c_X5_lays0 (of v : Int32) : XCall E 10 yX5_lays cX5_lays 4 none [.ref 0, .int (nI 0), .int of, .int v] (mW A h) (fun r σ' => r = none ∧ σ' = mW (A.set_S (laySF A.S 0 of.toNatClampNeg v)) h) :=
  XCall.of (by decide +kernel) (xle rfl) (xgo sX5_lays [] 100 (xle rfl) ⟨fun q => absurd q (by decide), fun _ => ⟨fun q => absurd rfl q, fun _ => ⟨fun _ => ⟨fun _ => ⟨rfl, rfl⟩, fun q => absurd q (by decide)⟩, fun q => absurd q (by decide)⟩⟩⟩)
set_option maxRecDepth 100000 in
theorem c_X5_lays1 (of v : Int32) : XCall E 10 yX5_lays cX5_lays 4 none [.ref 0, .int (nI 1), .int of, .int v] (mW A h) (fun r σ' => r = none ∧ σ' = mW (A.set_S (laySF A.S 1 of.toNatClampNeg v)) h) :=
  XCall.of (by decide +kernel) (xle rfl) (xgo sX5_lays [] 100 (xle rfl) ⟨fun q => absurd q (by decide), fun _ => ⟨fun _ => ⟨fun q => absurd rfl q, fun _ => ⟨fun _ => ⟨rfl, rfl⟩, fun q => absurd q (by decide)⟩⟩, fun q => absurd q (by decide)⟩⟩)
set_option maxRecDepth 100000 in
theorem c_X5_lays2 (of v : Int32) : XCall E 10 yX5_lays cX5_lays 4 none [.ref 0, .int (nI 2), .int of, .int v] (mW A h) (fun r σ' => r = none ∧ σ' = mW (A.set_S (laySF A.S 2 of.toNatClampNeg v)) h) :=
  XCall.of (by decide +kernel) (xle rfl) (xgo sX5_lays [] 100 (xle rfl) ⟨fun q => absurd q (by decide), fun _ => ⟨fun _ => ⟨fun _ => ⟨fun q => absurd rfl q, fun _ => ⟨rfl, rfl⟩⟩, fun q => absurd q (by decide)⟩, fun q => absurd q (by decide)⟩⟩)
set_option maxRecDepth 100000 in
set_option maxHeartbeats 4000000 in
theorem c_X5_lays (w k : Nat) (v : Int32) (hw : w < 7) (h3 : w = 3 → k < 10) (h4 : 4 ≤ w → k < 5) : XCall E 10 yX5_lays cX5_lays 4 none [.ref 0, .int (nI w), .int (nI k), .int v] (mW A h) (fun r σ' => r = none ∧ σ' = mW (A.set_S (laySF A.S w k v)) h) := by
  have c0 : k < 10 → (nI k).toNatClampNeg = k := fun z => nI_clamp (by omega)
  have ei : 4 ≤ w → (4 : Int32) * nI k + nI w - 4 = nI (4 * k + w - 4) := fun z => ix_w (h4 z) z (by omega)
  rcases (by omega : w = 0 ∨ w = 1 ∨ w = 2 ∨ w = 3 ∨ w = 4 ∨ w = 5 ∨ w = 6) with rfl | rfl | rfl | rfl | rfl | rfl | rfl
  · exact XCall.of (by decide +kernel) (xle rfl) (xgo sX5_lays [] 100 (xle rfl) ⟨fun q => absurd q (by decide), fun _ => ⟨fun q => absurd rfl q, fun _ => ⟨fun _ => ⟨fun _ => ⟨rfl, rfl⟩, fun q => absurd q (by decide)⟩, fun q => absurd q (by decide)⟩⟩⟩)
  · exact XCall.of (by decide +kernel) (xle rfl) (xgo sX5_lays [] 100 (xle rfl) ⟨fun q => absurd q (by decide), fun _ => ⟨fun _ => ⟨fun q => absurd rfl q, fun _ => ⟨fun _ => ⟨rfl, rfl⟩, fun q => absurd q (by decide)⟩⟩, fun q => absurd q (by decide)⟩⟩)
  · exact XCall.of (by decide +kernel) (xle rfl) (xgo sX5_lays [] 100 (xle rfl) ⟨fun q => absurd q (by decide), fun _ => ⟨fun _ => ⟨fun _ => ⟨fun q => absurd rfl q, fun _ => ⟨rfl, rfl⟩⟩, fun q => absurd q (by decide)⟩, fun q => absurd q (by decide)⟩⟩)
  · have hk := h3 rfl
    refine XCall.of (by decide +kernel) (xle rfl) (xgo sX5_lays [] 100 (xle rfl) ⟨fun _ => ⟨fun q => absurd rfl q, fun _ => ⟨vp_in_nI (by omega) (by omega), rfl, ?_⟩⟩, fun q => absurd (by decide) q⟩)
    rw [c0 hk]
    rfl
  · have hk := h4 (by omega)
    have e := ei (by omega)
    rw [show 4 * k + 4 - 4 = 4 * k by omega] at e
    refine XCall.of (by decide +kernel) (xle rfl) (xgo sX5_lays [] 100 (xle rfl) ⟨fun _ => ⟨fun _ => ⟨fun q => absurd q (by decide), fun _ => ⟨by rw [e]; exact vp_in_nI (by omega) (by omega), rfl, ?_⟩⟩, fun q => absurd q (by decide)⟩, fun q => absurd (by decide) q⟩)
    rw [e, nI_clamp (by omega : 4 * k < 2147483648), rowsU0]
    rfl
  · have hk := h4 (by omega)
    have e := ei (by omega)
    rw [show 4 * k + 5 - 4 = 4 * k + 1 by omega] at e
    refine XCall.of (by decide +kernel) (xle rfl) (xgo sX5_lays [] 100 (xle rfl) ⟨fun _ => ⟨fun _ => ⟨fun q => absurd q (by decide), fun _ => ⟨by rw [e]; exact vp_in_nI (by omega) (by omega), rfl, ?_⟩⟩, fun q => absurd q (by decide)⟩, fun q => absurd (by decide) q⟩)
    rw [e, nI_clamp (by omega : 4 * k + 1 < 2147483648), rowsU1]
    rfl
  · have hk := h4 (by omega)
    have e := ei (by omega)
    rw [show 4 * k + 6 - 4 = 4 * k + 2 by omega] at e
    refine XCall.of (by decide +kernel) (xle rfl) (xgo sX5_lays [] 100 (xle rfl) ⟨fun _ => ⟨fun _ => ⟨fun q => absurd q (by decide), fun _ => ⟨by rw [e]; exact vp_in_nI (by omega) (by omega), rfl, ?_⟩⟩, fun q => absurd q (by decide)⟩, fun q => absurd (by decide) q⟩)
    rw [e, nI_clamp (by omega : 4 * k + 2 < 2147483648), rowsU2]
    rfl
set_option maxRecDepth 100000 in
theorem c_X5_lays7 (k : Int32) (t : Nat) : XCall E 10 yX5_lays cX5_lays 4 none [.ref 0, .int 7, .int k, .int (nI t)] (mW A h) (fun r σ' => r = none ∧ σ' = mW (A.set_ru t) h) :=
  XCall.of (by decide +kernel) (xle rfl) (xgo sX5_lays [] 100 (xle rfl) ⟨fun _ => ⟨fun _ => ⟨fun _ => ⟨rfl, rfl⟩, fun q => absurd (by decide) q⟩, fun q => absurd q (by decide)⟩, fun q => absurd (by decide) q⟩)
theorem mostOf_e {w : Nat} (hw : w < 6) : xst 0 (nI w).toNatClampNeg = f_mostOf (nI w) := by
  rcases (by omega : w = 0 ∨ w = 1 ∨ w = 2 ∨ w = 3 ∨ w = 4 ∨ w = 5) with rfl | rfl | rfl | rfl | rfl | rfl <;> decide +kernel
theorem setF_lay {S : SH} {w k : Nat} {v : Int32} (hw : w < 6) : setF S (nI w) k v = laySF S w k v := by
  rcases (by omega : w = 0 ∨ w = 1 ∨ w = 2 ∨ w = 3 ∨ w = 4 ∨ w = 5) with rfl | rfl | rfl | rfl | rfl | rfl <;> rfl
set_option maxRecDepth 100000 in
set_option maxHeartbeats 4000000 in
theorem c_X5_set (hs : SaysOk E A (tvA A A.ru) h.tx h.ts) (hR : RI A.S) (hD : DI A.S) (what of v : Int32) : XCall E 110 yX5_set cX5_set 5 (some .int) [.ref 0, .int what, .int of, .int v] (mW A h) (YRk (o_set A what of v) h) := by
  have hn := hR.1
  have ew : f_in what.toInt64 0 5 = f_within what 0 5 := f_in0 what 5 (by decide +kernel)
  have ev : f_in v.toInt64 0 (f_mostOf what).toInt64 = f_within v 0 (f_mostOf what) := f_in0 v _ rfl
  unfold o_set
  refine XCall.of (by decide +kernel) (xle rfl) (xgo sX5_set [38] 60 (xle rfl) ⟨fun q => ?_, fun q => ?_⟩)
  · rw [ew] at q
    rw [if_pos q]
    exact ⟨rfl, h, Yk.same h, rfl⟩
  · rw [ew] at q
    rw [if_neg q]
    obtain ⟨w, hw, rfl⟩ := fw_e (n := 6) (by omega) q
    refine XIn.same (xle rfl) (c_X5_isOf E A h (nI w) of) (fun r σ' _ z => ?_)
    obtain ⟨rfl, rfl⟩ := z
    rw [mostOf_e hw]
    refine ⟨fun z => ?_, fun z => ⟨fun y => ?_, fun y => ?_⟩⟩
    · rw [told_no (by omega) z]
      by_cases y : f_within v 0 (f_mostOf (nI w)) = 0
      · rw [if_pos y]
        exact ⟨rfl, h, Yk.same h, rfl⟩
      · rw [if_neg y, if_pos rfl]
        exact ⟨rfl, h, Yk.same h, rfl⟩
    · rw [ev] at y
      rw [if_neg y, if_neg (told_set hR hD hw z)]
      obtain ⟨a3, a4⟩ := isOf_at hn z
      show XAt E RX5 cX5_set 5 (some .int) 110 16 _ 38 [(0, .ref 0), (1, .int (nI w)), (2, .int of), (3, .int v)] [] (mW A h)
      have ho : ∃ k, (3 ≤ w → of = nI k) ∧ (w = 3 → k < 10) ∧ (4 ≤ w → k < 5) := by
        rcases (by omega : w < 3 ∨ w = 3 ∨ 4 ≤ w) with q1 | q1 | q1
        · exact ⟨0, fun _ => by omega, fun _ => by omega, fun _ => by omega⟩
        · obtain ⟨k, hk, e⟩ := a3 (Or.inl q1)
          exact ⟨k, fun _ => e, fun _ => hk, fun _ => by omega⟩
        · obtain ⟨k, hk, e⟩ := a4 ⟨q1, by omega⟩
          exact ⟨k, fun _ => e, fun _ => by omega, fun _ => by omega⟩
      obtain ⟨k, o1, o2, o3⟩ := ho
      have hl : ∀ h2, XCall E 10 yX5_lays cX5_lays 4 none [.ref 0, .int (nI w), .int of, .int v] (mW A h2) (fun r σ' => r = none ∧ σ' = mW (A.set_S (setF A.S (nI w) of.toNatClampNeg v)) h2) := by
        intro h2
        rw [setF_lay hw]
        rcases (by omega : w < 3 ∨ 3 ≤ w) with q1 | q1
        · rcases (by omega : w = 0 ∨ w = 1 ∨ w = 2) with rfl | rfl | rfl
          · exact c_X5_lays0 E A h2 of v
          · exact c_X5_lays1 E A h2 of v
          · exact c_X5_lays2 E A h2 of v
        · rw [o1 q1, nI_clamp (by
            have := o2
            have := o3
            rcases (by omega : w = 3 ∨ 4 ≤ w) with z | z
            · have := o2 z; omega
            · have := o3 z; omega : k < 2147483648)]
          exact c_X5_lays E A h2 w k v (by omega) o2 o3
      refine xgo sX5_set [] 60 (xle rfl) (XIn.same (xle rfl) (c_X5_told E A h hs hR of (nI w)) (fun r σ' _ z => ?_))
      obtain ⟨rfl, h2, hy, rfl⟩ := z
      refine XIn.same (xle rfl) (hl h2) (fun r σ' _ z => ?_)
      obtain ⟨rfl, rfl⟩ := z
      exact ⟨rfl, h2, hy, rfl⟩
    · rw [ev] at y
      rw [if_pos y]
      exact ⟨rfl, h, Yk.same h, rfl⟩
set_option maxRecDepth 100000 in
set_option maxHeartbeats 4000000 in
theorem c_X5_asks (hs : SaysOk E A (tvA A A.ru) h.tx h.ts) (hR : RI A.S) (one part what : Int32) : XCall E 110 yX5_asks cX5_asks 4 (some .int) [.ref 0, .int one, .int part, .int what] (mW A h) (YRk (o_asks A one part what) h) := by
  have hn := hR.1
  have ew : f_in what.toInt64 0 1 = f_within what 0 1 := f_in0 what 1 (by decide +kernel)
  unfold o_asks
  refine XCall.of (by decide +kernel) (xle rfl) (xgo sX5_asks [28] 60 (xle rfl) (XIn.same (xle rfl) (c_X5_isOne E A h one) (fun r σ' _ z => ?_)))
  obtain ⟨rfl, rfl⟩ := z
  refine ⟨fun q => ?_, fun q => ⟨fun q2 => ?_, fun q2 => ⟨fun q3 => ?_, fun q3 => ?_⟩⟩⟩
  · rw [if_pos q]
    exact ⟨rfl, h, Yk.same h, rfl⟩
  · rw [if_neg q, if_pos q2]
    exact ⟨rfl, h, Yk.same h, rfl⟩
  · rw [ew] at q3
    rw [if_neg q, if_neg q2, if_neg q3]
    obtain ⟨i, hi, rfl⟩ := fw_e (by omega) q
    obtain ⟨k, hk, rfl⟩ := fp_e q2
    rw [nI_clamp (by omega), nI_clamp (by omega)]
    show XAt E RX5 cX5_asks 4 (some .int) 110 16 _ 28 [(0, .ref 0), (1, .int (nI i)), (2, .int (nI k)), (3, .int what)] [] (mW A h)
    refine xgo sX5_asks [] 60 (xle rfl) ⟨fun q4 => ?_, fun q4 => ?_⟩
    · rw [if_neg q4]
      refine XIn.same (xle rfl) (c_X5_mendsOf E A h hs rfl rfl A.S hn i k hi hk) (fun r σ' _ z => ?_)
      obtain ⟨rfl, x, rfl⟩ := z
      exact ⟨rfl, h.rd x, Yk.rd h x, rfl⟩
    · rw [if_pos q4]
      refine XIn.same (xle rfl) (c_X5_makesOf E A h hs rfl rfl A.S hn i k hi hk (hR.2.2.2.2 i hi).1) (fun r σ' _ z => ?_)
      obtain ⟨rfl, x, rfl⟩ := z
      exact ⟨rfl, h.rd x, Yk.rd h x, rfl⟩
  · rw [ew] at q3
    rw [if_neg q, if_neg q2, if_pos q3]
    exact ⟨rfl, h, Yk.same h, rfl⟩
set_option maxRecDepth 100000 in
set_option maxHeartbeats 4000000 in
theorem c_X5_built {tv : TV} {tx ts : F32} (hs : SaysOk E A tv tx ts) (htx : h.tx = tx) (hts : h.ts = ts) (S : SH) (hn : S.n ≤ 5) (i k : Nat) (hi : i < S.n) (hk : k < 10) (hu : 0 ≤ S.nu i ∧ S.nu i ≤ 9) : XCall E 102 yX5_built cX5_built 4 (some .int) [.ref 0, .int (nI i), .int (nI k)] (mW (A.set_S S) h) (fun r σ' => r = some (.int (makesF tv S i k)) ∧ ∃ x, σ' = mW (A.set_S (buildF tv S i k)) (h.rd x)) := by
  have hc : (nI k).toNatClampNeg = k := nI_clamp (by omega)
  refine XCall.of (by decide +kernel) (xle rfl) (xgo sX5_built [] 60 (xle rfl) (XIn.same (xle rfl) (c_X5_makesOf E A h hs htx hts S hn i k hi hk hu) (fun r σ' _ z => ?_)))
  obtain ⟨rfl, x, rfl⟩ := z
  refine ⟨vp_in_nI (by omega) (by omega), vp_in_nI (by omega) (by omega), rfl, x, ?_⟩
  rw [hc]
  rfl
set_option maxRecDepth 100000 in
set_option maxHeartbeats 4000000 in
theorem c_X5_builds (hs : SaysOk E A (tvA A A.ru) h.tx h.ts) (hR : RI A.S) (one part : Int32) : XCall E 110 yX5_builds cX5_builds 3 (some .int) [.ref 0, .int one, .int part] (mW A h) (YRk (o_builds A one part) h) := by
  have hn := hR.1
  unfold o_builds
  refine XCall.of (by decide +kernel) (xle rfl) (xgo sX5_builds [18] 60 (xle rfl) (XIn.same (xle rfl) (c_X5_isOne E A h one) (fun r σ' _ z => ?_)))
  obtain ⟨rfl, rfl⟩ := z
  refine ⟨fun q => ?_, fun q => ⟨fun q2 => ?_, fun q2 => ?_⟩⟩
  · rw [if_pos q]
    exact ⟨rfl, h, Yk.same h, rfl⟩
  · rw [if_neg q, if_neg q2]
    obtain ⟨i, hi, rfl⟩ := fw_e (by omega) q
    obtain ⟨k, hk, rfl⟩ := fp_e q2
    rw [nI_clamp (by omega), nI_clamp (by omega)]
    show XAt E RX5 cX5_builds 3 (some .int) 110 16 _ 18 [(0, .ref 0), (1, .int (nI i)), (2, .int (nI k))] [] (mW A h)
    refine xgo sX5_builds [] 60 (xle rfl) (XIn.same (xle rfl) (c_X5_isAt E A h i (by omega) 0) (fun r σ' _ z => ?_))
    obtain ⟨rfl, rfl⟩ := z
    by_cases q3 : A.S.pl i = 0
    · rw [if_pos q3, if_pos q3]
      refine ⟨fun z => absurd z (by decide), fun _ => XIn.same (xle rfl) (c_X5_built E A h hs rfl rfl A.S hn i k hi hk (hR.2.2.2.2 i hi).1) (fun r σ' _ z => ?_)⟩
      obtain ⟨rfl, x, rfl⟩ := z
      refine ⟨?_, h.rd x, Yk.rd h x, rfl⟩
      show _ = some (Value.int (upd A.S.so k (makesF (tvA A A.ru) A.S i k) k))
      rw [pk_us]
    · rw [if_neg q3, if_neg q3]
      exact ⟨fun _ => ⟨rfl, h, Yk.same h, rfl⟩, fun z => absurd rfl z⟩
  · rw [if_neg q, if_pos q2]
    exact ⟨rfl, h, Yk.same h, rfl⟩
end MODEL
