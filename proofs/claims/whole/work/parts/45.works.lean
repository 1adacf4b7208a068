-- ===== the reference: one aboard works =====
theorem ls_ok (mk so : F32) (one : Int32) : ∀ k, ((lsF mk so one k).1 = -1 ∧ (lsF mk so one k).2 = 100) ∨ ∃ m, m < k ∧ (lsF mk so one k).1 = nI m ∧ (lsF mk so one k).2 = so m
  | 0 => Or.inl ⟨rfl, rfl⟩
  | k + 1 => by
    unfold lsF
    split
    · exact Or.inr ⟨k, by omega, rfl, rfl⟩
    · rcases ls_ok mk so one k with h | ⟨m, h1, h2⟩
      · exact Or.inl h
      · exact Or.inr ⟨m, by omega, h2⟩
theorem pumps_r (tv : TV) (S : SH) (one : Nat) (hu : 0 ≤ S.nu one ∧ S.nu one ≤ 9) : ∃ b, b < 100 ∧ pumpsF tv S one = nI b := by
  unfold pumpsF
  obtain ⟨u, hu', eu⟩ := i32_of (N := 9) (by omega) hu.1 hu.2
  split
  · exact f_bound_nI _
  · split
    · exact f_bound_nI _
    · split
      · exact f_bound_nI _
      · split
        · split
          · exact ⟨0, by omega, rfl⟩
          · exact f_bound_nI _
        · split
          · exact ⟨u, by omega, eu⟩
          · exact f_bound_nI _
theorem mends_r (tv : TV) (S : SH) (one k : Nat) : ∃ b, b < 100 ∧ mendsF tv S one k = nI b := by
  unfold mendsF
  split
  · exact f_bound_nI _
  · split
    · exact f_bound_nI _
    · split
      · exact f_bound_nI _
      · split
        · split
          · exact f_bound_nI _
          · exact ⟨0, by omega, rfl⟩
        · split
          · exact ⟨0, by omega, rfl⟩
          · exact f_bound_nI _
theorem clamp_in {x N : Nat} (hN : N < 2147483648) (hx : x ≤ N) : f_clamp (nI x) 0 (nI N) = nI x := by
  unfold f_clamp
  rw [if_pos (show (0 : Int32) ≤ nI x from nI_le (a := 0) (by omega) (by omega)), if_pos (nI_le hx hN)]
theorem clamp_over {x N : Nat} (hN : x < 2147483648) (hx : N < x) : f_clamp (nI x) 0 (nI N) = nI N := by
  unfold f_clamp
  rw [if_pos (show (0 : Int32) ≤ nI x from nI_le (a := 0) (by omega) (by omega)), if_neg (fun z => by
    have := (nI_leI hN (by omega)).mp z
    omega)]
theorem clamp_sub {a b N : Nat} (ha : a ≤ N) (hN : N < 1073741824) (hb : b < 1073741824) : f_clamp (nI a - nI b) 0 (nI N) = f_max 0 (nI a - nI b) := by
  rw [f_max_sub (by omega) hb]
  rcases Nat.lt_or_ge a b with q | q
  · unfold f_clamp
    rw [if_neg (fun z => Int32.lt_irrefl (Int32.lt_of_lt_of_le (pk_sneg hb q) z)), show a - b = 0 by omega]
    rfl
  · rw [pk_sub q]
    exact clamp_in (by omega) (by omega)
theorem clamp_min {x N : Nat} (hx : x < 1073741824) (hN : N < 1073741824) : f_clamp (nI x) 0 (nI N) = f_min (nI N) (nI x) := by
  unfold f_min
  rcases Nat.lt_or_ge x N with q | q
  · rw [clamp_in (by omega) (by omega), if_pos (nI_lt q (by omega))]
  · rw [if_neg (nI_nlt (by omega) (by omega))]
    rcases Nat.eq_or_lt_of_le q with e | e
    · subst e
      exact clamp_in (by omega) (Nat.le_refl _)
    · exact clamp_over (by omega) e
section MODEL
variable (E : XEnv) (A : AS) (h : YQ)
set_option maxRecDepth 100000 in
set_option maxHeartbeats 4000000 in
theorem l_X5_worst {Q : XQ} (w : Int32) (hso : ∀ k, k < 10 → A.S.so k ≤ 99) (ht : XAt E RX5 cX5_works 4 none 102 16 Q 72 [(0, .ref 0), (1, .int w), (2, .int (lsF A.S.ma A.S.so w 10).1), (3, .int (nI 10))] [] (mW A h)) (j : Nat) : ∀ k, k + j = 10 → XAt E RX5 cX5_works 4 none 102 16 Q 24 [(0, .ref 0), (1, .int w), (2, .int (lsF A.S.ma A.S.so w k).1), (3, .int (nI k))] [] (mW A h) := by
  induction j with
  | zero =>
    intro k hk
    obtain rfl : k = 10 := by omega
    exact xgo sX5_works [24, 72] 60 (xle rfl) ⟨fun _ => ht, fun h => absurd (nI_le (a := 10) (b := 10) (Nat.le_refl _) (by omega)) h⟩
  | succ j IH =>
    intro k hk
    have ih := IH (k + 1) (by omega)
    have hc : (nI k).toNatClampNeg = k := nI_clamp (by omega)
    have hm : ¬ (lsF A.S.ma A.S.so w k).1 = -1 → ∃ m, m < k ∧ (lsF A.S.ma A.S.so w k).1 = nI m ∧ (lsF A.S.ma A.S.so w k).2 = A.S.so m := fun z => by
      rcases ls_ok A.S.ma A.S.so w k with q | q
      · exact absurd q.1 z
      · exact q
    refine xgo sX5_works [24, 72] 60 (xle rfl) ⟨fun h => absurd h (nI_ge (b := 10) (by omega) (by omega)), fun _ => ⟨vp_in_nI (by omega) (by omega), fun q => ?_, fun q => ⟨fun q2 => ?_, fun q2 => ⟨vp_in_nI (by omega) (by omega), ?_, fun q3 => ?_, fun q3 => ?_⟩⟩⟩⟩
    · rw [hc] at q
      rw [nI_succ, lsF_n (fun z => q z.1)] at ih
      exact ih
    · rw [hc] at q
      have e : (lsF A.S.ma A.S.so w k).2 = 100 := by
        rcases ls_ok A.S.ma A.S.so w k with y | ⟨m, hmk, y, _⟩
        · exact y.2
        · exact absurd (y.symm.trans q2) (nI_m1 (by omega))
      rw [nI_succ, lsF_y ⟨q, by rw [e]; exact Int32.lt_of_le_of_lt (hso k (by omega)) (by decide)⟩] at ih
      exact ih
    · obtain ⟨m, hmk, y, _⟩ := hm q2
      rw [y]
      exact vp_in_nI (by omega) (by omega)
    · obtain ⟨m, hmk, y, y2⟩ := hm q2
      rw [hc, y, nI_clamp (by omega : m < 2147483648)] at q3
      rw [nI_succ, lsF_n (fun z => by rw [y2] at z; exact absurd z.2 (Int32.not_lt.mpr q3))] at ih
      exact ih
    · obtain ⟨m, hmk, y, y2⟩ := hm q2
      rw [hc, y, nI_clamp (by omega : m < 2147483648)] at q3
      rw [hc] at q
      rw [nI_succ, lsF_y ⟨q, by rw [y2]; exact Int32.not_le.mp q3⟩] at ih
      exact ih
set_option maxRecDepth 100000 in
set_option maxHeartbeats 4000000 in
theorem c_X5_works {tv : TV} {tx ts : F32} (hs : SaysOk E A tv tx ts) (htx : h.tx = tx) (hts : h.ts = ts) (S : SH) (hR : RI S) (one : Nat) (h1 : one < S.n) : XCall E 102 yX5_works cX5_works 4 none [.ref 0, .int (nI one)] (mW (A.set_S S) h) (fun r σ' => r = none ∧ ∃ x, σ' = mW (A.set_S (workF tv S one)) (h.rd x)) := by
  obtain ⟨hn, _, hso, hwa, hrow⟩ := hR
  obtain ⟨b, hb, eb⟩ := pumps_r tv S one (hrow one h1).1
  obtain ⟨w, hw, ew⟩ := i32_of (N := 100) (by omega) hwa.1 hwa.2
  refine XCall.of (by decide +kernel) (xle rfl) (xgo sX5_works [24, 72] 100 (xle rfl) (XIn.same (xle rfl) (c_X5_pumpsOf E A h hs htx hts S hn one h1) (fun r σ' _ q => ?_)))
  obtain ⟨rfl, x, rfl⟩ := q
  have ec : f_clamp (S.wa - pumpsF tv S one) 0 100 = f_max 0 (S.wa - pumpsF tv S one) := by
    rw [eb, ew]
    exact clamp_sub (N := 100) hw (by omega) (by omega)
  have t := l_X5_worst E (A.set_S (S.setWa (f_max 0 (S.wa - pumpsF tv S one)))) (h.rd x) (Q := fun r σ' => r = none ∧ ∃ x, σ' = mW (A.set_S (workF tv S one)) (h.rd x)) (nI one) (fun k hk => (hso k hk).2) ?_ 10 0 rfl
  · rw [← ec] at t
    exact t
  · rcases ls_ok S.ma S.so (nI one) 10 with ⟨y, _⟩ | ⟨m, hm, y, _⟩
    · refine xgo sX5_works [] 100 (xle rfl) ⟨fun _ => ⟨rfl, x, ?_⟩, fun q => absurd y q⟩
      unfold workF
      rw [if_pos y]
    · have y' : (lsF (A.set_S (S.setWa (f_max 0 (S.wa - pumpsF tv S one)))).S.ma (A.set_S (S.setWa (f_max 0 (S.wa - pumpsF tv S one)))).S.so (nI one) 10).1 = nI m := y
      have hc : (nI m).toNatClampNeg = m := nI_clamp (by omega)
      obtain ⟨g, hg, eg⟩ := mends_r tv (S.setWa (f_max 0 (S.wa - pumpsF tv S one))) one m
      obtain ⟨s, hs', es⟩ := i32_of (N := 99) (by omega) (hso m hm).1 (hso m hm).2
      have el : f_clamp (S.so m + mendsF tv (S.setWa (f_max 0 (S.wa - pumpsF tv S one))) one m) 0 99 = f_min 99 (S.so m + mendsF tv (S.setWa (f_max 0 (S.wa - pumpsF tv S one))) one m) := by
        rw [eg, es, nI_add]
        exact clamp_min (N := 99) (by omega) (by omega)
      rw [y']
      refine xgo sX5_works [] 100 (xle rfl) ⟨fun q => absurd q (nI_m1 (by omega)), fun _ => ⟨vp_in_nI (by omega) (by omega), XIn.same (xle rfl) (c_X5_mendsOf E A (h.rd x) hs htx hts (S.setWa (f_max 0 (S.wa - pumpsF tv S one))) hn one m h1 hm) (fun r σ' _ q => ?_)⟩⟩
      obtain ⟨rfl, x', rfl⟩ := q
      refine ⟨vp_in_nI (by omega) (by omega), rfl, x', ?_⟩
      rw [hc]
      unfold workF
      rw [if_neg (show ¬ (lsF S.ma S.so (nI one) 10).1 = -1 by rw [y]; exact nI_m1 (by omega)), y, hc, ← el]
      rfl
theorem RI_work {tv : TV} {S : SH} (hR : RI S) (one : Nat) (h1 : one < S.n) : RI (workF tv S one) := by
  obtain ⟨hn, hse, hso, hwa, hrow⟩ := hR
  obtain ⟨b, hb, eb⟩ := pumps_r tv S one (hrow one h1).1
  obtain ⟨w, hw, ew⟩ := i32_of (N := 100) (by omega) hwa.1 hwa.2
  have ha : 0 ≤ f_max 0 (S.wa - pumpsF tv S one) ∧ f_max 0 (S.wa - pumpsF tv S one) ≤ 100 := by
    rw [eb, ew, f_max_sub (by omega) (by omega)]
    exact ⟨nI_le (a := 0) (by omega) (by omega), nI_le (b := 100) (by omega) (by omega)⟩
  unfold workF
  split
  · exact ⟨hn, hse, hso, ha, hrow⟩
  · refine ⟨hn, hse, fun k hk => ?_, ha, hrow⟩
    rcases ls_ok S.ma S.so (nI one) 10 with ⟨y, _⟩ | ⟨m, hm, y, _⟩
    · contradiction
    · have hc : (nI m).toNatClampNeg = m := nI_clamp (by omega)
      obtain ⟨g, hg, eg⟩ := mends_r tv (S.setWa (f_max 0 (S.wa - pumpsF tv S one))) one m
      obtain ⟨s, hs', es⟩ := i32_of (N := 99) (by omega) (hso m hm).1 (hso m hm).2
      show 0 ≤ upd S.so _ _ k ∧ upd S.so _ _ k ≤ 99
      rw [y, hc, eg, es, nI_add]
      unfold upd
      by_cases q : k = m
      · rw [if_pos q]
        unfold f_min
        split
        · rename_i z
          exact ⟨nI_le (a := 0) (by omega) (by omega), Int32.le_of_lt z⟩
        · exact ⟨by decide, by decide⟩
      · rw [if_neg q]
        exact hso k hk
end MODEL
