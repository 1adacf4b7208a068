-- ===== the reference: a day passes =====
theorem wkF_lost (tv : TV) (S : SH) (h : ¬ S.wa < 100) : ∀ j k, wkF tv j k S = S
  | 0, _ => rfl
  | j + 1, k => by rw [wkF, if_neg h]
theorem half_0 : (List.range 100).all (fun a => nI a / 2 == nI (a / 2)) = true := by decide +kernel
theorem tenth_0 : (List.range 1001).all (fun a => nI a / 10 == nI (a / 10)) = true := by decide +kernel
theorem leak_r {S : SH} (hR : RI S) {k : Nat} (hk : k < 10) : ∃ l, l ≤ 99 ∧ leakF S.se S.so k = nI l := by
  obtain ⟨a, ha, ea⟩ := i32_of (N := 99) (by omega) hR.2.1.1 hR.2.1.2
  obtain ⟨b, hb, eb⟩ := i32_of (N := 99) (by omega) (hR.2.2.1 k hk).1 (hR.2.2.1 k hk).2
  unfold leakF
  rw [ea, eb, f_max_sub (by omega) (by omega)]
  split
  · refine ⟨(a - b) / 2, by omega, ?_⟩
    simpa using List.all_eq_true.mp half_0 (a - b) (List.mem_range.mpr (by omega))
  · exact ⟨a - b, by omega, rfl⟩
theorem all_r {S : SH} (hR : RI S) : ∀ k, k ≤ 10 → ∃ l, l ≤ 99 * k ∧ alF S.se S.so k = nI l
  | 0, _ => ⟨0, by omega, rfl⟩
  | k + 1, hk => by
    obtain ⟨l, hl, e⟩ := all_r hR k (by omega)
    obtain ⟨m, hm, e2⟩ := leak_r hR (k := k) (by omega)
    exact ⟨l + m, by omega, by rw [alF_s, e, e2, nI_add]⟩
theorem tenth_r {S : SH} (hR : RI S) : ∃ l, l ≤ 99 ∧ alF S.se S.so 10 / 10 = nI l := by
  obtain ⟨l, hl, e⟩ := all_r hR 10 (by omega)
  refine ⟨l / 10, by omega, ?_⟩
  rw [e]
  simpa using List.all_eq_true.mp tenth_0 l (List.mem_range.mpr (by omega))
theorem work_lt {tv : TV} {S : SH} (hR : RI S) (one : Nat) (h1 : one < S.n) (hw : S.wa < 100) : (workF tv S one).wa < 100 := by
  obtain ⟨hn, hse, hso, hwa, hrow⟩ := hR
  obtain ⟨b, hb, eb⟩ := pumps_r tv S one (hrow one h1).1
  obtain ⟨w, hw', ew⟩ := i32_of (N := 100) (by omega) hwa.1 hwa.2
  have hl : w < 100 := (nI_ltI (a := w) (b := 100) (by omega) (by omega)).mp (by rw [← ew]; exact hw)
  have e : f_max 0 (S.wa - pumpsF tv S one) < 100 := by
    rw [eb, ew, f_max_sub (by omega) (by omega)]
    exact nI_lt (b := 100) (by omega) (by omega)
  unfold workF
  split
  · exact e
  · exact e
section MODEL
variable (E : XEnv) (A : AS)
set_option maxRecDepth 100000 in
set_option maxHeartbeats 4000000 in
theorem l_X5_passY {tv : TV} {tx ts : F32} (hs : SaysOk E A tv tx ts) (j : Nat) : ∀ (k : Nat) (T : SH) (h : YQ), h.tx = tx → h.ts = ts → RI T → T.wa < 100 → k + j = T.n → XAt E RX5 cX5_passes 3 none 103 16 (fun r σ' => r = none ∧ ∃ x, σ' = mW (A.set_S (finF (wkF tv j k T))) (h.rd x)) 48 [(0, .ref 0), (1, .int 0), (2, .int (nI k))] [] (mW (A.set_S T) h) := by
  induction j with
  | zero =>
    intro k T h htx hts hR hw hk
    obtain rfl : k = T.n := by omega
    have := hR.1
    refine xgo sX5_passes [48] 60 (xle rfl) ⟨fun _ => ⟨rfl, h.rq, ?_⟩, fun h => absurd (nI_le (a := T.n) (b := T.n) (Nat.le_refl _) (by omega)) h⟩
    show _ = mW (A.set_S (finF T)) _
    unfold finF
    rw [if_pos hw]
    rfl
  | succ j IH =>
    intro k T h htx hts hR hw hk
    have hn := hR.1
    have c1 := c_X5_isAt E (A.set_S T) h k (by omega) 1
    by_cases hp : T.pl k = 1
    · have e : wkF tv (j + 1) k T = wkF tv j (k + 1) (workF tv T k) := by rw [wkF, if_pos hw, if_pos hp]
      rw [e]
      refine xgo sX5_passes [48] 60 (xle rfl) ⟨fun h => absurd h (nI_ge (b := T.n) (by omega) (by omega)), fun _ => XIn.same (xle rfl) c1 (fun r σ' _ q => ?_)⟩
      obtain ⟨rfl, rfl⟩ := q
      rw [if_pos (show (A.set_S T).S.pl k = 1 from hp)]
      refine ⟨fun z => absurd z (by decide), fun _ => ⟨fun _ => XIn.same (xle rfl) c1 (fun r σ' _ q => ?_), fun z => absurd rfl z⟩⟩
      obtain ⟨rfl, rfl⟩ := q
      rw [if_pos (show (A.set_S T).S.pl k = 1 from hp)]
      refine ⟨fun z => absurd z (by decide), fun _ => ⟨fun z => absurd rfl z, fun _ => XIn.same (xle rfl) (c_X5_works E A h hs htx hts T hR k (by omega)) (fun r σ' _ q => ?_)⟩⟩
      obtain ⟨rfl, x, rfl⟩ := q
      have ih := IH (k + 1) (workF tv T k) (h.rd x) htx hts (RI_work hR k (by omega)) (work_lt hR k (by omega) hw) (by rw [workF_n]; omega)
      rw [nI_succ] at ih
      exact ih
    · have e : wkF tv (j + 1) k T = wkF tv j (k + 1) T := by rw [wkF, if_pos hw, if_neg hp]
      rw [e]
      refine xgo sX5_passes [48] 60 (xle rfl) ⟨fun h => absurd h (nI_ge (b := T.n) (by omega) (by omega)), fun _ => XIn.same (xle rfl) c1 (fun r σ' _ q => ?_)⟩
      obtain ⟨rfl, rfl⟩ := q
      rw [if_neg (show ¬ (A.set_S T).S.pl k = 1 from hp)]
      refine ⟨fun _ => XIn.same (xle rfl) c1 (fun r σ' _ q => ?_), fun z => absurd rfl z⟩
      obtain ⟨rfl, rfl⟩ := q
      rw [if_neg (show ¬ (A.set_S T).S.pl k = 1 from hp)]
      have ih := IH (k + 1) T h htx hts hR hw (by omega)
      rw [nI_succ] at ih
      exact ⟨fun _ => ih, fun z => absurd rfl z⟩
set_option maxRecDepth 100000 in
set_option maxHeartbeats 4000000 in
theorem l_X5_passL (h : YQ) (T : SH) (hn : T.n ≤ 5) (j : Nat) : ∀ (k : Nat), k + j = T.n → XAt E RX5 cX5_passes 3 none 103 16 (fun r σ' => r = none ∧ ∃ x, σ' = mW (A.set_S ((T.setPl (mvF T.pl 1 2 T.n)).setDy (T.dy + 1))) (h.rd x)) 48 [(0, .ref 0), (1, .int 1), (2, .int (nI k))] [] (mW (A.set_S (T.setPl (mvF T.pl 1 2 k))) h) := by
  induction j with
  | zero =>
    intro k hk
    obtain rfl : k = T.n := by omega
    exact xgo sX5_passes [48] 60 (xle rfl) ⟨fun _ => ⟨rfl, h.rq, rfl⟩, fun h => absurd (nI_le (a := T.n) (b := T.n) (Nat.le_refl _) (by omega)) h⟩
  | succ j IH =>
    intro k hk
    have ih := IH (k + 1) (by omega)
    have e3 : (4 : Int32) * nI k + 3 = nI (4 * k + 3) := ix4 k 3 (by omega)
    have c3 : (nI (4 * k + 3)).toNatClampNeg = 4 * k + 3 := nI_clamp (by omega)
    have hm := mvF_k T.pl 1 2 k
    have c1 := c_X5_isAt E (A.set_S (T.setPl (mvF T.pl 1 2 k))) h k (by omega) 1
    refine xgo sX5_passes [48] 60 (xle rfl) ⟨fun h => absurd h (nI_ge (b := T.n) (by omega) (by omega)), fun _ => XIn.same (xle rfl) c1 (fun r σ' _ q => ?_)⟩
    obtain ⟨rfl, rfl⟩ := q
    by_cases hp : T.pl k = 1
    · rw [if_pos (show (A.set_S (T.setPl (mvF T.pl 1 2 k))).S.pl k = 1 from hm.trans hp)]
      refine ⟨fun z => absurd z (by decide), fun _ => ⟨fun z => absurd z (by decide), fun _ => ⟨by rw [e3]; exact vp_in_nI (by omega) (by omega), ?_⟩⟩⟩
      rw [e3, c3, rowsU3]
      refine XIn.same (xle rfl) (c_X5_isAt E (A.set_S (T.setPl (upd (mvF T.pl 1 2 k) k 2))) h k (by omega) 1) (fun r σ' _ q => ?_)
      obtain ⟨rfl, rfl⟩ := q
      rw [if_neg (show ¬ (A.set_S (T.setPl (upd (mvF T.pl 1 2 k) k 2))).S.pl k = 1 from fun z => by
        have : upd (mvF T.pl 1 2 k) k 2 k = 2 := by unfold upd; rw [if_pos rfl]
        have z : upd (mvF T.pl 1 2 k) k 2 k = 1 := z
        rw [this] at z
        exact absurd z (by decide))]
      rw [nI_succ, ← mvF_y hp] at ih
      exact ⟨fun _ => ih, fun z => absurd rfl z⟩
    · have hp' : ¬ (A.set_S (T.setPl (mvF T.pl 1 2 k))).S.pl k = 1 := fun z => hp (hm.symm.trans z)
      rw [if_neg hp']
      refine ⟨fun _ => XIn.same (xle rfl) c1 (fun r σ' _ q => ?_), fun z => absurd rfl z⟩
      obtain ⟨rfl, rfl⟩ := q
      rw [if_neg hp']
      rw [nI_succ, ← mvF_n hp] at ih
      exact ⟨fun _ => ih, fun z => absurd rfl z⟩
set_option maxRecDepth 100000 in
set_option maxHeartbeats 4000000 in
theorem c_X5_passes {tv : TV} {tx ts : F32} (hs : SaysOk E A tv tx ts) (h : YQ) (htx : h.tx = tx) (hts : h.ts = ts) (S : SH) (hR : RI S) : XCall E 103 yX5_passes cX5_passes 3 none [.ref 0] (mW (A.set_S S) h) (fun r σ' => r = none ∧ ∃ x, σ' = mW (A.set_S (dayF tv S)) (h.rd x)) := by
  have hn := hR.1
  obtain ⟨l, hl, el⟩ := tenth_r hR
  obtain ⟨w, hw, ew⟩ := i32_of (N := 100) (by omega) hR.2.2.2.1.1 hR.2.2.2.1.2
  have ec : f_clamp (S.wa + alF S.se S.so 10 / 10) 0 100 = f_min 100 (S.wa + alF S.se S.so 10 / 10) := by
    rw [el, ew, nI_add]
    exact clamp_min (N := 100) (by omega) (by omega)
  have hr : 0 ≤ f_min 100 (S.wa + alF S.se S.so 10 / 10) ∧ f_min 100 (S.wa + alF S.se S.so 10 / 10) ≤ 100 := by
    rw [el, ew, nI_add]
    unfold f_min
    split
    · rename_i z
      exact ⟨nI_le (a := 0) (by omega) (by omega), Int32.le_of_lt z⟩
    · exact ⟨by decide, by decide⟩
  refine XCall.of (by decide +kernel) (xle rfl) (xgo sX5_passes [48] 100 (xle rfl) ⟨fun q => ⟨rfl, h.rq, ?_⟩, fun q => XIn.same (xle rfl) (c_X5_leaksAll E (A.set_S S) h hR) (fun r σ' _ z => ?_)⟩)
  · unfold dayF
    rw [if_neg (show ¬ S.wa < 100 from Int32.not_lt.mpr q)]
    rfl
  · obtain ⟨rfl, rfl⟩ := z
    have hwS : S.wa < 100 := Int32.not_le.mp q
    have hr2 : 0 ≤ f_clamp (S.wa + alF S.se S.so 10 / 10) 0 100 ∧ f_clamp (S.wa + alF S.se S.so 10 / 10) 0 100 ≤ 100 := by rw [ec]; exact hr
    have ed : dayF tv S = finF (wkF tv S.n 0 (S.setWa (f_clamp (S.wa + alF S.se S.so 10 / 10) 0 100))) := by
      unfold dayF
      rw [if_pos hwS, ec]
    have hR1 : RI (S.setWa (f_clamp (S.wa + alF S.se S.so 10 / 10) 0 100)) := ⟨hR.1, hR.2.1, hR.2.2.1, hr2, hR.2.2.2.2⟩
    rw [ed]
    refine ⟨by decide, fun z => ?_, fun z => ?_⟩
    · have z : ¬ f_clamp (S.wa + alF S.se S.so 10 / 10) 0 100 = 100 := z
      exact l_X5_passY E A hs S.n 0 (S.setWa (f_clamp (S.wa + alF S.se S.so 10 / 10) 0 100)) h htx hts hR1 (Int32.lt_of_le_of_ne hr2.2 z) (Nat.zero_add _)
    · have z : f_clamp (S.wa + alF S.se S.so 10 / 10) 0 100 = 100 := z
      have hl : ¬ (S.setWa (f_clamp (S.wa + alF S.se S.so 10 / 10) 0 100)).wa < 100 := by
        show ¬ f_clamp (S.wa + alF S.se S.so 10 / 10) 0 100 < 100
        rw [z]
        decide
      have t := l_X5_passL E A h (S.setWa (f_clamp (S.wa + alF S.se S.so 10 / 10) 0 100)) hn S.n 0 (Nat.zero_add _)
      rw [mvF_0] at t
      rw [wkF_lost tv _ hl]
      unfold finF
      rw [if_neg hl]
      exact t
set_option maxRecDepth 100000 in
set_option maxHeartbeats 4000000 in
theorem c_X5_day {tv : TV} {tx ts : F32} (hs : SaysOk E A tv tx ts) (h : YQ) (htx : h.tx = tx) (hts : h.ts = ts) (S : SH) (hR : RI S) (hd : S.dy ≤ 999) : XCall E 110 yX5_day cX5_day 1 (some .int) [.ref 0] (mW (A.set_S S) h) (fun r σ' => ((999 ≤ S.dy ∨ ¬ S.wa < 100) ∧ r = some (.int (-3)) ∧ σ' = mW (A.set_S S) h) ∨ (¬ 999 ≤ S.dy ∧ S.wa < 100 ∧ r = some (.int (dayF tv S).wa) ∧ ∃ x, σ' = mW (A.set_S (dayF tv S)) (h.rd x))) := by
  refine XCall.of (by decide +kernel) (xle rfl) (xgo sX5_day [] 100 (xle rfl) ⟨fun q => Or.inl ⟨Or.inl ?_, rfl, rfl⟩, fun q => ⟨fun q2 => XIn.same (xle rfl) (c_X5_passes E A hs h htx hts S hR) (fun r σ' _ z => ?_), fun q2 => Or.inl ⟨Or.inr ?_, rfl, rfl⟩⟩⟩)
  · rw [show S.dy = 999 from q]
    exact Int32.le_refl _
  · obtain ⟨rfl, x, rfl⟩ := z
    exact Or.inr ⟨fun y => q (Int32.le_antisymm hd y), Int32.lt_of_le_of_ne hR.2.2.2.1.2 q2, rfl, x, rfl⟩
  · rw [show S.wa = 100 from q2]
    decide
end MODEL
