-- ===== the reference: a day passes =====
theorem wkF_lost (tv : TV) (S : SH) (h : ¬ S.wa < 100) : ∀ j k, wkF tv j k S = S
  | 0, _ => rfl
  | j + 1, k => by rw [wkF, if_neg h]
theorem half_0 : (List.range 100).all (fun a => nI a / 2 == nI (a / 2)) = true := by decide +kernel
theorem tenth_0 : (List.range 1001).all (fun a => nI a / 10 == nI (a / 10)) = true := by decide +kernel
theorem leak_r {S : SH} (hR : RI S) {k : Nat} (hk : k < 10) : ∃ l, l ≤ 99 ∧ leakF S.se S.so k = nI l := by
  obtain ⟨a, ha, ea⟩ := i32_of (N := 99) (by omega) hR.2.1.1 hR.2.1.2
  obtain ⟨b, hb, eb⟩ := i32_of (N := 99) (by omega) (hR.2.2.1 k hk).1 (hR.2.2.1 k hk).2
  unfold leakF
  rw [ea, eb, f_max_sub (by omega) (by omega)]
  split
  · refine ⟨(a - b) / 2, by omega, ?_⟩
    simpa using List.all_eq_true.mp half_0 (a - b) (List.mem_range.mpr (by omega))
  · exact ⟨a - b, by omega, rfl⟩
theorem all_r {S : SH} (hR : RI S) : ∀ k, k ≤ 10 → ∃ l, l ≤ 99 * k ∧ alF S.se S.so k = nI l
  | 0, _ => ⟨0, by omega, rfl⟩
  | k + 1, hk => by
    obtain ⟨l, hl, e⟩ := all_r hR k (by omega)
    obtain ⟨m, hm, e2⟩ := leak_r hR (k := k) (by omega)
    exact ⟨l + m, by omega, by rw [alF_s, e, e2, nI_add]⟩
theorem tenth_r {S : SH} (hR : RI S) : ∃ l, l ≤ 99 ∧ alF S.se S.so 10 / 10 = nI l := by
  obtain ⟨l, hl, e⟩ := all_r hR 10 (by omega)
  refine ⟨l / 10, by omega, ?_⟩
  rw [e]
  simpa using List.all_eq_true.mp tenth_0 l (List.mem_range.mpr (by omega))
theorem work_lt {tv : TV} {S : SH} (hR : RI S) (one : Nat) (h1 : one < S.n) (hw : S.wa < 100) : (workF tv S one).wa < 100 := by
  obtain ⟨hn, hse, hso, hwa, hrow⟩ := hR
  obtain ⟨b, hb, eb⟩ := pumps_r tv S one (hrow one h1).1
  obtain ⟨w, hw', ew⟩ := i32_of (N := 100) (by omega) hwa.1 hwa.2
  have hl : w < 100 := (nI_ltI (a := w) (b := 100) (by omega) (by omega)).mp (by rw [← ew]; exact hw)
  have e : f_max 0 (S.wa - pumpsF tv S one) < 100 := by
    rw [eb, ew, f_max_sub (by omega) (by omega)]
    exact nI_lt (b := 100) (by omega) (by omega)
  unfold workF
  split
  · exact e
  · exact e
section MODEL
variable (E : XEnv) (A : AS)
set_option maxRecDepth 100000 in
set_option maxHeartbeats 4000000 in
theorem l_X5_passY {tv : TV} {tx ts : F32} (hs : SaysOk E A tv tx ts) (j : Nat) : ∀ (k : Nat) (T : SH) (h : YQ), h.tx = tx → h.ts = ts → RI T → T.wa < 100 → k + j = T.n → XAt E RX5 cX5_passes 3 none 103 16 (fun r σ' => r = none ∧ ∃ x, σ' = mW (A.set_S (finF (wkF tv j k T))) (h.rd x)) 48 [(0, .ref 0), (1, .int 0), (2, .int (nI k))] [] (mW (A.set_S T) h) := by
  induction j with
  | zero =>
    intro k T h htx hts hR hw hk
    obtain rfl : k = T.n := by omega
    have := hR.1
    refine xgo sX5_passes [48] 60 (xle rfl) ⟨fun _ => ⟨rfl, h.rq, ?_⟩, fun h => absurd (nI_le (a := T.n) (b := T.n) (Nat.le_refl _) (by omega)) h⟩
    show _ = mW (A.set_S (finF T)) _
    unfold finF
    rw [if_pos hw]
    rfl
  | succ j IH =>
    intro k T h htx hts hR hw hk
    have hn := hR.1
    have c1 := c_X5_isAt E (A.set_S T) h k (by omega) 1
    by_cases hp : T.pl k = 1
    · have e : wkF tv (j + 1) k T = wkF tv j (k + 1) (workF tv T k) := by rw [wkF, if_pos hw, if_pos hp]
      rw [e]
      refine xgo sX5_passes [48] 60 (xle rfl) ⟨fun h => absurd h (nI_ge (b := T.n) (by omega) (by omega)), fun _ => XIn.same (xle rfl) c1 (fun r σ' _ q => ?_)⟩
      obtain ⟨rfl, rfl⟩ := q
      rw [if_pos (show (A.set_S T).S.pl k = 1 from hp)]
      refine ⟨fun z => absurd z (by decide), fun _ => ⟨fun _ => XIn.same (xle rfl) c1 (fun r σ' _ q => ?_), fun z => absurd rfl z⟩⟩
      obtain ⟨rfl, rfl⟩ := q
      rw [if_pos (show (A.set_S T).S.pl k = 1 from hp)]
      refine ⟨fun z => absurd z (by decide), fun _ => ⟨fun z => absurd rfl z, fun _ => XIn.same (xle rfl) (c_X5_works E A h hs htx hts T hR k (by omega)) (fun r σ' _ q => ?_)⟩⟩
      obtain ⟨rfl, x, rfl⟩ := q
      have ih := IH (k + 1) (workF tv T k) (h.rd x) htx hts (RI_work hR k (by omega)) (work_lt hR k (by omega) hw) (by rw [workF_n]; omega)
      rw [nI_succ] at ih
      exact ih
    · have e : wkF tv (j + 1) k T = wkF tv j (k + 1) T := by rw [wkF, if_pos hw, if_neg hp]
      rw [e]
      refine xgo sX5_passes [48] 60 (xle rfl) ⟨fun h => absurd h (nI_ge (b := T.n) (by omega) (by omega)), fun _ => XIn.same (xle rfl) c1 (fun r σ' _ q => ?_)⟩
      obtain ⟨rfl, rfl⟩ := q
      rw [if_neg (show ¬ (A.set_S T).S.pl k = 1 from hp)]
      refine ⟨fun _ => XIn.same (xle rfl) c1 (fun r σ' _ q => ?_), fun z => absurd rfl z⟩
      obtain ⟨rfl, rfl⟩ := q
      rw [if_neg (show ¬ (A.set_S T).S.pl k = 1 from hp)]
      have ih := IH (k + 1) T h htx hts hR hw (by omega)
      rw [nI_succ] at ih
      exact ⟨fun _ => ih, fun z => absurd rfl z⟩
set_option maxRecDepth 100000 in
set_option maxHeartbeats 4000000 in
theorem l_X5_passL (h : YQ) (T : SH) (hn : T.n ≤ 5) (j : Nat) : ∀ (k : Nat), k + j = T.n → XAt E RX5 cX5_passes 3 none 103 16 (fun r σ' => r = none ∧ ∃ x, σ' = mW (A.set_S ((T.setPl (mvF T.pl 1 2 T.n)).setDy (T.dy + 1))) (h.rd x)) 48 [(0, .ref 0), (1, .int 1), (2, .int (nI k))] [] (mW (A.set_S (T.setPl (mvF T.pl 1 2 k))) h) := by
  induction j with
  | zero =>
    intro k hk
    obtain rfl : k = T.n := by omega
    exact xgo sX5_passes [48] 60 (xle rfl) ⟨fun _ => ⟨rfl, h.rq, rfl⟩, fun h => absurd (nI_le (a := T.n) (b := T.n) (Nat.le_refl _) (by omega)) h⟩
  | succ j IH =>
    intro k hk
    have ih := IH (k + 1) (by omega)
    have e3 : (4 : Int32) * nI k + 3 = nI (4 * k + 3) := ix4 k 3 (by omega)
    have c3 : (nI (4 * k + 3)).toNatClampNeg = 4 * k + 3 := nI_clamp (by omega)
    have hm := mvF_k T.pl 1 2 k
    have c1 := c_X5_isAt E (A.set_S (T.setPl (mvF T.pl 1 2 k))) h k (by omega) 1
    refine xgo sX5_passes [48] 60 (xle rfl) ⟨fun h => absurd h (nI_ge (b := T.n) (by omega) (by omega)), fun _ => XIn.same (xle rfl) c1 (fun r σ' _ q => ?_)⟩
    obtain ⟨rfl, rfl⟩ := q
    by_cases hp : T.pl k = 1
    · rw [if_pos (show (A.set_S (T.setPl (mvF T.pl 1 2 k))).S.pl k = 1 from hm.trans hp)]
      refine ⟨fun z => absurd z (by decide), fun _ => ⟨fun z => absurd z (by decide), fun _ => ⟨by rw [e3]; exact vp_in_nI (by omega) (by omega), ?_⟩⟩⟩
      rw [e3, c3, rowsU3]
      refine XIn.same (xle rfl) (c_X5_isAt E (A.set_S (T.setPl (upd (mvF T.pl 1 2 k) k 2))) h k (by omega) 1) (fun r σ' _ q => ?_)
      obtain ⟨rfl, rfl⟩ := q
      rw [if_neg (show ¬ (A.set_S (T.setPl (upd (mvF T.pl 1 2 k) k 2))).S.pl k = 1 from fun z => by
        have : upd (mvF T.pl 1 2 k) k 2 k = 2 := by unfold upd; rw [if_pos rfl]
        have z : upd (mvF T.pl 1 2 k) k 2 k = 1 := z
        rw [this] at z
        exact absurd z (by decide))]
      rw [nI_succ, ← mvF_y hp] at ih
      exact ⟨fun _ => ih, fun z => absurd rfl z⟩
    · have hp' : ¬ (A.set_S (T.setPl (mvF T.pl 1 2 k))).S.pl k = 1 := fun z => hp (hm.symm.trans z)
      rw [if_neg hp']
      refine ⟨fun _ => XIn.same (xle rfl) c1 (fun r σ' _ q => ?_), fun z => absurd rfl z⟩
      obtain ⟨rfl, rfl⟩ := q
      rw [if_neg hp']
      rw [nI_succ, ← mvF_n hp] at ih
      exact ⟨fun _ => ih, fun z => absurd rfl z⟩
set_option maxRecDepth 100000 in
set_option maxHeartbeats 4000000 in
theorem c_X5_passes {tv : TV} {tx ts : F32} (hs : SaysOk E A tv tx ts) (h : YQ) (htx : h.tx = tx) (hts : h.ts = ts) (S : SH) (hR : RI S) : XCall E 103 yX5_passes cX5_passes 3 none [.ref 0] (mW (A.set_S S) h) (fun r σ' => r = none ∧ ∃ x, σ' = mW (A.set_S (dayF tv S)) (h.rd x)) := by
  have hn := hR.1
  obtain ⟨l, hl, el⟩ := tenth_r hR
  obtain ⟨w, hw, ew⟩ := i32_of (N := 100) (by omega) hR.2.2.2.1.1 hR.2.2.2.1.2
  have ec : f_clamp (S.wa + alF S.se S.so 10 / 10) 0 100 = f_min 100 (S.wa + alF S.se S.so 10 / 10) := by
    rw [el, ew, nI_add]
    exact clamp_min (N := 100) (by omega) (by omega)
  have hr : 0 ≤ f_min 100 (S.wa + alF S.se S.so 10 / 10) ∧ f_min 100 (S.wa + alF S.se S.so 10 / 10) ≤ 100 := by
    rw [el, ew, nI_add]
    unfold f_min
    split
    · rename_i z
      exact ⟨nI_le (a := 0) (by omega) (by omega), Int32.le_of_lt z⟩
    · exact ⟨by decide, by decide⟩
  refine XCall.of (by decide +kernel) (xle rfl) (xgo sX5_passes [48] 100 (xle rfl) ⟨fun q => ⟨rfl, h.rq, ?_⟩, fun q => XIn.same (xle rfl) (c_X5_leaksAll E (A.set_S S) h hR) (fun r σ' _ z => ?_)⟩)
  · unfold dayF
    rw [if_neg (Int32.not_lt.mpr q)]
    rfl
  · obtain ⟨rfl, rfl⟩ := z
    refine ⟨by decide, ?_⟩
    sorry
end MODEL
