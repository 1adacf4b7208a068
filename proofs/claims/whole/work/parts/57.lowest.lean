-- ===== the reference: lowest terms, mean, chance =====
theorem cmp0 {x : Int64} : lg_cmp x 0 = 0 ↔ x = 0 := by
  unfold lg_cmp
  by_cases h1 : x > 0
  · rw [if_pos h1]
    exact ⟨fun h => absurd h (by decide), fun h => by rw [h] at h1; exact absurd h1 Int64.lt_irrefl⟩
  · rw [if_neg h1]
    by_cases h2 : x = 0
    · rw [if_pos h2]
      exact ⟨fun _ => h2, fun _ => rfl⟩
    · rw [if_neg h2]
      exact ⟨fun h => absurd h (by decide), fun h => absurd h h2⟩
theorem ltF_gcd {x m : Nat} (hx : x < 1000000) (hm : 0 < m) (hm2 : m < 1000000) : ∀ k, Nat.gcd x m ≤ k + 1 → k < 1000000 → ltF (nI x) (nI m) k = nI (Nat.gcd x m)
  | 0, h, _ => by
    have hg : 0 < Nat.gcd x m := Nat.gcd_pos_of_pos_right x hm
    rw [show Nat.gcd x m = 1 by omega]
    rfl
  | k + 1, h, hk => by
    have hg : 0 < Nat.gcd x m := Nat.gcd_pos_of_pos_right x hm
    have ea : nI x - nI x / nI (k + 2) * nI (k + 2) = nI (x % (k + 2)) := pk_rem (by omega) (by omega) (by omega)
    have eb : nI m - nI m / nI (k + 2) * nI (k + 2) = nI (m % (k + 2)) := pk_rem (by omega) (by omega) (by omega)
    have l1 : x % (k + 2) < k + 2 := Nat.mod_lt _ (by omega)
    have l2 : m % (k + 2) < k + 2 := Nat.mod_lt _ (by omega)
    by_cases q : x % (k + 2) = 0 ∧ m % (k + 2) = 0
    · have hd : k + 2 ∣ Nat.gcd x m := Nat.dvd_gcd (Nat.dvd_of_mod_eq_zero q.1) (Nat.dvd_of_mod_eq_zero q.2)
      have hle := Nat.le_of_dvd hg hd
      rw [ltF_y (by rw [ea, q.1]; rfl) (by rw [eb, q.2]; rfl), show Nat.gcd x m = k + 2 by omega]
    · have q' : ¬ (nI x - nI x / nI (k + 2) * nI (k + 2) = 0 ∧ nI m - nI m / nI (k + 2) * nI (k + 2) = 0) := by
        intro z
        rw [ea, eb] at z
        exact q ⟨(nI_eq (b := 0) (by omega) (by omega)).mp z.1, (nI_eq (b := 0) (by omega) (by omega)).mp z.2⟩
      rw [ltF_n q']
      refine ltF_gcd hx hm hm2 k ?_ (by omega)
      rcases Nat.lt_or_ge (Nat.gcd x m) (k + 2) with y | y
      · omega
      · have e : Nat.gcd x m = k + 2 := by omega
        refine absurd ⟨?_, ?_⟩ q
        · rw [← e]; exact Nat.mod_eq_zero_of_dvd (Nat.gcd_dvd_left x m)
        · rw [← e]; exact Nat.mod_eq_zero_of_dvd (Nat.gcd_dvd_right x m)
theorem lowF_g {x m : Nat} (hx : x < 1000000) (hm : 0 < m) (hm2 : m < 1000000) (part : Int32) : lowF (nI x) m part = if part = 0 then lN (x / Nat.gcd x m) else lN (m / Nat.gcd x m) := by
  have hg : 0 < Nat.gcd x m := Nat.gcd_pos_of_pos_right x hm
  have hle : Nat.gcd x m ≤ m := Nat.gcd_le_right x hm
  have d1 : x / Nat.gcd x m ≤ x := Nat.div_le_self _ _
  have d2 : m / Nat.gcd x m ≤ m := Nat.div_le_self _ _
  unfold lowF
  rw [ltF_gcd hx hm hm2 (m - 1) (by omega) (by omega), pk_div (by omega) hg (by omega), pk_div (by omega) hg (by omega), nI_l (by omega), nI_l (by omega)]
section LOW
variable (E : XEnv)
set_option maxRecDepth 100000 in
set_option maxHeartbeats 4000000 in
theorem l_X5_lowest (x m : Nat) (hx : x < 1000000) (hm : 0 < m) (hm2 : m < 1000000) (part : Int32) (B : Nat) : ∀ (u v : Nat) (r : XL), v ≤ B → u < 1000000 → v < 1000000 → Nat.gcd u v = Nat.gcd x m → XAt E RX5 cX5_lowest 11 (some .long) 20 0 (fun r _ => r = some (.long (lowF (nI x) m part))) 6 ([(0, .long (lN x)), (2, .long (lN m)), (4, .int part), (5, .long (lN u)), (7, .long (lN v))] ++ r) [] [] := by
  have hg : 0 < Nat.gcd x m := Nat.gcd_pos_of_pos_right x hm
  have hle : Nat.gcd x m ≤ m := Nat.gcd_le_right x hm
  have fin : ∀ (u : Nat) (w : Value), Nat.gcd u 0 = Nat.gcd x m → XAt E RX5 cX5_lowest 11 (some .long) 20 0 (fun r _ => r = some (.long (lowF (nI x) m part))) 31 [(0, .long (lN x)), (2, .long (lN m)), (4, .int part), (5, .long (lN u)), (7, w)] [] [] := by
    intro u w hu
    rw [Nat.gcd_zero_right] at hu
    have hne : ¬ lN u = 0 := fun z => by
      have := (pk_lEQ (a := u) (b := 0) (by omega) (by omega)).mp z
      omega
    refine xgo sX5_lowest [] 60 (xle rfl) ⟨fun q => ⟨hne, ?_⟩, fun q => ⟨hne, ?_⟩⟩
    · rw [lowF_g hx hm hm2, if_neg q, pk_lDiv (by omega) (by omega) (by omega), hu]
      exact rfl
    · rw [lowF_g hx hm hm2, if_pos q, pk_lDiv (by omega) (by omega) (by omega), hu]
      exact rfl
  induction B with
  | zero =>
    intro u v r hv hu hv2 hgc
    obtain rfl : v = 0 := by omega
    exact XAt.app r (xgo sX5_lowest [6, 31] 60 (xle rfl) ⟨fun _ => fin u _ hgc, fun q => absurd (cmp0.mpr rfl) q⟩)
  | succ B IH =>
    intro u v r hv hu hv2 hgc
    refine XAt.app r ?_
    by_cases h0 : v = 0
    · subst h0
      exact xgo sX5_lowest [6, 31] 60 (xle rfl) ⟨fun _ => fin u _ hgc, fun q => absurd (cmp0.mpr rfl) q⟩
    · have hne : ¬ lN v = 0 := fun z => h0 ((pk_lEQ (a := v) (b := 0) (by omega) (by omega)).mp z)
      have er : lN u - lN u / lN v * lN v = lN (u % v) := pk_lRem (by omega) (by omega) (by omega)
      have hlt : u % v < v := Nat.mod_lt _ (by omega)
      have ih := IH v (u % v) [(9, .long (lN (u % v)))] (by omega) hv2 (by omega) (by rw [← hgc, Nat.gcd_comm u v, Nat.gcd_rec v u, Nat.gcd_comm])
      rw [← er] at ih
      exact xgo sX5_lowest [6, 31] 60 (xle rfl) ⟨fun q => absurd (cmp0.mp q) hne, fun _ => ⟨hne, ih⟩⟩
theorem c_X5_lowest (x m : Nat) (hx : x < 1000000) (hm : 0 < m) (hm2 : m < 1000000) (part : Int32) : XCall E 20 yX5_lowest cX5_lowest 11 (some .long) [.long (lN x), .long (lN m), .int part] [] (fun r _ => r = some (.long (lowF (nI x) m part))) :=
  XCall.of (by decide +kernel) (xle rfl) (xgo sX5_lowest [6] 60 (xle rfl) (l_X5_lowest E x m hx hm hm2 part m x m [] (Nat.le_refl _) hx hm2 rfl))
end LOW
theorem sm_r {S : SH} (hR : RI S) : ∀ k, k ≤ 10 → ∃ s, s ≤ 99 * k ∧ smF S.so k = nI s
  | 0, _ => ⟨0, by omega, rfl⟩
  | k + 1, hk => by
    obtain ⟨s, hs, e⟩ := sm_r hR k (by omega)
    obtain ⟨b, hb, eb⟩ := i32_of (N := 99) (by omega) (hR.2.2.1 k (by omega)).1 (hR.2.2.1 k (by omega)).2
    refine ⟨s + b, by omega, ?_⟩
    show smF S.so k + S.so k = _
    rw [e, eb, nI_add]
theorem RI_wd (tv : TV) : ∀ (j : Nat) (z : Int32) {S : SH}, RI S → RI (wdF tv j z S)
  | 0, _, _, h => h
  | j + 1, z, S, h => by
    unfold wdF
    obtain ⟨m, hm, e⟩ := drawn_r (z * 1103515245 + 12345)
    refine RI_wd tv j _ (RI_day tv (h.se ?_ ?_))
    · rw [e]; exact nI_le (a := 0) (by omega) (by omega)
    · rw [e]; exact nI_le (b := 99) (by omega) (by omega)
theorem ch_r (tv : TV) (S : SH) (seed : Int32) : ∀ k, ∃ c, c ≤ k ∧ chF tv S seed k = nI c
  | 0 => ⟨0, by omega, rfl⟩
  | k + 1 => by
    obtain ⟨c, hc, e⟩ := ch_r tv S seed k
    by_cases h : (wdF tv 10 (seed + nI k) S).wa < 100
    · exact ⟨c, by omega, by rw [chF_y h, e]⟩
    · exact ⟨c + 1, by omega, by rw [chF_n h, e, nI_succ]⟩
section MODEL
variable (E : XEnv) (A : AS) (h : YQ)
set_option maxRecDepth 100000 in
set_option maxHeartbeats 4000000 in
theorem l_X5_mean (hR : RI A.S) (part : Int32) (j : Nat) : ∀ (k : Nat), k + j = 10 → XAt E RX5 cX5_mean 4 (some .long) 110 16 (YRl (o_mean A part) h) 4 [(0, .ref 0), (1, .int part), (2, .int (smF A.S.so k)), (3, .int (nI k))] [] (mW A h) := by
  have ep : f_in part.toInt64 0 1 = f_within part 0 1 := f_in0 part 1 (by decide +kernel)
  induction j with
  | zero =>
    intro k hk
    obtain rfl : k = 10 := by omega
    obtain ⟨s, hs, es⟩ := sm_r hR 10 (Nat.le_refl _)
    have el : (smF A.S.so 10).toInt64 = lN s := by rw [es]; exact nI_l (by omega)
    unfold o_mean
    refine xgo sX5_mean [4] 60 (xle rfl) ⟨fun _ => ⟨fun q => ?_, fun q => ?_⟩, fun h => absurd (nI_le (a := 10) (b := 10) (Nat.le_refl _) (by omega)) h⟩
    · rw [ep] at q
      rw [if_pos q]
      exact ⟨rfl, h, Yk.same h, rfl⟩
    · rw [ep] at q
      rw [if_neg q]
      have cl : XCall E 20 yX5_lowest cX5_lowest 11 (some .long) [.long (smF A.S.so 10).toInt64, .long (lN 10), .int part] [] (fun r _ => r = some (.long (lowF (smF A.S.so 10) 10 part))) := by
        rw [el, es]
        exact c_X5_lowest E s 10 (by omega) (by omega) (by omega) part
      refine XIn.sub [] (xle rfl) cl List.nodup_nil (xle rfl) rfl rfl (fun r σ' _ z => ?_)
      subst z
      exact ⟨rfl, h, Yk.same h, rfl⟩
  | succ j IH =>
    intro k hk
    have hc : (nI k).toNatClampNeg = k := nI_clamp (by omega)
    have ih := IH (k + 1) (by omega)
    refine xgo sX5_mean [4] 60 (xle rfl) ⟨fun h => absurd h (nI_ge (b := 10) (by omega) (by omega)), fun _ => ⟨vp_in_nI (by omega) (by omega), ?_⟩⟩
    rw [hc]
    rw [nI_succ, show smF A.S.so (k + 1) = smF A.S.so k + A.S.so k from rfl] at ih
    exact ih
theorem c_X5_mean (hR : RI A.S) (part : Int32) : XCall E 110 yX5_mean cX5_mean 4 (some .long) [.ref 0, .int part] (mW A h) (YRl (o_mean A part) h) :=
  XCall.of (by decide +kernel) (xle rfl) (xgo sX5_mean [4] 60 (xle rfl) (l_X5_mean E A h hR part 10 0 rfl))
set_option maxRecDepth 100000 in
set_option maxHeartbeats 4000000 in
theorem l_X5_chance (hs : SaysOk E A (tvA A A.ru) h.tx h.ts) (hR : RI A.S) (seed : Int32) (m : Nat) (hm1 : 1 ≤ m) (hm : m ≤ 20) (part : Int32) (j : Nat) : ∀ (k c : Nat) (h2 : YQ), k + j = m → c ≤ k → chF (tvA A A.ru) A.S seed k = nI c → Yk h h2 → XAt E RX5 cX5_chance 7 (some .long) 110 16 (YRl (lowF (chF (tvA A A.ru) A.S seed m) m part, A) h) 32 [(0, .ref 0), (1, .int seed), (2, .int (nI m)), (3, .int part), (4, .long (lN c)), (6, .int (nI k))] [] (mW A h2) := by
  induction j with
  | zero =>
    intro k c h2 hk hc hch hy
    obtain rfl : k = m := by omega
    have el : (nI k).toInt64 = lN k := nI_l (by omega)
    rw [hch]
    refine xgo sX5_chance [32] 100 (xle rfl) ⟨fun _ => ?_, fun q => absurd (nI_le (Nat.le_refl _) (by omega)) q⟩
    have cl : XCall E 20 yX5_lowest cX5_lowest 11 (some .long) [.long (lN c), .long (nI k).toInt64, .int part] [] (fun r _ => r = some (.long (lowF (nI c) k part))) := by
      rw [el]
      exact c_X5_lowest E c k (by omega) (by omega) (by omega) part
    refine XIn.sub [] (xle rfl) cl List.nodup_nil (xle rfl) rfl rfl (fun r σ' _ z => ?_)
    subst z
    exact ⟨rfl, h2, hy, rfl⟩
  | succ j IH =>
    intro k c h2 hk hc hch hy
    refine xgo sX5_chance [32] 100 (xle rfl) ⟨fun q => absurd q (nI_ge (by omega) (by omega)), fun _ => ?_⟩
    have hw := c_X5_waterDrawn E A h2 (by rw [hy.1.1, hy.1.2.1]; exact hs) hR (seed + nI k) 10 (by omega)
    have ih1 := fun (hq : (wdF (tvA A A.ru) 10 (seed + nI k) A.S).wa < 100) h3 => IH (k + 1) c h3 (by omega) (by omega) (by rw [chF_y hq, hch])
    have ih2 := fun (hq : ¬ (wdF (tvA A A.ru) 10 (seed + nI k) A.S).wa < 100) h3 => IH (k + 1) (c + 1) h3 (by omega) (by omega) (by rw [chF_n hq, hch, nI_succ])
    have hle := (RI_wd (tvA A A.ru) 10 (seed + nI k) hR).2.2.2.1.2
    obtain ⟨w, ew⟩ : ∃ w, w = (wdF (tvA A A.ru) 10 (seed + nI k) A.S).wa := ⟨_, rfl⟩
    rw [← ew] at hw ih1 ih2 hle
    refine XIn.same (xle rfl) hw (fun r σ' _ z => ?_)
    obtain ⟨rfl, h3, hy3, rfl⟩ := z
    refine ⟨fun q => ?_, fun q => ?_⟩
    · have q : ¬ w = 100 := q
      have ih := ih1 (Int32.lt_of_le_of_ne hle q) h3 (hy.trans hy3)
      rw [nI_succ, ← Int64.add_zero (lN c)] at ih
      exact ih
    · have q : w = 100 := q
      have ih := ih2 (by rw [q]; decide) h3 (hy.trans hy3)
      rw [nI_succ, ← lN_1] at ih
      exact ih
set_option maxRecDepth 100000 in
set_option maxHeartbeats 4000000 in
theorem c_X5_chance (hs : SaysOk E A (tvA A A.ru) h.tx h.ts) (hR : RI A.S) (seed m part : Int32) : XCall E 110 yX5_chance cX5_chance 7 (some .long) [.ref 0, .int seed, .int m, .int part] (mW A h) (YRl (o_chance A seed m part) h) := by
  have em : f_in m.toInt64 1 20 = f_within m 1 20 := f_in_w (a := 1) (by decide +kernel) (by decide +kernel)
  have ep : f_in part.toInt64 0 1 = f_within part 0 1 := f_in0 part 1 (by decide +kernel)
  unfold o_chance
  refine XCall.of (by decide +kernel) (xle rfl) (xgo sX5_chance [32] 100 (xle rfl) ⟨fun q => ?_, fun q => ⟨fun q2 => ?_, fun q2 => ?_⟩⟩)
  · rw [em] at q
    rw [if_pos q]
    exact ⟨rfl, h, Yk.same h, rfl⟩
  · rw [em] at q
    rw [ep] at q2
    rw [if_neg q, if_neg q2]
    obtain ⟨q3, q4⟩ := fw_y q
    obtain ⟨k, hk, rfl⟩ := nI_of (Int32.not_lt.mpr (Int32.le_trans (show (0 : Int32) ≤ 1 by decide) q3))
    have hk1 := (nI_leI (a := 1) (by omega) hk).mp q3
    have hk2 := (nI_leI (b := 20) hk (by omega)).mp q4
    rw [nI_clamp hk]
    exact l_X5_chance E A h hs hR seed k hk1 hk2 part k 0 0 h (Nat.zero_add _) (Nat.le_refl _) rfl (Yk.same h)
  · rw [em] at q
    rw [ep] at q2
    rw [if_neg q, if_pos q2]
    exact ⟨rfl, h, Yk.same h, rfl⟩
end MODEL
