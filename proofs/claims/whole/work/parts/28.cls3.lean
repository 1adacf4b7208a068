section CLS
variable (E : XEnv) (A : AS) (g : GQ)
set_option maxRecDepth 100000 in
set_option maxHeartbeats 4000000 in
theorem c_X4_builds (hC : CI A) (one part : Int32) : XCall E 20 yX4_builds cX4_builds 3 (some .int) [.ref 0, .int one, .int part] (gW A g) (XR (o_builds A one part)) := by
  have hr := hC.ru6
  have h5 := hC.1
  unfold o_builds hasF
  refine XCall.of (by decide +kernel) (xle rfl) (xgo sX4_builds [] 100 (xle rfl) (gS0 A g hr (xle rfl) rfl (c_X2_has E A.S (g.nm 0) (A.tx A.ru) (g.wt A.ru) one) (fun r σ' h2 => ?_)))
  obtain ⟨rfl, rfl⟩ := h2
  refine ⟨_, _, _, rfl, fun h => ?_, fun h => ⟨fun h2 => ?_, fun h2 => ?_⟩⟩
  · rw [if_pos h]
    exact ⟨rfl, _, rfl⟩
  · rw [if_neg h, if_neg h2]
    obtain ⟨i, hi, rfl⟩ := fw_e (by omega) h
    obtain ⟨k, hk, rfl⟩ := fp_e h2
    have hi2 : (nI i).toNatClampNeg = i := nI_clamp (by omega)
    have hk2 : (nI k).toNatClampNeg = k := nI_clamp (by omega)
    refine ⟨vp_in_nI (by omega) (by omega), ?_⟩
    rw [hi2, hk2]
    refine ⟨fun h3 => ?_, fun h3 => ?_⟩
    · have h3 : A.S.pl i = 0 := h3
      rw [if_pos h3]
      refine gS0 A _ hr (xle rfl) rfl (c_X2_build E A.S _ (A.tx A.ru) _ hC.tx h5 i k hi hk) (fun r σ' h6 => ?_)
      obtain ⟨rfl, nm', wt', rfl⟩ := h6
      refine ⟨_, _, _, rfl, vp_in_nI (by omega) (by omega), ?_⟩
      rw [hk2]
      exact ⟨rfl, _, rfl⟩
    · have h3 : ¬ A.S.pl i = 0 := h3
      rw [if_neg h3]
      exact ⟨rfl, _, rfl⟩
  · rw [if_neg h, if_pos h2]
    exact ⟨rfl, _, rfl⟩
set_option maxRecDepth 100000 in
set_option maxHeartbeats 4000000 in
theorem c_X4_bound (hC : CI A) : XCall E 20 yX4_bound cX4_bound 1 (some .int) [.ref 0] (gW A g) (XR (o_bound A)) := by
  have hr := hC.ru6
  have h5 := hC.1
  refine XCall.of (by decide +kernel) (xle rfl) (xgo sX4_bound [] 100 (xle rfl) (gS0 A g hr (xle rfl) rfl (c_X2_bind E A.S (g.nm 0) (A.tx A.ru) (g.wt A.ru) h5) (fun r σ' h2 => ?_)))
  obtain ⟨rfl, rfl⟩ := h2
  refine ⟨_, _, _, rfl, gS0 (A.set_S (A.S.setPl (bindF A.S A.S.n))) _ hr (xle rfl) rfl (c_X2_who E (A.S.setPl (bindF A.S A.S.n)) _ _ _ 1 h5) (fun r σ' h2 => ?_)⟩
  obtain ⟨rfl, rfl⟩ := h2
  exact ⟨_, _, _, rfl, rfl, _, rfl⟩
set_option maxRecDepth 100000 in
set_option maxHeartbeats 4000000 in
theorem c_X4_home (hC : CI A) : XCall E 20 yX4_home cX4_home 2 (some .int) [.ref 0] (gW A g) (XR (o_home A)) := by
  have hr := hC.ru6
  have h5 := hC.1
  unfold o_home
  refine XCall.of (by decide +kernel) (xle rfl) (xgo sX4_home [] 100 (xle rfl) (gS0 A g hr (xle rfl) rfl (c_X2_isDown E A.S (g.nm 0) (A.tx A.ru) (g.wt A.ru)) (fun r σ' h2 => ?_)))
  obtain ⟨rfl, rfl⟩ := h2
  refine ⟨_, _, _, rfl, fun h => ?_, fun h => ?_⟩
  · rw [if_pos (dn_1 h)]
    refine gS0 A _ hr (xle rfl) rfl (c_X2_who E A.S _ _ _ 1 h5) (fun r σ' h2 => ?_)
    obtain ⟨rfl, rfl⟩ := h2
    refine ⟨_, _, _, rfl, gS0 A _ hr (xle rfl) rfl (c_X2_allMove E A.S _ _ _ 1 0 h5) (fun r σ' h2 => ?_)⟩
    obtain ⟨rfl, rfl⟩ := h2
    exact ⟨_, _, _, rfl, rfl, _, rfl⟩
  · rw [if_neg (dn_2 h)]
    exact ⟨rfl, _, rfl⟩
set_option maxRecDepth 100000 in
set_option maxHeartbeats 4000000 in
theorem c_X4_day (hC : CI A) : XCall E 20 yX4_day cX4_day 1 (some .int) [.ref 0] (gW A g) (XR (o_day A)) := by
  have hr := hC.ru6
  have h5 := hC.1
  unfold o_day
  refine XCall.of (by decide +kernel) (xle rfl) (xgo sX4_day [] 100 (xle rfl) ⟨fun h => ?_, fun h => ?_⟩)
  · rw [if_pos h]
    exact ⟨rfl, g, rfl⟩
  · rw [if_neg h]
    refine gS0 A g hr (xle rfl) rfl (c_X2_isDown E A.S (g.nm 0) (A.tx A.ru) (g.wt A.ru)) (fun r σ' h2 => ?_)
    obtain ⟨rfl, rfl⟩ := h2
    refine ⟨_, _, _, rfl, fun h => ?_, fun h => ?_⟩
    · rw [if_pos (dn_1 h)]
      refine gS0 A _ hr (xle rfl) rfl (c_X2_passDay E (A.tx A.ru) hC.tx A.S _ _ h5) (fun r σ' h2 => ?_)
      obtain ⟨rfl, nm', wt', rfl⟩ := h2
      exact ⟨_, _, _, rfl, rfl, _, rfl⟩
    · rw [if_neg (dn_2 h)]
      exact ⟨rfl, _, rfl⟩
theorem daysF_n (tv : TV) : ∀ (j : Nat) (S : SH), (daysF tv j S).n = S.n
  | 0, _ => rfl
  | j + 1, S => by
    rw [daysF, daysF_n tv j, dayF_n]
/-- thought becomes the ship -/
abbrev gTh (A : AS) (g : GQ) : GQ := (g.set_th A.S).set_tr A.ru
set_option maxRecDepth 100000 in
set_option maxHeartbeats 4000000 in
theorem c_X4_run (hC : CI A) (n what : Int32) : XCall E 20 yX4_run cX4_run 3 (some .int) [.ref 0, .int n, .int what] (gW A g) (XR (o_run A n what)) := by
  have hr := hC.ru6
  have h5 := hC.1
  have bad : (f_within n 0 40 = 0 ∨ (f_within what 0 2 = 0 ∧ f_isPart (what - 10) = 0)) → o_run A n what = (-2, A) := by
    intro h
    unfold o_run
    by_cases h1 : f_within n 0 40 = 0
    · rw [if_pos h1]
    · rw [if_neg h1, if_pos (h.resolve_left h1)]
  have go : ¬ f_within n 0 40 = 0 → (f_within what 0 2 = 0 → ¬ f_isPart (what - 10) = 0) → XAt E RX4 cX4_run 3 (some .int) 20 61 (XR (o_run A n what)) 32 [(0, .ref 0), (1, .int n), (2, .int what)] [] (gW A g) := by
    intro h1 h2
    have eo : o_run A n what = (runF (daysF (tvA A A.ru) n.toNatClampNeg A.S) what, A) := by
      unfold o_run
      rw [if_neg h1, if_neg (fun z => h2 z.1 z.2)]
    rw [eo]
    obtain ⟨m, hm, rfl⟩ := fw_e (n := 41) (by omega) h1
    have hmc : (nI m).toNatClampNeg = m := nI_clamp (by omega)
    rw [hmc]
    refine xgo sX4_run [] 100 (xle rfl) (XIn.same (xle rfl) (c_becomes_th E A g) (fun r σ' _ h => ?_))
    obtain ⟨rfl, rfl⟩ := h
    refine gS1 A (gTh A g) hr (xle rfl) rfl (c_X2_pass E (A.tx A.ru) hC.tx A.S _ _ h5 m (by omega)) (fun r σ' h => ?_)
    obtain ⟨rfl, nm', wt', rfl⟩ := h
    refine ⟨_, _, _, rfl, ?_⟩
    have hdn : (daysF (tvA A A.ru) m A.S).n ≤ 5 := by rw [daysF_n]; exact h5
    unfold runF
    refine ⟨fun q => ?_, fun n0 => ⟨fun q => ?_, fun n1 => ⟨fun q => ?_, fun n2 => ?_⟩⟩⟩
    · rw [if_pos q]
      exact ⟨rfl, _, rfl⟩
    · rw [if_neg n0, if_pos q]
      refine gS1 A ((gTh A g).set1 A.ru (daysF (tvA A A.ru) m A.S) nm' wt') hr (xle rfl) rfl (c_X2_who E (daysF (tvA A A.ru) m A.S) _ _ _ 2 hdn) (fun r σ' h => ?_)
      obtain ⟨rfl, rfl⟩ := h
      exact ⟨_, _, _, rfl, rfl, _, rfl⟩
    · rw [if_neg n0, if_neg n1, if_pos q]
      refine gS1 A ((gTh A g).set1 A.ru (daysF (tvA A A.ru) m A.S) nm' wt') hr (xle rfl) rfl (c_X2_allLeak E (daysF (tvA A A.ru) m A.S) _ _ _) (fun r σ' h => ?_)
      obtain ⟨rfl, rfl⟩ := h
      exact ⟨_, _, _, rfl, rfl, _, rfl⟩
    · rw [if_neg n0, if_neg n1, if_neg n2]
      have hp : ¬ f_isPart (what - 10) = 0 := by
        refine h2 ?_
        by_cases h3 : f_within what 0 2 = 0
        · exact h3
        · obtain ⟨k, hk, hk2⟩ := fw_e (n := 3) (by omega) h3
          rcases (by omega : k = 0 ∨ k = 1 ∨ k = 2) with rfl | rfl | rfl
          · exact absurd hk2 n0
          · exact absurd hk2 n1
          · exact absurd hk2 n2
      obtain ⟨k, hk, hk2⟩ := fp_e hp
      refine ⟨by rw [hk2]; exact vp_in_nI (by omega) (by omega), rfl, _, rfl⟩
  refine XCall.of (by decide +kernel) (xle rfl) (xgo sX4_run [32] 100 (xle rfl) ⟨fun h => ?_, fun h => ⟨fun h2 => ?_, fun h2 => ⟨fun h3 => ?_, fun h3 => ?_⟩⟩⟩)
  · rw [bad (Or.inl h)]
    exact ⟨rfl, g, rfl⟩
  · exact go h (fun z => absurd z h2)
  · exact go h (fun _ => h3)
  · rw [bad (Or.inr ⟨h2, h3⟩)]
    exact ⟨rfl, g, rfl⟩
set_option maxRecDepth 100000 in
set_option maxHeartbeats 4000000 in
theorem l_X4_down (hC : CI A) : ∀ (j k : Nat) (g : GQ), g.tr = A.ru → g.th.n ≤ 5 → k + j = 61 → XAt E RX4 cX4_down 2 (some .int) 20 61 (XR (dwF (tvA A A.ru) j k g.th, A)) 13 [(0, .ref 0), (1, .int (nI k))] [] (gW A g)
  | 0, k, g, ht, hn, hk => by
    obtain rfl : k = 61 := by omega
    exact xgo sX4_down [13] 100 (xle rfl) ⟨fun _ => ⟨rfl, g, rfl⟩, fun h => absurd (nI_lt (a := 60) (b := 61) (by omega) (by omega)) h⟩
  | j + 1, k, g, ht, hn, hk => by
    have hr : g.tr < 6 := by rw [ht]; exact hC.ru6
    have hT : TXok (A.tx g.tr) (eT (A.tx g.tr)) := by rw [ht]; exact hC.tx
    refine xgo sX4_down [13] 100 (xle rfl) ⟨fun h => absurd h (nI_nlt (a := 60) (b := k) (by omega) (by omega)), fun _ => gS1 A g hr (xle rfl) rfl (c_X2_isDown E g.th _ _ _) (fun r σ' h => ?_)⟩
    obtain ⟨rfl, rfl⟩ := h
    refine ⟨_, _, _, rfl, fun h => ?_, fun h => ?_⟩
    · rw [dwF, if_pos (dn_1 h)]
      refine gS1 A (g.set1 g.tr g.th (g.nm 1) (g.wt g.tr)) hr (xle rfl) rfl (c_X2_passDay E (A.tx g.tr) hT g.th _ _ hn) (fun r σ' h2 => ?_)
      obtain ⟨rfl, nm', wt', rfl⟩ := h2
      refine ⟨_, _, _, rfl, ?_⟩
      have ih := l_X4_down hC j (k + 1) ((g.set1 g.tr g.th (g.nm 1) (g.wt g.tr)).set1 g.tr (dayF (tvT (A.tx g.tr) (eT (A.tx g.tr))) g.th) nm' wt') ht (by rw [show ((g.set1 g.tr g.th (g.nm 1) (g.wt g.tr)).set1 g.tr (dayF (tvT (A.tx g.tr) (eT (A.tx g.tr))) g.th) nm' wt').th = dayF (tvT (A.tx g.tr) (eT (A.tx g.tr))) g.th from rfl, dayF_n]; exact hn) (by omega)
      rw [nI_succ, show ((g.set1 g.tr g.th (g.nm 1) (g.wt g.tr)).set1 g.tr (dayF (tvT (A.tx g.tr) (eT (A.tx g.tr))) g.th) nm' wt').th = dayF (tvT (A.tx g.tr) (eT (A.tx g.tr))) g.th from rfl] at ih
      have et : tvT (A.tx g.tr) (eT (A.tx g.tr)) = tvA A A.ru := by rw [ht]; rfl
      rw [et] at ih ⊢
      exact ih
    · rw [dwF, if_neg (dn_2 h)]
      exact ⟨rfl, _, rfl⟩
set_option maxRecDepth 100000 in
theorem c_X4_down (hC : CI A) : XCall E 20 yX4_down cX4_down 2 (some .int) [.ref 0] (gW A g) (XR (o_down A)) := by
  refine XCall.of (by decide +kernel) (xle rfl) (xgo sX4_down [13] 100 (xle rfl) (XIn.same (xle rfl) (c_becomes_th E A g) (fun r σ' _ h => ?_)))
  obtain ⟨rfl, rfl⟩ := h
  exact l_X4_down E A hC 61 0 (gTh A g) rfl hC.1 rfl
theorem wsF_y {S : SH} {k : Nat} (h : (wsF S k).2 < leakF S.se S.so k) : wsF S (k + 1) = (nI k, leakF S.se S.so k) := by rw [wsF, if_pos h]
theorem wsF_no {S : SH} {k : Nat} (h : ¬ (wsF S k).2 < leakF S.se S.so k) : wsF S (k + 1) = wsF S k := by rw [wsF, if_neg h]
set_option maxRecDepth 100000 in
set_option maxHeartbeats 4000000 in
theorem l_X4_worst (hC : CI A) : ∀ (j k : Nat) (g : GQ), k + j = 10 → XAt E RX4 cX4_worst 5 (some .int) 20 61 (XR (o_worst A)) 6 [(0, .ref 0), (1, .int (wsF A.S k).1), (2, .int (wsF A.S k).2), (3, .int (nI k))] [] (gW A g)
  | 0, k, g, hk => by
    obtain rfl : k = 10 := by omega
    exact xgo sX4_worst [6] 100 (xle rfl) ⟨fun _ => ⟨rfl, g, rfl⟩, fun h => absurd (nI_le (a := 10) (b := 10) (Nat.le_refl _) (by omega)) h⟩
  | j + 1, k, g, hk => by
    refine xgo sX4_worst [6] 100 (xle rfl) ⟨fun h => absurd h (nI_ge (b := 10) (by omega) (by omega)), fun _ => gS0 A g hC.ru6 (xle rfl) rfl (c_X2_leaks E A.S _ _ _ k (by omega)) (fun r σ' h => ?_)⟩
    obtain ⟨rfl, rfl⟩ := h
    refine ⟨_, _, _, rfl, fun h => ?_, fun h => ?_⟩
    · have ih := l_X4_worst hC j (k + 1) (g.set0 A.ru (g.nm 0) (g.wt A.ru)) (by omega)
      rw [nI_succ, wsF_no (Int32.not_lt.mpr h)] at ih
      exact XAt.app [(4, _)] ih
    · have ih := l_X4_worst hC j (k + 1) (g.set0 A.ru (g.nm 0) (g.wt A.ru)) (by omega)
      rw [nI_succ, wsF_y (Int32.not_le.mp h)] at ih
      exact XAt.app [(4, _)] ih
theorem c_X4_worst (hC : CI A) : XCall E 20 yX4_worst cX4_worst 5 (some .int) [.ref 0] (gW A g) (XR (o_worst A)) :=
  XCall.of (by decide +kernel) (xle rfl) (xgo sX4_worst [6] 100 (xle rfl) (l_X4_worst E A hC 10 0 g rfl))
end CLS
