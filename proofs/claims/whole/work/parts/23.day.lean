-- ===== a day =====
def workF (tv : TV) (S : SH) (one : Nat) : SH :=
  if (lsF S.ma S.so (nI one) 10).1 = -1 then S.setWa (f_max 0 (S.wa - pumpsF tv S one))
  else (S.setWa (f_max 0 (S.wa - pumpsF tv S one))).setSo (upd S.so (lsF S.ma S.so (nI one) 10).1.toNatClampNeg (f_min 99 (S.so (lsF S.ma S.so (nI one) 10).1.toNatClampNeg + mendsF tv (S.setWa (f_max 0 (S.wa - pumpsF tv S one))) one (lsF S.ma S.so (nI one) 10).1.toNatClampNeg)))
def wkF (tv : TV) : Nat → Nat → SH → SH
  | 0, _, S => S
  | j + 1, k, S => if S.wa < 100 then wkF tv j (k + 1) (if S.pl k = 1 then workF tv S k else S) else S
def finF (S : SH) : SH := if S.wa < 100 then S.setDy (S.dy + 1) else (S.setPl (mvF S.pl 1 2 S.n)).setDy (S.dy + 1)
def dayF (tv : TV) (S : SH) : SH := if S.wa < 100 then finF (wkF tv S.n 0 (S.setWa (f_min 100 (S.wa + alF S.se S.so 10 / 10)))) else S.setDy (S.dy + 1)
def daysF (tv : TV) : Nat → SH → SH
  | 0, S => S
  | j + 1, S => daysF tv j (dayF tv S)
theorem workF_n (tv : TV) (S : SH) (one : Nat) : (workF tv S one).n = S.n := by
  unfold workF
  split <;> rfl
theorem wkF_n (tv : TV) : ∀ (j k : Nat) (S : SH), (wkF tv j k S).n = S.n
  | 0, _, _ => rfl
  | j + 1, k, S => by
    unfold wkF
    split
    · rw [wkF_n tv j]
      split
      · exact workF_n tv S k
      · rfl
    · rfl
theorem finF_n (S : SH) : (finF S).n = S.n := by
  unfold finF
  split <;> rfl
theorem dayF_n (tv : TV) (S : SH) : (dayF tv S).n = S.n := by
  unfold dayF
  split
  · rw [finF_n, wkF_n]; rfl
  · rfl
theorem lsF_at (mk so : F32) (one : Int32) : ∀ k, (lsF mk so one k).1 = -1 ∨ ∃ m, m < k ∧ (lsF mk so one k).1 = nI m
  | 0 => Or.inl rfl
  | k + 1 => by
    unfold lsF
    split
    · exact Or.inr ⟨k, by omega, rfl⟩
    · rcases lsF_at mk so one k with h | ⟨m, h1, h2⟩
      · exact Or.inl h
      · exact Or.inr ⟨m, by omega, h2⟩
theorem nI_m1 {m : Nat} (h : m < 2147483648) : ¬ nI m = -1 := fun z => by
  have := nI_pos h
  rw [z] at this
  exact this (by decide)
section DAY
variable (E : XEnv) (T : TX)
theorem dn_0 {S : SH} {A B : Prop} (h : ¬ (if S.wa < 100 then (0 : Int32) else 1) = 0) : ¬ S.wa < 100 := fun z => h (if_pos z)
theorem dn_1 {S : SH} (h : (if S.wa < 100 then (0 : Int32) else 1) = 0) : S.wa < 100 := by
  by_cases z : S.wa < 100
  · exact z
  · rw [if_neg z] at h
    exact absurd h (by decide)
theorem dn_2 {S : SH} (h : ¬ (if S.wa < 100 then (0 : Int32) else 1) = 0) : ¬ S.wa < 100 := fun z => h (if_pos z)
set_option maxRecDepth 100000 in
set_option maxHeartbeats 4000000 in
theorem l_X2_fin (S : SH) (nm wt : F32) (lv : XL) (hn : S.n ≤ 5) : XAt E RX2 cX2_passDay 3 none 13 12 (fun r σ' => r = none ∧ ∃ nm' wt', σ' = shW (finF S) nm' T wt') 114 ((0, .ref 0) :: lv) [] (shW S nm T wt) := by
  refine XAt.sub (lv' := [(0, .ref 0)]) ?_ (fun q hq => by rw [List.mem_singleton.mp hq]; exact List.mem_cons_self)
  refine xgo sX2_passDay [30] 200 (xle rfl) (XIn.same (xle rfl) (c_X2_isDown E S nm T wt) (fun r σ' _ h => ?_))
  obtain ⟨rfl, rfl⟩ := h
  refine ⟨fun h => ?_, fun h => XIn.same (xle rfl) (c_X2_allMove E S nm T wt 1 2 hn) (fun r σ' _ h2 => ?_)⟩
  · have h := dn_1 h
    exact ⟨rfl, _, _, by rw [finF, if_pos h]; rfl⟩
  · have h := dn_2 h
    obtain ⟨rfl, rfl⟩ := h2
    exact ⟨rfl, _, _, by rw [finF, if_neg h]; rfl⟩
set_option maxRecDepth 100000 in
set_option maxHeartbeats 4000000 in
theorem l_X2_wk {e : Nat → Nat} (hT : TXok T e) : ∀ (j k : Nat) (S : SH) (nm wt : F32), S.n ≤ 5 → k + j = S.n → XAt E RX2 cX2_passDay 3 none 13 12 (fun r σ' => r = none ∧ ∃ nm' wt', σ' = shW (finF (wkF (tvT T e) j k S)) nm' T wt') 30 [(0, .ref 0), (1, .int (nI k))] [] (shW S nm T wt)
  | 0, k, S, nm, wt, hn, hk => by
    obtain rfl : k = S.n := by omega
    refine xgo sX2_passDay [30, 114] 200 (xle rfl) ⟨fun _ => l_X2_fin E T S nm wt _ hn, fun h => absurd (nI_le (a := S.n) (b := S.n) (Nat.le_refl _) (by omega)) h⟩
  | j + 1, k, S, nm, wt, hn, hk => by
    have hc : (nI k).toNatClampNeg = k := nI_clamp (by omega)
    refine xgo sX2_passDay [30, 114] 200 (xle rfl) ⟨fun h => absurd h (nI_ge (b := S.n) (by omega) (by omega)), fun _ => XIn.same (xle rfl) (c_X2_isDown E S nm T wt) (fun r σ' _ h => ?_)⟩
    obtain ⟨rfl, rfl⟩ := h
    refine ⟨fun h => ?_, fun h => ⟨vp_in_nI (by omega) (by omega), fun hp => ?_, fun hp => ?_⟩⟩
    · have h := dn_2 h
      rw [wkF, if_neg h]
      exact l_X2_fin E T S nm wt _ hn
    · have h := dn_1 h
      rw [hc] at hp
      have ih := l_X2_wk hT j (k + 1) S nm wt hn (by omega)
      rw [wkF, if_pos h, if_neg hp]
      rw [nI_succ] at ih
      exact ih
    · have h := dn_1 h
      rw [hc] at hp
      rw [wkF, if_pos h, if_pos hp]
      refine XIn.same (xle rfl) (c_X2_pumps E S nm T wt hT hn k (by omega)) (fun r σ' _ h2 => ?_)
      obtain ⟨rfl, nm1, wt1, rfl⟩ := h2
      refine XIn.same (xle rfl) (c_X2_leastSound E (S.setWa (f_max 0 (S.wa - pumpsF (tvT T e) S k))) nm1 T wt1 (nI k)) (fun r σ' _ h2 => ?_)
      obtain ⟨rfl, rfl⟩ := h2
      refine ⟨fun h2 => ?_, fun h2 => ?_⟩
      · have ih := l_X2_wk hT j (k + 1) (workF (tvT T e) S k) nm1 wt1 (by rw [workF_n]; exact hn) (by rw [workF_n]; omega)
        rw [nI_succ] at ih
        have ew : workF (tvT T e) S k = S.setWa (f_max 0 (S.wa - pumpsF (tvT T e) S k)) := if_pos h2
        rw [ew] at ih ⊢
        exact XAt.app [(2, _)] ih
      · rcases lsF_at S.ma S.so (nI k) 10 with g | ⟨m, g1, g2⟩
        · exact absurd g h2
        · have hm : (nI m).toNatClampNeg = m := nI_clamp (by omega)
          have g2' : (lsF (S.setWa (f_max 0 (S.wa - pumpsF (tvT T e) S k))).ma (S.setWa (f_max 0 (S.wa - pumpsF (tvT T e) S k))).so (nI k) 10).1 = nI m := g2
          rw [g2'] at h2 ⊢
          refine ⟨vp_in_nI (by omega) (by omega), XIn.same (xle rfl) (c_X2_mends E (S.setWa (f_max 0 (S.wa - pumpsF (tvT T e) S k))) nm1 T wt1 hT hn k m (by show k < S.n; omega) g1) (fun r σ' _ h3 => ?_)⟩
          obtain ⟨rfl, nm2, wt2, rfl⟩ := h3
          refine ⟨vp_in_nI (by omega) (by omega), ?_⟩
          have ih := l_X2_wk hT j (k + 1) (workF (tvT T e) S k) nm2 wt2 (by rw [workF_n]; exact hn) (by rw [workF_n]; omega)
          rw [nI_succ] at ih
          have ew : workF (tvT T e) S k = (S.setWa (f_max 0 (S.wa - pumpsF (tvT T e) S k))).setSo (upd S.so m (f_min 99 (S.so m + mendsF (tvT T e) (S.setWa (f_max 0 (S.wa - pumpsF (tvT T e) S k))) k m))) := by rw [workF, g2, if_neg (nI_m1 (by omega)), hm]
          rw [ew] at ih ⊢
          rw [hm]
          exact XAt.app [(2, _)] ih
set_option maxRecDepth 100000 in
set_option maxHeartbeats 4000000 in
theorem c_X2_passDay {e : Nat → Nat} (hT : TXok T e) (S : SH) (nm wt : F32) (hn : S.n ≤ 5) : XCall E 13 yX2_passDay cX2_passDay 3 none [.ref 0] (shW S nm T wt) (fun r σ' => r = none ∧ ∃ nm' wt', σ' = shW (dayF (tvT T e) S) nm' T wt') := by
  refine XCall.of (by decide +kernel) (xle rfl) (xgo sX2_passDay [30] 200 (xle rfl) (XIn.same (xle rfl) (c_X2_isDown E S nm T wt) (fun r σ' _ h => ?_)))
  obtain ⟨rfl, rfl⟩ := h
  refine ⟨fun h => ?_, fun h => XIn.same (xle rfl) (c_X2_allLeak E S nm T wt) (fun r σ' _ h2 => ?_)⟩
  · have h := dn_2 h
    exact ⟨rfl, nm, wt, by rw [dayF, if_neg h]; rfl⟩
  · have h := dn_1 h
    obtain ⟨rfl, rfl⟩ := h2
    refine ⟨by decide, ?_⟩
    have ih := l_X2_wk E T hT S.n 0 (S.setWa (f_min 100 (S.wa + alF S.se S.so 10 / 10))) nm wt hn (Nat.zero_add _)
    rw [dayF, if_pos h]
    exact ih
set_option maxRecDepth 100000 in
theorem l_X2_pass {e : Nat → Nat} (hT : TXok T e) (n : Nat) (hN : n < 2147483648) : ∀ (j k : Nat) (S : SH) (nm wt : F32), S.n ≤ 5 → k + j = n → XAt E RX2 cX2_pass 3 none 14 12 (fun r σ' => r = none ∧ ∃ nm' wt', σ' = shW (daysF (tvT T e) j S) nm' T wt') 2 [(0, .ref 0), (1, .int (nI n)), (2, .int (nI k))] [] (shW S nm T wt)
  | 0, k, S, nm, wt, hn, hk => by
    obtain rfl : k = n := by omega
    exact xgo sX2_pass [2] 60 (xle rfl) ⟨fun _ => ⟨rfl, _, _, rfl⟩, fun h => absurd (nI_le (Nat.le_refl _) (by omega)) h⟩
  | j + 1, k, S, nm, wt, hn, hk => by
    refine xgo sX2_pass [2] 60 (xle rfl) ⟨fun h => absurd h (nI_ge (by omega) (by omega)), fun _ => XIn.same (xle rfl) (c_X2_passDay E T hT S nm wt hn) (fun r σ' _ h => ?_)⟩
    obtain ⟨rfl, nm', wt', rfl⟩ := h
    have ih := l_X2_pass hT n hN j (k + 1) (dayF (tvT T e) S) nm' wt' (by rw [dayF_n]; exact hn) (by omega)
    rw [nI_succ] at ih
    exact ih
theorem c_X2_pass {e : Nat → Nat} (hT : TXok T e) (S : SH) (nm wt : F32) (hn : S.n ≤ 5) (n : Nat) (hN : n < 2147483648) : XCall E 14 yX2_pass cX2_pass 3 none [.ref 0, .int (nI n)] (shW S nm T wt) (fun r σ' => r = none ∧ ∃ nm' wt', σ' = shW (daysF (tvT T e) n S) nm' T wt') :=
  XCall.of (by decide +kernel) (xle rfl) (xgo sX2_pass [2] 60 (xle rfl) (l_X2_pass E T hT n hN n 0 S nm wt hn (Nat.zero_add _)))
end DAY
