-- ===== the reference: the next token, words, signs =====
section MODEL
variable (E : XEnv) (A : AS) (h : YQ) (f : F32) (n b0 : Nat)
set_option maxRecDepth 100000 in
set_option maxHeartbeats 4000000 in
theorem l_X5_blank (hH : RdH h f n b0) (Q : XQ) (tk ta : Int32) (w : Int64) (op bd fl : Int32) (j : Nat) : ∀ (q : Nat), q + j = n → (∀ p, p = zrnF zzBl f n j q → XAt E RX5 cX5_next 3 none 11 16 Q 39 [(0, .ref 0)] [] (mR A h (nI p) tk ta w op bd fl)) → XAt E RX5 cX5_next 3 none 11 16 Q 0 [(0, .ref 0)] [] (mR A h (nI q) tk ta w op bd fl) := by
  have hn := hH.2.2.1
  have e32 : ∀ i, byF f n i = 32 ↔ i < n ∧ f i = 32 := fun i => by_eq h f n b0 hH (by decide)
  have e10 : ∀ i, byF f n i = 10 ↔ i < n ∧ f i = 10 := fun i => by_eq h f n b0 hH (by decide)
  induction j with
  | zero =>
    intro q hq k
    refine xgo sX5_next [0, 39] 60 (xle rfl) (XIn.same (xle rfl) (c_X5_byteAt E A h f n b0 hH (nI q) tk ta w op bd fl q (by omega)) (fun r σ' _ z => ?_))
    obtain ⟨rfl, rfl⟩ := z
    refine ⟨fun z => ?_, fun z => XIn.same (xle rfl) (c_X5_byteAt E A h f n b0 hH (nI q) tk ta w op bd fl q (by omega)) (fun r σ' _ y => ?_)⟩
    · have := ((e32 q).mp z).1
      omega
    · obtain ⟨rfl, rfl⟩ := y
      refine ⟨fun _ => k q rfl, fun z => ?_⟩
      have := ((e10 q).mp z).1
      omega
  | succ j IH =>
    intro q hq k
    have go : zzBl (f q) = true → XAt E RX5 cX5_next 3 none 11 16 Q 0 [(0, .ref 0)] [] (mR A h (nI q + 1) tk ta w op bd fl) := by
      intro y
      have ih := IH (q + 1) (by omega) (fun p hp => k p (by rw [run_y (by omega) y]; exact hp))
      rw [nI_succ] at ih
      exact ih
    refine xgo sX5_next [0, 39] 60 (xle rfl) (XIn.same (xle rfl) (c_X5_byteAt E A h f n b0 hH (nI q) tk ta w op bd fl q (by omega)) (fun r σ' _ z => ?_))
    obtain ⟨rfl, rfl⟩ := z
    refine ⟨fun z => ?_, fun z => XIn.same (xle rfl) (c_X5_byteAt E A h f n b0 hH (nI q) tk ta w op bd fl q (by omega)) (fun r σ' _ y => ?_)⟩
    · exact go (zzBl_y.mpr (Or.inl ((e32 q).mp z).2))
    · obtain ⟨rfl, rfl⟩ := y
      have z : ¬ byF f n q = 32 := z
      refine ⟨fun y => ?_, fun y => ?_⟩
      · have y : ¬ byF f n q = 10 := y
        refine k q (run_n (fun x => ?_)).symm
        rcases zzBl_y.mp x with x | x
        · exact z ((e32 q).mpr ⟨by omega, x⟩)
        · exact y ((e10 q).mpr ⟨by omega, x⟩)
      · exact go (zzBl_y.mpr (Or.inr ((e10 q).mp y).2))
set_option maxRecDepth 100000 in
set_option maxHeartbeats 4000000 in
theorem c_X5_next (hH : RdH h f n b0) (q : Nat) (hq : q ≤ n) (tk ta : Int32) (w : Int64) (op bd fl : Int32) : XCall E 11 yX5_next cX5_next 3 none [.ref 0] (mR A h (nI q) tk ta w op bd fl) (fun r σ' => r = none ∧ ∃ he' tk' ta' w', RT f n q he' tk' ta' w' ∧ σ' = mR A h he' tk' ta' w' op bd fl) := by
  have hn := hH.2.2.1
  have h2 := hH.2.1
  have h6 := hH.2.2.2.2.2
  have lp := lp_in (f := f) hq
  refine XCall.of (by decide +kernel) (xle rfl) (l_X5_blank E A h f n b0 hH _ tk ta w op bd fl (n - q) q (by omega) (fun p hp => ?_))
  have hp : p = lpF f n q := hp
  rw [← hp] at lp
  have fin : ∀ (he' tk' ta' : Int32) (w' : Int64) (b : Int32) (r : XL), RT f n q he' tk' ta' w' → XAt E RX5 cX5_next 3 none 11 16 (fun r σ' => r = none ∧ ∃ he' tk' ta' w', RT f n q he' tk' ta' w' ∧ σ' = mR A h he' tk' ta' w' op bd fl) 321 ([(0, .ref 0), (1, .int b)] ++ r) [] (mR A h he' tk' ta' w' op bd fl) := by
    intro he' tk' ta' w' b r hr
    exact XAt.app r (xgo sX5_next [] 60 (xle rfl) ⟨rfl, he', tk', ta', w', hr, rfl⟩)
  refine xgo sX5_next [100, 160, 252, 321] 60 (xle rfl) (XIn.same (xle rfl) (c_X5_byteAt E A h f n b0 hH (nI p) tk (nI p) w op bd fl p (by omega)) (fun r σ' _ z => ?_))
  obtain ⟨rfl, rfl⟩ := z
  rcases Nat.lt_or_ge p n with hlt | hge
  · rw [by_in f n hlt]
    have hlt' : lpF f n q < n := by rw [← hp]; exact hlt
    refine ⟨fun _ => ⟨fun z => ⟨fun z2 => ?_, fun z2 => ?_⟩, fun z => ?_⟩, fun z => absurd (h6 p hlt) z⟩
    · rw [fin97] at z
      rw [fin48] at z2
      have n1 : ¬ zzLo (f (lpF f n q)) = true := by rw [← hp]; exact fun y => zzLo_y.mp y z
      have n2 : ¬ zzDi (f (lpF f n q)) = true := by rw [← hp]; exact fun y => zzDi_y.mp y z2
      have yes : ∀ c, f p = nI c → c < 100 → ¬ f_sign (f p) = 0 → XAt E RX5 cX5_next 3 none 11 16 (fun r σ' => r = none ∧ ∃ he' tk' ta' w', RT f n q he' tk' ta' w' ∧ σ' = mR A h he' tk' ta' w' op bd fl) 300 [(0, .ref 0), (1, .int (f p))] [] (mR A h (nI p) 4 (nI p) w op bd fl) := by
        intro c hc hc1 hs
        have k3 : kdF f n q = 3 := kd_3 hlt' n1 n2 (by rw [← hp]; exact hs)
        have ew : (f p).toInt64 = lN (cdF f n q) := by
          rw [cd_3 k3, ← hp, hc, nI_clamp (by omega : c < 2147483648)]
          exact nI_l (by omega)
        have t := fin (nI p + 1) 3 (nI p) (f p).toInt64 (f p) [] ⟨by rw [hp], Or.inr (Or.inr (Or.inr (Or.inr (Or.inl ⟨k3, rfl, ew, by rw [af_3 k3, ← hp, nI_succ]⟩))))⟩
        exact xgo sX5_next [321] 60 (xle rfl) t
      have sg : ∀ c, (c = 40 ∨ c = 41 ∨ c = 42 ∨ c = 43 ∨ c = 45 ∨ c = 59 ∨ c = 60 ∨ c = 61) → f p = nI c → ¬ f_sign (f p) = 0 := by
        intro c hc e
        rw [e]
        rcases hc with rfl | rfl | rfl | rfl | rfl | rfl | rfl | rfl <;> decide
      have no : ¬ f p = 40 → ¬ f p = 41 → ¬ f p = 59 → ¬ f p = 43 → ¬ f p = 45 → ¬ f p = 42 → ¬ f p = 60 → ¬ f p = 61 → RT f n q (nI p) 4 (nI p) w := by
        intro a1 a2 a3 a4 a5 a6 a7 a8
        refine ⟨by rw [hp], Or.inr (Or.inr (Or.inr (Or.inr (Or.inr ⟨kd_4 hlt' n1 n2 ?_, rfl⟩))))⟩
        rw [← hp]
        rcases Classical.em (f_sign (f p) = 0) with y | y
        · exact y
        · obtain ⟨c, hc, e⟩ := sg_lt y
          rcases hc with rfl | rfl | rfl | rfl | rfl | rfl | rfl | rfl
          · exact absurd e a1
          · exact absurd e a2
          · exact absurd e a6
          · exact absurd e a4
          · exact absurd e a5
          · exact absurd e a3
          · exact absurd e a7
          · exact absurd e a8
      refine xgo sX5_next [300, 321] 60 (xle rfl) ⟨fun y => yes 40 y (by omega) (sg 40 (by omega) y), fun a1 => ⟨fun y => yes 41 y (by omega) (sg 41 (by omega) y), fun a2 => ⟨fun y => yes 59 y (by omega) (sg 59 (by omega) y), fun a3 => ⟨fun y => yes 43 y (by omega) (sg 43 (by omega) y), fun a4 => ⟨fun y => yes 45 y (by omega) (sg 45 (by omega) y), fun a5 => ⟨fun y => yes 42 y (by omega) (sg 42 (by omega) y), fun a6 => ⟨fun y => yes 60 y (by omega) (sg 60 (by omega) y), fun a7 => ⟨fun a8 => ?_, fun y => yes 61 y (by omega) (sg 61 (by omega) y)⟩⟩⟩⟩⟩⟩⟩⟩
      exact fin (nI p) 4 (nI p) w (f p) [] (no a1 a2 a3 a4 a5 a6 a7 a8)
    · rw [fin97] at z
      rw [fin48] at z2
      have n1 : ¬ zzLo (f (lpF f n q)) = true := by rw [← hp]; exact fun y => zzLo_y.mp y z
      have n2 : zzDi (f (lpF f n q)) = true := by rw [← hp]; exact zzDi_y.mpr z2
      have k2 := kd_2 hlt' n1 n2
      refine l_X5_digs E A h f n b0 hH _ 2 (nI p) (f p) op bd fl p (n - p) 0 (by omega) (fun i hi => absurd hi (by omega)) (fun d hd => ?_)
      have hd : p + d = leF zzDi f n (lpF f n q) := by rw [← hp]; exact hd
      have hd2 : leF zzDi f n (lpF f n q) - lpF f n q = d := by rw [← hd, ← hp]; omega
      refine xgo sX5_next [321] 60 (xle rfl) ⟨fun y => ?_, fun y => ?_⟩
      · have y4 : d ≤ 4 := by
          have r := run_in zzDi f n (n - p) p (by omega)
          have : p + d ≤ n := by
            have := r.2.1
            rw [hd, ← hp]
            exact this
          exact (nI_leI (b := 4) (by omega) (by omega)).mp y
        refine fin (nI (p + d)) 2 (nI p) (lN (nvF f p d)) (f p) [(2, .int (nI d))] ⟨by rw [hp], Or.inr (Or.inr (Or.inl ⟨k2, ?_, rfl, ?_, ?_⟩))⟩
        · rw [cd_2 k2, hd2, if_neg (by omega)]
        · unfold nbF
          rw [hd2, ← hp]
        · rw [af_2 k2, ← hd]
      · have y4 : ¬ d ≤ 4 := fun z => y (nI_le (b := 4) z (by omega))
        refine fin (nI (p + d)) 4 (nI p) (lN (nvF f p d)) (f p) [(2, .int (nI d))] ⟨by rw [hp], Or.inr (Or.inr (Or.inr (Or.inl ⟨k2, ?_, rfl⟩)))⟩
        rw [cd_2 k2, hd2, if_pos (by omega)]
    · rw [fin97] at z
      have n1 : zzLo (f (lpF f n q)) = true := by rw [← hp]; exact zzLo_y.mpr z
      have k1 := kd_1 hlt' n1
      refine l_X5_lets E A h f n b0 hH _ 1 (nI p) (f p) w op bd fl (n - p) p (by omega) (fun e he => ?_)
      refine fin (nI e) 1 (nI p) w (f p) [] ⟨by rw [hp], Or.inr (Or.inl ⟨k1, rfl, ?_⟩)⟩
      rw [af_1 k1, ← hp]
      rw [he]
      rfl
  · have hpn : p = n := by omega
    rw [by_out f n hge]
    refine ⟨fun z => absurd z (by decide), fun _ => ?_⟩
    have t := fin (nI p) 0 (nI n) w (-1) [] ⟨by rw [← hp, hpn], Or.inl ⟨kd_0 (by rw [← hp]; exact hge), rfl⟩⟩
    rw [← h2] at t
    exact t
theorem cmp_e {x y : Int64} : lg_cmp x y = 0 ↔ x = y := by
  unfold lg_cmp
  by_cases h1 : x > y
  · rw [if_pos h1]
    exact ⟨fun h => absurd h (by decide), fun h => by rw [h] at h1; exact absurd h1 Int64.lt_irrefl⟩
  · rw [if_neg h1]
    by_cases h2 : x = y
    · rw [if_pos h2]
      exact ⟨fun _ => h2, fun _ => rfl⟩
    · rw [if_neg h2]
      exact ⟨fun h => absurd h (by decide), fun h => absurd h h2⟩
theorem cd_kd (f : F32) (n q : Nat) : (kdF f n q = 0 ∧ cdF f n q = 13) ∨ (kdF f n q = 1 ∧ (cdF f n q < 12 ∨ cdF f n q = 14)) ∨ (kdF f n q = 2 ∧ (cdF f n q = 12 ∨ cdF f n q = 14)) ∨ (kdF f n q = 3 ∧ (cdF f n q = 40 ∨ cdF f n q = 41 ∨ cdF f n q = 42 ∨ cdF f n q = 43 ∨ cdF f n q = 45 ∨ cdF f n q = 59 ∨ cdF f n q = 60 ∨ cdF f n q = 61)) ∨ (kdF f n q = 4 ∧ cdF f n q = 14) := by
  rcases kd_is f n q with ⟨k, a⟩ | ⟨k, a, b⟩ | ⟨k, a, b, c⟩ | ⟨k, a, b, c, d⟩ | ⟨k, a, _⟩
  · exact Or.inl ⟨k, cd_0 k⟩
  · exact Or.inr (Or.inl ⟨k, by rw [cd_1 k]; exact wc_lt _ _ _⟩)
  · refine Or.inr (Or.inr (Or.inl ⟨k, ?_⟩))
    rw [cd_2 k]
    split
    · exact Or.inr rfl
    · exact Or.inl rfl
  · refine Or.inr (Or.inr (Or.inr (Or.inl ⟨k, ?_⟩)))
    obtain ⟨c, hc, e⟩ := sg_lt d
    rw [cd_3 k, e, nI_clamp (by omega : c < 2147483648)]
    exact hc
  · exact Or.inr (Or.inr (Or.inr (Or.inr ⟨k, cd_4 k⟩)))
def isSg (c : Nat) : Prop := c = 40 ∨ c = 41 ∨ c = 42 ∨ c = 43 ∨ c = 45 ∨ c = 59 ∨ c = 60 ∨ c = 61
set_option maxRecDepth 100000 in
theorem c_X5_isSign {q : Nat} {he tk ta : Int32} {w : Int64} (hT : RT f n q he tk ta w) (op fl : Int32) (c : Nat) (hc : isSg c) : XCall E 10 yX5_isSign cX5_isSign 2 (some .boolean) [.ref 0, .int (nI c)] (mR A h he tk ta w op 0 fl) (fun r σ' => ∃ v, r = some (.int v) ∧ (¬ v = 0 ↔ cdF f n q = c) ∧ σ' = mR A h he tk ta w op 0 fl) := by
  have hc61 : 40 ≤ c ∧ c ≤ 61 := by
    unfold isSg at hc
    omega
  have no : ¬ kdF f n q = 3 → ¬ cdF f n q = c := by
    intro k
    rcases cd_kd f n q with ⟨_, y⟩ | ⟨_, y⟩ | ⟨_, y⟩ | ⟨y, _⟩ | ⟨_, y⟩
    · omega
    · omega
    · omega
    · exact absurd y k
    · omega
  refine XCall.of (by decide +kernel) (xle rfl) (xgo sX5_isSign [] 60 (xle rfl) ⟨fun z => absurd rfl z, fun _ => ⟨fun z => ⟨Or.inl rfl, 0, rfl, ⟨fun y => absurd rfl y, fun y => ?_⟩, rfl⟩, fun z => ⟨fun z2 => ⟨Or.inl rfl, 0, rfl, ⟨fun y => absurd rfl y, fun y => ?_⟩, rfl⟩, fun z2 => ⟨Or.inr rfl, 1, rfl, ⟨fun _ => ?_, fun _ => by decide⟩, rfl⟩⟩⟩⟩)
  · have z : ¬ tk = 3 := z
    rcases hT.2 with ⟨k, _⟩ | ⟨k, _⟩ | ⟨k, _⟩ | ⟨k, _⟩ | ⟨_, k, _⟩ | ⟨k, _⟩
    · exact absurd y (no (by omega))
    · exact absurd y (no (by omega))
    · exact absurd y (no (by omega))
    · exact absurd y (no (by omega))
    · exact absurd k z
    · exact absurd y (no (by omega))
  · have z : tk = 3 := z
    have z2 : ¬ lg_cmp w (nI c).toInt64 = 0 := z2
    rcases hT.2 with ⟨_, k⟩ | ⟨_, k, _⟩ | ⟨_, _, k, _⟩ | ⟨_, _, k⟩ | ⟨_, _, k, _⟩ | ⟨_, k⟩
    · rw [k] at z; exact absurd z (by decide)
    · rw [k] at z; exact absurd z (by decide)
    · rw [k] at z; exact absurd z (by decide)
    · rw [k] at z; exact absurd z (by decide)
    · rw [k, y, nI_l (by omega)] at z2
      exact absurd (cmp_e.mpr rfl) z2
    · rw [k] at z; exact absurd z (by decide)
  · have z : tk = 3 := z
    have z2 : lg_cmp w (nI c).toInt64 = 0 := z2
    rcases hT.2 with ⟨_, k⟩ | ⟨_, k, _⟩ | ⟨_, _, k, _⟩ | ⟨_, _, k⟩ | ⟨k3, _, k, _⟩ | ⟨_, k⟩
    · rw [k] at z; exact absurd z (by decide)
    · rw [k] at z; exact absurd z (by decide)
    · rw [k] at z; exact absurd z (by decide)
    · rw [k] at z; exact absurd z (by decide)
    · have e := cmp_e.mp z2
      rw [k, nI_l (by omega)] at e
      have hcd : cdF f n q < 1000 := by
        rcases cd_kd f n q with ⟨_, y⟩ | ⟨_, y⟩ | ⟨_, y⟩ | ⟨_, y⟩ | ⟨_, y⟩ <;> omega
      exact (pk_lEQ (by omega) (by omega)).mp e
    · rw [k] at z; exact absurd z (by decide)
set_option maxRecDepth 100000 in
theorem c_X5_isSignB (he tk ta : Int32) (w : Int64) (op fl s : Int32) : XCall E 10 yX5_isSign cX5_isSign 2 (some .boolean) [.ref 0, .int s] (mR A h he tk ta w op 1 fl) (fun r σ' => r = some (.int 0) ∧ σ' = mR A h he tk ta w op 1 fl) :=
  XCall.of (by decide +kernel) (xle rfl) (xgo sX5_isSign [] 60 (xle rfl) ⟨fun _ => ⟨Or.inl rfl, rfl, rfl⟩, fun z => absurd z (by decide)⟩)
/-- a letter of the word at hand -/
def ltI (f : F32) (p e i : Nat) (c : Int32) : Int32 := if p + i < e then (if f (p + i) = c then 1 else 0) else (if c = 0 then 1 else 0)
set_option maxRecDepth 100000 in
theorem c_X5_isLetter (hH : RdH h f n b0) (p e : Nat) (he : e ≤ n) (tk : Int32) (w : Int64) (op bd fl : Int32) (i : Nat) (hi : i < 8) (hp : p ≤ n) (c : Int32) : XCall E 11 yX5_isLetter cX5_isLetter 3 (some .boolean) [.ref 0, .int (nI i), .int c] (mR A h (nI e) tk (nI p) w op bd fl) (fun r σ' => r = some (.int (ltI f p e i c)) ∧ σ' = mR A h (nI e) tk (nI p) w op bd fl) := by
  have hn := hH.2.2.1
  have ei : nI p + nI i = nI (p + i) := nI_add p i
  have cb := c_X5_byteAt E A h f n b0 hH (nI e) tk (nI p) w op bd fl (p + i) (by omega)
  rw [← ei] at cb
  unfold ltI
  refine XCall.of (by decide +kernel) (xle rfl) (xgo sX5_isLetter [] 60 (xle rfl) ⟨fun z => ⟨fun z2 => ⟨Or.inl rfl, ?_, rfl⟩, fun z2 => ⟨Or.inr rfl, ?_, rfl⟩⟩, fun z => XIn.same (xle rfl) cb (fun r σ' _ y => ?_)⟩)
  · rw [ei] at z
    have := (nI_leI (by omega) (by omega)).mp z
    rw [if_neg (by omega), if_neg z2]
  · rw [ei] at z
    have := (nI_leI (by omega) (by omega)).mp z
    rw [if_neg (by omega), if_pos z2]
  · obtain ⟨rfl, rfl⟩ := y
    rw [ei] at z
    have hl : p + i < e := Nat.lt_of_not_le (fun y => z (nI_le y (by omega)))
    rw [if_pos hl]
    refine ⟨fun z2 => ⟨Or.inl rfl, ?_, rfl⟩, fun z2 => ⟨Or.inr rfl, ?_, rfl⟩⟩
    · rw [by_in f n (by omega)] at z2
      rw [if_neg z2]
    · rw [by_in f n (by omega)] at z2
      rw [if_pos z2]
end MODEL
