-- ===== the reference: down, worst, drawn =====
theorem ushr9 (x : Int32) : ∃ m, m < 8388608 ∧ f_ushr x 9 = nI m := by
  have e9 : ((9 : Int32).toUInt32 &&& Int32.toUInt32 31) = 9 := by decide +kernel
  refine ⟨(x.toUInt32 >>> (9 : UInt32)).toNat, ?_, ?_⟩
  · have h1 : (x.toUInt32 >>> (9 : UInt32)).toNat = x.toUInt32.toNat / 512 := by
      rw [UInt32.toNat_shiftRight, Nat.shiftRight_eq_div_pow]
      rfl
    have h2 := x.toUInt32.toNat_lt
    rw [h1]
    omega
  · unfold f_ushr
    rw [e9]
    apply Int32.toBitVec_inj.mp
    show (x.toUInt32 >>> (9 : UInt32)).toBitVec = BitVec.ofNat 32 (x.toUInt32 >>> (9 : UInt32)).toBitVec.toNat
    rw [BitVec.ofNat_toNat, BitVec.setWidth_eq]
theorem drawn_r (z : Int32) : ∃ m, m ≤ 99 ∧ f_ushr z 9 - f_ushr z 9 / 100 * 100 = nI m := by
  obtain ⟨m, hm, e⟩ := ushr9 z
  refine ⟨m % 100, by omega, ?_⟩
  rw [e]
  exact pk_rem (d := 100) (by omega) (by omega) (by omega)
theorem RI.se {S : SH} (hR : RI S) {v : Int32} (h0 : 0 ≤ v) (h1 : v ≤ 99) : RI (S.setSe v) := ⟨hR.1, ⟨h0, h1⟩, hR.2.2.1, hR.2.2.2.1, hR.2.2.2.2⟩
theorem Yk.wz (h : YQ) (w : F32) : Yk h (h.set_wz w) := ⟨⟨rfl, rfl, rfl, rfl, rfl, rfl⟩, rfl, rfl, rfl, rfl, rfl, rfl, rfl, rfl⟩
theorem c_X5_aside (E : XEnv) (A : AS) (h : YQ) : XCall E 10 yX5_laysAside cX5_laysAside 2 none [.ref 0] (mW A h) (fun r σ' => r = none ∧ ∃ h', h'.wz = asideF A.S h.wz ∧ Yk h h' ∧ σ' = mW A h') :=
  (c_X5_laysAside E A h).mono (fun r σ' _ q => ⟨q.1, h.set_wz (asideF A.S h.wz), rfl, Yk.wz h _, q.2⟩)
theorem c_X5_behind (E : XEnv) (A : AS) {tv : TV} {tx ts : F32} (hs : SaysOk E A tv tx ts) (N : Nat) (hN : N < 2147483647) (S : SH) (h : YQ) (htx : h.tx = tx) (hts : h.ts = ts) (hR : RI S) : XCall E 105 yX5_waterBehind cX5_waterBehind 3 (some .int) [.ref 0, .int (nI N)] (mW (A.set_S S) h) (fun r σ' => r = some (.int (daysF tv N S).wa) ∧ ∃ h', Yk h h' ∧ σ' = mW (A.set_S S) h') :=
  (c_X5_waterBehind E A hs N hN S h htx hts hR).mono (fun r σ' _ q => ⟨q.1, q.2.elim fun x e => ⟨(h.set_wz (asideF S h.wz)).rd x, Yk.wzrd h _ x, e⟩⟩)
section MODEL
variable (E : XEnv) (A : AS) (h : YQ)
set_option maxRecDepth 100000 in
set_option maxHeartbeats 4000000 in
theorem l_X5_down (hs : SaysOk E A (tvA A A.ru) h.tx h.ts) (f : F32) (j : Nat) : ∀ (k : Nat) (T : SH) (h2 : YQ), k + j = 61 → h2.wz = asideF A.S f → Yk h h2 → RI T → T.n = A.S.n → XAt E RX5 cX5_down 2 (some .int) 110 16 (YRk (dwF (tvA A A.ru) j k T, A) h) 6 [(0, .ref 0), (1, .int (nI k))] [] (mW (A.set_S T) h2) := by
  have fin : ∀ (k : Nat) (T : SH) (h2 : YQ), k ≤ 61 → h2.wz = asideF A.S f → Yk h h2 → T.n = A.S.n → XAt E RX5 cX5_down 2 (some .int) 110 16 (YRk (if k ≤ 60 then nI k else -1, A) h) 31 [(0, .ref 0), (1, .int (nI k))] [] (mW (A.set_S T) h2) := by
    intro k T h2 hk hw hy hn
    refine xgo sX5_down [] 60 (xle rfl) (XIn.same (xle rfl) (c_X5_laysBack E A h2 A.S T f hw hn) (fun r σ' _ q => ?_))
    obtain ⟨rfl, rfl⟩ := q
    refine ⟨fun q => ⟨?_, h2, hy, rfl⟩, fun q => ⟨?_, h2, hy, rfl⟩⟩
    · rw [if_pos ((nI_leI (b := 60) (by omega) (by omega)).mp q)]
    · rw [if_neg (fun z => q (nI_le (b := 60) z (by omega)))]
  induction j with
  | zero =>
    intro k T h2 hk hw hy hR hn
    obtain rfl : k = 61 := by omega
    exact xgo sX5_down [6, 31] 60 (xle rfl) ⟨fun _ => fin 61 T h2 (by omega) hw hy hn, fun q => absurd (nI_lt (a := 60) (b := 61) (by omega) (by omega)) q⟩
  | succ j IH =>
    intro k T h2 hk hw hy hR hn
    refine xgo sX5_down [6, 31] 60 (xle rfl) ⟨fun q => absurd q (nI_nlt (a := 60) (b := k) (by omega) (by omega)), fun _ => ⟨fun q => ?_, fun q => ?_⟩⟩
    · have q : (100 : Int32) ≤ T.wa := q
      have t := fin k T h2 (by omega) hw hy hn
      rw [if_pos (by omega : k ≤ 60)] at t
      rw [dwF, if_neg (Int32.not_lt.mpr q)]
      exact t
    · have q : ¬ (100 : Int32) ≤ T.wa := q
      refine XIn.same (xle rfl) (c_X5_passes E A hs h2 hy.1.1 hy.1.2.1 T hR) (fun r σ' _ z => ?_)
      obtain ⟨rfl, x, rfl⟩ := z
      have ih := IH (k + 1) (dayF (tvA A A.ru) T) (h2.rd x) (by omega) hw (hy.trans (Yk.rd h2 x)) (RI_day _ hR) (by rw [dayF_n]; exact hn)
      rw [nI_succ] at ih
      rw [dwF, if_pos (Int32.not_le.mp q)]
      exact ih
set_option maxRecDepth 100000 in
theorem c_X5_down (hs : SaysOk E A (tvA A A.ru) h.tx h.ts) (hR : RI A.S) : XCall E 110 yX5_down cX5_down 2 (some .int) [.ref 0] (mW A h) (YRk (o_down A) h) := by
  refine XCall.of (by decide +kernel) (xle rfl) (xgo sX5_down [6] 60 (xle rfl) (XIn.same (xle rfl) (c_X5_aside E A h) (fun r σ' _ q => ?_)))
  obtain ⟨rfl, h2, hw, hy, rfl⟩ := q
  exact l_X5_down E A h hs h.wz 61 0 A.S h2 rfl hw hy hR rfl
set_option maxRecDepth 100000 in
set_option maxHeartbeats 4000000 in
theorem l_X5_worst0 (hR : RI A.S) (j : Nat) : ∀ (k : Nat), k + j = 10 → XAt E RX5 cX5_worst 4 (some .int) 110 16 (YRk (o_worst A) h) 6 [(0, .ref 0), (1, .int (wsF A.S k).1), (2, .int (wsF A.S k).2), (3, .int (nI k))] [] (mW A h) := by
  induction j with
  | zero =>
    intro k hk
    obtain rfl : k = 10 := by omega
    exact xgo sX5_worst [6] 60 (xle rfl) ⟨fun _ => ⟨rfl, h, Yk.same h, rfl⟩, fun h => absurd (nI_le (a := 10) (b := 10) (Nat.le_refl _) (by omega)) h⟩
  | succ j IH =>
    intro k hk
    have ih := IH (k + 1) (by omega)
    refine xgo sX5_worst [6] 60 (xle rfl) ⟨fun h => absurd h (nI_ge (b := 10) (by omega) (by omega)), fun _ => XIn.same (xle rfl) (c_X5_leaksOf E A h hR k (by omega)) (fun r σ' _ q => ?_)⟩
    obtain ⟨rfl, rfl⟩ := q
    refine ⟨fun q => ?_, fun q => XIn.same (xle rfl) (c_X5_leaksOf E A h hR k (by omega)) (fun r σ' _ z => ?_)⟩
    · rw [nI_succ, wsF_no (Int32.not_lt.mpr q)] at ih
      exact ih
    · obtain ⟨rfl, rfl⟩ := z
      rw [nI_succ, wsF_y (Int32.not_le.mp q)] at ih
      exact ih
theorem c_X5_worst (hR : RI A.S) : XCall E 110 yX5_worst cX5_worst 4 (some .int) [.ref 0] (mW A h) (YRk (o_worst A) h) :=
  XCall.of (by decide +kernel) (xle rfl) (xgo sX5_worst [6] 60 (xle rfl) (l_X5_worst0 E A h hR 10 0 rfl))
set_option maxRecDepth 100000 in
set_option maxHeartbeats 4000000 in
theorem l_X5_drawn (hs : SaysOk E A (tvA A A.ru) h.tx h.ts) (f : F32) (seed : Int32) (n : Nat) (hn : n ≤ 40) (j : Nat) : ∀ (k : Nat) (z : Int32) (T : SH) (h2 : YQ), k + j = n → h2.wz = asideF A.S f → Yk h h2 → RI T → T.n = A.S.n → XAt E RX5 cX5_waterDrawn 5 (some .int) 106 16 (YRk ((wdF (tvA A A.ru) j z T).wa, A) h) 9 [(0, .ref 0), (1, .int seed), (2, .int (nI n)), (3, .int z), (4, .int (nI k))] [] (mW (A.set_S T) h2) := by
  induction j with
  | zero =>
    intro k z T h2 hk hw hy hR hT
    obtain rfl : k = n := by omega
    refine xgo sX5_waterDrawn [9] 60 (xle rfl) ⟨fun _ => XIn.same (xle rfl) (c_X5_laysBack E A h2 A.S T f hw hT) (fun r σ' _ q => ?_), fun q => absurd (nI_le (a := k) (b := k) (Nat.le_refl _) (by omega)) q⟩
    obtain ⟨rfl, rfl⟩ := q
    exact ⟨rfl, h2, hy, rfl⟩
  | succ j IH =>
    intro k z T h2 hk hw hy hR hT
    refine xgo sX5_waterDrawn [9, 24] 60 (xle rfl) ⟨fun h => absurd h (nI_ge (b := n) (by omega) (by omega)), fun _ => ?_⟩
    rw [wdF]
    show XAt E RX5 cX5_waterDrawn 5 (some .int) 106 16 _ 24 [(0, .ref 0), (1, .int seed), (2, .int (nI n)), (3, .int z), (4, .int (nI k))] [.int (z * 1103515245 + 12345)] (mW (A.set_S T) h2)
    obtain ⟨z', hz⟩ : ∃ y, y = z * 1103515245 + 12345 := ⟨_, rfl⟩
    rw [← hz]
    refine xgo sX5_waterDrawn [9, 33] 60 (xle rfl) ⟨by decide, ?_⟩
    show XAt E RX5 cX5_waterDrawn 5 (some .int) 106 16 _ 33 [(0, .ref 0), (1, .int seed), (2, .int (nI n)), (3, .int z'), (4, .int (nI k))] [.int (f_ushr z' 9 - f_ushr z' 9 / 100 * 100), .ref 0] (mW (A.set_S T) h2)
    obtain ⟨m, hm, em⟩ := drawn_r z'
    obtain ⟨s', hs'⟩ : ∃ y, y = f_ushr z' 9 - f_ushr z' 9 / 100 * 100 := ⟨_, rfl⟩
    rw [← hs']
    rw [← hs'] at em
    have hR1 : RI (T.setSe s') := hR.se (by rw [em]; exact nI_le (a := 0) (by omega) (by omega)) (by rw [em]; exact nI_le (b := 99) (by omega) (by omega))
    refine xgo sX5_waterDrawn [9] 60 (xle rfl) (XIn.same (xle rfl) (c_X5_passes E A hs h2 hy.1.1 hy.1.2.1 (T.setSe s') hR1) (fun r σ' _ q => ?_))
    obtain ⟨rfl, x, rfl⟩ := q
    have ih := IH (k + 1) z' (dayF (tvA A A.ru) (T.setSe s')) (h2.rd x) (by omega) hw (hy.trans (Yk.rd h2 x)) (RI_day _ hR1) (by rw [dayF_n]; exact hT)
    rw [nI_succ] at ih
    exact ih
set_option maxRecDepth 100000 in
theorem c_X5_waterDrawn (hs : SaysOk E A (tvA A A.ru) h.tx h.ts) (hR : RI A.S) (seed : Int32) (n : Nat) (hn : n ≤ 40) : XCall E 106 yX5_waterDrawn cX5_waterDrawn 5 (some .int) [.ref 0, .int seed, .int (nI n)] (mW A h) (YRk ((wdF (tvA A A.ru) n seed A.S).wa, A) h) := by
  refine XCall.of (by decide +kernel) (xle rfl) (xgo sX5_waterDrawn [9] 60 (xle rfl) (XIn.same (xle rfl) (c_X5_aside E A h) (fun r σ' _ q => ?_)))
  obtain ⟨rfl, h2, hw, hy, rfl⟩ := q
  exact l_X5_drawn E A h hs h.wz seed n hn n 0 seed A.S h2 (Nat.zero_add _) hw hy hR rfl
set_option maxRecDepth 100000 in
theorem c_X5_drawn (hs : SaysOk E A (tvA A A.ru) h.tx h.ts) (hR : RI A.S) (seed n : Int32) : XCall E 110 yX5_drawn cX5_drawn 3 (some .int) [.ref 0, .int seed, .int n] (mW A h) (YRk (o_drawn A seed n) h) := by
  have en : f_in n.toInt64 0 40 = f_within n 0 40 := f_in0 n 40 (by decide +kernel)
  unfold o_drawn
  refine XCall.of (by decide +kernel) (xle rfl) (xgo sX5_drawn [] 60 (xle rfl) ⟨fun q => ?_, fun q => ?_⟩)
  · rw [en] at q
    rw [if_pos q]
    exact ⟨rfl, h, Yk.same h, rfl⟩
  · rw [en] at q
    rw [if_neg q]
    obtain ⟨m, hm, rfl⟩ := fw_e (n := 41) (by omega) q
    rw [nI_clamp (by omega)]
    refine XIn.same (xle rfl) (c_X5_waterDrawn E A h hs hR seed m (by omega)) (fun r σ' _ q => ?_)
    obtain ⟨rfl, h2, hk, rfl⟩ := q
    exact ⟨rfl, h2, hk, rfl⟩
set_option maxRecDepth 100000 in
set_option maxHeartbeats 4000000 in
theorem l_X5_stands (hs : SaysOk E A (tvA A A.ru) h.tx h.ts) (hR : RI A.S) (n : Nat) (hn : n ≤ 40) (k : Nat) : ∀ (v y : Int32) (h2 : YQ), k ≤ 100 → v = nI k + (-1) → Yk h h2 → XAt E RX5 cX5_stands 5 (some .int) 110 16 (YRk (stF (tvA A A.ru) A.S n k, A) h) 26 [(0, .ref 0), (1, .int (nI n)), (2, .int A.S.se), (3, .int (-1)), (4, .int v)] [] (mW (A.set_S (A.S.setSe y)) h2) := by
  have fin : ∀ (fd v y : Int32) (h2 : YQ), Yk h h2 → XAt E RX5 cX5_stands 5 (some .int) 110 16 (YRk (fd, A) h) 65 [(0, .ref 0), (1, .int (nI n)), (2, .int A.S.se), (3, .int fd), (4, .int v)] [] (mW (A.set_S (A.S.setSe y)) h2) := by
    intro fd v y h2 hk
    exact xgo sX5_stands [] 60 (xle rfl) ⟨rfl, h2, hk, rfl⟩
  induction k with
  | zero =>
    intro v y h2 hk hv hy
    refine xgo sX5_stands [26, 65] 60 (xle rfl) ⟨fun _ => fin (-1) v y h2 hy, fun q => absurd ?_ q⟩
    rw [hv]
    decide
  | succ k IH =>
    intro v y h2 hk hv hy
    rw [pk_m1] at hv
    subst hv
    have hR1 : RI (A.S.setSe (nI k)) := hR.se (nI_le (a := 0) (by omega) (by omega)) (nI_le (b := 99) (by omega) (by omega))
    refine xgo sX5_stands [26, 65] 60 (xle rfl) ⟨fun q => absurd q (nI_pos (by omega)), fun _ => ⟨fun q => absurd rfl q, fun _ => XIn.same (xle rfl) (c_X5_behind E A hs n (by omega) (A.S.setSe (nI k)) h2 hy.1.1 hy.1.2.1 hR1) (fun r σ' _ q => ?_)⟩⟩
    obtain ⟨rfl, h3, hy3, rfl⟩ := q
    have hy2 := hy.trans hy3
    have e1 : (daysF (tvA A A.ru) n (A.S.setSe (nI k))).wa < 100 → stF (tvA A A.ru) A.S n (k + 1) = nI k := fun h => if_pos h
    have e2 : ¬ (daysF (tvA A A.ru) n (A.S.setSe (nI k))).wa < 100 → stF (tvA A A.ru) A.S n (k + 1) = stF (tvA A A.ru) A.S n k := fun h => if_neg h
    obtain ⟨w, hw⟩ : ∃ w, w = (daysF (tvA A A.ru) n (A.S.setSe (nI k))).wa := ⟨_, rfl⟩
    rw [← hw] at e1 e2 ⊢
    refine ⟨fun q => ?_, fun q => ?_⟩
    · rw [e2 (Int32.not_lt.mpr q)]
      exact IH (nI k + (-1)) (nI k) h3 (by omega) rfl hy2
    · rw [e1 (Int32.not_le.mp q)]
      have t := fin (nI k) (nI k + (-1)) (nI k) h3 hy2
      show XAt E RX5 cX5_stands 5 (some .int) 110 16 _ 26 [(0, .ref 0), (1, .int (nI n)), (2, .int A.S.se), (3, .int (nI k)), (4, .int (nI k + (-1)))] [] (mW (A.set_S (A.S.setSe (nI k))) h3)
      exact xgo sX5_stands [65] 60 (xle rfl) ⟨fun _ => t, fun _ => ⟨fun _ => t, fun z => absurd z (nI_m1 (by omega))⟩⟩
set_option maxRecDepth 100000 in
theorem c_X5_stands (hs : SaysOk E A (tvA A A.ru) h.tx h.ts) (hR : RI A.S) (n : Int32) : XCall E 110 yX5_stands cX5_stands 5 (some .int) [.ref 0, .int n] (mW A h) (YRk (o_stands A n) h) := by
  have en : f_in n.toInt64 1 40 = f_within n 1 40 := f_in_w (a := 1) (by decide +kernel) (by decide +kernel)
  unfold o_stands
  refine XCall.of (by decide +kernel) (xle rfl) (xgo sX5_stands [26] 60 (xle rfl) ⟨fun q => ?_, fun q => ?_⟩)
  · rw [en] at q
    rw [if_neg q]
    obtain ⟨q1, q2⟩ := fw_y q
    obtain ⟨k, hk, rfl⟩ := nI_of (Int32.not_lt.mpr (Int32.le_trans (show (0 : Int32) ≤ 1 by decide) q1))
    have hk2 := (nI_leI (b := 40) hk (by omega)).mp q2
    rw [nI_clamp hk]
    exact l_X5_stands E A h hs hR k hk2 100 99 A.S.se h (by omega) (by decide +kernel) (Yk.same h)
  · rw [en] at q
    rw [if_pos q]
    exact ⟨rfl, h, Yk.same h, rfl⟩
end MODEL
