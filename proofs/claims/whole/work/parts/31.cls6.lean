-- ===== lowest terms, mean; the ship in thought: film, drawn, chance, stands =====
def ltF (a b : Int32) : Nat → Int32
  | 0 => 1
  | k + 1 => if a - a / nI (k + 2) * nI (k + 2) = 0 ∧ b - b / nI (k + 2) * nI (k + 2) = 0 then nI (k + 2) else ltF a b k
theorem ltF_at (a b : Int32) : ∀ k, ∃ j, 1 ≤ j ∧ j ≤ k + 1 ∧ ltF a b k = nI j
  | 0 => ⟨1, by omega, by omega, rfl⟩
  | k + 1 => by
    unfold ltF
    split
    · exact ⟨k + 2, by omega, by omega, rfl⟩
    · obtain ⟨j, h1, h2, h3⟩ := ltF_at a b k
      exact ⟨j, h1, by omega, h3⟩
theorem ltF_y {a b : Int32} {k : Nat} (h : a - a / nI (k + 2) * nI (k + 2) = 0) (h2 : b - b / nI (k + 2) * nI (k + 2) = 0) : ltF a b (k + 1) = nI (k + 2) := by rw [ltF, if_pos ⟨h, h2⟩]
theorem ltF_n {a b : Int32} {k : Nat} (h : ¬ (a - a / nI (k + 2) * nI (k + 2) = 0 ∧ b - b / nI (k + 2) * nI (k + 2) = 0)) : ltF a b (k + 1) = ltF a b k := by rw [ltF, if_neg h]
def lowF (a : Int32) (m : Nat) (part : Int32) : Int64 := if part = 0 then (a / ltF a (nI m) (m - 1)).toInt64 else (nI m / ltF a (nI m) (m - 1)).toInt64
section LOW
variable (E : XEnv)
set_option maxRecDepth 100000 in
set_option maxHeartbeats 4000000 in
theorem l_X4_lowest (a : Int32) (m : Nat) (hm : 1 ≤ m) (hm2 : m ≤ 1000) (part : Int32) : ∀ (j k : Nat), k + 1 + j = m → XAt E RX4 cX4_lowestTerms 5 (some .long) 20 0 (fun r _ => r = some (.long (lowF a m part))) 5 [(0, .int a), (1, .int (nI m)), (2, .int part), (3, .int (ltF a (nI m) k)), (4, .int (nI (k + 2)))] [] []
  | 0, k, hk => by
    obtain rfl : m = k + 1 := by omega
    obtain ⟨q, q1, q2, q3⟩ := ltF_at a (nI (k + 1)) k
    have hne : ¬ ltF a (nI (k + 1)) k = 0 := by rw [q3]; exact nI_ne0 (by omega) (by omega)
    refine xgo sX4_lowestTerms [5] 100 (xle rfl) ⟨fun _ => ⟨fun h => ⟨hne, ?_⟩, fun h => ⟨hne, ?_⟩⟩, fun h => absurd (nI_lt (a := k + 1) (b := k + 2) (by omega) (by omega)) h⟩
    · show some (Value.long _) = some (Value.long _)
      rw [lowF, if_neg h]
      rfl
    · show some (Value.long _) = some (Value.long _)
      rw [lowF, if_pos h]
      rfl
  | j + 1, k, hk => by
    have ih := l_X4_lowest a m hm hm2 part j (k + 1) (by omega)
    have hne : ¬ nI (k + 2) = 0 := nI_ne0 (by omega) (by omega)
    refine xgo sX4_lowestTerms [5] 100 (xle rfl) ⟨fun h => absurd h (nI_nlt (a := m) (b := k + 2) (by omega) (by omega)), fun _ => ⟨hne, fun h => ?_, fun h => ⟨hne, fun h2 => ?_, fun h2 => ?_⟩⟩⟩
    · rw [nI_succ (k + 2), ltF_n (fun z => h z.1)] at ih
      exact ih
    · rw [nI_succ (k + 2), ltF_n (fun z => h2 z.2)] at ih
      exact ih
    · rw [nI_succ (k + 2), ltF_y h h2] at ih
      exact ih
theorem c_X4_lowestTerms (a : Int32) (m : Nat) (hm : 1 ≤ m) (hm2 : m ≤ 1000) (part : Int32) : XCall E 20 yX4_lowestTerms cX4_lowestTerms 5 (some .long) [.int a, .int (nI m), .int part] [] (fun r _ => r = some (.long (lowF a m part))) :=
  XCall.of (by decide +kernel) (xle rfl) (xgo sX4_lowestTerms [5] 100 (xle rfl) (l_X4_lowest E a m hm hm2 part (m - 1) 0 (by omega)))
end LOW
def XRl (p : Int64 × AS) : XQ := fun r σ' => r = some (.long p.1) ∧ ∃ g', σ' = gW p.2 g'
def smF (so : F32) : Nat → Int32
  | 0 => 0
  | k + 1 => smF so k + so k
def xNO : Int64 := -4611686018427387904
def o_mean (A : AS) (part : Int32) : Int64 × AS := (if f_within part 0 1 = 0 then xNO else lowF (smF A.S.so 10) 10 part, A)
def wdF (tv : TV) : Nat → Int32 → SH → SH
  | 0, _, S => S
  | j + 1, z, S => wdF tv j (z * 1103515245 + 12345) (dayF tv (S.setSe (f_ushr (z * 1103515245 + 12345) 9 - f_ushr (z * 1103515245 + 12345) 9 / 100 * 100)))
def o_drawn (A : AS) (seed n : Int32) : Int32 × AS := (if f_within n 0 40 = 0 then -2 else (wdF (tvA A A.ru) n.toNatClampNeg seed A.S).wa, A)
def chF (tv : TV) (S : SH) (seed : Int32) : Nat → Int32
  | 0 => 0
  | k + 1 => if (wdF tv 10 (seed + nI k) S).wa < 100 then chF tv S seed k else chF tv S seed k + 1
def o_chance (A : AS) (seed m part : Int32) : Int64 × AS := (if f_within m 1 20 = 0 then xNO else if f_within part 0 1 = 0 then xNO else lowF (chF (tvA A A.ru) A.S seed m.toNatClampNeg) m.toNatClampNeg part, A)
def fmF (tv : TV) (S : SH) : Nat → F32
  | 0 => fun _ => 0
  | k + 1 => upd (fmF tv S k) k (putF 0 (daysF tv (k + 1) S).wa)
def o_film (A : AS) (s n : Int32) : Int32 × AS :=
  if f_isSheet s = 0 then (-2, A) else if f_within n 0 20 = 0 then (-2, A) else (n, shF A s.toNatClampNeg 0 n.toNatClampNeg (fmF (tvA A A.ru) A.S n.toNatClampNeg))
def stF (tv : TV) (S : SH) (n : Nat) : Nat → Int32
  | 0 => -1
  | k + 1 => if (daysF tv n (S.setSe (nI k))).wa < 100 then nI k else stF tv S n k
def o_stands (A : AS) (n : Int32) : Int32 × AS := (if f_within n 1 40 = 0 then -2 else stF (tvA A A.ru) A.S n.toNatClampNeg 100, A)
theorem daysF_s (tv : TV) : ∀ (k : Nat) (S : SH), daysF tv (k + 1) S = dayF tv (daysF tv k S)
  | 0, _ => rfl
  | k + 1, S => by
    show daysF tv (k + 1) (dayF tv S) = dayF tv (daysF tv k (dayF tv S))
    exact daysF_s tv k (dayF tv S)
section THT
variable {E : XEnv} {Lv : Nat} {K : XQ}
theorem tDay (hL : 13 < Lv) {A : AS} (hC : CI A) (g : GQ) (ht : g.tr = A.ru) (hn : g.th.n ≤ 5) (k : ∀ g' : GQ, g'.tr = A.ru → g'.th = dayF (tvA A A.ru) g.th → K none (gW A g')) : XIn E Lv yX2_passDay cX2_passDay 3 none [.ref 13] (gW A g) K := by
  have hr : g.tr < 6 := by rw [ht]; exact hC.ru6
  have hT : TXok (A.tx g.tr) (eT (A.tx g.tr)) := by rw [ht]; exact hC.tx
  refine gS1 A g hr hL rfl (c_X2_passDay E (A.tx g.tr) hT g.th _ _ hn) (fun r σ' h => ?_)
  obtain ⟨rfl, nm', wt', rfl⟩ := h
  refine ⟨_, _, _, rfl, k _ ht ?_⟩
  show dayF (tvT (A.tx g.tr) (eT (A.tx g.tr))) g.th = _
  rw [ht]
  rfl
theorem tPass (hL : 14 < Lv) {A : AS} (hC : CI A) (g : GQ) (ht : g.tr = A.ru) (hn : g.th.n ≤ 5) (n : Nat) (hN : n < 2147483648) (k : ∀ g' : GQ, g'.tr = A.ru → g'.th = daysF (tvA A A.ru) n g.th → K none (gW A g')) : XIn E Lv yX2_pass cX2_pass 3 none [.ref 13, .int (nI n)] (gW A g) K := by
  have hr : g.tr < 6 := by rw [ht]; exact hC.ru6
  have hT : TXok (A.tx g.tr) (eT (A.tx g.tr)) := by rw [ht]; exact hC.tx
  refine gS1 A g hr hL rfl (c_X2_pass E (A.tx g.tr) hT g.th _ _ hn n hN) (fun r σ' h => ?_)
  obtain ⟨rfl, nm', wt', rfl⟩ := h
  refine ⟨_, _, _, rfl, k _ ht ?_⟩
  show daysF (tvT (A.tx g.tr) (eT (A.tx g.tr))) n g.th = _
  rw [ht]
  rfl
theorem tDown (hL : 10 < Lv) {A : AS} (hC : CI A) (g : GQ) (ht : g.tr = A.ru) (k : ∀ g' : GQ, g'.tr = A.ru → g'.th = g.th → K (some (.int (if g.th.wa < 100 then 0 else 1))) (gW A g')) : XIn E Lv yX2_isDown cX2_isDown 1 (some .boolean) [.ref 13] (gW A g) K := by
  have hr : g.tr < 6 := by rw [ht]; exact hC.ru6
  refine gS1 A g hr hL rfl (c_X2_isDown E g.th _ _ _) (fun r σ' h => ?_)
  obtain ⟨rfl, rfl⟩ := h
  exact ⟨_, _, _, rfl, k _ ht rfl⟩
end THT
section CLS
variable (E : XEnv) (A : AS) (g : GQ)
set_option maxRecDepth 100000 in
set_option maxHeartbeats 4000000 in
theorem l_X4_mean (part : Int32) (hp : ¬ f_within part 0 1 = 0) : ∀ (j k : Nat), k + j = 10 → XAt E RX4 cX4_mean 4 (some .long) 21 61 (XRl (o_mean A part)) 17 [(0, .ref 0), (1, .int part), (2, .int (smF A.S.so k)), (3, .int (nI k))] [] (gW A g)
  | 0, k, hk => by
    obtain rfl : k = 10 := by omega
    refine xgo sX4_mean [17] 100 (xle rfl) ⟨fun _ => ?_, fun h => absurd (nI_le (a := 10) (b := 10) (Nat.le_refl _) (by omega)) h⟩
    refine XIn.sub [] (xle rfl) (c_X4_lowestTerms E (smF A.S.so 10) 10 (by omega) (by omega) part) List.nodup_nil (xle rfl) rfl rfl (fun r σ' _ h => ?_)
    subst h
    refine ⟨?_, g, rfl⟩
    rw [o_mean, if_neg hp]
  | j + 1, k, hk => by
    have hc : (nI k).toNatClampNeg = k := nI_clamp (by omega)
    refine xgo sX4_mean [17] 100 (xle rfl) ⟨fun h => absurd h (nI_ge (b := 10) (by omega) (by omega)), fun _ => ⟨vp_in_nI (by omega) (by omega), ?_⟩⟩
    rw [hc]
    have ih := l_X4_mean part hp j (k + 1) (by omega)
    rw [nI_succ, show smF A.S.so (k + 1) = smF A.S.so k + A.S.so k from rfl] at ih
    exact ih
set_option maxRecDepth 100000 in
theorem c_X4_mean (part : Int32) : XCall E 21 yX4_mean cX4_mean 4 (some .long) [.ref 0, .int part] (gW A g) (XRl (o_mean A part)) := by
  refine XCall.of (by decide +kernel) (xle rfl) (xgo sX4_mean [17] 100 (xle rfl) ⟨fun h => l_X4_mean E A g part h 10 0 rfl, fun h => ⟨?_, g, rfl⟩⟩)
  rw [o_mean, if_pos h]
  rfl
set_option maxRecDepth 100000 in
set_option maxHeartbeats 4000000 in
theorem l_X4_drawn (hC : CI A) (seed : Int32) (n : Nat) (hn : n ≤ 40) (j : Nat) : ∀ (k : Nat) (z : Int32) (g : GQ), g.tr = A.ru → g.th.n ≤ 5 → k + j = n → XAt E RX4 cX4_waterDrawn 5 (some .int) 20 61 (XR ((wdF (tvA A A.ru) j z g.th).wa, A)) 16 [(0, .ref 0), (1, .int seed), (2, .int (nI n)), (3, .int z), (4, .int (nI k))] [] (gW A g) := by
  induction j with
  | zero =>
    intro k z g ht h5 hk
    obtain rfl : k = n := by omega
    exact xgo sX4_waterDrawn [16] 100 (xle rfl) ⟨fun _ => ⟨rfl, g, rfl⟩, fun h => absurd (nI_le (Nat.le_refl _) (by omega)) h⟩
  | succ j IH =>
    intro k z g ht h5 hk
    refine xgo sX4_waterDrawn [16, 30] 100 (xle rfl) ⟨fun h => absurd h (nI_ge (by omega) (by omega)), fun _ => ?_⟩
    rw [wdF]
    show XAt E RX4 cX4_waterDrawn 5 (some .int) 20 61 _ 30 [(0, .ref 0), (1, .int seed), (2, .int (nI n)), (3, .int z), (4, .int (nI k))] [.int (z * 1103515245 + 12345)] (gW A g)
    obtain ⟨z', hz⟩ : ∃ y, y = z * 1103515245 + 12345 := ⟨_, rfl⟩
    rw [← hz]
    refine xgo sX4_waterDrawn [16, 42] 100 (xle rfl) ⟨by decide, ?_⟩
    show XAt E RX4 cX4_waterDrawn 5 (some .int) 20 61 _ 42 [(0, .ref 0), (1, .int seed), (2, .int (nI n)), (3, .int z'), (4, .int (nI k))] [.int (f_ushr z' 9 - f_ushr z' 9 / 100 * 100), .ref 13] (gW A g)
    obtain ⟨s', hs⟩ : ∃ y, y = f_ushr z' 9 - f_ushr z' 9 / 100 * 100 := ⟨_, rfl⟩
    rw [← hs]
    refine xgo sX4_waterDrawn [16] 100 (xle rfl) ?_
    refine tDay (xle rfl) hC (g.set_th (g.th.setSe s')) ht h5 (fun g' ht' hg => ?_)
    have hg : g'.th = dayF (tvA A A.ru) (g.th.setSe s') := hg
    have ih := IH (k + 1) z' g' ht' (by rw [hg, dayF_n]; exact h5) (by omega)
    rw [nI_succ, hg] at ih
    exact ih
set_option maxRecDepth 100000 in
theorem c_X4_waterDrawn (hC : CI A) (seed : Int32) (n : Nat) (hn : n ≤ 40) : XCall E 20 yX4_waterDrawn cX4_waterDrawn 5 (some .int) [.ref 0, .int seed, .int (nI n)] (gW A g) (XR ((wdF (tvA A A.ru) n seed A.S).wa, A)) := by
  refine XCall.of (by decide +kernel) (xle rfl) (xgo sX4_waterDrawn [16] 100 (xle rfl) (XIn.same (xle rfl) (c_becomes_th E A g) (fun r σ' _ h => ?_)))
  obtain ⟨rfl, rfl⟩ := h
  exact l_X4_drawn E A hC seed n hn n 0 seed (gTh A g) rfl hC.1 (Nat.zero_add _)
set_option maxRecDepth 100000 in
theorem c_X4_drawn (hC : CI A) (seed n : Int32) : XCall E 21 yX4_drawn cX4_drawn 3 (some .int) [.ref 0, .int seed, .int n] (gW A g) (XR (o_drawn A seed n)) := by
  unfold o_drawn
  refine XCall.of (by decide +kernel) (xle rfl) (xgo sX4_drawn [] 100 (xle rfl) ⟨fun h => ?_, fun h => ?_⟩)
  · rw [if_neg h]
    obtain ⟨m, hm, rfl⟩ := fw_e (n := 41) (by omega) h
    rw [nI_clamp (by omega)]
    refine XIn.same (xle rfl) (c_X4_waterDrawn E A g hC seed m (by omega)) (fun r σ' _ h => ?_)
    obtain ⟨rfl, g', rfl⟩ := h
    exact ⟨rfl, g', rfl⟩
  · rw [if_pos h]
    exact ⟨rfl, g, rfl⟩
theorem chF_y {tv : TV} {S : SH} {seed : Int32} {k : Nat} (h : (wdF tv 10 (seed + nI k) S).wa < 100) : chF tv S seed (k + 1) = chF tv S seed k := by rw [chF, if_pos h]
theorem chF_n {tv : TV} {S : SH} {seed : Int32} {k : Nat} (h : ¬ (wdF tv 10 (seed + nI k) S).wa < 100) : chF tv S seed (k + 1) = chF tv S seed k + 1 := by rw [chF, if_neg h]
set_option maxRecDepth 100000 in
set_option maxHeartbeats 4000000 in
theorem l_X4_chance (hC : CI A) (seed : Int32) (m : Nat) (hm1 : 1 ≤ m) (hm : m ≤ 20) (part : Int32) : ∀ (j k : Nat) (g : GQ), k + j = m → XAt E RX4 cX4_chance 6 (some .long) 21 61 (XRl (lowF (chF (tvA A A.ru) A.S seed m) m part, A)) 29 [(0, .ref 0), (1, .int seed), (2, .int (nI m)), (3, .int part), (4, .int (chF (tvA A A.ru) A.S seed k)), (5, .int (nI k))] [] (gW A g)
  | 0, k, g, hk => by
    obtain rfl : k = m := by omega
    refine xgo sX4_chance [29] 100 (xle rfl) ⟨fun _ => ?_, fun h => absurd (nI_le (Nat.le_refl _) (by omega)) h⟩
    refine XIn.sub [] (xle rfl) (c_X4_lowestTerms E _ k (by omega) (by omega) part) List.nodup_nil (xle rfl) rfl rfl (fun r σ' _ h => ?_)
    subst h
    exact ⟨rfl, g, rfl⟩
  | j + 1, k, g, hk => by
    refine xgo sX4_chance [29] 100 (xle rfl) ⟨fun h => absurd h (nI_ge (by omega) (by omega)), fun _ => ?_⟩
    have hw := c_X4_waterDrawn E A g hC (seed + nI k) 10 (by omega)
    have ih := fun g' => l_X4_chance hC seed m hm1 hm part j (k + 1) g' (by omega)
    have e1 : (wdF (tvA A A.ru) 10 (seed + nI k) A.S).wa < 100 → chF (tvA A A.ru) A.S seed (k + 1) = chF (tvA A A.ru) A.S seed k := fun h => chF_y h
    have e2 : ¬ (wdF (tvA A A.ru) 10 (seed + nI k) A.S).wa < 100 → chF (tvA A A.ru) A.S seed (k + 1) = chF (tvA A A.ru) A.S seed k + 1 := fun h => chF_n h
    rw [nI_succ] at ih
    generalize (wdF (tvA A A.ru) 10 (seed + nI k) A.S).wa = w at hw e1 e2
    generalize chF (tvA A A.ru) A.S seed (k + 1) = c1 at ih e1 e2
    generalize chF (tvA A A.ru) A.S seed k = c0 at e1 e2 ⊢
    refine XIn.same (xle rfl) hw (fun r σ' _ h => ?_)
    obtain ⟨rfl, g', rfl⟩ := h
    refine ⟨fun h => ?_, fun h => ?_⟩
    · rw [← e1 h]
      exact ih g'
    · have ih := ih g'
      rw [e2 h] at ih
      exact ih
set_option maxRecDepth 100000 in
set_option maxHeartbeats 4000000 in
theorem c_X4_chance (hC : CI A) (seed m part : Int32) : XCall E 21 yX4_chance cX4_chance 6 (some .long) [.ref 0, .int seed, .int m, .int part] (gW A g) (XRl (o_chance A seed m part)) := by
  unfold o_chance
  refine XCall.of (by decide +kernel) (xle rfl) (xgo sX4_chance [29] 100 (xle rfl) ⟨fun h => ?_, fun h => ⟨fun h2 => ?_, fun h2 => ?_⟩⟩)
  · rw [if_pos h]
    exact ⟨rfl, g, rfl⟩
  · rw [if_neg h, if_neg h2]
    obtain ⟨q1, q2⟩ := fw_y h
    obtain ⟨k, hk, rfl⟩ := nI_of (Int32.not_lt.mpr (Int32.le_trans (show (0 : Int32) ≤ 1 by decide) q1))
    have hk1 := (nI_leI (a := 1) (by omega) hk).mp q1
    have hk2 := (nI_leI (b := 20) hk (by omega)).mp q2
    rw [nI_clamp hk]
    have hl := l_X4_chance E A hC seed k hk1 hk2 part k 0 g (Nat.zero_add _)
    generalize lowF (chF (tvA A A.ru) A.S seed k) k part = lo at hl ⊢
    exact hl
  · rw [if_neg h, if_pos h2]
    exact ⟨rfl, g, rfl⟩
end CLS
