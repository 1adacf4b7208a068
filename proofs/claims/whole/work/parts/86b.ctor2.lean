-- ===== the reference's constructor =====
def w5 (tc : Int32) (X T Bf : F32) : XW := [.inr (5, [.int 0, .ref 1, .ref 2, .int tc, .int 0, .ref 3, .int 0, .int 0, .int 20, .int 0, .ref 4, .ref 5, .ref 6, .int 0, .int 0, .int 0, .int 0, .int 0, .int 0, .int 0, .int 0, .int 0, .int 0, .int 0, .int 0, .long 0, .int 0, .int 0, .int 0, .ref 7, .ref 8, .int 0, .int 0, .int 0, .ref 9, .ref 10, .ref 11, .int (-1), .int 0, .int 0, .int 0, .int 0, .ref 12, .ref 13, .ref 14, .ref 15]),
  .inl (0, 960, .inl X), .inl (0, 6, .inl T), .inl (0, 160, .inl z0F), .inl (0, 10, .inl Bf), .inl (0, 10, .inl z0F), .inl (0, 20, .inl z0F), .inl (0, 43, .inl z0F), .inl (0, 3, .inl z0F), .inl (0, 20, .inl z0F), .inl (0, 10, .inl z0F), .inl (0, 10, .inl z0F), .inl (1, 4, .inl z0F), .inl (0, 4, .inl z0F), .inl (0, 4, .inl z0F), .inl (0, 160, .inl z0F)]
def spF (X : F32) (k : Nat) (bs : List Int32) : F32 := fun j => if k ≤ j ∧ j < k + 8 then bs.getD (j - k) 0 else X j
theorem sp_eq (X : F32) (k : Nat) (a0 a1 a2 a3 a4 a5 a6 a7 : Int32) : upd (upd (upd (upd (upd (upd (upd (upd X k a0) (k + 1) a1) (k + 2) a2) (k + 3) a3) (k + 4) a4) (k + 5) a5) (k + 6) a6) (k + 7) a7 = spF X k [a0, a1, a2, a3, a4, a5, a6, a7] := by
  funext j
  unfold spF
  by_cases h : k ≤ j ∧ j < k + 8
  · rw [if_pos h]
    obtain ⟨d, rfl⟩ : ∃ d, j = k + d := ⟨j - k, by omega⟩
    have hd : d < 8 := by omega
    rw [show k + d - k = d by omega]
    rcases (by omega : d = 0 ∨ d = 1 ∨ d = 2 ∨ d = 3 ∨ d = 4 ∨ d = 5 ∨ d = 6 ∨ d = 7) with rfl | rfl | rfl | rfl | rfl | rfl | rfl | rfl <;> simp [upd]
  · rw [if_neg h]
    unfold upd
    rw [if_neg (by omega), if_neg (by omega), if_neg (by omega), if_neg (by omega), if_neg (by omega), if_neg (by omega), if_neg (by omega), if_neg (by omega)]
theorem sp_cl {k j : Nat} (x : Int32) (hx : x = nI j) (h : k + j < 2147483648) : (nI k + x).toNatClampNeg = k + j := by
  rw [hx, nI_add]
  exact nI_clamp (by omega)
set_option maxRecDepth 100000 in
set_option maxHeartbeats 4000000 in
theorem g_X5_spell (E : XEnv) (tc : Int32) (X T Bf : F32) (k : Nat) (hk : k + 8 ≤ 960) (a0 a1 a2 a3 a4 a5 a6 a7 : Int32) : GCall E 10 16 yX5_spell cX5_spell 10 [.ref 0, .int (nI k), .int a0, .int a1, .int a2, .int a3, .int a4, .int a5, .int a6, .int a7] (w5 tc X T Bf) (fun r σ' => r = none ∧ σ' = w5 tc (spF X k [a0, a1, a2, a3, a4, a5, a6, a7]) T Bf) := by
  have e : upd (upd (upd (upd (upd (upd (upd (upd X (nI k).toNatClampNeg a0) (nI k + 1).toNatClampNeg a1) (nI k + 2).toNatClampNeg a2) (nI k + 3).toNatClampNeg a3) (nI k + 4).toNatClampNeg a4) (nI k + 5).toNatClampNeg a5) (nI k + 6).toNatClampNeg a6) (nI k + 7).toNatClampNeg a7 = spF X k [a0, a1, a2, a3, a4, a5, a6, a7] := by
    rw [nI_clamp (n := k) (by omega), sp_cl (j := 1) 1 rfl (by omega), sp_cl (j := 2) 2 rfl (by omega), sp_cl (j := 3) 3 rfl (by omega), sp_cl (j := 4) 4 rfl (by omega), sp_cl (j := 5) 5 rfl (by omega), sp_cl (j := 6) 6 rfl (by omega), sp_cl (j := 7) 7 rfl (by omega)]
    exact sp_eq X k a0 a1 a2 a3 a4 a5 a6 a7
  refine GCall.of false (by decide +kernel) (fun z => by cases z) (xle rfl) (xle rfl) (xle rfl) (xle rfl) (ggoA sX5_spell (xle rfl) [] 200 ⟨vp_in_nI (by omega) (by omega), vpq 1 1 rfl (by omega) (by omega), vpq 2 2 rfl (by omega) (by omega), vpq 3 3 rfl (by omega) (by omega), vpq 4 4 rfl (by omega) (by omega), vpq 5 5 rfl (by omega) (by omega), vpq 6 6 rfl (by omega) (by omega), vpq 7 7 rfl (by omega) (by omega), ⟨rfl, ?_⟩, rfl⟩)
  exact congrArg (fun V => w5 tc V T Bf) e
set_option maxRecDepth 100000 in
set_option maxHeartbeats 4000000 in
theorem l_X5_init (E : XEnv) (Q : XQ) (k : GAt E RX5 cX5_init 2 none true 50 1 16 Q 155 [(0, .ref 0), (1, .int (nI 10))] [] (w5 0 z0F z0F (mkF 10))) (j : Nat) : ∀ i, i + j = 10 → GAt E RX5 cX5_init 2 none true 50 1 16 Q 136 [(0, .ref 0), (1, .int (nI i))] [] (w5 0 z0F z0F (mkF i)) := by
  induction j with
  | zero =>
    intro i hi
    have e : i = 10 := by omega
    subst e
    exact ggoA sX5_init_B (xle rfl) [136, 155] 60 ⟨fun _ => k, fun y => absurd (nI_le (a := 10) (b := 10) (by omega) (by omega)) y⟩
  | succ j IH =>
    intro i hi
    have ci : (nI i).toNatClampNeg = i := nI_clamp (by omega)
    have ih := IH (i + 1) (by omega)
    rw [← mkF_s, nI_succ] at ih
    refine ggoA sX5_init_B (xle rfl) [136, 155] 60 ⟨fun y => absurd y (nI_ge (a := i) (b := 10) (by omega) (by omega)), fun _ => ⟨vp_in_nI (by omega) (by omega), ?_⟩⟩
    rw [ci]
    exact ih
def x5_0 : F32 := z0F
def x5_1 : F32 := spF x5_0 0 [109, 97, 107, 101, 115, 32, 115, 107]
def x5_2 : F32 := spF x5_1 8 [105, 108, 108, 32, 59, 32, 109, 101]
def x5_3 : F32 := spF x5_2 16 [110, 100, 115, 32, 49, 32, 59, 32]
def x5_4 : F32 := spF x5_3 24 [112, 117, 109, 112, 115, 32, 51, 32]
def x5_5 : F32 := spF x5_4 32 [59, 32, 32, 32, 32, 32, 32, 32]
set_option maxRecDepth 100000 in
set_option maxHeartbeats 4000000 in
theorem s5_0 (E : XEnv) (Q : XQ) (k : GAt E RX5 cX5_init 2 none true 50 1 16 Q 176 [(0, .ref 0), (1, .int (nI 10))] [] (w5 0 x5_1 z0F (mkF 10))) : GAt E RX5 cX5_init 2 none true 50 1 16 Q 155 [(0, .ref 0), (1, .int (nI 10))] [] (w5 0 x5_0 z0F (mkF 10)) := by
  refine ggoA sX5_init_C (xle rfl) [176] 60 ?_
  refine ⟨10, 16, 0, [], w5 0 x5_0 z0F (mkF 10), [.ref 0, .int 0, .int 109, .int 97, .int 107, .int 101, .int 115, .int 32, .int 115, .int 107], _, xle rfl, g_X5_spell E 0 x5_0 z0F (mkF 10) 0 (xle rfl) 109 97 107 101 115 32 115 107, rfl, rfl, ⟨xle rfl, xle rfl⟩, fun r σ1 _ hq => ?_⟩
  obtain ⟨rfl, rfl⟩ := hq
  exact k
set_option maxRecDepth 100000 in
set_option maxHeartbeats 4000000 in
theorem s5_1 (E : XEnv) (Q : XQ) (k : GAt E RX5 cX5_init 2 none true 50 1 16 Q 198 [(0, .ref 0), (1, .int (nI 10))] [] (w5 0 x5_2 z0F (mkF 10))) : GAt E RX5 cX5_init 2 none true 50 1 16 Q 176 [(0, .ref 0), (1, .int (nI 10))] [] (w5 0 x5_1 z0F (mkF 10)) := by
  refine ggoA sX5_init_C (xle rfl) [198] 60 ?_
  refine ⟨10, 16, 0, [], w5 0 x5_1 z0F (mkF 10), [.ref 0, .int 8, .int 105, .int 108, .int 108, .int 32, .int 59, .int 32, .int 109, .int 101], _, xle rfl, g_X5_spell E 0 x5_1 z0F (mkF 10) 8 (xle rfl) 105 108 108 32 59 32 109 101, rfl, rfl, ⟨xle rfl, xle rfl⟩, fun r σ1 _ hq => ?_⟩
  obtain ⟨rfl, rfl⟩ := hq
  exact k
set_option maxRecDepth 100000 in
set_option maxHeartbeats 4000000 in
theorem s5_2 (E : XEnv) (Q : XQ) (k : GAt E RX5 cX5_init 2 none true 50 1 16 Q 220 [(0, .ref 0), (1, .int (nI 10))] [] (w5 0 x5_3 z0F (mkF 10))) : GAt E RX5 cX5_init 2 none true 50 1 16 Q 198 [(0, .ref 0), (1, .int (nI 10))] [] (w5 0 x5_2 z0F (mkF 10)) := by
  refine ggoA sX5_init_C (xle rfl) [220] 60 ?_
  refine ⟨10, 16, 0, [], w5 0 x5_2 z0F (mkF 10), [.ref 0, .int 16, .int 110, .int 100, .int 115, .int 32, .int 49, .int 32, .int 59, .int 32], _, xle rfl, g_X5_spell E 0 x5_2 z0F (mkF 10) 16 (xle rfl) 110 100 115 32 49 32 59 32, rfl, rfl, ⟨xle rfl, xle rfl⟩, fun r σ1 _ hq => ?_⟩
  obtain ⟨rfl, rfl⟩ := hq
  exact k
set_option maxRecDepth 100000 in
set_option maxHeartbeats 4000000 in
theorem s5_3 (E : XEnv) (Q : XQ) (k : GAt E RX5 cX5_init 2 none true 50 1 16 Q 242 [(0, .ref 0), (1, .int (nI 10))] [] (w5 0 x5_4 z0F (mkF 10))) : GAt E RX5 cX5_init 2 none true 50 1 16 Q 220 [(0, .ref 0), (1, .int (nI 10))] [] (w5 0 x5_3 z0F (mkF 10)) := by
  refine ggoA sX5_init_C (xle rfl) [242] 60 ?_
  refine ⟨10, 16, 0, [], w5 0 x5_3 z0F (mkF 10), [.ref 0, .int 24, .int 112, .int 117, .int 109, .int 112, .int 115, .int 32, .int 51, .int 32], _, xle rfl, g_X5_spell E 0 x5_3 z0F (mkF 10) 24 (xle rfl) 112 117 109 112 115 32 51 32, rfl, rfl, ⟨xle rfl, xle rfl⟩, fun r σ1 _ hq => ?_⟩
  obtain ⟨rfl, rfl⟩ := hq
  exact k
set_option maxRecDepth 100000 in
set_option maxHeartbeats 4000000 in
theorem s5_4 (E : XEnv) (Q : XQ) (k : GAt E RX5 cX5_init 2 none true 50 1 16 Q 264 [(0, .ref 0), (1, .int (nI 10))] [] (w5 0 x5_5 z0F (mkF 10))) : GAt E RX5 cX5_init 2 none true 50 1 16 Q 242 [(0, .ref 0), (1, .int (nI 10))] [] (w5 0 x5_4 z0F (mkF 10)) := by
  refine ggoA sX5_init_C (xle rfl) [264] 60 ?_
  refine ⟨10, 16, 0, [], w5 0 x5_4 z0F (mkF 10), [.ref 0, .int 32, .int 59, .int 32, .int 32, .int 32, .int 32, .int 32, .int 32, .int 32], _, xle rfl, g_X5_spell E 0 x5_4 z0F (mkF 10) 32 (xle rfl) 59 32 32 32 32 32 32 32, rfl, rfl, ⟨xle rfl, xle rfl⟩, fun r σ1 _ hq => ?_⟩
  obtain ⟨rfl, rfl⟩ := hq
  exact k
def t5 : F32 := upd z0F 0 40
set_option maxRecDepth 100000 in
set_option maxHeartbeats 4000000 in
theorem g_X5_init (E : XEnv) : GCall E 50 16 yX5_init cX5_init 2 [.ref 0] [.inr (5, [.int 0, .null, .null, .int 0, .int 0, .null, .int 0, .int 0, .int 0, .int 0, .null, .null, .null, .int 0, .int 0, .int 0, .int 0, .int 0, .int 0, .int 0, .int 0, .int 0, .int 0, .int 0, .int 0, .long 0, .int 0, .int 0, .int 0, .null, .null, .int 0, .int 0, .int 0, .null, .null, .null, .int 0, .int 0, .int 0, .int 0, .int 0, .null, .null, .null, .null])] (fun r σ' => r = none ∧ σ' = w5 1 x5_5 t5 (mkF 10)) := by
  refine GCall.of true (by decide +kernel) (fun _ => rfl) (xle rfl) (xle rfl) (xle rfl) (xle rfl) (ggoA sX5_init_A (xle rfl) [136] 200 ⟨⟨by decide +kernel, by decide +kernel⟩, ⟨by decide +kernel, by decide +kernel⟩, ⟨by decide +kernel, by decide +kernel⟩, ⟨by decide +kernel, by decide +kernel⟩, ⟨by decide +kernel, by decide +kernel⟩, ⟨by decide +kernel, by decide +kernel⟩, ⟨by decide +kernel, by decide +kernel⟩, ⟨by decide +kernel, by decide +kernel⟩, ⟨by decide +kernel, by decide +kernel⟩, ⟨by decide +kernel, by decide +kernel⟩, ⟨by decide +kernel, by decide +kernel⟩, ⟨by decide +kernel, by decide +kernel⟩, ⟨by decide +kernel, by decide +kernel⟩, ⟨by decide +kernel, by decide +kernel⟩, ⟨by decide +kernel, by decide +kernel⟩, ?_⟩)
  have k := l_X5_init E (fun r σ' => (r = none ∧ σ' = w5 1 x5_5 t5 (mkF 10)) ∧ σ'.length = 16) (s5_0 E _ (s5_1 E _ (s5_2 E _ (s5_3 E _ (s5_4 E _ (ggoA sX5_init_C (xle rfl) [] 60 ⟨vpc 0 0 rfl (by decide) (by decide), ⟨rfl, rfl⟩, rfl⟩)))))) 10 0 rfl
  rw [mkF_0] at k
  exact k
