-- ===== the constructors =====
def z0F : F32 := fun _ => 0
def mkF (i : Nat) : F32 := fun j => if j < i then -1 else 0
theorem mkF_0 : mkF 0 = z0F := by
  funext j
  unfold mkF z0F
  rw [if_neg (by omega)]
theorem mkF_s (i : Nat) : upd (mkF i) i (-1) = mkF (i + 1) := by
  funext j
  unfold upd mkF
  by_cases e : j = i
  · rw [if_pos e, if_pos (by omega)]
  · rw [if_neg e]
    by_cases h : j < i
    · rw [if_pos h, if_pos (by omega)]
    · rw [if_neg h, if_neg (by omega)]
def stI : F32 := upd (upd (upd z0F 0 (-1)) 1 1) 2 3
def enI : F32 := upd (upd (upd z0F 0 1) 1 2) 2 3
theorem vpc {N : Nat} (n : Nat) (x : Int32) (hx : x = nI n) (h : n < N) (hN : N < 2 ^ 31) : vp_in x N := by
  rw [hx]
  exact vp_in_nI h hN
theorem vpq {N k : Nat} (j : Nat) (x : Int32) (hx : x = nI j) (h : k + j < N) (hN : N < 2 ^ 31) : vp_in (nI k + x) N := by
  rw [hx, nI_add]
  exact vp_in_nI h hN
set_option maxRecDepth 100000 in
set_option maxHeartbeats 4000000 in
theorem g_X0_init (E : XEnv) : GCall E 10 2 yX0_init cX0_init 1 [.ref 0] [.inr (0, [.null, .int 0, .int 0, .int 0, .int 0, .int 0, .int 0, .int 0, .null])] (fun r σ' => r = none ∧ σ' = [.inr (0, [.ref 1, .int 0, .int 0, .int 0, .int 0, .int 0, .int 0, .int 0, .null]), .inl (0, 160, .inl z0F)]) :=
  GCall.of true (by decide +kernel) (fun _ => rfl) (xle rfl) (xle rfl) (xle rfl) (xle rfl) (ggoA sX0_init (xle rfl) [] 60 ⟨⟨by decide +kernel, by decide +kernel⟩, ⟨rfl, rfl⟩, rfl⟩)
set_option maxRecDepth 100000 in
set_option maxHeartbeats 4000000 in
theorem g_X1_init (E : XEnv) : GCall E 10 2 yX1_init cX1_init 1 [.ref 0] [.inr (1, [.int 0, .int 0, .null])] (fun r σ' => r = none ∧ σ' = [.inr (1, [.int (-1), .int 0, .ref 1]), .inl (0, 40, .inl z0F)]) :=
  GCall.of true (by decide +kernel) (fun _ => rfl) (xle rfl) (xle rfl) (xle rfl) (xle rfl) (ggoA sX1_init (xle rfl) [] 60 ⟨⟨by decide +kernel, by decide +kernel⟩, ⟨rfl, rfl⟩, rfl⟩)
set_option maxRecDepth 100000 in
set_option maxHeartbeats 4000000 in
theorem g_X3_init (E : XEnv) (i : Int32) : GCall E 10 4 yX3_init cX3_init 2 [.ref 0, .int i] [.inr (3, [.int 0, .null, .null, .int 0, .null])] (fun r σ' => r = none ∧ σ' = [.inr (3, [.int i, .ref 1, .ref 2, .int 3, .ref 3]), .inl (0, 320, .inl stI), .inl (0, 3, .inl enI), .inl (0, 64, .inl z0F)]) :=
  GCall.of true (by decide +kernel) (fun _ => rfl) (xle rfl) (xle rfl) (xle rfl) (xle rfl) (ggoA sX3_init (xle rfl) [] 100 ⟨⟨by decide +kernel, by decide +kernel⟩, ⟨by decide +kernel, by decide +kernel⟩, ⟨by decide +kernel, by decide +kernel⟩, vpc 0 0 rfl (by decide) (by decide), vpc 1 1 rfl (by decide) (by decide), vpc 2 2 rfl (by decide) (by decide), vpc 0 0 rfl (by decide) (by decide), vpc 1 1 rfl (by decide) (by decide), vpc 2 2 rfl (by decide) (by decide), ⟨rfl, rfl⟩, rfl⟩)
def shG (f : F32) : XW := [.inr (2, [.ref 1, .ref 2, .int 0, .ref 3, .ref 4, .ref 5, .ref 6, .int 0, .int 20, .int 0, .ref 1000006, .ref 7]), .inl (0, 10, .inl f), .inl (0, 10, .inl z0F), .inl (0, 5, .inl z0F), .inl (0, 5, .inl z0F), .inl (0, 5, .inl z0F), .inl (0, 5, .inl z0F), .inl (0, 6, .inl z0F)]
set_option maxRecDepth 100000 in
set_option maxHeartbeats 4000000 in
theorem l_X2_init (E : XEnv) (Q : XQ) (k : GAt E RX2 cX2_init 3 none true 10 1 8 Q 88 [(0, .ref 0), (1, .ref 1000006), (2, .int (nI 10))] [] (shG (mkF 10))) (j : Nat) : ∀ i, i + j = 10 → GAt E RX2 cX2_init 3 none true 10 1 8 Q 69 [(0, .ref 0), (1, .ref 1000006), (2, .int (nI i))] [] (shG (mkF i)) := by
  induction j with
  | zero =>
    intro i hi
    have e : i = 10 := by omega
    subst e
    exact ggoA sX2_init (xle rfl) [69, 88] 60 ⟨fun _ => k, fun y => absurd (nI_le (a := 10) (b := 10) (by omega) (by omega)) y⟩
  | succ j IH =>
    intro i hi
    have ci : (nI i).toNatClampNeg = i := nI_clamp (by omega)
    have ih := IH (i + 1) (by omega)
    rw [← mkF_s, nI_succ] at ih
    refine ggoA sX2_init (xle rfl) [69, 88] 60 ⟨fun y => absurd y (nI_ge (a := i) (b := 10) (by omega) (by omega)), fun _ => ⟨vp_in_nI (by omega) (by omega), ?_⟩⟩
    rw [ci]
    exact ih
set_option maxRecDepth 100000 in
set_option maxHeartbeats 4000000 in
theorem g_X2_init (E : XEnv) : GCall E 10 8 yX2_init cX2_init 3 [.ref 0, .ref 1000006] [.inr (2, [.null, .null, .int 0, .null, .null, .null, .null, .int 0, .int 0, .int 0, .null, .null])] (fun r σ' => r = none ∧ σ' = shG (mkF 10)) := by
  refine GCall.of true (by decide +kernel) (fun _ => rfl) (xle rfl) (xle rfl) (xle rfl) (xle rfl) (ggoA sX2_init (xle rfl) [69] 100 ⟨⟨by decide +kernel, by decide +kernel⟩, ⟨by decide +kernel, by decide +kernel⟩, ⟨by decide +kernel, by decide +kernel⟩, ⟨by decide +kernel, by decide +kernel⟩, ⟨by decide +kernel, by decide +kernel⟩, ⟨by decide +kernel, by decide +kernel⟩, ⟨by decide +kernel, by decide +kernel⟩, ?_⟩)
  have k := l_X2_init E (fun r σ' => (r = none ∧ σ' = shG (mkF 10)) ∧ σ'.length = 8) (ggoA sX2_init (xle rfl) [] 60 ⟨⟨rfl, rfl⟩, rfl⟩) 10 0 rfl
  rw [mkF_0] at k
  exact k
def tf0 : Nat → Option Nat := fun _ => none
def tf1 : Nat → Option Nat := va_up tf0 0 (some 2)
def tf2 : Nat → Option Nat := va_up tf1 1 (some 6)
def tf3 : Nat → Option Nat := va_up tf2 2 (some 10)
def tf4 : Nat → Option Nat := va_up tf3 3 (some 14)
def tf5 : Nat → Option Nat := va_up tf4 4 (some 18)
def tf6 : Nat → Option Nat := va_up tf5 5 (some 22)
def sf0 : Nat → Option Nat := fun _ => none
def sf1 : Nat → Option Nat := va_up sf0 0 (some 53)
def sf2 : Nat → Option Nat := va_up sf1 1 (some 55)
def sf3 : Nat → Option Nat := va_up sf2 2 (some 57)
def sf4 : Nat → Option Nat := va_up sf3 3 (some 59)
def w4b0 : XW := [.inr (4, [.ref 1, .int 0, .null, .null, .null, .null, .int 0, .null]), .inl (2, 6, .inr (.inr (.inr (.inr tf0))))]
def w4b1 : XW := [.inr (4, [.ref 1, .int 0, .null, .null, .null, .null, .int 0, .null]), .inl (2, 6, .inr (.inr (.inr (.inr tf1)))), .inr (3, [.int 0, .ref 3, .ref 4, .int 3, .ref 5]), .inl (0, 320, .inl stI), .inl (0, 3, .inl enI), .inl (0, 64, .inl z0F)]
def w4b2 : XW := [.inr (4, [.ref 1, .int 0, .null, .null, .null, .null, .int 0, .null]), .inl (2, 6, .inr (.inr (.inr (.inr tf2)))), .inr (3, [.int 0, .ref 3, .ref 4, .int 3, .ref 5]), .inl (0, 320, .inl stI), .inl (0, 3, .inl enI), .inl (0, 64, .inl z0F), .inr (3, [.int 1, .ref 7, .ref 8, .int 3, .ref 9]), .inl (0, 320, .inl stI), .inl (0, 3, .inl enI), .inl (0, 64, .inl z0F)]
def w4b3 : XW := [.inr (4, [.ref 1, .int 0, .null, .null, .null, .null, .int 0, .null]), .inl (2, 6, .inr (.inr (.inr (.inr tf3)))), .inr (3, [.int 0, .ref 3, .ref 4, .int 3, .ref 5]), .inl (0, 320, .inl stI), .inl (0, 3, .inl enI), .inl (0, 64, .inl z0F), .inr (3, [.int 1, .ref 7, .ref 8, .int 3, .ref 9]), .inl (0, 320, .inl stI), .inl (0, 3, .inl enI), .inl (0, 64, .inl z0F), .inr (3, [.int 2, .ref 11, .ref 12, .int 3, .ref 13]), .inl (0, 320, .inl stI), .inl (0, 3, .inl enI), .inl (0, 64, .inl z0F)]
def w4b4 : XW := [.inr (4, [.ref 1, .int 0, .null, .null, .null, .null, .int 0, .null]), .inl (2, 6, .inr (.inr (.inr (.inr tf4)))), .inr (3, [.int 0, .ref 3, .ref 4, .int 3, .ref 5]), .inl (0, 320, .inl stI), .inl (0, 3, .inl enI), .inl (0, 64, .inl z0F), .inr (3, [.int 1, .ref 7, .ref 8, .int 3, .ref 9]), .inl (0, 320, .inl stI), .inl (0, 3, .inl enI), .inl (0, 64, .inl z0F), .inr (3, [.int 2, .ref 11, .ref 12, .int 3, .ref 13]), .inl (0, 320, .inl stI), .inl (0, 3, .inl enI), .inl (0, 64, .inl z0F), .inr (3, [.int 3, .ref 15, .ref 16, .int 3, .ref 17]), .inl (0, 320, .inl stI), .inl (0, 3, .inl enI), .inl (0, 64, .inl z0F)]
def w4b5 : XW := [.inr (4, [.ref 1, .int 0, .null, .null, .null, .null, .int 0, .null]), .inl (2, 6, .inr (.inr (.inr (.inr tf5)))), .inr (3, [.int 0, .ref 3, .ref 4, .int 3, .ref 5]), .inl (0, 320, .inl stI), .inl (0, 3, .inl enI), .inl (0, 64, .inl z0F), .inr (3, [.int 1, .ref 7, .ref 8, .int 3, .ref 9]), .inl (0, 320, .inl stI), .inl (0, 3, .inl enI), .inl (0, 64, .inl z0F), .inr (3, [.int 2, .ref 11, .ref 12, .int 3, .ref 13]), .inl (0, 320, .inl stI), .inl (0, 3, .inl enI), .inl (0, 64, .inl z0F), .inr (3, [.int 3, .ref 15, .ref 16, .int 3, .ref 17]), .inl (0, 320, .inl stI), .inl (0, 3, .inl enI), .inl (0, 64, .inl z0F), .inr (3, [.int 4, .ref 19, .ref 20, .int 3, .ref 21]), .inl (0, 320, .inl stI), .inl (0, 3, .inl enI), .inl (0, 64, .inl z0F)]
def w4b6 : XW := [.inr (4, [.ref 1, .int 0, .null, .null, .null, .null, .int 0, .null]), .inl (2, 6, .inr (.inr (.inr (.inr tf6)))), .inr (3, [.int 0, .ref 3, .ref 4, .int 3, .ref 5]), .inl (0, 320, .inl stI), .inl (0, 3, .inl enI), .inl (0, 64, .inl z0F), .inr (3, [.int 1, .ref 7, .ref 8, .int 3, .ref 9]), .inl (0, 320, .inl stI), .inl (0, 3, .inl enI), .inl (0, 64, .inl z0F), .inr (3, [.int 2, .ref 11, .ref 12, .int 3, .ref 13]), .inl (0, 320, .inl stI), .inl (0, 3, .inl enI), .inl (0, 64, .inl z0F), .inr (3, [.int 3, .ref 15, .ref 16, .int 3, .ref 17]), .inl (0, 320, .inl stI), .inl (0, 3, .inl enI), .inl (0, 64, .inl z0F), .inr (3, [.int 4, .ref 19, .ref 20, .int 3, .ref 21]), .inl (0, 320, .inl stI), .inl (0, 3, .inl enI), .inl (0, 64, .inl z0F), .inr (3, [.int 5, .ref 23, .ref 24, .int 3, .ref 25]), .inl (0, 320, .inl stI), .inl (0, 3, .inl enI), .inl (0, 64, .inl z0F)]
set_option maxRecDepth 100000 in
set_option maxHeartbeats 4000000 in
theorem b4_0 (E : XEnv) (Q : XQ) (k : GAt E RX4 cX4_init 2 none true 50 1 61 Q 15 [(0, .ref 0), (1, .int 1)] [] w4b1) : GAt E RX4 cX4_init 2 none true 50 1 61 Q 15 [(0, .ref 0), (1, .int 0)] [] w4b0 := by
  have k1 : GAt E RX4 cX4_init 2 none true 50 1 61 Q 15 [(0, .ref 0), (1, .int (0 + 1))] [] w4b1 := by
    rw [show ((0 : Int32) + 1) = 1 from by decide +kernel]
    exact k
  refine ggoA sX4_init_B0 (xle rfl) [15, 41] 60 ⟨fun z => absurd z (by decide +kernel), fun _ => ?_⟩
  refine ⟨10, 4, 0, w4b0, [.inr (3, [.int 0, .null, .null, .int 0, .null])], [.ref 0, .int 0], _, xle rfl, g_X3_init E 0, rfl, rfl, ⟨xle rfl, xle rfl⟩, fun r σ1 _ hq => ?_⟩
  obtain ⟨rfl, rfl⟩ := hq
  exact ⟨vpc 0 0 rfl (by decide) (by decide), k1⟩
set_option maxRecDepth 100000 in
set_option maxHeartbeats 4000000 in
theorem b4_1 (E : XEnv) (Q : XQ) (k : GAt E RX4 cX4_init 2 none true 50 1 61 Q 15 [(0, .ref 0), (1, .int 2)] [] w4b2) : GAt E RX4 cX4_init 2 none true 50 1 61 Q 15 [(0, .ref 0), (1, .int 1)] [] w4b1 := by
  have k1 : GAt E RX4 cX4_init 2 none true 50 1 61 Q 15 [(0, .ref 0), (1, .int (1 + 1))] [] w4b2 := by
    rw [show ((1 : Int32) + 1) = 2 from by decide +kernel]
    exact k
  refine ggoA sX4_init_B1 (xle rfl) [15, 41] 60 ⟨fun z => absurd z (by decide +kernel), fun _ => ?_⟩
  refine ⟨10, 4, 0, w4b1, [.inr (3, [.int 0, .null, .null, .int 0, .null])], [.ref 0, .int 1], _, xle rfl, g_X3_init E 1, rfl, rfl, ⟨xle rfl, xle rfl⟩, fun r σ1 _ hq => ?_⟩
  obtain ⟨rfl, rfl⟩ := hq
  exact ⟨vpc 1 1 rfl (by decide) (by decide), k1⟩
set_option maxRecDepth 100000 in
set_option maxHeartbeats 4000000 in
theorem b4_2 (E : XEnv) (Q : XQ) (k : GAt E RX4 cX4_init 2 none true 50 1 61 Q 15 [(0, .ref 0), (1, .int 3)] [] w4b3) : GAt E RX4 cX4_init 2 none true 50 1 61 Q 15 [(0, .ref 0), (1, .int 2)] [] w4b2 := by
  have k1 : GAt E RX4 cX4_init 2 none true 50 1 61 Q 15 [(0, .ref 0), (1, .int (2 + 1))] [] w4b3 := by
    rw [show ((2 : Int32) + 1) = 3 from by decide +kernel]
    exact k
  refine ggoA sX4_init_B2 (xle rfl) [15, 41] 60 ⟨fun z => absurd z (by decide +kernel), fun _ => ?_⟩
  refine ⟨10, 4, 0, w4b2, [.inr (3, [.int 0, .null, .null, .int 0, .null])], [.ref 0, .int 2], _, xle rfl, g_X3_init E 2, rfl, rfl, ⟨xle rfl, xle rfl⟩, fun r σ1 _ hq => ?_⟩
  obtain ⟨rfl, rfl⟩ := hq
  exact ⟨vpc 2 2 rfl (by decide) (by decide), k1⟩
set_option maxRecDepth 100000 in
set_option maxHeartbeats 4000000 in
theorem b4_3 (E : XEnv) (Q : XQ) (k : GAt E RX4 cX4_init 2 none true 50 1 61 Q 15 [(0, .ref 0), (1, .int 4)] [] w4b4) : GAt E RX4 cX4_init 2 none true 50 1 61 Q 15 [(0, .ref 0), (1, .int 3)] [] w4b3 := by
  have k1 : GAt E RX4 cX4_init 2 none true 50 1 61 Q 15 [(0, .ref 0), (1, .int (3 + 1))] [] w4b4 := by
    rw [show ((3 : Int32) + 1) = 4 from by decide +kernel]
    exact k
  refine ggoA sX4_init_B3 (xle rfl) [15, 41] 60 ⟨fun z => absurd z (by decide +kernel), fun _ => ?_⟩
  refine ⟨10, 4, 0, w4b3, [.inr (3, [.int 0, .null, .null, .int 0, .null])], [.ref 0, .int 3], _, xle rfl, g_X3_init E 3, rfl, rfl, ⟨xle rfl, xle rfl⟩, fun r σ1 _ hq => ?_⟩
  obtain ⟨rfl, rfl⟩ := hq
  exact ⟨vpc 3 3 rfl (by decide) (by decide), k1⟩
set_option maxRecDepth 100000 in
set_option maxHeartbeats 4000000 in
theorem b4_4 (E : XEnv) (Q : XQ) (k : GAt E RX4 cX4_init 2 none true 50 1 61 Q 15 [(0, .ref 0), (1, .int 5)] [] w4b5) : GAt E RX4 cX4_init 2 none true 50 1 61 Q 15 [(0, .ref 0), (1, .int 4)] [] w4b4 := by
  have k1 : GAt E RX4 cX4_init 2 none true 50 1 61 Q 15 [(0, .ref 0), (1, .int (4 + 1))] [] w4b5 := by
    rw [show ((4 : Int32) + 1) = 5 from by decide +kernel]
    exact k
  refine ggoA sX4_init_B4 (xle rfl) [15, 41] 60 ⟨fun z => absurd z (by decide +kernel), fun _ => ?_⟩
  refine ⟨10, 4, 0, w4b4, [.inr (3, [.int 0, .null, .null, .int 0, .null])], [.ref 0, .int 4], _, xle rfl, g_X3_init E 4, rfl, rfl, ⟨xle rfl, xle rfl⟩, fun r σ1 _ hq => ?_⟩
  obtain ⟨rfl, rfl⟩ := hq
  exact ⟨vpc 4 4 rfl (by decide) (by decide), k1⟩
set_option maxRecDepth 100000 in
set_option maxHeartbeats 4000000 in
theorem b4_5 (E : XEnv) (Q : XQ) (k : GAt E RX4 cX4_init 2 none true 50 1 61 Q 15 [(0, .ref 0), (1, .int 6)] [] w4b6) : GAt E RX4 cX4_init 2 none true 50 1 61 Q 15 [(0, .ref 0), (1, .int 5)] [] w4b5 := by
  have k1 : GAt E RX4 cX4_init 2 none true 50 1 61 Q 15 [(0, .ref 0), (1, .int (5 + 1))] [] w4b6 := by
    rw [show ((5 : Int32) + 1) = 6 from by decide +kernel]
    exact k
  refine ggoA sX4_init_B5 (xle rfl) [15, 41] 60 ⟨fun z => absurd z (by decide +kernel), fun _ => ?_⟩
  refine ⟨10, 4, 0, w4b5, [.inr (3, [.int 0, .null, .null, .int 0, .null])], [.ref 0, .int 5], _, xle rfl, g_X3_init E 5, rfl, rfl, ⟨xle rfl, xle rfl⟩, fun r σ1 _ hq => ?_⟩
  obtain ⟨rfl, rfl⟩ := hq
  exact ⟨vpc 5 5 rfl (by decide) (by decide), k1⟩
set_option maxRecDepth 100000 in
set_option maxHeartbeats 4000000 in
theorem b4_6 (E : XEnv) (Q : XQ) (k : GAt E RX4 cX4_init 2 none true 50 1 61 Q 41 [(0, .ref 0), (1, .int 6)] [] w4b6) : GAt E RX4 cX4_init 2 none true 50 1 61 Q 15 [(0, .ref 0), (1, .int 6)] [] w4b6 :=
  ggoA sX4_init_B0 (xle rfl) [41] 60 ⟨fun _ => k, fun z => absurd (by decide +kernel) z⟩
def w4c1 : XW := [.inr (4, [.ref 1, .int 1, .ref 26, .null, .null, .null, .int 0, .null]), .inl (2, 6, .inr (.inr (.inr (.inr tf6)))), .inr (3, [.int 0, .ref 3, .ref 4, .int 3, .ref 5]), .inl (0, 320, .inl stI), .inl (0, 3, .inl enI), .inl (0, 64, .inl z0F), .inr (3, [.int 1, .ref 7, .ref 8, .int 3, .ref 9]), .inl (0, 320, .inl stI), .inl (0, 3, .inl enI), .inl (0, 64, .inl z0F), .inr (3, [.int 2, .ref 11, .ref 12, .int 3, .ref 13]), .inl (0, 320, .inl stI), .inl (0, 3, .inl enI), .inl (0, 64, .inl z0F), .inr (3, [.int 3, .ref 15, .ref 16, .int 3, .ref 17]), .inl (0, 320, .inl stI), .inl (0, 3, .inl enI), .inl (0, 64, .inl z0F), .inr (3, [.int 4, .ref 19, .ref 20, .int 3, .ref 21]), .inl (0, 320, .inl stI), .inl (0, 3, .inl enI), .inl (0, 64, .inl z0F), .inr (3, [.int 5, .ref 23, .ref 24, .int 3, .ref 25]), .inl (0, 320, .inl stI), .inl (0, 3, .inl enI), .inl (0, 64, .inl z0F), .inr (0, [.ref 27, .int 0, .int 0, .int 0, .int 0, .int 0, .int 0, .int 0, .null]), .inl (0, 160, .inl z0F)]
set_option maxRecDepth 100000 in
set_option maxHeartbeats 4000000 in
theorem c4_1 (E : XEnv) (Q : XQ) (k : GAt E RX4 cX4_init 2 none true 50 1 61 Q 57 [(0, .ref 0), (1, .int 6)] [] w4c1) : GAt E RX4 cX4_init 2 none true 50 1 61 Q 41 [(0, .ref 0), (1, .int 6)] [] w4b6 := by
  refine ggoA sX4_init_C (xle rfl) [57] 60 ?_
  refine ⟨10, 2, 0, [.inr (4, [.ref 1, .int 1, .null, .null, .null, .null, .int 0, .null]), .inl (2, 6, .inr (.inr (.inr (.inr tf6)))), .inr (3, [.int 0, .ref 3, .ref 4, .int 3, .ref 5]), .inl (0, 320, .inl stI), .inl (0, 3, .inl enI), .inl (0, 64, .inl z0F), .inr (3, [.int 1, .ref 7, .ref 8, .int 3, .ref 9]), .inl (0, 320, .inl stI), .inl (0, 3, .inl enI), .inl (0, 64, .inl z0F), .inr (3, [.int 2, .ref 11, .ref 12, .int 3, .ref 13]), .inl (0, 320, .inl stI), .inl (0, 3, .inl enI), .inl (0, 64, .inl z0F), .inr (3, [.int 3, .ref 15, .ref 16, .int 3, .ref 17]), .inl (0, 320, .inl stI), .inl (0, 3, .inl enI), .inl (0, 64, .inl z0F), .inr (3, [.int 4, .ref 19, .ref 20, .int 3, .ref 21]), .inl (0, 320, .inl stI), .inl (0, 3, .inl enI), .inl (0, 64, .inl z0F), .inr (3, [.int 5, .ref 23, .ref 24, .int 3, .ref 25]), .inl (0, 320, .inl stI), .inl (0, 3, .inl enI), .inl (0, 64, .inl z0F)], [.inr (0, [.null, .int 0, .int 0, .int 0, .int 0, .int 0, .int 0, .int 0, .null])], [.ref 0], _, xle rfl, g_X0_init E, rfl, rfl, ⟨xle rfl, xle rfl⟩, fun r σ1 _ hq => ?_⟩
  obtain ⟨rfl, rfl⟩ := hq
  exact k
def w4c2 : XW := [.inr (4, [.ref 1, .int 1, .ref 26, .ref 28, .null, .null, .int 0, .null]), .inl (2, 6, .inr (.inr (.inr (.inr tf6)))), .inr (3, [.int 0, .ref 3, .ref 4, .int 3, .ref 5]), .inl (0, 320, .inl stI), .inl (0, 3, .inl enI), .inl (0, 64, .inl z0F), .inr (3, [.int 1, .ref 7, .ref 8, .int 3, .ref 9]), .inl (0, 320, .inl stI), .inl (0, 3, .inl enI), .inl (0, 64, .inl z0F), .inr (3, [.int 2, .ref 11, .ref 12, .int 3, .ref 13]), .inl (0, 320, .inl stI), .inl (0, 3, .inl enI), .inl (0, 64, .inl z0F), .inr (3, [.int 3, .ref 15, .ref 16, .int 3, .ref 17]), .inl (0, 320, .inl stI), .inl (0, 3, .inl enI), .inl (0, 64, .inl z0F), .inr (3, [.int 4, .ref 19, .ref 20, .int 3, .ref 21]), .inl (0, 320, .inl stI), .inl (0, 3, .inl enI), .inl (0, 64, .inl z0F), .inr (3, [.int 5, .ref 23, .ref 24, .int 3, .ref 25]), .inl (0, 320, .inl stI), .inl (0, 3, .inl enI), .inl (0, 64, .inl z0F), .inr (0, [.ref 27, .int 0, .int 0, .int 0, .int 0, .int 0, .int 0, .int 0, .null]), .inl (0, 160, .inl z0F), .inr (2, [.ref 29, .ref 30, .int 0, .ref 31, .ref 32, .ref 33, .ref 34, .int 0, .int 20, .int 0, .ref 2, .ref 35]), .inl (0, 10, .inl (mkF 10)), .inl (0, 10, .inl z0F), .inl (0, 5, .inl z0F), .inl (0, 5, .inl z0F), .inl (0, 5, .inl z0F), .inl (0, 5, .inl z0F), .inl (0, 6, .inl z0F)]
set_option maxRecDepth 100000 in
set_option maxHeartbeats 4000000 in
theorem c4_2 (E : XEnv) (Q : XQ) (k : GAt E RX4 cX4_init 2 none true 50 1 61 Q 74 [(0, .ref 0), (1, .int 6)] [] w4c2) : GAt E RX4 cX4_init 2 none true 50 1 61 Q 57 [(0, .ref 0), (1, .int 6)] [] w4c1 := by
  refine ggoA sX4_init_C (xle rfl) [74] 60 ⟨vpc 0 0 rfl (by decide) (by decide), 2, rfl, ?_⟩
  refine ⟨10, 8, 2, w4c1, [.inr (2, [.null, .null, .int 0, .null, .null, .null, .null, .int 0, .int 0, .int 0, .null, .null])], [.ref 0, .ref 1000006], _, xle rfl, g_X2_init E, rfl, rfl, ⟨xle rfl, xle rfl⟩, fun r σ1 _ hq => ?_⟩
  obtain ⟨rfl, rfl⟩ := hq
  exact k
def w4c3 : XW := [.inr (4, [.ref 1, .int 1, .ref 26, .ref 28, .ref 36, .null, .int 0, .null]), .inl (2, 6, .inr (.inr (.inr (.inr tf6)))), .inr (3, [.int 0, .ref 3, .ref 4, .int 3, .ref 5]), .inl (0, 320, .inl stI), .inl (0, 3, .inl enI), .inl (0, 64, .inl z0F), .inr (3, [.int 1, .ref 7, .ref 8, .int 3, .ref 9]), .inl (0, 320, .inl stI), .inl (0, 3, .inl enI), .inl (0, 64, .inl z0F), .inr (3, [.int 2, .ref 11, .ref 12, .int 3, .ref 13]), .inl (0, 320, .inl stI), .inl (0, 3, .inl enI), .inl (0, 64, .inl z0F), .inr (3, [.int 3, .ref 15, .ref 16, .int 3, .ref 17]), .inl (0, 320, .inl stI), .inl (0, 3, .inl enI), .inl (0, 64, .inl z0F), .inr (3, [.int 4, .ref 19, .ref 20, .int 3, .ref 21]), .inl (0, 320, .inl stI), .inl (0, 3, .inl enI), .inl (0, 64, .inl z0F), .inr (3, [.int 5, .ref 23, .ref 24, .int 3, .ref 25]), .inl (0, 320, .inl stI), .inl (0, 3, .inl enI), .inl (0, 64, .inl z0F), .inr (0, [.ref 27, .int 0, .int 0, .int 0, .int 0, .int 0, .int 0, .int 0, .null]), .inl (0, 160, .inl z0F), .inr (2, [.ref 29, .ref 30, .int 0, .ref 31, .ref 32, .ref 33, .ref 34, .int 0, .int 20, .int 0, .ref 2, .ref 35]), .inl (0, 10, .inl (mkF 10)), .inl (0, 10, .inl z0F), .inl (0, 5, .inl z0F), .inl (0, 5, .inl z0F), .inl (0, 5, .inl z0F), .inl (0, 5, .inl z0F), .inl (0, 6, .inl z0F), .inr (2, [.ref 37, .ref 38, .int 0, .ref 39, .ref 40, .ref 41, .ref 42, .int 0, .int 20, .int 0, .ref 2, .ref 43]), .inl (0, 10, .inl (mkF 10)), .inl (0, 10, .inl z0F), .inl (0, 5, .inl z0F), .inl (0, 5, .inl z0F), .inl (0, 5, .inl z0F), .inl (0, 5, .inl z0F), .inl (0, 6, .inl z0F)]
set_option maxRecDepth 100000 in
set_option maxHeartbeats 4000000 in
theorem c4_3 (E : XEnv) (Q : XQ) (k : GAt E RX4 cX4_init 2 none true 50 1 61 Q 91 [(0, .ref 0), (1, .int 6)] [] w4c3) : GAt E RX4 cX4_init 2 none true 50 1 61 Q 74 [(0, .ref 0), (1, .int 6)] [] w4c2 := by
  refine ggoA sX4_init_C (xle rfl) [91] 60 ⟨vpc 0 0 rfl (by decide) (by decide), 2, rfl, ?_⟩
  refine ⟨10, 8, 2, w4c2, [.inr (2, [.null, .null, .int 0, .null, .null, .null, .null, .int 0, .int 0, .int 0, .null, .null])], [.ref 0, .ref 1000006], _, xle rfl, g_X2_init E, rfl, rfl, ⟨xle rfl, xle rfl⟩, fun r σ1 _ hq => ?_⟩
  obtain ⟨rfl, rfl⟩ := hq
  exact k
def w4c4 : XW := [.inr (4, [.ref 1, .int 1, .ref 26, .ref 28, .ref 36, .ref 44, .int 0, .null]), .inl (2, 6, .inr (.inr (.inr (.inr tf6)))), .inr (3, [.int 0, .ref 3, .ref 4, .int 3, .ref 5]), .inl (0, 320, .inl stI), .inl (0, 3, .inl enI), .inl (0, 64, .inl z0F), .inr (3, [.int 1, .ref 7, .ref 8, .int 3, .ref 9]), .inl (0, 320, .inl stI), .inl (0, 3, .inl enI), .inl (0, 64, .inl z0F), .inr (3, [.int 2, .ref 11, .ref 12, .int 3, .ref 13]), .inl (0, 320, .inl stI), .inl (0, 3, .inl enI), .inl (0, 64, .inl z0F), .inr (3, [.int 3, .ref 15, .ref 16, .int 3, .ref 17]), .inl (0, 320, .inl stI), .inl (0, 3, .inl enI), .inl (0, 64, .inl z0F), .inr (3, [.int 4, .ref 19, .ref 20, .int 3, .ref 21]), .inl (0, 320, .inl stI), .inl (0, 3, .inl enI), .inl (0, 64, .inl z0F), .inr (3, [.int 5, .ref 23, .ref 24, .int 3, .ref 25]), .inl (0, 320, .inl stI), .inl (0, 3, .inl enI), .inl (0, 64, .inl z0F), .inr (0, [.ref 27, .int 0, .int 0, .int 0, .int 0, .int 0, .int 0, .int 0, .null]), .inl (0, 160, .inl z0F), .inr (2, [.ref 29, .ref 30, .int 0, .ref 31, .ref 32, .ref 33, .ref 34, .int 0, .int 20, .int 0, .ref 2, .ref 35]), .inl (0, 10, .inl (mkF 10)), .inl (0, 10, .inl z0F), .inl (0, 5, .inl z0F), .inl (0, 5, .inl z0F), .inl (0, 5, .inl z0F), .inl (0, 5, .inl z0F), .inl (0, 6, .inl z0F), .inr (2, [.ref 37, .ref 38, .int 0, .ref 39, .ref 40, .ref 41, .ref 42, .int 0, .int 20, .int 0, .ref 2, .ref 43]), .inl (0, 10, .inl (mkF 10)), .inl (0, 10, .inl z0F), .inl (0, 5, .inl z0F), .inl (0, 5, .inl z0F), .inl (0, 5, .inl z0F), .inl (0, 5, .inl z0F), .inl (0, 6, .inl z0F), .inr (2, [.ref 45, .ref 46, .int 0, .ref 47, .ref 48, .ref 49, .ref 50, .int 0, .int 20, .int 0, .ref 2, .ref 51]), .inl (0, 10, .inl (mkF 10)), .inl (0, 10, .inl z0F), .inl (0, 5, .inl z0F), .inl (0, 5, .inl z0F), .inl (0, 5, .inl z0F), .inl (0, 5, .inl z0F), .inl (0, 6, .inl z0F)]
set_option maxRecDepth 100000 in
set_option maxHeartbeats 4000000 in
theorem c4_4 (E : XEnv) (Q : XQ) (k : GAt E RX4 cX4_init 2 none true 50 1 61 Q 108 [(0, .ref 0), (1, .int 6)] [] w4c4) : GAt E RX4 cX4_init 2 none true 50 1 61 Q 91 [(0, .ref 0), (1, .int 6)] [] w4c3 := by
  refine ggoA sX4_init_C (xle rfl) [108] 60 ⟨vpc 0 0 rfl (by decide) (by decide), 2, rfl, ?_⟩
  refine ⟨10, 8, 2, w4c3, [.inr (2, [.null, .null, .int 0, .null, .null, .null, .null, .int 0, .int 0, .int 0, .null, .null])], [.ref 0, .ref 1000006], _, xle rfl, g_X2_init E, rfl, rfl, ⟨xle rfl, xle rfl⟩, fun r σ1 _ hq => ?_⟩
  obtain ⟨rfl, rfl⟩ := hq
  exact k
def w4d0 : XW := [.inr (4, [.ref 1, .int 1, .ref 26, .ref 28, .ref 36, .ref 44, .int 0, .ref 52]), .inl (2, 6, .inr (.inr (.inr (.inr tf6)))), .inr (3, [.int 0, .ref 3, .ref 4, .int 3, .ref 5]), .inl (0, 320, .inl stI), .inl (0, 3, .inl enI), .inl (0, 64, .inl z0F), .inr (3, [.int 1, .ref 7, .ref 8, .int 3, .ref 9]), .inl (0, 320, .inl stI), .inl (0, 3, .inl enI), .inl (0, 64, .inl z0F), .inr (3, [.int 2, .ref 11, .ref 12, .int 3, .ref 13]), .inl (0, 320, .inl stI), .inl (0, 3, .inl enI), .inl (0, 64, .inl z0F), .inr (3, [.int 3, .ref 15, .ref 16, .int 3, .ref 17]), .inl (0, 320, .inl stI), .inl (0, 3, .inl enI), .inl (0, 64, .inl z0F), .inr (3, [.int 4, .ref 19, .ref 20, .int 3, .ref 21]), .inl (0, 320, .inl stI), .inl (0, 3, .inl enI), .inl (0, 64, .inl z0F), .inr (3, [.int 5, .ref 23, .ref 24, .int 3, .ref 25]), .inl (0, 320, .inl stI), .inl (0, 3, .inl enI), .inl (0, 64, .inl z0F), .inr (0, [.ref 27, .int 0, .int 0, .int 0, .int 0, .int 0, .int 0, .int 0, .null]), .inl (0, 160, .inl z0F), .inr (2, [.ref 29, .ref 30, .int 0, .ref 31, .ref 32, .ref 33, .ref 34, .int 0, .int 20, .int 0, .ref 2, .ref 35]), .inl (0, 10, .inl (mkF 10)), .inl (0, 10, .inl z0F), .inl (0, 5, .inl z0F), .inl (0, 5, .inl z0F), .inl (0, 5, .inl z0F), .inl (0, 5, .inl z0F), .inl (0, 6, .inl z0F), .inr (2, [.ref 37, .ref 38, .int 0, .ref 39, .ref 40, .ref 41, .ref 42, .int 0, .int 20, .int 0, .ref 2, .ref 43]), .inl (0, 10, .inl (mkF 10)), .inl (0, 10, .inl z0F), .inl (0, 5, .inl z0F), .inl (0, 5, .inl z0F), .inl (0, 5, .inl z0F), .inl (0, 5, .inl z0F), .inl (0, 6, .inl z0F), .inr (2, [.ref 45, .ref 46, .int 0, .ref 47, .ref 48, .ref 49, .ref 50, .int 0, .int 20, .int 0, .ref 2, .ref 51]), .inl (0, 10, .inl (mkF 10)), .inl (0, 10, .inl z0F), .inl (0, 5, .inl z0F), .inl (0, 5, .inl z0F), .inl (0, 5, .inl z0F), .inl (0, 5, .inl z0F), .inl (0, 6, .inl z0F), .inl (3, 4, .inr (.inr (.inr (.inr sf0))))]
def w4d1 : XW := [.inr (4, [.ref 1, .int 1, .ref 26, .ref 28, .ref 36, .ref 44, .int 0, .ref 52]), .inl (2, 6, .inr (.inr (.inr (.inr tf6)))), .inr (3, [.int 0, .ref 3, .ref 4, .int 3, .ref 5]), .inl (0, 320, .inl stI), .inl (0, 3, .inl enI), .inl (0, 64, .inl z0F), .inr (3, [.int 1, .ref 7, .ref 8, .int 3, .ref 9]), .inl (0, 320, .inl stI), .inl (0, 3, .inl enI), .inl (0, 64, .inl z0F), .inr (3, [.int 2, .ref 11, .ref 12, .int 3, .ref 13]), .inl (0, 320, .inl stI), .inl (0, 3, .inl enI), .inl (0, 64, .inl z0F), .inr (3, [.int 3, .ref 15, .ref 16, .int 3, .ref 17]), .inl (0, 320, .inl stI), .inl (0, 3, .inl enI), .inl (0, 64, .inl z0F), .inr (3, [.int 4, .ref 19, .ref 20, .int 3, .ref 21]), .inl (0, 320, .inl stI), .inl (0, 3, .inl enI), .inl (0, 64, .inl z0F), .inr (3, [.int 5, .ref 23, .ref 24, .int 3, .ref 25]), .inl (0, 320, .inl stI), .inl (0, 3, .inl enI), .inl (0, 64, .inl z0F), .inr (0, [.ref 27, .int 0, .int 0, .int 0, .int 0, .int 0, .int 0, .int 0, .null]), .inl (0, 160, .inl z0F), .inr (2, [.ref 29, .ref 30, .int 0, .ref 31, .ref 32, .ref 33, .ref 34, .int 0, .int 20, .int 0, .ref 2, .ref 35]), .inl (0, 10, .inl (mkF 10)), .inl (0, 10, .inl z0F), .inl (0, 5, .inl z0F), .inl (0, 5, .inl z0F), .inl (0, 5, .inl z0F), .inl (0, 5, .inl z0F), .inl (0, 6, .inl z0F), .inr (2, [.ref 37, .ref 38, .int 0, .ref 39, .ref 40, .ref 41, .ref 42, .int 0, .int 20, .int 0, .ref 2, .ref 43]), .inl (0, 10, .inl (mkF 10)), .inl (0, 10, .inl z0F), .inl (0, 5, .inl z0F), .inl (0, 5, .inl z0F), .inl (0, 5, .inl z0F), .inl (0, 5, .inl z0F), .inl (0, 6, .inl z0F), .inr (2, [.ref 45, .ref 46, .int 0, .ref 47, .ref 48, .ref 49, .ref 50, .int 0, .int 20, .int 0, .ref 2, .ref 51]), .inl (0, 10, .inl (mkF 10)), .inl (0, 10, .inl z0F), .inl (0, 5, .inl z0F), .inl (0, 5, .inl z0F), .inl (0, 5, .inl z0F), .inl (0, 5, .inl z0F), .inl (0, 6, .inl z0F), .inl (3, 4, .inr (.inr (.inr (.inr sf1)))), .inr (1, [.int (-1), .int 0, .ref 54]), .inl (0, 40, .inl z0F)]
def w4d2 : XW := [.inr (4, [.ref 1, .int 1, .ref 26, .ref 28, .ref 36, .ref 44, .int 0, .ref 52]), .inl (2, 6, .inr (.inr (.inr (.inr tf6)))), .inr (3, [.int 0, .ref 3, .ref 4, .int 3, .ref 5]), .inl (0, 320, .inl stI), .inl (0, 3, .inl enI), .inl (0, 64, .inl z0F), .inr (3, [.int 1, .ref 7, .ref 8, .int 3, .ref 9]), .inl (0, 320, .inl stI), .inl (0, 3, .inl enI), .inl (0, 64, .inl z0F), .inr (3, [.int 2, .ref 11, .ref 12, .int 3, .ref 13]), .inl (0, 320, .inl stI), .inl (0, 3, .inl enI), .inl (0, 64, .inl z0F), .inr (3, [.int 3, .ref 15, .ref 16, .int 3, .ref 17]), .inl (0, 320, .inl stI), .inl (0, 3, .inl enI), .inl (0, 64, .inl z0F), .inr (3, [.int 4, .ref 19, .ref 20, .int 3, .ref 21]), .inl (0, 320, .inl stI), .inl (0, 3, .inl enI), .inl (0, 64, .inl z0F), .inr (3, [.int 5, .ref 23, .ref 24, .int 3, .ref 25]), .inl (0, 320, .inl stI), .inl (0, 3, .inl enI), .inl (0, 64, .inl z0F), .inr (0, [.ref 27, .int 0, .int 0, .int 0, .int 0, .int 0, .int 0, .int 0, .null]), .inl (0, 160, .inl z0F), .inr (2, [.ref 29, .ref 30, .int 0, .ref 31, .ref 32, .ref 33, .ref 34, .int 0, .int 20, .int 0, .ref 2, .ref 35]), .inl (0, 10, .inl (mkF 10)), .inl (0, 10, .inl z0F), .inl (0, 5, .inl z0F), .inl (0, 5, .inl z0F), .inl (0, 5, .inl z0F), .inl (0, 5, .inl z0F), .inl (0, 6, .inl z0F), .inr (2, [.ref 37, .ref 38, .int 0, .ref 39, .ref 40, .ref 41, .ref 42, .int 0, .int 20, .int 0, .ref 2, .ref 43]), .inl (0, 10, .inl (mkF 10)), .inl (0, 10, .inl z0F), .inl (0, 5, .inl z0F), .inl (0, 5, .inl z0F), .inl (0, 5, .inl z0F), .inl (0, 5, .inl z0F), .inl (0, 6, .inl z0F), .inr (2, [.ref 45, .ref 46, .int 0, .ref 47, .ref 48, .ref 49, .ref 50, .int 0, .int 20, .int 0, .ref 2, .ref 51]), .inl (0, 10, .inl (mkF 10)), .inl (0, 10, .inl z0F), .inl (0, 5, .inl z0F), .inl (0, 5, .inl z0F), .inl (0, 5, .inl z0F), .inl (0, 5, .inl z0F), .inl (0, 6, .inl z0F), .inl (3, 4, .inr (.inr (.inr (.inr sf2)))), .inr (1, [.int (-1), .int 0, .ref 54]), .inl (0, 40, .inl z0F), .inr (1, [.int (-1), .int 0, .ref 56]), .inl (0, 40, .inl z0F)]
def w4d3 : XW := [.inr (4, [.ref 1, .int 1, .ref 26, .ref 28, .ref 36, .ref 44, .int 0, .ref 52]), .inl (2, 6, .inr (.inr (.inr (.inr tf6)))), .inr (3, [.int 0, .ref 3, .ref 4, .int 3, .ref 5]), .inl (0, 320, .inl stI), .inl (0, 3, .inl enI), .inl (0, 64, .inl z0F), .inr (3, [.int 1, .ref 7, .ref 8, .int 3, .ref 9]), .inl (0, 320, .inl stI), .inl (0, 3, .inl enI), .inl (0, 64, .inl z0F), .inr (3, [.int 2, .ref 11, .ref 12, .int 3, .ref 13]), .inl (0, 320, .inl stI), .inl (0, 3, .inl enI), .inl (0, 64, .inl z0F), .inr (3, [.int 3, .ref 15, .ref 16, .int 3, .ref 17]), .inl (0, 320, .inl stI), .inl (0, 3, .inl enI), .inl (0, 64, .inl z0F), .inr (3, [.int 4, .ref 19, .ref 20, .int 3, .ref 21]), .inl (0, 320, .inl stI), .inl (0, 3, .inl enI), .inl (0, 64, .inl z0F), .inr (3, [.int 5, .ref 23, .ref 24, .int 3, .ref 25]), .inl (0, 320, .inl stI), .inl (0, 3, .inl enI), .inl (0, 64, .inl z0F), .inr (0, [.ref 27, .int 0, .int 0, .int 0, .int 0, .int 0, .int 0, .int 0, .null]), .inl (0, 160, .inl z0F), .inr (2, [.ref 29, .ref 30, .int 0, .ref 31, .ref 32, .ref 33, .ref 34, .int 0, .int 20, .int 0, .ref 2, .ref 35]), .inl (0, 10, .inl (mkF 10)), .inl (0, 10, .inl z0F), .inl (0, 5, .inl z0F), .inl (0, 5, .inl z0F), .inl (0, 5, .inl z0F), .inl (0, 5, .inl z0F), .inl (0, 6, .inl z0F), .inr (2, [.ref 37, .ref 38, .int 0, .ref 39, .ref 40, .ref 41, .ref 42, .int 0, .int 20, .int 0, .ref 2, .ref 43]), .inl (0, 10, .inl (mkF 10)), .inl (0, 10, .inl z0F), .inl (0, 5, .inl z0F), .inl (0, 5, .inl z0F), .inl (0, 5, .inl z0F), .inl (0, 5, .inl z0F), .inl (0, 6, .inl z0F), .inr (2, [.ref 45, .ref 46, .int 0, .ref 47, .ref 48, .ref 49, .ref 50, .int 0, .int 20, .int 0, .ref 2, .ref 51]), .inl (0, 10, .inl (mkF 10)), .inl (0, 10, .inl z0F), .inl (0, 5, .inl z0F), .inl (0, 5, .inl z0F), .inl (0, 5, .inl z0F), .inl (0, 5, .inl z0F), .inl (0, 6, .inl z0F), .inl (3, 4, .inr (.inr (.inr (.inr sf3)))), .inr (1, [.int (-1), .int 0, .ref 54]), .inl (0, 40, .inl z0F), .inr (1, [.int (-1), .int 0, .ref 56]), .inl (0, 40, .inl z0F), .inr (1, [.int (-1), .int 0, .ref 58]), .inl (0, 40, .inl z0F)]
def w4d4 : XW := [.inr (4, [.ref 1, .int 1, .ref 26, .ref 28, .ref 36, .ref 44, .int 0, .ref 52]), .inl (2, 6, .inr (.inr (.inr (.inr tf6)))), .inr (3, [.int 0, .ref 3, .ref 4, .int 3, .ref 5]), .inl (0, 320, .inl stI), .inl (0, 3, .inl enI), .inl (0, 64, .inl z0F), .inr (3, [.int 1, .ref 7, .ref 8, .int 3, .ref 9]), .inl (0, 320, .inl stI), .inl (0, 3, .inl enI), .inl (0, 64, .inl z0F), .inr (3, [.int 2, .ref 11, .ref 12, .int 3, .ref 13]), .inl (0, 320, .inl stI), .inl (0, 3, .inl enI), .inl (0, 64, .inl z0F), .inr (3, [.int 3, .ref 15, .ref 16, .int 3, .ref 17]), .inl (0, 320, .inl stI), .inl (0, 3, .inl enI), .inl (0, 64, .inl z0F), .inr (3, [.int 4, .ref 19, .ref 20, .int 3, .ref 21]), .inl (0, 320, .inl stI), .inl (0, 3, .inl enI), .inl (0, 64, .inl z0F), .inr (3, [.int 5, .ref 23, .ref 24, .int 3, .ref 25]), .inl (0, 320, .inl stI), .inl (0, 3, .inl enI), .inl (0, 64, .inl z0F), .inr (0, [.ref 27, .int 0, .int 0, .int 0, .int 0, .int 0, .int 0, .int 0, .null]), .inl (0, 160, .inl z0F), .inr (2, [.ref 29, .ref 30, .int 0, .ref 31, .ref 32, .ref 33, .ref 34, .int 0, .int 20, .int 0, .ref 2, .ref 35]), .inl (0, 10, .inl (mkF 10)), .inl (0, 10, .inl z0F), .inl (0, 5, .inl z0F), .inl (0, 5, .inl z0F), .inl (0, 5, .inl z0F), .inl (0, 5, .inl z0F), .inl (0, 6, .inl z0F), .inr (2, [.ref 37, .ref 38, .int 0, .ref 39, .ref 40, .ref 41, .ref 42, .int 0, .int 20, .int 0, .ref 2, .ref 43]), .inl (0, 10, .inl (mkF 10)), .inl (0, 10, .inl z0F), .inl (0, 5, .inl z0F), .inl (0, 5, .inl z0F), .inl (0, 5, .inl z0F), .inl (0, 5, .inl z0F), .inl (0, 6, .inl z0F), .inr (2, [.ref 45, .ref 46, .int 0, .ref 47, .ref 48, .ref 49, .ref 50, .int 0, .int 20, .int 0, .ref 2, .ref 51]), .inl (0, 10, .inl (mkF 10)), .inl (0, 10, .inl z0F), .inl (0, 5, .inl z0F), .inl (0, 5, .inl z0F), .inl (0, 5, .inl z0F), .inl (0, 5, .inl z0F), .inl (0, 6, .inl z0F), .inl (3, 4, .inr (.inr (.inr (.inr sf4)))), .inr (1, [.int (-1), .int 0, .ref 54]), .inl (0, 40, .inl z0F), .inr (1, [.int (-1), .int 0, .ref 56]), .inl (0, 40, .inl z0F), .inr (1, [.int (-1), .int 0, .ref 58]), .inl (0, 40, .inl z0F), .inr (1, [.int (-1), .int 0, .ref 60]), .inl (0, 40, .inl z0F)]
set_option maxRecDepth 100000 in
set_option maxHeartbeats 4000000 in
theorem c4_5 (E : XEnv) (Q : XQ) (k : GAt E RX4 cX4_init 2 none true 50 1 61 Q 118 [(0, .ref 0), (1, .int 0)] [] w4d0) : GAt E RX4 cX4_init 2 none true 50 1 61 Q 108 [(0, .ref 0), (1, .int 6)] [] w4c4 :=
  ggoA sX4_init_C (xle rfl) [118] 60 ⟨⟨by decide +kernel, by decide +kernel⟩, k⟩
set_option maxRecDepth 100000 in
set_option maxHeartbeats 4000000 in
theorem d4_0 (E : XEnv) (Q : XQ) (k : GAt E RX4 cX4_init 2 none true 50 1 61 Q 118 [(0, .ref 0), (1, .int 1)] [] w4d1) : GAt E RX4 cX4_init 2 none true 50 1 61 Q 118 [(0, .ref 0), (1, .int 0)] [] w4d0 := by
  have k1 : GAt E RX4 cX4_init 2 none true 50 1 61 Q 118 [(0, .ref 0), (1, .int (0 + 1))] [] w4d1 := by
    rw [show ((0 : Int32) + 1) = 1 from by decide +kernel]
    exact k
  refine ggoA sX4_init_D0 (xle rfl) [118, 142] 60 ⟨fun z => absurd z (by decide +kernel), fun _ => ?_⟩
  refine ⟨10, 2, 0, w4d0, [.inr (1, [.int 0, .int 0, .null])], [.ref 0], _, xle rfl, g_X1_init E, rfl, rfl, ⟨xle rfl, xle rfl⟩, fun r σ1 _ hq => ?_⟩
  obtain ⟨rfl, rfl⟩ := hq
  exact ⟨vpc 0 0 rfl (by decide) (by decide), k1⟩
set_option maxRecDepth 100000 in
set_option maxHeartbeats 4000000 in
theorem d4_1 (E : XEnv) (Q : XQ) (k : GAt E RX4 cX4_init 2 none true 50 1 61 Q 118 [(0, .ref 0), (1, .int 2)] [] w4d2) : GAt E RX4 cX4_init 2 none true 50 1 61 Q 118 [(0, .ref 0), (1, .int 1)] [] w4d1 := by
  have k1 : GAt E RX4 cX4_init 2 none true 50 1 61 Q 118 [(0, .ref 0), (1, .int (1 + 1))] [] w4d2 := by
    rw [show ((1 : Int32) + 1) = 2 from by decide +kernel]
    exact k
  refine ggoA sX4_init_D1 (xle rfl) [118, 142] 60 ⟨fun z => absurd z (by decide +kernel), fun _ => ?_⟩
  refine ⟨10, 2, 0, w4d1, [.inr (1, [.int 0, .int 0, .null])], [.ref 0], _, xle rfl, g_X1_init E, rfl, rfl, ⟨xle rfl, xle rfl⟩, fun r σ1 _ hq => ?_⟩
  obtain ⟨rfl, rfl⟩ := hq
  exact ⟨vpc 1 1 rfl (by decide) (by decide), k1⟩
set_option maxRecDepth 100000 in
set_option maxHeartbeats 4000000 in
theorem d4_2 (E : XEnv) (Q : XQ) (k : GAt E RX4 cX4_init 2 none true 50 1 61 Q 118 [(0, .ref 0), (1, .int 3)] [] w4d3) : GAt E RX4 cX4_init 2 none true 50 1 61 Q 118 [(0, .ref 0), (1, .int 2)] [] w4d2 := by
  have k1 : GAt E RX4 cX4_init 2 none true 50 1 61 Q 118 [(0, .ref 0), (1, .int (2 + 1))] [] w4d3 := by
    rw [show ((2 : Int32) + 1) = 3 from by decide +kernel]
    exact k
  refine ggoA sX4_init_D2 (xle rfl) [118, 142] 60 ⟨fun z => absurd z (by decide +kernel), fun _ => ?_⟩
  refine ⟨10, 2, 0, w4d2, [.inr (1, [.int 0, .int 0, .null])], [.ref 0], _, xle rfl, g_X1_init E, rfl, rfl, ⟨xle rfl, xle rfl⟩, fun r σ1 _ hq => ?_⟩
  obtain ⟨rfl, rfl⟩ := hq
  exact ⟨vpc 2 2 rfl (by decide) (by decide), k1⟩
set_option maxRecDepth 100000 in
set_option maxHeartbeats 4000000 in
theorem d4_3 (E : XEnv) (Q : XQ) (k : GAt E RX4 cX4_init 2 none true 50 1 61 Q 118 [(0, .ref 0), (1, .int 4)] [] w4d4) : GAt E RX4 cX4_init 2 none true 50 1 61 Q 118 [(0, .ref 0), (1, .int 3)] [] w4d3 := by
  have k1 : GAt E RX4 cX4_init 2 none true 50 1 61 Q 118 [(0, .ref 0), (1, .int (3 + 1))] [] w4d4 := by
    rw [show ((3 : Int32) + 1) = 4 from by decide +kernel]
    exact k
  refine ggoA sX4_init_D3 (xle rfl) [118, 142] 60 ⟨fun z => absurd z (by decide +kernel), fun _ => ?_⟩
  refine ⟨10, 2, 0, w4d3, [.inr (1, [.int 0, .int 0, .null])], [.ref 0], _, xle rfl, g_X1_init E, rfl, rfl, ⟨xle rfl, xle rfl⟩, fun r σ1 _ hq => ?_⟩
  obtain ⟨rfl, rfl⟩ := hq
  exact ⟨vpc 3 3 rfl (by decide) (by decide), k1⟩
set_option maxRecDepth 100000 in
set_option maxHeartbeats 4000000 in
theorem g_X4_init (E : XEnv) : GCall E 50 61 yX4_init cX4_init 2 [.ref 0] [.inr (4, [.null, .int 0, .null, .null, .null, .null, .int 0, .null])] (fun r σ' => r = none ∧ σ' = w4d4) := by
  refine GCall.of true (by decide +kernel) (fun _ => rfl) (xle rfl) (xle rfl) (xle rfl) (xle rfl) (ggoA sX4_init_A (xle rfl) [15] 60 ⟨⟨by decide +kernel, by decide +kernel⟩, ?_⟩)
  exact b4_0 E _ (b4_1 E _ (b4_2 E _ (b4_3 E _ (b4_4 E _ (b4_5 E _ (b4_6 E _ (c4_1 E _ (c4_2 E _ (c4_3 E _ (c4_4 E _ (c4_5 E _ (d4_0 E _ (d4_1 E _ (d4_2 E _ (d4_3 E _ (ggoA sX4_init_D0 (xle rfl) [] 60 ⟨fun _ => ⟨⟨rfl, rfl⟩, rfl⟩, fun z => absurd (by decide +kernel) z⟩))))))))))))))))
