-- ===== the reference: count, image, back =====
theorem bitsM_ge : (List.range 1024).all (fun m => f_bitsM (nI m) == f_bits (nI m)) = true := by decide +kernel
theorem bitsM_n {m : Nat} (h : m < 1024) : f_bitsM (nI m) = f_bits (nI m) := by
  simpa using List.all_eq_true.mp bitsM_ge m (List.mem_range.mpr h)
theorem bitsM_F (f : F32) (w : Int32) {n : Nat} (hn : n ≤ 10) : f_bitsM (whoF f w n) = f_bits (whoF f w n) := by
  rw [whoF_N f w n hn]
  exact bitsM_n (whoN_10 f w hn)
theorem bits_step0 : (List.range 10).all (fun k => (List.range (2 ^ k)).all fun m => f_bits (nI (m + 2 ^ k)) == f_bits (nI m) + 1) = true := by decide +kernel
theorem bits_step {k m : Nat} (hk : k < 10) (hm : m < 2 ^ k) : f_bits (nI (m + 2 ^ k)) = f_bits (nI m) + 1 := by
  simpa using List.all_eq_true.mp (List.all_eq_true.mp bits_step0 k (List.mem_range.mpr hk)) m (List.mem_range.mpr hm)
/-- how many there are -/
def cnN (pl : F32) (w : Int32) : Nat → Nat
  | 0 => 0
  | k + 1 => if pl k = w then cnN pl w k + 1 else cnN pl w k
theorem cnN_y {pl : F32} {w : Int32} {k : Nat} (h : pl k = w) : cnN pl w (k + 1) = cnN pl w k + 1 := if_pos h
theorem cnN_n {pl : F32} {w : Int32} {k : Nat} (h : ¬ pl k = w) : cnN pl w (k + 1) = cnN pl w k := if_neg h
theorem cnN_le (pl : F32) (w : Int32) : ∀ k, cnN pl w k ≤ k
  | 0 => Nat.le_refl _
  | k + 1 => by
    have := cnN_le pl w k
    by_cases h : pl k = w
    · rw [cnN_y h]; omega
    · rw [cnN_n h]; omega
theorem bits_cn (pl : F32) (w : Int32) : ∀ k, k ≤ 10 → f_bits (nI (whoN pl w k)) = nI (cnN pl w k)
  | 0, _ => by
    show f_bits (nI 0) = nI 0
    decide +kernel
  | k + 1, h => by
    have ih := bits_cn pl w k (by omega)
    by_cases hk : pl k = w
    · rw [cnN_y hk, whoN, if_pos hk, bits_step (by omega) (whoN_lt pl w k), ih, nI_succ]
    · rw [cnN_n hk, whoN, if_neg hk, ih]
def MKs (S : SH) (ru : Nat) (h : YQ) : Prop := h.k1 = nI S.n ∧ h.k2 = S.dy ∧ h.k3 = S.se ∧ h.k4 = S.wa ∧ h.k5 = nI ru ∧ (∀ j, j < 20 → h.rk j = rowsF S j) ∧ ∀ j, j < 10 → h.bk j = S.ma j ∧ h.sk j = S.so j
def Ysx (h h' : YQ) : Prop := h'.tx = h.tx ∧ h'.ts = h.ts ∧ h'.it0 = h.it0 ∧ h'.so = h.so ∧ h'.sz = h.sz ∧ h'.it = h.it
def mWk (A : AS) (h : YQ) (R B Sx : F32) : XW := (((mW A h).set 9 (.inl (0, 20, .inl R))).set 10 (.inl (0, 10, .inl B))).set 11 (.inl (0, 10, .inl Sx))
def mWkx (A : AS) (h : YQ) (R B Sx : F32) (a1 a2 a3 a4 a5 : Int32) : XW := [.inr (5, [.int h.th, .ref 1, .ref 2, .int (nI A.tc), .int (nI A.ru), .ref 3, .int (nI A.pn), .int A.S.dy, .int A.S.se, .int A.S.wa, .ref 4, .ref 5, .ref 6, .int (nI A.S.n),
  .int h.o1, .int h.o2, .int h.o3, .int h.o4, .int h.o5, .int h.o6, .int h.p1, .int h.p2, .int h.p3, .int h.p4, .int h.p5, .long h.pw, .int h.p6, .int h.p7, .int h.p8, .ref 7, .ref 8, .int h.b1, .int h.b2, .int h.b3, .ref 9, .ref 10, .ref 11, .int a1, .int a2, .int a3, .int a4, .int a5, .ref 12, .ref 13, .ref 14, .ref 15]),
  .inl (0, 960, .inl h.tx), .inl (0, 6, .inl h.ts), .inl (0, 160, .inl A.pb), .inl (0, 10, .inl A.S.ma), .inl (0, 10, .inl A.S.so), .inl (0, 20, .inl (rowsF A.S)), .inl (0, 43, .inl h.wz), .inl (0, 3, .inl h.ba), .inl (0, 20, .inl R), .inl (0, 10, .inl B), .inl (0, 10, .inl Sx), .inl (1, 4, .inl h.it0), .inl (0, 4, .inl h.so), .inl (0, 4, .inl h.sz), .inl (0, 160, .inl h.it)]
def YQ.kp (h : YQ) (R B Sx : F32) (a1 a2 a3 a4 a5 : Int32) : YQ := (h.tx, h.ts, h.o1, h.o2, h.o3, h.o4, h.o5, h.o6, h.p1, h.p2, h.p3, h.p4, h.p5, h.pw, h.p6, h.p7, h.p8, h.wz, h.ba, h.b1, h.b2, h.b3, R, B, Sx, a1, a2, a3, a4, a5, h.it0, h.so, h.sz, h.it, h.th)
theorem mWkx_e (A : AS) (h : YQ) (R B Sx : F32) (a1 a2 a3 a4 a5 : Int32) : mWkx A h R B Sx a1 a2 a3 a4 a5 = mW A (h.kp R B Sx a1 a2 a3 a4 a5) := rfl
def hbk (h : YQ) (n kr : Nat) : YQ := (h.set_k1 (nI n)).set_k5 (nI kr)
section MODEL
variable (E : XEnv) (A : AS) (h : YQ)
set_option maxRecDepth 100000 in
theorem l_X5_madeMany (j : Nat) : ∀ (k : Nat), k + j = 10 → XAt E RX5 cX5_madeMany 3 (some .int) 10 16 (fun r σ' => r = some (.int (10 - f_bits (whoF A.S.ma (-1) 10))) ∧ σ' = mW A h) 4 [(0, .ref 0), (1, .int (nI (k - cnN A.S.ma (-1) k))), (2, .int (nI k))] [] (mW A h) := by
  induction j with
  | zero =>
    intro k hk
    obtain rfl : k = 10 := by omega
    refine xgo sX5_madeMany [4] 60 (xle rfl) ⟨fun _ => ⟨?_, rfl⟩, fun h => absurd (nI_le (a := 10) (b := 10) (Nat.le_refl _) (by omega)) h⟩
    rw [whoF_N _ _ 10 (Nat.le_refl _), bits_cn _ _ 10 (Nat.le_refl _)]
    exact congrArg (fun v => some (Value.int v)) (pk_sub (a := 10) (cnN_le _ _ 10)).symm
  | succ j IH =>
    intro k hk
    have hc : (nI k).toNatClampNeg = k := nI_clamp (by omega)
    have hl := cnN_le A.S.ma (-1) k
    refine xgo sX5_madeMany [4] 60 (xle rfl) ⟨fun h => absurd h (nI_ge (b := 10) (by omega) (by omega)), fun _ => ⟨vp_in_nI (by omega) (by omega), fun q => ?_, fun q => ?_⟩⟩
    · rw [hc] at q
      have ih := IH (k + 1) (by omega)
      rw [cnN_n q, show k + 1 - cnN A.S.ma (-1) k = k - cnN A.S.ma (-1) k + 1 by omega, nI_succ, nI_succ] at ih
      exact ih
    · rw [hc] at q
      have ih := IH (k + 1) (by omega)
      rw [cnN_y q, show k + 1 - (cnN A.S.ma (-1) k + 1) = k - cnN A.S.ma (-1) k by omega, nI_succ, ← Int32.add_zero (nI (k - cnN A.S.ma (-1) k))] at ih
      exact ih
theorem c_X5_madeMany : XCall E 10 yX5_madeMany cX5_madeMany 3 (some .int) [.ref 0] (mW A h) (fun r σ' => r = some (.int (10 - f_bits (whoF A.S.ma (-1) 10))) ∧ σ' = mW A h) :=
  XCall.of (by decide +kernel) (xle rfl) (xgo sX5_madeMany [4] 60 (xle rfl) (l_X5_madeMany E A h 10 0 rfl))
set_option maxRecDepth 100000 in
set_option maxHeartbeats 4000000 in
theorem c_X5_count (hn : A.S.n ≤ 5) (what : Int32) : XCall E 110 yX5_count cX5_count 2 (some .int) [.ref 0, .int what] (mW A h) (YRk (o_count A what) h) := by
  have ew : f_in what.toInt64 0 5 = f_within what 0 5 := f_in0 what 5 (by decide +kernel)
  unfold o_count
  refine XCall.of (by decide +kernel) (xle rfl) (xgo sX5_count [15] 60 (xle rfl) ⟨fun q => ?_, fun q => ?_⟩)
  · rw [ew] at q
    obtain ⟨w, hw, rfl⟩ := fw_e (n := 6) (by omega) q
    refine xgo sX5_count [] 60 (xle rfl) ⟨fun n0 => ⟨fun n1 => ⟨fun n2 => ⟨fun n3 => ⟨fun n4 => ?_, fun z => ?_⟩, fun z => ?_⟩, fun z => ?_⟩, fun z => ?_⟩, fun z => ?_⟩
    · have n0 : ¬ nI w = 0 := n0
      have e5 : nI w = 5 := by
        have q0 : w ≠ 0 := fun z => n0 (by rw [z]; rfl)
        have q1 : w ≠ 1 := fun z => n1 (by rw [z]; rfl)
        have q2 : w ≠ 2 := fun z => n2 (by rw [z]; rfl)
        have q3 : w ≠ 3 := fun z => n3 (by rw [z]; rfl)
        have q4 : w ≠ 4 := fun z => n4 (by rw [z]; rfl)
        rw [show w = 5 by omega]
        rfl
      rw [if_neg n0, if_neg n1, if_neg n2, if_neg n3, if_neg n4, if_pos e5]
      exact ⟨rfl, h, Yk.same h, rfl⟩
    · rw [if_neg n0, if_neg n1, if_neg n2, if_neg n3, if_pos z]
      exact ⟨rfl, h, Yk.same h, rfl⟩
    · rw [if_neg n0, if_neg n1, if_neg n2, if_pos z]
      exact ⟨rfl, h, Yk.same h, rfl⟩
    · rw [if_neg n0, if_neg n1, if_pos z]
      refine XIn.same (xle rfl) (c_X5_whoIs E A h hn 1) (fun r σ' _ z => ?_)
      obtain ⟨rfl, rfl⟩ := z
      exact ⟨congrArg (fun v => some (Value.int v)) (bitsM_F A.S.pl 1 (by omega)), h, Yk.same h, rfl⟩
    · rw [if_neg n0, if_pos z]
      refine XIn.same (xle rfl) (c_X5_madeMany E A h) (fun r σ' _ z => ?_)
      obtain ⟨rfl, rfl⟩ := z
      exact ⟨rfl, h, Yk.same h, rfl⟩
    · rw [if_pos z]
      exact ⟨rfl, h, Yk.same h, rfl⟩
  · rw [ew] at q
    have ne : ∀ w, w < 6 → ¬ what = nI w := fun w hw z => by
      have e1 : f_within (nI w) 0 5 = 1 := fw_in (n := 6) (by omega) hw
      rw [z, e1] at q
      exact absurd q (by decide)
    rw [if_neg (show ¬ what = 0 from ne 0 (by omega)), if_neg (show ¬ what = 1 from ne 1 (by omega)), if_neg (show ¬ what = 2 from ne 2 (by omega)), if_neg (show ¬ what = 3 from ne 3 (by omega)), if_neg (show ¬ what = 4 from ne 4 (by omega)), if_neg (show ¬ what = 5 from ne 5 (by omega))]
    exact ⟨rfl, h, Yk.same h, rfl⟩
set_option maxRecDepth 100000 in
set_option maxHeartbeats 4000000 in
theorem l_X5_imageB (R : F32) (j : Nat) : ∀ (k : Nat), k + j = 10 → XAt E RX5 cX5_image 2 (some .int) 110 16 (fun r σ' => r = some (.int (nI A.S.n)) ∧ σ' = mWkx A h R (backF h.bk A.S.ma 10) (backF h.sk A.S.so 10) (nI A.S.n) A.S.dy A.S.se A.S.wa (nI A.ru)) 28 [(0, .ref 0), (1, .int (nI k))] [] (mWk A h R (backF h.bk A.S.ma k) (backF h.sk A.S.so k)) := by
  induction j with
  | zero =>
    intro k hk
    obtain rfl : k = 10 := by omega
    exact xgo sX5_image [28] 100 (xle rfl) ⟨fun _ => ⟨rfl, rfl⟩, fun h => absurd (nI_le (a := 10) (b := 10) (Nat.le_refl _) (by omega)) h⟩
  | succ j IH =>
    intro k hk
    have ih := IH (k + 1) (by omega)
    have hc : (nI k).toNatClampNeg = k := nI_clamp (by omega)
    refine xgo sX5_image [28] 100 (xle rfl) ⟨fun h => absurd h (nI_ge (b := 10) (by omega) (by omega)), fun _ => ⟨vp_in_nI (by omega) (by omega), vp_in_nI (by omega) (by omega), vp_in_nI (by omega) (by omega), vp_in_nI (by omega) (by omega), ?_⟩⟩
    have b1 := back_s h.bk A.S.ma k
    have b2 := back_s h.sk A.S.so k
    rw [nI_succ, ← b1, ← b2] at ih
    rw [hc]
    exact ih
set_option maxRecDepth 100000 in
set_option maxHeartbeats 4000000 in
theorem l_X5_imageA (j : Nat) : ∀ (k : Nat), k + j = 20 → XAt E RX5 cX5_image 2 (some .int) 110 16 (fun r σ' => r = some (.int (nI A.S.n)) ∧ σ' = mWkx A h (backF h.rk (rowsF A.S) 20) (backF h.bk A.S.ma 10) (backF h.sk A.S.so 10) (nI A.S.n) A.S.dy A.S.se A.S.wa (nI A.ru)) 2 [(0, .ref 0), (1, .int (nI k))] [] (mWk A h (backF h.rk (rowsF A.S) k) h.bk h.sk) := by
  induction j with
  | zero =>
    intro k hk
    obtain rfl : k = 20 := by omega
    have t := l_X5_imageB E A h (backF h.rk (rowsF A.S) 20) 10 0 rfl
    rw [back_0, back_0] at t
    exact xgo sX5_image [2, 28] 100 (xle rfl) ⟨fun _ => t, fun h => absurd (nI_le (a := 20) (b := 20) (Nat.le_refl _) (by omega)) h⟩
  | succ j IH =>
    intro k hk
    have ih := IH (k + 1) (by omega)
    have hc : (nI k).toNatClampNeg = k := nI_clamp (by omega)
    refine xgo sX5_image [2, 28] 100 (xle rfl) ⟨fun h => absurd h (nI_ge (b := 20) (by omega) (by omega)), fun _ => ⟨vp_in_nI (by omega) (by omega), vp_in_nI (by omega) (by omega), ?_⟩⟩
    have b1 := back_s h.rk (rowsF A.S) k
    rw [nI_succ, ← b1] at ih
    rw [hc]
    exact ih
theorem back_in (f W : F32) {j k : Nat} (h : j < k) : backF f W k j = W j := if_pos h
theorem c_X5_image : XCall E 110 yX5_image cX5_image 2 (some .int) [.ref 0] (mW A h) (fun r σ' => r = some (.int (o_image A).1) ∧ ∃ h', Ysx h h' ∧ MKs A.S A.ru h' ∧ σ' = mW (o_image A).2 h') := by
  have t := l_X5_imageA E A h 20 0 rfl
  rw [back_0] at t
  have c : XCall E 110 yX5_image cX5_image 2 (some .int) [.ref 0] (mW A h) (fun r σ' => r = some (.int (nI A.S.n)) ∧ σ' = mWkx A h (backF h.rk (rowsF A.S) 20) (backF h.bk A.S.ma 10) (backF h.sk A.S.so 10) (nI A.S.n) A.S.dy A.S.se A.S.wa (nI A.ru)) := XCall.of (by decide +kernel) (xle rfl) (xgo sX5_image [2, 28] 60 (xle rfl) t)
  refine c.mono (fun r σ' _ q => ?_)
  obtain ⟨rfl, rfl⟩ := q
  exact ⟨rfl, h.kp (backF h.rk (rowsF A.S) 20) (backF h.bk A.S.ma 10) (backF h.sk A.S.so 10) (nI A.S.n) A.S.dy A.S.se A.S.wa (nI A.ru), ⟨rfl, rfl, rfl, rfl, rfl, rfl⟩, ⟨rfl, rfl, rfl, rfl, rfl, fun j hj => back_in h.rk (rowsF A.S) hj, fun j hj => ⟨back_in h.bk A.S.ma hj, back_in h.sk A.S.so hj⟩⟩, mWkx_e A h _ _ _ _ _ _ _ _⟩
set_option maxRecDepth 100000 in
set_option maxHeartbeats 4000000 in
theorem l_X5_kbB (n kr : Nat) (R : F32) (j : Nat) : ∀ (k : Nat), k + j = 10 → XAt E RX5 cX5_back 2 (some .int) 110 16 (fun r σ' => r = some (.int (nI n)) ∧ σ' = mWb ((A.set_S ((((A.S.setN n).setDy h.k2).setSe h.k3).setWa h.k4)).set_ru kr) (hbk h n kr) (backF A.S.ma h.bk 10) (backF A.S.so h.sk 10) R) 39 [(0, .ref 0), (1, .int (nI k))] [] (mWb A (hbk h n kr) (backF A.S.ma h.bk k) (backF A.S.so h.sk k) R) := by
  induction j with
  | zero =>
    intro k hk
    obtain rfl : k = 10 := by omega
    exact xgo sX5_back [39] 100 (xle rfl) ⟨fun _ => ⟨rfl, rfl⟩, fun h => absurd (nI_le (a := 10) (b := 10) (Nat.le_refl _) (by omega)) h⟩
  | succ j IH =>
    intro k hk
    have ih := IH (k + 1) (by omega)
    have hc : (nI k).toNatClampNeg = k := nI_clamp (by omega)
    refine xgo sX5_back [39] 100 (xle rfl) ⟨fun h => absurd h (nI_ge (b := 10) (by omega) (by omega)), fun _ => ⟨vp_in_nI (by omega) (by omega), vp_in_nI (by omega) (by omega), vp_in_nI (by omega) (by omega), vp_in_nI (by omega) (by omega), ?_⟩⟩
    have b1 := back_s A.S.ma h.bk k
    have b2 := back_s A.S.so h.sk k
    rw [nI_succ, ← b1, ← b2] at ih
    rw [hc]
    exact ih
set_option maxRecDepth 100000 in
set_option maxHeartbeats 4000000 in
theorem l_X5_kbA (n kr : Nat) (j : Nat) : ∀ (k : Nat), k + j = 20 → XAt E RX5 cX5_back 2 (some .int) 110 16 (fun r σ' => r = some (.int (nI n)) ∧ σ' = mWb ((A.set_S ((((A.S.setN n).setDy h.k2).setSe h.k3).setWa h.k4)).set_ru kr) (hbk h n kr) (backF A.S.ma h.bk 10) (backF A.S.so h.sk 10) (backF (rowsF A.S) h.rk 20)) 13 [(0, .ref 0), (1, .int (nI k))] [] (mWb A (hbk h n kr) A.S.ma A.S.so (backF (rowsF A.S) h.rk k)) := by
  induction j with
  | zero =>
    intro k hk
    obtain rfl : k = 20 := by omega
    have t := l_X5_kbB E A h n kr (backF (rowsF A.S) h.rk 20) 10 0 rfl
    rw [back_0, back_0] at t
    exact xgo sX5_back [13, 39] 100 (xle rfl) ⟨fun _ => t, fun h => absurd (nI_le (a := 20) (b := 20) (Nat.le_refl _) (by omega)) h⟩
  | succ j IH =>
    intro k hk
    have ih := IH (k + 1) (by omega)
    have hc : (nI k).toNatClampNeg = k := nI_clamp (by omega)
    refine xgo sX5_back [13, 39] 100 (xle rfl) ⟨fun h => absurd h (nI_ge (b := 20) (by omega) (by omega)), fun _ => ⟨vp_in_nI (by omega) (by omega), vp_in_nI (by omega) (by omega), ?_⟩⟩
    have b1 := back_s (rowsF A.S) h.rk k
    rw [nI_succ, ← b1] at ih
    rw [hc]
    exact ih
theorem xEq_kb {K : SH} {kr : Nat} (hk : MKs K kr h) : xEq (mWb ((A.set_S ((((A.S.setN K.n).setDy h.k2).setSe h.k3).setWa h.k4)).set_ru kr) (hbk h K.n kr) (backF A.S.ma h.bk 10) (backF A.S.so h.sk 10) (backF (rowsF A.S) h.rk 20)) (mW ((A.set_S K).set_ru kr) h) := by
  obtain ⟨k1, k2, k3, k4, k5, k6, k7⟩ := hk
  have e : hbk h K.n kr = h := by
    unfold hbk
    rw [← k1, ← k5]
    rfl
  rw [e, k2, k3, k4]
  unfold mWb mW
  refine xEq_cons (xce_rfl _) (xEq_cons (xce_rfl _) (xEq_cons (xce_rfl _) (xEq_cons (xce_rfl _) (xEq_cons ⟨rfl, rfl, fun k hk => ?_⟩ (xEq_cons ⟨rfl, rfl, fun k hk => ?_⟩ (xEq_cons ⟨rfl, rfl, fun k hk => ?_⟩ (xEq_rfl _)))))))
  · rw [back_in _ _ hk]
    exact (k7 k hk).1
  · rw [back_in _ _ hk]
    exact (k7 k hk).2
  · rw [back_in _ _ hk]
    exact k6 k hk
set_option maxRecDepth 100000 in
set_option maxHeartbeats 4000000 in
theorem c_X5_back1 (hn : A.K.n ≤ 5) (hk : MKs A.K A.kr h) : XCall E 110 yX5_back cX5_back 2 (some .int) [.ref 0] (mW A h) (fun r σ' => r = some (.int (nI A.K.n)) ∧ σ' = mW ((A.set_S A.K).set_ru A.kr) h) := by
  have e : hbk h A.K.n A.kr = h := by
    obtain ⟨k1, k2, k3, k4, k5, k6, k7⟩ := hk
    unfold hbk
    rw [← k1, ← k5]
    rfl
  have t := l_X5_kbA E A h A.K.n A.kr 20 0 rfl
  rw [back_0] at t
  have hm : ¬ nI A.K.n = -1 := nI_m1 (by omega)
  have c : XCall E 110 yX5_back cX5_back 2 (some .int) [.ref 0] (mW A (hbk h A.K.n A.kr)) (fun r σ' => r = some (.int (nI A.K.n)) ∧ σ' = mWb ((A.set_S ((((A.S.setN A.K.n).setDy h.k2).setSe h.k3).setWa h.k4)).set_ru A.kr) (hbk h A.K.n A.kr) (backF A.S.ma h.bk 10) (backF A.S.so h.sk 10) (backF (rowsF A.S) h.rk 20)) := XCall.of (by decide +kernel) (xle rfl) (xgo sX5_back [13, 39] 60 (xle rfl) ⟨fun _ => t, fun q => absurd q hm⟩)
  have x := xEq_kb A h hk
  rw [e] at c x
  exact c.conv (fun r σ' q => ⟨_, by rw [q.2]; exact x, q.1, rfl⟩)
def MK (A : AS) (h : YQ) : Prop := (A.ik = 0 ∧ h.k1 = -1) ∨ (A.ik = 1 ∧ MKs A.K A.kr h)
set_option maxRecDepth 100000 in
theorem c_X5_back (hn : A.K.n ≤ 5) (hk : MK A h) : XCall E 110 yX5_back cX5_back 2 (some .int) [.ref 0] (mW A h) (YRk (o_back A) h) := by
  unfold o_back
  rcases hk with ⟨q1, q2⟩ | ⟨q1, q2⟩
  · rw [if_pos q1]
    exact XCall.of (by decide +kernel) (xle rfl) (xgo sX5_back [13, 39] 60 (xle rfl) ⟨fun q => absurd q2 q, fun _ => ⟨rfl, h, Yk.same h, rfl⟩⟩)
  · rw [if_neg (by rw [q1]; decide)]
    exact (c_X5_back1 E A h hn q2).mono (fun r σ' _ q => ⟨q.1, h, Yk.same h, q.2⟩)
end MODEL
