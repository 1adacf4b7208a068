-- ===== who goes; the yard =====
def apF (pl : F32) (who : Int32) : Nat → F32
  | 0 => pl
  | k + 1 => if (who >>> (nI k &&& 31)) &&& 1 = 1 then upd (apF pl who k) k 1 else apF pl who k
theorem apF_y {pl : F32} {who : Int32} {k : Nat} (h : (who >>> (nI k &&& 31)) &&& 1 = 1) : apF pl who (k + 1) = upd (apF pl who k) k 1 := by rw [apF, if_pos h]
theorem apF_n {pl : F32} {who : Int32} {k : Nat} (h : ¬ (who >>> (nI k &&& 31)) &&& 1 = 1) : apF pl who (k + 1) = apF pl who k := by rw [apF, if_neg h]
def chwF (tv : TV) (S : SH) (who : Int32) (n : Nat) : Int32 := if who &&& whoF S.pl 2 S.n = 0 then (if (daysF tv n (S.setPl (apF (mvF S.pl 1 0 S.n) who S.n))).wa < 100 then 1 else 0) else 0
def goF (tv : TV) (S : SH) (n : Nat) : Nat → Int32 × Int32
  | 0 => (-1, 6)
  | k + 1 => if f_bits (nI k) < (goF tv S n k).2 ∧ ¬ chwF tv S (nI k) n = 0 then (nI k, f_bits (nI k)) else goF tv S n k
theorem goF_y {tv : TV} {S : SH} {n k : Nat} (h : f_bits (nI k) < (goF tv S n k).2) (h2 : ¬ chwF tv S (nI k) n = 0) : goF tv S n (k + 1) = (nI k, f_bits (nI k)) := by rw [goF, if_pos ⟨h, h2⟩]
theorem goF_n {tv : TV} {S : SH} {n k : Nat} (h : ¬ (f_bits (nI k) < (goF tv S n k).2 ∧ ¬ chwF tv S (nI k) n = 0)) : goF tv S n (k + 1) = goF tv S n k := by rw [goF, if_neg h]
def o_go (A : AS) (n what : Int32) : Int32 × AS :=
  (if f_within n 0 40 = 0 then -2 else if f_within what 0 1 = 0 then -2 else
    if what = 0 then (goF (tvA A A.ru) A.S n.toNatClampNeg (2 ^ A.S.n)).1 else if (goF (tvA A A.ru) A.S n.toNatClampNeg (2 ^ A.S.n)).1 = -1 then (goF (tvA A A.ru) A.S n.toNatClampNeg (2 ^ A.S.n)).1 else (goF (tvA A A.ru) A.S n.toNatClampNeg (2 ^ A.S.n)).2, A)
theorem shl1 {n : Nat} (h : n ≤ 10) : (1 : Int32) <<< (nI n &&& 31) = nI (2 ^ n) := by
  rcases (by omega : n = 0 ∨ n = 1 ∨ n = 2 ∨ n = 3 ∨ n = 4 ∨ n = 5 ∨ n = 6 ∨ n = 7 ∨ n = 8 ∨ n = 9 ∨ n = 10) with rfl | rfl | rfl | rfl | rfl | rfl | rfl | rfl | rfl | rfl | rfl <;> decide +kernel
section CLS
variable (E : XEnv) (A : AS)
set_option maxRecDepth 100000 in
set_option maxHeartbeats 4000000 in
theorem l_X4_comes (hC : CI A) (who : Int32) (n : Nat) (hn : n ≤ 40) (j : Nat) : ∀ (k : Nat) (g : GQ), g.tr = A.ru → g.th = A.S.setPl (apF (mvF A.S.pl 1 0 A.S.n) who k) → k + j = A.S.n → XAt E RX4 cX4_comesHomeWith 4 (some .boolean) 20 61 (XR (if (daysF (tvA A A.ru) n (A.S.setPl (apF (mvF A.S.pl 1 0 A.S.n) who A.S.n))).wa < 100 then 1 else 0, A)) 37 [(0, .ref 0), (1, .int who), (2, .int (nI n)), (3, .int (nI k))] [] (gW A g) := by
  have h5 := hC.1
  induction j with
  | zero =>
    intro k g ht hg hk
    have hk : k = A.S.n := by omega
    rw [hk] at hg ⊢
    have hgn : g.th.n = A.S.n := by rw [hg]; rfl
    refine xgo sX4_comesHomeWith [37] 100 (xle rfl) ⟨fun _ => ?_, fun h => absurd (by rw [hgn]; exact nI_le (Nat.le_refl _) (by omega)) h⟩
    refine tPass (xle rfl) hC g ht (by rw [hgn]; exact h5) n (by omega) (fun g' ht' hg' => ?_)
    refine tDown (xle rfl) hC g' ht' (fun g2 ht2 hg2 => ?_)
    rw [hg', hg]
    obtain ⟨w, hw⟩ : ∃ w, w = (daysF (tvA A A.ru) n (A.S.setPl (apF (mvF A.S.pl 1 0 A.S.n) who A.S.n))).wa := ⟨_, rfl⟩
    rw [← hw]
    by_cases hd : w < 100
    · rw [if_pos hd, if_pos hd]
      exact ⟨fun h => absurd rfl h, fun _ => ⟨Or.inr rfl, rfl, g2, rfl⟩⟩
    · rw [if_neg hd, if_neg hd]
      exact ⟨fun _ => ⟨Or.inl rfl, rfl, g2, rfl⟩, fun h => absurd h (by decide)⟩
  | succ j IH =>
    intro k g ht hg hk
    have hc : (nI k).toNatClampNeg = k := nI_clamp (by omega)
    have hgn : g.th.n = A.S.n := by rw [hg]; rfl
    refine xgo sX4_comesHomeWith [37] 100 (xle rfl) ⟨fun h => absurd h (by rw [hgn]; exact nI_ge (by omega) (by omega)), fun _ => ⟨fun h => ?_, fun h => ⟨vp_in_nI (by omega) (by omega), ?_⟩⟩⟩
    · have ih := IH (k + 1) g ht (by rw [apF_n h]; exact hg) (by omega)
      rw [nI_succ] at ih
      exact ih
    · have hpl : g.th.pl = apF (mvF A.S.pl 1 0 A.S.n) who k := by rw [hg]; rfl
      have ih := IH (k + 1) (g.set_th (g.th.setPl (upd g.th.pl k 1))) ht (by rw [apF_y h, hpl]; show g.th.setPl _ = _; rw [hg]; rfl) (by omega)
      rw [nI_succ] at ih
      rw [hc]
      exact ih
set_option maxRecDepth 100000 in
set_option maxHeartbeats 4000000 in
theorem c_X4_comes (hC : CI A) (who : Int32) (n : Nat) (hn : n ≤ 40) (g : GQ) : XCall E 20 yX4_comesHomeWith cX4_comesHomeWith 4 (some .boolean) [.ref 0, .int who, .int (nI n)] (gW A g) (XR (chwF (tvA A A.ru) A.S who n, A)) := by
  unfold chwF
  refine XCall.of (by decide +kernel) (xle rfl) (xgo sX4_comesHomeWith [37] 100 (xle rfl) (gS0 A g hC.ru6 (xle rfl) rfl (c_X2_who E A.S _ _ _ 2 hC.1) (fun r σ' h => ?_)))
  obtain ⟨rfl, rfl⟩ := h
  refine ⟨_, _, _, rfl, fun h => ?_, fun h => ?_⟩
  · rw [if_pos h]
    refine XIn.same (xle rfl) (c_becomes_th E A _) (fun r σ' _ h => ?_)
    obtain ⟨rfl, rfl⟩ := h
    refine gS1 A (gTh A (g.set0 A.ru (g.nm 0) (g.wt A.ru))) hC.ru6 (xle rfl) rfl (c_X2_allMove E A.S _ _ _ 1 0 hC.1) (fun r σ' h => ?_)
    obtain ⟨rfl, rfl⟩ := h
    exact ⟨_, _, _, rfl, l_X4_comes E A hC who n hn A.S.n 0 _ rfl rfl (Nat.zero_add _)⟩
  · rw [if_neg h]
    exact ⟨Or.inl rfl, rfl, _, rfl⟩
set_option maxRecDepth 100000 in
set_option maxHeartbeats 4000000 in
theorem l_X4_go (hC : CI A) (n : Nat) (hn : n ≤ 40) (what : Int32) (R : Int32) (hR : R = if what = 0 then (goF (tvA A A.ru) A.S n (2 ^ A.S.n)).1 else if (goF (tvA A A.ru) A.S n (2 ^ A.S.n)).1 = -1 then (goF (tvA A A.ru) A.S n (2 ^ A.S.n)).1 else (goF (tvA A A.ru) A.S n (2 ^ A.S.n)).2) (N : Nat) (hN : N = 2 ^ A.S.n) (hN2 : N ≤ 32) (j : Nat) : ∀ (k : Nat) (g : GQ), k + j = N → XAt E RX4 cX4_go 7 (some .int) 21 61 (XR (R, A)) 31 [(0, .ref 0), (1, .int (nI n)), (2, .int what), (3, .int (goF (tvA A A.ru) A.S n k).1), (4, .int (goF (tvA A A.ru) A.S n k).2), (5, .int (nI k))] [] (gW A g) := by
  have h5 := hC.1
  have hs : (1 : Int32) <<< (nI A.S.n &&& 31) = nI N := by rw [hN]; exact shl1 (by omega)
  rw [← hN] at hR
  induction j with
  | zero =>
    intro k g hk
    have hk : k = N := by omega
    rw [hk]
    refine xgo sX4_go [31] 100 (xle rfl) ⟨fun _ => ⟨fun h => ?_, fun h => ⟨fun h2 => ?_, fun h2 => ?_⟩⟩, fun h => absurd (by rw [hs]; exact nI_le (Nat.le_refl _) (by omega)) h⟩
    · rw [if_pos h] at hR
      exact ⟨by rw [hR], g, rfl⟩
    · rw [if_neg h, if_neg h2] at hR
      exact ⟨by rw [hR], g, rfl⟩
    · rw [if_neg h, if_pos h2] at hR
      exact ⟨by rw [hR], g, rfl⟩
  | succ j IH =>
    intro k g hk
    refine xgo sX4_go [31] 100 (xle rfl) ⟨fun h => absurd h (by rw [hs]; exact nI_ge (by omega) (by omega)), fun _ => ⟨fun h => ?_, fun h => ?_⟩⟩
    · have ih := IH (k + 1) g (by omega)
      rw [nI_succ, goF_n (fun z => absurd z.1 (Int32.not_lt.mpr h))] at ih
      exact XAt.app [(6, _)] ih
    · refine XIn.same (xle rfl) (c_X4_comes E A hC (nI k) n hn g) (fun r σ' _ h2 => ?_)
      obtain ⟨rfl, g', rfl⟩ := h2
      refine ⟨fun h2 => ?_, fun h2 => ?_⟩
      · have ih := IH (k + 1) g' (by omega)
        rw [nI_succ, goF_n (fun z => z.2 h2)] at ih
        exact XAt.app [(6, _)] ih
      · have ih := IH (k + 1) g' (by omega)
        rw [nI_succ, goF_y (Int32.not_le.mp h) h2] at ih
        exact XAt.app [(6, _)] ih
set_option maxRecDepth 100000 in
set_option maxHeartbeats 4000000 in
theorem c_X4_go (hC : CI A) (n what : Int32) (g : GQ) : XCall E 21 yX4_go cX4_go 7 (some .int) [.ref 0, .int n, .int what] (gW A g) (XR (o_go A n what)) := by
  unfold o_go
  refine XCall.of (by decide +kernel) (xle rfl) (xgo sX4_go [31] 100 (xle rfl) ⟨fun h => ?_, fun h => ⟨fun h2 => ?_, fun h2 => ?_⟩⟩)
  · rw [if_pos h]
    exact ⟨rfl, g, rfl⟩
  · rw [if_neg h, if_neg h2]
    obtain ⟨m, hm, rfl⟩ := fw_e (n := 41) (by omega) h
    rw [nI_clamp (n := m) (by omega)]
    have h5 := hC.1
    have hN2 : 2 ^ A.S.n ≤ 32 := Nat.pow_le_pow_right (by omega : 0 < 2) h5
    exact l_X4_go E A hC m (by omega) what _ rfl (2 ^ A.S.n) rfl hN2 (2 ^ A.S.n) 0 g (Nat.zero_add _)
  · rw [if_neg h, if_pos h2]
    exact ⟨rfl, g, rfl⟩
end CLS
