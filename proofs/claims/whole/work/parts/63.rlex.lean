-- ===== the reference's tokens =====
def mR (A : AS) (h : YQ) (he tk ta : Int32) (w : Int64) (op bd fl : Int32) : XW := [.inr (5, [.int h.th, .ref 1, .ref 2, .int (nI A.tc), .int (nI A.ru), .ref 3, .int (nI A.pn), .int A.S.dy, .int A.S.se, .int A.S.wa, .ref 4, .ref 5, .ref 6, .int (nI A.S.n),
  .int h.o1, .int h.o2, .int h.o3, .int h.o4, .int h.o5, .int h.o6, .int h.p1, .int h.p2, .int he, .int tk, .int ta, .long w, .int op, .int bd, .int fl, .ref 7, .ref 8, .int h.b1, .int h.b2, .int h.b3, .ref 9, .ref 10, .ref 11, .int h.k1, .int h.k2, .int h.k3, .int h.k4, .int h.k5, .ref 12, .ref 13, .ref 14, .ref 15]),
  .inl (0, 960, .inl h.tx), .inl (0, 6, .inl h.ts), .inl (0, 160, .inl A.pb), .inl (0, 10, .inl A.S.ma), .inl (0, 10, .inl A.S.so), .inl (0, 20, .inl (rowsF A.S)), .inl (0, 43, .inl h.wz), .inl (0, 3, .inl h.ba), .inl (0, 20, .inl h.rk), .inl (0, 10, .inl h.bk), .inl (0, 10, .inl h.sk), .inl (1, 4, .inl h.it0), .inl (0, 4, .inl h.so), .inl (0, 4, .inl h.sz), .inl (0, 160, .inl h.it)]
set_option maxHeartbeats 4000000 in
theorem mR_e (A : AS) (h : YQ) (he tk ta : Int32) (w : Int64) (op bd fl : Int32) : mR A h he tk ta w op bd fl = mW A (h.rd (h.o1, h.o2, h.o3, h.o4, h.o5, h.o6, h.p1, h.p2, he, tk, ta, w, op, bd, fl)) := rfl
/-- what is read lies in the texts, from b0 on -/
def RdH (h : YQ) (f : F32) (n b0 : Nat) : Prop := h.p1 = nI b0 ∧ h.p2 = nI n ∧ n ≤ 160 ∧ b0 ≤ 800 ∧ (∀ i, i < n → h.tx (b0 + i) = f i) ∧ ∀ i, i < n → 0 ≤ f i
def byF (f : F32) (n i : Nat) : Int32 := if i < n then f i else -1
def RT (f : F32) (n q : Nat) (he tk ta : Int32) (w : Int64) : Prop := ta = nI (lpF f n q) ∧
  ((kdF f n q = 0 ∧ tk = 0) ∨ (kdF f n q = 1 ∧ tk = 1 ∧ he = nI (afF f n q)) ∨ (kdF f n q = 2 ∧ cdF f n q = 12 ∧ tk = 2 ∧ w = lN (nbF f n q) ∧ he = nI (afF f n q)) ∨ (kdF f n q = 2 ∧ cdF f n q = 14 ∧ tk = 4) ∨ (kdF f n q = 3 ∧ tk = 3 ∧ w = lN (cdF f n q) ∧ he = nI (afF f n q)) ∨ (kdF f n q = 4 ∧ tk = 4))
theorem le_m1 {a : Nat} (ha : a < 2147483648) : ¬ (nI a ≤ (-1 : Int32)) := fun z => by
  have := Int32.le_trans (nI_pos' ha) z
  exact absurd this (by decide)
section MODEL
variable (E : XEnv) (A : AS) (h : YQ) (f : F32) (n b0 : Nat)
set_option maxRecDepth 100000 in
theorem c_X5_byteAt (hH : RdH h f n b0) (he tk ta : Int32) (w : Int64) (op bd fl : Int32) (i : Nat) (hi : i < 1000000) : XCall E 10 yX5_byteAt cX5_byteAt 2 (some .int) [.ref 0, .int (nI i)] (mR A h he tk ta w op bd fl) (fun r σ' => r = some (.int (byF f n i)) ∧ σ' = mR A h he tk ta w op bd fl) := by
  obtain ⟨h1, h2, h3, h4, h5, h6⟩ := hH
  unfold byF
  refine XCall.of (by decide +kernel) (xle rfl) (xgo sX5_byteAt [] 60 (xle rfl) ⟨fun q => ?_, fun q => ?_⟩)
  · have q : h.p2 ≤ nI i := q
    rw [h2] at q
    have := (nI_leI (by omega) (by omega)).mp q
    rw [if_neg (by omega)]
    exact ⟨rfl, rfl⟩
  · have q : ¬ h.p2 ≤ nI i := q
    rw [h2] at q
    have hl : i < n := Nat.lt_of_not_le (fun z => q (nI_le z (by omega)))
    have e : h.p1 + nI i = nI (b0 + i) := by rw [h1, nI_add]
    refine ⟨by rw [e]; exact vp_in_nI (by omega) (by omega), ?_, rfl⟩
    rw [e, nI_clamp (by omega : b0 + i < 2147483648), h5 i hl, if_pos hl]
set_option maxRecDepth 100000 in
theorem c_X5_fail (he tk : Int32) (p : Nat) (w : Int64) (op fl : Int32) : XCall E 10 yX5_fail cX5_fail 1 none [.ref 0] (mR A h he tk (nI p) w op 0 fl) (fun r σ' => r = none ∧ σ' = mR A h he tk (nI p) w op 1 (nI p)) :=
  XCall.of (by decide +kernel) (xle rfl) (xgo sX5_fail [] 60 (xle rfl) ⟨fun q => absurd rfl q, fun _ => ⟨Or.inr rfl, rfl, rfl⟩⟩)
set_option maxRecDepth 100000 in
theorem c_X5_failB (he tk ta : Int32) (w : Int64) (op fl : Int32) : XCall E 10 yX5_fail cX5_fail 1 none [.ref 0] (mR A h he tk ta w op 1 fl) (fun r σ' => r = none ∧ σ' = mR A h he tk ta w op 1 fl) :=
  XCall.of (by decide +kernel) (xle rfl) (xgo sX5_fail [] 60 (xle rfl) ⟨fun _ => ⟨rfl, rfl⟩, fun q => absurd q (by decide)⟩)
theorem by_in {i : Nat} (h : i < n) : byF f n i = f i := if_pos h
theorem by_out {i : Nat} (h : n ≤ i) : byF f n i = -1 := if_neg (by omega)
theorem by_eq (hH : RdH h f n b0) {i : Nat} {c : Int32} (hc : 0 ≤ c) : byF f n i = c ↔ i < n ∧ f i = c := by
  unfold byF
  by_cases q : i < n
  · rw [if_pos q]
    exact ⟨fun z => ⟨q, z⟩, fun z => z.2⟩
  · rw [if_neg q]
    exact ⟨fun z => by rw [← z] at hc; exact absurd hc (by decide), fun z => absurd z.1 q⟩
theorem by_lo {P : Int32 → Int32} {i : Nat} (hm : P (-1) = 0) : ¬ P (byF f n i) = 0 ↔ i < n ∧ ¬ P (f i) = 0 := by
  unfold byF
  by_cases q : i < n
  · rw [if_pos q]
    exact ⟨fun z => ⟨q, z⟩, fun z => z.2⟩
  · rw [if_neg q]
    exact ⟨fun z => absurd hm z, fun z => absurd z.1 q⟩
theorem run_e {P : Int32 → Bool} {q : Nat} (h : n ≤ q) (j : Nat) : zrnF P f n j q = q := by
  cases j with
  | zero => rfl
  | succ j => exact if_neg (fun z => by omega)
theorem fin97 (b : Int32) : f_in b.toInt64 97 122 = f_within b 97 122 := f_in_w (a := 97) (by decide +kernel) (by decide +kernel)
theorem fin48 (b : Int32) : f_in b.toInt64 48 57 = f_within b 48 57 := f_in_w (a := 48) (by decide +kernel) (by decide +kernel)
set_option maxRecDepth 100000 in
set_option maxHeartbeats 4000000 in
theorem l_X5_lets (hH : RdH h f n b0) (Q : XQ) (tk ta b : Int32) (w : Int64) (op bd fl : Int32) (j : Nat) : ∀ (q : Nat), q + j = n → (∀ e, e = zrnF zzLo f n j q → XAt E RX5 cX5_next 3 none 11 16 Q 321 [(0, .ref 0), (1, .int b)] [] (mR A h (nI e) tk ta w op bd fl)) → XAt E RX5 cX5_next 3 none 11 16 Q 100 [(0, .ref 0), (1, .int b)] [] (mR A h (nI q) tk ta w op bd fl) := by
  have hn := hH.2.2.1
  induction j with
  | zero =>
    intro q hq k
    obtain rfl : q = n := by omega
    refine xgo sX5_next [100, 321] 60 (xle rfl) (XIn.same (xle rfl) (c_X5_byteAt E A h f q b0 hH (nI q) tk ta w op bd fl q (by omega)) (fun r σ' _ z => ?_))
    obtain ⟨rfl, rfl⟩ := z
    refine ⟨fun _ => k q rfl, fun z => ?_⟩
    rw [by_out f q (Nat.le_refl _)] at z
    exact absurd (by decide) z
  | succ j IH =>
    intro q hq k
    refine xgo sX5_next [100, 321] 60 (xle rfl) (XIn.same (xle rfl) (c_X5_byteAt E A h f n b0 hH (nI q) tk ta w op bd fl q (by omega)) (fun r σ' _ z => ?_))
    obtain ⟨rfl, rfl⟩ := z
    refine ⟨fun z => ?_, fun z => ?_⟩
    · rw [fin97, by_in f n (by omega)] at z
      exact k q (run_n (fun y => zzLo_y.mp y z)).symm
    · rw [fin97, by_in f n (by omega)] at z
      have ih := IH (q + 1) (by omega) (fun e he => k e (by rw [run_y (by omega) (zzLo_y.mpr z)]; exact he))
      rw [nI_succ] at ih
      exact ih
theorem dig_c {b : Int32} (h : ¬ f_within b 48 57 = 0) : ∃ c, c ≤ 9 ∧ b = nI (48 + c) := by
  obtain ⟨q1, q2⟩ := fw_y h
  obtain ⟨j, hj, rfl⟩ := nI_of (Int32.not_lt.mpr (Int32.le_trans (show (0 : Int32) ≤ 48 by decide) q1))
  have a1 := (nI_leI (a := 48) (by omega) hj).mp q1
  have a2 := (nI_leI (b := 57) hj (by omega)).mp q2
  exact ⟨j - 48, by omega, by rw [show 48 + (j - 48) = j by omega]⟩
theorem nv_4 {p k : Nat} (h : k < 4) : nvF f p (k + 1) = nvF f p k * 10 + ((f (p + k)).toNatClampNeg - 48) := if_pos h
theorem nv_5 {p k : Nat} (h : ¬ k < 4) : nvF f p (k + 1) = nvF f p k := if_neg h
theorem nv_b {p : Nat} : ∀ k, (∀ i, i < k → ¬ f_within (f (p + i)) 48 57 = 0) → nvF f p k < 10000 ∧ (k ≤ 3 → nvF f p k < 1000) ∧ (k ≤ 2 → nvF f p k < 100) ∧ (k ≤ 1 → nvF f p k < 10) ∧ (k = 0 → nvF f p k = 0)
  | 0, _ => ⟨by show 0 < 10000; omega, fun _ => by show 0 < 1000; omega, fun _ => by show 0 < 100; omega, fun _ => by show 0 < 10; omega, fun _ => rfl⟩
  | k + 1, h => by
    have ih := nv_b k (fun i hi => h i (by omega))
    obtain ⟨c, hc, e⟩ := dig_c (h k (by omega))
    by_cases h4 : k < 4
    · rw [nv_4 f h4, e, nI_clamp (by omega)]
      rcases (by omega : k = 0 ∨ k = 1 ∨ k = 2 ∨ k = 3) with rfl | rfl | rfl | rfl
      · have := ih.2.2.2.2 rfl
        omega
      · have := ih.2.2.2.1 (by omega)
        omega
      · have := ih.2.2.1 (by omega)
        omega
      · have := ih.2.1 (by omega)
        omega
    · rw [nv_5 f h4]
      have := ih.1
      omega
set_option maxRecDepth 100000 in
set_option maxHeartbeats 4000000 in
theorem l_X5_digs (hH : RdH h f n b0) (Q : XQ) (tk ta b : Int32) (op bd fl : Int32) (p : Nat) (j : Nat) : ∀ (k : Nat), p + k + j = n → (∀ i, i < k → ¬ f_within (f (p + i)) 48 57 = 0) → (∀ d, p + d = zrnF zzDi f n j (p + k) → XAt E RX5 cX5_next 3 none 11 16 Q 235 [(0, .ref 0), (1, .int b), (2, .int (nI d))] [] (mR A h (nI (p + d)) tk ta (lN (nvF f p d)) op bd fl)) → XAt E RX5 cX5_next 3 none 11 16 Q 160 [(0, .ref 0), (1, .int b), (2, .int (nI k))] [] (mR A h (nI (p + k)) tk ta (lN (nvF f p k)) op bd fl) := by
  have hn := hH.2.2.1
  induction j with
  | zero =>
    intro k hq hd kk
    refine xgo sX5_next [160, 235] 60 (xle rfl) (XIn.same (xle rfl) (c_X5_byteAt E A h f n b0 hH (nI (p + k)) tk ta (lN (nvF f p k)) op bd fl (p + k) (by omega)) (fun r σ' _ z => ?_))
    obtain ⟨rfl, rfl⟩ := z
    refine ⟨fun _ => kk k rfl, fun z => ?_⟩
    rw [by_out f n (by omega)] at z
    exact absurd (by decide) z
  | succ j IH =>
    intro k hq hd kk
    refine xgo sX5_next [160, 235] 60 (xle rfl) (XIn.same (xle rfl) (c_X5_byteAt E A h f n b0 hH (nI (p + k)) tk ta (lN (nvF f p k)) op bd fl (p + k) (by omega)) (fun r σ' _ z => ?_))
    obtain ⟨rfl, rfl⟩ := z
    refine ⟨fun z => ?_, fun z => ?_⟩
    · rw [fin48, by_in f n (by omega)] at z
      exact kk k (run_n (fun y => zzDi_y.mp y z)).symm
    · rw [fin48, by_in f n (by omega)] at z
      have hd2 : ∀ i, i < k + 1 → ¬ f_within (f (p + i)) 48 57 = 0 := fun i hi => by
        rcases (by omega : i < k ∨ i = k) with e | e
        · exact hd i e
        · rw [e]; exact z
      have ih := IH (k + 1) (by omega) hd2 (fun d hd => kk d (by rw [run_y (by omega) (zzDi_y.mpr z)]; exact hd))
      obtain ⟨c, hc, ec⟩ := dig_c z
      have hv := (nv_b f (p := p) k hd).1
      have ei : nI (p + (k + 1)) = nI (p + k) + 1 := by rw [← Nat.add_assoc, nI_succ]
      refine ⟨fun z4 => ?_, fun z4 => ?_⟩
      · have h4 : ¬ k < 4 := fun y => absurd z4 (nI_ge (b := 4) y (by omega))
        rw [nv_5 f h4, ei, nI_succ] at ih
        exact ih
      · have h4 : k < 4 := Nat.lt_of_not_le (fun y => z4 (nI_le (a := 4) y (by omega)))
        refine XIn.same (xle rfl) (c_X5_byteAt E A h f n b0 hH (nI (p + k)) tk ta (lN (nvF f p k)) op bd fl (p + k) (by omega)) (fun r σ' _ z5 => ?_)
        obtain ⟨rfl, rfl⟩ := z5
        have ew : (10 : Int64) * lN (nvF f p k) + (byF f n (p + k)).toInt64 - 48 = lN (nvF f p (k + 1)) := by
          rw [by_in f n (by omega), ec, nI_l (by omega), show (10 : Int64) = lN 10 from rfl, lN_mul, lN_add, show (48 : Int64) = lN 48 from rfl, lN_sub (by omega), nv_4 f h4, ec, nI_clamp (by omega)]
          congr 1
          omega
        rw [ei, nI_succ, ← ew] at ih
        exact ih
end MODEL
