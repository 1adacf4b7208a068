-- ===== the class: its invariant; what its methods answer =====
def eT (T : TX) : Nat → Nat := fun k => (T.en k).toNatClampNeg
def tvA (A : AS) (i : Nat) : TV := tvT (A.tx i) (eT (A.tx i))
def CI (A : AS) : Prop := A.S.n ≤ 5 ∧ A.ru < A.tc ∧ A.tc ≤ 6 ∧ (∀ i, i < A.tc → TXok (A.tx i) (eT (A.tx i))) ∧ A.K.n ≤ 5 ∧ A.kr < A.tc ∧ (∀ i, i < 6 → (A.tx i).wh = nI i) ∧ A.pn ≤ 160 ∧ (∀ i, i < 4 → (A.sh i).2.1 ≤ 40) ∧ (A.ik = 0 ∨ A.ik = 1)
theorem fw_y {v a b : Int32} (h : ¬ f_within v a b = 0) : a ≤ v ∧ v ≤ b := by
  unfold f_within at h
  split at h
  · exact absurd rfl h
  · next h1 =>
    split at h
    · exact absurd rfl h
    · next h2 => exact ⟨Int32.not_lt.mp h1, Int32.not_lt.mp h2⟩
theorem fw_of {v a b : Int32} (h1 : a ≤ v) (h2 : v ≤ b) : f_within v a b = 1 := by
  unfold f_within
  rw [if_neg (Int32.not_lt.mpr h1), if_neg (Int32.not_lt.mpr h2)]
theorem fw_e {v : Int32} {n : Nat} (hn : n < 2147483648) (h : ¬ f_within v 0 (nI n - 1) = 0) : ∃ k, k < n ∧ v = nI k := by
  obtain ⟨h1, h2⟩ := fw_y h
  obtain ⟨j, hj, rfl⟩ := nI_of (Int32.not_lt.mpr h1)
  cases n with
  | zero =>
    have h3 : (nI j) ≤ (-1 : Int32) := h2
    have a1 := Int32.le_iff_toInt_le.mp h3
    rw [nI_toInt hj, show ((-1 : Int32)).toInt = -1 by decide +kernel] at a1
    omega
  | succ m =>
    rw [nI_pred] at h2
    exact ⟨j, by have := (nI_leI hj (by omega)).mp h2; omega, rfl⟩
theorem fw_in {k n : Nat} (hn : n < 2147483648) (h : k < n) : f_within (nI k) 0 (nI n - 1) = 1 := by
  obtain ⟨m, rfl⟩ : ∃ m, n = m + 1 := ⟨n - 1, by omega⟩
  rw [nI_pred]
  exact fw_of (nI_pos' (by omega)) (nI_le (by omega) (by omega))
theorem fp_e {v : Int32} (h : ¬ f_isPart v = 0) : ∃ k, k < 10 ∧ v = nI k := fw_e (n := 10) (by omega) h
theorem fs_e {v : Int32} (h : ¬ f_isSheet v = 0) : ∃ k, k < 4 ∧ v = nI k := fw_e (n := 4) (by omega) h
def twF (tv : TV) (S : SH) (one : Nat) (what : Int32) : Int32 := if what = 4 then S.nu one else if what = 5 then S.sk one else if what = 6 then S.ki one else if what = 7 then S.pl one else if what = 8 then whoF S.ma (nI one) 10 else if what = 9 then pumpsF tv S one else -1000
def tpF (S : SH) (k : Nat) (what : Int32) : Int32 := if what = 3 then S.so k else if what = 10 then S.ma k else leakF S.se S.so k
def toldF (tv : TV) (S : SH) (of what : Int32) : Int32 :=
  if what = 0 then S.dy else if what = 1 then S.se else if what = 2 then S.wa else
  if what = 3 ∨ what = 10 ∨ what = 11 then (if f_isPart of = 0 then -1000 else tpF S of.toNatClampNeg what)
  else if f_within of 0 (nI S.n - 1) = 0 then -1000 else twF tv S of.toNatClampNeg what
section CLS
variable (E : XEnv) (A : AS) (g : GQ)
set_option maxRecDepth 100000 in
set_option maxHeartbeats 4000000 in
theorem c_X4_toldOfPart (hC : CI A) (k : Nat) (hk : k < 10) (what : Int32) : XCall E 20 yX4_toldOfPart cX4_toldOfPart 3 (some .int) [.ref 0, .int (nI k), .int what] (gW A g) (fun r σ' => r = some (.int (tpF A.S k what)) ∧ ∃ g', σ' = gW A g') := by
  have hc : (nI k).toNatClampNeg = k := nI_clamp (by omega)
  have hr : A.ru < 6 := Nat.lt_of_lt_of_le hC.2.1 hC.2.2.1
  refine XCall.of (by decide +kernel) (xle rfl) (xgo sX4_toldOfPart [] 60 (xle rfl) ⟨fun h => ⟨vp_in_nI (by omega) (by omega), ?_⟩, fun n1 => ⟨fun h => ⟨vp_in_nI (by omega) (by omega), ?_⟩, fun n2 => ?_⟩⟩)
  · rw [hc, tpF, if_pos h]
    exact ⟨rfl, g, rfl⟩
  · rw [hc, tpF, if_neg n1, if_pos h]
    exact ⟨rfl, g, rfl⟩
  · refine gS0 A g hr (xle rfl) rfl (c_X2_leaks E A.S (g.nm 0) (A.tx A.ru) (g.wt A.ru) k hk) (fun r σ' h => ?_)
    obtain ⟨rfl, rfl⟩ := h
    rw [tpF, if_neg n1, if_neg n2]
    exact ⟨_, _, _, rfl, rfl, _, rfl⟩
set_option maxRecDepth 100000 in
set_option maxHeartbeats 4000000 in
theorem c_X4_toldOfWright (hC : CI A) (k : Nat) (hk : k < A.S.n) (what : Int32) : XCall E 20 yX4_toldOfWright cX4_toldOfWright 3 (some .int) [.ref 0, .int (nI k), .int what] (gW A g) (fun r σ' => r = some (.int (twF (tvA A A.ru) A.S k what)) ∧ ∃ g', σ' = gW A g') := by
  have h5 := hC.1
  have hc : (nI k).toNatClampNeg = k := nI_clamp (by omega)
  have hr : A.ru < 6 := Nat.lt_of_lt_of_le hC.2.1 hC.2.2.1
  unfold twF
  refine XCall.of (by decide +kernel) (xle rfl) (xgo sX4_toldOfWright [] 60 (xle rfl) ⟨fun h => ⟨vp_in_nI (by omega) (by omega), ?_⟩, fun n1 => ⟨fun h => ⟨vp_in_nI (by omega) (by omega), ?_⟩, fun n2 => ⟨fun h => ⟨vp_in_nI (by omega) (by omega), ?_⟩, fun n3 => ⟨fun h => ⟨vp_in_nI (by omega) (by omega), ?_⟩, fun n4 => ⟨fun h => ?_, fun n5 => ⟨fun h => ?_, fun n6 => ?_⟩⟩⟩⟩⟩⟩)
  · rw [hc, if_pos h]
    exact ⟨rfl, g, rfl⟩
  · rw [hc, if_neg n1, if_pos h]
    exact ⟨rfl, g, rfl⟩
  · rw [hc, if_neg n1, if_neg n2, if_pos h]
    exact ⟨rfl, g, rfl⟩
  · rw [hc, if_neg n1, if_neg n2, if_neg n3, if_pos h]
    exact ⟨rfl, g, rfl⟩
  · refine gS0 A g hr (xle rfl) rfl (c_X2_madeBy E A.S (g.nm 0) (A.tx A.ru) (g.wt A.ru) (nI k)) (fun r σ' h2 => ?_)
    obtain ⟨rfl, rfl⟩ := h2
    rw [if_neg n1, if_neg n2, if_neg n3, if_neg n4, if_pos h]
    exact ⟨_, _, _, rfl, rfl, _, rfl⟩
  · refine gS0 A g hr (xle rfl) rfl (c_X2_pumps E A.S (g.nm 0) (A.tx A.ru) (g.wt A.ru) (hC.2.2.2.1 _ hC.2.1) h5 k hk) (fun r σ' h2 => ?_)
    obtain ⟨rfl, nm', wt', rfl⟩ := h2
    rw [if_neg n1, if_neg n2, if_neg n3, if_neg n4, if_neg n5, if_pos h]
    exact ⟨_, _, _, rfl, rfl, _, rfl⟩
  · rw [if_neg n1, if_neg n2, if_neg n3, if_neg n4, if_neg n5, if_neg n6]
    exact ⟨rfl, g, rfl⟩
set_option maxRecDepth 100000 in
set_option maxHeartbeats 4000000 in
theorem c_X4_told (hC : CI A) (of what : Int32) : XCall E 21 yX4_told cX4_told 3 (some .int) [.ref 0, .int of, .int what] (gW A g) (fun r σ' => r = some (.int (toldF (tvA A A.ru) A.S of what)) ∧ ∃ g', σ' = gW A g') := by
  have h5 := hC.1
  have hr : A.ru < 6 := Nat.lt_of_lt_of_le hC.2.1 hC.2.2.1
  have part : (what = 3 ∨ what = 10 ∨ what = 11) → XAt E RX4 cX4_told 3 (some .int) 21 61 (fun r σ' => r = some (.int (toldF (tvA A A.ru) A.S of what)) ∧ ∃ g', σ' = gW A g') 88 [(0, .ref 0), (1, .int of), (2, .int what)] [] (gW A g) := by
    intro hw
    have n0 : ¬ what = 0 := fun z => by rw [z] at hw; revert hw; decide
    have n1 : ¬ what = 1 := fun z => by rw [z] at hw; revert hw; decide
    have n2 : ¬ what = 2 := fun z => by rw [z] at hw; revert hw; decide
    unfold toldF
    rw [if_neg n0, if_neg n1, if_neg n2, if_pos hw]
    refine xgo sX4_told [] 60 (xle rfl) ⟨fun h => ⟨by rw [if_pos h], g, rfl⟩, fun h => ?_⟩
    obtain ⟨k, hk, rfl⟩ := fp_e h
    rw [if_neg h, nI_clamp (by omega)]
    refine XIn.same (xle rfl) (c_X4_toldOfPart E A g hC k hk what) (fun r σ' _ h2 => ?_)
    obtain ⟨rfl, g', rfl⟩ := h2
    exact ⟨rfl, g', rfl⟩
  have one : ¬ what = 0 → ¬ what = 1 → ¬ what = 2 → ¬ (what = 3 ∨ what = 10 ∨ what = 11) → XAt E RX4 cX4_told 3 (some .int) 21 61 (fun r σ' => r = some (.int (toldF (tvA A A.ru) A.S of what)) ∧ ∃ g', σ' = gW A g') 108 [(0, .ref 0), (1, .int of), (2, .int what)] [] (gW A g) := by
    intro n0 n1 n2 n3
    unfold toldF
    rw [if_neg n0, if_neg n1, if_neg n2, if_neg n3]
    refine xgo sX4_told [] 60 (xle rfl) (gS0 A g hr (xle rfl) rfl (c_X2_has E A.S (g.nm 0) (A.tx A.ru) (g.wt A.ru) of) (fun r σ' h2 => ?_))
    obtain ⟨rfl, rfl⟩ := h2
    refine ⟨_, _, _, rfl, fun h => ⟨by rw [if_pos h], _, rfl⟩, fun h => ?_⟩
    obtain ⟨k, hk, rfl⟩ := fw_e (by omega) h
    rw [if_neg h, nI_clamp (by omega)]
    refine XIn.same (xle rfl) (c_X4_toldOfWright E A _ hC k hk what) (fun r σ' _ h2 => ?_)
    obtain ⟨rfl, g', rfl⟩ := h2
    exact ⟨rfl, g', rfl⟩
  refine XCall.of (by decide +kernel) (xle rfl) (xgo sX4_told [88, 108] 60 (xle rfl) ⟨fun h => ⟨by rw [toldF, if_pos h], g, rfl⟩, fun n0 => ⟨fun h => ⟨by rw [toldF, if_neg n0, if_pos h], g, rfl⟩, fun n1 => ⟨fun h => ⟨by rw [toldF, if_neg n0, if_neg n1, if_pos h], g, rfl⟩, fun n2 => ⟨fun h => part (Or.inl h), fun n3 => ?_⟩⟩⟩⟩)
  have no : ∀ v : Int32, what = v → (¬ (v = 3 ∨ v = 10 ∨ v = 11)) → ¬ (what = 3 ∨ what = 10 ∨ what = 11) := fun v hv hn => by rw [hv]; exact hn
  refine ⟨fun h => one n0 n1 n2 (no 4 h (by decide)), fun n4 => ⟨fun h => one n0 n1 n2 (no 5 h (by decide)), fun n5 => ⟨fun h => one n0 n1 n2 (no 6 h (by decide)), fun n6 => ⟨fun h => one n0 n1 n2 (no 7 h (by decide)), fun n7 => ⟨fun h => one n0 n1 n2 (no 8 h (by decide)), fun n8 => ⟨fun h => one n0 n1 n2 (no 9 h (by decide)), fun n9 => ⟨fun h => part (Or.inr (Or.inl h)), fun n10 => ⟨fun h => part (Or.inr (Or.inr h)), fun n11 => one n0 n1 n2 (fun z => z.elim n3 (fun z => z.elim n10 n11))⟩⟩⟩⟩⟩⟩⟩⟩
end CLS
