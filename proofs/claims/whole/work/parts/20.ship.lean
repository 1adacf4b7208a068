-- ===== the ship: what a state is =====
abbrev F32 : Type := Nat → Int32
/-- maker, sound, kind, number, skill, place; how many wrights; day, sea, water -/
def SH : Type := F32 × F32 × F32 × F32 × F32 × F32 × Nat × Int32 × Int32 × Int32
def SH.ma (S : SH) : F32 := S.1
def SH.so (S : SH) : F32 := S.2.1
def SH.ki (S : SH) : F32 := S.2.2.1
def SH.nu (S : SH) : F32 := S.2.2.2.1
def SH.sk (S : SH) : F32 := S.2.2.2.2.1
def SH.pl (S : SH) : F32 := S.2.2.2.2.2.1
def SH.n (S : SH) : Nat := S.2.2.2.2.2.2.1
def SH.dy (S : SH) : Int32 := S.2.2.2.2.2.2.2.1
def SH.se (S : SH) : Int32 := S.2.2.2.2.2.2.2.2.1
def SH.wa (S : SH) : Int32 := S.2.2.2.2.2.2.2.2.2
def SH.setMa (S : SH) (f : F32) : SH := (f, S.so, S.ki, S.nu, S.sk, S.pl, S.n, S.dy, S.se, S.wa)
def SH.setSo (S : SH) (f : F32) : SH := (S.ma, f, S.ki, S.nu, S.sk, S.pl, S.n, S.dy, S.se, S.wa)
def SH.setKi (S : SH) (f : F32) : SH := (S.ma, S.so, f, S.nu, S.sk, S.pl, S.n, S.dy, S.se, S.wa)
def SH.setNu (S : SH) (f : F32) : SH := (S.ma, S.so, S.ki, f, S.sk, S.pl, S.n, S.dy, S.se, S.wa)
def SH.setSk (S : SH) (f : F32) : SH := (S.ma, S.so, S.ki, S.nu, f, S.pl, S.n, S.dy, S.se, S.wa)
def SH.setPl (S : SH) (f : F32) : SH := (S.ma, S.so, S.ki, S.nu, S.sk, f, S.n, S.dy, S.se, S.wa)
def SH.setN (S : SH) (n : Nat) : SH := (S.ma, S.so, S.ki, S.nu, S.sk, S.pl, n, S.dy, S.se, S.wa)
def SH.setDy (S : SH) (v : Int32) : SH := (S.ma, S.so, S.ki, S.nu, S.sk, S.pl, S.n, v, S.se, S.wa)
def SH.setSe (S : SH) (v : Int32) : SH := (S.ma, S.so, S.ki, S.nu, S.sk, S.pl, S.n, S.dy, v, S.wa)
def SH.setWa (S : SH) (v : Int32) : SH := (S.ma, S.so, S.ki, S.nu, S.sk, S.pl, S.n, S.dy, S.se, v)
/-- a text: which, steps, ends, size -/
def TX : Type := Int32 × F32 × F32 × Int32
def TX.wh (T : TX) : Int32 := T.1
def TX.st (T : TX) : F32 := T.2.1
def TX.en (T : TX) : F32 := T.2.2.1
def TX.sz (T : TX) : Int32 := T.2.2.2
def arI (n : Nat) (f : F32) : XE := .inl (0, n, .inl f)
/-- the ship's world: the ship, its rows, the text that is the rule -/
def shW (S : SH) (nm : F32) (T : TX) (wt : F32) : XW := [.inr (2, [.ref 1, .ref 2, .int (nI S.n), .ref 3, .ref 4, .ref 5, .ref 6, .int S.dy, .int S.se, .int S.wa, .ref 8, .ref 7]), .inl (0, 10, .inl S.ma), .inl (0, 10, .inl S.so), .inl (0, 5, .inl S.ki), .inl (0, 5, .inl S.nu), .inl (0, 5, .inl S.sk), .inl (0, 5, .inl S.pl), .inl (0, 6, .inl nm),
  .inr (3, [.int T.wh, .ref 9, .ref 10, .int T.sz, .ref 11]), .inl (0, 320, .inl T.st), .inl (0, 3, .inl T.en), .inl (0, 64, .inl wt)]
-- ===== what the ship's methods answer =====
def whoF (pl : F32) (w : Int32) : Nat → Int32
  | 0 => 0
  | k + 1 => if pl k = w then whoF pl w k ||| ((1 : Int32) <<< (nI k &&& 31)) else whoF pl w k
def mvF (pl : F32) (a b : Int32) (k : Nat) : F32 := fun j => if j < k ∧ pl j = a then b else pl j
def nuF (mk : F32) : Nat → Nat → Int32
  | 0, _ => -1
  | j + 1, k => if mk k = -1 then nI k else nuF mk j (k + 1)
def lsF (mk so : F32) (one : Int32) : Nat → Int32 × Int32
  | 0 => (-1, 100)
  | k + 1 => if mk k = one ∧ so k < (lsF mk so one k).2 then (nI k, so k) else lsF mk so one k
def leakF (se : Int32) (so : F32) (k : Nat) : Int32 := if f_isUnder (nI k) = 0 then f_max 0 (se - so k) / 2 else f_max 0 (se - so k)
def alF (se : Int32) (so : F32) : Nat → Int32
  | 0 => 0
  | k + 1 => alF se so k + leakF se so k
theorem whoF_n {pl : F32} {w : Int32} {k : Nat} (h : ¬ pl k = w) : whoF pl w (k + 1) = whoF pl w k := by rw [whoF, if_neg h]
theorem whoF_y {pl : F32} {w : Int32} {k : Nat} (h : pl k = w) : whoF pl w (k + 1) = whoF pl w k ||| ((1 : Int32) <<< (nI k &&& 31)) := by rw [whoF, if_pos h]
theorem lsF_n {mk so : F32} {one : Int32} {k : Nat} (h : ¬ (mk k = one ∧ so k < (lsF mk so one k).2)) : lsF mk so one (k + 1) = lsF mk so one k := by rw [lsF, if_neg h]
theorem lsF_y {mk so : F32} {one : Int32} {k : Nat} (h : mk k = one ∧ so k < (lsF mk so one k).2) : lsF mk so one (k + 1) = (nI k, so k) := by rw [lsF, if_pos h]
theorem alF_s (se : Int32) (so : F32) (k : Nat) : alF se so (k + 1) = alF se so k + leakF se so k := rfl
theorem xle {a b : Nat} (h : Nat.ble a b = true) : a ≤ b := Nat.le_of_ble_eq_true h
section SHIP
variable (E : XEnv) (S : SH) (nm : F32) (T : TX) (wt : F32)
theorem c_X2_has (p : Int32) : XCall E 10 yX2_has cX2_has 2 (some .boolean) [.ref 0, .int p] (shW S nm T wt) (fun r σ' => r = some (.int (f_within p 0 (nI S.n - 1))) ∧ σ' = shW S nm T wt) :=
  XCall.of (by decide +kernel) (xle rfl) (xgo sX2_has [] 60 (xle rfl) ⟨f_within_01 _ _ _, rfl, rfl⟩)
theorem c_X2_isDown : XCall E 10 yX2_isDown cX2_isDown 1 (some .boolean) [.ref 0] (shW S nm T wt) (fun r σ' => r = some (.int (if S.wa < 100 then 0 else 1)) ∧ σ' = shW S nm T wt) :=
  XCall.of (by decide +kernel) (xle rfl) (xgo sX2_isDown [] 60 (xle rfl) ⟨fun h => ⟨Or.inl rfl, by rw [if_pos h], rfl⟩, fun h => ⟨Or.inr rfl, by rw [if_neg h], rfl⟩⟩)
theorem l_X2_who (w : Int32) (hn : S.n ≤ 5) : ∀ (j k : Nat), k + j = S.n → XAt E RX2 cX2_who 4 (some .int) 10 12 (fun r σ' => r = some (.int (whoF S.pl w S.n)) ∧ σ' = shW S nm T wt) 4 [(0, .ref 0), (1, .int w), (2, .int (whoF S.pl w k)), (3, .int (nI k))] [] (shW S nm T wt)
  | 0, k, hk => by
    obtain rfl : k = S.n := by omega
    exact xgo sX2_who [4] 60 (xle rfl) ⟨fun _ => ⟨rfl, rfl⟩, fun h => absurd (nI_le (Nat.le_refl _) (by omega)) h⟩
  | j + 1, k, hk => by
    have ih := l_X2_who w hn j (k + 1) (by omega)
    have hc : (nI k).toNatClampNeg = k := nI_clamp (by omega)
    refine xgo sX2_who [4] 60 (xle rfl) ⟨fun h => absurd h (nI_ge (by omega) (by omega)), fun _ => ⟨vp_in_nI (by omega) (by omega), fun h => ?_, fun h => ?_⟩⟩
    · rw [hc] at h
      rw [nI_succ, whoF_n h] at ih
      exact ih
    · rw [hc] at h
      rw [nI_succ, whoF_y h] at ih
      exact ih
theorem c_X2_who (w : Int32) (hn : S.n ≤ 5) : XCall E 10 yX2_who cX2_who 4 (some .int) [.ref 0, .int w] (shW S nm T wt) (fun r σ' => r = some (.int (whoF S.pl w S.n)) ∧ σ' = shW S nm T wt) :=
  XCall.of (by decide +kernel) (xle rfl) (xgo sX2_who [4] 60 (xle rfl) (l_X2_who E S nm T wt w hn S.n 0 (Nat.zero_add _)))
theorem mvF_k (pl : F32) (a b : Int32) (k : Nat) : mvF pl a b k k = pl k := by
  unfold mvF
  rw [if_neg (fun h => Nat.lt_irrefl _ h.1)]
theorem mvF_y {pl : F32} {a b : Int32} {k : Nat} (h : pl k = a) : upd (mvF pl a b k) k b = mvF pl a b (k + 1) := by
  funext j
  unfold upd mvF
  by_cases hj : j = k
  · subst hj
    rw [if_pos rfl, if_pos ⟨Nat.lt_succ_self _, h⟩]
  · rw [if_neg hj]
    by_cases h1 : j < k ∧ pl j = a
    · rw [if_pos h1, if_pos ⟨by omega, h1.2⟩]
    · rw [if_neg h1, if_neg (fun z => h1 ⟨by omega, z.2⟩)]
theorem mvF_n {pl : F32} {a b : Int32} {k : Nat} (h : ¬ pl k = a) : mvF pl a b k = mvF pl a b (k + 1) := by
  funext j
  unfold mvF
  by_cases h1 : j < k ∧ pl j = a
  · rw [if_pos h1, if_pos ⟨by omega, h1.2⟩]
  · rw [if_neg h1]
    by_cases h2 : j < k + 1 ∧ pl j = a
    · have : j = k := by
        rcases Nat.lt_succ_iff_lt_or_eq.mp h2.1 with q | q
        · exact absurd ⟨q, h2.2⟩ h1
        · exact q
      rw [this] at h2
      exact absurd h2.2 h
    · rw [if_neg h2]
theorem mvF_0 (pl : F32) (a b : Int32) : mvF pl a b 0 = pl := by
  funext j
  unfold mvF
  rw [if_neg (fun h => Nat.not_lt_zero _ h.1)]
theorem l_X2_allMove (a b : Int32) (hn : S.n ≤ 5) : ∀ (j k : Nat), k + j = S.n → XAt E RX2 cX2_allMove 4 none 10 12 (fun r σ' => r = none ∧ σ' = shW (S.setPl (mvF S.pl a b S.n)) nm T wt) 2 [(0, .ref 0), (1, .int a), (2, .int b), (3, .int (nI k))] [] (shW (S.setPl (mvF S.pl a b k)) nm T wt)
  | 0, k, hk => by
    obtain rfl : k = S.n := by omega
    exact xgo sX2_allMove [2] 60 (xle rfl) ⟨fun _ => ⟨rfl, rfl⟩, fun h => absurd (nI_le (a := S.n) (b := S.n) (Nat.le_refl _) (by omega)) h⟩
  | j + 1, k, hk => by
    have ih := l_X2_allMove a b hn j (k + 1) (by omega)
    have hc : (nI k).toNatClampNeg = k := nI_clamp (by omega)
    refine xgo sX2_allMove [2] 60 (xle rfl) ⟨fun h => absurd h (nI_ge (b := S.n) (by omega) (by omega)), fun _ => ⟨vp_in_nI (by omega) (by omega), fun h => ?_, fun h => ⟨vp_in_nI (by omega) (by omega), ?_⟩⟩⟩
    · rw [hc] at h
      have h : ¬ S.pl k = a := fun z => h ((mvF_k S.pl a b k).trans z)
      rw [nI_succ, ← mvF_n h] at ih
      exact ih
    · rw [hc] at h
      have h : S.pl k = a := (mvF_k S.pl a b k).symm.trans h
      rw [nI_succ, ← mvF_y h] at ih
      rw [hc]
      exact ih
theorem c_X2_allMove (a b : Int32) (hn : S.n ≤ 5) : XCall E 10 yX2_allMove cX2_allMove 4 none [.ref 0, .int a, .int b] (shW S nm T wt) (fun r σ' => r = none ∧ σ' = shW (S.setPl (mvF S.pl a b S.n)) nm T wt) := by
  have h := l_X2_allMove E S nm T wt a b hn S.n 0 (Nat.zero_add _)
  rw [mvF_0] at h
  exact XCall.of (by decide +kernel) (xle rfl) (xgo sX2_allMove [2] 60 (xle rfl) h)
theorem l_X2_madeBy (w : Int32) : ∀ (j k : Nat), k + j = 10 → XAt E RX2 cX2_madeBy 4 (some .int) 10 12 (fun r σ' => r = some (.int (whoF S.ma w 10)) ∧ σ' = shW S nm T wt) 4 [(0, .ref 0), (1, .int w), (2, .int (whoF S.ma w k)), (3, .int (nI k))] [] (shW S nm T wt)
  | 0, k, hk => by
    obtain rfl : k = 10 := by omega
    exact xgo sX2_madeBy [4] 60 (xle rfl) ⟨fun _ => ⟨rfl, rfl⟩, fun h => absurd (nI_le (a := 10) (b := 10) (Nat.le_refl _) (by omega)) h⟩
  | j + 1, k, hk => by
    have ih := l_X2_madeBy w j (k + 1) (by omega)
    have hc : (nI k).toNatClampNeg = k := nI_clamp (by omega)
    refine xgo sX2_madeBy [4] 60 (xle rfl) ⟨fun h => absurd h (nI_ge (b := 10) (by omega) (by omega)), fun _ => ⟨vp_in_nI (by omega) (by omega), fun h => ?_, fun h => ?_⟩⟩
    · rw [hc] at h
      rw [nI_succ, whoF_n h] at ih
      exact ih
    · rw [hc] at h
      rw [nI_succ, whoF_y h] at ih
      exact ih
theorem c_X2_madeBy (w : Int32) : XCall E 10 yX2_madeBy cX2_madeBy 4 (some .int) [.ref 0, .int w] (shW S nm T wt) (fun r σ' => r = some (.int (whoF S.ma w 10)) ∧ σ' = shW S nm T wt) :=
  XCall.of (by decide +kernel) (xle rfl) (xgo sX2_madeBy [4] 60 (xle rfl) (l_X2_madeBy E S nm T wt w 10 0 rfl))
theorem c_X2_partsMade : XCall E 11 yX2_partsMade cX2_partsMade 1 (some .int) [.ref 0] (shW S nm T wt) (fun r σ' => r = some (.int (10 - f_bits (whoF S.ma (-1) 10))) ∧ σ' = shW S nm T wt) := by
  refine XCall.of (by decide +kernel) (xle rfl) (xgo sX2_partsMade [] 60 (xle rfl) (XIn.same (xle rfl) (c_X2_madeBy E S nm T wt (-1)) (fun r σ' _ h => ?_)))
  obtain ⟨rfl, rfl⟩ := h
  exact ⟨rfl, rfl⟩
theorem l_X2_nextUnmade (x : Int32) : ∀ (j k : Nat), k + j = 10 → XAt E RX2 cX2_nextUnmade 3 (some .int) 10 12 (fun r σ' => r = some (.int (nuF S.ma j k)) ∧ σ' = shW S nm T wt) 6 [(0, .ref 0), (1, .int x), (2, .int (nI k))] [] (shW S nm T wt)
  | 0, k, hk => by
    obtain rfl : k = 10 := by omega
    exact xgo sX2_nextUnmade [6] 60 (xle rfl) ⟨fun _ => ⟨rfl, rfl⟩, fun h => absurd (nI_le (a := 10) (b := 10) (Nat.le_refl _) (by omega)) h⟩
  | j + 1, k, hk => by
    have ih := l_X2_nextUnmade x j (k + 1) (by omega)
    have hc : (nI k).toNatClampNeg = k := nI_clamp (by omega)
    refine xgo sX2_nextUnmade [6] 60 (xle rfl) ⟨fun h => absurd h (nI_ge (b := 10) (by omega) (by omega)), fun _ => ⟨vp_in_nI (by omega) (by omega), fun h => ?_, fun h => ?_⟩⟩
    · rw [hc] at h
      rw [nI_succ] at ih
      rw [nuF, if_neg h]
      exact ih
    · rw [hc] at h
      exact ⟨by rw [nuF, if_pos h], rfl⟩
theorem c_X2_nextUnmade (k : Nat) (hk : k ≤ 10) : XCall E 10 yX2_nextUnmade cX2_nextUnmade 3 (some .int) [.ref 0, .int (nI k)] (shW S nm T wt) (fun r σ' => r = some (.int (nuF S.ma (10 - k) k)) ∧ σ' = shW S nm T wt) := by
  have e : f_max 0 (nI k) = nI k := by
    unfold f_max
    split
    · rfl
    · next h =>
      have h0 : ¬ 0 < k := fun z => h (nI_lt (a := 0) z (by omega))
      have : k = 0 := by omega
      subst this
      rfl
  have h := l_X2_nextUnmade E S nm T wt (nI k) (10 - k) k (by omega)
  refine XCall.of (by decide +kernel) (xle rfl) (xgo sX2_nextUnmade [6] 60 (xle rfl) ?_)
  show XAt E RX2 cX2_nextUnmade 3 (some .int) 10 12 _ 6 [(0, .ref 0), (1, .int (nI k)), (2, .int (f_max 0 (nI k)))] [] (shW S nm T wt)
  rw [e]
  exact h
theorem l_X2_leastSound (w : Int32) : ∀ (j k : Nat), k + j = 10 → XAt E RX2 cX2_leastSound 5 (some .int) 10 12 (fun r σ' => r = some (.int (lsF S.ma S.so w 10).1) ∧ σ' = shW S nm T wt) 8 [(0, .ref 0), (1, .int w), (2, .int (lsF S.ma S.so w k).1), (3, .int (lsF S.ma S.so w k).2), (4, .int (nI k))] [] (shW S nm T wt)
  | 0, k, hk => by
    obtain rfl : k = 10 := by omega
    exact xgo sX2_leastSound [8] 60 (xle rfl) ⟨fun _ => ⟨rfl, rfl⟩, fun h => absurd (nI_le (a := 10) (b := 10) (Nat.le_refl _) (by omega)) h⟩
  | j + 1, k, hk => by
    have ih := l_X2_leastSound w j (k + 1) (by omega)
    have hc : (nI k).toNatClampNeg = k := nI_clamp (by omega)
    refine xgo sX2_leastSound [8] 60 (xle rfl) ⟨fun h => absurd h (nI_ge (b := 10) (by omega) (by omega)), fun _ => ⟨vp_in_nI (by omega) (by omega), fun h => ?_, fun h => ⟨vp_in_nI (by omega) (by omega), fun h2 => ?_, fun h2 => ⟨vp_in_nI (by omega) (by omega), ?_⟩⟩⟩⟩
    · rw [hc] at h
      rw [nI_succ, lsF_n (fun z => h z.1)] at ih
      exact ih
    · rw [hc] at h2
      rw [nI_succ, lsF_n (fun z => absurd z.2 (Int32.not_lt.mpr h2))] at ih
      exact ih
    · rw [hc] at h h2
      rw [nI_succ, lsF_y ⟨h, Int32.not_le.mp h2⟩] at ih
      rw [hc]
      exact ih
theorem c_X2_leastSound (w : Int32) : XCall E 10 yX2_leastSound cX2_leastSound 5 (some .int) [.ref 0, .int w] (shW S nm T wt) (fun r σ' => r = some (.int (lsF S.ma S.so w 10).1) ∧ σ' = shW S nm T wt) :=
  XCall.of (by decide +kernel) (xle rfl) (xgo sX2_leastSound [8] 60 (xle rfl) (l_X2_leastSound E S nm T wt w 10 0 rfl))
theorem c_X2_leaks (k : Nat) (hk : k < 10) : XCall E 10 yX2_leaks cX2_leaks 3 (some .int) [.ref 0, .int (nI k)] (shW S nm T wt) (fun r σ' => r = some (.int (leakF S.se S.so k)) ∧ σ' = shW S nm T wt) := by
  have hc : (nI k).toNatClampNeg = k := nI_clamp (by omega)
  refine XCall.of (by decide +kernel) (xle rfl) (xgo sX2_leaks [] 60 (xle rfl) ⟨vp_in_nI (by omega) (by omega), fun h => ⟨by decide, ?_, rfl⟩, fun h => ⟨?_, rfl⟩⟩)
  · rw [hc, leakF, if_pos h]
  · rw [hc, leakF, if_neg h]
theorem l_X2_allLeak : ∀ (j k : Nat), k + j = 10 → XAt E RX2 cX2_allLeak 3 (some .int) 11 12 (fun r σ' => r = some (.int (alF S.se S.so 10)) ∧ σ' = shW S nm T wt) 4 [(0, .ref 0), (1, .int (alF S.se S.so k)), (2, .int (nI k))] [] (shW S nm T wt)
  | 0, k, hk => by
    obtain rfl : k = 10 := by omega
    exact xgo sX2_allLeak [4] 60 (xle rfl) ⟨fun _ => ⟨rfl, rfl⟩, fun h => absurd (nI_le (a := 10) (b := 10) (Nat.le_refl _) (by omega)) h⟩
  | j + 1, k, hk => by
    have ih := l_X2_allLeak j (k + 1) (by omega)
    refine xgo sX2_allLeak [4] 60 (xle rfl) ⟨fun h => absurd h (nI_ge (b := 10) (by omega) (by omega)), fun _ => XIn.same (xle rfl) (c_X2_leaks E S nm T wt k (by omega)) (fun r σ' _ h => ?_)⟩
    obtain ⟨rfl, rfl⟩ := h
    rw [nI_succ, alF_s] at ih
    exact ih
theorem c_X2_allLeak : XCall E 11 yX2_allLeak cX2_allLeak 3 (some .int) [.ref 0] (shW S nm T wt) (fun r σ' => r = some (.int (alF S.se S.so 10)) ∧ σ' = shW S nm T wt) :=
  XCall.of (by decide +kernel) (xle rfl) (xgo sX2_allLeak [4] 60 (xle rfl) (l_X2_allLeak E S nm T wt 10 0 rfl))
end SHIP
