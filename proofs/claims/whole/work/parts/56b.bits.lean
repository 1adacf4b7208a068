-- ===== bits of few =====
def btI (x : Int32) (j : Nat) : Int32 := (x >>> (nI j &&& 31)) &&& 1
theorem bt_a : (List.range 5).all (fun k => (List.range (2 ^ k)).all fun m => (List.range 5).all fun j => btI (nI (m + 2 ^ k)) j == (if j == k then 1 else btI (nI m) j)) = true := by decide +kernel
theorem bt_who (pl : F32) (w : Int32) : ∀ k, k ≤ 5 → ∀ j, j < 5 → btI (whoF pl w k) j = if j < k ∧ pl j = w then 1 else 0
  | 0, _, j, hj => by
    rw [if_neg (by omega)]
    have : (List.range 5).all (fun j => btI 0 j == 0) = true := by decide +kernel
    have e : btI 0 j = 0 := by simpa using List.all_eq_true.mp this j (List.mem_range.mpr hj)
    exact e
  | k + 1, h, j, hj => by
    have ih := bt_who pl w k (by omega) j hj
    rw [whoF_N _ _ _ (by omega)] at ih ⊢
    by_cases hk : pl k = w
    · have e := List.all_eq_true.mp (List.all_eq_true.mp (List.all_eq_true.mp bt_a k (List.mem_range.mpr (by omega))) _ (List.mem_range.mpr (whoN_lt pl w k))) j (List.mem_range.mpr hj)
      rw [whoN, if_pos hk]
      have e : btI (nI (whoN pl w k + 2 ^ k)) j = if j = k then 1 else btI (nI (whoN pl w k)) j := by simpa using e
      rw [e]
      by_cases q : j = k
      · subst q
        rw [if_pos rfl, if_pos ⟨by omega, hk⟩]
      · rw [if_neg q, ih]
        by_cases q2 : j < k ∧ pl j = w
        · rw [if_pos q2, if_pos ⟨by omega, q2.2⟩]
        · rw [if_neg q2, if_neg (fun z => q2 ⟨by omega, z.2⟩)]
    · rw [whoN, if_neg hk, ih]
      by_cases q2 : j < k ∧ pl j = w
      · rw [if_pos q2, if_pos ⟨by omega, q2.2⟩]
      · rw [if_neg q2, if_neg (fun z => q2 ⟨by
          rcases (by omega : j < k ∨ j = k) with y | y
          · exact y
          · rw [y] at z
            exact absurd z.2 hk, z.2⟩)]
def lfI (n : Nat) (x : Int32) : Int32 := ((1 : Int32) <<< (nI n &&& 31) - 1) &&& (x ^^^ (-1))
theorem bt_l : (List.range 6).all (fun n => (List.range 32).all fun m => (List.range 5).all fun j => btI (lfI n (nI m)) j == (if Nat.blt j n && (btI (nI m) j == 0) then 1 else 0)) = true := by decide +kernel
theorem who32 (pl : F32) (w : Int32) {n : Nat} (h : n ≤ 5) : whoN pl w n < 32 := Nat.lt_of_lt_of_le (whoN_lt pl w n) (Nat.pow_le_pow_right (n := 2) (by decide) h)
theorem bt_left (pl : F32) {n j : Nat} (hn : n ≤ 5) (hj : j < 5) : btI (lfI n (whoF pl 2 n)) j = if j < n ∧ ¬ pl j = 2 then 1 else 0 := by
  have e := List.all_eq_true.mp (List.all_eq_true.mp (List.all_eq_true.mp bt_l n (List.mem_range.mpr (by omega))) _ (List.mem_range.mpr (who32 pl 2 hn))) j (List.mem_range.mpr hj)
  have e : btI (lfI n (nI (whoN pl 2 n))) j = if (Nat.blt j n && (btI (nI (whoN pl 2 n)) j == 0)) = true then 1 else 0 := by simpa using e
  rw [whoF_N _ _ _ (by omega), e]
  have b := bt_who pl 2 n hn j hj
  rw [whoF_N _ _ _ (by omega)] at b
  by_cases q : j < n
  · have t : Nat.blt j n = true := Nat.ble_eq_true_of_le q
    by_cases q2 : pl j = 2
    · rw [if_pos ⟨q, q2⟩] at b
      rw [b, t, if_neg (show ¬ (true && ((1 : Int32) == 0)) = true by decide), if_neg (show ¬ (j < n ∧ ¬ pl j = 2) from fun z => z.2 q2)]
    · rw [if_neg (fun z => q2 z.2)] at b
      rw [b, t, if_pos (show (true && ((0 : Int32) == 0)) = true by decide), if_pos (show j < n ∧ ¬ pl j = 2 from ⟨q, q2⟩)]
  · have t : Nat.blt j n = false := by
      rcases hb : Nat.blt j n with _ | _
      · rfl
      · exact absurd (Nat.le_of_ble_eq_true hb) q
    rw [t, Bool.false_and, if_neg (show ¬ false = true by decide), if_neg (show ¬ (j < n ∧ ¬ pl j = 2) from fun z => q z.1)]
theorem bt_s : (List.range 6).all (fun n => (List.range (2 ^ n)).all fun m => (List.range (2 ^ n)).all fun s => ((nI s &&& (lfI n (nI m) ^^^ (-1)) == 0) == (nI s &&& nI m == 0))) = true := by decide +kernel
theorem bt_sub (pl : F32) {n s : Nat} (hn : n ≤ 5) (hs : s < 2 ^ n) : nI s &&& (lfI n (whoF pl 2 n) ^^^ (-1)) = 0 ↔ nI s &&& whoF pl 2 n = 0 := by
  rw [whoF_N _ _ _ (by omega)]
  have e := List.all_eq_true.mp (List.all_eq_true.mp (List.all_eq_true.mp bt_s n (List.mem_range.mpr (by omega))) _ (List.mem_range.mpr (whoN_lt pl 2 n))) s (List.mem_range.mpr hs)
  have e : (nI s &&& (lfI n (nI (whoN pl 2 n)) ^^^ (-1)) == 0) = (nI s &&& nI (whoN pl 2 n) == 0) := by simpa using e
  constructor
  · intro h
    have : (nI s &&& nI (whoN pl 2 n) == 0) = true := by rw [← e, h]; rfl
    simpa using this
  · intro h
    have : (nI s &&& (lfI n (nI (whoN pl 2 n)) ^^^ (-1)) == 0) = true := by rw [e, h]; rfl
    simpa using this
theorem bt_d : (List.range 32).all (fun m => (List.range 32).all fun s => (nI s &&& nI m != 0) || (List.range 5).all fun j => (btI (nI m) j == 0) || (btI (nI s) j == 0)) = true := by decide +kernel
theorem bt_dis (pl : F32) {n s j : Nat} (hn : n ≤ 5) (hs : s < 32) (hj : j < n) (h : nI s &&& whoF pl 2 n = 0) (h2 : pl j = 2) : btI (nI s) j = 0 := by
  have b := bt_who pl 2 n hn j (by omega)
  rw [if_pos ⟨hj, h2⟩] at b
  rw [whoF_N _ _ _ (by omega)] at b h
  have e := List.all_eq_true.mp (List.all_eq_true.mp bt_d _ (List.mem_range.mpr (who32 pl 2 hn))) s (List.mem_range.mpr hs)
  have e : ¬ nI s &&& nI (whoN pl 2 n) = 0 ∨ ∀ j, j < 5 → btI (nI (whoN pl 2 n)) j = 0 ∨ btI (nI s) j = 0 := by simpa using e
  rcases e with e | e
  · exact absurd h e
  · rcases e j (by omega) with y | y
    · rw [b] at y
      exact absurd y (by decide)
    · exact y
theorem bt_01 : (List.range 32).all (fun s => (List.range 5).all fun j => (btI (nI s) j == 0) || (btI (nI s) j == 1)) = true := by decide +kernel
theorem bt_0or1 {s j : Nat} (hs : s < 32) (hj : j < 5) : btI (nI s) j = 0 ∨ btI (nI s) j = 1 := by
  simpa using List.all_eq_true.mp (List.all_eq_true.mp bt_01 s (List.mem_range.mpr hs)) j (List.mem_range.mpr hj)
theorem bits6 : (List.range 32).all (fun s => decide (f_bits (nI s) < 6)) = true := by decide +kernel
theorem bits_6 {s : Nat} (hs : s < 32) : f_bits (nI s) < 6 := by
  simpa using List.all_eq_true.mp bits6 s (List.mem_range.mpr hs)
