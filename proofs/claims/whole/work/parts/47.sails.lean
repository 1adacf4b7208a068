-- ===== the reference: days =====
theorem RI_fin {S : SH} (hR : RI S) : RI (finF S) := by
  obtain ⟨hn, hse, hso, hwa, hrow⟩ := hR
  unfold finF
  split
  · exact ⟨hn, hse, hso, hwa, hrow⟩
  · refine ⟨hn, hse, hso, hwa, fun p hp => ⟨(hrow p hp).1, (hrow p hp).2.1, (hrow p hp).2.2.1, ?_⟩⟩
    show 0 ≤ mvF S.pl 1 2 S.n p ∧ mvF S.pl 1 2 S.n p ≤ 2
    unfold mvF
    split
    · exact ⟨by decide, by decide⟩
    · exact (hrow p hp).2.2.2
theorem RI_wk (tv : TV) : ∀ (j k : Nat) (S : SH), RI S → k + j ≤ S.n → RI (wkF tv j k S)
  | 0, _, _, h, _ => h
  | j + 1, k, S, h, hk => by
    unfold wkF
    split
    · split
      · exact RI_wk tv j (k + 1) _ (RI_work h k (by omega)) (by rw [workF_n]; omega)
      · exact RI_wk tv j (k + 1) _ h (by omega)
    · exact h
theorem RI_wa {S : SH} (hR : RI S) : RI (S.setWa (f_min 100 (S.wa + alF S.se S.so 10 / 10))) := by
  obtain ⟨l, hl, el⟩ := tenth_r hR
  obtain ⟨w, hw, ew⟩ := i32_of (N := 100) (by omega) hR.2.2.2.1.1 hR.2.2.2.1.2
  refine ⟨hR.1, hR.2.1, hR.2.2.1, ?_, hR.2.2.2.2⟩
  show 0 ≤ f_min 100 (S.wa + alF S.se S.so 10 / 10) ∧ f_min 100 (S.wa + alF S.se S.so 10 / 10) ≤ 100
  rw [el, ew, nI_add]
  unfold f_min
  split
  · rename_i z
    exact ⟨nI_le (a := 0) (by omega) (by omega), Int32.le_of_lt z⟩
  · exact ⟨by decide, by decide⟩
theorem RI_day (tv : TV) {S : SH} (hR : RI S) : RI (dayF tv S) := by
  unfold dayF
  split
  · exact RI_fin (RI_wk tv S.n 0 _ (RI_wa hR) (Nat.le_of_eq (Nat.zero_add _)))
  · exact hR
theorem RI_days (tv : TV) : ∀ (j : Nat) {S : SH}, RI S → RI (daysF tv j S)
  | 0, _, h => h
  | j + 1, _, h => RI_days tv j (RI_day tv h)
section MODEL
variable (E : XEnv) (A : AS)
set_option maxRecDepth 100000 in
set_option maxHeartbeats 4000000 in
theorem l_X5_sails {tv : TV} {tx ts : F32} (hs : SaysOk E A tv tx ts) (N : Nat) (hN : N < 2147483647) (j : Nat) : ∀ (k : Nat) (T : SH) (h : YQ), h.tx = tx → h.ts = ts → RI T → k + j = N → XAt E RX5 cX5_sails 3 none 104 16 (fun r σ' => r = none ∧ ∃ x, σ' = mW (A.set_S (daysF tv j T)) (h.rd x)) 2 [(0, .ref 0), (1, .int (nI N)), (2, .int (nI k))] [] (mW (A.set_S T) h) := by
  induction j with
  | zero =>
    intro k T h htx hts hR hk
    obtain rfl : k = N := by omega
    exact xgo sX5_sails [2] 60 (xle rfl) ⟨fun _ => ⟨rfl, h.rq, rfl⟩, fun h => absurd (nI_le (a := k) (b := k) (Nat.le_refl _) (by omega)) h⟩
  | succ j IH =>
    intro k T h htx hts hR hk
    refine xgo sX5_sails [2] 60 (xle rfl) ⟨fun h => absurd h (nI_ge (b := N) (by omega) (by omega)), fun _ => XIn.same (xle rfl) (c_X5_passes E A hs h htx hts T hR) (fun r σ' _ q => ?_)⟩
    obtain ⟨rfl, x, rfl⟩ := q
    have ih := IH (k + 1) (dayF tv T) (h.rd x) htx hts (RI_day tv hR) (by omega)
    rw [nI_succ] at ih
    exact ih
theorem c_X5_sails {tv : TV} {tx ts : F32} (hs : SaysOk E A tv tx ts) (N : Nat) (hN : N < 2147483647) (S : SH) (h : YQ) (htx : h.tx = tx) (hts : h.ts = ts) (hR : RI S) : XCall E 104 yX5_sails cX5_sails 3 none [.ref 0, .int (nI N)] (mW (A.set_S S) h) (fun r σ' => r = none ∧ ∃ x, σ' = mW (A.set_S (daysF tv N S)) (h.rd x)) :=
  XCall.of (by decide +kernel) (xle rfl) (xgo sX5_sails [2] 60 (xle rfl) (l_X5_sails E A hs N hN N 0 S h htx hts hR (Nat.zero_add _)))
end MODEL
-- ===== laid aside =====
def laidF (S : SH) (f : F32) (a b : Nat) : F32 := fun j => if j < a then rowsF S j else if 20 ≤ j ∧ j < 20 + b then S.ma (j - 20) else if 30 ≤ j ∧ j < 30 + b then S.so (j - 30) else f j
theorem laid_a (S : SH) (f : F32) {a : Nat} (ha : a < 20) : upd (laidF S f a 0) a (rowsF S a) = laidF S f (a + 1) 0 := by
  funext j
  unfold upd laidF
  by_cases q : j = a
  · subst q
    rw [if_pos rfl, if_pos (by omega)]
  · rw [if_neg q]
    by_cases q2 : j < a
    · rw [if_pos q2, if_pos (by omega)]
    · rw [if_neg q2, if_neg (by omega : ¬ j < a + 1)]
theorem laid_b (S : SH) (f : F32) {b : Nat} (hb : b < 10) : upd (upd (laidF S f 20 b) (20 + b) (S.ma b)) (30 + b) (S.so b) = laidF S f 20 (b + 1) := by
  funext j
  unfold upd laidF
  by_cases q : j = 30 + b
  · subst q
    rw [if_pos rfl, if_neg (by omega), if_neg (by omega), if_pos (by omega), show 30 + b - 30 = b by omega]
  · rw [if_neg q]
    by_cases q2 : j = 20 + b
    · subst q2
      rw [if_pos rfl, if_neg (by omega), if_pos (by omega), show 20 + b - 20 = b by omega]
    · rw [if_neg q2]
      by_cases q3 : j < 20
      · rw [if_pos q3, if_pos q3]
      · rw [if_neg q3, if_neg q3]
        by_cases q4 : 20 ≤ j ∧ j < 20 + b
        · rw [if_pos q4, if_pos (by omega)]
        · rw [if_neg q4, if_neg (by omega : ¬ (20 ≤ j ∧ j < 20 + (b + 1)))]
          by_cases q5 : 30 ≤ j ∧ j < 30 + b
          · rw [if_pos q5, if_pos (by omega)]
          · rw [if_neg q5, if_neg (by omega : ¬ (30 ≤ j ∧ j < 30 + (b + 1)))]
def asideF (S : SH) (f : F32) : F32 := upd (upd (upd (laidF S f 20 10) 40 S.dy) 41 S.se) 42 S.wa
