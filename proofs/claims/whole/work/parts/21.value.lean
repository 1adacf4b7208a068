-- ===== what a text tells: its steps run =====
/-- from step i on, j steps, top values waiting in wt: the answer, and what lies in the row then -/
def rtF (st nm : F32) : Nat → Nat → Nat → F32 → Int32 × F32
  | 0, _, top, wt => (if top = 1 then wt 0 else 0, wt)
  | j + 1, i, top, wt =>
    if -7 < st i then
      (if 64 ≤ top then (0, wt) else rtF st nm j (i + 1) (top + 1) (upd wt top (if st i < 0 then nm (-1 - st i).toNatClampNeg else st i)))
    else if top < 2 then (0, wt) else rtF st nm j (i + 1) (top - 1) (upd wt (top - 2) (f_join (st i) (wt (top - 2)) (wt (top - 1))))
def TXok (T : TX) (e : Nat → Nat) : Prop := T.en 0 = nI (e 0) ∧ T.en 1 = nI (e 1) ∧ T.en 2 = nI (e 2) ∧ e 0 ≤ e 1 ∧ e 1 ≤ e 2 ∧ e 2 ≤ 320
def sT (e : Nat → Nat) : Nat → Nat
  | 0 => 0
  | k + 1 => e k
def tvT (T : TX) (e : Nat → Nat) (of : Nat) (nm : F32) : Int32 := (rtF T.st nm (e of - sT e of) (sT e of) 0 (fun _ => 0)).1
theorem rt_ix {s : Int32} (h7 : -7 < s) (h0 : s < 0) : (-1 - s).toNatClampNeg < 6 ∧ vp_in (-1 - s) 6 := by
  have a7 := Int32.lt_iff_toInt_lt.mp h7
  have a0 := Int32.lt_iff_toInt_lt.mp h0
  have e7 : (-7 : Int32).toInt = -7 := by decide +kernel
  have e0 : (0 : Int32).toInt = 0 := by decide +kernel
  rw [e7] at a7
  rw [e0] at a0
  have e1 : (-1 - s).toInt = -1 - s.toInt := by
    rw [Int32.toInt_sub]
    have : (-1 : Int32).toInt = -1 := by decide +kernel
    rw [this]
    exact Int.bmod_eq_of_le (by omega) (by omega)
  have e2 : (-1 - s).toNatClampNeg = (-1 - s.toInt).toNat := by
    show (-1 - s).toInt.toNat = _
    rw [e1]
  refine ⟨by omega, vp_in_iff.mpr ⟨by omega, by omega⟩⟩
theorem rtF_congr (st : F32) {nm nm' : F32} (hn : ∀ j, j < 6 → nm j = nm' j) : ∀ (j i top : Nat) (wt wt' : F32), (∀ k, k < top → wt k = wt' k) → (rtF st nm j i top wt).1 = (rtF st nm' j i top wt').1
  | 0, i, top, wt, wt', h => by
    show (if top = 1 then wt 0 else 0) = (if top = 1 then wt' 0 else 0)
    by_cases ht : top = 1
    · rw [if_pos ht, if_pos ht, h 0 (by omega)]
    · rw [if_neg ht, if_neg ht]
  | j + 1, i, top, wt, wt', h => by
    unfold rtF
    by_cases h7 : -7 < st i
    · rw [if_pos h7, if_pos h7]
      by_cases h64 : 64 ≤ top
      · rw [if_pos h64, if_pos h64]
      · rw [if_neg h64, if_neg h64]
        refine rtF_congr st hn j _ _ _ _ (fun k hk => ?_)
        unfold upd
        by_cases hkt : k = top
        · rw [if_pos hkt, if_pos hkt]
          by_cases h0 : st i < 0
          · rw [if_pos h0, if_pos h0]
            exact hn _ (rt_ix h7 h0).1
          · rw [if_neg h0, if_neg h0]
        · rw [if_neg hkt, if_neg hkt]
          exact h k (by omega)
    · rw [if_neg h7, if_neg h7]
      by_cases h2 : top < 2
      · rw [if_pos h2, if_pos h2]
      · rw [if_neg h2, if_neg h2]
        refine rtF_congr st hn j _ _ _ _ (fun k hk => ?_)
        unfold upd
        rw [h (top - 2) (by omega), h (top - 1) (by omega)]
        by_cases hkt : k = top - 2
        · rw [if_pos hkt, if_pos hkt]
        · rw [if_neg hkt, if_neg hkt]
          exact h k (by omega)
def txW (T : TX) (wt nm : F32) : XW := [.inr (3, [.int T.wh, .ref 1, .ref 2, .int T.sz, .ref 3]), .inl (0, 320, .inl T.st), .inl (0, 3, .inl T.en), .inl (0, 64, .inl wt), .inl (0, 6, .inl nm)]
theorem XAt.app {E : XEnv} {own : String} {cc : ByteArray} {nL : Nat} {rt : Option FieldType} {Lv n0 : Nat} {Q : XQ} {pc : Nat} {lv : XL} {st : List Value} {σ : XW} (r : XL) (k : XAt E own cc nL rt Lv n0 Q pc lv st σ) : XAt E own cc nL rt Lv n0 Q pc (lv ++ r) st σ := k.sub (fun _ hq => List.mem_append_left r hq)
section VALUE
variable (E : XEnv) (T : TX) (nm : F32)
set_option maxRecDepth 100000 in
set_option maxHeartbeats 4000000 in
theorem l_X3_value (of e : Nat) (hof : of < 3) (he : T.en of = nI e) (h320 : e ≤ 320) : ∀ (j i top : Nat) (wt : F32), i + j = e → top ≤ 64 → XAt E RX3 cX3_value 6 (some .int) 10 5 (fun r σ' => r = some (.int (rtF T.st nm j i top wt).1) ∧ ∃ wt', σ' = txW T wt' nm) 37 [(0, .ref 0), (1, .int (nI of)), (2, .ref 4), (3, .int (nI top)), (4, .int (nI i))] [] (txW T wt nm)
  | 0, i, top, wt, hij, ht => by
    obtain rfl : i = e := by omega
    have hc : (nI of).toNatClampNeg = of := nI_clamp (by omega)
    refine xgo sX3_value [37] 200 (xle rfl) ⟨vp_in_nI hof (by omega), ⟨fun _ => ⟨fun h => ?_, fun h => ⟨vp_in_nI (n := 0) (by omega) (by omega), ?_⟩⟩, fun h => ?_⟩⟩
    · have h : ¬ top = 1 := fun z => h (by rw [z]; rfl)
      exact ⟨by rw [rtF, if_neg h], wt, rfl⟩
    · have h : top = 1 := (nI_eq (a := top) (b := 1) (by omega) (by omega)).mp h
      exact ⟨by rw [rtF, if_pos h]; rfl, wt, rfl⟩
    · rw [hc, he] at h
      exact absurd (nI_le (Nat.le_refl _) (by omega)) h
  | j + 1, i, top, wt, hij, ht => by
    have hc : (nI of).toNatClampNeg = of := nI_clamp (by omega)
    have hci : (nI i).toNatClampNeg = i := nI_clamp (by omega)
    refine xgo sX3_value [37] 200 (xle rfl) ⟨vp_in_nI hof (by omega), ⟨fun h => ?_, fun _ => ⟨fun h => ?_, fun _ => ⟨vp_in_nI (by omega) (by omega), ⟨fun h7 => ?_, fun h7 => ⟨fun h2 => ⟨?_, ?_, ?_, ?_⟩, fun h2 => ?_⟩⟩⟩⟩⟩⟩
    · rw [hc, he] at h
      exact absurd h (nI_ge (by omega) (by omega))
    · exact absurd h (nI_ge (b := 320) (by omega) (by omega))
    · rw [hci] at h7
      refine ⟨fun h64 => ?_, fun h64 => ⟨fun h6 => ?_, fun h6 => ?_⟩⟩
      · have h64 : 64 ≤ top := (nI_leI (a := 64) (b := top) (by omega) (by omega)).mp h64
        exact ⟨by rw [rtF, if_pos h7, if_pos h64], wt, rfl⟩
      · have h64 : ¬ 64 ≤ top := fun z => h64 (nI_le (a := 64) z (by omega))
        have ht2 : (nI top).toNatClampNeg = top := nI_clamp (by omega)
        rw [hci] at h6
        refine ⟨fun h0 => ?_, fun h0 => ?_⟩
        · rw [hci] at h0
          have hix := rt_ix h7 h0
          refine ⟨by rw [hci]; exact hix.2, vp_in_nI (by omega) (by omega), ?_⟩
          have ih := l_X3_value of e hof he h320 j (i + 1) (top + 1) (upd wt top (nm (-1 - T.st i).toNatClampNeg)) (by omega) (by omega)
          rw [rtF, if_pos h7, if_neg h64, if_pos h0]
          rw [nI_succ, nI_succ] at ih
          rw [ht2, hci]
          exact XAt.app [(5, .int (T.st i))] ih
        · rw [hci] at h0
          refine ⟨vp_in_nI (by omega) (by omega), ?_⟩
          have ih := l_X3_value of e hof he h320 j (i + 1) (top + 1) (upd wt top (T.st i)) (by omega) (by omega)
          rw [rtF, if_pos h7, if_neg h64, if_neg h0]
          rw [nI_succ, nI_succ] at ih
          rw [ht2, hci]
          exact XAt.app [(5, .int (T.st i))] ih
      · rw [hci] at h6
        have a7 := Int32.lt_iff_toInt_lt.mp h7
        have e7 : (-7 : Int32).toInt = -7 := by decide +kernel
        have e6 : (-Int32.ofNat 6).toInt = -6 := by decide +kernel
        exact absurd (Int32.le_iff_toInt_le.mpr (by rw [e6]; omega)) h6
    · have h2 : 2 ≤ top := (nI_leI (a := 2) (b := top) (by omega) (by omega)).mp h2
      obtain ⟨t, rfl⟩ : ∃ t, top = t + 2 := ⟨top - 2, by omega⟩
      rw [pk_m1, nI_pred]
      exact vp_in_nI (by omega) (by omega)
    · have h2 : 2 ≤ top := (nI_leI (a := 2) (b := top) (by omega) (by omega)).mp h2
      obtain ⟨t, rfl⟩ : ∃ t, top = t + 2 := ⟨top - 2, by omega⟩
      rw [pk_m1]
      exact vp_in_nI (by omega) (by omega)
    · have h2 : 2 ≤ top := (nI_leI (a := 2) (b := top) (by omega) (by omega)).mp h2
      obtain ⟨t, rfl⟩ : ∃ t, top = t + 2 := ⟨top - 2, by omega⟩
      rw [pk_m1, nI_pred]
      exact vp_in_nI (by omega) (by omega)
    · have h2 : 2 ≤ top := (nI_leI (a := 2) (b := top) (by omega) (by omega)).mp h2
      obtain ⟨t, rfl⟩ : ∃ t, top = t + 2 := ⟨top - 2, by omega⟩
      have ih := l_X3_value of e hof he h320 j (i + 1) (t + 1) (upd wt t (f_join (T.st i) (wt t) (wt (t + 1)))) (by omega) (by omega)
      rw [hci] at h7
      have c0 : (nI t).toNatClampNeg = t := nI_clamp (by omega)
      have c1 : (nI (t + 1)).toNatClampNeg = t + 1 := nI_clamp (by omega)
      rw [rtF, if_neg h7, if_neg (by omega : ¬ t + 2 < 2), show t + 2 - 1 = t + 1 from rfl, show t + 2 - 2 = t from rfl]
      rw [nI_succ i] at ih
      rw [pk_m1, nI_pred, c0, c1, hci]
      exact XAt.app [(5, .int (T.st i))] ih
    · have h2 : top < 2 := by
        rcases Nat.lt_or_ge top 2 with q | q
        · exact q
        · exact absurd (nI_le (a := 2) q (by omega)) h2
      rw [hci] at h7
      exact ⟨by rw [rtF, if_neg h7, if_pos h2], wt, rfl⟩
end VALUE
