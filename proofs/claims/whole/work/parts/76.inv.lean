-- ===== what holds of the state whatever is done =====
def SI (S : SH) : Prop := RI S ∧ DI S
theorem in_upd {f : F32} {n i : Nat} {a b v : Int32} (h : ∀ k, k < n → a ≤ f k ∧ f k ≤ b) (hv : a ≤ v ∧ v ≤ b) : ∀ k, k < n → a ≤ upd f i v k ∧ upd f i v k ≤ b := by
  intro k hk
  unfold upd
  by_cases e : k = i
  · rw [if_pos e]; exact hv
  · rw [if_neg e]; exact h k hk
theorem SI_set {S : SH} (h : SI S) (what : Int32) (of : Nat) (v : Int32) (hw : ¬ f_within what 0 5 = 0) (hv : ¬ f_within v 0 (xst 0 what.toNatClampNeg) = 0) : SI (setF S what of v) := by
  obtain ⟨⟨r1, r2, r3, r4, r5⟩, d⟩ := h
  obtain ⟨k, hk, rfl⟩ := fw_e (n := 6) (by omega) hw
  have hv := fw_y hv
  rcases (by omega : k = 0 ∨ k = 1 ∨ k = 2 ∨ k = 3 ∨ k = 4 ∨ k = 5) with rfl | rfl | rfl | rfl | rfl | rfl
  · rw [show xst 0 (nI 0).toNatClampNeg = 999 by decide +kernel] at hv
    rw [setF, if_pos (by decide +kernel)]
    exact ⟨⟨r1, r2, r3, r4, r5⟩, hv⟩
  · rw [show xst 0 (nI 1).toNatClampNeg = 99 by decide +kernel] at hv
    rw [setF, if_neg (by decide +kernel), if_pos (by decide +kernel)]
    exact ⟨⟨r1, hv, r3, r4, r5⟩, d⟩
  · rw [show xst 0 (nI 2).toNatClampNeg = 100 by decide +kernel] at hv
    rw [setF, if_neg (by decide +kernel), if_neg (by decide +kernel), if_pos (by decide +kernel)]
    exact ⟨⟨r1, r2, r3, hv, r5⟩, d⟩
  · rw [show xst 0 (nI 3).toNatClampNeg = 99 by decide +kernel] at hv
    rw [setF, if_neg (by decide +kernel), if_neg (by decide +kernel), if_neg (by decide +kernel), if_pos (by decide +kernel)]
    exact ⟨⟨r1, r2, in_upd r3 hv, r4, r5⟩, d⟩
  · rw [show xst 0 (nI 4).toNatClampNeg = 9 by decide +kernel] at hv
    rw [setF, if_neg (by decide +kernel), if_neg (by decide +kernel), if_neg (by decide +kernel), if_neg (by decide +kernel), if_pos (by decide +kernel)]
    exact ⟨⟨r1, r2, r3, r4, fun p hp => ⟨in_upd (n := S.n) (fun k hk => (r5 k hk).1) hv p hp, (r5 p hp).2⟩⟩, d⟩
  · rw [show xst 0 (nI 5).toNatClampNeg = 99 by decide +kernel] at hv
    rw [setF, if_neg (by decide +kernel), if_neg (by decide +kernel), if_neg (by decide +kernel), if_neg (by decide +kernel), if_neg (by decide +kernel)]
    exact ⟨⟨r1, r2, r3, r4, fun p hp => ⟨(r5 p hp).1, in_upd (n := S.n) (fun k hk => (r5 k hk).2.1) hv p hp, (r5 p hp).2.2⟩⟩, d⟩
theorem SI_pl {S : SH} (h : SI S) {f : F32} (hf : ∀ p, p < S.n → 0 ≤ f p ∧ f p ≤ 2) : SI (S.setPl f) := ⟨⟨h.1.1, h.1.2.1, h.1.2.2.1, h.1.2.2.2.1, fun i hi => ⟨(h.1.2.2.2.2 i hi).1, (h.1.2.2.2.2 i hi).2.1, (h.1.2.2.2.2 i hi).2.2.1, hf i hi⟩⟩, h.2⟩
theorem SI_bind {S : SH} (h : SI S) : SI (S.setPl (bindF S S.n)) := ⟨RI_bind h.1, h.2⟩
theorem SI_home {S : SH} (h : SI S) : SI (S.setPl (mvF S.pl 1 0 S.n)) := by
  refine SI_pl h (fun p hp => ?_)
  unfold mvF
  by_cases e : p < S.n ∧ S.pl p = 1
  · rw [if_pos e]; decide
  · rw [if_neg e]; exact (h.1.2.2.2.2 p hp).2.2.2
theorem day_dy (tv : TV) (S : SH) (hn : ∀ T : SH, ∀ j k, (wkF tv j k T).dy = T.dy) : (dayF tv S).dy = S.dy + 1 := by
  unfold dayF
  by_cases h : S.wa < 100
  · rw [if_pos h]
    unfold finF
    by_cases h2 : (wkF tv S.n 0 (S.setWa (f_min 100 (S.wa + alF S.se S.so 10 / 10)))).wa < 100
    · rw [if_pos h2]
      show (wkF tv S.n 0 (S.setWa (f_min 100 (S.wa + alF S.se S.so 10 / 10)))).dy + 1 = _
      rw [hn]
      rfl
    · rw [if_neg h2]
      show (wkF tv S.n 0 (S.setWa (f_min 100 (S.wa + alF S.se S.so 10 / 10)))).dy + 1 = _
      rw [hn]
      rfl
  · rw [if_neg h]
    rfl
