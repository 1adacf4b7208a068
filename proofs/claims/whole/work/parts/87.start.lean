-- ===== the start =====
def st_S : SH := (mkF 10, z0F, z0F, z0F, z0F, z0F, 0, 0, 20, 0)
def st_A : AS := (st_S, 0, 0, st_S, 0, 1, fun r => txM (nI r) stI enI 3, fun _ => x5_5, fun _ => 40, z0F, 0, fun _ => (-1, 0, z0F))
def st_g : GQ := (st_S, 0, fun _ => z0F, fun _ => z0F, 0, 0, 0, 0, 0, 0, none)
def st_h : YQ := (x5_5, t5, 0, 0, 0, 0, 0, 0, 0, 0, 0, 0, 0, 0, 0, 0, 0, z0F, z0F, 0, 0, 0, z0F, z0F, z0F, -1, 0, 0, 0, 0, z0F, z0F, z0F, z0F, 0)
theorem zb_r (v : zPV) (l q : Nat) (k : zPV → Nat → Nat → PRes) : zbind (.inr (v, l, q)) k = k v l q := rfl
/-- one value, then a ; -/
theorem ps_one {f : F32} {n F q q' l : Nat} {v : zPV} (h11 : ¬ cdF f n q = 11) (h0 : zpsF f n (F + 1) 0 0 q pv0 0 = .inr (v, l, q')) (h2 : cdF f n q' = 59) : zpsF f n (F + 1 + 1 + 1 + 1 + 1 + 1 + 1) 9 0 q pv0 0 = .inr (v, l, q') := by
  rw [ps_e9, ps_e7, ps_e6, if_neg h11, ps_e5, ps_e3, ps_e1, h0, zb_r, ps_e2, if_neg (by rw [h2]; decide), zb_r, ps_e4, if_neg (by rw [h2]; decide), if_neg (by rw [h2]; decide), zb_r, if_neg (by rw [h2]; decide), if_neg (by rw [h2]; decide), zb_r, ps_e8, if_neg (by rw [h2]; decide), zb_r, ps_e10, if_neg (by rw [h2]; decide)]
theorem ps_nam {f : F32} {n q q' : Nat} (c : Nat) (hc : c < 6) (h : cdF f n q = c) (ha : afF f n q = q') (h2 : cdF f n q' = 59) : zpsF f n 2000 9 0 q pv0 0 = .inr (fun nm => nm c, 1, q') := by
  refine ps_one (F := 1993) (by omega) ?_ h2
  rw [ps_e0, if_neg (by omega), if_pos (by omega), h, ha]
theorem ps_num {f : F32} {n q q' k : Nat} (h : cdF f n q = 12) (hk : nbF f n q = k) (ha : afF f n q = q') (h2 : cdF f n q' = 59) : zpsF f n 2000 9 0 q pv0 0 = .inr (fun _ => nI k, 1, q') := by
  refine ps_one (F := 1993) (by omega) ?_ h2
  rw [ps_e0, if_pos h, hk, ha]
theorem sg_one {f : F32} {n i q q1 q2 q3 l : Nat} {v : zPV} (hc : cdF f n q = 6 + i) (ha : afF f n q = q1) (hp : zpsF f n 2000 9 0 q1 pv0 0 = .inr (v, l, q2)) (hs : cdF f n q2 = 59) (hb : afF f n q2 = q3) : sgF f n i q = .inr (v, l, q3) := by
  unfold sgF
  rw [if_pos hc, ha, hp, zb_r, if_pos hs, hb]
theorem st_pr : prF x5_5 40 = .inr (fun nm => nm 0, fun _ => nI 1, fun _ => nI 3, 1, 1, 1) := by
  have e0 : sgF x5_5 40 0 0 = .inr (fun nm => nm 0, 1, 13) := sg_one (q1 := 5) (q2 := 11) (by decide +kernel) (by decide +kernel) (ps_nam 0 (by decide) (by decide +kernel) (by decide +kernel) (by decide +kernel)) (by decide +kernel) (by decide +kernel)
  have e1 : sgF x5_5 40 1 13 = .inr (fun _ => nI 1, 1, 23) := sg_one (q1 := 19) (q2 := 21) (by decide +kernel) (by decide +kernel) (ps_num (by decide +kernel) (by decide +kernel) (by decide +kernel) (by decide +kernel)) (by decide +kernel) (by decide +kernel)
  have e2 : sgF x5_5 40 2 23 = .inr (fun _ => nI 3, 1, 33) := sg_one (q1 := 29) (q2 := 31) (by decide +kernel) (by decide +kernel) (ps_num (by decide +kernel) (by decide +kernel) (by decide +kernel) (by decide +kernel)) (by decide +kernel) (by decide +kernel)
  have e3 : cdF x5_5 40 33 = 13 := by decide +kernel
  unfold prF
  simp only [e0, e1, e2]
  rw [if_pos e3]
theorem st_tx (wh : Int32) : TXok (txM wh stI enI 3) (eT (txM wh stI enI 3)) ∧ ∀ nm, tvT (txM wh stI enI 3) (eT (txM wh stI enI 3)) 0 nm = nm 0 ∧ tvT (txM wh stI enI 3) (eT (txM wh stI enI 3)) 1 nm = nI 1 ∧ tvT (txM wh stI enI 3) (eT (txM wh stI enI 3)) 2 nm = nI 3 :=
  tx_ok (l0 := 1) (l1 := 1) (l2 := 1) (v0 := fun nm => nm 0) (v1 := fun _ => nI 1) (v2 := fun _ => nI 3) (by decide) (by decide +kernel) (by decide +kernel) (by decide +kernel) (fun nm => Ev.nam (c := 0) (by decide) (by decide +kernel) (by decide)) (fun nm => Ev.num (by decide) (by decide +kernel) (by decide)) (fun nm => Ev.num (by decide) (by decide +kernel) (by decide))
theorem st_RI : RI st_S := ⟨by decide, ⟨by decide +kernel, by decide +kernel⟩, fun _ _ => (by decide +kernel : (0 : Int32) ≤ 0 ∧ (0 : Int32) ≤ 99), ⟨by decide +kernel, by decide +kernel⟩, fun p hp => absurd hp (Nat.not_lt_zero p)⟩
theorem st_SI : SI st_S := ⟨st_RI, by decide +kernel, by decide +kernel⟩
theorem st_CI : CI st_A := by
  refine ⟨by decide +kernel, by decide +kernel, by decide +kernel, fun i hi => ?_, by decide +kernel, by decide +kernel, fun i hi => rfl, by decide +kernel, fun i hi => Nat.zero_le 40, Or.inl rfl⟩
  exact (st_tx (nI i)).1
theorem st_TI : TI st_A := by
  refine ⟨fun i hi => absurd hi (Nat.not_lt_zero i), fun r hr => ⟨(by decide : 40 ≤ 160), ?_, ?_⟩⟩
  · exact (by decide +kernel : ∀ i, i < 40 → 0 ≤ x5_5 i)
  · exact ⟨_, _, _, _, _, _, st_pr, fun nm => (st_tx (nI r)).2 nm⟩
theorem st_BI : BI st_A st_h := by
  refine ⟨⟨st_CI, st_SI, fun h => absurd h (by decide +kernel)⟩, st_TI, fun s hs => Or.inl ⟨rfl, rfl⟩, Or.inl ⟨rfl, rfl⟩, fun r hr => ?_⟩
  have hr : r < 1 := hr
  have e : r = 0 := by omega
  subst e
  refine ⟨by decide +kernel, fun i hi => ?_⟩
  rw [Nat.mul_zero, Nat.zero_add]
  rfl
theorem st_rows (k : Nat) : rowsF st_S k = 0 := by
  unfold rowsF
  split <;> rfl
