-- ===== what is static, at the start =====
abbrev flL : List Cond := flatC (Jvm.Cond.and given_1 narrow_1)
theorem fl_0 : ∀ j, j < 6 → flL[7 + j]? = some (Cond.eq (.elem (.static RX4 "MOST_OF" "[I") (.int (Int32.ofNat j))) (.int (xst 0 j))) := by decide +kernel
theorem fl_2 : ∀ j, j < 4 → flL[21 + j]? = some (Cond.eq (.elem (.static RX4 "WAYS" "[I") (.int (Int32.ofNat j))) (.int (xst 2 j))) := by decide +kernel
theorem fl_1 : ∀ j, j < 6 → flL[28 + j]? = some (Cond.eq (.elem (.static RX4 "ABOVE" "[I") (.int (Int32.ofNat j))) (.int (xst 1 j))) := by decide +kernel
theorem fl_s : ∀ j, j < 63 → flL[50 + j]? = some (Cond.eq (.elem (.field (.string RX0 107) "java/lang/String" "value" "[B") (.int (Int32.ofNat j))) (.int (xByt.getD j 0))) := by decide +kernel
set_option maxRecDepth 100000 in
set_option maxHeartbeats 4000000 in
theorem st_G {s : State} {b L : Nat} {xs : Nat → Int32} (l : Launch) (hts : ∀ w ∈ lw_tbl, w.before #[Value.ref b] s = true) (hgv : (Jvm.Cond.and given_1 narrow_1).before #[Value.ref b] s = true) (hX : va_X b L xs s s.heap) (hbl : b < s.heap.size) : ∃ ad : Nat → Nat, (∀ k, k < 1000000 → ad k = s.heap.size + k) ∧ ad 1000005 = b ∧ xG (l, L, xs) ad (fun q => s.heap.size ≤ q) s := by
  have hs := flat_of_before _ hgv
  have hA : ∀ a : Nat, a < s.heap.size → ¬ (fun q => s.heap.size ≤ q) a := fun a ha h => Nat.not_le.mpr ha h
  obtain ⟨a0, h0, t0⟩ := va_Tof (args := #[Value.ref b]) (tm := .static RX4 "MOST_OF" "[I") (ty := .int) (N := 6) (f := fun j => .int (xst 0 j)) (A := fun q => s.heap.size ≤ q) (by decide) (hs _ (List.mem_of_getElem? (i := 5) (by decide +kernel))) (va_eqt (hs _ (List.mem_of_getElem? (i := 6) (by decide +kernel)))) (fun j hj => va_eqt (hs _ (List.mem_of_getElem? (fl_0 j hj)))) hA
  obtain ⟨a1, h1, t1⟩ := va_Tof (args := #[Value.ref b]) (tm := .static RX4 "ABOVE" "[I") (ty := .int) (N := 6) (f := fun j => .int (xst 1 j)) (A := fun q => s.heap.size ≤ q) (by decide) (hs _ (List.mem_of_getElem? (i := 26) (by decide +kernel))) (va_eqt (hs _ (List.mem_of_getElem? (i := 27) (by decide +kernel)))) (fun j hj => va_eqt (hs _ (List.mem_of_getElem? (fl_1 j hj)))) hA
  obtain ⟨a2, h2, t2⟩ := va_Tof (args := #[Value.ref b]) (tm := .static RX4 "WAYS" "[I") (ty := .int) (N := 4) (f := fun j => .int (xst 2 j)) (A := fun q => s.heap.size ≤ q) (by decide) (hs _ (List.mem_of_getElem? (i := 19) (by decide +kernel))) (va_eqt (hs _ (List.mem_of_getElem? (i := 20) (by decide +kernel)))) (fun j hj => va_eqt (hs _ (List.mem_of_getElem? (fl_2 j hj)))) hA
  obtain ⟨adK, adV, hS, hK⟩ := vk_Sof (args := #[Value.ref b]) (s := s) (N := 1) (tm := fun _ => .string RX0 107) (len := [63]) (byt := [xByt]) (A := fun q => s.heap.size ≤ q)
    (fun i hi => by
      have e : i = 0 := by omega
      subst e
      decide)
    (fun i _ => hs (Cond.exactly (.string RX0 107) "java/lang/String") (List.mem_of_getElem? (i := 46) (by decide +kernel)))
    (fun i _ => hs (Cond.eq (.field (.string RX0 107) "java/lang/String" "coder" "B") (.int 0)) (List.mem_of_getElem? (i := 47) (by decide +kernel)))
    (fun i _ => hs (Cond.arrayOf (.field (.string RX0 107) "java/lang/String" "value" "[B") .byte) (List.mem_of_getElem? (i := 48) (by decide +kernel)))
    (fun i hi => by
      have e : i = 0 := by omega
      subst e
      exact hs (Cond.eq (.length (.field (.string RX0 107) "java/lang/String" "value" "[B")) (.int (Int32.ofNat 63))) (List.mem_of_getElem? (i := 49) (by decide +kernel)))
    (fun i hi j hj => by
      have e : i = 0 := by omega
      subst e
      exact hs _ (List.mem_of_getElem? (fl_s j hj)))
    (fun i j hi hj h => absurd (by omega : i = j) h) hA
  obtain ⟨ad, e0, e1, e2, e3, e4, e5, hlt⟩ : ∃ ad : Nat → Nat, ad 1000000 = a0 ∧ ad 1000001 = a1 ∧ ad 1000002 = a2 ∧ ad 1000003 = adK 0 ∧ ad 1000004 = adV 0 ∧ ad 1000005 = b ∧ ∀ k, k < 1000000 → ad k = s.heap.size + k := by
    refine ⟨fun k => if k = 1000000 then a0 else if k = 1000001 then a1 else if k = 1000002 then a2 else if k = 1000003 then adK 0 else if k = 1000004 then adV 0 else if k = 1000005 then b else s.heap.size + k, if_pos rfl, ?_, ?_, ?_, ?_, ?_, fun k hk => ?_⟩
    · show (if (1000001 : Nat) = 1000000 then _ else _) = _
      rw [if_neg (by omega), if_pos rfl]
    · show (if (1000002 : Nat) = 1000000 then _ else _) = _
      rw [if_neg (by omega), if_neg (by omega), if_pos rfl]
    · show (if (1000003 : Nat) = 1000000 then _ else _) = _
      rw [if_neg (by omega), if_neg (by omega), if_neg (by omega), if_pos rfl]
    · show (if (1000004 : Nat) = 1000000 then _ else _) = _
      rw [if_neg (by omega), if_neg (by omega), if_neg (by omega), if_neg (by omega), if_pos rfl]
    · show (if (1000005 : Nat) = 1000000 then _ else _) = _
      rw [if_neg (by omega), if_neg (by omega), if_neg (by omega), if_neg (by omega), if_neg (by omega), if_pos rfl]
    · show (if k = 1000000 then _ else _) = _
      rw [if_neg (by omega), if_neg (by omega), if_neg (by omega), if_neg (by omega), if_neg (by omega), if_neg (by omega)]
  refine ⟨ad, hlt, e5, fun q hq => ?_, ⟨?_, ?_⟩, ⟨?_, ?_⟩, ⟨?_, ?_⟩, ?_, ?_, ?_, ?_, ?_⟩
  · unfold xNest at hq
    simp only [List.mem_cons, List.not_mem_nil, or_false] at hq
    rcases hq with rfl | rfl | rfl | rfl | rfl | rfl | rfl | rfl
    · exact va_Nw.of (A := #[Value.ref b]) rfl (hts _ (List.mem_of_getElem? (i := 120) (by decide +kernel)))
    · exact va_Nw.of (A := #[Value.ref b]) rfl (hts _ (List.mem_of_getElem? (i := 210) (by decide +kernel)))
    · exact va_Nw.of (A := #[Value.ref b]) rfl (hts _ (List.mem_of_getElem? (i := 279) (by decide +kernel)))
    · exact va_Nw.of (A := #[Value.ref b]) rfl (hts _ (List.mem_of_getElem? (i := 286) (by decide +kernel)))
    · exact va_Nw.of (A := #[Value.ref b]) rfl (hts _ (List.mem_of_getElem? (i := 303) (by decide +kernel)))
    · exact va_Nw.of (A := #[Value.ref b]) rfl (hts _ (List.mem_of_getElem? (i := 308) (by decide +kernel)))
    · exact va_Nw.of (A := #[Value.ref b]) rfl (hts _ (List.mem_of_getElem? (i := 374) (by decide +kernel)))
    · exact va_Nw.of (A := #[Value.ref b]) rfl (hts _ (List.mem_of_getElem? (i := 661) (by decide +kernel)))
  · rw [e0]
    exact va_Zof (hts _ (List.mem_of_getElem? (i := 257) (by decide +kernel))) (hts _ (List.mem_of_getElem? (i := 72) (by decide +kernel))) h0 hA
  · rw [e0]
    exact t0
  · rw [e1]
    exact va_Zof (hts _ (List.mem_of_getElem? (i := 711) (by decide +kernel))) (hts _ (List.mem_of_getElem? (i := 72) (by decide +kernel))) h1 hA
  · rw [e1]
    exact t1
  · rw [e2]
    exact va_Zof (hts _ (List.mem_of_getElem? (i := 582) (by decide +kernel))) (hts _ (List.mem_of_getElem? (i := 72) (by decide +kernel))) h2 hA
  · rw [e2]
    exact t2
  · rw [e3]
    exact vk_R.of (A := #[Value.ref b]) (hts _ (List.mem_of_getElem? (i := 379) (by decide +kernel))) (hK 0 (by decide))
  · rw [e3, e4]
    exact ⟨fun i hi => by
      have e : i = 0 := by omega
      subst e
      exact hS.1 0 (by decide), fun i j hi hj _ => by omega⟩
  · exact va_Zof (hts _ (List.mem_of_getElem? (i := 389) (by decide +kernel))) (hts _ (List.mem_of_getElem? (i := 80) (by decide +kernel))) (va_eqt (hs _ (List.mem_of_getElem? (i := 13) (by decide +kernel)))) hA
  · exact va_Zqof (hts _ (List.mem_of_getElem? (i := 405) (by decide +kernel))) (hts _ (List.mem_of_getElem? (i := 82) (by decide +kernel))) (hs _ (List.mem_of_getElem? (i := 14) (by decide +kernel))) hA
  · rw [e5]
    obtain ⟨scr, x1, x2, x3, x4, x5⟩ := hX
    exact ⟨scr, x1, x2, x3, by rw [x4]; exact Nat.le_refl _, by rw [x4], x5, hA b hbl⟩
theorem st_K {s : State} {b : Nat} (hts : ∀ w ∈ lw_tbl, w.before #[Value.ref b] s = true) : ∃ (D : va_G) (cA : Nat → ClassId), va_K D vwCl (xT cA) s := by
  obtain ⟨c0, i0, k0⟩ := u_known (C := RX0) (T := TX0) (N := 9) (n := 9) hts (fun w h => gTs_in w (gX0 w h)) (hts _ (List.mem_of_getElem? (i := 119) (by decide +kernel)))
  obtain ⟨c1, i1, k1⟩ := u_known (C := RX1) (T := TX1) (N := 3) (n := 3) hts (fun w h => gTs_in w (gX1 w h)) (hts _ (List.mem_of_getElem? (i := 209) (by decide +kernel)))
  obtain ⟨c2, i2, k2⟩ := u_known (C := RX2) (T := TX2) (N := 12) (n := 12) hts (fun w h => gTs_in w (gX2 w h)) (hts _ (List.mem_of_getElem? (i := 154) (by decide +kernel)))
  obtain ⟨c3, i3, k3⟩ := u_known (C := RX3) (T := TX3) (N := 5) (n := 5) hts (fun w h => gTs_in w (gX3 w h)) (hts _ (List.mem_of_getElem? (i := 95) (by decide +kernel)))
  obtain ⟨c4, i4, k4⟩ := u_known (C := RX4) (T := TX4) (N := 8) (n := 8) hts (fun w h => gTs_in w (gX4 w h)) (hts _ (List.mem_of_getElem? (i := 86) (by decide +kernel)))
  obtain ⟨c5, i5, k5⟩ := u_known (C := RX5) (T := TX5) (N := 46) (n := 46) hts (fun w h => gTs_in w (gX5 w h)) (hts _ (List.mem_of_getElem? (i := 713) (by decide +kernel)))
  obtain ⟨d0, x0, y0, p0, q0, r0⟩ := Cond.arrayClass_spec (type := .int) (hts _ (List.mem_of_getElem? (i := 117) (by decide +kernel)))
  obtain ⟨d1, x1, y1, p1, q1, r1⟩ := Cond.arrayClass_spec (type := .boolean) (hts _ (List.mem_of_getElem? (i := 860) (by decide +kernel)))
  obtain ⟨y2, d2, x2, m2, _, p2, q2, r2⟩ := Cond.arrayOver_spec (n := "WhoBuiltSails$Text") (hts _ (List.mem_of_getElem? (i := 94) (by decide +kernel)))
  obtain ⟨y3, d3, x3, m3, _, p3, q3, r3⟩ := Cond.arrayOver_spec (n := "WhoBuiltSails$Sheet") (hts _ (List.mem_of_getElem? (i := 208) (by decide +kernel)))
  refine ⟨(fun k => match k with | 0 => c0 | 1 => c1 | 2 => c2 | 3 => c3 | 4 => c4 | _ => c5, fun k => match k with | 0 => i0 | 1 => i1 | 2 => i2 | 3 => i3 | 4 => i4 | _ => i5), (fun k => match k with | 0 => d0 | 1 => d1 | 2 => d2 | _ => d3), fun c q hq => ?_, fun k q hq => ?_⟩
  · match c, hq with
    | 0, hq => cases hq; exact k0
    | 1, hq => cases hq; exact k1
    | 2, hq => cases hq; exact k2
    | 3, hq => cases hq; exact k3
    | 4, hq => cases hq; exact k4
    | 5, hq => cases hq; exact k5
    | c + 6, hq => simp [vwCl] at hq
  · match k, hq with
    | 0, hq => cases hq; exact ⟨fun n z => ⟨fun k h => (by cases h), x0, q0, y0, r0⟩, p0⟩
    | 1, hq => cases hq; exact ⟨fun n z => ⟨fun k h => (by cases h), x1, q1, y1, r1⟩, p1⟩
    | 2, hq => cases hq; exact ⟨fun n z => ⟨fun k h => (by cases h), x2, p2, y2, q2⟩, x2, y2, p2, q2, m2, r2⟩
    | 3, hq => cases hq; exact ⟨fun n z => ⟨fun k h => (by cases h), x3, p3, y3, q3⟩, x3, y3, p3, q3, m3, r3⟩
    | k + 4, hq => simp [xT] at hq
theorem st_AO {s : State} {b : Nat} (hts : ∀ w ∈ lw_tbl, w.before #[Value.ref b] s = true) : gAO s := ⟨va_AO.of (A := #[Value.ref b]) (hts _ (List.mem_of_getElem? (i := 94) (by decide +kernel))), va_AO.of (A := #[Value.ref b]) (hts _ (List.mem_of_getElem? (i := 208) (by decide +kernel)))⟩
set_option maxRecDepth 100000 in
set_option maxHeartbeats 4000000 in
theorem st_head {E : XEnv} {p : Program} {e : Env} {R : Room} {s : State} {m : MethodId} {args : Array Value} {below : List Frame} {meth : Method} {c : Code} {Z : State → Prop} {D : va_G} {cA : Nat → ClassId} {ad : Nat → Nat} (hC : gCtx 112 0 77 false RL cL_law 4 p R s m args meth c ad) (hk : GJ E 4 0 77 p e R s m args below meth c Z D cA ad 16 [(0, .ref 1000005), (1, .ref 0), (2, .ref 61)] [] w77) : GJ E 4 0 77 p e R s m args below meth c Z D cA ad 0 [(0, .ref 1000005)] [] [] := by
  refine ggo (Q := fun _ _ => False) (K := fun pc lv st σ => pc = 16 ∧ lv = [(0, .ref 1000005), (1, .ref 0), (2, .ref 61)] ∧ st = [] ∧ σ = w77) sL_law_A (xle rfl) hC (fun r σ' H' locs' cells' hq => hq.elim) (fun pc lv st σ h => by
    obtain ⟨rfl, rfl, rfl, rfl⟩ := h
    exact hk) [16] 60 ?_
  refine ⟨50, 61, 0, [], [.inr (4, [.null, .int 0, .null, .null, .null, .null, .int 0, .null])], [.ref 0], _, xle rfl, g_X4_init E, rfl, rfl, ⟨xle rfl, xle rfl⟩, fun r σ1 _ hq => ?_⟩
  obtain ⟨rfl, rfl⟩ := hq
  refine ⟨50, 16, 0, w4d4.map (gE 0 0), [.inr (5, [.int 0, .null, .null, .int 0, .int 0, .null, .int 0, .int 0, .int 0, .int 0, .null, .null, .null, .int 0, .int 0, .int 0, .int 0, .int 0, .int 0, .int 0, .int 0, .int 0, .int 0, .int 0, .int 0, .long 0, .int 0, .int 0, .int 0, .null, .null, .int 0, .int 0, .int 0, .null, .null, .null, .int 0, .int 0, .int 0, .int 0, .int 0, .null, .null, .null, .null])], [.ref 0], _, xle rfl, g_X5_init E, rfl, rfl, ⟨xle rfl, xle rfl⟩, fun r σ1 _ hq => ?_⟩
  obtain ⟨rfl, rfl⟩ := hq
  exact ⟨rfl, rfl, rfl, rfl⟩
theorem p77_ok : ∀ i, i < 77 → xp P77 i < 77 ∧ ∀ j, j < 77 → xp P77 i = xp P77 j → i = j := by decide +kernel
theorem st_D {ad : Nat → Nat} (h : gOK 112 ad) : xD (gA ad) (xad ad P77) 77 := by
  refine ⟨fun i j hi hj e => ?_, fun i hi => ?_⟩
  · have a := (p77_ok i hi).1
    have b := (p77_ok j hj).1
    have e : ad (xp P77 i) = ad (xp P77 j) := e
    have e1 := h (xp P77 i) (by omega)
    have e2 := h (xp P77 j) (by omega)
    exact (p77_ok i hi).2 j hj (by omega)
  · have a := (p77_ok i hi).1
    have e1 := h (xp P77 i) (by omega)
    show ad 0 ≤ ad (xp P77 i)
    omega
theorem xp_st {P : List Nat} {k : Nat} (h : 1000000 ≤ k) : xp P k = k := by
  have hb : Nat.ble 1000000 k = true := Nat.ble_eq_true_of_le h
  unfold xp
  rw [hb]
