-- ===== the one literal: the machine's own code for it =====
theorem gw_381 : Cond.instanceMethod yJ0_length_8abf5 ∈ gTs := gTs_of 381 (by decide +kernel) (by decide +kernel)
theorem gw_382 : Cond.selects RJ0 yJ0_length_8abf5 yJ0_length_8abf5 ∈ gTs := gTs_of 382 (by decide +kernel) (by decide +kernel)
theorem gw_383 : Cond.code yJ0_length_8abf5 cJ0_length_8abf5 1 (some .int) ∈ gTs := gTs_of 383 (by decide +kernel) (by decide +kernel)
theorem gw_384 : Cond.methodLink RJ0 335 yJ0_coder_7d493 ∈ gTs := gTs_of 384 (by decide +kernel) (by decide +kernel)
theorem gw_385 : Cond.instanceMethod yJ0_coder_7d493 ∈ gTs := gTs_of 385 (by decide +kernel) (by decide +kernel)
theorem gw_386 : Cond.selects RJ0 yJ0_coder_7d493 yJ0_coder_7d493 ∈ gTs := gTs_of 386 (by decide +kernel) (by decide +kernel)
theorem gw_387 : Cond.code yJ0_coder_7d493 cJ0_coder_7d493 1 (some .byte) ∈ gTs := gTs_of 387 (by decide +kernel) (by decide +kernel)
theorem gw_388 : Cond.fieldLink RJ0 38 RJ0 "COMPACT_STRINGS" "Z" ∈ gTs := gTs_of 388 (by decide +kernel) (by decide +kernel)
theorem gw_391 : Cond.instanceMethod yJ0_charAt_5068e ∈ gTs := gTs_of 391 (by decide +kernel) (by decide +kernel)
theorem gw_392 : Cond.selects RJ0 yJ0_charAt_5068e yJ0_charAt_5068e ∈ gTs := gTs_of 392 (by decide +kernel) (by decide +kernel)
theorem gw_393 : Cond.code yJ0_charAt_5068e cJ0_charAt_5068e 2 (some .char) ∈ gTs := gTs_of 393 (by decide +kernel) (by decide +kernel)
theorem gw_394 : Cond.methodLink RJ0 492 yJ0_isLatin1_aae02 ∈ gTs := gTs_of 394 (by decide +kernel) (by decide +kernel)
theorem gw_395 : Cond.instanceMethod yJ0_isLatin1_aae02 ∈ gTs := gTs_of 395 (by decide +kernel) (by decide +kernel)
theorem gw_396 : Cond.selects RJ0 yJ0_isLatin1_aae02 yJ0_isLatin1_aae02 ∈ gTs := gTs_of 396 (by decide +kernel) (by decide +kernel)
theorem gw_397 : Cond.code yJ0_isLatin1_aae02 cJ0_isLatin1_aae02 1 (some .boolean) ∈ gTs := gTs_of 397 (by decide +kernel) (by decide +kernel)
theorem gw_80 : Cond.initialized RJ0 ∈ gTs := gTs_of 80 (by decide +kernel) (by decide +kernel)
theorem gw_1204 : Cond.fieldLink RJ0 9 RJ0 "value" "[B" ∈ gTs := gTs_of 1204 (by decide +kernel) (by decide +kernel)
theorem gw_1205 : Cond.fieldLink RJ0 15 RJ0 "coder" "B" ∈ gTs := gTs_of 1205 (by decide +kernel) (by decide +kernel)
theorem xG_S {E : XEnv} {ad : Nat → Nat} {A : Nat → Prop} {s : State} (h : xG E ad A s) : vk_S 1 [63] [xByt] (fun _ => ad 1000003) (fun _ => ad 1000004) A s s.heap := h.2.2.2.2.2.1
section JOPS
variable {own : String} {cc : ByteArray} {nL : Nat} {rt : Option FieldType} {mL pc : Nat}
def xo_jval (nx : Nat) : XOp := fun E Lv Q X lv st σ => pR st fun q st => q = 1000003 ∧ X nx lv (.ref 1000004 :: st) σ
theorem xs_jval (ho : own = RJ0) (hdg : decode cc pc = .ok (.getfield 9, 3)) : XSnd own cc nL rt mL pc (xo_jval (pc + 3)) := by
  intro E Lv n0 Q X hLv hX lv st σ h
  obtain ⟨q, st, rfl, hq, h2⟩ := pR_e h
  subst hq
  intro p e R s m args below meth c H locs cells slots Z D cA ad A ls hC hR hl hw hE
  exact vk_getf hC.1 hC.2.1 ((xG_S hw.2.2.2.2.2).1 0 (by omega)).2.2.1 hw.2.2.2.2.1 hC.2.2.2.1 (hC.2.2.2.2 _ (by rw [ho]; exact gw_1204)) (fun _ h => h) hdg (hX _ _ _ _ h2 p e R s m args below meth c H locs cells slots Z D cA ad A ls hC hR hl hw hE)
def xo_jcod (nx : Nat) : XOp := fun E Lv Q X lv st σ => pR st fun q st => q = 1000003 ∧ X nx lv (.int 0 :: st) σ
theorem xs_jcod (ho : own = RJ0) (hdg : decode cc pc = .ok (.getfield 15, 3)) : XSnd own cc nL rt mL pc (xo_jcod (pc + 3)) := by
  intro E Lv n0 Q X hLv hX lv st σ h
  obtain ⟨q, st, rfl, hq, h2⟩ := pR_e h
  subst hq
  intro p e R s m args below meth c H locs cells slots Z D cA ad A ls hC hR hl hw hE
  exact vk_getf hC.1 hC.2.1 ((xG_S hw.2.2.2.2.2).1 0 (by omega)).2.1 hw.2.2.2.2.1 hC.2.2.2.1 (hC.2.2.2.2 _ (by rw [ho]; exact gw_1205)) (fun _ h => h) hdg (hX _ _ _ _ h2 p e R s m args below meth c H locs cells slots Z D cA ad A ls hC hR hl hw hE)
def xo_jcs (nx : Nat) : XOp := fun E Lv Q X lv st σ => X nx lv (.int 1 :: st) σ
theorem xs_jcs (ho : own = RJ0) (hdg : decode cc pc = .ok (.getstatic 38, 3)) : XSnd own cc nL rt mL pc (xo_jcs (pc + 3)) := by
  intro E Lv n0 Q X hLv hX lv st σ h
  intro p e R s m args below meth c H locs cells slots Z D cA ad A ls hC hR hl hw hE
  exact va_gets hC.1 hC.2.1 hw.2.2.2.2.2.2.2.2.2.2.2.1 hw.2.2.2.2.1 hC.2.2.2.1 (hC.2.2.2.2 _ (by rw [ho]; exact gw_388)) (fun _ h => h) hdg (hX _ _ _ _ h p e R s m args below meth c H locs cells slots Z D cA ad A ls hC hR hl hw hE)
def xo_jlen (nx : Nat) : XOp := fun E Lv Q X lv st σ => pR st fun q st => q = 1000004 ∧ X nx lv (.int 63 :: st) σ
theorem xs_jlen (hdg : decode cc pc = .ok (.arraylength, 1)) : XSnd own cc nL rt mL pc (xo_jlen (pc + 1)) := by
  intro E Lv n0 Q X hLv hX lv st σ h
  obtain ⟨q, st, rfl, hq, h2⟩ := pR_e h
  subst hq
  intro p e R s m args below meth c H locs cells slots Z D cA ad A ls hC hR hl hw hE
  exact va_tlen hC.1 hC.2.1 ((xG_S hw.2.2.2.2.2).1 0 (by omega)).2.2.2 hw.2.2.2.2.1 rfl hdg (hX _ _ _ _ h2 p e R s m args below meth c H locs cells slots Z D cA ad A ls hC hR hl hw hE)
def xo_jb (nx : Nat) : XOp := fun E Lv Q X lv st σ => pI st fun i st => pR st fun q st => q = 1000004 ∧ vp_in i 63 ∧ X nx lv (.int (xByt.getD i.toNatClampNeg 0) :: st) σ
theorem xs_jb (hdg : decode cc pc = .ok (.baload, 1)) : XSnd own cc nL rt mL pc (xo_jb (pc + 1)) := by
  intro E Lv n0 Q X hLv hX lv st σ h
  obtain ⟨i, st, rfl, h1⟩ := pI_e h
  obtain ⟨q, st, rfl, hq, hi, h2⟩ := pR_e h1
  subst hq
  intro p e R s m args below meth c H locs cells slots Z D cA ad A ls hC hR hl hw hE
  exact va_tb hC.1 hC.2.1 ((xG_S hw.2.2.2.2.2).1 0 (by omega)).2.2.2 hw.2.2.2.2.1 hi rfl hdg (hX _ _ _ _ h2 p e R s m args below meth c H locs cells slots Z D cA ad A ls hC hR hl hw hE)
def xo_i2c (nx : Nat) : XOp := fun E Lv Q X lv st σ => pI st fun x st => X nx lv (.int (x.toUInt32 % 65536).toInt32 :: st) σ
theorem xs_i2c (hdg : decode cc pc = .ok (.i2c, 1)) : XSnd own cc nL rt mL pc (xo_i2c (pc + 1)) := by
  intro E Lv n0 Q X hLv hX lv st σ h
  obtain ⟨x, st, rfl, h2⟩ := pI_e h
  intro p e R s m args below meth c H locs cells slots Z D cA ad A ls hC hR hl hw hE
  exact lv_i2c hC.1 hC.2.1 hdg rfl (hX _ _ _ _ h2 p e R s m args below meth c H locs cells slots Z D cA ad A ls hC hR hl hw hE)
def xo_nret (ty : FieldType) : XOp := fun E Lv Q X lv st σ => pI st fun v st => match st with
  | [] => narrow ty (.int v) = .int v ∧ Q (some (.int v)) σ
  | _ => False
theorem xs_nret {ty : FieldType} (hrt : rt = some ty) (hdg : decode cc pc = .ok (.ireturn, 1)) : XSnd own cc nL rt mL pc (xo_nret ty) := by
  intro E Lv n0 Q X hLv hX lv st σ h
  obtain ⟨v, st, rfl, h1⟩ := pI_e h
  match st, h1 with
  | [], h1 =>
    intro p e R s m args below meth c H locs cells slots Z D cA ad A ls hC hR hl hw hE
    exact hE _ _ _ _ h1.2 hw pc ls hdg (by rw [hrt]; exact h1.1)
def xo_callJ (y : MethodName) (cc' : ByteArray) (nL' : Nat) (rt' : Option FieldType) (n nx : Nat) : XOp := fun E Lv Q X lv st σ => pN n [] st fun as st => pR st fun q st => q = 1000003 ∧ match smal st with
  | true => XIn E Lv y cc' nL' rt' (.ref q :: as) σ fun r σ' => X nx lv (xpush r st) σ'
  | false => False
theorem xs_callJ {y : MethodName} {cc' : ByteArray} {nL' n index : Nat} {rt' : Option FieldType} (h1 : Cond.methodLink own index y ∈ gTs) (h2 : Cond.instanceMethod y ∈ gTs) (h3 : Cond.selects RJ0 y y ∈ gTs) (h4 : Cond.initialized RJ0 ∈ gTs) (h5 : Cond.code y cc' nL' rt' ∈ gTs) (hd : y.cls = RJ0 ∧ y.cls ≠ "java/lang/invoke/MethodHandle" ∧ y.cls ≠ "java/lang/invoke/VarHandle" ∧ (parseMethodDescriptor y.desc).map (fun d => d.parameters.length) = some n) (hnL : nL' ≤ 21) (hdg : decode cc pc = .ok (.invokevirtual index, 3)) : XSnd own cc nL rt mL pc (xo_callJ y cc' nL' rt' n (pc + 3)) := by
  intro E Lv n0 Q X hLv hX lv st σ h
  obtain ⟨as, st, rfl, hlen, k1⟩ := pN_e h
  rw [List.append_nil] at k1
  obtain ⟨q, st, rfl, hq, k3⟩ := pR_e k1
  subst hq
  cases hsm : smal st with
  | false => simp only [hsm] at k3
  | true =>
    simp only [hsm] at k3
    intro p e R s m args below meth c H locs cells slots Z D cA ad A ls hC hR hl hw hE
    have hrecv : ∃ cell : Cell, H[ad 1000003]? = some cell ∧ cell.vm.isStatics = false ∧ s.vm.findClass RJ0 = some cell.cls := vk_recv (xG_S hw.2.2.2.2.2) (i := 0) (by omega) hw.2.2.2.2.1
    have cw : ∀ d, d < Lv → CallW R s args own RJ0 index y cc' nL' rt' (Cond.code y cc' nL' rt' :: gTs) (rmL d) 0 0 n := fun d g1 => cwV (R := R) (own := own) (index := index) (C := RJ0) (rm := rmL d) (mc := 0) (ms := 0) (ws := Cond.code y cc' nL' rt' :: gTs) n hC.2.2.2.2 (gTs_GoodIn (fun w hw => by
      unfold wsV at hw
      simp only [List.cons_append, List.nil_append, List.mem_cons] at hw
      rcases hw with rfl | rfl | rfl | rfl | rfl | hw
      · exact h1
      · exact h2
      · exact h3
      · exact h4
      · exact h5
      · exact hw)) rfl rfl rfl hd (xroom_call hR g1 hnL).1
    rcases k3 with ⟨d, Qc, g1, g2, g7⟩ | ⟨d, P, argsc, σc, Qc, g1, g2, g3, g4, g5, g6, g7⟩
    · refine xcall_after0 (rest := st.map (xv ad)) (va_runV (As := as.map (xv ad)) (b := ad 1000003) hC (g2 D cA ad A) (cw d g1) ⟨xpre_blind _ _ _ _ _ _ _, hrecv, fun U hU hW => ⟨rfl, xcall_pre0 hw U hU hW⟩⟩ rfl (by rw [List.length_map]; exact hlen) hl.1 (by simp [xv]) (lv_room (smal_e hsm)) hdg (xroom_call hR g1 hnL).2) hw (fun r σ' f1 f2 f3 H1 locs1 hw1 => ?_)
      rw [← xpush_e ad f3]
      exact (hX _ _ _ _ (g7 r σ' f1 f2) p e R s m args below meth c H1 locs1 cells slots Z D cA ad A ls hC hR hl hw1 hE)
    have hav : argsc.map (xv (xad ad P)) = Value.ref (ad 1000003) :: as.map (xv ad) := by
      rw [show xv (xad ad P) = xv ad ∘ xv (xp P) from funext fun v => (xv_comp ad (xp P) v).symm, ← List.map_map, ← g6]
      rfl
    refine xcall_after (σc := σc) (P := P) (rest := st.map (xv ad)) (va_runV (As := as.map (xv ad)) (b := ad 1000003) hC (g2 D cA (xad ad P) (xA (xad ad P) σc.length)) (cw d g1) ⟨xpre_blind _ _ _ _ _ _ _, hrecv, fun U hU hW => ⟨by rw [hav], xcall_pre hw g3 g4 g5 U hU hW⟩⟩ rfl (by rw [List.length_map]; exact hlen) hl.1 (by simp [xv]) (lv_room (smal_e hsm)) hdg (xroom_call hR g1 hnL).2) hw g3 g4 g5 (fun r σ' f1 f2 f3 H1 locs1 hw1 => ?_)
    rw [← xpush_e ad f3]
    exact (hX _ _ _ _ (g7 r σ' f1 f2) p e R s m args below meth c H1 locs1 cells slots Z D cA ad A ls hC hR hl hw1 hE)
end JOPS
