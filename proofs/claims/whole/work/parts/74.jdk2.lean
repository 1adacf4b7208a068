-- ===== the JDK's code for the literal: a place looked at =====
theorem xpre_nil {E : XEnv} {D : va_G} {cA : Nat → ClassId} {ad ad' : Nat → Nat} {A : Nat → Prop} (had : ∀ k, 1000000 ≤ k → ad' k = ad k) : xPre E D cA ad' A [] = xPre E D cA ad A [] := by
  funext U
  have g : xG E ad' A U = xG E ad A U := by
    unfold xG
    rw [had 1000000 (Nat.le_of_ble_eq_true rfl), had 1000001 (Nat.le_of_ble_eq_true rfl), had 1000002 (Nat.le_of_ble_eq_true rfl), had 1000003 (Nat.le_of_ble_eq_true rfl), had 1000004 (Nat.le_of_ble_eq_true rfl), had 1000005 (Nat.le_of_ble_eq_true rfl)]
  have d : ∀ a : Nat → Nat, xD A a ([] : XW).length := fun a => ⟨fun i j hi _ _ => absurd hi (Nat.not_lt_zero _), fun i hi => absurd hi (Nat.not_lt_zero _)⟩
  unfold xPre
  rw [g]
  exact propext ⟨fun h => ⟨h.1, h.2.1, d ad, h.2.2.2⟩, fun h => ⟨h.1, h.2.1, d ad', h.2.2.2⟩⟩
theorem xpost_nil {D : va_G} {cA : Nat → ClassId} {ad ad' : Nat → Nat} {A : Nat → Prop} {Q : XQ} : xPost D cA ad' A 0 Q = xPost D cA ad A 0 Q := by
  have go : ∀ (a b : Nat → Nat) (x : Array Value) (st : State) (oc : Outcome) (t : State), xPost D cA a A 0 Q x st oc t → xPost D cA b A 0 Q x st oc t := by
    intro a b x st oc t h
    obtain ⟨⟨r, σ', h1, h2, h3, h4, h5⟩, h6⟩ := h
    have e : σ' = [] := List.length_eq_zero_iff.mp h4
    subst e
    exact ⟨⟨r, [], h1, h2, h3, h4, h5⟩, h6⟩
  funext x st oc t
  exact propext ⟨go ad' ad x st oc t, go ad ad' x st oc t⟩
section JOPS
variable {own : String} {cc : ByteArray} {nL : Nat} {rt : Option FieldType} {mL pc : Nat}
def xo_chk (nx : Nat) : XOp := fun E Lv Q X lv st σ => pI st fun n st => pI st fun i st => match smal st with
  | true => (¬ i < 0 ∧ i < n) ∧ X nx lv (.int i :: st) σ
  | false => False
theorem xs_chk (ho : own = RJ0) (hd : 0 < mL) (hdg0 : decode cc pc = .ok (.getstatic 1053, 3)) (hdg : decode cc (pc + 3) = .ok (.invokestatic 1059, 3)) : XSnd own cc nL rt mL pc (xo_chk (pc + 3 + 3)) := by
  subst ho
  intro E Lv n0 Q X hLv hX lv st σ h
  obtain ⟨n, st, rfl, h1⟩ := pI_e h
  obtain ⟨i, st, rfl, h2⟩ := pI_e h1
  cases hsm : smal st with
  | false => simp only [hsm] at h2
  | true =>
    simp only [hsm] at h2
    obtain ⟨⟨hi0, hin⟩, h3⟩ := h2
    intro p e R s m args below meth c H locs cells slots Z D cA ad A ls hC hR hl hw hE
    have hr := xroom_call hR (Nat.lt_of_lt_of_le hd hLv) (show 3 ≤ 21 by decide)
    have go : ∀ v : Value, Met E.1 yJ3_checkIndex_8e157 (Cond.code yJ3_checkIndex_8e157 cJ3_checkIndex_8e157 3 (some .int) :: gTs) (rmL 0) (va_Pc [.int i, .int n, v] (xPre E D cA (xad ad []) (xA (xad ad []) 0) [])) (xPost D cA (xad ad []) (xA (xad ad []) 0) 0 (fun r _ => r = some (.int i))) 0 0 (xA (xad ad []) 0) → W p E.1 e R s m args below meth c H locs cells slots Z (F0 m (pc + 3) ls (v :: (Value.int n :: Value.int i :: st).map (xv ad))) := by
      intro v hM
      have cw := va_cwS (R := R) (s := s) (args := args) (own := RJ0) (index := 1059) (rm := rmL 0) (mc := 0) (ms := 0) (ws := Cond.code yJ3_checkIndex_8e157 cJ3_checkIndex_8e157 3 (some .int) :: gTs) 3 hC.2.2.2.2 (gTs_GoodIn (fun w hw => by
        unfold va_wsS at hw
        simp only [List.cons_append, List.nil_append, List.mem_cons] at hw
        rcases hw with rfl | rfl | rfl | rfl | hw
        · exact gw_406
        · exact gw_407
        · exact gw_82
        · exact gw_408
        · exact hw)) rfl rfl rfl (by decide +kernel) hr.1
      have hrun : va_Run p E.1 e R s m args below meth c H locs cells slots 0 0 (F0 m (pc + 3) ls (v :: .int n :: .int i :: st.map (xv ad))) (st.map (xv ad)) (xPost D cA (xad ad []) (xA (xad ad []) 0) 0 (fun r _ => r = some (.int i)) [Value.int i, .int n, v].toArray) (xA (xad ad []) 0) := va_runS (As := [.int i, .int n, v]) (rest := st.map (xv ad)) hC hM cw ⟨xpre_blind _ _ _ _ _ _ _, fun U hU hW => ⟨rfl, xcall_pre (P := []) (σc := []) hw List.nodup_nil (Nat.le_of_ble_eq_true rfl) rfl U hU hW⟩⟩ rfl rfl hl.1 rfl (lv_room (smal_e hsm)) hdg hr.2
      refine xcall_after (σc := []) (P := []) (rest := st.map (xv ad)) hrun hw List.nodup_nil (Nat.le_of_ble_eq_true rfl) rfl (fun r σ' f1 f2 f3 H1 locs1 hw1 => ?_)
      subst f2
      exact (hX _ _ _ _ h3 p e R s m args below meth c H1 locs1 cells slots Z D cA ad A ls hC hR hl hw1 hE)
    rcases hw.2.2.2.2.2.2.2.2.2.2.2.2.1 with hz | ⟨t, hz⟩
    · exact va_gets hC.1 hC.2.1 hz hw.2.2.2.2.1 hC.2.2.2.1 (hC.2.2.2.2 _ gw_404) (fun _ h => h) hdg0 (go .null (c_J3_ckN E i n hi0 hin D cA (xad ad []) (xA (xad ad []) 0)))
    · refine va_gets hC.1 hC.2.1 hz hw.2.2.2.2.1 hC.2.2.2.1 (hC.2.2.2.2 _ gw_404) (fun _ h => h) hdg0 (go (.ref t) ?_)
      have m1 := c_J3_ckR E i n 500000 hi0 hin D cA (fun k => if k = 500000 then t else xad ad [] k) (xA (xad ad []) 0)
      rw [xpre_nil (ad := xad ad []) (fun k hk => if_neg (by omega))] at m1
      rw [show ([] : XW).length = 0 from rfl, xpost_nil (ad := xad ad [])] at m1
      exact m1
end JOPS
