-- ===== a call out of a larger world: the callee's place k is the caller's place P[k] =====
def xp (P : List Nat) (k : Nat) : Nat := match Nat.ble 1000000 k with
  | true => k
  | false => P.getD k 0
def xpE (P : List Nat) (e : XE) : XE := match e with
  | .inl (t, x) => .inl (t, xa (xp P) x)
  | .inr (c, fs) => .inr (c, fs.map (xv (xp P)))
/-- the callee's cells back to their places -/
def xmg (R : List Nat) : List Nat → XW → XW → XW
  | i :: is, e :: es, σ => xmg R is es (σ.set i (xpE R e))
  | _, _, σ => σ
theorem xv_comp (ad : Nat → Nat) (f : Nat → Nat) (v : Value) : xv ad (xv f v) = xv (fun k => ad (f k)) v := by cases v <;> rfl
theorem xa_comp (ad : Nat → Nat) (f : Nat → Nat) (x : vp_A) : xa ad (xa f x) = xa (fun k => ad (f k)) x := by
  obtain ⟨n, x⟩ := x
  match x with
  | .inl _ => rfl
  | .inr (.inl _) => rfl
  | .inr (.inr (.inl _)) => rfl
  | .inr (.inr (.inr (.inl _))) => rfl
  | .inr (.inr (.inr (.inr g))) => simp [xa, Function.comp_def]
theorem xe_comp (cA : Nat → ClassId) (ad : Nat → Nat) (P : List Nat) (e : XE) : xe cA ad (xpE P e) = xe cA (fun k => ad (xp P k)) e := by
  match e with
  | .inl (t, x) =>
    show (Sum.inl (cA t, xa ad (xa (xp P) x)) : va_E) = _
    rw [xa_comp]
    rfl
  | .inr (c, fs) =>
    show (Sum.inr (c, (fs.map (xv (xp P))).map (xv ad)) : va_E) = _
    rw [List.map_map, show (xv ad ∘ xv (xp P)) = xv (fun k => ad (xp P k)) from funext fun v => xv_comp _ _ _]
    rfl
theorem xmg_len (R : List Nat) : ∀ (is : List Nat) (es σ : XW), (xmg R is es σ).length = σ.length
  | [], _, _ => by simp [xmg]
  | _ :: _, [], _ => by simp [xmg]
  | i :: is, e :: es, σ => by
    rw [xmg, xmg_len R is es, List.length_set]
theorem xmg_out (R : List Nat) : ∀ (is : List Nat) (es σ : XW) (k : Nat), k ∉ is → (xmg R is es σ)[k]? = σ[k]?
  | [], _, _, _, _ => by simp [xmg]
  | _ :: _, [], _, _, _ => by simp [xmg]
  | i :: is, e :: es, σ, k, h => by
    rw [xmg, xmg_out R is es _ k (fun z => h (List.mem_cons_of_mem _ z)), List.getElem?_set_ne (fun z => h (by rw [z]; exact List.mem_cons_self))]
theorem xmg_at (R : List Nat) : ∀ (is : List Nat) (es σ : XW) (j i : Nat), is.Nodup → (∀ i ∈ is, i < σ.length) → is[j]? = some i → ∀ e, es[j]? = some e → (xmg R is es σ)[i]? = some (xpE R e)
  | [], _, _, _, _, _, _, h, _, _ => by simp at h
  | _ :: _, [], _, _, _, _, _, _, _, h => by simp at h
  | i0 :: is, e0 :: es, σ, 0, i, hn, hl, h, e, he => by
    simp only [List.getElem?_cons_zero, Option.some.injEq] at h he
    subst h; subst he
    rw [xmg, xmg_out R is es _ _ (List.nodup_cons.mp hn).1, List.getElem?_set_self (hl _ List.mem_cons_self)]
  | i0 :: is, e0 :: es, σ, j + 1, i, hn, hl, h, e, he => by
    simp only [List.getElem?_cons_succ] at h he
    rw [xmg]
    exact xmg_at R is es _ j i (List.nodup_cons.mp hn).2 (fun i hi => by rw [List.length_set]; exact hl i (List.mem_cons_of_mem _ hi)) h e he
/-- the callee's world lies at the places P of the caller's -/
def xSub (P : List Nat) (σ σc : XW) : Prop := P.map (fun i => σ[i]?) = σc.map (fun e => some (xpE P e))
theorem xSub_len {P : List Nat} {σ σc : XW} (h : xSub P σ σc) : P.length = σc.length := by simpa using congrArg List.length h
theorem xSub_at {P : List Nat} {σ σc : XW} (h : xSub P σ σc) {k : Nat} {e : XE} (he : σc[k]? = some e) : ∃ i, P[k]? = some i ∧ σ[i]? = some (xpE P e) := by
  have h1 : (P.map (fun i => σ[i]?))[k]? = some (some (xpE P e)) := by rw [h, List.getElem?_map, he]; rfl
  rw [List.getElem?_map] at h1
  cases hi : P[k]? with
  | none => rw [hi] at h1; cases h1
  | some i => rw [hi] at h1; exact ⟨i, rfl, Option.some.inj h1⟩
theorem xSub_lt {P : List Nat} {σ σc : XW} (h : xSub P σ σc) {k i : Nat} (hi : P[k]? = some i) : i < σ.length ∧ k < σc.length := by
  have hk : k < σc.length := by rw [← xSub_len h]; exact (List.getElem?_eq_some_iff.mp hi).1
  obtain ⟨i', h1, h2⟩ := xSub_at h (List.getElem?_eq_getElem hk)
  cases hi.symm.trans h1
  exact ⟨(List.getElem?_eq_some_iff.mp h2).1, hk⟩
def XIn (E : XEnv) (Lv : Nat) (y : MethodName) (cc : ByteArray) (nL : Nat) (rt : Option FieldType) (args : List Value) (σ : XW) (Q : XQ) : Prop :=
  (∃ (d : Nat) (Qc : XQ), d < Lv ∧ XCall E d y cc nL rt args σ Qc ∧ ∀ (r : Option Value) (σ' : XW), σ'.length = σ.length → Qc r σ' → Q r σ') ∨
  ∃ (d : Nat) (P : List Nat) (argsc : List Value) (σc : XW) (Qc : XQ), d < Lv ∧ XCall E d y cc nL rt argsc σc Qc ∧ P.Nodup ∧ P.length < 1000000 ∧ xSub P σ σc ∧ args = argsc.map (xv (xp P)) ∧ ∀ (r : Option Value) (σ' : XW), σ'.length = σc.length → Qc r σ' → Q r (xmg P P σ' σ)
/-- a call in the same world -/
theorem XIn.same {E : XEnv} {Lv d : Nat} {y : MethodName} {cc : ByteArray} {nL : Nat} {rt : Option FieldType} {args : List Value} {σ : XW} {Q Qc : XQ} (hd : d < Lv) (h : XCall E d y cc nL rt args σ Qc) (k : ∀ (r : Option Value) (σ' : XW), σ'.length = σ.length → Qc r σ' → Q r σ') : XIn E Lv y cc nL rt args σ Q := Or.inl ⟨d, Qc, hd, h, k⟩
/-- a call in the world of the places P -/
theorem XIn.sub {E : XEnv} {Lv d : Nat} {y : MethodName} {cc : ByteArray} {nL : Nat} {rt : Option FieldType} {args argsc : List Value} {σ σc : XW} {Q Qc : XQ} (P : List Nat) (hd : d < Lv) (h : XCall E d y cc nL rt argsc σc Qc) (hn : P.Nodup) (hl : P.length < 1000000) (hs : xSub P σ σc) (ha : args = argsc.map (xv (xp P))) (k : ∀ (r : Option Value) (σ' : XW), σ'.length = σc.length → Qc r σ' → Q r (xmg P P σ' σ)) : XIn E Lv y cc nL rt args σ Q := Or.inr ⟨d, P, argsc, σc, Qc, hd, h, hn, hl, hs, ha, k⟩
theorem XIn.mono {E : XEnv} {Lv : Nat} {y : MethodName} {cc : ByteArray} {nL : Nat} {rt : Option FieldType} {args : List Value} {σ : XW} {Q Q' : XQ} (h : XIn E Lv y cc nL rt args σ Q) (hq : ∀ r σ', σ'.length = σ.length → Q r σ' → Q' r σ') : XIn E Lv y cc nL rt args σ Q' := by
  rcases h with ⟨d, Qc, h1, h2, h3⟩ | ⟨d, P, argsc, σc, Qc, h1, h2, h3, h4, h5, h6, h7⟩
  · exact Or.inl ⟨d, Qc, h1, h2, fun r σ' hl hc => hq r _ hl (h3 r σ' hl hc)⟩
  · exact Or.inr ⟨d, P, argsc, σc, Qc, h1, h2, h3, h4, h5, h6, fun r σ' hl hc => hq r _ (xmg_len _ _ _ _) (h7 r σ' hl hc)⟩
/-- the addresses of the callee's places -/
def xad (ad : Nat → Nat) (P : List Nat) : Nat → Nat := fun k => ad (xp P k)
theorem xp_in {P : List Nat} (hP : P.length < 1000000) {k i : Nat} (h : P[k]? = some i) : xp P k = i := by
  have hk : k < P.length := (List.getElem?_eq_some_iff.mp h).1
  have hb : Nat.ble 1000000 k = false := by
    cases hb : Nat.ble 1000000 k with
    | false => rfl
    | true => exact absurd (Nat.le_of_ble_eq_true hb) (by omega)
  unfold xp
  rw [hb]
  show P.getD k 0 = i
  rw [List.getD_eq_getElem?_getD, h]
  rfl
section XAFT
variable {p : Program} {E : XEnv} {e : Env} {R : Room} {s : State} {m : MethodId} {args : Array Value} {below : List Frame} {meth : Method} {c : Code} {H : Heap} {locs : List Loc} {cells slots : Nat} {Z : State → Prop}
variable {D : va_G} {cA : Nat → ClassId} {ad : Nat → Nat} {A : Nat → Prop} {n0 : Nat} {σ σc : XW} {P : List Nat}
theorem xcall_pre (hw : xWd E D cA ad A s n0 σ H locs) (hn : P.Nodup) (hP : P.length < 1000000) (hs : xSub P σ σc) : ∀ U : State, U.heap = H → s.WarmedH U.vm → xPre E D cA (xad ad P) (xA (xad ad P) σc.length) σc U := by
  intro U hU hW
  obtain ⟨w1, w2, w3, w4, w5, w6⟩ := hw
  have hin : ∀ k, k < σc.length → ∃ i, P[k]? = some i ∧ i < σ.length ∧ xad ad P k = ad i := by
    intro k hk
    obtain ⟨i, h1, h2⟩ := xSub_at hs (List.getElem?_eq_getElem hk)
    exact ⟨i, h1, (List.getElem?_eq_some_iff.mp h2).1, by unfold xad; rw [xp_in hP h1]⟩
  refine ⟨va_K.moved hW.alike w2, fun k q hk => ?_, ⟨fun i j hi hj e => ?_, fun i hi => ⟨i, hi, rfl⟩⟩, ?_⟩
  · obtain ⟨e, h1, rfl⟩ := xw_get' hk
    obtain ⟨i, h2, h3⟩ := xSub_at hs h1
    have h4 := w3 i _ (xw_get (cA := cA) (ad := ad) h3)
    rw [hU]
    rw [xe_comp] at h4
    have e1 : xad ad P k = ad i := by unfold xad; rw [xp_in hP h2]
    rw [e1]
    exact h4
  · obtain ⟨a, a1, a2, a3⟩ := hin i hi
    obtain ⟨b, b1, b2, b3⟩ := hin j hj
    have hab : a = b := w4.1 a b (by omega) (by omega) (a3.symm.trans (e.trans b3))
    subst hab
    exact (List.getElem?_inj (List.getElem?_eq_some_iff.mp a1).1 hn).mp (a1.trans b1.symm)
  · refine xG.next w6 hW (fun a ha hna => by rw [hU]; exact w5.2.1 a ha hna) (fun q hq => ?_) (fun k hk => ?_)
    · obtain ⟨k, hk, rfl⟩ := hq
      obtain ⟨i, h1, h2, h3⟩ := hin k hk
      rw [h3]
      exact w4.2 i (by omega)
    · show ad (xp P k) = ad k
      have : Nat.ble 1000000 k = true := Nat.ble_eq_true_of_le hk
      unfold xp
      rw [this]
theorem xcall_after {pc : Nat} {ls : Array Slot} {rest st0 : List Value} {a : Array Value} {Qc : XQ} (hrun : va_Run p E.1 e R s m args below meth c H locs cells slots 0 0 (F0 m pc ls st0) rest (xPost D cA (xad ad P) (xA (xad ad P) σc.length) σc.length Qc a) (xA (xad ad P) σc.length))
    (hw : xWd E D cA ad A s n0 σ H locs) (hn : P.Nodup) (hP : P.length < 1000000) (hs : xSub P σ σc)
    (kk : ∀ (r : Option Value) (σ' : XW), σ'.length = σc.length → Qc r σ' → xok r → ∀ (H1 : Heap) (locs1 : List Loc), xWd E D cA ad A s n0 (xmg P P σ' σ) H1 locs1 → W p E.1 e R s m args below meth c H1 locs1 cells slots Z (F0 m (pc + 3) ls (r.toList ++ rest))) :
    W p E.1 e R s m args below meth c H locs cells slots Z (F0 m pc ls st0) := by
  intro T hT X
  obtain ⟨v, st₀, t, T', L, h0, X', hL, e1, e2, ⟨⟨r, σ', hv, ho, hq, hlen, hP1⟩, hz, hk⟩, st⟩ := hrun T hT X
  cases hv
  rw [h0] at hz hk
  obtain ⟨w1, w2, w3, w4, w5, w6⟩ := hw
  have hin : ∀ k, k < σc.length → ∃ i, P[k]? = some i ∧ i < σ.length ∧ xad ad P k = ad i := by
    intro k hk
    obtain ⟨i, h1, h2⟩ := xSub_at hs (List.getElem?_eq_getElem hk)
    exact ⟨i, h1, (List.getElem?_eq_some_iff.mp h2).1, by unfold xad; rw [xp_in hP h1]⟩
  have hAA : ∀ q, xA (xad ad P) σc.length q → A q := by
    rintro q ⟨k, hk, rfl⟩
    obtain ⟨i, h1, h2, h3⟩ := hin k hk
    rw [h3]
    exact w4.2 i (by omega)
  have hS1 : va_S A s.heap t.heap (locs ++ L) := ⟨Nat.le_trans w5.1 hz, fun q h1 h2 => by rw [hk q (Nat.lt_of_lt_of_le h1 w5.1) (fun z => h2 (hAA q z))]; exact w5.2.1 q h1 h2, fun q hq => by
    rcases List.mem_append.mp hq with h | h
    · exact w5.2.2 q h
    · exact hAA _ (hL q h)⟩
  have hW1 : va_P D vwCl (xw cA ad (xmg P P σ' σ)) t.heap := by
    intro k q hkq
    obtain ⟨e, h1, rfl⟩ := xw_get' hkq
    by_cases hmem : k ∈ P
    · obtain ⟨j, hj⟩ := List.getElem?_of_mem hmem
      have hjl := (xSub_lt hs hj).2
      obtain ⟨e', he'⟩ : ∃ e', σ'[j]? = some e' := ⟨_, List.getElem?_eq_getElem (by omega)⟩
      have h2 := xmg_at P P σ' σ j k hn (fun i hi => by
        obtain ⟨j', hj'⟩ := List.getElem?_of_mem hi
        exact (xSub_lt hs hj').1) hj e' he'
      cases h1.symm.trans h2
      have h3 := hP1 j _ (xw_get (cA := cA) (ad := xad ad P) he')
      rw [xe_comp]
      have e1 : xad ad P j = ad k := by unfold xad; rw [xp_in hP hj]
      rw [e1] at h3
      exact h3
    · rw [xmg_out P P σ' σ k hmem] at h1
      have h3 := w3 k _ (xw_get (cA := cA) (ad := ad) h1)
      refine h3.kept (hk _ h3.lt ?_)
      rintro ⟨k', hk', e'⟩
      obtain ⟨i, g1, g2, g3⟩ := hin k' hk'
      have : k = i := w4.1 k i (by have := (List.getElem?_eq_some_iff.mp h1).1; omega) (by omega) (e'.trans g3)
      subst this
      exact hmem (List.mem_of_getElem? g1)
  obtain ⟨t2, a1, b1⟩ := kk v σ' hlen hq ho T'.heap (locs ++ L) ⟨by rw [xmg_len]; exact w1, w2, by rw [e1]; exact hW1, w4, by rw [e1]; exact hS1, w6⟩ T' rfl X'
  exact ⟨t2, st t2 a1, b1⟩
theorem xcall_pre0 (hw : xWd E D cA ad A s n0 σ H locs) : ∀ U : State, U.heap = H → s.WarmedH U.vm → xPre E D cA ad A σ U := by
  intro U hU hW
  obtain ⟨w1, w2, w3, w4, w5, w6⟩ := hw
  subst w1
  exact ⟨va_K.moved hW.alike w2, by rw [hU]; exact w3, w4, xG.next w6 hW (fun a ha hna => by rw [hU]; exact w5.2.1 a ha hna) (fun _ h => h) (fun _ _ => rfl)⟩
theorem xcall_after0 {pc : Nat} {ls : Array Slot} {rest st0 : List Value} {a : Array Value} {Qc : XQ} (hrun : va_Run p E.1 e R s m args below meth c H locs cells slots 0 0 (F0 m pc ls st0) rest (xPost D cA ad A σ.length Qc a) A)
    (hw : xWd E D cA ad A s n0 σ H locs)
    (kk : ∀ (r : Option Value) (σ' : XW), σ'.length = σ.length → Qc r σ' → xok r → ∀ (H1 : Heap) (locs1 : List Loc), xWd E D cA ad A s n0 σ' H1 locs1 → W p E.1 e R s m args below meth c H1 locs1 cells slots Z (F0 m (pc + 3) ls (r.toList ++ rest))) :
    W p E.1 e R s m args below meth c H locs cells slots Z (F0 m pc ls st0) := by
  intro T hT X
  obtain ⟨v, st₀, t, T', L, h0, X', hL, e1, e2, ⟨⟨r, σ', hv, ho, hq, hlen, hP1⟩, hz, hk⟩, st⟩ := hrun T hT X
  cases hv
  rw [h0] at hz hk
  obtain ⟨w1, w2, w3, w4, w5, w6⟩ := hw
  have hS1 : va_S A s.heap t.heap (locs ++ L) := ⟨Nat.le_trans w5.1 hz, fun q h1 h2 => by rw [hk q (Nat.lt_of_lt_of_le h1 w5.1) h2]; exact w5.2.1 q h1 h2, fun q hq => by
    rcases List.mem_append.mp hq with h | h
    · exact w5.2.2 q h
    · exact hL q h⟩
  obtain ⟨t2, a1, b1⟩ := kk v σ' hlen hq ho T'.heap (locs ++ L) ⟨hlen.trans w1, w2, by rw [e1]; exact hP1, w4, by rw [e1]; exact hS1, w6⟩ T' rfl X'
  exact ⟨t2, st t2 a1, b1⟩
end XAFT
theorem xpre_blind (E : XEnv) (D : va_G) (cA : Nat → ClassId) (ad : Nat → Nat) (A : Nat → Prop) (σ : XW) (av : List Value) : FrameBlind (va_Pc av (xPre E D cA ad A σ)) := by
  intro a U g mk h
  obtain ⟨h0, h1, h2, h3, h4⟩ := h
  refine ⟨h0, va_K.moved (u := U) (U := U.calling g mk a) (Vm.Alike.refl U.vm) h1, h2, h3, ?_⟩
  obtain ⟨g1, ⟨g2, g3⟩, ⟨g4, g5⟩, ⟨g6, g7⟩, g8, g9, g10, g11, g12⟩ := h4
  have hv : U.vm.Alike (U.calling g mk a).vm := Vm.Alike.refl U.vm
  exact ⟨fun q hq => va_Nw.same rfl (rfl : U.vm = (U.calling g mk a).vm) (g1 q hq), ⟨g2.moved hv, g3.moved hv⟩, ⟨g4.moved hv, g5.moved hv⟩, ⟨g6.moved hv, g7.moved hv⟩, vk_R.same rfl g8, g9.moved hv, g10.moved hv, g11.moved hv, g12.moved hv⟩
