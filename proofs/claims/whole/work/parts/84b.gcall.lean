-- ===== a constructor's contract =====
def rmG (d nc : Nat) : Room := { frames := d + 1, cells := nc, slots := 1000 * nc, locals := 40 * (d + 1) }
def gPre (E : XEnv) (D : va_G) (cA : Nat → ClassId) (ad : Nat → Nat) (σ : XW) (U : State) : Prop := va_K D vwCl (xT cA) U ∧ va_P D vwCl (xw cA ad σ) U.heap ∧ U.heap.size = ad 0 + σ.length ∧ xG E ad (gA ad) U ∧ gAO U
def gPost (D : va_G) (cA : Nat → ClassId) (ad : Nat → Nat) (cap : Nat) (Q : XQ) : Array Value → State → Outcome → State → Prop := fun _ st oc t => (∃ (r : Option Value) (σ' : XW), oc = .returned r ∧ xok r ∧ Q r σ' ∧ σ'.length = cap ∧ va_P D vwCl (xw cA ad σ') t.heap) ∧ va_F (gA ad) st t
def GCall (E : XEnv) (d cap : Nat) (y : MethodName) (cc : ByteArray) (nL : Nat) (args : List Value) (σ : XW) (Q : XQ) : Prop :=
  σ.length ≤ cap ∧ ∀ (D : va_G) (cA : Nat → ClassId) (ad : Nat → Nat), gOK d ad → Met E.1 y (Cond.code y cc nL none :: gTs) (rmG d (cap - σ.length)) (va_Pc (args.map (xv ad)) (gPre E D cA ad σ)) (gPost D cA ad cap Q) (cap - σ.length) (1000 * (cap - σ.length)) (gA ad)
theorem GCall.of {E : XEnv} {d cap : Nat} {y : MethodName} {cc : ByteArray} {nL : Nat} {args : List Value} {σ : XW} {Q : XQ} (im : Bool) (hy : plainName y.cls = true) (him : im = true → y.name = "<init>") (hn : (lg_sl args).length ≤ nL) (hc : cap ≤ 100) (hs : σ.length ≤ cap) (hd : d ≤ 1000) (h : GAt E y.cls cc nL none im d σ.length cap (fun r σ' => Q r σ' ∧ σ'.length = cap) 0 (lv_args 0 args) [] σ) : GCall E d cap y cc nL args σ Q := by
  refine ⟨hs, fun D cA ad hO => ?_⟩
  refine Met.ofW (cc := cc) (maxL := nL) (ret := none) hy rfl ?_
  intro p e s m args' below meth c s₁ B hml hv
  obtain ⟨rfl, hK, hP, hZ, hG, hA⟩ := hv
  have hx := B.exec
  have hb := B.bytes
  have hr := B.returns
  have hts := atoms_spec (ws := Cond.code y cc nL none :: gTs) B.pre
  have hown : s.vm.findClass y.cls = some m.cls := findClass_of_methodNamed B.named
  have hname := (name_of_methodNamed B.named B.method).1
  have hlocks := B.notSynchronized
  have hl := lv_entry (args.map (xv ad)) (n := nL) (by rw [lg_sl_map]; exact hn)
  rw [lg_entry_eq]
  rw [xl_args] at hl
  generalize (lg_sl (args.map (xv ad)) ++ List.replicate (nL - (lg_sl (args.map (xv ad))).length) Slot.unset).toArray = ls at hl ⊢
  refine h p e _ s m _ below meth c _ D cA ad ⟨⟨hx, hb, hml, hown, fun w hw => hts w (List.mem_cons_of_mem _ hw)⟩, fun z => hname.trans (him z), ⟨Nat.le_refl _, Nat.le_refl _, hd⟩, ⟨?_, ?_, hc⟩, hO, hZ⟩ ?_ s.heap [] 0 ls hl (Nat.zero_add _) hs ⟨hK, hP, va_S.rf, hG, hA⟩
  · show cap ≤ cap - σ.length + σ.length
    omega
  · show 1000 * cap ≤ 1000 * (cap - σ.length) + 1000 * σ.length
    omega
  intro r σ' H' locs' cells' hq hcn hw
  obtain ⟨hq, hlen⟩ := hq
  obtain ⟨w1, w2, w3, w4, w5⟩ := hw
  have hce : cells' = cap - σ.length := by omega
  subst hce
  have fin : ∀ t : State, t.heap = H' → xok r → gPost D cA ad cap Q (args.map (xv ad)).toArray s (.returned r) t := fun t ht ho => ⟨⟨r, σ', rfl, ho, hq, hlen, by rw [ht]; exact w2⟩, w3.F ht⟩
  match r, fin with
  | some (.int v), fin =>
    intro pc ls' hd hv
    exact hv.elim
  | some (.long v), fin =>
    intro pc ls' hd hv
    cases hv
  | none, fin =>
    intro pc ls' hd hv
    exact W.vret hx hb hr (fun t ht _ => fin t ht trivial) w3.2.2 hd
  | some (.float v), _ => exact trivial
  | some (.double v), _ => exact trivial
  | some .null, _ => exact trivial
  | some (.ref v), _ => exact trivial
  | some (.retAddr v), _ => exact trivial
theorem gpre_blind (E : XEnv) (D : va_G) (cA : Nat → ClassId) (ad : Nat → Nat) (σ : XW) (av : List Value) : FrameBlind (va_Pc av (gPre E D cA ad σ)) := by
  intro a U g mk h
  obtain ⟨h0, h1, h2, h3, h4, h5⟩ := h
  have hv : U.vm.Alike (U.calling g mk a).vm := Vm.Alike.refl U.vm
  refine ⟨h0, va_K.moved (u := U) (U := U.calling g mk a) hv h1, h2, h3, ?_, ⟨va_AO.moved hv h5.1, va_AO.moved hv h5.2⟩⟩
  obtain ⟨g1, ⟨g2, g3⟩, ⟨g4, g5⟩, ⟨g6, g7⟩, g8, g9, g10, g11, g12⟩ := h4
  exact ⟨fun q hq => va_Nw.same rfl (rfl : U.vm = (U.calling g mk a).vm) (g1 q hq), ⟨g2.moved hv, g3.moved hv⟩, ⟨g4.moved hv, g5.moved hv⟩, ⟨g6.moved hv, g7.moved hv⟩, vk_R.same rfl g8, g9.moved hv, g10.moved hv, g11.moved hv, g12.moved hv⟩
-- ===== the callee's places are the caller's last ones =====
def gMap (q P6 k : Nat) : Nat := match Nat.ble 1000000 k with
  | true => match Nat.beq k 1000006 with
    | true => P6
    | false => k
  | false => q + k
def gE (q P6 : Nat) (e : XE) : XE := match e with
  | .inl (t, x) => .inl (t, xa (gMap q P6) x)
  | .inr (c, fs) => .inr (c, fs.map (xv (gMap q P6)))
def gad (ad : Nat → Nat) (q P6 : Nat) : Nat → Nat := fun k => ad (gMap q P6 k)
theorem gE_comp (cA : Nat → ClassId) (ad : Nat → Nat) (q P6 : Nat) (e : XE) : xe cA ad (gE q P6 e) = xe cA (gad ad q P6) e := by
  match e with
  | .inl (t, x) =>
    show (Sum.inl (cA t, xa ad (xa (gMap q P6) x)) : va_E) = _
    rw [xa_comp]
    rfl
  | .inr (c, fs) =>
    show (Sum.inr (c, (fs.map (xv (gMap q P6))).map (xv ad)) : va_E) = _
    rw [List.map_map, show (xv ad ∘ xv (gMap q P6)) = xv (gad ad q P6) from funext fun v => xv_comp _ _ _]
    rfl
theorem gMap_lt {q P6 k : Nat} (h : k < 1000000) : gMap q P6 k = q + k := by
  have hb : Nat.ble 1000000 k = false := by
    cases hb : Nat.ble 1000000 k with
    | false => rfl
    | true => exact absurd (Nat.le_of_ble_eq_true hb) (by omega)
  unfold gMap
  rw [hb]
theorem gMap_st {q P6 k : Nat} (h : 1000000 ≤ k) (h6 : k ≠ 1000006) : gMap q P6 k = k := by
  have hb : Nat.ble 1000000 k = true := Nat.ble_eq_true_of_le h
  have h2 : Nat.beq k 1000006 = false := by
    cases h2 : Nat.beq k 1000006 with
    | false => rfl
    | true => exact absurd (Nat.eq_of_beq_eq_true h2) h6
  unfold gMap
  rw [hb, h2]
theorem gad_lt {ad : Nat → Nat} {q P6 k : Nat} (h : k < 1000000) : gad ad q P6 k = ad (q + k) := by
  unfold gad
  rw [gMap_lt h]
theorem gad_0 {ad : Nat → Nat} {Lv q P6 : Nat} (hO : gOK Lv ad) (hq : q < 100) : gad ad q P6 0 = ad 0 + q := by
  rw [gad_lt (by omega), Nat.add_zero, hO q (by omega)]
theorem gad_OK {ad : Nat → Nat} {Lv d q P6 : Nat} (hO : gOK Lv ad) (hd : d < Lv) (hL : Lv ≤ 1000) (hq : q < 100) : gOK d (gad ad q P6) := by
  intro k hk
  rw [gad_0 hO hq, gad_lt (by omega), hO (q + k) (by omega)]
  omega
theorem xG.adc {E : XEnv} {ad ad' : Nat → Nat} {A : Nat → Prop} {U : State} (h : xG E ad A U) (e : ∀ k, 1000000 ≤ k → k ≤ 1000005 → ad' k = ad k) : xG E ad' A U := by
  unfold xG at h ⊢
  rw [e 1000000 (xle rfl) (xle rfl), e 1000001 (xle rfl) (xle rfl), e 1000002 (xle rfl) (xle rfl), e 1000003 (xle rfl) (xle rfl), e 1000004 (xle rfl) (xle rfl), e 1000005 (xle rfl) (xle rfl)]
  exact h
theorem gP_split {D : va_G} {cA : Nat → ClassId} {ad : Nat → Nat} {σp σc : XW} {P6 : Nat} {H : Heap} (hP : va_P D vwCl (xw cA ad (σp ++ σc.map (gE σp.length P6))) H) (hl : σc.length ≤ 1000) : va_P D vwCl (xw cA (gad ad σp.length P6) σc) H := by
  intro k x hk
  obtain ⟨e, h1, rfl⟩ := xw_get' hk
  have hk' : k < σc.length := (List.getElem?_eq_some_iff.mp h1).1
  have h2 : (σp ++ σc.map (gE σp.length P6))[σp.length + k]? = some (gE σp.length P6 e) := by
    rw [List.getElem?_append_right (by omega), Nat.add_sub_cancel_left, List.getElem?_map, h1]
    rfl
  have h3 := hP _ _ (xw_get (cA := cA) (ad := ad) h2)
  rw [gE_comp] at h3
  rw [gad_lt (by omega)]
  exact h3
theorem gP_join {D : va_G} {cA : Nat → ClassId} {ad : Nat → Nat} {σp σc : XW} {P6 : Nat} {H : Heap} (hp : ∀ k e, σp[k]? = some e → va_at D vwCl (ad k, xe cA ad e) H) (hP : va_P D vwCl (xw cA (gad ad σp.length P6) σc) H) (hl : σc.length ≤ 1000) : va_P D vwCl (xw cA ad (σp ++ σc.map (gE σp.length P6))) H := by
  intro k x hk
  obtain ⟨e, h1, rfl⟩ := xw_get' hk
  by_cases hlt : k < σp.length
  · rw [List.getElem?_append_left hlt] at h1
    exact hp k e h1
  · rw [List.getElem?_append_right (by omega), List.getElem?_map] at h1
    obtain ⟨e', h2, rfl⟩ := Option.map_eq_some_iff.mp h1
    have h3 := hP _ _ (xw_get (cA := cA) (ad := gad ad σp.length P6) h2)
    rw [gE_comp]
    have hk2 := (List.getElem?_eq_some_iff.mp h2).1
    have e4 : gad ad σp.length P6 (k - σp.length) = ad k := by
      rw [gad_lt (by omega), show σp.length + (k - σp.length) = k by omega]
    rw [e4] at h3
    exact h3
def gIn (E : XEnv) (Lv cap : Nat) (y : MethodName) (cc : ByteArray) (nL : Nat) (args : List Value) (σ : XW) (K : XQ) : Prop :=
  ∃ (d capc P6 : Nat) (σp σc : XW) (argsc : List Value) (Qc : XQ), d < Lv ∧ GCall E d capc y cc nL argsc σc Qc ∧ σ = σp ++ σc.map (gE σp.length P6) ∧ args = argsc.map (xv (gMap σp.length P6)) ∧ (σp.length + capc ≤ cap ∧ σp.length < 100) ∧ ∀ (r : Option Value) (σ' : XW), σ'.length = capc → Qc r σ' → K r (σp ++ σ'.map (gE σp.length P6))
section GAFT
variable {p : Program} {E : XEnv} {e : Env} {R : Room} {s : State} {m : MethodId} {args : Array Value} {below : List Frame} {meth : Method} {c : Code} {H : Heap} {locs : List Loc} {cells : Nat} {Z : State → Prop}
variable {D : va_G} {cA : Nat → ClassId} {ad : Nat → Nat} {σp σc : XW} {P6 Lv : Nat}
theorem gcall_pre (hO : gOK Lv ad) (hw : gWd E D cA ad s (σp ++ σc.map (gE σp.length P6)) H locs) (hz : H.size = ad 0 + (σp.length + σc.length)) (hq : σp.length < 100) (hc : σc.length ≤ 100) : ∀ U : State, U.heap = H → s.WarmedH U.vm → gPre E D cA (gad ad σp.length P6) σc U := by
  intro U hU hW
  obtain ⟨w1, w2, w3, w4, w5⟩ := hw
  have e0 := gad_0 (P6 := P6) hO hq
  refine ⟨va_K.moved hW.alike w1, by rw [hU]; exact gP_split w2 (by omega), ?_, ?_, ⟨va_AO.moved hW.alike w5.1, va_AO.moved hW.alike w5.2⟩⟩
  · rw [hU, hz, e0]
    omega
  · refine xG.adc (xG.next (ad' := ad) w4 hW (fun a ha hna => by rw [hU]; exact w3.2.1 a ha hna) (fun q hq' => ?_) (fun _ _ => rfl)) (fun k h1 h2 => ?_)
    · have h3 : gad ad σp.length P6 0 ≤ q := hq'
      show ad 0 ≤ q
      omega
    · show ad (gMap σp.length P6 k) = ad k
      rw [gMap_st h1 (by omega)]
theorem gcall_after {pc mc capc : Nat} {ls : Array Slot} {rest st0 : List Value} {a : Array Value} {Qc : XQ} (hrun : va_Run p E.1 e R s m args below meth c H locs cells (1000 * cells) mc (1000 * mc) (F0 m pc ls st0) rest (gPost D cA (gad ad σp.length P6) capc Qc a) (gA (gad ad σp.length P6)))
    (hO : gOK Lv ad) (hw : gWd E D cA ad s (σp ++ σc.map (gE σp.length P6)) H locs) (hq : σp.length < 100) (hcc : capc ≤ 100)
    (kk : ∀ (r : Option Value) (σ' : XW), σ'.length = capc → Qc r σ' → xok r → ∀ (H1 : Heap) (locs1 : List Loc), gWd E D cA ad s (σp ++ σ'.map (gE σp.length P6)) H1 locs1 → W p E.1 e R s m args below meth c H1 locs1 (cells + mc) (1000 * (cells + mc)) Z (F0 m (pc + 3) ls (r.toList ++ rest))) :
    W p E.1 e R s m args below meth c H locs cells (1000 * cells) Z (F0 m pc ls st0) := by
  intro T hT X
  obtain ⟨v, st₀, t, T', L, h0, X', hL, e1, e2, ⟨⟨r, σ', hv, ho, hq1, hlen, hP1⟩, hz, hk⟩, st⟩ := hrun T hT X
  cases hv
  rw [h0] at hz hk
  obtain ⟨w1, w2, w3, w4, w5⟩ := hw
  have e0 := gad_0 (P6 := P6) hO hq
  have hAA : ∀ z, gA (gad ad σp.length P6) z → gA ad z := fun z hz' => by
    have h3 : gad ad σp.length P6 0 ≤ z := hz'
    show ad 0 ≤ z
    omega
  have hS1 : va_S (gA ad) s.heap t.heap (locs ++ L) := ⟨Nat.le_trans w3.1 hz, fun z h1 h2 => by rw [hk z (Nat.lt_of_lt_of_le h1 w3.1) (fun y => h2 (hAA z y))]; exact w3.2.1 z h1 h2, fun z hz' => by
    rcases List.mem_append.mp hz' with h | h
    · exact w3.2.2 z h
    · exact hAA _ (hL z h)⟩
  have hW1 : va_P D vwCl (xw cA ad (σp ++ σ'.map (gE σp.length P6))) t.heap := by
    refine gP_join (fun k e3 hk3 => ?_) hP1 (by omega)
    have hkl := (List.getElem?_eq_some_iff.mp hk3).1
    have h2 : (σp ++ σc.map (gE σp.length P6))[k]? = some e3 := by
      rw [List.getElem?_append_left hkl]
      exact hk3
    have h3 := w2 k _ (xw_get (cA := cA) (ad := ad) h2)
    refine h3.kept (hk _ h3.lt (fun z => ?_))
    have h4 : gad ad σp.length P6 0 ≤ ad k := z
    have h5 := hO k (by omega)
    omega
  obtain ⟨t2, a1, b1⟩ := kk v σ' hlen hq1 ho T'.heap (locs ++ L) ⟨w1, by rw [e1]; exact hW1, by rw [e1]; exact hS1, w4, w5⟩ T' rfl (by rw [Nat.mul_add]; exact X')
  exact ⟨t2, st t2 a1, b1⟩
end GAFT
section GCALLS
variable {own : String} {cc : ByteArray} {nL : Nat} {rt : Option FieldType} {im : Bool} {cap mL pc : Nat}
def xo_callI (y : MethodName) (cc' : ByteArray) (nL' n cap nx : Nat) : XOp := fun E Lv Q X lv st σ => pN n [] st fun as st => pR st fun q st => match smal st with
  | true => gIn E Lv cap y cc' nL' (.ref q :: as) σ fun r σ' => X nx lv (xpush r st) σ'
  | false => False
def xo_callG (y : MethodName) (cc' : ByteArray) (nL' n ci cap nx : Nat) : XOp := fun E Lv Q X lv st σ => pN n [] st fun as st => pR st fun q st => hO σ q ci fun _ => match smal st with
  | true => gIn E Lv cap y cc' nL' (.ref q :: as) σ fun r σ' => X nx lv (xpush r st) σ'
  | false => False
theorem gs_callI {y : MethodName} {cc' : ByteArray} {nL' n index : Nat} (h1 : Cond.methodLink own index y ∈ gTs) (h2 : Cond.instanceMethod y ∈ gTs) (h4 : Cond.initialized y.cls ∈ gTs) (h5 : Cond.code y cc' nL' none ∈ gTs) (hi : y.name = "<init>") (hd : y.cls ≠ "java/lang/invoke/MethodHandle" ∧ y.cls ≠ "java/lang/invoke/VarHandle" ∧ (parseMethodDescriptor y.desc).map (fun d => d.parameters.length) = some n) (hnL : nL' ≤ 21) (hdg : decode cc pc = .ok (.invokespecial index, 3)) : GSnd own cc nL rt im cap mL pc (xo_callI y cc' nL' n cap (pc + 3)) := by
  intro E Lv n0 p e R s m args below meth c Z D cA ad Q X hLv hC hE hX lv st σ h
  obtain ⟨as, st, rfl, hlen, k1⟩ := pN_e h
  rw [List.append_nil] at k1
  obtain ⟨q, st, rfl, k2⟩ := pR_e k1
  cases hsm : smal st with
  | false => simp only [hsm] at k2
  | true =>
  simp only [hsm] at k2
  obtain ⟨d, capc, P6, σp, σc, argsc, Qc, g1, ⟨g0, g2⟩, g3, g4, ⟨g5, g7⟩, g6⟩ := k2
  subst g3
  obtain ⟨C1, C2, C3, ⟨C4, C5, C6⟩, C7, C8⟩ := hC
  intro H locs cells ls hl hn hc hw
  have hlen2 : (σp ++ σc.map (gE σp.length P6)).length = σp.length + σc.length := by rw [List.length_append, List.length_map]
  refine gSized (fun hs => ?_)
  have hz := gExact C7 C8 hn (by omega) hw hs
  rw [hlen2] at hz hn
  have hO' : gOK d (gad ad σp.length P6) := gad_OK C7 g1 C3.2.2 g7
  have hav : argsc.map (xv (gad ad σp.length P6)) = Value.ref (ad q) :: as.map (xv ad) := by
    rw [show xv (gad ad σp.length P6) = xv ad ∘ xv (gMap σp.length P6) from funext fun v => (xv_comp ad (gMap σp.length P6) v).symm, ← List.map_map, ← g4]
    rfl
  have hrm : (rmG d (capc - σc.length)).frames + 1 ≤ R.frames ∧ 8 + (nL' + 11) + (rmG d (capc - σc.length)).locals ≤ R.locals := by
    refine ⟨?_, ?_⟩
    · show d + 1 + 1 ≤ R.frames
      have := C3.1
      omega
    · show 8 + (nL' + 11) + 40 * (d + 1) ≤ R.locals
      have := C3.2.1
      omega
  have cw := cwI (R := R) (s := s) (args := args) (own := own) (index := index) (rm := rmG d (capc - σc.length)) (mc := capc - σc.length) (ms := 1000 * (capc - σc.length)) (ws := Cond.code y cc' nL' none :: gTs) n C1.2.2.2.2 (gTs_GoodIn (fun w hw => by
    rcases List.mem_cons.mp hw with rfl | hw
    · exact h5
    · exact hw)) rfl rfl rfl (C1.2.2.2.2 _ h4) (C1.2.2.2.2 _ h1) (C1.2.2.2.2 _ h2) hi hd hrm
  have hrun := va_runI (As := as.map (xv ad)) (b := ad q) (rest := st.map (xv ad)) (e := e) (below := below) (meth := meth) (locs := locs) (cells := cells) (slots := 1000 * cells) (g := F0 m pc ls ((as.reverse ++ Value.ref q :: st).map (xv ad))) C1 (g2 D cA _ hO') cw ⟨gpre_blind _ _ _ _ _ _, fun U hU hW => ⟨by rw [hav], gcall_pre C7 hw hz g7 (by omega) U hU hW⟩⟩ rfl (by rw [List.length_map]; exact hlen) hl.1 (by simp [xv]) (lv_room (smal_e hsm)) hdg ⟨by omega, by omega⟩
  refine gcall_after (capc := capc) hrun C7 hw g7 (by omega) (fun r σ' f1 f2 f3 H1 locs1 hw1 => ?_)
  rw [← xpush_e ad f3]
  exact hX _ _ _ _ (g6 r σ' f1 f2) H1 locs1 (cells + (capc - σc.length)) ls hl (by rw [List.length_append, List.length_map]; omega) (by rw [List.length_append, List.length_map]; omega) hw1
theorem gs_callN {y : MethodName} {cc' : ByteArray} {nL' n index : Nat} {host : String} (h1 : (own, index, y, host) ∈ xNest) (h2 : Cond.instanceMethod y ∈ gTs) (h4 : Cond.initialized y.cls ∈ gTs) (h5 : Cond.code y cc' nL' none ∈ gTs) (hi : y.name = "<init>") (hd : y.cls ≠ "java/lang/invoke/MethodHandle" ∧ y.cls ≠ "java/lang/invoke/VarHandle" ∧ (parseMethodDescriptor y.desc).map (fun d => d.parameters.length) = some n) (hnL : nL' ≤ 21) (hdg : decode cc pc = .ok (.invokespecial index, 3)) : GSnd own cc nL rt im cap mL pc (xo_callI y cc' nL' n cap (pc + 3)) := by
  intro E Lv n0 p e R s m args below meth c Z D cA ad Q X hLv hC hE hX lv st σ h
  obtain ⟨as, st, rfl, hlen, k1⟩ := pN_e h
  rw [List.append_nil] at k1
  obtain ⟨q, st, rfl, k2⟩ := pR_e k1
  cases hsm : smal st with
  | false => simp only [hsm] at k2
  | true =>
  simp only [hsm] at k2
  obtain ⟨d, capc, P6, σp, σc, argsc, Qc, g1, ⟨g0, g2⟩, g3, g4, ⟨g5, g7⟩, g6⟩ := k2
  subst g3
  obtain ⟨C1, C2, C3, ⟨C4, C5, C6⟩, C7, C8⟩ := hC
  intro H locs cells ls hl hn hc hw
  have hlen2 : (σp ++ σc.map (gE σp.length P6)).length = σp.length + σc.length := by rw [List.length_append, List.length_map]
  refine gSized (fun hs => ?_)
  have hz := gExact C7 C8 hn (by omega) hw hs
  rw [hlen2] at hz hn
  have hO' : gOK d (gad ad σp.length P6) := gad_OK C7 g1 C3.2.2 g7
  have hav : argsc.map (xv (gad ad σp.length P6)) = Value.ref (ad q) :: as.map (xv ad) := by
    rw [show xv (gad ad σp.length P6) = xv ad ∘ xv (gMap σp.length P6) from funext fun v => (xv_comp ad (gMap σp.length P6) v).symm, ← List.map_map, ← g4]
    rfl
  have hrm : (rmG d (capc - σc.length)).frames + 1 ≤ R.frames ∧ 8 + (nL' + 11) + (rmG d (capc - σc.length)).locals ≤ R.locals := by
    refine ⟨?_, ?_⟩
    · show d + 1 + 1 ≤ R.frames
      have := C3.1
      omega
    · show 8 + (nL' + 11) + 40 * (d + 1) ≤ R.locals
      have := C3.2.1
      omega
  have cw := va_cnB (R := R) (s := s) (args := args) (own := own) (index := index) (host := host) (rm := rmG d (capc - σc.length)) (mc := capc - σc.length) (ms := 1000 * (capc - σc.length)) (ws := Cond.code y cc' nL' none :: gTs) n C1.2.2.2.2 (gTs_GoodIn (fun w hw => by
    rcases List.mem_cons.mp hw with rfl | hw
    · exact h5
    · exact hw)) rfl rfl rfl (hw.2.2.2.1.1 _ h1) (C1.2.2.2.2 _ h4) hd hrm
  have hrun := va_runIN (As := as.map (xv ad)) (b := ad q) (rest := st.map (xv ad)) (e := e) (below := below) (meth := meth) (locs := locs) (cells := cells) (slots := 1000 * cells) (g := F0 m pc ls ((as.reverse ++ Value.ref q :: st).map (xv ad))) C1 (g2 D cA _ hO') ⟨cw, hi, C1.2.2.2.2 _ h2⟩ ⟨gpre_blind _ _ _ _ _ _, fun U hU hW => ⟨by rw [hav], gcall_pre C7 hw hz g7 (by omega) U hU hW⟩⟩ rfl (by rw [List.length_map]; exact hlen) hl.1 (by simp [xv]) (lv_room (smal_e hsm)) hdg ⟨by omega, by omega⟩
  refine gcall_after (capc := capc) hrun C7 hw g7 (by omega) (fun r σ' f1 f2 f3 H1 locs1 hw1 => ?_)
  rw [← xpush_e ad f3]
  exact hX _ _ _ _ (g6 r σ' f1 f2) H1 locs1 (cells + (capc - σc.length)) ls hl (by rw [List.length_append, List.length_map]; omega) (by rw [List.length_append, List.length_map]; omega) hw1
theorem gs_callG {y : MethodName} {cc' : ByteArray} {nL' n ci index N : Nat} {C : String} {T : u_T} (hcl : vwCl[ci]? = some (C, T, N)) (h1 : Cond.methodLink own index y ∈ gTs) (h2 : Cond.instanceMethod y ∈ gTs) (h3 : Cond.selects C y y ∈ gTs) (h4 : Cond.initialized C ∈ gTs) (h5 : Cond.code y cc' nL' none ∈ gTs) (hd : y.cls = C ∧ y.cls ≠ "java/lang/invoke/MethodHandle" ∧ y.cls ≠ "java/lang/invoke/VarHandle" ∧ (parseMethodDescriptor y.desc).map (fun d => d.parameters.length) = some n) (hnL : nL' ≤ 21) (hdg : decode cc pc = .ok (.invokevirtual index, 3)) : GSnd own cc nL rt im cap mL pc (xo_callG y cc' nL' n ci cap (pc + 3)) := by
  intro E Lv n0 p e R s m args below meth c Z D cA ad Q X hLv hC hE hX lv st σ h
  obtain ⟨as, st, rfl, hlen, k1⟩ := pN_e h
  rw [List.append_nil] at k1
  obtain ⟨q, st, rfl, k3⟩ := pR_e k1
  obtain ⟨fs, he, k2⟩ := hO_e k3
  cases hsm : smal st with
  | false => simp only [hsm] at k2
  | true =>
  simp only [hsm] at k2
  obtain ⟨d, capc, P6, σp, σc, argsc, Qc, g1, ⟨g0, g2⟩, g3, g4, ⟨g5, g7⟩, g6⟩ := k2
  subst g3
  obtain ⟨C1, C2, C3, ⟨C4, C5, C6⟩, C7, C8⟩ := hC
  intro H locs cells ls hl hn hc hw
  have hlen2 : (σp ++ σc.map (gE σp.length P6)).length = σp.length + σc.length := by rw [List.length_append, List.length_map]
  refine gSized (fun hs => ?_)
  have hz := gExact C7 C8 hn (by omega) hw hs
  rw [hlen2] at hz hn
  have hO' : gOK d (gad ad σp.length P6) := gad_OK C7 g1 C3.2.2 g7
  have hav : argsc.map (xv (gad ad σp.length P6)) = Value.ref (ad q) :: as.map (xv ad) := by
    rw [show xv (gad ad σp.length P6) = xv ad ∘ xv (gMap σp.length P6) from funext fun v => (xv_comp ad (gMap σp.length P6) v).symm, ← List.map_map, ← g4]
    rfl
  have hrm : (rmG d (capc - σc.length)).frames + 1 ≤ R.frames ∧ 8 + (nL' + 11) + (rmG d (capc - σc.length)).locals ≤ R.locals := by
    refine ⟨?_, ?_⟩
    · show d + 1 + 1 ≤ R.frames
      have := C3.1
      omega
    · show 8 + (nL' + 11) + 40 * (d + 1) ≤ R.locals
      have := C3.2.1
      omega
  have cw : CallW R s args own C index y cc' nL' none (Cond.code y cc' nL' none :: gTs) (rmG d (capc - σc.length)) (capc - σc.length) (1000 * (capc - σc.length)) n := cwV (R := R) (own := own) (index := index) (C := C) (rm := rmG d (capc - σc.length)) (mc := capc - σc.length) (ms := 1000 * (capc - σc.length)) (ws := Cond.code y cc' nL' none :: gTs) n C1.2.2.2.2 (gTs_GoodIn (fun w hw => by
      unfold wsV at hw
      simp only [List.cons_append, List.nil_append, List.mem_cons] at hw
      rcases hw with rfl | rfl | rfl | rfl | rfl | hw
      · exact h1
      · exact h2
      · exact h3
      · exact h4
      · exact h5
      · exact hw)) rfl rfl rfl hd hrm
  have hrun := va_runV (As := as.map (xv ad)) (b := ad q) (rest := st.map (xv ad)) (e := e) (below := below) (meth := meth) (locs := locs) (cells := cells) (slots := 1000 * cells) (g := F0 m pc ls ((as.reverse ++ Value.ref q :: st).map (xv ad))) C1 (g2 D cA _ hO') cw ⟨gpre_blind _ _ _ _ _ _, va_recv hw.1 hw.2.1 hcl (xw_get he), fun U hU hW => ⟨by rw [hav], gcall_pre C7 hw hz g7 (by omega) U hU hW⟩⟩ rfl (by rw [List.length_map]; exact hlen) hl.1 (by simp [xv]) (lv_room (smal_e hsm)) hdg ⟨by omega, by omega⟩
  refine gcall_after (capc := capc) hrun C7 hw g7 (by omega) (fun r σ' f1 f2 f3 H1 locs1 hw1 => ?_)
  rw [← xpush_e ad f3]
  exact hX _ _ _ _ (g6 r σ' f1 f2) H1 locs1 (cells + (capc - σc.length)) ls hl (by rw [List.length_append, List.length_map]; omega) (by rw [List.length_append, List.length_map]; omega) hw1
end GCALLS
