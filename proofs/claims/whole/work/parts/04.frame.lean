/-! THE METHODS OVER WORLDS OF PLACES: a world is a list of cells, a reference its place in it (1000000 and on: what is static); XCall: a method's contract; XAt: the method at a pc; a program of predicate transformers (XOp) that the machine keeps (XSnd) -/
abbrev XE : Type := (Nat × vp_A) ⊕ (Nat × List Value)
abbrev XW : Type := List XE
abbrev XL : Type := List (Nat × Value)
abbrev XQ : Type := Option Value → XW → Prop
abbrev XK : Type := Nat → XL → List Value → XW → Prop
/-- the launch; the one more table that is only read (its length, what it holds): place 1000005 -/
abbrev XEnv : Type := Launch × Nat × (Nat → Int32)
abbrev XOp : Type := XEnv → Nat → XQ → XK → XL → List Value → XW → Prop
-- ===== values, cells, worlds =====
def xv (ad : Nat → Nat) (v : Value) : Value := match v with
  | .ref k => .ref (ad k)
  | w => w
theorem xv_cat (ad : Nat → Nat) (v : Value) : (xv ad v).category = v.category := by cases v <;> rfl
def xl (ad : Nat → Nat) (lv : XL) : XL := lv.map fun q => (q.1, xv ad q.2)
def xa (ad : Nat → Nat) (x : vp_A) : vp_A := match x with
  | (n, .inr (.inr (.inr (.inr g)))) => (n, .inr (.inr (.inr (.inr fun i => (g i).map ad))))
  | y => y
def xe (cA : Nat → ClassId) (ad : Nat → Nat) (e : XE) : va_E := match e with
  | .inl (t, x) => .inl (cA t, xa ad x)
  | .inr (c, fs) => .inr (c, fs.map (xv ad))
def xw (cA : Nat → ClassId) (ad : Nat → Nat) (σ : XW) : va_W := σ.mapIdx fun i e => (ad i, xe cA ad e)
theorem xw_get {cA : Nat → ClassId} {ad : Nat → Nat} {σ : XW} {k : Nat} {e : XE} (h : σ[k]? = some e) : (xw cA ad σ)[k]? = some (ad k, xe cA ad e) := by simp [xw, h]
theorem xw_get' {cA : Nat → ClassId} {ad : Nat → Nat} {σ : XW} {k : Nat} {q : Nat × va_E} (h : (xw cA ad σ)[k]? = some q) : ∃ e, σ[k]? = some e ∧ q = (ad k, xe cA ad e) := by
  simp only [xw, List.getElem?_mapIdx, Option.map_eq_some_iff] at h
  obtain ⟨e, h1, h2⟩ := h
  exact ⟨e, h1, h2.symm⟩
theorem xw_set (cA : Nat → ClassId) (ad : Nat → Nat) (σ : XW) (k : Nat) (e : XE) : (xw cA ad σ).set k (ad k, xe cA ad e) = xw cA ad (σ.set k e) := by
  apply List.ext_getElem?
  intro i
  by_cases hik : k = i
  · subst hik
    by_cases hk : k < σ.length
    · simp [xw, List.getElem?_set, hk]
    · simp [xw, List.getElem?_set, hk]
  · simp [xw, List.getElem?_set, hik]
def xD (A : Nat → Prop) (ad : Nat → Nat) (n : Nat) : Prop := (∀ i j, i < n → j < n → ad i = ad j → i = j) ∧ ∀ i, i < n → A (ad i)
theorem xD_to {A : Nat → Prop} {ad : Nat → Nat} {cA : Nat → ClassId} {σ : XW} (h : xD A ad σ.length) : va_D A (xw cA ad σ) := by
  refine ⟨fun i j p q hi hj e => ?_, fun k q hk => ?_⟩
  · obtain ⟨e1, a1, rfl⟩ := xw_get' hi
    obtain ⟨e2, a2, rfl⟩ := xw_get' hj
    exact h.1 i j (List.getElem?_eq_some_iff.mp a1).1 (List.getElem?_eq_some_iff.mp a2).1 e
  · obtain ⟨e1, a1, rfl⟩ := xw_get' hk
    exact h.2 k (List.getElem?_eq_some_iff.mp a1).1
def xA (ad : Nat → Nat) (n : Nat) : Nat → Prop := fun q => ∃ k, k < n ∧ q = ad k
def xT (cA : Nat → ClassId) : List (ClassId × FieldType) := [(cA 0, .int), (cA 1, .boolean), (cA 2, .object "WhoBuiltSails$Text"), (cA 3, .object "WhoBuiltSails$Sheet")]
-- ===== what is static =====
def xNest : List (String × Nat × MethodName × String) := [(RX4, 24, yX0_init, RX4), (RX4, 50, yX1_init, RX4), (RX2, 75, yX4_isUnder, RX4), (RX2, 56, yX4_within, RX4), (RX2, 82, yX4_isPart, RX4), (RX3, 28, yX4_within, RX4), (RX0, 87, yX4_within, RX4), (RX1, 31, yX4_within, RX4)]
def xstL (j : Nat) : List Int32 := match j with
  | 0 => [999, 99, 100, 99, 9, 99]
  | 1 => [-1, 0, 0, 1, 2, 0]
  | _ => [1, 6, 36, 216]
def xst (j i : Nat) : Int32 := (xstL j).getD i 0
def xTxt : String := "skill sound number day water part makes mends pumps or and not "
def xByt : List Int32 := [115, 107, 105, 108, 108, 32, 115, 111, 117, 110, 100, 32, 110, 117, 109, 98, 101, 114, 32, 100, 97, 121, 32, 119, 97, 116, 101, 114, 32, 112, 97, 114, 116, 32, 109, 97, 107, 101, 115, 32, 109, 101, 110, 100, 115, 32, 112, 117, 109, 112, 115, 32, 111, 114, 32, 97, 110, 100, 32, 110, 111, 116, 32]
def xG (E : XEnv) (ad : Nat → Nat) (A : Nat → Prop) (U : State) : Prop :=
  (∀ q ∈ xNest, va_Nw (.methodLinkNest q.1 q.2.1 q.2.2.1 q.2.2.2) U) ∧
  (va_Z RX4 "MOST_OF" "[I" (.ref (ad 1000000)) A U U.heap ∧ va_T .int (ad 1000000) 6 (fun j => .int (xst 0 j)) A U U.heap) ∧
  (va_Z RX4 "ABOVE" "[I" (.ref (ad 1000001)) A U U.heap ∧ va_T .int (ad 1000001) 6 (fun j => .int (xst 1 j)) A U U.heap) ∧
  (va_Z RX4 "WAYS" "[I" (.ref (ad 1000002)) A U U.heap ∧ va_T .int (ad 1000002) 4 (fun j => .int (xst 2 j)) A U U.heap) ∧
  vk_R RX0 107 xTxt (ad 1000003) U ∧ vk_S 1 [63] [xByt] (fun _ => ad 1000003) (fun _ => ad 1000004) A U U.heap ∧
  va_Z RJ0 "COMPACT_STRINGS" "Z" (.int 1) A U U.heap ∧ va_Zq RJ3 "SIOOBE_FORMATTER" "Ljava/util/function/BiFunction;" A U U.heap ∧
  va_T .int (ad 1000005) E.2.1 (fun j => .int (E.2.2 j)) A U U.heap
theorem xG.next {E : XEnv} {ad ad' : Nat → Nat} {A B : Nat → Prop} {s U : State} (h : xG E ad A s) (hW : s.WarmedH U.vm) (hq : ∀ a : Nat, a < s.heap.size → ¬ A a → U.heap[a]? = s.heap[a]?) (hAB : ∀ q, B q → A q) (had : ∀ k, 1000000 ≤ k → ad' k = ad k) : xG E ad' B U := by
  obtain ⟨h1, ⟨h2, h3⟩, ⟨h4, h5⟩, ⟨h6, h7⟩, h8, h9, h10, h11, h12⟩ := h
  have hv := hW.alike
  refine ⟨fun q hq1 => va_Nw.warmM hW (h1 q hq1), ?_⟩
  rw [had 1000000 (Nat.le_of_ble_eq_true rfl), had 1000001 (Nat.le_of_ble_eq_true rfl), had 1000002 (Nat.le_of_ble_eq_true rfl), had 1000003 (Nat.le_of_ble_eq_true rfl), had 1000004 (Nat.le_of_ble_eq_true rfl), had 1000005 (Nat.le_of_ble_eq_true rfl)]
  refine ⟨⟨((h2.kept hq).moved hv).narrow hAB, ((h3.kept hq).moved hv).narrow hAB⟩, ⟨((h4.kept hq).moved hv).narrow hAB, ((h5.kept hq).moved hv).narrow hAB⟩, ⟨((h6.kept hq).moved hv).narrow hAB, ((h7.kept hq).moved hv).narrow hAB⟩, vk_R.warm hW h8, ((h9.kept hq).moved hv).narrow hAB, ((h10.kept hq).moved hv).narrow hAB, ?_⟩
  exact ⟨((h11.kept hq).moved hv).narrow hAB, ((h12.kept hq).moved hv).narrow hAB⟩
-- ===== a contract =====
def rmL (d : Nat) : Room := { frames := d + 1, cells := 0, slots := 0, locals := 40 * (d + 1) }
def xok (r : Option Value) : Prop := match r with
  | some (.ref _) => False
  | _ => True
def xPre (E : XEnv) (D : va_G) (cA : Nat → ClassId) (ad : Nat → Nat) (A : Nat → Prop) (σ : XW) (U : State) : Prop := va_K D vwCl (xT cA) U ∧ va_P D vwCl (xw cA ad σ) U.heap ∧ xD A ad σ.length ∧ xG E ad A U
def xPost (D : va_G) (cA : Nat → ClassId) (ad : Nat → Nat) (A : Nat → Prop) (n : Nat) (Q : XQ) : Array Value → State → Outcome → State → Prop := fun _ st oc t => (∃ (r : Option Value) (σ' : XW), oc = .returned r ∧ xok r ∧ Q r σ' ∧ σ'.length = n ∧ va_P D vwCl (xw cA ad σ') t.heap) ∧ va_F A st t
def XCall (E : XEnv) (d : Nat) (y : MethodName) (cc : ByteArray) (nL : Nat) (rt : Option FieldType) (args : List Value) (σ : XW) (Q : XQ) : Prop :=
  ∀ (D : va_G) (cA : Nat → ClassId) (ad : Nat → Nat) (A : Nat → Prop), Met E.1 y (Cond.code y cc nL rt :: gTs) (rmL d) (va_Pc (args.map (xv ad)) (xPre E D cA ad A σ)) (xPost D cA ad A σ.length Q) 0 0 A
-- ===== a method at a pc =====
def xWd (E : XEnv) (D : va_G) (cA : Nat → ClassId) (ad : Nat → Nat) (A : Nat → Prop) (s : State) (n0 : Nat) (σ : XW) (H : Heap) (locs : List Loc) : Prop := σ.length = n0 ∧ va_K D vwCl (xT cA) s ∧ va_P D vwCl (xw cA ad σ) H ∧ xD A ad n0 ∧ va_S A s.heap H locs ∧ xG E ad A s
def xRoom (Lv : Nat) (R : Room) (cells slots : Nat) : Prop := Lv + 1 ≤ R.frames ∧ 40 * (Lv + 1) ≤ R.locals ∧ cells ≤ R.cells ∧ slots ≤ R.slots
def xnar (rt : Option FieldType) (v : Int32) : Prop := match rt with
  | some ty => narrow ty (.int v) = .int v
  | none => False
def xRet (p : Program) (l : Launch) (e : Env) (R : Room) (s : State) (m : MethodId) (args : Array Value) (below : List Frame) (meth : Method) (c : Code) (H : Heap) (locs : List Loc) (cells slots : Nat) (Z : State → Prop) (cc : ByteArray) (rt : Option FieldType) (r : Option Value) : Prop := match r with
  | some (.int v) => ∀ (pc : Nat) (ls : Array Slot), decode cc pc = .ok (.ireturn, 1) → xnar rt v → W p l e R s m args below meth c H locs cells slots Z (F0 m pc ls [.int v])
  | some (.long v) => ∀ (pc : Nat) (ls : Array Slot), decode cc pc = .ok (.lreturn, 1) → rt = some .long → W p l e R s m args below meth c H locs cells slots Z (F0 m pc ls [.long v])
  | none => ∀ (pc : Nat) (ls : Array Slot), decode cc pc = .ok (.return_, 1) → rt = none → W p l e R s m args below meth c H locs cells slots Z (F0 m pc ls [])
  | _ => True
def XAt (E : XEnv) (own : String) (cc : ByteArray) (nL : Nat) (rt : Option FieldType) (Lv n0 : Nat) (Q : XQ) (pc : Nat) (lv : XL) (st : List Value) (σ : XW) : Prop :=
  ∀ (p : Program) (e : Env) (R : Room) (s : State) (m : MethodId) (args : Array Value) (below : List Frame) (meth : Method) (c : Code) (H : Heap) (locs : List Loc) (cells slots : Nat) (Z : State → Prop) (D : va_G) (cA : Nat → ClassId) (ad : Nat → Nat) (A : Nat → Prop) (ls : Array Slot),
    CallFix p m c cc nL s args gTs own → xRoom Lv R cells slots → lv_has ls nL (xl ad lv) → xWd E D cA ad A s n0 σ H locs →
    (∀ (r : Option Value) (σ' : XW) (H' : Heap) (locs' : List Loc), Q r σ' → xWd E D cA ad A s n0 σ' H' locs' → xRet p E.1 e R s m args below meth c H' locs' cells slots Z cc rt r) →
    W p E.1 e R s m args below meth c H locs cells slots Z (F0 m pc ls (st.map (xv ad)))
theorem XAt.sub {E : XEnv} {own : String} {cc : ByteArray} {nL : Nat} {rt : Option FieldType} {Lv n0 : Nat} {Q : XQ} {pc : Nat} {lv lv' : XL} {st : List Value} {σ : XW} (k : XAt E own cc nL rt Lv n0 Q pc lv' st σ) (h : ∀ q ∈ lv', q ∈ lv) : XAt E own cc nL rt Lv n0 Q pc lv st σ := by
  intro p e R s m args below meth c H locs cells slots Z D cA ad A ls hC hR hl hw hE
  refine k p e R s m args below meth c H locs cells slots Z D cA ad A ls hC hR ⟨hl.1, hl.2.1, fun q hq => ?_⟩ hw hE
  obtain ⟨q0, h1, rfl⟩ := List.mem_map.mp hq
  exact hl.2.2 _ (List.mem_map.mpr ⟨q0, h q0 h1, rfl⟩)
theorem XAt.mono {E : XEnv} {own : String} {cc : ByteArray} {nL : Nat} {rt : Option FieldType} {Lv n0 : Nat} {Q Q' : XQ} {pc : Nat} {lv : XL} {st : List Value} {σ : XW} (k : XAt E own cc nL rt Lv n0 Q pc lv st σ) (h : ∀ r σ', σ'.length = n0 → Q r σ' → Q' r σ') : XAt E own cc nL rt Lv n0 Q' pc lv st σ := by
  intro p e R s m args below meth c H locs cells slots Z D cA ad A ls hC hR hl hw hE
  exact k p e R s m args below meth c H locs cells slots Z D cA ad A ls hC hR hl hw (fun r σ' H' locs' hq hw' => hE r σ' H' locs' (h r σ' hw'.1 hq) hw')
theorem XCall.mono {E : XEnv} {d : Nat} {y : MethodName} {cc : ByteArray} {nL : Nat} {rt : Option FieldType} {args : List Value} {σ : XW} {Q Q' : XQ} (k : XCall E d y cc nL rt args σ Q) (h : ∀ r σ', σ'.length = σ.length → Q r σ' → Q' r σ') : XCall E d y cc nL rt args σ Q' := by
  intro D cA ad A p e ha hc hk s m a below hf happ hP hT
  obtain ⟨t, o, h1, h2, h3, h4⟩ := k D cA ad A p e ha hc hk s m a below hf happ hP hT
  obtain ⟨⟨⟨r, σ', q1, q2, q3, q4, q5⟩, q6⟩, h5⟩ := h4
  exact ⟨t, o, h1, h2, h3, ⟨⟨r, σ', q1, q2, h r σ' q4 q3, q4, q5⟩, q6⟩, h5⟩
theorem lg_sl_map (ad : Nat → Nat) : ∀ vs : List Value, (lg_sl (vs.map (xv ad))).length = (lg_sl vs).length
  | [] => rfl
  | v :: vs => by
    have ih := lg_sl_map ad vs
    have e1 : ∀ (w : Value) (ws : List Value), lg_sl (w :: ws) = (if w.category = 2 then [.val w, .second] else [.val w]) ++ lg_sl ws := fun w ws => by simp [lg_sl]
    rw [List.map_cons, e1, e1, List.length_append, List.length_append, ih, xv_cat]
    split <;> rfl
theorem xl_args (ad : Nat → Nat) : ∀ (vs : List Value) (i : Nat), lv_args i (vs.map (xv ad)) = xl ad (lv_args i vs)
  | [], i => rfl
  | v :: vs, i => by
    show (i, xv ad v) :: lv_args (if (xv ad v).category = 2 then i + 2 else i + 1) (vs.map (xv ad)) = _
    rw [xl_args ad vs, xv_cat]
    rfl
theorem XCall.of {E : XEnv} {d : Nat} {y : MethodName} {cc : ByteArray} {nL : Nat} {rt : Option FieldType} {args : List Value} {σ : XW} {Q : XQ} (hy : plainName y.cls = true) (hn : (lg_sl args).length ≤ nL) (h : XAt E y.cls cc nL rt d σ.length Q 0 (lv_args 0 args) [] σ) : XCall E d y cc nL rt args σ Q := by
  intro D cA ad A
  refine Met.ofW (cc := cc) (maxL := nL) (ret := rt) hy rfl ?_
  intro p e s m args' below meth c s₁ B hml hv
  obtain ⟨rfl, hK, hP, hD, hG⟩ := hv
  have hx := B.exec
  have hb := B.bytes
  have hr := B.returns
  have hts := atoms_spec (ws := Cond.code y cc nL rt :: gTs) B.pre
  have hown : s.vm.findClass y.cls = some m.cls := findClass_of_methodNamed B.named
  have hlocks := B.notSynchronized
  have hl := lv_entry (args.map (xv ad)) (n := nL) (by rw [lg_sl_map]; exact hn)
  rw [lg_entry_eq]
  rw [xl_args] at hl
  generalize (lg_sl (args.map (xv ad)) ++ List.replicate (nL - (lg_sl (args.map (xv ad))).length) Slot.unset).toArray = ls at hl ⊢
  refine h p e _ s m _ below meth c s.heap [] 0 0 _ D cA ad A ls ⟨hx, hb, hml, hown, fun w hw => hts w (List.mem_cons_of_mem _ hw)⟩ ⟨Nat.le_refl _, Nat.le_refl _, Nat.zero_le _, Nat.zero_le _⟩ hl ⟨rfl, hK, hP, hD, va_S.rf, hG⟩ ?_
  intro r σ' H' locs' hq hw
  obtain ⟨w1, w2, w3, w4, w5, w6⟩ := hw
  have fin : ∀ t : State, t.heap = H' → xok r → xPost D cA ad A σ.length Q (args.map (xv ad)).toArray s (.returned r) t := fun t ht ho => ⟨⟨r, σ', rfl, ho, hq, w1, by rw [ht]; exact w3⟩, w5.F ht⟩
  match r, fin with
  | some (.int v), fin =>
    intro pc ls' hd hv
    cases hrt : rt with
    | none => rw [hrt] at hv; exact hv.elim
    | some ty =>
      rw [hrt] at hv hr
      exact W.zret hx hb hr hv (fun t ht _ => fin t ht trivial) w5.2.2 hd
  | some (.long v), fin =>
    intro pc ls' hd hv
    rw [hv] at hr
    exact W.lret hx hb hr (fun t ht _ => fin t ht trivial) w5.2.2 hd
  | none, fin =>
    intro pc ls' hd hv
    rw [hv] at hr
    exact W.vret hx hb hr (fun t ht _ => fin t ht trivial) w5.2.2 hd
  | some (.float v), _ => exact trivial
  | some (.double v), _ => exact trivial
  | some .null, _ => exact trivial
  | some (.ref v), _ => exact trivial
  | some (.retAddr v), _ => exact trivial
