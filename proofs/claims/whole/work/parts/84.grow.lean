-- ===== worlds that grow =====
/-- the place k of the growing world is the k-th cell behind the first -/
def gOK (Lv : Nat) (ad : Nat → Nat) : Prop := ∀ k, k < 100 * (Lv + 1) → ad k = ad 0 + k
def gA (ad : Nat → Nat) : Nat → Prop := fun q => ad 0 ≤ q
def gAO (U : State) : Prop := va_AO "WhoBuiltSails$Text" U ∧ va_AO "WhoBuiltSails$Sheet" U
def gWd (E : XEnv) (D : va_G) (cA : Nat → ClassId) (ad : Nat → Nat) (s : State) (σ : XW) (H : Heap) (locs : List Loc) : Prop := va_K D vwCl (xT cA) s ∧ va_P D vwCl (xw cA ad σ) H ∧ va_S (gA ad) s.heap H locs ∧ xG E ad (gA ad) s ∧ gAO s
theorem xw_len (cA : Nat → ClassId) (ad : Nat → Nat) (σ : XW) : (xw cA ad σ).length = σ.length := by simp [xw]
theorem xw_app (cA : Nat → ClassId) (ad : Nat → Nat) (σ : XW) (e : XE) : xw cA ad (σ ++ [e]) = xw cA ad σ ++ [(ad σ.length, xe cA ad e)] := by
  unfold xw
  rw [List.mapIdx_append]
  simp
theorem gD {Lv n : Nat} {ad : Nat → Nat} (h : gOK Lv ad) (hn : n ≤ 100) : xD (gA ad) ad n := ⟨fun i j hi hj e => by rw [h i (by omega), h j (by omega)] at e; omega, fun i hi => by show ad 0 ≤ ad i; rw [h i (by omega)]; omega⟩
theorem gSized {p : Program} {l : Launch} {e : Env} {R : Room} {s : State} {m : MethodId} {args : Array Value} {below : List Frame} {meth : Method} {c : Code} {H : Heap} {locs : List Loc} {cells slots : Nat} {Q : State → Prop} {g : JFrame} (k : H.size ≤ s.heap.size + cells → W p l e R s m args below meth c H locs cells slots Q g) : W p l e R s m args below meth c H locs cells slots Q g := fun T hT X => k (by rw [← hT]; exact X.heapSize) T hT X
theorem gExact {E : XEnv} {Lv n0 cells : Nat} {D : va_G} {cA : Nat → ClassId} {ad : Nat → Nat} {s : State} {σ : XW} {H : Heap} {locs : List Loc} (hO : gOK Lv ad) (h0 : s.heap.size = ad 0 + n0) (hn : cells + n0 = σ.length) (hc : σ.length ≤ 100) (hw : gWd E D cA ad s σ H locs) (hs : H.size ≤ s.heap.size + cells) : H.size = ad 0 + σ.length := by
  obtain ⟨w1, w2, w3, w4, w5⟩ := hw
  have lo : ad 0 + σ.length ≤ H.size := by
    rcases Nat.eq_zero_or_pos σ.length with z | z
    · have := w3.1
      omega
    · have hk : σ.length - 1 < σ.length := by omega
      have t : ad (σ.length - 1) < H.size := (w2 (σ.length - 1) _ (xw_get (cA := cA) (ad := ad) (List.getElem?_eq_getElem hk))).lt
      have e := hO (σ.length - 1) (by omega)
      omega
  omega
theorem gNew {Lv : Nat} {D : va_G} {cA : Nat → ClassId} {ad : Nat → Nat} {σ : XW} {q : Nat} {x : va_E} {H1 : Heap} (hO : gOK Lv ad) (hc : σ.length < 100) (hP : va_P D vwCl (xw cA ad σ ++ [(q, x)]) H1) (hD : va_D (gA ad) (xw cA ad σ ++ [(q, x)])) (hs : H1.size ≤ ad 0 + σ.length + 1) : q = ad σ.length := by
  have g : (xw cA ad σ ++ [(q, x)])[σ.length]? = some (q, x) := by rw [List.getElem?_append_right (by rw [xw_len]; omega), xw_len, Nat.sub_self]; rfl
  have a1 : q < H1.size := (hP _ _ g).lt
  have a2 : ad 0 ≤ q := hD.2 _ _ g
  have a3 := hO σ.length (by omega)
  by_cases hq : q = ad 0 + σ.length
  · rw [a3]; exact hq
  · exfalso
    have hk : q - ad 0 < σ.length := by omega
    have e0 := hO (q - ad 0) (by omega)
    have g0 : (xw cA ad σ ++ [(q, x)])[q - ad 0]? = some (ad (q - ad 0), xe cA ad (σ[q - ad 0]'hk)) := by
      rw [List.getElem?_append_left (by rw [xw_len]; exact hk)]
      exact xw_get (List.getElem?_eq_getElem hk)
    have := hD.1 _ _ _ _ g0 g (by show ad (q - ad 0) = q; omega)
    omega
theorem gWd.D {E : XEnv} {Lv : Nat} {D : va_G} {cA : Nat → ClassId} {ad : Nat → Nat} {s : State} {σ : XW} {H : Heap} {locs : List Loc} (_ : gWd E D cA ad s σ H locs) (hO : gOK Lv ad) (hc : σ.length ≤ 100) : va_D (gA ad) (xw cA ad σ) := xD_to (gD hO hc)
theorem gWd.set {E : XEnv} {D : va_G} {cA : Nat → ClassId} {ad : Nat → Nat} {s : State} {σ : XW} {H H1 : Heap} {locs locs1 : List Loc} {q : Nat} {e : XE} (hw : gWd E D cA ad s σ H locs) (hP : va_P D vwCl ((xw cA ad σ).set q (ad q, xe cA ad e)) H1) (hS : va_S (gA ad) s.heap H1 locs1) : gWd E D cA ad s (σ.set q e) H1 locs1 := by
  obtain ⟨w1, w2, w3, w4, w5⟩ := hw
  rw [xw_set] at hP
  exact ⟨w1, hP, hS, w4, w5⟩
theorem gWd.push {E : XEnv} {D : va_G} {cA : Nat → ClassId} {ad : Nat → Nat} {s : State} {σ : XW} {H H1 : Heap} {locs locs1 : List Loc} {e : XE} (hw : gWd E D cA ad s σ H locs) (hP : va_P D vwCl (xw cA ad σ ++ [(ad σ.length, xe cA ad e)]) H1) (hS : va_S (gA ad) s.heap H1 locs1) : gWd E D cA ad s (σ ++ [e]) H1 locs1 := by
  obtain ⟨w1, w2, w3, w4, w5⟩ := hw
  rw [← xw_app] at hP
  exact ⟨w1, hP, hS, w4, w5⟩
-- ===== the judgement =====
def gCtx (Lv n0 cap : Nat) (im : Bool) (own : String) (cc : ByteArray) (nL : Nat) (p : Program) (R : Room) (s : State) (m : MethodId) (args : Array Value) (meth : Method) (c : Code) (ad : Nat → Nat) : Prop :=
  CallFix p m c cc nL s args gTs own ∧ (im = true → meth.name = "<init>") ∧ (Lv + 1 ≤ R.frames ∧ 40 * (Lv + 1) ≤ R.locals ∧ Lv ≤ 1000) ∧ (cap ≤ R.cells + n0 ∧ 1000 * cap ≤ R.slots + 1000 * n0 ∧ cap ≤ 100) ∧ gOK Lv ad ∧ s.heap.size = ad 0 + n0
def GJ (E : XEnv) (nL n0 cap : Nat) (p : Program) (e : Env) (R : Room) (s : State) (m : MethodId) (args : Array Value) (below : List Frame) (meth : Method) (c : Code) (Z : State → Prop) (D : va_G) (cA : Nat → ClassId) (ad : Nat → Nat) (pc : Nat) (lv : XL) (st : List Value) (σ : XW) : Prop :=
  ∀ (H : Heap) (locs : List Loc) (cells : Nat) (ls : Array Slot), lv_has ls nL (xl ad lv) → cells + n0 = σ.length → σ.length ≤ cap → gWd E D cA ad s σ H locs → W p E.1 e R s m args below meth c H locs cells (1000 * cells) Z (F0 m pc ls (st.map (xv ad)))
def gExit (E : XEnv) (n0 : Nat) (cc : ByteArray) (rt : Option FieldType) (p : Program) (e : Env) (R : Room) (s : State) (m : MethodId) (args : Array Value) (below : List Frame) (meth : Method) (c : Code) (Z : State → Prop) (D : va_G) (cA : Nat → ClassId) (ad : Nat → Nat) (Q : XQ) : Prop :=
  ∀ (r : Option Value) (σ' : XW) (H' : Heap) (locs' : List Loc) (cells' : Nat), Q r σ' → cells' + n0 = σ'.length → gWd E D cA ad s σ' H' locs' → xRet p E.1 e R s m args below meth c H' locs' cells' (1000 * cells') Z cc rt r
def GSnd (own : String) (cc : ByteArray) (nL : Nat) (rt : Option FieldType) (im : Bool) (cap mL pc : Nat) (op : XOp) : Prop :=
  ∀ (E : XEnv) (Lv n0 : Nat) (p : Program) (e : Env) (R : Room) (s : State) (m : MethodId) (args : Array Value) (below : List Frame) (meth : Method) (c : Code) (Z : State → Prop) (D : va_G) (cA : Nat → ClassId) (ad : Nat → Nat) (Q : XQ) (X : XK), mL ≤ Lv → gCtx Lv n0 cap im own cc nL p R s m args meth c ad → gExit E n0 cc rt p e R s m args below meth c Z D cA ad Q →
    (∀ pc' lv st σ, X pc' lv st σ → GJ E nL n0 cap p e R s m args below meth c Z D cA ad pc' lv st σ) → ∀ (lv : XL) (st : List Value) (σ : XW), op E Lv Q X lv st σ → GJ E nL n0 cap p e R s m args below meth c Z D cA ad pc lv st σ
def GPr (own : String) (cc : ByteArray) (nL : Nat) (rt : Option FieldType) (im : Bool) (cap mL : Nat) (pr : List (Nat × XOp)) : Prop := ∀ q ∈ pr, GSnd own cc nL rt im cap mL q.1 q.2
theorem GPr.nil {own : String} {cc : ByteArray} {nL : Nat} {rt : Option FieldType} {im : Bool} {cap mL : Nat} : GPr own cc nL rt im cap mL [] := fun _ h => absurd h List.not_mem_nil
theorem GPr.cons {own : String} {cc : ByteArray} {nL : Nat} {rt : Option FieldType} {im : Bool} {cap mL : Nat} {q : Nat × XOp} {r : List (Nat × XOp)} (h : GSnd own cc nL rt im cap mL q.1 q.2) (hr : GPr own cc nL rt im cap mL r) : GPr own cc nL rt im cap mL (q :: r) := List.forall_mem_cons.mpr ⟨h, hr⟩
theorem gwp_ok {own : String} {cc : ByteArray} {nL : Nat} {rt : Option FieldType} {im : Bool} {cap mL : Nat} {pr : List (Nat × XOp)} (hp : GPr own cc nL rt im cap mL pr) {E : XEnv} {Lv n0 : Nat} {p : Program} {e : Env} {R : Room} {s : State} {m : MethodId} {args : Array Value} {below : List Frame} {meth : Method} {c : Code} {Z : State → Prop} {D : va_G} {cA : Nat → ClassId} {ad : Nat → Nat} {Q : XQ} {cut : List Nat} {K : XK} (hL : mL ≤ Lv) (hC : gCtx Lv n0 cap im own cc nL p R s m args meth c ad) (hE : gExit E n0 cc rt p e R s m args below meth c Z D cA ad Q) (hK : ∀ pc lv st σ, K pc lv st σ → GJ E nL n0 cap p e R s m args below meth c Z D cA ad pc lv st σ) : ∀ (n pc : Nat) (lv : XL) (st : List Value) (σ : XW), xwp E Lv Q pr cut K n pc lv st σ → GJ E nL n0 cap p e R s m args below meth c Z D cA ad pc lv st σ
  | 0, _, _, _, _, h => hK _ _ _ _ h
  | n + 1, pc, lv, st, σ, h => by
    unfold xwp at h
    cases hb : xcut cut pc with
    | true => rw [hb] at h; exact hK _ _ _ _ h
    | false =>
      rw [hb] at h
      obtain ⟨o, h1, h2⟩ := xlook_e h
      exact hp _ h1 E Lv n0 p e R s m args below meth c Z D cA ad Q _ hL hC hE (fun pc' lv st σ h => gwp_ok hp hL hC hE hK n pc' lv st σ h) lv st σ h2
theorem ggo {own : String} {cc : ByteArray} {nL : Nat} {rt : Option FieldType} {im : Bool} {cap mL : Nat} {pr : List (Nat × XOp)} (hp : GPr own cc nL rt im cap mL pr) {E : XEnv} {Lv n0 : Nat} {p : Program} {e : Env} {R : Room} {s : State} {m : MethodId} {args : Array Value} {below : List Frame} {meth : Method} {c : Code} {Z : State → Prop} {D : va_G} {cA : Nat → ClassId} {ad : Nat → Nat} {Q : XQ} {K : XK} (hL : mL ≤ Lv) (hC : gCtx Lv n0 cap im own cc nL p R s m args meth c ad) (hE : gExit E n0 cc rt p e R s m args below meth c Z D cA ad Q) (hK : ∀ pc lv st σ, K pc lv st σ → GJ E nL n0 cap p e R s m args below meth c Z D cA ad pc lv st σ) (cut : List Nat) (n : Nat) {pc : Nat} {lv : XL} {st : List Value} {σ : XW} (h : xlook pr pc fun o => o E Lv Q (xwp E Lv Q pr cut K n) lv st σ) : GJ E nL n0 cap p e R s m args below meth c Z D cA ad pc lv st σ := by
  obtain ⟨o, h1, h2⟩ := xlook_e h
  exact hp _ h1 E Lv n0 p e R s m args below meth c Z D cA ad Q _ hL hC hE (fun pc' lv st σ h => gwp_ok hp hL hC hE hK n pc' lv st σ h) lv st σ h2
/-- in every context -/
def GAt (E : XEnv) (own : String) (cc : ByteArray) (nL : Nat) (rt : Option FieldType) (im : Bool) (Lv n0 cap : Nat) (Q : XQ) (pc : Nat) (lv : XL) (st : List Value) (σ : XW) : Prop :=
  ∀ (p : Program) (e : Env) (R : Room) (s : State) (m : MethodId) (args : Array Value) (below : List Frame) (meth : Method) (c : Code) (Z : State → Prop) (D : va_G) (cA : Nat → ClassId) (ad : Nat → Nat), gCtx Lv n0 cap im own cc nL p R s m args meth c ad → gExit E n0 cc rt p e R s m args below meth c Z D cA ad Q → GJ E nL n0 cap p e R s m args below meth c Z D cA ad pc lv st σ
theorem ggoA {own : String} {cc : ByteArray} {nL : Nat} {rt : Option FieldType} {im : Bool} {cap mL : Nat} {pr : List (Nat × XOp)} (hp : GPr own cc nL rt im cap mL pr) {E : XEnv} {Lv n0 : Nat} {Q : XQ} (hL : mL ≤ Lv) (cut : List Nat) (n : Nat) {pc : Nat} {lv : XL} {st : List Value} {σ : XW} (h : xlook pr pc fun o => o E Lv Q (xwp E Lv Q pr cut (GAt E own cc nL rt im Lv n0 cap Q) n) lv st σ) : GAt E own cc nL rt im Lv n0 cap Q pc lv st σ := fun p e R s m args below meth c Z D cA ad hC hE => ggo hp hL hC hE (fun pc lv st σ k => k p e R s m args below meth c Z D cA ad hC hE) cut n h
-- ===== instructions =====
section GSOUND
variable {own : String} {cc : ByteArray} {nL : Nat} {rt : Option FieldType} {im : Bool} {cap mL pc : Nat}
theorem gs_iconst {n : Int} {v : Int32} (hdg : decode cc pc = .ok (.iconst n, 1)) (hv : Int32.ofInt n = v) : GSnd own cc nL rt im cap mL pc (xo_ic v (pc + 1)) := by
  intro E Lv n0 p e R s m args below meth c Z D cA ad Q X hLv hC hE hX lv st σ h
  intro H locs cells ls hl hn hc hw
  exact lv_iconst hC.1.1 hC.1.2.1 hdg hv (hX _ _ _ _ h H locs cells ls hl hn hc hw)

theorem gs_bipush {n : Int} {v : Int32} (hdg : decode cc pc = .ok (.bipush n, 2)) (hv : (Int8.ofInt n).toInt32 = v) : GSnd own cc nL rt im cap mL pc (xo_ic v (pc + 2)) := by
  intro E Lv n0 p e R s m args below meth c Z D cA ad Q X hLv hC hE hX lv st σ h
  intro H locs cells ls hl hn hc hw
  exact lv_bipush hC.1.1 hC.1.2.1 hdg hv (hX _ _ _ _ h H locs cells ls hl hn hc hw)

theorem gs_sipush {n : Int} {v : Int32} (hdg : decode cc pc = .ok (.sipush n, 3)) (hv : (Int16.ofInt n).toInt32 = v) : GSnd own cc nL rt im cap mL pc (xo_ic v (pc + 3)) := by
  intro E Lv n0 p e R s m args below meth c Z D cA ad Q X hLv hC hE hX lv st σ h
  intro H locs cells ls hl hn hc hw
  exact lv_sipush hC.1.1 hC.1.2.1 hdg hv (hX _ _ _ _ h H locs cells ls hl hn hc hw)

theorem gs_iload_n {k : Fin 4} {i : Nat} (hdg : decode cc pc = .ok (.iload_n k, 1)) (hi : (k : Nat) = i) : GSnd own cc nL rt im cap mL pc (xo_il i (pc + 1)) := by
  intro E Lv n0 p e R s m args below meth c Z D cA ad Q X hLv hC hE hX lv st σ h
  obtain ⟨x, hm, h1⟩ := gI_e h
  intro H locs cells ls hl hn hc hw
  exact lv_iload_n hC.1.1 hC.1.2.1 hdg hi (xl_mem hl hm) (hX _ _ _ _ h1 H locs cells ls hl hn hc hw)

theorem gs_iload {i : Nat} (hdg : decode cc pc = .ok (.iload i, 2)) : GSnd own cc nL rt im cap mL pc (xo_il i (pc + 2)) := by
  intro E Lv n0 p e R s m args below meth c Z D cA ad Q X hLv hC hE hX lv st σ h
  obtain ⟨x, hm, h1⟩ := gI_e h
  intro H locs cells ls hl hn hc hw
  exact lv_iload hC.1.1 hC.1.2.1 hdg (xl_mem hl hm) (hX _ _ _ _ h1 H locs cells ls hl hn hc hw)

theorem gs_aload_n {k : Fin 4} {i : Nat} (hdg : decode cc pc = .ok (.aload_n k, 1)) (hi : (k : Nat) = i) : GSnd own cc nL rt im cap mL pc (xo_al i (pc + 1)) := by
  intro E Lv n0 p e R s m args below meth c Z D cA ad Q X hLv hC hE hX lv st σ h
  obtain ⟨x, hm, h1⟩ := gR_e h
  intro H locs cells ls hl hn hc hw
  exact lv_aload_n hC.1.1 hC.1.2.1 hdg hi (xl_mem hl hm) (hX _ _ _ _ h1 H locs cells ls hl hn hc hw)

theorem gs_istore_n {k : Fin 4} {i : Nat} (hdg : decode cc pc = .ok (.istore_n k, 1)) (hi : (k : Nat) = i) (hin : i < nL) : GSnd own cc nL rt im cap mL pc (xo_is i (pc + 1)) := by
  intro E Lv n0 p e R s m args below meth c Z D cA ad Q X hLv hC hE hX lv st σ h
  obtain ⟨x, st, rfl, h1⟩ := pI_e h
  obtain ⟨lv', h2, hq⟩ := sL_e h1
  intro H locs cells ls hl hn hc hw
  exact lv_istore_n hC.1.1 hC.1.2.1 hdg hi hl hin rfl (fun ls' hl' => (hX _ _ _ _ h2 H locs cells ls' (xl_sub (fun q hq => by have := sK_n hq; rw [xv_cat]; exact this) hl' hq) hn hc hw))

theorem gs_astore_n {k : Fin 4} {i : Nat} (hdg : decode cc pc = .ok (.astore_n k, 1)) (hi : (k : Nat) = i) (hin : i < nL) : GSnd own cc nL rt im cap mL pc (xo_as i (pc + 1)) := by
  intro E Lv n0 p e R s m args below meth c Z D cA ad Q X hLv hC hE hX lv st σ h
  obtain ⟨x, st, rfl, h1⟩ := pR_e h
  obtain ⟨lv', h2, hq⟩ := sL_e h1
  intro H locs cells ls hl hn hc hw
  exact lv_astore_n hC.1.1 hC.1.2.1 hdg hi hl hin rfl (fun ls' hl' => (hX _ _ _ _ h2 H locs cells ls' (xl_sub (fun q hq => by have := sK_n hq; rw [xv_cat]; exact this) hl' hq) hn hc hw))

theorem gs_iinc {i : Nat} {n : Int} {v : Int32} (hdg : decode cc pc = .ok (.iinc i n, 3)) (hv : Int32.ofInt n = v) (hin : i < nL) : GSnd own cc nL rt im cap mL pc (xo_inc i v (pc + 3)) := by
  intro E Lv n0 p e R s m args below meth c Z D cA ad Q X hLv hC hE hX lv st σ h
  obtain ⟨x, hm, h1⟩ := gI_e h
  obtain ⟨lv', h2, hq⟩ := sL_e h1
  intro H locs cells ls hl hn hc hw
  obtain ⟨k, hk⟩ := List.getElem?_of_mem (show (i, Value.int x) ∈ xl ad lv from List.mem_map.mpr ⟨_, hm, rfl⟩)
  exact lv_iinc hC.1.1 hC.1.2.1 hdg hl hk (by rw [hv]) hin rfl (fun ls' hl' => (hX _ _ _ _ h2 H locs cells ls' (xl_sub (fun q hq => by have := sK_n hq; rw [xv_cat]; exact this) hl' hq) hn hc hw))

theorem gs_dupR (hdg : decode cc pc = .ok (.dup, 1)) : GSnd own cc nL rt im cap mL pc (xo_dupR (pc + 1)) := by
  intro E Lv n0 p e R s m args below meth c Z D cA ad Q X hLv hC hE hX lv st σ h
  obtain ⟨x, st, rfl, h1⟩ := pR_e h
  intro H locs cells ls hl hn hc hw
  exact lv_dup hC.1.1 hC.1.2.1 hdg rfl (hX _ _ _ _ h1 H locs cells ls hl hn hc hw)

theorem gs_iadd (hdg : decode cc pc = .ok (.iadd, 1)) : GSnd own cc nL rt im cap mL pc (xo_iadd (pc + 1)) := by
  intro E Lv n0 p e R s m args below meth c Z D cA ad Q X hLv hC hE hX lv st σ h
  obtain ⟨y, st, rfl, h1⟩ := pI_e h
  obtain ⟨x, st, rfl, h2⟩ := pI_e h1
  intro H locs cells ls hl hn hc hw
  exact lv_iadd hC.1.1 hC.1.2.1 hdg (hX _ _ _ _ h2 H locs cells ls hl hn hc hw)

theorem gs_goto {off : Int} {tg : Nat} (hdg : decode cc pc = .ok (.goto off, 3)) (ht : (pc : Int) + off = (tg : Int)) : GSnd own cc nL rt im cap mL pc (xo_goto tg) := by
  intro E Lv n0 p e R s m args below meth c Z D cA ad Q X hLv hC hE hX lv st σ h
  intro H locs cells ls hl hn hc hw
  exact lv_goto hC.1.1 hC.1.2.1 hdg ht (hX _ _ _ _ h H locs cells ls hl hn hc hw)

theorem gs_ic_ge {off : Int} {tg : Nat} (hdg : decode cc pc = .ok (.if_icmp .ge off, 3)) (ht : (pc : Int) + off = (tg : Int)) : GSnd own cc nL rt im cap mL pc (xo_ic_ge tg (pc + 3)) := by
  intro E Lv n0 p e R s m args below meth c Z D cA ad Q X hLv hC hE hX lv st σ h
  obtain ⟨y, st, rfl, h1⟩ := pI_e h
  obtain ⟨x, st, rfl, h2⟩ := pI_e h1
  intro H locs cells ls hl hn hc hw
  exact lv_icmp_ge hC.1.1 hC.1.2.1 hdg ht (fun z => (hX _ _ _ _ (h2.1 z) H locs cells ls hl hn hc hw)) (fun z => (hX _ _ _ _ (h2.2 z) H locs cells ls hl hn hc hw))

theorem gs_get {ci k N index : Nat} {C : String} {T : u_T} (hcl : vwCl[ci]? = some (C, T, N)) (hin : ∀ w ∈ u_ws C T N, w ∈ gTs) (hk : k < N) (hlk : Cond.fieldLink own index (T k).1 (T k).2.1 (T k).2.2.1 ∈ gTs) (hdg : decode cc pc = .ok (.getfield index, 3)) : GSnd own cc nL rt im cap mL pc (xo_get ci k (pc + 3)) := by
  intro E Lv n0 p e R s m args below meth c Z D cA ad Q X hLv hC hE hX lv st σ h
  obtain ⟨q, st, rfl, h1⟩ := pR_e h
  obtain ⟨fs, he, h2⟩ := hO_e h1
  obtain ⟨v, hv, h3⟩ := nth_e h2
  intro H locs cells ls hl hn hc hw
  exact va_get hC.1.1 hC.1.2.1 hC.1.2.2.2.2 hin hC.1.2.2.2.1 hw.1 hw.2.1 q (xw_get he) hcl k hk (hC.1.2.2.2.2 _ hlk) (fun _ h => h) (v := xv ad v) (by rw [List.getElem?_map, hv]; rfl) hdg (hX _ _ _ _ h3 H locs cells ls hl hn hc hw)

theorem gs_putI {ci k N index : Nat} {C : String} {T : u_T} {ty : Nat → FieldType} (hcl : vwCl[ci]? = some (C, T, N)) (hin : ∀ w ∈ u_ws C T N, w ∈ gTs) (hty : ∀ k, k < N → parseFieldDescriptor (T k).2.2.1 = some (ty k)) (hnm : ∀ a, a < N → ∀ b, b < N → a ≠ b → (T a).2.1 ≠ (T b).2.1) (hk : k < N) (hlk : Cond.fieldLink own index (T k).1 (T k).2.1 (T k).2.2.1 ∈ gTs) (hfin : (T k).2.2.2 = false) (hd : parseFieldDescriptor (T k).2.2.1 = some .int) (hdg : decode cc pc = .ok (.putfield index, 3)) : GSnd own cc nL rt im cap mL pc (xo_putI ci k (pc + 3)) := by
  intro E Lv n0 p e R s m args below meth c Z D cA ad Q X hLv hC hE hX lv st σ h
  obtain ⟨x, st, rfl, h1⟩ := pI_e h
  obtain ⟨q, st, rfl, h2⟩ := pR_e h1
  obtain ⟨fs, he, h3⟩ := hO_e h2
  obtain ⟨v0, hv0, h4⟩ := nth_e h3
  have h6 := stW_e (stW_e h4)
  intro H locs cells ls hl hn hc hw
  refine va_put hC.1.1 hC.1.2.1 hC.1.2.2.2.2 hin ty hty hnm hC.1.2.2.2.1 hw.1 hw.2.1 (hw.D hC.2.2.2.2.1 (by have := hC.2.2.2.1.2.2; omega)) hw.2.2.1 q (xw_get he) hcl k hk (hC.1.2.2.2.2 _ hlk) (fun _ h => h) hfin hd (v := xv ad (.int x)) (vp_nar_int x) rfl (by rw [List.length_map]; exact (List.getElem?_eq_some_iff.mp hv0).1) hdg (fun H1 locs1 hP1 hD1 hS1 => ?_)
  rw [← List.map_set] at hP1
  exact hX _ _ _ _ h6 H1 locs1 cells ls hl (by rw [List.length_set]; exact hn) (by rw [List.length_set]; exact hc) (hw.set hP1 hS1)

theorem gs_putIF {ci k N index : Nat} {C : String} {T : u_T} {ty : Nat → FieldType} (hcl : vwCl[ci]? = some (C, T, N)) (hin : ∀ w ∈ u_ws C T N, w ∈ gTs) (hty : ∀ k, k < N → parseFieldDescriptor (T k).2.2.1 = some (ty k)) (hnm : ∀ a, a < N → ∀ b, b < N → a ≠ b → (T a).2.1 ≠ (T b).2.1) (hk : k < N) (hlk : Cond.fieldLink own index (T k).1 (T k).2.1 (T k).2.2.1 ∈ gTs) (hfin : (T k).2.2.2 = true) (him : im = true) (hdc : (T k).1 = own) (hd : parseFieldDescriptor (T k).2.2.1 = some .int) (hdg : decode cc pc = .ok (.putfield index, 3)) : GSnd own cc nL rt im cap mL pc (xo_putI ci k (pc + 3)) := by
  intro E Lv n0 p e R s m args below meth c Z D cA ad Q X hLv hC hE hX lv st σ h
  obtain ⟨x, st, rfl, h1⟩ := pI_e h
  obtain ⟨q, st, rfl, h2⟩ := pR_e h1
  obtain ⟨fs, he, h3⟩ := hO_e h2
  obtain ⟨v0, hv0, h4⟩ := nth_e h3
  have h6 := stW_e (stW_e h4)
  intro H locs cells ls hl hn hc hw
  refine va_putF hC.1.1 hC.1.2.1 hC.1.2.2.2.2 hin ty hty hnm hC.1.2.2.2.1 hw.1 hw.2.1 (hw.D hC.2.2.2.2.1 (by have := hC.2.2.2.1.2.2; omega)) hw.2.2.1 q (xw_get he) hcl k hk (hC.1.2.2.2.2 _ hlk) (fun _ h => h) hfin (hC.2.1 him) hdc hd (v := xv ad (.int x)) (vp_nar_int x) rfl (by rw [List.length_map]; exact (List.getElem?_eq_some_iff.mp hv0).1) hdg (fun H1 locs1 hP1 hD1 hS1 => ?_)
  rw [← List.map_set] at hP1
  exact hX _ _ _ _ h6 H1 locs1 cells ls hl (by rw [List.length_set]; exact hn) (by rw [List.length_set]; exact hc) (hw.set hP1 hS1)

theorem gs_putR {ci k N index : Nat} {C C2 : String} {T : u_T} {ty : Nat → FieldType} (hcl : vwCl[ci]? = some (C, T, N)) (hin : ∀ w ∈ u_ws C T N, w ∈ gTs) (hty : ∀ k, k < N → parseFieldDescriptor (T k).2.2.1 = some (ty k)) (hnm : ∀ a, a < N → ∀ b, b < N → a ≠ b → (T a).2.1 ≠ (T b).2.1) (hk : k < N) (hlk : Cond.fieldLink own index (T k).1 (T k).2.1 (T k).2.2.1 ∈ gTs) (hfin : (T k).2.2.2 = false) (hd : parseFieldDescriptor (T k).2.2.1 = some (.object C2)) (hdg : decode cc pc = .ok (.putfield index, 3)) : GSnd own cc nL rt im cap mL pc (xo_putR ci k (pc + 3)) := by
  intro E Lv n0 p e R s m args below meth c Z D cA ad Q X hLv hC hE hX lv st σ h
  obtain ⟨x, st, rfl, h1⟩ := pR_e h
  obtain ⟨q, st, rfl, h2⟩ := pR_e h1
  obtain ⟨fs, he, h3⟩ := hO_e h2
  obtain ⟨v0, hv0, h4⟩ := nth_e h3
  have h6 := stW_e (stW_e h4)
  intro H locs cells ls hl hn hc hw
  refine va_put hC.1.1 hC.1.2.1 hC.1.2.2.2.2 hin ty hty hnm hC.1.2.2.2.1 hw.1 hw.2.1 (hw.D hC.2.2.2.2.1 (by have := hC.2.2.2.1.2.2; omega)) hw.2.2.1 q (xw_get he) hcl k hk (hC.1.2.2.2.2 _ hlk) (fun _ h => h) hfin hd (v := xv ad (.ref x)) rfl rfl (by rw [List.length_map]; exact (List.getElem?_eq_some_iff.mp hv0).1) hdg (fun H1 locs1 hP1 hD1 hS1 => ?_)
  rw [← List.map_set] at hP1
  exact hX _ _ _ _ h6 H1 locs1 cells ls hl (by rw [List.length_set]; exact hn) (by rw [List.length_set]; exact hc) (hw.set hP1 hS1)

theorem gs_putRF {ci k N index : Nat} {C C2 : String} {T : u_T} {ty : Nat → FieldType} (hcl : vwCl[ci]? = some (C, T, N)) (hin : ∀ w ∈ u_ws C T N, w ∈ gTs) (hty : ∀ k, k < N → parseFieldDescriptor (T k).2.2.1 = some (ty k)) (hnm : ∀ a, a < N → ∀ b, b < N → a ≠ b → (T a).2.1 ≠ (T b).2.1) (hk : k < N) (hlk : Cond.fieldLink own index (T k).1 (T k).2.1 (T k).2.2.1 ∈ gTs) (hfin : (T k).2.2.2 = true) (him : im = true) (hdc : (T k).1 = own) (hd : parseFieldDescriptor (T k).2.2.1 = some (.object C2)) (hdg : decode cc pc = .ok (.putfield index, 3)) : GSnd own cc nL rt im cap mL pc (xo_putR ci k (pc + 3)) := by
  intro E Lv n0 p e R s m args below meth c Z D cA ad Q X hLv hC hE hX lv st σ h
  obtain ⟨x, st, rfl, h1⟩ := pR_e h
  obtain ⟨q, st, rfl, h2⟩ := pR_e h1
  obtain ⟨fs, he, h3⟩ := hO_e h2
  obtain ⟨v0, hv0, h4⟩ := nth_e h3
  have h6 := stW_e (stW_e h4)
  intro H locs cells ls hl hn hc hw
  refine va_putF hC.1.1 hC.1.2.1 hC.1.2.2.2.2 hin ty hty hnm hC.1.2.2.2.1 hw.1 hw.2.1 (hw.D hC.2.2.2.2.1 (by have := hC.2.2.2.1.2.2; omega)) hw.2.2.1 q (xw_get he) hcl k hk (hC.1.2.2.2.2 _ hlk) (fun _ h => h) hfin (hC.2.1 him) hdc hd (v := xv ad (.ref x)) rfl rfl (by rw [List.length_map]; exact (List.getElem?_eq_some_iff.mp hv0).1) hdg (fun H1 locs1 hP1 hD1 hS1 => ?_)
  rw [← List.map_set] at hP1
  exact hX _ _ _ _ h6 H1 locs1 cells ls hl (by rw [List.length_set]; exact hn) (by rw [List.length_set]; exact hc) (hw.set hP1 hS1)


theorem gs_putRA {ci k N index : Nat} {C : String} {fty : FieldType} {T : u_T} {ty : Nat → FieldType} (hcl : vwCl[ci]? = some (C, T, N)) (hin : ∀ w ∈ u_ws C T N, w ∈ gTs) (hty : ∀ k, k < N → parseFieldDescriptor (T k).2.2.1 = some (ty k)) (hnm : ∀ a, a < N → ∀ b, b < N → a ≠ b → (T a).2.1 ≠ (T b).2.1) (hk : k < N) (hlk : Cond.fieldLink own index (T k).1 (T k).2.1 (T k).2.2.1 ∈ gTs) (hfin : (T k).2.2.2 = false) (hd : parseFieldDescriptor (T k).2.2.1 = some (.array fty)) (hdg : decode cc pc = .ok (.putfield index, 3)) : GSnd own cc nL rt im cap mL pc (xo_putR ci k (pc + 3)) := by
  intro E Lv n0 p e R s m args below meth c Z D cA ad Q X hLv hC hE hX lv st σ h
  obtain ⟨x, st, rfl, h1⟩ := pR_e h
  obtain ⟨q, st, rfl, h2⟩ := pR_e h1
  obtain ⟨fs, he, h3⟩ := hO_e h2
  obtain ⟨v0, hv0, h4⟩ := nth_e h3
  have h6 := stW_e (stW_e h4)
  intro H locs cells ls hl hn hc hw
  refine va_put hC.1.1 hC.1.2.1 hC.1.2.2.2.2 hin ty hty hnm hC.1.2.2.2.1 hw.1 hw.2.1 (hw.D hC.2.2.2.2.1 (by have := hC.2.2.2.1.2.2; omega)) hw.2.2.1 q (xw_get he) hcl k hk (hC.1.2.2.2.2 _ hlk) (fun _ h => h) hfin hd (v := xv ad (.ref x)) rfl rfl (by rw [List.length_map]; exact (List.getElem?_eq_some_iff.mp hv0).1) hdg (fun H1 locs1 hP1 hD1 hS1 => ?_)
  rw [← List.map_set] at hP1
  exact hX _ _ _ _ h6 H1 locs1 cells ls hl (by rw [List.length_set]; exact hn) (by rw [List.length_set]; exact hc) (hw.set hP1 hS1)

theorem gs_putRAF {ci k N index : Nat} {C : String} {fty : FieldType} {T : u_T} {ty : Nat → FieldType} (hcl : vwCl[ci]? = some (C, T, N)) (hin : ∀ w ∈ u_ws C T N, w ∈ gTs) (hty : ∀ k, k < N → parseFieldDescriptor (T k).2.2.1 = some (ty k)) (hnm : ∀ a, a < N → ∀ b, b < N → a ≠ b → (T a).2.1 ≠ (T b).2.1) (hk : k < N) (hlk : Cond.fieldLink own index (T k).1 (T k).2.1 (T k).2.2.1 ∈ gTs) (hfin : (T k).2.2.2 = true) (him : im = true) (hdc : (T k).1 = own) (hd : parseFieldDescriptor (T k).2.2.1 = some (.array fty)) (hdg : decode cc pc = .ok (.putfield index, 3)) : GSnd own cc nL rt im cap mL pc (xo_putR ci k (pc + 3)) := by
  intro E Lv n0 p e R s m args below meth c Z D cA ad Q X hLv hC hE hX lv st σ h
  obtain ⟨x, st, rfl, h1⟩ := pR_e h
  obtain ⟨q, st, rfl, h2⟩ := pR_e h1
  obtain ⟨fs, he, h3⟩ := hO_e h2
  obtain ⟨v0, hv0, h4⟩ := nth_e h3
  have h6 := stW_e (stW_e h4)
  intro H locs cells ls hl hn hc hw
  refine va_putF hC.1.1 hC.1.2.1 hC.1.2.2.2.2 hin ty hty hnm hC.1.2.2.2.1 hw.1 hw.2.1 (hw.D hC.2.2.2.2.1 (by have := hC.2.2.2.1.2.2; omega)) hw.2.2.1 q (xw_get he) hcl k hk (hC.1.2.2.2.2 _ hlk) (fun _ h => h) hfin (hC.2.1 him) hdc hd (v := xv ad (.ref x)) rfl rfl (by rw [List.length_map]; exact (List.getElem?_eq_some_iff.mp hv0).1) hdg (fun H1 locs1 hP1 hD1 hS1 => ?_)
  rw [← List.map_set] at hP1
  exact hX _ _ _ _ h6 H1 locs1 cells ls hl (by rw [List.length_set]; exact hn) (by rw [List.length_set]; exact hc) (hw.set hP1 hS1)

theorem gs_iast (hdg : decode cc pc = .ok (.iastore, 1)) : GSnd own cc nL rt im cap mL pc (xo_iast (pc + 1)) := by
  intro E Lv n0 p e R s m args below meth c Z D cA ad Q X hLv hC hE hX lv st σ h
  obtain ⟨x, st, rfl, h0⟩ := pI_e h
  obtain ⟨i, st, rfl, h1⟩ := pI_e h0
  obtain ⟨q, st, rfl, h2⟩ := pR_e h1
  obtain ⟨n, f, he, hin, h3⟩ := hA_e h2
  have h4 := stW_e h3
  intro H locs cells ls hl hn hc hw
  refine va_iast hC.1.1 hC.1.2.1 hw.1 hw.2.1 (hw.D hC.2.2.2.2.1 (by have := hC.2.2.2.1.2.2; omega)) hw.2.2.1 q 0 (xw_get he) rfl hin hdg (fun H1 locs1 hP1 hD1 hS1 => ?_)
  exact hX _ _ _ _ h4 H1 locs1 cells ls hl (by rw [List.length_set]; exact hn) (by rw [List.length_set]; exact hc) (hw.set hP1 hS1)

theorem up_map (f : Nat → Option Nat) (k v : Nat) (ad : Nat → Nat) : (fun i => (va_up f k (some v) i).map ad) = va_up (fun i => (f i).map ad) k (some (ad v)) := by
  funext i
  unfold va_up
  by_cases h : i = k
  · rw [if_pos h, if_pos h]; rfl
  · rw [if_neg h, if_neg h]
def xo_aast (t ci nx : Nat) : XOp := fun E Lv Q X lv st σ => pR st fun v st => pI st fun i st => pR st fun q st => hQ σ q t fun n f => hO σ v ci fun _ => vp_in i n ∧ stW σ q (.inl (t, n, .inr (.inr (.inr (.inr (va_up f i.toNatClampNeg (some v))))))) fun σ' => X nx lv st σ'

theorem gs_aast {t ci : Nat} {r : vw_C} (ht : ∀ cA, (xT cA)[t]? = some (cA t, .object r.1)) (hr : vwCl[ci]? = some r) (hdg : decode cc pc = .ok (.aastore, 1)) : GSnd own cc nL rt im cap mL pc (xo_aast t ci (pc + 1)) := by
  intro E Lv n0 p e R s m args below meth c Z D cA ad Q X hLv hC hE hX lv st σ h
  obtain ⟨v, st, rfl, h0⟩ := pR_e h
  obtain ⟨i, st, rfl, h1⟩ := pI_e h0
  obtain ⟨q, st, rfl, h2⟩ := pR_e h1
  obtain ⟨n, f, he, h3⟩ := hQ_e h2
  obtain ⟨vs, hv, hin, h4⟩ := hO_e h3
  have h5 := stW_e h4
  intro H locs cells ls hl hn hc hw
  refine va_astq (f := fun i => (f i).map ad) hC.1.1 hC.1.2.1 hw.1 hw.2.1 (hw.D hC.2.2.2.2.1 (by have := hC.2.2.2.1.2.2; omega)) hw.2.2.1 q t v ci (xw_get he) (ht cA) (xw_get hv) hr hin hdg (fun H1 locs1 hP1 hD1 hS1 => ?_)
  rw [← up_map] at hP1
  exact hX _ _ _ _ h5 H1 locs1 cells ls hl (by rw [List.length_set]; exact hn) (by rw [List.length_set]; exact hc) (hw.set (e := .inl (t, n, .inr (.inr (.inr (.inr (va_up f i.toNatClampNeg (some v))))))) hP1 hS1)

theorem gs_aald {t : Nat} {C : String} (ht : ∀ cA, (xT cA)[t]? = some (cA t, .object C)) (hdg : decode cc pc = .ok (.aaload, 1)) : GSnd own cc nL rt im cap mL pc (xo_aald t (pc + 1)) := by
  intro E Lv n0 p e R s m args below meth c Z D cA ad Q X hLv hC hE hX lv st σ h
  obtain ⟨i, st, rfl, h1⟩ := pI_e h
  obtain ⟨q, st, rfl, h2⟩ := pR_e h1
  obtain ⟨n, f, he, hin, a, ha, h3⟩ := hQ_e h2
  intro H locs cells ls hl hn hc hw
  refine va_aldq hC.1.1 hC.1.2.1 hw.1 hw.2.1 q t (C := C) (n := n) (f := fun i => (f i).map ad) (xw_get he) (ht cA) hin hdg ?_
  rw [ha]
  exact (hX _ _ _ _ h3 H locs cells ls hl hn hc hw)

theorem gs_vret (hrt : rt = none) (hdg : decode cc pc = .ok (.return_, 1)) : GSnd own cc nL rt im cap mL pc xo_vret := by
  intro E Lv n0 p e R s m args below meth c Z D cA ad Q X hLv hC hE hX lv st σ h
  match st, h with
  | [], h =>
    intro H locs cells ls hl hn hc hw
    exact hE _ _ _ _ _ h hn hw pc ls hdg hrt
/-- Object's own <init> -/
def xo_objI (nx : Nat) : XOp := fun E Lv Q X lv st σ => pR st fun _ st => match smal st with
  | true => X nx lv st σ
  | false => False

theorem gs_objI {idx : Nat} (h1 : Cond.methodLink own idx objectInit ∈ gTs) (h2 : Cond.instanceMethod objectInit ∈ gTs) (h3 : Cond.code objectInit ⟨#[0xb1]⟩ 1 none ∈ gTs) (hdg : decode cc pc = .ok (.invokespecial idx, 3)) : GSnd own cc nL rt im cap mL pc (xo_objI (pc + 3)) := by
  intro E Lv n0 p e R s m args below meth c Z D cA ad Q X hLv hC hE hX lv st σ h
  obtain ⟨q, st, rfl, h0⟩ := pR_e h
  cases hsm : smal st with
  | false => simp only [hsm] at h0
  | true =>
  simp only [hsm] at h0
  intro H locs cells ls hl hn hc hw
  have hr := lv_room (m := m) (pc := pc) (ls := ls) (rest := (Value.ref q :: st).map (xv ad)) (smal_e (ad := ad) hsm)
  refine W.objInit hC.1.1 hC.1.2.1 hC.1.2.2.2.1 (hC.1.2.2.2.2 _ h1) (hC.1.2.2.2.2 _ h2) (hC.1.2.2.2.2 _ h3) rfl (hl.1.trans hC.1.2.2.1.symm) rfl hdg (by have := hC.2.2.1.1; omega) (by have := hC.2.2.1.2.1; omega) ?_
  exact (hX _ _ _ _ h0 H locs cells ls hl hn hc hw)

def xo_newa (t n N nx : Nat) : XOp := fun E Lv Q X lv st σ => pI st fun x st => match Nat.beq σ.length n with
  | true => (¬ x < 0 ∧ x.toNatClampNeg = N) ∧ X nx lv (.ref n :: st) (σ ++ [.inl (t, N, .inl fun _ => 0)])
  | false => False
def xo_newq (t n N nx : Nat) : XOp := fun E Lv Q X lv st σ => pI st fun x st => match Nat.beq σ.length n with
  | true => (¬ x < 0 ∧ x.toNatClampNeg = N) ∧ X nx lv (.ref n :: st) (σ ++ [.inl (t, N, .inr (.inr (.inr (.inr fun _ => none))))])
  | false => False

theorem gs_newI {n N : Nat} (harr : Cond.arrayClass .int ∈ gTs) (hcap : n + 1 ≤ cap) (hN : N ≤ 1000) (hdg : decode cc pc = .ok (.newarray .int, 2)) : GSnd own cc nL rt im cap mL pc (xo_newa 0 n N (pc + 2)) := by
  intro E Lv n0 p e R s m args below meth c Z D cA ad Q X hLv hC hE hX lv st σ h
  obtain ⟨x, st, rfl, h1⟩ := pI_e h
  cases hb : Nat.beq σ.length n with
  | false => simp only [hb] at h1
  | true =>
  simp only [hb] at h1
  obtain ⟨⟨g1, g2⟩, g3⟩ := h1
  have hlen := Nat.eq_of_beq_eq_true hb
  obtain ⟨C1, C2, C3, ⟨C4, C5, C6⟩, C7, C8⟩ := hC
  intro H locs cells ls hl hn hc hw
  refine gSized (fun hs => ?_)
  have hz := gExact C7 C8 hn (by omega) hw hs
  refine va_newa (atype := .int) C1.1 C1.2.1 (C1.2.2.2.2 _ harr) (ty := .int) rfl hw.1 hw.2.1 (hw.D C7 (by omega)) hw.2.2.1 (fun q hq => by show ad 0 ≤ q; omega) (a0 := (N, .inl fun _ => 0)) (fun _ => rfl) g1 g2 (Nat.le_trans (Nat.mul_le_mul_right _ hN) (Nat.le_of_ble_eq_true rfl)) (by omega) (by omega) hdg (fun q cA1 H1 hK1 hP1 hD1 hS1 => ?_)
  refine gSized (fun hs1 => ?_)
  have e1 : cA1 = cA 0 := by
    have a : s.vm.findClass ("[" ++ (FieldType.int : FieldType).toString) = some cA1 := (hK1.2 4 _ rfl).2
    have b : s.vm.findClass ("[" ++ (FieldType.int : FieldType).toString) = some (cA 0) := (hw.1.2 0 _ rfl).2
    exact Option.some.inj (a.symm.trans b)
  subst e1
  have e2 : q = ad σ.length := gNew C7 (by omega) hP1 hD1 (by omega)
  rw [e2] at hP1 ⊢
  refine W.widen (k := cells + 1) (n := 1000 * (cells + 1)) (by omega) (by omega) ?_
  rw [hlen]
  exact hX _ _ _ _ g3 H1 locs (cells + 1) ls hl (by rw [List.length_append]; show cells + 1 + n0 = σ.length + 1; omega) (by rw [List.length_append]; show σ.length + 1 ≤ cap; omega) (hw.push (e := .inl (0, N, .inl fun _ => 0)) hP1 hS1)

theorem gs_newZ {n N : Nat} (harr : Cond.arrayClass .boolean ∈ gTs) (hcap : n + 1 ≤ cap) (hN : N ≤ 1000) (hdg : decode cc pc = .ok (.newarray .boolean, 2)) : GSnd own cc nL rt im cap mL pc (xo_newa 1 n N (pc + 2)) := by
  intro E Lv n0 p e R s m args below meth c Z D cA ad Q X hLv hC hE hX lv st σ h
  obtain ⟨x, st, rfl, h1⟩ := pI_e h
  cases hb : Nat.beq σ.length n with
  | false => simp only [hb] at h1
  | true =>
  simp only [hb] at h1
  obtain ⟨⟨g1, g2⟩, g3⟩ := h1
  have hlen := Nat.eq_of_beq_eq_true hb
  obtain ⟨C1, C2, C3, ⟨C4, C5, C6⟩, C7, C8⟩ := hC
  intro H locs cells ls hl hn hc hw
  refine gSized (fun hs => ?_)
  have hz := gExact C7 C8 hn (by omega) hw hs
  refine va_newa (atype := .boolean) C1.1 C1.2.1 (C1.2.2.2.2 _ harr) (ty := .boolean) rfl hw.1 hw.2.1 (hw.D C7 (by omega)) hw.2.2.1 (fun q hq => by show ad 0 ≤ q; omega) (a0 := (N, .inl fun _ => 0)) (fun _ => rfl) g1 g2 (Nat.le_trans (Nat.mul_le_mul_right _ hN) (Nat.le_of_ble_eq_true rfl)) (by omega) (by omega) hdg (fun q cA1 H1 hK1 hP1 hD1 hS1 => ?_)
  refine gSized (fun hs1 => ?_)
  have e1 : cA1 = cA 1 := by
    have a : s.vm.findClass ("[" ++ (FieldType.boolean : FieldType).toString) = some cA1 := (hK1.2 4 _ rfl).2
    have b : s.vm.findClass ("[" ++ (FieldType.boolean : FieldType).toString) = some (cA 1) := (hw.1.2 1 _ rfl).2
    exact Option.some.inj (a.symm.trans b)
  subst e1
  have e2 : q = ad σ.length := gNew C7 (by omega) hP1 hD1 (by omega)
  rw [e2] at hP1 ⊢
  refine W.widen (k := cells + 1) (n := 1000 * (cells + 1)) (by omega) (by omega) ?_
  rw [hlen]
  exact hX _ _ _ _ g3 H1 locs (cells + 1) ls hl (by rw [List.length_append]; show cells + 1 + n0 = σ.length + 1; omega) (by rw [List.length_append]; show σ.length + 1 ≤ cap; omega) (hw.push (e := .inl (1, N, .inl fun _ => 0)) hP1 hS1)

theorem gs_newqT {n N index : Nat} (hcl : Cond.classLink own index "WhoBuiltSails$Text" ∈ gTs) (hcap : n + 1 ≤ cap) (hN : N ≤ 1000) (hdg : decode cc pc = .ok (.anewarray index, 3)) : GSnd own cc nL rt im cap mL pc (xo_newq 2 n N (pc + 3)) := by
  intro E Lv n0 p e R s m args below meth c Z D cA ad Q X hLv hC hE hX lv st σ h
  obtain ⟨x, st, rfl, h1⟩ := pI_e h
  cases hb : Nat.beq σ.length n with
  | false => simp only [hb] at h1
  | true =>
  simp only [hb] at h1
  obtain ⟨⟨g1, g2⟩, g3⟩ := h1
  have hlen := Nat.eq_of_beq_eq_true hb
  obtain ⟨C1, C2, C3, ⟨C4, C5, C6⟩, C7, C8⟩ := hC
  intro H locs cells ls hl hn hc hw
  refine gSized (fun hs => ?_)
  have hz := gExact C7 C8 hn (by omega) hw hs
  refine va_newq C1.1 C1.2.1 C1.2.2.2.1 (C1.2.2.2.2 _ hcl) hw.2.2.2.2.1 hw.1 hw.2.1 (hw.D C7 (by omega)) hw.2.2.1 (fun q hq => by show ad 0 ≤ q; omega)  g1 g2 (Nat.le_trans (Nat.mul_le_mul_right _ hN) (Nat.le_of_ble_eq_true rfl)) (by omega) (by omega) hdg (fun q cA1 H1 hK1 hP1 hD1 hS1 => ?_)
  refine gSized (fun hs1 => ?_)
  have e1 : cA1 = cA 2 := by
    obtain ⟨_, _, _, _, _, a⟩ := (hK1.2 4 _ rfl).2
    obtain ⟨_, _, _, _, _, b⟩ := (hw.1.2 2 _ rfl).2
    exact Option.some.inj (a.symm.trans b)
  subst e1
  have e2 : q = ad σ.length := gNew C7 (by omega) hP1 hD1 (by omega)
  rw [e2] at hP1 ⊢
  refine W.widen (k := cells + 1) (n := 1000 * (cells + 1)) (by omega) (by omega) ?_
  rw [hlen]
  exact hX _ _ _ _ g3 H1 locs (cells + 1) ls hl (by rw [List.length_append]; show cells + 1 + n0 = σ.length + 1; omega) (by rw [List.length_append]; show σ.length + 1 ≤ cap; omega) (hw.push (e := .inl (2, N, .inr (.inr (.inr (.inr fun _ => none))))) hP1 hS1)

theorem gs_newqS {n N index : Nat} (hcl : Cond.classLink own index "WhoBuiltSails$Sheet" ∈ gTs) (hcap : n + 1 ≤ cap) (hN : N ≤ 1000) (hdg : decode cc pc = .ok (.anewarray index, 3)) : GSnd own cc nL rt im cap mL pc (xo_newq 3 n N (pc + 3)) := by
  intro E Lv n0 p e R s m args below meth c Z D cA ad Q X hLv hC hE hX lv st σ h
  obtain ⟨x, st, rfl, h1⟩ := pI_e h
  cases hb : Nat.beq σ.length n with
  | false => simp only [hb] at h1
  | true =>
  simp only [hb] at h1
  obtain ⟨⟨g1, g2⟩, g3⟩ := h1
  have hlen := Nat.eq_of_beq_eq_true hb
  obtain ⟨C1, C2, C3, ⟨C4, C5, C6⟩, C7, C8⟩ := hC
  intro H locs cells ls hl hn hc hw
  refine gSized (fun hs => ?_)
  have hz := gExact C7 C8 hn (by omega) hw hs
  refine va_newq C1.1 C1.2.1 C1.2.2.2.1 (C1.2.2.2.2 _ hcl) hw.2.2.2.2.2 hw.1 hw.2.1 (hw.D C7 (by omega)) hw.2.2.1 (fun q hq => by show ad 0 ≤ q; omega)  g1 g2 (Nat.le_trans (Nat.mul_le_mul_right _ hN) (Nat.le_of_ble_eq_true rfl)) (by omega) (by omega) hdg (fun q cA1 H1 hK1 hP1 hD1 hS1 => ?_)
  refine gSized (fun hs1 => ?_)
  have e1 : cA1 = cA 3 := by
    obtain ⟨_, _, _, _, _, a⟩ := (hK1.2 4 _ rfl).2
    obtain ⟨_, _, _, _, _, b⟩ := (hw.1.2 3 _ rfl).2
    exact Option.some.inj (a.symm.trans b)
  subst e1
  have e2 : q = ad σ.length := gNew C7 (by omega) hP1 hD1 (by omega)
  rw [e2] at hP1 ⊢
  refine W.widen (k := cells + 1) (n := 1000 * (cells + 1)) (by omega) (by omega) ?_
  rw [hlen]
  exact hX _ _ _ _ g3 H1 locs (cells + 1) ls hl (by rw [List.length_append]; show cells + 1 + n0 = σ.length + 1; omega) (by rw [List.length_append]; show σ.length + 1 ≤ cap; omega) (hw.push (e := .inl (3, N, .inr (.inr (.inr (.inr fun _ => none))))) hP1 hS1)

def xo_new (ci n : Nat) (fs : List Value) (nx : Nat) : XOp := fun E Lv Q X lv st σ => match Nat.beq σ.length n with
  | true => X nx lv (.ref n :: st) (σ ++ [.inr (ci, fs)])
  | false => False
theorem gs_new {ci N n index : Nat} {C : String} {T : u_T} {ty : Nat → FieldType} {fs : List Value} (hcl : vwCl[ci]? = some (C, T, N)) (hin : ∀ w ∈ u_ws C T N, w ∈ gTs) (hty : ∀ k, k < N → parseFieldDescriptor (T k).2.2.1 = some (ty k)) (h1 : Cond.classLink own index C ∈ gTs) (h2 : Cond.instantiable C N ∈ gTs) (h3 : Cond.initialized C ∈ gTs) (hfs : ∀ j, j < N → defaultValue (ty j) = vp_V fs j) (hfx : ∀ ad, fs.map (xv ad) = fs) (hcap : n + 1 ≤ cap) (hN : N ≤ 1000) (hdg : decode cc pc = .ok (.new index, 3)) : GSnd own cc nL rt im cap mL pc (xo_new ci n fs (pc + 3)) := by
  intro E Lv n0 p e R s m args below meth c Z D cA ad Q X hLv hC hE hX lv st σ h
  cases hb : Nat.beq σ.length n with
  | false =>
    unfold xo_new at h
    simp only [hb] at h
  | true =>
  unfold xo_new at h
  simp only [hb] at h
  have hlen := Nat.eq_of_beq_eq_true hb
  obtain ⟨C1, C2, C3, ⟨C4, C5, C6⟩, C7, C8⟩ := hC
  intro H locs cells ls hl hn hc hw
  refine gSized (fun hs => ?_)
  have hz := gExact C7 C8 hn (by omega) hw hs
  refine va_new C1.1 C1.2.1 C1.2.2.2.2 hin ty hty C1.2.2.2.1 (C1.2.2.2.2 _ h1) (C1.2.2.2.2 _ h2) (C1.2.2.2.2 _ h3) hw.1 hw.2.1 (hw.D C7 (by omega)) hw.2.2.1 (fun q hq => by show ad 0 ≤ q; omega) hcl hfs (by omega) (by omega) hdg (fun q H1 hP1 hD1 hS1 => ?_)
  refine gSized (fun hs1 => ?_)
  have e2 : q = ad σ.length := gNew C7 (by omega) hP1 hD1 (by omega)
  rw [e2] at hP1 ⊢
  refine W.widen (k := cells + 1) (n := 1000 * (cells + 1)) (by omega) (by omega) ?_
  rw [hlen]
  have e3 : (Sum.inr (ci, fs) : va_E) = xe cA ad (.inr (ci, fs)) := by
    show _ = Sum.inr (ci, fs.map (xv ad))
    rw [hfx]
  rw [e3] at hP1
  exact hX _ _ _ _ h H1 locs (cells + 1) ls hl (by rw [List.length_append]; show cells + 1 + n0 = σ.length + 1; omega) (by rw [List.length_append]; show σ.length + 1 ≤ cap; omega) (hw.push (e := .inr (ci, fs)) hP1 hS1)
end GSOUND
