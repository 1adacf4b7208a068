-- ===== small readers: what isn't there makes False; lists come out with their places laid =====
def pI (st : List Value) (k : Int32 → List Value → Prop) : Prop := match st with
  | .int x :: r => k x r
  | _ => False
theorem pI_e {st : List Value} {k : Int32 → List Value → Prop} (h : pI st k) : ∃ x r, st = .int x :: r ∧ k x r := by
  unfold pI at h
  split at h
  · exact ⟨_, _, rfl, h⟩
  · exact h.elim
def pJ (st : List Value) (k : Int64 → List Value → Prop) : Prop := match st with
  | .long x :: r => k x r
  | _ => False
theorem pJ_e {st : List Value} {k : Int64 → List Value → Prop} (h : pJ st k) : ∃ x r, st = .long x :: r ∧ k x r := by
  unfold pJ at h
  split at h
  · exact ⟨_, _, rfl, h⟩
  · exact h.elim
def pR (st : List Value) (k : Nat → List Value → Prop) : Prop := match st with
  | .ref x :: r => k x r
  | _ => False
theorem pR_e {st : List Value} {k : Nat → List Value → Prop} (h : pR st k) : ∃ x r, st = .ref x :: r ∧ k x r := by
  unfold pR at h
  split at h
  · exact ⟨_, _, rfl, h⟩
  · exact h.elim
def gL : XL → Nat → (Value → Prop) → Prop
  | [], _, _ => False
  | (j, v) :: r, i, k => match Nat.beq j i with
    | true => k v
    | false => gL r i k
theorem gL_e : ∀ {lv : XL} {i : Nat} {k : Value → Prop}, gL lv i k → ∃ v, (i, v) ∈ lv ∧ k v
  | [], _, _, h => h.elim
  | (j, v) :: r, i, k, h => by
    unfold gL at h
    cases hb : Nat.beq j i with
    | true =>
      rw [hb] at h
      have : j = i := Nat.eq_of_beq_eq_true hb
      subst this
      exact ⟨v, List.mem_cons_self, h⟩
    | false =>
      rw [hb] at h
      obtain ⟨w, h1, h2⟩ := gL_e h
      exact ⟨w, List.mem_cons_of_mem _ h1, h2⟩
def gI (lv : XL) (i : Nat) (k : Int32 → Prop) : Prop := gL lv i fun v => match v with
  | .int x => k x
  | _ => False
theorem gI_e {lv : XL} {i : Nat} {k : Int32 → Prop} (h : gI lv i k) : ∃ x, (i, Value.int x) ∈ lv ∧ k x := by
  obtain ⟨v, h1, h2⟩ := gL_e h
  cases v <;> first | exact ⟨_, h1, h2⟩ | exact h2.elim
def gJ (lv : XL) (i : Nat) (k : Int64 → Prop) : Prop := gL lv i fun v => match v with
  | .long x => k x
  | _ => False
theorem gJ_e {lv : XL} {i : Nat} {k : Int64 → Prop} (h : gJ lv i k) : ∃ x, (i, Value.long x) ∈ lv ∧ k x := by
  obtain ⟨v, h1, h2⟩ := gL_e h
  cases v <;> first | exact ⟨_, h1, h2⟩ | exact h2.elim
def gR (lv : XL) (i : Nat) (k : Nat → Prop) : Prop := gL lv i fun v => match v with
  | .ref x => k x
  | _ => False
theorem gR_e {lv : XL} {i : Nat} {k : Nat → Prop} (h : gR lv i k) : ∃ x, (i, Value.ref x) ∈ lv ∧ k x := by
  obtain ⟨v, h1, h2⟩ := gL_e h
  cases v <;> first | exact ⟨_, h1, h2⟩ | exact h2.elim
/-- a local that stays when i (wide: and i + 1) is written -/
def sK (i : Nat) (wide : Bool) (q : Nat × Value) : Bool := match Nat.beq q.1 i with
  | true => false
  | false => match and wide (Nat.beq q.1 (i + 1)) with
    | true => false
    | false => match Nat.beq (q.1 + 1) i with
      | false => true
      | true => match q.2 with
        | .long _ => false
        | .double _ => false
        | _ => true
def fL (i : Nat) (wide : Bool) : XL → (XL → Prop) → Prop
  | [], k => k []
  | q :: r, k => match sK i wide q with
    | true => fL i wide r fun r' => k (q :: r')
    | false => fL i wide r k
def iL (i : Nat) (v : Value) : XL → (XL → Prop) → Prop
  | [], k => k [(i, v)]
  | q :: r, k => match Nat.blt q.1 i with
    | true => iL i v r fun r' => k (q :: r')
    | false => k ((i, v) :: q :: r)
def sL (lv : XL) (i : Nat) (v : Value) (wide : Bool) (k : XL → Prop) : Prop := fL i wide lv fun l => iL i v l k
theorem fL_e (i : Nat) (wide : Bool) : ∀ (lv : XL) (k : XL → Prop), fL i wide lv k → k (lv.filter (sK i wide))
  | [], k, h => h
  | q :: r, k, h => by
    unfold fL at h
    cases hb : sK i wide q with
    | true =>
      rw [hb] at h
      rw [List.filter_cons_of_pos hb]
      exact fL_e i wide r _ h
    | false =>
      rw [hb] at h
      rw [List.filter_cons_of_neg (by rw [hb]; exact Bool.false_ne_true)]
      exact fL_e i wide r k h
theorem iL_e (i : Nat) (v : Value) : ∀ (lv : XL) (k : XL → Prop), iL i v lv k → ∃ l', k l' ∧ ∀ q ∈ l', q = (i, v) ∨ q ∈ lv
  | [], k, h => ⟨_, h, fun q hq => Or.inl (List.mem_singleton.mp hq)⟩
  | q :: r, k, h => by
    unfold iL at h
    cases hb : Nat.blt q.1 i with
    | true =>
      rw [hb] at h
      obtain ⟨l', h1, h2⟩ := iL_e i v r _ h
      refine ⟨_, h1, fun z hz => ?_⟩
      rcases List.mem_cons.mp hz with rfl | hz
      · exact Or.inr List.mem_cons_self
      · exact (h2 z hz).imp id (List.mem_cons_of_mem _)
    | false =>
      rw [hb] at h
      exact ⟨_, h, fun z hz => (List.mem_cons.mp hz).imp id id⟩
theorem sL_e {lv : XL} {i : Nat} {v : Value} {wide : Bool} {k : XL → Prop} (h : sL lv i v wide k) : ∃ l', k l' ∧ ∀ q ∈ l', q = (i, v) ∨ q ∈ lv.filter (sK i wide) := iL_e i v _ _ (fL_e i wide lv _ h)
theorem sK_n {i : Nat} {q : Nat × Value} (h : sK i false q = true) : (!(q.1 == i) && !(q.1 + 1 == i && q.2.category == 2)) = true := by
  obtain ⟨j, v⟩ := q
  unfold sK at h
  simp only [Bool.false_and] at h
  cases h1 : Nat.beq j i with
  | true => rw [h1] at h; cases h
  | false =>
    rw [h1] at h
    have n1 : ¬ j = i := fun z => by rw [z, Nat.beq_refl] at h1; cases h1
    cases h2 : Nat.beq (j + 1) i with
    | false =>
      have n2 : ¬ j + 1 = i := fun z => by rw [z, Nat.beq_refl] at h2; cases h2
      simp [n1, n2]
    | true =>
      rw [h2] at h
      cases v <;> first | exact absurd h Bool.false_ne_true | simp [n1, Value.category]
theorem sK_w {i : Nat} {q : Nat × Value} (h : sK i true q = true) : (!(q.1 == i) && (!(q.1 == i + 1) && !(q.1 + 1 == i && q.2.category == 2))) = true := by
  obtain ⟨j, v⟩ := q
  unfold sK at h
  simp only [Bool.true_and] at h
  cases h1 : Nat.beq j i with
  | true => rw [h1] at h; cases h
  | false =>
    rw [h1] at h
    have n1 : ¬ j = i := fun z => by rw [z, Nat.beq_refl] at h1; cases h1
    cases h3 : Nat.beq j (i + 1) with
    | true => rw [h3] at h; cases h
    | false =>
      rw [h3] at h
      have n3 : ¬ j = i + 1 := fun z => by rw [z, Nat.beq_refl] at h3; cases h3
      cases h2 : Nat.beq (j + 1) i with
      | false =>
        have n2 : ¬ j + 1 = i := fun z => by rw [z, Nat.beq_refl] at h2; cases h2
        simp [n1, n2, n3]
      | true =>
        rw [h2] at h
        cases v <;> first | exact absurd h Bool.false_ne_true | simp [n1, n3, Value.category]
theorem xl_sub {ls : Array Slot} {nL : Nat} {ad : Nat → Nat} {lv lv' : XL} {i : Nat} {v : Value} {f : Nat × Value → Bool} {wide : Bool} (hf : ∀ q : Nat × Value, sK i wide q = true → f (q.1, xv ad q.2) = true) (h : lv_has ls nL ((i, xv ad v) :: (xl ad lv).filter f)) (hq : ∀ q ∈ lv', q = (i, v) ∨ q ∈ lv.filter (sK i wide)) : lv_has ls nL (xl ad lv') := by
  refine ⟨h.1, h.2.1, fun q hq0 => ?_⟩
  obtain ⟨z, h1, rfl⟩ := List.mem_map.mp hq0
  rcases hq z h1 with rfl | h2
  · exact h.2.2 _ List.mem_cons_self
  · obtain ⟨h3, h4⟩ := List.mem_filter.mp h2
    exact h.2.2 (z.1, xv ad z.2) (List.mem_cons_of_mem _ (List.mem_filter.mpr ⟨List.mem_map.mpr ⟨z, h3, rfl⟩, hf z h4⟩))
theorem xl_mem {ls : Array Slot} {nL : Nat} {ad : Nat → Nat} {lv : XL} {i : Nat} {v : Value} (h : lv_has ls nL (xl ad lv)) (hm : (i, v) ∈ lv) : ls[i]? = some (.val (xv ad v)) := h.2.2 (i, xv ad v) (List.mem_map.mpr ⟨(i, v), hm, rfl⟩)
def nth {α : Type} : List α → Nat → (α → Prop) → Prop
  | [], _, _ => False
  | a :: _, 0, k => k a
  | _ :: r, n + 1, k => nth r n k
theorem nth_e {α : Type} : ∀ {l : List α} {n : Nat} {k : α → Prop}, nth l n k → ∃ a, l[n]? = some a ∧ k a
  | [], _, _, h => h.elim
  | a :: _, 0, _, h => ⟨a, rfl, h⟩
  | _ :: r, n + 1, _, h => nth_e (l := r) (n := n) h
def stW {α : Type} : List α → Nat → α → (List α → Prop) → Prop
  | [], _, _, k => k []
  | _ :: r, 0, b, k => k (b :: r)
  | a :: r, n + 1, b, k => stW r n b fun r' => k (a :: r')
theorem stW_e {α : Type} : ∀ {l : List α} {n : Nat} {b : α} {k : List α → Prop}, stW l n b k → k (l.set n b)
  | [], _, _, _, h => h
  | _ :: _, 0, _, _, h => h
  | _ :: r, n + 1, _, _, h => stW_e (l := r) (n := n) h
def hO (σ : XW) (q ci : Nat) (k : List Value → Prop) : Prop := nth σ q fun e => match e with
  | .inr (c, fs) => match Nat.beq c ci with
    | true => k fs
    | false => False
  | .inl _ => False
theorem hO_e {σ : XW} {q ci : Nat} {k : List Value → Prop} (h : hO σ q ci k) : ∃ fs, σ[q]? = some (.inr (ci, fs)) ∧ k fs := by
  obtain ⟨e, h1, h2⟩ := nth_e h
  match e, h1, h2 with
  | .inr (c, fs), h1, h2 =>
    dsimp only at h2
    cases hb : Nat.beq c ci with
    | true =>
      rw [hb] at h2
      rw [Nat.eq_of_beq_eq_true hb] at h1
      exact ⟨fs, h1, h2⟩
    | false => rw [hb] at h2; exact h2.elim
  | .inl _, _, h2 => exact h2.elim
def hA (σ : XW) (q t : Nat) (k : Nat → (Nat → Int32) → Prop) : Prop := nth σ q fun e => match e with
  | .inl (t', n, .inl f) => match Nat.beq t' t with
    | true => k n f
    | false => False
  | _ => False
theorem hA_e {σ : XW} {q t : Nat} {k : Nat → (Nat → Int32) → Prop} (h : hA σ q t k) : ∃ n f, σ[q]? = some (.inl (t, n, .inl f)) ∧ k n f := by
  obtain ⟨e, h1, h2⟩ := nth_e h
  split at h2
  next t' n f =>
    cases hb : Nat.beq t' t with
    | true =>
      rw [hb] at h2
      rw [Nat.eq_of_beq_eq_true hb] at h1
      exact ⟨n, f, h1, h2⟩
    | false => rw [hb] at h2; exact h2.elim
  next => exact h2.elim
def hQ (σ : XW) (q t : Nat) (k : Nat → (Nat → Option Nat) → Prop) : Prop := nth σ q fun e => match e with
  | .inl (t', n, .inr (.inr (.inr (.inr f)))) => match Nat.beq t' t with
    | true => k n f
    | false => False
  | _ => False
theorem hQ_e {σ : XW} {q t : Nat} {k : Nat → (Nat → Option Nat) → Prop} (h : hQ σ q t k) : ∃ n f, σ[q]? = some (.inl (t, n, .inr (.inr (.inr (.inr f))))) ∧ k n f := by
  obtain ⟨e, h1, h2⟩ := nth_e h
  split at h2
  next t' n f =>
    cases hb : Nat.beq t' t with
    | true =>
      rw [hb] at h2
      rw [Nat.eq_of_beq_eq_true hb] at h1
      exact ⟨n, f, h1, h2⟩
    | false => rw [hb] at h2; exact h2.elim
  next => exact h2.elim
def pN : Nat → List Value → List Value → (List Value → List Value → Prop) → Prop
  | 0, acc, st, k => k acc st
  | n + 1, acc, v :: st, k => pN n (v :: acc) st k
  | _ + 1, _, [], _ => False
theorem pN_e : ∀ {n : Nat} {acc st : List Value} {k : List Value → List Value → Prop}, pN n acc st k → ∃ as r, st = as.reverse ++ r ∧ as.length = n ∧ k (as ++ acc) r
  | 0, acc, st, k, h => ⟨[], st, rfl, rfl, h⟩
  | n + 1, acc, v :: st, k, h => by
    obtain ⟨as, r, h1, h2, h3⟩ := pN_e (n := n) h
    exact ⟨as ++ [v], r, by simp [h1], by simp [h2], by simpa using h3⟩
  | _ + 1, _, [], _, h => h.elim
def wsum : List Value → Nat
  | [] => 0
  | .long _ :: r => wsum r + 2
  | .double _ :: r => wsum r + 2
  | _ :: r => wsum r + 1
theorem wsum_e (ad : Nat → Nat) : ∀ st : List Value, ((st.map (xv ad)).map fun v => v.category).sum = wsum st
  | [] => rfl
  | v :: r => by
    have ih := wsum_e ad r
    cases v <;> simp_all [wsum, xv, Value.category, Nat.add_comm]
def smal (st : List Value) : Bool := Nat.ble (wsum st) 8
theorem smal_e {ad : Nat → Nat} {st : List Value} (h : smal st = true) : ((st.map (xv ad)).map fun v => v.category).sum ≤ 8 := by
  rw [wsum_e]
  exact Nat.le_of_ble_eq_true h
def xpush (r : Option Value) (st : List Value) : List Value := match r with
  | some v => v :: st
  | none => st
theorem xpush_e (ad : Nat → Nat) {r : Option Value} (h : xok r) (st : List Value) : (xpush r st).map (xv ad) = r.toList ++ st.map (xv ad) := by
  match r, h with
  | none, _ => rfl
  | some (.int _), _ => rfl
  | some (.long _), _ => rfl
  | some (.float _), _ => rfl
  | some (.double _), _ => rfl
  | some .null, _ => rfl
  | some (.retAddr _), _ => rfl
-- ===== the machine keeps an operation =====
def XSnd (own : String) (cc : ByteArray) (nL : Nat) (rt : Option FieldType) (mL : Nat) (pc : Nat) (op : XOp) : Prop :=
  ∀ (E : XEnv) (Lv n0 : Nat) (Q : XQ) (X : XK), mL ≤ Lv → (∀ pc' lv st σ, X pc' lv st σ → XAt E own cc nL rt Lv n0 Q pc' lv st σ) → ∀ (lv : XL) (st : List Value) (σ : XW), op E Lv Q X lv st σ → XAt E own cc nL rt Lv n0 Q pc lv st σ
section XSOUND
variable {own : String} {cc : ByteArray} {nL : Nat} {rt : Option FieldType} {mL pc : Nat}
def xo_ic (v : Int32) (nx : Nat) : XOp := fun E Lv Q X lv st σ => X nx lv (.int v :: st) σ
theorem xs_iconst {n : Int} {v : Int32} (hdg : decode cc pc = .ok (.iconst n, 1)) (hv : Int32.ofInt n = v) : XSnd own cc nL rt mL pc (xo_ic v (pc + 1)) := by
  intro E Lv n0 Q X hLv hX lv st σ h
  intro p e R s m args below meth c H locs cells slots Z D cA ad A ls hC hR hl hw hE
  exact lv_iconst hC.1 hC.2.1 hdg hv (hX _ _ _ _ h p e R s m args below meth c H locs cells slots Z D cA ad A ls hC hR hl hw hE)
theorem xs_bipush {n : Int} {v : Int32} (hdg : decode cc pc = .ok (.bipush n, 2)) (hv : (Int8.ofInt n).toInt32 = v) : XSnd own cc nL rt mL pc (xo_ic v (pc + 2)) := by
  intro E Lv n0 Q X hLv hX lv st σ h
  intro p e R s m args below meth c H locs cells slots Z D cA ad A ls hC hR hl hw hE
  exact lv_bipush hC.1 hC.2.1 hdg hv (hX _ _ _ _ h p e R s m args below meth c H locs cells slots Z D cA ad A ls hC hR hl hw hE)
theorem xs_sipush {n : Int} {v : Int32} (hdg : decode cc pc = .ok (.sipush n, 3)) (hv : (Int16.ofInt n).toInt32 = v) : XSnd own cc nL rt mL pc (xo_ic v (pc + 3)) := by
  intro E Lv n0 Q X hLv hX lv st σ h
  intro p e R s m args below meth c H locs cells slots Z D cA ad A ls hC hR hl hw hE
  exact lv_sipush hC.1 hC.2.1 hdg hv (hX _ _ _ _ h p e R s m args below meth c H locs cells slots Z D cA ad A ls hC hR hl hw hE)
theorem xs_ldc_w {index : Nat} {v : Int32} (hc : Cond.constant own index v ∈ gTs) (hdg : decode cc pc = .ok (.ldc_w index, 3)) : XSnd own cc nL rt mL pc (xo_ic v (pc + 3)) := by
  intro E Lv n0 Q X hLv hX lv st σ h
  intro p e R s m args below meth c H locs cells slots Z D cA ad A ls hC hR hl hw hE
  exact lv_ldcw hC.1 hC.2.1 hC.2.2.2.1 (hC.2.2.2.2 _ hc) hdg (hX _ _ _ _ h p e R s m args below meth c H locs cells slots Z D cA ad A ls hC hR hl hw hE)
theorem xs_ldc {index : Nat} {v : Int32} (hc : Cond.constant own index v ∈ gTs) (hdg : decode cc pc = .ok (.ldc index, 2)) : XSnd own cc nL rt mL pc (xo_ic v (pc + 2)) := by
  intro E Lv n0 Q X hLv hX lv st σ h
  intro p e R s m args below meth c H locs cells slots Z D cA ad A ls hC hR hl hw hE
  exact lv_ldc hC.1 hC.2.1 hC.2.2.2.1 (hC.2.2.2.2 _ hc) hdg (hX _ _ _ _ h p e R s m args below meth c H locs cells slots Z D cA ad A ls hC hR hl hw hE)
def xo_lc (v : Int64) (nx : Nat) : XOp := fun E Lv Q X lv st σ => X nx lv (.long v :: st) σ
theorem xs_lconst {n : Fin 2} {v : Int64} (hdg : decode cc pc = .ok (.lconst n, 1)) (hv : Int64.ofNat (n : Nat) = v) : XSnd own cc nL rt mL pc (xo_lc v (pc + 1)) := by
  intro E Lv n0 Q X hLv hX lv st σ h
  intro p e R s m args below meth c H locs cells slots Z D cA ad A ls hC hR hl hw hE
  exact lv_lconst hC.1 hC.2.1 hdg hv (hX _ _ _ _ h p e R s m args below meth c H locs cells slots Z D cA ad A ls hC hR hl hw hE)
theorem xs_ldc2 {index : Nat} {v : Int64} (hc : Cond.constantLong own index v ∈ gTs) (hdg : decode cc pc = .ok (.ldc2_w index, 3)) : XSnd own cc nL rt mL pc (xo_lc v (pc + 3)) := by
  intro E Lv n0 Q X hLv hX lv st σ h
  intro p e R s m args below meth c H locs cells slots Z D cA ad A ls hC hR hl hw hE
  exact lv_ldc2 hC.1 hC.2.1 hC.2.2.2.1 (hC.2.2.2.2 _ hc) hdg (hX _ _ _ _ h p e R s m args below meth c H locs cells slots Z D cA ad A ls hC hR hl hw hE)
def xo_il (i : Nat) (nx : Nat) : XOp := fun E Lv Q X lv st σ => gI lv i fun x => X nx lv (.int x :: st) σ
theorem xs_iload_n {k : Fin 4} {i : Nat} (hdg : decode cc pc = .ok (.iload_n k, 1)) (hi : (k : Nat) = i) : XSnd own cc nL rt mL pc (xo_il i (pc + 1)) := by
  intro E Lv n0 Q X hLv hX lv st σ h
  obtain ⟨x, hm, h1⟩ := gI_e h
  intro p e R s m args below meth c H locs cells slots Z D cA ad A ls hC hR hl hw hE
  exact lv_iload_n hC.1 hC.2.1 hdg hi (xl_mem hl hm) (hX _ _ _ _ h1 p e R s m args below meth c H locs cells slots Z D cA ad A ls hC hR hl hw hE)
theorem xs_iload {i : Nat} (hdg : decode cc pc = .ok (.iload i, 2)) : XSnd own cc nL rt mL pc (xo_il i (pc + 2)) := by
  intro E Lv n0 Q X hLv hX lv st σ h
  obtain ⟨x, hm, h1⟩ := gI_e h
  intro p e R s m args below meth c H locs cells slots Z D cA ad A ls hC hR hl hw hE
  exact lv_iload hC.1 hC.2.1 hdg (xl_mem hl hm) (hX _ _ _ _ h1 p e R s m args below meth c H locs cells slots Z D cA ad A ls hC hR hl hw hE)
def xo_ll (i : Nat) (nx : Nat) : XOp := fun E Lv Q X lv st σ => gJ lv i fun x => X nx lv (.long x :: st) σ
theorem xs_lload_n {k : Fin 4} {i : Nat} (hdg : decode cc pc = .ok (.lload_n k, 1)) (hi : (k : Nat) = i) : XSnd own cc nL rt mL pc (xo_ll i (pc + 1)) := by
  intro E Lv n0 Q X hLv hX lv st σ h
  obtain ⟨x, hm, h1⟩ := gJ_e h
  intro p e R s m args below meth c H locs cells slots Z D cA ad A ls hC hR hl hw hE
  exact lv_lload_n hC.1 hC.2.1 hdg hi (xl_mem hl hm) (hX _ _ _ _ h1 p e R s m args below meth c H locs cells slots Z D cA ad A ls hC hR hl hw hE)
theorem xs_lload {i : Nat} (hdg : decode cc pc = .ok (.lload i, 2)) : XSnd own cc nL rt mL pc (xo_ll i (pc + 2)) := by
  intro E Lv n0 Q X hLv hX lv st σ h
  obtain ⟨x, hm, h1⟩ := gJ_e h
  intro p e R s m args below meth c H locs cells slots Z D cA ad A ls hC hR hl hw hE
  exact lv_lload hC.1 hC.2.1 hdg (xl_mem hl hm) (hX _ _ _ _ h1 p e R s m args below meth c H locs cells slots Z D cA ad A ls hC hR hl hw hE)
def xo_al (i : Nat) (nx : Nat) : XOp := fun E Lv Q X lv st σ => gR lv i fun x => X nx lv (.ref x :: st) σ
theorem xs_aload_n {k : Fin 4} {i : Nat} (hdg : decode cc pc = .ok (.aload_n k, 1)) (hi : (k : Nat) = i) : XSnd own cc nL rt mL pc (xo_al i (pc + 1)) := by
  intro E Lv n0 Q X hLv hX lv st σ h
  obtain ⟨x, hm, h1⟩ := gR_e h
  intro p e R s m args below meth c H locs cells slots Z D cA ad A ls hC hR hl hw hE
  exact lv_aload_n hC.1 hC.2.1 hdg hi (xl_mem hl hm) (hX _ _ _ _ h1 p e R s m args below meth c H locs cells slots Z D cA ad A ls hC hR hl hw hE)
theorem xs_aload {i : Nat} (hdg : decode cc pc = .ok (.aload i, 2)) : XSnd own cc nL rt mL pc (xo_al i (pc + 2)) := by
  intro E Lv n0 Q X hLv hX lv st σ h
  obtain ⟨x, hm, h1⟩ := gR_e h
  intro p e R s m args below meth c H locs cells slots Z D cA ad A ls hC hR hl hw hE
  exact lv_aload hC.1 hC.2.1 hdg (xl_mem hl hm) (hX _ _ _ _ h1 p e R s m args below meth c H locs cells slots Z D cA ad A ls hC hR hl hw hE)
def xo_is (i : Nat) (nx : Nat) : XOp := fun E Lv Q X lv st σ => pI st fun x st => sL lv i (.int x) false fun lv => X nx lv st σ
theorem xs_istore_n {k : Fin 4} {i : Nat} (hdg : decode cc pc = .ok (.istore_n k, 1)) (hi : (k : Nat) = i) (hn : i < nL) : XSnd own cc nL rt mL pc (xo_is i (pc + 1)) := by
  intro E Lv n0 Q X hLv hX lv st σ h
  obtain ⟨x, st, rfl, h1⟩ := pI_e h
  obtain ⟨lv', h2, hq⟩ := sL_e h1
  intro p e R s m args below meth c H locs cells slots Z D cA ad A ls hC hR hl hw hE
  exact lv_istore_n hC.1 hC.2.1 hdg hi hl hn rfl (fun ls' hl' => (hX _ _ _ _ h2 p e R s m args below meth c H locs cells slots Z D cA ad A ls' hC hR (xl_sub (fun q hq => by have := sK_n hq; rw [xv_cat]; exact this) hl' hq) hw hE))
theorem xs_istore {i : Nat} (hdg : decode cc pc = .ok (.istore i, 2)) (hn : i < nL) : XSnd own cc nL rt mL pc (xo_is i (pc + 2)) := by
  intro E Lv n0 Q X hLv hX lv st σ h
  obtain ⟨x, st, rfl, h1⟩ := pI_e h
  obtain ⟨lv', h2, hq⟩ := sL_e h1
  intro p e R s m args below meth c H locs cells slots Z D cA ad A ls hC hR hl hw hE
  exact lv_istore hC.1 hC.2.1 hdg hl hn rfl (fun ls' hl' => (hX _ _ _ _ h2 p e R s m args below meth c H locs cells slots Z D cA ad A ls' hC hR (xl_sub (fun q hq => by have := sK_n hq; rw [xv_cat]; exact this) hl' hq) hw hE))
def xo_ls (i : Nat) (nx : Nat) : XOp := fun E Lv Q X lv st σ => pJ st fun x st => sL lv i (.long x) true fun lv => X nx lv st σ
theorem xs_lstore {i : Nat} (hdg : decode cc pc = .ok (.lstore i, 2)) (hn : i + 1 < nL) : XSnd own cc nL rt mL pc (xo_ls i (pc + 2)) := by
  intro E Lv n0 Q X hLv hX lv st σ h
  obtain ⟨x, st, rfl, h1⟩ := pJ_e h
  obtain ⟨lv', h2, hq⟩ := sL_e h1
  intro p e R s m args below meth c H locs cells slots Z D cA ad A ls hC hR hl hw hE
  exact lv_lstore hC.1 hC.2.1 hdg hl hn rfl (fun ls' hl' => (hX _ _ _ _ h2 p e R s m args below meth c H locs cells slots Z D cA ad A ls' hC hR (xl_sub (fun q hq => by have := sK_w hq; rw [xv_cat]; exact this) hl' hq) hw hE))
def xo_as (i : Nat) (nx : Nat) : XOp := fun E Lv Q X lv st σ => pR st fun x st => sL lv i (.ref x) false fun lv => X nx lv st σ
theorem xs_astore_n {k : Fin 4} {i : Nat} (hdg : decode cc pc = .ok (.astore_n k, 1)) (hi : (k : Nat) = i) (hn : i < nL) : XSnd own cc nL rt mL pc (xo_as i (pc + 1)) := by
  intro E Lv n0 Q X hLv hX lv st σ h
  obtain ⟨x, st, rfl, h1⟩ := pR_e h
  obtain ⟨lv', h2, hq⟩ := sL_e h1
  intro p e R s m args below meth c H locs cells slots Z D cA ad A ls hC hR hl hw hE
  exact lv_astore_n hC.1 hC.2.1 hdg hi hl hn rfl (fun ls' hl' => (hX _ _ _ _ h2 p e R s m args below meth c H locs cells slots Z D cA ad A ls' hC hR (xl_sub (fun q hq => by have := sK_n hq; rw [xv_cat]; exact this) hl' hq) hw hE))
theorem xs_astore {i : Nat} (hdg : decode cc pc = .ok (.astore i, 2)) (hn : i < nL) : XSnd own cc nL rt mL pc (xo_as i (pc + 2)) := by
  intro E Lv n0 Q X hLv hX lv st σ h
  obtain ⟨x, st, rfl, h1⟩ := pR_e h
  obtain ⟨lv', h2, hq⟩ := sL_e h1
  intro p e R s m args below meth c H locs cells slots Z D cA ad A ls hC hR hl hw hE
  exact lv_astore hC.1 hC.2.1 hdg hl hn rfl (fun ls' hl' => (hX _ _ _ _ h2 p e R s m args below meth c H locs cells slots Z D cA ad A ls' hC hR (xl_sub (fun q hq => by have := sK_n hq; rw [xv_cat]; exact this) hl' hq) hw hE))
def xo_inc (i : Nat) (v : Int32) (nx : Nat) : XOp := fun E Lv Q X lv st σ => gI lv i fun x => sL lv i (.int (x + v)) false fun lv => X nx lv st σ
theorem xs_iinc {i : Nat} {n : Int} {v : Int32} (hdg : decode cc pc = .ok (.iinc i n, 3)) (hv : Int32.ofInt n = v) (hn : i < nL) : XSnd own cc nL rt mL pc (xo_inc i v (pc + 3)) := by
  intro E Lv n0 Q X hLv hX lv st σ h
  obtain ⟨x, hm, h1⟩ := gI_e h
  obtain ⟨lv', h2, hq⟩ := sL_e h1
  intro p e R s m args below meth c H locs cells slots Z D cA ad A ls hC hR hl hw hE
  obtain ⟨k, hk⟩ := List.getElem?_of_mem (show (i, Value.int x) ∈ xl ad lv from List.mem_map.mpr ⟨_, hm, rfl⟩)
  exact lv_iinc hC.1 hC.2.1 hdg hl hk (by rw [hv]) hn rfl (fun ls' hl' => (hX _ _ _ _ h2 p e R s m args below meth c H locs cells slots Z D cA ad A ls' hC hR (xl_sub (fun q hq => by have := sK_n hq; rw [xv_cat]; exact this) hl' hq) hw hE))
def xo_iadd (nx : Nat) : XOp := fun E Lv Q X lv st σ => pI st fun y st => pI st fun x st => X nx lv (.int (x + y) :: st) σ
theorem xs_iadd (hdg : decode cc pc = .ok (.iadd, 1)) : XSnd own cc nL rt mL pc (xo_iadd (pc + 1)) := by
  intro E Lv n0 Q X hLv hX lv st σ h
  obtain ⟨y, st, rfl, h1⟩ := pI_e h
  obtain ⟨x, st, rfl, h2⟩ := pI_e h1
  intro p e R s m args below meth c H locs cells slots Z D cA ad A ls hC hR hl hw hE
  exact lv_iadd hC.1 hC.2.1 hdg (hX _ _ _ _ h2 p e R s m args below meth c H locs cells slots Z D cA ad A ls hC hR hl hw hE)
def xo_isub (nx : Nat) : XOp := fun E Lv Q X lv st σ => pI st fun y st => pI st fun x st => X nx lv (.int (x - y) :: st) σ
theorem xs_isub (hdg : decode cc pc = .ok (.isub, 1)) : XSnd own cc nL rt mL pc (xo_isub (pc + 1)) := by
  intro E Lv n0 Q X hLv hX lv st σ h
  obtain ⟨y, st, rfl, h1⟩ := pI_e h
  obtain ⟨x, st, rfl, h2⟩ := pI_e h1
  intro p e R s m args below meth c H locs cells slots Z D cA ad A ls hC hR hl hw hE
  exact lv_isub hC.1 hC.2.1 hdg (hX _ _ _ _ h2 p e R s m args below meth c H locs cells slots Z D cA ad A ls hC hR hl hw hE)
def xo_imul (nx : Nat) : XOp := fun E Lv Q X lv st σ => pI st fun y st => pI st fun x st => X nx lv (.int (x * y) :: st) σ
theorem xs_imul (hdg : decode cc pc = .ok (.imul, 1)) : XSnd own cc nL rt mL pc (xo_imul (pc + 1)) := by
  intro E Lv n0 Q X hLv hX lv st σ h
  obtain ⟨y, st, rfl, h1⟩ := pI_e h
  obtain ⟨x, st, rfl, h2⟩ := pI_e h1
  intro p e R s m args below meth c H locs cells slots Z D cA ad A ls hC hR hl hw hE
  exact lv_imul hC.1 hC.2.1 hdg (hX _ _ _ _ h2 p e R s m args below meth c H locs cells slots Z D cA ad A ls hC hR hl hw hE)
def xo_iand (nx : Nat) : XOp := fun E Lv Q X lv st σ => pI st fun y st => pI st fun x st => X nx lv (.int (x &&& y) :: st) σ
theorem xs_iand (hdg : decode cc pc = .ok (.iand, 1)) : XSnd own cc nL rt mL pc (xo_iand (pc + 1)) := by
  intro E Lv n0 Q X hLv hX lv st σ h
  obtain ⟨y, st, rfl, h1⟩ := pI_e h
  obtain ⟨x, st, rfl, h2⟩ := pI_e h1
  intro p e R s m args below meth c H locs cells slots Z D cA ad A ls hC hR hl hw hE
  exact lv_iand hC.1 hC.2.1 hdg (hX _ _ _ _ h2 p e R s m args below meth c H locs cells slots Z D cA ad A ls hC hR hl hw hE)
def xo_ior (nx : Nat) : XOp := fun E Lv Q X lv st σ => pI st fun y st => pI st fun x st => X nx lv (.int (x ||| y) :: st) σ
theorem xs_ior (hdg : decode cc pc = .ok (.ior, 1)) : XSnd own cc nL rt mL pc (xo_ior (pc + 1)) := by
  intro E Lv n0 Q X hLv hX lv st σ h
  obtain ⟨y, st, rfl, h1⟩ := pI_e h
  obtain ⟨x, st, rfl, h2⟩ := pI_e h1
  intro p e R s m args below meth c H locs cells slots Z D cA ad A ls hC hR hl hw hE
  exact lv_ior hC.1 hC.2.1 hdg (hX _ _ _ _ h2 p e R s m args below meth c H locs cells slots Z D cA ad A ls hC hR hl hw hE)
def xo_ixor (nx : Nat) : XOp := fun E Lv Q X lv st σ => pI st fun y st => pI st fun x st => X nx lv (.int (x ^^^ y) :: st) σ
theorem xs_ixor (hdg : decode cc pc = .ok (.ixor, 1)) : XSnd own cc nL rt mL pc (xo_ixor (pc + 1)) := by
  intro E Lv n0 Q X hLv hX lv st σ h
  obtain ⟨y, st, rfl, h1⟩ := pI_e h
  obtain ⟨x, st, rfl, h2⟩ := pI_e h1
  intro p e R s m args below meth c H locs cells slots Z D cA ad A ls hC hR hl hw hE
  exact lv_ixor hC.1 hC.2.1 hdg (hX _ _ _ _ h2 p e R s m args below meth c H locs cells slots Z D cA ad A ls hC hR hl hw hE)
def xo_ishl (nx : Nat) : XOp := fun E Lv Q X lv st σ => pI st fun y st => pI st fun x st => X nx lv (.int (x <<< (y &&& 31)) :: st) σ
theorem xs_ishl (hdg : decode cc pc = .ok (.ishl, 1)) : XSnd own cc nL rt mL pc (xo_ishl (pc + 1)) := by
  intro E Lv n0 Q X hLv hX lv st σ h
  obtain ⟨y, st, rfl, h1⟩ := pI_e h
  obtain ⟨x, st, rfl, h2⟩ := pI_e h1
  intro p e R s m args below meth c H locs cells slots Z D cA ad A ls hC hR hl hw hE
  exact lv_ishl hC.1 hC.2.1 hdg (hX _ _ _ _ h2 p e R s m args below meth c H locs cells slots Z D cA ad A ls hC hR hl hw hE)
def xo_ishr (nx : Nat) : XOp := fun E Lv Q X lv st σ => pI st fun y st => pI st fun x st => X nx lv (.int (x >>> (y &&& 31)) :: st) σ
theorem xs_ishr (hdg : decode cc pc = .ok (.ishr, 1)) : XSnd own cc nL rt mL pc (xo_ishr (pc + 1)) := by
  intro E Lv n0 Q X hLv hX lv st σ h
  obtain ⟨y, st, rfl, h1⟩ := pI_e h
  obtain ⟨x, st, rfl, h2⟩ := pI_e h1
  intro p e R s m args below meth c H locs cells slots Z D cA ad A ls hC hR hl hw hE
  exact lv_ishr hC.1 hC.2.1 hdg (hX _ _ _ _ h2 p e R s m args below meth c H locs cells slots Z D cA ad A ls hC hR hl hw hE)
def xo_idiv (nx : Nat) : XOp := fun E Lv Q X lv st σ => pI st fun y st => pI st fun x st => ¬ y = 0 ∧ X nx lv (.int (x / y) :: st) σ
theorem xs_idiv (hdg : decode cc pc = .ok (.idiv, 1)) : XSnd own cc nL rt mL pc (xo_idiv (pc + 1)) := by
  intro E Lv n0 Q X hLv hX lv st σ h
  obtain ⟨y, st, rfl, h1⟩ := pI_e h
  obtain ⟨x, st, rfl, h2⟩ := pI_e h1
  obtain ⟨hne, h3⟩ := h2
  intro p e R s m args below meth c H locs cells slots Z D cA ad A ls hC hR hl hw hE
  exact lv_idiv hC.1 hC.2.1 hdg hne (hX _ _ _ _ h3 p e R s m args below meth c H locs cells slots Z D cA ad A ls hC hR hl hw hE)
def xo_irem (nx : Nat) : XOp := fun E Lv Q X lv st σ => pI st fun y st => pI st fun x st => ¬ y = 0 ∧ X nx lv (.int (x - x / y * y) :: st) σ
theorem xs_irem (hdg : decode cc pc = .ok (.irem, 1)) : XSnd own cc nL rt mL pc (xo_irem (pc + 1)) := by
  intro E Lv n0 Q X hLv hX lv st σ h
  obtain ⟨y, st, rfl, h1⟩ := pI_e h
  obtain ⟨x, st, rfl, h2⟩ := pI_e h1
  obtain ⟨hne, h3⟩ := h2
  intro p e R s m args below meth c H locs cells slots Z D cA ad A ls hC hR hl hw hE
  exact lv_irem hC.1 hC.2.1 hdg hne (hX _ _ _ _ h3 p e R s m args below meth c H locs cells slots Z D cA ad A ls hC hR hl hw hE)
def xo_ladd (nx : Nat) : XOp := fun E Lv Q X lv st σ => pJ st fun y st => pJ st fun x st => X nx lv (.long (x + y) :: st) σ
theorem xs_ladd (hdg : decode cc pc = .ok (.ladd, 1)) : XSnd own cc nL rt mL pc (xo_ladd (pc + 1)) := by
  intro E Lv n0 Q X hLv hX lv st σ h
  obtain ⟨y, st, rfl, h1⟩ := pJ_e h
  obtain ⟨x, st, rfl, h2⟩ := pJ_e h1
  intro p e R s m args below meth c H locs cells slots Z D cA ad A ls hC hR hl hw hE
  exact lv_ladd hC.1 hC.2.1 hdg (hX _ _ _ _ h2 p e R s m args below meth c H locs cells slots Z D cA ad A ls hC hR hl hw hE)
def xo_lsub (nx : Nat) : XOp := fun E Lv Q X lv st σ => pJ st fun y st => pJ st fun x st => X nx lv (.long (x - y) :: st) σ
theorem xs_lsub (hdg : decode cc pc = .ok (.lsub, 1)) : XSnd own cc nL rt mL pc (xo_lsub (pc + 1)) := by
  intro E Lv n0 Q X hLv hX lv st σ h
  obtain ⟨y, st, rfl, h1⟩ := pJ_e h
  obtain ⟨x, st, rfl, h2⟩ := pJ_e h1
  intro p e R s m args below meth c H locs cells slots Z D cA ad A ls hC hR hl hw hE
  exact lv_lsub hC.1 hC.2.1 hdg (hX _ _ _ _ h2 p e R s m args below meth c H locs cells slots Z D cA ad A ls hC hR hl hw hE)
def xo_lmul (nx : Nat) : XOp := fun E Lv Q X lv st σ => pJ st fun y st => pJ st fun x st => X nx lv (.long (x * y) :: st) σ
theorem xs_lmul (hdg : decode cc pc = .ok (.lmul, 1)) : XSnd own cc nL rt mL pc (xo_lmul (pc + 1)) := by
  intro E Lv n0 Q X hLv hX lv st σ h
  obtain ⟨y, st, rfl, h1⟩ := pJ_e h
  obtain ⟨x, st, rfl, h2⟩ := pJ_e h1
  intro p e R s m args below meth c H locs cells slots Z D cA ad A ls hC hR hl hw hE
  exact lv_lmul hC.1 hC.2.1 hdg (hX _ _ _ _ h2 p e R s m args below meth c H locs cells slots Z D cA ad A ls hC hR hl hw hE)
def xo_ldiv (nx : Nat) : XOp := fun E Lv Q X lv st σ => pJ st fun y st => pJ st fun x st => ¬ y = 0 ∧ X nx lv (.long (x / y) :: st) σ
theorem xs_ldiv (hdg : decode cc pc = .ok (.ldiv, 1)) : XSnd own cc nL rt mL pc (xo_ldiv (pc + 1)) := by
  intro E Lv n0 Q X hLv hX lv st σ h
  obtain ⟨y, st, rfl, h1⟩ := pJ_e h
  obtain ⟨x, st, rfl, h2⟩ := pJ_e h1
  obtain ⟨hne, h3⟩ := h2
  intro p e R s m args below meth c H locs cells slots Z D cA ad A ls hC hR hl hw hE
  exact lv_ldiv hC.1 hC.2.1 hdg hne (hX _ _ _ _ h3 p e R s m args below meth c H locs cells slots Z D cA ad A ls hC hR hl hw hE)
def xo_lcmp (nx : Nat) : XOp := fun E Lv Q X lv st σ => pJ st fun y st => pJ st fun x st => X nx lv (.int (lg_cmp x y) :: st) σ
theorem xs_lcmp (hdg : decode cc pc = .ok (.lcmp, 1)) : XSnd own cc nL rt mL pc (xo_lcmp (pc + 1)) := by
  intro E Lv n0 Q X hLv hX lv st σ h
  obtain ⟨y, st, rfl, h1⟩ := pJ_e h
  obtain ⟨x, st, rfl, h2⟩ := pJ_e h1
  intro p e R s m args below meth c H locs cells slots Z D cA ad A ls hC hR hl hw hE
  exact W.lcmp hC.1 hC.2.1 hdg (hX _ _ _ _ h2 p e R s m args below meth c H locs cells slots Z D cA ad A ls hC hR hl hw hE)
def xo_ineg (nx : Nat) : XOp := fun E Lv Q X lv st σ => pI st fun x st => X nx lv (.int (-x) :: st) σ
theorem xs_ineg (hdg : decode cc pc = .ok (.ineg, 1)) : XSnd own cc nL rt mL pc (xo_ineg (pc + 1)) := by
  intro E Lv n0 Q X hLv hX lv st σ h
  obtain ⟨x, st, rfl, h1⟩ := pI_e h
  intro p e R s m args below meth c H locs cells slots Z D cA ad A ls hC hR hl hw hE
  exact lv_ineg hC.1 hC.2.1 hdg (hX _ _ _ _ h1 p e R s m args below meth c H locs cells slots Z D cA ad A ls hC hR hl hw hE)
def xo_i2l (nx : Nat) : XOp := fun E Lv Q X lv st σ => pI st fun x st => X nx lv (.long x.toInt64 :: st) σ
theorem xs_i2l (hdg : decode cc pc = .ok (.i2l, 1)) : XSnd own cc nL rt mL pc (xo_i2l (pc + 1)) := by
  intro E Lv n0 Q X hLv hX lv st σ h
  obtain ⟨x, st, rfl, h1⟩ := pI_e h
  intro p e R s m args below meth c H locs cells slots Z D cA ad A ls hC hR hl hw hE
  exact lv_i2l hC.1 hC.2.1 hdg rfl (hX _ _ _ _ h1 p e R s m args below meth c H locs cells slots Z D cA ad A ls hC hR hl hw hE)
def xo_l2i (nx : Nat) : XOp := fun E Lv Q X lv st σ => pJ st fun x st => X nx lv (.int x.toInt32 :: st) σ
theorem xs_l2i (hdg : decode cc pc = .ok (.l2i, 1)) : XSnd own cc nL rt mL pc (xo_l2i (pc + 1)) := by
  intro E Lv n0 Q X hLv hX lv st σ h
  obtain ⟨x, st, rfl, h1⟩ := pJ_e h
  intro p e R s m args below meth c H locs cells slots Z D cA ad A ls hC hR hl hw hE
  exact lv_l2i hC.1 hC.2.1 hdg rfl (hX _ _ _ _ h1 p e R s m args below meth c H locs cells slots Z D cA ad A ls hC hR hl hw hE)
def xo_i2b (nx : Nat) : XOp := fun E Lv Q X lv st σ => pI st fun x st => X nx lv (.int x.toInt8.toInt32 :: st) σ
theorem xs_i2b (hdg : decode cc pc = .ok (.i2b, 1)) : XSnd own cc nL rt mL pc (xo_i2b (pc + 1)) := by
  intro E Lv n0 Q X hLv hX lv st σ h
  obtain ⟨x, st, rfl, h1⟩ := pI_e h
  intro p e R s m args below meth c H locs cells slots Z D cA ad A ls hC hR hl hw hE
  exact lv_i2b hC.1 hC.2.1 hdg rfl (hX _ _ _ _ h1 p e R s m args below meth c H locs cells slots Z D cA ad A ls hC hR hl hw hE)
def xo_i2s (nx : Nat) : XOp := fun E Lv Q X lv st σ => pI st fun x st => X nx lv (.int x.toInt16.toInt32 :: st) σ
theorem xs_i2s (hdg : decode cc pc = .ok (.i2s, 1)) : XSnd own cc nL rt mL pc (xo_i2s (pc + 1)) := by
  intro E Lv n0 Q X hLv hX lv st σ h
  obtain ⟨x, st, rfl, h1⟩ := pI_e h
  intro p e R s m args below meth c H locs cells slots Z D cA ad A ls hC hR hl hw hE
  exact lv_i2s hC.1 hC.2.1 hdg rfl (hX _ _ _ _ h1 p e R s m args below meth c H locs cells slots Z D cA ad A ls hC hR hl hw hE)
def xo_iushr (nx : Nat) : XOp := fun E Lv Q X lv st σ => pI st fun y st => pI st fun x st => X nx lv (.int (x.toUInt32 >>> (y.toUInt32 &&& Int32.toUInt32 31)).toInt32 :: st) σ
theorem xs_iushr (hdg : decode cc pc = .ok (.iushr, 1)) : XSnd own cc nL rt mL pc (xo_iushr (pc + 1)) := by
  intro E Lv n0 Q X hLv hX lv st σ h
  obtain ⟨y, st, rfl, h1⟩ := pI_e h
  obtain ⟨x, st, rfl, h2⟩ := pI_e h1
  intro p e R s m args below meth c H locs cells slots Z D cA ad A ls hC hR hl hw hE
  exact lv_iushr hC.1 hC.2.1 hdg rfl (hX _ _ _ _ h2 p e R s m args below meth c H locs cells slots Z D cA ad A ls hC hR hl hw hE)
def xo_lrem (nx : Nat) : XOp := fun E Lv Q X lv st σ => pJ st fun y st => pJ st fun x st => ¬ y = 0 ∧ X nx lv (.long (x - x / y * y) :: st) σ
theorem xs_lrem (hdg : decode cc pc = .ok (.lrem, 1)) : XSnd own cc nL rt mL pc (xo_lrem (pc + 1)) := by
  intro E Lv n0 Q X hLv hX lv st σ h
  obtain ⟨y, st, rfl, h1⟩ := pJ_e h
  obtain ⟨x, st, rfl, h2⟩ := pJ_e h1
  obtain ⟨hne, h3⟩ := h2
  intro p e R s m args below meth c H locs cells slots Z D cA ad A ls hC hR hl hw hE
  exact lv_lrem hC.1 hC.2.1 hdg hne (hX _ _ _ _ h3 p e R s m args below meth c H locs cells slots Z D cA ad A ls hC hR hl hw hE)
def xo_dupR (nx : Nat) : XOp := fun E Lv Q X lv st σ => pR st fun x st => X nx lv (.ref x :: .ref x :: st) σ
theorem xs_dupR (hdg : decode cc pc = .ok (.dup, 1)) : XSnd own cc nL rt mL pc (xo_dupR (pc + 1)) := by
  intro E Lv n0 Q X hLv hX lv st σ h
  obtain ⟨x, st, rfl, h1⟩ := pR_e h
  intro p e R s m args below meth c H locs cells slots Z D cA ad A ls hC hR hl hw hE
  exact lv_dup hC.1 hC.2.1 hdg rfl (hX _ _ _ _ h1 p e R s m args below meth c H locs cells slots Z D cA ad A ls hC hR hl hw hE)
def xo_dupI (nx : Nat) : XOp := fun E Lv Q X lv st σ => pI st fun x st => X nx lv (.int x :: .int x :: st) σ
theorem xs_dupI (hdg : decode cc pc = .ok (.dup, 1)) : XSnd own cc nL rt mL pc (xo_dupI (pc + 1)) := by
  intro E Lv n0 Q X hLv hX lv st σ h
  obtain ⟨x, st, rfl, h1⟩ := pI_e h
  intro p e R s m args below meth c H locs cells slots Z D cA ad A ls hC hR hl hw hE
  exact lv_dup hC.1 hC.2.1 hdg rfl (hX _ _ _ _ h1 p e R s m args below meth c H locs cells slots Z D cA ad A ls hC hR hl hw hE)
def xo_popI (nx : Nat) : XOp := fun E Lv Q X lv st σ => pI st fun x st => X nx lv st σ
theorem xs_popI (hdg : decode cc pc = .ok (.pop, 1)) : XSnd own cc nL rt mL pc (xo_popI (pc + 1)) := by
  intro E Lv n0 Q X hLv hX lv st σ h
  obtain ⟨x, st, rfl, h1⟩ := pI_e h
  intro p e R s m args below meth c H locs cells slots Z D cA ad A ls hC hR hl hw hE
  exact lv_pop hC.1 hC.2.1 hdg rfl (hX _ _ _ _ h1 p e R s m args below meth c H locs cells slots Z D cA ad A ls hC hR hl hw hE)
def xo_if_eq (tg : Nat) (nx : Nat) : XOp := fun E Lv Q X lv st σ => pI st fun x st => (x = 0 → X tg lv st σ) ∧ (¬ x = 0 → X nx lv st σ)
theorem xs_if_eq {off : Int} {tg : Nat} (hdg : decode cc pc = .ok (.ifCond .eq off, 3)) (ht : (pc : Int) + off = (tg : Int)) : XSnd own cc nL rt mL pc (xo_if_eq tg (pc + 3)) := by
  intro E Lv n0 Q X hLv hX lv st σ h
  obtain ⟨x, st, rfl, h1⟩ := pI_e h
  intro p e R s m args below meth c H locs cells slots Z D cA ad A ls hC hR hl hw hE
  exact lv_if_eq hC.1 hC.2.1 hdg ht (fun hc => (hX _ _ _ _ (h1.1 hc) p e R s m args below meth c H locs cells slots Z D cA ad A ls hC hR hl hw hE)) (fun hc => (hX _ _ _ _ (h1.2 hc) p e R s m args below meth c H locs cells slots Z D cA ad A ls hC hR hl hw hE))
def xo_if_ne (tg : Nat) (nx : Nat) : XOp := fun E Lv Q X lv st σ => pI st fun x st => (¬ x = 0 → X tg lv st σ) ∧ (x = 0 → X nx lv st σ)
theorem xs_if_ne {off : Int} {tg : Nat} (hdg : decode cc pc = .ok (.ifCond .ne off, 3)) (ht : (pc : Int) + off = (tg : Int)) : XSnd own cc nL rt mL pc (xo_if_ne tg (pc + 3)) := by
  intro E Lv n0 Q X hLv hX lv st σ h
  obtain ⟨x, st, rfl, h1⟩ := pI_e h
  intro p e R s m args below meth c H locs cells slots Z D cA ad A ls hC hR hl hw hE
  exact lv_if_ne hC.1 hC.2.1 hdg ht (fun hc => (hX _ _ _ _ (h1.1 hc) p e R s m args below meth c H locs cells slots Z D cA ad A ls hC hR hl hw hE)) (fun hc => (hX _ _ _ _ (h1.2 hc) p e R s m args below meth c H locs cells slots Z D cA ad A ls hC hR hl hw hE))
def xo_if_lt (tg : Nat) (nx : Nat) : XOp := fun E Lv Q X lv st σ => pI st fun x st => (x < 0 → X tg lv st σ) ∧ (¬ x < 0 → X nx lv st σ)
theorem xs_if_lt {off : Int} {tg : Nat} (hdg : decode cc pc = .ok (.ifCond .lt off, 3)) (ht : (pc : Int) + off = (tg : Int)) : XSnd own cc nL rt mL pc (xo_if_lt tg (pc + 3)) := by
  intro E Lv n0 Q X hLv hX lv st σ h
  obtain ⟨x, st, rfl, h1⟩ := pI_e h
  intro p e R s m args below meth c H locs cells slots Z D cA ad A ls hC hR hl hw hE
  exact lv_if_lt hC.1 hC.2.1 hdg ht (fun hc => (hX _ _ _ _ (h1.1 hc) p e R s m args below meth c H locs cells slots Z D cA ad A ls hC hR hl hw hE)) (fun hc => (hX _ _ _ _ (h1.2 hc) p e R s m args below meth c H locs cells slots Z D cA ad A ls hC hR hl hw hE))
def xo_if_ge (tg : Nat) (nx : Nat) : XOp := fun E Lv Q X lv st σ => pI st fun x st => (0 ≤ x → X tg lv st σ) ∧ (¬ 0 ≤ x → X nx lv st σ)
theorem xs_if_ge {off : Int} {tg : Nat} (hdg : decode cc pc = .ok (.ifCond .ge off, 3)) (ht : (pc : Int) + off = (tg : Int)) : XSnd own cc nL rt mL pc (xo_if_ge tg (pc + 3)) := by
  intro E Lv n0 Q X hLv hX lv st σ h
  obtain ⟨x, st, rfl, h1⟩ := pI_e h
  intro p e R s m args below meth c H locs cells slots Z D cA ad A ls hC hR hl hw hE
  exact lv_if_ge hC.1 hC.2.1 hdg ht (fun hc => (hX _ _ _ _ (h1.1 hc) p e R s m args below meth c H locs cells slots Z D cA ad A ls hC hR hl hw hE)) (fun hc => (hX _ _ _ _ (h1.2 hc) p e R s m args below meth c H locs cells slots Z D cA ad A ls hC hR hl hw hE))
def xo_if_gt (tg : Nat) (nx : Nat) : XOp := fun E Lv Q X lv st σ => pI st fun x st => (0 < x → X tg lv st σ) ∧ (¬ 0 < x → X nx lv st σ)
theorem xs_if_gt {off : Int} {tg : Nat} (hdg : decode cc pc = .ok (.ifCond .gt off, 3)) (ht : (pc : Int) + off = (tg : Int)) : XSnd own cc nL rt mL pc (xo_if_gt tg (pc + 3)) := by
  intro E Lv n0 Q X hLv hX lv st σ h
  obtain ⟨x, st, rfl, h1⟩ := pI_e h
  intro p e R s m args below meth c H locs cells slots Z D cA ad A ls hC hR hl hw hE
  exact lv_if_gt hC.1 hC.2.1 hdg ht (fun hc => (hX _ _ _ _ (h1.1 hc) p e R s m args below meth c H locs cells slots Z D cA ad A ls hC hR hl hw hE)) (fun hc => (hX _ _ _ _ (h1.2 hc) p e R s m args below meth c H locs cells slots Z D cA ad A ls hC hR hl hw hE))
def xo_if_le (tg : Nat) (nx : Nat) : XOp := fun E Lv Q X lv st σ => pI st fun x st => (x ≤ 0 → X tg lv st σ) ∧ (¬ x ≤ 0 → X nx lv st σ)
theorem xs_if_le {off : Int} {tg : Nat} (hdg : decode cc pc = .ok (.ifCond .le off, 3)) (ht : (pc : Int) + off = (tg : Int)) : XSnd own cc nL rt mL pc (xo_if_le tg (pc + 3)) := by
  intro E Lv n0 Q X hLv hX lv st σ h
  obtain ⟨x, st, rfl, h1⟩ := pI_e h
  intro p e R s m args below meth c H locs cells slots Z D cA ad A ls hC hR hl hw hE
  exact lv_if_le hC.1 hC.2.1 hdg ht (fun hc => (hX _ _ _ _ (h1.1 hc) p e R s m args below meth c H locs cells slots Z D cA ad A ls hC hR hl hw hE)) (fun hc => (hX _ _ _ _ (h1.2 hc) p e R s m args below meth c H locs cells slots Z D cA ad A ls hC hR hl hw hE))
def xo_ic_eq (tg : Nat) (nx : Nat) : XOp := fun E Lv Q X lv st σ => pI st fun y st => pI st fun x st => (x = y → X tg lv st σ) ∧ (¬ x = y → X nx lv st σ)
theorem xs_ic_eq {off : Int} {tg : Nat} (hdg : decode cc pc = .ok (.if_icmp .eq off, 3)) (ht : (pc : Int) + off = (tg : Int)) : XSnd own cc nL rt mL pc (xo_ic_eq tg (pc + 3)) := by
  intro E Lv n0 Q X hLv hX lv st σ h
  obtain ⟨y, st, rfl, h1⟩ := pI_e h
  obtain ⟨x, st, rfl, h2⟩ := pI_e h1
  intro p e R s m args below meth c H locs cells slots Z D cA ad A ls hC hR hl hw hE
  exact lv_icmp_eq hC.1 hC.2.1 hdg ht (fun hc => (hX _ _ _ _ (h2.1 hc) p e R s m args below meth c H locs cells slots Z D cA ad A ls hC hR hl hw hE)) (fun hc => (hX _ _ _ _ (h2.2 hc) p e R s m args below meth c H locs cells slots Z D cA ad A ls hC hR hl hw hE))
def xo_ic_ne (tg : Nat) (nx : Nat) : XOp := fun E Lv Q X lv st σ => pI st fun y st => pI st fun x st => (¬ x = y → X tg lv st σ) ∧ (x = y → X nx lv st σ)
theorem xs_ic_ne {off : Int} {tg : Nat} (hdg : decode cc pc = .ok (.if_icmp .ne off, 3)) (ht : (pc : Int) + off = (tg : Int)) : XSnd own cc nL rt mL pc (xo_ic_ne tg (pc + 3)) := by
  intro E Lv n0 Q X hLv hX lv st σ h
  obtain ⟨y, st, rfl, h1⟩ := pI_e h
  obtain ⟨x, st, rfl, h2⟩ := pI_e h1
  intro p e R s m args below meth c H locs cells slots Z D cA ad A ls hC hR hl hw hE
  exact lv_icmp_ne hC.1 hC.2.1 hdg ht (fun hc => (hX _ _ _ _ (h2.1 hc) p e R s m args below meth c H locs cells slots Z D cA ad A ls hC hR hl hw hE)) (fun hc => (hX _ _ _ _ (h2.2 hc) p e R s m args below meth c H locs cells slots Z D cA ad A ls hC hR hl hw hE))
def xo_ic_lt (tg : Nat) (nx : Nat) : XOp := fun E Lv Q X lv st σ => pI st fun y st => pI st fun x st => (x < y → X tg lv st σ) ∧ (¬ x < y → X nx lv st σ)
theorem xs_ic_lt {off : Int} {tg : Nat} (hdg : decode cc pc = .ok (.if_icmp .lt off, 3)) (ht : (pc : Int) + off = (tg : Int)) : XSnd own cc nL rt mL pc (xo_ic_lt tg (pc + 3)) := by
  intro E Lv n0 Q X hLv hX lv st σ h
  obtain ⟨y, st, rfl, h1⟩ := pI_e h
  obtain ⟨x, st, rfl, h2⟩ := pI_e h1
  intro p e R s m args below meth c H locs cells slots Z D cA ad A ls hC hR hl hw hE
  exact lv_icmp_lt hC.1 hC.2.1 hdg ht (fun hc => (hX _ _ _ _ (h2.1 hc) p e R s m args below meth c H locs cells slots Z D cA ad A ls hC hR hl hw hE)) (fun hc => (hX _ _ _ _ (h2.2 hc) p e R s m args below meth c H locs cells slots Z D cA ad A ls hC hR hl hw hE))
def xo_ic_ge (tg : Nat) (nx : Nat) : XOp := fun E Lv Q X lv st σ => pI st fun y st => pI st fun x st => (y ≤ x → X tg lv st σ) ∧ (¬ y ≤ x → X nx lv st σ)
theorem xs_ic_ge {off : Int} {tg : Nat} (hdg : decode cc pc = .ok (.if_icmp .ge off, 3)) (ht : (pc : Int) + off = (tg : Int)) : XSnd own cc nL rt mL pc (xo_ic_ge tg (pc + 3)) := by
  intro E Lv n0 Q X hLv hX lv st σ h
  obtain ⟨y, st, rfl, h1⟩ := pI_e h
  obtain ⟨x, st, rfl, h2⟩ := pI_e h1
  intro p e R s m args below meth c H locs cells slots Z D cA ad A ls hC hR hl hw hE
  exact lv_icmp_ge hC.1 hC.2.1 hdg ht (fun hc => (hX _ _ _ _ (h2.1 hc) p e R s m args below meth c H locs cells slots Z D cA ad A ls hC hR hl hw hE)) (fun hc => (hX _ _ _ _ (h2.2 hc) p e R s m args below meth c H locs cells slots Z D cA ad A ls hC hR hl hw hE))
def xo_ic_gt (tg : Nat) (nx : Nat) : XOp := fun E Lv Q X lv st σ => pI st fun y st => pI st fun x st => (y < x → X tg lv st σ) ∧ (¬ y < x → X nx lv st σ)
theorem xs_ic_gt {off : Int} {tg : Nat} (hdg : decode cc pc = .ok (.if_icmp .gt off, 3)) (ht : (pc : Int) + off = (tg : Int)) : XSnd own cc nL rt mL pc (xo_ic_gt tg (pc + 3)) := by
  intro E Lv n0 Q X hLv hX lv st σ h
  obtain ⟨y, st, rfl, h1⟩ := pI_e h
  obtain ⟨x, st, rfl, h2⟩ := pI_e h1
  intro p e R s m args below meth c H locs cells slots Z D cA ad A ls hC hR hl hw hE
  exact lv_icmp_gt hC.1 hC.2.1 hdg ht (fun hc => (hX _ _ _ _ (h2.1 hc) p e R s m args below meth c H locs cells slots Z D cA ad A ls hC hR hl hw hE)) (fun hc => (hX _ _ _ _ (h2.2 hc) p e R s m args below meth c H locs cells slots Z D cA ad A ls hC hR hl hw hE))
def xo_ic_le (tg : Nat) (nx : Nat) : XOp := fun E Lv Q X lv st σ => pI st fun y st => pI st fun x st => (x ≤ y → X tg lv st σ) ∧ (¬ x ≤ y → X nx lv st σ)
theorem xs_ic_le {off : Int} {tg : Nat} (hdg : decode cc pc = .ok (.if_icmp .le off, 3)) (ht : (pc : Int) + off = (tg : Int)) : XSnd own cc nL rt mL pc (xo_ic_le tg (pc + 3)) := by
  intro E Lv n0 Q X hLv hX lv st σ h
  obtain ⟨y, st, rfl, h1⟩ := pI_e h
  obtain ⟨x, st, rfl, h2⟩ := pI_e h1
  intro p e R s m args below meth c H locs cells slots Z D cA ad A ls hC hR hl hw hE
  exact lv_icmp_le hC.1 hC.2.1 hdg ht (fun hc => (hX _ _ _ _ (h2.1 hc) p e R s m args below meth c H locs cells slots Z D cA ad A ls hC hR hl hw hE)) (fun hc => (hX _ _ _ _ (h2.2 hc) p e R s m args below meth c H locs cells slots Z D cA ad A ls hC hR hl hw hE))
def xo_goto (tg : Nat) : XOp := fun E Lv Q X lv st σ => X tg lv st σ
theorem xs_goto {off : Int} {tg : Nat} (hdg : decode cc pc = .ok (.goto off, 3)) (ht : (pc : Int) + off = (tg : Int)) : XSnd own cc nL rt mL pc (xo_goto tg) := by
  intro E Lv n0 Q X hLv hX lv st σ h
  intro p e R s m args below meth c H locs cells slots Z D cA ad A ls hC hR hl hw hE
  exact lv_goto hC.1 hC.2.1 hdg ht (hX _ _ _ _ h p e R s m args below meth c H locs cells slots Z D cA ad A ls hC hR hl hw hE)
def xsw (X : Nat → Prop) (x : Int32) : List (Int32 × Nat) → Nat → Prop
  | [], d => X d
  | (k, t) :: r, d => (x = k → X t) ∧ (¬ x = k → xsw X x r d)
def xswT (x : Int32) : List (Int32 × Nat) → Nat → Nat
  | [], d => d
  | (k, t) :: r, d => if x = k then t else xswT x r d
theorem xsw_e {X : Nat → Prop} {x : Int32} : ∀ {l : List (Int32 × Nat)} {d : Nat}, xsw X x l d → X (xswT x l d)
  | [], _, h => h
  | (k, t) :: r, d, h => by
    unfold xswT
    split
    next hk => exact h.1 hk
    next hk => exact xsw_e (h.2 hk)
def xo_sw (ks : List (Int32 × Nat)) (d : Nat) : XOp := fun E Lv Q X lv st σ => pI st fun x st => xsw (fun t => X t lv st σ) x ks d
/-- a table's rows, from lo on -/
def xtab (lo : Int) : List Nat → List (Int32 × Nat)
  | [] => []
  | t :: r => (Int32.ofInt lo, t) :: xtab (lo + 1) r
theorem xtab_in {x : Int32} : ∀ {ts : List Nat} {lo : Int} {d : Nat}, -2147483648 ≤ lo → lo + ts.length ≤ 2147483648 → lo ≤ x.toInt → x.toInt < lo + ts.length → ∃ t, ts[(x.toInt - lo).toNat]? = some t ∧ xswT x (xtab lo ts) d = t
  | [], lo, d, _, _, h1, h2 => by simp at h2; omega
  | t :: r, lo, d, hl, hh, h1, h2 => by
    simp only [List.length_cons] at hh h2
    have hlo : (Int32.ofInt lo).toInt = lo := Int32.toInt_ofInt_of_le (by omega) (by omega)
    by_cases hx : x = Int32.ofInt lo
    · refine ⟨t, ?_, ?_⟩
      · rw [hx, hlo, Int.sub_self]; rfl
      · show xswT x ((Int32.ofInt lo, t) :: xtab (lo + 1) r) d = t
        unfold xswT
        rw [if_pos hx]
    · have hne : x.toInt ≠ lo := fun z => hx (Int32.toInt_inj.mp (z.trans hlo.symm))
      obtain ⟨t', e1, e2⟩ := xtab_in (x := x) (ts := r) (lo := lo + 1) (d := d) (by omega) (by omega) (by omega) (by omega)
      refine ⟨t', ?_, ?_⟩
      · rw [show (x.toInt - lo).toNat = (x.toInt - (lo + 1)).toNat + 1 by omega]
        exact e1
      · show xswT x ((Int32.ofInt lo, t) :: xtab (lo + 1) r) d = t'
        unfold xswT
        rw [if_neg hx]
        exact e2
theorem xtab_out {x : Int32} : ∀ {ts : List Nat} {lo : Int} {d : Nat}, -2147483648 ≤ lo → lo + ts.length ≤ 2147483648 → (x.toInt < lo ∨ lo + ts.length ≤ x.toInt) → xswT x (xtab lo ts) d = d
  | [], _, _, _, _, _ => rfl
  | t :: r, lo, d, hl, hh, h1 => by
    simp only [List.length_cons] at hh h1
    have hlo : (Int32.ofInt lo).toInt = lo := Int32.toInt_ofInt_of_le (by omega) (by omega)
    have hx : ¬ x = Int32.ofInt lo := fun z => by rw [z, hlo] at h1; omega
    show xswT x ((Int32.ofInt lo, t) :: xtab (lo + 1) r) d = d
    unfold xswT
    rw [if_neg hx]
    exact xtab_out (by omega) (by omega) (by omega)
theorem xs_table {dflt lo hi : Int} {offs : Array Int} {len d : Nat} {ks : List (Int32 × Nat)} {ts : List Nat} (hdg : decode cc pc = .ok (.tableswitch dflt lo hi offs, len)) (hks : xtab lo ts = ks) (hlo : -2147483648 ≤ lo ∧ lo + ts.length ≤ 2147483648 ∧ hi + 1 = lo + ts.length) (hof : offs.toList.map (fun o => (pc : Int) + o) = List.map (fun (t : Nat) => (t : Int)) ts) (hd : (pc : Int) + dflt = (d : Int)) : XSnd own cc nL rt mL pc (xo_sw ks d) := by
  intro E Lv n0 Q X hLv hX lv st σ h
  obtain ⟨x, st, rfl, h1⟩ := pI_e h
  clear h
  have h := xsw_e h1
  subst hks
  intro p e R s m args below meth c H locs cells slots Z D cA ad A ls hC hR hl hw hE
  by_cases hin : x.toInt < lo ∨ hi < x.toInt
  · rw [xtab_out hlo.1 hlo.2.1 (by omega)] at h
    exact lv_tableOut hC.1 hC.2.1 hdg hin hd (hX _ _ _ _ h p e R s m args below meth c H locs cells slots Z D cA ad A ls hC hR hl hw hE)
  · obtain ⟨t, e1, e2⟩ := xtab_in (x := x) (ts := ts) (lo := lo) (d := d) hlo.1 hlo.2.1 (by omega) (by omega)
    rw [e2] at h
    have e3 : (offs.toList.map (fun o => (pc : Int) + o))[(x.toInt - lo).toNat]? = some (t : Int) := by rw [hof, List.getElem?_map, e1]; rfl
    rw [List.getElem?_map] at e3
    obtain ⟨o, f1, f2⟩ := Option.map_eq_some_iff.mp e3
    exact lv_tableIn hC.1 hC.2.1 hdg (by omega) (by omega) (by rw [← Array.getElem?_toList]; exact f1) f2 (hX _ _ _ _ h p e R s m args below meth c H locs cells slots Z D cA ad A ls hC hR hl hw hE)
theorem xs_lookup {dflt : Int} {ps : Array (Int × Int)} {len d : Nat} {ks : List (Int32 × Nat)} (hdg : decode cc pc = .ok (.lookupswitch dflt ps, len)) (hp : (ps.toList.zip (ps.toList.drop 1)).all (fun (a, next) => a.1 < next.1) = true) (hks : ∀ x : Int32, (pc : Int) + Op.lookupswitch.offset ps.toList dflt x.toInt = ((xswT x ks d : Nat) : Int)) : XSnd own cc nL rt mL pc (xo_sw ks d) := by
  intro E Lv n0 Q X hLv hX lv st σ h
  obtain ⟨x, st, rfl, h1⟩ := pI_e h
  clear h
  have h := xsw_e h1
  intro p e R s m args below meth c H locs cells slots Z D cA ad A ls hC hR hl hw hE
  exact lv_lookup hC.1 hC.2.1 hdg hp rfl (hks x) (hX _ _ _ _ h p e R s m args below meth c H locs cells slots Z D cA ad A ls hC hR hl hw hE)
end XSOUND
