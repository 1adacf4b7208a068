-- ===== fields =====
section XHEAP
variable {own : String} {cc : ByteArray} {nL : Nat} {rt : Option FieldType} {mL pc : Nat}
theorem xWd.set {E : XEnv} {D : va_G} {cA : Nat → ClassId} {ad : Nat → Nat} {A : Nat → Prop} {s : State} {n0 : Nat} {σ : XW} {H H1 : Heap} {locs locs1 : List Loc} {q : Nat} {e : XE} (hw : xWd E D cA ad A s n0 σ H locs) (hP : va_P D vwCl ((xw cA ad σ).set q (ad q, xe cA ad e)) H1) (hS : va_S A s.heap H1 locs1) : xWd E D cA ad A s n0 (σ.set q e) H1 locs1 := by
  obtain ⟨w1, w2, w3, w4, w5, w6⟩ := hw
  rw [xw_set] at hP
  exact ⟨by rw [List.length_set]; exact w1, w2, hP, w4, hS, w6⟩
theorem xWd.D {E : XEnv} {D : va_G} {cA : Nat → ClassId} {ad : Nat → Nat} {A : Nat → Prop} {s : State} {n0 : Nat} {σ : XW} {H : Heap} {locs : List Loc} (hw : xWd E D cA ad A s n0 σ H locs) : va_D A (xw cA ad σ) := xD_to (by rw [hw.1]; exact hw.2.2.2.1)
def xo_get (ci k nx : Nat) : XOp := fun E Lv Q X lv st σ => pR st fun q st => hO σ q ci fun fs => nth fs k fun v => X nx lv (v :: st) σ
theorem xs_get {ci k N index : Nat} {C : String} {T : u_T} (hc : vwCl[ci]? = some (C, T, N)) (hin : ∀ w ∈ u_ws C T N, w ∈ gTs) (hk : k < N) (hlk : Cond.fieldLink own index (T k).1 (T k).2.1 (T k).2.2.1 ∈ gTs) (hdg : decode cc pc = .ok (.getfield index, 3)) : XSnd own cc nL rt mL pc (xo_get ci k (pc + 3)) := by
  intro E Lv n0 Q X hLv hX lv st σ h
  obtain ⟨q, st, rfl, h1⟩ := pR_e h
  obtain ⟨fs, he, h2⟩ := hO_e h1
  obtain ⟨v, hv, h3⟩ := nth_e h2
  intro p e R s m args below meth c H locs cells slots Z D cA ad A ls hC hR hl hw hE
  exact va_get hC.1 hC.2.1 hC.2.2.2.2 hin hC.2.2.2.1 hw.2.1 hw.2.2.1 q (xw_get he) hc k hk (hC.2.2.2.2 _ hlk) (fun _ h => h) (v := xv ad v) (by rw [List.getElem?_map, hv]; rfl) hdg (hX _ _ _ _ h3 p e R s m args below meth c H locs cells slots Z D cA ad A ls hC hR hl hw hE)

def xo_putI (ci k nx : Nat) : XOp := fun E Lv Q X lv st σ => pI st fun x st => pR st fun q st => hO σ q ci fun fs => nth fs k fun _ => stW fs k (.int x) fun fs' => stW σ q (.inr (ci, fs')) fun σ' => X nx lv st σ'
theorem xs_putI {ci k N index : Nat} {C : String} {T : u_T} {ty : Nat → FieldType} (hc : vwCl[ci]? = some (C, T, N)) (hin : ∀ w ∈ u_ws C T N, w ∈ gTs) (hty : ∀ k, k < N → parseFieldDescriptor (T k).2.2.1 = some (ty k)) (hnm : ∀ a, a < N → ∀ b, b < N → a ≠ b → (T a).2.1 ≠ (T b).2.1) (hk : k < N) (hlk : Cond.fieldLink own index (T k).1 (T k).2.1 (T k).2.2.1 ∈ gTs) (hfin : (T k).2.2.2 = false) (hd : parseFieldDescriptor (T k).2.2.1 = some .int) (hdg : decode cc pc = .ok (.putfield index, 3)) : XSnd own cc nL rt mL pc (xo_putI ci k (pc + 3)) := by
  intro E Lv n0 Q X hLv hX lv st σ h
  obtain ⟨x, st, rfl, h1⟩ := pI_e h
  obtain ⟨q, st, rfl, h2⟩ := pR_e h1
  obtain ⟨fs, he, h3⟩ := hO_e h2
  obtain ⟨v0, hv0, h4⟩ := nth_e h3
  have h5 := h4
  have h6 := stW_e (stW_e h5)
  intro p e R s m args below meth c H locs cells slots Z D cA ad A ls hC hR hl hw hE
  refine va_put hC.1 hC.2.1 hC.2.2.2.2 hin ty hty hnm hC.2.2.2.1 hw.2.1 hw.2.2.1 hw.D hw.2.2.2.2.1 q (xw_get he) hc k hk (hC.2.2.2.2 _ hlk) (fun _ h => h) hfin hd (v := xv ad (.int x)) (vp_nar_int x) rfl (by rw [List.length_map]; exact (List.getElem?_eq_some_iff.mp hv0).1) hdg (fun H1 locs1 hP1 hD1 hS1 => ?_)
  rw [← List.map_set] at hP1
  exact (hX _ _ _ _ h6 p e R s m args below meth c H1 locs1 cells slots Z D cA ad A ls hC hR hl (hw.set hP1 hS1) hE)

def xo_putZ (ci k nx : Nat) : XOp := fun E Lv Q X lv st σ => pI st fun x st => pR st fun q st => hO σ q ci fun fs => nth fs k fun _ => (x = 0 ∨ x = 1) ∧ stW fs k (.int x) fun fs' => stW σ q (.inr (ci, fs')) fun σ' => X nx lv st σ'
theorem xs_putZ {ci k N index : Nat} {C : String} {T : u_T} {ty : Nat → FieldType} (hc : vwCl[ci]? = some (C, T, N)) (hin : ∀ w ∈ u_ws C T N, w ∈ gTs) (hty : ∀ k, k < N → parseFieldDescriptor (T k).2.2.1 = some (ty k)) (hnm : ∀ a, a < N → ∀ b, b < N → a ≠ b → (T a).2.1 ≠ (T b).2.1) (hk : k < N) (hlk : Cond.fieldLink own index (T k).1 (T k).2.1 (T k).2.2.1 ∈ gTs) (hfin : (T k).2.2.2 = false) (hd : parseFieldDescriptor (T k).2.2.1 = some .boolean) (hdg : decode cc pc = .ok (.putfield index, 3)) : XSnd own cc nL rt mL pc (xo_putZ ci k (pc + 3)) := by
  intro E Lv n0 Q X hLv hX lv st σ h
  obtain ⟨x, st, rfl, h1⟩ := pI_e h
  obtain ⟨q, st, rfl, h2⟩ := pR_e h1
  obtain ⟨fs, he, h3⟩ := hO_e h2
  obtain ⟨v0, hv0, h4⟩ := nth_e h3
  obtain ⟨hz, h5⟩ := h4
  have h6 := stW_e (stW_e h5)
  intro p e R s m args below meth c H locs cells slots Z D cA ad A ls hC hR hl hw hE
  refine va_put hC.1 hC.2.1 hC.2.2.2.2 hin ty hty hnm hC.2.2.2.1 hw.2.1 hw.2.2.1 hw.D hw.2.2.2.2.1 q (xw_get he) hc k hk (hC.2.2.2.2 _ hlk) (fun _ h => h) hfin hd (v := xv ad (.int x)) (by rcases hz with rfl | rfl <;> rfl) (by rcases hz with rfl | rfl <;> rfl) (by rw [List.length_map]; exact (List.getElem?_eq_some_iff.mp hv0).1) hdg (fun H1 locs1 hP1 hD1 hS1 => ?_)
  rw [← List.map_set] at hP1
  exact (hX _ _ _ _ h6 p e R s m args below meth c H1 locs1 cells slots Z D cA ad A ls hC hR hl (hw.set hP1 hS1) hE)

def xo_putJ (ci k nx : Nat) : XOp := fun E Lv Q X lv st σ => pJ st fun x st => pR st fun q st => hO σ q ci fun fs => nth fs k fun _ => stW fs k (.long x) fun fs' => stW σ q (.inr (ci, fs')) fun σ' => X nx lv st σ'
theorem xs_putJ {ci k N index : Nat} {C : String} {T : u_T} {ty : Nat → FieldType} (hc : vwCl[ci]? = some (C, T, N)) (hin : ∀ w ∈ u_ws C T N, w ∈ gTs) (hty : ∀ k, k < N → parseFieldDescriptor (T k).2.2.1 = some (ty k)) (hnm : ∀ a, a < N → ∀ b, b < N → a ≠ b → (T a).2.1 ≠ (T b).2.1) (hk : k < N) (hlk : Cond.fieldLink own index (T k).1 (T k).2.1 (T k).2.2.1 ∈ gTs) (hfin : (T k).2.2.2 = false) (hd : parseFieldDescriptor (T k).2.2.1 = some .long) (hdg : decode cc pc = .ok (.putfield index, 3)) : XSnd own cc nL rt mL pc (xo_putJ ci k (pc + 3)) := by
  intro E Lv n0 Q X hLv hX lv st σ h
  obtain ⟨x, st, rfl, h1⟩ := pJ_e h
  obtain ⟨q, st, rfl, h2⟩ := pR_e h1
  obtain ⟨fs, he, h3⟩ := hO_e h2
  obtain ⟨v0, hv0, h4⟩ := nth_e h3
  have h5 := h4
  have h6 := stW_e (stW_e h5)
  intro p e R s m args below meth c H locs cells slots Z D cA ad A ls hC hR hl hw hE
  refine va_put hC.1 hC.2.1 hC.2.2.2.2 hin ty hty hnm hC.2.2.2.1 hw.2.1 hw.2.2.1 hw.D hw.2.2.2.2.1 q (xw_get he) hc k hk (hC.2.2.2.2 _ hlk) (fun _ h => h) hfin hd (v := xv ad (.long x)) (rfl) rfl (by rw [List.length_map]; exact (List.getElem?_eq_some_iff.mp hv0).1) hdg (fun H1 locs1 hP1 hD1 hS1 => ?_)
  rw [← List.map_set] at hP1
  exact (hX _ _ _ _ h6 p e R s m args below meth c H1 locs1 cells slots Z D cA ad A ls hC hR hl (hw.set hP1 hS1) hE)

def xo_putR (ci k nx : Nat) : XOp := fun E Lv Q X lv st σ => pR st fun x st => pR st fun q st => hO σ q ci fun fs => nth fs k fun _ => stW fs k (.ref x) fun fs' => stW σ q (.inr (ci, fs')) fun σ' => X nx lv st σ'
theorem xs_putR {ci k N index : Nat} {C C2 : String} {T : u_T} {ty : Nat → FieldType} (hc : vwCl[ci]? = some (C, T, N)) (hin : ∀ w ∈ u_ws C T N, w ∈ gTs) (hty : ∀ k, k < N → parseFieldDescriptor (T k).2.2.1 = some (ty k)) (hnm : ∀ a, a < N → ∀ b, b < N → a ≠ b → (T a).2.1 ≠ (T b).2.1) (hk : k < N) (hlk : Cond.fieldLink own index (T k).1 (T k).2.1 (T k).2.2.1 ∈ gTs) (hfin : (T k).2.2.2 = false) (hd : parseFieldDescriptor (T k).2.2.1 = some (.object C2)) (hdg : decode cc pc = .ok (.putfield index, 3)) : XSnd own cc nL rt mL pc (xo_putR ci k (pc + 3)) := by
  intro E Lv n0 Q X hLv hX lv st σ h
  obtain ⟨x, st, rfl, h1⟩ := pR_e h
  obtain ⟨q, st, rfl, h2⟩ := pR_e h1
  obtain ⟨fs, he, h3⟩ := hO_e h2
  obtain ⟨v0, hv0, h4⟩ := nth_e h3
  have h5 := h4
  have h6 := stW_e (stW_e h5)
  intro p e R s m args below meth c H locs cells slots Z D cA ad A ls hC hR hl hw hE
  refine va_put hC.1 hC.2.1 hC.2.2.2.2 hin ty hty hnm hC.2.2.2.1 hw.2.1 hw.2.2.1 hw.D hw.2.2.2.2.1 q (xw_get he) hc k hk (hC.2.2.2.2 _ hlk) (fun _ h => h) hfin hd (v := xv ad (.ref x)) (rfl) rfl (by rw [List.length_map]; exact (List.getElem?_eq_some_iff.mp hv0).1) hdg (fun H1 locs1 hP1 hD1 hS1 => ?_)
  rw [← List.map_set] at hP1
  exact (hX _ _ _ _ h6 p e R s m args below meth c H1 locs1 cells slots Z D cA ad A ls hC hR hl (hw.set hP1 hS1) hE)

-- ===== arrays =====
def xstA (E : XEnv) (q : Nat) (k : Nat → (Nat → Int32) → Prop) : Prop := match Nat.beq q 1000000 with
  | true => k 6 (xst 0)
  | false => match Nat.beq q 1000001 with
    | true => k 6 (xst 1)
    | false => match Nat.beq q 1000002 with
      | true => k 4 (xst 2)
      | false => match Nat.beq q 1000005 with
        | true => k E.2.1 E.2.2
        | false => False
theorem xstA_e {E : XEnv} {q : Nat} {k : Nat → (Nat → Int32) → Prop} (h : xstA E q k) : ∃ n f, k n f ∧ ∀ (ad : Nat → Nat) (A : Nat → Prop) (s : State), xG E ad A s → va_T .int (ad q) n (fun j => .int (f j)) A s s.heap := by
  unfold xstA at h
  cases h0 : Nat.beq q 1000000 with
  | true => rw [h0] at h; rw [Nat.eq_of_beq_eq_true h0]; exact ⟨_, _, h, fun ad A s g => g.2.1.2⟩
  | false =>
    rw [h0] at h
    cases h1 : Nat.beq q 1000001 with
    | true => rw [h1] at h; rw [Nat.eq_of_beq_eq_true h1]; exact ⟨_, _, h, fun ad A s g => g.2.2.1.2⟩
    | false =>
      rw [h1] at h
      cases h2 : Nat.beq q 1000002 with
      | true => rw [h2] at h; rw [Nat.eq_of_beq_eq_true h2]; exact ⟨_, _, h, fun ad A s g => g.2.2.2.1.2⟩
      | false =>
        rw [h2] at h
        cases h3 : Nat.beq q 1000005 with
        | true => rw [h3] at h; rw [Nat.eq_of_beq_eq_true h3]; exact ⟨_, _, h, fun ad A s g => g.2.2.2.2.2.2.2.2⟩
        | false => rw [h3] at h; exact h.elim
def xo_iald (nx : Nat) : XOp := fun E Lv Q X lv st σ => pI st fun i st => pR st fun q st => match Nat.ble 1000000 q with
  | true => xstA E q fun n f => vp_in i n ∧ X nx lv (.int (f i.toNatClampNeg) :: st) σ
  | false => hA σ q 0 fun n f => vp_in i n ∧ X nx lv (.int (f i.toNatClampNeg) :: st) σ
theorem xs_iald (hdg : decode cc pc = .ok (.iaload, 1)) : XSnd own cc nL rt mL pc (xo_iald (pc + 1)) := by
  intro E Lv n0 Q X hLv hX lv st σ h
  obtain ⟨i, st, rfl, h1⟩ := pI_e h
  obtain ⟨q, st, rfl, h2⟩ := pR_e h1
  cases hb : Nat.ble 1000000 q with
  | true =>
    simp only [hb] at h2
    obtain ⟨n, f, ⟨hin, h3⟩, hg⟩ := xstA_e h2
    intro p e R s m args below meth c H locs cells slots Z D cA ad A ls hC hR hl hw hE
    exact va_ti hC.1 hC.2.1 (hg _ _ _ hw.2.2.2.2.2) hw.2.2.2.2.1 hin rfl hdg (hX _ _ _ _ h3 p e R s m args below meth c H locs cells slots Z D cA ad A ls hC hR hl hw hE)
  | false =>
    simp only [hb] at h2
    obtain ⟨n, f, he, hin, h3⟩ := hA_e h2
    intro p e R s m args below meth c H locs cells slots Z D cA ad A ls hC hR hl hw hE
    exact va_iald hC.1 hC.2.1 hw.2.1 hw.2.2.1 q 0 (xw_get he) rfl hin hdg (hX _ _ _ _ h3 p e R s m args below meth c H locs cells slots Z D cA ad A ls hC hR hl hw hE)
def xo_zald (nx : Nat) : XOp := fun E Lv Q X lv st σ => pI st fun i st => pR st fun q st => hA σ q 1 fun n f => vp_in i n ∧ X nx lv (.int (f i.toNatClampNeg) :: st) σ
theorem xs_zald (hdg : decode cc pc = .ok (.baload, 1)) : XSnd own cc nL rt mL pc (xo_zald (pc + 1)) := by
  intro E Lv n0 Q X hLv hX lv st σ h
  obtain ⟨i, st, rfl, h1⟩ := pI_e h
  obtain ⟨q, st, rfl, h2⟩ := pR_e h1
  obtain ⟨n, f, he, hin, h3⟩ := hA_e h2
  intro p e R s m args below meth c H locs cells slots Z D cA ad A ls hC hR hl hw hE
  exact va_zald hC.1 hC.2.1 hw.2.1 hw.2.2.1 q 1 (xw_get he) rfl hin hdg (hX _ _ _ _ h3 p e R s m args below meth c H locs cells slots Z D cA ad A ls hC hR hl hw hE)
def xo_iast (nx : Nat) : XOp := fun E Lv Q X lv st σ => pI st fun x st => pI st fun i st => pR st fun q st => hA σ q 0 fun n f => vp_in i n ∧ stW σ q (.inl (0, n, .inl (upd f i.toNatClampNeg x))) fun σ' => X nx lv st σ'
theorem xs_iast (hdg : decode cc pc = .ok (.iastore, 1)) : XSnd own cc nL rt mL pc (xo_iast (pc + 1)) := by
  intro E Lv n0 Q X hLv hX lv st σ h
  obtain ⟨x, st, rfl, h0⟩ := pI_e h
  obtain ⟨i, st, rfl, h1⟩ := pI_e h0
  obtain ⟨q, st, rfl, h2⟩ := pR_e h1
  obtain ⟨n, f, he, hin, h3⟩ := hA_e h2
  have h4 := stW_e h3
  intro p e R s m args below meth c H locs cells slots Z D cA ad A ls hC hR hl hw hE
  refine va_iast hC.1 hC.2.1 hw.2.1 hw.2.2.1 hw.D hw.2.2.2.2.1 q 0 (xw_get he) rfl hin hdg (fun H1 locs1 hP1 hD1 hS1 => ?_)
  exact (hX _ _ _ _ h4 p e R s m args below meth c H1 locs1 cells slots Z D cA ad A ls hC hR hl (hw.set hP1 hS1) hE)
def xo_zast (nx : Nat) : XOp := fun E Lv Q X lv st σ => pI st fun x st => pI st fun i st => pR st fun q st => hA σ q 1 fun n f => vp_in i n ∧ stW σ q (.inl (1, n, .inl (upd f i.toNatClampNeg (vp_nar .boolean x)))) fun σ' => X nx lv st σ'
theorem xs_zast (hdg : decode cc pc = .ok (.bastore, 1)) : XSnd own cc nL rt mL pc (xo_zast (pc + 1)) := by
  intro E Lv n0 Q X hLv hX lv st σ h
  obtain ⟨x, st, rfl, h0⟩ := pI_e h
  obtain ⟨i, st, rfl, h1⟩ := pI_e h0
  obtain ⟨q, st, rfl, h2⟩ := pR_e h1
  obtain ⟨n, f, he, hin, h3⟩ := hA_e h2
  have h4 := stW_e h3
  intro p e R s m args below meth c H locs cells slots Z D cA ad A ls hC hR hl hw hE
  refine va_zast hC.1 hC.2.1 hw.2.1 hw.2.2.1 hw.D hw.2.2.2.2.1 q 1 (xw_get he) rfl hin hdg (fun H1 locs1 hP1 hD1 hS1 => ?_)
  exact (hX _ _ _ _ h4 p e R s m args below meth c H1 locs1 cells slots Z D cA ad A ls hC hR hl (hw.set hP1 hS1) hE)
def xo_aald (t nx : Nat) : XOp := fun E Lv Q X lv st σ => pI st fun i st => pR st fun q st => hQ σ q t fun n f => vp_in i n ∧ ∃ a, f i.toNatClampNeg = some a ∧ X nx lv (.ref a :: st) σ
theorem xs_aald {t : Nat} {C : String} (ht : ∀ cA, (xT cA)[t]? = some (cA t, .object C)) (hdg : decode cc pc = .ok (.aaload, 1)) : XSnd own cc nL rt mL pc (xo_aald t (pc + 1)) := by
  intro E Lv n0 Q X hLv hX lv st σ h
  obtain ⟨i, st, rfl, h1⟩ := pI_e h
  obtain ⟨q, st, rfl, h2⟩ := pR_e h1
  obtain ⟨n, f, he, hin, a, ha, h3⟩ := hQ_e h2
  intro p e R s m args below meth c H locs cells slots Z D cA ad A ls hC hR hl hw hE
  refine va_aldq hC.1 hC.2.1 hw.2.1 hw.2.2.1 q t (C := C) (n := n) (f := fun i => (f i).map ad) (xw_get he) (ht cA) hin hdg ?_
  rw [ha]
  exact (hX _ _ _ _ h3 p e R s m args below meth c H locs cells slots Z D cA ad A ls hC hR hl hw hE)
def xo_alen (nx : Nat) : XOp := fun E Lv Q X lv st σ => pR st fun q st => match Nat.ble 1000000 q with
  | true => xstA E q fun n _ => X nx lv (.int (Int32.ofNat n) :: st) σ
  | false => hA σ q 0 fun n _ => X nx lv (.int (Int32.ofNat n) :: st) σ
theorem xs_alen (hdg : decode cc pc = .ok (.arraylength, 1)) : XSnd own cc nL rt mL pc (xo_alen (pc + 1)) := by
  intro E Lv n0 Q X hLv hX lv st σ h
  obtain ⟨q, st, rfl, h2⟩ := pR_e h
  cases hb : Nat.ble 1000000 q with
  | true =>
    simp only [hb] at h2
    obtain ⟨n, f, h3, hg⟩ := xstA_e h2
    intro p e R s m args below meth c H locs cells slots Z D cA ad A ls hC hR hl hw hE
    exact va_tlen hC.1 hC.2.1 (hg _ _ _ hw.2.2.2.2.2) hw.2.2.2.2.1 rfl hdg (hX _ _ _ _ h3 p e R s m args below meth c H locs cells slots Z D cA ad A ls hC hR hl hw hE)
  | false =>
    simp only [hb] at h2
    obtain ⟨n, f, he, h3⟩ := hA_e h2
    intro p e R s m args below meth c H locs cells slots Z D cA ad A ls hC hR hl hw hE
    exact va_alen hC.1 hC.2.1 hw.2.1 hw.2.2.1 q 0 (xw_get he) rfl rfl hdg (hX _ _ _ _ h3 p e R s m args below meth c H locs cells slots Z D cA ad A ls hC hR hl hw hE)
-- ===== what is static =====
def xo_ref (q nx : Nat) : XOp := fun E Lv Q X lv st σ => X nx lv (.ref q :: st) σ
theorem xs_gets {q index : Nat} {C n d : String} (hz : ∀ E ad A s, xG E ad A s → va_Z C n d (.ref (ad q)) A s s.heap) (hlk : Cond.fieldLink own index C n d ∈ gTs) (hdg : decode cc pc = .ok (.getstatic index, 3)) : XSnd own cc nL rt mL pc (xo_ref q (pc + 3)) := by
  intro E Lv n0 Q X hLv hX lv st σ h
  intro p e R s m args below meth c H locs cells slots Z D cA ad A ls hC hR hl hw hE
  exact va_gets hC.1 hC.2.1 (hz _ _ _ _ hw.2.2.2.2.2) hw.2.2.2.2.1 hC.2.2.2.1 (hC.2.2.2.2 _ hlk) (fun _ h => h) hdg (hX _ _ _ _ h p e R s m args below meth c H locs cells slots Z D cA ad A ls hC hR hl hw hE)
theorem xs_ldcS (ho : own = RX0) (hdg : decode cc pc = .ok (.ldc 107, 2)) : XSnd own cc nL rt mL pc (xo_ref 1000003 (pc + 2)) := by
  intro E Lv n0 Q X hLv hX lv st σ h
  intro p e R s m args below meth c H locs cells slots Z D cA ad A ls hC hR hl hw hE
  exact va_ldcS hC.1 hC.2.1 hC.2.2.2.1 (by rw [ho]; exact hw.2.2.2.2.2.2.2.2.2.1) hdg (hX _ _ _ _ h p e R s m args below meth c H locs cells slots Z D cA ad A ls hC hR hl hw hE)
-- ===== calls =====
def xo_callV (y : MethodName) (cc' : ByteArray) (nL' : Nat) (rt' : Option FieldType) (n ci nx : Nat) : XOp := fun E Lv Q X lv st σ => pN n [] st fun as st => pR st fun q st => hO σ q ci fun _ => match smal st with
  | true => XIn E Lv y cc' nL' rt' (.ref q :: as) σ fun r σ' => X nx lv (xpush r st) σ'
  | false => False
def xo_callS (y : MethodName) (cc' : ByteArray) (nL' : Nat) (rt' : Option FieldType) (n nx : Nat) : XOp := fun E Lv Q X lv st σ => pN n [] st fun as st => match smal st with
  | true => XIn E Lv y cc' nL' rt' as σ fun r σ' => X nx lv (xpush r st) σ'
  | false => False
theorem xroom_call {Lv d nL' cells slots : Nat} {R : Room} (hR : xRoom Lv R cells slots) (hd : d < Lv) (hn : nL' ≤ 21) : ((rmL d).frames + 1 ≤ R.frames ∧ 8 + (nL' + 11) + (rmL d).locals ≤ R.locals) ∧ (cells + 0 ≤ R.cells ∧ slots + 0 ≤ R.slots) := by
  obtain ⟨h1, h2, h3, h4⟩ := hR
  refine ⟨⟨?_, ?_⟩, h3, h4⟩
  · show d + 1 + 1 ≤ R.frames
    omega
  · show 8 + (nL' + 11) + 40 * (d + 1) ≤ R.locals
    omega
theorem xs_callV {y : MethodName} {cc' : ByteArray} {nL' n ci index N : Nat} {rt' : Option FieldType} {C : String} {T : u_T} (hc : vwCl[ci]? = some (C, T, N)) (h1 : Cond.methodLink own index y ∈ gTs) (h2 : Cond.instanceMethod y ∈ gTs) (h3 : Cond.selects C y y ∈ gTs) (h4 : Cond.initialized C ∈ gTs) (h5 : Cond.code y cc' nL' rt' ∈ gTs) (hd : y.cls = C ∧ y.cls ≠ "java/lang/invoke/MethodHandle" ∧ y.cls ≠ "java/lang/invoke/VarHandle" ∧ (parseMethodDescriptor y.desc).map (fun d => d.parameters.length) = some n) (hnL : nL' ≤ 21) (hdg : decode cc pc = .ok (.invokevirtual index, 3)) : XSnd own cc nL rt mL pc (xo_callV y cc' nL' rt' n ci (pc + 3)) := by
  intro E Lv n0 Q X hLv hX lv st σ h
  obtain ⟨as, st, rfl, hlen, k1⟩ := pN_e h
  rw [List.append_nil] at k1
  obtain ⟨q, st, rfl, k2⟩ := pR_e k1
  obtain ⟨fs, he, k3⟩ := hO_e k2
  cases hsm : smal st with
  | false => simp only [hsm] at k3
  | true =>
    simp only [hsm] at k3
    intro p e R s m args below meth c H locs cells slots Z D cA ad A ls hC hR hl hw hE
    have cw : ∀ d, d < Lv → CallW R s args own C index y cc' nL' rt' (Cond.code y cc' nL' rt' :: gTs) (rmL d) 0 0 n := fun d g1 => cwV (R := R) (own := own) (index := index) (C := C) (rm := rmL d) (mc := 0) (ms := 0) (ws := Cond.code y cc' nL' rt' :: gTs) n hC.2.2.2.2 (gTs_GoodIn (fun w hw => by
      unfold wsV at hw
      simp only [List.cons_append, List.nil_append, List.mem_cons] at hw
      rcases hw with rfl | rfl | rfl | rfl | rfl | hw
      · exact h1
      · exact h2
      · exact h3
      · exact h4
      · exact h5
      · exact hw)) rfl rfl rfl hd (xroom_call hR g1 hnL).1
    rcases k3 with ⟨d, Qc, g1, g2, g7⟩ | ⟨d, P, argsc, σc, Qc, g1, g2, g3, g4, g5, g6, g7⟩
    · refine xcall_after0 (rest := st.map (xv ad)) (va_runV (As := as.map (xv ad)) (b := ad q) hC (g2 D cA ad A) (cw d g1) ⟨xpre_blind _ _ _ _ _ _ _, va_recv hw.2.1 hw.2.2.1 hc (xw_get he), fun U hU hW => ⟨rfl, xcall_pre0 hw U hU hW⟩⟩ rfl (by rw [List.length_map]; exact hlen) hl.1 (by simp [xv]) (lv_room (smal_e hsm)) hdg (xroom_call hR g1 hnL).2) hw (fun r σ' f1 f2 f3 H1 locs1 hw1 => ?_)
      rw [← xpush_e ad f3]
      exact (hX _ _ _ _ (g7 r σ' f1 f2) p e R s m args below meth c H1 locs1 cells slots Z D cA ad A ls hC hR hl hw1 hE)
    have hav : argsc.map (xv (xad ad P)) = Value.ref (ad q) :: as.map (xv ad) := by
      rw [show xv (xad ad P) = xv ad ∘ xv (xp P) from funext fun v => (xv_comp ad (xp P) v).symm, ← List.map_map, ← g6]
      rfl
    refine xcall_after (σc := σc) (P := P) (rest := st.map (xv ad)) (va_runV (As := as.map (xv ad)) (b := ad q) hC (g2 D cA (xad ad P) (xA (xad ad P) σc.length)) (cw d g1) ⟨xpre_blind _ _ _ _ _ _ _, va_recv hw.2.1 hw.2.2.1 hc (xw_get he), fun U hU hW => ⟨by rw [hav], xcall_pre hw g3 g4 g5 U hU hW⟩⟩ rfl (by rw [List.length_map]; exact hlen) hl.1 (by simp [xv]) (lv_room (smal_e hsm)) hdg (xroom_call hR g1 hnL).2) hw g3 g4 g5 (fun r σ' f1 f2 f3 H1 locs1 hw1 => ?_)
    rw [← xpush_e ad f3]
    exact (hX _ _ _ _ (g7 r σ' f1 f2) p e R s m args below meth c H1 locs1 cells slots Z D cA ad A ls hC hR hl hw1 hE)
theorem xs_callW {own y : _} {cc' : ByteArray} {nL' n index : Nat} {rt' : Option FieldType} (hn : ∀ (R : Room) (s : State) (args : Array Value) (d : Nat), (∀ w ∈ gTs, w.before args s = true) → (∀ q ∈ xNest, va_Nw (.methodLinkNest q.1 q.2.1 q.2.2.1 q.2.2.2) s) → ((rmL d).frames + 1 ≤ R.frames ∧ 8 + (nL' + 11) + (rmL d).locals ≤ R.locals) → ∀ (p : Program) (E : XEnv) (e : Env) (m : MethodId) (below : List Frame) (meth : Method) (c : Code) (H : Heap) (locs : List Loc) (cells slots : Nat) (ls : Array Slot) (As rest : List Value) (Pc : Array Value → State → Prop) (Qc : Array Value → State → Outcome → State → Prop) (free : Addr → Prop), CallFix p m c cc nL s args gTs own → Met E.1 y (Cond.code y cc' nL' rt' :: gTs) (rmL d) Pc Qc 0 0 free → PreS s H Pc As → As.length = n → ls.size = nL → (rest.map fun v => v.category).sum ≤ 8 → (cells + 0 ≤ R.cells ∧ slots + 0 ≤ R.slots) → va_Run p E.1 e R s m args below meth c H locs cells slots 0 0 (F0 m pc ls (As.reverse ++ rest)) rest (Qc As.toArray) free) (hnL : nL' ≤ 21) : XSnd own cc nL rt mL pc (xo_callS y cc' nL' rt' n (pc + 3)) := by
  intro E Lv n0 Q X hLv hX lv st σ h
  obtain ⟨as, st, rfl, hlen, k1⟩ := pN_e h
  rw [List.append_nil] at k1
  cases hsm : smal st with
  | false => simp only [hsm] at k1
  | true =>
    simp only [hsm] at k1
    intro p e R s m args below meth c H locs cells slots Z D cA ad A ls hC hR hl hw hE
    rw [show (as.reverse ++ st).map (xv ad) = (as.map (xv ad)).reverse ++ st.map (xv ad) by simp]
    rcases k1 with ⟨d, Qc, g1, g2, g7⟩ | ⟨d, P, argsc, σc, Qc, g1, g2, g3, g4, g5, g6, g7⟩
    · have hrun := hn R s args d hC.2.2.2.2 hw.2.2.2.2.2.1 (xroom_call hR g1 hnL).1 p E e m below meth c H locs cells slots ls (as.map (xv ad)) (st.map (xv ad)) _ _ _ hC (g2 D cA ad A) ⟨xpre_blind _ _ _ _ _ _ _, fun U hU hW => ⟨rfl, xcall_pre0 hw U hU hW⟩⟩ (by rw [List.length_map]; exact hlen) hl.1 (smal_e hsm) (xroom_call hR g1 hnL).2
      refine xcall_after0 (rest := st.map (xv ad)) hrun hw (fun r σ' f1 f2 f3 H1 locs1 hw1 => ?_)
      rw [← xpush_e ad f3]
      exact (hX _ _ _ _ (g7 r σ' f1 f2) p e R s m args below meth c H1 locs1 cells slots Z D cA ad A ls hC hR hl hw1 hE)
    obtain ⟨hr1, hr2⟩ := xroom_call hR g1 hnL
    have hav : argsc.map (xv (xad ad P)) = as.map (xv ad) := by
      rw [show xv (xad ad P) = xv ad ∘ xv (xp P) from funext fun v => (xv_comp ad (xp P) v).symm, ← List.map_map, ← g6]
    have hrun := hn R s args d hC.2.2.2.2 hw.2.2.2.2.2.1 hr1 p E e m below meth c H locs cells slots ls (as.map (xv ad)) (st.map (xv ad)) _ _ _ hC (g2 D cA (xad ad P) (xA (xad ad P) σc.length)) ⟨xpre_blind _ _ _ _ _ _ _, fun U hU hW => ⟨by rw [hav], xcall_pre hw g3 g4 g5 U hU hW⟩⟩ (by rw [List.length_map]; exact hlen) hl.1 (smal_e hsm) hr2
    refine xcall_after (σc := σc) (P := P) (rest := st.map (xv ad)) hrun hw g3 g4 g5 (fun r σ' f1 f2 f3 H1 locs1 hw1 => ?_)
    rw [← xpush_e ad f3]
    exact (hX _ _ _ _ (g7 r σ' f1 f2) p e R s m args below meth c H1 locs1 cells slots Z D cA ad A ls hC hR hl hw1 hE)
theorem xs_callS {y : MethodName} {cc' : ByteArray} {nL' n index : Nat} {rt' : Option FieldType} (h1 : Cond.methodLink own index y ∈ gTs) (h2 : Cond.static y ∈ gTs) (h4 : Cond.initialized y.cls ∈ gTs) (h5 : Cond.code y cc' nL' rt' ∈ gTs) (hd : y.cls ≠ "java/lang/invoke/MethodHandle" ∧ y.cls ≠ "java/lang/invoke/VarHandle" ∧ (parseMethodDescriptor y.desc).map (fun d => d.parameters.length) = some n) (hnL : nL' ≤ 21) (hdg : decode cc pc = .ok (.invokestatic index, 3)) : XSnd own cc nL rt mL pc (xo_callS y cc' nL' rt' n (pc + 3)) := by
  refine xs_callW (index := index) (fun R s args d hts hN hr p E e m below meth c H locs cells slots ls As rest Pc Qc free hC hM hp hAs hls hrest hf => ?_) hnL
  have cw := va_cwS (R := R) (s := s) (args := args) (own := own) (index := index) (rm := rmL d) (mc := 0) (ms := 0) (ws := Cond.code y cc' nL' rt' :: gTs) n hts (gTs_GoodIn (fun w hw => by
    unfold va_wsS at hw
    simp only [List.cons_append, List.nil_append, List.mem_cons] at hw
    rcases hw with rfl | rfl | rfl | rfl | hw
    · exact h1
    · exact h2
    · exact h4
    · exact h5
    · exact hw)) rfl rfl rfl hd hr
  exact va_runS hC hM cw hp rfl hAs hls rfl (lv_room hrest) hdg hf
theorem xs_callN {y : MethodName} {cc' : ByteArray} {nL' n index : Nat} {rt' : Option FieldType} {host : String} (h1 : (own, index, y, host) ∈ xNest) (h2 : Cond.static y ∈ gTs) (h4 : Cond.initialized y.cls ∈ gTs) (h5 : Cond.code y cc' nL' rt' ∈ gTs) (hd : y.cls ≠ "java/lang/invoke/MethodHandle" ∧ y.cls ≠ "java/lang/invoke/VarHandle" ∧ (parseMethodDescriptor y.desc).map (fun d => d.parameters.length) = some n) (hnL : nL' ≤ 21) (hdg : decode cc pc = .ok (.invokestatic index, 3)) : XSnd own cc nL rt mL pc (xo_callS y cc' nL' rt' n (pc + 3)) := by
  refine xs_callW (index := index) (fun R s args d hts hN hr p E e m below meth c H locs cells slots ls As rest Pc Qc free hC hM hp hAs hls hrest hf => ?_) hnL
  have cw := va_cnB (R := R) (s := s) (args := args) (own := own) (index := index) (host := host) (rm := rmL d) (mc := 0) (ms := 0) (ws := Cond.code y cc' nL' rt' :: gTs) n hts (gTs_GoodIn (fun w hw => by
    rcases List.mem_cons.mp hw with rfl | hw
    · exact h5
    · exact hw)) rfl rfl rfl (hN _ h1) (hts _ h4) hd hr
  exact va_runSN hC hM ⟨cw, hts _ h2, trivial⟩ hp rfl hAs hls rfl (lv_room hrest) hdg hf

def xo_p1 (f : Int32 → Int32) (nx : Nat) : XOp := fun E Lv Q X lv st σ => pI st fun a st => match smal st with
  | true => X nx lv (.int (f a) :: st) σ
  | false => False
theorem xs_p1 {y : MethodName} {cc' : ByteArray} {nL' d : Nat} {rt' : Option FieldType} {f : Int32 → Int32} (hs : XSnd own cc nL rt mL pc (xo_callS y cc' nL' rt' 1 (pc + 3))) (hc : ∀ (E : XEnv) (a : Int32), XCall E d y cc' nL' rt' [.int a] [] (fun r _ => r = some (.int (f a)))) (hd : d < mL) : XSnd own cc nL rt mL pc (xo_p1 f (pc + 3)) := by
  intro E Lv n0 Q X hLv hX lv st σ h
  obtain ⟨a, st, rfl, h1⟩ := pI_e h
  cases hsm : smal st with
  | false => simp only [hsm] at h1
  | true =>
    simp only [hsm] at h1
    refine hs E Lv n0 Q X hLv hX lv _ σ ?_
    show (match smal st with
      | true => XIn E Lv y cc' nL' rt' [.int a] σ fun r σ' => X (pc + 3) lv (xpush r st) σ'
      | false => False)
    rw [hsm]
    exact Or.inr ⟨d, [], [.int a], [], _, Nat.lt_of_lt_of_le hd hLv, hc E a, List.nodup_nil, Nat.le_of_ble_eq_true rfl, rfl, rfl, fun r σ' hl hr => by subst hr; exact h1⟩

def xo_p2 (f : Int32 → Int32 → Int32) (nx : Nat) : XOp := fun E Lv Q X lv st σ => pI st fun b st => pI st fun a st => match smal st with
  | true => X nx lv (.int (f a b) :: st) σ
  | false => False
theorem xs_p2 {y : MethodName} {cc' : ByteArray} {nL' d : Nat} {rt' : Option FieldType} {f : Int32 → Int32 → Int32} (hs : XSnd own cc nL rt mL pc (xo_callS y cc' nL' rt' 2 (pc + 3))) (hc : ∀ (E : XEnv) (a b : Int32), XCall E d y cc' nL' rt' [.int a, .int b] [] (fun r _ => r = some (.int (f a b)))) (hd : d < mL) : XSnd own cc nL rt mL pc (xo_p2 f (pc + 3)) := by
  intro E Lv n0 Q X hLv hX lv st σ h
  obtain ⟨b, st, rfl, h1⟩ := pI_e h
  obtain ⟨a, st, rfl, h2⟩ := pI_e h1
  cases hsm : smal st with
  | false => simp only [hsm] at h2
  | true =>
    simp only [hsm] at h2
    refine hs E Lv n0 Q X hLv hX lv _ σ ?_
    show (match smal st with
      | true => XIn E Lv y cc' nL' rt' [.int a, .int b] σ fun r σ' => X (pc + 3) lv (xpush r st) σ'
      | false => False)
    rw [hsm]
    exact Or.inr ⟨d, [], [.int a, .int b], [], _, Nat.lt_of_lt_of_le hd hLv, hc E a b, List.nodup_nil, Nat.le_of_ble_eq_true rfl, rfl, rfl, fun r σ' hl hr => by subst hr; exact h2⟩

def xo_p3 (f : Int32 → Int32 → Int32 → Int32) (nx : Nat) : XOp := fun E Lv Q X lv st σ => pI st fun c st => pI st fun b st => pI st fun a st => match smal st with
  | true => X nx lv (.int (f a b c) :: st) σ
  | false => False
theorem xs_p3 {y : MethodName} {cc' : ByteArray} {nL' d : Nat} {rt' : Option FieldType} {f : Int32 → Int32 → Int32 → Int32} (hs : XSnd own cc nL rt mL pc (xo_callS y cc' nL' rt' 3 (pc + 3))) (hc : ∀ (E : XEnv) (a b c : Int32), XCall E d y cc' nL' rt' [.int a, .int b, .int c] [] (fun r _ => r = some (.int (f a b c)))) (hd : d < mL) : XSnd own cc nL rt mL pc (xo_p3 f (pc + 3)) := by
  intro E Lv n0 Q X hLv hX lv st σ h
  obtain ⟨c, st, rfl, h1⟩ := pI_e h
  obtain ⟨b, st, rfl, h2⟩ := pI_e h1
  obtain ⟨a, st, rfl, h3⟩ := pI_e h2
  cases hsm : smal st with
  | false => simp only [hsm] at h3
  | true =>
    simp only [hsm] at h3
    refine hs E Lv n0 Q X hLv hX lv _ σ ?_
    show (match smal st with
      | true => XIn E Lv y cc' nL' rt' [.int a, .int b, .int c] σ fun r σ' => X (pc + 3) lv (xpush r st) σ'
      | false => False)
    rw [hsm]
    exact Or.inr ⟨d, [], [.int a, .int b, .int c], [], _, Nat.lt_of_lt_of_le hd hLv, hc E a b c, List.nodup_nil, Nat.le_of_ble_eq_true rfl, rfl, rfl, fun r σ' hl hr => by subst hr; exact h3⟩

/-- three longs in -/
def xo_q3 (f : Int64 → Int64 → Int64 → Int32) (nx : Nat) : XOp := fun E Lv Q X lv st σ => pJ st fun c st => pJ st fun b st => pJ st fun a st => match smal st with
  | true => X nx lv (.int (f a b c) :: st) σ
  | false => False
theorem xs_q3 {y : MethodName} {cc' : ByteArray} {nL' d : Nat} {rt' : Option FieldType} {f : Int64 → Int64 → Int64 → Int32} (hs : XSnd own cc nL rt mL pc (xo_callS y cc' nL' rt' 3 (pc + 3))) (hc : ∀ (E : XEnv) (a b c : Int64), XCall E d y cc' nL' rt' [.long a, .long b, .long c] [] (fun r _ => r = some (.int (f a b c)))) (hd : d < mL) : XSnd own cc nL rt mL pc (xo_q3 f (pc + 3)) := by
  intro E Lv n0 Q X hLv hX lv st σ h
  obtain ⟨c, st, rfl, h1⟩ := pJ_e h
  obtain ⟨b, st, rfl, h2⟩ := pJ_e h1
  obtain ⟨a, st, rfl, h3⟩ := pJ_e h2
  cases hsm : smal st with
  | false => simp only [hsm] at h3
  | true =>
    simp only [hsm] at h3
    refine hs E Lv n0 Q X hLv hX lv _ σ ?_
    show (match smal st with
      | true => XIn E Lv y cc' nL' rt' [.long a, .long b, .long c] σ fun r σ' => X (pc + 3) lv (xpush r st) σ'
      | false => False)
    rw [hsm]
    exact Or.inr ⟨d, [], [.long a, .long b, .long c], [], _, Nat.lt_of_lt_of_le hd hLv, hc E a b c, List.nodup_nil, Nat.le_of_ble_eq_true rfl, rfl, rfl, fun r σ' hl hr => by subst hr; exact h3⟩
/-- System.arraycopy of ints -/
def xo_acopy (nx : Nat) : XOp := fun E Lv Q X lv st σ => pI st fun n st => pI st fun dp st => pR st fun q1 st => pI st fun sp st => pR st fun q0 st => hA σ q0 0 fun n0 f => hA σ q1 0 fun n1 g => match smal st with
  | true => (¬ sp < 0 ∧ ¬ dp < 0 ∧ ¬ n < 0 ∧ sp.toNatClampNeg + n.toNatClampNeg ≤ n0 ∧ dp.toNatClampNeg + n.toNatClampNeg ≤ n1) ∧ stW σ q1 (.inl (0, n1, .inl (va_cpy f g sp.toNatClampNeg dp.toNatClampNeg n.toNatClampNeg))) fun σ' => X nx lv st σ'
  | false => False
theorem xs_acopy {index : Nat} (h1 : Cond.methodLink own index arraycopyName ∈ gTs) (h2 : Cond.native arraycopyName ∈ gTs) (h3 : Cond.static arraycopyName ∈ gTs) (h4 : Cond.initialized "java/lang/System" ∈ gTs) (hdg : decode cc pc = .ok (.invokestatic index, 3)) : XSnd own cc nL rt mL pc (xo_acopy (pc + 3)) := by
  intro E Lv n0 Q X hLv hX lv st σ h
  obtain ⟨n, st, rfl, k1⟩ := pI_e h
  obtain ⟨dp, st, rfl, k2⟩ := pI_e k1
  obtain ⟨q1, st, rfl, k3⟩ := pR_e k2
  obtain ⟨sp, st, rfl, k4⟩ := pI_e k3
  obtain ⟨q0, st, rfl, k5⟩ := pR_e k4
  obtain ⟨m0, f, e0, k6⟩ := hA_e k5
  obtain ⟨m1, g, e1, k7⟩ := hA_e k6
  cases hsm : smal st with
  | false => simp only [hsm] at k7
  | true =>
    simp only [hsm] at k7
    obtain ⟨⟨b1, b2, b3, b4, b5⟩, k8⟩ := k7
    have k9 := stW_e k8
    intro p e R s m args below meth c H locs cells slots Z D cA ad A ls hC hR hl hw hE
    have hsum := smal_e (ad := ad) hsm
    refine va_copyi hC.1 hC.2.1 (hC.2.2.1.trans hl.1.symm) hC.2.2.2.1 (hC.2.2.2.2 _ h1) (hC.2.2.2.2 _ h2) (hC.2.2.2.2 _ h3) (hC.2.2.2.2 _ h4) hw.2.1 hw.2.2.1 hw.D hw.2.2.2.2.1 q0 q1 0 0 (xw_get e0) (xw_get e1) rfl rfl rfl b1 b2 b3 b4 b5 (fun _ _ => rfl) (by have := hR.1; omega) ?_ hdg (fun H1 locs1 hP1 hD1 hS1 => ?_)
    · have h7 : nativeFrameWords "java/lang/System" "arraycopy" 5 = 7 := by decide +kernel
      rw [h7]
      have := hR.2.1
      omega
    · exact (hX _ _ _ _ k9 p e R s m args below meth c H1 locs1 cells slots Z D cA ad A ls hC hR hl (hw.set hP1 hS1) hE)
-- ===== returns =====
def xo_iret : XOp := fun E Lv Q X lv st σ => pI st fun v st => match st with
  | [] => Q (some (.int v)) σ
  | _ => False
theorem xs_iret (hrt : rt = some .int) (hdg : decode cc pc = .ok (.ireturn, 1)) : XSnd own cc nL rt mL pc xo_iret := by
  intro E Lv n0 Q X hLv hX lv st σ h
  obtain ⟨v, st, rfl, h1⟩ := pI_e h
  match st, h1 with
  | [], h1 =>
    intro p e R s m args below meth c H locs cells slots Z D cA ad A ls hC hR hl hw hE
    exact hE _ _ _ _ h1 hw pc ls hdg (by rw [hrt]; exact vp_nar_int v)
def xo_zret : XOp := fun E Lv Q X lv st σ => pI st fun v st => match st with
  | [] => (v = 0 ∨ v = 1) ∧ Q (some (.int v)) σ
  | _ => False
theorem xs_zret (hrt : rt = some .boolean) (hdg : decode cc pc = .ok (.ireturn, 1)) : XSnd own cc nL rt mL pc xo_zret := by
  intro E Lv n0 Q X hLv hX lv st σ h
  obtain ⟨v, st, rfl, h1⟩ := pI_e h
  match st, h1 with
  | [], h1 =>
    intro p e R s m args below meth c H locs cells slots Z D cA ad A ls hC hR hl hw hE
    exact hE _ _ _ _ h1.2 hw pc ls hdg (by rw [hrt]; rcases h1.1 with rfl | rfl <;> rfl)
def xo_lret : XOp := fun E Lv Q X lv st σ => pJ st fun v st => match st with
  | [] => Q (some (.long v)) σ
  | _ => False
theorem xs_lret (hrt : rt = some .long) (hdg : decode cc pc = .ok (.lreturn, 1)) : XSnd own cc nL rt mL pc xo_lret := by
  intro E Lv n0 Q X hLv hX lv st σ h
  obtain ⟨v, st, rfl, h1⟩ := pJ_e h
  match st, h1 with
  | [], h1 =>
    intro p e R s m args below meth c H locs cells slots Z D cA ad A ls hC hR hl hw hE
    exact hE _ _ _ _ h1 hw pc ls hdg hrt
def xo_vret : XOp := fun E Lv Q X lv st σ => match st with
  | [] => Q none σ
  | _ => False
theorem xs_vret (hrt : rt = none) (hdg : decode cc pc = .ok (.return_, 1)) : XSnd own cc nL rt mL pc xo_vret := by
  intro E Lv n0 Q X hLv hX lv st σ h
  match st, h with
  | [], h =>
    intro p e R s m args below meth c H locs cells slots Z D cA ad A ls hC hR hl hw hE
    exact hE _ _ _ _ h hw pc ls hdg hrt
-- ===== the walker =====
def xlook : List (Nat × XOp) → Nat → (XOp → Prop) → Prop
  | [], _, _ => False
  | (p, o) :: r, pc, k => match Nat.beq p pc with
    | true => k o
    | false => xlook r pc k
theorem xlook_e : ∀ {pr : List (Nat × XOp)} {pc : Nat} {k : XOp → Prop}, xlook pr pc k → ∃ o, (pc, o) ∈ pr ∧ k o
  | [], _, _, h => h.elim
  | (p, o) :: r, pc, k, h => by
    unfold xlook at h
    cases hb : Nat.beq p pc with
    | true => rw [hb] at h; rw [Nat.eq_of_beq_eq_true hb]; exact ⟨o, List.mem_cons_self, h⟩
    | false =>
      rw [hb] at h
      obtain ⟨o', h1, h2⟩ := xlook_e h
      exact ⟨o', List.mem_cons_of_mem _ h1, h2⟩
def xcut : List Nat → Nat → Bool
  | [], _ => false
  | a :: r, pc => match Nat.beq a pc with
    | true => true
    | false => xcut r pc
def xwp (E : XEnv) (Lv : Nat) (Q : XQ) (pr : List (Nat × XOp)) (cut : List Nat) (K : XK) : Nat → XK
  | 0 => K
  | n + 1 => fun pc lv st σ => match xcut cut pc with
    | true => K pc lv st σ
    | false => xlook pr pc fun o => o E Lv Q (xwp E Lv Q pr cut K n) lv st σ
def XPr (own : String) (cc : ByteArray) (nL : Nat) (rt : Option FieldType) (mL : Nat) (pr : List (Nat × XOp)) : Prop := ∀ q ∈ pr, XSnd own cc nL rt mL q.1 q.2
theorem xwp_ok {pr : List (Nat × XOp)} (hp : XPr own cc nL rt mL pr) {E : XEnv} {Lv n0 : Nat} {Q : XQ} {cut : List Nat} (hL : mL ≤ Lv) : ∀ (n pc : Nat) (lv : XL) (st : List Value) (σ : XW), xwp E Lv Q pr cut (XAt E own cc nL rt Lv n0 Q) n pc lv st σ → XAt E own cc nL rt Lv n0 Q pc lv st σ
  | 0, _, _, _, _, h => h
  | n + 1, pc, lv, st, σ, h => by
    unfold xwp at h
    cases hb : xcut cut pc with
    | true => rw [hb] at h; exact h
    | false =>
      rw [hb] at h
      obtain ⟨o, h1, h2⟩ := xlook_e h
      exact hp _ h1 E Lv n0 Q _ hL (fun pc' lv st σ h => xwp_ok hp hL n pc' lv st σ h) lv st σ h2
theorem xgo {pr : List (Nat × XOp)} (hp : XPr own cc nL rt mL pr) {E : XEnv} {Lv n0 : Nat} {Q : XQ} (cut : List Nat) (n : Nat) (hL : mL ≤ Lv) {pc : Nat} {lv : XL} {st : List Value} {σ : XW} (h : xlook pr pc fun o => o E Lv Q (xwp E Lv Q pr cut (XAt E own cc nL rt Lv n0 Q) n) lv st σ) : XAt E own cc nL rt Lv n0 Q pc lv st σ := by
  obtain ⟨o, h1, h2⟩ := xlook_e h
  exact hp _ h1 E Lv n0 Q _ hL (fun pc' lv st σ h => xwp_ok hp hL n pc' lv st σ h) lv st σ h2
theorem XPr.nil : XPr own cc nL rt mL [] := fun _ h => absurd h List.not_mem_nil
theorem XPr.cons {q : Nat × XOp} {r : List (Nat × XOp)} (h : XSnd own cc nL rt mL q.1 q.2) (hr : XPr own cc nL rt mL r) : XPr own cc nL rt mL (q :: r) := List.forall_mem_cons.mpr ⟨h, hr⟩
theorem XPr.app {a b : List (Nat × XOp)} (h : XPr own cc nL rt mL a) (hr : XPr own cc nL rt mL b) : XPr own cc nL rt mL (a ++ b) := List.forall_mem_append.mpr ⟨h, hr⟩
end XHEAP
