-- ===== reading: what is told, how many steps, where next; or the place of the fault =====
abbrev zPV : Type := F32 → Int32
abbrev PRes : Type := Nat ⊕ (zPV × Nat × Nat)
def zbind (r : PRes) (k : zPV → Nat → Nat → PRes) : PRes := match r with
  | .inl p => .inl p
  | .inr (v, l, q) => k v l q
def pv0 : zPV := fun _ => 0
/-- 0 one, 1 term, 2 its loop, 3 sum, 4 its loop, 5 compared, 6 not, 7 and, 8 its loop, 9 or, 10 its loop -/
def zpsF (f : F32) (n : Nat) : Nat → Nat → Nat → Nat → zPV → Nat → PRes
  | 0, _, _, q, _, _ => .inl (lpF f n q)
  | F + 1, 0, o, q, _, _ =>
    if cdF f n q = 12 then .inr (fun _ => nI (nbF f n q), 1, afF f n q)
    else if cdF f n q < 6 then .inr (fun nm => nm (cdF f n q), 1, afF f n q)
    else if cdF f n q = 45 then (if 5 ≤ o then .inl (lpF f n q) else zbind (zpsF f n F 0 (o + 1) (afF f n q) pv0 0) fun v l q' => .inr (fun nm => 0 - v nm, l + 2, q'))
    else if cdF f n q = 40 then (if 5 ≤ o then .inl (lpF f n q) else zbind (zpsF f n F 9 (o + 1) (afF f n q) pv0 0) fun v l q' => if cdF f n q' = 41 then .inr (v, l, afF f n q') else .inl (lpF f n q'))
    else .inl (lpF f n q)
  | F + 1, 1, o, q, _, _ => zbind (zpsF f n F 0 o q pv0 0) fun v l q' => zpsF f n F 2 o q' v l
  | F + 1, 2, o, q, v, l => if cdF f n q = 42 then zbind (zpsF f n F 0 o (afF f n q) pv0 0) fun w m q' => zpsF f n F 2 o q' (fun nm => v nm * w nm) (l + m + 1) else .inr (v, l, q)
  | F + 1, 3, o, q, _, _ => zbind (zpsF f n F 1 o q pv0 0) fun v l q' => zpsF f n F 4 o q' v l
  | F + 1, 4, o, q, v, l => if cdF f n q = 43 then zbind (zpsF f n F 1 o (afF f n q) pv0 0) fun w m q' => zpsF f n F 4 o q' (fun nm => v nm + w nm) (l + m + 1)
    else if cdF f n q = 45 then zbind (zpsF f n F 1 o (afF f n q) pv0 0) fun w m q' => zpsF f n F 4 o q' (fun nm => v nm - w nm) (l + m + 1) else .inr (v, l, q)
  | F + 1, 5, o, q, _, _ => zbind (zpsF f n F 3 o q pv0 0) fun v l q' => if cdF f n q' = 60 then zbind (zpsF f n F 3 o (afF f n q') pv0 0) fun w m q2 => .inr (fun nm => if v nm < w nm then 1 else 0, l + m + 1, q2)
    else if cdF f n q' = 61 then zbind (zpsF f n F 3 o (afF f n q') pv0 0) fun w m q2 => .inr (fun nm => if v nm = w nm then 1 else 0, l + m + 1, q2) else .inr (v, l, q')
  | F + 1, 6, o, q, _, _ => if cdF f n q = 11 then (if 5 ≤ o then .inl (lpF f n q) else zbind (zpsF f n F 6 (o + 1) (afF f n q) pv0 0) fun v l q' => .inr (fun nm => if v nm = 0 then 1 else 0, l + 2, q')) else zpsF f n F 5 o q pv0 0
  | F + 1, 7, o, q, _, _ => zbind (zpsF f n F 6 o q pv0 0) fun v l q' => zpsF f n F 8 o q' v l
  | F + 1, 8, o, q, v, l => if cdF f n q = 10 then zbind (zpsF f n F 6 o (afF f n q) pv0 0) fun w m q' => zpsF f n F 8 o q' (fun nm => if v nm = 0 then 0 else if w nm = 0 then 0 else 1) (l + m + 1) else .inr (v, l, q)
  | F + 1, 9, o, q, _, _ => zbind (zpsF f n F 7 o q pv0 0) fun v l q' => zpsF f n F 10 o q' v l
  | F + 1, 10, o, q, v, l => if cdF f n q = 9 then zbind (zpsF f n F 7 o (afF f n q) pv0 0) fun w m q' => zpsF f n F 10 o q' (fun nm => if v nm = 0 then (if w nm = 0 then 0 else 1) else 1) (l + m + 1) else .inr (v, l, q)
  | _ + 1, _ + 11, _, q, _, _ => .inl (lpF f n q)
theorem ps_e0 (f : F32) (n F o q : Nat) (v : zPV) (l : Nat) : zpsF f n (F + 1) 0 o q v l = (if cdF f n q = 12 then .inr (fun _ => nI (nbF f n q), 1, afF f n q)
    else if cdF f n q < 6 then .inr (fun nm => nm (cdF f n q), 1, afF f n q)
    else if cdF f n q = 45 then (if 5 ≤ o then .inl (lpF f n q) else zbind (zpsF f n F 0 (o + 1) (afF f n q) pv0 0) fun v l q' => .inr (fun nm => 0 - v nm, l + 2, q'))
    else if cdF f n q = 40 then (if 5 ≤ o then .inl (lpF f n q) else zbind (zpsF f n F 9 (o + 1) (afF f n q) pv0 0) fun v l q' => if cdF f n q' = 41 then .inr (v, l, afF f n q') else .inl (lpF f n q'))
    else .inl (lpF f n q)) := rfl
theorem ps_e1 (f : F32) (n F o q : Nat) (v : zPV) (l : Nat) : zpsF f n (F + 1) 1 o q v l = (zbind (zpsF f n F 0 o q pv0 0) fun v l q' => zpsF f n F 2 o q' v l) := rfl
theorem ps_e2 (f : F32) (n F o q : Nat) (v : zPV) (l : Nat) : zpsF f n (F + 1) 2 o q v l = (if cdF f n q = 42 then zbind (zpsF f n F 0 o (afF f n q) pv0 0) fun w m q' => zpsF f n F 2 o q' (fun nm => v nm * w nm) (l + m + 1) else .inr (v, l, q)) := rfl
theorem ps_e3 (f : F32) (n F o q : Nat) (v : zPV) (l : Nat) : zpsF f n (F + 1) 3 o q v l = (zbind (zpsF f n F 1 o q pv0 0) fun v l q' => zpsF f n F 4 o q' v l) := rfl
theorem ps_e4 (f : F32) (n F o q : Nat) (v : zPV) (l : Nat) : zpsF f n (F + 1) 4 o q v l = (if cdF f n q = 43 then zbind (zpsF f n F 1 o (afF f n q) pv0 0) fun w m q' => zpsF f n F 4 o q' (fun nm => v nm + w nm) (l + m + 1)
    else if cdF f n q = 45 then zbind (zpsF f n F 1 o (afF f n q) pv0 0) fun w m q' => zpsF f n F 4 o q' (fun nm => v nm - w nm) (l + m + 1) else .inr (v, l, q)) := rfl
theorem ps_e5 (f : F32) (n F o q : Nat) (v : zPV) (l : Nat) : zpsF f n (F + 1) 5 o q v l = (zbind (zpsF f n F 3 o q pv0 0) fun v l q' => if cdF f n q' = 60 then zbind (zpsF f n F 3 o (afF f n q') pv0 0) fun w m q2 => .inr (fun nm => if v nm < w nm then 1 else 0, l + m + 1, q2)
    else if cdF f n q' = 61 then zbind (zpsF f n F 3 o (afF f n q') pv0 0) fun w m q2 => .inr (fun nm => if v nm = w nm then 1 else 0, l + m + 1, q2) else .inr (v, l, q')) := rfl
theorem ps_e6 (f : F32) (n F o q : Nat) (v : zPV) (l : Nat) : zpsF f n (F + 1) 6 o q v l = (if cdF f n q = 11 then (if 5 ≤ o then .inl (lpF f n q) else zbind (zpsF f n F 6 (o + 1) (afF f n q) pv0 0) fun v l q' => .inr (fun nm => if v nm = 0 then 1 else 0, l + 2, q')) else zpsF f n F 5 o q pv0 0) := rfl
theorem ps_e7 (f : F32) (n F o q : Nat) (v : zPV) (l : Nat) : zpsF f n (F + 1) 7 o q v l = (zbind (zpsF f n F 6 o q pv0 0) fun v l q' => zpsF f n F 8 o q' v l) := rfl
theorem ps_e8 (f : F32) (n F o q : Nat) (v : zPV) (l : Nat) : zpsF f n (F + 1) 8 o q v l = (if cdF f n q = 10 then zbind (zpsF f n F 6 o (afF f n q) pv0 0) fun w m q' => zpsF f n F 8 o q' (fun nm => if v nm = 0 then 0 else if w nm = 0 then 0 else 1) (l + m + 1) else .inr (v, l, q)) := rfl
theorem ps_e9 (f : F32) (n F o q : Nat) (v : zPV) (l : Nat) : zpsF f n (F + 1) 9 o q v l = (zbind (zpsF f n F 7 o q pv0 0) fun v l q' => zpsF f n F 10 o q' v l) := rfl
theorem ps_e10 (f : F32) (n F o q : Nat) (v : zPV) (l : Nat) : zpsF f n (F + 1) 10 o q v l = (if cdF f n q = 9 then zbind (zpsF f n F 7 o (afF f n q) pv0 0) fun w m q' => zpsF f n F 10 o q' (fun nm => if v nm = 0 then (if w nm = 0 then 0 else 1) else 1) (l + m + 1) else .inr (v, l, q)) := rfl
def lpK (k : Nat) : Bool := k == 2 || k == 4 || k == 8 || k == 10
def psOk (f : F32) (n k q l : Nat) (r : PRes) : Prop := match r with
  | .inl _ => True
  | .inr (_, l', q') => q + (if lpK k then 0 else 1) ≤ q' ∧ q' ≤ n ∧ l' ≤ (if lpK k then l else 0) + 2 * (q' - q)
theorem bind_ok {f : F32} {n k1 q1 l1 k q l : Nat} {r : PRes} {g : zPV → Nat → Nat → PRes} (h : psOk f n k1 q1 l1 r) (hg : ∀ v l' q', q1 + (if lpK k1 then 0 else 1) ≤ q' → q' ≤ n → l' ≤ (if lpK k1 then l1 else 0) + 2 * (q' - q1) → psOk f n k q l (g v l' q')) : psOk f n k q l (zbind r g) := by
  match r, h with
  | .inl p, _ => exact trivial
  | .inr (v, l', q'), h => exact hg v l' q' h.1 h.2.1 h.2.2
theorem ps_ok (f : F32) (n : Nat) : ∀ (F k o q : Nat) (v : zPV) (l : Nat), k ≤ 10 → q ≤ n → psOk f n k q l (zpsF f n F k o q v l) := by
  intro F
  induction F with
  | zero => intro k o q v l _ _; exact trivial
  | succ F IH =>
    intro k o q v l hk hq
    have A := fun {c : Nat} (e : cdF f n q = c) (hc : c ≠ 13) => af_in (f := f) hq (by rw [e]; exact hc)
    rcases (by omega : k = 0 ∨ k = 1 ∨ k = 2 ∨ k = 3 ∨ k = 4 ∨ k = 5 ∨ k = 6 ∨ k = 7 ∨ k = 8 ∨ k = 9 ∨ k = 10) with rfl | rfl | rfl | rfl | rfl | rfl | rfl | rfl | rfl | rfl | rfl
    · rw [ps_e0]
      split
      · rename_i h
        have := A h (by omega)
        show q + 1 ≤ _ ∧ _ ≤ n ∧ 1 ≤ 0 + 2 * _
        omega
      · split
        · rename_i h
          have := af_in (f := f) hq (show ¬ cdF f n q = 13 by omega)
          show q + 1 ≤ _ ∧ _ ≤ n ∧ 1 ≤ 0 + 2 * _
          omega
        · split
          · rename_i h
            have := A h (by omega)
            split
            · exact trivial
            · refine bind_ok (IH 0 (o + 1) (afF f n q) pv0 0 (by omega) (by omega)) (fun v l' q' h1 h2 h3 => ?_)
              have h1 : afF f n q + 1 ≤ q' := h1
              have h3 : l' ≤ 0 + 2 * (q' - afF f n q) := h3
              show q + 1 ≤ q' ∧ q' ≤ n ∧ l' + 2 ≤ 0 + 2 * (q' - q)
              omega
          · split
            · rename_i h
              have := A h (by omega)
              split
              · exact trivial
              · refine bind_ok (IH 9 (o + 1) (afF f n q) pv0 0 (by omega) (by omega)) (fun v l' q' h1 h2 h3 => ?_)
                have h1 : afF f n q + 1 ≤ q' := h1
                have h3 : l' ≤ 0 + 2 * (q' - afF f n q) := h3
                split
                · rename_i h4
                  have := af_in (f := f) h2 (show ¬ cdF f n q' = 13 by omega)
                  show q + 1 ≤ afF f n q' ∧ afF f n q' ≤ n ∧ l' ≤ 0 + 2 * (afF f n q' - q)
                  omega
                · exact trivial
            · exact trivial
    · rw [ps_e1]
      refine bind_ok (IH 0 o q pv0 0 (by omega) hq) (fun v l' q' h1 h2 h3 => ?_)
      have h1 : q + 1 ≤ q' := h1
      have h3 : l' ≤ 0 + 2 * (q' - q) := h3
      have t := IH 2 o q' v l' (by omega) h2
      revert t
      match zpsF f n F 2 o q' v l' with
      | .inl _ => exact fun _ => trivial
      | .inr (_, l2, q2) =>
        intro t
        have t : q' + 0 ≤ q2 ∧ q2 ≤ n ∧ l2 ≤ l' + 2 * (q2 - q') := t
        show q + 1 ≤ q2 ∧ q2 ≤ n ∧ l2 ≤ 0 + 2 * (q2 - q)
        omega
    · rw [ps_e2]
      split
      · rename_i h
        have := A h (by omega)
        refine bind_ok (IH 0 o (afF f n q) pv0 0 (by omega) (by omega)) (fun w m q' h1 h2 h3 => ?_)
        have h1 : afF f n q + 1 ≤ q' := h1
        have h3 : m ≤ 0 + 2 * (q' - afF f n q) := h3
        have t := IH 2 o q' (fun nm => v nm * w nm) (l + m + 1) (by omega) h2
        revert t
        match zpsF f n F 2 o q' (fun nm => v nm * w nm) (l + m + 1) with
        | .inl _ => exact fun _ => trivial
        | .inr (_, l2, q2) =>
          intro t
          have t : q' + 0 ≤ q2 ∧ q2 ≤ n ∧ l2 ≤ (l + m + 1) + 2 * (q2 - q') := t
          show q + 0 ≤ q2 ∧ q2 ≤ n ∧ l2 ≤ l + 2 * (q2 - q)
          omega
      · show q + 0 ≤ q ∧ q ≤ n ∧ l ≤ l + 2 * (q - q)
        omega
    · rw [ps_e3]
      refine bind_ok (IH 1 o q pv0 0 (by omega) hq) (fun v l' q' h1 h2 h3 => ?_)
      have h1 : q + 1 ≤ q' := h1
      have h3 : l' ≤ 0 + 2 * (q' - q) := h3
      have t := IH 4 o q' v l' (by omega) h2
      revert t
      match zpsF f n F 4 o q' v l' with
      | .inl _ => exact fun _ => trivial
      | .inr (_, l2, q2) =>
        intro t
        have t : q' + 0 ≤ q2 ∧ q2 ≤ n ∧ l2 ≤ l' + 2 * (q2 - q') := t
        show q + 1 ≤ q2 ∧ q2 ≤ n ∧ l2 ≤ 0 + 2 * (q2 - q)
        omega
    · have step : ∀ (g : zPV → zPV), ¬ cdF f n q = 13 → psOk f n 4 q l (zbind (zpsF f n F 1 o (afF f n q) pv0 0) fun w m q' => zpsF f n F 4 o q' (g w) (l + m + 1)) := by
        intro g h
        have := af_in (f := f) hq h
        refine bind_ok (IH 1 o (afF f n q) pv0 0 (by omega) (by omega)) (fun w m q' h1 h2 h3 => ?_)
        have h1 : afF f n q + 1 ≤ q' := h1
        have h3 : m ≤ 0 + 2 * (q' - afF f n q) := h3
        have t := IH 4 o q' (g w) (l + m + 1) (by omega) h2
        revert t
        match zpsF f n F 4 o q' (g w) (l + m + 1) with
        | .inl _ => exact fun _ => trivial
        | .inr (_, l2, q2) =>
          intro t
          have t : q' + 0 ≤ q2 ∧ q2 ≤ n ∧ l2 ≤ (l + m + 1) + 2 * (q2 - q') := t
          show q + 0 ≤ q2 ∧ q2 ≤ n ∧ l2 ≤ l + 2 * (q2 - q)
          omega
      rw [ps_e4]
      split
      · rename_i h
        exact step (fun w nm => v nm + w nm) (by omega)
      · split
        · rename_i h
          exact step (fun w nm => v nm - w nm) (by omega)
        · show q + 0 ≤ q ∧ q ≤ n ∧ l ≤ l + 2 * (q - q)
          omega
    · rw [ps_e5]
      refine bind_ok (IH 3 o q pv0 0 (by omega) hq) (fun v l' q' h1 h2 h3 => ?_)
      have h1 : q + 1 ≤ q' := h1
      have h3 : l' ≤ 0 + 2 * (q' - q) := h3
      have step : ∀ (g : zPV → zPV), ¬ cdF f n q' = 13 → psOk f n 5 q l (zbind (zpsF f n F 3 o (afF f n q') pv0 0) fun w m q2 => .inr (g w, l' + m + 1, q2)) := by
        intro g h
        have := af_in (f := f) h2 h
        refine bind_ok (IH 3 o (afF f n q') pv0 0 (by omega) (by omega)) (fun w m q2 g1 g2 g3 => ?_)
        have g1 : afF f n q' + 1 ≤ q2 := g1
        have g3 : m ≤ 0 + 2 * (q2 - afF f n q') := g3
        show q + 1 ≤ q2 ∧ q2 ≤ n ∧ l' + m + 1 ≤ 0 + 2 * (q2 - q)
        omega
      split
      · rename_i h
        exact step (fun w nm => if v nm < w nm then 1 else 0) (by omega)
      · split
        · rename_i h
          exact step (fun w nm => if v nm = w nm then 1 else 0) (by omega)
        · show q + 1 ≤ q' ∧ q' ≤ n ∧ l' ≤ 0 + 2 * (q' - q)
          omega
    · rw [ps_e6]
      split
      · rename_i h
        have := A h (by omega)
        split
        · exact trivial
        · refine bind_ok (IH 6 (o + 1) (afF f n q) pv0 0 (by omega) (by omega)) (fun v l' q' h1 h2 h3 => ?_)
          have h1 : afF f n q + 1 ≤ q' := h1
          have h3 : l' ≤ 0 + 2 * (q' - afF f n q) := h3
          show q + 1 ≤ q' ∧ q' ≤ n ∧ l' + 2 ≤ 0 + 2 * (q' - q)
          omega
      · exact IH 5 o q pv0 0 (by omega) hq
    · rw [ps_e7]
      refine bind_ok (IH 6 o q pv0 0 (by omega) hq) (fun v l' q' h1 h2 h3 => ?_)
      have h1 : q + 1 ≤ q' := h1
      have h3 : l' ≤ 0 + 2 * (q' - q) := h3
      have t := IH 8 o q' v l' (by omega) h2
      revert t
      match zpsF f n F 8 o q' v l' with
      | .inl _ => exact fun _ => trivial
      | .inr (_, l2, q2) =>
        intro t
        have t : q' + 0 ≤ q2 ∧ q2 ≤ n ∧ l2 ≤ l' + 2 * (q2 - q') := t
        show q + 1 ≤ q2 ∧ q2 ≤ n ∧ l2 ≤ 0 + 2 * (q2 - q)
        omega
    · rw [ps_e8]
      split
      · rename_i h
        have := A h (by omega)
        refine bind_ok (IH 6 o (afF f n q) pv0 0 (by omega) (by omega)) (fun w m q' h1 h2 h3 => ?_)
        have h1 : afF f n q + 1 ≤ q' := h1
        have h3 : m ≤ 0 + 2 * (q' - afF f n q) := h3
        have t := IH 8 o q' (fun nm => if v nm = 0 then 0 else if w nm = 0 then 0 else 1) (l + m + 1) (by omega) h2
        revert t
        match zpsF f n F 8 o q' (fun nm => if v nm = 0 then 0 else if w nm = 0 then 0 else 1) (l + m + 1) with
        | .inl _ => exact fun _ => trivial
        | .inr (_, l2, q2) =>
          intro t
          have t : q' + 0 ≤ q2 ∧ q2 ≤ n ∧ l2 ≤ (l + m + 1) + 2 * (q2 - q') := t
          show q + 0 ≤ q2 ∧ q2 ≤ n ∧ l2 ≤ l + 2 * (q2 - q)
          omega
      · show q + 0 ≤ q ∧ q ≤ n ∧ l ≤ l + 2 * (q - q)
        omega
    · rw [ps_e9]
      refine bind_ok (IH 7 o q pv0 0 (by omega) hq) (fun v l' q' h1 h2 h3 => ?_)
      have h1 : q + 1 ≤ q' := h1
      have h3 : l' ≤ 0 + 2 * (q' - q) := h3
      have t := IH 10 o q' v l' (by omega) h2
      revert t
      match zpsF f n F 10 o q' v l' with
      | .inl _ => exact fun _ => trivial
      | .inr (_, l2, q2) =>
        intro t
        have t : q' + 0 ≤ q2 ∧ q2 ≤ n ∧ l2 ≤ l' + 2 * (q2 - q') := t
        show q + 1 ≤ q2 ∧ q2 ≤ n ∧ l2 ≤ 0 + 2 * (q2 - q)
        omega
    · rw [ps_e10]
      split
      · rename_i h
        have := A h (by omega)
        refine bind_ok (IH 7 o (afF f n q) pv0 0 (by omega) (by omega)) (fun w m q' h1 h2 h3 => ?_)
        have h1 : afF f n q + 1 ≤ q' := h1
        have h3 : m ≤ 0 + 2 * (q' - afF f n q) := h3
        have t := IH 10 o q' (fun nm => if v nm = 0 then (if w nm = 0 then 0 else 1) else 1) (l + m + 1) (by omega) h2
        revert t
        match zpsF f n F 10 o q' (fun nm => if v nm = 0 then (if w nm = 0 then 0 else 1) else 1) (l + m + 1) with
        | .inl _ => exact fun _ => trivial
        | .inr (_, l2, q2) =>
          intro t
          have t : q' + 0 ≤ q2 ∧ q2 ≤ n ∧ l2 ≤ (l + m + 1) + 2 * (q2 - q') := t
          show q + 0 ≤ q2 ∧ q2 ≤ n ∧ l2 ≤ l + 2 * (q2 - q)
          omega
      · show q + 0 ≤ q ∧ q ≤ n ∧ l ≤ l + 2 * (q - q)
        omega
