-- ===== text =====
/-- behind text: no text, or one -/
def textB (A : AS) (st en : F32) (sz : Int32) : AS := (A.S, A.ru, A.ik, A.K, A.kr, A.tc, va_up A.tx A.tc (txM (A.tx A.tc).wh st en sz), A.tb, A.tz, A.pb, 0, A.sh)
def textA (A : AS) (st en : F32) (sz : Int32) : AS := (A.S, A.ru, A.ik, A.K, A.kr, A.tc + 1, va_up A.tx A.tc (txM (A.tx A.tc).wh st en sz), va_up A.tb A.tc A.pb, va_up A.tz A.tc A.pn, A.pb, 0, A.sh)
def RT1 (A : AS) : XQ := fun rv σ' => match prF A.pb A.pn with
  | .inl p => rv = some (.int (-100 - nI p)) ∧ ∃ st en sz g', σ' = gW (textB A st en sz) g'
  | .inr (v0, v1, v2, _, _, _) => rv = some (.int (nI A.tc)) ∧ ∃ st en sz g', σ' = gW (textA A st en sz) g' ∧ TXok (txM (A.tx A.tc).wh st en sz) (eT (txM (A.tx A.tc).wh st en sz)) ∧ ∀ nm, tvT (txM (A.tx A.tc).wh st en sz) (eT (txM (A.tx A.tc).wh st en sz)) 0 nm = v0 nm ∧ tvT (txM (A.tx A.tc).wh st en sz) (eT (txM (A.tx A.tc).wh st en sz)) 1 nm = v1 nm ∧ tvT (txM (A.tx A.tc).wh st en sz) (eT (txM (A.tx A.tc).wh st en sz)) 2 nm = v2 nm
def RTx (A : AS) : XQ := fun rv σ' => if A.tc < 6 then RT1 A rv σ' else rv = some (.int (-4)) ∧ ∃ g', σ' = gW A g'
theorem ev_rt {st nm : F32} {i l : Nat} {v : Int32} {d : Nat} (h : Ev st nm i l v d) (hd : d ≤ 64) : (rtF st nm l i 0 (fun _ => 0)).1 = v := by
  obtain ⟨w, e, _, b⟩ := h 0 (fun _ => 0) (by omega)
  have t := rt_ex l i 0 (fun _ => 0) (0 + 1) w 0 e
  rw [show l + 0 = l from rfl] at t
  rw [t]
  exact b
theorem tx_ok {wh : Int32} {st en : F32} {sz : Int32} {l0 l1 l2 : Nat} {v0 v1 v2 : zPV} (hl : l0 + l1 + l2 ≤ 320) (h0 : en 0 = nI l0) (h1 : en 1 = nI (l0 + l1)) (h2 : en 2 = nI (l0 + l1 + l2)) (hv0 : ∀ nm, Ev st nm 0 l0 (v0 nm) 42) (hv1 : ∀ nm, Ev st nm l0 l1 (v1 nm) 42) (hv2 : ∀ nm, Ev st nm (l0 + l1) l2 (v2 nm) 42) : TXok (txM wh st en sz) (eT (txM wh st en sz)) ∧ ∀ nm, tvT (txM wh st en sz) (eT (txM wh st en sz)) 0 nm = v0 nm ∧ tvT (txM wh st en sz) (eT (txM wh st en sz)) 1 nm = v1 nm ∧ tvT (txM wh st en sz) (eT (txM wh st en sz)) 2 nm = v2 nm := by
  have e0 : eT (txM wh st en sz) 0 = l0 := by show (en 0).toNatClampNeg = _; rw [h0, nI_clamp (by omega)]
  have e1 : eT (txM wh st en sz) 1 = l0 + l1 := by show (en 1).toNatClampNeg = _; rw [h1, nI_clamp (by omega)]
  have e2 : eT (txM wh st en sz) 2 = l0 + l1 + l2 := by show (en 2).toNatClampNeg = _; rw [h2, nI_clamp (by omega)]
  refine ⟨⟨?_, ?_, ?_, ?_, ?_, ?_⟩, fun nm => ⟨?_, ?_, ?_⟩⟩
  · rw [e0]; exact h0
  · rw [e1]; exact h1
  · rw [e2]; exact h2
  · rw [e0, e1]; omega
  · rw [e1, e2]; omega
  · rw [e2]; omega
  · unfold tvT
    show (rtF st nm (eT (txM wh st en sz) 0 - 0) 0 0 (fun _ => 0)).1 = _
    rw [e0]
    exact ev_rt (hv0 nm) (by omega)
  · unfold tvT
    show (rtF st nm (eT (txM wh st en sz) 1 - eT (txM wh st en sz) 0) (eT (txM wh st en sz) 0) 0 (fun _ => 0)).1 = _
    rw [e0, e1, show l0 + l1 - l0 = l1 by omega]
    exact ev_rt (hv1 nm) (by omega)
  · unfold tvT
    show (rtF st nm (eT (txM wh st en sz) 2 - eT (txM wh st en sz) 1) (eT (txM wh st en sz) 1) 0 (fun _ => 0)).1 = _
    rw [e1, e2, show l0 + l1 + l2 - (l0 + l1) = l2 by omega]
    exact ev_rt (hv2 nm) (by omega)
theorem rt1_bad (A : AS) {p : Nat} (e : prF A.pb A.pn = .inl p) (st en : F32) (sz : Int32) (g' : GQ) : RT1 A (some (.int (-100 - nI p))) (gW (textB A st en sz) g') := by
  unfold RT1
  rw [e]
  exact ⟨rfl, st, en, sz, g', rfl⟩
theorem rt1_ok (A : AS) {v0 v1 v2 : zPV} {l0 l1 l2 : Nat} (e : prF A.pb A.pn = .inr (v0, v1, v2, l0, l1, l2)) (st en : F32) (sz : Int32) (g' : GQ) (rv : Option Value) (σ : XW) (hr : rv = some (.int (nI A.tc))) (hσ : σ = gW (textA A st en sz) g') (ok : TXok (txM (A.tx A.tc).wh st en sz) (eT (txM (A.tx A.tc).wh st en sz)) ∧ ∀ nm, tvT (txM (A.tx A.tc).wh st en sz) (eT (txM (A.tx A.tc).wh st en sz)) 0 nm = v0 nm ∧ tvT (txM (A.tx A.tc).wh st en sz) (eT (txM (A.tx A.tc).wh st en sz)) 1 nm = v1 nm ∧ tvT (txM (A.tx A.tc).wh st en sz) (eT (txM (A.tx A.tc).wh st en sz)) 2 nm = v2 nm) : RT1 A rv σ := by
  unfold RT1
  rw [e]
  exact ⟨hr, st, en, sz, g', hσ, ok.1, ok.2⟩
set_option maxRecDepth 100000 in
set_option maxHeartbeats 8000000 in
theorem c_X4_text (E : XEnv) (A : AS) (g : GQ) (hW : ∀ en, WordOk E A.pb A.pn (A.tx A.tc).wh en (g.wt A.tc)) (hn : A.pn ≤ 160) (h6 : A.tc ≤ 6) : XCall E 91 yX4_text cX4_text 2 (some .int) [.ref 0] (gW A g) (RTx A) := by
  have ct : (nI A.tc).toNatClampNeg = A.tc := nI_clamp (by omega)
  rcases Nat.lt_or_ge A.tc 6 with hlt | hge
  · have e : f_within (nI A.tc) 0 5 = 1 := fw_in (n := 6) (by omega) hlt
    refine XCall.mono (Q := RT1 A) (XCall.of (by decide +kernel) (xle rfl) (xgo sX4_text [31] 100 (xle rfl) ⟨fun y => ?_, fun y => absurd (e.symm.trans y) (by decide)⟩)) (fun rv σ' _ h => ?_)
    · refine ⟨vp_in_nI (by omega) (by omega), tp A.tc, ?_, XIn.same (xle rfl) (c_X0_reads A g A.tc E hW hn hlt) (fun rv σ' _ z => ?_)⟩
      · show (if (nI A.tc).toNatClampNeg < 6 then some (tp (nI A.tc).toNatClampNeg) else none) = _
        rw [ct, if_pos hlt]
      unfold RdC at z
      cases eP : prF A.pb A.pn with
      | inl p =>
        rw [eP] at z
        obtain ⟨rfl, hp, st, en, sz, g', rfl⟩ := z
        show XAt E RX4 cX4_text 2 (some .int) 91 61 _ 31 [(0, .ref 0)] [.int (nI p)] (gW (rA A A.tc st en sz) g')
        exact xgo sX4_text [] 100 (xle rfl) ⟨fun y => absurd y (nI_m1 hp), fun _ => rt1_bad A eP st en sz g'⟩
      | inr x =>
        obtain ⟨v0, v1, v2, l0, l1, l2⟩ := x
        rw [eP] at z
        obtain ⟨rfl, hl, st, en, g', rfl, h0, h1, h2, hv0, hv1, hv2⟩ := z
        show XAt E RX4 cX4_text 2 (some .int) 91 61 _ 31 [(0, .ref 0)] [.int (-1)] (gW (rA A A.tc st en (nI (l0 + l1 + l2))) g')
        have ok := tx_ok (wh := (A.tx A.tc).wh) (sz := nI (l0 + l1 + l2)) hl h0 h1 h2 hv0 hv1 hv2
        refine xgo sX4_text [] 100 (xle rfl) ⟨fun _ => rt1_ok A eP st en (nI (l0 + l1 + l2)) g' _ _ ?_ ?_ ok, fun y => absurd rfl y⟩
        · show some (Value.int (nI A.tc + 1 - 1)) = _
          rw [← nI_succ, nI_pred]
        · unfold gW
          rw [show nI (textA A st en (nI (l0 + l1 + l2))).tc = nI A.tc + 1 from nI_succ _]
          rfl
    · unfold RTx
      rw [if_pos hlt]
      exact h
  · have hn6 : ¬ A.tc < 6 := by omega
    refine XCall.mono (Q := fun rv σ' => rv = some (.int (-4)) ∧ ∃ g', σ' = gW A g') (XCall.of (by decide +kernel) (xle rfl) (xgo sX4_text [31] 100 (xle rfl) ⟨fun y => ?_, fun y => ⟨rfl, g, rfl⟩⟩)) (fun rv σ' _ h => ?_)
    · obtain ⟨k, hk, ek⟩ := fw_e (n := 6) (by omega) y
      have := (nI_eq (a := A.tc) (b := k) (by omega) (by omega)).mp ek
      omega
    · unfold RTx
      rw [if_neg hn6]
      exact h
