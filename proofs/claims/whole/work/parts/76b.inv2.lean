-- ===== what holds of the sheets, the tape, the texts whatever is done =====
theorem up_eq {α : Type} (f : Nat → α) (i : Nat) (v : α) : va_up f i v i = v := if_pos rfl
theorem up_ne {α : Type} (f : Nat → α) {i j : Nat} (v : α) (h : ¬ j = i) : va_up f i v j = f j := if_neg h
theorem AI_sh {A : AS} (h : AI A) (s : Nat) (so : Int32) (n : Nat) (f : F32) (hn : n ≤ 40) : AI (shF A s so n f) := by
  refine ⟨⟨h.1.1, h.1.2.1, h.1.2.2.1, h.1.2.2.2.1, h.1.2.2.2.2.1, h.1.2.2.2.2.2.1, h.1.2.2.2.2.2.2.1, h.1.2.2.2.2.2.2.2.1, fun i hi => ?_, h.1.2.2.2.2.2.2.2.2.2⟩, h.2.1, h.2.2⟩
  show (va_up A.sh s (so, n, f) i).2.1 ≤ 40
  by_cases e : i = s
  · rw [e, up_eq]; exact hn
  · rw [up_ne _ _ e]; exact h.1.2.2.2.2.2.2.2.2.1 i hi
theorem AI_gang {A : AS} (h : AI A) (s so from' n : Int32) : AI (o_gang A s so from' n).2 := by
  unfold o_gang
  by_cases h1 : f_isSheet s = 0
  · rw [if_pos h1]; exact h
  rw [if_neg h1]
  by_cases h2 : f_within so 0 2 = 0
  · rw [if_pos h2]; exact h
  rw [if_neg h2]
  by_cases h3 : f_within n 0 5 = 0
  · rw [if_pos h3]; exact h
  rw [if_neg h3]
  by_cases h4 : (A.sh s.toNatClampNeg).1 = -1
  · rw [if_pos h4]; exact h
  rw [if_neg h4]
  by_cases h5 : (A.sh s.toNatClampNeg).1 = so
  · rw [if_pos h5]; exact AI_S h (SI_gang _ _ _ _ _ _ h.2.1)
  · rw [if_neg h5]; exact h
theorem AI_sheet {A : AS} (h : AI A) (s so n : Int32) : AI (o_sheet A s so n).2 := by
  unfold o_sheet
  by_cases h1 : f_isSheet s = 0
  · rw [if_pos h1]; exact h
  rw [if_neg h1]
  by_cases h2 : f_within so (-1) 2 = 0
  · rw [if_pos h2]; exact h
  rw [if_neg h2]
  by_cases h3 : so = -1
  · rw [if_pos h3]; exact AI_sh h _ _ _ _ (by omega)
  rw [if_neg h3]
  by_cases h4 : n ≤ (40 : Int32)
  · rw [if_pos h4]
    by_cases h5 : 0 ≤ n
    · rw [if_pos h5]
      obtain ⟨k, hk, e⟩ := nI_of (Int32.not_lt.mpr h5)
      subst e
      have := (nI_leI (a := k) (b := 40) (by omega) (by omega)).mp h4
      exact AI_sh h _ _ _ _ (by rw [nI_clamp (by omega)]; exact this)
    · rw [if_neg h5]; exact h
  · rw [if_neg h4]; exact h
theorem sheet_lt {s : Int32} (h : ¬ f_isSheet s = 0) : s.toNatClampNeg < 4 := by
  obtain ⟨k, hk, e⟩ := fw_e (n := 4) (by omega) h
  subst e
  rw [nI_clamp (by omega)]
  exact hk
theorem AI_cell {A : AS} (h : AI A) (s i v : Int32) : AI (o_cell A s i v).2 := by
  unfold o_cell
  by_cases h1 : f_isSheet s = 0
  · rw [if_pos h1]; exact h
  rw [if_neg h1]
  by_cases h2 : (A.sh s.toNatClampNeg).1 = -1
  · rw [if_pos h2]; exact h
  rw [if_neg h2]
  by_cases h3 : holdF (A.sh s.toNatClampNeg).2.1 i 1 = 0
  · rw [if_pos h3]; exact h
  rw [if_neg h3]
  exact AI_sh h _ _ _ _ (h.1.2.2.2.2.2.2.2.2.1 _ (sheet_lt h1))
theorem AI_copy {A : AS} (h : AI A) (s i o j n : Int32) : AI (o_copy A s i o j n).2 := by
  unfold o_copy
  by_cases h1 : f_isSheet s = 0
  · rw [if_pos h1]; exact h
  rw [if_neg h1]
  by_cases h2 : f_isSheet o = 0
  · rw [if_pos h2]; exact h
  rw [if_neg h2]
  by_cases h3 : (A.sh s.toNatClampNeg).1 = -1
  · rw [if_pos h3]; exact h
  rw [if_neg h3]
  by_cases h4 : (A.sh o.toNatClampNeg).1 = -1
  · rw [if_pos h4]; exact h
  rw [if_neg h4]
  by_cases h5 : (A.sh s.toNatClampNeg).1 = (A.sh o.toNatClampNeg).1
  · rw [if_pos h5]
    by_cases h6 : holdF (A.sh s.toNatClampNeg).2.1 i n = 0
    · rw [if_pos h6]; exact h
    rw [if_neg h6]
    by_cases h7 : holdF (A.sh o.toNatClampNeg).2.1 j n = 0
    · rw [if_pos h7]; exact h
    rw [if_neg h7]
    exact AI_sh h _ _ _ _ (h.1.2.2.2.2.2.2.2.2.1 _ (sheet_lt h2))
  · rw [if_neg h5]; exact h
theorem AI_film {A : AS} (h : AI A) (s n : Int32) : AI (o_film A s n).2 := by
  unfold o_film
  by_cases h1 : f_isSheet s = 0
  · rw [if_pos h1]; exact h
  rw [if_neg h1]
  by_cases h2 : f_within n 0 20 = 0
  · rw [if_pos h2]; exact h
  rw [if_neg h2]
  obtain ⟨k, hk, e⟩ := fw_e (n := 21) (by omega) h2
  subst e
  exact AI_sh h _ _ _ _ (by rw [nI_clamp (by omega)]; omega)
theorem AI_feed {A : AS} (h : AI A) (x : Int32) : AI (o_feed A x).2 := by
  unfold o_feed
  by_cases h1 : f_within x 0 255 = 0
  · rw [if_pos h1]; exact h
  rw [if_neg h1]
  by_cases h2 : A.pn < 160
  · rw [if_pos h2]
    exact ⟨⟨h.1.1, h.1.2.1, h.1.2.2.1, h.1.2.2.2.1, h.1.2.2.2.2.1, h.1.2.2.2.2.2.1, h.1.2.2.2.2.2.2.1, show A.pn + 1 ≤ 160 by omega, h.1.2.2.2.2.2.2.2.2.1, h.1.2.2.2.2.2.2.2.2.2⟩, h.2.1, h.2.2⟩
  · rw [if_neg h2]; exact h
/-- the tape's bytes, the texts' bytes and what they say -/
def TI (A : AS) : Prop := (∀ i, i < A.pn → 0 ≤ A.pb i) ∧ ∀ r, r < A.tc → A.tz r ≤ 160 ∧ (∀ i, i < A.tz r → 0 ≤ A.tb r i) ∧ TOk (A.tb r) (A.tz r) (tvA A r)
theorem TI_feed {A : AS} (h : TI A) (x : Int32) : TI (o_feed A x).2 := by
  unfold o_feed
  by_cases h1 : f_within x 0 255 = 0
  · rw [if_pos h1]; exact h
  rw [if_neg h1]
  by_cases h2 : A.pn < 160
  · rw [if_pos h2]
    refine ⟨fun i hi => ?_, h.2⟩
    have hi : i < A.pn + 1 := hi
    show 0 ≤ upd A.pb A.pn x i
    by_cases e : i = A.pn
    · rw [e, pk_us]; exact (fw_y h1).1
    · rw [pk_un e]; exact h.1 i (by omega)
  · rw [if_neg h2]; exact h
theorem AI_textB {A : AS} (h : AI A) (st en : F32) (sz : Int32) : AI (textB A st en sz) := by
  refine ⟨⟨h.1.1, h.1.2.1, h.1.2.2.1, fun i hi => ?_, h.1.2.2.2.2.1, h.1.2.2.2.2.2.1, fun i hi => ?_, Nat.zero_le _, h.1.2.2.2.2.2.2.2.2.1, h.1.2.2.2.2.2.2.2.2.2⟩, h.2.1, h.2.2⟩
  · have hi : i < A.tc := hi
    show TXok (va_up A.tx A.tc (txM (A.tx A.tc).wh st en sz) i) (eT (va_up A.tx A.tc (txM (A.tx A.tc).wh st en sz) i))
    rw [up_ne _ _ (by omega)]
    exact h.1.2.2.2.1 i hi
  · show (va_up A.tx A.tc (txM (A.tx A.tc).wh st en sz) i).wh = nI i
    by_cases e : i = A.tc
    · subst e
      rw [up_eq]
      exact h.1.2.2.2.2.2.2.1 A.tc hi
    · rw [up_ne _ _ e]
      exact h.1.2.2.2.2.2.2.1 i hi
theorem TI_textB {A : AS} (h : TI A) (st en : F32) (sz : Int32) : TI (textB A st en sz) := by
  refine ⟨fun i hi => absurd hi (Nat.not_lt_zero _), fun r hr => ?_⟩
  have hr : r < A.tc := hr
  have e : tvA (textB A st en sz) r = tvA A r := by
    unfold tvA
    show tvT (va_up A.tx A.tc (txM (A.tx A.tc).wh st en sz) r) (eT (va_up A.tx A.tc (txM (A.tx A.tc).wh st en sz) r)) = _
    rw [up_ne _ _ (by omega)]
  rw [e]
  exact h.2 r hr
theorem AI_textA {A : AS} (h : AI A) (h6 : A.tc < 6) (st en : F32) (sz : Int32) (ok : TXok (txM (A.tx A.tc).wh st en sz) (eT (txM (A.tx A.tc).wh st en sz))) : AI (textA A st en sz) := by
  refine ⟨⟨h.1.1, Nat.lt_succ_of_lt h.1.2.1, h6, fun i hi => ?_, h.1.2.2.2.2.1, Nat.lt_succ_of_lt h.1.2.2.2.2.2.1, fun i hi => ?_, Nat.zero_le _, h.1.2.2.2.2.2.2.2.2.1, h.1.2.2.2.2.2.2.2.2.2⟩, h.2.1, h.2.2⟩
  · have hi : i < A.tc + 1 := hi
    show TXok (va_up A.tx A.tc (txM (A.tx A.tc).wh st en sz) i) (eT (va_up A.tx A.tc (txM (A.tx A.tc).wh st en sz) i))
    by_cases e : i = A.tc
    · rw [e, up_eq]; exact ok
    · rw [up_ne _ _ e]
      exact h.1.2.2.2.1 i (by omega)
  · show (va_up A.tx A.tc (txM (A.tx A.tc).wh st en sz) i).wh = nI i
    by_cases e : i = A.tc
    · subst e
      rw [up_eq]
      exact h.1.2.2.2.2.2.2.1 A.tc hi
    · rw [up_ne _ _ e]
      exact h.1.2.2.2.2.2.2.1 i hi
theorem TI_textA {A : AS} (h : TI A) (hn : A.pn ≤ 160) {v0 v1 v2 : zPV} {l0 l1 l2 : Nat} (ep : prF A.pb A.pn = .inr (v0, v1, v2, l0, l1, l2)) (st en : F32) (sz : Int32) (hv : ∀ nm, tvT (txM (A.tx A.tc).wh st en sz) (eT (txM (A.tx A.tc).wh st en sz)) 0 nm = v0 nm ∧ tvT (txM (A.tx A.tc).wh st en sz) (eT (txM (A.tx A.tc).wh st en sz)) 1 nm = v1 nm ∧ tvT (txM (A.tx A.tc).wh st en sz) (eT (txM (A.tx A.tc).wh st en sz)) 2 nm = v2 nm) : TI (textA A st en sz) := by
  refine ⟨fun i hi => absurd hi (Nat.not_lt_zero _), fun r hr => ?_⟩
  have hr : r < A.tc + 1 := hr
  show va_up A.tz A.tc A.pn r ≤ 160 ∧ (∀ i, i < va_up A.tz A.tc A.pn r → 0 ≤ va_up A.tb A.tc A.pb r i) ∧ TOk (va_up A.tb A.tc A.pb r) (va_up A.tz A.tc A.pn r) (tvT (va_up A.tx A.tc (txM (A.tx A.tc).wh st en sz) r) (eT (va_up A.tx A.tc (txM (A.tx A.tc).wh st en sz) r)))
  by_cases e : r = A.tc
  · subst e
    rw [up_eq, up_eq, up_eq]
    exact ⟨hn, h.1, v0, v1, v2, l0, l1, l2, ep, hv⟩
  · rw [up_ne _ _ e, up_ne _ _ e, up_ne _ _ e]
    exact h.2 r (by omega)
