-- ===== the steps that are not alike =====
theorem E_mean (A : AS) (part : Int32) : (o_mean A part).2 = A := rfl
theorem E_chance (A : AS) (seed m part : Int32) : (o_chance A seed m part).2 = A := rfl
theorem b_mean (E : XEnv) {A : AS} {h : YQ} (hB : BI A h) (part : Int32) : XCall E 110 yX5_mean cX5_mean 4 (some .long) [.ref 0, .int part] (mW A h) (YBl (o_mean A part)) :=
  (c_X5_mean (E := E) (A := A) (h := h) hB.1.2.1.1 part).mono (fun r σ' _ x => by
    obtain ⟨rfl, h', hy, rfl⟩ := x
    exact ⟨rfl, h', hB.k hy hB.1 (AT.same A) rfl, rfl⟩)
theorem b_chance (E : XEnv) {A : AS} {h : YQ} (hB : BI A h) (seed m part : Int32) : XCall E 110 yX5_chance cX5_chance 7 (some .long) [.ref 0, .int seed, .int m, .int part] (mW A h) (YBl (o_chance A seed m part)) :=
  (c_X5_chance (E := E) (A := A) (h := h) (hB.says0 E) hB.1.2.1.1 seed m part).mono (fun r σ' _ x => by
    obtain ⟨rfl, h', hy, rfl⟩ := x
    exact ⟨rfl, h', hB.k hy hB.1 (AT.same A) rfl, rfl⟩)
theorem AT_back (A : AS) : AT A (o_back A).2 ∧ (o_back A).2.sh = A.sh := by
  unfold o_back
  repeat' split
  all_goals exact ⟨⟨⟨rfl, rfl, rfl⟩, ⟨rfl, rfl, rfl, rfl⟩, rfl, rfl⟩, rfl⟩
theorem b_back (E : XEnv) {A : AS} {h : YQ} (hB : BI A h) : XCall E 110 yX5_back cX5_back 2 (some .int) [.ref 0] (mW A h) (YB (o_back A)) :=
  (c_X5_back (E := E) (A := A) (h := h) hB.1.1.2.2.2.2.1 hB.2.2.2.1).mono (fun r σ' _ x => by
    obtain ⟨rfl, h', hy, rfl⟩ := x
    exact ⟨rfl, h', hB.k hy (AI_back hB.1) (AT_back A).1 (AT_back A).2, rfl⟩)
theorem b_image (E : XEnv) {A : AS} {h : YQ} (hB : BI A h) : XCall E 110 yX5_image cX5_image 2 (some .int) [.ref 0] (mW A h) (YB (o_image A)) :=
  (c_X5_image (E := E) (A := A) (h := h)).mono (fun r σ' _ x => by
    obtain ⟨rfl, h', ⟨y1, y2, y3, y4, y5, y6⟩, hk, rfl⟩ := x
    obtain ⟨ai, ti, ms, _, mt⟩ := hB
    refine ⟨rfl, h', ⟨AI_image ai, ti, ?_, Or.inr ⟨rfl, hk⟩, ?_⟩, rfl⟩
    · have m : MS A h' := by
        unfold MS at ms ⊢
        rw [y3, y4, y5, y6]
        exact ms
      exact m
    · have m : MT A h' := by
        unfold MT at mt ⊢
        rw [y1, y2]
        exact mt
      exact m)
theorem BI_feed {A : AS} {h : YQ} (hB : BI A h) (x : Int32) : BI (o_feed A x).2 h := by
  have a := AI_feed hB.1 x
  have t := TI_feed hB.2.1 x
  obtain ⟨_, _, ms, mk, mt⟩ := hB
  unfold o_feed at a t ⊢
  by_cases h1 : f_within x 0 255 = 0
  · rw [if_pos h1] at a t ⊢
    exact ⟨a, t, ms, mk, mt⟩
  rw [if_neg h1] at a t ⊢
  by_cases h2 : A.pn < 160
  · rw [if_pos h2] at a t ⊢
    exact ⟨a, t, ms, mk, mt⟩
  · rw [if_neg h2] at a t ⊢
    exact ⟨a, t, ms, mk, mt⟩
theorem b_feed (E : XEnv) {A : AS} {h : YQ} (hB : BI A h) (x : Int32) : XCall E 20 yX5_feed cX5_feed 2 (some .int) [.ref 0, .int x] (mW A h) (YB (o_feed A x)) :=
  (c_X5_feed (E := E) (A := A) (h := h) hB.1.1.2.2.2.2.2.2.2.1 x).mono (fun r σ' _ y => by
    obtain ⟨rfl, rfl⟩ := y
    exact ⟨rfl, h, BI_feed hB x, rfl⟩)
theorem BI_textB {A : AS} {h h' : YQ} (hB : BI A h) (hy : Ytx A h h') (h6 : A.tc < 6) (st en : F32) (sz : Int32) : BI (textB A st en sz) h' := by
  have a := AI_textB hB.1 st en sz
  have t := TI_textB hB.2.1 st en sz
  obtain ⟨_, ti, ms, mk, mt⟩ := hB
  obtain ⟨⟨y1, y2⟩, ⟨y3, y4, y5, y6⟩, y7, y8, y9, y10, y11, y12, y13, y14⟩ := hy
  refine ⟨a, t, ?_, ?_, ?_⟩
  · have m : MS A h' := by
      unfold MS at ms ⊢
      rw [y3, y4, y5, y6]
      exact ms
    exact m
  · have m : MK A h' := mk.at (AT.same A) y10 y11 y12 y13 y14 y7 y8 y9
    exact m
  · intro r hr
    have hr : r < A.tc := hr
    have m := mt r hr
    have z := (ti.2 r hr).1
    refine ⟨?_, fun i hi => ?_⟩
    · rw [y2, pk_un (by omega)]
      exact m.1
    · have hi : i < A.tz r := hi
      rw [y1, cpT_out (by omega)]
      exact m.2 i hi
theorem BI_textA {A : AS} {h h' : YQ} (hB : BI A h) (hy : Ytx A h h') (h6 : A.tc < 6) {v0 v1 v2 : zPV} {l0 l1 l2 : Nat} (ep : prF A.pb A.pn = .inr (v0, v1, v2, l0, l1, l2)) (st en : F32) (sz : Int32) (ok : TXok (txM (A.tx A.tc).wh st en sz) (eT (txM (A.tx A.tc).wh st en sz))) (hv : ∀ nm, tvT (txM (A.tx A.tc).wh st en sz) (eT (txM (A.tx A.tc).wh st en sz)) 0 nm = v0 nm ∧ tvT (txM (A.tx A.tc).wh st en sz) (eT (txM (A.tx A.tc).wh st en sz)) 1 nm = v1 nm ∧ tvT (txM (A.tx A.tc).wh st en sz) (eT (txM (A.tx A.tc).wh st en sz)) 2 nm = v2 nm) : BI (textA A st en sz) h' := by
  have a := AI_textA hB.1 h6 st en sz ok
  have t := TI_textA hB.2.1 hB.1.1.2.2.2.2.2.2.2.1 ep st en sz hv
  obtain ⟨_, ti, ms, mk, mt⟩ := hB
  obtain ⟨⟨y1, y2⟩, ⟨y3, y4, y5, y6⟩, y7, y8, y9, y10, y11, y12, y13, y14⟩ := hy
  refine ⟨a, t, ?_, ?_, ?_⟩
  · have m : MS A h' := by
      unfold MS at ms ⊢
      rw [y3, y4, y5, y6]
      exact ms
    exact m
  · have m : MK A h' := mk.at (AT.same A) y10 y11 y12 y13 y14 y7 y8 y9
    exact m
  · intro r hr
    have hr : r < A.tc + 1 := hr
    show h'.ts r = nI (va_up A.tz A.tc A.pn r) ∧ ∀ i, i < va_up A.tz A.tc A.pn r → h'.tx (160 * r + i) = va_up A.tb A.tc A.pb r i
    by_cases e : r = A.tc
    · subst e
      rw [up_eq, up_eq, y1, y2]
      exact ⟨pk_us, fun i hi => cpT_in hi⟩
    · rw [up_ne _ _ e, up_ne _ _ e]
      have m := mt r (by omega)
      have z := (ti.2 r (by omega)).1
      refine ⟨?_, fun i hi => ?_⟩
      · rw [y2, pk_un (by omega)]
        exact m.1
      · rw [y1, cpT_out (by omega)]
        exact m.2 i hi
