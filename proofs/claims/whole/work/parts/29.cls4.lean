theorem nth_i {α : Type} : ∀ {l : List α} {n : Nat} {a : α} {k : α → Prop}, l[n]? = some a → k a → nth l n k
  | [], _, _, _, h, _ => by simp at h
  | _ :: _, 0, _, _, h, hk => by cases h; exact hk
  | _ :: r, n + 1, _, _, h, hk => nth_i (l := r) (n := n) h hk
theorem beq_t (n : Nat) : Nat.beq n n = true := Nat.beq_refl n
theorem hO_i {σ : XW} {q ci : Nat} {fs : List Value} {k : List Value → Prop} (h : σ[q]? = some (.inr (ci, fs))) (hk : k fs) : hO σ q ci k := by
  refine nth_i h ?_
  dsimp only
  rw [beq_t]
  exact hk
theorem hA_i {σ : XW} {q t n : Nat} {f : F32} {k : Nat → F32 → Prop} (h : σ[q]? = some (.inl (t, n, .inl f))) (hk : k n f) : hA σ q t k := by
  refine nth_i h ?_
  dsimp only
  rw [beq_t]
  exact hk
theorem iald_i {E : XEnv} {σ : XW} {q n : Nat} {f : F32} {P : Nat → F32 → Prop} (hq : Nat.ble 1000000 q = false) (h : σ[q]? = some (.inl (0, n, .inl f))) (hk : P n f) : (match Nat.ble 1000000 q with
  | true => xstA E q P
  | false => hA σ q 0 P) := by
  rw [hq]
  exact hA_i h hk
theorem gsh (A : AS) (g : GQ) {s : Nat} (hs : s < 4) : (gW A g)[29 + 2 * s]? = some (.inr (1, [.int (A.sh s).1, .int (nI (A.sh s).2.1), .ref (30 + 2 * s)])) ∧ (gW A g)[30 + 2 * s]? = some (.inl (0, 40, .inl (A.sh s).2.2)) := by
  rcases (by omega : s = 0 ∨ s = 1 ∨ s = 2 ∨ s = 3) with rfl | rfl | rfl | rfl <;> exact ⟨rfl, rfl⟩
theorem xsub_sh (A : AS) (g : GQ) {s : Nat} (hs : s < 4) : xSub [29 + 2 * s, 30 + 2 * s] (gW A g) (sheW (A.sh s).1 (A.sh s).2.1 (A.sh s).2.2) := by
  obtain ⟨h0, h1⟩ := gsh A g hs
  show [(gW A g)[29 + 2 * s]?, (gW A g)[30 + 2 * s]?] = _
  rw [h0, h1]
  rfl
theorem xmg_sh (A : AS) (g : GQ) {s : Nat} (hs : s < 4) (so : Int32) (n : Nat) (f : F32) : xmg [29 + 2 * s, 30 + 2 * s] [29 + 2 * s, 30 + 2 * s] (sheW so n f) (gW A g) = gW (A.set_sh (va_up A.sh s (so, n, f))) g := by
  rcases (by omega : s = 0 ∨ s = 1 ∨ s = 2 ∨ s = 3) with rfl | rfl | rfl | rfl <;> rfl
theorem up_self {α : Type} (f : Nat → α) (k : Nat) : va_up f k (f k) = f := by
  funext j
  unfold va_up
  split
  · next h => rw [h]
  · rfl
theorem set_sh_self (A : AS) : A.set_sh A.sh = A := rfl
section GSH
variable {E : XEnv} {Lv d : Nat} {y : MethodName} {cc : ByteArray} {nL : Nat} {rt : Option FieldType} {as : List Value} {Qc K : XQ}
theorem gSh (A : AS) (g : GQ) {s : Nat} (hs : s < 4) (hd : d < Lv) (has : as = as.map (xv (xp [29 + 2 * s, 30 + 2 * s]))) (h : XCall E d y cc nL rt (.ref 0 :: as) (sheW (A.sh s).1 (A.sh s).2.1 (A.sh s).2.2) Qc) (k : ∀ r σ', Qc r σ' → ∃ so n f, σ' = sheW so n f ∧ K r (gW (A.set_sh (va_up A.sh s (so, n, f))) g)) : XIn E Lv y cc nL rt (.ref (29 + 2 * s) :: as) (gW A g) K := by
  refine XIn.sub [29 + 2 * s, 30 + 2 * s] hd h (by simp) (Nat.le_of_ble_eq_true rfl) (xsub_sh A g hs) (by rw [List.map_cons, ← has]; rfl) (fun r σ' _ hq => ?_)
  obtain ⟨so, n, f, rfl, hk⟩ := k r σ' hq
  rw [xmg_sh A g hs]
  exact hk
theorem gShR (A : AS) (g : GQ) {s : Nat} (hs : s < 4) (hd : d < Lv) (has : as = as.map (xv (xp [29 + 2 * s, 30 + 2 * s]))) (h : XCall E d y cc nL rt (.ref 0 :: as) (sheW (A.sh s).1 (A.sh s).2.1 (A.sh s).2.2) Qc) (k : ∀ r σ', Qc r σ' → σ' = sheW (A.sh s).1 (A.sh s).2.1 (A.sh s).2.2 ∧ K r (gW A g)) : XIn E Lv y cc nL rt (.ref (29 + 2 * s) :: as) (gW A g) K := by
  refine gSh A g hs hd has h (fun r σ' hq => ?_)
  obtain ⟨h1, h2⟩ := k r σ' hq
  refine ⟨_, _, _, h1, ?_⟩
  have e : va_up A.sh s ((A.sh s).1, (A.sh s).2.1, (A.sh s).2.2) = A.sh := up_self A.sh s
  rw [e]
  exact h2
end GSH
def shF (A : AS) (s : Nat) (so : Int32) (n : Nat) (f : F32) : AS := A.set_sh (va_up A.sh s (so, n, f))
def o_sheet (A : AS) (s so n : Int32) : Int32 × AS :=
  if f_isSheet s = 0 then (-2, A) else if f_within so (-1) 2 = 0 then (-2, A) else if so = -1 then (1, shF A s.toNatClampNeg (-1) 0 (fun _ => 0))
  else if n ≤ (40 : Int32) then (if 0 ≤ n then (1, shF A s.toNatClampNeg so n.toNatClampNeg (fun _ => 0)) else (-14, A)) else (-2, A)
def o_cell (A : AS) (s i v : Int32) : Int32 × AS :=
  if f_isSheet s = 0 then (-2, A) else if (A.sh s.toNatClampNeg).1 = -1 then (-11, A) else if holdF (A.sh s.toNatClampNeg).2.1 i 1 = 0 then (-12, A)
  else (1, shF A s.toNatClampNeg (A.sh s.toNatClampNeg).1 (A.sh s.toNatClampNeg).2.1 (upd (A.sh s.toNatClampNeg).2.2 i.toNatClampNeg (putF (A.sh s.toNatClampNeg).1 v)))
def o_copy (A : AS) (s i o j n : Int32) : Int32 × AS :=
  if f_isSheet s = 0 then (-2, A) else if f_isSheet o = 0 then (-2, A) else if (A.sh s.toNatClampNeg).1 = -1 then (-11, A) else if (A.sh o.toNatClampNeg).1 = -1 then (-11, A)
  else if (A.sh s.toNatClampNeg).1 = (A.sh o.toNatClampNeg).1 then
    (if holdF (A.sh s.toNatClampNeg).2.1 i n = 0 then (-12, A) else if holdF (A.sh o.toNatClampNeg).2.1 j n = 0 then (-12, A)
    else (n, shF A o.toNatClampNeg (A.sh o.toNatClampNeg).1 (A.sh o.toNatClampNeg).2.1 (va_cpy (A.sh s.toNatClampNeg).2.2 (A.sh o.toNatClampNeg).2.2 i.toNatClampNeg j.toNatClampNeg n.toNatClampNeg)))
  else (-13, A)
theorem hold_e {n : Nat} (hn : n ≤ 40) {a b : Int32} (h : ¬ holdF n a b = 0) : ∃ i m, a = nI i ∧ b = nI m ∧ i + m ≤ n := by
  unfold holdF at h
  by_cases h1 : f_within b 0 (nI n) = 0
  · rw [if_pos h1] at h
    exact absurd rfl h
  · rw [if_neg h1] at h
    obtain ⟨q1, q2⟩ := fw_y h1
    obtain ⟨m, hm, rfl⟩ := nI_of (Int32.not_lt.mpr q1)
    have hmn := (nI_leI hm (by omega)).mp q2
    by_cases h2 : f_within a 0 (nI n - nI m) = 0
    · rw [if_pos h2] at h
      exact absurd rfl h
    · obtain ⟨q3, q4⟩ := fw_y h2
      obtain ⟨i, hi, rfl⟩ := nI_of (Int32.not_lt.mpr q3)
      rw [pk_sub hmn] at q4
      have := (nI_leI hi (by omega)).mp q4
      exact ⟨i, m, rfl, rfl, by omega⟩
section CLS
variable (E : XEnv) (A : AS) (g : GQ)
theorem c_X4_isText (t : Int32) : XCall E 20 yX4_isText cX4_isText 2 (some .boolean) [.ref 0, .int t] (gW A g) (fun r σ' => r = some (.int (f_within t 0 (nI A.tc - 1))) ∧ σ' = gW A g) :=
  XCall.of (by decide +kernel) (xle rfl) (xgo sX4_isText [] 60 (xle rfl) ⟨f_within_01 _ _ _, rfl, rfl⟩)
set_option maxRecDepth 100000 in
set_option maxHeartbeats 4000000 in
theorem c_X4_force (hC : CI A) (t : Int32) : XCall E 21 yX4_force cX4_force 3 (some .int) [.ref 0, .int t] (gW A g) (XR (o_force A t)) := by
  unfold o_force
  have h6 := hC.2.2.1
  refine XCall.of (by decide +kernel) (xle rfl) (xgo sX4_force [18] 60 (xle rfl) (XIn.same (xle rfl) (c_X4_isText E A g t) (fun r σ' _ h => ?_)))
  obtain ⟨rfl, rfl⟩ := h
  refine ⟨fun h => ?_, fun h => ?_⟩
  · rw [if_neg h]
    obtain ⟨k, hk, rfl⟩ := fw_e (by omega) h
    rw [nI_clamp (by omega)]
    refine xgo sX4_force [] 60 (xle rfl) (hO_i (gtx A g A.ru hC.ru6).1 ⟨vp_in_nI (by omega) (by omega), tp k, ?_, ?_⟩)
    · show (if (nI k).toNatClampNeg < 6 then some (tp (nI k).toNatClampNeg) else none) = _
      rw [nI_clamp (by omega), if_pos (by omega)]
    · refine ⟨?_, g, rfl⟩
      rw [hC.2.2.2.2.2.2.1 A.ru hC.ru6]
  · rw [if_pos h]
    exact ⟨rfl, g, rfl⟩
set_option maxRecDepth 100000 in
set_option maxHeartbeats 4000000 in
theorem c_X4_image : XCall E 20 yX4_image cX4_image 1 (some .int) [.ref 0] (gW A g) (XR (o_image A)) := by
  refine XCall.of (by decide +kernel) (xle rfl) (xgo sX4_image [] 60 (xle rfl) (XIn.same (xle rfl) (c_becomes_kp E A g) (fun r σ' _ h => ?_)))
  obtain ⟨rfl, rfl⟩ := h
  exact ⟨Or.inr rfl, rfl, g, rfl⟩
set_option maxRecDepth 100000 in
set_option maxHeartbeats 4000000 in
theorem c_X4_back : XCall E 20 yX4_back cX4_back 1 (some .int) [.ref 0] (gW A g) (XR (o_back A)) := by
  unfold o_back
  refine XCall.of (by decide +kernel) (xle rfl) (xgo sX4_back [] 60 (xle rfl) ⟨fun h => ?_, fun h => ?_⟩)
  · rw [if_neg h]
    refine XIn.same (xle rfl) (c_becomes_bk E A g) (fun r σ' _ h => ?_)
    obtain ⟨rfl, rfl⟩ := h
    exact ⟨rfl, g, rfl⟩
  · rw [if_pos h]
    exact ⟨rfl, g, rfl⟩
set_option maxRecDepth 100000 in
set_option maxHeartbeats 4000000 in
theorem c_X4_count (hC : CI A) (what : Int32) : XCall E 20 yX4_count cX4_count 2 (some .int) [.ref 0, .int what] (gW A g) (XR (o_count A what)) := by
  unfold o_count
  refine XCall.of (by decide +kernel) (xle rfl) (xgo sX4_count [88] 60 (xle rfl) ⟨fun h => ?_, fun n0 => ⟨fun h => ?_, fun n1 => ⟨fun h => ?_, fun n2 => ⟨fun h => ?_, fun n3 => ⟨fun h => ?_, fun n4 => ⟨fun h => ?_, fun n5 => ?_⟩⟩⟩⟩⟩⟩)
  · rw [if_pos h]
    exact ⟨rfl, g, rfl⟩
  · rw [if_neg n0, if_pos h]
    refine gS0 A g hC.ru6 (xle rfl) rfl (c_X2_partsMade E A.S _ _ _) (fun r σ' h2 => ?_)
    obtain ⟨rfl, rfl⟩ := h2
    exact ⟨_, _, _, rfl, rfl, _, rfl⟩
  · rw [if_neg n0, if_neg n1, if_pos h]
    refine gS0 A g hC.ru6 (xle rfl) rfl (c_X2_who E A.S _ _ _ 1 hC.1) (fun r σ' h2 => ?_)
    obtain ⟨rfl, rfl⟩ := h2
    exact ⟨_, _, _, rfl, rfl, _, rfl⟩
  · rw [if_neg n0, if_neg n1, if_neg n2, if_pos h]
    exact ⟨rfl, g, rfl⟩
  · rw [if_neg n0, if_neg n1, if_neg n2, if_neg n3, if_pos h]
    exact ⟨rfl, g, rfl⟩
  · rw [if_neg n0, if_neg n1, if_neg n2, if_neg n3, if_neg n4, if_pos h]
    refine xgo sX4_count [] 60 (xle rfl) (hO_i (gtx A g A.ru hC.ru6).1 ⟨?_, g, rfl⟩)
    rw [hC.2.2.2.2.2.2.1 A.ru hC.ru6]
  · rw [if_neg n0, if_neg n1, if_neg n2, if_neg n3, if_neg n4, if_neg n5]
    exact ⟨rfl, g, rfl⟩
theorem aa3 {s : Nat} (hs : s < 4) : (if (nI s).toNatClampNeg < 4 then some (29 + 2 * (nI s).toNatClampNeg) else none) = some (29 + 2 * s) := by
  rw [nI_clamp (by omega), if_pos hs]
set_option maxRecDepth 100000 in
set_option maxHeartbeats 4000000 in
theorem c_X4_sheet (s so n : Int32) : XCall E 20 yX4_sheet cX4_sheet 4 (some .int) [.ref 0, .int s, .int so, .int n] (gW A g) (XR (o_sheet A s so n)) := by
  unfold o_sheet
  refine XCall.of (by decide +kernel) (xle rfl) (xgo sX4_sheet [] 100 (xle rfl) ⟨fun h => ?_, fun h => ⟨fun h2 => ⟨fun h3 => ?_, fun h3 => ?_⟩, fun h2 => ?_⟩⟩)
  · rw [if_pos h]
    exact ⟨rfl, g, rfl⟩
  · rw [if_neg h, if_neg h2, if_neg h3]
    obtain ⟨k, hk, rfl⟩ := fs_e h
    refine ⟨fun h4 => ⟨fun h5 => ?_, fun h5 => ?_⟩, fun h4 => ?_⟩
    · rw [if_pos h4, if_pos h5]
      obtain ⟨m, hm, rfl⟩ := nI_of (Int32.not_lt.mpr h5)
      have hm40 := (nI_leI (b := 40) hm (by omega)).mp h4
      refine ⟨vp_in_nI (by omega) (by omega), _, aa3 hk, hO_i (gsh A g hk).1 (gSh A g hk (xle rfl) rfl (c_X1_becomes E _ _ _ so m hm40) (fun r σ' h6 => ?_))⟩
      obtain ⟨rfl, rfl⟩ := h6
      refine ⟨_, _, _, rfl, rfl, g, ?_⟩
      rw [nI_clamp (by omega), nI_clamp (by omega)]
      rfl
    · rw [if_pos h4, if_neg h5]
      exact ⟨rfl, g, rfl⟩
    · rw [if_neg h4]
      exact ⟨rfl, g, rfl⟩
  · rw [if_neg h, if_neg h2, if_pos h3]
    obtain ⟨k, hk, rfl⟩ := fs_e h
    refine ⟨vp_in_nI (by omega) (by omega), _, aa3 hk, hO_i (gsh A g hk).1 (gSh A g hk (xle rfl) rfl (c_X1_becomes E _ _ _ (-1) 0 (by omega)) (fun r σ' h6 => ?_))⟩
    obtain ⟨rfl, rfl⟩ := h6
    refine ⟨_, _, _, rfl, rfl, g, ?_⟩
    rw [nI_clamp (by omega)]
    rfl
  · rw [if_neg h, if_pos h2]
    exact ⟨rfl, g, rfl⟩
set_option maxRecDepth 100000 in
set_option maxHeartbeats 4000000 in
theorem c_X4_cell (hC : CI A) (s i v : Int32) : XCall E 20 yX4_cell cX4_cell 5 (some .int) [.ref 0, .int s, .int i, .int v] (gW A g) (XR (o_cell A s i v)) := by
  unfold o_cell
  refine XCall.of (by decide +kernel) (xle rfl) (xgo sX4_cell [] 100 (xle rfl) ⟨fun h => ?_, fun h => ?_⟩)
  · rw [if_neg h]
    obtain ⟨k, hk, rfl⟩ := fs_e h
    have h40 := hC.2.2.2.2.2.2.2.2.1 k hk
    rw [nI_clamp (by omega)]
    refine ⟨vp_in_nI (by omega) (by omega), _, aa3 hk, hO_i (gsh A g hk).1 (gShR A g hk (xle rfl) rfl (c_X1_isMissing E _ _ _) (fun r σ' h6 => ?_))⟩
    obtain ⟨rfl, rfl⟩ := h6
    refine ⟨rfl, fun h2 => ?_, fun h2 => ?_⟩
    · have h2 : ¬ (A.sh k).1 = -1 := fun z => absurd ((if_pos z).symm.trans h2) (by decide)
      rw [if_neg h2]
      refine hO_i (gsh A g hk).1 (gShR A g hk (xle rfl) rfl (c_X1_holds E _ _ _ i 1) (fun r σ' h6 => ?_))
      obtain ⟨rfl, rfl⟩ := h6
      refine ⟨rfl, fun h3 => ?_, fun h3 => ?_⟩
      · rw [if_neg h3]
        obtain ⟨j, m, rfl, hm, hle⟩ := hold_e h40 h3
        have hm1 : m = 1 := by
          have := (nI_eq (a := 1) (b := m) (by omega) (by omega)).mp hm
          omega
        refine hO_i (gsh A g hk).1 (gSh A g hk (xle rfl) rfl (c_X1_put E _ _ _ h40 j (by omega) v) (fun r σ' h6 => ?_))
        obtain ⟨rfl, rfl⟩ := h6
        refine ⟨_, _, _, rfl, rfl, g, ?_⟩
        rw [nI_clamp (by omega)]
        rfl
      · rw [if_pos h3]
        exact ⟨rfl, g, rfl⟩
    · have h2 : (A.sh k).1 = -1 := by
        by_cases z : (A.sh k).1 = -1
        · exact z
        · exact absurd (if_neg z) h2
      rw [if_pos h2]
      exact ⟨rfl, g, rfl⟩
  · rw [if_pos h]
    exact ⟨rfl, g, rfl⟩
end CLS
