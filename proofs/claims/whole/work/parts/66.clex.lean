-- ===== the class's tokens =====
section CREAD
variable (E : XEnv) (bs : F32) (n : Nat) (wh : Int32) (en wt : F32)
def cW (at' tok pl num op ft : Int32) (st : F32) (z : Nat) : XW := [.inr (0, [.ref 1, .int (nI n), .int at', .int tok, .int pl, .int num, .int op, .int ft, .ref 2]), .inl (0, 160, .inl bs), .inr (3, [.int wh, .ref 3, .ref 4, .int (nI z), .ref 5]), .inl (0, 320, .inl st), .inl (0, 3, .inl en), .inl (0, 64, .inl wt)]
/-- what nextWord does -/
def WordOk : Prop := ∀ (tok num op ft : Int32) (st : F32) (z p : Nat), p < n → zzLo (bs p) = true → XCall E 20 yX0_nextWord cX0_nextWord 5 none [.ref 0] (cW bs n wh en wt (nI p) tok (nI p) num op ft st z) (fun r σ' => r = none ∧ σ' = cW bs n wh en wt (nI (leF zzLo bs n p)) (nI (wcF bs p (leF zzLo bs n p))) (nI p) num op ft st z)
set_option maxRecDepth 100000 in
set_option maxHeartbeats 4000000 in
theorem l_X0_digs (hn : n ≤ 160) (Q : XQ) (tok op ft : Int32) (st : F32) (z p : Nat) (j : Nat) : ∀ (k : Nat), p + k + j = n → (∀ i, i < k → ¬ f_within (bs (p + i)) 48 57 = 0) → (∀ d, p + d = zrnF zzDi bs n j (p + k) → XAt E RX0 cX0_nextNumber 1 none 11 6 Q 85 [(0, .ref 0)] [] (cW bs n wh en wt (nI (p + d)) tok (nI p) (nI (nvF bs p d)) op ft st z)) → XAt E RX0 cX0_nextNumber 1 none 11 6 Q 5 [(0, .ref 0)] [] (cW bs n wh en wt (nI (p + k)) tok (nI p) (nI (nvF bs p k)) op ft st z) := by
  induction j with
  | zero =>
    intro k hq hd kk
    refine xgo sX0_nextNumber [5, 85] 60 (xle rfl) ⟨fun _ => kk k rfl, fun y => absurd (nI_le (a := n) (b := p + k) (by omega) (by omega)) y⟩
  | succ j IH =>
    intro k hq hd kk
    have hc : (nI (p + k)).toNatClampNeg = p + k := nI_clamp (by omega)
    have ek : nI (p + k) - nI p = nI k := by rw [pk_sub (by omega)]; congr 1; omega
    refine xgo sX0_nextNumber [5, 85] 60 (xle rfl) ⟨fun y => absurd y (nI_ge (a := p + k) (b := n) (by omega) (by omega)), fun _ => ⟨vp_in_nI (by omega) (by omega), fun y => ?_, fun y => ?_⟩⟩
    · rw [hc] at y
      exact kk k (run_n (fun x => zzDi_y.mp x y)).symm
    · rw [hc] at y
      have hd2 : ∀ i, i < k + 1 → ¬ f_within (bs (p + i)) 48 57 = 0 := fun i hi => by
        rcases (by omega : i < k ∨ i = k) with e | e
        · exact hd i e
        · rw [e]; exact y
      have ih := IH (k + 1) (by omega) hd2 (fun d hd => kk d (by rw [run_y (by omega) (zzDi_y.mpr y)]; exact hd))
      obtain ⟨c, hc9, ec⟩ := dig_c y
      have ei : nI (p + (k + 1)) = nI (p + k) + 1 := by rw [← Nat.add_assoc, nI_succ]
      refine ⟨fun y4 => ?_, fun y4 => ⟨vp_in_nI (by omega) (by omega), ?_⟩⟩
      · rw [ek] at y4
        have h4 : ¬ k < 4 := fun x => absurd y4 (nI_ge (b := 4) x (by omega))
        rw [nv_5 bs h4, ei] at ih
        exact ih
      · rw [ek] at y4
        have h4 : k < 4 := Nat.lt_of_not_le (fun x => y4 (nI_le (a := 4) x (by omega)))
        have ew : nI (nvF bs p k) * 10 + bs (nI (p + k)).toNatClampNeg - 48 = nI (nvF bs p (k + 1)) := by
          rw [hc, ec, show (10 : Int32) = nI 10 from rfl, pk_mul, nI_add, show (48 : Int32) = nI 48 from rfl, pk_sub (by omega), nv_4 bs h4, ec, nI_clamp (by omega)]
          congr 1
          omega
        rw [ei, ← ew] at ih
        exact ih
set_option maxRecDepth 100000 in
set_option maxHeartbeats 4000000 in
theorem c_X0_nextNumber (hn : n ≤ 160) (tok num op ft : Int32) (st : F32) (z p : Nat) (hp : p < n) : XCall E 11 yX0_nextNumber cX0_nextNumber 1 none [.ref 0] (cW bs n wh en wt (nI p) tok (nI p) num op ft st z) (fun r σ' => r = none ∧ ∃ d, p + d = leF zzDi bs n p ∧ σ' = cW bs n wh en wt (nI (p + d)) (nI (if 4 < d then 14 else 12)) (nI p) (nI (nvF bs p d)) op ft st z) := by
  refine XCall.of (by decide +kernel) (xle rfl) (xgo sX0_nextNumber [5] 60 (xle rfl) (l_X0_digs E bs n wh en wt hn _ tok op ft st z p (n - p) 0 (by omega) (fun i hi => absurd hi (by omega)) (fun d hd => ?_)))
  have ek : nI (p + d) - nI p = nI d := by rw [pk_sub (by omega)]; congr 1; omega
  have hdn : p + d ≤ n := by
    have r := run_in zzDi bs n (n - p) p (by omega)
    rw [hd]
    exact r.2.1
  refine xgo sX0_nextNumber [] 60 (xle rfl) ⟨fun y => ⟨rfl, d, hd, ?_⟩, fun y => ⟨rfl, d, hd, ?_⟩⟩
  · rw [ek] at y
    have := (nI_leI (b := 4) (by omega) (by omega)).mp y
    rw [if_neg (by omega)]
    rfl
  · rw [ek] at y
    have : ¬ d ≤ 4 := fun x => y (nI_le (b := 4) x (by omega))
    rw [if_pos (by omega)]
    rfl
set_option maxRecDepth 100000 in
set_option maxHeartbeats 4000000 in
theorem l_X0_blank (hn : n ≤ 160) (Q : XQ) (tok pl num op ft : Int32) (st : F32) (z : Nat) (j : Nat) : ∀ (q : Nat), q + j = n → (∀ p, p = zrnF zzBl bs n j q → XAt E RX0 cX0_next 1 none 21 6 Q 52 [(0, .ref 0)] [] (cW bs n wh en wt (nI p) tok pl num op ft st z)) → XAt E RX0 cX0_next 1 none 21 6 Q 0 [(0, .ref 0)] [] (cW bs n wh en wt (nI q) tok pl num op ft st z) := by
  induction j with
  | zero =>
    intro q hq k
    exact xgo sX0_next [0, 52] 60 (xle rfl) ⟨fun _ => k q rfl, fun y => absurd (nI_le (a := n) (b := q) (by omega) (by omega)) y⟩
  | succ j IH =>
    intro q hq k
    have hc : (nI q).toNatClampNeg = q := nI_clamp (by omega)
    have go : zzBl (bs q) = true → XAt E RX0 cX0_next 1 none 21 6 Q 0 [(0, .ref 0)] [] (cW bs n wh en wt (nI q + 1) tok pl num op ft st z) := by
      intro y
      have ih := IH (q + 1) (by omega) (fun p hp => k p (by rw [run_y (by omega) y]; exact hp))
      rw [nI_succ] at ih
      exact ih
    refine xgo sX0_next [0, 52] 60 (xle rfl) ⟨fun y => absurd y (nI_ge (a := q) (b := n) (by omega) (by omega)), fun _ => ⟨vp_in_nI (by omega) (by omega), fun y => ?_, fun y => ⟨vp_in_nI (by omega) (by omega), fun y2 => ?_, fun y2 => ?_⟩⟩⟩
    · rw [hc] at y
      exact go (zzBl_y.mpr (Or.inl y))
    · rw [hc] at y y2
      refine k q (run_n (fun x => ?_)).symm
      rcases zzBl_y.mp x with x | x
      · exact y x
      · exact y2 x
    · rw [hc] at y2
      exact go (zzBl_y.mpr (Or.inr y2))
/-- the token read from q on is at hand -/
def CN (q : Nat) (num : Int32) : Prop := cdF bs n q = 12 → num = nI (nbF bs n q)
set_option maxRecDepth 100000 in
set_option maxHeartbeats 4000000 in
theorem c_X0_next (hW : WordOk E bs n wh en wt) (hn : n ≤ 160) (q : Nat) (hq : q ≤ n) (tok pl num op ft : Int32) (st : F32) (z : Nat) : XCall E 21 yX0_next cX0_next 1 none [.ref 0] (cW bs n wh en wt (nI q) tok pl num op ft st z) (fun r σ' => r = none ∧ ∃ num', CN bs n q num' ∧ σ' = cW bs n wh en wt (nI (afF bs n q)) (nI (cdF bs n q)) (nI (lpF bs n q)) num' op ft st z) := by
  have lp := lp_in (f := bs) hq
  refine XCall.of (by decide +kernel) (xle rfl) (l_X0_blank E bs n wh en wt hn _ tok pl num op ft st z (n - q) q (by omega) (fun p hp => ?_))
  have hp : p = lpF bs n q := hp
  rw [← hp] at lp ⊢
  have hc : (nI p).toNatClampNeg = p := nI_clamp (by omega)
  rcases Nat.lt_or_ge p n with hlt | hge
  · have hlt' : lpF bs n q < n := by rw [← hp]; exact hlt
    refine xgo sX0_next [] 100 (xle rfl) ⟨fun _ => ⟨vp_in_nI (by omega) (by omega), fun y => ⟨vp_in_nI (by omega) (by omega), fun y2 => ⟨vp_in_nI (by omega) (by omega), fun y3 => ?_, fun y3 => ⟨vp_in_nI (by omega) (by omega), ?_⟩⟩, fun y2 => ?_⟩, fun y => ?_⟩, fun y => absurd (nI_lt hlt (by omega)) y⟩
    · rw [hc] at y y2 y3
      have n1 : ¬ zzLo (bs (lpF bs n q)) = true := by rw [← hp]; exact fun x => zzLo_y.mp x y
      have n2 : ¬ zzDi (bs (lpF bs n q)) = true := by rw [← hp]; exact fun x => zzDi_y.mp x y2
      have k4 := kd_4 hlt' n1 n2 (by rw [← hp]; exact y3)
      refine ⟨rfl, num, fun z => ?_, ?_⟩
      · have := cd_4 k4; omega
      · rw [af_4 k4, cd_4 k4, ← hp, nI_succ]
        rfl
    · rw [hc] at y y2 y3 ⊢
      have n1 : ¬ zzLo (bs (lpF bs n q)) = true := by rw [← hp]; exact fun x => zzLo_y.mp x y
      have n2 : ¬ zzDi (bs (lpF bs n q)) = true := by rw [← hp]; exact fun x => zzDi_y.mp x y2
      have k3 := kd_3 hlt' n1 n2 (by rw [← hp]; exact y3)
      obtain ⟨c, hcc, ec⟩ := sg_lt y3
      have e3 : cdF bs n q = c := by rw [cd_3 k3, ← hp, ec]; exact nI_clamp (by omega)
      refine ⟨rfl, num, fun z => ?_, ?_⟩
      · omega
      · rw [af_3 k3, e3, ← hp, nI_succ, ec]
        rfl
    · rw [hc] at y y2
      have n1 : ¬ zzLo (bs (lpF bs n q)) = true := by rw [← hp]; exact fun x => zzLo_y.mp x y
      have n2 : zzDi (bs (lpF bs n q)) = true := by rw [← hp]; exact zzDi_y.mpr y2
      have k2 := kd_2 hlt' n1 n2
      refine XIn.same (xle rfl) (c_X0_nextNumber E bs n wh en wt hn tok num op ft st z p hlt) (fun r σ' _ x => ?_)
      obtain ⟨rfl, d, hd, rfl⟩ := x
      have hd2 : leF zzDi bs n (lpF bs n q) - lpF bs n q = d := by rw [← hp, ← hd]; omega
      have e2 : cdF bs n q = if 4 < d then 14 else 12 := by rw [cd_2 k2, hd2]
      refine ⟨rfl, nI (nvF bs p d), fun _ => ?_, ?_⟩
      · unfold nbF
        rw [hd2, ← hp]
      · rw [e2, af_2 k2, ← hp, hd]
    · rw [hc] at y
      have n1 : zzLo (bs (lpF bs n q)) = true := by rw [← hp]; exact zzLo_y.mpr y
      have k1 := kd_1 hlt' n1
      refine XIn.same (xle rfl) (hW tok num op ft st z p hlt (by rw [hp]; exact n1)) (fun r σ' _ x => ?_)
      obtain ⟨rfl, rfl⟩ := x
      refine ⟨rfl, num, fun z => ?_, ?_⟩
      · have := wc_lt bs (lpF bs n q) (leF zzLo bs n (lpF bs n q))
        rw [cd_1 k1] at z
        omega
      · rw [cd_1 k1, af_1 k1, ← hp]
  · have hpn : p = n := by omega
    have k0 : kdF bs n q = 0 := kd_0 (by rw [← hp]; exact hge)
    refine xgo sX0_next [] 100 (xle rfl) ⟨fun y => absurd y (nI_nlt (by omega) (by omega)), fun _ => ⟨rfl, num, fun z => ?_, ?_⟩⟩
    · have := cd_0 k0; omega
    · rw [af_0 k0, cd_0 k0, ← hp]
      rfl
end CREAD
