-- ===== the reference reads =====
theorem ps0_n {f : F32} {n F o q : Nat} {v : zPV} {l : Nat} (h : cdF f n q = 12) : zpsF f n (F + 1) 0 o q v l = .inr (fun _ => nI (nbF f n q), 1, afF f n q) := by
  rw [ps_e0, if_pos h]
theorem ps0_w {f : F32} {n F o q : Nat} {v : zPV} {l : Nat} (h : cdF f n q < 6) : zpsF f n (F + 1) 0 o q v l = .inr (fun nm => nm (cdF f n q), 1, afF f n q) := by
  rw [ps_e0, if_neg (by omega), if_pos h]
theorem ps0_m {f : F32} {n F o q : Nat} {v : zPV} {l : Nat} (h : cdF f n q = 45) : zpsF f n (F + 1) 0 o q v l = if 5 ≤ o then .inl (lpF f n q) else zbind (zpsF f n F 0 (o + 1) (afF f n q) pv0 0) fun v l q' => .inr (fun nm => 0 - v nm, l + 2, q') := by
  rw [ps_e0, if_neg (by omega), if_neg (by omega), if_pos h]
theorem ps0_b {f : F32} {n F o q : Nat} {v : zPV} {l : Nat} (h : cdF f n q = 40) : zpsF f n (F + 1) 0 o q v l = if 5 ≤ o then .inl (lpF f n q) else zbind (zpsF f n F 9 (o + 1) (afF f n q) pv0 0) fun v l q' => if cdF f n q' = 41 then .inr (v, l, afF f n q') else .inl (lpF f n q') := by
  rw [ps_e0, if_neg (by omega), if_neg (by omega), if_neg (by omega), if_pos h]
theorem ps0_f {f : F32} {n F o q : Nat} {v : zPV} {l : Nat} (h1 : ¬ cdF f n q = 12) (h2 : ¬ cdF f n q < 6) (h3 : ¬ cdF f n q = 45) (h4 : ¬ cdF f n q = 40) : zpsF f n (F + 1) 0 o q v l = .inl (lpF f n q) := by
  rw [ps_e0, if_neg h1, if_neg h2, if_neg h3, if_neg h4]
def RPo (A : AS) (h : YQ) (f : F32) (n : Nat) (r : PRes) (o : Nat) : XQ := fun rv σ' => match r with
  | .inl p => (∃ v, rv = some (.int v)) ∧ RB A h p σ'
  | .inr (v, _, q') => rv = some (.int (v (nmR h))) ∧ RG A h f n q' o σ'
section MODEL
variable (E : XEnv) (A : AS) (h : YQ) (f : F32) (n b0 : Nat)
def RA0 (F : Nat) : Prop := ∀ (q o : Nat) (he tk ta : Int32) (w : Int64) (fl : Int32), q ≤ n → o ≤ 5 → RT f n q he tk ta w → 10 * (n - q) + 1 ≤ F → XCall E (20 + 8 * (5 - o) + 1) yX5_atom cX5_atom 2 (some .int) [.ref 0] (mR A h he tk ta w (nI o) 0 fl) (RPo A h f n (zpsF f n F 0 o q pv0 0) o)
def RA1 (F : Nat) : Prop := ∀ (q o : Nat) (he tk ta : Int32) (w : Int64) (fl : Int32), q ≤ n → o ≤ 5 → RT f n q he tk ta w → 10 * (n - q) + 2 ≤ F → XCall E (20 + 8 * (5 - o) + 2) yX5_term cX5_term 2 (some .int) [.ref 0] (mR A h he tk ta w (nI o) 0 fl) (RPo A h f n (zpsF f n F 1 o q pv0 0) o)
def RA2 (F : Nat) : Prop := ∀ (q o : Nat) (he tk ta : Int32) (w : Int64) (fl : Int32) (v : zPV) (l : Nat), q ≤ n → o ≤ 5 → RT f n q he tk ta w → 10 * (n - q) + 8 ≤ F → XAt E RX5 cX5_term 2 (some .int) (20 + 8 * (5 - o) + 2) 16 (RPo A h f n (zpsF f n F 2 o q v l) o) 5 [(0, .ref 0), (1, .int (v (nmR h)))] [] (mR A h he tk ta w (nI o) 0 fl)
def RA3 (F : Nat) : Prop := ∀ (q o : Nat) (he tk ta : Int32) (w : Int64) (fl : Int32), q ≤ n → o ≤ 5 → RT f n q he tk ta w → 10 * (n - q) + 3 ≤ F → XCall E (20 + 8 * (5 - o) + 3) yX5_added cX5_added 4 (some .int) [.ref 0] (mR A h he tk ta w (nI o) 0 fl) (RPo A h f n (zpsF f n F 3 o q pv0 0) o)
def RA4 (F : Nat) : Prop := ∀ (q o : Nat) (he tk ta : Int32) (w : Int64) (fl : Int32) (v : zPV) (l : Nat) (r : XL), q ≤ n → o ≤ 5 → RT f n q he tk ta w → 10 * (n - q) + 8 ≤ F → XAt E RX5 cX5_added 4 (some .int) (20 + 8 * (5 - o) + 3) 16 (RPo A h f n (zpsF f n F 4 o q v l) o) 5 ([(0, .ref 0), (1, .int (v (nmR h)))] ++ r) [] (mR A h he tk ta w (nI o) 0 fl)
def RA6 (F : Nat) : Prop := ∀ (q o : Nat) (he tk ta : Int32) (w : Int64) (fl : Int32), q ≤ n → o ≤ 5 → RT f n q he tk ta w → 10 * (n - q) + 5 ≤ F → XCall E (20 + 8 * (5 - o) + 4) yX5_not cX5_not 4 (some .int) [.ref 0] (mR A h he tk ta w (nI o) 0 fl) (RPo A h f n (zpsF f n F 6 o q pv0 0) o)
def RA7 (F : Nat) : Prop := ∀ (q o : Nat) (he tk ta : Int32) (w : Int64) (fl : Int32), q ≤ n → o ≤ 5 → RT f n q he tk ta w → 10 * (n - q) + 6 ≤ F → XCall E (20 + 8 * (5 - o) + 5) yX5_both cX5_both 3 (some .int) [.ref 0] (mR A h he tk ta w (nI o) 0 fl) (RPo A h f n (zpsF f n F 7 o q pv0 0) o)
def RA8 (F : Nat) : Prop := ∀ (q o : Nat) (he tk ta : Int32) (w : Int64) (fl : Int32) (v : zPV) (l : Nat) (r : XL), q ≤ n → o ≤ 5 → RT f n q he tk ta w → 10 * (n - q) + 8 ≤ F → XAt E RX5 cX5_both 3 (some .int) (20 + 8 * (5 - o) + 5) 16 (RPo A h f n (zpsF f n F 8 o q v l) o) 5 ([(0, .ref 0), (1, .int (v (nmR h)))] ++ r) [] (mR A h he tk ta w (nI o) 0 fl)
def RA9 (F : Nat) : Prop := ∀ (q o : Nat) (he tk ta : Int32) (w : Int64) (fl : Int32), q ≤ n → o ≤ 5 → RT f n q he tk ta w → 10 * (n - q) + 7 ≤ F → XCall E (20 + 8 * (5 - o) + 6) yX5_either cX5_either 3 (some .int) [.ref 0] (mR A h he tk ta w (nI o) 0 fl) (RPo A h f n (zpsF f n F 9 o q pv0 0) o)
def RA10 (F : Nat) : Prop := ∀ (q o : Nat) (he tk ta : Int32) (w : Int64) (fl : Int32) (v : zPV) (l : Nat) (r : XL), q ≤ n → o ≤ 5 → RT f n q he tk ta w → 10 * (n - q) + 8 ≤ F → XAt E RX5 cX5_either 3 (some .int) (20 + 8 * (5 - o) + 6) 16 (RPo A h f n (zpsF f n F 10 o q v l) o) 5 ([(0, .ref 0), (1, .int (v (nmR h)))] ++ r) [] (mR A h he tk ta w (nI o) 0 fl)
theorem tk_kd {q : Nat} {he tk ta : Int32} {w : Int64} (hT : RT f n q he tk ta w) : (tk = 2 ↔ cdF f n q = 12) ∧ (tk = 1 ↔ kdF f n q = 1) ∧ (tk = 0 ↔ cdF f n q = 13) := by
  have c := cd_kd f n q
  rcases hT.2 with ⟨k, e⟩ | ⟨k, e, _⟩ | ⟨k, k2, e, _⟩ | ⟨k, k2, e⟩ | ⟨k, e, _⟩ | ⟨k, e⟩
  · have := cd_0 k
    rw [e]
    exact ⟨⟨fun z => absurd z (by decide), fun z => by omega⟩, ⟨fun z => absurd z (by decide), fun z => by omega⟩, ⟨fun _ => this, fun _ => rfl⟩⟩
  · rw [e]
    exact ⟨⟨fun z => absurd z (by decide), fun z => by omega⟩, ⟨fun _ => k, fun _ => rfl⟩, ⟨fun z => absurd z (by decide), fun z => by omega⟩⟩
  · rw [e]
    exact ⟨⟨fun _ => k2, fun _ => rfl⟩, ⟨fun z => absurd z (by decide), fun z => by omega⟩, ⟨fun z => absurd z (by decide), fun z => by omega⟩⟩
  · rw [e]
    exact ⟨⟨fun z => absurd z (by decide), fun z => by omega⟩, ⟨fun z => absurd z (by decide), fun z => by omega⟩, ⟨fun z => absurd z (by decide), fun z => by omega⟩⟩
  · rw [e]
    exact ⟨⟨fun z => absurd z (by decide), fun z => by omega⟩, ⟨fun z => absurd z (by decide), fun z => by omega⟩, ⟨fun z => absurd z (by decide), fun z => by omega⟩⟩
  · have := cd_4 k
    rw [e]
    exact ⟨⟨fun z => absurd z (by decide), fun z => by omega⟩, ⟨fun z => absurd z (by decide), fun z => by omega⟩, ⟨fun z => absurd z (by decide), fun z => by omega⟩⟩
theorem w_12 {q : Nat} {he tk ta : Int32} {w : Int64} (hT : RT f n q he tk ta w) (h : cdF f n q = 12) : w.toInt32 = nI (nbF f n q) := by
  have c := cd_kd f n q
  rcases hT.2 with ⟨k, e⟩ | ⟨k, e, _⟩ | ⟨k, k2, e, ew, _⟩ | ⟨k, k2, e⟩ | ⟨k, e, _⟩ | ⟨k, e⟩
  · omega
  · omega
  · rw [ew]
    exact lN_i _
  · omega
  · omega
  · omega
set_option maxRecDepth 100000 in
set_option maxHeartbeats 8000000 in
theorem s_RA0 (hH : RdH h f n b0) (F : Nat) (h0 : RA0 E A h f n F) (h9 : RA9 E A h f n F) : RA0 E A h f n (F + 1) := by
  intro q o he tk ta w fl hq ho hT hF
  obtain ⟨Lv, eLv⟩ : ∃ Lv, Lv = 20 + 8 * (5 - o) + 1 := ⟨_, rfl⟩
  rw [← eLv]
  have tk3 := tk_kd f n hT
  have cdk := cd_kd f n q
  have cf := c_X5_fail E A h he tk (lpF f n q) w (nI o) fl
  rw [← hT.1] at cf
  have sg45 := c_X5_isSign E A h f n hT (nI o) fl 45 (by unfold isSg; omega)
  have sg40 := c_X5_isSign E A h f n hT (nI o) fl 40 (by unfold isSg; omega)
  refine XCall.of (by decide +kernel) (xle rfl) (xgo sX5_atom [37, 95, 123] 200 (by omega) (XIn.same (by omega) sg45 (fun r σ' _ z => ?_)))
  obtain ⟨v45, rfl, e45, rfl⟩ := z
  refine ⟨fun z45 => ?_, fun z45 => ?_⟩
  · have n45 : ¬ cdF f n q = 45 := fun y => e45.mpr y z45
    refine xgo sX5_atom [95, 123] 200 (by omega) (XIn.same (by omega) sg40 (fun r σ' _ z => ?_))
    obtain ⟨v40, rfl, e40, rfl⟩ := z
    refine ⟨fun z40 => ?_, fun z40 => ?_⟩
    · have n40 : ¬ cdF f n q = 40 := fun y => e40.mpr y z40
      refine xgo sX5_atom [123] 200 (by omega) ⟨fun z => absurd rfl z, fun _ => ⟨fun ztk => ?_, fun ztk => ?_⟩⟩
      · have n12 : ¬ cdF f n q = 12 := fun y => ztk (tk3.1.mpr y)
        refine xgo sX5_atom [] 200 (by omega) ⟨fun z => absurd rfl z, fun _ => ⟨fun ztk1 => ?_, fun ztk1 => ?_⟩⟩
        · have n1 : ¬ kdF f n q = 1 := fun y => ztk1 (tk3.2.1.mpr y)
          rw [ps0_f n12 (by omega) n45 n40]
          refine XIn.same (by omega) cf (fun r σ' _ z => ?_)
          obtain ⟨rfl, rfl⟩ := z
          exact ⟨⟨0, rfl⟩, he, tk, ta, w, nI o, by rw [hT.1]⟩
        · have k1 : kdF f n q = 1 := tk3.2.1.mp ztk1
          refine XIn.same (by omega) (c_X5_name E A h f n b0 hH hq o hT fl) (fun r σ' _ z => ?_)
          rcases z with ⟨c6, rfl, rfl⟩ | ⟨c6, rfl, hB⟩
          · rw [ps0_w c6]
            refine ⟨fun z => absurd rfl z, fun _ => XIn.same (by omega) (c_X5_nextG E A h f n b0 hH hq (by omega) o hT fl) (fun r σ' _ z => ?_)⟩
            obtain ⟨rfl, hg⟩ := z
            exact ⟨rfl, hg⟩
          · rw [ps0_f n12 c6 n45 n40]
            obtain ⟨he', tk', ta', w', op', rfl⟩ := hB
            exact ⟨fun _ => ⟨⟨0, rfl⟩, he', tk', ta', w', op', rfl⟩, fun z => absurd z (by decide)⟩
      · have y12 : cdF f n q = 12 := tk3.1.mp ztk
        have ew := w_12 f n hT y12
        rw [ps0_n y12]
        refine XIn.same (by omega) (c_X5_nextG E A h f n b0 hH hq (by omega) o hT fl) (fun r σ' _ z => ?_)
        obtain ⟨rfl, hg⟩ := z
        exact ⟨congrArg (fun v => some (Value.int v)) ew, hg⟩
    · have y40 : cdF f n q = 40 := e40.mp z40
      have hin := af_in (f := f) hq (show ¬ cdF f n q = 13 by omega)
      rw [ps0_b y40]
      refine XIn.same (by omega) (c_X5_opens E A h f n b0 hH hq (by omega) o ho hT fl) (fun r σ' _ z => ?_)
      rcases z with ⟨o5, rfl, hB⟩ | ⟨o5, rfl, hG⟩
      · rw [if_pos o5]
        obtain ⟨he', tk', ta', w', op', rfl⟩ := hB
        exact ⟨fun _ => ⟨⟨0, rfl⟩, he', tk', ta', w', op', rfl⟩, fun z => absurd rfl z⟩
      · rw [if_neg (by omega)]
        obtain ⟨he', tk', ta', w', fl', hT', rfl⟩ := hG
        have ce := h9 (afF f n q) (o + 1) he' tk' ta' w' fl' (by omega) (by omega) hT' (by omega)
        refine ⟨fun z => absurd z (by decide), fun _ => XIn.same (by omega) ce (fun r σ' _ z => ?_)⟩
        cases eR : zpsF f n F 9 (o + 1) (afF f n q) pv0 0 with
        | inl p =>
          rw [eR] at z
          obtain ⟨⟨v, rfl⟩, he2, tk2, ta2, w2, op2, rfl⟩ := z
          refine XIn.same (by omega) (c_X5_isSignB E A h he2 tk2 ta2 w2 op2 (nI p) 41) (fun r σ' _ y => ?_)
          obtain ⟨rfl, rfl⟩ := y
          refine ⟨fun y => absurd rfl y, fun _ => XIn.same (by omega) (c_X5_failB E A h he2 tk2 ta2 w2 op2 (nI p)) (fun r σ' _ y => ?_)⟩
          obtain ⟨rfl, rfl⟩ := y
          exact ⟨fun _ => ⟨⟨v, rfl⟩, he2, tk2, ta2, w2, op2 - 1, rfl⟩, fun y => absurd y (by decide)⟩
        | inr x =>
          obtain ⟨v, l, q'⟩ := x
          rw [eR] at z
          have ok : q' ≤ n := by
            have t := ps_ok f n F 9 (o + 1) (afF f n q) pv0 0 (by omega) (by omega)
            rw [eR] at t
            exact t.2.1
          obtain ⟨rfl, he2, tk2, ta2, w2, fl2, hT2, rfl⟩ := z
          have eo : nI (o + 1) - 1 = nI o := nI_pred o
          have cf2 := c_X5_fail E A h he2 tk2 (lpF f n q') w2 (nI (o + 1)) fl2
          rw [← hT2.1] at cf2
          refine XIn.same (by omega) (c_X5_isSign E A h f n hT2 (nI (o + 1)) fl2 41 (by unfold isSg; omega)) (fun r σ' _ y => ?_)
          obtain ⟨v41, rfl, e41, rfl⟩ := y
          refine ⟨fun y => ?_, fun y => ?_⟩
          · have c41 := e41.mp y
            refine ⟨fun z => absurd rfl z, fun _ => ?_⟩
            show XIn E Lv yX5_next cX5_next 3 none [.ref 0] (mR A h he2 tk2 ta2 w2 (nI (o + 1) - 1) 0 fl2) _
            rw [eo]
            refine XIn.same (by omega) (c_X5_nextG E A h f n b0 hH ok (by omega) o hT2 fl2) (fun r σ' _ z => ?_)
            obtain ⟨rfl, hg⟩ := z
            show RPo A h f n (if cdF f n q' = 41 then .inr (v, l, afF f n q') else .inl (lpF f n q')) o _ σ'
            rw [if_pos c41]
            exact ⟨rfl, hg⟩
          · have c41 : ¬ cdF f n q' = 41 := fun z => e41.mpr z y
            refine XIn.same (by omega) cf2 (fun r σ' _ y => ?_)
            obtain ⟨rfl, rfl⟩ := y
            refine ⟨fun _ => ?_, fun z => absurd z (by decide)⟩
            show RPo A h f n (if cdF f n q' = 41 then .inr (v, l, afF f n q') else .inl (lpF f n q')) o _ (mR A h he2 tk2 ta2 w2 (nI (o + 1) - 1) 1 ta2)
            rw [if_neg c41]
            exact ⟨⟨_, rfl⟩, he2, tk2, ta2, w2, nI (o + 1) - 1, by rw [hT2.1]⟩
  · have y45 : cdF f n q = 45 := e45.mp z45
    have hin := af_in (f := f) hq (show ¬ cdF f n q = 13 by omega)
    rw [ps0_m y45]
    refine XIn.same (by omega) (c_X5_opens E A h f n b0 hH hq (by omega) o ho hT fl) (fun r σ' _ z => ?_)
    rcases z with ⟨o5, rfl, hB⟩ | ⟨o5, rfl, hG⟩
    · rw [if_pos o5]
      obtain ⟨he', tk', ta', w', op', rfl⟩ := hB
      exact ⟨fun _ => ⟨⟨0, rfl⟩, he', tk', ta', w', op', rfl⟩, fun z => absurd rfl z⟩
    · rw [if_neg (by omega)]
      obtain ⟨he', tk', ta', w', fl', hT', rfl⟩ := hG
      have ca := h0 (afF f n q) (o + 1) he' tk' ta' w' fl' (by omega) (by omega) hT' (by omega)
      refine ⟨fun z => absurd z (by decide), fun _ => XIn.same (by omega) ca (fun r σ' _ z => ?_)⟩
      cases eR : zpsF f n F 0 (o + 1) (afF f n q) pv0 0 with
      | inl p =>
        rw [eR] at z
        obtain ⟨⟨v, rfl⟩, he2, tk2, ta2, w2, op2, rfl⟩ := z
        exact ⟨⟨_, rfl⟩, he2, tk2, ta2, w2, op2 - 1, rfl⟩
      | inr x =>
        obtain ⟨v, l, q'⟩ := x
        rw [eR] at z
        obtain ⟨rfl, he2, tk2, ta2, w2, fl2, hT2, rfl⟩ := z
        have eo : nI (o + 1) - 1 = nI o := nI_pred o
        refine ⟨congrArg (fun v => some (Value.int v)) (Int32.zero_sub _).symm, he2, tk2, ta2, w2, fl2, hT2, ?_⟩
        show mR A h he2 tk2 ta2 w2 (nI (o + 1) - 1) 0 fl2 = _
        rw [eo]
end MODEL
