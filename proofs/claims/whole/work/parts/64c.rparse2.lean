-- ===== the reference reads: not, and, or =====
section MODEL
variable (E : XEnv) (A : AS) (h : YQ) (f : F32) (n b0 : Nat)
theorem wordB (he tk ta : Int32) (w : Int64) (op fl : Int32) (i : Nat) (hi : i < 12) : XCall E 12 yX5_isWord cX5_isWord 9 (some .boolean) (.ref 0 :: (wgL i).map Value.int) (mR A h he tk ta w op 1 fl) (fun r σ' => r = some (.int 0) ∧ σ' = mR A h he tk ta w op 1 fl) := by
  obtain ⟨a1, a2, a3, a4, a5, a6, a7, a8, ea⟩ : ∃ a1 a2 a3 a4 a5 a6 a7 a8, wgL i = [a1, a2, a3, a4, a5, a6, a7, a8] := by
    rcases (by omega : i = 0 ∨ i = 1 ∨ i = 2 ∨ i = 3 ∨ i = 4 ∨ i = 5 ∨ i = 6 ∨ i = 7 ∨ i = 8 ∨ i = 9 ∨ i = 10 ∨ i = 11) with rfl | rfl | rfl | rfl | rfl | rfl | rfl | rfl | rfl | rfl | rfl | rfl <;> exact ⟨_, _, _, _, _, _, _, _, rfl⟩
  rw [ea]
  exact c_X5_isWordN E A h he tk ta w op 1 fl a1 a2 a3 a4 a5 a6 a7 a8 (Or.inl (by decide))
set_option maxRecDepth 100000 in
set_option maxHeartbeats 8000000 in
theorem s_RA6 (hH : RdH h f n b0) (F : Nat) (h6 : RA6 E A h f n (F + 1)) (h3 : RA3 E A h f n F) : RA6 E A h f n (F + 2) := by
  intro q o he tk ta w fl hq ho hT hF
  have e1 : zpsF f n (F + 2) 6 o q pv0 0 = if cdF f n q = 11 then (if 5 ≤ o then .inl (lpF f n q) else zbind (zpsF f n (F + 1) 6 (o + 1) (afF f n q) pv0 0) fun v l q' => .inr (fun nm => if v nm = 0 then 1 else 0, l + 2, q')) else zbind (zpsF f n F 3 o q pv0 0) fun v l q' => if cdF f n q' = 60 then zbind (zpsF f n F 3 o (afF f n q') pv0 0) fun w m q2 => .inr (fun nm => if v nm < w nm then 1 else 0, l + m + 1, q2)
    else if cdF f n q' = 61 then zbind (zpsF f n F 3 o (afF f n q') pv0 0) fun w m q2 => .inr (fun nm => if v nm = w nm then 1 else 0, l + m + 1, q2) else .inr (v, l, q') := by rw [ps_e6, ps_e5]
  rw [e1]
  refine XCall.of (by decide +kernel) (xle rfl) (xgo sX5_not [52] 200 (by omega) (XIn.same (by omega) (c_X5_word E A h f n b0 hH hq hT (nI o) fl 11 (by omega)) (fun r σ' _ y => ?_)))
  obtain ⟨v11, rfl, e11, rfl⟩ := y
  refine ⟨fun y => ?_, fun y => ?_⟩
  · have n11 : ¬ cdF f n q = 11 := fun z => e11.mpr z y
    rw [if_neg n11]
    refine xgo sX5_not [77] 200 (by omega) (XIn.same (by omega) (h3 q o he tk ta w fl hq ho hT (by omega)) (fun r σ' _ z => ?_))
    cases eR : zpsF f n F 3 o q pv0 0 with
    | inl p =>
      rw [eR] at z
      obtain ⟨⟨u, rfl⟩, he2, tk2, ta2, w2, op2, rfl⟩ := z
      refine XIn.same (by omega) (c_X5_isSignB E A h he2 tk2 ta2 w2 op2 (nI p) 60) (fun r σ' _ y => ?_)
      obtain ⟨rfl, rfl⟩ := y
      refine ⟨fun y => absurd rfl y, fun _ => XIn.same (by omega) (c_X5_isSignB E A h he2 tk2 ta2 w2 op2 (nI p) 61) (fun r σ' _ y => ?_)⟩
      obtain ⟨rfl, rfl⟩ := y
      exact ⟨fun y => absurd rfl y, fun _ => ⟨⟨_, rfl⟩, he2, tk2, ta2, w2, op2, rfl⟩⟩
    | inr x =>
      obtain ⟨u, l, q'⟩ := x
      rw [eR] at z
      obtain ⟨rfl, he2, tk2, ta2, w2, fl2, hT2, rfl⟩ := z
      have ok := ps_ok1 (k := 3) (by omega) hq rfl eR
      have go : ∀ (c : Nat) (g : zPV → zPV), (c = 60 ∧ g = (fun x nm => if u nm < x nm then 1 else 0)) ∨ (c = 61 ∧ g = (fun x nm => if u nm = x nm then 1 else 0)) → cdF f n q' = c → XAt E RX5 cX5_not 4 (some .int) (20 + 8 * (5 - o) + 4) 16 (RPo A h f n (zbind (zpsF f n F 3 o (afF f n q') pv0 0) fun x m q2 => .inr (g x, l + m + 1, q2)) o) 77 [(0, .ref 0), (1, .int (u (nmR h)))] [] (mR A h he2 tk2 ta2 w2 (nI o) 0 fl2) := by
        intro c g hg hc
        have hin := af_in (f := f) ok.2 (show ¬ cdF f n q' = 13 by omega)
        have cn := c_X5_nextG E A h f n b0 hH ok.2 (by omega) o hT2 fl2
        have ew : w2 = lN c := w_sg hT2 (by unfold isSg; omega) hc
        have tail : ∀ (b : Int32), (b = 0 ↔ c = 61) → XAt E RX5 cX5_not 4 (some .int) (20 + 8 * (5 - o) + 4) 16 (RPo A h f n (zbind (zpsF f n F 3 o (afF f n q') pv0 0) fun x m q2 => .inr (g x, l + m + 1, q2)) o) 93 [(0, .ref 0), (1, .int (u (nmR h)))] [.int b] (mR A h he2 tk2 ta2 w2 (nI o) 0 fl2) := by
          intro b hb
          refine xgo sX5_not [] 100 (by omega) (XIn.same (by omega) cn (fun r σ' _ z => ?_))
          obtain ⟨rfl, he3, tk3, ta3, w3, fl3, hT3, rfl⟩ := z
          refine XIn.same (by omega) (h3 (afF f n q') o he3 tk3 ta3 w3 fl3 (by omega) ho hT3 (by omega)) (fun r σ' _ z => ?_)
          cases eR2 : zpsF f n F 3 o (afF f n q') pv0 0 with
          | inl p =>
            rw [eR2] at z
            obtain ⟨⟨x, rfl⟩, he4, tk4, ta4, w4, op4, rfl⟩ := z
            exact ⟨fun _ => ⟨fun _ => ⟨⟨_, rfl⟩, he4, tk4, ta4, w4, op4, rfl⟩, fun _ => ⟨⟨_, rfl⟩, he4, tk4, ta4, w4, op4, rfl⟩⟩, fun _ => ⟨fun _ => ⟨⟨_, rfl⟩, he4, tk4, ta4, w4, op4, rfl⟩, fun _ => ⟨⟨_, rfl⟩, he4, tk4, ta4, w4, op4, rfl⟩⟩⟩
          | inr x =>
            obtain ⟨x, m, q2⟩ := x
            rw [eR2] at z
            obtain ⟨rfl, he4, tk4, ta4, w4, fl4, hT4, rfl⟩ := z
            refine ⟨fun y => ⟨fun y2 => ?_, fun y2 => ?_⟩, fun y => ⟨fun y2 => ?_, fun y2 => ?_⟩⟩
            · rcases hg with ⟨g1, _⟩ | ⟨_, g2⟩
              · have := hb.mp y; omega
              · subst g2
                refine ⟨?_, he4, tk4, ta4, w4, fl4, hT4, rfl⟩
                show _ = some (Value.int (if u (nmR h) = x (nmR h) then 1 else 0))
                rw [if_neg y2]
            · rcases hg with ⟨g1, _⟩ | ⟨_, g2⟩
              · have := hb.mp y; omega
              · subst g2
                refine ⟨?_, he4, tk4, ta4, w4, fl4, hT4, rfl⟩
                show _ = some (Value.int (if u (nmR h) = x (nmR h) then 1 else 0))
                rw [if_pos y2]
            · rcases hg with ⟨_, g2⟩ | ⟨g1, _⟩
              · subst g2
                refine ⟨?_, he4, tk4, ta4, w4, fl4, hT4, rfl⟩
                show _ = some (Value.int (if u (nmR h) < x (nmR h) then 1 else 0))
                rw [if_neg (Int32.not_lt.mpr y2)]
              · exact absurd (hb.mpr g1) y
            · rcases hg with ⟨_, g2⟩ | ⟨g1, _⟩
              · subst g2
                refine ⟨?_, he4, tk4, ta4, w4, fl4, hT4, rfl⟩
                show _ = some (Value.int (if u (nmR h) < x (nmR h) then 1 else 0))
                rw [if_pos (Int32.not_le.mp y2)]
              · exact absurd (hb.mpr g1) y
        refine xgo sX5_not [93] 100 (by omega) ⟨fun y => tail 0 ⟨fun _ => ?_, fun _ => rfl⟩, fun y => tail 1 ⟨fun z => absurd z (by decide), fun z => ?_⟩⟩
        · have y : ¬ lg_cmp w2 60 = 0 := y
          rw [ew] at y
          rcases hg with ⟨g1, _⟩ | ⟨g1, _⟩
          · rw [g1] at y
            exact absurd l60 y
          · exact g1
        · have y : lg_cmp w2 60 = 0 := y
          rw [ew, z] at y
          exact absurd y l61
      refine XIn.same (by omega) (c_X5_isSign E A h f n hT2 (nI o) fl2 60 (by unfold isSg; omega)) (fun r σ' _ y => ?_)
      obtain ⟨v60, rfl, e60, rfl⟩ := y
      have red : ∀ (R : PRes), (if cdF f n q' = 60 then zbind (zpsF f n F 3 o (afF f n q') pv0 0) fun w m q2 => .inr (fun nm => if u nm < w nm then 1 else 0, l + m + 1, q2) else if cdF f n q' = 61 then zbind (zpsF f n F 3 o (afF f n q') pv0 0) fun w m q2 => .inr (fun nm => if u nm = w nm then 1 else 0, l + m + 1, q2) else .inr (u, l, q')) = R → zbind (Sum.inr (u, l, q')) (fun v l q' => if cdF f n q' = 60 then zbind (zpsF f n F 3 o (afF f n q') pv0 0) fun w m q2 => .inr (fun nm => if v nm < w nm then 1 else 0, l + m + 1, q2) else if cdF f n q' = 61 then zbind (zpsF f n F 3 o (afF f n q') pv0 0) fun w m q2 => .inr (fun nm => if v nm = w nm then 1 else 0, l + m + 1, q2) else .inr (v, l, q')) = R := fun R e => e
      refine ⟨fun y => ?_, fun y => XIn.same (by omega) (c_X5_isSign E A h f n hT2 (nI o) fl2 61 (by unfold isSg; omega)) (fun r σ' _ y2 => ?_)⟩
      · rw [red _ (if_pos (e60.mp y))]
        exact go 60 (fun x nm => if u nm < x nm then 1 else 0) (Or.inl ⟨rfl, rfl⟩) (e60.mp y)
      · obtain ⟨v61, rfl, e61, rfl⟩ := y2
        have n60 : ¬ cdF f n q' = 60 := fun z => e60.mpr z y
        refine ⟨fun y2 => ?_, fun y2 => ?_⟩
        · rw [red _ ((if_neg n60).trans (if_pos (e61.mp y2)))]
          exact go 61 (fun x nm => if u nm = x nm then 1 else 0) (Or.inr ⟨rfl, rfl⟩) (e61.mp y2)
        · rw [red _ ((if_neg n60).trans (if_neg (fun z => e61.mpr z y2)))]
          exact ⟨rfl, he2, tk2, ta2, w2, fl2, hT2, rfl⟩
  · have y11 : cdF f n q = 11 := e11.mp y
    have hin := af_in (f := f) hq (show ¬ cdF f n q = 13 by omega)
    rw [if_pos y11]
    refine XIn.same (by omega) (c_X5_opens E A h f n b0 hH hq (by omega) o ho hT fl) (fun r σ' _ z => ?_)
    rcases z with ⟨o5, rfl, hB⟩ | ⟨o5, rfl, hG⟩
    · rw [if_pos o5]
      obtain ⟨he', tk', ta', w', op', rfl⟩ := hB
      exact ⟨fun z => absurd rfl z, fun _ => ⟨⟨0, rfl⟩, he', tk', ta', w', op', rfl⟩⟩
    · rw [if_neg (by omega)]
      obtain ⟨he', tk', ta', w', fl', hT', rfl⟩ := hG
      have cn := h6 (afF f n q) (o + 1) he' tk' ta' w' fl' (by omega) (by omega) hT' (by omega)
      refine ⟨fun _ => XIn.same (by omega) cn (fun r σ' _ z => ?_), fun z => absurd z (by decide)⟩
      cases eR : zpsF f n (F + 1) 6 (o + 1) (afF f n q) pv0 0 with
      | inl p =>
        rw [eR] at z
        obtain ⟨⟨u, rfl⟩, he2, tk2, ta2, w2, op2, rfl⟩ := z
        exact ⟨fun _ => ⟨⟨_, rfl⟩, he2, tk2, ta2, w2, op2 - 1, rfl⟩, fun _ => ⟨⟨_, rfl⟩, he2, tk2, ta2, w2, op2 - 1, rfl⟩⟩
      | inr x =>
        obtain ⟨u, l, q'⟩ := x
        rw [eR] at z
        obtain ⟨rfl, he2, tk2, ta2, w2, fl2, hT2, rfl⟩ := z
        have eo : nI (o + 1) - 1 = nI o := nI_pred o
        refine ⟨fun y => ⟨?_, he2, tk2, ta2, w2, fl2, hT2, ?_⟩, fun y => ⟨?_, he2, tk2, ta2, w2, fl2, hT2, ?_⟩⟩
        · show _ = some (Value.int (if u (nmR h) = 0 then 1 else 0))
          rw [if_neg y]
        · show mR A h he2 tk2 ta2 w2 (nI (o + 1) - 1) 0 fl2 = _
          rw [eo]
        · show _ = some (Value.int (if u (nmR h) = 0 then 1 else 0))
          rw [if_pos y]
        · show mR A h he2 tk2 ta2 w2 (nI (o + 1) - 1) 0 fl2 = _
          rw [eo]
set_option maxRecDepth 100000 in
set_option maxHeartbeats 8000000 in
theorem s_RA7 (F : Nat) (h6 : RA6 E A h f n F) (h8 : RA8 E A h f n F) : RA7 E A h f n (F + 1) := by
  intro q o he tk ta w fl hq ho hT hF
  have e1 : zpsF f n (F + 1) 7 o q pv0 0 = zbind (zpsF f n F 6 o q pv0 0) fun v l q' => zpsF f n F 8 o q' v l := by rw [ps_e7]
  rw [e1]
  refine XCall.of (by decide +kernel) (xle rfl) (xgo sX5_both [5] 100 (by omega) (XIn.same (by omega) (h6 q o he tk ta w fl hq ho hT (by omega)) (fun r σ' _ z => ?_)))
  cases eR : zpsF f n F 6 o q pv0 0 with
  | inl p =>
    rw [eR] at z
    obtain ⟨⟨v, rfl⟩, he2, tk2, ta2, w2, op2, rfl⟩ := z
    show XAt E RX5 cX5_both 3 (some .int) (20 + 8 * (5 - o) + 5) 16 _ 5 [(0, .ref 0), (1, .int v)] [] (mR A h he2 tk2 ta2 w2 op2 1 (nI p))
    refine xgo sX5_both [] 100 (by omega) (XIn.same (by omega) (wordB E A h he2 tk2 ta2 w2 op2 (nI p) 10 (by omega)) (fun r σ' _ y => ?_))
    obtain ⟨rfl, rfl⟩ := y
    exact ⟨fun _ => ⟨⟨v, rfl⟩, he2, tk2, ta2, w2, op2, rfl⟩, fun y => absurd rfl y⟩
  | inr x =>
    obtain ⟨v, l, q'⟩ := x
    rw [eR] at z
    obtain ⟨rfl, he2, tk2, ta2, w2, fl2, hT2, rfl⟩ := z
    have ok := ps_ok1 (k := 6) (by omega) hq rfl eR
    exact h8 q' o he2 tk2 ta2 w2 fl2 v l [] ok.2 ho hT2 (by omega)
set_option maxRecDepth 100000 in
set_option maxHeartbeats 8000000 in
theorem s_RA8 (hH : RdH h f n b0) (F : Nat) (h6 : RA6 E A h f n F) (h8 : RA8 E A h f n F) : RA8 E A h f n (F + 1) := by
  intro q o he tk ta w fl v l r hq ho hT hF
  have e1 : zpsF f n (F + 1) 8 o q v l = if cdF f n q = 10 then zbind (zpsF f n F 6 o (afF f n q) pv0 0) fun w m q' => zpsF f n F 8 o q' (fun nm => if v nm = 0 then 0 else if w nm = 0 then 0 else 1) (l + m + 1) else .inr (v, l, q) := by rw [ps_e8]
  rw [e1]
  refine XAt.app r (xgo sX5_both [5] 100 (by omega) (XIn.same (by omega) (c_X5_word E A h f n b0 hH hq hT (nI o) fl 10 (by omega)) (fun r σ' _ y => ?_)))
  obtain ⟨v10, rfl, e10, rfl⟩ := y
  refine ⟨fun y => ?_, fun y => ?_⟩
  · rw [if_neg (fun z => e10.mpr z y)]
    exact ⟨rfl, he, tk, ta, w, fl, hT, rfl⟩
  · have c10 := e10.mp y
    have hin := af_in (f := f) hq (show ¬ cdF f n q = 13 by omega)
    rw [if_pos c10]
    refine XIn.same (by omega) (c_X5_nextG E A h f n b0 hH hq (by omega) o hT fl) (fun r σ' _ z => ?_)
    obtain ⟨rfl, he3, tk3, ta3, w3, fl3, hT3, rfl⟩ := z
    refine XIn.same (by omega) (h6 (afF f n q) o he3 tk3 ta3 w3 fl3 (by omega) ho hT3 (by omega)) (fun r σ' _ z => ?_)
    cases eR : zpsF f n F 6 o (afF f n q) pv0 0 with
    | inl p =>
      rw [eR] at z
      obtain ⟨⟨u, rfl⟩, he2, tk2, ta2, w2, op2, rfl⟩ := z
      have bad : ∀ (x : Int32) (r : XL), XAt E RX5 cX5_both 3 (some .int) (20 + 8 * (5 - o) + 5) 16 (RPo A h f n (zbind (Sum.inl p) fun w m q' => zpsF f n F 8 o q' (fun nm => if v nm = 0 then 0 else if w nm = 0 then 0 else 1) (l + m + 1)) o) 5 ([(0, .ref 0), (1, .int x)] ++ r) [] (mR A h he2 tk2 ta2 w2 op2 1 (nI p)) := by
        intro x r
        refine XAt.app r (xgo sX5_both [] 100 (by omega) (XIn.same (by omega) (wordB E A h he2 tk2 ta2 w2 op2 (nI p) 10 (by omega)) (fun r σ' _ y => ?_)))
        obtain ⟨rfl, rfl⟩ := y
        exact ⟨fun _ => ⟨⟨_, rfl⟩, he2, tk2, ta2, w2, op2, rfl⟩, fun y => absurd rfl y⟩
      exact ⟨fun _ => bad 0 [(2, .int u)], fun _ => ⟨fun _ => bad 0 [(2, .int u)], fun _ => bad 1 [(2, .int u)]⟩⟩
    | inr x =>
      obtain ⟨u, m, q'⟩ := x
      rw [eR] at z
      obtain ⟨rfl, he2, tk2, ta2, w2, fl2, hT2, rfl⟩ := z
      have ok := ps_ok1 (k := 6) (by omega) (by omega) rfl eR
      have t := h8 q' o he2 tk2 ta2 w2 fl2 (fun nm => if v nm = 0 then 0 else if u nm = 0 then 0 else 1) (l + m + 1) [(2, .int (u (nmR h)))] ok.2 ho hT2 (by omega)
      refine ⟨fun y => ?_, fun y => ⟨fun y2 => ?_, fun y2 => ?_⟩⟩
      · rw [if_pos y] at t
        exact t
      · rw [if_neg y, if_pos y2] at t
        exact t
      · rw [if_neg y, if_neg y2] at t
        exact t
set_option maxRecDepth 100000 in
set_option maxHeartbeats 8000000 in
theorem s_RA9 (F : Nat) (h7 : RA7 E A h f n F) (h10 : RA10 E A h f n F) : RA9 E A h f n (F + 1) := by
  intro q o he tk ta w fl hq ho hT hF
  have e1 : zpsF f n (F + 1) 9 o q pv0 0 = zbind (zpsF f n F 7 o q pv0 0) fun v l q' => zpsF f n F 10 o q' v l := by rw [ps_e9]
  rw [e1]
  refine XCall.of (by decide +kernel) (xle rfl) (xgo sX5_either [5] 100 (by omega) (XIn.same (by omega) (h7 q o he tk ta w fl hq ho hT (by omega)) (fun r σ' _ z => ?_)))
  cases eR : zpsF f n F 7 o q pv0 0 with
  | inl p =>
    rw [eR] at z
    obtain ⟨⟨v, rfl⟩, he2, tk2, ta2, w2, op2, rfl⟩ := z
    show XAt E RX5 cX5_either 3 (some .int) (20 + 8 * (5 - o) + 6) 16 _ 5 [(0, .ref 0), (1, .int v)] [] (mR A h he2 tk2 ta2 w2 op2 1 (nI p))
    refine xgo sX5_either [] 100 (by omega) (XIn.same (by omega) (wordB E A h he2 tk2 ta2 w2 op2 (nI p) 9 (by omega)) (fun r σ' _ y => ?_))
    obtain ⟨rfl, rfl⟩ := y
    exact ⟨fun _ => ⟨⟨v, rfl⟩, he2, tk2, ta2, w2, op2, rfl⟩, fun y => absurd rfl y⟩
  | inr x =>
    obtain ⟨v, l, q'⟩ := x
    rw [eR] at z
    obtain ⟨rfl, he2, tk2, ta2, w2, fl2, hT2, rfl⟩ := z
    have ok := ps_ok1 (k := 7) (by omega) hq rfl eR
    exact h10 q' o he2 tk2 ta2 w2 fl2 v l [] ok.2 ho hT2 (by omega)
set_option maxRecDepth 100000 in
set_option maxHeartbeats 8000000 in
theorem s_RA10 (hH : RdH h f n b0) (F : Nat) (h7 : RA7 E A h f n F) (h10 : RA10 E A h f n F) : RA10 E A h f n (F + 1) := by
  intro q o he tk ta w fl v l r hq ho hT hF
  have e1 : zpsF f n (F + 1) 10 o q v l = if cdF f n q = 9 then zbind (zpsF f n F 7 o (afF f n q) pv0 0) fun w m q' => zpsF f n F 10 o q' (fun nm => if v nm = 0 then (if w nm = 0 then 0 else 1) else 1) (l + m + 1) else .inr (v, l, q) := by rw [ps_e10]
  rw [e1]
  refine XAt.app r (xgo sX5_either [5] 100 (by omega) (XIn.same (by omega) (c_X5_word E A h f n b0 hH hq hT (nI o) fl 9 (by omega)) (fun r σ' _ y => ?_)))
  obtain ⟨v9, rfl, e9, rfl⟩ := y
  refine ⟨fun y => ?_, fun y => ?_⟩
  · rw [if_neg (fun z => e9.mpr z y)]
    exact ⟨rfl, he, tk, ta, w, fl, hT, rfl⟩
  · have c9 := e9.mp y
    have hin := af_in (f := f) hq (show ¬ cdF f n q = 13 by omega)
    rw [if_pos c9]
    refine XIn.same (by omega) (c_X5_nextG E A h f n b0 hH hq (by omega) o hT fl) (fun r σ' _ z => ?_)
    obtain ⟨rfl, he3, tk3, ta3, w3, fl3, hT3, rfl⟩ := z
    refine XIn.same (by omega) (h7 (afF f n q) o he3 tk3 ta3 w3 fl3 (by omega) ho hT3 (by omega)) (fun r σ' _ z => ?_)
    cases eR : zpsF f n F 7 o (afF f n q) pv0 0 with
    | inl p =>
      rw [eR] at z
      obtain ⟨⟨u, rfl⟩, he2, tk2, ta2, w2, op2, rfl⟩ := z
      have bad : ∀ (x : Int32) (r : XL), XAt E RX5 cX5_either 3 (some .int) (20 + 8 * (5 - o) + 6) 16 (RPo A h f n (zbind (Sum.inl p) fun w m q' => zpsF f n F 10 o q' (fun nm => if v nm = 0 then (if w nm = 0 then 0 else 1) else 1) (l + m + 1)) o) 5 ([(0, .ref 0), (1, .int x)] ++ r) [] (mR A h he2 tk2 ta2 w2 op2 1 (nI p)) := by
        intro x r
        refine XAt.app r (xgo sX5_either [] 100 (by omega) (XIn.same (by omega) (wordB E A h he2 tk2 ta2 w2 op2 (nI p) 9 (by omega)) (fun r σ' _ y => ?_)))
        obtain ⟨rfl, rfl⟩ := y
        exact ⟨fun _ => ⟨⟨_, rfl⟩, he2, tk2, ta2, w2, op2, rfl⟩, fun y => absurd rfl y⟩
      exact ⟨fun _ => bad 1 [(2, .int u)], fun _ => ⟨fun _ => bad 0 [(2, .int u)], fun _ => bad 1 [(2, .int u)]⟩⟩
    | inr x =>
      obtain ⟨u, m, q'⟩ := x
      rw [eR] at z
      obtain ⟨rfl, he2, tk2, ta2, w2, fl2, hT2, rfl⟩ := z
      have ok := ps_ok1 (k := 7) (by omega) (by omega) rfl eR
      have t := h10 q' o he2 tk2 ta2 w2 fl2 (fun nm => if v nm = 0 then (if u nm = 0 then 0 else 1) else 1) (l + m + 1) [(2, .int (u (nmR h)))] ok.2 ho hT2 (by omega)
      refine ⟨fun y => ?_, fun y => ⟨fun y2 => ?_, fun y2 => ?_⟩⟩
      · rw [if_neg y] at t
        exact t
      · rw [if_pos y, if_pos y2] at t
        exact t
      · rw [if_pos y, if_neg y2] at t
        exact t
def RAll (F : Nat) : Prop := RA0 E A h f n F ∧ RA1 E A h f n F ∧ RA2 E A h f n F ∧ RA3 E A h f n F ∧ RA4 E A h f n F ∧ RA6 E A h f n F ∧ RA7 E A h f n F ∧ RA8 E A h f n F ∧ RA9 E A h f n F ∧ RA10 E A h f n F
theorem ra_all (hH : RdH h f n b0) : ∀ F, RAll E A h f n F ∧ RAll E A h f n (F + 1)
  | 0 => by
    have z : RAll E A h f n 0 := ⟨fun q o he tk ta w fl _ _ _ y => by omega, fun q o he tk ta w fl _ _ _ y => by omega, fun q o he tk ta w fl v l _ _ _ y => by omega, fun q o he tk ta w fl _ _ _ y => by omega, fun q o he tk ta w fl v l r _ _ _ y => by omega, fun q o he tk ta w fl _ _ _ y => by omega, fun q o he tk ta w fl _ _ _ y => by omega, fun q o he tk ta w fl v l r _ _ _ y => by omega, fun q o he tk ta w fl _ _ _ y => by omega, fun q o he tk ta w fl v l r _ _ _ y => by omega⟩
    obtain ⟨z0, z1, z2, z3, z4, z6, z7, z8, z9, z10⟩ := z
    exact ⟨⟨z0, z1, z2, z3, z4, z6, z7, z8, z9, z10⟩, s_RA0 E A h f n b0 hH 0 z0 z9, s_RA1 E A h f n 0 z0 z2, s_RA2 E A h f n b0 hH 0 z0 z2, s_RA3 E A h f n 0 z1 z4, s_RA4 E A h f n b0 hH 0 z1 z4, fun q o he tk ta w fl _ _ _ y => by omega, s_RA7 E A h f n 0 z6 z8, s_RA8 E A h f n b0 hH 0 z6 z8, s_RA9 E A h f n 0 z7 z10, s_RA10 E A h f n b0 hH 0 z7 z10⟩
  | F + 1 => by
    obtain ⟨y, z⟩ := ra_all hH F
    obtain ⟨y0, y1, y2, y3, y4, y6, y7, y8, y9, y10⟩ := y
    obtain ⟨z0, z1, z2, z3, z4, z6, z7, z8, z9, z10⟩ := z
    exact ⟨⟨z0, z1, z2, z3, z4, z6, z7, z8, z9, z10⟩, s_RA0 E A h f n b0 hH (F + 1) z0 z9, s_RA1 E A h f n (F + 1) z0 z2, s_RA2 E A h f n b0 hH (F + 1) z0 z2, s_RA3 E A h f n (F + 1) z1 z4, s_RA4 E A h f n b0 hH (F + 1) z1 z4, s_RA6 E A h f n b0 hH F z6 y3, s_RA7 E A h f n (F + 1) z6 z8, s_RA8 E A h f n b0 hH (F + 1) z6 z8, s_RA9 E A h f n (F + 1) z7 z10, s_RA10 E A h f n b0 hH (F + 1) z7 z10⟩
end MODEL
