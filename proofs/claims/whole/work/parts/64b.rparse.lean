-- ===== the reference reads: terms, sums, and the rest =====
theorem ps_ok1 {f : F32} {n F k o q : Nat} {v : zPV} {l q' : Nat} (hk : k ≤ 10) (hq : q ≤ n) (hl : lpK k = false) (e : zpsF f n F k o q pv0 0 = .inr (v, l, q')) : q + 1 ≤ q' ∧ q' ≤ n := by
  have t := ps_ok f n F k o q pv0 0 hk hq
  rw [e] at t
  have t1 : q + (if lpK k then 0 else 1) ≤ q' := t.1
  rw [hl] at t1
  exact ⟨t1, t.2.1⟩
theorem w_sg {f : F32} {n q c : Nat} {he tk ta : Int32} {w : Int64} (hT : RT f n q he tk ta w) (hc : isSg c) (h : cdF f n q = c) : w = lN c := by
  have cc := cd_kd f n q
  unfold isSg at hc
  rcases hT.2 with ⟨k, e⟩ | ⟨k, e, _⟩ | ⟨k, k2, e, ew, _⟩ | ⟨k, k2, e⟩ | ⟨k, e, ew, _⟩ | ⟨k, e⟩
  · omega
  · omega
  · omega
  · omega
  · rw [ew, h]
  · omega
section MODEL
variable (E : XEnv) (A : AS) (h : YQ) (f : F32) (n b0 : Nat)
set_option maxRecDepth 100000 in
set_option maxHeartbeats 8000000 in
theorem s_RA1 (F : Nat) (h0 : RA0 E A h f n F) (h2 : RA2 E A h f n F) : RA1 E A h f n (F + 1) := by
  intro q o he tk ta w fl hq ho hT hF
  have e1 : zpsF f n (F + 1) 1 o q pv0 0 = zbind (zpsF f n F 0 o q pv0 0) fun v l q' => zpsF f n F 2 o q' v l := by rw [ps_e1]
  rw [e1]
  have c0 := h0 q o he tk ta w fl hq ho hT (by omega)
  have h2' := h2
  unfold RA2 at h2'
  obtain ⟨Lv, eLv⟩ : ∃ Lv, Lv = 20 + 8 * (5 - o) + 2 := ⟨_, rfl⟩
  refine XCall.of (by decide +kernel) (xle rfl) (xgo sX5_term [5] 100 (by omega) (XIn.same (by omega) c0 (fun r σ' _ z => ?_)))
  cases eR : zpsF f n F 0 o q pv0 0 with
  | inl p =>
    rw [eR] at z
    obtain ⟨⟨v, rfl⟩, he2, tk2, ta2, w2, op2, rfl⟩ := z
    show XAt E RX5 cX5_term 2 (some .int) (20 + 8 * (5 - o) + 2) 16 _ 5 [(0, .ref 0), (1, .int v)] [] (mR A h he2 tk2 ta2 w2 op2 1 (nI p))
    refine xgo sX5_term [] 100 (by omega) (XIn.same (by omega) (c_X5_isSignB E A h he2 tk2 ta2 w2 op2 (nI p) 42) (fun r σ' _ y => ?_))
    obtain ⟨rfl, rfl⟩ := y
    exact ⟨fun _ => ⟨⟨v, rfl⟩, he2, tk2, ta2, w2, op2, rfl⟩, fun y => absurd rfl y⟩
  | inr x =>
    obtain ⟨v, l, q'⟩ := x
    rw [eR] at z
    obtain ⟨rfl, he2, tk2, ta2, w2, fl2, hT2, rfl⟩ := z
    have ok := ps_ok1 (k := 0) (by omega) hq rfl eR
    exact h2' q' o he2 tk2 ta2 w2 fl2 v l ok.2 ho hT2 (by omega)
set_option maxRecDepth 100000 in
set_option maxHeartbeats 8000000 in
theorem s_RA2 (hH : RdH h f n b0) (F : Nat) (h0 : RA0 E A h f n F) (h2 : RA2 E A h f n F) : RA2 E A h f n (F + 1) := by
  intro q o he tk ta w fl v l hq ho hT hF
  have e1 : zpsF f n (F + 1) 2 o q v l = if cdF f n q = 42 then zbind (zpsF f n F 0 o (afF f n q) pv0 0) fun w m q' => zpsF f n F 2 o q' (fun nm => v nm * w nm) (l + m + 1) else .inr (v, l, q) := by rw [ps_e2]
  rw [e1]
  refine xgo sX5_term [5] 100 (by omega) (XIn.same (by omega) (c_X5_isSign E A h f n hT (nI o) fl 42 (by unfold isSg; omega)) (fun r σ' _ y => ?_))
  obtain ⟨v42, rfl, e42, rfl⟩ := y
  refine ⟨fun y => ?_, fun y => ?_⟩
  · rw [if_neg (fun z => e42.mpr z y)]
    exact ⟨rfl, he, tk, ta, w, fl, hT, rfl⟩
  · have c42 := e42.mp y
    have hin := af_in (f := f) hq (show ¬ cdF f n q = 13 by omega)
    rw [if_pos c42]
    refine XIn.same (by omega) (c_X5_nextG E A h f n b0 hH hq (by omega) o hT fl) (fun r σ' _ z => ?_)
    obtain ⟨rfl, he3, tk3, ta3, w3, fl3, hT3, rfl⟩ := z
    refine XIn.same (by omega) (h0 (afF f n q) o he3 tk3 ta3 w3 fl3 (by omega) ho hT3 (by omega)) (fun r σ' _ z => ?_)
    cases eR : zpsF f n F 0 o (afF f n q) pv0 0 with
    | inl p =>
      rw [eR] at z
      obtain ⟨⟨u, rfl⟩, he2, tk2, ta2, w2, op2, rfl⟩ := z
      show XAt E RX5 cX5_term 2 (some .int) (20 + 8 * (5 - o) + 2) 16 _ 5 [(0, .ref 0), (1, .int (v (nmR h) * u))] [] (mR A h he2 tk2 ta2 w2 op2 1 (nI p))
      refine xgo sX5_term [] 100 (by omega) (XIn.same (by omega) (c_X5_isSignB E A h he2 tk2 ta2 w2 op2 (nI p) 42) (fun r σ' _ y => ?_))
      obtain ⟨rfl, rfl⟩ := y
      exact ⟨fun _ => ⟨⟨_, rfl⟩, he2, tk2, ta2, w2, op2, rfl⟩, fun y => absurd rfl y⟩
    | inr x =>
      obtain ⟨u, m, q'⟩ := x
      rw [eR] at z
      obtain ⟨rfl, he2, tk2, ta2, w2, fl2, hT2, rfl⟩ := z
      have ok := ps_ok1 (k := 0) (by omega) (by omega) rfl eR
      exact h2 q' o he2 tk2 ta2 w2 fl2 (fun nm => v nm * u nm) (l + m + 1) ok.2 ho hT2 (by omega)
set_option maxRecDepth 100000 in
set_option maxHeartbeats 8000000 in
theorem s_RA3 (F : Nat) (h1 : RA1 E A h f n F) (h4 : RA4 E A h f n F) : RA3 E A h f n (F + 1) := by
  intro q o he tk ta w fl hq ho hT hF
  have e1 : zpsF f n (F + 1) 3 o q pv0 0 = zbind (zpsF f n F 1 o q pv0 0) fun v l q' => zpsF f n F 4 o q' v l := by rw [ps_e3]
  rw [e1]
  have c0 := h1 q o he tk ta w fl hq ho hT (by omega)
  refine XCall.of (by decide +kernel) (xle rfl) (xgo sX5_added [5] 100 (by omega) (XIn.same (by omega) c0 (fun r σ' _ z => ?_)))
  cases eR : zpsF f n F 1 o q pv0 0 with
  | inl p =>
    rw [eR] at z
    obtain ⟨⟨v, rfl⟩, he2, tk2, ta2, w2, op2, rfl⟩ := z
    show XAt E RX5 cX5_added 4 (some .int) (20 + 8 * (5 - o) + 3) 16 _ 5 [(0, .ref 0), (1, .int v)] [] (mR A h he2 tk2 ta2 w2 op2 1 (nI p))
    refine xgo sX5_added [] 100 (by omega) (XIn.same (by omega) (c_X5_isSignB E A h he2 tk2 ta2 w2 op2 (nI p) 43) (fun r σ' _ y => ?_))
    obtain ⟨rfl, rfl⟩ := y
    refine ⟨fun y => absurd rfl y, fun _ => XIn.same (by omega) (c_X5_isSignB E A h he2 tk2 ta2 w2 op2 (nI p) 45) (fun r σ' _ y => ?_)⟩
    obtain ⟨rfl, rfl⟩ := y
    exact ⟨fun _ => ⟨⟨v, rfl⟩, he2, tk2, ta2, w2, op2, rfl⟩, fun y => absurd rfl y⟩
  | inr x =>
    obtain ⟨v, l, q'⟩ := x
    rw [eR] at z
    obtain ⟨rfl, he2, tk2, ta2, w2, fl2, hT2, rfl⟩ := z
    have ok := ps_ok1 (k := 1) (by omega) hq rfl eR
    exact h4 q' o he2 tk2 ta2 w2 fl2 v l [] ok.2 ho hT2 (by omega)
theorem l43 : lg_cmp (lN 43) 43 = 0 := by decide +kernel
theorem l45 : ¬ lg_cmp (lN 45) 43 = 0 := by decide +kernel
theorem l60 : lg_cmp (lN 60) 60 = 0 := by decide +kernel
theorem l61 : ¬ lg_cmp (lN 61) 60 = 0 := by decide +kernel
set_option maxRecDepth 100000 in
set_option maxHeartbeats 8000000 in
theorem s_RA4 (hH : RdH h f n b0) (F : Nat) (h1 : RA1 E A h f n F) (h4 : RA4 E A h f n F) : RA4 E A h f n (F + 1) := by
  intro q o he tk ta w fl v l r hq ho hT hF
  have e1 : zpsF f n (F + 1) 4 o q v l = if cdF f n q = 43 then zbind (zpsF f n F 1 o (afF f n q) pv0 0) fun w m q' => zpsF f n F 4 o q' (fun nm => v nm + w nm) (l + m + 1) else if cdF f n q = 45 then zbind (zpsF f n F 1 o (afF f n q) pv0 0) fun w m q' => zpsF f n F 4 o q' (fun nm => v nm - w nm) (l + m + 1) else .inr (v, l, q) := by rw [ps_e4]
  rw [e1]
  -- behind the sign: whichever it is
  have go : ∀ (c : Nat) (g : zPV → zPV), (c = 43 ∧ g = (fun u nm => v nm + u nm)) ∨ (c = 45 ∧ g = (fun u nm => v nm - u nm)) → cdF f n q = c → XAt E RX5 cX5_added 4 (some .int) (20 + 8 * (5 - o) + 3) 16 (RPo A h f n (zbind (zpsF f n F 1 o (afF f n q) pv0 0) fun u m q' => zpsF f n F 4 o q' (g u) (l + m + 1)) o) 23 [(0, .ref 0), (1, .int (v (nmR h)))] [] (mR A h he tk ta w (nI o) 0 fl) := by
    intro c g hg hc
    have hin := af_in (f := f) hq (show ¬ cdF f n q = 13 by omega)
    have cn := c_X5_nextG E A h f n b0 hH hq (by omega) o hT fl
    -- the term, behind the choice
    have tail : ∀ (b : Int32), (b = 0 ↔ c = 45) → XAt E RX5 cX5_added 4 (some .int) (20 + 8 * (5 - o) + 3) 16 (RPo A h f n (zbind (zpsF f n F 1 o (afF f n q) pv0 0) fun u m q' => zpsF f n F 4 o q' (g u) (l + m + 1)) o) 39 [(0, .ref 0), (1, .int (v (nmR h)))] [.int b] (mR A h he tk ta w (nI o) 0 fl) := by
      intro b hb
      refine xgo sX5_added [5] 100 (by omega) (XIn.same (by omega) cn (fun r σ' _ z => ?_))
      obtain ⟨rfl, he3, tk3, ta3, w3, fl3, hT3, rfl⟩ := z
      refine XIn.same (by omega) (h1 (afF f n q) o he3 tk3 ta3 w3 fl3 (by omega) ho hT3 (by omega)) (fun r σ' _ z => ?_)
      cases eR : zpsF f n F 1 o (afF f n q) pv0 0 with
      | inl p =>
        rw [eR] at z
        obtain ⟨⟨u, rfl⟩, he2, tk2, ta2, w2, op2, rfl⟩ := z
        have bad : ∀ (x : Int32) (r : XL), XAt E RX5 cX5_added 4 (some .int) (20 + 8 * (5 - o) + 3) 16 (RPo A h f n (zbind (Sum.inl p) fun u m q' => zpsF f n F 4 o q' (g u) (l + m + 1)) o) 5 ([(0, .ref 0), (1, .int x)] ++ r) [] (mR A h he2 tk2 ta2 w2 op2 1 (nI p)) := by
          intro x r
          refine XAt.app r (xgo sX5_added [] 100 (by omega) (XIn.same (by omega) (c_X5_isSignB E A h he2 tk2 ta2 w2 op2 (nI p) 43) (fun r σ' _ y => ?_)))
          obtain ⟨rfl, rfl⟩ := y
          refine ⟨fun y => absurd rfl y, fun _ => XIn.same (by omega) (c_X5_isSignB E A h he2 tk2 ta2 w2 op2 (nI p) 45) (fun r σ' _ y => ?_)⟩
          obtain ⟨rfl, rfl⟩ := y
          exact ⟨fun _ => ⟨⟨_, rfl⟩, he2, tk2, ta2, w2, op2, rfl⟩, fun y => absurd rfl y⟩
        exact ⟨fun _ => bad (v (nmR h) - u) [(2, .int b), (3, .int u)], fun _ => bad (v (nmR h) + u) [(2, .int b), (3, .int u)]⟩
      | inr x =>
        obtain ⟨u, m, q'⟩ := x
        rw [eR] at z
        obtain ⟨rfl, he2, tk2, ta2, w2, fl2, hT2, rfl⟩ := z
        have ok := ps_ok1 (k := 1) (by omega) (by omega) rfl eR
        refine ⟨fun y => ?_, fun y => ?_⟩
        · have c45 := hb.mp y
          rcases hg with ⟨g1, _⟩ | ⟨_, g2⟩
          · omega
          · subst g2
            exact h4 q' o he2 tk2 ta2 w2 fl2 (fun nm => v nm - u nm) (l + m + 1) [(2, .int b), (3, .int (u (nmR h)))] ok.2 ho hT2 (by omega)
        · rcases hg with ⟨_, g2⟩ | ⟨g1, _⟩
          · subst g2
            exact h4 q' o he2 tk2 ta2 w2 fl2 (fun nm => v nm + u nm) (l + m + 1) [(2, .int b), (3, .int (u (nmR h)))] ok.2 ho hT2 (by omega)
          · exact absurd (hb.mpr g1) y
    have ew : w = lN c := w_sg hT (by unfold isSg; omega) hc
    refine xgo sX5_added [39] 100 (by omega) ⟨fun y => tail 0 ⟨fun _ => ?_, fun _ => rfl⟩, fun y => tail 1 ⟨fun z => absurd z (by decide), fun z => ?_⟩⟩
    · have y : ¬ lg_cmp w 43 = 0 := y
      rw [ew] at y
      rcases hg with ⟨g1, _⟩ | ⟨g1, _⟩
      · rw [g1] at y
        exact absurd l43 y
      · exact g1
    · have y : lg_cmp w 43 = 0 := y
      rw [ew, z] at y
      exact absurd y l45
  refine XAt.app r (xgo sX5_added [23] 100 (by omega) (XIn.same (by omega) (c_X5_isSign E A h f n hT (nI o) fl 43 (by unfold isSg; omega)) (fun r σ' _ y => ?_)))
  obtain ⟨v43, rfl, e43, rfl⟩ := y
  refine ⟨fun y => ?_, fun y => ?_⟩
  · rw [if_pos (e43.mp y)]
    exact go 43 (fun u nm => v nm + u nm) (Or.inl ⟨rfl, rfl⟩) (e43.mp y)
  · rw [if_neg (fun z => e43.mpr z y)]
    refine XIn.same (by omega) (c_X5_isSign E A h f n hT (nI o) fl 45 (by unfold isSg; omega)) (fun r σ' _ y => ?_)
    obtain ⟨v45, rfl, e45, rfl⟩ := y
    refine ⟨fun y => ?_, fun y => ?_⟩
    · rw [if_neg (fun z => e45.mpr z y)]
      exact ⟨rfl, he, tk, ta, w, fl, hT, rfl⟩
    · rw [if_pos (e45.mp y)]
      exact go 45 (fun u nm => v nm - u nm) (Or.inr ⟨rfl, rfl⟩) (e45.mp y)
end MODEL
