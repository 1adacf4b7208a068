-- ===== the reference: a text read, what it says =====
/-- one of the three: its key, what it tells, its end -/
def sgF (f : F32) (n i q : Nat) : PRes := if cdF f n q = 6 + i then zbind (zpsF f n 2000 9 0 (afF f n q) pv0 0) fun v l q' => if cdF f n q' = 59 then .inr (v, l, afF f n q') else .inl (lpF f n q') else .inl (lpF f n q)
def prF (f : F32) (n : Nat) : Nat ⊕ (zPV × zPV × zPV × Nat × Nat × Nat) := match sgF f n 0 0 with
  | .inl p => .inl p
  | .inr (v0, l0, q1) => match sgF f n 1 q1 with
    | .inl p => .inl p
    | .inr (v1, l1, q2) => match sgF f n 2 q2 with
      | .inl p => .inl p
      | .inr (v2, l2, q3) => if cdF f n q3 = 13 then .inr (v0, v1, v2, l0, l1, l2) else .inl (lpF f n q3)
theorem sg_ok {f : F32} {n i q : Nat} {v : zPV} {l q' : Nat} (hq : q ≤ n) (hi : i < 3) (e : sgF f n i q = .inr (v, l, q')) : q + 1 ≤ q' ∧ q' ≤ n ∧ l ≤ 2 * (q' - q) := by
  unfold sgF at e
  by_cases h : cdF f n q = 6 + i
  · rw [if_pos h] at e
    have hin := af_in (f := f) hq (show ¬ cdF f n q = 13 by omega)
    have t := ps_ok f n 2000 9 0 (afF f n q) pv0 0 (by omega) (by omega)
    cases eR : zpsF f n 2000 9 0 (afF f n q) pv0 0 with
    | inl p => rw [eR] at e; cases e
    | inr x =>
      obtain ⟨v', l', q2⟩ := x
      rw [eR] at e t
      have e : (if cdF f n q2 = 59 then (.inr (v', l', afF f n q2) : PRes) else .inl (lpF f n q2)) = .inr (v, l, q') := e
      have t : afF f n q + 1 ≤ q2 ∧ q2 ≤ n ∧ l' ≤ 0 + 2 * (q2 - afF f n q) := t
      by_cases h2 : cdF f n q2 = 59
      · rw [if_pos h2] at e
        have hin2 := af_in (f := f) t.2.1 (show ¬ cdF f n q2 = 13 by omega)
        cases e
        omega
      · rw [if_neg h2] at e
        cases e
  · rw [if_neg h] at e
    cases e
def TOk (f : F32) (n : Nat) (tv : TV) : Prop := ∃ v0 v1 v2 l0 l1 l2, prF f n = .inr (v0, v1, v2, l0, l1, l2) ∧ ∀ nm, tv 0 nm = v0 nm ∧ tv 1 nm = v1 nm ∧ tv 2 nm = v2 nm
section MODEL
variable (E : XEnv) (A : AS) (h : YQ) (f : F32) (n b0 : Nat)
set_option maxRecDepth 100000 in
set_option maxHeartbeats 8000000 in
theorem c_X5_part (hH : RdH h f n b0) (i q : Nat) (hi : i < 3) (hq : q ≤ n) {he tk ta : Int32} {w : Int64} (hT : RT f n q he tk ta w) (fl v : Int32) (hv : ¬ v = 0 ↔ cdF f n q = 6 + i) : XCall E 70 yX5_part cX5_part 3 (some .int) [.ref 0, .int v] (mR A h he tk ta w (nI 0) 0 fl) (RPo A h f n (sgF f n i q) 0) := by
  have hn := hH.2.2.1
  have cf := c_X5_fail E A h he tk (lpF f n q) w (nI 0) fl
  rw [← hT.1] at cf
  -- behind a fault
  have bad : ∀ (p : Nat) (v x : Int32) (he2 tk2 ta2 : Int32) (w2 : Int64) (op2 : Int32), XAt E RX5 cX5_part 3 (some .int) 70 16 (RPo A h f n (.inl p) 0) 34 [(0, .ref 0), (1, .int v)] [.int x] (mR A h he2 tk2 ta2 w2 op2 1 (nI p)) := by
    intro p v x he2 tk2 ta2 w2 op2
    refine xgo sX5_part [] 100 (xle rfl) (XIn.same (xle rfl) (c_X5_isSignB E A h he2 tk2 ta2 w2 op2 (nI p) 59) (fun r σ' _ y => ?_))
    obtain ⟨rfl, rfl⟩ := y
    refine ⟨fun y => absurd rfl y, fun _ => XIn.same (xle rfl) (c_X5_failB E A h he2 tk2 ta2 w2 op2 (nI p)) (fun r σ' _ y => ?_)⟩
    obtain ⟨rfl, rfl⟩ := y
    exact ⟨fun _ => ⟨⟨_, rfl⟩, he2, tk2, ta2, w2, op2, rfl⟩, fun y => absurd y (by decide)⟩
  refine XCall.of (by decide +kernel) (xle rfl) (xgo sX5_part [34] 100 (xle rfl) ⟨fun y => ?_, fun y => ?_⟩)
  · have hc := hv.mp y
    have hin := af_in (f := f) hq (show ¬ cdF f n q = 13 by omega)
    have es : sgF f n i q = zbind (zpsF f n 2000 9 0 (afF f n q) pv0 0) fun v l q' => if cdF f n q' = 59 then .inr (v, l, afF f n q') else .inl (lpF f n q') := if_pos hc
    rw [es]
    refine ⟨fun z => absurd rfl z, fun _ => XIn.same (xle rfl) (c_X5_nextG E A h f n b0 hH hq (by omega) 0 hT fl) (fun r σ' _ z => ?_)⟩
    obtain ⟨rfl, he3, tk3, ta3, w3, fl3, hT3, rfl⟩ := z
    have ce := (ra_all E A h f n b0 hH 2000).1.2.2.2.2.2.2.2.2.1 (afF f n q) 0 he3 tk3 ta3 w3 fl3 (by omega) (by omega) hT3 (by omega)
    refine ⟨fun _ => XIn.same (xle rfl) ce (fun r σ' _ z => ?_), fun z => absurd rfl z⟩
    cases eR : zpsF f n 2000 9 0 (afF f n q) pv0 0 with
    | inl p =>
      rw [eR] at z
      obtain ⟨⟨u, rfl⟩, he2, tk2, ta2, w2, op2, rfl⟩ := z
      exact bad p v u he2 tk2 ta2 w2 op2
    | inr x =>
      obtain ⟨u, l, q'⟩ := x
      rw [eR] at z
      have ok := ps_ok1 (k := 9) (by omega) (by omega) rfl eR
      obtain ⟨rfl, he2, tk2, ta2, w2, fl2, hT2, rfl⟩ := z
      have cf2 := c_X5_fail E A h he2 tk2 (lpF f n q') w2 (nI 0) fl2
      rw [← hT2.1] at cf2
      show XAt E RX5 cX5_part 3 (some .int) 70 16 _ 34 [(0, .ref 0), (1, .int v)] [.int (u (nmR h))] (mR A h he2 tk2 ta2 w2 (nI 0) 0 fl2)
      refine xgo sX5_part [] 100 (xle rfl) (XIn.same (xle rfl) (c_X5_isSign E A h f n hT2 (nI 0) fl2 59 (by unfold isSg; omega)) (fun r σ' _ y => ?_))
      obtain ⟨v59, rfl, e59, rfl⟩ := y
      refine ⟨fun y => ?_, fun y => XIn.same (xle rfl) cf2 (fun r σ' _ y2 => ?_)⟩
      · have c59 := e59.mp y
        refine ⟨fun z => absurd rfl z, fun _ => XIn.same (xle rfl) (c_X5_nextG E A h f n b0 hH ok.2 (by omega) 0 hT2 fl2) (fun r σ' _ z => ?_)⟩
        obtain ⟨rfl, hg⟩ := z
        show RPo A h f n (if cdF f n q' = 59 then .inr (u, l, afF f n q') else .inl (lpF f n q')) 0 _ σ'
        rw [if_pos c59]
        exact ⟨rfl, hg⟩
      · obtain ⟨rfl, rfl⟩ := y2
        refine ⟨fun _ => ?_, fun z => absurd z (by decide)⟩
        show RPo A h f n (if cdF f n q' = 59 then .inr (u, l, afF f n q') else .inl (lpF f n q')) 0 _ (mR A h he2 tk2 ta2 w2 (nI 0) 1 ta2)
        rw [if_neg (fun z => e59.mpr z y)]
        exact ⟨⟨_, rfl⟩, he2, tk2, ta2, w2, nI 0, by rw [hT2.1]⟩
  · have hc : ¬ cdF f n q = 6 + i := fun z => hv.mpr z y
    have es : sgF f n i q = .inl (lpF f n q) := if_neg hc
    rw [es]
    refine XIn.same (xle rfl) cf (fun r σ' _ z => ?_)
    obtain ⟨rfl, rfl⟩ := z
    have t := bad (lpF f n q) v 0 he tk ta w (nI 0)
    rw [← hT.1] at t
    exact ⟨fun _ => ⟨fun z => absurd z (by decide), fun _ => t⟩, fun z => absurd z (by decide)⟩
/-- what read leaves -/
def RRd (A : AS) (h : YQ) (f : F32) (n wh : Nat) : XQ := fun r σ' => match prF f n with
  | .inl p => (∃ v, r = some (.int v)) ∧ ∃ x, σ' = mW A (h.rd x) ∧ (h.rd x).p7 = 1 ∧ (h.rd x).p8 = nI p
  | .inr (v0, v1, v2, _, _, _) => r = some (.int ((if wh = 0 then v0 else if wh = 1 then v1 else v2) (nmR h))) ∧ ∃ x, σ' = mW A (h.rd x) ∧ (h.rd x).p7 = 0
set_option maxRecDepth 100000 in
set_option maxHeartbeats 8000000 in
theorem c_X5_read (t wh : Nat) (ht : t < 6) (hwh : wh < 3) (hn : n ≤ 160) (hts : h.ts t = nI n) (htx : ∀ i, i < n → h.tx (160 * t + i) = f i) (h0 : ∀ i, i < n → 0 ≤ f i) : XCall E 71 yX5_read cX5_read 6 (some .int) [.ref 0, .int (nI t), .int (nI wh)] (mW A h) (RRd A h f n wh) := by
  have ct : (nI t).toNatClampNeg = t := nI_clamp (by omega)
  obtain ⟨g, eg⟩ : ∃ g, g = h.rd (h.o1, h.o2, h.o3, h.o4, h.o5, h.o6, (160 : Int32) * nI t, h.ts (nI t).toNatClampNeg, h.p3, h.p4, h.p5, h.pw, h.p6, h.p7, h.p8) := ⟨_, rfl⟩
  have hH : RdH g f n (160 * t) := by
    rw [eg]
    exact ⟨by show (160 : Int32) * nI t = _; rw [show (160 : Int32) = nI 160 from rfl, pk_mul], by show h.ts (nI t).toNatClampNeg = _; rw [ct]; exact hts, hn, by omega, htx, h0⟩
  have hnm : nmR g = nmR h := by rw [eg]; rfl
  have back : ∀ (he tk ta : Int32) (w : Int64) (op bd fl : Int32), ∃ x, mR A g he tk ta w op bd fl = mW A (h.rd x) ∧ (h.rd x).p7 = bd ∧ (h.rd x).p8 = fl := by
    intro he tk ta w op bd fl
    refine ⟨(h.o1, h.o2, h.o3, h.o4, h.o5, h.o6, (160 : Int32) * nI t, h.ts (nI t).toNatClampNeg, he, tk, ta, w, op, bd, fl), ?_, rfl, rfl⟩
    rw [mR_e, eg]
    rfl
  have c1 := c_X5_next E A g f n (160 * t) hH 0 (Nat.zero_le _) h.p4 h.p5 h.pw (nI 0) 0 h.p8
  have ew : mR A g (nI 0) h.p4 h.p5 h.pw (nI 0) 0 h.p8 = mR A (h.rd (h.o1, h.o2, h.o3, h.o4, h.o5, h.o6, (160 : Int32) * nI t, h.ts (nI t).toNatClampNeg, h.p3, h.p4, h.p5, h.pw, h.p6, h.p7, h.p8)) 0 h.p4 h.p5 h.pw 0 0 h.p8 := by rw [eg]; rfl
  rw [ew] at c1
  refine XCall.of (by decide +kernel) (xle rfl) (xgo sX5_read [60, 94, 128, 146] 200 (xle rfl) ⟨vp_in_nI (by omega) (by omega), Or.inl rfl, XIn.same (xle rfl) c1 (fun r σ' _ z => ?_)⟩)
  obtain ⟨rfl, he, tk, ta, w, hT, rfl⟩ := z
  -- the end
  have fin : ∀ (p q r : Int32) (he tk ta : Int32) (w : Int64) (op bd fl : Int32) (Q : XQ), (∀ x, x = (if wh = 0 then p else if wh = 1 then q else r) → Q (some (.int x)) (mR A g he tk ta w op bd fl)) → XAt E RX5 cX5_read 6 (some .int) 71 16 Q 146 [(0, .ref 0), (1, .int (nI t)), (2, .int (nI wh)), (3, .int p), (4, .int q), (5, .int r)] [] (mR A g he tk ta w op bd fl) := by
    intro p q r he tk ta w op bd fl Q hQ
    refine xgo sX5_read [] 100 (xle rfl) ⟨fun y => ⟨fun y2 => hQ r ?_, fun y2 => hQ q ?_⟩, fun y => hQ p ?_⟩
    · rw [if_neg (fun z => y (by rw [z]; rfl)), if_neg (fun z => y2 (by rw [z]; rfl))]
    · have : wh = 1 := (nI_eq (b := 1) (by omega) (by omega)).mp y2
      rw [if_neg (by omega), if_pos this]
    · have : wh = 0 := (nI_eq (b := 0) (by omega) (by omega)).mp y
      rw [if_pos this]
  have bad128 : ∀ (pp : Nat) (p q r : Int32) (he tk ta : Int32) (w : Int64) (op : Int32), prF f n = .inl pp → XAt E RX5 cX5_read 6 (some .int) 71 16 (RRd A h f n wh) 128 [(0, .ref 0), (1, .int (nI t)), (2, .int (nI wh)), (3, .int p), (4, .int q), (5, .int r)] [] (mR A g he tk ta w op 1 (nI pp)) := by
    intro pp p q r he tk ta w op hp
    refine xgo sX5_read [146] 100 (xle rfl) ⟨fun _ => fin p q r he tk ta w op 1 (nI pp) _ (fun x _ => ?_), fun y => absurd y (by decide)⟩
    obtain ⟨x', e1, e2, e3⟩ := back he tk ta w op 1 (nI pp)
    unfold RRd
    rw [hp]
    exact ⟨⟨x, rfl⟩, x', e1, e2, e3⟩
  have bad94 : ∀ (pp : Nat) (p q : Int32) (he tk ta : Int32) (w : Int64) (op : Int32), prF f n = .inl pp → XAt E RX5 cX5_read 6 (some .int) 71 16 (RRd A h f n wh) 94 [(0, .ref 0), (1, .int (nI t)), (2, .int (nI wh)), (3, .int p), (4, .int q)] [] (mR A g he tk ta w op 1 (nI pp)) := by
    intro pp p q he tk ta w op hp
    exact xgo sX5_read [128] 100 (xle rfl) ⟨fun y => absurd y (by decide), fun _ => bad128 pp p q 0 he tk ta w op hp⟩
  have bad60 : ∀ (pp : Nat) (p : Int32) (he tk ta : Int32) (w : Int64) (op : Int32), prF f n = .inl pp → XAt E RX5 cX5_read 6 (some .int) 71 16 (RRd A h f n wh) 60 [(0, .ref 0), (1, .int (nI t)), (2, .int (nI wh)), (3, .int p)] [] (mR A g he tk ta w op 1 (nI pp)) := by
    intro pp p he tk ta w op hp
    exact xgo sX5_read [94] 100 (xle rfl) ⟨fun y => absurd y (by decide), fun _ => bad94 pp p 0 he tk ta w op hp⟩
  refine XIn.same (xle rfl) (c_X5_word E A g f n (160 * t) hH (Nat.zero_le _) hT (nI 0) h.p8 6 (by omega)) (fun r σ' _ y => ?_)
  obtain ⟨u0, rfl, k0, rfl⟩ := y
  refine XIn.same (xle rfl) (c_X5_part E A g f n (160 * t) hH 0 0 (by omega) (Nat.zero_le _) hT h.p8 u0 k0) (fun r σ' _ z => ?_)
  cases eR0 : sgF f n 0 0 with
  | inl p =>
    rw [eR0] at z
    obtain ⟨⟨u, rfl⟩, he2, tk2, ta2, w2, op2, rfl⟩ := z
    exact bad60 p u he2 tk2 ta2 w2 op2 (by unfold prF; rw [eR0])
  | inr x =>
    obtain ⟨v0, l0, q1⟩ := x
    rw [eR0] at z
    have ok1 := sg_ok (Nat.zero_le _) (by omega) eR0
    obtain ⟨rfl, he1, tk1, ta1, w1, fl1, hT1, rfl⟩ := z
    show XAt E RX5 cX5_read 6 (some .int) 71 16 (RRd A h f n wh) 60 [(0, .ref 0), (1, .int (nI t)), (2, .int (nI wh)), (3, .int (v0 (nmR g)))] [] (mR A g he1 tk1 ta1 w1 (nI 0) 0 fl1)
    refine xgo sX5_read [94] 100 (xle rfl) ⟨fun _ => XIn.same (xle rfl) (c_X5_word E A g f n (160 * t) hH ok1.2.1 hT1 (nI 0) fl1 7 (by omega)) (fun r σ' _ y => ?_), fun y => absurd rfl y⟩
    obtain ⟨u1, rfl, k1, rfl⟩ := y
    refine XIn.same (xle rfl) (c_X5_part E A g f n (160 * t) hH 1 q1 (by omega) ok1.2.1 hT1 fl1 u1 k1) (fun r σ' _ z => ?_)
    cases eR1 : sgF f n 1 q1 with
    | inl p =>
      rw [eR1] at z
      obtain ⟨⟨u, rfl⟩, he2, tk2, ta2, w2, op2, rfl⟩ := z
      exact bad94 p (v0 (nmR g)) u he2 tk2 ta2 w2 op2 (by unfold prF; rw [eR0]; dsimp only; rw [eR1])
    | inr x =>
      obtain ⟨v1, l1, q2⟩ := x
      rw [eR1] at z
      have ok2 := sg_ok ok1.2.1 (by omega) eR1
      obtain ⟨rfl, he2, tk2, ta2, w2, fl2, hT2, rfl⟩ := z
      show XAt E RX5 cX5_read 6 (some .int) 71 16 (RRd A h f n wh) 94 [(0, .ref 0), (1, .int (nI t)), (2, .int (nI wh)), (3, .int (v0 (nmR g))), (4, .int (v1 (nmR g)))] [] (mR A g he2 tk2 ta2 w2 (nI 0) 0 fl2)
      refine xgo sX5_read [128] 100 (xle rfl) ⟨fun _ => XIn.same (xle rfl) (c_X5_word E A g f n (160 * t) hH ok2.2.1 hT2 (nI 0) fl2 8 (by omega)) (fun r σ' _ y => ?_), fun y => absurd rfl y⟩
      obtain ⟨u2, rfl, k2, rfl⟩ := y
      refine XIn.same (xle rfl) (c_X5_part E A g f n (160 * t) hH 2 q2 (by omega) ok2.2.1 hT2 fl2 u2 k2) (fun r σ' _ z => ?_)
      cases eR2 : sgF f n 2 q2 with
      | inl p =>
        rw [eR2] at z
        obtain ⟨⟨u, rfl⟩, he3, tk3, ta3, w3, op3, rfl⟩ := z
        exact bad128 p (v0 (nmR g)) (v1 (nmR g)) u he3 tk3 ta3 w3 op3 (by unfold prF; rw [eR0]; dsimp only; rw [eR1]; dsimp only; rw [eR2])
      | inr x =>
        obtain ⟨v2, l2, q3⟩ := x
        rw [eR2] at z
        obtain ⟨rfl, he3, tk3, ta3, w3, fl3, hT3, rfl⟩ := z
        have cf3 := c_X5_fail E A g he3 tk3 (lpF f n q3) w3 (nI 0) fl3
        rw [← hT3.1] at cf3
        have tk0 := (tk_kd f n hT3).2.2
        show XAt E RX5 cX5_read 6 (some .int) 71 16 (RRd A h f n wh) 128 [(0, .ref 0), (1, .int (nI t)), (2, .int (nI wh)), (3, .int (v0 (nmR g))), (4, .int (v1 (nmR g))), (5, .int (v2 (nmR g)))] [] (mR A g he3 tk3 ta3 w3 (nI 0) 0 fl3)
        refine xgo sX5_read [146] 100 (xle rfl) ⟨fun y => absurd rfl y, fun _ => ⟨fun y => ?_, fun y => XIn.same (xle rfl) cf3 (fun r σ' _ z => ?_)⟩⟩
        · have ep : prF f n = .inr (v0, v1, v2, l0, l1, l2) := by
            unfold prF
            rw [eR0]
            dsimp only
            rw [eR1]
            dsimp only
            rw [eR2]
            dsimp only
            rw [if_pos (tk0.mp y)]
          refine fin _ _ _ he3 tk3 ta3 w3 (nI 0) 0 fl3 _ (fun x hx => ?_)
          obtain ⟨x', e1, e2, e3⟩ := back he3 tk3 ta3 w3 (nI 0) 0 fl3
          unfold RRd
          rw [ep]
          refine ⟨?_, x', e1, e2⟩
          rw [hx, hnm]
          rcases (by omega : wh = 0 ∨ wh = 1 ∨ wh = 2) with e | e | e <;> subst e <;> rfl
        · obtain ⟨rfl, rfl⟩ := z
          have ep : prF f n = .inl (lpF f n q3) := by
            unfold prF
            rw [eR0]
            dsimp only
            rw [eR1]
            dsimp only
            rw [eR2]
            dsimp only
            rw [if_neg (fun z => y (tk0.mpr z))]
          refine fin _ _ _ he3 tk3 ta3 w3 (nI 0) 1 ta3 _ (fun x hx => ?_)
          obtain ⟨x', e1, e2, e3⟩ := back he3 tk3 ta3 w3 (nI 0) 1 ta3
          unfold RRd
          rw [ep]
          exact ⟨⟨x, rfl⟩, x', e1, e2, by rw [e3]; exact hT3.1⟩
theorem nmR_e (S : SH) (one : Nat) (so pa : Int32) {h : YQ} (e1 : h.o1 = S.sk one) (e2 : h.o2 = so) (e3 : h.o3 = S.nu one) (e4 : h.o4 = S.dy) (e5 : h.o5 = S.wa) (e6 : h.o6 = pa) : nmR h = nmF S one so pa := by
  funext j
  unfold nmR
  rw [e1, e2, e3, e4, e5, e6]
  match j with
  | 0 => rfl
  | 1 => rfl
  | 2 => rfl
  | 3 => rfl
  | 4 => rfl
  | 5 => rfl
  | j + 6 =>
    rw [if_neg (by omega), if_neg (by omega), if_neg (by omega), if_neg (by omega), if_neg (by omega), if_neg (by omega)]
    rfl
end MODEL
set_option maxRecDepth 100000 in
set_option maxHeartbeats 8000000 in
theorem says_ok (E : XEnv) (A : AS) (tv : TV) (tx ts : F32) (f : F32) (n : Nat) (hru : A.ru < 6) (hn : n ≤ 160) (hts : ts A.ru = nI n) (htx : ∀ i, i < n → tx (160 * A.ru + i) = f i) (h0 : ∀ i, i < n → 0 ≤ f i) (hT : TOk f n tv) : SaysOk E A tv tx ts := by
  intro S h wh one t so pa etx ets hn5 hwh h1 ht
  have i0 : (4 : Int32) * nI one = nI (4 * one) := ix40 one
  have i1 : (4 : Int32) * nI one + 1 = nI (4 * one + 1) := ix4 one 1 (by omega)
  have c0 : (nI (4 * one)).toNatClampNeg = 4 * one := nI_clamp (by omega)
  have c1 : (nI (4 * one + 1)).toNatClampNeg = 4 * one + 1 := nI_clamp (by omega)
  obtain ⟨v0, v1, v2, l0, l1, l2, ep, hv⟩ := hT
  -- behind the names
  have tail : ∀ (so' pa' : Int32), so' = so → pa' = pa → XAt E RX5 cX5_says 4 (some .int) 100 16 (fun r σ' => r = some (.int (f_bound (tv wh (nmF S one so pa)))) ∧ ∃ x, σ' = mW (A.set_S S) (h.rd x)) 75 [(0, .ref 0), (1, .int (nI wh)), (2, .int (nI one)), (3, .int t)] [] (mW (A.set_S S) (h.rd (S.sk one, so', S.nu one, S.dy, S.wa, pa', h.p1, h.p2, h.p3, h.p4, h.p5, h.pw, h.p6, h.p7, h.p8))) := by
    intro so' pa' es epa
    obtain ⟨g, eg⟩ : ∃ g, g = h.rd (S.sk one, so', S.nu one, S.dy, S.wa, pa', h.p1, h.p2, h.p3, h.p4, h.p5, h.pw, h.p6, h.p7, h.p8) := ⟨_, rfl⟩
    have hnm : nmR g = nmF S one so pa := by
      rw [← es, ← epa]
      refine nmR_e S one so' pa' ?_ ?_ ?_ ?_ ?_ ?_ <;> rw [eg] <;> rfl
    have gts : g.ts = ts := by rw [eg]; exact ets
    have gtx : g.tx = tx := by rw [eg]; exact etx
    rw [← eg]
    have cr := c_X5_read E (A.set_S S) g f n A.ru wh hru hwh hn (by rw [gts]; exact hts) (fun i hi => by rw [gtx]; exact htx i hi) h0
    refine xgo sX5_says [] 100 (xle rfl) (XIn.same (xle rfl) cr (fun r σ' _ z => ?_))
    unfold RRd at z
    rw [ep] at z
    obtain ⟨rfl, x, rfl, _⟩ := z
    refine ⟨?_, x, by rw [eg]; rfl⟩
    rw [hnm]
    show some (Value.int (f_clamp ((if wh = 0 then v0 else if wh = 1 then v1 else v2) (nmF S one so pa)) 0 99)) = _
    rw [f_clamp_b]
    have h3 := hv (nmF S one so pa)
    rcases (by omega : wh = 0 ∨ wh = 1 ∨ wh = 2) with e | e | e
    · subst e
      rw [h3.1, if_pos rfl]
    · subst e
      rw [h3.2.1, if_neg (by omega), if_pos rfl]
    · subst e
      rw [h3.2.2, if_neg (by omega), if_neg (by omega)]
  refine XCall.of (by decide +kernel) (xle rfl) (xgo sX5_says [30, 75] 100 (xle rfl) ⟨by rw [i1]; exact vp_in_nI (by omega) (by omega), ?_⟩)
  rw [i1, c1, rows1]
  rcases ht with ⟨rfl, es, epa⟩ | ⟨k, hk, rfl, es, epa⟩
  · refine ⟨fun y => absurd rfl y, fun _ => ?_⟩
    show XAt E RX5 cX5_says 4 (some .int) 100 16 _ 30 [(0, .ref 0), (1, .int (nI wh)), (2, .int (nI one)), (3, .int (-1))] [.int 0, .ref 0] (mW (A.set_S S) (h.rd (S.sk one, h.o2, h.o3, h.o4, h.o5, h.o6, h.p1, h.p2, h.p3, h.p4, h.p5, h.pw, h.p6, h.p7, h.p8)))
    refine xgo sX5_says [75] 100 (xle rfl) ⟨by rw [i0]; exact vp_in_nI (by omega) (by omega), ?_⟩
    rw [i0, c0, rows0]
    exact ⟨fun y => absurd rfl y, fun _ => tail 0 0 es.symm epa.symm⟩
  · have hne : ¬ nI k = -1 := nI_m1 (by omega)
    refine ⟨fun _ => ⟨vp_in_nI (by omega) (by omega), ?_⟩, fun y => absurd y hne⟩
    rw [nI_clamp (by omega : k < 2147483648)]
    show XAt E RX5 cX5_says 4 (some .int) 100 16 _ 30 [(0, .ref 0), (1, .int (nI wh)), (2, .int (nI one)), (3, .int (nI k))] [.int (S.so k), .ref 0] (mW (A.set_S S) (h.rd (S.sk one, h.o2, h.o3, h.o4, h.o5, h.o6, h.p1, h.p2, h.p3, h.p4, h.p5, h.pw, h.p6, h.p7, h.p8)))
    refine xgo sX5_says [75] 100 (xle rfl) ⟨by rw [i0]; exact vp_in_nI (by omega) (by omega), ?_⟩
    rw [i0, c0, rows0]
    exact ⟨fun _ => tail (S.so k) (nI k) es.symm epa.symm, fun y => absurd y hne⟩
