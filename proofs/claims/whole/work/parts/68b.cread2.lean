-- ===== the class reads: terms, sums, and the rest =====
theorem fj_13 (a b : Int32) : f_join (-13) a b = a * b := rfl
theorem fj_12 (a b : Int32) : f_join (-12) a b = a - b := rfl
theorem fj_11 (a b : Int32) : f_join (-11) a b = a + b := rfl
theorem fj_10 (a b : Int32) : f_join (-10) a b = if a = b then 1 else 0 := rfl
theorem fj_9 (a b : Int32) : f_join (-9) a b = if a < b then 1 else 0 := rfl
theorem fj_8 (a b : Int32) : f_join (-8) a b = if a = 0 then 0 else if b = 0 then 0 else 1 := rfl
theorem fj_7 (a b : Int32) : f_join (-7) a b = if a = 0 then (if b = 0 then 0 else 1) else 1 := rfl
section CREAD
variable (E : XEnv) (bs : F32) (n : Nat) (wh : Int32) (en wt : F32)
theorem cpo_st {st st2 : F32} {z D D2 o : Nat} {r : PRes} {rv : Option Value} {σ : XW} (h : CPo bs n wh en wt st2 z D o r rv σ) (hs : ∀ i, i < z → st2 i = st i) (hd : D ≤ D2) : CPo bs n wh en wt st z D2 o r rv σ := by
  match r, h with
  | .inl p, h => exact h
  | .inr (v, l, q'), ⟨h1, st', h2, h3, h4⟩ => exact ⟨h1, st', fun i hi => (h2 i hi).trans (hs i hi), fun nm => (h3 nm).mono hd, h4⟩
theorem q_end {q t : Nat} (hn : n ≤ 160) (hq : q ≤ n) (ht : t ≤ q) (y : (160 : Int32) ≤ nI t) : cdF bs n q = 13 := by
  have := (nI_leI (a := 160) (b := t) (by omega) (by omega)).mp y
  exact cd_0 (kd_0 (by have := lp_in (f := bs) hq; omega))
set_option maxRecDepth 100000 in
set_option maxHeartbeats 8000000 in
theorem s_C2 (hW : WordOk E bs n wh en wt) (hn : n ≤ 160) (F : Nat) (hi : C0 E bs n wh en wt F) (hl : C2 E bs n wh en wt F) : C2 E bs n wh en wt (F + 1) := by
  intro q o num st z v l t lv hq ho hN hz ht hv hF
  rw [ps_e2]
  refine XAt.app lv (xgo sX0_readTerm [6] 100 (by unfold lK; omega) ⟨fun y => ?_, fun _ => ⟨fun y2 => ?_, fun y2 => ?_⟩⟩)
  · have h13 := q_end bs n hn hq ht y
    rw [if_neg (by omega)]
    exact ⟨rfl, st, fun _ _ => rfl, hv, num, hN, rfl⟩
  · rw [if_neg (fun x => y2 ((cd_eq bs n (c := 42) (by omega)).mpr x))]
    exact ⟨rfl, st, fun _ _ => rfl, hv, num, hN, rfl⟩
  · have hc := (cd_eq bs n (c := 42) (by omega)).mp y2
    have hin := af_in (f := bs) hq (show ¬ cdF bs n q = 13 by omega)
    rw [if_pos hc]
    refine XIn.same (by unfold lK; omega) (c_X0_nextC E bs n wh en wt hW hn hq (by omega) o (nI (cdF bs n q)) (nI (lpF bs n q)) num st (z + l)) (fun r σ' _ x => ?_)
    obtain ⟨rfl, num1, hN1, rfl⟩ := x
    have ca := hi (afF bs n q) o num1 st (z + l) (by omega) ho hN1 (by omega) (by omega)
    refine XIn.same (show lK 2 o < lK 3 o by unfold lK; omega) ca (fun r σ' _ y => ?_)
    cases eR : zpsF bs n F 0 o (afF bs n q) pv0 0 with
    | inl p =>
      rw [eR] at y
      obtain ⟨rfl, hp, a1, a2, a3, a4, a5, a6, a7, rfl⟩ := y
      refine tAddB E bs n wh en wt (by unfold lK; omega) (-13) a7 (fun st' z' hz' => ?_)
      show XAt E RX0 cX0_readTerm 2 none (lK 3 o) 6 _ 6 [(0, .ref 0), (1, .int (nI t + 1))] [] (cW bs n wh en wt a1 14 a2 a3 a4 (nI p) st' z')
      exact xgo sX0_readTerm [] 100 (by unfold lK; omega) ⟨fun _ => ⟨rfl, hp, a1, a2, a3, a4, st', z', hz', rfl⟩, fun _ => ⟨fun _ => ⟨rfl, hp, a1, a2, a3, a4, st', z', hz', rfl⟩, fun y => absurd y (by decide)⟩⟩
    | inr x =>
      obtain ⟨w, m, q'⟩ := x
      rw [eR] at y
      have ok := ps_okL bs n (k := 0) (by omega) (by omega) rfl eR
      obtain ⟨rfl, st1, s1, s2, num2, hN2, rfl⟩ := y
      refine tAdd E bs n wh en wt (by unfold lK; omega) (-13) (by omega) ?_
      have ev := stepEv (c := -13) hv s1 s2 (by decide) (by unfold dK; omega)
      have ih := hl q' o num2 (upd st1 (z + l + m) (-13)) z (fun nm => v nm * w nm) (l + m + 1) (t + 1) [] ok.2.1 ho hN2 (by omega) (by omega) ev (by omega)
      rw [nI_succ t, show z + (l + m + 1) = z + l + m + 1 by omega] at ih
      exact ih.mono (fun r σ' _ x => cpo_st bs n wh en wt x (fun i hi => by rw [pk_un (by omega)]; exact s1 i (by omega)) (Nat.le_refl _))
set_option maxRecDepth 100000 in
set_option maxHeartbeats 8000000 in
theorem s_C1 (F : Nat) (hi : C0 E bs n wh en wt F) (hl : C2 E bs n wh en wt F) : C1 E bs n wh en wt (F + 1) := by
  intro q o num st z hq ho hN hz hF
  rw [ps_e1]
  refine XCall.of (by decide +kernel) (xle rfl) (xgo sX0_readTerm [6] 100 (by unfold lK; omega) (XIn.same (show lK 2 o < lK 3 o by unfold lK; omega) (hi q o num st z hq ho hN hz (by omega)) (fun r σ' _ y => ?_)))
  cases eR : zpsF bs n F 0 o q pv0 0 with
  | inl p =>
    rw [eR] at y
    obtain ⟨rfl, hp, a1, a2, a3, a4, a5, a6, a7, rfl⟩ := y
    show XAt E RX0 cX0_readTerm 2 none (lK 3 o) 6 _ 6 [(0, .ref 0), (1, .int 0)] [] (cW bs n wh en wt a1 14 a2 a3 a4 (nI p) a5 a6)
    exact xgo sX0_readTerm [] 100 (by unfold lK; omega) ⟨fun _ => ⟨rfl, hp, a1, a2, a3, a4, a5, a6, a7, rfl⟩, fun _ => ⟨fun _ => ⟨rfl, hp, a1, a2, a3, a4, a5, a6, a7, rfl⟩, fun y => absurd y (by decide)⟩⟩
  | inr x =>
    obtain ⟨v, l, q'⟩ := x
    rw [eR] at y
    have ok := ps_okL bs n (k := 0) (by omega) hq rfl eR
    obtain ⟨rfl, st1, s1, s2, num2, hN2, rfl⟩ := y
    have t := hl q' o num2 st1 z v l 0 [] ok.2.1 ho hN2 (by omega) (Nat.zero_le _) (fun nm => (s2 nm).mono (by unfold dK; omega)) (by omega)
    exact t.mono (fun r σ' _ x => cpo_st bs n wh en wt x s1 (Nat.le_refl _))
set_option maxRecDepth 100000 in
set_option maxHeartbeats 8000000 in
theorem s_C4 (hW : WordOk E bs n wh en wt) (hn : n ≤ 160) (F : Nat) (hi : C1 E bs n wh en wt F) (hl : C4 E bs n wh en wt F) : C4 E bs n wh en wt (F + 1) := by
  intro q o num st z v l t lv hq ho hN hz ht hv hF
  rw [ps_e4]
  -- behind the sign
  have go : ∀ (c : Nat) (J : Int32) (g : zPV → zPV), (c = 43 ∧ J = -11 ∧ g = (fun w nm => v nm + w nm)) ∨ (c = 45 ∧ J = -12 ∧ g = (fun w nm => v nm - w nm)) → cdF bs n q = c → XAt E RX0 cX0_readSum 3 none (lK 4 o) 6 (CPo bs n wh en wt st z (dK 4 o) o (zbind (zpsF bs n F 1 o (afF bs n q) pv0 0) fun w m q' => zpsF bs n F 4 o q' (g w) (l + m + 1))) 47 [(0, .ref 0), (1, .int (nI t))] [.int J] (cW bs n wh en wt (nI (afF bs n q)) (nI (cdF bs n q)) (nI (lpF bs n q)) num (nI o) (-1) st (z + l)) := by
    intro c J g hg hc
    have hin := af_in (f := bs) hq (show ¬ cdF bs n q = 13 by omega)
    refine xgo sX0_readSum [6] 100 (by unfold lK; omega) (XIn.same (by unfold lK; omega) (c_X0_nextC E bs n wh en wt hW hn hq (by omega) o (nI (cdF bs n q)) (nI (lpF bs n q)) num st (z + l)) (fun r σ' _ x => ?_))
    obtain ⟨rfl, num1, hN1, rfl⟩ := x
    have ca := hi (afF bs n q) o num1 st (z + l) (by omega) ho hN1 (by omega) (by omega)
    refine XIn.same (show lK 3 o < lK 4 o by unfold lK; omega) ca (fun r σ' _ y => ?_)
    cases eR : zpsF bs n F 1 o (afF bs n q) pv0 0 with
    | inl p =>
      rw [eR] at y
      obtain ⟨rfl, hp, a1, a2, a3, a4, a5, a6, a7, rfl⟩ := y
      refine tAddB E bs n wh en wt (by unfold lK; omega) J a7 (fun st' z' hz' => ?_)
      show XAt E RX0 cX0_readSum 3 none (lK 4 o) 6 _ 6 [(0, .ref 0), (1, .int (nI t + 1)), (2, .int J)] [] (cW bs n wh en wt a1 14 a2 a3 a4 (nI p) st' z')
      exact xgo sX0_readSum [] 100 (by unfold lK; omega) ⟨fun _ => ⟨rfl, hp, a1, a2, a3, a4, st', z', hz', rfl⟩, fun _ => ⟨fun y => absurd y (by decide), fun _ => ⟨fun _ => ⟨rfl, hp, a1, a2, a3, a4, st', z', hz', rfl⟩, fun y => absurd y (by decide)⟩⟩⟩
    | inr x =>
      obtain ⟨w, m, q'⟩ := x
      rw [eR] at y
      have ok := ps_okL bs n (k := 1) (by omega) (by omega) rfl eR
      obtain ⟨rfl, st1, s1, s2, num2, hN2, rfl⟩ := y
      refine tAdd E bs n wh en wt (by unfold lK; omega) J (by omega) ?_
      rcases hg with ⟨_, rfl, rfl⟩ | ⟨_, rfl, rfl⟩
      · have ev := stepEv (c := -11) hv s1 s2 (by decide) (by unfold dK; omega)
        have ih := hl q' o num2 (upd st1 (z + l + m) (-11)) z (fun nm => v nm + w nm) (l + m + 1) (t + 1) [(2, .int (-11))] ok.2.1 ho hN2 (by omega) (by omega) ev (by omega)
        rw [nI_succ t, show z + (l + m + 1) = z + l + m + 1 by omega] at ih
        exact ih.mono (fun r σ' _ x => cpo_st bs n wh en wt x (fun i hi => by rw [pk_un (by omega)]; exact s1 i (by omega)) (Nat.le_refl _))
      · have ev := stepEv (c := -12) hv s1 s2 (by decide) (by unfold dK; omega)
        have ih := hl q' o num2 (upd st1 (z + l + m) (-12)) z (fun nm => v nm - w nm) (l + m + 1) (t + 1) [(2, .int (-12))] ok.2.1 ho hN2 (by omega) (by omega) ev (by omega)
        rw [nI_succ t, show z + (l + m + 1) = z + l + m + 1 by omega] at ih
        exact ih.mono (fun r σ' _ x => cpo_st bs n wh en wt x (fun i hi => by rw [pk_un (by omega)]; exact s1 i (by omega)) (Nat.le_refl _))
  have at31 : ∀ (c : Nat) (J : Int32) (g : zPV → zPV), (c = 43 ∧ J = -11 ∧ g = (fun w nm => v nm + w nm)) ∨ (c = 45 ∧ J = -12 ∧ g = (fun w nm => v nm - w nm)) → cdF bs n q = c → XAt E RX0 cX0_readSum 3 none (lK 4 o) 6 (CPo bs n wh en wt st z (dK 4 o) o (zbind (zpsF bs n F 1 o (afF bs n q) pv0 0) fun w m q' => zpsF bs n F 4 o q' (g w) (l + m + 1))) 31 [(0, .ref 0), (1, .int (nI t))] [] (cW bs n wh en wt (nI (afF bs n q)) (nI (cdF bs n q)) (nI (lpF bs n q)) num (nI o) (-1) st (z + l)) := by
    intro c J g hg hc
    have g1 := go c J g hg hc
    refine xgo sX0_readSum [47] 100 (by unfold lK; omega) ⟨fun y => ?_, fun y => ?_⟩
    · rcases hg with ⟨q1, _⟩ | ⟨_, q2, _⟩
      · exact absurd ((cd_eq bs n (c := 43) (by omega)).mpr (by omega)) y
      · rw [q2] at g1
        exact g1
    · rcases hg with ⟨_, q2, _⟩ | ⟨q1, _⟩
      · rw [q2] at g1
        exact g1
      · have := (cd_eq bs n (c := 43) (by omega)).mp y
        omega
  refine XAt.app lv (xgo sX0_readSum [31] 100 (by unfold lK; omega) ⟨fun y => ?_, fun _ => ⟨fun y2 => ?_, fun y2 => ⟨fun y3 => ?_, fun y3 => ?_⟩⟩⟩)
  · have h13 := q_end bs n hn hq ht y
    rw [if_neg (by omega), if_neg (by omega)]
    exact ⟨rfl, st, fun _ _ => rfl, hv, num, hN, rfl⟩
  · have hc := (cd_eq bs n (c := 43) (by omega)).mp y2
    rw [if_pos hc]
    exact at31 43 (-11) (fun w nm => v nm + w nm) (Or.inl ⟨rfl, rfl, rfl⟩) hc
  · rw [if_neg (fun x => y2 ((cd_eq bs n (c := 43) (by omega)).mpr x)), if_neg (fun x => y3 ((cd_eq bs n (c := 45) (by omega)).mpr x))]
    exact ⟨rfl, st, fun _ _ => rfl, hv, num, hN, rfl⟩
  · have hc := (cd_eq bs n (c := 45) (by omega)).mp y3
    rw [if_neg (fun x => y2 ((cd_eq bs n (c := 43) (by omega)).mpr x)), if_pos hc]
    exact at31 45 (-12) (fun w nm => v nm - w nm) (Or.inr ⟨rfl, rfl, rfl⟩) hc
set_option maxRecDepth 100000 in
set_option maxHeartbeats 8000000 in
theorem s_C3 (F : Nat) (hi : C1 E bs n wh en wt F) (hl : C4 E bs n wh en wt F) : C3 E bs n wh en wt (F + 1) := by
  intro q o num st z hq ho hN hz hF
  rw [ps_e3]
  refine XCall.of (by decide +kernel) (xle rfl) (xgo sX0_readSum [6] 100 (by unfold lK; omega) (XIn.same (show lK 3 o < lK 4 o by unfold lK; omega) (hi q o num st z hq ho hN hz (by omega)) (fun r σ' _ y => ?_)))
  cases eR : zpsF bs n F 1 o q pv0 0 with
  | inl p =>
    rw [eR] at y
    obtain ⟨rfl, hp, a1, a2, a3, a4, a5, a6, a7, rfl⟩ := y
    show XAt E RX0 cX0_readSum 3 none (lK 4 o) 6 _ 6 [(0, .ref 0), (1, .int 0)] [] (cW bs n wh en wt a1 14 a2 a3 a4 (nI p) a5 a6)
    exact xgo sX0_readSum [] 100 (by unfold lK; omega) ⟨fun _ => ⟨rfl, hp, a1, a2, a3, a4, a5, a6, a7, rfl⟩, fun _ => ⟨fun y => absurd y (by decide), fun _ => ⟨fun _ => ⟨rfl, hp, a1, a2, a3, a4, a5, a6, a7, rfl⟩, fun y => absurd y (by decide)⟩⟩⟩
  | inr x =>
    obtain ⟨v, l, q'⟩ := x
    rw [eR] at y
    have ok := ps_okL bs n (k := 1) (by omega) hq rfl eR
    obtain ⟨rfl, st1, s1, s2, num2, hN2, rfl⟩ := y
    have t := hl q' o num2 st1 z v l 0 [] ok.2.1 ho hN2 (by omega) (Nat.zero_le _) (fun nm => (s2 nm).mono (by unfold dK; omega)) (by omega)
    exact t.mono (fun r σ' _ x => cpo_st bs n wh en wt x s1 (Nat.le_refl _))
set_option maxRecDepth 100000 in
set_option maxHeartbeats 8000000 in
theorem s_C5 (hW : WordOk E bs n wh en wt) (hn : n ≤ 160) (F : Nat) (hi : C3 E bs n wh en wt F) : C5 E bs n wh en wt (F + 1) := by
  intro q o num st z hq ho hN hz hF
  rw [ps_e5]
  refine XCall.of (by decide +kernel) (xle rfl) (xgo sX0_readCompared [22] 100 (by unfold lK; omega) (XIn.same (show lK 4 o < lK 5 o by unfold lK; omega) (hi q o num st z hq ho hN hz (by omega)) (fun r σ' _ y => ?_)))
  cases eR : zpsF bs n F 3 o q pv0 0 with
  | inl p =>
    rw [eR] at y
    obtain ⟨rfl, hp, a1, a2, a3, a4, a5, a6, a7, rfl⟩ := y
    exact ⟨fun y => absurd y (by decide), fun _ => ⟨fun _ => ⟨rfl, hp, a1, a2, a3, a4, a5, a6, a7, rfl⟩, fun y => absurd y (by decide)⟩⟩
  | inr x =>
    obtain ⟨v, l, q'⟩ := x
    rw [eR] at y
    have ok := ps_okL bs n (k := 3) (by omega) hq rfl eR
    obtain ⟨rfl, st1, s1, s2, num2, hN2, rfl⟩ := y
    have go : ∀ (c : Nat) (J : Int32) (g : zPV → zPV), (c = 60 ∧ J = -9 ∧ g = (fun w nm => if v nm < w nm then 1 else 0)) ∨ (c = 61 ∧ J = -10 ∧ g = (fun w nm => if v nm = w nm then 1 else 0)) → cdF bs n q' = c → XAt E RX0 cX0_readCompared 2 none (lK 5 o) 6 (CPo bs n wh en wt st z (dK 5 o) o (zbind (zpsF bs n F 3 o (afF bs n q') pv0 0) fun w m q2 => .inr (g w, l + m + 1, q2))) 38 [(0, .ref 0)] [.int J] (cW bs n wh en wt (nI (afF bs n q')) (nI (cdF bs n q')) (nI (lpF bs n q')) num2 (nI o) (-1) st1 (z + l)) := by
      intro c J g hg hc
      have hin := af_in (f := bs) ok.2.1 (show ¬ cdF bs n q' = 13 by omega)
      refine xgo sX0_readCompared [] 100 (by unfold lK; omega) (XIn.same (by unfold lK; omega) (c_X0_nextC E bs n wh en wt hW hn ok.2.1 (by omega) o (nI (cdF bs n q')) (nI (lpF bs n q')) num2 st1 (z + l)) (fun r σ' _ x => ?_))
      obtain ⟨rfl, num1, hN1, rfl⟩ := x
      have ca := hi (afF bs n q') o num1 st1 (z + l) (by omega) ho hN1 (by omega) (by omega)
      refine XIn.same (show lK 4 o < lK 5 o by unfold lK; omega) ca (fun r σ' _ y => ?_)
      cases eR2 : zpsF bs n F 3 o (afF bs n q') pv0 0 with
      | inl p =>
        rw [eR2] at y
        obtain ⟨rfl, hp, a1, a2, a3, a4, a5, a6, a7, rfl⟩ := y
        refine tAddB E bs n wh en wt (by unfold lK; omega) J a7 (fun st' z' hz' => ?_)
        exact ⟨rfl, hp, a1, a2, a3, a4, st', z', hz', rfl⟩
      | inr x =>
        obtain ⟨w, m, q2⟩ := x
        rw [eR2] at y
        have ok2 := ps_okL bs n (k := 3) (by omega) (by omega) rfl eR2
        obtain ⟨rfl, st3, s3, s4, num3, hN3, rfl⟩ := y
        refine tAdd E bs n wh en wt (by unfold lK; omega) J (by omega) ?_
        have hv : ∀ nm, Ev st1 nm z l (v nm) (dK 5 o) := fun nm => (s2 nm).mono (by unfold dK; omega)
        have h7 : ¬ -7 < J := by
          rcases hg with ⟨_, rfl, _⟩ | ⟨_, rfl, _⟩ <;> decide
        have ev := stepEv (c := J) hv s3 s4 h7 (by unfold dK; omega)
        refine ⟨rfl, upd st3 (z + l + m) J, fun i hi => by rw [pk_un (by omega), s3 i (by omega)]; exact s1 i hi, ?_, num3, hN3, ?_⟩
        · rcases hg with ⟨_, rfl, rfl⟩ | ⟨_, rfl, rfl⟩
          · exact ev
          · exact ev
        · rw [show z + (l + m + 1) = z + l + m + 1 by omega]
    have at22 : ∀ (c : Nat) (J : Int32) (g : zPV → zPV), (c = 60 ∧ J = -9 ∧ g = (fun w nm => if v nm < w nm then 1 else 0)) ∨ (c = 61 ∧ J = -10 ∧ g = (fun w nm => if v nm = w nm then 1 else 0)) → cdF bs n q' = c → XAt E RX0 cX0_readCompared 2 none (lK 5 o) 6 (CPo bs n wh en wt st z (dK 5 o) o (zbind (zpsF bs n F 3 o (afF bs n q') pv0 0) fun w m q2 => .inr (g w, l + m + 1, q2))) 22 [(0, .ref 0)] [] (cW bs n wh en wt (nI (afF bs n q')) (nI (cdF bs n q')) (nI (lpF bs n q')) num2 (nI o) (-1) st1 (z + l)) := by
      intro c J g hg hc
      have g1 := go c J g hg hc
      refine xgo sX0_readCompared [38] 100 (by unfold lK; omega) ⟨fun y => ?_, fun y => ?_⟩
      · rcases hg with ⟨q1, _⟩ | ⟨_, q2, _⟩
        · exact absurd ((cd_eq bs n (c := 60) (by omega)).mpr (by omega)) y
        · rw [q2] at g1
          exact g1
      · rcases hg with ⟨_, q2, _⟩ | ⟨q1, _⟩
        · rw [q2] at g1
          exact g1
        · have := (cd_eq bs n (c := 60) (by omega)).mp y
          omega
    have red : ∀ (R : PRes), (if cdF bs n q' = 60 then zbind (zpsF bs n F 3 o (afF bs n q') pv0 0) fun w m q2 => .inr (fun nm => if v nm < w nm then 1 else 0, l + m + 1, q2) else if cdF bs n q' = 61 then zbind (zpsF bs n F 3 o (afF bs n q') pv0 0) fun w m q2 => .inr (fun nm => if v nm = w nm then 1 else 0, l + m + 1, q2) else .inr (v, l, q')) = R → zbind (Sum.inr (v, l, q')) (fun v l q' => if cdF bs n q' = 60 then zbind (zpsF bs n F 3 o (afF bs n q') pv0 0) fun w m q2 => .inr (fun nm => if v nm < w nm then 1 else 0, l + m + 1, q2) else if cdF bs n q' = 61 then zbind (zpsF bs n F 3 o (afF bs n q') pv0 0) fun w m q2 => .inr (fun nm => if v nm = w nm then 1 else 0, l + m + 1, q2) else .inr (v, l, q')) = R := fun R e => e
    refine ⟨fun y => ?_, fun y => ⟨fun y2 => ?_, fun y2 => ?_⟩⟩
    · have hc := (cd_eq bs n (c := 60) (by omega)).mp y
      rw [red _ (if_pos hc)]
      exact at22 60 (-9) (fun w nm => if v nm < w nm then 1 else 0) (Or.inl ⟨rfl, rfl, rfl⟩) hc
    · have n60 : ¬ cdF bs n q' = 60 := fun x => y ((cd_eq bs n (c := 60) (by omega)).mpr x)
      have n61 : ¬ cdF bs n q' = 61 := fun x => y2 ((cd_eq bs n (c := 61) (by omega)).mpr x)
      rw [red _ ((if_neg n60).trans (if_neg n61))]
      exact ⟨rfl, st1, s1, fun nm => (s2 nm).mono (by unfold dK; omega), num2, hN2, rfl⟩
    · have n60 : ¬ cdF bs n q' = 60 := fun x => y ((cd_eq bs n (c := 60) (by omega)).mpr x)
      have hc := (cd_eq bs n (c := 61) (by omega)).mp y2
      rw [red _ ((if_neg n60).trans (if_pos hc))]
      exact at22 61 (-10) (fun w nm => if v nm = w nm then 1 else 0) (Or.inr ⟨rfl, rfl, rfl⟩) hc
set_option maxRecDepth 100000 in
set_option maxHeartbeats 8000000 in
theorem s_C6 (hW : WordOk E bs n wh en wt) (hn : n ≤ 160) (F : Nat) (h6 : C6 E bs n wh en wt F) (h5 : C5 E bs n wh en wt F) : C6 E bs n wh en wt (F + 1) := by
  intro q o num st z hq ho hN hz hF
  rw [ps_e6]
  refine XCall.of (by decide +kernel) (xle rfl) (xgo sX0_readNot [] 100 (by unfold lK; omega) ⟨fun y => ?_, fun y => ?_⟩)
  · have h11 := (cd_eq bs n (c := 11) (by omega)).mp y
    have hin := af_in (f := bs) hq (show ¬ cdF bs n q = 13 by omega)
    rw [if_pos h11]
    refine XIn.same (by unfold lK; omega) (c_X0_opens E bs n wh en wt hW hn hq (by omega) o ho num st z (by omega)) (fun r σ' _ y => ?_)
    rcases y with ⟨o5, rfl, hB⟩ | ⟨o5, rfl, hG⟩
    · rw [if_pos o5]
      obtain ⟨hp, a1, a2, a3, a4, a5, a6, a7, rfl⟩ := hB
      exact ⟨fun _ => ⟨rfl, hp, a1, a2, a3, a4, a5, a6, a7, rfl⟩, fun y => absurd rfl y⟩
    · rw [if_neg (by omega)]
      obtain ⟨num1, hN1, rfl⟩ := hG
      have ca := h6 (afF bs n q) (o + 1) num1 st z (by omega) (by omega) hN1 (by omega) (by omega)
      refine ⟨fun y => absurd y (by decide), fun _ => XIn.same (show lK 6 (o + 1) < lK 6 o by unfold lK; omega) ca (fun r σ' _ y => ?_)⟩
      cases eR : zpsF bs n F 6 (o + 1) (afF bs n q) pv0 0 with
      | inl p =>
        rw [eR] at y
        obtain ⟨rfl, hp, a1, a2, a3, a4, a5, a6, a7, rfl⟩ := y
        refine tAddB E bs n wh en wt (by unfold lK; omega) 0 a7 (fun st' z' hz' => ?_)
        refine tAddB E bs n wh en wt (by unfold lK; omega) (-10) hz' (fun st2 z2 hz2 => ?_)
        exact ⟨rfl, hp, a1, a2, a3, a4 - 1, st2, z2, hz2, rfl⟩
      | inr x =>
        obtain ⟨v, l, q'⟩ := x
        rw [eR] at y
        have ok := ps_okL bs n (k := 6) (by omega) (by omega) rfl eR
        obtain ⟨rfl, st1, s1, s2, num2, hN2, rfl⟩ := y
        refine tAdd E bs n wh en wt (by unfold lK; omega) 0 (by omega) ?_
        refine tAdd E bs n wh en wt (by unfold lK; omega) (-10) (by omega) ?_
        have eo : nI (o + 1) - 1 = nI o := nI_pred o
        have a1 : ∀ x, x < z + l → upd (upd st1 (z + l) 0) (z + l + 1) (-10) x = st1 x := fun x hx => by rw [pk_un (by omega), pk_un (by omega)]
        refine ⟨rfl, upd (upd st1 (z + l) 0) (z + l + 1) (-10), fun i hi => by rw [a1 i (by omega)]; exact s1 i hi, fun nm => ?_, num2, hN2, ?_⟩
        · have e1 : Ev (upd (upd st1 (z + l) 0) (z + l + 1) (-10)) nm z l (v nm) (dK 5 (o + 1)) := (s2 nm).congr (fun x h1 h2 => a1 x (by omega))
          have e0 : Ev (upd (upd st1 (z + l) 0) (z + l + 1) (-10)) nm (z + l) 1 (nI 0) 1 := Ev.num (by omega) (by rw [pk_un (by omega), pk_us]; rfl) (Nat.le_refl _)
          have t := Ev.bin (d := dK 5 o) e1 e0 pk_us (by decide) (by unfold dK; omega) (by unfold dK; omega)
          exact t
        · show cW bs n wh en wt _ _ _ num2 (nI (o + 1) - 1) (-1) _ (z + l + 1 + 1) = _
          rw [eo, show z + l + 1 + 1 = z + (l + 2) by omega]
  · have n11 : ¬ cdF bs n q = 11 := fun x => y ((cd_eq bs n (c := 11) (by omega)).mpr x)
    rw [if_neg n11]
    refine XIn.same (show lK 5 o < lK 6 o by unfold lK; omega) (h5 q o num st z hq ho hN hz (by omega)) (fun r σ' _ x => ?_)
    have hr := x.1
    subst hr
    exact x
set_option maxRecDepth 100000 in
set_option maxHeartbeats 8000000 in
theorem s_C8 (hW : WordOk E bs n wh en wt) (hn : n ≤ 160) (F : Nat) (hi : C6 E bs n wh en wt F) (hl : C8 E bs n wh en wt F) : C8 E bs n wh en wt (F + 1) := by
  intro q o num st z v l t lv hq ho hN hz ht hv hF
  rw [ps_e8]
  refine XAt.app lv (xgo sX0_readAnd [6] 100 (by unfold lK; omega) ⟨fun y => ?_, fun _ => ⟨fun y2 => ?_, fun y2 => ?_⟩⟩)
  · have h13 := q_end bs n hn hq ht y
    rw [if_neg (by omega)]
    exact ⟨rfl, st, fun _ _ => rfl, hv, num, hN, rfl⟩
  · rw [if_neg (fun x => y2 ((cd_eq bs n (c := 10) (by omega)).mpr x))]
    exact ⟨rfl, st, fun _ _ => rfl, hv, num, hN, rfl⟩
  · have hc := (cd_eq bs n (c := 10) (by omega)).mp y2
    have hin := af_in (f := bs) hq (show ¬ cdF bs n q = 13 by omega)
    rw [if_pos hc]
    refine XIn.same (by unfold lK; omega) (c_X0_nextC E bs n wh en wt hW hn hq (by omega) o (nI (cdF bs n q)) (nI (lpF bs n q)) num st (z + l)) (fun r σ' _ x => ?_)
    obtain ⟨rfl, num1, hN1, rfl⟩ := x
    have ca := hi (afF bs n q) o num1 st (z + l) (by omega) ho hN1 (by omega) (by omega)
    refine XIn.same (show lK 6 o < lK 7 o by unfold lK; omega) ca (fun r σ' _ y => ?_)
    cases eR : zpsF bs n F 6 o (afF bs n q) pv0 0 with
    | inl p =>
      rw [eR] at y
      obtain ⟨rfl, hp, a1, a2, a3, a4, a5, a6, a7, rfl⟩ := y
      refine tAddB E bs n wh en wt (by unfold lK; omega) (-8) a7 (fun st' z' hz' => ?_)
      show XAt E RX0 cX0_readAnd 2 none (lK 7 o) 6 _ 6 [(0, .ref 0), (1, .int (nI t + 1))] [] (cW bs n wh en wt a1 14 a2 a3 a4 (nI p) st' z')
      exact xgo sX0_readAnd [] 100 (by unfold lK; omega) ⟨fun _ => ⟨rfl, hp, a1, a2, a3, a4, st', z', hz', rfl⟩, fun _ => ⟨fun _ => ⟨rfl, hp, a1, a2, a3, a4, st', z', hz', rfl⟩, fun y => absurd y (by decide)⟩⟩
    | inr x =>
      obtain ⟨w, m, q'⟩ := x
      rw [eR] at y
      have ok := ps_okL bs n (k := 6) (by omega) (by omega) rfl eR
      obtain ⟨rfl, st1, s1, s2, num2, hN2, rfl⟩ := y
      refine tAdd E bs n wh en wt (by unfold lK; omega) (-8) (by omega) ?_
      have ev := stepEv (c := -8) hv s1 s2 (by decide) (by unfold dK; omega)
      have ih := hl q' o num2 (upd st1 (z + l + m) (-8)) z (fun nm => if v nm = 0 then 0 else if w nm = 0 then 0 else 1) (l + m + 1) (t + 1) [] ok.2.1 ho hN2 (by omega) (by omega) ev (by omega)
      rw [nI_succ t, show z + (l + m + 1) = z + l + m + 1 by omega] at ih
      exact ih.mono (fun r σ' _ x => cpo_st bs n wh en wt x (fun i hi => by rw [pk_un (by omega)]; exact s1 i (by omega)) (Nat.le_refl _))
set_option maxRecDepth 100000 in
set_option maxHeartbeats 8000000 in
theorem s_C7 (F : Nat) (hi : C6 E bs n wh en wt F) (hl : C8 E bs n wh en wt F) : C7 E bs n wh en wt (F + 1) := by
  intro q o num st z hq ho hN hz hF
  rw [ps_e7]
  refine XCall.of (by decide +kernel) (xle rfl) (xgo sX0_readAnd [6] 100 (by unfold lK; omega) (XIn.same (show lK 6 o < lK 7 o by unfold lK; omega) (hi q o num st z hq ho hN hz (by omega)) (fun r σ' _ y => ?_)))
  cases eR : zpsF bs n F 6 o q pv0 0 with
  | inl p =>
    rw [eR] at y
    obtain ⟨rfl, hp, a1, a2, a3, a4, a5, a6, a7, rfl⟩ := y
    show XAt E RX0 cX0_readAnd 2 none (lK 7 o) 6 _ 6 [(0, .ref 0), (1, .int 0)] [] (cW bs n wh en wt a1 14 a2 a3 a4 (nI p) a5 a6)
    exact xgo sX0_readAnd [] 100 (by unfold lK; omega) ⟨fun _ => ⟨rfl, hp, a1, a2, a3, a4, a5, a6, a7, rfl⟩, fun _ => ⟨fun _ => ⟨rfl, hp, a1, a2, a3, a4, a5, a6, a7, rfl⟩, fun y => absurd y (by decide)⟩⟩
  | inr x =>
    obtain ⟨v, l, q'⟩ := x
    rw [eR] at y
    have ok := ps_okL bs n (k := 6) (by omega) hq rfl eR
    obtain ⟨rfl, st1, s1, s2, num2, hN2, rfl⟩ := y
    have t := hl q' o num2 st1 z v l 0 [] ok.2.1 ho hN2 (by omega) (Nat.zero_le _) (fun nm => (s2 nm).mono (by unfold dK; omega)) (by omega)
    exact t.mono (fun r σ' _ x => cpo_st bs n wh en wt x s1 (Nat.le_refl _))
set_option maxRecDepth 100000 in
set_option maxHeartbeats 8000000 in
theorem s_C10 (hW : WordOk E bs n wh en wt) (hn : n ≤ 160) (F : Nat) (hi : C7 E bs n wh en wt F) (hl : C10 E bs n wh en wt F) : C10 E bs n wh en wt (F + 1) := by
  intro q o num st z v l t lv hq ho hN hz ht hv hF
  rw [ps_e10]
  refine XAt.app lv (xgo sX0_readOr [6] 100 (by unfold lK; omega) ⟨fun y => ?_, fun _ => ⟨fun y2 => ?_, fun y2 => ?_⟩⟩)
  · have h13 := q_end bs n hn hq ht y
    rw [if_neg (by omega)]
    exact ⟨rfl, st, fun _ _ => rfl, hv, num, hN, rfl⟩
  · rw [if_neg (fun x => y2 ((cd_eq bs n (c := 9) (by omega)).mpr x))]
    exact ⟨rfl, st, fun _ _ => rfl, hv, num, hN, rfl⟩
  · have hc := (cd_eq bs n (c := 9) (by omega)).mp y2
    have hin := af_in (f := bs) hq (show ¬ cdF bs n q = 13 by omega)
    rw [if_pos hc]
    refine XIn.same (by unfold lK; omega) (c_X0_nextC E bs n wh en wt hW hn hq (by omega) o (nI (cdF bs n q)) (nI (lpF bs n q)) num st (z + l)) (fun r σ' _ x => ?_)
    obtain ⟨rfl, num1, hN1, rfl⟩ := x
    have ca := hi (afF bs n q) o num1 st (z + l) (by omega) ho hN1 (by omega) (by omega)
    refine XIn.same (show lK 7 o < lK 8 o by unfold lK; omega) ca (fun r σ' _ y => ?_)
    cases eR : zpsF bs n F 7 o (afF bs n q) pv0 0 with
    | inl p =>
      rw [eR] at y
      obtain ⟨rfl, hp, a1, a2, a3, a4, a5, a6, a7, rfl⟩ := y
      refine tAddB E bs n wh en wt (by unfold lK; omega) (-7) a7 (fun st' z' hz' => ?_)
      show XAt E RX0 cX0_readOr 2 none (lK 8 o) 6 _ 6 [(0, .ref 0), (1, .int (nI t + 1))] [] (cW bs n wh en wt a1 14 a2 a3 a4 (nI p) st' z')
      exact xgo sX0_readOr [] 100 (by unfold lK; omega) ⟨fun _ => ⟨rfl, hp, a1, a2, a3, a4, st', z', hz', rfl⟩, fun _ => ⟨fun _ => ⟨rfl, hp, a1, a2, a3, a4, st', z', hz', rfl⟩, fun y => absurd y (by decide)⟩⟩
    | inr x =>
      obtain ⟨w, m, q'⟩ := x
      rw [eR] at y
      have ok := ps_okL bs n (k := 7) (by omega) (by omega) rfl eR
      obtain ⟨rfl, st1, s1, s2, num2, hN2, rfl⟩ := y
      refine tAdd E bs n wh en wt (by unfold lK; omega) (-7) (by omega) ?_
      have ev := stepEv (c := -7) hv s1 s2 (by decide) (by unfold dK; omega)
      have ih := hl q' o num2 (upd st1 (z + l + m) (-7)) z (fun nm => if v nm = 0 then (if w nm = 0 then 0 else 1) else 1) (l + m + 1) (t + 1) [] ok.2.1 ho hN2 (by omega) (by omega) ev (by omega)
      rw [nI_succ t, show z + (l + m + 1) = z + l + m + 1 by omega] at ih
      exact ih.mono (fun r σ' _ x => cpo_st bs n wh en wt x (fun i hi => by rw [pk_un (by omega)]; exact s1 i (by omega)) (Nat.le_refl _))
set_option maxRecDepth 100000 in
set_option maxHeartbeats 8000000 in
theorem s_C9 (F : Nat) (hi : C7 E bs n wh en wt F) (hl : C10 E bs n wh en wt F) : C9 E bs n wh en wt (F + 1) := by
  intro q o num st z hq ho hN hz hF
  rw [ps_e9]
  refine XCall.of (by decide +kernel) (xle rfl) (xgo sX0_readOr [6] 100 (by unfold lK; omega) (XIn.same (show lK 7 o < lK 8 o by unfold lK; omega) (hi q o num st z hq ho hN hz (by omega)) (fun r σ' _ y => ?_)))
  cases eR : zpsF bs n F 7 o q pv0 0 with
  | inl p =>
    rw [eR] at y
    obtain ⟨rfl, hp, a1, a2, a3, a4, a5, a6, a7, rfl⟩ := y
    show XAt E RX0 cX0_readOr 2 none (lK 8 o) 6 _ 6 [(0, .ref 0), (1, .int 0)] [] (cW bs n wh en wt a1 14 a2 a3 a4 (nI p) a5 a6)
    exact xgo sX0_readOr [] 100 (by unfold lK; omega) ⟨fun _ => ⟨rfl, hp, a1, a2, a3, a4, a5, a6, a7, rfl⟩, fun _ => ⟨fun _ => ⟨rfl, hp, a1, a2, a3, a4, a5, a6, a7, rfl⟩, fun y => absurd y (by decide)⟩⟩
  | inr x =>
    obtain ⟨v, l, q'⟩ := x
    rw [eR] at y
    have ok := ps_okL bs n (k := 7) (by omega) hq rfl eR
    obtain ⟨rfl, st1, s1, s2, num2, hN2, rfl⟩ := y
    have t := hl q' o num2 st1 z v l 0 [] ok.2.1 ho hN2 (by omega) (Nat.zero_le _) (fun nm => (s2 nm).mono (by unfold dK; omega)) (by omega)
    exact t.mono (fun r σ' _ x => cpo_st bs n wh en wt x s1 (Nat.le_refl _))
def CAll (F : Nat) : Prop := C0 E bs n wh en wt F ∧ C1 E bs n wh en wt F ∧ C2 E bs n wh en wt F ∧ C3 E bs n wh en wt F ∧ C4 E bs n wh en wt F ∧ C5 E bs n wh en wt F ∧ C6 E bs n wh en wt F ∧ C7 E bs n wh en wt F ∧ C8 E bs n wh en wt F ∧ C9 E bs n wh en wt F ∧ C10 E bs n wh en wt F
theorem ca_all (hW : WordOk E bs n wh en wt) (hn : n ≤ 160) : ∀ F, CAll E bs n wh en wt F
  | 0 => ⟨fun q o num st z _ _ _ _ y => by omega, fun q o num st z _ _ _ _ y => by omega, fun q o num st z v l t lv _ _ _ _ _ _ y => by omega, fun q o num st z _ _ _ _ y => by omega, fun q o num st z v l t lv _ _ _ _ _ _ y => by omega, fun q o num st z _ _ _ _ y => by omega, fun q o num st z _ _ _ _ y => by omega, fun q o num st z _ _ _ _ y => by omega, fun q o num st z v l t lv _ _ _ _ _ _ y => by omega, fun q o num st z _ _ _ _ y => by omega, fun q o num st z v l t lv _ _ _ _ _ _ y => by omega⟩
  | F + 1 => by
    obtain ⟨z0, z1, z2, z3, z4, z5, z6, z7, z8, z9, z10⟩ := ca_all hW hn F
    exact ⟨s_C0 E bs n wh en wt hW hn F z0 z9, s_C1 E bs n wh en wt F z0 z2, s_C2 E bs n wh en wt hW hn F z0 z2, s_C3 E bs n wh en wt F z1 z4, s_C4 E bs n wh en wt hW hn F z1 z4, s_C5 E bs n wh en wt hW hn F z3, s_C6 E bs n wh en wt hW hn F z6 z5, s_C7 E bs n wh en wt F z6 z8, s_C8 E bs n wh en wt hW hn F z6 z8, s_C9 E bs n wh en wt F z7 z10, s_C10 E bs n wh en wt hW hn F z7 z10⟩
end CREAD
