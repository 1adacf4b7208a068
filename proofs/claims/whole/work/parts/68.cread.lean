-- ===== the class reads =====
def CPo (bs : F32) (n : Nat) (wh : Int32) (en wt st : F32) (z D o : Nat) (r : PRes) : XQ := fun rv σ' => rv = none ∧ match r with
  | .inl p => CB bs n wh en wt p σ'
  | .inr (v, l, q') => ∃ st', (∀ i, i < z → st' i = st i) ∧ (∀ nm, Ev st' nm z l (v nm) D) ∧ CG bs n wh en wt q' o st' (z + l) σ'
def dK (r o : Nat) : Nat := 7 * (5 - o) + r
def lK (r o : Nat) : Nat := 30 + 10 * (5 - o) + r
section CREAD
variable (E : XEnv) (bs : F32) (n : Nat) (wh : Int32) (en wt : F32)
/-- a method that reads: the kind k, its rank r, what it costs -/
def CA (y : MethodName) (cc : ByteArray) (nL k r d b F : Nat) : Prop := ∀ (q o : Nat) (num : Int32) (st : F32) (z : Nat), q ≤ n → o ≤ 5 → CN bs n q num → z ≤ 2 * q → 10 * (n - q) + b ≤ F → XCall E (lK r o) y cc nL none [.ref 0] (cW bs n wh en wt (nI (afF bs n q)) (nI (cdF bs n q)) (nI (lpF bs n q)) num (nI o) (-1) st z) (CPo bs n wh en wt st z (dK d o) o (zpsF bs n F k o q pv0 0))
/-- its loop, t times gone through -/
def CL (cc : ByteArray) (nL k r d F : Nat) : Prop := ∀ (q o : Nat) (num : Int32) (st : F32) (z : Nat) (v : zPV) (l t : Nat) (lv : XL), q ≤ n → o ≤ 5 → CN bs n q num → z + l ≤ 2 * q → t ≤ q → (∀ nm, Ev st nm z l (v nm) (dK d o)) → 10 * (n - q) + 8 ≤ F → XAt E RX0 cc nL none (lK r o) 6 (CPo bs n wh en wt st z (dK d o) o (zpsF bs n F k o q v l)) 6 ([(0, .ref 0), (1, .int (nI t))] ++ lv) [] (cW bs n wh en wt (nI (afF bs n q)) (nI (cdF bs n q)) (nI (lpF bs n q)) num (nI o) (-1) st (z + l))
abbrev C0 (F : Nat) : Prop := CA E bs n wh en wt yX0_readOne cX0_readOne 1 0 2 2 1 F
abbrev C1 (F : Nat) : Prop := CA E bs n wh en wt yX0_readTerm cX0_readTerm 2 1 3 3 2 F
abbrev C2 (F : Nat) : Prop := CL E bs n wh en wt cX0_readTerm 2 2 3 3 F
abbrev C3 (F : Nat) : Prop := CA E bs n wh en wt yX0_readSum cX0_readSum 3 3 4 4 3 F
abbrev C4 (F : Nat) : Prop := CL E bs n wh en wt cX0_readSum 3 4 4 4 F
abbrev C5 (F : Nat) : Prop := CA E bs n wh en wt yX0_readCompared cX0_readCompared 2 5 5 5 4 F
abbrev C6 (F : Nat) : Prop := CA E bs n wh en wt yX0_readNot cX0_readNot 1 6 6 5 5 F
abbrev C7 (F : Nat) : Prop := CA E bs n wh en wt yX0_readAnd cX0_readAnd 2 7 7 6 6 F
abbrev C8 (F : Nat) : Prop := CL E bs n wh en wt cX0_readAnd 2 8 7 6 F
abbrev C9 (F : Nat) : Prop := CA E bs n wh en wt yX0_readOr cX0_readOr 2 9 8 7 7 F
abbrev C10 (F : Nat) : Prop := CL E bs n wh en wt cX0_readOr 2 10 8 7 F
theorem ps_okL {F k o q : Nat} {v : zPV} {l q' : Nat} (hk : k ≤ 10) (hq : q ≤ n) (hl : lpK k = false) (e : zpsF bs n F k o q pv0 0 = .inr (v, l, q')) : q + 1 ≤ q' ∧ q' ≤ n ∧ l ≤ 2 * (q' - q) := by
  have t := ps_ok bs n F k o q pv0 0 hk hq
  rw [e] at t
  have t1 : q + (if lpK k then 0 else 1) ≤ q' := t.1
  have t3 : l ≤ (if lpK k then 0 else 0) + 2 * (q' - q) := t.2.2
  rw [hl] at t1 t3
  have t3 : l ≤ 0 + 2 * (q' - q) := t3
  exact ⟨t1, t.2.1, by omega⟩
/-- one more joined: what the loop's step leaves -/
theorem stepEv {st st' : F32} {z l m d1 d : Nat} {v w : zPV} {c : Int32} (hv : ∀ nm, Ev st nm z l (v nm) d) (hs : ∀ i, i < z + l → st' i = st i) (hw : ∀ nm, Ev st' nm (z + l) m (w nm) d1) (h7 : ¬ -7 < c) (l2 : d1 + 1 ≤ d) : ∀ nm, Ev (upd st' (z + l + m) c) nm z (l + m + 1) (f_join c (v nm) (w nm)) d := by
  intro nm
  refine Ev.bin (d1 := d) (d2 := d1) ((hv nm).congr (fun x h1 h2 => ?_)) ((hw nm).congr (fun x h1 h2 => ?_)) pk_us h7 (Nat.le_refl _) l2
  · rw [pk_un (by omega)]
    exact hs x h2
  · exact pk_un (by omega)
set_option maxRecDepth 100000 in
set_option maxHeartbeats 8000000 in
theorem s_C0 (hW : WordOk E bs n wh en wt) (hn : n ≤ 160) (F : Nat) (h0 : C0 E bs n wh en wt F) (h9 : C9 E bs n wh en wt F) : C0 E bs n wh en wt (F + 1) := by
  intro q o num st z hq ho hN hz hF
  obtain ⟨Lv, eLv⟩ : ∃ Lv, Lv = lK 2 o := ⟨_, rfl⟩
  have eL : Lv = 30 + 10 * (5 - o) + 2 := eLv
  rw [← eLv]
  have hcd := cd_lt bs n q
  have hlp := lp_in (f := bs) hq
  have CE := fun {c : Nat} (hc : c < 100) => cd_eq bs n (q := q) hc
  -- minus
  have minus : cdF bs n q = 45 → XCall E (30 + 10 * (5 - o) + 1) yX0_readMinus cX0_readMinus 1 none [.ref 0] (cW bs n wh en wt (nI (afF bs n q)) (nI (cdF bs n q)) (nI (lpF bs n q)) num (nI o) (-1) st z) (CPo bs n wh en wt st z (dK 2 o) o (zpsF bs n (F + 1) 0 o q pv0 0)) := by
    intro h45
    have hin := af_in (f := bs) hq (show ¬ cdF bs n q = 13 by omega)
    rw [ps0_m h45]
    refine XCall.of (by decide +kernel) (xle rfl) (xgo sX0_readMinus [] 100 (by omega) (XIn.same (by omega) (c_X0_opens E bs n wh en wt hW hn hq (by omega) o ho num st z (by omega)) (fun r σ' _ y => ?_)))
    rcases y with ⟨o5, rfl, hB⟩ | ⟨o5, rfl, hG⟩
    · rw [if_pos o5]
      obtain ⟨hp, a1, a2, a3, a4, a5, a6, a7, rfl⟩ := hB
      exact ⟨fun _ => ⟨rfl, hp, a1, a2, a3, a4, a5, a6, a7, rfl⟩, fun y => absurd rfl y⟩
    · rw [if_neg (by omega)]
      obtain ⟨num1, hN1, rfl⟩ := hG
      refine ⟨fun y => absurd y (by decide), fun _ => tAdd E bs n wh en wt (by omega) 0 (by omega) ?_⟩
      have ca := h0 (afF bs n q) (o + 1) num1 (upd st z 0) (z + 1) (by omega) (by omega) hN1 (by omega) (by omega)
      refine XIn.same (show lK 2 (o + 1) < 30 + 10 * (5 - o) + 1 by unfold lK; omega) ca (fun r σ' _ y => ?_)
      cases eR : zpsF bs n F 0 (o + 1) (afF bs n q) pv0 0 with
      | inl p =>
        rw [eR] at y
        obtain ⟨rfl, hp, a1, a2, a3, a4, a5, a6, a7, rfl⟩ := y
        refine tAddB E bs n wh en wt (by omega) (-12) a7 (fun st' z' hz' => ?_)
        exact ⟨rfl, hp, a1, a2, a3, a4 - 1, st', z', hz', rfl⟩
      | inr x =>
        obtain ⟨v, l, q'⟩ := x
        rw [eR] at y
        have ok := ps_okL bs n (k := 0) (by omega) (by omega) rfl eR
        obtain ⟨rfl, st1, s1, s2, num2, hN2, rfl⟩ := y
        refine tAdd E bs n wh en wt (by omega) (-12) (by omega) ?_
        have eo : nI (o + 1) - 1 = nI o := nI_pred o
        refine ⟨rfl, upd st1 (z + 1 + l) (-12), fun i hi => ?_, fun nm => ?_, num2, hN2, ?_⟩
        · rw [pk_un (by omega), s1 i (by omega), pk_un (by omega)]
        · have e0 : Ev (upd st1 (z + 1 + l) (-12)) nm z 1 (nI 0) 1 := Ev.num (by omega) (by rw [pk_un (by omega), s1 z (by omega), pk_us]; rfl) (Nat.le_refl _)
          have e1 : Ev (upd st1 (z + 1 + l) (-12)) nm (z + 1) l (v nm) (dK 2 (o + 1)) := (s2 nm).congr (fun x h1 h2 => pk_un (by omega))
          have t := Ev.bin (d := dK 2 o) e0 e1 pk_us (by decide) (by unfold dK; omega) (by unfold dK; omega)
          rw [show 1 + l + 1 = l + 2 by omega] at t
          exact t
        · show cW bs n wh en wt _ _ _ num2 (nI (o + 1) - 1) (-1) _ (z + 1 + l + 1) = _
          rw [eo, show z + 1 + l + 1 = z + (l + 2) by omega]
  -- in brackets
  have brack : cdF bs n q = 40 → XCall E (30 + 10 * (5 - o) + 1) yX0_readBracket cX0_readBracket 1 none [.ref 0] (cW bs n wh en wt (nI (afF bs n q)) (nI (cdF bs n q)) (nI (lpF bs n q)) num (nI o) (-1) st z) (CPo bs n wh en wt st z (dK 2 o) o (zpsF bs n (F + 1) 0 o q pv0 0)) := by
    intro h40
    have hin := af_in (f := bs) hq (show ¬ cdF bs n q = 13 by omega)
    rw [ps0_b h40]
    refine XCall.of (by decide +kernel) (xle rfl) (xgo sX0_readBracket [] 100 (by omega) (XIn.same (by omega) (c_X0_opens E bs n wh en wt hW hn hq (by omega) o ho num st z (by omega)) (fun r σ' _ y => ?_)))
    rcases y with ⟨o5, rfl, hB⟩ | ⟨o5, rfl, hG⟩
    · rw [if_pos o5]
      obtain ⟨hp, a1, a2, a3, a4, a5, a6, a7, rfl⟩ := hB
      exact ⟨fun _ => ⟨rfl, hp, a1, a2, a3, a4, a5, a6, a7, rfl⟩, fun y => absurd rfl y⟩
    · rw [if_neg (by omega)]
      obtain ⟨num1, hN1, rfl⟩ := hG
      have ca := h9 (afF bs n q) (o + 1) num1 st z (by omega) (by omega) hN1 (by omega) (by omega)
      refine ⟨fun y => absurd y (by decide), fun _ => XIn.same (show lK 8 (o + 1) < 30 + 10 * (5 - o) + 1 by unfold lK; omega) ca (fun r σ' _ y => ?_)⟩
      cases eR : zpsF bs n F 9 (o + 1) (afF bs n q) pv0 0 with
      | inl p =>
        rw [eR] at y
        obtain ⟨rfl, hp, a1, a2, a3, a4, a5, a6, a7, rfl⟩ := y
        refine XIn.same (by omega) (c_X0_needsB E bs n wh en wt 41 (by omega) (by omega) a1 a2 a3 a4 p hp a5 a6) (fun r σ' _ y => ?_)
        obtain ⟨rfl, rfl⟩ := y
        exact ⟨rfl, hp, a1, a2, a3, a4 - 1, a5, a6, a7, rfl⟩
      | inr x =>
        obtain ⟨v, l, q'⟩ := x
        rw [eR] at y
        have ok := ps_okL bs n (k := 9) (by omega) (by omega) rfl eR
        obtain ⟨rfl, st1, s1, s2, num2, hN2, rfl⟩ := y
        have eo : nI (o + 1) - 1 = nI o := nI_pred o
        refine XIn.same (by omega) (c_X0_needs E bs n wh en wt hW hn ok.2.1 41 (by omega) (by omega) (o + 1) num2 st1 (z + l) (by omega)) (fun r σ' _ y => ?_)
        obtain ⟨rfl, ⟨c41, num3, hN3, rfl⟩ | ⟨c41, hp, a1, a2, a3, a4, a5, a6, a7, rfl⟩⟩ := y
        · show CPo bs n wh en wt st z (dK 2 o) o (if cdF bs n q' = 41 then .inr (v, l, afF bs n q') else .inl (lpF bs n q')) none (cW bs n wh en wt _ _ _ num3 (nI (o + 1) - 1) (-1) st1 (z + l))
          rw [if_pos c41, eo]
          exact ⟨rfl, st1, s1, fun nm => (s2 nm).mono (by unfold dK; omega), num3, hN3, rfl⟩
        · show CPo bs n wh en wt st z (dK 2 o) o (if cdF bs n q' = 41 then .inr (v, l, afF bs n q') else .inl (lpF bs n q')) none (cW bs n wh en wt a1 14 a2 a3 (a4 - 1) (nI (lpF bs n q')) a5 a6)
          rw [if_neg c41]
          exact ⟨rfl, hp, a1, a2, a3, a4 - 1, a5, a6, a7, rfl⟩
  refine XCall.of (by decide +kernel) (xle rfl) (xgo sX0_readOne [] 100 (by omega) ⟨fun y12 => ⟨fun y6 => ⟨fun y45 => ⟨fun y40 => ?_, fun y40 => ?_⟩, fun y45 => ?_⟩, fun y6 => ?_⟩, fun y12 => ?_⟩)
  · have n12 : ¬ cdF bs n q = 12 := fun x => y12 ((CE (c := 12) (by omega)).mpr x)
    have n45 : ¬ cdF bs n q = 45 := fun x => y45 ((CE (c := 45) (by omega)).mpr x)
    have n40 : ¬ cdF bs n q = 40 := fun x => y40 ((CE (c := 40) (by omega)).mpr x)
    have n6 : ¬ cdF bs n q < 6 := fun x => by
      have e : f_within (nI (cdF bs n q)) 0 5 = 1 := fw_in (n := 6) (by omega) x
      have y6 : f_within (nI (cdF bs n q)) 0 5 = 0 := y6
      rw [e] at y6
      exact absurd y6 (by decide)
    rw [ps0_f n12 n6 n45 n40]
    refine XIn.same (by omega) (c_X0_fails E bs n wh en wt (nI (afF bs n q)) (nI (cdF bs n q)) (nI (lpF bs n q)) num (nI o) st z) (fun r σ' _ x => ?_)
    obtain ⟨rfl, rfl⟩ := x
    exact ⟨rfl, by omega, _, _, _, _, st, z, by omega, rfl⟩
  · refine XIn.same (by omega) (brack ((CE (by omega)).mp y40)) (fun r σ' _ x => ?_)
    have hr := x.1
    subst hr
    exact x
  · refine XIn.same (by omega) (minus ((CE (by omega)).mp y45)) (fun r σ' _ x => ?_)
    have hr := x.1
    subst hr
    exact x
  · obtain ⟨c, hc6, ec⟩ := fw_e (n := 6) (by omega) y6
    have ec : cdF bs n q = c := (CE (by omega)).mp ec
    have h6 : cdF bs n q < 6 := by omega
    have hin := af_in (f := bs) hq (show ¬ cdF bs n q = 13 by omega)
    rw [ps0_w h6]
    refine tAdd E bs n wh en wt (by omega) (-1 - nI (cdF bs n q)) (by omega) ?_
    refine XIn.same (by omega) (c_X0_nextC E bs n wh en wt hW hn hq (by omega) o (nI (cdF bs n q)) (nI (lpF bs n q)) num (upd st z (-1 - nI (cdF bs n q))) (z + 1)) (fun r σ' _ x => ?_)
    obtain ⟨rfl, num1, hN1, rfl⟩ := x
    exact ⟨rfl, upd st z (-1 - nI (cdF bs n q)), fun i hi => pk_un (by omega), fun nm => Ev.nam h6 pk_us (by unfold dK; omega), num1, hN1, rfl⟩
  · have h12 : cdF bs n q = 12 := (CE (by omega)).mp y12
    have hin := af_in (f := bs) hq (show ¬ cdF bs n q = 13 by omega)
    have enb := hN h12
    have hnb : nbF bs n q < 2147483648 := by
      unfold nbF
      rcases kd_is bs n q with ⟨k, _⟩ | ⟨k, _⟩ | ⟨k, hlt, _, hd⟩ | ⟨k, _, _, _, hs⟩ | ⟨k, _⟩
      · have := cd_0 k; omega
      · have := wc_lt bs (lpF bs n q) (leF zzLo bs n (lpF bs n q))
        rw [cd_1 k] at h12
        omega
      · have r := run_in zzDi bs n (n - lpF bs n q) (lpF bs n q) (by omega)
        have t := (nv_b bs (p := lpF bs n q) (leF zzDi bs n (lpF bs n q) - lpF bs n q) (fun i hi => zzDi_y.mp (r.2.2.1 (lpF bs n q + i) (by omega) (by
          show lpF bs n q + i < leF zzDi bs n (lpF bs n q)
          omega)))).1
        omega
      · obtain ⟨c, hc, e⟩ := sg_lt hs
        rw [cd_3 k, e, nI_clamp (by omega : c < 2147483648)] at h12
        omega
      · have := cd_4 k; omega
    rw [ps0_n h12, enb]
    refine tAdd E bs n wh en wt (by omega) (nI (nbF bs n q)) (by omega) ?_
    refine XIn.same (by omega) (c_X0_nextC E bs n wh en wt hW hn hq (by omega) o (nI (cdF bs n q)) (nI (lpF bs n q)) (nI (nbF bs n q)) (upd st z (nI (nbF bs n q))) (z + 1)) (fun r σ' _ x => ?_)
    obtain ⟨rfl, num1, hN1, rfl⟩ := x
    exact ⟨rfl, upd st z (nI (nbF bs n q)), fun i hi => pk_un (by omega), fun nm => Ev.num hnb pk_us (by unfold dK; omega), num1, hN1, rfl⟩
end CREAD
