-- ===== what a text tells, how sound one makes, how much one mends and pumps =====
section TELL
variable (E : XEnv) (S : SH) (nm : F32) (T : TX) (wt : F32)
theorem tv_any (T : TX) (e : Nat → Nat) (of : Nat) (nm wt : F32) : (rtF T.st nm (e of - sT e of) (sT e of) 0 wt).1 = tvT T e of nm := rtF_congr T.st (fun _ _ => rfl) _ _ _ _ _ (fun k hk => absurd hk (Nat.not_lt_zero _))
theorem tv_nm {T : TX} {e : Nat → Nat} {of : Nat} {nm nm' : F32} (h : ∀ j, j < 6 → nm j = nm' j) : tvT T e of nm = tvT T e of nm' := rtF_congr T.st h _ _ _ _ _ (fun k hk => absurd hk (Nat.not_lt_zero _))
set_option maxRecDepth 100000 in
set_option maxHeartbeats 4000000 in
theorem c_X3_value {e : Nat → Nat} (hT : TXok T e) (of : Nat) (hof : of < 3) : XCall E 10 yX3_value cX3_value 6 (some .int) [.ref 0, .int (nI of), .ref 4] (txW T wt nm) (fun r σ' => r = some (.int (tvT T e of nm)) ∧ ∃ wt', σ' = txW T wt' nm) := by
  obtain ⟨e0, e1, e2, l1, l2, l3⟩ := hT
  have hen : ∀ k, k < 3 → T.en k = nI (e k) ∧ e k ≤ 320 := fun k hk => by
    rcases (by omega : k = 0 ∨ k = 1 ∨ k = 2) with rfl | rfl | rfl
    · exact ⟨e0, by omega⟩
    · exact ⟨e1, by omega⟩
    · exact ⟨e2, l3⟩
  have hin : f_within (nI of) 0 (Int32.ofNat 3 - 1) = 1 := by
    rcases (by omega : of = 0 ∨ of = 1 ∨ of = 2) with rfl | rfl | rfl <;> decide +kernel
  have hle : sT e of ≤ e of := by
    rcases (by omega : of = 0 ∨ of = 1 ∨ of = 2) with rfl | rfl | rfl
    · exact Nat.zero_le _
    · exact l1
    · exact l2
  have hl := l_X3_value E T nm of (e of) hof (hen of hof).1 (hen of hof).2 (e of - sT e of) (sT e of) 0 wt (by omega) (by omega)
  rw [tv_any] at hl
  refine XCall.of (by decide +kernel) (xle rfl) (xgo sX3_value [37] 200 (xle rfl) ⟨fun _ => ⟨fun h => ?_, fun h => ?_⟩, fun h => absurd (hin.symm.trans h) (by decide)⟩)
  · cases of with
    | zero => exact absurd rfl h
    | succ k =>
      have hc : (nI k).toNatClampNeg = k := nI_clamp (by omega)
      refine ⟨by rw [nI_pred]; exact vp_in_nI (by omega) (by omega), ?_⟩
      rw [nI_pred, hc, (hen k (by omega)).1]
      exact hl
  · have h : of = 0 := (nI_eq (a := of) (b := 0) (by omega) (by omega)).mp h
    subst h
    exact hl
/-- what the names stand for -/
def nmF (S : SH) (one : Nat) (so pa : Int32) : F32 := fun j => match j with
  | 0 => S.sk one
  | 1 => so
  | 2 => S.nu one
  | 3 => S.dy
  | 4 => S.wa
  | 5 => pa
  | _ => 0
def nm6 (nm : F32) (a b c d e f : Int32) : F32 := upd (upd (upd (upd (upd (upd nm 0 a) 1 b) 2 c) 3 d) 4 e) 5 f
theorem nm6_at (S : SH) (one : Nat) (nm : F32) (so pa : Int32) : ∀ j, j < 6 → nm6 nm (S.sk one) so (S.nu one) S.dy S.wa pa j = nmF S one so pa j := by
  intro j hj
  rcases (by omega : j = 0 ∨ j = 1 ∨ j = 2 ∨ j = 3 ∨ j = 4 ∨ j = 5) with rfl | rfl | rfl | rfl | rfl | rfl <;> rfl
set_option maxRecDepth 100000 in
set_option maxHeartbeats 4000000 in
theorem c_X2_telling {e : Nat → Nat} (hT : TXok T e) (hn : S.n ≤ 5) (of one k : Nat) (hof : of < 3) (h1 : one < S.n) (hk : k < 10) : XCall E 11 yX2_telling cX2_telling 5 (some .int) [.ref 0, .int (nI of), .int (nI one), .int (nI k)] (shW S nm T wt) (fun r σ' => r = some (.int (f_bound (tvT T e of (nmF S one (S.so k) (nI k))))) ∧ ∃ nm' wt', σ' = shW S nm' T wt') := by
  have hc : (nI k).toNatClampNeg = k := nI_clamp (by omega)
  have h1c : (nI one).toNatClampNeg = one := nI_clamp (by omega)
  have hin : ¬ f_isPart (nI k) = 0 := by
    unfold f_isPart f_within
    rw [if_neg (nI_pos (by omega)), if_neg (show ¬ (9 : Int32) < nI k from nI_nlt (a := 9) (b := k) (by omega) (by omega))]
    decide
  refine XCall.of (by decide +kernel) (xle rfl) (xgo sX2_telling [] 200 (xle rfl) ⟨vp_in_nI (by omega) (by omega), vp_in_nI (n := 0) (by omega) (by omega), fun h => absurd h hin, fun _ => ⟨vp_in_nI (by omega) (by omega), vp_in_nI (n := 1) (by omega) (by omega), vp_in_nI (by omega) (by omega), vp_in_nI (n := 2) (by omega) (by omega), vp_in_nI (n := 3) (by omega) (by omega), vp_in_nI (n := 4) (by omega) (by omega), fun h => absurd h hin, fun _ => ⟨vp_in_nI (n := 5) (by omega) (by omega), ?_⟩⟩⟩)
  rw [hc, h1c]
  refine XIn.sub [8, 9, 10, 11, 7] (xle rfl) (c_X3_value E (nm6 nm (S.sk one) (S.so k) (S.nu one) S.dy S.wa (nI k)) T wt hT of hof) (by decide) (by decide) rfl rfl (fun r σ' _ h => ?_)
  obtain ⟨rfl, wt', rfl⟩ := h
  rw [tv_nm (nm6_at S one nm (S.so k) (nI k))]
  exact ⟨rfl, _, _, rfl⟩
set_option maxRecDepth 100000 in
set_option maxHeartbeats 4000000 in
theorem c_X2_tellingN {e : Nat → Nat} (hT : TXok T e) (hn : S.n ≤ 5) (of one : Nat) (hof : of < 3) (h1 : one < S.n) : XCall E 11 yX2_telling cX2_telling 5 (some .int) [.ref 0, .int (nI of), .int (nI one), .int (-1)] (shW S nm T wt) (fun r σ' => r = some (.int (f_bound (tvT T e of (nmF S one 0 0)))) ∧ ∃ nm' wt', σ' = shW S nm' T wt') := by
  have h1c : (nI one).toNatClampNeg = one := nI_clamp (by omega)
  have hin : f_isPart (-1) = 0 := by decide +kernel
  refine XCall.of (by decide +kernel) (xle rfl) (xgo sX2_telling [] 200 (xle rfl) ⟨vp_in_nI (by omega) (by omega), vp_in_nI (n := 0) (by omega) (by omega), fun _ => ⟨vp_in_nI (n := 1) (by omega) (by omega), vp_in_nI (by omega) (by omega), vp_in_nI (n := 2) (by omega) (by omega), vp_in_nI (n := 3) (by omega) (by omega), vp_in_nI (n := 4) (by omega) (by omega), fun _ => ⟨vp_in_nI (n := 5) (by omega) (by omega), ?_⟩, fun h => absurd hin h⟩, fun h => absurd hin h⟩)
  rw [h1c]
  refine XIn.sub [8, 9, 10, 11, 7] (xle rfl) (c_X3_value E (nm6 nm (S.sk one) 0 (S.nu one) S.dy S.wa 0) T wt hT of hof) (by decide) (by decide) rfl rfl (fun r σ' _ h => ?_)
  obtain ⟨rfl, wt', rfl⟩ := h
  rw [tv_nm (nm6_at S one nm 0 0)]
  exact ⟨rfl, _, _, rfl⟩
/-- a rule: what it tells of makes, mends, pumps, by the names -/
abbrev TV : Type := Nat → F32 → Int32
def othF (S : SH) (one k : Nat) : Int32 := f_bits (whoF S.ma (nI one) 10 &&& (((1 : Int32) <<< (nI k &&& 31)) ^^^ (-1)))
def makesF (tv : TV) (S : SH) (one k : Nat) : Int32 :=
  if S.ki one = 1 then f_bound (if f_isUnder (nI k) = 0 then f_bound (tv 0 (nmF S one (S.so k) (nI k))) else f_bound (tv 0 (nmF S one (S.so k) (nI k))) + S.nu one)
  else if S.ki one = 2 then f_bound (if othF S one k = 0 then f_bound (tv 0 (nmF S one (S.so k) (nI k))) / 2 else f_bound (tv 0 (nmF S one (S.so k) (nI k))))
  else if S.ki one = 3 then f_bound ((if f_isUnder (nI k) = 0 then f_bound (tv 0 (nmF S one (S.so k) (nI k))) else f_bound (tv 0 (nmF S one (S.so k) (nI k))) + S.nu one) + othF S one k)
  else if S.ki one = 4 then f_bound ((if othF S one k = 0 then f_bound (tv 0 (nmF S one (S.so k) (nI k))) / 2 else f_bound (tv 0 (nmF S one (S.so k) (nI k)))) + 10)
  else if S.ki one = 5 then (if f_isUnder (nI k) = 0 then 99 else 0)
  else f_bound (f_bound (tv 0 (nmF S one (S.so k) (nI k))))
def mendsF (tv : TV) (S : SH) (one k : Nat) : Int32 :=
  if S.ki one = 1 then f_bound (if f_isUnder (nI k) = 0 then f_bound (tv 1 (nmF S one (S.so k) (nI k))) else f_bound (tv 1 (nmF S one (S.so k) (nI k))) * 2)
  else if S.ki one = 2 then f_bound (f_bound (tv 1 (nmF S one (S.so k) (nI k))))
  else if S.ki one = 3 then f_bound ((if f_isUnder (nI k) = 0 then f_bound (tv 1 (nmF S one (S.so k) (nI k))) else f_bound (tv 1 (nmF S one (S.so k) (nI k))) * 2) + 1)
  else if S.ki one = 4 then (if S.so k < 50 then f_bound (f_bound (tv 1 (nmF S one (S.so k) (nI k)))) else 0)
  else if S.ki one = 5 then 0
  else f_bound (f_bound (tv 1 (nmF S one (S.so k) (nI k))))
def abrF (S : SH) (one : Nat) : Int32 := f_bits (whoF S.pl 1 S.n &&& (((1 : Int32) <<< (nI one &&& 31)) ^^^ (-1)))
def pumpsF (tv : TV) (S : SH) (one : Nat) : Int32 :=
  if S.ki one = 1 then f_bound (f_bound (tv 2 (nmF S one 0 0)) / 2)
  else if S.ki one = 2 then f_bound (f_bound (tv 2 (nmF S one 0 0)) + abrF S one)
  else if S.ki one = 3 then f_bound (f_bound (tv 2 (nmF S one 0 0)) / 2)
  else if S.ki one = 4 then (if S.wa < 30 then 0 else f_bound (f_bound (tv 2 (nmF S one 0 0)) + abrF S one))
  else if S.ki one = 5 then S.nu one
  else f_bound (f_bound (tv 2 (nmF S one 0 0)))
set_option maxRecDepth 100000 in
set_option maxHeartbeats 4000000 in
theorem c_X2_makes {e : Nat → Nat} (hT : TXok T e) (hn : S.n ≤ 5) (one k : Nat) (h1 : one < S.n) (hk : k < 10) : XCall E 12 yX2_makes cX2_makes 7 (some .int) [.ref 0, .int (nI one), .int (nI k)] (shW S nm T wt) (fun r σ' => r = some (.int (makesF (tvT T e) S one k)) ∧ ∃ nm' wt', σ' = shW S nm' T wt') := by
  have h1c : (nI one).toNatClampNeg = one := nI_clamp (by omega)
  refine XCall.of (by decide +kernel) (xle rfl) (xgo sX2_makes [59] 200 (xle rfl) (XIn.same (xle rfl) (c_X2_telling E S nm T wt hT hn 0 one k (by omega) h1 hk) (fun r σ' _ h => ?_)))
  obtain ⟨rfl, nm', wt', rfl⟩ := h
  refine XIn.same (xle rfl) (c_X2_madeBy E S nm' T wt' (nI one)) (fun r σ' _ h => ?_)
  obtain ⟨rfl, rfl⟩ := h
  have tail : ∀ (ca br : Int32), ca = (if f_isUnder (nI k) = 0 then f_bound (tvT T e 0 (nmF S one (S.so k) (nI k))) else f_bound (tvT T e 0 (nmF S one (S.so k) (nI k))) + S.nu one) → br = (if othF S one k = 0 then f_bound (tvT T e 0 (nmF S one (S.so k) (nI k))) / 2 else f_bound (tvT T e 0 (nmF S one (S.so k) (nI k)))) → XAt E RX2 cX2_makes 7 (some .int) 12 12 (fun r σ' => r = some (.int (makesF (tvT T e) S one k)) ∧ ∃ nm' wt', σ' = shW S nm' T wt') 59 [(0, .ref 0), (1, .int (nI one)), (2, .int (nI k)), (3, .int (f_bound (tvT T e 0 (nmF S one (S.so k) (nI k))))), (4, .int (othF S one k)), (5, .int ca), (6, .int br)] [] (shW S nm' T wt') := by
    intro ca br hca hbr
    refine xgo sX2_makes [] 200 (xle rfl) ⟨vp_in_nI (by omega) (by omega), ?_⟩
    rw [h1c]
    unfold makesF
    rw [← hca, ← hbr]
    refine ⟨fun h => ⟨?_, _, _, rfl⟩, fun n1 => ⟨fun h => ⟨?_, _, _, rfl⟩, fun n2 => ⟨fun h => ⟨?_, _, _, rfl⟩, fun n3 => ⟨fun h => ⟨?_, _, _, rfl⟩, fun n4 => ⟨fun h => ⟨fun h2 => ⟨?_, _, _, rfl⟩, fun h2 => ⟨?_, _, _, rfl⟩⟩, fun n5 => ⟨?_, _, _, rfl⟩⟩⟩⟩⟩⟩
    · rw [if_pos h]
    · rw [if_neg n1, if_pos h]
    · rw [if_neg n1, if_neg n2, if_pos h]
    · rw [if_neg n1, if_neg n2, if_neg n3, if_pos h]
    · rw [if_neg n1, if_neg n2, if_neg n3, if_neg n4, if_pos h, if_pos h2]
    · rw [if_neg n1, if_neg n2, if_neg n3, if_neg n4, if_pos h, if_neg h2]
    · rw [if_neg n1, if_neg n2, if_neg n3, if_neg n4, if_neg n5]
  refine ⟨fun hu => ⟨fun ho => tail _ _ (by rw [if_pos hu]) (if_neg ho).symm, fun ho => ⟨by decide, tail _ _ (by rw [if_pos hu]) (if_pos ho).symm⟩⟩, fun hu => ⟨vp_in_nI (by omega) (by omega), ?_⟩⟩
  rw [h1c]
  exact ⟨fun ho => tail _ _ (by rw [if_neg hu]) (if_neg ho).symm, fun ho => ⟨by decide, tail _ _ (by rw [if_neg hu]) (if_pos ho).symm⟩⟩
set_option maxRecDepth 100000 in
set_option maxHeartbeats 4000000 in
theorem c_X2_mends {e : Nat → Nat} (hT : TXok T e) (hn : S.n ≤ 5) (one k : Nat) (h1 : one < S.n) (hk : k < 10) : XCall E 12 yX2_mends cX2_mends 5 (some .int) [.ref 0, .int (nI one), .int (nI k)] (shW S nm T wt) (fun r σ' => r = some (.int (mendsF (tvT T e) S one k)) ∧ ∃ nm' wt', σ' = shW S nm' T wt') := by
  have h1c : (nI one).toNatClampNeg = one := nI_clamp (by omega)
  have hkc : (nI k).toNatClampNeg = k := nI_clamp (by omega)
  refine XCall.of (by decide +kernel) (xle rfl) (xgo sX2_mends [24] 200 (xle rfl) (XIn.same (xle rfl) (c_X2_telling E S nm T wt hT hn 1 one k (by omega) h1 hk) (fun r σ' _ h => ?_)))
  obtain ⟨rfl, nm', wt', rfl⟩ := h
  have tail : ∀ (ca : Int32), ca = (if f_isUnder (nI k) = 0 then f_bound (tvT T e 1 (nmF S one (S.so k) (nI k))) else f_bound (tvT T e 1 (nmF S one (S.so k) (nI k))) * 2) → XAt E RX2 cX2_mends 5 (some .int) 12 12 (fun r σ' => r = some (.int (mendsF (tvT T e) S one k)) ∧ ∃ nm' wt', σ' = shW S nm' T wt') 24 [(0, .ref 0), (1, .int (nI one)), (2, .int (nI k)), (3, .int (f_bound (tvT T e 1 (nmF S one (S.so k) (nI k))))), (4, .int ca)] [] (shW S nm' T wt') := by
    intro ca hca
    refine xgo sX2_mends [] 200 (xle rfl) ⟨vp_in_nI (by omega) (by omega), ?_⟩
    rw [h1c]
    unfold mendsF
    rw [← hca]
    refine ⟨fun h => ⟨?_, _, _, rfl⟩, fun n1 => ⟨fun h => ⟨?_, _, _, rfl⟩, fun n2 => ⟨fun h => ⟨?_, _, _, rfl⟩, fun n3 => ⟨fun h => ⟨vp_in_nI (by omega) (by omega), ?_⟩, fun n4 => ⟨fun h => ⟨?_, _, _, rfl⟩, fun n5 => ⟨?_, _, _, rfl⟩⟩⟩⟩⟩⟩
    · rw [if_pos h]
    · rw [if_neg n1, if_pos h]
    · rw [if_neg n1, if_neg n2, if_pos h]
    · rw [hkc]
      refine ⟨fun h2 => ⟨?_, _, _, rfl⟩, fun h2 => ⟨?_, _, _, rfl⟩⟩
      · rw [if_neg n1, if_neg n2, if_neg n3, if_pos h, if_pos h2]
      · rw [if_neg n1, if_neg n2, if_neg n3, if_pos h, if_neg h2]
    · rw [if_neg n1, if_neg n2, if_neg n3, if_neg n4, if_pos h]
    · rw [if_neg n1, if_neg n2, if_neg n3, if_neg n4, if_neg n5]
  exact ⟨fun hu => tail _ (by rw [if_pos hu]), fun hu => tail _ (by rw [if_neg hu])⟩
set_option maxRecDepth 100000 in
set_option maxHeartbeats 4000000 in
theorem c_X2_pumps {e : Nat → Nat} (hT : TXok T e) (hn : S.n ≤ 5) (one : Nat) (h1 : one < S.n) : XCall E 12 yX2_pumps cX2_pumps 4 (some .int) [.ref 0, .int (nI one)] (shW S nm T wt) (fun r σ' => r = some (.int (pumpsF (tvT T e) S one)) ∧ ∃ nm' wt', σ' = shW S nm' T wt') := by
  have h1c : (nI one).toNatClampNeg = one := nI_clamp (by omega)
  refine XCall.of (by decide +kernel) (xle rfl) (xgo sX2_pumps [] 200 (xle rfl) (XIn.same (xle rfl) (c_X2_tellingN E S nm T wt hT hn 2 one (by omega) h1) (fun r σ' _ h => ?_)))
  obtain ⟨rfl, nm', wt', rfl⟩ := h
  refine XIn.same (xle rfl) (c_X2_who E S nm' T wt' 1 hn) (fun r σ' _ h => ?_)
  obtain ⟨rfl, rfl⟩ := h
  refine ⟨vp_in_nI (by omega) (by omega), ?_⟩
  rw [h1c]
  unfold pumpsF
  refine ⟨fun h => ⟨by decide, ?_, _, _, rfl⟩, fun n1 => ⟨fun h => ⟨?_, _, _, rfl⟩, fun n2 => ⟨fun h => ⟨by decide, ?_, _, _, rfl⟩, fun n3 => ⟨fun h => ⟨fun h2 => ⟨?_, _, _, rfl⟩, fun h2 => ⟨?_, _, _, rfl⟩⟩, fun n4 => ⟨fun h => ⟨vp_in_nI (by omega) (by omega), ?_⟩, fun n5 => ⟨?_, _, _, rfl⟩⟩⟩⟩⟩⟩
  · rw [if_pos h]
  · rw [if_neg n1, if_pos h]; rfl
  · rw [if_neg n1, if_neg n2, if_pos h]
  · rw [if_neg n1, if_neg n2, if_neg n3, if_pos h, if_pos h2]
  · rw [if_neg n1, if_neg n2, if_neg n3, if_pos h, if_neg h2]; rfl
  · rw [if_neg n1, if_neg n2, if_neg n3, if_neg n4, if_pos h, h1c]
    exact ⟨rfl, _, _, rfl⟩
  · rw [if_neg n1, if_neg n2, if_neg n3, if_neg n4, if_neg n5]
def buildF (tv : TV) (S : SH) (one k : Nat) : SH := (S.setSo (upd S.so k (makesF tv S one k))).setMa (upd S.ma k (nI one))
set_option maxRecDepth 100000 in
set_option maxHeartbeats 4000000 in
theorem c_X2_build {e : Nat → Nat} (hT : TXok T e) (hn : S.n ≤ 5) (one k : Nat) (h1 : one < S.n) (hk : k < 10) : XCall E 13 yX2_build cX2_build 3 none [.ref 0, .int (nI one), .int (nI k)] (shW S nm T wt) (fun r σ' => r = none ∧ ∃ nm' wt', σ' = shW (buildF (tvT T e) S one k) nm' T wt') := by
  have hkc : (nI k).toNatClampNeg = k := nI_clamp (by omega)
  refine XCall.of (by decide +kernel) (xle rfl) (xgo sX2_build [] 200 (xle rfl) (XIn.same (xle rfl) (c_X2_makes E S nm T wt hT hn one k h1 hk) (fun r σ' _ h => ?_)))
  obtain ⟨rfl, nm', wt', rfl⟩ := h
  refine ⟨vp_in_nI (by omega) (by omega), vp_in_nI (by omega) (by omega), ?_⟩
  rw [hkc]
  exact ⟨rfl, _, _, rfl⟩
def bindF (S : SH) : Nat → F32
  | 0 => S.pl
  | k + 1 => if S.pl k = 0 ∧ ¬ whoF S.ma (nI k) 10 = 0 then upd (bindF S k) k 1 else bindF S k
theorem bindF_ge (S : SH) : ∀ (k j : Nat), k ≤ j → bindF S k j = S.pl j
  | 0, _, _ => rfl
  | k + 1, j, h => by
    unfold bindF
    have ih := bindF_ge S k j (by omega)
    split
    · unfold upd
      rw [if_neg (by omega)]
      exact ih
    · exact ih
theorem bindF_y {S : SH} {k : Nat} (h : S.pl k = 0) (h2 : ¬ whoF S.ma (nI k) 10 = 0) : bindF S (k + 1) = upd (bindF S k) k 1 := by rw [bindF, if_pos ⟨h, h2⟩]
theorem bindF_n {S : SH} {k : Nat} (h : ¬ (S.pl k = 0 ∧ ¬ whoF S.ma (nI k) 10 = 0)) : bindF S (k + 1) = bindF S k := by rw [bindF, if_neg h]
set_option maxRecDepth 100000 in
set_option maxHeartbeats 4000000 in
theorem l_X2_bind (hn : S.n ≤ 5) : ∀ (j k : Nat), k + j = S.n → XAt E RX2 cX2_bind 2 none 11 12 (fun r σ' => r = none ∧ σ' = shW (S.setPl (bindF S S.n)) nm T wt) 2 [(0, .ref 0), (1, .int (nI k))] [] (shW (S.setPl (bindF S k)) nm T wt)
  | 0, k, hk => by
    obtain rfl : k = S.n := by omega
    exact xgo sX2_bind [2] 60 (xle rfl) ⟨fun _ => ⟨rfl, rfl⟩, fun h => absurd (nI_le (a := S.n) (b := S.n) (Nat.le_refl _) (by omega)) h⟩
  | j + 1, k, hk => by
    have ih := l_X2_bind hn j (k + 1) (by omega)
    have hc : (nI k).toNatClampNeg = k := nI_clamp (by omega)
    have hp := bindF_ge S k k (Nat.le_refl _)
    refine xgo sX2_bind [2] 60 (xle rfl) ⟨fun h => absurd h (nI_ge (b := S.n) (by omega) (by omega)), fun _ => ⟨vp_in_nI (by omega) (by omega), fun h => ?_, fun h => ?_⟩⟩
    · rw [hc] at h
      have h : ¬ S.pl k = 0 := fun z => h (hp.trans z)
      rw [nI_succ, bindF_n (fun z => h z.1)] at ih
      exact ih
    · rw [hc] at h
      have h : S.pl k = 0 := hp.symm.trans h
      refine XIn.same (xle rfl) (c_X2_madeBy E (S.setPl (bindF S k)) nm T wt (nI k)) (fun r σ' _ h2 => ?_)
      obtain ⟨rfl, rfl⟩ := h2
      refine ⟨fun h2 => ?_, fun h2 => ⟨vp_in_nI (by omega) (by omega), ?_⟩⟩
      · rw [nI_succ, bindF_n (S := S) (k := k) (fun z => z.2 h2)] at ih
        exact ih
      · rw [nI_succ, bindF_y h h2] at ih
        rw [hc]
        exact ih
theorem c_X2_bind (hn : S.n ≤ 5) : XCall E 11 yX2_bind cX2_bind 2 none [.ref 0] (shW S nm T wt) (fun r σ' => r = none ∧ σ' = shW (S.setPl (bindF S S.n)) nm T wt) :=
  XCall.of (by decide +kernel) (xle rfl) (xgo sX2_bind [2] 60 (xle rfl) (l_X2_bind E S nm T wt hn S.n 0 (Nat.zero_add _)))
end TELL
