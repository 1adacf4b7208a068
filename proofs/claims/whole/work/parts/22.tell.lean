-- ===== what a text tells, how sound one makes, how much one mends and pumps =====
section TELL
variable (E : XEnv) (S : SH) (nm : F32) (T : TX) (wt : F32)
theorem tv_any (T : TX) (e : Nat → Nat) (of : Nat) (nm wt : F32) : (rtF T.st nm (e of - sT e of) (sT e of) 0 wt).1 = tvT T e of nm := rtF_congr T.st (fun _ _ => rfl) _ _ _ _ _ (fun k hk => absurd hk (Nat.not_lt_zero _))
theorem tv_nm {T : TX} {e : Nat → Nat} {of : Nat} {nm nm' : F32} (h : ∀ j, j < 6 → nm j = nm' j) : tvT T e of nm = tvT T e of nm' := rtF_congr T.st h _ _ _ _ _ (fun k hk => absurd hk (Nat.not_lt_zero _))
set_option maxRecDepth 100000 in
set_option maxHeartbeats 4000000 in
theorem c_X3_value {e : Nat → Nat} (hT : TXok T e) (of : Nat) (hof : of < 3) : XCall E 10 yX3_value cX3_value 6 (some .int) [.ref 0, .int (nI of), .ref 4] (txW T wt nm) (fun r σ' => r = some (.int (tvT T e of nm)) ∧ ∃ wt', σ' = txW T wt' nm) := by
  obtain ⟨e0, e1, e2, l1, l2, l3⟩ := hT
  have hen : ∀ k, k < 3 → T.en k = nI (e k) ∧ e k ≤ 320 := fun k hk => by
    rcases (by omega : k = 0 ∨ k = 1 ∨ k = 2) with rfl | rfl | rfl
    · exact ⟨e0, by omega⟩
    · exact ⟨e1, by omega⟩
    · exact ⟨e2, l3⟩
  have hin : f_within (nI of) 0 (Int32.ofNat 3 - 1) = 1 := by
    rcases (by omega : of = 0 ∨ of = 1 ∨ of = 2) with rfl | rfl | rfl <;> decide +kernel
  have hle : sT e of ≤ e of := by
    rcases (by omega : of = 0 ∨ of = 1 ∨ of = 2) with rfl | rfl | rfl
    · exact Nat.zero_le _
    · exact l1
    · exact l2
  have hl := l_X3_value E T nm of (e of) hof (hen of hof).1 (hen of hof).2 (e of - sT e of) (sT e of) 0 wt (by omega) (by omega)
  rw [tv_any] at hl
  refine XCall.of (by decide +kernel) (xle rfl) (xgo sX3_value [37] 200 (xle rfl) ⟨fun _ => ⟨fun h => ?_, fun h => ?_⟩, fun h => absurd (hin.symm.trans h) (by decide)⟩)
  · cases of with
    | zero => exact absurd rfl h
    | succ k =>
      have hc : (nI k).toNatClampNeg = k := nI_clamp (by omega)
      refine ⟨by rw [nI_pred]; exact vp_in_nI (by omega) (by omega), ?_⟩
      rw [nI_pred, hc, (hen k (by omega)).1]
      exact hl
  · have h : of = 0 := (nI_eq (a := of) (b := 0) (by omega) (by omega)).mp h
    subst h
    exact hl
/-- what the names stand for -/
def nmF (S : SH) (one : Nat) (so pa : Int32) : F32 := fun j => match j with
  | 0 => S.sk one
  | 1 => so
  | 2 => S.nu one
  | 3 => S.dy
  | 4 => S.wa
  | 5 => pa
  | _ => 0
def nm6 (nm : F32) (a b c d e f : Int32) : F32 := upd (upd (upd (upd (upd (upd nm 0 a) 1 b) 2 c) 3 d) 4 e) 5 f
theorem nm6_at (S : SH) (one : Nat) (nm : F32) (so pa : Int32) : ∀ j, j < 6 → nm6 nm (S.sk one) so (S.nu one) S.dy S.wa pa j = nmF S one so pa j := by
  intro j hj
  rcases (by omega : j = 0 ∨ j = 1 ∨ j = 2 ∨ j = 3 ∨ j = 4 ∨ j = 5) with rfl | rfl | rfl | rfl | rfl | rfl <;> rfl
set_option maxRecDepth 100000 in
set_option maxHeartbeats 4000000 in
theorem c_X2_telling {e : Nat → Nat} (hT : TXok T e) (hn : S.n ≤ 5) (of one k : Nat) (hof : of < 3) (h1 : one < S.n) (hk : k < 10) : XCall E 11 yX2_telling cX2_telling 5 (some .int) [.ref 0, .int (nI of), .int (nI one), .int (nI k)] (shW S nm T wt) (fun r σ' => r = some (.int (f_bound (tvT T e of (nmF S one (S.so k) (nI k))))) ∧ ∃ nm' wt', σ' = shW S nm' T wt') := by
  have hc : (nI k).toNatClampNeg = k := nI_clamp (by omega)
  have h1c : (nI one).toNatClampNeg = one := nI_clamp (by omega)
  have hin : ¬ f_isPart (nI k) = 0 := by
    unfold f_isPart f_within
    rw [if_neg (nI_pos (by omega)), if_neg (nI_nlt (a := 9) (b := k) (by omega) (by omega))]
    decide
  refine XCall.of (by decide +kernel) (xle rfl) (xgo sX2_telling [] 200 (xle rfl) ⟨vp_in_nI (by omega) (by omega), vp_in_nI (n := 0) (by omega) (by omega), fun h => absurd h hin, fun _ => ⟨vp_in_nI (by omega) (by omega), vp_in_nI (n := 1) (by omega) (by omega), vp_in_nI (by omega) (by omega), vp_in_nI (n := 2) (by omega) (by omega), vp_in_nI (n := 3) (by omega) (by omega), vp_in_nI (n := 4) (by omega) (by omega), fun h => absurd h hin, fun _ => ⟨vp_in_nI (n := 5) (by omega) (by omega), ?_⟩⟩⟩)
  rw [hc, h1c]
  refine XIn.sub [8, 9, 10, 11, 7] (xle rfl) (c_X3_value E (nm6 nm (S.sk one) (S.so k) (S.nu one) S.dy S.wa (nI k)) T wt hT of hof) (by decide) (by decide) rfl rfl (fun r σ' _ h => ?_)
  obtain ⟨rfl, wt', rfl⟩ := h
  rw [tv_nm (nm6_at S one nm (S.so k) (nI k))]
  exact ⟨rfl, _, _, rfl⟩
set_option maxRecDepth 100000 in
set_option maxHeartbeats 4000000 in
theorem c_X2_tellingN {e : Nat → Nat} (hT : TXok T e) (hn : S.n ≤ 5) (of one : Nat) (hof : of < 3) (h1 : one < S.n) : XCall E 11 yX2_telling cX2_telling 5 (some .int) [.ref 0, .int (nI of), .int (nI one), .int (-1)] (shW S nm T wt) (fun r σ' => r = some (.int (f_bound (tvT T e of (nmF S one 0 0)))) ∧ ∃ nm' wt', σ' = shW S nm' T wt') := by
  have h1c : (nI one).toNatClampNeg = one := nI_clamp (by omega)
  have hin : f_isPart (-1) = 0 := by decide +kernel
  refine XCall.of (by decide +kernel) (xle rfl) (xgo sX2_telling [] 200 (xle rfl) ⟨vp_in_nI (by omega) (by omega), vp_in_nI (n := 0) (by omega) (by omega), fun _ => ⟨vp_in_nI (n := 1) (by omega) (by omega), vp_in_nI (by omega) (by omega), vp_in_nI (n := 2) (by omega) (by omega), vp_in_nI (n := 3) (by omega) (by omega), vp_in_nI (n := 4) (by omega) (by omega), fun _ => ⟨vp_in_nI (n := 5) (by omega) (by omega), ?_⟩, fun h => absurd hin h⟩, fun h => absurd hin h⟩)
  rw [h1c]
  refine XIn.sub [8, 9, 10, 11, 7] (xle rfl) (c_X3_value E (nm6 nm (S.sk one) 0 (S.nu one) S.dy S.wa 0) T wt hT of hof) (by decide) (by decide) rfl rfl (fun r σ' _ h => ?_)
  obtain ⟨rfl, wt', rfl⟩ := h
  rw [tv_nm (nm6_at S one nm 0 0)]
  exact ⟨rfl, _, _, rfl⟩
/-- a rule: what it tells of makes, mends, pumps, by the names -/
abbrev TV : Type := Nat → F32 → Int32
def othF (S : SH) (one k : Nat) : Int32 := f_bits (whoF S.ma (nI one) 10 &&& (((1 : Int32) <<< (nI k &&& 31)) ^^^ (-1)))
def makesF (tv : TV) (S : SH) (one k : Nat) : Int32 :=
  if S.ki one = 1 then f_bound (if f_isUnder (nI k) = 0 then f_bound (tv 0 (nmF S one (S.so k) (nI k))) else f_bound (tv 0 (nmF S one (S.so k) (nI k))) + S.nu one)
  else if S.ki one = 2 then f_bound (if othF S one k = 0 then f_bound (tv 0 (nmF S one (S.so k) (nI k))) / 2 else f_bound (tv 0 (nmF S one (S.so k) (nI k))))
  else if S.ki one = 3 then f_bound ((if f_isUnder (nI k) = 0 then f_bound (tv 0 (nmF S one (S.so k) (nI k))) else f_bound (tv 0 (nmF S one (S.so k) (nI k))) + S.nu one) + othF S one k)
  else if S.ki one = 4 then f_bound ((if othF S one k = 0 then f_bound (tv 0 (nmF S one (S.so k) (nI k))) / 2 else f_bound (tv 0 (nmF S one (S.so k) (nI k)))) + 10)
  else if S.ki one = 5 then (if f_isUnder (nI k) = 0 then 99 else 0)
  else f_bound (f_bound (tv 0 (nmF S one (S.so k) (nI k))))
def mendsF (tv : TV) (S : SH) (one k : Nat) : Int32 :=
  if S.ki one = 1 then f_bound (if f_isUnder (nI k) = 0 then f_bound (tv 1 (nmF S one (S.so k) (nI k))) else f_bound (tv 1 (nmF S one (S.so k) (nI k))) * 2)
  else if S.ki one = 2 then f_bound (f_bound (tv 1 (nmF S one (S.so k) (nI k))))
  else if S.ki one = 3 then f_bound ((if f_isUnder (nI k) = 0 then f_bound (tv 1 (nmF S one (S.so k) (nI k))) else f_bound (tv 1 (nmF S one (S.so k) (nI k))) * 2) + 1)
  else if S.ki one = 4 then (if S.so k < 50 then f_bound (f_bound (tv 1 (nmF S one (S.so k) (nI k)))) else 0)
  else if S.ki one = 5 then 0
  else f_bound (f_bound (tv 1 (nmF S one (S.so k) (nI k))))
def abrF (S : SH) (one : Nat) : Int32 := f_bits (whoF S.pl 1 S.n &&& (((1 : Int32) <<< (nI one &&& 31)) ^^^ (-1)))
def pumpsF (tv : TV) (S : SH) (one : Nat) : Int32 :=
  if S.ki one = 1 then f_bound (f_bound (tv 2 (nmF S one 0 0)) / 2)
  else if S.ki one = 2 then f_bound (f_bound (tv 2 (nmF S one 0 0)) + abrF S one)
  else if S.ki one = 3 then f_bound (f_bound (tv 2 (nmF S one 0 0)) / 2)
  else if S.ki one = 4 then (if S.wa < 30 then 0 else f_bound (f_bound (tv 2 (nmF S one 0 0)) + abrF S one))
  else if S.ki one = 5 then S.nu one
  else f_bound (f_bound (tv 2 (nmF S one 0 0)))
set_option maxRecDepth 100000 in
set_option maxHeartbeats 4000000 in
theorem c_X2_makes {e : Nat → Nat} (hT : TXok T e) (hn : S.n ≤ 5) (one k : Nat) (h1 : one < S.n) (hk : k < 10) : XCall E 12 yX2_makes cX2_makes 7 (some .int) [.ref 0, .int (nI one), .int (nI k)] (shW S nm T wt) (fun r σ' => r = some (.int (makesF (tvT T e) S one k)) ∧ ∃ nm' wt', σ' = shW S nm' T wt') := by
  have h1c : (nI one).toNatClampNeg = one := nI_clamp (by omega)
  refine XCall.of (by decide +kernel) (xle rfl) (xgo sX2_makes [] 200 (xle rfl) (XIn.same (xle rfl) (c_X2_telling E S nm T wt hT hn 0 one k (by omega) h1 hk) (fun r σ' _ h => ?_)))
  obtain ⟨rfl, nm', wt', rfl⟩ := h
  refine XIn.same (xle rfl) (c_X2_madeBy E S nm' T wt' (nI one)) (fun r σ' _ h => ?_)
  obtain ⟨rfl, rfl⟩ := h
  have tail : ∀ (ca br : Int32), ca = (if f_isUnder (nI k) = 0 then f_bound (tvT T e 0 (nmF S one (S.so k) (nI k))) else f_bound (tvT T e 0 (nmF S one (S.so k) (nI k))) + S.nu one) → br = (if othF S one k = 0 then f_bound (tvT T e 0 (nmF S one (S.so k) (nI k))) / 2 else f_bound (tvT T e 0 (nmF S one (S.so k) (nI k)))) → XAt E RX2 cX2_makes 7 (some .int) 12 12 (fun r σ' => r = some (.int (makesF (tvT T e) S one k)) ∧ ∃ nm' wt', σ' = shW S nm' T wt') 59 [(0, .ref 0), (1, .int (nI one)), (2, .int (nI k)), (3, .int (f_bound (tvT T e 0 (nmF S one (S.so k) (nI k))))), (4, .int (othF S one k)), (5, .int ca), (6, .int br)] [] (shW S nm' T wt') := by
    intro ca br hca hbr
    refine xgo sX2_makes [] 200 (xle rfl) ⟨vp_in_nI (by omega) (by omega), ?_⟩
    rw [h1c]
    unfold makesF
    rw [← hca, ← hbr]
    refine ⟨fun h => ⟨?_, _, _, rfl⟩, fun n1 => ⟨fun h => ⟨?_, _, _, rfl⟩, fun n2 => ⟨fun h => ⟨?_, _, _, rfl⟩, fun n3 => ⟨fun h => ⟨?_, _, _, rfl⟩, fun n4 => ⟨fun h => ⟨fun h2 => ⟨?_, _, _, rfl⟩, fun h2 => ⟨?_, _, _, rfl⟩⟩, fun n5 => ⟨?_, _, _, rfl⟩⟩⟩⟩⟩⟩
    · rw [if_pos h]
    · rw [if_neg n1, if_pos h]
    · rw [if_neg n1, if_neg n2, if_pos h]
    · rw [if_neg n1, if_neg n2, if_neg n3, if_pos h]
    · rw [if_neg n1, if_neg n2, if_neg n3, if_neg n4, if_pos h, if_pos h2]
    · rw [if_neg n1, if_neg n2, if_neg n3, if_neg n4, if_pos h, if_neg h2]
    · rw [if_neg n1, if_neg n2, if_neg n3, if_neg n4, if_neg n5]
  sorry
end TELL
