-- ===== cells that hold the same =====
def xce (e e' : XE) : Prop := match e, e' with
  | .inl (t, n, .inl f), .inl (t', n', .inl f') => t = t' ∧ n = n' ∧ ∀ k, k < n → f k = f' k
  | a, b => a = b
theorem xce_rfl (e : XE) : xce e e := by
  match e with
  | .inl (t, n, .inl f) => exact ⟨rfl, rfl, fun _ _ => rfl⟩
  | .inl (t, n, .inr x) => exact rfl
  | .inr o => exact rfl
theorem xce_at {cA : Nat → ClassId} {ad : Nat → Nat} {D : va_G} {a : Nat} {e e' : XE} {H : Heap} (h : xce e e') (k : va_at D vwCl (a, xe cA ad e) H) : va_at D vwCl (a, xe cA ad e') H := by
  unfold xce at h
  split at h
  · next t n f t' n' f' =>
    obtain ⟨rfl, rfl, hf⟩ := h
    show H[a]? = some (arrV (cA t) n (fun j => .int (f' j)))
    have k : H[a]? = some (arrV (cA t) n (fun j => .int (f j))) := k
    rw [k]
    congr 1
    unfold arrV
    congr 1
    apply congrArg
    funext j
    show Value.int (f j.val) = Value.int (f' j.val)
    rw [hf j.val j.isLt]
  · rw [← h]
    exact k
def xEq (σ σ' : XW) : Prop := σ.length = σ'.length ∧ ∀ (k : Nat) (e e' : XE), σ[k]? = some e → σ'[k]? = some e' → xce e e'
theorem xEq_P {cA : Nat → ClassId} {ad : Nat → Nat} {D : va_G} {σ σ' : XW} {H : Heap} (h : xEq σ σ') (hP : va_P D vwCl (xw cA ad σ) H) : va_P D vwCl (xw cA ad σ') H := by
  intro k q hk
  obtain ⟨e', h1, rfl⟩ := xw_get' hk
  obtain ⟨e, h2⟩ : ∃ e, σ[k]? = some e := ⟨_, List.getElem?_eq_getElem (by rw [h.1]; exact (List.getElem?_eq_some_iff.mp h1).1)⟩
  exact xce_at (h.2 k e e' h2 h1) (hP k _ (xw_get h2))
theorem xEq_cons {e e' : XE} {σ σ' : XW} (h : xce e e') (hr : xEq σ σ') : xEq (e :: σ) (e' :: σ') := by
  refine ⟨congrArg (· + 1) hr.1, fun k a b h1 h2 => ?_⟩
  cases k with
  | zero => cases h1; cases h2; exact h
  | succ k => exact hr.2 k a b h1 h2
theorem xEq_rfl (σ : XW) : xEq σ σ := ⟨rfl, fun k a b h1 h2 => by rw [h1] at h2; cases h2; exact xce_rfl a⟩
theorem XCall.conv {E : XEnv} {d : Nat} {y : MethodName} {cc : ByteArray} {nL : Nat} {rt : Option FieldType} {args : List Value} {σ : XW} {Q Q' : XQ} (k : XCall E d y cc nL rt args σ Q) (h : ∀ r σ', Q r σ' → ∃ σ'', xEq σ' σ'' ∧ Q' r σ'') : XCall E d y cc nL rt args σ Q' := by
  intro D cA ad A p e ha hc hk s m a below hf happ hP hT
  obtain ⟨t, o, h1, h2, h3, h4⟩ := k D cA ad A p e ha hc hk s m a below hf happ hP hT
  obtain ⟨⟨⟨r, σ', q1, q2, q3, q4, q5⟩, q6⟩, h5⟩ := h4
  obtain ⟨σ'', g1, g2⟩ := h r σ' q3
  exact ⟨t, o, h1, h2, h3, ⟨⟨r, σ'', q1, q2, g2, g1.1.symm.trans q4, xEq_P g1 q5⟩, q6⟩, h5⟩
theorem XAt.conv {E : XEnv} {own : String} {cc : ByteArray} {nL : Nat} {rt : Option FieldType} {Lv n0 : Nat} {Q : XQ} {pc : Nat} {lv : XL} {st : List Value} {σ σ' : XW} (k : XAt E own cc nL rt Lv n0 Q pc lv st σ') (h : xEq σ σ') : XAt E own cc nL rt Lv n0 Q pc lv st σ := by
  intro p e R s m args below meth c H locs cells slots Z D cA ad A ls hC hR hl hw hE
  exact k p e R s m args below meth c H locs cells slots Z D cA ad A ls hC hR hl ⟨h.1.symm.trans hw.1, hw.2.1, xEq_P h hw.2.2.1, hw.2.2.2⟩ hE
-- ===== one more wright =====
def comeF (S : SH) (k n s : Int32) : SH := (S.ma, S.so, upd S.ki S.n k, upd S.nu S.n n, upd S.sk S.n s, upd S.pl S.n 0, S.n + 1, S.dy, S.se, S.wa)
set_option maxRecDepth 100000 in
theorem c_X2_comes (E : XEnv) (S : SH) (nm : F32) (T : TX) (wt : F32) (hn : S.n ≤ 5) (k n s : Int32) : XCall E 10 yX2_comes cX2_comes 4 (some .int) [.ref 0, .int k, .int n, .int s] (shW S nm T wt) (fun r σ' => (5 ≤ S.n ∧ r = some (.int (-4)) ∧ σ' = shW S nm T wt) ∨ (S.n < 5 ∧ r = some (.int (nI S.n)) ∧ σ' = shW (comeF S k n s) nm T wt)) := by
  refine XCall.of (by decide +kernel) (xle rfl) (xgo sX2_comes [] 100 (xle rfl) ⟨fun h => ?_, fun h => ?_⟩)
  · have hlt : S.n < 5 := by
      rcases Nat.lt_or_ge S.n 5 with q | q
      · exact q
      · refine absurd ?_ h
        unfold f_within
        rw [if_neg (nI_pos (by omega)), if_pos (show (4 : Int32) < nI S.n from nI_lt (a := 4) q (by omega))]
    have hc : (nI S.n).toNatClampNeg = S.n := nI_clamp (by omega)
    refine ⟨vp_in_nI hlt (by omega), vp_in_nI hlt (by omega), vp_in_nI hlt (by omega), vp_in_nI hlt (by omega), ?_⟩
    refine Or.inr ⟨hlt, ?_, ?_⟩
    · show some (Value.int (nI S.n + 1 - 1)) = some (Value.int (nI S.n))
      rw [← nI_succ, nI_pred]
    · rw [hc]
      show _ = shW (comeF S k n s) nm T wt
      unfold shW
      rw [show nI (comeF S k n s).n = nI S.n + 1 from nI_succ S.n]
      rfl
  · refine Or.inl ⟨?_, rfl, rfl⟩
    rcases Nat.lt_or_ge S.n 5 with q | q
    · refine absurd h ?_
      unfold f_within
      rw [if_neg (nI_pos (by omega)), if_neg (show ¬ (4 : Int32) < nI S.n from nI_nlt (a := 4) (b := S.n) (by omega) (by omega))]
      decide
    · exact q
-- ===== sheets =====
def sheW (so : Int32) (n : Nat) (f : F32) : XW := [.inr (1, [.int so, .int (nI n), .ref 1]), .inl (0, 40, .inl f)]
section SHEET
variable (E : XEnv) (so : Int32) (n : Nat) (f : F32)
theorem c_X1_isMissing : XCall E 10 yX1_isMissing cX1_isMissing 1 (some .boolean) [.ref 0] (sheW so n f) (fun r σ' => r = some (.int (if so = -1 then 1 else 0)) ∧ σ' = sheW so n f) :=
  XCall.of (by decide +kernel) (xle rfl) (xgo sX1_isMissing [] 60 (xle rfl) ⟨fun h => ⟨Or.inl rfl, by rw [if_neg h], rfl⟩, fun h => ⟨Or.inr rfl, by rw [if_pos h], rfl⟩⟩)
def holdF (n : Nat) (a b : Int32) : Int32 := if f_within b 0 (nI n) = 0 then 0 else if f_within a 0 (nI n - b) = 0 then 0 else 1
theorem c_X1_holds (a b : Int32) : XCall E 10 yX1_holds cX1_holds 3 (some .boolean) [.ref 0, .int a, .int b] (sheW so n f) (fun r σ' => r = some (.int (holdF n a b)) ∧ σ' = sheW so n f) :=
  XCall.of (by decide +kernel) (xle rfl) (xgo sX1_holds [] 60 (xle rfl) ⟨fun h => ⟨Or.inl rfl, by rw [holdF, if_pos h], rfl⟩, fun h => ⟨fun h2 => ⟨Or.inl rfl, by rw [holdF, if_neg h, if_pos h2], rfl⟩, fun h2 => ⟨Or.inr rfl, by rw [holdF, if_neg h, if_neg h2], rfl⟩⟩⟩)
def zerF (f : F32) (k : Nat) : F32 := fun j => if j < k then 0 else f j
theorem zerF_s (f : F32) (k : Nat) : upd (zerF f k) k 0 = zerF f (k + 1) := by
  funext j
  unfold upd zerF
  by_cases h : j = k
  · rw [if_pos h, if_pos (by omega)]
  · rw [if_neg h]
    by_cases h2 : j < k
    · rw [if_pos h2, if_pos (by omega)]
    · rw [if_neg h2, if_neg (by omega)]
theorem zerF_0 (f : F32) : zerF f 0 = f := funext fun j => if_neg (Nat.not_lt_zero j)
theorem l_X1_becomes (a b : Int32) (m : Nat) : ∀ (j k : Nat), k + j = 40 → XAt E RX1 cX1_becomes 4 none 10 2 (fun r σ' => r = none ∧ σ' = sheW so m (zerF f 40)) 21 [(0, .ref 0), (1, .int a), (2, .int b), (3, .int (nI k))] [] (sheW so m (zerF f k))
  | 0, k, hk => by
    obtain rfl : k = 40 := by omega
    exact xgo sX1_becomes [21] 60 (xle rfl) ⟨fun _ => ⟨rfl, rfl⟩, fun h => absurd (nI_le (a := 40) (b := 40) (Nat.le_refl _) (by omega)) h⟩
  | j + 1, k, hk => by
    have ih := l_X1_becomes a b m j (k + 1) (by omega)
    have hc : (nI k).toNatClampNeg = k := nI_clamp (by omega)
    refine xgo sX1_becomes [21] 60 (xle rfl) ⟨fun h => absurd h (nI_ge (b := 40) (by omega) (by omega)), fun _ => ⟨vp_in_nI (by omega) (by omega), ?_⟩⟩
    rw [nI_succ, ← zerF_s f k] at ih
    rw [hc]
    exact ih
theorem f_clip {m : Nat} (hm : m ≤ 40) : f_max 0 (f_min 40 (nI m)) = nI m := by
  unfold f_max f_min
  by_cases h : nI m < (40 : Int32)
  · rw [if_pos h]
    by_cases h2 : 0 < nI m
    · rw [if_pos h2]
    · rw [if_neg h2]
      have : m = 0 := by
        rcases Nat.eq_zero_or_pos m with q | q
        · exact q
        · exact absurd (nI_lt (a := 0) q (by omega)) h2
      rw [this]
      rfl
  · rw [if_neg h]
    have : m = 40 := by
      rcases Nat.lt_or_ge m 40 with q | q
      · exact absurd (nI_lt (b := 40) q (by omega)) h
      · omega
    rw [this]
    decide +kernel
theorem c_X1_becomes (a : Int32) (m : Nat) (hm : m ≤ 40) : XCall E 10 yX1_becomes cX1_becomes 4 none [.ref 0, .int a, .int (nI m)] (sheW so n f) (fun r σ' => r = none ∧ σ' = sheW a m (fun _ => 0)) := by
  refine XCall.conv (Q := fun r σ' => r = none ∧ σ' = sheW a m (zerF f 40)) (XCall.of (by decide +kernel) (xle rfl) (xgo sX1_becomes [21] 60 (xle rfl) ?_)) (fun r σ' h => ⟨_, ?_, h.1, rfl⟩)
  · have h := l_X1_becomes E a f a (nI m) m 40 0 rfl
    rw [zerF_0] at h
    have key : XAt E RX1 cX1_becomes 4 none 10 2 (fun r σ' => r = none ∧ σ' = sheW a m (zerF f 40)) 21 [(0, .ref 0), (1, .int a), (2, .int (nI m)), (3, .int (nI 0))] [] [.inr (1, [.int a, .int (f_max 0 (f_min 40 (nI m))), .ref 1]), .inl (0, 40, .inl f)] := by
      rw [f_clip hm]
      exact h
    exact key
  · rw [h.2]
    exact xEq_cons (xce_rfl _) (xEq_cons ⟨rfl, rfl, fun k hk => if_pos hk⟩ (xEq_rfl _))
def putF (so v : Int32) : Int32 := if so = 0 then v.toInt8.toInt32 else if so = 1 then v.toInt16.toInt32 else v
theorem holdF_1 {n i : Nat} (hn : n ≤ 40) (hi : i < n) : holdF n (nI i) 1 = 1 := by
  unfold holdF f_within
  rw [if_neg (show ¬ (1 : Int32) < 0 by decide), if_neg (show ¬ nI n < (1 : Int32) from nI_nlt (a := n) (b := 1) (by omega) (by omega))]
  obtain ⟨k, rfl⟩ : ∃ k, n = k + 1 := ⟨n - 1, by omega⟩
  rw [nI_pred, if_neg (nI_pos (by omega)), if_neg (nI_nlt (by omega) (by omega))]
  decide
theorem c_X1_put (hn : n ≤ 40) (i : Nat) (hi : i < n) (v : Int32) : XCall E 11 yX1_put cX1_put 3 none [.ref 0, .int (nI i), .int v] (sheW so n f) (fun r σ' => r = none ∧ σ' = sheW so n (upd f i (putF so v))) := by
  have hc : (nI i).toNatClampNeg = i := nI_clamp (by omega)
  refine XCall.of (by decide +kernel) (xle rfl) (xgo sX1_put [] 60 (xle rfl) (XIn.same (xle rfl) (c_X1_holds E so n f (nI i) 1) (fun r σ' _ h => ?_)))
  obtain ⟨rfl, rfl⟩ := h
  rw [holdF_1 hn hi]
  refine ⟨fun h => absurd h (by decide), fun _ => ⟨fun h => ⟨fun h2 => ⟨vp_in_nI (by omega) (by omega), rfl, ?_⟩, fun h2 => ⟨vp_in_nI (by omega) (by omega), rfl, ?_⟩⟩, fun h => ⟨vp_in_nI (by omega) (by omega), rfl, ?_⟩⟩⟩
  · rw [putF, if_neg h, if_neg h2, hc]; rfl
  · rw [putF, if_neg h, if_pos h2, hc]; rfl
  · rw [putF, if_pos h, hc]; rfl
end SHEET
-- ===== a text while it is read =====
def teW (wh : Int32) (n : Nat) (st en wt : F32) : XW := [.inr (3, [.int wh, .ref 1, .ref 2, .int (nI n), .ref 3]), .inl (0, 320, .inl st), .inl (0, 3, .inl en), .inl (0, 64, .inl wt)]
section TEXT
variable (E : XEnv) (wh : Int32) (n : Nat) (st en wt : F32)
theorem c_X3_clear : XCall E 10 yX3_clear cX3_clear 1 none [.ref 0] (teW wh n st en wt) (fun r σ' => r = none ∧ σ' = teW wh 0 st en wt) :=
  XCall.of (by decide +kernel) (xle rfl) (xgo sX3_clear [] 60 (xle rfl) ⟨rfl, rfl⟩)
theorem c_X3_add (s : Int32) (hn : n ≤ 320) : XCall E 10 yX3_add cX3_add 2 none [.ref 0, .int s] (teW wh n st en wt) (fun r σ' => r = none ∧ ((320 ≤ n ∧ σ' = teW wh n st en wt) ∨ (n < 320 ∧ σ' = teW wh (n + 1) (upd st n s) en wt))) := by
  have hc : (nI n).toNatClampNeg = n := nI_clamp (by omega)
  refine XCall.of (by decide +kernel) (xle rfl) (xgo sX3_add [] 60 (xle rfl) ⟨fun h => ⟨rfl, Or.inl ⟨(nI_leI (a := 320) (b := n) (by omega) (by omega)).mp h, rfl⟩⟩, fun h => ?_⟩)
  have hlt : n < 320 := by
    rcases Nat.lt_or_ge n 320 with q | q
    · exact q
    · exact absurd (nI_le (a := 320) q (by omega)) h
  refine ⟨vp_in_nI hlt (by omega), rfl, Or.inr ⟨hlt, ?_⟩⟩
  rw [hc]
  unfold teW
  rw [nI_succ]
theorem c_X3_endHere (of : Nat) (hof : of < 3) : XCall E 10 yX3_endHere cX3_endHere 2 none [.ref 0, .int (nI of)] (teW wh n st en wt) (fun r σ' => r = none ∧ σ' = teW wh n st (upd en of (nI n)) wt) := by
  have hin : f_within (nI of) 0 (Int32.ofNat 3 - 1) = 1 := by
    rcases (by omega : of = 0 ∨ of = 1 ∨ of = 2) with rfl | rfl | rfl <;> decide +kernel
  have hc : (nI of).toNatClampNeg = of := nI_clamp (by omega)
  refine XCall.of (by decide +kernel) (xle rfl) (xgo sX3_endHere [] 60 (xle rfl) ⟨fun h => absurd (hin.symm.trans h) (by decide), fun _ => ⟨vp_in_nI (by omega) (by omega), rfl, ?_⟩⟩)
  rw [hc]
  rfl
end TEXT
