/-- the state that both speak of: the ship, the rule; whether an image is kept, the ship and the rule of it; how many texts, each as steps, as bytes; the tape; the sheets (sort, size, items) -/
def AS : Type := SH × Nat × Int32 × SH × Nat × Nat × (Nat → TX) × (Nat → F32) × (Nat → Nat) × F32 × Nat × (Nat → Int32 × Nat × F32)
def AS.S (A : AS) : SH := A.1
def AS.ru (A : AS) : Nat := A.2.1
def AS.ik (A : AS) : Int32 := A.2.2.1
def AS.K (A : AS) : SH := A.2.2.2.1
def AS.kr (A : AS) : Nat := A.2.2.2.2.1
def AS.tc (A : AS) : Nat := A.2.2.2.2.2.1
def AS.tx (A : AS) : (Nat → TX) := A.2.2.2.2.2.2.1
def AS.tb (A : AS) : (Nat → F32) := A.2.2.2.2.2.2.2.1
def AS.tz (A : AS) : (Nat → Nat) := A.2.2.2.2.2.2.2.2.1
def AS.pb (A : AS) : F32 := A.2.2.2.2.2.2.2.2.2.1
def AS.pn (A : AS) : Nat := A.2.2.2.2.2.2.2.2.2.2.1
def AS.sh (A : AS) : (Nat → Int32 × Nat × F32) := A.2.2.2.2.2.2.2.2.2.2.2
def AS.set_S (A : AS) (v : SH) : AS := (v, A.ru, A.ik, A.K, A.kr, A.tc, A.tx, A.tb, A.tz, A.pb, A.pn, A.sh)
def AS.set_ru (A : AS) (v : Nat) : AS := (A.S, v, A.ik, A.K, A.kr, A.tc, A.tx, A.tb, A.tz, A.pb, A.pn, A.sh)
def AS.set_ik (A : AS) (v : Int32) : AS := (A.S, A.ru, v, A.K, A.kr, A.tc, A.tx, A.tb, A.tz, A.pb, A.pn, A.sh)
def AS.set_K (A : AS) (v : SH) : AS := (A.S, A.ru, A.ik, v, A.kr, A.tc, A.tx, A.tb, A.tz, A.pb, A.pn, A.sh)
def AS.set_kr (A : AS) (v : Nat) : AS := (A.S, A.ru, A.ik, A.K, v, A.tc, A.tx, A.tb, A.tz, A.pb, A.pn, A.sh)
def AS.set_tc (A : AS) (v : Nat) : AS := (A.S, A.ru, A.ik, A.K, A.kr, v, A.tx, A.tb, A.tz, A.pb, A.pn, A.sh)
def AS.set_tx (A : AS) (v : (Nat → TX)) : AS := (A.S, A.ru, A.ik, A.K, A.kr, A.tc, v, A.tb, A.tz, A.pb, A.pn, A.sh)
def AS.set_tb (A : AS) (v : (Nat → F32)) : AS := (A.S, A.ru, A.ik, A.K, A.kr, A.tc, A.tx, v, A.tz, A.pb, A.pn, A.sh)
def AS.set_tz (A : AS) (v : (Nat → Nat)) : AS := (A.S, A.ru, A.ik, A.K, A.kr, A.tc, A.tx, A.tb, v, A.pb, A.pn, A.sh)
def AS.set_pb (A : AS) (v : F32) : AS := (A.S, A.ru, A.ik, A.K, A.kr, A.tc, A.tx, A.tb, A.tz, v, A.pn, A.sh)
def AS.set_pn (A : AS) (v : Nat) : AS := (A.S, A.ru, A.ik, A.K, A.kr, A.tc, A.tx, A.tb, A.tz, A.pb, v, A.sh)
def AS.set_sh (A : AS) (v : (Nat → Int32 × Nat × F32)) : AS := (A.S, A.ru, A.ik, A.K, A.kr, A.tc, A.tx, A.tb, A.tz, A.pb, A.pn, v)
/-- what else lies in the class: the ship in thought, its rule, the rows of names, the rows of waiting values, the reader's -/
def GQ : Type := SH × Nat × (Nat → F32) × (Nat → F32) × Int32 × Int32 × Int32 × Int32 × Int32 × Int32 × (Option Nat)
def GQ.th (A : GQ) : SH := A.1
def GQ.tr (A : GQ) : Nat := A.2.1
def GQ.nm (A : GQ) : (Nat → F32) := A.2.2.1
def GQ.wt (A : GQ) : (Nat → F32) := A.2.2.2.1
def GQ.q1 (A : GQ) : Int32 := A.2.2.2.2.1
def GQ.q2 (A : GQ) : Int32 := A.2.2.2.2.2.1
def GQ.q3 (A : GQ) : Int32 := A.2.2.2.2.2.2.1
def GQ.q4 (A : GQ) : Int32 := A.2.2.2.2.2.2.2.1
def GQ.q5 (A : GQ) : Int32 := A.2.2.2.2.2.2.2.2.1
def GQ.q6 (A : GQ) : Int32 := A.2.2.2.2.2.2.2.2.2.1
def GQ.tt (A : GQ) : (Option Nat) := A.2.2.2.2.2.2.2.2.2.2
def GQ.set_th (A : GQ) (v : SH) : GQ := (v, A.tr, A.nm, A.wt, A.q1, A.q2, A.q3, A.q4, A.q5, A.q6, A.tt)
def GQ.set_tr (A : GQ) (v : Nat) : GQ := (A.th, v, A.nm, A.wt, A.q1, A.q2, A.q3, A.q4, A.q5, A.q6, A.tt)
def GQ.set_nm (A : GQ) (v : (Nat → F32)) : GQ := (A.th, A.tr, v, A.wt, A.q1, A.q2, A.q3, A.q4, A.q5, A.q6, A.tt)
def GQ.set_wt (A : GQ) (v : (Nat → F32)) : GQ := (A.th, A.tr, A.nm, v, A.q1, A.q2, A.q3, A.q4, A.q5, A.q6, A.tt)
def GQ.set_q1 (A : GQ) (v : Int32) : GQ := (A.th, A.tr, A.nm, A.wt, v, A.q2, A.q3, A.q4, A.q5, A.q6, A.tt)
def GQ.set_q2 (A : GQ) (v : Int32) : GQ := (A.th, A.tr, A.nm, A.wt, A.q1, v, A.q3, A.q4, A.q5, A.q6, A.tt)
def GQ.set_q3 (A : GQ) (v : Int32) : GQ := (A.th, A.tr, A.nm, A.wt, A.q1, A.q2, v, A.q4, A.q5, A.q6, A.tt)
def GQ.set_q4 (A : GQ) (v : Int32) : GQ := (A.th, A.tr, A.nm, A.wt, A.q1, A.q2, A.q3, v, A.q5, A.q6, A.tt)
def GQ.set_q5 (A : GQ) (v : Int32) : GQ := (A.th, A.tr, A.nm, A.wt, A.q1, A.q2, A.q3, A.q4, v, A.q6, A.tt)
def GQ.set_q6 (A : GQ) (v : Int32) : GQ := (A.th, A.tr, A.nm, A.wt, A.q1, A.q2, A.q3, A.q4, A.q5, v, A.tt)
def GQ.set_tt (A : GQ) (v : (Option Nat)) : GQ := (A.th, A.tr, A.nm, A.wt, A.q1, A.q2, A.q3, A.q4, A.q5, A.q6, v)
def tp (r : Nat) : Nat := 37 + 4 * r
def oref (o : Option Nat) : Value := match o with
  | some k => .ref k
  | none => .null
def gW (A : AS) (g : GQ) : XW := [.inr (4, [.ref 1, .int (nI A.tc), .ref 3, .ref 5, .ref 13, .ref 21, .int A.ik, .ref 2]),
  .inl (2, 6, .inr (.inr (.inr (.inr fun i => if i < 6 then some (tp i) else none)))),
  .inl (3, 4, .inr (.inr (.inr (.inr fun i => if i < 4 then some (29 + 2 * i) else none)))),
  .inr (0, [.ref 4, .int (nI A.pn), .int g.q1, .int g.q2, .int g.q3, .int g.q4, .int g.q5, .int g.q6, oref (g.tt.map tp)]),
  .inl (0, 160, .inl A.pb),
  .inr (2, [.ref 6, .ref 7, .int (nI A.S.n), .ref 8, .ref 9, .ref 10, .ref 11, .int A.S.dy, .int A.S.se, .int A.S.wa, .ref (tp A.ru), .ref 12]),
  .inl (0, 10, .inl A.S.ma),
  .inl (0, 10, .inl A.S.so),
  .inl (0, 5, .inl A.S.ki),
  .inl (0, 5, .inl A.S.nu),
  .inl (0, 5, .inl A.S.sk),
  .inl (0, 5, .inl A.S.pl),
  .inl (0, 6, .inl (g.nm 0)),
  .inr (2, [.ref 14, .ref 15, .int (nI g.th.n), .ref 16, .ref 17, .ref 18, .ref 19, .int g.th.dy, .int g.th.se, .int g.th.wa, .ref (tp g.tr), .ref 20]),
  .inl (0, 10, .inl g.th.ma),
  .inl (0, 10, .inl g.th.so),
  .inl (0, 5, .inl g.th.ki),
  .inl (0, 5, .inl g.th.nu),
  .inl (0, 5, .inl g.th.sk),
  .inl (0, 5, .inl g.th.pl),
  .inl (0, 6, .inl (g.nm 1)),
  .inr (2, [.ref 22, .ref 23, .int (nI A.K.n), .ref 24, .ref 25, .ref 26, .ref 27, .int A.K.dy, .int A.K.se, .int A.K.wa, .ref (tp A.kr), .ref 28]),
  .inl (0, 10, .inl A.K.ma),
  .inl (0, 10, .inl A.K.so),
  .inl (0, 5, .inl A.K.ki),
  .inl (0, 5, .inl A.K.nu),
  .inl (0, 5, .inl A.K.sk),
  .inl (0, 5, .inl A.K.pl),
  .inl (0, 6, .inl (g.nm 2)),
  .inr (1, [.int (A.sh 0).1, .int (nI (A.sh 0).2.1), .ref 30]),
  .inl (0, 40, .inl (A.sh 0).2.2),
  .inr (1, [.int (A.sh 1).1, .int (nI (A.sh 1).2.1), .ref 32]),
  .inl (0, 40, .inl (A.sh 1).2.2),
  .inr (1, [.int (A.sh 2).1, .int (nI (A.sh 2).2.1), .ref 34]),
  .inl (0, 40, .inl (A.sh 2).2.2),
  .inr (1, [.int (A.sh 3).1, .int (nI (A.sh 3).2.1), .ref 36]),
  .inl (0, 40, .inl (A.sh 3).2.2),
  .inr (3, [.int (A.tx 0).wh, .ref 38, .ref 39, .int (A.tx 0).sz, .ref 40]),
  .inl (0, 320, .inl (A.tx 0).st),
  .inl (0, 3, .inl (A.tx 0).en),
  .inl (0, 64, .inl (g.wt 0)),
  .inr (3, [.int (A.tx 1).wh, .ref 42, .ref 43, .int (A.tx 1).sz, .ref 44]),
  .inl (0, 320, .inl (A.tx 1).st),
  .inl (0, 3, .inl (A.tx 1).en),
  .inl (0, 64, .inl (g.wt 1)),
  .inr (3, [.int (A.tx 2).wh, .ref 46, .ref 47, .int (A.tx 2).sz, .ref 48]),
  .inl (0, 320, .inl (A.tx 2).st),
  .inl (0, 3, .inl (A.tx 2).en),
  .inl (0, 64, .inl (g.wt 2)),
  .inr (3, [.int (A.tx 3).wh, .ref 50, .ref 51, .int (A.tx 3).sz, .ref 52]),
  .inl (0, 320, .inl (A.tx 3).st),
  .inl (0, 3, .inl (A.tx 3).en),
  .inl (0, 64, .inl (g.wt 3)),
  .inr (3, [.int (A.tx 4).wh, .ref 54, .ref 55, .int (A.tx 4).sz, .ref 56]),
  .inl (0, 320, .inl (A.tx 4).st),
  .inl (0, 3, .inl (A.tx 4).en),
  .inl (0, 64, .inl (g.wt 4)),
  .inr (3, [.int (A.tx 5).wh, .ref 58, .ref 59, .int (A.tx 5).sz, .ref 60]),
  .inl (0, 320, .inl (A.tx 5).st),
  .inl (0, 3, .inl (A.tx 5).en),
  .inl (0, 64, .inl (g.wt 5))]
def P0 (r : Nat) : List Nat := [5, 6, 7, 8, 9, 10, 11, 12, tp r, tp r + 1, tp r + 2, tp r + 3]
def P1 (r : Nat) : List Nat := [13, 14, 15, 16, 17, 18, 19, 20, tp r, tp r + 1, tp r + 2, tp r + 3]
theorem gtx (A : AS) (g : GQ) (r : Nat) (hr : r < 6) : (gW A g)[tp r]? = some (.inr (3, [.int (A.tx r).wh, .ref (tp r + 1), .ref (tp r + 2), .int (A.tx r).sz, .ref (tp r + 3)])) ∧ (gW A g)[tp r + 1]? = some (.inl (0, 320, .inl (A.tx r).st)) ∧ (gW A g)[tp r + 2]? = some (.inl (0, 3, .inl (A.tx r).en)) ∧ (gW A g)[tp r + 3]? = some (.inl (0, 64, .inl (g.wt r))) := by
  rcases (by omega : r = 0 ∨ r = 1 ∨ r = 2 ∨ r = 3 ∨ r = 4 ∨ r = 5) with rfl | rfl | rfl | rfl | rfl | rfl <;> exact ⟨rfl, rfl, rfl, rfl⟩
theorem ge_tp (r k : Nat) (h : k < 37) : k ≠ tp r := by unfold tp; omega
theorem Pnd (r : Nat) (l : List Nat) (h : l.Nodup) (hl : ∀ k ∈ l, k < 37) : (l ++ [tp r, tp r + 1, tp r + 2, tp r + 3]).Nodup := by
  rw [List.nodup_append]
  refine ⟨h, ?_, ?_⟩
  · simp
  · intro a ha b hb e
    have h1 := hl a ha
    subst e
    unfold tp at hb
    simp only [List.mem_cons, List.not_mem_nil, or_false] at hb
    omega
def GQ.set0 (g : GQ) (r : Nat) (nm wt : F32) : GQ := (g.set_nm (va_up g.nm 0 nm)).set_wt (va_up g.wt r wt)
def GQ.set1 (g : GQ) (r : Nat) (S : SH) (nm wt : F32) : GQ := ((g.set_th S).set_nm (va_up g.nm 1 nm)).set_wt (va_up g.wt r wt)
theorem sub0 (A : AS) (g : GQ) (hr : A.ru < 6) : xSub (P0 A.ru) (gW A g) (shW A.S (g.nm 0) (A.tx A.ru) (g.wt A.ru)) := by
  obtain ⟨h0, h1, h2, h3⟩ := gtx A g A.ru hr
  show [some _, some _, some _, some _, some _, some _, some _, some _, (gW A g)[tp A.ru]?, (gW A g)[tp A.ru + 1]?, (gW A g)[tp A.ru + 2]?, (gW A g)[tp A.ru + 3]?] = _
  rw [h0, h1, h2, h3]
  rfl
set_option maxRecDepth 100000 in
set_option maxHeartbeats 4000000 in
theorem mrg0 (A : AS) (g : GQ) (hr : A.ru < 6) (S' : SH) (nm' wt' : F32) : xmg (P0 A.ru) (P0 A.ru) (shW S' nm' (A.tx A.ru) wt') (gW A g) = gW (A.set_S S') (g.set0 A.ru nm' wt') := by
  obtain ⟨S, ru, B⟩ := A
  show xmg (P0 ru) (P0 ru) _ _ = _
  change ru < 6 at hr
  rcases (by omega : ru = 0 ∨ ru = 1 ∨ ru = 2 ∨ ru = 3 ∨ ru = 4 ∨ ru = 5) with rfl | rfl | rfl | rfl | rfl | rfl <;> rfl
theorem gS0 {E : XEnv} {Lv d : Nat} {y : MethodName} {cc : ByteArray} {nL : Nat} {rt : Option FieldType} {as : List Value} {Qc K : XQ} (A : AS) (g : GQ) (hr : A.ru < 6) (hd : d < Lv) (has : as = as.map (xv (xp (P0 A.ru)))) (h : XCall E d y cc nL rt (.ref 0 :: as) (shW A.S (g.nm 0) (A.tx A.ru) (g.wt A.ru)) Qc) (k : ∀ r σ', Qc r σ' → ∃ S' nm' wt', σ' = shW S' nm' (A.tx A.ru) wt' ∧ K r (gW (A.set_S S') (g.set0 A.ru nm' wt'))) : XIn E Lv y cc nL rt (.ref 5 :: as) (gW A g) K := by
  refine XIn.sub (P0 A.ru) hd h (Pnd A.ru [5, 6, 7, 8, 9, 10, 11, 12] (by decide) (by decide)) (Nat.le_of_ble_eq_true rfl) (sub0 A g hr) (by rw [List.map_cons, ← has]; rfl) (fun r σ' _ hq => ?_)
  obtain ⟨S', nm', wt', rfl, hk⟩ := k r σ' hq
  rw [mrg0 A g hr]
  exact hk
theorem sub1 (A : AS) (g : GQ) (hr : g.tr < 6) : xSub (P1 g.tr) (gW A g) (shW g.th (g.nm 1) (A.tx g.tr) (g.wt g.tr)) := by
  obtain ⟨h0, h1, h2, h3⟩ := gtx A g g.tr hr
  show [some _, some _, some _, some _, some _, some _, some _, some _, (gW A g)[tp g.tr]?, (gW A g)[tp g.tr + 1]?, (gW A g)[tp g.tr + 2]?, (gW A g)[tp g.tr + 3]?] = _
  rw [h0, h1, h2, h3]
  rfl
set_option maxRecDepth 100000 in
set_option maxHeartbeats 4000000 in
theorem mrg1 (A : AS) (g : GQ) (hr : g.tr < 6) (S' : SH) (nm' wt' : F32) : xmg (P1 g.tr) (P1 g.tr) (shW S' nm' (A.tx g.tr) wt') (gW A g) = gW A (g.set1 g.tr S' nm' wt') := by
  obtain ⟨S, ru, B⟩ := g
  show xmg (P1 ru) (P1 ru) _ _ = _
  change ru < 6 at hr
  rcases (by omega : ru = 0 ∨ ru = 1 ∨ ru = 2 ∨ ru = 3 ∨ ru = 4 ∨ ru = 5) with rfl | rfl | rfl | rfl | rfl | rfl <;> rfl
theorem gS1 {E : XEnv} {Lv d : Nat} {y : MethodName} {cc : ByteArray} {nL : Nat} {rt : Option FieldType} {as : List Value} {Qc K : XQ} (A : AS) (g : GQ) (hr : g.tr < 6) (hd : d < Lv) (has : as = as.map (xv (xp (P1 g.tr)))) (h : XCall E d y cc nL rt (.ref 0 :: as) (shW g.th (g.nm 1) (A.tx g.tr) (g.wt g.tr)) Qc) (k : ∀ r σ', Qc r σ' → ∃ S' nm' wt', σ' = shW S' nm' (A.tx g.tr) wt' ∧ K r (gW A (g.set1 g.tr S' nm' wt'))) : XIn E Lv y cc nL rt (.ref 13 :: as) (gW A g) K := by
  refine XIn.sub (P1 g.tr) hd h (Pnd g.tr [13, 14, 15, 16, 17, 18, 19, 20] (by decide) (by decide)) (Nat.le_of_ble_eq_true rfl) (sub1 A g hr) (by rw [List.map_cons, ← has]; rfl) (fun r σ' _ hq => ?_)
  obtain ⟨S', nm', wt', rfl, hk⟩ := k r σ' hq
  rw [mrg1 A g hr]
  exact hk
set_option maxRecDepth 100000 in
set_option maxHeartbeats 4000000 in
theorem c_becomes_th (E : XEnv) (A : AS) (g : GQ) : XCall E 15 yX2_becomes cX2_becomes 2 none [.ref 13, .ref 5] (gW A g) (fun r σ' => r = none ∧ σ' = gW A ((g.set_th A.S).set_tr A.ru)) := by
  have c0 : (0 : Int32).toNatClampNeg = 0 := rfl
  have c5 : (5 : Int32).toNatClampNeg = 5 := rfl
  have c10 : (10 : Int32).toNatClampNeg = 10 := rfl
  refine XCall.conv (Q := fun r σ' => r = none ∧ xEq σ' (gW A ((g.set_th A.S).set_tr A.ru))) (XCall.of (by decide +kernel) (xle rfl) (xgo sX2_becomes [] 200 (xle rfl) ?_)) (fun r σ' h => ⟨_, h.2, h.1, rfl⟩)
  refine ⟨⟨by decide, by decide, by decide, by rw [c0, c10]; exact xle rfl, by rw [c0, c10]; exact xle rfl⟩, ⟨by decide, by decide, by decide, by rw [c0, c10]; exact xle rfl, by rw [c0, c10]; exact xle rfl⟩, ⟨by decide, by decide, by decide, by rw [c0, c5]; exact xle rfl, by rw [c0, c5]; exact xle rfl⟩, ⟨by decide, by decide, by decide, by rw [c0, c5]; exact xle rfl, by rw [c0, c5]; exact xle rfl⟩, ⟨by decide, by decide, by decide, by rw [c0, c5]; exact xle rfl, by rw [c0, c5]; exact xle rfl⟩, ⟨by decide, by decide, by decide, by rw [c0, c5]; exact xle rfl, by rw [c0, c5]; exact xle rfl⟩, rfl, ?_⟩
  rw [c0, c5, c10]
  refine xEq_cons (xce_rfl _) ?_
  refine xEq_cons (xce_rfl _) ?_
  refine xEq_cons (xce_rfl _) ?_
  refine xEq_cons (xce_rfl _) ?_
  refine xEq_cons (xce_rfl _) ?_
  refine xEq_cons (xce_rfl _) ?_
  refine xEq_cons (xce_rfl _) ?_
  refine xEq_cons (xce_rfl _) ?_
  refine xEq_cons (xce_rfl _) ?_
  refine xEq_cons (xce_rfl _) ?_
  refine xEq_cons (xce_rfl _) ?_
  refine xEq_cons (xce_rfl _) ?_
  refine xEq_cons (xce_rfl _) ?_
  refine xEq_cons (xce_rfl _) ?_
  refine xEq_cons ⟨rfl, rfl, fun k hk => by rw [pk_cpy_in (by omega) (by omega)]; exact congrArg _ (by omega)⟩ ?_
  refine xEq_cons ⟨rfl, rfl, fun k hk => by rw [pk_cpy_in (by omega) (by omega)]; exact congrArg _ (by omega)⟩ ?_
  refine xEq_cons ⟨rfl, rfl, fun k hk => by rw [pk_cpy_in (by omega) (by omega)]; exact congrArg _ (by omega)⟩ ?_
  refine xEq_cons ⟨rfl, rfl, fun k hk => by rw [pk_cpy_in (by omega) (by omega)]; exact congrArg _ (by omega)⟩ ?_
  refine xEq_cons ⟨rfl, rfl, fun k hk => by rw [pk_cpy_in (by omega) (by omega)]; exact congrArg _ (by omega)⟩ ?_
  refine xEq_cons ⟨rfl, rfl, fun k hk => by rw [pk_cpy_in (by omega) (by omega)]; exact congrArg _ (by omega)⟩ ?_
  exact xEq_rfl _
set_option maxRecDepth 100000 in
set_option maxHeartbeats 4000000 in
theorem c_becomes_kp (E : XEnv) (A : AS) (g : GQ) : XCall E 15 yX2_becomes cX2_becomes 2 none [.ref 21, .ref 5] (gW A g) (fun r σ' => r = none ∧ σ' = gW ((A.set_K A.S).set_kr A.ru) g) := by
  have c0 : (0 : Int32).toNatClampNeg = 0 := rfl
  have c5 : (5 : Int32).toNatClampNeg = 5 := rfl
  have c10 : (10 : Int32).toNatClampNeg = 10 := rfl
  refine XCall.conv (Q := fun r σ' => r = none ∧ xEq σ' (gW ((A.set_K A.S).set_kr A.ru) g)) (XCall.of (by decide +kernel) (xle rfl) (xgo sX2_becomes [] 200 (xle rfl) ?_)) (fun r σ' h => ⟨_, h.2, h.1, rfl⟩)
  refine ⟨⟨by decide, by decide, by decide, by rw [c0, c10]; exact xle rfl, by rw [c0, c10]; exact xle rfl⟩, ⟨by decide, by decide, by decide, by rw [c0, c10]; exact xle rfl, by rw [c0, c10]; exact xle rfl⟩, ⟨by decide, by decide, by decide, by rw [c0, c5]; exact xle rfl, by rw [c0, c5]; exact xle rfl⟩, ⟨by decide, by decide, by decide, by rw [c0, c5]; exact xle rfl, by rw [c0, c5]; exact xle rfl⟩, ⟨by decide, by decide, by decide, by rw [c0, c5]; exact xle rfl, by rw [c0, c5]; exact xle rfl⟩, ⟨by decide, by decide, by decide, by rw [c0, c5]; exact xle rfl, by rw [c0, c5]; exact xle rfl⟩, rfl, ?_⟩
  rw [c0, c5, c10]
  refine xEq_cons (xce_rfl _) ?_
  refine xEq_cons (xce_rfl _) ?_
  refine xEq_cons (xce_rfl _) ?_
  refine xEq_cons (xce_rfl _) ?_
  refine xEq_cons (xce_rfl _) ?_
  refine xEq_cons (xce_rfl _) ?_
  refine xEq_cons (xce_rfl _) ?_
  refine xEq_cons (xce_rfl _) ?_
  refine xEq_cons (xce_rfl _) ?_
  refine xEq_cons (xce_rfl _) ?_
  refine xEq_cons (xce_rfl _) ?_
  refine xEq_cons (xce_rfl _) ?_
  refine xEq_cons (xce_rfl _) ?_
  refine xEq_cons (xce_rfl _) ?_
  refine xEq_cons (xce_rfl _) ?_
  refine xEq_cons (xce_rfl _) ?_
  refine xEq_cons (xce_rfl _) ?_
  refine xEq_cons (xce_rfl _) ?_
  refine xEq_cons (xce_rfl _) ?_
  refine xEq_cons (xce_rfl _) ?_
  refine xEq_cons (xce_rfl _) ?_
  refine xEq_cons (xce_rfl _) ?_
  refine xEq_cons ⟨rfl, rfl, fun k hk => by rw [pk_cpy_in (by omega) (by omega)]; exact congrArg _ (by omega)⟩ ?_
  refine xEq_cons ⟨rfl, rfl, fun k hk => by rw [pk_cpy_in (by omega) (by omega)]; exact congrArg _ (by omega)⟩ ?_
  refine xEq_cons ⟨rfl, rfl, fun k hk => by rw [pk_cpy_in (by omega) (by omega)]; exact congrArg _ (by omega)⟩ ?_
  refine xEq_cons ⟨rfl, rfl, fun k hk => by rw [pk_cpy_in (by omega) (by omega)]; exact congrArg _ (by omega)⟩ ?_
  refine xEq_cons ⟨rfl, rfl, fun k hk => by rw [pk_cpy_in (by omega) (by omega)]; exact congrArg _ (by omega)⟩ ?_
  refine xEq_cons ⟨rfl, rfl, fun k hk => by rw [pk_cpy_in (by omega) (by omega)]; exact congrArg _ (by omega)⟩ ?_
  exact xEq_rfl _
set_option maxRecDepth 100000 in
set_option maxHeartbeats 4000000 in
theorem c_becomes_bk (E : XEnv) (A : AS) (g : GQ) : XCall E 15 yX2_becomes cX2_becomes 2 none [.ref 5, .ref 21] (gW A g) (fun r σ' => r = none ∧ σ' = gW ((A.set_S A.K).set_ru A.kr) g) := by
  have c0 : (0 : Int32).toNatClampNeg = 0 := rfl
  have c5 : (5 : Int32).toNatClampNeg = 5 := rfl
  have c10 : (10 : Int32).toNatClampNeg = 10 := rfl
  refine XCall.conv (Q := fun r σ' => r = none ∧ xEq σ' (gW ((A.set_S A.K).set_ru A.kr) g)) (XCall.of (by decide +kernel) (xle rfl) (xgo sX2_becomes [] 200 (xle rfl) ?_)) (fun r σ' h => ⟨_, h.2, h.1, rfl⟩)
  refine ⟨⟨by decide, by decide, by decide, by rw [c0, c10]; exact xle rfl, by rw [c0, c10]; exact xle rfl⟩, ⟨by decide, by decide, by decide, by rw [c0, c10]; exact xle rfl, by rw [c0, c10]; exact xle rfl⟩, ⟨by decide, by decide, by decide, by rw [c0, c5]; exact xle rfl, by rw [c0, c5]; exact xle rfl⟩, ⟨by decide, by decide, by decide, by rw [c0, c5]; exact xle rfl, by rw [c0, c5]; exact xle rfl⟩, ⟨by decide, by decide, by decide, by rw [c0, c5]; exact xle rfl, by rw [c0, c5]; exact xle rfl⟩, ⟨by decide, by decide, by decide, by rw [c0, c5]; exact xle rfl, by rw [c0, c5]; exact xle rfl⟩, rfl, ?_⟩
  rw [c0, c5, c10]
  refine xEq_cons (xce_rfl _) ?_
  refine xEq_cons (xce_rfl _) ?_
  refine xEq_cons (xce_rfl _) ?_
  refine xEq_cons (xce_rfl _) ?_
  refine xEq_cons (xce_rfl _) ?_
  refine xEq_cons (xce_rfl _) ?_
  refine xEq_cons ⟨rfl, rfl, fun k hk => by rw [pk_cpy_in (by omega) (by omega)]; exact congrArg _ (by omega)⟩ ?_
  refine xEq_cons ⟨rfl, rfl, fun k hk => by rw [pk_cpy_in (by omega) (by omega)]; exact congrArg _ (by omega)⟩ ?_
  refine xEq_cons ⟨rfl, rfl, fun k hk => by rw [pk_cpy_in (by omega) (by omega)]; exact congrArg _ (by omega)⟩ ?_
  refine xEq_cons ⟨rfl, rfl, fun k hk => by rw [pk_cpy_in (by omega) (by omega)]; exact congrArg _ (by omega)⟩ ?_
  refine xEq_cons ⟨rfl, rfl, fun k hk => by rw [pk_cpy_in (by omega) (by omega)]; exact congrArg _ (by omega)⟩ ?_
  refine xEq_cons ⟨rfl, rfl, fun k hk => by rw [pk_cpy_in (by omega) (by omega)]; exact congrArg _ (by omega)⟩ ?_
  exact xEq_rfl _
