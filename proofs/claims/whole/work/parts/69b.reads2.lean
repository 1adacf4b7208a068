-- ===== the three parts =====
section CREAD
variable (A : AS) (g : GQ) (r : Nat) (E : XEnv)
abbrev lR (i : Nat) : XL := [(0, .ref 3), (1, .ref (tp r)), (2, .int (nI i))]
set_option maxRecDepth 100000 in
set_option maxHeartbeats 8000000 in
theorem l_readsE (hr : r < 6) (Q : XQ) (i : Nat) (hi : i < 3) (st en : F32) (z : Nat) (q1 q2 q3 q4 q5 q6 : Int32) (k : XAt E RX0 cX0_reads 3 (some .int) 90 61 Q 33 (lR r (i + 1)) [] (gW (rA A r st (upd en i (nI z)) (nI z)) (rG g r q1 q2 q3 q4 q5 q6))) : XAt E RX0 cX0_reads 3 (some .int) 90 61 Q 56 (lR r i) [] (gW (rA A r st en (nI z)) (rG g r q1 q2 q3 q4 q5 q6)) := by
  have go : XAt E RX0 cX0_reads 3 (some .int) 90 61 Q 60 (lR r i) [.ref (tp r)] (gW (rA A r st en (nI z)) (rG g r q1 q2 q3 q4 q5 q6)) := by
    refine xgo sX0_reads [33] 100 (xle rfl) (hO_i (gtx _ _ r hr).1 (gTe A (rG g r q1 q2 q3 q4 q5 q6) r E hr (xle rfl) rfl (c_X3_endHere E (A.tx r).wh z st en (g.wt r) i hi) (fun rv σ' y => ?_)))
    obtain ⟨rfl, rfl⟩ := y
    refine ⟨_, _, _, rfl, ?_⟩
    rw [show lR r (i + 1) = [(0, .ref 3), (1, .ref (tp r)), (2, .int (nI i + 1))] by rw [← nI_succ]] at k
    exact k
  exact xgo sX0_reads [60] 100 (xle rfl) go
set_option maxRecDepth 100000 in
set_option maxHeartbeats 8000000 in
theorem l_readsB (hr : r < 6) (Q : XQ) (i : Nat) (hi : i < 3) (p : Nat) (hp : p < 2147483648) (k : ∀ st' en' z' q1 q3 q4 q5, z' ≤ 320 → XAt E RX0 cX0_reads 3 (some .int) 90 61 Q 33 (lR r (i + 1)) [] (gW (rA A r st' en' (nI z')) (rG g r q1 14 q3 q4 q5 (nI p)))) (st en : F32) (z : Nat) (q1 q3 q4 q5 : Int32) (hz : z ≤ 320) : XAt E RX0 cX0_reads 3 (some .int) 90 61 Q 33 (lR r i) [] (gW (rA A r st en (nI z)) (rG g r q1 14 q3 q4 q5 (nI p))) := by
  have h6 : (6 : Int32) + nI i = nI (6 + i) := by rw [show (6 : Int32) = nI 6 from rfl, nI_add]
  have cn := c_X0_needsB E A.pb A.pn (A.tx r).wh en (g.wt r) (6 + i) (by omega) (by omega) q1 q3 q4 q5 p hp st z
  rw [← h6] at cn
  refine xgo sX0_reads [56] 100 (xle rfl) ⟨fun y => absurd y (fun y => by have := (nI_ltI (a := 2) (b := i) (by omega) (by omega)).mp y; omega), fun _ => gRd A g r E hr (xle rfl) rfl cn (fun rv σ' y => ?_)⟩
  obtain ⟨rfl, rfl⟩ := y
  refine ⟨_, _, _, _, _, _, _, _, rfl, gRd A g r E hr (xle rfl) rfl (f_X0_or E A.pb A.pn (A.tx r).wh en (g.wt r) q1 q3 q4 q5 p hp st z) (fun rv σ' y => ?_)⟩
  obtain ⟨rfl, rfl⟩ := y
  refine ⟨_, _, _, _, _, _, _, _, rfl, gRd A g r E hr (xle rfl) rfl (c_X0_needsB E A.pb A.pn (A.tx r).wh en (g.wt r) 59 (by omega) (by omega) q1 q3 q4 q5 p hp st z) (fun rv σ' y => ?_)⟩
  obtain ⟨rfl, rfl⟩ := y
  exact ⟨_, _, _, _, _, _, _, _, rfl, l_readsE A g r E hr Q i hi st en z q1 14 q3 q4 q5 (nI p) (k st (upd en i (nI z)) z q1 q3 q4 q5 hz)⟩
set_option maxRecDepth 100000 in
set_option maxHeartbeats 8000000 in
theorem l_readsG (hW : ∀ en, WordOk E A.pb A.pn (A.tx r).wh en (g.wt r)) (hn : A.pn ≤ 160) (hr : r < 6) (Q : XQ) (i : Nat) (hi : i < 3) (q : Nat) (hq : q ≤ A.pn) (num : Int32) (hN : CN A.pb A.pn q num) (st en : F32) (z : Nat) (hz : z ≤ 2 * q)
    (kB : ∀ p st' en' z' q1 q3 q4 q5, sgF A.pb A.pn i q = .inl p → p < 2147483648 → z' ≤ 320 → XAt E RX0 cX0_reads 3 (some .int) 90 61 Q 33 (lR r (i + 1)) [] (gW (rA A r st' en' (nI z')) (rG g r q1 14 q3 q4 q5 (nI p))))
    (kG : ∀ v l q' st' num', sgF A.pb A.pn i q = .inr (v, l, q') → (∀ x, x < z → st' x = st x) → (∀ nm, Ev st' nm z l (v nm) 42) → CN A.pb A.pn q' num' → XAt E RX0 cX0_reads 3 (some .int) 90 61 Q 33 (lR r (i + 1)) [] (gW (rA A r st' (upd en i (nI (z + l))) (nI (z + l))) (rG g r (nI (afF A.pb A.pn q')) (nI (cdF A.pb A.pn q')) (nI (lpF A.pb A.pn q')) num' (nI 0) (-1)))) :
    XAt E RX0 cX0_reads 3 (some .int) 90 61 Q 33 (lR r i) [] (gW (rA A r st en (nI z)) (rG g r (nI (afF A.pb A.pn q)) (nI (cdF A.pb A.pn q)) (nI (lpF A.pb A.pn q)) num (nI 0) (-1))) := by
  have h6 : (6 : Int32) + nI i = nI (6 + i) := by rw [show (6 : Int32) = nI 6 from rfl, nI_add]
  have cn := c_X0_needs E A.pb A.pn (A.tx r).wh en (g.wt r) (hW en) hn hq (6 + i) (by omega) (by omega) 0 num st z (by omega)
  rw [← h6] at cn
  refine xgo sX0_reads [46] 100 (xle rfl) ⟨fun y => absurd y (fun y => by have := (nI_ltI (a := 2) (b := i) (by omega) (by omega)).mp y; omega), fun _ => gRd A g r E hr (xle rfl) rfl cn (fun rv σ' y => ?_)⟩
  -- behind a fault in it
  have bad : ∀ (p : Nat) (st : F32) (z : Nat) (q1 q3 q4 q5 : Int32), sgF A.pb A.pn i q = .inl p → p < 2147483648 → z ≤ 320 → XAt E RX0 cX0_reads 3 (some .int) 90 61 Q 56 (lR r i) [] (gW (rA A r st en (nI z)) (rG g r q1 14 q3 q4 q5 (nI p))) := by
    intro p st z q1 q3 q4 q5 e hp hz
    exact l_readsE A g r E hr Q i hi st en z q1 14 q3 q4 q5 (nI p) (kB p st (upd en i (nI z)) z q1 q3 q4 q5 e hp hz)
  have bad51 : ∀ (p : Nat) (st : F32) (z : Nat) (q1 q3 q4 q5 : Int32), sgF A.pb A.pn i q = .inl p → p < 2147483648 → z ≤ 320 → XAt E RX0 cX0_reads 3 (some .int) 90 61 Q 50 (lR r i) [] (gW (rA A r st en (nI z)) (rG g r q1 14 q3 q4 q5 (nI p))) := by
    intro p st z q1 q3 q4 q5 e hp hz
    refine xgo sX0_reads [56] 100 (xle rfl) (gRd A g r E hr (xle rfl) rfl (c_X0_needsB E A.pb A.pn (A.tx r).wh en (g.wt r) 59 (by omega) (by omega) q1 q3 q4 q5 p hp st z) (fun rv σ' y => ?_))
    obtain ⟨rfl, rfl⟩ := y
    exact ⟨_, _, _, _, _, _, _, _, rfl, bad p st z q1 q3 q4 q5 e hp hz⟩
  obtain ⟨rfl, ⟨c6, num1, hN1, rfl⟩ | ⟨c6, hp, a1, a2, a3, a4, a5, a6, a7, rfl⟩⟩ := y
  · have hin := af_in (f := A.pb) hq (show ¬ cdF A.pb A.pn q = 13 by omega)
    have es : sgF A.pb A.pn i q = zbind (zpsF A.pb A.pn 2000 9 0 (afF A.pb A.pn q) pv0 0) fun v l q' => if cdF A.pb A.pn q' = 59 then .inr (v, l, afF A.pb A.pn q') else .inl (lpF A.pb A.pn q') := if_pos c6
    have ca := (ca_all E A.pb A.pn (A.tx r).wh en (g.wt r) (hW en) hn 2000).2.2.2.2.2.2.2.2.2.1 (afF A.pb A.pn q) 0 num1 st z (by omega) (by omega) hN1 (by omega) (by omega)
    refine ⟨_, _, _, _, _, _, _, _, rfl, ?_⟩
    show XAt E RX0 cX0_reads 3 (some .int) 90 61 Q 46 (lR r i) [] (gW (rA A r st en (nI z)) (rG g r (nI (afF A.pb A.pn (afF A.pb A.pn q))) (nI (cdF A.pb A.pn (afF A.pb A.pn q))) (nI (lpF A.pb A.pn (afF A.pb A.pn q))) num1 (nI 0) (-1)))
    refine xgo sX0_reads [50] 100 (xle rfl) (gRd A g r E hr (show lK 8 0 < 90 by decide) rfl ca (fun rv σ' y => ?_))
    cases eR : zpsF A.pb A.pn 2000 9 0 (afF A.pb A.pn q) pv0 0 with
    | inl p =>
      rw [eR] at y es
      obtain ⟨rfl, hp, a1, a2, a3, a4, a5, a6, a7, rfl⟩ := y
      exact ⟨_, _, _, _, _, _, _, _, rfl, bad51 p a5 a6 a1 a2 a3 a4 es hp a7⟩
    | inr x =>
      obtain ⟨v, l, q'⟩ := x
      rw [eR] at y es
      have ok := ps_okL A.pb A.pn (k := 9) (by omega) (by omega) rfl eR
      obtain ⟨rfl, st1, s1, s2, num2, hN2, rfl⟩ := y
      refine ⟨_, _, _, _, _, _, _, _, rfl, ?_⟩
      have es : sgF A.pb A.pn i q = if cdF A.pb A.pn q' = 59 then .inr (v, l, afF A.pb A.pn q') else .inl (lpF A.pb A.pn q') := es
      show XAt E RX0 cX0_reads 3 (some .int) 90 61 Q 50 (lR r i) [] (gW (rA A r st1 en (nI (z + l))) (rG g r (nI (afF A.pb A.pn q')) (nI (cdF A.pb A.pn q')) (nI (lpF A.pb A.pn q')) num2 (nI 0) (-1)))
      refine xgo sX0_reads [56] 100 (xle rfl) (gRd A g r E hr (xle rfl) rfl (c_X0_needs E A.pb A.pn (A.tx r).wh en (g.wt r) (hW en) hn ok.2.1 59 (by omega) (by omega) 0 num2 st1 (z + l) (by omega)) (fun rv σ' y => ?_))
      obtain ⟨rfl, ⟨c59, num3, hN3, rfl⟩ | ⟨c59, hp, a1, a2, a3, a4, a5, a6, a7, rfl⟩⟩ := y
      · rw [if_pos c59] at es
        refine ⟨_, _, _, _, _, _, _, _, rfl, ?_⟩
        show XAt E RX0 cX0_reads 3 (some .int) 90 61 Q 56 (lR r i) [] (gW (rA A r st1 en (nI (z + l))) (rG g r (nI (afF A.pb A.pn (afF A.pb A.pn q'))) (nI (cdF A.pb A.pn (afF A.pb A.pn q'))) (nI (lpF A.pb A.pn (afF A.pb A.pn q'))) num3 (nI 0) (-1)))
        exact l_readsE A g r E hr Q i hi st1 en (z + l) _ _ _ num3 (nI 0) (-1) (kG v l _ st1 num3 es s1 s2 hN3)
      · rw [if_neg c59] at es
        exact ⟨_, _, _, _, _, _, _, _, rfl, bad _ a5 a6 a1 a2 a3 a4 es hp a7⟩
  · have es : sgF A.pb A.pn i q = .inl (lpF A.pb A.pn q) := if_neg c6
    refine ⟨_, _, _, _, _, _, _, _, rfl, ?_⟩
    show XAt E RX0 cX0_reads 3 (some .int) 90 61 Q 46 (lR r i) [] (gW (rA A r a5 en (nI a6)) (rG g r a1 14 a2 a3 a4 (nI (lpF A.pb A.pn q))))
    refine xgo sX0_reads [50] 100 (xle rfl) (gRd A g r E hr (xle rfl) rfl (f_X0_or E A.pb A.pn (A.tx r).wh en (g.wt r) a1 a2 a3 a4 _ hp a5 a6) (fun rv σ' y => ?_))
    obtain ⟨rfl, rfl⟩ := y
    exact ⟨_, _, _, _, _, _, _, _, rfl, bad51 _ a5 a6 a1 a2 a3 a4 es hp a7⟩
end CREAD
