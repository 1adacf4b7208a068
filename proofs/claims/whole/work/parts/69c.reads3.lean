-- ===== reads, and text =====
/-- what reads leaves -/
def RdC (A : AS) (r : Nat) : XQ := fun rv σ' => match prF A.pb A.pn with
  | .inl p => rv = some (.int (nI p)) ∧ p < 2147483648 ∧ ∃ st en sz g', σ' = gW (rA A r st en sz) g'
  | .inr (v0, v1, v2, l0, l1, l2) => rv = some (.int (-1)) ∧ l0 + l1 + l2 ≤ 320 ∧ ∃ st en g', σ' = gW (rA A r st en (nI (l0 + l1 + l2))) g' ∧ en 0 = nI l0 ∧ en 1 = nI (l0 + l1) ∧ en 2 = nI (l0 + l1 + l2) ∧ (∀ nm, Ev st nm 0 l0 (v0 nm) 42) ∧ (∀ nm, Ev st nm l0 l1 (v1 nm) 42) ∧ (∀ nm, Ev st nm (l0 + l1) l2 (v2 nm) 42)
section CREAD
variable (A : AS) (g : GQ) (r : Nat) (E : XEnv)
theorem rd_bad {p : Nat} (e : prF A.pb A.pn = .inl p) (hp : p < 2147483648) (st en : F32) (sz : Int32) (g' : GQ) : RdC A r (some (.int (nI p))) (gW (rA A r st en sz) g') := by
  unfold RdC
  rw [e]
  exact ⟨rfl, hp, st, en, sz, g', rfl⟩
set_option maxRecDepth 100000 in
set_option maxHeartbeats 8000000 in
theorem l_reads3B (hr : r < 6) (p : Nat) (e : prF A.pb A.pn = .inl p) (hp : p < 2147483648) (st en : F32) (z : Nat) (q1 q3 q4 q5 : Int32) : XAt E RX0 cX0_reads 3 (some .int) 90 61 (RdC A r) 33 (lR r 3) [] (gW (rA A r st en (nI z)) (rG g r q1 14 q3 q4 q5 (nI p))) := by
  refine xgo sX0_reads [] 100 (xle rfl) ⟨fun _ => ⟨fun y => absurd (show (14 : Int32) = 13 from y) (by decide), fun _ => gRd A g r E hr (xle rfl) rfl (c_X0_failsB E A.pb A.pn (A.tx r).wh en (g.wt r) q1 14 q3 q4 q5 p hp st z) (fun rv σ' y => ?_)⟩, fun y => absurd (show (2 : Int32) < 3 by decide) y⟩
  obtain ⟨rfl, rfl⟩ := y
  exact ⟨_, _, _, _, _, _, _, _, rfl, rd_bad A r e hp st en (nI z) _⟩
set_option maxRecDepth 100000 in
set_option maxHeartbeats 8000000 in
theorem l_reads3G (hr : r < 6) (v0 v1 v2 : zPV) (l0 l1 l2 q1 q2 q3 : Nat) (e0 : sgF A.pb A.pn 0 0 = .inr (v0, l0, q1)) (e1 : sgF A.pb A.pn 1 q1 = .inr (v1, l1, q2)) (e2 : sgF A.pb A.pn 2 q2 = .inr (v2, l2, q3)) (hn : A.pn ≤ 160) (hq : q3 ≤ A.pn) (hl : l0 + l1 + l2 ≤ 320) (num : Int32) (st en : F32) (h0 : en 0 = nI l0) (h1 : en 1 = nI (l0 + l1)) (h2 : en 2 = nI (l0 + l1 + l2)) (hv0 : ∀ nm, Ev st nm 0 l0 (v0 nm) 42) (hv1 : ∀ nm, Ev st nm l0 l1 (v1 nm) 42) (hv2 : ∀ nm, Ev st nm (l0 + l1) l2 (v2 nm) 42) : XAt E RX0 cX0_reads 3 (some .int) 90 61 (RdC A r) 33 (lR r 3) [] (gW (rA A r st en (nI (l0 + l1 + l2))) (rG g r (nI (afF A.pb A.pn q3)) (nI (cdF A.pb A.pn q3)) (nI (lpF A.pb A.pn q3)) num (nI 0) (-1))) := by
  refine xgo sX0_reads [] 100 (xle rfl) ⟨fun _ => ⟨fun y => ?_, fun y => gRd A g r E hr (xle rfl) rfl (c_X0_fails E A.pb A.pn (A.tx r).wh en (g.wt r) (nI (afF A.pb A.pn q3)) (nI (cdF A.pb A.pn q3)) (nI (lpF A.pb A.pn q3)) num (nI 0) st (l0 + l1 + l2)) (fun rv σ' y2 => ?_)⟩, fun y => absurd (show (2 : Int32) < 3 by decide) y⟩
  · have hc := (cd_eq A.pb A.pn (c := 13) (by omega)).mp y
    have ep : prF A.pb A.pn = .inr (v0, v1, v2, l0, l1, l2) := by
      unfold prF
      rw [e0]
      dsimp only
      rw [e1]
      dsimp only
      rw [e2]
      dsimp only
      rw [if_pos hc]
    unfold RdC
    rw [ep]
    exact ⟨rfl, hl, st, en, _, rfl, h0, h1, h2, hv0, hv1, hv2⟩
  · have hc : ¬ cdF A.pb A.pn q3 = 13 := fun x => y ((cd_eq A.pb A.pn (c := 13) (by omega)).mpr x)
    have ep : prF A.pb A.pn = .inl (lpF A.pb A.pn q3) := by
      unfold prF
      rw [e0]
      dsimp only
      rw [e1]
      dsimp only
      rw [e2]
      dsimp only
      rw [if_neg hc]
    obtain ⟨rfl, rfl⟩ := y2
    exact ⟨_, _, _, _, _, _, _, _, rfl, rd_bad A r ep (by have := lp_in (f := A.pb) hq; omega) st en _ _⟩
set_option maxRecDepth 100000 in
set_option maxHeartbeats 4000000 in
theorem l_three (hW : ∀ en, WordOk E A.pb A.pn (A.tx r).wh en (g.wt r)) (hn : A.pn ≤ 160) (hr : r < 6) (num : Int32) (hN : CN A.pb A.pn 0 num) (st en : F32) : XAt E RX0 cX0_reads 3 (some .int) 90 61 (RdC A r) 33 (lR r 0) [] (gW (rA A r st en (nI 0)) (rG g r (nI (afF A.pb A.pn 0)) (nI (cdF A.pb A.pn 0)) (nI (lpF A.pb A.pn 0)) num (nI 0) (-1))) := by
  refine l_readsG A g r E hW hn hr _ 0 (by omega) 0 (Nat.zero_le _) num hN st en 0 (Nat.zero_le _) (fun p st' en' z' a1 a3 a4 a5 e hp hz => ?_) (fun v0 l0 q1 st0 num0 e0 _ w0 hN0 => ?_)
  · have ep : prF A.pb A.pn = .inl p := by unfold prF; rw [e]
    exact l_readsB A g r E hr _ 1 (by omega) p hp (fun st2 en2 z2 b1 b3 b4 b5 hz2 => l_readsB A g r E hr _ 2 (by omega) p hp (fun st3 en3 z3 c1 c3 c4 c5 _ => l_reads3B A g r E hr p ep hp st3 en3 z3 c1 c3 c4 c5) st2 en2 z2 b1 b3 b4 b5 hz2) st' en' z' a1 a3 a4 a5 hz
  have ok0 := sg_ok (Nat.zero_le _) (by omega) e0
  rw [Nat.zero_add l0]
  refine l_readsG A g r E hW hn hr _ 1 (by omega) q1 ok0.2.1 num0 hN0 st0 _ l0 (by omega) (fun p st' en' z' a1 a3 a4 a5 e hp hz => ?_) (fun v1 l1 q2 st1 num1 e1 s1 w1 hN1 => ?_)
  · have ep : prF A.pb A.pn = .inl p := by unfold prF; rw [e0]; dsimp only; rw [e]
    exact l_readsB A g r E hr _ 2 (by omega) p hp (fun st3 en3 z3 c1 c3 c4 c5 _ => l_reads3B A g r E hr p ep hp st3 en3 z3 c1 c3 c4 c5) st' en' z' a1 a3 a4 a5 hz
  have ok1 := sg_ok ok0.2.1 (by omega) e1
  refine l_readsG A g r E hW hn hr _ 2 (by omega) q2 ok1.2.1 num1 hN1 st1 _ (l0 + l1) (by omega) (fun p st' en' z' a1 a3 a4 a5 e hp hz => ?_) (fun v2 l2 q3 st2 num2 e2 s2 w2 hN2 => ?_)
  · have ep : prF A.pb A.pn = .inl p := by unfold prF; rw [e0]; dsimp only; rw [e1]; dsimp only; rw [e]
    exact l_reads3B A g r E hr p ep hp st' en' z' a1 a3 a4 a5
  have ok2 := sg_ok ok1.2.1 (by omega) e2
  exact l_reads3G A g r E hr v0 v1 v2 l0 l1 l2 q1 q2 q3 e0 e1 e2 hn ok2.2.1 (by omega) num2 st2 _ (by rw [pk_un (by omega), pk_un (by omega), pk_us]) (by rw [pk_un (by omega), pk_us]) pk_us (fun nm => (w0 nm).congr (fun x _ h2 => by rw [s2 x (by omega), s1 x (by omega)])) (fun nm => (w1 nm).congr (fun x _ h2 => s2 x h2)) w2
end CREAD
