-- ===== reads =====
section CREAD
variable (A : AS) (g : GQ) (r : Nat) (E : XEnv)
set_option maxRecDepth 100000 in
set_option maxHeartbeats 4000000 in
theorem l_at27 (hW : ∀ en, WordOk E A.pb A.pn (A.tx r).wh en (g.wt r)) (hn : A.pn ≤ 160) (hr : r < 6) (st en : F32) (a b c : Int32) : XAt E RX0 cX0_reads 3 (some .int) 90 61 (RdC A r) 27 [(0, .ref 3), (1, .ref (tp r))] [] (gW (rA A r st en (nI 0)) (rG g r (nI 0) a b c (nI 0) (-1))) := by
  refine xgo sX0_reads [33] 100 (xle rfl) (gRd A g r E hr (xle rfl) rfl (c_X0_next E A.pb A.pn (A.tx r).wh en (g.wt r) (hW _) hn 0 (Nat.zero_le _) a b c (nI 0) (-1) st 0) (fun rv σ' y => ?_))
  obtain ⟨rfl, num, hN, rfl⟩ := y
  exact ⟨_, _, _, _, _, _, _, _, rfl, l_three A g r E hW hn hr num hN st en⟩
set_option maxRecDepth 100000 in
set_option maxHeartbeats 4000000 in
theorem l_at12 (hW : ∀ en, WordOk E A.pb A.pn (A.tx r).wh en (g.wt r)) (hn : A.pn ≤ 160) (hr : r < 6) (st en : F32) (a b c d e f : Int32) : XAt E RX0 cX0_reads 3 (some .int) 90 61 (RdC A r) 12 [(0, .ref 3), (1, .ref (tp r))] [] (gW (rA A r st en (nI 0)) (rG g r a b c d e f)) :=
  xgo sX0_reads [27] 100 (xle rfl) (l_at27 A g r E hW hn hr st en b c d)
set_option maxRecDepth 100000 in
set_option maxHeartbeats 4000000 in
theorem l_at9 (hW : ∀ en, WordOk E A.pb A.pn (A.tx r).wh en (g.wt r)) (hn : A.pn ≤ 160) (hr : r < 6) (a b c d e f : Int32) : XAt E RX0 cX0_reads 3 (some .int) 90 61 (RdC A r) 9 [(0, .ref 3), (1, .ref (tp r))] [.ref (tp r)] (gW A (rG g r a b c d e f)) := by
  obtain ⟨z0, ez⟩ := nI_all (A.tx r).sz
  rw [← rA_e A r, ← ez]
  have h12 := l_at12 A g r E hW hn hr (A.tx r).st (A.tx r).en a b c d e f
  generalize (A.tx r).st = st at h12 ⊢
  generalize (A.tx r).en = en at h12 ⊢
  refine xgo sX0_reads [12] 100 (xle rfl) (hO_i (gtx _ _ r hr).1 (gTe A (rG g r a b c d e f) r E hr (xle rfl) rfl (c_X3_clear E (A.tx r).wh z0 st en (g.wt r)) (fun rv σ' y => ?_)))
  obtain ⟨rfl, rfl⟩ := y
  exact ⟨_, _, _, rfl, h12⟩
set_option maxRecDepth 100000 in
set_option maxHeartbeats 4000000 in
theorem c_X0_reads (hW : ∀ en, WordOk E A.pb A.pn (A.tx r).wh en (g.wt r)) (hn : A.pn ≤ 160) (hr : r < 6) : XCall E 90 yX0_reads cX0_reads 3 (some .int) [.ref 3, .ref (tp r)] (gW A g) (RdC A r) :=
  XCall.of (by decide +kernel) (xle rfl) (xgo sX0_reads [9] 100 (xle rfl) (l_at9 A g r E hW hn hr g.q1 g.q2 g.q3 g.q4 g.q5 g.q6))
end CREAD
