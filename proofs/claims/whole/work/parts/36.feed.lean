-- ===== feed =====
def o_feed (A : AS) (x : Int32) : Int32 × AS := if f_within x 0 255 = 0 then (-2, A) else if A.pn < 160 then (nI (A.pn + 1), (A.set_pb (upd A.pb A.pn x)).set_pn (A.pn + 1)) else (-4, A)
section CLS
variable (E : XEnv) (A : AS) (g : GQ)
set_option maxRecDepth 100000 in
set_option maxHeartbeats 4000000 in
theorem c_X0_takes (hp : A.pn ≤ 160) (x : Int32) : XCall E 10 yX0_takes cX0_takes 2 (some .boolean) [.ref 3, .int x] (gW A g) (fun r σ' => (A.pn < 160 ∧ r = some (.int 1) ∧ σ' = gW ((A.set_pb (upd A.pb A.pn x)).set_pn (A.pn + 1)) g) ∨ (160 ≤ A.pn ∧ r = some (.int 0) ∧ σ' = gW A g)) := by
  have hc : (nI A.pn).toNatClampNeg = A.pn := nI_clamp (by omega)
  refine XCall.of (by decide +kernel) (xle rfl) (xgo sX0_takes [] 60 (xle rfl) ⟨fun h => ?_, fun h => ⟨Or.inl rfl, Or.inr ⟨?_, rfl, rfl⟩⟩⟩)
  · have hlt := (nI_ltI (a := A.pn) (b := 160) (by omega) (by omega)).mp h
    refine ⟨vp_in_nI (by omega) (by omega), Or.inr rfl, Or.inl ⟨hlt, rfl, ?_⟩⟩
    rw [hc]
    show _ = gW ((A.set_pb (upd A.pb A.pn x)).set_pn (A.pn + 1)) g
    unfold gW
    rw [show nI ((A.set_pb (upd A.pb A.pn x)).set_pn (A.pn + 1)).pn = nI A.pn + 1 from nI_succ _]
    rfl
  · rcases Nat.lt_or_ge A.pn 160 with q | q
    · exact absurd (nI_lt (b := 160) q (by omega)) h
    · exact q
set_option maxRecDepth 100000 in
set_option maxHeartbeats 4000000 in
theorem c_X4_feed (hC : CI A) (x : Int32) : XCall E 20 yX4_feed cX4_feed 2 (some .int) [.ref 0, .int x] (gW A g) (XR (o_feed A x)) := by
  unfold o_feed
  refine XCall.of (by decide +kernel) (xle rfl) (xgo sX4_feed [] 60 (xle rfl) ⟨fun h => ?_, fun h => ?_⟩)
  · rw [if_neg h]
    refine XIn.same (xle rfl) (c_X0_takes E A g hC.2.2.2.2.2.2.2.1 x) (fun r σ' _ q => ?_)
    rcases q with ⟨q, rfl, rfl⟩ | ⟨q, rfl, rfl⟩
    · rw [if_pos q]
      exact ⟨fun z => absurd z (by decide), fun _ => ⟨rfl, g, rfl⟩⟩
    · rw [if_neg (by omega)]
      exact ⟨fun _ => ⟨rfl, g, rfl⟩, fun z => absurd rfl z⟩
  · rw [if_pos h]
    exact ⟨rfl, g, rfl⟩
end CLS
