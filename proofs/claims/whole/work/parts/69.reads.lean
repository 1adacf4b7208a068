-- ===== the class reads a whole text =====
theorem nI_all (x : Int32) : ∃ n, nI n = x := ⟨x.toBitVec.toNat, by
  unfold nI
  rw [← Int32.toBitVec_inj]
  rw [Int32.toBitVec_ofNat']
  exact BitVec.ofNat_toNat _ _ |>.trans (BitVec.setWidth_eq _)⟩
def PR (r : Nat) : List Nat := [3, 4, tp r, tp r + 1, tp r + 2, tp r + 3]
def PT (r : Nat) : List Nat := [tp r, tp r + 1, tp r + 2, tp r + 3]
def txM (wh : Int32) (st en : F32) (sz : Int32) : TX := (wh, st, en, sz)
def rA (A : AS) (r : Nat) (st en : F32) (sz : Int32) : AS := (A.S, A.ru, A.ik, A.K, A.kr, A.tc, va_up A.tx r (txM (A.tx r).wh st en sz), A.tb, A.tz, A.pb, A.pn, A.sh)
def rG (g : GQ) (r : Nat) (q1 q2 q3 q4 q5 q6 : Int32) : GQ := (g.th, g.tr, g.nm, g.wt, q1, q2, q3, q4, q5, q6, some r)
theorem rA_e (A : AS) (r : Nat) : gW (rA A r (A.tx r).st (A.tx r).en (A.tx r).sz) = gW A := by
  have : va_up A.tx r (txM (A.tx r).wh (A.tx r).st (A.tx r).en (A.tx r).sz) = A.tx := by
    funext j
    unfold va_up
    by_cases h : j = r
    · subst h
      rw [if_pos rfl]
      rfl
    · rw [if_neg h]
  unfold rA
  rw [this]
  rfl
section CREAD
variable (A : AS) (g : GQ) (r : Nat)
set_option maxRecDepth 100000 in
set_option maxHeartbeats 4000000 in
theorem subR (hr : r < 6) (st en : F32) (z : Nat) (q1 q2 q3 q4 q5 q6 : Int32) : xSub (PR r) (gW (rA A r st en (nI z)) (rG g r q1 q2 q3 q4 q5 q6)) (cW A.pb A.pn (A.tx r).wh en (g.wt r) q1 q2 q3 q4 q5 q6 st z) := by
  rcases (by omega : r = 0 ∨ r = 1 ∨ r = 2 ∨ r = 3 ∨ r = 4 ∨ r = 5) with rfl | rfl | rfl | rfl | rfl | rfl <;> rfl
set_option maxRecDepth 100000 in
set_option maxHeartbeats 4000000 in
theorem mrgR (hr : r < 6) (st en : F32) (z : Nat) (q1 q2 q3 q4 q5 q6 : Int32) (st' : F32) (z' : Nat) (p1 p2 p3 p4 p5 p6 : Int32) : xmg (PR r) (PR r) (cW A.pb A.pn (A.tx r).wh en (g.wt r) p1 p2 p3 p4 p5 p6 st' z') (gW (rA A r st en (nI z)) (rG g r q1 q2 q3 q4 q5 q6)) = gW (rA A r st' en (nI z')) (rG g r p1 p2 p3 p4 p5 p6) := by
  rcases (by omega : r = 0 ∨ r = 1 ∨ r = 2 ∨ r = 3 ∨ r = 4 ∨ r = 5) with rfl | rfl | rfl | rfl | rfl | rfl <;> rfl
set_option maxRecDepth 100000 in
set_option maxHeartbeats 4000000 in
theorem subT (hr : r < 6) (st en : F32) (z : Nat) : xSub (PT r) (gW (rA A r st en (nI z)) g) (teW (A.tx r).wh z st en (g.wt r)) := by
  rcases (by omega : r = 0 ∨ r = 1 ∨ r = 2 ∨ r = 3 ∨ r = 4 ∨ r = 5) with rfl | rfl | rfl | rfl | rfl | rfl <;> rfl
set_option maxRecDepth 100000 in
set_option maxHeartbeats 4000000 in
theorem mrgT (hr : r < 6) (st en : F32) (z : Nat) (st' en' : F32) (z' : Nat) : xmg (PT r) (PT r) (teW (A.tx r).wh z' st' en' (g.wt r)) (gW (rA A r st en (nI z)) g) = gW (rA A r st' en' (nI z')) g := by
  rcases (by omega : r = 0 ∨ r = 1 ∨ r = 2 ∨ r = 3 ∨ r = 4 ∨ r = 5) with rfl | rfl | rfl | rfl | rfl | rfl <;> rfl
theorem PR_nd : (PR r).Nodup := Pnd r [3, 4] (by decide) (by decide)
theorem PT_nd : (PT r).Nodup := Pnd r [] (by decide) (by decide)
variable (E : XEnv)
theorem gRd {Lv d : Nat} {y : MethodName} {cc : ByteArray} {nL : Nat} {rt : Option FieldType} {as : List Value} {Qc K : XQ} (hr : r < 6) {st en : F32} {z : Nat} {q1 q2 q3 q4 q5 q6 : Int32} (hd : d < Lv) (has : as = as.map (xv (xp (PR r)))) (h : XCall E d y cc nL rt (.ref 0 :: as) (cW A.pb A.pn (A.tx r).wh en (g.wt r) q1 q2 q3 q4 q5 q6 st z) Qc) (k : ∀ rv σ', Qc rv σ' → ∃ p1 p2 p3 p4 p5 p6 st' z', σ' = cW A.pb A.pn (A.tx r).wh en (g.wt r) p1 p2 p3 p4 p5 p6 st' z' ∧ K rv (gW (rA A r st' en (nI z')) (rG g r p1 p2 p3 p4 p5 p6))) : XIn E Lv y cc nL rt (.ref 3 :: as) (gW (rA A r st en (nI z)) (rG g r q1 q2 q3 q4 q5 q6)) K := by
  refine XIn.sub (PR r) hd h (PR_nd r) (Nat.le_of_ble_eq_true rfl) (subR A g r hr st en z q1 q2 q3 q4 q5 q6) (by rw [List.map_cons, ← has]; rfl) (fun rv σ' _ hq => ?_)
  obtain ⟨p1, p2, p3, p4, p5, p6, st', z', rfl, hk⟩ := k rv σ' hq
  rw [mrgR A g r hr]
  exact hk
theorem gTe {Lv d : Nat} {y : MethodName} {cc : ByteArray} {nL : Nat} {rt : Option FieldType} {as : List Value} {Qc K : XQ} (hr : r < 6) {st en : F32} {z : Nat} (hd : d < Lv) (has : as = as.map (xv (xp (PT r)))) (h : XCall E d y cc nL rt (.ref 0 :: as) (teW (A.tx r).wh z st en (g.wt r)) Qc) (k : ∀ rv σ', Qc rv σ' → ∃ st' en' z', σ' = teW (A.tx r).wh z' st' en' (g.wt r) ∧ K rv (gW (rA A r st' en' (nI z')) g)) : XIn E Lv y cc nL rt (.ref (tp r) :: as) (gW (rA A r st en (nI z)) g) K := by
  refine XIn.sub (PT r) hd h (PT_nd r) (Nat.le_of_ble_eq_true rfl) (subT A g r hr st en z) (by rw [List.map_cons, ← has]; rfl) (fun rv σ' _ hq => ?_)
  obtain ⟨st', en', z', rfl, hk⟩ := k rv σ' hq
  rw [mrgT A g r hr]
  exact hk
end CREAD
