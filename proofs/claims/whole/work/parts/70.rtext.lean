-- ===== the reference: text =====
def cpT (f : F32) (b : Nat) (p : F32) (i : Nat) : F32 := fun j => if b ≤ j ∧ j < b + i then p (j - b) else f j
theorem cpT_0 (f : F32) (b : Nat) (p : F32) : cpT f b p 0 = f := by
  funext j
  unfold cpT
  rw [if_neg (by omega)]
theorem cpT_s (f : F32) (b : Nat) (p : F32) (i : Nat) : upd (cpT f b p i) (b + i) (p i) = cpT f b p (i + 1) := by
  funext j
  unfold upd cpT
  by_cases e : j = b + i
  · rw [if_pos e, if_pos (by omega), e, show b + i - b = i by omega]
  · rw [if_neg e]
    by_cases h : b ≤ j ∧ j < b + i
    · rw [if_pos h, if_pos (by omega)]
    · rw [if_neg h, if_neg (by omega)]
theorem cpT_in {f : F32} {b : Nat} {p : F32} {n i : Nat} (h : i < n) : cpT f b p n (b + i) = p i := by
  unfold cpT
  rw [if_pos (by omega), show b + i - b = i by omega]
theorem cpT_out {f : F32} {b : Nat} {p : F32} {n j : Nat} (h : j < b ∨ b + n ≤ j) : cpT f b p n j = f j := by
  unfold cpT
  rw [if_neg (by omega)]
def YQ.txs (h : YQ) (X T : F32) : YQ := (X, T, h.o1, h.o2, h.o3, h.o4, h.o5, h.o6, h.p1, h.p2, h.p3, h.p4, h.p5, h.pw, h.p6, h.p7, h.p8, h.wz, h.ba, h.b1, h.b2, h.b3, h.rk, h.bk, h.sk, h.k1, h.k2, h.k3, h.k4, h.k5, h.it0, h.so, h.sz, h.it, h.th)
def textS (A : AS) : AS := (A.S, A.ru, A.ik, A.K, A.kr, A.tc, A.tx, A.tb, A.tz, A.pb, 0, A.sh)
def Ytx (A : AS) (h h' : YQ) : Prop := (h'.tx = cpT h.tx (160 * A.tc) A.pb A.pn ∧ h'.ts = upd h.ts A.tc (nI A.pn)) ∧ (h'.it0 = h.it0 ∧ h'.so = h.so ∧ h'.sz = h.sz ∧ h'.it = h.it) ∧ h'.rk = h.rk ∧ h'.bk = h.bk ∧ h'.sk = h.sk ∧ h'.k1 = h.k1 ∧ h'.k2 = h.k2 ∧ h'.k3 = h.k3 ∧ h'.k4 = h.k4 ∧ h'.k5 = h.k5
def RM1 (A : AS) (h : YQ) : XQ := fun rv σ' => match prF A.pb A.pn with
  | .inl p => rv = some (.int (-100 - nI p)) ∧ ∃ h', Ytx A h h' ∧ ∀ st en sz, σ' = mW (textB A st en sz) h'
  | .inr _ => rv = some (.int (nI A.tc)) ∧ ∃ h', Ytx A h h' ∧ ∀ st en sz, σ' = mW (textA A st en sz) h'
def RMx (A : AS) (h : YQ) : XQ := fun rv σ' => if A.tc < 6 then RM1 A h rv σ' else rv = some (.int (-4)) ∧ σ' = mW A h
theorem rm1_bad {A : AS} {h : YQ} {p : Nat} (e : prF A.pb A.pn = .inl p) {h' : YQ} (hy : Ytx A h h') (fl : Int32) (hf : fl = nI p) : RM1 A h (some (.int (-100 - fl))) (mW (textS A) h') := by
  unfold RM1
  rw [e, hf]
  exact ⟨rfl, h', hy, fun st en sz => rfl⟩
theorem rm1_ok {A : AS} {h : YQ} {x : zPV × zPV × zPV × Nat × Nat × Nat} (e : prF A.pb A.pn = .inr x) {h' : YQ} (hy : Ytx A h h') (rv : Option Value) (σ : XW) (hr : rv = some (.int (nI A.tc))) (hσ : ∀ st en sz, σ = mW (textA A st en sz) h') : RM1 A h rv σ := by
  unfold RM1
  rw [e]
  exact ⟨hr, h', hy, hσ⟩
section MODEL
variable (E : XEnv) (A : AS) (h : YQ)
set_option maxRecDepth 100000 in
set_option maxHeartbeats 4000000 in
theorem l_X5_textc (htc : A.tc < 6) (hn : A.pn ≤ 160) (Q : XQ) (k : XAt E RX5 cX5_text 2 (some .int) 80 16 Q 49 [(0, .ref 0), (1, .int (nI A.pn))] [] (mW A (h.txs (cpT h.tx (160 * A.tc) A.pb A.pn) h.ts))) (j : Nat) : ∀ i, i + j = A.pn → XAt E RX5 cX5_text 2 (some .int) 80 16 Q 14 [(0, .ref 0), (1, .int (nI i))] [] (mW A (h.txs (cpT h.tx (160 * A.tc) A.pb i) h.ts)) := by
  induction j with
  | zero =>
    intro i hi
    have e : i = A.pn := by omega
    subst e
    exact xgo sX5_text [14, 49] 60 (xle rfl) ⟨fun _ => k, fun y => absurd (nI_le (a := A.pn) (b := A.pn) (by omega) (by omega)) y⟩
  | succ j IH =>
    intro i hi
    have ci : (nI i).toNatClampNeg = i := nI_clamp (by omega)
    have ei : (160 : Int32) * nI A.tc + nI i = nI (160 * A.tc + i) := by rw [show (160 : Int32) = nI 160 from rfl, pk_mul, nI_add]
    have ce : (nI (160 * A.tc + i)).toNatClampNeg = 160 * A.tc + i := nI_clamp (by omega)
    have ih := IH (i + 1) (by omega)
    obtain ⟨X, eX⟩ : ∃ X, X = cpT h.tx (160 * A.tc) A.pb i := ⟨_, rfl⟩
    rw [← cpT_s, ← eX, nI_succ] at ih
    rw [← eX]
    refine xgo sX5_text [14, 49] 60 (xle rfl) ⟨fun y => absurd y (nI_ge (a := i) (b := A.pn) (by omega) (by omega)), fun _ => ⟨vp_in_nI (by omega) (by omega), by rw [ei]; exact vp_in_nI (by omega) (by omega), ?_⟩⟩
    rw [ei, ce, ci]
    exact ih
set_option maxRecDepth 100000 in
set_option maxHeartbeats 4000000 in
theorem l_X5_text49 (htc : A.tc < 6) (hn : A.pn ≤ 160) (h0 : ∀ i, i < A.pn → 0 ≤ A.pb i) (l : Int32) : XAt E RX5 cX5_text 2 (some .int) 80 16 (RM1 A h) 49 [(0, .ref 0), (1, .int l)] [] (mW A (h.txs (cpT h.tx (160 * A.tc) A.pb A.pn) h.ts)) := by
  have ct : (nI A.tc).toNatClampNeg = A.tc := nI_clamp (by omega)
  obtain ⟨X, eX⟩ : ∃ X, X = cpT h.tx (160 * A.tc) A.pb A.pn := ⟨_, rfl⟩
  obtain ⟨T, eT⟩ : ∃ T, T = upd h.ts A.tc (nI A.pn) := ⟨_, rfl⟩
  have hY : ∀ x, Ytx A h ((h.txs X T).rd x) := fun x => ⟨⟨eX, eT⟩, ⟨rfl, rfl, rfl, rfl⟩, rfl, rfl, rfl, rfl, rfl, rfl, rfl, rfl⟩
  have cr := c_X5_read E (textS A) (h.txs X T) A.pb A.pn A.tc 0 htc (by omega) hn (by show T A.tc = _; rw [eT, pk_us]) (fun i hi => by show X _ = _; rw [eX]; exact cpT_in hi) h0
  have at76 : ∀ (v : Int32) (x : RQ), (((h.txs X T).rd x).p7 = 1 ∧ ∃ p, prF A.pb A.pn = .inl p ∧ ((h.txs X T).rd x).p8 = nI p) ∨ (((h.txs X T).rd x).p7 = 0 ∧ ∃ y, prF A.pb A.pn = .inr y) → XAt E RX5 cX5_text 2 (some .int) 80 16 (RM1 A h) 76 [(0, .ref 0), (1, .int l)] [.int v] (mW (textS A) ((h.txs X T).rd x)) := by
    intro v x hx
    have hy := hY x
    generalize (h.txs X T).rd x = h2 at hx hy ⊢
    rcases hx with ⟨e7, p, ep, e8⟩ | ⟨e7, y, ep⟩
    · exact xgo sX5_text [] 60 (xle rfl) ⟨fun z => absurd (e7.symm.trans z) (by decide), fun _ => rm1_bad ep hy _ e8⟩
    · refine xgo sX5_text [] 60 (xle rfl) ⟨fun _ => rm1_ok ep hy _ _ ?_ (fun st en sz => ?_), fun z => absurd e7 z⟩
      · show some (Value.int (nI A.tc + 1 - 1)) = _
        rw [← nI_succ, nI_pred]
      · unfold mW
        rw [show nI (textA A st en sz).tc = nI A.tc + 1 from nI_succ _]
        rfl
  rw [← eX]
  refine xgo sX5_text [76] 60 (xle rfl) ⟨vp_in_nI (by omega) (by omega), ?_⟩
  rw [ct, show upd (h.txs X h.ts).ts A.tc (nI A.pn) = T from eT.symm]
  refine XIn.same (xle rfl) cr (fun r σ' _ z => ?_)
  unfold RRd at z
  cases eP : prF A.pb A.pn with
  | inl p =>
    rw [eP] at z
    obtain ⟨⟨v, rfl⟩, x, rfl, e7, e8⟩ := z
    exact at76 v x (Or.inl ⟨e7, p, eP, e8⟩)
  | inr y =>
    obtain ⟨v0, v1, v2, l0, l1, l2⟩ := y
    rw [eP] at z
    obtain ⟨rfl, x, rfl, e7⟩ := z
    exact at76 _ x (Or.inr ⟨e7, _, eP⟩)
set_option maxRecDepth 100000 in
set_option maxHeartbeats 4000000 in
theorem c_X5_text (h6 : A.tc ≤ 6) (hn : A.pn ≤ 160) (h0 : ∀ i, i < A.pn → 0 ≤ A.pb i) : XCall E 80 yX5_text cX5_text 2 (some .int) [.ref 0] (mW A h) (RMx A h) := by
  rcases Nat.lt_or_ge A.tc 6 with hlt | hge
  · have l := l_X5_textc E A h hlt hn (RM1 A h) (l_X5_text49 E A h hlt hn h0 (nI A.pn)) A.pn 0 (by omega)
    rw [cpT_0] at l
    refine XCall.mono (Q := RM1 A h) (XCall.of (by decide +kernel) (xle rfl) (xgo sX5_text [14] 60 (xle rfl) ⟨fun _ => l, fun y => ?_⟩)) (fun r σ' _ z => ?_)
    · exact absurd ((nI_eq (a := A.tc) (b := 6) (by omega) (by omega)).mp y) (by omega)
    · unfold RMx
      rw [if_pos hlt]
      exact z
  · have e6 : A.tc = 6 := by omega
    refine XCall.mono (Q := fun r σ' => r = some (.int (-4)) ∧ σ' = mW A h) (XCall.of (by decide +kernel) (xle rfl) (xgo sX5_text [14] 60 (xle rfl) ⟨fun y => absurd (by rw [e6]; rfl) y, fun _ => ⟨rfl, rfl⟩⟩)) (fun r σ' _ z => ?_)
    unfold RMx
    rw [if_neg (by omega)]
    exact z
end MODEL
