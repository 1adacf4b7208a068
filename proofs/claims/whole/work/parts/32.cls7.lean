theorem up_up {α : Type} (f : Nat → α) (k : Nat) (v w : α) : va_up (va_up f k v) k w = va_up f k w := by
  funext j
  unfold va_up
  split <;> rfl
theorem shF_shF (A : AS) (s : Nat) (a b : Int32) (m n : Nat) (f h : F32) : shF (shF A s a m f) s b n h = shF A s b n h := by
  show A.set_sh (va_up (va_up A.sh s _) s _) = _
  rw [up_up]
  rfl
theorem shF_at (A : AS) (s : Nat) (a : Int32) (m : Nat) (f : F32) : (shF A s a m f).sh s = (a, m, f) := if_pos rfl
theorem CI.shF {A : AS} (hC : CI A) {s : Nat} {a : Int32} {m : Nat} {f : F32} (hm : m ≤ 40) : CI (shF A s a m f) := by
  obtain ⟨c1, c2, c3, c4, c5, c6, c7, c8, c9, c10⟩ := hC
  refine ⟨c1, c2, c3, c4, c5, c6, c7, c8, fun i hi => ?_, c10⟩
  show (va_up A.sh s (a, m, f) i).2.1 ≤ 40
  unfold va_up
  split
  · exact hm
  · exact c9 i hi
section THG
variable {E : XEnv} {Lv : Nat} {K : XQ}
/-- a day of the ship in thought, whatever its rule -/
theorem tDayG (hL : 13 < Lv) {A : AS} (hC : CI A) (g : GQ) (ht : g.tr < A.tc) (hn : g.th.n ≤ 5) (k : ∀ g' : GQ, g'.tr = g.tr → g'.th = dayF (tvA A g.tr) g.th → K none (gW A g')) : XIn E Lv yX2_passDay cX2_passDay 3 none [.ref 13] (gW A g) K := by
  have hr : g.tr < 6 := Nat.lt_of_lt_of_le ht hC.2.2.1
  refine gS1 A g hr hL rfl (c_X2_passDay E (A.tx g.tr) (hC.2.2.2.1 _ ht) g.th _ _ hn) (fun r σ' h => ?_)
  obtain ⟨rfl, nm', wt', rfl⟩ := h
  exact ⟨_, _, _, rfl, k _ rfl rfl⟩
end THG
section CLS
variable (E : XEnv) (A : AS) (g : GQ)
set_option maxRecDepth 100000 in
set_option maxHeartbeats 4000000 in
theorem l_X4_film (hC : CI A) {s : Nat} (hs : s < 4) (n : Nat) (hn : n ≤ 20) (j : Nat) : ∀ (k : Nat) (g : GQ), g.tr = A.ru → g.th = daysF (tvA A A.ru) k A.S → k + j = n → XAt E RX4 cX4_film 5 (some .int) 20 61 (XR (nI n, shF A s 0 n (fmF (tvA A A.ru) A.S n))) 47 [(0, .ref 0), (1, .int (nI s)), (2, .int (nI n)), (3, .ref (29 + 2 * s)), (4, .int (nI k))] [] (gW (shF A s 0 n (fmF (tvA A A.ru) A.S k)) g) := by
  induction j with
  | zero =>
    intro k g ht hg hk
    obtain rfl : k = n := by omega
    exact xgo sX4_film [47] 100 (xle rfl) ⟨fun _ => ⟨rfl, g, rfl⟩, fun h => absurd (nI_le (Nat.le_refl _) (by omega)) h⟩
  | succ j IH =>
    intro k g ht hg hk
    have hCk : CI (shF A s 0 n (fmF (tvA A A.ru) A.S k)) := hC.shF (by omega)
    refine xgo sX4_film [47, 70] 100 (xle rfl) ⟨fun h => absurd h (nI_ge (by omega) (by omega)), fun _ => tDay (xle rfl) hCk g ht (by rw [hg, daysF_n]; exact hC.1) (fun g' ht' hg' => ?_)⟩
    have hat := shF_at A s 0 n (fmF (tvA A A.ru) A.S k)
    have hput := c_X1_put E 0 n (fmF (tvA A A.ru) A.S k) (by omega) k (by omega) g'.th.wa
    have hsh := fun K => gSh (K := K) (E := E) (Lv := 20) (d := 11) (y := yX1_put) (cc := cX1_put) (nL := 3) (rt := none) (as := [.int (nI k), .int g'.th.wa]) (Qc := fun r σ' => r = none ∧ σ' = sheW 0 n (upd (fmF (tvA A A.ru) A.S k) k (putF 0 g'.th.wa))) (shF A s 0 n (fmF (tvA A A.ru) A.S k)) g' hs (xle rfl) rfl (by rw [hat]; exact hput)
    refine xgo sX4_film [47] 100 (xle rfl) (hO_i (gsh (shF A s 0 n (fmF (tvA A A.ru) A.S k)) g' hs).1 (hsh _ (fun r σ' h => ?_)))
    obtain ⟨rfl, rfl⟩ := h
    refine ⟨_, _, _, rfl, ?_⟩
    have hg2 : g'.th = daysF (tvA A A.ru) (k + 1) A.S := by
      rw [hg', hg, daysF_s]
      rfl
    have ih := IH (k + 1) g' ht' hg2 (by omega)
    have e1 : (shF A s 0 n (fmF (tvA A A.ru) A.S k)).set_sh (va_up (shF A s 0 n (fmF (tvA A A.ru) A.S k)).sh s (0, n, upd (fmF (tvA A A.ru) A.S k) k (putF 0 g'.th.wa))) = shF A s 0 n (fmF (tvA A A.ru) A.S (k + 1)) := by
      rw [hg2]
      exact shF_shF A s 0 0 n n _ _
    rw [e1]
    rw [nI_succ] at ih
    exact ih
set_option maxRecDepth 100000 in
set_option maxHeartbeats 4000000 in
theorem c_X4_film (hC : CI A) (s n : Int32) : XCall E 20 yX4_film cX4_film 5 (some .int) [.ref 0, .int s, .int n] (gW A g) (XR (o_film A s n)) := by
  unfold o_film
  refine XCall.of (by decide +kernel) (xle rfl) (xgo sX4_film [47] 100 (xle rfl) ⟨fun h => ?_, fun h => ⟨fun h2 => ?_, fun h2 => ?_⟩⟩)
  · rw [if_pos h]
    exact ⟨rfl, g, rfl⟩
  · rw [if_neg h, if_neg h2]
    obtain ⟨k, hk, rfl⟩ := fs_e h
    obtain ⟨m, hm, rfl⟩ := fw_e (n := 21) (by omega) h2
    rw [nI_clamp (n := k) (by omega), nI_clamp (n := m) (by omega)]
    refine ⟨vp_in_nI (by omega) (by omega), _, aa3 hk, hO_i (gsh A g hk).1 (gSh A g hk (xle rfl) rfl (c_X1_becomes E _ _ _ 0 m (by omega)) (fun r σ' h6 => ?_))⟩
    obtain ⟨rfl, rfl⟩ := h6
    refine ⟨_, _, _, rfl, XIn.same (xle rfl) (c_becomes_th E (shF A k 0 m (fun _ => 0)) g) (fun r σ' _ h => ?_)⟩
    obtain ⟨rfl, rfl⟩ := h
    exact l_X4_film E A hC hk m (by omega) m 0 (gTh A g) rfl rfl (Nat.zero_add _)
  · rw [if_neg h, if_pos h2]
    exact ⟨rfl, g, rfl⟩
set_option maxRecDepth 100000 in
set_option maxHeartbeats 4000000 in
theorem l_X4_stands (hC : CI A) (n : Nat) (hn : n ≤ 40) (k : Nat) : ∀ (v : Int32) (g : GQ), k ≤ 100 → v = nI k + (-1) → XAt E RX4 cX4_stands 3 (some .int) 20 61 (XR (stF (tvA A A.ru) A.S n k, A)) 16 [(0, .ref 0), (1, .int (nI n)), (2, .int v)] [] (gW A g) := by
  induction k with
  | zero =>
    intro v g hk hv
    refine xgo sX4_stands [16] 100 (xle rfl) ⟨fun _ => ⟨rfl, g, rfl⟩, fun h => absurd ?_ h⟩
    rw [hv]
    decide
  | succ k IH =>
    intro v g hk hv
    rw [pk_m1] at hv
    subst hv
    refine xgo sX4_stands [16] 100 (xle rfl) ⟨fun h => absurd h (nI_pos (by omega)), fun _ => XIn.same (xle rfl) (c_becomes_th E A g) (fun r σ' _ h => ?_)⟩
    obtain ⟨rfl, rfl⟩ := h
    refine tPass (xle rfl) hC ((gTh A g).set_th (A.S.setSe (nI k))) rfl hC.1 n (by omega) (fun g' ht' hg' => ?_)
    refine tDown (xle rfl) hC g' ht' (fun g2 ht2 hg2 => ?_)
    have hg3 : g'.th = daysF (tvA A A.ru) n (A.S.setSe (nI k)) := hg'
    rw [hg3]
    have e1 : (daysF (tvA A A.ru) n (A.S.setSe (nI k))).wa < 100 → stF (tvA A A.ru) A.S n (k + 1) = nI k := fun h => if_pos h
    have e2 : ¬ (daysF (tvA A A.ru) n (A.S.setSe (nI k))).wa < 100 → stF (tvA A A.ru) A.S n (k + 1) = stF (tvA A A.ru) A.S n k := fun h => if_neg h
    obtain ⟨w, hw⟩ : ∃ w, w = (daysF (tvA A A.ru) n (A.S.setSe (nI k))).wa := ⟨_, rfl⟩
    rw [← hw] at e1 e2 ⊢
    by_cases hd : w < 100
    · rw [if_pos hd, e1 hd]
      exact ⟨fun h => absurd rfl h, fun _ => ⟨rfl, g2, rfl⟩⟩
    · rw [if_neg hd, e2 hd]
      exact ⟨fun _ => IH (nI k + (-1)) g2 (by omega) rfl, fun h => absurd h (by decide)⟩
set_option maxRecDepth 100000 in
set_option maxHeartbeats 4000000 in
theorem c_X4_stands (hC : CI A) (n : Int32) : XCall E 20 yX4_stands cX4_stands 3 (some .int) [.ref 0, .int n] (gW A g) (XR (o_stands A n)) := by
  unfold o_stands
  refine XCall.of (by decide +kernel) (xle rfl) (xgo sX4_stands [16] 100 (xle rfl) ⟨fun h => ?_, fun h => ?_⟩)
  · rw [if_neg h]
    obtain ⟨q1, q2⟩ := fw_y h
    obtain ⟨k, hk, rfl⟩ := nI_of (Int32.not_lt.mpr (Int32.le_trans (show (0 : Int32) ≤ 1 by decide) q1))
    have hk2 := (nI_leI (b := 40) hk (by omega)).mp q2
    rw [nI_clamp hk]
    exact l_X4_stands E A hC k hk2 100 99 g (by omega) (by decide +kernel)
  · rw [if_pos h]
    exact ⟨rfl, g, rfl⟩
end CLS
