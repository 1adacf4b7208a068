-- ===== masks of few bits =====
def whoN (pl : F32) (w : Int32) : Nat → Nat
  | 0 => 0
  | k + 1 => if pl k = w then whoN pl w k + 2 ^ k else whoN pl w k
theorem or_bit {k m : Nat} (hk : k ≤ 10) (hm : m < 2 ^ k) : nI m ||| ((1 : Int32) <<< (nI k &&& 31)) = nI (m + 2 ^ k) := by
  have h : (List.range 11).all (fun k => (List.range (2 ^ k)).all fun m => nI m ||| ((1 : Int32) <<< (nI k &&& 31)) == nI (m + 2 ^ k)) = true := by decide +kernel
  have h1 := List.all_eq_true.mp (List.all_eq_true.mp h k (List.mem_range.mpr (by omega))) m (List.mem_range.mpr hm)
  simpa using h1
theorem whoN_lt (pl : F32) (w : Int32) : ∀ k, whoN pl w k < 2 ^ k
  | 0 => Nat.one_pos
  | k + 1 => by
    have := whoN_lt pl w k
    unfold whoN
    rw [Nat.pow_succ]
    split <;> omega
theorem whoF_N (pl : F32) (w : Int32) : ∀ k, k ≤ 10 → whoF pl w k = nI (whoN pl w k)
  | 0, _ => rfl
  | k + 1, h => by
    have ih := whoF_N pl w k (by omega)
    by_cases hk : pl k = w
    · rw [whoF_y hk, ih, or_bit (by omega) (whoN_lt pl w k), whoN, if_pos hk]
    · rw [whoF_n hk, ih, whoN, if_neg hk]
theorem bits_lt : ∀ m, m < 1024 → ∃ c, c ≤ 10 ∧ f_bits (nI m) = nI c := by
  have h : (List.range 1024).all (fun m => (List.range 11).any fun c => f_bits (nI m) == nI c) = true := by decide +kernel
  intro m hm
  have h1 := List.all_eq_true.mp h m (List.mem_range.mpr hm)
  obtain ⟨c, hc, he⟩ := List.any_eq_true.mp h1
  exact ⟨c, by have := List.mem_range.mp hc; omega, by simpa using he⟩
-- ===== the yard =====
def nuN (mk : F32) : Nat → Nat → Option Nat
  | 0, _ => none
  | j + 1, k => if mk k = -1 then some k else nuN mk j (k + 1)
theorem nuF_N (mk : F32) : ∀ j k, nuF mk j k = (match nuN mk j k with
  | none => -1
  | some m => nI m)
  | 0, _ => rfl
  | j + 1, k => by
    unfold nuF nuN
    by_cases h : mk k = -1
    · rw [if_pos h, if_pos h]
    · rw [if_neg h, if_neg h]
      exact nuF_N mk j (k + 1)
theorem nuN_at (mk : F32) : ∀ j k m, nuN mk j k = some m → k ≤ m ∧ m < k + j
  | 0, _, _, h => by cases h
  | j + 1, k, m, h => by
    unfold nuN at h
    by_cases hk : mk k = -1
    · rw [if_pos hk] at h
      cases h
      omega
    · rw [if_neg hk] at h
      have := nuN_at mk j (k + 1) m h
      omega
def dgF (w : Int32) (q : Nat) : Int32 := w / xst 2 q - w / xst 2 q / 6 * 6 - 1
/-- the parts left, q of them, are built by the way w, from part b on: the ship then; none, if it is no way -/
def wbF (tv : TV) (w : Int32) : Nat → Nat → SH → Option SH
  | 0, _, S => some S
  | q + 1, b, S => match nuN S.ma (10 - b) b with
    | none => none
    | some m => if f_within (dgF w q) 0 (nI S.n - 1) = 0 then none else if S.pl (dgF w q).toNatClampNeg = 0 then wbF tv w q (m + 1) (buildF tv S (dgF w q).toNatClampNeg m) else none
def wyF (tv : TV) (S : SH) (p n : Nat) (w : Int32) : Int32 := match wbF tv w p 0 S with
  | none => 101
  | some T => (daysF tv n (T.setPl (bindF T T.n))).wa
def ydF (tv : TV) (S : SH) (p n : Nat) : Nat → Nat → Int32 → Int32 → Int32 × Int32
  | 0, _, b, l => (b, l)
  | j + 1, k, b, l => if l ≤ 0 then (b, l) else if wyF tv S p n (nI k) < l then ydF tv S p n j (k + 1) (nI k) (wyF tv S p n (nI k)) else ydF tv S p n j (k + 1) b l
def ypF (S : SH) : Int32 := if whoF S.pl 0 S.n = 0 then 0 else f_min 3 (10 - (10 - f_bits (whoF S.ma (-1) 10)))
def wysN (p : Nat) : Nat := 6 ^ p
theorem wys_xst {p : Nat} (h : p ≤ 3) : xst 2 p = nI (6 ^ p) := by
  rcases (by omega : p = 0 ∨ p = 1 ∨ p = 2 ∨ p = 3) with rfl | rfl | rfl | rfl <;> decide +kernel
theorem ypF_at (S : SH) : ∃ p, p ≤ 3 ∧ ypF S = nI p := by
  unfold ypF
  by_cases h : whoF S.pl 0 S.n = 0
  · rw [if_pos h]
    exact ⟨0, by omega, rfl⟩
  · rw [if_neg h, whoF_N _ _ 10 (Nat.le_refl _)]
    obtain ⟨c, hc, he⟩ := bits_lt _ (whoN_lt S.ma (-1) 10)
    rw [he, show (10 : Int32) = nI 10 from rfl, pk_sub hc, pk_sub (by omega)]
    have : 10 - (10 - c) = c := by omega
    rw [this]
    unfold f_min
    by_cases h3 : nI c < (3 : Int32)
    · rw [if_pos h3]
      exact ⟨c, by have := (nI_ltI (a := c) (b := 3) (by omega) (by omega)).mp h3; omega, rfl⟩
    · rw [if_neg h3]
      exact ⟨3, by omega, rfl⟩
def o_yard (A : AS) (n what : Int32) : Int32 × AS :=
  (if f_within n 0 20 = 0 then -2 else if f_within what 0 1 = 0 then -2 else
    if what = 0 then (ydF (tvA A A.ru) A.S (ypF A.S).toNatClampNeg n.toNatClampNeg (6 ^ (ypF A.S).toNatClampNeg) 0 0 101).1 else (ydF (tvA A A.ru) A.S (ypF A.S).toNatClampNeg n.toNatClampNeg (6 ^ (ypF A.S).toNatClampNeg) 0 0 101).2, A)
theorem buildF_n (tv : TV) (S : SH) (one k : Nat) : (buildF tv S one k).n = S.n := rfl
section CLS
variable (E : XEnv) (A : AS)
set_option maxRecDepth 100000 in
set_option maxHeartbeats 4000000 in
theorem l_X4_waterBy (hC : CI A) (w : Int32) (p n : Nat) (hp : p ≤ 3) (hn : n ≤ 40) (q : Nat) : ∀ (b : Nat) (v5 : Int32) (r : XL) (g : GQ), q ≤ 3 → b ≤ 10 → g.tr = A.ru → g.th.n = A.S.n → v5 = nI q + (-1) → XAt E RX4 cX4_waterBy 7 (some .int) 20 61 (XR ((match wbF (tvA A A.ru) w q b g.th with
  | none => 101
  | some T => (daysF (tvA A A.ru) n (T.setPl (bindF T T.n))).wa), A)) 19 ([(0, .ref 0), (1, .int w), (2, .int (nI p)), (3, .int (nI n)), (4, .int (nI b + (-1))), (5, .int v5)] ++ r) [] (gW A g) := by
  have h5 := hC.1
  induction q with
  | zero =>
    intro b v5 r g hq hb ht hgn hv
    refine XAt.app r ?_
    refine xgo sX4_waterBy [19] 100 (xle rfl) ⟨fun _ => ?_, fun h => absurd (by rw [hv]; decide) h⟩
    have hr : g.tr < 6 := by rw [ht]; exact hC.ru6
    refine gS1 A g hr (xle rfl) rfl (c_X2_bind E g.th _ _ _ (by rw [hgn]; exact h5)) (fun r σ' h => ?_)
    obtain ⟨rfl, rfl⟩ := h
    refine ⟨_, _, _, rfl, ?_⟩
    refine tPass (xle rfl) hC (g.set1 g.tr (g.th.setPl (bindF g.th g.th.n)) (g.nm 1) (g.wt g.tr)) ht (by show g.th.n ≤ 5; rw [hgn]; exact h5) n (by omega) (fun g' ht' hg' => ?_)
    have hg2 : g'.th = daysF (tvA A A.ru) n (g.th.setPl (bindF g.th g.th.n)) := hg'
    have e : (match wbF (tvA A A.ru) w 0 b g.th with
      | none => 101
      | some T => (daysF (tvA A A.ru) n (T.setPl (bindF T T.n))).wa) = g'.th.wa := by rw [hg2]; rfl
    rw [e]
    exact ⟨rfl, g', rfl⟩
  | succ q IH =>
    intro b v5 r g hq hb ht hgn hv
    refine XAt.app r ?_
    rw [pk_m1] at hv
    subst hv
    have hr : g.tr < 6 := by rw [ht]; exact hC.ru6
    have hqc : (nI q).toNatClampNeg = q := nI_clamp (by omega)
    have hx : ¬ xst 2 (nI q).toNatClampNeg = 0 := by
      rw [hqc]
      rcases (by omega : q = 0 ∨ q = 1 ∨ q = 2) with rfl | rfl | rfl <;> decide
    refine xgo sX4_waterBy [19, 39] 100 (xle rfl) ⟨fun h => absurd h (nI_pos (by omega)), fun _ => ⟨vp_in_nI (by omega) (by omega), hx, by decide, ?_⟩⟩
    have hgo : ∀ (d : Int32), d = dgF w q → XAt E RX4 cX4_waterBy 7 (some .int) 20 61 (XR ((match wbF (tvA A A.ru) w (q + 1) b g.th with
      | none => 101
      | some T => (daysF (tvA A A.ru) n (T.setPl (bindF T T.n))).wa), A)) 39 [(0, .ref 0), (1, .int w), (2, .int (nI p)), (3, .int (nI n)), (4, .int (nI b + (-1))), (5, .int (nI q)), (6, .int d)] [] (gW A g) := by
      intro d hd
      have hb1 : nI b + (-1) + 1 = nI b := by
        rw [Int32.add_assoc]
        show nI b + 0 = nI b
        exact Int32.add_zero _
      refine xgo sX4_waterBy [19, 47] 100 (xle rfl) ?_
      show XAt E RX4 cX4_waterBy 7 (some .int) 20 61 _ 47 [(0, .ref 0), (1, .int w), (2, .int (nI p)), (3, .int (nI n)), (4, .int (nI b + (-1))), (5, .int (nI q)), (6, .int d)] [.int (nI b + (-1) + 1), .ref 13] (gW A g)
      rw [hb1]
      refine xgo sX4_waterBy [19] 100 (xle rfl) (gS1 A g hr (xle rfl) rfl (c_X2_nextUnmade E g.th _ _ _ b hb) (fun r σ' h => ?_))
      obtain ⟨rfl, rfl⟩ := h
      refine ⟨_, _, _, rfl, ?_⟩
      obtain ⟨g1, hg1⟩ : ∃ g1, g1 = g.set1 g.tr g.th (g.nm 1) (g.wt g.tr) := ⟨_, rfl⟩
      have ht1 : g1.tr = A.ru := by rw [hg1]; exact ht
      have hth1 : g1.th = g.th := by rw [hg1]; rfl
      rw [← hg1]
      have hr1 : g1.tr < 6 := by rw [ht1]; exact hC.ru6
      rw [nuF_N]
      unfold wbF
      cases hnu : nuN g.th.ma (10 - b) b with
      | none => exact ⟨fun _ => ⟨rfl, g1, rfl⟩, fun h => absurd rfl h⟩
      | some m =>
        have hm := nuN_at _ _ _ _ hnu
        refine ⟨fun h => absurd h (nI_m1 (m := m) (by omega)), fun _ => ?_⟩
        refine gS1 A g1 hr1 (xle rfl) rfl (c_X2_has E g1.th _ _ _ d) (fun r σ' h => ?_)
        obtain ⟨rfl, rfl⟩ := h
        refine ⟨_, _, _, rfl, ?_⟩
        obtain ⟨g2, hg2⟩ : ∃ g2, g2 = g1.set1 g1.tr g1.th (g1.nm 1) (g1.wt g1.tr) := ⟨_, rfl⟩
        have ht2 : g2.tr = A.ru := by rw [hg2]; exact ht1
        have hth2 : g2.th = g.th := by rw [hg2]; exact hth1
        rw [← hg2]
        have hr2 : g2.tr < 6 := by rw [ht2]; exact hC.ru6
        rw [hth1, ← hd]
        dsimp only
        refine ⟨fun h => ?_, fun h => ?_⟩
        · rw [if_pos h]
          exact ⟨rfl, g2, rfl⟩
        · rw [if_neg h]
          obtain ⟨i, hi, hdi⟩ := fw_e (by omega) h
          have hic : (nI i).toNatClampNeg = i := nI_clamp (by omega)
          rw [hdi, hic]
          refine ⟨vp_in_nI (by omega) (by omega), ?_⟩
          rw [hic, hth2]
          refine ⟨fun h2 => ?_, fun h2 => ?_⟩
          · rw [if_pos h2]
            have hT : TXok (A.tx g2.tr) (eT (A.tx g2.tr)) := by rw [ht2]; exact hC.tx
            refine gS1 A g2 hr2 (xle rfl) rfl (c_X2_build E g2.th _ (A.tx g2.tr) _ hT (by rw [hth2, hgn]; exact h5) i m (by rw [hth2]; exact hi) (by omega)) (fun r σ' h3 => ?_)
            obtain ⟨rfl, nm', wt', rfl⟩ := h3
            refine ⟨_, _, _, rfl, ?_⟩
            obtain ⟨g3, hg3⟩ : ∃ g3, g3 = g2.set1 g2.tr (buildF (tvT (A.tx g2.tr) (eT (A.tx g2.tr))) g2.th i m) nm' wt' := ⟨_, rfl⟩
            have ht3 : g3.tr = A.ru := by rw [hg3]; exact ht2
            have hth3 : g3.th = buildF (tvA A A.ru) g.th i m := by
              rw [hg3]
              show buildF (tvT (A.tx g2.tr) (eT (A.tx g2.tr))) g2.th i m = _
              rw [ht2, hth2]
              rfl
            rw [← hg3]
            have ih := IH (m + 1) (nI q + (-1)) [(6, .int (nI i))] g3 (by omega) (by omega) ht3 (by rw [hth3]; exact hgn) rfl
            rw [hth3, pk_m1] at ih
            exact ih
          · rw [if_neg h2]
            exact ⟨rfl, g2, rfl⟩
    refine hgo _ ?_
    rw [hqc]
    rfl
set_option maxRecDepth 100000 in
set_option maxHeartbeats 4000000 in
theorem c_X4_waterBy (hC : CI A) (w : Int32) (p n : Nat) (hp : p ≤ 3) (hn : n ≤ 40) (g : GQ) : XCall E 20 yX4_waterBy cX4_waterBy 7 (some .int) [.ref 0, .int w, .int (nI p), .int (nI n)] (gW A g) (XR (wyF (tvA A A.ru) A.S p n w, A)) := by
  refine XCall.of (by decide +kernel) (xle rfl) (xgo sX4_waterBy [19] 100 (xle rfl) (XIn.same (xle rfl) (c_becomes_th E A g) (fun r σ' _ h => ?_)))
  obtain ⟨rfl, rfl⟩ := h
  have h := l_X4_waterBy E A hC w p n hp hn p 0 (nI p + (-1)) [] (gTh A g) hp (by omega) rfl rfl rfl
  have e : nI p - 1 = nI p + (-1) := by rw [Int32.sub_eq_add_neg]
  have key : XAt E RX4 cX4_waterBy 7 (some .int) 20 61 (XR (wyF (tvA A A.ru) A.S p n w, A)) 19 [(0, .ref 0), (1, .int w), (2, .int (nI p)), (3, .int (nI n)), (4, .int (-1)), (5, .int (nI p - 1))] [] (gW A (gTh A g)) := by
    rw [e]
    exact h
  exact key
set_option maxRecDepth 100000 in
set_option maxHeartbeats 4000000 in
theorem l_X4_yard (hC : CI A) (p n : Nat) (hp : p ≤ 3) (hn : n ≤ 20) (what : Int32) (N : Nat) (hN : nI N = xst 2 p) (hN2 : N ≤ 216) (j : Nat) : ∀ (k : Nat) (b l : Int32) (r : XL) (g : GQ), k + j = N → XAt E RX4 cX4_yard 8 (some .int) 21 61 (XR (if what = 0 then (ydF (tvA A A.ru) A.S p n j k b l).1 else (ydF (tvA A A.ru) A.S p n j k b l).2, A)) 62 ([(0, .ref 0), (1, .int (nI n)), (2, .int what), (3, .int (nI p)), (4, .int b), (5, .int l), (6, .int (nI k))] ++ r) [] (gW A g) := by
  have hpc : (nI p).toNatClampNeg = p := nI_clamp (by omega)
  have fin : ∀ (k : Nat) (b l : Int32) (g : GQ), XAt E RX4 cX4_yard 8 (some .int) 21 61 (XR (if what = 0 then b else l, A)) 108 [(0, .ref 0), (1, .int (nI n)), (2, .int what), (3, .int (nI p)), (4, .int b), (5, .int l), (6, .int (nI k))] [] (gW A g) := by
    intro k b l g
    refine xgo sX4_yard [62] 100 (xle rfl) ⟨fun h => ?_, fun h => ?_⟩
    · rw [if_neg h]
      exact ⟨rfl, g, rfl⟩
    · rw [if_pos h]
      exact ⟨rfl, g, rfl⟩
  induction j with
  | zero =>
    intro k b l r g hk
    obtain rfl : k = N := by omega
    refine XAt.app r (xgo sX4_yard [62, 108] 100 (xle rfl) ⟨vp_in_nI (by omega) (by omega), fun _ => fin k b l g, fun h => absurd (by rw [hpc, ← hN]; exact nI_le (Nat.le_refl _) (by omega)) h⟩)
  | succ j IH =>
    intro k b l r g hk
    refine XAt.app r (xgo sX4_yard [62, 108] 100 (xle rfl) ⟨vp_in_nI (by omega) (by omega), fun h => absurd h (by rw [hpc, ← hN]; exact nI_ge (by omega) (by omega)), fun _ => ⟨fun h => ?_, fun h => ?_⟩⟩)
    · rw [ydF, if_pos h]
      exact fin k b l g
    · refine XIn.same (xle rfl) (c_X4_waterBy E A hC (nI k) p n hp (by omega) g) (fun r' σ' _ h2 => ?_)
      obtain ⟨rfl, g', rfl⟩ := h2
      rw [ydF, if_neg h]
      refine ⟨fun h2 => ?_, fun h2 => ?_⟩
      · rw [if_neg (Int32.not_lt.mpr h2)]
        have ih := IH (k + 1) b l [(7, .int (wyF (tvA A A.ru) A.S p n (nI k)))] g' (by omega)
        rw [nI_succ] at ih
        exact ih
      · rw [if_pos (Int32.not_le.mp h2)]
        have ih := IH (k + 1) (nI k) (wyF (tvA A A.ru) A.S p n (nI k)) [(7, .int (wyF (tvA A A.ru) A.S p n (nI k)))] g' (by omega)
        rw [nI_succ] at ih
        exact ih
set_option maxRecDepth 100000 in
set_option maxHeartbeats 4000000 in
theorem c_X4_yard (hC : CI A) (n what : Int32) (g : GQ) : XCall E 21 yX4_yard cX4_yard 8 (some .int) [.ref 0, .int n, .int what] (gW A g) (XR (o_yard A n what)) := by
  unfold o_yard
  refine XCall.of (by decide +kernel) (xle rfl) (xgo sX4_yard [51] 100 (xle rfl) ⟨fun h => ?_, fun h => ⟨fun h2 => ?_, fun h2 => ?_⟩⟩)
  · rw [if_pos h]
    exact ⟨rfl, g, rfl⟩
  · rw [if_neg h, if_neg h2]
    obtain ⟨m, hm, rfl⟩ := fw_e (n := 21) (by omega) h
    obtain ⟨p, hp, hpe⟩ := ypF_at A.S
    have hpc : (nI p).toNatClampNeg = p := nI_clamp (by omega)
    rw [hpe, hpc, nI_clamp (n := m) (by omega)]
    have h216 : 6 ^ p ≤ 216 := Nat.pow_le_pow_right (by omega : 0 < 6) hp
    have tail : ∀ (v : Int32) (g : GQ), v = nI p → XAt E RX4 cX4_yard 8 (some .int) 21 61 (XR (if what = 0 then (ydF (tvA A A.ru) A.S p m (6 ^ p) 0 0 101).1 else (ydF (tvA A A.ru) A.S p m (6 ^ p) 0 0 101).2, A)) 51 [(0, .ref 0), (1, .int (nI m)), (2, .int what)] [.int v] (gW A g) := by
      intro v g hv
      subst hv
      exact xgo sX4_yard [62] 100 (xle rfl) (l_X4_yard E A hC p m hp (by omega) what (6 ^ p) (wys_xst hp).symm h216 (6 ^ p) 0 0 101 [] g (Nat.zero_add _))
    refine gS0 A g hC.ru6 (xle rfl) rfl (c_X2_who E A.S _ _ _ 0 hC.1) (fun r σ' h3 => ?_)
    obtain ⟨rfl, rfl⟩ := h3
    refine ⟨_, _, _, rfl, fun h3 => ?_, fun h3 => ?_⟩
    · refine gS0 A _ hC.ru6 (xle rfl) rfl (c_X2_partsMade E A.S _ _ _) (fun r σ' h4 => ?_)
      obtain ⟨rfl, rfl⟩ := h4
      refine ⟨_, _, _, rfl, tail _ _ ?_⟩
      rw [← hpe, ypF, if_neg h3]
    · refine tail _ _ ?_
      rw [← hpe, ypF, if_pos h3]
  · rw [if_neg h, if_pos h2]
    exact ⟨rfl, g, rfl⟩
end CLS
