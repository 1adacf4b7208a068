-- ===== the yard: ways counted through, ways tried =====
def BAp (ma : F32) : Nat → List Nat → Prop
  | _, [] => True
  | b, m :: l => nuN ma (10 - b) b = some m ∧ BAp ma (m + 1) l
theorem nuN_congr {ma ma' : F32} : ∀ j k, (∀ i, k ≤ i → ma i = ma' i) → nuN ma j k = nuN ma' j k
  | 0, _, _ => rfl
  | j + 1, k, h => by
    unfold nuN
    rw [h k (Nat.le_refl _), nuN_congr j (k + 1) (fun i hi => h i (by omega))]
theorem BAp_congr {ma ma' : F32} : ∀ (l : List Nat) (b : Nat), (∀ i, b ≤ i → ma i = ma' i) → BAp ma b l → BAp ma' b l
  | [], _, _, _ => trivial
  | m :: l, b, h, hb => by
    have hm := nuN_at _ _ _ _ hb.1
    exact ⟨by rw [← nuN_congr (10 - b) b h]; exact hb.1, BAp_congr l (m + 1) (fun i hi => h i (by omega)) hb.2⟩
theorem nuN_is (ma : F32) : ∀ j k m, nuN ma j k = some m → ma m = -1
  | 0, _, _, h => by cases h
  | j + 1, k, m, h => by
    unfold nuN at h
    by_cases hk : ma k = -1
    · rw [if_pos hk] at h
      cases h
      exact hk
    · rw [if_neg hk] at h
      exact nuN_is ma j (k + 1) m h
def blF (ma : F32) : Nat → Nat → List Nat
  | 0, _ => []
  | r + 1, b => match nuN ma (10 - b) b with
    | none => []
    | some m => m :: blF ma r (m + 1)
theorem bl_y {ma : F32} {r b : Nat} (hb : b < 10) (h : ma b = -1) : blF ma (r + 1) b = b :: blF ma r (b + 1) := by
  obtain ⟨j, hj⟩ : ∃ j, 10 - b = j + 1 := ⟨10 - b - 1, by omega⟩
  have : nuN ma (10 - b) b = some b := by
    rw [hj]
    exact if_pos h
  unfold blF
  rw [this]
  cases r <;> rfl
theorem bl_n {ma : F32} {r b : Nat} (hb : b < 10) (h : ¬ ma b = -1) : blF ma r b = blF ma r (b + 1) := by
  cases r with
  | zero => rfl
  | succ r =>
    have : nuN ma (10 - b) b = nuN ma (10 - (b + 1)) (b + 1) := by
      obtain ⟨j, hj⟩ : ∃ j, 10 - b = j + 1 := ⟨10 - b - 1, by omega⟩
      rw [hj, show 10 - (b + 1) = j by omega]
      exact if_neg h
    unfold blF
    rw [this]
theorem bl_10 (ma : F32) (r : Nat) : blF ma r 10 = [] := by
  cases r <;> rfl
theorem bl_BA (ma : F32) : ∀ r b, BAp ma b (blF ma r b)
  | 0, _ => trivial
  | r + 1, b => by
    unfold blF
    cases h : nuN ma (10 - b) b with
    | none => trivial
    | some m => exact ⟨h, bl_BA ma r (m + 1)⟩
theorem cnN_mono (ma : F32) (w : Int32) : ∀ j k, cnN ma w k ≤ cnN ma w (k + j)
  | 0, _ => Nat.le_refl _
  | j + 1, k => by
    have := cnN_mono ma w j k
    have e : cnN ma w (k + j) ≤ cnN ma w (k + j + 1) := by
      by_cases h : ma (k + j) = w
      · rw [cnN_y h]; omega
      · rw [cnN_n h]; omega
    exact Nat.le_trans this e
theorem bl_len (ma : F32) : ∀ j b r, b + j = 10 → (blF ma r b).length = min r (cnN ma (-1) 10 - cnN ma (-1) b)
  | 0, b, r, h => by
    obtain rfl : b = 10 := by omega
    rw [bl_10]
    simp
  | j + 1, b, r, h => by
    have hm := cnN_mono ma (-1) j (b + 1)
    rw [show b + 1 + j = 10 by omega] at hm
    by_cases hb : ma b = -1
    · cases r with
      | zero => simp [blF]
      | succ r =>
        rw [bl_y (by omega) hb, List.length_cons, bl_len ma j (b + 1) r (by omega)]
        rw [cnN_y hb] at hm ⊢
        omega
    · rw [bl_n (by omega) hb, bl_len ma j (b + 1) r (by omega), cnN_n hb]
def trP (f : Nat → Int32 × Int32 → Int32 × Int32) : Nat → Int32 × Int32 → Int32 × Int32
  | 0, a => a
  | p + 1, a => f p (trP f p a)
def leafF (tv : TV) (n : Nat) (S : SH) : Int32 := (daysF tv n (S.setPl (bindF S S.n))).wa
def trF (tv : TV) (n : Nat) : List Nat → SH → Nat → Int32 × Int32 → Int32 × Int32
  | [], S, row, a => if leafF tv n S < a.2 then (nI row, leafF tv n S) else a
  | m :: l, S, row, a => trP (fun p a => if S.pl p = 0 then trF tv n l (buildF tv S p m) (6 * row + p + 1) a else a) S.n a
def scF (val : Nat → Int32) : Nat → Nat → Int32 × Int32 → Int32 × Int32
  | 0, _, a => a
  | j + 1, k, a => scF val j (k + 1) (if val k < a.2 then (nI k, val k) else a)
theorem sc_add (val : Nat → Int32) : ∀ i j k a, scF val (i + j) k a = scF val j (k + i) (scF val i k a)
  | 0, j, k, a => by rw [Nat.zero_add]; rfl
  | i + 1, j, k, a => by
    rw [show i + 1 + j = (i + j) + 1 by omega]
    show scF val (i + j) (k + 1) _ = scF val j (k + (i + 1)) (scF val i (k + 1) _)
    rw [sc_add val i j (k + 1), show k + 1 + i = k + (i + 1) by omega]
theorem sc_none (val : Nat → Int32) : ∀ j k a, (∀ w, k ≤ w → w < k + j → val w = 101) → a.2 ≤ 101 → scF val j k a = a
  | 0, _, _, _, _ => rfl
  | j + 1, k, a, h, ha => by
    have e : val k = 101 := h k (Nat.le_refl _) (by omega)
    have : (if val k < a.2 then (nI k, val k) else a) = a := if_neg (by rw [e]; exact Int32.not_lt.mpr ha)
    show scF val j (k + 1) _ = a
    rw [this]
    exact sc_none val j (k + 1) a (fun w h1 h2 => h w (by omega) (by omega)) ha
theorem sc_congr {v1 v2 : Nat → Int32} : ∀ j k a, (∀ w, k ≤ w → w < k + j → v1 w = v2 w) → scF v1 j k a = scF v2 j k a
  | 0, _, _, _ => rfl
  | j + 1, k, a, h => by
    show scF v1 j (k + 1) _ = scF v2 j (k + 1) _
    rw [h k (Nat.le_refl _) (by omega)]
    exact sc_congr j (k + 1) _ (fun w h1 h2 => h w (by omega) (by omega))
theorem sc_stop (val : Nat → Int32) (h0 : ∀ w, 0 ≤ val w) : ∀ j k a, a.2 ≤ 0 → scF val j k a = a
  | 0, _, _, _ => rfl
  | j + 1, k, a, ha => by
    have : (if val k < a.2 then (nI k, val k) else a) = a := if_neg (Int32.not_lt.mpr (Int32.le_trans ha (h0 k)))
    show scF val j (k + 1) _ = a
    rw [this]
    exact sc_stop val h0 j (k + 1) a ha
theorem yd_sc (tv : TV) (S : SH) (p n : Nat) (h0 : ∀ w, 0 ≤ wyF tv S p n w) : ∀ j k b l, ydF tv S p n j k b l = scF (fun k => wyF tv S p n (nI k)) j k (b, l)
  | 0, _, _, _ => rfl
  | j + 1, k, b, l => by
    unfold ydF
    by_cases h : l ≤ 0
    · rw [if_pos h]
      exact (sc_stop (fun k => wyF tv S p n (nI k)) (fun w => h0 (nI w)) (j + 1) k (b, l) h).symm
    · rw [if_neg h]
      show _ = scF _ j (k + 1) (if wyF tv S p n (nI k) < l then (nI k, wyF tv S p n (nI k)) else (b, l))
      by_cases h2 : wyF tv S p n (nI k) < l
      · rw [if_pos h2, if_pos h2]
        exact yd_sc tv S p n h0 j (k + 1) _ _
      · rw [if_neg h2, if_neg h2]
        exact yd_sc tv S p n h0 j (k + 1) _ _
def vlF (tv : TV) (n : Nat) (w : Int32) (r b : Nat) (S : SH) : Int32 := match wbF tv w r b S with
  | none => 101
  | some T => leafF tv n T
theorem wy_vl (tv : TV) (S : SH) (p n : Nat) (w : Int32) : wyF tv S p n w = vlF tv n w p 0 S := by
  unfold wyF vlF
  cases wbF tv w p 0 S <;> rfl
theorem dg_e {row d r q : Nat} (hq : q ≤ 3) (hd : d < 6) (hr : r < 6 ^ q) (hb : (6 * row + d) * 6 ^ q + r < 1000000) : dgF (nI ((6 * row + d) * 6 ^ q + r)) q = nI d - 1 := by
  have h6 : 0 < 6 ^ q := Nat.pow_pos (by omega)
  have h216 : 6 ^ q ≤ 216 := Nat.pow_le_pow_right (by omega : 0 < 6) hq
  have e1 : ((6 * row + d) * 6 ^ q + r) / 6 ^ q = 6 * row + d := by
    rw [Nat.mul_comm, Nat.mul_add_div h6, Nat.div_eq_of_lt hr, Nat.add_zero]
  have hle : 6 * row + d < 1000000 := Nat.lt_of_le_of_lt (Nat.le_trans (Nat.le_mul_of_pos_right _ h6) (Nat.le_add_right _ r)) hb
  unfold dgF
  rw [wys_xst hq, pk_div (by omega) h6 (by omega), e1]
  have e2 : nI (6 * row + d) - nI (6 * row + d) / 6 * 6 = nI ((6 * row + d) % 6) := pk_rem (d := 6) (by omega) (by omega) (by omega)
  rw [e2, show (6 * row + d) % 6 = d by omega]
def vmF (tv : TV) (n : Nat) (w : Int32) (r m : Nat) (S : SH) : Nat → Int32
  | 0 => 101
  | p + 1 => if p < S.n ∧ S.pl p = 0 then vlF tv n w r (m + 1) (buildF tv S p m) else 101
set_option maxRecDepth 100000 in
theorem vl_s {tv : TV} {n : Nat} {w : Int32} {r b m d : Nat} {S : SH} (hn : S.n ≤ 5) (hm : nuN S.ma (10 - b) b = some m) (hd : dgF w r = nI d - 1) (hd6 : d < 6) : vlF tv n w (r + 1) b S = vmF tv n w r m S d := by
  have e0 : wbF tv w (r + 1) b S = if f_within (nI d - 1) 0 (nI S.n - 1) = 0 then none else if S.pl (nI d - 1).toNatClampNeg = 0 then wbF tv w r (m + 1) (buildF tv S (nI d - 1).toNatClampNeg m) else none := by
    rw [← hd]
    show (match nuN S.ma (10 - b) b with
      | none => none
      | some m => if f_within (dgF w r) 0 (nI S.n - 1) = 0 then none else if S.pl (dgF w r).toNatClampNeg = 0 then wbF tv w r (m + 1) (buildF tv S (dgF w r).toNatClampNeg m) else none) = _
    rw [hm]
  unfold vlF
  rw [e0]
  cases d with
  | zero =>
    have e : f_within (nI 0 - 1) 0 (nI S.n - 1) = 0 := by
      unfold f_within
      rw [if_pos (by decide)]
    rw [if_pos e]
    rfl
  | succ p =>
    rw [nI_pred]
    by_cases hp : p < S.n
    · have e : f_within (nI p) 0 (nI S.n - 1) = 1 := fw_in (by omega) hp
      rw [e, if_neg (by decide), nI_clamp (by omega : p < 2147483648)]
      by_cases h0 : S.pl p = 0
      · rw [if_pos h0]
        show _ = if p < S.n ∧ S.pl p = 0 then vlF tv n w r (m + 1) (buildF tv S p m) else 101
        rw [if_pos ⟨hp, h0⟩]
        rfl
      · rw [if_neg h0]
        show _ = if p < S.n ∧ S.pl p = 0 then vlF tv n w r (m + 1) (buildF tv S p m) else 101
        rw [if_neg (fun z => h0 z.2)]
    · have e : f_within (nI p) 0 (nI S.n - 1) = 0 := by
        rcases f_within_01 (nI p) 0 (nI S.n - 1) with y | y
        · exact y
        · obtain ⟨k, hk, ek⟩ := fw_e (n := S.n) (v := nI p) (by omega) (by rw [y]; decide)
          have := (nI_eq (a := p) (b := k) (by omega) (by omega)).mp ek
          omega
      rw [if_pos e]
      show _ = if p < S.n ∧ S.pl p = 0 then vlF tv n w r (m + 1) (buildF tv S p m) else 101
      rw [if_neg (fun z => hp z.1)]
theorem sc_tr (tv : TV) (n : Nat) : ∀ (l : List Nat) (b : Nat) (S : SH) (row : Nat) (a : Int32 × Int32), l.length ≤ 3 → row < 6 ^ (3 - l.length) → BAp S.ma b l → S.n ≤ 5 → a.2 ≤ 101 → scF (fun w => vlF tv n (nI w) l.length b S) (6 ^ l.length) (row * 6 ^ l.length) a = trF tv n l S row a ∧ (trF tv n l S row a).2 ≤ 101
  | [], b, S, row, a, _, _, _, _, ha => by
    have e : vlF tv n (nI row) 0 b S = leafF tv n S := by
      unfold vlF wbF
      rfl
    constructor
    · show scF _ 1 (row * 1) a = _
      rw [Nat.mul_one]
      show (if vlF tv n (nI row) 0 b S < a.2 then (nI row, vlF tv n (nI row) 0 b S) else a) = _
      rw [e]
      rfl
    · unfold trF
      split
      · rename_i h
        exact Int32.le_trans (Int32.le_of_lt h) ha
      · exact ha
  | m :: l, b, S, row, a, hl, hrow, hB, hn, ha => by
    have hl' : l.length ≤ 2 := by simpa using hl
    have h6 : 0 < 6 ^ l.length := Nat.pow_pos (by omega)
    have h36 : 6 ^ l.length ≤ 36 := Nat.pow_le_pow_right (by omega : 0 < 6) hl'
    obtain ⟨N, eN⟩ : ∃ N, N = 6 ^ l.length := ⟨_, rfl⟩
    have hrow : row < 6 ^ (3 - (l.length + 1)) := hrow
    have hp3 : 6 ^ (3 - l.length) = 6 * 6 ^ (3 - (l.length + 1)) := by rw [show 3 - l.length = (3 - (l.length + 1)) + 1 by omega, Nat.pow_succ, Nat.mul_comm]
    have hp36 : 6 ^ (3 - (l.length + 1)) ≤ 36 := Nat.pow_le_pow_right (i := 3 - (l.length + 1)) (j := 2) (by omega : 0 < 6) (by omega)
    have sub : ∀ d, d < 6 → ∀ w, (6 * row + d) * N ≤ w → w < (6 * row + d) * N + N → dgF (nI w) l.length = nI d - 1 := by
      intro d hd w h1 h2
      obtain ⟨r, rfl⟩ : ∃ r, w = (6 * row + d) * N + r := ⟨w - (6 * row + d) * N, by omega⟩
      have hb : (6 * row + d) * N ≤ 221 * 36 := Nat.mul_le_mul (by omega) (by rw [eN]; exact h36)
      subst eN
      exact dg_e (by omega) hd (by omega) (by omega)
    have val : ∀ d, d < 6 → ∀ w, (6 * row + d) * N ≤ w → w < (6 * row + d) * N + N → vlF tv n (nI w) (l.length + 1) b S = vmF tv n (nI w) l.length m S d := fun d hd w h1 h2 => vl_s hn hB.1 (sub d hd w h1 h2) hd
    -- the first p + 1 of six
    have first : ∀ p, p ≤ S.n → scF (fun w => vlF tv n (nI w) (l.length + 1) b S) ((p + 1) * N) (6 * row * N) a = trP (fun p a => if S.pl p = 0 then trF tv n l (buildF tv S p m) (6 * row + p + 1) a else a) p a ∧ (trP (fun p a => if S.pl p = 0 then trF tv n l (buildF tv S p m) (6 * row + p + 1) a else a) p a).2 ≤ 101 := by
      intro p
      induction p with
      | zero =>
        intro _
        refine ⟨?_, ha⟩
        rw [Nat.zero_add, Nat.one_mul]
        exact sc_none _ N _ a (fun w h1 h2 => val 0 (by omega) w h1 h2) ha
      | succ p ih =>
        intro hp
        obtain ⟨i1, i2⟩ := ih (by omega)
        have es : 6 * row * N + (p + 1) * N = (6 * row + (p + 1)) * N := by rw [← Nat.add_mul]
        rw [show (p + 1 + 1) * N = (p + 1) * N + N by rw [Nat.add_mul (p + 1) 1, Nat.one_mul], sc_add, i1, es]
        show scF _ N ((6 * row + (p + 1)) * N) _ = (if S.pl p = 0 then trF tv n l (buildF tv S p m) (6 * row + p + 1) (trP _ p a) else trP _ p a) ∧ (if S.pl p = 0 then trF tv n l (buildF tv S p m) (6 * row + p + 1) (trP _ p a) else trP _ p a).2 ≤ 101
        obtain ⟨a', ea⟩ : ∃ a', a' = trP (fun p a => if S.pl p = 0 then trF tv n l (buildF tv S p m) (6 * row + p + 1) a else a) p a := ⟨_, rfl⟩
        rw [← ea] at i2 ⊢
        have hv := val (p + 1) (by omega)
        by_cases h0 : S.pl p = 0
        · rw [if_pos h0]
          have hB' : BAp (buildF tv S p m).ma (m + 1) l := by
            refine BAp_congr l (m + 1) (fun i hi => ?_) hB.2
            show S.ma i = upd S.ma m (nI p) i
            exact (pk_un (by omega)).symm
          have t := sc_tr tv n l (m + 1) (buildF tv S p m) (6 * row + (p + 1)) a' (by omega) (by omega) hB' hn i2
          rw [← eN] at t
          refine ⟨?_, t.2⟩
          refine Eq.trans ?_ t.1
          refine sc_congr N _ a' (fun w h1 h2 => ?_)
          show vlF tv n (nI w) (l.length + 1) b S = _
          rw [hv w h1 h2]
          exact if_pos ⟨by omega, h0⟩
        · rw [if_neg h0]
          refine ⟨sc_none _ N _ a' (fun w h1 h2 => ?_) i2, i2⟩
          show vlF tv n (nI w) (l.length + 1) b S = _
          rw [hv w h1 h2]
          exact if_neg (fun z => h0 z.2)
    obtain ⟨f1, f2⟩ := first S.n (Nat.le_refl _)
    have rest : ∀ q, S.n + 1 + q ≤ 6 → ∀ a', a'.2 ≤ 101 → scF (fun w => vlF tv n (nI w) (l.length + 1) b S) (q * N) ((6 * row + (S.n + 1)) * N) a' = a' := by
      intro q hq a' ha'
      refine sc_none _ _ _ a' (fun w h1 h2 => ?_) ha'
      obtain ⟨i, hi⟩ : ∃ i, i = w / N := ⟨_, rfl⟩
      have hN : 0 < N := by rw [eN]; exact h6
      have d1 : i * N ≤ w := by rw [hi]; exact Nat.div_mul_le_self w N
      have d2 : w < i * N + N := by
        rw [hi]
        have := Nat.lt_div_mul_add hN (a := w)
        omega
      have l1 : 6 * row + (S.n + 1) ≤ i := by
        rw [hi]
        exact (Nat.le_div_iff_mul_le hN).mpr h1
      have l2 : i < 6 * row + (S.n + 1) + q := by
        rw [hi]
        refine (Nat.div_lt_iff_lt_mul hN).mpr ?_
        rw [Nat.add_mul (6 * row + (S.n + 1)) q]
        exact h2
      obtain ⟨p, hp⟩ : ∃ p, i = 6 * row + (p + 1) := ⟨i - 6 * row - 1, by omega⟩
      have hv := val (p + 1) (by omega) w (by rw [← hp]; exact d1) (by rw [← hp]; exact d2)
      show vlF tv n (nI w) (l.length + 1) b S = _
      rw [hv]
      exact if_neg (fun z => by omega)
    constructor
    · have e6 : 6 ^ (m :: l).length = (S.n + 1) * N + (5 - S.n) * N := by
        show 6 ^ (l.length + 1) = _
        rw [← Nat.add_mul, show S.n + 1 + (5 - S.n) = 6 by omega, Nat.pow_succ, eN, Nat.mul_comm]
      have er : row * 6 ^ (m :: l).length = 6 * row * N := by
        show row * 6 ^ (l.length + 1) = _
        rw [Nat.pow_succ, eN, Nat.mul_comm (6 ^ l.length), ← Nat.mul_assoc, Nat.mul_comm row 6]
      rw [er, e6, sc_add]
      show scF (fun w => vlF tv n (nI w) (l.length + 1) b S) _ _ (scF (fun w => vlF tv n (nI w) (l.length + 1) b S) _ _ a) = _
      rw [f1, show 6 * row * N + (S.n + 1) * N = (6 * row + (S.n + 1)) * N by rw [← Nat.add_mul], rest (5 - S.n) (by omega) _ f2]
      rfl
    · exact f2
