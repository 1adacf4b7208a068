-- ===== the reference: copy =====
theorem sub_neg {a b : Nat} (hb : b < 2147483648) (h : a < b) : nI a - nI b < 0 := by
  rw [Int32.lt_iff_toInt_lt, Int32.toInt_sub, nI_toInt (by omega), nI_toInt hb, show (0 : Int32).toInt = 0 from by decide]
  rw [Int.bmod_eq_of_le (by omega) (by omega)]
  omega
theorem hold_of {N : Nat} (hN : N ≤ 40) {i n : Int32} (hn : 0 ≤ n) (hi : 0 ≤ i) (hl : i ≤ nI N - n) : ¬ holdF N i n = 0 := by
  obtain ⟨m, hm, rfl⟩ := nI_of (Int32.not_lt.mpr hn)
  obtain ⟨p, hp, rfl⟩ := nI_of (Int32.not_lt.mpr hi)
  have hmN : m ≤ N := by
    rcases Nat.lt_or_ge N m with y | y
    · exact absurd (Int32.lt_of_le_of_lt (Int32.le_trans hi hl) (sub_neg hm y)) (Int32.lt_irrefl)
    · exact y
  have e1 : f_within (nI m) 0 (nI N) = 1 := fw_of hn (nI_le hmN (by omega))
  have e2 : f_within (nI p) 0 (nI N - nI m) = 1 := fw_of hi hl
  unfold holdF
  rw [e1, if_neg (by decide), e2, if_neg (by decide)]
  decide
theorem hold_y {N : Nat} (hN : N ≤ 40) {i n : Int32} (h : ¬ holdF N i n = 0) : 0 ≤ n ∧ 0 ≤ i ∧ i ≤ nI N - n := by
  obtain ⟨p, m, rfl, rfl, hle⟩ := hold_e hN h
  refine ⟨nI_pos' (by omega), nI_pos' (by omega), ?_⟩
  rw [pk_sub (by omega)]
  exact nI_le (by omega) (by omega)
/-- n items from a on come to b on -/
def cpI (f : F32) (a b n : Nat) : F32 := fun x => if b ≤ x ∧ x < b + n then f (a + (x - b)) else f x
/-- the first k, the last k of them -/
def cpU (f : F32) (a b k : Nat) : F32 := cpI f a b k
def cpD (f : F32) (a b n k : Nat) : F32 := fun x => if b + (n - k) ≤ x ∧ x < b + n then f (a + (x - b)) else f x
theorem cpU_s (f : F32) {a b k : Nat} (h : a + k < b ∨ b + k ≤ a + k) : upd (cpU f a b k) (b + k) (cpU f a b k (a + k)) = cpU f a b (k + 1) := by
  have e : cpU f a b k (a + k) = f (a + k) := by
    unfold cpU cpI
    rw [if_neg (by omega)]
  rw [e]
  funext x
  unfold upd cpU cpI
  by_cases q : x = b + k
  · rw [if_pos q, if_pos (by omega), q, show b + k - b = k by omega]
  · rw [if_neg q]
    by_cases q2 : b ≤ x ∧ x < b + k
    · rw [if_pos q2, if_pos (by omega)]
    · rw [if_neg q2, if_neg (by omega)]
theorem cpD_s (f : F32) {a b n k : Nat} (hk : k < n) (h : a < b) : upd (cpD f a b n k) (b + (n - 1 - k)) (cpD f a b n k (a + (n - 1 - k))) = cpD f a b n (k + 1) := by
  have e : cpD f a b n k (a + (n - 1 - k)) = f (a + (n - 1 - k)) := by
    unfold cpD
    rw [if_neg (by omega)]
  rw [e]
  funext x
  unfold upd cpD
  by_cases q : x = b + (n - 1 - k)
  · rw [if_pos q, if_pos (by omega), q, show b + (n - 1 - k) - b = n - 1 - k by omega]
  · rw [if_neg q]
    by_cases q2 : b + (n - k) ≤ x ∧ x < b + n
    · rw [if_pos q2, if_pos (by omega)]
    · rw [if_neg q2, if_neg (by omega)]
theorem cpU_0 (f : F32) (a b : Nat) : cpU f a b 0 = f := by
  funext x
  unfold cpU cpI
  rw [if_neg (by omega)]
theorem cpD_0 (f : F32) (a b n : Nat) : cpD f a b n 0 = f := by
  funext x
  unfold cpD
  rw [if_neg (by omega)]
theorem cpD_n (f : F32) (a b n : Nat) : cpD f a b n n = cpI f a b n := by
  funext x
  unfold cpD cpI
  rw [show b + (n - n) = b by omega]
theorem MS.cp {A : AS} {h : YQ} (hM : MS A h) {s o i j n : Nat} (hs : s < 4) (ho : o < 4) (hs1 : ¬ (A.sh s).1 = -1) (ho1 : ¬ (A.sh o).1 = -1) (hi : i + n ≤ (A.sh s).2.1) (hj : j + n ≤ (A.sh o).2.1) : MS (shF A o (A.sh o).1 (A.sh o).2.1 (va_cpy (A.sh s).2.2 (A.sh o).2.2 i j n)) (h.set_it (cpI h.it (40 * s + i) (40 * o + j) n)) := by
  rcases hM s hs with ⟨m1, _⟩ | ⟨_, _, _, _, s5, s6⟩
  · exact absurd m1 hs1
  · rcases hM o ho with ⟨m1, _⟩ | ⟨_, _, _, _, o5, _⟩
    · exact absurd m1 ho1
    · intro s' hs'
      by_cases e : s' = o
      · subst e
        rw [shF_at]
        rcases hM s' hs' with ⟨m1, m2⟩ | ⟨m1, m2, m3, m4, m5, m6⟩
        · exact absurd m1 ho1
        · refine Or.inr ⟨m1, m2, m3, m4, m5, fun p hp => ?_⟩
          show cpI h.it (40 * s + i) (40 * s' + j) n (40 * s' + p) = va_cpy (A.sh s).2.2 (A.sh s').2.2 i j n p
          unfold cpI
          by_cases y : j ≤ p ∧ p < j + n
          · rw [if_pos (by omega), pk_cpy_in y.1 y.2, show 40 * s + i + (40 * s' + p - (40 * s' + j)) = 40 * s + (i + (p - j)) by omega]
            exact s6 _ (by omega)
          · rw [if_neg (by omega), pk_cpy_out (by omega)]
            exact m6 p hp
      · rw [shF_ne A e]
        rcases hM s' hs' with ⟨m1, m2⟩ | ⟨m1, m2, m3, m4, m5, m6⟩
        · exact Or.inl ⟨m1, m2⟩
        · refine Or.inr ⟨m1, m2, m3, m4, m5, fun p hp => ?_⟩
          show cpI h.it (40 * s + i) (40 * o + j) n (40 * s' + p) = _
          unfold cpI
          rw [if_neg (by omega)]
          exact m6 p hp
section MODEL
variable (E : XEnv) (A : AS) (h : YQ)
theorem ix3 (s i k : Nat) : (40 : Int32) * nI s + nI i + nI k = nI (40 * s + i + k) := by rw [ix40m, nI_add]
set_option maxRecDepth 100000 in
set_option maxHeartbeats 4000000 in
theorem l_X5_copyU (s o i j n : Nat) (hs : s < 4) (ho : o < 4) (hi : i + n ≤ 40) (hj : j + n ≤ 40) (hd : s ≠ o ∨ j ≤ i) (t : Nat) : ∀ (k : Nat) (r : XL), k + t = n → XAt E RX5 cX5_copy 9 (some .int) 110 16 (fun r σ' => r = some (.int (nI n)) ∧ σ' = mWi A h (cpI h.it (40 * s + i) (40 * o + j) n)) 121 ([(0, .ref 0), (1, .int (nI s)), (2, .int (nI i)), (3, .int (nI o)), (4, .int (nI j)), (5, .int (nI n)), (6, .int 0), (7, .int (nI k))] ++ r) [] (mWi A h (cpU h.it (40 * s + i) (40 * o + j) k)) := by
  induction t with
  | zero =>
    intro k r hk
    obtain rfl : k = n := by omega
    exact XAt.app r (xgo sX5_copy [121] 100 (xle rfl) ⟨fun _ => ⟨rfl, rfl⟩, fun q => absurd (nI_le (Nat.le_refl _) (by omega)) q⟩)
  | succ t IH =>
    intro k r hk
    have e1 : (40 : Int32) * nI s + nI i + nI k = nI (40 * s + i + k) := ix3 s i k
    have e2 : (40 : Int32) * nI o + nI j + nI k = nI (40 * o + j + k) := ix3 o j k
    have ih := IH (k + 1) [(8, .int (nI k))] (by omega)
    have hst := cpU_s h.it (a := 40 * s + i) (b := 40 * o + j) (k := k) (by omega)
    rw [← hst, nI_succ] at ih
    refine XAt.app r (xgo sX5_copy [121] 100 (xle rfl) ⟨fun q => absurd q (nI_ge (by omega) (by omega)), fun _ => ⟨fun _ => ⟨by rw [e1]; exact vp_in_nI (by omega) (by omega), by rw [e2]; exact vp_in_nI (by omega) (by omega), ?_⟩, fun q => absurd rfl q⟩⟩)
    rw [e1, e2, nI_clamp (by omega : 40 * s + i + k < 2147483648), nI_clamp (by omega : 40 * o + j + k < 2147483648)]
    exact ih
set_option maxRecDepth 100000 in
set_option maxHeartbeats 4000000 in
theorem l_X5_copyD (s i j n : Nat) (hs : s < 4) (hi : i + n ≤ 40) (hj : j + n ≤ 40) (hd : i < j) (t : Nat) : ∀ (k : Nat) (r : XL), k + t = n → XAt E RX5 cX5_copy 9 (some .int) 110 16 (fun r σ' => r = some (.int (nI n)) ∧ σ' = mWi A h (cpI h.it (40 * s + i) (40 * s + j) n)) 121 ([(0, .ref 0), (1, .int (nI s)), (2, .int (nI i)), (3, .int (nI s)), (4, .int (nI j)), (5, .int (nI n)), (6, .int 1), (7, .int (nI k))] ++ r) [] (mWi A h (cpD h.it (40 * s + i) (40 * s + j) n k)) := by
  induction t with
  | zero =>
    intro k r hk
    obtain rfl : k = n := by omega
    rw [cpD_n]
    exact XAt.app r (xgo sX5_copy [121] 100 (xle rfl) ⟨fun _ => ⟨rfl, rfl⟩, fun q => absurd (nI_le (Nat.le_refl _) (by omega)) q⟩)
  | succ t IH =>
    intro k r hk
    obtain ⟨n', rfl⟩ : ∃ n', n = n' + 1 := ⟨n - 1, by omega⟩
    have eq : nI (n' + 1) - 1 - nI k = nI (n' + 1 - 1 - k) := by
      rw [nI_pred, pk_sub (by omega)]
      rfl
    have e1 : (40 : Int32) * nI s + nI i + nI (n' + 1 - 1 - k) = nI (40 * s + i + (n' + 1 - 1 - k)) := ix3 s i _
    have e2 : (40 : Int32) * nI s + nI j + nI (n' + 1 - 1 - k) = nI (40 * s + j + (n' + 1 - 1 - k)) := ix3 s j _
    have ih := IH (k + 1) [(8, .int (nI (n' + 1 - 1 - k)))] (by omega)
    have hst := cpD_s h.it (a := 40 * s + i) (b := 40 * s + j) (n := n' + 1) (k := k) (by omega) (by omega)
    rw [← hst, nI_succ k] at ih
    refine XAt.app r (xgo sX5_copy [121, 145] 100 (xle rfl) ⟨fun q => absurd q (nI_ge (by omega) (by omega)), fun _ => ⟨fun q => absurd q (by decide), fun _ => ?_⟩⟩)
    show XAt E RX5 cX5_copy 9 (some .int) 110 16 _ 145 [(0, .ref 0), (1, .int (nI s)), (2, .int (nI i)), (3, .int (nI s)), (4, .int (nI j)), (5, .int (nI (n' + 1))), (6, .int 1), (7, .int (nI k))] [.int (nI (n' + 1) - 1 - nI k)] _
    rw [eq]
    refine xgo sX5_copy [121] 100 (xle rfl) ⟨by rw [e1]; exact vp_in_nI (by omega) (by omega), by rw [e2]; exact vp_in_nI (by omega) (by omega), ?_⟩
    rw [e1, e2, nI_clamp (by omega : 40 * s + i + (n' + 1 - 1 - k) < 2147483648), nI_clamp (by omega : 40 * s + j + (n' + 1 - 1 - k) < 2147483648)]
    exact ih
set_option maxRecDepth 100000 in
set_option maxHeartbeats 4000000 in
theorem l_X5_copy (hM : MS A h) {s o : Nat} (hs : s < 4) (ho : o < 4) (s1 : ¬ (A.sh s).1 = -1) (o1 : ¬ (A.sh o).1 = -1) (i j n : Int32) : XAt E RX5 cX5_copy 9 (some .int) 110 16 (YRs (if holdF (A.sh s).2.1 i n = 0 then (-12, A) else if holdF (A.sh o).2.1 j n = 0 then (-12, A) else (n, shF A o (A.sh o).1 (A.sh o).2.1 (va_cpy (A.sh s).2.2 (A.sh o).2.2 i.toNatClampNeg j.toNatClampNeg n.toNatClampNeg))) h) 56 [(0, .ref 0), (1, .int (nI s)), (2, .int i), (3, .int (nI o)), (4, .int j), (5, .int n)] [] (mW A h) := by
  have cs : (nI s).toNatClampNeg = s := nI_clamp (by omega)
  have co : (nI o).toNatClampNeg = o := nI_clamp (by omega)
  rcases hM s hs with ⟨m1, _⟩ | ⟨_, _, _, s4, s5, _⟩
  · exact absurd m1 s1
  rcases hM o ho with ⟨m1, _⟩ | ⟨_, _, _, o4, o5, _⟩
  · exact absurd m1 o1
  have zs : h.sz (nI s).toNatClampNeg = nI (A.sh s).2.1 := by rw [cs]; exact s4
  have zo : h.sz (nI o).toNatClampNeg = nI (A.sh o).2.1 := by rw [co]; exact o4
  have bad : (holdF (A.sh s).2.1 i n = 0 ∨ holdF (A.sh o).2.1 j n = 0) → (if holdF (A.sh s).2.1 i n = 0 then ((-12, A) : Int32 × AS) else if holdF (A.sh o).2.1 j n = 0 then (-12, A) else (n, shF A o (A.sh o).1 (A.sh o).2.1 (va_cpy (A.sh s).2.2 (A.sh o).2.2 i.toNatClampNeg j.toNatClampNeg n.toNatClampNeg))) = (-12, A) := by
    intro z
    by_cases y : holdF (A.sh s).2.1 i n = 0
    · rw [if_pos y]
    · rw [if_neg y, if_pos (z.resolve_left y)]
  have b0 : ∀ {N : Nat} {i n : Int32}, N ≤ 40 → ¬ (0 ≤ n ∧ 0 ≤ i ∧ i ≤ nI N - n) → holdF N i n = 0 := by
    intro N i n hN z
    rcases Classical.em (holdF N i n = 0) with y | y
    · exact y
    · exact absurd (hold_y hN y) z
  have fail : (holdF (A.sh s).2.1 i n = 0 ∨ holdF (A.sh o).2.1 j n = 0) → XAt E RX5 cX5_copy 9 (some .int) 110 16 (YRs (if holdF (A.sh s).2.1 i n = 0 then (-12, A) else if holdF (A.sh o).2.1 j n = 0 then (-12, A) else (n, shF A o (A.sh o).1 (A.sh o).2.1 (va_cpy (A.sh s).2.2 (A.sh o).2.2 i.toNatClampNeg j.toNatClampNeg n.toNatClampNeg))) h) 97 [(0, .ref 0), (1, .int (nI s)), (2, .int i), (3, .int (nI o)), (4, .int j), (5, .int n)] [] (mW A h) := by
    intro z
    rw [bad z]
    exact xgo sX5_copy [] 60 (xle rfl) ⟨rfl, h, Ysh.same h, hM, rfl⟩
  refine xgo sX5_copy [97, 100] 60 (xle rfl) ⟨fun y => fail (Or.inl (b0 s5 (fun z => absurd y (Int32.not_lt.mpr z.1)))), fun y => ⟨fun y2 => fail (Or.inl (b0 s5 (fun z => absurd y2 (Int32.not_lt.mpr z.2.1)))), fun y2 => ⟨fun y3 => fail (Or.inr (b0 o5 (fun z => absurd y3 (Int32.not_lt.mpr z.2.1)))), fun y3 => ⟨vp_in_nI (by omega) (by omega), fun y4 => fail (Or.inl (b0 s5 (fun z => ?_))), fun y4 => ⟨vp_in_nI (by omega) (by omega), fun y5 => ?_, fun y5 => fail (Or.inr (b0 o5 (fun z => ?_)))⟩⟩⟩⟩⟩
  · rw [zs] at y4
    exact absurd y4 (Int32.not_lt.mpr z.2.2)
  · rw [zs] at y4
    rw [zo] at y5
    have n0 := Int32.not_lt.mp y
    have i0 := Int32.not_lt.mp y2
    have j0 := Int32.not_lt.mp y3
    have hi := hold_of s5 n0 i0 (Int32.not_lt.mp y4)
    have hj := hold_of o5 n0 j0 y5
    rw [if_neg hi, if_neg hj]
    obtain ⟨i', m, rfl, rfl, hle⟩ := hold_e s5 hi
    obtain ⟨j', m', rfl, em, hle2⟩ := hold_e o5 hj
    obtain rfl : m = m' := (nI_eq (by omega) (by omega)).mp em
    rw [nI_clamp (by omega : i' < 2147483648), nI_clamp (by omega : j' < 2147483648), nI_clamp (by omega : m < 2147483648)]
    have fin : ∀ (r : Option Value) (σ' : XW), (r = some (.int (nI m)) ∧ σ' = mWi A h (cpI h.it (40 * s + i') (40 * o + j') m)) → YRs (nI m, shF A o (A.sh o).1 (A.sh o).2.1 (va_cpy (A.sh s).2.2 (A.sh o).2.2 i' j' m)) h r σ' := by
      intro r σ' q
      exact ⟨q.1, _, Ysh.it h _, hM.cp hs ho s1 o1 hle hle2, q.2.trans (mWi_e A h _)⟩
    show XAt E RX5 cX5_copy 9 (some .int) 110 16 _ 100 [(0, .ref 0), (1, .int (nI s)), (2, .int (nI i')), (3, .int (nI o)), (4, .int (nI j')), (5, .int (nI m))] [] (mW A h)
    have up : (s ≠ o ∨ j' ≤ i') → XAt E RX5 cX5_copy 9 (some .int) 110 16 (YRs (nI m, shF A o (A.sh o).1 (A.sh o).2.1 (va_cpy (A.sh s).2.2 (A.sh o).2.2 i' j' m)) h) 121 [(0, .ref 0), (1, .int (nI s)), (2, .int (nI i')), (3, .int (nI o)), (4, .int (nI j')), (5, .int (nI m)), (6, .int 0), (7, .int 0)] [] (mW A h) := by
      intro hd
      have t := l_X5_copyU E A h s o i' j' m hs ho (by omega) (by omega) hd m 0 [] (Nat.zero_add _)
      rw [cpU_0] at t
      exact t.mono (fun r σ' _ q => fin r σ' q)
    refine xgo sX5_copy [121] 60 (xle rfl) ⟨fun e => up (Or.inl (fun z => e (by rw [z]))), fun e => ⟨fun e2 => up (Or.inr ((nI_leI (by omega) (by omega)).mp e2)), fun e2 => ?_⟩⟩
    have eso : s = o := (nI_eq (by omega) (by omega)).mp e
    subst eso
    have hlt : i' < j' := Nat.lt_of_not_le (fun z => e2 (nI_le z (by omega)))
    have t := l_X5_copyD E A h s i' j' m hs (by omega) (by omega) hlt m 0 [] (Nat.zero_add _)
    rw [cpD_0] at t
    exact t.mono (fun r σ' _ q => fin r σ' q)
  · rw [zo] at y5
    exact absurd z.2.2 y5
set_option maxRecDepth 100000 in
set_option maxHeartbeats 4000000 in
theorem c_X5_copy (hM : MS A h) (s i o j n : Int32) : XCall E 110 yX5_copy cX5_copy 9 (some .int) [.ref 0, .int s, .int i, .int o, .int j, .int n] (mW A h) (YRs (o_copy A s i o j n) h) := by
  unfold o_copy
  refine XCall.of (by decide +kernel) (xle rfl) (xgo sX5_copy [17] 60 (xle rfl) ⟨fun q => ?_, fun q => ⟨fun q2 => ?_, fun q2 => ?_⟩⟩)
  · rw [if_pos q]
    exact ⟨rfl, h, Ysh.same h, hM, rfl⟩
  · rw [if_neg q, if_neg q2]
    obtain ⟨k, hk, rfl⟩ := fs_e q
    obtain ⟨l, hl, rfl⟩ := fs_e q2
    have ck : (nI k).toNatClampNeg = k := nI_clamp (by omega)
    have cl : (nI l).toNatClampNeg = l := nI_clamp (by omega)
    rw [ck, cl]
    show XAt E RX5 cX5_copy 9 (some .int) 110 16 _ 17 [(0, .ref 0), (1, .int (nI k)), (2, .int i), (3, .int (nI l)), (4, .int j), (5, .int n)] [] (mW A h)
    rcases hM k hk with ⟨m1, m2⟩ | ⟨m1, m2, m3, m4, m5, m6⟩
    · rw [if_pos m1]
      exact xgo sX5_copy [38] 60 (xle rfl) ⟨vp_in_nI (by omega) (by omega), fun _ => ⟨rfl, h, Ysh.same h, hM, rfl⟩, fun z => absurd (show h.it0 (nI k).toNatClampNeg = 0 by rw [ck]; exact m2) z⟩
    · rw [if_neg m1]
      have z1 : ¬ h.it0 (nI k).toNatClampNeg = 0 := by rw [ck, m2]; decide
      rcases hM l hl with ⟨p1, p2⟩ | ⟨p1, p2, p3, p4, p5, p6⟩
      · rw [if_pos p1]
        exact xgo sX5_copy [38] 60 (xle rfl) ⟨vp_in_nI (by omega) (by omega), fun z => absurd z z1, fun _ => ⟨vp_in_nI (by omega) (by omega), fun z => absurd (show h.it0 (nI l).toNatClampNeg = 0 by rw [cl]; exact p2) z, fun _ => ⟨rfl, h, Ysh.same h, hM, rfl⟩⟩⟩
      · rw [if_neg p1]
        have z2 : ¬ h.it0 (nI l).toNatClampNeg = 0 := by rw [cl, p2]; decide
        refine xgo sX5_copy [56] 60 (xle rfl) ⟨vp_in_nI (by omega) (by omega), fun z => absurd z z1, fun _ => ⟨vp_in_nI (by omega) (by omega), fun _ => ⟨vp_in_nI (by omega) (by omega), vp_in_nI (by omega) (by omega), fun y => ?_, fun y => ?_⟩, fun z => absurd z z2⟩⟩
        · have y : h.so (nI k).toNatClampNeg = h.so (nI l).toNatClampNeg := y
          rw [ck, cl, m3, p3] at y
          rw [if_pos y]
          exact l_X5_copy E A h hM hk hl m1 p1 i j n
        · have y : ¬ h.so (nI k).toNatClampNeg = h.so (nI l).toNatClampNeg := y
          rw [ck, cl, m3, p3] at y
          rw [if_neg y]
          exact ⟨rfl, h, Ysh.same h, hM, rfl⟩
  · rw [if_neg q, if_pos q2]
    exact ⟨rfl, h, Ysh.same h, hM, rfl⟩
end MODEL
