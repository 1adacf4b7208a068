-- ===== the reference: gang, taken, film =====
def rnk (u : Nat) : Nat := if u = 0 then 1 else if u = 3 then 3 else if u = 4 then 3 else 2
section MODEL
variable (E : XEnv) (A : AS) (h : YQ)
set_option maxRecDepth 100000 in
set_option maxHeartbeats 4000000 in
theorem l_X5_gang (hM : MS A h) {s : Nat} (hs : s < 4) (s1 : ¬ (A.sh s).1 = -1) (so : Int32) (a n : Nat) (hn : n ≤ 5) (j : Nat) : ∀ (k : Nat) (c : Int32) (T : SH) (r : XL), k + j = n → T.n ≤ 5 → 3 * k ≤ (A.sh s).2.1 → a + 3 * k < 2147483648 → XAt E RX5 cX5_gang 8 (some .int) 110 16 (YRs ((gangF (A.sh s).2.2 (A.sh s).2.1 j (nI (a + 3 * k)) T c).1, A.set_S (gangF (A.sh s).2.2 (A.sh s).2.1 j (nI (a + 3 * k)) T c).2) h) 75 ([(0, .ref 0), (1, .int (nI s)), (2, .int so), (3, .int (nI a)), (4, .int (nI n)), (5, .int c), (6, .int (nI k))] ++ r) [] (mW (A.set_S T) h) := by
  have cs : (nI s).toNatClampNeg = s := nI_clamp (by omega)
  rcases hM s hs with ⟨m1, _⟩ | ⟨_, _, _, m4, m5, m6⟩
  · exact absurd m1 s1
  obtain ⟨N, eN⟩ : ∃ N, N = (A.sh s).2.1 := ⟨_, rfl⟩
  obtain ⟨f, ef⟩ : ∃ f, f = (A.sh s).2.2 := ⟨_, rfl⟩
  rw [← eN] at m4 m5 m6 ⊢
  rw [← ef] at m6 ⊢
  have zs : h.sz (nI s).toNatClampNeg = nI N := by rw [cs]; exact m4
  induction j with
  | zero =>
    intro k c T r hk hT h3 hb
    obtain rfl : k = n := by omega
    exact XAt.app r (xgo sX5_gang [75] 100 (xle rfl) ⟨fun _ => ⟨rfl, h, Ysh.same h, hM, rfl⟩, fun q => absurd (nI_le (Nat.le_refl _) (by omega)) q⟩)
  | succ j IH =>
    intro k c T r hk hT h3 hb
    have e3 : (3 : Int32) * nI k = nI (3 * k) := by rw [show (3 : Int32) = nI 3 from rfl, pk_mul]
    have ez : nI N - nI (3 * k) = nI (N - 3 * k) := pk_sub h3
    have fail : ¬ a + 3 * k + 3 ≤ N → gangF f N (j + 1) (nI (a + 3 * k)) T c = (-12, T) := by
      intro y
      have : holdF N (nI (a + 3 * k)) 3 = 0 := by
        rcases Classical.em (holdF N (nI (a + 3 * k)) 3 = 0) with z | z
        · exact z
        · obtain ⟨_, _, z3⟩ := hold_y m5 z
          have z3 : nI (a + 3 * k) ≤ nI N - nI 3 := z3
          rcases Nat.lt_or_ge N 3 with w | w
          · exact absurd (Int32.lt_of_le_of_lt (Int32.le_trans (nI_pos' hb) z3) (sub_neg (by omega) w)) Int32.lt_irrefl
          · rw [pk_sub w] at z3
            have := (nI_leI hb (by omega)).mp z3
            omega
      show (if holdF N (nI (a + 3 * k)) 3 = 0 then _ else _) = _
      rw [if_pos this]
    refine XAt.app r (xgo sX5_gang [75, 106] 100 (xle rfl) ⟨fun q => absurd q (nI_ge (by omega) (by omega)), fun _ => ⟨fun q => absurd q (nI_pos (by omega)), fun _ => ⟨vp_in_nI (by omega) (by omega), fun q => ?_, fun q => ?_⟩⟩⟩)
    · have q : nI a ≤ h.sz (nI s).toNatClampNeg - (3 : Int32) * nI k - nI 3 := q
      rw [zs, e3, ez] at q
      have hle : a + 3 * k + 3 ≤ N := by
        rcases Nat.lt_or_ge (N - 3 * k) 3 with w | w
        · exact absurd (Int32.lt_of_le_of_lt (Int32.le_trans (nI_pos' (by omega)) q) (sub_neg (by omega) w)) Int32.lt_irrefl
        · rw [pk_sub w] at q
          have := (nI_leI (by omega) (by omega)).mp q
          omega
      have hh : ¬ holdF N (nI (a + 3 * k)) 3 = 0 := hold_of m5 (by decide) (nI_pos' hb) (by
        show nI (a + 3 * k) ≤ nI N - nI 3
        rw [pk_sub (by omega)]
        exact nI_le (by omega) (by omega))
      have c0 : (nI (a + 3 * k)).toNatClampNeg = a + 3 * k := nI_clamp (by omega)
      have c1 : (nI (a + 3 * k) + 1).toNatClampNeg = a + 3 * k + 1 := by rw [← nI_succ]; exact nI_clamp (by omega)
      have c2 : (nI (a + 3 * k) + 2).toNatClampNeg = a + 3 * k + 2 := by
        rw [show nI (a + 3 * k) + 2 = nI (a + 3 * k + 2) from nI_add _ 2]; exact nI_clamp (by omega)
      have step : gangF f N (j + 1) (nI (a + 3 * k)) T c = gangF f N j (nI (a + 3 * (k + 1))) (wrF T (f (a + 3 * k)) (f (a + 3 * k + 1)) (f (a + 3 * k + 2))).2 (if (wrF T (f (a + 3 * k)) (f (a + 3 * k + 1)) (f (a + 3 * k + 2))).1 < 0 then c else c + 1) := by
        have : nI (a + 3 * k) + 3 = nI (a + 3 * (k + 1)) := nI_add _ 3
        rw [← this]
        show (if holdF N (nI (a + 3 * k)) 3 = 0 then _ else _) = _
        rw [if_neg hh, c0, c1, c2]
      rw [step]
      have q0 : (40 : Int32) * nI s + nI a + (3 : Int32) * nI k = nI (40 * s + a + 3 * k) := by rw [e3, ix3]
      have q1 : nI (40 * s + a + 3 * k) + 1 = nI (40 * s + a + 3 * k + 1) := (nI_succ _).symm
      have q2 : nI (40 * s + a + 3 * k) + 2 = nI (40 * s + a + 3 * k + 2) := nI_add _ 2
      have t0 : h.it (40 * s + a + 3 * k) = f (a + 3 * k) := by rw [Nat.add_assoc]; exact m6 _ (by omega)
      have t1 : h.it (40 * s + a + 3 * k + 1) = f (a + 3 * k + 1) := by
        rw [show 40 * s + a + 3 * k + 1 = 40 * s + (a + 3 * k + 1) by omega]; exact m6 _ (by omega)
      have t2 : h.it (40 * s + a + 3 * k + 2) = f (a + 3 * k + 2) := by
        rw [show 40 * s + a + 3 * k + 2 = 40 * s + (a + 3 * k + 2) by omega]; exact m6 _ (by omega)
      show XAt E RX5 cX5_gang 8 (some .int) 110 16 _ 106 [(0, .ref 0), (1, .int (nI s)), (2, .int so), (3, .int (nI a)), (4, .int (nI n)), (5, .int c), (6, .int (nI k))] [] (mW (A.set_S T) h)
      refine xgo sX5_gang [75] 100 (xle rfl) ⟨by rw [q0]; exact vp_in_nI (by omega) (by omega), by rw [q0, q1]; exact vp_in_nI (by omega) (by omega), by rw [q0, q2]; exact vp_in_nI (by omega) (by omega), ?_⟩
      rw [q0, q1, q2, nI_clamp (by omega : 40 * s + a + 3 * k < 2147483648), nI_clamp (by omega : 40 * s + a + 3 * k + 1 < 2147483648), nI_clamp (by omega : 40 * s + a + 3 * k + 2 < 2147483648), t0, t1, t2]
      have hwn := wrF_n T (f (a + 3 * k)) (f (a + 3 * k + 1)) (f (a + 3 * k + 2)) hT
      have cw := c_X5_wright E (A.set_S T) h hT (f (a + 3 * k)) (f (a + 3 * k + 1)) (f (a + 3 * k + 2))
      unfold o_wright at cw
      have cw : XCall E 20 yX5_wright cX5_wright 4 (some .int) [.ref 0, .int (f (a + 3 * k)), .int (f (a + 3 * k + 1)), .int (f (a + 3 * k + 2))] (mW (A.set_S T) h) (fun r σ' => r = some (.int (wrF T (f (a + 3 * k)) (f (a + 3 * k + 1)) (f (a + 3 * k + 2))).1) ∧ σ' = mW (A.set_S (wrF T (f (a + 3 * k)) (f (a + 3 * k + 1)) (f (a + 3 * k + 2))).2) h) := cw
      obtain ⟨w, ew⟩ : ∃ w, w = wrF T (f (a + 3 * k)) (f (a + 3 * k + 1)) (f (a + 3 * k + 2)) := ⟨_, rfl⟩
      rw [← ew] at cw hwn ⊢
      refine XIn.same (xle rfl) cw (fun r σ' _ z => ?_)
      obtain ⟨rfl, rfl⟩ := z
      refine ⟨fun y => ?_, fun y => ?_⟩
      · have y : w.1 < 0 := y
        have ih := IH (k + 1) c w.2 [(7, .int (nI (40 * s + a + 3 * k)))] (by omega) hwn (by omega) (by omega)
        rw [if_pos y]
        rw [nI_succ] at ih
        show XAt E RX5 cX5_gang 8 (some .int) 110 16 _ 75 [(0, .ref 0), (1, .int (nI s)), (2, .int so), (3, .int (nI a)), (4, .int (nI n)), (5, .int (c + 0)), (6, .int (nI k + 1)), (7, .int (nI (40 * s + a + 3 * k)))] [] (mW (A.set_S w.2) h)
        rw [Int32.add_zero]
        exact ih
      · have y : ¬ w.1 < 0 := y
        have ih := IH (k + 1) (c + 1) w.2 [(7, .int (nI (40 * s + a + 3 * k)))] (by omega) hwn (by omega) (by omega)
        rw [if_neg y]
        rw [nI_succ] at ih
        exact ih
    · have q : ¬ nI a ≤ h.sz (nI s).toNatClampNeg - (3 : Int32) * nI k - nI 3 := q
      rw [zs, e3, ez] at q
      rw [fail (fun z => q (by
        rw [pk_sub (by omega)]
        exact nI_le (by omega) (by omega)))]
      exact ⟨rfl, h, Ysh.same h, hM, rfl⟩
set_option maxRecDepth 100000 in
set_option maxHeartbeats 4000000 in
theorem c_X5_gang (hM : MS A h) (hn5 : A.S.n ≤ 5) (s so at' n : Int32) : XCall E 110 yX5_gang cX5_gang 8 (some .int) [.ref 0, .int s, .int so, .int at', .int n] (mW A h) (YRs (o_gang A s so at' n) h) := by
  have es : f_in so.toInt64 0 2 = f_within so 0 2 := f_in0 so 2 (by decide +kernel)
  have en : f_in n.toInt64 0 5 = f_within n 0 5 := f_in0 n 5 (by decide +kernel)
  unfold o_gang
  refine XCall.of (by decide +kernel) (xle rfl) (xgo sX5_gang [35] 100 (xle rfl) ⟨fun q => ?_, fun q => ⟨fun q2 => ?_, fun q2 => ⟨fun q3 => ?_, fun q3 => ?_⟩⟩⟩)
  · rw [if_pos q]
    exact ⟨rfl, h, Ysh.same h, hM, rfl⟩
  · rw [es] at q2
    rw [if_neg q, if_pos q2]
    exact ⟨rfl, h, Ysh.same h, hM, rfl⟩
  · rw [es] at q2
    rw [en] at q3
    rw [if_neg q, if_neg q2, if_neg q3]
    obtain ⟨k, hk, rfl⟩ := fs_e q
    obtain ⟨m, hm, rfl⟩ := fw_e (n := 6) (by omega) q3
    have ck : (nI k).toNatClampNeg = k := nI_clamp (by omega)
    rw [ck, nI_clamp (by omega : m < 2147483648)]
    show XAt E RX5 cX5_gang 8 (some .int) 110 16 _ 35 [(0, .ref 0), (1, .int (nI k)), (2, .int so), (3, .int at'), (4, .int (nI m))] [] (mW A h)
    rcases hM k hk with ⟨m1, m2⟩ | ⟨m1, m2, m3, m4, m5, m6⟩
    · have z0 : h.it0 (nI k).toNatClampNeg = 0 := by rw [ck]; exact m2
      rw [if_pos m1]
      exact xgo sX5_gang [] 100 (xle rfl) ⟨vp_in_nI (by omega) (by omega), fun _ => ⟨vp_in_nI (by omega) (by omega), fun z => absurd z0 z, fun _ => ⟨rfl, h, Ysh.same h, hM, rfl⟩⟩, fun z => absurd z0 z⟩
    · have z1 : ¬ h.it0 (nI k).toNatClampNeg = 0 := by rw [ck, m2]; decide
      rw [if_neg m1]
      refine xgo sX5_gang [57] 100 (xle rfl) ⟨vp_in_nI (by omega) (by omega), fun z => absurd z z1, fun _ => ⟨vp_in_nI (by omega) (by omega), fun y => ?_, fun y => ?_⟩⟩
      · have y : h.so (nI k).toNatClampNeg = so := y
        rw [ck, m3] at y
        rw [if_pos y]
        show XAt E RX5 cX5_gang 8 (some .int) 110 16 _ 57 [(0, .ref 0), (1, .int (nI k)), (2, .int so), (3, .int at'), (4, .int (nI m))] [] (mW A h)
        by_cases ha : at' < 0
        · refine xgo sX5_gang [75] 100 (xle rfl) ⟨vp_in_nI (by omega) (by omega), fun _ => ?_, fun z => absurd z z1⟩
          show XAt E RX5 cX5_gang 8 (some .int) 110 16 _ 75 [(0, .ref 0), (1, .int (nI k)), (2, .int so), (3, .int at'), (4, .int (nI m)), (5, .int 0), (6, .int 0)] [] (mW A h)
          cases m with
          | zero => exact xgo sX5_gang [] 100 (xle rfl) ⟨fun _ => ⟨rfl, h, Ysh.same h, hM, rfl⟩, fun z => absurd (by decide) z⟩
          | succ m =>
            have e : gangF (A.sh k).2.2 (A.sh k).2.1 (m + 1) at' A.S 0 = (-12, A.S) := by
              have : holdF (A.sh k).2.1 at' 3 = 0 := by
                rcases Classical.em (holdF (A.sh k).2.1 at' 3 = 0) with z | z
                · exact z
                · exact absurd ha (Int32.not_lt.mpr (hold_y m5 z).2.1)
              show (if holdF (A.sh k).2.1 at' 3 = 0 then _ else _) = _
              rw [if_pos this]
            rw [e]
            exact xgo sX5_gang [] 100 (xle rfl) ⟨fun z => absurd z (nI_ge (a := 0) (b := m + 1) (by omega) (by omega)), fun _ => ⟨fun _ => ⟨rfl, h, Ysh.same h, hM, rfl⟩, fun z => absurd ha z⟩⟩
        · obtain ⟨a, ha', rfl⟩ := nI_of ha
          refine xgo sX5_gang [75] 100 (xle rfl) ⟨vp_in_nI (by omega) (by omega), fun _ => ?_, fun z => absurd z z1⟩
          have t := l_X5_gang E A h hM hk m1 so a m (by omega) m 0 0 A.S [] (Nat.zero_add _) hn5 (by omega) (by omega)
          exact t
      · have y : ¬ h.so (nI k).toNatClampNeg = so := y
        rw [ck, m3] at y
        rw [if_neg y]
        exact ⟨rfl, h, Ysh.same h, hM, rfl⟩
  · rw [es] at q2
    rw [en] at q3
    rw [if_neg q, if_neg q2, if_pos q3]
    exact ⟨rfl, h, Ysh.same h, hM, rfl⟩
theorem over_x {u : Nat} (h : u < 6) : f_over (nI u) = xst 1 (nI u).toNatClampNeg := by
  rcases (by omega : u = 0 ∨ u = 1 ∨ u = 2 ∨ u = 3 ∨ u = 4 ∨ u = 5) with rfl | rfl | rfl | rfl | rfl | rfl <;> decide +kernel
theorem over_r {u j : Nat} (h : u < 6) (hr : rnk u < j + 1) : f_over (nI u) = -1 ∨ ∃ u', u' < 6 ∧ f_over (nI u) = nI u' ∧ rnk u' < j := by
  rcases (by omega : u = 0 ∨ u = 1 ∨ u = 2 ∨ u = 3 ∨ u = 4 ∨ u = 5) with rfl | rfl | rfl | rfl | rfl | rfl
  · exact Or.inl (by decide +kernel)
  · exact Or.inr ⟨0, by omega, by decide +kernel, by simp [rnk] at hr ⊢; omega⟩
  · exact Or.inr ⟨0, by omega, by decide +kernel, by simp [rnk] at hr ⊢; omega⟩
  · exact Or.inr ⟨1, by omega, by decide +kernel, by simp [rnk] at hr ⊢; omega⟩
  · exact Or.inr ⟨2, by omega, by decide +kernel, by simp [rnk] at hr ⊢; omega⟩
  · exact Or.inr ⟨0, by omega, by decide +kernel, by simp [rnk] at hr ⊢; omega⟩
set_option maxRecDepth 100000 in
set_option maxHeartbeats 4000000 in
theorem l_X5_taken {one : Nat} (h1 : one < 5) (k : Int32) (hk : ¬ f_within k 0 5 = 0) (j : Nat) : ∀ (x : Int32), (x = -1 ∧ 0 < j ∨ ∃ u, u < 6 ∧ x = nI u ∧ rnk u < j) → XAt E RX5 cX5_taken 4 (some .int) 110 16 (YRk (tkF A.S one k j x, A) h) 37 [(0, .ref 0), (1, .int (nI one)), (2, .int k), (3, .int x)] [] (mW A h) := by
  have km : ¬ (-1 : Int32) = k := fun z => by rw [← z] at hk; exact hk (by decide)
  have e0 : (4 : Int32) * nI one = nI (4 * one) := ix40 one
  have c0 : (nI (4 * one)).toNatClampNeg = 4 * one := nI_clamp (by omega)
  have fin : ∀ x, XAt E RX5 cX5_taken 4 (some .int) 110 16 (YRk (if x = k then A.S.nu one else -13, A) h) 55 [(0, .ref 0), (1, .int (nI one)), (2, .int k), (3, .int x)] [] (mW A h) := by
    intro x
    refine xgo sX5_taken [] 60 (xle rfl) ⟨fun q => ⟨by rw [if_neg q], h, Yk.same h, rfl⟩, fun q => ⟨by rw [e0]; exact vp_in_nI (by omega) (by omega), ?_, h, Yk.same h, rfl⟩⟩
    rw [e0, c0, rows0, if_pos q]
  induction j with
  | zero =>
    intro x hx
    rcases hx with ⟨_, z⟩ | ⟨u, _, _, z⟩ <;> omega
  | succ j IH =>
    intro x hx
    rcases hx with ⟨rfl, _⟩ | ⟨u, hu, rfl, hr⟩
    · have e : tkF A.S one k (j + 1) (-1) = -13 := by
        show (if f_within (-1) 0 5 = 0 then _ else _) = _
        rw [if_pos (by decide)]
      have t := fin (-1)
      rw [if_neg km] at t
      rw [e]
      exact xgo sX5_taken [37, 55] 60 (xle rfl) ⟨fun _ => t, fun q => absurd rfl q⟩
    · have ew : f_within (nI u) 0 5 = 1 := fw_in (n := 6) (by omega) hu
      have nw : ¬ f_within (nI u) 0 5 = 0 := by rw [ew]; decide
      refine xgo sX5_taken [37, 55] 60 (xle rfl) ⟨fun q => absurd q (nI_m1 (by omega)), fun _ => ⟨fun q => ?_, fun q => ?_⟩⟩
      · have e : tkF A.S one k (j + 1) (nI u) = A.S.nu one := by
          show (if f_within (nI u) 0 5 = 0 then _ else if nI u = k then _ else _) = _
          rw [if_neg nw, if_pos q]
        have t := fin (nI u)
        rw [if_pos q] at t
        rw [e]
        exact t
      · have e : tkF A.S one k (j + 1) (nI u) = tkF A.S one k j (f_over (nI u)) := by
          show (if f_within (nI u) 0 5 = 0 then _ else if nI u = k then _ else tkF A.S one k j (xst 1 (nI u).toNatClampNeg)) = _
          rw [if_neg nw, if_neg q, over_x hu]
        rw [e]
        refine IH (f_over (nI u)) ?_
        rcases over_r hu hr with z | z
        · refine Or.inl ⟨z, ?_⟩
          have : 1 ≤ rnk u := by
            unfold rnk
            split
            · omega
            · split
              · omega
              · split <;> omega
          omega
        · exact Or.inr z
set_option maxRecDepth 100000 in
theorem c_X5_taken (hR : RI A.S) (one k : Int32) : XCall E 110 yX5_taken cX5_taken 4 (some .int) [.ref 0, .int one, .int k] (mW A h) (YRk (o_taken A one k) h) := by
  have h5 := hR.1
  have ek : f_in k.toInt64 0 5 = f_within k 0 5 := f_in0 k 5 (by decide +kernel)
  unfold o_taken
  refine XCall.of (by decide +kernel) (xle rfl) (xgo sX5_taken [15] 60 (xle rfl) ⟨fun q => ?_, fun q => ?_⟩)
  · rw [ek] at q
    rw [if_neg q]
    refine xgo sX5_taken [26] 60 (xle rfl) (XIn.same (xle rfl) (c_X5_isOne E A h one) (fun r σ' _ z => ?_))
    obtain ⟨rfl, rfl⟩ := z
    refine ⟨fun q2 => ?_, fun q2 => ?_⟩
    · rw [if_neg q2]
      obtain ⟨i, hi, rfl⟩ := fw_e (by omega) q2
      rw [nI_clamp (by omega : i < 2147483648)]
      have e2 : (4 : Int32) * nI i + 2 = nI (4 * i + 2) := ix4 i 2 (by omega)
      show XAt E RX5 cX5_taken 4 (some .int) 110 16 _ 26 [(0, .ref 0), (1, .int (nI i)), (2, .int k)] [] (mW A h)
      refine xgo sX5_taken [37] 60 (xle rfl) ⟨by rw [e2]; exact vp_in_nI (by omega) (by omega), ?_⟩
      rw [e2, nI_clamp (by omega : 4 * i + 2 < 2147483648), rows2]
      refine l_X5_taken E A h (by omega) k q 6 (A.S.ki i) (Or.inr ?_)
      obtain ⟨u, hu, eu⟩ := i32_of (N := 5) (by omega) (hR.2.2.2.2 i hi).2.2.1.1 (hR.2.2.2.2 i hi).2.2.1.2
      refine ⟨u, by omega, eu, ?_⟩
      unfold rnk
      split
      · omega
      · split
        · omega
        · split <;> omega
    · rw [if_pos q2]
      exact ⟨rfl, h, Yk.same h, rfl⟩
  · rw [ek] at q
    rw [if_pos q]
    exact ⟨rfl, h, Yk.same h, rfl⟩
theorem put0 : (List.range 101).all (fun w => (nI w).toInt8.toInt32 == nI w) = true := by decide +kernel
theorem put0_e {S : SH} (hR : RI S) : putF 0 S.wa = S.wa := by
  obtain ⟨w, hw, e⟩ := i32_of (N := 100) (by omega) hR.2.2.2.1.1 hR.2.2.2.1.2
  rw [e]
  show (nI w).toInt8.toInt32 = nI w
  simpa using List.all_eq_true.mp put0 w (List.mem_range.mpr (by omega))
set_option maxRecDepth 100000 in
set_option maxHeartbeats 4000000 in
theorem l_X5_film (hs : SaysOk E A (tvA A A.ru) h.tx h.ts) (hR : RI A.S) {s : Nat} (hs4 : s < 4) (n : Nat) (hn : n ≤ 20) (g : F32) (j : Nat) : ∀ (k : Nat) (h2 : YQ), k + j = n → h2.wz = asideF A.S g → Ysh h h2 → MS (shF A s 0 n (fmF (tvA A A.ru) A.S k)) h2 → XAt E RX5 cX5_film 4 (some .int) 110 16 (YRs (nI n, shF A s 0 n (fmF (tvA A A.ru) A.S n)) h) 36 [(0, .ref 0), (1, .int (nI s)), (2, .int (nI n)), (3, .int (nI k))] [] (mW (A.set_S (daysF (tvA A A.ru) k A.S)) h2) := by
  induction j with
  | zero =>
    intro k h2 hk hw hy hM
    obtain rfl : k = n := by omega
    refine xgo sX5_film [36] 60 (xle rfl) ⟨fun _ => XIn.same (xle rfl) (c_X5_laysBack E A h2 A.S (daysF (tvA A A.ru) k A.S) g hw (daysF_n _ k A.S)) (fun r σ' _ q => ?_), fun q => absurd (nI_le (Nat.le_refl _) (by omega)) q⟩
    obtain ⟨rfl, rfl⟩ := q
    exact ⟨rfl, h2, hy, hM, rfl⟩
  | succ j IH =>
    intro k h2 hk hw hy hM
    refine xgo sX5_film [36] 60 (xle rfl) ⟨fun q => absurd q (nI_ge (by omega) (by omega)), fun _ => XIn.same (xle rfl) (c_X5_passes E A hs h2 hy.1 hy.2.1 (daysF (tvA A A.ru) k A.S) (RI_days _ k hR)) (fun r σ' _ q => ?_)⟩
    obtain ⟨rfl, x, rfl⟩ := q
    have ei : (40 : Int32) * nI s + nI k = nI (40 * s + k) := ix40m s k
    have hyx := Yk.rd h2 x
    have hwx : (h2.rd x).wz = asideF A.S g := hw
    obtain ⟨h3, e3⟩ : ∃ y, y = h2.rd x := ⟨_, rfl⟩
    rw [← e3] at hyx hwx ⊢
    refine ⟨by rw [ei]; exact vp_in_nI (by omega) (by omega), ?_⟩
    rw [ei, nI_clamp (by omega : 40 * s + k < 2147483648)]
    have ed : dayF (tvA A A.ru) (daysF (tvA A A.ru) k A.S) = daysF (tvA A A.ru) (k + 1) A.S := (daysF_s _ k A.S).symm
    rw [ed]
    have hR1 : RI (daysF (tvA A A.ru) (k + 1) A.S) := RI_days _ (k + 1) hR
    have hM1 := (hM.yk hyx).put hs4 (show ¬ (0 : Int32) = -1 by decide) (k := k) (by omega) (putF 0 (daysF (tvA A A.ru) (k + 1) A.S).wa)
    rw [put0_e hR1] at hM1
    have ef : upd (fmF (tvA A A.ru) A.S k) k (daysF (tvA A A.ru) (k + 1) A.S).wa = fmF (tvA A A.ru) A.S (k + 1) := by
      show _ = upd (fmF (tvA A A.ru) A.S k) k (putF 0 (daysF (tvA A A.ru) (k + 1) A.S).wa)
      rw [put0_e hR1]
    rw [ef] at hM1
    obtain ⟨X, eX⟩ : ∃ X, X = upd h3.it (40 * s + k) (daysF (tvA A A.ru) (k + 1) A.S).wa := ⟨_, rfl⟩
    rw [← eX] at hM1
    have hwx2 : (h3.set_it X).wz = asideF A.S g := hwx
    have ih := IH (k + 1) (h3.set_it X) (by omega) hwx2 (hy.trans (hyx.sh.trans (Ysh.it _ _))) hM1
    rw [nI_succ, ← mWi_e, eX] at ih
    exact ih
set_option maxRecDepth 100000 in
set_option maxHeartbeats 4000000 in
theorem c_X5_film (hs : SaysOk E A (tvA A A.ru) h.tx h.ts) (hR : RI A.S) (hM : MS A h) (s n : Int32) : XCall E 110 yX5_film cX5_film 4 (some .int) [.ref 0, .int s, .int n] (mW A h) (YRs (o_film A s n) h) := by
  have en : f_in n.toInt64 0 20 = f_within n 0 20 := f_in0 n 20 (by decide +kernel)
  unfold o_film
  refine XCall.of (by decide +kernel) (xle rfl) (xgo sX5_film [22] 60 (xle rfl) ⟨fun q => ?_, fun q => ⟨fun q2 => ?_, fun q2 => ?_⟩⟩)
  · rw [if_pos q]
    exact ⟨rfl, h, Ysh.same h, hM, rfl⟩
  · rw [en] at q2
    rw [if_neg q, if_neg q2]
    obtain ⟨k, hk, rfl⟩ := fs_e q
    obtain ⟨m, hm, rfl⟩ := fw_e (n := 21) (by omega) q2
    have ck : (nI k).toNatClampNeg = k := nI_clamp (by omega)
    have cm : (nI m).toNatClampNeg = m := nI_clamp (by omega)
    have eo : o_sheet A (nI k) 0 (nI m) = (1, shF A k 0 m (fun _ => 0)) := by
      unfold o_sheet
      rw [if_neg q, if_neg (by decide), if_neg (by decide), if_pos (show nI m ≤ (40 : Int32) from nI_le (b := 40) (by omega) (by omega)), if_pos (nI_pos' (by omega)), ck, cm]
    have cS := c_X5_sheet E A h hM (nI k) 0 (nI m)
    rw [eo] at cS
    rw [ck, cm]
    show XAt E RX5 cX5_film 4 (some .int) 110 16 _ 22 [(0, .ref 0), (1, .int (nI k)), (2, .int (nI m))] [] (mW A h)
    refine xgo sX5_film [36] 60 (xle rfl) (XIn.same (xle rfl) cS (fun r σ' _ z => ?_))
    obtain ⟨rfl, h2, hy, hM2, rfl⟩ := z
    refine XIn.same (xle rfl) (c_X5_aside E A h2) (fun r σ' _ z => ?_)
    obtain ⟨rfl, h3, hw, hy3, rfl⟩ := z
    exact l_X5_film E A h hs hR hk m (by omega) h2.wz m 0 h3 (Nat.zero_add _) hw (hy.trans hy3.sh) (hM2.yk hy3)
  · rw [en] at q2
    rw [if_neg q, if_pos q2]
    exact ⟨rfl, h, Ysh.same h, hM, rfl⟩
end MODEL
