-- ===== the reference: the yard =====
def YQ.yd (h : YQ) (ba : F32) (b1 b2 b3 : Int32) : YQ := (h.tx, h.ts, h.o1, h.o2, h.o3, h.o4, h.o5, h.o6, h.p1, h.p2, h.p3, h.p4, h.p5, h.pw, h.p6, h.p7, h.p8, h.wz, ba, b1, b2, b3, h.rk, h.bk, h.sk, h.k1, h.k2, h.k3, h.k4, h.k5, h.it0, h.so, h.sz, h.it, h.th)
def Yb (h h' : YQ) : Prop := h'.ba = h.ba ∧ h'.b1 = h.b1 ∧ h'.b2 = h.b2 ∧ h'.b3 = h.b3
theorem Yk.yd (h : YQ) (ba : F32) (b1 b2 b3 : Int32) : Yk h (h.yd ba b1 b2 b3) := ⟨⟨rfl, rfl, rfl, rfl, rfl, rfl⟩, rfl, rfl, rfl, rfl, rfl, rfl, rfl, rfl⟩
theorem c_X5_asideB (E : XEnv) (A : AS) (h : YQ) : XCall E 10 yX5_laysAside cX5_laysAside 2 none [.ref 0] (mW A h) (fun r σ' => r = none ∧ ∃ h', h'.wz = asideF A.S h.wz ∧ Yk h h' ∧ Yb h h' ∧ σ' = mW A h') :=
  (c_X5_laysAside E A h).mono (fun r σ' _ q => ⟨q.1, h.set_wz (asideF A.S h.wz), rfl, Yk.wz h _, ⟨rfl, rfl, rfl, rfl⟩, q.2⟩)
theorem makes_r (tv : TV) (S : SH) (one k : Nat) : ∃ b, b < 100 ∧ makesF tv S one k = nI b := by
  unfold makesF
  split
  · exact f_bound_nI _
  · split
    · exact f_bound_nI _
    · split
      · exact f_bound_nI _
      · split
        · exact f_bound_nI _
        · split
          · split
            · exact ⟨99, by omega, rfl⟩
            · exact ⟨0, by omega, rfl⟩
          · exact f_bound_nI _
theorem RI_build {tv : TV} {S : SH} (hR : RI S) (i k : Nat) : RI (buildF tv S i k) := by
  obtain ⟨b, hb, e⟩ := makes_r tv S i k
  have h : RI (S.setSo (upd S.so k (makesF tv S i k))) := hR.so (by rw [e]; exact nI_le (a := 0) (by omega) (by omega)) (by rw [e]; exact nI_le (b := 99) (by omega) (by omega))
  exact ⟨h.1, h.2.1, h.2.2.1, h.2.2.2.1, h.2.2.2.2⟩
theorem bind_r {S : SH} (hR : RI S) : ∀ k i, i < S.n → 0 ≤ bindF S k i ∧ bindF S k i ≤ 2
  | 0, i, hi => (hR.2.2.2.2 i hi).2.2.2
  | k + 1, i, hi => by
    unfold bindF
    split
    · unfold upd
      split
      · exact ⟨by decide, by decide⟩
      · exact bind_r hR k i hi
    · exact bind_r hR k i hi
theorem RI_bind {S : SH} (hR : RI S) : RI (S.setPl (bindF S S.n)) := ⟨hR.1, hR.2.1, hR.2.2.1, hR.2.2.2.1, fun i hi => ⟨(hR.2.2.2.2 i hi).1, (hR.2.2.2.2 i hi).2.1, (hR.2.2.2.2 i hi).2.2.1, bind_r hR S.n i hi⟩⟩
theorem RI_wb (tv : TV) (w : Int32) : ∀ (r b : Nat) (S T : SH), RI S → wbF tv w r b S = some T → RI T
  | 0, b, S, T, hR, h => by
    cases h
    exact hR
  | r + 1, b, S, T, hR, h => by
    unfold wbF at h
    cases hm : nuN S.ma (10 - b) b with
    | none => rw [hm] at h; cases h
    | some m =>
      rw [hm] at h
      dsimp only at h
      split at h
      · cases h
      · split at h
        · exact RI_wb tv w r (m + 1) _ T (RI_build hR _ _) h
        · cases h
theorem wy_0 (tv : TV) {S : SH} (hR : RI S) (p n : Nat) (w : Int32) : 0 ≤ wyF tv S p n w := by
  unfold wyF
  cases h : wbF tv w p 0 S with
  | none => exact (by decide : (0 : Int32) ≤ 101)
  | some T => exact (RI_days tv n (RI_bind (RI_wb tv w p 0 S T hR h))).2.2.2.1.1
section MODEL
variable (E : XEnv) (A : AS)
set_option maxRecDepth 100000 in
set_option maxHeartbeats 4000000 in
theorem c_X5_leaf {tv : TV} {tx ts : F32} (hs : SaysOk E A tv tx ts) (n : Nat) (hn : n ≤ 40) (S : SH) (k row : Nat) (a : Int32 × Int32) (h : YQ) (htx : h.tx = tx) (hts : h.ts = ts) (hR : RI S) (h1 : h.b1 = nI k) (h2 : h.b2 = a.1) (h3 : h.b3 = a.2) : XCall E 107 yX5_tries cX5_tries 6 none [.ref 0, .int (nI k), .int (nI row), .int (nI n)] (mW (A.set_S S) h) (fun r σ' => r = none ∧ ∃ h', Yk h h' ∧ h'.ba = h.ba ∧ h'.b1 = h.b1 ∧ (h'.b2, h'.b3) = trF tv n [] S row a ∧ σ' = mW (A.set_S S) h') := by
  refine XCall.of (by decide +kernel) (xle rfl) (xgo sX5_tries [52] 100 (xle rfl) ⟨fun q => absurd h1.symm q, fun _ => XIn.same (xle rfl) (c_X5_asideB E (A.set_S S) h) (fun r σ' _ q => ?_)⟩)
  obtain ⟨rfl, g1, hw, hy, ⟨b0, b1, b2, b3⟩, rfl⟩ := q
  refine XIn.same (xle rfl) (c_X5_binds E (A.set_S S) g1 hR.1) (fun r σ' _ q => ?_)
  obtain ⟨rfl, rfl⟩ := q
  refine XIn.same (xle rfl) (c_X5_sails E A hs n (by omega) (S.setPl (bindF S S.n)) g1 (hy.1.1.trans htx) (hy.1.2.1.trans hts) (RI_bind hR)) (fun r σ' _ q => ?_)
  obtain ⟨rfl, x, rfl⟩ := q
  have hy2 := hy.trans (Yk.rd g1 x)
  have hw2 : (g1.rd x).wz = asideF S h.wz := hw
  have b0' : (g1.rd x).ba = h.ba := b0
  have b1' : (g1.rd x).b1 = h.b1 := b1
  have b2' : (g1.rd x).b2 = h.b2 := b2
  have b3' : (g1.rd x).b3 = h.b3 := b3
  obtain ⟨g2, e2⟩ : ∃ y, y = g1.rd x := ⟨_, rfl⟩
  rw [← e2] at hy2 hw2 b0' b1' b2' b3' ⊢
  refine XIn.same (xle rfl) (c_X5_laysBack E A g2 S (daysF tv n (S.setPl (bindF S S.n))) h.wz hw2 (daysF_n _ n _)) (fun r σ' _ q => ?_)
  obtain ⟨rfl, rfl⟩ := q
  refine ⟨fun q => ?_, fun q => ?_⟩
  · have q : g2.b3 ≤ leafF tv n S := q
    refine ⟨rfl, g2, hy2, b0', b1', ?_, rfl⟩
    unfold trF
    rw [b3', h3] at q
    rw [if_neg (Int32.not_lt.mpr q), b2', b3', h2, h3]
  · have q : ¬ g2.b3 ≤ leafF tv n S := q
    refine ⟨rfl, g2.yd g2.ba g2.b1 (nI row) (leafF tv n S), hy2.trans (Yk.yd g2 _ _ _ _), b0', b1', ?_, rfl⟩
    unfold trF
    rw [b3', h3] at q
    rw [if_pos (Int32.not_le.mp q)]
    rfl
theorem row_e (row p : Nat) : (6 : Int32) * nI row + nI p + 1 = nI (6 * row + p + 1) := by
  rw [show (6 : Int32) = nI 6 from rfl, pk_mul, nI_add, ← nI_succ]
set_option maxRecDepth 100000 in
set_option maxHeartbeats 4000000 in
theorem c_X5_tries {tv : TV} {tx ts : F32} (hs : SaysOk E A tv tx ts) (n : Nat) (hn : n ≤ 40) : ∀ (l : List Nat) (b : Nat) (S : SH) (k row : Nat) (a : Int32 × Int32) (h : YQ), h.tx = tx → h.ts = ts → RI S → BAp S.ma b l → b ≤ 10 → k + l.length ≤ 3 → h.b1 = nI (k + l.length) → (∀ i m, l[i]? = some m → h.ba (k + i) = nI m) → h.b2 = a.1 → h.b3 = a.2 → XCall E (l.length + 107) yX5_tries cX5_tries 6 none [.ref 0, .int (nI k), .int (nI row), .int (nI n)] (mW (A.set_S S) h) (fun r σ' => r = none ∧ ∃ h', Yk h h' ∧ h'.ba = h.ba ∧ h'.b1 = h.b1 ∧ (h'.b2, h'.b3) = trF tv n l S row a ∧ σ' = mW (A.set_S S) h')
  | [], b, S, k, row, a, h, htx, hts, hR, _, _, _, h1, _, h2, h3 => c_X5_leaf E A hs n hn S k row a h htx hts hR h1 h2 h3
  | m :: l, b, S, k, row, a, h, htx, hts, hR, hB, hb, hk, h1, hba, h2, h3 => by
    have hk : k + (l.length + 1) ≤ 3 := hk
    have h1 : h.b1 = nI (k + (l.length + 1)) := h1
    have hmr := nuN_at _ _ _ _ hB.1
    have hm10 : m < 10 := by omega
    have hma := nuN_is _ _ _ _ hB.1
    have hbk := hba 0 m rfl
    have hbk : h.ba k = nI m := hbk
    have ck : (nI k).toNatClampNeg = k := nI_clamp (by omega)
    have cm : (nI m).toNatClampNeg = m := nI_clamp (by omega)
    have h5 := hR.1
    obtain ⟨Lv, eLv⟩ : ∃ Lv, Lv = l.length + 1 + 107 := ⟨_, rfl⟩
    have loop : ∀ (j p : Nat) (g : YQ), p + j = S.n → Yk h g → g.ba = h.ba → g.b1 = h.b1 → (g.b2, g.b3) = trP (fun p a => if S.pl p = 0 then trF tv n l (buildF tv S p m) (6 * row + p + 1) a else a) p a → XAt E RX5 cX5_tries 6 none Lv 16 (fun r σ' => r = none ∧ ∃ h', Yk h h' ∧ h'.ba = h.ba ∧ h'.b1 = h.b1 ∧ (h'.b2, h'.b3) = trF tv n (m :: l) S row a ∧ σ' = mW (A.set_S S) h') 68 [(0, .ref 0), (1, .int (nI k)), (2, .int (nI row)), (3, .int (nI n)), (4, .int (S.so m)), (5, .int (nI p))] [] (mW (A.set_S S) g) := by
      intro j
      induction j with
      | zero =>
        intro p g hp hy q1 q2 q3
        obtain rfl : p = S.n := by omega
        exact xgo sX5_tries [68] 100 (by omega) ⟨fun _ => ⟨rfl, g, hy, q1, q2, q3, rfl⟩, fun q => absurd (nI_le (a := S.n) (b := S.n) (Nat.le_refl _) (by omega)) q⟩
      | succ j IH =>
        intro p g hp hy q1 q2 q3
        have c1 := c_X5_isAt E (A.set_S S) g p (by omega) 0
        have eg : g.ba (nI k).toNatClampNeg = nI m := by rw [ck, q1]; exact hbk
        refine xgo sX5_tries [68] 100 (by omega) ⟨fun q => absurd q (nI_ge (b := S.n) (by omega) (by omega)), fun _ => XIn.same (by omega) c1 (fun r σ' _ q => ?_)⟩
        obtain ⟨rfl, rfl⟩ := q
        by_cases h0 : S.pl p = 0
        · rw [if_pos (show (A.set_S S).S.pl p = 0 from h0)]
          refine ⟨fun z => absurd z (by decide), fun _ => ⟨vp_in_nI (by omega) (by omega), ?_⟩⟩
          rw [eg]
          refine XIn.same (by omega) (c_X5_built E A g hs (hy.1.1.trans htx) (hy.1.2.1.trans hts) S h5 p m (by omega) hm10 (hR.2.2.2.2 p (by omega)).1) (fun r σ' _ q => ?_)
          obtain ⟨rfl, x, rfl⟩ := q
          have hB' : BAp (buildF tv S p m).ma (m + 1) l := by
            refine BAp_congr l (m + 1) (fun i hi => ?_) hB.2
            show S.ma i = upd S.ma m (nI p) i
            exact (pk_un (by omega)).symm
          have ct := c_X5_tries hs n hn l (m + 1) (buildF tv S p m) (k + 1) (6 * row + p + 1) (g.b2, g.b3) (g.rd x) (hy.1.1.trans htx) (hy.1.2.1.trans hts) (RI_build hR p m) hB' (by omega) (by omega) (by
            show g.b1 = _
            rw [q2, h1]
            congr 1
            omega) (fun i m' hi => by
            show g.ba (k + 1 + i) = nI m'
            rw [q1, show k + 1 + i = k + (i + 1) by omega]
            exact hba (i + 1) m' hi) rfl rfl
          rw [← row_e, nI_succ k] at ct
          refine XIn.same (by omega) ct (fun r σ' _ q => ?_)
          obtain ⟨rfl, g3, hy3, r1, r2, r3, rfl⟩ := q
          have r1 : g3.ba = g.ba := r1
          have r2 : g3.b1 = g.b1 := r2
          have eg3 : g3.ba (nI k).toNatClampNeg = nI m := by rw [r1]; exact eg
          refine ⟨vp_in_nI (by omega) (by omega), by rw [eg3]; exact vp_in_nI (by omega) (by omega), vp_in_nI (by omega) (by omega), by rw [eg3]; exact vp_in_nI (by omega) (by omega), ?_⟩
          rw [eg3, cm]
          have es : ((buildF tv S p m).setMa (upd (buildF tv S p m).ma m (-1))).setSo (upd (buildF tv S p m).so m (S.so m)) = S := by
            have e1 : upd (upd S.ma m (nI p)) m (-1) = S.ma := by rw [← hma]; exact upd_bk S.ma m (nI p)
            have e2 : upd (upd S.so m (makesF tv S p m)) m (S.so m) = S.so := upd_bk S.so m _
            show (S.setMa (upd (upd S.ma m (nI p)) m (-1))).setSo (upd (upd S.so m (makesF tv S p m)) m (S.so m)) = S
            rw [e1, e2]
            rfl
          have ih := IH (p + 1) g3 (by omega) (hy.trans ((Yk.rd g x).trans hy3)) (r1.trans q1) (r2.trans q2) (by
            rw [r3, q3]
            show _ = if S.pl p = 0 then _ else _
            rw [if_pos h0])
          rw [nI_succ] at ih
          have ew : mW (A.set_S (((buildF tv S p m).setMa (upd (buildF tv S p m).ma m (-1))).setSo (upd (buildF tv S p m).so m (S.so m)))) g3 = mW (A.set_S S) g3 := by rw [es]
          rw [← ew] at ih
          exact ih
        · rw [if_neg (show ¬ (A.set_S S).S.pl p = 0 from h0)]
          have ih := IH (p + 1) g (by omega) hy q1 q2 (by
            rw [q3]
            show _ = if S.pl p = 0 then _ else _
            rw [if_neg h0])
          rw [nI_succ] at ih
          exact ⟨fun _ => ih, fun z => absurd rfl z⟩
    have hne : ¬ nI k = h.b1 := by
      rw [h1]
      intro z
      have := (nI_eq (by omega) (by omega)).mp z
      omega
    show XCall E (l.length + 1 + 107) yX5_tries cX5_tries 6 none [.ref 0, .int (nI k), .int (nI row), .int (nI n)] (mW (A.set_S S) h) _
    rw [← eLv]
    have eh : h.ba (nI k).toNatClampNeg = nI m := by rw [ck]; exact hbk
    refine XCall.of (by decide +kernel) (xle rfl) (xgo sX5_tries [68] 100 (by omega) ⟨fun _ => ⟨vp_in_nI (by omega) (by omega), by rw [eh]; exact vp_in_nI (by omega) (by omega), ?_⟩, fun q => absurd q hne⟩)
    rw [eh, cm]
    exact loop S.n 0 h (Nat.zero_add _) (Yk.same h) rfl rfl (by rw [h2, h3]; rfl)
def r0F (S : SH) : Nat := if whoF S.pl 0 S.n = 0 then 0 else 3
theorem yp_len (S : SH) : ypF S = nI (blF S.ma (r0F S) 0).length := by
  have hl := bl_len S.ma 10 0 (r0F S) rfl
  have hc := cnN_le S.ma (-1) 10
  rw [hl]
  unfold ypF r0F
  by_cases h : whoF S.pl 0 S.n = 0
  · rw [if_pos h, if_pos h, Nat.zero_min]
    rfl
  · rw [if_neg h, if_neg h, whoF_N _ _ 10 (Nat.le_refl _), bits_cn _ _ 10 (Nat.le_refl _), show (10 : Int32) = nI 10 from rfl, pk_sub hc, pk_sub (by omega), show 10 - (10 - cnN S.ma (-1) 10) = cnN S.ma (-1) 10 by omega]
    show f_min 3 (nI (cnN S.ma (-1) 10)) = nI (min 3 (cnN S.ma (-1) 10 - 0))
    rw [Nat.sub_zero]
    unfold f_min
    by_cases h3 : nI (cnN S.ma (-1) 10) < (3 : Int32)
    · rw [if_pos h3]
      have := (nI_ltI (a := cnN S.ma (-1) 10) (b := 3) (by omega) (by omega)).mp h3
      rw [show min 3 (cnN S.ma (-1) 10) = cnN S.ma (-1) 10 by omega]
    · rw [if_neg h3]
      have : ¬ cnN S.ma (-1) 10 < 3 := fun z => h3 (nI_lt (b := 3) z (by omega))
      rw [show min 3 (cnN S.ma (-1) 10) = 3 by omega]
      rfl
theorem yard_tr (tv : TV) {S : SH} (hR : RI S) (n : Nat) : ydF tv S (ypF S).toNatClampNeg n (6 ^ (ypF S).toNatClampNeg) 0 0 101 = trF tv n (blF S.ma (r0F S) 0) S 0 (0, 101) := by
  have hl : (blF S.ma (r0F S) 0).length ≤ 3 := by
    rw [bl_len S.ma 10 0 (r0F S) rfl]
    have : r0F S ≤ 3 := by unfold r0F; split <;> omega
    omega
  rw [yp_len, nI_clamp (by omega), yd_sc tv S _ n (wy_0 tv hR _ n)]
  have t := sc_tr tv n (blF S.ma (r0F S) 0) 0 S 0 (0, 101) hl (Nat.pow_pos (by omega)) (bl_BA S.ma _ 0) hR.1 (by decide)
  rw [← t.1, Nat.zero_mul]
  exact sc_congr _ 0 _ (fun w _ _ => wy_vl tv S _ n (nI w))
set_option maxRecDepth 100000 in
set_option maxHeartbeats 4000000 in
theorem l_X5_yard {h : YQ} (hs : SaysOk E A (tvA A A.ru) h.tx h.ts) (hR : RI A.S) (n : Nat) (hn : n ≤ 40) (what : Int32) (j : Nat) : ∀ (t : Nat) (L : List Nat) (g : YQ), t + j = 10 → Yk h g → g.b1 = nI L.length → (∀ i m, L[i]? = some m → g.ba i = nI m) → L.length ≤ r0F A.S → L ++ blF A.S.ma (r0F A.S - L.length) t = blF A.S.ma (r0F A.S) 0 → XAt E RX5 cX5_yard 4 (some .int) 111 16 (YRk (if what = 0 then (trF (tvA A A.ru) n (blF A.S.ma (r0F A.S) 0) A.S 0 (0, 101)).1 else (trF (tvA A A.ru) n (blF A.S.ma (r0F A.S) 0) A.S 0 (0, 101)).2, A) h) 32 [(0, .ref 0), (1, .int (nI n)), (2, .int what), (3, .int (nI t))] [] (mW A g) := by
  have h5 := hR.1
  have r3 : r0F A.S ≤ 3 := by unfold r0F; split <;> omega
  induction j with
  | zero =>
    intro t L g ht hy hb1 hba hL hW
    obtain rfl : t = 10 := by omega
    rw [bl_10, List.append_nil] at hW
    rw [← hW]
    have ct := c_X5_tries E A hs n hn L 0 A.S 0 0 (0, 101) (g.yd g.ba g.b1 0 101) hy.1.1 hy.1.2.1 hR (by rw [hW]; exact bl_BA A.S.ma _ 0) (by omega) (by omega) (by rw [Nat.zero_add]; exact hb1) (fun i m hi => by rw [Nat.zero_add]; exact hba i m hi) rfl rfl
    refine xgo sX5_yard [32] 100 (xle rfl) ⟨fun _ => XIn.same (by omega) ct (fun r σ' _ q => ?_), fun q => absurd (nI_le (a := 10) (b := 10) (Nat.le_refl _) (by omega)) q⟩
    obtain ⟨rfl, g3, hy3, _, _, q3, rfl⟩ := q
    have hy4 := hy.trans ((Yk.yd g _ _ _ _).trans hy3)
    have q2 : g3.b2 = (trF (tvA A A.ru) n L A.S 0 (0, 101)).1 := congrArg Prod.fst q3
    have q4 : g3.b3 = (trF (tvA A A.ru) n L A.S 0 (0, 101)).2 := congrArg Prod.snd q3
    refine ⟨fun z => ⟨?_, g3, hy4, rfl⟩, fun z => ⟨?_, g3, hy4, rfl⟩⟩
    · rw [if_neg z, q4]
    · rw [if_pos z, q2]
  | succ j IH =>
    intro t L g ht hy hb1 hba hL hW
    have ct : (nI t).toNatClampNeg = t := nI_clamp (by omega)
    have stay : blF A.S.ma (r0F A.S - L.length) t = blF A.S.ma (r0F A.S - L.length) (t + 1) → XAt E RX5 cX5_yard 4 (some .int) 111 16 (YRk (if what = 0 then (trF (tvA A A.ru) n (blF A.S.ma (r0F A.S) 0) A.S 0 (0, 101)).1 else (trF (tvA A A.ru) n (blF A.S.ma (r0F A.S) 0) A.S 0 (0, 101)).2, A) h) 32 [(0, .ref 0), (1, .int (nI n)), (2, .int what), (3, .int (nI t + 1))] [] (mW A g) := by
      intro e
      have ih := IH (t + 1) L g (by omega) hy hb1 hba hL (by rw [← e]; exact hW)
      rw [nI_succ] at ih
      exact ih
    have z0 : r0F A.S - L.length = 0 → blF A.S.ma (r0F A.S - L.length) t = blF A.S.ma (r0F A.S - L.length) (t + 1) := by
      intro z
      rw [z]
      rfl
    refine xgo sX5_yard [32] 100 (xle rfl) ⟨fun q => absurd q (nI_ge (b := 10) (by omega) (by omega)), fun _ => ⟨vp_in_nI (by omega) (by omega), fun q => ?_, fun q => ⟨fun q2 => ?_, fun q2 => XIn.same (xle rfl) (c_X5_whoIs E A g h5 0) (fun r σ' _ z => ?_)⟩⟩⟩
    · have q : ¬ A.S.ma t = -1 := by rw [ct] at q; exact q
      exact stay (bl_n (by omega) q)
    · have q2 : (3 : Int32) ≤ g.b1 := q2
      rw [hb1] at q2
      have := (nI_leI (a := 3) (b := L.length) (by omega) (by omega)).mp q2
      exact stay (z0 (by omega))
    · obtain ⟨rfl, rfl⟩ := z
      have q : A.S.ma t = -1 := by rw [ct] at q; exact q
      have q2 : ¬ (3 : Int32) ≤ g.b1 := q2
      rw [hb1] at q2
      have hL3 : L.length < 3 := Nat.lt_of_not_le (fun z => q2 (nI_le (a := 3) z (by omega)))
      refine ⟨fun y => stay (z0 (by unfold r0F; rw [if_pos y]; omega)), fun y => ?_⟩
      have er : r0F A.S = 3 := by unfold r0F; rw [if_neg y]
      have ei : (g.b1).toNatClampNeg = L.length := by rw [hb1]; exact nI_clamp (by omega)
      have hv : vp_in g.b1 3 := by rw [hb1]; exact vp_in_nI (by omega) (by omega)
      have ey : blF A.S.ma (r0F A.S - L.length) t = t :: blF A.S.ma (r0F A.S - (L.length + 1)) (t + 1) := by
        rw [er, show 3 - L.length = (3 - (L.length + 1)) + 1 by omega]
        exact bl_y (by omega) q
      have ih := IH (t + 1) (L ++ [t]) (g.yd (upd g.ba L.length (nI t)) (g.b1 + 1) g.b2 g.b3) (by omega) (hy.trans (Yk.yd g _ _ _ _)) (by
        show g.b1 + 1 = _
        rw [hb1, List.length_append, ← nI_succ]
        rfl) (fun i m hi => by
        show upd g.ba L.length (nI t) i = nI m
        unfold upd
        by_cases e : i = L.length
        · subst e
          rw [List.getElem?_append_right (Nat.le_refl _), Nat.sub_self] at hi
          cases hi
          rw [if_pos rfl]
        · rw [if_neg e]
          have hlt : i < L.length := by
            have := (List.getElem?_eq_some_iff.mp hi).1
            rw [List.length_append] at this
            have : i < L.length + 1 := this
            omega
          rw [List.getElem?_append_left hlt] at hi
          exact hba i m hi) (by
        rw [List.length_append]
        show L.length + 1 ≤ _
        omega) (by
        rw [List.length_append, List.append_assoc]
        show L ++ (t :: blF A.S.ma (r0F A.S - (L.length + 1)) (t + 1)) = _
        rw [← ey]
        exact hW)
      rw [nI_succ] at ih
      refine ⟨hv, ?_⟩
      rw [ei]
      exact ih
set_option maxRecDepth 100000 in
set_option maxHeartbeats 4000000 in
theorem c_X5_yard (h : YQ) (hs : SaysOk E A (tvA A A.ru) h.tx h.ts) (hR : RI A.S) (n what : Int32) : XCall E 111 yX5_yard cX5_yard 4 (some .int) [.ref 0, .int n, .int what] (mW A h) (YRk (o_yard A n what) h) := by
  have en : f_in n.toInt64 0 20 = f_within n 0 20 := f_in0 n 20 (by decide +kernel)
  have ew : f_in what.toInt64 0 1 = f_within what 0 1 := f_in0 what 1 (by decide +kernel)
  unfold o_yard
  refine XCall.of (by decide +kernel) (xle rfl) (xgo sX5_yard [25] 100 (xle rfl) ⟨fun q => ?_, fun q => ⟨fun q2 => ?_, fun q2 => ?_⟩⟩)
  · rw [en] at q
    rw [if_pos q]
    exact ⟨rfl, h, Yk.same h, rfl⟩
  · rw [en] at q
    rw [ew] at q2
    rw [if_neg q, if_neg q2, yard_tr (tvA A A.ru) hR]
    obtain ⟨m, hm, rfl⟩ := fw_e (n := 21) (by omega) q
    rw [nI_clamp (by omega : m < 2147483648)]
    have t := l_X5_yard E A (h := h) hs hR m (by omega) what 10 0 [] (h.yd h.ba 0 h.b2 h.b3) rfl (Yk.yd h _ _ _ _) rfl (fun i m hi => by simp at hi) (Nat.zero_le _) rfl
    exact xgo sX5_yard [32] 100 (xle rfl) t
  · rw [en] at q
    rw [ew] at q2
    rw [if_neg q, if_pos q2]
    exact ⟨rfl, h, Yk.same h, rfl⟩
end MODEL
