-- ===== the reference: feed, force, wright, bound, home =====
def YR (p : Int32 × AS) (h : YQ) : XQ := fun r σ' => r = some (.int p.1) ∧ σ' = mW p.2 h
theorem upd_same (f : F32) (k : Nat) : upd f k (f k) = f := by
  funext j
  unfold upd
  by_cases e : j = k
  · rw [if_pos e, e]
  · rw [if_neg e]
section MODEL
variable (E : XEnv) (A : AS) (h : YQ)
set_option maxRecDepth 100000 in
theorem c_X5_feed (hp : A.pn ≤ 160) (x : Int32) : XCall E 20 yX5_feed cX5_feed 2 (some .int) [.ref 0, .int x] (mW A h) (YR (o_feed A x) h) := by
  have hc : (nI A.pn).toNatClampNeg = A.pn := nI_clamp (by omega)
  have e : f_in x.toInt64 0 255 = f_within x 0 255 := f_in0 x 255 (by decide +kernel)
  unfold o_feed
  refine XCall.of (by decide +kernel) (xle rfl) (xgo sX5_feed [] 60 (xle rfl) ⟨fun q => ?_, fun q => ?_⟩)
  · rw [e] at q
    rw [if_neg q]
    refine ⟨fun z => ?_, fun z => ?_⟩
    · have hlt : A.pn < 160 := by
        rcases Nat.lt_or_ge A.pn 160 with y | y
        · exact y
        · exact absurd (by rw [show A.pn = 160 by omega]; rfl) z
      rw [if_pos hlt]
      refine ⟨vp_in_nI (by omega) (by omega), ?_, ?_⟩
      · exact congrArg (fun v => some (Value.int v)) (nI_succ A.pn).symm
      · rw [hc]
        show _ = mW ((A.set_pb (upd A.pb A.pn x)).set_pn (A.pn + 1)) h
        unfold mW
        rw [show nI ((A.set_pb (upd A.pb A.pn x)).set_pn (A.pn + 1)).pn = nI A.pn + 1 from nI_succ _]
        rfl
    · have h1 : A.pn = 160 := (nI_eq (a := A.pn) (b := 160) (by omega) (by omega)).mp z
      rw [if_neg (by omega)]
      exact ⟨rfl, rfl⟩
  · rw [e] at q
    rw [if_pos q]
    exact ⟨rfl, rfl⟩
set_option maxRecDepth 100000 in
theorem c_X5_force (ht : A.tc ≤ 6) (t : Int32) : XCall E 20 yX5_force cX5_force 3 (some .int) [.ref 0, .int t] (mW A h) (YR (o_force A t) h) := by
  have e : f_in t.toInt64 0 (nI A.tc - 1).toInt64 = f_within t 0 (nI A.tc - 1) := f_in0 t _ rfl
  unfold o_force
  refine XCall.of (by decide +kernel) (xle rfl) (xgo sX5_force [] 60 (xle rfl) ⟨fun q => ?_, fun q => ?_⟩)
  · rw [e] at q
    rw [if_neg q]
    obtain ⟨k, hk, rfl⟩ := fw_e (by omega) q
    rw [nI_clamp (by omega : k < 2147483648)]
    exact ⟨rfl, rfl⟩
  · rw [e] at q
    rw [if_pos q]
    exact ⟨rfl, rfl⟩
theorem ix40 (p : Nat) : (4 : Int32) * nI p = nI (4 * p) := by
  rw [show (4 : Int32) = nI 4 from rfl, pk_mul]
theorem rowsCome (S : SH) (k n s : Int32) : upd (upd (upd (upd (rowsF S) (4 * S.n) n) (4 * S.n + 1) s) (4 * S.n + 2) k) (4 * S.n + 3) 0 = rowsF (comeF S k n s) := by
  have a0 := rowsU0 S S.n n
  have a1 := rowsU1 (S.setNu (upd S.nu S.n n)) S.n s
  have a2 := rowsU2 ((S.setNu (upd S.nu S.n n)).setSk (upd S.sk S.n s)) S.n k
  have a3 := rowsU3 (((S.setNu (upd S.nu S.n n)).setSk (upd S.sk S.n s)).setKi (upd S.ki S.n k)) S.n 0
  rw [a0]
  refine Eq.trans (congrArg (fun f => upd (upd f (4 * S.n + 2) k) (4 * S.n + 3) 0) a1) ?_
  refine Eq.trans (congrArg (fun f => upd f (4 * S.n + 3) 0) a2) ?_
  exact a3
set_option maxRecDepth 100000 in
set_option maxHeartbeats 4000000 in
theorem c_X5_wright (hn : A.S.n ≤ 5) (k n s : Int32) : XCall E 20 yX5_wright cX5_wright 4 (some .int) [.ref 0, .int k, .int n, .int s] (mW A h) (YR (o_wright A k n s) h) := by
  have ek : f_in k.toInt64 0 5 = f_within k 0 5 := f_in0 k 5 (by decide +kernel)
  have en : f_in n.toInt64 0 9 = f_within n 0 9 := f_in0 n 9 (by decide +kernel)
  have es : f_in s.toInt64 0 99 = f_within s 0 99 := f_in0 s 99 (by decide +kernel)
  have i0 : (4 : Int32) * nI A.S.n = nI (4 * A.S.n) := ix40 A.S.n
  have i1 : (4 : Int32) * nI A.S.n + 1 = nI (4 * A.S.n + 1) := ix4 A.S.n 1 (by omega)
  have i2 : (4 : Int32) * nI A.S.n + 2 = nI (4 * A.S.n + 2) := ix4 A.S.n 2 (by omega)
  have i3 : (4 : Int32) * nI A.S.n + 3 = nI (4 * A.S.n + 3) := ix4 A.S.n 3 (by omega)
  have c0 : (nI (4 * A.S.n)).toNatClampNeg = 4 * A.S.n := nI_clamp (by omega)
  have c1 : (nI (4 * A.S.n + 1)).toNatClampNeg = 4 * A.S.n + 1 := nI_clamp (by omega)
  have c2 : (nI (4 * A.S.n + 2)).toNatClampNeg = 4 * A.S.n + 2 := nI_clamp (by omega)
  have c3 : (nI (4 * A.S.n + 3)).toNatClampNeg = 4 * A.S.n + 3 := nI_clamp (by omega)
  unfold o_wright wrF
  refine XCall.of (by decide +kernel) (xle rfl) (xgo sX5_wright [] 100 (xle rfl) ⟨fun q => ?_, fun q => ⟨fun q2 => ?_, fun q2 => ⟨fun q3 => ⟨fun z => ?_, fun z => ?_⟩, fun q3 => ?_⟩⟩⟩)
  · rw [ek] at q
    rw [if_pos q]
    exact ⟨rfl, rfl⟩
  · rw [ek] at q
    rw [en] at q2
    rw [if_neg q, if_pos q2]
    exact ⟨rfl, rfl⟩
  · rw [ek] at q
    rw [en] at q2
    rw [es] at q3
    have hlt : A.S.n < 5 := by
      rcases Nat.lt_or_ge A.S.n 5 with y | y
      · exact y
      · exact absurd (by rw [show A.S.n = 5 by omega]; rfl) z
    rw [if_neg q, if_neg q2, if_neg q3, if_neg (by omega)]
    refine ⟨by rw [i0]; exact vp_in_nI (by omega) (by omega), by rw [i1]; exact vp_in_nI (by omega) (by omega), by rw [i2]; exact vp_in_nI (by omega) (by omega), by rw [i3]; exact vp_in_nI (by omega) (by omega), ?_, ?_⟩
    · show some (Value.int (nI A.S.n + 1 - 1)) = some (Value.int (nI A.S.n))
      rw [← nI_succ, nI_pred]
    · rw [i1, i2, i3, i0, c0, c1, c2, c3, rowsCome]
      show _ = mW (A.set_S (comeF A.S k n s)) h
      unfold mW
      rw [show nI (A.set_S (comeF A.S k n s)).S.n = nI A.S.n + 1 from nI_succ A.S.n]
      rfl
  · rw [ek] at q
    rw [en] at q2
    rw [es] at q3
    have h1 : A.S.n = 5 := (nI_eq (a := A.S.n) (b := 5) (by omega) (by omega)).mp z
    rw [if_neg q, if_neg q2, if_neg q3, if_pos (by omega)]
    exact ⟨rfl, rfl⟩
  · rw [ek] at q
    rw [en] at q2
    rw [es] at q3
    rw [if_neg q, if_neg q2, if_pos q3]
    exact ⟨rfl, rfl⟩
set_option maxRecDepth 100000 in
set_option maxHeartbeats 4000000 in
theorem l_X5_binds (hn : A.S.n ≤ 5) (j : Nat) : ∀ (k : Nat), k + j = A.S.n → XAt E RX5 cX5_binds 2 none 12 16 (fun r σ' => r = none ∧ σ' = mW (A.set_S (A.S.setPl (bindF A.S A.S.n))) h) 2 [(0, .ref 0), (1, .int (nI k))] [] (mW (A.set_S (A.S.setPl (bindF A.S k))) h) := by
  induction j with
  | zero =>
    intro k hk
    obtain rfl : k = A.S.n := by omega
    exact xgo sX5_binds [2] 60 (xle rfl) ⟨fun _ => ⟨rfl, rfl⟩, fun h => absurd (nI_le (a := A.S.n) (b := A.S.n) (Nat.le_refl _) (by omega)) h⟩
  | succ j IH =>
    intro k hk
    have ih := IH (k + 1) (by omega)
    have e3 : (4 : Int32) * nI k + 3 = nI (4 * k + 3) := ix4 k 3 (by omega)
    have c3 : (nI (4 * k + 3)).toNatClampNeg = 4 * k + 3 := nI_clamp (by omega)
    have hp := bindF_ge A.S k k (Nat.le_refl _)
    refine xgo sX5_binds [2] 60 (xle rfl) ⟨fun h => absurd h (nI_ge (b := A.S.n) (by omega) (by omega)), fun _ => XIn.same (xle rfl) (c_X5_isAt E (A.set_S (A.S.setPl (bindF A.S k))) h k (by omega) 0) (fun r σ' _ q => ?_)⟩
    obtain ⟨rfl, rfl⟩ := q
    by_cases hp0 : A.S.pl k = 0
    · rw [if_pos (show (A.set_S (A.S.setPl (bindF A.S k))).S.pl k = 0 from hp.trans hp0)]
      refine ⟨fun z => absurd z (by decide), fun _ => XIn.same (xle rfl) (c_X5_madeBy E (A.set_S (A.S.setPl (bindF A.S k))) h (nI k)) (fun r σ' _ q => ?_)⟩
      obtain ⟨rfl, rfl⟩ := q
      refine ⟨fun z => ?_, fun z => ?_⟩
      · refine ⟨by rw [e3]; exact vp_in_nI (by omega) (by omega), by rw [e3]; exact vp_in_nI (by omega) (by omega), ?_⟩
        rw [e3, c3, rows3, rowsU3, upd_same]
        rw [nI_succ, bindF_n (S := A.S) (k := k) (fun y => y.2 z)] at ih
        exact ih
      · refine ⟨by rw [e3]; exact vp_in_nI (by omega) (by omega), ?_⟩
        rw [e3, c3, rowsU3]
        rw [nI_succ, bindF_y hp0 z] at ih
        exact ih
    · rw [if_neg (show ¬ (A.set_S (A.S.setPl (bindF A.S k))).S.pl k = 0 from fun y => hp0 (hp.symm.trans y))]
      refine ⟨fun _ => ⟨by rw [e3]; exact vp_in_nI (by omega) (by omega), by rw [e3]; exact vp_in_nI (by omega) (by omega), ?_⟩, fun z => absurd rfl z⟩
      rw [e3, c3, rows3, rowsU3, upd_same]
      rw [nI_succ, bindF_n (S := A.S) (k := k) (fun y => hp0 y.1)] at ih
      exact ih
theorem c_X5_binds (hn : A.S.n ≤ 5) : XCall E 12 yX5_binds cX5_binds 2 none [.ref 0] (mW A h) (fun r σ' => r = none ∧ σ' = mW (A.set_S (A.S.setPl (bindF A.S A.S.n))) h) :=
  XCall.of (by decide +kernel) (xle rfl) (xgo sX5_binds [2] 60 (xle rfl) (l_X5_binds E A h hn A.S.n 0 (Nat.zero_add _)))
set_option maxRecDepth 100000 in
theorem c_X5_bound (hn : A.S.n ≤ 5) : XCall E 20 yX5_bound cX5_bound 1 (some .int) [.ref 0] (mW A h) (YR (o_bound A) h) := by
  refine XCall.of (by decide +kernel) (xle rfl) (xgo sX5_bound [] 60 (xle rfl) (XIn.same (xle rfl) (c_X5_binds E A h hn) (fun r σ' _ q => ?_)))
  obtain ⟨rfl, rfl⟩ := q
  refine XIn.same (xle rfl) (c_X5_whoIs E (A.set_S (A.S.setPl (bindF A.S A.S.n))) h hn 1) (fun r σ' _ q => ?_)
  obtain ⟨rfl, rfl⟩ := q
  exact ⟨rfl, rfl⟩
set_option maxRecDepth 100000 in
set_option maxHeartbeats 4000000 in
theorem l_X5_home (hn : A.S.n ≤ 5) (set : Int32) (j : Nat) : ∀ (k : Nat), k + j = A.S.n → XAt E RX5 cX5_home 3 (some .int) 20 16 (fun r σ' => r = some (.int set) ∧ σ' = mW (A.set_S (A.S.setPl (mvF A.S.pl 1 0 A.S.n))) h) 20 [(0, .ref 0), (1, .int set), (2, .int (nI k))] [] (mW (A.set_S (A.S.setPl (mvF A.S.pl 1 0 k))) h) := by
  induction j with
  | zero =>
    intro k hk
    obtain rfl : k = A.S.n := by omega
    exact xgo sX5_home [20] 60 (xle rfl) ⟨fun _ => ⟨rfl, rfl⟩, fun h => absurd (nI_le (a := A.S.n) (b := A.S.n) (Nat.le_refl _) (by omega)) h⟩
  | succ j IH =>
    intro k hk
    have ih := IH (k + 1) (by omega)
    have e3 : (4 : Int32) * nI k + 3 = nI (4 * k + 3) := ix4 k 3 (by omega)
    have c3 : (nI (4 * k + 3)).toNatClampNeg = 4 * k + 3 := nI_clamp (by omega)
    have hp := mvF_k A.S.pl 1 0 k
    refine xgo sX5_home [20] 60 (xle rfl) ⟨fun h => absurd h (nI_ge (b := A.S.n) (by omega) (by omega)), fun _ => XIn.same (xle rfl) (c_X5_isAt E (A.set_S (A.S.setPl (mvF A.S.pl 1 0 k))) h k (by omega) 1) (fun r σ' _ q => ?_)⟩
    obtain ⟨rfl, rfl⟩ := q
    by_cases hp0 : A.S.pl k = 1
    · rw [if_pos (show (A.set_S (A.S.setPl (mvF A.S.pl 1 0 k))).S.pl k = 1 from hp.trans hp0)]
      refine ⟨fun z => absurd z (by decide), fun _ => ⟨by rw [e3]; exact vp_in_nI (by omega) (by omega), ?_⟩⟩
      rw [e3, c3, rowsU3]
      rw [nI_succ, ← mvF_y hp0] at ih
      exact ih
    · rw [if_neg (show ¬ (A.set_S (A.S.setPl (mvF A.S.pl 1 0 k))).S.pl k = 1 from fun y => hp0 (hp.symm.trans y))]
      refine ⟨fun _ => ⟨by rw [e3]; exact vp_in_nI (by omega) (by omega), by rw [e3]; exact vp_in_nI (by omega) (by omega), ?_⟩, fun z => absurd rfl z⟩
      rw [e3, c3, rows3, rowsU3, upd_same]
      rw [nI_succ, ← mvF_n hp0] at ih
      exact ih
set_option maxRecDepth 100000 in
theorem c_X5_home (hn : A.S.n ≤ 5) (hw : A.S.wa ≤ 100) : XCall E 20 yX5_home cX5_home 3 (some .int) [.ref 0] (mW A h) (YR (o_home A) h) := by
  unfold o_home
  refine XCall.of (by decide +kernel) (xle rfl) (xgo sX5_home [20] 60 (xle rfl) ⟨fun z => ?_, fun z => ?_⟩)
  · rw [if_pos (Int32.lt_of_le_of_ne hw z)]
    refine XIn.same (xle rfl) (c_X5_whoIs E A h hn 1) (fun r σ' _ q => ?_)
    obtain ⟨rfl, rfl⟩ := q
    have := l_X5_home E A h hn (whoF A.S.pl 1 A.S.n) A.S.n 0 (Nat.zero_add _)
    rw [mvF_0] at this
    exact this
  · rw [if_neg (fun y => Int32.ne_of_lt y z)]
    exact ⟨rfl, rfl⟩
end MODEL
