-- ===== the reference: go =====
theorem apF_at (pl : F32) (who : Int32) : ∀ k j, apF pl who k j = if j < k ∧ btI who j = 1 then 1 else pl j
  | 0, j => by rw [if_neg (by omega)]; rfl
  | k + 1, j => by
    by_cases h : (who >>> (nI k &&& 31)) &&& 1 = 1
    · rw [apF_y h]
      unfold upd
      by_cases q : j = k
      · subst q
        rw [if_pos rfl, if_pos ⟨by omega, h⟩]
      · rw [if_neg q, apF_at pl who k j]
        by_cases q2 : j < k ∧ btI who j = 1
        · rw [if_pos q2, if_pos ⟨by omega, q2.2⟩]
        · rw [if_neg q2, if_neg (fun z => q2 ⟨by omega, z.2⟩)]
    · rw [apF_n h, apF_at pl who k j]
      by_cases q2 : j < k ∧ btI who j = 1
      · rw [if_pos q2, if_pos ⟨by omega, q2.2⟩]
      · rw [if_neg q2, if_neg (fun z => q2 ⟨by
          rcases (by omega : j < k ∨ j = k) with y | y
          · exact y
          · rw [y] at z
            exact absurd z.2 h, z.2⟩)]
theorem pl_012 {x : Int32} (h : 0 ≤ x ∧ x ≤ 2) : x = 0 ∨ x = 1 ∨ x = 2 := by
  obtain ⟨k, hk, e⟩ := i32_of (N := 2) (by omega) h.1 h.2
  rcases (by omega : k = 0 ∨ k = 1 ∨ k = 2) with rfl | rfl | rfl
  · exact Or.inl e
  · exact Or.inr (Or.inl e)
  · exact Or.inr (Or.inr e)
theorem plc_go {S : SH} (hR : RI S) {p : F32} (hp : ∀ j, S.n ≤ j → p j = S.pl j) {s : Nat} (hs : s < 2 ^ S.n) (h : nI s &&& whoF S.pl 2 S.n = 0) : plcF p (nI s) (lfI S.n (whoF S.pl 2 S.n)) S.n = apF (mvF S.pl 1 0 S.n) (nI s) S.n := by
  have hn := hR.1
  have h32 : s < 32 := Nat.lt_of_lt_of_le hs (Nat.pow_le_pow_right (n := 2) (by decide) hn)
  funext j
  rw [apF_at]
  unfold plcF
  by_cases q : j < S.n
  · have bl := bt_left S.pl (j := j) hn (by omega)
    have bl : (lfI S.n (whoF S.pl 2 S.n) >>> (nI j &&& 31)) &&& 1 = _ := bl
    rw [if_pos q, bl]
    have b01 := bt_0or1 h32 (show j < 5 by omega)
    rcases pl_012 (hR.2.2.2.2 j q).2.2.2 with e | e | e
    · rw [if_pos (show j < S.n ∧ ¬ S.pl j = 2 from ⟨q, by rw [e]; decide⟩), if_pos rfl]
      show btI (nI s) j = _
      rcases b01 with b | b
      · rw [b, if_neg (fun z => absurd z.2 (by decide))]
        unfold mvF
        rw [if_neg (fun z => by rw [e] at z; exact absurd z.2 (by decide)), e]
      · rw [b, if_pos ⟨q, rfl⟩]
    · rw [if_pos (show j < S.n ∧ ¬ S.pl j = 2 from ⟨q, by rw [e]; decide⟩), if_pos rfl]
      show btI (nI s) j = _
      rcases b01 with b | b
      · rw [b, if_neg (fun z => absurd z.2 (by decide))]
        unfold mvF
        rw [if_pos ⟨q, e⟩]
      · rw [b, if_pos ⟨q, rfl⟩]
    · rw [if_neg (show ¬ (j < S.n ∧ ¬ S.pl j = 2) from fun z => z.2 e), if_neg (by decide)]
      have b := bt_dis S.pl hn h32 q h e
      rw [b, if_neg (fun z => absurd z.2 (by decide))]
      unfold mvF
      rw [if_neg (fun z => by rw [e] at z; exact absurd z.2 (by decide)), e]
  · rw [if_neg q, if_neg (fun z => q z.1), hp j (by omega)]
    unfold mvF
    rw [if_neg (fun z => q z.1)]
theorem plc_back {S : SH} (hR : RI S) {p : F32} (hp : ∀ j, S.n ≤ j → p j = S.pl j) : plcF p (whoF S.pl 1 S.n) (lfI S.n (whoF S.pl 2 S.n)) S.n = S.pl := by
  have hn := hR.1
  funext j
  unfold plcF
  by_cases q : j < S.n
  · have bl := bt_left S.pl (j := j) hn (by omega)
    have bl : (lfI S.n (whoF S.pl 2 S.n) >>> (nI j &&& 31)) &&& 1 = _ := bl
    have bw := bt_who S.pl 1 S.n hn j (by omega)
    have bw : (whoF S.pl 1 S.n >>> (nI j &&& 31)) &&& 1 = _ := bw
    rw [if_pos q, bl, bw]
    rcases pl_012 (hR.2.2.2.2 j q).2.2.2 with e | e | e
    · rw [if_pos (show j < S.n ∧ ¬ S.pl j = 2 from ⟨q, by rw [e]; decide⟩), if_pos rfl, e, if_neg (fun z => absurd z.2 (by decide))]
    · rw [if_pos (show j < S.n ∧ ¬ S.pl j = 2 from ⟨q, by rw [e]; decide⟩), if_pos rfl, e, if_pos ⟨q, rfl⟩]
    · rw [if_neg (show ¬ (j < S.n ∧ ¬ S.pl j = 2) from fun z => z.2 e), if_neg (by decide), e]
  · rw [if_neg q]
    exact hp j (by omega)
theorem plc_out (p : F32) (set left : Int32) {n j : Nat} (h : n ≤ j) : plcF p set left n j = p j := if_neg (by omega)
theorem plc_RI {S : SH} (hR : RI S) (p : F32) {s : Nat} (hs : s < 32) (left : Int32) : RI (S.setPl (plcF p (nI s) left S.n)) := by
  refine ⟨hR.1, hR.2.1, hR.2.2.1, hR.2.2.2.1, fun i hi => ⟨(hR.2.2.2.2 i hi).1, (hR.2.2.2.2 i hi).2.1, (hR.2.2.2.2 i hi).2.2.1, ?_⟩⟩
  have hi : i < S.n := hi
  show 0 ≤ plcF p (nI s) left S.n i ∧ plcF p (nI s) left S.n i ≤ 2
  unfold plcF
  rw [if_pos hi]
  split
  · have := hR.1
    rcases bt_0or1 hs (show i < 5 by omega) with b | b
    · have b : (nI s >>> (nI i &&& 31)) &&& 1 = 0 := b
      rw [b]
      exact ⟨by decide, by decide⟩
    · have b : (nI s >>> (nI i &&& 31)) &&& 1 = 1 := b
      rw [b]
      exact ⟨by decide, by decide⟩
  · exact ⟨by decide, by decide⟩
theorem go_at (tv : TV) (S : SH) (n : Nat) : ∀ k, ((goF tv S n k).1 = -1 ∧ (goF tv S n k).2 = 6) ∨ ∃ b, b < k ∧ (goF tv S n k).1 = nI b ∧ (goF tv S n k).2 = f_bits (nI b)
  | 0 => Or.inl ⟨rfl, rfl⟩
  | k + 1 => by
    unfold goF
    split
    · exact Or.inr ⟨k, by omega, rfl, rfl⟩
    · rcases go_at tv S n k with h | ⟨b, h1, h2⟩
      · exact Or.inl h
      · exact Or.inr ⟨b, by omega, h2⟩
section MODEL
variable (E : XEnv) (A : AS) (h : YQ)
set_option maxRecDepth 100000 in
set_option maxHeartbeats 4000000 in
theorem l_X5_goers (hs : SaysOk E A (tvA A A.ru) h.tx h.ts) (hR : RI A.S) (n : Nat) (hn : n ≤ 40) (N : Nat) (hN : N = 2 ^ A.S.n) (j : Nat) : ∀ (k : Nat) (p : F32) (h2 : YQ), k + j = N → (∀ j, A.S.n ≤ j → p j = A.S.pl j) → Yk h h2 → XAt E RX5 cX5_goers 6 (some .int) 107 16 (YRk ((goF (tvA A A.ru) A.S n N).1, A) h) 29 [(0, .ref 0), (1, .int (nI n)), (2, .int (lfI A.S.n (whoF A.S.pl 2 A.S.n))), (3, .int (whoF A.S.pl 1 A.S.n)), (4, .int (goF (tvA A A.ru) A.S n k).1), (5, .int (nI k))] [] (mW (A.set_S (A.S.setPl p)) h2) := by
  have h5 := hR.1
  have h32 : N ≤ 32 := by rw [hN]; exact Nat.pow_le_pow_right (by omega : 0 < 2) h5
  have hsh : (1 : Int32) <<< (nI A.S.n &&& 31) = nI N := by rw [hN]; exact shl1 (by omega)
  induction j with
  | zero =>
    intro k p h2 hk hp hy
    obtain rfl : k = N := by omega
    refine xgo sX5_goers [29] 100 (xle rfl) ⟨fun _ => XIn.same (xle rfl) (c_X5_placed E (A.set_S (A.S.setPl p)) h2 h5 (whoF A.S.pl 1 A.S.n) (lfI A.S.n (whoF A.S.pl 2 A.S.n))) (fun r σ' _ q => ?_), fun q => absurd (show (1 : Int32) <<< (nI A.S.n &&& 31) ≤ nI k by rw [hsh]; exact nI_le (Nat.le_refl _) (by omega)) q⟩
    obtain ⟨rfl, rfl⟩ := q
    refine ⟨rfl, h2, hy, ?_⟩
    have e : plcF p (whoF A.S.pl 1 A.S.n) (lfI A.S.n (whoF A.S.pl 2 A.S.n)) A.S.n = A.S.pl := plc_back hR hp
    show mW (A.set_S (A.S.setPl (plcF p (whoF A.S.pl 1 A.S.n) (lfI A.S.n (whoF A.S.pl 2 A.S.n)) A.S.n))) h2 = _
    rw [e]
    rfl
  | succ j IH =>
    intro k p h2 hk hp hy
    have hkN : k < 2 ^ A.S.n := by omega
    have keep : goF (tvA A A.ru) A.S n (k + 1) = goF (tvA A A.ru) A.S n k → XAt E RX5 cX5_goers 6 (some .int) 107 16 (YRk ((goF (tvA A A.ru) A.S n N).1, A) h) 29 [(0, .ref 0), (1, .int (nI n)), (2, .int (lfI A.S.n (whoF A.S.pl 2 A.S.n))), (3, .int (whoF A.S.pl 1 A.S.n)), (4, .int (goF (tvA A A.ru) A.S n k).1), (5, .int (nI k + 1))] [] (mW (A.set_S (A.S.setPl p)) h2) := by
      intro e
      have ih := IH (k + 1) p h2 (by omega) hp hy
      rw [nI_succ, e] at ih
      exact ih
    have hb : f_bitsM (nI k) = f_bits (nI k) := bitsM_n (by omega)
    have try' : nI k &&& whoF A.S.pl 2 A.S.n = 0 → f_bits (nI k) < (goF (tvA A A.ru) A.S n k).2 → XAt E RX5 cX5_goers 6 (some .int) 107 16 (YRk ((goF (tvA A A.ru) A.S n N).1, A) h) 68 [(0, .ref 0), (1, .int (nI n)), (2, .int (lfI A.S.n (whoF A.S.pl 2 A.S.n))), (3, .int (whoF A.S.pl 1 A.S.n)), (4, .int (goF (tvA A A.ru) A.S n k).1), (5, .int (nI k))] [] (mW (A.set_S (A.S.setPl p)) h2) := by
      intro hl hlt
      refine xgo sX5_goers [29] 100 (xle rfl) (XIn.same (xle rfl) (c_X5_placed E (A.set_S (A.S.setPl p)) h2 h5 (nI k) (lfI A.S.n (whoF A.S.pl 2 A.S.n))) (fun r σ' _ q => ?_))
      obtain ⟨rfl, rfl⟩ := q
      have hR1 := plc_RI hR p (s := k) (by omega) (lfI A.S.n (whoF A.S.pl 2 A.S.n))
      have hp1 : ∀ j, A.S.n ≤ j → plcF p (nI k) (lfI A.S.n (whoF A.S.pl 2 A.S.n)) A.S.n j = A.S.pl j := fun j hj => (plc_out p _ _ hj).trans (hp j hj)
      have ep := plc_go hR hp hkN hl
      obtain ⟨p1, e1⟩ : ∃ y, y = plcF p (nI k) (lfI A.S.n (whoF A.S.pl 2 A.S.n)) A.S.n := ⟨_, rfl⟩
      rw [← e1] at hR1 hp1 ep
      show XIn E 107 yX5_waterBehind cX5_waterBehind 3 (some .int) [.ref 0, .int (nI n)] (mW (A.set_S (A.S.setPl (plcF p (nI k) (lfI A.S.n (whoF A.S.pl 2 A.S.n)) A.S.n))) h2) _
      rw [← e1]
      refine XIn.same (xle rfl) (c_X5_behind E A hs n (by omega) (A.S.setPl p1) h2 hy.1.1 hy.1.2.1 hR1) (fun r σ' _ q => ?_)
      obtain ⟨rfl, h3, hy3, rfl⟩ := q
      have hy2 := hy.trans hy3
      have hc : chwF (tvA A A.ru) A.S (nI k) n = if (daysF (tvA A A.ru) n (A.S.setPl p1)).wa < 100 then 1 else 0 := by
        unfold chwF
        rw [if_pos hl, ep]
      obtain ⟨w, hw⟩ : ∃ w, w = (daysF (tvA A A.ru) n (A.S.setPl p1)).wa := ⟨_, rfl⟩
      rw [← hw] at hc ⊢
      refine ⟨fun q => ?_, fun q => ?_⟩
      · have ih := IH (k + 1) p1 h3 (by omega) hp1 hy2
        rw [nI_succ, goF_n (fun z => z.2 (by rw [hc, if_neg (Int32.not_lt.mpr q)]))] at ih
        exact ih
      · have ih := IH (k + 1) p1 h3 (by omega) hp1 hy2
        rw [nI_succ, goF_y hlt (by rw [hc, if_pos (Int32.not_le.mp q)]; decide)] at ih
        exact ih
    refine xgo sX5_goers [29, 68] 100 (xle rfl) ⟨fun q => absurd q (show ¬ (1 : Int32) <<< (nI A.S.n &&& 31) ≤ nI k by rw [hsh]; exact nI_ge (by omega) (by omega)), fun _ => ⟨fun q => ?_, fun q => ⟨fun q2 => ?_, fun q2 => ⟨fun q3 => ?_, fun q3 => ?_⟩⟩⟩⟩
    · have q : ¬ nI k &&& whoF A.S.pl 2 A.S.n = 0 := fun z => q ((bt_sub A.S.pl h5 hkN).mpr z)
      refine keep (goF_n (fun z => z.2 ?_))
      unfold chwF
      rw [if_neg q]
    · have q : nI k &&& whoF A.S.pl 2 A.S.n = 0 := (bt_sub A.S.pl h5 hkN).mp q
      refine try' q ?_
      rcases go_at (tvA A A.ru) A.S n k with y | ⟨b, hb1, y, _⟩
      · rw [y.2]
        exact bits_6 (by omega)
      · have q2 : (goF (tvA A A.ru) A.S n k).1 = -1 := q2
        rw [y] at q2
        exact absurd q2 (nI_m1 (by omega))
    · have q2 : ¬ (goF (tvA A A.ru) A.S n k).1 = -1 := q2
      have q3 : f_bitsM (goF (tvA A A.ru) A.S n k).1 ≤ f_bitsM (nI k) := q3
      refine keep (goF_n (fun z => ?_))
      rcases go_at (tvA A A.ru) A.S n k with y | ⟨b, hb1, y, y2⟩
      · exact absurd y.1 q2
      · rw [y, bitsM_n (by omega), hb] at q3
        have z1 := z.1
        rw [y2] at z1
        exact absurd z1 (Int32.not_lt.mpr q3)
    · have q2 : ¬ (goF (tvA A A.ru) A.S n k).1 = -1 := q2
      have q3 : ¬ f_bitsM (goF (tvA A A.ru) A.S n k).1 ≤ f_bitsM (nI k) := q3
      have q : nI k &&& whoF A.S.pl 2 A.S.n = 0 := (bt_sub A.S.pl h5 hkN).mp q
      refine try' q ?_
      rcases go_at (tvA A A.ru) A.S n k with y | ⟨b, hb1, y, y2⟩
      · exact absurd y.1 q2
      · rw [y, bitsM_n (by omega), hb] at q3
        rw [y2]
        exact Int32.not_le.mp q3
set_option maxRecDepth 100000 in
set_option maxHeartbeats 4000000 in
theorem c_X5_goers (hs : SaysOk E A (tvA A A.ru) h.tx h.ts) (hR : RI A.S) (n : Nat) (hn : n ≤ 40) : XCall E 107 yX5_goers cX5_goers 6 (some .int) [.ref 0, .int (nI n)] (mW A h) (YRk ((goF (tvA A A.ru) A.S n (2 ^ A.S.n)).1, A) h) := by
  refine XCall.of (by decide +kernel) (xle rfl) (xgo sX5_goers [29] 100 (xle rfl) (XIn.same (xle rfl) (c_X5_whoIs E A h hR.1 2) (fun r σ' _ q => ?_)))
  obtain ⟨rfl, rfl⟩ := q
  refine XIn.same (xle rfl) (c_X5_whoIs E A h hR.1 1) (fun r σ' _ q => ?_)
  obtain ⟨rfl, rfl⟩ := q
  exact l_X5_goers E A h hs hR n hn (2 ^ A.S.n) rfl (2 ^ A.S.n) 0 A.S.pl h (Nat.zero_add _) (fun _ _ => rfl) (Yk.same h)
set_option maxRecDepth 100000 in
set_option maxHeartbeats 4000000 in
theorem c_X5_go (hs : SaysOk E A (tvA A A.ru) h.tx h.ts) (hR : RI A.S) (n what : Int32) : XCall E 110 yX5_go cX5_go 4 (some .int) [.ref 0, .int n, .int what] (mW A h) (YRk (o_go A n what) h) := by
  have en : f_in n.toInt64 0 40 = f_within n 0 40 := f_in0 n 40 (by decide +kernel)
  have ew : f_in what.toInt64 0 1 = f_within what 0 1 := f_in0 what 1 (by decide +kernel)
  unfold o_go
  refine XCall.of (by decide +kernel) (xle rfl) (xgo sX5_go [25] 100 (xle rfl) ⟨fun q => ?_, fun q => ⟨fun q2 => ?_, fun q2 => ?_⟩⟩)
  · rw [en] at q
    rw [if_pos q]
    exact ⟨rfl, h, Yk.same h, rfl⟩
  · rw [en] at q
    rw [ew] at q2
    rw [if_neg q, if_neg q2]
    obtain ⟨m, hm, rfl⟩ := fw_e (n := 41) (by omega) q
    rw [nI_clamp (by omega : m < 2147483648)]
    have h32 : 2 ^ A.S.n ≤ 32 := Nat.pow_le_pow_right (by omega : 0 < 2) hR.1
    have ga := go_at (tvA A A.ru) A.S m (2 ^ A.S.n)
    have cg := c_X5_goers E A h hs hR m (by omega)
    obtain ⟨g, eg⟩ : ∃ y, y = goF (tvA A A.ru) A.S m (2 ^ A.S.n) := ⟨_, rfl⟩
    rw [← eg] at ga cg ⊢
    refine xgo sX5_go [] 100 (xle rfl) (XIn.same (xle rfl) cg (fun r σ' _ z => ?_))
    obtain ⟨rfl, h2, hy, rfl⟩ := z
    refine ⟨fun q3 => ?_, fun q3 => ⟨fun q4 => ?_, fun q4 => ?_⟩⟩
    · rw [if_pos q3]
      exact ⟨rfl, h2, hy, rfl⟩
    · have q4 : ¬ g.1 = -1 := q4
      rw [if_neg q3, if_neg q4]
      refine ⟨?_, h2, hy, rfl⟩
      rcases ga with y | ⟨b, hb1, y, y2⟩
      · exact absurd y.1 q4
      · show some (Value.int (f_bitsM g.1)) = some (Value.int g.2)
        rw [y2, y, bitsM_n (by omega)]
    · have q4 : g.1 = -1 := q4
      rw [if_neg q3, if_pos q4]
      exact ⟨rfl, h2, hy, rfl⟩
  · rw [en] at q
    rw [ew] at q2
    rw [if_neg q, if_pos q2]
    exact ⟨rfl, h, Yk.same h, rfl⟩
end MODEL
