-- ===== the reference: what was told =====
theorem upd_upd (f : F32) (k : Nat) (a b : Int32) : upd (upd f k a) k b = upd f k b := by
  funext j
  unfold upd
  by_cases e : j = k
  · rw [if_pos e, if_pos e]
  · rw [if_neg e, if_neg e, if_neg e]
theorem upd_bk (f : F32) (k : Nat) (a : Int32) : upd (upd f k a) k (f k) = f := by
  rw [upd_upd, upd_same]
theorem ix40m (s k : Nat) : (40 : Int32) * nI s + nI k = nI (40 * s + k) := by
  rw [show (40 : Int32) = nI 40 from rfl, pk_mul, nI_add]
theorem RI.so {S : SH} (hR : RI S) {k : Nat} {v : Int32} (h0 : 0 ≤ v) (h1 : v ≤ 99) : RI (S.setSo (upd S.so k v)) := by
  refine ⟨hR.1, hR.2.1, fun j hj => ?_, hR.2.2.2.1, hR.2.2.2.2⟩
  show 0 ≤ upd S.so k v j ∧ upd S.so k v j ≤ 99
  unfold upd
  split
  · exact ⟨h0, h1⟩
  · exact hR.2.2.1 j hj
theorem RI.nu {S : SH} (hR : RI S) {k : Nat} {v : Int32} (h0 : 0 ≤ v) (h1 : v ≤ 9) : RI (S.setNu (upd S.nu k v)) := by
  refine ⟨hR.1, hR.2.1, hR.2.2.1, hR.2.2.2.1, fun j hj => ⟨?_, (hR.2.2.2.2 j hj).2⟩⟩
  show 0 ≤ upd S.nu k v j ∧ upd S.nu k v j ≤ 9
  unfold upd
  split
  · exact ⟨h0, h1⟩
  · exact (hR.2.2.2.2 j hj).1
theorem RI.sk {S : SH} (hR : RI S) {k : Nat} {v : Int32} (h0 : 0 ≤ v) (h1 : v ≤ 99) : RI (S.setSk (upd S.sk k v)) := by
  refine ⟨hR.1, hR.2.1, hR.2.2.1, hR.2.2.2.1, fun j hj => ⟨(hR.2.2.2.2 j hj).1, ?_, (hR.2.2.2.2 j hj).2.2⟩⟩
  show 0 ≤ upd S.sk k v j ∧ upd S.sk k v j ≤ 99
  unfold upd
  split
  · exact ⟨h0, h1⟩
  · exact (hR.2.2.2.2 j hj).2.1
theorem RI.ki {S : SH} (hR : RI S) {k : Nat} {v : Int32} (h0 : 0 ≤ v) (h1 : v ≤ 5) : RI (S.setKi (upd S.ki k v)) := by
  refine ⟨hR.1, hR.2.1, hR.2.2.1, hR.2.2.2.1, fun j hj => ⟨(hR.2.2.2.2 j hj).1, (hR.2.2.2.2 j hj).2.1, ?_, (hR.2.2.2.2 j hj).2.2.2⟩⟩
  show 0 ≤ upd S.ki k v j ∧ upd S.ki k v j ≤ 5
  unfold upd
  split
  · exact ⟨h0, h1⟩
  · exact (hR.2.2.2.2 j hj).2.2.1
def tlF (fo : Nat → Int32) : Nat → Int32 → Int32 → Int32 → Int32 × Int32 × Int32
  | 0, a, b, c => (a, b, c)
  | k + 1, a, b, c => if fo k = -1 then tlF fo k (a ||| (if k < 10 then (1 : Int32) <<< (nI k &&& 31) else 0)) (b + 1) (nI k) else tlF fo k a b c
theorem tl_1 (fo : Nat → Int32) : ∀ k, k ≤ 10 → ∀ a b c, (tlF fo k a b c).1 = a ||| btF fo k
  | 0, _, a, b, c => (Int32.or_zero).symm
  | k + 1, hk, a, b, c => by
    unfold tlF
    by_cases q : fo k = -1
    · rw [if_pos q, tl_1 fo k (by omega), if_pos (by omega), btF_y q, Int32.or_assoc, Int32.or_comm ((1 : Int32) <<< (nI k &&& 31))]
    · rw [if_neg q, tl_1 fo k (by omega), btF_n q]
theorem tl_2 (fo : Nat → Int32) : ∀ k a b c, (tlF fo k a b c).2.1 = b + hmF fo k
  | 0, a, b, c => (Int32.add_zero b).symm
  | k + 1, a, b, c => by
    unfold tlF
    by_cases q : fo k = -1
    · rw [if_pos q, tl_2 fo k, hmF_y q, Int32.add_assoc, Int32.add_comm 1]
    · rw [if_neg q, tl_2 fo k, hmF_n q]
theorem lfF_s (fo : Nat → Int32) : ∀ j k, k + j < 1000000 → lfF fo (j + 1) k = if lfF fo j k = -1 then (if fo (k + j) = -1 then nI (k + j) else -1) else lfF fo j k
  | 0, k, _ => by
    show (if fo k = -1 then nI k else -1) = if (-1 : Int32) = -1 then (if fo (k + 0) = -1 then nI (k + 0) else -1) else -1
    rw [if_pos rfl]
    rfl
  | j + 1, k, h => by
    have ih := lfF_s fo j (k + 1) (by omega)
    show (if fo k = -1 then nI k else lfF fo (j + 1) (k + 1)) = _
    by_cases q : fo k = -1
    · have e : lfF fo (j + 1) k = nI k := if_pos q
      rw [if_pos q, e, if_neg (nI_m1 (by omega))]
    · have e : lfF fo (j + 1) k = lfF fo j (k + 1) := if_neg q
      rw [if_neg q, e, ih, show k + 1 + j = k + (j + 1) by omega]
theorem tl_3 (fo : Nat → Int32) : ∀ k, k < 1000000 → ∀ a b c, (tlF fo k a b c).2.2 = if lfF fo k 0 = -1 then c else lfF fo k 0
  | 0, _, a, b, c => by
    show c = if (-1 : Int32) = -1 then c else -1
    rw [if_pos rfl]
  | k + 1, h, a, b, c => by
    have hl := lfF_s fo k 0 (by omega)
    rw [Nat.zero_add] at hl
    unfold tlF
    by_cases q : fo k = -1
    · rw [if_pos q, tl_3 fo k (by omega), hl, if_pos q]
      by_cases y : lfF fo k 0 = -1
      · rw [if_pos y, if_neg (nI_m1 (by omega))]
      · rw [if_neg y, if_neg y]
    · rw [if_neg q, tl_3 fo k (by omega), hl, if_neg q]
      by_cases y : lfF fo k 0 = -1
      · rw [if_pos y, if_pos y, if_pos rfl]
      · rw [if_neg y, if_neg y, if_neg y]
def tlR (what : Int32) (q : Int32 × Int32 × Int32) : Int32 := if what = 3 then q.2.1 else if what = 5 then q.2.1 else if what = 4 then q.2.2 else if what = 6 then q.2.2 else q.1
section MODEL
variable (E : XEnv) (A : AS)
set_option maxRecDepth 100000 in
set_option maxHeartbeats 4000000 in
theorem l_X5_first {tv : TV} (h : YQ) (hs : SaysOk E A tv h.tx h.ts) (S : SH) (f0 : F32) {s : Nat} (hs4 : s < 4) (N : Nat) (hN : N ≤ 40) (hsz : h.sz s = nI N) (f : F32) (hit : ∀ i, i < N → h.it (40 * s + i) = f i) (j : Nat) : ∀ (k : Nat) (T : SH) (h2 : YQ), k + j = N → h2.wz = asideF S f0 → Yk h h2 → RI T → T.n = S.n → XAt E RX5 cX5_firstOther 4 (some .int) 106 16 (fun r σ' => r = some (.int (foF tv f j k T)) ∧ ∃ h', Yk h h' ∧ σ' = mW (A.set_S S) h') 8 [(0, .ref 0), (1, .int (nI s)), (2, .int (-1)), (3, .int (nI k))] [] (mW (A.set_S T) h2) := by
  have hcs : (nI s).toNatClampNeg = s := nI_clamp (by omega)
  have fin : ∀ (fd : Int32) (k : Nat) (T : SH) (h2 : YQ), h2.wz = asideF S f0 → Yk h h2 → T.n = S.n → XAt E RX5 cX5_firstOther 4 (some .int) 106 16 (fun r σ' => r = some (.int fd) ∧ ∃ h', Yk h h' ∧ σ' = mW (A.set_S S) h') 57 [(0, .ref 0), (1, .int (nI s)), (2, .int fd), (3, .int (nI k))] [] (mW (A.set_S T) h2) := by
    intro fd k T h2 hw hy hn
    refine xgo sX5_firstOther [] 60 (xle rfl) (XIn.same (xle rfl) (c_X5_laysBack E A h2 S T f0 hw hn) (fun r σ' _ q => ?_))
    obtain ⟨rfl, rfl⟩ := q
    exact ⟨rfl, h2, hy, rfl⟩
  induction j with
  | zero =>
    intro k T h2 hk hw hy hR hn
    obtain rfl : k = N := by omega
    have hz : h2.sz (nI s).toNatClampNeg = nI k := by rw [hcs, hy.1.2.2.2.2.1]; exact hsz
    refine xgo sX5_firstOther [8, 57] 60 (xle rfl) ⟨vp_in_nI (by omega) (by omega), fun _ => fin (-1) k T h2 hw hy hn, fun q => absurd (show h2.sz (nI s).toNatClampNeg ≤ nI k by rw [hz]; exact nI_le (Nat.le_refl _) (by omega)) q⟩
  | succ j IH =>
    intro k T h2 hk hw hy hR hn
    have hz : h2.sz (nI s).toNatClampNeg = nI N := by rw [hcs, hy.1.2.2.2.2.1]; exact hsz
    refine xgo sX5_firstOther [8, 57] 60 (xle rfl) ⟨vp_in_nI (by omega) (by omega), fun q => absurd q (show ¬ h2.sz (nI s).toNatClampNeg ≤ nI k by rw [hz]; exact nI_ge (by omega) (by omega)), fun _ => ⟨fun q => absurd rfl q, fun _ => XIn.same (xle rfl) (c_X5_passes E A hs h2 hy.1.1 hy.1.2.1 T hR) (fun r σ' _ z => ?_)⟩⟩
    obtain ⟨rfl, x, rfl⟩ := z
    have ei : (40 : Int32) * nI s + nI k = nI (40 * s + k) := ix40m s k
    have hi : (h2.rd x).it (nI (40 * s + k)).toNatClampNeg = f k := by
      rw [nI_clamp (by omega : 40 * s + k < 2147483648)]
      show h2.it (40 * s + k) = f k
      rw [hy.1.2.2.2.2.2]
      exact hit k (by omega)
    refine ⟨by rw [ei]; exact vp_in_nI (by omega) (by omega), fun q => ?_, fun q => ?_⟩
    · rw [ei] at q
      have q : ¬ (dayF tv T).wa = f k := fun z => q (z.trans hi.symm)
      have e : foF tv f (j + 1) k T = nI k := if_neg q
      have t := fin (nI k) (k + 1) (dayF tv T) (h2.rd x) hw (hy.trans (Yk.rd h2 x)) (by rw [dayF_n]; exact hn)
      rw [e]
      rw [nI_succ] at t
      show XAt E RX5 cX5_firstOther 4 (some .int) 106 16 _ 8 [(0, .ref 0), (1, .int (nI s)), (2, .int (nI k)), (3, .int (nI k + 1))] [] (mW (A.set_S (dayF tv T)) (h2.rd x))
      exact xgo sX5_firstOther [57] 60 (xle rfl) ⟨vp_in_nI (by omega) (by omega), fun _ => t, fun _ => ⟨fun _ => t, fun z => absurd z (nI_m1 (by omega))⟩⟩
    · rw [ei] at q
      have q : (dayF tv T).wa = f k := Eq.trans q hi
      have e : foF tv f (j + 1) k T = foF tv f j (k + 1) (dayF tv T) := if_pos q
      have ih := IH (k + 1) (dayF tv T) (h2.rd x) (by omega) hw (hy.trans (Yk.rd h2 x)) (RI_day tv hR) (by rw [dayF_n]; exact hn)
      rw [nI_succ] at ih
      rw [e]
      exact ih
set_option maxRecDepth 100000 in
theorem c_X5_firstOther {tv : TV} (h : YQ) (hs : SaysOk E A tv h.tx h.ts) (S : SH) (hR : RI S) {s : Nat} (hs4 : s < 4) (N : Nat) (hN : N ≤ 40) (hsz : h.sz s = nI N) (f : F32) (hit : ∀ i, i < N → h.it (40 * s + i) = f i) : XCall E 106 yX5_firstOther cX5_firstOther 4 (some .int) [.ref 0, .int (nI s)] (mW (A.set_S S) h) (fun r σ' => r = some (.int (foF tv f N 0 S)) ∧ ∃ h', Yk h h' ∧ σ' = mW (A.set_S S) h') := by
  refine XCall.of (by decide +kernel) (xle rfl) (xgo sX5_firstOther [8] 60 (xle rfl) (XIn.same (xle rfl) (c_X5_aside E (A.set_S S) h) (fun r σ' _ q => ?_)))
  obtain ⟨rfl, h2, hw, hy, rfl⟩ := q
  exact l_X5_first E A h hs S h.wz hs4 N hN hsz f hit N 0 S h2 (Nat.zero_add _) hw hy hR rfl
set_option maxRecDepth 100000 in
set_option maxHeartbeats 4000000 in
theorem l_X5_soundSet {tv : TV} (h : YQ) (hs : SaysOk E A tv h.tx h.ts) (hR : RI A.S) {s : Nat} (hs4 : s < 4) (N : Nat) (hN : N ≤ 40) (hsz : h.sz s = nI N) (f : F32) (hit : ∀ i, i < N → h.it (40 * s + i) = f i) (fo : Nat → Int32) (hfo : ∀ v, fo v = foF tv f N 0 (A.S.setSo (upd A.S.so v 99))) (j : Nat) : ∀ (k : Nat) (h2 : YQ) (r : XL), k + j = 10 → Yk h h2 → XAt E RX5 cX5_soundSet 5 (some .int) 107 16 (YRk (btF fo 10, A) h) 4 ([(0, .ref 0), (1, .int (nI s)), (2, .int (btF fo k)), (3, .int (nI k))] ++ r) [] (mW A h2) := by
  induction j with
  | zero =>
    intro k h2 r hk hy
    obtain rfl : k = 10 := by omega
    exact XAt.app r (xgo sX5_soundSet [4] 60 (xle rfl) ⟨fun _ => ⟨rfl, h2, hy, rfl⟩, fun h => absurd (nI_le (a := 10) (b := 10) (Nat.le_refl _) (by omega)) h⟩)
  | succ j IH =>
    intro k h2 r hk hy
    have hc : (nI k).toNatClampNeg = k := nI_clamp (by omega)
    have hR1 : RI (A.S.setSo (upd A.S.so k 99)) := hR.so (by decide) (by decide)
    refine XAt.app r (xgo sX5_soundSet [4, 26] 60 (xle rfl) ⟨fun h => absurd h (nI_ge (b := 10) (by omega) (by omega)), fun _ => ⟨vp_in_nI (by omega) (by omega), vp_in_nI (by omega) (by omega), ?_⟩⟩)
    rw [hc]
    show XAt E RX5 cX5_soundSet 5 (some .int) 107 16 _ 26 [(0, .ref 0), (1, .int (nI s)), (2, .int (btF fo k)), (3, .int (nI k)), (4, .int (A.S.so k))] [] (mW (A.set_S (A.S.setSo (upd A.S.so k 99))) h2)
    have hcall := c_X5_firstOther E A h2 (by rw [hy.1.1, hy.1.2.1]; exact hs) (A.S.setSo (upd A.S.so k 99)) hR1 hs4 N hN (by rw [hy.1.2.2.2.2.1]; exact hsz) f (fun i hi => by rw [hy.1.2.2.2.2.2]; exact hit i hi)
    rw [← hfo k] at hcall
    refine xgo sX5_soundSet [4] 60 (xle rfl) (XIn.same (xle rfl) hcall (fun r σ' _ z => ?_))
    obtain ⟨rfl, h3, hy3, rfl⟩ := z
    have eb : mW (A.set_S ((A.S.setSo (upd A.S.so k 99)).setSo (upd (upd A.S.so k 99) k (A.S.so k)))) h3 = mW A h3 := by
      rw [upd_bk]
      rfl
    refine ⟨fun q => ⟨vp_in_nI (by omega) (by omega), ?_⟩, fun q => ⟨vp_in_nI (by omega) (by omega), ?_⟩⟩
    · have ih := IH (k + 1) h3 [(4, .int (A.S.so k))] (by omega) (hy.trans hy3)
      rw [hc]
      rw [nI_succ, btF_n q, ← or0 (btF fo k) (nI k &&& 31), ← eb] at ih
      exact ih
    · have ih := IH (k + 1) h3 [(4, .int (A.S.so k))] (by omega) (hy.trans hy3)
      rw [hc]
      rw [nI_succ, btF_y q, ← eb] at ih
      exact ih
theorem c_X5_soundSet {tv : TV} (h : YQ) (hs : SaysOk E A tv h.tx h.ts) (hR : RI A.S) {s : Nat} (hs4 : s < 4) (N : Nat) (hN : N ≤ 40) (hsz : h.sz s = nI N) (f : F32) (hit : ∀ i, i < N → h.it (40 * s + i) = f i) (fo : Nat → Int32) (hfo : ∀ v, fo v = foF tv f N 0 (A.S.setSo (upd A.S.so v 99))) : XCall E 107 yX5_soundSet cX5_soundSet 5 (some .int) [.ref 0, .int (nI s)] (mW A h) (YRk (btF fo 10, A) h) :=
  XCall.of (by decide +kernel) (xle rfl) (xgo sX5_soundSet [4] 60 (xle rfl) (l_X5_soundSet E A h hs hR hs4 N hN hsz f hit fo hfo 10 0 h [] rfl (Yk.same h)))
set_option maxRecDepth 100000 in
set_option maxHeartbeats 4000000 in
theorem l_X5_tells (h : YQ) (AX : Nat → AS) (s one w b L : Nat) (what : Int32) (fo : Nat → Int32)
    (hl : ∀ (x v : Nat) (h2 : YQ), XCall E 10 yX5_lays cX5_lays 4 none [.ref 0, .int (nI w), .int (nI one), .int (nI v)] (mW (AX x) h2) (fun r σ' => r = none ∧ σ' = mW (AX v) h2))
    (hf : ∀ (v : Nat) (h2 : YQ), v ≤ L → Yk h h2 → XCall E 106 yX5_firstOther cX5_firstOther 4 (some .int) [.ref 0, .int (nI s)] (mW (AX v) h2) (fun r σ' => r = some (.int (fo v)) ∧ ∃ h', Yk h2 h' ∧ σ' = mW (AX v) h'))
    (hb : AX b = A) (hL : L < 100) (k : Nat) : ∀ (q1 q2 q3 v : Int32) (x : Nat) (h2 : YQ), k ≤ L + 1 → v = nI k + (-1) → Yk h h2 → XAt E RX5 cX5_tells 11 (some .int) 110 16 (YRk (tlR what (tlF fo k q1 q2 q3), A) h) 204 [(0, .ref 0), (1, .int (nI s)), (2, .int (nI one)), (3, .int what), (4, .int (nI w)), (5, .int (nI b)), (6, .int (nI L)), (7, .int q1), (8, .int q2), (9, .int q3), (10, .int v)] [] (mW (AX x) h2) := by
  induction k with
  | zero =>
    intro q1 q2 q3 v x h2 hk hv hy
    have hv0 : v < 0 := by rw [hv]; decide
    refine xgo sX5_tells [204] 100 (xle rfl) ⟨fun _ => XIn.same (xle rfl) (hl x b h2) (fun r σ' _ z => ?_), fun q => absurd hv0 q⟩
    obtain ⟨rfl, rfl⟩ := z
    rw [hb]
    refine ⟨fun z => ?_, fun n3 => ⟨fun n5 => ⟨fun z => ?_, fun n4 => ⟨fun n6 => ?_, fun z => ?_⟩⟩, fun z => ?_⟩⟩
    · refine ⟨?_, h2, hy, rfl⟩
      unfold tlR
      rw [if_pos z]
      rfl
    · refine ⟨?_, h2, hy, rfl⟩
      unfold tlR
      rw [if_neg n3, if_neg n5, if_pos z]
      rfl
    · refine ⟨?_, h2, hy, rfl⟩
      unfold tlR
      rw [if_neg n3, if_neg n5, if_neg n4, if_neg n6]
      rfl
    · refine ⟨?_, h2, hy, rfl⟩
      unfold tlR
      rw [if_neg n3, if_neg n5, if_neg n4, if_pos z]
      rfl
    · refine ⟨?_, h2, hy, rfl⟩
      unfold tlR
      rw [if_neg n3, if_pos z]
      rfl
  | succ k IH =>
    intro q1 q2 q3 v x h2 hk hv hy
    rw [pk_m1] at hv
    subst hv
    refine xgo sX5_tells [204] 100 (xle rfl) ⟨fun q => absurd q (nI_pos (by omega)), fun _ => XIn.same (xle rfl) (hl x k h2) (fun r σ' _ z => ?_)⟩
    obtain ⟨rfl, rfl⟩ := z
    refine XIn.same (xle rfl) (hf k h2 (by omega) hy) (fun r σ' _ z => ?_)
    obtain ⟨rfl, h3, hy3, rfl⟩ := z
    refine ⟨fun q => ?_, fun q => ⟨fun z => ?_, fun z => ?_⟩⟩
    · have ih := IH q1 q2 q3 (nI k + (-1)) k h3 (by omega) rfl (hy.trans hy3)
      have e : tlF fo (k + 1) q1 q2 q3 = tlF fo k q1 q2 q3 := if_neg q
      rw [e]
      exact ih
    · have hk10 : ¬ k < 10 := fun y => absurd z (nI_ge (b := 10) y (by omega))
      have ih := IH (q1 ||| 0) (q2 + 1) (nI k) (nI k + (-1)) k h3 (by omega) rfl (hy.trans hy3)
      have e : tlF fo (k + 1) q1 q2 q3 = tlF fo k (q1 ||| 0) (q2 + 1) (nI k) := by
        show (if fo k = -1 then tlF fo k (q1 ||| (if k < 10 then (1 : Int32) <<< (nI k &&& 31) else 0)) (q2 + 1) (nI k) else tlF fo k q1 q2 q3) = _
        rw [if_pos q, if_neg hk10]
      rw [e]
      exact ih
    · have hk10 : k < 10 := Nat.lt_of_not_le (fun y => z (nI_le (a := 10) y (by omega)))
      have ih := IH (q1 ||| ((1 : Int32) <<< (nI k &&& 31))) (q2 + 1) (nI k) (nI k + (-1)) k h3 (by omega) rfl (hy.trans hy3)
      have e : tlF fo (k + 1) q1 q2 q3 = tlF fo k (q1 ||| ((1 : Int32) <<< (nI k &&& 31))) (q2 + 1) (nI k) := by
        show (if fo k = -1 then tlF fo k (q1 ||| (if k < 10 then (1 : Int32) <<< (nI k &&& 31) else 0)) (q2 + 1) (nI k) else tlF fo k q1 q2 q3) = _
        rw [if_pos q, if_pos hk10]
      rw [e]
      exact ih
end MODEL
