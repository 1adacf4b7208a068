-- ===== what was told =====
def modF (S : SH) (one : Nat) (what : Int32) (v : Nat) : SH := if what = 1 then S.setKi (upd S.ki one (nI v)) else if what = 2 then S.setNu (upd S.nu one (nI v)) else if what = 3 then S.setSk (upd S.sk one (nI v)) else if what = 5 then S.setSe (nI v) else if what = 8 then S.setSo (upd S.so v 99) else S
def mruF (A : AS) (what : Int32) (v : Nat) : Nat := if what = 7 then v else A.ru
def foF (tv : TV) (f : F32) : Nat → Nat → SH → Int32
  | 0, _, _ => -1
  | j + 1, k, S => if (dayF tv S).wa = f k then foF tv f j (k + 1) (dayF tv S) else nI k
def othrF (A : AS) (s one : Nat) (what : Int32) (v : Nat) : Int32 := foF (tvA A (mruF A what v)) (A.sh s).2.2 (A.sh s).2.1 0 (modF A.S one what v)
def btF (fo : Nat → Int32) : Nat → Int32
  | 0 => 0
  | k + 1 => if fo k = -1 then btF fo k ||| ((1 : Int32) <<< (nI k &&& 31)) else btF fo k
def hmF (fo : Nat → Int32) : Nat → Int32
  | 0 => 0
  | k + 1 => if fo k = -1 then hmF fo k + 1 else hmF fo k
def lfF (fo : Nat → Int32) : Nat → Nat → Int32
  | 0, _ => -1
  | j + 1, k => if fo k = -1 then nI k else lfF fo j (k + 1)
theorem btF_y {fo : Nat → Int32} {k : Nat} (h : fo k = -1) : btF fo (k + 1) = btF fo k ||| ((1 : Int32) <<< (nI k &&& 31)) := by rw [btF, if_pos h]
theorem btF_n {fo : Nat → Int32} {k : Nat} (h : ¬ fo k = -1) : btF fo (k + 1) = btF fo k := by rw [btF, if_neg h]
theorem hmF_y {fo : Nat → Int32} {k : Nat} (h : fo k = -1) : hmF fo (k + 1) = hmF fo k + 1 := by rw [hmF, if_pos h]
theorem hmF_n {fo : Nat → Int32} {k : Nat} (h : ¬ fo k = -1) : hmF fo (k + 1) = hmF fo k := by rw [hmF, if_neg h]
def o_tells (A : AS) (s one what : Int32) : Int32 × AS :=
  (if f_isSheet s = 0 then -2 else if hasF A.S one = 0 then -2 else if f_within what 0 8 = 0 then -2 else if (A.sh s.toNatClampNeg).1 = -1 then -11
  else if nI (A.sh s.toNatClampNeg).2.1 ≤ (20 : Int32) then
    (if what = 0 then othrF A s.toNatClampNeg one.toNatClampNeg 0 0
    else if what = 1 then btF (othrF A s.toNatClampNeg one.toNatClampNeg 1) 6
    else if what = 2 then btF (othrF A s.toNatClampNeg one.toNatClampNeg 2) 10
    else if what = 3 then hmF (othrF A s.toNatClampNeg one.toNatClampNeg 3) 100
    else if what = 4 then lfF (othrF A s.toNatClampNeg one.toNatClampNeg 3) 100 0
    else if what = 5 then hmF (othrF A s.toNatClampNeg one.toNatClampNeg 5) 100
    else if what = 6 then lfF (othrF A s.toNatClampNeg one.toNatClampNeg 5) 100 0
    else if what = 7 then btF (othrF A s.toNatClampNeg one.toNatClampNeg 7) A.tc
    else btF (othrF A s.toNatClampNeg one.toNatClampNeg 8) 10)
  else -2, A)
section CLS
variable (E : XEnv) (A : AS)
theorem modF_n (S : SH) (one : Nat) (what : Int32) (v : Nat) : (modF S one what v).n = S.n := by
  unfold modF
  split
  · rfl
  · split
    · rfl
    · split
      · rfl
      · split
        · rfl
        · split <;> rfl
set_option maxRecDepth 100000 in
set_option maxHeartbeats 4000000 in
theorem l_X4_first (hC : CI A) {s : Nat} (hs : s < 4) (one what v : Int32) (j : Nat) : ∀ (k : Nat) (g : GQ), g.tr < A.tc → g.th.n ≤ 5 → k + j = (A.sh s).2.1 → XAt E RX4 cX4_firstOtherwise 6 (some .int) 20 61 (XR (foF (tvA A g.tr) (A.sh s).2.2 j k g.th, A)) 149 [(0, .ref 0), (1, .ref (29 + 2 * s)), (2, .int one), (3, .int what), (4, .int v), (5, .int (nI k))] [] (gW A g) := by
  have h40 := hC.2.2.2.2.2.2.2.2.1 s hs
  have hq : Nat.ble 1000000 (30 + 2 * s) = false := by
    rcases (by omega : s = 0 ∨ s = 1 ∨ s = 2 ∨ s = 3) with rfl | rfl | rfl | rfl <;> rfl
  induction j with
  | zero =>
    intro k g ht hn hk
    obtain rfl : k = (A.sh s).2.1 := by omega
    exact xgo sX4_firstOtherwise [149] 100 (xle rfl) (hO_i (gsh A g hs).1 ⟨fun _ => ⟨rfl, g, rfl⟩, fun h => absurd (nI_le (a := (A.sh s).2.1) (b := (A.sh s).2.1) (Nat.le_refl _) (by omega)) h⟩)
  | succ j IH =>
    intro k g ht hn hk
    refine xgo sX4_firstOtherwise [149, 173] 100 (xle rfl) (hO_i (gsh A g hs).1 ⟨fun h => absurd h (nI_ge (b := (A.sh s).2.1) (by omega) (by omega)), fun _ => tDayG (xle rfl) hC g ht hn (fun g' ht' hg' => ?_)⟩)
    have ih := IH (k + 1) g' (by rw [ht']; exact ht) (by rw [hg', dayF_n]; exact hn) (by omega)
    rw [ht', hg'] at ih
    have e1 : (dayF (tvA A g.tr) g.th).wa = (A.sh s).2.2 k → foF (tvA A g.tr) (A.sh s).2.2 (j + 1) k g.th = foF (tvA A g.tr) (A.sh s).2.2 j (k + 1) (dayF (tvA A g.tr) g.th) := fun h => if_pos h
    have e2 : ¬ (dayF (tvA A g.tr) g.th).wa = (A.sh s).2.2 k → foF (tvA A g.tr) (A.sh s).2.2 (j + 1) k g.th = nI k := fun h => if_neg h
    have hc : (nI k).toNatClampNeg = k := nI_clamp (by omega)
    rw [nI_succ] at ih
    refine xgo sX4_firstOtherwise [149] 100 (xle rfl) (hO_i (gsh A g' hs).1 (iald_i hq (gsh A g' hs).2 ⟨vp_in_nI (by omega) (by omega), fun h => ?_, fun h => ?_⟩))
    · rw [hc, hg'] at h
      rw [e1 h]
      exact ih
    · rw [hc, hg'] at h
      rw [e2 h]
      exact ⟨rfl, g', rfl⟩
set_option maxRecDepth 100000 in
set_option maxHeartbeats 4000000 in
theorem c_X4_first (hC : CI A) {s : Nat} (hs : s < 4) (one : Nat) (h1 : one < A.S.n) (what : Int32) (hw : what = 0 ∨ what = 1 ∨ what = 2 ∨ what = 3 ∨ what = 5 ∨ what = 7 ∨ what = 8) (v : Nat) (hv7 : what = 7 → v < A.tc) (hv8 : what = 8 → v < 10) (hv : v < 1000) (g : GQ) : XCall E 20 yX4_firstOtherwise cX4_firstOtherwise 6 (some .int) [.ref 0, .ref (29 + 2 * s), .int (nI one), .int what, .int (nI v)] (gW A g) (XR (othrF A s one what v, A)) := by
  have h5 := hC.1
  have h6 := hC.2.2.1
  have ho : (nI one).toNatClampNeg = one := nI_clamp (by omega)
  have hvc : (nI v).toNatClampNeg = v := nI_clamp (by omega)
  refine XCall.of (by decide +kernel) (xle rfl) (xgo sX4_firstOtherwise [149] 100 (xle rfl) (XIn.same (xle rfl) (c_becomes_th E A g) (fun r σ' _ h => ?_)))
  obtain ⟨rfl, rfl⟩ := h
  unfold othrF modF mruF
  have L := fun (g' : GQ) (a : g'.tr < A.tc) (b : g'.th.n ≤ 5) => l_X4_first E A hC hs (nI one) what (nI v) (A.sh s).2.1 0 g' a b (Nat.zero_add _)
  refine ⟨fun q => ⟨vp_in_nI (by omega) (by omega), ?_⟩, fun n1 => ⟨fun q => ⟨vp_in_nI (by omega) (by omega), ?_⟩, fun n2 => ⟨fun q => ⟨vp_in_nI (by omega) (by omega), ?_⟩, fun n3 => ⟨fun q => absurd q (fun z => by rw [z] at hw; revert hw; decide), fun n4 => ⟨fun q => ?_, fun n5 => ⟨fun q => absurd q (fun z => by rw [z] at hw; revert hw; decide), fun n6 => ⟨fun q => ?_, fun n7 => ⟨fun q => ⟨vp_in_nI (by have := hv8 q; omega) (by omega), ?_⟩, fun n8 => ?_⟩⟩⟩⟩⟩⟩⟩⟩
  · rw [if_pos q, ho, if_neg (by rw [q]; decide)]
    exact L ((gTh A g).set_th (A.S.setKi (upd A.S.ki one (nI v)))) hC.2.1 h5
  · rw [if_neg n1, if_pos q, ho, if_neg (by rw [q]; decide)]
    exact L ((gTh A g).set_th (A.S.setNu (upd A.S.nu one (nI v)))) hC.2.1 h5
  · rw [if_neg n1, if_neg n2, if_pos q, ho, if_neg (by rw [q]; decide)]
    exact L ((gTh A g).set_th (A.S.setSk (upd A.S.sk one (nI v)))) hC.2.1 h5
  · rw [if_neg n1, if_neg n2, if_neg n3, if_pos q, if_neg (by rw [q]; decide)]
    exact L ((gTh A g).set_th (A.S.setSe (nI v))) hC.2.1 h5
  · have h7 := hv7 q
    rw [if_neg n1, if_neg n2, if_neg n3, if_neg n5, if_neg (show ¬ what = 8 by rw [q]; decide), if_pos q]
    refine ⟨vp_in_nI (by omega) (by omega), tp v, ?_, ?_⟩
    · show (if (nI v).toNatClampNeg < 6 then some (tp (nI v).toNatClampNeg) else none) = _
      rw [hvc, if_pos (by omega)]
    · exact L ((gTh A g).set_tr v) h7 h5
  · rw [if_neg n1, if_neg n2, if_neg n3, if_neg n5, if_pos q, if_neg n7, hvc]
    exact L ((gTh A g).set_th (A.S.setSo (upd A.S.so v 99))) hC.2.1 h5
  · rw [if_neg n1, if_neg n2, if_neg n3, if_neg n5, if_neg n8, if_neg n7]
    exact L (gTh A g) hC.2.1 h5
set_option maxRecDepth 100000 in
set_option maxHeartbeats 4000000 in
theorem l_X4_bits (hC : CI A) {s : Nat} (hs : s < 4) (one : Nat) (h1 : one < A.S.n) (what : Int32) (hw : what = 0 ∨ what = 1 ∨ what = 2 ∨ what = 3 ∨ what = 5 ∨ what = 7 ∨ what = 8) (n : Nat) (hn : n ≤ 10) (h7 : what = 7 → n ≤ A.tc) (j : Nat) : ∀ (k : Nat) (g : GQ), k + j = n → XAt E RX4 cX4_bitsThatFit 7 (some .int) 21 61 (XR (btF (othrF A s one what) n, A)) 6 [(0, .ref 0), (1, .ref (29 + 2 * s)), (2, .int (nI one)), (3, .int what), (4, .int (nI n)), (5, .int (btF (othrF A s one what) k)), (6, .int (nI k))] [] (gW A g) := by
  induction j with
  | zero =>
    intro k g hk
    obtain rfl : k = n := by omega
    exact xgo sX4_bitsThatFit [6] 100 (xle rfl) ⟨fun _ => ⟨rfl, g, rfl⟩, fun h => absurd (nI_le (Nat.le_refl _) (by omega)) h⟩
  | succ j IH =>
    intro k g hk
    refine xgo sX4_bitsThatFit [6] 100 (xle rfl) ⟨fun h => absurd h (nI_ge (by omega) (by omega)), fun _ => XIn.same (xle rfl) (c_X4_first E A hC hs one h1 what hw k (fun q => by have := h7 q; omega) (fun _ => by omega) (by omega) g) (fun r σ' _ h => ?_)⟩
    obtain ⟨rfl, g', rfl⟩ := h
    refine ⟨fun h => ?_, fun h => ?_⟩
    · have ih := IH (k + 1) g' (by omega)
      rw [nI_succ, btF_n h] at ih
      exact ih
    · have ih := IH (k + 1) g' (by omega)
      rw [nI_succ, btF_y h] at ih
      exact ih
theorem c_X4_bits (hC : CI A) {s : Nat} (hs : s < 4) (one : Nat) (h1 : one < A.S.n) (what : Int32) (hw : what = 0 ∨ what = 1 ∨ what = 2 ∨ what = 3 ∨ what = 5 ∨ what = 7 ∨ what = 8) (n : Nat) (hn : n ≤ 10) (h7 : what = 7 → n ≤ A.tc) (g : GQ) : XCall E 21 yX4_bitsThatFit cX4_bitsThatFit 7 (some .int) [.ref 0, .ref (29 + 2 * s), .int (nI one), .int what, .int (nI n)] (gW A g) (XR (btF (othrF A s one what) n, A)) :=
  XCall.of (by decide +kernel) (xle rfl) (xgo sX4_bitsThatFit [6] 100 (xle rfl) (l_X4_bits E A hC hs one h1 what hw n hn h7 n 0 g (Nat.zero_add _)))
set_option maxRecDepth 100000 in
set_option maxHeartbeats 4000000 in
theorem l_X4_many (hC : CI A) {s : Nat} (hs : s < 4) (one : Nat) (h1 : one < A.S.n) (what : Int32) (hw : what = 3 ∨ what = 5) (j : Nat) : ∀ (k : Nat) (g : GQ), k + j = 100 → XAt E RX4 cX4_howManyFit 6 (some .int) 21 61 (XR (hmF (othrF A s one what) 100, A)) 6 [(0, .ref 0), (1, .ref (29 + 2 * s)), (2, .int (nI one)), (3, .int what), (4, .int (hmF (othrF A s one what) k)), (5, .int (nI k))] [] (gW A g) := by
  have hw' : what = 0 ∨ what = 1 ∨ what = 2 ∨ what = 3 ∨ what = 5 ∨ what = 7 ∨ what = 8 := by
    rcases hw with q | q
    · exact Or.inr (Or.inr (Or.inr (Or.inl q)))
    · exact Or.inr (Or.inr (Or.inr (Or.inr (Or.inl q))))
  induction j with
  | zero =>
    intro k g hk
    obtain ⟨m, hm⟩ : ∃ m, m = 100 := ⟨_, rfl⟩
    rw [← hm] at hk ⊢
    obtain rfl : k = m := by omega
    exact xgo sX4_howManyFit [6] 100 (xle rfl) ⟨fun _ => ⟨rfl, g, rfl⟩, fun h => absurd (nI_lt (a := 99) (b := k) (by omega) (by omega)) h⟩
  | succ j IH =>
    intro k g hk
    obtain ⟨m, hm⟩ : ∃ m, m = 100 := ⟨_, rfl⟩
    rw [← hm] at IH hk ⊢
    refine xgo sX4_howManyFit [6] 100 (xle rfl) ⟨fun h => absurd h (nI_nlt (a := 99) (b := k) (by omega) (by omega)), fun _ => XIn.same (xle rfl) (c_X4_first E A hC hs one h1 what hw' k (fun q => absurd hw (by rw [q]; decide)) (fun q => absurd hw (by rw [q]; decide)) (by omega) g) (fun r σ' _ h => ?_)⟩
    obtain ⟨rfl, g', rfl⟩ := h
    refine ⟨fun h => ?_, fun h => ?_⟩
    · have ih := IH (k + 1) g' (by omega)
      rw [nI_succ, hmF_n h] at ih
      exact ih
    · have ih := IH (k + 1) g' (by omega)
      rw [nI_succ, hmF_y h] at ih
      exact ih
theorem c_X4_many (hC : CI A) {s : Nat} (hs : s < 4) (one : Nat) (h1 : one < A.S.n) (what : Int32) (hw : what = 3 ∨ what = 5) (g : GQ) : XCall E 21 yX4_howManyFit cX4_howManyFit 6 (some .int) [.ref 0, .ref (29 + 2 * s), .int (nI one), .int what] (gW A g) (XR (hmF (othrF A s one what) 100, A)) :=
  XCall.of (by decide +kernel) (xle rfl) (xgo sX4_howManyFit [6] 100 (xle rfl) (l_X4_many E A hC hs one h1 what hw 100 0 g rfl))
set_option maxRecDepth 100000 in
set_option maxHeartbeats 4000000 in
theorem l_X4_least (hC : CI A) {s : Nat} (hs : s < 4) (one : Nat) (h1 : one < A.S.n) (what : Int32) (hw : what = 3 ∨ what = 5) (j : Nat) : ∀ (k : Nat) (g : GQ), k + j = 100 → XAt E RX4 cX4_leastThatFits 5 (some .int) 21 61 (XR (lfF (othrF A s one what) j k, A)) 3 [(0, .ref 0), (1, .ref (29 + 2 * s)), (2, .int (nI one)), (3, .int what), (4, .int (nI k))] [] (gW A g) := by
  have hw' : what = 0 ∨ what = 1 ∨ what = 2 ∨ what = 3 ∨ what = 5 ∨ what = 7 ∨ what = 8 := by
    rcases hw with q | q
    · exact Or.inr (Or.inr (Or.inr (Or.inl q)))
    · exact Or.inr (Or.inr (Or.inr (Or.inr (Or.inl q))))
  induction j with
  | zero =>
    intro k g hk
    exact xgo sX4_leastThatFits [3] 100 (xle rfl) ⟨fun _ => ⟨rfl, g, rfl⟩, fun h => absurd (nI_lt (a := 99) (b := k) (by omega) (by omega)) h⟩
  | succ j IH =>
    intro k g hk
    refine xgo sX4_leastThatFits [3] 100 (xle rfl) ⟨fun h => absurd h (nI_nlt (a := 99) (b := k) (by omega) (by omega)), fun _ => XIn.same (xle rfl) (c_X4_first E A hC hs one h1 what hw' k (fun q => absurd hw (by rw [q]; decide)) (fun q => absurd hw (by rw [q]; decide)) (by omega) g) (fun r σ' _ h => ?_)⟩
    obtain ⟨rfl, g', rfl⟩ := h
    refine ⟨fun h => ?_, fun h => ?_⟩
    · have ih := IH (k + 1) g' (by omega)
      rw [nI_succ] at ih
      have e : lfF (othrF A s one what) (j + 1) k = lfF (othrF A s one what) j (k + 1) := if_neg h
      rw [e]
      exact ih
    · have e : lfF (othrF A s one what) (j + 1) k = nI k := if_pos h
      rw [e]
      exact ⟨rfl, g', rfl⟩
theorem c_X4_least (hC : CI A) {s : Nat} (hs : s < 4) (one : Nat) (h1 : one < A.S.n) (what : Int32) (hw : what = 3 ∨ what = 5) (g : GQ) : XCall E 21 yX4_leastThatFits cX4_leastThatFits 5 (some .int) [.ref 0, .ref (29 + 2 * s), .int (nI one), .int what] (gW A g) (XR (lfF (othrF A s one what) 100 0, A)) :=
  XCall.of (by decide +kernel) (xle rfl) (xgo sX4_leastThatFits [3] 100 (xle rfl) (l_X4_least E A hC hs one h1 what hw 100 0 g rfl))
set_option maxRecDepth 100000 in
set_option maxHeartbeats 4000000 in
theorem c_X4_tells (hC : CI A) (g : GQ) (s one what : Int32) : XCall E 22 yX4_tells cX4_tells 5 (some .int) [.ref 0, .int s, .int one, .int what] (gW A g) (XR (o_tells A s one what)) := by
  unfold o_tells hasF
  have h5 := hC.1
  have h6 := hC.2.2.1
  refine XCall.of (by decide +kernel) (xle rfl) (xgo sX4_tells [31] 200 (xle rfl) ⟨fun h => ?_, fun h => ?_⟩)
  · rw [if_pos h]
    exact ⟨rfl, g, rfl⟩
  · rw [if_neg h]
    obtain ⟨k, hk, rfl⟩ := fs_e h
    have h40 := hC.2.2.2.2.2.2.2.2.1 k hk
    rw [nI_clamp (n := k) (by omega)]
    refine gS0 A g hC.ru6 (xle rfl) rfl (c_X2_has E A.S _ _ _ one) (fun r σ' h2 => ?_)
    obtain ⟨rfl, rfl⟩ := h2
    refine ⟨_, _, _, rfl, fun h2 => ?_, fun h2 => ⟨fun h3 => ?_, fun h3 => ?_⟩⟩
    · rw [if_pos h2]
      exact ⟨rfl, _, rfl⟩
    · rw [if_neg h2, if_neg h3]
      obtain ⟨i, hi, rfl⟩ := fw_e (by omega) h2
      rw [nI_clamp (n := i) (by omega)]
      obtain ⟨g1, hg1⟩ : ∃ g1, g1 = g.set0 A.ru (g.nm 0) (g.wt A.ru) := ⟨_, rfl⟩
      show XAt E RX4 cX4_tells 5 (some .int) 22 61 _ 31 [(0, .ref 0), (1, .int (nI k)), (2, .int (nI i)), (3, .int what)] [] (gW A (g.set0 A.ru (g.nm 0) (g.wt A.ru)))
      rw [← hg1]
      refine xgo sX4_tells [63] 200 (xle rfl) ⟨vp_in_nI (by omega) (by omega), _, aa3 hk, hO_i (gsh A g1 hk).1 (gShR A g1 hk (xle rfl) rfl (c_X1_isMissing E _ _ _) (fun r σ' h6 => ?_))⟩
      obtain ⟨rfl, rfl⟩ := h6
      refine ⟨rfl, fun h4 => ?_, fun h4 => ?_⟩
      · rw [if_neg (mis_y h4)]
        refine hO_i (gsh A g1 hk).1 ⟨fun h7 => ?_, fun h7 => ?_⟩
        · rw [if_pos h7]
          refine xgo sX4_tells [] 200 (xle rfl) ⟨fun q => ?_, fun n0 => ⟨fun q => ?_, fun n1 => ⟨fun q => ?_, fun n2 => ⟨fun q => ?_, fun n3 => ⟨fun q => ?_, fun n4 => ⟨fun q => ?_, fun n5 => ⟨fun q => ?_, fun n6 => ⟨fun q => ?_, fun n7 => ?_⟩⟩⟩⟩⟩⟩⟩⟩
          · rw [if_pos q]
            refine XIn.same (xle rfl) (c_X4_first E A hC hk i hi 0 (Or.inl rfl) 0 (fun z => absurd z (by decide)) (fun z => absurd z (by decide)) (by omega) g1) (fun r σ' _ h => ?_)
            obtain ⟨rfl, g', rfl⟩ := h
            exact ⟨rfl, g', rfl⟩
          · rw [if_neg n0, if_pos q]
            subst q
            refine XIn.same (xle rfl) (c_X4_bits E A hC hk i hi 1 (by decide) 6 (by omega) (fun z => absurd z (by decide)) g1) (fun r σ' _ h => ?_)
            obtain ⟨rfl, g', rfl⟩ := h
            exact ⟨rfl, g', rfl⟩
          · rw [if_neg n0, if_neg n1, if_pos q]
            subst q
            refine XIn.same (xle rfl) (c_X4_bits E A hC hk i hi 2 (by decide) 10 (by omega) (fun z => absurd z (by decide)) g1) (fun r σ' _ h => ?_)
            obtain ⟨rfl, g', rfl⟩ := h
            exact ⟨rfl, g', rfl⟩
          · rw [if_neg n0, if_neg n1, if_neg n2, if_pos q]
            subst q
            refine XIn.same (xle rfl) (c_X4_many E A hC hk i hi 3 (by decide) g1) (fun r σ' _ h => ?_)
            obtain ⟨rfl, g', rfl⟩ := h
            exact ⟨rfl, g', rfl⟩
          · rw [if_neg n0, if_neg n1, if_neg n2, if_neg n3, if_pos q]
            refine XIn.same (xle rfl) (c_X4_least E A hC hk i hi 3 (by decide) g1) (fun r σ' _ h => ?_)
            obtain ⟨rfl, g', rfl⟩ := h
            exact ⟨rfl, g', rfl⟩
          · rw [if_neg n0, if_neg n1, if_neg n2, if_neg n3, if_neg n4, if_pos q]
            subst q
            refine XIn.same (xle rfl) (c_X4_many E A hC hk i hi 5 (by decide) g1) (fun r σ' _ h => ?_)
            obtain ⟨rfl, g', rfl⟩ := h
            exact ⟨rfl, g', rfl⟩
          · rw [if_neg n0, if_neg n1, if_neg n2, if_neg n3, if_neg n4, if_neg n5, if_pos q]
            refine XIn.same (xle rfl) (c_X4_least E A hC hk i hi 5 (by decide) g1) (fun r σ' _ h => ?_)
            obtain ⟨rfl, g', rfl⟩ := h
            exact ⟨rfl, g', rfl⟩
          · rw [if_neg n0, if_neg n1, if_neg n2, if_neg n3, if_neg n4, if_neg n5, if_neg n6, if_pos q]
            subst q
            refine XIn.same (xle rfl) (c_X4_bits E A hC hk i hi 7 (by decide) A.tc (by omega) (fun _ => Nat.le_refl _) g1) (fun r σ' _ h => ?_)
            obtain ⟨rfl, g', rfl⟩ := h
            exact ⟨rfl, g', rfl⟩
          · rw [if_neg n0, if_neg n1, if_neg n2, if_neg n3, if_neg n4, if_neg n5, if_neg n6, if_neg n7]
            have h8 : what = 8 := by
              obtain ⟨w, hw, rfl⟩ := fw_e (n := 9) (by omega) h3
              have q0 : w ≠ 0 := fun z => n0 (by rw [z]; rfl)
              have q1 : w ≠ 1 := fun z => n1 (by rw [z]; rfl)
              have q2 : w ≠ 2 := fun z => n2 (by rw [z]; rfl)
              have q3 : w ≠ 3 := fun z => n3 (by rw [z]; rfl)
              have q4 : w ≠ 4 := fun z => n4 (by rw [z]; rfl)
              have q5 : w ≠ 5 := fun z => n5 (by rw [z]; rfl)
              have q6 : w ≠ 6 := fun z => n6 (by rw [z]; rfl)
              have q7 : w ≠ 7 := fun z => n7 (by rw [z]; rfl)
              rw [show w = 8 by omega]
              rfl
            subst h8
            refine XIn.same (xle rfl) (c_X4_bits E A hC hk i hi 8 (by decide) 10 (by omega) (fun z => absurd z (by decide)) g1) (fun r σ' _ h => ?_)
            obtain ⟨rfl, g', rfl⟩ := h
            exact ⟨rfl, g', rfl⟩
        · rw [if_neg h7]
          exact ⟨rfl, g1, rfl⟩
      · rw [if_pos (mis_n h4)]
        exact ⟨rfl, g1, rfl⟩
    · rw [if_neg h2, if_pos h3]
      exact ⟨rfl, _, rfl⟩
end CLS
