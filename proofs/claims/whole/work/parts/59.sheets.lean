-- ===== the reference: sheets =====
def Ysh (h h' : YQ) : Prop := h'.tx = h.tx ∧ h'.ts = h.ts ∧ h'.rk = h.rk ∧ h'.bk = h.bk ∧ h'.sk = h.sk ∧ h'.k1 = h.k1 ∧ h'.k2 = h.k2 ∧ h'.k3 = h.k3 ∧ h'.k4 = h.k4 ∧ h'.k5 = h.k5
theorem Ysh.same (h : YQ) : Ysh h h := ⟨rfl, rfl, rfl, rfl, rfl, rfl, rfl, rfl, rfl, rfl⟩
theorem Ysh.it (h : YQ) (f : F32) : Ysh h (h.set_it f) := ⟨rfl, rfl, rfl, rfl, rfl, rfl, rfl, rfl, rfl, rfl⟩
theorem Ysh.trans {a b c : YQ} (p : Ysh a b) (q : Ysh b c) : Ysh a c := by
  obtain ⟨p1, p2, p7, p8, p9, p10, p11, p12, p13, p14⟩ := p
  obtain ⟨q1, q2, q7, q8, q9, q10, q11, q12, q13, q14⟩ := q
  exact ⟨q1.trans p1, q2.trans p2, q7.trans p7, q8.trans p8, q9.trans p9, q10.trans p10, q11.trans p11, q12.trans p12, q13.trans p13, q14.trans p14⟩
theorem Yk.sh {a b : YQ} (p : Yk a b) : Ysh a b := ⟨p.1.1, p.1.2.1, p.2.1, p.2.2.1, p.2.2.2.1, p.2.2.2.2.1, p.2.2.2.2.2.1, p.2.2.2.2.2.2.1, p.2.2.2.2.2.2.2.1, p.2.2.2.2.2.2.2.2⟩
theorem MS.yk {A : AS} {h h' : YQ} (hM : MS A h) (hy : Yk h h') : MS A h' := by
  intro s hs
  rcases hM s hs with ⟨m1, m2⟩ | ⟨m1, m2, m3, m4, m5, m6⟩
  · exact Or.inl ⟨m1, by rw [hy.1.2.2.1]; exact m2⟩
  · exact Or.inr ⟨m1, by rw [hy.1.2.2.1]; exact m2, by rw [hy.1.2.2.2.1]; exact m3, by rw [hy.1.2.2.2.2.1]; exact m4, m5, fun i hi => by rw [hy.1.2.2.2.2.2]; exact m6 i hi⟩
def YRs (p : Int32 × AS) (h : YQ) : XQ := fun r σ' => r = some (.int p.1) ∧ ∃ h', Ysh h h' ∧ MS p.2 h' ∧ σ' = mW p.2 h'
theorem shF_ne (A : AS) {s s' : Nat} (hne : s' ≠ s) (a : Int32) (m : Nat) (f : F32) : (shF A s a m f).sh s' = A.sh s' := if_neg hne
theorem MS.put {A : AS} {h : YQ} {s : Nat} {so : Int32} {m : Nat} {f : F32} (hM : MS (shF A s so m f) h) (hs : s < 4) (hso : ¬ so = -1) {k : Nat} (hk : k < m) (v : Int32) : MS (shF A s so m (upd f k v)) (h.set_it (upd h.it (40 * s + k) v)) := by
  intro s' hs'
  have hm := hM s' hs'
  by_cases e : s' = s
  · subst e
    rw [shF_at] at hm ⊢
    rcases hm with ⟨m1, m2⟩ | ⟨m1, m2, m3, m4, m5, m6⟩
    · exact absurd m1 hso
    · refine Or.inr ⟨m1, m2, m3, m4, m5, fun i hi => ?_⟩
      have m6 := m6 i hi
      show upd h.it (40 * s' + k) v (40 * s' + i) = upd f k v i
      unfold upd
      by_cases y : i = k
      · rw [if_pos (by omega), if_pos y]
      · rw [if_neg (by omega), if_neg y]
        exact m6
  · rw [shF_ne A e] at hm ⊢
    have hk40 : m ≤ 40 := by
      have := hM s hs
      rw [shF_at] at this
      rcases this with ⟨m1, _⟩ | ⟨_, _, _, _, m5, _⟩
      · exact absurd m1 hso
      · exact m5
    rcases hm with ⟨m1, m2⟩ | ⟨m1, m2, m3, m4, m5, m6⟩
    · exact Or.inl ⟨m1, m2⟩
    · refine Or.inr ⟨m1, m2, m3, m4, m5, fun i hi => ?_⟩
      show upd h.it (40 * s + k) v (40 * s' + i) = _
      unfold upd
      rw [if_neg (by omega)]
      exact m6 i hi
def zerI (f : F32) (s k : Nat) : F32 := fun j => if 40 * s ≤ j ∧ j < 40 * s + k then 0 else f j
theorem zerI_s (f : F32) (s k : Nat) : upd (zerI f s k) (40 * s + k) 0 = zerI f s (k + 1) := by
  funext j
  unfold upd zerI
  by_cases q : j = 40 * s + k
  · rw [if_pos q, if_pos (by omega)]
  · rw [if_neg q]
    by_cases q2 : 40 * s ≤ j ∧ j < 40 * s + k
    · rw [if_pos q2, if_pos (by omega)]
    · rw [if_neg q2, if_neg (by omega)]
theorem zerI_0 (f : F32) (s : Nat) : zerI f s 0 = f := by
  funext j
  unfold zerI
  rw [if_neg (by omega)]
def YQ.shz (h : YQ) (I0 So Sz It : F32) : YQ := (h.tx, h.ts, h.o1, h.o2, h.o3, h.o4, h.o5, h.o6, h.p1, h.p2, h.p3, h.p4, h.p5, h.pw, h.p6, h.p7, h.p8, h.wz, h.ba, h.b1, h.b2, h.b3, h.rk, h.bk, h.sk, h.k1, h.k2, h.k3, h.k4, h.k5, I0, So, Sz, It, h.th)
def hSh (h : YQ) (s : Nat) (a b c : Int32) (f : F32) : YQ := h.shz (upd h.it0 s a) (upd h.so s b) (upd h.sz s c) f
theorem MS.new {A : AS} {h : YQ} (hM : MS A h) {s : Nat} (hs : s < 4) {so : Int32} (hso : ¬ so = -1) {m : Nat} (hm : m ≤ 40) : MS (shF A s so m (fun _ => 0)) (hSh h s 1 so (nI m) (zerI h.it s m)) := by
  intro s' hs'
  by_cases e : s' = s
  · subst e
    rw [shF_at]
    refine Or.inr ⟨hso, if_pos rfl, if_pos rfl, if_pos rfl, hm, fun i hi => ?_⟩
    have hi : i < m := hi
    show zerI h.it s' m (40 * s' + i) = 0
    unfold zerI
    rw [if_pos (by omega)]
  · rw [shF_ne A e]
    rcases hM s' hs' with ⟨m1, m2⟩ | ⟨m1, m2, m3, m4, m5, m6⟩
    · exact Or.inl ⟨m1, (if_neg e).trans m2⟩
    · refine Or.inr ⟨m1, (if_neg e).trans m2, (if_neg e).trans m3, (if_neg e).trans m4, m5, fun i hi => ?_⟩
      show zerI h.it s m (40 * s' + i) = _
      unfold zerI
      rw [if_neg (by omega)]
      exact m6 i hi
theorem MS.gone {A : AS} {h : YQ} (hM : MS A h) {s : Nat} (hs : s < 4) (c : Int32) : MS (shF A s (-1) 0 (fun _ => 0)) (hSh h s 0 (-1) c h.it) := by
  intro s' hs'
  by_cases e : s' = s
  · subst e
    rw [shF_at]
    exact Or.inl ⟨rfl, if_pos rfl⟩
  · rw [shF_ne A e]
    rcases hM s' hs' with ⟨m1, m2⟩ | ⟨m1, m2, m3, m4, m5, m6⟩
    · exact Or.inl ⟨m1, (if_neg e).trans m2⟩
    · exact Or.inr ⟨m1, (if_neg e).trans m2, (if_neg e).trans m3, (if_neg e).trans m4, m5, m6⟩
theorem Ysh.shz (h : YQ) (I0 So Sz It : F32) : Ysh h (h.shz I0 So Sz It) := ⟨rfl, rfl, rfl, rfl, rfl, rfl, rfl, rfl, rfl, rfl⟩
theorem Ysh.hSh (h : YQ) (s : Nat) (a b c : Int32) (f : F32) : Ysh h (hSh h s a b c f) := Ysh.shz h _ _ _ _
def mWi (A : AS) (h : YQ) (f : F32) : XW := (mW A h).set 15 (.inl (0, 160, .inl f))
set_option maxHeartbeats 4000000 in
theorem mWi_e (A : AS) (h : YQ) (f : F32) : mWi A h f = mW A (h.set_it f) := rfl
def mWs (A : AS) (h : YQ) (I0 So Sz It : F32) : XW := ((((mW A h).set 12 (.inl (1, 4, .inl I0))).set 13 (.inl (0, 4, .inl So))).set 14 (.inl (0, 4, .inl Sz))).set 15 (.inl (0, 160, .inl It))
set_option maxHeartbeats 4000000 in
theorem mWs_e (A : AS) (h : YQ) (I0 So Sz It : F32) : mWs A h I0 So Sz It = mW A (h.shz I0 So Sz It) := rfl
section MODEL
variable (E : XEnv) (A : AS) (h : YQ)
set_option maxRecDepth 100000 in
set_option maxHeartbeats 4000000 in
theorem l_X5_sheet (s m : Nat) (hs : s < 4) (hm : m ≤ 40) (so : Int32) (hso : ¬ so < 0) (I0 So Sz : F32) (j : Nat) : ∀ (k : Nat), k + j = m → XAt E RX5 cX5_sheet 5 (some .int) 109 16 (fun r σ' => r = some (.int 1) ∧ σ' = mWs A h I0 So Sz (zerI h.it s m)) 77 [(0, .ref 0), (1, .int (nI s)), (2, .int so), (3, .int (nI m)), (4, .int (nI k))] [] (mWs A h I0 So Sz (zerI h.it s k)) := by
  induction j with
  | zero =>
    intro k hk
    obtain rfl : k = m := by omega
    exact xgo sX5_sheet [77] 60 (xle rfl) ⟨fun _ => ⟨rfl, rfl⟩, fun q => absurd (nI_le (Nat.le_refl _) (by omega)) q⟩
  | succ j IH =>
    intro k hk
    have ih := IH (k + 1) (by omega)
    have ei : (40 : Int32) * nI s + nI k = nI (40 * s + k) := ix40m s k
    refine xgo sX5_sheet [77] 60 (xle rfl) ⟨fun q => absurd q (nI_ge (by omega) (by omega)), fun _ => ⟨fun q => absurd q hso, fun _ => ⟨by rw [ei]; exact vp_in_nI (by omega) (by omega), ?_⟩⟩⟩
    rw [ei, nI_clamp (by omega : 40 * s + k < 2147483648)]
    rw [nI_succ, ← zerI_s] at ih
    exact ih
set_option maxRecDepth 100000 in
set_option maxHeartbeats 4000000 in
theorem c_X5_sheet (hM : MS A h) (s so n : Int32) : XCall E 109 yX5_sheet cX5_sheet 5 (some .int) [.ref 0, .int s, .int so, .int n] (mW A h) (YRs (o_sheet A s so n) h) := by
  have es : f_in so.toInt64 (-1) 2 = f_within so (-1) 2 := f_in_w (a := -1) (by decide +kernel) (by decide +kernel)
  unfold o_sheet
  refine XCall.of (by decide +kernel) (xle rfl) (xgo sX5_sheet [34] 60 (xle rfl) ⟨fun q => ?_, fun q => ⟨fun q2 => ?_, fun q2 => ⟨fun q3 => ?_, fun q3 => ⟨fun q4 => ?_, fun q4 => ?_⟩⟩⟩⟩)
  · rw [if_pos q]
    exact ⟨rfl, h, Ysh.same h, hM, rfl⟩
  · rw [es] at q2
    rw [if_neg q, if_pos q2]
    exact ⟨rfl, h, Ysh.same h, hM, rfl⟩
  · rw [es] at q2
    obtain ⟨y1, y2⟩ := fw_y q2
    have e1 : so = -1 := by
      have a1 := Int32.le_iff_toInt_le.mp y1
      have a2 := Int32.lt_iff_toInt_lt.mp q3
      rw [show ((-1 : Int32)).toInt = -1 by decide +kernel] at a1
      rw [show ((0 : Int32)).toInt = 0 by decide +kernel] at a2
      apply Int32.toInt_inj.mp
      rw [show ((-1 : Int32)).toInt = -1 by decide +kernel]
      omega
    subst e1
    rw [if_neg q, if_neg q2, if_pos rfl]
    obtain ⟨k, hk, rfl⟩ := fs_e q
    have hc : (nI k).toNatClampNeg = k := nI_clamp (by omega)
    rw [hc]
    have fin : YRs (1, shF A k (-1) 0 (fun _ => 0)) h (some (.int 1)) (mWs A h (upd h.it0 k 0) (upd h.so k (-1)) (upd h.sz k n) h.it) := ⟨rfl, hSh h k 0 (-1) n h.it, Ysh.hSh h k _ _ _ _, hM.gone hk n, mWs_e A h _ _ _ _⟩
    show XAt E RX5 cX5_sheet 5 (some .int) 109 16 _ 34 [(0, .ref 0), (1, .int (nI k)), (2, .int (-1)), (3, .int n)] [] (mW A h)
    refine xgo sX5_sheet [] 100 (xle rfl) ⟨fun _ => ⟨fun _ => ⟨vp_in_nI (by omega) (by omega), vp_in_nI (by omega) (by omega), vp_in_nI (by omega) (by omega), fun _ => ?_, fun _ => ⟨fun _ => ?_, fun z => absurd (by decide) z⟩⟩, fun z => absurd (by decide) z⟩, fun z => absurd (by decide) z⟩
    · rw [hc]; exact fin
    · rw [hc]; exact fin
  · rw [es] at q2
    have n1 : ¬ so = -1 := fun z => q3 (by rw [z]; decide)
    rw [if_neg q, if_neg q2, if_neg n1, if_pos q4]
    obtain ⟨k, hk, rfl⟩ := fs_e q
    have hc : (nI k).toNatClampNeg = k := nI_clamp (by omega)
    rw [hc]
    show XAt E RX5 cX5_sheet 5 (some .int) 109 16 _ 34 [(0, .ref 0), (1, .int (nI k)), (2, .int so), (3, .int n)] [] (mW A h)
    refine xgo sX5_sheet [45] 100 (xle rfl) ⟨fun z => absurd z q3, fun _ => ⟨fun q5 => ?_, fun q5 => ?_⟩⟩
    · rw [if_pos q5]
      obtain ⟨m, hm, rfl⟩ := nI_of (Int32.not_lt.mpr q5)
      have hm40 := (nI_leI (b := 40) hm (by omega)).mp q4
      rw [nI_clamp hm]
      have t := l_X5_sheet E A h k m hk hm40 so q3 (upd h.it0 k 1) (upd h.so k so) (upd h.sz k (nI m)) m 0 (Nat.zero_add _)
      rw [zerI_0] at t
      have t := t.mono (Q' := YRs (1, shF A k so m (fun _ => 0)) h) (fun r σ' _ z => ⟨z.1, hSh h k 1 so (nI m) (zerI h.it k m), Ysh.hSh h k _ _ _ _, hM.new hk n1 hm40, z.2.trans (mWs_e A h _ _ _ _)⟩)
      show XAt E RX5 cX5_sheet 5 (some .int) 109 16 _ 45 [(0, .ref 0), (1, .int (nI k)), (2, .int so), (3, .int (nI m))] [] (mW A h)
      refine xgo sX5_sheet [77] 100 (xle rfl) ⟨fun z => absurd z q3, fun _ => ⟨vp_in_nI (by omega) (by omega), vp_in_nI (by omega) (by omega), vp_in_nI (by omega) (by omega), ?_⟩⟩
      rw [hc]
      exact t
    · rw [if_neg q5]
      exact ⟨rfl, h, Ysh.same h, hM, rfl⟩
  · rw [es] at q2
    have n1 : ¬ so = -1 := fun z => q3 (by rw [z]; decide)
    rw [if_neg q, if_neg q2, if_neg n1, if_neg q4]
    exact ⟨rfl, h, Ysh.same h, hM, rfl⟩
end MODEL
theorem hold1 {n : Nat} (hn : n ≤ 40) (i : Int32) : holdF n i 1 = f_within i 0 (nI n - 1) := by
  unfold holdF
  rcases Nat.eq_zero_or_pos n with rfl | hp
  · have e : f_within i 0 (nI 0 - 1) = 0 := by
      rcases f_within_01 i 0 (nI 0 - 1) with q | q
      · exact q
      · obtain ⟨k, hk, _⟩ := fw_e (n := 0) (v := i) (by omega) (by rw [q]; decide)
        omega
    rw [if_pos (by decide), e]
  · have e : f_within 1 0 (nI n) = 1 := fw_of (by decide) (nI_le (a := 1) hp (by omega))
    rw [e, if_neg (by decide)]
    rcases f_within_01 i 0 (nI n - 1) with q | q
    · rw [if_pos q, q]
    · rw [q, if_neg (by decide)]
section MODEL
variable (E : XEnv) (A : AS) (h : YQ)
theorem shF_same (A : AS) (s : Nat) : shF A s (A.sh s).1 (A.sh s).2.1 (A.sh s).2.2 = A := by
  have e : va_up A.sh s ((A.sh s).1, (A.sh s).2.1, (A.sh s).2.2) = A.sh := up_self A.sh s
  show A.set_sh (va_up A.sh s ((A.sh s).1, (A.sh s).2.1, (A.sh s).2.2)) = A
  rw [e]
  rfl
set_option maxRecDepth 100000 in
set_option maxHeartbeats 4000000 in
theorem c_X5_cell (hM : MS A h) (s i v : Int32) : XCall E 110 yX5_cell cX5_cell 4 (some .int) [.ref 0, .int s, .int i, .int v] (mW A h) (YRs (o_cell A s i v) h) := by
  unfold o_cell
  refine XCall.of (by decide +kernel) (xle rfl) (xgo sX5_cell [10] 60 (xle rfl) ⟨fun q => ?_, fun q => ?_⟩)
  · rw [if_neg q]
    obtain ⟨k, hk, rfl⟩ := fs_e q
    have hc : (nI k).toNatClampNeg = k := nI_clamp (by omega)
    rw [hc]
    show XAt E RX5 cX5_cell 4 (some .int) 110 16 _ 10 [(0, .ref 0), (1, .int (nI k)), (2, .int i), (3, .int v)] [] (mW A h)
    rcases hM k hk with ⟨m1, m2⟩ | ⟨m1, m2, m3, m4, m5, m6⟩
    · rw [if_pos m1]
      exact xgo sX5_cell [22] 60 (xle rfl) ⟨vp_in_nI (by omega) (by omega), fun z => absurd (show h.it0 (nI k).toNatClampNeg = 0 by rw [hc]; exact m2) z, fun _ => ⟨rfl, h, Ysh.same h, hM, rfl⟩⟩
    · rw [if_neg m1, hold1 m5]
      have ef : f_in i.toInt64 0 (h.sz (nI k).toNatClampNeg - 1).toInt64 = f_within i 0 (nI (A.sh k).2.1 - 1) := by
        rw [hc, m4]
        exact f_in0 i _ rfl
      refine xgo sX5_cell [43] 60 (xle rfl) ⟨vp_in_nI (by omega) (by omega), fun _ => ⟨vp_in_nI (by omega) (by omega), fun z => ?_, fun z => ?_⟩, fun z => absurd (show h.it0 (nI k).toNatClampNeg = 0 from z) (by rw [hc, m2]; decide)⟩
      · rw [ef] at z
        rw [if_neg z]
        obtain ⟨p, hp, rfl⟩ := fw_e (by omega) z
        have ei : (40 : Int32) * nI k + nI p = nI (40 * k + p) := ix40m k p
        have hcp : (nI p).toNatClampNeg = p := nI_clamp (by omega)
        have hci : (nI (40 * k + p)).toNatClampNeg = 40 * k + p := nI_clamp (by omega)
        rw [hcp]
        have fin : ∀ w, w = putF (A.sh k).1 v → YRs (1, shF A k (A.sh k).1 (A.sh k).2.1 (upd (A.sh k).2.2 p (putF (A.sh k).1 v))) h (some (.int 1)) (mWi A h (upd h.it (40 * k + p) w)) := by
          intro w hw
          rw [hw]
          have hM' : MS (shF A k (A.sh k).1 (A.sh k).2.1 (A.sh k).2.2) h := by rw [shF_same]; exact hM
          exact ⟨rfl, _, Ysh.it h _, hM'.put hk m1 hp (putF (A.sh k).1 v), mWi_e A h _⟩
        show XAt E RX5 cX5_cell 4 (some .int) 110 16 _ 43 [(0, .ref 0), (1, .int (nI k)), (2, .int (nI p)), (3, .int v)] [] (mW A h)
        refine xgo sX5_cell [] 60 (xle rfl) ⟨vp_in_nI (by omega) (by omega), fun y => ⟨vp_in_nI (by omega) (by omega), fun y2 => ⟨by rw [ei]; exact vp_in_nI (by omega) (by omega), ?_⟩, fun y2 => ⟨by rw [ei]; exact vp_in_nI (by omega) (by omega), ?_⟩⟩, fun y => ⟨by rw [ei]; exact vp_in_nI (by omega) (by omega), ?_⟩⟩
        · have y : ¬ h.so (nI k).toNatClampNeg = 0 := y
          have y2 : ¬ h.so (nI k).toNatClampNeg = 1 := y2
          rw [hc, m3] at y y2
          rw [ei, hci]
          exact fin v (by rw [putF, if_neg y, if_neg y2])
        · have y : ¬ h.so (nI k).toNatClampNeg = 0 := y
          have y2 : h.so (nI k).toNatClampNeg = 1 := y2
          rw [hc, m3] at y y2
          rw [ei, hci]
          exact fin _ (by rw [putF, if_neg y, if_pos y2])
        · have y : h.so (nI k).toNatClampNeg = 0 := y
          rw [hc, m3] at y
          rw [ei, hci]
          exact fin _ (by rw [putF, if_pos y])
      · rw [ef] at z
        rw [if_pos z]
        exact ⟨rfl, h, Ysh.same h, hM, rfl⟩
  · rw [if_pos q]
    exact ⟨rfl, h, Ysh.same h, hM, rfl⟩
end MODEL
