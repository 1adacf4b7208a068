-- ===== the reference: tells =====
def MS (A : AS) (h : YQ) : Prop := ∀ s, s < 4 → ((A.sh s).1 = -1 ∧ h.it0 s = 0) ∨ (¬ (A.sh s).1 = -1 ∧ h.it0 s = 1 ∧ h.so s = (A.sh s).1 ∧ h.sz s = nI (A.sh s).2.1 ∧ (A.sh s).2.1 ≤ 40 ∧ ∀ i, i < (A.sh s).2.1 → h.it (40 * s + i) = (A.sh s).2.2 i)
def wLs (w L : Nat) : Prop := (w = 6 ∧ L = 5) ∨ (w = 4 ∧ L = 9) ∨ (w = 5 ∧ L = 99) ∨ (w = 1 ∧ L = 99)
theorem lay_lay {w L : Nat} (hw : wLs w L) (S : SH) (k : Nat) (a b : Int32) : laySF (laySF S w k a) w k b = laySF S w k b := by
  rcases hw with ⟨rfl, _⟩ | ⟨rfl, _⟩ | ⟨rfl, _⟩ | ⟨rfl, _⟩
  · show S.setKi (upd (upd S.ki k a) k b) = S.setKi (upd S.ki k b)
    rw [upd_upd]
  · show S.setNu (upd (upd S.nu k a) k b) = S.setNu (upd S.nu k b)
    rw [upd_upd]
  · show S.setSk (upd (upd S.sk k a) k b) = S.setSk (upd S.sk k b)
    rw [upd_upd]
  · rfl
theorem RI_lay {w L : Nat} (hw : wLs w L) {S : SH} (hR : RI S) (k : Nat) {v : Nat} (hv : v ≤ L) : RI (laySF S w k (nI v)) := by
  rcases hw with ⟨rfl, rfl⟩ | ⟨rfl, rfl⟩ | ⟨rfl, rfl⟩ | ⟨rfl, rfl⟩
  · exact hR.ki (nI_le (a := 0) (by omega) (by omega)) (nI_le (b := 5) hv (by omega))
  · exact hR.nu (nI_le (a := 0) (by omega) (by omega)) (nI_le (b := 9) hv (by omega))
  · exact hR.sk (nI_le (a := 0) (by omega) (by omega)) (nI_le (b := 99) hv (by omega))
  · exact hR.se (nI_le (a := 0) (by omega) (by omega)) (nI_le (b := 99) hv (by omega))
theorem val_lay {w L : Nat} (hw : wLs w L) {tv : TV} {S : SH} (hR : RI S) {k : Nat} (hk : k < S.n) : ∃ b, toldF tv S (nI k) (nI w) = nI b ∧ laySF S w k (nI b) = S := by
  rcases hw with ⟨rfl, rfl⟩ | ⟨rfl, rfl⟩ | ⟨rfl, rfl⟩ | ⟨rfl, rfl⟩
  · obtain ⟨b, _, e⟩ := i32_of (N := 5) (by omega) (hR.2.2.2.2 k hk).2.2.1.1 (hR.2.2.2.2 k hk).2.2.1.2
    refine ⟨b, ?_, ?_⟩
    · rw [told_one (by omega) (by omega) hk hR.1, ← e]; rfl
    · show S.setKi (upd S.ki k (nI b)) = S
      rw [← e, upd_same]; rfl
  · obtain ⟨b, _, e⟩ := i32_of (N := 9) (by omega) (hR.2.2.2.2 k hk).1.1 (hR.2.2.2.2 k hk).1.2
    refine ⟨b, ?_, ?_⟩
    · rw [told_one (by omega) (by omega) hk hR.1, ← e]; rfl
    · show S.setNu (upd S.nu k (nI b)) = S
      rw [← e, upd_same]; rfl
  · obtain ⟨b, _, e⟩ := i32_of (N := 99) (by omega) (hR.2.2.2.2 k hk).2.1.1 (hR.2.2.2.2 k hk).2.1.2
    refine ⟨b, ?_, ?_⟩
    · rw [told_one (by omega) (by omega) hk hR.1, ← e]; rfl
    · show S.setSk (upd S.sk k (nI b)) = S
      rw [← e, upd_same]; rfl
  · obtain ⟨b, _, e⟩ := i32_of (N := 99) (by omega) hR.2.1.1 hR.2.1.2
    refine ⟨b, ?_, ?_⟩
    · rw [told_low (by omega), ← e]; rfl
    · show S.setSe (nI b) = S
      rw [← e]; rfl
section MODEL
variable (E : XEnv) (A : AS) (h : YQ)
set_option maxRecDepth 100000 in
set_option maxHeartbeats 4000000 in
theorem l_X5_t124 (hs : SaysOk E A (tvA A A.ru) h.tx h.ts) (hR : RI A.S) {s : Nat} (hs4 : s < 4) (N : Nat) (hN : N ≤ 40) (hsz : h.sz s = nI N) (f : F32) (hit : ∀ i, i < N → h.it (40 * s + i) = f i) {one : Nat} (h1 : one < A.S.n) {w L : Nat} (hw : wLs w L) (what : Int32) (fo : Nat → Int32) (hfo : ∀ v, fo v = foF (tvA A A.ru) f N 0 (laySF A.S w one (nI v))) : XAt E RX5 cX5_tells 11 (some .int) 110 16 (YRk (tlR what (tlF fo (L + 1) 0 0 (-1)), A) h) 124 [(0, .ref 0), (1, .int (nI s)), (2, .int (nI one)), (3, .int what)] [.int (nI w)] (mW A h) := by
  have h5 := hR.1
  obtain ⟨b, eb, ebs⟩ := val_lay (tv := tvA A A.ru) hw hR h1
  have hl : ∀ (x v : Nat) (h2 : YQ), XCall E 10 yX5_lays cX5_lays 4 none [.ref 0, .int (nI w), .int (nI one), .int (nI v)] (mW (A.set_S (laySF A.S w one (nI x))) h2) (fun r σ' => r = none ∧ σ' = mW (A.set_S (laySF A.S w one (nI v))) h2) := by
    intro x v h2
    have c := c_X5_lays E (A.set_S (laySF A.S w one (nI x))) h2 w one (nI v) (by rcases hw with z | z | z | z <;> omega) (fun z => by rcases hw with y | y | y | y <;> omega) (fun z => by omega)
    refine c.mono (fun r σ' _ q => ⟨q.1, q.2.trans ?_⟩)
    show mW (A.set_S (laySF (laySF A.S w one (nI x)) w one (nI v))) h2 = _
    rw [lay_lay hw]
  have hf : ∀ (v : Nat) (h2 : YQ), v ≤ L → Yk h h2 → XCall E 106 yX5_firstOther cX5_firstOther 4 (some .int) [.ref 0, .int (nI s)] (mW (A.set_S (laySF A.S w one (nI v))) h2) (fun r σ' => r = some (.int (fo v)) ∧ ∃ h', Yk h2 h' ∧ σ' = mW (A.set_S (laySF A.S w one (nI v))) h') := by
    intro v h2 hv hy
    rw [hfo v]
    exact c_X5_firstOther E A h2 (by rw [hy.1.1, hy.1.2.1]; exact hs) (laySF A.S w one (nI v)) (RI_lay hw hR one hv) hs4 N hN (by rw [hy.1.2.2.2.2.1]; exact hsz) f (fun i hi => by rw [hy.1.2.2.2.2.2]; exact hit i hi)
  have hb : A.set_S (laySF A.S w one (nI b)) = A := by rw [ebs]; rfl
  have hL : L < 100 := by rcases hw with z | z | z | z <;> omega
  have t189 : ∀ (h2 : YQ), Yk h h2 → XAt E RX5 cX5_tells 11 (some .int) 110 16 (YRk (tlR what (tlF fo (L + 1) 0 0 (-1)), A) h) 189 [(0, .ref 0), (1, .int (nI s)), (2, .int (nI one)), (3, .int what), (4, .int (nI w)), (5, .int (nI b))] [.int (nI L)] (mW A h2) := by
    intro h2 hy
    have t := l_X5_tells E A h (fun x => A.set_S (laySF A.S w one (nI x))) s one w b L what fo hl hf hb hL (L + 1) 0 0 (-1) (nI L) b h2 (Nat.le_refl _) (pk_m1 L).symm hy
    have t : XAt E RX5 cX5_tells 11 (some .int) 110 16 (YRk (tlR what (tlF fo (L + 1) 0 0 (-1)), A) h) 204 [(0, .ref 0), (1, .int (nI s)), (2, .int (nI one)), (3, .int what), (4, .int (nI w)), (5, .int (nI b)), (6, .int (nI L)), (7, .int 0), (8, .int 0), (9, .int (-1)), (10, .int (nI L))] [] (mW (A.set_S (laySF A.S w one (nI b))) h2) := t
    rw [hb] at t
    exact xgo sX5_tells [204] 100 (xle rfl) t
  have n7 : ¬ nI w = 7 := fun z => by
    have := (nI_eq (a := w) (b := 7) (by rcases hw with y | y | y | y <;> omega) (by omega)).mp z
    rcases hw with y | y | y | y <;> omega
  refine xgo sX5_tells [189] 100 (xle rfl) ⟨fun _ => XIn.same (xle rfl) (c_X5_told E A h hs hR (nI one) (nI w)) (fun r σ' _ z => ?_), fun q => absurd q n7⟩
  obtain ⟨rfl, h2, hy, rfl⟩ := z
  unfold o_told
  rw [eb]
  refine ⟨fun _ => ⟨fun n6 => ⟨fun n4 => ?_, fun e4 => ?_⟩, fun e6 => ?_⟩, fun q => absurd q n7⟩
  · have hLe : L = 99 := by
      rcases hw with ⟨y, _⟩ | ⟨y, _⟩ | ⟨_, y⟩ | ⟨_, y⟩
      · exact absurd (by rw [y]; rfl) n6
      · exact absurd (by rw [y]; rfl) n4
      · exact y
      · exact y
    have t := t189 h2 hy
    rw [hLe] at t ⊢
    exact t
  · have hLe : L = 9 := by
      have e4 : w = 4 := (nI_eq (a := w) (b := 4) (by rcases hw with y | y | y | y <;> omega) (by omega)).mp e4
      rcases hw with y | y | y | y <;> omega
    have t := t189 h2 hy
    rw [hLe] at t ⊢
    exact t
  · have hLe : L = 5 := by
      have e6 : w = 6 := (nI_eq (a := w) (b := 6) (by rcases hw with y | y | y | y <;> omega) (by omega)).mp e6
      rcases hw with y | y | y | y <;> omega
    have t := t189 h2 hy
    rw [hLe] at t ⊢
    exact t
set_option maxRecDepth 100000 in
set_option maxHeartbeats 4000000 in
theorem l_X5_t124r (hs : ∀ r, r < A.tc → SaysOk E (A.set_ru r) (tvA A r) h.tx h.ts) (hR : RI A.S) (hru : A.ru < A.tc) (htc : A.tc ≤ 6) {s : Nat} (hs4 : s < 4) (N : Nat) (hN : N ≤ 40) (hsz : h.sz s = nI N) (f : F32) (hit : ∀ i, i < N → h.it (40 * s + i) = f i) (one : Nat) (what : Int32) (fo : Nat → Int32) (hfo : ∀ v, fo v = foF (tvA A v) f N 0 A.S) : XAt E RX5 cX5_tells 11 (some .int) 110 16 (YRk (tlR what (tlF fo A.tc 0 0 (-1)), A) h) 124 [(0, .ref 0), (1, .int (nI s)), (2, .int (nI one)), (3, .int what)] [.int 7] (mW A h) := by
  obtain ⟨L, eL⟩ : ∃ L, A.tc = L + 1 := ⟨A.tc - 1, by omega⟩
  have hl : ∀ (x v : Nat) (h2 : YQ), XCall E 10 yX5_lays cX5_lays 4 none [.ref 0, .int (nI 7), .int (nI one), .int (nI v)] (mW (A.set_ru x) h2) (fun r σ' => r = none ∧ σ' = mW (A.set_ru v) h2) := fun x v h2 => c_X5_lays7 E (A.set_ru x) h2 (nI one) v
  have hf : ∀ (v : Nat) (h2 : YQ), v ≤ L → Yk h h2 → XCall E 106 yX5_firstOther cX5_firstOther 4 (some .int) [.ref 0, .int (nI s)] (mW (A.set_ru v) h2) (fun r σ' => r = some (.int (fo v)) ∧ ∃ h', Yk h2 h' ∧ σ' = mW (A.set_ru v) h') := by
    intro v h2 hv hy
    rw [hfo v]
    exact c_X5_firstOther E (A.set_ru v) h2 (by rw [hy.1.1, hy.1.2.1]; exact hs v (by omega)) A.S hR hs4 N hN (by rw [hy.1.2.2.2.2.1]; exact hsz) f (fun i hi => by rw [hy.1.2.2.2.2.2]; exact hit i hi)
  have t := l_X5_tells E A h (fun x => A.set_ru x) s one 7 A.ru L what fo hl hf rfl (by omega) (L + 1) 0 0 (-1) (nI L) A.ru h (Nat.le_refl _) (pk_m1 L).symm (Yk.same h)
  rw [← eL] at t
  have eq : nI L = nI A.tc - 1 := by rw [eL, nI_pred]
  rw [eq] at t
  exact xgo sX5_tells [204] 100 (xle rfl) ⟨fun q => absurd rfl q, fun _ => ⟨fun q => absurd rfl q, fun _ => t⟩⟩
set_option maxRecDepth 100000 in
set_option maxHeartbeats 4000000 in
theorem c_X5_tells (hs : ∀ r, r < A.tc → SaysOk E (A.set_ru r) (tvA A r) h.tx h.ts) (hR : RI A.S) (hru : A.ru < A.tc) (htc : A.tc ≤ 6) (hM : MS A h) (s one what : Int32) : XCall E 110 yX5_tells cX5_tells 11 (some .int) [.ref 0, .int s, .int one, .int what] (mW A h) (YRk (o_tells A s one what) h) := by
  have hn := hR.1
  have hs0 : SaysOk E A (tvA A A.ru) h.tx h.ts := hs A.ru hru
  have ew : f_in what.toInt64 0 8 = f_within what 0 8 := f_in0 what 8 (by decide +kernel)
  unfold o_tells
  refine XCall.of (by decide +kernel) (xle rfl) (xgo sX5_tells [30] 100 (xle rfl) ⟨fun q => ?_, fun q => ?_⟩)
  · rw [if_pos q]
    exact ⟨rfl, h, Yk.same h, rfl⟩
  · rw [if_neg q]
    obtain ⟨k, hk, rfl⟩ := fs_e q
    rw [nI_clamp (by omega : k < 2147483648)]
    refine XIn.same (xle rfl) (c_X5_isOne E A h one) (fun r σ' _ z => ?_)
    obtain ⟨rfl, rfl⟩ := z
    refine ⟨fun q2 => ?_, fun q2 => ⟨fun q3 => ?_, fun q3 => ?_⟩⟩
    · rw [if_pos q2]
      exact ⟨rfl, h, Yk.same h, rfl⟩
    · rw [ew] at q3
      rw [if_neg q2, if_neg q3]
      obtain ⟨i, hi, rfl⟩ := fw_e (by omega) q2
      rw [nI_clamp (by omega : i < 2147483648)]
      have hc : (nI k).toNatClampNeg = k := nI_clamp (by omega)
      show XAt E RX5 cX5_tells 11 (some .int) 110 16 _ 30 [(0, .ref 0), (1, .int (nI k)), (2, .int (nI i)), (3, .int what)] [] (mW A h)
      rcases hM k hk with ⟨m1, m2⟩ | ⟨m1, m2, _, m4, m5, m6⟩
      · rw [if_pos m1]
        refine xgo sX5_tells [56] 100 (xle rfl) ⟨vp_in_nI (by omega) (by omega), fun z => absurd (by rw [hc]; exact m2) z, fun _ => ⟨rfl, h, Yk.same h, rfl⟩⟩
      · rw [if_neg m1]
        refine xgo sX5_tells [56] 100 (xle rfl) ⟨vp_in_nI (by omega) (by omega), fun _ => ⟨vp_in_nI (by omega) (by omega), fun z => ?_, fun z => ?_⟩, fun z => absurd (show h.it0 (nI k).toNatClampNeg = 0 from z) (by rw [hc, m2]; decide)⟩
        · have z : h.sz (nI k).toNatClampNeg ≤ 20 := z
          rw [hc, m4] at z
          rw [if_pos z]
          have f0 : ∀ (v : Nat), othrF A k i 0 v = foF (tvA A A.ru) (A.sh k).2.2 (A.sh k).2.1 0 A.S := fun v => rfl
          have f8 : ∀ (v : Nat), othrF A k i 8 v = foF (tvA A A.ru) (A.sh k).2.2 (A.sh k).2.1 0 (A.S.setSo (upd A.S.so v 99)) := fun v => rfl
          have f1 : ∀ (v : Nat), othrF A k i 1 v = foF (tvA A A.ru) (A.sh k).2.2 (A.sh k).2.1 0 (laySF A.S 6 i (nI v)) := fun v => rfl
          have f2 : ∀ (v : Nat), othrF A k i 2 v = foF (tvA A A.ru) (A.sh k).2.2 (A.sh k).2.1 0 (laySF A.S 4 i (nI v)) := fun v => rfl
          have f3 : ∀ (v : Nat), othrF A k i 3 v = foF (tvA A A.ru) (A.sh k).2.2 (A.sh k).2.1 0 (laySF A.S 5 i (nI v)) := fun v => rfl
          have f5 : ∀ (v : Nat), othrF A k i 5 v = foF (tvA A A.ru) (A.sh k).2.2 (A.sh k).2.1 0 (laySF A.S 1 i (nI v)) := fun v => rfl
          have f7 : ∀ (v : Nat), othrF A k i 7 v = foF (tvA A v) (A.sh k).2.2 (A.sh k).2.1 0 A.S := fun v => rfl
          obtain ⟨o0, e0⟩ : ∃ y, y = othrF A k i 0 := ⟨_, rfl⟩
          obtain ⟨o8, e8⟩ : ∃ y, y = othrF A k i 8 := ⟨_, rfl⟩
          obtain ⟨o1, e1⟩ : ∃ y, y = othrF A k i 1 := ⟨_, rfl⟩
          obtain ⟨o2, e2⟩ : ∃ y, y = othrF A k i 2 := ⟨_, rfl⟩
          obtain ⟨o3, e3⟩ : ∃ y, y = othrF A k i 3 := ⟨_, rfl⟩
          obtain ⟨o5, e5⟩ : ∃ y, y = othrF A k i 5 := ⟨_, rfl⟩
          obtain ⟨o7, e7⟩ : ∃ y, y = othrF A k i 7 := ⟨_, rfl⟩
          rw [← e0] at f0
          rw [← e8] at f8
          rw [← e1] at f1
          rw [← e2] at f2
          rw [← e3] at f3
          rw [← e5] at f5
          rw [← e7] at f7
          rw [← e0, ← e1, ← e2, ← e3, ← e5, ← e7, ← e8]
          have T := fun {w L : Nat} (hw : wLs w L) (what : Int32) (fo : Nat → Int32) (hfo) => l_X5_t124 E A h hs0 hR hk (A.sh k).2.1 m5 m4 (A.sh k).2.2 m6 hi hw what fo hfo
          show XAt E RX5 cX5_tells 11 (some .int) 110 16 _ 56 [(0, .ref 0), (1, .int (nI k)), (2, .int (nI i)), (3, .int what)] [] (mW A h)
          refine xgo sX5_tells [66, 84] 100 (xle rfl) ⟨fun y => ?_, fun n0 => ⟨fun n8 => ?_, fun y => ?_⟩⟩
          · rw [if_pos y]
            refine xgo sX5_tells [] 100 (xle rfl) ⟨fun z => absurd y z, fun _ => XIn.same (xle rfl) (c_X5_firstOther E A h hs0 A.S hR hk (A.sh k).2.1 m5 m4 (A.sh k).2.2 m6) (fun r σ' _ z => ?_)⟩
            obtain ⟨rfl, h2, hy, rfl⟩ := z
            exact ⟨by rw [f0], h2, hy, rfl⟩
          · rw [if_neg n0]
            refine xgo sX5_tells [124] 100 (xle rfl) ⟨fun n1 => ⟨fun n2 => ⟨fun g5 => ⟨fun g7 => ?_, fun l7 => ?_⟩, fun l5 => ?_⟩, fun y => ?_⟩, fun y => ?_⟩
            · have e7' : what = 7 := by
                obtain ⟨u, hu, rfl⟩ := fw_e (n := 9) (by omega) q3
                have := (nI_leI (a := 7) (b := u) (by omega) (by omega)).mp g7
                have q8 : u ≠ 8 := fun z => n8 (by rw [z]; rfl)
                rw [show u = 7 by omega]; rfl
              subst e7'
              have t := l_X5_t124r E A h hs hR hru htc hk (A.sh k).2.1 m5 m4 (A.sh k).2.2 m6 i 7 o7 f7
              rw [show tlR 7 (tlF o7 A.tc 0 0 (-1)) = (tlF o7 A.tc 0 0 (-1)).1 from rfl, tl_1 o7 A.tc (by omega), Int32.zero_or] at t
              exact t
            · obtain ⟨u, hu, rfl⟩ := fw_e (n := 9) (by omega) q3
              have h5 := (nI_leI (a := 5) (b := u) (by omega) (by omega)).mp g5
              have h7 : u < 7 := Nat.lt_of_not_le (fun z => l7 (nI_le (a := 7) z (by omega)))
              rcases (by omega : u = 5 ∨ u = 6) with rfl | rfl
              · have t := T (w := 1) (L := 99) (Or.inr (Or.inr (Or.inr ⟨rfl, rfl⟩))) 5 o5 f5
                rw [show tlR 5 (tlF o5 (99 + 1) 0 0 (-1)) = (tlF o5 (99 + 1) 0 0 (-1)).2.1 from rfl, tl_2 o5, Int32.zero_add] at t
                exact t
              · have t := T (w := 1) (L := 99) (Or.inr (Or.inr (Or.inr ⟨rfl, rfl⟩))) 6 o5 f5
                have e : (tlF o5 (99 + 1) 0 0 (-1)).2.2 = lfF o5 100 0 := by
                  rw [tl_3 o5 _ (by omega)]
                  by_cases y : lfF o5 (99 + 1) 0 = -1
                  · rw [if_pos y]; exact y.symm
                  · rw [if_neg y]
                rw [show tlR 6 (tlF o5 (99 + 1) 0 0 (-1)) = (tlF o5 (99 + 1) 0 0 (-1)).2.2 from rfl, e] at t
                exact t
            · obtain ⟨u, hu, rfl⟩ := fw_e (n := 9) (by omega) q3
              have h5 : u < 5 := Nat.lt_of_not_le (fun z => l5 (nI_le (a := 5) z (by omega)))
              have u0 : u ≠ 0 := fun z => n0 (by rw [z]; rfl)
              have u1 : u ≠ 1 := fun z => n1 (by rw [z]; rfl)
              have u2 : u ≠ 2 := fun z => n2 (by rw [z]; rfl)
              rcases (by omega : u = 3 ∨ u = 4) with rfl | rfl
              · have t := T (w := 5) (L := 99) (Or.inr (Or.inr (Or.inl ⟨rfl, rfl⟩))) 3 o3 f3
                rw [show tlR 3 (tlF o3 (99 + 1) 0 0 (-1)) = (tlF o3 (99 + 1) 0 0 (-1)).2.1 from rfl, tl_2 o3, Int32.zero_add] at t
                exact t
              · have t := T (w := 5) (L := 99) (Or.inr (Or.inr (Or.inl ⟨rfl, rfl⟩))) 4 o3 f3
                have e : (tlF o3 (99 + 1) 0 0 (-1)).2.2 = lfF o3 100 0 := by
                  rw [tl_3 o3 _ (by omega)]
                  by_cases y : lfF o3 (99 + 1) 0 = -1
                  · rw [if_pos y]; exact y.symm
                  · rw [if_neg y]
                rw [show tlR 4 (tlF o3 (99 + 1) 0 0 (-1)) = (tlF o3 (99 + 1) 0 0 (-1)).2.2 from rfl, e] at t
                exact t
            · subst y
              have t := T (w := 4) (L := 9) (Or.inr (Or.inl ⟨rfl, rfl⟩)) 2 o2 f2
              rw [show tlR 2 (tlF o2 (9 + 1) 0 0 (-1)) = (tlF o2 (9 + 1) 0 0 (-1)).1 from rfl, tl_1 o2 _ (by omega), Int32.zero_or] at t
              exact t
            · subst y
              have t := T (w := 6) (L := 5) (Or.inl ⟨rfl, rfl⟩) 1 o1 f1
              rw [show tlR 1 (tlF o1 (5 + 1) 0 0 (-1)) = (tlF o1 (5 + 1) 0 0 (-1)).1 from rfl, tl_1 o1 _ (by omega), Int32.zero_or] at t
              exact t
          · subst y
            refine xgo sX5_tells [] 100 (xle rfl) ⟨fun _ => XIn.same (xle rfl) (c_X5_soundSet E A h hs0 hR hk (A.sh k).2.1 m5 m4 (A.sh k).2.2 m6 o8 f8) (fun r σ' _ z => ?_), fun z => absurd z (by decide)⟩
            obtain ⟨rfl, h2, hy, rfl⟩ := z
            exact ⟨rfl, h2, hy, rfl⟩
        · have z : ¬ h.sz (nI k).toNatClampNeg ≤ 20 := z
          rw [hc, m4] at z
          rw [if_neg z]
          exact ⟨rfl, h, Yk.same h, rfl⟩
    · rw [ew] at q3
      rw [if_neg q2, if_pos q3]
      exact ⟨rfl, h, Yk.same h, rfl⟩
end MODEL
