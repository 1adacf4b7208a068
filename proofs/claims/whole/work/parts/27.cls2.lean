-- ===== the calls, as functions of the state =====
def XR (p : Int32 × AS) : XQ := fun r σ' => r = some (.int p.1) ∧ ∃ g', σ' = gW p.2 g'
def setF (S : SH) (what : Int32) (of : Nat) (v : Int32) : SH := if what = 0 then S.setDy v else if what = 1 then S.setSe v else if what = 2 then S.setWa v else if what = 3 then S.setSo (upd S.so of v) else if what = 4 then S.setNu (upd S.nu of v) else S.setSk (upd S.sk of v)
def o_set (A : AS) (what of v : Int32) : Int32 × AS :=
  if f_within what 0 5 = 0 then (-2, A) else if f_within v 0 (xst 0 what.toNatClampNeg) = 0 then (-2, A)
  else if toldF (tvA A A.ru) A.S of what = -1000 then (-2, A) else (toldF (tvA A A.ru) A.S of what, A.set_S (setF A.S what of.toNatClampNeg v))
def wrF (S : SH) (k n s : Int32) : Int32 × SH :=
  if f_within k 0 5 = 0 then (-2, S) else if f_within n 0 9 = 0 then (-2, S) else if f_within s 0 99 = 0 then (-2, S)
  else if 5 ≤ S.n then (-4, S) else (nI S.n, comeF S k n s)
def o_wright (A : AS) (k n s : Int32) : Int32 × AS := ((wrF A.S k n s).1, A.set_S (wrF A.S k n s).2)
def o_told (A : AS) (of what : Int32) : Int32 × AS := (toldF (tvA A A.ru) A.S of what, A)
def hasF (S : SH) (one : Int32) : Int32 := f_within one 0 (nI S.n - 1)
def o_asks (A : AS) (one part what : Int32) : Int32 × AS :=
  if hasF A.S one = 0 then (-2, A) else if f_isPart part = 0 then (-2, A) else if f_within what 0 1 = 0 then (-2, A)
  else if what = 0 then (makesF (tvA A A.ru) A.S one.toNatClampNeg part.toNatClampNeg, A) else (mendsF (tvA A A.ru) A.S one.toNatClampNeg part.toNatClampNeg, A)
def o_builds (A : AS) (one part : Int32) : Int32 × AS :=
  if hasF A.S one = 0 then (-2, A) else if f_isPart part = 0 then (-2, A) else if A.S.pl one.toNatClampNeg = 0 then
    ((buildF (tvA A A.ru) A.S one.toNatClampNeg part.toNatClampNeg).so part.toNatClampNeg, A.set_S (buildF (tvA A A.ru) A.S one.toNatClampNeg part.toNatClampNeg)) else (-3, A)
def o_bound (A : AS) : Int32 × AS := (whoF (bindF A.S A.S.n) 1 A.S.n, A.set_S (A.S.setPl (bindF A.S A.S.n)))
def o_home (A : AS) : Int32 × AS := if A.S.wa < 100 then (whoF A.S.pl 1 A.S.n, A.set_S (A.S.setPl (mvF A.S.pl 1 0 A.S.n))) else (-3, A)
def o_day (A : AS) : Int32 × AS := if (999 : Int32) ≤ A.S.dy then (-3, A) else if A.S.wa < 100 then ((dayF (tvA A A.ru) A.S).wa, A.set_S (dayF (tvA A A.ru) A.S)) else (-3, A)
def runF (T : SH) (what : Int32) : Int32 := if what = 0 then T.wa else if what = 1 then whoF T.pl 2 T.n else if what = 2 then alF T.se T.so 10 else T.so (what - 10).toNatClampNeg
def o_run (A : AS) (n what : Int32) : Int32 × AS :=
  if f_within n 0 40 = 0 then (-2, A) else if f_within what 0 2 = 0 ∧ f_isPart (what - 10) = 0 then (-2, A) else (runF (daysF (tvA A A.ru) n.toNatClampNeg A.S) what, A)
def dwF (tv : TV) : Nat → Nat → SH → Int32
  | 0, _, _ => -1
  | j + 1, k, S => if S.wa < 100 then dwF tv j (k + 1) (dayF tv S) else nI k
def o_down (A : AS) : Int32 × AS := (dwF (tvA A A.ru) 61 0 A.S, A)
def wsF (S : SH) : Nat → Int32 × Int32
  | 0 => (-1, 0)
  | k + 1 => if (wsF S k).2 < leakF S.se S.so k then (nI k, leakF S.se S.so k) else wsF S k
def o_worst (A : AS) : Int32 × AS := ((wsF A.S 10).1, A)
def o_force (A : AS) (t : Int32) : Int32 × AS := if f_within t 0 (nI A.tc - 1) = 0 then (-2, A) else (nI A.ru, A.set_ru t.toNatClampNeg)
def o_image (A : AS) : Int32 × AS := (nI A.S.n, ((A.set_K A.S).set_kr A.ru).set_ik 1)
def o_back (A : AS) : Int32 × AS := if A.ik = 0 then (-3, A) else (nI A.K.n, (A.set_S A.K).set_ru A.kr)
def o_count (A : AS) (what : Int32) : Int32 × AS :=
  (if what = 0 then nI A.S.n else if what = 1 then 10 - f_bits (whoF A.S.ma (-1) 10) else if what = 2 then f_bits (whoF A.S.pl 1 A.S.n) else if what = 3 then nI A.tc else if what = 4 then nI A.pn else if what = 5 then nI A.ru else -2, A)
section CLS
variable (E : XEnv) (A : AS) (g : GQ)
theorem CI.ru6 {A : AS} (hC : CI A) : A.ru < 6 := Nat.lt_of_lt_of_le hC.2.1 hC.2.2.1
theorem CI.tx {A : AS} (hC : CI A) : TXok (A.tx A.ru) (eT (A.tx A.ru)) := hC.2.2.2.1 _ hC.2.1
set_option maxRecDepth 100000 in
set_option maxHeartbeats 4000000 in
theorem c_X4_set (hC : CI A) (what of v : Int32) : XCall E 22 yX4_set cX4_set 5 (some .int) [.ref 0, .int what, .int of, .int v] (gW A g) (XR (o_set A what of v)) := by
  have e5 : Int32.ofNat 6 - 1 = 5 := by decide +kernel
  unfold o_set
  refine XCall.of (by decide +kernel) (xle rfl) (xgo sX4_set [] 100 (xle rfl) ⟨fun h => ?_, fun h => ?_⟩)
  · rw [e5] at h
    rw [if_pos h]
    exact ⟨rfl, g, rfl⟩
  · rw [e5] at h
    rw [if_neg h]
    obtain ⟨w, hw, rfl⟩ := fw_e (n := 6) (by omega) h
    have hc : (nI w).toNatClampNeg = w := nI_clamp (by omega)
    refine ⟨vp_in_nI hw (by omega), ⟨fun h2 => ?_, fun h2 => ?_⟩⟩
    · rw [if_neg h2]
      refine XIn.same (xle rfl) (c_X4_told E A g hC of (nI w)) (fun r σ' _ h3 => ?_)
      obtain ⟨rfl, g', rfl⟩ := h3
      refine ⟨fun h3 => ?_, fun h3 => ?_⟩
      · rw [if_neg h3]
        have hin : (w = 3 → ∃ k, k < 10 ∧ of = nI k) ∧ (4 ≤ w → ∃ k, k < A.S.n ∧ of = nI k) := by
          refine ⟨fun hw3 => ?_, fun hw4 => ?_⟩
          · subst hw3
            by_cases hp : f_isPart of = 0
            · refine absurd ?_ h3
              unfold toldF
              rw [if_neg (by decide), if_neg (by decide), if_neg (by decide), if_pos (by decide), if_pos hp]
            · exact fp_e hp
          · by_cases hp : f_within of 0 (nI A.S.n - 1) = 0
            · refine absurd ?_ h3
              unfold toldF
              rcases (by omega : w = 4 ∨ w = 5) with rfl | rfl
              · rw [if_neg (by decide), if_neg (by decide), if_neg (by decide), if_neg (by decide), if_pos hp]
              · rw [if_neg (by decide), if_neg (by decide), if_neg (by decide), if_neg (by decide), if_pos hp]
            · exact fw_e (by have := hC.1; omega) hp
        have h5 := hC.1
        refine ⟨fun q => ⟨rfl, g', ?_⟩, fun n0 => ⟨fun q => ⟨rfl, g', ?_⟩, fun n1 => ⟨fun q => ⟨rfl, g', ?_⟩, fun n2 => ⟨fun q => ?_, fun n3 => ⟨fun q => ?_, fun n4 => ?_⟩⟩⟩⟩⟩
        · rw [setF, if_pos q]; rfl
        · rw [setF, if_neg n0, if_pos q]; rfl
        · rw [setF, if_neg n0, if_neg n1, if_pos q]; rfl
        · obtain ⟨k, hk, rfl⟩ := hin.1 ((nI_eq (b := 3) (by omega) (by omega)).mp q)
          refine ⟨vp_in_nI (by omega) (by omega), rfl, g', ?_⟩
          rw [setF, if_neg n0, if_neg n1, if_neg n2, if_pos q]; rfl
        · obtain ⟨k, hk, rfl⟩ := hin.2 (by have := (nI_eq (a := w) (b := 4) (by omega) (by omega)).mp q; omega)
          refine ⟨vp_in_nI (by omega) (by omega), rfl, g', ?_⟩
          rw [setF, if_neg n0, if_neg n1, if_neg n2, if_neg n3, if_pos q]; rfl
        · have hw5 : w = 5 := by
            have q0 : w ≠ 0 := fun z => n0 (by rw [z]; rfl)
            have q1 : w ≠ 1 := fun z => n1 (by rw [z]; rfl)
            have q2 : w ≠ 2 := fun z => n2 (by rw [z]; rfl)
            have q3 : w ≠ 3 := fun z => n3 (by rw [z]; rfl)
            have q4 : w ≠ 4 := fun z => n4 (by rw [z]; rfl)
            omega
          obtain ⟨k, hk, rfl⟩ := hin.2 (by omega)
          refine ⟨vp_in_nI (by omega) (by omega), rfl, g', ?_⟩
          rw [setF, if_neg n0, if_neg n1, if_neg n2, if_neg n3, if_neg n4]; rfl
      · rw [if_pos h3]
        exact ⟨rfl, g', rfl⟩
    · rw [if_pos h2]
      exact ⟨rfl, g, rfl⟩
set_option maxRecDepth 100000 in
set_option maxHeartbeats 4000000 in
theorem c_X4_wright (hC : CI A) (k n s : Int32) : XCall E 20 yX4_wright cX4_wright 4 (some .int) [.ref 0, .int k, .int n, .int s] (gW A g) (XR (o_wright A k n s)) := by
  have hr := hC.ru6
  unfold o_wright wrF
  refine XCall.of (by decide +kernel) (xle rfl) (xgo sX4_wright [] 100 (xle rfl) ⟨fun h => ?_, fun h => ⟨fun h2 => ?_, fun h2 => ⟨fun h3 => ?_, fun h3 => ?_⟩⟩⟩)
  · rw [if_pos h]
    exact ⟨rfl, g, rfl⟩
  · rw [if_neg h, if_pos h2]
    exact ⟨rfl, g, rfl⟩
  · rw [if_neg h, if_neg h2, if_neg h3]
    refine gS0 A g hr (xle rfl) rfl (c_X2_comes E A.S (g.nm 0) (A.tx A.ru) (g.wt A.ru) hC.1 k n s) (fun r σ' h4 => ?_)
    rcases h4 with ⟨q, rfl, rfl⟩ | ⟨q, rfl, rfl⟩
    · rw [if_pos q]
      exact ⟨_, _, _, rfl, rfl, _, rfl⟩
    · rw [if_neg (by omega)]
      exact ⟨_, _, _, rfl, rfl, _, rfl⟩
  · rw [if_neg h, if_neg h2, if_pos h3]
    exact ⟨rfl, g, rfl⟩
set_option maxRecDepth 100000 in
set_option maxHeartbeats 4000000 in
theorem c_X4_asks (hC : CI A) (one part what : Int32) : XCall E 20 yX4_asks cX4_asks 4 (some .int) [.ref 0, .int one, .int part, .int what] (gW A g) (XR (o_asks A one part what)) := by
  have hr := hC.ru6
  have h5 := hC.1
  unfold o_asks hasF
  refine XCall.of (by decide +kernel) (xle rfl) (xgo sX4_asks [] 100 (xle rfl) (gS0 A g hr (xle rfl) rfl (c_X2_has E A.S (g.nm 0) (A.tx A.ru) (g.wt A.ru) one) (fun r σ' h2 => ?_)))
  obtain ⟨rfl, rfl⟩ := h2
  refine ⟨_, _, _, rfl, fun h => ?_, fun h => ⟨fun h2 => ?_, fun h2 => ⟨fun h3 => ?_, fun h3 => ?_⟩⟩⟩
  · rw [if_pos h]
    exact ⟨rfl, _, rfl⟩
  · rw [if_neg h, if_pos h2]
    exact ⟨rfl, _, rfl⟩
  · rw [if_neg h, if_neg h2, if_neg h3]
    obtain ⟨i, hi, rfl⟩ := fw_e (by omega) h
    obtain ⟨k, hk, rfl⟩ := fp_e h2
    rw [nI_clamp (by omega), nI_clamp (by omega)]
    refine ⟨fun h4 => ?_, fun h4 => ?_⟩
    · rw [if_neg h4]
      refine gS0 A _ hr (xle rfl) rfl (c_X2_mends E A.S _ (A.tx A.ru) _ hC.tx h5 i k hi hk) (fun r σ' h6 => ?_)
      obtain ⟨rfl, nm', wt', rfl⟩ := h6
      exact ⟨_, _, _, rfl, rfl, _, rfl⟩
    · rw [if_pos h4]
      refine gS0 A _ hr (xle rfl) rfl (c_X2_makes E A.S _ (A.tx A.ru) _ hC.tx h5 i k hi hk) (fun r σ' h6 => ?_)
      obtain ⟨rfl, nm', wt', rfl⟩ := h6
      exact ⟨_, _, _, rfl, rfl, _, rfl⟩
  · rw [if_neg h, if_neg h2, if_pos h3]
    exact ⟨rfl, _, rfl⟩
end CLS
