-- ===== what stays of the reference's own; run, down, worst, drawn =====
def Yk (h h' : YQ) : Prop := (h'.tx = h.tx ∧ h'.ts = h.ts ∧ h'.it0 = h.it0 ∧ h'.so = h.so ∧ h'.sz = h.sz ∧ h'.it = h.it) ∧ h'.rk = h.rk ∧ h'.bk = h.bk ∧ h'.sk = h.sk ∧ h'.k1 = h.k1 ∧ h'.k2 = h.k2 ∧ h'.k3 = h.k3 ∧ h'.k4 = h.k4 ∧ h'.k5 = h.k5
theorem Yk.same (h : YQ) : Yk h h := ⟨⟨rfl, rfl, rfl, rfl, rfl, rfl⟩, rfl, rfl, rfl, rfl, rfl, rfl, rfl, rfl⟩
theorem Yk.rd (h : YQ) (x : RQ) : Yk h (h.rd x) := ⟨⟨rfl, rfl, rfl, rfl, rfl, rfl⟩, rfl, rfl, rfl, rfl, rfl, rfl, rfl, rfl⟩
theorem Yk.wzrd (h : YQ) (w : F32) (x : RQ) : Yk h ((h.set_wz w).rd x) := ⟨⟨rfl, rfl, rfl, rfl, rfl, rfl⟩, rfl, rfl, rfl, rfl, rfl, rfl, rfl, rfl⟩
theorem Yk.trans {a b c : YQ} (p : Yk a b) (q : Yk b c) : Yk a c := by
  obtain ⟨⟨p1, p2, p3, p4, p5, p6⟩, p7, p8, p9, p10, p11, p12, p13, p14⟩ := p
  obtain ⟨⟨q1, q2, q3, q4, q5, q6⟩, q7, q8, q9, q10, q11, q12, q13, q14⟩ := q
  exact ⟨⟨q1.trans p1, q2.trans p2, q3.trans p3, q4.trans p4, q5.trans p5, q6.trans p6⟩, q7.trans p7, q8.trans p8, q9.trans p9, q10.trans p10, q11.trans p11, q12.trans p12, q13.trans p13, q14.trans p14⟩
def YRk (p : Int32 × AS) (h : YQ) : XQ := fun r σ' => r = some (.int p.1) ∧ ∃ h', Yk h h' ∧ σ' = mW p.2 h'
def YRl (p : Int64 × AS) (h : YQ) : XQ := fun r σ' => r = some (.long p.1) ∧ ∃ h', Yk h h' ∧ σ' = mW p.2 h'
theorem f_in10 (v : Int32) : f_in v.toInt64 10 19 = f_isPart (v - 10) := by
  rw [f_in_w (a := 10) (b := 19) (by decide +kernel) (by decide +kernel)]
  rcases f_within_01 v 10 19 with e | e <;> rcases f_within_01 (v - 10) 0 9 with e2 | e2
  · rw [e]; exact e2.symm
  · exfalso
    obtain ⟨k, hk, q⟩ := fp_e (v := v - 10) (show ¬ f_within (v - 10) 0 9 = 0 by rw [e2]; decide)
    have hv : v = nI (k + 10) := by
      rw [← nI_add, ← q]
      exact (Int32.sub_add_cancel v 10).symm
    have e1 : f_within (nI (k + 10)) 10 19 = 1 := fw_of (nI_le (a := 10) (by omega) (by omega)) (nI_le (b := 19) (by omega) (by omega))
    rw [hv, e1] at e
    exact absurd e (by decide)
  · exfalso
    obtain ⟨q1, q2⟩ := fw_y (v := v) (a := 10) (b := 19) (by rw [e]; decide)
    obtain ⟨j, hj, rfl⟩ := nI_of (Int32.not_lt.mpr (Int32.le_trans (show (0 : Int32) ≤ 10 by decide) q1))
    have h1 := (nI_leI (a := 10) (by omega) hj).mp q1
    have h2 := (nI_leI (b := 19) hj (by omega)).mp q2
    have e3 : nI j - 10 = nI (j - 10) := pk_sub h1
    have e1 : f_within (nI (j - 10)) 0 9 = 1 := fw_of (nI_le (a := 0) (by omega) (by omega)) (nI_le (b := 9) (by omega) (by omega))
    rw [e3, e1] at e2
    exact absurd e2 (by decide)
  · rw [e]; exact e2.symm
section MODEL
variable (E : XEnv) (A : AS) (h : YQ)
set_option maxRecDepth 100000 in
set_option maxHeartbeats 4000000 in
theorem c_X5_run (hs : SaysOk E A (tvA A A.ru) h.tx h.ts) (hR : RI A.S) (n what : Int32) : XCall E 110 yX5_run cX5_run 4 (some .int) [.ref 0, .int n, .int what] (mW A h) (YRk (o_run A n what) h) := by
  have en : f_in n.toInt64 0 40 = f_within n 0 40 := f_in0 n 40 (by decide +kernel)
  have ew : f_in what.toInt64 0 2 = f_within what 0 2 := f_in0 what 2 (by decide +kernel)
  have bad : (f_within n 0 40 = 0 ∨ (f_within what 0 2 = 0 ∧ f_isPart (what - 10) = 0)) → o_run A n what = (-2, A) := by
    intro h
    unfold o_run
    by_cases h1 : f_within n 0 40 = 0
    · rw [if_pos h1]
    · rw [if_neg h1, if_pos (h.resolve_left h1)]
  have go : ¬ f_within n 0 40 = 0 → (f_within what 0 2 = 0 → ¬ f_isPart (what - 10) = 0) → XAt E RX5 cX5_run 4 (some .int) 110 16 (YRk (o_run A n what) h) 41 [(0, .ref 0), (1, .int n), (2, .int what)] [] (mW A h) := by
    intro h1 h2
    have eo : o_run A n what = (runF (daysF (tvA A A.ru) n.toNatClampNeg A.S) what, A) := by
      unfold o_run
      rw [if_neg h1, if_neg (fun z => h2 z.1 z.2)]
    rw [eo]
    obtain ⟨m, hm, rfl⟩ := fw_e (n := 41) (by omega) h1
    have hmc : (nI m).toNatClampNeg = m := nI_clamp (by omega)
    rw [hmc]
    have hRd : RI (daysF (tvA A A.ru) m A.S) := RI_days _ m hR
    have fin : ∀ (v : Int32) (h2 : YQ), v = runF (daysF (tvA A A.ru) m A.S) what → h2.wz = asideF A.S h.wz → Yk h h2 → XAt E RX5 cX5_run 4 (some .int) 110 16 (YRk (runF (daysF (tvA A A.ru) m A.S) what, A) h) 95 [(0, .ref 0), (1, .int (nI m)), (2, .int what)] [.int v] (mW (A.set_S (daysF (tvA A A.ru) m A.S)) h2) := by
      intro v h2 hv hwz hk
      refine xgo sX5_run [] 100 (xle rfl) (XIn.same (xle rfl) (c_X5_laysBack E A h2 A.S (daysF (tvA A A.ru) m A.S) h.wz hwz (daysF_n _ m A.S)) (fun r σ' _ q => ?_))
      obtain ⟨rfl, rfl⟩ := q
      exact ⟨by rw [hv], h2, hk, rfl⟩
    refine xgo sX5_run [95] 100 (xle rfl) (XIn.same (xle rfl) (c_X5_laysAside E A h) (fun r σ' _ q => ?_))
    obtain ⟨rfl, rfl⟩ := q
    refine XIn.same (xle rfl) (c_X5_sails E A hs m (by omega) A.S (h.set_wz (asideF A.S h.wz)) rfl rfl hR) (fun r σ' _ q => ?_)
    obtain ⟨rfl, x, rfl⟩ := q
    have hk := Yk.wzrd h (asideF A.S h.wz) x
    have hwz : ((h.set_wz (asideF A.S h.wz)).rd x).wz = asideF A.S h.wz := rfl
    obtain ⟨h3, e3⟩ : ∃ y, y = (h.set_wz (asideF A.S h.wz)).rd x := ⟨_, rfl⟩
    rw [← e3] at hk hwz ⊢
    refine ⟨fun n0 => ⟨fun n1 => ⟨fun n2 => ?_, fun q => ?_⟩, fun q => ?_⟩, fun q => ?_⟩
    · have hp : ¬ f_isPart (what - 10) = 0 := by
        refine h2 ?_
        by_cases h3 : f_within what 0 2 = 0
        · exact h3
        · obtain ⟨k, hk, hk2⟩ := fw_e (n := 3) (by omega) h3
          rcases (by omega : k = 0 ∨ k = 1 ∨ k = 2) with rfl | rfl | rfl
          · exact absurd hk2 n0
          · exact absurd hk2 n1
          · exact absurd hk2 n2
      obtain ⟨k, hk', hk2⟩ := fp_e hp
      refine ⟨by rw [hk2]; exact vp_in_nI (by omega) (by omega), fin _ h3 ?_ hwz hk⟩
      unfold runF
      rw [if_neg n0, if_neg n1, if_neg n2]
      rfl
    · refine XIn.same (xle rfl) (c_X5_leaksAll E (A.set_S (daysF (tvA A A.ru) m A.S)) h3 hRd) (fun r σ' _ z => ?_)
      obtain ⟨rfl, rfl⟩ := z
      refine fin _ h3 ?_ hwz hk
      unfold runF
      rw [if_neg n0, if_neg n1, if_pos q]
      rfl
    · refine XIn.same (xle rfl) (c_X5_whoIs E (A.set_S (daysF (tvA A A.ru) m A.S)) h3 hRd.1 2) (fun r σ' _ z => ?_)
      obtain ⟨rfl, rfl⟩ := z
      refine fin _ h3 ?_ hwz hk
      unfold runF
      rw [if_neg n0, if_pos q]
      rfl
    · refine fin _ h3 ?_ hwz hk
      unfold runF
      rw [if_pos q]
      rfl
  refine XCall.of (by decide +kernel) (xle rfl) (xgo sX5_run [41] 100 (xle rfl) ⟨fun q => ?_, fun q => ⟨fun q2 => ?_, fun q2 => ⟨fun q3 => ?_, fun q3 => ?_⟩⟩⟩)
  · rw [en] at q
    rw [bad (Or.inl q)]
    exact ⟨rfl, h, Yk.same h, rfl⟩
  · rw [en] at q
    rw [ew] at q2
    exact go q (fun z => absurd z q2)
  · rw [en] at q
    rw [f_in10] at q3
    exact go q (fun _ => q3)
  · rw [en] at q
    rw [ew] at q2
    rw [f_in10] at q3
    rw [bad (Or.inr ⟨q2, q3⟩)]
    exact ⟨rfl, h, Yk.same h, rfl⟩
end MODEL
