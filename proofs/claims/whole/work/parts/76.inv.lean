-- ===== what holds of the state whatever is done =====
def SI (S : SH) : Prop := RI S ∧ DI S
theorem in_upd {f : F32} {n i : Nat} {a b v : Int32} (h : ∀ k, k < n → a ≤ f k ∧ f k ≤ b) (hv : a ≤ v ∧ v ≤ b) : ∀ k, k < n → a ≤ upd f i v k ∧ upd f i v k ≤ b := by
  intro k hk
  unfold upd
  by_cases e : k = i
  · rw [if_pos e]; exact hv
  · rw [if_neg e]; exact h k hk
theorem SI_set {S : SH} (h : SI S) (what : Int32) (of : Nat) (v : Int32) (hw : ¬ f_within what 0 5 = 0) (hv : ¬ f_within v 0 (xst 0 what.toNatClampNeg) = 0) : SI (setF S what of v) := by
  obtain ⟨⟨r1, r2, r3, r4, r5⟩, d⟩ := h
  obtain ⟨k, hk, rfl⟩ := fw_e (n := 6) (by omega) hw
  have hv := fw_y hv
  rcases (by omega : k = 0 ∨ k = 1 ∨ k = 2 ∨ k = 3 ∨ k = 4 ∨ k = 5) with rfl | rfl | rfl | rfl | rfl | rfl
  · rw [show xst 0 (nI 0).toNatClampNeg = 999 by decide +kernel] at hv
    rw [setF, if_pos (by decide +kernel)]
    exact ⟨⟨r1, r2, r3, r4, r5⟩, hv⟩
  · rw [show xst 0 (nI 1).toNatClampNeg = 99 by decide +kernel] at hv
    rw [setF, if_neg (by decide +kernel), if_pos (by decide +kernel)]
    exact ⟨⟨r1, hv, r3, r4, r5⟩, d⟩
  · rw [show xst 0 (nI 2).toNatClampNeg = 100 by decide +kernel] at hv
    rw [setF, if_neg (by decide +kernel), if_neg (by decide +kernel), if_pos (by decide +kernel)]
    exact ⟨⟨r1, r2, r3, hv, r5⟩, d⟩
  · rw [show xst 0 (nI 3).toNatClampNeg = 99 by decide +kernel] at hv
    rw [setF, if_neg (by decide +kernel), if_neg (by decide +kernel), if_neg (by decide +kernel), if_pos (by decide +kernel)]
    exact ⟨⟨r1, r2, in_upd r3 hv, r4, r5⟩, d⟩
  · rw [show xst 0 (nI 4).toNatClampNeg = 9 by decide +kernel] at hv
    rw [setF, if_neg (by decide +kernel), if_neg (by decide +kernel), if_neg (by decide +kernel), if_neg (by decide +kernel), if_pos (by decide +kernel)]
    exact ⟨⟨r1, r2, r3, r4, fun p hp => ⟨in_upd (n := S.n) (fun k hk => (r5 k hk).1) hv p hp, (r5 p hp).2⟩⟩, d⟩
  · rw [show xst 0 (nI 5).toNatClampNeg = 99 by decide +kernel] at hv
    rw [setF, if_neg (by decide +kernel), if_neg (by decide +kernel), if_neg (by decide +kernel), if_neg (by decide +kernel), if_neg (by decide +kernel)]
    exact ⟨⟨r1, r2, r3, r4, fun p hp => ⟨(r5 p hp).1, in_upd (n := S.n) (fun k hk => (r5 k hk).2.1) hv p hp, (r5 p hp).2.2⟩⟩, d⟩
theorem SI_pl {S : SH} (h : SI S) {f : F32} (hf : ∀ p, p < S.n → 0 ≤ f p ∧ f p ≤ 2) : SI (S.setPl f) := ⟨⟨h.1.1, h.1.2.1, h.1.2.2.1, h.1.2.2.2.1, fun i hi => ⟨(h.1.2.2.2.2 i hi).1, (h.1.2.2.2.2 i hi).2.1, (h.1.2.2.2.2 i hi).2.2.1, hf i hi⟩⟩, h.2⟩
theorem SI_bind {S : SH} (h : SI S) : SI (S.setPl (bindF S S.n)) := ⟨RI_bind h.1, h.2⟩
theorem SI_home {S : SH} (h : SI S) : SI (S.setPl (mvF S.pl 1 0 S.n)) := by
  refine SI_pl h (fun p hp => ?_)
  unfold mvF
  by_cases e : p < S.n ∧ S.pl p = 1
  · rw [if_pos e]; decide
  · rw [if_neg e]; exact (h.1.2.2.2.2 p hp).2.2.2
theorem day_dy (tv : TV) (S : SH) (hn : ∀ T : SH, ∀ j k, (wkF tv j k T).dy = T.dy) : (dayF tv S).dy = S.dy + 1 := by
  unfold dayF
  by_cases h : S.wa < 100
  · rw [if_pos h]
    unfold finF
    by_cases h2 : (wkF tv S.n 0 (S.setWa (f_min 100 (S.wa + alF S.se S.so 10 / 10)))).wa < 100
    · rw [if_pos h2]
      show (wkF tv S.n 0 (S.setWa (f_min 100 (S.wa + alF S.se S.so 10 / 10)))).dy + 1 = _
      rw [hn]
      rfl
    · rw [if_neg h2]
      show (wkF tv S.n 0 (S.setWa (f_min 100 (S.wa + alF S.se S.so 10 / 10)))).dy + 1 = _
      rw [hn]
      rfl
  · rw [if_neg h]
    rfl
theorem work_dy (tv : TV) (S : SH) (one : Nat) : (workF tv S one).dy = S.dy := by
  unfold workF
  split <;> rfl
theorem wk_dy (tv : TV) : ∀ (j k : Nat) (T : SH), (wkF tv j k T).dy = T.dy
  | 0, _, _ => rfl
  | j + 1, k, T => by
    show (if T.wa < 100 then wkF tv j (k + 1) (if T.pl k = 1 then workF tv T k else T) else T).dy = T.dy
    by_cases h : T.wa < 100
    · rw [if_pos h, wk_dy tv j (k + 1)]
      by_cases h2 : T.pl k = 1
      · rw [if_pos h2, work_dy]
      · rw [if_neg h2]
    · rw [if_neg h]
theorem SI_day (tv : TV) {S : SH} (h : SI S) (hd : ¬ (999 : Int32) ≤ S.dy) : SI (dayF tv S) := by
  refine ⟨RI_day tv h.1, ?_⟩
  unfold DI
  rw [day_dy tv S (fun T j k => wk_dy tv j k T)]
  obtain ⟨d0, d9⟩ := h.2
  obtain ⟨k, hk, e⟩ := nI_of (Int32.not_lt.mpr d0)
  rw [e] at d9 hd ⊢
  have h9 := (nI_leI (a := k) (b := 999) (by omega) (by omega)).mp d9
  have h8 : ¬ 999 ≤ k := fun x => hd (nI_le (a := 999) x (by omega))
  rw [← nI_succ]
  exact ⟨nI_pos' (by omega), nI_le (b := 999) (by omega) (by omega)⟩
theorem SI_wright {S : SH} (h : SI S) (k n s : Int32) : SI (wrF S k n s).2 := by
  unfold wrF
  by_cases h1 : f_within k 0 5 = 0
  · rw [if_pos h1]; exact h
  rw [if_neg h1]
  by_cases h2 : f_within n 0 9 = 0
  · rw [if_pos h2]; exact h
  rw [if_neg h2]
  by_cases h3 : f_within s 0 99 = 0
  · rw [if_pos h3]; exact h
  rw [if_neg h3]
  by_cases h4 : 5 ≤ S.n
  · rw [if_pos h4]; exact h
  rw [if_neg h4]
  have g1 := fw_y h1
  have g2 := fw_y h2
  have g3 := fw_y h3
  obtain ⟨⟨r1, r2, r3, r4, r5⟩, d⟩ := h
  refine ⟨⟨show S.n + 1 ≤ 5 by omega, r2, r3, r4, fun p hp => ?_⟩, d⟩
  have hp : p < S.n + 1 := hp
  show (0 ≤ upd S.nu S.n n p ∧ upd S.nu S.n n p ≤ 9) ∧ (0 ≤ upd S.sk S.n s p ∧ upd S.sk S.n s p ≤ 99) ∧ (0 ≤ upd S.ki S.n k p ∧ upd S.ki S.n k p ≤ 5) ∧ (0 ≤ upd S.pl S.n 0 p ∧ upd S.pl S.n 0 p ≤ 2)
  by_cases e : p = S.n
  · rw [e, pk_us, pk_us, pk_us, pk_us]
    exact ⟨g2, g3, g1, by decide, by decide⟩
  · rw [pk_un e, pk_un e, pk_un e, pk_un e]
    exact r5 p (by omega)
theorem SI_gang (f : F32) (N : Nat) : ∀ (j : Nat) (a : Int32) (S : SH) (c : Int32), SI S → SI (gangF f N j a S c).2
  | 0, _, _, _, h => h
  | j + 1, a, S, c, h => by
    show SI (if holdF N a 3 = 0 then ((-12 : Int32), S) else gangF f N j (a + 3) (wrF S (f a.toNatClampNeg) (f (a + 1).toNatClampNeg) (f (a + 2).toNatClampNeg)).2 (if (wrF S (f a.toNatClampNeg) (f (a + 1).toNatClampNeg) (f (a + 2).toNatClampNeg)).1 < 0 then c else c + 1)).2
    by_cases h0 : holdF N a 3 = 0
    · rw [if_pos h0]; exact h
    · rw [if_neg h0]; exact SI_gang f N j _ _ _ (SI_wright h _ _ _)
theorem SI_build {tv : TV} {S : SH} (h : SI S) (i k : Nat) : SI (buildF tv S i k) := ⟨RI_build h.1 i k, h.2⟩
/-- the state's own -/
def AI (A : AS) : Prop := CI A ∧ SI A.S ∧ (A.ik = 1 → SI A.K)
theorem AI_S {A : AS} (h : AI A) {S : SH} (hS : SI S) : AI (A.set_S S) := ⟨⟨hS.1.1, h.1.2.1, h.1.2.2.1, h.1.2.2.2.1, h.1.2.2.2.2.1, h.1.2.2.2.2.2.1, h.1.2.2.2.2.2.2.1, h.1.2.2.2.2.2.2.2.1, h.1.2.2.2.2.2.2.2.2.1, h.1.2.2.2.2.2.2.2.2.2⟩, hS, h.2.2⟩
theorem AI_set {A : AS} (h : AI A) (what of v : Int32) : AI (o_set A what of v).2 := by
  unfold o_set
  by_cases h1 : f_within what 0 5 = 0
  · rw [if_pos h1]; exact h
  rw [if_neg h1]
  by_cases h2 : f_within v 0 (xst 0 what.toNatClampNeg) = 0
  · rw [if_pos h2]; exact h
  rw [if_neg h2]
  by_cases h3 : toldF (tvA A A.ru) A.S of what = -1000
  · rw [if_pos h3]; exact h
  rw [if_neg h3]
  exact AI_S h (SI_set h.2.1 what _ v h1 h2)
theorem AI_wright {A : AS} (h : AI A) (k n s : Int32) : AI (o_wright A k n s).2 := AI_S h (SI_wright h.2.1 k n s)
theorem AI_bound {A : AS} (h : AI A) : AI (o_bound A).2 := AI_S h (SI_bind h.2.1)
theorem AI_home {A : AS} (h : AI A) : AI (o_home A).2 := by
  unfold o_home
  by_cases h1 : A.S.wa < 100
  · rw [if_pos h1]; exact AI_S h (SI_home h.2.1)
  · rw [if_neg h1]; exact h
theorem AI_day {A : AS} (h : AI A) : AI (o_day A).2 := by
  unfold o_day
  by_cases h1 : (999 : Int32) ≤ A.S.dy
  · rw [if_pos h1]; exact h
  rw [if_neg h1]
  by_cases h2 : A.S.wa < 100
  · rw [if_pos h2]; exact AI_S h (SI_day _ h.2.1 h1)
  · rw [if_neg h2]; exact h
theorem AI_image {A : AS} (h : AI A) : AI (o_image A).2 := ⟨⟨h.1.1, h.1.2.1, h.1.2.2.1, h.1.2.2.2.1, h.1.1, h.1.2.1, h.1.2.2.2.2.2.2.1, h.1.2.2.2.2.2.2.2.1, h.1.2.2.2.2.2.2.2.2.1, Or.inr rfl⟩, h.2.1, fun _ => h.2.1⟩
theorem AI_back {A : AS} (h : AI A) : AI (o_back A).2 := by
  unfold o_back
  by_cases h1 : A.ik = 0
  · rw [if_pos h1]; exact h
  rw [if_neg h1]
  have i1 : A.ik = 1 := h.1.2.2.2.2.2.2.2.2.2.resolve_left h1
  exact ⟨⟨h.1.2.2.2.2.1, h.1.2.2.2.2.2.1, h.1.2.2.1, h.1.2.2.2.1, h.1.2.2.2.2.1, h.1.2.2.2.2.2.1, h.1.2.2.2.2.2.2.1, h.1.2.2.2.2.2.2.2.1, h.1.2.2.2.2.2.2.2.2.1, h.1.2.2.2.2.2.2.2.2.2⟩, h.2.2 i1, h.2.2⟩
theorem AI_force {A : AS} (h : AI A) (t : Int32) : AI (o_force A t).2 := by
  unfold o_force
  by_cases h1 : f_within t 0 (nI A.tc - 1) = 0
  · rw [if_pos h1]; exact h
  rw [if_neg h1]
  have h6 := h.1.2.2.1
  obtain ⟨k, hk, rfl⟩ := fw_e (n := A.tc) (by omega) h1
  refine ⟨⟨h.1.1, ?_, h.1.2.2.1, h.1.2.2.2.1, h.1.2.2.2.2.1, h.1.2.2.2.2.2.1, h.1.2.2.2.2.2.2.1, h.1.2.2.2.2.2.2.2.1, h.1.2.2.2.2.2.2.2.2.1, h.1.2.2.2.2.2.2.2.2.2⟩, h.2.1, h.2.2⟩
  show (nI k).toNatClampNeg < A.tc
  rw [nI_clamp (by omega)]
  exact hk
theorem AI_builds {A : AS} (h : AI A) (one part : Int32) : AI (o_builds A one part).2 := by
  unfold o_builds
  by_cases h1 : hasF A.S one = 0
  · rw [if_pos h1]; exact h
  rw [if_neg h1]
  by_cases h2 : f_isPart part = 0
  · rw [if_pos h2]; exact h
  rw [if_neg h2]
  by_cases h3 : A.S.pl one.toNatClampNeg = 0
  · rw [if_pos h3]; exact AI_S h (SI_build h.2.1 _ _)
  · rw [if_neg h3]; exact h
