-- ===== tokens =====
def zrnF (P : Int32 → Bool) (f : F32) (n : Nat) : Nat → Nat → Nat
  | 0, q => q
  | j + 1, q => if q < n ∧ P (f q) = true then zrnF P f n j (q + 1) else q
theorem run_y {P : Int32 → Bool} {f : F32} {n j q : Nat} (h : q < n) (h2 : P (f q) = true) : zrnF P f n (j + 1) q = zrnF P f n j (q + 1) := if_pos ⟨h, h2⟩
theorem run_n {P : Int32 → Bool} {f : F32} {n j q : Nat} (h : ¬ P (f q) = true) : zrnF P f n (j + 1) q = q := if_neg (fun z => h z.2)
theorem run_in (P : Int32 → Bool) (f : F32) (n : Nat) : ∀ j q, q + j = n → q ≤ zrnF P f n j q ∧ zrnF P f n j q ≤ n ∧ (∀ i, q ≤ i → i < zrnF P f n j q → P (f i) = true) ∧ (zrnF P f n j q < n → ¬ P (f (zrnF P f n j q)) = true)
  | 0, q, h => ⟨Nat.le_refl _, by show q ≤ n; omega, fun i h1 h2 => by have h2 : i < q := h2; omega, fun h2 => by have h2 : q < n := h2; omega⟩
  | j + 1, q, h => by
    by_cases hp : P (f q) = true
    · rw [run_y (by omega) hp]
      obtain ⟨a, b, c, d⟩ := run_in P f n j (q + 1) (by omega)
      refine ⟨by omega, b, fun i h1 h2 => ?_, d⟩
      rcases (by omega : i = q ∨ q + 1 ≤ i) with e | e
      · rw [e]; exact hp
      · exact c i e h2
    · rw [run_n hp]
      exact ⟨Nat.le_refl _, by omega, fun i h1 h2 => by omega, fun _ => hp⟩
def zzBl (b : Int32) : Bool := b == 32 || b == 10
def zzLo (b : Int32) : Bool := !(f_within b 97 122 == 0)
def zzDi (b : Int32) : Bool := !(f_within b 48 57 == 0)
theorem zzLo_y {b : Int32} : zzLo b = true ↔ ¬ f_within b 97 122 = 0 := by simp [zzLo]
theorem zzDi_y {b : Int32} : zzDi b = true ↔ ¬ f_within b 48 57 = 0 := by simp [zzDi]
theorem zzBl_y {b : Int32} : zzBl b = true ↔ (b = 32 ∨ b = 10) := by simp [zzBl]
def mtF (f : F32) : List Int32 → Nat → Nat → Bool
  | [], p, e => p == e
  | c :: cs, p, e => decide (p < e) && (f p == c) && mtF f cs (p + 1) e
theorem mt_cons {f : F32} {c : Int32} {cs : List Int32} {p e : Nat} : mtF f (c :: cs) p e = true ↔ p < e ∧ f p = c ∧ mtF f cs (p + 1) e = true := by
  simp [mtF, and_assoc]
theorem mt_nil {f : F32} {p e : Nat} : mtF f [] p e = true ↔ p = e := by simp [mtF]
theorem mt_inj (f : F32) (e : Nat) : ∀ (a b : List Int32) (p : Nat), mtF f a p e = true → mtF f b p e = true → a = b
  | [], [], _, _, _ => rfl
  | [], _ :: _, _, h1, h2 => by
    have := mt_nil.mp h1
    have := (mt_cons.mp h2).1
    omega
  | _ :: _, [], _, h1, h2 => by
    have := mt_nil.mp h2
    have := (mt_cons.mp h1).1
    omega
  | x :: a, y :: b, p, h1, h2 => by
    obtain ⟨_, q1, q2⟩ := mt_cons.mp h1
    obtain ⟨_, r1, r2⟩ := mt_cons.mp h2
    rw [mt_inj f e a b (p + 1) q2 r2, ← q1, ← r1]
def wdL : List (List Int32) := [[115, 107, 105, 108, 108], [115, 111, 117, 110, 100], [110, 117, 109, 98, 101, 114], [100, 97, 121], [119, 97, 116, 101, 114], [112, 97, 114, 116], [109, 97, 107, 101, 115], [109, 101, 110, 100, 115], [112, 117, 109, 112, 115], [111, 114], [97, 110, 100], [110, 111, 116]]
def wcG (f : F32) (p e : Nat) : List (List Int32) → Nat → Nat → Nat
  | [], _, t => t
  | w :: ws, k, t => wcG f p e ws (k + 1) (if mtF f w p e = true then k else t)
def wcF (f : F32) (p e : Nat) : Nat := wcG f p e wdL 0 14
theorem wcG_0 {f : F32} {p e : Nat} : ∀ (ws : List (List Int32)) (k t : Nat), (∀ w ∈ ws, ¬ mtF f w p e = true) → wcG f p e ws k t = t
  | [], _, _, _ => rfl
  | w :: ws, k, t, h => by
    show wcG f p e ws (k + 1) (if mtF f w p e = true then k else t) = t
    rw [if_neg (h w List.mem_cons_self)]
    exact wcG_0 ws (k + 1) t (fun w' hw => h w' (List.mem_cons_of_mem _ hw))
theorem wcG_1 {f : F32} {p e : Nat} : ∀ (ws : List (List Int32)) (k t i : Nat) (w : List Int32), ws.Nodup → ws[i]? = some w → mtF f w p e = true → wcG f p e ws k t = k + i
  | [], _, _, _, _, _, h, _ => by simp at h
  | w0 :: ws, k, t, 0, w, hn, h, hm => by
    cases h
    show wcG f p e ws (k + 1) (if mtF f w0 p e = true then k else t) = k
    rw [if_pos hm]
    refine wcG_0 ws (k + 1) k (fun w' hw hm' => ?_)
    rw [mt_inj f e w' w0 p hm' hm] at hw
    exact (List.nodup_cons.mp hn).1 hw
  | w0 :: ws, k, t, i + 1, w, hn, h, hm => by
    show wcG f p e ws (k + 1) _ = k + (i + 1)
    rw [wcG_1 ws (k + 1) _ i w (List.nodup_cons.mp hn).2 h hm]
    omega
theorem wc_iff {f : F32} {p e i : Nat} {w : List Int32} (h : wdL[i]? = some w) : wcF f p e = i ↔ mtF f w p e = true := by
  have hi : i < 12 := (List.getElem?_eq_some_iff.mp h).1
  constructor
  · intro he
    rcases Classical.em (∃ w' ∈ wdL, mtF f w' p e = true) with ⟨w', hw, hm⟩ | z
    · obtain ⟨j, hj⟩ := List.getElem?_of_mem hw
      have e2 := wcG_1 (f := f) (p := p) (e := e) wdL 0 14 j w' (by decide) hj hm
      have : j = i := by
        have : wcF f p e = 0 + j := e2
        omega
      subst this
      cases h.symm.trans hj
      exact hm
    · have e2 := wcG_0 (f := f) (p := p) (e := e) wdL 0 14 (fun w hw hm => z ⟨w, hw, hm⟩)
      have : wcF f p e = 14 := e2
      omega
  · intro hm
    have e2 := wcG_1 (f := f) (p := p) (e := e) wdL 0 14 i w (by decide) h hm
    have : wcF f p e = 0 + i := e2
    omega
theorem wc_lt (f : F32) (p e : Nat) : wcF f p e < 12 ∨ wcF f p e = 14 := by
  rcases Classical.em (∃ w' ∈ wdL, mtF f w' p e = true) with ⟨w', hw, hm⟩ | z
  · obtain ⟨j, hj⟩ := List.getElem?_of_mem hw
    have hj12 : j < 12 := (List.getElem?_eq_some_iff.mp hj).1
    have e2 := wcG_1 (f := f) (p := p) (e := e) wdL 0 14 j w' (by decide) hj hm
    have : wcF f p e = 0 + j := e2
    omega
  · exact Or.inr (wcG_0 (f := f) (p := p) (e := e) wdL 0 14 (fun w hw hm => z ⟨w, hw, hm⟩))
/-- the first k digits from p on, four at most -/
def nvF (f : F32) (p : Nat) : Nat → Nat
  | 0 => 0
  | k + 1 => if k < 4 then nvF f p k * 10 + ((f (p + k)).toNatClampNeg - 48) else nvF f p k
/-- where the token begins that is read from q on; the end of letters, of digits that begin at p -/
def lpF (f : F32) (n q : Nat) : Nat := zrnF zzBl f n (n - q) q
def leF (P : Int32 → Bool) (f : F32) (n p : Nat) : Nat := zrnF P f n (n - p) p
/-- what kind: 0 the end, 1 letters, 2 digits, 3 a sign, 4 none -/
def kdF (f : F32) (n q : Nat) : Nat := if n ≤ lpF f n q then 0 else if zzLo (f (lpF f n q)) = true then 1 else if zzDi (f (lpF f n q)) = true then 2 else if f_sign (f (lpF f n q)) = 0 then 4 else 3
def cdF (f : F32) (n q : Nat) : Nat := match kdF f n q with
  | 0 => 13
  | 1 => wcF f (lpF f n q) (leF zzLo f n (lpF f n q))
  | 2 => if 4 < leF zzDi f n (lpF f n q) - lpF f n q then 14 else 12
  | 3 => (f (lpF f n q)).toNatClampNeg
  | _ => 14
def afF (f : F32) (n q : Nat) : Nat := match kdF f n q with
  | 0 => lpF f n q
  | 1 => leF zzLo f n (lpF f n q)
  | 2 => leF zzDi f n (lpF f n q)
  | _ => lpF f n q + 1
def nbF (f : F32) (n q : Nat) : Nat := nvF f (lpF f n q) (leF zzDi f n (lpF f n q) - lpF f n q)
theorem lp_in {f : F32} {n q : Nat} (h : q ≤ n) : q ≤ lpF f n q ∧ lpF f n q ≤ n := by
  have := run_in zzBl f n (n - q) q (by omega)
  exact ⟨this.1, this.2.1⟩
theorem kd_lt (f : F32) (n q : Nat) : kdF f n q < 5 := by
  unfold kdF
  split
  · omega
  · split
    · omega
    · split
      · omega
      · split <;> omega
theorem sg_lt {b : Int32} (h : ¬ f_sign b = 0) : ∃ c, (c = 40 ∨ c = 41 ∨ c = 42 ∨ c = 43 ∨ c = 45 ∨ c = 59 ∨ c = 60 ∨ c = 61) ∧ b = nI c := by
  unfold f_sign at h
  by_cases h1 : f_within b 40 43 = 0
  · rw [if_pos h1] at h
    by_cases h2 : b = 45
    · exact ⟨45, by omega, h2⟩
    · rw [if_neg h2] at h
      by_cases h3 : f_within b 59 61 = 0
      · rw [if_pos h3] at h
        exact absurd rfl h
      · obtain ⟨q1, q2⟩ := fw_y h3
        obtain ⟨j, hj, rfl⟩ := nI_of (Int32.not_lt.mpr (Int32.le_trans (show (0 : Int32) ≤ 59 by decide) q1))
        have a1 := (nI_leI (a := 59) (by omega) hj).mp q1
        have a2 := (nI_leI (b := 61) hj (by omega)).mp q2
        exact ⟨j, by omega, rfl⟩
  · obtain ⟨q1, q2⟩ := fw_y h1
    obtain ⟨j, hj, rfl⟩ := nI_of (Int32.not_lt.mpr (Int32.le_trans (show (0 : Int32) ≤ 40 by decide) q1))
    have a1 := (nI_leI (a := 40) (by omega) hj).mp q1
    have a2 := (nI_leI (b := 43) hj (by omega)).mp q2
    exact ⟨j, by omega, rfl⟩
theorem kd_0 {f : F32} {n q : Nat} (h : n ≤ lpF f n q) : kdF f n q = 0 := if_pos h
theorem kd_1 {f : F32} {n q : Nat} (h : lpF f n q < n) (h1 : zzLo (f (lpF f n q)) = true) : kdF f n q = 1 := by
  unfold kdF
  rw [if_neg (by omega), if_pos h1]
theorem kd_2 {f : F32} {n q : Nat} (h : lpF f n q < n) (h1 : ¬ zzLo (f (lpF f n q)) = true) (h2 : zzDi (f (lpF f n q)) = true) : kdF f n q = 2 := by
  unfold kdF
  rw [if_neg (by omega), if_neg h1, if_pos h2]
theorem kd_3 {f : F32} {n q : Nat} (h : lpF f n q < n) (h1 : ¬ zzLo (f (lpF f n q)) = true) (h2 : ¬ zzDi (f (lpF f n q)) = true) (h3 : ¬ f_sign (f (lpF f n q)) = 0) : kdF f n q = 3 := by
  unfold kdF
  rw [if_neg (by omega), if_neg h1, if_neg h2, if_neg h3]
theorem kd_4 {f : F32} {n q : Nat} (h : lpF f n q < n) (h1 : ¬ zzLo (f (lpF f n q)) = true) (h2 : ¬ zzDi (f (lpF f n q)) = true) (h3 : f_sign (f (lpF f n q)) = 0) : kdF f n q = 4 := by
  unfold kdF
  rw [if_neg (by omega), if_neg h1, if_neg h2, if_pos h3]
/-- what the kind says -/
theorem kd_is (f : F32) (n q : Nat) : (kdF f n q = 0 ∧ n ≤ lpF f n q) ∨ (kdF f n q = 1 ∧ lpF f n q < n ∧ zzLo (f (lpF f n q)) = true) ∨ (kdF f n q = 2 ∧ lpF f n q < n ∧ ¬ zzLo (f (lpF f n q)) = true ∧ zzDi (f (lpF f n q)) = true) ∨ (kdF f n q = 3 ∧ lpF f n q < n ∧ ¬ zzLo (f (lpF f n q)) = true ∧ ¬ zzDi (f (lpF f n q)) = true ∧ ¬ f_sign (f (lpF f n q)) = 0) ∨ (kdF f n q = 4 ∧ lpF f n q < n ∧ ¬ zzLo (f (lpF f n q)) = true ∧ ¬ zzDi (f (lpF f n q)) = true ∧ f_sign (f (lpF f n q)) = 0) := by
  by_cases h : n ≤ lpF f n q
  · exact Or.inl ⟨kd_0 h, h⟩
  · have h := Nat.lt_of_not_le h
    by_cases h1 : zzLo (f (lpF f n q)) = true
    · exact Or.inr (Or.inl ⟨kd_1 h h1, h, h1⟩)
    · by_cases h2 : zzDi (f (lpF f n q)) = true
      · exact Or.inr (Or.inr (Or.inl ⟨kd_2 h h1 h2, h, h1, h2⟩))
      · by_cases h3 : f_sign (f (lpF f n q)) = 0
        · exact Or.inr (Or.inr (Or.inr (Or.inr ⟨kd_4 h h1 h2 h3, h, h1, h2, h3⟩)))
        · exact Or.inr (Or.inr (Or.inr (Or.inl ⟨kd_3 h h1 h2 h3, h, h1, h2, h3⟩)))
theorem cd_0 {f : F32} {n q : Nat} (h : kdF f n q = 0) : cdF f n q = 13 := by unfold cdF; rw [h]; rfl
theorem cd_1 {f : F32} {n q : Nat} (h : kdF f n q = 1) : cdF f n q = wcF f (lpF f n q) (leF zzLo f n (lpF f n q)) := by unfold cdF; rw [h]; rfl
theorem cd_2 {f : F32} {n q : Nat} (h : kdF f n q = 2) : cdF f n q = if 4 < leF zzDi f n (lpF f n q) - lpF f n q then 14 else 12 := by unfold cdF; rw [h]; rfl
theorem cd_3 {f : F32} {n q : Nat} (h : kdF f n q = 3) : cdF f n q = (f (lpF f n q)).toNatClampNeg := by unfold cdF; rw [h]; rfl
theorem cd_4 {f : F32} {n q : Nat} (h : kdF f n q = 4) : cdF f n q = 14 := by unfold cdF; rw [h]; rfl
theorem af_0 {f : F32} {n q : Nat} (h : kdF f n q = 0) : afF f n q = lpF f n q := by unfold afF; rw [h]; rfl
theorem af_1 {f : F32} {n q : Nat} (h : kdF f n q = 1) : afF f n q = leF zzLo f n (lpF f n q) := by unfold afF; rw [h]; rfl
theorem af_2 {f : F32} {n q : Nat} (h : kdF f n q = 2) : afF f n q = leF zzDi f n (lpF f n q) := by unfold afF; rw [h]; rfl
theorem af_3 {f : F32} {n q : Nat} (h : kdF f n q = 3) : afF f n q = lpF f n q + 1 := by unfold afF; rw [h]; rfl
theorem af_4 {f : F32} {n q : Nat} (h : kdF f n q = 4) : afF f n q = lpF f n q + 1 := by unfold afF; rw [h]; rfl
theorem le_in {P : Int32 → Bool} {f : F32} {n p : Nat} (h : p < n) (hp : P (f p) = true) : p < leF P f n p ∧ leF P f n p ≤ n := by
  have r := run_in P f n (n - p) p (by omega)
  refine ⟨?_, r.2.1⟩
  rcases Nat.lt_or_ge p (leF P f n p) with y | y
  · exact y
  · have e : zrnF P f n (n - p) p = p := Nat.le_antisymm y r.1
    have r2 := r.2.2.2
    rw [e] at r2
    exact absurd hp (r2 h)
/-- a token that isn't the end lies inside -/
theorem af_in {f : F32} {n q : Nat} (hq : q ≤ n) (h : ¬ cdF f n q = 13) : q ≤ lpF f n q ∧ lpF f n q < n ∧ lpF f n q < afF f n q ∧ afF f n q ≤ n := by
  obtain ⟨l1, l2⟩ := lp_in (f := f) hq
  rcases kd_is f n q with ⟨k, a⟩ | ⟨k, a, b⟩ | ⟨k, a, b, c⟩ | ⟨k, a, _⟩ | ⟨k, a, _⟩
  · exact absurd (cd_0 k) h
  · rw [af_1 k]
    have := le_in a b
    exact ⟨l1, a, this.1, this.2⟩
  · rw [af_2 k]
    have := le_in a c
    exact ⟨l1, a, this.1, this.2⟩
  · rw [af_3 k]
    exact ⟨l1, a, by omega, by omega⟩
  · rw [af_4 k]
    exact ⟨l1, a, by omega, by omega⟩
