-- ===== tokens =====
def runF (P : Int32 → Bool) (f : F32) (n : Nat) : Nat → Nat → Nat
  | 0, q => q
  | j + 1, q => if q < n ∧ P (f q) = true then runF P f n j (q + 1) else q
theorem run_y {P : Int32 → Bool} {f : F32} {n j q : Nat} (h : q < n) (h2 : P (f q) = true) : runF P f n (j + 1) q = runF P f n j (q + 1) := if_pos ⟨h, h2⟩
theorem run_n {P : Int32 → Bool} {f : F32} {n j q : Nat} (h : ¬ P (f q) = true) : runF P f n (j + 1) q = q := if_neg (fun z => h z.2)
theorem run_in (P : Int32 → Bool) (f : F32) (n : Nat) : ∀ j q, q + j = n → q ≤ runF P f n j q ∧ runF P f n j q ≤ n ∧ (∀ i, q ≤ i → i < runF P f n j q → P (f i) = true) ∧ (runF P f n j q < n → ¬ P (f (runF P f n j q)) = true)
  | 0, q, h => ⟨Nat.le_refl _, by show q ≤ n; omega, fun i h1 h2 => by have h2 : i < q := h2; omega, fun h2 => by have h2 : q < n := h2; omega⟩
  | j + 1, q, h => by
    by_cases hp : P (f q) = true
    · rw [run_y (by omega) hp]
      obtain ⟨a, b, c, d⟩ := run_in P f n j (q + 1) (by omega)
      refine ⟨by omega, b, fun i h1 h2 => ?_, d⟩
      rcases (by omega : i = q ∨ q + 1 ≤ i) with e | e
      · rw [e]; exact hp
      · exact c i e h2
    · rw [run_n hp]
      exact ⟨Nat.le_refl _, by omega, fun i h1 h2 => by omega, fun _ => hp⟩
def isBl (b : Int32) : Bool := b == 32 || b == 10
def isLo (b : Int32) : Bool := !(f_within b 97 122 == 0)
def isDi (b : Int32) : Bool := !(f_within b 48 57 == 0)
theorem isLo_y {b : Int32} : isLo b = true ↔ ¬ f_within b 97 122 = 0 := by simp [isLo]
theorem isDi_y {b : Int32} : isDi b = true ↔ ¬ f_within b 48 57 = 0 := by simp [isDi]
theorem isBl_y {b : Int32} : isBl b = true ↔ (b = 32 ∨ b = 10) := by simp [isBl]
def mtF (f : F32) : List Int32 → Nat → Nat → Bool
  | [], p, e => p == e
  | c :: cs, p, e => decide (p < e) && (f p == c) && mtF f cs (p + 1) e
theorem mt_cons {f : F32} {c : Int32} {cs : List Int32} {p e : Nat} : mtF f (c :: cs) p e = true ↔ p < e ∧ f p = c ∧ mtF f cs (p + 1) e = true := by
  simp [mtF, and_assoc]
theorem mt_nil {f : F32} {p e : Nat} : mtF f [] p e = true ↔ p = e := by simp [mtF]
theorem mt_inj (f : F32) (e : Nat) : ∀ (a b : List Int32) (p : Nat), mtF f a p e = true → mtF f b p e = true → a = b
  | [], [], _, _, _ => rfl
  | [], _ :: _, _, h1, h2 => by
    have := mt_nil.mp h1
    have := (mt_cons.mp h2).1
    omega
  | _ :: _, [], _, h1, h2 => by
    have := mt_nil.mp h2
    have := (mt_cons.mp h1).1
    omega
  | x :: a, y :: b, p, h1, h2 => by
    obtain ⟨_, q1, q2⟩ := mt_cons.mp h1
    obtain ⟨_, r1, r2⟩ := mt_cons.mp h2
    rw [mt_inj f e a b (p + 1) q2 r2, ← q1, ← r1]
def wdL : List (List Int32) := [[115, 107, 105, 108, 108], [115, 111, 117, 110, 100], [110, 117, 109, 98, 101, 114], [100, 97, 121], [119, 97, 116, 101, 114], [112, 97, 114, 116], [109, 97, 107, 101, 115], [109, 101, 110, 100, 115], [112, 117, 109, 112, 115], [111, 114], [97, 110, 100], [110, 111, 116]]
def wcG (f : F32) (p e : Nat) : List (List Int32) → Nat → Nat → Nat
  | [], _, t => t
  | w :: ws, k, t => wcG f p e ws (k + 1) (if mtF f w p e = true then k else t)
def wcF (f : F32) (p e : Nat) : Nat := wcG f p e wdL 0 14
theorem wcG_0 {f : F32} {p e : Nat} : ∀ (ws : List (List Int32)) (k t : Nat), (∀ w ∈ ws, ¬ mtF f w p e = true) → wcG f p e ws k t = t
  | [], _, _, _ => rfl
  | w :: ws, k, t, h => by
    show wcG f p e ws (k + 1) (if mtF f w p e = true then k else t) = t
    rw [if_neg (h w List.mem_cons_self)]
    exact wcG_0 ws (k + 1) t (fun w' hw => h w' (List.mem_cons_of_mem _ hw))
theorem wcG_1 {f : F32} {p e : Nat} : ∀ (ws : List (List Int32)) (k t i : Nat) (w : List Int32), ws.Nodup → ws[i]? = some w → mtF f w p e = true → wcG f p e ws k t = k + i
  | [], _, _, _, _, _, h, _ => by simp at h
  | w0 :: ws, k, t, 0, w, hn, h, hm => by
    cases h
    show wcG f p e ws (k + 1) (if mtF f w0 p e = true then k else t) = k
    rw [if_pos hm]
    refine wcG_0 ws (k + 1) k (fun w' hw hm' => ?_)
    rw [mt_inj f e w' w0 p hm' hm] at hw
    exact (List.nodup_cons.mp hn).1 hw
  | w0 :: ws, k, t, i + 1, w, hn, h, hm => by
    show wcG f p e ws (k + 1) _ = k + (i + 1)
    rw [wcG_1 ws (k + 1) _ i w (List.nodup_cons.mp hn).2 h hm]
    omega
theorem wc_iff {f : F32} {p e i : Nat} {w : List Int32} (h : wdL[i]? = some w) : wcF f p e = i ↔ mtF f w p e = true := by
  have hi : i < 12 := (List.getElem?_eq_some_iff.mp h).1
  constructor
  · intro he
    rcases Classical.em (∃ w' ∈ wdL, mtF f w' p e = true) with ⟨w', hw, hm⟩ | z
    · obtain ⟨j, hj⟩ := List.getElem?_of_mem hw
      have e2 := wcG_1 (f := f) (p := p) (e := e) wdL 0 14 j w' (by decide) hj hm
      have : j = i := by
        have : wcF f p e = 0 + j := e2
        omega
      subst this
      cases h.symm.trans hj
      exact hm
    · have e2 := wcG_0 (f := f) (p := p) (e := e) wdL 0 14 (fun w hw hm => z ⟨w, hw, hm⟩)
      have : wcF f p e = 14 := e2
      omega
  · intro hm
    have e2 := wcG_1 (f := f) (p := p) (e := e) wdL 0 14 i w (by decide) h hm
    have : wcF f p e = 0 + i := e2
    omega
theorem wc_lt (f : F32) (p e : Nat) : wcF f p e < 12 ∨ wcF f p e = 14 := by
  rcases Classical.em (∃ w' ∈ wdL, mtF f w' p e = true) with ⟨w', hw, hm⟩ | z
  · obtain ⟨j, hj⟩ := List.getElem?_of_mem hw
    have hj12 : j < 12 := (List.getElem?_eq_some_iff.mp hj).1
    have e2 := wcG_1 (f := f) (p := p) (e := e) wdL 0 14 j w' (by decide) hj hm
    have : wcF f p e = 0 + j := e2
    omega
  · exact Or.inr (wcG_0 (f := f) (p := p) (e := e) wdL 0 14 (fun w hw hm => z ⟨w, hw, hm⟩))
/-- the first k digits from p on, four at most -/
def nvF (f : F32) (p : Nat) : Nat → Nat
  | 0 => 0
  | k + 1 => if k < 4 then nvF f p k * 10 + ((f (p + k)).toNatClampNeg - 48) else nvF f p k
/-- where the token begins that is read from q on; the end of letters, of digits that begin at p -/
def lpF (f : F32) (n q : Nat) : Nat := runF isBl f n (n - q) q
def leF (P : Int32 → Bool) (f : F32) (n p : Nat) : Nat := runF P f n (n - p) p
/-- what kind: 0 the end, 1 letters, 2 digits, 3 a sign, 4 none -/
def kdF (f : F32) (n q : Nat) : Nat := if n ≤ lpF f n q then 0 else if isLo (f (lpF f n q)) = true then 1 else if isDi (f (lpF f n q)) = true then 2 else if f_sign (f (lpF f n q)) = 0 then 4 else 3
def cdF (f : F32) (n q : Nat) : Nat := match kdF f n q with
  | 0 => 13
  | 1 => wcF f (lpF f n q) (leF isLo f n (lpF f n q))
  | 2 => if 4 < leF isDi f n (lpF f n q) - lpF f n q then 14 else 12
  | 3 => (f (lpF f n q)).toNatClampNeg
  | _ => 14
def afF (f : F32) (n q : Nat) : Nat := match kdF f n q with
  | 0 => lpF f n q
  | 1 => leF isLo f n (lpF f n q)
  | 2 => leF isDi f n (lpF f n q)
  | _ => lpF f n q + 1
def nbF (f : F32) (n q : Nat) : Nat := nvF f (lpF f n q) (leF isDi f n (lpF f n q) - lpF f n q)
theorem lp_in {f : F32} {n q : Nat} (h : q ≤ n) : q ≤ lpF f n q ∧ lpF f n q ≤ n := by
  have := run_in isBl f n (n - q) q (by omega)
  exact ⟨this.1, this.2.1⟩
theorem kd_lt (f : F32) (n q : Nat) : kdF f n q < 5 := by
  unfold kdF
  split
  · omega
  · split
    · omega
    · split
      · omega
      · split <;> omega
theorem sg_lt {b : Int32} (h : ¬ f_sign b = 0) : ∃ c, (c = 40 ∨ c = 41 ∨ c = 42 ∨ c = 43 ∨ c = 45 ∨ c = 59 ∨ c = 60 ∨ c = 61) ∧ b = nI c := by
  unfold f_sign at h
  by_cases h1 : f_within b 40 43 = 0
  · rw [if_pos h1] at h
    by_cases h2 : b = 45
    · exact ⟨45, by omega, h2⟩
    · rw [if_neg h2] at h
      by_cases h3 : f_within b 59 61 = 0
      · rw [if_pos h3] at h
        exact absurd rfl h
      · obtain ⟨q1, q2⟩ := fw_y h3
        obtain ⟨j, hj, rfl⟩ := nI_of (Int32.not_lt.mpr (Int32.le_trans (show (0 : Int32) ≤ 59 by decide) q1))
        have a1 := (nI_leI (a := 59) (by omega) hj).mp q1
        have a2 := (nI_leI (b := 61) hj (by omega)).mp q2
        exact ⟨j, by omega, rfl⟩
  · obtain ⟨q1, q2⟩ := fw_y h1
    obtain ⟨j, hj, rfl⟩ := nI_of (Int32.not_lt.mpr (Int32.le_trans (show (0 : Int32) ≤ 40 by decide) q1))
    have a1 := (nI_leI (a := 40) (by omega) hj).mp q1
    have a2 := (nI_leI (b := 43) hj (by omega)).mp q2
    exact ⟨j, by omega, rfl⟩
theorem kd_0 {f : F32} {n q : Nat} (h : n ≤ lpF f n q) : kdF f n q = 0 := if_pos h
theorem kd_1 {f : F32} {n q : Nat} (h : lpF f n q < n) (h1 : isLo (f (lpF f n q)) = true) : kdF f n q = 1 := by
  unfold kdF
  rw [if_neg (by omega), if_pos h1]
theorem kd_2 {f : F32} {n q : Nat} (h : lpF f n q < n) (h1 : ¬ isLo (f (lpF f n q)) = true) (h2 : isDi (f (lpF f n q)) = true) : kdF f n q = 2 := by
  unfold kdF
  rw [if_neg (by omega), if_neg h1, if_pos h2]
theorem kd_3 {f : F32} {n q : Nat} (h : lpF f n q < n) (h1 : ¬ isLo (f (lpF f n q)) = true) (h2 : ¬ isDi (f (lpF f n q)) = true) (h3 : ¬ f_sign (f (lpF f n q)) = 0) : kdF f n q = 3 := by
  unfold kdF
  rw [if_neg (by omega), if_neg h1, if_neg h2, if_neg h3]
theorem kd_4 {f : F32} {n q : Nat} (h : lpF f n q < n) (h1 : ¬ isLo (f (lpF f n q)) = true) (h2 : ¬ isDi (f (lpF f n q)) = true) (h3 : f_sign (f (lpF f n q)) = 0) : kdF f n q = 4 := by
  unfold kdF
  rw [if_neg (by omega), if_neg h1, if_neg h2, if_pos h3]
/-- what the kind says -/
theorem kd_is (f : F32) (n q : Nat) : (kdF f n q = 0 ∧ n ≤ lpF f n q) ∨ (kdF f n q = 1 ∧ lpF f n q < n ∧ isLo (f (lpF f n q)) = true) ∨ (kdF f n q = 2 ∧ lpF f n q < n ∧ ¬ isLo (f (lpF f n q)) = true ∧ isDi (f (lpF f n q)) = true) ∨ (kdF f n q = 3 ∧ lpF f n q < n ∧ ¬ isLo (f (lpF f n q)) = true ∧ ¬ isDi (f (lpF f n q)) = true ∧ ¬ f_sign (f (lpF f n q)) = 0) ∨ (kdF f n q = 4 ∧ lpF f n q < n ∧ ¬ isLo (f (lpF f n q)) = true ∧ ¬ isDi (f (lpF f n q)) = true ∧ f_sign (f (lpF f n q)) = 0) := by
  by_cases h : n ≤ lpF f n q
  · exact Or.inl ⟨kd_0 h, h⟩
  · have h := Nat.lt_of_not_le h
    by_cases h1 : isLo (f (lpF f n q)) = true
    · exact Or.inr (Or.inl ⟨kd_1 h h1, h, h1⟩)
    · by_cases h2 : isDi (f (lpF f n q)) = true
      · exact Or.inr (Or.inr (Or.inl ⟨kd_2 h h1 h2, h, h1, h2⟩))
      · by_cases h3 : f_sign (f (lpF f n q)) = 0
        · exact Or.inr (Or.inr (Or.inr (Or.inr ⟨kd_4 h h1 h2 h3, h, h1, h2, h3⟩)))
        · exact Or.inr (Or.inr (Or.inr (Or.inl ⟨kd_3 h h1 h2 h3, h, h1, h2, h3⟩)))
theorem cd_0 {f : F32} {n q : Nat} (h : kdF f n q = 0) : cdF f n q = 13 := by unfold cdF; rw [h]
theorem cd_1 {f : F32} {n q : Nat} (h : kdF f n q = 1) : cdF f n q = wcF f (lpF f n q) (leF isLo f n (lpF f n q)) := by unfold cdF; rw [h]
theorem cd_2 {f : F32} {n q : Nat} (h : kdF f n q = 2) : cdF f n q = if 4 < leF isDi f n (lpF f n q) - lpF f n q then 14 else 12 := by unfold cdF; rw [h]
theorem cd_3 {f : F32} {n q : Nat} (h : kdF f n q = 3) : cdF f n q = (f (lpF f n q)).toNatClampNeg := by unfold cdF; rw [h]
theorem cd_4 {f : F32} {n q : Nat} (h : kdF f n q = 4) : cdF f n q = 14 := by unfold cdF; rw [h]
theorem af_0 {f : F32} {n q : Nat} (h : kdF f n q = 0) : afF f n q = lpF f n q := by unfold afF; rw [h]
theorem af_1 {f : F32} {n q : Nat} (h : kdF f n q = 1) : afF f n q = leF isLo f n (lpF f n q) := by unfold afF; rw [h]
theorem af_2 {f : F32} {n q : Nat} (h : kdF f n q = 2) : afF f n q = leF isDi f n (lpF f n q) := by unfold afF; rw [h]
theorem af_3 {f : F32} {n q : Nat} (h : kdF f n q = 3) : afF f n q = lpF f n q + 1 := by unfold afF; rw [h]
theorem af_4 {f : F32} {n q : Nat} (h : kdF f n q = 4) : afF f n q = lpF f n q + 1 := by unfold afF; rw [h]
theorem le_in {P : Int32 → Bool} {f : F32} {n p : Nat} (h : p < n) (hp : P (f p) = true) : p < leF P f n p ∧ leF P f n p ≤ n := by
  have r := run_in P f n (n - p) p (by omega)
  refine ⟨?_, r.2.1⟩
  rcases Nat.lt_or_ge p (leF P f n p) with y | y
  · exact y
  · have e : runF P f n (n - p) p = p := Nat.le_antisymm y r.1
    have r2 := r.2.2.2
    rw [e] at r2
    exact absurd hp (r2 h)
/-- a token that isn't the end lies inside -/
theorem af_in {f : F32} {n q : Nat} (hq : q ≤ n) (h : ¬ cdF f n q = 13) : q ≤ lpF f n q ∧ lpF f n q < n ∧ lpF f n q < afF f n q ∧ afF f n q ≤ n := by
  obtain ⟨l1, l2⟩ := lp_in (f := f) hq
  rcases kd_is f n q with ⟨k, a⟩ | ⟨k, a, b⟩ | ⟨k, a, b, c⟩ | ⟨k, a, _⟩ | ⟨k, a, _⟩
  · exact absurd (cd_0 k) h
  · rw [af_1 k]
    have := le_in a b
    exact ⟨l1, a, this.1, this.2⟩
  · rw [af_2 k]
    have := le_in a c
    exact ⟨l1, a, this.1, this.2⟩
  · rw [af_3 k]
    exact ⟨l1, a, by omega, by omega⟩
  · rw [af_4 k]
    exact ⟨l1, a, by omega, by omega⟩
theorem nv_lt (f : F32) (p : Nat) (h : ∀ i, (f i).toNatClampNeg - 48 ≤ 9 ∨ True) : ∀ k, (∀ i, i < k → (f (p + i)).toNatClampNeg - 48 ≤ 9) → nvF f p k < 10 ^ (min k 4)
  | 0, _ => by decide
  | k + 1, hk => by
    have ih := nv_lt f p h k (fun i hi => hk i (by omega))
    have hd := hk k (by omega)
    unfold nvF
    by_cases h4 : k < 4
    · rw [if_pos h4]
      rw [show min k 4 = k by omega] at ih
      rw [show min (k + 1) 4 = k + 1 by omega, Nat.pow_succ]
      omega
    · rw [if_neg h4, show min (k + 1) 4 = 4 by omega]
      rw [show min k 4 = 4 by omega] at ih
      exact ih
-- ===== reading: what is told, how many steps, where next; or the place of the fault =====
abbrev PV : Type := F32 → Int32
abbrev PRes : Type := Nat ⊕ (PV × Nat × Nat)
def bindR (r : PRes) (k : PV → Nat → Nat → PRes) : PRes := match r with
  | .inl p => .inl p
  | .inr (v, l, q) => k v l q
def pv0 : PV := fun _ => 0
/-- 0 one, 1 term, 2 its loop, 3 sum, 4 its loop, 5 compared, 6 not, 7 and, 8 its loop, 9 or, 10 its loop -/
def psF (f : F32) (n : Nat) : Nat → Nat → Nat → Nat → PV → Nat → PRes
  | 0, _, _, q, _, _ => .inl (lpF f n q)
  | F + 1, 0, o, q, _, _ =>
    if cdF f n q = 12 then .inr (fun _ => nI (nbF f n q), 1, afF f n q)
    else if cdF f n q < 6 then .inr (fun nm => nm (cdF f n q), 1, afF f n q)
    else if cdF f n q = 45 then (if 5 ≤ o then .inl (lpF f n q) else bindR (psF f n F 0 (o + 1) (afF f n q) pv0 0) fun v l q' => .inr (fun nm => 0 - v nm, l + 2, q'))
    else if cdF f n q = 40 then (if 5 ≤ o then .inl (lpF f n q) else bindR (psF f n F 9 (o + 1) (afF f n q) pv0 0) fun v l q' => if cdF f n q' = 41 then .inr (v, l, afF f n q') else .inl (lpF f n q'))
    else .inl (lpF f n q)
  | F + 1, 1, o, q, _, _ => bindR (psF f n F 0 o q pv0 0) fun v l q' => psF f n F 2 o q' v l
  | F + 1, 2, o, q, v, l => if cdF f n q = 42 then bindR (psF f n F 0 o (afF f n q) pv0 0) fun w m q' => psF f n F 2 o q' (fun nm => v nm * w nm) (l + m + 1) else .inr (v, l, q)
  | F + 1, 3, o, q, _, _ => bindR (psF f n F 1 o q pv0 0) fun v l q' => psF f n F 4 o q' v l
  | F + 1, 4, o, q, v, l => if cdF f n q = 43 then bindR (psF f n F 1 o (afF f n q) pv0 0) fun w m q' => psF f n F 4 o q' (fun nm => v nm + w nm) (l + m + 1)
    else if cdF f n q = 45 then bindR (psF f n F 1 o (afF f n q) pv0 0) fun w m q' => psF f n F 4 o q' (fun nm => v nm - w nm) (l + m + 1) else .inr (v, l, q)
  | F + 1, 5, o, q, _, _ => bindR (psF f n F 3 o q pv0 0) fun v l q' => if cdF f n q' = 60 then bindR (psF f n F 3 o (afF f n q') pv0 0) fun w m q2 => .inr (fun nm => if v nm < w nm then 1 else 0, l + m + 1, q2)
    else if cdF f n q' = 61 then bindR (psF f n F 3 o (afF f n q') pv0 0) fun w m q2 => .inr (fun nm => if v nm = w nm then 1 else 0, l + m + 1, q2) else .inr (v, l, q')
  | F + 1, 6, o, q, _, _ => if cdF f n q = 11 then (if 5 ≤ o then .inl (lpF f n q) else bindR (psF f n F 6 (o + 1) (afF f n q) pv0 0) fun v l q' => .inr (fun nm => if v nm = 0 then 1 else 0, l + 2, q')) else psF f n F 5 o q pv0 0
  | F + 1, 7, o, q, _, _ => bindR (psF f n F 6 o q pv0 0) fun v l q' => psF f n F 8 o q' v l
  | F + 1, 8, o, q, v, l => if cdF f n q = 10 then bindR (psF f n F 6 o (afF f n q) pv0 0) fun w m q' => psF f n F 8 o q' (fun nm => if v nm = 0 then 0 else if w nm = 0 then 0 else 1) (l + m + 1) else .inr (v, l, q)
  | F + 1, 9, o, q, _, _ => bindR (psF f n F 7 o q pv0 0) fun v l q' => psF f n F 10 o q' v l
  | F + 1, _, o, q, v, l => if cdF f n q = 9 then bindR (psF f n F 7 o (afF f n q) pv0 0) fun w m q' => psF f n F 10 o q' (fun nm => if v nm = 0 then (if w nm = 0 then 0 else 1) else 1) (l + m + 1) else .inr (v, l, q)
def lpK (k : Nat) : Bool := k == 2 || k == 4 || k == 8 || k == 10
def psOk (f : F32) (n k q l : Nat) (r : PRes) : Prop := match r with
  | .inl _ => True
  | .inr (_, l', q') => q + (if lpK k then 0 else 1) ≤ q' ∧ q' ≤ n ∧ l' ≤ (if lpK k then l else 0) + 2 * (q' - q)
theorem bind_ok {f : F32} {n k1 q1 l1 k q l : Nat} {r : PRes} {g : PV → Nat → Nat → PRes} (h : psOk f n k1 q1 l1 r) (hg : ∀ v l' q', q1 + (if lpK k1 then 0 else 1) ≤ q' → q' ≤ n → l' ≤ (if lpK k1 then l1 else 0) + 2 * (q' - q1) → psOk f n k q l (g v l' q')) : psOk f n k q l (bindR r g) := by
  match r, h with
  | .inl p, _ => exact trivial
  | .inr (v, l', q'), h => exact hg v l' q' h.1 h.2.1 h.2.2
theorem ps_ok (f : F32) (n : Nat) : ∀ (F k o q : Nat) (v : PV) (l : Nat), k ≤ 10 → q ≤ n → psOk f n k q l (psF f n F k o q v l) := by
  intro F
  induction F with
  | zero => intro k o q v l _ _; cases k <;> exact trivial
  | succ F IH =>
    intro k o q v l hk hq
    have A := fun {c : Nat} (e : cdF f n q = c) (hc : c ≠ 13) => af_in (f := f) hq (by rw [e]; exact hc)
    rcases (by omega : k = 0 ∨ k = 1 ∨ k = 2 ∨ k = 3 ∨ k = 4 ∨ k = 5 ∨ k = 6 ∨ k = 7 ∨ k = 8 ∨ k = 9 ∨ k = 10) with rfl | rfl | rfl | rfl | rfl | rfl | rfl | rfl | rfl | rfl | rfl
    · unfold psF
      split
      · rename_i h
        have := A h (by omega)
        show q + 1 ≤ _ ∧ _ ≤ n ∧ 1 ≤ 0 + 2 * _
        omega
      · split
        · rename_i h
          have := af_in (f := f) hq (show ¬ cdF f n q = 13 by omega)
          show q + 1 ≤ _ ∧ _ ≤ n ∧ 1 ≤ 0 + 2 * _
          omega
        · split
          · rename_i h
            have := A h (by omega)
            split
            · exact trivial
            · refine bind_ok (IH 0 (o + 1) (afF f n q) pv0 0 (by omega) (by omega)) (fun v l' q' h1 h2 h3 => ?_)
              have h1 : afF f n q + 1 ≤ q' := h1
              have h3 : l' ≤ 0 + 2 * (q' - afF f n q) := h3
              show q + 1 ≤ q' ∧ q' ≤ n ∧ l' + 2 ≤ 0 + 2 * (q' - q)
              omega
          · split
            · rename_i h
              have := A h (by omega)
              split
              · exact trivial
              · refine bind_ok (IH 9 (o + 1) (afF f n q) pv0 0 (by omega) (by omega)) (fun v l' q' h1 h2 h3 => ?_)
                have h1 : afF f n q + 1 ≤ q' := h1
                have h3 : l' ≤ 0 + 2 * (q' - afF f n q) := h3
                split
                · rename_i h4
                  have := af_in (f := f) h2 (show ¬ cdF f n q' = 13 by omega)
                  show q + 1 ≤ afF f n q' ∧ afF f n q' ≤ n ∧ l' ≤ 0 + 2 * (afF f n q' - q)
                  omega
                · exact trivial
            · exact trivial
    · unfold psF
      refine bind_ok (IH 0 o q pv0 0 (by omega) hq) (fun v l' q' h1 h2 h3 => ?_)
      have h1 : q + 1 ≤ q' := h1
      have h3 : l' ≤ 0 + 2 * (q' - q) := h3
      have t := IH 2 o q' v l' (by omega) h2
      revert t
      match psF f n F 2 o q' v l' with
      | .inl _ => exact fun _ => trivial
      | .inr (_, l2, q2) =>
        intro t
        have t : q' + 0 ≤ q2 ∧ q2 ≤ n ∧ l2 ≤ l' + 2 * (q2 - q') := t
        show q + 1 ≤ q2 ∧ q2 ≤ n ∧ l2 ≤ 0 + 2 * (q2 - q)
        omega
    · unfold psF
      split
      · rename_i h
        have := A h (by omega)
        refine bind_ok (IH 0 o (afF f n q) pv0 0 (by omega) (by omega)) (fun w m q' h1 h2 h3 => ?_)
        have h1 : afF f n q + 1 ≤ q' := h1
        have h3 : m ≤ 0 + 2 * (q' - afF f n q) := h3
        have t := IH 2 o q' (fun nm => v nm * w nm) (l + m + 1) (by omega) h2
        revert t
        match psF f n F 2 o q' (fun nm => v nm * w nm) (l + m + 1) with
        | .inl _ => exact fun _ => trivial
        | .inr (_, l2, q2) =>
          intro t
          have t : q' + 0 ≤ q2 ∧ q2 ≤ n ∧ l2 ≤ (l + m + 1) + 2 * (q2 - q') := t
          show q + 0 ≤ q2 ∧ q2 ≤ n ∧ l2 ≤ l + 2 * (q2 - q)
          omega
      · show q + 0 ≤ q ∧ q ≤ n ∧ l ≤ l + 2 * (q - q)
        omega
    · unfold psF
      refine bind_ok (IH 1 o q pv0 0 (by omega) hq) (fun v l' q' h1 h2 h3 => ?_)
      have h1 : q + 1 ≤ q' := h1
      have h3 : l' ≤ 0 + 2 * (q' - q) := h3
      have t := IH 4 o q' v l' (by omega) h2
      revert t
      match psF f n F 4 o q' v l' with
      | .inl _ => exact fun _ => trivial
      | .inr (_, l2, q2) =>
        intro t
        have t : q' + 0 ≤ q2 ∧ q2 ≤ n ∧ l2 ≤ l' + 2 * (q2 - q') := t
        show q + 1 ≤ q2 ∧ q2 ≤ n ∧ l2 ≤ 0 + 2 * (q2 - q)
        omega
    · have step : ∀ (g : PV → PV), ¬ cdF f n q = 13 → psOk f n 4 q l (bindR (psF f n F 1 o (afF f n q) pv0 0) fun w m q' => psF f n F 4 o q' (g w) (l + m + 1)) := by
        intro g h
        have := af_in (f := f) hq h
        refine bind_ok (IH 1 o (afF f n q) pv0 0 (by omega) (by omega)) (fun w m q' h1 h2 h3 => ?_)
        have h1 : afF f n q + 1 ≤ q' := h1
        have h3 : m ≤ 0 + 2 * (q' - afF f n q) := h3
        have t := IH 4 o q' (g w) (l + m + 1) (by omega) h2
        revert t
        match psF f n F 4 o q' (g w) (l + m + 1) with
        | .inl _ => exact fun _ => trivial
        | .inr (_, l2, q2) =>
          intro t
          have t : q' + 0 ≤ q2 ∧ q2 ≤ n ∧ l2 ≤ (l + m + 1) + 2 * (q2 - q') := t
          show q + 0 ≤ q2 ∧ q2 ≤ n ∧ l2 ≤ l + 2 * (q2 - q)
          omega
      unfold psF
      split
      · rename_i h
        exact step (fun w nm => v nm + w nm) (by omega)
      · split
        · rename_i h
          exact step (fun w nm => v nm - w nm) (by omega)
        · show q + 0 ≤ q ∧ q ≤ n ∧ l ≤ l + 2 * (q - q)
          omega
    · unfold psF
      refine bind_ok (IH 3 o q pv0 0 (by omega) hq) (fun v l' q' h1 h2 h3 => ?_)
      have h1 : q + 1 ≤ q' := h1
      have h3 : l' ≤ 0 + 2 * (q' - q) := h3
      have step : ∀ (g : PV → PV), ¬ cdF f n q' = 13 → psOk f n 5 q l (bindR (psF f n F 3 o (afF f n q') pv0 0) fun w m q2 => .inr (g w, l' + m + 1, q2)) := by
        intro g h
        have := af_in (f := f) h2 h
        refine bind_ok (IH 3 o (afF f n q') pv0 0 (by omega) (by omega)) (fun w m q2 g1 g2 g3 => ?_)
        have g1 : afF f n q' + 1 ≤ q2 := g1
        have g3 : m ≤ 0 + 2 * (q2 - afF f n q') := g3
        show q + 1 ≤ q2 ∧ q2 ≤ n ∧ l' + m + 1 ≤ 0 + 2 * (q2 - q)
        omega
      dsimp only
      split
      · rename_i h
        exact step (fun w nm => if v nm < w nm then 1 else 0) (by omega)
      · split
        · rename_i h
          exact step (fun w nm => if v nm = w nm then 1 else 0) (by omega)
        · show q + 1 ≤ q' ∧ q' ≤ n ∧ l' ≤ 0 + 2 * (q' - q)
          omega
    · unfold psF
      split
      · rename_i h
        have := A h (by omega)
        split
        · exact trivial
        · refine bind_ok (IH 6 (o + 1) (afF f n q) pv0 0 (by omega) (by omega)) (fun v l' q' h1 h2 h3 => ?_)
          have h1 : afF f n q + 1 ≤ q' := h1
          have h3 : l' ≤ 0 + 2 * (q' - afF f n q) := h3
          show q + 1 ≤ q' ∧ q' ≤ n ∧ l' + 2 ≤ 0 + 2 * (q' - q)
          omega
      · exact IH 5 o q pv0 0 (by omega) hq
    · unfold psF
      refine bind_ok (IH 6 o q pv0 0 (by omega) hq) (fun v l' q' h1 h2 h3 => ?_)
      have h1 : q + 1 ≤ q' := h1
      have h3 : l' ≤ 0 + 2 * (q' - q) := h3
      have t := IH 8 o q' v l' (by omega) h2
      revert t
      match psF f n F 8 o q' v l' with
      | .inl _ => exact fun _ => trivial
      | .inr (_, l2, q2) =>
        intro t
        have t : q' + 0 ≤ q2 ∧ q2 ≤ n ∧ l2 ≤ l' + 2 * (q2 - q') := t
        show q + 1 ≤ q2 ∧ q2 ≤ n ∧ l2 ≤ 0 + 2 * (q2 - q)
        omega
    · unfold psF
      split
      · rename_i h
        have := A h (by omega)
        refine bind_ok (IH 6 o (afF f n q) pv0 0 (by omega) (by omega)) (fun w m q' h1 h2 h3 => ?_)
        have h1 : afF f n q + 1 ≤ q' := h1
        have h3 : m ≤ 0 + 2 * (q' - afF f n q) := h3
        have t := IH 8 o q' (fun nm => if v nm = 0 then 0 else if w nm = 0 then 0 else 1) (l + m + 1) (by omega) h2
        revert t
        match psF f n F 8 o q' (fun nm => if v nm = 0 then 0 else if w nm = 0 then 0 else 1) (l + m + 1) with
        | .inl _ => exact fun _ => trivial
        | .inr (_, l2, q2) =>
          intro t
          have t : q' + 0 ≤ q2 ∧ q2 ≤ n ∧ l2 ≤ (l + m + 1) + 2 * (q2 - q') := t
          show q + 0 ≤ q2 ∧ q2 ≤ n ∧ l2 ≤ l + 2 * (q2 - q)
          omega
      · show q + 0 ≤ q ∧ q ≤ n ∧ l ≤ l + 2 * (q - q)
        omega
    · unfold psF
      refine bind_ok (IH 7 o q pv0 0 (by omega) hq) (fun v l' q' h1 h2 h3 => ?_)
      have h1 : q + 1 ≤ q' := h1
      have h3 : l' ≤ 0 + 2 * (q' - q) := h3
      have t := IH 10 o q' v l' (by omega) h2
      revert t
      match psF f n F 10 o q' v l' with
      | .inl _ => exact fun _ => trivial
      | .inr (_, l2, q2) =>
        intro t
        have t : q' + 0 ≤ q2 ∧ q2 ≤ n ∧ l2 ≤ l' + 2 * (q2 - q') := t
        show q + 1 ≤ q2 ∧ q2 ≤ n ∧ l2 ≤ 0 + 2 * (q2 - q)
        omega
    · unfold psF
      split
      · rename_i h
        have := A h (by omega)
        refine bind_ok (IH 7 o (afF f n q) pv0 0 (by omega) (by omega)) (fun w m q' h1 h2 h3 => ?_)
        have h1 : afF f n q + 1 ≤ q' := h1
        have h3 : m ≤ 0 + 2 * (q' - afF f n q) := h3
        have t := IH 10 o q' (fun nm => if v nm = 0 then (if w nm = 0 then 0 else 1) else 1) (l + m + 1) (by omega) h2
        revert t
        match psF f n F 10 o q' (fun nm => if v nm = 0 then (if w nm = 0 then 0 else 1) else 1) (l + m + 1) with
        | .inl _ => exact fun _ => trivial
        | .inr (_, l2, q2) =>
          intro t
          have t : q' + 0 ≤ q2 ∧ q2 ≤ n ∧ l2 ≤ (l + m + 1) + 2 * (q2 - q') := t
          show q + 0 ≤ q2 ∧ q2 ≤ n ∧ l2 ≤ l + 2 * (q2 - q)
          omega
      · show q + 0 ≤ q ∧ q ≤ n ∧ l ≤ l + 2 * (q - q)
        omega
