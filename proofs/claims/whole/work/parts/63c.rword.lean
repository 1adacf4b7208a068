-- ===== the reference: words, names, what opens =====
def ltsP (f : F32) : List Int32 → Nat → Nat → Prop
  | [], _, _ => True
  | c :: cs, p, e => ¬ ltI f p e 0 c = 0 ∧ ltsP f cs (p + 1) e
theorem lt_y {f : F32} {p e i : Nat} {c : Int32} (h : p + i < e) : ¬ ltI f p e i c = 0 ↔ f (p + i) = c := by
  unfold ltI
  rw [if_pos h]
  by_cases q : f (p + i) = c
  · rw [if_pos q]
    exact ⟨fun _ => q, fun _ => by decide⟩
  · rw [if_neg q]
    exact ⟨fun z => absurd rfl z, fun z => absurd z q⟩
theorem lt_n {f : F32} {p e i : Nat} {c : Int32} (h : ¬ p + i < e) : ¬ ltI f p e i c = 0 ↔ c = 0 := by
  unfold ltI
  rw [if_neg h]
  by_cases q : c = 0
  · rw [if_pos q]
    exact ⟨fun _ => q, fun _ => by decide⟩
  · rw [if_neg q]
    exact ⟨fun z => absurd rfl z, fun z => absurd z q⟩
theorem lt_i (f : F32) (p e i : Nat) (c : Int32) : ltI f p e i c = ltI f (p + i) e 0 c := rfl
theorem lts_z {f : F32} {e : Nat} : ∀ (m p : Nat), p ≤ e → (∀ i, p ≤ i → i < e → ¬ f i = 0) → ((ltsP f (List.replicate m 0) p e ∧ e ≤ p + m) ↔ p = e)
  | 0, p, hp, _ => ⟨fun h => by have := h.2; omega, fun h => ⟨trivial, by omega⟩⟩
  | m + 1, p, hp, hz => by
    rw [List.replicate_succ]
    by_cases q : p < e
    · refine ⟨fun h => ?_, fun h => by omega⟩
      have h1 := (lt_y (f := f) (c := 0) (i := 0) (show p + 0 < e from q)).mp h.1.1
      exact absurd h1 (hz p (Nat.le_refl _) q)
    · have e1 : p = e := by omega
      refine ⟨fun _ => e1, fun _ => ⟨⟨(lt_n (show ¬ p + 0 < e from q)).mpr rfl, ?_⟩, by omega⟩⟩
      have all : ∀ (m p : Nat), e ≤ p → ltsP f (List.replicate m 0) p e := by
        intro m
        induction m with
        | zero => intro _ _; exact trivial
        | succ m ih =>
          intro p hp
          exact ⟨(lt_n (show ¬ p + 0 < e by omega)).mpr rfl, ih (p + 1) (by omega)⟩
      exact all m (p + 1) (by omega)
theorem lts_w {f : F32} {e : Nat} (m : Nat) : ∀ (w : List Int32) (p : Nat), (∀ c ∈ w, ¬ c = 0) → p ≤ e → (∀ i, p ≤ i → i < e → ¬ f i = 0) → ((ltsP f (w ++ List.replicate m 0) p e ∧ e ≤ p + (w.length + m)) ↔ mtF f w p e = true)
  | [], p, _, hp, hz => by
    rw [List.nil_append, mt_nil]
    have := lts_z (f := f) m p hp hz
    rw [← this]
    show (_ ∧ e ≤ p + (0 + m)) ↔ _
    rw [Nat.zero_add]
  | c :: w, p, hc, hp, hz => by
    rw [mt_cons, List.cons_append]
    by_cases q : p < e
    · have ih := lts_w (f := f) m w (p + 1) (fun c hc' => hc c (List.mem_cons_of_mem _ hc')) q (fun i h1 h2 => hz i (by omega) h2)
      have y := lt_y (f := f) (c := c) (i := 0) (show p + 0 < e from q)
      constructor
      · intro h
        exact ⟨q, y.mp h.1.1, ih.mp ⟨h.1.2, by have h2 : e ≤ p + (w.length + 1 + m) := h.2; omega⟩⟩
      · intro h
        have h3 := ih.mpr h.2.2
        exact ⟨⟨y.mpr h.2.1, h3.1⟩, by show e ≤ p + (w.length + 1 + m); omega⟩
    · constructor
      · intro h
        have := (lt_n (f := f) (c := c) (i := 0) (show ¬ p + 0 < e from q)).mp h.1.1
        exact absurd this (hc c List.mem_cons_self)
      · intro h
        exact absurd h.1 q
def wgL (i : Nat) : List Int32 := wdL.getD i [] ++ List.replicate (8 - (wdL.getD i []).length) 0
section MODEL
variable (E : XEnv) (A : AS) (h : YQ) (f : F32) (n b0 : Nat)
set_option maxRecDepth 100000 in
set_option maxHeartbeats 4000000 in
theorem c_X5_isWordL (hH : RdH h f n b0) (p e : Nat) (he : e ≤ n) (hp : p ≤ n) (w : Int64) (op fl a1 a2 a3 a4 a5 a6 a7 a8 : Int32) : XCall E 12 yX5_isWord cX5_isWord 9 (some .boolean) [.ref 0, .int a1, .int a2, .int a3, .int a4, .int a5, .int a6, .int a7, .int a8] (mR A h (nI e) 1 (nI p) w op 0 fl) (fun r σ' => ∃ v, r = some (.int v) ∧ (¬ v = 0 ↔ (ltsP f [a1, a2, a3, a4, a5, a6, a7, a8] p e ∧ e ≤ p + 8)) ∧ σ' = mR A h (nI e) 1 (nI p) w op 0 fl) := by
  have hn := hH.2.2.1
  have L := fun (i : Nat) (hi : i < 8) (c : Int32) => c_X5_isLetter E A h f n b0 hH p e he 1 w op 0 fl i hi hp c
  have no : ¬ (ltsP f [a1, a2, a3, a4, a5, a6, a7, a8] p e ∧ e ≤ p + 8) → XAt E RX5 cX5_isWord 9 (some .boolean) 12 16 (fun r σ' => ∃ v, r = some (.int v) ∧ (¬ v = 0 ↔ (ltsP f [a1, a2, a3, a4, a5, a6, a7, a8] p e ∧ e ≤ p + 8)) ∧ σ' = mR A h (nI e) 1 (nI p) w op 0 fl) 112 [(0, .ref 0), (1, .int a1), (2, .int a2), (3, .int a3), (4, .int a4), (5, .int a5), (6, .int a6), (7, .int a7), (8, .int a8)] [] (mR A h (nI e) 1 (nI p) w op 0 fl) := by
    intro z
    exact xgo sX5_isWord [] 100 (xle rfl) ⟨Or.inl rfl, 0, rfl, ⟨fun y => absurd rfl y, fun y => absurd y z⟩, rfl⟩
  have e8 : nI p + 8 = nI (p + 8) := nI_add p 8
  refine XCall.of (by decide +kernel) (xle rfl) (xgo sX5_isWord [112] 100 (xle rfl) ⟨fun z => absurd rfl z, fun _ => ⟨fun z => absurd rfl z, fun _ => ⟨fun z => no (fun y => ?_), fun z => XIn.same (xle rfl) (L 0 (by omega) a1) (fun r σ' _ y => ?_)⟩⟩⟩)
  · rw [e8] at z
    have := (nI_ltI (by omega) (by omega)).mp z
    omega
  obtain ⟨rfl, rfl⟩ := y
  refine ⟨fun y => no (fun t => t.1.1 y), fun y1 => XIn.same (xle rfl) (L 1 (by omega) a2) (fun r σ' _ y => ?_)⟩
  obtain ⟨rfl, rfl⟩ := y
  refine ⟨fun y => no (fun t => t.1.2.1 y), fun y2 => XIn.same (xle rfl) (L 2 (by omega) a3) (fun r σ' _ y => ?_)⟩
  obtain ⟨rfl, rfl⟩ := y
  refine ⟨fun y => no (fun t => t.1.2.2.1 y), fun y3 => XIn.same (xle rfl) (L 3 (by omega) a4) (fun r σ' _ y => ?_)⟩
  obtain ⟨rfl, rfl⟩ := y
  refine ⟨fun y => no (fun t => t.1.2.2.2.1 y), fun y4 => XIn.same (xle rfl) (L 4 (by omega) a5) (fun r σ' _ y => ?_)⟩
  obtain ⟨rfl, rfl⟩ := y
  refine ⟨fun y => no (fun t => t.1.2.2.2.2.1 y), fun y5 => XIn.same (xle rfl) (L 5 (by omega) a6) (fun r σ' _ y => ?_)⟩
  obtain ⟨rfl, rfl⟩ := y
  refine ⟨fun y => no (fun t => t.1.2.2.2.2.2.1 y), fun y6 => XIn.same (xle rfl) (L 6 (by omega) a7) (fun r σ' _ y => ?_)⟩
  obtain ⟨rfl, rfl⟩ := y
  refine ⟨fun y => no (fun t => t.1.2.2.2.2.2.2.1 y), fun y7 => XIn.same (xle rfl) (L 7 (by omega) a8) (fun r σ' _ y => ?_)⟩
  obtain ⟨rfl, rfl⟩ := y
  refine ⟨fun y => no (fun t => t.1.2.2.2.2.2.2.2.1 y), fun y8 => ?_⟩
  rw [e8] at z
  have hle : e ≤ p + 8 := Nat.le_of_not_lt (fun y => z (nI_lt y (by omega)))
  exact ⟨Or.inr rfl, 1, rfl, ⟨fun _ => ⟨⟨y1, y2, y3, y4, y5, y6, y7, y8, trivial⟩, hle⟩, fun _ => by decide⟩, rfl⟩
set_option maxRecDepth 100000 in
theorem c_X5_isWordN (he tk ta : Int32) (w : Int64) (op bd fl a1 a2 a3 a4 a5 a6 a7 a8 : Int32) (hN : ¬ bd = 0 ∨ ¬ tk = 1) : XCall E 12 yX5_isWord cX5_isWord 9 (some .boolean) [.ref 0, .int a1, .int a2, .int a3, .int a4, .int a5, .int a6, .int a7, .int a8] (mR A h he tk ta w op bd fl) (fun r σ' => r = some (.int 0) ∧ σ' = mR A h he tk ta w op bd fl) :=
  XCall.of (by decide +kernel) (xle rfl) (xgo sX5_isWord [15] 100 (xle rfl) ⟨fun _ => ⟨Or.inl rfl, rfl, rfl⟩, fun z => ⟨fun _ => ⟨Or.inl rfl, rfl, rfl⟩, fun z2 => hN.elim (fun y => absurd z y) (fun y => absurd z2 y)⟩⟩)
theorem lo_ne0 {b : Int32} (h : zzLo b = true) : ¬ b = 0 := fun z => by
  rw [z] at h
  exact absurd h (by decide)
theorem wd_ne0 : ∀ w ∈ wdL, (∀ c ∈ w, ¬ c = 0) ∧ w.length ≤ 8 := by decide
/-- is it the i-th word -/
theorem word_k {q : Nat} (hq : q ≤ n) {i : Nat} (hi : i < 12) (k : kdF f n q = 1) (hlt : lpF f n q < n) (hlo : zzLo (f (lpF f n q)) = true) : (ltsP f (wgL i) (lpF f n q) (afF f n q) ∧ afF f n q ≤ lpF f n q + 8) ↔ cdF f n q = i := by
  obtain ⟨w, hw⟩ : ∃ w, wdL[i]? = some w := ⟨_, List.getElem?_eq_getElem (show i < wdL.length from hi)⟩
  have hm : w ∈ wdL := List.mem_of_getElem? hw
  obtain ⟨w1, w2⟩ := wd_ne0 w hm
  have eg : wgL i = w ++ List.replicate (8 - w.length) 0 := by
    unfold wgL
    rw [List.getD_eq_getElem?_getD, hw]
    rfl
  have r := run_in zzLo f n (n - lpF f n q) (lpF f n q) (by omega)
  have t := lts_w (f := f) (e := leF zzLo f n (lpF f n q)) (8 - w.length) w (lpF f n q) w1 r.1 (fun j h1 h2 => lo_ne0 (r.2.2.1 j h1 h2))
  rw [show w.length + (8 - w.length) = 8 by omega] at t
  rw [eg, af_1 k, cd_1 k, t]
  exact (wc_iff hw).symm
set_option maxRecDepth 100000 in
set_option maxHeartbeats 4000000 in
theorem c_X5_word (hH : RdH h f n b0) {q : Nat} (hq : q ≤ n) {he tk ta : Int32} {w : Int64} (hT : RT f n q he tk ta w) (op fl : Int32) (i : Nat) (hi : i < 12) : XCall E 12 yX5_isWord cX5_isWord 9 (some .boolean) (.ref 0 :: (wgL i).map Value.int) (mR A h he tk ta w op 0 fl) (fun r σ' => ∃ v, r = some (.int v) ∧ (¬ v = 0 ↔ cdF f n q = i) ∧ σ' = mR A h he tk ta w op 0 fl) := by
  obtain ⟨a1, a2, a3, a4, a5, a6, a7, a8, ea⟩ : ∃ a1 a2 a3 a4 a5 a6 a7 a8, wgL i = [a1, a2, a3, a4, a5, a6, a7, a8] := by
    rcases (by omega : i = 0 ∨ i = 1 ∨ i = 2 ∨ i = 3 ∨ i = 4 ∨ i = 5 ∨ i = 6 ∨ i = 7 ∨ i = 8 ∨ i = 9 ∨ i = 10 ∨ i = 11) with rfl | rfl | rfl | rfl | rfl | rfl | rfl | rfl | rfl | rfl | rfl | rfl <;> exact ⟨_, _, _, _, _, _, _, _, rfl⟩
  by_cases k1 : kdF f n q = 1
  · rcases hT.2 with ⟨k, _⟩ | ⟨_, k, e⟩ | ⟨k, _⟩ | ⟨k, _⟩ | ⟨k, _⟩ | ⟨k, _⟩
    · omega
    · have ha := hT.1
      subst k e ha
      rcases kd_is f n q with ⟨k, _⟩ | ⟨_, hlt, hlo⟩ | ⟨k, _⟩ | ⟨k, _⟩ | ⟨k, _⟩
      · omega
      · have hle := le_in hlt hlo
        have c := c_X5_isWordL E A h f n b0 hH (lpF f n q) (afF f n q) (by rw [af_1 k1]; exact hle.2) (by omega) w op fl a1 a2 a3 a4 a5 a6 a7 a8
        rw [← ea] at c
        rw [ea]
        refine c.mono (fun r σ' _ z => ?_)
        obtain ⟨v, z1, z2, z3⟩ := z
        exact ⟨v, z1, z2.trans (word_k f n hq hi k1 hlt hlo), z3⟩
      · omega
      · omega
      · omega
    · omega
    · omega
    · omega
    · omega
  · have ht : ¬ tk = 1 := by
      rcases hT.2 with ⟨_, k⟩ | ⟨k, _⟩ | ⟨_, _, k, _⟩ | ⟨_, _, k⟩ | ⟨_, k, _⟩ | ⟨_, k⟩
      · rw [k]; decide
      · exact absurd k k1
      · rw [k]; decide
      · rw [k]; decide
      · rw [k]; decide
      · rw [k]; decide
    have hc : ¬ cdF f n q = i := by
      rcases cd_kd f n q with ⟨_, y⟩ | ⟨y, _⟩ | ⟨_, y⟩ | ⟨_, y⟩ | ⟨_, y⟩
      · omega
      · exact absurd y k1
      · omega
      · omega
      · omega
    rw [ea]
    exact (c_X5_isWordN E A h he tk ta w op 0 fl a1 a2 a3 a4 a5 a6 a7 a8 (Or.inr ht)).mono (fun r σ' _ z => ⟨0, z.1, ⟨fun y => absurd rfl y, fun y => absurd y hc⟩, z.2⟩)
/-- the state in which the token read from q on is at hand, o open, no fault -/
def RG (q o : Nat) (σ : XW) : Prop := ∃ he tk ta w fl, RT f n q he tk ta w ∧ σ = mR A h he tk ta w (nI o) 0 fl
/-- the state behind a fault at p -/
def RB (p : Nat) (σ : XW) : Prop := ∃ he tk ta w op, σ = mR A h he tk ta w op 1 (nI p)
theorem RT.he {f : F32} {n q : Nat} {he tk ta : Int32} {w : Int64} (hT : RT f n q he tk ta w) (hg : cdF f n q < 13 ∨ 14 < cdF f n q) : he = nI (afF f n q) := by
  rcases hT.2 with ⟨k, _⟩ | ⟨_, _, k⟩ | ⟨_, _, _, _, k⟩ | ⟨_, k, _⟩ | ⟨_, _, _, k⟩ | ⟨k, _⟩
  · have := cd_0 k; omega
  · exact k
  · exact k
  · omega
  · exact k
  · have := cd_4 k; omega
set_option maxRecDepth 100000 in
theorem c_X5_nextG (hH : RdH h f n b0) {q : Nat} (hq : q ≤ n) (hg : cdF f n q < 13 ∨ 14 < cdF f n q) (o : Nat) {he tk ta : Int32} {w : Int64} (hT : RT f n q he tk ta w) (fl : Int32) : XCall E 11 yX5_next cX5_next 3 none [.ref 0] (mR A h he tk ta w (nI o) 0 fl) (fun r σ' => r = none ∧ RG A h f n (afF f n q) o σ') := by
  rw [hT.he hg]
  refine (c_X5_next E A h f n b0 hH (afF f n q) (af_in hq (by omega)).2.2.2 tk ta w (nI o) 0 fl).mono (fun r σ' _ z => ?_)
  obtain ⟨z1, he', tk', ta', w', z2, z3⟩ := z
  exact ⟨z1, he', tk', ta', w', fl, z2, z3⟩
set_option maxRecDepth 100000 in
set_option maxHeartbeats 4000000 in
theorem c_X5_opens (hH : RdH h f n b0) {q : Nat} (hq : q ≤ n) (hg : cdF f n q < 13 ∨ 14 < cdF f n q) (o : Nat) (ho : o ≤ 5) {he tk ta : Int32} {w : Int64} (hT : RT f n q he tk ta w) (fl : Int32) : XCall E 12 yX5_opens cX5_opens 1 (some .boolean) [.ref 0] (mR A h he tk ta w (nI o) 0 fl) (fun r σ' => (5 ≤ o ∧ r = some (.int 0) ∧ RB A h (lpF f n q) σ') ∨ (o < 5 ∧ r = some (.int 1) ∧ RG A h f n (afF f n q) (o + 1) σ')) := by
  have cf := c_X5_fail E A h he tk (lpF f n q) w (nI o) fl
  rw [← hT.1] at cf
  have cn := c_X5_nextG E A h f n b0 hH hq hg (o + 1) hT fl
  rw [nI_succ] at cn
  refine XCall.of (by decide +kernel) (xle rfl) (xgo sX5_opens [] 60 (xle rfl) ⟨fun z => ?_, fun z => ?_⟩)
  · have hne : o < 5 := by
      rcases (by omega : o = 5 ∨ o < 5) with y | y
      · exact absurd (by rw [y]; rfl) z
      · exact y
    refine XIn.same (xle rfl) cn (fun r σ' _ y => ?_)
    obtain ⟨rfl, y⟩ := y
    exact ⟨Or.inr rfl, Or.inr ⟨hne, rfl, y⟩⟩
  · have he5 : o = 5 := (nI_eq (b := 5) (by omega) (by omega)).mp z
    refine XIn.same (xle rfl) cf (fun r σ' _ y => ?_)
    obtain ⟨rfl, rfl⟩ := y
    exact ⟨Or.inl rfl, Or.inl ⟨by omega, rfl, he, tk, ta, w, nI o, by rw [hT.1]⟩⟩
/-- what the names stand for -/
def nmR (h : YQ) : F32 := fun j => if j = 0 then h.o1 else if j = 1 then h.o2 else if j = 2 then h.o3 else if j = 3 then h.o4 else if j = 4 then h.o5 else if j = 5 then h.o6 else 0
set_option maxRecDepth 100000 in
set_option maxHeartbeats 4000000 in
theorem c_X5_name (hH : RdH h f n b0) {q : Nat} (hq : q ≤ n) (o : Nat) {he tk ta : Int32} {w : Int64} (hT : RT f n q he tk ta w) (fl : Int32) : XCall E 13 yX5_name cX5_name 1 (some .int) [.ref 0] (mR A h he tk ta w (nI o) 0 fl) (fun r σ' => (cdF f n q < 6 ∧ r = some (.int (nmR h (cdF f n q))) ∧ σ' = mR A h he tk ta w (nI o) 0 fl) ∨ (¬ cdF f n q < 6 ∧ r = some (.int 0) ∧ RB A h (lpF f n q) σ')) := by
  have cf := c_X5_fail E A h he tk (lpF f n q) w (nI o) fl
  rw [← hT.1] at cf
  have W := fun (i : Nat) (hi : i < 12) => c_X5_word E A h f n b0 hH hq hT (nI o) fl i hi
  refine XCall.of (by decide +kernel) (xle rfl) (xgo sX5_name [] 200 (xle rfl) (XIn.same (xle rfl) (W 0 (by omega)) (fun r σ' _ z => ?_)))
  obtain ⟨v0, rfl, e0, rfl⟩ := z
  refine ⟨fun z0 => XIn.same (xle rfl) (W 1 (by omega)) (fun r σ' _ z => ?_), fun z0 => Or.inl ?_⟩
  · obtain ⟨v1, rfl, e1, rfl⟩ := z
    refine ⟨fun z1 => XIn.same (xle rfl) (W 2 (by omega)) (fun r σ' _ z => ?_), fun z1 => Or.inl ?_⟩
    · obtain ⟨v2, rfl, e2, rfl⟩ := z
      refine ⟨fun z2 => XIn.same (xle rfl) (W 3 (by omega)) (fun r σ' _ z => ?_), fun z2 => Or.inl ?_⟩
      · obtain ⟨v3, rfl, e3, rfl⟩ := z
        refine ⟨fun z3 => XIn.same (xle rfl) (W 4 (by omega)) (fun r σ' _ z => ?_), fun z3 => Or.inl ?_⟩
        · obtain ⟨v4, rfl, e4, rfl⟩ := z
          refine ⟨fun z4 => XIn.same (xle rfl) (W 5 (by omega)) (fun r σ' _ z => ?_), fun z4 => Or.inl ?_⟩
          · obtain ⟨v5, rfl, e5, rfl⟩ := z
            refine ⟨fun z5 => XIn.same (xle rfl) cf (fun r σ' _ z => ?_), fun z5 => Or.inl ?_⟩
            · obtain ⟨rfl, rfl⟩ := z
              have a0 : ¬ cdF f n q = 0 := fun y => e0.mpr y z0
              have a1 : ¬ cdF f n q = 1 := fun y => e1.mpr y z1
              have a2 : ¬ cdF f n q = 2 := fun y => e2.mpr y z2
              have a3 : ¬ cdF f n q = 3 := fun y => e3.mpr y z3
              have a4 : ¬ cdF f n q = 4 := fun y => e4.mpr y z4
              have a5 : ¬ cdF f n q = 5 := fun y => e5.mpr y z5
              exact Or.inr ⟨by omega, rfl, he, tk, ta, w, nI o, by rw [hT.1]⟩
            · have c5 := e5.mp z5
              exact ⟨by omega, by rw [c5]; rfl, rfl⟩
          · have c4 := e4.mp z4
            exact ⟨by omega, by rw [c4]; rfl, rfl⟩
        · have c3 := e3.mp z3
          exact ⟨by omega, by rw [c3]; rfl, rfl⟩
      · have c2 := e2.mp z2
        exact ⟨by omega, by rw [c2]; rfl, rfl⟩
    · have c1 := e1.mp z1
      exact ⟨by omega, by rw [c1]; rfl, rfl⟩
  · have c0 := e0.mp z0
    exact ⟨by omega, by rw [c0]; rfl, rfl⟩
end MODEL
