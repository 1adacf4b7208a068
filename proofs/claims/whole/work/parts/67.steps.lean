-- ===== steps run: an expression's =====
def exF (st nm : F32) : Nat → Nat → Nat → F32 → Option (Nat × F32)
  | 0, _, top, wt => some (top, wt)
  | j + 1, i, top, wt =>
    if -7 < st i then
      (if 64 ≤ top then none else exF st nm j (i + 1) (top + 1) (upd wt top (if st i < 0 then nm (-1 - st i).toNatClampNeg else st i)))
    else if top < 2 then none else exF st nm j (i + 1) (top - 1) (upd wt (top - 2) (f_join (st i) (wt (top - 2)) (wt (top - 1))))
theorem rt_ex {st nm : F32} : ∀ (len i top : Nat) (wt : F32) (t : Nat) (w : F32) (r : Nat), exF st nm len i top wt = some (t, w) → rtF st nm (len + r) i top wt = rtF st nm r (i + len) t w
  | 0, i, top, wt, t, w, r, h => by
    cases h
    rw [Nat.zero_add]
    rfl
  | j + 1, i, top, wt, t, w, r, h => by
    rw [show j + 1 + r = (j + r) + 1 by omega]
    unfold exF at h
    show (if -7 < st i then _ else _) = _
    by_cases h7 : -7 < st i
    · rw [if_pos h7] at h ⊢
      by_cases h64 : 64 ≤ top
      · rw [if_pos h64] at h
        cases h
      · rw [if_neg h64] at h ⊢
        rw [rt_ex j (i + 1) (top + 1) _ t w r h, show i + 1 + j = i + (j + 1) by omega]
    · rw [if_neg h7] at h ⊢
      by_cases h2 : top < 2
      · rw [if_pos h2] at h
        cases h
      · rw [if_neg h2] at h ⊢
        rw [rt_ex j (i + 1) (top - 1) _ t w r h, show i + 1 + j = i + (j + 1) by omega]
theorem ex_congr {st st' nm : F32} : ∀ (len i top : Nat) (wt : F32), (∀ x, i ≤ x → x < i + len → st' x = st x) → exF st' nm len i top wt = exF st nm len i top wt
  | 0, _, _, _, _ => rfl
  | j + 1, i, top, wt, h => by
    unfold exF
    rw [h i (Nat.le_refl _) (by omega), ex_congr j (i + 1) (top + 1) _ (fun x h1 h2 => h x (by omega) (by omega)), ex_congr j (i + 1) (top - 1) _ (fun x h1 h2 => h x (by omega) (by omega))]
theorem ex_add {st nm : F32} : ∀ (a b i top : Nat) (wt : F32) (t : Nat) (w : F32), exF st nm a i top wt = some (t, w) → exF st nm (a + b) i top wt = exF st nm b (i + a) t w
  | 0, b, i, top, wt, t, w, h => by
    cases h
    rw [Nat.zero_add]
    rfl
  | j + 1, b, i, top, wt, t, w, h => by
    rw [show j + 1 + b = (j + b) + 1 by omega]
    unfold exF at h
    show (if -7 < st i then _ else _) = _
    by_cases h7 : -7 < st i
    · rw [if_pos h7] at h ⊢
      by_cases h64 : 64 ≤ top
      · rw [if_pos h64] at h
        cases h
      · rw [if_neg h64] at h ⊢
        rw [ex_add j b (i + 1) (top + 1) _ t w h, show i + 1 + j = i + (j + 1) by omega]
    · rw [if_neg h7] at h ⊢
      by_cases h2 : top < 2
      · rw [if_pos h2] at h
        cases h
      · rw [if_neg h2] at h ⊢
        rw [ex_add j b (i + 1) (top - 1) _ t w h, show i + 1 + j = i + (j + 1) by omega]
def Ev (st nm : F32) (i len : Nat) (v : Int32) (d : Nat) : Prop := ∀ (top : Nat) (wt : F32), top + d ≤ 64 → ∃ wt', exF st nm len i top wt = some (top + 1, wt') ∧ (∀ j, j < top → wt' j = wt j) ∧ wt' top = v
theorem Ev.mono {st nm : F32} {i len : Nat} {v : Int32} {d d' : Nat} (h : Ev st nm i len v d) (hd : d ≤ d') : Ev st nm i len v d' := fun top wt ht => h top wt (by omega)
theorem Ev.congr {st st' nm : F32} {i len : Nat} {v : Int32} {d : Nat} (h : Ev st nm i len v d) (hs : ∀ x, i ≤ x → x < i + len → st' x = st x) : Ev st' nm i len v d := by
  intro top wt ht
  obtain ⟨w, e, a, b⟩ := h top wt ht
  exact ⟨w, by rw [ex_congr len i top wt hs]; exact e, a, b⟩
theorem Ev.push {st nm : F32} {i : Nat} {v : Int32} {d : Nat} (h7 : -7 < st i) (hv : (if st i < 0 then nm (-1 - st i).toNatClampNeg else st i) = v) (hd : 1 ≤ d) : Ev st nm i 1 v d := by
  intro top wt ht
  refine ⟨upd wt top v, ?_, fun j hj => pk_un (by omega), pk_us⟩
  unfold exF
  rw [if_pos h7, if_neg (by omega), hv]
  rfl
theorem Ev.num {st nm : F32} {i k : Nat} {d : Nat} (hk : k < 2147483648) (e : st i = nI k) (hd : 1 ≤ d) : Ev st nm i 1 (nI k) d := by
  have h0 : (0 : Int32) ≤ nI k := nI_pos' hk
  refine Ev.push ?_ ?_ hd
  · rw [e]
    exact Int32.lt_of_lt_of_le (by decide) h0
  · rw [e, if_neg (Int32.not_lt.mpr h0)]
theorem Ev.nam {st nm : F32} {i c : Nat} {d : Nat} (hc : c < 6) (e : st i = -1 - nI c) (hd : 1 ≤ d) : Ev st nm i 1 (nm c) d := by
  refine Ev.push ?_ ?_ hd
  · rw [e]
    rcases (by omega : c = 0 ∨ c = 1 ∨ c = 2 ∨ c = 3 ∨ c = 4 ∨ c = 5) with rfl | rfl | rfl | rfl | rfl | rfl <;> decide
  · rw [e]
    rcases (by omega : c = 0 ∨ c = 1 ∨ c = 2 ∨ c = 3 ∨ c = 4 ∨ c = 5) with rfl | rfl | rfl | rfl | rfl | rfl
    · rw [if_pos (by decide), show (-1 - (-1 - nI 0) : Int32).toNatClampNeg = 0 by decide +kernel]
    · rw [if_pos (by decide), show (-1 - (-1 - nI 1) : Int32).toNatClampNeg = 1 by decide +kernel]
    · rw [if_pos (by decide), show (-1 - (-1 - nI 2) : Int32).toNatClampNeg = 2 by decide +kernel]
    · rw [if_pos (by decide), show (-1 - (-1 - nI 3) : Int32).toNatClampNeg = 3 by decide +kernel]
    · rw [if_pos (by decide), show (-1 - (-1 - nI 4) : Int32).toNatClampNeg = 4 by decide +kernel]
    · rw [if_pos (by decide), show (-1 - (-1 - nI 5) : Int32).toNatClampNeg = 5 by decide +kernel]
theorem Ev.bin {st nm : F32} {i a b : Nat} {v w c : Int32} {d1 d2 d : Nat} (h1 : Ev st nm i a v d1) (h2 : Ev st nm (i + a) b w d2) (ec : st (i + a + b) = c) (h7 : ¬ -7 < c) (l1 : d1 ≤ d) (l2 : d2 + 1 ≤ d) : Ev st nm i (a + b + 1) (f_join c v w) d := by
  intro top wt ht
  obtain ⟨w1, e1, a1, b1⟩ := h1 top wt (by omega)
  obtain ⟨w2, e2, a2, b2⟩ := h2 (top + 1) w1 (by omega)
  refine ⟨upd w2 top (f_join c v w), ?_, fun j hj => ?_, pk_us⟩
  · rw [show a + b + 1 = a + (b + 1) by omega, ex_add a (b + 1) i top wt (top + 1) w1 e1, ex_add b 1 (i + a) (top + 1) w1 (top + 1 + 1) w2 e2]
    unfold exF
    rw [ec, if_neg h7, if_neg (by omega), show top + 1 + 1 - 1 = top + 1 by omega, show top + 1 + 1 - 2 = top by omega, a2 top (by omega), b1, b2]
    rfl
  · rw [pk_un (by omega), a2 j (by omega), a1 j hj]
-- ===== the class's reader: small methods =====
section CREAD
variable (E : XEnv) (bs : F32) (n : Nat) (wh : Int32) (en wt : F32)
theorem tAdd {Lv : Nat} {K : XQ} (hL : 10 < Lv) {at' tok pl num op ft : Int32} {st : F32} {z : Nat} (s : Int32) (hz : z < 320) (k : K none (cW bs n wh en wt at' tok pl num op ft (upd st z s) (z + 1))) : XIn E Lv yX3_add cX3_add 2 none [.ref 2, .int s] (cW bs n wh en wt at' tok pl num op ft st z) K := by
  refine XIn.sub [2, 3, 4, 5] hL (c_X3_add E wh z st en wt s (by omega)) (by decide) (xle rfl) rfl rfl (fun r σ' _ hq => ?_)
  obtain ⟨rfl, ⟨q, _⟩ | ⟨_, rfl⟩⟩ := hq
  · omega
  · exact k
theorem tAddB {Lv : Nat} {K : XQ} (hL : 10 < Lv) {at' tok pl num op ft : Int32} {st : F32} {z : Nat} (s : Int32) (hz : z ≤ 320) (k : ∀ st' z', z' ≤ 320 → K none (cW bs n wh en wt at' tok pl num op ft st' z')) : XIn E Lv yX3_add cX3_add 2 none [.ref 2, .int s] (cW bs n wh en wt at' tok pl num op ft st z) K := by
  refine XIn.sub [2, 3, 4, 5] hL (c_X3_add E wh z st en wt s hz) (by decide) (xle rfl) rfl rfl (fun r σ' _ hq => ?_)
  obtain ⟨rfl, ⟨_, rfl⟩ | ⟨q, rfl⟩⟩ := hq
  · exact k st z hz
  · exact k (upd st z s) (z + 1) (by omega)
set_option maxRecDepth 100000 in
theorem c_X0_fails (at' tok pl num op : Int32) (st : F32) (z : Nat) : XCall E 10 yX0_fails cX0_fails 1 none [.ref 0] (cW bs n wh en wt at' tok pl num op (-1) st z) (fun r σ' => r = none ∧ σ' = cW bs n wh en wt at' 14 pl num op pl st z) :=
  XCall.of (by decide +kernel) (xle rfl) (xgo sX0_fails [] 60 (xle rfl) ⟨fun y => absurd rfl y, fun _ => ⟨rfl, rfl⟩⟩)
set_option maxRecDepth 100000 in
theorem c_X0_failsB (at' tok pl num op : Int32) (p : Nat) (hp : p < 2147483648) (st : F32) (z : Nat) : XCall E 10 yX0_fails cX0_fails 1 none [.ref 0] (cW bs n wh en wt at' tok pl num op (nI p) st z) (fun r σ' => r = none ∧ σ' = cW bs n wh en wt at' 14 pl num op (nI p) st z) :=
  XCall.of (by decide +kernel) (xle rfl) (xgo sX0_fails [] 60 (xle rfl) ⟨fun _ => ⟨rfl, rfl⟩, fun y => absurd y (nI_m1 hp)⟩)
/-- behind a fault at p -/
def CB (p : Nat) (σ : XW) : Prop := p < 2147483648 ∧ ∃ at' pl num op st z, z ≤ 320 ∧ σ = cW bs n wh en wt at' 14 pl num op (nI p) st z
/-- all is well, the token read from q on at hand, o open, z steps -/
def CG (q o : Nat) (st : F32) (z : Nat) (σ : XW) : Prop := ∃ num, CN bs n q num ∧ σ = cW bs n wh en wt (nI (afF bs n q)) (nI (cdF bs n q)) (nI (lpF bs n q)) num (nI o) (-1) st z
theorem cd_lt (q : Nat) : cdF bs n q < 100 := by
  rcases cd_kd bs n q with ⟨_, y⟩ | ⟨_, y⟩ | ⟨_, y⟩ | ⟨_, y⟩ | ⟨_, y⟩ <;> omega
theorem cd_eq {q c : Nat} (hc : c < 100) : nI (cdF bs n q) = nI c ↔ cdF bs n q = c := nI_eq (by have := cd_lt bs n q; omega) (by omega)
theorem c_X0_nextC (hW : WordOk E bs n wh en wt) (hn : n ≤ 160) {q : Nat} (hq : q ≤ n) (hg : ¬ cdF bs n q = 13) (o : Nat) (tok pl num : Int32) (st : F32) (z : Nat) : XCall E 21 yX0_next cX0_next 1 none [.ref 0] (cW bs n wh en wt (nI (afF bs n q)) tok pl num (nI o) (-1) st z) (fun r σ' => r = none ∧ CG bs n wh en wt (afF bs n q) o st z σ') :=
  (c_X0_next E bs n wh en wt hW hn (afF bs n q) (af_in hq hg).2.2.2 tok pl num (nI o) (-1) st z).mono (fun r σ' _ y => ⟨y.1, y.2.elim fun num' e => ⟨num', e⟩⟩)
set_option maxRecDepth 100000 in
theorem c_X0_opens (hW : WordOk E bs n wh en wt) (hn : n ≤ 160) {q : Nat} (hq : q ≤ n) (hg : ¬ cdF bs n q = 13) (o : Nat) (ho : o ≤ 5) (num : Int32) (st : F32) (z : Nat) (hz : z ≤ 320) : XCall E 22 yX0_opens cX0_opens 1 (some .boolean) [.ref 0] (cW bs n wh en wt (nI (afF bs n q)) (nI (cdF bs n q)) (nI (lpF bs n q)) num (nI o) (-1) st z) (fun r σ' => (5 ≤ o ∧ r = some (.int 0) ∧ CB bs n wh en wt (lpF bs n q) σ') ∨ (o < 5 ∧ r = some (.int 1) ∧ CG bs n wh en wt (afF bs n q) (o + 1) st z σ')) := by
  have cn := c_X0_nextC E bs n wh en wt hW hn hq hg (o + 1) (nI (cdF bs n q)) (nI (lpF bs n q)) num st z
  rw [nI_succ] at cn
  refine XCall.of (by decide +kernel) (xle rfl) (xgo sX0_opens [] 60 (xle rfl) ⟨fun y => ?_, fun y => ?_⟩)
  · have h5 := (nI_ltI (b := 5) (by omega) (by omega)).mp y
    refine XIn.same (xle rfl) cn (fun r σ' _ x => ?_)
    obtain ⟨rfl, x⟩ := x
    exact ⟨Or.inr rfl, Or.inr ⟨h5, rfl, x⟩⟩
  · have h5 : 5 ≤ o := Nat.le_of_not_lt (fun x => y (nI_lt (b := 5) x (by omega)))
    refine XIn.same (xle rfl) (c_X0_fails E bs n wh en wt (nI (afF bs n q)) (nI (cdF bs n q)) (nI (lpF bs n q)) num (nI o) st z) (fun r σ' _ x => ?_)
    obtain ⟨rfl, rfl⟩ := x
    exact ⟨Or.inl rfl, Or.inl ⟨h5, rfl, by have := lp_in (f := bs) hq; omega, _, _, _, _, st, z, hz, rfl⟩⟩
set_option maxRecDepth 100000 in
theorem c_X0_needs (hW : WordOk E bs n wh en wt) (hn : n ≤ 160) {q : Nat} (hq : q ≤ n) (c : Nat) (hc : c < 100) (h13 : ¬ c = 13) (o : Nat) (num : Int32) (st : F32) (z : Nat) (hz : z ≤ 320) : XCall E 22 yX0_needs cX0_needs 2 none [.ref 0, .int (nI c)] (cW bs n wh en wt (nI (afF bs n q)) (nI (cdF bs n q)) (nI (lpF bs n q)) num (nI o) (-1) st z) (fun r σ' => r = none ∧ ((cdF bs n q = c ∧ CG bs n wh en wt (afF bs n q) o st z σ') ∨ (¬ cdF bs n q = c ∧ CB bs n wh en wt (lpF bs n q) σ'))) := by
  refine XCall.of (by decide +kernel) (xle rfl) (xgo sX0_needs [] 60 (xle rfl) ⟨fun y => ?_, fun y => ?_⟩)
  · have hne : ¬ cdF bs n q = c := fun x => y ((cd_eq bs n hc).mpr x)
    refine XIn.same (xle rfl) (c_X0_fails E bs n wh en wt (nI (afF bs n q)) (nI (cdF bs n q)) (nI (lpF bs n q)) num (nI o) st z) (fun r σ' _ x => ?_)
    obtain ⟨rfl, rfl⟩ := x
    exact ⟨rfl, Or.inr ⟨hne, by have := lp_in (f := bs) hq; omega, _, _, _, _, st, z, hz, rfl⟩⟩
  · have he := (cd_eq bs n hc).mp y
    refine XIn.same (xle rfl) (c_X0_nextC E bs n wh en wt hW hn hq (by omega) o (nI (cdF bs n q)) (nI (lpF bs n q)) num st z) (fun r σ' _ x => ?_)
    obtain ⟨rfl, x⟩ := x
    exact ⟨rfl, Or.inl ⟨he, x⟩⟩
set_option maxRecDepth 100000 in
theorem c_X0_needsB (c : Nat) (hc : c < 100) (h14 : ¬ c = 14) (at' pl num op : Int32) (p : Nat) (hp : p < 2147483648) (st : F32) (z : Nat) : XCall E 22 yX0_needs cX0_needs 2 none [.ref 0, .int (nI c)] (cW bs n wh en wt at' 14 pl num op (nI p) st z) (fun r σ' => r = none ∧ σ' = cW bs n wh en wt at' 14 pl num op (nI p) st z) := by
  refine XCall.of (by decide +kernel) (xle rfl) (xgo sX0_needs [] 60 (xle rfl) ⟨fun y => XIn.same (xle rfl) (c_X0_failsB E bs n wh en wt at' 14 pl num op p hp st z) (fun r σ' _ x => ?_), fun y => absurd ((nI_eq (a := 14) (b := c) (by omega) (by omega)).mp y) (by omega)⟩)
  obtain ⟨rfl, rfl⟩ := x
  exact ⟨rfl, rfl⟩
-- ===== behind a fault nothing is read =====
set_option maxRecDepth 100000 in
theorem f_X0_one (at' pl num op : Int32) (p : Nat) (hp : p < 2147483648) (st : F32) (z : Nat) : XCall E 22 yX0_readOne cX0_readOne 1 none [.ref 0] (cW bs n wh en wt at' 14 pl num op (nI p) st z) (fun r σ' => r = none ∧ σ' = cW bs n wh en wt at' 14 pl num op (nI p) st z) := by
  refine XCall.of (by decide +kernel) (xle rfl) (xgo sX0_readOne [] 100 (xle rfl) ⟨fun _ => ⟨fun _ => ⟨fun _ => ⟨fun _ => XIn.same (xle rfl) (c_X0_failsB E bs n wh en wt at' 14 pl num op p hp st z) (fun r σ' _ x => ?_), fun y => absurd y (by decide)⟩, fun y => absurd y (by decide)⟩, fun y => absurd (by decide) y⟩, fun y => absurd y (by decide)⟩)
  obtain ⟨rfl, rfl⟩ := x
  exact ⟨rfl, rfl⟩
set_option maxRecDepth 100000 in
theorem f_X0_term (at' pl num op : Int32) (p : Nat) (hp : p < 2147483648) (st : F32) (z : Nat) : XCall E 23 yX0_readTerm cX0_readTerm 2 none [.ref 0] (cW bs n wh en wt at' 14 pl num op (nI p) st z) (fun r σ' => r = none ∧ σ' = cW bs n wh en wt at' 14 pl num op (nI p) st z) := by
  refine XCall.of (by decide +kernel) (xle rfl) (xgo sX0_readTerm [] 100 (xle rfl) (XIn.same (xle rfl) (f_X0_one E bs n wh en wt at' pl num op p hp st z) (fun r σ' _ x => ?_)))
  obtain ⟨rfl, rfl⟩ := x
  exact ⟨fun _ => ⟨rfl, rfl⟩, fun _ => ⟨fun _ => ⟨rfl, rfl⟩, fun y => absurd y (by decide)⟩⟩
set_option maxRecDepth 100000 in
theorem f_X0_sum (at' pl num op : Int32) (p : Nat) (hp : p < 2147483648) (st : F32) (z : Nat) : XCall E 24 yX0_readSum cX0_readSum 3 none [.ref 0] (cW bs n wh en wt at' 14 pl num op (nI p) st z) (fun r σ' => r = none ∧ σ' = cW bs n wh en wt at' 14 pl num op (nI p) st z) := by
  refine XCall.of (by decide +kernel) (xle rfl) (xgo sX0_readSum [] 100 (xle rfl) (XIn.same (xle rfl) (f_X0_term E bs n wh en wt at' pl num op p hp st z) (fun r σ' _ x => ?_)))
  obtain ⟨rfl, rfl⟩ := x
  exact ⟨fun _ => ⟨rfl, rfl⟩, fun _ => ⟨fun y => absurd y (by decide), fun _ => ⟨fun _ => ⟨rfl, rfl⟩, fun y => absurd y (by decide)⟩⟩⟩
set_option maxRecDepth 100000 in
theorem f_X0_cmp (at' pl num op : Int32) (p : Nat) (hp : p < 2147483648) (st : F32) (z : Nat) : XCall E 25 yX0_readCompared cX0_readCompared 2 none [.ref 0] (cW bs n wh en wt at' 14 pl num op (nI p) st z) (fun r σ' => r = none ∧ σ' = cW bs n wh en wt at' 14 pl num op (nI p) st z) := by
  refine XCall.of (by decide +kernel) (xle rfl) (xgo sX0_readCompared [] 100 (xle rfl) (XIn.same (xle rfl) (f_X0_sum E bs n wh en wt at' pl num op p hp st z) (fun r σ' _ x => ?_)))
  obtain ⟨rfl, rfl⟩ := x
  exact ⟨fun y => absurd y (by decide), fun _ => ⟨fun _ => ⟨rfl, rfl⟩, fun y => absurd y (by decide)⟩⟩
set_option maxRecDepth 100000 in
theorem f_X0_not (at' pl num op : Int32) (p : Nat) (hp : p < 2147483648) (st : F32) (z : Nat) : XCall E 26 yX0_readNot cX0_readNot 1 none [.ref 0] (cW bs n wh en wt at' 14 pl num op (nI p) st z) (fun r σ' => r = none ∧ σ' = cW bs n wh en wt at' 14 pl num op (nI p) st z) := by
  refine XCall.of (by decide +kernel) (xle rfl) (xgo sX0_readNot [] 100 (xle rfl) ⟨fun y => absurd y (by decide), fun _ => XIn.same (xle rfl) (f_X0_cmp E bs n wh en wt at' pl num op p hp st z) (fun r σ' _ x => ?_)⟩)
  obtain ⟨rfl, rfl⟩ := x
  exact ⟨rfl, rfl⟩
set_option maxRecDepth 100000 in
theorem f_X0_and (at' pl num op : Int32) (p : Nat) (hp : p < 2147483648) (st : F32) (z : Nat) : XCall E 27 yX0_readAnd cX0_readAnd 2 none [.ref 0] (cW bs n wh en wt at' 14 pl num op (nI p) st z) (fun r σ' => r = none ∧ σ' = cW bs n wh en wt at' 14 pl num op (nI p) st z) := by
  refine XCall.of (by decide +kernel) (xle rfl) (xgo sX0_readAnd [] 100 (xle rfl) (XIn.same (xle rfl) (f_X0_not E bs n wh en wt at' pl num op p hp st z) (fun r σ' _ x => ?_)))
  obtain ⟨rfl, rfl⟩ := x
  exact ⟨fun _ => ⟨rfl, rfl⟩, fun _ => ⟨fun _ => ⟨rfl, rfl⟩, fun y => absurd y (by decide)⟩⟩
set_option maxRecDepth 100000 in
theorem f_X0_or (at' pl num op : Int32) (p : Nat) (hp : p < 2147483648) (st : F32) (z : Nat) : XCall E 28 yX0_readOr cX0_readOr 2 none [.ref 0] (cW bs n wh en wt at' 14 pl num op (nI p) st z) (fun r σ' => r = none ∧ σ' = cW bs n wh en wt at' 14 pl num op (nI p) st z) := by
  refine XCall.of (by decide +kernel) (xle rfl) (xgo sX0_readOr [] 100 (xle rfl) (XIn.same (xle rfl) (f_X0_and E bs n wh en wt at' pl num op p hp st z) (fun r σ' _ x => ?_)))
  obtain ⟨rfl, rfl⟩ := x
  exact ⟨fun _ => ⟨rfl, rfl⟩, fun _ => ⟨fun _ => ⟨rfl, rfl⟩, fun y => absurd y (by decide)⟩⟩
end CREAD
