-- ===== the class's words (its program's own keeping is shown apart) =====
def xo_strLen (nx : Nat) : XOp := fun E Lv Q X lv st σ => pR st fun q st => match smal st with
  | true => q = 1000003 ∧ X nx lv (.int 63 :: st) σ
  | false => False
def xo_strAt (nx : Nat) : XOp := fun E Lv Q X lv st σ => pI st fun i st => pR st fun q st => match smal st with
  | true => q = 1000003 ∧ vp_in i 63 ∧ X nx lv (.int (xByt.getD i.toNatClampNeg 0) :: st) σ
  | false => False
def pX0_nextWord_0 : List (Nat × XOp) := [(0, xo_al 0 1), (1, xo_get 0 2 4), (4, xo_al 0 5), (5, xo_get 0 1 8), (8, xo_ic_ge 43 11), (11, xo_al 0 12), (12, xo_get 0 0 15), (15, xo_al 0 16), (16, xo_get 0 2 19), (19, xo_iald 20), (20, xo_ic 97 22), (22, xo_ic 122 24), (24, xo_p3 f_within 27), (27, xo_if_eq 43 30), (30, xo_al 0 31), (31, xo_dupR 32), (32, xo_get 0 2 35), (35, xo_ic 1 36), (36, xo_iadd 37), (37, xo_putI 0 2 40), (40, xo_goto 0), (43, xo_al 0 44), (44, xo_ic 14 46), (46, xo_putI 0 3 49), (49, xo_ic 0 50), (50, xo_is 1 51), (51, xo_al 0 52), (52, xo_get 0 4 55), (55, xo_is 2 56), (56, xo_ic 1 57), (57, xo_is 3 58), (58, xo_ic 0 59), (59, xo_is 4 61), (61, xo_il 4 63), (63, xo_ref 1000003 65), (65, xo_strLen 68), (68, xo_ic_ge 156 71), (71, xo_ref 1000003 73), (73, xo_il 4 75), (75, xo_strAt 78)]
def pX0_nextWord_1 : List (Nat × XOp) := [(78, xo_ic 32 80), (80, xo_ic_eq 123 83), (83, xo_il 3 84), (84, xo_if_eq 115 87), (87, xo_il 2 88), (88, xo_al 0 89), (89, xo_get 0 2 92), (92, xo_ic_ge 115 95), (95, xo_al 0 96), (96, xo_get 0 0 99), (99, xo_il 2 100), (100, xo_iald 101), (101, xo_ref 1000003 103), (103, xo_il 4 105), (105, xo_strAt 108), (108, xo_ic_ne 115 111), (111, xo_ic 1 112), (112, xo_goto 116), (115, xo_ic 0 116), (116, xo_is 3 117), (117, xo_inc 2 1 120), (120, xo_goto 150), (123, xo_il 3 124), (124, xo_if_eq 140 127), (127, xo_il 2 128), (128, xo_al 0 129), (129, xo_get 0 2 132), (132, xo_ic_ne 140 135), (135, xo_al 0 136), (136, xo_il 1 137), (137, xo_putI 0 3 140), (140, xo_inc 1 1 143), (143, xo_al 0 144), (144, xo_get 0 4 147), (147, xo_is 2 148), (148, xo_ic 1 149), (149, xo_is 3 150), (150, xo_inc 4 1 153), (153, xo_goto 61), (156, xo_vret)]
def pX0_nextWord : List (Nat × XOp) := pX0_nextWord_0 ++ pX0_nextWord_1
/-- the words gone through, a byte a step -/
def wlF (f : F32) (p e : Nat) : List Int32 → Nat → Nat → Int32 → Int32 → Int32
  | [], _, _, _, t => t
  | b :: l, c, k, s, t => if b = 32 then wlF f p e l (c + 1) p 1 (if s = 0 then t else if k = e then nI c else t) else wlF f p e l c (k + 1) (if s = 0 then 0 else if k < e then (if f k = b then 1 else 0) else 0) t
def wjF : List (List Int32) → List Int32
  | [] => []
  | w :: ws => w ++ 32 :: wjF ws
theorem wl_word {f : F32} {p e : Nat} {l : List Int32} {c : Nat} {t : Int32} : ∀ (w : List Int32) (k : Nat) (s : Int32), (∀ b ∈ w, ¬ b = 32) → wlF f p e (w ++ 32 :: l) c k s t = wlF f p e l (c + 1) p 1 (if s = 0 then t else if mtF f w k e = true then nI c else t)
  | [], k, s, _ => by
    show (if (32 : Int32) = 32 then _ else _) = _
    rw [if_pos rfl]
    by_cases h : k = e
    · rw [if_pos h, if_pos (mt_nil.mpr h)]
    · rw [if_neg h, if_neg (fun z => h (mt_nil.mp z))]
  | b :: w, k, s, hb => by
    show (if b = 32 then _ else wlF f p e (w ++ 32 :: l) c (k + 1) (if s = 0 then 0 else if k < e then (if f k = b then 1 else 0) else 0) t) = _
    rw [if_neg (hb b (List.mem_cons_self ..)), wl_word w (k + 1) _ (fun x hx => hb x (List.mem_cons_of_mem _ hx))]
    by_cases h0 : s = 0
    · rw [if_pos h0, if_pos rfl, if_pos h0]
    · rw [if_neg h0, if_neg h0]
      by_cases h1 : k < e
      · rw [if_pos h1]
        by_cases h2 : f k = b
        · rw [if_pos h2, if_neg (by decide)]
          by_cases h3 : mtF f w (k + 1) e = true
          · rw [if_pos h3, if_pos (mt_cons.mpr ⟨h1, h2, h3⟩)]
          · rw [if_neg h3, if_neg (fun z => h3 (mt_cons.mp z).2.2)]
        · rw [if_neg h2, if_pos rfl, if_neg (fun z => h2 (mt_cons.mp z).2.1)]
      · rw [if_neg h1, if_pos rfl, if_neg (fun z => h1 (mt_cons.mp z).1)]
theorem wl_words {f : F32} {p e : Nat} : ∀ (ws : List (List Int32)) (c t : Nat), (∀ w ∈ ws, ∀ b ∈ w, ¬ b = 32) → wlF f p e (wjF ws) c p 1 (nI t) = nI (wcG f p e ws c t)
  | [], _, _, _ => rfl
  | w :: ws, c, t, hb => by
    show wlF f p e (w ++ 32 :: wjF ws) c p 1 (nI t) = nI (wcG f p e ws (c + 1) (if mtF f w p e = true then c else t))
    rw [wl_word w p 1 (hb w (List.mem_cons_self ..)), if_neg (by decide), ← wl_words ws (c + 1) _ (fun x hx => hb x (List.mem_cons_of_mem _ hx))]
    by_cases h : mtF f w p e = true
    · rw [if_pos h, if_pos h]
    · rw [if_neg h, if_neg h]
theorem wl_all (f : F32) (p e : Nat) : wlF f p e xByt 0 p 1 14 = nI (wcF f p e) := by
  have h : xByt = wjF wdL := by decide +kernel
  rw [h]
  exact wl_words wdL 0 14 (by decide +kernel)
theorem xByt_d : ∀ i, i < 63 → xByt.drop i = xByt.getD i 0 :: xByt.drop (i + 1) := by decide +kernel
section CREAD
variable (E : XEnv) (bs : F32) (n : Nat) (wh : Int32) (en wt : F32)
set_option maxRecDepth 100000 in
set_option maxHeartbeats 4000000 in
theorem l_X0_lets (hs : XPr RX0 cX0_nextWord 5 none 10 pX0_nextWord) (hn : n ≤ 160) (Q : XQ) (tok pl num op ft : Int32) (st : F32) (z : Nat) (j : Nat) : ∀ (q : Nat), q + j = n → (∀ e, e = zrnF zzLo bs n j q → XAt E RX0 cX0_nextWord 5 none 20 6 Q 43 [(0, .ref 0)] [] (cW bs n wh en wt (nI e) tok pl num op ft st z)) → XAt E RX0 cX0_nextWord 5 none 20 6 Q 0 [(0, .ref 0)] [] (cW bs n wh en wt (nI q) tok pl num op ft st z) := by
  induction j with
  | zero =>
    intro q hq k
    exact xgo hs [0, 43] 60 (xle rfl) ⟨fun _ => k q rfl, fun y => absurd (nI_le (a := n) (b := q) (by omega) (by omega)) y⟩
  | succ j IH =>
    intro q hq k
    have hc : (nI q).toNatClampNeg = q := nI_clamp (by omega)
    refine xgo hs [0, 43] 60 (xle rfl) ⟨fun y => absurd y (nI_ge (a := q) (b := n) (by omega) (by omega)), fun _ => ⟨vp_in_nI (by omega) (by omega), fun y => ?_, fun y => ?_⟩⟩
    · rw [hc] at y
      exact k q (run_n (fun x => zzLo_y.mp x y)).symm
    · rw [hc] at y
      have ih := IH (q + 1) (by omega) (fun e he => k e (by rw [run_y (by omega) (zzLo_y.mpr y)]; exact he))
      rw [nI_succ] at ih
      exact ih
set_option maxRecDepth 100000 in
set_option maxHeartbeats 4000000 in
theorem l_X0_words (hs : XPr RX0 cX0_nextWord 5 none 10 pX0_nextWord) (p e : Nat) (hp : p ≤ 160) (he : e ≤ 160) (num op ft : Int32) (st : F32) (z : Nat) (j : Nat) : ∀ (i c k : Nat) (s t : Int32), i + j = 63 → k ≤ p + i → XAt E RX0 cX0_nextWord 5 none 20 6 (fun r σ' => r = none ∧ σ' = cW bs n wh en wt (nI e) (wlF bs p e (xByt.drop i) c k s t) (nI p) num op ft st z) 61 [(0, .ref 0), (1, .int (nI c)), (2, .int (nI k)), (3, .int s), (4, .int (nI i))] [] (cW bs n wh en wt (nI e) t (nI p) num op ft st z) := by
  induction j with
  | zero =>
    intro i c k s t hi hk
    have e63 : i = 63 := by omega
    subst e63
    refine xgo hs [] 60 (xle rfl) ⟨rfl, fun _ => ⟨rfl, rfl⟩, fun y => absurd (show (63 : Int32) ≤ nI 63 by decide) y⟩
  | succ j IH =>
    intro i c k s t hi hk
    have ci : (nI i).toNatClampNeg = i := nI_clamp (by omega)
    have ck : (nI k).toNatClampNeg = k := nI_clamp (by omega)
    rw [xByt_d i (by omega)]
    obtain ⟨b, eb⟩ : ∃ b, b = xByt.getD i 0 := ⟨_, rfl⟩
    obtain ⟨l, el⟩ : ∃ l, l = xByt.drop (i + 1) := ⟨_, rfl⟩
    rw [← el, ← eb]
    -- another byte of a word
    have at116 : ∀ s', ¬ b = 32 → s' = (if s = 0 then 0 else if k < e then (if bs k = b then 1 else 0) else 0) → XAt E RX0 cX0_nextWord 5 none 20 6 (fun r σ' => r = none ∧ σ' = cW bs n wh en wt (nI e) (wlF bs p e (b :: l) c k s t) (nI p) num op ft st z) 116 [(0, .ref 0), (1, .int (nI c)), (2, .int (nI k)), (3, .int s), (4, .int (nI i))] [.int s'] (cW bs n wh en wt (nI e) t (nI p) num op ft st z) := by
      intro s' hb hs'
      have ih := IH (i + 1) c (k + 1) s' t (by omega) (by omega)
      have ew : wlF bs p e (b :: l) c k s t = wlF bs p e l c (k + 1) s' t := by
        rw [hs']
        exact if_neg hb
      rw [← el, nI_succ, nI_succ] at ih
      rw [ew]
      exact xgo hs [61] 60 (xle rfl) ih
    have at140 : ∀ t', b = 32 → t' = (if s = 0 then t else if k = e then nI c else t) → XAt E RX0 cX0_nextWord 5 none 20 6 (fun r σ' => r = none ∧ σ' = cW bs n wh en wt (nI e) (wlF bs p e (b :: l) c k s t) (nI p) num op ft st z) 140 [(0, .ref 0), (1, .int (nI c)), (2, .int (nI k)), (3, .int s), (4, .int (nI i))] [] (cW bs n wh en wt (nI e) t' (nI p) num op ft st z) := by
      intro t' hb ht'
      have ih := IH (i + 1) (c + 1) p 1 t' (by omega) (by omega)
      have ew : wlF bs p e (b :: l) c k s t = wlF bs p e l (c + 1) p 1 t' := by
        rw [ht']
        exact if_pos hb
      rw [← el, nI_succ, nI_succ] at ih
      rw [ew]
      exact xgo hs [61] 60 (xle rfl) ih
    refine xgo hs [116, 140] 60 (xle rfl) ⟨rfl, fun y => absurd y (nI_ge (a := i) (b := 63) (by omega) (by omega)), fun _ => ⟨rfl, vp_in_nI (by omega) (by omega), ?_⟩⟩
    rw [ci, ← eb]
    refine ⟨fun y => ⟨fun h0 => at140 t y (by rw [if_pos h0]), fun h0 => ⟨fun h1 => ?_, fun h1 => ?_⟩⟩, fun y => ⟨fun h0 => at116 0 y (by rw [if_pos h0]), fun h0 => ⟨fun h1 => ?_, fun h1 => ⟨?_, rfl, vp_in_nI (by omega) (by omega), ?_⟩⟩⟩⟩
    · exact at140 t y (by rw [if_neg h0, if_neg (fun x => h1 (by rw [x]))])
    · exact at140 (nI c) y (by rw [if_neg h0, if_pos ((nI_eq (by omega) (by omega)).mp h1)])
    · have := (nI_leI (a := e) (b := k) (by omega) (by omega)).mp h1
      exact at116 0 y (by rw [if_neg h0, if_neg (by omega)])
    · have hke : k < e := Nat.lt_of_not_le (fun x => h1 (nI_le x (by omega)))
      exact vp_in_nI (by omega) (by omega)
    · have hke : k < e := Nat.lt_of_not_le (fun x => h1 (nI_le x (by omega)))
      rw [ci, ck, ← eb]
      exact ⟨fun h2 => at116 0 y (by rw [if_neg h0, if_pos hke, if_neg h2]), fun h2 => at116 1 y (by rw [if_neg h0, if_pos hke, if_pos h2])⟩
set_option maxRecDepth 100000 in
set_option maxHeartbeats 4000000 in
theorem word_ok (hs : XPr RX0 cX0_nextWord 5 none 10 pX0_nextWord) (hn : n ≤ 160) : WordOk E bs n wh en wt := by
  intro tok num op ft st z p hp hl
  refine XCall.of (by decide +kernel) (xle rfl) (l_X0_lets E bs n wh en wt hs hn _ tok (nI p) num op ft st z (n - p) p (by omega) (fun e he => ?_))
  have he : e = leF zzLo bs n p := he
  have hin := run_in zzLo bs n (n - p) p (by omega)
  have hen : e ≤ n := by
    rw [he]
    exact hin.2.1
  have w := l_X0_words E bs n wh en wt hs p e (by omega) (by omega) num op ft st z 63 0 0 p 1 14 (by omega) (by omega)
  rw [show xByt.drop 0 = xByt from rfl, wl_all, he] at w
  rw [he]
  exact xgo hs [61] 60 (xle rfl) w
end CREAD
