-- ===== the law's cases =====
abbrev LLoc (i : Nat) : XL := [(0, .ref 1000005), (1, .ref 0), (2, .ref 61), (3, .int (nI i))]
abbrev LAt (E : XEnv) (pc : Nat) (lv : XL) (st : List Value) (σ : XW) : Prop := XAt E RL cL_law 4 (some .boolean) 112 77 (fun r _ => r = some (.int 1)) pc lv st σ
def LNext (E : XEnv) (i : Nat) : Prop := ∀ (A : AS) (g : GQ) (h : YQ), BI A h → LAt E 1070 (LLoc i) [] (lW A g A h)
theorem lvp {i n : Nat} (k : Nat) (c : Int32) (hc : c = nI k) (h : i + 6 ≤ n) (hk : k < 6) (hn : n ≤ 3072) : vp_in (nI i + c) n := by
  rw [hc, nI_add]
  exact vp_in_nI (by omega) (by omega)
theorem lg_self (x : Int64) : lg_cmp x x = 0 := by
  unfold lg_cmp
  simp
set_option maxRecDepth 100000 in
set_option maxHeartbeats 4000000 in
theorem lc_0 (E : XEnv) {i : Nat} (hi : i + 6 ≤ E.2.1) (hL : E.2.1 ≤ 3072) {A : AS} (g : GQ) {h : YQ} (hB : BI A h) (ih : LNext E i) : LAt E 168 (LLoc i) [] (lW A g A h) := by
  refine xgo sL_0 [1070] 100 (xle rfl) ⟨lvp 1 1 rfl hi (by decide) hL, lvp 2 2 rfl hi (by decide) hL, lvp 3 3 rfl hi (by decide) hL, ?_⟩
  refine gLC A g A h (xle rfl) rfl (c_X4_set (E := E) (A := A) (g := g) hB.1.1 _ _ _) (fun r σ1 q => ?_)
  obtain ⟨rfl, g1, rfl⟩ := q
  refine ⟨_, g1, rfl, ⟨lvp 1 1 rfl hi (by decide) hL, lvp 2 2 rfl hi (by decide) hL, lvp 3 3 rfl hi (by decide) hL, ?_⟩⟩
  refine gLR _ g1 A h (xle rfl) rfl (b_set E hB _ _ _) (fun r σ1 q => ?_)
  obtain ⟨rfl, h1, hB1, rfl⟩ := q
  exact ⟨_, h1, rfl, ⟨fun _ => ih _ g1 _ hB1, fun z => absurd rfl z⟩⟩
set_option maxRecDepth 100000 in
set_option maxHeartbeats 4000000 in
theorem lc_1 (E : XEnv) {i : Nat} (hi : i + 6 ≤ E.2.1) (hL : E.2.1 ≤ 3072) {A : AS} (g : GQ) {h : YQ} (hB : BI A h) (ih : LNext E i) : LAt E 211 (LLoc i) [] (lW A g A h) := by
  refine xgo sL_1 [1070] 100 (xle rfl) ⟨lvp 1 1 rfl hi (by decide) hL, lvp 2 2 rfl hi (by decide) hL, lvp 3 3 rfl hi (by decide) hL, ?_⟩
  refine gLC A g A h (xle rfl) rfl (c_X4_wright (E := E) (A := A) (g := g) hB.1.1 _ _ _) (fun r σ1 q => ?_)
  obtain ⟨rfl, g1, rfl⟩ := q
  refine ⟨_, g1, rfl, ⟨lvp 1 1 rfl hi (by decide) hL, lvp 2 2 rfl hi (by decide) hL, lvp 3 3 rfl hi (by decide) hL, ?_⟩⟩
  refine gLR _ g1 A h (xle rfl) rfl (b_wright E hB _ _ _) (fun r σ1 q => ?_)
  obtain ⟨rfl, h1, hB1, rfl⟩ := q
  exact ⟨_, h1, rfl, ⟨fun _ => ih _ g1 _ hB1, fun z => absurd rfl z⟩⟩
set_option maxRecDepth 100000 in
set_option maxHeartbeats 4000000 in
theorem lc_2 (E : XEnv) {i : Nat} (hi : i + 6 ≤ E.2.1) (hL : E.2.1 ≤ 3072) {A : AS} (g : GQ) {h : YQ} (hB : BI A h) (ih : LNext E i) : LAt E 254 (LLoc i) [] (lW A g A h) := by
  refine xgo sL_2 [1070] 100 (xle rfl) ⟨lvp 1 1 rfl hi (by decide) hL, lvp 2 2 rfl hi (by decide) hL, ?_⟩
  refine gLC A g A h (xle rfl) rfl (c_X4_told (E := E) (A := A) (g := g) hB.1.1 _ _) (fun r σ1 q => ?_)
  obtain ⟨rfl, g1, rfl⟩ := q
  refine ⟨_, g1, rfl, ⟨lvp 1 1 rfl hi (by decide) hL, lvp 2 2 rfl hi (by decide) hL, ?_⟩⟩
  refine gLR _ g1 A h (xle rfl) rfl (b_told E hB _ _) (fun r σ1 q => ?_)
  obtain ⟨rfl, h1, hB1, rfl⟩ := q
  exact ⟨_, h1, rfl, ⟨fun _ => ih _ g1 _ hB1, fun z => absurd rfl z⟩⟩
set_option maxRecDepth 100000 in
set_option maxHeartbeats 4000000 in
theorem lc_3 (E : XEnv) {i : Nat} (hi : i + 6 ≤ E.2.1) (hL : E.2.1 ≤ 3072) {A : AS} (g : GQ) {h : YQ} (hB : BI A h) (ih : LNext E i) : LAt E 287 (LLoc i) [] (lW A g A h) := by
  refine xgo sL_3 [1070] 100 (xle rfl) ⟨lvp 1 1 rfl hi (by decide) hL, lvp 2 2 rfl hi (by decide) hL, lvp 3 3 rfl hi (by decide) hL, ?_⟩
  refine gLC A g A h (xle rfl) rfl (c_X4_asks (E := E) (A := A) (g := g) hB.1.1 _ _ _) (fun r σ1 q => ?_)
  obtain ⟨rfl, g1, rfl⟩ := q
  refine ⟨_, g1, rfl, ⟨lvp 1 1 rfl hi (by decide) hL, lvp 2 2 rfl hi (by decide) hL, lvp 3 3 rfl hi (by decide) hL, ?_⟩⟩
  refine gLR _ g1 A h (xle rfl) rfl (b_asks E hB _ _ _) (fun r σ1 q => ?_)
  obtain ⟨rfl, h1, hB1, rfl⟩ := q
  exact ⟨_, h1, rfl, ⟨fun _ => ih _ g1 _ hB1, fun z => absurd rfl z⟩⟩
set_option maxRecDepth 100000 in
set_option maxHeartbeats 4000000 in
theorem lc_4 (E : XEnv) {i : Nat} (hi : i + 6 ≤ E.2.1) (hL : E.2.1 ≤ 3072) {A : AS} (g : GQ) {h : YQ} (hB : BI A h) (ih : LNext E i) : LAt E 330 (LLoc i) [] (lW A g A h) := by
  refine xgo sL_4 [1070] 100 (xle rfl) ⟨lvp 1 1 rfl hi (by decide) hL, ?_⟩
  refine gLC A g A h (xle rfl) rfl (c_X4_feed (E := E) (A := A) (g := g) hB.1.1 _) (fun r σ1 q => ?_)
  obtain ⟨rfl, g1, rfl⟩ := q
  refine ⟨_, g1, rfl, ⟨lvp 1 1 rfl hi (by decide) hL, ?_⟩⟩
  refine gLR _ g1 A h (xle rfl) rfl (b_feed E hB _) (fun r σ1 q => ?_)
  obtain ⟨rfl, h1, hB1, rfl⟩ := q
  exact ⟨_, h1, rfl, ⟨fun _ => ih _ g1 _ hB1, fun z => absurd rfl z⟩⟩
set_option maxRecDepth 100000 in
set_option maxHeartbeats 4000000 in
theorem lc_6 (E : XEnv) {i : Nat} (hi : i + 6 ≤ E.2.1) (hL : E.2.1 ≤ 3072) {A : AS} (g : GQ) {h : YQ} (hB : BI A h) (ih : LNext E i) : LAt E 366 (LLoc i) [] (lW A g A h) := by
  refine xgo sL_6 [1070] 100 (xle rfl) ⟨lvp 1 1 rfl hi (by decide) hL, ?_⟩
  refine gLC A g A h (xle rfl) rfl (c_X4_force (E := E) (A := A) (g := g) hB.1.1 _) (fun r σ1 q => ?_)
  obtain ⟨rfl, g1, rfl⟩ := q
  refine ⟨_, g1, rfl, ⟨lvp 1 1 rfl hi (by decide) hL, ?_⟩⟩
  refine gLR _ g1 A h (xle rfl) rfl (b_force E hB _) (fun r σ1 q => ?_)
  obtain ⟨rfl, h1, hB1, rfl⟩ := q
  exact ⟨_, h1, rfl, ⟨fun _ => ih _ g1 _ hB1, fun z => absurd rfl z⟩⟩
set_option maxRecDepth 100000 in
set_option maxHeartbeats 4000000 in
theorem lc_7 (E : XEnv) {i : Nat} (hi : i + 6 ≤ E.2.1) (hL : E.2.1 ≤ 3072) {A : AS} (g : GQ) {h : YQ} (hB : BI A h) (ih : LNext E i) : LAt E 389 (LLoc i) [] (lW A g A h) := by
  refine xgo sL_7 [1070] 100 (xle rfl) ⟨lvp 1 1 rfl hi (by decide) hL, lvp 2 2 rfl hi (by decide) hL, ?_⟩
  refine gLC A g A h (xle rfl) rfl (c_X4_builds (E := E) (A := A) (g := g) hB.1.1 _ _) (fun r σ1 q => ?_)
  obtain ⟨rfl, g1, rfl⟩ := q
  refine ⟨_, g1, rfl, ⟨lvp 1 1 rfl hi (by decide) hL, lvp 2 2 rfl hi (by decide) hL, ?_⟩⟩
  refine gLR _ g1 A h (xle rfl) rfl (b_builds E hB _ _) (fun r σ1 q => ?_)
  obtain ⟨rfl, h1, hB1, rfl⟩ := q
  exact ⟨_, h1, rfl, ⟨fun _ => ih _ g1 _ hB1, fun z => absurd rfl z⟩⟩
set_option maxRecDepth 100000 in
set_option maxHeartbeats 4000000 in
theorem lc_8 (E : XEnv) {i : Nat} (hi : i + 6 ≤ E.2.1) (hL : E.2.1 ≤ 3072) {A : AS} (g : GQ) {h : YQ} (hB : BI A h) (ih : LNext E i) : LAt E 422 (LLoc i) [] (lW A g A h) := by
  refine xgo sL_8 [1070] 100 (xle rfl) ?_
  refine gLC A g A h (xle rfl) rfl (c_X4_bound (E := E) (A := A) (g := g) hB.1.1) (fun r σ1 q => ?_)
  obtain ⟨rfl, g1, rfl⟩ := q
  refine ⟨_, g1, rfl, ?_⟩
  refine gLR _ g1 A h (xle rfl) rfl (b_bound E hB) (fun r σ1 q => ?_)
  obtain ⟨rfl, h1, hB1, rfl⟩ := q
  exact ⟨_, h1, rfl, ⟨fun _ => ih _ g1 _ hB1, fun z => absurd rfl z⟩⟩
set_option maxRecDepth 100000 in
set_option maxHeartbeats 4000000 in
theorem lc_9 (E : XEnv) {i : Nat} (hi : i + 6 ≤ E.2.1) (hL : E.2.1 ≤ 3072) {A : AS} (g : GQ) {h : YQ} (hB : BI A h) (ih : LNext E i) : LAt E 435 (LLoc i) [] (lW A g A h) := by
  refine xgo sL_9 [1070] 100 (xle rfl) ?_
  refine gLC A g A h (xle rfl) rfl (c_X4_home (E := E) (A := A) (g := g) hB.1.1) (fun r σ1 q => ?_)
  obtain ⟨rfl, g1, rfl⟩ := q
  refine ⟨_, g1, rfl, ?_⟩
  refine gLR _ g1 A h (xle rfl) rfl (b_home E hB) (fun r σ1 q => ?_)
  obtain ⟨rfl, h1, hB1, rfl⟩ := q
  exact ⟨_, h1, rfl, ⟨fun _ => ih _ g1 _ hB1, fun z => absurd rfl z⟩⟩
set_option maxRecDepth 100000 in
set_option maxHeartbeats 4000000 in
theorem lc_10 (E : XEnv) {i : Nat} (hi : i + 6 ≤ E.2.1) (hL : E.2.1 ≤ 3072) {A : AS} (g : GQ) {h : YQ} (hB : BI A h) (ih : LNext E i) : LAt E 448 (LLoc i) [] (lW A g A h) := by
  refine xgo sL_10 [1070] 100 (xle rfl) ?_
  refine gLC A g A h (xle rfl) rfl (c_X4_day (E := E) (A := A) (g := g) hB.1.1) (fun r σ1 q => ?_)
  obtain ⟨rfl, g1, rfl⟩ := q
  refine ⟨_, g1, rfl, ?_⟩
  refine gLR _ g1 A h (xle rfl) rfl (b_day E hB) (fun r σ1 q => ?_)
  obtain ⟨rfl, h1, hB1, rfl⟩ := q
  exact ⟨_, h1, rfl, ⟨fun _ => ih _ g1 _ hB1, fun z => absurd rfl z⟩⟩
set_option maxRecDepth 100000 in
set_option maxHeartbeats 4000000 in
theorem lc_11 (E : XEnv) {i : Nat} (hi : i + 6 ≤ E.2.1) (hL : E.2.1 ≤ 3072) {A : AS} (g : GQ) {h : YQ} (hB : BI A h) (ih : LNext E i) : LAt E 461 (LLoc i) [] (lW A g A h) := by
  refine xgo sL_11 [1070] 100 (xle rfl) ⟨lvp 1 1 rfl hi (by decide) hL, lvp 2 2 rfl hi (by decide) hL, ?_⟩
  refine gLC A g A h (xle rfl) rfl (c_X4_run (E := E) (A := A) (g := g) hB.1.1 _ _) (fun r σ1 q => ?_)
  obtain ⟨rfl, g1, rfl⟩ := q
  refine ⟨_, g1, rfl, ⟨lvp 1 1 rfl hi (by decide) hL, lvp 2 2 rfl hi (by decide) hL, ?_⟩⟩
  refine gLR _ g1 A h (xle rfl) rfl (b_run E hB _ _) (fun r σ1 q => ?_)
  obtain ⟨rfl, h1, hB1, rfl⟩ := q
  exact ⟨_, h1, rfl, ⟨fun _ => ih _ g1 _ hB1, fun z => absurd rfl z⟩⟩
set_option maxRecDepth 100000 in
set_option maxHeartbeats 4000000 in
theorem lc_12 (E : XEnv) {i : Nat} (hi : i + 6 ≤ E.2.1) (hL : E.2.1 ≤ 3072) {A : AS} (g : GQ) {h : YQ} (hB : BI A h) (ih : LNext E i) : LAt E 494 (LLoc i) [] (lW A g A h) := by
  refine xgo sL_12 [1070] 100 (xle rfl) ?_
  refine gLC A g A h (xle rfl) rfl (c_X4_down (E := E) (A := A) (g := g) hB.1.1) (fun r σ1 q => ?_)
  obtain ⟨rfl, g1, rfl⟩ := q
  refine ⟨_, g1, rfl, ?_⟩
  refine gLR _ g1 A h (xle rfl) rfl (b_down E hB) (fun r σ1 q => ?_)
  obtain ⟨rfl, h1, hB1, rfl⟩ := q
  exact ⟨_, h1, rfl, ⟨fun _ => ih _ g1 _ hB1, fun z => absurd rfl z⟩⟩
set_option maxRecDepth 100000 in
set_option maxHeartbeats 4000000 in
theorem lc_13 (E : XEnv) {i : Nat} (hi : i + 6 ≤ E.2.1) (hL : E.2.1 ≤ 3072) {A : AS} (g : GQ) {h : YQ} (hB : BI A h) (ih : LNext E i) : LAt E 507 (LLoc i) [] (lW A g A h) := by
  refine xgo sL_13 [1070] 100 (xle rfl) ⟨lvp 1 1 rfl hi (by decide) hL, lvp 2 2 rfl hi (by decide) hL, ?_⟩
  refine gLC A g A h (xle rfl) rfl (c_X4_yard (E := E) (A := A) (g := g) hB.1.1 _ _) (fun r σ1 q => ?_)
  obtain ⟨rfl, g1, rfl⟩ := q
  refine ⟨_, g1, rfl, ⟨lvp 1 1 rfl hi (by decide) hL, lvp 2 2 rfl hi (by decide) hL, ?_⟩⟩
  refine gLR _ g1 A h (xle rfl) rfl (b_yard E hB _ _) (fun r σ1 q => ?_)
  obtain ⟨rfl, h1, hB1, rfl⟩ := q
  exact ⟨_, h1, rfl, ⟨fun _ => ih _ g1 _ hB1, fun z => absurd rfl z⟩⟩
set_option maxRecDepth 100000 in
set_option maxHeartbeats 4000000 in
theorem lc_14 (E : XEnv) {i : Nat} (hi : i + 6 ≤ E.2.1) (hL : E.2.1 ≤ 3072) {A : AS} (g : GQ) {h : YQ} (hB : BI A h) (ih : LNext E i) : LAt E 540 (LLoc i) [] (lW A g A h) := by
  refine xgo sL_14 [1070] 100 (xle rfl) ⟨lvp 1 1 rfl hi (by decide) hL, ?_⟩
  refine gLC A g A h (xle rfl) rfl (c_X4_stands (E := E) (A := A) (g := g) hB.1.1 _) (fun r σ1 q => ?_)
  obtain ⟨rfl, g1, rfl⟩ := q
  refine ⟨_, g1, rfl, ⟨lvp 1 1 rfl hi (by decide) hL, ?_⟩⟩
  refine gLR _ g1 A h (xle rfl) rfl (b_stands E hB _) (fun r σ1 q => ?_)
  obtain ⟨rfl, h1, hB1, rfl⟩ := q
  exact ⟨_, h1, rfl, ⟨fun _ => ih _ g1 _ hB1, fun z => absurd rfl z⟩⟩
set_option maxRecDepth 100000 in
set_option maxHeartbeats 4000000 in
theorem lc_15 (E : XEnv) {i : Nat} (hi : i + 6 ≤ E.2.1) (hL : E.2.1 ≤ 3072) {A : AS} (g : GQ) {h : YQ} (hB : BI A h) (ih : LNext E i) : LAt E 563 (LLoc i) [] (lW A g A h) := by
  refine xgo sL_15 [1070] 100 (xle rfl) ⟨lvp 1 1 rfl hi (by decide) hL, lvp 2 2 rfl hi (by decide) hL, ?_⟩
  refine gLC A g A h (xle rfl) rfl (c_X4_go (E := E) (A := A) (g := g) hB.1.1 _ _) (fun r σ1 q => ?_)
  obtain ⟨rfl, g1, rfl⟩ := q
  refine ⟨_, g1, rfl, ⟨lvp 1 1 rfl hi (by decide) hL, lvp 2 2 rfl hi (by decide) hL, ?_⟩⟩
  refine gLR _ g1 A h (xle rfl) rfl (b_go E hB _ _) (fun r σ1 q => ?_)
  obtain ⟨rfl, h1, hB1, rfl⟩ := q
  exact ⟨_, h1, rfl, ⟨fun _ => ih _ g1 _ hB1, fun z => absurd rfl z⟩⟩
set_option maxRecDepth 100000 in
set_option maxHeartbeats 4000000 in
theorem lc_16 (E : XEnv) {i : Nat} (hi : i + 6 ≤ E.2.1) (hL : E.2.1 ≤ 3072) {A : AS} (g : GQ) {h : YQ} (hB : BI A h) (ih : LNext E i) : LAt E 596 (LLoc i) [] (lW A g A h) := by
  refine xgo sL_16 [1070] 100 (xle rfl) ?_
  refine gLC A g A h (xle rfl) rfl (c_X4_worst (E := E) (A := A) (g := g) hB.1.1) (fun r σ1 q => ?_)
  obtain ⟨rfl, g1, rfl⟩ := q
  refine ⟨_, g1, rfl, ?_⟩
  refine gLR _ g1 A h (xle rfl) rfl (b_worst E hB) (fun r σ1 q => ?_)
  obtain ⟨rfl, h1, hB1, rfl⟩ := q
  exact ⟨_, h1, rfl, ⟨fun _ => ih _ g1 _ hB1, fun z => absurd rfl z⟩⟩
set_option maxRecDepth 100000 in
set_option maxHeartbeats 4000000 in
theorem lc_17 (E : XEnv) {i : Nat} (hi : i + 6 ≤ E.2.1) (hL : E.2.1 ≤ 3072) {A : AS} (g : GQ) {h : YQ} (hB : BI A h) (ih : LNext E i) : LAt E 609 (LLoc i) [] (lW A g A h) := by
  refine xgo sL_17 [1070] 100 (xle rfl) ⟨lvp 1 1 rfl hi (by decide) hL, ?_⟩
  refine gLC A g A h (xle rfl) rfl (c_X4_mean (E := E) (A := A) (g := g) _) (fun r σ1 q => ?_)
  obtain ⟨rfl, g1, rfl⟩ := q
  refine ⟨_, g1, rfl, ⟨lvp 1 1 rfl hi (by decide) hL, ?_⟩⟩
  refine gLR _ g1 A h (xle rfl) rfl (b_mean E hB _) (fun r σ1 q => ?_)
  obtain ⟨rfl, h1, hB1, rfl⟩ := q
  exact ⟨_, h1, rfl, ⟨fun _ => ih _ g1 _ hB1, fun z => absurd (lg_self _) z⟩⟩
set_option maxRecDepth 100000 in
set_option maxHeartbeats 4000000 in
theorem lc_18 (E : XEnv) {i : Nat} (hi : i + 6 ≤ E.2.1) (hL : E.2.1 ≤ 3072) {A : AS} (g : GQ) {h : YQ} (hB : BI A h) (ih : LNext E i) : LAt E 633 (LLoc i) [] (lW A g A h) := by
  refine xgo sL_18 [1070] 100 (xle rfl) ⟨lvp 1 1 rfl hi (by decide) hL, lvp 2 2 rfl hi (by decide) hL, lvp 3 3 rfl hi (by decide) hL, ?_⟩
  refine gLC A g A h (xle rfl) rfl (c_X4_tells (E := E) (A := A) (g := g) hB.1.1 _ _ _) (fun r σ1 q => ?_)
  obtain ⟨rfl, g1, rfl⟩ := q
  refine ⟨_, g1, rfl, ⟨lvp 1 1 rfl hi (by decide) hL, lvp 2 2 rfl hi (by decide) hL, lvp 3 3 rfl hi (by decide) hL, ?_⟩⟩
  refine gLR _ g1 A h (xle rfl) rfl (b_tells E hB _ _ _) (fun r σ1 q => ?_)
  obtain ⟨rfl, h1, hB1, rfl⟩ := q
  exact ⟨_, h1, rfl, ⟨fun _ => ih _ g1 _ hB1, fun z => absurd rfl z⟩⟩
set_option maxRecDepth 100000 in
set_option maxHeartbeats 4000000 in
theorem lc_19 (E : XEnv) {i : Nat} (hi : i + 6 ≤ E.2.1) (hL : E.2.1 ≤ 3072) {A : AS} (g : GQ) {h : YQ} (hB : BI A h) (ih : LNext E i) : LAt E 676 (LLoc i) [] (lW A g A h) := by
  refine xgo sL_19 [1070] 100 (xle rfl) ⟨lvp 1 1 rfl hi (by decide) hL, lvp 2 2 rfl hi (by decide) hL, ?_⟩
  refine gLC A g A h (xle rfl) rfl (c_X4_film (E := E) (A := A) (g := g) hB.1.1 _ _) (fun r σ1 q => ?_)
  obtain ⟨rfl, g1, rfl⟩ := q
  refine ⟨_, g1, rfl, ⟨lvp 1 1 rfl hi (by decide) hL, lvp 2 2 rfl hi (by decide) hL, ?_⟩⟩
  refine gLR _ g1 A h (xle rfl) rfl (b_film E hB _ _) (fun r σ1 q => ?_)
  obtain ⟨rfl, h1, hB1, rfl⟩ := q
  exact ⟨_, h1, rfl, ⟨fun _ => ih _ g1 _ hB1, fun z => absurd rfl z⟩⟩
set_option maxRecDepth 100000 in
set_option maxHeartbeats 4000000 in
theorem lc_20 (E : XEnv) {i : Nat} (hi : i + 6 ≤ E.2.1) (hL : E.2.1 ≤ 3072) {A : AS} (g : GQ) {h : YQ} (hB : BI A h) (ih : LNext E i) : LAt E 709 (LLoc i) [] (lW A g A h) := by
  refine xgo sL_20 [1070] 100 (xle rfl) ⟨lvp 1 1 rfl hi (by decide) hL, lvp 2 2 rfl hi (by decide) hL, ?_⟩
  refine gLC A g A h (xle rfl) rfl (c_X4_drawn (E := E) (A := A) (g := g) hB.1.1 _ _) (fun r σ1 q => ?_)
  obtain ⟨rfl, g1, rfl⟩ := q
  refine ⟨_, g1, rfl, ⟨lvp 1 1 rfl hi (by decide) hL, lvp 2 2 rfl hi (by decide) hL, ?_⟩⟩
  refine gLR _ g1 A h (xle rfl) rfl (b_drawn E hB _ _) (fun r σ1 q => ?_)
  obtain ⟨rfl, h1, hB1, rfl⟩ := q
  exact ⟨_, h1, rfl, ⟨fun _ => ih _ g1 _ hB1, fun z => absurd rfl z⟩⟩
set_option maxRecDepth 100000 in
set_option maxHeartbeats 4000000 in
theorem lc_21 (E : XEnv) {i : Nat} (hi : i + 6 ≤ E.2.1) (hL : E.2.1 ≤ 3072) {A : AS} (g : GQ) {h : YQ} (hB : BI A h) (ih : LNext E i) : LAt E 742 (LLoc i) [] (lW A g A h) := by
  refine xgo sL_21 [1070] 100 (xle rfl) ⟨lvp 1 1 rfl hi (by decide) hL, lvp 2 2 rfl hi (by decide) hL, lvp 3 3 rfl hi (by decide) hL, ?_⟩
  refine gLC A g A h (xle rfl) rfl (c_X4_chance (E := E) (A := A) (g := g) hB.1.1 _ _ _) (fun r σ1 q => ?_)
  obtain ⟨rfl, g1, rfl⟩ := q
  refine ⟨_, g1, rfl, ⟨lvp 1 1 rfl hi (by decide) hL, lvp 2 2 rfl hi (by decide) hL, lvp 3 3 rfl hi (by decide) hL, ?_⟩⟩
  refine gLR _ g1 A h (xle rfl) rfl (b_chance E hB _ _ _) (fun r σ1 q => ?_)
  obtain ⟨rfl, h1, hB1, rfl⟩ := q
  exact ⟨_, h1, rfl, ⟨fun _ => ih _ g1 _ hB1, fun z => absurd (lg_self _) z⟩⟩
set_option maxRecDepth 100000 in
set_option maxHeartbeats 4000000 in
theorem lc_22 (E : XEnv) {i : Nat} (hi : i + 6 ≤ E.2.1) (hL : E.2.1 ≤ 3072) {A : AS} (g : GQ) {h : YQ} (hB : BI A h) (ih : LNext E i) : LAt E 786 (LLoc i) [] (lW A g A h) := by
  refine xgo sL_22 [1070] 100 (xle rfl) ?_
  refine gLC A g A h (xle rfl) rfl (c_X4_image (E := E) (A := A) (g := g)) (fun r σ1 q => ?_)
  obtain ⟨rfl, g1, rfl⟩ := q
  refine ⟨_, g1, rfl, ?_⟩
  refine gLR _ g1 A h (xle rfl) rfl (b_image E hB) (fun r σ1 q => ?_)
  obtain ⟨rfl, h1, hB1, rfl⟩ := q
  exact ⟨_, h1, rfl, ⟨fun _ => ih _ g1 _ hB1, fun z => absurd rfl z⟩⟩
set_option maxRecDepth 100000 in
set_option maxHeartbeats 4000000 in
theorem lc_23 (E : XEnv) {i : Nat} (hi : i + 6 ≤ E.2.1) (hL : E.2.1 ≤ 3072) {A : AS} (g : GQ) {h : YQ} (hB : BI A h) (ih : LNext E i) : LAt E 799 (LLoc i) [] (lW A g A h) := by
  refine xgo sL_23 [1070] 100 (xle rfl) ?_
  refine gLC A g A h (xle rfl) rfl (c_X4_back (E := E) (A := A) (g := g)) (fun r σ1 q => ?_)
  obtain ⟨rfl, g1, rfl⟩ := q
  refine ⟨_, g1, rfl, ?_⟩
  refine gLR _ g1 A h (xle rfl) rfl (b_back E hB) (fun r σ1 q => ?_)
  obtain ⟨rfl, h1, hB1, rfl⟩ := q
  exact ⟨_, h1, rfl, ⟨fun _ => ih _ g1 _ hB1, fun z => absurd rfl z⟩⟩
set_option maxRecDepth 100000 in
set_option maxHeartbeats 4000000 in
theorem lc_24 (E : XEnv) {i : Nat} (hi : i + 6 ≤ E.2.1) (hL : E.2.1 ≤ 3072) {A : AS} (g : GQ) {h : YQ} (hB : BI A h) (ih : LNext E i) : LAt E 812 (LLoc i) [] (lW A g A h) := by
  refine xgo sL_24 [1070] 100 (xle rfl) ⟨lvp 1 1 rfl hi (by decide) hL, ?_⟩
  refine gLC A g A h (xle rfl) rfl (c_X4_count (E := E) (A := A) (g := g) hB.1.1 _) (fun r σ1 q => ?_)
  obtain ⟨rfl, g1, rfl⟩ := q
  refine ⟨_, g1, rfl, ⟨lvp 1 1 rfl hi (by decide) hL, ?_⟩⟩
  refine gLR _ g1 A h (xle rfl) rfl (b_count E hB _) (fun r σ1 q => ?_)
  obtain ⟨rfl, h1, hB1, rfl⟩ := q
  exact ⟨_, h1, rfl, ⟨fun _ => ih _ g1 _ hB1, fun z => absurd rfl z⟩⟩
set_option maxRecDepth 100000 in
set_option maxHeartbeats 4000000 in
theorem lc_25 (E : XEnv) {i : Nat} (hi : i + 6 ≤ E.2.1) (hL : E.2.1 ≤ 3072) {A : AS} (g : GQ) {h : YQ} (hB : BI A h) (ih : LNext E i) : LAt E 835 (LLoc i) [] (lW A g A h) := by
  refine xgo sL_25 [1070] 100 (xle rfl) ⟨lvp 1 1 rfl hi (by decide) hL, lvp 2 2 rfl hi (by decide) hL, lvp 3 3 rfl hi (by decide) hL, ?_⟩
  refine gLC A g A h (xle rfl) rfl (c_X4_sheet (E := E) (A := A) (g := g) _ _ _) (fun r σ1 q => ?_)
  obtain ⟨rfl, g1, rfl⟩ := q
  refine ⟨_, g1, rfl, ⟨lvp 1 1 rfl hi (by decide) hL, lvp 2 2 rfl hi (by decide) hL, lvp 3 3 rfl hi (by decide) hL, ?_⟩⟩
  refine gLR _ g1 A h (xle rfl) rfl (b_sheet E hB _ _ _) (fun r σ1 q => ?_)
  obtain ⟨rfl, h1, hB1, rfl⟩ := q
  exact ⟨_, h1, rfl, ⟨fun _ => ih _ g1 _ hB1, fun z => absurd rfl z⟩⟩
set_option maxRecDepth 100000 in
set_option maxHeartbeats 4000000 in
theorem lc_26 (E : XEnv) {i : Nat} (hi : i + 6 ≤ E.2.1) (hL : E.2.1 ≤ 3072) {A : AS} (g : GQ) {h : YQ} (hB : BI A h) (ih : LNext E i) : LAt E 878 (LLoc i) [] (lW A g A h) := by
  refine xgo sL_26 [1070] 100 (xle rfl) ⟨lvp 1 1 rfl hi (by decide) hL, lvp 2 2 rfl hi (by decide) hL, lvp 3 3 rfl hi (by decide) hL, ?_⟩
  refine gLC A g A h (xle rfl) rfl (c_X4_cell (E := E) (A := A) (g := g) hB.1.1 _ _ _) (fun r σ1 q => ?_)
  obtain ⟨rfl, g1, rfl⟩ := q
  refine ⟨_, g1, rfl, ⟨lvp 1 1 rfl hi (by decide) hL, lvp 2 2 rfl hi (by decide) hL, lvp 3 3 rfl hi (by decide) hL, ?_⟩⟩
  refine gLR _ g1 A h (xle rfl) rfl (b_cell E hB _ _ _) (fun r σ1 q => ?_)
  obtain ⟨rfl, h1, hB1, rfl⟩ := q
  exact ⟨_, h1, rfl, ⟨fun _ => ih _ g1 _ hB1, fun z => absurd rfl z⟩⟩
set_option maxRecDepth 100000 in
set_option maxHeartbeats 4000000 in
theorem lc_27 (E : XEnv) {i : Nat} (hi : i + 6 ≤ E.2.1) (hL : E.2.1 ≤ 3072) {A : AS} (g : GQ) {h : YQ} (hB : BI A h) (ih : LNext E i) : LAt E 921 (LLoc i) [] (lW A g A h) := by
  refine xgo sL_27 [1070] 100 (xle rfl) ⟨lvp 1 1 rfl hi (by decide) hL, lvp 2 2 rfl hi (by decide) hL, lvp 3 3 rfl hi (by decide) hL, lvp 4 4 rfl hi (by decide) hL, lvp 5 5 rfl hi (by decide) hL, ?_⟩
  refine gLC A g A h (xle rfl) rfl (c_X4_copy (E := E) (A := A) (g := g) hB.1.1 _ _ _ _ _) (fun r σ1 q => ?_)
  obtain ⟨rfl, g1, rfl⟩ := q
  refine ⟨_, g1, rfl, ⟨lvp 1 1 rfl hi (by decide) hL, lvp 2 2 rfl hi (by decide) hL, lvp 3 3 rfl hi (by decide) hL, lvp 4 4 rfl hi (by decide) hL, lvp 5 5 rfl hi (by decide) hL, ?_⟩⟩
  refine gLR _ g1 A h (xle rfl) rfl (b_copy E hB _ _ _ _ _) (fun r σ1 q => ?_)
  obtain ⟨rfl, h1, hB1, rfl⟩ := q
  exact ⟨_, h1, rfl, ⟨fun _ => ih _ g1 _ hB1, fun z => absurd rfl z⟩⟩
set_option maxRecDepth 100000 in
set_option maxHeartbeats 4000000 in
theorem lc_28 (E : XEnv) {i : Nat} (hi : i + 6 ≤ E.2.1) (hL : E.2.1 ≤ 3072) {A : AS} (g : GQ) {h : YQ} (hB : BI A h) (ih : LNext E i) : LAt E 984 (LLoc i) [] (lW A g A h) := by
  refine xgo sL_28 [1070] 100 (xle rfl) ⟨lvp 1 1 rfl hi (by decide) hL, lvp 2 2 rfl hi (by decide) hL, lvp 3 3 rfl hi (by decide) hL, lvp 4 4 rfl hi (by decide) hL, ?_⟩
  refine gLC A g A h (xle rfl) rfl (c_X4_gang (E := E) (A := A) (g := g) hB.1.1 _ _ _ _) (fun r σ1 q => ?_)
  obtain ⟨rfl, g1, rfl⟩ := q
  refine ⟨_, g1, rfl, ⟨lvp 1 1 rfl hi (by decide) hL, lvp 2 2 rfl hi (by decide) hL, lvp 3 3 rfl hi (by decide) hL, lvp 4 4 rfl hi (by decide) hL, ?_⟩⟩
  refine gLR _ g1 A h (xle rfl) rfl (b_gang E hB _ _ _ _) (fun r σ1 q => ?_)
  obtain ⟨rfl, h1, hB1, rfl⟩ := q
  exact ⟨_, h1, rfl, ⟨fun _ => ih _ g1 _ hB1, fun z => absurd rfl z⟩⟩
set_option maxRecDepth 100000 in
set_option maxHeartbeats 4000000 in
theorem lc_29 (E : XEnv) {i : Nat} (hi : i + 6 ≤ E.2.1) (hL : E.2.1 ≤ 3072) {A : AS} (g : GQ) {h : YQ} (hB : BI A h) (ih : LNext E i) : LAt E 1037 (LLoc i) [] (lW A g A h) := by
  refine xgo sL_29 [1070] 100 (xle rfl) ⟨lvp 1 1 rfl hi (by decide) hL, lvp 2 2 rfl hi (by decide) hL, ?_⟩
  refine gLC A g A h (xle rfl) rfl (c_X4_taken (E := E) (A := A) (g := g) hB.1.1 _ _) (fun r σ1 q => ?_)
  obtain ⟨rfl, g1, rfl⟩ := q
  refine ⟨_, g1, rfl, ⟨lvp 1 1 rfl hi (by decide) hL, lvp 2 2 rfl hi (by decide) hL, ?_⟩⟩
  refine gLR _ g1 A h (xle rfl) rfl (b_taken E hB _ _) (fun r σ1 q => ?_)
  obtain ⟨rfl, h1, hB1, rfl⟩ := q
  exact ⟨_, h1, rfl, ⟨fun _ => ih _ g1 _ hB1, fun z => absurd rfl z⟩⟩
set_option maxRecDepth 100000 in
set_option maxHeartbeats 4000000 in
theorem lc_5 (E : XEnv) {i : Nat} {A : AS} (g : GQ) {h : YQ} (hB : BI A h) (ih : LNext E i) : LAt E 353 (LLoc i) [] (lW A g A h) := by
  have hn : A.pn ≤ 160 := hB.1.1.2.2.2.2.2.2.2.1
  have h6 : A.tc ≤ 6 := hB.1.1.2.2.1
  refine xgo sL_5 [1070] 100 (xle rfl) ?_
  refine gLC A g A h (xle rfl) rfl (c_X4_text E A g (fun en => word_all E A.pb A.pn _ en _ hn) hn h6) (fun r σ1 q => ?_)
  unfold RTx at q
  by_cases hlt : A.tc < 6
  · rw [if_pos hlt] at q
    unfold RT1 at q
    cases e : prF A.pb A.pn with
    | inl p =>
      rw [e] at q
      obtain ⟨rfl, st, en, sz, g1, rfl⟩ := q
      refine ⟨_, g1, rfl, ?_⟩
      refine gLR _ g1 A h (xle rfl) rfl (c_X5_text (E := E) (A := A) (h := h) h6 hn hB.2.1.1) (fun r σ1 q => ?_)
      unfold RMx at q
      rw [if_pos hlt] at q
      unfold RM1 at q
      rw [e] at q
      obtain ⟨rfl, h1, hy, hσ⟩ := q
      exact ⟨_, h1, hσ st en sz, ⟨fun _ => ih _ g1 _ (BI_textB hB hy hlt st en sz), fun z => absurd rfl z⟩⟩
    | inr x =>
      obtain ⟨v0, v1, v2, l0, l1, l2⟩ := x
      rw [e] at q
      obtain ⟨rfl, st, en, sz, g1, rfl, ok, hv⟩ := q
      refine ⟨_, g1, rfl, ?_⟩
      refine gLR _ g1 A h (xle rfl) rfl (c_X5_text (E := E) (A := A) (h := h) h6 hn hB.2.1.1) (fun r σ1 q => ?_)
      unfold RMx at q
      rw [if_pos hlt] at q
      unfold RM1 at q
      rw [e] at q
      obtain ⟨rfl, h1, hy, hσ⟩ := q
      exact ⟨_, h1, hσ st en sz, ⟨fun _ => ih _ g1 _ (BI_textA hB hy hlt e st en sz ok hv), fun z => absurd rfl z⟩⟩
  · rw [if_neg hlt] at q
    obtain ⟨rfl, g1, rfl⟩ := q
    refine ⟨_, g1, rfl, ?_⟩
    refine gLR _ g1 A h (xle rfl) rfl (c_X5_text (E := E) (A := A) (h := h) h6 hn hB.2.1.1) (fun r σ1 q => ?_)
    unfold RMx at q
    rw [if_neg hlt] at q
    obtain ⟨rfl, rfl⟩ := q
    exact ⟨_, h, rfl, ⟨fun _ => ih _ g1 _ hB, fun z => absurd rfl z⟩⟩
