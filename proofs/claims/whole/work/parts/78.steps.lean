-- ===== the reference's steps keep both sides' state =====
theorem E_told (A : AS) (of what : Int32) : (o_told A of what).2 = A := by
  unfold o_told
  repeat' split
  all_goals rfl
theorem E_asks (A : AS) (one part what : Int32) : (o_asks A one part what).2 = A := by
  unfold o_asks
  repeat' split
  all_goals rfl
theorem E_run (A : AS) (n what : Int32) : (o_run A n what).2 = A := by
  unfold o_run
  repeat' split
  all_goals rfl
theorem E_down (A : AS) : (o_down A).2 = A := by
  unfold o_down
  repeat' split
  all_goals rfl
theorem E_worst (A : AS) : (o_worst A).2 = A := by
  unfold o_worst
  repeat' split
  all_goals rfl
theorem E_count (A : AS) (what : Int32) : (o_count A what).2 = A := by
  unfold o_count
  repeat' split
  all_goals rfl
theorem E_taken (A : AS) (one k : Int32) : (o_taken A one k).2 = A := by
  unfold o_taken
  repeat' split
  all_goals rfl
theorem E_drawn (A : AS) (seed n : Int32) : (o_drawn A seed n).2 = A := by
  unfold o_drawn
  repeat' split
  all_goals rfl
theorem E_stands (A : AS) (n : Int32) : (o_stands A n).2 = A := by
  unfold o_stands
  repeat' split
  all_goals rfl
theorem E_tells (A : AS) (s one what : Int32) : (o_tells A s one what).2 = A := by
  unfold o_tells
  repeat' split
  all_goals rfl
theorem E_go (A : AS) (n what : Int32) : (o_go A n what).2 = A := by
  unfold o_go
  repeat' split
  all_goals rfl
theorem E_yard (A : AS) (n what : Int32) : (o_yard A n what).2 = A := by
  unfold o_yard
  repeat' split
  all_goals rfl
theorem b_told (E : XEnv) {A : AS} {h : YQ} (hB : BI A h) (of what : Int32) : XCall E 109 yX5_told cX5_told 3 (some .int) [.ref 0, .int of, .int what] (mW A h) (YB (o_told A of what)) :=
  (c_X5_told (E := E) (A := A) (h := h) (hB.says0 E) hB.1.2.1.1 of what).mono (fun r σ' _ x => by
    obtain ⟨rfl, h', hy, rfl⟩ := x
    exact ⟨rfl, h', hB.k hy (by rw [E_told]; exact hB.1) (AT_told A of what).1 (AT_told A of what).2, rfl⟩)
theorem b_asks (E : XEnv) {A : AS} {h : YQ} (hB : BI A h) (one part what : Int32) : XCall E 110 yX5_asks cX5_asks 4 (some .int) [.ref 0, .int one, .int part, .int what] (mW A h) (YB (o_asks A one part what)) :=
  (c_X5_asks (E := E) (A := A) (h := h) (hB.says0 E) hB.1.2.1.1 one part what).mono (fun r σ' _ x => by
    obtain ⟨rfl, h', hy, rfl⟩ := x
    exact ⟨rfl, h', hB.k hy (by rw [E_asks]; exact hB.1) (AT_asks A one part what).1 (AT_asks A one part what).2, rfl⟩)
theorem b_run (E : XEnv) {A : AS} {h : YQ} (hB : BI A h) (n what : Int32) : XCall E 110 yX5_run cX5_run 4 (some .int) [.ref 0, .int n, .int what] (mW A h) (YB (o_run A n what)) :=
  (c_X5_run (E := E) (A := A) (h := h) (hB.says0 E) hB.1.2.1.1 n what).mono (fun r σ' _ x => by
    obtain ⟨rfl, h', hy, rfl⟩ := x
    exact ⟨rfl, h', hB.k hy (by rw [E_run]; exact hB.1) (AT_run A n what).1 (AT_run A n what).2, rfl⟩)
theorem b_down (E : XEnv) {A : AS} {h : YQ} (hB : BI A h) : XCall E 110 yX5_down cX5_down 2 (some .int) [.ref 0] (mW A h) (YB (o_down A)) :=
  (c_X5_down (E := E) (A := A) (h := h) (hB.says0 E) hB.1.2.1.1).mono (fun r σ' _ x => by
    obtain ⟨rfl, h', hy, rfl⟩ := x
    exact ⟨rfl, h', hB.k hy (by rw [E_down]; exact hB.1) (AT_down A).1 (AT_down A).2, rfl⟩)
theorem b_worst (E : XEnv) {A : AS} {h : YQ} (hB : BI A h) : XCall E 110 yX5_worst cX5_worst 4 (some .int) [.ref 0] (mW A h) (YB (o_worst A)) :=
  (c_X5_worst (E := E) (A := A) (h := h) hB.1.2.1.1).mono (fun r σ' _ x => by
    obtain ⟨rfl, h', hy, rfl⟩ := x
    exact ⟨rfl, h', hB.k hy (by rw [E_worst]; exact hB.1) (AT_worst A).1 (AT_worst A).2, rfl⟩)
theorem b_count (E : XEnv) {A : AS} {h : YQ} (hB : BI A h) (what : Int32) : XCall E 110 yX5_count cX5_count 2 (some .int) [.ref 0, .int what] (mW A h) (YB (o_count A what)) :=
  (c_X5_count (E := E) (A := A) (h := h) hB.1.1.1 what).mono (fun r σ' _ x => by
    obtain ⟨rfl, h', hy, rfl⟩ := x
    exact ⟨rfl, h', hB.k hy (by rw [E_count]; exact hB.1) (AT_count A what).1 (AT_count A what).2, rfl⟩)
theorem b_taken (E : XEnv) {A : AS} {h : YQ} (hB : BI A h) (one k : Int32) : XCall E 110 yX5_taken cX5_taken 4 (some .int) [.ref 0, .int one, .int k] (mW A h) (YB (o_taken A one k)) :=
  (c_X5_taken (E := E) (A := A) (h := h) hB.1.2.1.1 one k).mono (fun r σ' _ x => by
    obtain ⟨rfl, h', hy, rfl⟩ := x
    exact ⟨rfl, h', hB.k hy (by rw [E_taken]; exact hB.1) (AT_taken A one k).1 (AT_taken A one k).2, rfl⟩)
theorem b_drawn (E : XEnv) {A : AS} {h : YQ} (hB : BI A h) (seed n : Int32) : XCall E 110 yX5_drawn cX5_drawn 3 (some .int) [.ref 0, .int seed, .int n] (mW A h) (YB (o_drawn A seed n)) :=
  (c_X5_drawn (E := E) (A := A) (h := h) (hB.says0 E) hB.1.2.1.1 seed n).mono (fun r σ' _ x => by
    obtain ⟨rfl, h', hy, rfl⟩ := x
    exact ⟨rfl, h', hB.k hy (by rw [E_drawn]; exact hB.1) (AT_drawn A seed n).1 (AT_drawn A seed n).2, rfl⟩)
theorem b_stands (E : XEnv) {A : AS} {h : YQ} (hB : BI A h) (n : Int32) : XCall E 110 yX5_stands cX5_stands 5 (some .int) [.ref 0, .int n] (mW A h) (YB (o_stands A n)) :=
  (c_X5_stands (E := E) (A := A) (h := h) (hB.says0 E) hB.1.2.1.1 n).mono (fun r σ' _ x => by
    obtain ⟨rfl, h', hy, rfl⟩ := x
    exact ⟨rfl, h', hB.k hy (by rw [E_stands]; exact hB.1) (AT_stands A n).1 (AT_stands A n).2, rfl⟩)
theorem b_tells (E : XEnv) {A : AS} {h : YQ} (hB : BI A h) (s one what : Int32) : XCall E 110 yX5_tells cX5_tells 11 (some .int) [.ref 0, .int s, .int one, .int what] (mW A h) (YB (o_tells A s one what)) :=
  (c_X5_tells (E := E) (A := A) (h := h) (hB.says E) hB.1.2.1.1 hB.1.1.2.1 hB.1.1.2.2.1 hB.2.2.1 s one what).mono (fun r σ' _ x => by
    obtain ⟨rfl, h', hy, rfl⟩ := x
    exact ⟨rfl, h', hB.k hy (by rw [E_tells]; exact hB.1) (AT_tells A s one what).1 (AT_tells A s one what).2, rfl⟩)
theorem b_go (E : XEnv) {A : AS} {h : YQ} (hB : BI A h) (n what : Int32) : XCall E 110 yX5_go cX5_go 4 (some .int) [.ref 0, .int n, .int what] (mW A h) (YB (o_go A n what)) :=
  (c_X5_go (E := E) (A := A) (h := h) (hB.says0 E) hB.1.2.1.1 n what).mono (fun r σ' _ x => by
    obtain ⟨rfl, h', hy, rfl⟩ := x
    exact ⟨rfl, h', hB.k hy (by rw [E_go]; exact hB.1) (AT_go A n what).1 (AT_go A n what).2, rfl⟩)
theorem b_yard (E : XEnv) {A : AS} {h : YQ} (hB : BI A h) (n what : Int32) : XCall E 111 yX5_yard cX5_yard 4 (some .int) [.ref 0, .int n, .int what] (mW A h) (YB (o_yard A n what)) :=
  (c_X5_yard (E := E) (A := A) (h := h) (hB.says0 E) hB.1.2.1.1 n what).mono (fun r σ' _ x => by
    obtain ⟨rfl, h', hy, rfl⟩ := x
    exact ⟨rfl, h', hB.k hy (by rw [E_yard]; exact hB.1) (AT_yard A n what).1 (AT_yard A n what).2, rfl⟩)
theorem b_set (E : XEnv) {A : AS} {h : YQ} (hB : BI A h) (what of v : Int32) : XCall E 110 yX5_set cX5_set 5 (some .int) [.ref 0, .int what, .int of, .int v] (mW A h) (YB (o_set A what of v)) :=
  (c_X5_set (E := E) (A := A) (h := h) (hB.says0 E) hB.1.2.1.1 hB.1.2.1.2 what of v).mono (fun r σ' _ x => by
    obtain ⟨rfl, h', hy, rfl⟩ := x
    exact ⟨rfl, h', hB.k hy (AI_set hB.1 what of v) (AT_set A what of v).1 (AT_set A what of v).2, rfl⟩)
theorem b_builds (E : XEnv) {A : AS} {h : YQ} (hB : BI A h) (one part : Int32) : XCall E 110 yX5_builds cX5_builds 3 (some .int) [.ref 0, .int one, .int part] (mW A h) (YB (o_builds A one part)) :=
  (c_X5_builds (E := E) (A := A) (h := h) (hB.says0 E) hB.1.2.1.1 one part).mono (fun r σ' _ x => by
    obtain ⟨rfl, h', hy, rfl⟩ := x
    exact ⟨rfl, h', hB.k hy (AI_builds hB.1 one part) (AT_builds A one part).1 (AT_builds A one part).2, rfl⟩)
theorem b_wright (E : XEnv) {A : AS} {h : YQ} (hB : BI A h) (k n s : Int32) : XCall E 20 yX5_wright cX5_wright 4 (some .int) [.ref 0, .int k, .int n, .int s] (mW A h) (YB (o_wright A k n s)) :=
  (c_X5_wright (E := E) (A := A) (h := h) hB.1.1.1 k n s).mono (fun r σ' _ x => by
    obtain ⟨rfl, rfl⟩ := x
    exact ⟨rfl, h, hB.k (Yk.same h) (AI_wright hB.1 k n s) (AT_wright A k n s).1 (AT_wright A k n s).2, rfl⟩)
theorem b_bound (E : XEnv) {A : AS} {h : YQ} (hB : BI A h) : XCall E 20 yX5_bound cX5_bound 1 (some .int) [.ref 0] (mW A h) (YB (o_bound A)) :=
  (c_X5_bound (E := E) (A := A) (h := h) hB.1.1.1).mono (fun r σ' _ x => by
    obtain ⟨rfl, rfl⟩ := x
    exact ⟨rfl, h, hB.k (Yk.same h) (AI_bound hB.1) (AT_bound A).1 (AT_bound A).2, rfl⟩)
theorem b_home (E : XEnv) {A : AS} {h : YQ} (hB : BI A h) : XCall E 20 yX5_home cX5_home 3 (some .int) [.ref 0] (mW A h) (YB (o_home A)) :=
  (c_X5_home (E := E) (A := A) (h := h) hB.1.1.1 hB.1.2.1.1.2.2.2.1.2).mono (fun r σ' _ x => by
    obtain ⟨rfl, rfl⟩ := x
    exact ⟨rfl, h, hB.k (Yk.same h) (AI_home hB.1) (AT_home A).1 (AT_home A).2, rfl⟩)
theorem b_force (E : XEnv) {A : AS} {h : YQ} (hB : BI A h) (t : Int32) : XCall E 20 yX5_force cX5_force 3 (some .int) [.ref 0, .int t] (mW A h) (YB (o_force A t)) :=
  (c_X5_force (E := E) (A := A) (h := h) hB.1.1.2.2.1 t).mono (fun r σ' _ x => by
    obtain ⟨rfl, rfl⟩ := x
    exact ⟨rfl, h, hB.k (Yk.same h) (AI_force hB.1 t) (AT_force A t).1 (AT_force A t).2, rfl⟩)
theorem b_sheet (E : XEnv) {A : AS} {h : YQ} (hB : BI A h) (s so n : Int32) : XCall E 109 yX5_sheet cX5_sheet 5 (some .int) [.ref 0, .int s, .int so, .int n] (mW A h) (YB (o_sheet A s so n)) :=
  (c_X5_sheet (E := E) (A := A) (h := h) hB.2.2.1 s so n).mono (fun r σ' _ x => by
    obtain ⟨rfl, h', hy, ms, rfl⟩ := x
    exact ⟨rfl, h', hB.s hy ms (AI_sheet hB.1 s so n) (AT_sheet A s so n), rfl⟩)
theorem b_cell (E : XEnv) {A : AS} {h : YQ} (hB : BI A h) (s i v : Int32) : XCall E 110 yX5_cell cX5_cell 4 (some .int) [.ref 0, .int s, .int i, .int v] (mW A h) (YB (o_cell A s i v)) :=
  (c_X5_cell (E := E) (A := A) (h := h) hB.2.2.1 s i v).mono (fun r σ' _ x => by
    obtain ⟨rfl, h', hy, ms, rfl⟩ := x
    exact ⟨rfl, h', hB.s hy ms (AI_cell hB.1 s i v) (AT_cell A s i v), rfl⟩)
theorem b_copy (E : XEnv) {A : AS} {h : YQ} (hB : BI A h) (s i o j n : Int32) : XCall E 110 yX5_copy cX5_copy 9 (some .int) [.ref 0, .int s, .int i, .int o, .int j, .int n] (mW A h) (YB (o_copy A s i o j n)) :=
  (c_X5_copy (E := E) (A := A) (h := h) hB.2.2.1 s i o j n).mono (fun r σ' _ x => by
    obtain ⟨rfl, h', hy, ms, rfl⟩ := x
    exact ⟨rfl, h', hB.s hy ms (AI_copy hB.1 s i o j n) (AT_copy A s i o j n), rfl⟩)
theorem b_gang (E : XEnv) {A : AS} {h : YQ} (hB : BI A h) (s so at' n : Int32) : XCall E 110 yX5_gang cX5_gang 8 (some .int) [.ref 0, .int s, .int so, .int at', .int n] (mW A h) (YB (o_gang A s so at' n)) :=
  (c_X5_gang (E := E) (A := A) (h := h) hB.2.2.1 hB.1.1.1 s so at' n).mono (fun r σ' _ x => by
    obtain ⟨rfl, h', hy, ms, rfl⟩ := x
    exact ⟨rfl, h', hB.s hy ms (AI_gang hB.1 s so at' n) (AT_gang A s so at' n), rfl⟩)
theorem b_film (E : XEnv) {A : AS} {h : YQ} (hB : BI A h) (s n : Int32) : XCall E 110 yX5_film cX5_film 4 (some .int) [.ref 0, .int s, .int n] (mW A h) (YB (o_film A s n)) :=
  (c_X5_film (E := E) (A := A) (h := h) (hB.says0 E) hB.1.2.1.1 hB.2.2.1 s n).mono (fun r σ' _ x => by
    obtain ⟨rfl, h', hy, ms, rfl⟩ := x
    exact ⟨rfl, h', hB.s hy ms (AI_film hB.1 s n) (AT_film A s n), rfl⟩)
