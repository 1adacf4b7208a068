-- ===== the law's loop =====
theorem li_gt {i L : Nat} (hi : i < 2 ^ 30) (hL : L < 2 ^ 30) : nI L - 6 < nI i ↔ L < i + 6 := by
  rw [Int32.lt_iff_toInt_lt, show (6 : Int32) = nI 6 from rfl, pk_sub_toInt hL (by omega), nI_toInt (by omega)]
  omega
set_option maxRecDepth 100000 in
set_option maxHeartbeats 4000000 in
theorem ll_end (E : XEnv) (i : Nat) (σ : XW) : LAt E 1076 (LLoc i) [] σ := xgo sL_T [] 20 (xle rfl) ⟨Or.inr rfl, rfl⟩
set_option maxRecDepth 100000 in
set_option maxHeartbeats 4000000 in
theorem ll_next (E : XEnv) {i : Nat} (h : ∀ (A : AS) (g : GQ) (h : YQ), BI A h → LAt E 18 (LLoc (i + 6)) [] (lW A g A h)) : LNext E i := by
  intro A g y hB
  have t : LAt E 18 [(0, .ref 1000005), (1, .ref 0), (2, .ref 61), (3, .int (nI (i + 6)))] [] (lW A g A y) := h A g y hB
  rw [show nI (i + 6) = nI i + 6 from (nI_add i 6).symm] at t
  exact xgo sL_T [18] 20 (xle rfl) t
set_option maxRecDepth 100000 in
set_option maxHeartbeats 4000000 in
theorem ll_out (E : XEnv) {i : Nat} (hi : i ≤ 3078) (hL : E.2.1 ≤ 3072) (h : E.2.1 < i + 6) (σ : XW) : LAt E 18 (LLoc i) [] σ :=
  xgo sL_H [1076] 60 (xle rfl) ⟨fun _ => ll_end E i σ, fun z => absurd ((li_gt (by omega) (by omega)).mpr h) z⟩
set_option maxRecDepth 100000 in
set_option maxHeartbeats 4000000 in
theorem ll_in (E : XEnv) {i : Nat} (hi : i + 6 ≤ E.2.1) (hL : E.2.1 ≤ 3072) {A : AS} (g : GQ) {h : YQ} (hB : BI A h) (nx : LNext E i) : LAt E 18 (LLoc i) [] (lW A g A h) := by
  have v0 : vp_in (nI i) E.2.1 := vp_in_nI (by omega) (by omega)
  refine xgo sL_H [168, 211, 254, 287, 330, 353, 366, 389, 422, 435, 448, 461, 494, 507, 540, 563, 596, 609, 633, 676, 709, 742, 786, 799, 812, 835, 878, 921, 984, 1037, 1070, 1076] 60 (xle rfl) ⟨fun z => absurd ((li_gt (by omega) (by omega)).mp z) (by omega), fun _ => ⟨v0, ?_⟩⟩
  exact ⟨fun _ => lc_0 E hi hL g hB nx, fun _ => ⟨fun _ => lc_1 E hi hL g hB nx, fun _ => ⟨fun _ => lc_2 E hi hL g hB nx, fun _ => ⟨fun _ => lc_3 E hi hL g hB nx, fun _ => ⟨fun _ => lc_4 E hi hL g hB nx, fun _ => ⟨fun _ => lc_5 E g hB nx, fun _ => ⟨fun _ => lc_6 E hi hL g hB nx, fun _ => ⟨fun _ => lc_7 E hi hL g hB nx, fun _ => ⟨fun _ => lc_8 E hi hL g hB nx, fun _ => ⟨fun _ => lc_9 E hi hL g hB nx, fun _ => ⟨fun _ => lc_10 E hi hL g hB nx, fun _ => ⟨fun _ => lc_11 E hi hL g hB nx, fun _ => ⟨fun _ => lc_12 E hi hL g hB nx, fun _ => ⟨fun _ => lc_13 E hi hL g hB nx, fun _ => ⟨fun _ => lc_14 E hi hL g hB nx, fun _ => ⟨fun _ => lc_15 E hi hL g hB nx, fun _ => ⟨fun _ => lc_16 E hi hL g hB nx, fun _ => ⟨fun _ => lc_17 E hi hL g hB nx, fun _ => ⟨fun _ => lc_18 E hi hL g hB nx, fun _ => ⟨fun _ => lc_19 E hi hL g hB nx, fun _ => ⟨fun _ => lc_20 E hi hL g hB nx, fun _ => ⟨fun _ => lc_21 E hi hL g hB nx, fun _ => ⟨fun _ => lc_22 E hi hL g hB nx, fun _ => ⟨fun _ => lc_23 E hi hL g hB nx, fun _ => ⟨fun _ => lc_24 E hi hL g hB nx, fun _ => ⟨fun _ => lc_25 E hi hL g hB nx, fun _ => ⟨fun _ => lc_26 E hi hL g hB nx, fun _ => ⟨fun _ => lc_27 E hi hL g hB nx, fun _ => ⟨fun _ => lc_28 E hi hL g hB nx, fun _ => ⟨fun _ => lc_29 E hi hL g hB nx, fun _ => nx _ g _ hB⟩⟩⟩⟩⟩⟩⟩⟩⟩⟩⟩⟩⟩⟩⟩⟩⟩⟩⟩⟩⟩⟩⟩⟩⟩⟩⟩⟩⟩⟩
theorem ll_loop (E : XEnv) (hL : E.2.1 ≤ 3072) (n : Nat) : ∀ i, E.2.1 + 6 < i + n → i ≤ E.2.1 + 6 → ∀ (A : AS) (g : GQ) (h : YQ), BI A h → LAt E 18 (LLoc i) [] (lW A g A h) := by
  induction n with
  | zero =>
    intro i h1 h2
    exact absurd h1 (by omega)
  | succ n IH =>
    intro i h1 h2 A g h hB
    by_cases hi : i + 6 ≤ E.2.1
    · exact ll_in E hi hL g hB (ll_next E (IH (i + 6) (by omega) (by omega)))
    · exact ll_out E (by omega) hL (by omega) _
set_option maxRecDepth 100000 in
set_option maxHeartbeats 4000000 in
/-- the law behind its two objects -/
theorem ll_law (E : XEnv) (hL : E.2.1 ≤ 3072) {A : AS} (g : GQ) {h : YQ} (hB : BI A h) : LAt E 16 [(0, .ref 1000005), (1, .ref 0), (2, .ref 61)] [] (lW A g A h) :=
  xgo sL_H [18] 60 (xle rfl) (ll_loop E hL (E.2.1 + 7) 0 (by omega) (by omega) A g h hB)
