theorem stW_i {α : Type} : ∀ {l : List α} {n : Nat} {b : α} {k : List α → Prop}, k (l.set n b) → stW l n b k
  | [], _, _, _, h => h
  | _ :: _, 0, _, _, h => h
  | _ :: r, n + 1, _, _, h => stW_i (l := r) (n := n) h
theorem gsh_set (A : AS) (g : GQ) {s : Nat} (hs : s < 4) (f : F32) : (gW A g).set (30 + 2 * s) (.inl (0, 40, .inl f)) = gW (shF A s (A.sh s).1 (A.sh s).2.1 f) g := by
  rcases (by omega : s = 0 ∨ s = 1 ∨ s = 2 ∨ s = 3) with rfl | rfl | rfl | rfl <;> rfl
def gangF (f : F32) (N : Nat) : Nat → Int32 → SH → Int32 → Int32 × SH
  | 0, _, S, c => (c, S)
  | j + 1, at', S, c => if holdF N at' 3 = 0 then (-12, S) else gangF f N j (at' + 3) (wrF S (f at'.toNatClampNeg) (f (at' + 1).toNatClampNeg) (f (at' + 2).toNatClampNeg)).2 (if (wrF S (f at'.toNatClampNeg) (f (at' + 1).toNatClampNeg) (f (at' + 2).toNatClampNeg)).1 < 0 then c else c + 1)
def o_gang (A : AS) (s so from' n : Int32) : Int32 × AS :=
  if f_isSheet s = 0 then (-2, A) else if f_within so 0 2 = 0 then (-2, A) else if f_within n 0 5 = 0 then (-2, A)
  else if (A.sh s.toNatClampNeg).1 = -1 then (-11, A) else if (A.sh s.toNatClampNeg).1 = so then
    ((gangF (A.sh s.toNatClampNeg).2.2 (A.sh s.toNatClampNeg).2.1 n.toNatClampNeg from' A.S 0).1, A.set_S (gangF (A.sh s.toNatClampNeg).2.2 (A.sh s.toNatClampNeg).2.1 n.toNatClampNeg from' A.S 0).2)
  else (-13, A)
def tkF (S : SH) (one : Nat) (k : Int32) : Nat → Int32 → Int32
  | 0, _ => -13
  | j + 1, kind => if f_within kind 0 5 = 0 then -13 else if kind = k then S.nu one else tkF S one k j (xst 1 kind.toNatClampNeg)
def o_taken (A : AS) (one k : Int32) : Int32 × AS :=
  if f_within k 0 5 = 0 then (-2, A) else if hasF A.S one = 0 then (-11, A) else (tkF A.S one.toNatClampNeg k 6 (A.S.ki one.toNatClampNeg), A)
theorem wrF_n (S : SH) (k n s : Int32) (h : S.n ≤ 5) : (wrF S k n s).2.n ≤ 5 := by
  unfold wrF
  split
  · exact h
  · split
    · exact h
    · split
      · exact h
      · split
        · exact h
        · show S.n + 1 ≤ 5
          omega
theorem CI.set_S {A : AS} (hC : CI A) {S : SH} (h : S.n ≤ 5) : CI (A.set_S S) := ⟨h, hC.2⟩
section CLS
variable (E : XEnv) (A : AS) (g : GQ)
theorem mis_y {x : Int32} (h : (if x = -1 then (1 : Int32) else 0) = 0) : ¬ x = -1 := fun z => absurd ((if_pos z).symm.trans h) (by decide)
theorem mis_n {x : Int32} (h : ¬ (if x = -1 then (1 : Int32) else 0) = 0) : x = -1 := by
  by_cases z : x = -1
  · exact z
  · exact absurd (if_neg z) h
set_option maxRecDepth 100000 in
set_option maxHeartbeats 4000000 in
theorem c_X4_copy (hC : CI A) (s i o j n : Int32) : XCall E 20 yX4_copy cX4_copy 8 (some .int) [.ref 0, .int s, .int i, .int o, .int j, .int n] (gW A g) (XR (o_copy A s i o j n)) := by
  unfold o_copy
  refine XCall.of (by decide +kernel) (xle rfl) (xgo sX4_copy [] 200 (xle rfl) ⟨fun h => ?_, fun h => ⟨fun h2 => ?_, fun h2 => ?_⟩⟩)
  · rw [if_pos h]
    exact ⟨rfl, g, rfl⟩
  · rw [if_neg h, if_neg h2]
    obtain ⟨k, hk, rfl⟩ := fs_e h
    obtain ⟨m, hm, rfl⟩ := fs_e h2
    have k40 := hC.2.2.2.2.2.2.2.2.1 k hk
    have m40 := hC.2.2.2.2.2.2.2.2.1 m hm
    rw [nI_clamp (n := k) (by omega), nI_clamp (n := m) (by omega)]
    refine ⟨vp_in_nI (by omega) (by omega), _, aa3 hk, vp_in_nI (by omega) (by omega), _, aa3 hm, hO_i (gsh A g hk).1 (gShR A g hk (xle rfl) rfl (c_X1_isMissing E _ _ _) (fun r σ' h6 => ?_))⟩
    obtain ⟨rfl, rfl⟩ := h6
    refine ⟨rfl, fun h3 => ?_, fun h3 => ?_⟩
    · rw [if_pos (mis_n h3)]
      exact ⟨rfl, g, rfl⟩
    · rw [if_neg (mis_y h3)]
      refine hO_i (gsh A g hm).1 (gShR A g hm (xle rfl) rfl (c_X1_isMissing E _ _ _) (fun r σ' h6 => ?_))
      obtain ⟨rfl, rfl⟩ := h6
      refine ⟨rfl, fun h4 => ?_, fun h4 => ?_⟩
      · rw [if_neg (mis_y h4)]
        refine hO_i (gsh A g hk).1 (hO_i (gsh A g hm).1 ⟨fun h5 => ?_, fun h5 => ?_⟩)
        · rw [if_pos h5]
          refine hO_i (gsh A g hk).1 (gShR A g hk (xle rfl) rfl (c_X1_holds E _ _ _ i n) (fun r σ' h6 => ?_))
          obtain ⟨rfl, rfl⟩ := h6
          refine ⟨rfl, fun h7 => ?_, fun h7 => ?_⟩
          · rw [if_pos h7]
            exact ⟨rfl, g, rfl⟩
          · rw [if_neg h7]
            refine hO_i (gsh A g hm).1 (gShR A g hm (xle rfl) rfl (c_X1_holds E _ _ _ j n) (fun r σ' h6 => ?_))
            obtain ⟨rfl, rfl⟩ := h6
            refine ⟨rfl, fun h8 => ?_, fun h8 => ?_⟩
            · rw [if_neg h8]
              obtain ⟨i0, n0, rfl, rfl, hle⟩ := hold_e k40 h7
              obtain ⟨j0, n1, rfl, hn1, hle2⟩ := hold_e m40 h8
              have en : n0 = n1 := (nI_eq (by omega) (by omega)).mp hn1
              subst en
              refine hO_i (gsh A g hk).1 (hO_i (gsh A g hm).1 (hA_i (gsh A g hk).2 (hA_i (gsh A g hm).2 ⟨⟨nI_pos (by omega), nI_pos (by omega), nI_pos (by omega), ?_, ?_⟩, stW_i ?_⟩)))
              · rw [nI_clamp (by omega), nI_clamp (by omega)]
                omega
              · rw [nI_clamp (by omega), nI_clamp (by omega)]
                omega
              · rw [gsh_set A g hm]
                exact ⟨rfl, g, rfl⟩
            · rw [if_pos h8]
              exact ⟨rfl, g, rfl⟩
        · rw [if_neg h5]
          exact ⟨rfl, g, rfl⟩
      · rw [if_pos (mis_n h4)]
        exact ⟨rfl, g, rfl⟩
  · rw [if_neg h, if_pos h2]
    exact ⟨rfl, g, rfl⟩
set_option maxRecDepth 100000 in
set_option maxHeartbeats 4000000 in
theorem l_X4_gang {s : Nat} (hs : s < 4) (n : Nat) (hn5 : n ≤ 5) (so fr : Int32) : ∀ (j k : Nat) (at' c : Int32) (S : SH) (g : GQ), CI (A.set_S S) → k + j = n → XAt E RX4 cX4_gang 9 (some .int) 21 61 (XR ((gangF (A.sh s).2.2 (A.sh s).2.1 j at' S c).1, A.set_S (gangF (A.sh s).2.2 (A.sh s).2.1 j at' S c).2)) 69 [(0, .ref 0), (1, .int (nI s)), (2, .int so), (3, .int fr), (4, .int (nI n)), (5, .ref (29 + 2 * s)), (6, .int c), (7, .int at'), (8, .int (nI k))] [] (gW (A.set_S S) g)
  | 0, k, at', c, S, g, hC, hk => by
    obtain rfl : k = n := by omega
    exact xgo sX4_gang [69] 100 (xle rfl) ⟨fun _ => ⟨rfl, g, rfl⟩, fun h => absurd (nI_le (Nat.le_refl _) (by omega)) h⟩
  | j + 1, k, at', c, S, g, hC, hk => by
    have h40 := hC.2.2.2.2.2.2.2.2.1 s hs
    refine xgo sX4_gang [69] 100 (xle rfl) ⟨fun h => absurd h (nI_ge (by omega) (by omega)), fun _ => hO_i (gsh (A.set_S S) g hs).1 (gShR (A.set_S S) g hs (xle rfl) rfl (c_X1_holds E _ _ _ at' 3) (fun r σ' h6 => ?_))⟩
    obtain ⟨rfl, rfl⟩ := h6
    refine ⟨rfl, fun h => ?_, fun h => ?_⟩
    · have h : ¬ holdF (A.sh s).2.1 at' 3 = 0 := h
      obtain ⟨i, m, rfl, hm, hle⟩ := hold_e h40 h
      have hm3 : m = 3 := by
        have := (nI_eq (a := 3) (b := m) (by omega) (by omega)).mp hm
        omega
      have hle : i + m ≤ (A.sh s).2.1 := hle
      have h40' : (A.sh s).2.1 ≤ 40 := h40
      have hq : Nat.ble 1000000 (30 + 2 * s) = false := by
        rcases (by omega : s = 0 ∨ s = 1 ∨ s = 2 ∨ s = 3) with rfl | rfl | rfl | rfl <;> rfl
      rw [gangF, if_neg h]
      refine hO_i (gsh (A.set_S S) g hs).1 (iald_i hq (gsh (A.set_S S) g hs).2 ⟨vp_in_nI (by omega) (by omega), hO_i (gsh (A.set_S S) g hs).1 (iald_i hq (gsh (A.set_S S) g hs).2 ⟨by rw [show nI i + 1 = nI (i + 1) from (nI_succ i).symm]; exact vp_in_nI (by omega) (by omega), hO_i (gsh (A.set_S S) g hs).1 (iald_i hq (gsh (A.set_S S) g hs).2 ⟨by rw [show nI i + 2 = nI (i + 2) from nI_add i 2]; exact vp_in_nI (by omega) (by omega), ?_⟩)⟩)⟩)
      refine XIn.same (xle rfl) (c_X4_wright E (A.set_S S) g hC _ _ _) (fun r σ' _ h6 => ?_)
      obtain ⟨rfl, g', rfl⟩ := h6
      have hn' := wrF_n S ((A.sh s).2.2 (nI i).toNatClampNeg) ((A.sh s).2.2 (nI i + 1).toNatClampNeg) ((A.sh s).2.2 (nI i + 2).toNatClampNeg) hC.1
      refine ⟨fun h7 => ?_, fun h7 => ?_⟩
      · have h7 : (wrF S ((A.sh s).2.2 (nI i).toNatClampNeg) ((A.sh s).2.2 (nI i + 1).toNatClampNeg) ((A.sh s).2.2 (nI i + 2).toNatClampNeg)).1 < 0 := h7
        have ih := l_X4_gang hs n hn5 so fr j (k + 1) (nI i + 3) c (wrF S ((A.sh s).2.2 (nI i).toNatClampNeg) ((A.sh s).2.2 (nI i + 1).toNatClampNeg) ((A.sh s).2.2 (nI i + 2).toNatClampNeg)).2 g' (CI.set_S hC hn') (by omega)
        rw [if_pos h7]
        rw [nI_succ] at ih
        exact ih
      · have h7 : ¬ (wrF S ((A.sh s).2.2 (nI i).toNatClampNeg) ((A.sh s).2.2 (nI i + 1).toNatClampNeg) ((A.sh s).2.2 (nI i + 2).toNatClampNeg)).1 < 0 := h7
        have ih := l_X4_gang hs n hn5 so fr j (k + 1) (nI i + 3) (c + 1) (wrF S ((A.sh s).2.2 (nI i).toNatClampNeg) ((A.sh s).2.2 (nI i + 1).toNatClampNeg) ((A.sh s).2.2 (nI i + 2).toNatClampNeg)).2 g' (CI.set_S hC hn') (by omega)
        rw [if_neg h7]
        rw [nI_succ] at ih
        exact ih
    · have h : holdF (A.sh s).2.1 at' 3 = 0 := h
      rw [gangF, if_pos h]
      exact ⟨rfl, g, rfl⟩
set_option maxRecDepth 100000 in
set_option maxHeartbeats 4000000 in
theorem c_X4_gang (hC : CI A) (s so fr n : Int32) : XCall E 21 yX4_gang cX4_gang 9 (some .int) [.ref 0, .int s, .int so, .int fr, .int n] (gW A g) (XR (o_gang A s so fr n)) := by
  unfold o_gang
  refine XCall.of (by decide +kernel) (xle rfl) (xgo sX4_gang [69] 200 (xle rfl) ⟨fun h => ?_, fun h => ⟨fun h2 => ?_, fun h2 => ⟨fun h3 => ?_, fun h3 => ?_⟩⟩⟩)
  · rw [if_pos h]
    exact ⟨rfl, g, rfl⟩
  · rw [if_neg h, if_pos h2]
    exact ⟨rfl, g, rfl⟩
  · rw [if_neg h, if_neg h2, if_neg h3]
    obtain ⟨k, hk, rfl⟩ := fs_e h
    obtain ⟨m, hm, rfl⟩ := fw_e (n := 6) (by omega) h3
    rw [nI_clamp (n := k) (by omega), nI_clamp (n := m) (by omega)]
    refine ⟨vp_in_nI (by omega) (by omega), _, aa3 hk, hO_i (gsh A g hk).1 (gShR A g hk (xle rfl) rfl (c_X1_isMissing E _ _ _) (fun r σ' h6 => ?_))⟩
    obtain ⟨rfl, rfl⟩ := h6
    refine ⟨rfl, fun h4 => ?_, fun h4 => ?_⟩
    · rw [if_neg (mis_y h4)]
      refine hO_i (gsh A g hk).1 ⟨fun h5 => ?_, fun h5 => ?_⟩
      · rw [if_pos h5]
        exact l_X4_gang E A hk m (by omega) so fr m 0 fr 0 A.S g hC (Nat.zero_add _)
      · rw [if_neg h5]
        exact ⟨rfl, g, rfl⟩
    · rw [if_pos (mis_n h4)]
      exact ⟨rfl, g, rfl⟩
  · rw [if_neg h, if_neg h2, if_pos h3]
    exact ⟨rfl, g, rfl⟩
set_option maxRecDepth 100000 in
set_option maxHeartbeats 4000000 in
theorem l_X4_taken (hC : CI A) {one : Nat} (ho : one < A.S.n) (k : Int32) : ∀ (j i : Nat) (kind : Int32), i + j = 6 → XAt E RX4 cX4_taken 5 (some .int) 20 61 (XR (tkF A.S one k j kind, A)) 39 [(0, .ref 0), (1, .int (nI one)), (2, .int k), (3, .int kind), (4, .int (nI i))] [] (gW A g)
  | 0, i, kind, hi => by
    obtain rfl : i = 6 := by omega
    exact xgo sX4_taken [39] 100 (xle rfl) ⟨fun _ => ⟨rfl, g, rfl⟩, fun h => absurd (nI_le (a := 6) (b := 6) (Nat.le_refl _) (by omega)) h⟩
  | j + 1, i, kind, hi => by
    have h5 := hC.1
    refine xgo sX4_taken [39] 100 (xle rfl) ⟨fun h => absurd h (nI_ge (b := 6) (by omega) (by omega)), fun _ => ⟨fun h => ?_, fun h => ⟨fun h2 => ?_, fun h2 => ?_⟩⟩⟩
    · rw [tkF, if_pos h]
      exact ⟨rfl, g, rfl⟩
    · rw [tkF, if_neg h, if_neg h2]
      obtain ⟨q, hq, rfl⟩ := fw_e (n := 6) (by omega) h
      refine ⟨vp_in_nI hq (by omega), ?_⟩
      have ih := l_X4_taken hC ho k j (i + 1) (xst 1 (nI q).toNatClampNeg) (by omega)
      rw [nI_succ] at ih
      exact ih
    · rw [tkF, if_neg h, if_pos h2]
      refine ⟨vp_in_nI (by omega) (by omega), ?_⟩
      rw [nI_clamp (by omega)]
      exact ⟨rfl, g, rfl⟩
set_option maxRecDepth 100000 in
set_option maxHeartbeats 4000000 in
theorem c_X4_taken (hC : CI A) (one k : Int32) : XCall E 20 yX4_taken cX4_taken 5 (some .int) [.ref 0, .int one, .int k] (gW A g) (XR (o_taken A one k)) := by
  unfold o_taken hasF
  have h5 := hC.1
  refine XCall.of (by decide +kernel) (xle rfl) (xgo sX4_taken [39] 100 (xle rfl) ⟨fun h => ?_, fun h => ?_⟩)
  · rw [if_neg h]
    refine gS0 A g hC.ru6 (xle rfl) rfl (c_X2_has E A.S _ _ _ one) (fun r σ' h2 => ?_)
    obtain ⟨rfl, rfl⟩ := h2
    refine ⟨_, _, _, rfl, fun h2 => ?_, fun h2 => ?_⟩
    · rw [if_neg h2]
      obtain ⟨q, hq, rfl⟩ := fw_e (by omega) h2
      refine ⟨vp_in_nI (by omega) (by omega), ?_⟩
      rw [nI_clamp (by omega)]
      exact l_X4_taken E A _ hC hq k 6 0 _ rfl
    · rw [if_pos h2]
      exact ⟨rfl, _, rfl⟩
  · rw [if_pos h]
    exact ⟨rfl, g, rfl⟩
end CLS
