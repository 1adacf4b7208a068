-- ===== the places, in the order of the law's world =====
def P77 : List Nat := [0, 1, 52, 26, 27, 28, 29, 30, 31, 32, 33, 34, 35, 36, 37, 38, 39, 40, 41, 42, 43, 44, 45, 46, 47, 48, 49, 50, 51, 53, 54, 55, 56, 57, 58, 59, 60, 2, 3, 4, 5, 6, 7, 8, 9, 10, 11, 12, 13, 14, 15, 16, 17, 18, 19, 20, 21, 22, 23, 24, 25, 61, 62, 63, 64, 65, 66, 67, 68, 69, 70, 71, 72, 73, 74, 75, 76]
def xcq (e e' : XE) : Prop := xce e e' ∨ ∃ (t n : Nat) (f f' : Nat → Option Nat), e = .inl (t, n, .inr (.inr (.inr (.inr f)))) ∧ e' = .inl (t, n, .inr (.inr (.inr (.inr f')))) ∧ ∀ k, k < n → f k = f' k
theorem xcq_at {cA : Nat → ClassId} {ad : Nat → Nat} {D : va_G} {a : Nat} {e e' : XE} {H : Heap} (h : xcq e e') (k : va_at D vwCl (a, xe cA ad e) H) : va_at D vwCl (a, xe cA ad e') H := by
  rcases h with h | ⟨t, n, f, f', rfl, rfl, hf⟩
  · exact xce_at h k
  · show H[a]? = some (arrV (cA t) n (fun j => va_rf ((f' j).map ad)))
    have k : H[a]? = some (arrV (cA t) n (fun j => va_rf ((f j).map ad))) := k
    rw [k]
    congr 1
    unfold arrV
    congr 1
    apply congrArg
    funext j
    show va_rf ((f j.val).map ad) = va_rf ((f' j.val).map ad)
    rw [hf j.val j.isLt]
theorem nth_of {α : Type} : ∀ {l : List α} {n : Nat} {a : α} {k : α → Prop}, l[n]? = some a → k a → nth l n k
  | [], _, _, _, h, _ => by simp at h
  | b :: r, 0, a, k, h, hk => by
    cases h
    exact hk
  | b :: r, n + 1, a, k, h, hk => nth_of (l := r) (n := n) h hk
theorem nt_r {σ : XW} {i : Nat} {e : XE} (h : σ[i]? = some e) : nth σ i (fun x => xcq x e) := nth_of h (Or.inl (xce_rfl _))
theorem nt_i {σ : XW} {i t n : Nat} {e : XE} {f f' : F32} (h : σ[i]? = some (.inl (t, n, .inl f))) (h2 : e = .inl (t, n, .inl f')) (hf : ∀ k, k < n → f k = f' k) : nth σ i (fun x => xcq x e) := nth_of h (Or.inl (by rw [h2]; exact ⟨rfl, rfl, hf⟩))
theorem nt_q {σ : XW} {i t n : Nat} {e : XE} {f f' : Nat → Option Nat} (h : σ[i]? = some (.inl (t, n, .inr (.inr (.inr (.inr f)))))) (h2 : e = .inl (t, n, .inr (.inr (.inr (.inr f'))))) (hf : ∀ k, k < n → f k = f' k) : nth σ i (fun x => xcq x e) := nth_of h (Or.inr ⟨t, n, f, f', rfl, h2, hf⟩)
def gR2 (σ : XW) (P : List Nat) : List Nat → XW → Prop
  | [], [] => True
  | i :: is, e' :: es => nth σ i (fun e => xcq e (xpE P e')) ∧ gR2 σ P is es
  | _, _ => False
theorem gR2_e {σ : XW} {P : List Nat} : ∀ {is : List Nat} {es : XW}, gR2 σ P is es → ∀ (k : Nat) (e' : XE), es[k]? = some e' → ∃ i e, is[k]? = some i ∧ σ[i]? = some e ∧ xcq e (xpE P e')
  | [], [], _, k, e', h => by simp at h
  | i :: is, e0 :: es, ⟨h1, h2⟩, 0, e', h => by
    cases h
    obtain ⟨e, g1, g2⟩ := nth_e h1
    exact ⟨i, e, rfl, g1, g2⟩
  | i :: is, e0 :: es, ⟨h1, h2⟩, k + 1, e', h => gR2_e h2 k e' h
  | [], _ :: _, h, _, _, _ => h.elim
  | _ :: _, [], h, _, _, _ => h.elim
theorem gPerm {D : va_G} {cA : Nat → ClassId} {ad : Nat → Nat} {σ σ' : XW} {P : List Nat} {H : Heap} (hP : va_P D vwCl (xw cA ad σ) H) (hl : P.length < 1000000) (h : gR2 σ P P σ') : va_P D vwCl (xw cA (xad ad P) σ') H := by
  intro k x hk
  obtain ⟨e', h1, rfl⟩ := xw_get' hk
  obtain ⟨i, e, h2, h3, h4⟩ := gR2_e h k e' h1
  have h5 := xcq_at h4 (hP i _ (xw_get (cA := cA) (ad := ad) h3))
  rw [xe_comp] at h5
  have e1 : xad ad P k = ad i := by
    unfold xad
    rw [xp_in hl h2]
  rw [e1]
  exact h5
def w77 : XW := w4d4.map (gE 0 0) ++ (w5 1 x5_5 t5 (mkF 10)).map (gE 61 0)
set_option maxRecDepth 100000 in
set_option maxHeartbeats 4000000 in
theorem st_perm : gR2 w77 P77 P77 (lW st_A st_g st_A st_h) :=
  ⟨nt_r rfl, nt_q rfl rfl (fun k hk => by rcases (by omega : k = 0 ∨ k = 1 ∨ k = 2 ∨ k = 3 ∨ k = 4 ∨ k = 5) with rfl | rfl | rfl | rfl | rfl | rfl <;> rfl), nt_q rfl rfl (fun k hk => by rcases (by omega : k = 0 ∨ k = 1 ∨ k = 2 ∨ k = 3) with rfl | rfl | rfl | rfl <;> rfl), nt_r rfl, nt_r rfl, nt_r rfl, nt_r rfl, nt_r rfl, nt_r rfl, nt_r rfl, nt_r rfl, nt_r rfl, nt_r rfl, nt_r rfl, nt_r rfl, nt_r rfl, nt_r rfl, nt_r rfl, nt_r rfl, nt_r rfl, nt_r rfl, nt_r rfl, nt_r rfl, nt_r rfl, nt_r rfl, nt_r rfl, nt_r rfl, nt_r rfl, nt_r rfl, nt_r rfl, nt_r rfl, nt_r rfl, nt_r rfl, nt_r rfl, nt_r rfl, nt_r rfl, nt_r rfl, nt_r rfl, nt_r rfl, nt_r rfl, nt_r rfl, nt_r rfl, nt_r rfl, nt_r rfl, nt_r rfl, nt_r rfl, nt_r rfl, nt_r rfl, nt_r rfl, nt_r rfl, nt_r rfl, nt_r rfl, nt_r rfl, nt_r rfl, nt_r rfl, nt_r rfl, nt_r rfl, nt_r rfl, nt_r rfl, nt_r rfl, nt_r rfl, nt_r rfl, nt_r rfl, nt_r rfl, nt_r rfl, nt_r rfl, nt_r rfl, nt_i rfl rfl (fun k _ => (st_rows k).symm), nt_r rfl, nt_r rfl, nt_r rfl, nt_r rfl, nt_r rfl, nt_r rfl, nt_r rfl, nt_r rfl, nt_r rfl, trivial⟩
