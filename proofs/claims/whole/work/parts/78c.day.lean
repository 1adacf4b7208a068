-- ===== the day keeps both sides' state =====
theorem b_day (E : XEnv) {A : AS} {h : YQ} (hB : BI A h) : XCall E 110 yX5_day cX5_day 1 (some .int) [.ref 0] (mW A h) (YB (o_day A)) :=
  (c_X5_day (E := E) (A := A) (hB.says0 E) h rfl rfl A.S hB.1.2.1.1 hB.1.2.1.2.2).mono (fun r σ' _ x => by
    have ai := AI_day hB.1
    have aa := AT_day A
    unfold o_day at ai aa
    unfold o_day
    rcases x with ⟨c, rfl, rfl⟩ | ⟨c1, c2, rfl, x, rfl⟩
    · rcases c with c | c
      · rw [if_pos c]
        exact ⟨rfl, h, hB, rfl⟩
      · by_cases c9 : (999 : Int32) ≤ A.S.dy
        · rw [if_pos c9]
          exact ⟨rfl, h, hB, rfl⟩
        · rw [if_neg c9, if_neg c]
          exact ⟨rfl, h, hB, rfl⟩
    · rw [if_neg c1, if_pos c2] at ai aa ⊢
      exact ⟨rfl, h.rd x, hB.k (Yk.rd h x) ai aa.1 aa.2, rfl⟩)
