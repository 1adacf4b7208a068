-- ===== both sides' state, kept =====
/-- the texts' bytes where the reference has them -/
def MT (A : AS) (h : YQ) : Prop := ∀ r, r < A.tc → h.ts r = nI (A.tz r) ∧ ∀ i, i < A.tz r → h.tx (160 * r + i) = A.tb r i
def BI (A : AS) (h : YQ) : Prop := AI A ∧ TI A ∧ MS A h ∧ MK A h ∧ MT A h
/-- the rest is as it was -/
def AT (A A' : AS) : Prop := (A'.ik = A.ik ∧ A'.K = A.K ∧ A'.kr = A.kr) ∧ (A'.tc = A.tc ∧ A'.tx = A.tx ∧ A'.tb = A.tb ∧ A'.tz = A.tz) ∧ A'.pb = A.pb ∧ A'.pn = A.pn
theorem AT.same (A : AS) : AT A A := ⟨⟨rfl, rfl, rfl⟩, ⟨rfl, rfl, rfl, rfl⟩, rfl, rfl⟩
theorem TI.at {A A' : AS} (h : TI A) (a : AT A A') : TI A' := by
  obtain ⟨_, ⟨a1, a2, a3, a4⟩, a5, a6⟩ := a
  have e : ∀ r, tvA A' r = tvA A r := fun r => by unfold tvA; rw [a2]
  unfold TI
  rw [a1, a3, a4, a5, a6]
  refine ⟨h.1, fun r hr => ?_⟩
  rw [e]
  exact h.2 r hr
theorem MK.at {A A' : AS} {h h' : YQ} (hk : MK A h) (a : AT A A') (e1 : h'.k1 = h.k1) (e2 : h'.k2 = h.k2) (e3 : h'.k3 = h.k3) (e4 : h'.k4 = h.k4) (e5 : h'.k5 = h.k5) (er : h'.rk = h.rk) (eb : h'.bk = h.bk) (es : h'.sk = h.sk) : MK A' h' := by
  obtain ⟨⟨b1, b2, b3⟩, _⟩ := a
  unfold MK MKs at hk ⊢
  rw [b1, b2, b3, e1, e2, e3, e4, e5, er, eb, es]
  exact hk
theorem MT.at {A A' : AS} {h h' : YQ} (hm : MT A h) (a : AT A A') (e1 : h'.tx = h.tx) (e2 : h'.ts = h.ts) : MT A' h' := by
  obtain ⟨_, ⟨a1, _, a3, a4⟩, _⟩ := a
  unfold MT at hm ⊢
  rw [a1, a3, a4, e1, e2]
  exact hm
theorem BI.k {A A' : AS} {h h' : YQ} (hB : BI A h) (hy : Yk h h') (ai : AI A') (a : AT A A') (es : A'.sh = A.sh) : BI A' h' := by
  obtain ⟨_, ti, ms, mk, mt⟩ := hB
  refine ⟨ai, ti.at a, ?_, mk.at a hy.2.2.2.2.1 hy.2.2.2.2.2.1 hy.2.2.2.2.2.2.1 hy.2.2.2.2.2.2.2.1 hy.2.2.2.2.2.2.2.2 hy.2.1 hy.2.2.1 hy.2.2.2.1, mt.at a hy.1.1 hy.1.2.1⟩
  have m := ms.yk hy
  unfold MS at m ⊢
  rw [es]
  exact m
theorem BI.s {A A' : AS} {h h' : YQ} (hB : BI A h) (hy : Ysh h h') (ms : MS A' h') (ai : AI A') (a : AT A A') : BI A' h' := by
  obtain ⟨_, ti, _, mk, mt⟩ := hB
  obtain ⟨y1, y2, y3, y4, y5, y6, y7, y8, y9, y10⟩ := hy
  exact ⟨ai, ti.at a, ms, mk.at a y6 y7 y8 y9 y10 y3 y4 y5, mt.at a y1 y2⟩
theorem BI.says {A : AS} {h : YQ} (E : XEnv) (hB : BI A h) : ∀ r, r < A.tc → SaysOk E (A.set_ru r) (tvA A r) h.tx h.ts := by
  intro r hr
  obtain ⟨ai, ti, _, _, mt⟩ := hB
  have t := ti.2 r hr
  have m := mt r hr
  have h6 := ai.1.2.2.1
  exact says_ok E (A.set_ru r) (tvA A r) h.tx h.ts (A.tb r) (A.tz r) (show r < 6 by omega) t.1 m.1 m.2 t.2.1 t.2.2
theorem BI.says0 {A : AS} {h : YQ} (E : XEnv) (hB : BI A h) : SaysOk E A (tvA A A.ru) h.tx h.ts := hB.says E A.ru hB.1.1.2.1
def YB (p : Int32 × AS) : XQ := fun r σ' => r = some (.int p.1) ∧ ∃ h', BI p.2 h' ∧ σ' = mW p.2 h'
def YBl (p : Int64 × AS) : XQ := fun r σ' => r = some (.long p.1) ∧ ∃ h', BI p.2 h' ∧ σ' = mW p.2 h'

theorem AT_told (A : AS) (of what : Int32) : AT A (o_told A of what).2 ∧ (o_told A of what).2.sh = A.sh := by
  unfold o_told
  repeat' split
  all_goals exact ⟨⟨⟨rfl, rfl, rfl⟩, ⟨rfl, rfl, rfl, rfl⟩, rfl, rfl⟩, rfl⟩
theorem AT_asks (A : AS) (one part what : Int32) : AT A (o_asks A one part what).2 ∧ (o_asks A one part what).2.sh = A.sh := by
  unfold o_asks
  repeat' split
  all_goals exact ⟨⟨⟨rfl, rfl, rfl⟩, ⟨rfl, rfl, rfl, rfl⟩, rfl, rfl⟩, rfl⟩
theorem AT_run (A : AS) (n what : Int32) : AT A (o_run A n what).2 ∧ (o_run A n what).2.sh = A.sh := by
  unfold o_run
  repeat' split
  all_goals exact ⟨⟨⟨rfl, rfl, rfl⟩, ⟨rfl, rfl, rfl, rfl⟩, rfl, rfl⟩, rfl⟩
theorem AT_down (A : AS) : AT A (o_down A).2 ∧ (o_down A).2.sh = A.sh := by
  unfold o_down
  repeat' split
  all_goals exact ⟨⟨⟨rfl, rfl, rfl⟩, ⟨rfl, rfl, rfl, rfl⟩, rfl, rfl⟩, rfl⟩
theorem AT_worst (A : AS) : AT A (o_worst A).2 ∧ (o_worst A).2.sh = A.sh := by
  unfold o_worst
  repeat' split
  all_goals exact ⟨⟨⟨rfl, rfl, rfl⟩, ⟨rfl, rfl, rfl, rfl⟩, rfl, rfl⟩, rfl⟩
theorem AT_count (A : AS) (what : Int32) : AT A (o_count A what).2 ∧ (o_count A what).2.sh = A.sh := by
  unfold o_count
  repeat' split
  all_goals exact ⟨⟨⟨rfl, rfl, rfl⟩, ⟨rfl, rfl, rfl, rfl⟩, rfl, rfl⟩, rfl⟩
theorem AT_taken (A : AS) (one k : Int32) : AT A (o_taken A one k).2 ∧ (o_taken A one k).2.sh = A.sh := by
  unfold o_taken
  repeat' split
  all_goals exact ⟨⟨⟨rfl, rfl, rfl⟩, ⟨rfl, rfl, rfl, rfl⟩, rfl, rfl⟩, rfl⟩
theorem AT_drawn (A : AS) (seed n : Int32) : AT A (o_drawn A seed n).2 ∧ (o_drawn A seed n).2.sh = A.sh := by
  unfold o_drawn
  repeat' split
  all_goals exact ⟨⟨⟨rfl, rfl, rfl⟩, ⟨rfl, rfl, rfl, rfl⟩, rfl, rfl⟩, rfl⟩
theorem AT_stands (A : AS) (n : Int32) : AT A (o_stands A n).2 ∧ (o_stands A n).2.sh = A.sh := by
  unfold o_stands
  repeat' split
  all_goals exact ⟨⟨⟨rfl, rfl, rfl⟩, ⟨rfl, rfl, rfl, rfl⟩, rfl, rfl⟩, rfl⟩
theorem AT_tells (A : AS) (s one what : Int32) : AT A (o_tells A s one what).2 ∧ (o_tells A s one what).2.sh = A.sh := by
  unfold o_tells
  repeat' split
  all_goals exact ⟨⟨⟨rfl, rfl, rfl⟩, ⟨rfl, rfl, rfl, rfl⟩, rfl, rfl⟩, rfl⟩
theorem AT_go (A : AS) (n what : Int32) : AT A (o_go A n what).2 ∧ (o_go A n what).2.sh = A.sh := by
  unfold o_go
  repeat' split
  all_goals exact ⟨⟨⟨rfl, rfl, rfl⟩, ⟨rfl, rfl, rfl, rfl⟩, rfl, rfl⟩, rfl⟩
theorem AT_yard (A : AS) (n what : Int32) : AT A (o_yard A n what).2 ∧ (o_yard A n what).2.sh = A.sh := by
  unfold o_yard
  repeat' split
  all_goals exact ⟨⟨⟨rfl, rfl, rfl⟩, ⟨rfl, rfl, rfl, rfl⟩, rfl, rfl⟩, rfl⟩
theorem AT_set (A : AS) (what of v : Int32) : AT A (o_set A what of v).2 ∧ (o_set A what of v).2.sh = A.sh := by
  unfold o_set
  repeat' split
  all_goals exact ⟨⟨⟨rfl, rfl, rfl⟩, ⟨rfl, rfl, rfl, rfl⟩, rfl, rfl⟩, rfl⟩
theorem AT_builds (A : AS) (one part : Int32) : AT A (o_builds A one part).2 ∧ (o_builds A one part).2.sh = A.sh := by
  unfold o_builds
  repeat' split
  all_goals exact ⟨⟨⟨rfl, rfl, rfl⟩, ⟨rfl, rfl, rfl, rfl⟩, rfl, rfl⟩, rfl⟩
theorem AT_wright (A : AS) (k n s : Int32) : AT A (o_wright A k n s).2 ∧ (o_wright A k n s).2.sh = A.sh := by
  unfold o_wright
  repeat' split
  all_goals exact ⟨⟨⟨rfl, rfl, rfl⟩, ⟨rfl, rfl, rfl, rfl⟩, rfl, rfl⟩, rfl⟩
theorem AT_bound (A : AS) : AT A (o_bound A).2 ∧ (o_bound A).2.sh = A.sh := by
  unfold o_bound
  repeat' split
  all_goals exact ⟨⟨⟨rfl, rfl, rfl⟩, ⟨rfl, rfl, rfl, rfl⟩, rfl, rfl⟩, rfl⟩
theorem AT_home (A : AS) : AT A (o_home A).2 ∧ (o_home A).2.sh = A.sh := by
  unfold o_home
  repeat' split
  all_goals exact ⟨⟨⟨rfl, rfl, rfl⟩, ⟨rfl, rfl, rfl, rfl⟩, rfl, rfl⟩, rfl⟩
theorem AT_day (A : AS) : AT A (o_day A).2 ∧ (o_day A).2.sh = A.sh := by
  unfold o_day
  repeat' split
  all_goals exact ⟨⟨⟨rfl, rfl, rfl⟩, ⟨rfl, rfl, rfl, rfl⟩, rfl, rfl⟩, rfl⟩
theorem AT_force (A : AS) (t : Int32) : AT A (o_force A t).2 ∧ (o_force A t).2.sh = A.sh := by
  unfold o_force
  repeat' split
  all_goals exact ⟨⟨⟨rfl, rfl, rfl⟩, ⟨rfl, rfl, rfl, rfl⟩, rfl, rfl⟩, rfl⟩
theorem AT_sheet (A : AS) (s so n : Int32) : AT A (o_sheet A s so n).2 := by
  unfold o_sheet
  repeat' split
  all_goals exact ⟨⟨rfl, rfl, rfl⟩, ⟨rfl, rfl, rfl, rfl⟩, rfl, rfl⟩
theorem AT_cell (A : AS) (s i v : Int32) : AT A (o_cell A s i v).2 := by
  unfold o_cell
  repeat' split
  all_goals exact ⟨⟨rfl, rfl, rfl⟩, ⟨rfl, rfl, rfl, rfl⟩, rfl, rfl⟩
theorem AT_copy (A : AS) (s i o j n : Int32) : AT A (o_copy A s i o j n).2 := by
  unfold o_copy
  repeat' split
  all_goals exact ⟨⟨rfl, rfl, rfl⟩, ⟨rfl, rfl, rfl, rfl⟩, rfl, rfl⟩
theorem AT_gang (A : AS) (s so at' n : Int32) : AT A (o_gang A s so at' n).2 := by
  unfold o_gang
  repeat' split
  all_goals exact ⟨⟨rfl, rfl, rfl⟩, ⟨rfl, rfl, rfl, rfl⟩, rfl, rfl⟩
theorem AT_film (A : AS) (s n : Int32) : AT A (o_film A s n).2 := by
  unfold o_film
  repeat' split
  all_goals exact ⟨⟨rfl, rfl, rfl⟩, ⟨rfl, rfl, rfl, rfl⟩, rfl, rfl⟩
