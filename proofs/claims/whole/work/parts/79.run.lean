-- ===== a run of places put into a world =====
theorem xmg_run (R : List Nat) : ∀ (es old pre post : XW), old.length = es.length → xmg R (List.range' pre.length es.length) es (pre ++ (old ++ post)) = pre ++ (es.map (xpE R) ++ post)
  | [], old, pre, post, h => by
    have e : old = [] := List.length_eq_zero_iff.mp h
    subst e
    rfl
  | e :: es, [], pre, post, h => by simp at h
  | e :: es, o :: old, pre, post, h => by
    have h : old.length = es.length := by simpa using h
    have ih := xmg_run R es old (pre ++ [xpE R e]) post h
    have el : (pre ++ [xpE R e]).length = pre.length + 1 := by simp
    rw [el] at ih
    have e1 : xmg R (List.range' pre.length (e :: es).length) (e :: es) (pre ++ (o :: old ++ post)) = xmg R (List.range' (pre.length + 1) es.length) es ((pre ++ (o :: old ++ post)).set pre.length (xpE R e)) := rfl
    have e2 : (pre ++ (o :: old ++ post)).set pre.length (xpE R e) = pre ++ [xpE R e] ++ (old ++ post) := by simp
    rw [e1, e2, ih]
    simp
theorem xsub_run (R : List Nat) : ∀ (es pre post : XW), (List.range' pre.length es.length).map (fun i => (pre ++ (es.map (xpE R) ++ post))[i]?) = es.map (fun e => some (xpE R e))
  | [], _, _ => rfl
  | e :: es, pre, post => by
    have ih := xsub_run R es (pre ++ [xpE R e]) post
    have el : (pre ++ [xpE R e]).length = pre.length + 1 := by simp
    have e2 : pre ++ [xpE R e] ++ (es.map (xpE R) ++ post) = pre ++ ((e :: es).map (xpE R) ++ post) := by simp
    rw [el, e2] at ih
    show (pre ++ ((e :: es).map (xpE R) ++ post))[pre.length]? :: (List.range' (pre.length + 1) es.length).map (fun i => (pre ++ ((e :: es).map (xpE R) ++ post))[i]?) = some (xpE R e) :: es.map (fun e => some (xpE R e))
    rw [ih]
    simp
