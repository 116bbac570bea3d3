/-! One statement as a function of the parser's state, and what it keeps. -/
theorem pAdd_I {N : Nat} {s : pS} {l : List Nat} {len : Nat} {k f x y w : Int32} (h : pI N s) (hn : s.1 + len ≤ N) (hct : s.2.2.1 < 24) : pI N (pAdd l s len k f x y w) := by
  obtain ⟨i1, i2, i3, i4, i5, i6, i7⟩ := h
  refine ⟨hn, i2, hct, i4, fun d h1 h2 => ?_, i6, fun d h1 => ?_⟩
  · obtain ⟨j, j1, j2, j3⟩ := i5 d h1 h2
    refine ⟨j, Nat.lt_succ_of_lt j1, j2, ?_⟩
    show pLk s (fun i => if i = s.2.2.1 then pF k f x y w (nI (l.getD s.1 0)) (nI (l.getD (s.1 + len - 1) 0)) (s.2.2.2.1 s.2.1) else s.2.2.2.2.2.2 i) j 0 = 3
    rw [pLk_lo (by omega), if_neg (by omega)]
    exact j3
  · show upd s.2.2.2.2.2.1 s.2.1 (nI s.2.2.1) d = -1 ∨ ∃ j : Nat, j < s.2.2.1 + 1 ∧ upd s.2.2.2.2.2.1 s.2.1 (nI s.2.2.1) d = nI j
    unfold upd
    by_cases e : d = s.2.1
    · rw [if_pos e]
      exact Or.inr ⟨s.2.2.1, Nat.lt_succ_self _, rfl⟩
    · rw [if_neg e]
      rcases i7 d h1 with q | ⟨j, j1, j2⟩
      · exact Or.inl q
      · exact Or.inr ⟨j, Nat.lt_succ_of_lt j1, j2⟩
theorem pAdd_0 {s : pS} {l : List Nat} {len : Nat} {k f x y w : Int32} : (pAdd l s len k f x y w).2.2.2.2.2.2 s.2.2.1 0 = k := by
  show pLk s (fun i => if i = s.2.2.1 then pF k f x y w (nI (l.getD s.1 0)) (nI (l.getD (s.1 + len - 1) 0)) (s.2.2.2.1 s.2.1) else s.2.2.2.2.2.2 i) s.2.2.1 0 = k
  rw [pLk_lo (by omega), if_pos rfl]
  rfl
/-- the statement that begins at the next token, whose sign is not } -/
def pStmt (t : Nat → Nat) (l : List Nat) (s : pS) : Option pS :=
  if s.2.2.1 = 24 then none
  else if sg t l s.1 = 63 ∨ sg t l s.1 = 42 then (if isV (sg t l (s.1 + 1)) ∧ sg t l (s.1 + 2) = 123 ∧ s.2.1 < 6 then some (pOp (pAdd l s 2 3 0 (nI (sg t l (s.1 + 1) - 97)) 0 (bI (decide (sg t l s.1 = 42)))) (s.1 + 2 + 1) (nI s.2.2.1) 0) else none)
  else if sg t l s.1 = 33 then (if isV (sg t l (s.1 + 1)) ∧ sg t l (s.1 + 2) = 59 then some (pAdd l s 3 2 0 (nI (sg t l (s.1 + 1) - 97)) 0 0) else none)
  else if isF (sg t l s.1) then (if sg t l (s.1 + 1) = 40 ∧ isV (sg t l (s.1 + 2)) ∧ sg t l (s.1 + 3) = 41 ∧ sg t l (s.1 + 4) = 59 then some (pAdd l s 5 0 (nI (sg t l s.1 - 102)) (nI (sg t l (s.1 + 2) - 97)) 0 0) else none)
  else (if isV (sg t l s.1) ∧ sg t l (s.1 + 1) = 61 ∧ isV (sg t l (s.1 + 2)) ∧ sg t l (s.1 + 3) = 59 then some (pAdd l s 4 1 0 (nI (sg t l s.1 - 97)) (nI (sg t l (s.1 + 2) - 97)) 0) else none)
theorem pStmt_I {t : Nat → Nat} {l : List Nat} {s s' : pS} (h : pI l.length s) (e : pStmt t l s = some s') : pI l.length s' := by
  unfold pStmt at e
  have h24 := h.2.2.1
  split at e
  · cases e
  have hct : s.2.2.1 < 24 := by omega
  split at e
  · split at e
    · rename_i q
      cases e
      have q2 := sg_lt q.2.1 (by omega)
      exact pOp_I (pAdd_I h (by omega) hct) (by omega) q.2.2 (Nat.lt_succ_self _) pAdd_0 (Or.inl rfl)
    · cases e
  split at e
  · split at e
    · rename_i q
      cases e
      have q2 := sg_lt q.2 (by omega)
      exact pAdd_I h (by omega) hct
    · cases e
  split at e
  · split at e
    · rename_i q
      cases e
      have q2 := sg_lt q.2.2.2 (by omega)
      exact pAdd_I h (by omega) hct
    · cases e
  · split at e
    · rename_i q
      cases e
      have q2 := sg_lt q.2.2.2 (by omega)
      exact pAdd_I h (by omega) hct
    · cases e
/-- one turn of the parser -/
def pStep (t : Nat → Nat) (l : List Nat) (s : pS) : Option pS := if sg t l s.1 = 125 then pClose t l s else pStmt t l s
theorem pStep_I {t : Nat → Nat} {l : List Nat} {s s' : pS} (h : pI l.length s) (hn : s.1 < l.length) (e : pStep t l s = some s') : pI l.length s' := by
  unfold pStep at e
  split at e
  · exact pClose_I h hn e
  · exact pStmt_I h e
