/-! What a statement is, written behind its node. -/
theorem pLk_lo {s : pS} {nd : Nat → Nat → Int32} {n z : Nat} (hz : z < 8) : pLk s nd n z = nd n z := by
  unfold pLk
  split
  · split
    · rfl
    · refine up_ne2 (fun e => ?_)
      have e2 := e.2
      split at e2 <;> omega
  · exact up_ne2 (by omega)
theorem pLk_ext {s : pS} {nd nd' : Nat → Nat → Int32} {n z : Nat} (h : nd n z = nd' n z) : pLk s nd n z = pLk s nd' n z := by
  unfold pLk
  split
  · split
    · exact h
    · exact jj_up_ext h
  · exact jj_up_ext h
theorem pF_hi {k f x y w b e o k' f' x' y' : Int32} {z : Nat} (hz : 4 ≤ z) : pF k f x y w b e o z = pF k' f' x' y' w b e o z := by
  unfold pF
  rw [if_neg (show ¬ z = 0 by omega), if_neg (show ¬ z = 1 by omega), if_neg (show ¬ z = 2 by omega), if_neg (show ¬ z = 3 by omega), if_neg (show ¬ z = 0 by omega), if_neg (show ¬ z = 1 by omega), if_neg (show ¬ z = 2 by omega), if_neg (show ¬ z = 3 by omega)]
theorem pAdd_desc {M : zM} {s : pS} {l : List Nat} {len : Nat} {k0 f0 x0 y0 w k f x y : Int32} (hC : pC M (pAdd l s len k0 f0 x0 y0 w)) (hct : s.2.2.1 < 24) : pC (jj_up (jj_up (jj_up (jj_up M (5 + s.2.2.1) 0 k) (5 + s.2.2.1) 1 f) (5 + s.2.2.1) 2 x) (5 + s.2.2.1) 3 y) (pAdd l s len k f x y w) := by
  obtain ⟨c1, c2, c3, c4, c5⟩ := hC
  refine ⟨?_, ?_, ?_, fun d hd => ?_, fun n hn z hz => ?_⟩
  · simp (disch := omega) only [up_ne]
    exact c1
  · simp (disch := omega) only [up_ne]
    exact c2
  · simp (disch := omega) only [up_ne]
    exact c3
  · simp (disch := omega) only [up_ne]
    exact c4 d hd
  · have c6 := c5 n hn z hz
    have hn : n < s.2.2.1 + 1 := hn
    show _ = pLk s (fun i => if i = s.2.2.1 then pF k f x y w (nI (l.getD s.1 0)) (nI (l.getD (s.1 + len - 1) 0)) (s.2.2.2.1 s.2.1) else s.2.2.2.2.2.2 i) n z
    have c6 : M (5 + n) z = pLk s (fun i => if i = s.2.2.1 then pF k0 f0 x0 y0 w (nI (l.getD s.1 0)) (nI (l.getD (s.1 + len - 1) 0)) (s.2.2.2.1 s.2.1) else s.2.2.2.2.2.2 i) n z := c6
    by_cases h4 : n = s.2.2.1 ∧ z < 4
    · obtain ⟨e, h4⟩ := h4
      rw [pLk_lo (by omega)]
      rw [if_pos e, e]
      match z, h4 with
      | 0, _ => simp (disch := omega) only [up_ne, up_k, up_eq]; rfl
      | 1, _ => simp (disch := omega) only [up_ne, up_k, up_eq]; rfl
      | 2, _ => simp (disch := omega) only [up_ne, up_k, up_eq]; rfl
      | 3, _ => simp (disch := omega) only [up_ne, up_k, up_eq]; rfl
      | z + 4, h => omega
    · rw [up_ne2 (by omega), up_ne2 (by omega), up_ne2 (by omega), up_ne2 (by omega), c6]
      refine pLk_ext ?_
      by_cases e : n = s.2.2.1
      · rw [if_pos e, if_pos e]
        exact pF_hi (by omega)
      · rw [if_neg e, if_neg e]
theorem pAdd_loop {M : zM} {s : pS} {l : List Nat} {len : Nat} {w w' k f x y : Int32} (hC : pC M (pAdd l s len k f x y w)) (hct : s.2.2.1 < 24) : pC (jj_up M (5 + s.2.2.1) 4 w') (pAdd l s len k f x y w') := by
  obtain ⟨c1, c2, c3, c4, c5⟩ := hC
  refine ⟨?_, ?_, ?_, fun d hd => ?_, fun n hn z hz => ?_⟩
  · simp (disch := omega) only [up_ne]
    exact c1
  · simp (disch := omega) only [up_ne]
    exact c2
  · simp (disch := omega) only [up_ne]
    exact c3
  · simp (disch := omega) only [up_ne]
    exact c4 d hd
  · have c6 : M (5 + n) z = pLk s (fun i => if i = s.2.2.1 then pF k f x y w (nI (l.getD s.1 0)) (nI (l.getD (s.1 + len - 1) 0)) (s.2.2.2.1 s.2.1) else s.2.2.2.2.2.2 i) n z := c5 n hn z hz
    show _ = pLk s (fun i => if i = s.2.2.1 then pF k f x y w' (nI (l.getD s.1 0)) (nI (l.getD (s.1 + len - 1) 0)) (s.2.2.2.1 s.2.1) else s.2.2.2.2.2.2 i) n z
    by_cases h4 : n = s.2.2.1 ∧ z = 4
    · obtain ⟨e, h4⟩ := h4
      rw [pLk_lo (by omega)]
      rw [if_pos e, e, h4, up_eq]
      rfl
    · rw [up_ne2 (by omega), c6]
      refine pLk_ext ?_
      by_cases e : n = s.2.2.1
      · rw [if_pos e, if_pos e]
        unfold pF
        rw [if_neg (c := z = 4) (by omega), if_neg (c := z = 4) (by omega)]
      · rw [if_neg e, if_neg e]
