/-! What the parse keeps: the nodes' depths, links, fields and spans. -/
def nFd (f : Nat → Int32) : Prop := (f 4 = 0 ∨ f 4 = 1) ∧ ∃ q x : Nat, q ≤ 3 ∧ x ≤ 3 ∧ f 0 = nI q ∧ f 2 = nI x ∧ (q = 0 → ∃ g : Nat, g ≤ 2 ∧ f 1 = nI g) ∧ (q ≠ 0 → f 1 = 0) ∧ (q = 1 → ∃ g : Nat, g ≤ 3 ∧ f 3 = nI g) ∧ (q ≠ 1 → f 3 = 0)
def nOk (ct : Nat) (nd : Nat → Nat → Int32) (dep : Nat → Nat) (j : Nat) : Prop := dep j ≤ 6 ∧ ((nd j 7 = -1 ∧ dep j = 0) ∨ ∃ i : Nat, i < ct ∧ nd j 7 = nI i ∧ dep i + 1 = dep j) ∧ (∀ k, 8 ≤ k → k ≤ 10 → nd j k = -1 ∨ ∃ i : Nat, i < ct ∧ nd j k = nI i) ∧ nFd (nd j)
def nSp (l : List Nat) (nx : Nat) (nd : Nat → Nat → Int32) (A B : Nat → Nat) (j : Nat) : Prop := A j ≤ B j ∧ B j < nx ∧ nd j 5 = nI (l.getD (A j) 0) ∧ nd j 6 = nI (l.getD (B j) 0) ∧ ∀ i, i < j → B i < A j
def pJ (l : List Nat) (s : pS) : Prop := ∃ dep A B : Nat → Nat, (∀ d, 0 < d → d ≤ s.2.1 → ∃ j : Nat, j < s.2.2.1 ∧ s.2.2.2.1 d = nI j ∧ dep j + 1 = d) ∧ (∀ j, j < s.2.2.1 → nOk s.2.2.1 s.2.2.2.2.2.2 dep j) ∧ ∀ j, j < s.2.2.1 → nSp l s.1 s.2.2.2.2.2.2 A B j
theorem nFd_same {f f' : Nat → Int32} (h : ∀ z, z < 8 → f' z = f z) (g : nFd f) : nFd f' := by
  unfold nFd at g ⊢
  rw [h 0 (by omega), h 1 (by omega), h 2 (by omega), h 3 (by omega), h 4 (by omega)]
  exact g
theorem pLk_or {s : pS} {nd : Nat → Nat → Int32} {n z : Nat} : pLk s nd n z = nd n z ∨ pLk s nd n z = nI s.2.2.1 := by
  have J : ∀ a b : Nat, jj_up nd a b (nI s.2.2.1) n z = nd n z ∨ jj_up nd a b (nI s.2.2.1) n z = nI s.2.2.1 := fun a b => by
    by_cases e : n = a ∧ z = b
    · right
      rw [e.1, e.2, up_eq]
    · left
      exact up_ne2 e
  unfold pLk
  split
  · split
    · exact Or.inl rfl
    · exact J _ _
  · exact J _ _
theorem pAdd_J {s : pS} {l : List Nat} {len : Nat} {k f x y w : Int32} {N : Nat} (hI : pI N s) (h : pJ l s) (h1 : 1 ≤ len) (hF : nFd (pF k f x y w 0 0 0)) : pJ l (pAdd l s len k f x y w) := by
  obtain ⟨dep, A, B, h2, h3, h4⟩ := h
  have i2 := hI.2.1
  have lo : ∀ j z, z < 8 → (pAdd l s len k f x y w).2.2.2.2.2.2 j z = (if j = s.2.2.1 then pF k f x y w (nI (l.getD s.1 0)) (nI (l.getD (s.1 + len - 1) 0)) (s.2.2.2.1 s.2.1) else s.2.2.2.2.2.2 j) z := fun j z hz => pLk_lo hz
  refine ⟨fun i => if i = s.2.2.1 then s.2.1 else dep i, fun i => if i = s.2.2.1 then s.1 else A i, fun i => if i = s.2.2.1 then s.1 + len - 1 else B i, fun d h5 h6 => ?_, fun j hj => ?_, fun j hj => ?_⟩
  · obtain ⟨j, j1, j2, j3⟩ := h2 d h5 h6
    refine ⟨j, Nat.lt_succ_of_lt j1, j2, ?_⟩
    show (if j = s.2.2.1 then s.2.1 else dep j) + 1 = d
    rw [if_neg (by omega)]
    exact j3
  · have hj : j < s.2.2.1 + 1 := hj
    by_cases e : j = s.2.2.1
    · refine ⟨?_, ?_, fun z z1 z2 => ?_, ?_⟩
      · show (if j = s.2.2.1 then s.2.1 else dep j) ≤ 6
        rw [if_pos e]
        exact i2
      · rw [lo j 7 (by omega), if_pos e]
        show (s.2.2.2.1 s.2.1 = -1 ∧ (if j = s.2.2.1 then s.2.1 else dep j) = 0) ∨ ∃ i : Nat, i < s.2.2.1 + 1 ∧ s.2.2.2.1 s.2.1 = nI i ∧ (if i = s.2.2.1 then s.2.1 else dep i) + 1 = (if j = s.2.2.1 then s.2.1 else dep j)
        rw [if_pos e]
        by_cases d0 : s.2.1 = 0
        · left
          rw [d0]
          exact ⟨hI.2.2.2.1, rfl⟩
        · right
          obtain ⟨i, q1, q2, q3⟩ := h2 s.2.1 (by omega) (Nat.le_refl _)
          refine ⟨i, Nat.lt_succ_of_lt q1, q2, ?_⟩
          rw [if_neg (by omega)]
          exact q3
      · show pLk s _ j z = -1 ∨ ∃ i : Nat, i < s.2.2.1 + 1 ∧ pLk s _ j z = nI i
        rcases pLk_or (s := s) (nd := fun i => if i = s.2.2.1 then pF k f x y w (nI (l.getD s.1 0)) (nI (l.getD (s.1 + len - 1) 0)) (s.2.2.2.1 s.2.1) else s.2.2.2.2.2.2 i) (n := j) (z := z) with q | q
        · left
          rw [q, if_pos e]
          unfold pF
          rw [if_neg (by omega), if_neg (by omega), if_neg (by omega), if_neg (by omega), if_neg (by omega), if_neg (by omega), if_neg (by omega), if_neg (by omega)]
        · exact Or.inr ⟨s.2.2.1, Nat.lt_succ_self _, q⟩
      · unfold nFd at hF ⊢
        rw [lo j 0 (by omega), lo j 1 (by omega), lo j 2 (by omega), lo j 3 (by omega), lo j 4 (by omega), if_pos e]
        exact hF
    · obtain ⟨n1, n2, n3, n4⟩ := h3 j (by omega)
      refine ⟨?_, ?_, fun z z1 z2 => ?_, ?_⟩
      · show (if j = s.2.2.1 then s.2.1 else dep j) ≤ 6
        rw [if_neg e]
        exact n1
      · rw [lo j 7 (by omega), if_neg e]
        show (s.2.2.2.2.2.2 j 7 = -1 ∧ (if j = s.2.2.1 then s.2.1 else dep j) = 0) ∨ ∃ i : Nat, i < s.2.2.1 + 1 ∧ s.2.2.2.2.2.2 j 7 = nI i ∧ (if i = s.2.2.1 then s.2.1 else dep i) + 1 = (if j = s.2.2.1 then s.2.1 else dep j)
        rw [if_neg e]
        rcases n2 with q | ⟨i, q1, q2, q3⟩
        · exact Or.inl q
        · refine Or.inr ⟨i, Nat.lt_succ_of_lt q1, q2, ?_⟩
          rw [if_neg (by omega)]
          exact q3
      · show pLk s _ j z = -1 ∨ ∃ i : Nat, i < s.2.2.1 + 1 ∧ pLk s _ j z = nI i
        rcases pLk_or (s := s) (nd := fun i => if i = s.2.2.1 then pF k f x y w (nI (l.getD s.1 0)) (nI (l.getD (s.1 + len - 1) 0)) (s.2.2.2.1 s.2.1) else s.2.2.2.2.2.2 i) (n := j) (z := z) with q | q
        · rw [q, if_neg e]
          rcases n3 z z1 z2 with r | ⟨i, r1, r2⟩
          · exact Or.inl r
          · exact Or.inr ⟨i, Nat.lt_succ_of_lt r1, r2⟩
        · exact Or.inr ⟨s.2.2.1, Nat.lt_succ_self _, q⟩
      · refine nFd_same (fun z hz => ?_) n4
        rw [lo j z hz, if_neg e]
  · have hj : j < s.2.2.1 + 1 := hj
    unfold nSp
    rw [lo j 5 (by omega), lo j 6 (by omega)]
    by_cases e : j = s.2.2.1
    · simp only [if_pos e]
      refine ⟨by omega, by show s.1 + len - 1 < s.1 + len; omega, rfl, rfl, fun i hi => ?_⟩
      rw [if_neg (by omega)]
      exact (h4 i (by omega)).2.1
    · obtain ⟨n1, n2, n3, n4, n5⟩ := h4 j (by omega)
      simp only [if_neg e]
      refine ⟨n1, by show B j < s.1 + len; omega, n3, n4, fun i hi => ?_⟩
      rw [if_neg (by omega)]
      exact n5 i hi
theorem nSp_mono {l : List Nat} {nx ny : Nat} {nd : Nat → Nat → Int32} {A B : Nat → Nat} {j : Nat} (hn : nx ≤ ny) (h : nSp l nx nd A B j) : nSp l ny nd A B j := ⟨h.1, Nat.lt_of_lt_of_le h.2.1 hn, h.2.2⟩
theorem pCl_J {l : List Nat} {s : pS} {nx : Nat} (h : pJ l s) (hn : s.1 ≤ nx) : pJ l (pCl s nx) := by
  obtain ⟨dep, A, B, h2, h3, h4⟩ := h
  exact ⟨dep, A, B, fun d q1 q2 => h2 d q1 (Nat.le_trans q2 (Nat.sub_le _ _)), h3, fun j hj => nSp_mono hn (h4 j hj)⟩
/-- a second row is opened where the first was closed -/
theorem pRe_J {l : List Nat} {s : pS} {nx ny : Nat} {w : Int32} (h : pJ l s) (h0 : ¬ s.2.1 = 0) (hn : s.1 ≤ ny) : pJ l (pOp (pCl s nx) ny (s.2.2.2.1 s.2.1) w) := by
  obtain ⟨dep, A, B, h2, h3, h4⟩ := h
  refine ⟨dep, A, B, fun d q1 q2 => ?_, h3, fun j hj => nSp_mono hn (h4 j hj)⟩
  have q2 : d ≤ s.2.1 - 1 + 1 := q2
  show ∃ j : Nat, j < s.2.2.1 ∧ upd s.2.2.2.1 (s.2.1 - 1 + 1) (s.2.2.2.1 s.2.1) d = nI j ∧ dep j + 1 = d
  unfold upd
  by_cases e : d = s.2.1 - 1 + 1
  · rw [if_pos e]
    have e2 : d = s.2.1 := by omega
    rw [← e2]
    exact h2 d q1 (by omega)
  · rw [if_neg e]
    exact h2 d q1 (by omega)
/-- a test: its node, then its row opened -/
theorem pTest_J {s : pS} {l : List Nat} {len : Nat} {k f x y w u : Int32} {N ny : Nat} (hI : pI N s) (h : pJ l s) (h1 : 1 ≤ len) (hF : nFd (pF k f x y w 0 0 0)) (hn : s.1 + len ≤ ny) : pJ l (pOp (pAdd l s len k f x y w) ny (nI s.2.2.1) u) := by
  have hA := pAdd_J (len := len) hI h h1 hF
  obtain ⟨dep, A, B, h2, h3, h4⟩ := hA
  have n0 := h3 s.2.2.1 (Nat.lt_succ_self _)
  have e7 : (pAdd l s len k f x y w).2.2.2.2.2.2 s.2.2.1 7 = s.2.2.2.1 s.2.1 := by
    show pLk s _ s.2.2.1 7 = _
    rw [pLk_lo (by omega), if_pos rfl]
    rfl
  have hdep : dep s.2.2.1 = s.2.1 := by
    have q := n0.2.1
    rw [e7] at q
    have h24 := hI.2.2.1
    rcases q with ⟨q1, q2⟩ | ⟨i, q1, q2, q3⟩
    · by_cases d0 : s.2.1 = 0
      · omega
      · obtain ⟨j, j1, j2, j3⟩ := hI.2.2.2.2.1 s.2.1 (by omega) (Nat.le_refl _)
        rw [j2] at q1
        exact absurd q1 (n1_ne j (by omega))
    · by_cases d0 : s.2.1 = 0
      · rw [d0, hI.2.2.2.1] at q2
        have q1 : i < s.2.2.1 + 1 := q1
        exact absurd q2.symm (n1_ne i (by omega))
      · obtain ⟨j, j1, j2, j3⟩ := h2 s.2.1 (by omega) (Nat.le_refl _)
        have j2 : s.2.2.2.1 s.2.1 = nI j := j2
        have j1 : j < s.2.2.1 + 1 := j1
        have q1 : i < s.2.2.1 + 1 := q1
        rw [j2] at q2
        have e := (nI_eq (by omega) (by omega)).mp q2
        rw [← e] at q3
        omega
  refine ⟨dep, A, B, fun d q1 q2 => ?_, h3, fun j hj => nSp_mono hn (h4 j hj)⟩
  have q2 : d ≤ s.2.1 + 1 := q2
  show ∃ j : Nat, j < s.2.2.1 + 1 ∧ upd s.2.2.2.1 (s.2.1 + 1) (nI s.2.2.1) d = nI j ∧ dep j + 1 = d
  unfold upd
  by_cases e : d = s.2.1 + 1
  · rw [if_pos e]
    exact ⟨s.2.2.1, Nat.lt_succ_self _, rfl, by omega⟩
  · rw [if_neg e]
    exact h2 d q1 (by show d ≤ s.2.1; omega)
theorem pStmt_J {t : Nat → Nat} {l : List Nat} {s s' : pS} (hI : pI l.length s) (h : pJ l s) (e : pStmt t l s = some s') : pJ l s' := by
  unfold pStmt at e
  split at e
  · cases e
  split at e
  · split at e
    · rename_i q
      cases e
      refine pTest_J hI h (by omega) ?_ (by omega)
      refine ⟨?_, 3, sg t l (s.1 + 1) - 97, by omega, by have := q.1; omega, rfl, rfl, fun z => absurd z (by omega), fun _ => rfl, fun z => absurd z (by omega), fun _ => rfl⟩
      show bI _ = 0 ∨ bI _ = 1
      unfold bI
      split
      · exact Or.inr rfl
      · exact Or.inl rfl
    · cases e
  split at e
  · split at e
    · rename_i q
      cases e
      exact pAdd_J hI h (by omega) ⟨Or.inl rfl, 2, sg t l (s.1 + 1) - 97, by omega, by have := q.1; omega, rfl, rfl, fun z => absurd z (by omega), fun _ => rfl, fun z => absurd z (by omega), fun _ => rfl⟩
    · cases e
  split at e
  · rename_i qf
    split at e
    · rename_i q
      cases e
      exact pAdd_J hI h (by omega) ⟨Or.inl rfl, 0, sg t l (s.1 + 2) - 97, by omega, by have := q.2.1; omega, rfl, rfl, fun z => ⟨sg t l s.1 - 102, by omega, rfl⟩, fun z => absurd rfl z, fun z => absurd z (by omega), fun _ => rfl⟩
    · cases e
  · split at e
    · rename_i q
      cases e
      exact pAdd_J hI h (by omega) ⟨Or.inl rfl, 1, sg t l s.1 - 97, by omega, by have := q.1; omega, rfl, rfl, fun z => absurd z (by omega), fun _ => rfl, fun z => ⟨sg t l (s.1 + 2) - 97, by have := q.2.2.1; omega, rfl⟩, fun z => absurd rfl z⟩
    · cases e
theorem pClose_J {t : Nat → Nat} {l : List Nat} {s s' : pS} (h : pJ l s) (e : pClose t l s = some s') : pJ l s' := by
  unfold pClose at e
  by_cases h0 : s.2.1 = 0
  · rw [if_pos h0] at e
    cases e
  rw [if_neg h0] at e
  split at e
  · split at e
    · cases e
      exact pRe_J h h0 (by omega)
    · cases e
  · cases e
    exact pCl_J h (by omega)
theorem pRun_J {t : Nat → Nat} {l : List Nat} : ∀ (n : Nat) (s s' : pS), pI l.length s → pJ l s → pRun t l n s = some s' → pI l.length s' ∧ pJ l s' := by
  intro n
  induction n with
  | zero => intro s s' h1 h2 e; cases e; exact ⟨h1, h2⟩
  | succ n ih =>
    intro s s' h1 h2 e
    rw [pRun] at e
    by_cases hs : s.1 < l.length
    · rw [if_pos hs] at e
      cases q : pStep t l s with
      | none => rw [q] at e; cases e
      | some s1 =>
        rw [q, Option.bind_some] at e
        refine ih s1 s' (pStep_I h1 hs q) ?_ e
        unfold pStep at q
        split at q
        · exact pClose_J h2 q
        · exact pStmt_J h1 h2 q
    · rw [if_neg hs] at e
      cases e
      exact ⟨h1, h2⟩
theorem p0_J (l : List Nat) : pJ l p0 := ⟨fun _ => 0, fun _ => 0, fun _ => 0, fun d h1 h2 => absurd h2 (by show ¬ d ≤ 0; omega), fun j hj => absurd hj (Nat.not_lt_zero j), fun j hj => absurd hj (Nat.not_lt_zero j)⟩
theorem pParse_J {t : Nat → Nat} {n : Nat} {s : pS} (e : pParse t n = some s) : pI (tk t n).2.length s ∧ pJ (tk t n).2 s := by
  unfold pParse at e
  split at e
  · cases e
  · unfold pOk at e
    cases q : pRun t (tk t n).2 160 p0 with
    | none => rw [q] at e; cases e
    | some s1 =>
      rw [q, Option.bind_some] at e
      split at e
      · cases e
        exact pRun_J 160 p0 s (p0_I _) (p0_J _) q
      · cases e
