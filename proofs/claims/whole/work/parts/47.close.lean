/-! A row closed, on both sides. -/
def pCl (s : pS) (nx : Nat) : pS := (nx, s.2.1 - 1, s.2.2)
/-- the sign } is read: the row ends, and a test's second row may begin -/
def pClose (t : Nat → Nat) (l : List Nat) (s : pS) : Option pS :=
  if s.2.1 = 0 then none
  else if s.2.2.2.2.1 s.2.1 = 0 ∧ s.2.2.2.2.2.2 (s.2.2.2.1 s.2.1).toNatClampNeg 4 = 0 ∧ sg t l (s.1 + 1) = 58 then (if sg t l (s.1 + 1 + 1) = 123 then some (pOp (pCl s (s.1 + 1 + 1)) (s.1 + 1 + 1 + 1) (s.2.2.2.1 s.2.1) 1) else none)
  else some (pCl s (s.1 + 1))
theorem pCl_C {m : zM} {s : pS} {nx : Nat} (h : pC m s) (h24 : s.2.2.1 ≤ 24) : pC (jj_up (jj_up m 29 6 (nI nx)) 29 5 (nI (s.2.1 - 1))) (pCl s nx) := by
  obtain ⟨c1, c2, c3, c4, c5⟩ := h
  refine ⟨?_, up_eq, ?_, fun d hd2 => ?_, fun n hn z hz => ?_⟩
  · simp (disch := omega) only [up_ne, up_k, up_eq]
    rfl
  · simp (disch := omega) only [up_ne, up_k, up_eq]
    exact c3
  · have hd2 : d ≤ s.2.1 - 1 := hd2
    simp (disch := omega) only [up_ne, up_k, up_eq]
    exact c4 d (by omega)
  · have hn : n < s.2.2.1 := hn
    simp (disch := omega) only [up_ne, up_k, up_eq]
    exact c5 n hn z hz
theorem pCl_C2 {m : zM} {s : pS} {nx ny : Nat} (h : pC m s) (h24 : s.2.2.1 ≤ 24) : pC (jj_up (jj_up (jj_up m 29 6 (nI nx)) 29 5 (nI (s.2.1 - 1))) 29 6 (nI ny)) (pCl s ny) := by
  obtain ⟨c1, c2, c3, c4, c5⟩ := h
  refine ⟨up_eq, ?_, ?_, fun d hd2 => ?_, fun n hn z hz => ?_⟩
  · simp (disch := omega) only [up_ne, up_k, up_eq]
    rfl
  · simp (disch := omega) only [up_ne, up_k, up_eq]
    exact c3
  · have hd2 : d ≤ s.2.1 - 1 := hd2
    simp (disch := omega) only [up_ne, up_k, up_eq]
    exact c4 d (by omega)
  · have hn : n < s.2.2.1 := hn
    simp (disch := omega) only [up_ne, up_k, up_eq]
    exact c5 n hn z hz
theorem pCl_M {m : zM} {s : pS} {nx : Nat} (h : pM m s) : pM (jj_up m 131 20 (nI (s.2.1 - 1))) (pCl s nx) := by
  obtain ⟨c2, c3, c4, c5⟩ := h
  refine ⟨up_eq, ?_, fun d hd2 => ?_, fun n hn z hz => ?_⟩
  · simp (disch := omega) only [up_ne, up_k, up_eq]
    exact c3
  · have hd2 : d ≤ s.2.1 - 1 := hd2
    simp (disch := omega) only [up_ne, up_k, up_eq]
    exact c4 d (by omega)
  · have hn : n < s.2.2.1 := hn
    rw [pMn_same (m := m) (fun a h1 h2 => by simp (disch := omega) only [up_ne]) (by simp (disch := omega) only [up_ne]) (by simp (disch := omega) only [up_ne])]
    exact c5 n hn z hz
theorem pCl_I {N : Nat} {s : pS} {nx : Nat} (h : pI N s) (hn : nx ≤ N) : pI N (pCl s nx) := by
  obtain ⟨i1, i2, i3, i4, i5, i6, i7⟩ := h
  refine ⟨hn, Nat.le_trans (Nat.sub_le _ _) i2, i3, i4, fun d h1 h2 => i5 d h1 (Nat.le_trans h2 (Nat.sub_le _ _)), fun d h1 => i6 d (Nat.le_trans h1 (Nat.sub_le _ _)), fun d h1 => i7 d (Nat.le_trans h1 (Nat.sub_le _ _))⟩
theorem sg_lt {t : Nat → Nat} {l : List Nat} {j c : Nat} (h : sg t l j = c) (hc : c ≠ 0) : j < l.length := by
  unfold sg at h
  by_cases e : j < l.length
  · exact e
  · rw [if_neg e] at h
    exact absurd h.symm hc
theorem pClose_I {t : Nat → Nat} {l : List Nat} {s s' : pS} (h : pI l.length s) (hn : s.1 < l.length) (e : pClose t l s = some s') : pI l.length s' := by
  unfold pClose at e
  by_cases h0 : s.2.1 = 0
  · rw [if_pos h0] at e
    cases e
  rw [if_neg h0] at e
  split at e
  · rename_i h1
    split at e
    · rename_i h2
      cases e
      obtain ⟨j, j1, j2, j3⟩ := h.2.2.2.2.1 s.2.1 (by omega) (Nat.le_refl _)
      rw [j2]
      have h6 := h.2.1
      exact pOp_I (pCl_I h (by have := sg_lt h2 (by omega); omega)) (by have := sg_lt h2 (by omega); omega) (by show s.2.1 - 1 < 6; omega) j1 j3 (Or.inr rfl)
    · cases e
  · cases e
    exact pCl_I h (by omega)
set_option maxHeartbeats 8000000 in
theorem h_Parser_closeRow {xs : jx_Xs} {m : zM} {Q : Option Value → zM → Prop} {t : Nat → Nat} {l : List Nat} {s : pS} (hk : tkC m t l) (ht : ∀ p ∈ l, t p ≤ 126) (hl : l.length ≤ 160) (hI : pI l.length s) (hC : pC m s)
    (g0 : pClose t l s = none → ∀ M, (∀ a b, ¬ (a = 29 ∧ (b = 5 ∨ b = 6)) → a ≠ 33 → a ≠ 34 → a ≠ 35 → M a b = m a b) → Q (some (.int 0)) M)
    (g : ∀ s', pClose t l s = some s' → ∀ M, pC M s' → (∀ a b, ¬ (a = 29 ∧ (b = 5 ∨ b = 6)) → a ≠ 33 → a ≠ 34 → a ≠ 35 → M a b = m a b) → Q (some (.int 1)) M) : ez xs 35 0 (jx_ent 35 [.ref 29]) [] m Q := by
  obtain ⟨c1, c2, c3, c4, c5⟩ := id hC
  obtain ⟨i1, i2, i3, i4, i5, i6, i7⟩ := id hI
  by_cases hd : s.2.1 = 0
  · have e : ¬ 0 < m 29 5 := by rw [c2, hd]; decide
    apply c_Parser_closeRow <;> intros <;> first | contradiction | exact g0 (by unfold pClose; rw [if_pos hd]) m (fun _ _ _ _ _ _ => rfl)
  obtain ⟨j, j1, j2, j3⟩ := i5 s.2.1 (by omega) (Nat.le_refl _)
  obtain ⟨r1, r2, r3⟩ := c4 s.2.1 (Nat.le_refl _)
  have q1 : (nI s.2.1).toNatClampNeg = s.2.1 := nI_clamp (by omega)
  have q2 : (nI j).toNatClampNeg = j := nI_clamp (by omega)
  have q3 : (nI j < 0) = False := eq_false (nI_pos (by omega))
  have q4 : (nI s.2.2.1 ≤ nI j) = False := eq_false (nI_ge (by omega) (by omega))
  have q5 : nI s.2.1 - 1 = nI (s.2.1 - 1) := by
    have e : s.2.1 = (s.2.1 - 1) + 1 := by omega
    rw [e, nI_p1]
    rfl
  have q6 : ∀ x, nI x + 0 = nI x := fun x => nI_add x 0
  have q7 : (nI (s.2.1 - 1) < 6) = True := eq_true ((nI_ltI (b := 6) (by omega) (by omega)).mpr (by omega))
  have q8 : (0 < nI s.2.1) = True := eq_true ((nI_ltI (a := 0) (by omega) (by omega)).mpr (by omega))
  have q9 : (nI (s.2.1 - 1 + 1)).toNatClampNeg = s.2.1 - 1 + 1 := nI_clamp (by omega)
  have w4 : m (5 + j) 4 = s.2.2.2.2.2.2 j 4 := c5 j j1 4 (by omega)
  have tp : ∀ v w x, f_Tokens_sign (jj_up (jj_up m 29 6 v) 29 5 w) x = f_Tokens_sign m x := fun _ _ _ => rfl
  have tp3 : ∀ v w u x, f_Tokens_sign (jj_up (jj_up (jj_up m 29 6 v) 29 5 w) 29 6 u) x = f_Tokens_sign m x := fun _ _ _ _ => rfl
  have s1 := sign_at (j := s.1 + 1) hk hl (by omega)
  have s2 := sign_at (j := s.1 + 1 + 1) hk hl (by omega)
  have n1 : (nI (sg t l (s.1 + 1)) = 58) = (sg t l (s.1 + 1) = 58) := propext (nI_eq (b := 58) (by have := sg_le ht (s.1 + 1); omega) (by omega))
  have n2 : (nI (sg t l (s.1 + 1 + 1)) = 123) = (sg t l (s.1 + 1 + 1) = 123) := propext (nI_eq (b := 123) (by have := sg_le ht (s.1 + 1 + 1); omega) (by omega))
  have v1 : vp_in (nI s.2.1) 7 := vp_in_nI (by omega) (by omega)
  have v2 : vp_in (nI j) 24 := vp_in_nI (by omega) (by omega)
  have v3 : vp_in (nI (s.2.1 - 1 + 1)) 7 := vp_in_nI (by omega) (by omega)
  have lk : ∀ v : Int32, jj_up m 29 6 v 29 5 = m 29 5 := fun v => up_k (by omega)
  apply c_Parser_closeRow
  all_goals try simp (disch := omega) only [c1, c2, c3, nI_1, q1, r1, r2, j2, q2, q3, q4, q5, q6, q7, q8, q9, w4, tp, tp3, s1, s2, n1, n2, up_ne, up_k, up_eq, false_implies, implies_true, not_false_eq_true, not_true_eq_false, true_implies]
  all_goals intros
  all_goals first | contradiction | exact v1 | exact v2 | exact v3 | skip
  all_goals first
    | exact sign_b1 hk hl (by omega) (by assumption)
    | exact sign_b2 hk ht hl (by omega) (by assumption)
    | exact nar_char (sg_le ht _)
    | skip
  · rename_i e1
    exact g (pCl s (s.1 + 1)) (by unfold pClose; rw [if_neg hd, if_neg (fun q => e1 q.1)]) _ (pCl_C hC i3) (by intro a b q1 q2 q3 q4; rw [up_ne2 (by omega), up_ne2 (by omega)])
  · rename_i e1 e2
    exact g (pCl s (s.1 + 1)) (by unfold pClose; rw [if_neg hd, j2, q2, if_neg (fun q => e2 q.2.1)]) _ (pCl_C hC i3) (by intro a b q1 q2 q3 q4; rw [up_ne2 (by omega), up_ne2 (by omega)])
  · rename_i e1 e2 e3
    exact g (pCl s (s.1 + 1)) (by unfold pClose; rw [if_neg hd, if_neg (fun q => e3 q.2.2)]) _ (pCl_C hC i3) (by intro a b q1 q2 q3 q4; rw [up_ne2 (by omega), up_ne2 (by omega)])
  · rename_i e1 e2 e3 e4
    exact g0 (by unfold pClose; rw [if_neg hd, j2, q2, if_pos ⟨e1, e2, e3⟩, if_neg e4]) _ (by intro a b q1 q2 q3 q4; rw [up_ne2 (by omega), up_ne2 (by omega), up_ne2 (by omega)])
  · rename_i e1 e2 e3 e4
    refine g (pOp (pCl s (s.1 + 1 + 1)) (s.1 + 1 + 1 + 1) (nI j) 1) (by unfold pClose; rw [if_neg hd, j2, q2, if_pos ⟨e1, e2, e3⟩, if_pos e4]) _ (pOp_C (pCl_C2 hC i3) (by show s.2.1 - 1 < 6; omega) i3) (fun a b q1 q2 q3 q4 => ?_)
    rw [up_ne q4, up_ne q3, up_ne q2, up_ne2 (by omega), up_ne2 (by omega), up_ne2 (by omega), up_ne2 (by omega), up_ne2 (by omega)]
set_option maxHeartbeats 8000000 in
theorem h_M_close {xs : jx_Xs} {m : zM} {Q : Option Value → zM → Prop} {t : Nat → Nat} {l : List Nat} {s : pS} (hk : tkM m t l) (ht : ∀ p ∈ l, t p ≤ 126) (hl : l.length ≤ 160) (hI : pI l.length s) (hC : pM m s)
    (g0 : pClose t l s = none → ∀ M, (∀ a b, ¬ (a = 131 ∧ b = 20) → a ≠ 146 → a ≠ 147 → a ≠ 148 → M a b = m a b) → Q (some (.int (-1))) M)
    (g : ∀ s', pClose t l s = some s' → ∀ M, pM M s' → (∀ a b, ¬ (a = 131 ∧ b = 20) → a ≠ 146 → a ≠ 147 → a ≠ 148 → M a b = m a b) → Q (some (.int (nI s'.1))) M) : ez xs 64 0 (jx_ent 64 [.ref 131, .int (nI s.1)]) [] m Q := by
  obtain ⟨c2, c3, c4, c5⟩ := id hC
  obtain ⟨i1, i2, i3, i4, i5, i6, i7⟩ := id hI
  by_cases hd : s.2.1 = 0
  · have e : m 131 20 = 0 := by rw [c2, hd]; rfl
    apply c_M_close <;> intros <;> first | contradiction | exact g0 (by unfold pClose; rw [if_pos hd]) m (fun _ _ _ _ _ _ => rfl)
  obtain ⟨j, j1, j2, j3⟩ := i5 s.2.1 (by omega) (Nat.le_refl _)
  obtain ⟨r1, r2, r3⟩ := c4 s.2.1 (Nat.le_refl _)
  have r2 := r2 (by omega)
  have q1 : (nI s.2.1).toNatClampNeg = s.2.1 := nI_clamp (by omega)
  have q2 : (nI j).toNatClampNeg = j := nI_clamp (by omega)
  have q5 : nI s.2.1 - 1 = nI (s.2.1 - 1) := by
    have e : s.2.1 = (s.2.1 - 1) + 1 := by omega
    rw [e, nI_p1]
    rfl
  have q7 : (nI (s.2.1 - 1) = 6) = False := eq_false (fun e => absurd ((nI_eq (b := 6) (by omega) (by omega)).mp e) (by omega))
  have q8 : (nI s.2.1 = 0) = False := eq_false (fun e => absurd ((nI_eq (b := 0) (by omega) (by omega)).mp e) (by omega))
  have q9 : (nI (s.2.1 - 1 + 1)).toNatClampNeg = s.2.1 - 1 + 1 := nI_clamp (by omega)
  have w4 : m 143 j = s.2.2.2.2.2.2 j 4 := c5 j j1 4 (by omega)
  have tp : ∀ v x, f_M_look (jj_up m 131 20 v) x = f_M_look m x := fun _ _ => rfl
  have a2 : nI s.1 + 2 = nI (s.1 + 1 + 1) := nI_add s.1 2
  have a3 : nI s.1 + 3 = nI (s.1 + 1 + 1 + 1) := nI_add s.1 3
  have s1 := look_at (j := s.1 + 1) hk hl (by omega)
  have s2 := look_at (j := s.1 + 1 + 1) hk hl (by omega)
  have n1 : (nI (sg t l (s.1 + 1)) = 58) = (sg t l (s.1 + 1) = 58) := propext (nI_eq (b := 58) (by have := sg_le ht (s.1 + 1); omega) (by omega))
  have n2 : (nI (sg t l (s.1 + 1 + 1)) = 123) = (sg t l (s.1 + 1 + 1) = 123) := propext (nI_eq (b := 123) (by have := sg_le ht (s.1 + 1 + 1); omega) (by omega))
  have v1 : vp_in (nI s.2.1) 7 := vp_in_nI (by omega) (by omega)
  have v2 : vp_in (nI j) 24 := vp_in_nI (by omega) (by omega)
  have v3 : vp_in (nI (s.2.1 - 1 + 1)) 7 := vp_in_nI (by omega) (by omega)
  apply c_M_close
  all_goals try simp (disch := omega) only [c2, c3, nI_1, a2, a3, q1, r1, r2, j2, q2, q5, q7, q8, q9, w4, tp, s1, s2, n1, n2, up_ne, up_k, up_eq, false_implies, implies_true, not_false_eq_true, not_true_eq_false, true_implies]
  all_goals intros
  all_goals first | contradiction | exact v1 | exact v2 | exact v3 | exact look_b1 hk hl (by omega) (by assumption) | skip
  · rename_i e2
    exact g (pCl s (s.1 + 1)) (by unfold pClose; rw [if_neg hd, j2, q2, if_neg (fun q => e2 q.2.1)]) _ (pCl_M hC) (by intro a b q1 q2 q3 q4; rw [up_ne2 q1])
  · rename_i e2 e1
    exact g (pCl s (s.1 + 1)) (by unfold pClose; rw [if_neg hd, if_neg (fun q => e1 q.1)]) _ (pCl_M hC) (by intro a b q1 q2 q3 q4; rw [up_ne2 q1])
  · rename_i e2 e1 e3
    exact g (pCl s (s.1 + 1)) (by unfold pClose; rw [if_neg hd, if_neg (fun q => e3 q.2.2)]) _ (pCl_M hC) (by intro a b q1 q2 q3 q4; rw [up_ne2 q1])
  · rename_i e2 e1 e3 e4
    exact g0 (by unfold pClose; rw [if_neg hd, j2, q2, if_pos ⟨e1, e2, e3⟩, if_neg e4]) _ (by intro a b q1 q2 q3 q4; rw [up_ne2 q1])
  · rename_i e2 e1 e3 e4
    refine g (pOp (pCl s (s.1 + 1 + 1)) (s.1 + 1 + 1 + 1) (nI j) 1) (by unfold pClose; rw [if_neg hd, j2, q2, if_pos ⟨e1, e2, e3⟩, if_pos e4]) _ (pOp_M (pCl_M hC) (by show s.2.1 - 1 < 6; omega)) (fun a b q1 q2 q3 q4 => ?_)
    rw [up_ne q4, up_ne q3, up_ne q2, up_ne2 q1, up_ne2 q1]
