/-! The sign ahead; a row opened, on both sides. -/
/-- the sign of token j, 0 behind the last -/
def sg (t : Nat → Nat) (l : List Nat) (j : Nat) : Nat := if j < l.length then t (l.getD j 0) else 0
theorem gd_at {l : List Nat} {j : Nat} (h : j < l.length) : l[j]? = some (l.getD j 0) := by
  rw [List.getD_eq_getElem?_getD, List.getElem?_eq_getElem h]
  rfl
theorem sg_le {t : Nat → Nat} {l : List Nat} (ht : ∀ p ∈ l, t p ≤ 126) (j : Nat) : sg t l j ≤ 126 := by
  unfold sg
  split
  · rename_i h
    exact ht _ (List.mem_of_getElem? (gd_at h))
  · omega
theorem sign_at {m : zM} {t : Nat → Nat} {l : List Nat} {j : Nat} (hk : tkC m t l) (hl : l.length ≤ 160) (hj : j < 1000) : f_Tokens_sign m (nI j) = nI (sg t l j) := by
  unfold f_Tokens_sign sg
  rw [if_neg (nI_pos (by omega)), hk.1]
  by_cases h : j < l.length
  · rw [if_neg (nI_ge h (by omega)), if_pos h, nI_clamp (by omega), (hk.2 j _ (gd_at h)).1]
  · rw [if_pos ((nI_leI (by omega) (by omega)).mpr (by omega)), if_neg h]
    rfl
theorem look_at {m : zM} {t : Nat → Nat} {l : List Nat} {j : Nat} (hk : tkM m t l) (hl : l.length ≤ 160) (hj : j < 1000) : f_M_look m (nI j) = nI (sg t l j) := by
  unfold f_M_look sg
  rw [hk.1]
  by_cases h : j < l.length
  · rw [if_neg (nI_ge h (by omega)), if_pos h, nI_clamp (by omega), (hk.2 j _ (gd_at h)).1]
  · rw [if_pos ((nI_leI (by omega) (by omega)).mpr (by omega)), if_neg h]
    rfl
theorem sign_b1 {m : zM} {t : Nat → Nat} {l : List Nat} {j : Nat} (hk : tkC m t l) (hl : l.length ≤ 160) (hj : j < 1000) (h : ¬ m 30 2 ≤ nI j) : vp_in (nI j) 160 := by
  rw [hk.1] at h
  have h2 : j < l.length := by
    by_cases e : j < l.length
    · exact e
    · exact absurd ((nI_leI (by omega) (by omega)).mpr (by omega)) h
  exact vp_in_nI (by omega) (by omega)
theorem look_b1 {m : zM} {t : Nat → Nat} {l : List Nat} {j : Nat} (hk : tkM m t l) (hl : l.length ≤ 160) (hj : j < 1000) (h : ¬ m 131 2 ≤ nI j) : vp_in (nI j) 160 := by
  rw [hk.1] at h
  have h2 : j < l.length := by
    by_cases e : j < l.length
    · exact e
    · exact absurd ((nI_leI (by omega) (by omega)).mpr (by omega)) h
  exact vp_in_nI (by omega) (by omega)
theorem sign_b2 {m : zM} {t : Nat → Nat} {l : List Nat} {j : Nat} (hk : tkC m t l) (ht : ∀ p ∈ l, t p ≤ 126) (hl : l.length ≤ 160) (hj : j < 1000) (h : ¬ m 30 2 ≤ nI j) : vp_nar .char (m 31 (nI j).toNatClampNeg) = m 31 (nI j).toNatClampNeg := by
  rw [hk.1] at h
  have h2 : j < l.length := by
    by_cases e : j < l.length
    · exact e
    · exact absurd ((nI_leI (by omega) (by omega)).mpr (by omega)) h
  rw [nI_clamp (by omega), (hk.2 j _ (gd_at h2)).1]
  exact nar_char (ht _ (List.mem_of_getElem? (gd_at h2)))
theorem sign_b3 {m : zM} {t : Nat → Nat} {l : List Nat} {j : Nat} (hk : tkC m t l) (ht : ∀ p ∈ l, t p ≤ 126) (hl : l.length ≤ 160) (hj : j < 1000) : vp_nar .char (f_Tokens_sign m (nI j)) = f_Tokens_sign m (nI j) := by
  rw [sign_at hk hl hj]
  exact nar_char (sg_le ht j)
/-- a row is opened; nx tokens are read -/
def pOp (s : pS) (nx : Nat) (o w : Int32) : pS := (nx, s.2.1 + 1, s.2.2.1, upd s.2.2.2.1 (s.2.1 + 1) o, upd s.2.2.2.2.1 (s.2.1 + 1) w, upd s.2.2.2.2.2.1 (s.2.1 + 1) (-1), s.2.2.2.2.2.2)
theorem pOp_C {m : zM} {s : pS} {nx : Nat} {o w : Int32} (h : pC m s) (hd : s.2.1 < 6) (h24 : s.2.2.1 ≤ 24) : pC (jj_up (jj_up (jj_up (jj_up (jj_up m 29 6 (nI nx)) 29 5 (nI (s.2.1 + 1))) 33 (s.2.1 + 1) o) 34 (s.2.1 + 1) w) 35 (s.2.1 + 1) (-1)) (pOp s nx o w) := by
  obtain ⟨c1, c2, c3, c4, c5⟩ := h
  refine ⟨?_, ?_, ?_, fun d hd2 => ?_, fun n hn z hz => ?_⟩
  · simp (disch := omega) only [up_ne, up_k, up_eq]
    rfl
  · simp (disch := omega) only [up_ne, up_k, up_eq]
    rfl
  · simp (disch := omega) only [up_ne, up_k, up_eq]
    exact c3
  · have hd2 : d ≤ s.2.1 + 1 := hd2
    show _ = upd s.2.2.2.1 (s.2.1 + 1) o d ∧ _ = upd s.2.2.2.2.1 (s.2.1 + 1) w d ∧ _ = upd s.2.2.2.2.2.1 (s.2.1 + 1) (-1) d
    unfold upd
    by_cases e : d = s.2.1 + 1
    · rw [if_pos e, if_pos e, if_pos e, e]
      simp (disch := omega) only [up_ne, up_k, up_eq, and_self]
    · rw [if_neg e, if_neg e, if_neg e]
      simp (disch := omega) only [up_ne, up_k, up_eq]
      exact c4 d (by omega)
  · have hn : n < s.2.2.1 := hn
    simp (disch := omega) only [up_ne, up_k, up_eq]
    exact c5 n hn z hz
theorem pOp_M {m : zM} {s : pS} {nx : Nat} {o w : Int32} (h : pM m s) (hd : s.2.1 < 6) : pM (jj_up (jj_up (jj_up (jj_up m 131 20 (nI (s.2.1 + 1))) 146 (s.2.1 + 1) o) 147 (s.2.1 + 1) w) 148 (s.2.1 + 1) (-1)) (pOp s nx o w) := by
  obtain ⟨c2, c3, c4, c5⟩ := h
  refine ⟨?_, ?_, fun d hd2 => ?_, fun n hn z hz => ?_⟩
  · simp (disch := omega) only [up_ne, up_k, up_eq]
    rfl
  · simp (disch := omega) only [up_ne, up_k, up_eq]
    exact c3
  · have hd2 : d ≤ s.2.1 + 1 := hd2
    show _ = upd s.2.2.2.1 (s.2.1 + 1) o d ∧ (_ → _ = upd s.2.2.2.2.1 (s.2.1 + 1) w d) ∧ _ = upd s.2.2.2.2.2.1 (s.2.1 + 1) (-1) d
    unfold upd
    by_cases e : d = s.2.1 + 1
    · rw [if_pos e, if_pos e, if_pos e, e]
      simp (disch := omega) only [up_ne, up_k, up_eq]
      exact ⟨trivial, fun _ => trivial, trivial⟩
    · rw [if_neg e, if_neg e, if_neg e]
      simp (disch := omega) only [up_ne, up_k, up_eq]
      exact c4 d (by omega)
  · have hn : n < s.2.2.1 := hn
    rw [pMn_same (m := m) (fun a h1 h2 => by simp (disch := omega) only [up_ne]) (by simp (disch := omega) only [up_ne]) (by simp (disch := omega) only [up_ne])]
    exact c5 n hn z hz
theorem pOp_I {N : Nat} {s : pS} {nx j : Nat} {w : Int32} (h : pI N s) (hn : nx ≤ N) (hd : s.2.1 < 6) (hj : j < s.2.2.1) (hj0 : s.2.2.2.2.2.2 j 0 = 3) (hw : w = 0 ∨ w = 1) : pI N (pOp s nx (nI j) w) := by
  obtain ⟨i1, i2, i3, i4, i5, i6, i7⟩ := h
  refine ⟨hn, hd, i3, ?_, fun d h1 h2 => ?_, fun d h1 => ?_, fun d h1 => ?_⟩
  · show upd s.2.2.2.1 (s.2.1 + 1) (nI j) 0 = -1
    unfold upd
    rw [if_neg (by omega)]
    exact i4
  · have h2 : d ≤ s.2.1 + 1 := h2
    show ∃ j' : Nat, j' < s.2.2.1 ∧ upd s.2.2.2.1 (s.2.1 + 1) (nI j) d = nI j' ∧ s.2.2.2.2.2.2 j' 0 = 3
    unfold upd
    by_cases e : d = s.2.1 + 1
    · exact ⟨j, hj, by rw [if_pos e], hj0⟩
    · rw [if_neg e]
      exact i5 d h1 (by omega)
  · have h1 : d ≤ s.2.1 + 1 := h1
    show upd s.2.2.2.2.1 (s.2.1 + 1) w d = 0 ∨ upd s.2.2.2.2.1 (s.2.1 + 1) w d = 1
    unfold upd
    by_cases e : d = s.2.1 + 1
    · rw [if_pos e]
      exact hw
    · rw [if_neg e]
      exact i6 d (by omega)
  · have h1 : d ≤ s.2.1 + 1 := h1
    show upd s.2.2.2.2.2.1 (s.2.1 + 1) (-1) d = -1 ∨ ∃ j' : Nat, j' < s.2.2.1 ∧ upd s.2.2.2.2.2.1 (s.2.1 + 1) (-1) d = nI j'
    unfold upd
    by_cases e : d = s.2.1 + 1
    · rw [if_pos e]
      exact Or.inl rfl
    · rw [if_neg e]
      exact i7 d (by omega)
theorem h_Parser_openRow {xs : jx_Xs} {m : zM} {Q : Option Value → zM → Prop} {t : Nat → Nat} {l : List Nat} {s : pS} {o w : Int32} (hk : tkC m t l) (ht : ∀ p ∈ l, t p ≤ 126) (hl : l.length ≤ 160) (h1 : s.1 < 1000) (h2 : s.2.1 ≤ 6) (h3 : s.2.2.1 ≤ 24) (hC : pC m s)
    (g0 : ¬ (sg t l s.1 = 123 ∧ s.2.1 < 6) → Q (some (.int 0)) m)
    (g : sg t l s.1 = 123 → s.2.1 < 6 → ∀ M, pC M (pOp s (s.1 + 1) o w) → (∀ a b, ¬ (a = 29 ∧ (b = 5 ∨ b = 6)) → a ≠ 33 → a ≠ 34 → a ≠ 35 → M a b = m a b) → Q (some (.int 1)) M) : ez xs 34 0 (jx_ent 34 [.ref 29, .int o, .int w]) [] m Q := by
  obtain ⟨c1, c2, -, -, -⟩ := id hC
  have e1 : m 29 6 + 0 = nI s.1 := by rw [c1]; exact nI_add _ 0
  have e2 : (nI (sg t l s.1) = 123) ↔ sg t l s.1 = 123 := nI_eq (b := 123) (by have := sg_le ht s.1; omega) (by omega)
  have e3 : (nI s.2.1 < 6) ↔ s.2.1 < 6 := nI_ltI (b := 6) (by omega) (by omega)
  have e4 : s.2.1 < 6 → vp_in (nI (s.2.1 + 1)) 7 := fun h => vp_in_nI (by omega) (by omega)
  have e5 : s.2.1 < 6 → (nI (s.2.1 + 1)).toNatClampNeg = s.2.1 + 1 := fun h => nI_clamp (by omega)
  apply c_Parser_openRow
  · rw [e1]; exact fun _ h => sign_b1 hk hl h1 h
  · rw [e1]; exact fun _ h => sign_b2 hk ht hl h1 h
  · rw [e1]; exact sign_b3 hk ht hl h1
  · rw [c2, nI_1]; exact fun _ h => e4 (e3.mp h)
  · rw [c2, nI_1]; exact fun _ h => e4 (e3.mp h)
  · rw [c2, nI_1]; exact fun _ h => e4 (e3.mp h)
  · rw [e1, sign_at hk hl h1]; exact fun h => g0 (fun q => h (e2.mpr q.1))
  · rw [e1, sign_at hk hl h1, c1, c2, nI_1, nI_1]
    intro a b
    rw [e5 (e3.mp b)]
    refine g (e2.mp a) (e3.mp b) _ (pOp_C hC (e3.mp b) h3) (fun a b q1 q2 q3 q4 => ?_)
    rw [up_ne q4, up_ne q3, up_ne q2, up_ne2 (by omega), up_ne2 (by omega)]
  · rw [e1, sign_at hk hl h1, c2]; exact fun _ h => g0 (fun q => h (e3.mpr q.2))
theorem h_M_open {xs : jx_Xs} {m : zM} {Q : Option Value → zM → Prop} {s : pS} {nx : Nat} {o w : Int32} (h2 : s.2.1 ≤ 6) (hC : pM m s)
    (g0 : ¬ s.2.1 < 6 → Q (some (.int 0)) m)
    (g : s.2.1 < 6 → ∀ M, pM M (pOp s nx o w) → (∀ a b, ¬ (a = 131 ∧ b = 20) → a ≠ 146 → a ≠ 147 → a ≠ 148 → M a b = m a b) → Q (some (.int 1)) M) : ez xs 63 0 (jx_ent 63 [.ref 131, .int o, .int w]) [] m Q := by
  obtain ⟨c2, -, -, -⟩ := id hC
  have e3 : (nI s.2.1 = 6) ↔ s.2.1 = 6 := nI_eq (b := 6) (by omega) (by omega)
  have e4 : ¬ nI s.2.1 = 6 → vp_in (nI (s.2.1 + 1)) 7 := fun h => vp_in_nI (by have q : ¬ s.2.1 = 6 := fun e => h (e3.mpr e); omega) (by omega)
  have e5 : (nI (s.2.1 + 1)).toNatClampNeg = s.2.1 + 1 := nI_clamp (by omega)
  apply c_M_open
  · rw [c2, nI_1]; exact e4
  · rw [c2, nI_1]; exact e4
  · rw [c2, nI_1]; exact e4
  · rw [c2, nI_1, e5]
    intro a
    have a : s.2.1 < 6 := by have q : ¬ s.2.1 = 6 := fun e => a (e3.mpr e); omega
    refine g a _ (pOp_M hC a) (fun a b q1 q2 q3 q4 => ?_)
    rw [up_ne q4, up_ne q3, up_ne q2, up_ne2 q1]
  · rw [c2]; exact fun h => g0 (by have := e3.mp h; omega)
