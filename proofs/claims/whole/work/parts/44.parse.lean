/-! The parser's state, and what a statement adds to it. -/
/-- next token, depth, nodes, rows (owner, side, last), node table (fields as the class numbers them: 0 kind .. 10 first of row 1) -/
abbrev pS : Type := Nat × Nat × Nat × (Nat → Int32) × (Nat → Int32) × (Nat → Int32) × (Nat → Nat → Int32)
def pC (m : zM) (s : pS) : Prop := m 29 6 = nI s.1 ∧ m 29 5 = nI s.2.1 ∧ m 3 1 = nI s.2.2.1 ∧ (∀ d, d ≤ s.2.1 → m 33 d = s.2.2.2.1 d ∧ m 34 d = s.2.2.2.2.1 d ∧ m 35 d = s.2.2.2.2.2.1 d) ∧ ∀ n, n < s.2.2.1 → ∀ k, k < 11 → m (5 + n) k = s.2.2.2.2.2.2 n k
def pI (N : Nat) (s : pS) : Prop := s.1 ≤ N ∧ s.2.1 ≤ 6 ∧ s.2.2.1 ≤ 24 ∧ s.2.2.2.1 0 = -1 ∧ (∀ d, 0 < d → d ≤ s.2.1 → ∃ j : Nat, j < s.2.2.1 ∧ s.2.2.2.1 d = nI j ∧ s.2.2.2.2.2.2 j 0 = 3) ∧ (∀ d, d ≤ s.2.1 → s.2.2.2.2.1 d = 0 ∨ s.2.2.2.2.1 d = 1) ∧ ∀ d, d ≤ s.2.1 → s.2.2.2.2.2.1 d = -1 ∨ ∃ j : Nat, j < s.2.2.1 ∧ s.2.2.2.2.2.1 d = nI j
/-- a new node's fields -/
def pF (k f x y w b e o : Int32) (i : Nat) : Int32 := if i = 0 then k else if i = 1 then f else if i = 2 then x else if i = 3 then y else if i = 4 then w else if i = 5 then b else if i = 6 then e else if i = 7 then o else -1
/-- the new node is linked to the one before it in its row, or to the test that owns the row -/
def pLk (s : pS) (nd : Nat → Nat → Int32) : Nat → Nat → Int32 :=
  if s.2.2.2.2.2.1 s.2.1 = -1 then (if s.2.2.2.1 s.2.1 = -1 then nd else jj_up nd (s.2.2.2.1 s.2.1).toNatClampNeg (if s.2.2.2.2.1 s.2.1 = 0 then 9 else 10) (nI s.2.2.1)) else jj_up nd (s.2.2.2.2.2.1 s.2.1).toNatClampNeg 8 (nI s.2.2.1)
def pAdd (l : List Nat) (s : pS) (len : Nat) (k f x y w : Int32) : pS :=
  (s.1 + len, s.2.1, s.2.2.1 + 1, s.2.2.2.1, s.2.2.2.2.1, upd s.2.2.2.2.2.1 s.2.1 (nI s.2.2.1), pLk s (fun i => if i = s.2.2.1 then pF k f x y w (nI (l.getD s.1 0)) (nI (l.getD (s.1 + len - 1) 0)) (s.2.2.2.1 s.2.1) else s.2.2.2.2.2.2 i))
theorem place_at {m : zM} {t : Nat → Nat} {l : List Nat} {j : Nat} (hk : tkC m t l) (hl : l.length ≤ 160) (hj : j < l.length) : f_Tokens_place m (nI j) = nI (l.getD j 0) := by
  unfold f_Tokens_place
  rw [if_neg (nI_pos (by omega)), hk.1, if_neg (nI_ge hj (by omega)), nI_clamp (by omega), (hk.2 j l[j] (List.getElem?_eq_getElem hj)).2, List.getD_eq_getElem?_getD, List.getElem?_eq_getElem hj]
  rfl
theorem n1_ne (j : Nat) (h : j < 1000) : ¬ nI j = -1 := fun e => by
  have h1 := congrArg Int32.toInt e
  rw [nI_toInt (by omega)] at h1
  have h2 : (-1 : Int32).toInt = -1 := by decide
  omega
theorem up_5 {B : zM} {j f n k : Nat} {v : Int32} : jj_up B (5 + j) f v (5 + n) k = jj_up (fun i => B (5 + i)) j f v n k := by
  unfold jj_up
  by_cases h : n = j
  · subst h
    rw [if_pos rfl, if_pos rfl]
  · rw [if_neg (by omega), if_neg h]
theorem add_fin {m B C : zM} {s : pS} {l : List Nat} {len : Nat} {k f x y w : Int32} (hdp : s.2.1 ≤ 6) (c2 : m 29 5 = nI s.2.1) (c4 : ∀ d, d ≤ s.2.1 → m 33 d = s.2.2.2.1 d ∧ m 34 d = s.2.2.2.2.1 d ∧ m 35 d = s.2.2.2.2.2.1 d)
    (hB3 : B 3 1 = nI (s.2.2.1 + 1)) (hBo : ∀ a b, ¬ (a = 3 ∧ b = 1) → ¬ (5 ≤ a ∧ a ≤ 28) → B a b = m a b) (hCo : ∀ a b, ¬ (5 ≤ a ∧ a ≤ 28) → C a b = B a b)
    (hCn : ∀ n, n < s.2.2.1 + 1 → ∀ z, z < 11 → C (5 + n) z = pLk s (fun i => if i = s.2.2.1 then pF k f x y w (nI (l.getD s.1 0)) (nI (l.getD (s.1 + len - 1) 0)) (s.2.2.2.1 s.2.1) else s.2.2.2.2.2.2 i) n z) (hct : s.2.2.1 < 24) :
    pC (jj_up (jj_up C 35 s.2.1 (nI s.2.2.1)) 29 6 (nI (s.1 + len))) (pAdd l s len k f x y w) ∧ (∀ a b, ¬ (a = 3 ∧ b = 1) → ¬ (5 ≤ a ∧ a ≤ 28) → ¬ (a = 29 ∧ b = 6) → a ≠ 35 → (jj_up (jj_up C 35 s.2.1 (nI s.2.2.1)) 29 6 (nI (s.1 + len))) a b = m a b) := by
  refine ⟨⟨up_eq, ?_, ?_, fun d hd => ⟨?_, ?_, ?_⟩, fun n hn z hz => ?_⟩, fun a b h1 h2 h3 h4 => ?_⟩
  · rw [up_k (by omega), up_ne (by omega), hCo 29 5 (by omega), hBo 29 5 (by omega) (by omega)]
    exact c2
  · rw [up_ne (by omega), up_ne (by omega), hCo 3 1 (by omega)]
    exact hB3
  · rw [up_ne (by omega), up_ne (by omega), hCo 33 d (by omega), hBo 33 d (by omega) (by omega)]
    exact (c4 d hd).1
  · rw [up_ne (by omega), up_ne (by omega), hCo 34 d (by omega), hBo 34 d (by omega) (by omega)]
    exact (c4 d hd).2.1
  · rw [up_ne (by omega)]
    show _ = upd s.2.2.2.2.2.1 s.2.1 (nI s.2.2.1) d
    unfold upd
    by_cases e : d = s.2.1
    · rw [if_pos e, e, up_eq]
    · rw [if_neg e, up_k e, hCo 35 d (by omega), hBo 35 d (by omega) (by omega)]
      exact (c4 d hd).2.2
  · have hn : n < s.2.2.1 + 1 := hn
    rw [up_ne (by omega), up_ne (by omega), hCn n hn z hz]
    rfl
  · rw [up_and h3, up_ne h4, hCo a b h2, hBo a b h1 h2]
set_option maxHeartbeats 8000000 in
theorem h_Parser_addNode {xs : jx_Xs} {m : zM} {Q : Option Value → zM → Prop} {t : Nat → Nat} {l : List Nat} {s : pS} {len : Nat} (hk : tkC m t l) (hl : l.length ≤ 160) (hI : pI l.length s) (hC : pC m s) (hct : s.2.2.1 < 24) (h1 : 1 ≤ len) (h2 : s.1 + len ≤ l.length)
    (g : ∀ M, pC M (pAdd l s len (m (5 + s.2.2.1) 0) (m (5 + s.2.2.1) 1) (m (5 + s.2.2.1) 2) (m (5 + s.2.2.1) 3) 0) → (∀ a b, ¬ (a = 3 ∧ b = 1) → ¬ (5 ≤ a ∧ a ≤ 28) → ¬ (a = 29 ∧ b = 6) → a ≠ 35 → M a b = m a b) → Q (some (.ref (5 + s.2.2.1))) M) : ez xs 48 0 (jx_ent 48 [.ref 29, .int (nI len)]) [] m Q := by
  obtain ⟨c1, c2, c3, c4, c5⟩ := hC
  obtain ⟨i1, i2, i3, i4, i5, i6, i7⟩ := hI
  have q1 : (m 3 1).toNatClampNeg = s.2.2.1 := by rw [c3, nI_clamp (by omega)]
  have q2 : (m 29 5).toNatClampNeg = s.2.1 := by rw [c2, nI_clamp (by omega)]
  have q3 : vp_in (m 29 5) 7 := by rw [c2]; exact vp_in_nI (by omega) (by omega)
  have q4 : vp_in (m 3 1) 24 := by rw [c3]; exact vp_in_nI hct (by omega)
  have q5 : ¬ 24 ≤ m 3 1 := by rw [c3]; exact fun h => absurd ((nI_leI (a := 24) (by omega) (by omega)).mp h) (by omega)
  have q6 : ¬ m 3 1 < 0 := by rw [c3]; exact nI_pos (by omega)
  have q7 : m 29 6 + nI len - 1 = nI (s.1 + len - 1) := by
    rw [c1, nI_add, show s.1 + len = (s.1 + len - 1) + 1 by omega, nI_pred, show s.1 + len - 1 + 1 - 1 = s.1 + len - 1 by omega]
  have q8 : m 29 6 + nI len = nI (s.1 + len) := by rw [c1, nI_add]
  obtain ⟨r1, r2, r3⟩ := c4 s.2.1 (Nat.le_refl _)
  -- the text's tokens stand as they were
  have tp : ∀ (x : Int32), f_Tokens_place (jj_up m 3 1 (m 3 1 + 1)) x = f_Tokens_place m x := fun x => rfl
  have p1 : f_Tokens_place m (m 29 6) = nI (l.getD s.1 0) := by rw [c1]; exact place_at hk hl (by omega)
  have p2 : f_Tokens_place m (nI (s.1 + len - 1)) = nI (l.getD (s.1 + len - 1) 0) := place_at hk hl (by omega)
  have vI : ∀ j : Nat, j < s.2.2.1 → ¬ nI j < 0 ∧ vp_in (nI j) 24 ∧ (nI j).toNatClampNeg = j ∧ ¬ nI (s.2.2.1 + 1) ≤ nI j ∧ ¬ nI j = -1 := fun j hj => ⟨nI_pos (by omega), vp_in_nI (by omega) (by omega), nI_clamp (by omega), nI_ge (by omega) (by omega), n1_ne j (by omega)⟩
  generalize hB : jj_up (jj_up (jj_up (jj_up (jj_up (jj_up (jj_up (jj_up m 3 1 (nI (s.2.2.1 + 1))) (5 + s.2.2.1) 5 (nI (l.getD s.1 0))) (5 + s.2.2.1) 6 (nI (l.getD (s.1 + len - 1) 0))) (5 + s.2.2.1) 7 (s.2.2.2.1 s.2.1)) (5 + s.2.2.1) 4 0) (5 + s.2.2.1) 8 (-1)) (5 + s.2.2.1) 9 (-1)) (5 + s.2.2.1) 10 (-1) = B
  have hB3 : B 3 1 = nI (s.2.2.1 + 1) := by
    rw [← hB]
    simp (disch := omega) only [up_ne, up_eq]
  have hBo : ∀ a b, ¬ (a = 3 ∧ b = 1) → ¬ (5 ≤ a ∧ a ≤ 28) → B a b = m a b := fun a b e1 e2 => by
    rw [← hB, up_ne (by omega), up_ne (by omega), up_ne (by omega), up_ne (by omega), up_ne (by omega), up_ne (by omega), up_ne (by omega), up_and e1]
  have hBn : ∀ n, n < s.2.2.1 + 1 → ∀ z, z < 11 → B (5 + n) z = (if n = s.2.2.1 then pF (m (5 + s.2.2.1) 0) (m (5 + s.2.2.1) 1) (m (5 + s.2.2.1) 2) (m (5 + s.2.2.1) 3) 0 (nI (l.getD s.1 0)) (nI (l.getD (s.1 + len - 1) 0)) (s.2.2.2.1 s.2.1) else s.2.2.2.2.2.2 n) z := fun n hn z hz => by
    by_cases e : n = s.2.2.1
    · rw [if_pos e, e, ← hB]
      match z, hz with
      | 0, _ => simp (disch := omega) only [up_ne, up_k, up_eq]; rfl
      | 1, _ => simp (disch := omega) only [up_ne, up_k, up_eq]; rfl
      | 2, _ => simp (disch := omega) only [up_ne, up_k, up_eq]; rfl
      | 3, _ => simp (disch := omega) only [up_ne, up_k, up_eq]; rfl
      | 4, _ => simp (disch := omega) only [up_ne, up_k, up_eq]; rfl
      | 5, _ => simp (disch := omega) only [up_ne, up_k, up_eq]; rfl
      | 6, _ => simp (disch := omega) only [up_ne, up_k, up_eq]; rfl
      | 7, _ => simp (disch := omega) only [up_ne, up_k, up_eq]; rfl
      | 8, _ => simp (disch := omega) only [up_ne, up_k, up_eq]; rfl
      | 9, _ => simp (disch := omega) only [up_ne, up_k, up_eq]; rfl
      | 10, _ => simp (disch := omega) only [up_ne, up_k, up_eq]; rfl
      | z + 11, hz => omega
    · rw [if_neg e, ← hB]
      simp (disch := omega) only [up_ne]
      exact c5 n (by omega) z hz
  have link : ∀ (j f : Nat), j < s.2.2.1 → f < 11 → ∀ n, n < s.2.2.1 + 1 → ∀ z, z < 11 → jj_up B (5 + j) f (nI s.2.2.1) (5 + n) z = jj_up (fun i => if i = s.2.2.1 then pF (m (5 + s.2.2.1) 0) (m (5 + s.2.2.1) 1) (m (5 + s.2.2.1) 2) (m (5 + s.2.2.1) 3) 0 (nI (l.getD s.1 0)) (nI (l.getD (s.1 + len - 1) 0)) (s.2.2.2.1 s.2.1) else s.2.2.2.2.2.2 i) j f (nI s.2.2.1) n z := fun j f hj hf n hn z hz => by
    rw [up_5]
    unfold jj_up upd
    by_cases e : n = j
    · rw [if_pos e, if_pos e]
      by_cases e2 : z = f
      · rw [if_pos e2, if_pos e2]
      · rw [if_neg e2, if_neg e2]
        exact hBn j (by omega) z hz
    · rw [if_neg e, if_neg e]
      exact hBn n hn z hz
  have e35 : m 35 (m 29 5).toNatClampNeg = s.2.2.2.2.2.1 s.2.1 := by rw [q2]; exact r3
  have e33 : m 33 (m 29 5).toNatClampNeg = s.2.2.2.1 s.2.1 := by rw [q2]; exact r1
  have e34 : m 34 (m 29 5).toNatClampNeg = s.2.2.2.2.1 s.2.1 := by rw [q2]; exact r2
  have tp2 : ∀ (v x : Int32), f_Tokens_place (jj_up m 3 1 v) x = f_Tokens_place m x := fun v x => rfl
  have q9 : nI (s.1 + len) - 1 = nI (s.1 + len - 1) := by rw [← q8, q7]
  have q10 : (nI s.2.2.1).toNatClampNeg = s.2.2.1 := nI_clamp (by omega)
  have q11 : ∀ v : Int32, jj_up m 3 1 v 3 1 = v := fun v => up_eq
  have q12 : ∀ v : Int32, jj_up m 3 1 v 30 2 = m 30 2 := fun v => up_ne (by omega)
  have q13 : ¬ nI (s.2.2.1 + 1) ≤ nI s.2.2.1 := nI_ge (by omega) (by omega)
  have q14 : ¬ nI s.2.2.1 < 0 := nI_pos (by omega)
  have q15 : vp_in (nI s.2.2.1) 24 := vp_in_nI hct (by omega)
  have q16 : ¬ 24 ≤ nI s.2.2.1 := by rw [← c3]; exact q5
  have q17 : vp_in (m 29 6) 160 := by rw [c1]; exact vp_in_nI (by omega) (by omega)
  have q18 : vp_in (nI (s.1 + len - 1)) 160 := vp_in_nI (by omega) (by omega)
  have rowL : ¬ s.2.2.2.2.2.1 s.2.1 = -1 → ∃ j : Nat, j < s.2.2.1 ∧ s.2.2.2.2.2.1 s.2.1 = nI j := fun h => (i7 s.2.1 (Nat.le_refl _)).resolve_left h
  have rowO : ¬ s.2.2.2.1 s.2.1 = -1 → ∃ j : Nat, j < s.2.2.1 ∧ s.2.2.2.1 s.2.1 = nI j := fun h => by
    by_cases e : s.2.1 = 0
    · rw [e] at h; exact absurd i4 h
    · obtain ⟨j, j1, j2, -⟩ := i5 s.2.1 (by omega) (Nat.le_refl _)
      exact ⟨j, j1, j2⟩
  have FIN : ∀ C : zM, (∀ a b, ¬ (5 ≤ a ∧ a ≤ 28) → C a b = B a b) → (∀ n, n < s.2.2.1 + 1 → ∀ z, z < 11 → C (5 + n) z = pLk s (fun i => if i = s.2.2.1 then pF (m (5 + s.2.2.1) 0) (m (5 + s.2.2.1) 1) (m (5 + s.2.2.1) 2) (m (5 + s.2.2.1) 3) 0 (nI (l.getD s.1 0)) (nI (l.getD (s.1 + len - 1) 0)) (s.2.2.2.1 s.2.1) else s.2.2.2.2.2.2 i) n z) → Q (some (.ref (5 + s.2.2.1))) (jj_up (jj_up C 35 s.2.1 (nI s.2.2.1)) 29 6 (nI (s.1 + len))) := fun C h3 h4 => by
    have r := add_fin i2 c2 c4 hB3 hBo h3 h4 hct
    exact g _ r.1 r.2
  apply c_Parser_addNode
  all_goals try simp only [c3, c2, nI_1, q10, nI_clamp (show s.2.1 < 2 ^ 31 by omega), r1, r2, r3, q8, q9, tp2, p1, p2, q11, q12, hB, hB3]
  all_goals first | exact q16 | exact q14 | exact q13 | exact q15 | (rw [← c2]; exact q3) | (intros; exact q17) | (intros; exact q18) | (intros; rw [← c2]; exact q3) | skip
  all_goals try (intros; contradiction)
  all_goals intros
  all_goals first
    | (obtain ⟨j, j1, j2⟩ := rowO (by assumption); rw [j2]; first | exact (vI j j1).1 | exact (vI j j1).2.1 | exact (vI j j1).2.2.2.1)
    | (obtain ⟨j, j1, j2⟩ := rowL (by assumption); rw [j2]; first | exact (vI j j1).1 | exact (vI j j1).2.1 | exact (vI j j1).2.2.2.1)
    | skip
  · rename_i e1 e2 e3
    refine FIN B (fun _ _ _ => rfl) (fun n hn z hz => ?_)
    unfold pLk
    rw [if_pos e1, if_pos e2]
    exact hBn n hn z hz
  · rename_i e1 e2 e3 e4
    obtain ⟨j, j1, j2⟩ := rowO e2
    have hj : (s.2.2.2.1 s.2.1).toNatClampNeg = j := by rw [j2]; exact (vI j j1).2.2.1
    refine FIN _ (fun a b h => up_ne (by rw [hj]; omega)) (fun n hn z hz => ?_)
    unfold pLk
    rw [if_pos e1, if_neg e2, if_neg e3, hj]
    exact link j 10 j1 (by omega) n hn z hz
  · rename_i e1 e2 e3
    obtain ⟨j, j1, j2⟩ := rowO e2
    have hj : (s.2.2.2.1 s.2.1).toNatClampNeg = j := by rw [j2]; exact (vI j j1).2.2.1
    refine FIN _ (fun a b h => up_ne (by rw [hj]; omega)) (fun n hn z hz => ?_)
    unfold pLk
    rw [if_pos e1, if_neg e2, if_pos e3, hj]
    exact link j 9 j1 (by omega) n hn z hz
  · rename_i e1
    obtain ⟨j, j1, j2⟩ := rowL e1
    have hj := (vI j j1).2.2.1
    refine FIN _ (fun a b h => up_ne (by rw [j2, hj]; omega)) (fun n hn z hz => ?_)
    unfold pLk
    rw [if_neg e1, j2, hj]
    exact link j 8 j1 (by omega) n hn z hz
