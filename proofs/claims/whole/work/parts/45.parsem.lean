/-! The reference's parser: its node. -/
def pMn (m : zM) (n k : Nat) : Int32 := if k = 0 then m 135 n else if k = 1 then m 136 n else if k = 2 then m 137 n else if k = 3 then m 138 n else if k = 4 then m 143 n else if k = 5 then m 139 n else if k = 6 then m 140 n else if k = 7 then m 141 n else if k = 8 then m 142 n else if k = 9 then m 144 (2 * n) else m 144 (2 * n + 1)
def pM (m : zM) (s : pS) : Prop := m 131 20 = nI s.2.1 ∧ m 131 5 = nI s.2.2.1 ∧ (∀ d, d ≤ s.2.1 → m 146 d = s.2.2.2.1 d ∧ (0 < d → m 147 d = s.2.2.2.2.1 d) ∧ m 148 d = s.2.2.2.2.2.1 d) ∧ ∀ n, n < s.2.2.1 → ∀ k, k < 11 → pMn m n k = s.2.2.2.2.2.2 n k
theorem pMn_same {m m' : zM} {n : Nat} (h : ∀ a, 135 ≤ a → a ≤ 143 → m' a n = m a n) (h1 : m' 144 (2 * n) = m 144 (2 * n)) (h2 : m' 144 (2 * n + 1) = m 144 (2 * n + 1)) (k : Nat) : pMn m' n k = pMn m n k := by
  unfold pMn
  rw [h 135 (by omega) (by omega), h 136 (by omega) (by omega), h 137 (by omega) (by omega), h 138 (by omega) (by omega), h 139 (by omega) (by omega), h 140 (by omega) (by omega), h 141 (by omega) (by omega), h 142 (by omega) (by omega), h 143 (by omega) (by omega), h1, h2]
theorem up_ne2 {m : zM} {o k o' k' : Nat} {v : Int32} (h : ¬ (o' = o ∧ k' = k)) : jj_up m o k v o' k' = m o' k' := by
  by_cases e : o' = o
  · by_cases e2 : k' = k
    · exact absurd ⟨e, e2⟩ h
    · rw [e, up_k e2]
  · exact up_ne e
/-- the new node's fields written -/
def mB (m : zM) (n : Nat) (k f x y b e o w : Int32) : zM := jj_up (jj_up (jj_up (jj_up (jj_up (jj_up (jj_up (jj_up (jj_up (jj_up (jj_up m 135 n k) 136 n f) 137 n x) 138 n y) 139 n b) 140 n e) 142 n (-1)) 141 n o) 143 n w) 144 (2 * n) (-1)) 144 (2 * n + 1) (-1)
theorem mB_o {m : zM} {n : Nat} {k f x y b e o w : Int32} (a c : Nat) (h : ¬ (135 ≤ a ∧ a ≤ 144)) : mB m n k f x y b e o w a c = m a c := by
  unfold mB
  simp (disch := omega) only [up_ne]
theorem mB_n {m : zM} {ct : Nat} {k f x y b e o w : Int32} (n : Nat) (z : Nat) (hz : z < 11) : pMn (mB m ct k f x y b e o w) n z = (if n = ct then pF k f x y w b e o else pMn m n) z := by
  by_cases h : n = ct
  · rw [if_pos h, h]
    unfold mB pMn
    match z, hz with
    | 0, _ => rw [if_pos rfl]; simp (disch := omega) only [up_ne, up_k, up_eq]; rfl
    | 1, _ => rw [if_neg (by decide), if_pos rfl]; simp (disch := omega) only [up_ne, up_k, up_eq]; rfl
    | 2, _ => rw [if_neg (by decide), if_neg (by decide), if_pos rfl]; simp (disch := omega) only [up_ne, up_k, up_eq]; rfl
    | 3, _ => rw [if_neg (by decide), if_neg (by decide), if_neg (by decide), if_pos rfl]; simp (disch := omega) only [up_ne, up_k, up_eq]; rfl
    | 4, _ => rw [if_neg (by decide), if_neg (by decide), if_neg (by decide), if_neg (by decide), if_pos rfl]; simp (disch := omega) only [up_ne, up_k, up_eq]; rfl
    | 5, _ => rw [if_neg (by decide), if_neg (by decide), if_neg (by decide), if_neg (by decide), if_neg (by decide), if_pos rfl]; simp (disch := omega) only [up_ne, up_k, up_eq]; rfl
    | 6, _ => rw [if_neg (by decide), if_neg (by decide), if_neg (by decide), if_neg (by decide), if_neg (by decide), if_neg (by decide), if_pos rfl]; simp (disch := omega) only [up_ne, up_k, up_eq]; rfl
    | 7, _ => rw [if_neg (by decide), if_neg (by decide), if_neg (by decide), if_neg (by decide), if_neg (by decide), if_neg (by decide), if_neg (by decide), if_pos rfl]; simp (disch := omega) only [up_ne, up_k, up_eq]; rfl
    | 8, _ => rw [if_neg (by decide), if_neg (by decide), if_neg (by decide), if_neg (by decide), if_neg (by decide), if_neg (by decide), if_neg (by decide), if_neg (by decide), if_pos rfl]; simp (disch := omega) only [up_ne, up_k, up_eq]; rfl
    | 9, _ => rw [if_neg (by decide), if_neg (by decide), if_neg (by decide), if_neg (by decide), if_neg (by decide), if_neg (by decide), if_neg (by decide), if_neg (by decide), if_neg (by decide), if_pos rfl]; simp (disch := omega) only [up_ne, up_k, up_eq]; rfl
    | 10, _ => rw [if_neg (by decide), if_neg (by decide), if_neg (by decide), if_neg (by decide), if_neg (by decide), if_neg (by decide), if_neg (by decide), if_neg (by decide), if_neg (by decide), if_neg (by decide)]; simp (disch := omega) only [up_ne, up_k, up_eq]; rfl
    | z + 11, hz => omega
  · rw [if_neg h]
    refine pMn_same (fun a h1 h2 => ?_) ?_ ?_ z
    · unfold mB
      rw [up_ne2 (by omega), up_ne2 (by omega), up_ne2 (by omega), up_ne2 (by omega), up_ne2 (by omega), up_ne2 (by omega), up_ne2 (by omega), up_ne2 (by omega), up_ne2 (by omega), up_ne2 (by omega), up_ne2 (by omega)]
    · unfold mB
      simp (disch := omega) only [up_ne, up_k]
    · unfold mB
      simp (disch := omega) only [up_ne, up_k]
theorem link8 {B : zM} {j n z : Nat} {v : Int32} (hz : z < 11) : pMn (jj_up B 142 j v) n z = jj_up (fun i => pMn B i) j 8 v n z := by
  by_cases h : n = j
  · subst h
    by_cases e : z = 8
    · subst e
      rw [up_eq]
      show jj_up B 142 n v 142 n = v
      exact up_eq
    · rw [up_k e]
      unfold pMn
      rw [if_neg (c := z = 8) e, if_neg (c := z = 8) e]
      simp (disch := omega) only [up_ne]
  · rw [up_ne h]
    refine pMn_same (fun a h1 h2 => ?_) ?_ ?_ z <;> exact up_ne2 (by omega)
theorem link9 {B : zM} {j n z : Nat} {v : Int32} (hz : z < 11) : pMn (jj_up B 144 (2 * j) v) n z = jj_up (fun i => pMn B i) j 9 v n z := by
  by_cases h : n = j
  · subst h
    by_cases e : z = 9
    · subst e
      rw [up_eq]
      show jj_up B 144 (2 * n) v 144 (2 * n) = v
      exact up_eq
    · rw [up_k e]
      unfold pMn
      rw [if_neg (c := z = 9) e, if_neg (c := z = 9) e]
      simp (disch := omega) only [up_ne, up_k]
  · rw [up_ne h]
    refine pMn_same (fun a h1 h2 => ?_) ?_ ?_ z <;> exact up_ne2 (by omega)
theorem link10 {B : zM} {j n z : Nat} {v : Int32} (hz : z < 11) : pMn (jj_up B 144 (2 * j + 1) v) n z = jj_up (fun i => pMn B i) j 10 v n z := by
  by_cases h : n = j
  · subst h
    by_cases e : z = 10
    · subst e
      rw [up_eq]
      show jj_up B 144 (2 * n + 1) v 144 (2 * n + 1) = v
      exact up_eq
    · rw [up_k e]
      have w : ¬ (¬ z = 0 ∧ ¬ z = 1 ∧ ¬ z = 2 ∧ ¬ z = 3 ∧ ¬ z = 4 ∧ ¬ z = 5 ∧ ¬ z = 6 ∧ ¬ z = 7 ∧ ¬ z = 8 ∧ ¬ z = 9) := by omega
      unfold pMn
      simp (disch := omega) only [up_ne, up_k]
  · rw [up_ne h]
    refine pMn_same (fun a h1 h2 => ?_) ?_ ?_ z <;> exact up_ne2 (by omega)
theorem jj_up_ext {A B : zM} {j f : Nat} {v : Int32} {n z : Nat} (h : A n z = B n z) : jj_up A j f v n z = jj_up B j f v n z := by
  by_cases e : n = j
  · by_cases e2 : z = f
    · rw [e, e2, up_eq, up_eq]
    · rw [e] at h ⊢
      rw [up_k e2, up_k e2, h]
  · rw [up_ne e, up_ne e, h]
theorem addM_fin {m B C : zM} {s : pS} {l : List Nat} {len : Nat} {k f x y w : Int32} (hdp : s.2.1 ≤ 6) (c2 : m 131 20 = nI s.2.1) (c4 : ∀ d, d ≤ s.2.1 → m 146 d = s.2.2.2.1 d ∧ (0 < d → m 147 d = s.2.2.2.2.1 d) ∧ m 148 d = s.2.2.2.2.2.1 d)
    (hBo : ∀ a b, ¬ (135 ≤ a ∧ a ≤ 144) → B a b = m a b) (hCo : ∀ a b, ¬ (135 ≤ a ∧ a ≤ 144) → C a b = B a b)
    (hCn : ∀ n, n < s.2.2.1 + 1 → ∀ z, z < 11 → pMn C n z = pLk s (fun i => if i = s.2.2.1 then pF k f x y w (nI (l.getD s.1 0)) (nI (l.getD (s.1 + len - 1) 0)) (s.2.2.2.1 s.2.1) else s.2.2.2.2.2.2 i) n z) (hct : s.2.2.1 < 24) :
    pM (jj_up (jj_up C 148 s.2.1 (nI s.2.2.1)) 131 5 (nI (s.2.2.1 + 1))) (pAdd l s len k f x y w) ∧ (∀ a b, ¬ (a = 131 ∧ b = 5) → ¬ (135 ≤ a ∧ a ≤ 144) → a ≠ 148 → (jj_up (jj_up C 148 s.2.1 (nI s.2.2.1)) 131 5 (nI (s.2.2.1 + 1))) a b = m a b) := by
  refine ⟨⟨?_, up_eq, fun d hd => ⟨?_, fun hd0 => ?_, ?_⟩, fun n hn z hz => ?_⟩, fun a b h1 h2 h3 => ?_⟩
  · rw [up_k (by omega), up_ne (by omega), hCo 131 20 (by omega), hBo 131 20 (by omega)]
    exact c2
  · rw [up_ne (by omega), up_ne (by omega), hCo 146 d (by omega), hBo 146 d (by omega)]
    exact (c4 d hd).1
  · rw [up_ne (by omega), up_ne (by omega), hCo 147 d (by omega), hBo 147 d (by omega)]
    exact (c4 d hd).2.1 hd0
  · rw [up_ne (by omega)]
    show _ = upd s.2.2.2.2.2.1 s.2.1 (nI s.2.2.1) d
    unfold upd
    by_cases e : d = s.2.1
    · rw [if_pos e, e, up_eq]
    · rw [if_neg e, up_k e, hCo 148 d (by omega), hBo 148 d (by omega)]
      exact (c4 d hd).2.2
  · have hn : n < s.2.2.1 + 1 := hn
    rw [pMn_same (m := C) (fun a h1 h2 => by rw [up_ne (by omega), up_ne (by omega)]) (by rw [up_ne (by omega), up_ne (by omega)]) (by rw [up_ne (by omega), up_ne (by omega)]), hCn n hn z hz]
    rfl
  · rw [up_and h1, up_ne h3, hCo a b h2, hBo a b h2]
set_option maxHeartbeats 8000000 in
theorem h_M_node {xs : jx_Xs} {m : zM} {Q : Option Value → zM → Prop} {t : Nat → Nat} {l : List Nat} {s : pS} {len : Nat} {k f x y : Int32} (hk : tkM m t l) (hl : l.length ≤ 160) (ht : ∀ p ∈ l, t p ≤ 126) (hI : pI l.length s) (hC : pM m s) (h1 : 1 ≤ len) (h2 : s.1 + len ≤ l.length) (g0 : s.2.2.1 = 24 → Q (some (.int 0)) m)
    (g : s.2.2.1 < 24 → ∀ M, pM M (pAdd l s len k f x y (bI (decide (t (l.getD s.1 0) = 42)))) → (∀ a b, ¬ (a = 131 ∧ b = 5) → ¬ (135 ≤ a ∧ a ≤ 144) → a ≠ 148 → M a b = m a b) → Q (some (.int 1)) M) : ez xs 66 0 (jx_ent 66 [.ref 131, .int k, .int (nI s.1), .int (nI (s.1 + len - 1)), .int f, .int x, .int y]) [] m Q := by
  obtain ⟨c2, c3, c4, c5⟩ := hC
  obtain ⟨i1, i2, i3, i4, i5, i6, i7⟩ := hI
  by_cases hct : s.2.2.1 < 24
  case neg =>
    have e : m 131 5 = 24 := by rw [c3, show s.2.2.1 = 24 by omega]; rfl
    apply c_M_node <;> intros <;> first | contradiction | exact g0 (by omega)
  have g := g hct
  obtain ⟨r1, r2, r3⟩ := c4 s.2.1 (Nat.le_refl _)
  have n24 : ¬ nI s.2.2.1 = 24 := fun e => absurd ((nI_eq (b := 24) (by omega) (by omega)).mp e) (by omega)
  have q10 : (nI s.2.2.1).toNatClampNeg = s.2.2.1 := nI_clamp (by omega)
  have q11 : (nI s.2.1).toNatClampNeg = s.2.1 := nI_clamp (by omega)
  have q12 : (nI s.1).toNatClampNeg = s.1 := nI_clamp (by omega)
  have q13 : (nI (s.1 + len - 1)).toNatClampNeg = s.1 + len - 1 := nI_clamp (by omega)
  have gd : ∀ j, j < l.length → l[j]? = some (l.getD j 0) := fun j hj => by rw [List.getD_eq_getElem?_getD, List.getElem?_eq_getElem hj]; rfl
  have p1 : m 134 s.1 = nI (l.getD s.1 0) := (hk.2 s.1 _ (gd s.1 (by omega))).2
  have p2 : m 134 (s.1 + len - 1) = nI (l.getD (s.1 + len - 1) 0) := (hk.2 _ _ (gd _ (by omega))).2
  have p3 : m 133 s.1 = nI (t (l.getD s.1 0)) := (hk.2 s.1 _ (gd s.1 (by omega))).1
  have p4 : t (l.getD s.1 0) ≤ 126 := ht _ (List.mem_of_getElem? (gd s.1 (by omega)))
  have h42 : nI (t (l.getD s.1 0)) = 42 ↔ t (l.getD s.1 0) = 42 := nI_eq (b := 42) (by omega) (by omega)
  have d2 : (2 : Int32) * nI s.2.2.1 = nI (2 * s.2.2.1) := by rw [show (2 : Int32) = nI 2 from rfl, pk_mul]
  have q14 : (nI (2 * s.2.2.1)).toNatClampNeg = 2 * s.2.2.1 := nI_clamp (by omega)
  have q15 : (nI (2 * s.2.2.1 + 1)).toNatClampNeg = 2 * s.2.2.1 + 1 := nI_clamp (by omega)
  have v1 : vp_in (nI s.2.2.1) 24 := vp_in_nI hct (by omega)
  have v2 : vp_in (nI s.2.1) 7 := vp_in_nI (by omega) (by omega)
  have v3 : vp_in (nI s.1) 160 := vp_in_nI (by omega) (by omega)
  have v4 : vp_in (nI (s.1 + len - 1)) 160 := vp_in_nI (by omega) (by omega)
  have v5 : vp_in (nI (2 * s.2.2.1)) 48 := vp_in_nI (by omega) (by omega)
  have v6 : vp_in (nI (2 * s.2.2.1 + 1)) 48 := vp_in_nI (by omega) (by omega)
  have vI : ∀ j : Nat, j < s.2.2.1 → ¬ nI j < 0 ∧ vp_in (nI j) 24 ∧ (nI j).toNatClampNeg = j ∧ ¬ nI j = -1 := fun j hj => ⟨nI_pos (by omega), vp_in_nI (by omega) (by omega), nI_clamp (by omega), n1_ne j (by omega)⟩
  have rowL : ¬ s.2.2.2.2.2.1 s.2.1 < 0 → ∃ j : Nat, j < s.2.2.1 ∧ s.2.2.2.2.2.1 s.2.1 = nI j := fun h => (i7 s.2.1 (Nat.le_refl _)).resolve_left (fun e => h (by rw [e]; decide))
  have rowL0 : s.2.2.2.2.2.1 s.2.1 < 0 → s.2.2.2.2.2.1 s.2.1 = -1 := fun h => (i7 s.2.1 (Nat.le_refl _)).resolve_right (fun ⟨j, j1, j2⟩ => (vI j j1).1 (by rw [← j2]; exact h))
  have rowO : ¬ s.2.2.2.1 s.2.1 < 0 → ∃ j w : Nat, j < s.2.2.1 ∧ s.2.2.2.1 s.2.1 = nI j ∧ ((w = 0 ∧ s.2.2.2.2.1 s.2.1 = 0) ∨ (w = 1 ∧ ¬ s.2.2.2.2.1 s.2.1 = 0)) ∧ 2 * s.2.2.2.1 s.2.1 + m 147 s.2.1 = nI (2 * j + w) := fun h => by
    by_cases e : s.2.1 = 0
    · rw [e] at h; rw [i4] at h; exact absurd (by decide) h
    · obtain ⟨j, j1, j2, -⟩ := i5 s.2.1 (by omega) (Nat.le_refl _)
      rw [r2 (by omega), j2, show (2 : Int32) = nI 2 from rfl, pk_mul]
      rcases i6 s.2.1 (Nat.le_refl _) with h0 | h0
      · refine ⟨j, 0, j1, rfl, Or.inl ⟨rfl, h0⟩, ?_⟩
        rw [h0, show (0 : Int32) = nI 0 from rfl, nI_add]
      · refine ⟨j, 1, j1, rfl, Or.inr ⟨rfl, by rw [h0]; decide⟩, ?_⟩
        rw [h0, show (1 : Int32) = nI 1 from rfl, nI_add]
  have rowO0 : s.2.2.2.1 s.2.1 < 0 → s.2.2.2.1 s.2.1 = -1 := fun h => by
    by_cases e : s.2.1 = 0
    · rw [e]; exact i4
    · obtain ⟨j, j1, j2, -⟩ := i5 s.2.1 (by omega) (Nat.le_refl _)
      rw [j2] at h
      exact absurd h (vI j j1).1
  have hBn : ∀ w : Int32, ∀ n, n < s.2.2.1 + 1 → ∀ z, z < 11 → pMn (mB m s.2.2.1 k f x y (nI (l.getD s.1 0)) (nI (l.getD (s.1 + len - 1) 0)) (s.2.2.2.1 s.2.1) w) n z = (if n = s.2.2.1 then pF k f x y w (nI (l.getD s.1 0)) (nI (l.getD (s.1 + len - 1) 0)) (s.2.2.2.1 s.2.1) else s.2.2.2.2.2.2 n) z := fun w n hn z hz => by
    rw [mB_n n z hz]
    by_cases e : n = s.2.2.1
    · rw [if_pos e, if_pos e]
    · rw [if_neg e, if_neg e]
      exact c5 n (by omega) z hz
  have FIN : ∀ w : Int32, w = bI (decide (t (l.getD s.1 0) = 42)) → ∀ C : zM, (∀ a b, ¬ (135 ≤ a ∧ a ≤ 144) → C a b = mB m s.2.2.1 k f x y (nI (l.getD s.1 0)) (nI (l.getD (s.1 + len - 1) 0)) (s.2.2.2.1 s.2.1) w a b) → (∀ n, n < s.2.2.1 + 1 → ∀ z, z < 11 → pMn C n z = pLk s (fun i => if i = s.2.2.1 then pF k f x y w (nI (l.getD s.1 0)) (nI (l.getD (s.1 + len - 1) 0)) (s.2.2.2.1 s.2.1) else s.2.2.2.2.2.2 i) n z) → Q (some (.int 1)) (jj_up (jj_up C 148 s.2.1 (nI s.2.2.1)) 131 5 (nI (s.2.2.1 + 1))) := fun w hw C h3 h4 => by
    subst hw
    have r := addM_fin (l := l) (len := len) i2 c2 c4 mB_o h3 h4 hct
    exact g _ r.1 r.2
  have G1 : ∀ w : Int32, w = bI (decide (t (l.getD s.1 0) = 42)) → s.2.2.2.2.2.1 s.2.1 < 0 → s.2.2.2.1 s.2.1 < 0 → Q (some (.int 1)) (jj_up (jj_up (mB m s.2.2.1 k f x y (nI (l.getD s.1 0)) (nI (l.getD (s.1 + len - 1) 0)) (s.2.2.2.1 s.2.1) w) 148 s.2.1 (nI s.2.2.1)) 131 5 (nI (s.2.2.1 + 1))) := fun w hw e1 e2 => by
    refine FIN w hw _ (fun _ _ _ => rfl) (fun n hn z hz => ?_)
    unfold pLk
    rw [if_pos (rowL0 e1), if_pos (rowO0 e2)]
    exact hBn w n hn z hz
  have G2 : ∀ w : Int32, w = bI (decide (t (l.getD s.1 0) = 42)) → s.2.2.2.2.2.1 s.2.1 < 0 → ¬ s.2.2.2.1 s.2.1 < 0 → Q (some (.int 1)) (jj_up (jj_up (jj_up (mB m s.2.2.1 k f x y (nI (l.getD s.1 0)) (nI (l.getD (s.1 + len - 1) 0)) (s.2.2.2.1 s.2.1) w) 144 (2 * s.2.2.2.1 s.2.1 + m 147 s.2.1).toNatClampNeg (nI s.2.2.1)) 148 s.2.1 (nI s.2.2.1)) 131 5 (nI (s.2.2.1 + 1))) := fun w hw e1 e2 => by
    obtain ⟨j, u, j1, j2, j3, j4⟩ := rowO e2
    refine FIN w hw _ (fun a b h => up_ne (by omega)) (fun n hn z hz => ?_)
    unfold pLk
    rw [if_pos (rowL0 e1), if_neg (by rw [j2]; exact (vI j j1).2.2.2)]
    rcases j3 with ⟨u0, w0⟩ | ⟨u0, w0⟩
    · rw [j4, if_pos w0, j2, (vI j j1).2.2.1, u0, Nat.add_zero, nI_clamp (by omega), link9 hz, ← j2]
      exact jj_up_ext (hBn w n hn z hz)
    · rw [j4, if_neg w0, j2, (vI j j1).2.2.1, u0, nI_clamp (by omega), link10 hz, ← j2]
      exact jj_up_ext (hBn w n hn z hz)
  have G3 : ∀ w : Int32, w = bI (decide (t (l.getD s.1 0) = 42)) → ¬ s.2.2.2.2.2.1 s.2.1 < 0 → Q (some (.int 1)) (jj_up (jj_up (jj_up (mB m s.2.2.1 k f x y (nI (l.getD s.1 0)) (nI (l.getD (s.1 + len - 1) 0)) (s.2.2.2.1 s.2.1) w) 142 (s.2.2.2.2.2.1 s.2.1).toNatClampNeg (nI s.2.2.1)) 148 s.2.1 (nI s.2.2.1)) 131 5 (nI (s.2.2.1 + 1))) := fun w hw e1 => by
    obtain ⟨j, j1, j2⟩ := rowL e1
    refine FIN w hw _ (fun a b h => up_ne (by omega)) (fun n hn z hz => ?_)
    unfold pLk
    rw [if_neg (by rw [j2]; exact (vI j j1).2.2.2), j2, (vI j j1).2.2.1, link8 hz]
    exact jj_up_ext (hBn w n hn z hz)
  have w0 : ¬ nI (t (l.getD s.1 0)) = 42 → (0 : Int32) = bI (decide (t (l.getD s.1 0) = 42)) := fun h => by rw [decide_eq_false (fun e => h (h42.mpr e))]; rfl
  have w1 : nI (t (l.getD s.1 0)) = 42 → (1 : Int32) = bI (decide (t (l.getD s.1 0) = 42)) := fun h => by rw [decide_eq_true (h42.mp h)]; rfl
  apply c_M_node
  all_goals try simp only [c3, c2, nI_1, q10, q11, q12, q13, d2, q14, q15, r1, r3, p1, p2, p3, z_zz.1, z_zz.2]
  all_goals intros
  all_goals first | contradiction | exact v1 | exact v2 | exact v3 | exact v4 | exact v5 | exact v6 | skip
  all_goals first
    | (obtain ⟨j, u, j1, j2, j3, j4⟩ := rowO (by assumption); rw [j4]; exact vp_in_nI (by omega) (by omega))
    | (obtain ⟨j, j1, j2⟩ := rowL (by assumption); rw [j2]; exact (vI j j1).2.1)
    | exact G1 0 (w0 (by assumption)) (by assumption) (by assumption)
    | exact G2 0 (w0 (by assumption)) (by assumption) (by assumption)
    | exact G3 0 (w0 (by assumption)) (by assumption)
    | exact G1 1 (w1 (by assumption)) (by assumption) (by assumption)
    | exact G2 1 (w1 (by assumption)) (by assumption) (by assumption)
    | exact G3 1 (w1 (by assumption)) (by assumption)
