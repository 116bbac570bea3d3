/-! The reference's parser: its node. -/
def pMn (m : zM) (n k : Nat) : Int32 := if k = 0 then m 135 n else if k = 1 then m 136 n else if k = 2 then m 137 n else if k = 3 then m 138 n else if k = 4 then m 143 n else if k = 5 then m 139 n else if k = 6 then m 140 n else if k = 7 then m 141 n else if k = 8 then m 142 n else if k = 9 then m 144 (2 * n) else m 144 (2 * n + 1)
def pM (m : zM) (s : pS) : Prop := m 131 20 = nI s.2.1 ∧ m 131 5 = nI s.2.2.1 ∧ (∀ d, d ≤ s.2.1 → m 146 d = s.2.2.2.1 d ∧ (0 < d → m 147 d = s.2.2.2.2.1 d) ∧ m 148 d = s.2.2.2.2.2.1 d) ∧ ∀ n, n < s.2.2.1 → ∀ k, k < 11 → pMn m n k = s.2.2.2.2.2.2 n k
theorem pMn_same {m m' : zM} {n : Nat} (h : ∀ a, 135 ≤ a → a ≤ 143 → m' a n = m a n) (h1 : m' 144 (2 * n) = m 144 (2 * n)) (h2 : m' 144 (2 * n + 1) = m 144 (2 * n + 1)) (k : Nat) : pMn m' n k = pMn m n k := by
  unfold pMn
  rw [h 135 (by omega) (by omega), h 136 (by omega) (by omega), h 137 (by omega) (by omega), h 138 (by omega) (by omega), h 139 (by omega) (by omega), h 140 (by omega) (by omega), h 141 (by omega) (by omega), h 142 (by omega) (by omega), h 143 (by omega) (by omega), h1, h2]
theorem addM_fin {m B C : zM} {s : pS} {l : List Nat} {len : Nat} {k f x y w : Int32} (hdp : s.2.1 ≤ 6) (c2 : m 131 20 = nI s.2.1) (c4 : ∀ d, d ≤ s.2.1 → m 146 d = s.2.2.2.1 d ∧ (0 < d → m 147 d = s.2.2.2.2.1 d) ∧ m 148 d = s.2.2.2.2.2.1 d)
    (hBo : ∀ a b, ¬ (135 ≤ a ∧ a ≤ 144) → B a b = m a b) (hCo : ∀ a b, ¬ (135 ≤ a ∧ a ≤ 144) → C a b = B a b)
    (hCn : ∀ n, n < s.2.2.1 + 1 → ∀ z, z < 11 → pMn C n z = pLk s (fun i => if i = s.2.2.1 then pF k f x y w (nI (l.getD s.1 0)) (nI (l.getD (s.1 + len - 1) 0)) (s.2.2.2.1 s.2.1) else s.2.2.2.2.2.2 i) n z) (hct : s.2.2.1 < 24) :
    pM (jj_up (jj_up C 148 s.2.1 (nI s.2.2.1)) 131 5 (nI (s.2.2.1 + 1))) (pAdd l s len k f x y w) ∧ (∀ a b, ¬ (a = 131 ∧ b = 5) → ¬ (135 ≤ a ∧ a ≤ 144) → a ≠ 148 → (jj_up (jj_up C 148 s.2.1 (nI s.2.2.1)) 131 5 (nI (s.2.2.1 + 1))) a b = m a b) := by
  refine ⟨⟨?_, up_eq, fun d hd => ⟨?_, fun hd0 => ?_, ?_⟩, fun n hn z hz => ?_⟩, fun a b h1 h2 h3 => ?_⟩
  · rw [up_k (by omega), up_ne (by omega), hCo 131 20 (by omega), hBo 131 20 (by omega)]
    exact c2
  · rw [up_ne (by omega), up_ne (by omega), hCo 146 d (by omega), hBo 146 d (by omega)]
    exact (c4 d hd).1
  · rw [up_ne (by omega), up_ne (by omega), hCo 147 d (by omega), hBo 147 d (by omega)]
    exact (c4 d hd).2.1 hd0
  · rw [up_ne (by omega)]
    show _ = upd s.2.2.2.2.2.1 s.2.1 (nI s.2.2.1) d
    unfold upd
    by_cases e : d = s.2.1
    · rw [if_pos e, e, up_eq]
    · rw [if_neg e, up_k e, hCo 148 d (by omega), hBo 148 d (by omega)]
      exact (c4 d hd).2.2
  · have hn : n < s.2.2.1 + 1 := hn
    rw [pMn_same (m := C) (fun a h1 h2 => by rw [up_ne (by omega), up_ne (by omega)]) (by rw [up_ne (by omega), up_ne (by omega)]) (by rw [up_ne (by omega), up_ne (by omega)]), hCn n hn z hz]
    rfl
  · rw [up_and h1, up_ne h3, hCo a b h2, hBo a b h2]
set_option maxHeartbeats 8000000 in
theorem h_M_node {xs : jx_Xs} {m : zM} {Q : Option Value → zM → Prop} {t : Nat → Nat} {l : List Nat} {s : pS} {len : Nat} {k f x y : Int32} (hk : tkM m t l) (hl : l.length ≤ 160) (ht : ∀ p ∈ l, t p ≤ 126) (hI : pI l.length s) (hC : pM m s) (h1 : 1 ≤ len) (h2 : s.1 + len ≤ l.length) (g0 : s.2.2.1 = 24 → Q (some (.int 0)) m)
    (g : s.2.2.1 < 24 → ∀ M, pM M (pAdd l s len k f x y (bI (decide (t (l.getD s.1 0) = 42)))) → (∀ a b, ¬ (a = 131 ∧ b = 5) → ¬ (135 ≤ a ∧ a ≤ 144) → a ≠ 148 → M a b = m a b) → Q (some (.int 1)) M) : ez xs 66 0 (jx_ent 66 [.ref 131, .int k, .int (nI s.1), .int (nI (s.1 + len - 1)), .int f, .int x, .int y]) [] m Q := by
  obtain ⟨c2, c3, c4, c5⟩ := hC
  obtain ⟨i1, i2, i3, i4, i5, i6, i7⟩ := hI
  by_cases hct : s.2.2.1 < 24
  case neg =>
    have e : m 131 5 = 24 := by rw [c3, show s.2.2.1 = 24 by omega]; rfl
    apply c_M_node <;> intros <;> first | contradiction | exact g0 (by omega)
  have g := g hct
  obtain ⟨r1, r2, r3⟩ := c4 s.2.1 (Nat.le_refl _)
  have n24 : ¬ nI s.2.2.1 = 24 := fun e => absurd ((nI_eq (b := 24) (by omega) (by omega)).mp e) (by omega)
  have q10 : (nI s.2.2.1).toNatClampNeg = s.2.2.1 := nI_clamp (by omega)
  have q11 : (nI s.2.1).toNatClampNeg = s.2.1 := nI_clamp (by omega)
  have q12 : (nI s.1).toNatClampNeg = s.1 := nI_clamp (by omega)
  have q13 : (nI (s.1 + len - 1)).toNatClampNeg = s.1 + len - 1 := nI_clamp (by omega)
  have gd : ∀ j, j < l.length → l[j]? = some (l.getD j 0) := fun j hj => by rw [List.getD_eq_getElem?_getD, List.getElem?_eq_getElem hj]; rfl
  have p1 : m 134 s.1 = nI (l.getD s.1 0) := (hk.2 s.1 _ (gd s.1 (by omega))).2
  have p2 : m 134 (s.1 + len - 1) = nI (l.getD (s.1 + len - 1) 0) := (hk.2 _ _ (gd _ (by omega))).2
  have p3 : m 133 s.1 = nI (t (l.getD s.1 0)) := (hk.2 s.1 _ (gd s.1 (by omega))).1
  have p4 : t (l.getD s.1 0) ≤ 126 := ht _ (List.mem_of_getElem? (gd s.1 (by omega)))
  have h42 : nI (t (l.getD s.1 0)) = 42 ↔ t (l.getD s.1 0) = 42 := nI_eq (b := 42) (by omega) (by omega)
  have d2 : (2 : Int32) * nI s.2.2.1 = nI (2 * s.2.2.1) := by rw [show (2 : Int32) = nI 2 from rfl, pk_mul]
  have q14 : (nI (2 * s.2.2.1)).toNatClampNeg = 2 * s.2.2.1 := nI_clamp (by omega)
  have q15 : (nI (2 * s.2.2.1 + 1)).toNatClampNeg = 2 * s.2.2.1 + 1 := nI_clamp (by omega)
  have v1 : vp_in (nI s.2.2.1) 24 := vp_in_nI hct (by omega)
  have v2 : vp_in (nI s.2.1) 7 := vp_in_nI (by omega) (by omega)
  have v3 : vp_in (nI s.1) 160 := vp_in_nI (by omega) (by omega)
  have v4 : vp_in (nI (s.1 + len - 1)) 160 := vp_in_nI (by omega) (by omega)
  have v5 : vp_in (nI (2 * s.2.2.1)) 48 := vp_in_nI (by omega) (by omega)
  have v6 : vp_in (nI (2 * s.2.2.1 + 1)) 48 := vp_in_nI (by omega) (by omega)
  apply c_M_node
  all_goals try simp only [c3, c2, nI_1, q10, q11, q12, q13, d2, q14, q15, r1, r3, p1, p2, p3, z_zz.1, z_zz.2]
  all_goals intros
  all_goals first | contradiction | exact v1 | exact v2 | exact v3 | exact v4 | exact v5 | exact v6 | skip
  all_goals trace_state
  all_goals sorry
