/-! Likeness, bindings, sets of successors: rows of both sides. -/
def vl (p b : Int32) : Int32 := if 4 ≤ p then ((b >>> (((2 : Int32) * (p - 4)) &&& 31)) &&& 3) else p
def lkB (nd : Nat → Nat → Int32) (o f x y b : Int32) (n : Nat) : Bool := decide (nd n 0 = o) && decide (nd n 2 = vl x b) && (decide (¬ o = 0) || decide (nd n 1 = f)) && (decide (¬ o = 1) || decide (nd n 3 = vl y b))
theorem f_like {m : zM} {c n : Nat} {nd : Nat → Nat → Int32} {o f x y b : Int32} (hc : c ≤ 24) (hm : ∀ n, n < c → ∀ k, k < 11 → pMn m n k = nd n k) (hn : n < c) : f_M_like m (nI n) o f x y b = bI (lkB nd o f x y b n) := by
  have cl : (nI n).toNatClampNeg = n := nI_clamp (by omega)
  have e0 : m 135 n = nd n 0 := hm n hn 0 (by omega)
  have e1 : m 136 n = nd n 1 := hm n hn 1 (by omega)
  have e2 : m 137 n = nd n 2 := hm n hn 2 (by omega)
  have e3 : m 138 n = nd n 3 := hm n hn 3 (by omega)
  have v : ∀ p, f_M_value m p b = vl p b := fun _ => rfl
  unfold f_M_like lkB
  rw [cl, e0, e1, e2, e3, v, v]
  by_cases q0 : nd n 0 = o
  · by_cases q2 : nd n 2 = vl x b
    · by_cases o0 : o = 0
      · have o1 : ¬ o = 1 := by rw [o0]; decide
        by_cases q1 : nd n 1 = f
        · simp [q0, q2, o0, q1, bI]
        · simp [q0, q2, o0, q1, bI]
      · by_cases o1 : o = 1
        · by_cases q3 : nd n 3 = vl y b
          · simp [q0, q2, o1, q3, bI]
          · simp [q0, q2, o1, q3, bI]
        · simp [q0, q2, o0, o1, bI]
    · simp [q0, q2, bI]
  · simp [q0, bI]
/-- the class's test of one node -/
def lkC (m : zM) (r : Nat) (nd : Nat → Nat → Int32) (b : Int32) (n : Nat) : Bool := decide (nd n 0 = m r 0 ∧ nd n 1 = m r 1 ∧ nd n 2 = f_Pattern_bound m (m r 2) b ∧ nd n 3 = f_Pattern_bound m (m r 3) b)
theorem bound_vl {m : zM} {q : Nat} {b : Int32} (h : q ≤ 6) : f_Pattern_bound m (nI q) b = vl (nI q) b := by
  have : q = 0 ∨ q = 1 ∨ q = 2 ∨ q = 3 ∨ q = 4 ∨ q = 5 ∨ q = 6 := by omega
  unfold f_Pattern_bound vl
  rcases this with rfl | rfl | rfl | rfl | rfl | rfl | rfl
  · rw [if_neg (by decide), if_neg (by decide)]; decide
  · rw [if_neg (by decide), if_neg (by decide)]; decide
  · rw [if_neg (by decide), if_neg (by decide)]; decide
  · rw [if_neg (by decide), if_neg (by decide)]; decide
  · rw [if_pos (by decide), if_pos (by decide)]
  · rw [if_pos (by decide), if_pos (by decide)]
  · rw [if_pos (by decide), if_pos (by decide)]
theorem lk_eq {m : zM} {r : Nat} {nd : Nat → Nat → Int32} {o f x y b : Int32} {n : Nat} (h : rP m r o f x y) (hn : nFd (nd n)) : lkC m r nd b n = lkB nd o f x y b n := by
  obtain ⟨p, q, hp, hq, rfl, rfl, r0, r2, f1, f2, y1, y2⟩ := h
  obtain ⟨-, k, z, k1, z1, n0, n2, nf1, nf2, ny1, ny2⟩ := hn
  have b0 : f_Pattern_bound m 0 b = 0 := bound_vl (q := 0) (by omega)
  have ek : nI k = nI p ↔ k = p := nI_eq (by omega) (by omega)
  have ep0 : nI p = 0 ↔ p = 0 := nI_eq (b := 0) (by omega) (by omega)
  have ep1 : nI p = 1 ↔ p = 1 := nI_eq (b := 1) (by omega) (by omega)
  unfold lkC lkB
  rw [Bool.eq_iff_iff]
  simp only [Bool.and_eq_true, Bool.or_eq_true, decide_eq_true_eq]
  rw [r0, r2, bound_vl hq, n0, ek, ep0, ep1]
  by_cases e : k = p
  · subst e
    by_cases p0 : k = 0
    · rw [(f1 p0).2, y2 (by omega), b0, ny2 (by omega)]
      exact ⟨fun ⟨_, a, b, _⟩ => ⟨⟨⟨rfl, b⟩, Or.inr a⟩, Or.inl (by omega)⟩, fun ⟨⟨⟨_, b⟩, a⟩, _⟩ => ⟨rfl, a.resolve_left (fun z => z p0), b, rfl⟩⟩
    · by_cases p1 : k = 1
      · obtain ⟨⟨g, g1, g2⟩, g3⟩ := y1 p1
        rw [f2 p0, g3, g2, bound_vl g1, nf2 p0]
        exact ⟨fun ⟨_, _, a, b⟩ => ⟨⟨⟨rfl, a⟩, Or.inl p0⟩, Or.inr b⟩, fun ⟨⟨⟨_, a⟩, _⟩, b⟩ => ⟨rfl, rfl, a, b.resolve_left (fun z => z p1)⟩⟩
      · rw [f2 p0, y2 p1, nf2 p0, b0, ny2 p1]
        exact ⟨fun ⟨_, _, a, _⟩ => ⟨⟨⟨rfl, a⟩, Or.inl p0⟩, Or.inl p1⟩, fun ⟨⟨⟨_, a⟩, _⟩, _⟩ => ⟨rfl, rfl, a, rfl⟩⟩
  · exact ⟨fun q => absurd q.1 e, fun q => absurd q.1.1.1 e⟩
theorem h_likeIn {xs : jx_Xs} {m : zM} {Q : Option Value → zM → Prop} {b : Int32} {r c : Nat} {nd : Nat → Nat → Int32} (i_r : r < 172) (s_r : z_H r = (0, 8, 4)) (hc : c ≤ 24) (hG : gC m c nd) (g : Q (some (.int (mk (lkC m r nd b) c))) m) : ez xs 117 0 (jx_ent 117 [.ref r, .ref 3, .int b]) [] m Q := by
  refine c_Pattern_likeIn i_r s_r ?_
  have loop : ∀ (k i : Nat) (o7 o8 : Option Value), i + k = c → ez xs 117 25 [some (.ref r), some (.ref 3), some (.int b), some (.int (f_Pattern_bound m (m r 2) b)), some (.int (f_Pattern_bound m (m r 3) b)), some (.int (mk (lkC m r nd b) i)), some (.int (nI i)), o7, o8] [] m Q := by
    intro k
    induction k with
    | zero =>
      intro i o7 o8 hi
      have hi : i = c := by omega
      subst hi
      have hx : m 3 1 ≤ nI i := by rw [hG.1]; exact nI_le (Nat.le_refl _) (by omega)
      apply c_Pattern_likeIn_25 i_r s_r <;> intros <;> first | contradiction | exact g
    | succ k ih =>
      intro i o7 o8 hi
      have hic : i < c := by omega
      have hx : ¬ m 3 1 ≤ nI i := by rw [hG.1]; exact nI_ge hic (by omega)
      have h0 : ¬ nI i < 0 := nI_pos (by omega)
      have cl : (nI i).toNatClampNeg = i := nI_clamp (by omega)
      have v : vp_in (nI i) 24 := vp_in_nI (by omega) (by omega)
      have f0 : m (5 + i) 0 = nd i 0 := (hG.2 i hic).1 0 (by omega)
      have f1 : m (5 + i) 1 = nd i 1 := (hG.2 i hic).1 1 (by omega)
      have f2 : m (5 + i) 2 = nd i 2 := (hG.2 i hic).1 2 (by omega)
      have f3 : m (5 + i) 3 = nd i 3 := (hG.2 i hic).1 3 (by omega)
      have NO : ¬ (nd i 0 = m r 0 ∧ nd i 1 = m r 1 ∧ nd i 2 = f_Pattern_bound m (m r 2) b ∧ nd i 3 = f_Pattern_bound m (m r 3) b) → ∀ o7 o8, ez xs 117 25 [some (.ref r), some (.ref 3), some (.int b), some (.int (f_Pattern_bound m (m r 2) b)), some (.int (f_Pattern_bound m (m r 3) b)), some (.int (mk (lkC m r nd b) i)), some (.int (nI i + 1)), o7, o8] [] m Q := fun q o7 o8 => by
        have := ih (i + 1) o7 o8 (by omega)
        rw [mk, if_neg (by unfold lkC; rw [decide_eq_true_iff]; exact q), ← nI_1] at this
        exact this
      have YES : (nd i 0 = m r 0 ∧ nd i 1 = m r 1 ∧ nd i 2 = f_Pattern_bound m (m r 2) b ∧ nd i 3 = f_Pattern_bound m (m r 3) b) → ∀ o7 o8, ez xs 117 25 [some (.ref r), some (.ref 3), some (.int b), some (.int (f_Pattern_bound m (m r 2) b)), some (.int (f_Pattern_bound m (m r 3) b)), some (.int (mk (lkC m r nd b) i ||| ((1 : Int32) <<< (nI i &&& 31)))), some (.int (nI i + 1)), o7, o8] [] m Q := fun q o7 o8 => by
        have := ih (i + 1) o7 o8 (by omega)
        rw [mk, if_pos (by unfold lkC; rw [decide_eq_true_iff]; exact q), ← nI_1] at this
        exact this
      refine c_Pattern_likeIn_25 i_r s_r (fun _ z => absurd z h0) (fun _ _ z => absurd z hx) (fun _ _ _ => v) (fun z => absurd z hx) (fun _ z => absurd z h0) (fun _ z => absurd z h0) (fun _ z => absurd z h0) (fun _ z => absurd z h0) (fun _ z => absurd z h0) (fun _ _ z => absurd z hx) (fun _ _ z => absurd z hx) (fun _ _ z => absurd z hx) (fun _ _ z => absurd z hx) (fun _ _ z => absurd z hx) ?_ ?_ ?_ ?_ ?_
      · rw [cl, f0]; exact fun _ _ _ z => NO (fun q => z q.1) _ _
      · rw [cl, f0, f1]; exact fun _ _ _ _ z => NO (fun q => z q.2.1) _ _
      · rw [cl, f0, f1, f2]; exact fun _ _ _ _ _ z => NO (fun q => z q.2.2.1) _ _
      · rw [cl, f0, f1, f2, f3]; exact fun _ _ _ _ _ _ z => NO (fun q => z q.2.2.2) _ _
      · rw [cl, f0, f1, f2, f3]; exact fun _ _ _ z0 z1 z2 z3 => YES ⟨z0, z1, z2, z3⟩ _ _
  exact loop c 0 none none (by omega)
theorem ss_C {m : zM} {c n : Nat} {nd : Nat → Nat → Int32} (hG : gC m c nd) (hn : n < c) : f_Node_successorSet m (5 + n) = ss (pE0 c nd) (pE1 c nd) n := by
  unfold f_Node_successorSet ss
  rw [(hG.2 n hn).2.1, (hG.2 n hn).2.2]
theorem h_leadingInto {xs : jx_Xs} {m : zM} {Q : Option Value → zM → Prop} {x : Int32} {c : Nat} {nd : Nat → Nat → Int32} (hc : c ≤ 24) (hG : gC m c nd) (g : Q (some (.int (ld c (pE0 c nd) (pE1 c nd) x))) m) : ez xs 120 0 (jx_ent 120 [.ref 3, .int x]) [] m Q := by
  refine c_Program_leadingInto ?_
  have loop : ∀ (k i : Nat), i + k = c → ez xs 120 4 [some (.ref 3), some (.int x), some (.int (mk (fun n => decide (¬ ss (pE0 c nd) (pE1 c nd) n &&& x = 0)) i)), some (.int (nI i))] [] m Q := by
    intro k
    induction k with
    | zero =>
      intro i hi
      have hi : i = c := by omega
      have hx : m 3 1 ≤ nI i := by rw [hG.1, hi]; exact nI_le (Nat.le_refl _) (by omega)
      refine c_Program_leadingInto_4 (fun z => absurd hx z) (fun _ => ?_) (fun z => absurd hx z) (fun z => absurd hx z)
      rw [hi]
      exact g
    | succ k ih =>
      intro i hi
      have hic : i < c := by omega
      have hx : ¬ m 3 1 ≤ nI i := by rw [hG.1]; exact nI_ge hic (by omega)
      have cl : (nI i).toNatClampNeg = i := nI_clamp (by omega)
      have ih := ih (i + 1) (by omega)
      refine c_Program_leadingInto_4 (fun _ => vp_in_nI (by omega) (by omega)) (fun z => absurd z hx) ?_ ?_
      · rw [cl, ss_C hG hic]
        intro _ z
        rw [mk, if_neg (by rw [decide_eq_true_iff]; exact fun q => q z), ← nI_1] at ih
        exact ih
      · rw [cl, ss_C hG hic]
        intro _ z
        rw [mk, if_pos (by rw [decide_eq_true_iff]; exact z), ← nI_1] at ih
        exact ih
  exact loop c 0 (by omega)
theorem h_successorsOf {xs : jx_Xs} {m : zM} {Q : Option Value → zM → Prop} {x : Int32} {c : Nat} {nd : Nat → Nat → Int32} (hc : c ≤ 24) (hG : gC m c nd) (g : Q (some (.int (sU (pE0 c nd) (pE1 c nd) x c))) m) : ez xs 136 0 (jx_ent 136 [.ref 3, .int x]) [] m Q := by
  refine c_Program_successorsOf ?_
  have loop : ∀ (k i : Nat), i + k = c → ez xs 136 4 [some (.ref 3), some (.int x), some (.int (sU (pE0 c nd) (pE1 c nd) x i)), some (.int (nI i))] [] m Q := by
    intro k
    induction k with
    | zero =>
      intro i hi
      have hi : i = c := by omega
      have hx : m 3 1 ≤ nI i := by rw [hG.1, hi]; exact nI_le (Nat.le_refl _) (by omega)
      refine c_Program_successorsOf_4 (fun z => absurd hx z) (fun _ => ?_) (fun z => absurd hx z) (fun z => absurd hx z)
      rw [hi]
      exact g
    | succ k ih =>
      intro i hi
      have hic : i < c := by omega
      have hx : ¬ m 3 1 ≤ nI i := by rw [hG.1]; exact nI_ge hic (by omega)
      have cl : (nI i).toNatClampNeg = i := nI_clamp (by omega)
      have ih := ih (i + 1) (by omega)
      refine c_Program_successorsOf_4 (fun _ _ => vp_in_nI (by omega) (by omega)) (fun z => absurd z hx) ?_ ?_
      · intro _ z
        rw [sU, if_pos (show x &&& b1 i = 0 from z), ← nI_1] at ih
        exact ih
      · rw [cl, ss_C hG hic]
        intro _ z
        rw [sU, if_neg (show ¬ x &&& b1 i = 0 from z), ← nI_1] at ih
        exact ih
  exact loop c 0 (by omega)
/-! bindings that the script allows -/
def pbB (U b : Int32) : Nat → Bool
  | 0 => true
  | u + 1 => pbB U b u && (bt U u || decide ((b >>> (((2 : Int32) * nI u) &&& 31)) &&& 3 = 0))
theorem h_allows {xs : jx_Xs} {m : zM} {Q : Option Value → zM → Prop} {b : Int32} (g : Q (some (.int (bI (pbB (m 36 2) b 3)))) m) : ez xs 115 0 (jx_ent 115 [.ref 36, .int b]) [] m Q := by
  refine c_Script_allows ?_
  have loop : ∀ (k u : Nat) (o : Option Value), u + k = 3 → pbB (m 36 2) b u = true → ez xs 115 2 [some (.ref 36), some (.int b), some (.int (nI u)), o] [] m Q := by
    intro k
    induction k with
    | zero =>
      intro u o hu q
      have hu : u = 3 := by omega
      subst hu
      have h3 : (3 : Int32) ≤ nI 3 := by decide
      rw [q] at g
      exact c_Script_allows_2 (fun _ => g) (fun z => absurd h3 z) (fun z => absurd h3 z) (fun z => absurd h3 z)
    | succ k ih =>
      intro u o hu q
      have h3 : ¬ (3 : Int32) ≤ nI u := fun z => absurd ((nI_leI (a := 3) (by omega) (by omega)).mp z) (by omega)
      have F : ∀ v, pbB (m 36 2) b v = false → ∀ j, pbB (m 36 2) b (v + j) = false := fun v hv j => by
        induction j with
        | zero => exact hv
        | succ j ihj => show (pbB (m 36 2) b (v + j) && _) = false; rw [ihj]; rfl
      refine c_Script_allows_2 (fun z => absurd z h3) (fun _ z1 z2 => ?_) (fun _ z1 z2 => ?_) (fun _ z1 => ?_)
      · rw [nI_1]
        refine ih (u + 1) _ (by omega) ?_
        rw [pbB, q, decide_eq_true z2, Bool.or_true]
        rfl
      · have f : pbB (m 36 2) b (u + 1) = false := by
          rw [pbB, q, (and_b1 (by omega)).mp z1, decide_eq_false z2]
          rfl
        have f3 := F (u + 1) f k
        rw [show u + 1 + k = 3 by omega] at f3
        rw [f3] at g
        exact g
      · rw [nI_1]
        refine ih (u + 1) _ (by omega) ?_
        have w : bt (m 36 2) u = true := by
          cases w : bt (m 36 2) u
          · exact absurd ((and_b1 (by omega)).mpr w) z1
          · rfl
        rw [pbB, q, w]
        rfl
  exact loop 3 0 none (by omega) rfl
theorem h_possible {xs : jx_Xs} {m : zM} {Q : Option Value → zM → Prop} {b : Int32} (h6 : hN6 m) (g : Q (some (.int (bI (pbB (rNamed m) b 3)))) m) : ez xs 145 0 (jx_ent 145 [.ref 131, .int b]) [] m Q := by
  refine c_M_possible h6 ?_
  have loop : ∀ (k u : Nat), u + k = 3 → ez xs 145 10 [some (.ref 131), some (.int b), some (.int (rNamed m)), some (.int (bI (pbB (rNamed m) b u))), some (.int (nI u))] [] m Q := by
    intro k
    induction k with
    | zero =>
      intro u hu
      have hu : u = 3 := by omega
      subst hu
      have h3 : (3 : Int32) ≤ nI 3 := by decide
      refine c_M_possible_10 (fun _ => ?_) (fun _ => g) (fun z => absurd h3 z) (fun z => absurd h3 z) (fun z => absurd h3 z) (fun z => absurd h3 z)
      unfold bI
      split
      · exact Or.inr rfl
      · exact Or.inl rfl
    | succ k ih =>
      intro u hu
      have h3 : ¬ (3 : Int32) ≤ nI u := fun z => absurd ((nI_leI (a := 3) (by omega) (by omega)).mp z) (by omega)
      have ih := ih (u + 1) (by omega)
      rw [pbB, ← nI_1] at ih
      have T : ¬ bI (pbB (rNamed m) b u) = 0 → pbB (rNamed m) b u = true := fun z => by
        rw [bI_0] at z
        simpa using z
      refine c_M_possible_10 (fun z => absurd z h3) (fun z => absurd z h3) (fun _ z => ?_) (fun _ z1 z2 => ?_) (fun _ z1 z2 z3 => ?_) (fun _ z1 z2 z3 => ?_)
      · rw [bI_0] at z
        rw [z] at ih
        exact ih
      · rw [T z1, (has_iff (by omega)).mp z2] at ih
        exact ih
      · have w : bt (rNamed m) u = false := by
          cases w : bt (rNamed m) u
          · rfl
          · exact absurd ((has_iff (by omega)).mpr w) z2
        rw [T z1, w, decide_eq_false z3] at ih
        exact ih
      · rw [T z1, decide_eq_true z3, Bool.or_true] at ih
        exact ih
  exact loop 3 0 (by omega)
