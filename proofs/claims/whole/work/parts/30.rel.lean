/-! What holds between two calls: the class's cells and the reference's say the same. -/
/-- the text -/
def rT (m : zM) : Prop := ∃ n : Nat, n ≤ 160 ∧ m 1 1 = nI n ∧ m 131 0 = nI n ∧ ∀ j, j < n → ∃ c : Nat, 32 ≤ c ∧ c ≤ 126 ∧ m 2 j = nI c ∧ m 132 j = nI c
/-- a pattern at r beside the reference's four numbers -/
def rP (m : zM) (r : Nat) (o f x y : Int32) : Prop := ∃ p q : Nat, p ≤ 3 ∧ q ≤ 6 ∧ o = nI p ∧ x = nI q ∧ m r 0 = o ∧ m r 2 = x ∧
  (p = 0 → (∃ g : Nat, g ≤ 2 ∧ f = nI g) ∧ m r 1 = f) ∧ (p ≠ 0 → m r 1 = 0) ∧ (p = 1 → (∃ g : Nat, g ≤ 6 ∧ y = nI g) ∧ m r 3 = y) ∧ (p ≠ 1 → m r 3 = 0)
/-- item i -/
def rI (m : zM) (i : Nat) : Prop := rP m (39 + 6 * i) (m 149 i) (m 150 i) (m 151 i) (m 152 i) ∧
  (m (38 + 6 * i) 4 = m 153 i ∧ (m 153 i = 0 ∨ m 153 i = 1)) ∧ (m (38 + 6 * i) 5 = m 154 i ∧ (m 154 i = 0 ∨ m 154 i = 1)) ∧ (m 149 i = 3 → m 153 i = 0) ∧
  (∃ a : Nat, a ≤ 2 ∧ m (38 + 6 * i) 3 = nI a ∧ m 159 i = nI a ∧ (m 149 i = 3 → a = 0) ∧ ∀ j, j < a → rP m (42 + 6 * i + j) (m 160 (2 * i + j)) (m 161 (2 * i + j)) (m 162 (2 * i + j)) (m 163 (2 * i + j)) ∧ ¬ m 160 (2 * i + j) = 3) ∧
  (m 154 i = 1 → (m 155 i = -1 ∧ m (40 + 6 * i) 0 = -1) ∨ rP m (40 + 6 * i) (m 155 i) (m 156 i) (m 157 i) (m 158 i))
/-- the unknowns that the first k items name -/
def rU (m : zM) : Nat → Int32
  | 0 => 0
  | i + 1 => rU m i ||| f_M_names m (m 149 i) (m 151 i) (m 152 i)
/-- the script -/
def rS (m : zM) : Prop := ∃ k : Nat, k ≤ 6 ∧ m 36 1 = nI k ∧ m 131 21 = nI k ∧ m 36 2 = rU m k ∧ ∀ i, i < k → rI m i
/-- what is kept of earlier work -/
def rC (PC SC : zM → Prop) (m : zM) : Prop := (m 0 7 = 0 ∨ m 0 7 = 1 ∧ PC m) ∧ (m 0 8 = 0 ∨ m 0 8 = 1 ∧ SC m)
def rR (PC SC : zM → Prop) (m : zM) : Prop := rT m ∧ rS m ∧ rC PC SC m
/-- cells of the script, on both sides -/
def sS (a k : Nat) : Prop := (36 ≤ a ∧ a ≤ 73) ∨ (149 ≤ a ∧ a ≤ 163) ∨ (a = 131 ∧ k = 21)
theorem rP_same {m m' : zM} {r : Nat} {o f x y : Int32} (h : ∀ k, m' r k = m r k) (g : rP m r o f x y) : rP m' r o f x y := by
  unfold rP at g ⊢
  simp only [h]
  exact g
theorem rI_same {m m' : zM} {i : Nat} (hi : i < 6) (h : ∀ a k, sS a k → m' a k = m a k) (g : rI m i) : rI m' i := by
  have hm : ∀ a, 149 ≤ a → a ≤ 163 → ∀ k, m' a k = m a k := fun a h1 h2 k => h a k (Or.inr (Or.inl ⟨h1, h2⟩))
  have hc : ∀ a, 36 ≤ a → a ≤ 73 → ∀ k, m' a k = m a k := fun a h1 h2 k => h a k (Or.inl ⟨h1, h2⟩)
  obtain ⟨g1, g2, g3, g4, ⟨a, a1, a2, a3, a4, a5⟩, g6⟩ := g
  unfold rI
  rw [hm 149 (by omega) (by omega), hm 150 (by omega) (by omega), hm 151 (by omega) (by omega), hm 152 (by omega) (by omega), hm 153 (by omega) (by omega), hm 154 (by omega) (by omega), hm 155 (by omega) (by omega), hm 156 (by omega) (by omega), hm 157 (by omega) (by omega), hm 158 (by omega) (by omega), hm 159 (by omega) (by omega),
    hc (38 + 6 * i) (by omega) (by omega), hc (38 + 6 * i) (by omega) (by omega), hc (38 + 6 * i) (by omega) (by omega), hc (40 + 6 * i) (by omega) (by omega)]
  refine ⟨rP_same (hc _ (by omega) (by omega)) g1, g2, g3, g4, ⟨a, a1, a2, a3, a4, fun j hj => ?_⟩, fun e => ?_⟩
  · rw [hm 160 (by omega) (by omega), hm 161 (by omega) (by omega), hm 162 (by omega) (by omega), hm 163 (by omega) (by omega)]
    exact ⟨rP_same (hc _ (by omega) (by omega)) (a5 j hj).1, (a5 j hj).2⟩
  · rcases g6 e with q | q
    · exact Or.inl q
    · exact Or.inr (rP_same (hc _ (by omega) (by omega)) q)
theorem rU_same {m m' : zM} (h : ∀ a k, sS a k → m' a k = m a k) : ∀ k, rU m' k = rU m k := by
  intro k
  induction k with
  | zero => rfl
  | succ k ih =>
    have hm : ∀ a, 149 ≤ a → a ≤ 163 → ∀ k, m' a k = m a k := fun a h1 h2 k => h a k (Or.inr (Or.inl ⟨h1, h2⟩))
    have hf : ∀ o x y, f_M_names m' o x y = f_M_names m o x y := fun o x y => rfl
    rw [rU, rU, ih, hf, hm 149 (by omega) (by omega), hm 151 (by omega) (by omega), hm 152 (by omega) (by omega)]
theorem rS_same {m m' : zM} (h : ∀ a k, sS a k → m' a k = m a k) (g : rS m) : rS m' := by
  obtain ⟨k, k1, k2, k3, k4, k5⟩ := g
  exact ⟨k, k1, (h 36 1 (Or.inl ⟨by omega, by omega⟩)).trans k2, (h 131 21 (Or.inr (Or.inr ⟨rfl, rfl⟩))).trans k3, by rw [h 36 2 (Or.inl ⟨by omega, by omega⟩), rU_same h, k4], fun i hi => rI_same (by omega) h (k5 i hi)⟩
theorem up_ne {m : zM} {i k a b : Nat} {x : Int32} (h : a ≠ i) : jj_up m i k x a b = m a b := by
  unfold jj_up
  rw [if_neg h]
theorem up_k {m : zM} {i k b : Nat} {x : Int32} (h : b ≠ k) : jj_up m i k x i b = m i b := by
  unfold jj_up upd
  rw [if_pos rfl, if_neg h]
theorem up_eq {m : zM} {i k : Nat} {x : Int32} : jj_up m i k x i k = x := by
  unfold jj_up upd
  rw [if_pos rfl, if_pos rfl]
theorem nar_char {c : Nat} (h : c ≤ 126) : vp_nar .char (nI c) = nI c := by
  have h1 := (pk_charN (q := c) (by omega)).1
  unfold vp_nar
  rw [h1]
/-! the calls that only read or write the text -/
section OPS
variable {PC SC : zM → Prop} {xs : jx_Xs}
theorem o_length : zo (rR PC SC) xs 21 22 [] := by
  intro m hR
  obtain ⟨⟨n, hn, h1, h2, ht⟩, hS, hC⟩ := hR
  refine c_PathPatcher_length ⟨m 1 1, rfl, c_M_length ⟨?_, ⟨n, hn, h1, h2, ht⟩, hS, hC⟩⟩
  rw [h1, h2]
theorem o_clear : zov (rR PC SC) xs 18 19 [] := by
  intro m hR
  obtain ⟨⟨n, hn, h1, h2, ht⟩, hS, hC⟩ := hR
  refine c_PathPatcher_clear ⟨rfl, c_M_clear ⟨rfl, ⟨0, Nat.zero_le _, rfl, rfl, fun j hj => absurd hj (Nat.not_lt_zero j)⟩, rS_same (fun a k h => ?_) hS, Or.inl rfl, Or.inl rfl⟩⟩
  have h0 : a ≠ 0 ∧ a ≠ 1 ∧ ¬ (a = 131 ∧ k = 0) := by unfold sS at h; omega
  by_cases e : a = 131
  · subst e
    rw [up_k (by omega), up_ne (by omega), up_ne (by omega), up_ne (by omega)]
  · rw [up_ne e, up_ne h0.1, up_ne h0.1, up_ne h0.2.1]
theorem o_at (v : Int32) : zo (rR PC SC) xs 25 26 [.int v] := by
  intro m hR
  obtain ⟨⟨n, hn, h1, h2, ht⟩, hS, hC⟩ := hR
  have hh : f_Source_holds m v = 0 ∨ ∃ j : Nat, j < n ∧ v = nI j := by
    unfold f_Source_holds
    rw [h1]
    rcases pk_ix v (n := n) (by omega) with h | h | ⟨j, hj, rfl⟩
    · left; rw [if_pos h]
    · left
      by_cases h0 : v < 0
      · rw [if_pos h0]
      · rw [if_neg h0, if_pos h]
    · exact Or.inr ⟨j, hj, rfl⟩
  have hb : ¬ f_Source_holds m v = 0 → ∃ j : Nat, j < n ∧ v = nI j := fun h => hh.resolve_left h
  refine d_PathPatcher_at (fun h _ => ?_) (fun h _ => ?_) ⟨f_PathPatcher_at m v, rfl, d_M_at (fun h3 h4 => ?_) ⟨?_, ⟨n, hn, h1, h2, ht⟩, hS, hC⟩⟩
  · obtain ⟨j, hj, rfl⟩ := hb h
    exact vp_in_nI (by omega) (by omega)
  · obtain ⟨j, hj, rfl⟩ := hb h
    obtain ⟨c, c1, c2, c3, c4⟩ := ht j hj
    rw [nI_clamp (by omega), c3]
    exact nar_char c2
  · rw [h2] at h4
    rcases pk_ix v (n := n) (by omega) with h | h | ⟨j, hj, rfl⟩
    · exact absurd h h3
    · exact absurd h4 (Int32.not_lt.mpr h)
    · exact vp_in_nI (by omega) (by omega)
  · unfold f_PathPatcher_at f_Source_charOf f_Source_holds f_M_at
    rw [h1, h2]
    rcases pk_ix v (n := n) (by omega) with h | h | ⟨j, hj, rfl⟩
    · rw [if_pos h, if_pos h, if_pos rfl]
    · by_cases h0 : v < 0
      · rw [if_pos h0, if_pos h0, if_pos rfl]
      · rw [if_neg h0, if_neg h0, if_neg (Int32.not_lt.mpr h), if_pos h, if_pos rfl]
    · obtain ⟨c, c1, c2, c3, c4⟩ := ht j hj
      rw [if_neg (nI_pos (by omega)), if_neg (nI_pos (by omega)), if_pos (nI_lt hj (by omega)), if_neg (nI_ge hj (by omega)), if_neg (by decide), if_neg (by decide), nI_clamp (by omega), c3, c4]
theorem o_type (v : Int32) : zo (rR PC SC) xs 15 16 [.int (v.toUInt32 % 65536).toInt32] := by
  intro m hR
  obtain ⟨⟨n, hn, h1, h2, ht⟩, hS, hC⟩ := hR
  obtain ⟨w, hw, e⟩ : ∃ w : Nat, w < 65536 ∧ (v.toUInt32 % 65536).toInt32 = nI w := ⟨_, Nat.mod_lt _ (by decide), pk_char v⟩
  rw [e]
  have hA : 160 ≤ m 1 1 ↔ 160 ≤ n := by rw [h1]; exact nI_leI (a := 160) (by omega) (by omega)
  have hB : nI w < 32 ↔ w < 32 := nI_ltI (b := 32) (by omega) (by omega)
  have hD : nI w ≤ 126 ↔ w ≤ 126 := nI_leI (b := 126) (by omega) (by omega)
  have hE : m 131 0 = 160 ↔ n = 160 := by rw [h2]; exact nI_eq (b := 160) (by omega) (by omega)
  have no : (160 ≤ n ∨ w < 32 ∨ ¬ w ≤ 126) → ∃ v, (some (Value.int 0) = some (Value.int v)) ∧ ez xs 16 0 (jx_ent 16 [.ref 131, .int (nI w)]) [] m (fun r2 m2 => r2 = some (.int v) ∧ rR PC SC m2) := by
    intro hno
    have hR : rR PC SC m := ⟨⟨n, hn, h1, h2, ht⟩, hS, hC⟩
    refine ⟨0, rfl, c_M_type (fun a b c => ?_) (fun _ => ⟨rfl, hR⟩) (fun _ _ => ⟨rfl, hR⟩) (fun a b c => ?_) (fun _ _ _ => ⟨rfl, hR⟩)⟩
    · rw [hE] at a; rw [hB] at b; rw [hD] at c; omega
    · rw [hE] at a; rw [hB] at b; rw [hD] at c; omega
  refine c_PathPatcher_type (fun a b c => ?_) (fun a => no (Or.inl (hA.mp a))) (fun a b => no (Or.inr (Or.inl (hB.mp b)))) (fun a b c => ?_) (fun a b c => no (Or.inr (Or.inr (fun h => c (hD.mpr h)))))
  · rw [hA] at a
    rw [h1]
    exact vp_in_nI (by omega) (by omega)
  · rw [hA] at a
    rw [hB] at b
    rw [hD] at c
    have e1 : (m 1 1).toNatClampNeg = n := by rw [h1, nI_clamp (by omega)]
    rw [e1, nar_char c]
    generalize hm3 : jj_up (jj_up (jj_up (jj_up m 2 n (nI w)) 1 1 (m 1 1 + 1)) 0 7 0) 0 8 0 = m3
    have q0 : m3 131 0 = nI n := by rw [← hm3]; exact h2
    have qs : (m3 131 0).toNatClampNeg = n := by rw [q0, nI_clamp (by omega)]
    refine ⟨1, rfl, c_M_type (fun _ _ _ => ?_) (fun a => ?_) (fun _ b => ?_) (fun _ _ _ => ?_) (fun _ _ c => ?_)⟩
    · rw [q0]; exact vp_in_nI (by omega) (by omega)
    · rw [q0] at a
      have := (nI_eq (b := 160) (by omega) (by omega)).mp a
      omega
    · rw [hB] at b; omega
    · rw [qs, q0]
      refine ⟨rfl, ⟨n + 1, by omega, ?_, ?_, fun j hj => ?_⟩, rS_same (fun a k h => ?_) hS, Or.inl ?_, Or.inl ?_⟩
      · rw [up_ne (by omega), up_ne (by omega), ← hm3, up_ne (by omega), up_ne (by omega), up_eq, h1, nI_1]
      · rw [up_eq, nI_1]
      · rw [up_ne (by omega), up_ne (by omega), up_ne (show (132 : Nat) ≠ 131 by omega), ← hm3, up_ne (by omega), up_ne (by omega), up_ne (show (2 : Nat) ≠ 1 by omega)]
        by_cases hjn : j = n
        · subst hjn
          exact ⟨w, by omega, c, up_eq, up_eq⟩
        · obtain ⟨d, d1, d2, d3, d4⟩ := ht j (by omega)
          refine ⟨d, d1, d2, (up_k hjn).trans d3, (up_k hjn).trans ?_⟩
          rw [up_ne (by omega), up_ne (by omega), up_ne (by omega), up_ne (by omega)]
          exact d4
      · have h0 : a ≠ 0 ∧ a ≠ 1 ∧ a ≠ 2 ∧ a ≠ 132 ∧ ¬ (a = 131 ∧ k = 0) := by unfold sS at h; omega
        have h9 : m3 a k = m a k := by rw [← hm3, up_ne h0.1, up_ne h0.1, up_ne h0.2.1, up_ne h0.2.2.1]
        by_cases e : a = 131
        · subst e
          rw [up_k (by omega), up_ne (by omega), h9]
        · rw [up_ne e, up_ne h0.2.2.2.1, h9]
      · rw [up_ne (by omega), up_ne (by omega), ← hm3, up_k (by omega), up_eq]
      · rw [up_ne (by omega), up_ne (by omega), ← hm3, up_eq]
    · rw [hD] at c; omega
theorem o_forget (hPC : ∀ m m' : zM, (∀ i k, i ≤ 28 → (i = 0 → k = 6) → m' i k = m i k) → PC m → PC m') : zov (rR PC SC) xs 110 111 [] := by
  intro m hR
  obtain ⟨hT, hS, hC⟩ := hR
  refine c_PathPatcher_forget ⟨rfl, c_M_forget ⟨rfl, hT, ⟨0, Nat.zero_le _, rfl, rfl, rfl, fun i hi => absurd hi (Nat.not_lt_zero i)⟩, ?_, Or.inl rfl⟩⟩
  rcases hC.1 with h | ⟨h, hp⟩
  · exact Or.inl h
  · refine Or.inr ⟨h, hPC m _ (fun i k hi hk => ?_) hp⟩
    rw [up_ne (by omega)]
    by_cases e : i = 0
    · subst e
      rw [hk rfl]
      rfl
    · rw [up_ne e, up_ne (by omega), up_ne (by omega)]
end OPS
