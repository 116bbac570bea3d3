/-! Patterns and items. -/
theorem i_lt {a b : Nat} {x : Int32} (hb : b = a + 1) (ha : a < 1000) : nI a < x ↔ nI b ≤ x := by
  rw [Int32.lt_iff_toInt_lt, Int32.le_iff_toInt_le, nI_toInt (by omega), nI_toInt (by omega)]
  omega
theorem i_le {a b : Nat} {x : Int32} (hb : b = a + 1) (ha : a < 1000) : x ≤ nI a ↔ ¬ nI b ≤ x := by
  rw [Int32.le_iff_toInt_le, Int32.le_iff_toInt_le, nI_toInt (by omega), nI_toInt (by omega)]
  omega
theorem valid_same {m : zM} {o f x y : Int32} : f_Pattern_isSound m o f x y = f_M_valid m o f x y := by
  unfold f_Pattern_isSound f_M_valid f_Pattern_isFunction f_Pattern_isOperand
  have e6 : ∀ z : Int32, (6 : Int32) < z ↔ 7 ≤ z := fun z => i_lt (a := 6) (b := 7) rfl (by omega)
  have e2 : (2 : Int32) < f ↔ 3 ≤ f := i_lt (a := 2) (b := 3) rfl (by omega)
  have e3 : (3 : Int32) < o ↔ 4 ≤ o := i_lt (a := 3) (b := 4) rfl (by omega)
  have e4 : o ≤ (3 : Int32) ↔ ¬ 4 ≤ o := i_le (a := 3) (b := 4) rfl (by omega)
  simp only [e6, e2, e3, e4]
  by_cases h1 : o < 0
  · simp only [if_pos h1]
  · by_cases h2 : 4 ≤ o
    · simp only [if_neg h1, h2, not_true, if_false, if_true]
    · simp only [if_neg h1, h2, not_false_eq_true, if_false, if_true]
      by_cases h3 : o = 0 <;> by_cases h4 : f < 0 <;> by_cases h5 : 3 ≤ f <;> by_cases h6 : x < 0 <;> by_cases h7 : 7 ≤ x <;> by_cases h8 : o = 1 <;> by_cases h9 : y < 0 <;> by_cases h10 : 7 ≤ y <;> simp [h3, h4, h5, h6, h7, h8, h9, h10]
theorem valid_of {m : zM} {o f x y : Int32} (h : ¬ f_M_valid m o f x y = 0) : ∃ p q : Nat, p ≤ 3 ∧ q ≤ 6 ∧ o = nI p ∧ x = nI q ∧ (p = 0 → ∃ g : Nat, g ≤ 2 ∧ f = nI g) ∧ (p = 1 → ∃ g : Nat, g ≤ 6 ∧ y = nI g) := by
  unfold f_M_valid at h
  by_cases h1 : o < 0
  · rw [if_pos h1] at h; exact absurd rfl h
  rw [if_neg h1] at h
  by_cases h2 : 3 < o
  · rw [if_pos h2] at h; exact absurd rfl h
  rw [if_neg h2] at h
  by_cases h3 : x < 0
  · rw [if_pos h3] at h; exact absurd rfl h
  rw [if_neg h3] at h
  by_cases h4 : 6 < x
  · rw [if_pos h4] at h; exact absurd rfl h
  rw [if_neg h4] at h
  obtain ⟨p, hp, rfl⟩ := nI_of2 (M := 3) (n := 3) (by decide) h1 (Int32.not_lt.mp h2)
  obtain ⟨q, hq, rfl⟩ := nI_of2 (M := 6) (n := 6) (by decide) h3 (Int32.not_lt.mp h4)
  refine ⟨p, q, hp, hq, rfl, rfl, fun e => ?_, fun e => ?_⟩
  · subst e
    rw [if_pos (show nI 0 = 0 from rfl)] at h
    by_cases h5 : f < 0
    · rw [if_pos h5] at h; exact absurd rfl h
    rw [if_neg h5] at h
    by_cases h6 : 2 < f
    · rw [if_pos h6] at h; exact absurd rfl h
    exact nI_of2 (M := 2) (n := 2) (by decide) h5 (Int32.not_lt.mp h6)
  · subst e
    rw [if_neg (show ¬ nI 1 = 0 by decide), if_pos (show nI 1 = 1 from rfl)] at h
    by_cases h5 : y < 0
    · rw [if_pos h5] at h; exact absurd rfl h
    rw [if_neg h5] at h
    by_cases h6 : 6 < y
    · rw [if_pos h6] at h; exact absurd rfl h
    exact nI_of2 (M := 6) (n := 6) (by decide) h5 (Int32.not_lt.mp h6)
/-- cells of item i, on both sides -/
def sI (i a k : Nat) : Prop := (38 + 6 * i ≤ a ∧ a ≤ 43 + 6 * i) ∨ (149 ≤ a ∧ a ≤ 159 ∧ k = i) ∨ (160 ≤ a ∧ a ≤ 163 ∧ 2 * i ≤ k ∧ k ≤ 2 * i + 1)
theorem rI_same1 {m m' : zM} {i : Nat} (h : ∀ a k, sI i a k → m' a k = m a k) (g : rI m i) : rI m' i := by
  have hm : ∀ a, 149 ≤ a → a ≤ 159 → m' a i = m a i := fun a h1 h2 => h a i (Or.inr (Or.inl ⟨h1, h2, rfl⟩))
  have hc : ∀ a, 38 + 6 * i ≤ a → a ≤ 43 + 6 * i → ∀ k, m' a k = m a k := fun a h1 h2 k => h a k (Or.inl ⟨h1, h2⟩)
  have hn : ∀ a, 160 ≤ a → a ≤ 163 → ∀ j, j < 2 → m' a (2 * i + j) = m a (2 * i + j) := fun a h1 h2 j hj => h a _ (Or.inr (Or.inr ⟨h1, h2, by omega, by omega⟩))
  obtain ⟨g1, g2, g3, g4, ⟨a, a1, a2, a3, a4, a5⟩, g6⟩ := g
  unfold rI
  rw [hm 149 (by omega) (by omega), hm 150 (by omega) (by omega), hm 151 (by omega) (by omega), hm 152 (by omega) (by omega), hm 153 (by omega) (by omega), hm 154 (by omega) (by omega), hm 155 (by omega) (by omega), hm 156 (by omega) (by omega), hm 157 (by omega) (by omega), hm 158 (by omega) (by omega), hm 159 (by omega) (by omega),
    hc (38 + 6 * i) (by omega) (by omega), hc (38 + 6 * i) (by omega) (by omega), hc (38 + 6 * i) (by omega) (by omega), hc (40 + 6 * i) (by omega) (by omega)]
  refine ⟨rP_same (hc _ (by omega) (by omega)) g1, g2, g3, g4, ⟨a, a1, a2, a3, a4, fun j hj => ?_⟩, fun e => ?_⟩
  · rw [hn 160 (by omega) (by omega) j (by omega), hn 161 (by omega) (by omega) j (by omega), hn 162 (by omega) (by omega) j (by omega), hn 163 (by omega) (by omega) j (by omega)]
    exact ⟨rP_same (hc _ (by omega) (by omega)) (a5 j hj).1, (a5 j hj).2⟩
  · rcases g6 e with q | q
    · exact Or.inl q
    · exact Or.inr (rP_same (hc _ (by omega) (by omega)) q)
theorem rU_same1 {m m' : zM} : ∀ (k : Nat), (∀ i, i < k → m' 149 i = m 149 i ∧ m' 151 i = m 151 i ∧ m' 152 i = m 152 i) → rU m' k = rU m k := by
  intro k
  induction k with
  | zero => intro _; rfl
  | succ k ih =>
    intro h
    have hf : ∀ o x y, f_M_names m' o x y = f_M_names m o x y := fun o x y => rfl
    obtain ⟨h1, h2, h3⟩ := h k (by omega)
    rw [rU, rU, ih (fun i hi => h i (by omega)), hf, h1, h2, h3]
theorem names_same {m : zM} {o x y : Int32} : f_Pattern_unknownsIn m o x y = f_M_names m o x y := by
  have hb : ∀ z : Int32, f_Pattern_unknownBit m z = f_M_mark m z := fun z => by
    unfold f_Pattern_unknownBit f_M_mark
    by_cases h : z < 4
    · rw [if_pos h, if_neg (Int32.not_le.mpr h)]
    · rw [if_neg h, if_pos (Int32.not_lt.mp h)]
  unfold f_Pattern_unknownsIn f_M_names
  rw [hb, hb]
  have h0 : ∀ z : Int32, z ||| 0 = z := fun z => by
    apply Int32.toBitVec_inj.mp
    simp
  rw [h0]
/-- a pattern written down is the reference's four numbers -/
theorem rP_put {m M : zM} {r : Nat} {o f x y : Int32} (h : ¬ f_M_valid m o f x y = 0) (h0 : M r 0 = o) (h1 : M r 1 = f_Pattern_describe_u1 m o f x y r) (h2 : M r 2 = f_Pattern_describe_u2 m o f x y r) (h3 : M r 3 = f_Pattern_describe_u3 m o f x y r) : rP M r o f x y := by
  obtain ⟨p, q, hp, hq, e1, e2, e3, e4⟩ := valid_of h
  have hn : ¬ o = -1 := by
    rw [e1]
    match p, hp with
    | 0, _ => decide
    | 1, _ => decide
    | 2, _ => decide
    | 3, _ => decide
  have k0 : o = 0 ↔ p = 0 := by rw [e1]; exact nI_eq (b := 0) (by omega) (by omega)
  have k1 : o = 1 ↔ p = 1 := by rw [e1]; exact nI_eq (b := 1) (by omega) (by omega)
  unfold f_Pattern_describe_u1 at h1
  unfold f_Pattern_describe_u2 at h2
  unfold f_Pattern_describe_u3 at h3
  simp only [hn, if_false, ite_self] at h1 h2 h3
  refine ⟨p, q, hp, hq, e1, e2, h0, h2, fun e => ⟨e3 e, by rw [h1, if_pos (k0.mpr e)]⟩, fun e => by rw [h1, if_neg (fun z => e (k0.mp z))], fun e => ⟨e4 e, by rw [h3, if_pos (k1.mpr e)]⟩, fun e => by rw [h3, if_neg (fun z => e (k1.mp z))]⟩
