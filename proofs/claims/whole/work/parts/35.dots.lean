/-! dots: both sides -/
theorem up_and {m : zM} {i k a b : Nat} {x : Int32} (h : ¬ (a = i ∧ b = k)) : jj_up m i k x a b = m a b := by
  by_cases e : a = i
  · subst e
    exact up_k (fun e2 => h ⟨rfl, e2⟩)
  · exact up_ne e
theorem nI_p1 (j : Nat) : nI (j + 1) - 1 = nI j := nI_pred j
theorem last_of {m : zM} {j : Nat} (hj : j < 6) (k1 : m 36 1 = nI (j + 1)) (k2 : m 131 21 = nI (j + 1)) : m 36 1 - 1 = nI j ∧ m 131 21 - 1 = nI j ∧ (nI j).toNatClampNeg = j ∧ f_Script_isEmpty m = 0 ∧ f_Script_holds m (nI j) = 1 ∧ f_Script_endsInDots m = (if m (38 + 6 * j) 5 = 0 then 0 else 1) ∧ f_M_noLast m = (if m 154 j = 0 then 0 else 1) ∧ ¬ m 36 1 ≤ 0 ∧ ¬ m 131 21 = 0 := by
  have a1 : m 36 1 - 1 = nI j := by rw [k1]; exact nI_pred j
  have a2 : m 131 21 - 1 = nI j := by rw [k2]; exact nI_pred j
  have a3 : (nI j).toNatClampNeg = j := nI_clamp (by omega)
  have a4 : ¬ m 36 1 = 0 := by rw [k1]; exact nI_ne0 (by omega) (by omega)
  have a5 : f_Script_holds m (nI j) = 1 := by
    unfold f_Script_holds
    rw [if_neg (nI_pos (by omega)), k1, if_neg (nI_ge (by omega) (by omega))]
  have a6 : ¬ m 36 1 ≤ 0 := by rw [k1]; exact nI_nle (by omega) (by omega)
  have a7 : ¬ m 131 21 = 0 := by rw [k2]; exact nI_ne0 (by omega) (by omega)
  refine ⟨a1, a2, a3, ?_, a5, ?_, ?_, a6, a7⟩
  · unfold f_Script_isEmpty
    rw [if_neg a4]
  · unfold f_Script_endsInDots
    rw [if_neg a6, a1, a5, if_neg (by decide), a3]
  · unfold f_M_noLast
    rw [if_neg a7, a2, a3]
section OPS
variable {PC SC : zM → Prop} {xs : jx_Xs}
/-- what stays of the rest when only item j and the reference's rows 149 .. 163 at its places have changed -/
theorem rR_item {m M : zM} {j : Nat} (hj : j < 6) (k1 : m 36 1 = nI (j + 1)) (k2 : m 131 21 = nI (j + 1)) (k3 : m 36 2 = rU m (j + 1)) (k4 : ∀ i, i < j + 1 → rI m i) (hT : rT m) (hC : m 0 7 = 0 ∨ m 0 7 = 1 ∧ PC m) (hPC : ∀ m m' : zM, (∀ i k, i ≤ 28 → (i = 0 → k = 6) → m' i k = m i k) → PC m → PC m')
    (f9 : M 0 8 = 0) (fr : ∀ a b, (38 + 6 * j ≤ a → 43 + 6 * j < a) → (149 ≤ a → a ≤ 159 → b ≠ j) → (160 ≤ a → a ≤ 163 → 2 * j ≤ b → 2 * j + 1 < b) → (a = 0 → b ≠ 8) → M a b = m a b) (fu : M 149 j = m 149 j ∧ M 151 j = m 151 j ∧ M 152 j = m 152 j) (hI : rI M j) : rR PC SC M := by
  obtain ⟨n, hn, t1, t2, t3⟩ := hT
  refine ⟨⟨n, hn, ?_, ?_, fun i hi => ?_⟩, ⟨j + 1, by omega, ?_, ?_, ?_, fun i hi => ?_⟩, ?_, Or.inl f9⟩
  · exact (fr 1 1 (by omega) (by omega) (by omega) (by omega)).trans t1
  · exact (fr 131 0 (by omega) (by omega) (by omega) (by omega)).trans t2
  · obtain ⟨c, c1, c2, c3, c4⟩ := t3 i hi
    exact ⟨c, c1, c2, (fr 2 i (by omega) (by omega) (by omega) (by omega)).trans c3, (fr 132 i (by omega) (by omega) (by omega) (by omega)).trans c4⟩
  · exact (fr 36 1 (by omega) (by omega) (by omega) (by omega)).trans k1
  · exact (fr 131 21 (by omega) (by omega) (by omega) (by omega)).trans k2
  · rw [fr 36 2 (by omega) (by omega) (by omega) (by omega), k3]
    refine (rU_same1 _ (fun i hi => ?_)).symm
    by_cases e : i = j
    · subst e; exact fu
    · exact ⟨fr 149 i (by omega) (by omega) (by omega) (by omega), fr 151 i (by omega) (by omega) (by omega) (by omega), fr 152 i (by omega) (by omega) (by omega) (by omega)⟩
  · by_cases e : i = j
    · subst e; exact hI
    · refine rI_same1 (m := m) (fun a b h => ?_) (k4 i hi)
      unfold sI at h
      exact fr a b (by omega) (by omega) (by omega) (by omega)
  · rw [fr 0 7 (by omega) (by omega) (by omega) (by omega)]
    rcases hC with h | ⟨h, hp⟩
    · exact Or.inl h
    · exact Or.inr ⟨h, hPC m _ (fun i b hi hb => fr i b (by omega) (by omega) (by omega) (fun e => by rw [hb e]; omega)) hp⟩
theorem o_dots (hPC : ∀ m m' : zM, (∀ i k, i ≤ 28 → (i = 0 → k = 6) → m' i k = m i k) → PC m → PC m') (o f x y : Int32) : zo (rR PC SC) xs 99 104 [.int o, .int f, .int x, .int y] := by
  intro m hR
  have hR0 := hR
  obtain ⟨hT, ⟨k, k0, k1, k2, k3, k4⟩, hC⟩ := hR
  have hN : hN6 m := ⟨k, k0, k2⟩
  have hv0 : vp_in (0 : Int32) 6 := vp_in_nI (n := 0) (by omega) (by omega)
  match k, k0, k1, k2, k3, k4 with
  | 0, k0, k1, k2, k3, k4 =>
    have e1 : ¬ f_Script_isEmpty m = 0 := by unfold f_Script_isEmpty; rw [k1]; decide
    have e2 : ¬ f_M_noLast m = 0 := by unfold f_M_noLast; rw [if_pos (show m 131 21 = 0 from k2)]; decide
    have z2 : m 131 21 = 0 := k2
    apply c_PathPatcher_dots <;> intros <;> first | contradiction | skip
    refine ⟨0, rfl, ?_⟩
    apply c_M_dots <;> intros <;> first | contradiction | exact ⟨rfl, hR0⟩
  | j + 1, k0, k1, k2, k3, k4 =>
    have hj : j < 6 := by omega
    obtain ⟨a1, a2, a3, a4, a5, a6, a7, a8, a9⟩ := last_of hj k1 k2
    have hb : vp_in (nI j) 6 := vp_in_nI hj (by omega)
    have hb1 : vp_in (m 36 1 - 1) 6 := by rw [a1]; exact hb
    have hb2 : vp_in (m 131 21 - 1) 6 := by rw [a2]; exact hb
    have hh : ¬ f_Script_holds m (m 36 1 - 1) = 0 := by rw [a1, a5]; decide
    have hI := k4 j (by omega)
    have hd := hI.2.2.1
    have hcl : (m 36 1 - 1).toNatClampNeg = j := by rw [a1, a3]
    have hcl2 : (m 131 21 - 1).toNatClampNeg = j := by rw [a2, a3]
    have hs := valid_same (m := m) (o := o) (f := f) (x := x) (y := y)
    have hkn : f_Script_knowsUnknowns m o x y = 0 ↔ ¬ (f_M_names m o x y) &&& ((rNamed m) ^^^ (-1)) = 0 := by
      unfold f_Script_knowsUnknowns rNamed
      rw [names_same, k2, nI_clamp (by omega), ← k3]
      by_cases e : f_M_names m o x y &&& (m 36 2 ^^^ -1) = 0
      · rw [if_pos e]; exact ⟨fun h => absurd h (by decide), fun h => absurd e h⟩
      · rw [if_neg e]; exact ⟨fun _ => e, fun _ => rfl⟩
    by_cases hgap : m 154 j = 0
    · -- the last item has no dots yet
      have e1 : f_Script_endsInDots m = 0 := by rw [a6, hd.1, hgap]; rfl
      have e2 : f_M_noLast m = 0 := by rw [a7, if_pos hgap]
      have no : (¬ o = -1 ∧ (f_M_valid m o f x y = 0 ∨ ¬ (f_M_names m o x y) &&& ((rNamed m) ^^^ (-1)) = 0)) → ∃ v, (some (Value.int 0) = some (Value.int v)) ∧ ez xs 104 0 (jx_ent 104 [.ref 131, .int o, .int f, .int x, .int y]) [] m (fun r2 m2 => r2 = some (.int v) ∧ rR PC SC m2) := by
        intro hno
        obtain ⟨n1, n2⟩ := hno
        refine ⟨0, rfl, ?_⟩
        apply c_M_dots <;> intros <;> first | contradiction | exact hb2 | exact hN | exact ⟨rfl, hR0⟩ | (exfalso; rcases n2 with n2 | n2 <;> contradiction)
      have yes : (o = -1 ∨ (¬ f_M_valid m o f x y = 0 ∧ (f_M_names m o x y) &&& ((rNamed m) ^^^ (-1)) = 0)) → ∀ M : zM, M (40 + 6 * j) 0 = o → M (40 + 6 * j) 1 = f_Pattern_describe_u1 m o f x y (40 + 6 * j) → M (40 + 6 * j) 2 = f_Pattern_describe_u2 m o f x y (40 + 6 * j) → M (40 + 6 * j) 3 = f_Pattern_describe_u3 m o f x y (40 + 6 * j) → M (38 + 6 * j) 5 = 1 → M 0 8 = 0 → (∀ a b, a ≠ 40 + 6 * j → ¬ (a = 38 + 6 * j ∧ b = 5) → ¬ (a = 0 ∧ b = 8) → M a b = m a b) →
          ez xs 104 0 (jx_ent 104 [.ref 131, .int o, .int f, .int x, .int y]) [] M (fun r2 m2 => r2 = some (.int 1) ∧ rR PC SC m2) := by
        intro hy M f0 f1 f2 f3 f4 f5 fr
        have q1 : M 131 21 = nI (j + 1) := (fr 131 21 (by omega) (by omega) (by omega)).trans k2
        have q2 : (M 131 21 - 1).toNatClampNeg = j := by rw [q1, nI_p1, a3]
        have q3 : vp_in (M 131 21 - 1) 6 := by rw [q1, nI_p1]; exact hb
        have q4 : f_M_noLast M = 0 := by
          unfold f_M_noLast
          rw [q1, if_neg (nI_ne0 (by omega) (by omega)), nI_p1, a3, fr 154 j (by omega) (by omega) (by omega), if_pos hgap]
        have q5 : rNamed M = rNamed m := by
          unfold rNamed
          rw [q1, k2]
          exact rU_same1 _ (fun i hi => ⟨fr 149 i (by omega) (by omega) (by omega), fr 151 i (by omega) (by omega) (by omega), fr 152 i (by omega) (by omega) (by omega)⟩)
        have q6 : ∀ a b c, f_M_names M a b c = f_M_names m a b c := fun _ _ _ => rfl
        have q7 : f_M_valid M o f x y = f_M_valid m o f x y := rfl
        have hNM : hN6 M := ⟨j + 1, by omega, q1⟩
        have fin : (fun r2 m2 => r2 = some (Value.int 1) ∧ rR PC SC m2) (some (.int 1)) (jj_up (jj_up (jj_up (jj_up (jj_up M 154 j (vp_nar .boolean 1)) 155 j o) 156 j f) 157 j x) 158 j y) := by
          rw [z_zz.2]
          refine ⟨rfl, rR_item hj k1 k2 k3 k4 hT hC.1 hPC ?_ (fun a b h1 h2 h3 h4 => ?_) ?_ ?_⟩
          · simp (disch := omega) only [up_ne]; exact f5
          · have key : ∀ (m0 : zM) (c : Nat) (z : Int32), ¬ (a = c ∧ b = j) → jj_up m0 c j z a b = m0 a b := fun m0 c z hh => by
              by_cases e : a = c
              · subst e
                exact up_k (fun e2 => hh ⟨rfl, e2⟩)
              · exact up_ne e
            rw [key _ 158 _ (by omega), key _ 157 _ (by omega), key _ 156 _ (by omega), key _ 155 _ (by omega), key _ 154 _ (by omega)]
            exact fr a b (by omega) (by omega) (by omega)
          · simp (disch := omega) only [up_ne]
            exact ⟨fr 149 j (by omega) (by omega) (by omega), fr 151 j (by omega) (by omega) (by omega), fr 152 j (by omega) (by omega) (by omega)⟩
          · obtain ⟨g1, g2, g3, g4, ⟨a, b1, b2, b3, b4, b5⟩, g6⟩ := hI
            unfold rI
            simp (disch := omega) only [up_ne, up_eq]
            rw [fr 149 j (by omega) (by omega) (by omega), fr 150 j (by omega) (by omega) (by omega), fr 151 j (by omega) (by omega) (by omega), fr 152 j (by omega) (by omega) (by omega), fr 153 j (by omega) (by omega) (by omega), fr 159 j (by omega) (by omega) (by omega), fr (38 + 6 * j) 4 (by omega) (by omega) (by omega), fr (38 + 6 * j) 3 (by omega) (by omega) (by omega)]
            refine ⟨rP_same (m := m) (fun z => ?_) g1, g2, ⟨f4, Or.inr trivial⟩, g4, ⟨a, b1, b2, b3, b4, fun i hi => ?_⟩, fun _ => ?_⟩
            · simp (disch := omega) only [up_ne]
              exact fr (39 + 6 * j) z (by omega) (by omega) (by omega)
            · rw [fr 160 _ (by omega) (by omega) (by omega), fr 161 _ (by omega) (by omega) (by omega), fr 162 _ (by omega) (by omega) (by omega), fr 163 _ (by omega) (by omega) (by omega)]
              refine ⟨rP_same (m := m) (fun z => ?_) (b5 i hi).1, (b5 i hi).2⟩
              simp (disch := omega) only [up_ne]
              exact fr (42 + 6 * j + i) z (by omega) (by omega) (by omega)
            · rcases hy with hy | hy
              · left
                exact ⟨hy, f0.trans hy⟩
              · right
                refine rP_put (m := m) hy.1 ?_ ?_ ?_ ?_
                · simp (disch := omega) only [up_ne]; exact f0
                · simp (disch := omega) only [up_ne]; exact f1
                · simp (disch := omega) only [up_ne]; exact f2
                · simp (disch := omega) only [up_ne]; exact f3
        apply c_M_dots <;> intros <;> first | contradiction | exact q3 | exact hNM | (rw [q2]; exact fin) | skip
        all_goals exfalso
        all_goals simp only [q5, q6, q7] at *
        all_goals rcases hy with hy | hy <;> first | contradiction | exact absurd hy.1 (by assumption) | exact absurd hy.2 (by assumption) | exact absurd (by assumption) hy.1
      apply c_PathPatcher_dots <;> intros <;> first | contradiction | exact hv0 | exact hb1 | skip
      · rename_i h1 h2 h3 h4
        rw [hcl]
        refine ⟨1, rfl, yes (Or.inl h3) _ ?_ ?_ ?_ ?_ ?_ ?_ (fun p q r1 r2 r3 => by rw [up_and r3, up_and r2, up_ne r1, up_ne r1, up_ne r1, up_ne r1])⟩ <;> simp (disch := omega) only [up_ne, up_k, up_eq]
      · rename_i h1 h2 h3 h4
        exact no ⟨h3, Or.inl (by rw [← hs]; exact h4)⟩
      · rename_i h1 h2 h3 h4 h5 h6
        rw [hcl]
        refine ⟨1, rfl, yes (Or.inr ⟨by rw [← hs]; exact h4, Decidable.of_not_not (mt hkn.mpr h5)⟩) _ ?_ ?_ ?_ ?_ ?_ ?_ (fun p q r1 r2 r3 => by rw [up_and r3, up_and r2, up_ne r1, up_ne r1, up_ne r1, up_ne r1])⟩ <;> simp (disch := omega) only [up_ne, up_k, up_eq]
      · rename_i h1 h2 h3 h4 h5
        exact no ⟨h3, Or.inr (hkn.mp h5)⟩
    · have hgap1 : m 154 j = 1 := hd.2.resolve_left hgap
      have e1 : ¬ f_Script_endsInDots m = 0 := by rw [a6, hd.1, if_neg hgap]; decide
      have e2 : ¬ f_M_noLast m = 0 := by rw [a7, if_neg hgap]; decide
      apply c_PathPatcher_dots <;> intros <;> first | contradiction | exact hv0 | exact hb1 | skip
      refine ⟨0, rfl, ?_⟩
      apply c_M_dots <;> intros <;> first | contradiction | exact hb2 | exact ⟨rfl, hR0⟩
end OPS
