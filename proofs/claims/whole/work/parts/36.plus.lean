/-! plus: both sides -/
section OPS
variable {PC SC : zM → Prop} {xs : jx_Xs}
set_option maxHeartbeats 8000000 in
theorem o_plus (hPC : ∀ m m' : zM, (∀ i k, i ≤ 28 → (i = 0 → k = 6) → m' i k = m i k) → PC m → PC m') (o f x y : Int32) : zo (rR PC SC) xs 107 108 [.int o, .int f, .int x, .int y] := by
  intro m hR
  have hR0 := hR
  obtain ⟨hT, ⟨k, k0, k1, k2, k3, k4⟩, hC⟩ := hR
  have hN : hN6 m := ⟨k, k0, k2⟩
  have hv0 : vp_in (0 : Int32) 6 := vp_in_nI (n := 0) (by omega) (by omega)
  match k, k0, k1, k2, k3, k4 with
  | 0, k0, k1, k2, k3, k4 =>
    have e1 : ¬ f_Script_isEmpty m = 0 := by unfold f_Script_isEmpty; rw [k1]; decide
    have e2 : ¬ f_M_noLast m = 0 := by unfold f_M_noLast; rw [if_pos (show m 131 21 = 0 from k2)]; decide
    have z2 : m 131 21 = 0 := k2
    apply c_PathPatcher_plus <;> intros <;> first | contradiction | skip
    refine ⟨0, rfl, ?_⟩
    apply c_M_plus <;> intros <;> first | contradiction | exact ⟨rfl, hR0⟩
  | j + 1, k0, k1, k2, k3, k4 =>
    have hj : j < 6 := by omega
    obtain ⟨a1, a2, a3, a4, a5, a6, a7, a8, a9⟩ := last_of hj k1 k2
    have hb : vp_in (nI j) 6 := vp_in_nI hj (by omega)
    have hb1 : vp_in (m 36 1 - 1) 6 := by rw [a1]; exact hb
    have hb2 : vp_in (m 131 21 - 1) 6 := by rw [a2]; exact hb
    have hh : ¬ f_Script_holds m (m 36 1 - 1) = 0 := by rw [a1, a5]; decide
    have hI := k4 j (by omega)
    have hd := hI.2.2.1
    have hcl : (m 36 1 - 1).toNatClampNeg = j := by rw [a1, a3]
    have hcl2 : (m 131 21 - 1).toNatClampNeg = j := by rw [a2, a3]
    have hs := valid_same (m := m) (o := o) (f := f) (x := x) (y := y)
    have hkn : f_Script_knowsUnknowns m o x y = 0 ↔ ¬ (f_M_names m o x y) &&& ((rNamed m) ^^^ (-1)) = 0 := by
      unfold f_Script_knowsUnknowns rNamed
      rw [names_same, k2, nI_clamp (by omega), ← k3]
      by_cases e : f_M_names m o x y &&& (m 36 2 ^^^ -1) = 0
      · rw [if_pos e]; exact ⟨fun h => absurd h (by decide), fun h => absurd e h⟩
      · rw [if_neg e]; exact ⟨fun _ => e, fun _ => rfl⟩
    obtain ⟨c, c1, c2, c3, c4, c5⟩ := hI.2.2.2.2.1
    have hkind : m (39 + 6 * j) 0 = m 149 j := by
      obtain ⟨p, q, hp, hq, p1, p2, p3, p4, p5⟩ := hI.1
      exact p3
    have ht2 : (2 : Int32) ≤ m (38 + 6 * j) 3 ↔ c = 2 := by
      rw [c2]
      refine (nI_leI (a := 2) (by omega) (by omega)).trans ⟨fun h => by omega, fun h => by omega⟩
    have h159 : m 159 j = 2 ↔ c = 2 := by rw [c3]; exact nI_eq (b := 2) (by omega) (by omega)
    have htn : f_Item_takesNew m j = 0 ↔ (m 149 j = 3 ∨ m 159 j = 2) := by
      unfold f_Item_takesNew
      rw [hkind, h159]
      by_cases e : m 149 j = 3
      · rw [if_pos e]; exact ⟨fun _ => Or.inl e, fun _ => rfl⟩
      · rw [if_neg e]
        by_cases e2 : (2 : Int32) ≤ m (38 + 6 * j) 3
        · rw [if_pos e2]; exact ⟨fun _ => Or.inr (ht2.mp e2), fun _ => rfl⟩
        · rw [if_neg e2]; exact ⟨fun h => absurd h (by decide), fun h => absurd (h.resolve_left e) (fun z => e2 (ht2.mpr z))⟩
    have hcc : (m (38 + 6 * j) 3).toNatClampNeg = c := by rw [c2, nI_clamp (by omega)]
    have hbc : ¬ (2 : Int32) ≤ m (38 + 6 * j) 3 → vp_in (m (38 + 6 * j) 3) 2 := fun h => by
      rw [c2]
      exact vp_in_nI (by have := mt ht2.mpr h; omega) (by omega)
    by_cases hgap : m 154 j = 0
    · have e1 : f_Script_endsInDots m = 0 := by rw [a6, hd.1, hgap]; rfl
      have e2 : f_M_noLast m = 0 := by rw [a7, if_pos hgap]
      have bnd : ¬ m 159 j = 2 → vp_in (((2 : Int32) * (m 131 21 - 1)) + m 159 (m 131 21 - 1).toNatClampNeg) 12 := fun h => by
        rw [hcl2, a2, c3, show (2 : Int32) = nI 2 from rfl, pk_mul, nI_add]
        exact vp_in_nI (by have := mt h159.mpr h; omega) (by omega)
      have no : (m 149 j = 3 ∨ m 159 j = 2 ∨ o = 3 ∨ f_M_valid m o f x y = 0 ∨ ¬ (f_M_names m o x y) &&& ((rNamed m) ^^^ (-1)) = 0) → ∃ v, (some (Value.int 0) = some (Value.int v)) ∧ ez xs 108 0 (jx_ent 108 [.ref 131, .int o, .int f, .int x, .int y]) [] m (fun r2 m2 => r2 = some (.int v) ∧ rR PC SC m2) := by
        intro hno
        refine ⟨0, rfl, ?_⟩
        apply c_M_plus <;> intros <;> first | exact hb2 | exact hN | exact ⟨rfl, hR0⟩ | (exfalso; simp only [hcl2] at *; rcases hno with n | n | n | n | n <;> contradiction) | (refine bnd ?_; simp only [hcl2] at *; assumption)
      have yes : ¬ m 149 j = 3 → ¬ m 159 j = 2 → ¬ o = 3 → ¬ f_M_valid m o f x y = 0 → (f_M_names m o x y) &&& ((rNamed m) ^^^ (-1)) = 0 → ∀ M : zM, M (42 + 6 * j + c) 0 = o → M (42 + 6 * j + c) 1 = f_Pattern_describe_u1 m o f x y (42 + 6 * j + c) → M (42 + 6 * j + c) 2 = f_Pattern_describe_u2 m o f x y (42 + 6 * j + c) → M (42 + 6 * j + c) 3 = f_Pattern_describe_u3 m o f x y (42 + 6 * j + c) → M (38 + 6 * j) 3 = nI (c + 1) → M 0 8 = 0 → (∀ a b, a ≠ 42 + 6 * j + c → ¬ (a = 38 + 6 * j ∧ b = 3) → ¬ (a = 0 ∧ b = 8) → M a b = m a b) →
          ez xs 108 0 (jx_ent 108 [.ref 131, .int o, .int f, .int x, .int y]) [] M (fun r2 m2 => r2 = some (.int 1) ∧ rR PC SC m2) := by
        intro y1 y2 y3 y4 y5 M f0 f1 f2 f3 f4 f5 fr
        have hc : c < 2 := by have := mt h159.mpr y2; omega
        have q1 : M 131 21 = nI (j + 1) := (fr 131 21 (by omega) (by omega) (by omega)).trans k2
        have q0 : M 131 21 - 1 = nI j := by rw [q1, nI_p1]
        have q2 : (M 131 21 - 1).toNatClampNeg = j := by rw [q0, a3]
        have q3 : vp_in (M 131 21 - 1) 6 := by rw [q0]; exact hb
        have q4 : f_M_noLast M = 0 := by
          unfold f_M_noLast
          rw [q1, if_neg (nI_ne0 (by omega) (by omega)), nI_p1, a3, fr 154 j (by omega) (by omega) (by omega), if_pos hgap]
        have q5 : rNamed M = rNamed m := by
          unfold rNamed
          rw [q1, k2]
          exact rU_same1 _ (fun i hi => ⟨fr 149 i (by omega) (by omega) (by omega), fr 151 i (by omega) (by omega) (by omega), fr 152 i (by omega) (by omega) (by omega)⟩)
        have q6 : ∀ a b c, f_M_names M a b c = f_M_names m a b c := fun _ _ _ => rfl
        have q7 : f_M_valid M o f x y = f_M_valid m o f x y := rfl
        have q8 : M 159 j = nI c := (fr 159 j (by omega) (by omega) (by omega)).trans c3
        have q9 : M 149 j = m 149 j := fr 149 j (by omega) (by omega) (by omega)
        have q10 : ((2 : Int32) * (M 131 21 - 1)) + M 159 j = nI (2 * j + c) := by rw [q0, q8, show (2 : Int32) = nI 2 from rfl, pk_mul, nI_add]
        have q10b : ((2 : Int32) * (M 131 21 - 1)) + nI c = nI (2 * j + c) := by rw [← q10, q8]
        have q11 : (nI (2 * j + c)).toNatClampNeg = 2 * j + c := nI_clamp (by omega)
        have q12 : vp_in (nI (2 * j + c)) 12 := vp_in_nI (by omega) (by omega)
        have hNM : hN6 M := ⟨j + 1, by omega, q1⟩
        have y2' : ¬ nI c = 2 := by rw [← c3]; exact y2
        have fin : rR PC SC (jj_up (jj_up (jj_up (jj_up (jj_up M 160 (2 * j + c) o) 161 (2 * j + c) f) 162 (2 * j + c) x) 163 (2 * j + c) y) 159 j (nI (c + 1))) := by
          refine rR_item hj k1 k2 k3 k4 hT hC.1 hPC ?_ (fun a b h1 h2 h3 h4 => ?_) ?_ ?_
          · simp (disch := omega) only [up_ne]; exact f5
          · rw [up_and (by omega), up_and (by omega), up_and (by omega), up_and (by omega), up_and (by omega)]
            exact fr a b (by omega) (by omega) (by omega)
          · simp (disch := omega) only [up_ne]
            exact ⟨q9, fr 151 j (by omega) (by omega) (by omega), fr 152 j (by omega) (by omega) (by omega)⟩
          · obtain ⟨g1, g2, g3, g4, -, g6⟩ := hI
            unfold rI
            simp (disch := omega) only [up_ne, up_eq]
            rw [q9, fr 150 j (by omega) (by omega) (by omega), fr 151 j (by omega) (by omega) (by omega), fr 152 j (by omega) (by omega) (by omega), fr 153 j (by omega) (by omega) (by omega), fr 154 j (by omega) (by omega) (by omega), fr (38 + 6 * j) 4 (by omega) (by omega) (by omega), fr (38 + 6 * j) 5 (by omega) (by omega) (by omega)]
            refine ⟨rP_same (m := m) (fun z => ?_) g1, g2, g3, g4, ⟨c + 1, by omega, f4, rfl, fun e => absurd e y1, fun i hi => ?_⟩, fun e => absurd (hgap.symm.trans e) (by decide)⟩
            · simp (disch := omega) only [up_ne]
              exact fr (39 + 6 * j) z (by omega) (by omega) (by omega)
            · by_cases e : i = c
              · subst e
                simp (disch := omega) only [up_ne, up_eq]
                refine ⟨rP_put (m := m) y4 ?_ ?_ ?_ ?_, y3⟩
                · simp (disch := omega) only [up_ne]; exact f0
                · simp (disch := omega) only [up_ne]; exact f1
                · simp (disch := omega) only [up_ne]; exact f2
                · simp (disch := omega) only [up_ne]; exact f3
              · have e2 : 2 * j + i ≠ 2 * j + c := by omega
                simp (disch := omega) only [up_ne, up_k]
                rw [fr 160 _ (by omega) (by omega) (by omega), fr 161 _ (by omega) (by omega) (by omega), fr 162 _ (by omega) (by omega) (by omega), fr 163 _ (by omega) (by omega) (by omega)]
                refine ⟨rP_same (m := m) (fun z => ?_) (c5 i (by omega)).1, (c5 i (by omega)).2⟩
                simp (disch := omega) only [up_ne]
                exact fr (42 + 6 * j + i) z (by omega) (by omega) (by omega)
        apply c_M_plus
        all_goals try simp only [q2, q10, q10b, q11, q8, q9, q5, q6, q7, q4]
        all_goals intros
        all_goals first | contradiction | exact q3 | exact hNM | exact q12 | skip
        refine ⟨by first | rfl | trivial, ?_⟩
        first | exact fin | (simp (disch := omega) only [up_ne, q8, nI_1]; exact fin)
      apply c_PathPatcher_plus <;> intros <;> first | contradiction | exact hv0 | exact hb1 | skip
      all_goals try simp only [hcl, hcc]
      all_goals try simp only [hcl] at *
      all_goals first
        | exact no (Or.inr (Or.inr (Or.inl (by assumption))))
        | exact no (Or.inr (Or.inr (Or.inr (Or.inl (by rw [← hs]; assumption)))))
        | exact no (Or.inr (Or.inr (Or.inr (Or.inr (hkn.mp (by assumption))))))
        | exact no ((htn.mp (by assumption)).elim Or.inl (fun h => Or.inr (Or.inl h)))
        | exact absurd (htn.mpr (Or.inr (h159.mpr (ht2.mp (by assumption))))) (by assumption)
        | exact hbc (by assumption)
        | skip
      have ht : ¬ f_Item_takesNew m j = 0 := by assumption
      have n3 : ¬ o = 3 := by assumption
      have hv : ¬ f_M_valid m o f x y = 0 := by rw [← hs]; assumption
      have hkk : ¬ f_Script_knowsUnknowns m o x y = 0 := by assumption
      have hc2 : c < 2 := by have := mt (fun e : c = 2 => htn.mpr (Or.inr (h159.mpr e))) ht; omega
      refine ⟨1, rfl, yes (fun e => ht (htn.mpr (Or.inl e))) (fun e => ht (htn.mpr (Or.inr e))) n3 hv (Decidable.of_not_not (mt hkn.mpr hkk)) _ ?_ ?_ ?_ ?_ ?_ ?_ (fun p q r1 r2 r3 => by rw [up_and r3, up_and r2, up_ne r1, up_ne r1, up_ne r1, up_ne r1])⟩ <;> simp (disch := omega) only [up_ne, up_k, up_eq, c2, nI_1]
    · have e1 : ¬ f_Script_endsInDots m = 0 := by rw [a6, hd.1, if_neg hgap]; decide
      have e2 : ¬ f_M_noLast m = 0 := by rw [a7, if_neg hgap]; decide
      apply c_PathPatcher_plus <;> intros <;> first | contradiction | exact hv0 | exact hb1 | skip
      refine ⟨0, rfl, ?_⟩
      apply c_M_plus <;> intros <;> first | contradiction | exact hb2 | exact ⟨rfl, hR0⟩
end OPS
