/-! Characters of the two texts of names. -/
theorem h_charAt0 {xs : jx_Xs} {m : zM} {Q : Option Value → zM → Prop} {i : Nat} (h : i < 4) (g : Q (some (.int (nI (97 + i)))) m) : ez xs 127 0 (jx_ent 127 [.ref 1000000, .int (nI i)]) [] m Q := by
  have : i = 0 ∨ i = 1 ∨ i = 2 ∨ i = 3 := by omega
  rcases this with rfl | rfl | rfl | rfl
  · exact ⟨60, some (.int (nI 97)), z_S m, rfl, m, rfl, g⟩
  · exact ⟨60, some (.int (nI 98)), z_S m, rfl, m, rfl, g⟩
  · exact ⟨60, some (.int (nI 99)), z_S m, rfl, m, rfl, g⟩
  · exact ⟨60, some (.int (nI 100)), z_S m, rfl, m, rfl, g⟩
theorem h_charAt1 {xs : jx_Xs} {m : zM} {Q : Option Value → zM → Prop} {i : Nat} (h : i < 3) (g : Q (some (.int (nI (102 + i)))) m) : ez xs 127 0 (jx_ent 127 [.ref 1000001, .int (nI i)]) [] m Q := by
  have : i = 0 ∨ i = 1 ∨ i = 2 := by omega
  rcases this with rfl | rfl | rfl
  · exact ⟨60, some (.int (nI 102)), z_S m, rfl, m, rfl, g⟩
  · exact ⟨60, some (.int (nI 103)), z_S m, rfl, m, rfl, g⟩
  · exact ⟨60, some (.int (nI 104)), z_S m, rfl, m, rfl, g⟩
theorem vl_in {q b : Nat} (hq : q ≤ 6) (hb : b < 64) : ∃ a : Nat, a < 4 ∧ vl (nI q) (nI b) = nI a := by
  have h := z_all (n := 64) (p := fun b => (List.range 4).any fun a => decide (vl (nI q) (nI b) = nI a)) (z_all (n := 7) (p := fun q => (List.range 64).all fun b => (List.range 4).any fun a => decide (vl (nI q) (nI b) = nI a)) (by decide +kernel) (show q < 7 by omega)) hb
  obtain ⟨a, a1, a2⟩ := List.any_eq_true.mp h
  exact ⟨a, List.mem_range.mp a1, of_decide_eq_true a2⟩
