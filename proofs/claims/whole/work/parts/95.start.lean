/-! All contracts; what holds at the start; the law's loop. -/
def z_Rel (m : zM) : Prop := rR PCd SCd m ∧ jC (z_S m)
theorem z_ops : z_Ops z_Rel := ⟨fun xs v => zo_C (fun m h _ => o_type v m h), fun xs => zov_C o_clear, fun xs => zo_C (fun m h _ => o_length m h), fun xs v => zo_C (fun m h _ => o_at v m h), fun xs => zo_C (fun m h _ => o_nodes hSCd m h), fun xs a b => zo_C (fun m h _ => o_edge hSCd a b m h), fun xs a => zo_C (fun m h _ => o_begins hSCd a m h), fun xs a b c d => zo_C (fun m h _ => o_item hPCd (Or.inl rfl) a b c d m h), fun xs a b c d => zo_C (fun m h _ => o_item hPCd (Or.inr rfl) a b c d m h), fun xs a b c d => zo_C (fun m h _ => o_dots hPCd a b c d m h), fun xs a b c d => zo_C (fun m h _ => o_plus hPCd a b c d m h), fun xs => zov_C (o_forget hPCd), fun xs => zo_C (fun m h hc => o_matches h hc), fun xs v => zo_C (fun m h hc => o_match v h hc), fun xs a b => zo_C (fun m h hc => o_hit a b h hc), fun xs => zo_C (fun m h hc => o_apply h hc)⟩
theorem z_C0 : jC z_s0 := fun i h1 _ _ => absurd (show (9 : Nat) = 1 from h1) (by decide)
theorem run_C2 {xs : jx_Xs} {f y pc : Nat} {L : jx_L} {st : List Value} {σ τ : jj_S} {u : Option Value} (h : jx_run xs f y pc L st σ = some (u, τ)) (g : jC σ) : jC τ := run_C f h g
theorem z_Cs1 : jC z_s1 := by
  unfold z_s1
  exact jC_nw z_C0
theorem z_C1 : jC z_t1 := by
  have h := z_c1x z_x0
  generalize z_t1 = τ at h
  exact run_C2 h z_Cs1
theorem z_C2 : jC z_t2 := by
  have h := z_c2x z_x0
  have g := jC_nw (q := (0, 12, 46)) z_C1
  generalize jj_nw z_t1 (0, 12, 46) = σ at h g
  generalize z_t2 = τ at h
  exact run_C2 h g
theorem z_CSu {u : jj_S} (g : jC u) (hsh : ∀ i, i < 172 → z_H i = u.2.2.1 i) : jC (z_S u.1) := by
  intro i h1 h2 k
  have h1 : (z_H i).1 = 1 := h1
  have h2 : (z_H i).2.1 = 1 := h2
  by_cases hi : i < 172
  · rw [hsh i hi] at h1 h2
    exact g i h1 h2 k
  · have e : z_H i = (9, 0, 0) := by
      unfold z_H
      have l : z_SL.length = 172 := by decide +kernel
      rw [List.getD_eq_getElem?_getD, List.getElem?_eq_none (by omega)]
      rfl
    rw [e] at h1
    exact absurd h1 (by decide)
theorem z_CS : jC (z_S z_t2.1) := z_CSu z_C2 (fun i hi => of_decide_eq_true (List.all_eq_true.mp z_shB i (List.mem_range.mpr hi)))
theorem z_R0 : rR PCd SCd z_t2.1 := by
  have a : ∀ i k, i < 172 → k < (z_H i).2.2 → z_t2.1 i k = z_i0 i k := fun i k h1 h2 => z_m0_at h1 h2
  refine ⟨⟨0, by omega, ?_, ?_, fun j hj => absurd hj (Nat.not_lt_zero j)⟩, ⟨0, by omega, ?_, ?_, ?_, fun i hi => absurd hi (Nat.not_lt_zero i)⟩, Or.inl ?_, Or.inl ?_⟩
  · rw [a 1 1 (by decide +kernel) (by decide +kernel)]; decide +kernel
  · rw [a 131 0 (by decide +kernel) (by decide +kernel)]; decide +kernel
  · rw [a 36 1 (by decide +kernel) (by decide +kernel)]; decide +kernel
  · rw [a 131 21 (by decide +kernel) (by decide +kernel)]; decide +kernel
  · rw [a 36 2 (by decide +kernel) (by decide +kernel)]; decide +kernel
  · rw [a 0 7 (by decide +kernel) (by decide +kernel)]; decide +kernel
  · rw [a 0 8 (by decide +kernel) (by decide +kernel)]; decide +kernel
theorem z_loop : z_Loop := z_Loop_of z_ops ⟨z_R0, z_CS⟩
