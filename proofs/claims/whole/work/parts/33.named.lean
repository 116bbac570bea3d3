/-! The unknowns that the items name: the reference counts them anew. -/
def hN6 (m : zM) : Prop := ∃ k : Nat, k ≤ 6 ∧ m 131 21 = nI k
def rNamed (m : zM) : Int32 := rU m (m 131 21).toNatClampNeg
theorem h_M_named {xs : jx_Xs} {m : zM} {Q : Option Value → zM → Prop} (b1 : hN6 m) (g1 : Q (some (.int (rNamed m))) m) : ez xs 103 0 (jx_ent 103 [.ref 131]) [] m Q := by
  obtain ⟨k, hk, e⟩ := b1
  unfold rNamed at g1
  rw [e, nI_clamp (by omega)] at g1
  refine c_M_named ?_
  have loop : ∀ (n i : Nat), i + n = k → ez xs 103 4 [some (.ref 131), some (.int (rU m i)), some (.int (nI i))] [] m Q := by
    intro n
    induction n with
    | zero =>
      intro i hi
      have hi : i = k := by omega
      subst hi
      have hc : m 131 21 ≤ nI i := by rw [e]; exact nI_le (Nat.le_refl _) (by omega)
      exact c_M_named_4 (fun h => absurd hc h) (fun h => absurd hc h) (fun h => absurd hc h) (fun _ => g1) (fun h => absurd hc h)
    | succ n ih =>
      intro i hi
      have hb : vp_in (nI i) 6 := vp_in_nI (by omega) (by omega)
      have hc : ¬ m 131 21 ≤ nI i := by rw [e]; exact nI_ge (by omega) (by omega)
      refine c_M_named_4 (fun _ => hb) (fun _ => hb) (fun _ => hb) (fun h => absurd h hc) (fun _ => ?_)
      rw [nI_clamp (by omega), nI_1]
      exact ih (i + 1) (by omega)
  exact loop k 0 (by omega)
