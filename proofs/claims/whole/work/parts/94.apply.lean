/-! The contract apply. -/
theorem rR_129 {M M' : zM} (h : ∀ a b, a ≠ 129 → a ≠ 130 → M a b = M' a b) (g : rR PCd SCd M') : rR PCd SCd M := by
  obtain ⟨hT, hS, h7, h8⟩ := g
  refine ⟨rT_same (fun a b q1 q2 => h a b (by omega) (by omega)) (h 131 0 (by omega) (by omega)) (fun b => h 132 b (by omega) (by omega)) hT, rS_same (fun a k q => ?_) hS, ?_, ?_⟩
  · have q : (36 ≤ a ∧ a ≤ 73) ∨ (149 ≤ a ∧ a ≤ 163) ∨ (a = 131 ∧ k = 21) := q
    exact h a k (by omega) (by omega)
  · rw [h 0 7 (by omega) (by omega)]
    rcases h7 with q | ⟨q1, q2⟩
    · exact Or.inl q
    · exact Or.inr ⟨q1, hPCd M' M (fun i k z1 z2 => h i k (by omega) (by omega)) q2⟩
  · rw [h 0 8 (by omega) (by omega)]
    rcases h8 with q | ⟨q1, q2⟩
    · exact Or.inl q
    · refine Or.inr ⟨q1, hSCd M' M (fun a b z => ?_) q2⟩
      have z : a = 1 ∨ a = 2 ∨ (36 ≤ a ∧ a ≤ 128) ∨ (149 ≤ a ∧ a ≤ 163) ∨ (a = 131 ∧ b = 21) := z
      exact h a b (by omega) (by omega)
set_option maxHeartbeats 1000000 in
theorem o_apply {xs : jx_Xs} {m : zM} (hR : rR PCd SCd m) (hC : jC (z_S m)) : ez xs 172 0 (jx_ent 172 [.ref 0]) [] m (fun r m1 => ∃ v, r = some (.int v) ∧ ez xs 178 0 (jx_ent 178 [.ref 131]) [] m1 (fun r2 m2 => r2 = some (.int v) ∧ rR PCd SCd m2)) := by
  obtain ⟨K, hK6, h36, h21, hU, hI⟩ := id hR.2.1
  refine ez_blk 1 rfl ?_
  show ez xs 172 1 [some (.ref 0), none] [.ref 0] m _
  refine ez_call (as := [.ref 0]) (rest := []) rfl (by decide) rfl ?_
  refine ez_mono (h_ref3 hR hC hK6 h36 h21 hI) (fun r M q => ?_)
  obtain ⟨⟨P1, P2, P3, P4⟩, q⟩ := q
  have NO : ∀ v : Int32, ¬ v = 0 → (pParse (tX M) (tN M) = none ∧ v = -1 ∨ ((∃ s, pParse (tX M) (tN M) = some s) ∧ v = -2 ∧ nl m K)) → ez xs 172 4 [some (.ref 0), none] [.int v] M (fun r m1 => ∃ v, r = some (.int v) ∧ ez xs 178 0 (jx_ent 178 [.ref 131]) [] m1 (fun r2 m2 => r2 = some (.int v) ∧ rR PCd SCd m2)) := fun v hv h => by
    refine ez_blk 2 rfl ?_
    show ez xs 172 6 [some (.ref 0), some (.int v)] [.int v] M _
    refine ez_if_eq rfl (fun z => absurd z hv) (fun _ => ?_)
    show ez xs 172 9 [some (.ref 0), some (.int v)] [] M _
    refine ez_blk 1 rfl ?_
    refine ez_ret (y := 172) rfl (by decide) rfl ⟨v, rfl, ?_⟩
    refine ez_blk 1 rfl ?_
    show ez xs 178 1 [some (.ref 131), none, none, none, none] [.ref 131] M _
    refine ez_call (as := [.ref 131]) (rest := []) rfl (by decide) rfl ?_
    refine h_stA hR hK6 h21 hI P1 P2 P3 (h.elim (fun z => Or.inl z.1) (fun z => Or.inr ⟨z.1, z.2.2⟩)) (fun N u hu _ n1 n2 hN => ?_)
    have e : u = v := by
      rcases h with ⟨z1, z2⟩ | ⟨z1, z2, -⟩
      · rw [n1 z1, z2]
      · rw [n2 z1, z2]
    subst e
    refine ez_blk (pc' := 6) 2 rfl ?_
    show ez xs 178 6 [some (.ref 131), some (.int u), none, none, none] [.int u] N _
    refine ez_if_ge rfl (fun z => absurd hu (Int32.not_lt.mpr z)) (fun _ => ?_)
    show ez xs 178 9 [some (.ref 131), some (.int u), none, none, none] [] N _
    refine ez_blk 1 rfl ?_
    exact ez_ret (y := 178) rfl (by decide) rfl ⟨rfl, hN⟩
  rcases q with ⟨rfl, p⟩ | ⟨rfl, p, w⟩ | ⟨rfl, s, p, G, K0, w⟩
  · exact NO (-1) (by decide) (Or.inl ⟨p, rfl⟩)
  · exact NO (-2) (by decide) (Or.inr ⟨p, rfl, w⟩)
  refine ez_blk (pc' := 6) 2 rfl ?_
  show ez xs 172 6 [some (.ref 0), some (.int 0)] [.int 0] M _
  refine ez_if_eq rfl (fun _ => ?_) (fun z => absurd rfl z)
  show ez xs 172 11 [some (.ref 0), some (.int 0)] [] M _
  refine ez_blk 1 rfl ?_
  show ez xs 172 12 [some (.ref 0), some (.int 0)] [.ref 0] M _
  refine ez_call (as := [.ref 0]) (rest := []) rfl (by decide) rfl ?_
  refine ez_mono (h_ens hR hK6 h36 h21 hU hI P1 P2 P3 P4 p G K0 w) (fun r N q => ?_)
  obtain ⟨rfl, D, -, -⟩ := q
  obtain ⟨pN', S1, GN, ⟨y1, y2⟩, ⟨N21, N36, -, -⟩, ⟨NI, N154⟩, FIN⟩ := id D
  have rRN : rR PCd SCd N := FIN N (fun _ _ _ _ _ => rfl)
  obtain ⟨-, yC, -⟩ := rT_tx rRN.1
  obtain ⟨bg, en, hs, hbe⟩ := spans pN'
  obtain ⟨jI, -⟩ := pParse_J pN'
  have hc := jI.2.2.1
  have hN160 := y1.1
  have inv : nInv (Ve N) (pN N s.2.2.1 s.2.2.2.2.2.2 K 64) := ntB_inv 64
  have rg : nRg s.2.2.1 K (edB N) (pN N s.2.2.1 s.2.2.2.2.2.2 K 64) := ntB_rg 64 (Nat.le_refl 64)
  have hEd := S1.2.2
  have RNG : ∀ n e, ((pN N s.2.2.1 s.2.2.2.2.2.2 K 64).1 n = some e ∨ (pN N s.2.2.1 s.2.2.2.2.2.2 K 64).2.1 n = some e) → e.1 < 6 ∧ e.2 < 64 ∧ rI N e.1 ∧ edB N e.1 = true := fun n e h => by
    obtain ⟨-, r1, r2, r3⟩ := rg n e h
    exact ⟨by omega, r2, NI e.1 r1, r3⟩
  have hE : ∀ n, n < s.2.2.1 → eK N N n ((pN N s.2.2.1 s.2.2.2.2.2.2 K 64).1 n) := fun n hn => eK_of (hEd.1 n (by omega)) (fun e he => ⟨(RNG n e (Or.inl he)).2.2.1, (RNG n e (Or.inl he)).2.2.2⟩)
  have hw1 : ∀ n, (oW N ((pN N s.2.2.1 s.2.2.2.2.2.2 K 64).1 n)).length ≤ 10 ∧ ∀ v, v ∈ oW N ((pN N s.2.2.1 s.2.2.2.2.2.2 K 64).1 n) → isC v := fun n => by
    cases f : (pN N s.2.2.1 s.2.2.2.2.2.2 K 64).1 n with
    | none => exact ⟨Nat.zero_le _, fun v hv => by cases hv⟩
    | some e =>
      obtain ⟨-, r2, r3, -⟩ := RNG n e (Or.inl f)
      have z := wW_C r2 r3
      exact ⟨z.2.1, z.1⟩
  have hw2 : ∀ n, (oW N ((pN N s.2.2.1 s.2.2.2.2.2.2 K 64).2.1 n)).length ≤ 10 := fun n => by
    cases f : (pN N s.2.2.1 s.2.2.2.2.2.2 K 64).2.1 n with
    | none => exact Nat.zero_le _
    | some e =>
      obtain ⟨-, r2, r3, -⟩ := RNG n e (Or.inr f)
      exact (wW_C r2 r3).2.1
  have VE := fun ok => val_eq NI inv rg ok
  have htx : ∀ i, i < tN N → isC (nI (tX N i)) := fun i hi => ⟨tX N i, (y1.2 i hi).1, (y1.2 i hi).2, rfl⟩
  -- the reference from a store that differs in the class's text and measures alone
  have MS : ∀ (X : zM) (v : Int32), (∀ a b, 3 ≤ a → a ≠ 129 → a ≠ 130 → X a b = N a b) →
      ((pN N s.2.2.1 s.2.2.2.2.2.2 K 64).2.2.1 = false → v = -3 ∧ ∀ M3, frZ X M3 → rR PCd SCd M3) →
      ((pN N s.2.2.1 s.2.2.2.2.2.2 K 64).2.2.1 = true → ∀ M3, frZ X M3 → gM M3 s.2.2.1 s.2.2.2.2.2.2 → lM M3 s.2.2.1 (pN N s.2.2.1 s.2.2.2.2.2.2 K 64) → ez xs 177 0 (jx_ent 177 [.ref 131]) [] M3 (fun r M4 => r = some (.int v) ∧ rR PCd SCd M4)) →
      ez xs 178 0 (jx_ent 178 [.ref 131]) [] X (fun r2 m2 => r2 = some (.int v) ∧ rR PCd SCd m2) := fun X v hX k1 k2 => by
    have s9 : ∀ a j, 149 ≤ a → a ≤ 163 → X a j = N a j := fun a j _ _ => hX a j (by omega) (by omega) (by omega)
    have sX : ∀ a j, sS a j → X a j = N a j := fun a j q => by
      have q : (36 ≤ a ∧ a ≤ 73) ∨ (149 ≤ a ∧ a ≤ 163) ∨ (a = 131 ∧ j = 21) := q
      exact hX a j (by omega) (by omega) (by omega)
    have eP : pN X s.2.2.1 s.2.2.2.2.2.2 K 64 = pN N s.2.2.1 s.2.2.2.2.2.2 K 64 := pN_same s9
    refine h_M_applyD (t := tX N) (n0 := tN N) y1 ⟨(hX 131 0 (by omega) (by omega) (by omega)).trans y2.1, fun j hj => (hX 132 j (by omega) (by omega) (by omega)).trans (y2.2 j hj)⟩ pN' K0 hK6 (by rw [hX 131 21 (by omega) (by omega) (by omega), N21]) (fun i hi => rI_same (by omega) sX (NI i hi)) (by rw [hX 154 _ (by omega) (by omega) (by omega)]; exact N154) (fun ok M3 f3 => ?_) (fun ok M3 f3 g3 l3 => ?_)
    · rw [eP] at ok
      obtain ⟨rfl, z⟩ := k1 ok
      exact ⟨rfl, z M3 f3⟩
    · rw [eP] at ok l3
      refine ez_mono (k2 ok M3 f3 g3 l3) (fun r M4 z => ?_)
      exact ⟨v, z.1, z⟩
  have KEEP : ∀ (X M3 : zM), (∀ a b, a ≠ 129 → a ≠ 130 → X a b = N a b) → (∀ a b, ¬ (a = 131 ∧ (b = 2 ∨ b = 5 ∨ b = 20 ∨ b = 40)) → ¬ (133 ≤ a ∧ a ≤ 148) → ¬ (164 ≤ a ∧ a ≤ 171) → M3 a b = X a b) → rR PCd SCd M3 := fun X M3 hX h3 => by
    refine rR_129 (M' := fun a b => if a = 129 ∨ a = 130 then N a b else M3 a b) (fun a b q1 q2 => ?_) (FIN _ (fun a b q1 q2 q3 => ?_))
    · show M3 a b = if a = 129 ∨ a = 130 then N a b else M3 a b
      rw [if_neg (by omega)]
    · show (if a = 129 ∨ a = 130 then N a b else M3 a b) = N a b
      by_cases e : a = 129 ∨ a = 130
      · rw [if_pos e]
      · rw [if_neg e, h3 a b q1 q2 q3]
        exact hX a b (by omega) (by omega)
  show ez xs 172 15 [some (.ref 0), some (.int 0)] [] N _
  refine ez_blk 2 rfl ?_
  show ez xs 172 19 [some (.ref 0), some (.int 0)] [.ref 74] N _
  refine ez_call (as := [.ref 74]) (rest := []) rfl (by decide) rfl ?_
  have cfl : N 74 7 = bI (pN N s.2.2.1 s.2.2.2.2.2.2 K 64).2.2.2 := hEd.2
  refine c_Search_hasConflict ?_ ?_
  · rw [cfl]
    unfold bI
    split
    · exact Or.inr rfl
    · exact Or.inl rfl
  rw [cfl]
  show ez xs 172 22 [some (.ref 0), some (.int 0)] [.int (bI (pN N s.2.2.1 s.2.2.2.2.2.2 K 64).2.2.2)] N _
  refine ez_if_eq rfl (fun zc => ?_) (fun zc => ?_)
  case refine_2 =>
    have ok : (pN N s.2.2.1 s.2.2.2.2.2.2 K 64).2.2.1 = false := by
      have z := bI_t.mp zc
      rw [inv.1] at z
      simpa using z
    show ez xs 172 25 [some (.ref 0), some (.int 0)] [] N _
    refine ez_blk 1 rfl ?_
    refine ez_ret (y := 172) rfl (by decide) rfl ⟨-3, rfl, ?_⟩
    refine MS N (-3) (fun _ _ _ _ _ => rfl) (fun _ => ⟨rfl, fun M3 f3 => KEEP N M3 (fun _ _ _ _ => rfl) (fun a b q1 q2 q3 => f3 a b q1 q2 (by omega))⟩) (fun ok2 => ?_)
    rw [ok] at ok2
    cases ok2
  have ok : (pN N s.2.2.1 s.2.2.2.2.2.2 K 64).2.2.1 = true := by
    have z := bI_0.mp zc
    rw [inv.1] at z
    simpa using z
  have VE := VE ok
  show ez xs 172 28 [some (.ref 0), some (.int 0)] [] N _
  refine ez_blk 4 rfl ?_
  show ez xs 172 36 [some (.ref 0), some (.int 0)] [.ref 1, .ref 129] N _
  refine ez_call (as := [.ref 129, .ref 1]) (rest := []) rfl (by decide) rfl ?_
  have hbC : ∀ n, n < s.2.2.1 → N (5 + n) 5 = nI (bg n) ∧ N (5 + n) 6 = nI (en n) := fun n hn => by
    rw [(GN.2 n hn).1 5 (by omega), (GN.2 n hn).1 6 (by omega)]
    exact hbe n hn
  refine h_measure (S := N) (f := (pN N s.2.2.1 s.2.2.2.2.2.2 K 64).1) hc yC.1 GN.1 hbC hE (fun M1 t3 t4 t5 t6 => ?_)
  have eL : lq N (tN N) bg en (pN N s.2.2.1 s.2.2.2.2.2.2 K 64).2.1 s.2.2.1 = lq N (tN N) bg en (pN N s.2.2.1 s.2.2.2.2.2.2 K 64).1 s.2.2.1 := lq_ext (fun n => ⟨(VE n).2.2.1.symm, (VE n).2.1.symm⟩) _
  have eN : nq N s.2.2.1 (pN N s.2.2.1 s.2.2.2.2.2.2 K 64).2.1 s.2.2.1 = nq N s.2.2.1 (pN N s.2.2.1 s.2.2.2.2.2.2 K 64).1 s.2.2.1 := nq_ext (fun n => ⟨(VE n).2.2.2.symm, (VE n).2.1.symm⟩) _
  have eD : dq (pN N s.2.2.1 s.2.2.2.2.2.2 K 64).2.1 s.2.2.1 = dq (pN N s.2.2.1 s.2.2.2.2.2.2 K 64).1 s.2.2.1 := dq_ext (fun n => (VE n).1.symm) _
  have eEf : (fun n => oE ((pN N s.2.2.1 s.2.2.2.2.2.2 K 64).2.1 n)) = (fun n => oE ((pN N s.2.2.1 s.2.2.2.2.2.2 K 64).1 n)) := funext fun n => (VE n).1.symm
  have eOf : (fun n => oO N ((pN N s.2.2.1 s.2.2.2.2.2.2 K 64).2.1 n)) = (fun n => oO N ((pN N s.2.2.1 s.2.2.2.2.2.2 K 64).1 n)) := funext fun n => (VE n).2.1.symm
  have eWf : (fun n => oW N ((pN N s.2.2.1 s.2.2.2.2.2.2 K 64).2.1 n)) = (fun n => oW N ((pN N s.2.2.1 s.2.2.2.2.2.2 K 64).1 n)) := funext fun n => (VE n).2.2.1.symm
  -- the reference's editing, from such a store
  have ED : ∀ (X : zM) (v : Int32), (∀ a b, 3 ≤ a → a ≠ 129 → a ≠ 130 → X a b = N a b) →
      (¬ lq N (tN N) bg en (pN N s.2.2.1 s.2.2.2.2.2.2 K 64).1 s.2.2.1 ≤ 160 → v = -4 ∧ ∀ M3, (∀ a b, ¬ (a = 131 ∧ (b = 2 ∨ b = 5 ∨ b = 20 ∨ b = 40)) → ¬ (133 ≤ a ∧ a ≤ 148) → ¬ (164 ≤ a ∧ a ≤ 171) → M3 a b = X a b) → rR PCd SCd M3) →
      (lq N (tN N) bg en (pN N s.2.2.1 s.2.2.2.2.2.2 K 64).1 s.2.2.1 ≤ 160 → ¬ nq N s.2.2.1 (pN N s.2.2.1 s.2.2.2.2.2.2 K 64).1 s.2.2.1 ≤ 24 → v = -5 ∧ ∀ M3, (∀ a b, ¬ (a = 131 ∧ (b = 2 ∨ b = 5 ∨ b = 20 ∨ b = 40)) → ¬ (133 ≤ a ∧ a ≤ 148) → ¬ (164 ≤ a ∧ a ≤ 171) → M3 a b = X a b) → rR PCd SCd M3) →
      (lq N (tN N) bg en (pN N s.2.2.1 s.2.2.2.2.2.2 K 64).1 s.2.2.1 ≤ 160 → nq N s.2.2.1 (pN N s.2.2.1 s.2.2.2.2.2.2 K 64).1 s.2.2.1 ≤ 24 → v = nI (dq (pN N s.2.2.1 s.2.2.2.2.2.2 K 64).1 s.2.2.1) ∧ ∀ M3, M3 131 0 = nI (Rf (tN N) (fun i => nI (tX N i)) s.2.2.1 bg en (fun n => oE ((pN N s.2.2.1 s.2.2.2.2.2.2 K 64).1 n)) (fun n => oO N ((pN N s.2.2.1 s.2.2.2.2.2.2 K 64).1 n)) (fun n => oW N ((pN N s.2.2.1 s.2.2.2.2.2.2 K 64).1 n))).length → li M3 132 (Rf (tN N) (fun i => nI (tX N i)) s.2.2.1 bg en (fun n => oE ((pN N s.2.2.1 s.2.2.2.2.2.2 K 64).1 n)) (fun n => oO N ((pN N s.2.2.1 s.2.2.2.2.2.2 K 64).1 n)) (fun n => oW N ((pN N s.2.2.1 s.2.2.2.2.2.2 K 64).1 n))) → (∀ a b, ¬ (a = 131 ∧ (b = 0 ∨ b = 2 ∨ b = 5 ∨ b = 20 ∨ b = 40)) → ¬ (132 ≤ a ∧ a ≤ 148) → ¬ (164 ≤ a ∧ a ≤ 171) → M3 a b = X a b) → rR PCd SCd M3) →
      ez xs 178 0 (jx_ent 178 [.ref 131]) [] X (fun r2 m2 => r2 = some (.int v) ∧ rR PCd SCd m2) := fun X v hX k4 k5 kO => by
    refine MS X v hX (fun z => ?_) (fun _ M3 f3 g3 l3 => ?_)
    · rw [ok] at z; cases z
    have hXN : ∀ a b, 3 ≤ a → a ≠ 129 → a ≠ 130 → ¬ (a = 131 ∧ (b = 2 ∨ b = 5 ∨ b = 20 ∨ b = 40)) → ¬ (133 ≤ a ∧ a ≤ 148) → ¬ (164 ≤ a ∧ a ≤ 170) → M3 a b = N a b := fun a b q1 q2 q3 q4 q5 q6 => by rw [f3 a b q4 q5 q6]; exact hX a b q1 q2 q3
    refine h_M_edit (S := N) (f := (pN N s.2.2.1 s.2.2.2.2.2.2 K 64).2.1) (tx := fun i => nI (tX N i)) hc hN160 hs (fun a j q => ?_) ?_ g3.1 (fun n hn => ?_) (fun n hn => ⟨(l3 n hn).1, fun e he => ⟨(l3 n hn).2 e he, (RNG n e (Or.inr he)).1, (RNG n e (Or.inr he)).2.1, (RNG n e (Or.inr he)).2.2.1⟩⟩) (fun i hi => ?_) hw2 (fun z M4 f4 => ?_) (fun z z2 M4 f4 => ?_) (fun z z2 M4 u1 u2 u3 => ?_)
    · have q : (36 ≤ a ∧ a ≤ 73) ∨ (149 ≤ a ∧ a ≤ 163) ∨ (a = 131 ∧ j = 21) := q
      exact hXN a j (by omega) (by omega) (by omega) (by omega) (by omega) (by omega)
    · rw [hXN 131 0 (by omega) (by omega) (by omega) (by omega) (by omega) (by omega)]; exact y2.1
    · have e5 : M3 139 n = s.2.2.2.2.2.2 n 5 := (g3.2 n hn).1 5 (by omega)
      have e6 : M3 140 n = s.2.2.2.2.2.2 n 6 := (g3.2 n hn).1 6 (by omega)
      rw [e5, e6]
      exact hbe n hn
    · rw [hXN 132 i (by omega) (by omega) (by omega) (by omega) (by omega) (by omega)]; exact y2.2 i hi
    · rw [eL] at z
      obtain ⟨rfl, w4⟩ := k4 z
      exact ⟨rfl, w4 M4 (fun a b q1 q2 q3 => by rw [f4 a b (by omega)]; exact f3 a b q1 q2 (by omega))⟩
    · rw [eL] at z
      rw [eN] at z2
      obtain ⟨rfl, w4⟩ := k5 z z2
      exact ⟨rfl, w4 M4 (fun a b q1 q2 q3 => by rw [f4 a b (by omega)]; exact f3 a b q1 q2 (by omega))⟩
    · rw [eL] at z
      rw [eN] at z2
      rw [eEf, eOf, eWf] at u1 u2
      obtain ⟨rfl, w4⟩ := kO z z2
      refine ⟨by rw [eD], w4 M4 u1 u2 (fun a b q1 q2 q3 => ?_)⟩
      rw [u3 a b (by omega) (by omega) (by omega) (by omega)]
      exact f3 a b (by omega) (by omega) (by omega)
  show ez xs 172 39 [some (.ref 0), some (.int 0)] [] M1 _
  refine ez_blk 2 rfl ?_
  show ez xs 172 43 [some (.ref 0), some (.int 0)] [.ref 129] M1 _
  refine ez_call (as := [.ref 129]) (rest := []) rfl (by decide) rfl ?_
  refine c_Rewriter_lengthAfter ?_
  rw [t3]
  refine ez_blk (pc' := 49) 1 rfl ?_
  show ez xs 172 49 [some (.ref 0), some (.int 0)] [.int 160, .int (lq N (tN N) bg en (pN N s.2.2.1 s.2.2.2.2.2.2 K 64).1 s.2.2.1)] M1 _
  refine ez_icmp_le rfl (fun z4 => ?_) (fun z4 => ?_)
  case refine_2 =>
    show ez xs 172 52 [some (.ref 0), some (.int 0)] [] M1 _
    refine ez_blk 1 rfl ?_
    refine ez_ret (y := 172) rfl (by decide) rfl ⟨-4, rfl, ?_⟩
    refine ED M1 (-4) (fun a b _ q2 _ => t6 a b q2) (fun _ => ⟨rfl, fun M3 h3 => KEEP M1 M3 (fun a b q1 _ => t6 a b q1) h3⟩) (fun z => absurd z z4) (fun z => absurd z z4)
  show ez xs 172 55 [some (.ref 0), some (.int 0)] [] M1 _
  refine ez_blk 2 rfl ?_
  show ez xs 172 59 [some (.ref 0), some (.int 0)] [.ref 129] M1 _
  refine ez_call (as := [.ref 129]) (rest := []) rfl (by decide) rfl ?_
  refine c_Rewriter_nodesAfter ?_
  rw [t4]
  refine ez_blk (pc' := 64) 1 rfl ?_
  show ez xs 172 64 [some (.ref 0), some (.int 0)] [.int 24, .int (nq N s.2.2.1 (pN N s.2.2.1 s.2.2.2.2.2.2 K 64).1 s.2.2.1)] M1 _
  refine ez_icmp_le rfl (fun z5 => ?_) (fun z5 => ?_)
  case refine_2 =>
    show ez xs 172 67 [some (.ref 0), some (.int 0)] [] M1 _
    refine ez_blk 1 rfl ?_
    refine ez_ret (y := 172) rfl (by decide) rfl ⟨-5, rfl, ?_⟩
    refine ED M1 (-5) (fun a b _ q2 _ => t6 a b q2) (fun z => absurd z4 z) (fun _ _ => ⟨rfl, fun M3 h3 => KEEP M1 M3 (fun a b q1 _ => t6 a b q1) h3⟩) (fun _ z => absurd z z5)
  have lR := Rf_len (tx := fun i => nI (tX N i)) (ed := fun n => oE ((pN N s.2.2.1 s.2.2.2.2.2.2 K 64).1 n)) (ou := fun n => oO N ((pN N s.2.2.1 s.2.2.2.2.2.2 K 64).1 n)) (wd := fun n => oW N ((pN N s.2.2.1 s.2.2.2.2.2.2 K 64).1 n)) hs
  have lW := sW_le (ed := fun n => oE ((pN N s.2.2.1 s.2.2.2.2.2.2 K 64).1 n)) (wd := fun n => oW N ((pN N s.2.2.1 s.2.2.2.2.2.2 K 64).1 n)) (fun n => (hw1 n).1) s.2.2.1
  have l160 : (Rf (tN N) (fun i => nI (tX N i)) s.2.2.1 bg en (fun n => oE ((pN N s.2.2.1 s.2.2.2.2.2.2 K 64).1 n)) (fun n => oO N ((pN N s.2.2.1 s.2.2.2.2.2.2 K 64).1 n)) (fun n => oW N ((pN N s.2.2.1 s.2.2.2.2.2.2 K 64).1 n))).length ≤ 160 := by
    have z := z4
    rw [lq_len (tx := fun i => nI (tX N i)) hs] at z
    exact (nI_leI (b := 160) (by omega) (by omega)).mp z
  have RC := Rf_C (tx := fun i => nI (tX N i)) (ed := fun n => oE ((pN N s.2.2.1 s.2.2.2.2.2.2 K 64).1 n)) (ou := fun n => oO N ((pN N s.2.2.1 s.2.2.2.2.2.2 K 64).1 n)) (wd := fun n => oW N ((pN N s.2.2.1 s.2.2.2.2.2.2 K 64).1 n)) hs htx (fun n _ _ => (hw1 n).2)
  show ez xs 172 70 [some (.ref 0), some (.int 0)] [] M1 _
  refine ez_blk 4 rfl ?_
  show ez xs 172 78 [some (.ref 0), some (.int 0)] [.ref 1, .ref 129] M1 _
  refine ez_call (as := [.ref 129, .ref 1]) (rest := []) rfl (by decide) rfl ?_
  refine h_rewrite (S := N) (f := (pN N s.2.2.1 s.2.2.2.2.2.2 K 64).1) (tx := fun i => nI (tX N i)) hN160 hc (by rw [t6 1 1 (by omega)]; exact yC.1) (fun i hi => by rw [t6 2 i (by omega)]; exact yC.2 i hi) htx (by rw [t6 3 1 (by omega)]; exact GN.1) hs (fun n hn => by rw [t6 _ _ (by omega), t6 _ _ (by omega)]; exact hbC n hn) (fun n hn => eK_same (fun k => t6 _ k (by omega)) (fun k => t6 _ k (by omega)) (hE n hn)) (fun n _ => hw1 n) l160 (fun M2 h2 f2 => ?_)
  generalize hRR : Rf (tN N) (fun i => nI (tX N i)) s.2.2.1 bg en (fun n => oE ((pN N s.2.2.1 s.2.2.2.2.2.2 K 64).1 n)) (fun n => oO N ((pN N s.2.2.1 s.2.2.2.2.2.2 K 64).1 n)) (fun n => oW N ((pN N s.2.2.1 s.2.2.2.2.2.2 K 64).1 n)) = RR at h2 l160 RC ED
  show ez xs 172 81 [some (.ref 0), some (.int 0)] [] M2 _
  refine ez_blk 1 rfl ?_
  show ez xs 172 82 [some (.ref 0), some (.int 0)] [.ref 0] M2 _
  refine ez_call (as := [.ref 0]) (rest := []) rfl (by decide) rfl ?_
  refine c_PathPatcher_noteNewText ?_
  have X0 : ∀ a b, a ≠ 0 → jj_up (jj_up M2 0 7 0) 0 8 0 a b = M2 a b := fun a b q => by rw [up_ne q, up_ne q]
  have X7 : jj_up (jj_up M2 0 7 0) 0 8 0 0 7 = 0 := by rw [up_k (by omega), up_eq]
  have X8 : jj_up (jj_up M2 0 7 0) 0 8 0 0 8 = 0 := up_eq
  show ez xs 172 85 [some (.ref 0), some (.int 0)] [] (jj_up (jj_up M2 0 7 0) 0 8 0) _
  generalize jj_up (jj_up M2 0 7 0) 0 8 0 = X at X0 X7 X8
  refine ez_blk 2 rfl ?_
  show ez xs 172 89 [some (.ref 0), some (.int 0)] [.ref 129] X _
  refine ez_call (as := [.ref 129]) (rest := []) rfl (by decide) rfl ?_
  refine c_Rewriter_editCount ?_
  rw [X0 129 5 (by omega), f2 129 5 (by omega) (by omega) (by omega), t5]
  refine ez_ret (y := 172) rfl (by decide) rfl ⟨_, rfl, ?_⟩
  have XN : ∀ a b, 3 ≤ a → a ≠ 129 → a ≠ 130 → X a b = N a b := fun a b q1 q2 q3 => by
    rw [X0 a b (by omega), f2 a b (by omega) (by omega) q3]
    exact t6 a b q2
  refine ED X _ XN (fun z => absurd z4 z) (fun _ z => absurd z5 z) (fun _ _ => ⟨rfl, fun M3 u1 u2 u3 => ?_⟩)
  refine ⟨⟨RR.length, l160, ?_, u1, fun j hj => ?_⟩, rS_same (fun a k q => ?_) rRN.2.1, Or.inl ?_, Or.inl ?_⟩
  · rw [u3 1 1 (by omega) (by omega) (by omega), X0 1 1 (by omega)]; exact h2.1
  · have e : RR[j]? = some (RR[j]'hj) := List.getElem?_eq_getElem hj
    obtain ⟨q, q1, q2, q3⟩ := RC _ (List.mem_of_getElem? e)
    refine ⟨q, q1, q2, ?_, ?_⟩
    · rw [u3 2 j (by omega) (by omega) (by omega), X0 2 j (by omega), h2.2 j _ e, q3]
    · rw [u2 j _ e, q3]
  · have q : (36 ≤ a ∧ a ≤ 73) ∨ (149 ≤ a ∧ a ≤ 163) ∨ (a = 131 ∧ k = 21) := q
    rw [u3 a k (by omega) (by omega) (by omega)]
    exact XN a k (by omega) (by omega) (by omega)
  · rw [u3 0 7 (by omega) (by omega) (by omega)]; exact X7
  · rw [u3 0 8 (by omega) (by omega) (by omega)]; exact X8
