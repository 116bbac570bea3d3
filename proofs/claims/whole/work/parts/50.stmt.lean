/-! Assignment and call. -/
theorem ixV {m : zM} {c : Nat} (hc : c ≤ 126) : (f_StringLatin1_indexOf_0 m (nI c) < 0 ∧ ¬ isV c) ∨ (¬ f_StringLatin1_indexOf_0 m (nI c) < 0 ∧ isV c ∧ f_StringLatin1_indexOf_0 m (nI c) = nI (c - 97)) := by
  rw [ix0 m c hc]
  by_cases h : 97 ≤ c ∧ c ≤ 100
  · rw [if_pos h]
    exact Or.inr ⟨nI_pos (by omega), h, rfl⟩
  · rw [if_neg h]
    exact Or.inl ⟨by decide, h⟩
abbrev isF (c : Nat) : Prop := 102 ≤ c ∧ c ≤ 104
theorem ixF {m : zM} {c : Nat} (hc : c ≤ 126) : (f_StringLatin1_indexOf_1 m (nI c) < 0 ∧ ¬ isF c) ∨ (¬ f_StringLatin1_indexOf_1 m (nI c) < 0 ∧ isF c ∧ f_StringLatin1_indexOf_1 m (nI c) = nI (c - 102)) := by
  rw [ix1 m c hc]
  by_cases h : 102 ≤ c ∧ c ≤ 104
  · rw [if_pos h]
    exact Or.inr ⟨nI_pos (by omega), h, rfl⟩
  · rw [if_neg h]
    exact Or.inl ⟨by decide, h⟩
theorem h_Parser_readAssignment {xs : jx_Xs} {m : zM} {Q : Option Value → zM → Prop} {t : Nat → Nat} {l : List Nat} {s : pS} (hk : tkC m t l) (ht : ∀ p ∈ l, t p ≤ 126) (hl : l.length ≤ 160) (hI : pI l.length s) (hC : pC m s) (hct : s.2.2.1 < 24)
    (g0 : ¬ (isV (sg t l (s.1 + 0)) ∧ sg t l (s.1 + 1) = 61 ∧ isV (sg t l (s.1 + 2)) ∧ sg t l (s.1 + 3) = 59) → Q (some (.int 0)) m)
    (g : isV (sg t l (s.1 + 0)) ∧ sg t l (s.1 + 1) = 61 ∧ isV (sg t l (s.1 + 2)) ∧ sg t l (s.1 + 3) = 59 → ∀ M, pC M (pAdd l s 4 1 0 (nI (sg t l (s.1 + 0) - 97)) (nI (sg t l (s.1 + 2) - 97)) 0) → frC m M → Q (some (.int 1)) M) : ez xs 52 0 (jx_ent 52 [.ref 29]) [] m Q := by
  have i1 := hI.1
  have v := ixV (m := m) (sg_le ht (s.1 + 0))
  have u := ixV (m := m) (sg_le ht (s.1 + 2))
  refine ez_blk 3 rfl ?_
  show ez xs 52 4 [some (.ref 29), none, none] [.int 0, .ref 29, .ref 1000000] m Q
  refine ez_call (as := [.ref 29, .int 0]) (rest := [.ref 1000000]) rfl (by decide) rfl ?_
  refine ahead_e (k := 0) hk ht hl hC.1 (by omega) rfl ?_
  show ez xs 52 7 [some (.ref 29), none, none] [.int (nI (sg t l (s.1 + 0))), .ref 1000000] m Q
  refine ez_call (as := [.ref 1000000, .int (nI (sg t l (s.1 + 0)))]) (rest := []) rfl (by decide) rfl ?_
  refine c_String_indexOf2_0 ?_
  generalize f_StringLatin1_indexOf_0 m (nI (sg t l (s.1 + 0))) = x at v
  show ez xs 52 10 [some (.ref 29), none, none] [.int x] m Q
  refine ez_blk 4 rfl ?_
  show ez xs 52 15 [some (.ref 29), some (.int x), none] [.int 2, .ref 29, .ref 1000000] m Q
  refine ez_call (as := [.ref 29, .int 2]) (rest := [.ref 1000000]) rfl (by decide) rfl ?_
  refine ahead_e (k := 2) hk ht hl hC.1 (by omega) rfl ?_
  show ez xs 52 18 [some (.ref 29), some (.int x), none] [.int (nI (sg t l (s.1 + 2))), .ref 1000000] m Q
  refine ez_call (as := [.ref 1000000, .int (nI (sg t l (s.1 + 2)))]) (rest := []) rfl (by decide) rfl ?_
  refine c_String_indexOf2_0 ?_
  generalize f_StringLatin1_indexOf_0 m (nI (sg t l (s.1 + 2))) = z at u
  show ez xs 52 21 [some (.ref 29), some (.int x), none] [.int z] m Q
  have no : ¬ (isV (sg t l (s.1 + 0)) ∧ sg t l (s.1 + 1) = 61 ∧ isV (sg t l (s.1 + 2)) ∧ sg t l (s.1 + 3) = 59) → ez xs 52 50 [some (.ref 29), some (.int x), some (.int z)] [] m Q := fun h => by
    refine ez_blk 1 rfl ?_
    show ez xs 52 51 [some (.ref 29), some (.int x), some (.int z)] [.int 0] m Q
    exact ez_ret rfl (by decide) rfl (g0 h)
  refine ez_blk 2 rfl ?_
  show ez xs 52 23 [some (.ref 29), some (.int x), some (.int z)] [.int x] m Q
  refine ez_if_lt rfl (fun h => no (fun q => ?_)) (fun h1 => ?_)
  · rcases v with v | v
    · exact v.2 q.1
    · exact v.1 h
  have v := v.resolve_left (fun q => h1 q.1)
  have e1 : nI (sg t l (s.1 + 1)) = 61 ↔ sg t l (s.1 + 1) = 61 := nI_eq (b := 61) (by have := sg_le ht (s.1 + 1); omega) (by omega)
  show ez xs 52 26 [some (.ref 29), some (.int x), some (.int z)] [] m Q
  refine ez_blk 2 rfl ?_
  show ez xs 52 28 [some (.ref 29), some (.int x), some (.int z)] [.int 1, .ref 29] m Q
  refine ez_call (as := [.ref 29, .int 1]) (rest := []) rfl (by decide) rfl ?_
  refine ahead_e (k := 1) hk ht hl hC.1 (by omega) rfl ?_
  show ez xs 52 31 [some (.ref 29), some (.int x), some (.int z)] [.int (nI (sg t l (s.1 + 1)))] m Q
  refine ez_blk 1 rfl ?_
  show ez xs 52 33 [some (.ref 29), some (.int x), some (.int z)] [.int 61, .int (nI (sg t l (s.1 + 1)))] m Q
  refine ez_icmp_ne rfl (fun hh => no (fun q => hh (e1.mpr q.2.1))) (fun hh => ?_)
  have k1 := e1.mp hh
  show ez xs 52 36 [some (.ref 29), some (.int x), some (.int z)] [] m Q
  refine ez_blk 1 rfl ?_
  show ez xs 52 37 [some (.ref 29), some (.int x), some (.int z)] [.int z] m Q
  refine ez_if_lt rfl (fun h => no (fun q => ?_)) (fun h2 => ?_)
  · rcases u with u | u
    · exact u.2 q.2.2.1
    · exact u.1 h
  have u := u.resolve_left (fun q => h2 q.1)
  have e3 : nI (sg t l (s.1 + 3)) = 59 ↔ sg t l (s.1 + 3) = 59 := nI_eq (b := 59) (by have := sg_le ht (s.1 + 3); omega) (by omega)
  show ez xs 52 40 [some (.ref 29), some (.int x), some (.int z)] [] m Q
  refine ez_blk 2 rfl ?_
  show ez xs 52 42 [some (.ref 29), some (.int x), some (.int z)] [.int 3, .ref 29] m Q
  refine ez_call (as := [.ref 29, .int 3]) (rest := []) rfl (by decide) rfl ?_
  refine ahead_e (k := 3) hk ht hl hC.1 (by omega) rfl ?_
  show ez xs 52 45 [some (.ref 29), some (.int x), some (.int z)] [.int (nI (sg t l (s.1 + 3)))] m Q
  refine ez_blk 1 rfl ?_
  show ez xs 52 47 [some (.ref 29), some (.int x), some (.int z)] [.int 59, .int (nI (sg t l (s.1 + 3)))] m Q
  refine ez_icmp_eq rfl (fun hh => ?_) (fun hh => no (fun q => hh (e3.mpr q.2.2.2)))
  have k3 := e3.mp hh
  have hlen := sg_lt k3 (by omega)
  show ez xs 52 52 [some (.ref 29), some (.int x), some (.int z)] [] m Q
  refine ez_blk 2 rfl ?_
  show ez xs 52 54 [some (.ref 29), some (.int x), some (.int z)] [.int 4, .ref 29] m Q
  refine ez_call (as := [.ref 29, .int 4]) (rest := []) rfl (by decide) rfl ?_
  refine h_Parser_addNode (len := 4) hk hl hI hC hct (by omega) (by omega) (fun M hM hF => ?_)
  show ez xs 52 57 [some (.ref 29), some (.int x), some (.int z)] [.ref (5 + s.2.2.1)] M Q
  refine ez_blk 4 rfl ?_
  show ez xs 52 61 [some (.ref 29), some (.int x), some (.int z)] [.int z, .int x, .int 0, .int 1, .ref (5 + s.2.2.1)] M Q
  refine ez_calls (i := 5 + s.2.2.1) (as2 := [.int 1, .int 0, .int x, .int z]) (rest := []) rfl (by decide) rfl rfl rfl (z_ndi hct) (z_nds hct) rfl ?_
  refine c_Node_describe (i_r := (z_ndi hct)) (s_r := (z_nds hct)) ?_
  have hD := pAdd_desc (k := 1) (f := 0) (x := x) (y := z) hM hct
  have hF2 : frC m (jj_up (jj_up (jj_up (jj_up M (5 + s.2.2.1) 0 1) (5 + s.2.2.1) 1 0) (5 + s.2.2.1) 2 x) (5 + s.2.2.1) 3 z) := fun a b q1 q2 q3 q4 => by
    rw [up_ne (by omega), up_ne (by omega), up_ne (by omega), up_ne (by omega)]
    exact hF a b q1 q2 (by omega) (by omega)
  generalize jj_up (jj_up (jj_up (jj_up M (5 + s.2.2.1) 0 1) (5 + s.2.2.1) 1 0) (5 + s.2.2.1) 2 x) (5 + s.2.2.1) 3 z = N at hD hF2
  show ez xs 52 64 [some (.ref 29), some (.int x), some (.int z)] [] N Q
  refine ez_blk 1 rfl ?_
  show ez xs 52 65 [some (.ref 29), some (.int x), some (.int z)] [.int 1] N Q
  refine ez_ret rfl (by decide) rfl (g ⟨v.2.1, k1, u.2.1, k3⟩ N ?_ hF2)
  rw [← v.2.2, ← u.2.2]
  exact hD
theorem h_Parser_readCall {xs : jx_Xs} {m : zM} {Q : Option Value → zM → Prop} {t : Nat → Nat} {l : List Nat} {s : pS} (hk : tkC m t l) (ht : ∀ p ∈ l, t p ≤ 126) (hl : l.length ≤ 160) (hI : pI l.length s) (hC : pC m s) (hct : s.2.2.1 < 24)
    (g0 : ¬ (isF (sg t l (s.1 + 0)) ∧ sg t l (s.1 + 1) = 40 ∧ isV (sg t l (s.1 + 2)) ∧ sg t l (s.1 + 3) = 41 ∧ sg t l (s.1 + 4) = 59) → Q (some (.int 0)) m)
    (g : isF (sg t l (s.1 + 0)) ∧ sg t l (s.1 + 1) = 40 ∧ isV (sg t l (s.1 + 2)) ∧ sg t l (s.1 + 3) = 41 ∧ sg t l (s.1 + 4) = 59 → ∀ M, pC M (pAdd l s 5 0 (nI (sg t l (s.1 + 0) - 102)) (nI (sg t l (s.1 + 2) - 97)) 0 0) → frC m M → Q (some (.int 1)) M) : ez xs 53 0 (jx_ent 53 [.ref 29]) [] m Q := by
  have i1 := hI.1
  have v := ixF (m := m) (sg_le ht (s.1 + 0))
  have u := ixV (m := m) (sg_le ht (s.1 + 2))
  refine ez_blk 3 rfl ?_
  show ez xs 53 4 [some (.ref 29), none, none] [.int 0, .ref 29, .ref 1000001] m Q
  refine ez_call (as := [.ref 29, .int 0]) (rest := [.ref 1000001]) rfl (by decide) rfl ?_
  refine ahead_e (k := 0) hk ht hl hC.1 (by omega) rfl ?_
  show ez xs 53 7 [some (.ref 29), none, none] [.int (nI (sg t l (s.1 + 0))), .ref 1000001] m Q
  refine ez_call (as := [.ref 1000001, .int (nI (sg t l (s.1 + 0)))]) (rest := []) rfl (by decide) rfl ?_
  refine c_String_indexOf2_1 ?_
  generalize f_StringLatin1_indexOf_1 m (nI (sg t l (s.1 + 0))) = x at v
  show ez xs 53 10 [some (.ref 29), none, none] [.int x] m Q
  refine ez_blk 4 rfl ?_
  show ez xs 53 15 [some (.ref 29), some (.int x), none] [.int 2, .ref 29, .ref 1000000] m Q
  refine ez_call (as := [.ref 29, .int 2]) (rest := [.ref 1000000]) rfl (by decide) rfl ?_
  refine ahead_e (k := 2) hk ht hl hC.1 (by omega) rfl ?_
  show ez xs 53 18 [some (.ref 29), some (.int x), none] [.int (nI (sg t l (s.1 + 2))), .ref 1000000] m Q
  refine ez_call (as := [.ref 1000000, .int (nI (sg t l (s.1 + 2)))]) (rest := []) rfl (by decide) rfl ?_
  refine c_String_indexOf2_0 ?_
  generalize f_StringLatin1_indexOf_0 m (nI (sg t l (s.1 + 2))) = z at u
  show ez xs 53 21 [some (.ref 29), some (.int x), none] [.int z] m Q
  have no : ¬ (isF (sg t l (s.1 + 0)) ∧ sg t l (s.1 + 1) = 40 ∧ isV (sg t l (s.1 + 2)) ∧ sg t l (s.1 + 3) = 41 ∧ sg t l (s.1 + 4) = 59) → ez xs 53 60 [some (.ref 29), some (.int x), some (.int z)] [] m Q := fun h => by
    refine ez_blk 1 rfl ?_
    show ez xs 53 61 [some (.ref 29), some (.int x), some (.int z)] [.int 0] m Q
    exact ez_ret rfl (by decide) rfl (g0 h)
  refine ez_blk 2 rfl ?_
  show ez xs 53 23 [some (.ref 29), some (.int x), some (.int z)] [.int x] m Q
  refine ez_if_lt rfl (fun h => no (fun q => ?_)) (fun h1 => ?_)
  · rcases v with v | v
    · exact v.2 q.1
    · exact v.1 h
  have v := v.resolve_left (fun q => h1 q.1)
  have e1 : nI (sg t l (s.1 + 1)) = 40 ↔ sg t l (s.1 + 1) = 40 := nI_eq (b := 40) (by have := sg_le ht (s.1 + 1); omega) (by omega)
  show ez xs 53 26 [some (.ref 29), some (.int x), some (.int z)] [] m Q
  refine ez_blk 2 rfl ?_
  show ez xs 53 28 [some (.ref 29), some (.int x), some (.int z)] [.int 1, .ref 29] m Q
  refine ez_call (as := [.ref 29, .int 1]) (rest := []) rfl (by decide) rfl ?_
  refine ahead_e (k := 1) hk ht hl hC.1 (by omega) rfl ?_
  show ez xs 53 31 [some (.ref 29), some (.int x), some (.int z)] [.int (nI (sg t l (s.1 + 1)))] m Q
  refine ez_blk 1 rfl ?_
  show ez xs 53 33 [some (.ref 29), some (.int x), some (.int z)] [.int 40, .int (nI (sg t l (s.1 + 1)))] m Q
  refine ez_icmp_ne rfl (fun hh => no (fun q => hh (e1.mpr q.2.1))) (fun hh => ?_)
  have k1 := e1.mp hh
  show ez xs 53 36 [some (.ref 29), some (.int x), some (.int z)] [] m Q
  refine ez_blk 1 rfl ?_
  show ez xs 53 37 [some (.ref 29), some (.int x), some (.int z)] [.int z] m Q
  refine ez_if_lt rfl (fun h => no (fun q => ?_)) (fun h2 => ?_)
  · rcases u with u | u
    · exact u.2 q.2.2.1
    · exact u.1 h
  have u := u.resolve_left (fun q => h2 q.1)
  have e3 : nI (sg t l (s.1 + 3)) = 41 ↔ sg t l (s.1 + 3) = 41 := nI_eq (b := 41) (by have := sg_le ht (s.1 + 3); omega) (by omega)
  show ez xs 53 40 [some (.ref 29), some (.int x), some (.int z)] [] m Q
  refine ez_blk 2 rfl ?_
  show ez xs 53 42 [some (.ref 29), some (.int x), some (.int z)] [.int 3, .ref 29] m Q
  refine ez_call (as := [.ref 29, .int 3]) (rest := []) rfl (by decide) rfl ?_
  refine ahead_e (k := 3) hk ht hl hC.1 (by omega) rfl ?_
  show ez xs 53 45 [some (.ref 29), some (.int x), some (.int z)] [.int (nI (sg t l (s.1 + 3)))] m Q
  refine ez_blk 1 rfl ?_
  show ez xs 53 47 [some (.ref 29), some (.int x), some (.int z)] [.int 41, .int (nI (sg t l (s.1 + 3)))] m Q
  refine ez_icmp_ne rfl (fun hh => no (fun q => hh (e3.mpr q.2.2.2.1))) (fun hh => ?_)
  have k3 := e3.mp hh
  have e4 : nI (sg t l (s.1 + 4)) = 59 ↔ sg t l (s.1 + 4) = 59 := nI_eq (b := 59) (by have := sg_le ht (s.1 + 4); omega) (by omega)
  show ez xs 53 50 [some (.ref 29), some (.int x), some (.int z)] [] m Q
  refine ez_blk 2 rfl ?_
  show ez xs 53 52 [some (.ref 29), some (.int x), some (.int z)] [.int 4, .ref 29] m Q
  refine ez_call (as := [.ref 29, .int 4]) (rest := []) rfl (by decide) rfl ?_
  refine ahead_e (k := 4) hk ht hl hC.1 (by omega) rfl ?_
  show ez xs 53 55 [some (.ref 29), some (.int x), some (.int z)] [.int (nI (sg t l (s.1 + 4)))] m Q
  refine ez_blk 1 rfl ?_
  show ez xs 53 57 [some (.ref 29), some (.int x), some (.int z)] [.int 59, .int (nI (sg t l (s.1 + 4)))] m Q
  refine ez_icmp_eq rfl (fun hh => ?_) (fun hh => no (fun q => hh (e4.mpr q.2.2.2.2)))
  have k4 := e4.mp hh
  have hlen := sg_lt k4 (by omega)
  show ez xs 53 62 [some (.ref 29), some (.int x), some (.int z)] [] m Q
  refine ez_blk 2 rfl ?_
  show ez xs 53 64 [some (.ref 29), some (.int x), some (.int z)] [.int 5, .ref 29] m Q
  refine ez_call (as := [.ref 29, .int 5]) (rest := []) rfl (by decide) rfl ?_
  refine h_Parser_addNode (len := 5) hk hl hI hC hct (by omega) (by omega) (fun M hM hF => ?_)
  show ez xs 53 67 [some (.ref 29), some (.int x), some (.int z)] [.ref (5 + s.2.2.1)] M Q
  refine ez_blk 4 rfl ?_
  show ez xs 53 71 [some (.ref 29), some (.int x), some (.int z)] [.int 0, .int z, .int x, .int 0, .ref (5 + s.2.2.1)] M Q
  refine ez_calls (i := 5 + s.2.2.1) (as2 := [.int 0, .int x, .int z, .int 0]) (rest := []) rfl (by decide) rfl rfl rfl (z_ndi hct) (z_nds hct) rfl ?_
  refine c_Node_describe (i_r := (z_ndi hct)) (s_r := (z_nds hct)) ?_
  have hD := pAdd_desc (k := 0) (f := x) (x := z) (y := 0) hM hct
  have hF2 : frC m (jj_up (jj_up (jj_up (jj_up M (5 + s.2.2.1) 0 0) (5 + s.2.2.1) 1 x) (5 + s.2.2.1) 2 z) (5 + s.2.2.1) 3 0) := fun a b q1 q2 q3 q4 => by
    rw [up_ne (by omega), up_ne (by omega), up_ne (by omega), up_ne (by omega)]
    exact hF a b q1 q2 (by omega) (by omega)
  generalize jj_up (jj_up (jj_up (jj_up M (5 + s.2.2.1) 0 0) (5 + s.2.2.1) 1 x) (5 + s.2.2.1) 2 z) (5 + s.2.2.1) 3 0 = N at hD hF2
  show ez xs 53 74 [some (.ref 29), some (.int x), some (.int z)] [] N Q
  refine ez_blk 1 rfl ?_
  show ez xs 53 75 [some (.ref 29), some (.int x), some (.int z)] [.int 1] N Q
  refine ez_ret rfl (by decide) rfl (g ⟨v.2.1, k1, u.2.1, k3, k4⟩ N ?_ hF2)
  rw [← v.2.2, ← u.2.2]
  exact hD
