/-! The parser's statements: each a node, or none. -/
set_option maxRecDepth 100000 in
theorem ix0 (m : zM) : ∀ c, c ≤ 126 → f_StringLatin1_indexOf_0 m (nI c) = if 97 ≤ c ∧ c ≤ 100 then nI (c - 97) else -1 := by
  have h : ∀ m : zM, ∀ c ∈ List.range 127, f_StringLatin1_indexOf_0 m (nI c) = if 97 ≤ c ∧ c ≤ 100 then nI (c - 97) else -1 := by
    intro m
    have e : ∀ c ∈ List.range 127, f_StringLatin1_indexOf_0 (fun _ _ => 0) (nI c) = if 97 ≤ c ∧ c ≤ 100 then nI (c - 97) else -1 := by decide
    exact e
  intro c hc
  exact h m c (List.mem_range.mpr (by omega))
set_option maxRecDepth 100000 in
theorem ix1 (m : zM) : ∀ c, c ≤ 126 → f_StringLatin1_indexOf_1 m (nI c) = if 102 ≤ c ∧ c ≤ 104 then nI (c - 102) else -1 := by
  have h : ∀ m : zM, ∀ c ∈ List.range 127, f_StringLatin1_indexOf_1 m (nI c) = if 102 ≤ c ∧ c ≤ 104 then nI (c - 102) else -1 := by
    intro m
    have e : ∀ c ∈ List.range 127, f_StringLatin1_indexOf_1 (fun _ _ => 0) (nI c) = if 102 ≤ c ∧ c ≤ 104 then nI (c - 102) else -1 := by decide
    exact e
  intro c hc
  exact h m c (List.mem_range.mpr (by omega))
/-- the frame of a statement in the class -/
def frC (m M : zM) : Prop := ∀ a b, ¬ (a = 3 ∧ b = 1) → ¬ (5 ≤ a ∧ a ≤ 28) → ¬ (a = 29 ∧ (b = 5 ∨ b = 6)) → ¬ (33 ≤ a ∧ a ≤ 35) → M a b = m a b
abbrev isV (c : Nat) : Prop := 97 ≤ c ∧ c ≤ 100
theorem ahead_e {xs : jx_Xs} {m : zM} {Q : Option Value → zM → Prop} {t : Nat → Nat} {l : List Nat} {nx k : Nat} {i : Int32} (hk : tkC m t l) (ht : ∀ p ∈ l, t p ≤ 126) (hl : l.length ≤ 160) (hn : m 29 6 = nI nx) (hx : nx + k < 1000) (hi : i = nI k)
    (g : Q (some (.int (nI (sg t l (nx + k))))) m) : ez xs 32 0 (jx_ent 32 [.ref 29, .int i]) [] m Q := by
  have e : m 29 6 + i = nI (nx + k) := by rw [hn, hi, nI_add]
  apply c_Parser_ahead
  · rw [e]; exact fun _ h => sign_b1 hk hl hx h
  · rw [e]; exact fun _ h => sign_b2 hk ht hl hx h
  · rw [e]; exact sign_b3 hk ht hl hx
  · rw [e, sign_at hk hl hx]; exact g
theorem h_Parser_readReturn {xs : jx_Xs} {m : zM} {Q : Option Value → zM → Prop} {t : Nat → Nat} {l : List Nat} {s : pS} (hk : tkC m t l) (ht : ∀ p ∈ l, t p ≤ 126) (hl : l.length ≤ 160) (hI : pI l.length s) (hC : pC m s) (hct : s.2.2.1 < 24)
    (g0 : ¬ (isV (sg t l (s.1 + 1)) ∧ sg t l (s.1 + 2) = 59) → Q (some (.int 0)) m)
    (g : isV (sg t l (s.1 + 1)) → sg t l (s.1 + 2) = 59 → ∀ M, pC M (pAdd l s 3 2 0 (nI (sg t l (s.1 + 1) - 97)) 0 0) → frC m M → Q (some (.int 1)) M) : ez xs 51 0 (jx_ent 51 [.ref 29]) [] m Q := by
  have i1 := hI.1
  have h24 := hI.2.2.1
  have v := ix0 m (sg t l (s.1 + 1)) (sg_le ht _)
  refine ez_blk 3 rfl ?_
  show ez xs 51 4 [some (.ref 29), none] [.int 1, .ref 29, .ref 1000000] m Q
  refine ez_call (as := [.ref 29, .int 1]) (rest := [.ref 1000000]) rfl (by decide) rfl ?_
  refine ahead_e (k := 1) hk ht hl hC.1 (by omega) rfl ?_
  show ez xs 51 7 [some (.ref 29), none] [.int (nI (sg t l (s.1 + 1))), .ref 1000000] m Q
  refine ez_call (as := [.ref 1000000, .int (nI (sg t l (s.1 + 1)))]) (rest := []) rfl (by decide) rfl ?_
  refine c_String_indexOf2_0 ?_
  rw [v]
  by_cases hv : 97 ≤ sg t l (s.1 + 1) ∧ sg t l (s.1 + 1) ≤ 100
  case neg =>
    rw [if_neg hv]
    show ez xs 51 10 [some (.ref 29), none] [.int (-1)] m Q
    refine ez_blk 2 rfl ?_
    show ez xs 51 12 [some (.ref 29), some (.int (-1))] [.int (-1)] m Q
    refine ez_if_lt rfl (fun h5 => ?_) (fun h5 => absurd (by decide) h5)
    show ez xs 51 25 [some (.ref 29), some (.int (-1))] [] m Q
    refine ez_blk 1 rfl ?_
    show ez xs 51 26 [some (.ref 29), some (.int (-1))] [.int 0] m Q
    exact ez_ret rfl (by decide) rfl (g0 (fun q => hv q.1))
  rw [if_pos hv]
  generalize hx : nI (sg t l (s.1 + 1) - 97) = x at g
  have x0 : ¬ x < 0 := by rw [← hx]; exact nI_pos (by omega)
  show ez xs 51 10 [some (.ref 29), none] [.int x] m Q
  refine ez_blk 2 rfl ?_
  show ez xs 51 12 [some (.ref 29), some (.int x)] [.int x] m Q
  refine ez_if_lt rfl (fun h5 => absurd h5 x0) (fun h5 => ?_)
  show ez xs 51 15 [some (.ref 29), some (.int x)] [] m Q
  refine ez_blk 2 rfl ?_
  show ez xs 51 17 [some (.ref 29), some (.int x)] [.int 2, .ref 29] m Q
  refine ez_call (as := [.ref 29, .int 2]) (rest := []) rfl (by decide) rfl ?_
  refine ahead_e (k := 2) hk ht hl hC.1 (by omega) rfl ?_
  show ez xs 51 20 [some (.ref 29), some (.int x)] [.int (nI (sg t l (s.1 + 2)))] m Q
  refine ez_blk 1 rfl ?_
  show ez xs 51 22 [some (.ref 29), some (.int x)] [.int 59, .int (nI (sg t l (s.1 + 2)))] m Q
  have e2 : nI (sg t l (s.1 + 2)) = 59 ↔ sg t l (s.1 + 2) = 59 := nI_eq (b := 59) (by have := sg_le ht (s.1 + 2); omega) (by omega)
  refine ez_icmp_eq rfl (fun h10 => ?_) (fun h10 => ?_)
  case refine_2 =>
    show ez xs 51 25 [some (.ref 29), some (.int x)] [] m Q
    refine ez_blk 1 rfl ?_
    show ez xs 51 26 [some (.ref 29), some (.int x)] [.int 0] m Q
    exact ez_ret rfl (by decide) rfl (g0 (fun q => h10 (e2.mpr q.2)))
  have h10 := e2.mp h10
  have hlen := sg_lt h10 (by omega)
  show ez xs 51 27 [some (.ref 29), some (.int x)] [] m Q
  refine ez_blk 2 rfl ?_
  show ez xs 51 29 [some (.ref 29), some (.int x)] [.int 3, .ref 29] m Q
  refine ez_call (as := [.ref 29, .int 3]) (rest := []) rfl (by decide) rfl ?_
  refine h_Parser_addNode (len := 3) hk hl hI hC hct (by omega) (by omega) (fun M hM hF => ?_)
  show ez xs 51 32 [some (.ref 29), some (.int x)] [.ref (5 + s.2.2.1)] M Q
  refine ez_blk 4 rfl ?_
  show ez xs 51 36 [some (.ref 29), some (.int x)] [.int 0, .int x, .int 0, .int 2, .ref (5 + s.2.2.1)] M Q
  refine ez_calls (i := 5 + s.2.2.1) (as2 := [.int 2, .int 0, .int x, .int 0]) (rest := []) rfl (by decide) rfl rfl rfl (z_ndi hct) (z_nds hct) rfl ?_
  refine c_Node_describe (i_r := (z_ndi hct)) (s_r := (z_nds hct)) ?_
  have hD := pAdd_desc (k := 2) (f := 0) (x := x) (y := 0) hM hct
  have hF2 : frC m (jj_up (jj_up (jj_up (jj_up M (5 + s.2.2.1) 0 2) (5 + s.2.2.1) 1 0) (5 + s.2.2.1) 2 x) (5 + s.2.2.1) 3 0) := fun a b q1 q2 q3 q4 => by
    rw [up_ne (by omega), up_ne (by omega), up_ne (by omega), up_ne (by omega)]
    exact hF a b q1 q2 (by omega) (by omega)
  generalize jj_up (jj_up (jj_up (jj_up M (5 + s.2.2.1) 0 2) (5 + s.2.2.1) 1 0) (5 + s.2.2.1) 2 x) (5 + s.2.2.1) 3 0 = N at hD hF2
  show ez xs 51 39 [some (.ref 29), some (.int x)] [] N Q
  refine ez_blk 1 rfl ?_
  show ez xs 51 40 [some (.ref 29), some (.int x)] [.int 1] N Q
  exact ez_ret rfl (by decide) rfl (g hv h10 N hD hF2)
