/-! A test: its node, its loop, its first row opened. -/
theorem tkC_fr {m M : zM} {t : Nat → Nat} {l : List Nat} (hk : tkC m t l) (hF : frC m M) : tkC M t l := by
  refine ⟨?_, fun j p h => ?_⟩
  · rw [hF 30 2 (by omega) (by omega) (by omega) (by omega)]
    exact hk.1
  · rw [hF 31 j (by omega) (by omega) (by omega) (by omega), hF 32 j (by omega) (by omega) (by omega) (by omega)]
    exact hk.2 j p h
theorem h_Parser_readTest {xs : jx_Xs} {m : zM} {Q : Option Value → zM → Prop} {t : Nat → Nat} {l : List Nat} {s : pS} {w : Int32} (hk : tkC m t l) (ht : ∀ p ∈ l, t p ≤ 126) (hl : l.length ≤ 160) (hI : pI l.length s) (hC : pC m s) (hct : s.2.2.1 < 24) (hs : s.1 < l.length) (hw : w = 0 ∨ w = 1)
    (g0 : ¬ (isV (sg t l (s.1 + 1)) ∧ sg t l (s.1 + 2) = 123 ∧ s.2.1 < 6) → ∀ M, frC m M → Q (some (.int 0)) M)
    (g : isV (sg t l (s.1 + 1)) ∧ sg t l (s.1 + 2) = 123 ∧ s.2.1 < 6 → ∀ M, pC M (pOp (pAdd l s 2 3 0 (nI (sg t l (s.1 + 1) - 97)) 0 w) (s.1 + 2 + 1) (nI s.2.2.1) 0) → frC m M → Q (some (.int 1)) M) : ez xs 50 0 (jx_ent 50 [.ref 29, .int w]) [] m Q := by
  have i1 := hI.1
  have i2 := hI.2.1
  have v := ixV (m := m) (sg_le ht (s.1 + 1))
  refine ez_blk 3 rfl ?_
  show ez xs 50 4 [some (.ref 29), some (.int w), none, none] [.int 1, .ref 29, .ref 1000000] m Q
  refine ez_call (as := [.ref 29, .int 1]) (rest := [.ref 1000000]) rfl (by decide) rfl ?_
  refine ahead_e (k := 1) hk ht hl hC.1 (by omega) rfl ?_
  show ez xs 50 7 [some (.ref 29), some (.int w), none, none] [.int (nI (sg t l (s.1 + 1))), .ref 1000000] m Q
  refine ez_call (as := [.ref 1000000, .int (nI (sg t l (s.1 + 1)))]) (rest := []) rfl (by decide) rfl ?_
  refine c_String_indexOf2_0 ?_
  generalize f_StringLatin1_indexOf_0 m (nI (sg t l (s.1 + 1))) = x at v
  show ez xs 50 10 [some (.ref 29), some (.int w), none, none] [.int x] m Q
  refine ez_blk 2 rfl ?_
  show ez xs 50 12 [some (.ref 29), some (.int w), some (.int x), none] [.int x] m Q
  refine ez_if_ge rfl (fun h => ?_) (fun h => ?_)
  case refine_2 =>
    show ez xs 50 15 [some (.ref 29), some (.int w), some (.int x), none] [] m Q
    refine ez_blk 1 rfl ?_
    show ez xs 50 16 [some (.ref 29), some (.int w), some (.int x), none] [.int 0] m Q
    refine ez_ret rfl (by decide) rfl (g0 (fun q => ?_) m (fun _ _ _ _ _ _ => rfl))
    rcases v with v | v
    · exact v.2 q.1
    · exact v.1 (Int32.not_le.mp h)
  have v := v.resolve_left (fun q => absurd q.1 (Int32.not_lt.mpr h))
  have hlen : s.1 + 1 < l.length := by
    by_cases e : s.1 + 1 < l.length
    · exact e
    · have q := v.2.1.1
      unfold sg at q
      rw [if_neg e] at q
      omega
  show ez xs 50 17 [some (.ref 29), some (.int w), some (.int x), none] [] m Q
  refine ez_blk 2 rfl ?_
  show ez xs 50 19 [some (.ref 29), some (.int w), some (.int x), none] [.int 2, .ref 29] m Q
  refine ez_call (as := [.ref 29, .int 2]) (rest := []) rfl (by decide) rfl ?_
  refine h_Parser_addNode (len := 2) hk hl hI hC hct (by omega) (by omega) (fun M hM hF => ?_)
  show ez xs 50 22 [some (.ref 29), some (.int w), some (.int x), none] [.ref (5 + s.2.2.1)] M Q
  refine ez_blk 6 rfl ?_
  show ez xs 50 28 [some (.ref 29), some (.int w), some (.int x), some (.ref (5 + s.2.2.1))] [.int 0, .int x, .int 0, .int 3, .ref (5 + s.2.2.1)] M Q
  refine ez_calls (i := 5 + s.2.2.1) (as2 := [.int 3, .int 0, .int x, .int 0]) (rest := []) rfl (by decide) rfl rfl rfl (z_ndi hct) (z_nds hct) rfl ?_
  refine c_Node_describe (i_r := (z_ndi hct)) (s_r := (z_nds hct)) ?_
  have hD := pAdd_loop (w' := w) (pAdd_desc (k := 3) (f := 0) (x := x) (y := 0) hM hct) hct
  have hF2 : frC m (jj_up (jj_up (jj_up (jj_up (jj_up M (5 + s.2.2.1) 0 3) (5 + s.2.2.1) 1 0) (5 + s.2.2.1) 2 x) (5 + s.2.2.1) 3 0) (5 + s.2.2.1) 4 w) := fun a b q1 q2 q3 q4 => by
    rw [up_ne (by omega), up_ne (by omega), up_ne (by omega), up_ne (by omega), up_ne (by omega)]
    exact hF a b q1 q2 (by omega) (by omega)
  generalize jj_up (jj_up (jj_up (jj_up M (5 + s.2.2.1) 0 3) (5 + s.2.2.1) 1 0) (5 + s.2.2.1) 2 x) (5 + s.2.2.1) 3 0 = M2 at hD hF2
  show ez xs 50 31 [some (.ref 29), some (.int w), some (.int x), some (.ref (5 + s.2.2.1))] [] M2 Q
  refine ez_blk 2 rfl ?_
  show ez xs 50 33 [some (.ref 29), some (.int w), some (.int x), some (.ref (5 + s.2.2.1))] [.int w, .ref (5 + s.2.2.1)] M2 Q
  refine ez_putN rfl (z_ndi hct) (z_nds hct) (by decide) rfl (by rcases hw with rfl | rfl <;> rfl) ?_
  generalize jj_up M2 (5 + s.2.2.1) 4 w = N at hD hF2
  show ez xs 50 36 [some (.ref 29), some (.int w), some (.int x), some (.ref (5 + s.2.2.1))] [] N Q
  refine ez_blk 5 rfl ?_
  show ez xs 50 45 [some (.ref 29), some (.int w), some (.int x), some (.ref (5 + s.2.2.1))] [.int (N 29 5), .ref 35, .ref 29] N Q
  have d1 : N 29 5 = nI s.2.1 := hD.2.1
  have d2 : N 35 s.2.1 = nI s.2.2.1 := by
    rw [(hD.2.2.2.1 s.2.1 (Nat.le_refl _)).2.2]
    show upd s.2.2.2.2.2.1 s.2.1 (nI s.2.2.1) s.2.1 = nI s.2.2.1
    unfold upd
    rw [if_pos rfl]
  refine ez_ialdv rfl (by decide) rfl (by rw [d1]; exact vp_in_nI (by omega) (by omega)) ?_
  refine ez_top (v := nI s.2.2.1) (by rw [d1, nI_clamp (by omega), d2]) ?_
  show ez xs 50 46 [some (.ref 29), some (.int w), some (.int x), some (.ref (5 + s.2.2.1))] [.int (nI s.2.2.1), .ref 29] N Q
  refine ez_blk 1 rfl ?_
  show ez xs 50 47 [some (.ref 29), some (.int w), some (.int x), some (.ref (5 + s.2.2.1))] [.int 0, .int (nI s.2.2.1), .ref 29] N Q
  refine ez_call (as := [.ref 29, .int (nI s.2.2.1), .int 0]) (rest := []) rfl (by decide) rfl ?_
  refine h_Parser_openRow (t := t) (l := l) (s := pAdd l s 2 3 0 x 0 w) (tkC_fr hk hF2) ht hl (by show s.1 + 2 < 1000; omega) i2 (by show s.2.2.1 + 1 ≤ 24; omega) hD (fun q => ?_) (fun q1 q2 M3 h3 h4 => ?_)
  · exact ez_ret (y := 50) rfl (by decide) rfl (g0 (fun e => q ⟨e.2.1, e.2.2⟩) N hF2)
  · refine ez_ret (y := 50) rfl (by decide) rfl (g ⟨v.2.1, q1, q2⟩ M3 ?_ (fun a b e1 e2 e3 e4 => ?_))
    · rw [← v.2.2]
      exact h3
    · rw [h4 a b (by omega) (by omega) (by omega) (by omega)]
      exact hF2 a b e1 e2 e3 e4
