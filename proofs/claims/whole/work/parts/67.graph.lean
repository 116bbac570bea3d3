/-! What is kept of the reading; the contracts nodes, edge, begins. -/
def tN (m : zM) : Nat := (m 1 1).toNatClampNeg
def tX (m : zM) (j : Nat) : Nat := (m 2 j).toNatClampNeg
theorem rT_tx {m : zM} (h : rT m) : txOk (tN m) (tX m) ∧ txC m (tN m) (tX m) ∧ txM m (tN m) (tX m) := by
  obtain ⟨n, hn, h1, h2, ht⟩ := h
  have e : tN m = n := by unfold tN; rw [h1, nI_clamp (by omega)]
  rw [e]
  have E : ∀ j, j < n → 32 ≤ tX m j ∧ tX m j ≤ 126 ∧ m 2 j = nI (tX m j) ∧ m 132 j = nI (tX m j) := fun j hj => by
    obtain ⟨c, c1, c2, c3, c4⟩ := ht j hj
    have z : tX m j = c := by unfold tX; rw [c3, nI_clamp (by omega)]
    rw [z]
    exact ⟨c1, c2, c3, c4⟩
  exact ⟨⟨hn, fun j hj => ⟨(E j hj).1, (E j hj).2.1⟩⟩, ⟨h1, fun j hj => (E j hj).2.2.1⟩, ⟨h2, fun j hj => (E j hj).2.2.2⟩⟩
theorem tX_same {m M : zM} (h1 : M 1 1 = m 1 1) (h2 : ∀ j, M 2 j = m 2 j) : tN M = tN m ∧ tX M = tX m := by
  unfold tN
  refine ⟨by rw [h1], funext fun j => ?_⟩
  unfold tX
  rw [h2]
def PCd (m : zM) : Prop := (pParse (tX m) (tN m) = none ∧ m 0 6 = 0) ∨ ∃ s, pParse (tX m) (tN m) = some s ∧ m 0 6 = 1 ∧ gC m s.2.2.1 s.2.2.2.2.2.2
theorem gC_same {m M : zM} {c : Nat} {nd : Nat → Nat → Int32} (hc : c ≤ 24) (h : ∀ a b, 3 ≤ a → a ≤ 28 → M a b = m a b) (g : gC m c nd) : gC M c nd := by
  refine ⟨(h 3 1 (by omega) (by omega)).trans g.1, fun n hn => ?_⟩
  have w : ∀ k, M (5 + n) k = m (5 + n) k := fun k => h (5 + n) k (by omega) (by omega)
  rw [w, w]
  refine ⟨fun k hk => ?_, (g.2 n hn).2⟩
  rw [w]
  exact (g.2 n hn).1 k hk
theorem hPCd : ∀ m m' : zM, (∀ i k, i ≤ 28 → (i = 0 → k = 6) → m' i k = m i k) → PCd m → PCd m' := by
  intro m m' h g
  obtain ⟨e1, e2⟩ := tX_same (h 1 1 (by omega) (by omega)) (fun j => h 2 j (by omega) (by omega))
  unfold PCd
  rw [e1, e2, h 0 6 (by omega) (fun _ => rfl)]
  rcases g with g | ⟨s, g1, g2, g3⟩
  · exact Or.inl g
  · exact Or.inr ⟨s, g1, g2, gC_same (pParse_J g1).1.2.2.1 (fun a b q1 q2 => h a b q2 (by omega)) g3⟩
/-- what the class's reading writes -/
def frW (m M : zM) : Prop := ∀ a b, ¬ (a = 0 ∧ (b = 6 ∨ b = 7)) → ¬ (a = 3 ∧ b = 1) → ¬ (5 ≤ a ∧ a ≤ 35) → M a b = m a b
theorem h_isWellFormed {xs : jx_Xs} {m : zM} {Q : Option Value → zM → Prop} (hT : rT m) (h7 : m 0 7 = 0 ∨ m 0 7 = 1 ∧ PCd m) (g : ∀ M, PCd M → M 0 7 = 1 → frW m M → Q (some (.int (M 0 6))) M) : ez xs 58 0 (jx_ent 58 [.ref 0]) [] m Q := by
  have END : ∀ M, PCd M → M 0 7 = 1 → frW m M → ez xs 58 41 [some (.ref 0)] [] M Q := fun M q1 q2 q3 => by
    refine ez_blk 2 rfl ?_
    show ez xs 58 45 [some (.ref 0)] [.int (M 0 6)] M Q
    refine ez_retz rfl rfl ?_ (g M q1 q2 q3)
    rcases q1 with ⟨-, q⟩ | ⟨s, -, q, -⟩
    · exact Or.inl q
    · exact Or.inr q
  refine ez_blk 2 rfl ?_
  show ez xs 58 4 [some (.ref 0)] [.int (m 0 7)] m Q
  refine ez_if_ne rfl (fun h => ?_) (fun h => ?_)
  · rcases h7 with q | ⟨q1, q2⟩
    · exact absurd q h
    · exact END m q2 q1 (fun _ _ _ _ _ => rfl)
  obtain ⟨x1, x2, -⟩ := rT_tx hT
  show ez xs 58 7 [some (.ref 0)] [] m Q
  refine ez_blk 5 rfl ?_
  show ez xs 58 16 [some (.ref 0)] [.ref 1, .ref 29, .ref 0] m Q
  refine ez_call (as := [.ref 29, .ref 1]) (rest := [.ref 0]) rfl (by decide) rfl ?_
  refine h_Parser_read x1 x2 (fun q M hF => ?_) (fun s q M hM hI hF => ?_)
  · show ez xs 58 19 [some (.ref 0)] [.int 0, .ref 0] M Q
    refine ez_blk 3 rfl ?_
    show ez xs 58 26 [some (.ref 0)] [.int 0] (jj_up M 0 6 0) Q
    refine ez_if_eq rfl (fun _ => ?_) (fun z => absurd rfl z)
    show ez xs 58 36 [some (.ref 0)] [] (jj_up M 0 6 0) Q
    refine ez_blk 3 rfl ?_
    have fr : frW m (jj_up (jj_up M 0 6 0) 0 7 1) := fun a b z1 z2 z3 => by
      rw [up_ne2 (by omega), up_ne2 (by omega)]
      exact hF a b z2 (by omega) (by omega) (by omega)
    refine END (jj_up (jj_up M 0 6 0) 0 7 1) (Or.inl ⟨?_, ?_⟩) up_eq fr
    · obtain ⟨e1, e2⟩ := tX_same (fr 1 1 (by omega) (by omega) (by omega)) (fun j => fr 2 j (by omega) (by omega) (by omega))
      rw [e1, e2]
      exact q
    · rw [up_k (by omega), up_eq]
  · show ez xs 58 19 [some (.ref 0)] [.int 1, .ref 0] M Q
    refine ez_blk 3 rfl ?_
    show ez xs 58 26 [some (.ref 0)] [.int 1] (jj_up M 0 6 1) Q
    refine ez_if_eq rfl (fun z => absurd z (by decide)) (fun _ => ?_)
    show ez xs 58 29 [some (.ref 0)] [] (jj_up M 0 6 1) Q
    refine ez_blk 2 rfl ?_
    show ez xs 58 33 [some (.ref 0)] [.ref 3] (jj_up M 0 6 1) Q
    refine ez_call (as := [.ref 3]) (rest := []) rfl (by decide) rfl ?_
    obtain ⟨jI, dep, A, B, -, hnd, -⟩ := pParse_J q
    have c3 : (jj_up M 0 6 1) 3 1 = nI s.2.2.1 := by rw [up_ne (by omega)]; exact hM.2.2.1
    have c5 : ∀ n, n < s.2.2.1 → ∀ k, k < 11 → (jj_up M 0 6 1) (5 + n) k = s.2.2.2.2.2.2 n k := fun n hn k hk => by rw [up_ne (by omega)]; exact hM.2.2.2.2 n hn k hk
    refine h_Program_connect jI.2.2.1 hnd c3 c5 (fun N hN hNF => ?_)
    show ez xs 58 36 [some (.ref 0)] [] N Q
    refine ez_blk 3 rfl ?_
    have fr : frW m (jj_up N 0 7 1) := fun a b z1 z2 z3 => by
      rw [up_ne2 (by omega), hNF a b (by omega), up_ne2 (by omega)]
      exact hF a b z2 (by omega) (by omega) (by omega)
    refine END (jj_up N 0 7 1) (Or.inr ⟨s, ?_, ?_, gC_same jI.2.2.1 (fun a b _ _ => up_ne (by omega)) hN⟩) up_eq fr
    · obtain ⟨e1, e2⟩ := tX_same (fr 1 1 (by omega) (by omega) (by omega)) (fun j => fr 2 j (by omega) (by omega) (by omega))
      rw [e1, e2]
      exact q
    · rw [up_k (by omega), hNF 0 6 (by omega), up_eq]
/-- cells that what is kept of a search speaks of -/
def sQ (a b : Nat) : Prop := a = 1 ∨ a = 2 ∨ (36 ≤ a ∧ a ≤ 128) ∨ (149 ≤ a ∧ a ≤ 163) ∨ (a = 131 ∧ b = 21)
theorem rT_same {m M : zM} (h1 : ∀ a b, 1 ≤ a → a ≤ 2 → M a b = m a b) (h2 : M 131 0 = m 131 0) (h3 : ∀ b, M 132 b = m 132 b) (g : rT m) : rT M := by
  obtain ⟨n, hn, q1, q2, q3⟩ := g
  refine ⟨n, hn, (h1 1 1 (by omega) (by omega)).trans q1, h2.trans q2, fun j hj => ?_⟩
  rw [h1 2 j (by omega) (by omega), h3]
  exact q3 j hj
section GRAPH
variable {SC : zM → Prop} {xs : jx_Xs}
theorem rR_wn (hSC : ∀ m M : zM, (∀ a b, sQ a b → M a b = m a b) → SC m → SC M) {m M N : zM} (h : rR PCd SC m) (h1 : frW m M) (h2 : PCd M) (h3 : M 0 7 = 1) (h4 : frN M N) : rR PCd SC N := by
  obtain ⟨hT, hS, hC⟩ := h
  have W : ∀ a b, ¬ (a = 0 ∧ (b = 6 ∨ b = 7)) → ¬ (a = 3 ∧ b = 1) → ¬ (5 ≤ a ∧ a ≤ 35) → ¬ (a = 131 ∧ (b = 2 ∨ b = 5 ∨ b = 20)) → ¬ (133 ≤ a ∧ a ≤ 148) → N a b = m a b := fun a b q1 q2 q3 q4 q5 => (h4 a b q4 q5).trans (h1 a b q1 q2 q3)
  refine ⟨rT_same (fun a b q1 q2 => W a b (by omega) (by omega) (by omega) (by omega) (by omega)) (W 131 0 (by omega) (by omega) (by omega) (by omega) (by omega)) (fun b => W 132 b (by omega) (by omega) (by omega) (by omega) (by omega)) hT, rS_same (fun a k q => ?_) hS, Or.inr ⟨?_, hPCd M N (fun i k q1 q2 => h4 i k (by omega) (by omega)) h2⟩, ?_⟩
  · have q : (36 ≤ a ∧ a ≤ 73) ∨ (149 ≤ a ∧ a ≤ 163) ∨ (a = 131 ∧ k = 21) := q
    exact W a k (by omega) (by omega) (by omega) (by omega) (by omega)
  · rw [h4 0 7 (by omega) (by omega)]
    exact h3
  · rw [W 0 8 (by omega) (by omega) (by omega) (by omega) (by omega)]
    rcases hC.2 with q | ⟨q1, q2⟩
    · exact Or.inl q
    · refine Or.inr ⟨q1, hSC m N (fun a b z => ?_) q2⟩
      have z : a = 1 ∨ a = 2 ∨ (36 ≤ a ∧ a ≤ 128) ∨ (149 ≤ a ∧ a ≤ 163) ∨ (a = 131 ∧ b = 21) := z
      exact W a b (by omega) (by omega) (by omega) (by omega) (by omega)
/-- both readings, one behind the other -/
theorem w_text {m M : zM} (h : rT m) (h1 : frW m M) : txOk (tN M) (tX M) ∧ txM M (tN M) (tX M) := by
  have q := rT_tx (rT_same (fun a b q1 q2 => h1 a b (by omega) (by omega) (by omega)) (h1 131 0 (by omega) (by omega) (by omega)) (fun b => h1 132 b (by omega) (by omega) (by omega)) h)
  exact ⟨q.1, q.2.2⟩
theorem o_nodes (hSC : ∀ m M : zM, (∀ a b, sQ a b → M a b = m a b) → SC m → SC M) : zo (rR PCd SC) xs 60 72 [] := by
  intro m hR
  refine ez_blk 1 rfl ?_
  show ez xs 60 1 [some (.ref 0)] [.ref 0] m _
  refine ez_call (as := [.ref 0]) (rest := []) rfl (by decide) rfl ?_
  refine h_isWellFormed hR.1 hR.2.2.1 (fun M q1 q2 q3 => ?_)
  obtain ⟨x1, x2⟩ := w_text hR.1 q3
  show ez xs 60 4 [some (.ref 0)] [.int (M 0 6)] M _
  rcases id q1 with ⟨p1, p2⟩ | ⟨s, p1, p2, p3⟩
  · rw [p2]
    refine ez_if_eq rfl (fun _ => ?_) (fun z => absurd rfl z)
    show ez xs 60 17 [some (.ref 0)] [] M _
    refine ez_blk 1 rfl ?_
    show ez xs 60 18 [some (.ref 0)] [.int (-1)] M _
    refine ez_ret rfl (by decide) rfl ⟨-1, rfl, ?_⟩
    refine ez_blk 1 rfl ?_
    show ez xs 72 1 [some (.ref 131)] [.ref 131] M _
    refine ez_call (as := [.ref 131]) (rest := []) rfl (by decide) rfl ?_
    refine h_M_read x1 x2 (fun _ N hN => ?_) (fun s z => absurd (p1.symm.trans z) (by intro w; cases w))
    show ez xs 72 4 [some (.ref 131)] [.int 0] N _
    refine ez_if_eq rfl (fun _ => ?_) (fun z => absurd rfl z)
    show ez xs 72 14 [some (.ref 131)] [] N _
    refine ez_blk 1 rfl ?_
    show ez xs 72 15 [some (.ref 131)] [.int (-1)] N _
    exact ez_ret rfl (by decide) rfl ⟨rfl, rR_wn hSC hR q3 q1 q2 hN⟩
  · rw [p2]
    refine ez_if_eq rfl (fun z => absurd z (by decide)) (fun _ => ?_)
    show ez xs 60 7 [some (.ref 0)] [] M _
    refine ez_blk 2 rfl ?_
    show ez xs 60 11 [some (.ref 0)] [.ref 3] M _
    refine ez_call (as := [.ref 3]) (rest := []) rfl (by decide) rfl ?_
    refine c_Program_size ?_
    show ez xs 60 14 [some (.ref 0)] [.int (M 3 1)] M _
    refine ez_blk 1 rfl ?_
    show ez xs 60 18 [some (.ref 0)] [.int (M 3 1)] M _
    refine ez_ret rfl (by decide) rfl ⟨M 3 1, rfl, ?_⟩
    refine ez_blk 1 rfl ?_
    show ez xs 72 1 [some (.ref 131)] [.ref 131] M _
    refine ez_call (as := [.ref 131]) (rest := []) rfl (by decide) rfl ?_
    refine h_M_read x1 x2 (fun z => absurd (p1.symm.trans z) (by intro w; cases w)) (fun s' z N hG hN => ?_)
    cases p1.symm.trans z
    show ez xs 72 4 [some (.ref 131)] [.int 1] N _
    refine ez_if_eq rfl (fun z => absurd z (by decide)) (fun _ => ?_)
    show ez xs 72 7 [some (.ref 131)] [] N _
    refine ez_blk 3 rfl ?_
    show ez xs 72 15 [some (.ref 131)] [.int (N 131 5)] N _
    refine ez_ret rfl (by decide) rfl ⟨?_, rR_wn hSC hR q3 q1 q2 hN⟩
    rw [hG.1, p3.1]
theorem o_begins (hSC : ∀ m M : zM, (∀ a b, sQ a b → M a b = m a b) → SC m → SC M) (v : Int32) : zo (rR PCd SC) xs 77 78 [.int v] := by
  intro m hR
  refine ez_blk 1 rfl ?_
  show ez xs 77 1 [some (.ref 0), some (.int v)] [.ref 0] m _
  refine ez_call (as := [.ref 0]) (rest := []) rfl (by decide) rfl ?_
  refine h_isWellFormed hR.1 hR.2.2.1 (fun M q1 q2 q3 => ?_)
  obtain ⟨x1, x2⟩ := w_text hR.1 q3
  show ez xs 77 4 [some (.ref 0), some (.int v)] [.int (M 0 6)] M _
  have MNO : ∀ N, frN M N → ez xs 78 19 [some (.ref 131), some (.int v)] [] N (fun r2 m2 => r2 = some (.int (-1)) ∧ rR PCd SC m2) := fun N hN => by
    refine ez_blk 2 rfl ?_
    exact ez_ret (y := 78) rfl (by decide) rfl ⟨rfl, rR_wn hSC hR q3 q1 q2 hN⟩
  rcases id q1 with ⟨p1, p2⟩ | ⟨s, p1, p2, p3⟩
  · rw [p2]
    refine ez_if_eq rfl (fun _ => ?_) (fun z => absurd rfl z)
    show ez xs 77 32 [some (.ref 0), some (.int v)] [] M _
    refine ez_blk 1 rfl ?_
    show ez xs 77 33 [some (.ref 0), some (.int v)] [.int (-1)] M _
    refine ez_ret rfl (by decide) rfl ⟨-1, rfl, ?_⟩
    refine ez_blk 1 rfl ?_
    show ez xs 78 1 [some (.ref 131), some (.int v)] [.ref 131] M _
    refine ez_call (as := [.ref 131]) (rest := []) rfl (by decide) rfl ?_
    refine h_M_read x1 x2 (fun _ N hN => ?_) (fun s z => absurd (p1.symm.trans z) (by intro w; cases w))
    show ez xs 78 4 [some (.ref 131), some (.int v)] [.int 0] N _
    exact ez_if_eq rfl (fun _ => MNO N hN) (fun z => absurd rfl z)
  · have h24 := (pParse_J p1).1.2.2.1
    rw [p2]
    refine ez_if_eq rfl (fun z => absurd z (by decide)) (fun _ => ?_)
    show ez xs 77 7 [some (.ref 0), some (.int v)] [] M _
    refine ez_blk 3 rfl ?_
    show ez xs 77 12 [some (.ref 0), some (.int v)] [.int v, .ref 3] M _
    refine ez_call (as := [.ref 3, .int v]) (rest := []) rfl (by decide) rfl ?_
    refine d_Program_holds ?_
    show ez xs 77 15 [some (.ref 0), some (.int v)] [.int (f_Program_holds M v)] M _
    have MG : ∀ (u : Int32), (∀ N, gM N s.2.2.1 s.2.2.2.2.2.2 → frN M N → ez xs 78 7 [some (.ref 131), some (.int v)] [] N (fun r2 m2 => r2 = some (.int u) ∧ rR PCd SC m2)) → ez xs 78 0 (jx_ent 78 [.ref 131, .int v]) [] M (fun r2 m2 => r2 = some (.int u) ∧ rR PCd SC m2) := fun u hu => by
      refine ez_blk 1 rfl ?_
      show ez xs 78 1 [some (.ref 131), some (.int v)] [.ref 131] M _
      refine ez_call (as := [.ref 131]) (rest := []) rfl (by decide) rfl ?_
      refine h_M_read x1 x2 (fun z => absurd (p1.symm.trans z) (by intro w; cases w)) (fun s' z N hG hN => ?_)
      cases p1.symm.trans z
      show ez xs 78 4 [some (.ref 131), some (.int v)] [.int 1] N _
      exact ez_if_eq rfl (fun z => absurd z (by decide)) (fun _ => hu N hG hN)
    rcases pk_ix v (n := s.2.2.1) (by omega) with h | h | ⟨j, hj, rfl⟩
    · have e : f_Program_holds M v = 0 := by unfold f_Program_holds; rw [if_pos h]
      rw [e]
      refine ez_if_eq rfl (fun _ => ?_) (fun z => absurd rfl z)
      show ez xs 77 32 [some (.ref 0), some (.int v)] [] M _
      refine ez_blk 1 rfl ?_
      refine ez_ret (y := 77) rfl (by decide) rfl ⟨-1, rfl, MG (-1) (fun N hG hN => ?_)⟩
      refine ez_blk 1 rfl ?_
      show ez xs 78 8 [some (.ref 131), some (.int v)] [.int v] N _
      exact ez_if_lt rfl (fun _ => MNO N hN) (fun z => absurd h z)
    · have e : f_Program_holds M v = 0 := by
        unfold f_Program_holds
        rw [p3.1, if_pos h]
        split <;> rfl
      rw [e]
      refine ez_if_eq rfl (fun _ => ?_) (fun z => absurd rfl z)
      show ez xs 77 32 [some (.ref 0), some (.int v)] [] M _
      refine ez_blk 1 rfl ?_
      refine ez_ret (y := 77) rfl (by decide) rfl ⟨-1, rfl, MG (-1) (fun N hG hN => ?_)⟩
      refine ez_blk 1 rfl ?_
      show ez xs 78 8 [some (.ref 131), some (.int v)] [.int v] N _
      refine ez_if_lt rfl (fun _ => MNO N hN) (fun _ => ?_)
      show ez xs 78 11 [some (.ref 131), some (.int v)] [] N _
      refine ez_blk 3 rfl ?_
      show ez xs 78 16 [some (.ref 131), some (.int v)] [.int (N 131 5), .int v] N _
      rw [hG.1]
      exact ez_icmp_lt rfl (fun z => absurd z (Int32.not_lt.mpr h)) (fun _ => MNO N hN)
    · have n0 : ¬ nI j < 0 := nI_pos (by omega)
      have nc : ¬ nI s.2.2.1 ≤ nI j := nI_ge hj (by omega)
      have e : f_Program_holds M (nI j) = 1 := by unfold f_Program_holds; rw [if_neg n0, p3.1, if_neg nc]
      rw [e]
      refine ez_if_eq rfl (fun z => absurd z (by decide)) (fun _ => ?_)
      show ez xs 77 18 [some (.ref 0), some (.int (nI j))] [] M _
      refine ez_blk 3 rfl ?_
      show ez xs 77 23 [some (.ref 0), some (.int (nI j))] [.int (nI j), .ref 3] M _
      refine ez_call (as := [.ref 3, .int (nI j)]) (rest := []) rfl (by decide) rfl ?_
      rw [← p3.1] at nc
      refine c_Program_node (fun z => absurd z n0) (fun _ z => absurd z nc) (fun _ _ => vp_in_nI (by omega) (by omega)) (fun z => absurd z n0) (fun _ z => absurd z nc) (fun _ _ => ?_)
      rw [nI_clamp (by omega)]
      show ez xs 77 26 [some (.ref 0), some (.int (nI j))] [.ref (5 + j)] M _
      refine ez_getN rfl (z_ndi (by omega)) (z_nds (by omega)) (by decide) rfl ?_
      refine ez_blk 1 rfl ?_
      refine ez_ret (y := 77) rfl (by decide) rfl ⟨M (5 + j) 5, rfl, MG _ (fun N hG hN => ?_)⟩
      refine ez_blk 1 rfl ?_
      show ez xs 78 8 [some (.ref 131), some (.int (nI j))] [.int (nI j)] N _
      refine ez_if_lt rfl (fun z => absurd z n0) (fun _ => ?_)
      show ez xs 78 11 [some (.ref 131), some (.int (nI j))] [] N _
      refine ez_blk 3 rfl ?_
      show ez xs 78 16 [some (.ref 131), some (.int (nI j))] [.int (N 131 5), .int (nI j)] N _
      rw [hG.1]
      refine ez_icmp_lt rfl (fun _ => ?_) (fun z => absurd (nI_lt hj (by omega)) z)
      show ez xs 78 23 [some (.ref 131), some (.int (nI j))] [] N _
      refine ez_blk 3 rfl ?_
      show ez xs 78 28 [some (.ref 131), some (.int (nI j))] [.int (nI j), .ref 139] N _
      refine ez_iald (n := 24) rfl (by decide) rfl (by omega) (by omega) ?_
      refine ez_ret (y := 78) rfl (by decide) rfl ⟨?_, rR_wn hSC hR q3 q1 q2 hN⟩
      have w1 : N 139 j = s.2.2.2.2.2.2 j 5 := (hG.2 j hj).1 5 (by omega)
      rw [w1, (p3.2 j hj).1 5 (by omega)]
theorem o_edge (hSC : ∀ m M : zM, (∀ a b, sQ a b → M a b = m a b) → SC m → SC M) (v k : Int32) : zo (rR PCd SC) xs 75 76 [.int v, .int k] := by
  intro m hR
  refine ez_blk 1 rfl ?_
  show ez xs 75 1 [some (.ref 0), some (.int v), some (.int k)] [.ref 0] m _
  refine ez_call (as := [.ref 0]) (rest := []) rfl (by decide) rfl ?_
  refine h_isWellFormed hR.1 hR.2.2.1 (fun M q1 q2 q3 => ?_)
  obtain ⟨x1, x2⟩ := w_text hR.1 q3
  show ez xs 75 4 [some (.ref 0), some (.int v), some (.int k)] [.int (M 0 6)] M _
  have MNO : ∀ N, frN M N → ez xs 76 28 [some (.ref 131), some (.int v), some (.int k)] [] N (fun r2 m2 => r2 = some (.int (-1)) ∧ rR PCd SC m2) := fun N hN => by
    refine ez_blk 1 rfl ?_
    exact ez_ret (y := 76) rfl (by decide) rfl ⟨rfl, rR_wn hSC hR q3 q1 q2 hN⟩
  rcases id q1 with ⟨p1, p2⟩ | ⟨s, p1, p2, p3⟩
  · rw [p2]
    refine ez_if_eq rfl (fun _ => ?_) (fun z => absurd rfl z)
    show ez xs 75 33 [some (.ref 0), some (.int v), some (.int k)] [] M _
    refine ez_blk 1 rfl ?_
    refine ez_ret (y := 75) rfl (by decide) rfl ⟨-1, rfl, ?_⟩
    refine ez_blk 1 rfl ?_
    show ez xs 76 1 [some (.ref 131), some (.int v), some (.int k)] [.ref 131] M _
    refine ez_call (as := [.ref 131]) (rest := []) rfl (by decide) rfl ?_
    refine h_M_read x1 x2 (fun _ N hN => ?_) (fun s z => absurd (p1.symm.trans z) (by intro w; cases w))
    show ez xs 76 4 [some (.ref 131), some (.int v), some (.int k)] [.int 0] N _
    exact ez_if_eq rfl (fun _ => MNO N hN) (fun z => absurd rfl z)
  · have h24 := (pParse_J p1).1.2.2.1
    rw [p2]
    refine ez_if_eq rfl (fun z => absurd z (by decide)) (fun _ => ?_)
    show ez xs 75 7 [some (.ref 0), some (.int v), some (.int k)] [] M _
    refine ez_blk 3 rfl ?_
    show ez xs 75 12 [some (.ref 0), some (.int v), some (.int k)] [.int v, .ref 3] M _
    refine ez_call (as := [.ref 3, .int v]) (rest := []) rfl (by decide) rfl ?_
    refine d_Program_holds ?_
    show ez xs 75 15 [some (.ref 0), some (.int v), some (.int k)] [.int (f_Program_holds M v)] M _
    have MG : ∀ (u : Int32), (∀ N, gM N s.2.2.1 s.2.2.2.2.2.2 → frN M N → ez xs 76 7 [some (.ref 131), some (.int v), some (.int k)] [] N (fun r2 m2 => r2 = some (.int u) ∧ rR PCd SC m2)) → ez xs 76 0 (jx_ent 76 [.ref 131, .int v, .int k]) [] M (fun r2 m2 => r2 = some (.int u) ∧ rR PCd SC m2) := fun u hu => by
      refine ez_blk 1 rfl ?_
      show ez xs 76 1 [some (.ref 131), some (.int v), some (.int k)] [.ref 131] M _
      refine ez_call (as := [.ref 131]) (rest := []) rfl (by decide) rfl ?_
      refine h_M_read x1 x2 (fun z => absurd (p1.symm.trans z) (by intro w; cases w)) (fun s' z N hG hN => ?_)
      cases p1.symm.trans z
      show ez xs 76 4 [some (.ref 131), some (.int v), some (.int k)] [.int 1] N _
      exact ez_if_eq rfl (fun z => absurd z (by decide)) (fun _ => hu N hG hN)
    have NO : f_Program_holds M v = 0 → (∀ N, gM N s.2.2.1 s.2.2.2.2.2.2 → frN M N → ez xs 76 7 [some (.ref 131), some (.int v), some (.int k)] [] N (fun r2 m2 => r2 = some (.int (-1)) ∧ rR PCd SC m2)) → ez xs 75 15 [some (.ref 0), some (.int v), some (.int k)] [.int (f_Program_holds M v)] M (fun r m1 => ∃ v', r = some (.int v') ∧ ez xs 76 0 (jx_ent 76 [.ref 131, .int v, .int k]) [] m1 (fun r2 m2 => r2 = some (.int v') ∧ rR PCd SC m2)) := fun e hu => by
      rw [e]
      refine ez_if_eq rfl (fun _ => ?_) (fun z => absurd rfl z)
      show ez xs 75 33 [some (.ref 0), some (.int v), some (.int k)] [] M _
      refine ez_blk 1 rfl ?_
      exact ez_ret (y := 75) rfl (by decide) rfl ⟨-1, rfl, MG (-1) hu⟩
    rcases pk_ix v (n := s.2.2.1) (by omega) with h | h | ⟨j, hj, rfl⟩
    · refine NO (by unfold f_Program_holds; rw [if_pos h]) (fun N hG hN => ?_)
      refine ez_blk 1 rfl ?_
      show ez xs 76 8 [some (.ref 131), some (.int v), some (.int k)] [.int v] N _
      exact ez_if_lt rfl (fun _ => MNO N hN) (fun z => absurd h z)
    · refine NO (by unfold f_Program_holds; rw [p3.1, if_pos h]; split <;> rfl) (fun N hG hN => ?_)
      refine ez_blk 1 rfl ?_
      show ez xs 76 8 [some (.ref 131), some (.int v), some (.int k)] [.int v] N _
      refine ez_if_lt rfl (fun _ => MNO N hN) (fun _ => ?_)
      show ez xs 76 11 [some (.ref 131), some (.int v), some (.int k)] [] N _
      refine ez_blk 3 rfl ?_
      show ez xs 76 16 [some (.ref 131), some (.int v), some (.int k)] [.int (N 131 5), .int v] N _
      rw [hG.1]
      exact ez_icmp_ge rfl (fun _ => MNO N hN) (fun z => absurd h z)
    · have n0 : ¬ nI j < 0 := nI_pos (by omega)
      have nc : ¬ nI s.2.2.1 ≤ nI j := nI_ge hj (by omega)
      have e : f_Program_holds M (nI j) = 1 := by unfold f_Program_holds; rw [if_neg n0, p3.1, if_neg nc]
      rw [e]
      refine ez_if_eq rfl (fun z => absurd z (by decide)) (fun _ => ?_)
      show ez xs 75 18 [some (.ref 0), some (.int (nI j)), some (.int k)] [] M _
      refine ez_blk 3 rfl ?_
      show ez xs 75 23 [some (.ref 0), some (.int (nI j)), some (.int k)] [.int (nI j), .ref 3] M _
      refine ez_call (as := [.ref 3, .int (nI j)]) (rest := []) rfl (by decide) rfl ?_
      have nc' := nc
      rw [← p3.1] at nc
      refine c_Program_node (fun z => absurd z n0) (fun _ z => absurd z nc) (fun _ _ => vp_in_nI (by omega) (by omega)) (fun z => absurd z n0) (fun _ z => absurd z nc) (fun _ _ => ?_)
      rw [nI_clamp (by omega)]
      show ez xs 75 26 [some (.ref 0), some (.int (nI j)), some (.int k)] [.ref (5 + j)] M _
      refine ez_blk 1 rfl ?_
      show ez xs 75 27 [some (.ref 0), some (.int (nI j)), some (.int k)] [.int k, .ref (5 + j)] M _
      refine ez_calls (i := 5 + j) (as2 := [.int k]) (rest := []) rfl (by decide) rfl rfl rfl (z_ndi (by omega)) (z_nds (by omega)) rfl ?_
      refine d_Node_successor (z_ndi (by omega)) (z_nds (by omega)) ?_
      show ez xs 75 30 [some (.ref 0), some (.int (nI j)), some (.int k)] [.int (f_Node_successor M k (5 + j))] M _
      refine ez_blk 1 rfl ?_
      refine ez_ret (y := 75) rfl (by decide) rfl ⟨_, rfl, MG _ (fun N hG hN => ?_)⟩
      refine ez_blk 1 rfl ?_
      show ez xs 76 8 [some (.ref 131), some (.int (nI j)), some (.int k)] [.int (nI j)] N _
      refine ez_if_lt rfl (fun z => absurd z n0) (fun _ => ?_)
      show ez xs 76 11 [some (.ref 131), some (.int (nI j)), some (.int k)] [] N _
      refine ez_blk 3 rfl ?_
      show ez xs 76 16 [some (.ref 131), some (.int (nI j)), some (.int k)] [.int (N 131 5), .int (nI j)] N _
      rw [hG.1]
      refine ez_icmp_ge rfl (fun z => absurd z nc') (fun _ => ?_)
      show ez xs 76 19 [some (.ref 131), some (.int (nI j)), some (.int k)] [] N _
      refine ez_blk 1 rfl ?_
      show ez xs 76 20 [some (.ref 131), some (.int (nI j)), some (.int k)] [.int k] N _
      have NEG : ¬ k = 0 → ¬ k = 1 → f_Node_successor M k (5 + j) = -1 := fun z1 z2 => by unfold f_Node_successor; rw [if_neg z1, if_neg z2]
      refine ez_if_lt rfl (fun z => ?_) (fun z => ?_)
      · rw [NEG (fun w => by rw [w] at z; exact absurd z (by decide)) (fun w => by rw [w] at z; exact absurd z (by decide))]
        exact MNO N hN
      show ez xs 76 23 [some (.ref 131), some (.int (nI j)), some (.int k)] [] N _
      refine ez_blk 2 rfl ?_
      show ez xs 76 25 [some (.ref 131), some (.int (nI j)), some (.int k)] [.int 1, .int k] N _
      refine ez_icmp_le rfl (fun z2 => ?_) (fun z2 => ?_)
      · obtain ⟨q, hq, rfl⟩ := nI_of2 (n := 1) (M := 1) (by decide) z z2
        show ez xs 76 30 [some (.ref 131), some (.int (nI j)), some (.int (nI q))] [] N _
        refine ez_blk 7 rfl ?_
        show ez xs 76 39 [some (.ref 131), some (.int (nI j)), some (.int (nI q))] [.int (2 * nI j + nI q), .ref 145] N _
        rw [show (2 : Int32) = nI 2 from rfl, pk_mul, nI_add]
        refine ez_iald (n := 48) rfl (by decide) rfl (by omega) (by omega) ?_
        refine ez_ret (y := 76) rfl (by decide) rfl ⟨?_, rR_wn hSC hR q3 q1 q2 hN⟩
        have c01 : q = 0 ∨ q = 1 := by omega
        rcases c01 with rfl | rfl
        · have w : f_Node_successor M (nI 0) (5 + j) = M (5 + j) 11 := by rfl
          rw [w, Nat.add_zero, (hG.2 j hj).2.1, (p3.2 j hj).2.1]
        · have w : f_Node_successor M (nI 1) (5 + j) = M (5 + j) 12 := by rfl
          rw [w, (hG.2 j hj).2.2, (p3.2 j hj).2.2]
      · rw [NEG (fun w => by rw [w] at z2; exact absurd (by decide) z2) (fun w => by rw [w] at z2; exact absurd (by decide) z2)]
        exact MNO N hN
end GRAPH
