/-! The contract hit. -/
theorem hA_lt {S : zM} {c K k : Nat} {nd : Nat → Nat → Int32} {n : Nat} (hn : n < 32) : ∀ b, bt (hA S c nd K k (b + 1)) n = (bt (hA S c nd K k b) n || (posB S K b && bt (hK S c nd K (nI b) k) n)) := by
  intro b
  rw [hA]
  by_cases z : posB S K b = true
  · rw [if_pos z, bt_or, z]; rfl
  · have z0 : posB S K b = false := by
      cases w : posB S K b
      · rfl
      · exact absurd w z
    rw [if_neg z, z0, Bool.false_and, Bool.or_false]
theorem o_hit {xs : jx_Xs} {m : zM} (x k : Int32) (hR : rR PCd SCd m) (hC : jC (z_S m)) : ez xs 158 0 (jx_ent 158 [.ref 0, .int x, .int k]) [] m (fun r m1 => ∃ v, r = some (.int v) ∧ ez xs 161 0 (jx_ent 161 [.ref 131, .int x, .int k]) [] m1 (fun r2 m2 => r2 = some (.int v) ∧ rR PCd SCd m2)) := by
  obtain ⟨K, hK6, h36, h21, hU, hI⟩ := id hR.2.1
  refine ez_blk 1 rfl ?_
  show ez xs 158 1 [some (.ref 0), some (.int x), some (.int k)] [.ref 0] m _
  refine ez_call (as := [.ref 0]) (rest := []) rfl (by decide) rfl ?_
  refine ez_mono (h_ref3 hR hC hK6 h36 h21 hI) (fun r M q => ?_)
  obtain ⟨⟨P1, P2, P3, P4⟩, q⟩ := q
  have RET0 : ∀ (N : zM) (o3 o4 o5 : Option Value), rR PCd SCd N → ez xs 161 33 [some (.ref 131), some (.int x), some (.int k), o3, o4, o5] [] N (fun r2 m2 => r2 = some (.int 0) ∧ rR PCd SCd m2) := fun N o3 o4 o5 hN => by
    refine ez_blk 1 rfl ?_
    exact ez_ret (y := 161) rfl (by decide) rfl ⟨rfl, hN⟩
  have NO : (pParse (tX M) (tN M) = none ∨ ((∃ s, pParse (tX M) (tN M) = some s) ∧ nl m K)) → ez xs 158 29 [some (.ref 0), some (.int x), some (.int k)] [] M (fun r m1 => ∃ v, r = some (.int v) ∧ ez xs 161 0 (jx_ent 161 [.ref 131, .int x, .int k]) [] m1 (fun r2 m2 => r2 = some (.int v) ∧ rR PCd SCd m2)) := fun h => by
    refine ez_blk 1 rfl ?_
    refine ez_ret (y := 158) rfl (by decide) rfl ⟨0, rfl, ?_⟩
    refine ez_blk 1 rfl ?_
    show ez xs 161 1 [some (.ref 131), some (.int x), some (.int k), none, none, none] [.ref 131] M _
    refine ez_call (as := [.ref 131]) (rest := []) rfl (by decide) rfl ?_
    refine h_stA hR hK6 h21 hI P1 P2 P3 h (fun N v hv _ _ _ hN => ?_)
    refine ez_blk (pc' := 6) 2 rfl ?_
    show ez xs 161 6 [some (.ref 131), some (.int x), some (.int k), some (.int v), none, none] [.int v] N _
    exact ez_if_lt rfl (fun _ => RET0 N _ _ _ hN) (fun z => absurd hv z)
  rcases q with ⟨rfl, p⟩ | ⟨rfl, p, w⟩ | ⟨rfl, s, p, G, K0, w⟩
  · show ez xs 158 4 [some (.ref 0), some (.int x), some (.int k)] [.int (-1)] M _
    exact ez_if_ne rfl (fun _ => NO (Or.inl p)) (fun z => absurd z (by decide))
  · show ez xs 158 4 [some (.ref 0), some (.int x), some (.int k)] [.int (-2)] M _
    exact ez_if_ne rfl (fun _ => NO (Or.inr ⟨p, w⟩)) (fun z => absurd z (by decide))
  obtain ⟨jI, dep, A, B, -, hnd, -⟩ := pParse_J p
  have hc := jI.2.2.1
  have hE := gE_of hc hnd
  obtain ⟨x1, x2⟩ := w_text hR.1 P3
  have M21 : M 131 21 = nI K := by rw [P3 131 21 (by omega) (by omega) (by omega), h21]
  have M36 : M 36 1 = nI K := by rw [P3 36 1 (by omega) (by omega) (by omega), h36]
  have n154 : ∀ i, M 154 i = m 154 i := fun i => P3 154 i (by omega) (by omega) (by omega)
  -- the reference, where a number is none
  have OUTSIDE : ¬ ((∃ a : Nat, a < s.2.2.1 ∧ x = nI a) ∧ ∃ b : Nat, b < K ∧ k = nI b) → ez xs 158 29 [some (.ref 0), some (.int x), some (.int k)] [] M (fun r m1 => ∃ v, r = some (.int v) ∧ ez xs 161 0 (jx_ent 161 [.ref 131, .int x, .int k]) [] m1 (fun r2 m2 => r2 = some (.int v) ∧ rR PCd SCd m2)) := fun h => by
    refine ez_blk 1 rfl ?_
    refine ez_ret (y := 158) rfl (by decide) rfl ⟨0, rfl, ?_⟩
    refine ez_blk 1 rfl ?_
    show ez xs 161 1 [some (.ref 131), some (.int x), some (.int k), none, none, none] [.ref 131] M _
    refine ez_call (as := [.ref 131]) (rest := []) rfl (by decide) rfl ?_
    refine h_state x1 x2 hK6 M21 (fun i hi => by rw [n154]; exact (hI i hi).2.2.1.2) (fun p' => absurd (p.symm.trans p') (by intro z; cases z)) (fun s' p' z => ?_) (fun s' p' _ _ N G2 F2 => ?_)
    · exfalso
      rcases z with z | z
      · omega
      · rw [n154, w] at z; exact absurd z (by decide)
    cases p.symm.trans p'
    have hN := rR_wn hSCd hR P3 P1 P2 F2
    refine ez_blk (pc' := 6) 2 rfl ?_
    show ez xs 161 6 [some (.ref 131), some (.int x), some (.int k), some (.int 0), none, none] [.int 0] N _
    refine ez_if_lt rfl (fun z => absurd z (by decide)) (fun _ => ?_)
    show ez xs 161 9 [some (.ref 131), some (.int x), some (.int k), some (.int 0), none, none] [] N _
    refine ez_blk 1 rfl ?_
    show ez xs 161 10 [some (.ref 131), some (.int x), some (.int k), some (.int 0), none, none] [.int x] N _
    refine ez_if_lt rfl (fun _ => RET0 N _ _ _ hN) (fun z1 => ?_)
    show ez xs 161 13 [some (.ref 131), some (.int x), some (.int k), some (.int 0), none, none] [] N _
    refine ez_blk 3 rfl ?_
    show ez xs 161 18 [some (.ref 131), some (.int x), some (.int k), some (.int 0), none, none] [.int (N 131 5), .int x] N _
    rw [G2.1]
    refine ez_icmp_ge rfl (fun _ => RET0 N _ _ _ hN) (fun z2 => ?_)
    show ez xs 161 21 [some (.ref 131), some (.int x), some (.int k), some (.int 0), none, none] [] N _
    refine ez_blk 1 rfl ?_
    show ez xs 161 22 [some (.ref 131), some (.int x), some (.int k), some (.int 0), none, none] [.int k] N _
    refine ez_if_lt rfl (fun _ => RET0 N _ _ _ hN) (fun z3 => ?_)
    show ez xs 161 25 [some (.ref 131), some (.int x), some (.int k), some (.int 0), none, none] [] N _
    refine ez_blk 3 rfl ?_
    show ez xs 161 30 [some (.ref 131), some (.int x), some (.int k), some (.int 0), none, none] [.int (N 131 21), .int k] N _
    rw [F2 131 21 (by omega) (by omega), M21]
    refine ez_icmp_lt rfl (fun z4 => ?_) (fun _ => RET0 N _ _ _ hN)
    exfalso
    refine h ⟨?_, ?_⟩
    · rcases pk_ix x (n := s.2.2.1) (by omega) with q | q | q
      · exact absurd q z1
      · exact absurd q z2
      · exact q
    · rcases pk_ix k (n := K) (by omega) with q | q | q
      · exact absurd q z3
      · exact absurd z4 (Int32.not_lt.mpr q)
      · exact q
  show ez xs 158 4 [some (.ref 0), some (.int x), some (.int k)] [.int 0] M _
  refine ez_if_ne rfl (fun z => absurd rfl z) (fun _ => ?_)
  show ez xs 158 7 [some (.ref 0), some (.int x), some (.int k)] [] M _
  refine ez_blk 3 rfl ?_
  show ez xs 158 12 [some (.ref 0), some (.int x), some (.int k)] [.int x, .ref 3] M _
  refine ez_call (as := [.ref 3, .int x]) (rest := []) rfl (by decide) rfl ?_
  refine d_Program_holds ?_
  show ez xs 158 15 [some (.ref 0), some (.int x), some (.int k)] [.int (f_Program_holds M x)] M _
  by_cases hx : ∃ a : Nat, a < s.2.2.1 ∧ x = nI a
  case neg =>
    have e : f_Program_holds M x = 0 := by
      unfold f_Program_holds
      rw [G.1]
      rcases pk_ix x (n := s.2.2.1) (by omega) with q | q | q
      · rw [if_pos q]
      · rw [if_pos q]; split <;> rfl
      · exact absurd q hx
    rw [e]
    exact ez_if_eq rfl (fun _ => OUTSIDE (fun z => hx z.1)) (fun z => absurd rfl z)
  obtain ⟨n, hn, rfl⟩ := hx
  have e : f_Program_holds M (nI n) = 1 := by
    unfold f_Program_holds
    rw [if_neg (nI_pos (by omega)), G.1, if_neg (nI_ge hn (by omega))]
  rw [e]
  refine ez_if_eq rfl (fun z => absurd z (by decide)) (fun _ => ?_)
  show ez xs 158 18 [some (.ref 0), some (.int (nI n)), some (.int k)] [] M _
  refine ez_blk 3 rfl ?_
  show ez xs 158 23 [some (.ref 0), some (.int (nI n)), some (.int k)] [.int k, .ref 36] M _
  refine ez_call (as := [.ref 36, .int k]) (rest := []) rfl (by decide) rfl ?_
  refine d_Script_holds ?_
  show ez xs 158 26 [some (.ref 0), some (.int (nI n)), some (.int k)] [.int (f_Script_holds M k)] M _
  by_cases hk : ∃ b : Nat, b < K ∧ k = nI b
  case neg =>
    have e : f_Script_holds M k = 0 := by
      unfold f_Script_holds
      rw [M36]
      rcases pk_ix k (n := K) (by omega) with q | q | q
      · rw [if_pos q]
      · rw [if_pos q]; split <;> rfl
      · exact absurd q hk
    rw [e]
    exact ez_if_ne rfl (fun z => absurd rfl z) (fun _ => OUTSIDE (fun z => hk z.2))
  obtain ⟨j, hj, rfl⟩ := hk
  have e : f_Script_holds M (nI j) = 1 := by
    unfold f_Script_holds
    rw [if_neg (nI_pos (by omega)), M36, if_neg (nI_ge hj (by omega))]
  rw [e]
  refine ez_if_ne rfl (fun _ => ?_) (fun z => absurd z (by decide))
  show ez xs 158 31 [some (.ref 0), some (.int (nI n)), some (.int (nI j))] [] M _
  refine ez_blk 1 rfl ?_
  show ez xs 158 32 [some (.ref 0), some (.int (nI n)), some (.int (nI j))] [.ref 0] M _
  refine ez_call (as := [.ref 0]) (rest := []) rfl (by decide) rfl ?_
  refine ez_mono (h_ens hR hK6 h36 h21 hU hI P1 P2 P3 P4 p G K0 w) (fun r N q => ?_)
  obtain ⟨rfl, D, -, -⟩ := q
  obtain ⟨pN', S1, GN, -, ⟨N21, N36, -, -⟩, -, FIN⟩ := id D
  generalize hc2 : s.2.2.1 = c at *
  generalize hn2 : s.2.2.2.2.2.2 = nd at *
  show ez xs 158 35 [some (.ref 0), some (.int (nI n)), some (.int (nI j))] [] N _
  refine ez_blk 4 rfl ?_
  show ez xs 158 41 [some (.ref 0), some (.int (nI n)), some (.int (nI j))] [.int (nI j), .int (nI n), .ref 74] N _
  refine ez_call (as := [.ref 74, .int (nI n), .int (nI j)]) (rest := []) rfl (by decide) rfl ?_
  refine d_Search_isHit (fun _ _ => vp_in_nI (by omega) (by omega)) ?_
  have eI : f_Search_isHit N (nI n) (nI j) = bI (bt (hA N c nd K j 64) n) := by
    unfold f_Search_isHit f_Program_holds f_Script_holds
    rw [if_neg (nI_pos (by omega)), GN.1, if_neg (nI_ge hn (by omega)), if_neg (show ¬ (1 : Int32) = 0 by decide), if_neg (nI_pos (by omega)), N36, if_neg (nI_ge hj (by omega)), if_neg (show ¬ (1 : Int32) = 0 by decide), nI_clamp (by omega), S1.2.1 j hj]
    cases wv : bt (hA N c nd K j 64) n
    · rw [if_pos (show hA N c nd K j 64 &&& ((1 : Int32) <<< (nI n &&& 31)) = 0 from (and_b1 (by omega)).mpr wv)]; rfl
    · rw [if_neg (show ¬ hA N c nd K j 64 &&& ((1 : Int32) <<< (nI n &&& 31)) = 0 from fun z => by rw [(and_b1 (by omega)).mp z] at wv; cases wv)]; rfl
  rw [eI]
  refine ez_retz (y := 158) rfl rfl ?_ ⟨_, rfl, ?_⟩
  · unfold bI
    split
    · exact Or.inr rfl
    · exact Or.inl rfl
  refine ez_blk 1 rfl ?_
  show ez xs 161 1 [some (.ref 131), some (.int (nI n)), some (.int (nI j)), none, none, none] [.ref 131] N _
  refine ez_call (as := [.ref 131]) (rest := []) rfl (by decide) rfl ?_
  refine h_st D (fun N2 G2 F2 => ?_)
  rw [hc2, hn2] at G2
  have s9 : ∀ a q, 149 ≤ a → a ≤ 163 → N2 a q = N a q := fun a q _ _ => F2 a q (by omega) (by omega)
  have N221 : N2 131 21 = nI K := by rw [F2 131 21 (by omega) (by omega), N21]
  refine ez_blk (pc' := 6) 2 rfl ?_
  show ez xs 161 6 [some (.ref 131), some (.int (nI n)), some (.int (nI j)), some (.int 0), none, none] [.int 0] N2 _
  refine ez_if_lt rfl (fun z => absurd z (by decide)) (fun _ => ?_)
  show ez xs 161 9 [some (.ref 131), some (.int (nI n)), some (.int (nI j)), some (.int 0), none, none] [] N2 _
  refine ez_blk 1 rfl ?_
  show ez xs 161 10 [some (.ref 131), some (.int (nI n)), some (.int (nI j)), some (.int 0), none, none] [.int (nI n)] N2 _
  refine ez_if_lt rfl (fun z => absurd z (nI_pos (by omega))) (fun _ => ?_)
  show ez xs 161 13 [some (.ref 131), some (.int (nI n)), some (.int (nI j)), some (.int 0), none, none] [] N2 _
  refine ez_blk 3 rfl ?_
  show ez xs 161 18 [some (.ref 131), some (.int (nI n)), some (.int (nI j)), some (.int 0), none, none] [.int (N2 131 5), .int (nI n)] N2 _
  rw [G2.1]
  refine ez_icmp_ge rfl (fun z => absurd z (nI_ge hn (by omega))) (fun _ => ?_)
  show ez xs 161 21 [some (.ref 131), some (.int (nI n)), some (.int (nI j)), some (.int 0), none, none] [] N2 _
  refine ez_blk 1 rfl ?_
  show ez xs 161 22 [some (.ref 131), some (.int (nI n)), some (.int (nI j)), some (.int 0), none, none] [.int (nI j)] N2 _
  refine ez_if_lt rfl (fun z => absurd z (nI_pos (by omega))) (fun _ => ?_)
  show ez xs 161 25 [some (.ref 131), some (.int (nI n)), some (.int (nI j)), some (.int 0), none, none] [] N2 _
  refine ez_blk 3 rfl ?_
  show ez xs 161 30 [some (.ref 131), some (.int (nI n)), some (.int (nI j)), some (.int 0), none, none] [.int (N2 131 21), .int (nI j)] N2 _
  rw [N221]
  refine ez_icmp_lt rfl (fun _ => ?_) (fun z => absurd (nI_lt hj (by omega)) z)
  show ez xs 161 35 [some (.ref 131), some (.int (nI n)), some (.int (nI j)), some (.int 0), none, none] [] N2 _
  refine ez_blk (pc' := 41) 4 rfl ?_
  have loop : ∀ (r b : Nat) (M3 : zM), b + r = 64 → (∀ a q, ¬ (a = 131 ∧ q = 40) → a ≠ 164 → a ≠ 165 → M3 a q = N2 a q) → ez xs 161 41 [some (.ref 131), some (.int (nI n)), some (.int (nI j)), some (.int 0), some (.int (bI (bt (hA N c nd K j b) n))), some (.int (nI b))] [] M3 (fun r2 m2 => r2 = some (.int (bI (bt (hA N c nd K j 64) n))) ∧ rR PCd SCd m2) := by
    intro r
    induction r with
    | zero =>
      intro b M3 hb hF
      refine ez_blk 2 rfl ?_
      show ez xs 161 45 [some (.ref 131), some (.int (nI n)), some (.int (nI j)), some (.int 0), some (.int (bI (bt (hA N c nd K j b) n))), some (.int (nI b))] [.int (nI 64), .int (nI b)] M3 _
      refine ez_icmp_ge rfl (fun _ => ?_) (fun z => absurd (nI_le (by omega) (by omega)) z)
      show ez xs 161 99 [some (.ref 131), some (.int (nI n)), some (.int (nI j)), some (.int 0), some (.int (bI (bt (hA N c nd K j b) n))), some (.int (nI b))] [] M3 _
      refine ez_blk 1 rfl ?_
      rw [show b = 64 by omega]
      refine ez_retz (y := 161) rfl rfl ?_ ⟨rfl, FIN M3 (fun a q q1 q2 q3 => ?_)⟩
      · unfold bI
        split
        · exact Or.inr rfl
        · exact Or.inl rfl
      · rw [hF a q (by omega) (by omega) (by omega)]
        exact F2 a q (by omega) q2
    | succ r ih =>
      intro b M3 hb hF
      have t9 : ∀ a q, 149 ≤ a → a ≤ 163 → M3 a q = N a q := fun a q q1 q2 => by rw [hF a q (by omega) (by omega) (by omega)]; exact s9 a q q1 q2
      have i3 : M3 131 21 = nI K := by rw [hF 131 21 (by omega) (by omega) (by omega), N221]
      have g3 : gM M3 c nd := gM_same (hF 131 5 (by omega) (by omega) (by omega)) (fun a q _ _ => hF a q (by omega) (by omega) (by omega)) G2
      have NX : ∀ (N3 : zM) (v : Bool), (∀ a q, ¬ (a = 131 ∧ q = 40) → a ≠ 164 → a ≠ 165 → N3 a q = N2 a q) → v = bt (hA N c nd K j (b + 1)) n → ez xs 161 93 [some (.ref 131), some (.int (nI n)), some (.int (nI j)), some (.int 0), some (.int (bI v)), some (.int (nI b))] [] N3 (fun r2 m2 => r2 = some (.int (bI (bt (hA N c nd K j 64) n))) ∧ rR PCd SCd m2) := fun N3 v q1 q2 => by
        subst q2
        refine ez_blk (pc' := 41) 2 rfl ?_
        show ez xs 161 41 [some (.ref 131), some (.int (nI n)), some (.int (nI j)), some (.int 0), some (.int (bI (bt (hA N c nd K j (b + 1)) n))), some (.int (nI b + 1))] [] N3 _
        rw [nI_1]
        exact ih (b + 1) N3 (by omega) q1
      have eA := hA_lt (S := N) (c := c) (K := K) (k := j) (nd := nd) (n := n) (by omega) b
      refine ez_blk 2 rfl ?_
      show ez xs 161 45 [some (.ref 131), some (.int (nI n)), some (.int (nI j)), some (.int 0), some (.int (bI (bt (hA N c nd K j b) n))), some (.int (nI b))] [.int (nI 64), .int (nI b)] M3 _
      refine ez_icmp_ge rfl (fun z => absurd z (nI_ge (by omega) (by omega))) (fun _ => ?_)
      show ez xs 161 48 [some (.ref 131), some (.int (nI n)), some (.int (nI j)), some (.int 0), some (.int (bI (bt (hA N c nd K j b) n))), some (.int (nI b))] [] M3 _
      refine ez_blk 2 rfl ?_
      show ez xs 161 51 [some (.ref 131), some (.int (nI n)), some (.int (nI j)), some (.int 0), some (.int (bI (bt (hA N c nd K j b) n))), some (.int (nI b))] [.int (nI b), .ref 131] M3 _
      refine ez_call (as := [.ref 131, .int (nI b)]) (rest := []) rfl (by decide) rfl ?_
      refine h_possible (rNamed_e hK6 i3).1 ?_
      rw [(rNamed_e hK6 i3).2, rU_s9 t9]
      show ez xs 161 54 [some (.ref 131), some (.int (nI n)), some (.int (nI j)), some (.int 0), some (.int (bI (bt (hA N c nd K j b) n))), some (.int (nI b))] [.int (bI (posB N K b))] M3 _
      refine ez_if_eq rfl (fun z => ?_) (fun z => ?_)
      · exact NX M3 _ hF (by rw [eA, bI_0.mp z, Bool.false_and, Bool.or_false])
      have z := bI_t.mp z
      rw [z, Bool.true_and] at eA
      show ez xs 161 57 [some (.ref 131), some (.int (nI n)), some (.int (nI j)), some (.int 0), some (.int (bI (bt (hA N c nd K j b) n))), some (.int (nI b))] [] M3 _
      refine ez_blk 2 rfl ?_
      show ez xs 161 60 [some (.ref 131), some (.int (nI n)), some (.int (nI j)), some (.int 0), some (.int (bI (bt (hA N c nd K j b) n))), some (.int (nI b))] [.int (nI b), .ref 131] M3 _
      refine ez_call (as := [.ref 131, .int (nI b)]) (rest := []) rfl (by decide) rfl ?_
      refine h_M_findTakes hK6 hc i3 g3 hE (fun M4 u1 u2 => ?_)
      show ez xs 161 63 [some (.ref 131), some (.int (nI n)), some (.int (nI j)), some (.int 0), some (.int (bI (bt (hA N c nd K j b) n))), some (.int (nI b))] [] M4 _
      refine ez_blk 1 rfl ?_
      show ez xs 161 64 [some (.ref 131), some (.int (nI n)), some (.int (nI j)), some (.int 0), some (.int (bI (bt (hA N c nd K j b) n))), some (.int (nI b))] [.ref 131] M4 _
      refine ez_call (as := [.ref 131]) (rest := []) rfl (by decide) rfl ?_
      have v9 : ∀ a q, 149 ≤ a → a ≤ 163 → M4 a q = M3 a q := fun a q _ _ => u2 a q (by omega) (by omega)
      refine h_M_findHits K0 hK6 hc (by rw [u2 131 21 (by omega) (by omega), i3]) (gM_same (u2 131 5 (by omega) (by omega)) (fun a q _ _ => u2 a q (by omega) (by omega)) g3) hE (b := nI b) (fun q hq => by rw [u1 q hq, tK_same v9]) (fun M5 u3 u4 => ?_)
      have F5 : ∀ a q, ¬ (a = 131 ∧ q = 40) → a ≠ 164 → a ≠ 165 → M5 a q = N2 a q := fun a q q1 q2 q3 => by rw [u4 a q q3, u2 a q q1 q2]; exact hF a q q1 q2 q3
      have eK : M5 165 j = hK N c nd K (nI b) j := by rw [u3 j hj, hK_same v9, hK_same t9]
      show ez xs 161 67 [some (.ref 131), some (.int (nI n)), some (.int (nI j)), some (.int 0), some (.int (bI (bt (hA N c nd K j b) n))), some (.int (nI b))] [] M5 _
      refine ez_blk 1 rfl ?_
      show ez xs 161 69 [some (.ref 131), some (.int (nI n)), some (.int (nI j)), some (.int 0), some (.int (bI (bt (hA N c nd K j b) n))), some (.int (nI b))] [.int (bI (bt (hA N c nd K j b) n))] M5 _
      have ONE : bt (hA N c nd K j (b + 1)) n = true → ez xs 161 86 [some (.ref 131), some (.int (nI n)), some (.int (nI j)), some (.int 0), some (.int (bI (bt (hA N c nd K j b) n))), some (.int (nI b))] [] M5 (fun r2 m2 => r2 = some (.int (bI (bt (hA N c nd K j 64) n))) ∧ rR PCd SCd m2) := fun q => by
        refine ez_blk (pc' := 93) 3 rfl ?_
        exact NX M5 true F5 q.symm
      refine ez_if_ne rfl (fun z2 => ONE (by rw [eA, bI_t.mp z2]; rfl)) (fun z2 => ?_)
      have z2 := bI_0.mp z2
      show ez xs 161 72 [some (.ref 131), some (.int (nI n)), some (.int (nI j)), some (.int 0), some (.int (bI (bt (hA N c nd K j b) n))), some (.int (nI b))] [] M5 _
      refine ez_blk 4 rfl ?_
      show ez xs 161 78 [some (.ref 131), some (.int (nI n)), some (.int (nI j)), some (.int 0), some (.int (bI (bt (hA N c nd K j b) n))), some (.int (nI b))] [.int (nI j), .ref 165, .ref 131] M5 _
      refine ez_iald (n := 6) rfl (by decide) rfl (by omega) (by omega) ?_
      rw [eK]
      refine ez_blk 1 rfl ?_
      show ez xs 161 80 [some (.ref 131), some (.int (nI n)), some (.int (nI j)), some (.int 0), some (.int (bI (bt (hA N c nd K j b) n))), some (.int (nI b))] [.int (nI n), .int (hK N c nd K (nI b) j), .ref 131] M5 _
      refine ez_call (as := [.ref 131, .int (hK N c nd K (nI b) j), .int (nI n)]) (rest := []) rfl (by decide) rfl ?_
      refine d_M_has ?_
      rw [f_has (by omega)]
      show ez xs 161 83 [some (.ref 131), some (.int (nI n)), some (.int (nI j)), some (.int 0), some (.int (bI (bt (hA N c nd K j b) n))), some (.int (nI b))] [.int (bI (bt (hK N c nd K (nI b) j) n))] M5 _
      refine ez_if_eq rfl (fun z3 => ?_) (fun z3 => ONE (by rw [eA, bI_t.mp z3, Bool.or_true]))
      refine ez_blk (pc' := 93) 2 rfl ?_
      exact NX M5 false F5 (by rw [eA, z2, bI_0.mp z3]; rfl)
  have z0 : bt (hA N c nd K j 0) n = false := bt_0
  have := loop 64 0 N2 (by omega) (fun _ _ _ _ _ => rfl)
  rw [z0] at this
  exact this
