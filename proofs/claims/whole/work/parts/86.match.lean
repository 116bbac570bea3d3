/-! The contracts match and hit. -/
def sD (N : zM) (s : pS) (K : Nat) : Prop := pParse (tX N) (tN N) = some s ∧ sx N s.2.2.1 s.2.2.2.2.2.2 K ∧ gC N s.2.2.1 s.2.2.2.2.2.2 ∧ (txOk (tN N) (tX N) ∧ txM N (tN N) (tX N)) ∧ (N 131 21 = nI K ∧ N 36 1 = nI K ∧ 0 < K ∧ K ≤ 6) ∧ ((∀ i, i < K → rI N i) ∧ N 154 (K - 1) = 0) ∧ ∀ M3 : zM, (∀ a b, ¬ (a = 131 ∧ (b = 2 ∨ b = 5 ∨ b = 20 ∨ b = 40)) → ¬ (133 ≤ a ∧ a ≤ 148) → ¬ (164 ≤ a ∧ a ≤ 171) → M3 a b = N a b) → rR PCd SCd M3
theorem h_ens {xs : jx_Xs} {m M : zM} {s : pS} {K : Nat} (hR : rR PCd SCd m) (hK6 : K ≤ 6) (h36 : m 36 1 = nI K) (h21 : m 131 21 = nI K) (hU : m 36 2 = rU m K) (hI : ∀ i, i < K → rI m i) (P1 : PCd M) (P2 : M 0 7 = 1) (P3 : frW m M) (P4 : jC (z_S M)) (p : pParse (tX M) (tN M) = some s) (G : gC M s.2.2.1 s.2.2.2.2.2.2) (K0 : 0 < K) (w : m 154 (K - 1) = 0) : ez xs 140 0 (jx_ent 140 [.ref 0]) [] M (fun r N => r = none ∧ sD N s K ∧ jC (z_S N) ∧ (∀ a j, a ≠ 0 → ¬ (74 ≤ a ∧ a ≤ 128) → N a j = M a j)) := by
  have sM : ∀ a j, sS a j → M a j = m a j := fun a j q => by
    have q : (36 ≤ a ∧ a ≤ 73) ∨ (149 ≤ a ∧ a ≤ 163) ∨ (a = 131 ∧ j = 21) := q
    exact P3 a j (by omega) (by omega) (by omega)
  obtain ⟨x1, x2⟩ := w_text hR.1 P3
  have hc := (pParse_J p).1.2.2.1
  have M21 : M 131 21 = nI K := by rw [P3 131 21 (by omega) (by omega) (by omega), h21]
  have M36 : M 36 1 = nI K := by rw [P3 36 1 (by omega) (by omega) (by omega), h36]
  have h8 : M 0 8 = 0 ∨ M 0 8 = 1 ∧ SCd M := by
    rw [P3 0 8 (by omega) (by omega) (by omega)]
    rcases hR.2.2.2 with z | ⟨z1, z2⟩
    · exact Or.inl z
    · refine Or.inr ⟨z1, hSCd m M (fun a b z => ?_) z2⟩
      have z : a = 1 ∨ a = 2 ∨ (36 ≤ a ∧ a ≤ 128) ∨ (149 ≤ a ∧ a ≤ 163) ∨ (a = 131 ∧ b = 21) := z
      exact P3 a b (by omega) (by omega) (by omega)
  have MI : ∀ i, i < K → rI M i := fun i hi => rI_same (by omega) sM (hI i hi)
  refine ez_mono (ez_C P4 (h_ensure (Q := fun r N => r = none ∧ sx N s.2.2.1 s.2.2.2.2.2.2 K ∧ N 0 8 = 1 ∧ (∀ a j, ¬ (a = 0 ∧ j = 8) → ¬ (74 ≤ a ∧ a ≤ 128) → N a j = M a j)) p K0 hK6 M36 (by rw [P3 36 2 (by omega) (by omega) (by omega), rU_same sM]; exact hU) MI G h8 P4 (fun N a b c => ⟨rfl, a, b, c⟩))) (fun r N q => ?_)
  obtain ⟨⟨rfl, S1, S2, S3⟩, CN⟩ := q
  obtain ⟨e1, e2⟩ := tX_same (S3 1 1 (by omega) (by omega)) (fun j => S3 2 j (by omega) (by omega))
  have pN' : pParse (tX N) (tN N) = some s := by rw [e1, e2]; exact p
  have y1 : txOk (tN N) (tX N) := by rw [e1, e2]; exact x1
  have y2 : txM N (tN N) (tX N) := by
    rw [e1, e2]
    exact ⟨(S3 131 0 (by omega) (by omega)).trans x2.1, fun j hj => (S3 132 j (by omega) (by omega)).trans (x2.2 j hj)⟩
  have N36 : N 36 1 = nI K := by rw [S3 36 1 (by omega) (by omega)]; exact M36
  have sN : ∀ a j, sS a j → N a j = M a j := fun a j q => by
    have q : (36 ≤ a ∧ a ≤ 73) ∨ (149 ≤ a ∧ a ≤ 163) ∨ (a = 131 ∧ j = 21) := q
    exact S3 a j (by omega) (by omega)
  refine ⟨rfl, ⟨pN', S1, gC_same hc (fun a j _ _ => S3 a j (by omega) (by omega)) G, ⟨y1, y2⟩, ⟨by rw [S3 131 21 (by omega) (by omega), M21], N36, K0, hK6⟩, ⟨fun i hi => rI_same (by omega) sN (MI i hi), by rw [S3 154 _ (by omega) (by omega), P3 154 _ (by omega) (by omega) (by omega)]; exact w⟩, fun M3 F => ?_⟩, CN, fun a j q1 q2 => S3 a j (by omega) q2⟩
  refine rR_fin hR (fun a b q1 q2 q3 q4 q5 q6 q7 => ?_) ?_ (hPCd M M3 (fun i k q1 q2 => ?_) P1) (Or.inr ⟨?_, hSCd N M3 (fun a b q => ?_) (SCd_of pN' N36 hK6 S1)⟩)
  · rw [F a b q5 q6 q7, S3 a b (by omega) q4]; exact P3 a b (by omega) q2 q3
  · rw [F 0 7 (by omega) (by omega) (by omega), S3 0 7 (by omega) (by omega)]; exact P2
  · rw [F i k (by omega) (by omega) (by omega)]; exact S3 i k (by omega) (by omega)
  · rw [F 0 8 (by omega) (by omega) (by omega)]; exact S2
  · have q : a = 1 ∨ a = 2 ∨ (36 ≤ a ∧ a ≤ 128) ∨ (149 ≤ a ∧ a ≤ 163) ∨ (a = 131 ∧ b = 21) := q
    exact F a b (by omega) (by omega) (by omega)
theorem h_st {xs : jx_Xs} {N : zM} {Q : Option Value → zM → Prop} {s : pS} {K : Nat} (h : sD N s K) (g : ∀ N2, gM N2 s.2.2.1 s.2.2.2.2.2.2 → frN N N2 → Q (some (.int 0)) N2) : ez xs 144 0 (jx_ent 144 [.ref 131]) [] N Q := by
  obtain ⟨p, -, -, ⟨y1, y2⟩, ⟨N21, -, K0, hK6⟩, ⟨hI, w⟩, -⟩ := h
  refine h_state y1 y2 hK6 N21 (fun i hi => (hI i hi).2.2.1.2) (fun p' => absurd (p.symm.trans p') (by intro z; cases z)) (fun s' p' z => ?_) (fun s' p' _ _ N2 G2 F2 => ?_)
  · exfalso
    rcases z with z | z
    · omega
    · rw [w] at z; exact absurd z (by decide)
  · cases p.symm.trans p'
    exact g N2 G2 F2
theorem h_stA {xs : jx_Xs} {m M : zM} {Q : Option Value → zM → Prop} {K : Nat} (hR : rR PCd SCd m) (hK6 : K ≤ 6) (h21 : m 131 21 = nI K) (hI : ∀ i, i < K → rI m i) (P1 : PCd M) (P2 : M 0 7 = 1) (P3 : frW m M) (h : pParse (tX M) (tN M) = none ∨ ((∃ s, pParse (tX M) (tN M) = some s) ∧ nl m K)) (g : ∀ N v, v < 0 → (v = -1 ∨ v = -2) → (pParse (tX M) (tN M) = none → v = -1) → ((∃ s, pParse (tX M) (tN M) = some s) → v = -2) → rR PCd SCd N → Q (some (.int v)) N) : ez xs 144 0 (jx_ent 144 [.ref 131]) [] M Q := by
  obtain ⟨x1, x2⟩ := w_text hR.1 P3
  have n154 : ∀ i, M 154 i = m 154 i := fun i => P3 154 i (by omega) (by omega) (by omega)
  refine h_state x1 x2 hK6 (by rw [P3 131 21 (by omega) (by omega) (by omega), h21]) (fun i hi => by rw [n154]; exact (hI i hi).2.2.1.2) (fun p N hN => ?_) (fun s p z N _ hN => ?_) (fun s p k0 k1 N _ hN => ?_)
  · exact g N (-1) (by decide) (Or.inl rfl) (fun _ => rfl) (fun ⟨s, w⟩ => absurd (p.symm.trans w) (by intro z; cases z)) (rR_wn hSCd hR P3 P1 P2 hN)
  · exact g N (-2) (by decide) (Or.inr rfl) (fun w => absurd (p.symm.trans w) (by intro z; cases z)) (fun _ => rfl) (rR_wn hSCd hR P3 P1 P2 hN)
  · exfalso
    rw [n154] at k1
    rcases h with h | ⟨-, h | h⟩
    · exact absurd (p.symm.trans h) (by intro z; cases z)
    · omega
    · rw [h] at k1; exact absurd k1 (by decide)
/-! match -/
def rowL (n : Nat) : Nat → Nat → List (Nat × Nat)
  | _, 0 => []
  | b, k + 1 => (n, b) :: rowL n (b + 1) k
def allL : Nat → Nat → List (Nat × Nat)
  | _, 0 => []
  | n, k + 1 => rowL n 0 64 ++ allL (n + 1) k
def go (X : Nat → Int32) (i : Int32) : List (Nat × Nat) → Nat → Int32
  | [], _ => -1
  | e :: t, cnt => if bt (X e.2) e.1 = true then (if nI cnt = i then nI (64 * e.1 + e.2) else go X i t (cnt + 1)) else go X i t cnt
theorem h_matchNumber {xs : jx_Xs} {m : zM} {Q : Option Value → zM → Prop} {c : Nat} {X : Nat → Int32} {i : Int32} (hc : c ≤ 24) (h31 : m 3 1 = nI c) (h : ∀ b, b < 64 → m 75 b = X b) (g : Q (some (.int (go X i (allL 0 c) 0))) m) : ez xs 154 0 (jx_ent 154 [.ref 74, .int i]) [] m Q := by
  refine c_Search_matchNumber ?_
  have OUT : ∀ (r n cnt : Nat) (o4 : Option Value), n + r = c → Q (some (.int (go X i (allL n r) cnt))) m → ez xs 154 4 [some (.ref 74), some (.int i), some (.int (nI cnt)), some (.int (nI n)), o4] [] m Q := by
    intro r
    induction r with
    | zero =>
      intro n cnt o4 hn gg
      have hx : m 3 1 ≤ nI n := by rw [h31]; exact nI_le (by omega) (by omega)
      exact c_Search_matchNumber_4 (fun _ => gg) (fun z => absurd hx z)
    | succ r ih =>
      intro n cnt o4 hn gg
      have hx : ¬ m 3 1 ≤ nI n := by rw [h31]; exact nI_ge (by omega) (by omega)
      refine c_Search_matchNumber_4 (fun z => absurd z hx) (fun _ => ?_)
      have INN : ∀ (q b cnt : Nat), b + q = 64 → Q (some (.int (go X i (rowL n b q ++ allL (n + 1) r) cnt))) m → ez xs 154 18 [some (.ref 74), some (.int i), some (.int (nI cnt)), some (.int (nI n)), some (.int (nI b))] [] m Q := by
        intro q
        induction q with
        | zero =>
          intro b cnt hb gg
          have hx : (64 : Int32) ≤ nI b := by rw [show b = 64 by omega]; decide
          refine c_Search_matchNumber_18 (fun z => absurd hx z) (fun _ => ?_) (fun z => absurd hx z) (fun z => absurd hx z) (fun z => absurd hx z)
          rw [nI_1]
          exact ih (n + 1) cnt _ (by omega) gg
        | succ q ihq =>
          intro b cnt hb gg
          have hx : ¬ (64 : Int32) ≤ nI b := fun z => absurd ((nI_leI (a := 64) (by omega) (by omega)).mp z) (by omega)
          have cl : (nI b).toNatClampNeg = b := nI_clamp (by omega)
          have gg : Q (some (.int (if bt (X b) n = true then (if nI cnt = i then nI (64 * n + b) else go X i (rowL n (b + 1) q ++ allL (n + 1) r) (cnt + 1)) else go X i (rowL n (b + 1) q ++ allL (n + 1) r) cnt))) m := gg
          have e : (64 : Int32) * nI n + nI b = nI (64 * n + b) := by rw [show (64 : Int32) = nI 64 from rfl, pk_mul, nI_add]
          have BT : ¬ X b &&& ((1 : Int32) <<< (nI n &&& 31)) = 0 → bt (X b) n = true := fun z => by
            cases w : bt (X b) n
            · exact absurd ((and_b1 (by omega)).mpr w) z
            · rfl
          apply c_Search_matchNumber_18
          all_goals try simp only [cl, h b (by omega), e]
          · intro _; exact vp_in_nI (by omega) (by omega)
          · intro z; exact absurd z hx
          · intro _ z
            rw [(and_b1 (by omega)).mp z, if_neg (by decide)] at gg
            rw [nI_1]
            exact ihq (b + 1) cnt (by omega) gg
          · intro _ z z2
            rw [BT z, if_pos rfl, if_neg z2] at gg
            rw [nI_1, nI_1]
            exact ihq (b + 1) (cnt + 1) (by omega) gg
          · intro _ z z2
            rw [BT z, if_pos rfl, if_pos z2] at gg
            exact gg
      exact INN 64 0 cnt (by omega) gg
  exact OUT c 0 0 none (by omega) g
set_option maxHeartbeats 1000000 in
theorem o_match {xs : jx_Xs} {m : zM} (i : Int32) (hR : rR PCd SCd m) (hC : jC (z_S m)) : ez xs 155 0 (jx_ent 155 [.ref 0, .int i]) [] m (fun r m1 => ∃ v, r = some (.int v) ∧ ez xs 156 0 (jx_ent 156 [.ref 131, .int i]) [] m1 (fun r2 m2 => r2 = some (.int v) ∧ rR PCd SCd m2)) := by
  obtain ⟨K, hK6, h36, h21, hU, hI⟩ := id hR.2.1
  refine ez_blk 1 rfl ?_
  show ez xs 155 1 [some (.ref 0), some (.int i)] [.ref 0] m _
  refine ez_call (as := [.ref 0]) (rest := []) rfl (by decide) rfl ?_
  refine ez_mono (h_ref3 hR hC hK6 h36 h21 hI) (fun r M q => ?_)
  obtain ⟨⟨P1, P2, P3, P4⟩, q⟩ := q
  have NO : (pParse (tX M) (tN M) = none ∨ ((∃ s, pParse (tX M) (tN M) = some s) ∧ nl m K)) → ez xs 155 7 [some (.ref 0), some (.int i)] [] M (fun r m1 => ∃ v, r = some (.int v) ∧ ez xs 156 0 (jx_ent 156 [.ref 131, .int i]) [] m1 (fun r2 m2 => r2 = some (.int v) ∧ rR PCd SCd m2)) := fun h => by
    refine ez_blk 1 rfl ?_
    refine ez_ret (y := 155) rfl (by decide) rfl ⟨-1, rfl, ?_⟩
    refine ez_blk 1 rfl ?_
    show ez xs 156 1 [some (.ref 131), some (.int i), none, none, none, none] [.ref 131] M _
    refine ez_call (as := [.ref 131]) (rest := []) rfl (by decide) rfl ?_
    refine h_stA hR hK6 h21 hI P1 P2 P3 h (fun N v hv _ _ _ hN => ?_)
    refine ez_blk (pc' := 6) 2 rfl ?_
    show ez xs 156 6 [some (.ref 131), some (.int i), some (.int v), none, none, none] [.int v] N _
    refine ez_if_ge rfl (fun z => absurd hv (Int32.not_lt.mpr z)) (fun _ => ?_)
    show ez xs 156 9 [some (.ref 131), some (.int i), some (.int v), none, none, none] [] N _
    refine ez_blk 1 rfl ?_
    exact ez_ret (y := 156) rfl (by decide) rfl ⟨rfl, hN⟩
  rcases q with ⟨rfl, p⟩ | ⟨rfl, p, w⟩ | ⟨rfl, s, p, G, K0, w⟩
  · show ez xs 155 4 [some (.ref 0), some (.int i)] [.int (-1)] M _
    exact ez_if_eq rfl (fun z => absurd z (by decide)) (fun _ => NO (Or.inl p))
  · show ez xs 155 4 [some (.ref 0), some (.int i)] [.int (-2)] M _
    exact ez_if_eq rfl (fun z => absurd z (by decide)) (fun _ => NO (Or.inr ⟨p, w⟩))
  show ez xs 155 4 [some (.ref 0), some (.int i)] [.int 0] M _
  refine ez_if_eq rfl (fun _ => ?_) (fun z => absurd rfl z)
  show ez xs 155 9 [some (.ref 0), some (.int i)] [] M _
  refine ez_blk 1 rfl ?_
  show ez xs 155 10 [some (.ref 0), some (.int i)] [.ref 0] M _
  refine ez_call (as := [.ref 0]) (rest := []) rfl (by decide) rfl ?_
  refine ez_mono (h_ens hR hK6 h36 h21 hU hI P1 P2 P3 P4 p G K0 w) (fun r N q => ?_)
  obtain ⟨rfl, D, -, -⟩ := q
  obtain ⟨pN', S1, GN, -, ⟨N21, -, -, -⟩, -, FIN⟩ := id D
  obtain ⟨jI, dep, A, B, -, hnd, -⟩ := pParse_J p
  have hc := jI.2.2.1
  have hE := gE_of hc hnd
  generalize hc2 : s.2.2.1 = c at *
  generalize hn2 : s.2.2.2.2.2.2 = nd at *
  generalize hX : (fun b => mB0 N c nd K b) = X
  have eX : ∀ b, mB0 N c nd K b = X b := fun b => by rw [← hX]
  show ez xs 155 13 [some (.ref 0), some (.int i)] [] N _
  refine ez_blk 3 rfl ?_
  show ez xs 155 18 [some (.ref 0), some (.int i)] [.int i, .ref 74] N _
  refine ez_call (as := [.ref 74, .int i]) (rest := []) rfl (by decide) rfl ?_
  refine h_matchNumber (X := X) hc GN.1 (fun b hb => by rw [S1.1 b hb, eX]) ?_
  refine ez_ret (y := 155) rfl (by decide) rfl ⟨_, rfl, ?_⟩
  refine ez_blk 1 rfl ?_
  show ez xs 156 1 [some (.ref 131), some (.int i), none, none, none, none] [.ref 131] N _
  refine ez_call (as := [.ref 131]) (rest := []) rfl (by decide) rfl ?_
  refine h_st D (fun N2 G2 F2 => ?_)
  rw [hc2, hn2] at G2
  refine ez_blk (pc' := 6) 2 rfl ?_
  show ez xs 156 6 [some (.ref 131), some (.int i), some (.int 0), none, none, none] [.int 0] N2 _
  refine ez_if_ge rfl (fun _ => ?_) (fun z => absurd (by decide) z)
  show ez xs 156 11 [some (.ref 131), some (.int i), some (.int 0), none, none, none] [] N2 _
  refine ez_blk 1 rfl ?_
  show ez xs 156 12 [some (.ref 131), some (.int i), some (.int 0), none, none, none] [.ref 131] N2 _
  refine ez_call (as := [.ref 131]) (rest := []) rfl (by decide) rfl ?_
  have s9 : ∀ a j, 149 ≤ a → a ≤ 163 → N2 a j = N a j := fun a j _ _ => F2 a j (by omega) (by omega)
  refine h_M_findStarts K0 hK6 hc (by rw [F2 131 21 (by omega) (by omega), N21]) G2 hE (fun M3 t1 t2 => ?_)
  have t1 : ∀ b, b < 64 → M3 166 b = X b := fun b hb => by rw [t1 b hb, mB0_same s9, eX]
  have c5 : M3 131 5 = nI c := by rw [t2 131 5 (by omega) (by omega) (by omega)]; exact G2.1
  have FIN : rR PCd SCd M3 := FIN M3 (fun a b q1 q2 q3 => by rw [t2 a b (by omega) (by omega) (by omega)]; exact F2 a b (by omega) q2)
  have OUT : ∀ (r n cnt : Nat) (u : Int32) (o5 : Option Value), n + r = c → u = go X i (allL n r) cnt → ez xs 156 20 [some (.ref 131), some (.int i), some (.int 0), some (.int (nI cnt)), some (.int (nI n)), o5] [] M3 (fun r2 m2 => r2 = some (.int u) ∧ rR PCd SCd m2) := by
    intro r
    induction r with
    | zero =>
      intro n cnt u o5 hn hu
      refine ez_blk 3 rfl ?_
      show ez xs 156 26 [some (.ref 131), some (.int i), some (.int 0), some (.int (nI cnt)), some (.int (nI n)), o5] [.int (M3 131 5), .int (nI n)] M3 _
      rw [c5]
      refine ez_icmp_ge rfl (fun _ => ?_) (fun z => absurd (nI_le (by omega) (by omega)) z)
      show ez xs 156 84 [some (.ref 131), some (.int i), some (.int 0), some (.int (nI cnt)), some (.int (nI n)), o5] [] M3 _
      refine ez_blk 1 rfl ?_
      refine ez_ret (y := 156) rfl (by decide) rfl ⟨?_, FIN⟩
      rw [hu]
      rfl
    | succ r ih =>
      intro n cnt u o5 hn hu
      refine ez_blk 3 rfl ?_
      show ez xs 156 26 [some (.ref 131), some (.int i), some (.int 0), some (.int (nI cnt)), some (.int (nI n)), o5] [.int (M3 131 5), .int (nI n)] M3 _
      rw [c5]
      refine ez_icmp_ge rfl (fun z => absurd z (nI_ge (by omega) (by omega))) (fun _ => ?_)
      show ez xs 156 29 [some (.ref 131), some (.int i), some (.int 0), some (.int (nI cnt)), some (.int (nI n)), o5] [] M3 _
      refine ez_blk (pc' := 32) 2 rfl ?_
      have INN : ∀ (q b cnt : Nat), b + q = 64 → u = go X i (rowL n b q ++ allL (n + 1) r) cnt → ez xs 156 32 [some (.ref 131), some (.int i), some (.int 0), some (.int (nI cnt)), some (.int (nI n)), some (.int (nI b))] [] M3 (fun r2 m2 => r2 = some (.int u) ∧ rR PCd SCd m2) := by
        intro q
        induction q with
        | zero =>
          intro b cnt hb hu
          refine ez_blk 2 rfl ?_
          show ez xs 156 36 [some (.ref 131), some (.int i), some (.int 0), some (.int (nI cnt)), some (.int (nI n)), some (.int (nI b))] [.int (nI 64), .int (nI b)] M3 _
          refine ez_icmp_ge rfl (fun _ => ?_) (fun z => absurd (nI_le (by omega) (by omega)) z)
          refine ez_blk (pc' := 20) 2 rfl ?_
          show ez xs 156 20 [some (.ref 131), some (.int i), some (.int 0), some (.int (nI cnt)), some (.int (nI n + 1)), some (.int (nI b))] [] M3 _
          rw [nI_1]
          exact ih (n + 1) cnt u _ (by omega) hu
        | succ q ihq =>
          intro b cnt hb hu
          have hu : u = if bt (X b) n = true then (if nI cnt = i then nI (64 * n + b) else go X i (rowL n (b + 1) q ++ allL (n + 1) r) (cnt + 1)) else go X i (rowL n (b + 1) q ++ allL (n + 1) r) cnt := hu
          refine ez_blk 2 rfl ?_
          show ez xs 156 36 [some (.ref 131), some (.int i), some (.int 0), some (.int (nI cnt)), some (.int (nI n)), some (.int (nI b))] [.int (nI 64), .int (nI b)] M3 _
          refine ez_icmp_ge rfl (fun z => absurd z (nI_ge (by omega) (by omega))) (fun _ => ?_)
          show ez xs 156 39 [some (.ref 131), some (.int i), some (.int 0), some (.int (nI cnt)), some (.int (nI n)), some (.int (nI b))] [] M3 _
          refine ez_blk 4 rfl ?_
          show ez xs 156 46 [some (.ref 131), some (.int i), some (.int 0), some (.int (nI cnt)), some (.int (nI n)), some (.int (nI b))] [.int (nI b), .ref 166, .ref 131] M3 _
          refine ez_iald (n := 64) rfl (by decide) rfl (by omega) (by omega) ?_
          rw [t1 b (by omega)]
          refine ez_blk 1 rfl ?_
          show ez xs 156 49 [some (.ref 131), some (.int i), some (.int 0), some (.int (nI cnt)), some (.int (nI n)), some (.int (nI b))] [.int (nI n), .int (X b), .ref 131] M3 _
          refine ez_call (as := [.ref 131, .int (X b), .int (nI n)]) (rest := []) rfl (by decide) rfl ?_
          refine d_M_has ?_
          rw [f_has (by omega)]
          show ez xs 156 52 [some (.ref 131), some (.int i), some (.int 0), some (.int (nI cnt)), some (.int (nI n)), some (.int (nI b))] [.int (bI (bt (X b) n))] M3 _
          refine ez_if_eq rfl (fun z => ?_) (fun z => ?_)
          · rw [bI_0.mp z, if_neg (by decide)] at hu
            refine ez_blk (pc' := 32) 2 rfl ?_
            show ez xs 156 32 [some (.ref 131), some (.int i), some (.int 0), some (.int (nI cnt)), some (.int (nI n)), some (.int (nI b + 1))] [] M3 _
            rw [nI_1]
            exact ihq (b + 1) cnt (by omega) hu
          · rw [bI_t.mp z, if_pos rfl] at hu
            show ez xs 156 55 [some (.ref 131), some (.int i), some (.int 0), some (.int (nI cnt)), some (.int (nI n)), some (.int (nI b))] [] M3 _
            refine ez_blk 2 rfl ?_
            show ez xs 156 57 [some (.ref 131), some (.int i), some (.int 0), some (.int (nI cnt)), some (.int (nI n)), some (.int (nI b))] [.int i, .int (nI cnt)] M3 _
            refine ez_icmp_ne rfl (fun z2 => ?_) (fun z2 => ?_)
            · rw [if_neg z2] at hu
              refine ez_blk (pc' := 32) 3 rfl ?_
              show ez xs 156 32 [some (.ref 131), some (.int i), some (.int 0), some (.int (nI cnt + 1)), some (.int (nI n)), some (.int (nI b + 1))] [] M3 _
              rw [nI_1, nI_1]
              exact ihq (b + 1) (cnt + 1) (by omega) hu
            · rw [if_pos z2] at hu
              show ez xs 156 60 [some (.ref 131), some (.int i), some (.int 0), some (.int (nI cnt)), some (.int (nI n)), some (.int (nI b))] [] M3 _
              refine ez_blk 5 rfl ?_
              refine ez_ret (y := 156) (v := some (.int (64 * nI n + nI b))) rfl (by decide) rfl ⟨?_, FIN⟩
              rw [hu, show (64 : Int32) = nI 64 from rfl, pk_mul, nI_add]
      exact INN 64 0 cnt (by omega) hu
  refine ez_blk (pc' := 20) 4 rfl ?_
  exact OUT c 0 0 _ none (by omega) rfl
