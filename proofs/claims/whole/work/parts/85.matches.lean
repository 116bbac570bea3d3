/-! The contracts matches and match. -/
theorem rNamed_e {m : zM} {K : Nat} (hK : K ≤ 6) (h : m 131 21 = nI K) : hN6 m ∧ rNamed m = rU m K := ⟨⟨K, hK, h⟩, by unfold rNamed; rw [h, nI_clamp (by omega)]⟩
theorem h_M_findStarts {xs : jx_Xs} {m : zM} {Q : Option Value → zM → Prop} {c K : Nat} {nd : Nat → Nat → Int32} (hK0 : 0 < K) (hK : K ≤ 6) (hc : c ≤ 24) (hit : m 131 21 = nI K) (hG : gM m c nd) (hE : gE c (pE0 c nd) (pE1 c nd)) (g : ∀ M, (∀ b, b < 64 → M 166 b = mB0 m c nd K b) → (∀ a k, ¬ (a = 131 ∧ k = 40) → a ≠ 164 → a ≠ 166 → M a k = m a k) → Q none M) : ez xs 152 0 (jx_ent 152 [.ref 131]) [] m Q := by
  have loop : ∀ (r b : Nat) (M : zM), b + r = 64 → (∀ a k, ¬ (a = 131 ∧ k = 40) → a ≠ 164 → a ≠ 166 → M a k = m a k) → (∀ j, j < b → M 166 j = mB0 m c nd K j) → ez xs 152 2 [some (.ref 131), some (.int (nI b))] [] M Q := by
    intro r
    induction r with
    | zero =>
      intro b M hb hF h1
      refine ez_blk 2 rfl ?_
      show ez xs 152 5 [some (.ref 131), some (.int (nI b))] [.int (nI 64), .int (nI b)] M Q
      refine ez_icmp_ge rfl (fun _ => ?_) (fun z => absurd (nI_le (by omega) (by omega)) z)
      rw [show b = 64 by omega] at h1
      exact ez_ret rfl (by decide) rfl (g M h1 hF)
    | succ r ih =>
      intro b M hb hF h1
      refine ez_blk 2 rfl ?_
      show ez xs 152 5 [some (.ref 131), some (.int (nI b))] [.int (nI 64), .int (nI b)] M Q
      refine ez_icmp_ge rfl (fun z => absurd z (nI_ge (by omega) (by omega))) (fun _ => ?_)
      show ez xs 152 8 [some (.ref 131), some (.int (nI b))] [] M Q
      refine ez_blk 4 rfl ?_
      show ez xs 152 14 [some (.ref 131), some (.int (nI b))] [.int 0, .int (nI b), .ref 166] M Q
      refine ez_iast (n := 64) rfl (by decide) rfl (by omega) (by omega) ?_
      have F1 : ∀ a k, ¬ (a = 131 ∧ k = 40) → a ≠ 164 → a ≠ 166 → jj_up M 166 b 0 a k = m a k := fun a k q1 q2 q3 => by rw [up_ne q3]; exact hF a k q1 q2 q3
      have A1 : jj_up M 166 b 0 166 b = 0 := up_eq
      have B1 : ∀ j, j < b → jj_up M 166 b 0 166 j = mB0 m c nd K j := fun j hj => by rw [up_k (by omega)]; exact h1 j hj
      generalize jj_up M 166 b 0 = M1 at F1 A1 B1
      have s9 : ∀ a j, 149 ≤ a → a ≤ 163 → M1 a j = m a j := fun a j _ _ => F1 a j (by omega) (by omega) (by omega)
      have i1 : M1 131 21 = nI K := by rw [F1 131 21 (by omega) (by omega) (by omega), hit]
      have g1 : gM M1 c nd := gM_same (F1 131 5 (by omega) (by omega) (by omega)) (fun a j _ _ => F1 a j (by omega) (by omega) (by omega)) hG
      have NX : ∀ N, (∀ a k, ¬ (a = 131 ∧ k = 40) → a ≠ 164 → a ≠ 166 → N a k = m a k) → (∀ j, j < b + 1 → N 166 j = mB0 m c nd K j) → ez xs 152 40 [some (.ref 131), some (.int (nI b))] [] N Q := fun N q1 q2 => by
        refine ez_blk (pc' := 2) 2 rfl ?_
        show ez xs 152 2 [some (.ref 131), some (.int (nI b + 1))] [] N Q
        rw [nI_1]
        exact ih (b + 1) N (by omega) q1 q2
      show ez xs 152 15 [some (.ref 131), some (.int (nI b))] [] M1 Q
      refine ez_blk 2 rfl ?_
      show ez xs 152 17 [some (.ref 131), some (.int (nI b))] [.int (nI b), .ref 131] M1 Q
      refine ez_call (as := [.ref 131, .int (nI b)]) (rest := []) rfl (by decide) rfl ?_
      refine h_possible (rNamed_e hK i1).1 ?_
      rw [(rNamed_e hK i1).2, rU_s9 s9]
      show ez xs 152 20 [some (.ref 131), some (.int (nI b))] [.int (bI (posB m K b))] M1 Q
      have eM : mB0 m c nd K b = if posB m K b = true then tK m c nd K (nI b) 0 else 0 := rfl
      refine ez_if_eq rfl (fun z => ?_) (fun z => ?_)
      · refine NX M1 F1 (fun j hj => ?_)
        by_cases e : j = b
        · rw [e, A1, eM, if_neg (by rw [bI_0.mp z]; decide)]
        · exact B1 j (by omega)
      rw [if_pos (bI_t.mp z)] at eM
      show ez xs 152 23 [some (.ref 131), some (.int (nI b))] [] M1 Q
      refine ez_blk 2 rfl ?_
      show ez xs 152 25 [some (.ref 131), some (.int (nI b))] [.int (nI b), .ref 131] M1 Q
      refine ez_call (as := [.ref 131, .int (nI b)]) (rest := []) rfl (by decide) rfl ?_
      refine h_M_findTakes hK hc i1 g1 hE (fun N q1 q2 => ?_)
      refine ez_blk (pc' := 38) 6 rfl ?_
      show ez xs 152 38 [some (.ref 131), some (.int (nI b))] [.int (nI 0), .ref 164, .int (nI b), .ref 166] N Q
      refine ez_iald (n := 6) rfl (by decide) rfl (by omega) (by omega) ?_
      rw [q1 0 hK0, tK_same s9]
      show ez xs 152 39 [some (.ref 131), some (.int (nI b))] [.int (tK m c nd K (nI b) 0), .int (nI b), .ref 166] N Q
      refine ez_iast (n := 64) rfl (by decide) rfl (by omega) (by omega) ?_
      refine NX _ (fun a k w1 w2 w3 => by rw [up_ne w3, q2 a k w1 w2]; exact F1 a k w1 w2 w3) (fun j hj => ?_)
      by_cases e : j = b
      · rw [e, up_eq, eM]
      · rw [up_k e, q2 166 j (by omega) (by omega)]; exact B1 j (by omega)
  refine ez_blk 2 rfl ?_
  exact loop 64 0 m (by omega) (fun _ _ _ _ _ => rfl) (fun j hj => absurd hj (Nat.not_lt_zero j))
theorem mB0_lt {S : zM} {c K b : Nat} {nd : Nat → Nat → Int32} (hc : c ≤ 24) (hK0 : 0 < K) : ∀ n, bt (mB0 S c nd K b) n = true → n < c := by
  intro n h
  unfold mB0 at h
  split at h
  · exact tK_lt hc hK0 h
  · rw [bt_0] at h; cases h
/-- how many matches under the first bindings -/
def cS (S : zM) (c : Nat) (nd : Nat → Nat → Int32) (K : Nat) : Nat → Nat
  | 0 => 0
  | b + 1 => cS S c nd K b + ct (mB0 S c nd K b) c
theorem h_matchCount {xs : jx_Xs} {m : zM} {Q : Option Value → zM → Prop} {c K : Nat} {nd : Nat → Nat → Int32} (hc : c ≤ 24) (hK0 : 0 < K) (h : ∀ b, b < 64 → m 75 b = mB0 m c nd K b) (g : Q (some (.int (nI (cS m c nd K 64)))) m) : ez xs 142 0 (jx_ent 142 [.ref 74]) [] m Q := by
  refine c_Search_matchCount ?_
  have loop : ∀ (r b : Nat), b + r = 64 → ez xs 142 4 [some (.ref 74), some (.int (nI (cS m c nd K b))), some (.int (nI b))] [] m Q := by
    intro r
    induction r with
    | zero =>
      intro b hb
      refine ez_blk 2 rfl ?_
      show ez xs 142 7 [some (.ref 74), some (.int (nI (cS m c nd K b))), some (.int (nI b))] [.int (nI 64), .int (nI b)] m Q
      refine ez_icmp_ge rfl (fun _ => ?_) (fun z => absurd (nI_le (by omega) (by omega)) z)
      show ez xs 142 28 [some (.ref 74), some (.int (nI (cS m c nd K b))), some (.int (nI b))] [] m Q
      refine ez_blk 1 rfl ?_
      rw [show b = 64 by omega]
      exact ez_ret (y := 142) rfl (by decide) rfl g
    | succ r ih =>
      intro b hb
      refine ez_blk 2 rfl ?_
      show ez xs 142 7 [some (.ref 74), some (.int (nI (cS m c nd K b))), some (.int (nI b))] [.int (nI 64), .int (nI b)] m Q
      refine ez_icmp_ge rfl (fun z => absurd z (nI_ge (by omega) (by omega))) (fun _ => ?_)
      show ez xs 142 10 [some (.ref 74), some (.int (nI (cS m c nd K b))), some (.int (nI b))] [] m Q
      refine ez_blk 4 rfl ?_
      show ez xs 142 16 [some (.ref 74), some (.int (nI (cS m c nd K b))), some (.int (nI b))] [.int (nI b), .ref 75, .int (nI (cS m c nd K b))] m Q
      refine ez_iald (n := 64) rfl (by decide) rfl (by omega) (by omega) ?_
      rw [h b (by omega)]
      show ez xs 142 17 [some (.ref 74), some (.int (nI (cS m c nd K b))), some (.int (nI b))] [.int (mB0 m c nd K b), .int (nI (cS m c nd K b))] m Q
      refine ez_call (as := [.int (mB0 m c nd K b)]) (rest := [.int (nI (cS m c nd K b))]) rfl (by decide) rfl ?_
      refine h_bits hc (mB0_lt hc hK0) ?_
      refine ez_blk (pc' := 4) 4 rfl ?_
      show ez xs 142 4 [some (.ref 74), some (.int (nI (cS m c nd K b) + nI (ct (mB0 m c nd K b) c))), some (.int (nI b + 1))] [] m Q
      rw [nI_add, nI_1]
      exact ih (b + 1) (by omega)
  exact loop 64 0 (by omega)
theorem shr_bit {x : Int32} {k : Nat} (hk : k < 32) : (x >>> (nI k &&& 31)) &&& 1 = bI (bt x k) := by
  refine bt_ext (fun n hn => ?_)
  rw [bt_and, bt_i1]
  by_cases e : n = 0
  · rw [e, bt_sr hk]
    cases bt x k <;> rfl
  · rw [decide_eq_false e, Bool.and_false]
    unfold bI
    split
    · rw [bt_i1, decide_eq_false e]
    · rw [bt_0]
/-- the class's refusal, with all that it tells -/
theorem h_ref3 {xs : jx_Xs} {m : zM} {K : Nat} (hR : rR PCd SCd m) (hC : jC (z_S m)) (hK6 : K ≤ 6) (h36 : m 36 1 = nI K) (h21 : m 131 21 = nI K) (hI : ∀ i, i < K → rI m i) :
    ez xs 112 0 (jx_ent 112 [.ref 0]) [] m (fun r M => (PCd M ∧ M 0 7 = 1 ∧ frW m M ∧ jC (z_S M)) ∧ ((r = some (.int (-1)) ∧ pParse (tX M) (tN M) = none) ∨ (r = some (.int (-2)) ∧ (∃ s, pParse (tX M) (tN M) = some s) ∧ nl m K) ∨ (r = some (.int 0) ∧ ∃ s, pParse (tX M) (tN M) = some s ∧ gC M s.2.2.1 s.2.2.2.2.2.2 ∧ 0 < K ∧ m 154 (K - 1) = 0))) := by
  refine ez_mono (ez_C hC (h_refusal (Q := fun r M => (PCd M ∧ M 0 7 = 1 ∧ frW m M) ∧ ((r = some (.int (-1)) ∧ pParse (tX M) (tN M) = none) ∨ (r = some (.int (-2)) ∧ (∃ s, pParse (tX M) (tN M) = some s) ∧ nl m K) ∨ (r = some (.int 0) ∧ ∃ s, pParse (tX M) (tN M) = some s ∧ gC M s.2.2.1 s.2.2.2.2.2.2 ∧ 0 < K ∧ m 154 (K - 1) = 0))) hR hK6 h36 h21 hI (fun M a b c d => ⟨⟨a, b, c⟩, Or.inl ⟨rfl, d⟩⟩) (fun M s a b c d e => ⟨⟨a, b, c⟩, Or.inr (Or.inl ⟨rfl, ⟨s, d⟩, e⟩)⟩) (fun M s a b c d e f h => ⟨⟨a, b, c⟩, Or.inr (Or.inr ⟨rfl, s, d, e, f, h⟩)⟩))) (fun r M q => ?_)
  obtain ⟨⟨⟨a, b, c⟩, d⟩, e⟩ := q
  exact ⟨⟨a, b, c, e⟩, d⟩
theorem rR_fin {m N : zM} (hR : rR PCd SCd m) (hF : ∀ a b, a ≠ 0 → ¬ (a = 3 ∧ b = 1) → ¬ (5 ≤ a ∧ a ≤ 35) → ¬ (74 ≤ a ∧ a ≤ 128) → ¬ (a = 131 ∧ (b = 2 ∨ b = 5 ∨ b = 20 ∨ b = 40)) → ¬ (133 ≤ a ∧ a ≤ 148) → ¬ (164 ≤ a ∧ a ≤ 171) → N a b = m a b) (h7 : N 0 7 = 1) (hP : PCd N) (h8 : N 0 8 = 0 ∨ N 0 8 = 1 ∧ SCd N) : rR PCd SCd N := by
  obtain ⟨hT, hS, -⟩ := hR
  refine ⟨rT_same (fun a b q1 q2 => hF a b (by omega) (by omega) (by omega) (by omega) (by omega) (by omega) (by omega)) (hF 131 0 (by omega) (by omega) (by omega) (by omega) (by omega) (by omega) (by omega)) (fun b => hF 132 b (by omega) (by omega) (by omega) (by omega) (by omega) (by omega) (by omega)) hT, rS_same (fun a k q => ?_) hS, Or.inr ⟨h7, hP⟩, h8⟩
  have q : (36 ≤ a ∧ a ≤ 73) ∨ (149 ≤ a ∧ a ≤ 163) ∨ (a = 131 ∧ k = 21) := q
  exact hF a k (by omega) (by omega) (by omega) (by omega) (by omega) (by omega) (by omega)
theorem SCd_of {M : zM} {s : pS} {K : Nat} (hp : pParse (tX M) (tN M) = some s) (h36 : M 36 1 = nI K) (hK : K ≤ 6) (h : sx M s.2.2.1 s.2.2.2.2.2.2 K) : SCd M := by
  intro s' K' h1 h2 h3 h4
  rw [hp] at h1
  cases h1
  rw [h36] at h2
  rw [(nI_eq (by omega) (by omega)).mp h2] at h
  exact h
theorem mB0_fr {S M : zM} {c K : Nat} {nd : Nat → Nat → Int32} (h : ∀ a j, 149 ≤ a → a ≤ 163 → M a j = S a j) : ∀ b, cS M c nd K b = cS S c nd K b := by
  intro b
  induction b with
  | zero => rfl
  | succ b ih => rw [cS, cS, ih, mB0_same h]
theorem o_matches {xs : jx_Xs} {m : zM} (hR : rR PCd SCd m) (hC : jC (z_S m)) : ez xs 143 0 (jx_ent 143 [.ref 0]) [] m (fun r m1 => ∃ v, r = some (.int v) ∧ ez xs 153 0 (jx_ent 153 [.ref 131]) [] m1 (fun r2 m2 => r2 = some (.int v) ∧ rR PCd SCd m2)) := by
  obtain ⟨K, hK6, h36, h21, hU, hI⟩ := id hR.2.1
  have h4 : ∀ i, i < K → m 154 i = 0 ∨ m 154 i = 1 := fun i hi => (hI i hi).2.2.1.2
  refine ez_blk 1 rfl ?_
  show ez xs 143 1 [some (.ref 0), none] [.ref 0] m _
  refine ez_call (as := [.ref 0]) (rest := []) rfl (by decide) rfl ?_
  refine ez_mono (h_ref3 hR hC hK6 h36 h21 hI) (fun r M q => ?_)
  obtain ⟨⟨P1, P2, P3, P4⟩, q⟩ := q
  obtain ⟨x1, x2⟩ := w_text hR.1 P3
  have M21 : M 131 21 = nI K := by rw [P3 131 21 (by omega) (by omega) (by omega), h21]
  have M4 : ∀ i, i < K → M 154 i = 0 ∨ M 154 i = 1 := fun i hi => by rw [P3 154 i (by omega) (by omega) (by omega)]; exact h4 i hi
  have n154 : ∀ i, M 154 i = m 154 i := fun i => P3 154 i (by omega) (by omega) (by omega)
  have RET : ∀ (v : Int32) (N : zM), v < 0 → rR PCd SCd N → ez xs 153 4 [some (.ref 131), none, none, none, none] [.int v] N (fun r2 m2 => r2 = some (.int v) ∧ rR PCd SCd m2) := fun v N hv hN => by
    refine ez_blk 2 rfl ?_
    show ez xs 153 6 [some (.ref 131), some (.int v), none, none, none] [.int v] N _
    refine ez_if_ge rfl (fun z => absurd hv (Int32.not_lt.mpr z)) (fun _ => ?_)
    show ez xs 153 9 [some (.ref 131), some (.int v), none, none, none] [] N _
    refine ez_blk 1 rfl ?_
    exact ez_ret (y := 153) rfl (by decide) rfl ⟨rfl, hN⟩
  rcases q with ⟨rfl, p⟩ | ⟨rfl, ⟨s, p⟩, w⟩ | ⟨rfl, s, p, G, K0, w⟩
  · refine ez_blk (pc' := 6) 2 rfl ?_
    show ez xs 143 6 [some (.ref 0), some (.int (-1))] [.int (-1)] M _
    refine ez_if_eq rfl (fun z => absurd z (by decide)) (fun _ => ?_)
    show ez xs 143 9 [some (.ref 0), some (.int (-1))] [] M _
    refine ez_blk 1 rfl ?_
    refine ez_ret (y := 143) rfl (by decide) rfl ⟨-1, rfl, ?_⟩
    refine ez_blk 1 rfl ?_
    show ez xs 153 1 [some (.ref 131), none, none, none, none] [.ref 131] M _
    refine ez_call (as := [.ref 131]) (rest := []) rfl (by decide) rfl ?_
    exact h_state x1 x2 hK6 M21 M4 (fun _ N hN => RET (-1) N (by decide) (rR_wn hSCd hR P3 P1 P2 hN)) (fun s p' => absurd (p.symm.trans p') (by intro z; cases z)) (fun s p' => absurd (p.symm.trans p') (by intro z; cases z))
  · refine ez_blk (pc' := 6) 2 rfl ?_
    show ez xs 143 6 [some (.ref 0), some (.int (-2))] [.int (-2)] M _
    refine ez_if_eq rfl (fun z => absurd z (by decide)) (fun _ => ?_)
    show ez xs 143 9 [some (.ref 0), some (.int (-2))] [] M _
    refine ez_blk 1 rfl ?_
    refine ez_ret (y := 143) rfl (by decide) rfl ⟨-2, rfl, ?_⟩
    refine ez_blk 1 rfl ?_
    show ez xs 153 1 [some (.ref 131), none, none, none, none] [.ref 131] M _
    refine ez_call (as := [.ref 131]) (rest := []) rfl (by decide) rfl ?_
    refine h_state x1 x2 hK6 M21 M4 (fun p' => absurd (p.symm.trans p') (by intro z; cases z)) (fun s p' _ N _ hN => RET (-2) N (by decide) (rR_wn hSCd hR P3 P1 P2 hN)) (fun s p' k0 k1 => ?_)
    rw [n154] at k1
    rcases w with w | w
    · omega
    · rw [w] at k1; exact absurd k1 (by decide)
  · obtain ⟨jI, dep, A, B, -, hnd, -⟩ := pParse_J p
    have hc := jI.2.2.1
    have hE := gE_of hc hnd
    refine ez_blk (pc' := 6) 2 rfl ?_
    show ez xs 143 6 [some (.ref 0), some (.int 0)] [.int 0] M _
    refine ez_if_eq rfl (fun _ => ?_) (fun z => absurd rfl z)
    show ez xs 143 11 [some (.ref 0), some (.int 0)] [] M _
    refine ez_blk 1 rfl ?_
    show ez xs 143 12 [some (.ref 0), some (.int 0)] [.ref 0] M _
    refine ez_call (as := [.ref 0]) (rest := []) rfl (by decide) rfl ?_
    have sM : ∀ a j, sS a j → M a j = m a j := fun a j q => by
      have q : (36 ≤ a ∧ a ≤ 73) ∨ (149 ≤ a ∧ a ≤ 163) ∨ (a = 131 ∧ j = 21) := q
      exact P3 a j (by omega) (by omega) (by omega)
    have M36 : M 36 1 = nI K := by rw [P3 36 1 (by omega) (by omega) (by omega), h36]
    have h8 : M 0 8 = 0 ∨ M 0 8 = 1 ∧ SCd M := by
      rw [P3 0 8 (by omega) (by omega) (by omega)]
      rcases hR.2.2.2 with z | ⟨z1, z2⟩
      · exact Or.inl z
      · refine Or.inr ⟨z1, hSCd m M (fun a b z => ?_) z2⟩
        have z : a = 1 ∨ a = 2 ∨ (36 ≤ a ∧ a ≤ 128) ∨ (149 ≤ a ∧ a ≤ 163) ∨ (a = 131 ∧ b = 21) := z
        exact P3 a b (by omega) (by omega) (by omega)
    refine h_ensure p K0 hK6 M36 (by rw [P3 36 2 (by omega) (by omega) (by omega), rU_same sM]; exact hU) (fun i hi => rI_same (by omega) sM (hI i hi)) G h8 P4 (fun N S1 S2 S3 => ?_)
    show ez xs 143 15 [some (.ref 0), some (.int 0)] [] N _
    refine ez_blk 2 rfl ?_
    show ez xs 143 19 [some (.ref 0), some (.int 0)] [.ref 74] N _
    refine ez_call (as := [.ref 74]) (rest := []) rfl (by decide) rfl ?_
    refine h_matchCount hc K0 S1.1 ?_
    refine ez_ret (y := 143) rfl (by decide) rfl ⟨_, rfl, ?_⟩
    obtain ⟨e1, e2⟩ := tX_same (S3 1 1 (by omega) (by omega)) (fun j => S3 2 j (by omega) (by omega))
    have pN' : pParse (tX N) (tN N) = some s := by rw [e1, e2]; exact p
    have y1 : txOk (tN N) (tX N) := by rw [e1, e2]; exact x1
    have y2 : txM N (tN N) (tX N) := by
      rw [e1, e2]
      exact ⟨(S3 131 0 (by omega) (by omega)).trans x2.1, fun j hj => (S3 132 j (by omega) (by omega)).trans (x2.2 j hj)⟩
    have N21 : N 131 21 = nI K := by rw [S3 131 21 (by omega) (by omega), M21]
    refine ez_blk 1 rfl ?_
    show ez xs 153 1 [some (.ref 131), none, none, none, none] [.ref 131] N _
    refine ez_call (as := [.ref 131]) (rest := []) rfl (by decide) rfl ?_
    refine h_state y1 y2 hK6 N21 (fun i hi => by rw [S3 154 i (by omega) (by omega)]; exact M4 i hi) (fun p' => absurd (pN'.symm.trans p') (by intro z; cases z)) (fun s' p' z => ?_) (fun s' p' k0 k1 N2 G2 F2 => ?_)
    · exfalso
      rcases z with z | z
      · omega
      · rw [S3 154 _ (by omega) (by omega), n154, w] at z; exact absurd z (by decide)
    cases pN'.symm.trans p'
    refine ez_blk (pc' := 6) 2 rfl ?_
    show ez xs 153 6 [some (.ref 131), some (.int 0), none, none, none] [.int 0] N2 _
    refine ez_if_ge rfl (fun _ => ?_) (fun z => absurd (by decide) z)
    show ez xs 153 11 [some (.ref 131), some (.int 0), none, none, none] [] N2 _
    refine ez_blk 1 rfl ?_
    show ez xs 153 12 [some (.ref 131), some (.int 0), none, none, none] [.ref 131] N2 _
    refine ez_call (as := [.ref 131]) (rest := []) rfl (by decide) rfl ?_
    have N221 : N2 131 21 = nI K := by rw [F2 131 21 (by omega) (by omega), N21]
    have s9 : ∀ a j, 149 ≤ a → a ≤ 163 → N2 a j = N a j := fun a j _ _ => F2 a j (by omega) (by omega)
    refine h_M_findStarts K0 hK6 hc N221 G2 hE (fun M3 t1 t2 => ?_)
    have t1 : ∀ b, b < 64 → M3 166 b = mB0 N s.2.2.1 s.2.2.2.2.2.2 K b := fun b hb => by rw [t1 b hb, mB0_same s9]
    have c5 : M3 131 5 = nI s.2.2.1 := by rw [t2 131 5 (by omega) (by omega) (by omega)]; exact G2.1
    have FIN : rR PCd SCd M3 := by
      have F : ∀ a b, ¬ (a = 131 ∧ (b = 2 ∨ b = 5 ∨ b = 20 ∨ b = 40)) → ¬ (133 ≤ a ∧ a ≤ 148) → ¬ (164 ≤ a ∧ a ≤ 171) → M3 a b = N a b := fun a b q1 q2 q3 => by
        rw [t2 a b (by omega) (by omega) (by omega)]
        exact F2 a b (by omega) q2
      refine rR_fin hR (fun a b q1 q2 q3 q4 q5 q6 q7 => ?_) ?_ (hPCd M M3 (fun i k q1 q2 => ?_) P1) (Or.inr ⟨?_, hSCd N M3 (fun a b q => ?_) (SCd_of pN' ?_ hK6 S1)⟩)
      · rw [F a b q5 q6 q7, S3 a b (by omega) q4]; exact P3 a b (by omega) q2 q3
      · rw [F 0 7 (by omega) (by omega) (by omega), S3 0 7 (by omega) (by omega)]; exact P2
      · rw [F i k (by omega) (by omega) (by omega)]; exact S3 i k (by omega) (by omega)
      · rw [F 0 8 (by omega) (by omega) (by omega)]; exact S2
      · have q : a = 1 ∨ a = 2 ∨ (36 ≤ a ∧ a ≤ 128) ∨ (149 ≤ a ∧ a ≤ 163) ∨ (a = 131 ∧ b = 21) := q
        exact F a b (by omega) (by omega) (by omega)
      · rw [S3 36 1 (by omega) (by omega)]; exact M36
    generalize hX : (fun b => mB0 N s.2.2.1 s.2.2.2.2.2.2 K b) = X
    have OUT : ∀ (r b : Nat) (o4 : Option Value), b + r = 64 → ez xs 153 19 [some (.ref 131), some (.int 0), some (.int (nI (cS N s.2.2.1 s.2.2.2.2.2.2 K b))), some (.int (nI b)), o4] [] M3 (fun r2 m2 => r2 = some (.int (nI (cS N s.2.2.1 s.2.2.2.2.2.2 K 64))) ∧ rR PCd SCd m2) := by
      intro r
      induction r with
      | zero =>
        intro b o4 hb
        refine ez_blk 2 rfl ?_
        show ez xs 153 22 [some (.ref 131), some (.int 0), some (.int (nI (cS N s.2.2.1 s.2.2.2.2.2.2 K b))), some (.int (nI b)), o4] [.int (nI 64), .int (nI b)] M3 _
        refine ez_icmp_ge rfl (fun _ => ?_) (fun z => absurd (nI_le (by omega) (by omega)) z)
        show ez xs 153 63 [some (.ref 131), some (.int 0), some (.int (nI (cS N s.2.2.1 s.2.2.2.2.2.2 K b))), some (.int (nI b)), o4] [] M3 _
        refine ez_blk 1 rfl ?_
        rw [show b = 64 by omega]
        exact ez_ret (y := 153) rfl (by decide) rfl ⟨rfl, FIN⟩
      | succ r ih =>
        intro b o4 hb
        refine ez_blk 2 rfl ?_
        show ez xs 153 22 [some (.ref 131), some (.int 0), some (.int (nI (cS N s.2.2.1 s.2.2.2.2.2.2 K b))), some (.int (nI b)), o4] [.int (nI 64), .int (nI b)] M3 _
        refine ez_icmp_ge rfl (fun z => absurd z (nI_ge (by omega) (by omega))) (fun _ => ?_)
        show ez xs 153 25 [some (.ref 131), some (.int 0), some (.int (nI (cS N s.2.2.1 s.2.2.2.2.2.2 K b))), some (.int (nI b)), o4] [] M3 _
        refine ez_blk (pc' := 28) 2 rfl ?_
        have INN : ∀ (q n : Nat), n + q = s.2.2.1 → ez xs 153 28 [some (.ref 131), some (.int 0), some (.int (nI (cS N s.2.2.1 s.2.2.2.2.2.2 K b + ct (mB0 N s.2.2.1 s.2.2.2.2.2.2 K b) n))), some (.int (nI b)), some (.int (nI n))] [] M3 (fun r2 m2 => r2 = some (.int (nI (cS N s.2.2.1 s.2.2.2.2.2.2 K 64))) ∧ rR PCd SCd m2) := by
          intro q
          induction q with
          | zero =>
            intro n hn
            refine ez_blk 3 rfl ?_
            show ez xs 153 34 [some (.ref 131), some (.int 0), some (.int (nI (cS N s.2.2.1 s.2.2.2.2.2.2 K b + ct (mB0 N s.2.2.1 s.2.2.2.2.2.2 K b) n))), some (.int (nI b)), some (.int (nI n))] [.int (M3 131 5), .int (nI n)] M3 _
            rw [c5]
            refine ez_icmp_ge rfl (fun _ => ?_) (fun z => absurd (nI_le (by omega) (by omega)) z)
            refine ez_blk (pc' := 19) 2 rfl ?_
            show ez xs 153 19 [some (.ref 131), some (.int 0), some (.int (nI (cS N s.2.2.1 s.2.2.2.2.2.2 K b + ct (mB0 N s.2.2.1 s.2.2.2.2.2.2 K b) n))), some (.int (nI b + 1)), some (.int (nI n))] [] M3 _
            rw [nI_1]
            have := ih (b + 1) (some (.int (nI n))) (by omega)
            rw [cS] at this
            rw [show n = s.2.2.1 by omega] at this ⊢
            exact this
          | succ q ihq =>
            intro n hn
            refine ez_blk 3 rfl ?_
            show ez xs 153 34 [some (.ref 131), some (.int 0), some (.int (nI (cS N s.2.2.1 s.2.2.2.2.2.2 K b + ct (mB0 N s.2.2.1 s.2.2.2.2.2.2 K b) n))), some (.int (nI b)), some (.int (nI n))] [.int (M3 131 5), .int (nI n)] M3 _
            rw [c5]
            refine ez_icmp_ge rfl (fun z => absurd z (nI_ge (by omega) (by omega))) (fun _ => ?_)
            show ez xs 153 37 [some (.ref 131), some (.int 0), some (.int (nI (cS N s.2.2.1 s.2.2.2.2.2.2 K b + ct (mB0 N s.2.2.1 s.2.2.2.2.2.2 K b) n))), some (.int (nI b)), some (.int (nI n))] [] M3 _
            refine ez_blk 4 rfl ?_
            show ez xs 153 43 [some (.ref 131), some (.int 0), some (.int (nI (cS N s.2.2.1 s.2.2.2.2.2.2 K b + ct (mB0 N s.2.2.1 s.2.2.2.2.2.2 K b) n))), some (.int (nI b)), some (.int (nI n))] [.int (nI b), .ref 166, .int (nI (cS N s.2.2.1 s.2.2.2.2.2.2 K b + ct (mB0 N s.2.2.1 s.2.2.2.2.2.2 K b) n))] M3 _
            refine ez_iald (n := 64) rfl (by decide) rfl (by omega) (by omega) ?_
            rw [t1 b (by omega)]
            refine ez_blk (pc' := 28) 8 rfl ?_
            show ez xs 153 28 [some (.ref 131), some (.int 0), some (.int (nI (cS N s.2.2.1 s.2.2.2.2.2.2 K b + ct (mB0 N s.2.2.1 s.2.2.2.2.2.2 K b) n) + ((mB0 N s.2.2.1 s.2.2.2.2.2.2 K b >>> (nI n &&& 31)) &&& 1))), some (.int (nI b)), some (.int (nI n + 1))] [] M3 _
            rw [shr_bit (by omega), nI_1]
            have := ihq (n + 1) (by omega)
            rw [ct_add] at this
            have eb : bI (bt (mB0 N s.2.2.1 s.2.2.2.2.2.2 K b) n) = nI (if bt (mB0 N s.2.2.1 s.2.2.2.2.2.2 K b) n = true then 1 else 0) := by
              unfold bI
              split <;> rfl
            rw [eb, nI_add, Nat.add_assoc]
            exact this
        exact INN s.2.2.1 0 (by omega)
    refine ez_blk (pc' := 19) 4 rfl ?_
    exact OUT 64 0 none (by omega)
