/-! The class's search, whole. -/
theorem jC_i {m : zM} {i k : Nat} {x : Int32} (h : ¬ ((z_H i).1 = 1 ∧ (z_H i).2.1 = 1)) (g : jC (z_S m)) : jC (z_S (jj_up m i k x)) := jC_up (σ := z_S m) (r := z_R) g (fun q1 q2 => absurd ⟨q1, q2⟩ h)
theorem jC_80 {m : zM} (g : jC (z_S m)) : ∀ u, u < 10 → fits .char (.int (m 80 u)) = true := fun u _ => g 80 rfl rfl u
theorem h_reset {xs : jx_Xs} {m : zM} {Q : Option Value → zM → Prop} (g : ∀ M, M 74 7 = 0 → (∀ b, b < 64 → M 75 b = 0) → (∀ k, k < 6 → M 76 k = 0) → (∀ n, n < 24 → M (81 + 2 * n) 1 = 0 ∧ M (81 + 2 * n) 2 = 0 ∧ M (81 + 2 * n) 3 = 0) → (∀ a k, ¬ (74 ≤ a ∧ a ≤ 128) → M a k = m a k) → Q none M) : ez xs 114 0 (jx_ent 114 [.ref 74]) [] m Q := by
  refine c_Search_reset ?_
  have L3 : ∀ (r i : Nat) (M : zM), i + r = 24 → M 74 7 = 0 → (∀ b, b < 64 → M 75 b = 0) → (∀ k, k < 6 → M 76 k = 0) → (∀ n, n < i → M (81 + 2 * n) 1 = 0 ∧ M (81 + 2 * n) 2 = 0 ∧ M (81 + 2 * n) 3 = 0) → (∀ a k, ¬ (74 ≤ a ∧ a ≤ 128) → M a k = m a k) → ez xs 114 49 [some (.ref 74), some (.int (nI i))] [] M Q := by
    intro r
    induction r with
    | zero =>
      intro i M hi h1 h2 h3 h4 h5
      have hx : (24 : Int32) ≤ nI i := by rw [show i = 24 by omega]; decide
      exact c_Search_reset_49 (fun z => absurd hx z) (fun _ => g M h1 h2 h3 (fun n hn => h4 n (by omega)) h5) (fun z => absurd hx z)
    | succ r ih =>
      intro i M hi h1 h2 h3 h4 h5
      have hx : ¬ (24 : Int32) ≤ nI i := fun z => absurd ((nI_leI (a := 24) (by omega) (by omega)).mp z) (by omega)
      refine c_Search_reset_49 (fun _ => vp_in_nI (by omega) (by omega)) (fun z => absurd z hx) (fun _ => ?_)
      rw [nI_1, nI_clamp (by omega)]
      refine ih (i + 1) _ (by omega) ?_ (fun b hb => ?_) (fun k hk => ?_) (fun n hn => ?_) (fun a k q => ?_)
      · rw [up_ne (by omega), up_ne (by omega), up_ne (by omega)]; exact h1
      · rw [up_ne (by omega), up_ne (by omega), up_ne (by omega)]; exact h2 b hb
      · rw [up_ne (by omega), up_ne (by omega), up_ne (by omega)]; exact h3 k hk
      · by_cases e : n = i
        · subst e
          refine ⟨?_, ?_, up_eq⟩
          · rw [up_k (by omega), up_k (by omega), up_eq]
          · rw [up_k (by omega), up_eq]
        · have w := h4 n (by omega)
          refine ⟨?_, ?_, ?_⟩
          · rw [up_ne (by omega), up_ne (by omega), up_ne (by omega)]; exact w.1
          · rw [up_ne (by omega), up_ne (by omega), up_ne (by omega)]; exact w.2.1
          · rw [up_ne (by omega), up_ne (by omega), up_ne (by omega)]; exact w.2.2
      · rw [up_ne (by omega), up_ne (by omega), up_ne (by omega)]; exact h5 a k q
  have L2 : ∀ (r i : Nat) (M : zM), i + r = 6 → M 74 7 = 0 → (∀ b, b < 64 → M 75 b = 0) → (∀ k, k < i → M 76 k = 0) → (∀ a k, ¬ (74 ≤ a ∧ a ≤ 128) → M a k = m a k) → ez xs 114 28 [some (.ref 74), some (.int (nI i))] [] M Q := by
    intro r
    induction r with
    | zero =>
      intro i M hi h1 h2 h3 h5
      have hx : (6 : Int32) ≤ nI i := by rw [show i = 6 by omega]; decide
      exact c_Search_reset_28 (fun z => absurd hx z) (fun _ => L3 24 0 M (by omega) h1 h2 (fun k hk => h3 k (by omega)) (fun n hn => absurd hn (Nat.not_lt_zero n)) h5) (fun z => absurd hx z)
    | succ r ih =>
      intro i M hi h1 h2 h3 h5
      have hx : ¬ (6 : Int32) ≤ nI i := fun z => absurd ((nI_leI (a := 6) (by omega) (by omega)).mp z) (by omega)
      refine c_Search_reset_28 (fun _ => vp_in_nI (by omega) (by omega)) (fun z => absurd z hx) (fun _ => ?_)
      rw [nI_1, nI_clamp (by omega)]
      refine ih (i + 1) _ (by omega) ?_ (fun b hb => ?_) (fun k hk => ?_) (fun a k q => ?_)
      · rw [up_ne (by omega)]; exact h1
      · rw [up_ne (by omega)]; exact h2 b hb
      · by_cases e : k = i
        · rw [e, up_eq]
        · rw [up_k e]; exact h3 k (by omega)
      · rw [up_ne (by omega)]; exact h5 a k q
  have L1 : ∀ (r i : Nat) (M : zM), i + r = 64 → M 74 7 = 0 → (∀ b, b < i → M 75 b = 0) → (∀ a k, ¬ (74 ≤ a ∧ a ≤ 128) → M a k = m a k) → ez xs 114 7 [some (.ref 74), some (.int (nI i))] [] M Q := by
    intro r
    induction r with
    | zero =>
      intro i M hi h1 h2 h5
      have hx : (64 : Int32) ≤ nI i := by rw [show i = 64 by omega]; decide
      exact c_Search_reset_7 (fun z => absurd hx z) (fun _ => L2 6 0 M (by omega) h1 (fun b hb => h2 b (by omega)) (fun k hk => absurd hk (Nat.not_lt_zero k)) h5) (fun z => absurd hx z)
    | succ r ih =>
      intro i M hi h1 h2 h5
      have hx : ¬ (64 : Int32) ≤ nI i := fun z => absurd ((nI_leI (a := 64) (by omega) (by omega)).mp z) (by omega)
      refine c_Search_reset_7 (fun _ => vp_in_nI (by omega) (by omega)) (fun z => absurd z hx) (fun _ => ?_)
      rw [nI_1, nI_clamp (by omega)]
      refine ih (i + 1) _ (by omega) ?_ (fun b hb => ?_) (fun a k q => ?_)
      · rw [up_ne (by omega)]; exact h1
      · by_cases e : b = i
        · rw [e, up_eq]
        · rw [up_k e]; exact h2 b (by omega)
      · rw [up_ne (by omega)]; exact h5 a k q
  exact L1 64 0 _ (by omega) up_eq (fun b hb => absurd hb (Nat.not_lt_zero b)) (fun a k q => up_ne (by omega))
theorem eC_same {S M N : zM} {P : nS} (h : ∀ a k, 81 ≤ a → a ≤ 128 → N a k = M a k) (h7 : N 74 7 = M 74 7) (g : eC S M P) : eC S N P := ⟨fun n hn => eOk_same (fun k => h _ k (by omega) (by omega)) (fun k => h _ k (by omega) (by omega)) (g.1 n hn), h7.trans g.2⟩
theorem Ve_same {S M : zM} (h : ∀ a j, 149 ≤ a → a ≤ 163 → M a j = S a j) : Ve M = Ve S := funext fun e => Vv_same h
theorem edB_same {S M : zM} (h : ∀ a j, 149 ≤ a → a ≤ 163 → M a j = S a j) : edB M = edB S := by
  funext k
  unfold edB
  rw [h 153 k (by omega) (by omega), h 159 k (by omega) (by omega)]
theorem edits_e {m : zM} {k : Nat} (h : rI m k) : f_Item_edits m (38 + 6 * k) = bI (edB m k) := by
  obtain ⟨-, ⟨o1, o2⟩, -, -, ⟨n, n1, n2, n3, -⟩, -⟩ := h
  unfold f_Item_edits edB
  rw [o1, n2, ← n3]
  by_cases z : m 153 k = 0
  · rw [if_pos z, z]
    by_cases w : m 159 k ≤ 0
    · rw [if_pos w, decide_eq_false (show ¬ ¬ m 159 k ≤ 0 from fun q => q w)]; rfl
    · rw [if_neg w, decide_eq_true (show ¬ m 159 k ≤ 0 from w)]; rfl
  · rw [if_neg z, decide_eq_true (show ¬ m 153 k = 0 from z)]; rfl
/-- what following the hits of one binding writes -/
def frG (m M : zM) : Prop := ∀ a j, ¬ (a = 74 ∧ j = 7) → a ≠ 76 → ¬ (79 ≤ a ∧ a ≤ 128) → M a j = m a j
theorem h_followHits {xs : jx_Xs} {m : zM} {Q : Option Value → zM → Prop} {c K b : Nat} {nd : Nat → Nat → Int32} {P : nS} (hK0 : 0 < K) (hK6 : K ≤ 6) (hc : c ≤ 24) (hb : b < 64) (h36 : m 36 1 = nI K) (hI : ∀ i, i < K → rI m i) (hG : gC m c nd) (hT : ∀ k, k < K → m 77 k = tK m c nd K (nI b) k) (hE : eC m m P) (hR : nRg c K (edB m) P) (hC : jC (z_S m)) (g : ∀ M, (∀ k, k < K → M 76 k = m 76 k ||| hK m c nd K (nI b) k) → eC m M (ntK (Ve m) c (fun k => hK m c nd K (nI b) k) (edB m) b K P) → frG m M → Q none M) : ez xs 138 0 (jx_ent 138 [.ref 74, .int (nI b)]) [] m Q := by
  refine ez_blk 3 rfl ?_
  show ez xs 138 5 [some (.ref 74), some (.int (nI b)), none, none, none] [.int (nI 0), .ref 77] m Q
  refine ez_iald (n := 6) rfl (by decide) rfl (by omega) (by omega) ?_
  rw [hT 0 hK0]
  refine ez_blk (pc' := 9) 3 rfl ?_
  show ez xs 138 9 [some (.ref 74), some (.int (nI b)), some (.int (hK m c nd K (nI b) 0)), some (.int (nI 0)), none] [] m Q
  have loop : ∀ (r k : Nat) (M : zM) (now : Int32) (o : Option Value), k + r = K → (k < K → now = hK m c nd K (nI b) k) → frG m M → jC (z_S M) → (∀ j, j < k → M 76 j = m 76 j ||| hK m c nd K (nI b) j) → (∀ j, k ≤ j → M 76 j = m 76 j) → eC m M (ntK (Ve m) c (fun k => hK m c nd K (nI b) k) (edB m) b k P) → ez xs 138 9 [some (.ref 74), some (.int (nI b)), some (.int now), some (.int (nI k)), o] [] M Q := by
    intro r
    induction r with
    | zero =>
      intro k M now o hk hn hF hCM h1 h2 h3
      refine ez_blk 3 rfl ?_
      show ez xs 138 14 [some (.ref 74), some (.int (nI b)), some (.int now), some (.int (nI k)), o] [.ref 36, .int (nI k)] M Q
      refine ez_call (as := [.ref 36]) (rest := [.int (nI k)]) rfl (by decide) rfl ?_
      refine c_Script_size ?_
      rw [hF 36 1 (by omega) (by omega) (by omega), h36]
      show ez xs 138 17 [some (.ref 74), some (.int (nI b)), some (.int now), some (.int (nI k)), o] [.int (nI K), .int (nI k)] M Q
      refine ez_icmp_ge rfl (fun _ => ?_) (fun z => absurd (nI_le (by omega) (by omega)) z)
      rw [show k = K by omega] at h1 h3
      exact ez_ret rfl (by decide) rfl (g M h1 h3 hF)
    | succ r ih =>
      intro k M now o hk hn hF hCM h1 h2 h3
      have hkK : k < K := by omega
      have hn := hn hkK
      subst hn
      have hk6 : k < 6 := by omega
      have sM : ∀ N, frG m N → ∀ a j, sS a j → N a j = m a j := fun N hN a j q => by
        have q : (36 ≤ a ∧ a ≤ 73) ∨ (149 ≤ a ∧ a ≤ 163) ∨ (a = 131 ∧ j = 21) := q
        exact hN a j (by omega) (by omega) (by omega)
      refine ez_blk 3 rfl ?_
      show ez xs 138 14 [some (.ref 74), some (.int (nI b)), some (.int (hK m c nd K (nI b) k)), some (.int (nI k)), o] [.ref 36, .int (nI k)] M Q
      refine ez_call (as := [.ref 36]) (rest := [.int (nI k)]) rfl (by decide) rfl ?_
      refine c_Script_size ?_
      rw [hF 36 1 (by omega) (by omega) (by omega), h36]
      show ez xs 138 17 [some (.ref 74), some (.int (nI b)), some (.int (hK m c nd K (nI b) k)), some (.int (nI k)), o] [.int (nI K), .int (nI k)] M Q
      refine ez_icmp_ge rfl (fun z => absurd z (nI_ge (by omega) (by omega))) (fun _ => ?_)
      show ez xs 138 20 [some (.ref 74), some (.int (nI b)), some (.int (hK m c nd K (nI b) k)), some (.int (nI k)), o] [] M Q
      refine ez_blk 3 rfl ?_
      show ez xs 138 25 [some (.ref 74), some (.int (nI b)), some (.int (hK m c nd K (nI b) k)), some (.int (nI k)), o] [.int (nI k), .ref 36] M Q
      refine ez_call (as := [.ref 36, .int (nI k)]) (rest := []) rfl (by decide) rfl ?_
      refine itemOf_e hK6 (by rw [hF 36 1 (by omega) (by omega) (by omega), h36]) hkK ?_
      refine ez_blk (pc' := 36) 5 rfl ?_
      show ez xs 138 36 [some (.ref 74), some (.int (nI b)), some (.int (hK m c nd K (nI b) k)), some (.int (nI k)), some (.ref (38 + 6 * k))] [.int (nI k), .ref 76, .int (nI k), .ref 76] M Q
      refine ez_iald (n := 6) rfl (by decide) rfl hk6 (by omega) ?_
      rw [h2 k (Nat.le_refl k)]
      refine ez_blk (pc' := 39) 2 rfl ?_
      show ez xs 138 39 [some (.ref 74), some (.int (nI b)), some (.int (hK m c nd K (nI b) k)), some (.int (nI k)), some (.ref (38 + 6 * k))] [.int (m 76 k ||| hK m c nd K (nI b) k), .int (nI k), .ref 76] M Q
      refine ez_iast (n := 6) rfl (by decide) rfl hk6 (by omega) ?_
      have F1 : frG m (jj_up M 76 k (m 76 k ||| hK m c nd K (nI b) k)) := fun a j q1 q2 q3 => by rw [up_ne q2]; exact hF a j q1 q2 q3
      have C1 : jC (z_S (jj_up M 76 k (m 76 k ||| hK m c nd K (nI b) k))) := jC_i (by decide) hCM
      have A1 : ∀ j, j < k + 1 → jj_up M 76 k (m 76 k ||| hK m c nd K (nI b) k) 76 j = m 76 j ||| hK m c nd K (nI b) j := fun j hj => by
        by_cases e : j = k
        · rw [e, up_eq]
        · rw [up_k e]; exact h1 j (by omega)
      have B1 : ∀ j, k + 1 ≤ j → jj_up M 76 k (m 76 k ||| hK m c nd K (nI b) k) 76 j = m 76 j := fun j hj => by rw [up_k (by omega)]; exact h2 j (by omega)
      have E1 : eC m (jj_up M 76 k (m 76 k ||| hK m c nd K (nI b) k)) (ntK (Ve m) c (fun k => hK m c nd K (nI b) k) (edB m) b k P) := eC_same (fun a j _ _ => up_ne (by omega)) (up_ne (by omega)) h3
      generalize jj_up M 76 k (m 76 k ||| hK m c nd K (nI b) k) = M1 at F1 C1 A1 B1 E1
      have NX : ∀ N, frG m N → jC (z_S N) → (∀ j, N 76 j = M1 76 j) → eC m N (ntK (Ve m) c (fun k => hK m c nd K (nI b) k) (edB m) b (k + 1) P) → ez xs 138 63 [some (.ref 74), some (.int (nI b)), some (.int (hK m c nd K (nI b) k)), some (.int (nI k)), some (.ref (38 + 6 * k))] [] N Q := fun N FN CN n6 n7 => by
        have GO : ∀ now', (k + 1 < K → now' = hK m c nd K (nI b) (k + 1)) → ez xs 138 9 [some (.ref 74), some (.int (nI b)), some (.int now'), some (.int (nI k + 1)), some (.ref (38 + 6 * k))] [] N Q := fun now' q => by
          rw [nI_1]
          exact ih (k + 1) N now' _ (by omega) q FN CN (fun j hj => by rw [n6]; exact A1 j hj) (fun j hj => by rw [n6]; exact B1 j hj) n7
        refine ez_blk 5 rfl ?_
        show ez xs 138 70 [some (.ref 74), some (.int (nI b)), some (.int (hK m c nd K (nI b) k)), some (.int (nI k)), some (.ref (38 + 6 * k))] [.ref 36, .int (nI k + 1)] N Q
        refine ez_call (as := [.ref 36]) (rest := [.int (nI k + 1)]) rfl (by decide) rfl ?_
        refine c_Script_size ?_
        rw [FN 36 1 (by omega) (by omega) (by omega), h36]
        show ez xs 138 73 [some (.ref 74), some (.int (nI b)), some (.int (hK m c nd K (nI b) k)), some (.int (nI k)), some (.ref (38 + 6 * k))] [.int (nI K), .int (nI k + 1)] N Q
        refine ez_icmp_ge rfl (fun z => ?_) (fun z => ?_)
        · refine ez_blk (pc' := 9) 2 rfl ?_
          refine GO _ (fun q => ?_)
          rw [nI_1] at z
          exact absurd z (nI_ge q (by omega))
        have hk1 : k + 1 < K := by
          by_cases q : k + 1 < K
          · exact q
          · rw [nI_1] at z
            exact absurd (nI_le (by omega) (by omega)) z
        have gN : gC N c nd := gC_same hc (fun a j _ _ => FN a j (by omega) (by omega) (by omega)) hG
        have i5 : N (38 + 6 * k) 5 = m 154 k := by rw [FN (38 + 6 * k) 5 (by omega) (by omega) (by omega)]; exact (hI k hkK).2.2.1.1
        show ez xs 138 76 [some (.ref 74), some (.int (nI b)), some (.int (hK m c nd K (nI b) k)), some (.int (nI k)), some (.ref (38 + 6 * k))] [] N Q
        refine ez_blk 1 rfl ?_
        show ez xs 138 78 [some (.ref 74), some (.int (nI b)), some (.int (hK m c nd K (nI b) k)), some (.int (nI k)), some (.ref (38 + 6 * k))] [.ref (38 + 6 * k)] N Q
        refine ez_getN rfl (z_iti hk6) (z_its hk6) (by decide) rfl ?_
        rw [i5]
        show ez xs 138 81 [some (.ref 74), some (.int (nI b)), some (.int (hK m c nd K (nI b) k)), some (.int (nI k)), some (.ref (38 + 6 * k))] [.int (m 154 k)] N Q
        have eH : hK m c nd K (nI b) (k + 1) = if gf m k = true then fq c (pE0 c nd) (pE1 c nd) (tK m c nd K (nI b) (k + 1)) (sU (pE0 c nd) (pE1 c nd) (hK m c nd K (nI b) k) c) 25 &&& tK m c nd K (nI b) (k + 1) else sU (pE0 c nd) (pE1 c nd) (hK m c nd K (nI b) k) c := rfl
        refine ez_if_eq rfl (fun z2 => ?_) (fun z2 => ?_)
        · show ez xs 138 100 [some (.ref 74), some (.int (nI b)), some (.int (hK m c nd K (nI b) k)), some (.int (nI k)), some (.ref (38 + 6 * k))] [] N Q
          refine ez_blk 3 rfl ?_
          show ez xs 138 105 [some (.ref 74), some (.int (nI b)), some (.int (hK m c nd K (nI b) k)), some (.int (nI k)), some (.ref (38 + 6 * k))] [.int (hK m c nd K (nI b) k), .ref 3] N Q
          refine ez_call (as := [.ref 3, .int (hK m c nd K (nI b) k)]) (rest := []) rfl (by decide) rfl ?_
          refine h_successorsOf hc gN ?_
          refine ez_blk (pc' := 9) 3 rfl ?_
          refine GO _ (fun _ => ?_)
          rw [eH, if_neg (by unfold gf; rw [z2]; decide)]
        · show ez xs 138 84 [some (.ref 74), some (.int (nI b)), some (.int (hK m c nd K (nI b) k)), some (.int (nI k)), some (.ref (38 + 6 * k))] [] N Q
          refine ez_blk 7 rfl ?_
          show ez xs 138 93 [some (.ref 74), some (.int (nI b)), some (.int (hK m c nd K (nI b) k)), some (.int (nI k)), some (.ref (38 + 6 * k))] [.int (nI k + 1), .ref 77, .int (hK m c nd K (nI b) k), .ref 74] N Q
          rw [nI_1]
          refine ez_iald (n := 6) rfl (by decide) rfl (by omega) (by omega) ?_
          rw [FN 77 (k + 1) (by omega) (by omega) (by omega), hT (k + 1) hk1]
          show ez xs 138 94 [some (.ref 74), some (.int (nI b)), some (.int (hK m c nd K (nI b) k)), some (.int (nI k)), some (.ref (38 + 6 * k))] [.int (tK m c nd K (nI b) (k + 1)), .int (hK m c nd K (nI b) k), .ref 74] N Q
          refine ez_call (as := [.ref 74, .int (hK m c nd K (nI b) k), .int (tK m c nd K (nI b) (k + 1))]) (rest := []) rfl (by decide) rfl ?_
          refine h_firstTaken hc gN ?_
          refine ez_blk (pc' := 9) 4 rfl ?_
          refine GO _ (fun _ => ?_)
          rw [eH, if_pos (by unfold gf; exact decide_eq_true z2)]
      show ez xs 138 40 [some (.ref 74), some (.int (nI b)), some (.int (hK m c nd K (nI b) k)), some (.int (nI k)), some (.ref (38 + 6 * k))] [] M1 Q
      refine ez_blk 1 rfl ?_
      show ez xs 138 42 [some (.ref 74), some (.int (nI b)), some (.int (hK m c nd K (nI b) k)), some (.int (nI k)), some (.ref (38 + 6 * k))] [.ref (38 + 6 * k)] M1 Q
      have IM1 : rI M1 k := rI_same hk6 (sM M1 F1) (hI k hkK)
      have s9 : ∀ N, frG m N → ∀ a j, 149 ≤ a → a ≤ 163 → N a j = m a j := fun N hN a j q1 q2 => hN a j (by omega) (by omega) (by omega)
      refine ez_calls (i := 38 + 6 * k) (as2 := []) (rest := []) rfl (by decide) rfl rfl rfl (z_iti hk6) (z_its hk6) rfl ?_
      refine d_Item_edits (z_iti hk6) (z_its hk6) ?_
      rw [edits_e IM1, edB_same (s9 M1 F1)]
      show ez xs 138 45 [some (.ref 74), some (.int (nI b)), some (.int (hK m c nd K (nI b) k)), some (.int (nI k)), some (.ref (38 + 6 * k))] [.int (bI (edB m k))] M1 Q
      rw [ntK] at NX
      refine ez_if_eq rfl (fun z => ?_) (fun z => ?_)
      · rw [if_neg (by rw [bI_0.mp z]; decide)] at NX
        exact NX M1 F1 C1 (fun _ => rfl) E1
      have hed := bI_t.mp z
      rw [if_pos hed] at NX
      show ez xs 138 48 [some (.ref 74), some (.int (nI b)), some (.int (hK m c nd K (nI b) k)), some (.int (nI k)), some (.ref (38 + 6 * k))] [] M1 Q
      refine ez_blk 4 rfl ?_
      show ez xs 138 55 [some (.ref 74), some (.int (nI b)), some (.int (hK m c nd K (nI b) k)), some (.int (nI k)), some (.ref (38 + 6 * k))] [.int (nI b), .ref (38 + 6 * k), .ref 79] M1 Q
      refine ez_call (as := [.ref 79, .ref (38 + 6 * k), .int (nI b)]) (rest := []) rfl (by decide) rfl ?_
      refine ez_mono (ez_C C1 (h_build (Q := fun r N => r = none ∧ eW N (wW M1 (nI b) k) ∧ N 79 2 = M1 159 k ∧ N 79 3 = M1 153 k ∧ (∀ a j, a ≠ 79 → a ≠ 80 → N a j = M1 a j)) hk6 hb IM1 (fun N q1 q2 q3 q4 => ⟨rfl, q1, q2, q3, q4⟩))) (fun rr N q => ?_)
      obtain ⟨⟨rfl, w1, w2, w3, wF⟩, CN⟩ := q
      rw [W_same (s9 M1 F1)] at w1
      rw [s9 M1 F1 159 k (by omega) (by omega)] at w2
      rw [s9 M1 F1 153 k (by omega) (by omega)] at w3
      have FN : frG m N := fun a j q1 q2 q3 => by rw [wF a j (by omega) (by omega)]; exact F1 a j q1 q2 q3
      have EN : eC m N (ntK (Ve m) c (fun k => hK m c nd K (nI b) k) (edB m) b k P) := eC_same (fun a j _ _ => wF a j (by omega) (by omega)) (wF 74 7 (by omega) (by omega)) E1
      show ez xs 138 58 [some (.ref 74), some (.int (nI b)), some (.int (hK m c nd K (nI b) k)), some (.int (nI k)), some (.ref (38 + 6 * k))] [] N Q
      refine ez_blk 2 rfl ?_
      show ez xs 138 60 [some (.ref 74), some (.int (nI b)), some (.int (hK m c nd K (nI b) k)), some (.int (nI k)), some (.ref (38 + 6 * k))] [.int (hK m c nd K (nI b) k), .ref 74] N Q
      refine ez_call (as := [.ref 74, .int (hK m c nd K (nI b) k)]) (rest := []) rfl (by decide) rfl ?_
      have RN := ntK_rg (V := Ve m) (c := c) (H := fun k => hK m c nd K (nI b) k) hb hR k (by omega)
      refine ez_mono (ez_C CN (h_noteEdits (Q := fun r N2 => r = none ∧ eC m N2 (ntN (Ve m) (hK m c nd K (nI b) k) (k, b) c (ntK (Ve m) c (fun k => hK m c nd K (nI b) k) (edB m) b k P)) ∧ (∀ a j, ¬ (a = 74 ∧ j = 7) → ¬ (81 ≤ a ∧ a ≤ 128) → N2 a j = N a j)) hc hK6 hkK hb hI hed (by rw [FN 3 1 (by omega) (by omega) (by omega)]; exact hG.1) w1 w2 w3 (jC_80 CN) EN RN (fun N2 q1 q2 => ⟨rfl, q1, q2⟩))) (fun rr N2 q => ?_)
      obtain ⟨⟨rfl, e2, f2⟩, C2⟩ := q
      refine NX N2 (fun a j q1 q2 q3 => by rw [f2 a j q1 (by omega)]; exact FN a j q1 q2 q3) C2 (fun j => ?_) e2
      rw [f2 76 j (by omega) (by omega), wF 76 j (by omega) (by omega)]
  exact loop K 0 m _ none (by omega) (fun _ => rfl) (fun _ _ _ _ _ => rfl) hC (fun j hj => absurd hj (Nat.not_lt_zero j)) (fun _ _ => rfl) hE
