/-! Edits noted by the reference. -/
def lM (M : zM) (c : Nat) (P : nS) : Prop := ∀ n, n < c → (P.2.1 n = none → M 167 n = -1) ∧ ∀ e, P.2.1 n = some e → M 167 n = nI e.1 ∧ M 168 n = nI e.2
theorem rI_S {S M : zM} {i : Nat} (hi : i < 6) (h : ∀ a j, sS a j → M a j = S a j) (g : rI S i) : rI M i := rI_same hi h g
theorem Vv_same {S M : zM} {k b : Nat} (h : ∀ a j, 149 ≤ a → a ≤ 163 → M a j = S a j) : Vv M k b = Vv S k b := by
  unfold Vv
  rw [h 153 k (by omega) (by omega), W_same h]
/-- what the reference's notes write -/
def frT (m M : zM) : Prop := ∀ a j, ¬ (167 ≤ a ∧ a ≤ 170) → M a j = m a j
theorem h_M_note {xs : jx_Xs} {S m : zM} {Q : Option Value → zM → Prop} {c K b : Nat} {H : Nat → Int32} {P : nS} (hc : c ≤ 24) (hK : K ≤ 6) (hb : b < 64) (hI : ∀ i, i < K → rI S i) (hS : ∀ a j, sS a j → m a j = S a j) (hit : m 131 21 = nI K) (h5 : m 131 5 = nI c) (hH : ∀ k, k < K → m 165 k = H k) (hL : lM m c P) (hR : nRg c K (edB S) P) (g : ∀ M v, lM M c (ntK (Ve S) c H (edB S) b K P) → (ntK (Ve S) c H (edB S) b K P).2.2.1 = (P.2.2.1 && v) → frT m M → Q (some (.int (bI v))) M) : ez xs 176 0 (jx_ent 176 [.ref 131, .int (nI b)]) [] m Q := by
  have s9 : ∀ a j, 149 ≤ a → a ≤ 163 → m a j = S a j := fun a j q1 q2 => hS a j (Or.inr (Or.inl ⟨q1, q2⟩))
  have INNER : ∀ (k : Nat) (Pk : nS), k < K → edB S k = true → nRg c K (edB S) Pk → ∀ (r n : Nat) (M : zM) (v : Bool), n + r = c → frT m M → lM M c (ntN (Ve S) (H k) (k, b) n Pk) → (ntN (Ve S) (H k) (k, b) n Pk).2.2.1 = (P.2.2.1 && v) → (∀ N w o, frT m N → lM N c (ntN (Ve S) (H k) (k, b) c Pk) → (ntN (Ve S) (H k) (k, b) c Pk).2.2.1 = (P.2.2.1 && w) → ez xs 176 122 [some (.ref 131), some (.int (nI b)), some (.int (bI w)), some (.int (nI k)), o] [] N Q) → ez xs 176 15 [some (.ref 131), some (.int (nI b)), some (.int (bI v)), some (.int (nI k)), some (.int (nI n))] [] M Q := by
    intro k Pk hk hed hRk r
    have hk6 : k < 6 := by omega
    induction r with
    | zero =>
      intro n M v hn hF hM hv cont
      refine ez_blk 3 rfl ?_
      show ez xs 176 21 [some (.ref 131), some (.int (nI b)), some (.int (bI v)), some (.int (nI k)), some (.int (nI n))] [.int (M 131 5), .int (nI n)] M Q
      rw [hF 131 5 (by omega), h5]
      refine ez_icmp_ge rfl (fun _ => ?_) (fun z => absurd (nI_le (by omega) (by omega)) z)
      rw [show n = c by omega] at hM hv
      exact cont M v _ hF hM hv
    | succ r ih =>
      intro n M v hn hF hM hv cont
      have hnc : n < c := by omega
      refine ez_blk 3 rfl ?_
      show ez xs 176 21 [some (.ref 131), some (.int (nI b)), some (.int (bI v)), some (.int (nI k)), some (.int (nI n))] [.int (M 131 5), .int (nI n)] M Q
      rw [hF 131 5 (by omega), h5]
      refine ez_icmp_ge rfl (fun z => absurd z (nI_ge hnc (by omega))) (fun _ => ?_)
      show ez xs 176 24 [some (.ref 131), some (.int (nI b)), some (.int (bI v)), some (.int (nI k)), some (.int (nI n))] [] M Q
      refine ez_blk 3 rfl ?_
      show ez xs 176 29 [some (.ref 131), some (.int (nI b)), some (.int (bI v)), some (.int (nI k)), some (.int (nI n))] [.int (nI k), .ref 153] M Q
      refine ez_zald (n := 6) rfl (by decide) rfl hk6 (by omega) ?_
      rw [hF 153 k (by omega), s9 153 k (by omega) (by omega)]
      show ez xs 176 30 [some (.ref 131), some (.int (nI b)), some (.int (bI v)), some (.int (nI k)), some (.int (nI n))] [.int (S 153 k)] M Q
      have B : ez xs 176 42 [some (.ref 131), some (.int (nI b)), some (.int (bI v)), some (.int (nI k)), some (.int (nI n))] [] M Q := by
        refine ez_blk 4 rfl ?_
        show ez xs 176 48 [some (.ref 131), some (.int (nI b)), some (.int (bI v)), some (.int (nI k)), some (.int (nI n))] [.int (nI k), .ref 165, .ref 131] M Q
        refine ez_iald (n := 6) rfl (by decide) rfl hk6 (by omega) ?_
        rw [hF 165 k (by omega), hH k hk]
        refine ez_blk 1 rfl ?_
        show ez xs 176 51 [some (.ref 131), some (.int (nI b)), some (.int (bI v)), some (.int (nI k)), some (.int (nI n))] [.int (nI n), .int (H k), .ref 131] M Q
        refine ez_call (as := [.ref 131, .int (H k), .int (nI n)]) (rest := []) rfl (by decide) rfl ?_
        refine d_M_has ?_
        rw [f_has (by omega)]
        show ez xs 176 54 [some (.ref 131), some (.int (nI b)), some (.int (bI v)), some (.int (nI k)), some (.int (nI n))] [.int (bI (bt (H k) n))] M Q
        have hRn := ntN_rg (V := Ve S) (x := H k) (e := (k, b)) hk hb hed hRk n (by omega)
        generalize hPn : ntN (Ve S) (H k) (k, b) n Pk = Pn at hM hv hRn
        refine ez_if_eq rfl (fun z => ?_) (fun z => ?_)
        · refine ez_blk (pc' := 15) 2 rfl ?_
          show ez xs 176 15 [some (.ref 131), some (.int (nI b)), some (.int (bI v)), some (.int (nI k)), some (.int (nI n + 1))] [] M Q
          rw [nI_1]
          have e : ntN (Ve S) (H k) (k, b) (n + 1) Pk = Pn := by rw [ntN, hPn, if_neg (by rw [bI_0.mp z]; decide)]
          exact ih (n + 1) M v (by omega) hF (by rw [e]; exact hM) (by rw [e]; exact hv) cont
        have e : ntN (Ve S) (H k) (k, b) (n + 1) Pk = nt1 (Ve S) (k, b) n Pn := by rw [ntN, hPn, if_pos (bI_t.mp z)]
        have PUT : ∀ (N : zM) (w : Bool), frT m N → (∀ j, N 167 j = M 167 j) → (∀ j, N 168 j = M 168 j) → (Pn.2.2.1 && gd1 (Ve S) (Pn.2.1 n) (k, b)) = (P.2.2.1 && w) → ez xs 176 100 [some (.ref 131), some (.int (nI b)), some (.int (bI w)), some (.int (nI k)), some (.int (nI n))] [] N Q := fun N w nF n7 n8 hw => by
          refine ez_blk 4 rfl ?_
          show ez xs 176 107 [some (.ref 131), some (.int (nI b)), some (.int (bI w)), some (.int (nI k)), some (.int (nI n))] [.int (nI k), .int (nI n), .ref 167] N Q
          refine ez_iast (n := 24) rfl (by decide) rfl (by omega) (by omega) ?_
          refine ez_blk (pc' := 115) 4 rfl ?_
          show ez xs 176 115 [some (.ref 131), some (.int (nI b)), some (.int (bI w)), some (.int (nI k)), some (.int (nI n))] [.int (nI b), .int (nI n), .ref 168] (jj_up N 167 n (nI k)) Q
          refine ez_iast (n := 24) rfl (by decide) rfl (by omega) (by omega) ?_
          refine ez_blk (pc' := 15) 2 rfl ?_
          show ez xs 176 15 [some (.ref 131), some (.int (nI b)), some (.int (bI w)), some (.int (nI k)), some (.int (nI n + 1))] [] (jj_up (jj_up N 167 n (nI k)) 168 n (nI b)) Q
          rw [nI_1]
          refine ih (n + 1) _ w (by omega) (fun a j q => by rw [up_ne (by omega), up_ne (by omega)]; exact nF a j q) (fun j hj => ?_) (by rw [e]; exact hw) cont
          rw [e]
          have E : (nt1 (Ve S) (k, b) n Pn).2.1 j = if j = n then some (k, b) else Pn.2.1 j := rfl
          rw [E]
          by_cases q : j = n
          · rw [if_pos q, q]
            refine ⟨fun z => (by cases z), fun d z => ?_⟩
            cases z
            exact ⟨by rw [up_ne (by omega), up_eq], up_eq⟩
          · rw [if_neg q, up_ne (by omega), up_k q, up_k q, up_ne (by omega), n7, n8]
            exact hM j hj
        have NO : ∀ N : zM, frT m N → (∀ j, N 167 j = M 167 j) → (∀ j, N 168 j = M 168 j) → (Pn.2.2.1 && gd1 (Ve S) (Pn.2.1 n) (k, b)) = (P.2.2.1 && false) → ez xs 176 98 [some (.ref 131), some (.int (nI b)), some (.int (bI v)), some (.int (nI k)), some (.int (nI n))] [] N Q := fun N nF n7 n8 hw => by
          refine ez_blk (pc' := 100) 2 rfl ?_
          exact PUT N false nF n7 n8 hw
        have YES : ∀ N : zM, frT m N → (∀ j, N 167 j = M 167 j) → (∀ j, N 168 j = M 168 j) → (Pn.2.2.1 && gd1 (Ve S) (Pn.2.1 n) (k, b)) = (P.2.2.1 && true) → ez xs 176 94 [some (.ref 131), some (.int (nI b)), some (.int (bI v)), some (.int (nI k)), some (.int (nI n))] [] N Q := fun N nF n7 n8 hw => by
          refine ez_blk (pc' := 100) 3 rfl ?_
          exact PUT N true nF n7 n8 hw
        show ez xs 176 57 [some (.ref 131), some (.int (nI b)), some (.int (bI v)), some (.int (nI k)), some (.int (nI n))] [] M Q
        refine ez_blk 1 rfl ?_
        show ez xs 176 58 [some (.ref 131), some (.int (nI b)), some (.int (bI v)), some (.int (nI k)), some (.int (nI n))] [.int (bI v)] M Q
        refine ez_if_eq rfl (fun zv => ?_) (fun zv => ?_)
        · refine NO M hF (fun _ => rfl) (fun _ => rfl) ?_
          rw [hv, bI_0.mp zv, Bool.and_false]
          rfl
        have zv := bI_t.mp zv
        rw [zv, Bool.and_true] at hv
        show ez xs 176 61 [some (.ref 131), some (.int (nI b)), some (.int (bI v)), some (.int (nI k)), some (.int (nI n))] [] M Q
        refine ez_blk 3 rfl ?_
        show ez xs 176 67 [some (.ref 131), some (.int (nI b)), some (.int (bI v)), some (.int (nI k)), some (.int (nI n))] [.int (nI n), .ref 167] M Q
        refine ez_iald (n := 24) rfl (by decide) rfl (by omega) (by omega) ?_
        show ez xs 176 68 [some (.ref 131), some (.int (nI b)), some (.int (bI v)), some (.int (nI k)), some (.int (nI n))] [.int (M 167 n)] M Q
        cases l : Pn.2.1 n with
        | none =>
          rw [(hM n hnc).1 l]
          refine ez_if_lt rfl (fun _ => ?_) (fun z => absurd (by decide) z)
          refine YES M hF (fun _ => rfl) (fun _ => rfl) ?_
          rw [l, hv]
          rfl
        | some d =>
          obtain ⟨d1, d2⟩ := (hM n hnc).2 d l
          obtain ⟨-, r1, r2, -⟩ := hRn n d (Or.inr l)
          rw [d1]
          refine ez_if_lt rfl (fun z => absurd z (nI_pos (by omega))) (fun _ => ?_)
          show ez xs 176 71 [some (.ref 131), some (.int (nI b)), some (.int (bI v)), some (.int (nI k)), some (.int (nI n))] [] M Q
          refine ez_blk 4 rfl ?_
          show ez xs 176 78 [some (.ref 131), some (.int (nI b)), some (.int (bI v)), some (.int (nI k)), some (.int (nI n))] [.int (nI n), .ref 167, .ref 131] M Q
          refine ez_iald (n := 24) rfl (by decide) rfl (by omega) (by omega) ?_
          rw [d1]
          refine ez_blk 3 rfl ?_
          show ez xs 176 85 [some (.ref 131), some (.int (nI b)), some (.int (bI v)), some (.int (nI k)), some (.int (nI n))] [.int (nI n), .ref 168, .int (nI d.1), .ref 131] M Q
          refine ez_iald (n := 24) rfl (by decide) rfl (by omega) (by omega) ?_
          rw [d2]
          refine ez_blk 2 rfl ?_
          show ez xs 176 88 [some (.ref 131), some (.int (nI b)), some (.int (bI v)), some (.int (nI k)), some (.int (nI n))] [.int (nI b), .int (nI k), .int (nI d.2), .int (nI d.1), .ref 131] M Q
          refine ez_call (as := [.ref 131, .int (nI d.1), .int (nI d.2), .int (nI k), .int (nI b)]) (rest := []) rfl (by decide) rfl ?_
          have sM : ∀ a j, sS a j → M a j = S a j := fun a j q => by
            have q2 : (36 ≤ a ∧ a ≤ 73) ∨ (149 ≤ a ∧ a ≤ 163) ∨ (a = 131 ∧ j = 21) := q
            rw [hF a j (by omega)]
            exact hS a j q
          have t9 : ∀ a j, 149 ≤ a → a ≤ 163 → M a j = S a j := fun a j q1 q2 => sM a j (Or.inr (Or.inl ⟨q1, q2⟩))
          refine h_M_alike (by omega) r2 hk6 hb (rI_same (by omega) sM (hI d.1 r1)) (rI_same hk6 sM (hI k hk)) (fun N nF => ?_)
          have fN : frT m N := fun a j q => by rw [nF a j (by omega) (by omega)]; exact hF a j q
          rw [Vv_same t9, Vv_same t9]
          show ez xs 176 91 [some (.ref 131), some (.int (nI b)), some (.int (bI v)), some (.int (nI k)), some (.int (nI n))] [.int (bI (decide (Vv S d.1 d.2 = Vv S k b)))] N Q
          refine ez_if_eq rfl (fun z => ?_) (fun z => ?_)
          · refine NO N fN (fun j => nF 167 j (by omega) (by omega)) (fun j => nF 168 j (by omega) (by omega)) ?_
            rw [l]
            show (Pn.2.2.1 && decide (Vv S d.1 d.2 = Vv S k b)) = _
            rw [bI_0.mp z, Bool.and_false, Bool.and_false]
          · refine YES N fN (fun j => nF 167 j (by omega) (by omega)) (fun j => nF 168 j (by omega) (by omega)) ?_
            rw [l, hv]
            show (P.2.2.1 && decide (Vv S d.1 d.2 = Vv S k b)) = _
            rw [bI_t.mp z]
      refine ez_if_ne rfl (fun _ => B) (fun z => ?_)
      show ez xs 176 33 [some (.ref 131), some (.int (nI b)), some (.int (bI v)), some (.int (nI k)), some (.int (nI n))] [] M Q
      refine ez_blk 3 rfl ?_
      show ez xs 176 38 [some (.ref 131), some (.int (nI b)), some (.int (bI v)), some (.int (nI k)), some (.int (nI n))] [.int (nI k), .ref 159] M Q
      refine ez_iald (n := 6) rfl (by decide) rfl hk6 (by omega) ?_
      rw [hF 159 k (by omega), s9 159 k (by omega) (by omega)]
      show ez xs 176 39 [some (.ref 131), some (.int (nI b)), some (.int (bI v)), some (.int (nI k)), some (.int (nI n))] [.int (S 159 k)] M Q
      refine ez_if_le rfl (fun z2 => ?_) (fun _ => B)
      unfold edB at hed
      rw [Bool.or_eq_true, decide_eq_true_iff, decide_eq_true_iff] at hed
      exact absurd hed (fun q => q.elim (fun w => w z) (fun w => w z2))
  have OUTER : ∀ (r k : Nat) (M : zM) (v : Bool) (o : Option Value), k + r = K → frT m M → lM M c (ntK (Ve S) c H (edB S) b k P) → (ntK (Ve S) c H (edB S) b k P).2.2.1 = (P.2.2.1 && v) → ez xs 176 4 [some (.ref 131), some (.int (nI b)), some (.int (bI v)), some (.int (nI k)), o] [] M Q := by
    intro r
    induction r with
    | zero =>
      intro k M v o hk hF hM hv
      refine ez_blk 3 rfl ?_
      show ez xs 176 9 [some (.ref 131), some (.int (nI b)), some (.int (bI v)), some (.int (nI k)), o] [.int (M 131 21), .int (nI k)] M Q
      rw [hF 131 21 (by omega), hit]
      refine ez_icmp_ge rfl (fun _ => ?_) (fun z => absurd (nI_le (by omega) (by omega)) z)
      show ez xs 176 128 [some (.ref 131), some (.int (nI b)), some (.int (bI v)), some (.int (nI k)), o] [] M Q
      refine ez_blk 1 rfl ?_
      rw [show k = K by omega] at hM hv
      refine ez_retz (y := 176) rfl rfl ?_ (g M v hM hv hF)
      unfold bI
      split
      · exact Or.inr rfl
      · exact Or.inl rfl
    | succ r ih =>
      intro k M v o hk hF hM hv
      have NX : ∀ N w o, frT m N → lM N c (ntK (Ve S) c H (edB S) b (k + 1) P) → (ntK (Ve S) c H (edB S) b (k + 1) P).2.2.1 = (P.2.2.1 && w) → ez xs 176 122 [some (.ref 131), some (.int (nI b)), some (.int (bI w)), some (.int (nI k)), o] [] N Q := fun N w o n1 n2 n3 => by
        refine ez_blk (pc' := 4) 2 rfl ?_
        show ez xs 176 4 [some (.ref 131), some (.int (nI b)), some (.int (bI w)), some (.int (nI k + 1)), o] [] N Q
        rw [nI_1]
        exact ih (k + 1) N w o (by omega) n1 n2 n3
      have hRk := ntK_rg (V := Ve S) (H := H) hb hR k (by omega)
      refine ez_blk 3 rfl ?_
      show ez xs 176 9 [some (.ref 131), some (.int (nI b)), some (.int (bI v)), some (.int (nI k)), o] [.int (M 131 21), .int (nI k)] M Q
      rw [hF 131 21 (by omega), hit]
      refine ez_icmp_ge rfl (fun z => absurd z (nI_ge (by omega) (by omega))) (fun _ => ?_)
      show ez xs 176 12 [some (.ref 131), some (.int (nI b)), some (.int (bI v)), some (.int (nI k)), o] [] M Q
      refine ez_blk (pc' := 15) 2 rfl ?_
      rw [ntK] at NX
      by_cases hed : edB S k = true
      · rw [if_pos hed] at NX
        exact INNER k _ (by omega) hed hRk c 0 M v (by omega) hF hM hv NX
      · rw [if_neg hed] at NX
        have h0 : S 153 k = 0 ∧ S 159 k ≤ 0 := by
          unfold edB at hed
          rw [Bool.or_eq_true, decide_eq_true_iff, decide_eq_true_iff] at hed
          exact ⟨Decidable.of_not_not (fun z => hed (Or.inl z)), Decidable.of_not_not (fun z => hed (Or.inr z))⟩
        show ez xs 176 15 [some (.ref 131), some (.int (nI b)), some (.int (bI v)), some (.int (nI k)), some (.int (nI 0))] [] M Q
        refine ez_blk 3 rfl ?_
        show ez xs 176 21 [some (.ref 131), some (.int (nI b)), some (.int (bI v)), some (.int (nI k)), some (.int (nI 0))] [.int (M 131 5), .int (nI 0)] M Q
        refine ez_icmp_ge rfl (fun _ => NX M v _ hF hM hv) (fun _ => ?_)
        show ez xs 176 24 [some (.ref 131), some (.int (nI b)), some (.int (bI v)), some (.int (nI k)), some (.int (nI 0))] [] M Q
        refine ez_blk 3 rfl ?_
        show ez xs 176 29 [some (.ref 131), some (.int (nI b)), some (.int (bI v)), some (.int (nI k)), some (.int (nI 0))] [.int (nI k), .ref 153] M Q
        refine ez_zald (n := 6) rfl (by decide) rfl (by omega) (by omega) ?_
        rw [hF 153 k (by omega), s9 153 k (by omega) (by omega)]
        show ez xs 176 30 [some (.ref 131), some (.int (nI b)), some (.int (bI v)), some (.int (nI k)), some (.int (nI 0))] [.int (S 153 k)] M Q
        refine ez_if_ne rfl (fun z => absurd h0.1 z) (fun _ => ?_)
        show ez xs 176 33 [some (.ref 131), some (.int (nI b)), some (.int (bI v)), some (.int (nI k)), some (.int (nI 0))] [] M Q
        refine ez_blk 3 rfl ?_
        show ez xs 176 38 [some (.ref 131), some (.int (nI b)), some (.int (bI v)), some (.int (nI k)), some (.int (nI 0))] [.int (nI k), .ref 159] M Q
        refine ez_iald (n := 6) rfl (by decide) rfl (by omega) (by omega) ?_
        rw [hF 159 k (by omega), s9 159 k (by omega) (by omega)]
        show ez xs 176 39 [some (.ref 131), some (.int (nI b)), some (.int (bI v)), some (.int (nI k)), some (.int (nI 0))] [.int (S 159 k)] M Q
        exact ez_if_le rfl (fun _ => NX M v _ hF hM hv) (fun z => absurd h0.2 z)
  refine ez_blk 4 rfl ?_
  exact OUTER K 0 m true none (by omega) (fun _ _ _ => rfl) hL (by rw [ntK, Bool.and_true])
