/-! What the class's search finds for the items. -/
def Lf (S : zM) (c : Nat) (nd : Nat → Nat → Int32) (b : Int32) (k : Nat) : Int32 := mk (lkB nd (S 149 k) (S 150 k) (S 151 k) (S 152 k) b) c
def Ff (S : zM) (c : Nat) (nd : Nat → Nat → Int32) (b : Int32) (k : Nat) : Int32 := if S 155 k < 0 then 0 else mk (lkB nd (S 155 k) (S 156 k) (S 157 k) (S 158 k) b) c
def gf (S : zM) (k : Nat) : Bool := decide (¬ S 154 k = 0)
theorem like_item {m : zM} {c i : Nat} {nd : Nat → Nat → Int32} {b : Int32} (h : rI m i) (hnd : ∀ n, n < c → nFd (nd n)) : mk (lkC m (39 + 6 * i) nd b) c = Lf m c nd b i := mk_ext (fun n hn => lk_eq h.1 (hnd n hn))
theorem like_forb {m : zM} {c i : Nat} {nd : Nat → Nat → Int32} {b : Int32} (hc : c ≤ 24) (h : rI m i) (h5 : ¬ m (38 + 6 * i) 5 = 0) (hnd : ∀ n, n < c → nFd (nd n)) : mk (lkC m (40 + 6 * i) nd b) c = Ff m c nd b i := by
  obtain ⟨-, -, ⟨g1, g2⟩, -, -, g6⟩ := h
  have e : m 154 i = 1 := by
    rcases g2 with q | q
    · rw [g1, q] at h5; exact absurd rfl h5
    · exact q
  unfold Ff
  rcases g6 e with ⟨q1, q2⟩ | q
  · rw [q1, if_pos (by decide)]
    refine bt_ext (fun n hn => ?_)
    rw [bt_mk (by omega), bt_0]
    by_cases l : n < c
    · unfold lkC
      rw [decide_eq_true l, q2, Bool.true_and]
      obtain ⟨-, k, z, k1, -, n0, -⟩ := hnd n l
      rw [n0]
      exact decide_eq_false (fun w => n1_ne k (by omega) w.1)
    · rw [decide_eq_false l]; rfl
  · obtain ⟨p, -, p1, -, p2, -⟩ := id q
    rw [if_neg (by rw [p2]; exact nI_pos (by omega))]
    exact mk_ext (fun n hn => lk_eq q (hnd n hn))
theorem h_ruinous {xs : jx_Xs} {m : zM} {Q : Option Value → zM → Prop} {tn b : Int32} {c i : Nat} {nd : Nat → Nat → Int32} (hi : i < 6) (hc : c ≤ 24) (hI : rI m i) (hG : gC m c nd) (hnd : ∀ n, n < c → nFd (nd n)) (g : Q (some (.int (rn c (pE0 c nd) (pE1 c nd) (Ff m c nd b i) (gf m i) tn))) m) : ez xs 121 0 (jx_ent 121 [.ref 74, .ref (38 + 6 * i), .int tn, .int b]) [] m Q := by
  have e5 : m (38 + 6 * i) 5 = m 154 i := hI.2.2.1.1
  refine ez_blk 1 rfl ?_
  show ez xs 121 1 [some (.ref 74), some (.ref (38 + 6 * i)), some (.int tn), some (.int b), none, none, none, none] [.ref (38 + 6 * i)] m Q
  refine ez_getN rfl (z_iti hi) (z_its hi) (by decide) rfl ?_
  show ez xs 121 4 [some (.ref 74), some (.ref (38 + 6 * i)), some (.int tn), some (.int b), none, none, none, none] [.int (m (38 + 6 * i) 5)] m Q
  refine ez_if_ne rfl (fun h5 => ?_) (fun h5 => ?_)
  case refine_2 =>
    show ez xs 121 7 [some (.ref 74), some (.ref (38 + 6 * i)), some (.int tn), some (.int b), none, none, none, none] [] m Q
    refine ez_blk 3 rfl ?_
    refine ez_ret (y := 121) rfl (by decide) rfl ?_
    unfold rn at g
    have e : gf m i = false := by unfold gf; rw [← e5, h5]; rfl
    rw [e, if_neg (by decide)] at g
    exact g
  have e : gf m i = true := by unfold gf; rw [← e5]; exact decide_eq_true h5
  unfold rn at g
  rw [e, if_pos rfl] at g
  show ez xs 121 11 [some (.ref 74), some (.ref (38 + 6 * i)), some (.int tn), some (.int b), none, none, none, none] [] m Q
  refine ez_blk 2 rfl ?_
  show ez xs 121 15 [some (.ref 74), some (.ref (38 + 6 * i)), some (.int tn), some (.int b), none, none, none, none] [.ref 3] m Q
  refine ez_call (as := [.ref 3]) (rest := []) rfl (by decide) rfl ?_
  refine c_Program_exitBit ?_
  rw [hG.1]
  show ez xs 121 18 [some (.ref 74), some (.ref (38 + 6 * i)), some (.int tn), some (.int b), none, none, none, none] [.int (b1 c)] m Q
  refine ez_blk 1 rfl ?_
  show ez xs 121 19 [some (.ref 74), some (.ref (38 + 6 * i)), some (.int tn), some (.int b), none, none, none, none] [.ref (38 + 6 * i), .int (b1 c)] m Q
  refine ez_getNr rfl (z_iti hi) (z_its hi) (by decide) rfl (z_itf hi) ?_
  show ez xs 121 22 [some (.ref 74), some (.ref (38 + 6 * i)), some (.int tn), some (.int b), none, none, none, none] [.ref (40 + 6 * i), .int (b1 c)] m Q
  refine ez_blk 3 rfl ?_
  show ez xs 121 27 [some (.ref 74), some (.ref (38 + 6 * i)), some (.int tn), some (.int b), none, none, none, none] [.int b, .ref 3, .ref (40 + 6 * i), .int (b1 c)] m Q
  refine ez_calls (i := 40 + 6 * i) (as2 := [.ref 3, .int b]) (rest := [.int (b1 c)]) rfl (by decide) rfl rfl rfl (z_fbi hi) (z_fbs hi) rfl ?_
  refine h_likeIn (z_fbi hi) (z_fbs hi) hc hG ?_
  rw [like_forb hc hI h5 hnd]
  show ez xs 121 30 [some (.ref 74), some (.ref (38 + 6 * i)), some (.int tn), some (.int b), none, none, none, none] [.int (Ff m c nd b i), .int (b1 c)] m Q
  refine ez_blk 10 rfl ?_
  show ez xs 121 43 [some (.ref 74), some (.ref (38 + 6 * i)), some (.int tn), some (.int b), some (.int (b1 c ||| (Ff m c nd b i &&& (tn ^^^ -1)))), some (.int 1), some (.int (nI 0)), none] [] m Q
  generalize b1 c ||| (Ff m c nd b i &&& (tn ^^^ -1)) = st at g
  have END : ∀ (k : Nat) (gr : Int32) (o : Option Value), gq c (pE0 c nd) (pE1 c nd) tn st k = gq c (pE0 c nd) (pE1 c nd) tn st 25 → ez xs 121 97 [some (.ref 74), some (.ref (38 + 6 * i)), some (.int tn), some (.int b), some (.int (gq c (pE0 c nd) (pE1 c nd) tn st k)), some (.int gr), some (.int (nI k)), o] [] m Q := fun k gr o q => by
    rw [q]
    refine ez_blk 1 rfl ?_
    exact ez_ret (y := 121) rfl (by decide) rfl g
  have loop : ∀ (r k : Nat) (gr : Int32) (o : Option Value), k + r = 25 → (gr = 0 → gq c (pE0 c nd) (pE1 c nd) tn st (k + 1) = gq c (pE0 c nd) (pE1 c nd) tn st k) → ez xs 121 43 [some (.ref 74), some (.ref (38 + 6 * i)), some (.int tn), some (.int b), some (.int (gq c (pE0 c nd) (pE1 c nd) tn st k)), some (.int gr), some (.int (nI k)), o] [] m Q := by
    intro r
    induction r with
    | zero =>
      intro k gr o hk hg
      refine ez_blk 2 rfl ?_
      show ez xs 121 47 [some (.ref 74), some (.ref (38 + 6 * i)), some (.int tn), some (.int b), some (.int (gq c (pE0 c nd) (pE1 c nd) tn st k)), some (.int gr), some (.int (nI k)), o] [.int (nI 24), .int (nI k)] m Q
      refine ez_icmp_gt rfl (fun _ => ?_) (fun h => absurd (nI_lt (by omega) (by omega)) h)
      exact END k gr o (by rw [show k = 25 by omega])
    | succ r ih =>
      intro k gr o hk hg
      refine ez_blk 2 rfl ?_
      show ez xs 121 47 [some (.ref 74), some (.ref (38 + 6 * i)), some (.int tn), some (.int b), some (.int (gq c (pE0 c nd) (pE1 c nd) tn st k)), some (.int gr), some (.int (nI k)), o] [.int (nI 24), .int (nI k)] m Q
      refine ez_icmp_gt rfl (fun h => absurd h (nI_nlt (by omega) (by omega))) (fun _ => ?_)
      show ez xs 121 50 [some (.ref 74), some (.ref (38 + 6 * i)), some (.int tn), some (.int b), some (.int (gq c (pE0 c nd) (pE1 c nd) tn st k)), some (.int gr), some (.int (nI k)), o] [] m Q
      refine ez_blk 1 rfl ?_
      show ez xs 121 52 [some (.ref 74), some (.ref (38 + 6 * i)), some (.int tn), some (.int b), some (.int (gq c (pE0 c nd) (pE1 c nd) tn st k)), some (.int gr), some (.int (nI k)), o] [.int gr] m Q
      refine ez_if_eq rfl (fun h => ?_) (fun _ => ?_)
      · refine END k gr o ?_
        have := gq_st (hg h) (25 - k)
        rw [show k + (25 - k) = 25 by omega] at this
        exact this.symm
      show ez xs 121 55 [some (.ref 74), some (.ref (38 + 6 * i)), some (.int tn), some (.int b), some (.int (gq c (pE0 c nd) (pE1 c nd) tn st k)), some (.int gr), some (.int (nI k)), o] [] m Q
      refine ez_blk 4 rfl ?_
      show ez xs 121 63 [some (.ref 74), some (.ref (38 + 6 * i)), some (.int tn), some (.int b), some (.int (gq c (pE0 c nd) (pE1 c nd) tn st k)), some (.int gr), some (.int (nI k)), o] [.int (gq c (pE0 c nd) (pE1 c nd) tn st k), .ref 3, .int (gq c (pE0 c nd) (pE1 c nd) tn st k)] m Q
      refine ez_call (as := [.ref 3, .int (gq c (pE0 c nd) (pE1 c nd) tn st k)]) (rest := [.int (gq c (pE0 c nd) (pE1 c nd) tn st k)]) rfl (by decide) rfl ?_
      refine h_leadingInto hc hG ?_
      show ez xs 121 66 [some (.ref 74), some (.ref (38 + 6 * i)), some (.int tn), some (.int b), some (.int (gq c (pE0 c nd) (pE1 c nd) tn st k)), some (.int gr), some (.int (nI k)), o] [.int (ld c (pE0 c nd) (pE1 c nd) (gq c (pE0 c nd) (pE1 c nd) tn st k)), .int (gq c (pE0 c nd) (pE1 c nd) tn st k)] m Q
      refine ez_blk 8 rfl ?_
      show ez xs 121 77 [some (.ref 74), some (.ref (38 + 6 * i)), some (.int tn), some (.int b), some (.int (gq c (pE0 c nd) (pE1 c nd) tn st k)), some (.int gr), some (.int (nI k)), some (.int (gq c (pE0 c nd) (pE1 c nd) tn st (k + 1)))] [.int (gq c (pE0 c nd) (pE1 c nd) tn st k), .int (gq c (pE0 c nd) (pE1 c nd) tn st (k + 1))] m Q
      refine ez_icmp_eq rfl (fun h => ?_) (fun h => ?_)
      · refine ez_blk (pc' := 43) 6 rfl ?_
        show ez xs 121 43 [some (.ref 74), some (.ref (38 + 6 * i)), some (.int tn), some (.int b), some (.int (gq c (pE0 c nd) (pE1 c nd) tn st (k + 1))), some (.int 0), some (.int (nI k + 1)), some (.int (gq c (pE0 c nd) (pE1 c nd) tn st (k + 1)))] [] m Q
        rw [nI_1]
        exact ih (k + 1) 0 _ (by omega) (fun _ => (gq_st h 2).trans h.symm)
      · refine ez_blk (pc' := 43) 7 rfl ?_
        show ez xs 121 43 [some (.ref 74), some (.ref (38 + 6 * i)), some (.int tn), some (.int b), some (.int (gq c (pE0 c nd) (pE1 c nd) tn st (k + 1))), some (.int 1), some (.int (nI k + 1)), some (.int (gq c (pE0 c nd) (pE1 c nd) tn st (k + 1)))] [] m Q
        rw [nI_1]
        exact ih (k + 1) 1 _ (by omega) (fun z => absurd z (by decide))
  exact loop 25 0 1 none (by omega) (fun z => absurd z (by decide))
theorem itemOf_e {xs : jx_Xs} {m : zM} {Q : Option Value → zM → Prop} {K k : Nat} (hK : K ≤ 6) (h36 : m 36 1 = nI K) (hk : k < K) (g : Q (some (.ref (38 + 6 * k))) m) : ez xs 94 0 (jx_ent 94 [.ref 36, .int (nI k)]) [] m Q := by
  have e : ¬ f_Script_holds m (nI k) = 0 := by
    unfold f_Script_holds
    rw [if_neg (nI_pos (by omega)), h36, if_neg (nI_ge hk (by omega))]
    decide
  refine c_Script_itemOf (fun z => absurd z e) (fun _ => vp_in_nI (by omega) (by omega)) (fun z => absurd z e) (fun _ => ?_)
  rw [nI_clamp (by omega)]
  exact g
theorem Lf_same {S S' : zM} {c : Nat} {nd : Nat → Nat → Int32} {b : Int32} (h : ∀ a k, 149 ≤ a → a ≤ 163 → S' a k = S a k) : Lf S' c nd b = Lf S c nd b := by
  funext k
  unfold Lf
  rw [h 149 k (by omega) (by omega), h 150 k (by omega) (by omega), h 151 k (by omega) (by omega), h 152 k (by omega) (by omega)]
theorem Ff_same {S S' : zM} {c : Nat} {nd : Nat → Nat → Int32} {b : Int32} (h : ∀ a k, 149 ≤ a → a ≤ 163 → S' a k = S a k) : Ff S' c nd b = Ff S c nd b := by
  funext k
  unfold Ff
  rw [h 155 k (by omega) (by omega), h 156 k (by omega) (by omega), h 157 k (by omega) (by omega), h 158 k (by omega) (by omega)]
theorem gf_same {S S' : zM} (h : ∀ a k, 149 ≤ a → a ≤ 163 → S' a k = S a k) : gf S' = gf S := by
  funext k
  unfold gf
  rw [h 154 k (by omega) (by omega)]
/-- what item k takes under binding b -/
def tK (S : zM) (c : Nat) (nd : Nat → Nat → Int32) (K : Nat) (b : Int32) (k : Nat) : Int32 := tA c (pE0 c nd) (pE1 c nd) (Lf S c nd b) (Ff S c nd b) (gf S) K k
theorem h_findTaken {xs : jx_Xs} {m : zM} {Q : Option Value → zM → Prop} {b : Int32} {c K : Nat} {nd : Nat → Nat → Int32} (hK : K ≤ 6) (hc : c ≤ 24) (h36 : m 36 1 = nI K) (hI : ∀ i, i < K → rI m i) (hG : gC m c nd) (hnd : ∀ n, n < c → nFd (nd n)) (g : ∀ M, (∀ k, k < K → M 77 k = tK m c nd K b k) → (∀ a k, ¬ (a = 77 ∧ k < 6) → M a k = m a k) → Q none M) : ez xs 122 0 (jx_ent 122 [.ref 74, .int b]) [] m Q := by
  refine ez_blk 2 rfl ?_
  show ez xs 122 4 [some (.ref 74), some (.int b), none, none, none, none] [.ref 36] m Q
  refine ez_call (as := [.ref 36]) (rest := []) rfl (by decide) rfl ?_
  refine c_Script_size ?_
  rw [h36]
  show ez xs 122 7 [some (.ref 74), some (.int b), none, none, none, none] [.int (nI K)] m Q
  refine ez_blk 5 rfl ?_
  show ez xs 122 12 [some (.ref 74), some (.int b), some (.int (nI K - 1)), some (.int (nI K - 1)), none, none] [] m Q
  have loop : ∀ (r : Nat) (M : zM) (o4 o5 : Option Value), r ≤ K → (∀ a k, ¬ (a = 77 ∧ k < 6) → M a k = m a k) → (∀ k, r ≤ k → k < K → M 77 k = tK m c nd K b k) → ez xs 122 12 [some (.ref 74), some (.int b), some (.int (nI K - 1)), some (.int (nI r - 1)), o4, o5] [] M Q := by
    intro r
    induction r with
    | zero =>
      intro M o4 o5 hr hF hT
      refine ez_blk 1 rfl ?_
      show ez xs 122 13 [some (.ref 74), some (.int b), some (.int (nI K - 1)), some (.int (nI 0 - 1)), o4, o5] [.int (nI 0 - 1)] M Q
      refine ez_if_lt rfl (fun _ => ?_) (fun h => absurd (by decide) h)
      exact ez_ret rfl (by decide) rfl (g M (fun k hk => hT k (Nat.zero_le k) hk) hF)
    | succ r ih =>
      intro M o4 o5 hr hF hT
      rw [nI_p1]
      have M36 : M 36 1 = nI K := by rw [hF 36 1 (by omega), h36]
      have hMI : rI M r := rI_same (by omega) (fun a k q => hF a k (by have q : (36 ≤ a ∧ a ≤ 73) ∨ (149 ≤ a ∧ a ≤ 163) ∨ (a = 131 ∧ k = 21) := q; omega)) (hI r (by omega))
      have hMG : gC M c nd := gC_same hc (fun a k _ _ => hF a k (by omega)) hG
      have sm : ∀ a k, 149 ≤ a → a ≤ 163 → M a k = m a k := fun a k _ _ => hF a k (by omega)
      refine ez_blk 1 rfl ?_
      show ez xs 122 13 [some (.ref 74), some (.int b), some (.int (nI K - 1)), some (.int (nI r)), o4, o5] [.int (nI r)] M Q
      refine ez_if_lt rfl (fun h => absurd h (nI_pos (by omega))) (fun _ => ?_)
      show ez xs 122 16 [some (.ref 74), some (.int b), some (.int (nI K - 1)), some (.int (nI r)), o4, o5] [] M Q
      refine ez_blk 3 rfl ?_
      show ez xs 122 21 [some (.ref 74), some (.int b), some (.int (nI K - 1)), some (.int (nI r)), o4, o5] [.int (nI r), .ref 36] M Q
      refine ez_call (as := [.ref 36, .int (nI r)]) (rest := []) rfl (by decide) rfl ?_
      refine itemOf_e hK M36 (by omega) ?_
      show ez xs 122 24 [some (.ref 74), some (.int b), some (.int (nI K - 1)), some (.int (nI r)), o4, o5] [.ref (38 + 6 * r)] M Q
      refine ez_blk 2 rfl ?_
      show ez xs 122 28 [some (.ref 74), some (.int b), some (.int (nI K - 1)), some (.int (nI r)), some (.ref (38 + 6 * r)), o5] [.ref (38 + 6 * r)] M Q
      refine ez_getNr rfl (z_iti (by omega)) (z_its (by omega)) (by decide) rfl (z_itp (by omega)) ?_
      show ez xs 122 31 [some (.ref 74), some (.int b), some (.int (nI K - 1)), some (.int (nI r)), some (.ref (38 + 6 * r)), o5] [.ref (39 + 6 * r)] M Q
      refine ez_blk 3 rfl ?_
      show ez xs 122 36 [some (.ref 74), some (.int b), some (.int (nI K - 1)), some (.int (nI r)), some (.ref (38 + 6 * r)), o5] [.int b, .ref 3, .ref (39 + 6 * r)] M Q
      refine ez_calls (i := 39 + 6 * r) (as2 := [.ref 3, .int b]) (rest := []) rfl (by decide) rfl rfl rfl (z_pti (by omega)) (z_pts (by omega)) rfl ?_
      refine h_likeIn (z_pti (by omega)) (z_pts (by omega)) hc hMG ?_
      rw [like_item hMI hnd, Lf_same sm]
      show ez xs 122 39 [some (.ref 74), some (.int b), some (.int (nI K - 1)), some (.int (nI r)), some (.ref (38 + 6 * r)), o5] [.int (Lf m c nd b r)] M Q
      refine ez_blk 3 rfl ?_
      show ez xs 122 43 [some (.ref 74), some (.int b), some (.int (nI K - 1)), some (.int (nI r)), some (.ref (38 + 6 * r)), some (.int (Lf m c nd b r))] [.int (nI K - 1), .int (nI r)] M Q
      have NX : ez xs 122 75 [some (.ref 74), some (.int b), some (.int (nI K - 1)), some (.int (nI r)), some (.ref (38 + 6 * r)), some (.int (tK m c nd K b r))] [] M Q := by
        refine ez_blk 4 rfl ?_
        show ez xs 122 82 [some (.ref 74), some (.int b), some (.int (nI K - 1)), some (.int (nI r)), some (.ref (38 + 6 * r)), some (.int (tK m c nd K b r))] [.int (tK m c nd K b r), .int (nI r), .ref 77] M Q
        refine ez_iast (n := 6) rfl (by decide) rfl (by omega) (by omega) ?_
        refine ez_blk (pc' := 12) 2 rfl ?_
        show ez xs 122 12 [some (.ref 74), some (.int b), some (.int (nI K - 1)), some (.int (nI r + -1)), some (.ref (38 + 6 * r)), some (.int (tK m c nd K b r))] [] (jj_up M 77 r (tK m c nd K b r)) Q
        rw [← Int32.sub_eq_add_neg]
        refine ih _ _ _ (by omega) (fun a k q => ?_) (fun k k1 k2 => ?_)
        · rw [up_ne2 (by omega)]; exact hF a k q
        · by_cases e : k = r
          · rw [e, up_eq]
          · rw [up_k e]; exact hT k (by omega) k2
      have eK : nI K - 1 = nI (K - 1) := by
        rw [show K = (K - 1) + 1 by omega, nI_p1]
        rfl
      by_cases last : r + 1 = K
      · have e : tK m c nd K b r = Lf m c nd b r := by
          unfold tK
          rw [show r = K - 1 by omega]
          exact tA_last
        rw [e] at NX
        refine ez_icmp_ge rfl (fun _ => NX) (fun h => ?_)
        rw [eK] at h
        exact absurd (nI_le (by omega) (by omega)) h
      · refine ez_icmp_ge rfl (fun h => ?_) (fun _ => ?_)
        · rw [eK] at h
          exact absurd h (nI_ge (by omega) (by omega))
        show ez xs 122 46 [some (.ref 74), some (.int b), some (.int (nI K - 1)), some (.int (nI r)), some (.ref (38 + 6 * r)), some (.int (Lf m c nd b r))] [] M Q
        refine ez_blk 10 rfl ?_
        show ez xs 122 62 [some (.ref 74), some (.int b), some (.int (nI K - 1)), some (.int (nI r)), some (.ref (38 + 6 * r)), some (.int (Lf m c nd b r))] [.int (nI r + 1), .ref 77, .ref (38 + 6 * r), .ref 74, .ref 3, .int (Lf m c nd b r)] M Q
        rw [nI_1]
        refine ez_iald (n := 6) rfl (by decide) rfl (by omega) (by omega) ?_
        rw [hT (r + 1) (by omega) (by omega)]
        show ez xs 122 63 [some (.ref 74), some (.int b), some (.int (nI K - 1)), some (.int (nI r)), some (.ref (38 + 6 * r)), some (.int (Lf m c nd b r))] [.int (tK m c nd K b (r + 1)), .ref (38 + 6 * r), .ref 74, .ref 3, .int (Lf m c nd b r)] M Q
        refine ez_blk 1 rfl ?_
        show ez xs 122 64 [some (.ref 74), some (.int b), some (.int (nI K - 1)), some (.int (nI r)), some (.ref (38 + 6 * r)), some (.int (Lf m c nd b r))] [.int b, .int (tK m c nd K b (r + 1)), .ref (38 + 6 * r), .ref 74, .ref 3, .int (Lf m c nd b r)] M Q
        refine ez_call (as := [.ref 74, .ref (38 + 6 * r), .int (tK m c nd K b (r + 1)), .int b]) (rest := [.ref 3, .int (Lf m c nd b r)]) rfl (by decide) rfl ?_
        refine h_ruinous (by omega) hc hMI hMG hnd ?_
        rw [Ff_same sm, gf_same sm]
        show ez xs 122 67 [some (.ref 74), some (.int b), some (.int (nI K - 1)), some (.int (nI r)), some (.ref (38 + 6 * r)), some (.int (Lf m c nd b r))] [.int (rn c (pE0 c nd) (pE1 c nd) (Ff m c nd b r) (gf m r) (tK m c nd K b (r + 1))), .ref 3, .int (Lf m c nd b r)] M Q
        refine ez_call (as := [.ref 3, .int (rn c (pE0 c nd) (pE1 c nd) (Ff m c nd b r) (gf m r) (tK m c nd K b (r + 1)))]) (rest := [.int (Lf m c nd b r)]) rfl (by decide) rfl ?_
        refine h_leadingInto hc hMG ?_
        refine ez_blk (pc' := 75) 4 rfl ?_
        have e : tK m c nd K b r = Lf m c nd b r &&& (ld c (pE0 c nd) (pE1 c nd) (rn c (pE0 c nd) (pE1 c nd) (Ff m c nd b r) (gf m r) (tK m c nd K b (r + 1))) ^^^ -1) := by
          unfold tK
          exact tA_step (by omega)
        rw [e] at NX
        exact NX
  exact loop K m none none (Nat.le_refl K) (fun _ _ _ => rfl) (fun k q1 q2 => absurd q2 (by omega))
