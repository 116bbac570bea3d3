/-! What is hit, on both sides. -/
theorem be_step {xs : jx_Xs} {M : zM} {Q : Option Value → zM → Prop} {x v acc : Int32} {c i j : Nat} {o5 : Option Value} (hc : c ≤ 24) (hi : i < c) (hj : j < 2) (h5 : M 131 5 = nI c) (hv : M 145 (2 * i + j) = v)
    (g : ∀ o, ez xs 159 15 [some (.ref 131), some (.int x), some (.int (if bt x i = true then aD c acc v else acc)), some (.int (nI i)), some (.int (nI (j + 1))), o] [] M Q) : ez xs 159 15 [some (.ref 131), some (.int x), some (.int acc), some (.int (nI i)), some (.int (nI j)), o5] [] M Q := by
  have l2 : ¬ (2 : Int32) ≤ nI j := fun z => absurd ((nI_leI (a := 2) (by omega) (by omega)).mp z) (by omega)
  have d2 : (2 : Int32) * nI i + nI j = nI (2 * i + j) := by rw [show (2 : Int32) = nI 2 from rfl, pk_mul, nI_add]
  have cl : (nI (2 * i + j)).toNatClampNeg = 2 * i + j := nI_clamp (by omega)
  have vb : vp_in (nI (2 * i + j)) 48 := vp_in_nI (by omega) (by omega)
  have fh : f_M_has M x (nI i) = bI (bt x i) := f_has (by omega)
  rw [← nI_1] at g
  unfold aD at g
  apply c_M_behind_15
  all_goals try simp only [d2, cl, hv, h5, fh]
  · intro _; exact vb
  · intro z; exact absurd z l2
  · intro _ z
    rw [bI_0.mp z, if_neg (by decide)] at g
    exact g _
  · intro _ z z1
    rw [bI_t.mp z, if_pos rfl, if_pos z1] at g
    exact g _
  · intro _ z z1 z2
    rw [bI_t.mp z, if_pos rfl, if_neg z1, if_pos z2] at g
    exact g _
  · intro _ z z1 z2
    rw [bI_t.mp z, if_pos rfl, if_neg z1, if_neg z2] at g
    exact g _
theorem h_M_behind {xs : jx_Xs} {M : zM} {Q : Option Value → zM → Prop} {x : Int32} {c : Nat} {nd : Nat → Nat → Int32} (hc : c ≤ 24) (hG : gM M c nd) (g : Q (some (.int (bM c (pE0 c nd) (pE1 c nd) x c))) M) : ez xs 159 0 (jx_ent 159 [.ref 131, .int x]) [] M Q := by
  refine c_M_behind ?_
  have loop : ∀ (r i : Nat) (o4 o5 : Option Value), i + r = c → ez xs 159 4 [some (.ref 131), some (.int x), some (.int (bM c (pE0 c nd) (pE1 c nd) x i)), some (.int (nI i)), o4, o5] [] M Q := by
    intro r
    induction r with
    | zero =>
      intro i o4 o5 hi
      have hx : M 131 5 ≤ nI i := by rw [hG.1]; exact nI_le (by omega) (by omega)
      refine c_M_behind_4 (fun _ => ?_) (fun z => absurd hx z)
      rw [show i = c by omega]
      exact g
    | succ r ih =>
      intro i o4 o5 hi
      have hic : i < c := by omega
      have hx : ¬ M 131 5 ≤ nI i := by rw [hG.1]; exact nI_ge hic (by omega)
      refine c_M_behind_4 (fun z => absurd z hx) (fun _ => ?_)
      refine be_step (j := 0) hc hic (by omega) hG.1 ((hG.2 i hic).2.1) (fun o1 => ?_)
      refine be_step (j := 1) hc hic (by omega) hG.1 ((hG.2 i hic).2.2) (fun o2 => ?_)
      have l2 : ¬ ¬ (2 : Int32) ≤ nI 2 := by decide
      refine c_M_behind_15 (fun z => absurd z l2) (fun _ => ?_) (fun z => absurd z l2) (fun z => absurd z l2) (fun z => absurd z l2) (fun z => absurd z l2)
      have := ih (i + 1) (some (.int (nI 2))) o2 (by omega)
      rw [bM, ← nI_1] at this
      by_cases z : bt x i = true
      · rw [if_pos z] at this ⊢
        rw [if_pos z]
        exact this
      · rw [if_neg z] at this ⊢
        rw [if_neg z]
        exact this
  exact loop c 0 none none (by omega)
/-- what item k hits under binding b -/
def hK (S : zM) (c : Nat) (nd : Nat → Nat → Int32) (K : Nat) (b : Int32) (k : Nat) : Int32 := hH c (pE0 c nd) (pE1 c nd) (Lf S c nd b) (Ff S c nd b) (gf S) K k
theorem h_M_findHits {xs : jx_Xs} {m : zM} {Q : Option Value → zM → Prop} {b : Int32} {c K : Nat} {nd : Nat → Nat → Int32} (hK0 : 0 < K) (hK6 : K ≤ 6) (hc : c ≤ 24) (hit : m 131 21 = nI K) (hG : gM m c nd) (hE : gE c (pE0 c nd) (pE1 c nd)) (hT : ∀ k, k < K → m 164 k = tK m c nd K b k) (g : ∀ M, (∀ k, k < K → M 165 k = hK m c nd K b k) → (∀ a k, a ≠ 165 → M a k = m a k) → Q none M) : ez xs 160 0 (jx_ent 160 [.ref 131]) [] m Q := by
  have S : ∀ k, k < K → sM c (pE0 c nd) (pE1 c nd) (Lf m c nd b) (Ff m c nd b) (gf m) K k = hK m c nd K b k := fun k hk => sM_eq hc hE (Lf_lt hc) k hk
  refine ez_blk 6 rfl ?_
  show ez xs 160 10 [some (.ref 131), none, none, none] [.int (nI 0), .ref 164, .int (nI 0), .ref 165] m Q
  refine ez_iald (n := 6) rfl (by decide) rfl (by omega) (by omega) ?_
  show ez xs 160 11 [some (.ref 131), none, none, none] [.int (m 164 0), .int (nI 0), .ref 165] m Q
  refine ez_iast (n := 6) rfl (by decide) rfl (by omega) (by omega) ?_
  refine ez_blk (pc' := 14) 2 rfl ?_
  show ez xs 160 14 [some (.ref 131), some (.int (nI 0)), none, none] [] (jj_up m 165 0 (m 164 0)) Q
  have loop : ∀ (r k : Nat) (M : zM) (o2 o3 : Option Value), k + r + 1 = K → (∀ a j, a ≠ 165 → M a j = m a j) → (∀ j, j ≤ k → M 165 j = hK m c nd K b j) → ez xs 160 14 [some (.ref 131), some (.int (nI k)), o2, o3] [] M Q := by
    intro r
    induction r with
    | zero =>
      intro k M o2 o3 hk hF hH
      refine ez_blk 5 rfl ?_
      show ez xs 160 21 [some (.ref 131), some (.int (nI k)), o2, o3] [.int (M 131 21), .int (nI k + 1)] M Q
      rw [hF 131 21 (by omega), hit, nI_1]
      refine ez_icmp_ge rfl (fun _ => ?_) (fun z => absurd (nI_le (by omega) (by omega)) z)
      exact ez_ret rfl (by decide) rfl (g M (fun j hj => hH j (by omega)) hF)
    | succ r ih =>
      intro k M o2 o3 hk hF hH
      have hMG : gM M c nd := gM_same (hF 131 5 (by omega)) (fun a j _ _ => hF a j (by omega)) hG
      have tn : M 164 (k + 1) = tK m c nd K b (k + 1) := by rw [hF 164 (k + 1) (by omega)]; exact hT (k + 1) (by omega)
      refine ez_blk 5 rfl ?_
      show ez xs 160 21 [some (.ref 131), some (.int (nI k)), o2, o3] [.int (M 131 21), .int (nI k + 1)] M Q
      rw [hF 131 21 (by omega), hit, nI_1]
      refine ez_icmp_ge rfl (fun z => absurd z (nI_ge (by omega) (by omega))) (fun _ => ?_)
      show ez xs 160 24 [some (.ref 131), some (.int (nI k)), o2, o3] [] M Q
      refine ez_blk 4 rfl ?_
      show ez xs 160 30 [some (.ref 131), some (.int (nI k)), o2, o3] [.int (nI k), .ref 165, .ref 131] M Q
      refine ez_iald (n := 6) rfl (by decide) rfl (by omega) (by omega) ?_
      rw [hH k (Nat.le_refl k)]
      show ez xs 160 31 [some (.ref 131), some (.int (nI k)), o2, o3] [.int (hK m c nd K b k), .ref 131] M Q
      refine ez_call (as := [.ref 131, .int (hK m c nd K b k)]) (rest := []) rfl (by decide) rfl ?_
      refine h_M_behind hc hMG ?_
      refine ez_blk (pc' := 37) 3 rfl ?_
      show ez xs 160 37 [some (.ref 131), some (.int (nI k)), some (.int (bM c (pE0 c nd) (pE1 c nd) (hK m c nd K b k) c)), some (.int (nI 0))] [] M Q
      have eS : (if gf m k = true then mq c (pE0 c nd) (pE1 c nd) (tK m c nd K b (k + 1)) (bM c (pE0 c nd) (pE1 c nd) (hK m c nd K b k) c) 25 else bM c (pE0 c nd) (pE1 c nd) (hK m c nd K b k) c) &&& tK m c nd K b (k + 1) = hK m c nd K b (k + 1) := by
        rw [← S (k + 1) (by omega), sM, S k (by omega)]
        rfl
      generalize bM c (pE0 c nd) (pE1 c nd) (hK m c nd K b k) c = st at eS
      have END : ∀ (w : Int32) (o : Option Value), w = (if gf m k = true then mq c (pE0 c nd) (pE1 c nd) (tK m c nd K b (k + 1)) st 25 else st) → ez xs 160 77 [some (.ref 131), some (.int (nI k)), some (.int w), o] [] M Q := fun w o hw => by
        refine ez_blk 11 rfl ?_
        show ez xs 160 92 [some (.ref 131), some (.int (nI k)), some (.int w), o] [.int (nI k + 1), .ref 164, .int w, .int (nI k + 1), .ref 165] M Q
        rw [nI_1]
        refine ez_iald (n := 6) rfl (by decide) rfl (by omega) (by omega) ?_
        rw [tn]
        refine ez_blk 1 rfl ?_
        show ez xs 160 94 [some (.ref 131), some (.int (nI k)), some (.int w), o] [.int (w &&& tK m c nd K b (k + 1)), .int (nI (k + 1)), .ref 165] M Q
        refine ez_iast (n := 6) rfl (by decide) rfl (by omega) (by omega) ?_
        refine ez_blk (pc' := 14) 2 rfl ?_
        show ez xs 160 14 [some (.ref 131), some (.int (nI k + 1)), some (.int w), o] [] (jj_up M 165 (k + 1) (w &&& tK m c nd K b (k + 1))) Q
        rw [nI_1]
        refine ih (k + 1) _ _ _ (by omega) (fun a j z => by rw [up_ne z]; exact hF a j z) (fun j hj => ?_)
        by_cases e : j = k + 1
        · rw [e, up_eq, hw, eS]
        · rw [up_k e]; exact hH j (by omega)
      have g4 : M 154 k = m 154 k := hF 154 k (by omega)
      have RND : ∀ (q j : Nat), j + q = 25 → gf m k = true → ez xs 160 37 [some (.ref 131), some (.int (nI k)), some (.int (mq c (pE0 c nd) (pE1 c nd) (tK m c nd K b (k + 1)) st j)), some (.int (nI j))] [] M Q := by
        intro q
        induction q with
        | zero =>
          intro j hj hg
          refine ez_blk 2 rfl ?_
          show ez xs 160 40 [some (.ref 131), some (.int (nI k)), some (.int (mq c (pE0 c nd) (pE1 c nd) (tK m c nd K b (k + 1)) st j)), some (.int (nI j))] [.int (nI 25), .int (nI j)] M Q
          refine ez_icmp_ge rfl (fun _ => ?_) (fun z => absurd (nI_le (by omega) (by omega)) z)
          exact END _ _ (by rw [hg, if_pos rfl, show j = 25 by omega])
        | succ q ihq =>
          intro j hj hg
          refine ez_blk 2 rfl ?_
          show ez xs 160 40 [some (.ref 131), some (.int (nI k)), some (.int (mq c (pE0 c nd) (pE1 c nd) (tK m c nd K b (k + 1)) st j)), some (.int (nI j))] [.int (nI 25), .int (nI j)] M Q
          refine ez_icmp_ge rfl (fun z => absurd z (nI_ge (by omega) (by omega))) (fun _ => ?_)
          show ez xs 160 43 [some (.ref 131), some (.int (nI k)), some (.int (mq c (pE0 c nd) (pE1 c nd) (tK m c nd K b (k + 1)) st j)), some (.int (nI j))] [] M Q
          refine ez_blk 3 rfl ?_
          show ez xs 160 48 [some (.ref 131), some (.int (nI k)), some (.int (mq c (pE0 c nd) (pE1 c nd) (tK m c nd K b (k + 1)) st j)), some (.int (nI j))] [.int (nI k), .ref 154] M Q
          refine ez_zald (n := 6) rfl (by decide) rfl (by omega) (by omega) ?_
          show ez xs 160 49 [some (.ref 131), some (.int (nI k)), some (.int (mq c (pE0 c nd) (pE1 c nd) (tK m c nd K b (k + 1)) st j)), some (.int (nI j))] [.int (M 154 k)] M Q
          refine ez_if_eq rfl (fun z => ?_) (fun _ => ?_)
          · unfold gf at hg
            rw [← g4, z] at hg
            exact absurd hg (by decide)
          show ez xs 160 52 [some (.ref 131), some (.int (nI k)), some (.int (mq c (pE0 c nd) (pE1 c nd) (tK m c nd K b (k + 1)) st j)), some (.int (nI j))] [] M Q
          refine ez_blk 8 rfl ?_
          show ez xs 160 62 [some (.ref 131), some (.int (nI k)), some (.int (mq c (pE0 c nd) (pE1 c nd) (tK m c nd K b (k + 1)) st j)), some (.int (nI j))] [.int (nI k + 1), .ref 164, .int (mq c (pE0 c nd) (pE1 c nd) (tK m c nd K b (k + 1)) st j), .ref 131, .int (mq c (pE0 c nd) (pE1 c nd) (tK m c nd K b (k + 1)) st j)] M Q
          rw [nI_1]
          refine ez_iald (n := 6) rfl (by decide) rfl (by omega) (by omega) ?_
          rw [tn]
          refine ez_blk 3 rfl ?_
          show ez xs 160 66 [some (.ref 131), some (.int (nI k)), some (.int (mq c (pE0 c nd) (pE1 c nd) (tK m c nd K b (k + 1)) st j)), some (.int (nI j))] [.int (mq c (pE0 c nd) (pE1 c nd) (tK m c nd K b (k + 1)) st j &&& (tK m c nd K b (k + 1) ^^^ -1)), .ref 131, .int (mq c (pE0 c nd) (pE1 c nd) (tK m c nd K b (k + 1)) st j)] M Q
          refine ez_call (as := [.ref 131, .int (mq c (pE0 c nd) (pE1 c nd) (tK m c nd K b (k + 1)) st j &&& (tK m c nd K b (k + 1) ^^^ -1))]) (rest := [.int (mq c (pE0 c nd) (pE1 c nd) (tK m c nd K b (k + 1)) st j)]) rfl (by decide) rfl ?_
          refine h_M_behind hc hMG ?_
          refine ez_blk (pc' := 37) 4 rfl ?_
          show ez xs 160 37 [some (.ref 131), some (.int (nI k)), some (.int (mq c (pE0 c nd) (pE1 c nd) (tK m c nd K b (k + 1)) st (j + 1))), some (.int (nI j + 1))] [] M Q
          rw [nI_1]
          exact ihq (j + 1) (by omega) hg
      cases hg : gf m k
      · refine ez_blk 2 rfl ?_
        show ez xs 160 40 [some (.ref 131), some (.int (nI k)), some (.int st), some (.int (nI 0))] [.int (nI 25), .int (nI 0)] M Q
        refine ez_icmp_ge rfl (fun z => absurd z (by decide)) (fun _ => ?_)
        show ez xs 160 43 [some (.ref 131), some (.int (nI k)), some (.int st), some (.int (nI 0))] [] M Q
        refine ez_blk 3 rfl ?_
        show ez xs 160 48 [some (.ref 131), some (.int (nI k)), some (.int st), some (.int (nI 0))] [.int (nI k), .ref 154] M Q
        refine ez_zald (n := 6) rfl (by decide) rfl (by omega) (by omega) ?_
        show ez xs 160 49 [some (.ref 131), some (.int (nI k)), some (.int st), some (.int (nI 0))] [.int (M 154 k)] M Q
        refine ez_if_eq rfl (fun _ => ?_) (fun z => ?_)
        · exact END st _ (by rw [hg, if_neg (by decide)])
        · unfold gf at hg
          rw [← g4] at hg
          exact absurd z (of_decide_eq_false hg)
      · exact RND 25 0 (by omega) hg
  refine loop (K - 1) 0 _ none none (by omega) (fun a j z => up_ne z) (fun j hj => ?_)
  rw [show j = 0 by omega, up_eq, hT 0 hK0]
  rfl
theorem fq_st {c : Nat} {e0 e1 : Nat → Int32} {tn st : Int32} {r : Nat} (h : fq c e0 e1 tn st (r + 1) = fq c e0 e1 tn st r) : ∀ j, fq c e0 e1 tn st (r + j) = fq c e0 e1 tn st r := by
  intro j
  induction j with
  | zero => rfl
  | succ j ih =>
    show fq c e0 e1 tn st ((r + j) + 1) = _
    rw [fq, ih]
    exact h
theorem h_firstTaken {xs : jx_Xs} {m : zM} {Q : Option Value → zM → Prop} {x tn : Int32} {c : Nat} {nd : Nat → Nat → Int32} (hc : c ≤ 24) (hG : gC m c nd) (g : Q (some (.int (fq c (pE0 c nd) (pE1 c nd) tn (sU (pE0 c nd) (pE1 c nd) x c) 25 &&& tn))) m) : ez xs 137 0 (jx_ent 137 [.ref 74, .int x, .int tn]) [] m Q := by
  refine ez_blk 3 rfl ?_
  show ez xs 137 5 [some (.ref 74), some (.int x), some (.int tn), none, none, none, none] [.int x, .ref 3] m Q
  refine ez_call (as := [.ref 3, .int x]) (rest := []) rfl (by decide) rfl ?_
  refine h_successorsOf hc hG ?_
  generalize sU (pE0 c nd) (pE1 c nd) x c = st at g
  refine ez_blk (pc' := 15) 5 rfl ?_
  show ez xs 137 15 [some (.ref 74), some (.int x), some (.int tn), some (.int st), some (.int 1), some (.int (nI 0)), none] [] m Q
  have END : ∀ (k : Nat) (gr : Int32) (o : Option Value), fq c (pE0 c nd) (pE1 c nd) tn st k = fq c (pE0 c nd) (pE1 c nd) tn st 25 → ez xs 137 65 [some (.ref 74), some (.int x), some (.int tn), some (.int (fq c (pE0 c nd) (pE1 c nd) tn st k)), some (.int gr), some (.int (nI k)), o] [] m Q := fun k gr o q => by
    rw [q]
    refine ez_blk 3 rfl ?_
    exact ez_ret (y := 137) rfl (by decide) rfl g
  have loop : ∀ (r k : Nat) (gr : Int32) (o : Option Value), k + r = 25 → (gr = 0 → fq c (pE0 c nd) (pE1 c nd) tn st (k + 1) = fq c (pE0 c nd) (pE1 c nd) tn st k) → ez xs 137 15 [some (.ref 74), some (.int x), some (.int tn), some (.int (fq c (pE0 c nd) (pE1 c nd) tn st k)), some (.int gr), some (.int (nI k)), o] [] m Q := by
    intro r
    induction r with
    | zero =>
      intro k gr o hk hg
      refine ez_blk 2 rfl ?_
      show ez xs 137 19 [some (.ref 74), some (.int x), some (.int tn), some (.int (fq c (pE0 c nd) (pE1 c nd) tn st k)), some (.int gr), some (.int (nI k)), o] [.int (nI 24), .int (nI k)] m Q
      refine ez_icmp_gt rfl (fun _ => ?_) (fun h => absurd (nI_lt (by omega) (by omega)) h)
      exact END k gr o (by rw [show k = 25 by omega])
    | succ r ih =>
      intro k gr o hk hg
      refine ez_blk 2 rfl ?_
      show ez xs 137 19 [some (.ref 74), some (.int x), some (.int tn), some (.int (fq c (pE0 c nd) (pE1 c nd) tn st k)), some (.int gr), some (.int (nI k)), o] [.int (nI 24), .int (nI k)] m Q
      refine ez_icmp_gt rfl (fun h => absurd h (nI_nlt (by omega) (by omega))) (fun _ => ?_)
      show ez xs 137 22 [some (.ref 74), some (.int x), some (.int tn), some (.int (fq c (pE0 c nd) (pE1 c nd) tn st k)), some (.int gr), some (.int (nI k)), o] [] m Q
      refine ez_blk 1 rfl ?_
      show ez xs 137 24 [some (.ref 74), some (.int x), some (.int tn), some (.int (fq c (pE0 c nd) (pE1 c nd) tn st k)), some (.int gr), some (.int (nI k)), o] [.int gr] m Q
      refine ez_if_eq rfl (fun h => ?_) (fun _ => ?_)
      · refine END k gr o ?_
        have := fq_st (hg h) (25 - k)
        rw [show k + (25 - k) = 25 by omega] at this
        exact this.symm
      show ez xs 137 27 [some (.ref 74), some (.int x), some (.int tn), some (.int (fq c (pE0 c nd) (pE1 c nd) tn st k)), some (.int gr), some (.int (nI k)), o] [] m Q
      refine ez_blk 8 rfl ?_
      show ez xs 137 37 [some (.ref 74), some (.int x), some (.int tn), some (.int (fq c (pE0 c nd) (pE1 c nd) tn st k)), some (.int gr), some (.int (nI k)), o] [.int (fq c (pE0 c nd) (pE1 c nd) tn st k &&& (tn ^^^ -1)), .ref 3, .int (fq c (pE0 c nd) (pE1 c nd) tn st k)] m Q
      refine ez_call (as := [.ref 3, .int (fq c (pE0 c nd) (pE1 c nd) tn st k &&& (tn ^^^ -1))]) (rest := [.int (fq c (pE0 c nd) (pE1 c nd) tn st k)]) rfl (by decide) rfl ?_
      refine h_successorsOf hc hG ?_
      refine ez_blk (pc' := 46) 4 rfl ?_
      show ez xs 137 46 [some (.ref 74), some (.int x), some (.int tn), some (.int (fq c (pE0 c nd) (pE1 c nd) tn st k)), some (.int gr), some (.int (nI k)), some (.int (fq c (pE0 c nd) (pE1 c nd) tn st (k + 1)))] [.int (fq c (pE0 c nd) (pE1 c nd) tn st k), .int (fq c (pE0 c nd) (pE1 c nd) tn st (k + 1))] m Q
      refine ez_icmp_eq rfl (fun h => ?_) (fun h => ?_)
      · refine ez_blk (pc' := 15) 6 rfl ?_
        show ez xs 137 15 [some (.ref 74), some (.int x), some (.int tn), some (.int (fq c (pE0 c nd) (pE1 c nd) tn st (k + 1))), some (.int 0), some (.int (nI k + 1)), some (.int (fq c (pE0 c nd) (pE1 c nd) tn st (k + 1)))] [] m Q
        rw [nI_1]
        exact ih (k + 1) 0 _ (by omega) (fun _ => (fq_st h 2).trans h.symm)
      · refine ez_blk (pc' := 15) 7 rfl ?_
        show ez xs 137 15 [some (.ref 74), some (.int x), some (.int tn), some (.int (fq c (pE0 c nd) (pE1 c nd) tn st (k + 1))), some (.int 1), some (.int (nI k + 1)), some (.int (fq c (pE0 c nd) (pE1 c nd) tn st (k + 1)))] [] m Q
        rw [nI_1]
        exact ih (k + 1) 1 _ (by omega) (fun z => absurd z (by decide))
  exact loop 25 0 1 none (by omega) (fun z => absurd z (by decide))
