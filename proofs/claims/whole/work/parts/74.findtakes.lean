/-! The reference's takes, whole. -/
theorem fo_step {xs : jx_Xs} {M : zM} {Q : Option Value → zM → Prop} {v X : Int32} {c n k j : Nat} {h : Bool} {o5 : Option Value} (hc : c ≤ 24) (hn : n < c) (hk : k < 5) (hj : j < 2) (h5 : M 131 5 = nI c) (hv : M 145 (2 * n + j) = v) (hv2 : v = -1 ∨ ∃ a : Nat, a ≤ c ∧ v = nI a) (hX : bt X c = true) (hX2 : ∀ s, s < c → bt X s = if M 154 k = 0 then !bt (M 164 (k + 1)) s else bt (M 131 40) s)
    (g : ∀ o, ez xs 150 5 [some (.ref 131), some (.int (nI n)), some (.int (nI k)), some (.int (bI (h && !hw X v))), some (.int (nI (j + 1))), o] [] M Q) : ez xs 150 5 [some (.ref 131), some (.int (nI n)), some (.int (nI k)), some (.int (bI h)), some (.int (nI j)), o5] [] M Q := by
  have l2 : ¬ (2 : Int32) ≤ nI j := fun z => absurd ((nI_leI (a := 2) (by omega) (by omega)).mp z) (by omega)
  have d2 : (2 : Int32) * nI n + nI j = nI (2 * n + j) := by rw [show (2 : Int32) = nI 2 from rfl, pk_mul, nI_add]
  have cl : (nI (2 * n + j)).toNatClampNeg = 2 * n + j := nI_clamp (by omega)
  have vb : vp_in (nI (2 * n + j)) 48 := vp_in_nI (by omega) (by omega)
  have ck : (nI k).toNatClampNeg = k := nI_clamp (by omega)
  have ck1 : (nI k + 1).toNatClampNeg = k + 1 := by rw [nI_1, nI_clamp (by omega)]
  have vk : vp_in (nI k) 6 := vp_in_nI (by omega) (by omega)
  have vk1 : vp_in (nI k + 1) 6 := by rw [nI_1]; exact vp_in_nI (by omega) (by omega)
  rw [← nI_1] at g
  have V : ¬ v = nI c → ¬ v < 0 → ∃ a : Nat, a < c ∧ v = nI a := fun z1 z2 => by
    rcases hv2 with q | ⟨a, a1, a2⟩
    · rw [q] at z2; exact absurd (by decide) z2
    · have ne : a ≠ c := fun e => z1 (by rw [a2, e])
      exact ⟨a, by omega, a2⟩
  apply c_M_follows_5
  all_goals try simp only [d2, cl, hv, h5, ck, ck1]
  · intro z; exact absurd z l2
  · intro _; exact vb
  · intro _ _ _ _; exact vk
  · intro _ _ _ _ _; exact vk1
  · intro z; exact absurd z l2
  · intro _ z1 z2
    have w : hw X v = false := by
      rcases hv2 with q | ⟨a, a1, a2⟩
      · rw [q]; unfold hw; rw [decide_eq_false (fun z => z rfl)]; rfl
      · rw [a2] at z2; exact absurd z2 (nI_pos (by omega))
    rw [w, show (!false) = true from rfl, Bool.and_true] at g
    exact g _
  · intro _ z1 z2 z3
    rw [bI_0.mp z3] at g
    exact g _
  · intro _ z1 z2 z3 z4 z5
    obtain ⟨a, a1, a2⟩ := V z1 z2
    rw [a2, f_has (by omega), bI_0] at z5
    rw [a2, hw_i hc (by omega), hX2 a a1, if_pos z4, z5, show (!!false) = false from rfl, Bool.and_false] at g
    exact g _
  · intro _ z1 z2 z3 z4 z5
    obtain ⟨a, a1, a2⟩ := V z1 z2
    rw [a2, f_has (by omega), bI_t] at z5
    rw [bI_t.mp z3, a2, hw_i hc (by omega), hX2 a a1, if_pos z4, z5] at g
    exact g _
  · intro _ z1 z2 z3 z4 z5
    obtain ⟨a, a1, a2⟩ := V z1 z2
    rw [a2, f_has (by omega), bI_t] at z5
    rw [a2, hw_i hc (by omega), hX2 a a1, if_neg z4, z5, show (!true) = false from rfl, Bool.and_false] at g
    exact g _
  · intro _ z1 z2 z3 z4 z5
    obtain ⟨a, a1, a2⟩ := V z1 z2
    rw [a2, f_has (by omega), bI_0] at z5
    rw [bI_t.mp z3, a2, hw_i hc (by omega), hX2 a a1, if_neg z4, z5] at g
    exact g _
  · intro _ z1
    have w : hw X v = true := by rw [z1, hw_i hc (Nat.le_refl c)]; exact hX
    rw [w, show (!true) = false from rfl, Bool.and_false] at g
    exact g _
theorem h_M_follows {xs : jx_Xs} {M : zM} {Q : Option Value → zM → Prop} {X : Int32} {c n k : Nat} {nd : Nat → Nat → Int32} (hc : c ≤ 24) (hn : n < c) (hk : k < 5) (hG : gM M c nd) (hE : gE c (pE0 c nd) (pE1 c nd)) (hX : bt X c = true) (hX2 : ∀ s, s < c → bt X s = if M 154 k = 0 then !bt (M 164 (k + 1)) s else bt (M 131 40) s) (g : Q (some (.int (bI (decide (ss (pE0 c nd) (pE1 c nd) n &&& X = 0))))) M) : ez xs 150 0 (jx_ent 150 [.ref 131, .int (nI n), .int (nI k)]) [] M Q := by
  refine c_M_follows ?_
  have E := hE n hn
  refine fo_step (h := true) (j := 0) (v := pE0 c nd n) hc hn hk (by omega) hG.1 ((hG.2 n hn).2.1) (Or.inr E.1) hX hX2 (fun o1 => ?_)
  refine fo_step (j := 1) (v := pE1 c nd n) hc hn hk (by omega) hG.1 ((hG.2 n hn).2.2) E.2 hX hX2 (fun o2 => ?_)
  have e : ((true && !hw X (pE0 c nd n)) && !hw X (pE1 c nd n)) = decide (ss (pE0 c nd) (pE1 c nd) n &&& X = 0) := by
    have t := ss_two (X := X) hc hE hn
    by_cases z : ss (pE0 c nd) (pE1 c nd) n &&& X = 0
    · rw [decide_eq_true z]
      rw [decide_eq_false (fun w => w z)] at t
      cases h0 : hw X (pE0 c nd n) <;> cases h1 : hw X (pE1 c nd n) <;> rw [h0, h1] at t <;> first | rfl | cases t
    · rw [decide_eq_false z]
      rw [decide_eq_true z] at t
      cases h0 : hw X (pE0 c nd n) <;> cases h1 : hw X (pE1 c nd n) <;> rw [h0, h1] at t <;> first | rfl | cases t
  rw [e]
  have l2 : ¬ ¬ (2 : Int32) ≤ nI 2 := by decide
  refine c_M_follows_5 (fun _ => ?_) (fun z => absurd z l2) (fun z => absurd z l2) (fun z => absurd z l2) (fun _ => g) (fun z => absurd z l2) (fun z => absurd z l2) (fun z => absurd z l2) (fun z => absurd z l2) (fun z => absurd z l2) (fun z => absurd z l2) (fun z => absurd z l2)
  unfold bI
  split
  · exact Or.inr rfl
  · exact Or.inl rfl
theorem Lf_lt {S : zM} {c : Nat} {nd : Nat → Nat → Int32} {b : Int32} (hc : c ≤ 24) : ∀ k n, bt (Lf S c nd b k) n = true → n < c := by
  intro k n h
  unfold Lf at h
  rw [bt_mk (by omega), Bool.and_eq_true, decide_eq_true_iff] at h
  exact h.1
theorem tK_lt {S : zM} {c K k n : Nat} {nd : Nat → Nat → Int32} {b : Int32} (hc : c ≤ 24) (hk : k < K) (h : bt (tK S c nd K b k) n = true) : n < c := tA_lt (Lf_lt hc) hk h
/-- the inner loop: one item's set -/
theorem ft_set {xs : jx_Xs} {M : zM} {Q : Option Value → zM → Prop} {b X lv : Int32} {c k : Nat} {la : Bool} {nd : Nat → Nat → Int32} (hc : c ≤ 24) (hk : k < 6) (hl : la = false → k < 5) (hlv : lv = bI la) (hG : gM M c nd) (hE : gE c (pE0 c nd) (pE1 c nd)) (hX : la = false → bt X c = true) (hX2 : la = false → ∀ s, s < c → bt X s = if M 154 k = 0 then !bt (M 164 (k + 1)) s else bt (M 131 40) s)
    (g : ∀ o5 o6, ez xs 151 141 [some (.ref 131), some (.int b), some (.int (nI k)), some (.int lv), some (.int (mk (fun n => lkB nd (M 149 k) (M 150 k) (M 151 k) (M 152 k) b n && (la || decide (ss (pE0 c nd) (pE1 c nd) n &&& X = 0))) c)), o5, o6] [] M Q) (o4 o5 o6 : Option Value) : ez xs 151 46 [some (.ref 131), some (.int b), some (.int (nI k)), some (.int lv), o4, o5, o6] [] M Q := by
  subst hlv
  refine ez_blk 4 rfl ?_
  generalize hp : (fun n => lkB nd (M 149 k) (M 150 k) (M 151 k) (M 152 k) b n && (la || decide (ss (pE0 c nd) (pE1 c nd) n &&& X = 0))) = p at g
  have loop : ∀ (r i : Nat) (o6 : Option Value), i + r = c → ez xs 151 52 [some (.ref 131), some (.int b), some (.int (nI k)), some (.int (bI la)), some (.int (mk p i)), some (.int (nI i)), o6] [] M Q := by
    intro r
    induction r with
    | zero =>
      intro i o6 hi
      refine ez_blk 3 rfl ?_
      show ez xs 151 58 [some (.ref 131), some (.int b), some (.int (nI k)), some (.int (bI la)), some (.int (mk p i)), some (.int (nI i)), o6] [.int (M 131 5), .int (nI i)] M Q
      rw [hG.1]
      refine ez_icmp_ge rfl (fun _ => ?_) (fun z => absurd (nI_le (by omega) (by omega)) z)
      have := g (some (.int (nI i))) o6
      rw [show c = i by omega] at this
      exact this
    | succ r ih =>
      intro i o6 hi
      have hic : i < c := by omega
      have NO : p i = false → ez xs 151 113 [some (.ref 131), some (.int b), some (.int (nI k)), some (.int (bI la)), some (.int (mk p i)), some (.int (nI i)), o6] [] M Q := fun q => by
        refine ez_blk 3 rfl ?_
        show ez xs 151 118 [some (.ref 131), some (.int b), some (.int (nI k)), some (.int (bI la)), some (.int (mk p i)), some (.int (nI i)), some (.int 0)] [.int 0] M Q
        refine ez_if_eq rfl (fun _ => ?_) (fun z => absurd rfl z)
        refine ez_blk (pc' := 52) 4 rfl ?_
        show ez xs 151 52 [some (.ref 131), some (.int b), some (.int (nI k)), some (.int (bI la)), some (.int (mk p i)), some (.int (nI i + 1)), some (.int 0)] [] M Q
        have := ih (i + 1) (some (.int 0)) (by omega)
        rw [mk, q, if_neg (by decide), ← nI_1] at this
        exact this
      have YES : p i = true → ez xs 151 109 [some (.ref 131), some (.int b), some (.int (nI k)), some (.int (bI la)), some (.int (mk p i)), some (.int (nI i)), o6] [] M Q := fun q => by
        refine ez_blk 4 rfl ?_
        show ez xs 151 118 [some (.ref 131), some (.int b), some (.int (nI k)), some (.int (bI la)), some (.int (mk p i)), some (.int (nI i)), some (.int 1)] [.int 1] M Q
        refine ez_if_eq rfl (fun z => absurd z (by decide)) (fun _ => ?_)
        refine ez_blk (pc' := 52) 9 rfl ?_
        show ez xs 151 52 [some (.ref 131), some (.int b), some (.int (nI k)), some (.int (bI la)), some (.int (mk p i ||| ((1 : Int32) <<< (nI i &&& 31)))), some (.int (nI i + 1)), some (.int 1)] [] M Q
        have := ih (i + 1) (some (.int 1)) (by omega)
        rw [mk, q, if_pos rfl, ← nI_1] at this
        exact this
      refine ez_blk 3 rfl ?_
      show ez xs 151 58 [some (.ref 131), some (.int b), some (.int (nI k)), some (.int (bI la)), some (.int (mk p i)), some (.int (nI i)), o6] [.int (M 131 5), .int (nI i)] M Q
      rw [hG.1]
      refine ez_icmp_ge rfl (fun z => absurd z (nI_ge hic (by omega))) (fun _ => ?_)
      show ez xs 151 61 [some (.ref 131), some (.int b), some (.int (nI k)), some (.int (bI la)), some (.int (mk p i)), some (.int (nI i)), o6] [] M Q
      refine ez_blk 5 rfl ?_
      show ez xs 151 69 [some (.ref 131), some (.int b), some (.int (nI k)), some (.int (bI la)), some (.int (mk p i)), some (.int (nI i)), o6] [.int (nI k), .ref 149, .int (nI i), .ref 131] M Q
      refine ez_iald (n := 6) rfl (by decide) rfl (by omega) (by omega) ?_
      show ez xs 151 70 [some (.ref 131), some (.int b), some (.int (nI k)), some (.int (bI la)), some (.int (mk p i)), some (.int (nI i)), o6] [.int (M 149 k), .int (nI i), .ref 131] M Q
      refine ez_blk 3 rfl ?_
      show ez xs 151 75 [some (.ref 131), some (.int b), some (.int (nI k)), some (.int (bI la)), some (.int (mk p i)), some (.int (nI i)), o6] [.int (nI k), .ref 150, .int (M 149 k), .int (nI i), .ref 131] M Q
      refine ez_iald (n := 6) rfl (by decide) rfl (by omega) (by omega) ?_
      show ez xs 151 76 [some (.ref 131), some (.int b), some (.int (nI k)), some (.int (bI la)), some (.int (mk p i)), some (.int (nI i)), o6] [.int (M 150 k), .int (M 149 k), .int (nI i), .ref 131] M Q
      refine ez_blk 3 rfl ?_
      show ez xs 151 81 [some (.ref 131), some (.int b), some (.int (nI k)), some (.int (bI la)), some (.int (mk p i)), some (.int (nI i)), o6] [.int (nI k), .ref 151, .int (M 150 k), .int (M 149 k), .int (nI i), .ref 131] M Q
      refine ez_iald (n := 6) rfl (by decide) rfl (by omega) (by omega) ?_
      show ez xs 151 82 [some (.ref 131), some (.int b), some (.int (nI k)), some (.int (bI la)), some (.int (mk p i)), some (.int (nI i)), o6] [.int (M 151 k), .int (M 150 k), .int (M 149 k), .int (nI i), .ref 131] M Q
      refine ez_blk 3 rfl ?_
      show ez xs 151 87 [some (.ref 131), some (.int b), some (.int (nI k)), some (.int (bI la)), some (.int (mk p i)), some (.int (nI i)), o6] [.int (nI k), .ref 152, .int (M 151 k), .int (M 150 k), .int (M 149 k), .int (nI i), .ref 131] M Q
      refine ez_iald (n := 6) rfl (by decide) rfl (by omega) (by omega) ?_
      show ez xs 151 88 [some (.ref 131), some (.int b), some (.int (nI k)), some (.int (bI la)), some (.int (mk p i)), some (.int (nI i)), o6] [.int (M 152 k), .int (M 151 k), .int (M 150 k), .int (M 149 k), .int (nI i), .ref 131] M Q
      refine ez_blk 1 rfl ?_
      show ez xs 151 89 [some (.ref 131), some (.int b), some (.int (nI k)), some (.int (bI la)), some (.int (mk p i)), some (.int (nI i)), o6] [.int b, .int (M 152 k), .int (M 151 k), .int (M 150 k), .int (M 149 k), .int (nI i), .ref 131] M Q
      refine ez_call (as := [.ref 131, .int (nI i), .int (M 149 k), .int (M 150 k), .int (M 151 k), .int (M 152 k), .int b]) (rest := []) rfl (by decide) rfl ?_
      have vi : vp_in (nI i) 24 := vp_in_nI (by omega) (by omega)
      refine d_M_like vi (fun _ => vi) (fun _ _ _ _ => vi) (fun _ _ _ => vi) (fun _ _ _ _ _ => vi) ?_
      rw [f_like hc (fun n hn => (hG.2 n hn).1) hic]
      show ez xs 151 92 [some (.ref 131), some (.int b), some (.int (nI k)), some (.int (bI la)), some (.int (mk p i)), some (.int (nI i)), o6] [.int (bI (lkB nd (M 149 k) (M 150 k) (M 151 k) (M 152 k) b i))] M Q
      have pi : p i = (lkB nd (M 149 k) (M 150 k) (M 151 k) (M 152 k) b i && (la || decide (ss (pE0 c nd) (pE1 c nd) i &&& X = 0))) := by rw [← hp]
      refine ez_if_eq rfl (fun z => NO (by rw [pi, bI_0.mp z]; rfl)) (fun z => ?_)
      show ez xs 151 95 [some (.ref 131), some (.int b), some (.int (nI k)), some (.int (bI la)), some (.int (mk p i)), some (.int (nI i)), o6] [] M Q
      refine ez_blk 1 rfl ?_
      show ez xs 151 96 [some (.ref 131), some (.int b), some (.int (nI k)), some (.int (bI la)), some (.int (mk p i)), some (.int (nI i)), o6] [.int (bI la)] M Q
      refine ez_if_ne rfl (fun z2 => YES (by rw [pi, bI_t.mp z, bI_t.mp z2]; rfl)) (fun z2 => ?_)
      have z2 := bI_0.mp z2
      show ez xs 151 99 [some (.ref 131), some (.int b), some (.int (nI k)), some (.int (bI la)), some (.int (mk p i)), some (.int (nI i)), o6] [] M Q
      refine ez_blk 3 rfl ?_
      show ez xs 151 103 [some (.ref 131), some (.int b), some (.int (nI k)), some (.int (bI la)), some (.int (mk p i)), some (.int (nI i)), o6] [.int (nI k), .int (nI i), .ref 131] M Q
      refine ez_call (as := [.ref 131, .int (nI i), .int (nI k)]) (rest := []) rfl (by decide) rfl ?_
      refine h_M_follows hc hic (hl z2) hG hE (hX z2) (hX2 z2) ?_
      show ez xs 151 106 [some (.ref 131), some (.int b), some (.int (nI k)), some (.int (bI la)), some (.int (mk p i)), some (.int (nI i)), o6] [.int (bI (decide (ss (pE0 c nd) (pE1 c nd) i &&& X = 0)))] M Q
      refine ez_if_eq rfl (fun z3 => NO (by rw [pi, bI_0.mp z3, z2]; exact Bool.and_false _)) (fun z3 => YES (by rw [pi, bI_t.mp z, bI_t.mp z3, z2]; rfl))
  exact loop c 0 o6 (by omega)
theorem h_M_findTakes {xs : jx_Xs} {m : zM} {Q : Option Value → zM → Prop} {b : Int32} {c K : Nat} {nd : Nat → Nat → Int32} (hK : K ≤ 6) (hc : c ≤ 24) (hit : m 131 21 = nI K) (hG : gM m c nd) (hE : gE c (pE0 c nd) (pE1 c nd)) (g : ∀ M, (∀ k, k < K → M 164 k = tK m c nd K b k) → (∀ a k, ¬ (a = 131 ∧ k = 40) → ¬ (a = 164) → M a k = m a k) → Q none M) : ez xs 151 0 (jx_ent 151 [.ref 131, .int b]) [] m Q := by
  refine ez_blk 2 rfl ?_
  show ez xs 151 4 [some (.ref 131), some (.int b), none, none, none, none, none] [.int (m 131 21)] m Q
  rw [hit]
  refine ez_blk 3 rfl ?_
  show ez xs 151 7 [some (.ref 131), some (.int b), some (.int (nI K - 1)), none, none, none, none] [] m Q
  have loop : ∀ (r : Nat) (M : zM) (o3 o4 o5 o6 : Option Value), r ≤ K → (∀ a k, ¬ (a = 131 ∧ k = 40) → ¬ (a = 164) → M a k = m a k) → (∀ k, r ≤ k → k < K → M 164 k = tK m c nd K b k) → ez xs 151 7 [some (.ref 131), some (.int b), some (.int (nI r - 1)), o3, o4, o5, o6] [] M Q := by
    intro r
    induction r with
    | zero =>
      intro M o3 o4 o5 o6 hr hF hT
      refine ez_blk 1 rfl ?_
      show ez xs 151 8 [some (.ref 131), some (.int b), some (.int (nI 0 - 1)), o3, o4, o5, o6] [.int (nI 0 - 1)] M Q
      refine ez_if_lt rfl (fun _ => ?_) (fun z => absurd (by decide) z)
      exact ez_ret rfl (by decide) rfl (g M (fun k hk => hT k (Nat.zero_le k) hk) hF)
    | succ r ih =>
      intro M o3 o4 o5 o6 hr hF hT
      rw [nI_p1]
      have hr6 : r < 6 := by omega
      have eK : nI K - 1 = nI (K - 1) := by
        rw [show K = (K - 1) + 1 by omega, nI_p1]
        rfl
      have END : ∀ (N : zM) (lv : Int32) (o5 o6 : Option Value), (∀ a k, ¬ (a = 131 ∧ k = 40) → N a k = M a k) → ez xs 151 141 [some (.ref 131), some (.int b), some (.int (nI r)), some (.int lv), some (.int (tK m c nd K b r)), o5, o6] [] N Q := fun N lv o5 o6 hN => by
        refine ez_blk 4 rfl ?_
        show ez xs 151 148 [some (.ref 131), some (.int b), some (.int (nI r)), some (.int lv), some (.int (tK m c nd K b r)), o5, o6] [.int (tK m c nd K b r), .int (nI r), .ref 164] N Q
        refine ez_iast (n := 6) rfl (by decide) rfl (by omega) (by omega) ?_
        refine ez_blk (pc' := 7) 2 rfl ?_
        show ez xs 151 7 [some (.ref 131), some (.int b), some (.int (nI r + -1)), some (.int lv), some (.int (tK m c nd K b r)), o5, o6] [] (jj_up N 164 r (tK m c nd K b r)) Q
        rw [← Int32.sub_eq_add_neg]
        refine ih _ _ _ _ _ (by omega) (fun a k q1 q2 => ?_) (fun k k1 k2 => ?_)
        · rw [up_ne q2, hN a k q1]; exact hF a k q1 q2
        · by_cases e : k = r
          · rw [e, up_eq]
          · rw [up_k e, hN 164 k (by omega)]; exact hT k (by omega) k2
      have hMG : gM M c nd := gM_same (hF 131 5 (by omega) (by omega)) (fun a j _ _ => hF a j (by omega) (by omega)) hG
      have s9 : ∀ a, 149 ≤ a → a ≤ 163 → M a r = m a r := fun a _ _ => hF a r (by omega) (by omega)
      refine ez_blk 1 rfl ?_
      show ez xs 151 8 [some (.ref 131), some (.int b), some (.int (nI r)), o3, o4, o5, o6] [.int (nI r)] M Q
      refine ez_if_lt rfl (fun z => absurd z (nI_pos (by omega))) (fun _ => ?_)
      show ez xs 151 11 [some (.ref 131), some (.int b), some (.int (nI r)), o3, o4, o5, o6] [] M Q
      refine ez_blk 3 rfl ?_
      show ez xs 151 16 [some (.ref 131), some (.int b), some (.int (nI r)), o3, o4, o5, o6] [.int (M 131 21), .int (nI r)] M Q
      rw [hF 131 21 (by omega) (by omega), hit]
      refine ez_blk 2 rfl ?_
      show ez xs 151 18 [some (.ref 131), some (.int b), some (.int (nI r)), o3, o4, o5, o6] [.int (nI K - 1), .int (nI r)] M Q
      rw [eK]
      by_cases last : r + 1 = K
      · refine ez_icmp_ne rfl (fun z => absurd (by rw [show K - 1 = r by omega]) z) (fun _ => ?_)
        show ez xs 151 21 [some (.ref 131), some (.int b), some (.int (nI r)), o3, o4, o5, o6] [] M Q
        refine ez_blk 4 rfl ?_
        show ez xs 151 28 [some (.ref 131), some (.int b), some (.int (nI r)), some (.int 1), o4, o5, o6] [.int 1] M Q
        refine ez_if_ne rfl (fun _ => ?_) (fun z => absurd z (by decide))
        refine ft_set (X := 0) (la := true) hc hr6 (fun z => by cases z) rfl hMG hE (fun z => by cases z) (fun z => by cases z) (fun p5 p6 => ?_) o4 o5 o6
        have e : mk (fun n => lkB nd (M 149 r) (M 150 r) (M 151 r) (M 152 r) b n && (true || decide (ss (pE0 c nd) (pE1 c nd) n &&& 0 = 0))) c = tK m c nd K b r := by
          unfold tK
          rw [show r = K - 1 by omega, tA_last, show K - 1 = r by omega]
          unfold Lf
          rw [s9 149 (by omega) (by omega), s9 150 (by omega) (by omega), s9 151 (by omega) (by omega), s9 152 (by omega) (by omega)]
          exact mk_ext (fun n hn => Bool.and_true _)
        rw [e]
        exact END M 1 p5 p6 (fun _ _ _ => rfl)
      · refine ez_icmp_ne rfl (fun _ => ?_) (fun z => absurd ((nI_eq (by omega) (by omega)).mp z) (by omega))
        show ez xs 151 25 [some (.ref 131), some (.int b), some (.int (nI r)), o3, o4, o5, o6] [] M Q
        refine ez_blk 3 rfl ?_
        show ez xs 151 28 [some (.ref 131), some (.int b), some (.int (nI r)), some (.int 0), o4, o5, o6] [.int 0] M Q
        refine ez_if_ne rfl (fun z => absurd rfl z) (fun _ => ?_)
        show ez xs 151 31 [some (.ref 131), some (.int b), some (.int (nI r)), some (.int 0), o4, o5, o6] [] M Q
        refine ez_blk 3 rfl ?_
        show ez xs 151 36 [some (.ref 131), some (.int b), some (.int (nI r)), some (.int 0), o4, o5, o6] [.int (nI r), .ref 154] M Q
        refine ez_zald (n := 6) rfl (by decide) rfl (by omega) (by omega) ?_
        show ez xs 151 37 [some (.ref 131), some (.int b), some (.int (nI r)), some (.int 0), o4, o5, o6] [.int (M 154 r)] M Q
        have tn := hT (r + 1) (by omega) (by omega)
        generalize hX : rn c (pE0 c nd) (pE1 c nd) (Ff m c nd b r) (gf m r) (tK m c nd K b (r + 1)) = X
        have SET : ∀ N : zM, (∀ a k, ¬ (a = 131 ∧ k = 40) → N a k = M a k) → (bt X c = true) → (∀ s, s < c → bt X s = if N 154 r = 0 then !bt (N 164 (r + 1)) s else bt (N 131 40) s) → ez xs 151 46 [some (.ref 131), some (.int b), some (.int (nI r)), some (.int 0), o4, o5, o6] [] N Q := fun N hN q1 q2 => by
          have hNG : gM N c nd := gM_same (hN 131 5 (by omega)) (fun a j _ _ => hN a j (by omega)) hMG
          refine ft_set (X := X) (la := false) hc hr6 (fun _ => by omega) rfl hNG hE (fun _ => q1) (fun _ => q2) (fun p5 p6 => ?_) o4 o5 o6
          have e : mk (fun n => lkB nd (N 149 r) (N 150 r) (N 151 r) (N 152 r) b n && (false || decide (ss (pE0 c nd) (pE1 c nd) n &&& X = 0))) c = tK m c nd K b r := by
            refine bt_ext (fun n hn => ?_)
            rw [bt_mk (by omega)]
            by_cases l : n < c
            · rw [decide_eq_true l, Bool.true_and, Bool.false_or]
              have w := tA_bt (L := Lf m c nd b) (F := Ff m c nd b) (gp := gf m) (k := r) (K := K) hc hE (by omega) l
              unfold tK
              rw [w]
              have w2 : bt (Lf m c nd b r) n = lkB nd (N 149 r) (N 150 r) (N 151 r) (N 152 r) b n := by
                unfold Lf
                rw [bt_mk (by omega), decide_eq_true l, hN 149 r (by omega), hN 150 r (by omega), hN 151 r (by omega), hN 152 r (by omega), s9 149 (by omega) (by omega), s9 150 (by omega) (by omega), s9 151 (by omega) (by omega), s9 152 (by omega) (by omega)]
                rfl
              rw [w2, ← hX]
              rfl
            · rw [decide_eq_false l]
              cases w : bt (tK m c nd K b r) n
              · rfl
              · exact absurd (tK_lt hc (by omega) w) l
          rw [e]
          exact END N 0 p5 p6 hN
        refine ez_if_eq rfl (fun z => ?_) (fun z => ?_)
        · refine SET M (fun _ _ _ => rfl) ?_ (fun s hs => ?_)
          · rw [← hX]
            unfold rn gf
            rw [← s9 154 (by omega) (by omega), z, if_neg (by decide), bt_not (by omega)]
            cases w : bt (tK m c nd K b (r + 1)) c
            · rfl
            · exact absurd (tK_lt hc (by omega) w) (Nat.lt_irrefl c)
          · rw [← hX]
            unfold rn gf
            rw [← s9 154 (by omega) (by omega), z, if_neg (by decide), bt_not (by omega), if_pos rfl, tn]
        · show ez xs 151 40 [some (.ref 131), some (.int b), some (.int (nI r)), some (.int 0), o4, o5, o6] [] M Q
          refine ez_blk 3 rfl ?_
          show ez xs 151 43 [some (.ref 131), some (.int b), some (.int (nI r)), some (.int 0), o4, o5, o6] [.int b, .int (nI r), .ref 131] M Q
          refine ez_call (as := [.ref 131, .int (nI r), .int b]) (rest := []) rfl (by decide) rfl ?_
          refine h_M_findBad hc (by omega) hMG hE tn (fun N hN1 hN2 => ?_)
          have eF : Ff M c nd b r = Ff m c nd b r := by
            unfold Ff
            rw [s9 155 (by omega) (by omega), s9 156 (by omega) (by omega), s9 157 (by omega) (by omega), s9 158 (by omega) (by omega)]
          rw [eF] at hN1
          have gt : gf m r = true := by unfold gf; rw [← s9 154 (by omega) (by omega)]; exact decide_eq_true z
          show ez xs 151 46 [some (.ref 131), some (.int b), some (.int (nI r)), some (.int 0), o4, o5, o6] [] N Q
          refine SET N hN2 ?_ (fun s hs => ?_)
          · rw [← hX]
            unfold rn
            rw [gt, if_pos rfl]
            have U : ∀ j, bt (gq c (pE0 c nd) (pE1 c nd) (tK m c nd K b (r + 1)) (b1 c ||| (Ff m c nd b r &&& (tK m c nd K b (r + 1) ^^^ -1))) j) c = true := by
              intro j
              induction j with
              | zero => rw [gq, bt_or, bt_1 (by omega), decide_eq_true rfl]; rfl
              | succ j ihj => exact gq_up ihj
            exact U 25
          · rw [← hX]
            unfold rn
            rw [gt, if_pos rfl, hN2 154 r (by omega), if_neg z, hN1]
            exact (rq_eq hc hE hs).symm
  exact loop K m none none none none (Nat.le_refl K) (fun _ _ _ _ => rfl) (fun k q1 q2 => absurd q2 (by omega))
