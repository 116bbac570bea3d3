/-! The reference writes the same text. -/
def ap (l : List Int32) (v : Int32) : List Int32 := if v ≤ 0 then l else l ++ [v]
theorem ap_p {l : List Int32} {q : Nat} (h0 : 0 < q) (h : q ≤ 126) : ap l (nI q) = l ++ [nI q] := by
  unfold ap
  rw [if_neg (nI_nle h0 (by omega))]
theorem ap_0 {l : List Int32} : ap l 0 = l := by
  unfold ap
  rw [if_pos (by decide)]
theorem letters {m : zM} {j b : Nat} {r : Nat} {l : List Int32} (hj : j < 12) (hb : b < 64) (hP : rP m r (m 160 j) (m 161 j) (m 162 j) (m 163 j)) (h3 : ¬ m 160 j = 3) :
    ap (ap (ap (ap (ap l (f_M_letter m (nI j) (nI b) (nI 0))) (f_M_letter m (nI j) (nI b) (nI 1))) (f_M_letter m (nI j) (nI b) (nI 2))) (f_M_letter m (nI j) (nI b) (nI 3))) (f_M_letter m (nI j) (nI b) (nI 4)) = l ++ stm (m 160 j) (m 161 j) (m 162 j) (m 163 j) (nI b) := by
  obtain ⟨p, q, hp, hq, o1, x1, -, -, f1, -, y1, -⟩ := hP
  obtain ⟨a, a4, av⟩ := vl_in hq hb
  have cl : (nI j).toNatClampNeg = j := nI_clamp (by omega)
  have v : ∀ z, f_M_value m z (nI b) = vl z (nI b) := fun _ => rfl
  have ca : (97 : Int32) + vl (nI q) (nI b) = nI (97 + a) := by rw [av]; exact nI_add 97 a
  have ep0 : nI p = 0 ↔ p = 0 := nI_eq (b := 0) (by omega) (by omega)
  have ep1 : nI p = 1 ↔ p = 1 := nI_eq (b := 1) (by omega) (by omega)
  unfold f_M_letter stm
  rw [cl, v, v, x1, ca, o1]
  have s0 : nI 0 = 0 := rfl
  have s1 : nI 1 = 1 := rfl
  have s2 : nI 2 = 2 := rfl
  have s3 : nI 3 = 3 := rfl
  have s4 : nI 4 = 4 := rfl
  have t1 : ¬ nI 1 = 0 := by decide
  have t2 : ¬ nI 2 = 0 := by decide
  have t3 : ¬ nI 3 = 0 := by decide
  have t4 : ¬ nI 4 = 0 := by decide
  have u2 : ¬ nI 2 = 1 := by decide
  have u3 : ¬ nI 3 = 1 := by decide
  have u4 : ¬ nI 4 = 1 := by decide
  have w3 : ¬ nI 3 = 2 := by decide
  have w4 : ¬ nI 4 = 2 := by decide
  have z4 : ¬ nI 4 = 3 := by decide
  by_cases p0 : p = 0
  · obtain ⟨⟨g0, g1, g2⟩, -⟩ := f1 p0
    have cf : (102 : Int32) + m 161 j = nI (102 + g0) := by rw [g2]; exact nI_add 102 g0
    rw [cf]
    simp only [if_pos (ep0.mpr p0)]
    rw [if_pos s0, if_neg t1, if_pos s1, if_neg t2, if_neg u2, if_pos s2, if_neg t3, if_neg u3, if_neg w3, if_pos s3, if_neg t4, if_neg u4, if_neg w4, if_neg z4, if_pos s4]
    rw [ap_p (by omega) (by omega), show (40 : Int32) = nI 40 from rfl, ap_p (by omega) (by omega), ap_p (by omega) (by omega), show (41 : Int32) = nI 41 from rfl, ap_p (by omega) (by omega), show (59 : Int32) = nI 59 from rfl, ap_p (by omega) (by omega)]
    simp only [List.append_assoc]
    rfl
  · have n0 : ¬ nI p = 0 := fun e => p0 (ep0.mp e)
    simp only [if_neg n0]
    by_cases p1 : p = 1
    · obtain ⟨⟨g0, g1, g2⟩, -⟩ := y1 p1
      obtain ⟨a2, a24, av2⟩ := vl_in g1 hb
      have ca2 : (97 : Int32) + vl (m 163 j) (nI b) = nI (97 + a2) := by rw [g2, av2]; exact nI_add 97 a2
      rw [ca2]
      simp only [if_pos (ep1.mpr p1)]
      rw [if_pos s0, if_neg t1, if_pos s1, if_neg t2, if_neg u2, if_pos s2, if_neg t3, if_neg u3, if_neg w3, if_pos s3, if_neg t4, if_neg u4, if_neg w4, if_neg z4]
      rw [ap_p (by omega) (by omega), show (61 : Int32) = nI 61 from rfl, ap_p (by omega) (by omega), ap_p (by omega) (by omega), show (59 : Int32) = nI 59 from rfl, ap_p (by omega) (by omega), ap_0]
      simp only [List.append_assoc]
      rfl
    · have n1 : ¬ nI p = 1 := fun e => p1 (ep1.mp e)
      simp only [if_neg n1]
      rw [if_pos s0, if_neg t1, if_pos s1, if_neg t2, if_neg u2, if_pos s2, if_neg t3, if_neg u3, if_neg w3, if_neg t4, if_neg u4, if_neg w4]
      rw [show (33 : Int32) = nI 33 from rfl, ap_p (by omega) (by omega), ap_p (by omega) (by omega), show (59 : Int32) = nI 59 from rfl, ap_p (by omega) (by omega), ap_0, ap_0]
      simp only [List.append_assoc]
      rfl
def pgO (m : zM) (pg : Nat) (w : List Int32) : Prop := ∀ i, i < 10 → m pg i = w.getD i 0
theorem ap_len {l : List Int32} {v : Int32} : (ap l v).length ≤ l.length + 1 := by
  unfold ap
  split
  · omega
  · rw [List.length_append]; exact Nat.le_refl _
theorem wl_step {xs : jx_Xs} {M : zM} {Q : Option Value → zM → Prop} {pg j i : Nat} {kk b : Int32} {l : List Int32} {o7 : Option Value} (hp : pg < 172) (hs : z_H pg = (1, 0, 10)) (hj : j < 12) (hi : i < 5) (hl : l.length < 10) (h : li M pg l)
    (g : ∀ N o, li N pg (ap l (f_M_letter M (nI j) b (nI i))) → (∀ a k, a ≠ pg → N a k = M a k) → ez xs 174 26 [some (.ref 131), some (.ref pg), some (.int kk), some (.int b), some (.int (nI (ap l (f_M_letter M (nI j) b (nI i))).length)), some (.int (nI j)), some (.int (nI (i + 1))), o] [] N Q) : ez xs 174 26 [some (.ref 131), some (.ref pg), some (.int kk), some (.int b), some (.int (nI l.length)), some (.int (nI j)), some (.int (nI i)), o7] [] M Q := by
  refine ez_blk 2 rfl ?_
  show ez xs 174 29 [some (.ref 131), some (.ref pg), some (.int kk), some (.int b), some (.int (nI l.length)), some (.int (nI j)), some (.int (nI i)), o7] [.int (nI 5), .int (nI i)] M Q
  refine ez_icmp_ge rfl (fun z => absurd z (nI_ge (by omega) (by omega))) (fun _ => ?_)
  show ez xs 174 32 [some (.ref 131), some (.ref pg), some (.int kk), some (.int b), some (.int (nI l.length)), some (.int (nI j)), some (.int (nI i)), o7] [] M Q
  refine ez_blk 4 rfl ?_
  show ez xs 174 38 [some (.ref 131), some (.ref pg), some (.int kk), some (.int b), some (.int (nI l.length)), some (.int (nI j)), some (.int (nI i)), o7] [.int (nI i), .int b, .int (nI j), .ref 131] M Q
  refine ez_call (as := [.ref 131, .int (nI j), .int b, .int (nI i)]) (rest := []) rfl (by decide) rfl ?_
  have vj : vp_in (nI j) 12 := vp_in_nI hj (by omega)
  refine d_M_letter vj vj (fun _ => vj) (fun _ _ _ _ _ => vj) (fun _ _ => vj) ?_
  generalize f_M_letter M (nI j) b (nI i) = v at g
  show ez xs 174 41 [some (.ref 131), some (.ref pg), some (.int kk), some (.int b), some (.int (nI l.length)), some (.int (nI j)), some (.int (nI i)), o7] [.int v] M Q
  refine ez_blk 2 rfl ?_
  show ez xs 174 45 [some (.ref 131), some (.ref pg), some (.int kk), some (.int b), some (.int (nI l.length)), some (.int (nI j)), some (.int (nI i)), some (.int v)] [.int v] M Q
  unfold ap at g
  rw [← nI_1] at g
  refine ez_if_le rfl (fun z => ?_) (fun z => ?_)
  · rw [if_pos z] at g
    refine ez_blk (pc' := 26) 2 rfl ?_
    exact g M _ h (fun _ _ _ => rfl)
  · rw [if_neg z] at g
    show ez xs 174 48 [some (.ref 131), some (.ref pg), some (.int kk), some (.int b), some (.int (nI l.length)), some (.int (nI j)), some (.int (nI i)), some (.int v)] [] M Q
    refine ez_blk 3 rfl ?_
    show ez xs 174 53 [some (.ref 131), some (.ref pg), some (.int kk), some (.int b), some (.int (nI l.length)), some (.int (nI j)), some (.int (nI i)), some (.int v)] [.int v, .int (nI l.length), .ref pg] M Q
    refine ez_iast (n := 10) rfl hp hs hl (by omega) ?_
    refine ez_blk (pc' := 26) 3 rfl ?_
    show ez xs 174 26 [some (.ref 131), some (.ref pg), some (.int kk), some (.int b), some (.int (nI l.length + 1)), some (.int (nI j)), some (.int (nI i + 1)), some (.int v)] [] (jj_up M pg l.length v) Q
    have g := g (jj_up M pg l.length v) (some (.int v)) (li_snoc h up_eq (fun t ht => up_k (by omega))) (fun a k z => up_ne z)
    rw [List.length_append, show [v].length = 1 from rfl, ← nI_1] at g
    exact g
theorem stm_8 {m M : zM} {pg j : Nat} {b i : Int32} (hpg : 169 ≤ pg) (h : ∀ a k, a ≠ pg → M a k = m a k) : f_M_letter M (nI j) b i = f_M_letter m (nI j) b i := by
  have v : ∀ z, f_M_value M z b = f_M_value m z b := fun _ => rfl
  unfold f_M_letter
  rw [h 160 _ (by omega), h 161 _ (by omega), h 162 _ (by omega), h 163 _ (by omega), v, v]
theorem h_M_write {xs : jx_Xs} {m : zM} {Q : Option Value → zM → Prop} {pg k b : Nat} (hpg : pg = 169 ∨ pg = 170) (hk : k < 6) (hb : b < 64) (hI : rI m k) (g : ∀ M, pgO M pg (wW m (nI b) k) → (∀ a j, a ≠ pg → M a j = m a j) → Q (some (.int (nI (wW m (nI b) k).length))) M) : ez xs 174 0 (jx_ent 174 [.ref 131, .ref pg, .int (nI k), .int (nI b)]) [] m Q := by
  have hp : pg < 172 := by omega
  have hp9 : 169 ≤ pg := by omega
  have hs : z_H pg = (1, 0, 10) := by rcases hpg with rfl | rfl <;> rfl
  obtain ⟨-, -, -, -, ⟨n, n1, n2, n3, n4, n5⟩, -⟩ := id hI
  have eWn : wW m (nI b) k = wT m (nI b) k n := by unfold wW; rw [n3, nI_clamp (by omega)]
  rw [eWn] at g
  have d2 : (2 : Int32) * nI k = nI (2 * k) := by rw [show (2 : Int32) = nI 2 from rfl, pk_mul]
  refine ez_blk 6 rfl ?_
  show ez xs 174 8 [some (.ref 131), some (.ref pg), some (.int (nI k)), some (.int (nI b)), some (.int (nI 0)), some (.int (2 * nI k)), none, none] [] m Q
  rw [d2]
  have FILL : ∀ (r t : Nat) (M : zM) (o6 o7 : Option Value), t + r = 10 → (wT m (nI b) k n).length ≤ t → (∀ a j, a ≠ pg → M a j = m a j) → (∀ i, i < t → M pg i = (wT m (nI b) k n).getD i 0) → ez xs 174 73 [some (.ref 131), some (.ref pg), some (.int (nI k)), some (.int (nI b)), some (.int (nI (wT m (nI b) k n).length)), some (.int (nI t)), o6, o7] [] M Q := by
    intro r
    induction r with
    | zero =>
      intro t M o6 o7 ht hl hF hM
      refine ez_blk 2 rfl ?_
      show ez xs 174 77 [some (.ref 131), some (.ref pg), some (.int (nI k)), some (.int (nI b)), some (.int (nI (wT m (nI b) k n).length)), some (.int (nI t)), o6, o7] [.int (nI 10), .int (nI t)] M Q
      refine ez_icmp_ge rfl (fun _ => ?_) (fun z => absurd (nI_le (by omega) (by omega)) z)
      show ez xs 174 91 [some (.ref 131), some (.ref pg), some (.int (nI k)), some (.int (nI b)), some (.int (nI (wT m (nI b) k n).length)), some (.int (nI t)), o6, o7] [] M Q
      refine ez_blk 1 rfl ?_
      exact ez_ret (y := 174) rfl (by decide) rfl (g M (fun i hi => hM i (by omega)) hF)
    | succ r ih =>
      intro t M o6 o7 ht hl hF hM
      refine ez_blk 2 rfl ?_
      show ez xs 174 77 [some (.ref 131), some (.ref pg), some (.int (nI k)), some (.int (nI b)), some (.int (nI (wT m (nI b) k n).length)), some (.int (nI t)), o6, o7] [.int (nI 10), .int (nI t)] M Q
      refine ez_icmp_ge rfl (fun z => absurd z (nI_ge (by omega) (by omega))) (fun _ => ?_)
      show ez xs 174 80 [some (.ref 131), some (.ref pg), some (.int (nI k)), some (.int (nI b)), some (.int (nI (wT m (nI b) k n).length)), some (.int (nI t)), o6, o7] [] M Q
      refine ez_blk 3 rfl ?_
      show ez xs 174 84 [some (.ref 131), some (.ref pg), some (.int (nI k)), some (.int (nI b)), some (.int (nI (wT m (nI b) k n).length)), some (.int (nI t)), o6, o7] [.int 0, .int (nI t), .ref pg] M Q
      refine ez_iast (n := 10) rfl hp hs (by omega) (by omega) ?_
      refine ez_blk (pc' := 73) 2 rfl ?_
      show ez xs 174 73 [some (.ref 131), some (.ref pg), some (.int (nI k)), some (.int (nI b)), some (.int (nI (wT m (nI b) k n).length)), some (.int (nI t + 1)), o6, o7] [] (jj_up M pg t 0) Q
      rw [nI_1]
      refine ih (t + 1) _ _ _ (by omega) (by omega) (fun a j z => by rw [up_ne z]; exact hF a j z) (fun i hi => ?_)
      by_cases e : i = t
      · rw [e, up_eq, List.getD_eq_getElem?_getD, List.getElem?_eq_none (by omega)]
        rfl
      · rw [up_k e]; exact hM i (by omega)
  have loop : ∀ (r j : Nat) (M : zM) (o6 o7 : Option Value), j + r = n → (∀ a i, a ≠ pg → M a i = m a i) → li M pg (wT m (nI b) k j) → ez xs 174 8 [some (.ref 131), some (.ref pg), some (.int (nI k)), some (.int (nI b)), some (.int (nI (wT m (nI b) k j).length)), some (.int (nI (2 * k + j))), o6, o7] [] M Q := by
    intro r
    induction r with
    | zero =>
      intro j M o6 o7 hj hF hM
      refine ez_blk 7 rfl ?_
      show ez xs 174 18 [some (.ref 131), some (.ref pg), some (.int (nI k)), some (.int (nI b)), some (.int (nI (wT m (nI b) k j).length)), some (.int (nI (2 * k + j))), o6, o7] [.int (nI k), .ref 159, .int (2 * nI k), .int (nI (2 * k + j))] M Q
      refine ez_iald (n := 6) rfl (by decide) rfl hk (by omega) ?_
      rw [hF 159 k (by omega), n3, d2]
      refine ez_blk 1 rfl ?_
      show ez xs 174 20 [some (.ref 131), some (.ref pg), some (.int (nI k)), some (.int (nI b)), some (.int (nI (wT m (nI b) k j).length)), some (.int (nI (2 * k + j))), o6, o7] [.int (nI (2 * k) + nI n), .int (nI (2 * k + j))] M Q
      rw [nI_add]
      refine ez_icmp_ge rfl (fun _ => ?_) (fun z => absurd (nI_le (by omega) (by omega)) z)
      have e : j = n := by omega
      rw [e] at hM ⊢
      have wl := (wT_len m (nI b) k n).2
      refine ez_blk (pc' := 73) 2 rfl ?_
      refine FILL (10 - (wT m (nI b) k n).length) (wT m (nI b) k n).length M _ _ (by omega) (Nat.le_refl _) hF (fun i hi => ?_)
      rw [List.getD_eq_getElem?_getD, List.getElem?_eq_getElem hi]
      exact hM i _ (List.getElem?_eq_getElem hi)
    | succ r ih =>
      intro j M o6 o7 hj hF hM
      refine ez_blk 7 rfl ?_
      show ez xs 174 18 [some (.ref 131), some (.ref pg), some (.int (nI k)), some (.int (nI b)), some (.int (nI (wT m (nI b) k j).length)), some (.int (nI (2 * k + j))), o6, o7] [.int (nI k), .ref 159, .int (2 * nI k), .int (nI (2 * k + j))] M Q
      refine ez_iald (n := 6) rfl (by decide) rfl hk (by omega) ?_
      rw [hF 159 k (by omega), n3, d2]
      refine ez_blk 1 rfl ?_
      show ez xs 174 20 [some (.ref 131), some (.ref pg), some (.int (nI k)), some (.int (nI b)), some (.int (nI (wT m (nI b) k j).length)), some (.int (nI (2 * k + j))), o6, o7] [.int (nI (2 * k) + nI n), .int (nI (2 * k + j))] M Q
      rw [nI_add]
      refine ez_icmp_ge rfl (fun z => absurd z (nI_ge (by omega) (by omega))) (fun _ => ?_)
      show ez xs 174 23 [some (.ref 131), some (.ref pg), some (.int (nI k)), some (.int (nI b)), some (.int (nI (wT m (nI b) k j).length)), some (.int (nI (2 * k + j))), o6, o7] [] M Q
      refine ez_blk (pc' := 26) 2 rfl ?_
      show ez xs 174 26 [some (.ref 131), some (.ref pg), some (.int (nI k)), some (.int (nI b)), some (.int (nI (wT m (nI b) k j).length)), some (.int (nI (2 * k + j))), some (.int (nI 0)), o7] [] M Q
      have wl := (wT_len m (nI b) k j).2
      have L1 := fun (l : List Int32) (v : Int32) => ap_len (l := l) (v := v)
      obtain ⟨q1, q2⟩ := n5 j (by omega)
      have LET := letters (l := wT m (nI b) k j) (j := 2 * k + j) (by omega) hb q1 q2
      refine wl_step (i := 0) hp hs (by omega) (by omega) (by omega) hM (fun N1 p1 h1 F1 => ?_)
      rw [stm_8 hp9 hF] at h1 ⊢
      generalize hv0 : f_M_letter m (nI (2 * k + j)) (nI b) (nI 0) = v0 at h1 LET ⊢
      have l1 := L1 (wT m (nI b) k j) v0
      refine wl_step (i := 1) hp hs (by omega) (by omega) (by omega) h1 (fun N2 p2 h2 F2 => ?_)
      have G2 : ∀ a i, a ≠ pg → N1 a i = m a i := fun a i z => (F1 a i z).trans (hF a i z)
      rw [stm_8 hp9 G2] at h2 ⊢
      generalize hv1 : f_M_letter m (nI (2 * k + j)) (nI b) (nI 1) = v1 at h2 LET ⊢
      have l2 := L1 (ap (wT m (nI b) k j) v0) v1
      refine wl_step (i := 2) hp hs (by omega) (by omega) (by omega) h2 (fun N3 p3 h3 F3 => ?_)
      have G3 : ∀ a i, a ≠ pg → N2 a i = m a i := fun a i z => (F2 a i z).trans (G2 a i z)
      rw [stm_8 hp9 G3] at h3 ⊢
      generalize hv2 : f_M_letter m (nI (2 * k + j)) (nI b) (nI 2) = v2 at h3 LET ⊢
      have l3 := L1 (ap (ap (wT m (nI b) k j) v0) v1) v2
      refine wl_step (i := 3) hp hs (by omega) (by omega) (by omega) h3 (fun N4 p4 h4 F4 => ?_)
      have G4 : ∀ a i, a ≠ pg → N3 a i = m a i := fun a i z => (F3 a i z).trans (G3 a i z)
      rw [stm_8 hp9 G4] at h4 ⊢
      generalize hv3 : f_M_letter m (nI (2 * k + j)) (nI b) (nI 3) = v3 at h4 LET ⊢
      have l4 := L1 (ap (ap (ap (wT m (nI b) k j) v0) v1) v2) v3
      refine wl_step (i := 4) hp hs (by omega) (by omega) (by omega) h4 (fun N5 p5 h5 F5 => ?_)
      have G5 : ∀ a i, a ≠ pg → N4 a i = m a i := fun a i z => (F4 a i z).trans (G4 a i z)
      rw [stm_8 hp9 G5] at h5 ⊢
      rw [LET] at h5 ⊢
      refine ez_blk 2 rfl ?_
      show ez xs 174 29 [some (.ref 131), some (.ref pg), some (.int (nI k)), some (.int (nI b)), some (.int (nI (wT m (nI b) k (j + 1)).length)), some (.int (nI (2 * k + j))), some (.int (nI 5)), p5] [.int (nI 5), .int (nI 5)] N5 Q
      refine ez_icmp_ge rfl (fun _ => ?_) (fun z => absurd (nI_le (Nat.le_refl _) (by omega)) z)
      refine ez_blk (pc' := 8) 2 rfl ?_
      show ez xs 174 8 [some (.ref 131), some (.ref pg), some (.int (nI k)), some (.int (nI b)), some (.int (nI (wT m (nI b) k (j + 1)).length)), some (.int (nI (2 * k + j) + 1)), some (.int (nI 5)), p5] [] N5 Q
      rw [nI_1]
      exact ih (j + 1) N5 _ _ (by omega) (fun a i z => (F5 a i z).trans (G5 a i z)) h5
  exact loop n 0 m none none (by omega) (fun _ _ _ => rfl) (fun i v hv => by cases hv)
/-! two edits compared, by the reference -/
def Vv (S : zM) (k b : Nat) : Int32 × List Int32 := (S 153 k, wW S (nI b) k)
theorem W_len {m : zM} {k b : Nat} (h : rI m k) : (wW m (nI b) k).length ≤ 10 := by
  obtain ⟨-, -, -, -, ⟨n, n1, n2, n3, n4, n5⟩, -⟩ := h
  unfold wW
  rw [n3, nI_clamp (by omega)]
  have := (wT_len m (nI b) k n).2
  omega
theorem list_eq {u v : List Int32} (h1 : u.length = v.length) (h : u.length ≤ 10) (h2 : ∀ i, i < 10 → u.getD i 0 = v.getD i 0) : u = v := by
  refine List.ext_getElem h1 (fun i a b => ?_)
  have := h2 i (by omega)
  rw [List.getD_eq_getElem?_getD, List.getD_eq_getElem?_getD, List.getElem?_eq_getElem a, List.getElem?_eq_getElem b] at this
  exact this
theorem wT_same {S S' : zM} {b : Int32} {k : Nat} (h : ∀ a j, 149 ≤ a → a ≤ 163 → S' a j = S a j) : ∀ j, wT S' b k j = wT S b k j := by
  intro j
  induction j with
  | zero => rfl
  | succ j ih => rw [wT, wT, ih, h 160 _ (by omega) (by omega), h 161 _ (by omega) (by omega), h 162 _ (by omega) (by omega), h 163 _ (by omega) (by omega)]
theorem W_same {S S' : zM} {b : Int32} {k : Nat} (h : ∀ a j, 149 ≤ a → a ≤ 163 → S' a j = S a j) : wW S' b k = wW S b k := by
  unfold wW
  rw [h 159 k (by omega) (by omega), wT_same h]
def eqTo (u v : List Int32) : Nat → Bool
  | 0 => true
  | i + 1 => eqTo u v i && decide (u.getD i 0 = v.getD i 0)
theorem eqTo_iff {u v : List Int32} : ∀ {n : Nat}, eqTo u v n = true ↔ ∀ i, i < n → u.getD i 0 = v.getD i 0 := by
  intro n
  induction n with
  | zero => exact ⟨fun _ i hi => absurd hi (Nat.not_lt_zero i), fun _ => rfl⟩
  | succ n ih =>
    rw [eqTo, Bool.and_eq_true, ih, decide_eq_true_iff]
    constructor
    · rintro ⟨q1, q2⟩ i hi
      by_cases e : i = n
      · rw [e]; exact q2
      · exact q1 i (by omega)
    · intro q
      exact ⟨fun i hi => q i (by omega), q n (by omega)⟩
theorem h_M_alike {xs : jx_Xs} {m : zM} {Q : Option Value → zM → Prop} {k b l d : Nat} (hk : k < 6) (hb : b < 64) (hl : l < 6) (hd : d < 64) (hI : rI m k) (hJ : rI m l) (g : ∀ M, (∀ a j, a ≠ 169 → a ≠ 170 → M a j = m a j) → Q (some (.int (bI (decide (Vv m k b = Vv m l d))))) M) : ez xs 175 0 (jx_ent 175 [.ref 131, .int (nI k), .int (nI b), .int (nI l), .int (nI d)]) [] m Q := by
  refine ez_blk 5 rfl ?_
  show ez xs 175 7 [some (.ref 131), some (.int (nI k)), some (.int (nI b)), some (.int (nI l)), some (.int (nI d)), none, none, none, none] [.int (nI b), .int (nI k), .ref 169, .ref 131] m Q
  refine ez_call (as := [.ref 131, .ref 169, .int (nI k), .int (nI b)]) (rest := []) rfl (by decide) rfl ?_
  refine h_M_write (Or.inl rfl) hk hb hI (fun M hM hF => ?_)
  have sF : ∀ a j, sS a j → M a j = m a j := fun a j q => hF a j (by have q : (36 ≤ a ∧ a ≤ 73) ∨ (149 ≤ a ∧ a ≤ 163) ∨ (a = 131 ∧ j = 21) := q; omega)
  refine ez_blk (pc' := 20) 6 rfl ?_
  show ez xs 175 20 [some (.ref 131), some (.int (nI k)), some (.int (nI b)), some (.int (nI l)), some (.int (nI d)), some (.int (nI (wW m (nI b) k).length)), none, none, none] [.int (nI d), .int (nI l), .ref 170, .ref 131] M Q
  refine ez_call (as := [.ref 131, .ref 170, .int (nI l), .int (nI d)]) (rest := []) rfl (by decide) rfl ?_
  refine h_M_write (Or.inr rfl) hl hd (rI_same hl sF hJ) (fun N hN hNF => ?_)
  rw [W_same (S := m) (fun a j q1 q2 => hF a j (by omega))] at hN ⊢
  have F : ∀ a j, a ≠ 169 → a ≠ 170 → N a j = m a j := fun a j q1 q2 => (hNF a j q2).trans (hF a j q1)
  have P9 : pgO N 169 (wW m (nI b) k) := fun i hi => (hNF 169 i (by omega)).trans (hM i hi)
  have lu := W_len (b := b) hI
  have lv := W_len (b := d) hJ
  have g := g N F
  unfold Vv at g
  generalize wW m (nI b) k = u at P9 lu g
  generalize wW m (nI d) l = v at hN lv g
  refine ez_blk (pc' := 30) 4 rfl ?_
  show ez xs 175 30 [some (.ref 131), some (.int (nI k)), some (.int (nI b)), some (.int (nI l)), some (.int (nI d)), some (.int (nI u.length)), some (.int (nI v.length)), none, none] [.int (nI k), .ref 153] N Q
  refine ez_zald (n := 6) rfl (by decide) rfl hk (by omega) ?_
  rw [F 153 k (by omega) (by omega)]
  refine ez_blk (pc' := 36) 3 rfl ?_
  show ez xs 175 36 [some (.ref 131), some (.int (nI k)), some (.int (nI b)), some (.int (nI l)), some (.int (nI d)), some (.int (nI u.length)), some (.int (nI v.length)), none, none] [.int (nI l), .ref 153, .int (m 153 k)] N Q
  refine ez_zald (n := 6) rfl (by decide) rfl hl (by omega) ?_
  rw [F 153 l (by omega) (by omega)]
  show ez xs 175 37 [some (.ref 131), some (.int (nI k)), some (.int (nI b)), some (.int (nI l)), some (.int (nI d)), some (.int (nI u.length)), some (.int (nI v.length)), none, none] [.int (m 153 l), .int (m 153 k)] N Q
  have loop : ∀ (r i : Nat) (h : Bool), i + r = 10 → h = (decide (m 153 k = m 153 l ∧ u.length = v.length) && eqTo u v i) → ez xs 175 57 [some (.ref 131), some (.int (nI k)), some (.int (nI b)), some (.int (nI l)), some (.int (nI d)), some (.int (nI u.length)), some (.int (nI v.length)), some (.int (bI h)), some (.int (nI i))] [] N Q := by
    intro r
    induction r with
    | zero =>
      intro i h hi hh
      refine ez_blk 2 rfl ?_
      show ez xs 175 61 [some (.ref 131), some (.int (nI k)), some (.int (nI b)), some (.int (nI l)), some (.int (nI d)), some (.int (nI u.length)), some (.int (nI v.length)), some (.int (bI h)), some (.int (nI i))] [.int (nI 10), .int (nI i)] N Q
      refine ez_icmp_ge rfl (fun _ => ?_) (fun z => absurd (nI_le (by omega) (by omega)) z)
      refine ez_blk (pc' := 101) 1 rfl ?_
      have e : h = decide ((m 153 k, u) = (m 153 l, v)) := by
        rw [hh, show i = 10 by omega, Bool.eq_iff_iff, Bool.and_eq_true, decide_eq_true_iff, decide_eq_true_iff, eqTo_iff]
        constructor
        · rintro ⟨⟨q1, q2⟩, q3⟩
          rw [q1, list_eq q2 lu q3]
        · intro q
          have q1 := congrArg Prod.fst q
          have q2 := congrArg Prod.snd q
          dsimp only at q1 q2
          rw [q2]
          exact ⟨⟨q1, rfl⟩, fun _ _ => rfl⟩
      rw [e]
      refine ez_retz (y := 175) rfl rfl ?_ g
      unfold bI
      split
      · exact Or.inr rfl
      · exact Or.inl rfl
    | succ r ih =>
      intro i h hi hh
      have NO : (decide (m 153 k = m 153 l ∧ u.length = v.length) && eqTo u v (i + 1)) = false → ez xs 175 90 [some (.ref 131), some (.int (nI k)), some (.int (nI b)), some (.int (nI l)), some (.int (nI d)), some (.int (nI u.length)), some (.int (nI v.length)), some (.int (bI h)), some (.int (nI i))] [] N Q := fun q => by
        refine ez_blk (pc' := 57) 4 rfl ?_
        show ez xs 175 57 [some (.ref 131), some (.int (nI k)), some (.int (nI b)), some (.int (nI l)), some (.int (nI d)), some (.int (nI u.length)), some (.int (nI v.length)), some (.int (bI false)), some (.int (nI i + 1))] [] N Q
        rw [nI_1]
        exact ih (i + 1) false (by omega) q.symm
      refine ez_blk 2 rfl ?_
      show ez xs 175 61 [some (.ref 131), some (.int (nI k)), some (.int (nI b)), some (.int (nI l)), some (.int (nI d)), some (.int (nI u.length)), some (.int (nI v.length)), some (.int (bI h)), some (.int (nI i))] [.int (nI 10), .int (nI i)] N Q
      refine ez_icmp_ge rfl (fun z => absurd z (nI_ge (by omega) (by omega))) (fun _ => ?_)
      show ez xs 175 64 [some (.ref 131), some (.int (nI k)), some (.int (nI b)), some (.int (nI l)), some (.int (nI d)), some (.int (nI u.length)), some (.int (nI v.length)), some (.int (bI h)), some (.int (nI i))] [] N Q
      refine ez_blk 1 rfl ?_
      show ez xs 175 66 [some (.ref 131), some (.int (nI k)), some (.int (nI b)), some (.int (nI l)), some (.int (nI d)), some (.int (nI u.length)), some (.int (nI v.length)), some (.int (bI h)), some (.int (nI i))] [.int (bI h)] N Q
      refine ez_if_eq rfl (fun z => ?_) (fun z => ?_)
      · refine NO ?_
        have z := bI_0.mp z
        rw [hh] at z
        rw [eqTo, ← Bool.and_assoc, z]
        rfl
      have z := bI_t.mp z
      show ez xs 175 69 [some (.ref 131), some (.int (nI k)), some (.int (nI b)), some (.int (nI l)), some (.int (nI d)), some (.int (nI u.length)), some (.int (nI v.length)), some (.int (bI h)), some (.int (nI i))] [] N Q
      refine ez_blk 3 rfl ?_
      show ez xs 175 75 [some (.ref 131), some (.int (nI k)), some (.int (nI b)), some (.int (nI l)), some (.int (nI d)), some (.int (nI u.length)), some (.int (nI v.length)), some (.int (bI h)), some (.int (nI i))] [.int (nI i), .ref 169] N Q
      refine ez_iald (n := 10) rfl (by decide) rfl (by omega) (by omega) ?_
      rw [P9 i (by omega)]
      refine ez_blk (pc' := 82) 3 rfl ?_
      show ez xs 175 82 [some (.ref 131), some (.int (nI k)), some (.int (nI b)), some (.int (nI l)), some (.int (nI d)), some (.int (nI u.length)), some (.int (nI v.length)), some (.int (bI h)), some (.int (nI i))] [.int (nI i), .ref 170, .int (u.getD i 0)] N Q
      refine ez_iald (n := 10) rfl (by decide) rfl (by omega) (by omega) ?_
      rw [hN i (by omega)]
      show ez xs 175 83 [some (.ref 131), some (.int (nI k)), some (.int (nI b)), some (.int (nI l)), some (.int (nI d)), some (.int (nI u.length)), some (.int (nI v.length)), some (.int (bI h)), some (.int (nI i))] [.int (v.getD i 0), .int (u.getD i 0)] N Q
      refine ez_icmp_ne rfl (fun w => ?_) (fun w => ?_)
      · exact NO (by rw [eqTo, decide_eq_false w, Bool.and_false, Bool.and_false])
      · refine ez_blk (pc' := 57) 5 rfl ?_
        show ez xs 175 57 [some (.ref 131), some (.int (nI k)), some (.int (nI b)), some (.int (nI l)), some (.int (nI d)), some (.int (nI u.length)), some (.int (nI v.length)), some (.int (bI true)), some (.int (nI i + 1))] [] N Q
        rw [nI_1]
        refine ih (i + 1) true (by omega) ?_
        rw [eqTo, decide_eq_true w, Bool.and_true, ← hh, z]
  have NE : ¬ (m 153 k = m 153 l ∧ u.length = v.length) → ez xs 175 51 [some (.ref 131), some (.int (nI k)), some (.int (nI b)), some (.int (nI l)), some (.int (nI d)), some (.int (nI u.length)), some (.int (nI v.length)), none, none] [] N Q := fun q => by
    refine ez_blk (pc' := 57) 4 rfl ?_
    exact loop 10 0 false (by omega) (by rw [decide_eq_false q]; rfl)
  refine ez_icmp_ne rfl (fun z => NE (fun q => z q.1)) (fun z => ?_)
  show ez xs 175 40 [some (.ref 131), some (.int (nI k)), some (.int (nI b)), some (.int (nI l)), some (.int (nI d)), some (.int (nI u.length)), some (.int (nI v.length)), none, none] [] N Q
  refine ez_blk 2 rfl ?_
  show ez xs 175 44 [some (.ref 131), some (.int (nI k)), some (.int (nI b)), some (.int (nI l)), some (.int (nI d)), some (.int (nI u.length)), some (.int (nI v.length)), none, none] [.int (nI v.length), .int (nI u.length)] N Q
  refine ez_icmp_ne rfl (fun w => NE (fun q => w (by rw [q.2]))) (fun w => ?_)
  refine ez_blk (pc' := 57) 5 rfl ?_
  exact loop 10 0 true (by omega) (by rw [decide_eq_true ⟨z, (nI_eq (by omega) (by omega)).mp w⟩]; rfl)
