/-! What the reference's search finds for the items: the same. -/
theorem aft_in {c : Nat} {nd : Nat → Nat → Int32} {dep : Nat → Nat} (hc : c ≤ 24) (h : ∀ j, j < c → nOk c nd dep j) : ∀ f n, n < c → ∃ a : Nat, a ≤ c ∧ aft c nd f n = nI a := by
  intro f
  induction f with
  | zero => intro n _; exact ⟨c, Nat.le_refl c, rfl⟩
  | succ f ih =>
    intro n hn
    obtain ⟨-, n2, n3, -⟩ := h n hn
    rw [aft]
    rcases n3 8 (by omega) (by omega) with a8 | ⟨j, j1, a8⟩
    · rw [if_pos a8]
      rcases n2 with ⟨a7, -⟩ | ⟨p, p1, a7, -⟩
      · rw [if_pos a7]; exact ⟨c, Nat.le_refl c, rfl⟩
      · rw [a7, if_neg (n1_ne p (by omega)), nI_clamp (by omega)]
        split
        · exact ih p p1
        · exact ⟨p, by omega, rfl⟩
    · rw [a8, if_neg (n1_ne j (by omega))]; exact ⟨j, by omega, rfl⟩
theorem gE_of {c : Nat} {nd : Nat → Nat → Int32} {dep : Nat → Nat} (hc : c ≤ 24) (h : ∀ j, j < c → nOk c nd dep j) : gE c (pE0 c nd) (pE1 c nd) := by
  intro n hn
  have A := aft_in hc h 7 n hn
  obtain ⟨-, -, n3, -⟩ := h n hn
  constructor
  · unfold pE0
    split
    · exact ⟨c, Nat.le_refl c, rfl⟩
    · split
      · rcases n3 9 (by omega) (by omega) with q | ⟨i, i1, q⟩
        · rw [if_pos q]
          split
          · exact A
          · exact ⟨n, by omega, rfl⟩
        · rw [q, if_neg (n1_ne i (by omega))]; exact ⟨i, by omega, rfl⟩
      · exact A
  · unfold pE1
    split
    · right
      split
      · rcases n3 10 (by omega) (by omega) with q | ⟨i, i1, q⟩
        · rw [if_pos q]; exact A
        · rw [q, if_neg (n1_ne i (by omega))]; exact ⟨i, by omega, rfl⟩
      · exact A
    · exact Or.inl rfl
def hw (X v : Int32) : Bool := decide (¬ v = -1) && bt X v.toNatClampNeg
theorem hw_i {X : Int32} {c a : Nat} (hc : c ≤ 24) (h : a ≤ c) : hw X (nI a) = bt X a := by
  unfold hw
  rw [decide_eq_true (n1_ne a (by omega)), nI_clamp (by omega)]
  rfl
theorem ss_two {c : Nat} {e0 e1 : Nat → Int32} (hc : c ≤ 24) (hE : gE c e0 e1) {n : Nat} {X : Int32} (hn : n < c) : decide (¬ ss e0 e1 n &&& X = 0) = (hw X (e0 n) || hw X (e1 n)) := by
  obtain ⟨⟨a, a1, a2⟩, h1⟩ := hE n hn
  rw [Bool.eq_iff_iff, decide_eq_true_iff, ss_and hc hE hn, Bool.or_eq_true, a2, hw_i hc a1]
  have E1 : hw X (e1 n) = true ↔ ∃ s, s ≤ c ∧ e1 n = nI s ∧ bt X s = true := by
    rcases h1 with h1 | ⟨b, b1, b2⟩
    · rw [h1]
      unfold hw
      rw [decide_eq_false (fun z => z rfl)]
      constructor
      · intro z; cases z
      · rintro ⟨s, s1, s2, -⟩; exact absurd s2 (nI_n1 (by omega))
    · rw [b2, hw_i hc b1]
      constructor
      · intro z; exact ⟨b, b1, rfl, z⟩
      · rintro ⟨s, s1, s2, s3⟩
        rw [(nI_eq (by omega) (by omega)).mp s2]
        exact s3
  rw [E1]
  unfold ed
  rw [a2]
  constructor
  · rintro ⟨s, s1, s2 | s2, s3⟩
    · left; rw [(nI_eq (by omega) (by omega)).mp s2]; exact s3
    · right; exact ⟨s, s1, s2, s3⟩
  · rintro (q | ⟨s, s1, s2, s3⟩)
    · exact ⟨a, a1, Or.inl rfl, q⟩
    · exact ⟨s, s1, Or.inr s2, s3⟩
theorem bI_t {b : Bool} : ¬ bI b = 0 ↔ b = true := by cases b <;> decide
theorem fb_step {xs : jx_Xs} {M : zM} {Q : Option Value → zM → Prop} {kk bb rr v B : Int32} {c i j : Nat} {h : Bool} {o7 : Option Value} (hc : c ≤ 24) (hi : i < c) (hj : j < 2) (h5 : M 131 5 = nI c) (hB : M 131 40 = B) (hv : M 145 (2 * i + j) = v) (hv2 : v = -1 ∨ ∃ a : Nat, a ≤ c ∧ v = nI a)
    (g : ∀ o, ez xs 149 78 [some (.ref 131), some (.int kk), some (.int bb), some (.int rr), some (.int (nI i)), some (.int (bI (h || hw (B ||| b1 c) v))), some (.int (nI (j + 1))), o] [] M Q) : ez xs 149 78 [some (.ref 131), some (.int kk), some (.int bb), some (.int rr), some (.int (nI i)), some (.int (bI h)), some (.int (nI j)), o7] [] M Q := by
  have l2 : ¬ (2 : Int32) ≤ nI j := fun z => absurd ((nI_leI (a := 2) (by omega) (by omega)).mp z) (by omega)
  have d2 : (2 : Int32) * nI i + nI j = nI (2 * i + j) := by rw [show (2 : Int32) = nI 2 from rfl, pk_mul, nI_add]
  have cl : (nI (2 * i + j)).toNatClampNeg = 2 * i + j := nI_clamp (by omega)
  have vb : vp_in (nI (2 * i + j)) 48 := vp_in_nI (by omega) (by omega)
  rw [← nI_1] at g
  apply c_M_findBad_78
  all_goals try simp only [d2, cl, hv, h5, hB]
  · intro z; exact absurd z l2
  · intro _; exact vb
  · intro z; exact absurd z l2
  · intro z; exact absurd z l2
  · intro z; exact absurd z l2
  · intro _ z
    rw [bI_t.mp z] at g
    exact g _
  · intro _ z z1
    have w : hw (B ||| b1 c) v = true := by rw [z1, hw_i hc (Nat.le_refl c), bt_or, bt_1 (by omega), decide_eq_true rfl, Bool.or_true]
    rw [w, Bool.or_true] at g
    exact g _
  · intro _ z z1 z2
    have w : hw (B ||| b1 c) v = false := by
      rcases hv2 with q | ⟨a, a1, a2⟩
      · rw [q]; unfold hw; rw [decide_eq_false (fun z => z rfl)]; rfl
      · rw [a2] at z2; exact absurd z2 (nI_pos (by omega))
    rw [w, bI_0.mp z] at g
    exact g _
  · intro _ z z1 z2 z3
    have w : hw (B ||| b1 c) v = false := by
      rcases hv2 with q | ⟨a, a1, a2⟩
      · rw [q]; unfold hw; rw [decide_eq_false (fun z => z rfl)]; rfl
      · rw [a2, f_has (by omega), bI_0] at z3
        rw [a2] at z1
        have ne : a ≠ c := fun e => z1 (by rw [e])
        rw [a2, hw_i hc a1, bt_or, z3, bt_1 (by omega), decide_eq_false ne]; rfl
    rw [w, bI_0.mp z] at g
    exact g _
  · intro _ z z1 z2 z3
    have w : hw (B ||| b1 c) v = true := by
      rcases hv2 with q | ⟨a, a1, a2⟩
      · rw [q] at z2; exact absurd (by decide) z2
      · rw [a2, f_has (by omega), bI_t] at z3
        rw [a2, hw_i hc a1, bt_or, z3]; rfl
    rw [w, Bool.or_true] at g
    exact g _
theorem gM_same {m M : zM} {c : Nat} {nd : Nat → Nat → Int32} (h5 : M 131 5 = m 131 5) (h : ∀ a b, 135 ≤ a → a ≤ 145 → M a b = m a b) (g : gM m c nd) : gM M c nd := by
  refine ⟨h5.trans g.1, fun n hn => ?_⟩
  rw [h 145 _ (by omega) (by omega), h 145 _ (by omega) (by omega)]
  refine ⟨fun k hk => ?_, (g.2 n hn).2⟩
  rw [pMn_same (fun a q1 q2 => h a n q1 (by omega)) (h 144 _ (by omega) (by omega)) (h 144 _ (by omega) (by omega))]
  exact (g.2 n hn).1 k hk
theorem h_M_findBad {xs : jx_Xs} {m : zM} {Q : Option Value → zM → Prop} {b tn : Int32} {c k : Nat} {nd : Nat → Nat → Int32} (hc : c ≤ 24) (hk : k < 5) (hG : gM m c nd) (hE : gE c (pE0 c nd) (pE1 c nd)) (ht : m 164 (k + 1) = tn) (g : ∀ M, M 131 40 = rq c (pE0 c nd) (pE1 c nd) (Ff m c nd b k) tn 25 → (∀ a j, ¬ (a = 131 ∧ j = 40) → M a j = m a j) → Q none M) : ez xs 149 0 (jx_ent 149 [.ref 131, .int (nI k), .int b]) [] m Q := by
  have ck : (nI k).toNatClampNeg = k := nI_clamp (by omega)
  have ck1 : (nI k + 1).toNatClampNeg = k + 1 := by rw [nI_1, nI_clamp (by omega)]
  have vk : vp_in (nI k) 6 := vp_in_nI (by omega) (by omega)
  have vk1 : vp_in (nI k + 1) 6 := by rw [nI_1]; exact vp_in_nI (by omega) (by omega)
  generalize hF : Ff m c nd b k = F at g
  refine c_M_findBad ?_
  have SW : ∀ (r i : Nat) (rr B : Int32) (M : zM) (o5 o6 o7 : Option Value), i + r = c → (∀ a j, ¬ (a = 131 ∧ j = 40) → M a j = m a j) → M 131 40 = sw c (pE0 c nd) (pE1 c nd) F tn B i → (∀ N (o4 o5 o6 o7 : Option Value), (∀ a j, ¬ (a = 131 ∧ j = 40) → N a j = m a j) → N 131 40 = sw c (pE0 c nd) (pE1 c nd) F tn B c → ez xs 149 7 [some (.ref 131), some (.int (nI k)), some (.int b), some (.int (rr + 1)), o4, o5, o6, o7] [] N Q) → ez xs 149 16 [some (.ref 131), some (.int (nI k)), some (.int b), some (.int rr), some (.int (nI i)), o5, o6, o7] [] M Q := by
    intro r
    induction r with
    | zero =>
      intro i rr B M o5 o6 o7 hi hFr hB cont
      have h5 : M 131 5 = nI c := by rw [hFr 131 5 (by omega), hG.1]
      have hx : M 131 5 ≤ nI i := by rw [h5]; exact nI_le (by omega) (by omega)
      have hi : i = c := by omega
      have cont := fun o4 o5 o6 o7 => cont M o4 o5 o6 o7 hFr (by rw [hB, hi])
      apply c_M_findBad_16 <;> intros <;> first | contradiction | exact cont _ _ _ _
    | succ r ih =>
      intro i rr B M o5 o6 o7 hi hFr hB cont
      have hic : i < c := by omega
      have hMG : gM M c nd := gM_same (hFr 131 5 (by omega)) (fun a j _ _ => hFr a j (by omega)) hG
      have h5 : M 131 5 = nI c := hMG.1
      have hx : ¬ M 131 5 ≤ nI i := by rw [h5]; exact nI_ge hic (by omega)
      have vi : vp_in (nI i) 24 := vp_in_nI (by omega) (by omega)
      generalize hBi : sw c (pE0 c nd) (pE1 c nd) F tn B i = Bi at hB
      have two : ∀ (h : Bool) (o : Option Value), h = bt F i → ez xs 149 78 [some (.ref 131), some (.int (nI k)), some (.int b), some (.int rr), some (.int (nI i)), some (.int (bI h)), some (.int 0), o] [] M Q := fun h o hh => by
        have E := hE i hic
        refine fb_step (j := 0) (v := pE0 c nd i) hc hic (by omega) h5 hB ((hMG.2 i hic).2.1) (Or.inr E.1) (fun o1 => ?_)
        refine fb_step (j := 1) (v := pE1 c nd i) hc hic (by omega) h5 hB ((hMG.2 i hic).2.2) E.2 (fun o2 => ?_)
        have eH : ((h || hw (Bi ||| b1 c) (pE0 c nd i)) || hw (Bi ||| b1 c) (pE1 c nd i)) = hr c (pE0 c nd) (pE1 c nd) F Bi i := by
          unfold hr
          rw [ss_two hc hE hic, hh, Bool.or_assoc]
        rw [eH]
        show ez xs 149 78 [some (.ref 131), some (.int (nI k)), some (.int b), some (.int rr), some (.int (nI i)), some (.int (bI (hr c (pE0 c nd) (pE1 c nd) F Bi i))), some (.int 2), o2] [] M Q
        have l2 : ¬ ¬ (2 : Int32) ≤ 2 := by decide
        have tM : M 164 (k + 1) = tn := by rw [hFr 164 (k + 1) (by omega), ht]
        have fh : ∀ m : zM, f_M_has m tn (nI i) = bI (bt tn i) := fun m => f_has (by omega)
        have NO : (hr c (pE0 c nd) (pE1 c nd) F Bi i && !bt tn i) = false → ∀ o5 o6 o7, ez xs 149 16 [some (.ref 131), some (.int (nI k)), some (.int b), some (.int rr), some (.int (nI i + 1)), o5, o6, o7] [] (jj_up M 131 40 Bi) Q := fun q o5 o6 o7 => by
          rw [nI_1]
          refine ih (i + 1) rr B _ _ _ _ (by omega) (fun a j z => by rw [up_ne2 z]; exact hFr a j z) ?_ cont
          rw [up_eq, sw, hBi, q, if_neg (by decide)]
        have YES : (hr c (pE0 c nd) (pE1 c nd) F Bi i && !bt tn i) = true → ∀ o5 o6 o7, ez xs 149 16 [some (.ref 131), some (.int (nI k)), some (.int b), some (.int rr), some (.int (nI i + 1)), o5, o6, o7] [] (jj_up M 131 40 (Bi ||| ((1 : Int32) <<< (nI i &&& 31)))) Q := fun q o5 o6 o7 => by
          rw [nI_1]
          refine ih (i + 1) rr B _ _ _ _ (by omega) (fun a j z => by rw [up_ne2 z]; exact hFr a j z) ?_ cont
          rw [up_eq, sw, hBi, q, if_pos rfl]
          rfl
        apply c_M_findBad_78
        · intro _ _; exact vk1
        · intro z; exact absurd z l2
        · rw [hB]
          intro _ z
          exact NO (by rw [bI_0.mp z]; rfl) _ _ _
        · rw [hB, ck1, tM, fh]
          intro _ z z1
          exact NO (by rw [bI_t.mp z1]; exact Bool.and_false _) _ _ _
        · rw [hB, ck1, tM, fh]
          intro _ z z1
          exact YES (by rw [bI_t.mp z, bI_0.mp z1]; rfl) _ _ _
        · intro z; exact absurd z l2
        · intro z; exact absurd z l2
        · intro z; exact absurd z l2
        · intro z; exact absurd z l2
        · intro z; exact absurd z l2
      have s5 : ∀ a, 155 ≤ a → a ≤ 158 → M a k = m a k := fun a _ _ => hFr a k (by omega)
      have f155 : M 155 k = m 155 k := s5 155 (by omega) (by omega)
      have fl : ∀ o f x y, f_M_like M (nI i) o f x y b = bI (lkB nd o f x y b i) := fun o f x y => f_like hc (fun n hn => (hMG.2 n hn).1) hic
      have bF : bt F i = if m 155 k < 0 then false else lkB nd (m 155 k) (m 156 k) (m 157 k) (m 158 k) b i := by
        rw [← hF]
        unfold Ff
        split
        · exact bt_0
        · rw [bt_mk (by omega), decide_eq_true hic]; rfl
      apply c_M_findBad_16
      all_goals try simp only [ck, s5 155 (by omega) (by omega), s5 156 (by omega) (by omega), s5 157 (by omega) (by omega), s5 158 (by omega) (by omega), fl]
      · intro _; exact vk
      · intro _ _; exact vk
      · intro _ _; exact vk
      · intro _ _; exact vk
      · intro _ _; exact vk
      · intro _ _; exact vi
      · intro _ _ _; exact vi
      · intro _ _ _ _ _ _; exact vi
      · intro _ _ _ _ _; exact vi
      · intro _ _ _ _ _ _ _; exact vi
      · intro z; exact absurd z hx
      · intro _ z
        exact two false _ (by rw [bF, if_pos z])
      · intro _ z z1
        exact two false _ (by rw [bF, if_neg z]; exact (bI_0.mp z1).symm)
      · intro _ z z1
        exact two true _ (by rw [bF, if_neg z]; exact (bI_t.mp z1).symm)
  have RND : ∀ (r j : Nat) (M : zM) (o4 o5 o6 o7 : Option Value), j + r = 25 → (∀ a j, ¬ (a = 131 ∧ j = 40) → M a j = m a j) → M 131 40 = rq c (pE0 c nd) (pE1 c nd) F tn j → ez xs 149 7 [some (.ref 131), some (.int (nI k)), some (.int b), some (.int (nI j)), o4, o5, o6, o7] [] M Q := by
    intro r
    induction r with
    | zero =>
      intro j M o4 o5 o6 o7 hj hFr hB
      have hx : (25 : Int32) ≤ nI j := by rw [show j = 25 by omega]; decide
      refine c_M_findBad_7 (fun _ => g M ?_ hFr) (fun z => absurd hx z)
      rw [hB, show j = 25 by omega]
    | succ r ih =>
      intro j M o4 o5 o6 o7 hj hFr hB
      have hx : ¬ (25 : Int32) ≤ nI j := fun z => absurd ((nI_leI (a := 25) (by omega) (by omega)).mp z) (by omega)
      refine c_M_findBad_7 (fun z => absurd z hx) (fun _ => ?_)
      refine SW c 0 (nI j) (rq c (pE0 c nd) (pE1 c nd) F tn j) M _ _ _ (by omega) hFr hB (fun N p4 p5 p6 p7 hN1 hN2 => ?_)
      rw [nI_1]
      exact ih (j + 1) N p4 p5 p6 p7 (by omega) hN1 hN2
  exact RND 25 0 _ none none none none (by omega) (fun a j z => up_ne2 z) up_eq
