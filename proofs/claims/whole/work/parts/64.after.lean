/-! What comes behind a node, on both sides. -/
def aft (c : Nat) (nd : Nat → Nat → Int32) : Nat → Nat → Int32
  | 0, _ => nI c
  | f + 1, n => if nd n 8 = -1 then (if nd n 7 = -1 then nI c else if nd (nd n 7).toNatClampNeg 4 = 0 then aft c nd f (nd n 7).toNatClampNeg else nd n 7) else nd n 8
theorem aft_more {c : Nat} {nd : Nat → Nat → Int32} {dep : Nat → Nat} (hc : c ≤ 24) (h : ∀ j, j < c → nOk c nd dep j) : ∀ f n, n < c → dep n < f → aft c nd (f + 1) n = aft c nd f n := by
  intro f
  induction f with
  | zero => intro n _ q; omega
  | succ f ih =>
    intro n hn q
    have u : ∀ f n, aft c nd (f + 1) n = if nd n 8 = -1 then (if nd n 7 = -1 then nI c else if nd (nd n 7).toNatClampNeg 4 = 0 then aft c nd f (nd n 7).toNatClampNeg else nd n 7) else nd n 8 := fun _ _ => rfl
    rw [u (f + 1) n, u f n]
    rcases (h n hn).2.1 with ⟨a, -⟩ | ⟨i, i1, a, i3⟩
    · rw [if_pos a, if_pos a]
    · rw [a, nI_clamp (by omega), ih i i1 (by omega)]
theorem h_M_after {xs : jx_Xs} {m : zM} {Q : Option Value → zM → Prop} {c n : Nat} {nd : Nat → Nat → Int32} {dep : Nat → Nat} (hc : c ≤ 24) (h : ∀ j, j < c → nOk c nd dep j) (h5 : m 131 5 = nI c) (hm : ∀ n, n < c → ∀ k, k < 11 → pMn m n k = nd n k) (hn : n < c) (g : Q (some (.int (aft c nd 8 n))) m) : ez xs 69 0 (jx_ent 69 [.ref 131, .int (nI n)]) [] m Q := by
  refine c_M_after ?_
  have loop : ∀ (r k i : Nat), k + r = 8 → i < c → Q (some (.int (aft c nd r i))) m → ez xs 69 4 [some (.ref 131), some (.int (nI n)), some (.int (nI i)), some (.int (nI k))] [] m Q := by
    intro r
    induction r with
    | zero =>
      intro k i hk hi gq
      have h8 : (8 : Int32) ≤ nI k := by rw [show k = 8 by omega]; decide
      have gq : Q (some (.int (m 131 5))) m := by rw [h5]; exact gq
      apply c_M_after_4 <;> intros <;> first | contradiction | exact gq
    | succ r ih =>
      intro k i hk hi gq
      have h8 : ¬ (8 : Int32) ≤ nI k := fun q => absurd ((nI_leI (a := 8) (by omega) (by omega)).mp q) (by omega)
      have v : vp_in (nI i) 24 := vp_in_nI (by omega) (by omega)
      have cl : (nI i).toNatClampNeg = i := nI_clamp (by omega)
      have e8 : m 142 i = nd i 8 := hm i hi 8 (by omega)
      have e7 : m 141 i = nd i 7 := hm i hi 7 (by omega)
      obtain ⟨-, n2, n3, -⟩ := h i hi
      rw [aft] at gq
      rcases n3 8 (by omega) (by omega) with a8 | ⟨j, j1, a8⟩
      · rw [if_pos a8] at gq
        have l0 : (-1 : Int32) < 0 := by decide
        rcases n2 with ⟨a7, -⟩ | ⟨p, p1, a7, -⟩
        · rw [if_pos a7] at gq
          have l1 : ¬ (0 : Int32) ≤ -1 := by decide
          have gq : Q (some (.int (m 131 5))) m := by rw [h5]; exact gq
          apply c_M_after_4 <;> (try simp only [cl, e8, a8, e7, a7]) <;> intros <;> first | contradiction | exact v | exact gq
        · have pp : (0 : Int32) ≤ nI p := nI_pos' (by omega)
          have pv : vp_in (nI p) 24 := vp_in_nI (by omega) (by omega)
          have pc : (nI p).toNatClampNeg = p := nI_clamp (by omega)
          have e4 : m 143 p = nd p 4 := hm p p1 4 (by omega)
          rw [a7, if_neg (n1_ne p (by omega)), pc] at gq
          by_cases a4 : nd p 4 = 0
          · rw [if_pos a4] at gq
            have gq := ih (k + 1) p (by omega) p1 gq
            rw [← nI_1] at gq
            apply c_M_after_4 <;> (try simp only [cl, e8, a8, e7, a7, pc, e4, a4]) <;> intros <;> first | contradiction | exact v | exact pv | exact gq
          · rw [if_neg a4] at gq
            apply c_M_after_4 <;> (try simp only [cl, e8, a8, e7, a7, pc, e4]) <;> intros <;> first | contradiction | exact v | exact pv | exact gq
      · have jp : ¬ nI j < 0 := nI_pos (by omega)
        rw [a8, if_neg (n1_ne j (by omega))] at gq
        apply c_M_after_4 <;> (try simp only [cl, e8, a8]) <;> intros <;> first | contradiction | exact v | exact gq
  exact loop 8 0 n (by omega) hn g
theorem h_Program_after {xs : jx_Xs} {m : zM} {Q : Option Value → zM → Prop} {c n : Nat} {nd : Nat → Nat → Int32} {dep : Nat → Nat} (hc : c ≤ 24) (h : ∀ j, j < c → nOk c nd dep j) (h5 : m 3 1 = nI c) (hm : ∀ n, n < c → ∀ k, k < 11 → m (5 + n) k = nd n k) (hn : n < c) (g : Q (some (.int (aft c nd 7 n))) m) : ez xs 55 0 (jx_ent 55 [.ref 3, .int (nI n)]) [] m Q := by
  refine c_Program_after ?_
  have loop : ∀ (r k i : Nat) (o : Option Value), k + r = 7 → i < c → Q (some (.int (aft c nd r i))) m → ez xs 55 4 [some (.ref 3), some (.int (nI n)), some (.int (nI i)), some (.int (nI k)), o] [] m Q := by
    intro r
    induction r with
    | zero =>
      intro k i o hk hi gq
      have h8 : (6 : Int32) < nI k := by rw [show k = 7 by omega]; decide
      have gq : Q (some (.int (m 3 1))) m := by rw [h5]; exact gq
      apply c_Program_after_4 <;> intros <;> first | contradiction | exact gq
    | succ r ih =>
      intro k i o hk hi gq
      have h8 : ¬ (6 : Int32) < nI k := fun q => absurd ((nI_ltI (a := 6) (by omega) (by omega)).mp q) (by omega)
      have v : vp_in (nI i) 24 := vp_in_nI (by omega) (by omega)
      have cl : (nI i).toNatClampNeg = i := nI_clamp (by omega)
      have h0 : ¬ nI i < 0 := nI_pos (by omega)
      have hx : ¬ m 3 1 ≤ nI i := by rw [h5]; exact nI_ge hi (by omega)
      have e8 : m (5 + i) 8 = nd i 8 := hm i hi 8 (by omega)
      have e7 : m (5 + i) 7 = nd i 7 := hm i hi 7 (by omega)
      obtain ⟨-, n2, n3, -⟩ := h i hi
      rw [aft] at gq
      rcases n3 8 (by omega) (by omega) with a8 | ⟨j, j1, a8⟩
      · rw [if_pos a8] at gq
        rcases n2 with ⟨a7, -⟩ | ⟨p, p1, a7, -⟩
        · rw [if_pos a7] at gq
          have l1 : ¬ ¬ (-1 : Int32) = -1 := fun q => q rfl
          have gq : Q (some (.int (m 3 1))) m := by rw [h5]; exact gq
          apply c_Program_after_4 <;> (try simp only [cl, e8, a8, e7, a7]) <;> intros <;> first | contradiction | exact v | exact gq
        · have pp : ¬ nI p < 0 := nI_pos (by omega)
          have pv : vp_in (nI p) 24 := vp_in_nI (by omega) (by omega)
          have pc : (nI p).toNatClampNeg = p := nI_clamp (by omega)
          have px : ¬ m 3 1 ≤ nI p := by rw [h5]; exact nI_ge p1 (by omega)
          have e4 : m (5 + p) 4 = nd p 4 := hm p p1 4 (by omega)
          have pn : ¬ nI p = -1 := n1_ne p (by omega)
          have l1 : ¬ ¬ (-1 : Int32) = -1 := fun q => q rfl
          rw [a7, if_neg pn, pc] at gq
          by_cases a4 : nd p 4 = 0
          · rw [if_pos a4] at gq
            have gq := fun o' => ih (k + 1) p o' (by omega) p1 gq
            rw [← nI_1] at gq
            have l4 : ¬ ¬ (0 : Int32) = 0 := fun q => q rfl
            apply c_Program_after_4 <;> (try simp only [cl, e8, a8, e7, a7, pc, e4, a4]) <;> intros <;> first | contradiction | exact v | exact pv | exact gq _
          · rw [if_neg a4] at gq
            apply c_Program_after_4 <;> (try simp only [cl, e8, a8, e7, a7, pc, e4]) <;> intros <;> first | contradiction | exact v | exact pv | exact gq
      · have jn : ¬ nI j = -1 := n1_ne j (by omega)
        rw [a8, if_neg jn] at gq
        apply c_Program_after_4 <;> (try simp only [cl, e8, a8]) <;> intros <;> first | contradiction | exact v | exact gq
  exact loop 7 0 n none (by omega) hn g
