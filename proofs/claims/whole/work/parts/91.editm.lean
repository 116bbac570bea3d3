/-! The reference measures and lays the text. -/
/-- the reference's measuring -/
theorem ed_meas {xs : jx_Xs} {S m : zM} {Q : Option Value → zM → Prop} {N c : Nat} {bg en : Nat → Nat} {f : Nat → Option (Nat × Nat)} (hc : c ≤ 24) (hN : N ≤ 160) (hs : hsp N c bg en) (hS : ∀ a j, sS a j → m a j = S a j) (h0 : m 131 0 = nI N) (h5 : m 131 5 = nI c) (hb : ∀ n, n < c → m 139 n = nI (bg n) ∧ m 140 n = nI (en n)) (hL : ∀ n, n < c → (f n = none → m 167 n = -1) ∧ ∀ e, f n = some e → (m 167 n = nI e.1 ∧ m 168 n = nI e.2) ∧ e.1 < 6 ∧ e.2 < 64 ∧ rI S e.1)
    (g : ∀ M o5 o6 o7 o8 o9, (∀ a k, a ≠ 169 → M a k = m a k) → ez xs 177 125 [some (.ref 131), some (.int (nI (dq f c))), some (.int (lq S N bg en f c)), some (.int (nq S c f c)), some (.int (nI c)), o5, o6, o7, o8, o9] [] M Q) : ez xs 177 0 (jx_ent 177 [.ref 131]) [] m Q := by
  have s9 : ∀ a j, 149 ≤ a → a ≤ 163 → m a j = S a j := fun a j q1 q2 => hS a j (Or.inr (Or.inl ⟨q1, q2⟩))
  refine ez_blk 10 rfl ?_
  show ez xs 177 15 [some (.ref 131), some (.int 0), some (.int (m 131 0)), some (.int (m 131 5)), some (.int 0), none, none, none, none, none] [] m Q
  rw [h0, h5]
  have loop : ∀ (r n : Nat) (M : zM) (o5 o6 o7 o8 o9 : Option Value), n + r = c → (∀ a k, a ≠ 169 → M a k = m a k) → ez xs 177 15 [some (.ref 131), some (.int (nI (dq f n))), some (.int (lq S N bg en f n)), some (.int (nq S c f n)), some (.int (nI n)), o5, o6, o7, o8, o9] [] M Q := by
    intro r
    induction r with
    | zero =>
      intro n M o5 o6 o7 o8 o9 hn hF
      refine ez_blk 3 rfl ?_
      show ez xs 177 21 [some (.ref 131), some (.int (nI (dq f n))), some (.int (lq S N bg en f n)), some (.int (nq S c f n)), some (.int (nI n)), o5, o6, o7, o8, o9] [.int (M 131 5), .int (nI n)] M Q
      rw [hF 131 5 (by omega), h5]
      refine ez_icmp_ge rfl (fun _ => ?_) (fun z => absurd (nI_le (by omega) (by omega)) z)
      rw [show n = c by omega]
      exact g M o5 o6 o7 o8 o9 hF
    | succ r ih =>
      intro n M o5 o6 o7 o8 o9 hn hF
      have hnc : n < c := by omega
      have sp := hs.1 n hnc
      have dl : lq S N bg en f (n + 1) = (lq S N bg en f n + nI (oW S (f n)).length) - (if oO S (f n) = true then nI (en n) - nI (bg n) + 1 else 0) := rfl
      have dn : nq S c f (n + 1) = (nq S c f n + nI (oF S (f n))) - (if oO S (f n) = true then 1 else 0) := rfl
      have dd : dq f (n + 1) = dq f n + (if oE (f n) = true then 1 else 0) := rfl
      refine ez_blk 3 rfl ?_
      show ez xs 177 21 [some (.ref 131), some (.int (nI (dq f n))), some (.int (lq S N bg en f n)), some (.int (nq S c f n)), some (.int (nI n)), o5, o6, o7, o8, o9] [.int (M 131 5), .int (nI n)] M Q
      rw [hF 131 5 (by omega), h5]
      refine ez_icmp_ge rfl (fun z => absurd z (nI_ge hnc (by omega))) (fun _ => ?_)
      show ez xs 177 24 [some (.ref 131), some (.int (nI (dq f n))), some (.int (lq S N bg en f n)), some (.int (nq S c f n)), some (.int (nI n)), o5, o6, o7, o8, o9] [] M Q
      refine ez_blk 3 rfl ?_
      show ez xs 177 30 [some (.ref 131), some (.int (nI (dq f n))), some (.int (lq S N bg en f n)), some (.int (nq S c f n)), some (.int (nI n)), o5, o6, o7, o8, o9] [.int (nI n), .ref 167] M Q
      refine ez_iald (n := 24) rfl (by decide) rfl (by omega) (by omega) ?_
      rw [hF 167 n (by omega)]
      refine ez_blk (pc' := 35) 2 rfl ?_
      show ez xs 177 35 [some (.ref 131), some (.int (nI (dq f n))), some (.int (lq S N bg en f n)), some (.int (nq S c f n)), some (.int (nI n)), some (.int (m 167 n)), o6, o7, o8, o9] [.int (m 167 n)] M Q
      cases w : f n with
      | none =>
        rw [(hL n hnc).1 w]
        refine ez_if_lt rfl (fun _ => ?_) (fun z => absurd (by decide) z)
        refine ez_blk (pc' := 15) 2 rfl ?_
        show ez xs 177 15 [some (.ref 131), some (.int (nI (dq f n))), some (.int (lq S N bg en f n)), some (.int (nq S c f n)), some (.int (nI n + 1)), some (.int (-1)), o6, o7, o8, o9] [] M Q
        rw [w] at dl dn dd
        have dl : lq S N bg en f (n + 1) = lq S N bg en f n := by
          rw [dl]
          show lq S N bg en f n + 0 - 0 = _
          rw [Int32.add_zero, Int32.sub_zero]
        have dn : nq S c f (n + 1) = nq S c f n := by
          rw [dn]
          show nq S c f n + 0 - 0 = _
          rw [Int32.add_zero, Int32.sub_zero]
        have dd : dq f (n + 1) = dq f n := dd
        have := ih (n + 1) M (some (.int (-1))) o6 o7 o8 o9 (by omega) hF
        rw [dl, dn, dd, ← nI_1] at this
        exact this
      | some e =>
        obtain ⟨⟨k1, k2⟩, k3, k4, k5⟩ := (hL n hnc).2 e w
        obtain ⟨b1, b2⟩ := hb n hnc
        rw [w] at dl dn dd
        obtain ⟨-, -, -, -, ⟨q, q1, -, q3, -⟩, -⟩ := id k5
        have eF : nI (oF S (some e)) = S 159 e.1 := by
          show nI (S 159 e.1).toNatClampNeg = _
          rw [q3, nI_clamp (by omega)]
        have eW2 : oW S (some e) = wW S (nI e.2) e.1 := rfl
        have eO : oO S (some e) = decide (¬ S 153 e.1 = 0) := rfl
        have dd : dq f (n + 1) = dq f n + 1 := dd
        rw [eW2, eO] at dl
        rw [eF, eO] at dn
        rw [k1]
        refine ez_if_lt rfl (fun z => absurd z (nI_pos (by omega))) (fun _ => ?_)
        show ez xs 177 38 [some (.ref 131), some (.int (nI (dq f n))), some (.int (lq S N bg en f n)), some (.int (nq S c f n)), some (.int (nI n)), some (.int (nI e.1)), o6, o7, o8, o9] [] M Q
        refine ez_blk 9 rfl ?_
        show ez xs 177 55 [some (.ref 131), some (.int (nI (dq f n) + 1)), some (.int (lq S N bg en f n)), some (.int (nq S c f n)), some (.int (nI n)), some (.int (nI e.1)), o6, o7, o8, o9] [.int (nI n), .ref 168, .int (nI e.1), .ref 169, .ref 131, .int (lq S N bg en f n)] M Q
        refine ez_iald (n := 24) rfl (by decide) rfl (by omega) (by omega) ?_
        rw [hF 168 n (by omega), k2]
        show ez xs 177 56 [some (.ref 131), some (.int (nI (dq f n) + 1)), some (.int (lq S N bg en f n)), some (.int (nq S c f n)), some (.int (nI n)), some (.int (nI e.1)), o6, o7, o8, o9] [.int (nI e.2), .int (nI e.1), .ref 169, .ref 131, .int (lq S N bg en f n)] M Q
        refine ez_call (as := [.ref 131, .ref 169, .int (nI e.1), .int (nI e.2)]) (rest := [.int (lq S N bg en f n)]) rfl (by decide) rfl ?_
        have sM : ∀ a j, sS a j → M a j = S a j := fun a j z => by
          have z2 : (36 ≤ a ∧ a ≤ 73) ∨ (149 ≤ a ∧ a ≤ 163) ∨ (a = 131 ∧ j = 21) := z
          rw [hF a j (by omega)]
          exact hS a j z
        refine h_M_write (Or.inl rfl) k3 k4 (rI_same k3 sM k5) (fun M2 _ F2 => ?_)
        rw [W_same (S := S) (fun a j z1 z2 => sM a j (Or.inr (Or.inl ⟨z1, z2⟩)))]
        have G2 : ∀ a k, a ≠ 169 → M2 a k = m a k := fun a k z => (F2 a k z).trans (hF a k z)
        refine ez_blk (pc' := 66) 4 rfl ?_
        show ez xs 177 66 [some (.ref 131), some (.int (nI (dq f n) + 1)), some (.int (lq S N bg en f n)), some (.int (nq S c f n)), some (.int (nI n)), some (.int (nI e.1)), o6, o7, o8, o9] [.int (nI e.1), .ref 153, .int (lq S N bg en f n + nI (wW S (nI e.2) e.1).length)] M2 Q
        refine ez_zald (n := 6) rfl (by decide) rfl k3 (by omega) ?_
        rw [G2 153 e.1 (by omega), s9 153 e.1 (by omega) (by omega)]
        show ez xs 177 67 [some (.ref 131), some (.int (nI (dq f n) + 1)), some (.int (lq S N bg en f n)), some (.int (nq S c f n)), some (.int (nI n)), some (.int (nI e.1)), o6, o7, o8, o9] [.int (S 153 e.1), .int (lq S N bg en f n + nI (wW S (nI e.2) e.1).length)] M2 Q
        have TWO : ∀ v, v = (if decide (¬ S 153 e.1 = 0) = true then nI (en n) - nI (bg n) + 1 else 0) → ez xs 177 91 [some (.ref 131), some (.int (nI (dq f n) + 1)), some (.int (lq S N bg en f n)), some (.int (nq S c f n)), some (.int (nI n)), some (.int (nI e.1)), o6, o7, o8, o9] [.int v, .int (lq S N bg en f n + nI (wW S (nI e.2) e.1).length)] M2 Q := fun v hv => by
          rw [← hv] at dl
          refine ez_blk 6 rfl ?_
          show ez xs 177 100 [some (.ref 131), some (.int (nI (dq f n) + 1)), some (.int (lq S N bg en f n + nI (wW S (nI e.2) e.1).length - v)), some (.int (nq S c f n)), some (.int (nI n)), some (.int (nI e.1)), o6, o7, o8, o9] [.int (nI e.1), .ref 159, .int (nq S c f n)] M2 Q
          rw [← dl]
          refine ez_iald (n := 6) rfl (by decide) rfl k3 (by omega) ?_
          rw [G2 159 e.1 (by omega), s9 159 e.1 (by omega) (by omega)]
          refine ez_blk (pc' := 108) 4 rfl ?_
          show ez xs 177 108 [some (.ref 131), some (.int (nI (dq f n) + 1)), some (.int (lq S N bg en f (n + 1))), some (.int (nq S c f n)), some (.int (nI n)), some (.int (nI e.1)), o6, o7, o8, o9] [.int (nI e.1), .ref 153, .int (nq S c f n + S 159 e.1)] M2 Q
          refine ez_zald (n := 6) rfl (by decide) rfl k3 (by omega) ?_
          rw [G2 153 e.1 (by omega), s9 153 e.1 (by omega) (by omega)]
          show ez xs 177 109 [some (.ref 131), some (.int (nI (dq f n) + 1)), some (.int (lq S N bg en f (n + 1))), some (.int (nq S c f n)), some (.int (nI n)), some (.int (nI e.1)), o6, o7, o8, o9] [.int (S 153 e.1), .int (nq S c f n + S 159 e.1)] M2 Q
          have THREE : ∀ u, u = (if decide (¬ S 153 e.1 = 0) = true then (1 : Int32) else 0) → ez xs 177 117 [some (.ref 131), some (.int (nI (dq f n) + 1)), some (.int (lq S N bg en f (n + 1))), some (.int (nq S c f n)), some (.int (nI n)), some (.int (nI e.1)), o6, o7, o8, o9] [.int u, .int (nq S c f n + S 159 e.1)] M2 Q := fun u hu => by
            rw [← hu] at dn
            refine ez_blk (pc' := 15) 4 rfl ?_
            show ez xs 177 15 [some (.ref 131), some (.int (nI (dq f n) + 1)), some (.int (lq S N bg en f (n + 1))), some (.int (nq S c f n + S 159 e.1 - u)), some (.int (nI n + 1)), some (.int (nI e.1)), o6, o7, o8, o9] [] M2 Q
            rw [← dn, nI_1, nI_1, ← dd]
            exact ih (n + 1) M2 _ _ _ _ _ (by omega) G2
          refine ez_if_eq rfl (fun z => ?_) (fun z => ?_)
          · refine ez_blk (pc' := 117) 1 rfl ?_
            exact THREE 0 (by rw [z]; rfl)
          · refine ez_blk (pc' := 117) 2 rfl ?_
            exact THREE 1 (by rw [decide_eq_true z]; rfl)
        refine ez_if_eq rfl (fun z => ?_) (fun z => ?_)
        · refine ez_blk (pc' := 91) 1 rfl ?_
          exact TWO 0 (by rw [z]; rfl)
        · show ez xs 177 70 [some (.ref 131), some (.int (nI (dq f n) + 1)), some (.int (lq S N bg en f n)), some (.int (nq S c f n)), some (.int (nI n)), some (.int (nI e.1)), o6, o7, o8, o9] [.int (lq S N bg en f n + nI (wW S (nI e.2) e.1).length)] M2 Q
          refine ez_blk 3 rfl ?_
          show ez xs 177 76 [some (.ref 131), some (.int (nI (dq f n) + 1)), some (.int (lq S N bg en f n)), some (.int (nq S c f n)), some (.int (nI n)), some (.int (nI e.1)), o6, o7, o8, o9] [.int (nI n), .ref 140, .int (lq S N bg en f n + nI (wW S (nI e.2) e.1).length)] M2 Q
          refine ez_iald (n := 24) rfl (by decide) rfl (by omega) (by omega) ?_
          rw [G2 140 n (by omega), b2]
          refine ez_blk (pc' := 83) 3 rfl ?_
          show ez xs 177 83 [some (.ref 131), some (.int (nI (dq f n) + 1)), some (.int (lq S N bg en f n)), some (.int (nq S c f n)), some (.int (nI n)), some (.int (nI e.1)), o6, o7, o8, o9] [.int (nI n), .ref 139, .int (nI (en n)), .int (lq S N bg en f n + nI (wW S (nI e.2) e.1).length)] M2 Q
          refine ez_iald (n := 24) rfl (by decide) rfl (by omega) (by omega) ?_
          rw [G2 139 n (by omega), b1]
          refine ez_blk (pc' := 91) 4 rfl ?_
          exact TWO (nI (en n) - nI (bg n) + 1) (by rw [decide_eq_true z]; rfl)
  exact loop c 0 m none none none none none (by omega) (fun _ _ _ => rfl)
def lI (o : Option Nat) : Int32 := match o with
  | none => -1
  | some n => nI n
theorem ed_in {xs : jx_Xs} {S m : zM} {Q : Option Value → zM → Prop} {N c : Nat} {bg en : Nat → Nat} {f : Nat → Option (Nat × Nat)} (hc : c ≤ 24) (hN : N ≤ 160) (hs : hsp N c bg en) (hS : ∀ a j, sS a j → m a j = S a j) (h0 : m 131 0 = nI N) (h5 : m 131 5 = nI c) (hb : ∀ n, n < c → m 139 n = nI (bg n) ∧ m 140 n = nI (en n)) (hL : ∀ n, n < c → (f n = none → m 167 n = -1) ∧ ∀ e, f n = some e → (m 167 n = nI e.1 ∧ m 168 n = nI e.2) ∧ e.1 < 6 ∧ e.2 < 64 ∧ rI S e.1) {mv lv nv p : Int32} {i : Nat} (hi : i < N)
    (g : ∀ o8 o9, ez xs 177 282 [some (.ref 131), some (.int mv), some (.int lv), some (.int nv), some (.int p), some (.int (nI i)), some (.int (bI (stN bg en (fun n => oE (f n)) (fun n => oO S (f n)) i c))), some (.int (lI (laN en (fun n => oE (f n)) i c))), o8, o9] [] m Q) (o6 o7 o8 o9 : Option Value) : ez xs 177 159 [some (.ref 131), some (.int mv), some (.int lv), some (.int nv), some (.int p), some (.int (nI i)), o6, o7, o8, o9] [] m Q := by
  have s9 : ∀ a j, 149 ≤ a → a ≤ 163 → m a j = S a j := fun a j q1 q2 => hS a j (Or.inr (Or.inl ⟨q1, q2⟩))
  refine ez_blk (pc' := 168) 6 rfl ?_
  have loop : ∀ (r n : Nat) (o9 : Option Value), n + r = c → ez xs 177 168 [some (.ref 131), some (.int mv), some (.int lv), some (.int nv), some (.int p), some (.int (nI i)), some (.int (bI (stN bg en (fun n => oE (f n)) (fun n => oO S (f n)) i n))), some (.int (lI (laN en (fun n => oE (f n)) i n))), some (.int (nI n)), o9] [] m Q := by
    intro r
    induction r with
    | zero =>
      intro n o9 hn
      refine ez_blk 3 rfl ?_
      show ez xs 177 174 [some (.ref 131), some (.int mv), some (.int lv), some (.int nv), some (.int p), some (.int (nI i)), some (.int (bI (stN bg en (fun n => oE (f n)) (fun n => oO S (f n)) i n))), some (.int (lI (laN en (fun n => oE (f n)) i n))), some (.int (nI n)), o9] [.int (m 131 5), .int (nI n)] m Q
      rw [h5]
      refine ez_icmp_ge rfl (fun _ => ?_) (fun z => absurd (nI_le (by omega) (by omega)) z)
      have := g (some (.int (nI n))) o9
      rw [show c = n by omega] at this
      exact this
    | succ r ih =>
      intro n o9 hn
      have hnc : n < c := by omega
      have sp := hs.1 n hnc
      obtain ⟨b1, b2⟩ := hb n hnc
      have ds : stN bg en (fun n => oE (f n)) (fun n => oO S (f n)) i (n + 1) = (stN bg en (fun n => oE (f n)) (fun n => oO S (f n)) i n && !(oE (f n) && oO S (f n) && decide (bg n ≤ i) && decide (i ≤ en n))) := rfl
      have da : laN en (fun n => oE (f n)) i (n + 1) = if (oE (f n) && decide (i = en n)) = true then some n else laN en (fun n => oE (f n)) i n := rfl
      have ih := fun o9 => ih (n + 1) o9 (by omega)
      rw [ds, da, ← nI_1] at ih
      generalize stN bg en (fun n => oE (f n)) (fun n => oO S (f n)) i n = sb at ih ⊢
      generalize laN en (fun n => oE (f n)) i n = lo at ih ⊢
      have e1 : nI i < nI (bg n) ↔ i < bg n := nI_ltI (by omega) (by omega)
      have e2 : nI i ≤ nI (en n) ↔ i ≤ en n := nI_leI (by omega) (by omega)
      have e3 : nI i = nI (en n) ↔ i = en n := nI_eq (by omega) (by omega)
      refine ez_blk 3 rfl ?_
      show ez xs 177 174 [some (.ref 131), some (.int mv), some (.int lv), some (.int nv), some (.int p), some (.int (nI i)), some (.int (bI sb)), some (.int (lI lo)), some (.int (nI n)), o9] [.int (m 131 5), .int (nI n)] m Q
      rw [h5]
      refine ez_icmp_ge rfl (fun z => absurd z (nI_ge hnc (by omega))) (fun _ => ?_)
      show ez xs 177 177 [some (.ref 131), some (.int mv), some (.int lv), some (.int nv), some (.int p), some (.int (nI i)), some (.int (bI sb)), some (.int (lI lo)), some (.int (nI n)), o9] [] m Q
      refine ez_blk 3 rfl ?_
      show ez xs 177 183 [some (.ref 131), some (.int mv), some (.int lv), some (.int nv), some (.int p), some (.int (nI i)), some (.int (bI sb)), some (.int (lI lo)), some (.int (nI n)), o9] [.int (nI n), .ref 167] m Q
      refine ez_iald (n := 24) rfl (by decide) rfl (by omega) (by omega) ?_
      show ez xs 177 184 [some (.ref 131), some (.int mv), some (.int lv), some (.int nv), some (.int p), some (.int (nI i)), some (.int (bI sb)), some (.int (lI lo)), some (.int (nI n)), o9] [.int (m 167 n)] m Q
      have LAST : ∀ (sb' : Bool), sb' = (sb && !(oE (f n) && oO S (f n) && decide (bg n ≤ i) && decide (i ≤ en n))) → ez xs 177 250 [some (.ref 131), some (.int mv), some (.int lv), some (.int nv), some (.int p), some (.int (nI i)), some (.int (bI sb')), some (.int (lI lo)), some (.int (nI n)), some (.int (bI (oE (f n))))] [] m Q := fun sb' hsb => by
        rw [← hsb] at ih
        refine ez_blk 1 rfl ?_
        show ez xs 177 252 [some (.ref 131), some (.int mv), some (.int lv), some (.int nv), some (.int p), some (.int (nI i)), some (.int (bI sb')), some (.int (lI lo)), some (.int (nI n)), some (.int (bI (oE (f n))))] [.int (bI (oE (f n)))] m Q
        have NOT : ¬ (oE (f n) && decide (i = en n)) = true → ez xs 177 272 [some (.ref 131), some (.int mv), some (.int lv), some (.int nv), some (.int p), some (.int (nI i)), some (.int (bI sb')), some (.int (lI lo)), some (.int (nI n)), some (.int (bI (oE (f n))))] [] m Q := fun z => by
          rw [if_neg z] at ih
          refine ez_blk (pc' := 168) 4 rfl ?_
          exact ih _
        refine ez_if_eq rfl (fun z => NOT (by rw [bI_0.mp z, Bool.false_and]; decide)) (fun z => ?_)
        have z := bI_t.mp z
        show ez xs 177 255 [some (.ref 131), some (.int mv), some (.int lv), some (.int nv), some (.int p), some (.int (nI i)), some (.int (bI sb')), some (.int (lI lo)), some (.int (nI n)), some (.int (bI (oE (f n))))] [] m Q
        refine ez_blk 4 rfl ?_
        show ez xs 177 263 [some (.ref 131), some (.int mv), some (.int lv), some (.int nv), some (.int p), some (.int (nI i)), some (.int (bI sb')), some (.int (lI lo)), some (.int (nI n)), some (.int (bI (oE (f n))))] [.int (nI n), .ref 140, .int (nI i)] m Q
        refine ez_iald (n := 24) rfl (by decide) rfl (by omega) (by omega) ?_
        rw [b2]
        show ez xs 177 264 [some (.ref 131), some (.int mv), some (.int lv), some (.int nv), some (.int p), some (.int (nI i)), some (.int (bI sb')), some (.int (lI lo)), some (.int (nI n)), some (.int (bI (oE (f n))))] [.int (nI (en n)), .int (nI i)] m Q
        refine ez_icmp_ne rfl (fun z2 => NOT (by rw [Bool.and_eq_true, decide_eq_true_iff]; exact fun q => z2 (e3.mpr q.2))) (fun z2 => ?_)
        rw [if_pos (by rw [Bool.and_eq_true, decide_eq_true_iff]; exact ⟨z, e3.mp z2⟩)] at ih
        refine ez_blk (pc' := 168) 5 rfl ?_
        exact ih _
      have STAY : (sb && !(oE (f n) && oO S (f n) && decide (bg n ≤ i) && decide (i ≤ en n))) = true → ez xs 177 243 [some (.ref 131), some (.int mv), some (.int lv), some (.int nv), some (.int p), some (.int (nI i)), some (.int (bI sb)), some (.int (lI lo)), some (.int (nI n)), some (.int (bI (oE (f n))))] [] m Q := fun q => by
        refine ez_blk (pc' := 250) 3 rfl ?_
        exact LAST true q.symm
      have GOES : (sb && !(oE (f n) && oO S (f n) && decide (bg n ≤ i) && decide (i ≤ en n))) = false → ez xs 177 247 [some (.ref 131), some (.int mv), some (.int lv), some (.int nv), some (.int p), some (.int (nI i)), some (.int (bI sb)), some (.int (lI lo)), some (.int (nI n)), some (.int (bI (oE (f n))))] [] m Q := fun q => by
        refine ez_blk (pc' := 250) 2 rfl ?_
        exact LAST false q.symm
      have MID : ez xs 177 194 [some (.ref 131), some (.int mv), some (.int lv), some (.int nv), some (.int p), some (.int (nI i)), some (.int (bI sb)), some (.int (lI lo)), some (.int (nI n)), some (.int (bI (oE (f n))))] [] m Q := by
        refine ez_blk 1 rfl ?_
        show ez xs 177 196 [some (.ref 131), some (.int mv), some (.int lv), some (.int nv), some (.int p), some (.int (nI i)), some (.int (bI sb)), some (.int (lI lo)), some (.int (nI n)), some (.int (bI (oE (f n))))] [.int (bI sb)] m Q
        refine ez_if_eq rfl (fun z => GOES (by rw [bI_0.mp z]; rfl)) (fun z => ?_)
        have z := bI_t.mp z
        show ez xs 177 199 [some (.ref 131), some (.int mv), some (.int lv), some (.int nv), some (.int p), some (.int (nI i)), some (.int (bI sb)), some (.int (lI lo)), some (.int (nI n)), some (.int (bI (oE (f n))))] [] m Q
        refine ez_blk 1 rfl ?_
        show ez xs 177 201 [some (.ref 131), some (.int mv), some (.int lv), some (.int nv), some (.int p), some (.int (nI i)), some (.int (bI sb)), some (.int (lI lo)), some (.int (nI n)), some (.int (bI (oE (f n))))] [.int (bI (oE (f n)))] m Q
        refine ez_if_eq rfl (fun z2 => STAY (by rw [z, bI_0.mp z2]; rfl)) (fun z2 => ?_)
        have z2 := bI_t.mp z2
        show ez xs 177 204 [some (.ref 131), some (.int mv), some (.int lv), some (.int nv), some (.int p), some (.int (nI i)), some (.int (bI sb)), some (.int (lI lo)), some (.int (nI n)), some (.int (bI (oE (f n))))] [] m Q
        refine ez_blk 5 rfl ?_
        show ez xs 177 214 [some (.ref 131), some (.int mv), some (.int lv), some (.int nv), some (.int p), some (.int (nI i)), some (.int (bI sb)), some (.int (lI lo)), some (.int (nI n)), some (.int (bI (oE (f n))))] [.int (nI n), .ref 167, .ref 153] m Q
        refine ez_iald (n := 24) rfl (by decide) rfl (by omega) (by omega) ?_
        obtain ⟨e, w⟩ := Option.isSome_iff_exists.mp z2
        · obtain ⟨⟨k1, k2⟩, k3, k4, k5⟩ := (hL n hnc).2 e w
          rw [k1]
          show ez xs 177 215 [some (.ref 131), some (.int mv), some (.int lv), some (.int nv), some (.int p), some (.int (nI i)), some (.int (bI sb)), some (.int (lI lo)), some (.int (nI n)), some (.int (bI (oE (f n))))] [.int (nI e.1), .ref 153] m Q
          refine ez_zald (n := 6) rfl (by decide) rfl k3 (by omega) ?_
          rw [s9 153 e.1 (by omega) (by omega)]
          show ez xs 177 216 [some (.ref 131), some (.int mv), some (.int lv), some (.int nv), some (.int p), some (.int (nI i)), some (.int (bI sb)), some (.int (lI lo)), some (.int (nI n)), some (.int (bI (oE (f n))))] [.int (S 153 e.1)] m Q
          have eO : oO S (f n) = decide (¬ S 153 e.1 = 0) := by rw [w]; rfl
          refine ez_if_eq rfl (fun z3 => STAY (by rw [z, z2, eO, z3]; rfl)) (fun z3 => ?_)
          show ez xs 177 219 [some (.ref 131), some (.int mv), some (.int lv), some (.int nv), some (.int p), some (.int (nI i)), some (.int (bI sb)), some (.int (lI lo)), some (.int (nI n)), some (.int (bI (oE (f n))))] [] m Q
          refine ez_blk 4 rfl ?_
          show ez xs 177 227 [some (.ref 131), some (.int mv), some (.int lv), some (.int nv), some (.int p), some (.int (nI i)), some (.int (bI sb)), some (.int (lI lo)), some (.int (nI n)), some (.int (bI (oE (f n))))] [.int (nI n), .ref 139, .int (nI i)] m Q
          refine ez_iald (n := 24) rfl (by decide) rfl (by omega) (by omega) ?_
          rw [b1]
          show ez xs 177 228 [some (.ref 131), some (.int mv), some (.int lv), some (.int nv), some (.int p), some (.int (nI i)), some (.int (bI sb)), some (.int (lI lo)), some (.int (nI n)), some (.int (bI (oE (f n))))] [.int (nI (bg n)), .int (nI i)] m Q
          refine ez_icmp_lt rfl (fun z4 => STAY (by rw [z, z2, eO, decide_eq_true z3, decide_eq_false (show ¬ bg n ≤ i by have := e1.mp z4; omega)]; rfl)) (fun z4 => ?_)
          have z4 : bg n ≤ i := by
            by_cases q : bg n ≤ i
            · exact q
            · exact absurd (e1.mpr (by omega)) z4
          show ez xs 177 231 [some (.ref 131), some (.int mv), some (.int lv), some (.int nv), some (.int p), some (.int (nI i)), some (.int (bI sb)), some (.int (lI lo)), some (.int (nI n)), some (.int (bI (oE (f n))))] [] m Q
          refine ez_blk 4 rfl ?_
          show ez xs 177 239 [some (.ref 131), some (.int mv), some (.int lv), some (.int nv), some (.int p), some (.int (nI i)), some (.int (bI sb)), some (.int (lI lo)), some (.int (nI n)), some (.int (bI (oE (f n))))] [.int (nI n), .ref 140, .int (nI i)] m Q
          refine ez_iald (n := 24) rfl (by decide) rfl (by omega) (by omega) ?_
          rw [b2]
          show ez xs 177 240 [some (.ref 131), some (.int mv), some (.int lv), some (.int nv), some (.int p), some (.int (nI i)), some (.int (bI sb)), some (.int (lI lo)), some (.int (nI n)), some (.int (bI (oE (f n))))] [.int (nI (en n)), .int (nI i)] m Q
          exact ez_icmp_le rfl (fun z5 => GOES (by rw [z, z2, eO, decide_eq_true z3, decide_eq_true z4, decide_eq_true (e2.mp z5)]; rfl)) (fun z5 => STAY (by rw [z, z2, eO, decide_eq_true z3, decide_eq_true z4, decide_eq_false (show ¬ i ≤ en n from fun q => z5 (e2.mpr q))]; rfl))
      cases w : f n with
      | none =>
        rw [(hL n hnc).1 w]
        refine ez_if_lt rfl (fun _ => ?_) (fun z => absurd (by decide) z)
        refine ez_blk (pc' := 194) 2 rfl ?_
        rw [w] at MID
        exact MID
      | some e =>
        rw [((hL n hnc).2 e w).1.1]
        have := ((hL n hnc).2 e w).2.1
        refine ez_if_lt rfl (fun z => absurd z (nI_pos (by omega))) (fun _ => ?_)
        refine ez_blk (pc' := 194) 3 rfl ?_
        rw [w] at MID
        exact MID
  exact loop c 0 o9 (by omega)
