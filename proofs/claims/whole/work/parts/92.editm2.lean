/-! The reference's editing, whole. -/
theorem laN_lt {en : Nat → Nat} {ed : Nat → Bool} {i n : Nat} : ∀ {k : Nat}, laN en ed i k = some n → n < k ∧ ed n = true := by
  intro k
  induction k with
  | zero => intro h; cases h
  | succ k ih =>
    intro h
    rw [laN] at h
    split at h
    · rename_i z
      cases h
      rw [Bool.and_eq_true] at z
      exact ⟨Nat.lt_succ_self _, z.1⟩
    · have := ih h
      exact ⟨by omega, this.2⟩
theorem sW_le {ed : Nat → Bool} {wd : Nat → List Int32} (h : ∀ n, (wd n).length ≤ 10) : ∀ n, sW ed wd n ≤ 10 * n := by
  intro n
  induction n with
  | zero => exact Nat.le_refl 0
  | succ n ih =>
    rw [sW]
    have := h n
    split <;> omega
theorem h_M_edit {xs : jx_Xs} {S m : zM} {Q : Option Value → zM → Prop} {N c : Nat} {bg en : Nat → Nat} {f : Nat → Option (Nat × Nat)} (hc : c ≤ 24) (hN : N ≤ 160) (hs : hsp N c bg en) (hS : ∀ a j, sS a j → m a j = S a j) (h0 : m 131 0 = nI N) (h5 : m 131 5 = nI c) (hb : ∀ n, n < c → m 139 n = nI (bg n) ∧ m 140 n = nI (en n)) (hL : ∀ n, n < c → (f n = none → m 167 n = -1) ∧ ∀ e, f n = some e → (m 167 n = nI e.1 ∧ m 168 n = nI e.2) ∧ e.1 < 6 ∧ e.2 < 64 ∧ rI S e.1) {tx : Nat → Int32} (h132 : ∀ i, i < N → m 132 i = tx i) (hw : ∀ n, (oW S (f n)).length ≤ 10)
    (g4 : ¬ lq S N bg en f c ≤ 160 → ∀ M, (∀ a k, a ≠ 169 → M a k = m a k) → Q (some (.int (-4))) M)
    (g5 : lq S N bg en f c ≤ 160 → ¬ nq S c f c ≤ 24 → ∀ M, (∀ a k, a ≠ 169 → M a k = m a k) → Q (some (.int (-5))) M)
    (gO : lq S N bg en f c ≤ 160 → nq S c f c ≤ 24 → ∀ M, M 131 0 = nI (Rf N tx c bg en (fun n => oE (f n)) (fun n => oO S (f n)) (fun n => oW S (f n))).length → li M 132 (Rf N tx c bg en (fun n => oE (f n)) (fun n => oO S (f n)) (fun n => oW S (f n))) → (∀ a k, ¬ (a = 131 ∧ k = 0) → a ≠ 132 → a ≠ 169 → a ≠ 171 → M a k = m a k) → Q (some (.int (nI (dq f c)))) M) : ez xs 177 0 (jx_ent 177 [.ref 131]) [] m Q := by
  refine ed_meas hc hN hs hS h0 h5 hb hL (fun M0 o5 o6 o7 o8 o9 F0 => ?_)
  refine ez_blk 2 rfl ?_
  show ez xs 177 129 [some (.ref 131), some (.int (nI (dq f c))), some (.int (lq S N bg en f c)), some (.int (nq S c f c)), some (.int (nI c)), o5, o6, o7, o8, o9] [.int 160, .int (lq S N bg en f c)] M0 Q
  refine ez_icmp_le rfl (fun k4 => ?_) (fun k4 => ?_)
  case refine_2 =>
    show ez xs 177 132 [some (.ref 131), some (.int (nI (dq f c))), some (.int (lq S N bg en f c)), some (.int (nq S c f c)), some (.int (nI c)), o5, o6, o7, o8, o9] [] M0 Q
    refine ez_blk 1 rfl ?_
    exact ez_ret (y := 177) rfl (by decide) rfl (g4 k4 M0 F0)
  show ez xs 177 135 [some (.ref 131), some (.int (nI (dq f c))), some (.int (lq S N bg en f c)), some (.int (nq S c f c)), some (.int (nI c)), o5, o6, o7, o8, o9] [] M0 Q
  refine ez_blk 2 rfl ?_
  show ez xs 177 138 [some (.ref 131), some (.int (nI (dq f c))), some (.int (lq S N bg en f c)), some (.int (nq S c f c)), some (.int (nI c)), o5, o6, o7, o8, o9] [.int 24, .int (nq S c f c)] M0 Q
  refine ez_icmp_le rfl (fun k5 => ?_) (fun k5 => ?_)
  case refine_2 =>
    show ez xs 177 141 [some (.ref 131), some (.int (nI (dq f c))), some (.int (lq S N bg en f c)), some (.int (nq S c f c)), some (.int (nI c)), o5, o6, o7, o8, o9] [] M0 Q
    refine ez_blk 1 rfl ?_
    exact ez_ret (y := 177) rfl (by decide) rfl (g5 k4 k5 M0 F0)
  have gO := gO k4 k5
  have lR := Rf_len (tx := tx) (ed := fun n => oE (f n)) (ou := fun n => oO S (f n)) (wd := fun n => oW S (f n)) hs
  have lW := sW_le (ed := fun n => oE (f n)) (wd := fun n => oW S (f n)) hw c
  have l160 : (Rf N tx c bg en (fun n => oE (f n)) (fun n => oO S (f n)) (fun n => oW S (f n))).length ≤ 160 := by
    rw [lq_len (tx := tx) hs] at k4
    exact (nI_leI (b := 160) (by omega) (by omega)).mp k4
  have eRm := Rm_N (tx := tx) (ed := fun n => oE (f n)) (ou := fun n => oO S (f n)) (wd := fun n => oW S (f n)) hs
  rw [← eRm] at gO l160
  have mono : ∀ i, i ≤ N → (Rm tx c bg en (fun n => oE (f n)) (fun n => oO S (f n)) (fun n => oW S (f n)) i).length ≤ 160 := fun i hi => by
    have q := Rm_mono (tx := tx) (c := c) (bg := bg) (en := en) (ed := fun n => oE (f n)) (ou := fun n => oO S (f n)) (wd := fun n => oW S (f n)) (N - i) i
    rw [show i + (N - i) = N by omega] at q
    omega
  generalize lq S N bg en f c = lv
  generalize nq S c f c = nv
  have FILL : ∀ (r i : Nat) (M : zM) (o6 o7 o8 o9 : Option Value), i + r = (Rm tx c bg en (fun n => oE (f n)) (fun n => oO S (f n)) (fun n => oW S (f n)) N).length → (∀ a k, a ≠ 132 → a ≠ 169 → a ≠ 171 → M a k = m a k) → li M 171 (Rm tx c bg en (fun n => oE (f n)) (fun n => oO S (f n)) (fun n => oW S (f n)) N) → (∀ j v, j < i → (Rm tx c bg en (fun n => oE (f n)) (fun n => oO S (f n)) (fun n => oW S (f n)) N)[j]? = some v → M 132 j = v) → ez xs 177 379 [some (.ref 131), some (.int (nI (dq f c))), some (.int lv), some (.int nv), some (.int (nI (Rm tx c bg en (fun n => oE (f n)) (fun n => oO S (f n)) (fun n => oW S (f n)) N).length)), some (.int (nI i)), o6, o7, o8, o9] [] M Q := by
    intro r
    induction r with
    | zero =>
      intro i M o6 o7 o8 o9 hi hF hM h1
      refine ez_blk 2 rfl ?_
      show ez xs 177 383 [some (.ref 131), some (.int (nI (dq f c))), some (.int lv), some (.int nv), some (.int (nI (Rm tx c bg en (fun n => oE (f n)) (fun n => oO S (f n)) (fun n => oW S (f n)) N).length)), some (.int (nI i)), o6, o7, o8, o9] [.int (nI (Rm tx c bg en (fun n => oE (f n)) (fun n => oO S (f n)) (fun n => oW S (f n)) N).length), .int (nI i)] M Q
      refine ez_icmp_ge rfl (fun _ => ?_) (fun z => absurd (nI_le (by omega) (by omega)) z)
      refine ez_blk (pc' := 413) 4 rfl ?_
      refine ez_ret (y := 177) (m := jj_up M 131 0 (nI (Rm tx c bg en (fun n => oE (f n)) (fun n => oO S (f n)) (fun n => oW S (f n)) N).length)) rfl (by decide) rfl (gO _ up_eq (fun j v hv => ?_) (fun a k q1 q2 q3 q4 => by rw [up_ne2 q1]; exact hF a k q2 q3 q4))
      rw [up_ne (by omega)]
      have hj := (List.getElem?_eq_some_iff.mp hv).1
      exact h1 j v (by omega) hv
    | succ r ih =>
      intro i M o6 o7 o8 o9 hi hF hM h1
      refine ez_blk 2 rfl ?_
      show ez xs 177 383 [some (.ref 131), some (.int (nI (dq f c))), some (.int lv), some (.int nv), some (.int (nI (Rm tx c bg en (fun n => oE (f n)) (fun n => oO S (f n)) (fun n => oW S (f n)) N).length)), some (.int (nI i)), o6, o7, o8, o9] [.int (nI (Rm tx c bg en (fun n => oE (f n)) (fun n => oO S (f n)) (fun n => oW S (f n)) N).length), .int (nI i)] M Q
      refine ez_icmp_ge rfl (fun z => absurd z (nI_ge (by omega) (by omega))) (fun _ => ?_)
      show ez xs 177 386 [some (.ref 131), some (.int (nI (dq f c))), some (.int lv), some (.int nv), some (.int (nI (Rm tx c bg en (fun n => oE (f n)) (fun n => oO S (f n)) (fun n => oW S (f n)) N).length)), some (.int (nI i)), o6, o7, o8, o9] [] M Q
      refine ez_blk 6 rfl ?_
      show ez xs 177 398 [some (.ref 131), some (.int (nI (dq f c))), some (.int lv), some (.int nv), some (.int (nI (Rm tx c bg en (fun n => oE (f n)) (fun n => oO S (f n)) (fun n => oW S (f n)) N).length)), some (.int (nI i)), o6, o7, o8, o9] [.int (nI i), .ref 171, .int (nI i), .ref 132] M Q
      refine ez_iald (n := 160) rfl (by decide) rfl (by omega) (by omega) ?_
      refine ez_iast (n := 160) rfl (by decide) rfl (by omega) (by omega) ?_
      refine ez_blk (pc' := 379) 2 rfl ?_
      show ez xs 177 379 [some (.ref 131), some (.int (nI (dq f c))), some (.int lv), some (.int nv), some (.int (nI (Rm tx c bg en (fun n => oE (f n)) (fun n => oO S (f n)) (fun n => oW S (f n)) N).length)), some (.int (nI i + 1)), o6, o7, o8, o9] [] (jj_up M 132 i (M 171 i)) Q
      rw [nI_1]
      refine ih (i + 1) _ _ _ _ _ (by omega) (fun a k q1 q2 q3 => by rw [up_ne q1]; exact hF a k q1 q2 q3) (fun j v hv => by rw [up_ne (by omega)]; exact hM j v hv) (fun j v hj hv => ?_)
      by_cases e : j = i
      · rw [e, up_eq]
        rw [e] at hv
        exact hM i v hv
      · rw [up_k e]; exact h1 j v (by omega) hv
  have LAY : ∀ (r i : Nat) (M : zM) (o6 o7 o8 o9 : Option Value), i + r = N → (∀ a k, a ≠ 169 → a ≠ 171 → M a k = m a k) → li M 171 (Rm tx c bg en (fun n => oE (f n)) (fun n => oO S (f n)) (fun n => oW S (f n)) i) → ez xs 177 150 [some (.ref 131), some (.int (nI (dq f c))), some (.int lv), some (.int nv), some (.int (nI (Rm tx c bg en (fun n => oE (f n)) (fun n => oO S (f n)) (fun n => oW S (f n)) i).length)), some (.int (nI i)), o6, o7, o8, o9] [] M Q := by
    intro r
    induction r with
    | zero =>
      intro i M o6 o7 o8 o9 hi hF hM
      refine ez_blk 3 rfl ?_
      show ez xs 177 156 [some (.ref 131), some (.int (nI (dq f c))), some (.int lv), some (.int nv), some (.int (nI (Rm tx c bg en (fun n => oE (f n)) (fun n => oO S (f n)) (fun n => oW S (f n)) i).length)), some (.int (nI i)), o6, o7, o8, o9] [.int (M 131 0), .int (nI i)] M Q
      rw [hF 131 0 (by omega) (by omega), h0]
      refine ez_icmp_ge rfl (fun _ => ?_) (fun z => absurd (nI_le (by omega) (by omega)) z)
      rw [show i = N by omega] at hM ⊢
      refine ez_blk (pc' := 379) 2 rfl ?_
      exact FILL (Rm tx c bg en (fun n => oE (f n)) (fun n => oO S (f n)) (fun n => oW S (f n)) N).length 0 M _ _ _ _ (Nat.zero_add _) (fun a k _ q2 q3 => hF a k q2 q3) hM (fun j v hj => absurd hj (Nat.not_lt_zero j))
    | succ r ih =>
      intro i M o6 o7 o8 o9 hi hF hM
      have hiN : i < N := by omega
      have m1 := mono (i + 1) (by omega)
      refine ez_blk 3 rfl ?_
      show ez xs 177 156 [some (.ref 131), some (.int (nI (dq f c))), some (.int lv), some (.int nv), some (.int (nI (Rm tx c bg en (fun n => oE (f n)) (fun n => oO S (f n)) (fun n => oW S (f n)) i).length)), some (.int (nI i)), o6, o7, o8, o9] [.int (M 131 0), .int (nI i)] M Q
      rw [hF 131 0 (by omega) (by omega), h0]
      refine ez_icmp_ge rfl (fun z => absurd z (nI_ge hiN (by omega))) (fun _ => ?_)
      have sM : ∀ a j, sS a j → M a j = S a j := fun a j z => by
        have z2 : (36 ≤ a ∧ a ≤ 73) ∨ (149 ≤ a ∧ a ≤ 163) ∨ (a = 131 ∧ j = 21) := z
        rw [hF a j (by omega) (by omega)]
        exact hS a j z
      refine ed_in (m := M) hc hN hs sM (by rw [hF 131 0 (by omega) (by omega), h0]) (by rw [hF 131 5 (by omega) (by omega), h5]) (fun n hn => by rw [hF 139 n (by omega) (by omega), hF 140 n (by omega) (by omega)]; exact hb n hn) (fun n hn => by rw [hF 167 n (by omega) (by omega), hF 168 n (by omega) (by omega)]; exact hL n hn) hiN (fun p8 p9 => ?_) o6 o7 o8 o9
      have eR : Rm tx c bg en (fun n => oE (f n)) (fun n => oO S (f n)) (fun n => oW S (f n)) (i + 1) = (Rm tx c bg en (fun n => oE (f n)) (fun n => oO S (f n)) (fun n => oW S (f n)) i) ++ (if stN bg en (fun n => oE (f n)) (fun n => oO S (f n)) i c = true then [tx i] else []) ++ wA (fun n => oW S (f n)) (laN en (fun n => oE (f n)) i c) := rfl
      have la := fun n h => laN_lt (en := en) (ed := fun n => oE (f n)) (i := i) (n := n) (k := c) h
      generalize stN bg en (fun n => oE (f n)) (fun n => oO S (f n)) i c = sb at eR ⊢
      generalize laN en (fun n => oE (f n)) i c = lo at eR la ⊢
      rw [eR, List.length_append, List.length_append] at m1
      have ih := fun M2 a6 a7 a8 a9 => ih (i + 1) M2 a6 a7 a8 a9 (by omega)
      rw [eR, ← nI_1] at ih
      generalize (Rm tx c bg en (fun n => oE (f n)) (fun n => oO S (f n)) (fun n => oW S (f n)) i) = R0 at hM m1 ih ⊢
      have INS : ∀ (M2 : zM) (R1 : List Int32) (o8 o9 : Option Value), R1 = R0 ++ (if sb = true then [tx i] else []) → (∀ a k, a ≠ 169 → a ≠ 171 → M2 a k = m a k) → li M2 171 R1 → ez xs 177 304 [some (.ref 131), some (.int (nI (dq f c))), some (.int lv), some (.int nv), some (.int (nI R1.length)), some (.int (nI i)), some (.int (bI sb)), some (.int (lI lo)), o8, o9] [] M2 Q := fun M2 R1 o8 o9 hR1 F2 hM2 => by
        rw [← hR1] at ih
        have m2 : R1.length + (wA (fun n => oW S (f n)) lo).length ≤ 160 := by rw [hR1, List.length_append]; exact m1
        have COPY : ∀ (w : List Int32) (M3 : zM), w = wA (fun n => oW S (f n)) lo → (∀ j, j < 10 → M3 169 j = w.getD j 0) → w.length ≤ 10 → (∀ a k, a ≠ 169 → a ≠ 171 → M3 a k = m a k) → li M3 171 R1 → ez xs 177 340 [some (.ref 131), some (.int (nI (dq f c))), some (.int lv), some (.int nv), some (.int (nI R1.length)), some (.int (nI i)), some (.int (bI sb)), some (.int (lI lo)), some (.int (nI w.length)), some (.int (nI 0))] [] M3 Q := fun w M3 hw3 p3 wl F3 h3 => by
          rw [← hw3] at m2 ih
          have loop : ∀ (q j : Nat) (M4 : zM), j + q = w.length → (∀ a k, a ≠ 171 → M4 a k = M3 a k) → li M4 171 (R1 ++ w.take j) → ez xs 177 340 [some (.ref 131), some (.int (nI (dq f c))), some (.int lv), some (.int nv), some (.int (nI (R1.length + j))), some (.int (nI i)), some (.int (bI sb)), some (.int (lI lo)), some (.int (nI w.length)), some (.int (nI j))] [] M4 Q := by
            intro q
            induction q with
            | zero =>
              intro j M4 hj F4 h4
              refine ez_blk 2 rfl ?_
              show ez xs 177 344 [some (.ref 131), some (.int (nI (dq f c))), some (.int lv), some (.int nv), some (.int (nI (R1.length + j))), some (.int (nI i)), some (.int (bI sb)), some (.int (lI lo)), some (.int (nI w.length)), some (.int (nI j))] [.int (nI w.length), .int (nI j)] M4 Q
              refine ez_icmp_ge rfl (fun _ => ?_) (fun z => absurd (nI_le (by omega) (by omega)) z)
              rw [show j = w.length by omega, List.take_length] at h4
              refine ez_blk (pc' := 150) 2 rfl ?_
              have := ih M4 (some (.int (bI sb))) (some (.int (lI lo))) (some (.int (nI w.length))) (some (.int (nI j))) (fun a k q1 q2 => by rw [F4 a k q2]; exact F3 a k q1 q2) h4
              rw [List.length_append] at this
              rw [show j = w.length by omega] at this ⊢
              exact this
            | succ q ihq =>
              intro j M4 hj F4 h4
              refine ez_blk 2 rfl ?_
              show ez xs 177 344 [some (.ref 131), some (.int (nI (dq f c))), some (.int lv), some (.int nv), some (.int (nI (R1.length + j))), some (.int (nI i)), some (.int (bI sb)), some (.int (lI lo)), some (.int (nI w.length)), some (.int (nI j))] [.int (nI w.length), .int (nI j)] M4 Q
              refine ez_icmp_ge rfl (fun z => absurd z (nI_ge (by omega) (by omega))) (fun _ => ?_)
              show ez xs 177 347 [some (.ref 131), some (.int (nI (dq f c))), some (.int lv), some (.int nv), some (.int (nI (R1.length + j))), some (.int (nI i)), some (.int (bI sb)), some (.int (lI lo)), some (.int (nI w.length)), some (.int (nI j))] [] M4 Q
              refine ez_blk 6 rfl ?_
              show ez xs 177 359 [some (.ref 131), some (.int (nI (dq f c))), some (.int lv), some (.int nv), some (.int (nI (R1.length + j))), some (.int (nI i)), some (.int (bI sb)), some (.int (lI lo)), some (.int (nI w.length)), some (.int (nI j))] [.int (nI j), .ref 169, .int (nI (R1.length + j)), .ref 171] M4 Q
              refine ez_iald (n := 10) rfl (by decide) rfl (by omega) (by omega) ?_
              rw [F4 169 j (by omega), p3 j (by omega)]
              refine ez_iast (n := 160) rfl (by decide) rfl (by omega) (by omega) ?_
              refine ez_blk (pc' := 340) 3 rfl ?_
              show ez xs 177 340 [some (.ref 131), some (.int (nI (dq f c))), some (.int lv), some (.int nv), some (.int (nI (R1.length + j) + 1)), some (.int (nI i)), some (.int (bI sb)), some (.int (lI lo)), some (.int (nI w.length)), some (.int (nI j + 1))] [] (jj_up M4 171 (R1.length + j) (w.getD j 0)) Q
              rw [nI_1, nI_1, Nat.add_assoc]
              refine ihq (j + 1) _ (by omega) (fun a k z => by rw [up_ne z]; exact F4 a k z) ?_
              have wj : w[j]? = some (w[j]'(by omega)) := List.getElem?_eq_getElem (by omega)
              have gd : w.getD j 0 = w[j]'(by omega) := by rw [List.getD_eq_getElem?_getD, wj]; rfl
              have ln : (R1 ++ w.take j).length = R1.length + j := by rw [List.length_append, List.length_take]; omega
              rw [List.take_succ, wj, ← List.append_assoc, ← ln]
              exact li_snoc h4 (by rw [up_eq, gd]) (fun t htt => up_k (by omega))
          refine loop w.length 0 M3 (by omega) (fun _ _ _ => rfl) ?_
          rw [List.take_zero, List.append_nil]
          exact h3
        refine ez_blk 1 rfl ?_
        show ez xs 177 306 [some (.ref 131), some (.int (nI (dq f c))), some (.int lv), some (.int nv), some (.int (nI R1.length)), some (.int (nI i)), some (.int (bI sb)), some (.int (lI lo)), o8, o9] [.int (lI lo)] M2 Q
        cases lo with
        | none =>
          refine ez_if_lt rfl (fun _ => ?_) (fun z => absurd (by decide) z)
          refine ez_blk (pc' := 340) 4 rfl ?_
          -- nothing is put in
          have ih0 := ih M2 (some (.int (bI sb))) (some (.int (-1))) (some (.int (nI 0))) (some (.int (nI 0))) F2 (by show li M2 171 (R1 ++ []); rw [List.append_nil]; exact hM2)
          refine ez_blk 2 rfl ?_
          show ez xs 177 344 [some (.ref 131), some (.int (nI (dq f c))), some (.int lv), some (.int nv), some (.int (nI R1.length)), some (.int (nI i)), some (.int (bI sb)), some (.int (-1)), some (.int (nI 0)), some (.int (nI 0))] [.int (nI 0), .int (nI 0)] M2 Q
          refine ez_icmp_ge rfl (fun _ => ?_) (fun z => absurd (by decide) z)
          refine ez_blk (pc' := 150) 2 rfl ?_
          have e : (R1 ++ wA (fun n => oW S (f n)) none).length = R1.length := by show (R1 ++ []).length = _; rw [List.append_nil]
          rw [e] at ih0
          exact ih0
        | some n =>
          obtain ⟨n1, n2⟩ := la n rfl
          obtain ⟨e, w⟩ := Option.isSome_iff_exists.mp n2
          obtain ⟨⟨k1, k2⟩, k3, k4', k5'⟩ := (hL n n1).2 e w
          refine ez_if_lt rfl (fun z => absurd z (nI_pos (by omega))) (fun _ => ?_)
          show ez xs 177 309 [some (.ref 131), some (.int (nI (dq f c))), some (.int lv), some (.int nv), some (.int (nI R1.length)), some (.int (nI i)), some (.int (bI sb)), some (.int (nI n)), o8, o9] [] M2 Q
          refine ez_blk 6 rfl ?_
          show ez xs 177 320 [some (.ref 131), some (.int (nI (dq f c))), some (.int lv), some (.int nv), some (.int (nI R1.length)), some (.int (nI i)), some (.int (bI sb)), some (.int (nI n)), o8, o9] [.int (nI n), .ref 167, .ref 169, .ref 131] M2 Q
          refine ez_iald (n := 24) rfl (by decide) rfl (by omega) (by omega) ?_
          rw [F2 167 n (by omega) (by omega), k1]
          refine ez_blk (pc' := 327) 3 rfl ?_
          show ez xs 177 327 [some (.ref 131), some (.int (nI (dq f c))), some (.int lv), some (.int nv), some (.int (nI R1.length)), some (.int (nI i)), some (.int (bI sb)), some (.int (nI n)), o8, o9] [.int (nI n), .ref 168, .int (nI e.1), .ref 169, .ref 131] M2 Q
          refine ez_iald (n := 24) rfl (by decide) rfl (by omega) (by omega) ?_
          rw [F2 168 n (by omega) (by omega), k2]
          show ez xs 177 328 [some (.ref 131), some (.int (nI (dq f c))), some (.int lv), some (.int nv), some (.int (nI R1.length)), some (.int (nI i)), some (.int (bI sb)), some (.int (nI n)), o8, o9] [.int (nI e.2), .int (nI e.1), .ref 169, .ref 131] M2 Q
          refine ez_call (as := [.ref 131, .ref 169, .int (nI e.1), .int (nI e.2)]) (rest := []) rfl (by decide) rfl ?_
          have sM2 : ∀ a j, sS a j → M2 a j = S a j := fun a j z => by
            have z2 : (36 ≤ a ∧ a ≤ 73) ∨ (149 ≤ a ∧ a ≤ 163) ∨ (a = 131 ∧ j = 21) := z
            rw [F2 a j (by omega) (by omega)]
            exact hS a j z
          refine h_M_write (Or.inl rfl) k3 k4' (rI_same k3 sM2 k5') (fun M3 p3 F3 => ?_)
          have eW3 := W_same (S := S) (S' := M2) (b := nI e.2) (k := e.1) (fun a j z1 z2 => sM2 a j (Or.inr (Or.inl ⟨z1, z2⟩)))
          rw [eW3] at p3 ⊢
          have ew : wW S (nI e.2) e.1 = wA (fun n => oW S (f n)) (some n) := by show _ = oW S (f n); rw [w]; rfl
          have wl := hw n
          have wl : (wW S (nI e.2) e.1).length ≤ 10 := by rw [ew]; exact wl
          refine ez_blk (pc' := 340) 4 rfl ?_
          exact COPY (wW S (nI e.2) e.1) M3 ew p3 wl (fun a k q1 q2 => by rw [F3 a k q1]; exact F2 a k q1 q2) (fun j v hv => by rw [F3 171 j (by omega)]; exact hM2 j v hv)
      refine ez_blk 1 rfl ?_
      show ez xs 177 284 [some (.ref 131), some (.int (nI (dq f c))), some (.int lv), some (.int nv), some (.int (nI R0.length)), some (.int (nI i)), some (.int (bI sb)), some (.int (lI lo)), p8, p9] [.int (bI sb)] M Q
      cases sb
      · refine ez_if_eq rfl (fun _ => ?_) (fun z => absurd rfl z)
        refine INS M R0 p8 p9 ?_ hF hM
        rw [if_neg (by decide), List.append_nil]
      · refine ez_if_eq rfl (fun z => absurd z (by decide)) (fun _ => ?_)
        have l0 : R0.length < 160 := by
          have m1 : R0.length + 1 + _ ≤ 160 := m1
          omega
        show ez xs 177 287 [some (.ref 131), some (.int (nI (dq f c))), some (.int lv), some (.int nv), some (.int (nI R0.length)), some (.int (nI i)), some (.int (bI true)), some (.int (lI lo)), p8, p9] [] M Q
        refine ez_blk 6 rfl ?_
        show ez xs 177 299 [some (.ref 131), some (.int (nI (dq f c))), some (.int lv), some (.int nv), some (.int (nI R0.length)), some (.int (nI i)), some (.int (bI true)), some (.int (lI lo)), p8, p9] [.int (nI i), .ref 132, .int (nI R0.length), .ref 171] M Q
        refine ez_iald (n := 160) rfl (by decide) rfl (by omega) (by omega) ?_
        rw [hF 132 i (by omega) (by omega), h132 i hiN]
        refine ez_iast (n := 160) rfl (by decide) rfl (by omega) (by omega) ?_
        refine ez_blk (pc' := 304) 1 rfl ?_
        have := INS (jj_up M 171 R0.length (tx i)) (R0 ++ [tx i]) p8 p9 (by rw [if_pos rfl]) (fun a k q1 q2 => by rw [up_ne q2]; exact hF a k q1 q2) (li_snoc hM up_eq (fun t htt => up_k (by omega)))
        rw [List.length_append, show [tx i].length = 1 from rfl, ← nI_1] at this
        exact this
  show ez xs 177 144 [some (.ref 131), some (.int (nI (dq f c))), some (.int lv), some (.int nv), some (.int (nI c)), o5, o6, o7, o8, o9] [] M0 Q
  refine ez_blk (pc' := 150) 4 rfl ?_
  exact LAY N 0 M0 _ _ _ _ (by omega) (fun a k q1 _ => F0 a k q1) (fun j v hv => by cases hv)
