/-! The reference's statement follows pStmt. -/
theorem h_M_statement {xs : jx_Xs} {m : zM} {Q : Option Value → zM → Prop} {t : Nat → Nat} {l : List Nat} {s : pS} (hk : tkM m t l) (ht : ∀ p ∈ l, t p ≤ 126) (hl : l.length ≤ 160) (hI : pI l.length s) (hC : pM m s) (hs : s.1 < l.length)
    (g0 : pStmt t l s = none → ∀ M, frM m M → Q (some (.int (-1))) M)
    (g : ∀ s', pStmt t l s = some s' → ∀ M, pM M s' → frM m M → Q (some (.int (nI s'.1))) M) : ez xs 68 0 (jx_ent 68 [.ref 131, .int (nI s.1)]) [] m Q := by
  have h24 := hI.2.2.1
  have rf : frM m m := fun _ _ _ _ _ => rfl
  have e33 : nI (sg t l s.1) = 33 ↔ sg t l s.1 = 33 := nI_eq (b := 33) (by have := sg_le ht s.1; omega) (by omega)
  have e63 : nI (sg t l s.1) = 63 ↔ sg t l s.1 = 63 := nI_eq (b := 63) (by have := sg_le ht s.1; omega) (by omega)
  have e42 : nI (sg t l s.1) = 42 ↔ sg t l s.1 = 42 := nI_eq (b := 42) (by have := sg_le ht s.1; omega) (by omega)
  have full : s.2.2.1 = 24 → pStmt t l s = none := fun h => by unfold pStmt; rw [if_pos h]
  have p0 : s.2.2.1 < 24 → ¬ s.2.2.1 = 24 := fun h => by omega
  have lt : ¬ s.2.2.1 = 24 → s.2.2.1 < 24 := fun h => by omega
  refine ez_blk 6 rfl ?_
  show ez xs 68 6 [some (.ref 131), some (.int (nI s.1)), some (.int 0), some (.int 0)] [.int (nI s.1), .ref 131] m Q
  refine ez_call (as := [.ref 131, .int (nI s.1)]) (rest := []) rfl (by decide) rfl ?_
  refine var_e hk ht hl (j := s.1) (by omega) rfl ?_
  show ez xs 68 9 [some (.ref 131), some (.int (nI s.1)), some (.int 0), some (.int 0)] [.int (bI (decide (isV (sg t l s.1))))] m Q
  by_cases hv : isV (sg t l s.1)
  · rw [decide_eq_true hv]
    refine ez_if_eq rfl (fun h => absurd h (by decide)) (fun _ => ?_)
    have e : ¬ s.2.2.1 = 24 → pStmt t l s = if isV (sg t l s.1) ∧ sg t l (s.1 + 1) = 61 ∧ isV (sg t l (s.1 + 2)) ∧ sg t l (s.1 + 3) = 59 then some (pAdd l s 4 1 0 (nI (sg t l s.1 - 97)) (nI (sg t l (s.1 + 2) - 97)) 0) else none := fun h => by
      unfold pStmt
      rw [if_neg h, if_neg (by omega), if_neg (by omega), if_neg (by omega)]
    refine st_asg hk ht hl hI hC hv (fun q => ?_) (fun q1 q2 M hM hF => ?_)
    · refine g0 ?_ m rf
      by_cases h : s.2.2.1 = 24
      · exact full h
      · rw [e h, if_neg (fun z => q ⟨lt h, z.2⟩)]
    · exact g _ (by rw [e (p0 q1), if_pos ⟨hv, q2⟩]) M hM hF
  rw [decide_eq_false hv]
  refine ez_if_eq rfl (fun _ => ?_) (fun h => absurd rfl h)
  show ez xs 68 88 [some (.ref 131), some (.int (nI s.1)), some (.int 0), some (.int 0)] [] m Q
  refine ez_blk 2 rfl ?_
  show ez xs 68 90 [some (.ref 131), some (.int (nI s.1)), some (.int 0), some (.int 0)] [.int (nI s.1), .ref 131] m Q
  refine ez_call (as := [.ref 131, .int (nI s.1)]) (rest := []) rfl (by decide) rfl ?_
  refine fun_e hk ht hl (j := s.1) (by omega) rfl ?_
  show ez xs 68 93 [some (.ref 131), some (.int (nI s.1)), some (.int 0), some (.int 0)] [.int (bI (decide (isF (sg t l s.1))))] m Q
  by_cases hf : isF (sg t l s.1)
  · rw [decide_eq_true hf]
    refine ez_if_eq rfl (fun h => absurd h (by decide)) (fun _ => ?_)
    have e : ¬ s.2.2.1 = 24 → pStmt t l s = if sg t l (s.1 + 1) = 40 ∧ isV (sg t l (s.1 + 2)) ∧ sg t l (s.1 + 3) = 41 ∧ sg t l (s.1 + 4) = 59 then some (pAdd l s 5 0 (nI (sg t l s.1 - 102)) (nI (sg t l (s.1 + 2) - 97)) 0 0) else none := fun h => by
      unfold pStmt
      rw [if_neg h, if_neg (by omega), if_neg (by omega), if_pos hf]
    refine st_call hk ht hl hI hC hf (fun q => ?_) (fun q1 q2 M hM hF => ?_)
    · refine g0 ?_ m rf
      by_cases h : s.2.2.1 = 24
      · exact full h
      · rw [e h, if_neg (fun z => q ⟨lt h, z⟩)]
    · exact g _ (by rw [e (p0 q1), if_pos q2]) M hM hF
  rw [decide_eq_false hf]
  refine ez_if_eq rfl (fun _ => ?_) (fun h => absurd rfl h)
  show ez xs 68 184 [some (.ref 131), some (.int (nI s.1)), some (.int 0), some (.int 0)] [] m Q
  refine ez_blk 2 rfl ?_
  show ez xs 68 186 [some (.ref 131), some (.int (nI s.1)), some (.int 0), some (.int 0)] [.int (nI s.1), .ref 131] m Q
  refine ez_call (as := [.ref 131, .int (nI s.1)]) (rest := []) rfl (by decide) rfl ?_
  refine look_e hk hl (j := s.1) (by omega) rfl ?_
  show ez xs 68 189 [some (.ref 131), some (.int (nI s.1)), some (.int 0), some (.int 0)] [.int (nI (sg t l s.1))] m Q
  refine ez_blk 1 rfl ?_
  show ez xs 68 191 [some (.ref 131), some (.int (nI s.1)), some (.int 0), some (.int 0)] [.int 33, .int (nI (sg t l s.1))] m Q
  refine ez_icmp_ne rfl (fun hr => ?_) (fun hr => ?_)
  case refine_2 =>
    have hr := e33.mp hr
    have e : ¬ s.2.2.1 = 24 → pStmt t l s = if isV (sg t l (s.1 + 1)) ∧ sg t l (s.1 + 2) = 59 then some (pAdd l s 3 2 0 (nI (sg t l (s.1 + 1) - 97)) 0 0) else none := fun h => by
      unfold pStmt
      rw [if_neg h, if_neg (by omega), if_pos hr]
    refine st_ret hk ht hl hI hC hr (fun q => ?_) (fun q1 q2 M hM hF => ?_)
    · refine g0 ?_ m rf
      by_cases h : s.2.2.1 = 24
      · exact full h
      · rw [e h, if_neg (fun z => q ⟨lt h, z⟩)]
    · exact g _ (by rw [e (p0 q1), if_pos q2]) M hM hF
  have hr : ¬ sg t l s.1 = 33 := fun q => hr (e33.mpr q)
  have T : sg t l s.1 = 63 ∨ sg t l s.1 = 42 → ez xs 68 271 [some (.ref 131), some (.int (nI s.1)), some (.int 0), some (.int 0)] [] m Q := fun hq => by
    have e : ¬ s.2.2.1 = 24 → pStmt t l s = if isV (sg t l (s.1 + 1)) ∧ sg t l (s.1 + 2) = 123 ∧ s.2.1 < 6 then some (pOp (pAdd l s 2 3 0 (nI (sg t l (s.1 + 1) - 97)) 0 (bI (decide (sg t l s.1 = 42)))) (s.1 + 2 + 1) (nI s.2.2.1) 0) else none := fun h => by
      unfold pStmt
      rw [if_neg h, if_pos hq]
    refine st_test hk ht hl hI hC hs (fun q M hF => ?_) (fun q1 q2 M hM hF => ?_)
    · refine g0 ?_ M hF
      by_cases h : s.2.2.1 = 24
      · exact full h
      · rw [e h, if_neg (fun z => q ⟨lt h, z⟩)]
    · exact g _ (by rw [e (p0 q1), if_pos q2]) M hM hF
  show ez xs 68 251 [some (.ref 131), some (.int (nI s.1)), some (.int 0), some (.int 0)] [] m Q
  refine ez_blk 2 rfl ?_
  show ez xs 68 253 [some (.ref 131), some (.int (nI s.1)), some (.int 0), some (.int 0)] [.int (nI s.1), .ref 131] m Q
  refine ez_call (as := [.ref 131, .int (nI s.1)]) (rest := []) rfl (by decide) rfl ?_
  refine look_e hk hl (j := s.1) (by omega) rfl ?_
  show ez xs 68 256 [some (.ref 131), some (.int (nI s.1)), some (.int 0), some (.int 0)] [.int (nI (sg t l s.1))] m Q
  refine ez_blk 1 rfl ?_
  show ez xs 68 258 [some (.ref 131), some (.int (nI s.1)), some (.int 0), some (.int 0)] [.int 63, .int (nI (sg t l s.1))] m Q
  refine ez_icmp_eq rfl (fun h => T (Or.inl (e63.mp h))) (fun h6 => ?_)
  show ez xs 68 261 [some (.ref 131), some (.int (nI s.1)), some (.int 0), some (.int 0)] [] m Q
  refine ez_blk 2 rfl ?_
  show ez xs 68 263 [some (.ref 131), some (.int (nI s.1)), some (.int 0), some (.int 0)] [.int (nI s.1), .ref 131] m Q
  refine ez_call (as := [.ref 131, .int (nI s.1)]) (rest := []) rfl (by decide) rfl ?_
  refine look_e hk hl (j := s.1) (by omega) rfl ?_
  show ez xs 68 266 [some (.ref 131), some (.int (nI s.1)), some (.int 0), some (.int 0)] [.int (nI (sg t l s.1))] m Q
  refine ez_blk 1 rfl ?_
  show ez xs 68 268 [some (.ref 131), some (.int (nI s.1)), some (.int 0), some (.int 0)] [.int 42, .int (nI (sg t l s.1))] m Q
  refine ez_icmp_ne rfl (fun h4 => ?_) (fun h => T (Or.inr (e42.mp h)))
  refine st_no (g0 ?_ m rf)
  unfold pStmt
  by_cases h : s.2.2.1 = 24
  · rw [if_pos h]
  · rw [if_neg h, if_neg (fun q => q.elim (fun z => h6 (e63.mpr z)) (fun z => h4 (e42.mpr z))), if_neg hr, if_neg hf, if_neg (fun q => hv q.1)]
