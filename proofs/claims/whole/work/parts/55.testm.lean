/-! The reference's test. -/
theorem st_test {xs : jx_Xs} {m : zM} {Q : Option Value → zM → Prop} {t : Nat → Nat} {l : List Nat} {s : pS} (hk : tkM m t l) (ht : ∀ p ∈ l, t p ≤ 126) (hl : l.length ≤ 160) (hI : pI l.length s) (hC : pM m s) (hs : s.1 < l.length)
    (g0 : ¬ (s.2.2.1 < 24 ∧ isV (sg t l (s.1 + 1)) ∧ sg t l (s.1 + 2) = 123 ∧ s.2.1 < 6) → ∀ M, frM m M → Q (some (.int (-1))) M)
    (g : s.2.2.1 < 24 → isV (sg t l (s.1 + 1)) ∧ sg t l (s.1 + 2) = 123 ∧ s.2.1 < 6 → ∀ M, pM M (pOp (pAdd l s 2 3 0 (nI (sg t l (s.1 + 1) - 97)) 0 (bI (decide (sg t l s.1 = 42)))) (s.1 + 2 + 1) (nI s.2.2.1) 0) → frM m M → Q (some (.int (nI (s.1 + 3)))) M) : ez xs 68 271 [some (.ref 131), some (.int (nI s.1)), some (.int 0), some (.int 0)] [] m Q := by
  have i1 := hI.1
  have i2 := hI.2.1
  have no : ∀ M, Q (some (.int (-1))) M → ez xs 68 337 [some (.ref 131), some (.int (nI s.1)), some (.int 0), some (.int 3)] [] M Q := fun M h => by
    refine ez_blk 2 rfl ?_
    exact st_no h
  have rf : frM m m := fun _ _ _ _ _ => rfl
  have a1 : nI s.1 + 1 = nI (s.1 + 1) := nI_add s.1 1
  have a2 : nI s.1 + 2 = nI (s.1 + 2) := nI_add s.1 2
  refine ez_blk 6 rfl ?_
  show ez xs 68 277 [some (.ref 131), some (.int (nI s.1)), some (.int 0), some (.int 3)] [.int (nI s.1 + 1), .ref 131] m Q
  refine ez_call (as := [.ref 131, .int (nI s.1 + 1)]) (rest := []) rfl (by decide) rfl ?_
  refine var_e hk ht hl (j := s.1 + 1) (by omega) a1 ?_
  show ez xs 68 280 [some (.ref 131), some (.int (nI s.1)), some (.int 0), some (.int 3)] [.int (bI (decide (isV (sg t l (s.1 + 1)))))] m Q
  by_cases hv : isV (sg t l (s.1 + 1))
  case neg =>
    rw [decide_eq_false hv]
    refine ez_if_eq rfl (fun _ => no m (g0 (fun q => hv q.2.1) m rf)) (fun h => absurd rfl h)
  rw [decide_eq_true hv]
  refine ez_if_eq rfl (fun h => absurd h (by decide)) (fun _ => ?_)
  show ez xs 68 283 [some (.ref 131), some (.int (nI s.1)), some (.int 0), some (.int 3)] [] m Q
  refine ez_blk 4 rfl ?_
  show ez xs 68 287 [some (.ref 131), some (.int (nI s.1)), some (.int 0), some (.int 3)] [.int (nI s.1 + 2), .ref 131] m Q
  refine ez_call (as := [.ref 131, .int (nI s.1 + 2)]) (rest := []) rfl (by decide) rfl ?_
  refine look_e hk hl (j := s.1 + 2) (by omega) a2 ?_
  show ez xs 68 290 [some (.ref 131), some (.int (nI s.1)), some (.int 0), some (.int 3)] [.int (nI (sg t l (s.1 + 2)))] m Q
  refine ez_blk 1 rfl ?_
  show ez xs 68 292 [some (.ref 131), some (.int (nI s.1)), some (.int 0), some (.int 3)] [.int 123, .int (nI (sg t l (s.1 + 2)))] m Q
  have e2 : nI (sg t l (s.1 + 2)) = 123 ↔ sg t l (s.1 + 2) = 123 := nI_eq (b := 123) (by have := sg_le ht (s.1 + 2); omega) (by omega)
  refine ez_icmp_ne rfl (fun h => no m (g0 (fun q => h (e2.mpr q.2.2.1)) m rf)) (fun h => ?_)
  have k2 := e2.mp h
  have hlen := sg_lt k2 (by omega)
  show ez xs 68 295 [some (.ref 131), some (.int (nI s.1)), some (.int 0), some (.int 3)] [] m Q
  refine ez_blk 11 rfl ?_
  show ez xs 68 306 [some (.ref 131), some (.int (nI s.1)), some (.int 0), some (.int 3)] [.int (nI s.1 + 1), .ref 131, .int 0, .int (nI s.1 + 1), .int (nI s.1), .int 3, .ref 131] m Q
  refine ez_call (as := [.ref 131, .int (nI s.1 + 1)]) (rest := [.int 0, .int (nI s.1 + 1), .int (nI s.1), .int 3, .ref 131]) rfl (by decide) rfl ?_
  refine look_e hk hl (j := s.1 + 1) (by omega) a1 ?_
  show ez xs 68 309 [some (.ref 131), some (.int (nI s.1)), some (.int 0), some (.int 3)] [.int (nI (sg t l (s.1 + 1))), .int 0, .int (nI s.1 + 1), .int (nI s.1), .int 3, .ref 131] m Q
  refine ez_blk 3 rfl ?_
  show ez xs 68 313 [some (.ref 131), some (.int (nI s.1)), some (.int 0), some (.int 3)] [.int 0, .int (nI (sg t l (s.1 + 1)) - nI 97), .int 0, .int (nI s.1 + 1), .int (nI s.1), .int 3, .ref 131] m Q
  rw [nI_mi hv.1, a1]
  refine ez_call (as := [.ref 131, .int 3, .int (nI s.1), .int (nI (s.1 + 1)), .int 0, .int (nI (sg t l (s.1 + 1) - 97)), .int 0]) (rest := []) rfl (by decide) rfl ?_
  have w0 : bI (decide (t (l.getD s.1 0) = 42)) = bI (decide (sg t l s.1 = 42)) := by
    unfold sg
    rw [if_pos hs]
  refine h_M_node (len := 2) hk hl ht hI hC (by omega) (by omega) (fun q => ?_) (fun q M hM hF => ?_)
  · show ez xs 68 316 [some (.ref 131), some (.int (nI s.1)), some (.int 0), some (.int 3)] [.int 0] m Q
    exact ez_if_eq rfl (fun _ => no m (g0 (fun z => by omega) m rf)) (fun h => absurd rfl h)
  · rw [w0] at hM
    have hF : frM m M := fun a b q1 q2 q3 => hF a b (by omega) q2 (by omega)
    show ez xs 68 316 [some (.ref 131), some (.int (nI s.1)), some (.int 0), some (.int 3)] [.int 1] M Q
    refine ez_if_eq rfl (fun h => absurd h (by decide)) (fun _ => ?_)
    show ez xs 68 319 [some (.ref 131), some (.int (nI s.1)), some (.int 0), some (.int 3)] [] M Q
    refine ez_blk 6 rfl ?_
    show ez xs 68 327 [some (.ref 131), some (.int (nI s.1)), some (.int 0), some (.int 3)] [.int 0, .int (M 131 5 - 1), .ref 131] M Q
    have d5 : M 131 5 - 1 = nI s.2.2.1 := by
      rw [show M 131 5 = nI (s.2.2.1 + 1) from hM.2.1]
      exact nI_p1 _
    rw [d5]
    refine ez_call (as := [.ref 131, .int (nI s.2.2.1), .int 0]) (rest := []) rfl (by decide) rfl ?_
    refine h_M_open (nx := s.1 + 2 + 1) (s := pAdd l s 2 3 0 (nI (sg t l (s.1 + 1) - 97)) 0 (bI (decide (sg t l s.1 = 42)))) i2 hM (fun z => ?_) (fun z N hN h4 => ?_)
    · show ez xs 68 330 [some (.ref 131), some (.int (nI s.1)), some (.int 0), some (.int 3)] [.int 0] M Q
      exact ez_if_eq rfl (fun _ => no M (g0 (fun y => z y.2.2.2) M hF)) (fun h => absurd rfl h)
    · show ez xs 68 330 [some (.ref 131), some (.int (nI s.1)), some (.int 0), some (.int 3)] [.int 1] N Q
      refine ez_if_eq rfl (fun h => absurd h (by decide)) (fun _ => ?_)
      show ez xs 68 333 [some (.ref 131), some (.int (nI s.1)), some (.int 0), some (.int 3)] [] N Q
      refine ez_blk 3 rfl ?_
      refine st_yes ?_
      rw [show nI s.1 + 3 = nI (s.1 + 3) from nI_add s.1 3]
      refine g q ⟨hv, k2, z⟩ N hN (fun a b q1 q2 q3 => ?_)
      rw [h4 a b (by omega) (by omega) (by omega) (by omega)]
      exact hF a b q1 q2 q3
