/-! The reference's call. -/
theorem st_call {xs : jx_Xs} {m : zM} {Q : Option Value → zM → Prop} {t : Nat → Nat} {l : List Nat} {s : pS} (hk : tkM m t l) (ht : ∀ p ∈ l, t p ≤ 126) (hl : l.length ≤ 160) (hI : pI l.length s) (hC : pM m s) (hc : isF (sg t l s.1))
    (g0 : ¬ (s.2.2.1 < 24 ∧ sg t l (s.1 + 1) = 40 ∧ isV (sg t l (s.1 + 2)) ∧ sg t l (s.1 + 3) = 41 ∧ sg t l (s.1 + 4) = 59) → Q (some (.int (-1))) m)
    (g : s.2.2.1 < 24 → sg t l (s.1 + 1) = 40 ∧ isV (sg t l (s.1 + 2)) ∧ sg t l (s.1 + 3) = 41 ∧ sg t l (s.1 + 4) = 59 → ∀ M, pM M (pAdd l s 5 0 (nI (sg t l s.1 - 102)) (nI (sg t l (s.1 + 2) - 97)) 0 0) → frM m M → Q (some (.int (nI (s.1 + 5)))) M) : ez xs 68 96 [some (.ref 131), some (.int (nI s.1)), some (.int 0), some (.int 0)] [] m Q := by
  have i1 := hI.1
  have no : ∀ M, Q (some (.int (-1))) M → ez xs 68 179 [some (.ref 131), some (.int (nI s.1)), some (.int 0), some (.int 5)] [] M Q := fun M h => by
    refine ez_blk 3 rfl ?_
    exact st_no h
  have a1 : nI s.1 + 1 = nI (s.1 + 1) := nI_add s.1 1
  have a2 : nI s.1 + 2 = nI (s.1 + 2) := nI_add s.1 2
  have a3 : nI s.1 + 3 = nI (s.1 + 3) := nI_add s.1 3
  have a4 : nI s.1 + 4 = nI (s.1 + 4) := nI_add s.1 4
  have e1 : nI (sg t l (s.1 + 1)) = 40 ↔ sg t l (s.1 + 1) = 40 := nI_eq (b := 40) (by have := sg_le ht (s.1 + 1); omega) (by omega)
  have e3 : nI (sg t l (s.1 + 3)) = 41 ↔ sg t l (s.1 + 3) = 41 := nI_eq (b := 41) (by have := sg_le ht (s.1 + 3); omega) (by omega)
  have e4 : nI (sg t l (s.1 + 4)) = 59 ↔ sg t l (s.1 + 4) = 59 := nI_eq (b := 59) (by have := sg_le ht (s.1 + 4); omega) (by omega)
  refine ez_blk 6 rfl ?_
  show ez xs 68 102 [some (.ref 131), some (.int (nI s.1)), some (.int 0), some (.int 5)] [.int (nI s.1 + 1), .ref 131] m Q
  refine ez_call (as := [.ref 131, .int (nI s.1 + 1)]) (rest := []) rfl (by decide) rfl ?_
  refine look_e hk hl (j := s.1 + 1) (by omega) a1 ?_
  show ez xs 68 105 [some (.ref 131), some (.int (nI s.1)), some (.int 0), some (.int 5)] [.int (nI (sg t l (s.1 + 1)))] m Q
  refine ez_blk 1 rfl ?_
  show ez xs 68 107 [some (.ref 131), some (.int (nI s.1)), some (.int 0), some (.int 5)] [.int 40, .int (nI (sg t l (s.1 + 1)))] m Q
  refine ez_icmp_ne rfl (fun h => no m (g0 (fun q => h (e1.mpr q.2.1)))) (fun h => ?_)
  have k1 := e1.mp h
  show ez xs 68 110 [some (.ref 131), some (.int (nI s.1)), some (.int 0), some (.int 5)] [] m Q
  refine ez_blk 4 rfl ?_
  show ez xs 68 114 [some (.ref 131), some (.int (nI s.1)), some (.int 0), some (.int 5)] [.int (nI s.1 + 2), .ref 131] m Q
  refine ez_call (as := [.ref 131, .int (nI s.1 + 2)]) (rest := []) rfl (by decide) rfl ?_
  refine var_e hk ht hl (j := s.1 + 2) (by omega) a2 ?_
  show ez xs 68 117 [some (.ref 131), some (.int (nI s.1)), some (.int 0), some (.int 5)] [.int (bI (decide (isV (sg t l (s.1 + 2)))))] m Q
  by_cases hv : isV (sg t l (s.1 + 2))
  case neg =>
    rw [decide_eq_false hv]
    refine ez_if_eq rfl (fun _ => no m (g0 (fun q => hv q.2.2.1))) (fun h => absurd rfl h)
  rw [decide_eq_true hv]
  refine ez_if_eq rfl (fun h => absurd h (by decide)) (fun _ => ?_)
  show ez xs 68 120 [some (.ref 131), some (.int (nI s.1)), some (.int 0), some (.int 5)] [] m Q
  refine ez_blk 4 rfl ?_
  show ez xs 68 124 [some (.ref 131), some (.int (nI s.1)), some (.int 0), some (.int 5)] [.int (nI s.1 + 3), .ref 131] m Q
  refine ez_call (as := [.ref 131, .int (nI s.1 + 3)]) (rest := []) rfl (by decide) rfl ?_
  refine look_e hk hl (j := s.1 + 3) (by omega) a3 ?_
  show ez xs 68 127 [some (.ref 131), some (.int (nI s.1)), some (.int 0), some (.int 5)] [.int (nI (sg t l (s.1 + 3)))] m Q
  refine ez_blk 1 rfl ?_
  show ez xs 68 129 [some (.ref 131), some (.int (nI s.1)), some (.int 0), some (.int 5)] [.int 41, .int (nI (sg t l (s.1 + 3)))] m Q
  refine ez_icmp_ne rfl (fun h => no m (g0 (fun q => h (e3.mpr q.2.2.2.1)))) (fun h => ?_)
  have k3 := e3.mp h
  show ez xs 68 132 [some (.ref 131), some (.int (nI s.1)), some (.int 0), some (.int 5)] [] m Q
  refine ez_blk 4 rfl ?_
  show ez xs 68 136 [some (.ref 131), some (.int (nI s.1)), some (.int 0), some (.int 5)] [.int (nI s.1 + 4), .ref 131] m Q
  refine ez_call (as := [.ref 131, .int (nI s.1 + 4)]) (rest := []) rfl (by decide) rfl ?_
  refine look_e hk hl (j := s.1 + 4) (by omega) a4 ?_
  show ez xs 68 139 [some (.ref 131), some (.int (nI s.1)), some (.int 0), some (.int 5)] [.int (nI (sg t l (s.1 + 4)))] m Q
  refine ez_blk 1 rfl ?_
  show ez xs 68 141 [some (.ref 131), some (.int (nI s.1)), some (.int 0), some (.int 5)] [.int 59, .int (nI (sg t l (s.1 + 4)))] m Q
  refine ez_icmp_ne rfl (fun h => no m (g0 (fun q => h (e4.mpr q.2.2.2.2)))) (fun h => ?_)
  have k4 := e4.mp h
  have hlen := sg_lt k4 (by omega)
  show ez xs 68 144 [some (.ref 131), some (.int (nI s.1)), some (.int 0), some (.int 5)] [] m Q
  refine ez_blk 8 rfl ?_
  show ez xs 68 152 [some (.ref 131), some (.int (nI s.1)), some (.int 0), some (.int 5)] [.int (nI s.1), .ref 131, .int (nI s.1 + 4), .int (nI s.1), .int 0, .ref 131] m Q
  refine ez_call (as := [.ref 131, .int (nI s.1)]) (rest := [.int (nI s.1 + 4), .int (nI s.1), .int 0, .ref 131]) rfl (by decide) rfl ?_
  refine look_e hk hl (j := s.1) (by omega) rfl ?_
  show ez xs 68 155 [some (.ref 131), some (.int (nI s.1)), some (.int 0), some (.int 5)] [.int (nI (sg t l s.1)), .int (nI s.1 + 4), .int (nI s.1), .int 0, .ref 131] m Q
  refine ez_blk 6 rfl ?_
  show ez xs 68 162 [some (.ref 131), some (.int (nI s.1)), some (.int 0), some (.int 5)] [.int (nI s.1 + 2), .ref 131, .int (nI (sg t l s.1) - nI 102), .int (nI s.1 + 4), .int (nI s.1), .int 0, .ref 131] m Q
  refine ez_call (as := [.ref 131, .int (nI s.1 + 2)]) (rest := [.int (nI (sg t l s.1) - nI 102), .int (nI s.1 + 4), .int (nI s.1), .int 0, .ref 131]) rfl (by decide) rfl ?_
  refine look_e hk hl (j := s.1 + 2) (by omega) a2 ?_
  show ez xs 68 165 [some (.ref 131), some (.int (nI s.1)), some (.int 0), some (.int 5)] [.int (nI (sg t l (s.1 + 2))), .int (nI (sg t l s.1) - nI 102), .int (nI s.1 + 4), .int (nI s.1), .int 0, .ref 131] m Q
  refine ez_blk 3 rfl ?_
  show ez xs 68 169 [some (.ref 131), some (.int (nI s.1)), some (.int 0), some (.int 5)] [.int 0, .int (nI (sg t l (s.1 + 2)) - nI 97), .int (nI (sg t l s.1) - nI 102), .int (nI s.1 + 4), .int (nI s.1), .int 0, .ref 131] m Q
  rw [nI_mi hv.1, nI_mi hc.1, a4]
  refine ez_call (as := [.ref 131, .int 0, .int (nI s.1), .int (nI (s.1 + 4)), .int (nI (sg t l s.1 - 102)), .int (nI (sg t l (s.1 + 2) - 97)), .int 0]) (rest := []) rfl (by decide) rfl ?_
  have w0 : bI (decide (t (l.getD s.1 0) = 42)) = 0 := by
    have hc := hc.1
    unfold sg at hc
    rw [if_pos (by omega)] at hc
    rw [decide_eq_false (by omega)]
    rfl
  refine h_M_node (len := 5) hk hl ht hI hC (by omega) (by omega) (fun q => ?_) (fun q M hM hF => ?_)
  · show ez xs 68 172 [some (.ref 131), some (.int (nI s.1)), some (.int 0), some (.int 5)] [.int 0] m Q
    exact ez_if_eq rfl (fun _ => no m (g0 (fun z => by omega))) (fun h => absurd rfl h)
  · rw [w0] at hM
    show ez xs 68 172 [some (.ref 131), some (.int (nI s.1)), some (.int 0), some (.int 5)] [.int 1] M Q
    refine ez_if_eq rfl (fun h => absurd h (by decide)) (fun _ => ?_)
    show ez xs 68 175 [some (.ref 131), some (.int (nI s.1)), some (.int 0), some (.int 5)] [] M Q
    refine ez_blk 4 rfl ?_
    refine st_yes ?_
    rw [show nI s.1 + 5 = nI (s.1 + 5) from nI_add s.1 5]
    exact g q ⟨k1, hv, k3, k4⟩ M hM (fun a b q1 q2 q3 => hF a b (by omega) q2 (by omega))
