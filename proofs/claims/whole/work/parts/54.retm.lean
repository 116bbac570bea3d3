/-! The reference's return. -/
def frM (m M : zM) : Prop := ∀ a b, ¬ (a = 131 ∧ (b = 5 ∨ b = 20)) → ¬ (135 ≤ a ∧ a ≤ 144) → ¬ (146 ≤ a ∧ a ≤ 148) → M a b = m a b
theorem nI_mi {a b : Nat} (h : b ≤ a) : nI a - nI b = nI (a - b) := by
  have e : nI a = nI (a - b) + nI b := by rw [nI_add, Nat.sub_add_cancel h]
  rw [e, Int32.add_sub_cancel]
theorem st_ret {xs : jx_Xs} {m : zM} {Q : Option Value → zM → Prop} {t : Nat → Nat} {l : List Nat} {s : pS} (hk : tkM m t l) (ht : ∀ p ∈ l, t p ≤ 126) (hl : l.length ≤ 160) (hI : pI l.length s) (hC : pM m s) (hc : sg t l s.1 = 33)
    (g0 : ¬ (s.2.2.1 < 24 ∧ isV (sg t l (s.1 + 1)) ∧ sg t l (s.1 + 2) = 59) → Q (some (.int (-1))) m)
    (g : s.2.2.1 < 24 → isV (sg t l (s.1 + 1)) ∧ sg t l (s.1 + 2) = 59 → ∀ M, pM M (pAdd l s 3 2 0 (nI (sg t l (s.1 + 1) - 97)) 0 0) → frM m M → Q (some (.int (nI (s.1 + 3)))) M) : ez xs 68 194 [some (.ref 131), some (.int (nI s.1)), some (.int 0), some (.int 0)] [] m Q := by
  have i1 := hI.1
  have no : ∀ M, Q (some (.int (-1))) M → ez xs 68 246 [some (.ref 131), some (.int (nI s.1)), some (.int 0), some (.int 3)] [] M Q := fun M h => by
    refine ez_blk 3 rfl ?_
    exact st_no h
  have a1 : nI s.1 + 1 = nI (s.1 + 1) := nI_add s.1 1
  have a2 : nI s.1 + 2 = nI (s.1 + 2) := nI_add s.1 2
  refine ez_blk 6 rfl ?_
  show ez xs 68 200 [some (.ref 131), some (.int (nI s.1)), some (.int 0), some (.int 3)] [.int (nI s.1 + 1), .ref 131] m Q
  refine ez_call (as := [.ref 131, .int (nI s.1 + 1)]) (rest := []) rfl (by decide) rfl ?_
  refine var_e hk ht hl (j := s.1 + 1) (by omega) a1 ?_
  show ez xs 68 203 [some (.ref 131), some (.int (nI s.1)), some (.int 0), some (.int 3)] [.int (bI (decide (isV (sg t l (s.1 + 1)))))] m Q
  by_cases hv : isV (sg t l (s.1 + 1))
  case neg =>
    rw [decide_eq_false hv]
    refine ez_if_eq rfl (fun _ => no m (g0 (fun q => hv q.2.1))) (fun h => absurd rfl h)
  rw [decide_eq_true hv]
  refine ez_if_eq rfl (fun h => absurd h (by decide)) (fun _ => ?_)
  show ez xs 68 206 [some (.ref 131), some (.int (nI s.1)), some (.int 0), some (.int 3)] [] m Q
  refine ez_blk 4 rfl ?_
  show ez xs 68 210 [some (.ref 131), some (.int (nI s.1)), some (.int 0), some (.int 3)] [.int (nI s.1 + 2), .ref 131] m Q
  refine ez_call (as := [.ref 131, .int (nI s.1 + 2)]) (rest := []) rfl (by decide) rfl ?_
  refine look_e hk hl (j := s.1 + 2) (by omega) a2 ?_
  show ez xs 68 213 [some (.ref 131), some (.int (nI s.1)), some (.int 0), some (.int 3)] [.int (nI (sg t l (s.1 + 2)))] m Q
  refine ez_blk 1 rfl ?_
  show ez xs 68 215 [some (.ref 131), some (.int (nI s.1)), some (.int 0), some (.int 3)] [.int 59, .int (nI (sg t l (s.1 + 2)))] m Q
  have e2 : nI (sg t l (s.1 + 2)) = 59 ↔ sg t l (s.1 + 2) = 59 := nI_eq (b := 59) (by have := sg_le ht (s.1 + 2); omega) (by omega)
  refine ez_icmp_ne rfl (fun h => no m (g0 (fun q => h (e2.mpr q.2.2)))) (fun h => ?_)
  have k2 := e2.mp h
  have hlen := sg_lt k2 (by omega)
  show ez xs 68 218 [some (.ref 131), some (.int (nI s.1)), some (.int 0), some (.int 3)] [] m Q
  refine ez_blk 11 rfl ?_
  show ez xs 68 229 [some (.ref 131), some (.int (nI s.1)), some (.int 0), some (.int 3)] [.int (nI s.1 + 1), .ref 131, .int 0, .int (nI s.1 + 2), .int (nI s.1), .int 2, .ref 131] m Q
  refine ez_call (as := [.ref 131, .int (nI s.1 + 1)]) (rest := [.int 0, .int (nI s.1 + 2), .int (nI s.1), .int 2, .ref 131]) rfl (by decide) rfl ?_
  refine look_e hk hl (j := s.1 + 1) (by omega) a1 ?_
  show ez xs 68 232 [some (.ref 131), some (.int (nI s.1)), some (.int 0), some (.int 3)] [.int (nI (sg t l (s.1 + 1))), .int 0, .int (nI s.1 + 2), .int (nI s.1), .int 2, .ref 131] m Q
  refine ez_blk 3 rfl ?_
  show ez xs 68 236 [some (.ref 131), some (.int (nI s.1)), some (.int 0), some (.int 3)] [.int 0, .int (nI (sg t l (s.1 + 1)) - nI 97), .int 0, .int (nI s.1 + 2), .int (nI s.1), .int 2, .ref 131] m Q
  rw [nI_mi hv.1, a2]
  refine ez_call (as := [.ref 131, .int 2, .int (nI s.1), .int (nI (s.1 + 2)), .int 0, .int (nI (sg t l (s.1 + 1) - 97)), .int 0]) (rest := []) rfl (by decide) rfl ?_
  have w0 : bI (decide (t (l.getD s.1 0) = 42)) = 0 := by
    unfold sg at hc
    rw [if_pos (by omega)] at hc
    rw [hc]
    rfl
  refine h_M_node (len := 3) hk hl ht hI hC (by omega) (by omega) (fun q => ?_) (fun q M hM hF => ?_)
  · show ez xs 68 239 [some (.ref 131), some (.int (nI s.1)), some (.int 0), some (.int 3)] [.int 0] m Q
    exact ez_if_eq rfl (fun _ => no m (g0 (fun z => by omega))) (fun h => absurd rfl h)
  · rw [w0] at hM
    show ez xs 68 239 [some (.ref 131), some (.int (nI s.1)), some (.int 0), some (.int 3)] [.int 1] M Q
    refine ez_if_eq rfl (fun h => absurd h (by decide)) (fun _ => ?_)
    show ez xs 68 242 [some (.ref 131), some (.int (nI s.1)), some (.int 0), some (.int 3)] [] M Q
    refine ez_blk 4 rfl ?_
    refine st_yes ?_
    rw [show nI s.1 + 3 = nI (s.1 + 3) from nI_add s.1 3]
    exact g q ⟨hv, k2⟩ M hM (fun a b q1 q2 q3 => hF a b (by omega) q2 (by omega))
