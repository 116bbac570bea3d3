theorem ez_top {xs : jx_Xs} {y pc : Nat} {L : jx_L} {r : List Value} {m : zM} {Q : Option Value → zM → Prop} {x v : Int32} (h : x = v) (g : ez xs y pc L (.int v :: r) m Q) : ez xs y pc L (.int x :: r) m Q := by rw [h]; exact g
/-! Methods of the program as the parser uses them: a number that is a node's, room for one more. -/
theorem h_Program_node {xs : jx_Xs} {m : zM} {Q : Option Value → zM → Prop} {n : Int32} (b1 : ¬ n < 0) (b2 : ¬ m 3 1 ≤ n) (b3 : vp_in n 24) (g1 : Q (some (.ref (5 + n.toNatClampNeg))) m) : ez xs 33 0 (jx_ent 33 [.ref 3, .int n]) [] m Q :=
  c_Program_node (fun h => absurd h b1) (fun _ h => absurd h b2) (fun _ _ => b3) (fun h => absurd h b1) (fun _ h => absurd h b2) (fun _ _ => g1)
theorem h_Program_append {xs : jx_Xs} {m : zM} {Q : Option Value → zM → Prop} (b1 : ¬ 24 ≤ m 3 1) (g1 : Q (some (.int (m 3 1))) (jj_up m 3 1 ((m 3 1) + 1))) : ez xs 45 0 (jx_ent 45 [.ref 3]) [] m Q := by
  refine c_Program_append (fun h => absurd h b1) (fun _ => ?_)
  rw [show m 3 1 + 1 - 1 = m 3 1 from Int32.add_sub_cancel _ _]
  exact g1
