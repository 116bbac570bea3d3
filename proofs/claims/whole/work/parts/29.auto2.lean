/-! Methods with loops (a row a loop head) and rows of cells, by program. -/
set_option maxRecDepth 100000 in
set_option maxHeartbeats 2000000 in
theorem c_Tokens_scan {xs : jx_Xs} {m : zM} {Q : Option Value → zM → Prop}
    (g1 : ez xs 29 9 [some (.ref 30), some (.ref 1), some (.int 0), some (.int 0), none] [] (jj_up m 30 2 0) Q) : ez xs 29 0 (jx_ent 29 [.ref 30, .ref 1]) [] m Q := by
  refine ez_blk 7 rfl ?_
  show ez xs 29 9 [some (.ref 30), some (.ref 1), some (.int 0), some (.int 0), none] [] (jj_up m 30 2 0) Q
  exact g1
set_option maxRecDepth 100000 in
set_option maxHeartbeats 2000000 in
theorem c_Tokens_scan_9 {xs : jx_Xs} {m : zM} {Q : Option Value → zM → Prop} {l2 l3 : Int32} {o4 : Option Value}
    (b1 : (¬ m 1 1 ≤ l3) → (¬ f_Source_holds m l3 = 0) → vp_in l3 160)
    (b2 : (¬ m 1 1 ≤ l3) → (¬ f_Source_holds m l3 = 0) → vp_nar .char (m 2 l3.toNatClampNeg) = m 2 l3.toNatClampNeg)
    (b3 : (¬ m 1 1 ≤ l3) → (¬ f_Source_charOf m l3 = 35) → (l2 = 0) → (¬ f_Source_charOf m l3 = 32) → (¬ 160 ≤ m 30 2) → vp_in (m 30 2) 160)
    (b4 : (¬ m 1 1 ≤ l3) → (¬ f_Source_charOf m l3 = 35) → (l2 = 0) → (¬ f_Source_charOf m l3 = 32) → (¬ 160 ≤ m 30 2) → vp_in (m 30 2) 160)
    (g1 : (m 1 1 ≤ l3) → (¬ l2 = 0) → Q (some (.int 0)) m)
    (g2 : (m 1 1 ≤ l3) → (l2 = 0) → Q (some (.int 1)) m)
    (g3 : (¬ m 1 1 ≤ l3) → (¬ f_Source_charOf m l3 = 35) → (¬ l2 = 0) → ez xs 29 9 [some (.ref 30), some (.ref 1), some (.int l2), some (.int (l3 + 1)), some (.int (f_Source_charOf m l3))] [] m Q)
    (g4 : (¬ m 1 1 ≤ l3) → (¬ f_Source_charOf m l3 = 35) → (l2 = 0) → (f_Source_charOf m l3 = 32) → ez xs 29 9 [some (.ref 30), some (.ref 1), some (.int l2), some (.int (l3 + 1)), some (.int (f_Source_charOf m l3))] [] m Q)
    (g5 : (¬ m 1 1 ≤ l3) → (¬ f_Source_charOf m l3 = 35) → (l2 = 0) → (¬ f_Source_charOf m l3 = 32) → (160 ≤ m 30 2) → ez xs 29 9 [some (.ref 30), some (.ref 1), some (.int l2), some (.int (l3 + 1)), some (.int (f_Source_charOf m l3))] [] m Q)
    (g6 : (¬ m 1 1 ≤ l3) → (¬ f_Source_charOf m l3 = 35) → (l2 = 0) → (¬ f_Source_charOf m l3 = 32) → (¬ 160 ≤ m 30 2) → ez xs 29 9 [some (.ref 30), some (.ref 1), some (.int l2), some (.int (l3 + 1)), some (.int (f_Source_charOf m l3))] [] (jj_up (jj_up (jj_up m 31 ((m 30 2).toNatClampNeg) (vp_nar .char (f_Source_charOf m l3))) 32 ((m 30 2).toNatClampNeg) l3) 30 2 ((m 30 2) + 1)) Q)
    (g7 : (¬ m 1 1 ≤ l3) → (f_Source_charOf m l3 = 35) → (¬ l2 = 0) → ez xs 29 9 [some (.ref 30), some (.ref 1), some (.int 0), some (.int (l3 + 1)), some (.int (f_Source_charOf m l3))] [] m Q)
    (g8 : (¬ m 1 1 ≤ l3) → (f_Source_charOf m l3 = 35) → (l2 = 0) → ez xs 29 9 [some (.ref 30), some (.ref 1), some (.int 1), some (.int (l3 + 1)), some (.int (f_Source_charOf m l3))] [] m Q) : ez xs 29 9 [some (.ref 30), some (.ref 1), some (.int l2), some (.int l3), o4] [] m Q := by
  refine ez_blk 2 rfl ?_
  show ez xs 29 11 [some (.ref 30), some (.ref 1), some (.int l2), some (.int l3), o4] [.ref 1, .int l3] m Q
  refine ez_call (as := [.ref 1]) (rest := [.int l3]) rfl (by decide) rfl ?_
  refine c_Source_size ?_
  show ez xs 29 14 [some (.ref 30), some (.ref 1), some (.int l2), some (.int l3), o4] [.int (m 1 1), .int l3] m Q
  refine ez_icmp_ge rfl (fun h1 => ?_) (fun h1 => ?_)
  · show ez xs 29 68 [some (.ref 30), some (.ref 1), some (.int l2), some (.int l3), o4] [] m Q
    refine ez_blk 1 rfl ?_
    show ez xs 29 69 [some (.ref 30), some (.ref 1), some (.int l2), some (.int l3), o4] [.int l2] m Q
    refine ez_if_ne rfl (fun h2 => ?_) (fun h2 => ?_)
    · show ez xs 29 76 [some (.ref 30), some (.ref 1), some (.int l2), some (.int l3), o4] [] m Q
      refine ez_blk 1 rfl ?_
      show ez xs 29 77 [some (.ref 30), some (.ref 1), some (.int l2), some (.int l3), o4] [.int 0] m Q
      exact ez_ret rfl (by decide) rfl (g1 h1 h2)
    · show ez xs 29 72 [some (.ref 30), some (.ref 1), some (.int l2), some (.int l3), o4] [] m Q
      refine ez_blk 2 rfl ?_
      show ez xs 29 77 [some (.ref 30), some (.ref 1), some (.int l2), some (.int l3), o4] [.int 1] m Q
      exact ez_ret rfl (by decide) rfl (g2 h1 h2)
  · show ez xs 29 17 [some (.ref 30), some (.ref 1), some (.int l2), some (.int l3), o4] [] m Q
    refine ez_blk 2 rfl ?_
    show ez xs 29 19 [some (.ref 30), some (.ref 1), some (.int l2), some (.int l3), o4] [.int l3, .ref 1] m Q
    refine ez_call (as := [.ref 1, .int l3]) (rest := []) rfl (by decide) rfl ?_
    refine d_Source_charOf (fun h3 => b1 h1 h3) (fun h4 => b2 h1 h4) ?_
    show ez xs 29 22 [some (.ref 30), some (.ref 1), some (.int l2), some (.int l3), o4] [.int (f_Source_charOf m l3)] m Q
    refine ez_blk 3 rfl ?_
    show ez xs 29 28 [some (.ref 30), some (.ref 1), some (.int l2), some (.int l3), some (.int (f_Source_charOf m l3))] [.int 35, .int (f_Source_charOf m l3)] m Q
    refine ez_icmp_ne rfl (fun h5 => ?_) (fun h5 => ?_)
    · show ez xs 29 44 [some (.ref 30), some (.ref 1), some (.int l2), some (.int l3), some (.int (f_Source_charOf m l3))] [] m Q
      refine ez_blk 1 rfl ?_
      show ez xs 29 45 [some (.ref 30), some (.ref 1), some (.int l2), some (.int l3), some (.int (f_Source_charOf m l3))] [.int l2] m Q
      refine ez_if_ne rfl (fun h6 => ?_) (fun h6 => ?_)
      · show ez xs 29 62 [some (.ref 30), some (.ref 1), some (.int l2), some (.int l3), some (.int (f_Source_charOf m l3))] [] m Q
        refine ez_blk 2 rfl ?_
        show ez xs 29 9 [some (.ref 30), some (.ref 1), some (.int l2), some (.int (l3 + 1)), some (.int (f_Source_charOf m l3))] [] m Q
        exact g3 h1 h5 h6
      · show ez xs 29 48 [some (.ref 30), some (.ref 1), some (.int l2), some (.int l3), some (.int (f_Source_charOf m l3))] [] m Q
        refine ez_blk 2 rfl ?_
        show ez xs 29 52 [some (.ref 30), some (.ref 1), some (.int l2), some (.int l3), some (.int (f_Source_charOf m l3))] [.int 32, .int (f_Source_charOf m l3)] m Q
        refine ez_icmp_eq rfl (fun h7 => ?_) (fun h7 => ?_)
        · show ez xs 29 62 [some (.ref 30), some (.ref 1), some (.int l2), some (.int l3), some (.int (f_Source_charOf m l3))] [] m Q
          refine ez_blk 2 rfl ?_
          show ez xs 29 9 [some (.ref 30), some (.ref 1), some (.int l2), some (.int (l3 + 1)), some (.int (f_Source_charOf m l3))] [] m Q
          exact g4 h1 h5 h6 h7
        · show ez xs 29 55 [some (.ref 30), some (.ref 1), some (.int l2), some (.int l3), some (.int (f_Source_charOf m l3))] [] m Q
          refine ez_blk 3 rfl ?_
          show ez xs 29 59 [some (.ref 30), some (.ref 1), some (.int l2), some (.int l3), some (.int (f_Source_charOf m l3))] [.int l3, .int (f_Source_charOf m l3), .ref 30] m Q
          refine ez_call (as := [.ref 30, .int (f_Source_charOf m l3), .int l3]) (rest := []) rfl (by decide) rfl ?_
          refine c_Tokens_append (fun h8 => b3 h1 h5 h6 h7 h8) (fun h9 => b4 h1 h5 h6 h7 h9) (fun h10 => ?_) (fun h11 => ?_)
          · show ez xs 29 62 [some (.ref 30), some (.ref 1), some (.int l2), some (.int l3), some (.int (f_Source_charOf m l3))] [] m Q
            refine ez_blk 2 rfl ?_
            show ez xs 29 9 [some (.ref 30), some (.ref 1), some (.int l2), some (.int (l3 + 1)), some (.int (f_Source_charOf m l3))] [] m Q
            exact g5 h1 h5 h6 h7 h10
          · show ez xs 29 62 [some (.ref 30), some (.ref 1), some (.int l2), some (.int l3), some (.int (f_Source_charOf m l3))] [] (jj_up (jj_up (jj_up m 31 ((m 30 2).toNatClampNeg) (vp_nar .char (f_Source_charOf m l3))) 32 ((m 30 2).toNatClampNeg) l3) 30 2 ((m 30 2) + 1)) Q
            refine ez_blk 2 rfl ?_
            show ez xs 29 9 [some (.ref 30), some (.ref 1), some (.int l2), some (.int (l3 + 1)), some (.int (f_Source_charOf m l3))] [] (jj_up (jj_up (jj_up m 31 ((m 30 2).toNatClampNeg) (vp_nar .char (f_Source_charOf m l3))) 32 ((m 30 2).toNatClampNeg) l3) 30 2 ((m 30 2) + 1)) Q
            exact g6 h1 h5 h6 h7 h11
    · show ez xs 29 31 [some (.ref 30), some (.ref 1), some (.int l2), some (.int l3), some (.int (f_Source_charOf m l3))] [] m Q
      refine ez_blk 1 rfl ?_
      show ez xs 29 32 [some (.ref 30), some (.ref 1), some (.int l2), some (.int l3), some (.int (f_Source_charOf m l3))] [.int l2] m Q
      refine ez_if_ne rfl (fun h12 => ?_) (fun h12 => ?_)
      · show ez xs 29 39 [some (.ref 30), some (.ref 1), some (.int l2), some (.int l3), some (.int (f_Source_charOf m l3))] [] m Q
        refine ez_blk 5 rfl ?_
        show ez xs 29 9 [some (.ref 30), some (.ref 1), some (.int 0), some (.int (l3 + 1)), some (.int (f_Source_charOf m l3))] [] m Q
        exact g7 h1 h5 h12
      · show ez xs 29 35 [some (.ref 30), some (.ref 1), some (.int l2), some (.int l3), some (.int (f_Source_charOf m l3))] [] m Q
        refine ez_blk 6 rfl ?_
        show ez xs 29 9 [some (.ref 30), some (.ref 1), some (.int 1), some (.int (l3 + 1)), some (.int (f_Source_charOf m l3))] [] m Q
        exact g8 h1 h5 h12
set_option maxRecDepth 100000 in
set_option maxHeartbeats 2000000 in
theorem c_M_tokenize {xs : jx_Xs} {m : zM} {Q : Option Value → zM → Prop}
    (g1 : ez xs 61 9 [some (.ref 131), some (.int 0), some (.int 0)] [] (jj_up m 131 2 0) Q) : ez xs 61 0 (jx_ent 61 [.ref 131]) [] m Q := by
  refine ez_blk 7 rfl ?_
  show ez xs 61 9 [some (.ref 131), some (.int 0), some (.int 0)] [] (jj_up m 131 2 0) Q
  exact g1
set_option maxRecDepth 100000 in
set_option maxHeartbeats 2000000 in
theorem c_M_tokenize_9 {xs : jx_Xs} {m : zM} {Q : Option Value → zM → Prop} {l1 l2 : Int32}
    (b1 : (¬ m 131 0 ≤ l2) → vp_in l2 160)
    (b2 : (¬ m 131 0 ≤ l2) → (¬ m 132 l2.toNatClampNeg = 35) → (l1 = 0) → vp_in l2 160)
    (b3 : (¬ m 131 0 ≤ l2) → (¬ m 132 l2.toNatClampNeg = 35) → (l1 = 0) → (¬ m 132 l2.toNatClampNeg = 32) → vp_in l2 160)
    (b4 : (¬ m 131 0 ≤ l2) → (¬ m 132 l2.toNatClampNeg = 35) → (l1 = 0) → (¬ m 132 l2.toNatClampNeg = 32) → vp_in (m 131 2) 160)
    (b5 : (¬ m 131 0 ≤ l2) → (¬ m 132 l2.toNatClampNeg = 35) → (l1 = 0) → (¬ m 132 l2.toNatClampNeg = 32) → vp_in (m 131 2) 160)
    (g1 : (m 131 0 ≤ l2) → (¬ l1 = 0) → Q (some (.int 0)) m)
    (g2 : (m 131 0 ≤ l2) → (l1 = 0) → Q (some (.int 1)) m)
    (g3 : (¬ m 131 0 ≤ l2) → (¬ m 132 l2.toNatClampNeg = 35) → (¬ l1 = 0) → ez xs 61 9 [some (.ref 131), some (.int l1), some (.int (l2 + 1))] [] m Q)
    (g4 : (¬ m 131 0 ≤ l2) → (¬ m 132 l2.toNatClampNeg = 35) → (l1 = 0) → (m 132 l2.toNatClampNeg = 32) → ez xs 61 9 [some (.ref 131), some (.int l1), some (.int (l2 + 1))] [] m Q)
    (g5 : (¬ m 131 0 ≤ l2) → (¬ m 132 l2.toNatClampNeg = 35) → (l1 = 0) → (¬ m 132 l2.toNatClampNeg = 32) → ez xs 61 9 [some (.ref 131), some (.int l1), some (.int (l2 + 1))] [] (jj_up (jj_up (jj_up m 133 ((m 131 2).toNatClampNeg) (m 132 l2.toNatClampNeg)) 134 ((m 131 2).toNatClampNeg) l2) 131 2 ((m 131 2) + 1)) Q)
    (g6 : (¬ m 131 0 ≤ l2) → (m 132 l2.toNatClampNeg = 35) → (¬ l1 = 0) → ez xs 61 9 [some (.ref 131), some (.int 0), some (.int (l2 + 1))] [] m Q)
    (g7 : (¬ m 131 0 ≤ l2) → (m 132 l2.toNatClampNeg = 35) → (l1 = 0) → ez xs 61 9 [some (.ref 131), some (.int 1), some (.int (l2 + 1))] [] m Q) : ez xs 61 9 [some (.ref 131), some (.int l1), some (.int l2)] [] m Q := by
  refine ez_blk 3 rfl ?_
  show ez xs 61 14 [some (.ref 131), some (.int l1), some (.int l2)] [.int (m 131 0), .int l2] m Q
  refine ez_icmp_ge rfl (fun h1 => ?_) (fun h1 => ?_)
  · show ez xs 61 97 [some (.ref 131), some (.int l1), some (.int l2)] [] m Q
    refine ez_blk 1 rfl ?_
    show ez xs 61 98 [some (.ref 131), some (.int l1), some (.int l2)] [.int l1] m Q
    refine ez_if_ne rfl (fun h2 => ?_) (fun h2 => ?_)
    · show ez xs 61 105 [some (.ref 131), some (.int l1), some (.int l2)] [] m Q
      refine ez_blk 1 rfl ?_
      show ez xs 61 106 [some (.ref 131), some (.int l1), some (.int l2)] [.int 0] m Q
      exact ez_ret rfl (by decide) rfl (g1 h1 h2)
    · show ez xs 61 101 [some (.ref 131), some (.int l1), some (.int l2)] [] m Q
      refine ez_blk 2 rfl ?_
      show ez xs 61 106 [some (.ref 131), some (.int l1), some (.int l2)] [.int 1] m Q
      exact ez_ret rfl (by decide) rfl (g2 h1 h2)
  · show ez xs 61 17 [some (.ref 131), some (.int l1), some (.int l2)] [] m Q
    refine ez_blk 3 rfl ?_
    show ez xs 61 22 [some (.ref 131), some (.int l1), some (.int l2)] [.int l2, .ref 132] m Q
    refine ez_ialdv rfl (by decide) rfl (b1 h1) ?_
    show ez xs 61 23 [some (.ref 131), some (.int l1), some (.int l2)] [.int (m 132 l2.toNatClampNeg)] m Q
    refine ez_blk 1 rfl ?_
    show ez xs 61 25 [some (.ref 131), some (.int l1), some (.int l2)] [.int 35, .int (m 132 l2.toNatClampNeg)] m Q
    refine ez_icmp_ne rfl (fun h3 => ?_) (fun h3 => ?_)
    · show ez xs 61 41 [some (.ref 131), some (.int l1), some (.int l2)] [] m Q
      refine ez_blk 1 rfl ?_
      show ez xs 61 42 [some (.ref 131), some (.int l1), some (.int l2)] [.int l1] m Q
      refine ez_if_ne rfl (fun h4 => ?_) (fun h4 => ?_)
      · show ez xs 61 91 [some (.ref 131), some (.int l1), some (.int l2)] [] m Q
        refine ez_blk 2 rfl ?_
        show ez xs 61 9 [some (.ref 131), some (.int l1), some (.int (l2 + 1))] [] m Q
        exact g3 h1 h3 h4
      · show ez xs 61 45 [some (.ref 131), some (.int l1), some (.int l2)] [] m Q
        refine ez_blk 3 rfl ?_
        show ez xs 61 50 [some (.ref 131), some (.int l1), some (.int l2)] [.int l2, .ref 132] m Q
        refine ez_ialdv rfl (by decide) rfl (b2 h1 h3 h4) ?_
        show ez xs 61 51 [some (.ref 131), some (.int l1), some (.int l2)] [.int (m 132 l2.toNatClampNeg)] m Q
        refine ez_blk 1 rfl ?_
        show ez xs 61 53 [some (.ref 131), some (.int l1), some (.int l2)] [.int 32, .int (m 132 l2.toNatClampNeg)] m Q
        refine ez_icmp_eq rfl (fun h5 => ?_) (fun h5 => ?_)
        · show ez xs 61 91 [some (.ref 131), some (.int l1), some (.int l2)] [] m Q
          refine ez_blk 2 rfl ?_
          show ez xs 61 9 [some (.ref 131), some (.int l1), some (.int (l2 + 1))] [] m Q
          exact g4 h1 h3 h4 h5
        · show ez xs 61 56 [some (.ref 131), some (.int l1), some (.int l2)] [] m Q
          refine ez_blk 7 rfl ?_
          show ez xs 61 69 [some (.ref 131), some (.int l1), some (.int l2)] [.int l2, .ref 132, .int (m 131 2), .ref 133] m Q
          refine ez_ialdv rfl (by decide) rfl (b3 h1 h3 h4 h5) ?_
          show ez xs 61 70 [some (.ref 131), some (.int l1), some (.int l2)] [.int (m 132 l2.toNatClampNeg), .int (m 131 2), .ref 133] m Q
          refine ez_iastv rfl (by decide) rfl (b4 h1 h3 h4 h5) ?_
          show ez xs 61 71 [some (.ref 131), some (.int l1), some (.int l2)] [] (jj_up m 133 ((m 131 2).toNatClampNeg) (m 132 l2.toNatClampNeg)) Q
          refine ez_blk 5 rfl ?_
          show ez xs 61 80 [some (.ref 131), some (.int l1), some (.int l2)] [.int l2, .int (m 131 2), .ref 134] (jj_up m 133 ((m 131 2).toNatClampNeg) (m 132 l2.toNatClampNeg)) Q
          refine ez_iastv rfl (by decide) rfl (b5 h1 h3 h4 h5) ?_
          show ez xs 61 81 [some (.ref 131), some (.int l1), some (.int l2)] [] (jj_up (jj_up m 133 ((m 131 2).toNatClampNeg) (m 132 l2.toNatClampNeg)) 134 ((m 131 2).toNatClampNeg) l2) Q
          refine ez_blk 8 rfl ?_
          show ez xs 61 9 [some (.ref 131), some (.int l1), some (.int (l2 + 1))] [] (jj_up (jj_up (jj_up m 133 ((m 131 2).toNatClampNeg) (m 132 l2.toNatClampNeg)) 134 ((m 131 2).toNatClampNeg) l2) 131 2 ((m 131 2) + 1)) Q
          exact g5 h1 h3 h4 h5
    · show ez xs 61 28 [some (.ref 131), some (.int l1), some (.int l2)] [] m Q
      refine ez_blk 1 rfl ?_
      show ez xs 61 29 [some (.ref 131), some (.int l1), some (.int l2)] [.int l1] m Q
      refine ez_if_ne rfl (fun h6 => ?_) (fun h6 => ?_)
      · show ez xs 61 36 [some (.ref 131), some (.int l1), some (.int l2)] [] m Q
        refine ez_blk 5 rfl ?_
        show ez xs 61 9 [some (.ref 131), some (.int 0), some (.int (l2 + 1))] [] m Q
        exact g6 h1 h3 h6
      · show ez xs 61 32 [some (.ref 131), some (.int l1), some (.int l2)] [] m Q
        refine ez_blk 6 rfl ?_
        show ez xs 61 9 [some (.ref 131), some (.int 1), some (.int (l2 + 1))] [] m Q
        exact g7 h1 h3 h6
set_option maxRecDepth 100000 in
set_option maxHeartbeats 2000000 in
theorem c_M_node {xs : jx_Xs} {m : zM} {Q : Option Value → zM → Prop} {k i j f x y : Int32}
    (b1 : (¬ m 131 5 = 24) → vp_in (m 131 5) 24)
    (b2 : (¬ m 131 5 = 24) → vp_in (m 131 5) 24)
    (b3 : (¬ m 131 5 = 24) → vp_in (m 131 5) 24)
    (b4 : (¬ m 131 5 = 24) → vp_in (m 131 5) 24)
    (b5 : (¬ m 131 5 = 24) → vp_in i 160)
    (b6 : (¬ m 131 5 = 24) → vp_in (m 131 5) 24)
    (b7 : (¬ m 131 5 = 24) → vp_in j 160)
    (b8 : (¬ m 131 5 = 24) → vp_in (m 131 5) 24)
    (b9 : (¬ m 131 5 = 24) → vp_in (m 131 5) 24)
    (b10 : (¬ m 131 5 = 24) → vp_in (m 131 20) 7)
    (b11 : (¬ m 131 5 = 24) → vp_in (m 131 5) 24)
    (b12 : (¬ m 131 5 = 24) → vp_in i 160)
    (b13 : (¬ m 131 5 = 24) → (¬ m 133 i.toNatClampNeg = 42) → vp_in (m 131 5) 24)
    (b14 : (¬ m 131 5 = 24) → (¬ m 133 i.toNatClampNeg = 42) → vp_in ((2 : Int32) * (m 131 5)) 48)
    (b15 : (¬ m 131 5 = 24) → (¬ m 133 i.toNatClampNeg = 42) → vp_in (((2 : Int32) * (m 131 5)) + 1) 48)
    (b16 : (¬ m 131 5 = 24) → (¬ m 133 i.toNatClampNeg = 42) → vp_in (m 131 20) 7)
    (b17 : (¬ m 131 5 = 24) → (¬ m 133 i.toNatClampNeg = 42) → (m 148 (m 131 20).toNatClampNeg < 0) → vp_in (m 131 20) 7)
    (b18 : (¬ m 131 5 = 24) → (¬ m 133 i.toNatClampNeg = 42) → (m 148 (m 131 20).toNatClampNeg < 0) → (m 146 (m 131 20).toNatClampNeg < 0) → vp_in (m 131 20) 7)
    (b19 : (¬ m 131 5 = 24) → (¬ m 133 i.toNatClampNeg = 42) → (m 148 (m 131 20).toNatClampNeg < 0) → (¬ m 146 (m 131 20).toNatClampNeg < 0) → vp_in (m 131 20) 7)
    (b20 : (¬ m 131 5 = 24) → (¬ m 133 i.toNatClampNeg = 42) → (m 148 (m 131 20).toNatClampNeg < 0) → (¬ m 146 (m 131 20).toNatClampNeg < 0) → vp_in (m 131 20) 7)
    (b21 : (¬ m 131 5 = 24) → (¬ m 133 i.toNatClampNeg = 42) → (m 148 (m 131 20).toNatClampNeg < 0) → (¬ m 146 (m 131 20).toNatClampNeg < 0) → vp_in (((2 : Int32) * (m 146 (m 131 20).toNatClampNeg)) + (m 147 (m 131 20).toNatClampNeg)) 48)
    (b22 : (¬ m 131 5 = 24) → (¬ m 133 i.toNatClampNeg = 42) → (m 148 (m 131 20).toNatClampNeg < 0) → (¬ m 146 (m 131 20).toNatClampNeg < 0) → vp_in (m 131 20) 7)
    (b23 : (¬ m 131 5 = 24) → (¬ m 133 i.toNatClampNeg = 42) → (¬ m 148 (m 131 20).toNatClampNeg < 0) → vp_in (m 131 20) 7)
    (b24 : (¬ m 131 5 = 24) → (¬ m 133 i.toNatClampNeg = 42) → (¬ m 148 (m 131 20).toNatClampNeg < 0) → vp_in (m 148 (m 131 20).toNatClampNeg) 24)
    (b25 : (¬ m 131 5 = 24) → (¬ m 133 i.toNatClampNeg = 42) → (¬ m 148 (m 131 20).toNatClampNeg < 0) → vp_in (m 131 20) 7)
    (b26 : (¬ m 131 5 = 24) → (m 133 i.toNatClampNeg = 42) → vp_in (m 131 5) 24)
    (b27 : (¬ m 131 5 = 24) → (m 133 i.toNatClampNeg = 42) → vp_in ((2 : Int32) * (m 131 5)) 48)
    (b28 : (¬ m 131 5 = 24) → (m 133 i.toNatClampNeg = 42) → vp_in (((2 : Int32) * (m 131 5)) + 1) 48)
    (b29 : (¬ m 131 5 = 24) → (m 133 i.toNatClampNeg = 42) → vp_in (m 131 20) 7)
    (b30 : (¬ m 131 5 = 24) → (m 133 i.toNatClampNeg = 42) → (m 148 (m 131 20).toNatClampNeg < 0) → vp_in (m 131 20) 7)
    (b31 : (¬ m 131 5 = 24) → (m 133 i.toNatClampNeg = 42) → (m 148 (m 131 20).toNatClampNeg < 0) → (m 146 (m 131 20).toNatClampNeg < 0) → vp_in (m 131 20) 7)
    (b32 : (¬ m 131 5 = 24) → (m 133 i.toNatClampNeg = 42) → (m 148 (m 131 20).toNatClampNeg < 0) → (¬ m 146 (m 131 20).toNatClampNeg < 0) → vp_in (m 131 20) 7)
    (b33 : (¬ m 131 5 = 24) → (m 133 i.toNatClampNeg = 42) → (m 148 (m 131 20).toNatClampNeg < 0) → (¬ m 146 (m 131 20).toNatClampNeg < 0) → vp_in (m 131 20) 7)
    (b34 : (¬ m 131 5 = 24) → (m 133 i.toNatClampNeg = 42) → (m 148 (m 131 20).toNatClampNeg < 0) → (¬ m 146 (m 131 20).toNatClampNeg < 0) → vp_in (((2 : Int32) * (m 146 (m 131 20).toNatClampNeg)) + (m 147 (m 131 20).toNatClampNeg)) 48)
    (b35 : (¬ m 131 5 = 24) → (m 133 i.toNatClampNeg = 42) → (m 148 (m 131 20).toNatClampNeg < 0) → (¬ m 146 (m 131 20).toNatClampNeg < 0) → vp_in (m 131 20) 7)
    (b36 : (¬ m 131 5 = 24) → (m 133 i.toNatClampNeg = 42) → (¬ m 148 (m 131 20).toNatClampNeg < 0) → vp_in (m 131 20) 7)
    (b37 : (¬ m 131 5 = 24) → (m 133 i.toNatClampNeg = 42) → (¬ m 148 (m 131 20).toNatClampNeg < 0) → vp_in (m 148 (m 131 20).toNatClampNeg) 24)
    (b38 : (¬ m 131 5 = 24) → (m 133 i.toNatClampNeg = 42) → (¬ m 148 (m 131 20).toNatClampNeg < 0) → vp_in (m 131 20) 7)
    (g1 : (¬ m 131 5 = 24) → (¬ m 133 i.toNatClampNeg = 42) → (m 148 (m 131 20).toNatClampNeg < 0) → (m 146 (m 131 20).toNatClampNeg < 0) → Q (some (.int 1)) (jj_up (jj_up (jj_up (jj_up (jj_up (jj_up (jj_up (jj_up (jj_up (jj_up (jj_up (jj_up (jj_up m 135 ((m 131 5).toNatClampNeg) k) 136 ((m 131 5).toNatClampNeg) f) 137 ((m 131 5).toNatClampNeg) x) 138 ((m 131 5).toNatClampNeg) y) 139 ((m 131 5).toNatClampNeg) (m 134 i.toNatClampNeg)) 140 ((m 131 5).toNatClampNeg) (m 134 j.toNatClampNeg)) 142 ((m 131 5).toNatClampNeg) (-1)) 141 ((m 131 5).toNatClampNeg) (m 146 (m 131 20).toNatClampNeg)) 143 ((m 131 5).toNatClampNeg) (vp_nar .boolean 0)) 144 (((2 : Int32) * (m 131 5)).toNatClampNeg) (-1)) 144 ((((2 : Int32) * (m 131 5)) + 1).toNatClampNeg) (-1)) 148 ((m 131 20).toNatClampNeg) (m 131 5)) 131 5 ((m 131 5) + 1)))
    (g2 : (¬ m 131 5 = 24) → (¬ m 133 i.toNatClampNeg = 42) → (m 148 (m 131 20).toNatClampNeg < 0) → (¬ m 146 (m 131 20).toNatClampNeg < 0) → Q (some (.int 1)) (jj_up (jj_up (jj_up (jj_up (jj_up (jj_up (jj_up (jj_up (jj_up (jj_up (jj_up (jj_up (jj_up (jj_up m 135 ((m 131 5).toNatClampNeg) k) 136 ((m 131 5).toNatClampNeg) f) 137 ((m 131 5).toNatClampNeg) x) 138 ((m 131 5).toNatClampNeg) y) 139 ((m 131 5).toNatClampNeg) (m 134 i.toNatClampNeg)) 140 ((m 131 5).toNatClampNeg) (m 134 j.toNatClampNeg)) 142 ((m 131 5).toNatClampNeg) (-1)) 141 ((m 131 5).toNatClampNeg) (m 146 (m 131 20).toNatClampNeg)) 143 ((m 131 5).toNatClampNeg) (vp_nar .boolean 0)) 144 (((2 : Int32) * (m 131 5)).toNatClampNeg) (-1)) 144 ((((2 : Int32) * (m 131 5)) + 1).toNatClampNeg) (-1)) 144 ((((2 : Int32) * (m 146 (m 131 20).toNatClampNeg)) + (m 147 (m 131 20).toNatClampNeg)).toNatClampNeg) (m 131 5)) 148 ((m 131 20).toNatClampNeg) (m 131 5)) 131 5 ((m 131 5) + 1)))
    (g3 : (¬ m 131 5 = 24) → (¬ m 133 i.toNatClampNeg = 42) → (¬ m 148 (m 131 20).toNatClampNeg < 0) → Q (some (.int 1)) (jj_up (jj_up (jj_up (jj_up (jj_up (jj_up (jj_up (jj_up (jj_up (jj_up (jj_up (jj_up (jj_up (jj_up m 135 ((m 131 5).toNatClampNeg) k) 136 ((m 131 5).toNatClampNeg) f) 137 ((m 131 5).toNatClampNeg) x) 138 ((m 131 5).toNatClampNeg) y) 139 ((m 131 5).toNatClampNeg) (m 134 i.toNatClampNeg)) 140 ((m 131 5).toNatClampNeg) (m 134 j.toNatClampNeg)) 142 ((m 131 5).toNatClampNeg) (-1)) 141 ((m 131 5).toNatClampNeg) (m 146 (m 131 20).toNatClampNeg)) 143 ((m 131 5).toNatClampNeg) (vp_nar .boolean 0)) 144 (((2 : Int32) * (m 131 5)).toNatClampNeg) (-1)) 144 ((((2 : Int32) * (m 131 5)) + 1).toNatClampNeg) (-1)) 142 ((m 148 (m 131 20).toNatClampNeg).toNatClampNeg) (m 131 5)) 148 ((m 131 20).toNatClampNeg) (m 131 5)) 131 5 ((m 131 5) + 1)))
    (g4 : (¬ m 131 5 = 24) → (m 133 i.toNatClampNeg = 42) → (m 148 (m 131 20).toNatClampNeg < 0) → (m 146 (m 131 20).toNatClampNeg < 0) → Q (some (.int 1)) (jj_up (jj_up (jj_up (jj_up (jj_up (jj_up (jj_up (jj_up (jj_up (jj_up (jj_up (jj_up (jj_up m 135 ((m 131 5).toNatClampNeg) k) 136 ((m 131 5).toNatClampNeg) f) 137 ((m 131 5).toNatClampNeg) x) 138 ((m 131 5).toNatClampNeg) y) 139 ((m 131 5).toNatClampNeg) (m 134 i.toNatClampNeg)) 140 ((m 131 5).toNatClampNeg) (m 134 j.toNatClampNeg)) 142 ((m 131 5).toNatClampNeg) (-1)) 141 ((m 131 5).toNatClampNeg) (m 146 (m 131 20).toNatClampNeg)) 143 ((m 131 5).toNatClampNeg) (vp_nar .boolean 1)) 144 (((2 : Int32) * (m 131 5)).toNatClampNeg) (-1)) 144 ((((2 : Int32) * (m 131 5)) + 1).toNatClampNeg) (-1)) 148 ((m 131 20).toNatClampNeg) (m 131 5)) 131 5 ((m 131 5) + 1)))
    (g5 : (¬ m 131 5 = 24) → (m 133 i.toNatClampNeg = 42) → (m 148 (m 131 20).toNatClampNeg < 0) → (¬ m 146 (m 131 20).toNatClampNeg < 0) → Q (some (.int 1)) (jj_up (jj_up (jj_up (jj_up (jj_up (jj_up (jj_up (jj_up (jj_up (jj_up (jj_up (jj_up (jj_up (jj_up m 135 ((m 131 5).toNatClampNeg) k) 136 ((m 131 5).toNatClampNeg) f) 137 ((m 131 5).toNatClampNeg) x) 138 ((m 131 5).toNatClampNeg) y) 139 ((m 131 5).toNatClampNeg) (m 134 i.toNatClampNeg)) 140 ((m 131 5).toNatClampNeg) (m 134 j.toNatClampNeg)) 142 ((m 131 5).toNatClampNeg) (-1)) 141 ((m 131 5).toNatClampNeg) (m 146 (m 131 20).toNatClampNeg)) 143 ((m 131 5).toNatClampNeg) (vp_nar .boolean 1)) 144 (((2 : Int32) * (m 131 5)).toNatClampNeg) (-1)) 144 ((((2 : Int32) * (m 131 5)) + 1).toNatClampNeg) (-1)) 144 ((((2 : Int32) * (m 146 (m 131 20).toNatClampNeg)) + (m 147 (m 131 20).toNatClampNeg)).toNatClampNeg) (m 131 5)) 148 ((m 131 20).toNatClampNeg) (m 131 5)) 131 5 ((m 131 5) + 1)))
    (g6 : (¬ m 131 5 = 24) → (m 133 i.toNatClampNeg = 42) → (¬ m 148 (m 131 20).toNatClampNeg < 0) → Q (some (.int 1)) (jj_up (jj_up (jj_up (jj_up (jj_up (jj_up (jj_up (jj_up (jj_up (jj_up (jj_up (jj_up (jj_up (jj_up m 135 ((m 131 5).toNatClampNeg) k) 136 ((m 131 5).toNatClampNeg) f) 137 ((m 131 5).toNatClampNeg) x) 138 ((m 131 5).toNatClampNeg) y) 139 ((m 131 5).toNatClampNeg) (m 134 i.toNatClampNeg)) 140 ((m 131 5).toNatClampNeg) (m 134 j.toNatClampNeg)) 142 ((m 131 5).toNatClampNeg) (-1)) 141 ((m 131 5).toNatClampNeg) (m 146 (m 131 20).toNatClampNeg)) 143 ((m 131 5).toNatClampNeg) (vp_nar .boolean 1)) 144 (((2 : Int32) * (m 131 5)).toNatClampNeg) (-1)) 144 ((((2 : Int32) * (m 131 5)) + 1).toNatClampNeg) (-1)) 142 ((m 148 (m 131 20).toNatClampNeg).toNatClampNeg) (m 131 5)) 148 ((m 131 20).toNatClampNeg) (m 131 5)) 131 5 ((m 131 5) + 1)))
    (g7 : (m 131 5 = 24) → Q (some (.int 0)) m) : ez xs 66 0 (jx_ent 66 [.ref 131, .int k, .int i, .int j, .int f, .int x, .int y]) [] m Q := by
  refine ez_blk 3 rfl ?_
  show ez xs 66 6 [some (.ref 131), some (.int k), some (.int i), some (.int j), some (.int f), some (.int x), some (.int y), none] [.int 24, .int (m 131 5)] m Q
  refine ez_icmp_ne rfl (fun h1 => ?_) (fun h1 => ?_)
  · show ez xs 66 11 [some (.ref 131), some (.int k), some (.int i), some (.int j), some (.int f), some (.int x), some (.int y), none] [] m Q
    refine ez_blk 7 rfl ?_
    show ez xs 66 24 [some (.ref 131), some (.int k), some (.int i), some (.int j), some (.int f), some (.int x), some (.int y), some (.int (m 131 5))] [.int k, .int (m 131 5), .ref 135] m Q
    refine ez_iastv rfl (by decide) rfl (b1 h1) ?_
    show ez xs 66 25 [some (.ref 131), some (.int k), some (.int i), some (.int j), some (.int f), some (.int x), some (.int y), some (.int (m 131 5))] [] (jj_up m 135 ((m 131 5).toNatClampNeg) k) Q
    refine ez_blk 4 rfl ?_
    show ez xs 66 33 [some (.ref 131), some (.int k), some (.int i), some (.int j), some (.int f), some (.int x), some (.int y), some (.int (m 131 5))] [.int f, .int (m 131 5), .ref 136] (jj_up m 135 ((m 131 5).toNatClampNeg) k) Q
    refine ez_iastv rfl (by decide) rfl (b2 h1) ?_
    show ez xs 66 34 [some (.ref 131), some (.int k), some (.int i), some (.int j), some (.int f), some (.int x), some (.int y), some (.int (m 131 5))] [] (jj_up (jj_up m 135 ((m 131 5).toNatClampNeg) k) 136 ((m 131 5).toNatClampNeg) f) Q
    refine ez_blk 4 rfl ?_
    show ez xs 66 42 [some (.ref 131), some (.int k), some (.int i), some (.int j), some (.int f), some (.int x), some (.int y), some (.int (m 131 5))] [.int x, .int (m 131 5), .ref 137] (jj_up (jj_up m 135 ((m 131 5).toNatClampNeg) k) 136 ((m 131 5).toNatClampNeg) f) Q
    refine ez_iastv rfl (by decide) rfl (b3 h1) ?_
    show ez xs 66 43 [some (.ref 131), some (.int k), some (.int i), some (.int j), some (.int f), some (.int x), some (.int y), some (.int (m 131 5))] [] (jj_up (jj_up (jj_up m 135 ((m 131 5).toNatClampNeg) k) 136 ((m 131 5).toNatClampNeg) f) 137 ((m 131 5).toNatClampNeg) x) Q
    refine ez_blk 4 rfl ?_
    show ez xs 66 51 [some (.ref 131), some (.int k), some (.int i), some (.int j), some (.int f), some (.int x), some (.int y), some (.int (m 131 5))] [.int y, .int (m 131 5), .ref 138] (jj_up (jj_up (jj_up m 135 ((m 131 5).toNatClampNeg) k) 136 ((m 131 5).toNatClampNeg) f) 137 ((m 131 5).toNatClampNeg) x) Q
    refine ez_iastv rfl (by decide) rfl (b4 h1) ?_
    show ez xs 66 52 [some (.ref 131), some (.int k), some (.int i), some (.int j), some (.int f), some (.int x), some (.int y), some (.int (m 131 5))] [] (jj_up (jj_up (jj_up (jj_up m 135 ((m 131 5).toNatClampNeg) k) 136 ((m 131 5).toNatClampNeg) f) 137 ((m 131 5).toNatClampNeg) x) 138 ((m 131 5).toNatClampNeg) y) Q
    refine ez_blk 6 rfl ?_
    show ez xs 66 63 [some (.ref 131), some (.int k), some (.int i), some (.int j), some (.int f), some (.int x), some (.int y), some (.int (m 131 5))] [.int i, .ref 134, .int (m 131 5), .ref 139] (jj_up (jj_up (jj_up (jj_up m 135 ((m 131 5).toNatClampNeg) k) 136 ((m 131 5).toNatClampNeg) f) 137 ((m 131 5).toNatClampNeg) x) 138 ((m 131 5).toNatClampNeg) y) Q
    refine ez_ialdv rfl (by decide) rfl (b5 h1) ?_
    show ez xs 66 64 [some (.ref 131), some (.int k), some (.int i), some (.int j), some (.int f), some (.int x), some (.int y), some (.int (m 131 5))] [.int (m 134 i.toNatClampNeg), .int (m 131 5), .ref 139] (jj_up (jj_up (jj_up (jj_up m 135 ((m 131 5).toNatClampNeg) k) 136 ((m 131 5).toNatClampNeg) f) 137 ((m 131 5).toNatClampNeg) x) 138 ((m 131 5).toNatClampNeg) y) Q
    refine ez_iastv rfl (by decide) rfl (b6 h1) ?_
    show ez xs 66 65 [some (.ref 131), some (.int k), some (.int i), some (.int j), some (.int f), some (.int x), some (.int y), some (.int (m 131 5))] [] (jj_up (jj_up (jj_up (jj_up (jj_up m 135 ((m 131 5).toNatClampNeg) k) 136 ((m 131 5).toNatClampNeg) f) 137 ((m 131 5).toNatClampNeg) x) 138 ((m 131 5).toNatClampNeg) y) 139 ((m 131 5).toNatClampNeg) (m 134 i.toNatClampNeg)) Q
    refine ez_blk 6 rfl ?_
    show ez xs 66 76 [some (.ref 131), some (.int k), some (.int i), some (.int j), some (.int f), some (.int x), some (.int y), some (.int (m 131 5))] [.int j, .ref 134, .int (m 131 5), .ref 140] (jj_up (jj_up (jj_up (jj_up (jj_up m 135 ((m 131 5).toNatClampNeg) k) 136 ((m 131 5).toNatClampNeg) f) 137 ((m 131 5).toNatClampNeg) x) 138 ((m 131 5).toNatClampNeg) y) 139 ((m 131 5).toNatClampNeg) (m 134 i.toNatClampNeg)) Q
    refine ez_ialdv rfl (by decide) rfl (b7 h1) ?_
    show ez xs 66 77 [some (.ref 131), some (.int k), some (.int i), some (.int j), some (.int f), some (.int x), some (.int y), some (.int (m 131 5))] [.int (m 134 j.toNatClampNeg), .int (m 131 5), .ref 140] (jj_up (jj_up (jj_up (jj_up (jj_up m 135 ((m 131 5).toNatClampNeg) k) 136 ((m 131 5).toNatClampNeg) f) 137 ((m 131 5).toNatClampNeg) x) 138 ((m 131 5).toNatClampNeg) y) 139 ((m 131 5).toNatClampNeg) (m 134 i.toNatClampNeg)) Q
    refine ez_iastv rfl (by decide) rfl (b8 h1) ?_
    show ez xs 66 78 [some (.ref 131), some (.int k), some (.int i), some (.int j), some (.int f), some (.int x), some (.int y), some (.int (m 131 5))] [] (jj_up (jj_up (jj_up (jj_up (jj_up (jj_up m 135 ((m 131 5).toNatClampNeg) k) 136 ((m 131 5).toNatClampNeg) f) 137 ((m 131 5).toNatClampNeg) x) 138 ((m 131 5).toNatClampNeg) y) 139 ((m 131 5).toNatClampNeg) (m 134 i.toNatClampNeg)) 140 ((m 131 5).toNatClampNeg) (m 134 j.toNatClampNeg)) Q
    refine ez_blk 4 rfl ?_
    show ez xs 66 85 [some (.ref 131), some (.int k), some (.int i), some (.int j), some (.int f), some (.int x), some (.int y), some (.int (m 131 5))] [.int (-1), .int (m 131 5), .ref 142] (jj_up (jj_up (jj_up (jj_up (jj_up (jj_up m 135 ((m 131 5).toNatClampNeg) k) 136 ((m 131 5).toNatClampNeg) f) 137 ((m 131 5).toNatClampNeg) x) 138 ((m 131 5).toNatClampNeg) y) 139 ((m 131 5).toNatClampNeg) (m 134 i.toNatClampNeg)) 140 ((m 131 5).toNatClampNeg) (m 134 j.toNatClampNeg)) Q
    refine ez_iastv rfl (by decide) rfl (b9 h1) ?_
    show ez xs 66 86 [some (.ref 131), some (.int k), some (.int i), some (.int j), some (.int f), some (.int x), some (.int y), some (.int (m 131 5))] [] (jj_up (jj_up (jj_up (jj_up (jj_up (jj_up (jj_up m 135 ((m 131 5).toNatClampNeg) k) 136 ((m 131 5).toNatClampNeg) f) 137 ((m 131 5).toNatClampNeg) x) 138 ((m 131 5).toNatClampNeg) y) 139 ((m 131 5).toNatClampNeg) (m 134 i.toNatClampNeg)) 140 ((m 131 5).toNatClampNeg) (m 134 j.toNatClampNeg)) 142 ((m 131 5).toNatClampNeg) (-1)) Q
    refine ez_blk 7 rfl ?_
    show ez xs 66 100 [some (.ref 131), some (.int k), some (.int i), some (.int j), some (.int f), some (.int x), some (.int y), some (.int (m 131 5))] [.int (m 131 20), .ref 146, .int (m 131 5), .ref 141] (jj_up (jj_up (jj_up (jj_up (jj_up (jj_up (jj_up m 135 ((m 131 5).toNatClampNeg) k) 136 ((m 131 5).toNatClampNeg) f) 137 ((m 131 5).toNatClampNeg) x) 138 ((m 131 5).toNatClampNeg) y) 139 ((m 131 5).toNatClampNeg) (m 134 i.toNatClampNeg)) 140 ((m 131 5).toNatClampNeg) (m 134 j.toNatClampNeg)) 142 ((m 131 5).toNatClampNeg) (-1)) Q
    refine ez_ialdv rfl (by decide) rfl (b10 h1) ?_
    show ez xs 66 101 [some (.ref 131), some (.int k), some (.int i), some (.int j), some (.int f), some (.int x), some (.int y), some (.int (m 131 5))] [.int (m 146 (m 131 20).toNatClampNeg), .int (m 131 5), .ref 141] (jj_up (jj_up (jj_up (jj_up (jj_up (jj_up (jj_up m 135 ((m 131 5).toNatClampNeg) k) 136 ((m 131 5).toNatClampNeg) f) 137 ((m 131 5).toNatClampNeg) x) 138 ((m 131 5).toNatClampNeg) y) 139 ((m 131 5).toNatClampNeg) (m 134 i.toNatClampNeg)) 140 ((m 131 5).toNatClampNeg) (m 134 j.toNatClampNeg)) 142 ((m 131 5).toNatClampNeg) (-1)) Q
    refine ez_iastv rfl (by decide) rfl (b11 h1) ?_
    show ez xs 66 102 [some (.ref 131), some (.int k), some (.int i), some (.int j), some (.int f), some (.int x), some (.int y), some (.int (m 131 5))] [] (jj_up (jj_up (jj_up (jj_up (jj_up (jj_up (jj_up (jj_up m 135 ((m 131 5).toNatClampNeg) k) 136 ((m 131 5).toNatClampNeg) f) 137 ((m 131 5).toNatClampNeg) x) 138 ((m 131 5).toNatClampNeg) y) 139 ((m 131 5).toNatClampNeg) (m 134 i.toNatClampNeg)) 140 ((m 131 5).toNatClampNeg) (m 134 j.toNatClampNeg)) 142 ((m 131 5).toNatClampNeg) (-1)) 141 ((m 131 5).toNatClampNeg) (m 146 (m 131 20).toNatClampNeg)) Q
    refine ez_blk 6 rfl ?_
    show ez xs 66 113 [some (.ref 131), some (.int k), some (.int i), some (.int j), some (.int f), some (.int x), some (.int y), some (.int (m 131 5))] [.int i, .ref 133, .int (m 131 5), .ref 143] (jj_up (jj_up (jj_up (jj_up (jj_up (jj_up (jj_up (jj_up m 135 ((m 131 5).toNatClampNeg) k) 136 ((m 131 5).toNatClampNeg) f) 137 ((m 131 5).toNatClampNeg) x) 138 ((m 131 5).toNatClampNeg) y) 139 ((m 131 5).toNatClampNeg) (m 134 i.toNatClampNeg)) 140 ((m 131 5).toNatClampNeg) (m 134 j.toNatClampNeg)) 142 ((m 131 5).toNatClampNeg) (-1)) 141 ((m 131 5).toNatClampNeg) (m 146 (m 131 20).toNatClampNeg)) Q
    refine ez_ialdv rfl (by decide) rfl (b12 h1) ?_
    show ez xs 66 114 [some (.ref 131), some (.int k), some (.int i), some (.int j), some (.int f), some (.int x), some (.int y), some (.int (m 131 5))] [.int (m 133 i.toNatClampNeg), .int (m 131 5), .ref 143] (jj_up (jj_up (jj_up (jj_up (jj_up (jj_up (jj_up (jj_up m 135 ((m 131 5).toNatClampNeg) k) 136 ((m 131 5).toNatClampNeg) f) 137 ((m 131 5).toNatClampNeg) x) 138 ((m 131 5).toNatClampNeg) y) 139 ((m 131 5).toNatClampNeg) (m 134 i.toNatClampNeg)) 140 ((m 131 5).toNatClampNeg) (m 134 j.toNatClampNeg)) 142 ((m 131 5).toNatClampNeg) (-1)) 141 ((m 131 5).toNatClampNeg) (m 146 (m 131 20).toNatClampNeg)) Q
    refine ez_blk 1 rfl ?_
    show ez xs 66 116 [some (.ref 131), some (.int k), some (.int i), some (.int j), some (.int f), some (.int x), some (.int y), some (.int (m 131 5))] [.int 42, .int (m 133 i.toNatClampNeg), .int (m 131 5), .ref 143] (jj_up (jj_up (jj_up (jj_up (jj_up (jj_up (jj_up (jj_up m 135 ((m 131 5).toNatClampNeg) k) 136 ((m 131 5).toNatClampNeg) f) 137 ((m 131 5).toNatClampNeg) x) 138 ((m 131 5).toNatClampNeg) y) 139 ((m 131 5).toNatClampNeg) (m 134 i.toNatClampNeg)) 140 ((m 131 5).toNatClampNeg) (m 134 j.toNatClampNeg)) 142 ((m 131 5).toNatClampNeg) (-1)) 141 ((m 131 5).toNatClampNeg) (m 146 (m 131 20).toNatClampNeg)) Q
    refine ez_icmp_ne rfl (fun h2 => ?_) (fun h2 => ?_)
    · show ez xs 66 123 [some (.ref 131), some (.int k), some (.int i), some (.int j), some (.int f), some (.int x), some (.int y), some (.int (m 131 5))] [.int (m 131 5), .ref 143] (jj_up (jj_up (jj_up (jj_up (jj_up (jj_up (jj_up (jj_up m 135 ((m 131 5).toNatClampNeg) k) 136 ((m 131 5).toNatClampNeg) f) 137 ((m 131 5).toNatClampNeg) x) 138 ((m 131 5).toNatClampNeg) y) 139 ((m 131 5).toNatClampNeg) (m 134 i.toNatClampNeg)) 140 ((m 131 5).toNatClampNeg) (m 134 j.toNatClampNeg)) 142 ((m 131 5).toNatClampNeg) (-1)) 141 ((m 131 5).toNatClampNeg) (m 146 (m 131 20).toNatClampNeg)) Q
      refine ez_blk 1 rfl ?_
      show ez xs 66 124 [some (.ref 131), some (.int k), some (.int i), some (.int j), some (.int f), some (.int x), some (.int y), some (.int (m 131 5))] [.int 0, .int (m 131 5), .ref 143] (jj_up (jj_up (jj_up (jj_up (jj_up (jj_up (jj_up (jj_up m 135 ((m 131 5).toNatClampNeg) k) 136 ((m 131 5).toNatClampNeg) f) 137 ((m 131 5).toNatClampNeg) x) 138 ((m 131 5).toNatClampNeg) y) 139 ((m 131 5).toNatClampNeg) (m 134 i.toNatClampNeg)) 140 ((m 131 5).toNatClampNeg) (m 134 j.toNatClampNeg)) 142 ((m 131 5).toNatClampNeg) (-1)) 141 ((m 131 5).toNatClampNeg) (m 146 (m 131 20).toNatClampNeg)) Q
      refine ez_zastv rfl (by decide) rfl (b13 h1 h2) ?_
      show ez xs 66 125 [some (.ref 131), some (.int k), some (.int i), some (.int j), some (.int f), some (.int x), some (.int y), some (.int (m 131 5))] [] (jj_up (jj_up (jj_up (jj_up (jj_up (jj_up (jj_up (jj_up (jj_up m 135 ((m 131 5).toNatClampNeg) k) 136 ((m 131 5).toNatClampNeg) f) 137 ((m 131 5).toNatClampNeg) x) 138 ((m 131 5).toNatClampNeg) y) 139 ((m 131 5).toNatClampNeg) (m 134 i.toNatClampNeg)) 140 ((m 131 5).toNatClampNeg) (m 134 j.toNatClampNeg)) 142 ((m 131 5).toNatClampNeg) (-1)) 141 ((m 131 5).toNatClampNeg) (m 146 (m 131 20).toNatClampNeg)) 143 ((m 131 5).toNatClampNeg) (vp_nar .boolean 0)) Q
      refine ez_blk 6 rfl ?_
      show ez xs 66 134 [some (.ref 131), some (.int k), some (.int i), some (.int j), some (.int f), some (.int x), some (.int y), some (.int (m 131 5))] [.int (-1), .int ((2 : Int32) * (m 131 5)), .ref 144] (jj_up (jj_up (jj_up (jj_up (jj_up (jj_up (jj_up (jj_up (jj_up m 135 ((m 131 5).toNatClampNeg) k) 136 ((m 131 5).toNatClampNeg) f) 137 ((m 131 5).toNatClampNeg) x) 138 ((m 131 5).toNatClampNeg) y) 139 ((m 131 5).toNatClampNeg) (m 134 i.toNatClampNeg)) 140 ((m 131 5).toNatClampNeg) (m 134 j.toNatClampNeg)) 142 ((m 131 5).toNatClampNeg) (-1)) 141 ((m 131 5).toNatClampNeg) (m 146 (m 131 20).toNatClampNeg)) 143 ((m 131 5).toNatClampNeg) (vp_nar .boolean 0)) Q
      refine ez_iastv rfl (by decide) rfl (b14 h1 h2) ?_
      show ez xs 66 135 [some (.ref 131), some (.int k), some (.int i), some (.int j), some (.int f), some (.int x), some (.int y), some (.int (m 131 5))] [] (jj_up (jj_up (jj_up (jj_up (jj_up (jj_up (jj_up (jj_up (jj_up (jj_up m 135 ((m 131 5).toNatClampNeg) k) 136 ((m 131 5).toNatClampNeg) f) 137 ((m 131 5).toNatClampNeg) x) 138 ((m 131 5).toNatClampNeg) y) 139 ((m 131 5).toNatClampNeg) (m 134 i.toNatClampNeg)) 140 ((m 131 5).toNatClampNeg) (m 134 j.toNatClampNeg)) 142 ((m 131 5).toNatClampNeg) (-1)) 141 ((m 131 5).toNatClampNeg) (m 146 (m 131 20).toNatClampNeg)) 143 ((m 131 5).toNatClampNeg) (vp_nar .boolean 0)) 144 (((2 : Int32) * (m 131 5)).toNatClampNeg) (-1)) Q
      refine ez_blk 8 rfl ?_
      show ez xs 66 146 [some (.ref 131), some (.int k), some (.int i), some (.int j), some (.int f), some (.int x), some (.int y), some (.int (m 131 5))] [.int (-1), .int (((2 : Int32) * (m 131 5)) + 1), .ref 144] (jj_up (jj_up (jj_up (jj_up (jj_up (jj_up (jj_up (jj_up (jj_up (jj_up m 135 ((m 131 5).toNatClampNeg) k) 136 ((m 131 5).toNatClampNeg) f) 137 ((m 131 5).toNatClampNeg) x) 138 ((m 131 5).toNatClampNeg) y) 139 ((m 131 5).toNatClampNeg) (m 134 i.toNatClampNeg)) 140 ((m 131 5).toNatClampNeg) (m 134 j.toNatClampNeg)) 142 ((m 131 5).toNatClampNeg) (-1)) 141 ((m 131 5).toNatClampNeg) (m 146 (m 131 20).toNatClampNeg)) 143 ((m 131 5).toNatClampNeg) (vp_nar .boolean 0)) 144 (((2 : Int32) * (m 131 5)).toNatClampNeg) (-1)) Q
      refine ez_iastv rfl (by decide) rfl (b15 h1 h2) ?_
      show ez xs 66 147 [some (.ref 131), some (.int k), some (.int i), some (.int j), some (.int f), some (.int x), some (.int y), some (.int (m 131 5))] [] (jj_up (jj_up (jj_up (jj_up (jj_up (jj_up (jj_up (jj_up (jj_up (jj_up (jj_up m 135 ((m 131 5).toNatClampNeg) k) 136 ((m 131 5).toNatClampNeg) f) 137 ((m 131 5).toNatClampNeg) x) 138 ((m 131 5).toNatClampNeg) y) 139 ((m 131 5).toNatClampNeg) (m 134 i.toNatClampNeg)) 140 ((m 131 5).toNatClampNeg) (m 134 j.toNatClampNeg)) 142 ((m 131 5).toNatClampNeg) (-1)) 141 ((m 131 5).toNatClampNeg) (m 146 (m 131 20).toNatClampNeg)) 143 ((m 131 5).toNatClampNeg) (vp_nar .boolean 0)) 144 (((2 : Int32) * (m 131 5)).toNatClampNeg) (-1)) 144 ((((2 : Int32) * (m 131 5)) + 1).toNatClampNeg) (-1)) Q
      refine ez_blk 4 rfl ?_
      show ez xs 66 155 [some (.ref 131), some (.int k), some (.int i), some (.int j), some (.int f), some (.int x), some (.int y), some (.int (m 131 5))] [.int (m 131 20), .ref 148] (jj_up (jj_up (jj_up (jj_up (jj_up (jj_up (jj_up (jj_up (jj_up (jj_up (jj_up m 135 ((m 131 5).toNatClampNeg) k) 136 ((m 131 5).toNatClampNeg) f) 137 ((m 131 5).toNatClampNeg) x) 138 ((m 131 5).toNatClampNeg) y) 139 ((m 131 5).toNatClampNeg) (m 134 i.toNatClampNeg)) 140 ((m 131 5).toNatClampNeg) (m 134 j.toNatClampNeg)) 142 ((m 131 5).toNatClampNeg) (-1)) 141 ((m 131 5).toNatClampNeg) (m 146 (m 131 20).toNatClampNeg)) 143 ((m 131 5).toNatClampNeg) (vp_nar .boolean 0)) 144 (((2 : Int32) * (m 131 5)).toNatClampNeg) (-1)) 144 ((((2 : Int32) * (m 131 5)) + 1).toNatClampNeg) (-1)) Q
      refine ez_ialdv rfl (by decide) rfl (b16 h1 h2) ?_
      show ez xs 66 156 [some (.ref 131), some (.int k), some (.int i), some (.int j), some (.int f), some (.int x), some (.int y), some (.int (m 131 5))] [.int (m 148 (m 131 20).toNatClampNeg)] (jj_up (jj_up (jj_up (jj_up (jj_up (jj_up (jj_up (jj_up (jj_up (jj_up (jj_up m 135 ((m 131 5).toNatClampNeg) k) 136 ((m 131 5).toNatClampNeg) f) 137 ((m 131 5).toNatClampNeg) x) 138 ((m 131 5).toNatClampNeg) y) 139 ((m 131 5).toNatClampNeg) (m 134 i.toNatClampNeg)) 140 ((m 131 5).toNatClampNeg) (m 134 j.toNatClampNeg)) 142 ((m 131 5).toNatClampNeg) (-1)) 141 ((m 131 5).toNatClampNeg) (m 146 (m 131 20).toNatClampNeg)) 143 ((m 131 5).toNatClampNeg) (vp_nar .boolean 0)) 144 (((2 : Int32) * (m 131 5)).toNatClampNeg) (-1)) 144 ((((2 : Int32) * (m 131 5)) + 1).toNatClampNeg) (-1)) Q
      refine ez_if_lt rfl (fun h3 => ?_) (fun h3 => ?_)
      · show ez xs 66 178 [some (.ref 131), some (.int k), some (.int i), some (.int j), some (.int f), some (.int x), some (.int y), some (.int (m 131 5))] [] (jj_up (jj_up (jj_up (jj_up (jj_up (jj_up (jj_up (jj_up (jj_up (jj_up (jj_up m 135 ((m 131 5).toNatClampNeg) k) 136 ((m 131 5).toNatClampNeg) f) 137 ((m 131 5).toNatClampNeg) x) 138 ((m 131 5).toNatClampNeg) y) 139 ((m 131 5).toNatClampNeg) (m 134 i.toNatClampNeg)) 140 ((m 131 5).toNatClampNeg) (m 134 j.toNatClampNeg)) 142 ((m 131 5).toNatClampNeg) (-1)) 141 ((m 131 5).toNatClampNeg) (m 146 (m 131 20).toNatClampNeg)) 143 ((m 131 5).toNatClampNeg) (vp_nar .boolean 0)) 144 (((2 : Int32) * (m 131 5)).toNatClampNeg) (-1)) 144 ((((2 : Int32) * (m 131 5)) + 1).toNatClampNeg) (-1)) Q
        refine ez_blk 4 rfl ?_
        show ez xs 66 186 [some (.ref 131), some (.int k), some (.int i), some (.int j), some (.int f), some (.int x), some (.int y), some (.int (m 131 5))] [.int (m 131 20), .ref 146] (jj_up (jj_up (jj_up (jj_up (jj_up (jj_up (jj_up (jj_up (jj_up (jj_up (jj_up m 135 ((m 131 5).toNatClampNeg) k) 136 ((m 131 5).toNatClampNeg) f) 137 ((m 131 5).toNatClampNeg) x) 138 ((m 131 5).toNatClampNeg) y) 139 ((m 131 5).toNatClampNeg) (m 134 i.toNatClampNeg)) 140 ((m 131 5).toNatClampNeg) (m 134 j.toNatClampNeg)) 142 ((m 131 5).toNatClampNeg) (-1)) 141 ((m 131 5).toNatClampNeg) (m 146 (m 131 20).toNatClampNeg)) 143 ((m 131 5).toNatClampNeg) (vp_nar .boolean 0)) 144 (((2 : Int32) * (m 131 5)).toNatClampNeg) (-1)) 144 ((((2 : Int32) * (m 131 5)) + 1).toNatClampNeg) (-1)) Q
        refine ez_ialdv rfl (by decide) rfl (b17 h1 h2 h3) ?_
        show ez xs 66 187 [some (.ref 131), some (.int k), some (.int i), some (.int j), some (.int f), some (.int x), some (.int y), some (.int (m 131 5))] [.int (m 146 (m 131 20).toNatClampNeg)] (jj_up (jj_up (jj_up (jj_up (jj_up (jj_up (jj_up (jj_up (jj_up (jj_up (jj_up m 135 ((m 131 5).toNatClampNeg) k) 136 ((m 131 5).toNatClampNeg) f) 137 ((m 131 5).toNatClampNeg) x) 138 ((m 131 5).toNatClampNeg) y) 139 ((m 131 5).toNatClampNeg) (m 134 i.toNatClampNeg)) 140 ((m 131 5).toNatClampNeg) (m 134 j.toNatClampNeg)) 142 ((m 131 5).toNatClampNeg) (-1)) 141 ((m 131 5).toNatClampNeg) (m 146 (m 131 20).toNatClampNeg)) 143 ((m 131 5).toNatClampNeg) (vp_nar .boolean 0)) 144 (((2 : Int32) * (m 131 5)).toNatClampNeg) (-1)) 144 ((((2 : Int32) * (m 131 5)) + 1).toNatClampNeg) (-1)) Q
        refine ez_if_lt rfl (fun h4 => ?_) (fun h4 => ?_)
        · show ez xs 66 218 [some (.ref 131), some (.int k), some (.int i), some (.int j), some (.int f), some (.int x), some (.int y), some (.int (m 131 5))] [] (jj_up (jj_up (jj_up (jj_up (jj_up (jj_up (jj_up (jj_up (jj_up (jj_up (jj_up m 135 ((m 131 5).toNatClampNeg) k) 136 ((m 131 5).toNatClampNeg) f) 137 ((m 131 5).toNatClampNeg) x) 138 ((m 131 5).toNatClampNeg) y) 139 ((m 131 5).toNatClampNeg) (m 134 i.toNatClampNeg)) 140 ((m 131 5).toNatClampNeg) (m 134 j.toNatClampNeg)) 142 ((m 131 5).toNatClampNeg) (-1)) 141 ((m 131 5).toNatClampNeg) (m 146 (m 131 20).toNatClampNeg)) 143 ((m 131 5).toNatClampNeg) (vp_nar .boolean 0)) 144 (((2 : Int32) * (m 131 5)).toNatClampNeg) (-1)) 144 ((((2 : Int32) * (m 131 5)) + 1).toNatClampNeg) (-1)) Q
          refine ez_blk 5 rfl ?_
          show ez xs 66 228 [some (.ref 131), some (.int k), some (.int i), some (.int j), some (.int f), some (.int x), some (.int y), some (.int (m 131 5))] [.int (m 131 5), .int (m 131 20), .ref 148] (jj_up (jj_up (jj_up (jj_up (jj_up (jj_up (jj_up (jj_up (jj_up (jj_up (jj_up m 135 ((m 131 5).toNatClampNeg) k) 136 ((m 131 5).toNatClampNeg) f) 137 ((m 131 5).toNatClampNeg) x) 138 ((m 131 5).toNatClampNeg) y) 139 ((m 131 5).toNatClampNeg) (m 134 i.toNatClampNeg)) 140 ((m 131 5).toNatClampNeg) (m 134 j.toNatClampNeg)) 142 ((m 131 5).toNatClampNeg) (-1)) 141 ((m 131 5).toNatClampNeg) (m 146 (m 131 20).toNatClampNeg)) 143 ((m 131 5).toNatClampNeg) (vp_nar .boolean 0)) 144 (((2 : Int32) * (m 131 5)).toNatClampNeg) (-1)) 144 ((((2 : Int32) * (m 131 5)) + 1).toNatClampNeg) (-1)) Q
          refine ez_iastv rfl (by decide) rfl (b18 h1 h2 h3 h4) ?_
          show ez xs 66 229 [some (.ref 131), some (.int k), some (.int i), some (.int j), some (.int f), some (.int x), some (.int y), some (.int (m 131 5))] [] (jj_up (jj_up (jj_up (jj_up (jj_up (jj_up (jj_up (jj_up (jj_up (jj_up (jj_up (jj_up m 135 ((m 131 5).toNatClampNeg) k) 136 ((m 131 5).toNatClampNeg) f) 137 ((m 131 5).toNatClampNeg) x) 138 ((m 131 5).toNatClampNeg) y) 139 ((m 131 5).toNatClampNeg) (m 134 i.toNatClampNeg)) 140 ((m 131 5).toNatClampNeg) (m 134 j.toNatClampNeg)) 142 ((m 131 5).toNatClampNeg) (-1)) 141 ((m 131 5).toNatClampNeg) (m 146 (m 131 20).toNatClampNeg)) 143 ((m 131 5).toNatClampNeg) (vp_nar .boolean 0)) 144 (((2 : Int32) * (m 131 5)).toNatClampNeg) (-1)) 144 ((((2 : Int32) * (m 131 5)) + 1).toNatClampNeg) (-1)) 148 ((m 131 20).toNatClampNeg) (m 131 5)) Q
          refine ez_blk 7 rfl ?_
          show ez xs 66 240 [some (.ref 131), some (.int k), some (.int i), some (.int j), some (.int f), some (.int x), some (.int y), some (.int (m 131 5))] [.int 1] (jj_up (jj_up (jj_up (jj_up (jj_up (jj_up (jj_up (jj_up (jj_up (jj_up (jj_up (jj_up (jj_up m 135 ((m 131 5).toNatClampNeg) k) 136 ((m 131 5).toNatClampNeg) f) 137 ((m 131 5).toNatClampNeg) x) 138 ((m 131 5).toNatClampNeg) y) 139 ((m 131 5).toNatClampNeg) (m 134 i.toNatClampNeg)) 140 ((m 131 5).toNatClampNeg) (m 134 j.toNatClampNeg)) 142 ((m 131 5).toNatClampNeg) (-1)) 141 ((m 131 5).toNatClampNeg) (m 146 (m 131 20).toNatClampNeg)) 143 ((m 131 5).toNatClampNeg) (vp_nar .boolean 0)) 144 (((2 : Int32) * (m 131 5)).toNatClampNeg) (-1)) 144 ((((2 : Int32) * (m 131 5)) + 1).toNatClampNeg) (-1)) 148 ((m 131 20).toNatClampNeg) (m 131 5)) 131 5 ((m 131 5) + 1)) Q
          exact ez_ret rfl (by decide) rfl (g1 h1 h2 h3 h4)
        · show ez xs 66 190 [some (.ref 131), some (.int k), some (.int i), some (.int j), some (.int f), some (.int x), some (.int y), some (.int (m 131 5))] [] (jj_up (jj_up (jj_up (jj_up (jj_up (jj_up (jj_up (jj_up (jj_up (jj_up (jj_up m 135 ((m 131 5).toNatClampNeg) k) 136 ((m 131 5).toNatClampNeg) f) 137 ((m 131 5).toNatClampNeg) x) 138 ((m 131 5).toNatClampNeg) y) 139 ((m 131 5).toNatClampNeg) (m 134 i.toNatClampNeg)) 140 ((m 131 5).toNatClampNeg) (m 134 j.toNatClampNeg)) 142 ((m 131 5).toNatClampNeg) (-1)) 141 ((m 131 5).toNatClampNeg) (m 146 (m 131 20).toNatClampNeg)) 143 ((m 131 5).toNatClampNeg) (vp_nar .boolean 0)) 144 (((2 : Int32) * (m 131 5)).toNatClampNeg) (-1)) 144 ((((2 : Int32) * (m 131 5)) + 1).toNatClampNeg) (-1)) Q
          refine ez_blk 7 rfl ?_
          show ez xs 66 203 [some (.ref 131), some (.int k), some (.int i), some (.int j), some (.int f), some (.int x), some (.int y), some (.int (m 131 5))] [.int (m 131 20), .ref 146, .int 2, .ref 144] (jj_up (jj_up (jj_up (jj_up (jj_up (jj_up (jj_up (jj_up (jj_up (jj_up (jj_up m 135 ((m 131 5).toNatClampNeg) k) 136 ((m 131 5).toNatClampNeg) f) 137 ((m 131 5).toNatClampNeg) x) 138 ((m 131 5).toNatClampNeg) y) 139 ((m 131 5).toNatClampNeg) (m 134 i.toNatClampNeg)) 140 ((m 131 5).toNatClampNeg) (m 134 j.toNatClampNeg)) 142 ((m 131 5).toNatClampNeg) (-1)) 141 ((m 131 5).toNatClampNeg) (m 146 (m 131 20).toNatClampNeg)) 143 ((m 131 5).toNatClampNeg) (vp_nar .boolean 0)) 144 (((2 : Int32) * (m 131 5)).toNatClampNeg) (-1)) 144 ((((2 : Int32) * (m 131 5)) + 1).toNatClampNeg) (-1)) Q
          refine ez_ialdv rfl (by decide) rfl (b19 h1 h2 h3 h4) ?_
          show ez xs 66 204 [some (.ref 131), some (.int k), some (.int i), some (.int j), some (.int f), some (.int x), some (.int y), some (.int (m 131 5))] [.int (m 146 (m 131 20).toNatClampNeg), .int 2, .ref 144] (jj_up (jj_up (jj_up (jj_up (jj_up (jj_up (jj_up (jj_up (jj_up (jj_up (jj_up m 135 ((m 131 5).toNatClampNeg) k) 136 ((m 131 5).toNatClampNeg) f) 137 ((m 131 5).toNatClampNeg) x) 138 ((m 131 5).toNatClampNeg) y) 139 ((m 131 5).toNatClampNeg) (m 134 i.toNatClampNeg)) 140 ((m 131 5).toNatClampNeg) (m 134 j.toNatClampNeg)) 142 ((m 131 5).toNatClampNeg) (-1)) 141 ((m 131 5).toNatClampNeg) (m 146 (m 131 20).toNatClampNeg)) 143 ((m 131 5).toNatClampNeg) (vp_nar .boolean 0)) 144 (((2 : Int32) * (m 131 5)).toNatClampNeg) (-1)) 144 ((((2 : Int32) * (m 131 5)) + 1).toNatClampNeg) (-1)) Q
          refine ez_blk 5 rfl ?_
          show ez xs 66 213 [some (.ref 131), some (.int k), some (.int i), some (.int j), some (.int f), some (.int x), some (.int y), some (.int (m 131 5))] [.int (m 131 20), .ref 147, .int ((2 : Int32) * (m 146 (m 131 20).toNatClampNeg)), .ref 144] (jj_up (jj_up (jj_up (jj_up (jj_up (jj_up (jj_up (jj_up (jj_up (jj_up (jj_up m 135 ((m 131 5).toNatClampNeg) k) 136 ((m 131 5).toNatClampNeg) f) 137 ((m 131 5).toNatClampNeg) x) 138 ((m 131 5).toNatClampNeg) y) 139 ((m 131 5).toNatClampNeg) (m 134 i.toNatClampNeg)) 140 ((m 131 5).toNatClampNeg) (m 134 j.toNatClampNeg)) 142 ((m 131 5).toNatClampNeg) (-1)) 141 ((m 131 5).toNatClampNeg) (m 146 (m 131 20).toNatClampNeg)) 143 ((m 131 5).toNatClampNeg) (vp_nar .boolean 0)) 144 (((2 : Int32) * (m 131 5)).toNatClampNeg) (-1)) 144 ((((2 : Int32) * (m 131 5)) + 1).toNatClampNeg) (-1)) Q
          refine ez_ialdv rfl (by decide) rfl (b20 h1 h2 h3 h4) ?_
          show ez xs 66 214 [some (.ref 131), some (.int k), some (.int i), some (.int j), some (.int f), some (.int x), some (.int y), some (.int (m 131 5))] [.int (m 147 (m 131 20).toNatClampNeg), .int ((2 : Int32) * (m 146 (m 131 20).toNatClampNeg)), .ref 144] (jj_up (jj_up (jj_up (jj_up (jj_up (jj_up (jj_up (jj_up (jj_up (jj_up (jj_up m 135 ((m 131 5).toNatClampNeg) k) 136 ((m 131 5).toNatClampNeg) f) 137 ((m 131 5).toNatClampNeg) x) 138 ((m 131 5).toNatClampNeg) y) 139 ((m 131 5).toNatClampNeg) (m 134 i.toNatClampNeg)) 140 ((m 131 5).toNatClampNeg) (m 134 j.toNatClampNeg)) 142 ((m 131 5).toNatClampNeg) (-1)) 141 ((m 131 5).toNatClampNeg) (m 146 (m 131 20).toNatClampNeg)) 143 ((m 131 5).toNatClampNeg) (vp_nar .boolean 0)) 144 (((2 : Int32) * (m 131 5)).toNatClampNeg) (-1)) 144 ((((2 : Int32) * (m 131 5)) + 1).toNatClampNeg) (-1)) Q
          refine ez_blk 2 rfl ?_
          show ez xs 66 217 [some (.ref 131), some (.int k), some (.int i), some (.int j), some (.int f), some (.int x), some (.int y), some (.int (m 131 5))] [.int (m 131 5), .int (((2 : Int32) * (m 146 (m 131 20).toNatClampNeg)) + (m 147 (m 131 20).toNatClampNeg)), .ref 144] (jj_up (jj_up (jj_up (jj_up (jj_up (jj_up (jj_up (jj_up (jj_up (jj_up (jj_up m 135 ((m 131 5).toNatClampNeg) k) 136 ((m 131 5).toNatClampNeg) f) 137 ((m 131 5).toNatClampNeg) x) 138 ((m 131 5).toNatClampNeg) y) 139 ((m 131 5).toNatClampNeg) (m 134 i.toNatClampNeg)) 140 ((m 131 5).toNatClampNeg) (m 134 j.toNatClampNeg)) 142 ((m 131 5).toNatClampNeg) (-1)) 141 ((m 131 5).toNatClampNeg) (m 146 (m 131 20).toNatClampNeg)) 143 ((m 131 5).toNatClampNeg) (vp_nar .boolean 0)) 144 (((2 : Int32) * (m 131 5)).toNatClampNeg) (-1)) 144 ((((2 : Int32) * (m 131 5)) + 1).toNatClampNeg) (-1)) Q
          refine ez_iastv rfl (by decide) rfl (b21 h1 h2 h3 h4) ?_
          show ez xs 66 218 [some (.ref 131), some (.int k), some (.int i), some (.int j), some (.int f), some (.int x), some (.int y), some (.int (m 131 5))] [] (jj_up (jj_up (jj_up (jj_up (jj_up (jj_up (jj_up (jj_up (jj_up (jj_up (jj_up (jj_up m 135 ((m 131 5).toNatClampNeg) k) 136 ((m 131 5).toNatClampNeg) f) 137 ((m 131 5).toNatClampNeg) x) 138 ((m 131 5).toNatClampNeg) y) 139 ((m 131 5).toNatClampNeg) (m 134 i.toNatClampNeg)) 140 ((m 131 5).toNatClampNeg) (m 134 j.toNatClampNeg)) 142 ((m 131 5).toNatClampNeg) (-1)) 141 ((m 131 5).toNatClampNeg) (m 146 (m 131 20).toNatClampNeg)) 143 ((m 131 5).toNatClampNeg) (vp_nar .boolean 0)) 144 (((2 : Int32) * (m 131 5)).toNatClampNeg) (-1)) 144 ((((2 : Int32) * (m 131 5)) + 1).toNatClampNeg) (-1)) 144 ((((2 : Int32) * (m 146 (m 131 20).toNatClampNeg)) + (m 147 (m 131 20).toNatClampNeg)).toNatClampNeg) (m 131 5)) Q
          refine ez_blk 5 rfl ?_
          show ez xs 66 228 [some (.ref 131), some (.int k), some (.int i), some (.int j), some (.int f), some (.int x), some (.int y), some (.int (m 131 5))] [.int (m 131 5), .int (m 131 20), .ref 148] (jj_up (jj_up (jj_up (jj_up (jj_up (jj_up (jj_up (jj_up (jj_up (jj_up (jj_up (jj_up m 135 ((m 131 5).toNatClampNeg) k) 136 ((m 131 5).toNatClampNeg) f) 137 ((m 131 5).toNatClampNeg) x) 138 ((m 131 5).toNatClampNeg) y) 139 ((m 131 5).toNatClampNeg) (m 134 i.toNatClampNeg)) 140 ((m 131 5).toNatClampNeg) (m 134 j.toNatClampNeg)) 142 ((m 131 5).toNatClampNeg) (-1)) 141 ((m 131 5).toNatClampNeg) (m 146 (m 131 20).toNatClampNeg)) 143 ((m 131 5).toNatClampNeg) (vp_nar .boolean 0)) 144 (((2 : Int32) * (m 131 5)).toNatClampNeg) (-1)) 144 ((((2 : Int32) * (m 131 5)) + 1).toNatClampNeg) (-1)) 144 ((((2 : Int32) * (m 146 (m 131 20).toNatClampNeg)) + (m 147 (m 131 20).toNatClampNeg)).toNatClampNeg) (m 131 5)) Q
          refine ez_iastv rfl (by decide) rfl (b22 h1 h2 h3 h4) ?_
          show ez xs 66 229 [some (.ref 131), some (.int k), some (.int i), some (.int j), some (.int f), some (.int x), some (.int y), some (.int (m 131 5))] [] (jj_up (jj_up (jj_up (jj_up (jj_up (jj_up (jj_up (jj_up (jj_up (jj_up (jj_up (jj_up (jj_up m 135 ((m 131 5).toNatClampNeg) k) 136 ((m 131 5).toNatClampNeg) f) 137 ((m 131 5).toNatClampNeg) x) 138 ((m 131 5).toNatClampNeg) y) 139 ((m 131 5).toNatClampNeg) (m 134 i.toNatClampNeg)) 140 ((m 131 5).toNatClampNeg) (m 134 j.toNatClampNeg)) 142 ((m 131 5).toNatClampNeg) (-1)) 141 ((m 131 5).toNatClampNeg) (m 146 (m 131 20).toNatClampNeg)) 143 ((m 131 5).toNatClampNeg) (vp_nar .boolean 0)) 144 (((2 : Int32) * (m 131 5)).toNatClampNeg) (-1)) 144 ((((2 : Int32) * (m 131 5)) + 1).toNatClampNeg) (-1)) 144 ((((2 : Int32) * (m 146 (m 131 20).toNatClampNeg)) + (m 147 (m 131 20).toNatClampNeg)).toNatClampNeg) (m 131 5)) 148 ((m 131 20).toNatClampNeg) (m 131 5)) Q
          refine ez_blk 7 rfl ?_
          show ez xs 66 240 [some (.ref 131), some (.int k), some (.int i), some (.int j), some (.int f), some (.int x), some (.int y), some (.int (m 131 5))] [.int 1] (jj_up (jj_up (jj_up (jj_up (jj_up (jj_up (jj_up (jj_up (jj_up (jj_up (jj_up (jj_up (jj_up (jj_up m 135 ((m 131 5).toNatClampNeg) k) 136 ((m 131 5).toNatClampNeg) f) 137 ((m 131 5).toNatClampNeg) x) 138 ((m 131 5).toNatClampNeg) y) 139 ((m 131 5).toNatClampNeg) (m 134 i.toNatClampNeg)) 140 ((m 131 5).toNatClampNeg) (m 134 j.toNatClampNeg)) 142 ((m 131 5).toNatClampNeg) (-1)) 141 ((m 131 5).toNatClampNeg) (m 146 (m 131 20).toNatClampNeg)) 143 ((m 131 5).toNatClampNeg) (vp_nar .boolean 0)) 144 (((2 : Int32) * (m 131 5)).toNatClampNeg) (-1)) 144 ((((2 : Int32) * (m 131 5)) + 1).toNatClampNeg) (-1)) 144 ((((2 : Int32) * (m 146 (m 131 20).toNatClampNeg)) + (m 147 (m 131 20).toNatClampNeg)).toNatClampNeg) (m 131 5)) 148 ((m 131 20).toNatClampNeg) (m 131 5)) 131 5 ((m 131 5) + 1)) Q
          exact ez_ret rfl (by decide) rfl (g2 h1 h2 h3 h4)
      · show ez xs 66 159 [some (.ref 131), some (.int k), some (.int i), some (.int j), some (.int f), some (.int x), some (.int y), some (.int (m 131 5))] [] (jj_up (jj_up (jj_up (jj_up (jj_up (jj_up (jj_up (jj_up (jj_up (jj_up (jj_up m 135 ((m 131 5).toNatClampNeg) k) 136 ((m 131 5).toNatClampNeg) f) 137 ((m 131 5).toNatClampNeg) x) 138 ((m 131 5).toNatClampNeg) y) 139 ((m 131 5).toNatClampNeg) (m 134 i.toNatClampNeg)) 140 ((m 131 5).toNatClampNeg) (m 134 j.toNatClampNeg)) 142 ((m 131 5).toNatClampNeg) (-1)) 141 ((m 131 5).toNatClampNeg) (m 146 (m 131 20).toNatClampNeg)) 143 ((m 131 5).toNatClampNeg) (vp_nar .boolean 0)) 144 (((2 : Int32) * (m 131 5)).toNatClampNeg) (-1)) 144 ((((2 : Int32) * (m 131 5)) + 1).toNatClampNeg) (-1)) Q
        refine ez_blk 6 rfl ?_
        show ez xs 66 171 [some (.ref 131), some (.int k), some (.int i), some (.int j), some (.int f), some (.int x), some (.int y), some (.int (m 131 5))] [.int (m 131 20), .ref 148, .ref 142] (jj_up (jj_up (jj_up (jj_up (jj_up (jj_up (jj_up (jj_up (jj_up (jj_up (jj_up m 135 ((m 131 5).toNatClampNeg) k) 136 ((m 131 5).toNatClampNeg) f) 137 ((m 131 5).toNatClampNeg) x) 138 ((m 131 5).toNatClampNeg) y) 139 ((m 131 5).toNatClampNeg) (m 134 i.toNatClampNeg)) 140 ((m 131 5).toNatClampNeg) (m 134 j.toNatClampNeg)) 142 ((m 131 5).toNatClampNeg) (-1)) 141 ((m 131 5).toNatClampNeg) (m 146 (m 131 20).toNatClampNeg)) 143 ((m 131 5).toNatClampNeg) (vp_nar .boolean 0)) 144 (((2 : Int32) * (m 131 5)).toNatClampNeg) (-1)) 144 ((((2 : Int32) * (m 131 5)) + 1).toNatClampNeg) (-1)) Q
        refine ez_ialdv rfl (by decide) rfl (b23 h1 h2 h3) ?_
        show ez xs 66 172 [some (.ref 131), some (.int k), some (.int i), some (.int j), some (.int f), some (.int x), some (.int y), some (.int (m 131 5))] [.int (m 148 (m 131 20).toNatClampNeg), .ref 142] (jj_up (jj_up (jj_up (jj_up (jj_up (jj_up (jj_up (jj_up (jj_up (jj_up (jj_up m 135 ((m 131 5).toNatClampNeg) k) 136 ((m 131 5).toNatClampNeg) f) 137 ((m 131 5).toNatClampNeg) x) 138 ((m 131 5).toNatClampNeg) y) 139 ((m 131 5).toNatClampNeg) (m 134 i.toNatClampNeg)) 140 ((m 131 5).toNatClampNeg) (m 134 j.toNatClampNeg)) 142 ((m 131 5).toNatClampNeg) (-1)) 141 ((m 131 5).toNatClampNeg) (m 146 (m 131 20).toNatClampNeg)) 143 ((m 131 5).toNatClampNeg) (vp_nar .boolean 0)) 144 (((2 : Int32) * (m 131 5)).toNatClampNeg) (-1)) 144 ((((2 : Int32) * (m 131 5)) + 1).toNatClampNeg) (-1)) Q
        refine ez_blk 1 rfl ?_
        show ez xs 66 174 [some (.ref 131), some (.int k), some (.int i), some (.int j), some (.int f), some (.int x), some (.int y), some (.int (m 131 5))] [.int (m 131 5), .int (m 148 (m 131 20).toNatClampNeg), .ref 142] (jj_up (jj_up (jj_up (jj_up (jj_up (jj_up (jj_up (jj_up (jj_up (jj_up (jj_up m 135 ((m 131 5).toNatClampNeg) k) 136 ((m 131 5).toNatClampNeg) f) 137 ((m 131 5).toNatClampNeg) x) 138 ((m 131 5).toNatClampNeg) y) 139 ((m 131 5).toNatClampNeg) (m 134 i.toNatClampNeg)) 140 ((m 131 5).toNatClampNeg) (m 134 j.toNatClampNeg)) 142 ((m 131 5).toNatClampNeg) (-1)) 141 ((m 131 5).toNatClampNeg) (m 146 (m 131 20).toNatClampNeg)) 143 ((m 131 5).toNatClampNeg) (vp_nar .boolean 0)) 144 (((2 : Int32) * (m 131 5)).toNatClampNeg) (-1)) 144 ((((2 : Int32) * (m 131 5)) + 1).toNatClampNeg) (-1)) Q
        refine ez_iastv rfl (by decide) rfl (b24 h1 h2 h3) ?_
        show ez xs 66 175 [some (.ref 131), some (.int k), some (.int i), some (.int j), some (.int f), some (.int x), some (.int y), some (.int (m 131 5))] [] (jj_up (jj_up (jj_up (jj_up (jj_up (jj_up (jj_up (jj_up (jj_up (jj_up (jj_up (jj_up m 135 ((m 131 5).toNatClampNeg) k) 136 ((m 131 5).toNatClampNeg) f) 137 ((m 131 5).toNatClampNeg) x) 138 ((m 131 5).toNatClampNeg) y) 139 ((m 131 5).toNatClampNeg) (m 134 i.toNatClampNeg)) 140 ((m 131 5).toNatClampNeg) (m 134 j.toNatClampNeg)) 142 ((m 131 5).toNatClampNeg) (-1)) 141 ((m 131 5).toNatClampNeg) (m 146 (m 131 20).toNatClampNeg)) 143 ((m 131 5).toNatClampNeg) (vp_nar .boolean 0)) 144 (((2 : Int32) * (m 131 5)).toNatClampNeg) (-1)) 144 ((((2 : Int32) * (m 131 5)) + 1).toNatClampNeg) (-1)) 142 ((m 148 (m 131 20).toNatClampNeg).toNatClampNeg) (m 131 5)) Q
        refine ez_blk 6 rfl ?_
        show ez xs 66 228 [some (.ref 131), some (.int k), some (.int i), some (.int j), some (.int f), some (.int x), some (.int y), some (.int (m 131 5))] [.int (m 131 5), .int (m 131 20), .ref 148] (jj_up (jj_up (jj_up (jj_up (jj_up (jj_up (jj_up (jj_up (jj_up (jj_up (jj_up (jj_up m 135 ((m 131 5).toNatClampNeg) k) 136 ((m 131 5).toNatClampNeg) f) 137 ((m 131 5).toNatClampNeg) x) 138 ((m 131 5).toNatClampNeg) y) 139 ((m 131 5).toNatClampNeg) (m 134 i.toNatClampNeg)) 140 ((m 131 5).toNatClampNeg) (m 134 j.toNatClampNeg)) 142 ((m 131 5).toNatClampNeg) (-1)) 141 ((m 131 5).toNatClampNeg) (m 146 (m 131 20).toNatClampNeg)) 143 ((m 131 5).toNatClampNeg) (vp_nar .boolean 0)) 144 (((2 : Int32) * (m 131 5)).toNatClampNeg) (-1)) 144 ((((2 : Int32) * (m 131 5)) + 1).toNatClampNeg) (-1)) 142 ((m 148 (m 131 20).toNatClampNeg).toNatClampNeg) (m 131 5)) Q
        refine ez_iastv rfl (by decide) rfl (b25 h1 h2 h3) ?_
        show ez xs 66 229 [some (.ref 131), some (.int k), some (.int i), some (.int j), some (.int f), some (.int x), some (.int y), some (.int (m 131 5))] [] (jj_up (jj_up (jj_up (jj_up (jj_up (jj_up (jj_up (jj_up (jj_up (jj_up (jj_up (jj_up (jj_up m 135 ((m 131 5).toNatClampNeg) k) 136 ((m 131 5).toNatClampNeg) f) 137 ((m 131 5).toNatClampNeg) x) 138 ((m 131 5).toNatClampNeg) y) 139 ((m 131 5).toNatClampNeg) (m 134 i.toNatClampNeg)) 140 ((m 131 5).toNatClampNeg) (m 134 j.toNatClampNeg)) 142 ((m 131 5).toNatClampNeg) (-1)) 141 ((m 131 5).toNatClampNeg) (m 146 (m 131 20).toNatClampNeg)) 143 ((m 131 5).toNatClampNeg) (vp_nar .boolean 0)) 144 (((2 : Int32) * (m 131 5)).toNatClampNeg) (-1)) 144 ((((2 : Int32) * (m 131 5)) + 1).toNatClampNeg) (-1)) 142 ((m 148 (m 131 20).toNatClampNeg).toNatClampNeg) (m 131 5)) 148 ((m 131 20).toNatClampNeg) (m 131 5)) Q
        refine ez_blk 7 rfl ?_
        show ez xs 66 240 [some (.ref 131), some (.int k), some (.int i), some (.int j), some (.int f), some (.int x), some (.int y), some (.int (m 131 5))] [.int 1] (jj_up (jj_up (jj_up (jj_up (jj_up (jj_up (jj_up (jj_up (jj_up (jj_up (jj_up (jj_up (jj_up (jj_up m 135 ((m 131 5).toNatClampNeg) k) 136 ((m 131 5).toNatClampNeg) f) 137 ((m 131 5).toNatClampNeg) x) 138 ((m 131 5).toNatClampNeg) y) 139 ((m 131 5).toNatClampNeg) (m 134 i.toNatClampNeg)) 140 ((m 131 5).toNatClampNeg) (m 134 j.toNatClampNeg)) 142 ((m 131 5).toNatClampNeg) (-1)) 141 ((m 131 5).toNatClampNeg) (m 146 (m 131 20).toNatClampNeg)) 143 ((m 131 5).toNatClampNeg) (vp_nar .boolean 0)) 144 (((2 : Int32) * (m 131 5)).toNatClampNeg) (-1)) 144 ((((2 : Int32) * (m 131 5)) + 1).toNatClampNeg) (-1)) 142 ((m 148 (m 131 20).toNatClampNeg).toNatClampNeg) (m 131 5)) 148 ((m 131 20).toNatClampNeg) (m 131 5)) 131 5 ((m 131 5) + 1)) Q
        exact ez_ret rfl (by decide) rfl (g3 h1 h2 h3)
    · show ez xs 66 119 [some (.ref 131), some (.int k), some (.int i), some (.int j), some (.int f), some (.int x), some (.int y), some (.int (m 131 5))] [.int (m 131 5), .ref 143] (jj_up (jj_up (jj_up (jj_up (jj_up (jj_up (jj_up (jj_up m 135 ((m 131 5).toNatClampNeg) k) 136 ((m 131 5).toNatClampNeg) f) 137 ((m 131 5).toNatClampNeg) x) 138 ((m 131 5).toNatClampNeg) y) 139 ((m 131 5).toNatClampNeg) (m 134 i.toNatClampNeg)) 140 ((m 131 5).toNatClampNeg) (m 134 j.toNatClampNeg)) 142 ((m 131 5).toNatClampNeg) (-1)) 141 ((m 131 5).toNatClampNeg) (m 146 (m 131 20).toNatClampNeg)) Q
      refine ez_blk 2 rfl ?_
      show ez xs 66 124 [some (.ref 131), some (.int k), some (.int i), some (.int j), some (.int f), some (.int x), some (.int y), some (.int (m 131 5))] [.int 1, .int (m 131 5), .ref 143] (jj_up (jj_up (jj_up (jj_up (jj_up (jj_up (jj_up (jj_up m 135 ((m 131 5).toNatClampNeg) k) 136 ((m 131 5).toNatClampNeg) f) 137 ((m 131 5).toNatClampNeg) x) 138 ((m 131 5).toNatClampNeg) y) 139 ((m 131 5).toNatClampNeg) (m 134 i.toNatClampNeg)) 140 ((m 131 5).toNatClampNeg) (m 134 j.toNatClampNeg)) 142 ((m 131 5).toNatClampNeg) (-1)) 141 ((m 131 5).toNatClampNeg) (m 146 (m 131 20).toNatClampNeg)) Q
      refine ez_zastv rfl (by decide) rfl (b26 h1 h2) ?_
      show ez xs 66 125 [some (.ref 131), some (.int k), some (.int i), some (.int j), some (.int f), some (.int x), some (.int y), some (.int (m 131 5))] [] (jj_up (jj_up (jj_up (jj_up (jj_up (jj_up (jj_up (jj_up (jj_up m 135 ((m 131 5).toNatClampNeg) k) 136 ((m 131 5).toNatClampNeg) f) 137 ((m 131 5).toNatClampNeg) x) 138 ((m 131 5).toNatClampNeg) y) 139 ((m 131 5).toNatClampNeg) (m 134 i.toNatClampNeg)) 140 ((m 131 5).toNatClampNeg) (m 134 j.toNatClampNeg)) 142 ((m 131 5).toNatClampNeg) (-1)) 141 ((m 131 5).toNatClampNeg) (m 146 (m 131 20).toNatClampNeg)) 143 ((m 131 5).toNatClampNeg) (vp_nar .boolean 1)) Q
      refine ez_blk 6 rfl ?_
      show ez xs 66 134 [some (.ref 131), some (.int k), some (.int i), some (.int j), some (.int f), some (.int x), some (.int y), some (.int (m 131 5))] [.int (-1), .int ((2 : Int32) * (m 131 5)), .ref 144] (jj_up (jj_up (jj_up (jj_up (jj_up (jj_up (jj_up (jj_up (jj_up m 135 ((m 131 5).toNatClampNeg) k) 136 ((m 131 5).toNatClampNeg) f) 137 ((m 131 5).toNatClampNeg) x) 138 ((m 131 5).toNatClampNeg) y) 139 ((m 131 5).toNatClampNeg) (m 134 i.toNatClampNeg)) 140 ((m 131 5).toNatClampNeg) (m 134 j.toNatClampNeg)) 142 ((m 131 5).toNatClampNeg) (-1)) 141 ((m 131 5).toNatClampNeg) (m 146 (m 131 20).toNatClampNeg)) 143 ((m 131 5).toNatClampNeg) (vp_nar .boolean 1)) Q
      refine ez_iastv rfl (by decide) rfl (b27 h1 h2) ?_
      show ez xs 66 135 [some (.ref 131), some (.int k), some (.int i), some (.int j), some (.int f), some (.int x), some (.int y), some (.int (m 131 5))] [] (jj_up (jj_up (jj_up (jj_up (jj_up (jj_up (jj_up (jj_up (jj_up (jj_up m 135 ((m 131 5).toNatClampNeg) k) 136 ((m 131 5).toNatClampNeg) f) 137 ((m 131 5).toNatClampNeg) x) 138 ((m 131 5).toNatClampNeg) y) 139 ((m 131 5).toNatClampNeg) (m 134 i.toNatClampNeg)) 140 ((m 131 5).toNatClampNeg) (m 134 j.toNatClampNeg)) 142 ((m 131 5).toNatClampNeg) (-1)) 141 ((m 131 5).toNatClampNeg) (m 146 (m 131 20).toNatClampNeg)) 143 ((m 131 5).toNatClampNeg) (vp_nar .boolean 1)) 144 (((2 : Int32) * (m 131 5)).toNatClampNeg) (-1)) Q
      refine ez_blk 8 rfl ?_
      show ez xs 66 146 [some (.ref 131), some (.int k), some (.int i), some (.int j), some (.int f), some (.int x), some (.int y), some (.int (m 131 5))] [.int (-1), .int (((2 : Int32) * (m 131 5)) + 1), .ref 144] (jj_up (jj_up (jj_up (jj_up (jj_up (jj_up (jj_up (jj_up (jj_up (jj_up m 135 ((m 131 5).toNatClampNeg) k) 136 ((m 131 5).toNatClampNeg) f) 137 ((m 131 5).toNatClampNeg) x) 138 ((m 131 5).toNatClampNeg) y) 139 ((m 131 5).toNatClampNeg) (m 134 i.toNatClampNeg)) 140 ((m 131 5).toNatClampNeg) (m 134 j.toNatClampNeg)) 142 ((m 131 5).toNatClampNeg) (-1)) 141 ((m 131 5).toNatClampNeg) (m 146 (m 131 20).toNatClampNeg)) 143 ((m 131 5).toNatClampNeg) (vp_nar .boolean 1)) 144 (((2 : Int32) * (m 131 5)).toNatClampNeg) (-1)) Q
      refine ez_iastv rfl (by decide) rfl (b28 h1 h2) ?_
      show ez xs 66 147 [some (.ref 131), some (.int k), some (.int i), some (.int j), some (.int f), some (.int x), some (.int y), some (.int (m 131 5))] [] (jj_up (jj_up (jj_up (jj_up (jj_up (jj_up (jj_up (jj_up (jj_up (jj_up (jj_up m 135 ((m 131 5).toNatClampNeg) k) 136 ((m 131 5).toNatClampNeg) f) 137 ((m 131 5).toNatClampNeg) x) 138 ((m 131 5).toNatClampNeg) y) 139 ((m 131 5).toNatClampNeg) (m 134 i.toNatClampNeg)) 140 ((m 131 5).toNatClampNeg) (m 134 j.toNatClampNeg)) 142 ((m 131 5).toNatClampNeg) (-1)) 141 ((m 131 5).toNatClampNeg) (m 146 (m 131 20).toNatClampNeg)) 143 ((m 131 5).toNatClampNeg) (vp_nar .boolean 1)) 144 (((2 : Int32) * (m 131 5)).toNatClampNeg) (-1)) 144 ((((2 : Int32) * (m 131 5)) + 1).toNatClampNeg) (-1)) Q
      refine ez_blk 4 rfl ?_
      show ez xs 66 155 [some (.ref 131), some (.int k), some (.int i), some (.int j), some (.int f), some (.int x), some (.int y), some (.int (m 131 5))] [.int (m 131 20), .ref 148] (jj_up (jj_up (jj_up (jj_up (jj_up (jj_up (jj_up (jj_up (jj_up (jj_up (jj_up m 135 ((m 131 5).toNatClampNeg) k) 136 ((m 131 5).toNatClampNeg) f) 137 ((m 131 5).toNatClampNeg) x) 138 ((m 131 5).toNatClampNeg) y) 139 ((m 131 5).toNatClampNeg) (m 134 i.toNatClampNeg)) 140 ((m 131 5).toNatClampNeg) (m 134 j.toNatClampNeg)) 142 ((m 131 5).toNatClampNeg) (-1)) 141 ((m 131 5).toNatClampNeg) (m 146 (m 131 20).toNatClampNeg)) 143 ((m 131 5).toNatClampNeg) (vp_nar .boolean 1)) 144 (((2 : Int32) * (m 131 5)).toNatClampNeg) (-1)) 144 ((((2 : Int32) * (m 131 5)) + 1).toNatClampNeg) (-1)) Q
      refine ez_ialdv rfl (by decide) rfl (b29 h1 h2) ?_
      show ez xs 66 156 [some (.ref 131), some (.int k), some (.int i), some (.int j), some (.int f), some (.int x), some (.int y), some (.int (m 131 5))] [.int (m 148 (m 131 20).toNatClampNeg)] (jj_up (jj_up (jj_up (jj_up (jj_up (jj_up (jj_up (jj_up (jj_up (jj_up (jj_up m 135 ((m 131 5).toNatClampNeg) k) 136 ((m 131 5).toNatClampNeg) f) 137 ((m 131 5).toNatClampNeg) x) 138 ((m 131 5).toNatClampNeg) y) 139 ((m 131 5).toNatClampNeg) (m 134 i.toNatClampNeg)) 140 ((m 131 5).toNatClampNeg) (m 134 j.toNatClampNeg)) 142 ((m 131 5).toNatClampNeg) (-1)) 141 ((m 131 5).toNatClampNeg) (m 146 (m 131 20).toNatClampNeg)) 143 ((m 131 5).toNatClampNeg) (vp_nar .boolean 1)) 144 (((2 : Int32) * (m 131 5)).toNatClampNeg) (-1)) 144 ((((2 : Int32) * (m 131 5)) + 1).toNatClampNeg) (-1)) Q
      refine ez_if_lt rfl (fun h5 => ?_) (fun h5 => ?_)
      · show ez xs 66 178 [some (.ref 131), some (.int k), some (.int i), some (.int j), some (.int f), some (.int x), some (.int y), some (.int (m 131 5))] [] (jj_up (jj_up (jj_up (jj_up (jj_up (jj_up (jj_up (jj_up (jj_up (jj_up (jj_up m 135 ((m 131 5).toNatClampNeg) k) 136 ((m 131 5).toNatClampNeg) f) 137 ((m 131 5).toNatClampNeg) x) 138 ((m 131 5).toNatClampNeg) y) 139 ((m 131 5).toNatClampNeg) (m 134 i.toNatClampNeg)) 140 ((m 131 5).toNatClampNeg) (m 134 j.toNatClampNeg)) 142 ((m 131 5).toNatClampNeg) (-1)) 141 ((m 131 5).toNatClampNeg) (m 146 (m 131 20).toNatClampNeg)) 143 ((m 131 5).toNatClampNeg) (vp_nar .boolean 1)) 144 (((2 : Int32) * (m 131 5)).toNatClampNeg) (-1)) 144 ((((2 : Int32) * (m 131 5)) + 1).toNatClampNeg) (-1)) Q
        refine ez_blk 4 rfl ?_
        show ez xs 66 186 [some (.ref 131), some (.int k), some (.int i), some (.int j), some (.int f), some (.int x), some (.int y), some (.int (m 131 5))] [.int (m 131 20), .ref 146] (jj_up (jj_up (jj_up (jj_up (jj_up (jj_up (jj_up (jj_up (jj_up (jj_up (jj_up m 135 ((m 131 5).toNatClampNeg) k) 136 ((m 131 5).toNatClampNeg) f) 137 ((m 131 5).toNatClampNeg) x) 138 ((m 131 5).toNatClampNeg) y) 139 ((m 131 5).toNatClampNeg) (m 134 i.toNatClampNeg)) 140 ((m 131 5).toNatClampNeg) (m 134 j.toNatClampNeg)) 142 ((m 131 5).toNatClampNeg) (-1)) 141 ((m 131 5).toNatClampNeg) (m 146 (m 131 20).toNatClampNeg)) 143 ((m 131 5).toNatClampNeg) (vp_nar .boolean 1)) 144 (((2 : Int32) * (m 131 5)).toNatClampNeg) (-1)) 144 ((((2 : Int32) * (m 131 5)) + 1).toNatClampNeg) (-1)) Q
        refine ez_ialdv rfl (by decide) rfl (b30 h1 h2 h5) ?_
        show ez xs 66 187 [some (.ref 131), some (.int k), some (.int i), some (.int j), some (.int f), some (.int x), some (.int y), some (.int (m 131 5))] [.int (m 146 (m 131 20).toNatClampNeg)] (jj_up (jj_up (jj_up (jj_up (jj_up (jj_up (jj_up (jj_up (jj_up (jj_up (jj_up m 135 ((m 131 5).toNatClampNeg) k) 136 ((m 131 5).toNatClampNeg) f) 137 ((m 131 5).toNatClampNeg) x) 138 ((m 131 5).toNatClampNeg) y) 139 ((m 131 5).toNatClampNeg) (m 134 i.toNatClampNeg)) 140 ((m 131 5).toNatClampNeg) (m 134 j.toNatClampNeg)) 142 ((m 131 5).toNatClampNeg) (-1)) 141 ((m 131 5).toNatClampNeg) (m 146 (m 131 20).toNatClampNeg)) 143 ((m 131 5).toNatClampNeg) (vp_nar .boolean 1)) 144 (((2 : Int32) * (m 131 5)).toNatClampNeg) (-1)) 144 ((((2 : Int32) * (m 131 5)) + 1).toNatClampNeg) (-1)) Q
        refine ez_if_lt rfl (fun h6 => ?_) (fun h6 => ?_)
        · show ez xs 66 218 [some (.ref 131), some (.int k), some (.int i), some (.int j), some (.int f), some (.int x), some (.int y), some (.int (m 131 5))] [] (jj_up (jj_up (jj_up (jj_up (jj_up (jj_up (jj_up (jj_up (jj_up (jj_up (jj_up m 135 ((m 131 5).toNatClampNeg) k) 136 ((m 131 5).toNatClampNeg) f) 137 ((m 131 5).toNatClampNeg) x) 138 ((m 131 5).toNatClampNeg) y) 139 ((m 131 5).toNatClampNeg) (m 134 i.toNatClampNeg)) 140 ((m 131 5).toNatClampNeg) (m 134 j.toNatClampNeg)) 142 ((m 131 5).toNatClampNeg) (-1)) 141 ((m 131 5).toNatClampNeg) (m 146 (m 131 20).toNatClampNeg)) 143 ((m 131 5).toNatClampNeg) (vp_nar .boolean 1)) 144 (((2 : Int32) * (m 131 5)).toNatClampNeg) (-1)) 144 ((((2 : Int32) * (m 131 5)) + 1).toNatClampNeg) (-1)) Q
          refine ez_blk 5 rfl ?_
          show ez xs 66 228 [some (.ref 131), some (.int k), some (.int i), some (.int j), some (.int f), some (.int x), some (.int y), some (.int (m 131 5))] [.int (m 131 5), .int (m 131 20), .ref 148] (jj_up (jj_up (jj_up (jj_up (jj_up (jj_up (jj_up (jj_up (jj_up (jj_up (jj_up m 135 ((m 131 5).toNatClampNeg) k) 136 ((m 131 5).toNatClampNeg) f) 137 ((m 131 5).toNatClampNeg) x) 138 ((m 131 5).toNatClampNeg) y) 139 ((m 131 5).toNatClampNeg) (m 134 i.toNatClampNeg)) 140 ((m 131 5).toNatClampNeg) (m 134 j.toNatClampNeg)) 142 ((m 131 5).toNatClampNeg) (-1)) 141 ((m 131 5).toNatClampNeg) (m 146 (m 131 20).toNatClampNeg)) 143 ((m 131 5).toNatClampNeg) (vp_nar .boolean 1)) 144 (((2 : Int32) * (m 131 5)).toNatClampNeg) (-1)) 144 ((((2 : Int32) * (m 131 5)) + 1).toNatClampNeg) (-1)) Q
          refine ez_iastv rfl (by decide) rfl (b31 h1 h2 h5 h6) ?_
          show ez xs 66 229 [some (.ref 131), some (.int k), some (.int i), some (.int j), some (.int f), some (.int x), some (.int y), some (.int (m 131 5))] [] (jj_up (jj_up (jj_up (jj_up (jj_up (jj_up (jj_up (jj_up (jj_up (jj_up (jj_up (jj_up m 135 ((m 131 5).toNatClampNeg) k) 136 ((m 131 5).toNatClampNeg) f) 137 ((m 131 5).toNatClampNeg) x) 138 ((m 131 5).toNatClampNeg) y) 139 ((m 131 5).toNatClampNeg) (m 134 i.toNatClampNeg)) 140 ((m 131 5).toNatClampNeg) (m 134 j.toNatClampNeg)) 142 ((m 131 5).toNatClampNeg) (-1)) 141 ((m 131 5).toNatClampNeg) (m 146 (m 131 20).toNatClampNeg)) 143 ((m 131 5).toNatClampNeg) (vp_nar .boolean 1)) 144 (((2 : Int32) * (m 131 5)).toNatClampNeg) (-1)) 144 ((((2 : Int32) * (m 131 5)) + 1).toNatClampNeg) (-1)) 148 ((m 131 20).toNatClampNeg) (m 131 5)) Q
          refine ez_blk 7 rfl ?_
          show ez xs 66 240 [some (.ref 131), some (.int k), some (.int i), some (.int j), some (.int f), some (.int x), some (.int y), some (.int (m 131 5))] [.int 1] (jj_up (jj_up (jj_up (jj_up (jj_up (jj_up (jj_up (jj_up (jj_up (jj_up (jj_up (jj_up (jj_up m 135 ((m 131 5).toNatClampNeg) k) 136 ((m 131 5).toNatClampNeg) f) 137 ((m 131 5).toNatClampNeg) x) 138 ((m 131 5).toNatClampNeg) y) 139 ((m 131 5).toNatClampNeg) (m 134 i.toNatClampNeg)) 140 ((m 131 5).toNatClampNeg) (m 134 j.toNatClampNeg)) 142 ((m 131 5).toNatClampNeg) (-1)) 141 ((m 131 5).toNatClampNeg) (m 146 (m 131 20).toNatClampNeg)) 143 ((m 131 5).toNatClampNeg) (vp_nar .boolean 1)) 144 (((2 : Int32) * (m 131 5)).toNatClampNeg) (-1)) 144 ((((2 : Int32) * (m 131 5)) + 1).toNatClampNeg) (-1)) 148 ((m 131 20).toNatClampNeg) (m 131 5)) 131 5 ((m 131 5) + 1)) Q
          exact ez_ret rfl (by decide) rfl (g4 h1 h2 h5 h6)
        · show ez xs 66 190 [some (.ref 131), some (.int k), some (.int i), some (.int j), some (.int f), some (.int x), some (.int y), some (.int (m 131 5))] [] (jj_up (jj_up (jj_up (jj_up (jj_up (jj_up (jj_up (jj_up (jj_up (jj_up (jj_up m 135 ((m 131 5).toNatClampNeg) k) 136 ((m 131 5).toNatClampNeg) f) 137 ((m 131 5).toNatClampNeg) x) 138 ((m 131 5).toNatClampNeg) y) 139 ((m 131 5).toNatClampNeg) (m 134 i.toNatClampNeg)) 140 ((m 131 5).toNatClampNeg) (m 134 j.toNatClampNeg)) 142 ((m 131 5).toNatClampNeg) (-1)) 141 ((m 131 5).toNatClampNeg) (m 146 (m 131 20).toNatClampNeg)) 143 ((m 131 5).toNatClampNeg) (vp_nar .boolean 1)) 144 (((2 : Int32) * (m 131 5)).toNatClampNeg) (-1)) 144 ((((2 : Int32) * (m 131 5)) + 1).toNatClampNeg) (-1)) Q
          refine ez_blk 7 rfl ?_
          show ez xs 66 203 [some (.ref 131), some (.int k), some (.int i), some (.int j), some (.int f), some (.int x), some (.int y), some (.int (m 131 5))] [.int (m 131 20), .ref 146, .int 2, .ref 144] (jj_up (jj_up (jj_up (jj_up (jj_up (jj_up (jj_up (jj_up (jj_up (jj_up (jj_up m 135 ((m 131 5).toNatClampNeg) k) 136 ((m 131 5).toNatClampNeg) f) 137 ((m 131 5).toNatClampNeg) x) 138 ((m 131 5).toNatClampNeg) y) 139 ((m 131 5).toNatClampNeg) (m 134 i.toNatClampNeg)) 140 ((m 131 5).toNatClampNeg) (m 134 j.toNatClampNeg)) 142 ((m 131 5).toNatClampNeg) (-1)) 141 ((m 131 5).toNatClampNeg) (m 146 (m 131 20).toNatClampNeg)) 143 ((m 131 5).toNatClampNeg) (vp_nar .boolean 1)) 144 (((2 : Int32) * (m 131 5)).toNatClampNeg) (-1)) 144 ((((2 : Int32) * (m 131 5)) + 1).toNatClampNeg) (-1)) Q
          refine ez_ialdv rfl (by decide) rfl (b32 h1 h2 h5 h6) ?_
          show ez xs 66 204 [some (.ref 131), some (.int k), some (.int i), some (.int j), some (.int f), some (.int x), some (.int y), some (.int (m 131 5))] [.int (m 146 (m 131 20).toNatClampNeg), .int 2, .ref 144] (jj_up (jj_up (jj_up (jj_up (jj_up (jj_up (jj_up (jj_up (jj_up (jj_up (jj_up m 135 ((m 131 5).toNatClampNeg) k) 136 ((m 131 5).toNatClampNeg) f) 137 ((m 131 5).toNatClampNeg) x) 138 ((m 131 5).toNatClampNeg) y) 139 ((m 131 5).toNatClampNeg) (m 134 i.toNatClampNeg)) 140 ((m 131 5).toNatClampNeg) (m 134 j.toNatClampNeg)) 142 ((m 131 5).toNatClampNeg) (-1)) 141 ((m 131 5).toNatClampNeg) (m 146 (m 131 20).toNatClampNeg)) 143 ((m 131 5).toNatClampNeg) (vp_nar .boolean 1)) 144 (((2 : Int32) * (m 131 5)).toNatClampNeg) (-1)) 144 ((((2 : Int32) * (m 131 5)) + 1).toNatClampNeg) (-1)) Q
          refine ez_blk 5 rfl ?_
          show ez xs 66 213 [some (.ref 131), some (.int k), some (.int i), some (.int j), some (.int f), some (.int x), some (.int y), some (.int (m 131 5))] [.int (m 131 20), .ref 147, .int ((2 : Int32) * (m 146 (m 131 20).toNatClampNeg)), .ref 144] (jj_up (jj_up (jj_up (jj_up (jj_up (jj_up (jj_up (jj_up (jj_up (jj_up (jj_up m 135 ((m 131 5).toNatClampNeg) k) 136 ((m 131 5).toNatClampNeg) f) 137 ((m 131 5).toNatClampNeg) x) 138 ((m 131 5).toNatClampNeg) y) 139 ((m 131 5).toNatClampNeg) (m 134 i.toNatClampNeg)) 140 ((m 131 5).toNatClampNeg) (m 134 j.toNatClampNeg)) 142 ((m 131 5).toNatClampNeg) (-1)) 141 ((m 131 5).toNatClampNeg) (m 146 (m 131 20).toNatClampNeg)) 143 ((m 131 5).toNatClampNeg) (vp_nar .boolean 1)) 144 (((2 : Int32) * (m 131 5)).toNatClampNeg) (-1)) 144 ((((2 : Int32) * (m 131 5)) + 1).toNatClampNeg) (-1)) Q
          refine ez_ialdv rfl (by decide) rfl (b33 h1 h2 h5 h6) ?_
          show ez xs 66 214 [some (.ref 131), some (.int k), some (.int i), some (.int j), some (.int f), some (.int x), some (.int y), some (.int (m 131 5))] [.int (m 147 (m 131 20).toNatClampNeg), .int ((2 : Int32) * (m 146 (m 131 20).toNatClampNeg)), .ref 144] (jj_up (jj_up (jj_up (jj_up (jj_up (jj_up (jj_up (jj_up (jj_up (jj_up (jj_up m 135 ((m 131 5).toNatClampNeg) k) 136 ((m 131 5).toNatClampNeg) f) 137 ((m 131 5).toNatClampNeg) x) 138 ((m 131 5).toNatClampNeg) y) 139 ((m 131 5).toNatClampNeg) (m 134 i.toNatClampNeg)) 140 ((m 131 5).toNatClampNeg) (m 134 j.toNatClampNeg)) 142 ((m 131 5).toNatClampNeg) (-1)) 141 ((m 131 5).toNatClampNeg) (m 146 (m 131 20).toNatClampNeg)) 143 ((m 131 5).toNatClampNeg) (vp_nar .boolean 1)) 144 (((2 : Int32) * (m 131 5)).toNatClampNeg) (-1)) 144 ((((2 : Int32) * (m 131 5)) + 1).toNatClampNeg) (-1)) Q
          refine ez_blk 2 rfl ?_
          show ez xs 66 217 [some (.ref 131), some (.int k), some (.int i), some (.int j), some (.int f), some (.int x), some (.int y), some (.int (m 131 5))] [.int (m 131 5), .int (((2 : Int32) * (m 146 (m 131 20).toNatClampNeg)) + (m 147 (m 131 20).toNatClampNeg)), .ref 144] (jj_up (jj_up (jj_up (jj_up (jj_up (jj_up (jj_up (jj_up (jj_up (jj_up (jj_up m 135 ((m 131 5).toNatClampNeg) k) 136 ((m 131 5).toNatClampNeg) f) 137 ((m 131 5).toNatClampNeg) x) 138 ((m 131 5).toNatClampNeg) y) 139 ((m 131 5).toNatClampNeg) (m 134 i.toNatClampNeg)) 140 ((m 131 5).toNatClampNeg) (m 134 j.toNatClampNeg)) 142 ((m 131 5).toNatClampNeg) (-1)) 141 ((m 131 5).toNatClampNeg) (m 146 (m 131 20).toNatClampNeg)) 143 ((m 131 5).toNatClampNeg) (vp_nar .boolean 1)) 144 (((2 : Int32) * (m 131 5)).toNatClampNeg) (-1)) 144 ((((2 : Int32) * (m 131 5)) + 1).toNatClampNeg) (-1)) Q
          refine ez_iastv rfl (by decide) rfl (b34 h1 h2 h5 h6) ?_
          show ez xs 66 218 [some (.ref 131), some (.int k), some (.int i), some (.int j), some (.int f), some (.int x), some (.int y), some (.int (m 131 5))] [] (jj_up (jj_up (jj_up (jj_up (jj_up (jj_up (jj_up (jj_up (jj_up (jj_up (jj_up (jj_up m 135 ((m 131 5).toNatClampNeg) k) 136 ((m 131 5).toNatClampNeg) f) 137 ((m 131 5).toNatClampNeg) x) 138 ((m 131 5).toNatClampNeg) y) 139 ((m 131 5).toNatClampNeg) (m 134 i.toNatClampNeg)) 140 ((m 131 5).toNatClampNeg) (m 134 j.toNatClampNeg)) 142 ((m 131 5).toNatClampNeg) (-1)) 141 ((m 131 5).toNatClampNeg) (m 146 (m 131 20).toNatClampNeg)) 143 ((m 131 5).toNatClampNeg) (vp_nar .boolean 1)) 144 (((2 : Int32) * (m 131 5)).toNatClampNeg) (-1)) 144 ((((2 : Int32) * (m 131 5)) + 1).toNatClampNeg) (-1)) 144 ((((2 : Int32) * (m 146 (m 131 20).toNatClampNeg)) + (m 147 (m 131 20).toNatClampNeg)).toNatClampNeg) (m 131 5)) Q
          refine ez_blk 5 rfl ?_
          show ez xs 66 228 [some (.ref 131), some (.int k), some (.int i), some (.int j), some (.int f), some (.int x), some (.int y), some (.int (m 131 5))] [.int (m 131 5), .int (m 131 20), .ref 148] (jj_up (jj_up (jj_up (jj_up (jj_up (jj_up (jj_up (jj_up (jj_up (jj_up (jj_up (jj_up m 135 ((m 131 5).toNatClampNeg) k) 136 ((m 131 5).toNatClampNeg) f) 137 ((m 131 5).toNatClampNeg) x) 138 ((m 131 5).toNatClampNeg) y) 139 ((m 131 5).toNatClampNeg) (m 134 i.toNatClampNeg)) 140 ((m 131 5).toNatClampNeg) (m 134 j.toNatClampNeg)) 142 ((m 131 5).toNatClampNeg) (-1)) 141 ((m 131 5).toNatClampNeg) (m 146 (m 131 20).toNatClampNeg)) 143 ((m 131 5).toNatClampNeg) (vp_nar .boolean 1)) 144 (((2 : Int32) * (m 131 5)).toNatClampNeg) (-1)) 144 ((((2 : Int32) * (m 131 5)) + 1).toNatClampNeg) (-1)) 144 ((((2 : Int32) * (m 146 (m 131 20).toNatClampNeg)) + (m 147 (m 131 20).toNatClampNeg)).toNatClampNeg) (m 131 5)) Q
          refine ez_iastv rfl (by decide) rfl (b35 h1 h2 h5 h6) ?_
          show ez xs 66 229 [some (.ref 131), some (.int k), some (.int i), some (.int j), some (.int f), some (.int x), some (.int y), some (.int (m 131 5))] [] (jj_up (jj_up (jj_up (jj_up (jj_up (jj_up (jj_up (jj_up (jj_up (jj_up (jj_up (jj_up (jj_up m 135 ((m 131 5).toNatClampNeg) k) 136 ((m 131 5).toNatClampNeg) f) 137 ((m 131 5).toNatClampNeg) x) 138 ((m 131 5).toNatClampNeg) y) 139 ((m 131 5).toNatClampNeg) (m 134 i.toNatClampNeg)) 140 ((m 131 5).toNatClampNeg) (m 134 j.toNatClampNeg)) 142 ((m 131 5).toNatClampNeg) (-1)) 141 ((m 131 5).toNatClampNeg) (m 146 (m 131 20).toNatClampNeg)) 143 ((m 131 5).toNatClampNeg) (vp_nar .boolean 1)) 144 (((2 : Int32) * (m 131 5)).toNatClampNeg) (-1)) 144 ((((2 : Int32) * (m 131 5)) + 1).toNatClampNeg) (-1)) 144 ((((2 : Int32) * (m 146 (m 131 20).toNatClampNeg)) + (m 147 (m 131 20).toNatClampNeg)).toNatClampNeg) (m 131 5)) 148 ((m 131 20).toNatClampNeg) (m 131 5)) Q
          refine ez_blk 7 rfl ?_
          show ez xs 66 240 [some (.ref 131), some (.int k), some (.int i), some (.int j), some (.int f), some (.int x), some (.int y), some (.int (m 131 5))] [.int 1] (jj_up (jj_up (jj_up (jj_up (jj_up (jj_up (jj_up (jj_up (jj_up (jj_up (jj_up (jj_up (jj_up (jj_up m 135 ((m 131 5).toNatClampNeg) k) 136 ((m 131 5).toNatClampNeg) f) 137 ((m 131 5).toNatClampNeg) x) 138 ((m 131 5).toNatClampNeg) y) 139 ((m 131 5).toNatClampNeg) (m 134 i.toNatClampNeg)) 140 ((m 131 5).toNatClampNeg) (m 134 j.toNatClampNeg)) 142 ((m 131 5).toNatClampNeg) (-1)) 141 ((m 131 5).toNatClampNeg) (m 146 (m 131 20).toNatClampNeg)) 143 ((m 131 5).toNatClampNeg) (vp_nar .boolean 1)) 144 (((2 : Int32) * (m 131 5)).toNatClampNeg) (-1)) 144 ((((2 : Int32) * (m 131 5)) + 1).toNatClampNeg) (-1)) 144 ((((2 : Int32) * (m 146 (m 131 20).toNatClampNeg)) + (m 147 (m 131 20).toNatClampNeg)).toNatClampNeg) (m 131 5)) 148 ((m 131 20).toNatClampNeg) (m 131 5)) 131 5 ((m 131 5) + 1)) Q
          exact ez_ret rfl (by decide) rfl (g5 h1 h2 h5 h6)
      · show ez xs 66 159 [some (.ref 131), some (.int k), some (.int i), some (.int j), some (.int f), some (.int x), some (.int y), some (.int (m 131 5))] [] (jj_up (jj_up (jj_up (jj_up (jj_up (jj_up (jj_up (jj_up (jj_up (jj_up (jj_up m 135 ((m 131 5).toNatClampNeg) k) 136 ((m 131 5).toNatClampNeg) f) 137 ((m 131 5).toNatClampNeg) x) 138 ((m 131 5).toNatClampNeg) y) 139 ((m 131 5).toNatClampNeg) (m 134 i.toNatClampNeg)) 140 ((m 131 5).toNatClampNeg) (m 134 j.toNatClampNeg)) 142 ((m 131 5).toNatClampNeg) (-1)) 141 ((m 131 5).toNatClampNeg) (m 146 (m 131 20).toNatClampNeg)) 143 ((m 131 5).toNatClampNeg) (vp_nar .boolean 1)) 144 (((2 : Int32) * (m 131 5)).toNatClampNeg) (-1)) 144 ((((2 : Int32) * (m 131 5)) + 1).toNatClampNeg) (-1)) Q
        refine ez_blk 6 rfl ?_
        show ez xs 66 171 [some (.ref 131), some (.int k), some (.int i), some (.int j), some (.int f), some (.int x), some (.int y), some (.int (m 131 5))] [.int (m 131 20), .ref 148, .ref 142] (jj_up (jj_up (jj_up (jj_up (jj_up (jj_up (jj_up (jj_up (jj_up (jj_up (jj_up m 135 ((m 131 5).toNatClampNeg) k) 136 ((m 131 5).toNatClampNeg) f) 137 ((m 131 5).toNatClampNeg) x) 138 ((m 131 5).toNatClampNeg) y) 139 ((m 131 5).toNatClampNeg) (m 134 i.toNatClampNeg)) 140 ((m 131 5).toNatClampNeg) (m 134 j.toNatClampNeg)) 142 ((m 131 5).toNatClampNeg) (-1)) 141 ((m 131 5).toNatClampNeg) (m 146 (m 131 20).toNatClampNeg)) 143 ((m 131 5).toNatClampNeg) (vp_nar .boolean 1)) 144 (((2 : Int32) * (m 131 5)).toNatClampNeg) (-1)) 144 ((((2 : Int32) * (m 131 5)) + 1).toNatClampNeg) (-1)) Q
        refine ez_ialdv rfl (by decide) rfl (b36 h1 h2 h5) ?_
        show ez xs 66 172 [some (.ref 131), some (.int k), some (.int i), some (.int j), some (.int f), some (.int x), some (.int y), some (.int (m 131 5))] [.int (m 148 (m 131 20).toNatClampNeg), .ref 142] (jj_up (jj_up (jj_up (jj_up (jj_up (jj_up (jj_up (jj_up (jj_up (jj_up (jj_up m 135 ((m 131 5).toNatClampNeg) k) 136 ((m 131 5).toNatClampNeg) f) 137 ((m 131 5).toNatClampNeg) x) 138 ((m 131 5).toNatClampNeg) y) 139 ((m 131 5).toNatClampNeg) (m 134 i.toNatClampNeg)) 140 ((m 131 5).toNatClampNeg) (m 134 j.toNatClampNeg)) 142 ((m 131 5).toNatClampNeg) (-1)) 141 ((m 131 5).toNatClampNeg) (m 146 (m 131 20).toNatClampNeg)) 143 ((m 131 5).toNatClampNeg) (vp_nar .boolean 1)) 144 (((2 : Int32) * (m 131 5)).toNatClampNeg) (-1)) 144 ((((2 : Int32) * (m 131 5)) + 1).toNatClampNeg) (-1)) Q
        refine ez_blk 1 rfl ?_
        show ez xs 66 174 [some (.ref 131), some (.int k), some (.int i), some (.int j), some (.int f), some (.int x), some (.int y), some (.int (m 131 5))] [.int (m 131 5), .int (m 148 (m 131 20).toNatClampNeg), .ref 142] (jj_up (jj_up (jj_up (jj_up (jj_up (jj_up (jj_up (jj_up (jj_up (jj_up (jj_up m 135 ((m 131 5).toNatClampNeg) k) 136 ((m 131 5).toNatClampNeg) f) 137 ((m 131 5).toNatClampNeg) x) 138 ((m 131 5).toNatClampNeg) y) 139 ((m 131 5).toNatClampNeg) (m 134 i.toNatClampNeg)) 140 ((m 131 5).toNatClampNeg) (m 134 j.toNatClampNeg)) 142 ((m 131 5).toNatClampNeg) (-1)) 141 ((m 131 5).toNatClampNeg) (m 146 (m 131 20).toNatClampNeg)) 143 ((m 131 5).toNatClampNeg) (vp_nar .boolean 1)) 144 (((2 : Int32) * (m 131 5)).toNatClampNeg) (-1)) 144 ((((2 : Int32) * (m 131 5)) + 1).toNatClampNeg) (-1)) Q
        refine ez_iastv rfl (by decide) rfl (b37 h1 h2 h5) ?_
        show ez xs 66 175 [some (.ref 131), some (.int k), some (.int i), some (.int j), some (.int f), some (.int x), some (.int y), some (.int (m 131 5))] [] (jj_up (jj_up (jj_up (jj_up (jj_up (jj_up (jj_up (jj_up (jj_up (jj_up (jj_up (jj_up m 135 ((m 131 5).toNatClampNeg) k) 136 ((m 131 5).toNatClampNeg) f) 137 ((m 131 5).toNatClampNeg) x) 138 ((m 131 5).toNatClampNeg) y) 139 ((m 131 5).toNatClampNeg) (m 134 i.toNatClampNeg)) 140 ((m 131 5).toNatClampNeg) (m 134 j.toNatClampNeg)) 142 ((m 131 5).toNatClampNeg) (-1)) 141 ((m 131 5).toNatClampNeg) (m 146 (m 131 20).toNatClampNeg)) 143 ((m 131 5).toNatClampNeg) (vp_nar .boolean 1)) 144 (((2 : Int32) * (m 131 5)).toNatClampNeg) (-1)) 144 ((((2 : Int32) * (m 131 5)) + 1).toNatClampNeg) (-1)) 142 ((m 148 (m 131 20).toNatClampNeg).toNatClampNeg) (m 131 5)) Q
        refine ez_blk 6 rfl ?_
        show ez xs 66 228 [some (.ref 131), some (.int k), some (.int i), some (.int j), some (.int f), some (.int x), some (.int y), some (.int (m 131 5))] [.int (m 131 5), .int (m 131 20), .ref 148] (jj_up (jj_up (jj_up (jj_up (jj_up (jj_up (jj_up (jj_up (jj_up (jj_up (jj_up (jj_up m 135 ((m 131 5).toNatClampNeg) k) 136 ((m 131 5).toNatClampNeg) f) 137 ((m 131 5).toNatClampNeg) x) 138 ((m 131 5).toNatClampNeg) y) 139 ((m 131 5).toNatClampNeg) (m 134 i.toNatClampNeg)) 140 ((m 131 5).toNatClampNeg) (m 134 j.toNatClampNeg)) 142 ((m 131 5).toNatClampNeg) (-1)) 141 ((m 131 5).toNatClampNeg) (m 146 (m 131 20).toNatClampNeg)) 143 ((m 131 5).toNatClampNeg) (vp_nar .boolean 1)) 144 (((2 : Int32) * (m 131 5)).toNatClampNeg) (-1)) 144 ((((2 : Int32) * (m 131 5)) + 1).toNatClampNeg) (-1)) 142 ((m 148 (m 131 20).toNatClampNeg).toNatClampNeg) (m 131 5)) Q
        refine ez_iastv rfl (by decide) rfl (b38 h1 h2 h5) ?_
        show ez xs 66 229 [some (.ref 131), some (.int k), some (.int i), some (.int j), some (.int f), some (.int x), some (.int y), some (.int (m 131 5))] [] (jj_up (jj_up (jj_up (jj_up (jj_up (jj_up (jj_up (jj_up (jj_up (jj_up (jj_up (jj_up (jj_up m 135 ((m 131 5).toNatClampNeg) k) 136 ((m 131 5).toNatClampNeg) f) 137 ((m 131 5).toNatClampNeg) x) 138 ((m 131 5).toNatClampNeg) y) 139 ((m 131 5).toNatClampNeg) (m 134 i.toNatClampNeg)) 140 ((m 131 5).toNatClampNeg) (m 134 j.toNatClampNeg)) 142 ((m 131 5).toNatClampNeg) (-1)) 141 ((m 131 5).toNatClampNeg) (m 146 (m 131 20).toNatClampNeg)) 143 ((m 131 5).toNatClampNeg) (vp_nar .boolean 1)) 144 (((2 : Int32) * (m 131 5)).toNatClampNeg) (-1)) 144 ((((2 : Int32) * (m 131 5)) + 1).toNatClampNeg) (-1)) 142 ((m 148 (m 131 20).toNatClampNeg).toNatClampNeg) (m 131 5)) 148 ((m 131 20).toNatClampNeg) (m 131 5)) Q
        refine ez_blk 7 rfl ?_
        show ez xs 66 240 [some (.ref 131), some (.int k), some (.int i), some (.int j), some (.int f), some (.int x), some (.int y), some (.int (m 131 5))] [.int 1] (jj_up (jj_up (jj_up (jj_up (jj_up (jj_up (jj_up (jj_up (jj_up (jj_up (jj_up (jj_up (jj_up (jj_up m 135 ((m 131 5).toNatClampNeg) k) 136 ((m 131 5).toNatClampNeg) f) 137 ((m 131 5).toNatClampNeg) x) 138 ((m 131 5).toNatClampNeg) y) 139 ((m 131 5).toNatClampNeg) (m 134 i.toNatClampNeg)) 140 ((m 131 5).toNatClampNeg) (m 134 j.toNatClampNeg)) 142 ((m 131 5).toNatClampNeg) (-1)) 141 ((m 131 5).toNatClampNeg) (m 146 (m 131 20).toNatClampNeg)) 143 ((m 131 5).toNatClampNeg) (vp_nar .boolean 1)) 144 (((2 : Int32) * (m 131 5)).toNatClampNeg) (-1)) 144 ((((2 : Int32) * (m 131 5)) + 1).toNatClampNeg) (-1)) 142 ((m 148 (m 131 20).toNatClampNeg).toNatClampNeg) (m 131 5)) 148 ((m 131 20).toNatClampNeg) (m 131 5)) 131 5 ((m 131 5) + 1)) Q
        exact ez_ret rfl (by decide) rfl (g6 h1 h2 h5)
  · show ez xs 66 9 [some (.ref 131), some (.int k), some (.int i), some (.int j), some (.int f), some (.int x), some (.int y), none] [] m Q
    refine ez_blk 1 rfl ?_
    show ez xs 66 10 [some (.ref 131), some (.int k), some (.int i), some (.int j), some (.int f), some (.int x), some (.int y), none] [.int 0] m Q
    exact ez_ret rfl (by decide) rfl (g7 h1)
set_option maxRecDepth 100000 in
set_option maxHeartbeats 2000000 in
theorem c_M_close {xs : jx_Xs} {m : zM} {Q : Option Value → zM → Prop} {i : Int32}
    (b1 : (¬ m 131 20 = 0) → vp_in (m 131 20) 7)
    (b2 : (¬ m 131 20 = 0) → vp_in (m 146 (m 131 20).toNatClampNeg) 24)
    (b3 : (¬ m 131 20 = 0) → (m 143 (m 146 (m 131 20).toNatClampNeg).toNatClampNeg = 0) → vp_in (m 131 20) 7)
    (b4 : (¬ m 131 20 = 0) → (m 143 (m 146 (m 131 20).toNatClampNeg).toNatClampNeg = 0) → (m 147 (m 131 20).toNatClampNeg = 0) → (¬ m 131 2 ≤ (i + 1)) → vp_in (i + 1) 160)
    (b5 : (¬ m 131 20 = 0) → (m 143 (m 146 (m 131 20).toNatClampNeg).toNatClampNeg = 0) → (m 147 (m 131 20).toNatClampNeg = 0) → (f_M_look m (i + 1) = 58) → (¬ (jj_up m 131 20 ((m 131 20) - 1)) 131 2 ≤ (i + 2)) → vp_in (i + 2) 160)
    (b6 : (¬ m 131 20 = 0) → (m 143 (m 146 (m 131 20).toNatClampNeg).toNatClampNeg = 0) → (m 147 (m 131 20).toNatClampNeg = 0) → (f_M_look m (i + 1) = 58) → (f_M_look (jj_up m 131 20 ((m 131 20) - 1)) (i + 2) = 123) → (¬ (jj_up m 131 20 ((m 131 20) - 1)) 131 20 = 6) → vp_in (((jj_up m 131 20 ((m 131 20) - 1)) 131 20) + 1) 7)
    (b7 : (¬ m 131 20 = 0) → (m 143 (m 146 (m 131 20).toNatClampNeg).toNatClampNeg = 0) → (m 147 (m 131 20).toNatClampNeg = 0) → (f_M_look m (i + 1) = 58) → (f_M_look (jj_up m 131 20 ((m 131 20) - 1)) (i + 2) = 123) → (¬ (jj_up m 131 20 ((m 131 20) - 1)) 131 20 = 6) → vp_in (((jj_up m 131 20 ((m 131 20) - 1)) 131 20) + 1) 7)
    (b8 : (¬ m 131 20 = 0) → (m 143 (m 146 (m 131 20).toNatClampNeg).toNatClampNeg = 0) → (m 147 (m 131 20).toNatClampNeg = 0) → (f_M_look m (i + 1) = 58) → (f_M_look (jj_up m 131 20 ((m 131 20) - 1)) (i + 2) = 123) → (¬ (jj_up m 131 20 ((m 131 20) - 1)) 131 20 = 6) → vp_in (((jj_up m 131 20 ((m 131 20) - 1)) 131 20) + 1) 7)
    (g1 : (¬ m 131 20 = 0) → (¬ m 143 (m 146 (m 131 20).toNatClampNeg).toNatClampNeg = 0) → Q (some (.int (i + 1))) (jj_up m 131 20 ((m 131 20) - 1)))
    (g2 : (¬ m 131 20 = 0) → (m 143 (m 146 (m 131 20).toNatClampNeg).toNatClampNeg = 0) → (¬ m 147 (m 131 20).toNatClampNeg = 0) → Q (some (.int (i + 1))) (jj_up m 131 20 ((m 131 20) - 1)))
    (g3 : (¬ m 131 20 = 0) → (m 143 (m 146 (m 131 20).toNatClampNeg).toNatClampNeg = 0) → (m 147 (m 131 20).toNatClampNeg = 0) → (¬ f_M_look m (i + 1) = 58) → Q (some (.int (i + 1))) (jj_up m 131 20 ((m 131 20) - 1)))
    (g4 : (¬ m 131 20 = 0) → (m 143 (m 146 (m 131 20).toNatClampNeg).toNatClampNeg = 0) → (m 147 (m 131 20).toNatClampNeg = 0) → (f_M_look m (i + 1) = 58) → (¬ f_M_look (jj_up m 131 20 ((m 131 20) - 1)) (i + 2) = 123) → Q (some (.int (-1))) (jj_up m 131 20 ((m 131 20) - 1)))
    (g5 : (¬ m 131 20 = 0) → (m 143 (m 146 (m 131 20).toNatClampNeg).toNatClampNeg = 0) → (m 147 (m 131 20).toNatClampNeg = 0) → (f_M_look m (i + 1) = 58) → (f_M_look (jj_up m 131 20 ((m 131 20) - 1)) (i + 2) = 123) → (¬ (jj_up m 131 20 ((m 131 20) - 1)) 131 20 = 6) → Q (some (.int (i + 3))) (jj_up (jj_up (jj_up (jj_up (jj_up m 131 20 ((m 131 20) - 1)) 131 20 (((jj_up m 131 20 ((m 131 20) - 1)) 131 20) + 1)) 146 ((((jj_up m 131 20 ((m 131 20) - 1)) 131 20) + 1).toNatClampNeg) (m 146 (m 131 20).toNatClampNeg)) 147 ((((jj_up m 131 20 ((m 131 20) - 1)) 131 20) + 1).toNatClampNeg) 1) 148 ((((jj_up m 131 20 ((m 131 20) - 1)) 131 20) + 1).toNatClampNeg) (-1)))
    (g6 : (¬ m 131 20 = 0) → (m 143 (m 146 (m 131 20).toNatClampNeg).toNatClampNeg = 0) → (m 147 (m 131 20).toNatClampNeg = 0) → (f_M_look m (i + 1) = 58) → (f_M_look (jj_up m 131 20 ((m 131 20) - 1)) (i + 2) = 123) → ((jj_up m 131 20 ((m 131 20) - 1)) 131 20 = 6) → Q (some (.int (-1))) (jj_up m 131 20 ((m 131 20) - 1)))
    (g7 : (m 131 20 = 0) → Q (some (.int (-1))) m) : ez xs 64 0 (jx_ent 64 [.ref 131, .int i]) [] m Q := by
  refine ez_blk 2 rfl ?_
  show ez xs 64 4 [some (.ref 131), some (.int i), none, none] [.int (m 131 20)] m Q
  refine ez_if_ne rfl (fun h1 => ?_) (fun h1 => ?_)
  · show ez xs 64 9 [some (.ref 131), some (.int i), none, none] [] m Q
    refine ez_blk 4 rfl ?_
    show ez xs 64 17 [some (.ref 131), some (.int i), none, none] [.int (m 131 20), .ref 146] m Q
    refine ez_ialdv rfl (by decide) rfl (b1 h1) ?_
    show ez xs 64 18 [some (.ref 131), some (.int i), none, none] [.int (m 146 (m 131 20).toNatClampNeg)] m Q
    refine ez_blk 4 rfl ?_
    show ez xs 64 24 [some (.ref 131), some (.int i), some (.int (m 146 (m 131 20).toNatClampNeg)), none] [.int (m 146 (m 131 20).toNatClampNeg), .ref 143] m Q
    refine ez_zaldv rfl (by decide) rfl (b2 h1) ?_
    show ez xs 64 25 [some (.ref 131), some (.int i), some (.int (m 146 (m 131 20).toNatClampNeg)), none] [.int (m 143 (m 146 (m 131 20).toNatClampNeg).toNatClampNeg)] m Q
    refine ez_if_ne rfl (fun h2 => ?_) (fun h2 => ?_)
    · show ez xs 64 56 [some (.ref 131), some (.int i), some (.int (m 146 (m 131 20).toNatClampNeg)), none] [] m Q
      refine ez_blk 9 rfl ?_
      show ez xs 64 69 [some (.ref 131), some (.int i), some (.int (m 146 (m 131 20).toNatClampNeg)), some (.int 0)] [.int 0] (jj_up m 131 20 ((m 131 20) - 1)) Q
      refine ez_if_ne rfl (fun h => False.elim (by revert h; decide)) (fun _ => ?_)
      show ez xs 64 72 [some (.ref 131), some (.int i), some (.int (m 146 (m 131 20).toNatClampNeg)), some (.int 0)] [] (jj_up m 131 20 ((m 131 20) - 1)) Q
      refine ez_blk 3 rfl ?_
      show ez xs 64 75 [some (.ref 131), some (.int i), some (.int (m 146 (m 131 20).toNatClampNeg)), some (.int 0)] [.int (i + 1)] (jj_up m 131 20 ((m 131 20) - 1)) Q
      exact ez_ret rfl (by decide) rfl (g1 h1 h2)
    · show ez xs 64 28 [some (.ref 131), some (.int i), some (.int (m 146 (m 131 20).toNatClampNeg)), none] [] m Q
      refine ez_blk 4 rfl ?_
      show ez xs 64 36 [some (.ref 131), some (.int i), some (.int (m 146 (m 131 20).toNatClampNeg)), none] [.int (m 131 20), .ref 147] m Q
      refine ez_ialdv rfl (by decide) rfl (b3 h1 h2) ?_
      show ez xs 64 37 [some (.ref 131), some (.int i), some (.int (m 146 (m 131 20).toNatClampNeg)), none] [.int (m 147 (m 131 20).toNatClampNeg)] m Q
      refine ez_if_ne rfl (fun h3 => ?_) (fun h3 => ?_)
      · show ez xs 64 56 [some (.ref 131), some (.int i), some (.int (m 146 (m 131 20).toNatClampNeg)), none] [] m Q
        refine ez_blk 9 rfl ?_
        show ez xs 64 69 [some (.ref 131), some (.int i), some (.int (m 146 (m 131 20).toNatClampNeg)), some (.int 0)] [.int 0] (jj_up m 131 20 ((m 131 20) - 1)) Q
        refine ez_if_ne rfl (fun h => False.elim (by revert h; decide)) (fun _ => ?_)
        show ez xs 64 72 [some (.ref 131), some (.int i), some (.int (m 146 (m 131 20).toNatClampNeg)), some (.int 0)] [] (jj_up m 131 20 ((m 131 20) - 1)) Q
        refine ez_blk 3 rfl ?_
        show ez xs 64 75 [some (.ref 131), some (.int i), some (.int (m 146 (m 131 20).toNatClampNeg)), some (.int 0)] [.int (i + 1)] (jj_up m 131 20 ((m 131 20) - 1)) Q
        exact ez_ret rfl (by decide) rfl (g2 h1 h2 h3)
      · show ez xs 64 40 [some (.ref 131), some (.int i), some (.int (m 146 (m 131 20).toNatClampNeg)), none] [] m Q
        refine ez_blk 4 rfl ?_
        show ez xs 64 44 [some (.ref 131), some (.int i), some (.int (m 146 (m 131 20).toNatClampNeg)), none] [.int (i + 1), .ref 131] m Q
        refine ez_call (as := [.ref 131, .int (i + 1)]) (rest := []) rfl (by decide) rfl ?_
        refine d_M_look (fun h4 => b4 h1 h2 h3 h4) ?_
        show ez xs 64 47 [some (.ref 131), some (.int i), some (.int (m 146 (m 131 20).toNatClampNeg)), none] [.int (f_M_look m (i + 1))] m Q
        refine ez_blk 1 rfl ?_
        show ez xs 64 49 [some (.ref 131), some (.int i), some (.int (m 146 (m 131 20).toNatClampNeg)), none] [.int 58, .int (f_M_look m (i + 1))] m Q
        refine ez_icmp_ne rfl (fun h5 => ?_) (fun h5 => ?_)
        · show ez xs 64 56 [some (.ref 131), some (.int i), some (.int (m 146 (m 131 20).toNatClampNeg)), none] [] m Q
          refine ez_blk 9 rfl ?_
          show ez xs 64 69 [some (.ref 131), some (.int i), some (.int (m 146 (m 131 20).toNatClampNeg)), some (.int 0)] [.int 0] (jj_up m 131 20 ((m 131 20) - 1)) Q
          refine ez_if_ne rfl (fun h => False.elim (by revert h; decide)) (fun _ => ?_)
          show ez xs 64 72 [some (.ref 131), some (.int i), some (.int (m 146 (m 131 20).toNatClampNeg)), some (.int 0)] [] (jj_up m 131 20 ((m 131 20) - 1)) Q
          refine ez_blk 3 rfl ?_
          show ez xs 64 75 [some (.ref 131), some (.int i), some (.int (m 146 (m 131 20).toNatClampNeg)), some (.int 0)] [.int (i + 1)] (jj_up m 131 20 ((m 131 20) - 1)) Q
          exact ez_ret rfl (by decide) rfl (g3 h1 h2 h3 h5)
        · show ez xs 64 52 [some (.ref 131), some (.int i), some (.int (m 146 (m 131 20).toNatClampNeg)), none] [] m Q
          refine ez_blk 10 rfl ?_
          show ez xs 64 69 [some (.ref 131), some (.int i), some (.int (m 146 (m 131 20).toNatClampNeg)), some (.int 1)] [.int 1] (jj_up m 131 20 ((m 131 20) - 1)) Q
          refine ez_if_ne rfl (fun _ => ?_) (fun h => False.elim (by revert h; decide))
          show ez xs 64 76 [some (.ref 131), some (.int i), some (.int (m 146 (m 131 20).toNatClampNeg)), some (.int 1)] [] (jj_up m 131 20 ((m 131 20) - 1)) Q
          refine ez_blk 4 rfl ?_
          show ez xs 64 80 [some (.ref 131), some (.int i), some (.int (m 146 (m 131 20).toNatClampNeg)), some (.int 1)] [.int (i + 2), .ref 131] (jj_up m 131 20 ((m 131 20) - 1)) Q
          refine ez_call (as := [.ref 131, .int (i + 2)]) (rest := []) rfl (by decide) rfl ?_
          refine d_M_look (fun h6 => b5 h1 h2 h3 h5 h6) ?_
          show ez xs 64 83 [some (.ref 131), some (.int i), some (.int (m 146 (m 131 20).toNatClampNeg)), some (.int 1)] [.int (f_M_look (jj_up m 131 20 ((m 131 20) - 1)) (i + 2))] (jj_up m 131 20 ((m 131 20) - 1)) Q
          refine ez_blk 1 rfl ?_
          show ez xs 64 85 [some (.ref 131), some (.int i), some (.int (m 146 (m 131 20).toNatClampNeg)), some (.int 1)] [.int 123, .int (f_M_look (jj_up m 131 20 ((m 131 20) - 1)) (i + 2))] (jj_up m 131 20 ((m 131 20) - 1)) Q
          refine ez_icmp_ne rfl (fun h7 => ?_) (fun h7 => ?_)
          · show ez xs 64 103 [some (.ref 131), some (.int i), some (.int (m 146 (m 131 20).toNatClampNeg)), some (.int 1)] [] (jj_up m 131 20 ((m 131 20) - 1)) Q
            refine ez_blk 1 rfl ?_
            show ez xs 64 104 [some (.ref 131), some (.int i), some (.int (m 146 (m 131 20).toNatClampNeg)), some (.int 1)] [.int (-1)] (jj_up m 131 20 ((m 131 20) - 1)) Q
            exact ez_ret rfl (by decide) rfl (g4 h1 h2 h3 h5 h7)
          · show ez xs 64 88 [some (.ref 131), some (.int i), some (.int (m 146 (m 131 20).toNatClampNeg)), some (.int 1)] [] (jj_up m 131 20 ((m 131 20) - 1)) Q
            refine ez_blk 3 rfl ?_
            show ez xs 64 91 [some (.ref 131), some (.int i), some (.int (m 146 (m 131 20).toNatClampNeg)), some (.int 1)] [.int 1, .int (m 146 (m 131 20).toNatClampNeg), .ref 131] (jj_up m 131 20 ((m 131 20) - 1)) Q
            refine ez_call (as := [.ref 131, .int (m 146 (m 131 20).toNatClampNeg), .int 1]) (rest := []) rfl (by decide) rfl ?_
            refine c_M_open (fun h8 => b6 h1 h2 h3 h5 h7 h8) (fun h9 => b7 h1 h2 h3 h5 h7 h9) (fun h10 => b8 h1 h2 h3 h5 h7 h10) (fun h11 => ?_) (fun h12 => ?_)
            · show ez xs 64 94 [some (.ref 131), some (.int i), some (.int (m 146 (m 131 20).toNatClampNeg)), some (.int 1)] [.int 1] (jj_up (jj_up (jj_up (jj_up (jj_up m 131 20 ((m 131 20) - 1)) 131 20 (((jj_up m 131 20 ((m 131 20) - 1)) 131 20) + 1)) 146 ((((jj_up m 131 20 ((m 131 20) - 1)) 131 20) + 1).toNatClampNeg) (m 146 (m 131 20).toNatClampNeg)) 147 ((((jj_up m 131 20 ((m 131 20) - 1)) 131 20) + 1).toNatClampNeg) 1) 148 ((((jj_up m 131 20 ((m 131 20) - 1)) 131 20) + 1).toNatClampNeg) (-1)) Q
              refine ez_if_eq rfl (fun h => False.elim (by revert h; decide)) (fun _ => ?_)
              show ez xs 64 97 [some (.ref 131), some (.int i), some (.int (m 146 (m 131 20).toNatClampNeg)), some (.int 1)] [] (jj_up (jj_up (jj_up (jj_up (jj_up m 131 20 ((m 131 20) - 1)) 131 20 (((jj_up m 131 20 ((m 131 20) - 1)) 131 20) + 1)) 146 ((((jj_up m 131 20 ((m 131 20) - 1)) 131 20) + 1).toNatClampNeg) (m 146 (m 131 20).toNatClampNeg)) 147 ((((jj_up m 131 20 ((m 131 20) - 1)) 131 20) + 1).toNatClampNeg) 1) 148 ((((jj_up m 131 20 ((m 131 20) - 1)) 131 20) + 1).toNatClampNeg) (-1)) Q
              refine ez_blk 4 rfl ?_
              show ez xs 64 104 [some (.ref 131), some (.int i), some (.int (m 146 (m 131 20).toNatClampNeg)), some (.int 1)] [.int (i + 3)] (jj_up (jj_up (jj_up (jj_up (jj_up m 131 20 ((m 131 20) - 1)) 131 20 (((jj_up m 131 20 ((m 131 20) - 1)) 131 20) + 1)) 146 ((((jj_up m 131 20 ((m 131 20) - 1)) 131 20) + 1).toNatClampNeg) (m 146 (m 131 20).toNatClampNeg)) 147 ((((jj_up m 131 20 ((m 131 20) - 1)) 131 20) + 1).toNatClampNeg) 1) 148 ((((jj_up m 131 20 ((m 131 20) - 1)) 131 20) + 1).toNatClampNeg) (-1)) Q
              exact ez_ret rfl (by decide) rfl (g5 h1 h2 h3 h5 h7 h11)
            · show ez xs 64 94 [some (.ref 131), some (.int i), some (.int (m 146 (m 131 20).toNatClampNeg)), some (.int 1)] [.int 0] (jj_up m 131 20 ((m 131 20) - 1)) Q
              refine ez_if_eq rfl (fun _ => ?_) (fun h => False.elim (by revert h; decide))
              show ez xs 64 103 [some (.ref 131), some (.int i), some (.int (m 146 (m 131 20).toNatClampNeg)), some (.int 1)] [] (jj_up m 131 20 ((m 131 20) - 1)) Q
              refine ez_blk 1 rfl ?_
              show ez xs 64 104 [some (.ref 131), some (.int i), some (.int (m 146 (m 131 20).toNatClampNeg)), some (.int 1)] [.int (-1)] (jj_up m 131 20 ((m 131 20) - 1)) Q
              exact ez_ret rfl (by decide) rfl (g6 h1 h2 h3 h5 h7 h12)
  · show ez xs 64 7 [some (.ref 131), some (.int i), none, none] [] m Q
    refine ez_blk 1 rfl ?_
    show ez xs 64 8 [some (.ref 131), some (.int i), none, none] [.int (-1)] m Q
    exact ez_ret rfl (by decide) rfl (g7 h1)
set_option maxRecDepth 100000 in
set_option maxHeartbeats 2000000 in
theorem c_M_after {xs : jx_Xs} {m : zM} {Q : Option Value → zM → Prop} {n : Int32}
    (g1 : ez xs 69 4 [some (.ref 131), some (.int n), some (.int n), some (.int 0)] [] m Q) : ez xs 69 0 (jx_ent 69 [.ref 131, .int n]) [] m Q := by
  refine ez_blk 4 rfl ?_
  show ez xs 69 4 [some (.ref 131), some (.int n), some (.int n), some (.int 0)] [] m Q
  exact g1
set_option maxRecDepth 100000 in
set_option maxHeartbeats 2000000 in
theorem c_M_after_4 {xs : jx_Xs} {m : zM} {Q : Option Value → zM → Prop} {l1 l2 l3 : Int32}
    (b1 : (¬ 8 ≤ l3) → vp_in l2 24)
    (b2 : (¬ 8 ≤ l3) → (m 142 l2.toNatClampNeg < 0) → vp_in l2 24)
    (b3 : (¬ 8 ≤ l3) → (m 142 l2.toNatClampNeg < 0) → (0 ≤ m 141 l2.toNatClampNeg) → vp_in l2 24)
    (b4 : (¬ 8 ≤ l3) → (m 142 l2.toNatClampNeg < 0) → (0 ≤ m 141 l2.toNatClampNeg) → vp_in (m 141 l2.toNatClampNeg) 24)
    (b5 : (¬ 8 ≤ l3) → (¬ m 142 l2.toNatClampNeg < 0) → vp_in l2 24)
    (g1 : (8 ≤ l3) → Q (some (.int (m 131 5))) m)
    (g2 : (¬ 8 ≤ l3) → (m 142 l2.toNatClampNeg < 0) → (0 ≤ m 141 l2.toNatClampNeg) → (m 143 (m 141 l2.toNatClampNeg).toNatClampNeg = 0) → ez xs 69 4 [some (.ref 131), some (.int l1), some (.int (m 141 l2.toNatClampNeg)), some (.int (l3 + 1))] [] m Q)
    (g3 : (¬ 8 ≤ l3) → (m 142 l2.toNatClampNeg < 0) → (0 ≤ m 141 l2.toNatClampNeg) → (¬ m 143 (m 141 l2.toNatClampNeg).toNatClampNeg = 0) → Q (some (.int (m 141 l2.toNatClampNeg))) m)
    (g4 : (¬ 8 ≤ l3) → (m 142 l2.toNatClampNeg < 0) → (¬ 0 ≤ m 141 l2.toNatClampNeg) → Q (some (.int (m 131 5))) m)
    (g5 : (¬ 8 ≤ l3) → (¬ m 142 l2.toNatClampNeg < 0) → Q (some (.int (m 142 l2.toNatClampNeg))) m) : ez xs 69 4 [some (.ref 131), some (.int l1), some (.int l2), some (.int l3)] [] m Q := by
  refine ez_blk 2 rfl ?_
  show ez xs 69 7 [some (.ref 131), some (.int l1), some (.int l2), some (.int l3)] [.int 8, .int l3] m Q
  refine ez_icmp_ge rfl (fun h1 => ?_) (fun h1 => ?_)
  · show ez xs 69 64 [some (.ref 131), some (.int l1), some (.int l2), some (.int l3)] [] m Q
    refine ez_blk 2 rfl ?_
    show ez xs 69 68 [some (.ref 131), some (.int l1), some (.int l2), some (.int l3)] [.int (m 131 5)] m Q
    exact ez_ret rfl (by decide) rfl (g1 h1)
  · show ez xs 69 10 [some (.ref 131), some (.int l1), some (.int l2), some (.int l3)] [] m Q
    refine ez_blk 3 rfl ?_
    show ez xs 69 15 [some (.ref 131), some (.int l1), some (.int l2), some (.int l3)] [.int l2, .ref 142] m Q
    refine ez_ialdv rfl (by decide) rfl (b1 h1) ?_
    show ez xs 69 16 [some (.ref 131), some (.int l1), some (.int l2), some (.int l3)] [.int (m 142 l2.toNatClampNeg)] m Q
    refine ez_if_lt rfl (fun h2 => ?_) (fun h2 => ?_)
    · show ez xs 69 26 [some (.ref 131), some (.int l1), some (.int l2), some (.int l3)] [] m Q
      refine ez_blk 3 rfl ?_
      show ez xs 69 31 [some (.ref 131), some (.int l1), some (.int l2), some (.int l3)] [.int l2, .ref 141] m Q
      refine ez_ialdv rfl (by decide) rfl (b2 h1 h2) ?_
      show ez xs 69 32 [some (.ref 131), some (.int l1), some (.int l2), some (.int l3)] [.int (m 141 l2.toNatClampNeg)] m Q
      refine ez_if_ge rfl (fun h3 => ?_) (fun h3 => ?_)
      · show ez xs 69 40 [some (.ref 131), some (.int l1), some (.int l2), some (.int l3)] [] m Q
        refine ez_blk 3 rfl ?_
        show ez xs 69 45 [some (.ref 131), some (.int l1), some (.int l2), some (.int l3)] [.int l2, .ref 141] m Q
        refine ez_ialdv rfl (by decide) rfl (b3 h1 h2 h3) ?_
        show ez xs 69 46 [some (.ref 131), some (.int l1), some (.int l2), some (.int l3)] [.int (m 141 l2.toNatClampNeg)] m Q
        refine ez_blk 4 rfl ?_
        show ez xs 69 52 [some (.ref 131), some (.int l1), some (.int (m 141 l2.toNatClampNeg)), some (.int l3)] [.int (m 141 l2.toNatClampNeg), .ref 143] m Q
        refine ez_zaldv rfl (by decide) rfl (b4 h1 h2 h3) ?_
        show ez xs 69 53 [some (.ref 131), some (.int l1), some (.int (m 141 l2.toNatClampNeg)), some (.int l3)] [.int (m 143 (m 141 l2.toNatClampNeg).toNatClampNeg)] m Q
        refine ez_if_eq rfl (fun h4 => ?_) (fun h4 => ?_)
        · show ez xs 69 58 [some (.ref 131), some (.int l1), some (.int (m 141 l2.toNatClampNeg)), some (.int l3)] [] m Q
          refine ez_blk 2 rfl ?_
          show ez xs 69 4 [some (.ref 131), some (.int l1), some (.int (m 141 l2.toNatClampNeg)), some (.int (l3 + 1))] [] m Q
          exact g2 h1 h2 h3 h4
        · show ez xs 69 56 [some (.ref 131), some (.int l1), some (.int (m 141 l2.toNatClampNeg)), some (.int l3)] [] m Q
          refine ez_blk 1 rfl ?_
          show ez xs 69 57 [some (.ref 131), some (.int l1), some (.int (m 141 l2.toNatClampNeg)), some (.int l3)] [.int (m 141 l2.toNatClampNeg)] m Q
          exact ez_ret rfl (by decide) rfl (g3 h1 h2 h3 h4)
      · show ez xs 69 35 [some (.ref 131), some (.int l1), some (.int l2), some (.int l3)] [] m Q
        refine ez_blk 2 rfl ?_
        show ez xs 69 39 [some (.ref 131), some (.int l1), some (.int l2), some (.int l3)] [.int (m 131 5)] m Q
        exact ez_ret rfl (by decide) rfl (g4 h1 h2 h3)
    · show ez xs 69 19 [some (.ref 131), some (.int l1), some (.int l2), some (.int l3)] [] m Q
      refine ez_blk 3 rfl ?_
      show ez xs 69 24 [some (.ref 131), some (.int l1), some (.int l2), some (.int l3)] [.int l2, .ref 142] m Q
      refine ez_ialdv rfl (by decide) rfl (b5 h1 h2) ?_
      show ez xs 69 25 [some (.ref 131), some (.int l1), some (.int l2), some (.int l3)] [.int (m 142 l2.toNatClampNeg)] m Q
      exact ez_ret rfl (by decide) rfl (g5 h1 h2)
set_option maxRecDepth 100000 in
set_option maxHeartbeats 2000000 in
theorem c_Program_node {xs : jx_Xs} {m : zM} {Q : Option Value → zM → Prop} {n : Int32}
    (b1 : (n < 0) → vp_in 0 24)
    (b2 : (¬ n < 0) → (m 3 1 ≤ n) → vp_in 0 24)
    (b3 : (¬ n < 0) → (¬ m 3 1 ≤ n) → vp_in n 24)
    (g1 : (n < 0) → Q (some (.ref (5 + (0 : Int32).toNatClampNeg))) m)
    (g2 : (¬ n < 0) → (m 3 1 ≤ n) → Q (some (.ref (5 + (0 : Int32).toNatClampNeg))) m)
    (g3 : (¬ n < 0) → (¬ m 3 1 ≤ n) → Q (some (.ref (5 + n.toNatClampNeg))) m) : ez xs 33 0 (jx_ent 33 [.ref 3, .int n]) [] m Q := by
  refine ez_blk 3 rfl ?_
  show ez xs 33 5 [some (.ref 3), some (.int n)] [.int n, .ref 4] m Q
  refine ez_if_lt rfl (fun h1 => ?_) (fun h1 => ?_)
  · show ez xs 33 20 [some (.ref 3), some (.int n)] [.ref 4] m Q
    refine ez_blk 1 rfl ?_
    show ez xs 33 21 [some (.ref 3), some (.int n)] [.int 0, .ref 4] m Q
    refine ez_rldv rfl (by decide) rfl rfl (b1 h1) (z_ndr (vp_lt (b1 h1))) ?_
    show ez xs 33 22 [some (.ref 3), some (.int n)] [.ref (5 + (0 : Int32).toNatClampNeg)] m Q
    exact ez_ret rfl (by decide) rfl (g1 h1)
  · show ez xs 33 8 [some (.ref 3), some (.int n)] [.ref 4] m Q
    refine ez_blk 3 rfl ?_
    show ez xs 33 13 [some (.ref 3), some (.int n)] [.int (m 3 1), .int n, .ref 4] m Q
    refine ez_icmp_ge rfl (fun h2 => ?_) (fun h2 => ?_)
    · show ez xs 33 20 [some (.ref 3), some (.int n)] [.ref 4] m Q
      refine ez_blk 1 rfl ?_
      show ez xs 33 21 [some (.ref 3), some (.int n)] [.int 0, .ref 4] m Q
      refine ez_rldv rfl (by decide) rfl rfl (b2 h1 h2) (z_ndr (vp_lt (b2 h1 h2))) ?_
      show ez xs 33 22 [some (.ref 3), some (.int n)] [.ref (5 + (0 : Int32).toNatClampNeg)] m Q
      exact ez_ret rfl (by decide) rfl (g2 h1 h2)
    · show ez xs 33 16 [some (.ref 3), some (.int n)] [.ref 4] m Q
      refine ez_blk 2 rfl ?_
      show ez xs 33 21 [some (.ref 3), some (.int n)] [.int n, .ref 4] m Q
      refine ez_rldv rfl (by decide) rfl rfl (b3 h1 h2) (z_ndr (vp_lt (b3 h1 h2))) ?_
      show ez xs 33 22 [some (.ref 3), some (.int n)] [.ref (5 + n.toNatClampNeg)] m Q
      exact ez_ret rfl (by decide) rfl (g3 h1 h2)
set_option maxRecDepth 100000 in
set_option maxHeartbeats 2000000 in
theorem c_Script_itemOf {xs : jx_Xs} {m : zM} {Q : Option Value → zM → Prop} {k : Int32}
    (b1 : (f_Script_holds m k = 0) → vp_in 0 6)
    (b2 : (¬ f_Script_holds m k = 0) → vp_in k 6)
    (g1 : (f_Script_holds m k = 0) → Q (some (.ref (38 + 6 * (0 : Int32).toNatClampNeg))) m)
    (g2 : (¬ f_Script_holds m k = 0) → Q (some (.ref (38 + 6 * k.toNatClampNeg))) m) : ez xs 94 0 (jx_ent 94 [.ref 36, .int k]) [] m Q := by
  refine ez_blk 4 rfl ?_
  show ez xs 94 6 [some (.ref 36), some (.int k)] [.int k, .ref 36, .ref 37] m Q
  refine ez_call (as := [.ref 36, .int k]) (rest := [.ref 37]) rfl (by decide) rfl ?_
  refine d_Script_holds ?_
  show ez xs 94 9 [some (.ref 36), some (.int k)] [.int (f_Script_holds m k), .ref 37] m Q
  refine ez_if_eq rfl (fun h1 => ?_) (fun h1 => ?_)
  · show ez xs 94 16 [some (.ref 36), some (.int k)] [.ref 37] m Q
    refine ez_blk 1 rfl ?_
    show ez xs 94 17 [some (.ref 36), some (.int k)] [.int 0, .ref 37] m Q
    refine ez_rldv rfl (by decide) rfl rfl (b1 h1) (z_itr (vp_lt (b1 h1))) ?_
    show ez xs 94 18 [some (.ref 36), some (.int k)] [.ref (38 + 6 * (0 : Int32).toNatClampNeg)] m Q
    exact ez_ret rfl (by decide) rfl (g1 h1)
  · show ez xs 94 12 [some (.ref 36), some (.int k)] [.ref 37] m Q
    refine ez_blk 2 rfl ?_
    show ez xs 94 17 [some (.ref 36), some (.int k)] [.int k, .ref 37] m Q
    refine ez_rldv rfl (by decide) rfl rfl (b2 h1) (z_itr (vp_lt (b2 h1))) ?_
    show ez xs 94 18 [some (.ref 36), some (.int k)] [.ref (38 + 6 * k.toNatClampNeg)] m Q
    exact ez_ret rfl (by decide) rfl (g2 h1)
set_option maxRecDepth 100000 in
set_option maxHeartbeats 2000000 in
theorem c_Search_editOf {xs : jx_Xs} {m : zM} {Q : Option Value → zM → Prop} {n : Int32}
    (b1 : (f_Program_holds m n = 0) → vp_in 0 24)
    (b2 : (¬ f_Program_holds m n = 0) → vp_in n 24)
    (g1 : (f_Program_holds m n = 0) → Q (some (.ref (81 + 2 * (0 : Int32).toNatClampNeg))) m)
    (g2 : (¬ f_Program_holds m n = 0) → Q (some (.ref (81 + 2 * n.toNatClampNeg))) m) : ez xs 163 0 (jx_ent 163 [.ref 74, .int n]) [] m Q := by
  refine ez_blk 5 rfl ?_
  show ez xs 163 9 [some (.ref 74), some (.int n)] [.int n, .ref 3, .ref 78] m Q
  refine ez_call (as := [.ref 3, .int n]) (rest := [.ref 78]) rfl (by decide) rfl ?_
  refine d_Program_holds ?_
  show ez xs 163 12 [some (.ref 74), some (.int n)] [.int (f_Program_holds m n), .ref 78] m Q
  refine ez_if_eq rfl (fun h1 => ?_) (fun h1 => ?_)
  · show ez xs 163 19 [some (.ref 74), some (.int n)] [.ref 78] m Q
    refine ez_blk 1 rfl ?_
    show ez xs 163 20 [some (.ref 74), some (.int n)] [.int 0, .ref 78] m Q
    refine ez_rldv rfl (by decide) rfl rfl (b1 h1) (z_edr (vp_lt (b1 h1))) ?_
    show ez xs 163 21 [some (.ref 74), some (.int n)] [.ref (81 + 2 * (0 : Int32).toNatClampNeg)] m Q
    exact ez_ret rfl (by decide) rfl (g1 h1)
  · show ez xs 163 15 [some (.ref 74), some (.int n)] [.ref 78] m Q
    refine ez_blk 2 rfl ?_
    show ez xs 163 20 [some (.ref 74), some (.int n)] [.int n, .ref 78] m Q
    refine ez_rldv rfl (by decide) rfl rfl (b2 h1) (z_edr (vp_lt (b2 h1))) ?_
    show ez xs 163 21 [some (.ref 74), some (.int n)] [.ref (81 + 2 * n.toNatClampNeg)] m Q
    exact ez_ret rfl (by decide) rfl (g2 h1)
set_option maxRecDepth 100000 in
set_option maxHeartbeats 2000000 in
theorem c_Program_leadingInto {xs : jx_Xs} {m : zM} {Q : Option Value → zM → Prop} {s : Int32}
    (g1 : ez xs 120 4 [some (.ref 3), some (.int s), some (.int 0), some (.int 0)] [] m Q) : ez xs 120 0 (jx_ent 120 [.ref 3, .int s]) [] m Q := by
  refine ez_blk 4 rfl ?_
  show ez xs 120 4 [some (.ref 3), some (.int s), some (.int 0), some (.int 0)] [] m Q
  exact g1
set_option maxRecDepth 100000 in
set_option maxHeartbeats 2000000 in
theorem c_Program_leadingInto_4 {xs : jx_Xs} {m : zM} {Q : Option Value → zM → Prop} {l1 l2 l3 : Int32}
    (b1 : (¬ m 3 1 ≤ l3) → vp_in l3 24)
    (g1 : (m 3 1 ≤ l3) → Q (some (.int l2)) m)
    (g2 : (¬ m 3 1 ≤ l3) → ((f_Node_successorSet m (5 + l3.toNatClampNeg)) &&& l1 = 0) → ez xs 120 4 [some (.ref 3), some (.int l1), some (.int l2), some (.int (l3 + 1))] [] m Q)
    (g3 : (¬ m 3 1 ≤ l3) → (¬ (f_Node_successorSet m (5 + l3.toNatClampNeg)) &&& l1 = 0) → ez xs 120 4 [some (.ref 3), some (.int l1), some (.int (l2 ||| ((1 : Int32) <<< (l3 &&& 31)))), some (.int (l3 + 1))] [] m Q) : ez xs 120 4 [some (.ref 3), some (.int l1), some (.int l2), some (.int l3)] [] m Q := by
  refine ez_blk 3 rfl ?_
  show ez xs 120 9 [some (.ref 3), some (.int l1), some (.int l2), some (.int l3)] [.int (m 3 1), .int l3] m Q
  refine ez_icmp_ge rfl (fun h1 => ?_) (fun h1 => ?_)
  · show ez xs 120 38 [some (.ref 3), some (.int l1), some (.int l2), some (.int l3)] [] m Q
    refine ez_blk 1 rfl ?_
    show ez xs 120 39 [some (.ref 3), some (.int l1), some (.int l2), some (.int l3)] [.int l2] m Q
    exact ez_ret rfl (by decide) rfl (g1 h1)
  · show ez xs 120 12 [some (.ref 3), some (.int l1), some (.int l2), some (.int l3)] [] m Q
    refine ez_blk 3 rfl ?_
    show ez xs 120 17 [some (.ref 3), some (.int l1), some (.int l2), some (.int l3)] [.int l3, .ref 4] m Q
    refine ez_rldv rfl (by decide) rfl rfl (b1 h1) (z_ndr (vp_lt (b1 h1))) ?_
    show ez xs 120 18 [some (.ref 3), some (.int l1), some (.int l2), some (.int l3)] [.ref (5 + l3.toNatClampNeg)] m Q
    refine ez_calls (i := 5 + l3.toNatClampNeg) (as2 := []) (rest := []) rfl (by decide) rfl rfl rfl (z_ndi (vp_lt (b1 h1))) (z_nds (vp_lt (b1 h1))) rfl ?_
    refine d_Node_successorSet (i_r := (z_ndi (vp_lt (b1 h1)))) (s_r := (z_nds (vp_lt (b1 h1)))) ?_
    show ez xs 120 21 [some (.ref 3), some (.int l1), some (.int l2), some (.int l3)] [.int (f_Node_successorSet m (5 + l3.toNatClampNeg))] m Q
    refine ez_blk 2 rfl ?_
    show ez xs 120 23 [some (.ref 3), some (.int l1), some (.int l2), some (.int l3)] [.int ((f_Node_successorSet m (5 + l3.toNatClampNeg)) &&& l1)] m Q
    refine ez_if_eq rfl (fun h2 => ?_) (fun h2 => ?_)
    · show ez xs 120 32 [some (.ref 3), some (.int l1), some (.int l2), some (.int l3)] [] m Q
      refine ez_blk 2 rfl ?_
      show ez xs 120 4 [some (.ref 3), some (.int l1), some (.int l2), some (.int (l3 + 1))] [] m Q
      exact g2 h1 h2
    · show ez xs 120 26 [some (.ref 3), some (.int l1), some (.int l2), some (.int l3)] [] m Q
      refine ez_blk 8 rfl ?_
      show ez xs 120 4 [some (.ref 3), some (.int l1), some (.int (l2 ||| ((1 : Int32) <<< (l3 &&& 31)))), some (.int (l3 + 1))] [] m Q
      exact g3 h1 h2
set_option maxRecDepth 100000 in
set_option maxHeartbeats 2000000 in
theorem c_Program_successorsOf {xs : jx_Xs} {m : zM} {Q : Option Value → zM → Prop} {s : Int32}
    (g1 : ez xs 136 4 [some (.ref 3), some (.int s), some (.int 0), some (.int 0)] [] m Q) : ez xs 136 0 (jx_ent 136 [.ref 3, .int s]) [] m Q := by
  refine ez_blk 4 rfl ?_
  show ez xs 136 4 [some (.ref 3), some (.int s), some (.int 0), some (.int 0)] [] m Q
  exact g1
set_option maxRecDepth 100000 in
set_option maxHeartbeats 2000000 in
theorem c_Program_successorsOf_4 {xs : jx_Xs} {m : zM} {Q : Option Value → zM → Prop} {l1 l2 l3 : Int32}
    (b1 : (¬ m 3 1 ≤ l3) → (¬ l1 &&& ((1 : Int32) <<< (l3 &&& 31)) = 0) → vp_in l3 24)
    (g1 : (m 3 1 ≤ l3) → Q (some (.int l2)) m)
    (g2 : (¬ m 3 1 ≤ l3) → (l1 &&& ((1 : Int32) <<< (l3 &&& 31)) = 0) → ez xs 136 4 [some (.ref 3), some (.int l1), some (.int l2), some (.int (l3 + 1))] [] m Q)
    (g3 : (¬ m 3 1 ≤ l3) → (¬ l1 &&& ((1 : Int32) <<< (l3 &&& 31)) = 0) → ez xs 136 4 [some (.ref 3), some (.int l1), some (.int (l2 ||| (f_Node_successorSet m (5 + l3.toNatClampNeg)))), some (.int (l3 + 1))] [] m Q) : ez xs 136 4 [some (.ref 3), some (.int l1), some (.int l2), some (.int l3)] [] m Q := by
  refine ez_blk 3 rfl ?_
  show ez xs 136 9 [some (.ref 3), some (.int l1), some (.int l2), some (.int l3)] [.int (m 3 1), .int l3] m Q
  refine ez_icmp_ge rfl (fun h1 => ?_) (fun h1 => ?_)
  · show ez xs 136 38 [some (.ref 3), some (.int l1), some (.int l2), some (.int l3)] [] m Q
    refine ez_blk 1 rfl ?_
    show ez xs 136 39 [some (.ref 3), some (.int l1), some (.int l2), some (.int l3)] [.int l2] m Q
    exact ez_ret rfl (by decide) rfl (g1 h1)
  · show ez xs 136 12 [some (.ref 3), some (.int l1), some (.int l2), some (.int l3)] [] m Q
    refine ez_blk 5 rfl ?_
    show ez xs 136 17 [some (.ref 3), some (.int l1), some (.int l2), some (.int l3)] [.int (l1 &&& ((1 : Int32) <<< (l3 &&& 31)))] m Q
    refine ez_if_eq rfl (fun h2 => ?_) (fun h2 => ?_)
    · show ez xs 136 32 [some (.ref 3), some (.int l1), some (.int l2), some (.int l3)] [] m Q
      refine ez_blk 2 rfl ?_
      show ez xs 136 4 [some (.ref 3), some (.int l1), some (.int l2), some (.int (l3 + 1))] [] m Q
      exact g2 h1 h2
    · show ez xs 136 20 [some (.ref 3), some (.int l1), some (.int l2), some (.int l3)] [] m Q
      refine ez_blk 4 rfl ?_
      show ez xs 136 26 [some (.ref 3), some (.int l1), some (.int l2), some (.int l3)] [.int l3, .ref 4, .int l2] m Q
      refine ez_rldv rfl (by decide) rfl rfl (b1 h1 h2) (z_ndr (vp_lt (b1 h1 h2))) ?_
      show ez xs 136 27 [some (.ref 3), some (.int l1), some (.int l2), some (.int l3)] [.ref (5 + l3.toNatClampNeg), .int l2] m Q
      refine ez_calls (i := 5 + l3.toNatClampNeg) (as2 := []) (rest := [.int l2]) rfl (by decide) rfl rfl rfl (z_ndi (vp_lt (b1 h1 h2))) (z_nds (vp_lt (b1 h1 h2))) rfl ?_
      refine d_Node_successorSet (i_r := (z_ndi (vp_lt (b1 h1 h2)))) (s_r := (z_nds (vp_lt (b1 h1 h2)))) ?_
      show ez xs 136 30 [some (.ref 3), some (.int l1), some (.int l2), some (.int l3)] [.int (f_Node_successorSet m (5 + l3.toNatClampNeg)), .int l2] m Q
      refine ez_blk 4 rfl ?_
      show ez xs 136 4 [some (.ref 3), some (.int l1), some (.int (l2 ||| (f_Node_successorSet m (5 + l3.toNatClampNeg)))), some (.int (l3 + 1))] [] m Q
      exact g3 h1 h2
set_option maxRecDepth 100000 in
set_option maxHeartbeats 2000000 in
theorem c_Pattern_likeIn {xs : jx_Xs} {m : zM} {Q : Option Value → zM → Prop} {b : Int32} {r : Nat} (i_r : r < 172) (s_r : z_H r = (0, 8, 4))
    (g1 : ez xs 117 25 [some (.ref r), some (.ref 3), some (.int b), some (.int (f_Pattern_bound m (m r 2) b)), some (.int (f_Pattern_bound m (m r 3) b)), some (.int 0), some (.int 0), none, none] [] m Q) : ez xs 117 0 (jx_ent 117 [.ref r, .ref 3, .int b]) [] m Q := by
  refine ez_blk 1 rfl ?_
  show ez xs 117 1 [some (.ref r), some (.ref 3), some (.int b), none, none, none, none, none, none] [.ref r] m Q
  refine ez_get rfl i_r s_r (by decide) rfl ?_
  show ez xs 117 4 [some (.ref r), some (.ref 3), some (.int b), none, none, none, none, none, none] [.int (m r 2)] m Q
  refine ez_blk 1 rfl ?_
  show ez xs 117 5 [some (.ref r), some (.ref 3), some (.int b), none, none, none, none, none, none] [.int b, .int (m r 2)] m Q
  refine ez_call (as := [.int (m r 2), .int b]) (rest := []) rfl (by decide) rfl ?_
  refine d_Pattern_bound ?_
  show ez xs 117 8 [some (.ref r), some (.ref 3), some (.int b), none, none, none, none, none, none] [.int (f_Pattern_bound m (m r 2) b)] m Q
  refine ez_blk 2 rfl ?_
  show ez xs 117 10 [some (.ref r), some (.ref 3), some (.int b), some (.int (f_Pattern_bound m (m r 2) b)), none, none, none, none, none] [.ref r] m Q
  refine ez_get rfl i_r s_r (by decide) rfl ?_
  show ez xs 117 13 [some (.ref r), some (.ref 3), some (.int b), some (.int (f_Pattern_bound m (m r 2) b)), none, none, none, none, none] [.int (m r 3)] m Q
  refine ez_blk 1 rfl ?_
  show ez xs 117 14 [some (.ref r), some (.ref 3), some (.int b), some (.int (f_Pattern_bound m (m r 2) b)), none, none, none, none, none] [.int b, .int (m r 3)] m Q
  refine ez_call (as := [.int (m r 3), .int b]) (rest := []) rfl (by decide) rfl ?_
  refine d_Pattern_bound ?_
  show ez xs 117 17 [some (.ref r), some (.ref 3), some (.int b), some (.int (f_Pattern_bound m (m r 2) b)), none, none, none, none, none] [.int (f_Pattern_bound m (m r 3) b)] m Q
  refine ez_blk 5 rfl ?_
  show ez xs 117 25 [some (.ref r), some (.ref 3), some (.int b), some (.int (f_Pattern_bound m (m r 2) b)), some (.int (f_Pattern_bound m (m r 3) b)), some (.int 0), some (.int 0), none, none] [] m Q
  exact g1
set_option maxRecDepth 100000 in
set_option maxHeartbeats 2000000 in
theorem c_Pattern_likeIn_25 {xs : jx_Xs} {m : zM} {Q : Option Value → zM → Prop} {l2 l3 l4 l5 l6 : Int32} {r : Nat} {o7 o8 : Option Value} (i_r : r < 172) (s_r : z_H r = (0, 8, 4))
    (b1 : (¬ m 3 1 ≤ l6) → (l6 < 0) → vp_in 0 24)
    (b2 : (¬ m 3 1 ≤ l6) → (¬ l6 < 0) → (m 3 1 ≤ l6) → vp_in 0 24)
    (b3 : (¬ m 3 1 ≤ l6) → (¬ l6 < 0) → (¬ m 3 1 ≤ l6) → vp_in l6 24)
    (g1 : (m 3 1 ≤ l6) → Q (some (.int l5)) m)
    (g2 : (¬ m 3 1 ≤ l6) → (l6 < 0) → (¬ m (5 + (0 : Int32).toNatClampNeg) 0 = m r 0) → ez xs 117 25 [some (.ref r), some (.ref 3), some (.int l2), some (.int l3), some (.int l4), some (.int l5), some (.int (l6 + 1)), some (.ref (5 + (0 : Int32).toNatClampNeg)), some (.int 0)] [] m Q)
    (g3 : (¬ m 3 1 ≤ l6) → (l6 < 0) → (m (5 + (0 : Int32).toNatClampNeg) 0 = m r 0) → (¬ m (5 + (0 : Int32).toNatClampNeg) 1 = m r 1) → ez xs 117 25 [some (.ref r), some (.ref 3), some (.int l2), some (.int l3), some (.int l4), some (.int l5), some (.int (l6 + 1)), some (.ref (5 + (0 : Int32).toNatClampNeg)), some (.int 0)] [] m Q)
    (g4 : (¬ m 3 1 ≤ l6) → (l6 < 0) → (m (5 + (0 : Int32).toNatClampNeg) 0 = m r 0) → (m (5 + (0 : Int32).toNatClampNeg) 1 = m r 1) → (¬ m (5 + (0 : Int32).toNatClampNeg) 2 = l3) → ez xs 117 25 [some (.ref r), some (.ref 3), some (.int l2), some (.int l3), some (.int l4), some (.int l5), some (.int (l6 + 1)), some (.ref (5 + (0 : Int32).toNatClampNeg)), some (.int 1)] [] m Q)
    (g5 : (¬ m 3 1 ≤ l6) → (l6 < 0) → (m (5 + (0 : Int32).toNatClampNeg) 0 = m r 0) → (m (5 + (0 : Int32).toNatClampNeg) 1 = m r 1) → (m (5 + (0 : Int32).toNatClampNeg) 2 = l3) → (¬ m (5 + (0 : Int32).toNatClampNeg) 3 = l4) → ez xs 117 25 [some (.ref r), some (.ref 3), some (.int l2), some (.int l3), some (.int l4), some (.int l5), some (.int (l6 + 1)), some (.ref (5 + (0 : Int32).toNatClampNeg)), some (.int 1)] [] m Q)
    (g6 : (¬ m 3 1 ≤ l6) → (l6 < 0) → (m (5 + (0 : Int32).toNatClampNeg) 0 = m r 0) → (m (5 + (0 : Int32).toNatClampNeg) 1 = m r 1) → (m (5 + (0 : Int32).toNatClampNeg) 2 = l3) → (m (5 + (0 : Int32).toNatClampNeg) 3 = l4) → ez xs 117 25 [some (.ref r), some (.ref 3), some (.int l2), some (.int l3), some (.int l4), some (.int (l5 ||| ((1 : Int32) <<< (l6 &&& 31)))), some (.int (l6 + 1)), some (.ref (5 + (0 : Int32).toNatClampNeg)), some (.int 1)] [] m Q)
    (g7 : (¬ m 3 1 ≤ l6) → (¬ l6 < 0) → (m 3 1 ≤ l6) → (¬ m (5 + (0 : Int32).toNatClampNeg) 0 = m r 0) → ez xs 117 25 [some (.ref r), some (.ref 3), some (.int l2), some (.int l3), some (.int l4), some (.int l5), some (.int (l6 + 1)), some (.ref (5 + (0 : Int32).toNatClampNeg)), some (.int 0)] [] m Q)
    (g8 : (¬ m 3 1 ≤ l6) → (¬ l6 < 0) → (m 3 1 ≤ l6) → (m (5 + (0 : Int32).toNatClampNeg) 0 = m r 0) → (¬ m (5 + (0 : Int32).toNatClampNeg) 1 = m r 1) → ez xs 117 25 [some (.ref r), some (.ref 3), some (.int l2), some (.int l3), some (.int l4), some (.int l5), some (.int (l6 + 1)), some (.ref (5 + (0 : Int32).toNatClampNeg)), some (.int 0)] [] m Q)
    (g9 : (¬ m 3 1 ≤ l6) → (¬ l6 < 0) → (m 3 1 ≤ l6) → (m (5 + (0 : Int32).toNatClampNeg) 0 = m r 0) → (m (5 + (0 : Int32).toNatClampNeg) 1 = m r 1) → (¬ m (5 + (0 : Int32).toNatClampNeg) 2 = l3) → ez xs 117 25 [some (.ref r), some (.ref 3), some (.int l2), some (.int l3), some (.int l4), some (.int l5), some (.int (l6 + 1)), some (.ref (5 + (0 : Int32).toNatClampNeg)), some (.int 1)] [] m Q)
    (g10 : (¬ m 3 1 ≤ l6) → (¬ l6 < 0) → (m 3 1 ≤ l6) → (m (5 + (0 : Int32).toNatClampNeg) 0 = m r 0) → (m (5 + (0 : Int32).toNatClampNeg) 1 = m r 1) → (m (5 + (0 : Int32).toNatClampNeg) 2 = l3) → (¬ m (5 + (0 : Int32).toNatClampNeg) 3 = l4) → ez xs 117 25 [some (.ref r), some (.ref 3), some (.int l2), some (.int l3), some (.int l4), some (.int l5), some (.int (l6 + 1)), some (.ref (5 + (0 : Int32).toNatClampNeg)), some (.int 1)] [] m Q)
    (g11 : (¬ m 3 1 ≤ l6) → (¬ l6 < 0) → (m 3 1 ≤ l6) → (m (5 + (0 : Int32).toNatClampNeg) 0 = m r 0) → (m (5 + (0 : Int32).toNatClampNeg) 1 = m r 1) → (m (5 + (0 : Int32).toNatClampNeg) 2 = l3) → (m (5 + (0 : Int32).toNatClampNeg) 3 = l4) → ez xs 117 25 [some (.ref r), some (.ref 3), some (.int l2), some (.int l3), some (.int l4), some (.int (l5 ||| ((1 : Int32) <<< (l6 &&& 31)))), some (.int (l6 + 1)), some (.ref (5 + (0 : Int32).toNatClampNeg)), some (.int 1)] [] m Q)
    (g12 : (¬ m 3 1 ≤ l6) → (¬ l6 < 0) → (¬ m 3 1 ≤ l6) → (¬ m (5 + l6.toNatClampNeg) 0 = m r 0) → ez xs 117 25 [some (.ref r), some (.ref 3), some (.int l2), some (.int l3), some (.int l4), some (.int l5), some (.int (l6 + 1)), some (.ref (5 + l6.toNatClampNeg)), some (.int 0)] [] m Q)
    (g13 : (¬ m 3 1 ≤ l6) → (¬ l6 < 0) → (¬ m 3 1 ≤ l6) → (m (5 + l6.toNatClampNeg) 0 = m r 0) → (¬ m (5 + l6.toNatClampNeg) 1 = m r 1) → ez xs 117 25 [some (.ref r), some (.ref 3), some (.int l2), some (.int l3), some (.int l4), some (.int l5), some (.int (l6 + 1)), some (.ref (5 + l6.toNatClampNeg)), some (.int 0)] [] m Q)
    (g14 : (¬ m 3 1 ≤ l6) → (¬ l6 < 0) → (¬ m 3 1 ≤ l6) → (m (5 + l6.toNatClampNeg) 0 = m r 0) → (m (5 + l6.toNatClampNeg) 1 = m r 1) → (¬ m (5 + l6.toNatClampNeg) 2 = l3) → ez xs 117 25 [some (.ref r), some (.ref 3), some (.int l2), some (.int l3), some (.int l4), some (.int l5), some (.int (l6 + 1)), some (.ref (5 + l6.toNatClampNeg)), some (.int 1)] [] m Q)
    (g15 : (¬ m 3 1 ≤ l6) → (¬ l6 < 0) → (¬ m 3 1 ≤ l6) → (m (5 + l6.toNatClampNeg) 0 = m r 0) → (m (5 + l6.toNatClampNeg) 1 = m r 1) → (m (5 + l6.toNatClampNeg) 2 = l3) → (¬ m (5 + l6.toNatClampNeg) 3 = l4) → ez xs 117 25 [some (.ref r), some (.ref 3), some (.int l2), some (.int l3), some (.int l4), some (.int l5), some (.int (l6 + 1)), some (.ref (5 + l6.toNatClampNeg)), some (.int 1)] [] m Q)
    (g16 : (¬ m 3 1 ≤ l6) → (¬ l6 < 0) → (¬ m 3 1 ≤ l6) → (m (5 + l6.toNatClampNeg) 0 = m r 0) → (m (5 + l6.toNatClampNeg) 1 = m r 1) → (m (5 + l6.toNatClampNeg) 2 = l3) → (m (5 + l6.toNatClampNeg) 3 = l4) → ez xs 117 25 [some (.ref r), some (.ref 3), some (.int l2), some (.int l3), some (.int l4), some (.int (l5 ||| ((1 : Int32) <<< (l6 &&& 31)))), some (.int (l6 + 1)), some (.ref (5 + l6.toNatClampNeg)), some (.int 1)] [] m Q) : ez xs 117 25 [some (.ref r), some (.ref 3), some (.int l2), some (.int l3), some (.int l4), some (.int l5), some (.int l6), o7, o8] [] m Q := by
  refine ez_blk 2 rfl ?_
  show ez xs 117 28 [some (.ref r), some (.ref 3), some (.int l2), some (.int l3), some (.int l4), some (.int l5), some (.int l6), o7, o8] [.ref 3, .int l6] m Q
  refine ez_call (as := [.ref 3]) (rest := [.int l6]) rfl (by decide) rfl ?_
  refine c_Program_size ?_
  show ez xs 117 31 [some (.ref r), some (.ref 3), some (.int l2), some (.int l3), some (.int l4), some (.int l5), some (.int l6), o7, o8] [.int (m 3 1), .int l6] m Q
  refine ez_icmp_ge rfl (fun h1 => ?_) (fun h1 => ?_)
  · show ez xs 117 112 [some (.ref r), some (.ref 3), some (.int l2), some (.int l3), some (.int l4), some (.int l5), some (.int l6), o7, o8] [] m Q
    refine ez_blk 1 rfl ?_
    show ez xs 117 114 [some (.ref r), some (.ref 3), some (.int l2), some (.int l3), some (.int l4), some (.int l5), some (.int l6), o7, o8] [.int l5] m Q
    exact ez_ret rfl (by decide) rfl (g1 h1)
  · show ez xs 117 34 [some (.ref r), some (.ref 3), some (.int l2), some (.int l3), some (.int l4), some (.int l5), some (.int l6), o7, o8] [] m Q
    refine ez_blk 2 rfl ?_
    show ez xs 117 37 [some (.ref r), some (.ref 3), some (.int l2), some (.int l3), some (.int l4), some (.int l5), some (.int l6), o7, o8] [.int l6, .ref 3] m Q
    refine ez_call (as := [.ref 3, .int l6]) (rest := []) rfl (by decide) rfl ?_
    refine c_Program_node (fun h2 => b1 h1 h2) (fun h3 h4 => b2 h1 h3 h4) (fun h5 h6 => b3 h1 h5 h6) (fun h7 => ?_) (fun h8 h9 => ?_) (fun h10 h11 => ?_)
    · show ez xs 117 40 [some (.ref r), some (.ref 3), some (.int l2), some (.int l3), some (.int l4), some (.int l5), some (.int l6), o7, o8] [.ref (5 + (0 : Int32).toNatClampNeg)] m Q
      refine ez_blk 2 rfl ?_
      show ez xs 117 44 [some (.ref r), some (.ref 3), some (.int l2), some (.int l3), some (.int l4), some (.int l5), some (.int l6), some (.ref (5 + (0 : Int32).toNatClampNeg)), o8] [.ref (5 + (0 : Int32).toNatClampNeg)] m Q
      refine ez_getN rfl (z_ndi (vp_lt (b1 h1 h7))) (z_nds (vp_lt (b1 h1 h7))) (by decide) rfl ?_
      show ez xs 117 47 [some (.ref r), some (.ref 3), some (.int l2), some (.int l3), some (.int l4), some (.int l5), some (.int l6), some (.ref (5 + (0 : Int32).toNatClampNeg)), o8] [.int (m (5 + (0 : Int32).toNatClampNeg) 0)] m Q
      refine ez_blk 1 rfl ?_
      show ez xs 117 48 [some (.ref r), some (.ref 3), some (.int l2), some (.int l3), some (.int l4), some (.int l5), some (.int l6), some (.ref (5 + (0 : Int32).toNatClampNeg)), o8] [.ref r, .int (m (5 + (0 : Int32).toNatClampNeg) 0)] m Q
      refine ez_get rfl i_r s_r (by decide) rfl ?_
      show ez xs 117 51 [some (.ref r), some (.ref 3), some (.int l2), some (.int l3), some (.int l4), some (.int l5), some (.int l6), some (.ref (5 + (0 : Int32).toNatClampNeg)), o8] [.int (m r 0), .int (m (5 + (0 : Int32).toNatClampNeg) 0)] m Q
      refine ez_icmp_ne rfl (fun h12 => ?_) (fun h12 => ?_)
      · show ez xs 117 70 [some (.ref r), some (.ref 3), some (.int l2), some (.int l3), some (.int l4), some (.int l5), some (.int l6), some (.ref (5 + (0 : Int32).toNatClampNeg)), o8] [] m Q
        refine ez_blk 3 rfl ?_
        show ez xs 117 75 [some (.ref r), some (.ref 3), some (.int l2), some (.int l3), some (.int l4), some (.int l5), some (.int l6), some (.ref (5 + (0 : Int32).toNatClampNeg)), some (.int 0)] [.int 0] m Q
        refine ez_if_eq rfl (fun _ => ?_) (fun h => False.elim (by revert h; decide))
        show ez xs 117 106 [some (.ref r), some (.ref 3), some (.int l2), some (.int l3), some (.int l4), some (.int l5), some (.int l6), some (.ref (5 + (0 : Int32).toNatClampNeg)), some (.int 0)] [] m Q
        refine ez_blk 2 rfl ?_
        show ez xs 117 25 [some (.ref r), some (.ref 3), some (.int l2), some (.int l3), some (.int l4), some (.int l5), some (.int (l6 + 1)), some (.ref (5 + (0 : Int32).toNatClampNeg)), some (.int 0)] [] m Q
        exact g2 h1 h7 h12
      · show ez xs 117 54 [some (.ref r), some (.ref 3), some (.int l2), some (.int l3), some (.int l4), some (.int l5), some (.int l6), some (.ref (5 + (0 : Int32).toNatClampNeg)), o8] [] m Q
        refine ez_blk 1 rfl ?_
        show ez xs 117 56 [some (.ref r), some (.ref 3), some (.int l2), some (.int l3), some (.int l4), some (.int l5), some (.int l6), some (.ref (5 + (0 : Int32).toNatClampNeg)), o8] [.ref (5 + (0 : Int32).toNatClampNeg)] m Q
        refine ez_getN rfl (z_ndi (vp_lt (b1 h1 h7))) (z_nds (vp_lt (b1 h1 h7))) (by decide) rfl ?_
        show ez xs 117 59 [some (.ref r), some (.ref 3), some (.int l2), some (.int l3), some (.int l4), some (.int l5), some (.int l6), some (.ref (5 + (0 : Int32).toNatClampNeg)), o8] [.int (m (5 + (0 : Int32).toNatClampNeg) 1)] m Q
        refine ez_blk 1 rfl ?_
        show ez xs 117 60 [some (.ref r), some (.ref 3), some (.int l2), some (.int l3), some (.int l4), some (.int l5), some (.int l6), some (.ref (5 + (0 : Int32).toNatClampNeg)), o8] [.ref r, .int (m (5 + (0 : Int32).toNatClampNeg) 1)] m Q
        refine ez_get rfl i_r s_r (by decide) rfl ?_
        show ez xs 117 63 [some (.ref r), some (.ref 3), some (.int l2), some (.int l3), some (.int l4), some (.int l5), some (.int l6), some (.ref (5 + (0 : Int32).toNatClampNeg)), o8] [.int (m r 1), .int (m (5 + (0 : Int32).toNatClampNeg) 1)] m Q
        refine ez_icmp_ne rfl (fun h13 => ?_) (fun h13 => ?_)
        · show ez xs 117 70 [some (.ref r), some (.ref 3), some (.int l2), some (.int l3), some (.int l4), some (.int l5), some (.int l6), some (.ref (5 + (0 : Int32).toNatClampNeg)), o8] [] m Q
          refine ez_blk 3 rfl ?_
          show ez xs 117 75 [some (.ref r), some (.ref 3), some (.int l2), some (.int l3), some (.int l4), some (.int l5), some (.int l6), some (.ref (5 + (0 : Int32).toNatClampNeg)), some (.int 0)] [.int 0] m Q
          refine ez_if_eq rfl (fun _ => ?_) (fun h => False.elim (by revert h; decide))
          show ez xs 117 106 [some (.ref r), some (.ref 3), some (.int l2), some (.int l3), some (.int l4), some (.int l5), some (.int l6), some (.ref (5 + (0 : Int32).toNatClampNeg)), some (.int 0)] [] m Q
          refine ez_blk 2 rfl ?_
          show ez xs 117 25 [some (.ref r), some (.ref 3), some (.int l2), some (.int l3), some (.int l4), some (.int l5), some (.int (l6 + 1)), some (.ref (5 + (0 : Int32).toNatClampNeg)), some (.int 0)] [] m Q
          exact g3 h1 h7 h12 h13
        · show ez xs 117 66 [some (.ref r), some (.ref 3), some (.int l2), some (.int l3), some (.int l4), some (.int l5), some (.int l6), some (.ref (5 + (0 : Int32).toNatClampNeg)), o8] [] m Q
          refine ez_blk 4 rfl ?_
          show ez xs 117 75 [some (.ref r), some (.ref 3), some (.int l2), some (.int l3), some (.int l4), some (.int l5), some (.int l6), some (.ref (5 + (0 : Int32).toNatClampNeg)), some (.int 1)] [.int 1] m Q
          refine ez_if_eq rfl (fun h => False.elim (by revert h; decide)) (fun _ => ?_)
          show ez xs 117 78 [some (.ref r), some (.ref 3), some (.int l2), some (.int l3), some (.int l4), some (.int l5), some (.int l6), some (.ref (5 + (0 : Int32).toNatClampNeg)), some (.int 1)] [] m Q
          refine ez_blk 1 rfl ?_
          show ez xs 117 80 [some (.ref r), some (.ref 3), some (.int l2), some (.int l3), some (.int l4), some (.int l5), some (.int l6), some (.ref (5 + (0 : Int32).toNatClampNeg)), some (.int 1)] [.ref (5 + (0 : Int32).toNatClampNeg)] m Q
          refine ez_getN rfl (z_ndi (vp_lt (b1 h1 h7))) (z_nds (vp_lt (b1 h1 h7))) (by decide) rfl ?_
          show ez xs 117 83 [some (.ref r), some (.ref 3), some (.int l2), some (.int l3), some (.int l4), some (.int l5), some (.int l6), some (.ref (5 + (0 : Int32).toNatClampNeg)), some (.int 1)] [.int (m (5 + (0 : Int32).toNatClampNeg) 2)] m Q
          refine ez_blk 1 rfl ?_
          show ez xs 117 84 [some (.ref r), some (.ref 3), some (.int l2), some (.int l3), some (.int l4), some (.int l5), some (.int l6), some (.ref (5 + (0 : Int32).toNatClampNeg)), some (.int 1)] [.int l3, .int (m (5 + (0 : Int32).toNatClampNeg) 2)] m Q
          refine ez_icmp_ne rfl (fun h14 => ?_) (fun h14 => ?_)
          · show ez xs 117 106 [some (.ref r), some (.ref 3), some (.int l2), some (.int l3), some (.int l4), some (.int l5), some (.int l6), some (.ref (5 + (0 : Int32).toNatClampNeg)), some (.int 1)] [] m Q
            refine ez_blk 2 rfl ?_
            show ez xs 117 25 [some (.ref r), some (.ref 3), some (.int l2), some (.int l3), some (.int l4), some (.int l5), some (.int (l6 + 1)), some (.ref (5 + (0 : Int32).toNatClampNeg)), some (.int 1)] [] m Q
            exact g4 h1 h7 h12 h13 h14
          · show ez xs 117 87 [some (.ref r), some (.ref 3), some (.int l2), some (.int l3), some (.int l4), some (.int l5), some (.int l6), some (.ref (5 + (0 : Int32).toNatClampNeg)), some (.int 1)] [] m Q
            refine ez_blk 1 rfl ?_
            show ez xs 117 89 [some (.ref r), some (.ref 3), some (.int l2), some (.int l3), some (.int l4), some (.int l5), some (.int l6), some (.ref (5 + (0 : Int32).toNatClampNeg)), some (.int 1)] [.ref (5 + (0 : Int32).toNatClampNeg)] m Q
            refine ez_getN rfl (z_ndi (vp_lt (b1 h1 h7))) (z_nds (vp_lt (b1 h1 h7))) (by decide) rfl ?_
            show ez xs 117 92 [some (.ref r), some (.ref 3), some (.int l2), some (.int l3), some (.int l4), some (.int l5), some (.int l6), some (.ref (5 + (0 : Int32).toNatClampNeg)), some (.int 1)] [.int (m (5 + (0 : Int32).toNatClampNeg) 3)] m Q
            refine ez_blk 1 rfl ?_
            show ez xs 117 94 [some (.ref r), some (.ref 3), some (.int l2), some (.int l3), some (.int l4), some (.int l5), some (.int l6), some (.ref (5 + (0 : Int32).toNatClampNeg)), some (.int 1)] [.int l4, .int (m (5 + (0 : Int32).toNatClampNeg) 3)] m Q
            refine ez_icmp_ne rfl (fun h15 => ?_) (fun h15 => ?_)
            · show ez xs 117 106 [some (.ref r), some (.ref 3), some (.int l2), some (.int l3), some (.int l4), some (.int l5), some (.int l6), some (.ref (5 + (0 : Int32).toNatClampNeg)), some (.int 1)] [] m Q
              refine ez_blk 2 rfl ?_
              show ez xs 117 25 [some (.ref r), some (.ref 3), some (.int l2), some (.int l3), some (.int l4), some (.int l5), some (.int (l6 + 1)), some (.ref (5 + (0 : Int32).toNatClampNeg)), some (.int 1)] [] m Q
              exact g5 h1 h7 h12 h13 h14 h15
            · show ez xs 117 97 [some (.ref r), some (.ref 3), some (.int l2), some (.int l3), some (.int l4), some (.int l5), some (.int l6), some (.ref (5 + (0 : Int32).toNatClampNeg)), some (.int 1)] [] m Q
              refine ez_blk 8 rfl ?_
              show ez xs 117 25 [some (.ref r), some (.ref 3), some (.int l2), some (.int l3), some (.int l4), some (.int (l5 ||| ((1 : Int32) <<< (l6 &&& 31)))), some (.int (l6 + 1)), some (.ref (5 + (0 : Int32).toNatClampNeg)), some (.int 1)] [] m Q
              exact g6 h1 h7 h12 h13 h14 h15
    · show ez xs 117 40 [some (.ref r), some (.ref 3), some (.int l2), some (.int l3), some (.int l4), some (.int l5), some (.int l6), o7, o8] [.ref (5 + (0 : Int32).toNatClampNeg)] m Q
      refine ez_blk 2 rfl ?_
      show ez xs 117 44 [some (.ref r), some (.ref 3), some (.int l2), some (.int l3), some (.int l4), some (.int l5), some (.int l6), some (.ref (5 + (0 : Int32).toNatClampNeg)), o8] [.ref (5 + (0 : Int32).toNatClampNeg)] m Q
      refine ez_getN rfl (z_ndi (vp_lt (b2 h1 h8 h9))) (z_nds (vp_lt (b2 h1 h8 h9))) (by decide) rfl ?_
      show ez xs 117 47 [some (.ref r), some (.ref 3), some (.int l2), some (.int l3), some (.int l4), some (.int l5), some (.int l6), some (.ref (5 + (0 : Int32).toNatClampNeg)), o8] [.int (m (5 + (0 : Int32).toNatClampNeg) 0)] m Q
      refine ez_blk 1 rfl ?_
      show ez xs 117 48 [some (.ref r), some (.ref 3), some (.int l2), some (.int l3), some (.int l4), some (.int l5), some (.int l6), some (.ref (5 + (0 : Int32).toNatClampNeg)), o8] [.ref r, .int (m (5 + (0 : Int32).toNatClampNeg) 0)] m Q
      refine ez_get rfl i_r s_r (by decide) rfl ?_
      show ez xs 117 51 [some (.ref r), some (.ref 3), some (.int l2), some (.int l3), some (.int l4), some (.int l5), some (.int l6), some (.ref (5 + (0 : Int32).toNatClampNeg)), o8] [.int (m r 0), .int (m (5 + (0 : Int32).toNatClampNeg) 0)] m Q
      refine ez_icmp_ne rfl (fun h16 => ?_) (fun h16 => ?_)
      · show ez xs 117 70 [some (.ref r), some (.ref 3), some (.int l2), some (.int l3), some (.int l4), some (.int l5), some (.int l6), some (.ref (5 + (0 : Int32).toNatClampNeg)), o8] [] m Q
        refine ez_blk 3 rfl ?_
        show ez xs 117 75 [some (.ref r), some (.ref 3), some (.int l2), some (.int l3), some (.int l4), some (.int l5), some (.int l6), some (.ref (5 + (0 : Int32).toNatClampNeg)), some (.int 0)] [.int 0] m Q
        refine ez_if_eq rfl (fun _ => ?_) (fun h => False.elim (by revert h; decide))
        show ez xs 117 106 [some (.ref r), some (.ref 3), some (.int l2), some (.int l3), some (.int l4), some (.int l5), some (.int l6), some (.ref (5 + (0 : Int32).toNatClampNeg)), some (.int 0)] [] m Q
        refine ez_blk 2 rfl ?_
        show ez xs 117 25 [some (.ref r), some (.ref 3), some (.int l2), some (.int l3), some (.int l4), some (.int l5), some (.int (l6 + 1)), some (.ref (5 + (0 : Int32).toNatClampNeg)), some (.int 0)] [] m Q
        exact g7 h1 h8 h9 h16
      · show ez xs 117 54 [some (.ref r), some (.ref 3), some (.int l2), some (.int l3), some (.int l4), some (.int l5), some (.int l6), some (.ref (5 + (0 : Int32).toNatClampNeg)), o8] [] m Q
        refine ez_blk 1 rfl ?_
        show ez xs 117 56 [some (.ref r), some (.ref 3), some (.int l2), some (.int l3), some (.int l4), some (.int l5), some (.int l6), some (.ref (5 + (0 : Int32).toNatClampNeg)), o8] [.ref (5 + (0 : Int32).toNatClampNeg)] m Q
        refine ez_getN rfl (z_ndi (vp_lt (b2 h1 h8 h9))) (z_nds (vp_lt (b2 h1 h8 h9))) (by decide) rfl ?_
        show ez xs 117 59 [some (.ref r), some (.ref 3), some (.int l2), some (.int l3), some (.int l4), some (.int l5), some (.int l6), some (.ref (5 + (0 : Int32).toNatClampNeg)), o8] [.int (m (5 + (0 : Int32).toNatClampNeg) 1)] m Q
        refine ez_blk 1 rfl ?_
        show ez xs 117 60 [some (.ref r), some (.ref 3), some (.int l2), some (.int l3), some (.int l4), some (.int l5), some (.int l6), some (.ref (5 + (0 : Int32).toNatClampNeg)), o8] [.ref r, .int (m (5 + (0 : Int32).toNatClampNeg) 1)] m Q
        refine ez_get rfl i_r s_r (by decide) rfl ?_
        show ez xs 117 63 [some (.ref r), some (.ref 3), some (.int l2), some (.int l3), some (.int l4), some (.int l5), some (.int l6), some (.ref (5 + (0 : Int32).toNatClampNeg)), o8] [.int (m r 1), .int (m (5 + (0 : Int32).toNatClampNeg) 1)] m Q
        refine ez_icmp_ne rfl (fun h17 => ?_) (fun h17 => ?_)
        · show ez xs 117 70 [some (.ref r), some (.ref 3), some (.int l2), some (.int l3), some (.int l4), some (.int l5), some (.int l6), some (.ref (5 + (0 : Int32).toNatClampNeg)), o8] [] m Q
          refine ez_blk 3 rfl ?_
          show ez xs 117 75 [some (.ref r), some (.ref 3), some (.int l2), some (.int l3), some (.int l4), some (.int l5), some (.int l6), some (.ref (5 + (0 : Int32).toNatClampNeg)), some (.int 0)] [.int 0] m Q
          refine ez_if_eq rfl (fun _ => ?_) (fun h => False.elim (by revert h; decide))
          show ez xs 117 106 [some (.ref r), some (.ref 3), some (.int l2), some (.int l3), some (.int l4), some (.int l5), some (.int l6), some (.ref (5 + (0 : Int32).toNatClampNeg)), some (.int 0)] [] m Q
          refine ez_blk 2 rfl ?_
          show ez xs 117 25 [some (.ref r), some (.ref 3), some (.int l2), some (.int l3), some (.int l4), some (.int l5), some (.int (l6 + 1)), some (.ref (5 + (0 : Int32).toNatClampNeg)), some (.int 0)] [] m Q
          exact g8 h1 h8 h9 h16 h17
        · show ez xs 117 66 [some (.ref r), some (.ref 3), some (.int l2), some (.int l3), some (.int l4), some (.int l5), some (.int l6), some (.ref (5 + (0 : Int32).toNatClampNeg)), o8] [] m Q
          refine ez_blk 4 rfl ?_
          show ez xs 117 75 [some (.ref r), some (.ref 3), some (.int l2), some (.int l3), some (.int l4), some (.int l5), some (.int l6), some (.ref (5 + (0 : Int32).toNatClampNeg)), some (.int 1)] [.int 1] m Q
          refine ez_if_eq rfl (fun h => False.elim (by revert h; decide)) (fun _ => ?_)
          show ez xs 117 78 [some (.ref r), some (.ref 3), some (.int l2), some (.int l3), some (.int l4), some (.int l5), some (.int l6), some (.ref (5 + (0 : Int32).toNatClampNeg)), some (.int 1)] [] m Q
          refine ez_blk 1 rfl ?_
          show ez xs 117 80 [some (.ref r), some (.ref 3), some (.int l2), some (.int l3), some (.int l4), some (.int l5), some (.int l6), some (.ref (5 + (0 : Int32).toNatClampNeg)), some (.int 1)] [.ref (5 + (0 : Int32).toNatClampNeg)] m Q
          refine ez_getN rfl (z_ndi (vp_lt (b2 h1 h8 h9))) (z_nds (vp_lt (b2 h1 h8 h9))) (by decide) rfl ?_
          show ez xs 117 83 [some (.ref r), some (.ref 3), some (.int l2), some (.int l3), some (.int l4), some (.int l5), some (.int l6), some (.ref (5 + (0 : Int32).toNatClampNeg)), some (.int 1)] [.int (m (5 + (0 : Int32).toNatClampNeg) 2)] m Q
          refine ez_blk 1 rfl ?_
          show ez xs 117 84 [some (.ref r), some (.ref 3), some (.int l2), some (.int l3), some (.int l4), some (.int l5), some (.int l6), some (.ref (5 + (0 : Int32).toNatClampNeg)), some (.int 1)] [.int l3, .int (m (5 + (0 : Int32).toNatClampNeg) 2)] m Q
          refine ez_icmp_ne rfl (fun h18 => ?_) (fun h18 => ?_)
          · show ez xs 117 106 [some (.ref r), some (.ref 3), some (.int l2), some (.int l3), some (.int l4), some (.int l5), some (.int l6), some (.ref (5 + (0 : Int32).toNatClampNeg)), some (.int 1)] [] m Q
            refine ez_blk 2 rfl ?_
            show ez xs 117 25 [some (.ref r), some (.ref 3), some (.int l2), some (.int l3), some (.int l4), some (.int l5), some (.int (l6 + 1)), some (.ref (5 + (0 : Int32).toNatClampNeg)), some (.int 1)] [] m Q
            exact g9 h1 h8 h9 h16 h17 h18
          · show ez xs 117 87 [some (.ref r), some (.ref 3), some (.int l2), some (.int l3), some (.int l4), some (.int l5), some (.int l6), some (.ref (5 + (0 : Int32).toNatClampNeg)), some (.int 1)] [] m Q
            refine ez_blk 1 rfl ?_
            show ez xs 117 89 [some (.ref r), some (.ref 3), some (.int l2), some (.int l3), some (.int l4), some (.int l5), some (.int l6), some (.ref (5 + (0 : Int32).toNatClampNeg)), some (.int 1)] [.ref (5 + (0 : Int32).toNatClampNeg)] m Q
            refine ez_getN rfl (z_ndi (vp_lt (b2 h1 h8 h9))) (z_nds (vp_lt (b2 h1 h8 h9))) (by decide) rfl ?_
            show ez xs 117 92 [some (.ref r), some (.ref 3), some (.int l2), some (.int l3), some (.int l4), some (.int l5), some (.int l6), some (.ref (5 + (0 : Int32).toNatClampNeg)), some (.int 1)] [.int (m (5 + (0 : Int32).toNatClampNeg) 3)] m Q
            refine ez_blk 1 rfl ?_
            show ez xs 117 94 [some (.ref r), some (.ref 3), some (.int l2), some (.int l3), some (.int l4), some (.int l5), some (.int l6), some (.ref (5 + (0 : Int32).toNatClampNeg)), some (.int 1)] [.int l4, .int (m (5 + (0 : Int32).toNatClampNeg) 3)] m Q
            refine ez_icmp_ne rfl (fun h19 => ?_) (fun h19 => ?_)
            · show ez xs 117 106 [some (.ref r), some (.ref 3), some (.int l2), some (.int l3), some (.int l4), some (.int l5), some (.int l6), some (.ref (5 + (0 : Int32).toNatClampNeg)), some (.int 1)] [] m Q
              refine ez_blk 2 rfl ?_
              show ez xs 117 25 [some (.ref r), some (.ref 3), some (.int l2), some (.int l3), some (.int l4), some (.int l5), some (.int (l6 + 1)), some (.ref (5 + (0 : Int32).toNatClampNeg)), some (.int 1)] [] m Q
              exact g10 h1 h8 h9 h16 h17 h18 h19
            · show ez xs 117 97 [some (.ref r), some (.ref 3), some (.int l2), some (.int l3), some (.int l4), some (.int l5), some (.int l6), some (.ref (5 + (0 : Int32).toNatClampNeg)), some (.int 1)] [] m Q
              refine ez_blk 8 rfl ?_
              show ez xs 117 25 [some (.ref r), some (.ref 3), some (.int l2), some (.int l3), some (.int l4), some (.int (l5 ||| ((1 : Int32) <<< (l6 &&& 31)))), some (.int (l6 + 1)), some (.ref (5 + (0 : Int32).toNatClampNeg)), some (.int 1)] [] m Q
              exact g11 h1 h8 h9 h16 h17 h18 h19
    · show ez xs 117 40 [some (.ref r), some (.ref 3), some (.int l2), some (.int l3), some (.int l4), some (.int l5), some (.int l6), o7, o8] [.ref (5 + l6.toNatClampNeg)] m Q
      refine ez_blk 2 rfl ?_
      show ez xs 117 44 [some (.ref r), some (.ref 3), some (.int l2), some (.int l3), some (.int l4), some (.int l5), some (.int l6), some (.ref (5 + l6.toNatClampNeg)), o8] [.ref (5 + l6.toNatClampNeg)] m Q
      refine ez_getN rfl (z_ndi (vp_lt (b3 h1 h10 h11))) (z_nds (vp_lt (b3 h1 h10 h11))) (by decide) rfl ?_
      show ez xs 117 47 [some (.ref r), some (.ref 3), some (.int l2), some (.int l3), some (.int l4), some (.int l5), some (.int l6), some (.ref (5 + l6.toNatClampNeg)), o8] [.int (m (5 + l6.toNatClampNeg) 0)] m Q
      refine ez_blk 1 rfl ?_
      show ez xs 117 48 [some (.ref r), some (.ref 3), some (.int l2), some (.int l3), some (.int l4), some (.int l5), some (.int l6), some (.ref (5 + l6.toNatClampNeg)), o8] [.ref r, .int (m (5 + l6.toNatClampNeg) 0)] m Q
      refine ez_get rfl i_r s_r (by decide) rfl ?_
      show ez xs 117 51 [some (.ref r), some (.ref 3), some (.int l2), some (.int l3), some (.int l4), some (.int l5), some (.int l6), some (.ref (5 + l6.toNatClampNeg)), o8] [.int (m r 0), .int (m (5 + l6.toNatClampNeg) 0)] m Q
      refine ez_icmp_ne rfl (fun h20 => ?_) (fun h20 => ?_)
      · show ez xs 117 70 [some (.ref r), some (.ref 3), some (.int l2), some (.int l3), some (.int l4), some (.int l5), some (.int l6), some (.ref (5 + l6.toNatClampNeg)), o8] [] m Q
        refine ez_blk 3 rfl ?_
        show ez xs 117 75 [some (.ref r), some (.ref 3), some (.int l2), some (.int l3), some (.int l4), some (.int l5), some (.int l6), some (.ref (5 + l6.toNatClampNeg)), some (.int 0)] [.int 0] m Q
        refine ez_if_eq rfl (fun _ => ?_) (fun h => False.elim (by revert h; decide))
        show ez xs 117 106 [some (.ref r), some (.ref 3), some (.int l2), some (.int l3), some (.int l4), some (.int l5), some (.int l6), some (.ref (5 + l6.toNatClampNeg)), some (.int 0)] [] m Q
        refine ez_blk 2 rfl ?_
        show ez xs 117 25 [some (.ref r), some (.ref 3), some (.int l2), some (.int l3), some (.int l4), some (.int l5), some (.int (l6 + 1)), some (.ref (5 + l6.toNatClampNeg)), some (.int 0)] [] m Q
        exact g12 h1 h10 h11 h20
      · show ez xs 117 54 [some (.ref r), some (.ref 3), some (.int l2), some (.int l3), some (.int l4), some (.int l5), some (.int l6), some (.ref (5 + l6.toNatClampNeg)), o8] [] m Q
        refine ez_blk 1 rfl ?_
        show ez xs 117 56 [some (.ref r), some (.ref 3), some (.int l2), some (.int l3), some (.int l4), some (.int l5), some (.int l6), some (.ref (5 + l6.toNatClampNeg)), o8] [.ref (5 + l6.toNatClampNeg)] m Q
        refine ez_getN rfl (z_ndi (vp_lt (b3 h1 h10 h11))) (z_nds (vp_lt (b3 h1 h10 h11))) (by decide) rfl ?_
        show ez xs 117 59 [some (.ref r), some (.ref 3), some (.int l2), some (.int l3), some (.int l4), some (.int l5), some (.int l6), some (.ref (5 + l6.toNatClampNeg)), o8] [.int (m (5 + l6.toNatClampNeg) 1)] m Q
        refine ez_blk 1 rfl ?_
        show ez xs 117 60 [some (.ref r), some (.ref 3), some (.int l2), some (.int l3), some (.int l4), some (.int l5), some (.int l6), some (.ref (5 + l6.toNatClampNeg)), o8] [.ref r, .int (m (5 + l6.toNatClampNeg) 1)] m Q
        refine ez_get rfl i_r s_r (by decide) rfl ?_
        show ez xs 117 63 [some (.ref r), some (.ref 3), some (.int l2), some (.int l3), some (.int l4), some (.int l5), some (.int l6), some (.ref (5 + l6.toNatClampNeg)), o8] [.int (m r 1), .int (m (5 + l6.toNatClampNeg) 1)] m Q
        refine ez_icmp_ne rfl (fun h21 => ?_) (fun h21 => ?_)
        · show ez xs 117 70 [some (.ref r), some (.ref 3), some (.int l2), some (.int l3), some (.int l4), some (.int l5), some (.int l6), some (.ref (5 + l6.toNatClampNeg)), o8] [] m Q
          refine ez_blk 3 rfl ?_
          show ez xs 117 75 [some (.ref r), some (.ref 3), some (.int l2), some (.int l3), some (.int l4), some (.int l5), some (.int l6), some (.ref (5 + l6.toNatClampNeg)), some (.int 0)] [.int 0] m Q
          refine ez_if_eq rfl (fun _ => ?_) (fun h => False.elim (by revert h; decide))
          show ez xs 117 106 [some (.ref r), some (.ref 3), some (.int l2), some (.int l3), some (.int l4), some (.int l5), some (.int l6), some (.ref (5 + l6.toNatClampNeg)), some (.int 0)] [] m Q
          refine ez_blk 2 rfl ?_
          show ez xs 117 25 [some (.ref r), some (.ref 3), some (.int l2), some (.int l3), some (.int l4), some (.int l5), some (.int (l6 + 1)), some (.ref (5 + l6.toNatClampNeg)), some (.int 0)] [] m Q
          exact g13 h1 h10 h11 h20 h21
        · show ez xs 117 66 [some (.ref r), some (.ref 3), some (.int l2), some (.int l3), some (.int l4), some (.int l5), some (.int l6), some (.ref (5 + l6.toNatClampNeg)), o8] [] m Q
          refine ez_blk 4 rfl ?_
          show ez xs 117 75 [some (.ref r), some (.ref 3), some (.int l2), some (.int l3), some (.int l4), some (.int l5), some (.int l6), some (.ref (5 + l6.toNatClampNeg)), some (.int 1)] [.int 1] m Q
          refine ez_if_eq rfl (fun h => False.elim (by revert h; decide)) (fun _ => ?_)
          show ez xs 117 78 [some (.ref r), some (.ref 3), some (.int l2), some (.int l3), some (.int l4), some (.int l5), some (.int l6), some (.ref (5 + l6.toNatClampNeg)), some (.int 1)] [] m Q
          refine ez_blk 1 rfl ?_
          show ez xs 117 80 [some (.ref r), some (.ref 3), some (.int l2), some (.int l3), some (.int l4), some (.int l5), some (.int l6), some (.ref (5 + l6.toNatClampNeg)), some (.int 1)] [.ref (5 + l6.toNatClampNeg)] m Q
          refine ez_getN rfl (z_ndi (vp_lt (b3 h1 h10 h11))) (z_nds (vp_lt (b3 h1 h10 h11))) (by decide) rfl ?_
          show ez xs 117 83 [some (.ref r), some (.ref 3), some (.int l2), some (.int l3), some (.int l4), some (.int l5), some (.int l6), some (.ref (5 + l6.toNatClampNeg)), some (.int 1)] [.int (m (5 + l6.toNatClampNeg) 2)] m Q
          refine ez_blk 1 rfl ?_
          show ez xs 117 84 [some (.ref r), some (.ref 3), some (.int l2), some (.int l3), some (.int l4), some (.int l5), some (.int l6), some (.ref (5 + l6.toNatClampNeg)), some (.int 1)] [.int l3, .int (m (5 + l6.toNatClampNeg) 2)] m Q
          refine ez_icmp_ne rfl (fun h22 => ?_) (fun h22 => ?_)
          · show ez xs 117 106 [some (.ref r), some (.ref 3), some (.int l2), some (.int l3), some (.int l4), some (.int l5), some (.int l6), some (.ref (5 + l6.toNatClampNeg)), some (.int 1)] [] m Q
            refine ez_blk 2 rfl ?_
            show ez xs 117 25 [some (.ref r), some (.ref 3), some (.int l2), some (.int l3), some (.int l4), some (.int l5), some (.int (l6 + 1)), some (.ref (5 + l6.toNatClampNeg)), some (.int 1)] [] m Q
            exact g14 h1 h10 h11 h20 h21 h22
          · show ez xs 117 87 [some (.ref r), some (.ref 3), some (.int l2), some (.int l3), some (.int l4), some (.int l5), some (.int l6), some (.ref (5 + l6.toNatClampNeg)), some (.int 1)] [] m Q
            refine ez_blk 1 rfl ?_
            show ez xs 117 89 [some (.ref r), some (.ref 3), some (.int l2), some (.int l3), some (.int l4), some (.int l5), some (.int l6), some (.ref (5 + l6.toNatClampNeg)), some (.int 1)] [.ref (5 + l6.toNatClampNeg)] m Q
            refine ez_getN rfl (z_ndi (vp_lt (b3 h1 h10 h11))) (z_nds (vp_lt (b3 h1 h10 h11))) (by decide) rfl ?_
            show ez xs 117 92 [some (.ref r), some (.ref 3), some (.int l2), some (.int l3), some (.int l4), some (.int l5), some (.int l6), some (.ref (5 + l6.toNatClampNeg)), some (.int 1)] [.int (m (5 + l6.toNatClampNeg) 3)] m Q
            refine ez_blk 1 rfl ?_
            show ez xs 117 94 [some (.ref r), some (.ref 3), some (.int l2), some (.int l3), some (.int l4), some (.int l5), some (.int l6), some (.ref (5 + l6.toNatClampNeg)), some (.int 1)] [.int l4, .int (m (5 + l6.toNatClampNeg) 3)] m Q
            refine ez_icmp_ne rfl (fun h23 => ?_) (fun h23 => ?_)
            · show ez xs 117 106 [some (.ref r), some (.ref 3), some (.int l2), some (.int l3), some (.int l4), some (.int l5), some (.int l6), some (.ref (5 + l6.toNatClampNeg)), some (.int 1)] [] m Q
              refine ez_blk 2 rfl ?_
              show ez xs 117 25 [some (.ref r), some (.ref 3), some (.int l2), some (.int l3), some (.int l4), some (.int l5), some (.int (l6 + 1)), some (.ref (5 + l6.toNatClampNeg)), some (.int 1)] [] m Q
              exact g15 h1 h10 h11 h20 h21 h22 h23
            · show ez xs 117 97 [some (.ref r), some (.ref 3), some (.int l2), some (.int l3), some (.int l4), some (.int l5), some (.int l6), some (.ref (5 + l6.toNatClampNeg)), some (.int 1)] [] m Q
              refine ez_blk 8 rfl ?_
              show ez xs 117 25 [some (.ref r), some (.ref 3), some (.int l2), some (.int l3), some (.int l4), some (.int (l5 ||| ((1 : Int32) <<< (l6 &&& 31)))), some (.int (l6 + 1)), some (.ref (5 + l6.toNatClampNeg)), some (.int 1)] [] m Q
              exact g16 h1 h10 h11 h20 h21 h22 h23
set_option maxRecDepth 100000 in
set_option maxHeartbeats 2000000 in
theorem c_Script_allows {xs : jx_Xs} {m : zM} {Q : Option Value → zM → Prop} {b : Int32}
    (g1 : ez xs 115 2 [some (.ref 36), some (.int b), some (.int 0), none] [] m Q) : ez xs 115 0 (jx_ent 115 [.ref 36, .int b]) [] m Q := by
  refine ez_blk 2 rfl ?_
  show ez xs 115 2 [some (.ref 36), some (.int b), some (.int 0), none] [] m Q
  exact g1
set_option maxRecDepth 100000 in
set_option maxHeartbeats 2000000 in
theorem c_Script_allows_2 {xs : jx_Xs} {m : zM} {Q : Option Value → zM → Prop} {l1 l2 : Int32} {o3 : Option Value}
    (g1 : (3 ≤ l2) → Q (some (.int 1)) m)
    (g2 : (¬ 3 ≤ l2) → ((m 36 2) &&& ((1 : Int32) <<< (l2 &&& 31)) = 0) → ((l1 >>> (((2 : Int32) * l2) &&& 31)) &&& 3 = 0) → ez xs 115 2 [some (.ref 36), some (.int l1), some (.int (l2 + 1)), some (.int 0)] [] m Q)
    (g3 : (¬ 3 ≤ l2) → ((m 36 2) &&& ((1 : Int32) <<< (l2 &&& 31)) = 0) → (¬ (l1 >>> (((2 : Int32) * l2) &&& 31)) &&& 3 = 0) → Q (some (.int 0)) m)
    (g4 : (¬ 3 ≤ l2) → (¬ (m 36 2) &&& ((1 : Int32) <<< (l2 &&& 31)) = 0) → ez xs 115 2 [some (.ref 36), some (.int l1), some (.int (l2 + 1)), some (.int 1)] [] m Q) : ez xs 115 2 [some (.ref 36), some (.int l1), some (.int l2), o3] [] m Q := by
  refine ez_blk 2 rfl ?_
  show ez xs 115 4 [some (.ref 36), some (.int l1), some (.int l2), o3] [.int 3, .int l2] m Q
  refine ez_icmp_ge rfl (fun h1 => ?_) (fun h1 => ?_)
  · show ez xs 115 46 [some (.ref 36), some (.int l1), some (.int l2), o3] [] m Q
    refine ez_blk 1 rfl ?_
    show ez xs 115 47 [some (.ref 36), some (.int l1), some (.int l2), o3] [.int 1] m Q
    exact ez_ret rfl (by decide) rfl (g1 h1)
  · show ez xs 115 7 [some (.ref 36), some (.int l1), some (.int l2), o3] [] m Q
    refine ez_blk 6 rfl ?_
    show ez xs 115 15 [some (.ref 36), some (.int l1), some (.int l2), o3] [.int ((m 36 2) &&& ((1 : Int32) <<< (l2 &&& 31)))] m Q
    refine ez_if_eq rfl (fun h2 => ?_) (fun h2 => ?_)
    · show ez xs 115 22 [some (.ref 36), some (.int l1), some (.int l2), o3] [] m Q
      refine ez_blk 3 rfl ?_
      show ez xs 115 25 [some (.ref 36), some (.int l1), some (.int l2), some (.int 0)] [.int 0] m Q
      refine ez_if_ne rfl (fun h => False.elim (by revert h; decide)) (fun _ => ?_)
      show ez xs 115 28 [some (.ref 36), some (.int l1), some (.int l2), some (.int 0)] [] m Q
      refine ez_blk 7 rfl ?_
      show ez xs 115 35 [some (.ref 36), some (.int l1), some (.int l2), some (.int 0)] [.int ((l1 >>> (((2 : Int32) * l2) &&& 31)) &&& 3)] m Q
      refine ez_if_eq rfl (fun h3 => ?_) (fun h3 => ?_)
      · show ez xs 115 40 [some (.ref 36), some (.int l1), some (.int l2), some (.int 0)] [] m Q
        refine ez_blk 2 rfl ?_
        show ez xs 115 2 [some (.ref 36), some (.int l1), some (.int (l2 + 1)), some (.int 0)] [] m Q
        exact g2 h1 h2 h3
      · show ez xs 115 38 [some (.ref 36), some (.int l1), some (.int l2), some (.int 0)] [] m Q
        refine ez_blk 1 rfl ?_
        show ez xs 115 39 [some (.ref 36), some (.int l1), some (.int l2), some (.int 0)] [.int 0] m Q
        exact ez_ret rfl (by decide) rfl (g3 h1 h2 h3)
    · show ez xs 115 18 [some (.ref 36), some (.int l1), some (.int l2), o3] [] m Q
      refine ez_blk 4 rfl ?_
      show ez xs 115 25 [some (.ref 36), some (.int l1), some (.int l2), some (.int 1)] [.int 1] m Q
      refine ez_if_ne rfl (fun _ => ?_) (fun h => False.elim (by revert h; decide))
      show ez xs 115 40 [some (.ref 36), some (.int l1), some (.int l2), some (.int 1)] [] m Q
      refine ez_blk 2 rfl ?_
      show ez xs 115 2 [some (.ref 36), some (.int l1), some (.int (l2 + 1)), some (.int 1)] [] m Q
      exact g4 h1 h2
set_option maxRecDepth 100000 in
set_option maxHeartbeats 2000000 in
theorem c_Script_knowsUnknowns {xs : jx_Xs} {m : zM} {Q : Option Value → zM → Prop} {k x y : Int32}
    (g1 : (¬ (f_Pattern_unknownsIn m k x y) &&& ((m 36 2) ^^^ (-1)) = 0) → Q (some (.int 0)) m)
    (g2 : ((f_Pattern_unknownsIn m k x y) &&& ((m 36 2) ^^^ (-1)) = 0) → Q (some (.int 1)) m) : ez xs 97 0 (jx_ent 97 [.ref 36, .int k, .int x, .int y]) [] m Q := by
  refine ez_blk 3 rfl ?_
  show ez xs 97 3 [some (.ref 36), some (.int k), some (.int x), some (.int y)] [.int y, .int x, .int k] m Q
  refine ez_call (as := [.int k, .int x, .int y]) (rest := []) rfl (by decide) rfl ?_
  refine d_Pattern_unknownsIn ?_
  show ez xs 97 6 [some (.ref 36), some (.int k), some (.int x), some (.int y)] [.int (f_Pattern_unknownsIn m k x y)] m Q
  refine ez_blk 5 rfl ?_
  show ez xs 97 13 [some (.ref 36), some (.int k), some (.int x), some (.int y)] [.int ((f_Pattern_unknownsIn m k x y) &&& ((m 36 2) ^^^ (-1)))] m Q
  refine ez_if_ne rfl (fun h1 => ?_) (fun h1 => ?_)
  · show ez xs 97 20 [some (.ref 36), some (.int k), some (.int x), some (.int y)] [] m Q
    refine ez_blk 1 rfl ?_
    show ez xs 97 21 [some (.ref 36), some (.int k), some (.int x), some (.int y)] [.int 0] m Q
    exact ez_ret rfl (by decide) rfl (g1 h1)
  · show ez xs 97 16 [some (.ref 36), some (.int k), some (.int x), some (.int y)] [] m Q
    refine ez_blk 2 rfl ?_
    show ez xs 97 21 [some (.ref 36), some (.int k), some (.int x), some (.int y)] [.int 1] m Q
    exact ez_ret rfl (by decide) rfl (g2 h1)
def f_Script_knowsUnknowns (m : zM) (k x y : Int32) : Int32 := if (f_Pattern_unknownsIn m k x y) &&& ((m 36 2) ^^^ (-1)) = 0 then 1 else 0
theorem d_Script_knowsUnknowns {xs : jx_Xs} {m : zM} {Q : Option Value → zM → Prop} {k x y : Int32}
    (g : Q (some (.int (f_Script_knowsUnknowns m k x y))) m) : ez xs 97 0 (jx_ent 97 [.ref 36, .int k, .int x, .int y]) [] m Q := by
  refine c_Script_knowsUnknowns (fun e0 => by have q : f_Script_knowsUnknowns m k x y = 0 := (by unfold f_Script_knowsUnknowns; first | rw [if_neg e0] | simp only [if_neg e0] | simp [e0]); rw [q] at g; exact g) (fun e0 => by have q : f_Script_knowsUnknowns m k x y = 1 := (by unfold f_Script_knowsUnknowns; first | rw [if_pos e0] | simp only [if_pos e0] | simp [e0]); rw [q] at g; exact g)
set_option maxRecDepth 100000 in
set_option maxHeartbeats 2000000 in
theorem c_Script_last {xs : jx_Xs} {m : zM} {Q : Option Value → zM → Prop}
    (b1 : (f_Script_holds m ((m 36 1) - 1) = 0) → vp_in 0 6)
    (b2 : (¬ f_Script_holds m ((m 36 1) - 1) = 0) → vp_in ((m 36 1) - 1) 6)
    (g1 : (f_Script_holds m ((m 36 1) - 1) = 0) → Q (some (.ref (38 + 6 * (0 : Int32).toNatClampNeg))) m)
    (g2 : (¬ f_Script_holds m ((m 36 1) - 1) = 0) → Q (some (.ref (38 + 6 * ((m 36 1) - 1).toNatClampNeg))) m) : ez xs 95 0 (jx_ent 95 [.ref 36]) [] m Q := by
  refine ez_blk 5 rfl ?_
  show ez xs 95 7 [some (.ref 36)] [.int ((m 36 1) - 1), .ref 36] m Q
  refine ez_call (as := [.ref 36, .int ((m 36 1) - 1)]) (rest := []) rfl (by decide) rfl ?_
  refine c_Script_itemOf (fun h1 => b1 h1) (fun h2 => b2 h2) (fun h3 => ?_) (fun h4 => ?_)
  · show ez xs 95 10 [some (.ref 36)] [.ref (38 + 6 * (0 : Int32).toNatClampNeg)] m Q
    exact ez_ret rfl (by decide) rfl (g1 h3)
  · show ez xs 95 10 [some (.ref 36)] [.ref (38 + 6 * ((m 36 1) - 1).toNatClampNeg)] m Q
    exact ez_ret rfl (by decide) rfl (g2 h4)
set_option maxRecDepth 100000 in
set_option maxHeartbeats 2000000 in
theorem c_Script_endsInDots {xs : jx_Xs} {m : zM} {Q : Option Value → zM → Prop}
    (b1 : (¬ m 36 1 ≤ 0) → (f_Script_holds m ((m 36 1) - 1) = 0) → vp_in 0 6)
    (b2 : (¬ m 36 1 ≤ 0) → (¬ f_Script_holds m ((m 36 1) - 1) = 0) → vp_in ((m 36 1) - 1) 6)
    (g1 : (m 36 1 ≤ 0) → Q (some (.int 0)) m)
    (g2 : (¬ m 36 1 ≤ 0) → (f_Script_holds m ((m 36 1) - 1) = 0) → (m (38 + 6 * (0 : Int32).toNatClampNeg) 5 = 0) → Q (some (.int 0)) m)
    (g3 : (¬ m 36 1 ≤ 0) → (f_Script_holds m ((m 36 1) - 1) = 0) → (¬ m (38 + 6 * (0 : Int32).toNatClampNeg) 5 = 0) → Q (some (.int 1)) m)
    (g4 : (¬ m 36 1 ≤ 0) → (¬ f_Script_holds m ((m 36 1) - 1) = 0) → (m (38 + 6 * ((m 36 1) - 1).toNatClampNeg) 5 = 0) → Q (some (.int 0)) m)
    (g5 : (¬ m 36 1 ≤ 0) → (¬ f_Script_holds m ((m 36 1) - 1) = 0) → (¬ m (38 + 6 * ((m 36 1) - 1).toNatClampNeg) 5 = 0) → Q (some (.int 1)) m) : ez xs 96 0 (jx_ent 96 [.ref 36]) [] m Q := by
  refine ez_blk 2 rfl ?_
  show ez xs 96 4 [some (.ref 36)] [.int (m 36 1)] m Q
  refine ez_if_le rfl (fun h1 => ?_) (fun h1 => ?_)
  · show ez xs 96 21 [some (.ref 36)] [] m Q
    refine ez_blk 1 rfl ?_
    show ez xs 96 22 [some (.ref 36)] [.int 0] m Q
    exact ez_ret rfl (by decide) rfl (g1 h1)
  · show ez xs 96 7 [some (.ref 36)] [] m Q
    refine ez_blk 1 rfl ?_
    show ez xs 96 8 [some (.ref 36)] [.ref 36] m Q
    refine ez_call (as := [.ref 36]) (rest := []) rfl (by decide) rfl ?_
    refine c_Script_last (fun h2 => b1 h1 h2) (fun h3 => b2 h1 h3) (fun h4 => ?_) (fun h5 => ?_)
    · show ez xs 96 11 [some (.ref 36)] [.ref (38 + 6 * (0 : Int32).toNatClampNeg)] m Q
      refine ez_getN rfl (z_iti (vp_lt (b1 h1 h4))) (z_its (vp_lt (b1 h1 h4))) (by decide) rfl ?_
      show ez xs 96 14 [some (.ref 36)] [.int (m (38 + 6 * (0 : Int32).toNatClampNeg) 5)] m Q
      refine ez_if_eq rfl (fun h6 => ?_) (fun h6 => ?_)
      · show ez xs 96 21 [some (.ref 36)] [] m Q
        refine ez_blk 1 rfl ?_
        show ez xs 96 22 [some (.ref 36)] [.int 0] m Q
        exact ez_ret rfl (by decide) rfl (g2 h1 h4 h6)
      · show ez xs 96 17 [some (.ref 36)] [] m Q
        refine ez_blk 2 rfl ?_
        show ez xs 96 22 [some (.ref 36)] [.int 1] m Q
        exact ez_ret rfl (by decide) rfl (g3 h1 h4 h6)
    · show ez xs 96 11 [some (.ref 36)] [.ref (38 + 6 * ((m 36 1) - 1).toNatClampNeg)] m Q
      refine ez_getN rfl (z_iti (vp_lt (b2 h1 h5))) (z_its (vp_lt (b2 h1 h5))) (by decide) rfl ?_
      show ez xs 96 14 [some (.ref 36)] [.int (m (38 + 6 * ((m 36 1) - 1).toNatClampNeg) 5)] m Q
      refine ez_if_eq rfl (fun h7 => ?_) (fun h7 => ?_)
      · show ez xs 96 21 [some (.ref 36)] [] m Q
        refine ez_blk 1 rfl ?_
        show ez xs 96 22 [some (.ref 36)] [.int 0] m Q
        exact ez_ret rfl (by decide) rfl (g4 h1 h5 h7)
      · show ez xs 96 17 [some (.ref 36)] [] m Q
        refine ez_blk 2 rfl ?_
        show ez xs 96 22 [some (.ref 36)] [.int 1] m Q
        exact ez_ret rfl (by decide) rfl (g5 h1 h5 h7)
def f_Script_endsInDots (m : zM) : Int32 := if m 36 1 ≤ 0 then 0 else if f_Script_holds m ((m 36 1) - 1) = 0 then if m (38 + 6 * (0 : Int32).toNatClampNeg) 5 = 0 then 0 else 1 else if m (38 + 6 * ((m 36 1) - 1).toNatClampNeg) 5 = 0 then 0 else 1
theorem d_Script_endsInDots {xs : jx_Xs} {m : zM} {Q : Option Value → zM → Prop}
    (b1 : (¬ m 36 1 ≤ 0) → (f_Script_holds m ((m 36 1) - 1) = 0) → vp_in 0 6)
    (b2 : (¬ m 36 1 ≤ 0) → (¬ f_Script_holds m ((m 36 1) - 1) = 0) → vp_in ((m 36 1) - 1) 6)
    (g : Q (some (.int (f_Script_endsInDots m))) m) : ez xs 96 0 (jx_ent 96 [.ref 36]) [] m Q := by
  refine c_Script_endsInDots b1 b2 (fun e0 => by have q : f_Script_endsInDots m = 0 := (by unfold f_Script_endsInDots; first | rw [if_pos e0] | simp only [if_pos e0] | simp [e0]); rw [q] at g; exact g) (fun e0 e1 e2 => by have q : f_Script_endsInDots m = 0 := (by unfold f_Script_endsInDots; first | rw [if_neg e0, if_pos e1, if_pos e2] | simp only [if_neg e0, if_pos e1, if_pos e2] | simp [e0, e1, e2]); rw [q] at g; exact g) (fun e0 e1 e2 => by have q : f_Script_endsInDots m = 1 := (by unfold f_Script_endsInDots; first | rw [if_neg e0, if_pos e1, if_neg e2] | simp only [if_neg e0, if_pos e1, if_neg e2] | simp [e0, e1, e2]); rw [q] at g; exact g) (fun e0 e1 e2 => by have q : f_Script_endsInDots m = 0 := (by unfold f_Script_endsInDots; first | rw [if_neg e0, if_neg e1, if_pos e2] | simp only [if_neg e0, if_neg e1, if_pos e2] | simp [e0, e1, e2]); rw [q] at g; exact g) (fun e0 e1 e2 => by have q : f_Script_endsInDots m = 1 := (by unfold f_Script_endsInDots; first | rw [if_neg e0, if_neg e1, if_neg e2] | simp only [if_neg e0, if_neg e1, if_neg e2] | simp [e0, e1, e2]); rw [q] at g; exact g)
set_option maxRecDepth 100000 in
set_option maxHeartbeats 2000000 in
theorem c_Item_begin {xs : jx_Xs} {m : zM} {Q : Option Value → zM → Prop} {w k f x y : Int32} {e : Nat} (k_e : e < 6)
    (b1 : jx_fit .boolean w = true)
    (g1 : Q none (jj_up (jj_up (jj_up (jj_up (jj_up (jj_up (jj_up m (39 + 6 * e) 0 k) (39 + 6 * e) 1 (f_Pattern_describe_u1 m k f x y (39 + 6 * e))) (39 + 6 * e) 2 (f_Pattern_describe_u2 m k f x y (39 + 6 * e))) (39 + 6 * e) 3 (f_Pattern_describe_u3 m k f x y (39 + 6 * e))) (38 + 6 * e) 3 0) (38 + 6 * e) 4 w) (38 + 6 * e) 5 0)) : ez xs 83 0 (jx_ent 83 [.ref (38 + 6 * e), .int w, .int k, .int f, .int x, .int y]) [] m Q := by
  refine ez_blk 1 rfl ?_
  show ez xs 83 1 [some (.ref (38 + 6 * e)), some (.int w), some (.int k), some (.int f), some (.int x), some (.int y)] [.ref (38 + 6 * e)] m Q
  refine ez_getr rfl (z_iti k_e) (z_its k_e) (by decide) rfl (z_itp k_e) ?_
  show ez xs 83 4 [some (.ref (38 + 6 * e)), some (.int w), some (.int k), some (.int f), some (.int x), some (.int y)] [.ref (39 + 6 * e)] m Q
  refine ez_blk 4 rfl ?_
  show ez xs 83 10 [some (.ref (38 + 6 * e)), some (.int w), some (.int k), some (.int f), some (.int x), some (.int y)] [.int y, .int x, .int f, .int k, .ref (39 + 6 * e)] m Q
  refine ez_calls (i := 39 + 6 * e) (as2 := [.int k, .int f, .int x, .int y]) (rest := []) rfl (by decide) rfl rfl rfl (z_pti k_e) (z_pts k_e) rfl ?_
  refine d_Pattern_describe (i_r := (z_pti k_e)) (s_r := (z_pts k_e)) ?_
  show ez xs 83 13 [some (.ref (38 + 6 * e)), some (.int w), some (.int k), some (.int f), some (.int x), some (.int y)] [] (jj_up (jj_up (jj_up (jj_up m (39 + 6 * e) 0 k) (39 + 6 * e) 1 (f_Pattern_describe_u1 m k f x y (39 + 6 * e))) (39 + 6 * e) 2 (f_Pattern_describe_u2 m k f x y (39 + 6 * e))) (39 + 6 * e) 3 (f_Pattern_describe_u3 m k f x y (39 + 6 * e))) Q
  refine ez_blk 2 rfl ?_
  show ez xs 83 15 [some (.ref (38 + 6 * e)), some (.int w), some (.int k), some (.int f), some (.int x), some (.int y)] [.int 0, .ref (38 + 6 * e)] (jj_up (jj_up (jj_up (jj_up m (39 + 6 * e) 0 k) (39 + 6 * e) 1 (f_Pattern_describe_u1 m k f x y (39 + 6 * e))) (39 + 6 * e) 2 (f_Pattern_describe_u2 m k f x y (39 + 6 * e))) (39 + 6 * e) 3 (f_Pattern_describe_u3 m k f x y (39 + 6 * e))) Q
  refine ez_put rfl (z_iti k_e) (z_its k_e) (by decide) rfl rfl ?_
  show ez xs 83 18 [some (.ref (38 + 6 * e)), some (.int w), some (.int k), some (.int f), some (.int x), some (.int y)] [] (jj_up (jj_up (jj_up (jj_up (jj_up m (39 + 6 * e) 0 k) (39 + 6 * e) 1 (f_Pattern_describe_u1 m k f x y (39 + 6 * e))) (39 + 6 * e) 2 (f_Pattern_describe_u2 m k f x y (39 + 6 * e))) (39 + 6 * e) 3 (f_Pattern_describe_u3 m k f x y (39 + 6 * e))) (38 + 6 * e) 3 0) Q
  refine ez_blk 2 rfl ?_
  show ez xs 83 20 [some (.ref (38 + 6 * e)), some (.int w), some (.int k), some (.int f), some (.int x), some (.int y)] [.int w, .ref (38 + 6 * e)] (jj_up (jj_up (jj_up (jj_up (jj_up m (39 + 6 * e) 0 k) (39 + 6 * e) 1 (f_Pattern_describe_u1 m k f x y (39 + 6 * e))) (39 + 6 * e) 2 (f_Pattern_describe_u2 m k f x y (39 + 6 * e))) (39 + 6 * e) 3 (f_Pattern_describe_u3 m k f x y (39 + 6 * e))) (38 + 6 * e) 3 0) Q
  refine ez_put rfl (z_iti k_e) (z_its k_e) (by decide) rfl (b1) ?_
  show ez xs 83 23 [some (.ref (38 + 6 * e)), some (.int w), some (.int k), some (.int f), some (.int x), some (.int y)] [] (jj_up (jj_up (jj_up (jj_up (jj_up (jj_up m (39 + 6 * e) 0 k) (39 + 6 * e) 1 (f_Pattern_describe_u1 m k f x y (39 + 6 * e))) (39 + 6 * e) 2 (f_Pattern_describe_u2 m k f x y (39 + 6 * e))) (39 + 6 * e) 3 (f_Pattern_describe_u3 m k f x y (39 + 6 * e))) (38 + 6 * e) 3 0) (38 + 6 * e) 4 w) Q
  refine ez_blk 2 rfl ?_
  show ez xs 83 25 [some (.ref (38 + 6 * e)), some (.int w), some (.int k), some (.int f), some (.int x), some (.int y)] [.int 0, .ref (38 + 6 * e)] (jj_up (jj_up (jj_up (jj_up (jj_up (jj_up m (39 + 6 * e) 0 k) (39 + 6 * e) 1 (f_Pattern_describe_u1 m k f x y (39 + 6 * e))) (39 + 6 * e) 2 (f_Pattern_describe_u2 m k f x y (39 + 6 * e))) (39 + 6 * e) 3 (f_Pattern_describe_u3 m k f x y (39 + 6 * e))) (38 + 6 * e) 3 0) (38 + 6 * e) 4 w) Q
  refine ez_put rfl (z_iti k_e) (z_its k_e) (by decide) rfl rfl ?_
  show ez xs 83 28 [some (.ref (38 + 6 * e)), some (.int w), some (.int k), some (.int f), some (.int x), some (.int y)] [] (jj_up (jj_up (jj_up (jj_up (jj_up (jj_up (jj_up m (39 + 6 * e) 0 k) (39 + 6 * e) 1 (f_Pattern_describe_u1 m k f x y (39 + 6 * e))) (39 + 6 * e) 2 (f_Pattern_describe_u2 m k f x y (39 + 6 * e))) (39 + 6 * e) 3 (f_Pattern_describe_u3 m k f x y (39 + 6 * e))) (38 + 6 * e) 3 0) (38 + 6 * e) 4 w) (38 + 6 * e) 5 0) Q
  exact ez_ret rfl (by decide) rfl (g1)
set_option maxRecDepth 100000 in
set_option maxHeartbeats 2000000 in
theorem c_Item_follow {xs : jx_Xs} {m : zM} {Q : Option Value → zM → Prop} {k f x y : Int32} {e : Nat} (k_e : e < 6)
    (g1 : Q none (jj_up (jj_up (jj_up (jj_up (jj_up m (40 + 6 * e) 0 k) (40 + 6 * e) 1 (f_Pattern_describe_u1 m k f x y (40 + 6 * e))) (40 + 6 * e) 2 (f_Pattern_describe_u2 m k f x y (40 + 6 * e))) (40 + 6 * e) 3 (f_Pattern_describe_u3 m k f x y (40 + 6 * e))) (38 + 6 * e) 5 1)) : ez xs 98 0 (jx_ent 98 [.ref (38 + 6 * e), .int k, .int f, .int x, .int y]) [] m Q := by
  refine ez_blk 1 rfl ?_
  show ez xs 98 1 [some (.ref (38 + 6 * e)), some (.int k), some (.int f), some (.int x), some (.int y)] [.ref (38 + 6 * e)] m Q
  refine ez_getr rfl (z_iti k_e) (z_its k_e) (by decide) rfl (z_itf k_e) ?_
  show ez xs 98 4 [some (.ref (38 + 6 * e)), some (.int k), some (.int f), some (.int x), some (.int y)] [.ref (40 + 6 * e)] m Q
  refine ez_blk 4 rfl ?_
  show ez xs 98 9 [some (.ref (38 + 6 * e)), some (.int k), some (.int f), some (.int x), some (.int y)] [.int y, .int x, .int f, .int k, .ref (40 + 6 * e)] m Q
  refine ez_calls (i := 40 + 6 * e) (as2 := [.int k, .int f, .int x, .int y]) (rest := []) rfl (by decide) rfl rfl rfl (z_fbi k_e) (z_fbs k_e) rfl ?_
  refine d_Pattern_describe (i_r := (z_fbi k_e)) (s_r := (z_fbs k_e)) ?_
  show ez xs 98 12 [some (.ref (38 + 6 * e)), some (.int k), some (.int f), some (.int x), some (.int y)] [] (jj_up (jj_up (jj_up (jj_up m (40 + 6 * e) 0 k) (40 + 6 * e) 1 (f_Pattern_describe_u1 m k f x y (40 + 6 * e))) (40 + 6 * e) 2 (f_Pattern_describe_u2 m k f x y (40 + 6 * e))) (40 + 6 * e) 3 (f_Pattern_describe_u3 m k f x y (40 + 6 * e))) Q
  refine ez_blk 2 rfl ?_
  show ez xs 98 14 [some (.ref (38 + 6 * e)), some (.int k), some (.int f), some (.int x), some (.int y)] [.int 1, .ref (38 + 6 * e)] (jj_up (jj_up (jj_up (jj_up m (40 + 6 * e) 0 k) (40 + 6 * e) 1 (f_Pattern_describe_u1 m k f x y (40 + 6 * e))) (40 + 6 * e) 2 (f_Pattern_describe_u2 m k f x y (40 + 6 * e))) (40 + 6 * e) 3 (f_Pattern_describe_u3 m k f x y (40 + 6 * e))) Q
  refine ez_put rfl (z_iti k_e) (z_its k_e) (by decide) rfl rfl ?_
  show ez xs 98 17 [some (.ref (38 + 6 * e)), some (.int k), some (.int f), some (.int x), some (.int y)] [] (jj_up (jj_up (jj_up (jj_up (jj_up m (40 + 6 * e) 0 k) (40 + 6 * e) 1 (f_Pattern_describe_u1 m k f x y (40 + 6 * e))) (40 + 6 * e) 2 (f_Pattern_describe_u2 m k f x y (40 + 6 * e))) (40 + 6 * e) 3 (f_Pattern_describe_u3 m k f x y (40 + 6 * e))) (38 + 6 * e) 5 1) Q
  exact ez_ret rfl (by decide) rfl (g1)
set_option maxRecDepth 100000 in
set_option maxHeartbeats 2000000 in
theorem c_Item_takesNew {xs : jx_Xs} {m : zM} {Q : Option Value → zM → Prop} {e : Nat} (k_e : e < 6)
    (g1 : (m (39 + 6 * e) 0 = 3) → Q (some (.int 0)) m)
    (g2 : (¬ m (39 + 6 * e) 0 = 3) → (2 ≤ m (38 + 6 * e) 3) → Q (some (.int 0)) m)
    (g3 : (¬ m (39 + 6 * e) 0 = 3) → (¬ 2 ≤ m (38 + 6 * e) 3) → Q (some (.int 1)) m) : ez xs 105 0 (jx_ent 105 [.ref (38 + 6 * e)]) [] m Q := by
  refine ez_blk 1 rfl ?_
  show ez xs 105 1 [some (.ref (38 + 6 * e))] [.ref (38 + 6 * e)] m Q
  refine ez_getr rfl (z_iti k_e) (z_its k_e) (by decide) rfl (z_itp k_e) ?_
  show ez xs 105 4 [some (.ref (38 + 6 * e))] [.ref (39 + 6 * e)] m Q
  refine ez_getN rfl (z_pti k_e) (z_pts k_e) (by decide) rfl ?_
  show ez xs 105 7 [some (.ref (38 + 6 * e))] [.int (m (39 + 6 * e) 0)] m Q
  refine ez_blk 1 rfl ?_
  show ez xs 105 8 [some (.ref (38 + 6 * e))] [.int 3, .int (m (39 + 6 * e) 0)] m Q
  refine ez_icmp_eq rfl (fun h1 => ?_) (fun h1 => ?_)
  · show ez xs 105 23 [some (.ref (38 + 6 * e))] [] m Q
    refine ez_blk 1 rfl ?_
    show ez xs 105 24 [some (.ref (38 + 6 * e))] [.int 0] m Q
    exact ez_ret rfl (by decide) rfl (g1 h1)
  · show ez xs 105 11 [some (.ref (38 + 6 * e))] [] m Q
    refine ez_blk 1 rfl ?_
    show ez xs 105 12 [some (.ref (38 + 6 * e))] [.ref (38 + 6 * e)] m Q
    refine ez_get rfl (z_iti k_e) (z_its k_e) (by decide) rfl ?_
    show ez xs 105 15 [some (.ref (38 + 6 * e))] [.int (m (38 + 6 * e) 3)] m Q
    refine ez_blk 1 rfl ?_
    show ez xs 105 16 [some (.ref (38 + 6 * e))] [.int 2, .int (m (38 + 6 * e) 3)] m Q
    refine ez_icmp_ge rfl (fun h2 => ?_) (fun h2 => ?_)
    · show ez xs 105 23 [some (.ref (38 + 6 * e))] [] m Q
      refine ez_blk 1 rfl ?_
      show ez xs 105 24 [some (.ref (38 + 6 * e))] [.int 0] m Q
      exact ez_ret rfl (by decide) rfl (g2 h1 h2)
    · show ez xs 105 19 [some (.ref (38 + 6 * e))] [] m Q
      refine ez_blk 2 rfl ?_
      show ez xs 105 24 [some (.ref (38 + 6 * e))] [.int 1] m Q
      exact ez_ret rfl (by decide) rfl (g3 h1 h2)
def f_Item_takesNew (m : zM) (e : Nat) : Int32 := if m (39 + 6 * e) 0 = 3 then 0 else if 2 ≤ m (38 + 6 * e) 3 then 0 else 1
theorem d_Item_takesNew {xs : jx_Xs} {m : zM} {Q : Option Value → zM → Prop} {e : Nat} (k_e : e < 6)
    (g : Q (some (.int (f_Item_takesNew m e))) m) : ez xs 105 0 (jx_ent 105 [.ref (38 + 6 * e)]) [] m Q := by
  refine c_Item_takesNew (k_e := k_e) (fun e0 => by have q : f_Item_takesNew m e = 0 := (by unfold f_Item_takesNew; first | rw [if_pos e0] | simp only [if_pos e0] | simp [e0]); rw [q] at g; exact g) (fun e0 e1 => by have q : f_Item_takesNew m e = 0 := (by unfold f_Item_takesNew; first | rw [if_neg e0, if_pos e1] | simp only [if_neg e0, if_pos e1] | simp [e0, e1]); rw [q] at g; exact g) (fun e0 e1 => by have q : f_Item_takesNew m e = 1 := (by unfold f_Item_takesNew; first | rw [if_neg e0, if_neg e1] | simp only [if_neg e0, if_neg e1] | simp [e0, e1]); rw [q] at g; exact g)
set_option maxRecDepth 100000 in
set_option maxHeartbeats 2000000 in
theorem c_Item_append {xs : jx_Xs} {m : zM} {Q : Option Value → zM → Prop} {k f x y : Int32} {e : Nat} (k_e : e < 6)
    (b1 : (¬ 2 ≤ m (38 + 6 * e) 3) → vp_in (m (38 + 6 * e) 3) 2)
    (g1 : (2 ≤ m (38 + 6 * e) 3) → Q none m)
    (g2 : (¬ 2 ≤ m (38 + 6 * e) 3) → Q none (jj_up (jj_up (jj_up (jj_up (jj_up m (42 + 6 * e + (m (38 + 6 * e) 3).toNatClampNeg) 0 k) (42 + 6 * e + (m (38 + 6 * e) 3).toNatClampNeg) 1 (f_Pattern_describe_u1 m k f x y (42 + 6 * e + (m (38 + 6 * e) 3).toNatClampNeg))) (42 + 6 * e + (m (38 + 6 * e) 3).toNatClampNeg) 2 (f_Pattern_describe_u2 m k f x y (42 + 6 * e + (m (38 + 6 * e) 3).toNatClampNeg))) (42 + 6 * e + (m (38 + 6 * e) 3).toNatClampNeg) 3 (f_Pattern_describe_u3 m k f x y (42 + 6 * e + (m (38 + 6 * e) 3).toNatClampNeg))) (38 + 6 * e) 3 (((jj_up (jj_up (jj_up (jj_up m (42 + 6 * e + (m (38 + 6 * e) 3).toNatClampNeg) 0 k) (42 + 6 * e + (m (38 + 6 * e) 3).toNatClampNeg) 1 (f_Pattern_describe_u1 m k f x y (42 + 6 * e + (m (38 + 6 * e) 3).toNatClampNeg))) (42 + 6 * e + (m (38 + 6 * e) 3).toNatClampNeg) 2 (f_Pattern_describe_u2 m k f x y (42 + 6 * e + (m (38 + 6 * e) 3).toNatClampNeg))) (42 + 6 * e + (m (38 + 6 * e) 3).toNatClampNeg) 3 (f_Pattern_describe_u3 m k f x y (42 + 6 * e + (m (38 + 6 * e) 3).toNatClampNeg))) (38 + 6 * e) 3) + 1))) : ez xs 106 0 (jx_ent 106 [.ref (38 + 6 * e), .int k, .int f, .int x, .int y]) [] m Q := by
  refine ez_blk 1 rfl ?_
  show ez xs 106 1 [some (.ref (38 + 6 * e)), some (.int k), some (.int f), some (.int x), some (.int y)] [.ref (38 + 6 * e)] m Q
  refine ez_get rfl (z_iti k_e) (z_its k_e) (by decide) rfl ?_
  show ez xs 106 4 [some (.ref (38 + 6 * e)), some (.int k), some (.int f), some (.int x), some (.int y)] [.int (m (38 + 6 * e) 3)] m Q
  refine ez_blk 1 rfl ?_
  show ez xs 106 5 [some (.ref (38 + 6 * e)), some (.int k), some (.int f), some (.int x), some (.int y)] [.int 2, .int (m (38 + 6 * e) 3)] m Q
  refine ez_icmp_ge rfl (fun h1 => ?_) (fun h1 => ?_)
  · show ez xs 106 35 [some (.ref (38 + 6 * e)), some (.int k), some (.int f), some (.int x), some (.int y)] [] m Q
    exact ez_ret rfl (by decide) rfl (g1 h1)
  · show ez xs 106 8 [some (.ref (38 + 6 * e)), some (.int k), some (.int f), some (.int x), some (.int y)] [] m Q
    refine ez_blk 1 rfl ?_
    show ez xs 106 9 [some (.ref (38 + 6 * e)), some (.int k), some (.int f), some (.int x), some (.int y)] [.ref (38 + 6 * e)] m Q
    refine ez_getr rfl (z_iti k_e) (z_its k_e) (by decide) rfl (z_ita k_e) ?_
    show ez xs 106 12 [some (.ref (38 + 6 * e)), some (.int k), some (.int f), some (.int x), some (.int y)] [.ref (41 + 6 * e)] m Q
    refine ez_blk 1 rfl ?_
    show ez xs 106 13 [some (.ref (38 + 6 * e)), some (.int k), some (.int f), some (.int x), some (.int y)] [.ref (38 + 6 * e), .ref (41 + 6 * e)] m Q
    refine ez_get rfl (z_iti k_e) (z_its k_e) (by decide) rfl ?_
    show ez xs 106 16 [some (.ref (38 + 6 * e)), some (.int k), some (.int f), some (.int x), some (.int y)] [.int (m (38 + 6 * e) 3), .ref (41 + 6 * e)] m Q
    refine ez_rldv rfl (z_ari k_e) (z_ars k_e) rfl (b1 h1) (z_adr k_e (vp_lt (b1 h1))) ?_
    show ez xs 106 17 [some (.ref (38 + 6 * e)), some (.int k), some (.int f), some (.int x), some (.int y)] [.ref (42 + 6 * e + (m (38 + 6 * e) 3).toNatClampNeg)] m Q
    refine ez_blk 4 rfl ?_
    show ez xs 106 22 [some (.ref (38 + 6 * e)), some (.int k), some (.int f), some (.int x), some (.int y)] [.int y, .int x, .int f, .int k, .ref (42 + 6 * e + (m (38 + 6 * e) 3).toNatClampNeg)] m Q
    refine ez_calls (i := 42 + 6 * e + (m (38 + 6 * e) 3).toNatClampNeg) (as2 := [.int k, .int f, .int x, .int y]) (rest := []) rfl (by decide) rfl rfl rfl (z_adi k_e (vp_lt (b1 h1))) (z_ads k_e (vp_lt (b1 h1))) rfl ?_
    refine d_Pattern_describe (i_r := (z_adi k_e (vp_lt (b1 h1)))) (s_r := (z_ads k_e (vp_lt (b1 h1)))) ?_
    show ez xs 106 25 [some (.ref (38 + 6 * e)), some (.int k), some (.int f), some (.int x), some (.int y)] [] (jj_up (jj_up (jj_up (jj_up m (42 + 6 * e + (m (38 + 6 * e) 3).toNatClampNeg) 0 k) (42 + 6 * e + (m (38 + 6 * e) 3).toNatClampNeg) 1 (f_Pattern_describe_u1 m k f x y (42 + 6 * e + (m (38 + 6 * e) 3).toNatClampNeg))) (42 + 6 * e + (m (38 + 6 * e) 3).toNatClampNeg) 2 (f_Pattern_describe_u2 m k f x y (42 + 6 * e + (m (38 + 6 * e) 3).toNatClampNeg))) (42 + 6 * e + (m (38 + 6 * e) 3).toNatClampNeg) 3 (f_Pattern_describe_u3 m k f x y (42 + 6 * e + (m (38 + 6 * e) 3).toNatClampNeg))) Q
    refine ez_blk 2 rfl ?_
    show ez xs 106 27 [some (.ref (38 + 6 * e)), some (.int k), some (.int f), some (.int x), some (.int y)] [.ref (38 + 6 * e), .ref (38 + 6 * e)] (jj_up (jj_up (jj_up (jj_up m (42 + 6 * e + (m (38 + 6 * e) 3).toNatClampNeg) 0 k) (42 + 6 * e + (m (38 + 6 * e) 3).toNatClampNeg) 1 (f_Pattern_describe_u1 m k f x y (42 + 6 * e + (m (38 + 6 * e) 3).toNatClampNeg))) (42 + 6 * e + (m (38 + 6 * e) 3).toNatClampNeg) 2 (f_Pattern_describe_u2 m k f x y (42 + 6 * e + (m (38 + 6 * e) 3).toNatClampNeg))) (42 + 6 * e + (m (38 + 6 * e) 3).toNatClampNeg) 3 (f_Pattern_describe_u3 m k f x y (42 + 6 * e + (m (38 + 6 * e) 3).toNatClampNeg))) Q
    refine ez_get rfl (z_iti k_e) (z_its k_e) (by decide) rfl ?_
    show ez xs 106 30 [some (.ref (38 + 6 * e)), some (.int k), some (.int f), some (.int x), some (.int y)] [.int ((jj_up (jj_up (jj_up (jj_up m (42 + 6 * e + (m (38 + 6 * e) 3).toNatClampNeg) 0 k) (42 + 6 * e + (m (38 + 6 * e) 3).toNatClampNeg) 1 (f_Pattern_describe_u1 m k f x y (42 + 6 * e + (m (38 + 6 * e) 3).toNatClampNeg))) (42 + 6 * e + (m (38 + 6 * e) 3).toNatClampNeg) 2 (f_Pattern_describe_u2 m k f x y (42 + 6 * e + (m (38 + 6 * e) 3).toNatClampNeg))) (42 + 6 * e + (m (38 + 6 * e) 3).toNatClampNeg) 3 (f_Pattern_describe_u3 m k f x y (42 + 6 * e + (m (38 + 6 * e) 3).toNatClampNeg))) (38 + 6 * e) 3), .ref (38 + 6 * e)] (jj_up (jj_up (jj_up (jj_up m (42 + 6 * e + (m (38 + 6 * e) 3).toNatClampNeg) 0 k) (42 + 6 * e + (m (38 + 6 * e) 3).toNatClampNeg) 1 (f_Pattern_describe_u1 m k f x y (42 + 6 * e + (m (38 + 6 * e) 3).toNatClampNeg))) (42 + 6 * e + (m (38 + 6 * e) 3).toNatClampNeg) 2 (f_Pattern_describe_u2 m k f x y (42 + 6 * e + (m (38 + 6 * e) 3).toNatClampNeg))) (42 + 6 * e + (m (38 + 6 * e) 3).toNatClampNeg) 3 (f_Pattern_describe_u3 m k f x y (42 + 6 * e + (m (38 + 6 * e) 3).toNatClampNeg))) Q
    refine ez_blk 2 rfl ?_
    show ez xs 106 32 [some (.ref (38 + 6 * e)), some (.int k), some (.int f), some (.int x), some (.int y)] [.int (((jj_up (jj_up (jj_up (jj_up m (42 + 6 * e + (m (38 + 6 * e) 3).toNatClampNeg) 0 k) (42 + 6 * e + (m (38 + 6 * e) 3).toNatClampNeg) 1 (f_Pattern_describe_u1 m k f x y (42 + 6 * e + (m (38 + 6 * e) 3).toNatClampNeg))) (42 + 6 * e + (m (38 + 6 * e) 3).toNatClampNeg) 2 (f_Pattern_describe_u2 m k f x y (42 + 6 * e + (m (38 + 6 * e) 3).toNatClampNeg))) (42 + 6 * e + (m (38 + 6 * e) 3).toNatClampNeg) 3 (f_Pattern_describe_u3 m k f x y (42 + 6 * e + (m (38 + 6 * e) 3).toNatClampNeg))) (38 + 6 * e) 3) + 1), .ref (38 + 6 * e)] (jj_up (jj_up (jj_up (jj_up m (42 + 6 * e + (m (38 + 6 * e) 3).toNatClampNeg) 0 k) (42 + 6 * e + (m (38 + 6 * e) 3).toNatClampNeg) 1 (f_Pattern_describe_u1 m k f x y (42 + 6 * e + (m (38 + 6 * e) 3).toNatClampNeg))) (42 + 6 * e + (m (38 + 6 * e) 3).toNatClampNeg) 2 (f_Pattern_describe_u2 m k f x y (42 + 6 * e + (m (38 + 6 * e) 3).toNatClampNeg))) (42 + 6 * e + (m (38 + 6 * e) 3).toNatClampNeg) 3 (f_Pattern_describe_u3 m k f x y (42 + 6 * e + (m (38 + 6 * e) 3).toNatClampNeg))) Q
    refine ez_put rfl (z_iti k_e) (z_its k_e) (by decide) rfl rfl ?_
    show ez xs 106 35 [some (.ref (38 + 6 * e)), some (.int k), some (.int f), some (.int x), some (.int y)] [] (jj_up (jj_up (jj_up (jj_up (jj_up m (42 + 6 * e + (m (38 + 6 * e) 3).toNatClampNeg) 0 k) (42 + 6 * e + (m (38 + 6 * e) 3).toNatClampNeg) 1 (f_Pattern_describe_u1 m k f x y (42 + 6 * e + (m (38 + 6 * e) 3).toNatClampNeg))) (42 + 6 * e + (m (38 + 6 * e) 3).toNatClampNeg) 2 (f_Pattern_describe_u2 m k f x y (42 + 6 * e + (m (38 + 6 * e) 3).toNatClampNeg))) (42 + 6 * e + (m (38 + 6 * e) 3).toNatClampNeg) 3 (f_Pattern_describe_u3 m k f x y (42 + 6 * e + (m (38 + 6 * e) 3).toNatClampNeg))) (38 + 6 * e) 3 (((jj_up (jj_up (jj_up (jj_up m (42 + 6 * e + (m (38 + 6 * e) 3).toNatClampNeg) 0 k) (42 + 6 * e + (m (38 + 6 * e) 3).toNatClampNeg) 1 (f_Pattern_describe_u1 m k f x y (42 + 6 * e + (m (38 + 6 * e) 3).toNatClampNeg))) (42 + 6 * e + (m (38 + 6 * e) 3).toNatClampNeg) 2 (f_Pattern_describe_u2 m k f x y (42 + 6 * e + (m (38 + 6 * e) 3).toNatClampNeg))) (42 + 6 * e + (m (38 + 6 * e) 3).toNatClampNeg) 3 (f_Pattern_describe_u3 m k f x y (42 + 6 * e + (m (38 + 6 * e) 3).toNatClampNeg))) (38 + 6 * e) 3) + 1)) Q
    exact ez_ret rfl (by decide) rfl (g2 h1)
set_option maxRecDepth 100000 in
set_option maxHeartbeats 2000000 in
theorem c_Script_append {xs : jx_Xs} {m : zM} {Q : Option Value → zM → Prop} {w k f x y : Int32}
    (b1 : (m 36 1 < 6) → vp_in (m 36 1) 6)
    (b2 : (m 36 1 < 6) → jx_fit .boolean w = true)
    (b3 : (m 36 1 < 6) → vp_in ((jj_up (jj_up (jj_up (jj_up (jj_up (jj_up (jj_up m (39 + 6 * ((m 36 1).toNatClampNeg)) 0 k) (39 + 6 * ((m 36 1).toNatClampNeg)) 1 (f_Pattern_describe_u1 m k f x y (39 + 6 * ((m 36 1).toNatClampNeg)))) (39 + 6 * ((m 36 1).toNatClampNeg)) 2 (f_Pattern_describe_u2 m k f x y (39 + 6 * ((m 36 1).toNatClampNeg)))) (39 + 6 * ((m 36 1).toNatClampNeg)) 3 (f_Pattern_describe_u3 m k f x y (39 + 6 * ((m 36 1).toNatClampNeg)))) (38 + 6 * ((m 36 1).toNatClampNeg)) 3 0) (38 + 6 * ((m 36 1).toNatClampNeg)) 4 w) (38 + 6 * ((m 36 1).toNatClampNeg)) 5 0) 36 1) 6)
    (g1 : (m 36 1 < 6) → Q (some (.int 1)) (jj_up (jj_up (jj_up (jj_up (jj_up (jj_up (jj_up (jj_up (jj_up m (39 + 6 * ((m 36 1).toNatClampNeg)) 0 k) (39 + 6 * ((m 36 1).toNatClampNeg)) 1 (f_Pattern_describe_u1 m k f x y (39 + 6 * ((m 36 1).toNatClampNeg)))) (39 + 6 * ((m 36 1).toNatClampNeg)) 2 (f_Pattern_describe_u2 m k f x y (39 + 6 * ((m 36 1).toNatClampNeg)))) (39 + 6 * ((m 36 1).toNatClampNeg)) 3 (f_Pattern_describe_u3 m k f x y (39 + 6 * ((m 36 1).toNatClampNeg)))) (38 + 6 * ((m 36 1).toNatClampNeg)) 3 0) (38 + 6 * ((m 36 1).toNatClampNeg)) 4 w) (38 + 6 * ((m 36 1).toNatClampNeg)) 5 0) 36 2 (((jj_up (jj_up (jj_up (jj_up (jj_up (jj_up (jj_up m (39 + 6 * ((m 36 1).toNatClampNeg)) 0 k) (39 + 6 * ((m 36 1).toNatClampNeg)) 1 (f_Pattern_describe_u1 m k f x y (39 + 6 * ((m 36 1).toNatClampNeg)))) (39 + 6 * ((m 36 1).toNatClampNeg)) 2 (f_Pattern_describe_u2 m k f x y (39 + 6 * ((m 36 1).toNatClampNeg)))) (39 + 6 * ((m 36 1).toNatClampNeg)) 3 (f_Pattern_describe_u3 m k f x y (39 + 6 * ((m 36 1).toNatClampNeg)))) (38 + 6 * ((m 36 1).toNatClampNeg)) 3 0) (38 + 6 * ((m 36 1).toNatClampNeg)) 4 w) (38 + 6 * ((m 36 1).toNatClampNeg)) 5 0) 36 2) ||| (f_Pattern_unknownsIn (jj_up (jj_up (jj_up (jj_up (jj_up (jj_up (jj_up m (39 + 6 * ((m 36 1).toNatClampNeg)) 0 k) (39 + 6 * ((m 36 1).toNatClampNeg)) 1 (f_Pattern_describe_u1 m k f x y (39 + 6 * ((m 36 1).toNatClampNeg)))) (39 + 6 * ((m 36 1).toNatClampNeg)) 2 (f_Pattern_describe_u2 m k f x y (39 + 6 * ((m 36 1).toNatClampNeg)))) (39 + 6 * ((m 36 1).toNatClampNeg)) 3 (f_Pattern_describe_u3 m k f x y (39 + 6 * ((m 36 1).toNatClampNeg)))) (38 + 6 * ((m 36 1).toNatClampNeg)) 3 0) (38 + 6 * ((m 36 1).toNatClampNeg)) 4 w) (38 + 6 * ((m 36 1).toNatClampNeg)) 5 0) ((jj_up (jj_up (jj_up (jj_up (jj_up (jj_up (jj_up m (39 + 6 * ((m 36 1).toNatClampNeg)) 0 k) (39 + 6 * ((m 36 1).toNatClampNeg)) 1 (f_Pattern_describe_u1 m k f x y (39 + 6 * ((m 36 1).toNatClampNeg)))) (39 + 6 * ((m 36 1).toNatClampNeg)) 2 (f_Pattern_describe_u2 m k f x y (39 + 6 * ((m 36 1).toNatClampNeg)))) (39 + 6 * ((m 36 1).toNatClampNeg)) 3 (f_Pattern_describe_u3 m k f x y (39 + 6 * ((m 36 1).toNatClampNeg)))) (38 + 6 * ((m 36 1).toNatClampNeg)) 3 0) (38 + 6 * ((m 36 1).toNatClampNeg)) 4 w) (38 + 6 * ((m 36 1).toNatClampNeg)) 5 0) (39 + 6 * ((jj_up (jj_up (jj_up (jj_up (jj_up (jj_up (jj_up m (39 + 6 * ((m 36 1).toNatClampNeg)) 0 k) (39 + 6 * ((m 36 1).toNatClampNeg)) 1 (f_Pattern_describe_u1 m k f x y (39 + 6 * ((m 36 1).toNatClampNeg)))) (39 + 6 * ((m 36 1).toNatClampNeg)) 2 (f_Pattern_describe_u2 m k f x y (39 + 6 * ((m 36 1).toNatClampNeg)))) (39 + 6 * ((m 36 1).toNatClampNeg)) 3 (f_Pattern_describe_u3 m k f x y (39 + 6 * ((m 36 1).toNatClampNeg)))) (38 + 6 * ((m 36 1).toNatClampNeg)) 3 0) (38 + 6 * ((m 36 1).toNatClampNeg)) 4 w) (38 + 6 * ((m 36 1).toNatClampNeg)) 5 0) 36 1).toNatClampNeg) 0) ((jj_up (jj_up (jj_up (jj_up (jj_up (jj_up (jj_up m (39 + 6 * ((m 36 1).toNatClampNeg)) 0 k) (39 + 6 * ((m 36 1).toNatClampNeg)) 1 (f_Pattern_describe_u1 m k f x y (39 + 6 * ((m 36 1).toNatClampNeg)))) (39 + 6 * ((m 36 1).toNatClampNeg)) 2 (f_Pattern_describe_u2 m k f x y (39 + 6 * ((m 36 1).toNatClampNeg)))) (39 + 6 * ((m 36 1).toNatClampNeg)) 3 (f_Pattern_describe_u3 m k f x y (39 + 6 * ((m 36 1).toNatClampNeg)))) (38 + 6 * ((m 36 1).toNatClampNeg)) 3 0) (38 + 6 * ((m 36 1).toNatClampNeg)) 4 w) (38 + 6 * ((m 36 1).toNatClampNeg)) 5 0) (39 + 6 * ((jj_up (jj_up (jj_up (jj_up (jj_up (jj_up (jj_up m (39 + 6 * ((m 36 1).toNatClampNeg)) 0 k) (39 + 6 * ((m 36 1).toNatClampNeg)) 1 (f_Pattern_describe_u1 m k f x y (39 + 6 * ((m 36 1).toNatClampNeg)))) (39 + 6 * ((m 36 1).toNatClampNeg)) 2 (f_Pattern_describe_u2 m k f x y (39 + 6 * ((m 36 1).toNatClampNeg)))) (39 + 6 * ((m 36 1).toNatClampNeg)) 3 (f_Pattern_describe_u3 m k f x y (39 + 6 * ((m 36 1).toNatClampNeg)))) (38 + 6 * ((m 36 1).toNatClampNeg)) 3 0) (38 + 6 * ((m 36 1).toNatClampNeg)) 4 w) (38 + 6 * ((m 36 1).toNatClampNeg)) 5 0) 36 1).toNatClampNeg) 2) ((jj_up (jj_up (jj_up (jj_up (jj_up (jj_up (jj_up m (39 + 6 * ((m 36 1).toNatClampNeg)) 0 k) (39 + 6 * ((m 36 1).toNatClampNeg)) 1 (f_Pattern_describe_u1 m k f x y (39 + 6 * ((m 36 1).toNatClampNeg)))) (39 + 6 * ((m 36 1).toNatClampNeg)) 2 (f_Pattern_describe_u2 m k f x y (39 + 6 * ((m 36 1).toNatClampNeg)))) (39 + 6 * ((m 36 1).toNatClampNeg)) 3 (f_Pattern_describe_u3 m k f x y (39 + 6 * ((m 36 1).toNatClampNeg)))) (38 + 6 * ((m 36 1).toNatClampNeg)) 3 0) (38 + 6 * ((m 36 1).toNatClampNeg)) 4 w) (38 + 6 * ((m 36 1).toNatClampNeg)) 5 0) (39 + 6 * ((jj_up (jj_up (jj_up (jj_up (jj_up (jj_up (jj_up m (39 + 6 * ((m 36 1).toNatClampNeg)) 0 k) (39 + 6 * ((m 36 1).toNatClampNeg)) 1 (f_Pattern_describe_u1 m k f x y (39 + 6 * ((m 36 1).toNatClampNeg)))) (39 + 6 * ((m 36 1).toNatClampNeg)) 2 (f_Pattern_describe_u2 m k f x y (39 + 6 * ((m 36 1).toNatClampNeg)))) (39 + 6 * ((m 36 1).toNatClampNeg)) 3 (f_Pattern_describe_u3 m k f x y (39 + 6 * ((m 36 1).toNatClampNeg)))) (38 + 6 * ((m 36 1).toNatClampNeg)) 3 0) (38 + 6 * ((m 36 1).toNatClampNeg)) 4 w) (38 + 6 * ((m 36 1).toNatClampNeg)) 5 0) 36 1).toNatClampNeg) 3)))) 36 1 (((jj_up (jj_up (jj_up (jj_up (jj_up (jj_up (jj_up m (39 + 6 * ((m 36 1).toNatClampNeg)) 0 k) (39 + 6 * ((m 36 1).toNatClampNeg)) 1 (f_Pattern_describe_u1 m k f x y (39 + 6 * ((m 36 1).toNatClampNeg)))) (39 + 6 * ((m 36 1).toNatClampNeg)) 2 (f_Pattern_describe_u2 m k f x y (39 + 6 * ((m 36 1).toNatClampNeg)))) (39 + 6 * ((m 36 1).toNatClampNeg)) 3 (f_Pattern_describe_u3 m k f x y (39 + 6 * ((m 36 1).toNatClampNeg)))) (38 + 6 * ((m 36 1).toNatClampNeg)) 3 0) (38 + 6 * ((m 36 1).toNatClampNeg)) 4 w) (38 + 6 * ((m 36 1).toNatClampNeg)) 5 0) 36 1) + 1)))
    (g2 : (¬ m 36 1 < 6) → Q (some (.int 0)) m) : ez xs 87 0 (jx_ent 87 [.ref 36, .int w, .int k, .int f, .int x, .int y]) [] m Q := by
  refine ez_blk 3 rfl ?_
  show ez xs 87 6 [some (.ref 36), some (.int w), some (.int k), some (.int f), some (.int x), some (.int y)] [.int 6, .int (m 36 1)] m Q
  refine ez_icmp_lt rfl (fun h1 => ?_) (fun h1 => ?_)
  · show ez xs 87 11 [some (.ref 36), some (.int w), some (.int k), some (.int f), some (.int x), some (.int y)] [] m Q
    refine ez_blk 4 rfl ?_
    show ez xs 87 19 [some (.ref 36), some (.int w), some (.int k), some (.int f), some (.int x), some (.int y)] [.int (m 36 1), .ref 37] m Q
    refine ez_rldv rfl (by decide) rfl rfl (b1 h1) (z_itr (vp_lt (b1 h1))) ?_
    show ez xs 87 20 [some (.ref 36), some (.int w), some (.int k), some (.int f), some (.int x), some (.int y)] [.ref (38 + 6 * (m 36 1).toNatClampNeg)] m Q
    refine ez_blk 5 rfl ?_
    show ez xs 87 27 [some (.ref 36), some (.int w), some (.int k), some (.int f), some (.int x), some (.int y)] [.int y, .int x, .int f, .int k, .int w, .ref (38 + 6 * (m 36 1).toNatClampNeg)] m Q
    refine ez_calls (i := 38 + 6 * (m 36 1).toNatClampNeg) (as2 := [.int w, .int k, .int f, .int x, .int y]) (rest := []) rfl (by decide) rfl rfl rfl (z_iti (vp_lt (b1 h1))) (z_its (vp_lt (b1 h1))) rfl ?_
    refine c_Item_begin (k_e := (vp_lt (b1 h1))) (b2 h1) ?_
    show ez xs 87 30 [some (.ref 36), some (.int w), some (.int k), some (.int f), some (.int x), some (.int y)] [] (jj_up (jj_up (jj_up (jj_up (jj_up (jj_up (jj_up m (39 + 6 * ((m 36 1).toNatClampNeg)) 0 k) (39 + 6 * ((m 36 1).toNatClampNeg)) 1 (f_Pattern_describe_u1 m k f x y (39 + 6 * ((m 36 1).toNatClampNeg)))) (39 + 6 * ((m 36 1).toNatClampNeg)) 2 (f_Pattern_describe_u2 m k f x y (39 + 6 * ((m 36 1).toNatClampNeg)))) (39 + 6 * ((m 36 1).toNatClampNeg)) 3 (f_Pattern_describe_u3 m k f x y (39 + 6 * ((m 36 1).toNatClampNeg)))) (38 + 6 * ((m 36 1).toNatClampNeg)) 3 0) (38 + 6 * ((m 36 1).toNatClampNeg)) 4 w) (38 + 6 * ((m 36 1).toNatClampNeg)) 5 0) Q
    refine ez_blk 7 rfl ?_
    show ez xs 87 43 [some (.ref 36), some (.int w), some (.int k), some (.int f), some (.int x), some (.int y)] [.int ((jj_up (jj_up (jj_up (jj_up (jj_up (jj_up (jj_up m (39 + 6 * ((m 36 1).toNatClampNeg)) 0 k) (39 + 6 * ((m 36 1).toNatClampNeg)) 1 (f_Pattern_describe_u1 m k f x y (39 + 6 * ((m 36 1).toNatClampNeg)))) (39 + 6 * ((m 36 1).toNatClampNeg)) 2 (f_Pattern_describe_u2 m k f x y (39 + 6 * ((m 36 1).toNatClampNeg)))) (39 + 6 * ((m 36 1).toNatClampNeg)) 3 (f_Pattern_describe_u3 m k f x y (39 + 6 * ((m 36 1).toNatClampNeg)))) (38 + 6 * ((m 36 1).toNatClampNeg)) 3 0) (38 + 6 * ((m 36 1).toNatClampNeg)) 4 w) (38 + 6 * ((m 36 1).toNatClampNeg)) 5 0) 36 1), .ref 37, .int ((jj_up (jj_up (jj_up (jj_up (jj_up (jj_up (jj_up m (39 + 6 * ((m 36 1).toNatClampNeg)) 0 k) (39 + 6 * ((m 36 1).toNatClampNeg)) 1 (f_Pattern_describe_u1 m k f x y (39 + 6 * ((m 36 1).toNatClampNeg)))) (39 + 6 * ((m 36 1).toNatClampNeg)) 2 (f_Pattern_describe_u2 m k f x y (39 + 6 * ((m 36 1).toNatClampNeg)))) (39 + 6 * ((m 36 1).toNatClampNeg)) 3 (f_Pattern_describe_u3 m k f x y (39 + 6 * ((m 36 1).toNatClampNeg)))) (38 + 6 * ((m 36 1).toNatClampNeg)) 3 0) (38 + 6 * ((m 36 1).toNatClampNeg)) 4 w) (38 + 6 * ((m 36 1).toNatClampNeg)) 5 0) 36 2), .ref 36] (jj_up (jj_up (jj_up (jj_up (jj_up (jj_up (jj_up m (39 + 6 * ((m 36 1).toNatClampNeg)) 0 k) (39 + 6 * ((m 36 1).toNatClampNeg)) 1 (f_Pattern_describe_u1 m k f x y (39 + 6 * ((m 36 1).toNatClampNeg)))) (39 + 6 * ((m 36 1).toNatClampNeg)) 2 (f_Pattern_describe_u2 m k f x y (39 + 6 * ((m 36 1).toNatClampNeg)))) (39 + 6 * ((m 36 1).toNatClampNeg)) 3 (f_Pattern_describe_u3 m k f x y (39 + 6 * ((m 36 1).toNatClampNeg)))) (38 + 6 * ((m 36 1).toNatClampNeg)) 3 0) (38 + 6 * ((m 36 1).toNatClampNeg)) 4 w) (38 + 6 * ((m 36 1).toNatClampNeg)) 5 0) Q
    refine ez_rldv rfl (by decide) rfl rfl (b3 h1) (z_itr (vp_lt (b3 h1))) ?_
    show ez xs 87 44 [some (.ref 36), some (.int w), some (.int k), some (.int f), some (.int x), some (.int y)] [.ref (38 + 6 * ((jj_up (jj_up (jj_up (jj_up (jj_up (jj_up (jj_up m (39 + 6 * ((m 36 1).toNatClampNeg)) 0 k) (39 + 6 * ((m 36 1).toNatClampNeg)) 1 (f_Pattern_describe_u1 m k f x y (39 + 6 * ((m 36 1).toNatClampNeg)))) (39 + 6 * ((m 36 1).toNatClampNeg)) 2 (f_Pattern_describe_u2 m k f x y (39 + 6 * ((m 36 1).toNatClampNeg)))) (39 + 6 * ((m 36 1).toNatClampNeg)) 3 (f_Pattern_describe_u3 m k f x y (39 + 6 * ((m 36 1).toNatClampNeg)))) (38 + 6 * ((m 36 1).toNatClampNeg)) 3 0) (38 + 6 * ((m 36 1).toNatClampNeg)) 4 w) (38 + 6 * ((m 36 1).toNatClampNeg)) 5 0) 36 1).toNatClampNeg), .int ((jj_up (jj_up (jj_up (jj_up (jj_up (jj_up (jj_up m (39 + 6 * ((m 36 1).toNatClampNeg)) 0 k) (39 + 6 * ((m 36 1).toNatClampNeg)) 1 (f_Pattern_describe_u1 m k f x y (39 + 6 * ((m 36 1).toNatClampNeg)))) (39 + 6 * ((m 36 1).toNatClampNeg)) 2 (f_Pattern_describe_u2 m k f x y (39 + 6 * ((m 36 1).toNatClampNeg)))) (39 + 6 * ((m 36 1).toNatClampNeg)) 3 (f_Pattern_describe_u3 m k f x y (39 + 6 * ((m 36 1).toNatClampNeg)))) (38 + 6 * ((m 36 1).toNatClampNeg)) 3 0) (38 + 6 * ((m 36 1).toNatClampNeg)) 4 w) (38 + 6 * ((m 36 1).toNatClampNeg)) 5 0) 36 2), .ref 36] (jj_up (jj_up (jj_up (jj_up (jj_up (jj_up (jj_up m (39 + 6 * ((m 36 1).toNatClampNeg)) 0 k) (39 + 6 * ((m 36 1).toNatClampNeg)) 1 (f_Pattern_describe_u1 m k f x y (39 + 6 * ((m 36 1).toNatClampNeg)))) (39 + 6 * ((m 36 1).toNatClampNeg)) 2 (f_Pattern_describe_u2 m k f x y (39 + 6 * ((m 36 1).toNatClampNeg)))) (39 + 6 * ((m 36 1).toNatClampNeg)) 3 (f_Pattern_describe_u3 m k f x y (39 + 6 * ((m 36 1).toNatClampNeg)))) (38 + 6 * ((m 36 1).toNatClampNeg)) 3 0) (38 + 6 * ((m 36 1).toNatClampNeg)) 4 w) (38 + 6 * ((m 36 1).toNatClampNeg)) 5 0) Q
    refine ez_getNr rfl (z_iti (vp_lt (b3 h1))) (z_its (vp_lt (b3 h1))) (by decide) rfl (z_itp (vp_lt (b3 h1))) ?_
    show ez xs 87 47 [some (.ref 36), some (.int w), some (.int k), some (.int f), some (.int x), some (.int y)] [.ref (39 + 6 * ((jj_up (jj_up (jj_up (jj_up (jj_up (jj_up (jj_up m (39 + 6 * ((m 36 1).toNatClampNeg)) 0 k) (39 + 6 * ((m 36 1).toNatClampNeg)) 1 (f_Pattern_describe_u1 m k f x y (39 + 6 * ((m 36 1).toNatClampNeg)))) (39 + 6 * ((m 36 1).toNatClampNeg)) 2 (f_Pattern_describe_u2 m k f x y (39 + 6 * ((m 36 1).toNatClampNeg)))) (39 + 6 * ((m 36 1).toNatClampNeg)) 3 (f_Pattern_describe_u3 m k f x y (39 + 6 * ((m 36 1).toNatClampNeg)))) (38 + 6 * ((m 36 1).toNatClampNeg)) 3 0) (38 + 6 * ((m 36 1).toNatClampNeg)) 4 w) (38 + 6 * ((m 36 1).toNatClampNeg)) 5 0) 36 1).toNatClampNeg), .int ((jj_up (jj_up (jj_up (jj_up (jj_up (jj_up (jj_up m (39 + 6 * ((m 36 1).toNatClampNeg)) 0 k) (39 + 6 * ((m 36 1).toNatClampNeg)) 1 (f_Pattern_describe_u1 m k f x y (39 + 6 * ((m 36 1).toNatClampNeg)))) (39 + 6 * ((m 36 1).toNatClampNeg)) 2 (f_Pattern_describe_u2 m k f x y (39 + 6 * ((m 36 1).toNatClampNeg)))) (39 + 6 * ((m 36 1).toNatClampNeg)) 3 (f_Pattern_describe_u3 m k f x y (39 + 6 * ((m 36 1).toNatClampNeg)))) (38 + 6 * ((m 36 1).toNatClampNeg)) 3 0) (38 + 6 * ((m 36 1).toNatClampNeg)) 4 w) (38 + 6 * ((m 36 1).toNatClampNeg)) 5 0) 36 2), .ref 36] (jj_up (jj_up (jj_up (jj_up (jj_up (jj_up (jj_up m (39 + 6 * ((m 36 1).toNatClampNeg)) 0 k) (39 + 6 * ((m 36 1).toNatClampNeg)) 1 (f_Pattern_describe_u1 m k f x y (39 + 6 * ((m 36 1).toNatClampNeg)))) (39 + 6 * ((m 36 1).toNatClampNeg)) 2 (f_Pattern_describe_u2 m k f x y (39 + 6 * ((m 36 1).toNatClampNeg)))) (39 + 6 * ((m 36 1).toNatClampNeg)) 3 (f_Pattern_describe_u3 m k f x y (39 + 6 * ((m 36 1).toNatClampNeg)))) (38 + 6 * ((m 36 1).toNatClampNeg)) 3 0) (38 + 6 * ((m 36 1).toNatClampNeg)) 4 w) (38 + 6 * ((m 36 1).toNatClampNeg)) 5 0) Q
    refine ez_calls (i := 39 + 6 * ((jj_up (jj_up (jj_up (jj_up (jj_up (jj_up (jj_up m (39 + 6 * ((m 36 1).toNatClampNeg)) 0 k) (39 + 6 * ((m 36 1).toNatClampNeg)) 1 (f_Pattern_describe_u1 m k f x y (39 + 6 * ((m 36 1).toNatClampNeg)))) (39 + 6 * ((m 36 1).toNatClampNeg)) 2 (f_Pattern_describe_u2 m k f x y (39 + 6 * ((m 36 1).toNatClampNeg)))) (39 + 6 * ((m 36 1).toNatClampNeg)) 3 (f_Pattern_describe_u3 m k f x y (39 + 6 * ((m 36 1).toNatClampNeg)))) (38 + 6 * ((m 36 1).toNatClampNeg)) 3 0) (38 + 6 * ((m 36 1).toNatClampNeg)) 4 w) (38 + 6 * ((m 36 1).toNatClampNeg)) 5 0) 36 1).toNatClampNeg) (as2 := []) (rest := [.int ((jj_up (jj_up (jj_up (jj_up (jj_up (jj_up (jj_up m (39 + 6 * ((m 36 1).toNatClampNeg)) 0 k) (39 + 6 * ((m 36 1).toNatClampNeg)) 1 (f_Pattern_describe_u1 m k f x y (39 + 6 * ((m 36 1).toNatClampNeg)))) (39 + 6 * ((m 36 1).toNatClampNeg)) 2 (f_Pattern_describe_u2 m k f x y (39 + 6 * ((m 36 1).toNatClampNeg)))) (39 + 6 * ((m 36 1).toNatClampNeg)) 3 (f_Pattern_describe_u3 m k f x y (39 + 6 * ((m 36 1).toNatClampNeg)))) (38 + 6 * ((m 36 1).toNatClampNeg)) 3 0) (38 + 6 * ((m 36 1).toNatClampNeg)) 4 w) (38 + 6 * ((m 36 1).toNatClampNeg)) 5 0) 36 2), .ref 36]) rfl (by decide) rfl rfl rfl (z_pti (vp_lt (b3 h1))) (z_pts (vp_lt (b3 h1))) rfl ?_
    refine c_Pattern_unknowns (i_r := (z_pti (vp_lt (b3 h1)))) (s_r := (z_pts (vp_lt (b3 h1)))) ?_
    show ez xs 87 50 [some (.ref 36), some (.int w), some (.int k), some (.int f), some (.int x), some (.int y)] [.int (f_Pattern_unknownsIn (jj_up (jj_up (jj_up (jj_up (jj_up (jj_up (jj_up m (39 + 6 * ((m 36 1).toNatClampNeg)) 0 k) (39 + 6 * ((m 36 1).toNatClampNeg)) 1 (f_Pattern_describe_u1 m k f x y (39 + 6 * ((m 36 1).toNatClampNeg)))) (39 + 6 * ((m 36 1).toNatClampNeg)) 2 (f_Pattern_describe_u2 m k f x y (39 + 6 * ((m 36 1).toNatClampNeg)))) (39 + 6 * ((m 36 1).toNatClampNeg)) 3 (f_Pattern_describe_u3 m k f x y (39 + 6 * ((m 36 1).toNatClampNeg)))) (38 + 6 * ((m 36 1).toNatClampNeg)) 3 0) (38 + 6 * ((m 36 1).toNatClampNeg)) 4 w) (38 + 6 * ((m 36 1).toNatClampNeg)) 5 0) ((jj_up (jj_up (jj_up (jj_up (jj_up (jj_up (jj_up m (39 + 6 * ((m 36 1).toNatClampNeg)) 0 k) (39 + 6 * ((m 36 1).toNatClampNeg)) 1 (f_Pattern_describe_u1 m k f x y (39 + 6 * ((m 36 1).toNatClampNeg)))) (39 + 6 * ((m 36 1).toNatClampNeg)) 2 (f_Pattern_describe_u2 m k f x y (39 + 6 * ((m 36 1).toNatClampNeg)))) (39 + 6 * ((m 36 1).toNatClampNeg)) 3 (f_Pattern_describe_u3 m k f x y (39 + 6 * ((m 36 1).toNatClampNeg)))) (38 + 6 * ((m 36 1).toNatClampNeg)) 3 0) (38 + 6 * ((m 36 1).toNatClampNeg)) 4 w) (38 + 6 * ((m 36 1).toNatClampNeg)) 5 0) (39 + 6 * ((jj_up (jj_up (jj_up (jj_up (jj_up (jj_up (jj_up m (39 + 6 * ((m 36 1).toNatClampNeg)) 0 k) (39 + 6 * ((m 36 1).toNatClampNeg)) 1 (f_Pattern_describe_u1 m k f x y (39 + 6 * ((m 36 1).toNatClampNeg)))) (39 + 6 * ((m 36 1).toNatClampNeg)) 2 (f_Pattern_describe_u2 m k f x y (39 + 6 * ((m 36 1).toNatClampNeg)))) (39 + 6 * ((m 36 1).toNatClampNeg)) 3 (f_Pattern_describe_u3 m k f x y (39 + 6 * ((m 36 1).toNatClampNeg)))) (38 + 6 * ((m 36 1).toNatClampNeg)) 3 0) (38 + 6 * ((m 36 1).toNatClampNeg)) 4 w) (38 + 6 * ((m 36 1).toNatClampNeg)) 5 0) 36 1).toNatClampNeg) 0) ((jj_up (jj_up (jj_up (jj_up (jj_up (jj_up (jj_up m (39 + 6 * ((m 36 1).toNatClampNeg)) 0 k) (39 + 6 * ((m 36 1).toNatClampNeg)) 1 (f_Pattern_describe_u1 m k f x y (39 + 6 * ((m 36 1).toNatClampNeg)))) (39 + 6 * ((m 36 1).toNatClampNeg)) 2 (f_Pattern_describe_u2 m k f x y (39 + 6 * ((m 36 1).toNatClampNeg)))) (39 + 6 * ((m 36 1).toNatClampNeg)) 3 (f_Pattern_describe_u3 m k f x y (39 + 6 * ((m 36 1).toNatClampNeg)))) (38 + 6 * ((m 36 1).toNatClampNeg)) 3 0) (38 + 6 * ((m 36 1).toNatClampNeg)) 4 w) (38 + 6 * ((m 36 1).toNatClampNeg)) 5 0) (39 + 6 * ((jj_up (jj_up (jj_up (jj_up (jj_up (jj_up (jj_up m (39 + 6 * ((m 36 1).toNatClampNeg)) 0 k) (39 + 6 * ((m 36 1).toNatClampNeg)) 1 (f_Pattern_describe_u1 m k f x y (39 + 6 * ((m 36 1).toNatClampNeg)))) (39 + 6 * ((m 36 1).toNatClampNeg)) 2 (f_Pattern_describe_u2 m k f x y (39 + 6 * ((m 36 1).toNatClampNeg)))) (39 + 6 * ((m 36 1).toNatClampNeg)) 3 (f_Pattern_describe_u3 m k f x y (39 + 6 * ((m 36 1).toNatClampNeg)))) (38 + 6 * ((m 36 1).toNatClampNeg)) 3 0) (38 + 6 * ((m 36 1).toNatClampNeg)) 4 w) (38 + 6 * ((m 36 1).toNatClampNeg)) 5 0) 36 1).toNatClampNeg) 2) ((jj_up (jj_up (jj_up (jj_up (jj_up (jj_up (jj_up m (39 + 6 * ((m 36 1).toNatClampNeg)) 0 k) (39 + 6 * ((m 36 1).toNatClampNeg)) 1 (f_Pattern_describe_u1 m k f x y (39 + 6 * ((m 36 1).toNatClampNeg)))) (39 + 6 * ((m 36 1).toNatClampNeg)) 2 (f_Pattern_describe_u2 m k f x y (39 + 6 * ((m 36 1).toNatClampNeg)))) (39 + 6 * ((m 36 1).toNatClampNeg)) 3 (f_Pattern_describe_u3 m k f x y (39 + 6 * ((m 36 1).toNatClampNeg)))) (38 + 6 * ((m 36 1).toNatClampNeg)) 3 0) (38 + 6 * ((m 36 1).toNatClampNeg)) 4 w) (38 + 6 * ((m 36 1).toNatClampNeg)) 5 0) (39 + 6 * ((jj_up (jj_up (jj_up (jj_up (jj_up (jj_up (jj_up m (39 + 6 * ((m 36 1).toNatClampNeg)) 0 k) (39 + 6 * ((m 36 1).toNatClampNeg)) 1 (f_Pattern_describe_u1 m k f x y (39 + 6 * ((m 36 1).toNatClampNeg)))) (39 + 6 * ((m 36 1).toNatClampNeg)) 2 (f_Pattern_describe_u2 m k f x y (39 + 6 * ((m 36 1).toNatClampNeg)))) (39 + 6 * ((m 36 1).toNatClampNeg)) 3 (f_Pattern_describe_u3 m k f x y (39 + 6 * ((m 36 1).toNatClampNeg)))) (38 + 6 * ((m 36 1).toNatClampNeg)) 3 0) (38 + 6 * ((m 36 1).toNatClampNeg)) 4 w) (38 + 6 * ((m 36 1).toNatClampNeg)) 5 0) 36 1).toNatClampNeg) 3)), .int ((jj_up (jj_up (jj_up (jj_up (jj_up (jj_up (jj_up m (39 + 6 * ((m 36 1).toNatClampNeg)) 0 k) (39 + 6 * ((m 36 1).toNatClampNeg)) 1 (f_Pattern_describe_u1 m k f x y (39 + 6 * ((m 36 1).toNatClampNeg)))) (39 + 6 * ((m 36 1).toNatClampNeg)) 2 (f_Pattern_describe_u2 m k f x y (39 + 6 * ((m 36 1).toNatClampNeg)))) (39 + 6 * ((m 36 1).toNatClampNeg)) 3 (f_Pattern_describe_u3 m k f x y (39 + 6 * ((m 36 1).toNatClampNeg)))) (38 + 6 * ((m 36 1).toNatClampNeg)) 3 0) (38 + 6 * ((m 36 1).toNatClampNeg)) 4 w) (38 + 6 * ((m 36 1).toNatClampNeg)) 5 0) 36 2), .ref 36] (jj_up (jj_up (jj_up (jj_up (jj_up (jj_up (jj_up m (39 + 6 * ((m 36 1).toNatClampNeg)) 0 k) (39 + 6 * ((m 36 1).toNatClampNeg)) 1 (f_Pattern_describe_u1 m k f x y (39 + 6 * ((m 36 1).toNatClampNeg)))) (39 + 6 * ((m 36 1).toNatClampNeg)) 2 (f_Pattern_describe_u2 m k f x y (39 + 6 * ((m 36 1).toNatClampNeg)))) (39 + 6 * ((m 36 1).toNatClampNeg)) 3 (f_Pattern_describe_u3 m k f x y (39 + 6 * ((m 36 1).toNatClampNeg)))) (38 + 6 * ((m 36 1).toNatClampNeg)) 3 0) (38 + 6 * ((m 36 1).toNatClampNeg)) 4 w) (38 + 6 * ((m 36 1).toNatClampNeg)) 5 0) Q
    refine ez_blk 9 rfl ?_
    show ez xs 87 65 [some (.ref 36), some (.int w), some (.int k), some (.int f), some (.int x), some (.int y)] [.int 1] (jj_up (jj_up (jj_up (jj_up (jj_up (jj_up (jj_up (jj_up (jj_up m (39 + 6 * ((m 36 1).toNatClampNeg)) 0 k) (39 + 6 * ((m 36 1).toNatClampNeg)) 1 (f_Pattern_describe_u1 m k f x y (39 + 6 * ((m 36 1).toNatClampNeg)))) (39 + 6 * ((m 36 1).toNatClampNeg)) 2 (f_Pattern_describe_u2 m k f x y (39 + 6 * ((m 36 1).toNatClampNeg)))) (39 + 6 * ((m 36 1).toNatClampNeg)) 3 (f_Pattern_describe_u3 m k f x y (39 + 6 * ((m 36 1).toNatClampNeg)))) (38 + 6 * ((m 36 1).toNatClampNeg)) 3 0) (38 + 6 * ((m 36 1).toNatClampNeg)) 4 w) (38 + 6 * ((m 36 1).toNatClampNeg)) 5 0) 36 2 (((jj_up (jj_up (jj_up (jj_up (jj_up (jj_up (jj_up m (39 + 6 * ((m 36 1).toNatClampNeg)) 0 k) (39 + 6 * ((m 36 1).toNatClampNeg)) 1 (f_Pattern_describe_u1 m k f x y (39 + 6 * ((m 36 1).toNatClampNeg)))) (39 + 6 * ((m 36 1).toNatClampNeg)) 2 (f_Pattern_describe_u2 m k f x y (39 + 6 * ((m 36 1).toNatClampNeg)))) (39 + 6 * ((m 36 1).toNatClampNeg)) 3 (f_Pattern_describe_u3 m k f x y (39 + 6 * ((m 36 1).toNatClampNeg)))) (38 + 6 * ((m 36 1).toNatClampNeg)) 3 0) (38 + 6 * ((m 36 1).toNatClampNeg)) 4 w) (38 + 6 * ((m 36 1).toNatClampNeg)) 5 0) 36 2) ||| (f_Pattern_unknownsIn (jj_up (jj_up (jj_up (jj_up (jj_up (jj_up (jj_up m (39 + 6 * ((m 36 1).toNatClampNeg)) 0 k) (39 + 6 * ((m 36 1).toNatClampNeg)) 1 (f_Pattern_describe_u1 m k f x y (39 + 6 * ((m 36 1).toNatClampNeg)))) (39 + 6 * ((m 36 1).toNatClampNeg)) 2 (f_Pattern_describe_u2 m k f x y (39 + 6 * ((m 36 1).toNatClampNeg)))) (39 + 6 * ((m 36 1).toNatClampNeg)) 3 (f_Pattern_describe_u3 m k f x y (39 + 6 * ((m 36 1).toNatClampNeg)))) (38 + 6 * ((m 36 1).toNatClampNeg)) 3 0) (38 + 6 * ((m 36 1).toNatClampNeg)) 4 w) (38 + 6 * ((m 36 1).toNatClampNeg)) 5 0) ((jj_up (jj_up (jj_up (jj_up (jj_up (jj_up (jj_up m (39 + 6 * ((m 36 1).toNatClampNeg)) 0 k) (39 + 6 * ((m 36 1).toNatClampNeg)) 1 (f_Pattern_describe_u1 m k f x y (39 + 6 * ((m 36 1).toNatClampNeg)))) (39 + 6 * ((m 36 1).toNatClampNeg)) 2 (f_Pattern_describe_u2 m k f x y (39 + 6 * ((m 36 1).toNatClampNeg)))) (39 + 6 * ((m 36 1).toNatClampNeg)) 3 (f_Pattern_describe_u3 m k f x y (39 + 6 * ((m 36 1).toNatClampNeg)))) (38 + 6 * ((m 36 1).toNatClampNeg)) 3 0) (38 + 6 * ((m 36 1).toNatClampNeg)) 4 w) (38 + 6 * ((m 36 1).toNatClampNeg)) 5 0) (39 + 6 * ((jj_up (jj_up (jj_up (jj_up (jj_up (jj_up (jj_up m (39 + 6 * ((m 36 1).toNatClampNeg)) 0 k) (39 + 6 * ((m 36 1).toNatClampNeg)) 1 (f_Pattern_describe_u1 m k f x y (39 + 6 * ((m 36 1).toNatClampNeg)))) (39 + 6 * ((m 36 1).toNatClampNeg)) 2 (f_Pattern_describe_u2 m k f x y (39 + 6 * ((m 36 1).toNatClampNeg)))) (39 + 6 * ((m 36 1).toNatClampNeg)) 3 (f_Pattern_describe_u3 m k f x y (39 + 6 * ((m 36 1).toNatClampNeg)))) (38 + 6 * ((m 36 1).toNatClampNeg)) 3 0) (38 + 6 * ((m 36 1).toNatClampNeg)) 4 w) (38 + 6 * ((m 36 1).toNatClampNeg)) 5 0) 36 1).toNatClampNeg) 0) ((jj_up (jj_up (jj_up (jj_up (jj_up (jj_up (jj_up m (39 + 6 * ((m 36 1).toNatClampNeg)) 0 k) (39 + 6 * ((m 36 1).toNatClampNeg)) 1 (f_Pattern_describe_u1 m k f x y (39 + 6 * ((m 36 1).toNatClampNeg)))) (39 + 6 * ((m 36 1).toNatClampNeg)) 2 (f_Pattern_describe_u2 m k f x y (39 + 6 * ((m 36 1).toNatClampNeg)))) (39 + 6 * ((m 36 1).toNatClampNeg)) 3 (f_Pattern_describe_u3 m k f x y (39 + 6 * ((m 36 1).toNatClampNeg)))) (38 + 6 * ((m 36 1).toNatClampNeg)) 3 0) (38 + 6 * ((m 36 1).toNatClampNeg)) 4 w) (38 + 6 * ((m 36 1).toNatClampNeg)) 5 0) (39 + 6 * ((jj_up (jj_up (jj_up (jj_up (jj_up (jj_up (jj_up m (39 + 6 * ((m 36 1).toNatClampNeg)) 0 k) (39 + 6 * ((m 36 1).toNatClampNeg)) 1 (f_Pattern_describe_u1 m k f x y (39 + 6 * ((m 36 1).toNatClampNeg)))) (39 + 6 * ((m 36 1).toNatClampNeg)) 2 (f_Pattern_describe_u2 m k f x y (39 + 6 * ((m 36 1).toNatClampNeg)))) (39 + 6 * ((m 36 1).toNatClampNeg)) 3 (f_Pattern_describe_u3 m k f x y (39 + 6 * ((m 36 1).toNatClampNeg)))) (38 + 6 * ((m 36 1).toNatClampNeg)) 3 0) (38 + 6 * ((m 36 1).toNatClampNeg)) 4 w) (38 + 6 * ((m 36 1).toNatClampNeg)) 5 0) 36 1).toNatClampNeg) 2) ((jj_up (jj_up (jj_up (jj_up (jj_up (jj_up (jj_up m (39 + 6 * ((m 36 1).toNatClampNeg)) 0 k) (39 + 6 * ((m 36 1).toNatClampNeg)) 1 (f_Pattern_describe_u1 m k f x y (39 + 6 * ((m 36 1).toNatClampNeg)))) (39 + 6 * ((m 36 1).toNatClampNeg)) 2 (f_Pattern_describe_u2 m k f x y (39 + 6 * ((m 36 1).toNatClampNeg)))) (39 + 6 * ((m 36 1).toNatClampNeg)) 3 (f_Pattern_describe_u3 m k f x y (39 + 6 * ((m 36 1).toNatClampNeg)))) (38 + 6 * ((m 36 1).toNatClampNeg)) 3 0) (38 + 6 * ((m 36 1).toNatClampNeg)) 4 w) (38 + 6 * ((m 36 1).toNatClampNeg)) 5 0) (39 + 6 * ((jj_up (jj_up (jj_up (jj_up (jj_up (jj_up (jj_up m (39 + 6 * ((m 36 1).toNatClampNeg)) 0 k) (39 + 6 * ((m 36 1).toNatClampNeg)) 1 (f_Pattern_describe_u1 m k f x y (39 + 6 * ((m 36 1).toNatClampNeg)))) (39 + 6 * ((m 36 1).toNatClampNeg)) 2 (f_Pattern_describe_u2 m k f x y (39 + 6 * ((m 36 1).toNatClampNeg)))) (39 + 6 * ((m 36 1).toNatClampNeg)) 3 (f_Pattern_describe_u3 m k f x y (39 + 6 * ((m 36 1).toNatClampNeg)))) (38 + 6 * ((m 36 1).toNatClampNeg)) 3 0) (38 + 6 * ((m 36 1).toNatClampNeg)) 4 w) (38 + 6 * ((m 36 1).toNatClampNeg)) 5 0) 36 1).toNatClampNeg) 3)))) 36 1 (((jj_up (jj_up (jj_up (jj_up (jj_up (jj_up (jj_up m (39 + 6 * ((m 36 1).toNatClampNeg)) 0 k) (39 + 6 * ((m 36 1).toNatClampNeg)) 1 (f_Pattern_describe_u1 m k f x y (39 + 6 * ((m 36 1).toNatClampNeg)))) (39 + 6 * ((m 36 1).toNatClampNeg)) 2 (f_Pattern_describe_u2 m k f x y (39 + 6 * ((m 36 1).toNatClampNeg)))) (39 + 6 * ((m 36 1).toNatClampNeg)) 3 (f_Pattern_describe_u3 m k f x y (39 + 6 * ((m 36 1).toNatClampNeg)))) (38 + 6 * ((m 36 1).toNatClampNeg)) 3 0) (38 + 6 * ((m 36 1).toNatClampNeg)) 4 w) (38 + 6 * ((m 36 1).toNatClampNeg)) 5 0) 36 1) + 1)) Q
    exact ez_ret rfl (by decide) rfl (g1 h1)
  · show ez xs 87 9 [some (.ref 36), some (.int w), some (.int k), some (.int f), some (.int x), some (.int y)] [] m Q
    refine ez_blk 1 rfl ?_
    show ez xs 87 10 [some (.ref 36), some (.int w), some (.int k), some (.int f), some (.int x), some (.int y)] [.int 0] m Q
    exact ez_ret rfl (by decide) rfl (g2 h1)
set_option maxRecDepth 100000 in
set_option maxHeartbeats 2000000 in
theorem c_Integer_bitCount {xs : jx_Xs} {m : zM} {Q : Option Value → zM → Prop} {x : Int32}
    (g1 : Q (some (.int ((((((((x - (((x.toUInt32 >>> ((1 : Int32).toUInt32 &&& Int32.toUInt32 31)).toInt32) &&& 1431655765)) &&& 858993459) + ((((x - (((x.toUInt32 >>> ((1 : Int32).toUInt32 &&& Int32.toUInt32 31)).toInt32) &&& 1431655765)).toUInt32 >>> ((2 : Int32).toUInt32 &&& Int32.toUInt32 31)).toInt32) &&& 858993459)) + (((((x - (((x.toUInt32 >>> ((1 : Int32).toUInt32 &&& Int32.toUInt32 31)).toInt32) &&& 1431655765)) &&& 858993459) + ((((x - (((x.toUInt32 >>> ((1 : Int32).toUInt32 &&& Int32.toUInt32 31)).toInt32) &&& 1431655765)).toUInt32 >>> ((2 : Int32).toUInt32 &&& Int32.toUInt32 31)).toInt32) &&& 858993459)).toUInt32 >>> ((4 : Int32).toUInt32 &&& Int32.toUInt32 31)).toInt32)) &&& 252645135) + (((((((x - (((x.toUInt32 >>> ((1 : Int32).toUInt32 &&& Int32.toUInt32 31)).toInt32) &&& 1431655765)) &&& 858993459) + ((((x - (((x.toUInt32 >>> ((1 : Int32).toUInt32 &&& Int32.toUInt32 31)).toInt32) &&& 1431655765)).toUInt32 >>> ((2 : Int32).toUInt32 &&& Int32.toUInt32 31)).toInt32) &&& 858993459)) + (((((x - (((x.toUInt32 >>> ((1 : Int32).toUInt32 &&& Int32.toUInt32 31)).toInt32) &&& 1431655765)) &&& 858993459) + ((((x - (((x.toUInt32 >>> ((1 : Int32).toUInt32 &&& Int32.toUInt32 31)).toInt32) &&& 1431655765)).toUInt32 >>> ((2 : Int32).toUInt32 &&& Int32.toUInt32 31)).toInt32) &&& 858993459)).toUInt32 >>> ((4 : Int32).toUInt32 &&& Int32.toUInt32 31)).toInt32)) &&& 252645135).toUInt32 >>> ((8 : Int32).toUInt32 &&& Int32.toUInt32 31)).toInt32)) + ((((((((x - (((x.toUInt32 >>> ((1 : Int32).toUInt32 &&& Int32.toUInt32 31)).toInt32) &&& 1431655765)) &&& 858993459) + ((((x - (((x.toUInt32 >>> ((1 : Int32).toUInt32 &&& Int32.toUInt32 31)).toInt32) &&& 1431655765)).toUInt32 >>> ((2 : Int32).toUInt32 &&& Int32.toUInt32 31)).toInt32) &&& 858993459)) + (((((x - (((x.toUInt32 >>> ((1 : Int32).toUInt32 &&& Int32.toUInt32 31)).toInt32) &&& 1431655765)) &&& 858993459) + ((((x - (((x.toUInt32 >>> ((1 : Int32).toUInt32 &&& Int32.toUInt32 31)).toInt32) &&& 1431655765)).toUInt32 >>> ((2 : Int32).toUInt32 &&& Int32.toUInt32 31)).toInt32) &&& 858993459)).toUInt32 >>> ((4 : Int32).toUInt32 &&& Int32.toUInt32 31)).toInt32)) &&& 252645135) + (((((((x - (((x.toUInt32 >>> ((1 : Int32).toUInt32 &&& Int32.toUInt32 31)).toInt32) &&& 1431655765)) &&& 858993459) + ((((x - (((x.toUInt32 >>> ((1 : Int32).toUInt32 &&& Int32.toUInt32 31)).toInt32) &&& 1431655765)).toUInt32 >>> ((2 : Int32).toUInt32 &&& Int32.toUInt32 31)).toInt32) &&& 858993459)) + (((((x - (((x.toUInt32 >>> ((1 : Int32).toUInt32 &&& Int32.toUInt32 31)).toInt32) &&& 1431655765)) &&& 858993459) + ((((x - (((x.toUInt32 >>> ((1 : Int32).toUInt32 &&& Int32.toUInt32 31)).toInt32) &&& 1431655765)).toUInt32 >>> ((2 : Int32).toUInt32 &&& Int32.toUInt32 31)).toInt32) &&& 858993459)).toUInt32 >>> ((4 : Int32).toUInt32 &&& Int32.toUInt32 31)).toInt32)) &&& 252645135).toUInt32 >>> ((8 : Int32).toUInt32 &&& Int32.toUInt32 31)).toInt32)).toUInt32 >>> ((16 : Int32).toUInt32 &&& Int32.toUInt32 31)).toInt32)) &&& 63))) m) : ez xs 141 0 (jx_ent 141 [.int x]) [] m Q := by
  refine ez_blk 41 rfl ?_
  show ez xs 141 52 [some (.int (((((((x - (((x.toUInt32 >>> ((1 : Int32).toUInt32 &&& Int32.toUInt32 31)).toInt32) &&& 1431655765)) &&& 858993459) + ((((x - (((x.toUInt32 >>> ((1 : Int32).toUInt32 &&& Int32.toUInt32 31)).toInt32) &&& 1431655765)).toUInt32 >>> ((2 : Int32).toUInt32 &&& Int32.toUInt32 31)).toInt32) &&& 858993459)) + (((((x - (((x.toUInt32 >>> ((1 : Int32).toUInt32 &&& Int32.toUInt32 31)).toInt32) &&& 1431655765)) &&& 858993459) + ((((x - (((x.toUInt32 >>> ((1 : Int32).toUInt32 &&& Int32.toUInt32 31)).toInt32) &&& 1431655765)).toUInt32 >>> ((2 : Int32).toUInt32 &&& Int32.toUInt32 31)).toInt32) &&& 858993459)).toUInt32 >>> ((4 : Int32).toUInt32 &&& Int32.toUInt32 31)).toInt32)) &&& 252645135) + (((((((x - (((x.toUInt32 >>> ((1 : Int32).toUInt32 &&& Int32.toUInt32 31)).toInt32) &&& 1431655765)) &&& 858993459) + ((((x - (((x.toUInt32 >>> ((1 : Int32).toUInt32 &&& Int32.toUInt32 31)).toInt32) &&& 1431655765)).toUInt32 >>> ((2 : Int32).toUInt32 &&& Int32.toUInt32 31)).toInt32) &&& 858993459)) + (((((x - (((x.toUInt32 >>> ((1 : Int32).toUInt32 &&& Int32.toUInt32 31)).toInt32) &&& 1431655765)) &&& 858993459) + ((((x - (((x.toUInt32 >>> ((1 : Int32).toUInt32 &&& Int32.toUInt32 31)).toInt32) &&& 1431655765)).toUInt32 >>> ((2 : Int32).toUInt32 &&& Int32.toUInt32 31)).toInt32) &&& 858993459)).toUInt32 >>> ((4 : Int32).toUInt32 &&& Int32.toUInt32 31)).toInt32)) &&& 252645135).toUInt32 >>> ((8 : Int32).toUInt32 &&& Int32.toUInt32 31)).toInt32)) + ((((((((x - (((x.toUInt32 >>> ((1 : Int32).toUInt32 &&& Int32.toUInt32 31)).toInt32) &&& 1431655765)) &&& 858993459) + ((((x - (((x.toUInt32 >>> ((1 : Int32).toUInt32 &&& Int32.toUInt32 31)).toInt32) &&& 1431655765)).toUInt32 >>> ((2 : Int32).toUInt32 &&& Int32.toUInt32 31)).toInt32) &&& 858993459)) + (((((x - (((x.toUInt32 >>> ((1 : Int32).toUInt32 &&& Int32.toUInt32 31)).toInt32) &&& 1431655765)) &&& 858993459) + ((((x - (((x.toUInt32 >>> ((1 : Int32).toUInt32 &&& Int32.toUInt32 31)).toInt32) &&& 1431655765)).toUInt32 >>> ((2 : Int32).toUInt32 &&& Int32.toUInt32 31)).toInt32) &&& 858993459)).toUInt32 >>> ((4 : Int32).toUInt32 &&& Int32.toUInt32 31)).toInt32)) &&& 252645135) + (((((((x - (((x.toUInt32 >>> ((1 : Int32).toUInt32 &&& Int32.toUInt32 31)).toInt32) &&& 1431655765)) &&& 858993459) + ((((x - (((x.toUInt32 >>> ((1 : Int32).toUInt32 &&& Int32.toUInt32 31)).toInt32) &&& 1431655765)).toUInt32 >>> ((2 : Int32).toUInt32 &&& Int32.toUInt32 31)).toInt32) &&& 858993459)) + (((((x - (((x.toUInt32 >>> ((1 : Int32).toUInt32 &&& Int32.toUInt32 31)).toInt32) &&& 1431655765)) &&& 858993459) + ((((x - (((x.toUInt32 >>> ((1 : Int32).toUInt32 &&& Int32.toUInt32 31)).toInt32) &&& 1431655765)).toUInt32 >>> ((2 : Int32).toUInt32 &&& Int32.toUInt32 31)).toInt32) &&& 858993459)).toUInt32 >>> ((4 : Int32).toUInt32 &&& Int32.toUInt32 31)).toInt32)) &&& 252645135).toUInt32 >>> ((8 : Int32).toUInt32 &&& Int32.toUInt32 31)).toInt32)).toUInt32 >>> ((16 : Int32).toUInt32 &&& Int32.toUInt32 31)).toInt32)))] [.int ((((((((x - (((x.toUInt32 >>> ((1 : Int32).toUInt32 &&& Int32.toUInt32 31)).toInt32) &&& 1431655765)) &&& 858993459) + ((((x - (((x.toUInt32 >>> ((1 : Int32).toUInt32 &&& Int32.toUInt32 31)).toInt32) &&& 1431655765)).toUInt32 >>> ((2 : Int32).toUInt32 &&& Int32.toUInt32 31)).toInt32) &&& 858993459)) + (((((x - (((x.toUInt32 >>> ((1 : Int32).toUInt32 &&& Int32.toUInt32 31)).toInt32) &&& 1431655765)) &&& 858993459) + ((((x - (((x.toUInt32 >>> ((1 : Int32).toUInt32 &&& Int32.toUInt32 31)).toInt32) &&& 1431655765)).toUInt32 >>> ((2 : Int32).toUInt32 &&& Int32.toUInt32 31)).toInt32) &&& 858993459)).toUInt32 >>> ((4 : Int32).toUInt32 &&& Int32.toUInt32 31)).toInt32)) &&& 252645135) + (((((((x - (((x.toUInt32 >>> ((1 : Int32).toUInt32 &&& Int32.toUInt32 31)).toInt32) &&& 1431655765)) &&& 858993459) + ((((x - (((x.toUInt32 >>> ((1 : Int32).toUInt32 &&& Int32.toUInt32 31)).toInt32) &&& 1431655765)).toUInt32 >>> ((2 : Int32).toUInt32 &&& Int32.toUInt32 31)).toInt32) &&& 858993459)) + (((((x - (((x.toUInt32 >>> ((1 : Int32).toUInt32 &&& Int32.toUInt32 31)).toInt32) &&& 1431655765)) &&& 858993459) + ((((x - (((x.toUInt32 >>> ((1 : Int32).toUInt32 &&& Int32.toUInt32 31)).toInt32) &&& 1431655765)).toUInt32 >>> ((2 : Int32).toUInt32 &&& Int32.toUInt32 31)).toInt32) &&& 858993459)).toUInt32 >>> ((4 : Int32).toUInt32 &&& Int32.toUInt32 31)).toInt32)) &&& 252645135).toUInt32 >>> ((8 : Int32).toUInt32 &&& Int32.toUInt32 31)).toInt32)) + ((((((((x - (((x.toUInt32 >>> ((1 : Int32).toUInt32 &&& Int32.toUInt32 31)).toInt32) &&& 1431655765)) &&& 858993459) + ((((x - (((x.toUInt32 >>> ((1 : Int32).toUInt32 &&& Int32.toUInt32 31)).toInt32) &&& 1431655765)).toUInt32 >>> ((2 : Int32).toUInt32 &&& Int32.toUInt32 31)).toInt32) &&& 858993459)) + (((((x - (((x.toUInt32 >>> ((1 : Int32).toUInt32 &&& Int32.toUInt32 31)).toInt32) &&& 1431655765)) &&& 858993459) + ((((x - (((x.toUInt32 >>> ((1 : Int32).toUInt32 &&& Int32.toUInt32 31)).toInt32) &&& 1431655765)).toUInt32 >>> ((2 : Int32).toUInt32 &&& Int32.toUInt32 31)).toInt32) &&& 858993459)).toUInt32 >>> ((4 : Int32).toUInt32 &&& Int32.toUInt32 31)).toInt32)) &&& 252645135) + (((((((x - (((x.toUInt32 >>> ((1 : Int32).toUInt32 &&& Int32.toUInt32 31)).toInt32) &&& 1431655765)) &&& 858993459) + ((((x - (((x.toUInt32 >>> ((1 : Int32).toUInt32 &&& Int32.toUInt32 31)).toInt32) &&& 1431655765)).toUInt32 >>> ((2 : Int32).toUInt32 &&& Int32.toUInt32 31)).toInt32) &&& 858993459)) + (((((x - (((x.toUInt32 >>> ((1 : Int32).toUInt32 &&& Int32.toUInt32 31)).toInt32) &&& 1431655765)) &&& 858993459) + ((((x - (((x.toUInt32 >>> ((1 : Int32).toUInt32 &&& Int32.toUInt32 31)).toInt32) &&& 1431655765)).toUInt32 >>> ((2 : Int32).toUInt32 &&& Int32.toUInt32 31)).toInt32) &&& 858993459)).toUInt32 >>> ((4 : Int32).toUInt32 &&& Int32.toUInt32 31)).toInt32)) &&& 252645135).toUInt32 >>> ((8 : Int32).toUInt32 &&& Int32.toUInt32 31)).toInt32)).toUInt32 >>> ((16 : Int32).toUInt32 &&& Int32.toUInt32 31)).toInt32)) &&& 63)] m Q
  exact ez_ret rfl (by decide) rfl (g1)
set_option maxRecDepth 100000 in
set_option maxHeartbeats 2000000 in
theorem c_M_named {xs : jx_Xs} {m : zM} {Q : Option Value → zM → Prop}
    (g1 : ez xs 103 4 [some (.ref 131), some (.int 0), some (.int 0)] [] m Q) : ez xs 103 0 (jx_ent 103 [.ref 131]) [] m Q := by
  refine ez_blk 4 rfl ?_
  show ez xs 103 4 [some (.ref 131), some (.int 0), some (.int 0)] [] m Q
  exact g1
set_option maxRecDepth 100000 in
set_option maxHeartbeats 2000000 in
theorem c_M_named_4 {xs : jx_Xs} {m : zM} {Q : Option Value → zM → Prop} {l1 l2 : Int32}
    (b1 : (¬ m 131 21 ≤ l2) → vp_in l2 6)
    (b2 : (¬ m 131 21 ≤ l2) → vp_in l2 6)
    (b3 : (¬ m 131 21 ≤ l2) → vp_in l2 6)
    (g1 : (m 131 21 ≤ l2) → Q (some (.int l1)) m)
    (g2 : (¬ m 131 21 ≤ l2) → ez xs 103 4 [some (.ref 131), some (.int (l1 ||| (f_M_names m (m 149 l2.toNatClampNeg) (m 151 l2.toNatClampNeg) (m 152 l2.toNatClampNeg)))), some (.int (l2 + 1))] [] m Q) : ez xs 103 4 [some (.ref 131), some (.int l1), some (.int l2)] [] m Q := by
  refine ez_blk 3 rfl ?_
  show ez xs 103 9 [some (.ref 131), some (.int l1), some (.int l2)] [.int (m 131 21), .int l2] m Q
  refine ez_icmp_ge rfl (fun h1 => ?_) (fun h1 => ?_)
  · show ez xs 103 43 [some (.ref 131), some (.int l1), some (.int l2)] [] m Q
    refine ez_blk 1 rfl ?_
    show ez xs 103 44 [some (.ref 131), some (.int l1), some (.int l2)] [.int l1] m Q
    exact ez_ret rfl (by decide) rfl (g1 h1)
  · show ez xs 103 12 [some (.ref 131), some (.int l1), some (.int l2)] [] m Q
    refine ez_blk 5 rfl ?_
    show ez xs 103 19 [some (.ref 131), some (.int l1), some (.int l2)] [.int l2, .ref 149, .ref 131, .int l1] m Q
    refine ez_ialdv rfl (by decide) rfl (b1 h1) ?_
    show ez xs 103 20 [some (.ref 131), some (.int l1), some (.int l2)] [.int (m 149 l2.toNatClampNeg), .ref 131, .int l1] m Q
    refine ez_blk 3 rfl ?_
    show ez xs 103 25 [some (.ref 131), some (.int l1), some (.int l2)] [.int l2, .ref 151, .int (m 149 l2.toNatClampNeg), .ref 131, .int l1] m Q
    refine ez_ialdv rfl (by decide) rfl (b2 h1) ?_
    show ez xs 103 26 [some (.ref 131), some (.int l1), some (.int l2)] [.int (m 151 l2.toNatClampNeg), .int (m 149 l2.toNatClampNeg), .ref 131, .int l1] m Q
    refine ez_blk 3 rfl ?_
    show ez xs 103 31 [some (.ref 131), some (.int l1), some (.int l2)] [.int l2, .ref 152, .int (m 151 l2.toNatClampNeg), .int (m 149 l2.toNatClampNeg), .ref 131, .int l1] m Q
    refine ez_ialdv rfl (by decide) rfl (b3 h1) ?_
    show ez xs 103 32 [some (.ref 131), some (.int l1), some (.int l2)] [.int (m 152 l2.toNatClampNeg), .int (m 151 l2.toNatClampNeg), .int (m 149 l2.toNatClampNeg), .ref 131, .int l1] m Q
    refine ez_call (as := [.ref 131, .int (m 149 l2.toNatClampNeg), .int (m 151 l2.toNatClampNeg), .int (m 152 l2.toNatClampNeg)]) (rest := [.int l1]) rfl (by decide) rfl ?_
    refine d_M_names ?_
    show ez xs 103 35 [some (.ref 131), some (.int l1), some (.int l2)] [.int (f_M_names m (m 149 l2.toNatClampNeg) (m 151 l2.toNatClampNeg) (m 152 l2.toNatClampNeg)), .int l1] m Q
    refine ez_blk 4 rfl ?_
    show ez xs 103 4 [some (.ref 131), some (.int (l1 ||| (f_M_names m (m 149 l2.toNatClampNeg) (m 151 l2.toNatClampNeg) (m 152 l2.toNatClampNeg)))), some (.int (l2 + 1))] [] m Q
    exact g2 h1
set_option maxRecDepth 100000 in
set_option maxHeartbeats 2000000 in
theorem c_M_findBad {xs : jx_Xs} {m : zM} {Q : Option Value → zM → Prop} {k b : Int32}
    (g1 : ez xs 149 7 [some (.ref 131), some (.int k), some (.int b), some (.int 0), none, none, none, none] [] (jj_up m 131 40 0) Q) : ez xs 149 0 (jx_ent 149 [.ref 131, .int k, .int b]) [] m Q := by
  refine ez_blk 5 rfl ?_
  show ez xs 149 7 [some (.ref 131), some (.int k), some (.int b), some (.int 0), none, none, none, none] [] (jj_up m 131 40 0) Q
  exact g1
set_option maxRecDepth 100000 in
set_option maxHeartbeats 2000000 in
theorem c_M_findBad_7 {xs : jx_Xs} {m : zM} {Q : Option Value → zM → Prop} {l1 l2 l3 : Int32} {o4 o5 o6 o7 : Option Value}
    (g1 : (25 ≤ l3) → Q none m)
    (g2 : (¬ 25 ≤ l3) → ez xs 149 16 [some (.ref 131), some (.int l1), some (.int l2), some (.int l3), some (.int 0), o5, o6, o7] [] m Q) : ez xs 149 7 [some (.ref 131), some (.int l1), some (.int l2), some (.int l3), o4, o5, o6, o7] [] m Q := by
  refine ez_blk 2 rfl ?_
  show ez xs 149 10 [some (.ref 131), some (.int l1), some (.int l2), some (.int l3), o4, o5, o6, o7] [.int 25, .int l3] m Q
  refine ez_icmp_ge rfl (fun h1 => ?_) (fun h1 => ?_)
  · show ez xs 149 197 [some (.ref 131), some (.int l1), some (.int l2), some (.int l3), o4, o5, o6, o7] [] m Q
    exact ez_ret rfl (by decide) rfl (g1 h1)
  · show ez xs 149 13 [some (.ref 131), some (.int l1), some (.int l2), some (.int l3), o4, o5, o6, o7] [] m Q
    refine ez_blk 2 rfl ?_
    show ez xs 149 16 [some (.ref 131), some (.int l1), some (.int l2), some (.int l3), some (.int 0), o5, o6, o7] [] m Q
    exact g2 h1
set_option maxRecDepth 100000 in
set_option maxHeartbeats 2000000 in
theorem c_M_findBad_16 {xs : jx_Xs} {m : zM} {Q : Option Value → zM → Prop} {l1 l2 l3 l4 : Int32} {o5 o6 o7 : Option Value}
    (b1 : (¬ m 131 5 ≤ l4) → vp_in l1 6)
    (b2 : (¬ m 131 5 ≤ l4) → (¬ m 155 l1.toNatClampNeg < 0) → vp_in l1 6)
    (b3 : (¬ m 131 5 ≤ l4) → (¬ m 155 l1.toNatClampNeg < 0) → vp_in l1 6)
    (b4 : (¬ m 131 5 ≤ l4) → (¬ m 155 l1.toNatClampNeg < 0) → vp_in l1 6)
    (b5 : (¬ m 131 5 ≤ l4) → (¬ m 155 l1.toNatClampNeg < 0) → vp_in l1 6)
    (b6 : (¬ m 131 5 ≤ l4) → (¬ m 155 l1.toNatClampNeg < 0) → vp_in l4 24)
    (b7 : (¬ m 131 5 ≤ l4) → (¬ m 155 l1.toNatClampNeg < 0) → (m 135 l4.toNatClampNeg = (m 155 l1.toNatClampNeg)) → vp_in l4 24)
    (b8 : (¬ m 131 5 ≤ l4) → (¬ m 155 l1.toNatClampNeg < 0) → (m 135 l4.toNatClampNeg = (m 155 l1.toNatClampNeg)) → (m 137 l4.toNatClampNeg = f_M_value m (m 157 l1.toNatClampNeg) l2) → (¬ (m 155 l1.toNatClampNeg) = 0) → ((m 155 l1.toNatClampNeg) = 1) → vp_in l4 24)
    (b9 : (¬ m 131 5 ≤ l4) → (¬ m 155 l1.toNatClampNeg < 0) → (m 135 l4.toNatClampNeg = (m 155 l1.toNatClampNeg)) → (m 137 l4.toNatClampNeg = f_M_value m (m 157 l1.toNatClampNeg) l2) → ((m 155 l1.toNatClampNeg) = 0) → vp_in l4 24)
    (b10 : (¬ m 131 5 ≤ l4) → (¬ m 155 l1.toNatClampNeg < 0) → (m 135 l4.toNatClampNeg = (m 155 l1.toNatClampNeg)) → (m 137 l4.toNatClampNeg = f_M_value m (m 157 l1.toNatClampNeg) l2) → ((m 155 l1.toNatClampNeg) = 0) → (m 136 l4.toNatClampNeg = (m 156 l1.toNatClampNeg)) → ((m 155 l1.toNatClampNeg) = 1) → vp_in l4 24)
    (g1 : (m 131 5 ≤ l4) → ez xs 149 7 [some (.ref 131), some (.int l1), some (.int l2), some (.int (l3 + 1)), some (.int l4), o5, o6, o7] [] m Q)
    (g2 : (¬ m 131 5 ≤ l4) → (m 155 l1.toNatClampNeg < 0) → ez xs 149 78 [some (.ref 131), some (.int l1), some (.int l2), some (.int l3), some (.int l4), some (.int 0), some (.int 0), o7] [] m Q)
    (g3 : (¬ m 131 5 ≤ l4) → (¬ m 155 l1.toNatClampNeg < 0) → (f_M_like m l4 (m 155 l1.toNatClampNeg) (m 156 l1.toNatClampNeg) (m 157 l1.toNatClampNeg) (m 158 l1.toNatClampNeg) l2 = 0) → ez xs 149 78 [some (.ref 131), some (.int l1), some (.int l2), some (.int l3), some (.int l4), some (.int 0), some (.int 0), o7] [] m Q)
    (g4 : (¬ m 131 5 ≤ l4) → (¬ m 155 l1.toNatClampNeg < 0) → (¬ f_M_like m l4 (m 155 l1.toNatClampNeg) (m 156 l1.toNatClampNeg) (m 157 l1.toNatClampNeg) (m 158 l1.toNatClampNeg) l2 = 0) → ez xs 149 78 [some (.ref 131), some (.int l1), some (.int l2), some (.int l3), some (.int l4), some (.int 1), some (.int 0), o7] [] m Q) : ez xs 149 16 [some (.ref 131), some (.int l1), some (.int l2), some (.int l3), some (.int l4), o5, o6, o7] [] m Q := by
  refine ez_blk 3 rfl ?_
  show ez xs 149 22 [some (.ref 131), some (.int l1), some (.int l2), some (.int l3), some (.int l4), o5, o6, o7] [.int (m 131 5), .int l4] m Q
  refine ez_icmp_ge rfl (fun h1 => ?_) (fun h1 => ?_)
  · show ez xs 149 191 [some (.ref 131), some (.int l1), some (.int l2), some (.int l3), some (.int l4), o5, o6, o7] [] m Q
    refine ez_blk 2 rfl ?_
    show ez xs 149 7 [some (.ref 131), some (.int l1), some (.int l2), some (.int (l3 + 1)), some (.int l4), o5, o6, o7] [] m Q
    exact g1 h1
  · show ez xs 149 25 [some (.ref 131), some (.int l1), some (.int l2), some (.int l3), some (.int l4), o5, o6, o7] [] m Q
    refine ez_blk 3 rfl ?_
    show ez xs 149 30 [some (.ref 131), some (.int l1), some (.int l2), some (.int l3), some (.int l4), o5, o6, o7] [.int l1, .ref 155] m Q
    refine ez_ialdv rfl (by decide) rfl (b1 h1) ?_
    show ez xs 149 31 [some (.ref 131), some (.int l1), some (.int l2), some (.int l3), some (.int l4), o5, o6, o7] [.int (m 155 l1.toNatClampNeg)] m Q
    refine ez_if_lt rfl (fun h2 => ?_) (fun h2 => ?_)
    · show ez xs 149 72 [some (.ref 131), some (.int l1), some (.int l2), some (.int l3), some (.int l4), o5, o6, o7] [] m Q
      refine ez_blk 4 rfl ?_
      show ez xs 149 78 [some (.ref 131), some (.int l1), some (.int l2), some (.int l3), some (.int l4), some (.int 0), some (.int 0), o7] [] m Q
      exact g2 h1 h2
    · show ez xs 149 34 [some (.ref 131), some (.int l1), some (.int l2), some (.int l3), some (.int l4), o5, o6, o7] [] m Q
      refine ez_blk 5 rfl ?_
      show ez xs 149 42 [some (.ref 131), some (.int l1), some (.int l2), some (.int l3), some (.int l4), o5, o6, o7] [.int l1, .ref 155, .int l4, .ref 131] m Q
      refine ez_ialdv rfl (by decide) rfl (b2 h1 h2) ?_
      show ez xs 149 43 [some (.ref 131), some (.int l1), some (.int l2), some (.int l3), some (.int l4), o5, o6, o7] [.int (m 155 l1.toNatClampNeg), .int l4, .ref 131] m Q
      refine ez_blk 3 rfl ?_
      show ez xs 149 48 [some (.ref 131), some (.int l1), some (.int l2), some (.int l3), some (.int l4), o5, o6, o7] [.int l1, .ref 156, .int (m 155 l1.toNatClampNeg), .int l4, .ref 131] m Q
      refine ez_ialdv rfl (by decide) rfl (b3 h1 h2) ?_
      show ez xs 149 49 [some (.ref 131), some (.int l1), some (.int l2), some (.int l3), some (.int l4), o5, o6, o7] [.int (m 156 l1.toNatClampNeg), .int (m 155 l1.toNatClampNeg), .int l4, .ref 131] m Q
      refine ez_blk 3 rfl ?_
      show ez xs 149 54 [some (.ref 131), some (.int l1), some (.int l2), some (.int l3), some (.int l4), o5, o6, o7] [.int l1, .ref 157, .int (m 156 l1.toNatClampNeg), .int (m 155 l1.toNatClampNeg), .int l4, .ref 131] m Q
      refine ez_ialdv rfl (by decide) rfl (b4 h1 h2) ?_
      show ez xs 149 55 [some (.ref 131), some (.int l1), some (.int l2), some (.int l3), some (.int l4), o5, o6, o7] [.int (m 157 l1.toNatClampNeg), .int (m 156 l1.toNatClampNeg), .int (m 155 l1.toNatClampNeg), .int l4, .ref 131] m Q
      refine ez_blk 3 rfl ?_
      show ez xs 149 60 [some (.ref 131), some (.int l1), some (.int l2), some (.int l3), some (.int l4), o5, o6, o7] [.int l1, .ref 158, .int (m 157 l1.toNatClampNeg), .int (m 156 l1.toNatClampNeg), .int (m 155 l1.toNatClampNeg), .int l4, .ref 131] m Q
      refine ez_ialdv rfl (by decide) rfl (b5 h1 h2) ?_
      show ez xs 149 61 [some (.ref 131), some (.int l1), some (.int l2), some (.int l3), some (.int l4), o5, o6, o7] [.int (m 158 l1.toNatClampNeg), .int (m 157 l1.toNatClampNeg), .int (m 156 l1.toNatClampNeg), .int (m 155 l1.toNatClampNeg), .int l4, .ref 131] m Q
      refine ez_blk 1 rfl ?_
      show ez xs 149 62 [some (.ref 131), some (.int l1), some (.int l2), some (.int l3), some (.int l4), o5, o6, o7] [.int l2, .int (m 158 l1.toNatClampNeg), .int (m 157 l1.toNatClampNeg), .int (m 156 l1.toNatClampNeg), .int (m 155 l1.toNatClampNeg), .int l4, .ref 131] m Q
      refine ez_call (as := [.ref 131, .int l4, .int (m 155 l1.toNatClampNeg), .int (m 156 l1.toNatClampNeg), .int (m 157 l1.toNatClampNeg), .int (m 158 l1.toNatClampNeg), .int l2]) (rest := []) rfl (by decide) rfl ?_
      refine d_M_like (b6 h1 h2) (fun h3 => b7 h1 h2 h3) (fun h4 h5 h6 h7 => b8 h1 h2 h4 h5 h6 h7) (fun h8 h9 h10 => b9 h1 h2 h8 h9 h10) (fun h11 h12 h13 h14 h15 => b10 h1 h2 h11 h12 h13 h14 h15) ?_
      show ez xs 149 65 [some (.ref 131), some (.int l1), some (.int l2), some (.int l3), some (.int l4), o5, o6, o7] [.int (f_M_like m l4 (m 155 l1.toNatClampNeg) (m 156 l1.toNatClampNeg) (m 157 l1.toNatClampNeg) (m 158 l1.toNatClampNeg) l2)] m Q
      refine ez_if_eq rfl (fun h16 => ?_) (fun h16 => ?_)
      · show ez xs 149 72 [some (.ref 131), some (.int l1), some (.int l2), some (.int l3), some (.int l4), o5, o6, o7] [] m Q
        refine ez_blk 4 rfl ?_
        show ez xs 149 78 [some (.ref 131), some (.int l1), some (.int l2), some (.int l3), some (.int l4), some (.int 0), some (.int 0), o7] [] m Q
        exact g3 h1 h2 h16
      · show ez xs 149 68 [some (.ref 131), some (.int l1), some (.int l2), some (.int l3), some (.int l4), o5, o6, o7] [] m Q
        refine ez_blk 5 rfl ?_
        show ez xs 149 78 [some (.ref 131), some (.int l1), some (.int l2), some (.int l3), some (.int l4), some (.int 1), some (.int 0), o7] [] m Q
        exact g4 h1 h2 h16
set_option maxRecDepth 100000 in
set_option maxHeartbeats 2000000 in
theorem c_M_findBad_78 {xs : jx_Xs} {m : zM} {Q : Option Value → zM → Prop} {l1 l2 l3 l4 l5 l6 : Int32} {o7 : Option Value}
    (b1 : (2 ≤ l6) → (¬ l5 = 0) → vp_in (l1 + 1) 6)
    (b2 : (¬ 2 ≤ l6) → vp_in (((2 : Int32) * l4) + l6) 48)
    (g1 : (2 ≤ l6) → (l5 = 0) → ez xs 149 16 [some (.ref 131), some (.int l1), some (.int l2), some (.int l3), some (.int (l4 + 1)), some (.int l5), some (.int l6), o7] [] (jj_up m 131 40 (m 131 40)) Q)
    (g2 : (2 ≤ l6) → (¬ l5 = 0) → (¬ f_M_has m (m 164 (l1 + 1).toNatClampNeg) l4 = 0) → ez xs 149 16 [some (.ref 131), some (.int l1), some (.int l2), some (.int l3), some (.int (l4 + 1)), some (.int l5), some (.int l6), o7] [] (jj_up m 131 40 (m 131 40)) Q)
    (g3 : (2 ≤ l6) → (¬ l5 = 0) → (f_M_has m (m 164 (l1 + 1).toNatClampNeg) l4 = 0) → ez xs 149 16 [some (.ref 131), some (.int l1), some (.int l2), some (.int l3), some (.int (l4 + 1)), some (.int l5), some (.int l6), o7] [] (jj_up m 131 40 ((m 131 40) ||| ((1 : Int32) <<< (l4 &&& 31)))) Q)
    (g4 : (¬ 2 ≤ l6) → (¬ l5 = 0) → ez xs 149 78 [some (.ref 131), some (.int l1), some (.int l2), some (.int l3), some (.int l4), some (.int 1), some (.int (l6 + 1)), some (.int (m 145 (((2 : Int32) * l4) + l6).toNatClampNeg))] [] m Q)
    (g5 : (¬ 2 ≤ l6) → (l5 = 0) → (m 145 (((2 : Int32) * l4) + l6).toNatClampNeg = m 131 5) → ez xs 149 78 [some (.ref 131), some (.int l1), some (.int l2), some (.int l3), some (.int l4), some (.int 1), some (.int (l6 + 1)), some (.int (m 145 (((2 : Int32) * l4) + l6).toNatClampNeg))] [] m Q)
    (g6 : (¬ 2 ≤ l6) → (l5 = 0) → (¬ m 145 (((2 : Int32) * l4) + l6).toNatClampNeg = m 131 5) → (m 145 (((2 : Int32) * l4) + l6).toNatClampNeg < 0) → ez xs 149 78 [some (.ref 131), some (.int l1), some (.int l2), some (.int l3), some (.int l4), some (.int 0), some (.int (l6 + 1)), some (.int (m 145 (((2 : Int32) * l4) + l6).toNatClampNeg))] [] m Q)
    (g7 : (¬ 2 ≤ l6) → (l5 = 0) → (¬ m 145 (((2 : Int32) * l4) + l6).toNatClampNeg = m 131 5) → (¬ m 145 (((2 : Int32) * l4) + l6).toNatClampNeg < 0) → (f_M_has m (m 131 40) (m 145 (((2 : Int32) * l4) + l6).toNatClampNeg) = 0) → ez xs 149 78 [some (.ref 131), some (.int l1), some (.int l2), some (.int l3), some (.int l4), some (.int 0), some (.int (l6 + 1)), some (.int (m 145 (((2 : Int32) * l4) + l6).toNatClampNeg))] [] m Q)
    (g8 : (¬ 2 ≤ l6) → (l5 = 0) → (¬ m 145 (((2 : Int32) * l4) + l6).toNatClampNeg = m 131 5) → (¬ m 145 (((2 : Int32) * l4) + l6).toNatClampNeg < 0) → (¬ f_M_has m (m 131 40) (m 145 (((2 : Int32) * l4) + l6).toNatClampNeg) = 0) → ez xs 149 78 [some (.ref 131), some (.int l1), some (.int l2), some (.int l3), some (.int l4), some (.int 1), some (.int (l6 + 1)), some (.int (m 145 (((2 : Int32) * l4) + l6).toNatClampNeg))] [] m Q) : ez xs 149 78 [some (.ref 131), some (.int l1), some (.int l2), some (.int l3), some (.int l4), some (.int l5), some (.int l6), o7] [] m Q := by
  refine ez_blk 2 rfl ?_
  show ez xs 149 81 [some (.ref 131), some (.int l1), some (.int l2), some (.int l3), some (.int l4), some (.int l5), some (.int l6), o7] [.int 2, .int l6] m Q
  refine ez_icmp_ge rfl (fun h1 => ?_) (fun h1 => ?_)
  · show ez xs 149 143 [some (.ref 131), some (.int l1), some (.int l2), some (.int l3), some (.int l4), some (.int l5), some (.int l6), o7] [] m Q
    refine ez_blk 2 rfl ?_
    show ez xs 149 146 [some (.ref 131), some (.int l1), some (.int l2), some (.int l3), some (.int l4), some (.int l5), some (.int l6), o7] [.int l5, .ref 131] m Q
    refine ez_if_eq rfl (fun h2 => ?_) (fun h2 => ?_)
    · show ez xs 149 178 [some (.ref 131), some (.int l1), some (.int l2), some (.int l3), some (.int l4), some (.int l5), some (.int l6), o7] [.ref 131] m Q
      refine ez_blk 5 rfl ?_
      show ez xs 149 16 [some (.ref 131), some (.int l1), some (.int l2), some (.int l3), some (.int (l4 + 1)), some (.int l5), some (.int l6), o7] [] (jj_up m 131 40 (m 131 40)) Q
      exact g1 h1 h2
    · show ez xs 149 149 [some (.ref 131), some (.int l1), some (.int l2), some (.int l3), some (.int l4), some (.int l5), some (.int l6), o7] [.ref 131] m Q
      refine ez_blk 6 rfl ?_
      show ez xs 149 157 [some (.ref 131), some (.int l1), some (.int l2), some (.int l3), some (.int l4), some (.int l5), some (.int l6), o7] [.int (l1 + 1), .ref 164, .ref 131, .ref 131] m Q
      refine ez_ialdv rfl (by decide) rfl (b1 h1 h2) ?_
      show ez xs 149 158 [some (.ref 131), some (.int l1), some (.int l2), some (.int l3), some (.int l4), some (.int l5), some (.int l6), o7] [.int (m 164 (l1 + 1).toNatClampNeg), .ref 131, .ref 131] m Q
      refine ez_blk 1 rfl ?_
      show ez xs 149 160 [some (.ref 131), some (.int l1), some (.int l2), some (.int l3), some (.int l4), some (.int l5), some (.int l6), o7] [.int l4, .int (m 164 (l1 + 1).toNatClampNeg), .ref 131, .ref 131] m Q
      refine ez_call (as := [.ref 131, .int (m 164 (l1 + 1).toNatClampNeg), .int l4]) (rest := [.ref 131]) rfl (by decide) rfl ?_
      refine d_M_has ?_
      show ez xs 149 163 [some (.ref 131), some (.int l1), some (.int l2), some (.int l3), some (.int l4), some (.int l5), some (.int l6), o7] [.int (f_M_has m (m 164 (l1 + 1).toNatClampNeg) l4), .ref 131] m Q
      refine ez_if_ne rfl (fun h3 => ?_) (fun h3 => ?_)
      · show ez xs 149 178 [some (.ref 131), some (.int l1), some (.int l2), some (.int l3), some (.int l4), some (.int l5), some (.int l6), o7] [.ref 131] m Q
        refine ez_blk 5 rfl ?_
        show ez xs 149 16 [some (.ref 131), some (.int l1), some (.int l2), some (.int l3), some (.int (l4 + 1)), some (.int l5), some (.int l6), o7] [] (jj_up m 131 40 (m 131 40)) Q
        exact g2 h1 h2 h3
      · show ez xs 149 166 [some (.ref 131), some (.int l1), some (.int l2), some (.int l3), some (.int l4), some (.int l5), some (.int l6), o7] [.ref 131] m Q
        refine ez_blk 10 rfl ?_
        show ez xs 149 16 [some (.ref 131), some (.int l1), some (.int l2), some (.int l3), some (.int (l4 + 1)), some (.int l5), some (.int l6), o7] [] (jj_up m 131 40 ((m 131 40) ||| ((1 : Int32) <<< (l4 &&& 31)))) Q
        exact g3 h1 h2 h3
  · show ez xs 149 84 [some (.ref 131), some (.int l1), some (.int l2), some (.int l3), some (.int l4), some (.int l5), some (.int l6), o7] [] m Q
    refine ez_blk 7 rfl ?_
    show ez xs 149 95 [some (.ref 131), some (.int l1), some (.int l2), some (.int l3), some (.int l4), some (.int l5), some (.int l6), o7] [.int (((2 : Int32) * l4) + l6), .ref 145] m Q
    refine ez_ialdv rfl (by decide) rfl (b2 h1) ?_
    show ez xs 149 96 [some (.ref 131), some (.int l1), some (.int l2), some (.int l3), some (.int l4), some (.int l5), some (.int l6), o7] [.int (m 145 (((2 : Int32) * l4) + l6).toNatClampNeg)] m Q
    refine ez_blk 2 rfl ?_
    show ez xs 149 100 [some (.ref 131), some (.int l1), some (.int l2), some (.int l3), some (.int l4), some (.int l5), some (.int l6), some (.int (m 145 (((2 : Int32) * l4) + l6).toNatClampNeg))] [.int l5] m Q
    refine ez_if_ne rfl (fun h4 => ?_) (fun h4 => ?_)
    · show ez xs 149 130 [some (.ref 131), some (.int l1), some (.int l2), some (.int l3), some (.int l4), some (.int l5), some (.int l6), some (.int (m 145 (((2 : Int32) * l4) + l6).toNatClampNeg))] [] m Q
      refine ez_blk 5 rfl ?_
      show ez xs 149 78 [some (.ref 131), some (.int l1), some (.int l2), some (.int l3), some (.int l4), some (.int 1), some (.int (l6 + 1)), some (.int (m 145 (((2 : Int32) * l4) + l6).toNatClampNeg))] [] m Q
      exact g4 h1 h4
    · show ez xs 149 103 [some (.ref 131), some (.int l1), some (.int l2), some (.int l3), some (.int l4), some (.int l5), some (.int l6), some (.int (m 145 (((2 : Int32) * l4) + l6).toNatClampNeg))] [] m Q
      refine ez_blk 3 rfl ?_
      show ez xs 149 109 [some (.ref 131), some (.int l1), some (.int l2), some (.int l3), some (.int l4), some (.int l5), some (.int l6), some (.int (m 145 (((2 : Int32) * l4) + l6).toNatClampNeg))] [.int (m 131 5), .int (m 145 (((2 : Int32) * l4) + l6).toNatClampNeg)] m Q
      refine ez_icmp_eq rfl (fun h5 => ?_) (fun h5 => ?_)
      · show ez xs 149 130 [some (.ref 131), some (.int l1), some (.int l2), some (.int l3), some (.int l4), some (.int l5), some (.int l6), some (.int (m 145 (((2 : Int32) * l4) + l6).toNatClampNeg))] [] m Q
        refine ez_blk 5 rfl ?_
        show ez xs 149 78 [some (.ref 131), some (.int l1), some (.int l2), some (.int l3), some (.int l4), some (.int 1), some (.int (l6 + 1)), some (.int (m 145 (((2 : Int32) * l4) + l6).toNatClampNeg))] [] m Q
        exact g5 h1 h4 h5
      · show ez xs 149 112 [some (.ref 131), some (.int l1), some (.int l2), some (.int l3), some (.int l4), some (.int l5), some (.int l6), some (.int (m 145 (((2 : Int32) * l4) + l6).toNatClampNeg))] [] m Q
        refine ez_blk 1 rfl ?_
        show ez xs 149 114 [some (.ref 131), some (.int l1), some (.int l2), some (.int l3), some (.int l4), some (.int l5), some (.int l6), some (.int (m 145 (((2 : Int32) * l4) + l6).toNatClampNeg))] [.int (m 145 (((2 : Int32) * l4) + l6).toNatClampNeg)] m Q
        refine ez_if_lt rfl (fun h6 => ?_) (fun h6 => ?_)
        · show ez xs 149 134 [some (.ref 131), some (.int l1), some (.int l2), some (.int l3), some (.int l4), some (.int l5), some (.int l6), some (.int (m 145 (((2 : Int32) * l4) + l6).toNatClampNeg))] [] m Q
          refine ez_blk 4 rfl ?_
          show ez xs 149 78 [some (.ref 131), some (.int l1), some (.int l2), some (.int l3), some (.int l4), some (.int 0), some (.int (l6 + 1)), some (.int (m 145 (((2 : Int32) * l4) + l6).toNatClampNeg))] [] m Q
          exact g6 h1 h4 h5 h6
        · show ez xs 149 117 [some (.ref 131), some (.int l1), some (.int l2), some (.int l3), some (.int l4), some (.int l5), some (.int l6), some (.int (m 145 (((2 : Int32) * l4) + l6).toNatClampNeg))] [] m Q
          refine ez_blk 4 rfl ?_
          show ez xs 149 124 [some (.ref 131), some (.int l1), some (.int l2), some (.int l3), some (.int l4), some (.int l5), some (.int l6), some (.int (m 145 (((2 : Int32) * l4) + l6).toNatClampNeg))] [.int (m 145 (((2 : Int32) * l4) + l6).toNatClampNeg), .int (m 131 40), .ref 131] m Q
          refine ez_call (as := [.ref 131, .int (m 131 40), .int (m 145 (((2 : Int32) * l4) + l6).toNatClampNeg)]) (rest := []) rfl (by decide) rfl ?_
          refine d_M_has ?_
          show ez xs 149 127 [some (.ref 131), some (.int l1), some (.int l2), some (.int l3), some (.int l4), some (.int l5), some (.int l6), some (.int (m 145 (((2 : Int32) * l4) + l6).toNatClampNeg))] [.int (f_M_has m (m 131 40) (m 145 (((2 : Int32) * l4) + l6).toNatClampNeg))] m Q
          refine ez_if_eq rfl (fun h7 => ?_) (fun h7 => ?_)
          · show ez xs 149 134 [some (.ref 131), some (.int l1), some (.int l2), some (.int l3), some (.int l4), some (.int l5), some (.int l6), some (.int (m 145 (((2 : Int32) * l4) + l6).toNatClampNeg))] [] m Q
            refine ez_blk 4 rfl ?_
            show ez xs 149 78 [some (.ref 131), some (.int l1), some (.int l2), some (.int l3), some (.int l4), some (.int 0), some (.int (l6 + 1)), some (.int (m 145 (((2 : Int32) * l4) + l6).toNatClampNeg))] [] m Q
            exact g7 h1 h4 h5 h6 h7
          · show ez xs 149 130 [some (.ref 131), some (.int l1), some (.int l2), some (.int l3), some (.int l4), some (.int l5), some (.int l6), some (.int (m 145 (((2 : Int32) * l4) + l6).toNatClampNeg))] [] m Q
            refine ez_blk 5 rfl ?_
            show ez xs 149 78 [some (.ref 131), some (.int l1), some (.int l2), some (.int l3), some (.int l4), some (.int 1), some (.int (l6 + 1)), some (.int (m 145 (((2 : Int32) * l4) + l6).toNatClampNeg))] [] m Q
            exact g8 h1 h4 h5 h6 h7
set_option maxRecDepth 100000 in
set_option maxHeartbeats 2000000 in
theorem c_M_follows {xs : jx_Xs} {m : zM} {Q : Option Value → zM → Prop} {n k : Int32}
    (g1 : ez xs 150 5 [some (.ref 131), some (.int n), some (.int k), some (.int 1), some (.int 0), none] [] m Q) : ez xs 150 0 (jx_ent 150 [.ref 131, .int n, .int k]) [] m Q := by
  refine ez_blk 4 rfl ?_
  show ez xs 150 5 [some (.ref 131), some (.int n), some (.int k), some (.int 1), some (.int 0), none] [] m Q
  exact g1
set_option maxRecDepth 100000 in
set_option maxHeartbeats 2000000 in
theorem c_M_follows_5 {xs : jx_Xs} {m : zM} {Q : Option Value → zM → Prop} {l1 l2 l3 l4 : Int32} {o5 : Option Value}
    (b1 : (2 ≤ l4) → l3 = 0 ∨ l3 = 1)
    (b2 : (¬ 2 ≤ l4) → vp_in (((2 : Int32) * l1) + l4) 48)
    (b3 : (¬ 2 ≤ l4) → (¬ m 145 (((2 : Int32) * l1) + l4).toNatClampNeg = m 131 5) → (¬ m 145 (((2 : Int32) * l1) + l4).toNatClampNeg < 0) → (¬ l3 = 0) → vp_in l2 6)
    (b4 : (¬ 2 ≤ l4) → (¬ m 145 (((2 : Int32) * l1) + l4).toNatClampNeg = m 131 5) → (¬ m 145 (((2 : Int32) * l1) + l4).toNatClampNeg < 0) → (¬ l3 = 0) → (m 154 l2.toNatClampNeg = 0) → vp_in (l2 + 1) 6)
    (g1 : (2 ≤ l4) → Q (some (.int l3)) m)
    (g2 : (¬ 2 ≤ l4) → (¬ m 145 (((2 : Int32) * l1) + l4).toNatClampNeg = m 131 5) → (m 145 (((2 : Int32) * l1) + l4).toNatClampNeg < 0) → ez xs 150 5 [some (.ref 131), some (.int l1), some (.int l2), some (.int l3), some (.int (l4 + 1)), some (.int (m 145 (((2 : Int32) * l1) + l4).toNatClampNeg))] [] m Q)
    (g3 : (¬ 2 ≤ l4) → (¬ m 145 (((2 : Int32) * l1) + l4).toNatClampNeg = m 131 5) → (¬ m 145 (((2 : Int32) * l1) + l4).toNatClampNeg < 0) → (l3 = 0) → ez xs 150 5 [some (.ref 131), some (.int l1), some (.int l2), some (.int 0), some (.int (l4 + 1)), some (.int (m 145 (((2 : Int32) * l1) + l4).toNatClampNeg))] [] m Q)
    (g4 : (¬ 2 ≤ l4) → (¬ m 145 (((2 : Int32) * l1) + l4).toNatClampNeg = m 131 5) → (¬ m 145 (((2 : Int32) * l1) + l4).toNatClampNeg < 0) → (¬ l3 = 0) → (m 154 l2.toNatClampNeg = 0) → (f_M_has m (m 164 (l2 + 1).toNatClampNeg) (m 145 (((2 : Int32) * l1) + l4).toNatClampNeg) = 0) → ez xs 150 5 [some (.ref 131), some (.int l1), some (.int l2), some (.int 0), some (.int (l4 + 1)), some (.int (m 145 (((2 : Int32) * l1) + l4).toNatClampNeg))] [] m Q)
    (g5 : (¬ 2 ≤ l4) → (¬ m 145 (((2 : Int32) * l1) + l4).toNatClampNeg = m 131 5) → (¬ m 145 (((2 : Int32) * l1) + l4).toNatClampNeg < 0) → (¬ l3 = 0) → (m 154 l2.toNatClampNeg = 0) → (¬ f_M_has m (m 164 (l2 + 1).toNatClampNeg) (m 145 (((2 : Int32) * l1) + l4).toNatClampNeg) = 0) → ez xs 150 5 [some (.ref 131), some (.int l1), some (.int l2), some (.int 1), some (.int (l4 + 1)), some (.int (m 145 (((2 : Int32) * l1) + l4).toNatClampNeg))] [] m Q)
    (g6 : (¬ 2 ≤ l4) → (¬ m 145 (((2 : Int32) * l1) + l4).toNatClampNeg = m 131 5) → (¬ m 145 (((2 : Int32) * l1) + l4).toNatClampNeg < 0) → (¬ l3 = 0) → (¬ m 154 l2.toNatClampNeg = 0) → (¬ f_M_has m (m 131 40) (m 145 (((2 : Int32) * l1) + l4).toNatClampNeg) = 0) → ez xs 150 5 [some (.ref 131), some (.int l1), some (.int l2), some (.int 0), some (.int (l4 + 1)), some (.int (m 145 (((2 : Int32) * l1) + l4).toNatClampNeg))] [] m Q)
    (g7 : (¬ 2 ≤ l4) → (¬ m 145 (((2 : Int32) * l1) + l4).toNatClampNeg = m 131 5) → (¬ m 145 (((2 : Int32) * l1) + l4).toNatClampNeg < 0) → (¬ l3 = 0) → (¬ m 154 l2.toNatClampNeg = 0) → (f_M_has m (m 131 40) (m 145 (((2 : Int32) * l1) + l4).toNatClampNeg) = 0) → ez xs 150 5 [some (.ref 131), some (.int l1), some (.int l2), some (.int 1), some (.int (l4 + 1)), some (.int (m 145 (((2 : Int32) * l1) + l4).toNatClampNeg))] [] m Q)
    (g8 : (¬ 2 ≤ l4) → (m 145 (((2 : Int32) * l1) + l4).toNatClampNeg = m 131 5) → ez xs 150 5 [some (.ref 131), some (.int l1), some (.int l2), some (.int 0), some (.int (l4 + 1)), some (.int (m 145 (((2 : Int32) * l1) + l4).toNatClampNeg))] [] m Q) : ez xs 150 5 [some (.ref 131), some (.int l1), some (.int l2), some (.int l3), some (.int l4), o5] [] m Q := by
  refine ez_blk 2 rfl ?_
  show ez xs 150 8 [some (.ref 131), some (.int l1), some (.int l2), some (.int l3), some (.int l4), o5] [.int 2, .int l4] m Q
  refine ez_icmp_ge rfl (fun h1 => ?_) (fun h1 => ?_)
  · show ez xs 150 101 [some (.ref 131), some (.int l1), some (.int l2), some (.int l3), some (.int l4), o5] [] m Q
    refine ez_blk 1 rfl ?_
    show ez xs 150 102 [some (.ref 131), some (.int l1), some (.int l2), some (.int l3), some (.int l4), o5] [.int l3] m Q
    exact ez_retz rfl rfl (b1 h1) (g1 h1)
  · show ez xs 150 11 [some (.ref 131), some (.int l1), some (.int l2), some (.int l3), some (.int l4), o5] [] m Q
    refine ez_blk 7 rfl ?_
    show ez xs 150 21 [some (.ref 131), some (.int l1), some (.int l2), some (.int l3), some (.int l4), o5] [.int (((2 : Int32) * l1) + l4), .ref 145] m Q
    refine ez_ialdv rfl (by decide) rfl (b2 h1) ?_
    show ez xs 150 22 [some (.ref 131), some (.int l1), some (.int l2), some (.int l3), some (.int l4), o5] [.int (m 145 (((2 : Int32) * l1) + l4).toNatClampNeg)] m Q
    refine ez_blk 4 rfl ?_
    show ez xs 150 30 [some (.ref 131), some (.int l1), some (.int l2), some (.int l3), some (.int l4), some (.int (m 145 (((2 : Int32) * l1) + l4).toNatClampNeg))] [.int (m 131 5), .int (m 145 (((2 : Int32) * l1) + l4).toNatClampNeg)] m Q
    refine ez_icmp_ne rfl (fun h2 => ?_) (fun h2 => ?_)
    · show ez xs 150 38 [some (.ref 131), some (.int l1), some (.int l2), some (.int l3), some (.int l4), some (.int (m 145 (((2 : Int32) * l1) + l4).toNatClampNeg))] [] m Q
      refine ez_blk 1 rfl ?_
      show ez xs 150 40 [some (.ref 131), some (.int l1), some (.int l2), some (.int l3), some (.int l4), some (.int (m 145 (((2 : Int32) * l1) + l4).toNatClampNeg))] [.int (m 145 (((2 : Int32) * l1) + l4).toNatClampNeg)] m Q
      refine ez_if_lt rfl (fun h3 => ?_) (fun h3 => ?_)
      · show ez xs 150 95 [some (.ref 131), some (.int l1), some (.int l2), some (.int l3), some (.int l4), some (.int (m 145 (((2 : Int32) * l1) + l4).toNatClampNeg))] [] m Q
        refine ez_blk 2 rfl ?_
        show ez xs 150 5 [some (.ref 131), some (.int l1), some (.int l2), some (.int l3), some (.int (l4 + 1)), some (.int (m 145 (((2 : Int32) * l1) + l4).toNatClampNeg))] [] m Q
        exact g2 h1 h2 h3
      · show ez xs 150 43 [some (.ref 131), some (.int l1), some (.int l2), some (.int l3), some (.int l4), some (.int (m 145 (((2 : Int32) * l1) + l4).toNatClampNeg))] [] m Q
        refine ez_blk 1 rfl ?_
        show ez xs 150 44 [some (.ref 131), some (.int l1), some (.int l2), some (.int l3), some (.int l4), some (.int (m 145 (((2 : Int32) * l1) + l4).toNatClampNeg))] [.int l3] m Q
        refine ez_if_eq rfl (fun h4 => ?_) (fun h4 => ?_)
        · show ez xs 150 93 [some (.ref 131), some (.int l1), some (.int l2), some (.int l3), some (.int l4), some (.int (m 145 (((2 : Int32) * l1) + l4).toNatClampNeg))] [] m Q
          refine ez_blk 4 rfl ?_
          show ez xs 150 5 [some (.ref 131), some (.int l1), some (.int l2), some (.int 0), some (.int (l4 + 1)), some (.int (m 145 (((2 : Int32) * l1) + l4).toNatClampNeg))] [] m Q
          exact g3 h1 h2 h3 h4
        · show ez xs 150 47 [some (.ref 131), some (.int l1), some (.int l2), some (.int l3), some (.int l4), some (.int (m 145 (((2 : Int32) * l1) + l4).toNatClampNeg))] [] m Q
          refine ez_blk 3 rfl ?_
          show ez xs 150 52 [some (.ref 131), some (.int l1), some (.int l2), some (.int l3), some (.int l4), some (.int (m 145 (((2 : Int32) * l1) + l4).toNatClampNeg))] [.int l2, .ref 154] m Q
          refine ez_zaldv rfl (by decide) rfl (b3 h1 h2 h3 h4) ?_
          show ez xs 150 53 [some (.ref 131), some (.int l1), some (.int l2), some (.int l3), some (.int l4), some (.int (m 145 (((2 : Int32) * l1) + l4).toNatClampNeg))] [.int (m 154 l2.toNatClampNeg)] m Q
          refine ez_if_eq rfl (fun h5 => ?_) (fun h5 => ?_)
          · show ez xs 150 72 [some (.ref 131), some (.int l1), some (.int l2), some (.int l3), some (.int l4), some (.int (m 145 (((2 : Int32) * l1) + l4).toNatClampNeg))] [] m Q
            refine ez_blk 6 rfl ?_
            show ez xs 150 80 [some (.ref 131), some (.int l1), some (.int l2), some (.int l3), some (.int l4), some (.int (m 145 (((2 : Int32) * l1) + l4).toNatClampNeg))] [.int (l2 + 1), .ref 164, .ref 131] m Q
            refine ez_ialdv rfl (by decide) rfl (b4 h1 h2 h3 h4 h5) ?_
            show ez xs 150 81 [some (.ref 131), some (.int l1), some (.int l2), some (.int l3), some (.int l4), some (.int (m 145 (((2 : Int32) * l1) + l4).toNatClampNeg))] [.int (m 164 (l2 + 1).toNatClampNeg), .ref 131] m Q
            refine ez_blk 1 rfl ?_
            show ez xs 150 83 [some (.ref 131), some (.int l1), some (.int l2), some (.int l3), some (.int l4), some (.int (m 145 (((2 : Int32) * l1) + l4).toNatClampNeg))] [.int (m 145 (((2 : Int32) * l1) + l4).toNatClampNeg), .int (m 164 (l2 + 1).toNatClampNeg), .ref 131] m Q
            refine ez_call (as := [.ref 131, .int (m 164 (l2 + 1).toNatClampNeg), .int (m 145 (((2 : Int32) * l1) + l4).toNatClampNeg)]) (rest := []) rfl (by decide) rfl ?_
            refine d_M_has ?_
            show ez xs 150 86 [some (.ref 131), some (.int l1), some (.int l2), some (.int l3), some (.int l4), some (.int (m 145 (((2 : Int32) * l1) + l4).toNatClampNeg))] [.int (f_M_has m (m 164 (l2 + 1).toNatClampNeg) (m 145 (((2 : Int32) * l1) + l4).toNatClampNeg))] m Q
            refine ez_if_eq rfl (fun h6 => ?_) (fun h6 => ?_)
            · show ez xs 150 93 [some (.ref 131), some (.int l1), some (.int l2), some (.int l3), some (.int l4), some (.int (m 145 (((2 : Int32) * l1) + l4).toNatClampNeg))] [] m Q
              refine ez_blk 4 rfl ?_
              show ez xs 150 5 [some (.ref 131), some (.int l1), some (.int l2), some (.int 0), some (.int (l4 + 1)), some (.int (m 145 (((2 : Int32) * l1) + l4).toNatClampNeg))] [] m Q
              exact g4 h1 h2 h3 h4 h5 h6
            · show ez xs 150 89 [some (.ref 131), some (.int l1), some (.int l2), some (.int l3), some (.int l4), some (.int (m 145 (((2 : Int32) * l1) + l4).toNatClampNeg))] [] m Q
              refine ez_blk 5 rfl ?_
              show ez xs 150 5 [some (.ref 131), some (.int l1), some (.int l2), some (.int 1), some (.int (l4 + 1)), some (.int (m 145 (((2 : Int32) * l1) + l4).toNatClampNeg))] [] m Q
              exact g5 h1 h2 h3 h4 h5 h6
          · show ez xs 150 56 [some (.ref 131), some (.int l1), some (.int l2), some (.int l3), some (.int l4), some (.int (m 145 (((2 : Int32) * l1) + l4).toNatClampNeg))] [] m Q
            refine ez_blk 4 rfl ?_
            show ez xs 150 63 [some (.ref 131), some (.int l1), some (.int l2), some (.int l3), some (.int l4), some (.int (m 145 (((2 : Int32) * l1) + l4).toNatClampNeg))] [.int (m 145 (((2 : Int32) * l1) + l4).toNatClampNeg), .int (m 131 40), .ref 131] m Q
            refine ez_call (as := [.ref 131, .int (m 131 40), .int (m 145 (((2 : Int32) * l1) + l4).toNatClampNeg)]) (rest := []) rfl (by decide) rfl ?_
            refine d_M_has ?_
            show ez xs 150 66 [some (.ref 131), some (.int l1), some (.int l2), some (.int l3), some (.int l4), some (.int (m 145 (((2 : Int32) * l1) + l4).toNatClampNeg))] [.int (f_M_has m (m 131 40) (m 145 (((2 : Int32) * l1) + l4).toNatClampNeg))] m Q
            refine ez_if_ne rfl (fun h7 => ?_) (fun h7 => ?_)
            · show ez xs 150 93 [some (.ref 131), some (.int l1), some (.int l2), some (.int l3), some (.int l4), some (.int (m 145 (((2 : Int32) * l1) + l4).toNatClampNeg))] [] m Q
              refine ez_blk 4 rfl ?_
              show ez xs 150 5 [some (.ref 131), some (.int l1), some (.int l2), some (.int 0), some (.int (l4 + 1)), some (.int (m 145 (((2 : Int32) * l1) + l4).toNatClampNeg))] [] m Q
              exact g6 h1 h2 h3 h4 h5 h7
            · show ez xs 150 69 [some (.ref 131), some (.int l1), some (.int l2), some (.int l3), some (.int l4), some (.int (m 145 (((2 : Int32) * l1) + l4).toNatClampNeg))] [] m Q
              refine ez_blk 6 rfl ?_
              show ez xs 150 5 [some (.ref 131), some (.int l1), some (.int l2), some (.int 1), some (.int (l4 + 1)), some (.int (m 145 (((2 : Int32) * l1) + l4).toNatClampNeg))] [] m Q
              exact g7 h1 h2 h3 h4 h5 h7
    · show ez xs 150 33 [some (.ref 131), some (.int l1), some (.int l2), some (.int l3), some (.int l4), some (.int (m 145 (((2 : Int32) * l1) + l4).toNatClampNeg))] [] m Q
      refine ez_blk 5 rfl ?_
      show ez xs 150 5 [some (.ref 131), some (.int l1), some (.int l2), some (.int 0), some (.int (l4 + 1)), some (.int (m 145 (((2 : Int32) * l1) + l4).toNatClampNeg))] [] m Q
      exact g8 h1 h2
set_option maxRecDepth 100000 in
set_option maxHeartbeats 2000000 in
theorem c_M_behind {xs : jx_Xs} {m : zM} {Q : Option Value → zM → Prop} {s : Int32}
    (g1 : ez xs 159 4 [some (.ref 131), some (.int s), some (.int 0), some (.int 0), none, none] [] m Q) : ez xs 159 0 (jx_ent 159 [.ref 131, .int s]) [] m Q := by
  refine ez_blk 4 rfl ?_
  show ez xs 159 4 [some (.ref 131), some (.int s), some (.int 0), some (.int 0), none, none] [] m Q
  exact g1
set_option maxRecDepth 100000 in
set_option maxHeartbeats 2000000 in
theorem c_M_behind_4 {xs : jx_Xs} {m : zM} {Q : Option Value → zM → Prop} {l1 l2 l3 : Int32} {o4 o5 : Option Value}
    (g1 : (m 131 5 ≤ l3) → Q (some (.int l2)) m)
    (g2 : (¬ m 131 5 ≤ l3) → ez xs 159 15 [some (.ref 131), some (.int l1), some (.int l2), some (.int l3), some (.int 0), o5] [] m Q) : ez xs 159 4 [some (.ref 131), some (.int l1), some (.int l2), some (.int l3), o4, o5] [] m Q := by
  refine ez_blk 3 rfl ?_
  show ez xs 159 9 [some (.ref 131), some (.int l1), some (.int l2), some (.int l3), o4, o5] [.int (m 131 5), .int l3] m Q
  refine ez_icmp_ge rfl (fun h1 => ?_) (fun h1 => ?_)
  · show ez xs 159 80 [some (.ref 131), some (.int l1), some (.int l2), some (.int l3), o4, o5] [] m Q
    refine ez_blk 1 rfl ?_
    show ez xs 159 81 [some (.ref 131), some (.int l1), some (.int l2), some (.int l3), o4, o5] [.int l2] m Q
    exact ez_ret rfl (by decide) rfl (g1 h1)
  · show ez xs 159 12 [some (.ref 131), some (.int l1), some (.int l2), some (.int l3), o4, o5] [] m Q
    refine ez_blk 2 rfl ?_
    show ez xs 159 15 [some (.ref 131), some (.int l1), some (.int l2), some (.int l3), some (.int 0), o5] [] m Q
    exact g2 h1
set_option maxRecDepth 100000 in
set_option maxHeartbeats 2000000 in
theorem c_M_behind_15 {xs : jx_Xs} {m : zM} {Q : Option Value → zM → Prop} {l1 l2 l3 l4 : Int32} {o5 : Option Value}
    (b1 : (¬ 2 ≤ l4) → vp_in (((2 : Int32) * l3) + l4) 48)
    (g1 : (2 ≤ l4) → ez xs 159 4 [some (.ref 131), some (.int l1), some (.int l2), some (.int (l3 + 1)), some (.int l4), o5] [] m Q)
    (g2 : (¬ 2 ≤ l4) → (f_M_has m l1 l3 = 0) → ez xs 159 15 [some (.ref 131), some (.int l1), some (.int l2), some (.int l3), some (.int (l4 + 1)), some (.int (m 145 (((2 : Int32) * l3) + l4).toNatClampNeg))] [] m Q)
    (g3 : (¬ 2 ≤ l4) → (¬ f_M_has m l1 l3 = 0) → (m 145 (((2 : Int32) * l3) + l4).toNatClampNeg < 0) → ez xs 159 15 [some (.ref 131), some (.int l1), some (.int l2), some (.int l3), some (.int (l4 + 1)), some (.int (m 145 (((2 : Int32) * l3) + l4).toNatClampNeg))] [] m Q)
    (g4 : (¬ 2 ≤ l4) → (¬ f_M_has m l1 l3 = 0) → (¬ m 145 (((2 : Int32) * l3) + l4).toNatClampNeg < 0) → (m 131 5 ≤ m 145 (((2 : Int32) * l3) + l4).toNatClampNeg) → ez xs 159 15 [some (.ref 131), some (.int l1), some (.int l2), some (.int l3), some (.int (l4 + 1)), some (.int (m 145 (((2 : Int32) * l3) + l4).toNatClampNeg))] [] m Q)
    (g5 : (¬ 2 ≤ l4) → (¬ f_M_has m l1 l3 = 0) → (¬ m 145 (((2 : Int32) * l3) + l4).toNatClampNeg < 0) → (¬ m 131 5 ≤ m 145 (((2 : Int32) * l3) + l4).toNatClampNeg) → ez xs 159 15 [some (.ref 131), some (.int l1), some (.int (l2 ||| ((1 : Int32) <<< ((m 145 (((2 : Int32) * l3) + l4).toNatClampNeg) &&& 31)))), some (.int l3), some (.int (l4 + 1)), some (.int (m 145 (((2 : Int32) * l3) + l4).toNatClampNeg))] [] m Q) : ez xs 159 15 [some (.ref 131), some (.int l1), some (.int l2), some (.int l3), some (.int l4), o5] [] m Q := by
  refine ez_blk 2 rfl ?_
  show ez xs 159 18 [some (.ref 131), some (.int l1), some (.int l2), some (.int l3), some (.int l4), o5] [.int 2, .int l4] m Q
  refine ez_icmp_ge rfl (fun h1 => ?_) (fun h1 => ?_)
  · show ez xs 159 74 [some (.ref 131), some (.int l1), some (.int l2), some (.int l3), some (.int l4), o5] [] m Q
    refine ez_blk 2 rfl ?_
    show ez xs 159 4 [some (.ref 131), some (.int l1), some (.int l2), some (.int (l3 + 1)), some (.int l4), o5] [] m Q
    exact g1 h1
  · show ez xs 159 21 [some (.ref 131), some (.int l1), some (.int l2), some (.int l3), some (.int l4), o5] [] m Q
    refine ez_blk 7 rfl ?_
    show ez xs 159 31 [some (.ref 131), some (.int l1), some (.int l2), some (.int l3), some (.int l4), o5] [.int (((2 : Int32) * l3) + l4), .ref 145] m Q
    refine ez_ialdv rfl (by decide) rfl (b1 h1) ?_
    show ez xs 159 32 [some (.ref 131), some (.int l1), some (.int l2), some (.int l3), some (.int l4), o5] [.int (m 145 (((2 : Int32) * l3) + l4).toNatClampNeg)] m Q
    refine ez_blk 4 rfl ?_
    show ez xs 159 37 [some (.ref 131), some (.int l1), some (.int l2), some (.int l3), some (.int l4), some (.int (m 145 (((2 : Int32) * l3) + l4).toNatClampNeg))] [.int l3, .int l1, .ref 131] m Q
    refine ez_call (as := [.ref 131, .int l1, .int l3]) (rest := []) rfl (by decide) rfl ?_
    refine d_M_has ?_
    show ez xs 159 40 [some (.ref 131), some (.int l1), some (.int l2), some (.int l3), some (.int l4), some (.int (m 145 (((2 : Int32) * l3) + l4).toNatClampNeg))] [.int (f_M_has m l1 l3)] m Q
    refine ez_if_eq rfl (fun h2 => ?_) (fun h2 => ?_)
    · show ez xs 159 66 [some (.ref 131), some (.int l1), some (.int l2), some (.int l3), some (.int l4), some (.int (m 145 (((2 : Int32) * l3) + l4).toNatClampNeg))] [] m Q
      refine ez_blk 4 rfl ?_
      show ez xs 159 15 [some (.ref 131), some (.int l1), some (.int l2), some (.int l3), some (.int (l4 + 1)), some (.int (m 145 (((2 : Int32) * l3) + l4).toNatClampNeg))] [] m Q
      exact g2 h1 h2
    · show ez xs 159 43 [some (.ref 131), some (.int l1), some (.int l2), some (.int l3), some (.int l4), some (.int (m 145 (((2 : Int32) * l3) + l4).toNatClampNeg))] [] m Q
      refine ez_blk 1 rfl ?_
      show ez xs 159 45 [some (.ref 131), some (.int l1), some (.int l2), some (.int l3), some (.int l4), some (.int (m 145 (((2 : Int32) * l3) + l4).toNatClampNeg))] [.int (m 145 (((2 : Int32) * l3) + l4).toNatClampNeg)] m Q
      refine ez_if_lt rfl (fun h3 => ?_) (fun h3 => ?_)
      · show ez xs 159 66 [some (.ref 131), some (.int l1), some (.int l2), some (.int l3), some (.int l4), some (.int (m 145 (((2 : Int32) * l3) + l4).toNatClampNeg))] [] m Q
        refine ez_blk 4 rfl ?_
        show ez xs 159 15 [some (.ref 131), some (.int l1), some (.int l2), some (.int l3), some (.int (l4 + 1)), some (.int (m 145 (((2 : Int32) * l3) + l4).toNatClampNeg))] [] m Q
        exact g3 h1 h2 h3
      · show ez xs 159 48 [some (.ref 131), some (.int l1), some (.int l2), some (.int l3), some (.int l4), some (.int (m 145 (((2 : Int32) * l3) + l4).toNatClampNeg))] [] m Q
        refine ez_blk 3 rfl ?_
        show ez xs 159 54 [some (.ref 131), some (.int l1), some (.int l2), some (.int l3), some (.int l4), some (.int (m 145 (((2 : Int32) * l3) + l4).toNatClampNeg))] [.int (m 131 5), .int (m 145 (((2 : Int32) * l3) + l4).toNatClampNeg)] m Q
        refine ez_icmp_ge rfl (fun h4 => ?_) (fun h4 => ?_)
        · show ez xs 159 66 [some (.ref 131), some (.int l1), some (.int l2), some (.int l3), some (.int l4), some (.int (m 145 (((2 : Int32) * l3) + l4).toNatClampNeg))] [] m Q
          refine ez_blk 4 rfl ?_
          show ez xs 159 15 [some (.ref 131), some (.int l1), some (.int l2), some (.int l3), some (.int (l4 + 1)), some (.int (m 145 (((2 : Int32) * l3) + l4).toNatClampNeg))] [] m Q
          exact g4 h1 h2 h3 h4
        · show ez xs 159 57 [some (.ref 131), some (.int l1), some (.int l2), some (.int l3), some (.int l4), some (.int (m 145 (((2 : Int32) * l3) + l4).toNatClampNeg))] [] m Q
          refine ez_blk 9 rfl ?_
          show ez xs 159 15 [some (.ref 131), some (.int l1), some (.int (l2 ||| ((1 : Int32) <<< ((m 145 (((2 : Int32) * l3) + l4).toNatClampNeg) &&& 31)))), some (.int l3), some (.int (l4 + 1)), some (.int (m 145 (((2 : Int32) * l3) + l4).toNatClampNeg))] [] m Q
          exact g5 h1 h2 h3 h4
set_option maxRecDepth 100000 in
set_option maxHeartbeats 2000000 in
theorem c_M_letter {xs : jx_Xs} {m : zM} {Q : Option Value → zM → Prop} {j b i : Int32}
    (b1 : vp_in j 12)
    (b2 : vp_in j 12)
    (b3 : (¬ m 160 j.toNatClampNeg = 0) → vp_in j 12)
    (b4 : (¬ m 160 j.toNatClampNeg = 0) → (m 160 j.toNatClampNeg = 1) → (¬ i = 0) → (¬ i = 1) → (i = 2) → vp_in j 12)
    (b5 : (m 160 j.toNatClampNeg = 0) → (i = 0) → vp_in j 12)
    (g1 : (¬ m 160 j.toNatClampNeg = 0) → (¬ m 160 j.toNatClampNeg = 1) → (¬ i = 0) → (¬ i = 1) → (¬ i = 2) → Q (some (.int 0)) m)
    (g2 : (¬ m 160 j.toNatClampNeg = 0) → (¬ m 160 j.toNatClampNeg = 1) → (¬ i = 0) → (¬ i = 1) → (i = 2) → Q (some (.int 59)) m)
    (g3 : (¬ m 160 j.toNatClampNeg = 0) → (¬ m 160 j.toNatClampNeg = 1) → (¬ i = 0) → (i = 1) → Q (some (.int ((97 : Int32) + (f_M_value m (m 162 j.toNatClampNeg) b)))) m)
    (g4 : (¬ m 160 j.toNatClampNeg = 0) → (¬ m 160 j.toNatClampNeg = 1) → (i = 0) → Q (some (.int 33)) m)
    (g5 : (¬ m 160 j.toNatClampNeg = 0) → (m 160 j.toNatClampNeg = 1) → (¬ i = 0) → (¬ i = 1) → (¬ i = 2) → (¬ i = 3) → Q (some (.int 0)) m)
    (g6 : (¬ m 160 j.toNatClampNeg = 0) → (m 160 j.toNatClampNeg = 1) → (¬ i = 0) → (¬ i = 1) → (¬ i = 2) → (i = 3) → Q (some (.int 59)) m)
    (g7 : (¬ m 160 j.toNatClampNeg = 0) → (m 160 j.toNatClampNeg = 1) → (¬ i = 0) → (¬ i = 1) → (i = 2) → Q (some (.int ((97 : Int32) + (f_M_value m (m 163 j.toNatClampNeg) b)))) m)
    (g8 : (¬ m 160 j.toNatClampNeg = 0) → (m 160 j.toNatClampNeg = 1) → (¬ i = 0) → (i = 1) → Q (some (.int 61)) m)
    (g9 : (¬ m 160 j.toNatClampNeg = 0) → (m 160 j.toNatClampNeg = 1) → (i = 0) → Q (some (.int ((97 : Int32) + (f_M_value m (m 162 j.toNatClampNeg) b)))) m)
    (g10 : (m 160 j.toNatClampNeg = 0) → (¬ i = 0) → (¬ i = 1) → (¬ i = 2) → (¬ i = 3) → (¬ i = 4) → Q (some (.int 0)) m)
    (g11 : (m 160 j.toNatClampNeg = 0) → (¬ i = 0) → (¬ i = 1) → (¬ i = 2) → (¬ i = 3) → (i = 4) → Q (some (.int 59)) m)
    (g12 : (m 160 j.toNatClampNeg = 0) → (¬ i = 0) → (¬ i = 1) → (¬ i = 2) → (i = 3) → Q (some (.int 41)) m)
    (g13 : (m 160 j.toNatClampNeg = 0) → (¬ i = 0) → (¬ i = 1) → (i = 2) → Q (some (.int ((97 : Int32) + (f_M_value m (m 162 j.toNatClampNeg) b)))) m)
    (g14 : (m 160 j.toNatClampNeg = 0) → (¬ i = 0) → (i = 1) → Q (some (.int 40)) m)
    (g15 : (m 160 j.toNatClampNeg = 0) → (i = 0) → Q (some (.int ((102 : Int32) + (m 161 j.toNatClampNeg)))) m) : ez xs 173 0 (jx_ent 173 [.ref 131, .int j, .int b, .int i]) [] m Q := by
  refine ez_blk 5 rfl ?_
  show ez xs 173 8 [some (.ref 131), some (.int j), some (.int b), some (.int i), none] [.int j, .ref 162, .ref 131, .int 97] m Q
  refine ez_ialdv rfl (by decide) rfl b1 ?_
  show ez xs 173 9 [some (.ref 131), some (.int j), some (.int b), some (.int i), none] [.int (m 162 j.toNatClampNeg), .ref 131, .int 97] m Q
  refine ez_blk 1 rfl ?_
  show ez xs 173 10 [some (.ref 131), some (.int j), some (.int b), some (.int i), none] [.int b, .int (m 162 j.toNatClampNeg), .ref 131, .int 97] m Q
  refine ez_call (as := [.ref 131, .int (m 162 j.toNatClampNeg), .int b]) (rest := [.int 97]) rfl (by decide) rfl ?_
  refine d_M_value ?_
  show ez xs 173 13 [some (.ref 131), some (.int j), some (.int b), some (.int i), none] [.int (f_M_value m (m 162 j.toNatClampNeg) b), .int 97] m Q
  refine ez_blk 5 rfl ?_
  show ez xs 173 21 [some (.ref 131), some (.int j), some (.int b), some (.int i), some (.int ((97 : Int32) + (f_M_value m (m 162 j.toNatClampNeg) b)))] [.int j, .ref 160] m Q
  refine ez_ialdv rfl (by decide) rfl b2 ?_
  show ez xs 173 22 [some (.ref 131), some (.int j), some (.int b), some (.int i), some (.int ((97 : Int32) + (f_M_value m (m 162 j.toNatClampNeg) b)))] [.int (m 160 j.toNatClampNeg)] m Q
  refine ez_if_ne rfl (fun h1 => ?_) (fun h1 => ?_)
  · show ez xs 173 83 [some (.ref 131), some (.int j), some (.int b), some (.int i), some (.int ((97 : Int32) + (f_M_value m (m 162 j.toNatClampNeg) b)))] [] m Q
    refine ez_blk 3 rfl ?_
    show ez xs 173 88 [some (.ref 131), some (.int j), some (.int b), some (.int i), some (.int ((97 : Int32) + (f_M_value m (m 162 j.toNatClampNeg) b)))] [.int j, .ref 160] m Q
    refine ez_ialdv rfl (by decide) rfl (b3 h1) ?_
    show ez xs 173 89 [some (.ref 131), some (.int j), some (.int b), some (.int i), some (.int ((97 : Int32) + (f_M_value m (m 162 j.toNatClampNeg) b)))] [.int (m 160 j.toNatClampNeg)] m Q
    refine ez_blk 1 rfl ?_
    show ez xs 173 90 [some (.ref 131), some (.int j), some (.int b), some (.int i), some (.int ((97 : Int32) + (f_M_value m (m 162 j.toNatClampNeg) b)))] [.int 1, .int (m 160 j.toNatClampNeg)] m Q
    refine ez_icmp_ne rfl (fun h2 => ?_) (fun h2 => ?_)
    · show ez xs 173 146 [some (.ref 131), some (.int j), some (.int b), some (.int i), some (.int ((97 : Int32) + (f_M_value m (m 162 j.toNatClampNeg) b)))] [] m Q
      refine ez_blk 1 rfl ?_
      show ez xs 173 147 [some (.ref 131), some (.int j), some (.int b), some (.int i), some (.int ((97 : Int32) + (f_M_value m (m 162 j.toNatClampNeg) b)))] [.int i] m Q
      refine ez_if_ne rfl (fun h3 => ?_) (fun h3 => ?_)
      · show ez xs 173 155 [some (.ref 131), some (.int j), some (.int b), some (.int i), some (.int ((97 : Int32) + (f_M_value m (m 162 j.toNatClampNeg) b)))] [] m Q
        refine ez_blk 2 rfl ?_
        show ez xs 173 157 [some (.ref 131), some (.int j), some (.int b), some (.int i), some (.int ((97 : Int32) + (f_M_value m (m 162 j.toNatClampNeg) b)))] [.int 1, .int i] m Q
        refine ez_icmp_ne rfl (fun h4 => ?_) (fun h4 => ?_)
        · show ez xs 173 165 [some (.ref 131), some (.int j), some (.int b), some (.int i), some (.int ((97 : Int32) + (f_M_value m (m 162 j.toNatClampNeg) b)))] [] m Q
          refine ez_blk 2 rfl ?_
          show ez xs 173 167 [some (.ref 131), some (.int j), some (.int b), some (.int i), some (.int ((97 : Int32) + (f_M_value m (m 162 j.toNatClampNeg) b)))] [.int 2, .int i] m Q
          refine ez_icmp_ne rfl (fun h5 => ?_) (fun h5 => ?_)
          · show ez xs 173 175 [some (.ref 131), some (.int j), some (.int b), some (.int i), some (.int ((97 : Int32) + (f_M_value m (m 162 j.toNatClampNeg) b)))] [] m Q
            refine ez_blk 1 rfl ?_
            show ez xs 173 176 [some (.ref 131), some (.int j), some (.int b), some (.int i), some (.int ((97 : Int32) + (f_M_value m (m 162 j.toNatClampNeg) b)))] [.int 0] m Q
            exact ez_ret rfl (by decide) rfl (g1 h1 h2 h3 h4 h5)
          · show ez xs 173 170 [some (.ref 131), some (.int j), some (.int b), some (.int i), some (.int ((97 : Int32) + (f_M_value m (m 162 j.toNatClampNeg) b)))] [] m Q
            refine ez_blk 2 rfl ?_
            show ez xs 173 176 [some (.ref 131), some (.int j), some (.int b), some (.int i), some (.int ((97 : Int32) + (f_M_value m (m 162 j.toNatClampNeg) b)))] [.int 59] m Q
            exact ez_ret rfl (by decide) rfl (g2 h1 h2 h3 h4 h5)
        · show ez xs 173 160 [some (.ref 131), some (.int j), some (.int b), some (.int i), some (.int ((97 : Int32) + (f_M_value m (m 162 j.toNatClampNeg) b)))] [] m Q
          refine ez_blk 2 rfl ?_
          show ez xs 173 176 [some (.ref 131), some (.int j), some (.int b), some (.int i), some (.int ((97 : Int32) + (f_M_value m (m 162 j.toNatClampNeg) b)))] [.int ((97 : Int32) + (f_M_value m (m 162 j.toNatClampNeg) b))] m Q
          exact ez_ret rfl (by decide) rfl (g3 h1 h2 h3 h4)
      · show ez xs 173 150 [some (.ref 131), some (.int j), some (.int b), some (.int i), some (.int ((97 : Int32) + (f_M_value m (m 162 j.toNatClampNeg) b)))] [] m Q
        refine ez_blk 2 rfl ?_
        show ez xs 173 176 [some (.ref 131), some (.int j), some (.int b), some (.int i), some (.int ((97 : Int32) + (f_M_value m (m 162 j.toNatClampNeg) b)))] [.int 33] m Q
        exact ez_ret rfl (by decide) rfl (g4 h1 h2 h3)
    · show ez xs 173 93 [some (.ref 131), some (.int j), some (.int b), some (.int i), some (.int ((97 : Int32) + (f_M_value m (m 162 j.toNatClampNeg) b)))] [] m Q
      refine ez_blk 1 rfl ?_
      show ez xs 173 94 [some (.ref 131), some (.int j), some (.int b), some (.int i), some (.int ((97 : Int32) + (f_M_value m (m 162 j.toNatClampNeg) b)))] [.int i] m Q
      refine ez_if_ne rfl (fun h6 => ?_) (fun h6 => ?_)
      · show ez xs 173 102 [some (.ref 131), some (.int j), some (.int b), some (.int i), some (.int ((97 : Int32) + (f_M_value m (m 162 j.toNatClampNeg) b)))] [] m Q
        refine ez_blk 2 rfl ?_
        show ez xs 173 104 [some (.ref 131), some (.int j), some (.int b), some (.int i), some (.int ((97 : Int32) + (f_M_value m (m 162 j.toNatClampNeg) b)))] [.int 1, .int i] m Q
        refine ez_icmp_ne rfl (fun h7 => ?_) (fun h7 => ?_)
        · show ez xs 173 112 [some (.ref 131), some (.int j), some (.int b), some (.int i), some (.int ((97 : Int32) + (f_M_value m (m 162 j.toNatClampNeg) b)))] [] m Q
          refine ez_blk 2 rfl ?_
          show ez xs 173 114 [some (.ref 131), some (.int j), some (.int b), some (.int i), some (.int ((97 : Int32) + (f_M_value m (m 162 j.toNatClampNeg) b)))] [.int 2, .int i] m Q
          refine ez_icmp_ne rfl (fun h8 => ?_) (fun h8 => ?_)
          · show ez xs 173 134 [some (.ref 131), some (.int j), some (.int b), some (.int i), some (.int ((97 : Int32) + (f_M_value m (m 162 j.toNatClampNeg) b)))] [] m Q
            refine ez_blk 2 rfl ?_
            show ez xs 173 136 [some (.ref 131), some (.int j), some (.int b), some (.int i), some (.int ((97 : Int32) + (f_M_value m (m 162 j.toNatClampNeg) b)))] [.int 3, .int i] m Q
            refine ez_icmp_ne rfl (fun h9 => ?_) (fun h9 => ?_)
            · show ez xs 173 144 [some (.ref 131), some (.int j), some (.int b), some (.int i), some (.int ((97 : Int32) + (f_M_value m (m 162 j.toNatClampNeg) b)))] [] m Q
              refine ez_blk 1 rfl ?_
              show ez xs 173 145 [some (.ref 131), some (.int j), some (.int b), some (.int i), some (.int ((97 : Int32) + (f_M_value m (m 162 j.toNatClampNeg) b)))] [.int 0] m Q
              exact ez_ret rfl (by decide) rfl (g5 h1 h2 h6 h7 h8 h9)
            · show ez xs 173 139 [some (.ref 131), some (.int j), some (.int b), some (.int i), some (.int ((97 : Int32) + (f_M_value m (m 162 j.toNatClampNeg) b)))] [] m Q
              refine ez_blk 2 rfl ?_
              show ez xs 173 145 [some (.ref 131), some (.int j), some (.int b), some (.int i), some (.int ((97 : Int32) + (f_M_value m (m 162 j.toNatClampNeg) b)))] [.int 59] m Q
              exact ez_ret rfl (by decide) rfl (g6 h1 h2 h6 h7 h8 h9)
          · show ez xs 173 117 [some (.ref 131), some (.int j), some (.int b), some (.int i), some (.int ((97 : Int32) + (f_M_value m (m 162 j.toNatClampNeg) b)))] [] m Q
            refine ez_blk 5 rfl ?_
            show ez xs 173 125 [some (.ref 131), some (.int j), some (.int b), some (.int i), some (.int ((97 : Int32) + (f_M_value m (m 162 j.toNatClampNeg) b)))] [.int j, .ref 163, .ref 131, .int 97] m Q
            refine ez_ialdv rfl (by decide) rfl (b4 h1 h2 h6 h7 h8) ?_
            show ez xs 173 126 [some (.ref 131), some (.int j), some (.int b), some (.int i), some (.int ((97 : Int32) + (f_M_value m (m 162 j.toNatClampNeg) b)))] [.int (m 163 j.toNatClampNeg), .ref 131, .int 97] m Q
            refine ez_blk 1 rfl ?_
            show ez xs 173 127 [some (.ref 131), some (.int j), some (.int b), some (.int i), some (.int ((97 : Int32) + (f_M_value m (m 162 j.toNatClampNeg) b)))] [.int b, .int (m 163 j.toNatClampNeg), .ref 131, .int 97] m Q
            refine ez_call (as := [.ref 131, .int (m 163 j.toNatClampNeg), .int b]) (rest := [.int 97]) rfl (by decide) rfl ?_
            refine d_M_value ?_
            show ez xs 173 130 [some (.ref 131), some (.int j), some (.int b), some (.int i), some (.int ((97 : Int32) + (f_M_value m (m 162 j.toNatClampNeg) b)))] [.int (f_M_value m (m 163 j.toNatClampNeg) b), .int 97] m Q
            refine ez_blk 2 rfl ?_
            show ez xs 173 145 [some (.ref 131), some (.int j), some (.int b), some (.int i), some (.int ((97 : Int32) + (f_M_value m (m 162 j.toNatClampNeg) b)))] [.int ((97 : Int32) + (f_M_value m (m 163 j.toNatClampNeg) b))] m Q
            exact ez_ret rfl (by decide) rfl (g7 h1 h2 h6 h7 h8)
        · show ez xs 173 107 [some (.ref 131), some (.int j), some (.int b), some (.int i), some (.int ((97 : Int32) + (f_M_value m (m 162 j.toNatClampNeg) b)))] [] m Q
          refine ez_blk 2 rfl ?_
          show ez xs 173 145 [some (.ref 131), some (.int j), some (.int b), some (.int i), some (.int ((97 : Int32) + (f_M_value m (m 162 j.toNatClampNeg) b)))] [.int 61] m Q
          exact ez_ret rfl (by decide) rfl (g8 h1 h2 h6 h7)
      · show ez xs 173 97 [some (.ref 131), some (.int j), some (.int b), some (.int i), some (.int ((97 : Int32) + (f_M_value m (m 162 j.toNatClampNeg) b)))] [] m Q
        refine ez_blk 2 rfl ?_
        show ez xs 173 145 [some (.ref 131), some (.int j), some (.int b), some (.int i), some (.int ((97 : Int32) + (f_M_value m (m 162 j.toNatClampNeg) b)))] [.int ((97 : Int32) + (f_M_value m (m 162 j.toNatClampNeg) b))] m Q
        exact ez_ret rfl (by decide) rfl (g9 h1 h2 h6)
  · show ez xs 173 25 [some (.ref 131), some (.int j), some (.int b), some (.int i), some (.int ((97 : Int32) + (f_M_value m (m 162 j.toNatClampNeg) b)))] [] m Q
    refine ez_blk 1 rfl ?_
    show ez xs 173 26 [some (.ref 131), some (.int j), some (.int b), some (.int i), some (.int ((97 : Int32) + (f_M_value m (m 162 j.toNatClampNeg) b)))] [.int i] m Q
    refine ez_if_ne rfl (fun h10 => ?_) (fun h10 => ?_)
    · show ez xs 173 41 [some (.ref 131), some (.int j), some (.int b), some (.int i), some (.int ((97 : Int32) + (f_M_value m (m 162 j.toNatClampNeg) b)))] [] m Q
      refine ez_blk 2 rfl ?_
      show ez xs 173 43 [some (.ref 131), some (.int j), some (.int b), some (.int i), some (.int ((97 : Int32) + (f_M_value m (m 162 j.toNatClampNeg) b)))] [.int 1, .int i] m Q
      refine ez_icmp_ne rfl (fun h11 => ?_) (fun h11 => ?_)
      · show ez xs 173 51 [some (.ref 131), some (.int j), some (.int b), some (.int i), some (.int ((97 : Int32) + (f_M_value m (m 162 j.toNatClampNeg) b)))] [] m Q
        refine ez_blk 2 rfl ?_
        show ez xs 173 53 [some (.ref 131), some (.int j), some (.int b), some (.int i), some (.int ((97 : Int32) + (f_M_value m (m 162 j.toNatClampNeg) b)))] [.int 2, .int i] m Q
        refine ez_icmp_ne rfl (fun h12 => ?_) (fun h12 => ?_)
        · show ez xs 173 61 [some (.ref 131), some (.int j), some (.int b), some (.int i), some (.int ((97 : Int32) + (f_M_value m (m 162 j.toNatClampNeg) b)))] [] m Q
          refine ez_blk 2 rfl ?_
          show ez xs 173 63 [some (.ref 131), some (.int j), some (.int b), some (.int i), some (.int ((97 : Int32) + (f_M_value m (m 162 j.toNatClampNeg) b)))] [.int 3, .int i] m Q
          refine ez_icmp_ne rfl (fun h13 => ?_) (fun h13 => ?_)
          · show ez xs 173 71 [some (.ref 131), some (.int j), some (.int b), some (.int i), some (.int ((97 : Int32) + (f_M_value m (m 162 j.toNatClampNeg) b)))] [] m Q
            refine ez_blk 2 rfl ?_
            show ez xs 173 73 [some (.ref 131), some (.int j), some (.int b), some (.int i), some (.int ((97 : Int32) + (f_M_value m (m 162 j.toNatClampNeg) b)))] [.int 4, .int i] m Q
            refine ez_icmp_ne rfl (fun h14 => ?_) (fun h14 => ?_)
            · show ez xs 173 81 [some (.ref 131), some (.int j), some (.int b), some (.int i), some (.int ((97 : Int32) + (f_M_value m (m 162 j.toNatClampNeg) b)))] [] m Q
              refine ez_blk 1 rfl ?_
              show ez xs 173 82 [some (.ref 131), some (.int j), some (.int b), some (.int i), some (.int ((97 : Int32) + (f_M_value m (m 162 j.toNatClampNeg) b)))] [.int 0] m Q
              exact ez_ret rfl (by decide) rfl (g10 h1 h10 h11 h12 h13 h14)
            · show ez xs 173 76 [some (.ref 131), some (.int j), some (.int b), some (.int i), some (.int ((97 : Int32) + (f_M_value m (m 162 j.toNatClampNeg) b)))] [] m Q
              refine ez_blk 2 rfl ?_
              show ez xs 173 82 [some (.ref 131), some (.int j), some (.int b), some (.int i), some (.int ((97 : Int32) + (f_M_value m (m 162 j.toNatClampNeg) b)))] [.int 59] m Q
              exact ez_ret rfl (by decide) rfl (g11 h1 h10 h11 h12 h13 h14)
          · show ez xs 173 66 [some (.ref 131), some (.int j), some (.int b), some (.int i), some (.int ((97 : Int32) + (f_M_value m (m 162 j.toNatClampNeg) b)))] [] m Q
            refine ez_blk 2 rfl ?_
            show ez xs 173 82 [some (.ref 131), some (.int j), some (.int b), some (.int i), some (.int ((97 : Int32) + (f_M_value m (m 162 j.toNatClampNeg) b)))] [.int 41] m Q
            exact ez_ret rfl (by decide) rfl (g12 h1 h10 h11 h12 h13)
        · show ez xs 173 56 [some (.ref 131), some (.int j), some (.int b), some (.int i), some (.int ((97 : Int32) + (f_M_value m (m 162 j.toNatClampNeg) b)))] [] m Q
          refine ez_blk 2 rfl ?_
          show ez xs 173 82 [some (.ref 131), some (.int j), some (.int b), some (.int i), some (.int ((97 : Int32) + (f_M_value m (m 162 j.toNatClampNeg) b)))] [.int ((97 : Int32) + (f_M_value m (m 162 j.toNatClampNeg) b))] m Q
          exact ez_ret rfl (by decide) rfl (g13 h1 h10 h11 h12)
      · show ez xs 173 46 [some (.ref 131), some (.int j), some (.int b), some (.int i), some (.int ((97 : Int32) + (f_M_value m (m 162 j.toNatClampNeg) b)))] [] m Q
        refine ez_blk 2 rfl ?_
        show ez xs 173 82 [some (.ref 131), some (.int j), some (.int b), some (.int i), some (.int ((97 : Int32) + (f_M_value m (m 162 j.toNatClampNeg) b)))] [.int 40] m Q
        exact ez_ret rfl (by decide) rfl (g14 h1 h10 h11)
    · show ez xs 173 29 [some (.ref 131), some (.int j), some (.int b), some (.int i), some (.int ((97 : Int32) + (f_M_value m (m 162 j.toNatClampNeg) b)))] [] m Q
      refine ez_blk 4 rfl ?_
      show ez xs 173 36 [some (.ref 131), some (.int j), some (.int b), some (.int i), some (.int ((97 : Int32) + (f_M_value m (m 162 j.toNatClampNeg) b)))] [.int j, .ref 161, .int 102] m Q
      refine ez_ialdv rfl (by decide) rfl (b5 h1 h10) ?_
      show ez xs 173 37 [some (.ref 131), some (.int j), some (.int b), some (.int i), some (.int ((97 : Int32) + (f_M_value m (m 162 j.toNatClampNeg) b)))] [.int (m 161 j.toNatClampNeg), .int 102] m Q
      refine ez_blk 2 rfl ?_
      show ez xs 173 82 [some (.ref 131), some (.int j), some (.int b), some (.int i), some (.int ((97 : Int32) + (f_M_value m (m 162 j.toNatClampNeg) b)))] [.int ((102 : Int32) + (m 161 j.toNatClampNeg))] m Q
      exact ez_ret rfl (by decide) rfl (g15 h1 h10)
def f_M_letter (m : zM) (j b i : Int32) : Int32 := if m 160 j.toNatClampNeg = 0 then if i = 0 then ((102 : Int32) + (m 161 j.toNatClampNeg)) else if i = 1 then 40 else if i = 2 then ((97 : Int32) + (f_M_value m (m 162 j.toNatClampNeg) b)) else if i = 3 then 41 else if i = 4 then 59 else 0 else if m 160 j.toNatClampNeg = 1 then if i = 0 then ((97 : Int32) + (f_M_value m (m 162 j.toNatClampNeg) b)) else if i = 1 then 61 else if i = 2 then ((97 : Int32) + (f_M_value m (m 163 j.toNatClampNeg) b)) else if i = 3 then 59 else 0 else if i = 0 then 33 else if i = 1 then ((97 : Int32) + (f_M_value m (m 162 j.toNatClampNeg) b)) else if i = 2 then 59 else 0
theorem d_M_letter {xs : jx_Xs} {m : zM} {Q : Option Value → zM → Prop} {j b i : Int32}
    (b1 : vp_in j 12)
    (b2 : vp_in j 12)
    (b3 : (¬ m 160 j.toNatClampNeg = 0) → vp_in j 12)
    (b4 : (¬ m 160 j.toNatClampNeg = 0) → (m 160 j.toNatClampNeg = 1) → (¬ i = 0) → (¬ i = 1) → (i = 2) → vp_in j 12)
    (b5 : (m 160 j.toNatClampNeg = 0) → (i = 0) → vp_in j 12)
    (g : Q (some (.int (f_M_letter m j b i))) m) : ez xs 173 0 (jx_ent 173 [.ref 131, .int j, .int b, .int i]) [] m Q := by
  refine c_M_letter b1 b2 b3 b4 b5 (fun e0 e1 e2 e3 e4 => by have q : f_M_letter m j b i = 0 := (by unfold f_M_letter; first | rw [if_neg e0, if_neg e1, if_neg e2, if_neg e3, if_neg e4] | simp only [if_neg e0, if_neg e1, if_neg e2, if_neg e3, if_neg e4] | simp [e0, e1, e2, e3, e4]); rw [q] at g; exact g) (fun e0 e1 e2 e3 e4 => by have q : f_M_letter m j b i = 59 := (by unfold f_M_letter; first | rw [if_neg e0, if_neg e1, if_neg e2, if_neg e3, if_pos e4] | simp only [if_neg e0, if_neg e1, if_neg e2, if_neg e3, if_pos e4] | simp [e0, e1, e2, e3, e4]); rw [q] at g; exact g) (fun e0 e1 e2 e3 => by have q : f_M_letter m j b i = ((97 : Int32) + (f_M_value m (m 162 j.toNatClampNeg) b)) := (by unfold f_M_letter; first | rw [if_neg e0, if_neg e1, if_neg e2, if_pos e3] | simp only [if_neg e0, if_neg e1, if_neg e2, if_pos e3] | simp [e0, e1, e2, e3]); rw [q] at g; exact g) (fun e0 e1 e2 => by have q : f_M_letter m j b i = 33 := (by unfold f_M_letter; first | rw [if_neg e0, if_neg e1, if_pos e2] | simp only [if_neg e0, if_neg e1, if_pos e2] | simp [e0, e1, e2]); rw [q] at g; exact g) (fun e0 e1 e2 e3 e4 e5 => by have q : f_M_letter m j b i = 0 := (by unfold f_M_letter; first | rw [if_neg e0, if_pos e1, if_neg e2, if_neg e3, if_neg e4, if_neg e5] | simp only [if_neg e0, if_pos e1, if_neg e2, if_neg e3, if_neg e4, if_neg e5] | simp [e0, e1, e2, e3, e4, e5]); rw [q] at g; exact g) (fun e0 e1 e2 e3 e4 e5 => by have q : f_M_letter m j b i = 59 := (by unfold f_M_letter; first | rw [if_neg e0, if_pos e1, if_neg e2, if_neg e3, if_neg e4, if_pos e5] | simp only [if_neg e0, if_pos e1, if_neg e2, if_neg e3, if_neg e4, if_pos e5] | simp [e0, e1, e2, e3, e4, e5]); rw [q] at g; exact g) (fun e0 e1 e2 e3 e4 => by have q : f_M_letter m j b i = ((97 : Int32) + (f_M_value m (m 163 j.toNatClampNeg) b)) := (by unfold f_M_letter; first | rw [if_neg e0, if_pos e1, if_neg e2, if_neg e3, if_pos e4] | simp only [if_neg e0, if_pos e1, if_neg e2, if_neg e3, if_pos e4] | simp [e0, e1, e2, e3, e4]); rw [q] at g; exact g) (fun e0 e1 e2 e3 => by have q : f_M_letter m j b i = 61 := (by unfold f_M_letter; first | rw [if_neg e0, if_pos e1, if_neg e2, if_pos e3] | simp only [if_neg e0, if_pos e1, if_neg e2, if_pos e3] | simp [e0, e1, e2, e3]); rw [q] at g; exact g) (fun e0 e1 e2 => by have q : f_M_letter m j b i = ((97 : Int32) + (f_M_value m (m 162 j.toNatClampNeg) b)) := (by unfold f_M_letter; first | rw [if_neg e0, if_pos e1, if_pos e2] | simp only [if_neg e0, if_pos e1, if_pos e2] | simp [e0, e1, e2]); rw [q] at g; exact g) (fun e0 e1 e2 e3 e4 e5 => by have q : f_M_letter m j b i = 0 := (by unfold f_M_letter; first | rw [if_pos e0, if_neg e1, if_neg e2, if_neg e3, if_neg e4, if_neg e5] | simp only [if_pos e0, if_neg e1, if_neg e2, if_neg e3, if_neg e4, if_neg e5] | simp [e0, e1, e2, e3, e4, e5]); rw [q] at g; exact g) (fun e0 e1 e2 e3 e4 e5 => by have q : f_M_letter m j b i = 59 := (by unfold f_M_letter; first | rw [if_pos e0, if_neg e1, if_neg e2, if_neg e3, if_neg e4, if_pos e5] | simp only [if_pos e0, if_neg e1, if_neg e2, if_neg e3, if_neg e4, if_pos e5] | simp [e0, e1, e2, e3, e4, e5]); rw [q] at g; exact g) (fun e0 e1 e2 e3 e4 => by have q : f_M_letter m j b i = 41 := (by unfold f_M_letter; first | rw [if_pos e0, if_neg e1, if_neg e2, if_neg e3, if_pos e4] | simp only [if_pos e0, if_neg e1, if_neg e2, if_neg e3, if_pos e4] | simp [e0, e1, e2, e3, e4]); rw [q] at g; exact g) (fun e0 e1 e2 e3 => by have q : f_M_letter m j b i = ((97 : Int32) + (f_M_value m (m 162 j.toNatClampNeg) b)) := (by unfold f_M_letter; first | rw [if_pos e0, if_neg e1, if_neg e2, if_pos e3] | simp only [if_pos e0, if_neg e1, if_neg e2, if_pos e3] | simp [e0, e1, e2, e3]); rw [q] at g; exact g) (fun e0 e1 e2 => by have q : f_M_letter m j b i = 40 := (by unfold f_M_letter; first | rw [if_pos e0, if_neg e1, if_pos e2] | simp only [if_pos e0, if_neg e1, if_pos e2] | simp [e0, e1, e2]); rw [q] at g; exact g) (fun e0 e1 => by have q : f_M_letter m j b i = ((102 : Int32) + (m 161 j.toNatClampNeg)) := (by unfold f_M_letter; first | rw [if_pos e0, if_pos e1] | simp only [if_pos e0, if_pos e1] | simp [e0, e1]); rw [q] at g; exact g)
set_option maxRecDepth 100000 in
set_option maxHeartbeats 2000000 in
theorem c_Search_reset {xs : jx_Xs} {m : zM} {Q : Option Value → zM → Prop}
    (g1 : ez xs 114 7 [some (.ref 74), some (.int 0)] [] (jj_up m 74 7 0) Q) : ez xs 114 0 (jx_ent 114 [.ref 74]) [] m Q := by
  refine ez_blk 5 rfl ?_
  show ez xs 114 7 [some (.ref 74), some (.int 0)] [] (jj_up m 74 7 0) Q
  exact g1
set_option maxRecDepth 100000 in
set_option maxHeartbeats 2000000 in
theorem c_Search_reset_7 {xs : jx_Xs} {m : zM} {Q : Option Value → zM → Prop} {l1 : Int32}
    (b1 : (¬ 64 ≤ l1) → vp_in l1 64)
    (g1 : (64 ≤ l1) → ez xs 114 28 [some (.ref 74), some (.int 0)] [] m Q)
    (g2 : (¬ 64 ≤ l1) → ez xs 114 7 [some (.ref 74), some (.int (l1 + 1))] [] (jj_up m 75 l1.toNatClampNeg 0) Q) : ez xs 114 7 [some (.ref 74), some (.int l1)] [] m Q := by
  refine ez_blk 2 rfl ?_
  show ez xs 114 10 [some (.ref 74), some (.int l1)] [.int 64, .int l1] m Q
  refine ez_icmp_ge rfl (fun h1 => ?_) (fun h1 => ?_)
  · show ez xs 114 26 [some (.ref 74), some (.int l1)] [] m Q
    refine ez_blk 2 rfl ?_
    show ez xs 114 28 [some (.ref 74), some (.int 0)] [] m Q
    exact g1 h1
  · show ez xs 114 13 [some (.ref 74), some (.int l1)] [] m Q
    refine ez_blk 4 rfl ?_
    show ez xs 114 19 [some (.ref 74), some (.int l1)] [.int 0, .int l1, .ref 75] m Q
    refine ez_iastv rfl (by decide) rfl (b1 h1) ?_
    show ez xs 114 20 [some (.ref 74), some (.int l1)] [] (jj_up m 75 l1.toNatClampNeg 0) Q
    refine ez_blk 2 rfl ?_
    show ez xs 114 7 [some (.ref 74), some (.int (l1 + 1))] [] (jj_up m 75 l1.toNatClampNeg 0) Q
    exact g2 h1
set_option maxRecDepth 100000 in
set_option maxHeartbeats 2000000 in
theorem c_Search_reset_28 {xs : jx_Xs} {m : zM} {Q : Option Value → zM → Prop} {l1 : Int32}
    (b1 : (¬ 6 ≤ l1) → vp_in l1 6)
    (g1 : (6 ≤ l1) → ez xs 114 49 [some (.ref 74), some (.int 0)] [] m Q)
    (g2 : (¬ 6 ≤ l1) → ez xs 114 28 [some (.ref 74), some (.int (l1 + 1))] [] (jj_up m 76 l1.toNatClampNeg 0) Q) : ez xs 114 28 [some (.ref 74), some (.int l1)] [] m Q := by
  refine ez_blk 2 rfl ?_
  show ez xs 114 31 [some (.ref 74), some (.int l1)] [.int 6, .int l1] m Q
  refine ez_icmp_ge rfl (fun h1 => ?_) (fun h1 => ?_)
  · show ez xs 114 47 [some (.ref 74), some (.int l1)] [] m Q
    refine ez_blk 2 rfl ?_
    show ez xs 114 49 [some (.ref 74), some (.int 0)] [] m Q
    exact g1 h1
  · show ez xs 114 34 [some (.ref 74), some (.int l1)] [] m Q
    refine ez_blk 4 rfl ?_
    show ez xs 114 40 [some (.ref 74), some (.int l1)] [.int 0, .int l1, .ref 76] m Q
    refine ez_iastv rfl (by decide) rfl (b1 h1) ?_
    show ez xs 114 41 [some (.ref 74), some (.int l1)] [] (jj_up m 76 l1.toNatClampNeg 0) Q
    refine ez_blk 2 rfl ?_
    show ez xs 114 28 [some (.ref 74), some (.int (l1 + 1))] [] (jj_up m 76 l1.toNatClampNeg 0) Q
    exact g2 h1
set_option maxRecDepth 100000 in
set_option maxHeartbeats 2000000 in
theorem c_Search_reset_49 {xs : jx_Xs} {m : zM} {Q : Option Value → zM → Prop} {l1 : Int32}
    (b1 : (¬ 24 ≤ l1) → vp_in l1 24)
    (g1 : (24 ≤ l1) → Q none m)
    (g2 : (¬ 24 ≤ l1) → ez xs 114 49 [some (.ref 74), some (.int (l1 + 1))] [] (jj_up (jj_up (jj_up m (81 + 2 * l1.toNatClampNeg) 1 0) (81 + 2 * l1.toNatClampNeg) 2 0) (81 + 2 * l1.toNatClampNeg) 3 0) Q) : ez xs 114 49 [some (.ref 74), some (.int l1)] [] m Q := by
  refine ez_blk 2 rfl ?_
  show ez xs 114 52 [some (.ref 74), some (.int l1)] [.int 24, .int l1] m Q
  refine ez_icmp_ge rfl (fun h1 => ?_) (fun h1 => ?_)
  · show ez xs 114 70 [some (.ref 74), some (.int l1)] [] m Q
    exact ez_ret rfl (by decide) rfl (g1 h1)
  · show ez xs 114 55 [some (.ref 74), some (.int l1)] [] m Q
    refine ez_blk 3 rfl ?_
    show ez xs 114 60 [some (.ref 74), some (.int l1)] [.int l1, .ref 78] m Q
    refine ez_rldv rfl (by decide) rfl rfl (b1 h1) (z_edr (vp_lt (b1 h1))) ?_
    show ez xs 114 61 [some (.ref 74), some (.int l1)] [.ref (81 + 2 * l1.toNatClampNeg)] m Q
    refine ez_calls (i := 81 + 2 * l1.toNatClampNeg) (as2 := []) (rest := []) rfl (by decide) rfl rfl rfl (z_edi (vp_lt (b1 h1))) (z_eds (vp_lt (b1 h1))) rfl ?_
    refine c_Edit_reset (i_r := (z_edi (vp_lt (b1 h1)))) (s_r := (z_eds (vp_lt (b1 h1)))) ?_
    show ez xs 114 64 [some (.ref 74), some (.int l1)] [] (jj_up (jj_up (jj_up m (81 + 2 * l1.toNatClampNeg) 1 0) (81 + 2 * l1.toNatClampNeg) 2 0) (81 + 2 * l1.toNatClampNeg) 3 0) Q
    refine ez_blk 2 rfl ?_
    show ez xs 114 49 [some (.ref 74), some (.int (l1 + 1))] [] (jj_up (jj_up (jj_up m (81 + 2 * l1.toNatClampNeg) 1 0) (81 + 2 * l1.toNatClampNeg) 2 0) (81 + 2 * l1.toNatClampNeg) 3 0) Q
    exact g2 h1
set_option maxRecDepth 100000 in
set_option maxHeartbeats 2000000 in
theorem c_Search_matchCount {xs : jx_Xs} {m : zM} {Q : Option Value → zM → Prop}
    (g1 : ez xs 142 4 [some (.ref 74), some (.int 0), some (.int 0)] [] m Q) : ez xs 142 0 (jx_ent 142 [.ref 74]) [] m Q := by
  refine ez_blk 4 rfl ?_
  show ez xs 142 4 [some (.ref 74), some (.int 0), some (.int 0)] [] m Q
  exact g1
set_option maxRecDepth 100000 in
set_option maxHeartbeats 2000000 in
theorem c_Search_matchCount_4 {xs : jx_Xs} {m : zM} {Q : Option Value → zM → Prop} {l1 l2 : Int32}
    (b1 : (¬ 64 ≤ l2) → vp_in l2 64)
    (g1 : (64 ≤ l2) → Q (some (.int l1)) m)
    (g2 : (¬ 64 ≤ l2) → ez xs 142 4 [some (.ref 74), some (.int (l1 + (((((((((m 75 l2.toNatClampNeg) - ((((m 75 l2.toNatClampNeg).toUInt32 >>> ((1 : Int32).toUInt32 &&& Int32.toUInt32 31)).toInt32) &&& 1431655765)) &&& 858993459) + (((((m 75 l2.toNatClampNeg) - ((((m 75 l2.toNatClampNeg).toUInt32 >>> ((1 : Int32).toUInt32 &&& Int32.toUInt32 31)).toInt32) &&& 1431655765)).toUInt32 >>> ((2 : Int32).toUInt32 &&& Int32.toUInt32 31)).toInt32) &&& 858993459)) + ((((((m 75 l2.toNatClampNeg) - ((((m 75 l2.toNatClampNeg).toUInt32 >>> ((1 : Int32).toUInt32 &&& Int32.toUInt32 31)).toInt32) &&& 1431655765)) &&& 858993459) + (((((m 75 l2.toNatClampNeg) - ((((m 75 l2.toNatClampNeg).toUInt32 >>> ((1 : Int32).toUInt32 &&& Int32.toUInt32 31)).toInt32) &&& 1431655765)).toUInt32 >>> ((2 : Int32).toUInt32 &&& Int32.toUInt32 31)).toInt32) &&& 858993459)).toUInt32 >>> ((4 : Int32).toUInt32 &&& Int32.toUInt32 31)).toInt32)) &&& 252645135) + ((((((((m 75 l2.toNatClampNeg) - ((((m 75 l2.toNatClampNeg).toUInt32 >>> ((1 : Int32).toUInt32 &&& Int32.toUInt32 31)).toInt32) &&& 1431655765)) &&& 858993459) + (((((m 75 l2.toNatClampNeg) - ((((m 75 l2.toNatClampNeg).toUInt32 >>> ((1 : Int32).toUInt32 &&& Int32.toUInt32 31)).toInt32) &&& 1431655765)).toUInt32 >>> ((2 : Int32).toUInt32 &&& Int32.toUInt32 31)).toInt32) &&& 858993459)) + ((((((m 75 l2.toNatClampNeg) - ((((m 75 l2.toNatClampNeg).toUInt32 >>> ((1 : Int32).toUInt32 &&& Int32.toUInt32 31)).toInt32) &&& 1431655765)) &&& 858993459) + (((((m 75 l2.toNatClampNeg) - ((((m 75 l2.toNatClampNeg).toUInt32 >>> ((1 : Int32).toUInt32 &&& Int32.toUInt32 31)).toInt32) &&& 1431655765)).toUInt32 >>> ((2 : Int32).toUInt32 &&& Int32.toUInt32 31)).toInt32) &&& 858993459)).toUInt32 >>> ((4 : Int32).toUInt32 &&& Int32.toUInt32 31)).toInt32)) &&& 252645135).toUInt32 >>> ((8 : Int32).toUInt32 &&& Int32.toUInt32 31)).toInt32)) + (((((((((m 75 l2.toNatClampNeg) - ((((m 75 l2.toNatClampNeg).toUInt32 >>> ((1 : Int32).toUInt32 &&& Int32.toUInt32 31)).toInt32) &&& 1431655765)) &&& 858993459) + (((((m 75 l2.toNatClampNeg) - ((((m 75 l2.toNatClampNeg).toUInt32 >>> ((1 : Int32).toUInt32 &&& Int32.toUInt32 31)).toInt32) &&& 1431655765)).toUInt32 >>> ((2 : Int32).toUInt32 &&& Int32.toUInt32 31)).toInt32) &&& 858993459)) + ((((((m 75 l2.toNatClampNeg) - ((((m 75 l2.toNatClampNeg).toUInt32 >>> ((1 : Int32).toUInt32 &&& Int32.toUInt32 31)).toInt32) &&& 1431655765)) &&& 858993459) + (((((m 75 l2.toNatClampNeg) - ((((m 75 l2.toNatClampNeg).toUInt32 >>> ((1 : Int32).toUInt32 &&& Int32.toUInt32 31)).toInt32) &&& 1431655765)).toUInt32 >>> ((2 : Int32).toUInt32 &&& Int32.toUInt32 31)).toInt32) &&& 858993459)).toUInt32 >>> ((4 : Int32).toUInt32 &&& Int32.toUInt32 31)).toInt32)) &&& 252645135) + ((((((((m 75 l2.toNatClampNeg) - ((((m 75 l2.toNatClampNeg).toUInt32 >>> ((1 : Int32).toUInt32 &&& Int32.toUInt32 31)).toInt32) &&& 1431655765)) &&& 858993459) + (((((m 75 l2.toNatClampNeg) - ((((m 75 l2.toNatClampNeg).toUInt32 >>> ((1 : Int32).toUInt32 &&& Int32.toUInt32 31)).toInt32) &&& 1431655765)).toUInt32 >>> ((2 : Int32).toUInt32 &&& Int32.toUInt32 31)).toInt32) &&& 858993459)) + ((((((m 75 l2.toNatClampNeg) - ((((m 75 l2.toNatClampNeg).toUInt32 >>> ((1 : Int32).toUInt32 &&& Int32.toUInt32 31)).toInt32) &&& 1431655765)) &&& 858993459) + (((((m 75 l2.toNatClampNeg) - ((((m 75 l2.toNatClampNeg).toUInt32 >>> ((1 : Int32).toUInt32 &&& Int32.toUInt32 31)).toInt32) &&& 1431655765)).toUInt32 >>> ((2 : Int32).toUInt32 &&& Int32.toUInt32 31)).toInt32) &&& 858993459)).toUInt32 >>> ((4 : Int32).toUInt32 &&& Int32.toUInt32 31)).toInt32)) &&& 252645135).toUInt32 >>> ((8 : Int32).toUInt32 &&& Int32.toUInt32 31)).toInt32)).toUInt32 >>> ((16 : Int32).toUInt32 &&& Int32.toUInt32 31)).toInt32)) &&& 63))), some (.int (l2 + 1))] [] m Q) : ez xs 142 4 [some (.ref 74), some (.int l1), some (.int l2)] [] m Q := by
  refine ez_blk 2 rfl ?_
  show ez xs 142 7 [some (.ref 74), some (.int l1), some (.int l2)] [.int 64, .int l2] m Q
  refine ez_icmp_ge rfl (fun h1 => ?_) (fun h1 => ?_)
  · show ez xs 142 28 [some (.ref 74), some (.int l1), some (.int l2)] [] m Q
    refine ez_blk 1 rfl ?_
    show ez xs 142 29 [some (.ref 74), some (.int l1), some (.int l2)] [.int l1] m Q
    exact ez_ret rfl (by decide) rfl (g1 h1)
  · show ez xs 142 10 [some (.ref 74), some (.int l1), some (.int l2)] [] m Q
    refine ez_blk 4 rfl ?_
    show ez xs 142 16 [some (.ref 74), some (.int l1), some (.int l2)] [.int l2, .ref 75, .int l1] m Q
    refine ez_ialdv rfl (by decide) rfl (b1 h1) ?_
    show ez xs 142 17 [some (.ref 74), some (.int l1), some (.int l2)] [.int (m 75 l2.toNatClampNeg), .int l1] m Q
    refine ez_call (as := [.int (m 75 l2.toNatClampNeg)]) (rest := [.int l1]) rfl (by decide) rfl ?_
    refine c_Integer_bitCount ?_
    show ez xs 142 20 [some (.ref 74), some (.int l1), some (.int l2)] [.int (((((((((m 75 l2.toNatClampNeg) - ((((m 75 l2.toNatClampNeg).toUInt32 >>> ((1 : Int32).toUInt32 &&& Int32.toUInt32 31)).toInt32) &&& 1431655765)) &&& 858993459) + (((((m 75 l2.toNatClampNeg) - ((((m 75 l2.toNatClampNeg).toUInt32 >>> ((1 : Int32).toUInt32 &&& Int32.toUInt32 31)).toInt32) &&& 1431655765)).toUInt32 >>> ((2 : Int32).toUInt32 &&& Int32.toUInt32 31)).toInt32) &&& 858993459)) + ((((((m 75 l2.toNatClampNeg) - ((((m 75 l2.toNatClampNeg).toUInt32 >>> ((1 : Int32).toUInt32 &&& Int32.toUInt32 31)).toInt32) &&& 1431655765)) &&& 858993459) + (((((m 75 l2.toNatClampNeg) - ((((m 75 l2.toNatClampNeg).toUInt32 >>> ((1 : Int32).toUInt32 &&& Int32.toUInt32 31)).toInt32) &&& 1431655765)).toUInt32 >>> ((2 : Int32).toUInt32 &&& Int32.toUInt32 31)).toInt32) &&& 858993459)).toUInt32 >>> ((4 : Int32).toUInt32 &&& Int32.toUInt32 31)).toInt32)) &&& 252645135) + ((((((((m 75 l2.toNatClampNeg) - ((((m 75 l2.toNatClampNeg).toUInt32 >>> ((1 : Int32).toUInt32 &&& Int32.toUInt32 31)).toInt32) &&& 1431655765)) &&& 858993459) + (((((m 75 l2.toNatClampNeg) - ((((m 75 l2.toNatClampNeg).toUInt32 >>> ((1 : Int32).toUInt32 &&& Int32.toUInt32 31)).toInt32) &&& 1431655765)).toUInt32 >>> ((2 : Int32).toUInt32 &&& Int32.toUInt32 31)).toInt32) &&& 858993459)) + ((((((m 75 l2.toNatClampNeg) - ((((m 75 l2.toNatClampNeg).toUInt32 >>> ((1 : Int32).toUInt32 &&& Int32.toUInt32 31)).toInt32) &&& 1431655765)) &&& 858993459) + (((((m 75 l2.toNatClampNeg) - ((((m 75 l2.toNatClampNeg).toUInt32 >>> ((1 : Int32).toUInt32 &&& Int32.toUInt32 31)).toInt32) &&& 1431655765)).toUInt32 >>> ((2 : Int32).toUInt32 &&& Int32.toUInt32 31)).toInt32) &&& 858993459)).toUInt32 >>> ((4 : Int32).toUInt32 &&& Int32.toUInt32 31)).toInt32)) &&& 252645135).toUInt32 >>> ((8 : Int32).toUInt32 &&& Int32.toUInt32 31)).toInt32)) + (((((((((m 75 l2.toNatClampNeg) - ((((m 75 l2.toNatClampNeg).toUInt32 >>> ((1 : Int32).toUInt32 &&& Int32.toUInt32 31)).toInt32) &&& 1431655765)) &&& 858993459) + (((((m 75 l2.toNatClampNeg) - ((((m 75 l2.toNatClampNeg).toUInt32 >>> ((1 : Int32).toUInt32 &&& Int32.toUInt32 31)).toInt32) &&& 1431655765)).toUInt32 >>> ((2 : Int32).toUInt32 &&& Int32.toUInt32 31)).toInt32) &&& 858993459)) + ((((((m 75 l2.toNatClampNeg) - ((((m 75 l2.toNatClampNeg).toUInt32 >>> ((1 : Int32).toUInt32 &&& Int32.toUInt32 31)).toInt32) &&& 1431655765)) &&& 858993459) + (((((m 75 l2.toNatClampNeg) - ((((m 75 l2.toNatClampNeg).toUInt32 >>> ((1 : Int32).toUInt32 &&& Int32.toUInt32 31)).toInt32) &&& 1431655765)).toUInt32 >>> ((2 : Int32).toUInt32 &&& Int32.toUInt32 31)).toInt32) &&& 858993459)).toUInt32 >>> ((4 : Int32).toUInt32 &&& Int32.toUInt32 31)).toInt32)) &&& 252645135) + ((((((((m 75 l2.toNatClampNeg) - ((((m 75 l2.toNatClampNeg).toUInt32 >>> ((1 : Int32).toUInt32 &&& Int32.toUInt32 31)).toInt32) &&& 1431655765)) &&& 858993459) + (((((m 75 l2.toNatClampNeg) - ((((m 75 l2.toNatClampNeg).toUInt32 >>> ((1 : Int32).toUInt32 &&& Int32.toUInt32 31)).toInt32) &&& 1431655765)).toUInt32 >>> ((2 : Int32).toUInt32 &&& Int32.toUInt32 31)).toInt32) &&& 858993459)) + ((((((m 75 l2.toNatClampNeg) - ((((m 75 l2.toNatClampNeg).toUInt32 >>> ((1 : Int32).toUInt32 &&& Int32.toUInt32 31)).toInt32) &&& 1431655765)) &&& 858993459) + (((((m 75 l2.toNatClampNeg) - ((((m 75 l2.toNatClampNeg).toUInt32 >>> ((1 : Int32).toUInt32 &&& Int32.toUInt32 31)).toInt32) &&& 1431655765)).toUInt32 >>> ((2 : Int32).toUInt32 &&& Int32.toUInt32 31)).toInt32) &&& 858993459)).toUInt32 >>> ((4 : Int32).toUInt32 &&& Int32.toUInt32 31)).toInt32)) &&& 252645135).toUInt32 >>> ((8 : Int32).toUInt32 &&& Int32.toUInt32 31)).toInt32)).toUInt32 >>> ((16 : Int32).toUInt32 &&& Int32.toUInt32 31)).toInt32)) &&& 63), .int l1] m Q
    refine ez_blk 4 rfl ?_
    show ez xs 142 4 [some (.ref 74), some (.int (l1 + (((((((((m 75 l2.toNatClampNeg) - ((((m 75 l2.toNatClampNeg).toUInt32 >>> ((1 : Int32).toUInt32 &&& Int32.toUInt32 31)).toInt32) &&& 1431655765)) &&& 858993459) + (((((m 75 l2.toNatClampNeg) - ((((m 75 l2.toNatClampNeg).toUInt32 >>> ((1 : Int32).toUInt32 &&& Int32.toUInt32 31)).toInt32) &&& 1431655765)).toUInt32 >>> ((2 : Int32).toUInt32 &&& Int32.toUInt32 31)).toInt32) &&& 858993459)) + ((((((m 75 l2.toNatClampNeg) - ((((m 75 l2.toNatClampNeg).toUInt32 >>> ((1 : Int32).toUInt32 &&& Int32.toUInt32 31)).toInt32) &&& 1431655765)) &&& 858993459) + (((((m 75 l2.toNatClampNeg) - ((((m 75 l2.toNatClampNeg).toUInt32 >>> ((1 : Int32).toUInt32 &&& Int32.toUInt32 31)).toInt32) &&& 1431655765)).toUInt32 >>> ((2 : Int32).toUInt32 &&& Int32.toUInt32 31)).toInt32) &&& 858993459)).toUInt32 >>> ((4 : Int32).toUInt32 &&& Int32.toUInt32 31)).toInt32)) &&& 252645135) + ((((((((m 75 l2.toNatClampNeg) - ((((m 75 l2.toNatClampNeg).toUInt32 >>> ((1 : Int32).toUInt32 &&& Int32.toUInt32 31)).toInt32) &&& 1431655765)) &&& 858993459) + (((((m 75 l2.toNatClampNeg) - ((((m 75 l2.toNatClampNeg).toUInt32 >>> ((1 : Int32).toUInt32 &&& Int32.toUInt32 31)).toInt32) &&& 1431655765)).toUInt32 >>> ((2 : Int32).toUInt32 &&& Int32.toUInt32 31)).toInt32) &&& 858993459)) + ((((((m 75 l2.toNatClampNeg) - ((((m 75 l2.toNatClampNeg).toUInt32 >>> ((1 : Int32).toUInt32 &&& Int32.toUInt32 31)).toInt32) &&& 1431655765)) &&& 858993459) + (((((m 75 l2.toNatClampNeg) - ((((m 75 l2.toNatClampNeg).toUInt32 >>> ((1 : Int32).toUInt32 &&& Int32.toUInt32 31)).toInt32) &&& 1431655765)).toUInt32 >>> ((2 : Int32).toUInt32 &&& Int32.toUInt32 31)).toInt32) &&& 858993459)).toUInt32 >>> ((4 : Int32).toUInt32 &&& Int32.toUInt32 31)).toInt32)) &&& 252645135).toUInt32 >>> ((8 : Int32).toUInt32 &&& Int32.toUInt32 31)).toInt32)) + (((((((((m 75 l2.toNatClampNeg) - ((((m 75 l2.toNatClampNeg).toUInt32 >>> ((1 : Int32).toUInt32 &&& Int32.toUInt32 31)).toInt32) &&& 1431655765)) &&& 858993459) + (((((m 75 l2.toNatClampNeg) - ((((m 75 l2.toNatClampNeg).toUInt32 >>> ((1 : Int32).toUInt32 &&& Int32.toUInt32 31)).toInt32) &&& 1431655765)).toUInt32 >>> ((2 : Int32).toUInt32 &&& Int32.toUInt32 31)).toInt32) &&& 858993459)) + ((((((m 75 l2.toNatClampNeg) - ((((m 75 l2.toNatClampNeg).toUInt32 >>> ((1 : Int32).toUInt32 &&& Int32.toUInt32 31)).toInt32) &&& 1431655765)) &&& 858993459) + (((((m 75 l2.toNatClampNeg) - ((((m 75 l2.toNatClampNeg).toUInt32 >>> ((1 : Int32).toUInt32 &&& Int32.toUInt32 31)).toInt32) &&& 1431655765)).toUInt32 >>> ((2 : Int32).toUInt32 &&& Int32.toUInt32 31)).toInt32) &&& 858993459)).toUInt32 >>> ((4 : Int32).toUInt32 &&& Int32.toUInt32 31)).toInt32)) &&& 252645135) + ((((((((m 75 l2.toNatClampNeg) - ((((m 75 l2.toNatClampNeg).toUInt32 >>> ((1 : Int32).toUInt32 &&& Int32.toUInt32 31)).toInt32) &&& 1431655765)) &&& 858993459) + (((((m 75 l2.toNatClampNeg) - ((((m 75 l2.toNatClampNeg).toUInt32 >>> ((1 : Int32).toUInt32 &&& Int32.toUInt32 31)).toInt32) &&& 1431655765)).toUInt32 >>> ((2 : Int32).toUInt32 &&& Int32.toUInt32 31)).toInt32) &&& 858993459)) + ((((((m 75 l2.toNatClampNeg) - ((((m 75 l2.toNatClampNeg).toUInt32 >>> ((1 : Int32).toUInt32 &&& Int32.toUInt32 31)).toInt32) &&& 1431655765)) &&& 858993459) + (((((m 75 l2.toNatClampNeg) - ((((m 75 l2.toNatClampNeg).toUInt32 >>> ((1 : Int32).toUInt32 &&& Int32.toUInt32 31)).toInt32) &&& 1431655765)).toUInt32 >>> ((2 : Int32).toUInt32 &&& Int32.toUInt32 31)).toInt32) &&& 858993459)).toUInt32 >>> ((4 : Int32).toUInt32 &&& Int32.toUInt32 31)).toInt32)) &&& 252645135).toUInt32 >>> ((8 : Int32).toUInt32 &&& Int32.toUInt32 31)).toInt32)).toUInt32 >>> ((16 : Int32).toUInt32 &&& Int32.toUInt32 31)).toInt32)) &&& 63))), some (.int (l2 + 1))] [] m Q
    exact g2 h1
set_option maxRecDepth 100000 in
set_option maxHeartbeats 2000000 in
theorem c_Search_matchNumber {xs : jx_Xs} {m : zM} {Q : Option Value → zM → Prop} {i : Int32}
    (g1 : ez xs 154 4 [some (.ref 74), some (.int i), some (.int 0), some (.int 0), none] [] m Q) : ez xs 154 0 (jx_ent 154 [.ref 74, .int i]) [] m Q := by
  refine ez_blk 4 rfl ?_
  show ez xs 154 4 [some (.ref 74), some (.int i), some (.int 0), some (.int 0), none] [] m Q
  exact g1
set_option maxRecDepth 100000 in
set_option maxHeartbeats 2000000 in
theorem c_Search_matchNumber_4 {xs : jx_Xs} {m : zM} {Q : Option Value → zM → Prop} {l1 l2 l3 : Int32} {o4 : Option Value}
    (g1 : (m 3 1 ≤ l3) → Q (some (.int (-1))) m)
    (g2 : (¬ m 3 1 ≤ l3) → ez xs 154 18 [some (.ref 74), some (.int l1), some (.int l2), some (.int l3), some (.int 0)] [] m Q) : ez xs 154 4 [some (.ref 74), some (.int l1), some (.int l2), some (.int l3), o4] [] m Q := by
  refine ez_blk 3 rfl ?_
  show ez xs 154 9 [some (.ref 74), some (.int l1), some (.int l2), some (.int l3), o4] [.ref 3, .int l3] m Q
  refine ez_call (as := [.ref 3]) (rest := [.int l3]) rfl (by decide) rfl ?_
  refine c_Program_size ?_
  show ez xs 154 12 [some (.ref 74), some (.int l1), some (.int l2), some (.int l3), o4] [.int (m 3 1), .int l3] m Q
  refine ez_icmp_ge rfl (fun h1 => ?_) (fun h1 => ?_)
  · show ez xs 154 67 [some (.ref 74), some (.int l1), some (.int l2), some (.int l3), o4] [] m Q
    refine ez_blk 1 rfl ?_
    show ez xs 154 68 [some (.ref 74), some (.int l1), some (.int l2), some (.int l3), o4] [.int (-1)] m Q
    exact ez_ret rfl (by decide) rfl (g1 h1)
  · show ez xs 154 15 [some (.ref 74), some (.int l1), some (.int l2), some (.int l3), o4] [] m Q
    refine ez_blk 2 rfl ?_
    show ez xs 154 18 [some (.ref 74), some (.int l1), some (.int l2), some (.int l3), some (.int 0)] [] m Q
    exact g2 h1
set_option maxRecDepth 100000 in
set_option maxHeartbeats 2000000 in
theorem c_Search_matchNumber_18 {xs : jx_Xs} {m : zM} {Q : Option Value → zM → Prop} {l1 l2 l3 l4 : Int32}
    (b1 : (¬ 64 ≤ l4) → vp_in l4 64)
    (g1 : (64 ≤ l4) → ez xs 154 4 [some (.ref 74), some (.int l1), some (.int l2), some (.int (l3 + 1)), some (.int l4)] [] m Q)
    (g2 : (¬ 64 ≤ l4) → ((m 75 l4.toNatClampNeg) &&& ((1 : Int32) <<< (l3 &&& 31)) = 0) → ez xs 154 18 [some (.ref 74), some (.int l1), some (.int l2), some (.int l3), some (.int (l4 + 1))] [] m Q)
    (g3 : (¬ 64 ≤ l4) → (¬ (m 75 l4.toNatClampNeg) &&& ((1 : Int32) <<< (l3 &&& 31)) = 0) → (¬ l2 = l1) → ez xs 154 18 [some (.ref 74), some (.int l1), some (.int (l2 + 1)), some (.int l3), some (.int (l4 + 1))] [] m Q)
    (g4 : (¬ 64 ≤ l4) → (¬ (m 75 l4.toNatClampNeg) &&& ((1 : Int32) <<< (l3 &&& 31)) = 0) → (l2 = l1) → Q (some (.int (((64 : Int32) * l3) + l4))) m) : ez xs 154 18 [some (.ref 74), some (.int l1), some (.int l2), some (.int l3), some (.int l4)] [] m Q := by
  refine ez_blk 2 rfl ?_
  show ez xs 154 22 [some (.ref 74), some (.int l1), some (.int l2), some (.int l3), some (.int l4)] [.int 64, .int l4] m Q
  refine ez_icmp_ge rfl (fun h1 => ?_) (fun h1 => ?_)
  · show ez xs 154 61 [some (.ref 74), some (.int l1), some (.int l2), some (.int l3), some (.int l4)] [] m Q
    refine ez_blk 2 rfl ?_
    show ez xs 154 4 [some (.ref 74), some (.int l1), some (.int l2), some (.int (l3 + 1)), some (.int l4)] [] m Q
    exact g1 h1
  · show ez xs 154 25 [some (.ref 74), some (.int l1), some (.int l2), some (.int l3), some (.int l4)] [] m Q
    refine ez_blk 3 rfl ?_
    show ez xs 154 31 [some (.ref 74), some (.int l1), some (.int l2), some (.int l3), some (.int l4)] [.int l4, .ref 75] m Q
    refine ez_ialdv rfl (by decide) rfl (b1 h1) ?_
    show ez xs 154 32 [some (.ref 74), some (.int l1), some (.int l2), some (.int l3), some (.int l4)] [.int (m 75 l4.toNatClampNeg)] m Q
    refine ez_blk 4 rfl ?_
    show ez xs 154 36 [some (.ref 74), some (.int l1), some (.int l2), some (.int l3), some (.int l4)] [.int ((m 75 l4.toNatClampNeg) &&& ((1 : Int32) <<< (l3 &&& 31)))] m Q
    refine ez_if_eq rfl (fun h2 => ?_) (fun h2 => ?_)
    · show ez xs 154 55 [some (.ref 74), some (.int l1), some (.int l2), some (.int l3), some (.int l4)] [] m Q
      refine ez_blk 2 rfl ?_
      show ez xs 154 18 [some (.ref 74), some (.int l1), some (.int l2), some (.int l3), some (.int (l4 + 1))] [] m Q
      exact g2 h1 h2
    · show ez xs 154 39 [some (.ref 74), some (.int l1), some (.int l2), some (.int l3), some (.int l4)] [] m Q
      refine ez_blk 2 rfl ?_
      show ez xs 154 41 [some (.ref 74), some (.int l1), some (.int l2), some (.int l3), some (.int l4)] [.int l1, .int l2] m Q
      refine ez_icmp_ne rfl (fun h3 => ?_) (fun h3 => ?_)
      · show ez xs 154 52 [some (.ref 74), some (.int l1), some (.int l2), some (.int l3), some (.int l4)] [] m Q
        refine ez_blk 3 rfl ?_
        show ez xs 154 18 [some (.ref 74), some (.int l1), some (.int (l2 + 1)), some (.int l3), some (.int (l4 + 1))] [] m Q
        exact g3 h1 h2 h3
      · show ez xs 154 44 [some (.ref 74), some (.int l1), some (.int l2), some (.int l3), some (.int l4)] [] m Q
        refine ez_blk 5 rfl ?_
        show ez xs 154 51 [some (.ref 74), some (.int l1), some (.int l2), some (.int l3), some (.int l4)] [.int (((64 : Int32) * l3) + l4)] m Q
        exact ez_ret rfl (by decide) rfl (g4 h1 h2 h3)
set_option maxRecDepth 100000 in
set_option maxHeartbeats 2000000 in
theorem c_Search_isHit {xs : jx_Xs} {m : zM} {Q : Option Value → zM → Prop} {n k : Int32}
    (b1 : (¬ f_Program_holds m n = 0) → (¬ f_Script_holds m k = 0) → vp_in k 6)
    (g1 : (f_Program_holds m n = 0) → Q (some (.int 0)) m)
    (g2 : (¬ f_Program_holds m n = 0) → (f_Script_holds m k = 0) → Q (some (.int 0)) m)
    (g3 : (¬ f_Program_holds m n = 0) → (¬ f_Script_holds m k = 0) → ((m 76 k.toNatClampNeg) &&& ((1 : Int32) <<< (n &&& 31)) = 0) → Q (some (.int 0)) m)
    (g4 : (¬ f_Program_holds m n = 0) → (¬ f_Script_holds m k = 0) → (¬ (m 76 k.toNatClampNeg) &&& ((1 : Int32) <<< (n &&& 31)) = 0) → Q (some (.int 1)) m) : ez xs 157 0 (jx_ent 157 [.ref 74, .int n, .int k]) [] m Q := by
  refine ez_blk 3 rfl ?_
  show ez xs 157 5 [some (.ref 74), some (.int n), some (.int k)] [.int n, .ref 3] m Q
  refine ez_call (as := [.ref 3, .int n]) (rest := []) rfl (by decide) rfl ?_
  refine d_Program_holds ?_
  show ez xs 157 8 [some (.ref 74), some (.int n), some (.int k)] [.int (f_Program_holds m n)] m Q
  refine ez_if_eq rfl (fun h1 => ?_) (fun h1 => ?_)
  · show ez xs 157 39 [some (.ref 74), some (.int n), some (.int k)] [] m Q
    refine ez_blk 1 rfl ?_
    show ez xs 157 40 [some (.ref 74), some (.int n), some (.int k)] [.int 0] m Q
    exact ez_ret rfl (by decide) rfl (g1 h1)
  · show ez xs 157 11 [some (.ref 74), some (.int n), some (.int k)] [] m Q
    refine ez_blk 3 rfl ?_
    show ez xs 157 16 [some (.ref 74), some (.int n), some (.int k)] [.int k, .ref 36] m Q
    refine ez_call (as := [.ref 36, .int k]) (rest := []) rfl (by decide) rfl ?_
    refine d_Script_holds ?_
    show ez xs 157 19 [some (.ref 74), some (.int n), some (.int k)] [.int (f_Script_holds m k)] m Q
    refine ez_if_eq rfl (fun h2 => ?_) (fun h2 => ?_)
    · show ez xs 157 39 [some (.ref 74), some (.int n), some (.int k)] [] m Q
      refine ez_blk 1 rfl ?_
      show ez xs 157 40 [some (.ref 74), some (.int n), some (.int k)] [.int 0] m Q
      exact ez_ret rfl (by decide) rfl (g2 h1 h2)
    · show ez xs 157 22 [some (.ref 74), some (.int n), some (.int k)] [] m Q
      refine ez_blk 3 rfl ?_
      show ez xs 157 27 [some (.ref 74), some (.int n), some (.int k)] [.int k, .ref 76] m Q
      refine ez_ialdv rfl (by decide) rfl (b1 h1 h2) ?_
      show ez xs 157 28 [some (.ref 74), some (.int n), some (.int k)] [.int (m 76 k.toNatClampNeg)] m Q
      refine ez_blk 4 rfl ?_
      show ez xs 157 32 [some (.ref 74), some (.int n), some (.int k)] [.int ((m 76 k.toNatClampNeg) &&& ((1 : Int32) <<< (n &&& 31)))] m Q
      refine ez_if_eq rfl (fun h3 => ?_) (fun h3 => ?_)
      · show ez xs 157 39 [some (.ref 74), some (.int n), some (.int k)] [] m Q
        refine ez_blk 1 rfl ?_
        show ez xs 157 40 [some (.ref 74), some (.int n), some (.int k)] [.int 0] m Q
        exact ez_ret rfl (by decide) rfl (g3 h1 h2 h3)
      · show ez xs 157 35 [some (.ref 74), some (.int n), some (.int k)] [] m Q
        refine ez_blk 2 rfl ?_
        show ez xs 157 40 [some (.ref 74), some (.int n), some (.int k)] [.int 1] m Q
        exact ez_ret rfl (by decide) rfl (g4 h1 h2 h3)
def f_Search_isHit (m : zM) (n k : Int32) : Int32 := if f_Program_holds m n = 0 then 0 else if f_Script_holds m k = 0 then 0 else if (m 76 k.toNatClampNeg) &&& ((1 : Int32) <<< (n &&& 31)) = 0 then 0 else 1
theorem d_Search_isHit {xs : jx_Xs} {m : zM} {Q : Option Value → zM → Prop} {n k : Int32}
    (b1 : (¬ f_Program_holds m n = 0) → (¬ f_Script_holds m k = 0) → vp_in k 6)
    (g : Q (some (.int (f_Search_isHit m n k))) m) : ez xs 157 0 (jx_ent 157 [.ref 74, .int n, .int k]) [] m Q := by
  refine c_Search_isHit b1 (fun e0 => by have q : f_Search_isHit m n k = 0 := (by unfold f_Search_isHit; first | rw [if_pos e0] | simp only [if_pos e0] | simp [e0]); rw [q] at g; exact g) (fun e0 e1 => by have q : f_Search_isHit m n k = 0 := (by unfold f_Search_isHit; first | rw [if_neg e0, if_pos e1] | simp only [if_neg e0, if_pos e1] | simp [e0, e1]); rw [q] at g; exact g) (fun e0 e1 e2 => by have q : f_Search_isHit m n k = 0 := (by unfold f_Search_isHit; first | rw [if_neg e0, if_neg e1, if_pos e2] | simp only [if_neg e0, if_neg e1, if_pos e2] | simp [e0, e1, e2]); rw [q] at g; exact g) (fun e0 e1 e2 => by have q : f_Search_isHit m n k = 1 := (by unfold f_Search_isHit; first | rw [if_neg e0, if_neg e1, if_neg e2] | simp only [if_neg e0, if_neg e1, if_neg e2] | simp [e0, e1, e2]); rw [q] at g; exact g)
set_option maxRecDepth 100000 in
set_option maxHeartbeats 2000000 in
theorem c_Program_after {xs : jx_Xs} {m : zM} {Q : Option Value → zM → Prop} {n : Int32}
    (g1 : ez xs 55 4 [some (.ref 3), some (.int n), some (.int n), some (.int 0), none] [] m Q) : ez xs 55 0 (jx_ent 55 [.ref 3, .int n]) [] m Q := by
  refine ez_blk 4 rfl ?_
  show ez xs 55 4 [some (.ref 3), some (.int n), some (.int n), some (.int 0), none] [] m Q
  exact g1
set_option maxRecDepth 100000 in
set_option maxHeartbeats 2000000 in
theorem c_Program_after_4 {xs : jx_Xs} {m : zM} {Q : Option Value → zM → Prop} {l1 l2 l3 : Int32} {o4 : Option Value}
    (b1 : (¬ 6 < l3) → (l2 < 0) → vp_in 0 24)
    (b2 : (¬ 6 < l3) → (¬ l2 < 0) → (m 3 1 ≤ l2) → vp_in 0 24)
    (b3 : (¬ 6 < l3) → (¬ l2 < 0) → (¬ m 3 1 ≤ l2) → vp_in l2 24)
    (b4 : (¬ 6 < l3) → (l2 < 0) → (m (5 + (0 : Int32).toNatClampNeg) 8 = (-1)) → (¬ m (5 + (0 : Int32).toNatClampNeg) 7 = (-1)) → ((m (5 + (0 : Int32).toNatClampNeg) 7) < 0) → vp_in 0 24)
    (b5 : (¬ 6 < l3) → (l2 < 0) → (m (5 + (0 : Int32).toNatClampNeg) 8 = (-1)) → (¬ m (5 + (0 : Int32).toNatClampNeg) 7 = (-1)) → (¬ (m (5 + (0 : Int32).toNatClampNeg) 7) < 0) → (m 3 1 ≤ (m (5 + (0 : Int32).toNatClampNeg) 7)) → vp_in 0 24)
    (b6 : (¬ 6 < l3) → (l2 < 0) → (m (5 + (0 : Int32).toNatClampNeg) 8 = (-1)) → (¬ m (5 + (0 : Int32).toNatClampNeg) 7 = (-1)) → (¬ (m (5 + (0 : Int32).toNatClampNeg) 7) < 0) → (¬ m 3 1 ≤ (m (5 + (0 : Int32).toNatClampNeg) 7)) → vp_in (m (5 + (0 : Int32).toNatClampNeg) 7) 24)
    (b7 : (¬ 6 < l3) → (¬ l2 < 0) → (m 3 1 ≤ l2) → (m (5 + (0 : Int32).toNatClampNeg) 8 = (-1)) → (¬ m (5 + (0 : Int32).toNatClampNeg) 7 = (-1)) → ((m (5 + (0 : Int32).toNatClampNeg) 7) < 0) → vp_in 0 24)
    (b8 : (¬ 6 < l3) → (¬ l2 < 0) → (m 3 1 ≤ l2) → (m (5 + (0 : Int32).toNatClampNeg) 8 = (-1)) → (¬ m (5 + (0 : Int32).toNatClampNeg) 7 = (-1)) → (¬ (m (5 + (0 : Int32).toNatClampNeg) 7) < 0) → (m 3 1 ≤ (m (5 + (0 : Int32).toNatClampNeg) 7)) → vp_in 0 24)
    (b9 : (¬ 6 < l3) → (¬ l2 < 0) → (m 3 1 ≤ l2) → (m (5 + (0 : Int32).toNatClampNeg) 8 = (-1)) → (¬ m (5 + (0 : Int32).toNatClampNeg) 7 = (-1)) → (¬ (m (5 + (0 : Int32).toNatClampNeg) 7) < 0) → (¬ m 3 1 ≤ (m (5 + (0 : Int32).toNatClampNeg) 7)) → vp_in (m (5 + (0 : Int32).toNatClampNeg) 7) 24)
    (b10 : (¬ 6 < l3) → (¬ l2 < 0) → (¬ m 3 1 ≤ l2) → (m (5 + l2.toNatClampNeg) 8 = (-1)) → (¬ m (5 + l2.toNatClampNeg) 7 = (-1)) → ((m (5 + l2.toNatClampNeg) 7) < 0) → vp_in 0 24)
    (b11 : (¬ 6 < l3) → (¬ l2 < 0) → (¬ m 3 1 ≤ l2) → (m (5 + l2.toNatClampNeg) 8 = (-1)) → (¬ m (5 + l2.toNatClampNeg) 7 = (-1)) → (¬ (m (5 + l2.toNatClampNeg) 7) < 0) → (m 3 1 ≤ (m (5 + l2.toNatClampNeg) 7)) → vp_in 0 24)
    (b12 : (¬ 6 < l3) → (¬ l2 < 0) → (¬ m 3 1 ≤ l2) → (m (5 + l2.toNatClampNeg) 8 = (-1)) → (¬ m (5 + l2.toNatClampNeg) 7 = (-1)) → (¬ (m (5 + l2.toNatClampNeg) 7) < 0) → (¬ m 3 1 ≤ (m (5 + l2.toNatClampNeg) 7)) → vp_in (m (5 + l2.toNatClampNeg) 7) 24)
    (g1 : (6 < l3) → Q (some (.int (m 3 1))) m)
    (g2 : (¬ 6 < l3) → (l2 < 0) → (m (5 + (0 : Int32).toNatClampNeg) 8 = (-1)) → (¬ m (5 + (0 : Int32).toNatClampNeg) 7 = (-1)) → ((m (5 + (0 : Int32).toNatClampNeg) 7) < 0) → (m (5 + (0 : Int32).toNatClampNeg) 4 = 0) → ez xs 55 4 [some (.ref 3), some (.int l1), some (.int (m (5 + (0 : Int32).toNatClampNeg) 7)), some (.int (l3 + 1)), some (.ref (5 + (0 : Int32).toNatClampNeg))] [] m Q)
    (g3 : (¬ 6 < l3) → (l2 < 0) → (m (5 + (0 : Int32).toNatClampNeg) 8 = (-1)) → (¬ m (5 + (0 : Int32).toNatClampNeg) 7 = (-1)) → ((m (5 + (0 : Int32).toNatClampNeg) 7) < 0) → (¬ m (5 + (0 : Int32).toNatClampNeg) 4 = 0) → Q (some (.int (m (5 + (0 : Int32).toNatClampNeg) 7))) m)
    (g4 : (¬ 6 < l3) → (l2 < 0) → (m (5 + (0 : Int32).toNatClampNeg) 8 = (-1)) → (¬ m (5 + (0 : Int32).toNatClampNeg) 7 = (-1)) → (¬ (m (5 + (0 : Int32).toNatClampNeg) 7) < 0) → (m 3 1 ≤ (m (5 + (0 : Int32).toNatClampNeg) 7)) → (m (5 + (0 : Int32).toNatClampNeg) 4 = 0) → ez xs 55 4 [some (.ref 3), some (.int l1), some (.int (m (5 + (0 : Int32).toNatClampNeg) 7)), some (.int (l3 + 1)), some (.ref (5 + (0 : Int32).toNatClampNeg))] [] m Q)
    (g5 : (¬ 6 < l3) → (l2 < 0) → (m (5 + (0 : Int32).toNatClampNeg) 8 = (-1)) → (¬ m (5 + (0 : Int32).toNatClampNeg) 7 = (-1)) → (¬ (m (5 + (0 : Int32).toNatClampNeg) 7) < 0) → (m 3 1 ≤ (m (5 + (0 : Int32).toNatClampNeg) 7)) → (¬ m (5 + (0 : Int32).toNatClampNeg) 4 = 0) → Q (some (.int (m (5 + (0 : Int32).toNatClampNeg) 7))) m)
    (g6 : (¬ 6 < l3) → (l2 < 0) → (m (5 + (0 : Int32).toNatClampNeg) 8 = (-1)) → (¬ m (5 + (0 : Int32).toNatClampNeg) 7 = (-1)) → (¬ (m (5 + (0 : Int32).toNatClampNeg) 7) < 0) → (¬ m 3 1 ≤ (m (5 + (0 : Int32).toNatClampNeg) 7)) → (m (5 + (m (5 + (0 : Int32).toNatClampNeg) 7).toNatClampNeg) 4 = 0) → ez xs 55 4 [some (.ref 3), some (.int l1), some (.int (m (5 + (0 : Int32).toNatClampNeg) 7)), some (.int (l3 + 1)), some (.ref (5 + (0 : Int32).toNatClampNeg))] [] m Q)
    (g7 : (¬ 6 < l3) → (l2 < 0) → (m (5 + (0 : Int32).toNatClampNeg) 8 = (-1)) → (¬ m (5 + (0 : Int32).toNatClampNeg) 7 = (-1)) → (¬ (m (5 + (0 : Int32).toNatClampNeg) 7) < 0) → (¬ m 3 1 ≤ (m (5 + (0 : Int32).toNatClampNeg) 7)) → (¬ m (5 + (m (5 + (0 : Int32).toNatClampNeg) 7).toNatClampNeg) 4 = 0) → Q (some (.int (m (5 + (0 : Int32).toNatClampNeg) 7))) m)
    (g8 : (¬ 6 < l3) → (l2 < 0) → (m (5 + (0 : Int32).toNatClampNeg) 8 = (-1)) → (m (5 + (0 : Int32).toNatClampNeg) 7 = (-1)) → Q (some (.int (m 3 1))) m)
    (g9 : (¬ 6 < l3) → (l2 < 0) → (¬ m (5 + (0 : Int32).toNatClampNeg) 8 = (-1)) → Q (some (.int (m (5 + (0 : Int32).toNatClampNeg) 8))) m)
    (g10 : (¬ 6 < l3) → (¬ l2 < 0) → (m 3 1 ≤ l2) → (m (5 + (0 : Int32).toNatClampNeg) 8 = (-1)) → (¬ m (5 + (0 : Int32).toNatClampNeg) 7 = (-1)) → ((m (5 + (0 : Int32).toNatClampNeg) 7) < 0) → (m (5 + (0 : Int32).toNatClampNeg) 4 = 0) → ez xs 55 4 [some (.ref 3), some (.int l1), some (.int (m (5 + (0 : Int32).toNatClampNeg) 7)), some (.int (l3 + 1)), some (.ref (5 + (0 : Int32).toNatClampNeg))] [] m Q)
    (g11 : (¬ 6 < l3) → (¬ l2 < 0) → (m 3 1 ≤ l2) → (m (5 + (0 : Int32).toNatClampNeg) 8 = (-1)) → (¬ m (5 + (0 : Int32).toNatClampNeg) 7 = (-1)) → ((m (5 + (0 : Int32).toNatClampNeg) 7) < 0) → (¬ m (5 + (0 : Int32).toNatClampNeg) 4 = 0) → Q (some (.int (m (5 + (0 : Int32).toNatClampNeg) 7))) m)
    (g12 : (¬ 6 < l3) → (¬ l2 < 0) → (m 3 1 ≤ l2) → (m (5 + (0 : Int32).toNatClampNeg) 8 = (-1)) → (¬ m (5 + (0 : Int32).toNatClampNeg) 7 = (-1)) → (¬ (m (5 + (0 : Int32).toNatClampNeg) 7) < 0) → (m 3 1 ≤ (m (5 + (0 : Int32).toNatClampNeg) 7)) → (m (5 + (0 : Int32).toNatClampNeg) 4 = 0) → ez xs 55 4 [some (.ref 3), some (.int l1), some (.int (m (5 + (0 : Int32).toNatClampNeg) 7)), some (.int (l3 + 1)), some (.ref (5 + (0 : Int32).toNatClampNeg))] [] m Q)
    (g13 : (¬ 6 < l3) → (¬ l2 < 0) → (m 3 1 ≤ l2) → (m (5 + (0 : Int32).toNatClampNeg) 8 = (-1)) → (¬ m (5 + (0 : Int32).toNatClampNeg) 7 = (-1)) → (¬ (m (5 + (0 : Int32).toNatClampNeg) 7) < 0) → (m 3 1 ≤ (m (5 + (0 : Int32).toNatClampNeg) 7)) → (¬ m (5 + (0 : Int32).toNatClampNeg) 4 = 0) → Q (some (.int (m (5 + (0 : Int32).toNatClampNeg) 7))) m)
    (g14 : (¬ 6 < l3) → (¬ l2 < 0) → (m 3 1 ≤ l2) → (m (5 + (0 : Int32).toNatClampNeg) 8 = (-1)) → (¬ m (5 + (0 : Int32).toNatClampNeg) 7 = (-1)) → (¬ (m (5 + (0 : Int32).toNatClampNeg) 7) < 0) → (¬ m 3 1 ≤ (m (5 + (0 : Int32).toNatClampNeg) 7)) → (m (5 + (m (5 + (0 : Int32).toNatClampNeg) 7).toNatClampNeg) 4 = 0) → ez xs 55 4 [some (.ref 3), some (.int l1), some (.int (m (5 + (0 : Int32).toNatClampNeg) 7)), some (.int (l3 + 1)), some (.ref (5 + (0 : Int32).toNatClampNeg))] [] m Q)
    (g15 : (¬ 6 < l3) → (¬ l2 < 0) → (m 3 1 ≤ l2) → (m (5 + (0 : Int32).toNatClampNeg) 8 = (-1)) → (¬ m (5 + (0 : Int32).toNatClampNeg) 7 = (-1)) → (¬ (m (5 + (0 : Int32).toNatClampNeg) 7) < 0) → (¬ m 3 1 ≤ (m (5 + (0 : Int32).toNatClampNeg) 7)) → (¬ m (5 + (m (5 + (0 : Int32).toNatClampNeg) 7).toNatClampNeg) 4 = 0) → Q (some (.int (m (5 + (0 : Int32).toNatClampNeg) 7))) m)
    (g16 : (¬ 6 < l3) → (¬ l2 < 0) → (m 3 1 ≤ l2) → (m (5 + (0 : Int32).toNatClampNeg) 8 = (-1)) → (m (5 + (0 : Int32).toNatClampNeg) 7 = (-1)) → Q (some (.int (m 3 1))) m)
    (g17 : (¬ 6 < l3) → (¬ l2 < 0) → (m 3 1 ≤ l2) → (¬ m (5 + (0 : Int32).toNatClampNeg) 8 = (-1)) → Q (some (.int (m (5 + (0 : Int32).toNatClampNeg) 8))) m)
    (g18 : (¬ 6 < l3) → (¬ l2 < 0) → (¬ m 3 1 ≤ l2) → (m (5 + l2.toNatClampNeg) 8 = (-1)) → (¬ m (5 + l2.toNatClampNeg) 7 = (-1)) → ((m (5 + l2.toNatClampNeg) 7) < 0) → (m (5 + (0 : Int32).toNatClampNeg) 4 = 0) → ez xs 55 4 [some (.ref 3), some (.int l1), some (.int (m (5 + l2.toNatClampNeg) 7)), some (.int (l3 + 1)), some (.ref (5 + l2.toNatClampNeg))] [] m Q)
    (g19 : (¬ 6 < l3) → (¬ l2 < 0) → (¬ m 3 1 ≤ l2) → (m (5 + l2.toNatClampNeg) 8 = (-1)) → (¬ m (5 + l2.toNatClampNeg) 7 = (-1)) → ((m (5 + l2.toNatClampNeg) 7) < 0) → (¬ m (5 + (0 : Int32).toNatClampNeg) 4 = 0) → Q (some (.int (m (5 + l2.toNatClampNeg) 7))) m)
    (g20 : (¬ 6 < l3) → (¬ l2 < 0) → (¬ m 3 1 ≤ l2) → (m (5 + l2.toNatClampNeg) 8 = (-1)) → (¬ m (5 + l2.toNatClampNeg) 7 = (-1)) → (¬ (m (5 + l2.toNatClampNeg) 7) < 0) → (m 3 1 ≤ (m (5 + l2.toNatClampNeg) 7)) → (m (5 + (0 : Int32).toNatClampNeg) 4 = 0) → ez xs 55 4 [some (.ref 3), some (.int l1), some (.int (m (5 + l2.toNatClampNeg) 7)), some (.int (l3 + 1)), some (.ref (5 + l2.toNatClampNeg))] [] m Q)
    (g21 : (¬ 6 < l3) → (¬ l2 < 0) → (¬ m 3 1 ≤ l2) → (m (5 + l2.toNatClampNeg) 8 = (-1)) → (¬ m (5 + l2.toNatClampNeg) 7 = (-1)) → (¬ (m (5 + l2.toNatClampNeg) 7) < 0) → (m 3 1 ≤ (m (5 + l2.toNatClampNeg) 7)) → (¬ m (5 + (0 : Int32).toNatClampNeg) 4 = 0) → Q (some (.int (m (5 + l2.toNatClampNeg) 7))) m)
    (g22 : (¬ 6 < l3) → (¬ l2 < 0) → (¬ m 3 1 ≤ l2) → (m (5 + l2.toNatClampNeg) 8 = (-1)) → (¬ m (5 + l2.toNatClampNeg) 7 = (-1)) → (¬ (m (5 + l2.toNatClampNeg) 7) < 0) → (¬ m 3 1 ≤ (m (5 + l2.toNatClampNeg) 7)) → (m (5 + (m (5 + l2.toNatClampNeg) 7).toNatClampNeg) 4 = 0) → ez xs 55 4 [some (.ref 3), some (.int l1), some (.int (m (5 + l2.toNatClampNeg) 7)), some (.int (l3 + 1)), some (.ref (5 + l2.toNatClampNeg))] [] m Q)
    (g23 : (¬ 6 < l3) → (¬ l2 < 0) → (¬ m 3 1 ≤ l2) → (m (5 + l2.toNatClampNeg) 8 = (-1)) → (¬ m (5 + l2.toNatClampNeg) 7 = (-1)) → (¬ (m (5 + l2.toNatClampNeg) 7) < 0) → (¬ m 3 1 ≤ (m (5 + l2.toNatClampNeg) 7)) → (¬ m (5 + (m (5 + l2.toNatClampNeg) 7).toNatClampNeg) 4 = 0) → Q (some (.int (m (5 + l2.toNatClampNeg) 7))) m)
    (g24 : (¬ 6 < l3) → (¬ l2 < 0) → (¬ m 3 1 ≤ l2) → (m (5 + l2.toNatClampNeg) 8 = (-1)) → (m (5 + l2.toNatClampNeg) 7 = (-1)) → Q (some (.int (m 3 1))) m)
    (g25 : (¬ 6 < l3) → (¬ l2 < 0) → (¬ m 3 1 ≤ l2) → (¬ m (5 + l2.toNatClampNeg) 8 = (-1)) → Q (some (.int (m (5 + l2.toNatClampNeg) 8))) m) : ez xs 55 4 [some (.ref 3), some (.int l1), some (.int l2), some (.int l3), o4] [] m Q := by
  refine ez_blk 2 rfl ?_
  show ez xs 55 7 [some (.ref 3), some (.int l1), some (.int l2), some (.int l3), o4] [.int 6, .int l3] m Q
  refine ez_icmp_gt rfl (fun h1 => ?_) (fun h1 => ?_)
  · show ez xs 55 79 [some (.ref 3), some (.int l1), some (.int l2), some (.int l3), o4] [] m Q
    refine ez_blk 2 rfl ?_
    show ez xs 55 83 [some (.ref 3), some (.int l1), some (.int l2), some (.int l3), o4] [.int (m 3 1)] m Q
    exact ez_ret rfl (by decide) rfl (g1 h1)
  · show ez xs 55 10 [some (.ref 3), some (.int l1), some (.int l2), some (.int l3), o4] [] m Q
    refine ez_blk 2 rfl ?_
    show ez xs 55 12 [some (.ref 3), some (.int l1), some (.int l2), some (.int l3), o4] [.int l2, .ref 3] m Q
    refine ez_call (as := [.ref 3, .int l2]) (rest := []) rfl (by decide) rfl ?_
    refine c_Program_node (fun h2 => b1 h1 h2) (fun h3 h4 => b2 h1 h3 h4) (fun h5 h6 => b3 h1 h5 h6) (fun h7 => ?_) (fun h8 h9 => ?_) (fun h10 h11 => ?_)
    · show ez xs 55 15 [some (.ref 3), some (.int l1), some (.int l2), some (.int l3), o4] [.ref (5 + (0 : Int32).toNatClampNeg)] m Q
      refine ez_blk 2 rfl ?_
      show ez xs 55 19 [some (.ref 3), some (.int l1), some (.int l2), some (.int l3), some (.ref (5 + (0 : Int32).toNatClampNeg))] [.ref (5 + (0 : Int32).toNatClampNeg)] m Q
      refine ez_getN rfl (z_ndi (vp_lt (b1 h1 h7))) (z_nds (vp_lt (b1 h1 h7))) (by decide) rfl ?_
      show ez xs 55 22 [some (.ref 3), some (.int l1), some (.int l2), some (.int l3), some (.ref (5 + (0 : Int32).toNatClampNeg))] [.int (m (5 + (0 : Int32).toNatClampNeg) 8)] m Q
      refine ez_blk 1 rfl ?_
      show ez xs 55 23 [some (.ref 3), some (.int l1), some (.int l2), some (.int l3), some (.ref (5 + (0 : Int32).toNatClampNeg))] [.int (-1), .int (m (5 + (0 : Int32).toNatClampNeg) 8)] m Q
      refine ez_icmp_eq rfl (fun h12 => ?_) (fun h12 => ?_)
      · show ez xs 55 32 [some (.ref 3), some (.int l1), some (.int l2), some (.int l3), some (.ref (5 + (0 : Int32).toNatClampNeg))] [] m Q
        refine ez_blk 1 rfl ?_
        show ez xs 55 34 [some (.ref 3), some (.int l1), some (.int l2), some (.int l3), some (.ref (5 + (0 : Int32).toNatClampNeg))] [.ref (5 + (0 : Int32).toNatClampNeg)] m Q
        refine ez_getN rfl (z_ndi (vp_lt (b1 h1 h7))) (z_nds (vp_lt (b1 h1 h7))) (by decide) rfl ?_
        show ez xs 55 37 [some (.ref 3), some (.int l1), some (.int l2), some (.int l3), some (.ref (5 + (0 : Int32).toNatClampNeg))] [.int (m (5 + (0 : Int32).toNatClampNeg) 7)] m Q
        refine ez_blk 1 rfl ?_
        show ez xs 55 38 [some (.ref 3), some (.int l1), some (.int l2), some (.int l3), some (.ref (5 + (0 : Int32).toNatClampNeg))] [.int (-1), .int (m (5 + (0 : Int32).toNatClampNeg) 7)] m Q
        refine ez_icmp_ne rfl (fun h13 => ?_) (fun h13 => ?_)
        · show ez xs 55 46 [some (.ref 3), some (.int l1), some (.int l2), some (.int l3), some (.ref (5 + (0 : Int32).toNatClampNeg))] [] m Q
          refine ez_blk 2 rfl ?_
          show ez xs 55 49 [some (.ref 3), some (.int l1), some (.int l2), some (.int l3), some (.ref (5 + (0 : Int32).toNatClampNeg))] [.ref (5 + (0 : Int32).toNatClampNeg), .ref 3] m Q
          refine ez_getN rfl (z_ndi (vp_lt (b1 h1 h7))) (z_nds (vp_lt (b1 h1 h7))) (by decide) rfl ?_
          show ez xs 55 52 [some (.ref 3), some (.int l1), some (.int l2), some (.int l3), some (.ref (5 + (0 : Int32).toNatClampNeg))] [.int (m (5 + (0 : Int32).toNatClampNeg) 7), .ref 3] m Q
          refine ez_call (as := [.ref 3, .int (m (5 + (0 : Int32).toNatClampNeg) 7)]) (rest := []) rfl (by decide) rfl ?_
          refine c_Program_node (fun h14 => b4 h1 h7 h12 h13 h14) (fun h15 h16 => b5 h1 h7 h12 h13 h15 h16) (fun h17 h18 => b6 h1 h7 h12 h13 h17 h18) (fun h19 => ?_) (fun h20 h21 => ?_) (fun h22 h23 => ?_)
          · show ez xs 55 55 [some (.ref 3), some (.int l1), some (.int l2), some (.int l3), some (.ref (5 + (0 : Int32).toNatClampNeg))] [.ref (5 + (0 : Int32).toNatClampNeg)] m Q
            refine ez_getN rfl (z_ndi (vp_lt (b4 h1 h7 h12 h13 h19))) (z_nds (vp_lt (b4 h1 h7 h12 h13 h19))) (by decide) rfl ?_
            show ez xs 55 58 [some (.ref 3), some (.int l1), some (.int l2), some (.int l3), some (.ref (5 + (0 : Int32).toNatClampNeg))] [.int (m (5 + (0 : Int32).toNatClampNeg) 4)] m Q
            refine ez_if_eq rfl (fun h24 => ?_) (fun h24 => ?_)
            · show ez xs 55 67 [some (.ref 3), some (.int l1), some (.int l2), some (.int l3), some (.ref (5 + (0 : Int32).toNatClampNeg))] [] m Q
              refine ez_blk 1 rfl ?_
              show ez xs 55 69 [some (.ref 3), some (.int l1), some (.int l2), some (.int l3), some (.ref (5 + (0 : Int32).toNatClampNeg))] [.ref (5 + (0 : Int32).toNatClampNeg)] m Q
              refine ez_getN rfl (z_ndi (vp_lt (b4 h1 h7 h12 h13 h19))) (z_nds (vp_lt (b4 h1 h7 h12 h13 h19))) (by decide) rfl ?_
              show ez xs 55 72 [some (.ref 3), some (.int l1), some (.int l2), some (.int l3), some (.ref (5 + (0 : Int32).toNatClampNeg))] [.int (m (5 + (0 : Int32).toNatClampNeg) 7)] m Q
              refine ez_blk 3 rfl ?_
              show ez xs 55 4 [some (.ref 3), some (.int l1), some (.int (m (5 + (0 : Int32).toNatClampNeg) 7)), some (.int (l3 + 1)), some (.ref (5 + (0 : Int32).toNatClampNeg))] [] m Q
              exact g2 h1 h7 h12 h13 h19 h24
            · show ez xs 55 61 [some (.ref 3), some (.int l1), some (.int l2), some (.int l3), some (.ref (5 + (0 : Int32).toNatClampNeg))] [] m Q
              refine ez_blk 1 rfl ?_
              show ez xs 55 63 [some (.ref 3), some (.int l1), some (.int l2), some (.int l3), some (.ref (5 + (0 : Int32).toNatClampNeg))] [.ref (5 + (0 : Int32).toNatClampNeg)] m Q
              refine ez_getN rfl (z_ndi (vp_lt (b4 h1 h7 h12 h13 h19))) (z_nds (vp_lt (b4 h1 h7 h12 h13 h19))) (by decide) rfl ?_
              show ez xs 55 66 [some (.ref 3), some (.int l1), some (.int l2), some (.int l3), some (.ref (5 + (0 : Int32).toNatClampNeg))] [.int (m (5 + (0 : Int32).toNatClampNeg) 7)] m Q
              exact ez_ret rfl (by decide) rfl (g3 h1 h7 h12 h13 h19 h24)
          · show ez xs 55 55 [some (.ref 3), some (.int l1), some (.int l2), some (.int l3), some (.ref (5 + (0 : Int32).toNatClampNeg))] [.ref (5 + (0 : Int32).toNatClampNeg)] m Q
            refine ez_getN rfl (z_ndi (vp_lt (b5 h1 h7 h12 h13 h20 h21))) (z_nds (vp_lt (b5 h1 h7 h12 h13 h20 h21))) (by decide) rfl ?_
            show ez xs 55 58 [some (.ref 3), some (.int l1), some (.int l2), some (.int l3), some (.ref (5 + (0 : Int32).toNatClampNeg))] [.int (m (5 + (0 : Int32).toNatClampNeg) 4)] m Q
            refine ez_if_eq rfl (fun h25 => ?_) (fun h25 => ?_)
            · show ez xs 55 67 [some (.ref 3), some (.int l1), some (.int l2), some (.int l3), some (.ref (5 + (0 : Int32).toNatClampNeg))] [] m Q
              refine ez_blk 1 rfl ?_
              show ez xs 55 69 [some (.ref 3), some (.int l1), some (.int l2), some (.int l3), some (.ref (5 + (0 : Int32).toNatClampNeg))] [.ref (5 + (0 : Int32).toNatClampNeg)] m Q
              refine ez_getN rfl (z_ndi (vp_lt (b5 h1 h7 h12 h13 h20 h21))) (z_nds (vp_lt (b5 h1 h7 h12 h13 h20 h21))) (by decide) rfl ?_
              show ez xs 55 72 [some (.ref 3), some (.int l1), some (.int l2), some (.int l3), some (.ref (5 + (0 : Int32).toNatClampNeg))] [.int (m (5 + (0 : Int32).toNatClampNeg) 7)] m Q
              refine ez_blk 3 rfl ?_
              show ez xs 55 4 [some (.ref 3), some (.int l1), some (.int (m (5 + (0 : Int32).toNatClampNeg) 7)), some (.int (l3 + 1)), some (.ref (5 + (0 : Int32).toNatClampNeg))] [] m Q
              exact g4 h1 h7 h12 h13 h20 h21 h25
            · show ez xs 55 61 [some (.ref 3), some (.int l1), some (.int l2), some (.int l3), some (.ref (5 + (0 : Int32).toNatClampNeg))] [] m Q
              refine ez_blk 1 rfl ?_
              show ez xs 55 63 [some (.ref 3), some (.int l1), some (.int l2), some (.int l3), some (.ref (5 + (0 : Int32).toNatClampNeg))] [.ref (5 + (0 : Int32).toNatClampNeg)] m Q
              refine ez_getN rfl (z_ndi (vp_lt (b5 h1 h7 h12 h13 h20 h21))) (z_nds (vp_lt (b5 h1 h7 h12 h13 h20 h21))) (by decide) rfl ?_
              show ez xs 55 66 [some (.ref 3), some (.int l1), some (.int l2), some (.int l3), some (.ref (5 + (0 : Int32).toNatClampNeg))] [.int (m (5 + (0 : Int32).toNatClampNeg) 7)] m Q
              exact ez_ret rfl (by decide) rfl (g5 h1 h7 h12 h13 h20 h21 h25)
          · show ez xs 55 55 [some (.ref 3), some (.int l1), some (.int l2), some (.int l3), some (.ref (5 + (0 : Int32).toNatClampNeg))] [.ref (5 + (m (5 + (0 : Int32).toNatClampNeg) 7).toNatClampNeg)] m Q
            refine ez_getN rfl (z_ndi (vp_lt (b6 h1 h7 h12 h13 h22 h23))) (z_nds (vp_lt (b6 h1 h7 h12 h13 h22 h23))) (by decide) rfl ?_
            show ez xs 55 58 [some (.ref 3), some (.int l1), some (.int l2), some (.int l3), some (.ref (5 + (0 : Int32).toNatClampNeg))] [.int (m (5 + (m (5 + (0 : Int32).toNatClampNeg) 7).toNatClampNeg) 4)] m Q
            refine ez_if_eq rfl (fun h26 => ?_) (fun h26 => ?_)
            · show ez xs 55 67 [some (.ref 3), some (.int l1), some (.int l2), some (.int l3), some (.ref (5 + (0 : Int32).toNatClampNeg))] [] m Q
              refine ez_blk 1 rfl ?_
              show ez xs 55 69 [some (.ref 3), some (.int l1), some (.int l2), some (.int l3), some (.ref (5 + (0 : Int32).toNatClampNeg))] [.ref (5 + (0 : Int32).toNatClampNeg)] m Q
              refine ez_getN rfl (z_ndi (vp_lt (b1 h1 h7))) (z_nds (vp_lt (b1 h1 h7))) (by decide) rfl ?_
              show ez xs 55 72 [some (.ref 3), some (.int l1), some (.int l2), some (.int l3), some (.ref (5 + (0 : Int32).toNatClampNeg))] [.int (m (5 + (0 : Int32).toNatClampNeg) 7)] m Q
              refine ez_blk 3 rfl ?_
              show ez xs 55 4 [some (.ref 3), some (.int l1), some (.int (m (5 + (0 : Int32).toNatClampNeg) 7)), some (.int (l3 + 1)), some (.ref (5 + (0 : Int32).toNatClampNeg))] [] m Q
              exact g6 h1 h7 h12 h13 h22 h23 h26
            · show ez xs 55 61 [some (.ref 3), some (.int l1), some (.int l2), some (.int l3), some (.ref (5 + (0 : Int32).toNatClampNeg))] [] m Q
              refine ez_blk 1 rfl ?_
              show ez xs 55 63 [some (.ref 3), some (.int l1), some (.int l2), some (.int l3), some (.ref (5 + (0 : Int32).toNatClampNeg))] [.ref (5 + (0 : Int32).toNatClampNeg)] m Q
              refine ez_getN rfl (z_ndi (vp_lt (b1 h1 h7))) (z_nds (vp_lt (b1 h1 h7))) (by decide) rfl ?_
              show ez xs 55 66 [some (.ref 3), some (.int l1), some (.int l2), some (.int l3), some (.ref (5 + (0 : Int32).toNatClampNeg))] [.int (m (5 + (0 : Int32).toNatClampNeg) 7)] m Q
              exact ez_ret rfl (by decide) rfl (g7 h1 h7 h12 h13 h22 h23 h26)
        · show ez xs 55 41 [some (.ref 3), some (.int l1), some (.int l2), some (.int l3), some (.ref (5 + (0 : Int32).toNatClampNeg))] [] m Q
          refine ez_blk 2 rfl ?_
          show ez xs 55 45 [some (.ref 3), some (.int l1), some (.int l2), some (.int l3), some (.ref (5 + (0 : Int32).toNatClampNeg))] [.int (m 3 1)] m Q
          exact ez_ret rfl (by decide) rfl (g8 h1 h7 h12 h13)
      · show ez xs 55 26 [some (.ref 3), some (.int l1), some (.int l2), some (.int l3), some (.ref (5 + (0 : Int32).toNatClampNeg))] [] m Q
        refine ez_blk 1 rfl ?_
        show ez xs 55 28 [some (.ref 3), some (.int l1), some (.int l2), some (.int l3), some (.ref (5 + (0 : Int32).toNatClampNeg))] [.ref (5 + (0 : Int32).toNatClampNeg)] m Q
        refine ez_getN rfl (z_ndi (vp_lt (b1 h1 h7))) (z_nds (vp_lt (b1 h1 h7))) (by decide) rfl ?_
        show ez xs 55 31 [some (.ref 3), some (.int l1), some (.int l2), some (.int l3), some (.ref (5 + (0 : Int32).toNatClampNeg))] [.int (m (5 + (0 : Int32).toNatClampNeg) 8)] m Q
        exact ez_ret rfl (by decide) rfl (g9 h1 h7 h12)
    · show ez xs 55 15 [some (.ref 3), some (.int l1), some (.int l2), some (.int l3), o4] [.ref (5 + (0 : Int32).toNatClampNeg)] m Q
      refine ez_blk 2 rfl ?_
      show ez xs 55 19 [some (.ref 3), some (.int l1), some (.int l2), some (.int l3), some (.ref (5 + (0 : Int32).toNatClampNeg))] [.ref (5 + (0 : Int32).toNatClampNeg)] m Q
      refine ez_getN rfl (z_ndi (vp_lt (b2 h1 h8 h9))) (z_nds (vp_lt (b2 h1 h8 h9))) (by decide) rfl ?_
      show ez xs 55 22 [some (.ref 3), some (.int l1), some (.int l2), some (.int l3), some (.ref (5 + (0 : Int32).toNatClampNeg))] [.int (m (5 + (0 : Int32).toNatClampNeg) 8)] m Q
      refine ez_blk 1 rfl ?_
      show ez xs 55 23 [some (.ref 3), some (.int l1), some (.int l2), some (.int l3), some (.ref (5 + (0 : Int32).toNatClampNeg))] [.int (-1), .int (m (5 + (0 : Int32).toNatClampNeg) 8)] m Q
      refine ez_icmp_eq rfl (fun h27 => ?_) (fun h27 => ?_)
      · show ez xs 55 32 [some (.ref 3), some (.int l1), some (.int l2), some (.int l3), some (.ref (5 + (0 : Int32).toNatClampNeg))] [] m Q
        refine ez_blk 1 rfl ?_
        show ez xs 55 34 [some (.ref 3), some (.int l1), some (.int l2), some (.int l3), some (.ref (5 + (0 : Int32).toNatClampNeg))] [.ref (5 + (0 : Int32).toNatClampNeg)] m Q
        refine ez_getN rfl (z_ndi (vp_lt (b2 h1 h8 h9))) (z_nds (vp_lt (b2 h1 h8 h9))) (by decide) rfl ?_
        show ez xs 55 37 [some (.ref 3), some (.int l1), some (.int l2), some (.int l3), some (.ref (5 + (0 : Int32).toNatClampNeg))] [.int (m (5 + (0 : Int32).toNatClampNeg) 7)] m Q
        refine ez_blk 1 rfl ?_
        show ez xs 55 38 [some (.ref 3), some (.int l1), some (.int l2), some (.int l3), some (.ref (5 + (0 : Int32).toNatClampNeg))] [.int (-1), .int (m (5 + (0 : Int32).toNatClampNeg) 7)] m Q
        refine ez_icmp_ne rfl (fun h28 => ?_) (fun h28 => ?_)
        · show ez xs 55 46 [some (.ref 3), some (.int l1), some (.int l2), some (.int l3), some (.ref (5 + (0 : Int32).toNatClampNeg))] [] m Q
          refine ez_blk 2 rfl ?_
          show ez xs 55 49 [some (.ref 3), some (.int l1), some (.int l2), some (.int l3), some (.ref (5 + (0 : Int32).toNatClampNeg))] [.ref (5 + (0 : Int32).toNatClampNeg), .ref 3] m Q
          refine ez_getN rfl (z_ndi (vp_lt (b2 h1 h8 h9))) (z_nds (vp_lt (b2 h1 h8 h9))) (by decide) rfl ?_
          show ez xs 55 52 [some (.ref 3), some (.int l1), some (.int l2), some (.int l3), some (.ref (5 + (0 : Int32).toNatClampNeg))] [.int (m (5 + (0 : Int32).toNatClampNeg) 7), .ref 3] m Q
          refine ez_call (as := [.ref 3, .int (m (5 + (0 : Int32).toNatClampNeg) 7)]) (rest := []) rfl (by decide) rfl ?_
          refine c_Program_node (fun h29 => b7 h1 h8 h9 h27 h28 h29) (fun h30 h31 => b8 h1 h8 h9 h27 h28 h30 h31) (fun h32 h33 => b9 h1 h8 h9 h27 h28 h32 h33) (fun h34 => ?_) (fun h35 h36 => ?_) (fun h37 h38 => ?_)
          · show ez xs 55 55 [some (.ref 3), some (.int l1), some (.int l2), some (.int l3), some (.ref (5 + (0 : Int32).toNatClampNeg))] [.ref (5 + (0 : Int32).toNatClampNeg)] m Q
            refine ez_getN rfl (z_ndi (vp_lt (b7 h1 h8 h9 h27 h28 h34))) (z_nds (vp_lt (b7 h1 h8 h9 h27 h28 h34))) (by decide) rfl ?_
            show ez xs 55 58 [some (.ref 3), some (.int l1), some (.int l2), some (.int l3), some (.ref (5 + (0 : Int32).toNatClampNeg))] [.int (m (5 + (0 : Int32).toNatClampNeg) 4)] m Q
            refine ez_if_eq rfl (fun h39 => ?_) (fun h39 => ?_)
            · show ez xs 55 67 [some (.ref 3), some (.int l1), some (.int l2), some (.int l3), some (.ref (5 + (0 : Int32).toNatClampNeg))] [] m Q
              refine ez_blk 1 rfl ?_
              show ez xs 55 69 [some (.ref 3), some (.int l1), some (.int l2), some (.int l3), some (.ref (5 + (0 : Int32).toNatClampNeg))] [.ref (5 + (0 : Int32).toNatClampNeg)] m Q
              refine ez_getN rfl (z_ndi (vp_lt (b7 h1 h8 h9 h27 h28 h34))) (z_nds (vp_lt (b7 h1 h8 h9 h27 h28 h34))) (by decide) rfl ?_
              show ez xs 55 72 [some (.ref 3), some (.int l1), some (.int l2), some (.int l3), some (.ref (5 + (0 : Int32).toNatClampNeg))] [.int (m (5 + (0 : Int32).toNatClampNeg) 7)] m Q
              refine ez_blk 3 rfl ?_
              show ez xs 55 4 [some (.ref 3), some (.int l1), some (.int (m (5 + (0 : Int32).toNatClampNeg) 7)), some (.int (l3 + 1)), some (.ref (5 + (0 : Int32).toNatClampNeg))] [] m Q
              exact g10 h1 h8 h9 h27 h28 h34 h39
            · show ez xs 55 61 [some (.ref 3), some (.int l1), some (.int l2), some (.int l3), some (.ref (5 + (0 : Int32).toNatClampNeg))] [] m Q
              refine ez_blk 1 rfl ?_
              show ez xs 55 63 [some (.ref 3), some (.int l1), some (.int l2), some (.int l3), some (.ref (5 + (0 : Int32).toNatClampNeg))] [.ref (5 + (0 : Int32).toNatClampNeg)] m Q
              refine ez_getN rfl (z_ndi (vp_lt (b7 h1 h8 h9 h27 h28 h34))) (z_nds (vp_lt (b7 h1 h8 h9 h27 h28 h34))) (by decide) rfl ?_
              show ez xs 55 66 [some (.ref 3), some (.int l1), some (.int l2), some (.int l3), some (.ref (5 + (0 : Int32).toNatClampNeg))] [.int (m (5 + (0 : Int32).toNatClampNeg) 7)] m Q
              exact ez_ret rfl (by decide) rfl (g11 h1 h8 h9 h27 h28 h34 h39)
          · show ez xs 55 55 [some (.ref 3), some (.int l1), some (.int l2), some (.int l3), some (.ref (5 + (0 : Int32).toNatClampNeg))] [.ref (5 + (0 : Int32).toNatClampNeg)] m Q
            refine ez_getN rfl (z_ndi (vp_lt (b8 h1 h8 h9 h27 h28 h35 h36))) (z_nds (vp_lt (b8 h1 h8 h9 h27 h28 h35 h36))) (by decide) rfl ?_
            show ez xs 55 58 [some (.ref 3), some (.int l1), some (.int l2), some (.int l3), some (.ref (5 + (0 : Int32).toNatClampNeg))] [.int (m (5 + (0 : Int32).toNatClampNeg) 4)] m Q
            refine ez_if_eq rfl (fun h40 => ?_) (fun h40 => ?_)
            · show ez xs 55 67 [some (.ref 3), some (.int l1), some (.int l2), some (.int l3), some (.ref (5 + (0 : Int32).toNatClampNeg))] [] m Q
              refine ez_blk 1 rfl ?_
              show ez xs 55 69 [some (.ref 3), some (.int l1), some (.int l2), some (.int l3), some (.ref (5 + (0 : Int32).toNatClampNeg))] [.ref (5 + (0 : Int32).toNatClampNeg)] m Q
              refine ez_getN rfl (z_ndi (vp_lt (b8 h1 h8 h9 h27 h28 h35 h36))) (z_nds (vp_lt (b8 h1 h8 h9 h27 h28 h35 h36))) (by decide) rfl ?_
              show ez xs 55 72 [some (.ref 3), some (.int l1), some (.int l2), some (.int l3), some (.ref (5 + (0 : Int32).toNatClampNeg))] [.int (m (5 + (0 : Int32).toNatClampNeg) 7)] m Q
              refine ez_blk 3 rfl ?_
              show ez xs 55 4 [some (.ref 3), some (.int l1), some (.int (m (5 + (0 : Int32).toNatClampNeg) 7)), some (.int (l3 + 1)), some (.ref (5 + (0 : Int32).toNatClampNeg))] [] m Q
              exact g12 h1 h8 h9 h27 h28 h35 h36 h40
            · show ez xs 55 61 [some (.ref 3), some (.int l1), some (.int l2), some (.int l3), some (.ref (5 + (0 : Int32).toNatClampNeg))] [] m Q
              refine ez_blk 1 rfl ?_
              show ez xs 55 63 [some (.ref 3), some (.int l1), some (.int l2), some (.int l3), some (.ref (5 + (0 : Int32).toNatClampNeg))] [.ref (5 + (0 : Int32).toNatClampNeg)] m Q
              refine ez_getN rfl (z_ndi (vp_lt (b8 h1 h8 h9 h27 h28 h35 h36))) (z_nds (vp_lt (b8 h1 h8 h9 h27 h28 h35 h36))) (by decide) rfl ?_
              show ez xs 55 66 [some (.ref 3), some (.int l1), some (.int l2), some (.int l3), some (.ref (5 + (0 : Int32).toNatClampNeg))] [.int (m (5 + (0 : Int32).toNatClampNeg) 7)] m Q
              exact ez_ret rfl (by decide) rfl (g13 h1 h8 h9 h27 h28 h35 h36 h40)
          · show ez xs 55 55 [some (.ref 3), some (.int l1), some (.int l2), some (.int l3), some (.ref (5 + (0 : Int32).toNatClampNeg))] [.ref (5 + (m (5 + (0 : Int32).toNatClampNeg) 7).toNatClampNeg)] m Q
            refine ez_getN rfl (z_ndi (vp_lt (b9 h1 h8 h9 h27 h28 h37 h38))) (z_nds (vp_lt (b9 h1 h8 h9 h27 h28 h37 h38))) (by decide) rfl ?_
            show ez xs 55 58 [some (.ref 3), some (.int l1), some (.int l2), some (.int l3), some (.ref (5 + (0 : Int32).toNatClampNeg))] [.int (m (5 + (m (5 + (0 : Int32).toNatClampNeg) 7).toNatClampNeg) 4)] m Q
            refine ez_if_eq rfl (fun h41 => ?_) (fun h41 => ?_)
            · show ez xs 55 67 [some (.ref 3), some (.int l1), some (.int l2), some (.int l3), some (.ref (5 + (0 : Int32).toNatClampNeg))] [] m Q
              refine ez_blk 1 rfl ?_
              show ez xs 55 69 [some (.ref 3), some (.int l1), some (.int l2), some (.int l3), some (.ref (5 + (0 : Int32).toNatClampNeg))] [.ref (5 + (0 : Int32).toNatClampNeg)] m Q
              refine ez_getN rfl (z_ndi (vp_lt (b2 h1 h8 h9))) (z_nds (vp_lt (b2 h1 h8 h9))) (by decide) rfl ?_
              show ez xs 55 72 [some (.ref 3), some (.int l1), some (.int l2), some (.int l3), some (.ref (5 + (0 : Int32).toNatClampNeg))] [.int (m (5 + (0 : Int32).toNatClampNeg) 7)] m Q
              refine ez_blk 3 rfl ?_
              show ez xs 55 4 [some (.ref 3), some (.int l1), some (.int (m (5 + (0 : Int32).toNatClampNeg) 7)), some (.int (l3 + 1)), some (.ref (5 + (0 : Int32).toNatClampNeg))] [] m Q
              exact g14 h1 h8 h9 h27 h28 h37 h38 h41
            · show ez xs 55 61 [some (.ref 3), some (.int l1), some (.int l2), some (.int l3), some (.ref (5 + (0 : Int32).toNatClampNeg))] [] m Q
              refine ez_blk 1 rfl ?_
              show ez xs 55 63 [some (.ref 3), some (.int l1), some (.int l2), some (.int l3), some (.ref (5 + (0 : Int32).toNatClampNeg))] [.ref (5 + (0 : Int32).toNatClampNeg)] m Q
              refine ez_getN rfl (z_ndi (vp_lt (b2 h1 h8 h9))) (z_nds (vp_lt (b2 h1 h8 h9))) (by decide) rfl ?_
              show ez xs 55 66 [some (.ref 3), some (.int l1), some (.int l2), some (.int l3), some (.ref (5 + (0 : Int32).toNatClampNeg))] [.int (m (5 + (0 : Int32).toNatClampNeg) 7)] m Q
              exact ez_ret rfl (by decide) rfl (g15 h1 h8 h9 h27 h28 h37 h38 h41)
        · show ez xs 55 41 [some (.ref 3), some (.int l1), some (.int l2), some (.int l3), some (.ref (5 + (0 : Int32).toNatClampNeg))] [] m Q
          refine ez_blk 2 rfl ?_
          show ez xs 55 45 [some (.ref 3), some (.int l1), some (.int l2), some (.int l3), some (.ref (5 + (0 : Int32).toNatClampNeg))] [.int (m 3 1)] m Q
          exact ez_ret rfl (by decide) rfl (g16 h1 h8 h9 h27 h28)
      · show ez xs 55 26 [some (.ref 3), some (.int l1), some (.int l2), some (.int l3), some (.ref (5 + (0 : Int32).toNatClampNeg))] [] m Q
        refine ez_blk 1 rfl ?_
        show ez xs 55 28 [some (.ref 3), some (.int l1), some (.int l2), some (.int l3), some (.ref (5 + (0 : Int32).toNatClampNeg))] [.ref (5 + (0 : Int32).toNatClampNeg)] m Q
        refine ez_getN rfl (z_ndi (vp_lt (b2 h1 h8 h9))) (z_nds (vp_lt (b2 h1 h8 h9))) (by decide) rfl ?_
        show ez xs 55 31 [some (.ref 3), some (.int l1), some (.int l2), some (.int l3), some (.ref (5 + (0 : Int32).toNatClampNeg))] [.int (m (5 + (0 : Int32).toNatClampNeg) 8)] m Q
        exact ez_ret rfl (by decide) rfl (g17 h1 h8 h9 h27)
    · show ez xs 55 15 [some (.ref 3), some (.int l1), some (.int l2), some (.int l3), o4] [.ref (5 + l2.toNatClampNeg)] m Q
      refine ez_blk 2 rfl ?_
      show ez xs 55 19 [some (.ref 3), some (.int l1), some (.int l2), some (.int l3), some (.ref (5 + l2.toNatClampNeg))] [.ref (5 + l2.toNatClampNeg)] m Q
      refine ez_getN rfl (z_ndi (vp_lt (b3 h1 h10 h11))) (z_nds (vp_lt (b3 h1 h10 h11))) (by decide) rfl ?_
      show ez xs 55 22 [some (.ref 3), some (.int l1), some (.int l2), some (.int l3), some (.ref (5 + l2.toNatClampNeg))] [.int (m (5 + l2.toNatClampNeg) 8)] m Q
      refine ez_blk 1 rfl ?_
      show ez xs 55 23 [some (.ref 3), some (.int l1), some (.int l2), some (.int l3), some (.ref (5 + l2.toNatClampNeg))] [.int (-1), .int (m (5 + l2.toNatClampNeg) 8)] m Q
      refine ez_icmp_eq rfl (fun h42 => ?_) (fun h42 => ?_)
      · show ez xs 55 32 [some (.ref 3), some (.int l1), some (.int l2), some (.int l3), some (.ref (5 + l2.toNatClampNeg))] [] m Q
        refine ez_blk 1 rfl ?_
        show ez xs 55 34 [some (.ref 3), some (.int l1), some (.int l2), some (.int l3), some (.ref (5 + l2.toNatClampNeg))] [.ref (5 + l2.toNatClampNeg)] m Q
        refine ez_getN rfl (z_ndi (vp_lt (b3 h1 h10 h11))) (z_nds (vp_lt (b3 h1 h10 h11))) (by decide) rfl ?_
        show ez xs 55 37 [some (.ref 3), some (.int l1), some (.int l2), some (.int l3), some (.ref (5 + l2.toNatClampNeg))] [.int (m (5 + l2.toNatClampNeg) 7)] m Q
        refine ez_blk 1 rfl ?_
        show ez xs 55 38 [some (.ref 3), some (.int l1), some (.int l2), some (.int l3), some (.ref (5 + l2.toNatClampNeg))] [.int (-1), .int (m (5 + l2.toNatClampNeg) 7)] m Q
        refine ez_icmp_ne rfl (fun h43 => ?_) (fun h43 => ?_)
        · show ez xs 55 46 [some (.ref 3), some (.int l1), some (.int l2), some (.int l3), some (.ref (5 + l2.toNatClampNeg))] [] m Q
          refine ez_blk 2 rfl ?_
          show ez xs 55 49 [some (.ref 3), some (.int l1), some (.int l2), some (.int l3), some (.ref (5 + l2.toNatClampNeg))] [.ref (5 + l2.toNatClampNeg), .ref 3] m Q
          refine ez_getN rfl (z_ndi (vp_lt (b3 h1 h10 h11))) (z_nds (vp_lt (b3 h1 h10 h11))) (by decide) rfl ?_
          show ez xs 55 52 [some (.ref 3), some (.int l1), some (.int l2), some (.int l3), some (.ref (5 + l2.toNatClampNeg))] [.int (m (5 + l2.toNatClampNeg) 7), .ref 3] m Q
          refine ez_call (as := [.ref 3, .int (m (5 + l2.toNatClampNeg) 7)]) (rest := []) rfl (by decide) rfl ?_
          refine c_Program_node (fun h44 => b10 h1 h10 h11 h42 h43 h44) (fun h45 h46 => b11 h1 h10 h11 h42 h43 h45 h46) (fun h47 h48 => b12 h1 h10 h11 h42 h43 h47 h48) (fun h49 => ?_) (fun h50 h51 => ?_) (fun h52 h53 => ?_)
          · show ez xs 55 55 [some (.ref 3), some (.int l1), some (.int l2), some (.int l3), some (.ref (5 + l2.toNatClampNeg))] [.ref (5 + (0 : Int32).toNatClampNeg)] m Q
            refine ez_getN rfl (z_ndi (vp_lt (b10 h1 h10 h11 h42 h43 h49))) (z_nds (vp_lt (b10 h1 h10 h11 h42 h43 h49))) (by decide) rfl ?_
            show ez xs 55 58 [some (.ref 3), some (.int l1), some (.int l2), some (.int l3), some (.ref (5 + l2.toNatClampNeg))] [.int (m (5 + (0 : Int32).toNatClampNeg) 4)] m Q
            refine ez_if_eq rfl (fun h54 => ?_) (fun h54 => ?_)
            · show ez xs 55 67 [some (.ref 3), some (.int l1), some (.int l2), some (.int l3), some (.ref (5 + l2.toNatClampNeg))] [] m Q
              refine ez_blk 1 rfl ?_
              show ez xs 55 69 [some (.ref 3), some (.int l1), some (.int l2), some (.int l3), some (.ref (5 + l2.toNatClampNeg))] [.ref (5 + l2.toNatClampNeg)] m Q
              refine ez_getN rfl (z_ndi (vp_lt (b3 h1 h10 h11))) (z_nds (vp_lt (b3 h1 h10 h11))) (by decide) rfl ?_
              show ez xs 55 72 [some (.ref 3), some (.int l1), some (.int l2), some (.int l3), some (.ref (5 + l2.toNatClampNeg))] [.int (m (5 + l2.toNatClampNeg) 7)] m Q
              refine ez_blk 3 rfl ?_
              show ez xs 55 4 [some (.ref 3), some (.int l1), some (.int (m (5 + l2.toNatClampNeg) 7)), some (.int (l3 + 1)), some (.ref (5 + l2.toNatClampNeg))] [] m Q
              exact g18 h1 h10 h11 h42 h43 h49 h54
            · show ez xs 55 61 [some (.ref 3), some (.int l1), some (.int l2), some (.int l3), some (.ref (5 + l2.toNatClampNeg))] [] m Q
              refine ez_blk 1 rfl ?_
              show ez xs 55 63 [some (.ref 3), some (.int l1), some (.int l2), some (.int l3), some (.ref (5 + l2.toNatClampNeg))] [.ref (5 + l2.toNatClampNeg)] m Q
              refine ez_getN rfl (z_ndi (vp_lt (b3 h1 h10 h11))) (z_nds (vp_lt (b3 h1 h10 h11))) (by decide) rfl ?_
              show ez xs 55 66 [some (.ref 3), some (.int l1), some (.int l2), some (.int l3), some (.ref (5 + l2.toNatClampNeg))] [.int (m (5 + l2.toNatClampNeg) 7)] m Q
              exact ez_ret rfl (by decide) rfl (g19 h1 h10 h11 h42 h43 h49 h54)
          · show ez xs 55 55 [some (.ref 3), some (.int l1), some (.int l2), some (.int l3), some (.ref (5 + l2.toNatClampNeg))] [.ref (5 + (0 : Int32).toNatClampNeg)] m Q
            refine ez_getN rfl (z_ndi (vp_lt (b11 h1 h10 h11 h42 h43 h50 h51))) (z_nds (vp_lt (b11 h1 h10 h11 h42 h43 h50 h51))) (by decide) rfl ?_
            show ez xs 55 58 [some (.ref 3), some (.int l1), some (.int l2), some (.int l3), some (.ref (5 + l2.toNatClampNeg))] [.int (m (5 + (0 : Int32).toNatClampNeg) 4)] m Q
            refine ez_if_eq rfl (fun h55 => ?_) (fun h55 => ?_)
            · show ez xs 55 67 [some (.ref 3), some (.int l1), some (.int l2), some (.int l3), some (.ref (5 + l2.toNatClampNeg))] [] m Q
              refine ez_blk 1 rfl ?_
              show ez xs 55 69 [some (.ref 3), some (.int l1), some (.int l2), some (.int l3), some (.ref (5 + l2.toNatClampNeg))] [.ref (5 + l2.toNatClampNeg)] m Q
              refine ez_getN rfl (z_ndi (vp_lt (b3 h1 h10 h11))) (z_nds (vp_lt (b3 h1 h10 h11))) (by decide) rfl ?_
              show ez xs 55 72 [some (.ref 3), some (.int l1), some (.int l2), some (.int l3), some (.ref (5 + l2.toNatClampNeg))] [.int (m (5 + l2.toNatClampNeg) 7)] m Q
              refine ez_blk 3 rfl ?_
              show ez xs 55 4 [some (.ref 3), some (.int l1), some (.int (m (5 + l2.toNatClampNeg) 7)), some (.int (l3 + 1)), some (.ref (5 + l2.toNatClampNeg))] [] m Q
              exact g20 h1 h10 h11 h42 h43 h50 h51 h55
            · show ez xs 55 61 [some (.ref 3), some (.int l1), some (.int l2), some (.int l3), some (.ref (5 + l2.toNatClampNeg))] [] m Q
              refine ez_blk 1 rfl ?_
              show ez xs 55 63 [some (.ref 3), some (.int l1), some (.int l2), some (.int l3), some (.ref (5 + l2.toNatClampNeg))] [.ref (5 + l2.toNatClampNeg)] m Q
              refine ez_getN rfl (z_ndi (vp_lt (b3 h1 h10 h11))) (z_nds (vp_lt (b3 h1 h10 h11))) (by decide) rfl ?_
              show ez xs 55 66 [some (.ref 3), some (.int l1), some (.int l2), some (.int l3), some (.ref (5 + l2.toNatClampNeg))] [.int (m (5 + l2.toNatClampNeg) 7)] m Q
              exact ez_ret rfl (by decide) rfl (g21 h1 h10 h11 h42 h43 h50 h51 h55)
          · show ez xs 55 55 [some (.ref 3), some (.int l1), some (.int l2), some (.int l3), some (.ref (5 + l2.toNatClampNeg))] [.ref (5 + (m (5 + l2.toNatClampNeg) 7).toNatClampNeg)] m Q
            refine ez_getN rfl (z_ndi (vp_lt (b12 h1 h10 h11 h42 h43 h52 h53))) (z_nds (vp_lt (b12 h1 h10 h11 h42 h43 h52 h53))) (by decide) rfl ?_
            show ez xs 55 58 [some (.ref 3), some (.int l1), some (.int l2), some (.int l3), some (.ref (5 + l2.toNatClampNeg))] [.int (m (5 + (m (5 + l2.toNatClampNeg) 7).toNatClampNeg) 4)] m Q
            refine ez_if_eq rfl (fun h56 => ?_) (fun h56 => ?_)
            · show ez xs 55 67 [some (.ref 3), some (.int l1), some (.int l2), some (.int l3), some (.ref (5 + l2.toNatClampNeg))] [] m Q
              refine ez_blk 1 rfl ?_
              show ez xs 55 69 [some (.ref 3), some (.int l1), some (.int l2), some (.int l3), some (.ref (5 + l2.toNatClampNeg))] [.ref (5 + l2.toNatClampNeg)] m Q
              refine ez_getN rfl (z_ndi (vp_lt (b3 h1 h10 h11))) (z_nds (vp_lt (b3 h1 h10 h11))) (by decide) rfl ?_
              show ez xs 55 72 [some (.ref 3), some (.int l1), some (.int l2), some (.int l3), some (.ref (5 + l2.toNatClampNeg))] [.int (m (5 + l2.toNatClampNeg) 7)] m Q
              refine ez_blk 3 rfl ?_
              show ez xs 55 4 [some (.ref 3), some (.int l1), some (.int (m (5 + l2.toNatClampNeg) 7)), some (.int (l3 + 1)), some (.ref (5 + l2.toNatClampNeg))] [] m Q
              exact g22 h1 h10 h11 h42 h43 h52 h53 h56
            · show ez xs 55 61 [some (.ref 3), some (.int l1), some (.int l2), some (.int l3), some (.ref (5 + l2.toNatClampNeg))] [] m Q
              refine ez_blk 1 rfl ?_
              show ez xs 55 63 [some (.ref 3), some (.int l1), some (.int l2), some (.int l3), some (.ref (5 + l2.toNatClampNeg))] [.ref (5 + l2.toNatClampNeg)] m Q
              refine ez_getN rfl (z_ndi (vp_lt (b3 h1 h10 h11))) (z_nds (vp_lt (b3 h1 h10 h11))) (by decide) rfl ?_
              show ez xs 55 66 [some (.ref 3), some (.int l1), some (.int l2), some (.int l3), some (.ref (5 + l2.toNatClampNeg))] [.int (m (5 + l2.toNatClampNeg) 7)] m Q
              exact ez_ret rfl (by decide) rfl (g23 h1 h10 h11 h42 h43 h52 h53 h56)
        · show ez xs 55 41 [some (.ref 3), some (.int l1), some (.int l2), some (.int l3), some (.ref (5 + l2.toNatClampNeg))] [] m Q
          refine ez_blk 2 rfl ?_
          show ez xs 55 45 [some (.ref 3), some (.int l1), some (.int l2), some (.int l3), some (.ref (5 + l2.toNatClampNeg))] [.int (m 3 1)] m Q
          exact ez_ret rfl (by decide) rfl (g24 h1 h10 h11 h42 h43)
      · show ez xs 55 26 [some (.ref 3), some (.int l1), some (.int l2), some (.int l3), some (.ref (5 + l2.toNatClampNeg))] [] m Q
        refine ez_blk 1 rfl ?_
        show ez xs 55 28 [some (.ref 3), some (.int l1), some (.int l2), some (.int l3), some (.ref (5 + l2.toNatClampNeg))] [.ref (5 + l2.toNatClampNeg)] m Q
        refine ez_getN rfl (z_ndi (vp_lt (b3 h1 h10 h11))) (z_nds (vp_lt (b3 h1 h10 h11))) (by decide) rfl ?_
        show ez xs 55 31 [some (.ref 3), some (.int l1), some (.int l2), some (.int l3), some (.ref (5 + l2.toNatClampNeg))] [.int (m (5 + l2.toNatClampNeg) 8)] m Q
        exact ez_ret rfl (by decide) rfl (g25 h1 h10 h11 h42)
set_option maxRecDepth 100000 in
set_option maxHeartbeats 2000000 in
theorem c_PathPatcher_item {xs : jx_Xs} {m : zM} {Q : Option Value → zM → Prop} {w o f x y : Int32}
    (b1 : (¬ f_Pattern_isSound m o f x y = 0) → (¬ o = 3) → (m 36 1 < 6) → vp_in (m 36 1) 6)
    (b2 : (¬ f_Pattern_isSound m o f x y = 0) → (¬ o = 3) → (m 36 1 < 6) → jx_fit .boolean w = true)
    (b3 : (¬ f_Pattern_isSound m o f x y = 0) → (¬ o = 3) → (m 36 1 < 6) → vp_in ((jj_up (jj_up (jj_up (jj_up (jj_up (jj_up (jj_up m (39 + 6 * ((m 36 1).toNatClampNeg)) 0 o) (39 + 6 * ((m 36 1).toNatClampNeg)) 1 (f_Pattern_describe_u1 m o f x y (39 + 6 * ((m 36 1).toNatClampNeg)))) (39 + 6 * ((m 36 1).toNatClampNeg)) 2 (f_Pattern_describe_u2 m o f x y (39 + 6 * ((m 36 1).toNatClampNeg)))) (39 + 6 * ((m 36 1).toNatClampNeg)) 3 (f_Pattern_describe_u3 m o f x y (39 + 6 * ((m 36 1).toNatClampNeg)))) (38 + 6 * ((m 36 1).toNatClampNeg)) 3 0) (38 + 6 * ((m 36 1).toNatClampNeg)) 4 w) (38 + 6 * ((m 36 1).toNatClampNeg)) 5 0) 36 1) 6)
    (b4 : (¬ f_Pattern_isSound m o f x y = 0) → (o = 3) → (w = 0) → (m 36 1 < 6) → vp_in (m 36 1) 6)
    (b5 : (¬ f_Pattern_isSound m o f x y = 0) → (o = 3) → (w = 0) → (m 36 1 < 6) → jx_fit .boolean w = true)
    (b6 : (¬ f_Pattern_isSound m o f x y = 0) → (o = 3) → (w = 0) → (m 36 1 < 6) → vp_in ((jj_up (jj_up (jj_up (jj_up (jj_up (jj_up (jj_up m (39 + 6 * ((m 36 1).toNatClampNeg)) 0 o) (39 + 6 * ((m 36 1).toNatClampNeg)) 1 (f_Pattern_describe_u1 m o f x y (39 + 6 * ((m 36 1).toNatClampNeg)))) (39 + 6 * ((m 36 1).toNatClampNeg)) 2 (f_Pattern_describe_u2 m o f x y (39 + 6 * ((m 36 1).toNatClampNeg)))) (39 + 6 * ((m 36 1).toNatClampNeg)) 3 (f_Pattern_describe_u3 m o f x y (39 + 6 * ((m 36 1).toNatClampNeg)))) (38 + 6 * ((m 36 1).toNatClampNeg)) 3 0) (38 + 6 * ((m 36 1).toNatClampNeg)) 4 w) (38 + 6 * ((m 36 1).toNatClampNeg)) 5 0) 36 1) 6)
    (g1 : (¬ f_Pattern_isSound m o f x y = 0) → (¬ o = 3) → (m 36 1 < 6) → Q (some (.int ((jj_up (jj_up (jj_up (jj_up (jj_up (jj_up (jj_up (jj_up (jj_up (jj_up m (39 + 6 * ((m 36 1).toNatClampNeg)) 0 o) (39 + 6 * ((m 36 1).toNatClampNeg)) 1 (f_Pattern_describe_u1 m o f x y (39 + 6 * ((m 36 1).toNatClampNeg)))) (39 + 6 * ((m 36 1).toNatClampNeg)) 2 (f_Pattern_describe_u2 m o f x y (39 + 6 * ((m 36 1).toNatClampNeg)))) (39 + 6 * ((m 36 1).toNatClampNeg)) 3 (f_Pattern_describe_u3 m o f x y (39 + 6 * ((m 36 1).toNatClampNeg)))) (38 + 6 * ((m 36 1).toNatClampNeg)) 3 0) (38 + 6 * ((m 36 1).toNatClampNeg)) 4 w) (38 + 6 * ((m 36 1).toNatClampNeg)) 5 0) 36 2 (((jj_up (jj_up (jj_up (jj_up (jj_up (jj_up (jj_up m (39 + 6 * ((m 36 1).toNatClampNeg)) 0 o) (39 + 6 * ((m 36 1).toNatClampNeg)) 1 (f_Pattern_describe_u1 m o f x y (39 + 6 * ((m 36 1).toNatClampNeg)))) (39 + 6 * ((m 36 1).toNatClampNeg)) 2 (f_Pattern_describe_u2 m o f x y (39 + 6 * ((m 36 1).toNatClampNeg)))) (39 + 6 * ((m 36 1).toNatClampNeg)) 3 (f_Pattern_describe_u3 m o f x y (39 + 6 * ((m 36 1).toNatClampNeg)))) (38 + 6 * ((m 36 1).toNatClampNeg)) 3 0) (38 + 6 * ((m 36 1).toNatClampNeg)) 4 w) (38 + 6 * ((m 36 1).toNatClampNeg)) 5 0) 36 2) ||| (f_Pattern_unknownsIn (jj_up (jj_up (jj_up (jj_up (jj_up (jj_up (jj_up m (39 + 6 * ((m 36 1).toNatClampNeg)) 0 o) (39 + 6 * ((m 36 1).toNatClampNeg)) 1 (f_Pattern_describe_u1 m o f x y (39 + 6 * ((m 36 1).toNatClampNeg)))) (39 + 6 * ((m 36 1).toNatClampNeg)) 2 (f_Pattern_describe_u2 m o f x y (39 + 6 * ((m 36 1).toNatClampNeg)))) (39 + 6 * ((m 36 1).toNatClampNeg)) 3 (f_Pattern_describe_u3 m o f x y (39 + 6 * ((m 36 1).toNatClampNeg)))) (38 + 6 * ((m 36 1).toNatClampNeg)) 3 0) (38 + 6 * ((m 36 1).toNatClampNeg)) 4 w) (38 + 6 * ((m 36 1).toNatClampNeg)) 5 0) ((jj_up (jj_up (jj_up (jj_up (jj_up (jj_up (jj_up m (39 + 6 * ((m 36 1).toNatClampNeg)) 0 o) (39 + 6 * ((m 36 1).toNatClampNeg)) 1 (f_Pattern_describe_u1 m o f x y (39 + 6 * ((m 36 1).toNatClampNeg)))) (39 + 6 * ((m 36 1).toNatClampNeg)) 2 (f_Pattern_describe_u2 m o f x y (39 + 6 * ((m 36 1).toNatClampNeg)))) (39 + 6 * ((m 36 1).toNatClampNeg)) 3 (f_Pattern_describe_u3 m o f x y (39 + 6 * ((m 36 1).toNatClampNeg)))) (38 + 6 * ((m 36 1).toNatClampNeg)) 3 0) (38 + 6 * ((m 36 1).toNatClampNeg)) 4 w) (38 + 6 * ((m 36 1).toNatClampNeg)) 5 0) (39 + 6 * ((jj_up (jj_up (jj_up (jj_up (jj_up (jj_up (jj_up m (39 + 6 * ((m 36 1).toNatClampNeg)) 0 o) (39 + 6 * ((m 36 1).toNatClampNeg)) 1 (f_Pattern_describe_u1 m o f x y (39 + 6 * ((m 36 1).toNatClampNeg)))) (39 + 6 * ((m 36 1).toNatClampNeg)) 2 (f_Pattern_describe_u2 m o f x y (39 + 6 * ((m 36 1).toNatClampNeg)))) (39 + 6 * ((m 36 1).toNatClampNeg)) 3 (f_Pattern_describe_u3 m o f x y (39 + 6 * ((m 36 1).toNatClampNeg)))) (38 + 6 * ((m 36 1).toNatClampNeg)) 3 0) (38 + 6 * ((m 36 1).toNatClampNeg)) 4 w) (38 + 6 * ((m 36 1).toNatClampNeg)) 5 0) 36 1).toNatClampNeg) 0) ((jj_up (jj_up (jj_up (jj_up (jj_up (jj_up (jj_up m (39 + 6 * ((m 36 1).toNatClampNeg)) 0 o) (39 + 6 * ((m 36 1).toNatClampNeg)) 1 (f_Pattern_describe_u1 m o f x y (39 + 6 * ((m 36 1).toNatClampNeg)))) (39 + 6 * ((m 36 1).toNatClampNeg)) 2 (f_Pattern_describe_u2 m o f x y (39 + 6 * ((m 36 1).toNatClampNeg)))) (39 + 6 * ((m 36 1).toNatClampNeg)) 3 (f_Pattern_describe_u3 m o f x y (39 + 6 * ((m 36 1).toNatClampNeg)))) (38 + 6 * ((m 36 1).toNatClampNeg)) 3 0) (38 + 6 * ((m 36 1).toNatClampNeg)) 4 w) (38 + 6 * ((m 36 1).toNatClampNeg)) 5 0) (39 + 6 * ((jj_up (jj_up (jj_up (jj_up (jj_up (jj_up (jj_up m (39 + 6 * ((m 36 1).toNatClampNeg)) 0 o) (39 + 6 * ((m 36 1).toNatClampNeg)) 1 (f_Pattern_describe_u1 m o f x y (39 + 6 * ((m 36 1).toNatClampNeg)))) (39 + 6 * ((m 36 1).toNatClampNeg)) 2 (f_Pattern_describe_u2 m o f x y (39 + 6 * ((m 36 1).toNatClampNeg)))) (39 + 6 * ((m 36 1).toNatClampNeg)) 3 (f_Pattern_describe_u3 m o f x y (39 + 6 * ((m 36 1).toNatClampNeg)))) (38 + 6 * ((m 36 1).toNatClampNeg)) 3 0) (38 + 6 * ((m 36 1).toNatClampNeg)) 4 w) (38 + 6 * ((m 36 1).toNatClampNeg)) 5 0) 36 1).toNatClampNeg) 2) ((jj_up (jj_up (jj_up (jj_up (jj_up (jj_up (jj_up m (39 + 6 * ((m 36 1).toNatClampNeg)) 0 o) (39 + 6 * ((m 36 1).toNatClampNeg)) 1 (f_Pattern_describe_u1 m o f x y (39 + 6 * ((m 36 1).toNatClampNeg)))) (39 + 6 * ((m 36 1).toNatClampNeg)) 2 (f_Pattern_describe_u2 m o f x y (39 + 6 * ((m 36 1).toNatClampNeg)))) (39 + 6 * ((m 36 1).toNatClampNeg)) 3 (f_Pattern_describe_u3 m o f x y (39 + 6 * ((m 36 1).toNatClampNeg)))) (38 + 6 * ((m 36 1).toNatClampNeg)) 3 0) (38 + 6 * ((m 36 1).toNatClampNeg)) 4 w) (38 + 6 * ((m 36 1).toNatClampNeg)) 5 0) (39 + 6 * ((jj_up (jj_up (jj_up (jj_up (jj_up (jj_up (jj_up m (39 + 6 * ((m 36 1).toNatClampNeg)) 0 o) (39 + 6 * ((m 36 1).toNatClampNeg)) 1 (f_Pattern_describe_u1 m o f x y (39 + 6 * ((m 36 1).toNatClampNeg)))) (39 + 6 * ((m 36 1).toNatClampNeg)) 2 (f_Pattern_describe_u2 m o f x y (39 + 6 * ((m 36 1).toNatClampNeg)))) (39 + 6 * ((m 36 1).toNatClampNeg)) 3 (f_Pattern_describe_u3 m o f x y (39 + 6 * ((m 36 1).toNatClampNeg)))) (38 + 6 * ((m 36 1).toNatClampNeg)) 3 0) (38 + 6 * ((m 36 1).toNatClampNeg)) 4 w) (38 + 6 * ((m 36 1).toNatClampNeg)) 5 0) 36 1).toNatClampNeg) 3)))) 36 1 (((jj_up (jj_up (jj_up (jj_up (jj_up (jj_up (jj_up m (39 + 6 * ((m 36 1).toNatClampNeg)) 0 o) (39 + 6 * ((m 36 1).toNatClampNeg)) 1 (f_Pattern_describe_u1 m o f x y (39 + 6 * ((m 36 1).toNatClampNeg)))) (39 + 6 * ((m 36 1).toNatClampNeg)) 2 (f_Pattern_describe_u2 m o f x y (39 + 6 * ((m 36 1).toNatClampNeg)))) (39 + 6 * ((m 36 1).toNatClampNeg)) 3 (f_Pattern_describe_u3 m o f x y (39 + 6 * ((m 36 1).toNatClampNeg)))) (38 + 6 * ((m 36 1).toNatClampNeg)) 3 0) (38 + 6 * ((m 36 1).toNatClampNeg)) 4 w) (38 + 6 * ((m 36 1).toNatClampNeg)) 5 0) 36 1) + 1)) 0 8 0) 36 1))) (jj_up (jj_up (jj_up (jj_up (jj_up (jj_up (jj_up (jj_up (jj_up (jj_up m (39 + 6 * ((m 36 1).toNatClampNeg)) 0 o) (39 + 6 * ((m 36 1).toNatClampNeg)) 1 (f_Pattern_describe_u1 m o f x y (39 + 6 * ((m 36 1).toNatClampNeg)))) (39 + 6 * ((m 36 1).toNatClampNeg)) 2 (f_Pattern_describe_u2 m o f x y (39 + 6 * ((m 36 1).toNatClampNeg)))) (39 + 6 * ((m 36 1).toNatClampNeg)) 3 (f_Pattern_describe_u3 m o f x y (39 + 6 * ((m 36 1).toNatClampNeg)))) (38 + 6 * ((m 36 1).toNatClampNeg)) 3 0) (38 + 6 * ((m 36 1).toNatClampNeg)) 4 w) (38 + 6 * ((m 36 1).toNatClampNeg)) 5 0) 36 2 (((jj_up (jj_up (jj_up (jj_up (jj_up (jj_up (jj_up m (39 + 6 * ((m 36 1).toNatClampNeg)) 0 o) (39 + 6 * ((m 36 1).toNatClampNeg)) 1 (f_Pattern_describe_u1 m o f x y (39 + 6 * ((m 36 1).toNatClampNeg)))) (39 + 6 * ((m 36 1).toNatClampNeg)) 2 (f_Pattern_describe_u2 m o f x y (39 + 6 * ((m 36 1).toNatClampNeg)))) (39 + 6 * ((m 36 1).toNatClampNeg)) 3 (f_Pattern_describe_u3 m o f x y (39 + 6 * ((m 36 1).toNatClampNeg)))) (38 + 6 * ((m 36 1).toNatClampNeg)) 3 0) (38 + 6 * ((m 36 1).toNatClampNeg)) 4 w) (38 + 6 * ((m 36 1).toNatClampNeg)) 5 0) 36 2) ||| (f_Pattern_unknownsIn (jj_up (jj_up (jj_up (jj_up (jj_up (jj_up (jj_up m (39 + 6 * ((m 36 1).toNatClampNeg)) 0 o) (39 + 6 * ((m 36 1).toNatClampNeg)) 1 (f_Pattern_describe_u1 m o f x y (39 + 6 * ((m 36 1).toNatClampNeg)))) (39 + 6 * ((m 36 1).toNatClampNeg)) 2 (f_Pattern_describe_u2 m o f x y (39 + 6 * ((m 36 1).toNatClampNeg)))) (39 + 6 * ((m 36 1).toNatClampNeg)) 3 (f_Pattern_describe_u3 m o f x y (39 + 6 * ((m 36 1).toNatClampNeg)))) (38 + 6 * ((m 36 1).toNatClampNeg)) 3 0) (38 + 6 * ((m 36 1).toNatClampNeg)) 4 w) (38 + 6 * ((m 36 1).toNatClampNeg)) 5 0) ((jj_up (jj_up (jj_up (jj_up (jj_up (jj_up (jj_up m (39 + 6 * ((m 36 1).toNatClampNeg)) 0 o) (39 + 6 * ((m 36 1).toNatClampNeg)) 1 (f_Pattern_describe_u1 m o f x y (39 + 6 * ((m 36 1).toNatClampNeg)))) (39 + 6 * ((m 36 1).toNatClampNeg)) 2 (f_Pattern_describe_u2 m o f x y (39 + 6 * ((m 36 1).toNatClampNeg)))) (39 + 6 * ((m 36 1).toNatClampNeg)) 3 (f_Pattern_describe_u3 m o f x y (39 + 6 * ((m 36 1).toNatClampNeg)))) (38 + 6 * ((m 36 1).toNatClampNeg)) 3 0) (38 + 6 * ((m 36 1).toNatClampNeg)) 4 w) (38 + 6 * ((m 36 1).toNatClampNeg)) 5 0) (39 + 6 * ((jj_up (jj_up (jj_up (jj_up (jj_up (jj_up (jj_up m (39 + 6 * ((m 36 1).toNatClampNeg)) 0 o) (39 + 6 * ((m 36 1).toNatClampNeg)) 1 (f_Pattern_describe_u1 m o f x y (39 + 6 * ((m 36 1).toNatClampNeg)))) (39 + 6 * ((m 36 1).toNatClampNeg)) 2 (f_Pattern_describe_u2 m o f x y (39 + 6 * ((m 36 1).toNatClampNeg)))) (39 + 6 * ((m 36 1).toNatClampNeg)) 3 (f_Pattern_describe_u3 m o f x y (39 + 6 * ((m 36 1).toNatClampNeg)))) (38 + 6 * ((m 36 1).toNatClampNeg)) 3 0) (38 + 6 * ((m 36 1).toNatClampNeg)) 4 w) (38 + 6 * ((m 36 1).toNatClampNeg)) 5 0) 36 1).toNatClampNeg) 0) ((jj_up (jj_up (jj_up (jj_up (jj_up (jj_up (jj_up m (39 + 6 * ((m 36 1).toNatClampNeg)) 0 o) (39 + 6 * ((m 36 1).toNatClampNeg)) 1 (f_Pattern_describe_u1 m o f x y (39 + 6 * ((m 36 1).toNatClampNeg)))) (39 + 6 * ((m 36 1).toNatClampNeg)) 2 (f_Pattern_describe_u2 m o f x y (39 + 6 * ((m 36 1).toNatClampNeg)))) (39 + 6 * ((m 36 1).toNatClampNeg)) 3 (f_Pattern_describe_u3 m o f x y (39 + 6 * ((m 36 1).toNatClampNeg)))) (38 + 6 * ((m 36 1).toNatClampNeg)) 3 0) (38 + 6 * ((m 36 1).toNatClampNeg)) 4 w) (38 + 6 * ((m 36 1).toNatClampNeg)) 5 0) (39 + 6 * ((jj_up (jj_up (jj_up (jj_up (jj_up (jj_up (jj_up m (39 + 6 * ((m 36 1).toNatClampNeg)) 0 o) (39 + 6 * ((m 36 1).toNatClampNeg)) 1 (f_Pattern_describe_u1 m o f x y (39 + 6 * ((m 36 1).toNatClampNeg)))) (39 + 6 * ((m 36 1).toNatClampNeg)) 2 (f_Pattern_describe_u2 m o f x y (39 + 6 * ((m 36 1).toNatClampNeg)))) (39 + 6 * ((m 36 1).toNatClampNeg)) 3 (f_Pattern_describe_u3 m o f x y (39 + 6 * ((m 36 1).toNatClampNeg)))) (38 + 6 * ((m 36 1).toNatClampNeg)) 3 0) (38 + 6 * ((m 36 1).toNatClampNeg)) 4 w) (38 + 6 * ((m 36 1).toNatClampNeg)) 5 0) 36 1).toNatClampNeg) 2) ((jj_up (jj_up (jj_up (jj_up (jj_up (jj_up (jj_up m (39 + 6 * ((m 36 1).toNatClampNeg)) 0 o) (39 + 6 * ((m 36 1).toNatClampNeg)) 1 (f_Pattern_describe_u1 m o f x y (39 + 6 * ((m 36 1).toNatClampNeg)))) (39 + 6 * ((m 36 1).toNatClampNeg)) 2 (f_Pattern_describe_u2 m o f x y (39 + 6 * ((m 36 1).toNatClampNeg)))) (39 + 6 * ((m 36 1).toNatClampNeg)) 3 (f_Pattern_describe_u3 m o f x y (39 + 6 * ((m 36 1).toNatClampNeg)))) (38 + 6 * ((m 36 1).toNatClampNeg)) 3 0) (38 + 6 * ((m 36 1).toNatClampNeg)) 4 w) (38 + 6 * ((m 36 1).toNatClampNeg)) 5 0) (39 + 6 * ((jj_up (jj_up (jj_up (jj_up (jj_up (jj_up (jj_up m (39 + 6 * ((m 36 1).toNatClampNeg)) 0 o) (39 + 6 * ((m 36 1).toNatClampNeg)) 1 (f_Pattern_describe_u1 m o f x y (39 + 6 * ((m 36 1).toNatClampNeg)))) (39 + 6 * ((m 36 1).toNatClampNeg)) 2 (f_Pattern_describe_u2 m o f x y (39 + 6 * ((m 36 1).toNatClampNeg)))) (39 + 6 * ((m 36 1).toNatClampNeg)) 3 (f_Pattern_describe_u3 m o f x y (39 + 6 * ((m 36 1).toNatClampNeg)))) (38 + 6 * ((m 36 1).toNatClampNeg)) 3 0) (38 + 6 * ((m 36 1).toNatClampNeg)) 4 w) (38 + 6 * ((m 36 1).toNatClampNeg)) 5 0) 36 1).toNatClampNeg) 3)))) 36 1 (((jj_up (jj_up (jj_up (jj_up (jj_up (jj_up (jj_up m (39 + 6 * ((m 36 1).toNatClampNeg)) 0 o) (39 + 6 * ((m 36 1).toNatClampNeg)) 1 (f_Pattern_describe_u1 m o f x y (39 + 6 * ((m 36 1).toNatClampNeg)))) (39 + 6 * ((m 36 1).toNatClampNeg)) 2 (f_Pattern_describe_u2 m o f x y (39 + 6 * ((m 36 1).toNatClampNeg)))) (39 + 6 * ((m 36 1).toNatClampNeg)) 3 (f_Pattern_describe_u3 m o f x y (39 + 6 * ((m 36 1).toNatClampNeg)))) (38 + 6 * ((m 36 1).toNatClampNeg)) 3 0) (38 + 6 * ((m 36 1).toNatClampNeg)) 4 w) (38 + 6 * ((m 36 1).toNatClampNeg)) 5 0) 36 1) + 1)) 0 8 0))
    (g2 : (¬ f_Pattern_isSound m o f x y = 0) → (¬ o = 3) → (¬ m 36 1 < 6) → Q (some (.int (-3))) m)
    (g3 : (¬ f_Pattern_isSound m o f x y = 0) → (o = 3) → (w = 0) → (m 36 1 < 6) → Q (some (.int ((jj_up (jj_up (jj_up (jj_up (jj_up (jj_up (jj_up (jj_up (jj_up (jj_up m (39 + 6 * ((m 36 1).toNatClampNeg)) 0 o) (39 + 6 * ((m 36 1).toNatClampNeg)) 1 (f_Pattern_describe_u1 m o f x y (39 + 6 * ((m 36 1).toNatClampNeg)))) (39 + 6 * ((m 36 1).toNatClampNeg)) 2 (f_Pattern_describe_u2 m o f x y (39 + 6 * ((m 36 1).toNatClampNeg)))) (39 + 6 * ((m 36 1).toNatClampNeg)) 3 (f_Pattern_describe_u3 m o f x y (39 + 6 * ((m 36 1).toNatClampNeg)))) (38 + 6 * ((m 36 1).toNatClampNeg)) 3 0) (38 + 6 * ((m 36 1).toNatClampNeg)) 4 w) (38 + 6 * ((m 36 1).toNatClampNeg)) 5 0) 36 2 (((jj_up (jj_up (jj_up (jj_up (jj_up (jj_up (jj_up m (39 + 6 * ((m 36 1).toNatClampNeg)) 0 o) (39 + 6 * ((m 36 1).toNatClampNeg)) 1 (f_Pattern_describe_u1 m o f x y (39 + 6 * ((m 36 1).toNatClampNeg)))) (39 + 6 * ((m 36 1).toNatClampNeg)) 2 (f_Pattern_describe_u2 m o f x y (39 + 6 * ((m 36 1).toNatClampNeg)))) (39 + 6 * ((m 36 1).toNatClampNeg)) 3 (f_Pattern_describe_u3 m o f x y (39 + 6 * ((m 36 1).toNatClampNeg)))) (38 + 6 * ((m 36 1).toNatClampNeg)) 3 0) (38 + 6 * ((m 36 1).toNatClampNeg)) 4 w) (38 + 6 * ((m 36 1).toNatClampNeg)) 5 0) 36 2) ||| (f_Pattern_unknownsIn (jj_up (jj_up (jj_up (jj_up (jj_up (jj_up (jj_up m (39 + 6 * ((m 36 1).toNatClampNeg)) 0 o) (39 + 6 * ((m 36 1).toNatClampNeg)) 1 (f_Pattern_describe_u1 m o f x y (39 + 6 * ((m 36 1).toNatClampNeg)))) (39 + 6 * ((m 36 1).toNatClampNeg)) 2 (f_Pattern_describe_u2 m o f x y (39 + 6 * ((m 36 1).toNatClampNeg)))) (39 + 6 * ((m 36 1).toNatClampNeg)) 3 (f_Pattern_describe_u3 m o f x y (39 + 6 * ((m 36 1).toNatClampNeg)))) (38 + 6 * ((m 36 1).toNatClampNeg)) 3 0) (38 + 6 * ((m 36 1).toNatClampNeg)) 4 w) (38 + 6 * ((m 36 1).toNatClampNeg)) 5 0) ((jj_up (jj_up (jj_up (jj_up (jj_up (jj_up (jj_up m (39 + 6 * ((m 36 1).toNatClampNeg)) 0 o) (39 + 6 * ((m 36 1).toNatClampNeg)) 1 (f_Pattern_describe_u1 m o f x y (39 + 6 * ((m 36 1).toNatClampNeg)))) (39 + 6 * ((m 36 1).toNatClampNeg)) 2 (f_Pattern_describe_u2 m o f x y (39 + 6 * ((m 36 1).toNatClampNeg)))) (39 + 6 * ((m 36 1).toNatClampNeg)) 3 (f_Pattern_describe_u3 m o f x y (39 + 6 * ((m 36 1).toNatClampNeg)))) (38 + 6 * ((m 36 1).toNatClampNeg)) 3 0) (38 + 6 * ((m 36 1).toNatClampNeg)) 4 w) (38 + 6 * ((m 36 1).toNatClampNeg)) 5 0) (39 + 6 * ((jj_up (jj_up (jj_up (jj_up (jj_up (jj_up (jj_up m (39 + 6 * ((m 36 1).toNatClampNeg)) 0 o) (39 + 6 * ((m 36 1).toNatClampNeg)) 1 (f_Pattern_describe_u1 m o f x y (39 + 6 * ((m 36 1).toNatClampNeg)))) (39 + 6 * ((m 36 1).toNatClampNeg)) 2 (f_Pattern_describe_u2 m o f x y (39 + 6 * ((m 36 1).toNatClampNeg)))) (39 + 6 * ((m 36 1).toNatClampNeg)) 3 (f_Pattern_describe_u3 m o f x y (39 + 6 * ((m 36 1).toNatClampNeg)))) (38 + 6 * ((m 36 1).toNatClampNeg)) 3 0) (38 + 6 * ((m 36 1).toNatClampNeg)) 4 w) (38 + 6 * ((m 36 1).toNatClampNeg)) 5 0) 36 1).toNatClampNeg) 0) ((jj_up (jj_up (jj_up (jj_up (jj_up (jj_up (jj_up m (39 + 6 * ((m 36 1).toNatClampNeg)) 0 o) (39 + 6 * ((m 36 1).toNatClampNeg)) 1 (f_Pattern_describe_u1 m o f x y (39 + 6 * ((m 36 1).toNatClampNeg)))) (39 + 6 * ((m 36 1).toNatClampNeg)) 2 (f_Pattern_describe_u2 m o f x y (39 + 6 * ((m 36 1).toNatClampNeg)))) (39 + 6 * ((m 36 1).toNatClampNeg)) 3 (f_Pattern_describe_u3 m o f x y (39 + 6 * ((m 36 1).toNatClampNeg)))) (38 + 6 * ((m 36 1).toNatClampNeg)) 3 0) (38 + 6 * ((m 36 1).toNatClampNeg)) 4 w) (38 + 6 * ((m 36 1).toNatClampNeg)) 5 0) (39 + 6 * ((jj_up (jj_up (jj_up (jj_up (jj_up (jj_up (jj_up m (39 + 6 * ((m 36 1).toNatClampNeg)) 0 o) (39 + 6 * ((m 36 1).toNatClampNeg)) 1 (f_Pattern_describe_u1 m o f x y (39 + 6 * ((m 36 1).toNatClampNeg)))) (39 + 6 * ((m 36 1).toNatClampNeg)) 2 (f_Pattern_describe_u2 m o f x y (39 + 6 * ((m 36 1).toNatClampNeg)))) (39 + 6 * ((m 36 1).toNatClampNeg)) 3 (f_Pattern_describe_u3 m o f x y (39 + 6 * ((m 36 1).toNatClampNeg)))) (38 + 6 * ((m 36 1).toNatClampNeg)) 3 0) (38 + 6 * ((m 36 1).toNatClampNeg)) 4 w) (38 + 6 * ((m 36 1).toNatClampNeg)) 5 0) 36 1).toNatClampNeg) 2) ((jj_up (jj_up (jj_up (jj_up (jj_up (jj_up (jj_up m (39 + 6 * ((m 36 1).toNatClampNeg)) 0 o) (39 + 6 * ((m 36 1).toNatClampNeg)) 1 (f_Pattern_describe_u1 m o f x y (39 + 6 * ((m 36 1).toNatClampNeg)))) (39 + 6 * ((m 36 1).toNatClampNeg)) 2 (f_Pattern_describe_u2 m o f x y (39 + 6 * ((m 36 1).toNatClampNeg)))) (39 + 6 * ((m 36 1).toNatClampNeg)) 3 (f_Pattern_describe_u3 m o f x y (39 + 6 * ((m 36 1).toNatClampNeg)))) (38 + 6 * ((m 36 1).toNatClampNeg)) 3 0) (38 + 6 * ((m 36 1).toNatClampNeg)) 4 w) (38 + 6 * ((m 36 1).toNatClampNeg)) 5 0) (39 + 6 * ((jj_up (jj_up (jj_up (jj_up (jj_up (jj_up (jj_up m (39 + 6 * ((m 36 1).toNatClampNeg)) 0 o) (39 + 6 * ((m 36 1).toNatClampNeg)) 1 (f_Pattern_describe_u1 m o f x y (39 + 6 * ((m 36 1).toNatClampNeg)))) (39 + 6 * ((m 36 1).toNatClampNeg)) 2 (f_Pattern_describe_u2 m o f x y (39 + 6 * ((m 36 1).toNatClampNeg)))) (39 + 6 * ((m 36 1).toNatClampNeg)) 3 (f_Pattern_describe_u3 m o f x y (39 + 6 * ((m 36 1).toNatClampNeg)))) (38 + 6 * ((m 36 1).toNatClampNeg)) 3 0) (38 + 6 * ((m 36 1).toNatClampNeg)) 4 w) (38 + 6 * ((m 36 1).toNatClampNeg)) 5 0) 36 1).toNatClampNeg) 3)))) 36 1 (((jj_up (jj_up (jj_up (jj_up (jj_up (jj_up (jj_up m (39 + 6 * ((m 36 1).toNatClampNeg)) 0 o) (39 + 6 * ((m 36 1).toNatClampNeg)) 1 (f_Pattern_describe_u1 m o f x y (39 + 6 * ((m 36 1).toNatClampNeg)))) (39 + 6 * ((m 36 1).toNatClampNeg)) 2 (f_Pattern_describe_u2 m o f x y (39 + 6 * ((m 36 1).toNatClampNeg)))) (39 + 6 * ((m 36 1).toNatClampNeg)) 3 (f_Pattern_describe_u3 m o f x y (39 + 6 * ((m 36 1).toNatClampNeg)))) (38 + 6 * ((m 36 1).toNatClampNeg)) 3 0) (38 + 6 * ((m 36 1).toNatClampNeg)) 4 w) (38 + 6 * ((m 36 1).toNatClampNeg)) 5 0) 36 1) + 1)) 0 8 0) 36 1))) (jj_up (jj_up (jj_up (jj_up (jj_up (jj_up (jj_up (jj_up (jj_up (jj_up m (39 + 6 * ((m 36 1).toNatClampNeg)) 0 o) (39 + 6 * ((m 36 1).toNatClampNeg)) 1 (f_Pattern_describe_u1 m o f x y (39 + 6 * ((m 36 1).toNatClampNeg)))) (39 + 6 * ((m 36 1).toNatClampNeg)) 2 (f_Pattern_describe_u2 m o f x y (39 + 6 * ((m 36 1).toNatClampNeg)))) (39 + 6 * ((m 36 1).toNatClampNeg)) 3 (f_Pattern_describe_u3 m o f x y (39 + 6 * ((m 36 1).toNatClampNeg)))) (38 + 6 * ((m 36 1).toNatClampNeg)) 3 0) (38 + 6 * ((m 36 1).toNatClampNeg)) 4 w) (38 + 6 * ((m 36 1).toNatClampNeg)) 5 0) 36 2 (((jj_up (jj_up (jj_up (jj_up (jj_up (jj_up (jj_up m (39 + 6 * ((m 36 1).toNatClampNeg)) 0 o) (39 + 6 * ((m 36 1).toNatClampNeg)) 1 (f_Pattern_describe_u1 m o f x y (39 + 6 * ((m 36 1).toNatClampNeg)))) (39 + 6 * ((m 36 1).toNatClampNeg)) 2 (f_Pattern_describe_u2 m o f x y (39 + 6 * ((m 36 1).toNatClampNeg)))) (39 + 6 * ((m 36 1).toNatClampNeg)) 3 (f_Pattern_describe_u3 m o f x y (39 + 6 * ((m 36 1).toNatClampNeg)))) (38 + 6 * ((m 36 1).toNatClampNeg)) 3 0) (38 + 6 * ((m 36 1).toNatClampNeg)) 4 w) (38 + 6 * ((m 36 1).toNatClampNeg)) 5 0) 36 2) ||| (f_Pattern_unknownsIn (jj_up (jj_up (jj_up (jj_up (jj_up (jj_up (jj_up m (39 + 6 * ((m 36 1).toNatClampNeg)) 0 o) (39 + 6 * ((m 36 1).toNatClampNeg)) 1 (f_Pattern_describe_u1 m o f x y (39 + 6 * ((m 36 1).toNatClampNeg)))) (39 + 6 * ((m 36 1).toNatClampNeg)) 2 (f_Pattern_describe_u2 m o f x y (39 + 6 * ((m 36 1).toNatClampNeg)))) (39 + 6 * ((m 36 1).toNatClampNeg)) 3 (f_Pattern_describe_u3 m o f x y (39 + 6 * ((m 36 1).toNatClampNeg)))) (38 + 6 * ((m 36 1).toNatClampNeg)) 3 0) (38 + 6 * ((m 36 1).toNatClampNeg)) 4 w) (38 + 6 * ((m 36 1).toNatClampNeg)) 5 0) ((jj_up (jj_up (jj_up (jj_up (jj_up (jj_up (jj_up m (39 + 6 * ((m 36 1).toNatClampNeg)) 0 o) (39 + 6 * ((m 36 1).toNatClampNeg)) 1 (f_Pattern_describe_u1 m o f x y (39 + 6 * ((m 36 1).toNatClampNeg)))) (39 + 6 * ((m 36 1).toNatClampNeg)) 2 (f_Pattern_describe_u2 m o f x y (39 + 6 * ((m 36 1).toNatClampNeg)))) (39 + 6 * ((m 36 1).toNatClampNeg)) 3 (f_Pattern_describe_u3 m o f x y (39 + 6 * ((m 36 1).toNatClampNeg)))) (38 + 6 * ((m 36 1).toNatClampNeg)) 3 0) (38 + 6 * ((m 36 1).toNatClampNeg)) 4 w) (38 + 6 * ((m 36 1).toNatClampNeg)) 5 0) (39 + 6 * ((jj_up (jj_up (jj_up (jj_up (jj_up (jj_up (jj_up m (39 + 6 * ((m 36 1).toNatClampNeg)) 0 o) (39 + 6 * ((m 36 1).toNatClampNeg)) 1 (f_Pattern_describe_u1 m o f x y (39 + 6 * ((m 36 1).toNatClampNeg)))) (39 + 6 * ((m 36 1).toNatClampNeg)) 2 (f_Pattern_describe_u2 m o f x y (39 + 6 * ((m 36 1).toNatClampNeg)))) (39 + 6 * ((m 36 1).toNatClampNeg)) 3 (f_Pattern_describe_u3 m o f x y (39 + 6 * ((m 36 1).toNatClampNeg)))) (38 + 6 * ((m 36 1).toNatClampNeg)) 3 0) (38 + 6 * ((m 36 1).toNatClampNeg)) 4 w) (38 + 6 * ((m 36 1).toNatClampNeg)) 5 0) 36 1).toNatClampNeg) 0) ((jj_up (jj_up (jj_up (jj_up (jj_up (jj_up (jj_up m (39 + 6 * ((m 36 1).toNatClampNeg)) 0 o) (39 + 6 * ((m 36 1).toNatClampNeg)) 1 (f_Pattern_describe_u1 m o f x y (39 + 6 * ((m 36 1).toNatClampNeg)))) (39 + 6 * ((m 36 1).toNatClampNeg)) 2 (f_Pattern_describe_u2 m o f x y (39 + 6 * ((m 36 1).toNatClampNeg)))) (39 + 6 * ((m 36 1).toNatClampNeg)) 3 (f_Pattern_describe_u3 m o f x y (39 + 6 * ((m 36 1).toNatClampNeg)))) (38 + 6 * ((m 36 1).toNatClampNeg)) 3 0) (38 + 6 * ((m 36 1).toNatClampNeg)) 4 w) (38 + 6 * ((m 36 1).toNatClampNeg)) 5 0) (39 + 6 * ((jj_up (jj_up (jj_up (jj_up (jj_up (jj_up (jj_up m (39 + 6 * ((m 36 1).toNatClampNeg)) 0 o) (39 + 6 * ((m 36 1).toNatClampNeg)) 1 (f_Pattern_describe_u1 m o f x y (39 + 6 * ((m 36 1).toNatClampNeg)))) (39 + 6 * ((m 36 1).toNatClampNeg)) 2 (f_Pattern_describe_u2 m o f x y (39 + 6 * ((m 36 1).toNatClampNeg)))) (39 + 6 * ((m 36 1).toNatClampNeg)) 3 (f_Pattern_describe_u3 m o f x y (39 + 6 * ((m 36 1).toNatClampNeg)))) (38 + 6 * ((m 36 1).toNatClampNeg)) 3 0) (38 + 6 * ((m 36 1).toNatClampNeg)) 4 w) (38 + 6 * ((m 36 1).toNatClampNeg)) 5 0) 36 1).toNatClampNeg) 2) ((jj_up (jj_up (jj_up (jj_up (jj_up (jj_up (jj_up m (39 + 6 * ((m 36 1).toNatClampNeg)) 0 o) (39 + 6 * ((m 36 1).toNatClampNeg)) 1 (f_Pattern_describe_u1 m o f x y (39 + 6 * ((m 36 1).toNatClampNeg)))) (39 + 6 * ((m 36 1).toNatClampNeg)) 2 (f_Pattern_describe_u2 m o f x y (39 + 6 * ((m 36 1).toNatClampNeg)))) (39 + 6 * ((m 36 1).toNatClampNeg)) 3 (f_Pattern_describe_u3 m o f x y (39 + 6 * ((m 36 1).toNatClampNeg)))) (38 + 6 * ((m 36 1).toNatClampNeg)) 3 0) (38 + 6 * ((m 36 1).toNatClampNeg)) 4 w) (38 + 6 * ((m 36 1).toNatClampNeg)) 5 0) (39 + 6 * ((jj_up (jj_up (jj_up (jj_up (jj_up (jj_up (jj_up m (39 + 6 * ((m 36 1).toNatClampNeg)) 0 o) (39 + 6 * ((m 36 1).toNatClampNeg)) 1 (f_Pattern_describe_u1 m o f x y (39 + 6 * ((m 36 1).toNatClampNeg)))) (39 + 6 * ((m 36 1).toNatClampNeg)) 2 (f_Pattern_describe_u2 m o f x y (39 + 6 * ((m 36 1).toNatClampNeg)))) (39 + 6 * ((m 36 1).toNatClampNeg)) 3 (f_Pattern_describe_u3 m o f x y (39 + 6 * ((m 36 1).toNatClampNeg)))) (38 + 6 * ((m 36 1).toNatClampNeg)) 3 0) (38 + 6 * ((m 36 1).toNatClampNeg)) 4 w) (38 + 6 * ((m 36 1).toNatClampNeg)) 5 0) 36 1).toNatClampNeg) 3)))) 36 1 (((jj_up (jj_up (jj_up (jj_up (jj_up (jj_up (jj_up m (39 + 6 * ((m 36 1).toNatClampNeg)) 0 o) (39 + 6 * ((m 36 1).toNatClampNeg)) 1 (f_Pattern_describe_u1 m o f x y (39 + 6 * ((m 36 1).toNatClampNeg)))) (39 + 6 * ((m 36 1).toNatClampNeg)) 2 (f_Pattern_describe_u2 m o f x y (39 + 6 * ((m 36 1).toNatClampNeg)))) (39 + 6 * ((m 36 1).toNatClampNeg)) 3 (f_Pattern_describe_u3 m o f x y (39 + 6 * ((m 36 1).toNatClampNeg)))) (38 + 6 * ((m 36 1).toNatClampNeg)) 3 0) (38 + 6 * ((m 36 1).toNatClampNeg)) 4 w) (38 + 6 * ((m 36 1).toNatClampNeg)) 5 0) 36 1) + 1)) 0 8 0))
    (g4 : (¬ f_Pattern_isSound m o f x y = 0) → (o = 3) → (w = 0) → (¬ m 36 1 < 6) → Q (some (.int (-3))) m)
    (g5 : (¬ f_Pattern_isSound m o f x y = 0) → (o = 3) → (¬ w = 0) → Q (some (.int (-2))) m)
    (g6 : (f_Pattern_isSound m o f x y = 0) → Q (some (.int (-1))) m) : ez xs 89 0 (jx_ent 89 [.ref 0, .int w, .int o, .int f, .int x, .int y]) [] m Q := by
  refine ez_blk 4 rfl ?_
  show ez xs 89 6 [some (.ref 0), some (.int w), some (.int o), some (.int f), some (.int x), some (.int y)] [.int y, .int x, .int f, .int o] m Q
  refine ez_call (as := [.int o, .int f, .int x, .int y]) (rest := []) rfl (by decide) rfl ?_
  refine d_Pattern_isSound ?_
  show ez xs 89 9 [some (.ref 0), some (.int w), some (.int o), some (.int f), some (.int x), some (.int y)] [.int (f_Pattern_isSound m o f x y)] m Q
  refine ez_if_ne rfl (fun h1 => ?_) (fun h1 => ?_)
  · show ez xs 89 14 [some (.ref 0), some (.int w), some (.int o), some (.int f), some (.int x), some (.int y)] [] m Q
    refine ez_blk 2 rfl ?_
    show ez xs 89 16 [some (.ref 0), some (.int w), some (.int o), some (.int f), some (.int x), some (.int y)] [.int 3, .int o] m Q
    refine ez_icmp_ne rfl (fun h2 => ?_) (fun h2 => ?_)
    · show ez xs 89 26 [some (.ref 0), some (.int w), some (.int o), some (.int f), some (.int x), some (.int y)] [] m Q
      refine ez_blk 7 rfl ?_
      show ez xs 89 37 [some (.ref 0), some (.int w), some (.int o), some (.int f), some (.int x), some (.int y)] [.int y, .int x, .int f, .int o, .int w, .ref 36] m Q
      refine ez_call (as := [.ref 36, .int w, .int o, .int f, .int x, .int y]) (rest := []) rfl (by decide) rfl ?_
      refine c_Script_append (fun h3 => b1 h1 h2 h3) (fun h4 => b2 h1 h2 h4) (fun h5 => b3 h1 h2 h5) (fun h6 => ?_) (fun h7 => ?_)
      · show ez xs 89 40 [some (.ref 0), some (.int w), some (.int o), some (.int f), some (.int x), some (.int y)] [.int 1] (jj_up (jj_up (jj_up (jj_up (jj_up (jj_up (jj_up (jj_up (jj_up m (39 + 6 * ((m 36 1).toNatClampNeg)) 0 o) (39 + 6 * ((m 36 1).toNatClampNeg)) 1 (f_Pattern_describe_u1 m o f x y (39 + 6 * ((m 36 1).toNatClampNeg)))) (39 + 6 * ((m 36 1).toNatClampNeg)) 2 (f_Pattern_describe_u2 m o f x y (39 + 6 * ((m 36 1).toNatClampNeg)))) (39 + 6 * ((m 36 1).toNatClampNeg)) 3 (f_Pattern_describe_u3 m o f x y (39 + 6 * ((m 36 1).toNatClampNeg)))) (38 + 6 * ((m 36 1).toNatClampNeg)) 3 0) (38 + 6 * ((m 36 1).toNatClampNeg)) 4 w) (38 + 6 * ((m 36 1).toNatClampNeg)) 5 0) 36 2 (((jj_up (jj_up (jj_up (jj_up (jj_up (jj_up (jj_up m (39 + 6 * ((m 36 1).toNatClampNeg)) 0 o) (39 + 6 * ((m 36 1).toNatClampNeg)) 1 (f_Pattern_describe_u1 m o f x y (39 + 6 * ((m 36 1).toNatClampNeg)))) (39 + 6 * ((m 36 1).toNatClampNeg)) 2 (f_Pattern_describe_u2 m o f x y (39 + 6 * ((m 36 1).toNatClampNeg)))) (39 + 6 * ((m 36 1).toNatClampNeg)) 3 (f_Pattern_describe_u3 m o f x y (39 + 6 * ((m 36 1).toNatClampNeg)))) (38 + 6 * ((m 36 1).toNatClampNeg)) 3 0) (38 + 6 * ((m 36 1).toNatClampNeg)) 4 w) (38 + 6 * ((m 36 1).toNatClampNeg)) 5 0) 36 2) ||| (f_Pattern_unknownsIn (jj_up (jj_up (jj_up (jj_up (jj_up (jj_up (jj_up m (39 + 6 * ((m 36 1).toNatClampNeg)) 0 o) (39 + 6 * ((m 36 1).toNatClampNeg)) 1 (f_Pattern_describe_u1 m o f x y (39 + 6 * ((m 36 1).toNatClampNeg)))) (39 + 6 * ((m 36 1).toNatClampNeg)) 2 (f_Pattern_describe_u2 m o f x y (39 + 6 * ((m 36 1).toNatClampNeg)))) (39 + 6 * ((m 36 1).toNatClampNeg)) 3 (f_Pattern_describe_u3 m o f x y (39 + 6 * ((m 36 1).toNatClampNeg)))) (38 + 6 * ((m 36 1).toNatClampNeg)) 3 0) (38 + 6 * ((m 36 1).toNatClampNeg)) 4 w) (38 + 6 * ((m 36 1).toNatClampNeg)) 5 0) ((jj_up (jj_up (jj_up (jj_up (jj_up (jj_up (jj_up m (39 + 6 * ((m 36 1).toNatClampNeg)) 0 o) (39 + 6 * ((m 36 1).toNatClampNeg)) 1 (f_Pattern_describe_u1 m o f x y (39 + 6 * ((m 36 1).toNatClampNeg)))) (39 + 6 * ((m 36 1).toNatClampNeg)) 2 (f_Pattern_describe_u2 m o f x y (39 + 6 * ((m 36 1).toNatClampNeg)))) (39 + 6 * ((m 36 1).toNatClampNeg)) 3 (f_Pattern_describe_u3 m o f x y (39 + 6 * ((m 36 1).toNatClampNeg)))) (38 + 6 * ((m 36 1).toNatClampNeg)) 3 0) (38 + 6 * ((m 36 1).toNatClampNeg)) 4 w) (38 + 6 * ((m 36 1).toNatClampNeg)) 5 0) (39 + 6 * ((jj_up (jj_up (jj_up (jj_up (jj_up (jj_up (jj_up m (39 + 6 * ((m 36 1).toNatClampNeg)) 0 o) (39 + 6 * ((m 36 1).toNatClampNeg)) 1 (f_Pattern_describe_u1 m o f x y (39 + 6 * ((m 36 1).toNatClampNeg)))) (39 + 6 * ((m 36 1).toNatClampNeg)) 2 (f_Pattern_describe_u2 m o f x y (39 + 6 * ((m 36 1).toNatClampNeg)))) (39 + 6 * ((m 36 1).toNatClampNeg)) 3 (f_Pattern_describe_u3 m o f x y (39 + 6 * ((m 36 1).toNatClampNeg)))) (38 + 6 * ((m 36 1).toNatClampNeg)) 3 0) (38 + 6 * ((m 36 1).toNatClampNeg)) 4 w) (38 + 6 * ((m 36 1).toNatClampNeg)) 5 0) 36 1).toNatClampNeg) 0) ((jj_up (jj_up (jj_up (jj_up (jj_up (jj_up (jj_up m (39 + 6 * ((m 36 1).toNatClampNeg)) 0 o) (39 + 6 * ((m 36 1).toNatClampNeg)) 1 (f_Pattern_describe_u1 m o f x y (39 + 6 * ((m 36 1).toNatClampNeg)))) (39 + 6 * ((m 36 1).toNatClampNeg)) 2 (f_Pattern_describe_u2 m o f x y (39 + 6 * ((m 36 1).toNatClampNeg)))) (39 + 6 * ((m 36 1).toNatClampNeg)) 3 (f_Pattern_describe_u3 m o f x y (39 + 6 * ((m 36 1).toNatClampNeg)))) (38 + 6 * ((m 36 1).toNatClampNeg)) 3 0) (38 + 6 * ((m 36 1).toNatClampNeg)) 4 w) (38 + 6 * ((m 36 1).toNatClampNeg)) 5 0) (39 + 6 * ((jj_up (jj_up (jj_up (jj_up (jj_up (jj_up (jj_up m (39 + 6 * ((m 36 1).toNatClampNeg)) 0 o) (39 + 6 * ((m 36 1).toNatClampNeg)) 1 (f_Pattern_describe_u1 m o f x y (39 + 6 * ((m 36 1).toNatClampNeg)))) (39 + 6 * ((m 36 1).toNatClampNeg)) 2 (f_Pattern_describe_u2 m o f x y (39 + 6 * ((m 36 1).toNatClampNeg)))) (39 + 6 * ((m 36 1).toNatClampNeg)) 3 (f_Pattern_describe_u3 m o f x y (39 + 6 * ((m 36 1).toNatClampNeg)))) (38 + 6 * ((m 36 1).toNatClampNeg)) 3 0) (38 + 6 * ((m 36 1).toNatClampNeg)) 4 w) (38 + 6 * ((m 36 1).toNatClampNeg)) 5 0) 36 1).toNatClampNeg) 2) ((jj_up (jj_up (jj_up (jj_up (jj_up (jj_up (jj_up m (39 + 6 * ((m 36 1).toNatClampNeg)) 0 o) (39 + 6 * ((m 36 1).toNatClampNeg)) 1 (f_Pattern_describe_u1 m o f x y (39 + 6 * ((m 36 1).toNatClampNeg)))) (39 + 6 * ((m 36 1).toNatClampNeg)) 2 (f_Pattern_describe_u2 m o f x y (39 + 6 * ((m 36 1).toNatClampNeg)))) (39 + 6 * ((m 36 1).toNatClampNeg)) 3 (f_Pattern_describe_u3 m o f x y (39 + 6 * ((m 36 1).toNatClampNeg)))) (38 + 6 * ((m 36 1).toNatClampNeg)) 3 0) (38 + 6 * ((m 36 1).toNatClampNeg)) 4 w) (38 + 6 * ((m 36 1).toNatClampNeg)) 5 0) (39 + 6 * ((jj_up (jj_up (jj_up (jj_up (jj_up (jj_up (jj_up m (39 + 6 * ((m 36 1).toNatClampNeg)) 0 o) (39 + 6 * ((m 36 1).toNatClampNeg)) 1 (f_Pattern_describe_u1 m o f x y (39 + 6 * ((m 36 1).toNatClampNeg)))) (39 + 6 * ((m 36 1).toNatClampNeg)) 2 (f_Pattern_describe_u2 m o f x y (39 + 6 * ((m 36 1).toNatClampNeg)))) (39 + 6 * ((m 36 1).toNatClampNeg)) 3 (f_Pattern_describe_u3 m o f x y (39 + 6 * ((m 36 1).toNatClampNeg)))) (38 + 6 * ((m 36 1).toNatClampNeg)) 3 0) (38 + 6 * ((m 36 1).toNatClampNeg)) 4 w) (38 + 6 * ((m 36 1).toNatClampNeg)) 5 0) 36 1).toNatClampNeg) 3)))) 36 1 (((jj_up (jj_up (jj_up (jj_up (jj_up (jj_up (jj_up m (39 + 6 * ((m 36 1).toNatClampNeg)) 0 o) (39 + 6 * ((m 36 1).toNatClampNeg)) 1 (f_Pattern_describe_u1 m o f x y (39 + 6 * ((m 36 1).toNatClampNeg)))) (39 + 6 * ((m 36 1).toNatClampNeg)) 2 (f_Pattern_describe_u2 m o f x y (39 + 6 * ((m 36 1).toNatClampNeg)))) (39 + 6 * ((m 36 1).toNatClampNeg)) 3 (f_Pattern_describe_u3 m o f x y (39 + 6 * ((m 36 1).toNatClampNeg)))) (38 + 6 * ((m 36 1).toNatClampNeg)) 3 0) (38 + 6 * ((m 36 1).toNatClampNeg)) 4 w) (38 + 6 * ((m 36 1).toNatClampNeg)) 5 0) 36 1) + 1)) Q
        refine ez_if_ne rfl (fun _ => ?_) (fun h => False.elim (by revert h; decide))
        show ez xs 89 46 [some (.ref 0), some (.int w), some (.int o), some (.int f), some (.int x), some (.int y)] [] (jj_up (jj_up (jj_up (jj_up (jj_up (jj_up (jj_up (jj_up (jj_up m (39 + 6 * ((m 36 1).toNatClampNeg)) 0 o) (39 + 6 * ((m 36 1).toNatClampNeg)) 1 (f_Pattern_describe_u1 m o f x y (39 + 6 * ((m 36 1).toNatClampNeg)))) (39 + 6 * ((m 36 1).toNatClampNeg)) 2 (f_Pattern_describe_u2 m o f x y (39 + 6 * ((m 36 1).toNatClampNeg)))) (39 + 6 * ((m 36 1).toNatClampNeg)) 3 (f_Pattern_describe_u3 m o f x y (39 + 6 * ((m 36 1).toNatClampNeg)))) (38 + 6 * ((m 36 1).toNatClampNeg)) 3 0) (38 + 6 * ((m 36 1).toNatClampNeg)) 4 w) (38 + 6 * ((m 36 1).toNatClampNeg)) 5 0) 36 2 (((jj_up (jj_up (jj_up (jj_up (jj_up (jj_up (jj_up m (39 + 6 * ((m 36 1).toNatClampNeg)) 0 o) (39 + 6 * ((m 36 1).toNatClampNeg)) 1 (f_Pattern_describe_u1 m o f x y (39 + 6 * ((m 36 1).toNatClampNeg)))) (39 + 6 * ((m 36 1).toNatClampNeg)) 2 (f_Pattern_describe_u2 m o f x y (39 + 6 * ((m 36 1).toNatClampNeg)))) (39 + 6 * ((m 36 1).toNatClampNeg)) 3 (f_Pattern_describe_u3 m o f x y (39 + 6 * ((m 36 1).toNatClampNeg)))) (38 + 6 * ((m 36 1).toNatClampNeg)) 3 0) (38 + 6 * ((m 36 1).toNatClampNeg)) 4 w) (38 + 6 * ((m 36 1).toNatClampNeg)) 5 0) 36 2) ||| (f_Pattern_unknownsIn (jj_up (jj_up (jj_up (jj_up (jj_up (jj_up (jj_up m (39 + 6 * ((m 36 1).toNatClampNeg)) 0 o) (39 + 6 * ((m 36 1).toNatClampNeg)) 1 (f_Pattern_describe_u1 m o f x y (39 + 6 * ((m 36 1).toNatClampNeg)))) (39 + 6 * ((m 36 1).toNatClampNeg)) 2 (f_Pattern_describe_u2 m o f x y (39 + 6 * ((m 36 1).toNatClampNeg)))) (39 + 6 * ((m 36 1).toNatClampNeg)) 3 (f_Pattern_describe_u3 m o f x y (39 + 6 * ((m 36 1).toNatClampNeg)))) (38 + 6 * ((m 36 1).toNatClampNeg)) 3 0) (38 + 6 * ((m 36 1).toNatClampNeg)) 4 w) (38 + 6 * ((m 36 1).toNatClampNeg)) 5 0) ((jj_up (jj_up (jj_up (jj_up (jj_up (jj_up (jj_up m (39 + 6 * ((m 36 1).toNatClampNeg)) 0 o) (39 + 6 * ((m 36 1).toNatClampNeg)) 1 (f_Pattern_describe_u1 m o f x y (39 + 6 * ((m 36 1).toNatClampNeg)))) (39 + 6 * ((m 36 1).toNatClampNeg)) 2 (f_Pattern_describe_u2 m o f x y (39 + 6 * ((m 36 1).toNatClampNeg)))) (39 + 6 * ((m 36 1).toNatClampNeg)) 3 (f_Pattern_describe_u3 m o f x y (39 + 6 * ((m 36 1).toNatClampNeg)))) (38 + 6 * ((m 36 1).toNatClampNeg)) 3 0) (38 + 6 * ((m 36 1).toNatClampNeg)) 4 w) (38 + 6 * ((m 36 1).toNatClampNeg)) 5 0) (39 + 6 * ((jj_up (jj_up (jj_up (jj_up (jj_up (jj_up (jj_up m (39 + 6 * ((m 36 1).toNatClampNeg)) 0 o) (39 + 6 * ((m 36 1).toNatClampNeg)) 1 (f_Pattern_describe_u1 m o f x y (39 + 6 * ((m 36 1).toNatClampNeg)))) (39 + 6 * ((m 36 1).toNatClampNeg)) 2 (f_Pattern_describe_u2 m o f x y (39 + 6 * ((m 36 1).toNatClampNeg)))) (39 + 6 * ((m 36 1).toNatClampNeg)) 3 (f_Pattern_describe_u3 m o f x y (39 + 6 * ((m 36 1).toNatClampNeg)))) (38 + 6 * ((m 36 1).toNatClampNeg)) 3 0) (38 + 6 * ((m 36 1).toNatClampNeg)) 4 w) (38 + 6 * ((m 36 1).toNatClampNeg)) 5 0) 36 1).toNatClampNeg) 0) ((jj_up (jj_up (jj_up (jj_up (jj_up (jj_up (jj_up m (39 + 6 * ((m 36 1).toNatClampNeg)) 0 o) (39 + 6 * ((m 36 1).toNatClampNeg)) 1 (f_Pattern_describe_u1 m o f x y (39 + 6 * ((m 36 1).toNatClampNeg)))) (39 + 6 * ((m 36 1).toNatClampNeg)) 2 (f_Pattern_describe_u2 m o f x y (39 + 6 * ((m 36 1).toNatClampNeg)))) (39 + 6 * ((m 36 1).toNatClampNeg)) 3 (f_Pattern_describe_u3 m o f x y (39 + 6 * ((m 36 1).toNatClampNeg)))) (38 + 6 * ((m 36 1).toNatClampNeg)) 3 0) (38 + 6 * ((m 36 1).toNatClampNeg)) 4 w) (38 + 6 * ((m 36 1).toNatClampNeg)) 5 0) (39 + 6 * ((jj_up (jj_up (jj_up (jj_up (jj_up (jj_up (jj_up m (39 + 6 * ((m 36 1).toNatClampNeg)) 0 o) (39 + 6 * ((m 36 1).toNatClampNeg)) 1 (f_Pattern_describe_u1 m o f x y (39 + 6 * ((m 36 1).toNatClampNeg)))) (39 + 6 * ((m 36 1).toNatClampNeg)) 2 (f_Pattern_describe_u2 m o f x y (39 + 6 * ((m 36 1).toNatClampNeg)))) (39 + 6 * ((m 36 1).toNatClampNeg)) 3 (f_Pattern_describe_u3 m o f x y (39 + 6 * ((m 36 1).toNatClampNeg)))) (38 + 6 * ((m 36 1).toNatClampNeg)) 3 0) (38 + 6 * ((m 36 1).toNatClampNeg)) 4 w) (38 + 6 * ((m 36 1).toNatClampNeg)) 5 0) 36 1).toNatClampNeg) 2) ((jj_up (jj_up (jj_up (jj_up (jj_up (jj_up (jj_up m (39 + 6 * ((m 36 1).toNatClampNeg)) 0 o) (39 + 6 * ((m 36 1).toNatClampNeg)) 1 (f_Pattern_describe_u1 m o f x y (39 + 6 * ((m 36 1).toNatClampNeg)))) (39 + 6 * ((m 36 1).toNatClampNeg)) 2 (f_Pattern_describe_u2 m o f x y (39 + 6 * ((m 36 1).toNatClampNeg)))) (39 + 6 * ((m 36 1).toNatClampNeg)) 3 (f_Pattern_describe_u3 m o f x y (39 + 6 * ((m 36 1).toNatClampNeg)))) (38 + 6 * ((m 36 1).toNatClampNeg)) 3 0) (38 + 6 * ((m 36 1).toNatClampNeg)) 4 w) (38 + 6 * ((m 36 1).toNatClampNeg)) 5 0) (39 + 6 * ((jj_up (jj_up (jj_up (jj_up (jj_up (jj_up (jj_up m (39 + 6 * ((m 36 1).toNatClampNeg)) 0 o) (39 + 6 * ((m 36 1).toNatClampNeg)) 1 (f_Pattern_describe_u1 m o f x y (39 + 6 * ((m 36 1).toNatClampNeg)))) (39 + 6 * ((m 36 1).toNatClampNeg)) 2 (f_Pattern_describe_u2 m o f x y (39 + 6 * ((m 36 1).toNatClampNeg)))) (39 + 6 * ((m 36 1).toNatClampNeg)) 3 (f_Pattern_describe_u3 m o f x y (39 + 6 * ((m 36 1).toNatClampNeg)))) (38 + 6 * ((m 36 1).toNatClampNeg)) 3 0) (38 + 6 * ((m 36 1).toNatClampNeg)) 4 w) (38 + 6 * ((m 36 1).toNatClampNeg)) 5 0) 36 1).toNatClampNeg) 3)))) 36 1 (((jj_up (jj_up (jj_up (jj_up (jj_up (jj_up (jj_up m (39 + 6 * ((m 36 1).toNatClampNeg)) 0 o) (39 + 6 * ((m 36 1).toNatClampNeg)) 1 (f_Pattern_describe_u1 m o f x y (39 + 6 * ((m 36 1).toNatClampNeg)))) (39 + 6 * ((m 36 1).toNatClampNeg)) 2 (f_Pattern_describe_u2 m o f x y (39 + 6 * ((m 36 1).toNatClampNeg)))) (39 + 6 * ((m 36 1).toNatClampNeg)) 3 (f_Pattern_describe_u3 m o f x y (39 + 6 * ((m 36 1).toNatClampNeg)))) (38 + 6 * ((m 36 1).toNatClampNeg)) 3 0) (38 + 6 * ((m 36 1).toNatClampNeg)) 4 w) (38 + 6 * ((m 36 1).toNatClampNeg)) 5 0) 36 1) + 1)) Q
        refine ez_blk 5 rfl ?_
        show ez xs 89 55 [some (.ref 0), some (.int w), some (.int o), some (.int f), some (.int x), some (.int y)] [.ref 36] (jj_up (jj_up (jj_up (jj_up (jj_up (jj_up (jj_up (jj_up (jj_up (jj_up m (39 + 6 * ((m 36 1).toNatClampNeg)) 0 o) (39 + 6 * ((m 36 1).toNatClampNeg)) 1 (f_Pattern_describe_u1 m o f x y (39 + 6 * ((m 36 1).toNatClampNeg)))) (39 + 6 * ((m 36 1).toNatClampNeg)) 2 (f_Pattern_describe_u2 m o f x y (39 + 6 * ((m 36 1).toNatClampNeg)))) (39 + 6 * ((m 36 1).toNatClampNeg)) 3 (f_Pattern_describe_u3 m o f x y (39 + 6 * ((m 36 1).toNatClampNeg)))) (38 + 6 * ((m 36 1).toNatClampNeg)) 3 0) (38 + 6 * ((m 36 1).toNatClampNeg)) 4 w) (38 + 6 * ((m 36 1).toNatClampNeg)) 5 0) 36 2 (((jj_up (jj_up (jj_up (jj_up (jj_up (jj_up (jj_up m (39 + 6 * ((m 36 1).toNatClampNeg)) 0 o) (39 + 6 * ((m 36 1).toNatClampNeg)) 1 (f_Pattern_describe_u1 m o f x y (39 + 6 * ((m 36 1).toNatClampNeg)))) (39 + 6 * ((m 36 1).toNatClampNeg)) 2 (f_Pattern_describe_u2 m o f x y (39 + 6 * ((m 36 1).toNatClampNeg)))) (39 + 6 * ((m 36 1).toNatClampNeg)) 3 (f_Pattern_describe_u3 m o f x y (39 + 6 * ((m 36 1).toNatClampNeg)))) (38 + 6 * ((m 36 1).toNatClampNeg)) 3 0) (38 + 6 * ((m 36 1).toNatClampNeg)) 4 w) (38 + 6 * ((m 36 1).toNatClampNeg)) 5 0) 36 2) ||| (f_Pattern_unknownsIn (jj_up (jj_up (jj_up (jj_up (jj_up (jj_up (jj_up m (39 + 6 * ((m 36 1).toNatClampNeg)) 0 o) (39 + 6 * ((m 36 1).toNatClampNeg)) 1 (f_Pattern_describe_u1 m o f x y (39 + 6 * ((m 36 1).toNatClampNeg)))) (39 + 6 * ((m 36 1).toNatClampNeg)) 2 (f_Pattern_describe_u2 m o f x y (39 + 6 * ((m 36 1).toNatClampNeg)))) (39 + 6 * ((m 36 1).toNatClampNeg)) 3 (f_Pattern_describe_u3 m o f x y (39 + 6 * ((m 36 1).toNatClampNeg)))) (38 + 6 * ((m 36 1).toNatClampNeg)) 3 0) (38 + 6 * ((m 36 1).toNatClampNeg)) 4 w) (38 + 6 * ((m 36 1).toNatClampNeg)) 5 0) ((jj_up (jj_up (jj_up (jj_up (jj_up (jj_up (jj_up m (39 + 6 * ((m 36 1).toNatClampNeg)) 0 o) (39 + 6 * ((m 36 1).toNatClampNeg)) 1 (f_Pattern_describe_u1 m o f x y (39 + 6 * ((m 36 1).toNatClampNeg)))) (39 + 6 * ((m 36 1).toNatClampNeg)) 2 (f_Pattern_describe_u2 m o f x y (39 + 6 * ((m 36 1).toNatClampNeg)))) (39 + 6 * ((m 36 1).toNatClampNeg)) 3 (f_Pattern_describe_u3 m o f x y (39 + 6 * ((m 36 1).toNatClampNeg)))) (38 + 6 * ((m 36 1).toNatClampNeg)) 3 0) (38 + 6 * ((m 36 1).toNatClampNeg)) 4 w) (38 + 6 * ((m 36 1).toNatClampNeg)) 5 0) (39 + 6 * ((jj_up (jj_up (jj_up (jj_up (jj_up (jj_up (jj_up m (39 + 6 * ((m 36 1).toNatClampNeg)) 0 o) (39 + 6 * ((m 36 1).toNatClampNeg)) 1 (f_Pattern_describe_u1 m o f x y (39 + 6 * ((m 36 1).toNatClampNeg)))) (39 + 6 * ((m 36 1).toNatClampNeg)) 2 (f_Pattern_describe_u2 m o f x y (39 + 6 * ((m 36 1).toNatClampNeg)))) (39 + 6 * ((m 36 1).toNatClampNeg)) 3 (f_Pattern_describe_u3 m o f x y (39 + 6 * ((m 36 1).toNatClampNeg)))) (38 + 6 * ((m 36 1).toNatClampNeg)) 3 0) (38 + 6 * ((m 36 1).toNatClampNeg)) 4 w) (38 + 6 * ((m 36 1).toNatClampNeg)) 5 0) 36 1).toNatClampNeg) 0) ((jj_up (jj_up (jj_up (jj_up (jj_up (jj_up (jj_up m (39 + 6 * ((m 36 1).toNatClampNeg)) 0 o) (39 + 6 * ((m 36 1).toNatClampNeg)) 1 (f_Pattern_describe_u1 m o f x y (39 + 6 * ((m 36 1).toNatClampNeg)))) (39 + 6 * ((m 36 1).toNatClampNeg)) 2 (f_Pattern_describe_u2 m o f x y (39 + 6 * ((m 36 1).toNatClampNeg)))) (39 + 6 * ((m 36 1).toNatClampNeg)) 3 (f_Pattern_describe_u3 m o f x y (39 + 6 * ((m 36 1).toNatClampNeg)))) (38 + 6 * ((m 36 1).toNatClampNeg)) 3 0) (38 + 6 * ((m 36 1).toNatClampNeg)) 4 w) (38 + 6 * ((m 36 1).toNatClampNeg)) 5 0) (39 + 6 * ((jj_up (jj_up (jj_up (jj_up (jj_up (jj_up (jj_up m (39 + 6 * ((m 36 1).toNatClampNeg)) 0 o) (39 + 6 * ((m 36 1).toNatClampNeg)) 1 (f_Pattern_describe_u1 m o f x y (39 + 6 * ((m 36 1).toNatClampNeg)))) (39 + 6 * ((m 36 1).toNatClampNeg)) 2 (f_Pattern_describe_u2 m o f x y (39 + 6 * ((m 36 1).toNatClampNeg)))) (39 + 6 * ((m 36 1).toNatClampNeg)) 3 (f_Pattern_describe_u3 m o f x y (39 + 6 * ((m 36 1).toNatClampNeg)))) (38 + 6 * ((m 36 1).toNatClampNeg)) 3 0) (38 + 6 * ((m 36 1).toNatClampNeg)) 4 w) (38 + 6 * ((m 36 1).toNatClampNeg)) 5 0) 36 1).toNatClampNeg) 2) ((jj_up (jj_up (jj_up (jj_up (jj_up (jj_up (jj_up m (39 + 6 * ((m 36 1).toNatClampNeg)) 0 o) (39 + 6 * ((m 36 1).toNatClampNeg)) 1 (f_Pattern_describe_u1 m o f x y (39 + 6 * ((m 36 1).toNatClampNeg)))) (39 + 6 * ((m 36 1).toNatClampNeg)) 2 (f_Pattern_describe_u2 m o f x y (39 + 6 * ((m 36 1).toNatClampNeg)))) (39 + 6 * ((m 36 1).toNatClampNeg)) 3 (f_Pattern_describe_u3 m o f x y (39 + 6 * ((m 36 1).toNatClampNeg)))) (38 + 6 * ((m 36 1).toNatClampNeg)) 3 0) (38 + 6 * ((m 36 1).toNatClampNeg)) 4 w) (38 + 6 * ((m 36 1).toNatClampNeg)) 5 0) (39 + 6 * ((jj_up (jj_up (jj_up (jj_up (jj_up (jj_up (jj_up m (39 + 6 * ((m 36 1).toNatClampNeg)) 0 o) (39 + 6 * ((m 36 1).toNatClampNeg)) 1 (f_Pattern_describe_u1 m o f x y (39 + 6 * ((m 36 1).toNatClampNeg)))) (39 + 6 * ((m 36 1).toNatClampNeg)) 2 (f_Pattern_describe_u2 m o f x y (39 + 6 * ((m 36 1).toNatClampNeg)))) (39 + 6 * ((m 36 1).toNatClampNeg)) 3 (f_Pattern_describe_u3 m o f x y (39 + 6 * ((m 36 1).toNatClampNeg)))) (38 + 6 * ((m 36 1).toNatClampNeg)) 3 0) (38 + 6 * ((m 36 1).toNatClampNeg)) 4 w) (38 + 6 * ((m 36 1).toNatClampNeg)) 5 0) 36 1).toNatClampNeg) 3)))) 36 1 (((jj_up (jj_up (jj_up (jj_up (jj_up (jj_up (jj_up m (39 + 6 * ((m 36 1).toNatClampNeg)) 0 o) (39 + 6 * ((m 36 1).toNatClampNeg)) 1 (f_Pattern_describe_u1 m o f x y (39 + 6 * ((m 36 1).toNatClampNeg)))) (39 + 6 * ((m 36 1).toNatClampNeg)) 2 (f_Pattern_describe_u2 m o f x y (39 + 6 * ((m 36 1).toNatClampNeg)))) (39 + 6 * ((m 36 1).toNatClampNeg)) 3 (f_Pattern_describe_u3 m o f x y (39 + 6 * ((m 36 1).toNatClampNeg)))) (38 + 6 * ((m 36 1).toNatClampNeg)) 3 0) (38 + 6 * ((m 36 1).toNatClampNeg)) 4 w) (38 + 6 * ((m 36 1).toNatClampNeg)) 5 0) 36 1) + 1)) 0 8 0) Q
        refine ez_call (as := [.ref 36]) (rest := []) rfl (by decide) rfl ?_
        refine c_Script_size ?_
        show ez xs 89 58 [some (.ref 0), some (.int w), some (.int o), some (.int f), some (.int x), some (.int y)] [.int ((jj_up (jj_up (jj_up (jj_up (jj_up (jj_up (jj_up (jj_up (jj_up (jj_up m (39 + 6 * ((m 36 1).toNatClampNeg)) 0 o) (39 + 6 * ((m 36 1).toNatClampNeg)) 1 (f_Pattern_describe_u1 m o f x y (39 + 6 * ((m 36 1).toNatClampNeg)))) (39 + 6 * ((m 36 1).toNatClampNeg)) 2 (f_Pattern_describe_u2 m o f x y (39 + 6 * ((m 36 1).toNatClampNeg)))) (39 + 6 * ((m 36 1).toNatClampNeg)) 3 (f_Pattern_describe_u3 m o f x y (39 + 6 * ((m 36 1).toNatClampNeg)))) (38 + 6 * ((m 36 1).toNatClampNeg)) 3 0) (38 + 6 * ((m 36 1).toNatClampNeg)) 4 w) (38 + 6 * ((m 36 1).toNatClampNeg)) 5 0) 36 2 (((jj_up (jj_up (jj_up (jj_up (jj_up (jj_up (jj_up m (39 + 6 * ((m 36 1).toNatClampNeg)) 0 o) (39 + 6 * ((m 36 1).toNatClampNeg)) 1 (f_Pattern_describe_u1 m o f x y (39 + 6 * ((m 36 1).toNatClampNeg)))) (39 + 6 * ((m 36 1).toNatClampNeg)) 2 (f_Pattern_describe_u2 m o f x y (39 + 6 * ((m 36 1).toNatClampNeg)))) (39 + 6 * ((m 36 1).toNatClampNeg)) 3 (f_Pattern_describe_u3 m o f x y (39 + 6 * ((m 36 1).toNatClampNeg)))) (38 + 6 * ((m 36 1).toNatClampNeg)) 3 0) (38 + 6 * ((m 36 1).toNatClampNeg)) 4 w) (38 + 6 * ((m 36 1).toNatClampNeg)) 5 0) 36 2) ||| (f_Pattern_unknownsIn (jj_up (jj_up (jj_up (jj_up (jj_up (jj_up (jj_up m (39 + 6 * ((m 36 1).toNatClampNeg)) 0 o) (39 + 6 * ((m 36 1).toNatClampNeg)) 1 (f_Pattern_describe_u1 m o f x y (39 + 6 * ((m 36 1).toNatClampNeg)))) (39 + 6 * ((m 36 1).toNatClampNeg)) 2 (f_Pattern_describe_u2 m o f x y (39 + 6 * ((m 36 1).toNatClampNeg)))) (39 + 6 * ((m 36 1).toNatClampNeg)) 3 (f_Pattern_describe_u3 m o f x y (39 + 6 * ((m 36 1).toNatClampNeg)))) (38 + 6 * ((m 36 1).toNatClampNeg)) 3 0) (38 + 6 * ((m 36 1).toNatClampNeg)) 4 w) (38 + 6 * ((m 36 1).toNatClampNeg)) 5 0) ((jj_up (jj_up (jj_up (jj_up (jj_up (jj_up (jj_up m (39 + 6 * ((m 36 1).toNatClampNeg)) 0 o) (39 + 6 * ((m 36 1).toNatClampNeg)) 1 (f_Pattern_describe_u1 m o f x y (39 + 6 * ((m 36 1).toNatClampNeg)))) (39 + 6 * ((m 36 1).toNatClampNeg)) 2 (f_Pattern_describe_u2 m o f x y (39 + 6 * ((m 36 1).toNatClampNeg)))) (39 + 6 * ((m 36 1).toNatClampNeg)) 3 (f_Pattern_describe_u3 m o f x y (39 + 6 * ((m 36 1).toNatClampNeg)))) (38 + 6 * ((m 36 1).toNatClampNeg)) 3 0) (38 + 6 * ((m 36 1).toNatClampNeg)) 4 w) (38 + 6 * ((m 36 1).toNatClampNeg)) 5 0) (39 + 6 * ((jj_up (jj_up (jj_up (jj_up (jj_up (jj_up (jj_up m (39 + 6 * ((m 36 1).toNatClampNeg)) 0 o) (39 + 6 * ((m 36 1).toNatClampNeg)) 1 (f_Pattern_describe_u1 m o f x y (39 + 6 * ((m 36 1).toNatClampNeg)))) (39 + 6 * ((m 36 1).toNatClampNeg)) 2 (f_Pattern_describe_u2 m o f x y (39 + 6 * ((m 36 1).toNatClampNeg)))) (39 + 6 * ((m 36 1).toNatClampNeg)) 3 (f_Pattern_describe_u3 m o f x y (39 + 6 * ((m 36 1).toNatClampNeg)))) (38 + 6 * ((m 36 1).toNatClampNeg)) 3 0) (38 + 6 * ((m 36 1).toNatClampNeg)) 4 w) (38 + 6 * ((m 36 1).toNatClampNeg)) 5 0) 36 1).toNatClampNeg) 0) ((jj_up (jj_up (jj_up (jj_up (jj_up (jj_up (jj_up m (39 + 6 * ((m 36 1).toNatClampNeg)) 0 o) (39 + 6 * ((m 36 1).toNatClampNeg)) 1 (f_Pattern_describe_u1 m o f x y (39 + 6 * ((m 36 1).toNatClampNeg)))) (39 + 6 * ((m 36 1).toNatClampNeg)) 2 (f_Pattern_describe_u2 m o f x y (39 + 6 * ((m 36 1).toNatClampNeg)))) (39 + 6 * ((m 36 1).toNatClampNeg)) 3 (f_Pattern_describe_u3 m o f x y (39 + 6 * ((m 36 1).toNatClampNeg)))) (38 + 6 * ((m 36 1).toNatClampNeg)) 3 0) (38 + 6 * ((m 36 1).toNatClampNeg)) 4 w) (38 + 6 * ((m 36 1).toNatClampNeg)) 5 0) (39 + 6 * ((jj_up (jj_up (jj_up (jj_up (jj_up (jj_up (jj_up m (39 + 6 * ((m 36 1).toNatClampNeg)) 0 o) (39 + 6 * ((m 36 1).toNatClampNeg)) 1 (f_Pattern_describe_u1 m o f x y (39 + 6 * ((m 36 1).toNatClampNeg)))) (39 + 6 * ((m 36 1).toNatClampNeg)) 2 (f_Pattern_describe_u2 m o f x y (39 + 6 * ((m 36 1).toNatClampNeg)))) (39 + 6 * ((m 36 1).toNatClampNeg)) 3 (f_Pattern_describe_u3 m o f x y (39 + 6 * ((m 36 1).toNatClampNeg)))) (38 + 6 * ((m 36 1).toNatClampNeg)) 3 0) (38 + 6 * ((m 36 1).toNatClampNeg)) 4 w) (38 + 6 * ((m 36 1).toNatClampNeg)) 5 0) 36 1).toNatClampNeg) 2) ((jj_up (jj_up (jj_up (jj_up (jj_up (jj_up (jj_up m (39 + 6 * ((m 36 1).toNatClampNeg)) 0 o) (39 + 6 * ((m 36 1).toNatClampNeg)) 1 (f_Pattern_describe_u1 m o f x y (39 + 6 * ((m 36 1).toNatClampNeg)))) (39 + 6 * ((m 36 1).toNatClampNeg)) 2 (f_Pattern_describe_u2 m o f x y (39 + 6 * ((m 36 1).toNatClampNeg)))) (39 + 6 * ((m 36 1).toNatClampNeg)) 3 (f_Pattern_describe_u3 m o f x y (39 + 6 * ((m 36 1).toNatClampNeg)))) (38 + 6 * ((m 36 1).toNatClampNeg)) 3 0) (38 + 6 * ((m 36 1).toNatClampNeg)) 4 w) (38 + 6 * ((m 36 1).toNatClampNeg)) 5 0) (39 + 6 * ((jj_up (jj_up (jj_up (jj_up (jj_up (jj_up (jj_up m (39 + 6 * ((m 36 1).toNatClampNeg)) 0 o) (39 + 6 * ((m 36 1).toNatClampNeg)) 1 (f_Pattern_describe_u1 m o f x y (39 + 6 * ((m 36 1).toNatClampNeg)))) (39 + 6 * ((m 36 1).toNatClampNeg)) 2 (f_Pattern_describe_u2 m o f x y (39 + 6 * ((m 36 1).toNatClampNeg)))) (39 + 6 * ((m 36 1).toNatClampNeg)) 3 (f_Pattern_describe_u3 m o f x y (39 + 6 * ((m 36 1).toNatClampNeg)))) (38 + 6 * ((m 36 1).toNatClampNeg)) 3 0) (38 + 6 * ((m 36 1).toNatClampNeg)) 4 w) (38 + 6 * ((m 36 1).toNatClampNeg)) 5 0) 36 1).toNatClampNeg) 3)))) 36 1 (((jj_up (jj_up (jj_up (jj_up (jj_up (jj_up (jj_up m (39 + 6 * ((m 36 1).toNatClampNeg)) 0 o) (39 + 6 * ((m 36 1).toNatClampNeg)) 1 (f_Pattern_describe_u1 m o f x y (39 + 6 * ((m 36 1).toNatClampNeg)))) (39 + 6 * ((m 36 1).toNatClampNeg)) 2 (f_Pattern_describe_u2 m o f x y (39 + 6 * ((m 36 1).toNatClampNeg)))) (39 + 6 * ((m 36 1).toNatClampNeg)) 3 (f_Pattern_describe_u3 m o f x y (39 + 6 * ((m 36 1).toNatClampNeg)))) (38 + 6 * ((m 36 1).toNatClampNeg)) 3 0) (38 + 6 * ((m 36 1).toNatClampNeg)) 4 w) (38 + 6 * ((m 36 1).toNatClampNeg)) 5 0) 36 1) + 1)) 0 8 0) 36 1)] (jj_up (jj_up (jj_up (jj_up (jj_up (jj_up (jj_up (jj_up (jj_up (jj_up m (39 + 6 * ((m 36 1).toNatClampNeg)) 0 o) (39 + 6 * ((m 36 1).toNatClampNeg)) 1 (f_Pattern_describe_u1 m o f x y (39 + 6 * ((m 36 1).toNatClampNeg)))) (39 + 6 * ((m 36 1).toNatClampNeg)) 2 (f_Pattern_describe_u2 m o f x y (39 + 6 * ((m 36 1).toNatClampNeg)))) (39 + 6 * ((m 36 1).toNatClampNeg)) 3 (f_Pattern_describe_u3 m o f x y (39 + 6 * ((m 36 1).toNatClampNeg)))) (38 + 6 * ((m 36 1).toNatClampNeg)) 3 0) (38 + 6 * ((m 36 1).toNatClampNeg)) 4 w) (38 + 6 * ((m 36 1).toNatClampNeg)) 5 0) 36 2 (((jj_up (jj_up (jj_up (jj_up (jj_up (jj_up (jj_up m (39 + 6 * ((m 36 1).toNatClampNeg)) 0 o) (39 + 6 * ((m 36 1).toNatClampNeg)) 1 (f_Pattern_describe_u1 m o f x y (39 + 6 * ((m 36 1).toNatClampNeg)))) (39 + 6 * ((m 36 1).toNatClampNeg)) 2 (f_Pattern_describe_u2 m o f x y (39 + 6 * ((m 36 1).toNatClampNeg)))) (39 + 6 * ((m 36 1).toNatClampNeg)) 3 (f_Pattern_describe_u3 m o f x y (39 + 6 * ((m 36 1).toNatClampNeg)))) (38 + 6 * ((m 36 1).toNatClampNeg)) 3 0) (38 + 6 * ((m 36 1).toNatClampNeg)) 4 w) (38 + 6 * ((m 36 1).toNatClampNeg)) 5 0) 36 2) ||| (f_Pattern_unknownsIn (jj_up (jj_up (jj_up (jj_up (jj_up (jj_up (jj_up m (39 + 6 * ((m 36 1).toNatClampNeg)) 0 o) (39 + 6 * ((m 36 1).toNatClampNeg)) 1 (f_Pattern_describe_u1 m o f x y (39 + 6 * ((m 36 1).toNatClampNeg)))) (39 + 6 * ((m 36 1).toNatClampNeg)) 2 (f_Pattern_describe_u2 m o f x y (39 + 6 * ((m 36 1).toNatClampNeg)))) (39 + 6 * ((m 36 1).toNatClampNeg)) 3 (f_Pattern_describe_u3 m o f x y (39 + 6 * ((m 36 1).toNatClampNeg)))) (38 + 6 * ((m 36 1).toNatClampNeg)) 3 0) (38 + 6 * ((m 36 1).toNatClampNeg)) 4 w) (38 + 6 * ((m 36 1).toNatClampNeg)) 5 0) ((jj_up (jj_up (jj_up (jj_up (jj_up (jj_up (jj_up m (39 + 6 * ((m 36 1).toNatClampNeg)) 0 o) (39 + 6 * ((m 36 1).toNatClampNeg)) 1 (f_Pattern_describe_u1 m o f x y (39 + 6 * ((m 36 1).toNatClampNeg)))) (39 + 6 * ((m 36 1).toNatClampNeg)) 2 (f_Pattern_describe_u2 m o f x y (39 + 6 * ((m 36 1).toNatClampNeg)))) (39 + 6 * ((m 36 1).toNatClampNeg)) 3 (f_Pattern_describe_u3 m o f x y (39 + 6 * ((m 36 1).toNatClampNeg)))) (38 + 6 * ((m 36 1).toNatClampNeg)) 3 0) (38 + 6 * ((m 36 1).toNatClampNeg)) 4 w) (38 + 6 * ((m 36 1).toNatClampNeg)) 5 0) (39 + 6 * ((jj_up (jj_up (jj_up (jj_up (jj_up (jj_up (jj_up m (39 + 6 * ((m 36 1).toNatClampNeg)) 0 o) (39 + 6 * ((m 36 1).toNatClampNeg)) 1 (f_Pattern_describe_u1 m o f x y (39 + 6 * ((m 36 1).toNatClampNeg)))) (39 + 6 * ((m 36 1).toNatClampNeg)) 2 (f_Pattern_describe_u2 m o f x y (39 + 6 * ((m 36 1).toNatClampNeg)))) (39 + 6 * ((m 36 1).toNatClampNeg)) 3 (f_Pattern_describe_u3 m o f x y (39 + 6 * ((m 36 1).toNatClampNeg)))) (38 + 6 * ((m 36 1).toNatClampNeg)) 3 0) (38 + 6 * ((m 36 1).toNatClampNeg)) 4 w) (38 + 6 * ((m 36 1).toNatClampNeg)) 5 0) 36 1).toNatClampNeg) 0) ((jj_up (jj_up (jj_up (jj_up (jj_up (jj_up (jj_up m (39 + 6 * ((m 36 1).toNatClampNeg)) 0 o) (39 + 6 * ((m 36 1).toNatClampNeg)) 1 (f_Pattern_describe_u1 m o f x y (39 + 6 * ((m 36 1).toNatClampNeg)))) (39 + 6 * ((m 36 1).toNatClampNeg)) 2 (f_Pattern_describe_u2 m o f x y (39 + 6 * ((m 36 1).toNatClampNeg)))) (39 + 6 * ((m 36 1).toNatClampNeg)) 3 (f_Pattern_describe_u3 m o f x y (39 + 6 * ((m 36 1).toNatClampNeg)))) (38 + 6 * ((m 36 1).toNatClampNeg)) 3 0) (38 + 6 * ((m 36 1).toNatClampNeg)) 4 w) (38 + 6 * ((m 36 1).toNatClampNeg)) 5 0) (39 + 6 * ((jj_up (jj_up (jj_up (jj_up (jj_up (jj_up (jj_up m (39 + 6 * ((m 36 1).toNatClampNeg)) 0 o) (39 + 6 * ((m 36 1).toNatClampNeg)) 1 (f_Pattern_describe_u1 m o f x y (39 + 6 * ((m 36 1).toNatClampNeg)))) (39 + 6 * ((m 36 1).toNatClampNeg)) 2 (f_Pattern_describe_u2 m o f x y (39 + 6 * ((m 36 1).toNatClampNeg)))) (39 + 6 * ((m 36 1).toNatClampNeg)) 3 (f_Pattern_describe_u3 m o f x y (39 + 6 * ((m 36 1).toNatClampNeg)))) (38 + 6 * ((m 36 1).toNatClampNeg)) 3 0) (38 + 6 * ((m 36 1).toNatClampNeg)) 4 w) (38 + 6 * ((m 36 1).toNatClampNeg)) 5 0) 36 1).toNatClampNeg) 2) ((jj_up (jj_up (jj_up (jj_up (jj_up (jj_up (jj_up m (39 + 6 * ((m 36 1).toNatClampNeg)) 0 o) (39 + 6 * ((m 36 1).toNatClampNeg)) 1 (f_Pattern_describe_u1 m o f x y (39 + 6 * ((m 36 1).toNatClampNeg)))) (39 + 6 * ((m 36 1).toNatClampNeg)) 2 (f_Pattern_describe_u2 m o f x y (39 + 6 * ((m 36 1).toNatClampNeg)))) (39 + 6 * ((m 36 1).toNatClampNeg)) 3 (f_Pattern_describe_u3 m o f x y (39 + 6 * ((m 36 1).toNatClampNeg)))) (38 + 6 * ((m 36 1).toNatClampNeg)) 3 0) (38 + 6 * ((m 36 1).toNatClampNeg)) 4 w) (38 + 6 * ((m 36 1).toNatClampNeg)) 5 0) (39 + 6 * ((jj_up (jj_up (jj_up (jj_up (jj_up (jj_up (jj_up m (39 + 6 * ((m 36 1).toNatClampNeg)) 0 o) (39 + 6 * ((m 36 1).toNatClampNeg)) 1 (f_Pattern_describe_u1 m o f x y (39 + 6 * ((m 36 1).toNatClampNeg)))) (39 + 6 * ((m 36 1).toNatClampNeg)) 2 (f_Pattern_describe_u2 m o f x y (39 + 6 * ((m 36 1).toNatClampNeg)))) (39 + 6 * ((m 36 1).toNatClampNeg)) 3 (f_Pattern_describe_u3 m o f x y (39 + 6 * ((m 36 1).toNatClampNeg)))) (38 + 6 * ((m 36 1).toNatClampNeg)) 3 0) (38 + 6 * ((m 36 1).toNatClampNeg)) 4 w) (38 + 6 * ((m 36 1).toNatClampNeg)) 5 0) 36 1).toNatClampNeg) 3)))) 36 1 (((jj_up (jj_up (jj_up (jj_up (jj_up (jj_up (jj_up m (39 + 6 * ((m 36 1).toNatClampNeg)) 0 o) (39 + 6 * ((m 36 1).toNatClampNeg)) 1 (f_Pattern_describe_u1 m o f x y (39 + 6 * ((m 36 1).toNatClampNeg)))) (39 + 6 * ((m 36 1).toNatClampNeg)) 2 (f_Pattern_describe_u2 m o f x y (39 + 6 * ((m 36 1).toNatClampNeg)))) (39 + 6 * ((m 36 1).toNatClampNeg)) 3 (f_Pattern_describe_u3 m o f x y (39 + 6 * ((m 36 1).toNatClampNeg)))) (38 + 6 * ((m 36 1).toNatClampNeg)) 3 0) (38 + 6 * ((m 36 1).toNatClampNeg)) 4 w) (38 + 6 * ((m 36 1).toNatClampNeg)) 5 0) 36 1) + 1)) 0 8 0) Q
        exact ez_ret rfl (by decide) rfl (g1 h1 h2 h6)
      · show ez xs 89 40 [some (.ref 0), some (.int w), some (.int o), some (.int f), some (.int x), some (.int y)] [.int 0] m Q
        refine ez_if_ne rfl (fun h => False.elim (by revert h; decide)) (fun _ => ?_)
        show ez xs 89 43 [some (.ref 0), some (.int w), some (.int o), some (.int f), some (.int x), some (.int y)] [] m Q
        refine ez_blk 1 rfl ?_
        show ez xs 89 45 [some (.ref 0), some (.int w), some (.int o), some (.int f), some (.int x), some (.int y)] [.int (-3)] m Q
        exact ez_ret rfl (by decide) rfl (g2 h1 h2 h7)
    · show ez xs 89 19 [some (.ref 0), some (.int w), some (.int o), some (.int f), some (.int x), some (.int y)] [] m Q
      refine ez_blk 1 rfl ?_
      show ez xs 89 20 [some (.ref 0), some (.int w), some (.int o), some (.int f), some (.int x), some (.int y)] [.int w] m Q
      refine ez_if_eq rfl (fun h8 => ?_) (fun h8 => ?_)
      · show ez xs 89 26 [some (.ref 0), some (.int w), some (.int o), some (.int f), some (.int x), some (.int y)] [] m Q
        refine ez_blk 7 rfl ?_
        show ez xs 89 37 [some (.ref 0), some (.int w), some (.int o), some (.int f), some (.int x), some (.int y)] [.int y, .int x, .int f, .int o, .int w, .ref 36] m Q
        refine ez_call (as := [.ref 36, .int w, .int o, .int f, .int x, .int y]) (rest := []) rfl (by decide) rfl ?_
        refine c_Script_append (fun h9 => b4 h1 h2 h8 h9) (fun h10 => b5 h1 h2 h8 h10) (fun h11 => b6 h1 h2 h8 h11) (fun h12 => ?_) (fun h13 => ?_)
        · show ez xs 89 40 [some (.ref 0), some (.int w), some (.int o), some (.int f), some (.int x), some (.int y)] [.int 1] (jj_up (jj_up (jj_up (jj_up (jj_up (jj_up (jj_up (jj_up (jj_up m (39 + 6 * ((m 36 1).toNatClampNeg)) 0 o) (39 + 6 * ((m 36 1).toNatClampNeg)) 1 (f_Pattern_describe_u1 m o f x y (39 + 6 * ((m 36 1).toNatClampNeg)))) (39 + 6 * ((m 36 1).toNatClampNeg)) 2 (f_Pattern_describe_u2 m o f x y (39 + 6 * ((m 36 1).toNatClampNeg)))) (39 + 6 * ((m 36 1).toNatClampNeg)) 3 (f_Pattern_describe_u3 m o f x y (39 + 6 * ((m 36 1).toNatClampNeg)))) (38 + 6 * ((m 36 1).toNatClampNeg)) 3 0) (38 + 6 * ((m 36 1).toNatClampNeg)) 4 w) (38 + 6 * ((m 36 1).toNatClampNeg)) 5 0) 36 2 (((jj_up (jj_up (jj_up (jj_up (jj_up (jj_up (jj_up m (39 + 6 * ((m 36 1).toNatClampNeg)) 0 o) (39 + 6 * ((m 36 1).toNatClampNeg)) 1 (f_Pattern_describe_u1 m o f x y (39 + 6 * ((m 36 1).toNatClampNeg)))) (39 + 6 * ((m 36 1).toNatClampNeg)) 2 (f_Pattern_describe_u2 m o f x y (39 + 6 * ((m 36 1).toNatClampNeg)))) (39 + 6 * ((m 36 1).toNatClampNeg)) 3 (f_Pattern_describe_u3 m o f x y (39 + 6 * ((m 36 1).toNatClampNeg)))) (38 + 6 * ((m 36 1).toNatClampNeg)) 3 0) (38 + 6 * ((m 36 1).toNatClampNeg)) 4 w) (38 + 6 * ((m 36 1).toNatClampNeg)) 5 0) 36 2) ||| (f_Pattern_unknownsIn (jj_up (jj_up (jj_up (jj_up (jj_up (jj_up (jj_up m (39 + 6 * ((m 36 1).toNatClampNeg)) 0 o) (39 + 6 * ((m 36 1).toNatClampNeg)) 1 (f_Pattern_describe_u1 m o f x y (39 + 6 * ((m 36 1).toNatClampNeg)))) (39 + 6 * ((m 36 1).toNatClampNeg)) 2 (f_Pattern_describe_u2 m o f x y (39 + 6 * ((m 36 1).toNatClampNeg)))) (39 + 6 * ((m 36 1).toNatClampNeg)) 3 (f_Pattern_describe_u3 m o f x y (39 + 6 * ((m 36 1).toNatClampNeg)))) (38 + 6 * ((m 36 1).toNatClampNeg)) 3 0) (38 + 6 * ((m 36 1).toNatClampNeg)) 4 w) (38 + 6 * ((m 36 1).toNatClampNeg)) 5 0) ((jj_up (jj_up (jj_up (jj_up (jj_up (jj_up (jj_up m (39 + 6 * ((m 36 1).toNatClampNeg)) 0 o) (39 + 6 * ((m 36 1).toNatClampNeg)) 1 (f_Pattern_describe_u1 m o f x y (39 + 6 * ((m 36 1).toNatClampNeg)))) (39 + 6 * ((m 36 1).toNatClampNeg)) 2 (f_Pattern_describe_u2 m o f x y (39 + 6 * ((m 36 1).toNatClampNeg)))) (39 + 6 * ((m 36 1).toNatClampNeg)) 3 (f_Pattern_describe_u3 m o f x y (39 + 6 * ((m 36 1).toNatClampNeg)))) (38 + 6 * ((m 36 1).toNatClampNeg)) 3 0) (38 + 6 * ((m 36 1).toNatClampNeg)) 4 w) (38 + 6 * ((m 36 1).toNatClampNeg)) 5 0) (39 + 6 * ((jj_up (jj_up (jj_up (jj_up (jj_up (jj_up (jj_up m (39 + 6 * ((m 36 1).toNatClampNeg)) 0 o) (39 + 6 * ((m 36 1).toNatClampNeg)) 1 (f_Pattern_describe_u1 m o f x y (39 + 6 * ((m 36 1).toNatClampNeg)))) (39 + 6 * ((m 36 1).toNatClampNeg)) 2 (f_Pattern_describe_u2 m o f x y (39 + 6 * ((m 36 1).toNatClampNeg)))) (39 + 6 * ((m 36 1).toNatClampNeg)) 3 (f_Pattern_describe_u3 m o f x y (39 + 6 * ((m 36 1).toNatClampNeg)))) (38 + 6 * ((m 36 1).toNatClampNeg)) 3 0) (38 + 6 * ((m 36 1).toNatClampNeg)) 4 w) (38 + 6 * ((m 36 1).toNatClampNeg)) 5 0) 36 1).toNatClampNeg) 0) ((jj_up (jj_up (jj_up (jj_up (jj_up (jj_up (jj_up m (39 + 6 * ((m 36 1).toNatClampNeg)) 0 o) (39 + 6 * ((m 36 1).toNatClampNeg)) 1 (f_Pattern_describe_u1 m o f x y (39 + 6 * ((m 36 1).toNatClampNeg)))) (39 + 6 * ((m 36 1).toNatClampNeg)) 2 (f_Pattern_describe_u2 m o f x y (39 + 6 * ((m 36 1).toNatClampNeg)))) (39 + 6 * ((m 36 1).toNatClampNeg)) 3 (f_Pattern_describe_u3 m o f x y (39 + 6 * ((m 36 1).toNatClampNeg)))) (38 + 6 * ((m 36 1).toNatClampNeg)) 3 0) (38 + 6 * ((m 36 1).toNatClampNeg)) 4 w) (38 + 6 * ((m 36 1).toNatClampNeg)) 5 0) (39 + 6 * ((jj_up (jj_up (jj_up (jj_up (jj_up (jj_up (jj_up m (39 + 6 * ((m 36 1).toNatClampNeg)) 0 o) (39 + 6 * ((m 36 1).toNatClampNeg)) 1 (f_Pattern_describe_u1 m o f x y (39 + 6 * ((m 36 1).toNatClampNeg)))) (39 + 6 * ((m 36 1).toNatClampNeg)) 2 (f_Pattern_describe_u2 m o f x y (39 + 6 * ((m 36 1).toNatClampNeg)))) (39 + 6 * ((m 36 1).toNatClampNeg)) 3 (f_Pattern_describe_u3 m o f x y (39 + 6 * ((m 36 1).toNatClampNeg)))) (38 + 6 * ((m 36 1).toNatClampNeg)) 3 0) (38 + 6 * ((m 36 1).toNatClampNeg)) 4 w) (38 + 6 * ((m 36 1).toNatClampNeg)) 5 0) 36 1).toNatClampNeg) 2) ((jj_up (jj_up (jj_up (jj_up (jj_up (jj_up (jj_up m (39 + 6 * ((m 36 1).toNatClampNeg)) 0 o) (39 + 6 * ((m 36 1).toNatClampNeg)) 1 (f_Pattern_describe_u1 m o f x y (39 + 6 * ((m 36 1).toNatClampNeg)))) (39 + 6 * ((m 36 1).toNatClampNeg)) 2 (f_Pattern_describe_u2 m o f x y (39 + 6 * ((m 36 1).toNatClampNeg)))) (39 + 6 * ((m 36 1).toNatClampNeg)) 3 (f_Pattern_describe_u3 m o f x y (39 + 6 * ((m 36 1).toNatClampNeg)))) (38 + 6 * ((m 36 1).toNatClampNeg)) 3 0) (38 + 6 * ((m 36 1).toNatClampNeg)) 4 w) (38 + 6 * ((m 36 1).toNatClampNeg)) 5 0) (39 + 6 * ((jj_up (jj_up (jj_up (jj_up (jj_up (jj_up (jj_up m (39 + 6 * ((m 36 1).toNatClampNeg)) 0 o) (39 + 6 * ((m 36 1).toNatClampNeg)) 1 (f_Pattern_describe_u1 m o f x y (39 + 6 * ((m 36 1).toNatClampNeg)))) (39 + 6 * ((m 36 1).toNatClampNeg)) 2 (f_Pattern_describe_u2 m o f x y (39 + 6 * ((m 36 1).toNatClampNeg)))) (39 + 6 * ((m 36 1).toNatClampNeg)) 3 (f_Pattern_describe_u3 m o f x y (39 + 6 * ((m 36 1).toNatClampNeg)))) (38 + 6 * ((m 36 1).toNatClampNeg)) 3 0) (38 + 6 * ((m 36 1).toNatClampNeg)) 4 w) (38 + 6 * ((m 36 1).toNatClampNeg)) 5 0) 36 1).toNatClampNeg) 3)))) 36 1 (((jj_up (jj_up (jj_up (jj_up (jj_up (jj_up (jj_up m (39 + 6 * ((m 36 1).toNatClampNeg)) 0 o) (39 + 6 * ((m 36 1).toNatClampNeg)) 1 (f_Pattern_describe_u1 m o f x y (39 + 6 * ((m 36 1).toNatClampNeg)))) (39 + 6 * ((m 36 1).toNatClampNeg)) 2 (f_Pattern_describe_u2 m o f x y (39 + 6 * ((m 36 1).toNatClampNeg)))) (39 + 6 * ((m 36 1).toNatClampNeg)) 3 (f_Pattern_describe_u3 m o f x y (39 + 6 * ((m 36 1).toNatClampNeg)))) (38 + 6 * ((m 36 1).toNatClampNeg)) 3 0) (38 + 6 * ((m 36 1).toNatClampNeg)) 4 w) (38 + 6 * ((m 36 1).toNatClampNeg)) 5 0) 36 1) + 1)) Q
          refine ez_if_ne rfl (fun _ => ?_) (fun h => False.elim (by revert h; decide))
          show ez xs 89 46 [some (.ref 0), some (.int w), some (.int o), some (.int f), some (.int x), some (.int y)] [] (jj_up (jj_up (jj_up (jj_up (jj_up (jj_up (jj_up (jj_up (jj_up m (39 + 6 * ((m 36 1).toNatClampNeg)) 0 o) (39 + 6 * ((m 36 1).toNatClampNeg)) 1 (f_Pattern_describe_u1 m o f x y (39 + 6 * ((m 36 1).toNatClampNeg)))) (39 + 6 * ((m 36 1).toNatClampNeg)) 2 (f_Pattern_describe_u2 m o f x y (39 + 6 * ((m 36 1).toNatClampNeg)))) (39 + 6 * ((m 36 1).toNatClampNeg)) 3 (f_Pattern_describe_u3 m o f x y (39 + 6 * ((m 36 1).toNatClampNeg)))) (38 + 6 * ((m 36 1).toNatClampNeg)) 3 0) (38 + 6 * ((m 36 1).toNatClampNeg)) 4 w) (38 + 6 * ((m 36 1).toNatClampNeg)) 5 0) 36 2 (((jj_up (jj_up (jj_up (jj_up (jj_up (jj_up (jj_up m (39 + 6 * ((m 36 1).toNatClampNeg)) 0 o) (39 + 6 * ((m 36 1).toNatClampNeg)) 1 (f_Pattern_describe_u1 m o f x y (39 + 6 * ((m 36 1).toNatClampNeg)))) (39 + 6 * ((m 36 1).toNatClampNeg)) 2 (f_Pattern_describe_u2 m o f x y (39 + 6 * ((m 36 1).toNatClampNeg)))) (39 + 6 * ((m 36 1).toNatClampNeg)) 3 (f_Pattern_describe_u3 m o f x y (39 + 6 * ((m 36 1).toNatClampNeg)))) (38 + 6 * ((m 36 1).toNatClampNeg)) 3 0) (38 + 6 * ((m 36 1).toNatClampNeg)) 4 w) (38 + 6 * ((m 36 1).toNatClampNeg)) 5 0) 36 2) ||| (f_Pattern_unknownsIn (jj_up (jj_up (jj_up (jj_up (jj_up (jj_up (jj_up m (39 + 6 * ((m 36 1).toNatClampNeg)) 0 o) (39 + 6 * ((m 36 1).toNatClampNeg)) 1 (f_Pattern_describe_u1 m o f x y (39 + 6 * ((m 36 1).toNatClampNeg)))) (39 + 6 * ((m 36 1).toNatClampNeg)) 2 (f_Pattern_describe_u2 m o f x y (39 + 6 * ((m 36 1).toNatClampNeg)))) (39 + 6 * ((m 36 1).toNatClampNeg)) 3 (f_Pattern_describe_u3 m o f x y (39 + 6 * ((m 36 1).toNatClampNeg)))) (38 + 6 * ((m 36 1).toNatClampNeg)) 3 0) (38 + 6 * ((m 36 1).toNatClampNeg)) 4 w) (38 + 6 * ((m 36 1).toNatClampNeg)) 5 0) ((jj_up (jj_up (jj_up (jj_up (jj_up (jj_up (jj_up m (39 + 6 * ((m 36 1).toNatClampNeg)) 0 o) (39 + 6 * ((m 36 1).toNatClampNeg)) 1 (f_Pattern_describe_u1 m o f x y (39 + 6 * ((m 36 1).toNatClampNeg)))) (39 + 6 * ((m 36 1).toNatClampNeg)) 2 (f_Pattern_describe_u2 m o f x y (39 + 6 * ((m 36 1).toNatClampNeg)))) (39 + 6 * ((m 36 1).toNatClampNeg)) 3 (f_Pattern_describe_u3 m o f x y (39 + 6 * ((m 36 1).toNatClampNeg)))) (38 + 6 * ((m 36 1).toNatClampNeg)) 3 0) (38 + 6 * ((m 36 1).toNatClampNeg)) 4 w) (38 + 6 * ((m 36 1).toNatClampNeg)) 5 0) (39 + 6 * ((jj_up (jj_up (jj_up (jj_up (jj_up (jj_up (jj_up m (39 + 6 * ((m 36 1).toNatClampNeg)) 0 o) (39 + 6 * ((m 36 1).toNatClampNeg)) 1 (f_Pattern_describe_u1 m o f x y (39 + 6 * ((m 36 1).toNatClampNeg)))) (39 + 6 * ((m 36 1).toNatClampNeg)) 2 (f_Pattern_describe_u2 m o f x y (39 + 6 * ((m 36 1).toNatClampNeg)))) (39 + 6 * ((m 36 1).toNatClampNeg)) 3 (f_Pattern_describe_u3 m o f x y (39 + 6 * ((m 36 1).toNatClampNeg)))) (38 + 6 * ((m 36 1).toNatClampNeg)) 3 0) (38 + 6 * ((m 36 1).toNatClampNeg)) 4 w) (38 + 6 * ((m 36 1).toNatClampNeg)) 5 0) 36 1).toNatClampNeg) 0) ((jj_up (jj_up (jj_up (jj_up (jj_up (jj_up (jj_up m (39 + 6 * ((m 36 1).toNatClampNeg)) 0 o) (39 + 6 * ((m 36 1).toNatClampNeg)) 1 (f_Pattern_describe_u1 m o f x y (39 + 6 * ((m 36 1).toNatClampNeg)))) (39 + 6 * ((m 36 1).toNatClampNeg)) 2 (f_Pattern_describe_u2 m o f x y (39 + 6 * ((m 36 1).toNatClampNeg)))) (39 + 6 * ((m 36 1).toNatClampNeg)) 3 (f_Pattern_describe_u3 m o f x y (39 + 6 * ((m 36 1).toNatClampNeg)))) (38 + 6 * ((m 36 1).toNatClampNeg)) 3 0) (38 + 6 * ((m 36 1).toNatClampNeg)) 4 w) (38 + 6 * ((m 36 1).toNatClampNeg)) 5 0) (39 + 6 * ((jj_up (jj_up (jj_up (jj_up (jj_up (jj_up (jj_up m (39 + 6 * ((m 36 1).toNatClampNeg)) 0 o) (39 + 6 * ((m 36 1).toNatClampNeg)) 1 (f_Pattern_describe_u1 m o f x y (39 + 6 * ((m 36 1).toNatClampNeg)))) (39 + 6 * ((m 36 1).toNatClampNeg)) 2 (f_Pattern_describe_u2 m o f x y (39 + 6 * ((m 36 1).toNatClampNeg)))) (39 + 6 * ((m 36 1).toNatClampNeg)) 3 (f_Pattern_describe_u3 m o f x y (39 + 6 * ((m 36 1).toNatClampNeg)))) (38 + 6 * ((m 36 1).toNatClampNeg)) 3 0) (38 + 6 * ((m 36 1).toNatClampNeg)) 4 w) (38 + 6 * ((m 36 1).toNatClampNeg)) 5 0) 36 1).toNatClampNeg) 2) ((jj_up (jj_up (jj_up (jj_up (jj_up (jj_up (jj_up m (39 + 6 * ((m 36 1).toNatClampNeg)) 0 o) (39 + 6 * ((m 36 1).toNatClampNeg)) 1 (f_Pattern_describe_u1 m o f x y (39 + 6 * ((m 36 1).toNatClampNeg)))) (39 + 6 * ((m 36 1).toNatClampNeg)) 2 (f_Pattern_describe_u2 m o f x y (39 + 6 * ((m 36 1).toNatClampNeg)))) (39 + 6 * ((m 36 1).toNatClampNeg)) 3 (f_Pattern_describe_u3 m o f x y (39 + 6 * ((m 36 1).toNatClampNeg)))) (38 + 6 * ((m 36 1).toNatClampNeg)) 3 0) (38 + 6 * ((m 36 1).toNatClampNeg)) 4 w) (38 + 6 * ((m 36 1).toNatClampNeg)) 5 0) (39 + 6 * ((jj_up (jj_up (jj_up (jj_up (jj_up (jj_up (jj_up m (39 + 6 * ((m 36 1).toNatClampNeg)) 0 o) (39 + 6 * ((m 36 1).toNatClampNeg)) 1 (f_Pattern_describe_u1 m o f x y (39 + 6 * ((m 36 1).toNatClampNeg)))) (39 + 6 * ((m 36 1).toNatClampNeg)) 2 (f_Pattern_describe_u2 m o f x y (39 + 6 * ((m 36 1).toNatClampNeg)))) (39 + 6 * ((m 36 1).toNatClampNeg)) 3 (f_Pattern_describe_u3 m o f x y (39 + 6 * ((m 36 1).toNatClampNeg)))) (38 + 6 * ((m 36 1).toNatClampNeg)) 3 0) (38 + 6 * ((m 36 1).toNatClampNeg)) 4 w) (38 + 6 * ((m 36 1).toNatClampNeg)) 5 0) 36 1).toNatClampNeg) 3)))) 36 1 (((jj_up (jj_up (jj_up (jj_up (jj_up (jj_up (jj_up m (39 + 6 * ((m 36 1).toNatClampNeg)) 0 o) (39 + 6 * ((m 36 1).toNatClampNeg)) 1 (f_Pattern_describe_u1 m o f x y (39 + 6 * ((m 36 1).toNatClampNeg)))) (39 + 6 * ((m 36 1).toNatClampNeg)) 2 (f_Pattern_describe_u2 m o f x y (39 + 6 * ((m 36 1).toNatClampNeg)))) (39 + 6 * ((m 36 1).toNatClampNeg)) 3 (f_Pattern_describe_u3 m o f x y (39 + 6 * ((m 36 1).toNatClampNeg)))) (38 + 6 * ((m 36 1).toNatClampNeg)) 3 0) (38 + 6 * ((m 36 1).toNatClampNeg)) 4 w) (38 + 6 * ((m 36 1).toNatClampNeg)) 5 0) 36 1) + 1)) Q
          refine ez_blk 5 rfl ?_
          show ez xs 89 55 [some (.ref 0), some (.int w), some (.int o), some (.int f), some (.int x), some (.int y)] [.ref 36] (jj_up (jj_up (jj_up (jj_up (jj_up (jj_up (jj_up (jj_up (jj_up (jj_up m (39 + 6 * ((m 36 1).toNatClampNeg)) 0 o) (39 + 6 * ((m 36 1).toNatClampNeg)) 1 (f_Pattern_describe_u1 m o f x y (39 + 6 * ((m 36 1).toNatClampNeg)))) (39 + 6 * ((m 36 1).toNatClampNeg)) 2 (f_Pattern_describe_u2 m o f x y (39 + 6 * ((m 36 1).toNatClampNeg)))) (39 + 6 * ((m 36 1).toNatClampNeg)) 3 (f_Pattern_describe_u3 m o f x y (39 + 6 * ((m 36 1).toNatClampNeg)))) (38 + 6 * ((m 36 1).toNatClampNeg)) 3 0) (38 + 6 * ((m 36 1).toNatClampNeg)) 4 w) (38 + 6 * ((m 36 1).toNatClampNeg)) 5 0) 36 2 (((jj_up (jj_up (jj_up (jj_up (jj_up (jj_up (jj_up m (39 + 6 * ((m 36 1).toNatClampNeg)) 0 o) (39 + 6 * ((m 36 1).toNatClampNeg)) 1 (f_Pattern_describe_u1 m o f x y (39 + 6 * ((m 36 1).toNatClampNeg)))) (39 + 6 * ((m 36 1).toNatClampNeg)) 2 (f_Pattern_describe_u2 m o f x y (39 + 6 * ((m 36 1).toNatClampNeg)))) (39 + 6 * ((m 36 1).toNatClampNeg)) 3 (f_Pattern_describe_u3 m o f x y (39 + 6 * ((m 36 1).toNatClampNeg)))) (38 + 6 * ((m 36 1).toNatClampNeg)) 3 0) (38 + 6 * ((m 36 1).toNatClampNeg)) 4 w) (38 + 6 * ((m 36 1).toNatClampNeg)) 5 0) 36 2) ||| (f_Pattern_unknownsIn (jj_up (jj_up (jj_up (jj_up (jj_up (jj_up (jj_up m (39 + 6 * ((m 36 1).toNatClampNeg)) 0 o) (39 + 6 * ((m 36 1).toNatClampNeg)) 1 (f_Pattern_describe_u1 m o f x y (39 + 6 * ((m 36 1).toNatClampNeg)))) (39 + 6 * ((m 36 1).toNatClampNeg)) 2 (f_Pattern_describe_u2 m o f x y (39 + 6 * ((m 36 1).toNatClampNeg)))) (39 + 6 * ((m 36 1).toNatClampNeg)) 3 (f_Pattern_describe_u3 m o f x y (39 + 6 * ((m 36 1).toNatClampNeg)))) (38 + 6 * ((m 36 1).toNatClampNeg)) 3 0) (38 + 6 * ((m 36 1).toNatClampNeg)) 4 w) (38 + 6 * ((m 36 1).toNatClampNeg)) 5 0) ((jj_up (jj_up (jj_up (jj_up (jj_up (jj_up (jj_up m (39 + 6 * ((m 36 1).toNatClampNeg)) 0 o) (39 + 6 * ((m 36 1).toNatClampNeg)) 1 (f_Pattern_describe_u1 m o f x y (39 + 6 * ((m 36 1).toNatClampNeg)))) (39 + 6 * ((m 36 1).toNatClampNeg)) 2 (f_Pattern_describe_u2 m o f x y (39 + 6 * ((m 36 1).toNatClampNeg)))) (39 + 6 * ((m 36 1).toNatClampNeg)) 3 (f_Pattern_describe_u3 m o f x y (39 + 6 * ((m 36 1).toNatClampNeg)))) (38 + 6 * ((m 36 1).toNatClampNeg)) 3 0) (38 + 6 * ((m 36 1).toNatClampNeg)) 4 w) (38 + 6 * ((m 36 1).toNatClampNeg)) 5 0) (39 + 6 * ((jj_up (jj_up (jj_up (jj_up (jj_up (jj_up (jj_up m (39 + 6 * ((m 36 1).toNatClampNeg)) 0 o) (39 + 6 * ((m 36 1).toNatClampNeg)) 1 (f_Pattern_describe_u1 m o f x y (39 + 6 * ((m 36 1).toNatClampNeg)))) (39 + 6 * ((m 36 1).toNatClampNeg)) 2 (f_Pattern_describe_u2 m o f x y (39 + 6 * ((m 36 1).toNatClampNeg)))) (39 + 6 * ((m 36 1).toNatClampNeg)) 3 (f_Pattern_describe_u3 m o f x y (39 + 6 * ((m 36 1).toNatClampNeg)))) (38 + 6 * ((m 36 1).toNatClampNeg)) 3 0) (38 + 6 * ((m 36 1).toNatClampNeg)) 4 w) (38 + 6 * ((m 36 1).toNatClampNeg)) 5 0) 36 1).toNatClampNeg) 0) ((jj_up (jj_up (jj_up (jj_up (jj_up (jj_up (jj_up m (39 + 6 * ((m 36 1).toNatClampNeg)) 0 o) (39 + 6 * ((m 36 1).toNatClampNeg)) 1 (f_Pattern_describe_u1 m o f x y (39 + 6 * ((m 36 1).toNatClampNeg)))) (39 + 6 * ((m 36 1).toNatClampNeg)) 2 (f_Pattern_describe_u2 m o f x y (39 + 6 * ((m 36 1).toNatClampNeg)))) (39 + 6 * ((m 36 1).toNatClampNeg)) 3 (f_Pattern_describe_u3 m o f x y (39 + 6 * ((m 36 1).toNatClampNeg)))) (38 + 6 * ((m 36 1).toNatClampNeg)) 3 0) (38 + 6 * ((m 36 1).toNatClampNeg)) 4 w) (38 + 6 * ((m 36 1).toNatClampNeg)) 5 0) (39 + 6 * ((jj_up (jj_up (jj_up (jj_up (jj_up (jj_up (jj_up m (39 + 6 * ((m 36 1).toNatClampNeg)) 0 o) (39 + 6 * ((m 36 1).toNatClampNeg)) 1 (f_Pattern_describe_u1 m o f x y (39 + 6 * ((m 36 1).toNatClampNeg)))) (39 + 6 * ((m 36 1).toNatClampNeg)) 2 (f_Pattern_describe_u2 m o f x y (39 + 6 * ((m 36 1).toNatClampNeg)))) (39 + 6 * ((m 36 1).toNatClampNeg)) 3 (f_Pattern_describe_u3 m o f x y (39 + 6 * ((m 36 1).toNatClampNeg)))) (38 + 6 * ((m 36 1).toNatClampNeg)) 3 0) (38 + 6 * ((m 36 1).toNatClampNeg)) 4 w) (38 + 6 * ((m 36 1).toNatClampNeg)) 5 0) 36 1).toNatClampNeg) 2) ((jj_up (jj_up (jj_up (jj_up (jj_up (jj_up (jj_up m (39 + 6 * ((m 36 1).toNatClampNeg)) 0 o) (39 + 6 * ((m 36 1).toNatClampNeg)) 1 (f_Pattern_describe_u1 m o f x y (39 + 6 * ((m 36 1).toNatClampNeg)))) (39 + 6 * ((m 36 1).toNatClampNeg)) 2 (f_Pattern_describe_u2 m o f x y (39 + 6 * ((m 36 1).toNatClampNeg)))) (39 + 6 * ((m 36 1).toNatClampNeg)) 3 (f_Pattern_describe_u3 m o f x y (39 + 6 * ((m 36 1).toNatClampNeg)))) (38 + 6 * ((m 36 1).toNatClampNeg)) 3 0) (38 + 6 * ((m 36 1).toNatClampNeg)) 4 w) (38 + 6 * ((m 36 1).toNatClampNeg)) 5 0) (39 + 6 * ((jj_up (jj_up (jj_up (jj_up (jj_up (jj_up (jj_up m (39 + 6 * ((m 36 1).toNatClampNeg)) 0 o) (39 + 6 * ((m 36 1).toNatClampNeg)) 1 (f_Pattern_describe_u1 m o f x y (39 + 6 * ((m 36 1).toNatClampNeg)))) (39 + 6 * ((m 36 1).toNatClampNeg)) 2 (f_Pattern_describe_u2 m o f x y (39 + 6 * ((m 36 1).toNatClampNeg)))) (39 + 6 * ((m 36 1).toNatClampNeg)) 3 (f_Pattern_describe_u3 m o f x y (39 + 6 * ((m 36 1).toNatClampNeg)))) (38 + 6 * ((m 36 1).toNatClampNeg)) 3 0) (38 + 6 * ((m 36 1).toNatClampNeg)) 4 w) (38 + 6 * ((m 36 1).toNatClampNeg)) 5 0) 36 1).toNatClampNeg) 3)))) 36 1 (((jj_up (jj_up (jj_up (jj_up (jj_up (jj_up (jj_up m (39 + 6 * ((m 36 1).toNatClampNeg)) 0 o) (39 + 6 * ((m 36 1).toNatClampNeg)) 1 (f_Pattern_describe_u1 m o f x y (39 + 6 * ((m 36 1).toNatClampNeg)))) (39 + 6 * ((m 36 1).toNatClampNeg)) 2 (f_Pattern_describe_u2 m o f x y (39 + 6 * ((m 36 1).toNatClampNeg)))) (39 + 6 * ((m 36 1).toNatClampNeg)) 3 (f_Pattern_describe_u3 m o f x y (39 + 6 * ((m 36 1).toNatClampNeg)))) (38 + 6 * ((m 36 1).toNatClampNeg)) 3 0) (38 + 6 * ((m 36 1).toNatClampNeg)) 4 w) (38 + 6 * ((m 36 1).toNatClampNeg)) 5 0) 36 1) + 1)) 0 8 0) Q
          refine ez_call (as := [.ref 36]) (rest := []) rfl (by decide) rfl ?_
          refine c_Script_size ?_
          show ez xs 89 58 [some (.ref 0), some (.int w), some (.int o), some (.int f), some (.int x), some (.int y)] [.int ((jj_up (jj_up (jj_up (jj_up (jj_up (jj_up (jj_up (jj_up (jj_up (jj_up m (39 + 6 * ((m 36 1).toNatClampNeg)) 0 o) (39 + 6 * ((m 36 1).toNatClampNeg)) 1 (f_Pattern_describe_u1 m o f x y (39 + 6 * ((m 36 1).toNatClampNeg)))) (39 + 6 * ((m 36 1).toNatClampNeg)) 2 (f_Pattern_describe_u2 m o f x y (39 + 6 * ((m 36 1).toNatClampNeg)))) (39 + 6 * ((m 36 1).toNatClampNeg)) 3 (f_Pattern_describe_u3 m o f x y (39 + 6 * ((m 36 1).toNatClampNeg)))) (38 + 6 * ((m 36 1).toNatClampNeg)) 3 0) (38 + 6 * ((m 36 1).toNatClampNeg)) 4 w) (38 + 6 * ((m 36 1).toNatClampNeg)) 5 0) 36 2 (((jj_up (jj_up (jj_up (jj_up (jj_up (jj_up (jj_up m (39 + 6 * ((m 36 1).toNatClampNeg)) 0 o) (39 + 6 * ((m 36 1).toNatClampNeg)) 1 (f_Pattern_describe_u1 m o f x y (39 + 6 * ((m 36 1).toNatClampNeg)))) (39 + 6 * ((m 36 1).toNatClampNeg)) 2 (f_Pattern_describe_u2 m o f x y (39 + 6 * ((m 36 1).toNatClampNeg)))) (39 + 6 * ((m 36 1).toNatClampNeg)) 3 (f_Pattern_describe_u3 m o f x y (39 + 6 * ((m 36 1).toNatClampNeg)))) (38 + 6 * ((m 36 1).toNatClampNeg)) 3 0) (38 + 6 * ((m 36 1).toNatClampNeg)) 4 w) (38 + 6 * ((m 36 1).toNatClampNeg)) 5 0) 36 2) ||| (f_Pattern_unknownsIn (jj_up (jj_up (jj_up (jj_up (jj_up (jj_up (jj_up m (39 + 6 * ((m 36 1).toNatClampNeg)) 0 o) (39 + 6 * ((m 36 1).toNatClampNeg)) 1 (f_Pattern_describe_u1 m o f x y (39 + 6 * ((m 36 1).toNatClampNeg)))) (39 + 6 * ((m 36 1).toNatClampNeg)) 2 (f_Pattern_describe_u2 m o f x y (39 + 6 * ((m 36 1).toNatClampNeg)))) (39 + 6 * ((m 36 1).toNatClampNeg)) 3 (f_Pattern_describe_u3 m o f x y (39 + 6 * ((m 36 1).toNatClampNeg)))) (38 + 6 * ((m 36 1).toNatClampNeg)) 3 0) (38 + 6 * ((m 36 1).toNatClampNeg)) 4 w) (38 + 6 * ((m 36 1).toNatClampNeg)) 5 0) ((jj_up (jj_up (jj_up (jj_up (jj_up (jj_up (jj_up m (39 + 6 * ((m 36 1).toNatClampNeg)) 0 o) (39 + 6 * ((m 36 1).toNatClampNeg)) 1 (f_Pattern_describe_u1 m o f x y (39 + 6 * ((m 36 1).toNatClampNeg)))) (39 + 6 * ((m 36 1).toNatClampNeg)) 2 (f_Pattern_describe_u2 m o f x y (39 + 6 * ((m 36 1).toNatClampNeg)))) (39 + 6 * ((m 36 1).toNatClampNeg)) 3 (f_Pattern_describe_u3 m o f x y (39 + 6 * ((m 36 1).toNatClampNeg)))) (38 + 6 * ((m 36 1).toNatClampNeg)) 3 0) (38 + 6 * ((m 36 1).toNatClampNeg)) 4 w) (38 + 6 * ((m 36 1).toNatClampNeg)) 5 0) (39 + 6 * ((jj_up (jj_up (jj_up (jj_up (jj_up (jj_up (jj_up m (39 + 6 * ((m 36 1).toNatClampNeg)) 0 o) (39 + 6 * ((m 36 1).toNatClampNeg)) 1 (f_Pattern_describe_u1 m o f x y (39 + 6 * ((m 36 1).toNatClampNeg)))) (39 + 6 * ((m 36 1).toNatClampNeg)) 2 (f_Pattern_describe_u2 m o f x y (39 + 6 * ((m 36 1).toNatClampNeg)))) (39 + 6 * ((m 36 1).toNatClampNeg)) 3 (f_Pattern_describe_u3 m o f x y (39 + 6 * ((m 36 1).toNatClampNeg)))) (38 + 6 * ((m 36 1).toNatClampNeg)) 3 0) (38 + 6 * ((m 36 1).toNatClampNeg)) 4 w) (38 + 6 * ((m 36 1).toNatClampNeg)) 5 0) 36 1).toNatClampNeg) 0) ((jj_up (jj_up (jj_up (jj_up (jj_up (jj_up (jj_up m (39 + 6 * ((m 36 1).toNatClampNeg)) 0 o) (39 + 6 * ((m 36 1).toNatClampNeg)) 1 (f_Pattern_describe_u1 m o f x y (39 + 6 * ((m 36 1).toNatClampNeg)))) (39 + 6 * ((m 36 1).toNatClampNeg)) 2 (f_Pattern_describe_u2 m o f x y (39 + 6 * ((m 36 1).toNatClampNeg)))) (39 + 6 * ((m 36 1).toNatClampNeg)) 3 (f_Pattern_describe_u3 m o f x y (39 + 6 * ((m 36 1).toNatClampNeg)))) (38 + 6 * ((m 36 1).toNatClampNeg)) 3 0) (38 + 6 * ((m 36 1).toNatClampNeg)) 4 w) (38 + 6 * ((m 36 1).toNatClampNeg)) 5 0) (39 + 6 * ((jj_up (jj_up (jj_up (jj_up (jj_up (jj_up (jj_up m (39 + 6 * ((m 36 1).toNatClampNeg)) 0 o) (39 + 6 * ((m 36 1).toNatClampNeg)) 1 (f_Pattern_describe_u1 m o f x y (39 + 6 * ((m 36 1).toNatClampNeg)))) (39 + 6 * ((m 36 1).toNatClampNeg)) 2 (f_Pattern_describe_u2 m o f x y (39 + 6 * ((m 36 1).toNatClampNeg)))) (39 + 6 * ((m 36 1).toNatClampNeg)) 3 (f_Pattern_describe_u3 m o f x y (39 + 6 * ((m 36 1).toNatClampNeg)))) (38 + 6 * ((m 36 1).toNatClampNeg)) 3 0) (38 + 6 * ((m 36 1).toNatClampNeg)) 4 w) (38 + 6 * ((m 36 1).toNatClampNeg)) 5 0) 36 1).toNatClampNeg) 2) ((jj_up (jj_up (jj_up (jj_up (jj_up (jj_up (jj_up m (39 + 6 * ((m 36 1).toNatClampNeg)) 0 o) (39 + 6 * ((m 36 1).toNatClampNeg)) 1 (f_Pattern_describe_u1 m o f x y (39 + 6 * ((m 36 1).toNatClampNeg)))) (39 + 6 * ((m 36 1).toNatClampNeg)) 2 (f_Pattern_describe_u2 m o f x y (39 + 6 * ((m 36 1).toNatClampNeg)))) (39 + 6 * ((m 36 1).toNatClampNeg)) 3 (f_Pattern_describe_u3 m o f x y (39 + 6 * ((m 36 1).toNatClampNeg)))) (38 + 6 * ((m 36 1).toNatClampNeg)) 3 0) (38 + 6 * ((m 36 1).toNatClampNeg)) 4 w) (38 + 6 * ((m 36 1).toNatClampNeg)) 5 0) (39 + 6 * ((jj_up (jj_up (jj_up (jj_up (jj_up (jj_up (jj_up m (39 + 6 * ((m 36 1).toNatClampNeg)) 0 o) (39 + 6 * ((m 36 1).toNatClampNeg)) 1 (f_Pattern_describe_u1 m o f x y (39 + 6 * ((m 36 1).toNatClampNeg)))) (39 + 6 * ((m 36 1).toNatClampNeg)) 2 (f_Pattern_describe_u2 m o f x y (39 + 6 * ((m 36 1).toNatClampNeg)))) (39 + 6 * ((m 36 1).toNatClampNeg)) 3 (f_Pattern_describe_u3 m o f x y (39 + 6 * ((m 36 1).toNatClampNeg)))) (38 + 6 * ((m 36 1).toNatClampNeg)) 3 0) (38 + 6 * ((m 36 1).toNatClampNeg)) 4 w) (38 + 6 * ((m 36 1).toNatClampNeg)) 5 0) 36 1).toNatClampNeg) 3)))) 36 1 (((jj_up (jj_up (jj_up (jj_up (jj_up (jj_up (jj_up m (39 + 6 * ((m 36 1).toNatClampNeg)) 0 o) (39 + 6 * ((m 36 1).toNatClampNeg)) 1 (f_Pattern_describe_u1 m o f x y (39 + 6 * ((m 36 1).toNatClampNeg)))) (39 + 6 * ((m 36 1).toNatClampNeg)) 2 (f_Pattern_describe_u2 m o f x y (39 + 6 * ((m 36 1).toNatClampNeg)))) (39 + 6 * ((m 36 1).toNatClampNeg)) 3 (f_Pattern_describe_u3 m o f x y (39 + 6 * ((m 36 1).toNatClampNeg)))) (38 + 6 * ((m 36 1).toNatClampNeg)) 3 0) (38 + 6 * ((m 36 1).toNatClampNeg)) 4 w) (38 + 6 * ((m 36 1).toNatClampNeg)) 5 0) 36 1) + 1)) 0 8 0) 36 1)] (jj_up (jj_up (jj_up (jj_up (jj_up (jj_up (jj_up (jj_up (jj_up (jj_up m (39 + 6 * ((m 36 1).toNatClampNeg)) 0 o) (39 + 6 * ((m 36 1).toNatClampNeg)) 1 (f_Pattern_describe_u1 m o f x y (39 + 6 * ((m 36 1).toNatClampNeg)))) (39 + 6 * ((m 36 1).toNatClampNeg)) 2 (f_Pattern_describe_u2 m o f x y (39 + 6 * ((m 36 1).toNatClampNeg)))) (39 + 6 * ((m 36 1).toNatClampNeg)) 3 (f_Pattern_describe_u3 m o f x y (39 + 6 * ((m 36 1).toNatClampNeg)))) (38 + 6 * ((m 36 1).toNatClampNeg)) 3 0) (38 + 6 * ((m 36 1).toNatClampNeg)) 4 w) (38 + 6 * ((m 36 1).toNatClampNeg)) 5 0) 36 2 (((jj_up (jj_up (jj_up (jj_up (jj_up (jj_up (jj_up m (39 + 6 * ((m 36 1).toNatClampNeg)) 0 o) (39 + 6 * ((m 36 1).toNatClampNeg)) 1 (f_Pattern_describe_u1 m o f x y (39 + 6 * ((m 36 1).toNatClampNeg)))) (39 + 6 * ((m 36 1).toNatClampNeg)) 2 (f_Pattern_describe_u2 m o f x y (39 + 6 * ((m 36 1).toNatClampNeg)))) (39 + 6 * ((m 36 1).toNatClampNeg)) 3 (f_Pattern_describe_u3 m o f x y (39 + 6 * ((m 36 1).toNatClampNeg)))) (38 + 6 * ((m 36 1).toNatClampNeg)) 3 0) (38 + 6 * ((m 36 1).toNatClampNeg)) 4 w) (38 + 6 * ((m 36 1).toNatClampNeg)) 5 0) 36 2) ||| (f_Pattern_unknownsIn (jj_up (jj_up (jj_up (jj_up (jj_up (jj_up (jj_up m (39 + 6 * ((m 36 1).toNatClampNeg)) 0 o) (39 + 6 * ((m 36 1).toNatClampNeg)) 1 (f_Pattern_describe_u1 m o f x y (39 + 6 * ((m 36 1).toNatClampNeg)))) (39 + 6 * ((m 36 1).toNatClampNeg)) 2 (f_Pattern_describe_u2 m o f x y (39 + 6 * ((m 36 1).toNatClampNeg)))) (39 + 6 * ((m 36 1).toNatClampNeg)) 3 (f_Pattern_describe_u3 m o f x y (39 + 6 * ((m 36 1).toNatClampNeg)))) (38 + 6 * ((m 36 1).toNatClampNeg)) 3 0) (38 + 6 * ((m 36 1).toNatClampNeg)) 4 w) (38 + 6 * ((m 36 1).toNatClampNeg)) 5 0) ((jj_up (jj_up (jj_up (jj_up (jj_up (jj_up (jj_up m (39 + 6 * ((m 36 1).toNatClampNeg)) 0 o) (39 + 6 * ((m 36 1).toNatClampNeg)) 1 (f_Pattern_describe_u1 m o f x y (39 + 6 * ((m 36 1).toNatClampNeg)))) (39 + 6 * ((m 36 1).toNatClampNeg)) 2 (f_Pattern_describe_u2 m o f x y (39 + 6 * ((m 36 1).toNatClampNeg)))) (39 + 6 * ((m 36 1).toNatClampNeg)) 3 (f_Pattern_describe_u3 m o f x y (39 + 6 * ((m 36 1).toNatClampNeg)))) (38 + 6 * ((m 36 1).toNatClampNeg)) 3 0) (38 + 6 * ((m 36 1).toNatClampNeg)) 4 w) (38 + 6 * ((m 36 1).toNatClampNeg)) 5 0) (39 + 6 * ((jj_up (jj_up (jj_up (jj_up (jj_up (jj_up (jj_up m (39 + 6 * ((m 36 1).toNatClampNeg)) 0 o) (39 + 6 * ((m 36 1).toNatClampNeg)) 1 (f_Pattern_describe_u1 m o f x y (39 + 6 * ((m 36 1).toNatClampNeg)))) (39 + 6 * ((m 36 1).toNatClampNeg)) 2 (f_Pattern_describe_u2 m o f x y (39 + 6 * ((m 36 1).toNatClampNeg)))) (39 + 6 * ((m 36 1).toNatClampNeg)) 3 (f_Pattern_describe_u3 m o f x y (39 + 6 * ((m 36 1).toNatClampNeg)))) (38 + 6 * ((m 36 1).toNatClampNeg)) 3 0) (38 + 6 * ((m 36 1).toNatClampNeg)) 4 w) (38 + 6 * ((m 36 1).toNatClampNeg)) 5 0) 36 1).toNatClampNeg) 0) ((jj_up (jj_up (jj_up (jj_up (jj_up (jj_up (jj_up m (39 + 6 * ((m 36 1).toNatClampNeg)) 0 o) (39 + 6 * ((m 36 1).toNatClampNeg)) 1 (f_Pattern_describe_u1 m o f x y (39 + 6 * ((m 36 1).toNatClampNeg)))) (39 + 6 * ((m 36 1).toNatClampNeg)) 2 (f_Pattern_describe_u2 m o f x y (39 + 6 * ((m 36 1).toNatClampNeg)))) (39 + 6 * ((m 36 1).toNatClampNeg)) 3 (f_Pattern_describe_u3 m o f x y (39 + 6 * ((m 36 1).toNatClampNeg)))) (38 + 6 * ((m 36 1).toNatClampNeg)) 3 0) (38 + 6 * ((m 36 1).toNatClampNeg)) 4 w) (38 + 6 * ((m 36 1).toNatClampNeg)) 5 0) (39 + 6 * ((jj_up (jj_up (jj_up (jj_up (jj_up (jj_up (jj_up m (39 + 6 * ((m 36 1).toNatClampNeg)) 0 o) (39 + 6 * ((m 36 1).toNatClampNeg)) 1 (f_Pattern_describe_u1 m o f x y (39 + 6 * ((m 36 1).toNatClampNeg)))) (39 + 6 * ((m 36 1).toNatClampNeg)) 2 (f_Pattern_describe_u2 m o f x y (39 + 6 * ((m 36 1).toNatClampNeg)))) (39 + 6 * ((m 36 1).toNatClampNeg)) 3 (f_Pattern_describe_u3 m o f x y (39 + 6 * ((m 36 1).toNatClampNeg)))) (38 + 6 * ((m 36 1).toNatClampNeg)) 3 0) (38 + 6 * ((m 36 1).toNatClampNeg)) 4 w) (38 + 6 * ((m 36 1).toNatClampNeg)) 5 0) 36 1).toNatClampNeg) 2) ((jj_up (jj_up (jj_up (jj_up (jj_up (jj_up (jj_up m (39 + 6 * ((m 36 1).toNatClampNeg)) 0 o) (39 + 6 * ((m 36 1).toNatClampNeg)) 1 (f_Pattern_describe_u1 m o f x y (39 + 6 * ((m 36 1).toNatClampNeg)))) (39 + 6 * ((m 36 1).toNatClampNeg)) 2 (f_Pattern_describe_u2 m o f x y (39 + 6 * ((m 36 1).toNatClampNeg)))) (39 + 6 * ((m 36 1).toNatClampNeg)) 3 (f_Pattern_describe_u3 m o f x y (39 + 6 * ((m 36 1).toNatClampNeg)))) (38 + 6 * ((m 36 1).toNatClampNeg)) 3 0) (38 + 6 * ((m 36 1).toNatClampNeg)) 4 w) (38 + 6 * ((m 36 1).toNatClampNeg)) 5 0) (39 + 6 * ((jj_up (jj_up (jj_up (jj_up (jj_up (jj_up (jj_up m (39 + 6 * ((m 36 1).toNatClampNeg)) 0 o) (39 + 6 * ((m 36 1).toNatClampNeg)) 1 (f_Pattern_describe_u1 m o f x y (39 + 6 * ((m 36 1).toNatClampNeg)))) (39 + 6 * ((m 36 1).toNatClampNeg)) 2 (f_Pattern_describe_u2 m o f x y (39 + 6 * ((m 36 1).toNatClampNeg)))) (39 + 6 * ((m 36 1).toNatClampNeg)) 3 (f_Pattern_describe_u3 m o f x y (39 + 6 * ((m 36 1).toNatClampNeg)))) (38 + 6 * ((m 36 1).toNatClampNeg)) 3 0) (38 + 6 * ((m 36 1).toNatClampNeg)) 4 w) (38 + 6 * ((m 36 1).toNatClampNeg)) 5 0) 36 1).toNatClampNeg) 3)))) 36 1 (((jj_up (jj_up (jj_up (jj_up (jj_up (jj_up (jj_up m (39 + 6 * ((m 36 1).toNatClampNeg)) 0 o) (39 + 6 * ((m 36 1).toNatClampNeg)) 1 (f_Pattern_describe_u1 m o f x y (39 + 6 * ((m 36 1).toNatClampNeg)))) (39 + 6 * ((m 36 1).toNatClampNeg)) 2 (f_Pattern_describe_u2 m o f x y (39 + 6 * ((m 36 1).toNatClampNeg)))) (39 + 6 * ((m 36 1).toNatClampNeg)) 3 (f_Pattern_describe_u3 m o f x y (39 + 6 * ((m 36 1).toNatClampNeg)))) (38 + 6 * ((m 36 1).toNatClampNeg)) 3 0) (38 + 6 * ((m 36 1).toNatClampNeg)) 4 w) (38 + 6 * ((m 36 1).toNatClampNeg)) 5 0) 36 1) + 1)) 0 8 0) Q
          exact ez_ret rfl (by decide) rfl (g3 h1 h2 h8 h12)
        · show ez xs 89 40 [some (.ref 0), some (.int w), some (.int o), some (.int f), some (.int x), some (.int y)] [.int 0] m Q
          refine ez_if_ne rfl (fun h => False.elim (by revert h; decide)) (fun _ => ?_)
          show ez xs 89 43 [some (.ref 0), some (.int w), some (.int o), some (.int f), some (.int x), some (.int y)] [] m Q
          refine ez_blk 1 rfl ?_
          show ez xs 89 45 [some (.ref 0), some (.int w), some (.int o), some (.int f), some (.int x), some (.int y)] [.int (-3)] m Q
          exact ez_ret rfl (by decide) rfl (g4 h1 h2 h8 h13)
      · show ez xs 89 23 [some (.ref 0), some (.int w), some (.int o), some (.int f), some (.int x), some (.int y)] [] m Q
        refine ez_blk 1 rfl ?_
        show ez xs 89 25 [some (.ref 0), some (.int w), some (.int o), some (.int f), some (.int x), some (.int y)] [.int (-2)] m Q
        exact ez_ret rfl (by decide) rfl (g5 h1 h2 h8)
  · show ez xs 89 12 [some (.ref 0), some (.int w), some (.int o), some (.int f), some (.int x), some (.int y)] [] m Q
    refine ez_blk 1 rfl ?_
    show ez xs 89 13 [some (.ref 0), some (.int w), some (.int o), some (.int f), some (.int x), some (.int y)] [.int (-1)] m Q
    exact ez_ret rfl (by decide) rfl (g6 h1)
set_option maxRecDepth 100000 in
set_option maxHeartbeats 2000000 in
theorem c_PathPatcher_dots {xs : jx_Xs} {m : zM} {Q : Option Value → zM → Prop} {o f x y : Int32}
    (b1 : (f_Script_isEmpty m = 0) → (¬ m 36 1 ≤ 0) → (f_Script_holds m ((m 36 1) - 1) = 0) → vp_in 0 6)
    (b2 : (f_Script_isEmpty m = 0) → (¬ m 36 1 ≤ 0) → (¬ f_Script_holds m ((m 36 1) - 1) = 0) → vp_in ((m 36 1) - 1) 6)
    (b3 : (f_Script_isEmpty m = 0) → (f_Script_endsInDots m = 0) → (o = (-1)) → (f_Script_holds m ((m 36 1) - 1) = 0) → vp_in 0 6)
    (b4 : (f_Script_isEmpty m = 0) → (f_Script_endsInDots m = 0) → (o = (-1)) → (¬ f_Script_holds m ((m 36 1) - 1) = 0) → vp_in ((m 36 1) - 1) 6)
    (b5 : (f_Script_isEmpty m = 0) → (f_Script_endsInDots m = 0) → (¬ o = (-1)) → (¬ f_Pattern_isSound m o f x y = 0) → (¬ f_Script_knowsUnknowns m o x y = 0) → (f_Script_holds m ((m 36 1) - 1) = 0) → vp_in 0 6)
    (b6 : (f_Script_isEmpty m = 0) → (f_Script_endsInDots m = 0) → (¬ o = (-1)) → (¬ f_Pattern_isSound m o f x y = 0) → (¬ f_Script_knowsUnknowns m o x y = 0) → (¬ f_Script_holds m ((m 36 1) - 1) = 0) → vp_in ((m 36 1) - 1) 6)
    (g1 : (¬ f_Script_isEmpty m = 0) → Q (some (.int 0)) m)
    (g2 : (f_Script_isEmpty m = 0) → (f_Script_endsInDots m = 0) → (o = (-1)) → (f_Script_holds m ((m 36 1) - 1) = 0) → Q (some (.int 1)) (jj_up (jj_up (jj_up (jj_up (jj_up (jj_up m (40 + 6 * ((0 : Int32).toNatClampNeg)) 0 o) (40 + 6 * ((0 : Int32).toNatClampNeg)) 1 (f_Pattern_describe_u1 m o f x y (40 + 6 * ((0 : Int32).toNatClampNeg)))) (40 + 6 * ((0 : Int32).toNatClampNeg)) 2 (f_Pattern_describe_u2 m o f x y (40 + 6 * ((0 : Int32).toNatClampNeg)))) (40 + 6 * ((0 : Int32).toNatClampNeg)) 3 (f_Pattern_describe_u3 m o f x y (40 + 6 * ((0 : Int32).toNatClampNeg)))) (38 + 6 * ((0 : Int32).toNatClampNeg)) 5 1) 0 8 0))
    (g3 : (f_Script_isEmpty m = 0) → (f_Script_endsInDots m = 0) → (o = (-1)) → (¬ f_Script_holds m ((m 36 1) - 1) = 0) → Q (some (.int 1)) (jj_up (jj_up (jj_up (jj_up (jj_up (jj_up m (40 + 6 * (((m 36 1) - 1).toNatClampNeg)) 0 o) (40 + 6 * (((m 36 1) - 1).toNatClampNeg)) 1 (f_Pattern_describe_u1 m o f x y (40 + 6 * (((m 36 1) - 1).toNatClampNeg)))) (40 + 6 * (((m 36 1) - 1).toNatClampNeg)) 2 (f_Pattern_describe_u2 m o f x y (40 + 6 * (((m 36 1) - 1).toNatClampNeg)))) (40 + 6 * (((m 36 1) - 1).toNatClampNeg)) 3 (f_Pattern_describe_u3 m o f x y (40 + 6 * (((m 36 1) - 1).toNatClampNeg)))) (38 + 6 * (((m 36 1) - 1).toNatClampNeg)) 5 1) 0 8 0))
    (g4 : (f_Script_isEmpty m = 0) → (f_Script_endsInDots m = 0) → (¬ o = (-1)) → (f_Pattern_isSound m o f x y = 0) → Q (some (.int 0)) m)
    (g5 : (f_Script_isEmpty m = 0) → (f_Script_endsInDots m = 0) → (¬ o = (-1)) → (¬ f_Pattern_isSound m o f x y = 0) → (¬ f_Script_knowsUnknowns m o x y = 0) → (f_Script_holds m ((m 36 1) - 1) = 0) → Q (some (.int 1)) (jj_up (jj_up (jj_up (jj_up (jj_up (jj_up m (40 + 6 * ((0 : Int32).toNatClampNeg)) 0 o) (40 + 6 * ((0 : Int32).toNatClampNeg)) 1 (f_Pattern_describe_u1 m o f x y (40 + 6 * ((0 : Int32).toNatClampNeg)))) (40 + 6 * ((0 : Int32).toNatClampNeg)) 2 (f_Pattern_describe_u2 m o f x y (40 + 6 * ((0 : Int32).toNatClampNeg)))) (40 + 6 * ((0 : Int32).toNatClampNeg)) 3 (f_Pattern_describe_u3 m o f x y (40 + 6 * ((0 : Int32).toNatClampNeg)))) (38 + 6 * ((0 : Int32).toNatClampNeg)) 5 1) 0 8 0))
    (g6 : (f_Script_isEmpty m = 0) → (f_Script_endsInDots m = 0) → (¬ o = (-1)) → (¬ f_Pattern_isSound m o f x y = 0) → (¬ f_Script_knowsUnknowns m o x y = 0) → (¬ f_Script_holds m ((m 36 1) - 1) = 0) → Q (some (.int 1)) (jj_up (jj_up (jj_up (jj_up (jj_up (jj_up m (40 + 6 * (((m 36 1) - 1).toNatClampNeg)) 0 o) (40 + 6 * (((m 36 1) - 1).toNatClampNeg)) 1 (f_Pattern_describe_u1 m o f x y (40 + 6 * (((m 36 1) - 1).toNatClampNeg)))) (40 + 6 * (((m 36 1) - 1).toNatClampNeg)) 2 (f_Pattern_describe_u2 m o f x y (40 + 6 * (((m 36 1) - 1).toNatClampNeg)))) (40 + 6 * (((m 36 1) - 1).toNatClampNeg)) 3 (f_Pattern_describe_u3 m o f x y (40 + 6 * (((m 36 1) - 1).toNatClampNeg)))) (38 + 6 * (((m 36 1) - 1).toNatClampNeg)) 5 1) 0 8 0))
    (g7 : (f_Script_isEmpty m = 0) → (f_Script_endsInDots m = 0) → (¬ o = (-1)) → (¬ f_Pattern_isSound m o f x y = 0) → (f_Script_knowsUnknowns m o x y = 0) → Q (some (.int 0)) m)
    (g8 : (f_Script_isEmpty m = 0) → (¬ f_Script_endsInDots m = 0) → Q (some (.int 0)) m) : ez xs 99 0 (jx_ent 99 [.ref 0, .int o, .int f, .int x, .int y]) [] m Q := by
  refine ez_blk 2 rfl ?_
  show ez xs 99 4 [some (.ref 0), some (.int o), some (.int f), some (.int x), some (.int y)] [.ref 36] m Q
  refine ez_call (as := [.ref 36]) (rest := []) rfl (by decide) rfl ?_
  refine d_Script_isEmpty ?_
  show ez xs 99 7 [some (.ref 0), some (.int o), some (.int f), some (.int x), some (.int y)] [.int (f_Script_isEmpty m)] m Q
  refine ez_if_ne rfl (fun h1 => ?_) (fun h1 => ?_)
  · show ez xs 99 20 [some (.ref 0), some (.int o), some (.int f), some (.int x), some (.int y)] [] m Q
    refine ez_blk 1 rfl ?_
    show ez xs 99 21 [some (.ref 0), some (.int o), some (.int f), some (.int x), some (.int y)] [.int 0] m Q
    exact ez_ret rfl (by decide) rfl (g1 h1)
  · show ez xs 99 10 [some (.ref 0), some (.int o), some (.int f), some (.int x), some (.int y)] [] m Q
    refine ez_blk 2 rfl ?_
    show ez xs 99 14 [some (.ref 0), some (.int o), some (.int f), some (.int x), some (.int y)] [.ref 36] m Q
    refine ez_call (as := [.ref 36]) (rest := []) rfl (by decide) rfl ?_
    refine d_Script_endsInDots (fun h2 h3 => b1 h1 h2 h3) (fun h4 h5 => b2 h1 h4 h5) ?_
    show ez xs 99 17 [some (.ref 0), some (.int o), some (.int f), some (.int x), some (.int y)] [.int (f_Script_endsInDots m)] m Q
    refine ez_if_eq rfl (fun h6 => ?_) (fun h6 => ?_)
    · show ez xs 99 22 [some (.ref 0), some (.int o), some (.int f), some (.int x), some (.int y)] [] m Q
      refine ez_blk 2 rfl ?_
      show ez xs 99 24 [some (.ref 0), some (.int o), some (.int f), some (.int x), some (.int y)] [.int (-1), .int o] m Q
      refine ez_icmp_eq rfl (fun h7 => ?_) (fun h7 => ?_)
      · show ez xs 99 54 [some (.ref 0), some (.int o), some (.int f), some (.int x), some (.int y)] [] m Q
        refine ez_blk 2 rfl ?_
        show ez xs 99 58 [some (.ref 0), some (.int o), some (.int f), some (.int x), some (.int y)] [.ref 36] m Q
        refine ez_call (as := [.ref 36]) (rest := []) rfl (by decide) rfl ?_
        refine c_Script_last (fun h8 => b3 h1 h6 h7 h8) (fun h9 => b4 h1 h6 h7 h9) (fun h10 => ?_) (fun h11 => ?_)
        · show ez xs 99 61 [some (.ref 0), some (.int o), some (.int f), some (.int x), some (.int y)] [.ref (38 + 6 * (0 : Int32).toNatClampNeg)] m Q
          refine ez_blk 4 rfl ?_
          show ez xs 99 66 [some (.ref 0), some (.int o), some (.int f), some (.int x), some (.int y)] [.int y, .int x, .int f, .int o, .ref (38 + 6 * (0 : Int32).toNatClampNeg)] m Q
          refine ez_calls (i := 38 + 6 * (0 : Int32).toNatClampNeg) (as2 := [.int o, .int f, .int x, .int y]) (rest := []) rfl (by decide) rfl rfl rfl (z_iti (vp_lt (b3 h1 h6 h7 h10))) (z_its (vp_lt (b3 h1 h6 h7 h10))) rfl ?_
          refine c_Item_follow (k_e := (vp_lt (b3 h1 h6 h7 h10))) ?_
          show ez xs 99 69 [some (.ref 0), some (.int o), some (.int f), some (.int x), some (.int y)] [] (jj_up (jj_up (jj_up (jj_up (jj_up m (40 + 6 * ((0 : Int32).toNatClampNeg)) 0 o) (40 + 6 * ((0 : Int32).toNatClampNeg)) 1 (f_Pattern_describe_u1 m o f x y (40 + 6 * ((0 : Int32).toNatClampNeg)))) (40 + 6 * ((0 : Int32).toNatClampNeg)) 2 (f_Pattern_describe_u2 m o f x y (40 + 6 * ((0 : Int32).toNatClampNeg)))) (40 + 6 * ((0 : Int32).toNatClampNeg)) 3 (f_Pattern_describe_u3 m o f x y (40 + 6 * ((0 : Int32).toNatClampNeg)))) (38 + 6 * ((0 : Int32).toNatClampNeg)) 5 1) Q
          refine ez_blk 4 rfl ?_
          show ez xs 99 75 [some (.ref 0), some (.int o), some (.int f), some (.int x), some (.int y)] [.int 1] (jj_up (jj_up (jj_up (jj_up (jj_up (jj_up m (40 + 6 * ((0 : Int32).toNatClampNeg)) 0 o) (40 + 6 * ((0 : Int32).toNatClampNeg)) 1 (f_Pattern_describe_u1 m o f x y (40 + 6 * ((0 : Int32).toNatClampNeg)))) (40 + 6 * ((0 : Int32).toNatClampNeg)) 2 (f_Pattern_describe_u2 m o f x y (40 + 6 * ((0 : Int32).toNatClampNeg)))) (40 + 6 * ((0 : Int32).toNatClampNeg)) 3 (f_Pattern_describe_u3 m o f x y (40 + 6 * ((0 : Int32).toNatClampNeg)))) (38 + 6 * ((0 : Int32).toNatClampNeg)) 5 1) 0 8 0) Q
          exact ez_ret rfl (by decide) rfl (g2 h1 h6 h7 h10)
        · show ez xs 99 61 [some (.ref 0), some (.int o), some (.int f), some (.int x), some (.int y)] [.ref (38 + 6 * ((m 36 1) - 1).toNatClampNeg)] m Q
          refine ez_blk 4 rfl ?_
          show ez xs 99 66 [some (.ref 0), some (.int o), some (.int f), some (.int x), some (.int y)] [.int y, .int x, .int f, .int o, .ref (38 + 6 * ((m 36 1) - 1).toNatClampNeg)] m Q
          refine ez_calls (i := 38 + 6 * ((m 36 1) - 1).toNatClampNeg) (as2 := [.int o, .int f, .int x, .int y]) (rest := []) rfl (by decide) rfl rfl rfl (z_iti (vp_lt (b4 h1 h6 h7 h11))) (z_its (vp_lt (b4 h1 h6 h7 h11))) rfl ?_
          refine c_Item_follow (k_e := (vp_lt (b4 h1 h6 h7 h11))) ?_
          show ez xs 99 69 [some (.ref 0), some (.int o), some (.int f), some (.int x), some (.int y)] [] (jj_up (jj_up (jj_up (jj_up (jj_up m (40 + 6 * (((m 36 1) - 1).toNatClampNeg)) 0 o) (40 + 6 * (((m 36 1) - 1).toNatClampNeg)) 1 (f_Pattern_describe_u1 m o f x y (40 + 6 * (((m 36 1) - 1).toNatClampNeg)))) (40 + 6 * (((m 36 1) - 1).toNatClampNeg)) 2 (f_Pattern_describe_u2 m o f x y (40 + 6 * (((m 36 1) - 1).toNatClampNeg)))) (40 + 6 * (((m 36 1) - 1).toNatClampNeg)) 3 (f_Pattern_describe_u3 m o f x y (40 + 6 * (((m 36 1) - 1).toNatClampNeg)))) (38 + 6 * (((m 36 1) - 1).toNatClampNeg)) 5 1) Q
          refine ez_blk 4 rfl ?_
          show ez xs 99 75 [some (.ref 0), some (.int o), some (.int f), some (.int x), some (.int y)] [.int 1] (jj_up (jj_up (jj_up (jj_up (jj_up (jj_up m (40 + 6 * (((m 36 1) - 1).toNatClampNeg)) 0 o) (40 + 6 * (((m 36 1) - 1).toNatClampNeg)) 1 (f_Pattern_describe_u1 m o f x y (40 + 6 * (((m 36 1) - 1).toNatClampNeg)))) (40 + 6 * (((m 36 1) - 1).toNatClampNeg)) 2 (f_Pattern_describe_u2 m o f x y (40 + 6 * (((m 36 1) - 1).toNatClampNeg)))) (40 + 6 * (((m 36 1) - 1).toNatClampNeg)) 3 (f_Pattern_describe_u3 m o f x y (40 + 6 * (((m 36 1) - 1).toNatClampNeg)))) (38 + 6 * (((m 36 1) - 1).toNatClampNeg)) 5 1) 0 8 0) Q
          exact ez_ret rfl (by decide) rfl (g3 h1 h6 h7 h11)
      · show ez xs 99 27 [some (.ref 0), some (.int o), some (.int f), some (.int x), some (.int y)] [] m Q
        refine ez_blk 4 rfl ?_
        show ez xs 99 32 [some (.ref 0), some (.int o), some (.int f), some (.int x), some (.int y)] [.int y, .int x, .int f, .int o] m Q
        refine ez_call (as := [.int o, .int f, .int x, .int y]) (rest := []) rfl (by decide) rfl ?_
        refine d_Pattern_isSound ?_
        show ez xs 99 35 [some (.ref 0), some (.int o), some (.int f), some (.int x), some (.int y)] [.int (f_Pattern_isSound m o f x y)] m Q
        refine ez_if_eq rfl (fun h12 => ?_) (fun h12 => ?_)
        · show ez xs 99 52 [some (.ref 0), some (.int o), some (.int f), some (.int x), some (.int y)] [] m Q
          refine ez_blk 1 rfl ?_
          show ez xs 99 53 [some (.ref 0), some (.int o), some (.int f), some (.int x), some (.int y)] [.int 0] m Q
          exact ez_ret rfl (by decide) rfl (g4 h1 h6 h7 h12)
        · show ez xs 99 38 [some (.ref 0), some (.int o), some (.int f), some (.int x), some (.int y)] [] m Q
          refine ez_blk 5 rfl ?_
          show ez xs 99 46 [some (.ref 0), some (.int o), some (.int f), some (.int x), some (.int y)] [.int y, .int x, .int o, .ref 36] m Q
          refine ez_call (as := [.ref 36, .int o, .int x, .int y]) (rest := []) rfl (by decide) rfl ?_
          refine d_Script_knowsUnknowns ?_
          show ez xs 99 49 [some (.ref 0), some (.int o), some (.int f), some (.int x), some (.int y)] [.int (f_Script_knowsUnknowns m o x y)] m Q
          refine ez_if_ne rfl (fun h13 => ?_) (fun h13 => ?_)
          · show ez xs 99 54 [some (.ref 0), some (.int o), some (.int f), some (.int x), some (.int y)] [] m Q
            refine ez_blk 2 rfl ?_
            show ez xs 99 58 [some (.ref 0), some (.int o), some (.int f), some (.int x), some (.int y)] [.ref 36] m Q
            refine ez_call (as := [.ref 36]) (rest := []) rfl (by decide) rfl ?_
            refine c_Script_last (fun h14 => b5 h1 h6 h7 h12 h13 h14) (fun h15 => b6 h1 h6 h7 h12 h13 h15) (fun h16 => ?_) (fun h17 => ?_)
            · show ez xs 99 61 [some (.ref 0), some (.int o), some (.int f), some (.int x), some (.int y)] [.ref (38 + 6 * (0 : Int32).toNatClampNeg)] m Q
              refine ez_blk 4 rfl ?_
              show ez xs 99 66 [some (.ref 0), some (.int o), some (.int f), some (.int x), some (.int y)] [.int y, .int x, .int f, .int o, .ref (38 + 6 * (0 : Int32).toNatClampNeg)] m Q
              refine ez_calls (i := 38 + 6 * (0 : Int32).toNatClampNeg) (as2 := [.int o, .int f, .int x, .int y]) (rest := []) rfl (by decide) rfl rfl rfl (z_iti (vp_lt (b5 h1 h6 h7 h12 h13 h16))) (z_its (vp_lt (b5 h1 h6 h7 h12 h13 h16))) rfl ?_
              refine c_Item_follow (k_e := (vp_lt (b5 h1 h6 h7 h12 h13 h16))) ?_
              show ez xs 99 69 [some (.ref 0), some (.int o), some (.int f), some (.int x), some (.int y)] [] (jj_up (jj_up (jj_up (jj_up (jj_up m (40 + 6 * ((0 : Int32).toNatClampNeg)) 0 o) (40 + 6 * ((0 : Int32).toNatClampNeg)) 1 (f_Pattern_describe_u1 m o f x y (40 + 6 * ((0 : Int32).toNatClampNeg)))) (40 + 6 * ((0 : Int32).toNatClampNeg)) 2 (f_Pattern_describe_u2 m o f x y (40 + 6 * ((0 : Int32).toNatClampNeg)))) (40 + 6 * ((0 : Int32).toNatClampNeg)) 3 (f_Pattern_describe_u3 m o f x y (40 + 6 * ((0 : Int32).toNatClampNeg)))) (38 + 6 * ((0 : Int32).toNatClampNeg)) 5 1) Q
              refine ez_blk 4 rfl ?_
              show ez xs 99 75 [some (.ref 0), some (.int o), some (.int f), some (.int x), some (.int y)] [.int 1] (jj_up (jj_up (jj_up (jj_up (jj_up (jj_up m (40 + 6 * ((0 : Int32).toNatClampNeg)) 0 o) (40 + 6 * ((0 : Int32).toNatClampNeg)) 1 (f_Pattern_describe_u1 m o f x y (40 + 6 * ((0 : Int32).toNatClampNeg)))) (40 + 6 * ((0 : Int32).toNatClampNeg)) 2 (f_Pattern_describe_u2 m o f x y (40 + 6 * ((0 : Int32).toNatClampNeg)))) (40 + 6 * ((0 : Int32).toNatClampNeg)) 3 (f_Pattern_describe_u3 m o f x y (40 + 6 * ((0 : Int32).toNatClampNeg)))) (38 + 6 * ((0 : Int32).toNatClampNeg)) 5 1) 0 8 0) Q
              exact ez_ret rfl (by decide) rfl (g5 h1 h6 h7 h12 h13 h16)
            · show ez xs 99 61 [some (.ref 0), some (.int o), some (.int f), some (.int x), some (.int y)] [.ref (38 + 6 * ((m 36 1) - 1).toNatClampNeg)] m Q
              refine ez_blk 4 rfl ?_
              show ez xs 99 66 [some (.ref 0), some (.int o), some (.int f), some (.int x), some (.int y)] [.int y, .int x, .int f, .int o, .ref (38 + 6 * ((m 36 1) - 1).toNatClampNeg)] m Q
              refine ez_calls (i := 38 + 6 * ((m 36 1) - 1).toNatClampNeg) (as2 := [.int o, .int f, .int x, .int y]) (rest := []) rfl (by decide) rfl rfl rfl (z_iti (vp_lt (b6 h1 h6 h7 h12 h13 h17))) (z_its (vp_lt (b6 h1 h6 h7 h12 h13 h17))) rfl ?_
              refine c_Item_follow (k_e := (vp_lt (b6 h1 h6 h7 h12 h13 h17))) ?_
              show ez xs 99 69 [some (.ref 0), some (.int o), some (.int f), some (.int x), some (.int y)] [] (jj_up (jj_up (jj_up (jj_up (jj_up m (40 + 6 * (((m 36 1) - 1).toNatClampNeg)) 0 o) (40 + 6 * (((m 36 1) - 1).toNatClampNeg)) 1 (f_Pattern_describe_u1 m o f x y (40 + 6 * (((m 36 1) - 1).toNatClampNeg)))) (40 + 6 * (((m 36 1) - 1).toNatClampNeg)) 2 (f_Pattern_describe_u2 m o f x y (40 + 6 * (((m 36 1) - 1).toNatClampNeg)))) (40 + 6 * (((m 36 1) - 1).toNatClampNeg)) 3 (f_Pattern_describe_u3 m o f x y (40 + 6 * (((m 36 1) - 1).toNatClampNeg)))) (38 + 6 * (((m 36 1) - 1).toNatClampNeg)) 5 1) Q
              refine ez_blk 4 rfl ?_
              show ez xs 99 75 [some (.ref 0), some (.int o), some (.int f), some (.int x), some (.int y)] [.int 1] (jj_up (jj_up (jj_up (jj_up (jj_up (jj_up m (40 + 6 * (((m 36 1) - 1).toNatClampNeg)) 0 o) (40 + 6 * (((m 36 1) - 1).toNatClampNeg)) 1 (f_Pattern_describe_u1 m o f x y (40 + 6 * (((m 36 1) - 1).toNatClampNeg)))) (40 + 6 * (((m 36 1) - 1).toNatClampNeg)) 2 (f_Pattern_describe_u2 m o f x y (40 + 6 * (((m 36 1) - 1).toNatClampNeg)))) (40 + 6 * (((m 36 1) - 1).toNatClampNeg)) 3 (f_Pattern_describe_u3 m o f x y (40 + 6 * (((m 36 1) - 1).toNatClampNeg)))) (38 + 6 * (((m 36 1) - 1).toNatClampNeg)) 5 1) 0 8 0) Q
              exact ez_ret rfl (by decide) rfl (g6 h1 h6 h7 h12 h13 h17)
          · show ez xs 99 52 [some (.ref 0), some (.int o), some (.int f), some (.int x), some (.int y)] [] m Q
            refine ez_blk 1 rfl ?_
            show ez xs 99 53 [some (.ref 0), some (.int o), some (.int f), some (.int x), some (.int y)] [.int 0] m Q
            exact ez_ret rfl (by decide) rfl (g7 h1 h6 h7 h12 h13)
    · show ez xs 99 20 [some (.ref 0), some (.int o), some (.int f), some (.int x), some (.int y)] [] m Q
      refine ez_blk 1 rfl ?_
      show ez xs 99 21 [some (.ref 0), some (.int o), some (.int f), some (.int x), some (.int y)] [.int 0] m Q
      exact ez_ret rfl (by decide) rfl (g8 h1 h6)
set_option maxRecDepth 100000 in
set_option maxHeartbeats 2000000 in
theorem c_PathPatcher_plus {xs : jx_Xs} {m : zM} {Q : Option Value → zM → Prop} {o f x y : Int32}
    (b1 : (f_Script_isEmpty m = 0) → (¬ m 36 1 ≤ 0) → (f_Script_holds m ((m 36 1) - 1) = 0) → vp_in 0 6)
    (b2 : (f_Script_isEmpty m = 0) → (¬ m 36 1 ≤ 0) → (¬ f_Script_holds m ((m 36 1) - 1) = 0) → vp_in ((m 36 1) - 1) 6)
    (b3 : (f_Script_isEmpty m = 0) → (f_Script_endsInDots m = 0) → (f_Script_holds m ((m 36 1) - 1) = 0) → vp_in 0 6)
    (b4 : (f_Script_isEmpty m = 0) → (f_Script_endsInDots m = 0) → (¬ f_Script_holds m ((m 36 1) - 1) = 0) → vp_in ((m 36 1) - 1) 6)
    (b5 : (f_Script_isEmpty m = 0) → (f_Script_endsInDots m = 0) → (f_Script_holds m ((m 36 1) - 1) = 0) → (¬ f_Item_takesNew m ((0 : Int32).toNatClampNeg) = 0) → (¬ o = 3) → (¬ f_Pattern_isSound m o f x y = 0) → (¬ f_Script_knowsUnknowns m o x y = 0) → (f_Script_holds m ((m 36 1) - 1) = 0) → vp_in 0 6)
    (b6 : (f_Script_isEmpty m = 0) → (f_Script_endsInDots m = 0) → (f_Script_holds m ((m 36 1) - 1) = 0) → (¬ f_Item_takesNew m ((0 : Int32).toNatClampNeg) = 0) → (¬ o = 3) → (¬ f_Pattern_isSound m o f x y = 0) → (¬ f_Script_knowsUnknowns m o x y = 0) → (¬ f_Script_holds m ((m 36 1) - 1) = 0) → vp_in ((m 36 1) - 1) 6)
    (b7 : (f_Script_isEmpty m = 0) → (f_Script_endsInDots m = 0) → (f_Script_holds m ((m 36 1) - 1) = 0) → (¬ f_Item_takesNew m ((0 : Int32).toNatClampNeg) = 0) → (¬ o = 3) → (¬ f_Pattern_isSound m o f x y = 0) → (¬ f_Script_knowsUnknowns m o x y = 0) → (f_Script_holds m ((m 36 1) - 1) = 0) → (¬ 2 ≤ m (38 + 6 * ((0 : Int32).toNatClampNeg)) 3) → vp_in (m (38 + 6 * ((0 : Int32).toNatClampNeg)) 3) 2)
    (b8 : (f_Script_isEmpty m = 0) → (f_Script_endsInDots m = 0) → (f_Script_holds m ((m 36 1) - 1) = 0) → (¬ f_Item_takesNew m ((0 : Int32).toNatClampNeg) = 0) → (¬ o = 3) → (¬ f_Pattern_isSound m o f x y = 0) → (¬ f_Script_knowsUnknowns m o x y = 0) → (¬ f_Script_holds m ((m 36 1) - 1) = 0) → (¬ 2 ≤ m (38 + 6 * (((m 36 1) - 1).toNatClampNeg)) 3) → vp_in (m (38 + 6 * (((m 36 1) - 1).toNatClampNeg)) 3) 2)
    (b9 : (f_Script_isEmpty m = 0) → (f_Script_endsInDots m = 0) → (¬ f_Script_holds m ((m 36 1) - 1) = 0) → (¬ f_Item_takesNew m (((m 36 1) - 1).toNatClampNeg) = 0) → (¬ o = 3) → (¬ f_Pattern_isSound m o f x y = 0) → (¬ f_Script_knowsUnknowns m o x y = 0) → (f_Script_holds m ((m 36 1) - 1) = 0) → vp_in 0 6)
    (b10 : (f_Script_isEmpty m = 0) → (f_Script_endsInDots m = 0) → (¬ f_Script_holds m ((m 36 1) - 1) = 0) → (¬ f_Item_takesNew m (((m 36 1) - 1).toNatClampNeg) = 0) → (¬ o = 3) → (¬ f_Pattern_isSound m o f x y = 0) → (¬ f_Script_knowsUnknowns m o x y = 0) → (¬ f_Script_holds m ((m 36 1) - 1) = 0) → vp_in ((m 36 1) - 1) 6)
    (b11 : (f_Script_isEmpty m = 0) → (f_Script_endsInDots m = 0) → (¬ f_Script_holds m ((m 36 1) - 1) = 0) → (¬ f_Item_takesNew m (((m 36 1) - 1).toNatClampNeg) = 0) → (¬ o = 3) → (¬ f_Pattern_isSound m o f x y = 0) → (¬ f_Script_knowsUnknowns m o x y = 0) → (f_Script_holds m ((m 36 1) - 1) = 0) → (¬ 2 ≤ m (38 + 6 * ((0 : Int32).toNatClampNeg)) 3) → vp_in (m (38 + 6 * ((0 : Int32).toNatClampNeg)) 3) 2)
    (b12 : (f_Script_isEmpty m = 0) → (f_Script_endsInDots m = 0) → (¬ f_Script_holds m ((m 36 1) - 1) = 0) → (¬ f_Item_takesNew m (((m 36 1) - 1).toNatClampNeg) = 0) → (¬ o = 3) → (¬ f_Pattern_isSound m o f x y = 0) → (¬ f_Script_knowsUnknowns m o x y = 0) → (¬ f_Script_holds m ((m 36 1) - 1) = 0) → (¬ 2 ≤ m (38 + 6 * (((m 36 1) - 1).toNatClampNeg)) 3) → vp_in (m (38 + 6 * (((m 36 1) - 1).toNatClampNeg)) 3) 2)
    (g1 : (¬ f_Script_isEmpty m = 0) → Q (some (.int 0)) m)
    (g2 : (f_Script_isEmpty m = 0) → (¬ f_Script_endsInDots m = 0) → Q (some (.int 0)) m)
    (g3 : (f_Script_isEmpty m = 0) → (f_Script_endsInDots m = 0) → (f_Script_holds m ((m 36 1) - 1) = 0) → (¬ f_Item_takesNew m ((0 : Int32).toNatClampNeg) = 0) → (o = 3) → Q (some (.int 0)) m)
    (g4 : (f_Script_isEmpty m = 0) → (f_Script_endsInDots m = 0) → (f_Script_holds m ((m 36 1) - 1) = 0) → (¬ f_Item_takesNew m ((0 : Int32).toNatClampNeg) = 0) → (¬ o = 3) → (f_Pattern_isSound m o f x y = 0) → Q (some (.int 0)) m)
    (g5 : (f_Script_isEmpty m = 0) → (f_Script_endsInDots m = 0) → (f_Script_holds m ((m 36 1) - 1) = 0) → (¬ f_Item_takesNew m ((0 : Int32).toNatClampNeg) = 0) → (¬ o = 3) → (¬ f_Pattern_isSound m o f x y = 0) → (¬ f_Script_knowsUnknowns m o x y = 0) → (f_Script_holds m ((m 36 1) - 1) = 0) → (2 ≤ m (38 + 6 * ((0 : Int32).toNatClampNeg)) 3) → Q (some (.int 1)) (jj_up m 0 8 0))
    (g6 : (f_Script_isEmpty m = 0) → (f_Script_endsInDots m = 0) → (f_Script_holds m ((m 36 1) - 1) = 0) → (¬ f_Item_takesNew m ((0 : Int32).toNatClampNeg) = 0) → (¬ o = 3) → (¬ f_Pattern_isSound m o f x y = 0) → (¬ f_Script_knowsUnknowns m o x y = 0) → (f_Script_holds m ((m 36 1) - 1) = 0) → (¬ 2 ≤ m (38 + 6 * ((0 : Int32).toNatClampNeg)) 3) → Q (some (.int 1)) (jj_up (jj_up (jj_up (jj_up (jj_up (jj_up m (42 + 6 * ((0 : Int32).toNatClampNeg) + (m (38 + 6 * ((0 : Int32).toNatClampNeg)) 3).toNatClampNeg) 0 o) (42 + 6 * ((0 : Int32).toNatClampNeg) + (m (38 + 6 * ((0 : Int32).toNatClampNeg)) 3).toNatClampNeg) 1 (f_Pattern_describe_u1 m o f x y (42 + 6 * ((0 : Int32).toNatClampNeg) + (m (38 + 6 * ((0 : Int32).toNatClampNeg)) 3).toNatClampNeg))) (42 + 6 * ((0 : Int32).toNatClampNeg) + (m (38 + 6 * ((0 : Int32).toNatClampNeg)) 3).toNatClampNeg) 2 (f_Pattern_describe_u2 m o f x y (42 + 6 * ((0 : Int32).toNatClampNeg) + (m (38 + 6 * ((0 : Int32).toNatClampNeg)) 3).toNatClampNeg))) (42 + 6 * ((0 : Int32).toNatClampNeg) + (m (38 + 6 * ((0 : Int32).toNatClampNeg)) 3).toNatClampNeg) 3 (f_Pattern_describe_u3 m o f x y (42 + 6 * ((0 : Int32).toNatClampNeg) + (m (38 + 6 * ((0 : Int32).toNatClampNeg)) 3).toNatClampNeg))) (38 + 6 * ((0 : Int32).toNatClampNeg)) 3 (((jj_up (jj_up (jj_up (jj_up m (42 + 6 * ((0 : Int32).toNatClampNeg) + (m (38 + 6 * ((0 : Int32).toNatClampNeg)) 3).toNatClampNeg) 0 o) (42 + 6 * ((0 : Int32).toNatClampNeg) + (m (38 + 6 * ((0 : Int32).toNatClampNeg)) 3).toNatClampNeg) 1 (f_Pattern_describe_u1 m o f x y (42 + 6 * ((0 : Int32).toNatClampNeg) + (m (38 + 6 * ((0 : Int32).toNatClampNeg)) 3).toNatClampNeg))) (42 + 6 * ((0 : Int32).toNatClampNeg) + (m (38 + 6 * ((0 : Int32).toNatClampNeg)) 3).toNatClampNeg) 2 (f_Pattern_describe_u2 m o f x y (42 + 6 * ((0 : Int32).toNatClampNeg) + (m (38 + 6 * ((0 : Int32).toNatClampNeg)) 3).toNatClampNeg))) (42 + 6 * ((0 : Int32).toNatClampNeg) + (m (38 + 6 * ((0 : Int32).toNatClampNeg)) 3).toNatClampNeg) 3 (f_Pattern_describe_u3 m o f x y (42 + 6 * ((0 : Int32).toNatClampNeg) + (m (38 + 6 * ((0 : Int32).toNatClampNeg)) 3).toNatClampNeg))) (38 + 6 * ((0 : Int32).toNatClampNeg)) 3) + 1)) 0 8 0))
    (g7 : (f_Script_isEmpty m = 0) → (f_Script_endsInDots m = 0) → (f_Script_holds m ((m 36 1) - 1) = 0) → (¬ f_Item_takesNew m ((0 : Int32).toNatClampNeg) = 0) → (¬ o = 3) → (¬ f_Pattern_isSound m o f x y = 0) → (¬ f_Script_knowsUnknowns m o x y = 0) → (¬ f_Script_holds m ((m 36 1) - 1) = 0) → (2 ≤ m (38 + 6 * (((m 36 1) - 1).toNatClampNeg)) 3) → Q (some (.int 1)) (jj_up m 0 8 0))
    (g8 : (f_Script_isEmpty m = 0) → (f_Script_endsInDots m = 0) → (f_Script_holds m ((m 36 1) - 1) = 0) → (¬ f_Item_takesNew m ((0 : Int32).toNatClampNeg) = 0) → (¬ o = 3) → (¬ f_Pattern_isSound m o f x y = 0) → (¬ f_Script_knowsUnknowns m o x y = 0) → (¬ f_Script_holds m ((m 36 1) - 1) = 0) → (¬ 2 ≤ m (38 + 6 * (((m 36 1) - 1).toNatClampNeg)) 3) → Q (some (.int 1)) (jj_up (jj_up (jj_up (jj_up (jj_up (jj_up m (42 + 6 * (((m 36 1) - 1).toNatClampNeg) + (m (38 + 6 * (((m 36 1) - 1).toNatClampNeg)) 3).toNatClampNeg) 0 o) (42 + 6 * (((m 36 1) - 1).toNatClampNeg) + (m (38 + 6 * (((m 36 1) - 1).toNatClampNeg)) 3).toNatClampNeg) 1 (f_Pattern_describe_u1 m o f x y (42 + 6 * (((m 36 1) - 1).toNatClampNeg) + (m (38 + 6 * (((m 36 1) - 1).toNatClampNeg)) 3).toNatClampNeg))) (42 + 6 * (((m 36 1) - 1).toNatClampNeg) + (m (38 + 6 * (((m 36 1) - 1).toNatClampNeg)) 3).toNatClampNeg) 2 (f_Pattern_describe_u2 m o f x y (42 + 6 * (((m 36 1) - 1).toNatClampNeg) + (m (38 + 6 * (((m 36 1) - 1).toNatClampNeg)) 3).toNatClampNeg))) (42 + 6 * (((m 36 1) - 1).toNatClampNeg) + (m (38 + 6 * (((m 36 1) - 1).toNatClampNeg)) 3).toNatClampNeg) 3 (f_Pattern_describe_u3 m o f x y (42 + 6 * (((m 36 1) - 1).toNatClampNeg) + (m (38 + 6 * (((m 36 1) - 1).toNatClampNeg)) 3).toNatClampNeg))) (38 + 6 * (((m 36 1) - 1).toNatClampNeg)) 3 (((jj_up (jj_up (jj_up (jj_up m (42 + 6 * (((m 36 1) - 1).toNatClampNeg) + (m (38 + 6 * (((m 36 1) - 1).toNatClampNeg)) 3).toNatClampNeg) 0 o) (42 + 6 * (((m 36 1) - 1).toNatClampNeg) + (m (38 + 6 * (((m 36 1) - 1).toNatClampNeg)) 3).toNatClampNeg) 1 (f_Pattern_describe_u1 m o f x y (42 + 6 * (((m 36 1) - 1).toNatClampNeg) + (m (38 + 6 * (((m 36 1) - 1).toNatClampNeg)) 3).toNatClampNeg))) (42 + 6 * (((m 36 1) - 1).toNatClampNeg) + (m (38 + 6 * (((m 36 1) - 1).toNatClampNeg)) 3).toNatClampNeg) 2 (f_Pattern_describe_u2 m o f x y (42 + 6 * (((m 36 1) - 1).toNatClampNeg) + (m (38 + 6 * (((m 36 1) - 1).toNatClampNeg)) 3).toNatClampNeg))) (42 + 6 * (((m 36 1) - 1).toNatClampNeg) + (m (38 + 6 * (((m 36 1) - 1).toNatClampNeg)) 3).toNatClampNeg) 3 (f_Pattern_describe_u3 m o f x y (42 + 6 * (((m 36 1) - 1).toNatClampNeg) + (m (38 + 6 * (((m 36 1) - 1).toNatClampNeg)) 3).toNatClampNeg))) (38 + 6 * (((m 36 1) - 1).toNatClampNeg)) 3) + 1)) 0 8 0))
    (g9 : (f_Script_isEmpty m = 0) → (f_Script_endsInDots m = 0) → (f_Script_holds m ((m 36 1) - 1) = 0) → (¬ f_Item_takesNew m ((0 : Int32).toNatClampNeg) = 0) → (¬ o = 3) → (¬ f_Pattern_isSound m o f x y = 0) → (f_Script_knowsUnknowns m o x y = 0) → Q (some (.int 0)) m)
    (g10 : (f_Script_isEmpty m = 0) → (f_Script_endsInDots m = 0) → (f_Script_holds m ((m 36 1) - 1) = 0) → (f_Item_takesNew m ((0 : Int32).toNatClampNeg) = 0) → Q (some (.int 0)) m)
    (g11 : (f_Script_isEmpty m = 0) → (f_Script_endsInDots m = 0) → (¬ f_Script_holds m ((m 36 1) - 1) = 0) → (¬ f_Item_takesNew m (((m 36 1) - 1).toNatClampNeg) = 0) → (o = 3) → Q (some (.int 0)) m)
    (g12 : (f_Script_isEmpty m = 0) → (f_Script_endsInDots m = 0) → (¬ f_Script_holds m ((m 36 1) - 1) = 0) → (¬ f_Item_takesNew m (((m 36 1) - 1).toNatClampNeg) = 0) → (¬ o = 3) → (f_Pattern_isSound m o f x y = 0) → Q (some (.int 0)) m)
    (g13 : (f_Script_isEmpty m = 0) → (f_Script_endsInDots m = 0) → (¬ f_Script_holds m ((m 36 1) - 1) = 0) → (¬ f_Item_takesNew m (((m 36 1) - 1).toNatClampNeg) = 0) → (¬ o = 3) → (¬ f_Pattern_isSound m o f x y = 0) → (¬ f_Script_knowsUnknowns m o x y = 0) → (f_Script_holds m ((m 36 1) - 1) = 0) → (2 ≤ m (38 + 6 * ((0 : Int32).toNatClampNeg)) 3) → Q (some (.int 1)) (jj_up m 0 8 0))
    (g14 : (f_Script_isEmpty m = 0) → (f_Script_endsInDots m = 0) → (¬ f_Script_holds m ((m 36 1) - 1) = 0) → (¬ f_Item_takesNew m (((m 36 1) - 1).toNatClampNeg) = 0) → (¬ o = 3) → (¬ f_Pattern_isSound m o f x y = 0) → (¬ f_Script_knowsUnknowns m o x y = 0) → (f_Script_holds m ((m 36 1) - 1) = 0) → (¬ 2 ≤ m (38 + 6 * ((0 : Int32).toNatClampNeg)) 3) → Q (some (.int 1)) (jj_up (jj_up (jj_up (jj_up (jj_up (jj_up m (42 + 6 * ((0 : Int32).toNatClampNeg) + (m (38 + 6 * ((0 : Int32).toNatClampNeg)) 3).toNatClampNeg) 0 o) (42 + 6 * ((0 : Int32).toNatClampNeg) + (m (38 + 6 * ((0 : Int32).toNatClampNeg)) 3).toNatClampNeg) 1 (f_Pattern_describe_u1 m o f x y (42 + 6 * ((0 : Int32).toNatClampNeg) + (m (38 + 6 * ((0 : Int32).toNatClampNeg)) 3).toNatClampNeg))) (42 + 6 * ((0 : Int32).toNatClampNeg) + (m (38 + 6 * ((0 : Int32).toNatClampNeg)) 3).toNatClampNeg) 2 (f_Pattern_describe_u2 m o f x y (42 + 6 * ((0 : Int32).toNatClampNeg) + (m (38 + 6 * ((0 : Int32).toNatClampNeg)) 3).toNatClampNeg))) (42 + 6 * ((0 : Int32).toNatClampNeg) + (m (38 + 6 * ((0 : Int32).toNatClampNeg)) 3).toNatClampNeg) 3 (f_Pattern_describe_u3 m o f x y (42 + 6 * ((0 : Int32).toNatClampNeg) + (m (38 + 6 * ((0 : Int32).toNatClampNeg)) 3).toNatClampNeg))) (38 + 6 * ((0 : Int32).toNatClampNeg)) 3 (((jj_up (jj_up (jj_up (jj_up m (42 + 6 * ((0 : Int32).toNatClampNeg) + (m (38 + 6 * ((0 : Int32).toNatClampNeg)) 3).toNatClampNeg) 0 o) (42 + 6 * ((0 : Int32).toNatClampNeg) + (m (38 + 6 * ((0 : Int32).toNatClampNeg)) 3).toNatClampNeg) 1 (f_Pattern_describe_u1 m o f x y (42 + 6 * ((0 : Int32).toNatClampNeg) + (m (38 + 6 * ((0 : Int32).toNatClampNeg)) 3).toNatClampNeg))) (42 + 6 * ((0 : Int32).toNatClampNeg) + (m (38 + 6 * ((0 : Int32).toNatClampNeg)) 3).toNatClampNeg) 2 (f_Pattern_describe_u2 m o f x y (42 + 6 * ((0 : Int32).toNatClampNeg) + (m (38 + 6 * ((0 : Int32).toNatClampNeg)) 3).toNatClampNeg))) (42 + 6 * ((0 : Int32).toNatClampNeg) + (m (38 + 6 * ((0 : Int32).toNatClampNeg)) 3).toNatClampNeg) 3 (f_Pattern_describe_u3 m o f x y (42 + 6 * ((0 : Int32).toNatClampNeg) + (m (38 + 6 * ((0 : Int32).toNatClampNeg)) 3).toNatClampNeg))) (38 + 6 * ((0 : Int32).toNatClampNeg)) 3) + 1)) 0 8 0))
    (g15 : (f_Script_isEmpty m = 0) → (f_Script_endsInDots m = 0) → (¬ f_Script_holds m ((m 36 1) - 1) = 0) → (¬ f_Item_takesNew m (((m 36 1) - 1).toNatClampNeg) = 0) → (¬ o = 3) → (¬ f_Pattern_isSound m o f x y = 0) → (¬ f_Script_knowsUnknowns m o x y = 0) → (¬ f_Script_holds m ((m 36 1) - 1) = 0) → (2 ≤ m (38 + 6 * (((m 36 1) - 1).toNatClampNeg)) 3) → Q (some (.int 1)) (jj_up m 0 8 0))
    (g16 : (f_Script_isEmpty m = 0) → (f_Script_endsInDots m = 0) → (¬ f_Script_holds m ((m 36 1) - 1) = 0) → (¬ f_Item_takesNew m (((m 36 1) - 1).toNatClampNeg) = 0) → (¬ o = 3) → (¬ f_Pattern_isSound m o f x y = 0) → (¬ f_Script_knowsUnknowns m o x y = 0) → (¬ f_Script_holds m ((m 36 1) - 1) = 0) → (¬ 2 ≤ m (38 + 6 * (((m 36 1) - 1).toNatClampNeg)) 3) → Q (some (.int 1)) (jj_up (jj_up (jj_up (jj_up (jj_up (jj_up m (42 + 6 * (((m 36 1) - 1).toNatClampNeg) + (m (38 + 6 * (((m 36 1) - 1).toNatClampNeg)) 3).toNatClampNeg) 0 o) (42 + 6 * (((m 36 1) - 1).toNatClampNeg) + (m (38 + 6 * (((m 36 1) - 1).toNatClampNeg)) 3).toNatClampNeg) 1 (f_Pattern_describe_u1 m o f x y (42 + 6 * (((m 36 1) - 1).toNatClampNeg) + (m (38 + 6 * (((m 36 1) - 1).toNatClampNeg)) 3).toNatClampNeg))) (42 + 6 * (((m 36 1) - 1).toNatClampNeg) + (m (38 + 6 * (((m 36 1) - 1).toNatClampNeg)) 3).toNatClampNeg) 2 (f_Pattern_describe_u2 m o f x y (42 + 6 * (((m 36 1) - 1).toNatClampNeg) + (m (38 + 6 * (((m 36 1) - 1).toNatClampNeg)) 3).toNatClampNeg))) (42 + 6 * (((m 36 1) - 1).toNatClampNeg) + (m (38 + 6 * (((m 36 1) - 1).toNatClampNeg)) 3).toNatClampNeg) 3 (f_Pattern_describe_u3 m o f x y (42 + 6 * (((m 36 1) - 1).toNatClampNeg) + (m (38 + 6 * (((m 36 1) - 1).toNatClampNeg)) 3).toNatClampNeg))) (38 + 6 * (((m 36 1) - 1).toNatClampNeg)) 3 (((jj_up (jj_up (jj_up (jj_up m (42 + 6 * (((m 36 1) - 1).toNatClampNeg) + (m (38 + 6 * (((m 36 1) - 1).toNatClampNeg)) 3).toNatClampNeg) 0 o) (42 + 6 * (((m 36 1) - 1).toNatClampNeg) + (m (38 + 6 * (((m 36 1) - 1).toNatClampNeg)) 3).toNatClampNeg) 1 (f_Pattern_describe_u1 m o f x y (42 + 6 * (((m 36 1) - 1).toNatClampNeg) + (m (38 + 6 * (((m 36 1) - 1).toNatClampNeg)) 3).toNatClampNeg))) (42 + 6 * (((m 36 1) - 1).toNatClampNeg) + (m (38 + 6 * (((m 36 1) - 1).toNatClampNeg)) 3).toNatClampNeg) 2 (f_Pattern_describe_u2 m o f x y (42 + 6 * (((m 36 1) - 1).toNatClampNeg) + (m (38 + 6 * (((m 36 1) - 1).toNatClampNeg)) 3).toNatClampNeg))) (42 + 6 * (((m 36 1) - 1).toNatClampNeg) + (m (38 + 6 * (((m 36 1) - 1).toNatClampNeg)) 3).toNatClampNeg) 3 (f_Pattern_describe_u3 m o f x y (42 + 6 * (((m 36 1) - 1).toNatClampNeg) + (m (38 + 6 * (((m 36 1) - 1).toNatClampNeg)) 3).toNatClampNeg))) (38 + 6 * (((m 36 1) - 1).toNatClampNeg)) 3) + 1)) 0 8 0))
    (g17 : (f_Script_isEmpty m = 0) → (f_Script_endsInDots m = 0) → (¬ f_Script_holds m ((m 36 1) - 1) = 0) → (¬ f_Item_takesNew m (((m 36 1) - 1).toNatClampNeg) = 0) → (¬ o = 3) → (¬ f_Pattern_isSound m o f x y = 0) → (f_Script_knowsUnknowns m o x y = 0) → Q (some (.int 0)) m)
    (g18 : (f_Script_isEmpty m = 0) → (f_Script_endsInDots m = 0) → (¬ f_Script_holds m ((m 36 1) - 1) = 0) → (f_Item_takesNew m (((m 36 1) - 1).toNatClampNeg) = 0) → Q (some (.int 0)) m) : ez xs 107 0 (jx_ent 107 [.ref 0, .int o, .int f, .int x, .int y]) [] m Q := by
  refine ez_blk 2 rfl ?_
  show ez xs 107 4 [some (.ref 0), some (.int o), some (.int f), some (.int x), some (.int y)] [.ref 36] m Q
  refine ez_call (as := [.ref 36]) (rest := []) rfl (by decide) rfl ?_
  refine d_Script_isEmpty ?_
  show ez xs 107 7 [some (.ref 0), some (.int o), some (.int f), some (.int x), some (.int y)] [.int (f_Script_isEmpty m)] m Q
  refine ez_if_ne rfl (fun h1 => ?_) (fun h1 => ?_)
  · show ez xs 107 33 [some (.ref 0), some (.int o), some (.int f), some (.int x), some (.int y)] [] m Q
    refine ez_blk 1 rfl ?_
    show ez xs 107 34 [some (.ref 0), some (.int o), some (.int f), some (.int x), some (.int y)] [.int 0] m Q
    exact ez_ret rfl (by decide) rfl (g1 h1)
  · show ez xs 107 10 [some (.ref 0), some (.int o), some (.int f), some (.int x), some (.int y)] [] m Q
    refine ez_blk 2 rfl ?_
    show ez xs 107 14 [some (.ref 0), some (.int o), some (.int f), some (.int x), some (.int y)] [.ref 36] m Q
    refine ez_call (as := [.ref 36]) (rest := []) rfl (by decide) rfl ?_
    refine d_Script_endsInDots (fun h2 h3 => b1 h1 h2 h3) (fun h4 h5 => b2 h1 h4 h5) ?_
    show ez xs 107 17 [some (.ref 0), some (.int o), some (.int f), some (.int x), some (.int y)] [.int (f_Script_endsInDots m)] m Q
    refine ez_if_ne rfl (fun h6 => ?_) (fun h6 => ?_)
    · show ez xs 107 33 [some (.ref 0), some (.int o), some (.int f), some (.int x), some (.int y)] [] m Q
      refine ez_blk 1 rfl ?_
      show ez xs 107 34 [some (.ref 0), some (.int o), some (.int f), some (.int x), some (.int y)] [.int 0] m Q
      exact ez_ret rfl (by decide) rfl (g2 h1 h6)
    · show ez xs 107 20 [some (.ref 0), some (.int o), some (.int f), some (.int x), some (.int y)] [] m Q
      refine ez_blk 2 rfl ?_
      show ez xs 107 24 [some (.ref 0), some (.int o), some (.int f), some (.int x), some (.int y)] [.ref 36] m Q
      refine ez_call (as := [.ref 36]) (rest := []) rfl (by decide) rfl ?_
      refine c_Script_last (fun h7 => b3 h1 h6 h7) (fun h8 => b4 h1 h6 h8) (fun h9 => ?_) (fun h10 => ?_)
      · show ez xs 107 27 [some (.ref 0), some (.int o), some (.int f), some (.int x), some (.int y)] [.ref (38 + 6 * (0 : Int32).toNatClampNeg)] m Q
        refine ez_calls (i := 38 + 6 * (0 : Int32).toNatClampNeg) (as2 := []) (rest := []) rfl (by decide) rfl rfl rfl (z_iti (vp_lt (b3 h1 h6 h9))) (z_its (vp_lt (b3 h1 h6 h9))) rfl ?_
        refine d_Item_takesNew (k_e := (vp_lt (b3 h1 h6 h9))) ?_
        show ez xs 107 30 [some (.ref 0), some (.int o), some (.int f), some (.int x), some (.int y)] [.int (f_Item_takesNew m ((0 : Int32).toNatClampNeg))] m Q
        refine ez_if_ne rfl (fun h11 => ?_) (fun h11 => ?_)
        · show ez xs 107 35 [some (.ref 0), some (.int o), some (.int f), some (.int x), some (.int y)] [] m Q
          refine ez_blk 2 rfl ?_
          show ez xs 107 37 [some (.ref 0), some (.int o), some (.int f), some (.int x), some (.int y)] [.int 3, .int o] m Q
          refine ez_icmp_eq rfl (fun h12 => ?_) (fun h12 => ?_)
          · show ez xs 107 65 [some (.ref 0), some (.int o), some (.int f), some (.int x), some (.int y)] [] m Q
            refine ez_blk 1 rfl ?_
            show ez xs 107 66 [some (.ref 0), some (.int o), some (.int f), some (.int x), some (.int y)] [.int 0] m Q
            exact ez_ret rfl (by decide) rfl (g3 h1 h6 h9 h11 h12)
          · show ez xs 107 40 [some (.ref 0), some (.int o), some (.int f), some (.int x), some (.int y)] [] m Q
            refine ez_blk 4 rfl ?_
            show ez xs 107 45 [some (.ref 0), some (.int o), some (.int f), some (.int x), some (.int y)] [.int y, .int x, .int f, .int o] m Q
            refine ez_call (as := [.int o, .int f, .int x, .int y]) (rest := []) rfl (by decide) rfl ?_
            refine d_Pattern_isSound ?_
            show ez xs 107 48 [some (.ref 0), some (.int o), some (.int f), some (.int x), some (.int y)] [.int (f_Pattern_isSound m o f x y)] m Q
            refine ez_if_eq rfl (fun h13 => ?_) (fun h13 => ?_)
            · show ez xs 107 65 [some (.ref 0), some (.int o), some (.int f), some (.int x), some (.int y)] [] m Q
              refine ez_blk 1 rfl ?_
              show ez xs 107 66 [some (.ref 0), some (.int o), some (.int f), some (.int x), some (.int y)] [.int 0] m Q
              exact ez_ret rfl (by decide) rfl (g4 h1 h6 h9 h11 h12 h13)
            · show ez xs 107 51 [some (.ref 0), some (.int o), some (.int f), some (.int x), some (.int y)] [] m Q
              refine ez_blk 5 rfl ?_
              show ez xs 107 59 [some (.ref 0), some (.int o), some (.int f), some (.int x), some (.int y)] [.int y, .int x, .int o, .ref 36] m Q
              refine ez_call (as := [.ref 36, .int o, .int x, .int y]) (rest := []) rfl (by decide) rfl ?_
              refine d_Script_knowsUnknowns ?_
              show ez xs 107 62 [some (.ref 0), some (.int o), some (.int f), some (.int x), some (.int y)] [.int (f_Script_knowsUnknowns m o x y)] m Q
              refine ez_if_ne rfl (fun h14 => ?_) (fun h14 => ?_)
              · show ez xs 107 67 [some (.ref 0), some (.int o), some (.int f), some (.int x), some (.int y)] [] m Q
                refine ez_blk 2 rfl ?_
                show ez xs 107 71 [some (.ref 0), some (.int o), some (.int f), some (.int x), some (.int y)] [.ref 36] m Q
                refine ez_call (as := [.ref 36]) (rest := []) rfl (by decide) rfl ?_
                refine c_Script_last (fun h15 => b5 h1 h6 h9 h11 h12 h13 h14 h15) (fun h16 => b6 h1 h6 h9 h11 h12 h13 h14 h16) (fun h17 => ?_) (fun h18 => ?_)
                · show ez xs 107 74 [some (.ref 0), some (.int o), some (.int f), some (.int x), some (.int y)] [.ref (38 + 6 * (0 : Int32).toNatClampNeg)] m Q
                  refine ez_blk 4 rfl ?_
                  show ez xs 107 79 [some (.ref 0), some (.int o), some (.int f), some (.int x), some (.int y)] [.int y, .int x, .int f, .int o, .ref (38 + 6 * (0 : Int32).toNatClampNeg)] m Q
                  refine ez_calls (i := 38 + 6 * (0 : Int32).toNatClampNeg) (as2 := [.int o, .int f, .int x, .int y]) (rest := []) rfl (by decide) rfl rfl rfl (z_iti (vp_lt (b5 h1 h6 h9 h11 h12 h13 h14 h17))) (z_its (vp_lt (b5 h1 h6 h9 h11 h12 h13 h14 h17))) rfl ?_
                  refine c_Item_append (k_e := (vp_lt (b5 h1 h6 h9 h11 h12 h13 h14 h17))) (fun h19 => b7 h1 h6 h9 h11 h12 h13 h14 h17 h19) (fun h20 => ?_) (fun h21 => ?_)
                  · show ez xs 107 82 [some (.ref 0), some (.int o), some (.int f), some (.int x), some (.int y)] [] m Q
                    refine ez_blk 4 rfl ?_
                    show ez xs 107 88 [some (.ref 0), some (.int o), some (.int f), some (.int x), some (.int y)] [.int 1] (jj_up m 0 8 0) Q
                    exact ez_ret rfl (by decide) rfl (g5 h1 h6 h9 h11 h12 h13 h14 h17 h20)
                  · show ez xs 107 82 [some (.ref 0), some (.int o), some (.int f), some (.int x), some (.int y)] [] (jj_up (jj_up (jj_up (jj_up (jj_up m (42 + 6 * ((0 : Int32).toNatClampNeg) + (m (38 + 6 * ((0 : Int32).toNatClampNeg)) 3).toNatClampNeg) 0 o) (42 + 6 * ((0 : Int32).toNatClampNeg) + (m (38 + 6 * ((0 : Int32).toNatClampNeg)) 3).toNatClampNeg) 1 (f_Pattern_describe_u1 m o f x y (42 + 6 * ((0 : Int32).toNatClampNeg) + (m (38 + 6 * ((0 : Int32).toNatClampNeg)) 3).toNatClampNeg))) (42 + 6 * ((0 : Int32).toNatClampNeg) + (m (38 + 6 * ((0 : Int32).toNatClampNeg)) 3).toNatClampNeg) 2 (f_Pattern_describe_u2 m o f x y (42 + 6 * ((0 : Int32).toNatClampNeg) + (m (38 + 6 * ((0 : Int32).toNatClampNeg)) 3).toNatClampNeg))) (42 + 6 * ((0 : Int32).toNatClampNeg) + (m (38 + 6 * ((0 : Int32).toNatClampNeg)) 3).toNatClampNeg) 3 (f_Pattern_describe_u3 m o f x y (42 + 6 * ((0 : Int32).toNatClampNeg) + (m (38 + 6 * ((0 : Int32).toNatClampNeg)) 3).toNatClampNeg))) (38 + 6 * ((0 : Int32).toNatClampNeg)) 3 (((jj_up (jj_up (jj_up (jj_up m (42 + 6 * ((0 : Int32).toNatClampNeg) + (m (38 + 6 * ((0 : Int32).toNatClampNeg)) 3).toNatClampNeg) 0 o) (42 + 6 * ((0 : Int32).toNatClampNeg) + (m (38 + 6 * ((0 : Int32).toNatClampNeg)) 3).toNatClampNeg) 1 (f_Pattern_describe_u1 m o f x y (42 + 6 * ((0 : Int32).toNatClampNeg) + (m (38 + 6 * ((0 : Int32).toNatClampNeg)) 3).toNatClampNeg))) (42 + 6 * ((0 : Int32).toNatClampNeg) + (m (38 + 6 * ((0 : Int32).toNatClampNeg)) 3).toNatClampNeg) 2 (f_Pattern_describe_u2 m o f x y (42 + 6 * ((0 : Int32).toNatClampNeg) + (m (38 + 6 * ((0 : Int32).toNatClampNeg)) 3).toNatClampNeg))) (42 + 6 * ((0 : Int32).toNatClampNeg) + (m (38 + 6 * ((0 : Int32).toNatClampNeg)) 3).toNatClampNeg) 3 (f_Pattern_describe_u3 m o f x y (42 + 6 * ((0 : Int32).toNatClampNeg) + (m (38 + 6 * ((0 : Int32).toNatClampNeg)) 3).toNatClampNeg))) (38 + 6 * ((0 : Int32).toNatClampNeg)) 3) + 1)) Q
                    refine ez_blk 4 rfl ?_
                    show ez xs 107 88 [some (.ref 0), some (.int o), some (.int f), some (.int x), some (.int y)] [.int 1] (jj_up (jj_up (jj_up (jj_up (jj_up (jj_up m (42 + 6 * ((0 : Int32).toNatClampNeg) + (m (38 + 6 * ((0 : Int32).toNatClampNeg)) 3).toNatClampNeg) 0 o) (42 + 6 * ((0 : Int32).toNatClampNeg) + (m (38 + 6 * ((0 : Int32).toNatClampNeg)) 3).toNatClampNeg) 1 (f_Pattern_describe_u1 m o f x y (42 + 6 * ((0 : Int32).toNatClampNeg) + (m (38 + 6 * ((0 : Int32).toNatClampNeg)) 3).toNatClampNeg))) (42 + 6 * ((0 : Int32).toNatClampNeg) + (m (38 + 6 * ((0 : Int32).toNatClampNeg)) 3).toNatClampNeg) 2 (f_Pattern_describe_u2 m o f x y (42 + 6 * ((0 : Int32).toNatClampNeg) + (m (38 + 6 * ((0 : Int32).toNatClampNeg)) 3).toNatClampNeg))) (42 + 6 * ((0 : Int32).toNatClampNeg) + (m (38 + 6 * ((0 : Int32).toNatClampNeg)) 3).toNatClampNeg) 3 (f_Pattern_describe_u3 m o f x y (42 + 6 * ((0 : Int32).toNatClampNeg) + (m (38 + 6 * ((0 : Int32).toNatClampNeg)) 3).toNatClampNeg))) (38 + 6 * ((0 : Int32).toNatClampNeg)) 3 (((jj_up (jj_up (jj_up (jj_up m (42 + 6 * ((0 : Int32).toNatClampNeg) + (m (38 + 6 * ((0 : Int32).toNatClampNeg)) 3).toNatClampNeg) 0 o) (42 + 6 * ((0 : Int32).toNatClampNeg) + (m (38 + 6 * ((0 : Int32).toNatClampNeg)) 3).toNatClampNeg) 1 (f_Pattern_describe_u1 m o f x y (42 + 6 * ((0 : Int32).toNatClampNeg) + (m (38 + 6 * ((0 : Int32).toNatClampNeg)) 3).toNatClampNeg))) (42 + 6 * ((0 : Int32).toNatClampNeg) + (m (38 + 6 * ((0 : Int32).toNatClampNeg)) 3).toNatClampNeg) 2 (f_Pattern_describe_u2 m o f x y (42 + 6 * ((0 : Int32).toNatClampNeg) + (m (38 + 6 * ((0 : Int32).toNatClampNeg)) 3).toNatClampNeg))) (42 + 6 * ((0 : Int32).toNatClampNeg) + (m (38 + 6 * ((0 : Int32).toNatClampNeg)) 3).toNatClampNeg) 3 (f_Pattern_describe_u3 m o f x y (42 + 6 * ((0 : Int32).toNatClampNeg) + (m (38 + 6 * ((0 : Int32).toNatClampNeg)) 3).toNatClampNeg))) (38 + 6 * ((0 : Int32).toNatClampNeg)) 3) + 1)) 0 8 0) Q
                    exact ez_ret rfl (by decide) rfl (g6 h1 h6 h9 h11 h12 h13 h14 h17 h21)
                · show ez xs 107 74 [some (.ref 0), some (.int o), some (.int f), some (.int x), some (.int y)] [.ref (38 + 6 * ((m 36 1) - 1).toNatClampNeg)] m Q
                  refine ez_blk 4 rfl ?_
                  show ez xs 107 79 [some (.ref 0), some (.int o), some (.int f), some (.int x), some (.int y)] [.int y, .int x, .int f, .int o, .ref (38 + 6 * ((m 36 1) - 1).toNatClampNeg)] m Q
                  refine ez_calls (i := 38 + 6 * ((m 36 1) - 1).toNatClampNeg) (as2 := [.int o, .int f, .int x, .int y]) (rest := []) rfl (by decide) rfl rfl rfl (z_iti (vp_lt (b6 h1 h6 h9 h11 h12 h13 h14 h18))) (z_its (vp_lt (b6 h1 h6 h9 h11 h12 h13 h14 h18))) rfl ?_
                  refine c_Item_append (k_e := (vp_lt (b6 h1 h6 h9 h11 h12 h13 h14 h18))) (fun h22 => b8 h1 h6 h9 h11 h12 h13 h14 h18 h22) (fun h23 => ?_) (fun h24 => ?_)
                  · show ez xs 107 82 [some (.ref 0), some (.int o), some (.int f), some (.int x), some (.int y)] [] m Q
                    refine ez_blk 4 rfl ?_
                    show ez xs 107 88 [some (.ref 0), some (.int o), some (.int f), some (.int x), some (.int y)] [.int 1] (jj_up m 0 8 0) Q
                    exact ez_ret rfl (by decide) rfl (g7 h1 h6 h9 h11 h12 h13 h14 h18 h23)
                  · show ez xs 107 82 [some (.ref 0), some (.int o), some (.int f), some (.int x), some (.int y)] [] (jj_up (jj_up (jj_up (jj_up (jj_up m (42 + 6 * (((m 36 1) - 1).toNatClampNeg) + (m (38 + 6 * (((m 36 1) - 1).toNatClampNeg)) 3).toNatClampNeg) 0 o) (42 + 6 * (((m 36 1) - 1).toNatClampNeg) + (m (38 + 6 * (((m 36 1) - 1).toNatClampNeg)) 3).toNatClampNeg) 1 (f_Pattern_describe_u1 m o f x y (42 + 6 * (((m 36 1) - 1).toNatClampNeg) + (m (38 + 6 * (((m 36 1) - 1).toNatClampNeg)) 3).toNatClampNeg))) (42 + 6 * (((m 36 1) - 1).toNatClampNeg) + (m (38 + 6 * (((m 36 1) - 1).toNatClampNeg)) 3).toNatClampNeg) 2 (f_Pattern_describe_u2 m o f x y (42 + 6 * (((m 36 1) - 1).toNatClampNeg) + (m (38 + 6 * (((m 36 1) - 1).toNatClampNeg)) 3).toNatClampNeg))) (42 + 6 * (((m 36 1) - 1).toNatClampNeg) + (m (38 + 6 * (((m 36 1) - 1).toNatClampNeg)) 3).toNatClampNeg) 3 (f_Pattern_describe_u3 m o f x y (42 + 6 * (((m 36 1) - 1).toNatClampNeg) + (m (38 + 6 * (((m 36 1) - 1).toNatClampNeg)) 3).toNatClampNeg))) (38 + 6 * (((m 36 1) - 1).toNatClampNeg)) 3 (((jj_up (jj_up (jj_up (jj_up m (42 + 6 * (((m 36 1) - 1).toNatClampNeg) + (m (38 + 6 * (((m 36 1) - 1).toNatClampNeg)) 3).toNatClampNeg) 0 o) (42 + 6 * (((m 36 1) - 1).toNatClampNeg) + (m (38 + 6 * (((m 36 1) - 1).toNatClampNeg)) 3).toNatClampNeg) 1 (f_Pattern_describe_u1 m o f x y (42 + 6 * (((m 36 1) - 1).toNatClampNeg) + (m (38 + 6 * (((m 36 1) - 1).toNatClampNeg)) 3).toNatClampNeg))) (42 + 6 * (((m 36 1) - 1).toNatClampNeg) + (m (38 + 6 * (((m 36 1) - 1).toNatClampNeg)) 3).toNatClampNeg) 2 (f_Pattern_describe_u2 m o f x y (42 + 6 * (((m 36 1) - 1).toNatClampNeg) + (m (38 + 6 * (((m 36 1) - 1).toNatClampNeg)) 3).toNatClampNeg))) (42 + 6 * (((m 36 1) - 1).toNatClampNeg) + (m (38 + 6 * (((m 36 1) - 1).toNatClampNeg)) 3).toNatClampNeg) 3 (f_Pattern_describe_u3 m o f x y (42 + 6 * (((m 36 1) - 1).toNatClampNeg) + (m (38 + 6 * (((m 36 1) - 1).toNatClampNeg)) 3).toNatClampNeg))) (38 + 6 * (((m 36 1) - 1).toNatClampNeg)) 3) + 1)) Q
                    refine ez_blk 4 rfl ?_
                    show ez xs 107 88 [some (.ref 0), some (.int o), some (.int f), some (.int x), some (.int y)] [.int 1] (jj_up (jj_up (jj_up (jj_up (jj_up (jj_up m (42 + 6 * (((m 36 1) - 1).toNatClampNeg) + (m (38 + 6 * (((m 36 1) - 1).toNatClampNeg)) 3).toNatClampNeg) 0 o) (42 + 6 * (((m 36 1) - 1).toNatClampNeg) + (m (38 + 6 * (((m 36 1) - 1).toNatClampNeg)) 3).toNatClampNeg) 1 (f_Pattern_describe_u1 m o f x y (42 + 6 * (((m 36 1) - 1).toNatClampNeg) + (m (38 + 6 * (((m 36 1) - 1).toNatClampNeg)) 3).toNatClampNeg))) (42 + 6 * (((m 36 1) - 1).toNatClampNeg) + (m (38 + 6 * (((m 36 1) - 1).toNatClampNeg)) 3).toNatClampNeg) 2 (f_Pattern_describe_u2 m o f x y (42 + 6 * (((m 36 1) - 1).toNatClampNeg) + (m (38 + 6 * (((m 36 1) - 1).toNatClampNeg)) 3).toNatClampNeg))) (42 + 6 * (((m 36 1) - 1).toNatClampNeg) + (m (38 + 6 * (((m 36 1) - 1).toNatClampNeg)) 3).toNatClampNeg) 3 (f_Pattern_describe_u3 m o f x y (42 + 6 * (((m 36 1) - 1).toNatClampNeg) + (m (38 + 6 * (((m 36 1) - 1).toNatClampNeg)) 3).toNatClampNeg))) (38 + 6 * (((m 36 1) - 1).toNatClampNeg)) 3 (((jj_up (jj_up (jj_up (jj_up m (42 + 6 * (((m 36 1) - 1).toNatClampNeg) + (m (38 + 6 * (((m 36 1) - 1).toNatClampNeg)) 3).toNatClampNeg) 0 o) (42 + 6 * (((m 36 1) - 1).toNatClampNeg) + (m (38 + 6 * (((m 36 1) - 1).toNatClampNeg)) 3).toNatClampNeg) 1 (f_Pattern_describe_u1 m o f x y (42 + 6 * (((m 36 1) - 1).toNatClampNeg) + (m (38 + 6 * (((m 36 1) - 1).toNatClampNeg)) 3).toNatClampNeg))) (42 + 6 * (((m 36 1) - 1).toNatClampNeg) + (m (38 + 6 * (((m 36 1) - 1).toNatClampNeg)) 3).toNatClampNeg) 2 (f_Pattern_describe_u2 m o f x y (42 + 6 * (((m 36 1) - 1).toNatClampNeg) + (m (38 + 6 * (((m 36 1) - 1).toNatClampNeg)) 3).toNatClampNeg))) (42 + 6 * (((m 36 1) - 1).toNatClampNeg) + (m (38 + 6 * (((m 36 1) - 1).toNatClampNeg)) 3).toNatClampNeg) 3 (f_Pattern_describe_u3 m o f x y (42 + 6 * (((m 36 1) - 1).toNatClampNeg) + (m (38 + 6 * (((m 36 1) - 1).toNatClampNeg)) 3).toNatClampNeg))) (38 + 6 * (((m 36 1) - 1).toNatClampNeg)) 3) + 1)) 0 8 0) Q
                    exact ez_ret rfl (by decide) rfl (g8 h1 h6 h9 h11 h12 h13 h14 h18 h24)
              · show ez xs 107 65 [some (.ref 0), some (.int o), some (.int f), some (.int x), some (.int y)] [] m Q
                refine ez_blk 1 rfl ?_
                show ez xs 107 66 [some (.ref 0), some (.int o), some (.int f), some (.int x), some (.int y)] [.int 0] m Q
                exact ez_ret rfl (by decide) rfl (g9 h1 h6 h9 h11 h12 h13 h14)
        · show ez xs 107 33 [some (.ref 0), some (.int o), some (.int f), some (.int x), some (.int y)] [] m Q
          refine ez_blk 1 rfl ?_
          show ez xs 107 34 [some (.ref 0), some (.int o), some (.int f), some (.int x), some (.int y)] [.int 0] m Q
          exact ez_ret rfl (by decide) rfl (g10 h1 h6 h9 h11)
      · show ez xs 107 27 [some (.ref 0), some (.int o), some (.int f), some (.int x), some (.int y)] [.ref (38 + 6 * ((m 36 1) - 1).toNatClampNeg)] m Q
        refine ez_calls (i := 38 + 6 * ((m 36 1) - 1).toNatClampNeg) (as2 := []) (rest := []) rfl (by decide) rfl rfl rfl (z_iti (vp_lt (b4 h1 h6 h10))) (z_its (vp_lt (b4 h1 h6 h10))) rfl ?_
        refine d_Item_takesNew (k_e := (vp_lt (b4 h1 h6 h10))) ?_
        show ez xs 107 30 [some (.ref 0), some (.int o), some (.int f), some (.int x), some (.int y)] [.int (f_Item_takesNew m (((m 36 1) - 1).toNatClampNeg))] m Q
        refine ez_if_ne rfl (fun h25 => ?_) (fun h25 => ?_)
        · show ez xs 107 35 [some (.ref 0), some (.int o), some (.int f), some (.int x), some (.int y)] [] m Q
          refine ez_blk 2 rfl ?_
          show ez xs 107 37 [some (.ref 0), some (.int o), some (.int f), some (.int x), some (.int y)] [.int 3, .int o] m Q
          refine ez_icmp_eq rfl (fun h26 => ?_) (fun h26 => ?_)
          · show ez xs 107 65 [some (.ref 0), some (.int o), some (.int f), some (.int x), some (.int y)] [] m Q
            refine ez_blk 1 rfl ?_
            show ez xs 107 66 [some (.ref 0), some (.int o), some (.int f), some (.int x), some (.int y)] [.int 0] m Q
            exact ez_ret rfl (by decide) rfl (g11 h1 h6 h10 h25 h26)
          · show ez xs 107 40 [some (.ref 0), some (.int o), some (.int f), some (.int x), some (.int y)] [] m Q
            refine ez_blk 4 rfl ?_
            show ez xs 107 45 [some (.ref 0), some (.int o), some (.int f), some (.int x), some (.int y)] [.int y, .int x, .int f, .int o] m Q
            refine ez_call (as := [.int o, .int f, .int x, .int y]) (rest := []) rfl (by decide) rfl ?_
            refine d_Pattern_isSound ?_
            show ez xs 107 48 [some (.ref 0), some (.int o), some (.int f), some (.int x), some (.int y)] [.int (f_Pattern_isSound m o f x y)] m Q
            refine ez_if_eq rfl (fun h27 => ?_) (fun h27 => ?_)
            · show ez xs 107 65 [some (.ref 0), some (.int o), some (.int f), some (.int x), some (.int y)] [] m Q
              refine ez_blk 1 rfl ?_
              show ez xs 107 66 [some (.ref 0), some (.int o), some (.int f), some (.int x), some (.int y)] [.int 0] m Q
              exact ez_ret rfl (by decide) rfl (g12 h1 h6 h10 h25 h26 h27)
            · show ez xs 107 51 [some (.ref 0), some (.int o), some (.int f), some (.int x), some (.int y)] [] m Q
              refine ez_blk 5 rfl ?_
              show ez xs 107 59 [some (.ref 0), some (.int o), some (.int f), some (.int x), some (.int y)] [.int y, .int x, .int o, .ref 36] m Q
              refine ez_call (as := [.ref 36, .int o, .int x, .int y]) (rest := []) rfl (by decide) rfl ?_
              refine d_Script_knowsUnknowns ?_
              show ez xs 107 62 [some (.ref 0), some (.int o), some (.int f), some (.int x), some (.int y)] [.int (f_Script_knowsUnknowns m o x y)] m Q
              refine ez_if_ne rfl (fun h28 => ?_) (fun h28 => ?_)
              · show ez xs 107 67 [some (.ref 0), some (.int o), some (.int f), some (.int x), some (.int y)] [] m Q
                refine ez_blk 2 rfl ?_
                show ez xs 107 71 [some (.ref 0), some (.int o), some (.int f), some (.int x), some (.int y)] [.ref 36] m Q
                refine ez_call (as := [.ref 36]) (rest := []) rfl (by decide) rfl ?_
                refine c_Script_last (fun h29 => b9 h1 h6 h10 h25 h26 h27 h28 h29) (fun h30 => b10 h1 h6 h10 h25 h26 h27 h28 h30) (fun h31 => ?_) (fun h32 => ?_)
                · show ez xs 107 74 [some (.ref 0), some (.int o), some (.int f), some (.int x), some (.int y)] [.ref (38 + 6 * (0 : Int32).toNatClampNeg)] m Q
                  refine ez_blk 4 rfl ?_
                  show ez xs 107 79 [some (.ref 0), some (.int o), some (.int f), some (.int x), some (.int y)] [.int y, .int x, .int f, .int o, .ref (38 + 6 * (0 : Int32).toNatClampNeg)] m Q
                  refine ez_calls (i := 38 + 6 * (0 : Int32).toNatClampNeg) (as2 := [.int o, .int f, .int x, .int y]) (rest := []) rfl (by decide) rfl rfl rfl (z_iti (vp_lt (b9 h1 h6 h10 h25 h26 h27 h28 h31))) (z_its (vp_lt (b9 h1 h6 h10 h25 h26 h27 h28 h31))) rfl ?_
                  refine c_Item_append (k_e := (vp_lt (b9 h1 h6 h10 h25 h26 h27 h28 h31))) (fun h33 => b11 h1 h6 h10 h25 h26 h27 h28 h31 h33) (fun h34 => ?_) (fun h35 => ?_)
                  · show ez xs 107 82 [some (.ref 0), some (.int o), some (.int f), some (.int x), some (.int y)] [] m Q
                    refine ez_blk 4 rfl ?_
                    show ez xs 107 88 [some (.ref 0), some (.int o), some (.int f), some (.int x), some (.int y)] [.int 1] (jj_up m 0 8 0) Q
                    exact ez_ret rfl (by decide) rfl (g13 h1 h6 h10 h25 h26 h27 h28 h31 h34)
                  · show ez xs 107 82 [some (.ref 0), some (.int o), some (.int f), some (.int x), some (.int y)] [] (jj_up (jj_up (jj_up (jj_up (jj_up m (42 + 6 * ((0 : Int32).toNatClampNeg) + (m (38 + 6 * ((0 : Int32).toNatClampNeg)) 3).toNatClampNeg) 0 o) (42 + 6 * ((0 : Int32).toNatClampNeg) + (m (38 + 6 * ((0 : Int32).toNatClampNeg)) 3).toNatClampNeg) 1 (f_Pattern_describe_u1 m o f x y (42 + 6 * ((0 : Int32).toNatClampNeg) + (m (38 + 6 * ((0 : Int32).toNatClampNeg)) 3).toNatClampNeg))) (42 + 6 * ((0 : Int32).toNatClampNeg) + (m (38 + 6 * ((0 : Int32).toNatClampNeg)) 3).toNatClampNeg) 2 (f_Pattern_describe_u2 m o f x y (42 + 6 * ((0 : Int32).toNatClampNeg) + (m (38 + 6 * ((0 : Int32).toNatClampNeg)) 3).toNatClampNeg))) (42 + 6 * ((0 : Int32).toNatClampNeg) + (m (38 + 6 * ((0 : Int32).toNatClampNeg)) 3).toNatClampNeg) 3 (f_Pattern_describe_u3 m o f x y (42 + 6 * ((0 : Int32).toNatClampNeg) + (m (38 + 6 * ((0 : Int32).toNatClampNeg)) 3).toNatClampNeg))) (38 + 6 * ((0 : Int32).toNatClampNeg)) 3 (((jj_up (jj_up (jj_up (jj_up m (42 + 6 * ((0 : Int32).toNatClampNeg) + (m (38 + 6 * ((0 : Int32).toNatClampNeg)) 3).toNatClampNeg) 0 o) (42 + 6 * ((0 : Int32).toNatClampNeg) + (m (38 + 6 * ((0 : Int32).toNatClampNeg)) 3).toNatClampNeg) 1 (f_Pattern_describe_u1 m o f x y (42 + 6 * ((0 : Int32).toNatClampNeg) + (m (38 + 6 * ((0 : Int32).toNatClampNeg)) 3).toNatClampNeg))) (42 + 6 * ((0 : Int32).toNatClampNeg) + (m (38 + 6 * ((0 : Int32).toNatClampNeg)) 3).toNatClampNeg) 2 (f_Pattern_describe_u2 m o f x y (42 + 6 * ((0 : Int32).toNatClampNeg) + (m (38 + 6 * ((0 : Int32).toNatClampNeg)) 3).toNatClampNeg))) (42 + 6 * ((0 : Int32).toNatClampNeg) + (m (38 + 6 * ((0 : Int32).toNatClampNeg)) 3).toNatClampNeg) 3 (f_Pattern_describe_u3 m o f x y (42 + 6 * ((0 : Int32).toNatClampNeg) + (m (38 + 6 * ((0 : Int32).toNatClampNeg)) 3).toNatClampNeg))) (38 + 6 * ((0 : Int32).toNatClampNeg)) 3) + 1)) Q
                    refine ez_blk 4 rfl ?_
                    show ez xs 107 88 [some (.ref 0), some (.int o), some (.int f), some (.int x), some (.int y)] [.int 1] (jj_up (jj_up (jj_up (jj_up (jj_up (jj_up m (42 + 6 * ((0 : Int32).toNatClampNeg) + (m (38 + 6 * ((0 : Int32).toNatClampNeg)) 3).toNatClampNeg) 0 o) (42 + 6 * ((0 : Int32).toNatClampNeg) + (m (38 + 6 * ((0 : Int32).toNatClampNeg)) 3).toNatClampNeg) 1 (f_Pattern_describe_u1 m o f x y (42 + 6 * ((0 : Int32).toNatClampNeg) + (m (38 + 6 * ((0 : Int32).toNatClampNeg)) 3).toNatClampNeg))) (42 + 6 * ((0 : Int32).toNatClampNeg) + (m (38 + 6 * ((0 : Int32).toNatClampNeg)) 3).toNatClampNeg) 2 (f_Pattern_describe_u2 m o f x y (42 + 6 * ((0 : Int32).toNatClampNeg) + (m (38 + 6 * ((0 : Int32).toNatClampNeg)) 3).toNatClampNeg))) (42 + 6 * ((0 : Int32).toNatClampNeg) + (m (38 + 6 * ((0 : Int32).toNatClampNeg)) 3).toNatClampNeg) 3 (f_Pattern_describe_u3 m o f x y (42 + 6 * ((0 : Int32).toNatClampNeg) + (m (38 + 6 * ((0 : Int32).toNatClampNeg)) 3).toNatClampNeg))) (38 + 6 * ((0 : Int32).toNatClampNeg)) 3 (((jj_up (jj_up (jj_up (jj_up m (42 + 6 * ((0 : Int32).toNatClampNeg) + (m (38 + 6 * ((0 : Int32).toNatClampNeg)) 3).toNatClampNeg) 0 o) (42 + 6 * ((0 : Int32).toNatClampNeg) + (m (38 + 6 * ((0 : Int32).toNatClampNeg)) 3).toNatClampNeg) 1 (f_Pattern_describe_u1 m o f x y (42 + 6 * ((0 : Int32).toNatClampNeg) + (m (38 + 6 * ((0 : Int32).toNatClampNeg)) 3).toNatClampNeg))) (42 + 6 * ((0 : Int32).toNatClampNeg) + (m (38 + 6 * ((0 : Int32).toNatClampNeg)) 3).toNatClampNeg) 2 (f_Pattern_describe_u2 m o f x y (42 + 6 * ((0 : Int32).toNatClampNeg) + (m (38 + 6 * ((0 : Int32).toNatClampNeg)) 3).toNatClampNeg))) (42 + 6 * ((0 : Int32).toNatClampNeg) + (m (38 + 6 * ((0 : Int32).toNatClampNeg)) 3).toNatClampNeg) 3 (f_Pattern_describe_u3 m o f x y (42 + 6 * ((0 : Int32).toNatClampNeg) + (m (38 + 6 * ((0 : Int32).toNatClampNeg)) 3).toNatClampNeg))) (38 + 6 * ((0 : Int32).toNatClampNeg)) 3) + 1)) 0 8 0) Q
                    exact ez_ret rfl (by decide) rfl (g14 h1 h6 h10 h25 h26 h27 h28 h31 h35)
                · show ez xs 107 74 [some (.ref 0), some (.int o), some (.int f), some (.int x), some (.int y)] [.ref (38 + 6 * ((m 36 1) - 1).toNatClampNeg)] m Q
                  refine ez_blk 4 rfl ?_
                  show ez xs 107 79 [some (.ref 0), some (.int o), some (.int f), some (.int x), some (.int y)] [.int y, .int x, .int f, .int o, .ref (38 + 6 * ((m 36 1) - 1).toNatClampNeg)] m Q
                  refine ez_calls (i := 38 + 6 * ((m 36 1) - 1).toNatClampNeg) (as2 := [.int o, .int f, .int x, .int y]) (rest := []) rfl (by decide) rfl rfl rfl (z_iti (vp_lt (b10 h1 h6 h10 h25 h26 h27 h28 h32))) (z_its (vp_lt (b10 h1 h6 h10 h25 h26 h27 h28 h32))) rfl ?_
                  refine c_Item_append (k_e := (vp_lt (b10 h1 h6 h10 h25 h26 h27 h28 h32))) (fun h36 => b12 h1 h6 h10 h25 h26 h27 h28 h32 h36) (fun h37 => ?_) (fun h38 => ?_)
                  · show ez xs 107 82 [some (.ref 0), some (.int o), some (.int f), some (.int x), some (.int y)] [] m Q
                    refine ez_blk 4 rfl ?_
                    show ez xs 107 88 [some (.ref 0), some (.int o), some (.int f), some (.int x), some (.int y)] [.int 1] (jj_up m 0 8 0) Q
                    exact ez_ret rfl (by decide) rfl (g15 h1 h6 h10 h25 h26 h27 h28 h32 h37)
                  · show ez xs 107 82 [some (.ref 0), some (.int o), some (.int f), some (.int x), some (.int y)] [] (jj_up (jj_up (jj_up (jj_up (jj_up m (42 + 6 * (((m 36 1) - 1).toNatClampNeg) + (m (38 + 6 * (((m 36 1) - 1).toNatClampNeg)) 3).toNatClampNeg) 0 o) (42 + 6 * (((m 36 1) - 1).toNatClampNeg) + (m (38 + 6 * (((m 36 1) - 1).toNatClampNeg)) 3).toNatClampNeg) 1 (f_Pattern_describe_u1 m o f x y (42 + 6 * (((m 36 1) - 1).toNatClampNeg) + (m (38 + 6 * (((m 36 1) - 1).toNatClampNeg)) 3).toNatClampNeg))) (42 + 6 * (((m 36 1) - 1).toNatClampNeg) + (m (38 + 6 * (((m 36 1) - 1).toNatClampNeg)) 3).toNatClampNeg) 2 (f_Pattern_describe_u2 m o f x y (42 + 6 * (((m 36 1) - 1).toNatClampNeg) + (m (38 + 6 * (((m 36 1) - 1).toNatClampNeg)) 3).toNatClampNeg))) (42 + 6 * (((m 36 1) - 1).toNatClampNeg) + (m (38 + 6 * (((m 36 1) - 1).toNatClampNeg)) 3).toNatClampNeg) 3 (f_Pattern_describe_u3 m o f x y (42 + 6 * (((m 36 1) - 1).toNatClampNeg) + (m (38 + 6 * (((m 36 1) - 1).toNatClampNeg)) 3).toNatClampNeg))) (38 + 6 * (((m 36 1) - 1).toNatClampNeg)) 3 (((jj_up (jj_up (jj_up (jj_up m (42 + 6 * (((m 36 1) - 1).toNatClampNeg) + (m (38 + 6 * (((m 36 1) - 1).toNatClampNeg)) 3).toNatClampNeg) 0 o) (42 + 6 * (((m 36 1) - 1).toNatClampNeg) + (m (38 + 6 * (((m 36 1) - 1).toNatClampNeg)) 3).toNatClampNeg) 1 (f_Pattern_describe_u1 m o f x y (42 + 6 * (((m 36 1) - 1).toNatClampNeg) + (m (38 + 6 * (((m 36 1) - 1).toNatClampNeg)) 3).toNatClampNeg))) (42 + 6 * (((m 36 1) - 1).toNatClampNeg) + (m (38 + 6 * (((m 36 1) - 1).toNatClampNeg)) 3).toNatClampNeg) 2 (f_Pattern_describe_u2 m o f x y (42 + 6 * (((m 36 1) - 1).toNatClampNeg) + (m (38 + 6 * (((m 36 1) - 1).toNatClampNeg)) 3).toNatClampNeg))) (42 + 6 * (((m 36 1) - 1).toNatClampNeg) + (m (38 + 6 * (((m 36 1) - 1).toNatClampNeg)) 3).toNatClampNeg) 3 (f_Pattern_describe_u3 m o f x y (42 + 6 * (((m 36 1) - 1).toNatClampNeg) + (m (38 + 6 * (((m 36 1) - 1).toNatClampNeg)) 3).toNatClampNeg))) (38 + 6 * (((m 36 1) - 1).toNatClampNeg)) 3) + 1)) Q
                    refine ez_blk 4 rfl ?_
                    show ez xs 107 88 [some (.ref 0), some (.int o), some (.int f), some (.int x), some (.int y)] [.int 1] (jj_up (jj_up (jj_up (jj_up (jj_up (jj_up m (42 + 6 * (((m 36 1) - 1).toNatClampNeg) + (m (38 + 6 * (((m 36 1) - 1).toNatClampNeg)) 3).toNatClampNeg) 0 o) (42 + 6 * (((m 36 1) - 1).toNatClampNeg) + (m (38 + 6 * (((m 36 1) - 1).toNatClampNeg)) 3).toNatClampNeg) 1 (f_Pattern_describe_u1 m o f x y (42 + 6 * (((m 36 1) - 1).toNatClampNeg) + (m (38 + 6 * (((m 36 1) - 1).toNatClampNeg)) 3).toNatClampNeg))) (42 + 6 * (((m 36 1) - 1).toNatClampNeg) + (m (38 + 6 * (((m 36 1) - 1).toNatClampNeg)) 3).toNatClampNeg) 2 (f_Pattern_describe_u2 m o f x y (42 + 6 * (((m 36 1) - 1).toNatClampNeg) + (m (38 + 6 * (((m 36 1) - 1).toNatClampNeg)) 3).toNatClampNeg))) (42 + 6 * (((m 36 1) - 1).toNatClampNeg) + (m (38 + 6 * (((m 36 1) - 1).toNatClampNeg)) 3).toNatClampNeg) 3 (f_Pattern_describe_u3 m o f x y (42 + 6 * (((m 36 1) - 1).toNatClampNeg) + (m (38 + 6 * (((m 36 1) - 1).toNatClampNeg)) 3).toNatClampNeg))) (38 + 6 * (((m 36 1) - 1).toNatClampNeg)) 3 (((jj_up (jj_up (jj_up (jj_up m (42 + 6 * (((m 36 1) - 1).toNatClampNeg) + (m (38 + 6 * (((m 36 1) - 1).toNatClampNeg)) 3).toNatClampNeg) 0 o) (42 + 6 * (((m 36 1) - 1).toNatClampNeg) + (m (38 + 6 * (((m 36 1) - 1).toNatClampNeg)) 3).toNatClampNeg) 1 (f_Pattern_describe_u1 m o f x y (42 + 6 * (((m 36 1) - 1).toNatClampNeg) + (m (38 + 6 * (((m 36 1) - 1).toNatClampNeg)) 3).toNatClampNeg))) (42 + 6 * (((m 36 1) - 1).toNatClampNeg) + (m (38 + 6 * (((m 36 1) - 1).toNatClampNeg)) 3).toNatClampNeg) 2 (f_Pattern_describe_u2 m o f x y (42 + 6 * (((m 36 1) - 1).toNatClampNeg) + (m (38 + 6 * (((m 36 1) - 1).toNatClampNeg)) 3).toNatClampNeg))) (42 + 6 * (((m 36 1) - 1).toNatClampNeg) + (m (38 + 6 * (((m 36 1) - 1).toNatClampNeg)) 3).toNatClampNeg) 3 (f_Pattern_describe_u3 m o f x y (42 + 6 * (((m 36 1) - 1).toNatClampNeg) + (m (38 + 6 * (((m 36 1) - 1).toNatClampNeg)) 3).toNatClampNeg))) (38 + 6 * (((m 36 1) - 1).toNatClampNeg)) 3) + 1)) 0 8 0) Q
                    exact ez_ret rfl (by decide) rfl (g16 h1 h6 h10 h25 h26 h27 h28 h32 h38)
              · show ez xs 107 65 [some (.ref 0), some (.int o), some (.int f), some (.int x), some (.int y)] [] m Q
                refine ez_blk 1 rfl ?_
                show ez xs 107 66 [some (.ref 0), some (.int o), some (.int f), some (.int x), some (.int y)] [.int 0] m Q
                exact ez_ret rfl (by decide) rfl (g17 h1 h6 h10 h25 h26 h27 h28)
        · show ez xs 107 33 [some (.ref 0), some (.int o), some (.int f), some (.int x), some (.int y)] [] m Q
          refine ez_blk 1 rfl ?_
          show ez xs 107 34 [some (.ref 0), some (.int o), some (.int f), some (.int x), some (.int y)] [.int 0] m Q
          exact ez_ret rfl (by decide) rfl (g18 h1 h6 h10 h25)
set_option maxRecDepth 100000 in
set_option maxHeartbeats 2000000 in
theorem c_Parser_openRow {xs : jx_Xs} {m : zM} {Q : Option Value → zM → Prop} {o s : Int32}
    (b1 : (¬ ((m 29 6) + 0) < 0) → (¬ m 30 2 ≤ ((m 29 6) + 0)) → vp_in ((m 29 6) + 0) 160)
    (b2 : (¬ ((m 29 6) + 0) < 0) → (¬ m 30 2 ≤ ((m 29 6) + 0)) → vp_nar .char (m 31 ((m 29 6) + 0).toNatClampNeg) = m 31 ((m 29 6) + 0).toNatClampNeg)
    (b3 : vp_nar .char (f_Tokens_sign m ((m 29 6) + 0)) = f_Tokens_sign m ((m 29 6) + 0))
    (b4 : (f_Tokens_sign m ((m 29 6) + 0) = 123) → (m 29 5 < 6) → vp_in ((m 29 5) + 1) 7)
    (b5 : (f_Tokens_sign m ((m 29 6) + 0) = 123) → (m 29 5 < 6) → vp_in ((m 29 5) + 1) 7)
    (b6 : (f_Tokens_sign m ((m 29 6) + 0) = 123) → (m 29 5 < 6) → vp_in ((m 29 5) + 1) 7)
    (g1 : (¬ f_Tokens_sign m ((m 29 6) + 0) = 123) → Q (some (.int 0)) m)
    (g2 : (f_Tokens_sign m ((m 29 6) + 0) = 123) → (m 29 5 < 6) → Q (some (.int 1)) (jj_up (jj_up (jj_up (jj_up (jj_up m 29 6 ((m 29 6) + 1)) 29 5 ((m 29 5) + 1)) 33 (((m 29 5) + 1).toNatClampNeg) o) 34 (((m 29 5) + 1).toNatClampNeg) s) 35 (((m 29 5) + 1).toNatClampNeg) (-1)))
    (g3 : (f_Tokens_sign m ((m 29 6) + 0) = 123) → (¬ m 29 5 < 6) → Q (some (.int 0)) m) : ez xs 34 0 (jx_ent 34 [.ref 29, .int o, .int s]) [] m Q := by
  refine ez_blk 2 rfl ?_
  show ez xs 34 2 [some (.ref 29), some (.int o), some (.int s)] [.int 0, .ref 29] m Q
  refine ez_call (as := [.ref 29, .int 0]) (rest := []) rfl (by decide) rfl ?_
  refine c_Parser_ahead (fun h1 h2 => b1 h1 h2) (fun h3 h4 => b2 h3 h4) (b3) ?_
  show ez xs 34 5 [some (.ref 29), some (.int o), some (.int s)] [.int (f_Tokens_sign m ((m 29 6) + 0))] m Q
  refine ez_blk 1 rfl ?_
  show ez xs 34 7 [some (.ref 29), some (.int o), some (.int s)] [.int 123, .int (f_Tokens_sign m ((m 29 6) + 0))] m Q
  refine ez_icmp_ne rfl (fun h5 => ?_) (fun h5 => ?_)
  · show ez xs 34 19 [some (.ref 29), some (.int o), some (.int s)] [] m Q
    refine ez_blk 1 rfl ?_
    show ez xs 34 20 [some (.ref 29), some (.int o), some (.int s)] [.int 0] m Q
    exact ez_ret rfl (by decide) rfl (g1 h5)
  · show ez xs 34 10 [some (.ref 29), some (.int o), some (.int s)] [] m Q
    refine ez_blk 3 rfl ?_
    show ez xs 34 16 [some (.ref 29), some (.int o), some (.int s)] [.int 6, .int (m 29 5)] m Q
    refine ez_icmp_lt rfl (fun h6 => ?_) (fun h6 => ?_)
    · show ez xs 34 21 [some (.ref 29), some (.int o), some (.int s)] [] m Q
      refine ez_blk 17 rfl ?_
      show ez xs 34 50 [some (.ref 29), some (.int o), some (.int s)] [.int o, .int ((m 29 5) + 1), .ref 33] (jj_up (jj_up m 29 6 ((m 29 6) + 1)) 29 5 ((m 29 5) + 1)) Q
      refine ez_iastv rfl (by decide) rfl (b4 h5 h6) ?_
      show ez xs 34 51 [some (.ref 29), some (.int o), some (.int s)] [] (jj_up (jj_up (jj_up m 29 6 ((m 29 6) + 1)) 29 5 ((m 29 5) + 1)) 33 (((m 29 5) + 1).toNatClampNeg) o) Q
      refine ez_blk 5 rfl ?_
      show ez xs 34 60 [some (.ref 29), some (.int o), some (.int s)] [.int s, .int ((m 29 5) + 1), .ref 34] (jj_up (jj_up (jj_up m 29 6 ((m 29 6) + 1)) 29 5 ((m 29 5) + 1)) 33 (((m 29 5) + 1).toNatClampNeg) o) Q
      refine ez_iastv rfl (by decide) rfl (b5 h5 h6) ?_
      show ez xs 34 61 [some (.ref 29), some (.int o), some (.int s)] [] (jj_up (jj_up (jj_up (jj_up m 29 6 ((m 29 6) + 1)) 29 5 ((m 29 5) + 1)) 33 (((m 29 5) + 1).toNatClampNeg) o) 34 (((m 29 5) + 1).toNatClampNeg) s) Q
      refine ez_blk 5 rfl ?_
      show ez xs 34 70 [some (.ref 29), some (.int o), some (.int s)] [.int (-1), .int ((m 29 5) + 1), .ref 35] (jj_up (jj_up (jj_up (jj_up m 29 6 ((m 29 6) + 1)) 29 5 ((m 29 5) + 1)) 33 (((m 29 5) + 1).toNatClampNeg) o) 34 (((m 29 5) + 1).toNatClampNeg) s) Q
      refine ez_iastv rfl (by decide) rfl (b6 h5 h6) ?_
      show ez xs 34 71 [some (.ref 29), some (.int o), some (.int s)] [] (jj_up (jj_up (jj_up (jj_up (jj_up m 29 6 ((m 29 6) + 1)) 29 5 ((m 29 5) + 1)) 33 (((m 29 5) + 1).toNatClampNeg) o) 34 (((m 29 5) + 1).toNatClampNeg) s) 35 (((m 29 5) + 1).toNatClampNeg) (-1)) Q
      refine ez_blk 1 rfl ?_
      show ez xs 34 72 [some (.ref 29), some (.int o), some (.int s)] [.int 1] (jj_up (jj_up (jj_up (jj_up (jj_up m 29 6 ((m 29 6) + 1)) 29 5 ((m 29 5) + 1)) 33 (((m 29 5) + 1).toNatClampNeg) o) 34 (((m 29 5) + 1).toNatClampNeg) s) 35 (((m 29 5) + 1).toNatClampNeg) (-1)) Q
      exact ez_ret rfl (by decide) rfl (g2 h5 h6)
    · show ez xs 34 19 [some (.ref 29), some (.int o), some (.int s)] [] m Q
      refine ez_blk 1 rfl ?_
      show ez xs 34 20 [some (.ref 29), some (.int o), some (.int s)] [.int 0] m Q
      exact ez_ret rfl (by decide) rfl (g3 h5 h6)
set_option maxRecDepth 100000 in
set_option maxHeartbeats 2000000 in
theorem c_Parser_closeRow {xs : jx_Xs} {m : zM} {Q : Option Value → zM → Prop}
    (b1 : (0 < m 29 5) → vp_in (m 29 5) 7)
    (b2 : (0 < m 29 5) → vp_in (m 29 5) 7)
    (b3 : (0 < m 29 5) → (m 34 (m 29 5).toNatClampNeg = 0) → ((m 33 (m 29 5).toNatClampNeg) < 0) → vp_in 0 24)
    (b4 : (0 < m 29 5) → (m 34 (m 29 5).toNatClampNeg = 0) → (¬ (m 33 (m 29 5).toNatClampNeg) < 0) → (m 3 1 ≤ (m 33 (m 29 5).toNatClampNeg)) → vp_in 0 24)
    (b5 : (0 < m 29 5) → (m 34 (m 29 5).toNatClampNeg = 0) → (¬ (m 33 (m 29 5).toNatClampNeg) < 0) → (¬ m 3 1 ≤ (m 33 (m 29 5).toNatClampNeg)) → vp_in (m 33 (m 29 5).toNatClampNeg) 24)
    (b6 : (0 < m 29 5) → (m 34 (m 29 5).toNatClampNeg = 0) → ((m 33 (m 29 5).toNatClampNeg) < 0) → (m (5 + (0 : Int32).toNatClampNeg) 4 = 0) → (¬ (((jj_up (jj_up m 29 6 ((m 29 6) + 1)) 29 5 ((m 29 5) - 1)) 29 6) + 0) < 0) → (¬ (jj_up (jj_up m 29 6 ((m 29 6) + 1)) 29 5 ((m 29 5) - 1)) 30 2 ≤ (((jj_up (jj_up m 29 6 ((m 29 6) + 1)) 29 5 ((m 29 5) - 1)) 29 6) + 0)) → vp_in (((jj_up (jj_up m 29 6 ((m 29 6) + 1)) 29 5 ((m 29 5) - 1)) 29 6) + 0) 160)
    (b7 : (0 < m 29 5) → (m 34 (m 29 5).toNatClampNeg = 0) → ((m 33 (m 29 5).toNatClampNeg) < 0) → (m (5 + (0 : Int32).toNatClampNeg) 4 = 0) → (¬ (((jj_up (jj_up m 29 6 ((m 29 6) + 1)) 29 5 ((m 29 5) - 1)) 29 6) + 0) < 0) → (¬ (jj_up (jj_up m 29 6 ((m 29 6) + 1)) 29 5 ((m 29 5) - 1)) 30 2 ≤ (((jj_up (jj_up m 29 6 ((m 29 6) + 1)) 29 5 ((m 29 5) - 1)) 29 6) + 0)) → vp_nar .char ((jj_up (jj_up m 29 6 ((m 29 6) + 1)) 29 5 ((m 29 5) - 1)) 31 (((jj_up (jj_up m 29 6 ((m 29 6) + 1)) 29 5 ((m 29 5) - 1)) 29 6) + 0).toNatClampNeg) = (jj_up (jj_up m 29 6 ((m 29 6) + 1)) 29 5 ((m 29 5) - 1)) 31 (((jj_up (jj_up m 29 6 ((m 29 6) + 1)) 29 5 ((m 29 5) - 1)) 29 6) + 0).toNatClampNeg)
    (b8 : (0 < m 29 5) → (m 34 (m 29 5).toNatClampNeg = 0) → ((m 33 (m 29 5).toNatClampNeg) < 0) → (m (5 + (0 : Int32).toNatClampNeg) 4 = 0) → vp_nar .char (f_Tokens_sign (jj_up (jj_up m 29 6 ((m 29 6) + 1)) 29 5 ((m 29 5) - 1)) (((jj_up (jj_up m 29 6 ((m 29 6) + 1)) 29 5 ((m 29 5) - 1)) 29 6) + 0)) = f_Tokens_sign (jj_up (jj_up m 29 6 ((m 29 6) + 1)) 29 5 ((m 29 5) - 1)) (((jj_up (jj_up m 29 6 ((m 29 6) + 1)) 29 5 ((m 29 5) - 1)) 29 6) + 0))
    (b9 : (0 < m 29 5) → (m 34 (m 29 5).toNatClampNeg = 0) → ((m 33 (m 29 5).toNatClampNeg) < 0) → (m (5 + (0 : Int32).toNatClampNeg) 4 = 0) → (f_Tokens_sign (jj_up (jj_up m 29 6 ((m 29 6) + 1)) 29 5 ((m 29 5) - 1)) (((jj_up (jj_up m 29 6 ((m 29 6) + 1)) 29 5 ((m 29 5) - 1)) 29 6) + 0) = 58) → (¬ (((jj_up (jj_up (jj_up m 29 6 ((m 29 6) + 1)) 29 5 ((m 29 5) - 1)) 29 6 (((m 29 6) + 1) + 1)) 29 6) + 0) < 0) → (¬ (jj_up (jj_up (jj_up m 29 6 ((m 29 6) + 1)) 29 5 ((m 29 5) - 1)) 29 6 (((m 29 6) + 1) + 1)) 30 2 ≤ (((jj_up (jj_up (jj_up m 29 6 ((m 29 6) + 1)) 29 5 ((m 29 5) - 1)) 29 6 (((m 29 6) + 1) + 1)) 29 6) + 0)) → vp_in (((jj_up (jj_up (jj_up m 29 6 ((m 29 6) + 1)) 29 5 ((m 29 5) - 1)) 29 6 (((m 29 6) + 1) + 1)) 29 6) + 0) 160)
    (b10 : (0 < m 29 5) → (m 34 (m 29 5).toNatClampNeg = 0) → ((m 33 (m 29 5).toNatClampNeg) < 0) → (m (5 + (0 : Int32).toNatClampNeg) 4 = 0) → (f_Tokens_sign (jj_up (jj_up m 29 6 ((m 29 6) + 1)) 29 5 ((m 29 5) - 1)) (((jj_up (jj_up m 29 6 ((m 29 6) + 1)) 29 5 ((m 29 5) - 1)) 29 6) + 0) = 58) → (¬ (((jj_up (jj_up (jj_up m 29 6 ((m 29 6) + 1)) 29 5 ((m 29 5) - 1)) 29 6 (((m 29 6) + 1) + 1)) 29 6) + 0) < 0) → (¬ (jj_up (jj_up (jj_up m 29 6 ((m 29 6) + 1)) 29 5 ((m 29 5) - 1)) 29 6 (((m 29 6) + 1) + 1)) 30 2 ≤ (((jj_up (jj_up (jj_up m 29 6 ((m 29 6) + 1)) 29 5 ((m 29 5) - 1)) 29 6 (((m 29 6) + 1) + 1)) 29 6) + 0)) → vp_nar .char ((jj_up (jj_up (jj_up m 29 6 ((m 29 6) + 1)) 29 5 ((m 29 5) - 1)) 29 6 (((m 29 6) + 1) + 1)) 31 (((jj_up (jj_up (jj_up m 29 6 ((m 29 6) + 1)) 29 5 ((m 29 5) - 1)) 29 6 (((m 29 6) + 1) + 1)) 29 6) + 0).toNatClampNeg) = (jj_up (jj_up (jj_up m 29 6 ((m 29 6) + 1)) 29 5 ((m 29 5) - 1)) 29 6 (((m 29 6) + 1) + 1)) 31 (((jj_up (jj_up (jj_up m 29 6 ((m 29 6) + 1)) 29 5 ((m 29 5) - 1)) 29 6 (((m 29 6) + 1) + 1)) 29 6) + 0).toNatClampNeg)
    (b11 : (0 < m 29 5) → (m 34 (m 29 5).toNatClampNeg = 0) → ((m 33 (m 29 5).toNatClampNeg) < 0) → (m (5 + (0 : Int32).toNatClampNeg) 4 = 0) → (f_Tokens_sign (jj_up (jj_up m 29 6 ((m 29 6) + 1)) 29 5 ((m 29 5) - 1)) (((jj_up (jj_up m 29 6 ((m 29 6) + 1)) 29 5 ((m 29 5) - 1)) 29 6) + 0) = 58) → vp_nar .char (f_Tokens_sign (jj_up (jj_up (jj_up m 29 6 ((m 29 6) + 1)) 29 5 ((m 29 5) - 1)) 29 6 (((m 29 6) + 1) + 1)) (((jj_up (jj_up (jj_up m 29 6 ((m 29 6) + 1)) 29 5 ((m 29 5) - 1)) 29 6 (((m 29 6) + 1) + 1)) 29 6) + 0)) = f_Tokens_sign (jj_up (jj_up (jj_up m 29 6 ((m 29 6) + 1)) 29 5 ((m 29 5) - 1)) 29 6 (((m 29 6) + 1) + 1)) (((jj_up (jj_up (jj_up m 29 6 ((m 29 6) + 1)) 29 5 ((m 29 5) - 1)) 29 6 (((m 29 6) + 1) + 1)) 29 6) + 0))
    (b12 : (0 < m 29 5) → (m 34 (m 29 5).toNatClampNeg = 0) → ((m 33 (m 29 5).toNatClampNeg) < 0) → (m (5 + (0 : Int32).toNatClampNeg) 4 = 0) → (f_Tokens_sign (jj_up (jj_up m 29 6 ((m 29 6) + 1)) 29 5 ((m 29 5) - 1)) (((jj_up (jj_up m 29 6 ((m 29 6) + 1)) 29 5 ((m 29 5) - 1)) 29 6) + 0) = 58) → (f_Tokens_sign (jj_up (jj_up (jj_up m 29 6 ((m 29 6) + 1)) 29 5 ((m 29 5) - 1)) 29 6 (((m 29 6) + 1) + 1)) (((jj_up (jj_up (jj_up m 29 6 ((m 29 6) + 1)) 29 5 ((m 29 5) - 1)) 29 6 (((m 29 6) + 1) + 1)) 29 6) + 0) = 123) → ((jj_up (jj_up (jj_up m 29 6 ((m 29 6) + 1)) 29 5 ((m 29 5) - 1)) 29 6 (((m 29 6) + 1) + 1)) 29 5 < 6) → vp_in (((jj_up (jj_up (jj_up m 29 6 ((m 29 6) + 1)) 29 5 ((m 29 5) - 1)) 29 6 (((m 29 6) + 1) + 1)) 29 5) + 1) 7)
    (b13 : (0 < m 29 5) → (m 34 (m 29 5).toNatClampNeg = 0) → ((m 33 (m 29 5).toNatClampNeg) < 0) → (m (5 + (0 : Int32).toNatClampNeg) 4 = 0) → (f_Tokens_sign (jj_up (jj_up m 29 6 ((m 29 6) + 1)) 29 5 ((m 29 5) - 1)) (((jj_up (jj_up m 29 6 ((m 29 6) + 1)) 29 5 ((m 29 5) - 1)) 29 6) + 0) = 58) → (f_Tokens_sign (jj_up (jj_up (jj_up m 29 6 ((m 29 6) + 1)) 29 5 ((m 29 5) - 1)) 29 6 (((m 29 6) + 1) + 1)) (((jj_up (jj_up (jj_up m 29 6 ((m 29 6) + 1)) 29 5 ((m 29 5) - 1)) 29 6 (((m 29 6) + 1) + 1)) 29 6) + 0) = 123) → ((jj_up (jj_up (jj_up m 29 6 ((m 29 6) + 1)) 29 5 ((m 29 5) - 1)) 29 6 (((m 29 6) + 1) + 1)) 29 5 < 6) → vp_in (((jj_up (jj_up (jj_up m 29 6 ((m 29 6) + 1)) 29 5 ((m 29 5) - 1)) 29 6 (((m 29 6) + 1) + 1)) 29 5) + 1) 7)
    (b14 : (0 < m 29 5) → (m 34 (m 29 5).toNatClampNeg = 0) → ((m 33 (m 29 5).toNatClampNeg) < 0) → (m (5 + (0 : Int32).toNatClampNeg) 4 = 0) → (f_Tokens_sign (jj_up (jj_up m 29 6 ((m 29 6) + 1)) 29 5 ((m 29 5) - 1)) (((jj_up (jj_up m 29 6 ((m 29 6) + 1)) 29 5 ((m 29 5) - 1)) 29 6) + 0) = 58) → (f_Tokens_sign (jj_up (jj_up (jj_up m 29 6 ((m 29 6) + 1)) 29 5 ((m 29 5) - 1)) 29 6 (((m 29 6) + 1) + 1)) (((jj_up (jj_up (jj_up m 29 6 ((m 29 6) + 1)) 29 5 ((m 29 5) - 1)) 29 6 (((m 29 6) + 1) + 1)) 29 6) + 0) = 123) → ((jj_up (jj_up (jj_up m 29 6 ((m 29 6) + 1)) 29 5 ((m 29 5) - 1)) 29 6 (((m 29 6) + 1) + 1)) 29 5 < 6) → vp_in (((jj_up (jj_up (jj_up m 29 6 ((m 29 6) + 1)) 29 5 ((m 29 5) - 1)) 29 6 (((m 29 6) + 1) + 1)) 29 5) + 1) 7)
    (b15 : (0 < m 29 5) → (m 34 (m 29 5).toNatClampNeg = 0) → (¬ (m 33 (m 29 5).toNatClampNeg) < 0) → (m 3 1 ≤ (m 33 (m 29 5).toNatClampNeg)) → (m (5 + (0 : Int32).toNatClampNeg) 4 = 0) → (¬ (((jj_up (jj_up m 29 6 ((m 29 6) + 1)) 29 5 ((m 29 5) - 1)) 29 6) + 0) < 0) → (¬ (jj_up (jj_up m 29 6 ((m 29 6) + 1)) 29 5 ((m 29 5) - 1)) 30 2 ≤ (((jj_up (jj_up m 29 6 ((m 29 6) + 1)) 29 5 ((m 29 5) - 1)) 29 6) + 0)) → vp_in (((jj_up (jj_up m 29 6 ((m 29 6) + 1)) 29 5 ((m 29 5) - 1)) 29 6) + 0) 160)
    (b16 : (0 < m 29 5) → (m 34 (m 29 5).toNatClampNeg = 0) → (¬ (m 33 (m 29 5).toNatClampNeg) < 0) → (m 3 1 ≤ (m 33 (m 29 5).toNatClampNeg)) → (m (5 + (0 : Int32).toNatClampNeg) 4 = 0) → (¬ (((jj_up (jj_up m 29 6 ((m 29 6) + 1)) 29 5 ((m 29 5) - 1)) 29 6) + 0) < 0) → (¬ (jj_up (jj_up m 29 6 ((m 29 6) + 1)) 29 5 ((m 29 5) - 1)) 30 2 ≤ (((jj_up (jj_up m 29 6 ((m 29 6) + 1)) 29 5 ((m 29 5) - 1)) 29 6) + 0)) → vp_nar .char ((jj_up (jj_up m 29 6 ((m 29 6) + 1)) 29 5 ((m 29 5) - 1)) 31 (((jj_up (jj_up m 29 6 ((m 29 6) + 1)) 29 5 ((m 29 5) - 1)) 29 6) + 0).toNatClampNeg) = (jj_up (jj_up m 29 6 ((m 29 6) + 1)) 29 5 ((m 29 5) - 1)) 31 (((jj_up (jj_up m 29 6 ((m 29 6) + 1)) 29 5 ((m 29 5) - 1)) 29 6) + 0).toNatClampNeg)
    (b17 : (0 < m 29 5) → (m 34 (m 29 5).toNatClampNeg = 0) → (¬ (m 33 (m 29 5).toNatClampNeg) < 0) → (m 3 1 ≤ (m 33 (m 29 5).toNatClampNeg)) → (m (5 + (0 : Int32).toNatClampNeg) 4 = 0) → vp_nar .char (f_Tokens_sign (jj_up (jj_up m 29 6 ((m 29 6) + 1)) 29 5 ((m 29 5) - 1)) (((jj_up (jj_up m 29 6 ((m 29 6) + 1)) 29 5 ((m 29 5) - 1)) 29 6) + 0)) = f_Tokens_sign (jj_up (jj_up m 29 6 ((m 29 6) + 1)) 29 5 ((m 29 5) - 1)) (((jj_up (jj_up m 29 6 ((m 29 6) + 1)) 29 5 ((m 29 5) - 1)) 29 6) + 0))
    (b18 : (0 < m 29 5) → (m 34 (m 29 5).toNatClampNeg = 0) → (¬ (m 33 (m 29 5).toNatClampNeg) < 0) → (m 3 1 ≤ (m 33 (m 29 5).toNatClampNeg)) → (m (5 + (0 : Int32).toNatClampNeg) 4 = 0) → (f_Tokens_sign (jj_up (jj_up m 29 6 ((m 29 6) + 1)) 29 5 ((m 29 5) - 1)) (((jj_up (jj_up m 29 6 ((m 29 6) + 1)) 29 5 ((m 29 5) - 1)) 29 6) + 0) = 58) → (¬ (((jj_up (jj_up (jj_up m 29 6 ((m 29 6) + 1)) 29 5 ((m 29 5) - 1)) 29 6 (((m 29 6) + 1) + 1)) 29 6) + 0) < 0) → (¬ (jj_up (jj_up (jj_up m 29 6 ((m 29 6) + 1)) 29 5 ((m 29 5) - 1)) 29 6 (((m 29 6) + 1) + 1)) 30 2 ≤ (((jj_up (jj_up (jj_up m 29 6 ((m 29 6) + 1)) 29 5 ((m 29 5) - 1)) 29 6 (((m 29 6) + 1) + 1)) 29 6) + 0)) → vp_in (((jj_up (jj_up (jj_up m 29 6 ((m 29 6) + 1)) 29 5 ((m 29 5) - 1)) 29 6 (((m 29 6) + 1) + 1)) 29 6) + 0) 160)
    (b19 : (0 < m 29 5) → (m 34 (m 29 5).toNatClampNeg = 0) → (¬ (m 33 (m 29 5).toNatClampNeg) < 0) → (m 3 1 ≤ (m 33 (m 29 5).toNatClampNeg)) → (m (5 + (0 : Int32).toNatClampNeg) 4 = 0) → (f_Tokens_sign (jj_up (jj_up m 29 6 ((m 29 6) + 1)) 29 5 ((m 29 5) - 1)) (((jj_up (jj_up m 29 6 ((m 29 6) + 1)) 29 5 ((m 29 5) - 1)) 29 6) + 0) = 58) → (¬ (((jj_up (jj_up (jj_up m 29 6 ((m 29 6) + 1)) 29 5 ((m 29 5) - 1)) 29 6 (((m 29 6) + 1) + 1)) 29 6) + 0) < 0) → (¬ (jj_up (jj_up (jj_up m 29 6 ((m 29 6) + 1)) 29 5 ((m 29 5) - 1)) 29 6 (((m 29 6) + 1) + 1)) 30 2 ≤ (((jj_up (jj_up (jj_up m 29 6 ((m 29 6) + 1)) 29 5 ((m 29 5) - 1)) 29 6 (((m 29 6) + 1) + 1)) 29 6) + 0)) → vp_nar .char ((jj_up (jj_up (jj_up m 29 6 ((m 29 6) + 1)) 29 5 ((m 29 5) - 1)) 29 6 (((m 29 6) + 1) + 1)) 31 (((jj_up (jj_up (jj_up m 29 6 ((m 29 6) + 1)) 29 5 ((m 29 5) - 1)) 29 6 (((m 29 6) + 1) + 1)) 29 6) + 0).toNatClampNeg) = (jj_up (jj_up (jj_up m 29 6 ((m 29 6) + 1)) 29 5 ((m 29 5) - 1)) 29 6 (((m 29 6) + 1) + 1)) 31 (((jj_up (jj_up (jj_up m 29 6 ((m 29 6) + 1)) 29 5 ((m 29 5) - 1)) 29 6 (((m 29 6) + 1) + 1)) 29 6) + 0).toNatClampNeg)
    (b20 : (0 < m 29 5) → (m 34 (m 29 5).toNatClampNeg = 0) → (¬ (m 33 (m 29 5).toNatClampNeg) < 0) → (m 3 1 ≤ (m 33 (m 29 5).toNatClampNeg)) → (m (5 + (0 : Int32).toNatClampNeg) 4 = 0) → (f_Tokens_sign (jj_up (jj_up m 29 6 ((m 29 6) + 1)) 29 5 ((m 29 5) - 1)) (((jj_up (jj_up m 29 6 ((m 29 6) + 1)) 29 5 ((m 29 5) - 1)) 29 6) + 0) = 58) → vp_nar .char (f_Tokens_sign (jj_up (jj_up (jj_up m 29 6 ((m 29 6) + 1)) 29 5 ((m 29 5) - 1)) 29 6 (((m 29 6) + 1) + 1)) (((jj_up (jj_up (jj_up m 29 6 ((m 29 6) + 1)) 29 5 ((m 29 5) - 1)) 29 6 (((m 29 6) + 1) + 1)) 29 6) + 0)) = f_Tokens_sign (jj_up (jj_up (jj_up m 29 6 ((m 29 6) + 1)) 29 5 ((m 29 5) - 1)) 29 6 (((m 29 6) + 1) + 1)) (((jj_up (jj_up (jj_up m 29 6 ((m 29 6) + 1)) 29 5 ((m 29 5) - 1)) 29 6 (((m 29 6) + 1) + 1)) 29 6) + 0))
    (b21 : (0 < m 29 5) → (m 34 (m 29 5).toNatClampNeg = 0) → (¬ (m 33 (m 29 5).toNatClampNeg) < 0) → (m 3 1 ≤ (m 33 (m 29 5).toNatClampNeg)) → (m (5 + (0 : Int32).toNatClampNeg) 4 = 0) → (f_Tokens_sign (jj_up (jj_up m 29 6 ((m 29 6) + 1)) 29 5 ((m 29 5) - 1)) (((jj_up (jj_up m 29 6 ((m 29 6) + 1)) 29 5 ((m 29 5) - 1)) 29 6) + 0) = 58) → (f_Tokens_sign (jj_up (jj_up (jj_up m 29 6 ((m 29 6) + 1)) 29 5 ((m 29 5) - 1)) 29 6 (((m 29 6) + 1) + 1)) (((jj_up (jj_up (jj_up m 29 6 ((m 29 6) + 1)) 29 5 ((m 29 5) - 1)) 29 6 (((m 29 6) + 1) + 1)) 29 6) + 0) = 123) → ((jj_up (jj_up (jj_up m 29 6 ((m 29 6) + 1)) 29 5 ((m 29 5) - 1)) 29 6 (((m 29 6) + 1) + 1)) 29 5 < 6) → vp_in (((jj_up (jj_up (jj_up m 29 6 ((m 29 6) + 1)) 29 5 ((m 29 5) - 1)) 29 6 (((m 29 6) + 1) + 1)) 29 5) + 1) 7)
    (b22 : (0 < m 29 5) → (m 34 (m 29 5).toNatClampNeg = 0) → (¬ (m 33 (m 29 5).toNatClampNeg) < 0) → (m 3 1 ≤ (m 33 (m 29 5).toNatClampNeg)) → (m (5 + (0 : Int32).toNatClampNeg) 4 = 0) → (f_Tokens_sign (jj_up (jj_up m 29 6 ((m 29 6) + 1)) 29 5 ((m 29 5) - 1)) (((jj_up (jj_up m 29 6 ((m 29 6) + 1)) 29 5 ((m 29 5) - 1)) 29 6) + 0) = 58) → (f_Tokens_sign (jj_up (jj_up (jj_up m 29 6 ((m 29 6) + 1)) 29 5 ((m 29 5) - 1)) 29 6 (((m 29 6) + 1) + 1)) (((jj_up (jj_up (jj_up m 29 6 ((m 29 6) + 1)) 29 5 ((m 29 5) - 1)) 29 6 (((m 29 6) + 1) + 1)) 29 6) + 0) = 123) → ((jj_up (jj_up (jj_up m 29 6 ((m 29 6) + 1)) 29 5 ((m 29 5) - 1)) 29 6 (((m 29 6) + 1) + 1)) 29 5 < 6) → vp_in (((jj_up (jj_up (jj_up m 29 6 ((m 29 6) + 1)) 29 5 ((m 29 5) - 1)) 29 6 (((m 29 6) + 1) + 1)) 29 5) + 1) 7)
    (b23 : (0 < m 29 5) → (m 34 (m 29 5).toNatClampNeg = 0) → (¬ (m 33 (m 29 5).toNatClampNeg) < 0) → (m 3 1 ≤ (m 33 (m 29 5).toNatClampNeg)) → (m (5 + (0 : Int32).toNatClampNeg) 4 = 0) → (f_Tokens_sign (jj_up (jj_up m 29 6 ((m 29 6) + 1)) 29 5 ((m 29 5) - 1)) (((jj_up (jj_up m 29 6 ((m 29 6) + 1)) 29 5 ((m 29 5) - 1)) 29 6) + 0) = 58) → (f_Tokens_sign (jj_up (jj_up (jj_up m 29 6 ((m 29 6) + 1)) 29 5 ((m 29 5) - 1)) 29 6 (((m 29 6) + 1) + 1)) (((jj_up (jj_up (jj_up m 29 6 ((m 29 6) + 1)) 29 5 ((m 29 5) - 1)) 29 6 (((m 29 6) + 1) + 1)) 29 6) + 0) = 123) → ((jj_up (jj_up (jj_up m 29 6 ((m 29 6) + 1)) 29 5 ((m 29 5) - 1)) 29 6 (((m 29 6) + 1) + 1)) 29 5 < 6) → vp_in (((jj_up (jj_up (jj_up m 29 6 ((m 29 6) + 1)) 29 5 ((m 29 5) - 1)) 29 6 (((m 29 6) + 1) + 1)) 29 5) + 1) 7)
    (b24 : (0 < m 29 5) → (m 34 (m 29 5).toNatClampNeg = 0) → (¬ (m 33 (m 29 5).toNatClampNeg) < 0) → (¬ m 3 1 ≤ (m 33 (m 29 5).toNatClampNeg)) → (m (5 + (m 33 (m 29 5).toNatClampNeg).toNatClampNeg) 4 = 0) → (¬ (((jj_up (jj_up m 29 6 ((m 29 6) + 1)) 29 5 ((m 29 5) - 1)) 29 6) + 0) < 0) → (¬ (jj_up (jj_up m 29 6 ((m 29 6) + 1)) 29 5 ((m 29 5) - 1)) 30 2 ≤ (((jj_up (jj_up m 29 6 ((m 29 6) + 1)) 29 5 ((m 29 5) - 1)) 29 6) + 0)) → vp_in (((jj_up (jj_up m 29 6 ((m 29 6) + 1)) 29 5 ((m 29 5) - 1)) 29 6) + 0) 160)
    (b25 : (0 < m 29 5) → (m 34 (m 29 5).toNatClampNeg = 0) → (¬ (m 33 (m 29 5).toNatClampNeg) < 0) → (¬ m 3 1 ≤ (m 33 (m 29 5).toNatClampNeg)) → (m (5 + (m 33 (m 29 5).toNatClampNeg).toNatClampNeg) 4 = 0) → (¬ (((jj_up (jj_up m 29 6 ((m 29 6) + 1)) 29 5 ((m 29 5) - 1)) 29 6) + 0) < 0) → (¬ (jj_up (jj_up m 29 6 ((m 29 6) + 1)) 29 5 ((m 29 5) - 1)) 30 2 ≤ (((jj_up (jj_up m 29 6 ((m 29 6) + 1)) 29 5 ((m 29 5) - 1)) 29 6) + 0)) → vp_nar .char ((jj_up (jj_up m 29 6 ((m 29 6) + 1)) 29 5 ((m 29 5) - 1)) 31 (((jj_up (jj_up m 29 6 ((m 29 6) + 1)) 29 5 ((m 29 5) - 1)) 29 6) + 0).toNatClampNeg) = (jj_up (jj_up m 29 6 ((m 29 6) + 1)) 29 5 ((m 29 5) - 1)) 31 (((jj_up (jj_up m 29 6 ((m 29 6) + 1)) 29 5 ((m 29 5) - 1)) 29 6) + 0).toNatClampNeg)
    (b26 : (0 < m 29 5) → (m 34 (m 29 5).toNatClampNeg = 0) → (¬ (m 33 (m 29 5).toNatClampNeg) < 0) → (¬ m 3 1 ≤ (m 33 (m 29 5).toNatClampNeg)) → (m (5 + (m 33 (m 29 5).toNatClampNeg).toNatClampNeg) 4 = 0) → vp_nar .char (f_Tokens_sign (jj_up (jj_up m 29 6 ((m 29 6) + 1)) 29 5 ((m 29 5) - 1)) (((jj_up (jj_up m 29 6 ((m 29 6) + 1)) 29 5 ((m 29 5) - 1)) 29 6) + 0)) = f_Tokens_sign (jj_up (jj_up m 29 6 ((m 29 6) + 1)) 29 5 ((m 29 5) - 1)) (((jj_up (jj_up m 29 6 ((m 29 6) + 1)) 29 5 ((m 29 5) - 1)) 29 6) + 0))
    (b27 : (0 < m 29 5) → (m 34 (m 29 5).toNatClampNeg = 0) → (¬ (m 33 (m 29 5).toNatClampNeg) < 0) → (¬ m 3 1 ≤ (m 33 (m 29 5).toNatClampNeg)) → (m (5 + (m 33 (m 29 5).toNatClampNeg).toNatClampNeg) 4 = 0) → (f_Tokens_sign (jj_up (jj_up m 29 6 ((m 29 6) + 1)) 29 5 ((m 29 5) - 1)) (((jj_up (jj_up m 29 6 ((m 29 6) + 1)) 29 5 ((m 29 5) - 1)) 29 6) + 0) = 58) → (¬ (((jj_up (jj_up (jj_up m 29 6 ((m 29 6) + 1)) 29 5 ((m 29 5) - 1)) 29 6 (((m 29 6) + 1) + 1)) 29 6) + 0) < 0) → (¬ (jj_up (jj_up (jj_up m 29 6 ((m 29 6) + 1)) 29 5 ((m 29 5) - 1)) 29 6 (((m 29 6) + 1) + 1)) 30 2 ≤ (((jj_up (jj_up (jj_up m 29 6 ((m 29 6) + 1)) 29 5 ((m 29 5) - 1)) 29 6 (((m 29 6) + 1) + 1)) 29 6) + 0)) → vp_in (((jj_up (jj_up (jj_up m 29 6 ((m 29 6) + 1)) 29 5 ((m 29 5) - 1)) 29 6 (((m 29 6) + 1) + 1)) 29 6) + 0) 160)
    (b28 : (0 < m 29 5) → (m 34 (m 29 5).toNatClampNeg = 0) → (¬ (m 33 (m 29 5).toNatClampNeg) < 0) → (¬ m 3 1 ≤ (m 33 (m 29 5).toNatClampNeg)) → (m (5 + (m 33 (m 29 5).toNatClampNeg).toNatClampNeg) 4 = 0) → (f_Tokens_sign (jj_up (jj_up m 29 6 ((m 29 6) + 1)) 29 5 ((m 29 5) - 1)) (((jj_up (jj_up m 29 6 ((m 29 6) + 1)) 29 5 ((m 29 5) - 1)) 29 6) + 0) = 58) → (¬ (((jj_up (jj_up (jj_up m 29 6 ((m 29 6) + 1)) 29 5 ((m 29 5) - 1)) 29 6 (((m 29 6) + 1) + 1)) 29 6) + 0) < 0) → (¬ (jj_up (jj_up (jj_up m 29 6 ((m 29 6) + 1)) 29 5 ((m 29 5) - 1)) 29 6 (((m 29 6) + 1) + 1)) 30 2 ≤ (((jj_up (jj_up (jj_up m 29 6 ((m 29 6) + 1)) 29 5 ((m 29 5) - 1)) 29 6 (((m 29 6) + 1) + 1)) 29 6) + 0)) → vp_nar .char ((jj_up (jj_up (jj_up m 29 6 ((m 29 6) + 1)) 29 5 ((m 29 5) - 1)) 29 6 (((m 29 6) + 1) + 1)) 31 (((jj_up (jj_up (jj_up m 29 6 ((m 29 6) + 1)) 29 5 ((m 29 5) - 1)) 29 6 (((m 29 6) + 1) + 1)) 29 6) + 0).toNatClampNeg) = (jj_up (jj_up (jj_up m 29 6 ((m 29 6) + 1)) 29 5 ((m 29 5) - 1)) 29 6 (((m 29 6) + 1) + 1)) 31 (((jj_up (jj_up (jj_up m 29 6 ((m 29 6) + 1)) 29 5 ((m 29 5) - 1)) 29 6 (((m 29 6) + 1) + 1)) 29 6) + 0).toNatClampNeg)
    (b29 : (0 < m 29 5) → (m 34 (m 29 5).toNatClampNeg = 0) → (¬ (m 33 (m 29 5).toNatClampNeg) < 0) → (¬ m 3 1 ≤ (m 33 (m 29 5).toNatClampNeg)) → (m (5 + (m 33 (m 29 5).toNatClampNeg).toNatClampNeg) 4 = 0) → (f_Tokens_sign (jj_up (jj_up m 29 6 ((m 29 6) + 1)) 29 5 ((m 29 5) - 1)) (((jj_up (jj_up m 29 6 ((m 29 6) + 1)) 29 5 ((m 29 5) - 1)) 29 6) + 0) = 58) → vp_nar .char (f_Tokens_sign (jj_up (jj_up (jj_up m 29 6 ((m 29 6) + 1)) 29 5 ((m 29 5) - 1)) 29 6 (((m 29 6) + 1) + 1)) (((jj_up (jj_up (jj_up m 29 6 ((m 29 6) + 1)) 29 5 ((m 29 5) - 1)) 29 6 (((m 29 6) + 1) + 1)) 29 6) + 0)) = f_Tokens_sign (jj_up (jj_up (jj_up m 29 6 ((m 29 6) + 1)) 29 5 ((m 29 5) - 1)) 29 6 (((m 29 6) + 1) + 1)) (((jj_up (jj_up (jj_up m 29 6 ((m 29 6) + 1)) 29 5 ((m 29 5) - 1)) 29 6 (((m 29 6) + 1) + 1)) 29 6) + 0))
    (b30 : (0 < m 29 5) → (m 34 (m 29 5).toNatClampNeg = 0) → (¬ (m 33 (m 29 5).toNatClampNeg) < 0) → (¬ m 3 1 ≤ (m 33 (m 29 5).toNatClampNeg)) → (m (5 + (m 33 (m 29 5).toNatClampNeg).toNatClampNeg) 4 = 0) → (f_Tokens_sign (jj_up (jj_up m 29 6 ((m 29 6) + 1)) 29 5 ((m 29 5) - 1)) (((jj_up (jj_up m 29 6 ((m 29 6) + 1)) 29 5 ((m 29 5) - 1)) 29 6) + 0) = 58) → (f_Tokens_sign (jj_up (jj_up (jj_up m 29 6 ((m 29 6) + 1)) 29 5 ((m 29 5) - 1)) 29 6 (((m 29 6) + 1) + 1)) (((jj_up (jj_up (jj_up m 29 6 ((m 29 6) + 1)) 29 5 ((m 29 5) - 1)) 29 6 (((m 29 6) + 1) + 1)) 29 6) + 0) = 123) → ((jj_up (jj_up (jj_up m 29 6 ((m 29 6) + 1)) 29 5 ((m 29 5) - 1)) 29 6 (((m 29 6) + 1) + 1)) 29 5 < 6) → vp_in (((jj_up (jj_up (jj_up m 29 6 ((m 29 6) + 1)) 29 5 ((m 29 5) - 1)) 29 6 (((m 29 6) + 1) + 1)) 29 5) + 1) 7)
    (b31 : (0 < m 29 5) → (m 34 (m 29 5).toNatClampNeg = 0) → (¬ (m 33 (m 29 5).toNatClampNeg) < 0) → (¬ m 3 1 ≤ (m 33 (m 29 5).toNatClampNeg)) → (m (5 + (m 33 (m 29 5).toNatClampNeg).toNatClampNeg) 4 = 0) → (f_Tokens_sign (jj_up (jj_up m 29 6 ((m 29 6) + 1)) 29 5 ((m 29 5) - 1)) (((jj_up (jj_up m 29 6 ((m 29 6) + 1)) 29 5 ((m 29 5) - 1)) 29 6) + 0) = 58) → (f_Tokens_sign (jj_up (jj_up (jj_up m 29 6 ((m 29 6) + 1)) 29 5 ((m 29 5) - 1)) 29 6 (((m 29 6) + 1) + 1)) (((jj_up (jj_up (jj_up m 29 6 ((m 29 6) + 1)) 29 5 ((m 29 5) - 1)) 29 6 (((m 29 6) + 1) + 1)) 29 6) + 0) = 123) → ((jj_up (jj_up (jj_up m 29 6 ((m 29 6) + 1)) 29 5 ((m 29 5) - 1)) 29 6 (((m 29 6) + 1) + 1)) 29 5 < 6) → vp_in (((jj_up (jj_up (jj_up m 29 6 ((m 29 6) + 1)) 29 5 ((m 29 5) - 1)) 29 6 (((m 29 6) + 1) + 1)) 29 5) + 1) 7)
    (b32 : (0 < m 29 5) → (m 34 (m 29 5).toNatClampNeg = 0) → (¬ (m 33 (m 29 5).toNatClampNeg) < 0) → (¬ m 3 1 ≤ (m 33 (m 29 5).toNatClampNeg)) → (m (5 + (m 33 (m 29 5).toNatClampNeg).toNatClampNeg) 4 = 0) → (f_Tokens_sign (jj_up (jj_up m 29 6 ((m 29 6) + 1)) 29 5 ((m 29 5) - 1)) (((jj_up (jj_up m 29 6 ((m 29 6) + 1)) 29 5 ((m 29 5) - 1)) 29 6) + 0) = 58) → (f_Tokens_sign (jj_up (jj_up (jj_up m 29 6 ((m 29 6) + 1)) 29 5 ((m 29 5) - 1)) 29 6 (((m 29 6) + 1) + 1)) (((jj_up (jj_up (jj_up m 29 6 ((m 29 6) + 1)) 29 5 ((m 29 5) - 1)) 29 6 (((m 29 6) + 1) + 1)) 29 6) + 0) = 123) → ((jj_up (jj_up (jj_up m 29 6 ((m 29 6) + 1)) 29 5 ((m 29 5) - 1)) 29 6 (((m 29 6) + 1) + 1)) 29 5 < 6) → vp_in (((jj_up (jj_up (jj_up m 29 6 ((m 29 6) + 1)) 29 5 ((m 29 5) - 1)) 29 6 (((m 29 6) + 1) + 1)) 29 5) + 1) 7)
    (g1 : (0 < m 29 5) → (¬ m 34 (m 29 5).toNatClampNeg = 0) → Q (some (.int 1)) (jj_up (jj_up m 29 6 ((m 29 6) + 1)) 29 5 ((m 29 5) - 1)))
    (g2 : (0 < m 29 5) → (m 34 (m 29 5).toNatClampNeg = 0) → ((m 33 (m 29 5).toNatClampNeg) < 0) → (¬ m (5 + (0 : Int32).toNatClampNeg) 4 = 0) → Q (some (.int 1)) (jj_up (jj_up m 29 6 ((m 29 6) + 1)) 29 5 ((m 29 5) - 1)))
    (g3 : (0 < m 29 5) → (m 34 (m 29 5).toNatClampNeg = 0) → ((m 33 (m 29 5).toNatClampNeg) < 0) → (m (5 + (0 : Int32).toNatClampNeg) 4 = 0) → (¬ f_Tokens_sign (jj_up (jj_up m 29 6 ((m 29 6) + 1)) 29 5 ((m 29 5) - 1)) (((jj_up (jj_up m 29 6 ((m 29 6) + 1)) 29 5 ((m 29 5) - 1)) 29 6) + 0) = 58) → Q (some (.int 1)) (jj_up (jj_up m 29 6 ((m 29 6) + 1)) 29 5 ((m 29 5) - 1)))
    (g4 : (0 < m 29 5) → (m 34 (m 29 5).toNatClampNeg = 0) → ((m 33 (m 29 5).toNatClampNeg) < 0) → (m (5 + (0 : Int32).toNatClampNeg) 4 = 0) → (f_Tokens_sign (jj_up (jj_up m 29 6 ((m 29 6) + 1)) 29 5 ((m 29 5) - 1)) (((jj_up (jj_up m 29 6 ((m 29 6) + 1)) 29 5 ((m 29 5) - 1)) 29 6) + 0) = 58) → (¬ f_Tokens_sign (jj_up (jj_up (jj_up m 29 6 ((m 29 6) + 1)) 29 5 ((m 29 5) - 1)) 29 6 (((m 29 6) + 1) + 1)) (((jj_up (jj_up (jj_up m 29 6 ((m 29 6) + 1)) 29 5 ((m 29 5) - 1)) 29 6 (((m 29 6) + 1) + 1)) 29 6) + 0) = 123) → Q (some (.int 0)) (jj_up (jj_up (jj_up m 29 6 ((m 29 6) + 1)) 29 5 ((m 29 5) - 1)) 29 6 (((m 29 6) + 1) + 1)))
    (g5 : (0 < m 29 5) → (m 34 (m 29 5).toNatClampNeg = 0) → ((m 33 (m 29 5).toNatClampNeg) < 0) → (m (5 + (0 : Int32).toNatClampNeg) 4 = 0) → (f_Tokens_sign (jj_up (jj_up m 29 6 ((m 29 6) + 1)) 29 5 ((m 29 5) - 1)) (((jj_up (jj_up m 29 6 ((m 29 6) + 1)) 29 5 ((m 29 5) - 1)) 29 6) + 0) = 58) → (f_Tokens_sign (jj_up (jj_up (jj_up m 29 6 ((m 29 6) + 1)) 29 5 ((m 29 5) - 1)) 29 6 (((m 29 6) + 1) + 1)) (((jj_up (jj_up (jj_up m 29 6 ((m 29 6) + 1)) 29 5 ((m 29 5) - 1)) 29 6 (((m 29 6) + 1) + 1)) 29 6) + 0) = 123) → ((jj_up (jj_up (jj_up m 29 6 ((m 29 6) + 1)) 29 5 ((m 29 5) - 1)) 29 6 (((m 29 6) + 1) + 1)) 29 5 < 6) → Q (some (.int 1)) (jj_up (jj_up (jj_up (jj_up (jj_up (jj_up (jj_up (jj_up m 29 6 ((m 29 6) + 1)) 29 5 ((m 29 5) - 1)) 29 6 (((m 29 6) + 1) + 1)) 29 6 (((jj_up (jj_up (jj_up m 29 6 ((m 29 6) + 1)) 29 5 ((m 29 5) - 1)) 29 6 (((m 29 6) + 1) + 1)) 29 6) + 1)) 29 5 (((jj_up (jj_up (jj_up m 29 6 ((m 29 6) + 1)) 29 5 ((m 29 5) - 1)) 29 6 (((m 29 6) + 1) + 1)) 29 5) + 1)) 33 ((((jj_up (jj_up (jj_up m 29 6 ((m 29 6) + 1)) 29 5 ((m 29 5) - 1)) 29 6 (((m 29 6) + 1) + 1)) 29 5) + 1).toNatClampNeg) (m 33 (m 29 5).toNatClampNeg)) 34 ((((jj_up (jj_up (jj_up m 29 6 ((m 29 6) + 1)) 29 5 ((m 29 5) - 1)) 29 6 (((m 29 6) + 1) + 1)) 29 5) + 1).toNatClampNeg) 1) 35 ((((jj_up (jj_up (jj_up m 29 6 ((m 29 6) + 1)) 29 5 ((m 29 5) - 1)) 29 6 (((m 29 6) + 1) + 1)) 29 5) + 1).toNatClampNeg) (-1)))
    (g6 : (0 < m 29 5) → (m 34 (m 29 5).toNatClampNeg = 0) → ((m 33 (m 29 5).toNatClampNeg) < 0) → (m (5 + (0 : Int32).toNatClampNeg) 4 = 0) → (f_Tokens_sign (jj_up (jj_up m 29 6 ((m 29 6) + 1)) 29 5 ((m 29 5) - 1)) (((jj_up (jj_up m 29 6 ((m 29 6) + 1)) 29 5 ((m 29 5) - 1)) 29 6) + 0) = 58) → (f_Tokens_sign (jj_up (jj_up (jj_up m 29 6 ((m 29 6) + 1)) 29 5 ((m 29 5) - 1)) 29 6 (((m 29 6) + 1) + 1)) (((jj_up (jj_up (jj_up m 29 6 ((m 29 6) + 1)) 29 5 ((m 29 5) - 1)) 29 6 (((m 29 6) + 1) + 1)) 29 6) + 0) = 123) → (¬ (jj_up (jj_up (jj_up m 29 6 ((m 29 6) + 1)) 29 5 ((m 29 5) - 1)) 29 6 (((m 29 6) + 1) + 1)) 29 5 < 6) → Q (some (.int 0)) (jj_up (jj_up (jj_up m 29 6 ((m 29 6) + 1)) 29 5 ((m 29 5) - 1)) 29 6 (((m 29 6) + 1) + 1)))
    (g7 : (0 < m 29 5) → (m 34 (m 29 5).toNatClampNeg = 0) → (¬ (m 33 (m 29 5).toNatClampNeg) < 0) → (m 3 1 ≤ (m 33 (m 29 5).toNatClampNeg)) → (¬ m (5 + (0 : Int32).toNatClampNeg) 4 = 0) → Q (some (.int 1)) (jj_up (jj_up m 29 6 ((m 29 6) + 1)) 29 5 ((m 29 5) - 1)))
    (g8 : (0 < m 29 5) → (m 34 (m 29 5).toNatClampNeg = 0) → (¬ (m 33 (m 29 5).toNatClampNeg) < 0) → (m 3 1 ≤ (m 33 (m 29 5).toNatClampNeg)) → (m (5 + (0 : Int32).toNatClampNeg) 4 = 0) → (¬ f_Tokens_sign (jj_up (jj_up m 29 6 ((m 29 6) + 1)) 29 5 ((m 29 5) - 1)) (((jj_up (jj_up m 29 6 ((m 29 6) + 1)) 29 5 ((m 29 5) - 1)) 29 6) + 0) = 58) → Q (some (.int 1)) (jj_up (jj_up m 29 6 ((m 29 6) + 1)) 29 5 ((m 29 5) - 1)))
    (g9 : (0 < m 29 5) → (m 34 (m 29 5).toNatClampNeg = 0) → (¬ (m 33 (m 29 5).toNatClampNeg) < 0) → (m 3 1 ≤ (m 33 (m 29 5).toNatClampNeg)) → (m (5 + (0 : Int32).toNatClampNeg) 4 = 0) → (f_Tokens_sign (jj_up (jj_up m 29 6 ((m 29 6) + 1)) 29 5 ((m 29 5) - 1)) (((jj_up (jj_up m 29 6 ((m 29 6) + 1)) 29 5 ((m 29 5) - 1)) 29 6) + 0) = 58) → (¬ f_Tokens_sign (jj_up (jj_up (jj_up m 29 6 ((m 29 6) + 1)) 29 5 ((m 29 5) - 1)) 29 6 (((m 29 6) + 1) + 1)) (((jj_up (jj_up (jj_up m 29 6 ((m 29 6) + 1)) 29 5 ((m 29 5) - 1)) 29 6 (((m 29 6) + 1) + 1)) 29 6) + 0) = 123) → Q (some (.int 0)) (jj_up (jj_up (jj_up m 29 6 ((m 29 6) + 1)) 29 5 ((m 29 5) - 1)) 29 6 (((m 29 6) + 1) + 1)))
    (g10 : (0 < m 29 5) → (m 34 (m 29 5).toNatClampNeg = 0) → (¬ (m 33 (m 29 5).toNatClampNeg) < 0) → (m 3 1 ≤ (m 33 (m 29 5).toNatClampNeg)) → (m (5 + (0 : Int32).toNatClampNeg) 4 = 0) → (f_Tokens_sign (jj_up (jj_up m 29 6 ((m 29 6) + 1)) 29 5 ((m 29 5) - 1)) (((jj_up (jj_up m 29 6 ((m 29 6) + 1)) 29 5 ((m 29 5) - 1)) 29 6) + 0) = 58) → (f_Tokens_sign (jj_up (jj_up (jj_up m 29 6 ((m 29 6) + 1)) 29 5 ((m 29 5) - 1)) 29 6 (((m 29 6) + 1) + 1)) (((jj_up (jj_up (jj_up m 29 6 ((m 29 6) + 1)) 29 5 ((m 29 5) - 1)) 29 6 (((m 29 6) + 1) + 1)) 29 6) + 0) = 123) → ((jj_up (jj_up (jj_up m 29 6 ((m 29 6) + 1)) 29 5 ((m 29 5) - 1)) 29 6 (((m 29 6) + 1) + 1)) 29 5 < 6) → Q (some (.int 1)) (jj_up (jj_up (jj_up (jj_up (jj_up (jj_up (jj_up (jj_up m 29 6 ((m 29 6) + 1)) 29 5 ((m 29 5) - 1)) 29 6 (((m 29 6) + 1) + 1)) 29 6 (((jj_up (jj_up (jj_up m 29 6 ((m 29 6) + 1)) 29 5 ((m 29 5) - 1)) 29 6 (((m 29 6) + 1) + 1)) 29 6) + 1)) 29 5 (((jj_up (jj_up (jj_up m 29 6 ((m 29 6) + 1)) 29 5 ((m 29 5) - 1)) 29 6 (((m 29 6) + 1) + 1)) 29 5) + 1)) 33 ((((jj_up (jj_up (jj_up m 29 6 ((m 29 6) + 1)) 29 5 ((m 29 5) - 1)) 29 6 (((m 29 6) + 1) + 1)) 29 5) + 1).toNatClampNeg) (m 33 (m 29 5).toNatClampNeg)) 34 ((((jj_up (jj_up (jj_up m 29 6 ((m 29 6) + 1)) 29 5 ((m 29 5) - 1)) 29 6 (((m 29 6) + 1) + 1)) 29 5) + 1).toNatClampNeg) 1) 35 ((((jj_up (jj_up (jj_up m 29 6 ((m 29 6) + 1)) 29 5 ((m 29 5) - 1)) 29 6 (((m 29 6) + 1) + 1)) 29 5) + 1).toNatClampNeg) (-1)))
    (g11 : (0 < m 29 5) → (m 34 (m 29 5).toNatClampNeg = 0) → (¬ (m 33 (m 29 5).toNatClampNeg) < 0) → (m 3 1 ≤ (m 33 (m 29 5).toNatClampNeg)) → (m (5 + (0 : Int32).toNatClampNeg) 4 = 0) → (f_Tokens_sign (jj_up (jj_up m 29 6 ((m 29 6) + 1)) 29 5 ((m 29 5) - 1)) (((jj_up (jj_up m 29 6 ((m 29 6) + 1)) 29 5 ((m 29 5) - 1)) 29 6) + 0) = 58) → (f_Tokens_sign (jj_up (jj_up (jj_up m 29 6 ((m 29 6) + 1)) 29 5 ((m 29 5) - 1)) 29 6 (((m 29 6) + 1) + 1)) (((jj_up (jj_up (jj_up m 29 6 ((m 29 6) + 1)) 29 5 ((m 29 5) - 1)) 29 6 (((m 29 6) + 1) + 1)) 29 6) + 0) = 123) → (¬ (jj_up (jj_up (jj_up m 29 6 ((m 29 6) + 1)) 29 5 ((m 29 5) - 1)) 29 6 (((m 29 6) + 1) + 1)) 29 5 < 6) → Q (some (.int 0)) (jj_up (jj_up (jj_up m 29 6 ((m 29 6) + 1)) 29 5 ((m 29 5) - 1)) 29 6 (((m 29 6) + 1) + 1)))
    (g12 : (0 < m 29 5) → (m 34 (m 29 5).toNatClampNeg = 0) → (¬ (m 33 (m 29 5).toNatClampNeg) < 0) → (¬ m 3 1 ≤ (m 33 (m 29 5).toNatClampNeg)) → (¬ m (5 + (m 33 (m 29 5).toNatClampNeg).toNatClampNeg) 4 = 0) → Q (some (.int 1)) (jj_up (jj_up m 29 6 ((m 29 6) + 1)) 29 5 ((m 29 5) - 1)))
    (g13 : (0 < m 29 5) → (m 34 (m 29 5).toNatClampNeg = 0) → (¬ (m 33 (m 29 5).toNatClampNeg) < 0) → (¬ m 3 1 ≤ (m 33 (m 29 5).toNatClampNeg)) → (m (5 + (m 33 (m 29 5).toNatClampNeg).toNatClampNeg) 4 = 0) → (¬ f_Tokens_sign (jj_up (jj_up m 29 6 ((m 29 6) + 1)) 29 5 ((m 29 5) - 1)) (((jj_up (jj_up m 29 6 ((m 29 6) + 1)) 29 5 ((m 29 5) - 1)) 29 6) + 0) = 58) → Q (some (.int 1)) (jj_up (jj_up m 29 6 ((m 29 6) + 1)) 29 5 ((m 29 5) - 1)))
    (g14 : (0 < m 29 5) → (m 34 (m 29 5).toNatClampNeg = 0) → (¬ (m 33 (m 29 5).toNatClampNeg) < 0) → (¬ m 3 1 ≤ (m 33 (m 29 5).toNatClampNeg)) → (m (5 + (m 33 (m 29 5).toNatClampNeg).toNatClampNeg) 4 = 0) → (f_Tokens_sign (jj_up (jj_up m 29 6 ((m 29 6) + 1)) 29 5 ((m 29 5) - 1)) (((jj_up (jj_up m 29 6 ((m 29 6) + 1)) 29 5 ((m 29 5) - 1)) 29 6) + 0) = 58) → (¬ f_Tokens_sign (jj_up (jj_up (jj_up m 29 6 ((m 29 6) + 1)) 29 5 ((m 29 5) - 1)) 29 6 (((m 29 6) + 1) + 1)) (((jj_up (jj_up (jj_up m 29 6 ((m 29 6) + 1)) 29 5 ((m 29 5) - 1)) 29 6 (((m 29 6) + 1) + 1)) 29 6) + 0) = 123) → Q (some (.int 0)) (jj_up (jj_up (jj_up m 29 6 ((m 29 6) + 1)) 29 5 ((m 29 5) - 1)) 29 6 (((m 29 6) + 1) + 1)))
    (g15 : (0 < m 29 5) → (m 34 (m 29 5).toNatClampNeg = 0) → (¬ (m 33 (m 29 5).toNatClampNeg) < 0) → (¬ m 3 1 ≤ (m 33 (m 29 5).toNatClampNeg)) → (m (5 + (m 33 (m 29 5).toNatClampNeg).toNatClampNeg) 4 = 0) → (f_Tokens_sign (jj_up (jj_up m 29 6 ((m 29 6) + 1)) 29 5 ((m 29 5) - 1)) (((jj_up (jj_up m 29 6 ((m 29 6) + 1)) 29 5 ((m 29 5) - 1)) 29 6) + 0) = 58) → (f_Tokens_sign (jj_up (jj_up (jj_up m 29 6 ((m 29 6) + 1)) 29 5 ((m 29 5) - 1)) 29 6 (((m 29 6) + 1) + 1)) (((jj_up (jj_up (jj_up m 29 6 ((m 29 6) + 1)) 29 5 ((m 29 5) - 1)) 29 6 (((m 29 6) + 1) + 1)) 29 6) + 0) = 123) → ((jj_up (jj_up (jj_up m 29 6 ((m 29 6) + 1)) 29 5 ((m 29 5) - 1)) 29 6 (((m 29 6) + 1) + 1)) 29 5 < 6) → Q (some (.int 1)) (jj_up (jj_up (jj_up (jj_up (jj_up (jj_up (jj_up (jj_up m 29 6 ((m 29 6) + 1)) 29 5 ((m 29 5) - 1)) 29 6 (((m 29 6) + 1) + 1)) 29 6 (((jj_up (jj_up (jj_up m 29 6 ((m 29 6) + 1)) 29 5 ((m 29 5) - 1)) 29 6 (((m 29 6) + 1) + 1)) 29 6) + 1)) 29 5 (((jj_up (jj_up (jj_up m 29 6 ((m 29 6) + 1)) 29 5 ((m 29 5) - 1)) 29 6 (((m 29 6) + 1) + 1)) 29 5) + 1)) 33 ((((jj_up (jj_up (jj_up m 29 6 ((m 29 6) + 1)) 29 5 ((m 29 5) - 1)) 29 6 (((m 29 6) + 1) + 1)) 29 5) + 1).toNatClampNeg) (m 33 (m 29 5).toNatClampNeg)) 34 ((((jj_up (jj_up (jj_up m 29 6 ((m 29 6) + 1)) 29 5 ((m 29 5) - 1)) 29 6 (((m 29 6) + 1) + 1)) 29 5) + 1).toNatClampNeg) 1) 35 ((((jj_up (jj_up (jj_up m 29 6 ((m 29 6) + 1)) 29 5 ((m 29 5) - 1)) 29 6 (((m 29 6) + 1) + 1)) 29 5) + 1).toNatClampNeg) (-1)))
    (g16 : (0 < m 29 5) → (m 34 (m 29 5).toNatClampNeg = 0) → (¬ (m 33 (m 29 5).toNatClampNeg) < 0) → (¬ m 3 1 ≤ (m 33 (m 29 5).toNatClampNeg)) → (m (5 + (m 33 (m 29 5).toNatClampNeg).toNatClampNeg) 4 = 0) → (f_Tokens_sign (jj_up (jj_up m 29 6 ((m 29 6) + 1)) 29 5 ((m 29 5) - 1)) (((jj_up (jj_up m 29 6 ((m 29 6) + 1)) 29 5 ((m 29 5) - 1)) 29 6) + 0) = 58) → (f_Tokens_sign (jj_up (jj_up (jj_up m 29 6 ((m 29 6) + 1)) 29 5 ((m 29 5) - 1)) 29 6 (((m 29 6) + 1) + 1)) (((jj_up (jj_up (jj_up m 29 6 ((m 29 6) + 1)) 29 5 ((m 29 5) - 1)) 29 6 (((m 29 6) + 1) + 1)) 29 6) + 0) = 123) → (¬ (jj_up (jj_up (jj_up m 29 6 ((m 29 6) + 1)) 29 5 ((m 29 5) - 1)) 29 6 (((m 29 6) + 1) + 1)) 29 5 < 6) → Q (some (.int 0)) (jj_up (jj_up (jj_up m 29 6 ((m 29 6) + 1)) 29 5 ((m 29 5) - 1)) 29 6 (((m 29 6) + 1) + 1)))
    (g17 : (¬ 0 < m 29 5) → Q (some (.int 0)) m) : ez xs 35 0 (jx_ent 35 [.ref 29]) [] m Q := by
  refine ez_blk 2 rfl ?_
  show ez xs 35 4 [some (.ref 29), none, none] [.int (m 29 5)] m Q
  refine ez_if_gt rfl (fun h1 => ?_) (fun h1 => ?_)
  · show ez xs 35 9 [some (.ref 29), none, none] [] m Q
    refine ez_blk 4 rfl ?_
    show ez xs 35 17 [some (.ref 29), none, none] [.int (m 29 5), .ref 33] m Q
    refine ez_ialdv rfl (by decide) rfl (b1 h1) ?_
    show ez xs 35 18 [some (.ref 29), none, none] [.int (m 33 (m 29 5).toNatClampNeg)] m Q
    refine ez_blk 5 rfl ?_
    show ez xs 35 27 [some (.ref 29), some (.int (m 33 (m 29 5).toNatClampNeg)), none] [.int (m 29 5), .ref 34] m Q
    refine ez_ialdv rfl (by decide) rfl (b2 h1) ?_
    show ez xs 35 28 [some (.ref 29), some (.int (m 33 (m 29 5).toNatClampNeg)), none] [.int (m 34 (m 29 5).toNatClampNeg)] m Q
    refine ez_if_ne rfl (fun h2 => ?_) (fun h2 => ?_)
    · show ez xs 35 49 [some (.ref 29), some (.int (m 33 (m 29 5).toNatClampNeg)), none] [] m Q
      refine ez_blk 15 rfl ?_
      show ez xs 35 72 [some (.ref 29), some (.int (m 33 (m 29 5).toNatClampNeg)), some (.int 0)] [.int 0] (jj_up (jj_up m 29 6 ((m 29 6) + 1)) 29 5 ((m 29 5) - 1)) Q
      refine ez_if_eq rfl (fun _ => ?_) (fun h => False.elim (by revert h; decide))
      show ez xs 35 102 [some (.ref 29), some (.int (m 33 (m 29 5).toNatClampNeg)), some (.int 0)] [] (jj_up (jj_up m 29 6 ((m 29 6) + 1)) 29 5 ((m 29 5) - 1)) Q
      refine ez_blk 1 rfl ?_
      show ez xs 35 103 [some (.ref 29), some (.int (m 33 (m 29 5).toNatClampNeg)), some (.int 0)] [.int 1] (jj_up (jj_up m 29 6 ((m 29 6) + 1)) 29 5 ((m 29 5) - 1)) Q
      exact ez_ret rfl (by decide) rfl (g1 h1 h2)
    · show ez xs 35 31 [some (.ref 29), some (.int (m 33 (m 29 5).toNatClampNeg)), none] [] m Q
      refine ez_blk 3 rfl ?_
      show ez xs 35 36 [some (.ref 29), some (.int (m 33 (m 29 5).toNatClampNeg)), none] [.int (m 33 (m 29 5).toNatClampNeg), .ref 3] m Q
      refine ez_call (as := [.ref 3, .int (m 33 (m 29 5).toNatClampNeg)]) (rest := []) rfl (by decide) rfl ?_
      refine c_Program_node (fun h3 => b3 h1 h2 h3) (fun h4 h5 => b4 h1 h2 h4 h5) (fun h6 h7 => b5 h1 h2 h6 h7) (fun h8 => ?_) (fun h9 h10 => ?_) (fun h11 h12 => ?_)
      · show ez xs 35 39 [some (.ref 29), some (.int (m 33 (m 29 5).toNatClampNeg)), none] [.ref (5 + (0 : Int32).toNatClampNeg)] m Q
        refine ez_getN rfl (z_ndi (vp_lt (b3 h1 h2 h8))) (z_nds (vp_lt (b3 h1 h2 h8))) (by decide) rfl ?_
        show ez xs 35 42 [some (.ref 29), some (.int (m 33 (m 29 5).toNatClampNeg)), none] [.int (m (5 + (0 : Int32).toNatClampNeg) 4)] m Q
        refine ez_if_ne rfl (fun h13 => ?_) (fun h13 => ?_)
        · show ez xs 35 49 [some (.ref 29), some (.int (m 33 (m 29 5).toNatClampNeg)), none] [] m Q
          refine ez_blk 15 rfl ?_
          show ez xs 35 72 [some (.ref 29), some (.int (m 33 (m 29 5).toNatClampNeg)), some (.int 0)] [.int 0] (jj_up (jj_up m 29 6 ((m 29 6) + 1)) 29 5 ((m 29 5) - 1)) Q
          refine ez_if_eq rfl (fun _ => ?_) (fun h => False.elim (by revert h; decide))
          show ez xs 35 102 [some (.ref 29), some (.int (m 33 (m 29 5).toNatClampNeg)), some (.int 0)] [] (jj_up (jj_up m 29 6 ((m 29 6) + 1)) 29 5 ((m 29 5) - 1)) Q
          refine ez_blk 1 rfl ?_
          show ez xs 35 103 [some (.ref 29), some (.int (m 33 (m 29 5).toNatClampNeg)), some (.int 0)] [.int 1] (jj_up (jj_up m 29 6 ((m 29 6) + 1)) 29 5 ((m 29 5) - 1)) Q
          exact ez_ret rfl (by decide) rfl (g2 h1 h2 h8 h13)
        · show ez xs 35 45 [some (.ref 29), some (.int (m 33 (m 29 5).toNatClampNeg)), none] [] m Q
          refine ez_blk 16 rfl ?_
          show ez xs 35 72 [some (.ref 29), some (.int (m 33 (m 29 5).toNatClampNeg)), some (.int 1)] [.int 1] (jj_up (jj_up m 29 6 ((m 29 6) + 1)) 29 5 ((m 29 5) - 1)) Q
          refine ez_if_eq rfl (fun h => False.elim (by revert h; decide)) (fun _ => ?_)
          show ez xs 35 75 [some (.ref 29), some (.int (m 33 (m 29 5).toNatClampNeg)), some (.int 1)] [] (jj_up (jj_up m 29 6 ((m 29 6) + 1)) 29 5 ((m 29 5) - 1)) Q
          refine ez_blk 2 rfl ?_
          show ez xs 35 77 [some (.ref 29), some (.int (m 33 (m 29 5).toNatClampNeg)), some (.int 1)] [.int 0, .ref 29] (jj_up (jj_up m 29 6 ((m 29 6) + 1)) 29 5 ((m 29 5) - 1)) Q
          refine ez_call (as := [.ref 29, .int 0]) (rest := []) rfl (by decide) rfl ?_
          refine c_Parser_ahead (fun h14 h15 => b6 h1 h2 h8 h13 h14 h15) (fun h16 h17 => b7 h1 h2 h8 h13 h16 h17) (b8 h1 h2 h8 h13) ?_
          show ez xs 35 80 [some (.ref 29), some (.int (m 33 (m 29 5).toNatClampNeg)), some (.int 1)] [.int (f_Tokens_sign (jj_up (jj_up m 29 6 ((m 29 6) + 1)) 29 5 ((m 29 5) - 1)) (((jj_up (jj_up m 29 6 ((m 29 6) + 1)) 29 5 ((m 29 5) - 1)) 29 6) + 0))] (jj_up (jj_up m 29 6 ((m 29 6) + 1)) 29 5 ((m 29 5) - 1)) Q
          refine ez_blk 1 rfl ?_
          show ez xs 35 82 [some (.ref 29), some (.int (m 33 (m 29 5).toNatClampNeg)), some (.int 1)] [.int 58, .int (f_Tokens_sign (jj_up (jj_up m 29 6 ((m 29 6) + 1)) 29 5 ((m 29 5) - 1)) (((jj_up (jj_up m 29 6 ((m 29 6) + 1)) 29 5 ((m 29 5) - 1)) 29 6) + 0))] (jj_up (jj_up m 29 6 ((m 29 6) + 1)) 29 5 ((m 29 5) - 1)) Q
          refine ez_icmp_ne rfl (fun h18 => ?_) (fun h18 => ?_)
          · show ez xs 35 102 [some (.ref 29), some (.int (m 33 (m 29 5).toNatClampNeg)), some (.int 1)] [] (jj_up (jj_up m 29 6 ((m 29 6) + 1)) 29 5 ((m 29 5) - 1)) Q
            refine ez_blk 1 rfl ?_
            show ez xs 35 103 [some (.ref 29), some (.int (m 33 (m 29 5).toNatClampNeg)), some (.int 1)] [.int 1] (jj_up (jj_up m 29 6 ((m 29 6) + 1)) 29 5 ((m 29 5) - 1)) Q
            exact ez_ret rfl (by decide) rfl (g3 h1 h2 h8 h13 h18)
          · show ez xs 35 85 [some (.ref 29), some (.int (m 33 (m 29 5).toNatClampNeg)), some (.int 1)] [] (jj_up (jj_up m 29 6 ((m 29 6) + 1)) 29 5 ((m 29 5) - 1)) Q
            refine ez_blk 9 rfl ?_
            show ez xs 35 98 [some (.ref 29), some (.int (m 33 (m 29 5).toNatClampNeg)), some (.int 1)] [.int 1, .int (m 33 (m 29 5).toNatClampNeg), .ref 29] (jj_up (jj_up (jj_up m 29 6 ((m 29 6) + 1)) 29 5 ((m 29 5) - 1)) 29 6 (((m 29 6) + 1) + 1)) Q
            refine ez_call (as := [.ref 29, .int (m 33 (m 29 5).toNatClampNeg), .int 1]) (rest := []) rfl (by decide) rfl ?_
            refine c_Parser_openRow (fun h19 h20 => b9 h1 h2 h8 h13 h18 h19 h20) (fun h21 h22 => b10 h1 h2 h8 h13 h18 h21 h22) (b11 h1 h2 h8 h13 h18) (fun h23 h24 => b12 h1 h2 h8 h13 h18 h23 h24) (fun h25 h26 => b13 h1 h2 h8 h13 h18 h25 h26) (fun h27 h28 => b14 h1 h2 h8 h13 h18 h27 h28) (fun h29 => ?_) (fun h30 h31 => ?_) (fun h32 h33 => ?_)
            · show ez xs 35 101 [some (.ref 29), some (.int (m 33 (m 29 5).toNatClampNeg)), some (.int 1)] [.int 0] (jj_up (jj_up (jj_up m 29 6 ((m 29 6) + 1)) 29 5 ((m 29 5) - 1)) 29 6 (((m 29 6) + 1) + 1)) Q
              exact ez_ret rfl (by decide) rfl (g4 h1 h2 h8 h13 h18 h29)
            · show ez xs 35 101 [some (.ref 29), some (.int (m 33 (m 29 5).toNatClampNeg)), some (.int 1)] [.int 1] (jj_up (jj_up (jj_up (jj_up (jj_up (jj_up (jj_up (jj_up m 29 6 ((m 29 6) + 1)) 29 5 ((m 29 5) - 1)) 29 6 (((m 29 6) + 1) + 1)) 29 6 (((jj_up (jj_up (jj_up m 29 6 ((m 29 6) + 1)) 29 5 ((m 29 5) - 1)) 29 6 (((m 29 6) + 1) + 1)) 29 6) + 1)) 29 5 (((jj_up (jj_up (jj_up m 29 6 ((m 29 6) + 1)) 29 5 ((m 29 5) - 1)) 29 6 (((m 29 6) + 1) + 1)) 29 5) + 1)) 33 ((((jj_up (jj_up (jj_up m 29 6 ((m 29 6) + 1)) 29 5 ((m 29 5) - 1)) 29 6 (((m 29 6) + 1) + 1)) 29 5) + 1).toNatClampNeg) (m 33 (m 29 5).toNatClampNeg)) 34 ((((jj_up (jj_up (jj_up m 29 6 ((m 29 6) + 1)) 29 5 ((m 29 5) - 1)) 29 6 (((m 29 6) + 1) + 1)) 29 5) + 1).toNatClampNeg) 1) 35 ((((jj_up (jj_up (jj_up m 29 6 ((m 29 6) + 1)) 29 5 ((m 29 5) - 1)) 29 6 (((m 29 6) + 1) + 1)) 29 5) + 1).toNatClampNeg) (-1)) Q
              exact ez_ret rfl (by decide) rfl (g5 h1 h2 h8 h13 h18 h30 h31)
            · show ez xs 35 101 [some (.ref 29), some (.int (m 33 (m 29 5).toNatClampNeg)), some (.int 1)] [.int 0] (jj_up (jj_up (jj_up m 29 6 ((m 29 6) + 1)) 29 5 ((m 29 5) - 1)) 29 6 (((m 29 6) + 1) + 1)) Q
              exact ez_ret rfl (by decide) rfl (g6 h1 h2 h8 h13 h18 h32 h33)
      · show ez xs 35 39 [some (.ref 29), some (.int (m 33 (m 29 5).toNatClampNeg)), none] [.ref (5 + (0 : Int32).toNatClampNeg)] m Q
        refine ez_getN rfl (z_ndi (vp_lt (b4 h1 h2 h9 h10))) (z_nds (vp_lt (b4 h1 h2 h9 h10))) (by decide) rfl ?_
        show ez xs 35 42 [some (.ref 29), some (.int (m 33 (m 29 5).toNatClampNeg)), none] [.int (m (5 + (0 : Int32).toNatClampNeg) 4)] m Q
        refine ez_if_ne rfl (fun h34 => ?_) (fun h34 => ?_)
        · show ez xs 35 49 [some (.ref 29), some (.int (m 33 (m 29 5).toNatClampNeg)), none] [] m Q
          refine ez_blk 15 rfl ?_
          show ez xs 35 72 [some (.ref 29), some (.int (m 33 (m 29 5).toNatClampNeg)), some (.int 0)] [.int 0] (jj_up (jj_up m 29 6 ((m 29 6) + 1)) 29 5 ((m 29 5) - 1)) Q
          refine ez_if_eq rfl (fun _ => ?_) (fun h => False.elim (by revert h; decide))
          show ez xs 35 102 [some (.ref 29), some (.int (m 33 (m 29 5).toNatClampNeg)), some (.int 0)] [] (jj_up (jj_up m 29 6 ((m 29 6) + 1)) 29 5 ((m 29 5) - 1)) Q
          refine ez_blk 1 rfl ?_
          show ez xs 35 103 [some (.ref 29), some (.int (m 33 (m 29 5).toNatClampNeg)), some (.int 0)] [.int 1] (jj_up (jj_up m 29 6 ((m 29 6) + 1)) 29 5 ((m 29 5) - 1)) Q
          exact ez_ret rfl (by decide) rfl (g7 h1 h2 h9 h10 h34)
        · show ez xs 35 45 [some (.ref 29), some (.int (m 33 (m 29 5).toNatClampNeg)), none] [] m Q
          refine ez_blk 16 rfl ?_
          show ez xs 35 72 [some (.ref 29), some (.int (m 33 (m 29 5).toNatClampNeg)), some (.int 1)] [.int 1] (jj_up (jj_up m 29 6 ((m 29 6) + 1)) 29 5 ((m 29 5) - 1)) Q
          refine ez_if_eq rfl (fun h => False.elim (by revert h; decide)) (fun _ => ?_)
          show ez xs 35 75 [some (.ref 29), some (.int (m 33 (m 29 5).toNatClampNeg)), some (.int 1)] [] (jj_up (jj_up m 29 6 ((m 29 6) + 1)) 29 5 ((m 29 5) - 1)) Q
          refine ez_blk 2 rfl ?_
          show ez xs 35 77 [some (.ref 29), some (.int (m 33 (m 29 5).toNatClampNeg)), some (.int 1)] [.int 0, .ref 29] (jj_up (jj_up m 29 6 ((m 29 6) + 1)) 29 5 ((m 29 5) - 1)) Q
          refine ez_call (as := [.ref 29, .int 0]) (rest := []) rfl (by decide) rfl ?_
          refine c_Parser_ahead (fun h35 h36 => b15 h1 h2 h9 h10 h34 h35 h36) (fun h37 h38 => b16 h1 h2 h9 h10 h34 h37 h38) (b17 h1 h2 h9 h10 h34) ?_
          show ez xs 35 80 [some (.ref 29), some (.int (m 33 (m 29 5).toNatClampNeg)), some (.int 1)] [.int (f_Tokens_sign (jj_up (jj_up m 29 6 ((m 29 6) + 1)) 29 5 ((m 29 5) - 1)) (((jj_up (jj_up m 29 6 ((m 29 6) + 1)) 29 5 ((m 29 5) - 1)) 29 6) + 0))] (jj_up (jj_up m 29 6 ((m 29 6) + 1)) 29 5 ((m 29 5) - 1)) Q
          refine ez_blk 1 rfl ?_
          show ez xs 35 82 [some (.ref 29), some (.int (m 33 (m 29 5).toNatClampNeg)), some (.int 1)] [.int 58, .int (f_Tokens_sign (jj_up (jj_up m 29 6 ((m 29 6) + 1)) 29 5 ((m 29 5) - 1)) (((jj_up (jj_up m 29 6 ((m 29 6) + 1)) 29 5 ((m 29 5) - 1)) 29 6) + 0))] (jj_up (jj_up m 29 6 ((m 29 6) + 1)) 29 5 ((m 29 5) - 1)) Q
          refine ez_icmp_ne rfl (fun h39 => ?_) (fun h39 => ?_)
          · show ez xs 35 102 [some (.ref 29), some (.int (m 33 (m 29 5).toNatClampNeg)), some (.int 1)] [] (jj_up (jj_up m 29 6 ((m 29 6) + 1)) 29 5 ((m 29 5) - 1)) Q
            refine ez_blk 1 rfl ?_
            show ez xs 35 103 [some (.ref 29), some (.int (m 33 (m 29 5).toNatClampNeg)), some (.int 1)] [.int 1] (jj_up (jj_up m 29 6 ((m 29 6) + 1)) 29 5 ((m 29 5) - 1)) Q
            exact ez_ret rfl (by decide) rfl (g8 h1 h2 h9 h10 h34 h39)
          · show ez xs 35 85 [some (.ref 29), some (.int (m 33 (m 29 5).toNatClampNeg)), some (.int 1)] [] (jj_up (jj_up m 29 6 ((m 29 6) + 1)) 29 5 ((m 29 5) - 1)) Q
            refine ez_blk 9 rfl ?_
            show ez xs 35 98 [some (.ref 29), some (.int (m 33 (m 29 5).toNatClampNeg)), some (.int 1)] [.int 1, .int (m 33 (m 29 5).toNatClampNeg), .ref 29] (jj_up (jj_up (jj_up m 29 6 ((m 29 6) + 1)) 29 5 ((m 29 5) - 1)) 29 6 (((m 29 6) + 1) + 1)) Q
            refine ez_call (as := [.ref 29, .int (m 33 (m 29 5).toNatClampNeg), .int 1]) (rest := []) rfl (by decide) rfl ?_
            refine c_Parser_openRow (fun h40 h41 => b18 h1 h2 h9 h10 h34 h39 h40 h41) (fun h42 h43 => b19 h1 h2 h9 h10 h34 h39 h42 h43) (b20 h1 h2 h9 h10 h34 h39) (fun h44 h45 => b21 h1 h2 h9 h10 h34 h39 h44 h45) (fun h46 h47 => b22 h1 h2 h9 h10 h34 h39 h46 h47) (fun h48 h49 => b23 h1 h2 h9 h10 h34 h39 h48 h49) (fun h50 => ?_) (fun h51 h52 => ?_) (fun h53 h54 => ?_)
            · show ez xs 35 101 [some (.ref 29), some (.int (m 33 (m 29 5).toNatClampNeg)), some (.int 1)] [.int 0] (jj_up (jj_up (jj_up m 29 6 ((m 29 6) + 1)) 29 5 ((m 29 5) - 1)) 29 6 (((m 29 6) + 1) + 1)) Q
              exact ez_ret rfl (by decide) rfl (g9 h1 h2 h9 h10 h34 h39 h50)
            · show ez xs 35 101 [some (.ref 29), some (.int (m 33 (m 29 5).toNatClampNeg)), some (.int 1)] [.int 1] (jj_up (jj_up (jj_up (jj_up (jj_up (jj_up (jj_up (jj_up m 29 6 ((m 29 6) + 1)) 29 5 ((m 29 5) - 1)) 29 6 (((m 29 6) + 1) + 1)) 29 6 (((jj_up (jj_up (jj_up m 29 6 ((m 29 6) + 1)) 29 5 ((m 29 5) - 1)) 29 6 (((m 29 6) + 1) + 1)) 29 6) + 1)) 29 5 (((jj_up (jj_up (jj_up m 29 6 ((m 29 6) + 1)) 29 5 ((m 29 5) - 1)) 29 6 (((m 29 6) + 1) + 1)) 29 5) + 1)) 33 ((((jj_up (jj_up (jj_up m 29 6 ((m 29 6) + 1)) 29 5 ((m 29 5) - 1)) 29 6 (((m 29 6) + 1) + 1)) 29 5) + 1).toNatClampNeg) (m 33 (m 29 5).toNatClampNeg)) 34 ((((jj_up (jj_up (jj_up m 29 6 ((m 29 6) + 1)) 29 5 ((m 29 5) - 1)) 29 6 (((m 29 6) + 1) + 1)) 29 5) + 1).toNatClampNeg) 1) 35 ((((jj_up (jj_up (jj_up m 29 6 ((m 29 6) + 1)) 29 5 ((m 29 5) - 1)) 29 6 (((m 29 6) + 1) + 1)) 29 5) + 1).toNatClampNeg) (-1)) Q
              exact ez_ret rfl (by decide) rfl (g10 h1 h2 h9 h10 h34 h39 h51 h52)
            · show ez xs 35 101 [some (.ref 29), some (.int (m 33 (m 29 5).toNatClampNeg)), some (.int 1)] [.int 0] (jj_up (jj_up (jj_up m 29 6 ((m 29 6) + 1)) 29 5 ((m 29 5) - 1)) 29 6 (((m 29 6) + 1) + 1)) Q
              exact ez_ret rfl (by decide) rfl (g11 h1 h2 h9 h10 h34 h39 h53 h54)
      · show ez xs 35 39 [some (.ref 29), some (.int (m 33 (m 29 5).toNatClampNeg)), none] [.ref (5 + (m 33 (m 29 5).toNatClampNeg).toNatClampNeg)] m Q
        refine ez_getN rfl (z_ndi (vp_lt (b5 h1 h2 h11 h12))) (z_nds (vp_lt (b5 h1 h2 h11 h12))) (by decide) rfl ?_
        show ez xs 35 42 [some (.ref 29), some (.int (m 33 (m 29 5).toNatClampNeg)), none] [.int (m (5 + (m 33 (m 29 5).toNatClampNeg).toNatClampNeg) 4)] m Q
        refine ez_if_ne rfl (fun h55 => ?_) (fun h55 => ?_)
        · show ez xs 35 49 [some (.ref 29), some (.int (m 33 (m 29 5).toNatClampNeg)), none] [] m Q
          refine ez_blk 15 rfl ?_
          show ez xs 35 72 [some (.ref 29), some (.int (m 33 (m 29 5).toNatClampNeg)), some (.int 0)] [.int 0] (jj_up (jj_up m 29 6 ((m 29 6) + 1)) 29 5 ((m 29 5) - 1)) Q
          refine ez_if_eq rfl (fun _ => ?_) (fun h => False.elim (by revert h; decide))
          show ez xs 35 102 [some (.ref 29), some (.int (m 33 (m 29 5).toNatClampNeg)), some (.int 0)] [] (jj_up (jj_up m 29 6 ((m 29 6) + 1)) 29 5 ((m 29 5) - 1)) Q
          refine ez_blk 1 rfl ?_
          show ez xs 35 103 [some (.ref 29), some (.int (m 33 (m 29 5).toNatClampNeg)), some (.int 0)] [.int 1] (jj_up (jj_up m 29 6 ((m 29 6) + 1)) 29 5 ((m 29 5) - 1)) Q
          exact ez_ret rfl (by decide) rfl (g12 h1 h2 h11 h12 h55)
        · show ez xs 35 45 [some (.ref 29), some (.int (m 33 (m 29 5).toNatClampNeg)), none] [] m Q
          refine ez_blk 16 rfl ?_
          show ez xs 35 72 [some (.ref 29), some (.int (m 33 (m 29 5).toNatClampNeg)), some (.int 1)] [.int 1] (jj_up (jj_up m 29 6 ((m 29 6) + 1)) 29 5 ((m 29 5) - 1)) Q
          refine ez_if_eq rfl (fun h => False.elim (by revert h; decide)) (fun _ => ?_)
          show ez xs 35 75 [some (.ref 29), some (.int (m 33 (m 29 5).toNatClampNeg)), some (.int 1)] [] (jj_up (jj_up m 29 6 ((m 29 6) + 1)) 29 5 ((m 29 5) - 1)) Q
          refine ez_blk 2 rfl ?_
          show ez xs 35 77 [some (.ref 29), some (.int (m 33 (m 29 5).toNatClampNeg)), some (.int 1)] [.int 0, .ref 29] (jj_up (jj_up m 29 6 ((m 29 6) + 1)) 29 5 ((m 29 5) - 1)) Q
          refine ez_call (as := [.ref 29, .int 0]) (rest := []) rfl (by decide) rfl ?_
          refine c_Parser_ahead (fun h56 h57 => b24 h1 h2 h11 h12 h55 h56 h57) (fun h58 h59 => b25 h1 h2 h11 h12 h55 h58 h59) (b26 h1 h2 h11 h12 h55) ?_
          show ez xs 35 80 [some (.ref 29), some (.int (m 33 (m 29 5).toNatClampNeg)), some (.int 1)] [.int (f_Tokens_sign (jj_up (jj_up m 29 6 ((m 29 6) + 1)) 29 5 ((m 29 5) - 1)) (((jj_up (jj_up m 29 6 ((m 29 6) + 1)) 29 5 ((m 29 5) - 1)) 29 6) + 0))] (jj_up (jj_up m 29 6 ((m 29 6) + 1)) 29 5 ((m 29 5) - 1)) Q
          refine ez_blk 1 rfl ?_
          show ez xs 35 82 [some (.ref 29), some (.int (m 33 (m 29 5).toNatClampNeg)), some (.int 1)] [.int 58, .int (f_Tokens_sign (jj_up (jj_up m 29 6 ((m 29 6) + 1)) 29 5 ((m 29 5) - 1)) (((jj_up (jj_up m 29 6 ((m 29 6) + 1)) 29 5 ((m 29 5) - 1)) 29 6) + 0))] (jj_up (jj_up m 29 6 ((m 29 6) + 1)) 29 5 ((m 29 5) - 1)) Q
          refine ez_icmp_ne rfl (fun h60 => ?_) (fun h60 => ?_)
          · show ez xs 35 102 [some (.ref 29), some (.int (m 33 (m 29 5).toNatClampNeg)), some (.int 1)] [] (jj_up (jj_up m 29 6 ((m 29 6) + 1)) 29 5 ((m 29 5) - 1)) Q
            refine ez_blk 1 rfl ?_
            show ez xs 35 103 [some (.ref 29), some (.int (m 33 (m 29 5).toNatClampNeg)), some (.int 1)] [.int 1] (jj_up (jj_up m 29 6 ((m 29 6) + 1)) 29 5 ((m 29 5) - 1)) Q
            exact ez_ret rfl (by decide) rfl (g13 h1 h2 h11 h12 h55 h60)
          · show ez xs 35 85 [some (.ref 29), some (.int (m 33 (m 29 5).toNatClampNeg)), some (.int 1)] [] (jj_up (jj_up m 29 6 ((m 29 6) + 1)) 29 5 ((m 29 5) - 1)) Q
            refine ez_blk 9 rfl ?_
            show ez xs 35 98 [some (.ref 29), some (.int (m 33 (m 29 5).toNatClampNeg)), some (.int 1)] [.int 1, .int (m 33 (m 29 5).toNatClampNeg), .ref 29] (jj_up (jj_up (jj_up m 29 6 ((m 29 6) + 1)) 29 5 ((m 29 5) - 1)) 29 6 (((m 29 6) + 1) + 1)) Q
            refine ez_call (as := [.ref 29, .int (m 33 (m 29 5).toNatClampNeg), .int 1]) (rest := []) rfl (by decide) rfl ?_
            refine c_Parser_openRow (fun h61 h62 => b27 h1 h2 h11 h12 h55 h60 h61 h62) (fun h63 h64 => b28 h1 h2 h11 h12 h55 h60 h63 h64) (b29 h1 h2 h11 h12 h55 h60) (fun h65 h66 => b30 h1 h2 h11 h12 h55 h60 h65 h66) (fun h67 h68 => b31 h1 h2 h11 h12 h55 h60 h67 h68) (fun h69 h70 => b32 h1 h2 h11 h12 h55 h60 h69 h70) (fun h71 => ?_) (fun h72 h73 => ?_) (fun h74 h75 => ?_)
            · show ez xs 35 101 [some (.ref 29), some (.int (m 33 (m 29 5).toNatClampNeg)), some (.int 1)] [.int 0] (jj_up (jj_up (jj_up m 29 6 ((m 29 6) + 1)) 29 5 ((m 29 5) - 1)) 29 6 (((m 29 6) + 1) + 1)) Q
              exact ez_ret rfl (by decide) rfl (g14 h1 h2 h11 h12 h55 h60 h71)
            · show ez xs 35 101 [some (.ref 29), some (.int (m 33 (m 29 5).toNatClampNeg)), some (.int 1)] [.int 1] (jj_up (jj_up (jj_up (jj_up (jj_up (jj_up (jj_up (jj_up m 29 6 ((m 29 6) + 1)) 29 5 ((m 29 5) - 1)) 29 6 (((m 29 6) + 1) + 1)) 29 6 (((jj_up (jj_up (jj_up m 29 6 ((m 29 6) + 1)) 29 5 ((m 29 5) - 1)) 29 6 (((m 29 6) + 1) + 1)) 29 6) + 1)) 29 5 (((jj_up (jj_up (jj_up m 29 6 ((m 29 6) + 1)) 29 5 ((m 29 5) - 1)) 29 6 (((m 29 6) + 1) + 1)) 29 5) + 1)) 33 ((((jj_up (jj_up (jj_up m 29 6 ((m 29 6) + 1)) 29 5 ((m 29 5) - 1)) 29 6 (((m 29 6) + 1) + 1)) 29 5) + 1).toNatClampNeg) (m 33 (m 29 5).toNatClampNeg)) 34 ((((jj_up (jj_up (jj_up m 29 6 ((m 29 6) + 1)) 29 5 ((m 29 5) - 1)) 29 6 (((m 29 6) + 1) + 1)) 29 5) + 1).toNatClampNeg) 1) 35 ((((jj_up (jj_up (jj_up m 29 6 ((m 29 6) + 1)) 29 5 ((m 29 5) - 1)) 29 6 (((m 29 6) + 1) + 1)) 29 5) + 1).toNatClampNeg) (-1)) Q
              exact ez_ret rfl (by decide) rfl (g15 h1 h2 h11 h12 h55 h60 h72 h73)
            · show ez xs 35 101 [some (.ref 29), some (.int (m 33 (m 29 5).toNatClampNeg)), some (.int 1)] [.int 0] (jj_up (jj_up (jj_up m 29 6 ((m 29 6) + 1)) 29 5 ((m 29 5) - 1)) 29 6 (((m 29 6) + 1) + 1)) Q
              exact ez_ret rfl (by decide) rfl (g16 h1 h2 h11 h12 h55 h60 h74 h75)
  · show ez xs 35 7 [some (.ref 29), none, none] [] m Q
    refine ez_blk 1 rfl ?_
    show ez xs 35 8 [some (.ref 29), none, none] [.int 0] m Q
    exact ez_ret rfl (by decide) rfl (g17 h1)
set_option maxRecDepth 100000 in
set_option maxHeartbeats 2000000 in
theorem c_String_isLatin1 {xs : jx_Xs} {m : zM} {Q : Option Value → zM → Prop}
    (g1 : Q (some (.int 1)) m) : ez xs 37 0 (jx_ent 37 [.ref 1000000]) [] m Q := by
  refine ez_blk 1 rfl ?_
  show ez xs 37 3 [some (.ref 1000000)] [.int 1] m Q
  refine ez_if_eq rfl (fun h => False.elim (by revert h; decide)) (fun _ => ?_)
  show ez xs 37 6 [some (.ref 1000000)] [] m Q
  refine ez_blk 2 rfl ?_
  show ez xs 37 10 [some (.ref 1000000)] [.int 0] m Q
  refine ez_if_ne rfl (fun h => False.elim (by revert h; decide)) (fun _ => ?_)
  show ez xs 37 13 [some (.ref 1000000)] [] m Q
  refine ez_blk 2 rfl ?_
  show ez xs 37 18 [some (.ref 1000000)] [.int 1] m Q
  exact ez_ret rfl (by decide) rfl (g1)
