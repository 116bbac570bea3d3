/-! dots, plus, possible of the reference, by program. -/
set_option maxRecDepth 100000 in
set_option maxHeartbeats 2000000 in
theorem c_M_dots {xs : jx_Xs} {m : zM} {Q : Option Value → zM → Prop} {o f x y : Int32}
    (b1 : (¬ m 131 21 = 0) → vp_in ((m 131 21) - 1) 6)
    (b2 : (f_M_noLast m = 0) → (o = (-1)) → (o = (-1)) → vp_in ((m 131 21) - 1) 6)
    (b3 : (f_M_noLast m = 0) → (o = (-1)) → (o = (-1)) → vp_in ((m 131 21) - 1) 6)
    (b4 : (f_M_noLast m = 0) → (o = (-1)) → (o = (-1)) → vp_in ((m 131 21) - 1) 6)
    (b5 : (f_M_noLast m = 0) → (o = (-1)) → (o = (-1)) → vp_in ((m 131 21) - 1) 6)
    (b6 : (f_M_noLast m = 0) → (o = (-1)) → (o = (-1)) → vp_in ((m 131 21) - 1) 6)
    (b7 : (f_M_noLast m = 0) → (o = (-1)) → (¬ o = (-1)) → hN6 m)
    (b8 : (f_M_noLast m = 0) → (o = (-1)) → (¬ o = (-1)) → ((f_M_names m o x y) &&& ((rNamed m) ^^^ (-1)) = 0) → vp_in ((m 131 21) - 1) 6)
    (b9 : (f_M_noLast m = 0) → (o = (-1)) → (¬ o = (-1)) → ((f_M_names m o x y) &&& ((rNamed m) ^^^ (-1)) = 0) → vp_in ((m 131 21) - 1) 6)
    (b10 : (f_M_noLast m = 0) → (o = (-1)) → (¬ o = (-1)) → ((f_M_names m o x y) &&& ((rNamed m) ^^^ (-1)) = 0) → vp_in ((m 131 21) - 1) 6)
    (b11 : (f_M_noLast m = 0) → (o = (-1)) → (¬ o = (-1)) → ((f_M_names m o x y) &&& ((rNamed m) ^^^ (-1)) = 0) → vp_in ((m 131 21) - 1) 6)
    (b12 : (f_M_noLast m = 0) → (o = (-1)) → (¬ o = (-1)) → ((f_M_names m o x y) &&& ((rNamed m) ^^^ (-1)) = 0) → vp_in ((m 131 21) - 1) 6)
    (b13 : (f_M_noLast m = 0) → (¬ o = (-1)) → (¬ f_M_valid m o f x y = 0) → (o = (-1)) → vp_in ((m 131 21) - 1) 6)
    (b14 : (f_M_noLast m = 0) → (¬ o = (-1)) → (¬ f_M_valid m o f x y = 0) → (o = (-1)) → vp_in ((m 131 21) - 1) 6)
    (b15 : (f_M_noLast m = 0) → (¬ o = (-1)) → (¬ f_M_valid m o f x y = 0) → (o = (-1)) → vp_in ((m 131 21) - 1) 6)
    (b16 : (f_M_noLast m = 0) → (¬ o = (-1)) → (¬ f_M_valid m o f x y = 0) → (o = (-1)) → vp_in ((m 131 21) - 1) 6)
    (b17 : (f_M_noLast m = 0) → (¬ o = (-1)) → (¬ f_M_valid m o f x y = 0) → (o = (-1)) → vp_in ((m 131 21) - 1) 6)
    (b18 : (f_M_noLast m = 0) → (¬ o = (-1)) → (¬ f_M_valid m o f x y = 0) → (¬ o = (-1)) → hN6 m)
    (b19 : (f_M_noLast m = 0) → (¬ o = (-1)) → (¬ f_M_valid m o f x y = 0) → (¬ o = (-1)) → ((f_M_names m o x y) &&& ((rNamed m) ^^^ (-1)) = 0) → vp_in ((m 131 21) - 1) 6)
    (b20 : (f_M_noLast m = 0) → (¬ o = (-1)) → (¬ f_M_valid m o f x y = 0) → (¬ o = (-1)) → ((f_M_names m o x y) &&& ((rNamed m) ^^^ (-1)) = 0) → vp_in ((m 131 21) - 1) 6)
    (b21 : (f_M_noLast m = 0) → (¬ o = (-1)) → (¬ f_M_valid m o f x y = 0) → (¬ o = (-1)) → ((f_M_names m o x y) &&& ((rNamed m) ^^^ (-1)) = 0) → vp_in ((m 131 21) - 1) 6)
    (b22 : (f_M_noLast m = 0) → (¬ o = (-1)) → (¬ f_M_valid m o f x y = 0) → (¬ o = (-1)) → ((f_M_names m o x y) &&& ((rNamed m) ^^^ (-1)) = 0) → vp_in ((m 131 21) - 1) 6)
    (b23 : (f_M_noLast m = 0) → (¬ o = (-1)) → (¬ f_M_valid m o f x y = 0) → (¬ o = (-1)) → ((f_M_names m o x y) &&& ((rNamed m) ^^^ (-1)) = 0) → vp_in ((m 131 21) - 1) 6)
    (g1 : (¬ f_M_noLast m = 0) → Q (some (.int 0)) m)
    (g2 : (f_M_noLast m = 0) → (o = (-1)) → (o = (-1)) → Q (some (.int 1)) (jj_up (jj_up (jj_up (jj_up (jj_up m 154 (((m 131 21) - 1).toNatClampNeg) (vp_nar .boolean 1)) 155 (((m 131 21) - 1).toNatClampNeg) o) 156 (((m 131 21) - 1).toNatClampNeg) f) 157 (((m 131 21) - 1).toNatClampNeg) x) 158 (((m 131 21) - 1).toNatClampNeg) y))
    (g3 : (f_M_noLast m = 0) → (o = (-1)) → (¬ o = (-1)) → ((f_M_names m o x y) &&& ((rNamed m) ^^^ (-1)) = 0) → Q (some (.int 1)) (jj_up (jj_up (jj_up (jj_up (jj_up m 154 (((m 131 21) - 1).toNatClampNeg) (vp_nar .boolean 1)) 155 (((m 131 21) - 1).toNatClampNeg) o) 156 (((m 131 21) - 1).toNatClampNeg) f) 157 (((m 131 21) - 1).toNatClampNeg) x) 158 (((m 131 21) - 1).toNatClampNeg) y))
    (g4 : (f_M_noLast m = 0) → (o = (-1)) → (¬ o = (-1)) → (¬ (f_M_names m o x y) &&& ((rNamed m) ^^^ (-1)) = 0) → Q (some (.int 0)) m)
    (g5 : (f_M_noLast m = 0) → (¬ o = (-1)) → (f_M_valid m o f x y = 0) → Q (some (.int 0)) m)
    (g6 : (f_M_noLast m = 0) → (¬ o = (-1)) → (¬ f_M_valid m o f x y = 0) → (o = (-1)) → Q (some (.int 1)) (jj_up (jj_up (jj_up (jj_up (jj_up m 154 (((m 131 21) - 1).toNatClampNeg) (vp_nar .boolean 1)) 155 (((m 131 21) - 1).toNatClampNeg) o) 156 (((m 131 21) - 1).toNatClampNeg) f) 157 (((m 131 21) - 1).toNatClampNeg) x) 158 (((m 131 21) - 1).toNatClampNeg) y))
    (g7 : (f_M_noLast m = 0) → (¬ o = (-1)) → (¬ f_M_valid m o f x y = 0) → (¬ o = (-1)) → ((f_M_names m o x y) &&& ((rNamed m) ^^^ (-1)) = 0) → Q (some (.int 1)) (jj_up (jj_up (jj_up (jj_up (jj_up m 154 (((m 131 21) - 1).toNatClampNeg) (vp_nar .boolean 1)) 155 (((m 131 21) - 1).toNatClampNeg) o) 156 (((m 131 21) - 1).toNatClampNeg) f) 157 (((m 131 21) - 1).toNatClampNeg) x) 158 (((m 131 21) - 1).toNatClampNeg) y))
    (g8 : (f_M_noLast m = 0) → (¬ o = (-1)) → (¬ f_M_valid m o f x y = 0) → (¬ o = (-1)) → (¬ (f_M_names m o x y) &&& ((rNamed m) ^^^ (-1)) = 0) → Q (some (.int 0)) m) : ez xs 104 0 (jx_ent 104 [.ref 131, .int o, .int f, .int x, .int y]) [] m Q := by
  refine ez_blk 1 rfl ?_
  show ez xs 104 1 [some (.ref 131), some (.int o), some (.int f), some (.int x), some (.int y), none] [.ref 131] m Q
  refine ez_call (as := [.ref 131]) (rest := []) rfl (by decide) rfl ?_
  refine d_M_noLast (fun h1 => b1 h1) ?_
  show ez xs 104 4 [some (.ref 131), some (.int o), some (.int f), some (.int x), some (.int y), none] [.int (f_M_noLast m)] m Q
  refine ez_if_ne rfl (fun h2 => ?_) (fun h2 => ?_)
  · show ez xs 104 47 [some (.ref 131), some (.int o), some (.int f), some (.int x), some (.int y), none] [] m Q
    refine ez_blk 1 rfl ?_
    show ez xs 104 48 [some (.ref 131), some (.int o), some (.int f), some (.int x), some (.int y), none] [.int 0] m Q
    exact ez_ret rfl (by decide) rfl (g1 h2)
  · show ez xs 104 7 [some (.ref 131), some (.int o), some (.int f), some (.int x), some (.int y), none] [] m Q
    refine ez_blk 2 rfl ?_
    show ez xs 104 9 [some (.ref 131), some (.int o), some (.int f), some (.int x), some (.int y), none] [.int (-1), .int o] m Q
    refine ez_icmp_eq rfl (fun h3 => ?_) (fun h3 => ?_)
    · show ez xs 104 24 [some (.ref 131), some (.int o), some (.int f), some (.int x), some (.int y), none] [] m Q
      refine ez_blk 2 rfl ?_
      show ez xs 104 26 [some (.ref 131), some (.int o), some (.int f), some (.int x), some (.int y), none] [.int (-1), .int o] m Q
      refine ez_icmp_eq rfl (fun h4 => ?_) (fun h4 => ?_)
      · show ez xs 104 49 [some (.ref 131), some (.int o), some (.int f), some (.int x), some (.int y), none] [] m Q
        refine ez_blk 9 rfl ?_
        show ez xs 104 64 [some (.ref 131), some (.int o), some (.int f), some (.int x), some (.int y), some (.int ((m 131 21) - 1))] [.int 1, .int ((m 131 21) - 1), .ref 154] m Q
        refine ez_zastv rfl (by decide) rfl (b2 h2 h3 h4) ?_
        show ez xs 104 65 [some (.ref 131), some (.int o), some (.int f), some (.int x), some (.int y), some (.int ((m 131 21) - 1))] [] (jj_up m 154 (((m 131 21) - 1).toNatClampNeg) (vp_nar .boolean 1)) Q
        refine ez_blk 4 rfl ?_
        show ez xs 104 72 [some (.ref 131), some (.int o), some (.int f), some (.int x), some (.int y), some (.int ((m 131 21) - 1))] [.int o, .int ((m 131 21) - 1), .ref 155] (jj_up m 154 (((m 131 21) - 1).toNatClampNeg) (vp_nar .boolean 1)) Q
        refine ez_iastv rfl (by decide) rfl (b3 h2 h3 h4) ?_
        show ez xs 104 73 [some (.ref 131), some (.int o), some (.int f), some (.int x), some (.int y), some (.int ((m 131 21) - 1))] [] (jj_up (jj_up m 154 (((m 131 21) - 1).toNatClampNeg) (vp_nar .boolean 1)) 155 (((m 131 21) - 1).toNatClampNeg) o) Q
        refine ez_blk 4 rfl ?_
        show ez xs 104 80 [some (.ref 131), some (.int o), some (.int f), some (.int x), some (.int y), some (.int ((m 131 21) - 1))] [.int f, .int ((m 131 21) - 1), .ref 156] (jj_up (jj_up m 154 (((m 131 21) - 1).toNatClampNeg) (vp_nar .boolean 1)) 155 (((m 131 21) - 1).toNatClampNeg) o) Q
        refine ez_iastv rfl (by decide) rfl (b4 h2 h3 h4) ?_
        show ez xs 104 81 [some (.ref 131), some (.int o), some (.int f), some (.int x), some (.int y), some (.int ((m 131 21) - 1))] [] (jj_up (jj_up (jj_up m 154 (((m 131 21) - 1).toNatClampNeg) (vp_nar .boolean 1)) 155 (((m 131 21) - 1).toNatClampNeg) o) 156 (((m 131 21) - 1).toNatClampNeg) f) Q
        refine ez_blk 4 rfl ?_
        show ez xs 104 88 [some (.ref 131), some (.int o), some (.int f), some (.int x), some (.int y), some (.int ((m 131 21) - 1))] [.int x, .int ((m 131 21) - 1), .ref 157] (jj_up (jj_up (jj_up m 154 (((m 131 21) - 1).toNatClampNeg) (vp_nar .boolean 1)) 155 (((m 131 21) - 1).toNatClampNeg) o) 156 (((m 131 21) - 1).toNatClampNeg) f) Q
        refine ez_iastv rfl (by decide) rfl (b5 h2 h3 h4) ?_
        show ez xs 104 89 [some (.ref 131), some (.int o), some (.int f), some (.int x), some (.int y), some (.int ((m 131 21) - 1))] [] (jj_up (jj_up (jj_up (jj_up m 154 (((m 131 21) - 1).toNatClampNeg) (vp_nar .boolean 1)) 155 (((m 131 21) - 1).toNatClampNeg) o) 156 (((m 131 21) - 1).toNatClampNeg) f) 157 (((m 131 21) - 1).toNatClampNeg) x) Q
        refine ez_blk 4 rfl ?_
        show ez xs 104 97 [some (.ref 131), some (.int o), some (.int f), some (.int x), some (.int y), some (.int ((m 131 21) - 1))] [.int y, .int ((m 131 21) - 1), .ref 158] (jj_up (jj_up (jj_up (jj_up m 154 (((m 131 21) - 1).toNatClampNeg) (vp_nar .boolean 1)) 155 (((m 131 21) - 1).toNatClampNeg) o) 156 (((m 131 21) - 1).toNatClampNeg) f) 157 (((m 131 21) - 1).toNatClampNeg) x) Q
        refine ez_iastv rfl (by decide) rfl (b6 h2 h3 h4) ?_
        show ez xs 104 98 [some (.ref 131), some (.int o), some (.int f), some (.int x), some (.int y), some (.int ((m 131 21) - 1))] [] (jj_up (jj_up (jj_up (jj_up (jj_up m 154 (((m 131 21) - 1).toNatClampNeg) (vp_nar .boolean 1)) 155 (((m 131 21) - 1).toNatClampNeg) o) 156 (((m 131 21) - 1).toNatClampNeg) f) 157 (((m 131 21) - 1).toNatClampNeg) x) 158 (((m 131 21) - 1).toNatClampNeg) y) Q
        refine ez_blk 1 rfl ?_
        show ez xs 104 99 [some (.ref 131), some (.int o), some (.int f), some (.int x), some (.int y), some (.int ((m 131 21) - 1))] [.int 1] (jj_up (jj_up (jj_up (jj_up (jj_up m 154 (((m 131 21) - 1).toNatClampNeg) (vp_nar .boolean 1)) 155 (((m 131 21) - 1).toNatClampNeg) o) 156 (((m 131 21) - 1).toNatClampNeg) f) 157 (((m 131 21) - 1).toNatClampNeg) x) 158 (((m 131 21) - 1).toNatClampNeg) y) Q
        exact ez_ret rfl (by decide) rfl (g2 h2 h3 h4)
      · show ez xs 104 29 [some (.ref 131), some (.int o), some (.int f), some (.int x), some (.int y), none] [] m Q
        refine ez_blk 4 rfl ?_
        show ez xs 104 34 [some (.ref 131), some (.int o), some (.int f), some (.int x), some (.int y), none] [.int y, .int x, .int o, .ref 131] m Q
        refine ez_call (as := [.ref 131, .int o, .int x, .int y]) (rest := []) rfl (by decide) rfl ?_
        refine d_M_names ?_
        show ez xs 104 37 [some (.ref 131), some (.int o), some (.int f), some (.int x), some (.int y), none] [.int (f_M_names m o x y)] m Q
        refine ez_blk 1 rfl ?_
        show ez xs 104 38 [some (.ref 131), some (.int o), some (.int f), some (.int x), some (.int y), none] [.ref 131, .int (f_M_names m o x y)] m Q
        refine ez_call (as := [.ref 131]) (rest := [.int (f_M_names m o x y)]) rfl (by decide) rfl ?_
        refine h_M_named (b7 h2 h3 h4) ?_
        show ez xs 104 41 [some (.ref 131), some (.int o), some (.int f), some (.int x), some (.int y), none] [.int (rNamed m), .int (f_M_names m o x y)] m Q
        refine ez_blk 3 rfl ?_
        show ez xs 104 44 [some (.ref 131), some (.int o), some (.int f), some (.int x), some (.int y), none] [.int ((f_M_names m o x y) &&& ((rNamed m) ^^^ (-1)))] m Q
        refine ez_if_eq rfl (fun h5 => ?_) (fun h5 => ?_)
        · show ez xs 104 49 [some (.ref 131), some (.int o), some (.int f), some (.int x), some (.int y), none] [] m Q
          refine ez_blk 9 rfl ?_
          show ez xs 104 64 [some (.ref 131), some (.int o), some (.int f), some (.int x), some (.int y), some (.int ((m 131 21) - 1))] [.int 1, .int ((m 131 21) - 1), .ref 154] m Q
          refine ez_zastv rfl (by decide) rfl (b8 h2 h3 h4 h5) ?_
          show ez xs 104 65 [some (.ref 131), some (.int o), some (.int f), some (.int x), some (.int y), some (.int ((m 131 21) - 1))] [] (jj_up m 154 (((m 131 21) - 1).toNatClampNeg) (vp_nar .boolean 1)) Q
          refine ez_blk 4 rfl ?_
          show ez xs 104 72 [some (.ref 131), some (.int o), some (.int f), some (.int x), some (.int y), some (.int ((m 131 21) - 1))] [.int o, .int ((m 131 21) - 1), .ref 155] (jj_up m 154 (((m 131 21) - 1).toNatClampNeg) (vp_nar .boolean 1)) Q
          refine ez_iastv rfl (by decide) rfl (b9 h2 h3 h4 h5) ?_
          show ez xs 104 73 [some (.ref 131), some (.int o), some (.int f), some (.int x), some (.int y), some (.int ((m 131 21) - 1))] [] (jj_up (jj_up m 154 (((m 131 21) - 1).toNatClampNeg) (vp_nar .boolean 1)) 155 (((m 131 21) - 1).toNatClampNeg) o) Q
          refine ez_blk 4 rfl ?_
          show ez xs 104 80 [some (.ref 131), some (.int o), some (.int f), some (.int x), some (.int y), some (.int ((m 131 21) - 1))] [.int f, .int ((m 131 21) - 1), .ref 156] (jj_up (jj_up m 154 (((m 131 21) - 1).toNatClampNeg) (vp_nar .boolean 1)) 155 (((m 131 21) - 1).toNatClampNeg) o) Q
          refine ez_iastv rfl (by decide) rfl (b10 h2 h3 h4 h5) ?_
          show ez xs 104 81 [some (.ref 131), some (.int o), some (.int f), some (.int x), some (.int y), some (.int ((m 131 21) - 1))] [] (jj_up (jj_up (jj_up m 154 (((m 131 21) - 1).toNatClampNeg) (vp_nar .boolean 1)) 155 (((m 131 21) - 1).toNatClampNeg) o) 156 (((m 131 21) - 1).toNatClampNeg) f) Q
          refine ez_blk 4 rfl ?_
          show ez xs 104 88 [some (.ref 131), some (.int o), some (.int f), some (.int x), some (.int y), some (.int ((m 131 21) - 1))] [.int x, .int ((m 131 21) - 1), .ref 157] (jj_up (jj_up (jj_up m 154 (((m 131 21) - 1).toNatClampNeg) (vp_nar .boolean 1)) 155 (((m 131 21) - 1).toNatClampNeg) o) 156 (((m 131 21) - 1).toNatClampNeg) f) Q
          refine ez_iastv rfl (by decide) rfl (b11 h2 h3 h4 h5) ?_
          show ez xs 104 89 [some (.ref 131), some (.int o), some (.int f), some (.int x), some (.int y), some (.int ((m 131 21) - 1))] [] (jj_up (jj_up (jj_up (jj_up m 154 (((m 131 21) - 1).toNatClampNeg) (vp_nar .boolean 1)) 155 (((m 131 21) - 1).toNatClampNeg) o) 156 (((m 131 21) - 1).toNatClampNeg) f) 157 (((m 131 21) - 1).toNatClampNeg) x) Q
          refine ez_blk 4 rfl ?_
          show ez xs 104 97 [some (.ref 131), some (.int o), some (.int f), some (.int x), some (.int y), some (.int ((m 131 21) - 1))] [.int y, .int ((m 131 21) - 1), .ref 158] (jj_up (jj_up (jj_up (jj_up m 154 (((m 131 21) - 1).toNatClampNeg) (vp_nar .boolean 1)) 155 (((m 131 21) - 1).toNatClampNeg) o) 156 (((m 131 21) - 1).toNatClampNeg) f) 157 (((m 131 21) - 1).toNatClampNeg) x) Q
          refine ez_iastv rfl (by decide) rfl (b12 h2 h3 h4 h5) ?_
          show ez xs 104 98 [some (.ref 131), some (.int o), some (.int f), some (.int x), some (.int y), some (.int ((m 131 21) - 1))] [] (jj_up (jj_up (jj_up (jj_up (jj_up m 154 (((m 131 21) - 1).toNatClampNeg) (vp_nar .boolean 1)) 155 (((m 131 21) - 1).toNatClampNeg) o) 156 (((m 131 21) - 1).toNatClampNeg) f) 157 (((m 131 21) - 1).toNatClampNeg) x) 158 (((m 131 21) - 1).toNatClampNeg) y) Q
          refine ez_blk 1 rfl ?_
          show ez xs 104 99 [some (.ref 131), some (.int o), some (.int f), some (.int x), some (.int y), some (.int ((m 131 21) - 1))] [.int 1] (jj_up (jj_up (jj_up (jj_up (jj_up m 154 (((m 131 21) - 1).toNatClampNeg) (vp_nar .boolean 1)) 155 (((m 131 21) - 1).toNatClampNeg) o) 156 (((m 131 21) - 1).toNatClampNeg) f) 157 (((m 131 21) - 1).toNatClampNeg) x) 158 (((m 131 21) - 1).toNatClampNeg) y) Q
          exact ez_ret rfl (by decide) rfl (g3 h2 h3 h4 h5)
        · show ez xs 104 47 [some (.ref 131), some (.int o), some (.int f), some (.int x), some (.int y), none] [] m Q
          refine ez_blk 1 rfl ?_
          show ez xs 104 48 [some (.ref 131), some (.int o), some (.int f), some (.int x), some (.int y), none] [.int 0] m Q
          exact ez_ret rfl (by decide) rfl (g4 h2 h3 h4 h5)
    · show ez xs 104 12 [some (.ref 131), some (.int o), some (.int f), some (.int x), some (.int y), none] [] m Q
      refine ez_blk 5 rfl ?_
      show ez xs 104 18 [some (.ref 131), some (.int o), some (.int f), some (.int x), some (.int y), none] [.int y, .int x, .int f, .int o, .ref 131] m Q
      refine ez_call (as := [.ref 131, .int o, .int f, .int x, .int y]) (rest := []) rfl (by decide) rfl ?_
      refine d_M_valid ?_
      show ez xs 104 21 [some (.ref 131), some (.int o), some (.int f), some (.int x), some (.int y), none] [.int (f_M_valid m o f x y)] m Q
      refine ez_if_eq rfl (fun h6 => ?_) (fun h6 => ?_)
      · show ez xs 104 47 [some (.ref 131), some (.int o), some (.int f), some (.int x), some (.int y), none] [] m Q
        refine ez_blk 1 rfl ?_
        show ez xs 104 48 [some (.ref 131), some (.int o), some (.int f), some (.int x), some (.int y), none] [.int 0] m Q
        exact ez_ret rfl (by decide) rfl (g5 h2 h3 h6)
      · show ez xs 104 24 [some (.ref 131), some (.int o), some (.int f), some (.int x), some (.int y), none] [] m Q
        refine ez_blk 2 rfl ?_
        show ez xs 104 26 [some (.ref 131), some (.int o), some (.int f), some (.int x), some (.int y), none] [.int (-1), .int o] m Q
        refine ez_icmp_eq rfl (fun h7 => ?_) (fun h7 => ?_)
        · show ez xs 104 49 [some (.ref 131), some (.int o), some (.int f), some (.int x), some (.int y), none] [] m Q
          refine ez_blk 9 rfl ?_
          show ez xs 104 64 [some (.ref 131), some (.int o), some (.int f), some (.int x), some (.int y), some (.int ((m 131 21) - 1))] [.int 1, .int ((m 131 21) - 1), .ref 154] m Q
          refine ez_zastv rfl (by decide) rfl (b13 h2 h3 h6 h7) ?_
          show ez xs 104 65 [some (.ref 131), some (.int o), some (.int f), some (.int x), some (.int y), some (.int ((m 131 21) - 1))] [] (jj_up m 154 (((m 131 21) - 1).toNatClampNeg) (vp_nar .boolean 1)) Q
          refine ez_blk 4 rfl ?_
          show ez xs 104 72 [some (.ref 131), some (.int o), some (.int f), some (.int x), some (.int y), some (.int ((m 131 21) - 1))] [.int o, .int ((m 131 21) - 1), .ref 155] (jj_up m 154 (((m 131 21) - 1).toNatClampNeg) (vp_nar .boolean 1)) Q
          refine ez_iastv rfl (by decide) rfl (b14 h2 h3 h6 h7) ?_
          show ez xs 104 73 [some (.ref 131), some (.int o), some (.int f), some (.int x), some (.int y), some (.int ((m 131 21) - 1))] [] (jj_up (jj_up m 154 (((m 131 21) - 1).toNatClampNeg) (vp_nar .boolean 1)) 155 (((m 131 21) - 1).toNatClampNeg) o) Q
          refine ez_blk 4 rfl ?_
          show ez xs 104 80 [some (.ref 131), some (.int o), some (.int f), some (.int x), some (.int y), some (.int ((m 131 21) - 1))] [.int f, .int ((m 131 21) - 1), .ref 156] (jj_up (jj_up m 154 (((m 131 21) - 1).toNatClampNeg) (vp_nar .boolean 1)) 155 (((m 131 21) - 1).toNatClampNeg) o) Q
          refine ez_iastv rfl (by decide) rfl (b15 h2 h3 h6 h7) ?_
          show ez xs 104 81 [some (.ref 131), some (.int o), some (.int f), some (.int x), some (.int y), some (.int ((m 131 21) - 1))] [] (jj_up (jj_up (jj_up m 154 (((m 131 21) - 1).toNatClampNeg) (vp_nar .boolean 1)) 155 (((m 131 21) - 1).toNatClampNeg) o) 156 (((m 131 21) - 1).toNatClampNeg) f) Q
          refine ez_blk 4 rfl ?_
          show ez xs 104 88 [some (.ref 131), some (.int o), some (.int f), some (.int x), some (.int y), some (.int ((m 131 21) - 1))] [.int x, .int ((m 131 21) - 1), .ref 157] (jj_up (jj_up (jj_up m 154 (((m 131 21) - 1).toNatClampNeg) (vp_nar .boolean 1)) 155 (((m 131 21) - 1).toNatClampNeg) o) 156 (((m 131 21) - 1).toNatClampNeg) f) Q
          refine ez_iastv rfl (by decide) rfl (b16 h2 h3 h6 h7) ?_
          show ez xs 104 89 [some (.ref 131), some (.int o), some (.int f), some (.int x), some (.int y), some (.int ((m 131 21) - 1))] [] (jj_up (jj_up (jj_up (jj_up m 154 (((m 131 21) - 1).toNatClampNeg) (vp_nar .boolean 1)) 155 (((m 131 21) - 1).toNatClampNeg) o) 156 (((m 131 21) - 1).toNatClampNeg) f) 157 (((m 131 21) - 1).toNatClampNeg) x) Q
          refine ez_blk 4 rfl ?_
          show ez xs 104 97 [some (.ref 131), some (.int o), some (.int f), some (.int x), some (.int y), some (.int ((m 131 21) - 1))] [.int y, .int ((m 131 21) - 1), .ref 158] (jj_up (jj_up (jj_up (jj_up m 154 (((m 131 21) - 1).toNatClampNeg) (vp_nar .boolean 1)) 155 (((m 131 21) - 1).toNatClampNeg) o) 156 (((m 131 21) - 1).toNatClampNeg) f) 157 (((m 131 21) - 1).toNatClampNeg) x) Q
          refine ez_iastv rfl (by decide) rfl (b17 h2 h3 h6 h7) ?_
          show ez xs 104 98 [some (.ref 131), some (.int o), some (.int f), some (.int x), some (.int y), some (.int ((m 131 21) - 1))] [] (jj_up (jj_up (jj_up (jj_up (jj_up m 154 (((m 131 21) - 1).toNatClampNeg) (vp_nar .boolean 1)) 155 (((m 131 21) - 1).toNatClampNeg) o) 156 (((m 131 21) - 1).toNatClampNeg) f) 157 (((m 131 21) - 1).toNatClampNeg) x) 158 (((m 131 21) - 1).toNatClampNeg) y) Q
          refine ez_blk 1 rfl ?_
          show ez xs 104 99 [some (.ref 131), some (.int o), some (.int f), some (.int x), some (.int y), some (.int ((m 131 21) - 1))] [.int 1] (jj_up (jj_up (jj_up (jj_up (jj_up m 154 (((m 131 21) - 1).toNatClampNeg) (vp_nar .boolean 1)) 155 (((m 131 21) - 1).toNatClampNeg) o) 156 (((m 131 21) - 1).toNatClampNeg) f) 157 (((m 131 21) - 1).toNatClampNeg) x) 158 (((m 131 21) - 1).toNatClampNeg) y) Q
          exact ez_ret rfl (by decide) rfl (g6 h2 h3 h6 h7)
        · show ez xs 104 29 [some (.ref 131), some (.int o), some (.int f), some (.int x), some (.int y), none] [] m Q
          refine ez_blk 4 rfl ?_
          show ez xs 104 34 [some (.ref 131), some (.int o), some (.int f), some (.int x), some (.int y), none] [.int y, .int x, .int o, .ref 131] m Q
          refine ez_call (as := [.ref 131, .int o, .int x, .int y]) (rest := []) rfl (by decide) rfl ?_
          refine d_M_names ?_
          show ez xs 104 37 [some (.ref 131), some (.int o), some (.int f), some (.int x), some (.int y), none] [.int (f_M_names m o x y)] m Q
          refine ez_blk 1 rfl ?_
          show ez xs 104 38 [some (.ref 131), some (.int o), some (.int f), some (.int x), some (.int y), none] [.ref 131, .int (f_M_names m o x y)] m Q
          refine ez_call (as := [.ref 131]) (rest := [.int (f_M_names m o x y)]) rfl (by decide) rfl ?_
          refine h_M_named (b18 h2 h3 h6 h7) ?_
          show ez xs 104 41 [some (.ref 131), some (.int o), some (.int f), some (.int x), some (.int y), none] [.int (rNamed m), .int (f_M_names m o x y)] m Q
          refine ez_blk 3 rfl ?_
          show ez xs 104 44 [some (.ref 131), some (.int o), some (.int f), some (.int x), some (.int y), none] [.int ((f_M_names m o x y) &&& ((rNamed m) ^^^ (-1)))] m Q
          refine ez_if_eq rfl (fun h8 => ?_) (fun h8 => ?_)
          · show ez xs 104 49 [some (.ref 131), some (.int o), some (.int f), some (.int x), some (.int y), none] [] m Q
            refine ez_blk 9 rfl ?_
            show ez xs 104 64 [some (.ref 131), some (.int o), some (.int f), some (.int x), some (.int y), some (.int ((m 131 21) - 1))] [.int 1, .int ((m 131 21) - 1), .ref 154] m Q
            refine ez_zastv rfl (by decide) rfl (b19 h2 h3 h6 h7 h8) ?_
            show ez xs 104 65 [some (.ref 131), some (.int o), some (.int f), some (.int x), some (.int y), some (.int ((m 131 21) - 1))] [] (jj_up m 154 (((m 131 21) - 1).toNatClampNeg) (vp_nar .boolean 1)) Q
            refine ez_blk 4 rfl ?_
            show ez xs 104 72 [some (.ref 131), some (.int o), some (.int f), some (.int x), some (.int y), some (.int ((m 131 21) - 1))] [.int o, .int ((m 131 21) - 1), .ref 155] (jj_up m 154 (((m 131 21) - 1).toNatClampNeg) (vp_nar .boolean 1)) Q
            refine ez_iastv rfl (by decide) rfl (b20 h2 h3 h6 h7 h8) ?_
            show ez xs 104 73 [some (.ref 131), some (.int o), some (.int f), some (.int x), some (.int y), some (.int ((m 131 21) - 1))] [] (jj_up (jj_up m 154 (((m 131 21) - 1).toNatClampNeg) (vp_nar .boolean 1)) 155 (((m 131 21) - 1).toNatClampNeg) o) Q
            refine ez_blk 4 rfl ?_
            show ez xs 104 80 [some (.ref 131), some (.int o), some (.int f), some (.int x), some (.int y), some (.int ((m 131 21) - 1))] [.int f, .int ((m 131 21) - 1), .ref 156] (jj_up (jj_up m 154 (((m 131 21) - 1).toNatClampNeg) (vp_nar .boolean 1)) 155 (((m 131 21) - 1).toNatClampNeg) o) Q
            refine ez_iastv rfl (by decide) rfl (b21 h2 h3 h6 h7 h8) ?_
            show ez xs 104 81 [some (.ref 131), some (.int o), some (.int f), some (.int x), some (.int y), some (.int ((m 131 21) - 1))] [] (jj_up (jj_up (jj_up m 154 (((m 131 21) - 1).toNatClampNeg) (vp_nar .boolean 1)) 155 (((m 131 21) - 1).toNatClampNeg) o) 156 (((m 131 21) - 1).toNatClampNeg) f) Q
            refine ez_blk 4 rfl ?_
            show ez xs 104 88 [some (.ref 131), some (.int o), some (.int f), some (.int x), some (.int y), some (.int ((m 131 21) - 1))] [.int x, .int ((m 131 21) - 1), .ref 157] (jj_up (jj_up (jj_up m 154 (((m 131 21) - 1).toNatClampNeg) (vp_nar .boolean 1)) 155 (((m 131 21) - 1).toNatClampNeg) o) 156 (((m 131 21) - 1).toNatClampNeg) f) Q
            refine ez_iastv rfl (by decide) rfl (b22 h2 h3 h6 h7 h8) ?_
            show ez xs 104 89 [some (.ref 131), some (.int o), some (.int f), some (.int x), some (.int y), some (.int ((m 131 21) - 1))] [] (jj_up (jj_up (jj_up (jj_up m 154 (((m 131 21) - 1).toNatClampNeg) (vp_nar .boolean 1)) 155 (((m 131 21) - 1).toNatClampNeg) o) 156 (((m 131 21) - 1).toNatClampNeg) f) 157 (((m 131 21) - 1).toNatClampNeg) x) Q
            refine ez_blk 4 rfl ?_
            show ez xs 104 97 [some (.ref 131), some (.int o), some (.int f), some (.int x), some (.int y), some (.int ((m 131 21) - 1))] [.int y, .int ((m 131 21) - 1), .ref 158] (jj_up (jj_up (jj_up (jj_up m 154 (((m 131 21) - 1).toNatClampNeg) (vp_nar .boolean 1)) 155 (((m 131 21) - 1).toNatClampNeg) o) 156 (((m 131 21) - 1).toNatClampNeg) f) 157 (((m 131 21) - 1).toNatClampNeg) x) Q
            refine ez_iastv rfl (by decide) rfl (b23 h2 h3 h6 h7 h8) ?_
            show ez xs 104 98 [some (.ref 131), some (.int o), some (.int f), some (.int x), some (.int y), some (.int ((m 131 21) - 1))] [] (jj_up (jj_up (jj_up (jj_up (jj_up m 154 (((m 131 21) - 1).toNatClampNeg) (vp_nar .boolean 1)) 155 (((m 131 21) - 1).toNatClampNeg) o) 156 (((m 131 21) - 1).toNatClampNeg) f) 157 (((m 131 21) - 1).toNatClampNeg) x) 158 (((m 131 21) - 1).toNatClampNeg) y) Q
            refine ez_blk 1 rfl ?_
            show ez xs 104 99 [some (.ref 131), some (.int o), some (.int f), some (.int x), some (.int y), some (.int ((m 131 21) - 1))] [.int 1] (jj_up (jj_up (jj_up (jj_up (jj_up m 154 (((m 131 21) - 1).toNatClampNeg) (vp_nar .boolean 1)) 155 (((m 131 21) - 1).toNatClampNeg) o) 156 (((m 131 21) - 1).toNatClampNeg) f) 157 (((m 131 21) - 1).toNatClampNeg) x) 158 (((m 131 21) - 1).toNatClampNeg) y) Q
            exact ez_ret rfl (by decide) rfl (g7 h2 h3 h6 h7 h8)
          · show ez xs 104 47 [some (.ref 131), some (.int o), some (.int f), some (.int x), some (.int y), none] [] m Q
            refine ez_blk 1 rfl ?_
            show ez xs 104 48 [some (.ref 131), some (.int o), some (.int f), some (.int x), some (.int y), none] [.int 0] m Q
            exact ez_ret rfl (by decide) rfl (g8 h2 h3 h6 h7 h8)
set_option maxRecDepth 100000 in
set_option maxHeartbeats 2000000 in
theorem c_M_plus {xs : jx_Xs} {m : zM} {Q : Option Value → zM → Prop} {o f x y : Int32}
    (b1 : (¬ m 131 21 = 0) → vp_in ((m 131 21) - 1) 6)
    (b2 : (f_M_noLast m = 0) → vp_in ((m 131 21) - 1) 6)
    (b3 : (f_M_noLast m = 0) → (¬ m 149 ((m 131 21) - 1).toNatClampNeg = 3) → vp_in ((m 131 21) - 1) 6)
    (b4 : (f_M_noLast m = 0) → (¬ m 149 ((m 131 21) - 1).toNatClampNeg = 3) → (¬ m 159 ((m 131 21) - 1).toNatClampNeg = 2) → (¬ o = 3) → (¬ f_M_valid m o f x y = 0) → hN6 m)
    (b5 : (f_M_noLast m = 0) → (¬ m 149 ((m 131 21) - 1).toNatClampNeg = 3) → (¬ m 159 ((m 131 21) - 1).toNatClampNeg = 2) → (¬ o = 3) → (¬ f_M_valid m o f x y = 0) → ((f_M_names m o x y) &&& ((rNamed m) ^^^ (-1)) = 0) → vp_in ((m 131 21) - 1) 6)
    (b6 : (f_M_noLast m = 0) → (¬ m 149 ((m 131 21) - 1).toNatClampNeg = 3) → (¬ m 159 ((m 131 21) - 1).toNatClampNeg = 2) → (¬ o = 3) → (¬ f_M_valid m o f x y = 0) → ((f_M_names m o x y) &&& ((rNamed m) ^^^ (-1)) = 0) → vp_in (((2 : Int32) * ((m 131 21) - 1)) + (m 159 ((m 131 21) - 1).toNatClampNeg)) 12)
    (b7 : (f_M_noLast m = 0) → (¬ m 149 ((m 131 21) - 1).toNatClampNeg = 3) → (¬ m 159 ((m 131 21) - 1).toNatClampNeg = 2) → (¬ o = 3) → (¬ f_M_valid m o f x y = 0) → ((f_M_names m o x y) &&& ((rNamed m) ^^^ (-1)) = 0) → vp_in (((2 : Int32) * ((m 131 21) - 1)) + (m 159 ((m 131 21) - 1).toNatClampNeg)) 12)
    (b8 : (f_M_noLast m = 0) → (¬ m 149 ((m 131 21) - 1).toNatClampNeg = 3) → (¬ m 159 ((m 131 21) - 1).toNatClampNeg = 2) → (¬ o = 3) → (¬ f_M_valid m o f x y = 0) → ((f_M_names m o x y) &&& ((rNamed m) ^^^ (-1)) = 0) → vp_in (((2 : Int32) * ((m 131 21) - 1)) + (m 159 ((m 131 21) - 1).toNatClampNeg)) 12)
    (b9 : (f_M_noLast m = 0) → (¬ m 149 ((m 131 21) - 1).toNatClampNeg = 3) → (¬ m 159 ((m 131 21) - 1).toNatClampNeg = 2) → (¬ o = 3) → (¬ f_M_valid m o f x y = 0) → ((f_M_names m o x y) &&& ((rNamed m) ^^^ (-1)) = 0) → vp_in (((2 : Int32) * ((m 131 21) - 1)) + (m 159 ((m 131 21) - 1).toNatClampNeg)) 12)
    (b10 : (f_M_noLast m = 0) → (¬ m 149 ((m 131 21) - 1).toNatClampNeg = 3) → (¬ m 159 ((m 131 21) - 1).toNatClampNeg = 2) → (¬ o = 3) → (¬ f_M_valid m o f x y = 0) → ((f_M_names m o x y) &&& ((rNamed m) ^^^ (-1)) = 0) → vp_in ((m 131 21) - 1) 6)
    (b11 : (f_M_noLast m = 0) → (¬ m 149 ((m 131 21) - 1).toNatClampNeg = 3) → (¬ m 159 ((m 131 21) - 1).toNatClampNeg = 2) → (¬ o = 3) → (¬ f_M_valid m o f x y = 0) → ((f_M_names m o x y) &&& ((rNamed m) ^^^ (-1)) = 0) → vp_in ((m 131 21) - 1) 6)
    (g1 : (¬ f_M_noLast m = 0) → Q (some (.int 0)) m)
    (g2 : (f_M_noLast m = 0) → (m 149 ((m 131 21) - 1).toNatClampNeg = 3) → Q (some (.int 0)) m)
    (g3 : (f_M_noLast m = 0) → (¬ m 149 ((m 131 21) - 1).toNatClampNeg = 3) → (m 159 ((m 131 21) - 1).toNatClampNeg = 2) → Q (some (.int 0)) m)
    (g4 : (f_M_noLast m = 0) → (¬ m 149 ((m 131 21) - 1).toNatClampNeg = 3) → (¬ m 159 ((m 131 21) - 1).toNatClampNeg = 2) → (o = 3) → Q (some (.int 0)) m)
    (g5 : (f_M_noLast m = 0) → (¬ m 149 ((m 131 21) - 1).toNatClampNeg = 3) → (¬ m 159 ((m 131 21) - 1).toNatClampNeg = 2) → (¬ o = 3) → (f_M_valid m o f x y = 0) → Q (some (.int 0)) m)
    (g6 : (f_M_noLast m = 0) → (¬ m 149 ((m 131 21) - 1).toNatClampNeg = 3) → (¬ m 159 ((m 131 21) - 1).toNatClampNeg = 2) → (¬ o = 3) → (¬ f_M_valid m o f x y = 0) → ((f_M_names m o x y) &&& ((rNamed m) ^^^ (-1)) = 0) → Q (some (.int 1)) (jj_up (jj_up (jj_up (jj_up (jj_up m 160 ((((2 : Int32) * ((m 131 21) - 1)) + (m 159 ((m 131 21) - 1).toNatClampNeg)).toNatClampNeg) o) 161 ((((2 : Int32) * ((m 131 21) - 1)) + (m 159 ((m 131 21) - 1).toNatClampNeg)).toNatClampNeg) f) 162 ((((2 : Int32) * ((m 131 21) - 1)) + (m 159 ((m 131 21) - 1).toNatClampNeg)).toNatClampNeg) x) 163 ((((2 : Int32) * ((m 131 21) - 1)) + (m 159 ((m 131 21) - 1).toNatClampNeg)).toNatClampNeg) y) 159 (((m 131 21) - 1).toNatClampNeg) ((m 159 ((m 131 21) - 1).toNatClampNeg) + 1)))
    (g7 : (f_M_noLast m = 0) → (¬ m 149 ((m 131 21) - 1).toNatClampNeg = 3) → (¬ m 159 ((m 131 21) - 1).toNatClampNeg = 2) → (¬ o = 3) → (¬ f_M_valid m o f x y = 0) → (¬ (f_M_names m o x y) &&& ((rNamed m) ^^^ (-1)) = 0) → Q (some (.int 0)) m) : ez xs 108 0 (jx_ent 108 [.ref 131, .int o, .int f, .int x, .int y]) [] m Q := by
  refine ez_blk 1 rfl ?_
  show ez xs 108 1 [some (.ref 131), some (.int o), some (.int f), some (.int x), some (.int y), none] [.ref 131] m Q
  refine ez_call (as := [.ref 131]) (rest := []) rfl (by decide) rfl ?_
  refine d_M_noLast (fun h1 => b1 h1) ?_
  show ez xs 108 4 [some (.ref 131), some (.int o), some (.int f), some (.int x), some (.int y), none] [.int (f_M_noLast m)] m Q
  refine ez_if_ne rfl (fun h2 => ?_) (fun h2 => ?_)
  · show ez xs 108 72 [some (.ref 131), some (.int o), some (.int f), some (.int x), some (.int y), none] [] m Q
    refine ez_blk 1 rfl ?_
    show ez xs 108 73 [some (.ref 131), some (.int o), some (.int f), some (.int x), some (.int y), none] [.int 0] m Q
    exact ez_ret rfl (by decide) rfl (g1 h2)
  · show ez xs 108 7 [some (.ref 131), some (.int o), some (.int f), some (.int x), some (.int y), none] [] m Q
    refine ez_blk 6 rfl ?_
    show ez xs 108 17 [some (.ref 131), some (.int o), some (.int f), some (.int x), some (.int y), none] [.int ((m 131 21) - 1), .ref 149] m Q
    refine ez_ialdv rfl (by decide) rfl (b2 h2) ?_
    show ez xs 108 18 [some (.ref 131), some (.int o), some (.int f), some (.int x), some (.int y), none] [.int (m 149 ((m 131 21) - 1).toNatClampNeg)] m Q
    refine ez_blk 1 rfl ?_
    show ez xs 108 19 [some (.ref 131), some (.int o), some (.int f), some (.int x), some (.int y), none] [.int 3, .int (m 149 ((m 131 21) - 1).toNatClampNeg)] m Q
    refine ez_icmp_eq rfl (fun h3 => ?_) (fun h3 => ?_)
    · show ez xs 108 72 [some (.ref 131), some (.int o), some (.int f), some (.int x), some (.int y), none] [] m Q
      refine ez_blk 1 rfl ?_
      show ez xs 108 73 [some (.ref 131), some (.int o), some (.int f), some (.int x), some (.int y), none] [.int 0] m Q
      exact ez_ret rfl (by decide) rfl (g2 h2 h3)
    · show ez xs 108 22 [some (.ref 131), some (.int o), some (.int f), some (.int x), some (.int y), none] [] m Q
      refine ez_blk 6 rfl ?_
      show ez xs 108 32 [some (.ref 131), some (.int o), some (.int f), some (.int x), some (.int y), none] [.int ((m 131 21) - 1), .ref 159] m Q
      refine ez_ialdv rfl (by decide) rfl (b3 h2 h3) ?_
      show ez xs 108 33 [some (.ref 131), some (.int o), some (.int f), some (.int x), some (.int y), none] [.int (m 159 ((m 131 21) - 1).toNatClampNeg)] m Q
      refine ez_blk 1 rfl ?_
      show ez xs 108 34 [some (.ref 131), some (.int o), some (.int f), some (.int x), some (.int y), none] [.int 2, .int (m 159 ((m 131 21) - 1).toNatClampNeg)] m Q
      refine ez_icmp_eq rfl (fun h4 => ?_) (fun h4 => ?_)
      · show ez xs 108 72 [some (.ref 131), some (.int o), some (.int f), some (.int x), some (.int y), none] [] m Q
        refine ez_blk 1 rfl ?_
        show ez xs 108 73 [some (.ref 131), some (.int o), some (.int f), some (.int x), some (.int y), none] [.int 0] m Q
        exact ez_ret rfl (by decide) rfl (g3 h2 h3 h4)
      · show ez xs 108 37 [some (.ref 131), some (.int o), some (.int f), some (.int x), some (.int y), none] [] m Q
        refine ez_blk 2 rfl ?_
        show ez xs 108 39 [some (.ref 131), some (.int o), some (.int f), some (.int x), some (.int y), none] [.int 3, .int o] m Q
        refine ez_icmp_eq rfl (fun h5 => ?_) (fun h5 => ?_)
        · show ez xs 108 72 [some (.ref 131), some (.int o), some (.int f), some (.int x), some (.int y), none] [] m Q
          refine ez_blk 1 rfl ?_
          show ez xs 108 73 [some (.ref 131), some (.int o), some (.int f), some (.int x), some (.int y), none] [.int 0] m Q
          exact ez_ret rfl (by decide) rfl (g4 h2 h3 h4 h5)
        · show ez xs 108 42 [some (.ref 131), some (.int o), some (.int f), some (.int x), some (.int y), none] [] m Q
          refine ez_blk 5 rfl ?_
          show ez xs 108 48 [some (.ref 131), some (.int o), some (.int f), some (.int x), some (.int y), none] [.int y, .int x, .int f, .int o, .ref 131] m Q
          refine ez_call (as := [.ref 131, .int o, .int f, .int x, .int y]) (rest := []) rfl (by decide) rfl ?_
          refine d_M_valid ?_
          show ez xs 108 51 [some (.ref 131), some (.int o), some (.int f), some (.int x), some (.int y), none] [.int (f_M_valid m o f x y)] m Q
          refine ez_if_eq rfl (fun h6 => ?_) (fun h6 => ?_)
          · show ez xs 108 72 [some (.ref 131), some (.int o), some (.int f), some (.int x), some (.int y), none] [] m Q
            refine ez_blk 1 rfl ?_
            show ez xs 108 73 [some (.ref 131), some (.int o), some (.int f), some (.int x), some (.int y), none] [.int 0] m Q
            exact ez_ret rfl (by decide) rfl (g5 h2 h3 h4 h5 h6)
          · show ez xs 108 54 [some (.ref 131), some (.int o), some (.int f), some (.int x), some (.int y), none] [] m Q
            refine ez_blk 4 rfl ?_
            show ez xs 108 59 [some (.ref 131), some (.int o), some (.int f), some (.int x), some (.int y), none] [.int y, .int x, .int o, .ref 131] m Q
            refine ez_call (as := [.ref 131, .int o, .int x, .int y]) (rest := []) rfl (by decide) rfl ?_
            refine d_M_names ?_
            show ez xs 108 62 [some (.ref 131), some (.int o), some (.int f), some (.int x), some (.int y), none] [.int (f_M_names m o x y)] m Q
            refine ez_blk 1 rfl ?_
            show ez xs 108 63 [some (.ref 131), some (.int o), some (.int f), some (.int x), some (.int y), none] [.ref 131, .int (f_M_names m o x y)] m Q
            refine ez_call (as := [.ref 131]) (rest := [.int (f_M_names m o x y)]) rfl (by decide) rfl ?_
            refine h_M_named (b4 h2 h3 h4 h5 h6) ?_
            show ez xs 108 66 [some (.ref 131), some (.int o), some (.int f), some (.int x), some (.int y), none] [.int (rNamed m), .int (f_M_names m o x y)] m Q
            refine ez_blk 3 rfl ?_
            show ez xs 108 69 [some (.ref 131), some (.int o), some (.int f), some (.int x), some (.int y), none] [.int ((f_M_names m o x y) &&& ((rNamed m) ^^^ (-1)))] m Q
            refine ez_if_eq rfl (fun h7 => ?_) (fun h7 => ?_)
            · show ez xs 108 74 [some (.ref 131), some (.int o), some (.int f), some (.int x), some (.int y), none] [] m Q
              refine ez_blk 12 rfl ?_
              show ez xs 108 92 [some (.ref 131), some (.int o), some (.int f), some (.int x), some (.int y), none] [.int ((m 131 21) - 1), .ref 159, .int ((2 : Int32) * ((m 131 21) - 1))] m Q
              refine ez_ialdv rfl (by decide) rfl (b5 h2 h3 h4 h5 h6 h7) ?_
              show ez xs 108 93 [some (.ref 131), some (.int o), some (.int f), some (.int x), some (.int y), none] [.int (m 159 ((m 131 21) - 1).toNatClampNeg), .int ((2 : Int32) * ((m 131 21) - 1))] m Q
              refine ez_blk 6 rfl ?_
              show ez xs 108 103 [some (.ref 131), some (.int o), some (.int f), some (.int x), some (.int y), some (.int (((2 : Int32) * ((m 131 21) - 1)) + (m 159 ((m 131 21) - 1).toNatClampNeg)))] [.int o, .int (((2 : Int32) * ((m 131 21) - 1)) + (m 159 ((m 131 21) - 1).toNatClampNeg)), .ref 160] m Q
              refine ez_iastv rfl (by decide) rfl (b6 h2 h3 h4 h5 h6 h7) ?_
              show ez xs 108 104 [some (.ref 131), some (.int o), some (.int f), some (.int x), some (.int y), some (.int (((2 : Int32) * ((m 131 21) - 1)) + (m 159 ((m 131 21) - 1).toNatClampNeg)))] [] (jj_up m 160 ((((2 : Int32) * ((m 131 21) - 1)) + (m 159 ((m 131 21) - 1).toNatClampNeg)).toNatClampNeg) o) Q
              refine ez_blk 4 rfl ?_
              show ez xs 108 111 [some (.ref 131), some (.int o), some (.int f), some (.int x), some (.int y), some (.int (((2 : Int32) * ((m 131 21) - 1)) + (m 159 ((m 131 21) - 1).toNatClampNeg)))] [.int f, .int (((2 : Int32) * ((m 131 21) - 1)) + (m 159 ((m 131 21) - 1).toNatClampNeg)), .ref 161] (jj_up m 160 ((((2 : Int32) * ((m 131 21) - 1)) + (m 159 ((m 131 21) - 1).toNatClampNeg)).toNatClampNeg) o) Q
              refine ez_iastv rfl (by decide) rfl (b7 h2 h3 h4 h5 h6 h7) ?_
              show ez xs 108 112 [some (.ref 131), some (.int o), some (.int f), some (.int x), some (.int y), some (.int (((2 : Int32) * ((m 131 21) - 1)) + (m 159 ((m 131 21) - 1).toNatClampNeg)))] [] (jj_up (jj_up m 160 ((((2 : Int32) * ((m 131 21) - 1)) + (m 159 ((m 131 21) - 1).toNatClampNeg)).toNatClampNeg) o) 161 ((((2 : Int32) * ((m 131 21) - 1)) + (m 159 ((m 131 21) - 1).toNatClampNeg)).toNatClampNeg) f) Q
              refine ez_blk 4 rfl ?_
              show ez xs 108 119 [some (.ref 131), some (.int o), some (.int f), some (.int x), some (.int y), some (.int (((2 : Int32) * ((m 131 21) - 1)) + (m 159 ((m 131 21) - 1).toNatClampNeg)))] [.int x, .int (((2 : Int32) * ((m 131 21) - 1)) + (m 159 ((m 131 21) - 1).toNatClampNeg)), .ref 162] (jj_up (jj_up m 160 ((((2 : Int32) * ((m 131 21) - 1)) + (m 159 ((m 131 21) - 1).toNatClampNeg)).toNatClampNeg) o) 161 ((((2 : Int32) * ((m 131 21) - 1)) + (m 159 ((m 131 21) - 1).toNatClampNeg)).toNatClampNeg) f) Q
              refine ez_iastv rfl (by decide) rfl (b8 h2 h3 h4 h5 h6 h7) ?_
              show ez xs 108 120 [some (.ref 131), some (.int o), some (.int f), some (.int x), some (.int y), some (.int (((2 : Int32) * ((m 131 21) - 1)) + (m 159 ((m 131 21) - 1).toNatClampNeg)))] [] (jj_up (jj_up (jj_up m 160 ((((2 : Int32) * ((m 131 21) - 1)) + (m 159 ((m 131 21) - 1).toNatClampNeg)).toNatClampNeg) o) 161 ((((2 : Int32) * ((m 131 21) - 1)) + (m 159 ((m 131 21) - 1).toNatClampNeg)).toNatClampNeg) f) 162 ((((2 : Int32) * ((m 131 21) - 1)) + (m 159 ((m 131 21) - 1).toNatClampNeg)).toNatClampNeg) x) Q
              refine ez_blk 4 rfl ?_
              show ez xs 108 128 [some (.ref 131), some (.int o), some (.int f), some (.int x), some (.int y), some (.int (((2 : Int32) * ((m 131 21) - 1)) + (m 159 ((m 131 21) - 1).toNatClampNeg)))] [.int y, .int (((2 : Int32) * ((m 131 21) - 1)) + (m 159 ((m 131 21) - 1).toNatClampNeg)), .ref 163] (jj_up (jj_up (jj_up m 160 ((((2 : Int32) * ((m 131 21) - 1)) + (m 159 ((m 131 21) - 1).toNatClampNeg)).toNatClampNeg) o) 161 ((((2 : Int32) * ((m 131 21) - 1)) + (m 159 ((m 131 21) - 1).toNatClampNeg)).toNatClampNeg) f) 162 ((((2 : Int32) * ((m 131 21) - 1)) + (m 159 ((m 131 21) - 1).toNatClampNeg)).toNatClampNeg) x) Q
              refine ez_iastv rfl (by decide) rfl (b9 h2 h3 h4 h5 h6 h7) ?_
              show ez xs 108 129 [some (.ref 131), some (.int o), some (.int f), some (.int x), some (.int y), some (.int (((2 : Int32) * ((m 131 21) - 1)) + (m 159 ((m 131 21) - 1).toNatClampNeg)))] [] (jj_up (jj_up (jj_up (jj_up m 160 ((((2 : Int32) * ((m 131 21) - 1)) + (m 159 ((m 131 21) - 1).toNatClampNeg)).toNatClampNeg) o) 161 ((((2 : Int32) * ((m 131 21) - 1)) + (m 159 ((m 131 21) - 1).toNatClampNeg)).toNatClampNeg) f) 162 ((((2 : Int32) * ((m 131 21) - 1)) + (m 159 ((m 131 21) - 1).toNatClampNeg)).toNatClampNeg) x) 163 ((((2 : Int32) * ((m 131 21) - 1)) + (m 159 ((m 131 21) - 1).toNatClampNeg)).toNatClampNeg) y) Q
              refine ez_blk 7 rfl ?_
              show ez xs 108 140 [some (.ref 131), some (.int o), some (.int f), some (.int x), some (.int y), some (.int (((2 : Int32) * ((m 131 21) - 1)) + (m 159 ((m 131 21) - 1).toNatClampNeg)))] [.int ((m 131 21) - 1), .ref 159, .int ((m 131 21) - 1), .ref 159] (jj_up (jj_up (jj_up (jj_up m 160 ((((2 : Int32) * ((m 131 21) - 1)) + (m 159 ((m 131 21) - 1).toNatClampNeg)).toNatClampNeg) o) 161 ((((2 : Int32) * ((m 131 21) - 1)) + (m 159 ((m 131 21) - 1).toNatClampNeg)).toNatClampNeg) f) 162 ((((2 : Int32) * ((m 131 21) - 1)) + (m 159 ((m 131 21) - 1).toNatClampNeg)).toNatClampNeg) x) 163 ((((2 : Int32) * ((m 131 21) - 1)) + (m 159 ((m 131 21) - 1).toNatClampNeg)).toNatClampNeg) y) Q
              refine ez_ialdv rfl (by decide) rfl (b10 h2 h3 h4 h5 h6 h7) ?_
              show ez xs 108 141 [some (.ref 131), some (.int o), some (.int f), some (.int x), some (.int y), some (.int (((2 : Int32) * ((m 131 21) - 1)) + (m 159 ((m 131 21) - 1).toNatClampNeg)))] [.int (m 159 ((m 131 21) - 1).toNatClampNeg), .int ((m 131 21) - 1), .ref 159] (jj_up (jj_up (jj_up (jj_up m 160 ((((2 : Int32) * ((m 131 21) - 1)) + (m 159 ((m 131 21) - 1).toNatClampNeg)).toNatClampNeg) o) 161 ((((2 : Int32) * ((m 131 21) - 1)) + (m 159 ((m 131 21) - 1).toNatClampNeg)).toNatClampNeg) f) 162 ((((2 : Int32) * ((m 131 21) - 1)) + (m 159 ((m 131 21) - 1).toNatClampNeg)).toNatClampNeg) x) 163 ((((2 : Int32) * ((m 131 21) - 1)) + (m 159 ((m 131 21) - 1).toNatClampNeg)).toNatClampNeg) y) Q
              refine ez_blk 2 rfl ?_
              show ez xs 108 143 [some (.ref 131), some (.int o), some (.int f), some (.int x), some (.int y), some (.int (((2 : Int32) * ((m 131 21) - 1)) + (m 159 ((m 131 21) - 1).toNatClampNeg)))] [.int ((m 159 ((m 131 21) - 1).toNatClampNeg) + 1), .int ((m 131 21) - 1), .ref 159] (jj_up (jj_up (jj_up (jj_up m 160 ((((2 : Int32) * ((m 131 21) - 1)) + (m 159 ((m 131 21) - 1).toNatClampNeg)).toNatClampNeg) o) 161 ((((2 : Int32) * ((m 131 21) - 1)) + (m 159 ((m 131 21) - 1).toNatClampNeg)).toNatClampNeg) f) 162 ((((2 : Int32) * ((m 131 21) - 1)) + (m 159 ((m 131 21) - 1).toNatClampNeg)).toNatClampNeg) x) 163 ((((2 : Int32) * ((m 131 21) - 1)) + (m 159 ((m 131 21) - 1).toNatClampNeg)).toNatClampNeg) y) Q
              refine ez_iastv rfl (by decide) rfl (b11 h2 h3 h4 h5 h6 h7) ?_
              show ez xs 108 144 [some (.ref 131), some (.int o), some (.int f), some (.int x), some (.int y), some (.int (((2 : Int32) * ((m 131 21) - 1)) + (m 159 ((m 131 21) - 1).toNatClampNeg)))] [] (jj_up (jj_up (jj_up (jj_up (jj_up m 160 ((((2 : Int32) * ((m 131 21) - 1)) + (m 159 ((m 131 21) - 1).toNatClampNeg)).toNatClampNeg) o) 161 ((((2 : Int32) * ((m 131 21) - 1)) + (m 159 ((m 131 21) - 1).toNatClampNeg)).toNatClampNeg) f) 162 ((((2 : Int32) * ((m 131 21) - 1)) + (m 159 ((m 131 21) - 1).toNatClampNeg)).toNatClampNeg) x) 163 ((((2 : Int32) * ((m 131 21) - 1)) + (m 159 ((m 131 21) - 1).toNatClampNeg)).toNatClampNeg) y) 159 (((m 131 21) - 1).toNatClampNeg) ((m 159 ((m 131 21) - 1).toNatClampNeg) + 1)) Q
              refine ez_blk 1 rfl ?_
              show ez xs 108 145 [some (.ref 131), some (.int o), some (.int f), some (.int x), some (.int y), some (.int (((2 : Int32) * ((m 131 21) - 1)) + (m 159 ((m 131 21) - 1).toNatClampNeg)))] [.int 1] (jj_up (jj_up (jj_up (jj_up (jj_up m 160 ((((2 : Int32) * ((m 131 21) - 1)) + (m 159 ((m 131 21) - 1).toNatClampNeg)).toNatClampNeg) o) 161 ((((2 : Int32) * ((m 131 21) - 1)) + (m 159 ((m 131 21) - 1).toNatClampNeg)).toNatClampNeg) f) 162 ((((2 : Int32) * ((m 131 21) - 1)) + (m 159 ((m 131 21) - 1).toNatClampNeg)).toNatClampNeg) x) 163 ((((2 : Int32) * ((m 131 21) - 1)) + (m 159 ((m 131 21) - 1).toNatClampNeg)).toNatClampNeg) y) 159 (((m 131 21) - 1).toNatClampNeg) ((m 159 ((m 131 21) - 1).toNatClampNeg) + 1)) Q
              exact ez_ret rfl (by decide) rfl (g6 h2 h3 h4 h5 h6 h7)
            · show ez xs 108 72 [some (.ref 131), some (.int o), some (.int f), some (.int x), some (.int y), none] [] m Q
              refine ez_blk 1 rfl ?_
              show ez xs 108 73 [some (.ref 131), some (.int o), some (.int f), some (.int x), some (.int y), none] [.int 0] m Q
              exact ez_ret rfl (by decide) rfl (g7 h2 h3 h4 h5 h6 h7)
set_option maxRecDepth 100000 in
set_option maxHeartbeats 2000000 in
theorem c_M_possible {xs : jx_Xs} {m : zM} {Q : Option Value → zM → Prop} {b : Int32}
    (b1 : hN6 m)
    (g1 : ez xs 145 10 [some (.ref 131), some (.int b), some (.int (rNamed m)), some (.int 1), some (.int 0)] [] m Q) : ez xs 145 0 (jx_ent 145 [.ref 131, .int b]) [] m Q := by
  refine ez_blk 1 rfl ?_
  show ez xs 145 1 [some (.ref 131), some (.int b), none, none, none] [.ref 131] m Q
  refine ez_call (as := [.ref 131]) (rest := []) rfl (by decide) rfl ?_
  refine h_M_named (b1) ?_
  show ez xs 145 4 [some (.ref 131), some (.int b), none, none, none] [.int (rNamed m)] m Q
  refine ez_blk 5 rfl ?_
  show ez xs 145 10 [some (.ref 131), some (.int b), some (.int (rNamed m)), some (.int 1), some (.int 0)] [] m Q
  exact g1
set_option maxRecDepth 100000 in
set_option maxHeartbeats 2000000 in
theorem c_M_possible_10 {xs : jx_Xs} {m : zM} {Q : Option Value → zM → Prop} {l1 l2 l3 l4 : Int32}
    (b1 : (3 ≤ l4) → l3 = 0 ∨ l3 = 1)
    (g1 : (3 ≤ l4) → Q (some (.int l3)) m)
    (g2 : (¬ 3 ≤ l4) → (l3 = 0) → ez xs 145 10 [some (.ref 131), some (.int l1), some (.int l2), some (.int 0), some (.int (l4 + 1))] [] m Q)
    (g3 : (¬ 3 ≤ l4) → (¬ l3 = 0) → ((l2 >>> (l4 &&& 31)) &&& 1 = 1) → ez xs 145 10 [some (.ref 131), some (.int l1), some (.int l2), some (.int 1), some (.int (l4 + 1))] [] m Q)
    (g4 : (¬ 3 ≤ l4) → (¬ l3 = 0) → (¬ (l2 >>> (l4 &&& 31)) &&& 1 = 1) → (¬ (l1 >>> (((2 : Int32) * l4) &&& 31)) &&& 3 = 0) → ez xs 145 10 [some (.ref 131), some (.int l1), some (.int l2), some (.int 0), some (.int (l4 + 1))] [] m Q)
    (g5 : (¬ 3 ≤ l4) → (¬ l3 = 0) → (¬ (l2 >>> (l4 &&& 31)) &&& 1 = 1) → ((l1 >>> (((2 : Int32) * l4) &&& 31)) &&& 3 = 0) → ez xs 145 10 [some (.ref 131), some (.int l1), some (.int l2), some (.int 1), some (.int (l4 + 1))] [] m Q) : ez xs 145 10 [some (.ref 131), some (.int l1), some (.int l2), some (.int l3), some (.int l4)] [] m Q := by
  refine ez_blk 2 rfl ?_
  show ez xs 145 13 [some (.ref 131), some (.int l1), some (.int l2), some (.int l3), some (.int l4)] [.int 3, .int l4] m Q
  refine ez_icmp_ge rfl (fun h1 => ?_) (fun h1 => ?_)
  · show ez xs 145 53 [some (.ref 131), some (.int l1), some (.int l2), some (.int l3), some (.int l4)] [] m Q
    refine ez_blk 1 rfl ?_
    show ez xs 145 54 [some (.ref 131), some (.int l1), some (.int l2), some (.int l3), some (.int l4)] [.int l3] m Q
    exact ez_retz rfl rfl (b1 h1) (g1 h1)
  · show ez xs 145 16 [some (.ref 131), some (.int l1), some (.int l2), some (.int l3), some (.int l4)] [] m Q
    refine ez_blk 1 rfl ?_
    show ez xs 145 17 [some (.ref 131), some (.int l1), some (.int l2), some (.int l3), some (.int l4)] [.int l3] m Q
    refine ez_if_eq rfl (fun h2 => ?_) (fun h2 => ?_)
    · show ez xs 145 45 [some (.ref 131), some (.int l1), some (.int l2), some (.int l3), some (.int l4)] [] m Q
      refine ez_blk 4 rfl ?_
      show ez xs 145 10 [some (.ref 131), some (.int l1), some (.int l2), some (.int 0), some (.int (l4 + 1))] [] m Q
      exact g2 h1 h2
    · show ez xs 145 20 [some (.ref 131), some (.int l1), some (.int l2), some (.int l3), some (.int l4)] [] m Q
      refine ez_blk 6 rfl ?_
      show ez xs 145 27 [some (.ref 131), some (.int l1), some (.int l2), some (.int l3), some (.int l4)] [.int 1, .int ((l2 >>> (l4 &&& 31)) &&& 1)] m Q
      refine ez_icmp_eq rfl (fun h3 => ?_) (fun h3 => ?_)
      · show ez xs 145 41 [some (.ref 131), some (.int l1), some (.int l2), some (.int l3), some (.int l4)] [] m Q
        refine ez_blk 5 rfl ?_
        show ez xs 145 10 [some (.ref 131), some (.int l1), some (.int l2), some (.int 1), some (.int (l4 + 1))] [] m Q
        exact g3 h1 h2 h3
      · show ez xs 145 30 [some (.ref 131), some (.int l1), some (.int l2), some (.int l3), some (.int l4)] [] m Q
        refine ez_blk 7 rfl ?_
        show ez xs 145 38 [some (.ref 131), some (.int l1), some (.int l2), some (.int l3), some (.int l4)] [.int ((l1 >>> (((2 : Int32) * l4) &&& 31)) &&& 3)] m Q
        refine ez_if_ne rfl (fun h4 => ?_) (fun h4 => ?_)
        · show ez xs 145 45 [some (.ref 131), some (.int l1), some (.int l2), some (.int l3), some (.int l4)] [] m Q
          refine ez_blk 4 rfl ?_
          show ez xs 145 10 [some (.ref 131), some (.int l1), some (.int l2), some (.int 0), some (.int (l4 + 1))] [] m Q
          exact g4 h1 h2 h3 h4
        · show ez xs 145 41 [some (.ref 131), some (.int l1), some (.int l2), some (.int l3), some (.int l4)] [] m Q
          refine ez_blk 5 rfl ?_
          show ez xs 145 10 [some (.ref 131), some (.int l1), some (.int l2), some (.int 1), some (.int (l4 + 1))] [] m Q
          exact g5 h1 h2 h3 h4
