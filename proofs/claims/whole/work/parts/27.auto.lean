/-! Methods without loops, by program: one hypothesis a way, one a bound. -/
set_option maxRecDepth 100000 in
set_option maxHeartbeats 2000000 in
theorem c_Source_size {xs : jx_Xs} {m : zM} {Q : Option Value → zM → Prop}
    (g1 : Q (some (.int (m 1 1))) m) : ez xs 20 0 (jx_ent 20 [.ref 1]) [] m Q := by
  refine ez_blk 2 rfl ?_
  show ez xs 20 4 [some (.ref 1)] [.int (m 1 1)] m Q
  exact ez_ret rfl (by decide) rfl (g1)
set_option maxRecDepth 100000 in
set_option maxHeartbeats 2000000 in
theorem c_Source_empty {xs : jx_Xs} {m : zM} {Q : Option Value → zM → Prop}
    (g1 : Q none (jj_up m 1 1 0)) : ez xs 17 0 (jx_ent 17 [.ref 1]) [] m Q := by
  refine ez_blk 3 rfl ?_
  show ez xs 17 5 [some (.ref 1)] [] (jj_up m 1 1 0) Q
  exact ez_ret rfl (by decide) rfl (g1)
set_option maxRecDepth 100000 in
set_option maxHeartbeats 2000000 in
theorem c_Source_holds {xs : jx_Xs} {m : zM} {Q : Option Value → zM → Prop} {i : Int32}
    (g1 : (i < 0) → Q (some (.int 0)) m)
    (g2 : (¬ i < 0) → (m 1 1 ≤ i) → Q (some (.int 0)) m)
    (g3 : (¬ i < 0) → (¬ m 1 1 ≤ i) → Q (some (.int 1)) m) : ez xs 23 0 (jx_ent 23 [.ref 1, .int i]) [] m Q := by
  refine ez_blk 1 rfl ?_
  show ez xs 23 1 [some (.ref 1), some (.int i)] [.int i] m Q
  refine ez_if_lt rfl (fun h1 => ?_) (fun h1 => ?_)
  · show ez xs 23 16 [some (.ref 1), some (.int i)] [] m Q
    refine ez_blk 1 rfl ?_
    show ez xs 23 17 [some (.ref 1), some (.int i)] [.int 0] m Q
    exact ez_ret rfl (by decide) rfl (g1 h1)
  · show ez xs 23 4 [some (.ref 1), some (.int i)] [] m Q
    refine ez_blk 3 rfl ?_
    show ez xs 23 9 [some (.ref 1), some (.int i)] [.int (m 1 1), .int i] m Q
    refine ez_icmp_ge rfl (fun h2 => ?_) (fun h2 => ?_)
    · show ez xs 23 16 [some (.ref 1), some (.int i)] [] m Q
      refine ez_blk 1 rfl ?_
      show ez xs 23 17 [some (.ref 1), some (.int i)] [.int 0] m Q
      exact ez_ret rfl (by decide) rfl (g2 h1 h2)
    · show ez xs 23 12 [some (.ref 1), some (.int i)] [] m Q
      refine ez_blk 2 rfl ?_
      show ez xs 23 17 [some (.ref 1), some (.int i)] [.int 1] m Q
      exact ez_ret rfl (by decide) rfl (g3 h1 h2)
def f_Source_holds (m : zM) (i : Int32) : Int32 := if i < 0 then 0 else if m 1 1 ≤ i then 0 else 1
theorem d_Source_holds {xs : jx_Xs} {m : zM} {Q : Option Value → zM → Prop} {i : Int32}
    (g : Q (some (.int (f_Source_holds m i))) m) : ez xs 23 0 (jx_ent 23 [.ref 1, .int i]) [] m Q := by
  refine c_Source_holds (fun e0 => by have q : f_Source_holds m i = 0 := (by unfold f_Source_holds; first | rw [if_pos e0] | simp only [if_pos e0] | simp [e0]); rw [q] at g; exact g) (fun e0 e1 => by have q : f_Source_holds m i = 0 := (by unfold f_Source_holds; first | rw [if_neg e0, if_pos e1] | simp only [if_neg e0, if_pos e1] | simp [e0, e1]); rw [q] at g; exact g) (fun e0 e1 => by have q : f_Source_holds m i = 1 := (by unfold f_Source_holds; first | rw [if_neg e0, if_neg e1] | simp only [if_neg e0, if_neg e1] | simp [e0, e1]); rw [q] at g; exact g)
set_option maxRecDepth 100000 in
set_option maxHeartbeats 2000000 in
theorem c_Source_charOf {xs : jx_Xs} {m : zM} {Q : Option Value → zM → Prop} {i : Int32}
    (b1 : (¬ f_Source_holds m i = 0) → vp_in i 160)
    (b2 : (¬ f_Source_holds m i = 0) → vp_nar .char (m 2 i.toNatClampNeg) = m 2 i.toNatClampNeg)
    (g1 : (f_Source_holds m i = 0) → Q (some (.int 0)) m)
    (g2 : (¬ f_Source_holds m i = 0) → Q (some (.int (m 2 i.toNatClampNeg))) m) : ez xs 24 0 (jx_ent 24 [.ref 1, .int i]) [] m Q := by
  refine ez_blk 2 rfl ?_
  show ez xs 24 2 [some (.ref 1), some (.int i)] [.int i, .ref 1] m Q
  refine ez_call (as := [.ref 1, .int i]) (rest := []) rfl (by decide) rfl ?_
  refine d_Source_holds ?_
  show ez xs 24 5 [some (.ref 1), some (.int i)] [.int (f_Source_holds m i)] m Q
  refine ez_if_eq rfl (fun h1 => ?_) (fun h1 => ?_)
  · show ez xs 24 17 [some (.ref 1), some (.int i)] [] m Q
    refine ez_blk 1 rfl ?_
    show ez xs 24 18 [some (.ref 1), some (.int i)] [.int 0] m Q
    exact ez_ret rfl (by decide) rfl (g1 h1)
  · show ez xs 24 8 [some (.ref 1), some (.int i)] [] m Q
    refine ez_blk 3 rfl ?_
    show ez xs 24 13 [some (.ref 1), some (.int i)] [.int i, .ref 2] m Q
    refine ez_caldv rfl (by decide) rfl (b1 h1) ?_
    show ez xs 24 14 [some (.ref 1), some (.int i)] [.int (m 2 i.toNatClampNeg)] m Q
    refine ez_blk 1 rfl ?_
    show ez xs 24 18 [some (.ref 1), some (.int i)] [.int (m 2 i.toNatClampNeg)] m Q
    exact ez_retc rfl rfl (b2 h1) (g2 h1)
def f_Source_charOf (m : zM) (i : Int32) : Int32 := if f_Source_holds m i = 0 then 0 else (m 2 i.toNatClampNeg)
theorem d_Source_charOf {xs : jx_Xs} {m : zM} {Q : Option Value → zM → Prop} {i : Int32}
    (b1 : (¬ f_Source_holds m i = 0) → vp_in i 160)
    (b2 : (¬ f_Source_holds m i = 0) → vp_nar .char (m 2 i.toNatClampNeg) = m 2 i.toNatClampNeg)
    (g : Q (some (.int (f_Source_charOf m i))) m) : ez xs 24 0 (jx_ent 24 [.ref 1, .int i]) [] m Q := by
  refine c_Source_charOf b1 b2 (fun e0 => by have q : f_Source_charOf m i = 0 := (by unfold f_Source_charOf; first | rw [if_pos e0] | simp only [if_pos e0] | simp [e0]); rw [q] at g; exact g) (fun e0 => by have q : f_Source_charOf m i = (m 2 i.toNatClampNeg) := (by unfold f_Source_charOf; first | rw [if_neg e0] | simp only [if_neg e0] | simp [e0]); rw [q] at g; exact g)
set_option maxRecDepth 100000 in
set_option maxHeartbeats 2000000 in
theorem c_Source_append {xs : jx_Xs} {m : zM} {Q : Option Value → zM → Prop} {c : Int32}
    (b1 : (¬ 160 ≤ m 1 1) → (¬ c < 32) → (c ≤ 126) → vp_in (m 1 1) 160)
    (g1 : (160 ≤ m 1 1) → Q (some (.int 0)) m)
    (g2 : (¬ 160 ≤ m 1 1) → (c < 32) → Q (some (.int 0)) m)
    (g3 : (¬ 160 ≤ m 1 1) → (¬ c < 32) → (c ≤ 126) → Q (some (.int 1)) (jj_up (jj_up m 2 ((m 1 1).toNatClampNeg) (vp_nar .char c)) 1 1 ((m 1 1) + 1)))
    (g4 : (¬ 160 ≤ m 1 1) → (¬ c < 32) → (¬ c ≤ 126) → Q (some (.int 0)) m) : ez xs 13 0 (jx_ent 13 [.ref 1, .int c]) [] m Q := by
  refine ez_blk 3 rfl ?_
  show ez xs 13 7 [some (.ref 1), some (.int c)] [.int 160, .int (m 1 1)] m Q
  refine ez_icmp_ge rfl (fun h1 => ?_) (fun h1 => ?_)
  · show ez xs 13 22 [some (.ref 1), some (.int c)] [] m Q
    refine ez_blk 1 rfl ?_
    show ez xs 13 23 [some (.ref 1), some (.int c)] [.int 0] m Q
    exact ez_ret rfl (by decide) rfl (g1 h1)
  · show ez xs 13 10 [some (.ref 1), some (.int c)] [] m Q
    refine ez_blk 2 rfl ?_
    show ez xs 13 13 [some (.ref 1), some (.int c)] [.int 32, .int c] m Q
    refine ez_icmp_lt rfl (fun h2 => ?_) (fun h2 => ?_)
    · show ez xs 13 22 [some (.ref 1), some (.int c)] [] m Q
      refine ez_blk 1 rfl ?_
      show ez xs 13 23 [some (.ref 1), some (.int c)] [.int 0] m Q
      exact ez_ret rfl (by decide) rfl (g2 h1 h2)
    · show ez xs 13 16 [some (.ref 1), some (.int c)] [] m Q
      refine ez_blk 2 rfl ?_
      show ez xs 13 19 [some (.ref 1), some (.int c)] [.int 126, .int c] m Q
      refine ez_icmp_le rfl (fun h3 => ?_) (fun h3 => ?_)
      · show ez xs 13 24 [some (.ref 1), some (.int c)] [] m Q
        refine ez_blk 5 rfl ?_
        show ez xs 13 33 [some (.ref 1), some (.int c)] [.int c, .int (m 1 1), .ref 2] m Q
        refine ez_castv rfl (by decide) rfl (b1 h1 h2 h3) ?_
        show ez xs 13 34 [some (.ref 1), some (.int c)] [] (jj_up m 2 ((m 1 1).toNatClampNeg) (vp_nar .char c)) Q
        refine ez_blk 7 rfl ?_
        show ez xs 13 45 [some (.ref 1), some (.int c)] [.int 1] (jj_up (jj_up m 2 ((m 1 1).toNatClampNeg) (vp_nar .char c)) 1 1 ((m 1 1) + 1)) Q
        exact ez_ret rfl (by decide) rfl (g3 h1 h2 h3)
      · show ez xs 13 22 [some (.ref 1), some (.int c)] [] m Q
        refine ez_blk 1 rfl ?_
        show ez xs 13 23 [some (.ref 1), some (.int c)] [.int 0] m Q
        exact ez_ret rfl (by decide) rfl (g4 h1 h2 h3)
set_option maxRecDepth 100000 in
set_option maxHeartbeats 2000000 in
theorem c_PathPatcher_noteNewText {xs : jx_Xs} {m : zM} {Q : Option Value → zM → Prop}
    (g1 : Q none (jj_up (jj_up m 0 7 0) 0 8 0)) : ez xs 14 0 (jx_ent 14 [.ref 0]) [] m Q := by
  refine ez_blk 6 rfl ?_
  show ez xs 14 10 [some (.ref 0)] [] (jj_up (jj_up m 0 7 0) 0 8 0) Q
  exact ez_ret rfl (by decide) rfl (g1)
set_option maxRecDepth 100000 in
set_option maxHeartbeats 2000000 in
theorem c_PathPatcher_type {xs : jx_Xs} {m : zM} {Q : Option Value → zM → Prop} {c : Int32}
    (b1 : (¬ 160 ≤ m 1 1) → (¬ c < 32) → (c ≤ 126) → vp_in (m 1 1) 160)
    (g1 : (160 ≤ m 1 1) → Q (some (.int 0)) m)
    (g2 : (¬ 160 ≤ m 1 1) → (c < 32) → Q (some (.int 0)) m)
    (g3 : (¬ 160 ≤ m 1 1) → (¬ c < 32) → (c ≤ 126) → Q (some (.int 1)) (jj_up (jj_up (jj_up (jj_up m 2 ((m 1 1).toNatClampNeg) (vp_nar .char c)) 1 1 ((m 1 1) + 1)) 0 7 0) 0 8 0))
    (g4 : (¬ 160 ≤ m 1 1) → (¬ c < 32) → (¬ c ≤ 126) → Q (some (.int 0)) m) : ez xs 15 0 (jx_ent 15 [.ref 0, .int c]) [] m Q := by
  refine ez_blk 3 rfl ?_
  show ez xs 15 5 [some (.ref 0), some (.int c)] [.int c, .ref 1] m Q
  refine ez_call (as := [.ref 1, .int c]) (rest := []) rfl (by decide) rfl ?_
  refine c_Source_append (fun h1 h2 h3 => b1 h1 h2 h3) (fun h4 => ?_) (fun h5 h6 => ?_) (fun h7 h8 h9 => ?_) (fun h10 h11 h12 => ?_)
  · show ez xs 15 8 [some (.ref 0), some (.int c)] [.int 0] m Q
    refine ez_if_ne rfl (fun h => False.elim (by revert h; decide)) (fun _ => ?_)
    show ez xs 15 11 [some (.ref 0), some (.int c)] [] m Q
    refine ez_blk 1 rfl ?_
    show ez xs 15 12 [some (.ref 0), some (.int c)] [.int 0] m Q
    exact ez_ret rfl (by decide) rfl (g1 h4)
  · show ez xs 15 8 [some (.ref 0), some (.int c)] [.int 0] m Q
    refine ez_if_ne rfl (fun h => False.elim (by revert h; decide)) (fun _ => ?_)
    show ez xs 15 11 [some (.ref 0), some (.int c)] [] m Q
    refine ez_blk 1 rfl ?_
    show ez xs 15 12 [some (.ref 0), some (.int c)] [.int 0] m Q
    exact ez_ret rfl (by decide) rfl (g2 h5 h6)
  · show ez xs 15 8 [some (.ref 0), some (.int c)] [.int 1] (jj_up (jj_up m 2 ((m 1 1).toNatClampNeg) (vp_nar .char c)) 1 1 ((m 1 1) + 1)) Q
    refine ez_if_ne rfl (fun _ => ?_) (fun h => False.elim (by revert h; decide))
    show ez xs 15 13 [some (.ref 0), some (.int c)] [] (jj_up (jj_up m 2 ((m 1 1).toNatClampNeg) (vp_nar .char c)) 1 1 ((m 1 1) + 1)) Q
    refine ez_blk 1 rfl ?_
    show ez xs 15 14 [some (.ref 0), some (.int c)] [.ref 0] (jj_up (jj_up m 2 ((m 1 1).toNatClampNeg) (vp_nar .char c)) 1 1 ((m 1 1) + 1)) Q
    refine ez_call (as := [.ref 0]) (rest := []) rfl (by decide) rfl ?_
    refine c_PathPatcher_noteNewText ?_
    show ez xs 15 17 [some (.ref 0), some (.int c)] [] (jj_up (jj_up (jj_up (jj_up m 2 ((m 1 1).toNatClampNeg) (vp_nar .char c)) 1 1 ((m 1 1) + 1)) 0 7 0) 0 8 0) Q
    refine ez_blk 1 rfl ?_
    show ez xs 15 18 [some (.ref 0), some (.int c)] [.int 1] (jj_up (jj_up (jj_up (jj_up m 2 ((m 1 1).toNatClampNeg) (vp_nar .char c)) 1 1 ((m 1 1) + 1)) 0 7 0) 0 8 0) Q
    exact ez_ret rfl (by decide) rfl (g3 h7 h8 h9)
  · show ez xs 15 8 [some (.ref 0), some (.int c)] [.int 0] m Q
    refine ez_if_ne rfl (fun h => False.elim (by revert h; decide)) (fun _ => ?_)
    show ez xs 15 11 [some (.ref 0), some (.int c)] [] m Q
    refine ez_blk 1 rfl ?_
    show ez xs 15 12 [some (.ref 0), some (.int c)] [.int 0] m Q
    exact ez_ret rfl (by decide) rfl (g4 h10 h11 h12)
set_option maxRecDepth 100000 in
set_option maxHeartbeats 2000000 in
theorem c_PathPatcher_clear {xs : jx_Xs} {m : zM} {Q : Option Value → zM → Prop}
    (g1 : Q none (jj_up (jj_up (jj_up m 1 1 0) 0 7 0) 0 8 0)) : ez xs 18 0 (jx_ent 18 [.ref 0]) [] m Q := by
  refine ez_blk 2 rfl ?_
  show ez xs 18 4 [some (.ref 0)] [.ref 1] m Q
  refine ez_call (as := [.ref 1]) (rest := []) rfl (by decide) rfl ?_
  refine c_Source_empty ?_
  show ez xs 18 7 [some (.ref 0)] [] (jj_up m 1 1 0) Q
  refine ez_blk 1 rfl ?_
  show ez xs 18 8 [some (.ref 0)] [.ref 0] (jj_up m 1 1 0) Q
  refine ez_call (as := [.ref 0]) (rest := []) rfl (by decide) rfl ?_
  refine c_PathPatcher_noteNewText ?_
  show ez xs 18 11 [some (.ref 0)] [] (jj_up (jj_up (jj_up m 1 1 0) 0 7 0) 0 8 0) Q
  exact ez_ret rfl (by decide) rfl (g1)
set_option maxRecDepth 100000 in
set_option maxHeartbeats 2000000 in
theorem c_PathPatcher_length {xs : jx_Xs} {m : zM} {Q : Option Value → zM → Prop}
    (g1 : Q (some (.int (m 1 1))) m) : ez xs 21 0 (jx_ent 21 [.ref 0]) [] m Q := by
  refine ez_blk 2 rfl ?_
  show ez xs 21 4 [some (.ref 0)] [.ref 1] m Q
  refine ez_call (as := [.ref 1]) (rest := []) rfl (by decide) rfl ?_
  refine c_Source_size ?_
  show ez xs 21 7 [some (.ref 0)] [.int (m 1 1)] m Q
  exact ez_ret rfl (by decide) rfl (g1)
set_option maxRecDepth 100000 in
set_option maxHeartbeats 2000000 in
theorem c_PathPatcher_at {xs : jx_Xs} {m : zM} {Q : Option Value → zM → Prop} {i : Int32}
    (b1 : (¬ f_Source_holds m i = 0) → (¬ f_Source_holds m i = 0) → vp_in i 160)
    (b2 : (¬ f_Source_holds m i = 0) → (¬ f_Source_holds m i = 0) → vp_nar .char (m 2 i.toNatClampNeg) = m 2 i.toNatClampNeg)
    (g1 : (f_Source_holds m i = 0) → Q (some (.int (-1))) m)
    (g2 : (¬ f_Source_holds m i = 0) → Q (some (.int (f_Source_charOf m i))) m) : ez xs 25 0 (jx_ent 25 [.ref 0, .int i]) [] m Q := by
  refine ez_blk 3 rfl ?_
  show ez xs 25 5 [some (.ref 0), some (.int i)] [.int i, .ref 1] m Q
  refine ez_call (as := [.ref 1, .int i]) (rest := []) rfl (by decide) rfl ?_
  refine d_Source_holds ?_
  show ez xs 25 8 [some (.ref 0), some (.int i)] [.int (f_Source_holds m i)] m Q
  refine ez_if_eq rfl (fun h1 => ?_) (fun h1 => ?_)
  · show ez xs 25 22 [some (.ref 0), some (.int i)] [] m Q
    refine ez_blk 1 rfl ?_
    show ez xs 25 23 [some (.ref 0), some (.int i)] [.int (-1)] m Q
    exact ez_ret rfl (by decide) rfl (g1 h1)
  · show ez xs 25 11 [some (.ref 0), some (.int i)] [] m Q
    refine ez_blk 3 rfl ?_
    show ez xs 25 16 [some (.ref 0), some (.int i)] [.int i, .ref 1] m Q
    refine ez_call (as := [.ref 1, .int i]) (rest := []) rfl (by decide) rfl ?_
    refine d_Source_charOf (fun h2 => b1 h1 h2) (fun h3 => b2 h1 h3) ?_
    show ez xs 25 19 [some (.ref 0), some (.int i)] [.int (f_Source_charOf m i)] m Q
    refine ez_blk 1 rfl ?_
    show ez xs 25 23 [some (.ref 0), some (.int i)] [.int (f_Source_charOf m i)] m Q
    exact ez_ret rfl (by decide) rfl (g2 h1)
def f_PathPatcher_at (m : zM) (i : Int32) : Int32 := if f_Source_holds m i = 0 then (-1) else (f_Source_charOf m i)
theorem d_PathPatcher_at {xs : jx_Xs} {m : zM} {Q : Option Value → zM → Prop} {i : Int32}
    (b1 : (¬ f_Source_holds m i = 0) → (¬ f_Source_holds m i = 0) → vp_in i 160)
    (b2 : (¬ f_Source_holds m i = 0) → (¬ f_Source_holds m i = 0) → vp_nar .char (m 2 i.toNatClampNeg) = m 2 i.toNatClampNeg)
    (g : Q (some (.int (f_PathPatcher_at m i))) m) : ez xs 25 0 (jx_ent 25 [.ref 0, .int i]) [] m Q := by
  refine c_PathPatcher_at b1 b2 (fun e0 => by have q : f_PathPatcher_at m i = (-1) := (by unfold f_PathPatcher_at; first | rw [if_pos e0] | simp only [if_pos e0] | simp [e0]); rw [q] at g; exact g) (fun e0 => by have q : f_PathPatcher_at m i = (f_Source_charOf m i) := (by unfold f_PathPatcher_at; first | rw [if_neg e0] | simp only [if_neg e0] | simp [e0]); rw [q] at g; exact g)
set_option maxRecDepth 100000 in
set_option maxHeartbeats 2000000 in
theorem c_M_type {xs : jx_Xs} {m : zM} {Q : Option Value → zM → Prop} {c : Int32}
    (b1 : (¬ m 131 0 = 160) → (¬ c < 32) → (c ≤ 126) → vp_in (m 131 0) 160)
    (g1 : (m 131 0 = 160) → Q (some (.int 0)) m)
    (g2 : (¬ m 131 0 = 160) → (c < 32) → Q (some (.int 0)) m)
    (g3 : (¬ m 131 0 = 160) → (¬ c < 32) → (c ≤ 126) → Q (some (.int 1)) (jj_up (jj_up m 132 ((m 131 0).toNatClampNeg) c) 131 0 ((m 131 0) + 1)))
    (g4 : (¬ m 131 0 = 160) → (¬ c < 32) → (¬ c ≤ 126) → Q (some (.int 0)) m) : ez xs 16 0 (jx_ent 16 [.ref 131, .int c]) [] m Q := by
  refine ez_blk 3 rfl ?_
  show ez xs 16 7 [some (.ref 131), some (.int c)] [.int 160, .int (m 131 0)] m Q
  refine ez_icmp_eq rfl (fun h1 => ?_) (fun h1 => ?_)
  · show ez xs 16 22 [some (.ref 131), some (.int c)] [] m Q
    refine ez_blk 1 rfl ?_
    show ez xs 16 23 [some (.ref 131), some (.int c)] [.int 0] m Q
    exact ez_ret rfl (by decide) rfl (g1 h1)
  · show ez xs 16 10 [some (.ref 131), some (.int c)] [] m Q
    refine ez_blk 2 rfl ?_
    show ez xs 16 13 [some (.ref 131), some (.int c)] [.int 32, .int c] m Q
    refine ez_icmp_lt rfl (fun h2 => ?_) (fun h2 => ?_)
    · show ez xs 16 22 [some (.ref 131), some (.int c)] [] m Q
      refine ez_blk 1 rfl ?_
      show ez xs 16 23 [some (.ref 131), some (.int c)] [.int 0] m Q
      exact ez_ret rfl (by decide) rfl (g2 h1 h2)
    · show ez xs 16 16 [some (.ref 131), some (.int c)] [] m Q
      refine ez_blk 2 rfl ?_
      show ez xs 16 19 [some (.ref 131), some (.int c)] [.int 126, .int c] m Q
      refine ez_icmp_le rfl (fun h3 => ?_) (fun h3 => ?_)
      · show ez xs 16 24 [some (.ref 131), some (.int c)] [] m Q
        refine ez_blk 5 rfl ?_
        show ez xs 16 33 [some (.ref 131), some (.int c)] [.int c, .int (m 131 0), .ref 132] m Q
        refine ez_iastv rfl (by decide) rfl (b1 h1 h2 h3) ?_
        show ez xs 16 34 [some (.ref 131), some (.int c)] [] (jj_up m 132 ((m 131 0).toNatClampNeg) c) Q
        refine ez_blk 7 rfl ?_
        show ez xs 16 45 [some (.ref 131), some (.int c)] [.int 1] (jj_up (jj_up m 132 ((m 131 0).toNatClampNeg) c) 131 0 ((m 131 0) + 1)) Q
        exact ez_ret rfl (by decide) rfl (g3 h1 h2 h3)
      · show ez xs 16 22 [some (.ref 131), some (.int c)] [] m Q
        refine ez_blk 1 rfl ?_
        show ez xs 16 23 [some (.ref 131), some (.int c)] [.int 0] m Q
        exact ez_ret rfl (by decide) rfl (g4 h1 h2 h3)
set_option maxRecDepth 100000 in
set_option maxHeartbeats 2000000 in
theorem c_M_clear {xs : jx_Xs} {m : zM} {Q : Option Value → zM → Prop}
    (g1 : Q none (jj_up m 131 0 0)) : ez xs 19 0 (jx_ent 19 [.ref 131]) [] m Q := by
  refine ez_blk 3 rfl ?_
  show ez xs 19 5 [some (.ref 131)] [] (jj_up m 131 0 0) Q
  exact ez_ret rfl (by decide) rfl (g1)
set_option maxRecDepth 100000 in
set_option maxHeartbeats 2000000 in
theorem c_M_length {xs : jx_Xs} {m : zM} {Q : Option Value → zM → Prop}
    (g1 : Q (some (.int (m 131 0))) m) : ez xs 22 0 (jx_ent 22 [.ref 131]) [] m Q := by
  refine ez_blk 2 rfl ?_
  show ez xs 22 4 [some (.ref 131)] [.int (m 131 0)] m Q
  exact ez_ret rfl (by decide) rfl (g1)
set_option maxRecDepth 100000 in
set_option maxHeartbeats 2000000 in
theorem c_M_at {xs : jx_Xs} {m : zM} {Q : Option Value → zM → Prop} {i : Int32}
    (b1 : (¬ i < 0) → (i < m 131 0) → vp_in i 160)
    (g1 : (i < 0) → Q (some (.int (-1))) m)
    (g2 : (¬ i < 0) → (i < m 131 0) → Q (some (.int (m 132 i.toNatClampNeg))) m)
    (g3 : (¬ i < 0) → (¬ i < m 131 0) → Q (some (.int (-1))) m) : ez xs 26 0 (jx_ent 26 [.ref 131, .int i]) [] m Q := by
  refine ez_blk 1 rfl ?_
  show ez xs 26 1 [some (.ref 131), some (.int i)] [.int i] m Q
  refine ez_if_lt rfl (fun h1 => ?_) (fun h1 => ?_)
  · show ez xs 26 12 [some (.ref 131), some (.int i)] [] m Q
    refine ez_blk 2 rfl ?_
    show ez xs 26 22 [some (.ref 131), some (.int i)] [.int (-1)] m Q
    exact ez_ret rfl (by decide) rfl (g1 h1)
  · show ez xs 26 4 [some (.ref 131), some (.int i)] [] m Q
    refine ez_blk 3 rfl ?_
    show ez xs 26 9 [some (.ref 131), some (.int i)] [.int (m 131 0), .int i] m Q
    refine ez_icmp_lt rfl (fun h2 => ?_) (fun h2 => ?_)
    · show ez xs 26 16 [some (.ref 131), some (.int i)] [] m Q
      refine ez_blk 3 rfl ?_
      show ez xs 26 21 [some (.ref 131), some (.int i)] [.int i, .ref 132] m Q
      refine ez_ialdv rfl (by decide) rfl (b1 h1 h2) ?_
      show ez xs 26 22 [some (.ref 131), some (.int i)] [.int (m 132 i.toNatClampNeg)] m Q
      exact ez_ret rfl (by decide) rfl (g2 h1 h2)
    · show ez xs 26 12 [some (.ref 131), some (.int i)] [] m Q
      refine ez_blk 2 rfl ?_
      show ez xs 26 22 [some (.ref 131), some (.int i)] [.int (-1)] m Q
      exact ez_ret rfl (by decide) rfl (g3 h1 h2)
def f_M_at (m : zM) (i : Int32) : Int32 := if i < 0 then (-1) else if i < m 131 0 then (m 132 i.toNatClampNeg) else (-1)
theorem d_M_at {xs : jx_Xs} {m : zM} {Q : Option Value → zM → Prop} {i : Int32}
    (b1 : (¬ i < 0) → (i < m 131 0) → vp_in i 160)
    (g : Q (some (.int (f_M_at m i))) m) : ez xs 26 0 (jx_ent 26 [.ref 131, .int i]) [] m Q := by
  refine c_M_at b1 (fun e0 => by have q : f_M_at m i = (-1) := (by unfold f_M_at; first | rw [if_pos e0] | simp only [if_pos e0] | simp [e0]); rw [q] at g; exact g) (fun e0 e1 => by have q : f_M_at m i = (m 132 i.toNatClampNeg) := (by unfold f_M_at; first | rw [if_neg e0, if_pos e1] | simp only [if_neg e0, if_pos e1] | simp [e0, e1]); rw [q] at g; exact g) (fun e0 e1 => by have q : f_M_at m i = (-1) := (by unfold f_M_at; first | rw [if_neg e0, if_neg e1] | simp only [if_neg e0, if_neg e1] | simp [e0, e1]); rw [q] at g; exact g)
set_option maxRecDepth 100000 in
set_option maxHeartbeats 2000000 in
theorem c_Tokens_size {xs : jx_Xs} {m : zM} {Q : Option Value → zM → Prop}
    (g1 : Q (some (.int (m 30 2))) m) : ez xs 30 0 (jx_ent 30 [.ref 30]) [] m Q := by
  refine ez_blk 2 rfl ?_
  show ez xs 30 4 [some (.ref 30)] [.int (m 30 2)] m Q
  exact ez_ret rfl (by decide) rfl (g1)
set_option maxRecDepth 100000 in
set_option maxHeartbeats 2000000 in
theorem c_Tokens_append {xs : jx_Xs} {m : zM} {Q : Option Value → zM → Prop} {c p : Int32}
    (b1 : (¬ 160 ≤ m 30 2) → vp_in (m 30 2) 160)
    (b2 : (¬ 160 ≤ m 30 2) → vp_in (m 30 2) 160)
    (g1 : (160 ≤ m 30 2) → Q none m)
    (g2 : (¬ 160 ≤ m 30 2) → Q none (jj_up (jj_up (jj_up m 31 ((m 30 2).toNatClampNeg) (vp_nar .char c)) 32 ((m 30 2).toNatClampNeg) p) 30 2 ((m 30 2) + 1))) : ez xs 28 0 (jx_ent 28 [.ref 30, .int c, .int p]) [] m Q := by
  refine ez_blk 3 rfl ?_
  show ez xs 28 7 [some (.ref 30), some (.int c), some (.int p)] [.int 160, .int (m 30 2)] m Q
  refine ez_icmp_ge rfl (fun h1 => ?_) (fun h1 => ?_)
  · show ez xs 28 40 [some (.ref 30), some (.int c), some (.int p)] [] m Q
    exact ez_ret rfl (by decide) rfl (g1 h1)
  · show ez xs 28 10 [some (.ref 30), some (.int c), some (.int p)] [] m Q
    refine ez_blk 5 rfl ?_
    show ez xs 28 19 [some (.ref 30), some (.int c), some (.int p)] [.int c, .int (m 30 2), .ref 31] m Q
    refine ez_castv rfl (by decide) rfl (b1 h1) ?_
    show ez xs 28 20 [some (.ref 30), some (.int c), some (.int p)] [] (jj_up m 31 ((m 30 2).toNatClampNeg) (vp_nar .char c)) Q
    refine ez_blk 5 rfl ?_
    show ez xs 28 29 [some (.ref 30), some (.int c), some (.int p)] [.int p, .int (m 30 2), .ref 32] (jj_up m 31 ((m 30 2).toNatClampNeg) (vp_nar .char c)) Q
    refine ez_iastv rfl (by decide) rfl (b2 h1) ?_
    show ez xs 28 30 [some (.ref 30), some (.int c), some (.int p)] [] (jj_up (jj_up m 31 ((m 30 2).toNatClampNeg) (vp_nar .char c)) 32 ((m 30 2).toNatClampNeg) p) Q
    refine ez_blk 6 rfl ?_
    show ez xs 28 40 [some (.ref 30), some (.int c), some (.int p)] [] (jj_up (jj_up (jj_up m 31 ((m 30 2).toNatClampNeg) (vp_nar .char c)) 32 ((m 30 2).toNatClampNeg) p) 30 2 ((m 30 2) + 1)) Q
    exact ez_ret rfl (by decide) rfl (g2 h1)
set_option maxRecDepth 100000 in
set_option maxHeartbeats 2000000 in
theorem c_Tokens_sign {xs : jx_Xs} {m : zM} {Q : Option Value → zM → Prop} {i : Int32}
    (b1 : (¬ i < 0) → (¬ m 30 2 ≤ i) → vp_in i 160)
    (b2 : (¬ i < 0) → (¬ m 30 2 ≤ i) → vp_nar .char (m 31 i.toNatClampNeg) = m 31 i.toNatClampNeg)
    (g1 : (i < 0) → Q (some (.int 0)) m)
    (g2 : (¬ i < 0) → (m 30 2 ≤ i) → Q (some (.int 0)) m)
    (g3 : (¬ i < 0) → (¬ m 30 2 ≤ i) → Q (some (.int (m 31 i.toNatClampNeg))) m) : ez xs 31 0 (jx_ent 31 [.ref 30, .int i]) [] m Q := by
  refine ez_blk 1 rfl ?_
  show ez xs 31 1 [some (.ref 30), some (.int i)] [.int i] m Q
  refine ez_if_lt rfl (fun h1 => ?_) (fun h1 => ?_)
  · show ez xs 31 21 [some (.ref 30), some (.int i)] [] m Q
    refine ez_blk 1 rfl ?_
    show ez xs 31 22 [some (.ref 30), some (.int i)] [.int 0] m Q
    exact ez_ret rfl (by decide) rfl (g1 h1)
  · show ez xs 31 4 [some (.ref 30), some (.int i)] [] m Q
    refine ez_blk 3 rfl ?_
    show ez xs 31 9 [some (.ref 30), some (.int i)] [.int (m 30 2), .int i] m Q
    refine ez_icmp_ge rfl (fun h2 => ?_) (fun h2 => ?_)
    · show ez xs 31 21 [some (.ref 30), some (.int i)] [] m Q
      refine ez_blk 1 rfl ?_
      show ez xs 31 22 [some (.ref 30), some (.int i)] [.int 0] m Q
      exact ez_ret rfl (by decide) rfl (g2 h1 h2)
    · show ez xs 31 12 [some (.ref 30), some (.int i)] [] m Q
      refine ez_blk 3 rfl ?_
      show ez xs 31 17 [some (.ref 30), some (.int i)] [.int i, .ref 31] m Q
      refine ez_caldv rfl (by decide) rfl (b1 h1 h2) ?_
      show ez xs 31 18 [some (.ref 30), some (.int i)] [.int (m 31 i.toNatClampNeg)] m Q
      refine ez_blk 1 rfl ?_
      show ez xs 31 22 [some (.ref 30), some (.int i)] [.int (m 31 i.toNatClampNeg)] m Q
      exact ez_retc rfl rfl (b2 h1 h2) (g3 h1 h2)
def f_Tokens_sign (m : zM) (i : Int32) : Int32 := if i < 0 then 0 else if m 30 2 ≤ i then 0 else (m 31 i.toNatClampNeg)
theorem d_Tokens_sign {xs : jx_Xs} {m : zM} {Q : Option Value → zM → Prop} {i : Int32}
    (b1 : (¬ i < 0) → (¬ m 30 2 ≤ i) → vp_in i 160)
    (b2 : (¬ i < 0) → (¬ m 30 2 ≤ i) → vp_nar .char (m 31 i.toNatClampNeg) = m 31 i.toNatClampNeg)
    (g : Q (some (.int (f_Tokens_sign m i))) m) : ez xs 31 0 (jx_ent 31 [.ref 30, .int i]) [] m Q := by
  refine c_Tokens_sign b1 b2 (fun e0 => by have q : f_Tokens_sign m i = 0 := (by unfold f_Tokens_sign; first | rw [if_pos e0] | simp only [if_pos e0] | simp [e0]); rw [q] at g; exact g) (fun e0 e1 => by have q : f_Tokens_sign m i = 0 := (by unfold f_Tokens_sign; first | rw [if_neg e0, if_pos e1] | simp only [if_neg e0, if_pos e1] | simp [e0, e1]); rw [q] at g; exact g) (fun e0 e1 => by have q : f_Tokens_sign m i = (m 31 i.toNatClampNeg) := (by unfold f_Tokens_sign; first | rw [if_neg e0, if_neg e1] | simp only [if_neg e0, if_neg e1] | simp [e0, e1]); rw [q] at g; exact g)
set_option maxRecDepth 100000 in
set_option maxHeartbeats 2000000 in
theorem c_Tokens_place {xs : jx_Xs} {m : zM} {Q : Option Value → zM → Prop} {i : Int32}
    (b1 : (¬ i < 0) → (¬ m 30 2 ≤ i) → vp_in i 160)
    (g1 : (i < 0) → Q (some (.int (-1))) m)
    (g2 : (¬ i < 0) → (m 30 2 ≤ i) → Q (some (.int (-1))) m)
    (g3 : (¬ i < 0) → (¬ m 30 2 ≤ i) → Q (some (.int (m 32 i.toNatClampNeg))) m) : ez xs 46 0 (jx_ent 46 [.ref 30, .int i]) [] m Q := by
  refine ez_blk 1 rfl ?_
  show ez xs 46 1 [some (.ref 30), some (.int i)] [.int i] m Q
  refine ez_if_lt rfl (fun h1 => ?_) (fun h1 => ?_)
  · show ez xs 46 21 [some (.ref 30), some (.int i)] [] m Q
    refine ez_blk 1 rfl ?_
    show ez xs 46 22 [some (.ref 30), some (.int i)] [.int (-1)] m Q
    exact ez_ret rfl (by decide) rfl (g1 h1)
  · show ez xs 46 4 [some (.ref 30), some (.int i)] [] m Q
    refine ez_blk 3 rfl ?_
    show ez xs 46 9 [some (.ref 30), some (.int i)] [.int (m 30 2), .int i] m Q
    refine ez_icmp_ge rfl (fun h2 => ?_) (fun h2 => ?_)
    · show ez xs 46 21 [some (.ref 30), some (.int i)] [] m Q
      refine ez_blk 1 rfl ?_
      show ez xs 46 22 [some (.ref 30), some (.int i)] [.int (-1)] m Q
      exact ez_ret rfl (by decide) rfl (g2 h1 h2)
    · show ez xs 46 12 [some (.ref 30), some (.int i)] [] m Q
      refine ez_blk 3 rfl ?_
      show ez xs 46 17 [some (.ref 30), some (.int i)] [.int i, .ref 32] m Q
      refine ez_ialdv rfl (by decide) rfl (b1 h1 h2) ?_
      show ez xs 46 18 [some (.ref 30), some (.int i)] [.int (m 32 i.toNatClampNeg)] m Q
      refine ez_blk 1 rfl ?_
      show ez xs 46 22 [some (.ref 30), some (.int i)] [.int (m 32 i.toNatClampNeg)] m Q
      exact ez_ret rfl (by decide) rfl (g3 h1 h2)
def f_Tokens_place (m : zM) (i : Int32) : Int32 := if i < 0 then (-1) else if m 30 2 ≤ i then (-1) else (m 32 i.toNatClampNeg)
theorem d_Tokens_place {xs : jx_Xs} {m : zM} {Q : Option Value → zM → Prop} {i : Int32}
    (b1 : (¬ i < 0) → (¬ m 30 2 ≤ i) → vp_in i 160)
    (g : Q (some (.int (f_Tokens_place m i))) m) : ez xs 46 0 (jx_ent 46 [.ref 30, .int i]) [] m Q := by
  refine c_Tokens_place b1 (fun e0 => by have q : f_Tokens_place m i = (-1) := (by unfold f_Tokens_place; first | rw [if_pos e0] | simp only [if_pos e0] | simp [e0]); rw [q] at g; exact g) (fun e0 e1 => by have q : f_Tokens_place m i = (-1) := (by unfold f_Tokens_place; first | rw [if_neg e0, if_pos e1] | simp only [if_neg e0, if_pos e1] | simp [e0, e1]); rw [q] at g; exact g) (fun e0 e1 => by have q : f_Tokens_place m i = (m 32 i.toNatClampNeg) := (by unfold f_Tokens_place; first | rw [if_neg e0, if_neg e1] | simp only [if_neg e0, if_neg e1] | simp [e0, e1]); rw [q] at g; exact g)
set_option maxRecDepth 100000 in
set_option maxHeartbeats 2000000 in
theorem c_Parser_ahead {xs : jx_Xs} {m : zM} {Q : Option Value → zM → Prop} {i : Int32}
    (b1 : (¬ ((m 29 6) + i) < 0) → (¬ m 30 2 ≤ ((m 29 6) + i)) → vp_in ((m 29 6) + i) 160)
    (b2 : (¬ ((m 29 6) + i) < 0) → (¬ m 30 2 ≤ ((m 29 6) + i)) → vp_nar .char (m 31 ((m 29 6) + i).toNatClampNeg) = m 31 ((m 29 6) + i).toNatClampNeg)
    (b3 : vp_nar .char (f_Tokens_sign m ((m 29 6) + i)) = f_Tokens_sign m ((m 29 6) + i))
    (g1 : Q (some (.int (f_Tokens_sign m ((m 29 6) + i)))) m) : ez xs 32 0 (jx_ent 32 [.ref 29, .int i]) [] m Q := by
  refine ez_blk 6 rfl ?_
  show ez xs 32 10 [some (.ref 29), some (.int i)] [.int ((m 29 6) + i), .ref 30] m Q
  refine ez_call (as := [.ref 30, .int ((m 29 6) + i)]) (rest := []) rfl (by decide) rfl ?_
  refine d_Tokens_sign (fun h1 h2 => b1 h1 h2) (fun h3 h4 => b2 h3 h4) ?_
  show ez xs 32 13 [some (.ref 29), some (.int i)] [.int (f_Tokens_sign m ((m 29 6) + i))] m Q
  exact ez_retc rfl rfl (b3) (g1)
set_option maxRecDepth 100000 in
set_option maxHeartbeats 2000000 in
theorem c_Program_size {xs : jx_Xs} {m : zM} {Q : Option Value → zM → Prop}
    (g1 : Q (some (.int (m 3 1))) m) : ez xs 59 0 (jx_ent 59 [.ref 3]) [] m Q := by
  refine ez_blk 2 rfl ?_
  show ez xs 59 4 [some (.ref 3)] [.int (m 3 1)] m Q
  exact ez_ret rfl (by decide) rfl (g1)
set_option maxRecDepth 100000 in
set_option maxHeartbeats 2000000 in
theorem c_Program_holds {xs : jx_Xs} {m : zM} {Q : Option Value → zM → Prop} {n : Int32}
    (g1 : (n < 0) → Q (some (.int 0)) m)
    (g2 : (¬ n < 0) → (m 3 1 ≤ n) → Q (some (.int 0)) m)
    (g3 : (¬ n < 0) → (¬ m 3 1 ≤ n) → Q (some (.int 1)) m) : ez xs 73 0 (jx_ent 73 [.ref 3, .int n]) [] m Q := by
  refine ez_blk 1 rfl ?_
  show ez xs 73 1 [some (.ref 3), some (.int n)] [.int n] m Q
  refine ez_if_lt rfl (fun h1 => ?_) (fun h1 => ?_)
  · show ez xs 73 16 [some (.ref 3), some (.int n)] [] m Q
    refine ez_blk 1 rfl ?_
    show ez xs 73 17 [some (.ref 3), some (.int n)] [.int 0] m Q
    exact ez_ret rfl (by decide) rfl (g1 h1)
  · show ez xs 73 4 [some (.ref 3), some (.int n)] [] m Q
    refine ez_blk 3 rfl ?_
    show ez xs 73 9 [some (.ref 3), some (.int n)] [.int (m 3 1), .int n] m Q
    refine ez_icmp_ge rfl (fun h2 => ?_) (fun h2 => ?_)
    · show ez xs 73 16 [some (.ref 3), some (.int n)] [] m Q
      refine ez_blk 1 rfl ?_
      show ez xs 73 17 [some (.ref 3), some (.int n)] [.int 0] m Q
      exact ez_ret rfl (by decide) rfl (g2 h1 h2)
    · show ez xs 73 12 [some (.ref 3), some (.int n)] [] m Q
      refine ez_blk 2 rfl ?_
      show ez xs 73 17 [some (.ref 3), some (.int n)] [.int 1] m Q
      exact ez_ret rfl (by decide) rfl (g3 h1 h2)
def f_Program_holds (m : zM) (n : Int32) : Int32 := if n < 0 then 0 else if m 3 1 ≤ n then 0 else 1
theorem d_Program_holds {xs : jx_Xs} {m : zM} {Q : Option Value → zM → Prop} {n : Int32}
    (g : Q (some (.int (f_Program_holds m n))) m) : ez xs 73 0 (jx_ent 73 [.ref 3, .int n]) [] m Q := by
  refine c_Program_holds (fun e0 => by have q : f_Program_holds m n = 0 := (by unfold f_Program_holds; first | rw [if_pos e0] | simp only [if_pos e0] | simp [e0]); rw [q] at g; exact g) (fun e0 e1 => by have q : f_Program_holds m n = 0 := (by unfold f_Program_holds; first | rw [if_neg e0, if_pos e1] | simp only [if_neg e0, if_pos e1] | simp [e0, e1]); rw [q] at g; exact g) (fun e0 e1 => by have q : f_Program_holds m n = 1 := (by unfold f_Program_holds; first | rw [if_neg e0, if_neg e1] | simp only [if_neg e0, if_neg e1] | simp [e0, e1]); rw [q] at g; exact g)
set_option maxRecDepth 100000 in
set_option maxHeartbeats 2000000 in
theorem c_Program_empty {xs : jx_Xs} {m : zM} {Q : Option Value → zM → Prop}
    (g1 : Q none (jj_up m 3 1 0)) : ez xs 27 0 (jx_ent 27 [.ref 3]) [] m Q := by
  refine ez_blk 3 rfl ?_
  show ez xs 27 5 [some (.ref 3)] [] (jj_up m 3 1 0) Q
  exact ez_ret rfl (by decide) rfl (g1)
set_option maxRecDepth 100000 in
set_option maxHeartbeats 2000000 in
theorem c_Program_isFull {xs : jx_Xs} {m : zM} {Q : Option Value → zM → Prop}
    (g1 : (m 3 1 < 24) → Q (some (.int 0)) m)
    (g2 : (¬ m 3 1 < 24) → Q (some (.int 1)) m) : ez xs 36 0 (jx_ent 36 [.ref 3]) [] m Q := by
  refine ez_blk 3 rfl ?_
  show ez xs 36 6 [some (.ref 3)] [.int 24, .int (m 3 1)] m Q
  refine ez_icmp_lt rfl (fun h1 => ?_) (fun h1 => ?_)
  · show ez xs 36 13 [some (.ref 3)] [] m Q
    refine ez_blk 1 rfl ?_
    show ez xs 36 14 [some (.ref 3)] [.int 0] m Q
    exact ez_ret rfl (by decide) rfl (g1 h1)
  · show ez xs 36 9 [some (.ref 3)] [] m Q
    refine ez_blk 2 rfl ?_
    show ez xs 36 14 [some (.ref 3)] [.int 1] m Q
    exact ez_ret rfl (by decide) rfl (g2 h1)
def f_Program_isFull (m : zM) : Int32 := if m 3 1 < 24 then 0 else 1
theorem d_Program_isFull {xs : jx_Xs} {m : zM} {Q : Option Value → zM → Prop}
    (g : Q (some (.int (f_Program_isFull m))) m) : ez xs 36 0 (jx_ent 36 [.ref 3]) [] m Q := by
  refine c_Program_isFull (fun e0 => by have q : f_Program_isFull m = 0 := (by unfold f_Program_isFull; first | rw [if_pos e0] | simp only [if_pos e0] | simp [e0]); rw [q] at g; exact g) (fun e0 => by have q : f_Program_isFull m = 1 := (by unfold f_Program_isFull; first | rw [if_neg e0] | simp only [if_neg e0] | simp [e0]); rw [q] at g; exact g)
set_option maxRecDepth 100000 in
set_option maxHeartbeats 2000000 in
theorem c_Program_append {xs : jx_Xs} {m : zM} {Q : Option Value → zM → Prop}
    (g1 : (24 ≤ m 3 1) → Q (some (.int ((m 3 1) - 1))) m)
    (g2 : (¬ 24 ≤ m 3 1) → Q (some (.int (((m 3 1) + 1) - 1))) (jj_up m 3 1 ((m 3 1) + 1))) : ez xs 45 0 (jx_ent 45 [.ref 3]) [] m Q := by
  refine ez_blk 3 rfl ?_
  show ez xs 45 6 [some (.ref 3)] [.int 24, .int (m 3 1)] m Q
  refine ez_icmp_ge rfl (fun h1 => ?_) (fun h1 => ?_)
  · show ez xs 45 19 [some (.ref 3)] [] m Q
    refine ez_blk 4 rfl ?_
    show ez xs 45 25 [some (.ref 3)] [.int ((m 3 1) - 1)] m Q
    exact ez_ret rfl (by decide) rfl (g1 h1)
  · show ez xs 45 9 [some (.ref 3)] [] m Q
    refine ez_blk 10 rfl ?_
    show ez xs 45 25 [some (.ref 3)] [.int (((m 3 1) + 1) - 1)] (jj_up m 3 1 ((m 3 1) + 1)) Q
    exact ez_ret rfl (by decide) rfl (g2 h1)
set_option maxRecDepth 100000 in
set_option maxHeartbeats 2000000 in
theorem c_Program_exitBit {xs : jx_Xs} {m : zM} {Q : Option Value → zM → Prop}
    (g1 : Q (some (.int ((1 : Int32) <<< ((m 3 1) &&& 31)))) m) : ez xs 118 0 (jx_ent 118 [.ref 3]) [] m Q := by
  refine ez_blk 4 rfl ?_
  show ez xs 118 6 [some (.ref 3)] [.int ((1 : Int32) <<< ((m 3 1) &&& 31))] m Q
  exact ez_ret rfl (by decide) rfl (g1)
set_option maxRecDepth 100000 in
set_option maxHeartbeats 2000000 in
theorem c_M_look {xs : jx_Xs} {m : zM} {Q : Option Value → zM → Prop} {i : Int32}
    (b1 : (¬ m 131 2 ≤ i) → vp_in i 160)
    (g1 : (m 131 2 ≤ i) → Q (some (.int 0)) m)
    (g2 : (¬ m 131 2 ≤ i) → Q (some (.int (m 133 i.toNatClampNeg))) m) : ez xs 62 0 (jx_ent 62 [.ref 131, .int i]) [] m Q := by
  refine ez_blk 3 rfl ?_
  show ez xs 62 5 [some (.ref 131), some (.int i)] [.int (m 131 2), .int i] m Q
  refine ez_icmp_ge rfl (fun h1 => ?_) (fun h1 => ?_)
  · show ez xs 62 17 [some (.ref 131), some (.int i)] [] m Q
    refine ez_blk 1 rfl ?_
    show ez xs 62 18 [some (.ref 131), some (.int i)] [.int 0] m Q
    exact ez_ret rfl (by decide) rfl (g1 h1)
  · show ez xs 62 8 [some (.ref 131), some (.int i)] [] m Q
    refine ez_blk 3 rfl ?_
    show ez xs 62 13 [some (.ref 131), some (.int i)] [.int i, .ref 133] m Q
    refine ez_ialdv rfl (by decide) rfl (b1 h1) ?_
    show ez xs 62 14 [some (.ref 131), some (.int i)] [.int (m 133 i.toNatClampNeg)] m Q
    refine ez_blk 1 rfl ?_
    show ez xs 62 18 [some (.ref 131), some (.int i)] [.int (m 133 i.toNatClampNeg)] m Q
    exact ez_ret rfl (by decide) rfl (g2 h1)
def f_M_look (m : zM) (i : Int32) : Int32 := if m 131 2 ≤ i then 0 else (m 133 i.toNatClampNeg)
theorem d_M_look {xs : jx_Xs} {m : zM} {Q : Option Value → zM → Prop} {i : Int32}
    (b1 : (¬ m 131 2 ≤ i) → vp_in i 160)
    (g : Q (some (.int (f_M_look m i))) m) : ez xs 62 0 (jx_ent 62 [.ref 131, .int i]) [] m Q := by
  refine c_M_look b1 (fun e0 => by have q : f_M_look m i = 0 := (by unfold f_M_look; first | rw [if_pos e0] | simp only [if_pos e0] | simp [e0]); rw [q] at g; exact g) (fun e0 => by have q : f_M_look m i = (m 133 i.toNatClampNeg) := (by unfold f_M_look; first | rw [if_neg e0] | simp only [if_neg e0] | simp [e0]); rw [q] at g; exact g)
set_option maxRecDepth 100000 in
set_option maxHeartbeats 2000000 in
theorem c_M_variable {xs : jx_Xs} {m : zM} {Q : Option Value → zM → Prop} {i : Int32}
    (b1 : (¬ m 131 2 ≤ i) → vp_in i 160)
    (b2 : (¬ f_M_look m i < 97) → (¬ m 131 2 ≤ i) → vp_in i 160)
    (g1 : (f_M_look m i < 97) → Q (some (.int 0)) m)
    (g2 : (¬ f_M_look m i < 97) → (100 < f_M_look m i) → Q (some (.int 0)) m)
    (g3 : (¬ f_M_look m i < 97) → (¬ 100 < f_M_look m i) → Q (some (.int 1)) m) : ez xs 65 0 (jx_ent 65 [.ref 131, .int i]) [] m Q := by
  refine ez_blk 2 rfl ?_
  show ez xs 65 2 [some (.ref 131), some (.int i)] [.int i, .ref 131] m Q
  refine ez_call (as := [.ref 131, .int i]) (rest := []) rfl (by decide) rfl ?_
  refine d_M_look (fun h1 => b1 h1) ?_
  show ez xs 65 5 [some (.ref 131), some (.int i)] [.int (f_M_look m i)] m Q
  refine ez_blk 1 rfl ?_
  show ez xs 65 7 [some (.ref 131), some (.int i)] [.int 97, .int (f_M_look m i)] m Q
  refine ez_icmp_lt rfl (fun h2 => ?_) (fun h2 => ?_)
  · show ez xs 65 24 [some (.ref 131), some (.int i)] [] m Q
    refine ez_blk 1 rfl ?_
    show ez xs 65 25 [some (.ref 131), some (.int i)] [.int 0] m Q
    exact ez_ret rfl (by decide) rfl (g1 h2)
  · show ez xs 65 10 [some (.ref 131), some (.int i)] [] m Q
    refine ez_blk 2 rfl ?_
    show ez xs 65 12 [some (.ref 131), some (.int i)] [.int i, .ref 131] m Q
    refine ez_call (as := [.ref 131, .int i]) (rest := []) rfl (by decide) rfl ?_
    refine d_M_look (fun h3 => b2 h2 h3) ?_
    show ez xs 65 15 [some (.ref 131), some (.int i)] [.int (f_M_look m i)] m Q
    refine ez_blk 1 rfl ?_
    show ez xs 65 17 [some (.ref 131), some (.int i)] [.int 100, .int (f_M_look m i)] m Q
    refine ez_icmp_gt rfl (fun h4 => ?_) (fun h4 => ?_)
    · show ez xs 65 24 [some (.ref 131), some (.int i)] [] m Q
      refine ez_blk 1 rfl ?_
      show ez xs 65 25 [some (.ref 131), some (.int i)] [.int 0] m Q
      exact ez_ret rfl (by decide) rfl (g2 h2 h4)
    · show ez xs 65 20 [some (.ref 131), some (.int i)] [] m Q
      refine ez_blk 2 rfl ?_
      show ez xs 65 25 [some (.ref 131), some (.int i)] [.int 1] m Q
      exact ez_ret rfl (by decide) rfl (g3 h2 h4)
def f_M_variable (m : zM) (i : Int32) : Int32 := if f_M_look m i < 97 then 0 else if 100 < f_M_look m i then 0 else 1
theorem d_M_variable {xs : jx_Xs} {m : zM} {Q : Option Value → zM → Prop} {i : Int32}
    (b1 : (¬ m 131 2 ≤ i) → vp_in i 160)
    (b2 : (¬ f_M_look m i < 97) → (¬ m 131 2 ≤ i) → vp_in i 160)
    (g : Q (some (.int (f_M_variable m i))) m) : ez xs 65 0 (jx_ent 65 [.ref 131, .int i]) [] m Q := by
  refine c_M_variable b1 b2 (fun e0 => by have q : f_M_variable m i = 0 := (by unfold f_M_variable; first | rw [if_pos e0] | simp only [if_pos e0] | simp [e0]); rw [q] at g; exact g) (fun e0 e1 => by have q : f_M_variable m i = 0 := (by unfold f_M_variable; first | rw [if_neg e0, if_pos e1] | simp only [if_neg e0, if_pos e1] | simp [e0, e1]); rw [q] at g; exact g) (fun e0 e1 => by have q : f_M_variable m i = 1 := (by unfold f_M_variable; first | rw [if_neg e0, if_neg e1] | simp only [if_neg e0, if_neg e1] | simp [e0, e1]); rw [q] at g; exact g)
set_option maxRecDepth 100000 in
set_option maxHeartbeats 2000000 in
theorem c_M_function {xs : jx_Xs} {m : zM} {Q : Option Value → zM → Prop} {i : Int32}
    (b1 : (¬ m 131 2 ≤ i) → vp_in i 160)
    (b2 : (¬ f_M_look m i < 102) → (¬ m 131 2 ≤ i) → vp_in i 160)
    (g1 : (f_M_look m i < 102) → Q (some (.int 0)) m)
    (g2 : (¬ f_M_look m i < 102) → (104 < f_M_look m i) → Q (some (.int 0)) m)
    (g3 : (¬ f_M_look m i < 102) → (¬ 104 < f_M_look m i) → Q (some (.int 1)) m) : ez xs 67 0 (jx_ent 67 [.ref 131, .int i]) [] m Q := by
  refine ez_blk 2 rfl ?_
  show ez xs 67 2 [some (.ref 131), some (.int i)] [.int i, .ref 131] m Q
  refine ez_call (as := [.ref 131, .int i]) (rest := []) rfl (by decide) rfl ?_
  refine d_M_look (fun h1 => b1 h1) ?_
  show ez xs 67 5 [some (.ref 131), some (.int i)] [.int (f_M_look m i)] m Q
  refine ez_blk 1 rfl ?_
  show ez xs 67 7 [some (.ref 131), some (.int i)] [.int 102, .int (f_M_look m i)] m Q
  refine ez_icmp_lt rfl (fun h2 => ?_) (fun h2 => ?_)
  · show ez xs 67 24 [some (.ref 131), some (.int i)] [] m Q
    refine ez_blk 1 rfl ?_
    show ez xs 67 25 [some (.ref 131), some (.int i)] [.int 0] m Q
    exact ez_ret rfl (by decide) rfl (g1 h2)
  · show ez xs 67 10 [some (.ref 131), some (.int i)] [] m Q
    refine ez_blk 2 rfl ?_
    show ez xs 67 12 [some (.ref 131), some (.int i)] [.int i, .ref 131] m Q
    refine ez_call (as := [.ref 131, .int i]) (rest := []) rfl (by decide) rfl ?_
    refine d_M_look (fun h3 => b2 h2 h3) ?_
    show ez xs 67 15 [some (.ref 131), some (.int i)] [.int (f_M_look m i)] m Q
    refine ez_blk 1 rfl ?_
    show ez xs 67 17 [some (.ref 131), some (.int i)] [.int 104, .int (f_M_look m i)] m Q
    refine ez_icmp_gt rfl (fun h4 => ?_) (fun h4 => ?_)
    · show ez xs 67 24 [some (.ref 131), some (.int i)] [] m Q
      refine ez_blk 1 rfl ?_
      show ez xs 67 25 [some (.ref 131), some (.int i)] [.int 0] m Q
      exact ez_ret rfl (by decide) rfl (g2 h2 h4)
    · show ez xs 67 20 [some (.ref 131), some (.int i)] [] m Q
      refine ez_blk 2 rfl ?_
      show ez xs 67 25 [some (.ref 131), some (.int i)] [.int 1] m Q
      exact ez_ret rfl (by decide) rfl (g3 h2 h4)
def f_M_function (m : zM) (i : Int32) : Int32 := if f_M_look m i < 102 then 0 else if 104 < f_M_look m i then 0 else 1
theorem d_M_function {xs : jx_Xs} {m : zM} {Q : Option Value → zM → Prop} {i : Int32}
    (b1 : (¬ m 131 2 ≤ i) → vp_in i 160)
    (b2 : (¬ f_M_look m i < 102) → (¬ m 131 2 ≤ i) → vp_in i 160)
    (g : Q (some (.int (f_M_function m i))) m) : ez xs 67 0 (jx_ent 67 [.ref 131, .int i]) [] m Q := by
  refine c_M_function b1 b2 (fun e0 => by have q : f_M_function m i = 0 := (by unfold f_M_function; first | rw [if_pos e0] | simp only [if_pos e0] | simp [e0]); rw [q] at g; exact g) (fun e0 e1 => by have q : f_M_function m i = 0 := (by unfold f_M_function; first | rw [if_neg e0, if_pos e1] | simp only [if_neg e0, if_pos e1] | simp [e0, e1]); rw [q] at g; exact g) (fun e0 e1 => by have q : f_M_function m i = 1 := (by unfold f_M_function; first | rw [if_neg e0, if_neg e1] | simp only [if_neg e0, if_neg e1] | simp [e0, e1]); rw [q] at g; exact g)
set_option maxRecDepth 100000 in
set_option maxHeartbeats 2000000 in
theorem c_M_open {xs : jx_Xs} {m : zM} {Q : Option Value → zM → Prop} {t w : Int32}
    (b1 : (¬ m 131 20 = 6) → vp_in ((m 131 20) + 1) 7)
    (b2 : (¬ m 131 20 = 6) → vp_in ((m 131 20) + 1) 7)
    (b3 : (¬ m 131 20 = 6) → vp_in ((m 131 20) + 1) 7)
    (g1 : (¬ m 131 20 = 6) → Q (some (.int 1)) (jj_up (jj_up (jj_up (jj_up m 131 20 ((m 131 20) + 1)) 146 (((m 131 20) + 1).toNatClampNeg) t) 147 (((m 131 20) + 1).toNatClampNeg) w) 148 (((m 131 20) + 1).toNatClampNeg) (-1)))
    (g2 : (m 131 20 = 6) → Q (some (.int 0)) m) : ez xs 63 0 (jx_ent 63 [.ref 131, .int t, .int w]) [] m Q := by
  refine ez_blk 3 rfl ?_
  show ez xs 63 6 [some (.ref 131), some (.int t), some (.int w)] [.int 6, .int (m 131 20)] m Q
  refine ez_icmp_ne rfl (fun h1 => ?_) (fun h1 => ?_)
  · show ez xs 63 11 [some (.ref 131), some (.int t), some (.int w)] [] m Q
    refine ez_blk 11 rfl ?_
    show ez xs 63 30 [some (.ref 131), some (.int t), some (.int w)] [.int t, .int ((m 131 20) + 1), .ref 146] (jj_up m 131 20 ((m 131 20) + 1)) Q
    refine ez_iastv rfl (by decide) rfl (b1 h1) ?_
    show ez xs 63 31 [some (.ref 131), some (.int t), some (.int w)] [] (jj_up (jj_up m 131 20 ((m 131 20) + 1)) 146 (((m 131 20) + 1).toNatClampNeg) t) Q
    refine ez_blk 5 rfl ?_
    show ez xs 63 40 [some (.ref 131), some (.int t), some (.int w)] [.int w, .int ((m 131 20) + 1), .ref 147] (jj_up (jj_up m 131 20 ((m 131 20) + 1)) 146 (((m 131 20) + 1).toNatClampNeg) t) Q
    refine ez_iastv rfl (by decide) rfl (b2 h1) ?_
    show ez xs 63 41 [some (.ref 131), some (.int t), some (.int w)] [] (jj_up (jj_up (jj_up m 131 20 ((m 131 20) + 1)) 146 (((m 131 20) + 1).toNatClampNeg) t) 147 (((m 131 20) + 1).toNatClampNeg) w) Q
    refine ez_blk 5 rfl ?_
    show ez xs 63 50 [some (.ref 131), some (.int t), some (.int w)] [.int (-1), .int ((m 131 20) + 1), .ref 148] (jj_up (jj_up (jj_up m 131 20 ((m 131 20) + 1)) 146 (((m 131 20) + 1).toNatClampNeg) t) 147 (((m 131 20) + 1).toNatClampNeg) w) Q
    refine ez_iastv rfl (by decide) rfl (b3 h1) ?_
    show ez xs 63 51 [some (.ref 131), some (.int t), some (.int w)] [] (jj_up (jj_up (jj_up (jj_up m 131 20 ((m 131 20) + 1)) 146 (((m 131 20) + 1).toNatClampNeg) t) 147 (((m 131 20) + 1).toNatClampNeg) w) 148 (((m 131 20) + 1).toNatClampNeg) (-1)) Q
    refine ez_blk 1 rfl ?_
    show ez xs 63 52 [some (.ref 131), some (.int t), some (.int w)] [.int 1] (jj_up (jj_up (jj_up (jj_up m 131 20 ((m 131 20) + 1)) 146 (((m 131 20) + 1).toNatClampNeg) t) 147 (((m 131 20) + 1).toNatClampNeg) w) 148 (((m 131 20) + 1).toNatClampNeg) (-1)) Q
    exact ez_ret rfl (by decide) rfl (g1 h1)
  · show ez xs 63 9 [some (.ref 131), some (.int t), some (.int w)] [] m Q
    refine ez_blk 1 rfl ?_
    show ez xs 63 10 [some (.ref 131), some (.int t), some (.int w)] [.int 0] m Q
    exact ez_ret rfl (by decide) rfl (g2 h1)
set_option maxRecDepth 100000 in
set_option maxHeartbeats 2000000 in
theorem c_M_valid {xs : jx_Xs} {m : zM} {Q : Option Value → zM → Prop} {o f x y : Int32}
    (g1 : (o < 0) → Q (some (.int 0)) m)
    (g2 : (¬ o < 0) → (3 < o) → Q (some (.int 0)) m)
    (g3 : (¬ o < 0) → (¬ 3 < o) → (x < 0) → Q (some (.int 0)) m)
    (g4 : (¬ o < 0) → (¬ 3 < o) → (¬ x < 0) → (6 < x) → Q (some (.int 0)) m)
    (g5 : (¬ o < 0) → (¬ 3 < o) → (¬ x < 0) → (¬ 6 < x) → (¬ o = 0) → (¬ o = 1) → Q (some (.int 1)) m)
    (g6 : (¬ o < 0) → (¬ 3 < o) → (¬ x < 0) → (¬ 6 < x) → (¬ o = 0) → (o = 1) → (y < 0) → Q (some (.int 0)) m)
    (g7 : (¬ o < 0) → (¬ 3 < o) → (¬ x < 0) → (¬ 6 < x) → (¬ o = 0) → (o = 1) → (¬ y < 0) → (6 < y) → Q (some (.int 0)) m)
    (g8 : (¬ o < 0) → (¬ 3 < o) → (¬ x < 0) → (¬ 6 < x) → (¬ o = 0) → (o = 1) → (¬ y < 0) → (¬ 6 < y) → Q (some (.int 1)) m)
    (g9 : (¬ o < 0) → (¬ 3 < o) → (¬ x < 0) → (¬ 6 < x) → (o = 0) → (f < 0) → Q (some (.int 0)) m)
    (g10 : (¬ o < 0) → (¬ 3 < o) → (¬ x < 0) → (¬ 6 < x) → (o = 0) → (¬ f < 0) → (2 < f) → Q (some (.int 0)) m)
    (g11 : (¬ o < 0) → (¬ 3 < o) → (¬ x < 0) → (¬ 6 < x) → (o = 0) → (¬ f < 0) → (¬ 2 < f) → (¬ o = 1) → Q (some (.int 1)) m)
    (g12 : (¬ o < 0) → (¬ 3 < o) → (¬ x < 0) → (¬ 6 < x) → (o = 0) → (¬ f < 0) → (¬ 2 < f) → (o = 1) → (y < 0) → Q (some (.int 0)) m)
    (g13 : (¬ o < 0) → (¬ 3 < o) → (¬ x < 0) → (¬ 6 < x) → (o = 0) → (¬ f < 0) → (¬ 2 < f) → (o = 1) → (¬ y < 0) → (6 < y) → Q (some (.int 0)) m)
    (g14 : (¬ o < 0) → (¬ 3 < o) → (¬ x < 0) → (¬ 6 < x) → (o = 0) → (¬ f < 0) → (¬ 2 < f) → (o = 1) → (¬ y < 0) → (¬ 6 < y) → Q (some (.int 1)) m) : ez xs 90 0 (jx_ent 90 [.ref 131, .int o, .int f, .int x, .int y]) [] m Q := by
  refine ez_blk 1 rfl ?_
  show ez xs 90 1 [some (.ref 131), some (.int o), some (.int f), some (.int x), some (.int y), none] [.int o] m Q
  refine ez_if_lt rfl (fun h1 => ?_) (fun h1 => ?_)
  · show ez xs 90 23 [some (.ref 131), some (.int o), some (.int f), some (.int x), some (.int y), none] [] m Q
    refine ez_blk 3 rfl ?_
    show ez xs 90 28 [some (.ref 131), some (.int o), some (.int f), some (.int x), some (.int y), some (.int 0)] [.int 0] m Q
    refine ez_if_eq rfl (fun _ => ?_) (fun h => False.elim (by revert h; decide))
    show ez xs 90 65 [some (.ref 131), some (.int o), some (.int f), some (.int x), some (.int y), some (.int 0)] [] m Q
    refine ez_blk 1 rfl ?_
    show ez xs 90 66 [some (.ref 131), some (.int o), some (.int f), some (.int x), some (.int y), some (.int 0)] [.int 0] m Q
    exact ez_ret rfl (by decide) rfl (g1 h1)
  · show ez xs 90 4 [some (.ref 131), some (.int o), some (.int f), some (.int x), some (.int y), none] [] m Q
    refine ez_blk 2 rfl ?_
    show ez xs 90 6 [some (.ref 131), some (.int o), some (.int f), some (.int x), some (.int y), none] [.int 3, .int o] m Q
    refine ez_icmp_gt rfl (fun h2 => ?_) (fun h2 => ?_)
    · show ez xs 90 23 [some (.ref 131), some (.int o), some (.int f), some (.int x), some (.int y), none] [] m Q
      refine ez_blk 3 rfl ?_
      show ez xs 90 28 [some (.ref 131), some (.int o), some (.int f), some (.int x), some (.int y), some (.int 0)] [.int 0] m Q
      refine ez_if_eq rfl (fun _ => ?_) (fun h => False.elim (by revert h; decide))
      show ez xs 90 65 [some (.ref 131), some (.int o), some (.int f), some (.int x), some (.int y), some (.int 0)] [] m Q
      refine ez_blk 1 rfl ?_
      show ez xs 90 66 [some (.ref 131), some (.int o), some (.int f), some (.int x), some (.int y), some (.int 0)] [.int 0] m Q
      exact ez_ret rfl (by decide) rfl (g2 h1 h2)
    · show ez xs 90 9 [some (.ref 131), some (.int o), some (.int f), some (.int x), some (.int y), none] [] m Q
      refine ez_blk 1 rfl ?_
      show ez xs 90 10 [some (.ref 131), some (.int o), some (.int f), some (.int x), some (.int y), none] [.int x] m Q
      refine ez_if_lt rfl (fun h3 => ?_) (fun h3 => ?_)
      · show ez xs 90 23 [some (.ref 131), some (.int o), some (.int f), some (.int x), some (.int y), none] [] m Q
        refine ez_blk 3 rfl ?_
        show ez xs 90 28 [some (.ref 131), some (.int o), some (.int f), some (.int x), some (.int y), some (.int 0)] [.int 0] m Q
        refine ez_if_eq rfl (fun _ => ?_) (fun h => False.elim (by revert h; decide))
        show ez xs 90 65 [some (.ref 131), some (.int o), some (.int f), some (.int x), some (.int y), some (.int 0)] [] m Q
        refine ez_blk 1 rfl ?_
        show ez xs 90 66 [some (.ref 131), some (.int o), some (.int f), some (.int x), some (.int y), some (.int 0)] [.int 0] m Q
        exact ez_ret rfl (by decide) rfl (g3 h1 h2 h3)
      · show ez xs 90 13 [some (.ref 131), some (.int o), some (.int f), some (.int x), some (.int y), none] [] m Q
        refine ez_blk 2 rfl ?_
        show ez xs 90 16 [some (.ref 131), some (.int o), some (.int f), some (.int x), some (.int y), none] [.int 6, .int x] m Q
        refine ez_icmp_gt rfl (fun h4 => ?_) (fun h4 => ?_)
        · show ez xs 90 23 [some (.ref 131), some (.int o), some (.int f), some (.int x), some (.int y), none] [] m Q
          refine ez_blk 3 rfl ?_
          show ez xs 90 28 [some (.ref 131), some (.int o), some (.int f), some (.int x), some (.int y), some (.int 0)] [.int 0] m Q
          refine ez_if_eq rfl (fun _ => ?_) (fun h => False.elim (by revert h; decide))
          show ez xs 90 65 [some (.ref 131), some (.int o), some (.int f), some (.int x), some (.int y), some (.int 0)] [] m Q
          refine ez_blk 1 rfl ?_
          show ez xs 90 66 [some (.ref 131), some (.int o), some (.int f), some (.int x), some (.int y), some (.int 0)] [.int 0] m Q
          exact ez_ret rfl (by decide) rfl (g4 h1 h2 h3 h4)
        · show ez xs 90 19 [some (.ref 131), some (.int o), some (.int f), some (.int x), some (.int y), none] [] m Q
          refine ez_blk 4 rfl ?_
          show ez xs 90 28 [some (.ref 131), some (.int o), some (.int f), some (.int x), some (.int y), some (.int 1)] [.int 1] m Q
          refine ez_if_eq rfl (fun h => False.elim (by revert h; decide)) (fun _ => ?_)
          show ez xs 90 31 [some (.ref 131), some (.int o), some (.int f), some (.int x), some (.int y), some (.int 1)] [] m Q
          refine ez_blk 1 rfl ?_
          show ez xs 90 32 [some (.ref 131), some (.int o), some (.int f), some (.int x), some (.int y), some (.int 1)] [.int o] m Q
          refine ez_if_ne rfl (fun h5 => ?_) (fun h5 => ?_)
          · show ez xs 90 44 [some (.ref 131), some (.int o), some (.int f), some (.int x), some (.int y), some (.int 1)] [] m Q
            refine ez_blk 2 rfl ?_
            show ez xs 90 46 [some (.ref 131), some (.int o), some (.int f), some (.int x), some (.int y), some (.int 1)] [.int 1, .int o] m Q
            refine ez_icmp_ne rfl (fun h6 => ?_) (fun h6 => ?_)
            · show ez xs 90 61 [some (.ref 131), some (.int o), some (.int f), some (.int x), some (.int y), some (.int 1)] [] m Q
              refine ez_blk 2 rfl ?_
              show ez xs 90 66 [some (.ref 131), some (.int o), some (.int f), some (.int x), some (.int y), some (.int 1)] [.int 1] m Q
              exact ez_ret rfl (by decide) rfl (g5 h1 h2 h3 h4 h5 h6)
            · show ez xs 90 49 [some (.ref 131), some (.int o), some (.int f), some (.int x), some (.int y), some (.int 1)] [] m Q
              refine ez_blk 1 rfl ?_
              show ez xs 90 51 [some (.ref 131), some (.int o), some (.int f), some (.int x), some (.int y), some (.int 1)] [.int y] m Q
              refine ez_if_lt rfl (fun h7 => ?_) (fun h7 => ?_)
              · show ez xs 90 65 [some (.ref 131), some (.int o), some (.int f), some (.int x), some (.int y), some (.int 1)] [] m Q
                refine ez_blk 1 rfl ?_
                show ez xs 90 66 [some (.ref 131), some (.int o), some (.int f), some (.int x), some (.int y), some (.int 1)] [.int 0] m Q
                exact ez_ret rfl (by decide) rfl (g6 h1 h2 h3 h4 h5 h6 h7)
              · show ez xs 90 54 [some (.ref 131), some (.int o), some (.int f), some (.int x), some (.int y), some (.int 1)] [] m Q
                refine ez_blk 2 rfl ?_
                show ez xs 90 58 [some (.ref 131), some (.int o), some (.int f), some (.int x), some (.int y), some (.int 1)] [.int 6, .int y] m Q
                refine ez_icmp_gt rfl (fun h8 => ?_) (fun h8 => ?_)
                · show ez xs 90 65 [some (.ref 131), some (.int o), some (.int f), some (.int x), some (.int y), some (.int 1)] [] m Q
                  refine ez_blk 1 rfl ?_
                  show ez xs 90 66 [some (.ref 131), some (.int o), some (.int f), some (.int x), some (.int y), some (.int 1)] [.int 0] m Q
                  exact ez_ret rfl (by decide) rfl (g7 h1 h2 h3 h4 h5 h6 h7 h8)
                · show ez xs 90 61 [some (.ref 131), some (.int o), some (.int f), some (.int x), some (.int y), some (.int 1)] [] m Q
                  refine ez_blk 2 rfl ?_
                  show ez xs 90 66 [some (.ref 131), some (.int o), some (.int f), some (.int x), some (.int y), some (.int 1)] [.int 1] m Q
                  exact ez_ret rfl (by decide) rfl (g8 h1 h2 h3 h4 h5 h6 h7 h8)
          · show ez xs 90 35 [some (.ref 131), some (.int o), some (.int f), some (.int x), some (.int y), some (.int 1)] [] m Q
            refine ez_blk 1 rfl ?_
            show ez xs 90 36 [some (.ref 131), some (.int o), some (.int f), some (.int x), some (.int y), some (.int 1)] [.int f] m Q
            refine ez_if_lt rfl (fun h9 => ?_) (fun h9 => ?_)
            · show ez xs 90 65 [some (.ref 131), some (.int o), some (.int f), some (.int x), some (.int y), some (.int 1)] [] m Q
              refine ez_blk 1 rfl ?_
              show ez xs 90 66 [some (.ref 131), some (.int o), some (.int f), some (.int x), some (.int y), some (.int 1)] [.int 0] m Q
              exact ez_ret rfl (by decide) rfl (g9 h1 h2 h3 h4 h5 h9)
            · show ez xs 90 39 [some (.ref 131), some (.int o), some (.int f), some (.int x), some (.int y), some (.int 1)] [] m Q
              refine ez_blk 2 rfl ?_
              show ez xs 90 41 [some (.ref 131), some (.int o), some (.int f), some (.int x), some (.int y), some (.int 1)] [.int 2, .int f] m Q
              refine ez_icmp_gt rfl (fun h10 => ?_) (fun h10 => ?_)
              · show ez xs 90 65 [some (.ref 131), some (.int o), some (.int f), some (.int x), some (.int y), some (.int 1)] [] m Q
                refine ez_blk 1 rfl ?_
                show ez xs 90 66 [some (.ref 131), some (.int o), some (.int f), some (.int x), some (.int y), some (.int 1)] [.int 0] m Q
                exact ez_ret rfl (by decide) rfl (g10 h1 h2 h3 h4 h5 h9 h10)
              · show ez xs 90 44 [some (.ref 131), some (.int o), some (.int f), some (.int x), some (.int y), some (.int 1)] [] m Q
                refine ez_blk 2 rfl ?_
                show ez xs 90 46 [some (.ref 131), some (.int o), some (.int f), some (.int x), some (.int y), some (.int 1)] [.int 1, .int o] m Q
                refine ez_icmp_ne rfl (fun h11 => ?_) (fun h11 => ?_)
                · show ez xs 90 61 [some (.ref 131), some (.int o), some (.int f), some (.int x), some (.int y), some (.int 1)] [] m Q
                  refine ez_blk 2 rfl ?_
                  show ez xs 90 66 [some (.ref 131), some (.int o), some (.int f), some (.int x), some (.int y), some (.int 1)] [.int 1] m Q
                  exact ez_ret rfl (by decide) rfl (g11 h1 h2 h3 h4 h5 h9 h10 h11)
                · show ez xs 90 49 [some (.ref 131), some (.int o), some (.int f), some (.int x), some (.int y), some (.int 1)] [] m Q
                  refine ez_blk 1 rfl ?_
                  show ez xs 90 51 [some (.ref 131), some (.int o), some (.int f), some (.int x), some (.int y), some (.int 1)] [.int y] m Q
                  refine ez_if_lt rfl (fun h12 => ?_) (fun h12 => ?_)
                  · show ez xs 90 65 [some (.ref 131), some (.int o), some (.int f), some (.int x), some (.int y), some (.int 1)] [] m Q
                    refine ez_blk 1 rfl ?_
                    show ez xs 90 66 [some (.ref 131), some (.int o), some (.int f), some (.int x), some (.int y), some (.int 1)] [.int 0] m Q
                    exact ez_ret rfl (by decide) rfl (g12 h1 h2 h3 h4 h5 h9 h10 h11 h12)
                  · show ez xs 90 54 [some (.ref 131), some (.int o), some (.int f), some (.int x), some (.int y), some (.int 1)] [] m Q
                    refine ez_blk 2 rfl ?_
                    show ez xs 90 58 [some (.ref 131), some (.int o), some (.int f), some (.int x), some (.int y), some (.int 1)] [.int 6, .int y] m Q
                    refine ez_icmp_gt rfl (fun h13 => ?_) (fun h13 => ?_)
                    · show ez xs 90 65 [some (.ref 131), some (.int o), some (.int f), some (.int x), some (.int y), some (.int 1)] [] m Q
                      refine ez_blk 1 rfl ?_
                      show ez xs 90 66 [some (.ref 131), some (.int o), some (.int f), some (.int x), some (.int y), some (.int 1)] [.int 0] m Q
                      exact ez_ret rfl (by decide) rfl (g13 h1 h2 h3 h4 h5 h9 h10 h11 h12 h13)
                    · show ez xs 90 61 [some (.ref 131), some (.int o), some (.int f), some (.int x), some (.int y), some (.int 1)] [] m Q
                      refine ez_blk 2 rfl ?_
                      show ez xs 90 66 [some (.ref 131), some (.int o), some (.int f), some (.int x), some (.int y), some (.int 1)] [.int 1] m Q
                      exact ez_ret rfl (by decide) rfl (g14 h1 h2 h3 h4 h5 h9 h10 h11 h12 h13)
def f_M_valid (m : zM) (o f x y : Int32) : Int32 := if o < 0 then 0 else if 3 < o then 0 else if x < 0 then 0 else if 6 < x then 0 else if o = 0 then if f < 0 then 0 else if 2 < f then 0 else if o = 1 then if y < 0 then 0 else if 6 < y then 0 else 1 else 1 else if o = 1 then if y < 0 then 0 else if 6 < y then 0 else 1 else 1
theorem d_M_valid {xs : jx_Xs} {m : zM} {Q : Option Value → zM → Prop} {o f x y : Int32}
    (g : Q (some (.int (f_M_valid m o f x y))) m) : ez xs 90 0 (jx_ent 90 [.ref 131, .int o, .int f, .int x, .int y]) [] m Q := by
  refine c_M_valid (fun e0 => by have q : f_M_valid m o f x y = 0 := (by unfold f_M_valid; first | rw [if_pos e0] | simp only [if_pos e0] | simp [e0]); rw [q] at g; exact g) (fun e0 e1 => by have q : f_M_valid m o f x y = 0 := (by unfold f_M_valid; first | rw [if_neg e0, if_pos e1] | simp only [if_neg e0, if_pos e1] | simp [e0, e1]); rw [q] at g; exact g) (fun e0 e1 e2 => by have q : f_M_valid m o f x y = 0 := (by unfold f_M_valid; first | rw [if_neg e0, if_neg e1, if_pos e2] | simp only [if_neg e0, if_neg e1, if_pos e2] | simp [e0, e1, e2]); rw [q] at g; exact g) (fun e0 e1 e2 e3 => by have q : f_M_valid m o f x y = 0 := (by unfold f_M_valid; first | rw [if_neg e0, if_neg e1, if_neg e2, if_pos e3] | simp only [if_neg e0, if_neg e1, if_neg e2, if_pos e3] | simp [e0, e1, e2, e3]); rw [q] at g; exact g) (fun e0 e1 e2 e3 e4 e5 => by have q : f_M_valid m o f x y = 1 := (by unfold f_M_valid; first | rw [if_neg e0, if_neg e1, if_neg e2, if_neg e3, if_neg e4, if_neg e5] | simp only [if_neg e0, if_neg e1, if_neg e2, if_neg e3, if_neg e4, if_neg e5] | simp [e0, e1, e2, e3, e4, e5]); rw [q] at g; exact g) (fun e0 e1 e2 e3 e4 e5 e6 => by have q : f_M_valid m o f x y = 0 := (by unfold f_M_valid; first | rw [if_neg e0, if_neg e1, if_neg e2, if_neg e3, if_neg e4, if_pos e5, if_pos e6] | simp only [if_neg e0, if_neg e1, if_neg e2, if_neg e3, if_neg e4, if_pos e5, if_pos e6] | simp [e0, e1, e2, e3, e4, e5, e6]); rw [q] at g; exact g) (fun e0 e1 e2 e3 e4 e5 e6 e7 => by have q : f_M_valid m o f x y = 0 := (by unfold f_M_valid; first | rw [if_neg e0, if_neg e1, if_neg e2, if_neg e3, if_neg e4, if_pos e5, if_neg e6, if_pos e7] | simp only [if_neg e0, if_neg e1, if_neg e2, if_neg e3, if_neg e4, if_pos e5, if_neg e6, if_pos e7] | simp [e0, e1, e2, e3, e4, e5, e6, e7]); rw [q] at g; exact g) (fun e0 e1 e2 e3 e4 e5 e6 e7 => by have q : f_M_valid m o f x y = 1 := (by unfold f_M_valid; first | rw [if_neg e0, if_neg e1, if_neg e2, if_neg e3, if_neg e4, if_pos e5, if_neg e6, if_neg e7] | simp only [if_neg e0, if_neg e1, if_neg e2, if_neg e3, if_neg e4, if_pos e5, if_neg e6, if_neg e7] | simp [e0, e1, e2, e3, e4, e5, e6, e7]); rw [q] at g; exact g) (fun e0 e1 e2 e3 e4 e5 => by have q : f_M_valid m o f x y = 0 := (by unfold f_M_valid; first | rw [if_neg e0, if_neg e1, if_neg e2, if_neg e3, if_pos e4, if_pos e5] | simp only [if_neg e0, if_neg e1, if_neg e2, if_neg e3, if_pos e4, if_pos e5] | simp [e0, e1, e2, e3, e4, e5]); rw [q] at g; exact g) (fun e0 e1 e2 e3 e4 e5 e6 => by have q : f_M_valid m o f x y = 0 := (by unfold f_M_valid; first | rw [if_neg e0, if_neg e1, if_neg e2, if_neg e3, if_pos e4, if_neg e5, if_pos e6] | simp only [if_neg e0, if_neg e1, if_neg e2, if_neg e3, if_pos e4, if_neg e5, if_pos e6] | simp [e0, e1, e2, e3, e4, e5, e6]); rw [q] at g; exact g) (fun e0 e1 e2 e3 e4 e5 e6 e7 => by have q : f_M_valid m o f x y = 1 := (by unfold f_M_valid; first | rw [if_neg e0, if_neg e1, if_neg e2, if_neg e3, if_pos e4, if_neg e5, if_neg e6, if_neg e7] | simp only [if_neg e0, if_neg e1, if_neg e2, if_neg e3, if_pos e4, if_neg e5, if_neg e6, if_neg e7] | simp [e0, e1, e2, e3, e4, e5, e6, e7]); rw [q] at g; exact g) (fun e0 e1 e2 e3 e4 e5 e6 e7 e8 => by have q : f_M_valid m o f x y = 0 := (by unfold f_M_valid; first | rw [if_neg e0, if_neg e1, if_neg e2, if_neg e3, if_pos e4, if_neg e5, if_neg e6, if_pos e7, if_pos e8] | simp only [if_neg e0, if_neg e1, if_neg e2, if_neg e3, if_pos e4, if_neg e5, if_neg e6, if_pos e7, if_pos e8] | simp [e0, e1, e2, e3, e4, e5, e6, e7, e8]); rw [q] at g; exact g) (fun e0 e1 e2 e3 e4 e5 e6 e7 e8 e9 => by have q : f_M_valid m o f x y = 0 := (by unfold f_M_valid; first | rw [if_neg e0, if_neg e1, if_neg e2, if_neg e3, if_pos e4, if_neg e5, if_neg e6, if_pos e7, if_neg e8, if_pos e9] | simp only [if_neg e0, if_neg e1, if_neg e2, if_neg e3, if_pos e4, if_neg e5, if_neg e6, if_pos e7, if_neg e8, if_pos e9] | simp [e0, e1, e2, e3, e4, e5, e6, e7, e8, e9]); rw [q] at g; exact g) (fun e0 e1 e2 e3 e4 e5 e6 e7 e8 e9 => by have q : f_M_valid m o f x y = 1 := (by unfold f_M_valid; first | rw [if_neg e0, if_neg e1, if_neg e2, if_neg e3, if_pos e4, if_neg e5, if_neg e6, if_pos e7, if_neg e8, if_neg e9] | simp only [if_neg e0, if_neg e1, if_neg e2, if_neg e3, if_pos e4, if_neg e5, if_neg e6, if_pos e7, if_neg e8, if_neg e9] | simp [e0, e1, e2, e3, e4, e5, e6, e7, e8, e9]); rw [q] at g; exact g)
set_option maxRecDepth 100000 in
set_option maxHeartbeats 2000000 in
theorem c_M_mark {xs : jx_Xs} {m : zM} {Q : Option Value → zM → Prop} {p : Int32}
    (g1 : (p < 4) → Q (some (.int 0)) m)
    (g2 : (¬ p < 4) → Q (some (.int ((1 : Int32) <<< ((p - 4) &&& 31)))) m) : ez xs 101 0 (jx_ent 101 [.ref 131, .int p]) [] m Q := by
  refine ez_blk 2 rfl ?_
  show ez xs 101 2 [some (.ref 131), some (.int p)] [.int 4, .int p] m Q
  refine ez_icmp_lt rfl (fun h1 => ?_) (fun h1 => ?_)
  · show ez xs 101 13 [some (.ref 131), some (.int p)] [] m Q
    refine ez_blk 1 rfl ?_
    show ez xs 101 14 [some (.ref 131), some (.int p)] [.int 0] m Q
    exact ez_ret rfl (by decide) rfl (g1 h1)
  · show ez xs 101 5 [some (.ref 131), some (.int p)] [] m Q
    refine ez_blk 6 rfl ?_
    show ez xs 101 14 [some (.ref 131), some (.int p)] [.int ((1 : Int32) <<< ((p - 4) &&& 31))] m Q
    exact ez_ret rfl (by decide) rfl (g2 h1)
def f_M_mark (m : zM) (p : Int32) : Int32 := if p < 4 then 0 else ((1 : Int32) <<< ((p - 4) &&& 31))
theorem d_M_mark {xs : jx_Xs} {m : zM} {Q : Option Value → zM → Prop} {p : Int32}
    (g : Q (some (.int (f_M_mark m p))) m) : ez xs 101 0 (jx_ent 101 [.ref 131, .int p]) [] m Q := by
  refine c_M_mark (fun e0 => by have q : f_M_mark m p = 0 := (by unfold f_M_mark; first | rw [if_pos e0] | simp only [if_pos e0] | simp [e0]); rw [q] at g; exact g) (fun e0 => by have q : f_M_mark m p = ((1 : Int32) <<< ((p - 4) &&& 31)) := (by unfold f_M_mark; first | rw [if_neg e0] | simp only [if_neg e0] | simp [e0]); rw [q] at g; exact g)
set_option maxRecDepth 100000 in
set_option maxHeartbeats 2000000 in
theorem c_M_names {xs : jx_Xs} {m : zM} {Q : Option Value → zM → Prop} {o x y : Int32}
    (g1 : (¬ o = 1) → Q (some (.int ((f_M_mark m x) ||| 0))) m)
    (g2 : (o = 1) → Q (some (.int ((f_M_mark m x) ||| (f_M_mark m y)))) m) : ez xs 102 0 (jx_ent 102 [.ref 131, .int o, .int x, .int y]) [] m Q := by
  refine ez_blk 2 rfl ?_
  show ez xs 102 2 [some (.ref 131), some (.int o), some (.int x), some (.int y)] [.int x, .ref 131] m Q
  refine ez_call (as := [.ref 131, .int x]) (rest := []) rfl (by decide) rfl ?_
  refine d_M_mark ?_
  show ez xs 102 5 [some (.ref 131), some (.int o), some (.int x), some (.int y)] [.int (f_M_mark m x)] m Q
  refine ez_blk 2 rfl ?_
  show ez xs 102 7 [some (.ref 131), some (.int o), some (.int x), some (.int y)] [.int 1, .int o, .int (f_M_mark m x)] m Q
  refine ez_icmp_ne rfl (fun h1 => ?_) (fun h1 => ?_)
  · show ez xs 102 18 [some (.ref 131), some (.int o), some (.int x), some (.int y)] [.int (f_M_mark m x)] m Q
    refine ez_blk 2 rfl ?_
    show ez xs 102 20 [some (.ref 131), some (.int o), some (.int x), some (.int y)] [.int ((f_M_mark m x) ||| 0)] m Q
    exact ez_ret rfl (by decide) rfl (g1 h1)
  · show ez xs 102 10 [some (.ref 131), some (.int o), some (.int x), some (.int y)] [.int (f_M_mark m x)] m Q
    refine ez_blk 2 rfl ?_
    show ez xs 102 12 [some (.ref 131), some (.int o), some (.int x), some (.int y)] [.int y, .ref 131, .int (f_M_mark m x)] m Q
    refine ez_call (as := [.ref 131, .int y]) (rest := [.int (f_M_mark m x)]) rfl (by decide) rfl ?_
    refine d_M_mark ?_
    show ez xs 102 15 [some (.ref 131), some (.int o), some (.int x), some (.int y)] [.int (f_M_mark m y), .int (f_M_mark m x)] m Q
    refine ez_blk 2 rfl ?_
    show ez xs 102 20 [some (.ref 131), some (.int o), some (.int x), some (.int y)] [.int ((f_M_mark m x) ||| (f_M_mark m y))] m Q
    exact ez_ret rfl (by decide) rfl (g2 h1)
def f_M_names (m : zM) (o x y : Int32) : Int32 := if o = 1 then ((f_M_mark m x) ||| (f_M_mark m y)) else ((f_M_mark m x) ||| 0)
theorem d_M_names {xs : jx_Xs} {m : zM} {Q : Option Value → zM → Prop} {o x y : Int32}
    (g : Q (some (.int (f_M_names m o x y))) m) : ez xs 102 0 (jx_ent 102 [.ref 131, .int o, .int x, .int y]) [] m Q := by
  refine c_M_names (fun e0 => by have q : f_M_names m o x y = ((f_M_mark m x) ||| 0) := (by unfold f_M_names; first | rw [if_neg e0] | simp only [if_neg e0] | simp [e0]); rw [q] at g; exact g) (fun e0 => by have q : f_M_names m o x y = ((f_M_mark m x) ||| (f_M_mark m y)) := (by unfold f_M_names; first | rw [if_pos e0] | simp only [if_pos e0] | simp [e0]); rw [q] at g; exact g)
set_option maxRecDepth 100000 in
set_option maxHeartbeats 2000000 in
theorem c_M_noLast {xs : jx_Xs} {m : zM} {Q : Option Value → zM → Prop}
    (b1 : (¬ m 131 21 = 0) → vp_in ((m 131 21) - 1) 6)
    (g1 : (m 131 21 = 0) → Q (some (.int 1)) m)
    (g2 : (¬ m 131 21 = 0) → (m 154 ((m 131 21) - 1).toNatClampNeg = 0) → Q (some (.int 0)) m)
    (g3 : (¬ m 131 21 = 0) → (¬ m 154 ((m 131 21) - 1).toNatClampNeg = 0) → Q (some (.int 1)) m) : ez xs 100 0 (jx_ent 100 [.ref 131]) [] m Q := by
  refine ez_blk 2 rfl ?_
  show ez xs 100 4 [some (.ref 131)] [.int (m 131 21)] m Q
  refine ez_if_eq rfl (fun h1 => ?_) (fun h1 => ?_)
  · show ez xs 100 21 [some (.ref 131)] [] m Q
    refine ez_blk 2 rfl ?_
    show ez xs 100 26 [some (.ref 131)] [.int 1] m Q
    exact ez_ret rfl (by decide) rfl (g1 h1)
  · show ez xs 100 7 [some (.ref 131)] [] m Q
    refine ez_blk 6 rfl ?_
    show ez xs 100 17 [some (.ref 131)] [.int ((m 131 21) - 1), .ref 154] m Q
    refine ez_zaldv rfl (by decide) rfl (b1 h1) ?_
    show ez xs 100 18 [some (.ref 131)] [.int (m 154 ((m 131 21) - 1).toNatClampNeg)] m Q
    refine ez_if_eq rfl (fun h2 => ?_) (fun h2 => ?_)
    · show ez xs 100 25 [some (.ref 131)] [] m Q
      refine ez_blk 1 rfl ?_
      show ez xs 100 26 [some (.ref 131)] [.int 0] m Q
      exact ez_ret rfl (by decide) rfl (g2 h1 h2)
    · show ez xs 100 21 [some (.ref 131)] [] m Q
      refine ez_blk 2 rfl ?_
      show ez xs 100 26 [some (.ref 131)] [.int 1] m Q
      exact ez_ret rfl (by decide) rfl (g3 h1 h2)
def f_M_noLast (m : zM) : Int32 := if m 131 21 = 0 then 1 else if m 154 ((m 131 21) - 1).toNatClampNeg = 0 then 0 else 1
theorem d_M_noLast {xs : jx_Xs} {m : zM} {Q : Option Value → zM → Prop}
    (b1 : (¬ m 131 21 = 0) → vp_in ((m 131 21) - 1) 6)
    (g : Q (some (.int (f_M_noLast m))) m) : ez xs 100 0 (jx_ent 100 [.ref 131]) [] m Q := by
  refine c_M_noLast b1 (fun e0 => by have q : f_M_noLast m = 1 := (by unfold f_M_noLast; first | rw [if_pos e0] | simp only [if_pos e0] | simp [e0]); rw [q] at g; exact g) (fun e0 e1 => by have q : f_M_noLast m = 0 := (by unfold f_M_noLast; first | rw [if_neg e0, if_pos e1] | simp only [if_neg e0, if_pos e1] | simp [e0, e1]); rw [q] at g; exact g) (fun e0 e1 => by have q : f_M_noLast m = 1 := (by unfold f_M_noLast; first | rw [if_neg e0, if_neg e1] | simp only [if_neg e0, if_neg e1] | simp [e0, e1]); rw [q] at g; exact g)
set_option maxRecDepth 100000 in
set_option maxHeartbeats 2000000 in
theorem c_M_forget {xs : jx_Xs} {m : zM} {Q : Option Value → zM → Prop}
    (g1 : Q none (jj_up m 131 21 0)) : ez xs 111 0 (jx_ent 111 [.ref 131]) [] m Q := by
  refine ez_blk 3 rfl ?_
  show ez xs 111 5 [some (.ref 131)] [] (jj_up m 131 21 0) Q
  exact ez_ret rfl (by decide) rfl (g1)
set_option maxRecDepth 100000 in
set_option maxHeartbeats 2000000 in
theorem c_M_item {xs : jx_Xs} {m : zM} {Q : Option Value → zM → Prop} {w o f x y : Int32}
    (b1 : (¬ f_M_valid m o f x y = 0) → (¬ o = 3) → (¬ m 131 21 = 6) → vp_in (m 131 21) 6)
    (b2 : (¬ f_M_valid m o f x y = 0) → (¬ o = 3) → (¬ m 131 21 = 6) → vp_in (m 131 21) 6)
    (b3 : (¬ f_M_valid m o f x y = 0) → (¬ o = 3) → (¬ m 131 21 = 6) → vp_in (m 131 21) 6)
    (b4 : (¬ f_M_valid m o f x y = 0) → (¬ o = 3) → (¬ m 131 21 = 6) → vp_in (m 131 21) 6)
    (b5 : (¬ f_M_valid m o f x y = 0) → (¬ o = 3) → (¬ m 131 21 = 6) → vp_in (m 131 21) 6)
    (b6 : (¬ f_M_valid m o f x y = 0) → (¬ o = 3) → (¬ m 131 21 = 6) → vp_in (m 131 21) 6)
    (b7 : (¬ f_M_valid m o f x y = 0) → (¬ o = 3) → (¬ m 131 21 = 6) → vp_in (m 131 21) 6)
    (b8 : (¬ f_M_valid m o f x y = 0) → (o = 3) → (w = 0) → (¬ m 131 21 = 6) → vp_in (m 131 21) 6)
    (b9 : (¬ f_M_valid m o f x y = 0) → (o = 3) → (w = 0) → (¬ m 131 21 = 6) → vp_in (m 131 21) 6)
    (b10 : (¬ f_M_valid m o f x y = 0) → (o = 3) → (w = 0) → (¬ m 131 21 = 6) → vp_in (m 131 21) 6)
    (b11 : (¬ f_M_valid m o f x y = 0) → (o = 3) → (w = 0) → (¬ m 131 21 = 6) → vp_in (m 131 21) 6)
    (b12 : (¬ f_M_valid m o f x y = 0) → (o = 3) → (w = 0) → (¬ m 131 21 = 6) → vp_in (m 131 21) 6)
    (b13 : (¬ f_M_valid m o f x y = 0) → (o = 3) → (w = 0) → (¬ m 131 21 = 6) → vp_in (m 131 21) 6)
    (b14 : (¬ f_M_valid m o f x y = 0) → (o = 3) → (w = 0) → (¬ m 131 21 = 6) → vp_in (m 131 21) 6)
    (g1 : (¬ f_M_valid m o f x y = 0) → (¬ o = 3) → (¬ m 131 21 = 6) → Q (some (.int ((m 131 21) + 1))) (jj_up (jj_up (jj_up (jj_up (jj_up (jj_up (jj_up (jj_up m 149 ((m 131 21).toNatClampNeg) o) 150 ((m 131 21).toNatClampNeg) f) 151 ((m 131 21).toNatClampNeg) x) 152 ((m 131 21).toNatClampNeg) y) 153 ((m 131 21).toNatClampNeg) (vp_nar .boolean w)) 154 ((m 131 21).toNatClampNeg) (vp_nar .boolean 0)) 159 ((m 131 21).toNatClampNeg) 0) 131 21 ((m 131 21) + 1)))
    (g2 : (¬ f_M_valid m o f x y = 0) → (¬ o = 3) → (m 131 21 = 6) → Q (some (.int (-3))) m)
    (g3 : (¬ f_M_valid m o f x y = 0) → (o = 3) → (w = 0) → (¬ m 131 21 = 6) → Q (some (.int ((m 131 21) + 1))) (jj_up (jj_up (jj_up (jj_up (jj_up (jj_up (jj_up (jj_up m 149 ((m 131 21).toNatClampNeg) o) 150 ((m 131 21).toNatClampNeg) f) 151 ((m 131 21).toNatClampNeg) x) 152 ((m 131 21).toNatClampNeg) y) 153 ((m 131 21).toNatClampNeg) (vp_nar .boolean w)) 154 ((m 131 21).toNatClampNeg) (vp_nar .boolean 0)) 159 ((m 131 21).toNatClampNeg) 0) 131 21 ((m 131 21) + 1)))
    (g4 : (¬ f_M_valid m o f x y = 0) → (o = 3) → (w = 0) → (m 131 21 = 6) → Q (some (.int (-3))) m)
    (g5 : (¬ f_M_valid m o f x y = 0) → (o = 3) → (¬ w = 0) → Q (some (.int (-2))) m)
    (g6 : (f_M_valid m o f x y = 0) → Q (some (.int (-1))) m) : ez xs 91 0 (jx_ent 91 [.ref 131, .int w, .int o, .int f, .int x, .int y]) [] m Q := by
  refine ez_blk 5 rfl ?_
  show ez xs 91 7 [some (.ref 131), some (.int w), some (.int o), some (.int f), some (.int x), some (.int y)] [.int y, .int x, .int f, .int o, .ref 131] m Q
  refine ez_call (as := [.ref 131, .int o, .int f, .int x, .int y]) (rest := []) rfl (by decide) rfl ?_
  refine d_M_valid ?_
  show ez xs 91 10 [some (.ref 131), some (.int w), some (.int o), some (.int f), some (.int x), some (.int y)] [.int (f_M_valid m o f x y)] m Q
  refine ez_if_ne rfl (fun h1 => ?_) (fun h1 => ?_)
  · show ez xs 91 15 [some (.ref 131), some (.int w), some (.int o), some (.int f), some (.int x), some (.int y)] [] m Q
    refine ez_blk 2 rfl ?_
    show ez xs 91 17 [some (.ref 131), some (.int w), some (.int o), some (.int f), some (.int x), some (.int y)] [.int 3, .int o] m Q
    refine ez_icmp_ne rfl (fun h2 => ?_) (fun h2 => ?_)
    · show ez xs 91 27 [some (.ref 131), some (.int w), some (.int o), some (.int f), some (.int x), some (.int y)] [] m Q
      refine ez_blk 3 rfl ?_
      show ez xs 91 33 [some (.ref 131), some (.int w), some (.int o), some (.int f), some (.int x), some (.int y)] [.int 6, .int (m 131 21)] m Q
      refine ez_icmp_ne rfl (fun h3 => ?_) (fun h3 => ?_)
      · show ez xs 91 39 [some (.ref 131), some (.int w), some (.int o), some (.int f), some (.int x), some (.int y)] [] m Q
        refine ez_blk 5 rfl ?_
        show ez xs 91 48 [some (.ref 131), some (.int w), some (.int o), some (.int f), some (.int x), some (.int y)] [.int o, .int (m 131 21), .ref 149] m Q
        refine ez_iastv rfl (by decide) rfl (b1 h1 h2 h3) ?_
        show ez xs 91 49 [some (.ref 131), some (.int w), some (.int o), some (.int f), some (.int x), some (.int y)] [] (jj_up m 149 ((m 131 21).toNatClampNeg) o) Q
        refine ez_blk 5 rfl ?_
        show ez xs 91 58 [some (.ref 131), some (.int w), some (.int o), some (.int f), some (.int x), some (.int y)] [.int f, .int (m 131 21), .ref 150] (jj_up m 149 ((m 131 21).toNatClampNeg) o) Q
        refine ez_iastv rfl (by decide) rfl (b2 h1 h2 h3) ?_
        show ez xs 91 59 [some (.ref 131), some (.int w), some (.int o), some (.int f), some (.int x), some (.int y)] [] (jj_up (jj_up m 149 ((m 131 21).toNatClampNeg) o) 150 ((m 131 21).toNatClampNeg) f) Q
        refine ez_blk 5 rfl ?_
        show ez xs 91 69 [some (.ref 131), some (.int w), some (.int o), some (.int f), some (.int x), some (.int y)] [.int x, .int (m 131 21), .ref 151] (jj_up (jj_up m 149 ((m 131 21).toNatClampNeg) o) 150 ((m 131 21).toNatClampNeg) f) Q
        refine ez_iastv rfl (by decide) rfl (b3 h1 h2 h3) ?_
        show ez xs 91 70 [some (.ref 131), some (.int w), some (.int o), some (.int f), some (.int x), some (.int y)] [] (jj_up (jj_up (jj_up m 149 ((m 131 21).toNatClampNeg) o) 150 ((m 131 21).toNatClampNeg) f) 151 ((m 131 21).toNatClampNeg) x) Q
        refine ez_blk 5 rfl ?_
        show ez xs 91 80 [some (.ref 131), some (.int w), some (.int o), some (.int f), some (.int x), some (.int y)] [.int y, .int (m 131 21), .ref 152] (jj_up (jj_up (jj_up m 149 ((m 131 21).toNatClampNeg) o) 150 ((m 131 21).toNatClampNeg) f) 151 ((m 131 21).toNatClampNeg) x) Q
        refine ez_iastv rfl (by decide) rfl (b4 h1 h2 h3) ?_
        show ez xs 91 81 [some (.ref 131), some (.int w), some (.int o), some (.int f), some (.int x), some (.int y)] [] (jj_up (jj_up (jj_up (jj_up m 149 ((m 131 21).toNatClampNeg) o) 150 ((m 131 21).toNatClampNeg) f) 151 ((m 131 21).toNatClampNeg) x) 152 ((m 131 21).toNatClampNeg) y) Q
        refine ez_blk 5 rfl ?_
        show ez xs 91 90 [some (.ref 131), some (.int w), some (.int o), some (.int f), some (.int x), some (.int y)] [.int w, .int (m 131 21), .ref 153] (jj_up (jj_up (jj_up (jj_up m 149 ((m 131 21).toNatClampNeg) o) 150 ((m 131 21).toNatClampNeg) f) 151 ((m 131 21).toNatClampNeg) x) 152 ((m 131 21).toNatClampNeg) y) Q
        refine ez_zastv rfl (by decide) rfl (b5 h1 h2 h3) ?_
        show ez xs 91 91 [some (.ref 131), some (.int w), some (.int o), some (.int f), some (.int x), some (.int y)] [] (jj_up (jj_up (jj_up (jj_up (jj_up m 149 ((m 131 21).toNatClampNeg) o) 150 ((m 131 21).toNatClampNeg) f) 151 ((m 131 21).toNatClampNeg) x) 152 ((m 131 21).toNatClampNeg) y) 153 ((m 131 21).toNatClampNeg) (vp_nar .boolean w)) Q
        refine ez_blk 5 rfl ?_
        show ez xs 91 100 [some (.ref 131), some (.int w), some (.int o), some (.int f), some (.int x), some (.int y)] [.int 0, .int (m 131 21), .ref 154] (jj_up (jj_up (jj_up (jj_up (jj_up m 149 ((m 131 21).toNatClampNeg) o) 150 ((m 131 21).toNatClampNeg) f) 151 ((m 131 21).toNatClampNeg) x) 152 ((m 131 21).toNatClampNeg) y) 153 ((m 131 21).toNatClampNeg) (vp_nar .boolean w)) Q
        refine ez_zastv rfl (by decide) rfl (b6 h1 h2 h3) ?_
        show ez xs 91 101 [some (.ref 131), some (.int w), some (.int o), some (.int f), some (.int x), some (.int y)] [] (jj_up (jj_up (jj_up (jj_up (jj_up (jj_up m 149 ((m 131 21).toNatClampNeg) o) 150 ((m 131 21).toNatClampNeg) f) 151 ((m 131 21).toNatClampNeg) x) 152 ((m 131 21).toNatClampNeg) y) 153 ((m 131 21).toNatClampNeg) (vp_nar .boolean w)) 154 ((m 131 21).toNatClampNeg) (vp_nar .boolean 0)) Q
        refine ez_blk 5 rfl ?_
        show ez xs 91 110 [some (.ref 131), some (.int w), some (.int o), some (.int f), some (.int x), some (.int y)] [.int 0, .int (m 131 21), .ref 159] (jj_up (jj_up (jj_up (jj_up (jj_up (jj_up m 149 ((m 131 21).toNatClampNeg) o) 150 ((m 131 21).toNatClampNeg) f) 151 ((m 131 21).toNatClampNeg) x) 152 ((m 131 21).toNatClampNeg) y) 153 ((m 131 21).toNatClampNeg) (vp_nar .boolean w)) 154 ((m 131 21).toNatClampNeg) (vp_nar .boolean 0)) Q
        refine ez_iastv rfl (by decide) rfl (b7 h1 h2 h3) ?_
        show ez xs 91 111 [some (.ref 131), some (.int w), some (.int o), some (.int f), some (.int x), some (.int y)] [] (jj_up (jj_up (jj_up (jj_up (jj_up (jj_up (jj_up m 149 ((m 131 21).toNatClampNeg) o) 150 ((m 131 21).toNatClampNeg) f) 151 ((m 131 21).toNatClampNeg) x) 152 ((m 131 21).toNatClampNeg) y) 153 ((m 131 21).toNatClampNeg) (vp_nar .boolean w)) 154 ((m 131 21).toNatClampNeg) (vp_nar .boolean 0)) 159 ((m 131 21).toNatClampNeg) 0) Q
        refine ez_blk 8 rfl ?_
        show ez xs 91 125 [some (.ref 131), some (.int w), some (.int o), some (.int f), some (.int x), some (.int y)] [.int ((m 131 21) + 1)] (jj_up (jj_up (jj_up (jj_up (jj_up (jj_up (jj_up (jj_up m 149 ((m 131 21).toNatClampNeg) o) 150 ((m 131 21).toNatClampNeg) f) 151 ((m 131 21).toNatClampNeg) x) 152 ((m 131 21).toNatClampNeg) y) 153 ((m 131 21).toNatClampNeg) (vp_nar .boolean w)) 154 ((m 131 21).toNatClampNeg) (vp_nar .boolean 0)) 159 ((m 131 21).toNatClampNeg) 0) 131 21 ((m 131 21) + 1)) Q
        exact ez_ret rfl (by decide) rfl (g1 h1 h2 h3)
      · show ez xs 91 36 [some (.ref 131), some (.int w), some (.int o), some (.int f), some (.int x), some (.int y)] [] m Q
        refine ez_blk 1 rfl ?_
        show ez xs 91 38 [some (.ref 131), some (.int w), some (.int o), some (.int f), some (.int x), some (.int y)] [.int (-3)] m Q
        exact ez_ret rfl (by decide) rfl (g2 h1 h2 h3)
    · show ez xs 91 20 [some (.ref 131), some (.int w), some (.int o), some (.int f), some (.int x), some (.int y)] [] m Q
      refine ez_blk 1 rfl ?_
      show ez xs 91 21 [some (.ref 131), some (.int w), some (.int o), some (.int f), some (.int x), some (.int y)] [.int w] m Q
      refine ez_if_eq rfl (fun h4 => ?_) (fun h4 => ?_)
      · show ez xs 91 27 [some (.ref 131), some (.int w), some (.int o), some (.int f), some (.int x), some (.int y)] [] m Q
        refine ez_blk 3 rfl ?_
        show ez xs 91 33 [some (.ref 131), some (.int w), some (.int o), some (.int f), some (.int x), some (.int y)] [.int 6, .int (m 131 21)] m Q
        refine ez_icmp_ne rfl (fun h5 => ?_) (fun h5 => ?_)
        · show ez xs 91 39 [some (.ref 131), some (.int w), some (.int o), some (.int f), some (.int x), some (.int y)] [] m Q
          refine ez_blk 5 rfl ?_
          show ez xs 91 48 [some (.ref 131), some (.int w), some (.int o), some (.int f), some (.int x), some (.int y)] [.int o, .int (m 131 21), .ref 149] m Q
          refine ez_iastv rfl (by decide) rfl (b8 h1 h2 h4 h5) ?_
          show ez xs 91 49 [some (.ref 131), some (.int w), some (.int o), some (.int f), some (.int x), some (.int y)] [] (jj_up m 149 ((m 131 21).toNatClampNeg) o) Q
          refine ez_blk 5 rfl ?_
          show ez xs 91 58 [some (.ref 131), some (.int w), some (.int o), some (.int f), some (.int x), some (.int y)] [.int f, .int (m 131 21), .ref 150] (jj_up m 149 ((m 131 21).toNatClampNeg) o) Q
          refine ez_iastv rfl (by decide) rfl (b9 h1 h2 h4 h5) ?_
          show ez xs 91 59 [some (.ref 131), some (.int w), some (.int o), some (.int f), some (.int x), some (.int y)] [] (jj_up (jj_up m 149 ((m 131 21).toNatClampNeg) o) 150 ((m 131 21).toNatClampNeg) f) Q
          refine ez_blk 5 rfl ?_
          show ez xs 91 69 [some (.ref 131), some (.int w), some (.int o), some (.int f), some (.int x), some (.int y)] [.int x, .int (m 131 21), .ref 151] (jj_up (jj_up m 149 ((m 131 21).toNatClampNeg) o) 150 ((m 131 21).toNatClampNeg) f) Q
          refine ez_iastv rfl (by decide) rfl (b10 h1 h2 h4 h5) ?_
          show ez xs 91 70 [some (.ref 131), some (.int w), some (.int o), some (.int f), some (.int x), some (.int y)] [] (jj_up (jj_up (jj_up m 149 ((m 131 21).toNatClampNeg) o) 150 ((m 131 21).toNatClampNeg) f) 151 ((m 131 21).toNatClampNeg) x) Q
          refine ez_blk 5 rfl ?_
          show ez xs 91 80 [some (.ref 131), some (.int w), some (.int o), some (.int f), some (.int x), some (.int y)] [.int y, .int (m 131 21), .ref 152] (jj_up (jj_up (jj_up m 149 ((m 131 21).toNatClampNeg) o) 150 ((m 131 21).toNatClampNeg) f) 151 ((m 131 21).toNatClampNeg) x) Q
          refine ez_iastv rfl (by decide) rfl (b11 h1 h2 h4 h5) ?_
          show ez xs 91 81 [some (.ref 131), some (.int w), some (.int o), some (.int f), some (.int x), some (.int y)] [] (jj_up (jj_up (jj_up (jj_up m 149 ((m 131 21).toNatClampNeg) o) 150 ((m 131 21).toNatClampNeg) f) 151 ((m 131 21).toNatClampNeg) x) 152 ((m 131 21).toNatClampNeg) y) Q
          refine ez_blk 5 rfl ?_
          show ez xs 91 90 [some (.ref 131), some (.int w), some (.int o), some (.int f), some (.int x), some (.int y)] [.int w, .int (m 131 21), .ref 153] (jj_up (jj_up (jj_up (jj_up m 149 ((m 131 21).toNatClampNeg) o) 150 ((m 131 21).toNatClampNeg) f) 151 ((m 131 21).toNatClampNeg) x) 152 ((m 131 21).toNatClampNeg) y) Q
          refine ez_zastv rfl (by decide) rfl (b12 h1 h2 h4 h5) ?_
          show ez xs 91 91 [some (.ref 131), some (.int w), some (.int o), some (.int f), some (.int x), some (.int y)] [] (jj_up (jj_up (jj_up (jj_up (jj_up m 149 ((m 131 21).toNatClampNeg) o) 150 ((m 131 21).toNatClampNeg) f) 151 ((m 131 21).toNatClampNeg) x) 152 ((m 131 21).toNatClampNeg) y) 153 ((m 131 21).toNatClampNeg) (vp_nar .boolean w)) Q
          refine ez_blk 5 rfl ?_
          show ez xs 91 100 [some (.ref 131), some (.int w), some (.int o), some (.int f), some (.int x), some (.int y)] [.int 0, .int (m 131 21), .ref 154] (jj_up (jj_up (jj_up (jj_up (jj_up m 149 ((m 131 21).toNatClampNeg) o) 150 ((m 131 21).toNatClampNeg) f) 151 ((m 131 21).toNatClampNeg) x) 152 ((m 131 21).toNatClampNeg) y) 153 ((m 131 21).toNatClampNeg) (vp_nar .boolean w)) Q
          refine ez_zastv rfl (by decide) rfl (b13 h1 h2 h4 h5) ?_
          show ez xs 91 101 [some (.ref 131), some (.int w), some (.int o), some (.int f), some (.int x), some (.int y)] [] (jj_up (jj_up (jj_up (jj_up (jj_up (jj_up m 149 ((m 131 21).toNatClampNeg) o) 150 ((m 131 21).toNatClampNeg) f) 151 ((m 131 21).toNatClampNeg) x) 152 ((m 131 21).toNatClampNeg) y) 153 ((m 131 21).toNatClampNeg) (vp_nar .boolean w)) 154 ((m 131 21).toNatClampNeg) (vp_nar .boolean 0)) Q
          refine ez_blk 5 rfl ?_
          show ez xs 91 110 [some (.ref 131), some (.int w), some (.int o), some (.int f), some (.int x), some (.int y)] [.int 0, .int (m 131 21), .ref 159] (jj_up (jj_up (jj_up (jj_up (jj_up (jj_up m 149 ((m 131 21).toNatClampNeg) o) 150 ((m 131 21).toNatClampNeg) f) 151 ((m 131 21).toNatClampNeg) x) 152 ((m 131 21).toNatClampNeg) y) 153 ((m 131 21).toNatClampNeg) (vp_nar .boolean w)) 154 ((m 131 21).toNatClampNeg) (vp_nar .boolean 0)) Q
          refine ez_iastv rfl (by decide) rfl (b14 h1 h2 h4 h5) ?_
          show ez xs 91 111 [some (.ref 131), some (.int w), some (.int o), some (.int f), some (.int x), some (.int y)] [] (jj_up (jj_up (jj_up (jj_up (jj_up (jj_up (jj_up m 149 ((m 131 21).toNatClampNeg) o) 150 ((m 131 21).toNatClampNeg) f) 151 ((m 131 21).toNatClampNeg) x) 152 ((m 131 21).toNatClampNeg) y) 153 ((m 131 21).toNatClampNeg) (vp_nar .boolean w)) 154 ((m 131 21).toNatClampNeg) (vp_nar .boolean 0)) 159 ((m 131 21).toNatClampNeg) 0) Q
          refine ez_blk 8 rfl ?_
          show ez xs 91 125 [some (.ref 131), some (.int w), some (.int o), some (.int f), some (.int x), some (.int y)] [.int ((m 131 21) + 1)] (jj_up (jj_up (jj_up (jj_up (jj_up (jj_up (jj_up (jj_up m 149 ((m 131 21).toNatClampNeg) o) 150 ((m 131 21).toNatClampNeg) f) 151 ((m 131 21).toNatClampNeg) x) 152 ((m 131 21).toNatClampNeg) y) 153 ((m 131 21).toNatClampNeg) (vp_nar .boolean w)) 154 ((m 131 21).toNatClampNeg) (vp_nar .boolean 0)) 159 ((m 131 21).toNatClampNeg) 0) 131 21 ((m 131 21) + 1)) Q
          exact ez_ret rfl (by decide) rfl (g3 h1 h2 h4 h5)
        · show ez xs 91 36 [some (.ref 131), some (.int w), some (.int o), some (.int f), some (.int x), some (.int y)] [] m Q
          refine ez_blk 1 rfl ?_
          show ez xs 91 38 [some (.ref 131), some (.int w), some (.int o), some (.int f), some (.int x), some (.int y)] [.int (-3)] m Q
          exact ez_ret rfl (by decide) rfl (g4 h1 h2 h4 h5)
      · show ez xs 91 24 [some (.ref 131), some (.int w), some (.int o), some (.int f), some (.int x), some (.int y)] [] m Q
        refine ez_blk 1 rfl ?_
        show ez xs 91 26 [some (.ref 131), some (.int w), some (.int o), some (.int f), some (.int x), some (.int y)] [.int (-2)] m Q
        exact ez_ret rfl (by decide) rfl (g5 h1 h2 h4)
  · show ez xs 91 13 [some (.ref 131), some (.int w), some (.int o), some (.int f), some (.int x), some (.int y)] [] m Q
    refine ez_blk 1 rfl ?_
    show ez xs 91 14 [some (.ref 131), some (.int w), some (.int o), some (.int f), some (.int x), some (.int y)] [.int (-1)] m Q
    exact ez_ret rfl (by decide) rfl (g6 h1)
set_option maxRecDepth 100000 in
set_option maxHeartbeats 2000000 in
theorem c_M_value {xs : jx_Xs} {m : zM} {Q : Option Value → zM → Prop} {p b : Int32}
    (g1 : (4 ≤ p) → Q (some (.int ((b >>> (((2 : Int32) * (p - 4)) &&& 31)) &&& 3))) m)
    (g2 : (¬ 4 ≤ p) → Q (some (.int p)) m) : ez xs 146 0 (jx_ent 146 [.ref 131, .int p, .int b]) [] m Q := by
  refine ez_blk 2 rfl ?_
  show ez xs 146 2 [some (.ref 131), some (.int p), some (.int b)] [.int 4, .int p] m Q
  refine ez_icmp_ge rfl (fun h1 => ?_) (fun h1 => ?_)
  · show ez xs 146 9 [some (.ref 131), some (.int p), some (.int b)] [] m Q
    refine ez_blk 9 rfl ?_
    show ez xs 146 18 [some (.ref 131), some (.int p), some (.int b)] [.int ((b >>> (((2 : Int32) * (p - 4)) &&& 31)) &&& 3)] m Q
    exact ez_ret rfl (by decide) rfl (g1 h1)
  · show ez xs 146 5 [some (.ref 131), some (.int p), some (.int b)] [] m Q
    refine ez_blk 2 rfl ?_
    show ez xs 146 18 [some (.ref 131), some (.int p), some (.int b)] [.int p] m Q
    exact ez_ret rfl (by decide) rfl (g2 h1)
def f_M_value (m : zM) (p b : Int32) : Int32 := if 4 ≤ p then ((b >>> (((2 : Int32) * (p - 4)) &&& 31)) &&& 3) else p
theorem d_M_value {xs : jx_Xs} {m : zM} {Q : Option Value → zM → Prop} {p b : Int32}
    (g : Q (some (.int (f_M_value m p b))) m) : ez xs 146 0 (jx_ent 146 [.ref 131, .int p, .int b]) [] m Q := by
  refine c_M_value (fun e0 => by have q : f_M_value m p b = ((b >>> (((2 : Int32) * (p - 4)) &&& 31)) &&& 3) := (by unfold f_M_value; first | rw [if_pos e0] | simp only [if_pos e0] | simp [e0]); rw [q] at g; exact g) (fun e0 => by have q : f_M_value m p b = p := (by unfold f_M_value; first | rw [if_neg e0] | simp only [if_neg e0] | simp [e0]); rw [q] at g; exact g)
set_option maxRecDepth 100000 in
set_option maxHeartbeats 2000000 in
theorem c_M_has {xs : jx_Xs} {m : zM} {Q : Option Value → zM → Prop} {s n : Int32}
    (g1 : (¬ (s >>> (n &&& 31)) &&& 1 = 1) → Q (some (.int 0)) m)
    (g2 : ((s >>> (n &&& 31)) &&& 1 = 1) → Q (some (.int 1)) m) : ez xs 148 0 (jx_ent 148 [.ref 131, .int s, .int n]) [] m Q := by
  refine ez_blk 6 rfl ?_
  show ez xs 148 6 [some (.ref 131), some (.int s), some (.int n)] [.int 1, .int ((s >>> (n &&& 31)) &&& 1)] m Q
  refine ez_icmp_ne rfl (fun h1 => ?_) (fun h1 => ?_)
  · show ez xs 148 13 [some (.ref 131), some (.int s), some (.int n)] [] m Q
    refine ez_blk 1 rfl ?_
    show ez xs 148 14 [some (.ref 131), some (.int s), some (.int n)] [.int 0] m Q
    exact ez_ret rfl (by decide) rfl (g1 h1)
  · show ez xs 148 9 [some (.ref 131), some (.int s), some (.int n)] [] m Q
    refine ez_blk 2 rfl ?_
    show ez xs 148 14 [some (.ref 131), some (.int s), some (.int n)] [.int 1] m Q
    exact ez_ret rfl (by decide) rfl (g2 h1)
def f_M_has (m : zM) (s n : Int32) : Int32 := if (s >>> (n &&& 31)) &&& 1 = 1 then 1 else 0
theorem d_M_has {xs : jx_Xs} {m : zM} {Q : Option Value → zM → Prop} {s n : Int32}
    (g : Q (some (.int (f_M_has m s n))) m) : ez xs 148 0 (jx_ent 148 [.ref 131, .int s, .int n]) [] m Q := by
  refine c_M_has (fun e0 => by have q : f_M_has m s n = 0 := (by unfold f_M_has; first | rw [if_neg e0] | simp only [if_neg e0] | simp [e0]); rw [q] at g; exact g) (fun e0 => by have q : f_M_has m s n = 1 := (by unfold f_M_has; first | rw [if_pos e0] | simp only [if_pos e0] | simp [e0]); rw [q] at g; exact g)
set_option maxRecDepth 100000 in
set_option maxHeartbeats 2000000 in
theorem c_M_like {xs : jx_Xs} {m : zM} {Q : Option Value → zM → Prop} {n o f x y b : Int32}
    (b1 : vp_in n 24)
    (b2 : (m 135 n.toNatClampNeg = o) → vp_in n 24)
    (b3 : (m 135 n.toNatClampNeg = o) → (m 137 n.toNatClampNeg = f_M_value m x b) → (¬ o = 0) → (o = 1) → vp_in n 24)
    (b4 : (m 135 n.toNatClampNeg = o) → (m 137 n.toNatClampNeg = f_M_value m x b) → (o = 0) → vp_in n 24)
    (b5 : (m 135 n.toNatClampNeg = o) → (m 137 n.toNatClampNeg = f_M_value m x b) → (o = 0) → (m 136 n.toNatClampNeg = f) → (o = 1) → vp_in n 24)
    (g1 : (¬ m 135 n.toNatClampNeg = o) → Q (some (.int 0)) m)
    (g2 : (m 135 n.toNatClampNeg = o) → (m 137 n.toNatClampNeg = f_M_value m x b) → (¬ o = 0) → (¬ o = 1) → Q (some (.int 1)) m)
    (g3 : (m 135 n.toNatClampNeg = o) → (m 137 n.toNatClampNeg = f_M_value m x b) → (¬ o = 0) → (o = 1) → (¬ m 138 n.toNatClampNeg = f_M_value m y b) → Q (some (.int 0)) m)
    (g4 : (m 135 n.toNatClampNeg = o) → (m 137 n.toNatClampNeg = f_M_value m x b) → (¬ o = 0) → (o = 1) → (m 138 n.toNatClampNeg = f_M_value m y b) → Q (some (.int 1)) m)
    (g5 : (m 135 n.toNatClampNeg = o) → (m 137 n.toNatClampNeg = f_M_value m x b) → (o = 0) → (¬ m 136 n.toNatClampNeg = f) → Q (some (.int 0)) m)
    (g6 : (m 135 n.toNatClampNeg = o) → (m 137 n.toNatClampNeg = f_M_value m x b) → (o = 0) → (m 136 n.toNatClampNeg = f) → (¬ o = 1) → Q (some (.int 1)) m)
    (g7 : (m 135 n.toNatClampNeg = o) → (m 137 n.toNatClampNeg = f_M_value m x b) → (o = 0) → (m 136 n.toNatClampNeg = f) → (o = 1) → (¬ m 138 n.toNatClampNeg = f_M_value m y b) → Q (some (.int 0)) m)
    (g8 : (m 135 n.toNatClampNeg = o) → (m 137 n.toNatClampNeg = f_M_value m x b) → (o = 0) → (m 136 n.toNatClampNeg = f) → (o = 1) → (m 138 n.toNatClampNeg = f_M_value m y b) → Q (some (.int 1)) m)
    (g9 : (m 135 n.toNatClampNeg = o) → (¬ m 137 n.toNatClampNeg = f_M_value m x b) → Q (some (.int 0)) m) : ez xs 147 0 (jx_ent 147 [.ref 131, .int n, .int o, .int f, .int x, .int y, .int b]) [] m Q := by
  refine ez_blk 3 rfl ?_
  show ez xs 147 5 [some (.ref 131), some (.int n), some (.int o), some (.int f), some (.int x), some (.int y), some (.int b)] [.int n, .ref 135] m Q
  refine ez_ialdv rfl (by decide) rfl b1 ?_
  show ez xs 147 6 [some (.ref 131), some (.int n), some (.int o), some (.int f), some (.int x), some (.int y), some (.int b)] [.int (m 135 n.toNatClampNeg)] m Q
  refine ez_blk 1 rfl ?_
  show ez xs 147 7 [some (.ref 131), some (.int n), some (.int o), some (.int f), some (.int x), some (.int y), some (.int b)] [.int o, .int (m 135 n.toNatClampNeg)] m Q
  refine ez_icmp_ne rfl (fun h1 => ?_) (fun h1 => ?_)
  · show ez xs 147 27 [some (.ref 131), some (.int n), some (.int o), some (.int f), some (.int x), some (.int y), some (.int b)] [] m Q
    refine ez_blk 1 rfl ?_
    show ez xs 147 28 [some (.ref 131), some (.int n), some (.int o), some (.int f), some (.int x), some (.int y), some (.int b)] [.int 0] m Q
    exact ez_ret rfl (by decide) rfl (g1 h1)
  · show ez xs 147 10 [some (.ref 131), some (.int n), some (.int o), some (.int f), some (.int x), some (.int y), some (.int b)] [] m Q
    refine ez_blk 3 rfl ?_
    show ez xs 147 15 [some (.ref 131), some (.int n), some (.int o), some (.int f), some (.int x), some (.int y), some (.int b)] [.int n, .ref 137] m Q
    refine ez_ialdv rfl (by decide) rfl (b2 h1) ?_
    show ez xs 147 16 [some (.ref 131), some (.int n), some (.int o), some (.int f), some (.int x), some (.int y), some (.int b)] [.int (m 137 n.toNatClampNeg)] m Q
    refine ez_blk 3 rfl ?_
    show ez xs 147 21 [some (.ref 131), some (.int n), some (.int o), some (.int f), some (.int x), some (.int y), some (.int b)] [.int b, .int x, .ref 131, .int (m 137 n.toNatClampNeg)] m Q
    refine ez_call (as := [.ref 131, .int x, .int b]) (rest := [.int (m 137 n.toNatClampNeg)]) rfl (by decide) rfl ?_
    refine d_M_value ?_
    show ez xs 147 24 [some (.ref 131), some (.int n), some (.int o), some (.int f), some (.int x), some (.int y), some (.int b)] [.int (f_M_value m x b), .int (m 137 n.toNatClampNeg)] m Q
    refine ez_icmp_eq rfl (fun h2 => ?_) (fun h2 => ?_)
    · show ez xs 147 29 [some (.ref 131), some (.int n), some (.int o), some (.int f), some (.int x), some (.int y), some (.int b)] [] m Q
      refine ez_blk 1 rfl ?_
      show ez xs 147 30 [some (.ref 131), some (.int n), some (.int o), some (.int f), some (.int x), some (.int y), some (.int b)] [.int o] m Q
      refine ez_if_ne rfl (fun h3 => ?_) (fun h3 => ?_)
      · show ez xs 147 43 [some (.ref 131), some (.int n), some (.int o), some (.int f), some (.int x), some (.int y), some (.int b)] [] m Q
        refine ez_blk 2 rfl ?_
        show ez xs 147 45 [some (.ref 131), some (.int n), some (.int o), some (.int f), some (.int x), some (.int y), some (.int b)] [.int 1, .int o] m Q
        refine ez_icmp_ne rfl (fun h4 => ?_) (fun h4 => ?_)
        · show ez xs 147 65 [some (.ref 131), some (.int n), some (.int o), some (.int f), some (.int x), some (.int y), some (.int b)] [] m Q
          refine ez_blk 2 rfl ?_
          show ez xs 147 70 [some (.ref 131), some (.int n), some (.int o), some (.int f), some (.int x), some (.int y), some (.int b)] [.int 1] m Q
          exact ez_ret rfl (by decide) rfl (g2 h1 h2 h3 h4)
        · show ez xs 147 48 [some (.ref 131), some (.int n), some (.int o), some (.int f), some (.int x), some (.int y), some (.int b)] [] m Q
          refine ez_blk 3 rfl ?_
          show ez xs 147 53 [some (.ref 131), some (.int n), some (.int o), some (.int f), some (.int x), some (.int y), some (.int b)] [.int n, .ref 138] m Q
          refine ez_ialdv rfl (by decide) rfl (b3 h1 h2 h3 h4) ?_
          show ez xs 147 54 [some (.ref 131), some (.int n), some (.int o), some (.int f), some (.int x), some (.int y), some (.int b)] [.int (m 138 n.toNatClampNeg)] m Q
          refine ez_blk 3 rfl ?_
          show ez xs 147 59 [some (.ref 131), some (.int n), some (.int o), some (.int f), some (.int x), some (.int y), some (.int b)] [.int b, .int y, .ref 131, .int (m 138 n.toNatClampNeg)] m Q
          refine ez_call (as := [.ref 131, .int y, .int b]) (rest := [.int (m 138 n.toNatClampNeg)]) rfl (by decide) rfl ?_
          refine d_M_value ?_
          show ez xs 147 62 [some (.ref 131), some (.int n), some (.int o), some (.int f), some (.int x), some (.int y), some (.int b)] [.int (f_M_value m y b), .int (m 138 n.toNatClampNeg)] m Q
          refine ez_icmp_ne rfl (fun h5 => ?_) (fun h5 => ?_)
          · show ez xs 147 69 [some (.ref 131), some (.int n), some (.int o), some (.int f), some (.int x), some (.int y), some (.int b)] [] m Q
            refine ez_blk 1 rfl ?_
            show ez xs 147 70 [some (.ref 131), some (.int n), some (.int o), some (.int f), some (.int x), some (.int y), some (.int b)] [.int 0] m Q
            exact ez_ret rfl (by decide) rfl (g3 h1 h2 h3 h4 h5)
          · show ez xs 147 65 [some (.ref 131), some (.int n), some (.int o), some (.int f), some (.int x), some (.int y), some (.int b)] [] m Q
            refine ez_blk 2 rfl ?_
            show ez xs 147 70 [some (.ref 131), some (.int n), some (.int o), some (.int f), some (.int x), some (.int y), some (.int b)] [.int 1] m Q
            exact ez_ret rfl (by decide) rfl (g4 h1 h2 h3 h4 h5)
      · show ez xs 147 33 [some (.ref 131), some (.int n), some (.int o), some (.int f), some (.int x), some (.int y), some (.int b)] [] m Q
        refine ez_blk 3 rfl ?_
        show ez xs 147 38 [some (.ref 131), some (.int n), some (.int o), some (.int f), some (.int x), some (.int y), some (.int b)] [.int n, .ref 136] m Q
        refine ez_ialdv rfl (by decide) rfl (b4 h1 h2 h3) ?_
        show ez xs 147 39 [some (.ref 131), some (.int n), some (.int o), some (.int f), some (.int x), some (.int y), some (.int b)] [.int (m 136 n.toNatClampNeg)] m Q
        refine ez_blk 1 rfl ?_
        show ez xs 147 40 [some (.ref 131), some (.int n), some (.int o), some (.int f), some (.int x), some (.int y), some (.int b)] [.int f, .int (m 136 n.toNatClampNeg)] m Q
        refine ez_icmp_ne rfl (fun h6 => ?_) (fun h6 => ?_)
        · show ez xs 147 69 [some (.ref 131), some (.int n), some (.int o), some (.int f), some (.int x), some (.int y), some (.int b)] [] m Q
          refine ez_blk 1 rfl ?_
          show ez xs 147 70 [some (.ref 131), some (.int n), some (.int o), some (.int f), some (.int x), some (.int y), some (.int b)] [.int 0] m Q
          exact ez_ret rfl (by decide) rfl (g5 h1 h2 h3 h6)
        · show ez xs 147 43 [some (.ref 131), some (.int n), some (.int o), some (.int f), some (.int x), some (.int y), some (.int b)] [] m Q
          refine ez_blk 2 rfl ?_
          show ez xs 147 45 [some (.ref 131), some (.int n), some (.int o), some (.int f), some (.int x), some (.int y), some (.int b)] [.int 1, .int o] m Q
          refine ez_icmp_ne rfl (fun h7 => ?_) (fun h7 => ?_)
          · show ez xs 147 65 [some (.ref 131), some (.int n), some (.int o), some (.int f), some (.int x), some (.int y), some (.int b)] [] m Q
            refine ez_blk 2 rfl ?_
            show ez xs 147 70 [some (.ref 131), some (.int n), some (.int o), some (.int f), some (.int x), some (.int y), some (.int b)] [.int 1] m Q
            exact ez_ret rfl (by decide) rfl (g6 h1 h2 h3 h6 h7)
          · show ez xs 147 48 [some (.ref 131), some (.int n), some (.int o), some (.int f), some (.int x), some (.int y), some (.int b)] [] m Q
            refine ez_blk 3 rfl ?_
            show ez xs 147 53 [some (.ref 131), some (.int n), some (.int o), some (.int f), some (.int x), some (.int y), some (.int b)] [.int n, .ref 138] m Q
            refine ez_ialdv rfl (by decide) rfl (b5 h1 h2 h3 h6 h7) ?_
            show ez xs 147 54 [some (.ref 131), some (.int n), some (.int o), some (.int f), some (.int x), some (.int y), some (.int b)] [.int (m 138 n.toNatClampNeg)] m Q
            refine ez_blk 3 rfl ?_
            show ez xs 147 59 [some (.ref 131), some (.int n), some (.int o), some (.int f), some (.int x), some (.int y), some (.int b)] [.int b, .int y, .ref 131, .int (m 138 n.toNatClampNeg)] m Q
            refine ez_call (as := [.ref 131, .int y, .int b]) (rest := [.int (m 138 n.toNatClampNeg)]) rfl (by decide) rfl ?_
            refine d_M_value ?_
            show ez xs 147 62 [some (.ref 131), some (.int n), some (.int o), some (.int f), some (.int x), some (.int y), some (.int b)] [.int (f_M_value m y b), .int (m 138 n.toNatClampNeg)] m Q
            refine ez_icmp_ne rfl (fun h8 => ?_) (fun h8 => ?_)
            · show ez xs 147 69 [some (.ref 131), some (.int n), some (.int o), some (.int f), some (.int x), some (.int y), some (.int b)] [] m Q
              refine ez_blk 1 rfl ?_
              show ez xs 147 70 [some (.ref 131), some (.int n), some (.int o), some (.int f), some (.int x), some (.int y), some (.int b)] [.int 0] m Q
              exact ez_ret rfl (by decide) rfl (g7 h1 h2 h3 h6 h7 h8)
            · show ez xs 147 65 [some (.ref 131), some (.int n), some (.int o), some (.int f), some (.int x), some (.int y), some (.int b)] [] m Q
              refine ez_blk 2 rfl ?_
              show ez xs 147 70 [some (.ref 131), some (.int n), some (.int o), some (.int f), some (.int x), some (.int y), some (.int b)] [.int 1] m Q
              exact ez_ret rfl (by decide) rfl (g8 h1 h2 h3 h6 h7 h8)
    · show ez xs 147 27 [some (.ref 131), some (.int n), some (.int o), some (.int f), some (.int x), some (.int y), some (.int b)] [] m Q
      refine ez_blk 1 rfl ?_
      show ez xs 147 28 [some (.ref 131), some (.int n), some (.int o), some (.int f), some (.int x), some (.int y), some (.int b)] [.int 0] m Q
      exact ez_ret rfl (by decide) rfl (g9 h1 h2)
def f_M_like (m : zM) (n o f x y b : Int32) : Int32 := if m 135 n.toNatClampNeg = o then if m 137 n.toNatClampNeg = f_M_value m x b then if o = 0 then if m 136 n.toNatClampNeg = f then if o = 1 then if m 138 n.toNatClampNeg = f_M_value m y b then 1 else 0 else 1 else 0 else if o = 1 then if m 138 n.toNatClampNeg = f_M_value m y b then 1 else 0 else 1 else 0 else 0
theorem d_M_like {xs : jx_Xs} {m : zM} {Q : Option Value → zM → Prop} {n o f x y b : Int32}
    (b1 : vp_in n 24)
    (b2 : (m 135 n.toNatClampNeg = o) → vp_in n 24)
    (b3 : (m 135 n.toNatClampNeg = o) → (m 137 n.toNatClampNeg = f_M_value m x b) → (¬ o = 0) → (o = 1) → vp_in n 24)
    (b4 : (m 135 n.toNatClampNeg = o) → (m 137 n.toNatClampNeg = f_M_value m x b) → (o = 0) → vp_in n 24)
    (b5 : (m 135 n.toNatClampNeg = o) → (m 137 n.toNatClampNeg = f_M_value m x b) → (o = 0) → (m 136 n.toNatClampNeg = f) → (o = 1) → vp_in n 24)
    (g : Q (some (.int (f_M_like m n o f x y b))) m) : ez xs 147 0 (jx_ent 147 [.ref 131, .int n, .int o, .int f, .int x, .int y, .int b]) [] m Q := by
  refine c_M_like b1 b2 b3 b4 b5 (fun e0 => by have q : f_M_like m n o f x y b = 0 := (by unfold f_M_like; first | rw [if_neg e0] | simp only [if_neg e0] | simp [e0]); rw [q] at g; exact g) (fun e0 e1 e2 e3 => by have q : f_M_like m n o f x y b = 1 := (by unfold f_M_like; first | rw [if_pos e0, if_pos e1, if_neg e2, if_neg e3] | simp only [if_pos e0, if_pos e1, if_neg e2, if_neg e3] | simp [e0, e1, e2, e3]); rw [q] at g; exact g) (fun e0 e1 e2 e3 e4 => by have q : f_M_like m n o f x y b = 0 := (by unfold f_M_like; first | rw [if_pos e0, if_pos e1, if_neg e2, if_pos e3, if_neg e4] | simp only [if_pos e0, if_pos e1, if_neg e2, if_pos e3, if_neg e4] | simp [e0, e1, e2, e3, e4]); rw [q] at g; exact g) (fun e0 e1 e2 e3 e4 => by have q : f_M_like m n o f x y b = 1 := (by unfold f_M_like; first | rw [if_pos e0, if_pos e1, if_neg e2, if_pos e3, if_pos e4] | simp only [if_pos e0, if_pos e1, if_neg e2, if_pos e3, if_pos e4] | simp [e0, e1, e2, e3, e4]); rw [q] at g; exact g) (fun e0 e1 e2 e3 => by have q : f_M_like m n o f x y b = 0 := (by unfold f_M_like; first | rw [if_pos e0, if_pos e1, if_pos e2, if_neg e3] | simp only [if_pos e0, if_pos e1, if_pos e2, if_neg e3] | simp [e0, e1, e2, e3]); rw [q] at g; exact g) (fun e0 e1 e2 e3 e4 => by have q : f_M_like m n o f x y b = 1 := (by unfold f_M_like; first | rw [if_pos e0, if_pos e1, if_pos e2, if_pos e3, if_neg e4] | simp only [if_pos e0, if_pos e1, if_pos e2, if_pos e3, if_neg e4] | simp [e0, e1, e2, e3, e4]); rw [q] at g; exact g) (fun e0 e1 e2 e3 e4 e5 => by have q : f_M_like m n o f x y b = 0 := (by unfold f_M_like; first | rw [if_pos e0, if_pos e1, if_pos e2, if_pos e3, if_pos e4, if_neg e5] | simp only [if_pos e0, if_pos e1, if_pos e2, if_pos e3, if_pos e4, if_neg e5] | simp [e0, e1, e2, e3, e4, e5]); rw [q] at g; exact g) (fun e0 e1 e2 e3 e4 e5 => by have q : f_M_like m n o f x y b = 1 := (by unfold f_M_like; first | rw [if_pos e0, if_pos e1, if_pos e2, if_pos e3, if_pos e4, if_pos e5] | simp only [if_pos e0, if_pos e1, if_pos e2, if_pos e3, if_pos e4, if_pos e5] | simp [e0, e1, e2, e3, e4, e5]); rw [q] at g; exact g) (fun e0 e1 => by have q : f_M_like m n o f x y b = 0 := (by unfold f_M_like; first | rw [if_pos e0, if_neg e1] | simp only [if_pos e0, if_neg e1] | simp [e0, e1]); rw [q] at g; exact g)
set_option maxRecDepth 100000 in
set_option maxHeartbeats 2000000 in
theorem c_Pattern_isFunction {xs : jx_Xs} {m : zM} {Q : Option Value → zM → Prop} {f : Int32}
    (g1 : (f < 0) → Q (some (.int 0)) m)
    (g2 : (¬ f < 0) → (3 ≤ f) → Q (some (.int 0)) m)
    (g3 : (¬ f < 0) → (¬ 3 ≤ f) → Q (some (.int 1)) m) : ez xs 79 0 (jx_ent 79 [.int f]) [] m Q := by
  refine ez_blk 1 rfl ?_
  show ez xs 79 1 [some (.int f)] [.int f] m Q
  refine ez_if_lt rfl (fun h1 => ?_) (fun h1 => ?_)
  · show ez xs 79 13 [some (.int f)] [] m Q
    refine ez_blk 1 rfl ?_
    show ez xs 79 14 [some (.int f)] [.int 0] m Q
    exact ez_ret rfl (by decide) rfl (g1 h1)
  · show ez xs 79 4 [some (.int f)] [] m Q
    refine ez_blk 2 rfl ?_
    show ez xs 79 6 [some (.int f)] [.int 3, .int f] m Q
    refine ez_icmp_ge rfl (fun h2 => ?_) (fun h2 => ?_)
    · show ez xs 79 13 [some (.int f)] [] m Q
      refine ez_blk 1 rfl ?_
      show ez xs 79 14 [some (.int f)] [.int 0] m Q
      exact ez_ret rfl (by decide) rfl (g2 h1 h2)
    · show ez xs 79 9 [some (.int f)] [] m Q
      refine ez_blk 2 rfl ?_
      show ez xs 79 14 [some (.int f)] [.int 1] m Q
      exact ez_ret rfl (by decide) rfl (g3 h1 h2)
def f_Pattern_isFunction (m : zM) (f : Int32) : Int32 := if f < 0 then 0 else if 3 ≤ f then 0 else 1
theorem d_Pattern_isFunction {xs : jx_Xs} {m : zM} {Q : Option Value → zM → Prop} {f : Int32}
    (g : Q (some (.int (f_Pattern_isFunction m f))) m) : ez xs 79 0 (jx_ent 79 [.int f]) [] m Q := by
  refine c_Pattern_isFunction (fun e0 => by have q : f_Pattern_isFunction m f = 0 := (by unfold f_Pattern_isFunction; first | rw [if_pos e0] | simp only [if_pos e0] | simp [e0]); rw [q] at g; exact g) (fun e0 e1 => by have q : f_Pattern_isFunction m f = 0 := (by unfold f_Pattern_isFunction; first | rw [if_neg e0, if_pos e1] | simp only [if_neg e0, if_pos e1] | simp [e0, e1]); rw [q] at g; exact g) (fun e0 e1 => by have q : f_Pattern_isFunction m f = 1 := (by unfold f_Pattern_isFunction; first | rw [if_neg e0, if_neg e1] | simp only [if_neg e0, if_neg e1] | simp [e0, e1]); rw [q] at g; exact g)
set_option maxRecDepth 100000 in
set_option maxHeartbeats 2000000 in
theorem c_Pattern_isOperand {xs : jx_Xs} {m : zM} {Q : Option Value → zM → Prop} {x : Int32}
    (g1 : (x < 0) → Q (some (.int 0)) m)
    (g2 : (¬ x < 0) → (7 ≤ x) → Q (some (.int 0)) m)
    (g3 : (¬ x < 0) → (¬ 7 ≤ x) → Q (some (.int 1)) m) : ez xs 80 0 (jx_ent 80 [.int x]) [] m Q := by
  refine ez_blk 1 rfl ?_
  show ez xs 80 1 [some (.int x)] [.int x] m Q
  refine ez_if_lt rfl (fun h1 => ?_) (fun h1 => ?_)
  · show ez xs 80 14 [some (.int x)] [] m Q
    refine ez_blk 1 rfl ?_
    show ez xs 80 15 [some (.int x)] [.int 0] m Q
    exact ez_ret rfl (by decide) rfl (g1 h1)
  · show ez xs 80 4 [some (.int x)] [] m Q
    refine ez_blk 2 rfl ?_
    show ez xs 80 7 [some (.int x)] [.int 7, .int x] m Q
    refine ez_icmp_ge rfl (fun h2 => ?_) (fun h2 => ?_)
    · show ez xs 80 14 [some (.int x)] [] m Q
      refine ez_blk 1 rfl ?_
      show ez xs 80 15 [some (.int x)] [.int 0] m Q
      exact ez_ret rfl (by decide) rfl (g2 h1 h2)
    · show ez xs 80 10 [some (.int x)] [] m Q
      refine ez_blk 2 rfl ?_
      show ez xs 80 15 [some (.int x)] [.int 1] m Q
      exact ez_ret rfl (by decide) rfl (g3 h1 h2)
def f_Pattern_isOperand (m : zM) (x : Int32) : Int32 := if x < 0 then 0 else if 7 ≤ x then 0 else 1
theorem d_Pattern_isOperand {xs : jx_Xs} {m : zM} {Q : Option Value → zM → Prop} {x : Int32}
    (g : Q (some (.int (f_Pattern_isOperand m x))) m) : ez xs 80 0 (jx_ent 80 [.int x]) [] m Q := by
  refine c_Pattern_isOperand (fun e0 => by have q : f_Pattern_isOperand m x = 0 := (by unfold f_Pattern_isOperand; first | rw [if_pos e0] | simp only [if_pos e0] | simp [e0]); rw [q] at g; exact g) (fun e0 e1 => by have q : f_Pattern_isOperand m x = 0 := (by unfold f_Pattern_isOperand; first | rw [if_neg e0, if_pos e1] | simp only [if_neg e0, if_pos e1] | simp [e0, e1]); rw [q] at g; exact g) (fun e0 e1 => by have q : f_Pattern_isOperand m x = 1 := (by unfold f_Pattern_isOperand; first | rw [if_neg e0, if_neg e1] | simp only [if_neg e0, if_neg e1] | simp [e0, e1]); rw [q] at g; exact g)
set_option maxRecDepth 100000 in
set_option maxHeartbeats 2000000 in
theorem c_Pattern_isSound {xs : jx_Xs} {m : zM} {Q : Option Value → zM → Prop} {k f x y : Int32}
    (g1 : (k < 0) → Q (some (.int 0)) m)
    (g2 : (¬ k < 0) → (k ≤ 3) → (¬ k = 0) → (f_Pattern_isOperand m x = 0) → Q (some (.int 0)) m)
    (g3 : (¬ k < 0) → (k ≤ 3) → (¬ k = 0) → (¬ f_Pattern_isOperand m x = 0) → (¬ k = 1) → Q (some (.int 1)) m)
    (g4 : (¬ k < 0) → (k ≤ 3) → (¬ k = 0) → (¬ f_Pattern_isOperand m x = 0) → (k = 1) → (f_Pattern_isOperand m y = 0) → Q (some (.int 0)) m)
    (g5 : (¬ k < 0) → (k ≤ 3) → (¬ k = 0) → (¬ f_Pattern_isOperand m x = 0) → (k = 1) → (¬ f_Pattern_isOperand m y = 0) → Q (some (.int 1)) m)
    (g6 : (¬ k < 0) → (k ≤ 3) → (k = 0) → (¬ f_Pattern_isFunction m f = 0) → (f_Pattern_isOperand m x = 0) → Q (some (.int 0)) m)
    (g7 : (¬ k < 0) → (k ≤ 3) → (k = 0) → (¬ f_Pattern_isFunction m f = 0) → (¬ f_Pattern_isOperand m x = 0) → (¬ k = 1) → Q (some (.int 1)) m)
    (g8 : (¬ k < 0) → (k ≤ 3) → (k = 0) → (¬ f_Pattern_isFunction m f = 0) → (¬ f_Pattern_isOperand m x = 0) → (k = 1) → (f_Pattern_isOperand m y = 0) → Q (some (.int 0)) m)
    (g9 : (¬ k < 0) → (k ≤ 3) → (k = 0) → (¬ f_Pattern_isFunction m f = 0) → (¬ f_Pattern_isOperand m x = 0) → (k = 1) → (¬ f_Pattern_isOperand m y = 0) → Q (some (.int 1)) m)
    (g10 : (¬ k < 0) → (k ≤ 3) → (k = 0) → (f_Pattern_isFunction m f = 0) → Q (some (.int 0)) m)
    (g11 : (¬ k < 0) → (¬ k ≤ 3) → Q (some (.int 0)) m) : ez xs 81 0 (jx_ent 81 [.int k, .int f, .int x, .int y]) [] m Q := by
  refine ez_blk 1 rfl ?_
  show ez xs 81 1 [some (.int k), some (.int f), some (.int x), some (.int y)] [.int k] m Q
  refine ez_if_lt rfl (fun h1 => ?_) (fun h1 => ?_)
  · show ez xs 81 9 [some (.int k), some (.int f), some (.int x), some (.int y)] [] m Q
    refine ez_blk 1 rfl ?_
    show ez xs 81 10 [some (.int k), some (.int f), some (.int x), some (.int y)] [.int 0] m Q
    exact ez_ret rfl (by decide) rfl (g1 h1)
  · show ez xs 81 4 [some (.int k), some (.int f), some (.int x), some (.int y)] [] m Q
    refine ez_blk 2 rfl ?_
    show ez xs 81 6 [some (.int k), some (.int f), some (.int x), some (.int y)] [.int 3, .int k] m Q
    refine ez_icmp_le rfl (fun h2 => ?_) (fun h2 => ?_)
    · show ez xs 81 11 [some (.int k), some (.int f), some (.int x), some (.int y)] [] m Q
      refine ez_blk 1 rfl ?_
      show ez xs 81 12 [some (.int k), some (.int f), some (.int x), some (.int y)] [.int k] m Q
      refine ez_if_ne rfl (fun h3 => ?_) (fun h3 => ?_)
      · show ez xs 81 24 [some (.int k), some (.int f), some (.int x), some (.int y)] [] m Q
        refine ez_blk 1 rfl ?_
        show ez xs 81 25 [some (.int k), some (.int f), some (.int x), some (.int y)] [.int x] m Q
        refine ez_call (as := [.int x]) (rest := []) rfl (by decide) rfl ?_
        refine d_Pattern_isOperand ?_
        show ez xs 81 28 [some (.int k), some (.int f), some (.int x), some (.int y)] [.int (f_Pattern_isOperand m x)] m Q
        refine ez_if_eq rfl (fun h4 => ?_) (fun h4 => ?_)
        · show ez xs 81 47 [some (.int k), some (.int f), some (.int x), some (.int y)] [] m Q
          refine ez_blk 1 rfl ?_
          show ez xs 81 48 [some (.int k), some (.int f), some (.int x), some (.int y)] [.int 0] m Q
          exact ez_ret rfl (by decide) rfl (g2 h1 h2 h3 h4)
        · show ez xs 81 31 [some (.int k), some (.int f), some (.int x), some (.int y)] [] m Q
          refine ez_blk 2 rfl ?_
          show ez xs 81 33 [some (.int k), some (.int f), some (.int x), some (.int y)] [.int 1, .int k] m Q
          refine ez_icmp_ne rfl (fun h5 => ?_) (fun h5 => ?_)
          · show ez xs 81 43 [some (.int k), some (.int f), some (.int x), some (.int y)] [] m Q
            refine ez_blk 2 rfl ?_
            show ez xs 81 48 [some (.int k), some (.int f), some (.int x), some (.int y)] [.int 1] m Q
            exact ez_ret rfl (by decide) rfl (g3 h1 h2 h3 h4 h5)
          · show ez xs 81 36 [some (.int k), some (.int f), some (.int x), some (.int y)] [] m Q
            refine ez_blk 1 rfl ?_
            show ez xs 81 37 [some (.int k), some (.int f), some (.int x), some (.int y)] [.int y] m Q
            refine ez_call (as := [.int y]) (rest := []) rfl (by decide) rfl ?_
            refine d_Pattern_isOperand ?_
            show ez xs 81 40 [some (.int k), some (.int f), some (.int x), some (.int y)] [.int (f_Pattern_isOperand m y)] m Q
            refine ez_if_eq rfl (fun h6 => ?_) (fun h6 => ?_)
            · show ez xs 81 47 [some (.int k), some (.int f), some (.int x), some (.int y)] [] m Q
              refine ez_blk 1 rfl ?_
              show ez xs 81 48 [some (.int k), some (.int f), some (.int x), some (.int y)] [.int 0] m Q
              exact ez_ret rfl (by decide) rfl (g4 h1 h2 h3 h4 h5 h6)
            · show ez xs 81 43 [some (.int k), some (.int f), some (.int x), some (.int y)] [] m Q
              refine ez_blk 2 rfl ?_
              show ez xs 81 48 [some (.int k), some (.int f), some (.int x), some (.int y)] [.int 1] m Q
              exact ez_ret rfl (by decide) rfl (g5 h1 h2 h3 h4 h5 h6)
      · show ez xs 81 15 [some (.int k), some (.int f), some (.int x), some (.int y)] [] m Q
        refine ez_blk 1 rfl ?_
        show ez xs 81 16 [some (.int k), some (.int f), some (.int x), some (.int y)] [.int f] m Q
        refine ez_call (as := [.int f]) (rest := []) rfl (by decide) rfl ?_
        refine d_Pattern_isFunction ?_
        show ez xs 81 19 [some (.int k), some (.int f), some (.int x), some (.int y)] [.int (f_Pattern_isFunction m f)] m Q
        refine ez_if_ne rfl (fun h7 => ?_) (fun h7 => ?_)
        · show ez xs 81 24 [some (.int k), some (.int f), some (.int x), some (.int y)] [] m Q
          refine ez_blk 1 rfl ?_
          show ez xs 81 25 [some (.int k), some (.int f), some (.int x), some (.int y)] [.int x] m Q
          refine ez_call (as := [.int x]) (rest := []) rfl (by decide) rfl ?_
          refine d_Pattern_isOperand ?_
          show ez xs 81 28 [some (.int k), some (.int f), some (.int x), some (.int y)] [.int (f_Pattern_isOperand m x)] m Q
          refine ez_if_eq rfl (fun h8 => ?_) (fun h8 => ?_)
          · show ez xs 81 47 [some (.int k), some (.int f), some (.int x), some (.int y)] [] m Q
            refine ez_blk 1 rfl ?_
            show ez xs 81 48 [some (.int k), some (.int f), some (.int x), some (.int y)] [.int 0] m Q
            exact ez_ret rfl (by decide) rfl (g6 h1 h2 h3 h7 h8)
          · show ez xs 81 31 [some (.int k), some (.int f), some (.int x), some (.int y)] [] m Q
            refine ez_blk 2 rfl ?_
            show ez xs 81 33 [some (.int k), some (.int f), some (.int x), some (.int y)] [.int 1, .int k] m Q
            refine ez_icmp_ne rfl (fun h9 => ?_) (fun h9 => ?_)
            · show ez xs 81 43 [some (.int k), some (.int f), some (.int x), some (.int y)] [] m Q
              refine ez_blk 2 rfl ?_
              show ez xs 81 48 [some (.int k), some (.int f), some (.int x), some (.int y)] [.int 1] m Q
              exact ez_ret rfl (by decide) rfl (g7 h1 h2 h3 h7 h8 h9)
            · show ez xs 81 36 [some (.int k), some (.int f), some (.int x), some (.int y)] [] m Q
              refine ez_blk 1 rfl ?_
              show ez xs 81 37 [some (.int k), some (.int f), some (.int x), some (.int y)] [.int y] m Q
              refine ez_call (as := [.int y]) (rest := []) rfl (by decide) rfl ?_
              refine d_Pattern_isOperand ?_
              show ez xs 81 40 [some (.int k), some (.int f), some (.int x), some (.int y)] [.int (f_Pattern_isOperand m y)] m Q
              refine ez_if_eq rfl (fun h10 => ?_) (fun h10 => ?_)
              · show ez xs 81 47 [some (.int k), some (.int f), some (.int x), some (.int y)] [] m Q
                refine ez_blk 1 rfl ?_
                show ez xs 81 48 [some (.int k), some (.int f), some (.int x), some (.int y)] [.int 0] m Q
                exact ez_ret rfl (by decide) rfl (g8 h1 h2 h3 h7 h8 h9 h10)
              · show ez xs 81 43 [some (.int k), some (.int f), some (.int x), some (.int y)] [] m Q
                refine ez_blk 2 rfl ?_
                show ez xs 81 48 [some (.int k), some (.int f), some (.int x), some (.int y)] [.int 1] m Q
                exact ez_ret rfl (by decide) rfl (g9 h1 h2 h3 h7 h8 h9 h10)
        · show ez xs 81 22 [some (.int k), some (.int f), some (.int x), some (.int y)] [] m Q
          refine ez_blk 1 rfl ?_
          show ez xs 81 23 [some (.int k), some (.int f), some (.int x), some (.int y)] [.int 0] m Q
          exact ez_ret rfl (by decide) rfl (g10 h1 h2 h3 h7)
    · show ez xs 81 9 [some (.int k), some (.int f), some (.int x), some (.int y)] [] m Q
      refine ez_blk 1 rfl ?_
      show ez xs 81 10 [some (.int k), some (.int f), some (.int x), some (.int y)] [.int 0] m Q
      exact ez_ret rfl (by decide) rfl (g11 h1 h2)
def f_Pattern_isSound (m : zM) (k f x y : Int32) : Int32 := if k < 0 then 0 else if k ≤ 3 then if k = 0 then if f_Pattern_isFunction m f = 0 then 0 else if f_Pattern_isOperand m x = 0 then 0 else if k = 1 then if f_Pattern_isOperand m y = 0 then 0 else 1 else 1 else if f_Pattern_isOperand m x = 0 then 0 else if k = 1 then if f_Pattern_isOperand m y = 0 then 0 else 1 else 1 else 0
theorem d_Pattern_isSound {xs : jx_Xs} {m : zM} {Q : Option Value → zM → Prop} {k f x y : Int32}
    (g : Q (some (.int (f_Pattern_isSound m k f x y))) m) : ez xs 81 0 (jx_ent 81 [.int k, .int f, .int x, .int y]) [] m Q := by
  refine c_Pattern_isSound (fun e0 => by have q : f_Pattern_isSound m k f x y = 0 := (by unfold f_Pattern_isSound; first | rw [if_pos e0] | simp only [if_pos e0] | simp [e0]); rw [q] at g; exact g) (fun e0 e1 e2 e3 => by have q : f_Pattern_isSound m k f x y = 0 := (by unfold f_Pattern_isSound; first | rw [if_neg e0, if_pos e1, if_neg e2, if_pos e3] | simp only [if_neg e0, if_pos e1, if_neg e2, if_pos e3] | simp [e0, e1, e2, e3]); rw [q] at g; exact g) (fun e0 e1 e2 e3 e4 => by have q : f_Pattern_isSound m k f x y = 1 := (by unfold f_Pattern_isSound; first | rw [if_neg e0, if_pos e1, if_neg e2, if_neg e3, if_neg e4] | simp only [if_neg e0, if_pos e1, if_neg e2, if_neg e3, if_neg e4] | simp [e0, e1, e2, e3, e4]); rw [q] at g; exact g) (fun e0 e1 e2 e3 e4 e5 => by have q : f_Pattern_isSound m k f x y = 0 := (by unfold f_Pattern_isSound; first | rw [if_neg e0, if_pos e1, if_neg e2, if_neg e3, if_pos e4, if_pos e5] | simp only [if_neg e0, if_pos e1, if_neg e2, if_neg e3, if_pos e4, if_pos e5] | simp [e0, e1, e2, e3, e4, e5]); rw [q] at g; exact g) (fun e0 e1 e2 e3 e4 e5 => by have q : f_Pattern_isSound m k f x y = 1 := (by unfold f_Pattern_isSound; first | rw [if_neg e0, if_pos e1, if_neg e2, if_neg e3, if_pos e4, if_neg e5] | simp only [if_neg e0, if_pos e1, if_neg e2, if_neg e3, if_pos e4, if_neg e5] | simp [e0, e1, e2, e3, e4, e5]); rw [q] at g; exact g) (fun e0 e1 e2 e3 e4 => by have q : f_Pattern_isSound m k f x y = 0 := (by unfold f_Pattern_isSound; first | rw [if_neg e0, if_pos e1, if_pos e2, if_neg e3, if_pos e4] | simp only [if_neg e0, if_pos e1, if_pos e2, if_neg e3, if_pos e4] | simp [e0, e1, e2, e3, e4]); rw [q] at g; exact g) (fun e0 e1 e2 e3 e4 e5 => by have q : f_Pattern_isSound m k f x y = 1 := (by unfold f_Pattern_isSound; first | rw [if_neg e0, if_pos e1, if_pos e2, if_neg e3, if_neg e4, if_neg e5] | simp only [if_neg e0, if_pos e1, if_pos e2, if_neg e3, if_neg e4, if_neg e5] | simp [e0, e1, e2, e3, e4, e5]); rw [q] at g; exact g) (fun e0 e1 e2 e3 e4 e5 e6 => by have q : f_Pattern_isSound m k f x y = 0 := (by unfold f_Pattern_isSound; first | rw [if_neg e0, if_pos e1, if_pos e2, if_neg e3, if_neg e4, if_pos e5, if_pos e6] | simp only [if_neg e0, if_pos e1, if_pos e2, if_neg e3, if_neg e4, if_pos e5, if_pos e6] | simp [e0, e1, e2, e3, e4, e5, e6]); rw [q] at g; exact g) (fun e0 e1 e2 e3 e4 e5 e6 => by have q : f_Pattern_isSound m k f x y = 1 := (by unfold f_Pattern_isSound; first | rw [if_neg e0, if_pos e1, if_pos e2, if_neg e3, if_neg e4, if_pos e5, if_neg e6] | simp only [if_neg e0, if_pos e1, if_pos e2, if_neg e3, if_neg e4, if_pos e5, if_neg e6] | simp [e0, e1, e2, e3, e4, e5, e6]); rw [q] at g; exact g) (fun e0 e1 e2 e3 => by have q : f_Pattern_isSound m k f x y = 0 := (by unfold f_Pattern_isSound; first | rw [if_neg e0, if_pos e1, if_pos e2, if_pos e3] | simp only [if_neg e0, if_pos e1, if_pos e2, if_pos e3] | simp [e0, e1, e2, e3]); rw [q] at g; exact g) (fun e0 e1 => by have q : f_Pattern_isSound m k f x y = 0 := (by unfold f_Pattern_isSound; first | rw [if_neg e0, if_neg e1] | simp only [if_neg e0, if_neg e1] | simp [e0, e1]); rw [q] at g; exact g)
set_option maxRecDepth 100000 in
set_option maxHeartbeats 2000000 in
theorem c_Pattern_unknownBit {xs : jx_Xs} {m : zM} {Q : Option Value → zM → Prop} {x : Int32}
    (g1 : (4 ≤ x) → Q (some (.int ((1 : Int32) <<< ((x - 4) &&& 31)))) m)
    (g2 : (¬ 4 ≤ x) → Q (some (.int 0)) m) : ez xs 84 0 (jx_ent 84 [.int x]) [] m Q := by
  refine ez_blk 2 rfl ?_
  show ez xs 84 2 [some (.int x)] [.int 4, .int x] m Q
  refine ez_icmp_ge rfl (fun h1 => ?_) (fun h1 => ?_)
  · show ez xs 84 9 [some (.int x)] [] m Q
    refine ez_blk 5 rfl ?_
    show ez xs 84 14 [some (.int x)] [.int ((1 : Int32) <<< ((x - 4) &&& 31))] m Q
    exact ez_ret rfl (by decide) rfl (g1 h1)
  · show ez xs 84 5 [some (.int x)] [] m Q
    refine ez_blk 2 rfl ?_
    show ez xs 84 14 [some (.int x)] [.int 0] m Q
    exact ez_ret rfl (by decide) rfl (g2 h1)
def f_Pattern_unknownBit (m : zM) (x : Int32) : Int32 := if 4 ≤ x then ((1 : Int32) <<< ((x - 4) &&& 31)) else 0
theorem d_Pattern_unknownBit {xs : jx_Xs} {m : zM} {Q : Option Value → zM → Prop} {x : Int32}
    (g : Q (some (.int (f_Pattern_unknownBit m x))) m) : ez xs 84 0 (jx_ent 84 [.int x]) [] m Q := by
  refine c_Pattern_unknownBit (fun e0 => by have q : f_Pattern_unknownBit m x = ((1 : Int32) <<< ((x - 4) &&& 31)) := (by unfold f_Pattern_unknownBit; first | rw [if_pos e0] | simp only [if_pos e0] | simp [e0]); rw [q] at g; exact g) (fun e0 => by have q : f_Pattern_unknownBit m x = 0 := (by unfold f_Pattern_unknownBit; first | rw [if_neg e0] | simp only [if_neg e0] | simp [e0]); rw [q] at g; exact g)
set_option maxRecDepth 100000 in
set_option maxHeartbeats 2000000 in
theorem c_Pattern_unknownsIn {xs : jx_Xs} {m : zM} {Q : Option Value → zM → Prop} {k x y : Int32}
    (g1 : (¬ k = 1) → Q (some (.int (f_Pattern_unknownBit m x))) m)
    (g2 : (k = 1) → Q (some (.int ((f_Pattern_unknownBit m x) ||| (f_Pattern_unknownBit m y)))) m) : ez xs 85 0 (jx_ent 85 [.int k, .int x, .int y]) [] m Q := by
  refine ez_blk 2 rfl ?_
  show ez xs 85 2 [some (.int k), some (.int x), some (.int y)] [.int 1, .int k] m Q
  refine ez_icmp_ne rfl (fun h1 => ?_) (fun h1 => ?_)
  · show ez xs 85 17 [some (.int k), some (.int x), some (.int y)] [] m Q
    refine ez_blk 1 rfl ?_
    show ez xs 85 18 [some (.int k), some (.int x), some (.int y)] [.int x] m Q
    refine ez_call (as := [.int x]) (rest := []) rfl (by decide) rfl ?_
    refine d_Pattern_unknownBit ?_
    show ez xs 85 21 [some (.int k), some (.int x), some (.int y)] [.int (f_Pattern_unknownBit m x)] m Q
    exact ez_ret rfl (by decide) rfl (g1 h1)
  · show ez xs 85 5 [some (.int k), some (.int x), some (.int y)] [] m Q
    refine ez_blk 1 rfl ?_
    show ez xs 85 6 [some (.int k), some (.int x), some (.int y)] [.int x] m Q
    refine ez_call (as := [.int x]) (rest := []) rfl (by decide) rfl ?_
    refine d_Pattern_unknownBit ?_
    show ez xs 85 9 [some (.int k), some (.int x), some (.int y)] [.int (f_Pattern_unknownBit m x)] m Q
    refine ez_blk 1 rfl ?_
    show ez xs 85 10 [some (.int k), some (.int x), some (.int y)] [.int y, .int (f_Pattern_unknownBit m x)] m Q
    refine ez_call (as := [.int y]) (rest := [.int (f_Pattern_unknownBit m x)]) rfl (by decide) rfl ?_
    refine d_Pattern_unknownBit ?_
    show ez xs 85 13 [some (.int k), some (.int x), some (.int y)] [.int (f_Pattern_unknownBit m y), .int (f_Pattern_unknownBit m x)] m Q
    refine ez_blk 2 rfl ?_
    show ez xs 85 21 [some (.int k), some (.int x), some (.int y)] [.int ((f_Pattern_unknownBit m x) ||| (f_Pattern_unknownBit m y))] m Q
    exact ez_ret rfl (by decide) rfl (g2 h1)
def f_Pattern_unknownsIn (m : zM) (k x y : Int32) : Int32 := if k = 1 then ((f_Pattern_unknownBit m x) ||| (f_Pattern_unknownBit m y)) else (f_Pattern_unknownBit m x)
theorem d_Pattern_unknownsIn {xs : jx_Xs} {m : zM} {Q : Option Value → zM → Prop} {k x y : Int32}
    (g : Q (some (.int (f_Pattern_unknownsIn m k x y))) m) : ez xs 85 0 (jx_ent 85 [.int k, .int x, .int y]) [] m Q := by
  refine c_Pattern_unknownsIn (fun e0 => by have q : f_Pattern_unknownsIn m k x y = (f_Pattern_unknownBit m x) := (by unfold f_Pattern_unknownsIn; first | rw [if_neg e0] | simp only [if_neg e0] | simp [e0]); rw [q] at g; exact g) (fun e0 => by have q : f_Pattern_unknownsIn m k x y = ((f_Pattern_unknownBit m x) ||| (f_Pattern_unknownBit m y)) := (by unfold f_Pattern_unknownsIn; first | rw [if_pos e0] | simp only [if_pos e0] | simp [e0]); rw [q] at g; exact g)
set_option maxRecDepth 100000 in
set_option maxHeartbeats 2000000 in
theorem c_Pattern_bound {xs : jx_Xs} {m : zM} {Q : Option Value → zM → Prop} {x b : Int32}
    (g1 : (0 ≤ x - 4) → Q (some (.int ((b >>> (((2 : Int32) * (x - 4)) &&& 31)) &&& 3))) m)
    (g2 : (¬ 0 ≤ x - 4) → Q (some (.int (x &&& 3))) m) : ez xs 116 0 (jx_ent 116 [.int x, .int b]) [] m Q := by
  refine ez_blk 5 rfl ?_
  show ez xs 116 5 [some (.int x), some (.int b), some (.int (x - 4))] [.int (x - 4)] m Q
  refine ez_if_ge rfl (fun h1 => ?_) (fun h1 => ?_)
  · show ez xs 116 12 [some (.int x), some (.int b), some (.int (x - 4))] [] m Q
    refine ez_blk 7 rfl ?_
    show ez xs 116 19 [some (.int x), some (.int b), some (.int (x - 4))] [.int ((b >>> (((2 : Int32) * (x - 4)) &&& 31)) &&& 3)] m Q
    exact ez_ret rfl (by decide) rfl (g1 h1)
  · show ez xs 116 8 [some (.int x), some (.int b), some (.int (x - 4))] [] m Q
    refine ez_blk 4 rfl ?_
    show ez xs 116 19 [some (.int x), some (.int b), some (.int (x - 4))] [.int (x &&& 3)] m Q
    exact ez_ret rfl (by decide) rfl (g2 h1)
def f_Pattern_bound (m : zM) (x b : Int32) : Int32 := if 0 ≤ x - 4 then ((b >>> (((2 : Int32) * (x - 4)) &&& 31)) &&& 3) else (x &&& 3)
theorem d_Pattern_bound {xs : jx_Xs} {m : zM} {Q : Option Value → zM → Prop} {x b : Int32}
    (g : Q (some (.int (f_Pattern_bound m x b))) m) : ez xs 116 0 (jx_ent 116 [.int x, .int b]) [] m Q := by
  refine c_Pattern_bound (fun e0 => by have q : f_Pattern_bound m x b = ((b >>> (((2 : Int32) * (x - 4)) &&& 31)) &&& 3) := (by unfold f_Pattern_bound; first | rw [if_pos e0] | simp only [if_pos e0] | simp [e0]); rw [q] at g; exact g) (fun e0 => by have q : f_Pattern_bound m x b = (x &&& 3) := (by unfold f_Pattern_bound; first | rw [if_neg e0] | simp only [if_neg e0] | simp [e0]); rw [q] at g; exact g)
set_option maxRecDepth 100000 in
set_option maxHeartbeats 2000000 in
theorem c_Script_size {xs : jx_Xs} {m : zM} {Q : Option Value → zM → Prop}
    (g1 : Q (some (.int (m 36 1))) m) : ez xs 88 0 (jx_ent 88 [.ref 36]) [] m Q := by
  refine ez_blk 2 rfl ?_
  show ez xs 88 4 [some (.ref 36)] [.int (m 36 1)] m Q
  exact ez_ret rfl (by decide) rfl (g1)
set_option maxRecDepth 100000 in
set_option maxHeartbeats 2000000 in
theorem c_Script_isEmpty {xs : jx_Xs} {m : zM} {Q : Option Value → zM → Prop}
    (g1 : (¬ m 36 1 = 0) → Q (some (.int 0)) m)
    (g2 : (m 36 1 = 0) → Q (some (.int 1)) m) : ez xs 92 0 (jx_ent 92 [.ref 36]) [] m Q := by
  refine ez_blk 2 rfl ?_
  show ez xs 92 4 [some (.ref 36)] [.int (m 36 1)] m Q
  refine ez_if_ne rfl (fun h1 => ?_) (fun h1 => ?_)
  · show ez xs 92 11 [some (.ref 36)] [] m Q
    refine ez_blk 1 rfl ?_
    show ez xs 92 12 [some (.ref 36)] [.int 0] m Q
    exact ez_ret rfl (by decide) rfl (g1 h1)
  · show ez xs 92 7 [some (.ref 36)] [] m Q
    refine ez_blk 2 rfl ?_
    show ez xs 92 12 [some (.ref 36)] [.int 1] m Q
    exact ez_ret rfl (by decide) rfl (g2 h1)
def f_Script_isEmpty (m : zM) : Int32 := if m 36 1 = 0 then 1 else 0
theorem d_Script_isEmpty {xs : jx_Xs} {m : zM} {Q : Option Value → zM → Prop}
    (g : Q (some (.int (f_Script_isEmpty m))) m) : ez xs 92 0 (jx_ent 92 [.ref 36]) [] m Q := by
  refine c_Script_isEmpty (fun e0 => by have q : f_Script_isEmpty m = 0 := (by unfold f_Script_isEmpty; first | rw [if_neg e0] | simp only [if_neg e0] | simp [e0]); rw [q] at g; exact g) (fun e0 => by have q : f_Script_isEmpty m = 1 := (by unfold f_Script_isEmpty; first | rw [if_pos e0] | simp only [if_pos e0] | simp [e0]); rw [q] at g; exact g)
set_option maxRecDepth 100000 in
set_option maxHeartbeats 2000000 in
theorem c_Script_holds {xs : jx_Xs} {m : zM} {Q : Option Value → zM → Prop} {k : Int32}
    (g1 : (k < 0) → Q (some (.int 0)) m)
    (g2 : (¬ k < 0) → (m 36 1 ≤ k) → Q (some (.int 0)) m)
    (g3 : (¬ k < 0) → (¬ m 36 1 ≤ k) → Q (some (.int 1)) m) : ez xs 93 0 (jx_ent 93 [.ref 36, .int k]) [] m Q := by
  refine ez_blk 1 rfl ?_
  show ez xs 93 1 [some (.ref 36), some (.int k)] [.int k] m Q
  refine ez_if_lt rfl (fun h1 => ?_) (fun h1 => ?_)
  · show ez xs 93 16 [some (.ref 36), some (.int k)] [] m Q
    refine ez_blk 1 rfl ?_
    show ez xs 93 17 [some (.ref 36), some (.int k)] [.int 0] m Q
    exact ez_ret rfl (by decide) rfl (g1 h1)
  · show ez xs 93 4 [some (.ref 36), some (.int k)] [] m Q
    refine ez_blk 3 rfl ?_
    show ez xs 93 9 [some (.ref 36), some (.int k)] [.int (m 36 1), .int k] m Q
    refine ez_icmp_ge rfl (fun h2 => ?_) (fun h2 => ?_)
    · show ez xs 93 16 [some (.ref 36), some (.int k)] [] m Q
      refine ez_blk 1 rfl ?_
      show ez xs 93 17 [some (.ref 36), some (.int k)] [.int 0] m Q
      exact ez_ret rfl (by decide) rfl (g2 h1 h2)
    · show ez xs 93 12 [some (.ref 36), some (.int k)] [] m Q
      refine ez_blk 2 rfl ?_
      show ez xs 93 17 [some (.ref 36), some (.int k)] [.int 1] m Q
      exact ez_ret rfl (by decide) rfl (g3 h1 h2)
def f_Script_holds (m : zM) (k : Int32) : Int32 := if k < 0 then 0 else if m 36 1 ≤ k then 0 else 1
theorem d_Script_holds {xs : jx_Xs} {m : zM} {Q : Option Value → zM → Prop} {k : Int32}
    (g : Q (some (.int (f_Script_holds m k))) m) : ez xs 93 0 (jx_ent 93 [.ref 36, .int k]) [] m Q := by
  refine c_Script_holds (fun e0 => by have q : f_Script_holds m k = 0 := (by unfold f_Script_holds; first | rw [if_pos e0] | simp only [if_pos e0] | simp [e0]); rw [q] at g; exact g) (fun e0 e1 => by have q : f_Script_holds m k = 0 := (by unfold f_Script_holds; first | rw [if_neg e0, if_pos e1] | simp only [if_neg e0, if_pos e1] | simp [e0, e1]); rw [q] at g; exact g) (fun e0 e1 => by have q : f_Script_holds m k = 1 := (by unfold f_Script_holds; first | rw [if_neg e0, if_neg e1] | simp only [if_neg e0, if_neg e1] | simp [e0, e1]); rw [q] at g; exact g)
set_option maxRecDepth 100000 in
set_option maxHeartbeats 2000000 in
theorem c_Script_empty {xs : jx_Xs} {m : zM} {Q : Option Value → zM → Prop}
    (g1 : Q none (jj_up (jj_up m 36 1 0) 36 2 0)) : ez xs 109 0 (jx_ent 109 [.ref 36]) [] m Q := by
  refine ez_blk 6 rfl ?_
  show ez xs 109 10 [some (.ref 36)] [] (jj_up (jj_up m 36 1 0) 36 2 0) Q
  exact ez_ret rfl (by decide) rfl (g1)
set_option maxRecDepth 100000 in
set_option maxHeartbeats 2000000 in
theorem c_PathPatcher_forget {xs : jx_Xs} {m : zM} {Q : Option Value → zM → Prop}
    (g1 : Q none (jj_up (jj_up (jj_up m 36 1 0) 36 2 0) 0 8 0)) : ez xs 110 0 (jx_ent 110 [.ref 0]) [] m Q := by
  refine ez_blk 2 rfl ?_
  show ez xs 110 4 [some (.ref 0)] [.ref 36] m Q
  refine ez_call (as := [.ref 36]) (rest := []) rfl (by decide) rfl ?_
  refine c_Script_empty ?_
  show ez xs 110 7 [some (.ref 0)] [] (jj_up (jj_up m 36 1 0) 36 2 0) Q
  refine ez_blk 3 rfl ?_
  show ez xs 110 12 [some (.ref 0)] [] (jj_up (jj_up (jj_up m 36 1 0) 36 2 0) 0 8 0) Q
  exact ez_ret rfl (by decide) rfl (g1)
set_option maxRecDepth 100000 in
set_option maxHeartbeats 2000000 in
theorem c_Search_hasConflict {xs : jx_Xs} {m : zM} {Q : Option Value → zM → Prop}
    (b1 : m 74 7 = 0 ∨ m 74 7 = 1)
    (g1 : Q (some (.int (m 74 7))) m) : ez xs 162 0 (jx_ent 162 [.ref 74]) [] m Q := by
  refine ez_blk 2 rfl ?_
  show ez xs 162 4 [some (.ref 74)] [.int (m 74 7)] m Q
  exact ez_retz rfl rfl (b1) (g1)
set_option maxRecDepth 100000 in
set_option maxHeartbeats 2000000 in
theorem c_Rewriter_lengthAfter {xs : jx_Xs} {m : zM} {Q : Option Value → zM → Prop}
    (g1 : Q (some (.int (m 129 3))) m) : ez xs 166 0 (jx_ent 166 [.ref 129]) [] m Q := by
  refine ez_blk 2 rfl ?_
  show ez xs 166 4 [some (.ref 129)] [.int (m 129 3)] m Q
  exact ez_ret rfl (by decide) rfl (g1)
set_option maxRecDepth 100000 in
set_option maxHeartbeats 2000000 in
theorem c_Rewriter_nodesAfter {xs : jx_Xs} {m : zM} {Q : Option Value → zM → Prop}
    (g1 : Q (some (.int (m 129 4))) m) : ez xs 167 0 (jx_ent 167 [.ref 129]) [] m Q := by
  refine ez_blk 2 rfl ?_
  show ez xs 167 4 [some (.ref 129)] [.int (m 129 4)] m Q
  exact ez_ret rfl (by decide) rfl (g1)
set_option maxRecDepth 100000 in
set_option maxHeartbeats 2000000 in
theorem c_Rewriter_editCount {xs : jx_Xs} {m : zM} {Q : Option Value → zM → Prop}
    (g1 : Q (some (.int (m 129 5))) m) : ez xs 171 0 (jx_ent 171 [.ref 129]) [] m Q := by
  refine ez_blk 2 rfl ?_
  show ez xs 171 4 [some (.ref 129)] [.int (m 129 5)] m Q
  exact ez_ret rfl (by decide) rfl (g1)
set_option maxRecDepth 100000 in
set_option maxHeartbeats 2000000 in
theorem c_Node_describe {xs : jx_Xs} {m : zM} {Q : Option Value → zM → Prop} {k f x y : Int32} {r : Nat} (i_r : r < 172) (s_r : z_H r = (0, 3, 13))
    (g1 : Q none (jj_up (jj_up (jj_up (jj_up m r 0 k) r 1 f) r 2 x) r 3 y)) : ez xs 49 0 (jx_ent 49 [.ref r, .int k, .int f, .int x, .int y]) [] m Q := by
  refine ez_blk 2 rfl ?_
  show ez xs 49 2 [some (.ref r), some (.int k), some (.int f), some (.int x), some (.int y)] [.int k, .ref r] m Q
  refine ez_put rfl i_r s_r (by decide) rfl rfl ?_
  show ez xs 49 5 [some (.ref r), some (.int k), some (.int f), some (.int x), some (.int y)] [] (jj_up m r 0 k) Q
  refine ez_blk 2 rfl ?_
  show ez xs 49 7 [some (.ref r), some (.int k), some (.int f), some (.int x), some (.int y)] [.int f, .ref r] (jj_up m r 0 k) Q
  refine ez_put rfl i_r s_r (by decide) rfl rfl ?_
  show ez xs 49 10 [some (.ref r), some (.int k), some (.int f), some (.int x), some (.int y)] [] (jj_up (jj_up m r 0 k) r 1 f) Q
  refine ez_blk 2 rfl ?_
  show ez xs 49 12 [some (.ref r), some (.int k), some (.int f), some (.int x), some (.int y)] [.int x, .ref r] (jj_up (jj_up m r 0 k) r 1 f) Q
  refine ez_put rfl i_r s_r (by decide) rfl rfl ?_
  show ez xs 49 15 [some (.ref r), some (.int k), some (.int f), some (.int x), some (.int y)] [] (jj_up (jj_up (jj_up m r 0 k) r 1 f) r 2 x) Q
  refine ez_blk 2 rfl ?_
  show ez xs 49 18 [some (.ref r), some (.int k), some (.int f), some (.int x), some (.int y)] [.int y, .ref r] (jj_up (jj_up (jj_up m r 0 k) r 1 f) r 2 x) Q
  refine ez_put rfl i_r s_r (by decide) rfl rfl ?_
  show ez xs 49 21 [some (.ref r), some (.int k), some (.int f), some (.int x), some (.int y)] [] (jj_up (jj_up (jj_up (jj_up m r 0 k) r 1 f) r 2 x) r 3 y) Q
  exact ez_ret rfl (by decide) rfl (g1)
set_option maxRecDepth 100000 in
set_option maxHeartbeats 2000000 in
theorem c_Node_standAt {xs : jx_Xs} {m : zM} {Q : Option Value → zM → Prop} {p q o : Int32} {r : Nat} (i_r : r < 172) (s_r : z_H r = (0, 3, 13))
    (g1 : Q none (jj_up (jj_up (jj_up (jj_up (jj_up (jj_up (jj_up m r 5 p) r 6 q) r 7 o) r 4 0) r 8 (-1)) r 9 (-1)) r 10 (-1))) : ez xs 47 0 (jx_ent 47 [.ref r, .int p, .int q, .int o]) [] m Q := by
  refine ez_blk 2 rfl ?_
  show ez xs 47 2 [some (.ref r), some (.int p), some (.int q), some (.int o)] [.int p, .ref r] m Q
  refine ez_put rfl i_r s_r (by decide) rfl rfl ?_
  show ez xs 47 5 [some (.ref r), some (.int p), some (.int q), some (.int o)] [] (jj_up m r 5 p) Q
  refine ez_blk 2 rfl ?_
  show ez xs 47 7 [some (.ref r), some (.int p), some (.int q), some (.int o)] [.int q, .ref r] (jj_up m r 5 p) Q
  refine ez_put rfl i_r s_r (by decide) rfl rfl ?_
  show ez xs 47 10 [some (.ref r), some (.int p), some (.int q), some (.int o)] [] (jj_up (jj_up m r 5 p) r 6 q) Q
  refine ez_blk 2 rfl ?_
  show ez xs 47 12 [some (.ref r), some (.int p), some (.int q), some (.int o)] [.int o, .ref r] (jj_up (jj_up m r 5 p) r 6 q) Q
  refine ez_put rfl i_r s_r (by decide) rfl rfl ?_
  show ez xs 47 15 [some (.ref r), some (.int p), some (.int q), some (.int o)] [] (jj_up (jj_up (jj_up m r 5 p) r 6 q) r 7 o) Q
  refine ez_blk 2 rfl ?_
  show ez xs 47 17 [some (.ref r), some (.int p), some (.int q), some (.int o)] [.int 0, .ref r] (jj_up (jj_up (jj_up m r 5 p) r 6 q) r 7 o) Q
  refine ez_put rfl i_r s_r (by decide) rfl rfl ?_
  show ez xs 47 20 [some (.ref r), some (.int p), some (.int q), some (.int o)] [] (jj_up (jj_up (jj_up (jj_up m r 5 p) r 6 q) r 7 o) r 4 0) Q
  refine ez_blk 2 rfl ?_
  show ez xs 47 22 [some (.ref r), some (.int p), some (.int q), some (.int o)] [.int (-1), .ref r] (jj_up (jj_up (jj_up (jj_up m r 5 p) r 6 q) r 7 o) r 4 0) Q
  refine ez_put rfl i_r s_r (by decide) rfl rfl ?_
  show ez xs 47 25 [some (.ref r), some (.int p), some (.int q), some (.int o)] [] (jj_up (jj_up (jj_up (jj_up (jj_up m r 5 p) r 6 q) r 7 o) r 4 0) r 8 (-1)) Q
  refine ez_blk 2 rfl ?_
  show ez xs 47 27 [some (.ref r), some (.int p), some (.int q), some (.int o)] [.int (-1), .ref r] (jj_up (jj_up (jj_up (jj_up (jj_up m r 5 p) r 6 q) r 7 o) r 4 0) r 8 (-1)) Q
  refine ez_put rfl i_r s_r (by decide) rfl rfl ?_
  show ez xs 47 30 [some (.ref r), some (.int p), some (.int q), some (.int o)] [] (jj_up (jj_up (jj_up (jj_up (jj_up (jj_up m r 5 p) r 6 q) r 7 o) r 4 0) r 8 (-1)) r 9 (-1)) Q
  refine ez_blk 2 rfl ?_
  show ez xs 47 32 [some (.ref r), some (.int p), some (.int q), some (.int o)] [.int (-1), .ref r] (jj_up (jj_up (jj_up (jj_up (jj_up (jj_up m r 5 p) r 6 q) r 7 o) r 4 0) r 8 (-1)) r 9 (-1)) Q
  refine ez_put rfl i_r s_r (by decide) rfl rfl ?_
  show ez xs 47 35 [some (.ref r), some (.int p), some (.int q), some (.int o)] [] (jj_up (jj_up (jj_up (jj_up (jj_up (jj_up (jj_up m r 5 p) r 6 q) r 7 o) r 4 0) r 8 (-1)) r 9 (-1)) r 10 (-1)) Q
  exact ez_ret rfl (by decide) rfl (g1)
set_option maxRecDepth 100000 in
set_option maxHeartbeats 2000000 in
theorem c_Node_successor {xs : jx_Xs} {m : zM} {Q : Option Value → zM → Prop} {k : Int32} {r : Nat} (i_r : r < 172) (s_r : z_H r = (0, 3, 13))
    (g1 : (¬ k = 0) → (¬ k = 1) → Q (some (.int (-1))) m)
    (g2 : (¬ k = 0) → (k = 1) → Q (some (.int (m r 12))) m)
    (g3 : (k = 0) → Q (some (.int (m r 11))) m) : ez xs 74 0 (jx_ent 74 [.ref r, .int k]) [] m Q := by
  refine ez_blk 1 rfl ?_
  show ez xs 74 1 [some (.ref r), some (.int k)] [.int k] m Q
  refine ez_if_ne rfl (fun h1 => ?_) (fun h1 => ?_)
  · show ez xs 74 9 [some (.ref r), some (.int k)] [] m Q
    refine ez_blk 2 rfl ?_
    show ez xs 74 11 [some (.ref r), some (.int k)] [.int 1, .int k] m Q
    refine ez_icmp_ne rfl (fun h2 => ?_) (fun h2 => ?_)
    · show ez xs 74 21 [some (.ref r), some (.int k)] [] m Q
      refine ez_blk 1 rfl ?_
      show ez xs 74 22 [some (.ref r), some (.int k)] [.int (-1)] m Q
      exact ez_ret rfl (by decide) rfl (g1 h1 h2)
    · show ez xs 74 14 [some (.ref r), some (.int k)] [] m Q
      refine ez_blk 1 rfl ?_
      show ez xs 74 15 [some (.ref r), some (.int k)] [.ref r] m Q
      refine ez_get rfl i_r s_r (by decide) rfl ?_
      show ez xs 74 18 [some (.ref r), some (.int k)] [.int (m r 12)] m Q
      refine ez_blk 1 rfl ?_
      show ez xs 74 22 [some (.ref r), some (.int k)] [.int (m r 12)] m Q
      exact ez_ret rfl (by decide) rfl (g2 h1 h2)
  · show ez xs 74 4 [some (.ref r), some (.int k)] [] m Q
    refine ez_blk 1 rfl ?_
    show ez xs 74 5 [some (.ref r), some (.int k)] [.ref r] m Q
    refine ez_get rfl i_r s_r (by decide) rfl ?_
    show ez xs 74 8 [some (.ref r), some (.int k)] [.int (m r 11)] m Q
    exact ez_ret rfl (by decide) rfl (g3 h1)
def f_Node_successor (m : zM) (k : Int32) (r : Nat) : Int32 := if k = 0 then (m r 11) else if k = 1 then (m r 12) else (-1)
theorem d_Node_successor {xs : jx_Xs} {m : zM} {Q : Option Value → zM → Prop} {k : Int32} {r : Nat} (i_r : r < 172) (s_r : z_H r = (0, 3, 13))
    (g : Q (some (.int (f_Node_successor m k r))) m) : ez xs 74 0 (jx_ent 74 [.ref r, .int k]) [] m Q := by
  refine c_Node_successor (i_r := i_r) (s_r := s_r) (fun e0 e1 => by have q : f_Node_successor m k r = (-1) := (by unfold f_Node_successor; first | rw [if_neg e0, if_neg e1] | simp only [if_neg e0, if_neg e1] | simp [e0, e1]); rw [q] at g; exact g) (fun e0 e1 => by have q : f_Node_successor m k r = (m r 12) := (by unfold f_Node_successor; first | rw [if_neg e0, if_pos e1] | simp only [if_neg e0, if_pos e1] | simp [e0, e1]); rw [q] at g; exact g) (fun e0 => by have q : f_Node_successor m k r = (m r 11) := (by unfold f_Node_successor; first | rw [if_pos e0] | simp only [if_pos e0] | simp [e0]); rw [q] at g; exact g)
set_option maxRecDepth 100000 in
set_option maxHeartbeats 2000000 in
theorem c_Node_successorSet {xs : jx_Xs} {m : zM} {Q : Option Value → zM → Prop} {r : Nat} (i_r : r < 172) (s_r : z_H r = (0, 3, 13))
    (g1 : (¬ m r 12 = (-1)) → Q (some (.int (((1 : Int32) <<< ((m r 11) &&& 31)) ||| ((1 : Int32) <<< ((m r 12) &&& 31))))) m)
    (g2 : (m r 12 = (-1)) → Q (some (.int ((1 : Int32) <<< ((m r 11) &&& 31)))) m) : ez xs 119 0 (jx_ent 119 [.ref r]) [] m Q := by
  refine ez_blk 2 rfl ?_
  show ez xs 119 2 [some (.ref r), none] [.ref r, .int 1] m Q
  refine ez_get rfl i_r s_r (by decide) rfl ?_
  show ez xs 119 5 [some (.ref r), none] [.int (m r 11), .int 1] m Q
  refine ez_blk 3 rfl ?_
  show ez xs 119 8 [some (.ref r), some (.int ((1 : Int32) <<< ((m r 11) &&& 31)))] [.ref r] m Q
  refine ez_get rfl i_r s_r (by decide) rfl ?_
  show ez xs 119 11 [some (.ref r), some (.int ((1 : Int32) <<< ((m r 11) &&& 31)))] [.int (m r 12)] m Q
  refine ez_blk 1 rfl ?_
  show ez xs 119 12 [some (.ref r), some (.int ((1 : Int32) <<< ((m r 11) &&& 31)))] [.int (-1), .int (m r 12)] m Q
  refine ez_icmp_ne rfl (fun h1 => ?_) (fun h1 => ?_)
  · show ez xs 119 19 [some (.ref r), some (.int ((1 : Int32) <<< ((m r 11) &&& 31)))] [] m Q
    refine ez_blk 3 rfl ?_
    show ez xs 119 22 [some (.ref r), some (.int ((1 : Int32) <<< ((m r 11) &&& 31)))] [.ref r, .int 1, .int ((1 : Int32) <<< ((m r 11) &&& 31))] m Q
    refine ez_get rfl i_r s_r (by decide) rfl ?_
    show ez xs 119 25 [some (.ref r), some (.int ((1 : Int32) <<< ((m r 11) &&& 31)))] [.int (m r 12), .int 1, .int ((1 : Int32) <<< ((m r 11) &&& 31))] m Q
    refine ez_blk 2 rfl ?_
    show ez xs 119 27 [some (.ref r), some (.int ((1 : Int32) <<< ((m r 11) &&& 31)))] [.int (((1 : Int32) <<< ((m r 11) &&& 31)) ||| ((1 : Int32) <<< ((m r 12) &&& 31)))] m Q
    exact ez_ret rfl (by decide) rfl (g1 h1)
  · show ez xs 119 15 [some (.ref r), some (.int ((1 : Int32) <<< ((m r 11) &&& 31)))] [] m Q
    refine ez_blk 2 rfl ?_
    show ez xs 119 27 [some (.ref r), some (.int ((1 : Int32) <<< ((m r 11) &&& 31)))] [.int ((1 : Int32) <<< ((m r 11) &&& 31))] m Q
    exact ez_ret rfl (by decide) rfl (g2 h1)
def f_Node_successorSet (m : zM) (r : Nat) : Int32 := if m r 12 = (-1) then ((1 : Int32) <<< ((m r 11) &&& 31)) else (((1 : Int32) <<< ((m r 11) &&& 31)) ||| ((1 : Int32) <<< ((m r 12) &&& 31)))
theorem d_Node_successorSet {xs : jx_Xs} {m : zM} {Q : Option Value → zM → Prop} {r : Nat} (i_r : r < 172) (s_r : z_H r = (0, 3, 13))
    (g : Q (some (.int (f_Node_successorSet m r))) m) : ez xs 119 0 (jx_ent 119 [.ref r]) [] m Q := by
  refine c_Node_successorSet (i_r := i_r) (s_r := s_r) (fun e0 => by have q : f_Node_successorSet m r = (((1 : Int32) <<< ((m r 11) &&& 31)) ||| ((1 : Int32) <<< ((m r 12) &&& 31))) := (by unfold f_Node_successorSet; first | rw [if_neg e0] | simp only [if_neg e0] | simp [e0]); rw [q] at g; exact g) (fun e0 => by have q : f_Node_successorSet m r = ((1 : Int32) <<< ((m r 11) &&& 31)) := (by unfold f_Node_successorSet; first | rw [if_pos e0] | simp only [if_pos e0] | simp [e0]); rw [q] at g; exact g)
set_option maxRecDepth 100000 in
set_option maxHeartbeats 2000000 in
theorem c_Node_spanLength {xs : jx_Xs} {m : zM} {Q : Option Value → zM → Prop} {r : Nat} (i_r : r < 172) (s_r : z_H r = (0, 3, 13))
    (g1 : Q (some (.int (((m r 6) - (m r 5)) + 1))) m) : ez xs 164 0 (jx_ent 164 [.ref r]) [] m Q := by
  refine ez_blk 1 rfl ?_
  show ez xs 164 1 [some (.ref r)] [.ref r] m Q
  refine ez_get rfl i_r s_r (by decide) rfl ?_
  show ez xs 164 4 [some (.ref r)] [.int (m r 6)] m Q
  refine ez_blk 1 rfl ?_
  show ez xs 164 5 [some (.ref r)] [.ref r, .int (m r 6)] m Q
  refine ez_get rfl i_r s_r (by decide) rfl ?_
  show ez xs 164 8 [some (.ref r)] [.int (m r 5), .int (m r 6)] m Q
  refine ez_blk 3 rfl ?_
  show ez xs 164 11 [some (.ref r)] [.int (((m r 6) - (m r 5)) + 1)] m Q
  exact ez_ret rfl (by decide) rfl (g1)
set_option maxRecDepth 100000 in
set_option maxHeartbeats 2000000 in
theorem c_Pattern_describe {xs : jx_Xs} {m : zM} {Q : Option Value → zM → Prop} {k f x y : Int32} {r : Nat} (i_r : r < 172) (s_r : z_H r = (0, 8, 4))
    (g1 : (¬ k = 0) → (¬ k = (-1)) → (¬ k = 1) → Q none (jj_up (jj_up (jj_up (jj_up m r 0 k) r 1 0) r 2 x) r 3 0))
    (g2 : (¬ k = 0) → (¬ k = (-1)) → (k = 1) → Q none (jj_up (jj_up (jj_up (jj_up m r 0 k) r 1 0) r 2 x) r 3 y))
    (g3 : (¬ k = 0) → (k = (-1)) → (¬ k = 1) → Q none (jj_up (jj_up (jj_up (jj_up m r 0 k) r 1 0) r 2 0) r 3 0))
    (g4 : (¬ k = 0) → (k = (-1)) → (k = 1) → Q none (jj_up (jj_up (jj_up (jj_up m r 0 k) r 1 0) r 2 0) r 3 y))
    (g5 : (k = 0) → (¬ k = (-1)) → (¬ k = 1) → Q none (jj_up (jj_up (jj_up (jj_up m r 0 k) r 1 f) r 2 x) r 3 0))
    (g6 : (k = 0) → (¬ k = (-1)) → (k = 1) → Q none (jj_up (jj_up (jj_up (jj_up m r 0 k) r 1 f) r 2 x) r 3 y))
    (g7 : (k = 0) → (k = (-1)) → (¬ k = 1) → Q none (jj_up (jj_up (jj_up (jj_up m r 0 k) r 1 f) r 2 0) r 3 0))
    (g8 : (k = 0) → (k = (-1)) → (k = 1) → Q none (jj_up (jj_up (jj_up (jj_up m r 0 k) r 1 f) r 2 0) r 3 y)) : ez xs 82 0 (jx_ent 82 [.ref r, .int k, .int f, .int x, .int y]) [] m Q := by
  refine ez_blk 2 rfl ?_
  show ez xs 82 2 [some (.ref r), some (.int k), some (.int f), some (.int x), some (.int y)] [.int k, .ref r] m Q
  refine ez_put rfl i_r s_r (by decide) rfl rfl ?_
  show ez xs 82 5 [some (.ref r), some (.int k), some (.int f), some (.int x), some (.int y)] [] (jj_up m r 0 k) Q
  refine ez_blk 2 rfl ?_
  show ez xs 82 7 [some (.ref r), some (.int k), some (.int f), some (.int x), some (.int y)] [.int k, .ref r] (jj_up m r 0 k) Q
  refine ez_if_ne rfl (fun h1 => ?_) (fun h1 => ?_)
  · show ez xs 82 14 [some (.ref r), some (.int k), some (.int f), some (.int x), some (.int y)] [.ref r] (jj_up m r 0 k) Q
    refine ez_blk 1 rfl ?_
    show ez xs 82 15 [some (.ref r), some (.int k), some (.int f), some (.int x), some (.int y)] [.int 0, .ref r] (jj_up m r 0 k) Q
    refine ez_put rfl i_r s_r (by decide) rfl rfl ?_
    show ez xs 82 18 [some (.ref r), some (.int k), some (.int f), some (.int x), some (.int y)] [] (jj_up (jj_up m r 0 k) r 1 0) Q
    refine ez_blk 3 rfl ?_
    show ez xs 82 21 [some (.ref r), some (.int k), some (.int f), some (.int x), some (.int y)] [.int (-1), .int k, .ref r] (jj_up (jj_up m r 0 k) r 1 0) Q
    refine ez_icmp_ne rfl (fun h2 => ?_) (fun h2 => ?_)
    · show ez xs 82 28 [some (.ref r), some (.int k), some (.int f), some (.int x), some (.int y)] [.ref r] (jj_up (jj_up m r 0 k) r 1 0) Q
      refine ez_blk 1 rfl ?_
      show ez xs 82 29 [some (.ref r), some (.int k), some (.int f), some (.int x), some (.int y)] [.int x, .ref r] (jj_up (jj_up m r 0 k) r 1 0) Q
      refine ez_put rfl i_r s_r (by decide) rfl rfl ?_
      show ez xs 82 32 [some (.ref r), some (.int k), some (.int f), some (.int x), some (.int y)] [] (jj_up (jj_up (jj_up m r 0 k) r 1 0) r 2 x) Q
      refine ez_blk 3 rfl ?_
      show ez xs 82 35 [some (.ref r), some (.int k), some (.int f), some (.int x), some (.int y)] [.int 1, .int k, .ref r] (jj_up (jj_up (jj_up m r 0 k) r 1 0) r 2 x) Q
      refine ez_icmp_ne rfl (fun h3 => ?_) (fun h3 => ?_)
      · show ez xs 82 43 [some (.ref r), some (.int k), some (.int f), some (.int x), some (.int y)] [.ref r] (jj_up (jj_up (jj_up m r 0 k) r 1 0) r 2 x) Q
        refine ez_blk 1 rfl ?_
        show ez xs 82 44 [some (.ref r), some (.int k), some (.int f), some (.int x), some (.int y)] [.int 0, .ref r] (jj_up (jj_up (jj_up m r 0 k) r 1 0) r 2 x) Q
        refine ez_put rfl i_r s_r (by decide) rfl rfl ?_
        show ez xs 82 47 [some (.ref r), some (.int k), some (.int f), some (.int x), some (.int y)] [] (jj_up (jj_up (jj_up (jj_up m r 0 k) r 1 0) r 2 x) r 3 0) Q
        exact ez_ret rfl (by decide) rfl (g1 h1 h2 h3)
      · show ez xs 82 38 [some (.ref r), some (.int k), some (.int f), some (.int x), some (.int y)] [.ref r] (jj_up (jj_up (jj_up m r 0 k) r 1 0) r 2 x) Q
        refine ez_blk 2 rfl ?_
        show ez xs 82 44 [some (.ref r), some (.int k), some (.int f), some (.int x), some (.int y)] [.int y, .ref r] (jj_up (jj_up (jj_up m r 0 k) r 1 0) r 2 x) Q
        refine ez_put rfl i_r s_r (by decide) rfl rfl ?_
        show ez xs 82 47 [some (.ref r), some (.int k), some (.int f), some (.int x), some (.int y)] [] (jj_up (jj_up (jj_up (jj_up m r 0 k) r 1 0) r 2 x) r 3 y) Q
        exact ez_ret rfl (by decide) rfl (g2 h1 h2 h3)
    · show ez xs 82 24 [some (.ref r), some (.int k), some (.int f), some (.int x), some (.int y)] [.ref r] (jj_up (jj_up m r 0 k) r 1 0) Q
      refine ez_blk 2 rfl ?_
      show ez xs 82 29 [some (.ref r), some (.int k), some (.int f), some (.int x), some (.int y)] [.int 0, .ref r] (jj_up (jj_up m r 0 k) r 1 0) Q
      refine ez_put rfl i_r s_r (by decide) rfl rfl ?_
      show ez xs 82 32 [some (.ref r), some (.int k), some (.int f), some (.int x), some (.int y)] [] (jj_up (jj_up (jj_up m r 0 k) r 1 0) r 2 0) Q
      refine ez_blk 3 rfl ?_
      show ez xs 82 35 [some (.ref r), some (.int k), some (.int f), some (.int x), some (.int y)] [.int 1, .int k, .ref r] (jj_up (jj_up (jj_up m r 0 k) r 1 0) r 2 0) Q
      refine ez_icmp_ne rfl (fun h4 => ?_) (fun h4 => ?_)
      · show ez xs 82 43 [some (.ref r), some (.int k), some (.int f), some (.int x), some (.int y)] [.ref r] (jj_up (jj_up (jj_up m r 0 k) r 1 0) r 2 0) Q
        refine ez_blk 1 rfl ?_
        show ez xs 82 44 [some (.ref r), some (.int k), some (.int f), some (.int x), some (.int y)] [.int 0, .ref r] (jj_up (jj_up (jj_up m r 0 k) r 1 0) r 2 0) Q
        refine ez_put rfl i_r s_r (by decide) rfl rfl ?_
        show ez xs 82 47 [some (.ref r), some (.int k), some (.int f), some (.int x), some (.int y)] [] (jj_up (jj_up (jj_up (jj_up m r 0 k) r 1 0) r 2 0) r 3 0) Q
        exact ez_ret rfl (by decide) rfl (g3 h1 h2 h4)
      · show ez xs 82 38 [some (.ref r), some (.int k), some (.int f), some (.int x), some (.int y)] [.ref r] (jj_up (jj_up (jj_up m r 0 k) r 1 0) r 2 0) Q
        refine ez_blk 2 rfl ?_
        show ez xs 82 44 [some (.ref r), some (.int k), some (.int f), some (.int x), some (.int y)] [.int y, .ref r] (jj_up (jj_up (jj_up m r 0 k) r 1 0) r 2 0) Q
        refine ez_put rfl i_r s_r (by decide) rfl rfl ?_
        show ez xs 82 47 [some (.ref r), some (.int k), some (.int f), some (.int x), some (.int y)] [] (jj_up (jj_up (jj_up (jj_up m r 0 k) r 1 0) r 2 0) r 3 y) Q
        exact ez_ret rfl (by decide) rfl (g4 h1 h2 h4)
  · show ez xs 82 10 [some (.ref r), some (.int k), some (.int f), some (.int x), some (.int y)] [.ref r] (jj_up m r 0 k) Q
    refine ez_blk 2 rfl ?_
    show ez xs 82 15 [some (.ref r), some (.int k), some (.int f), some (.int x), some (.int y)] [.int f, .ref r] (jj_up m r 0 k) Q
    refine ez_put rfl i_r s_r (by decide) rfl rfl ?_
    show ez xs 82 18 [some (.ref r), some (.int k), some (.int f), some (.int x), some (.int y)] [] (jj_up (jj_up m r 0 k) r 1 f) Q
    refine ez_blk 3 rfl ?_
    show ez xs 82 21 [some (.ref r), some (.int k), some (.int f), some (.int x), some (.int y)] [.int (-1), .int k, .ref r] (jj_up (jj_up m r 0 k) r 1 f) Q
    refine ez_icmp_ne rfl (fun h5 => ?_) (fun h5 => ?_)
    · show ez xs 82 28 [some (.ref r), some (.int k), some (.int f), some (.int x), some (.int y)] [.ref r] (jj_up (jj_up m r 0 k) r 1 f) Q
      refine ez_blk 1 rfl ?_
      show ez xs 82 29 [some (.ref r), some (.int k), some (.int f), some (.int x), some (.int y)] [.int x, .ref r] (jj_up (jj_up m r 0 k) r 1 f) Q
      refine ez_put rfl i_r s_r (by decide) rfl rfl ?_
      show ez xs 82 32 [some (.ref r), some (.int k), some (.int f), some (.int x), some (.int y)] [] (jj_up (jj_up (jj_up m r 0 k) r 1 f) r 2 x) Q
      refine ez_blk 3 rfl ?_
      show ez xs 82 35 [some (.ref r), some (.int k), some (.int f), some (.int x), some (.int y)] [.int 1, .int k, .ref r] (jj_up (jj_up (jj_up m r 0 k) r 1 f) r 2 x) Q
      refine ez_icmp_ne rfl (fun h6 => ?_) (fun h6 => ?_)
      · show ez xs 82 43 [some (.ref r), some (.int k), some (.int f), some (.int x), some (.int y)] [.ref r] (jj_up (jj_up (jj_up m r 0 k) r 1 f) r 2 x) Q
        refine ez_blk 1 rfl ?_
        show ez xs 82 44 [some (.ref r), some (.int k), some (.int f), some (.int x), some (.int y)] [.int 0, .ref r] (jj_up (jj_up (jj_up m r 0 k) r 1 f) r 2 x) Q
        refine ez_put rfl i_r s_r (by decide) rfl rfl ?_
        show ez xs 82 47 [some (.ref r), some (.int k), some (.int f), some (.int x), some (.int y)] [] (jj_up (jj_up (jj_up (jj_up m r 0 k) r 1 f) r 2 x) r 3 0) Q
        exact ez_ret rfl (by decide) rfl (g5 h1 h5 h6)
      · show ez xs 82 38 [some (.ref r), some (.int k), some (.int f), some (.int x), some (.int y)] [.ref r] (jj_up (jj_up (jj_up m r 0 k) r 1 f) r 2 x) Q
        refine ez_blk 2 rfl ?_
        show ez xs 82 44 [some (.ref r), some (.int k), some (.int f), some (.int x), some (.int y)] [.int y, .ref r] (jj_up (jj_up (jj_up m r 0 k) r 1 f) r 2 x) Q
        refine ez_put rfl i_r s_r (by decide) rfl rfl ?_
        show ez xs 82 47 [some (.ref r), some (.int k), some (.int f), some (.int x), some (.int y)] [] (jj_up (jj_up (jj_up (jj_up m r 0 k) r 1 f) r 2 x) r 3 y) Q
        exact ez_ret rfl (by decide) rfl (g6 h1 h5 h6)
    · show ez xs 82 24 [some (.ref r), some (.int k), some (.int f), some (.int x), some (.int y)] [.ref r] (jj_up (jj_up m r 0 k) r 1 f) Q
      refine ez_blk 2 rfl ?_
      show ez xs 82 29 [some (.ref r), some (.int k), some (.int f), some (.int x), some (.int y)] [.int 0, .ref r] (jj_up (jj_up m r 0 k) r 1 f) Q
      refine ez_put rfl i_r s_r (by decide) rfl rfl ?_
      show ez xs 82 32 [some (.ref r), some (.int k), some (.int f), some (.int x), some (.int y)] [] (jj_up (jj_up (jj_up m r 0 k) r 1 f) r 2 0) Q
      refine ez_blk 3 rfl ?_
      show ez xs 82 35 [some (.ref r), some (.int k), some (.int f), some (.int x), some (.int y)] [.int 1, .int k, .ref r] (jj_up (jj_up (jj_up m r 0 k) r 1 f) r 2 0) Q
      refine ez_icmp_ne rfl (fun h7 => ?_) (fun h7 => ?_)
      · show ez xs 82 43 [some (.ref r), some (.int k), some (.int f), some (.int x), some (.int y)] [.ref r] (jj_up (jj_up (jj_up m r 0 k) r 1 f) r 2 0) Q
        refine ez_blk 1 rfl ?_
        show ez xs 82 44 [some (.ref r), some (.int k), some (.int f), some (.int x), some (.int y)] [.int 0, .ref r] (jj_up (jj_up (jj_up m r 0 k) r 1 f) r 2 0) Q
        refine ez_put rfl i_r s_r (by decide) rfl rfl ?_
        show ez xs 82 47 [some (.ref r), some (.int k), some (.int f), some (.int x), some (.int y)] [] (jj_up (jj_up (jj_up (jj_up m r 0 k) r 1 f) r 2 0) r 3 0) Q
        exact ez_ret rfl (by decide) rfl (g7 h1 h5 h7)
      · show ez xs 82 38 [some (.ref r), some (.int k), some (.int f), some (.int x), some (.int y)] [.ref r] (jj_up (jj_up (jj_up m r 0 k) r 1 f) r 2 0) Q
        refine ez_blk 2 rfl ?_
        show ez xs 82 44 [some (.ref r), some (.int k), some (.int f), some (.int x), some (.int y)] [.int y, .ref r] (jj_up (jj_up (jj_up m r 0 k) r 1 f) r 2 0) Q
        refine ez_put rfl i_r s_r (by decide) rfl rfl ?_
        show ez xs 82 47 [some (.ref r), some (.int k), some (.int f), some (.int x), some (.int y)] [] (jj_up (jj_up (jj_up (jj_up m r 0 k) r 1 f) r 2 0) r 3 y) Q
        exact ez_ret rfl (by decide) rfl (g8 h1 h5 h7)
def f_Pattern_describe_u1 (m : zM) (k f x y : Int32) (r : Nat) : Int32 := if k = 0 then f else 0
def f_Pattern_describe_u2 (m : zM) (k f x y : Int32) (r : Nat) : Int32 := if k = 0 then if k = (-1) then 0 else x else if k = (-1) then 0 else x
def f_Pattern_describe_u3 (m : zM) (k f x y : Int32) (r : Nat) : Int32 := if k = 0 then if k = (-1) then if k = 1 then y else 0 else if k = 1 then y else 0 else if k = (-1) then if k = 1 then y else 0 else if k = 1 then y else 0
theorem d_Pattern_describe {xs : jx_Xs} {m : zM} {Q : Option Value → zM → Prop} {k f x y : Int32} {r : Nat} (i_r : r < 172) (s_r : z_H r = (0, 8, 4))
    (g : Q none (jj_up (jj_up (jj_up (jj_up m r 0 k) r 1 (f_Pattern_describe_u1 m k f x y r)) r 2 (f_Pattern_describe_u2 m k f x y r)) r 3 (f_Pattern_describe_u3 m k f x y r))) : ez xs 82 0 (jx_ent 82 [.ref r, .int k, .int f, .int x, .int y]) [] m Q := by
  refine c_Pattern_describe (i_r := i_r) (s_r := s_r) (fun e0 e1 e2 => by have q_u1 : f_Pattern_describe_u1 m k f x y r = 0 := (by unfold f_Pattern_describe_u1; first | rw [if_neg e0, if_neg e1, if_neg e2] | simp only [if_neg e0, if_neg e1, if_neg e2] | simp [e0, e1, e2]); have q_u2 : f_Pattern_describe_u2 m k f x y r = x := (by unfold f_Pattern_describe_u2; first | rw [if_neg e0, if_neg e1, if_neg e2] | simp only [if_neg e0, if_neg e1, if_neg e2] | simp [e0, e1, e2]); have q_u3 : f_Pattern_describe_u3 m k f x y r = 0 := (by unfold f_Pattern_describe_u3; first | rw [if_neg e0, if_neg e1, if_neg e2] | simp only [if_neg e0, if_neg e1, if_neg e2] | simp [e0, e1, e2]); rw [q_u1, q_u2, q_u3] at g; exact g) (fun e0 e1 e2 => by have q_u1 : f_Pattern_describe_u1 m k f x y r = 0 := (by unfold f_Pattern_describe_u1; first | rw [if_neg e0, if_neg e1, if_pos e2] | simp only [if_neg e0, if_neg e1, if_pos e2] | simp [e0, e1, e2]); have q_u2 : f_Pattern_describe_u2 m k f x y r = x := (by unfold f_Pattern_describe_u2; first | rw [if_neg e0, if_neg e1, if_pos e2] | simp only [if_neg e0, if_neg e1, if_pos e2] | simp [e0, e1, e2]); have q_u3 : f_Pattern_describe_u3 m k f x y r = y := (by unfold f_Pattern_describe_u3; first | rw [if_neg e0, if_neg e1, if_pos e2] | simp only [if_neg e0, if_neg e1, if_pos e2] | simp [e0, e1, e2]); rw [q_u1, q_u2, q_u3] at g; exact g) (fun e0 e1 e2 => by have q_u1 : f_Pattern_describe_u1 m k f x y r = 0 := (by unfold f_Pattern_describe_u1; first | rw [if_neg e0, if_pos e1, if_neg e2] | simp only [if_neg e0, if_pos e1, if_neg e2] | simp [e0, e1, e2]); have q_u2 : f_Pattern_describe_u2 m k f x y r = 0 := (by unfold f_Pattern_describe_u2; first | rw [if_neg e0, if_pos e1, if_neg e2] | simp only [if_neg e0, if_pos e1, if_neg e2] | simp [e0, e1, e2]); have q_u3 : f_Pattern_describe_u3 m k f x y r = 0 := (by unfold f_Pattern_describe_u3; first | rw [if_neg e0, if_pos e1, if_neg e2] | simp only [if_neg e0, if_pos e1, if_neg e2] | simp [e0, e1, e2]); rw [q_u1, q_u2, q_u3] at g; exact g) (fun e0 e1 e2 => by have q_u1 : f_Pattern_describe_u1 m k f x y r = 0 := (by unfold f_Pattern_describe_u1; first | rw [if_neg e0, if_pos e1, if_pos e2] | simp only [if_neg e0, if_pos e1, if_pos e2] | simp [e0, e1, e2]); have q_u2 : f_Pattern_describe_u2 m k f x y r = 0 := (by unfold f_Pattern_describe_u2; first | rw [if_neg e0, if_pos e1, if_pos e2] | simp only [if_neg e0, if_pos e1, if_pos e2] | simp [e0, e1, e2]); have q_u3 : f_Pattern_describe_u3 m k f x y r = y := (by unfold f_Pattern_describe_u3; first | rw [if_neg e0, if_pos e1, if_pos e2] | simp only [if_neg e0, if_pos e1, if_pos e2] | simp [e0, e1, e2]); rw [q_u1, q_u2, q_u3] at g; exact g) (fun e0 e1 e2 => by have q_u1 : f_Pattern_describe_u1 m k f x y r = f := (by unfold f_Pattern_describe_u1; first | rw [if_pos e0, if_neg e1, if_neg e2] | simp only [if_pos e0, if_neg e1, if_neg e2] | simp [e0, e1, e2]); have q_u2 : f_Pattern_describe_u2 m k f x y r = x := (by unfold f_Pattern_describe_u2; first | rw [if_pos e0, if_neg e1, if_neg e2] | simp only [if_pos e0, if_neg e1, if_neg e2] | simp [e0, e1, e2]); have q_u3 : f_Pattern_describe_u3 m k f x y r = 0 := (by unfold f_Pattern_describe_u3; first | rw [if_pos e0, if_neg e1, if_neg e2] | simp only [if_pos e0, if_neg e1, if_neg e2] | simp [e0, e1, e2]); rw [q_u1, q_u2, q_u3] at g; exact g) (fun e0 e1 e2 => by have q_u1 : f_Pattern_describe_u1 m k f x y r = f := (by unfold f_Pattern_describe_u1; first | rw [if_pos e0, if_neg e1, if_pos e2] | simp only [if_pos e0, if_neg e1, if_pos e2] | simp [e0, e1, e2]); have q_u2 : f_Pattern_describe_u2 m k f x y r = x := (by unfold f_Pattern_describe_u2; first | rw [if_pos e0, if_neg e1, if_pos e2] | simp only [if_pos e0, if_neg e1, if_pos e2] | simp [e0, e1, e2]); have q_u3 : f_Pattern_describe_u3 m k f x y r = y := (by unfold f_Pattern_describe_u3; first | rw [if_pos e0, if_neg e1, if_pos e2] | simp only [if_pos e0, if_neg e1, if_pos e2] | simp [e0, e1, e2]); rw [q_u1, q_u2, q_u3] at g; exact g) (fun e0 e1 e2 => by have q_u1 : f_Pattern_describe_u1 m k f x y r = f := (by unfold f_Pattern_describe_u1; first | rw [if_pos e0, if_pos e1, if_neg e2] | simp only [if_pos e0, if_pos e1, if_neg e2] | simp [e0, e1, e2]); have q_u2 : f_Pattern_describe_u2 m k f x y r = 0 := (by unfold f_Pattern_describe_u2; first | rw [if_pos e0, if_pos e1, if_neg e2] | simp only [if_pos e0, if_pos e1, if_neg e2] | simp [e0, e1, e2]); have q_u3 : f_Pattern_describe_u3 m k f x y r = 0 := (by unfold f_Pattern_describe_u3; first | rw [if_pos e0, if_pos e1, if_neg e2] | simp only [if_pos e0, if_pos e1, if_neg e2] | simp [e0, e1, e2]); rw [q_u1, q_u2, q_u3] at g; exact g) (fun e0 e1 e2 => by have q_u1 : f_Pattern_describe_u1 m k f x y r = f := (by unfold f_Pattern_describe_u1; first | rw [if_pos e0, if_pos e1, if_pos e2] | simp only [if_pos e0, if_pos e1, if_pos e2] | simp [e0, e1, e2]); have q_u2 : f_Pattern_describe_u2 m k f x y r = 0 := (by unfold f_Pattern_describe_u2; first | rw [if_pos e0, if_pos e1, if_pos e2] | simp only [if_pos e0, if_pos e1, if_pos e2] | simp [e0, e1, e2]); have q_u3 : f_Pattern_describe_u3 m k f x y r = y := (by unfold f_Pattern_describe_u3; first | rw [if_pos e0, if_pos e1, if_pos e2] | simp only [if_pos e0, if_pos e1, if_pos e2] | simp [e0, e1, e2]); rw [q_u1, q_u2, q_u3] at g; exact g)
set_option maxRecDepth 100000 in
set_option maxHeartbeats 2000000 in
theorem c_Pattern_unknowns {xs : jx_Xs} {m : zM} {Q : Option Value → zM → Prop} {r : Nat} (i_r : r < 172) (s_r : z_H r = (0, 8, 4))
    (g1 : Q (some (.int (f_Pattern_unknownsIn m (m r 0) (m r 2) (m r 3)))) m) : ez xs 86 0 (jx_ent 86 [.ref r]) [] m Q := by
  refine ez_blk 1 rfl ?_
  show ez xs 86 1 [some (.ref r)] [.ref r] m Q
  refine ez_get rfl i_r s_r (by decide) rfl ?_
  show ez xs 86 4 [some (.ref r)] [.int (m r 0)] m Q
  refine ez_blk 1 rfl ?_
  show ez xs 86 5 [some (.ref r)] [.ref r, .int (m r 0)] m Q
  refine ez_get rfl i_r s_r (by decide) rfl ?_
  show ez xs 86 8 [some (.ref r)] [.int (m r 2), .int (m r 0)] m Q
  refine ez_blk 1 rfl ?_
  show ez xs 86 9 [some (.ref r)] [.ref r, .int (m r 2), .int (m r 0)] m Q
  refine ez_get rfl i_r s_r (by decide) rfl ?_
  show ez xs 86 12 [some (.ref r)] [.int (m r 3), .int (m r 2), .int (m r 0)] m Q
  refine ez_call (as := [.int (m r 0), .int (m r 2), .int (m r 3)]) (rest := []) rfl (by decide) rfl ?_
  refine d_Pattern_unknownsIn ?_
  show ez xs 86 15 [some (.ref r)] [.int (f_Pattern_unknownsIn m (m r 0) (m r 2) (m r 3))] m Q
  exact ez_ret rfl (by decide) rfl (g1)
set_option maxRecDepth 100000 in
set_option maxHeartbeats 2000000 in
theorem c_Edit_isNothing {xs : jx_Xs} {m : zM} {Q : Option Value → zM → Prop} {r : Nat} (i_r : r < 172) (s_r : z_H r = (0, 10, 4))
    (g1 : (¬ m r 3 = 0) → Q (some (.int 0)) m)
    (g2 : (m r 3 = 0) → (¬ m r 2 = 0) → Q (some (.int 0)) m)
    (g3 : (m r 3 = 0) → (m r 2 = 0) → Q (some (.int 1)) m) : ez xs 132 0 (jx_ent 132 [.ref r]) [] m Q := by
  refine ez_blk 1 rfl ?_
  show ez xs 132 1 [some (.ref r)] [.ref r] m Q
  refine ez_get rfl i_r s_r (by decide) rfl ?_
  show ez xs 132 4 [some (.ref r)] [.int (m r 3)] m Q
  refine ez_if_ne rfl (fun h1 => ?_) (fun h1 => ?_)
  · show ez xs 132 18 [some (.ref r)] [] m Q
    refine ez_blk 1 rfl ?_
    show ez xs 132 19 [some (.ref r)] [.int 0] m Q
    exact ez_ret rfl (by decide) rfl (g1 h1)
  · show ez xs 132 7 [some (.ref r)] [] m Q
    refine ez_blk 1 rfl ?_
    show ez xs 132 8 [some (.ref r)] [.ref r] m Q
    refine ez_get rfl i_r s_r (by decide) rfl ?_
    show ez xs 132 11 [some (.ref r)] [.int (m r 2)] m Q
    refine ez_if_ne rfl (fun h2 => ?_) (fun h2 => ?_)
    · show ez xs 132 18 [some (.ref r)] [] m Q
      refine ez_blk 1 rfl ?_
      show ez xs 132 19 [some (.ref r)] [.int 0] m Q
      exact ez_ret rfl (by decide) rfl (g2 h1 h2)
    · show ez xs 132 14 [some (.ref r)] [] m Q
      refine ez_blk 2 rfl ?_
      show ez xs 132 19 [some (.ref r)] [.int 1] m Q
      exact ez_ret rfl (by decide) rfl (g3 h1 h2)
def f_Edit_isNothing (m : zM) (r : Nat) : Int32 := if m r 3 = 0 then if m r 2 = 0 then 1 else 0 else 0
theorem d_Edit_isNothing {xs : jx_Xs} {m : zM} {Q : Option Value → zM → Prop} {r : Nat} (i_r : r < 172) (s_r : z_H r = (0, 10, 4))
    (g : Q (some (.int (f_Edit_isNothing m r))) m) : ez xs 132 0 (jx_ent 132 [.ref r]) [] m Q := by
  refine c_Edit_isNothing (i_r := i_r) (s_r := s_r) (fun e0 => by have q : f_Edit_isNothing m r = 0 := (by unfold f_Edit_isNothing; first | rw [if_neg e0] | simp only [if_neg e0] | simp [e0]); rw [q] at g; exact g) (fun e0 e1 => by have q : f_Edit_isNothing m r = 0 := (by unfold f_Edit_isNothing; first | rw [if_pos e0, if_neg e1] | simp only [if_pos e0, if_neg e1] | simp [e0, e1]); rw [q] at g; exact g) (fun e0 e1 => by have q : f_Edit_isNothing m r = 1 := (by unfold f_Edit_isNothing; first | rw [if_pos e0, if_pos e1] | simp only [if_pos e0, if_pos e1] | simp [e0, e1]); rw [q] at g; exact g)
set_option maxRecDepth 100000 in
set_option maxHeartbeats 2000000 in
theorem c_Edit_reset {xs : jx_Xs} {m : zM} {Q : Option Value → zM → Prop} {r : Nat} (i_r : r < 172) (s_r : z_H r = (0, 10, 4))
    (g1 : Q none (jj_up (jj_up (jj_up m r 1 0) r 2 0) r 3 0)) : ez xs 113 0 (jx_ent 113 [.ref r]) [] m Q := by
  refine ez_blk 2 rfl ?_
  show ez xs 113 2 [some (.ref r)] [.int 0, .ref r] m Q
  refine ez_put rfl i_r s_r (by decide) rfl rfl ?_
  show ez xs 113 5 [some (.ref r)] [] (jj_up m r 1 0) Q
  refine ez_blk 2 rfl ?_
  show ez xs 113 7 [some (.ref r)] [.int 0, .ref r] (jj_up m r 1 0) Q
  refine ez_put rfl i_r s_r (by decide) rfl rfl ?_
  show ez xs 113 10 [some (.ref r)] [] (jj_up (jj_up m r 1 0) r 2 0) Q
  refine ez_blk 2 rfl ?_
  show ez xs 113 12 [some (.ref r)] [.int 0, .ref r] (jj_up (jj_up m r 1 0) r 2 0) Q
  refine ez_put rfl i_r s_r (by decide) rfl rfl ?_
  show ez xs 113 15 [some (.ref r)] [] (jj_up (jj_up (jj_up m r 1 0) r 2 0) r 3 0) Q
  exact ez_ret rfl (by decide) rfl (g1)
set_option maxRecDepth 100000 in
set_option maxHeartbeats 2000000 in
theorem c_Item_edits {xs : jx_Xs} {m : zM} {Q : Option Value → zM → Prop} {r : Nat} (i_r : r < 172) (s_r : z_H r = (0, 7, 6))
    (g1 : (¬ m r 4 = 0) → Q (some (.int 1)) m)
    (g2 : (m r 4 = 0) → (m r 3 ≤ 0) → Q (some (.int 0)) m)
    (g3 : (m r 4 = 0) → (¬ m r 3 ≤ 0) → Q (some (.int 1)) m) : ez xs 123 0 (jx_ent 123 [.ref r]) [] m Q := by
  refine ez_blk 1 rfl ?_
  show ez xs 123 1 [some (.ref r)] [.ref r] m Q
  refine ez_get rfl i_r s_r (by decide) rfl ?_
  show ez xs 123 4 [some (.ref r)] [.int (m r 4)] m Q
  refine ez_if_ne rfl (fun h1 => ?_) (fun h1 => ?_)
  · show ez xs 123 14 [some (.ref r)] [] m Q
    refine ez_blk 2 rfl ?_
    show ez xs 123 19 [some (.ref r)] [.int 1] m Q
    exact ez_ret rfl (by decide) rfl (g1 h1)
  · show ez xs 123 7 [some (.ref r)] [] m Q
    refine ez_blk 1 rfl ?_
    show ez xs 123 8 [some (.ref r)] [.ref r] m Q
    refine ez_get rfl i_r s_r (by decide) rfl ?_
    show ez xs 123 11 [some (.ref r)] [.int (m r 3)] m Q
    refine ez_if_le rfl (fun h2 => ?_) (fun h2 => ?_)
    · show ez xs 123 18 [some (.ref r)] [] m Q
      refine ez_blk 1 rfl ?_
      show ez xs 123 19 [some (.ref r)] [.int 0] m Q
      exact ez_ret rfl (by decide) rfl (g2 h1 h2)
    · show ez xs 123 14 [some (.ref r)] [] m Q
      refine ez_blk 2 rfl ?_
      show ez xs 123 19 [some (.ref r)] [.int 1] m Q
      exact ez_ret rfl (by decide) rfl (g3 h1 h2)
def f_Item_edits (m : zM) (r : Nat) : Int32 := if m r 4 = 0 then if m r 3 ≤ 0 then 0 else 1 else 1
theorem d_Item_edits {xs : jx_Xs} {m : zM} {Q : Option Value → zM → Prop} {r : Nat} (i_r : r < 172) (s_r : z_H r = (0, 7, 6))
    (g : Q (some (.int (f_Item_edits m r))) m) : ez xs 123 0 (jx_ent 123 [.ref r]) [] m Q := by
  refine c_Item_edits (i_r := i_r) (s_r := s_r) (fun e0 => by have q : f_Item_edits m r = 1 := (by unfold f_Item_edits; first | rw [if_neg e0] | simp only [if_neg e0] | simp [e0]); rw [q] at g; exact g) (fun e0 e1 => by have q : f_Item_edits m r = 0 := (by unfold f_Item_edits; first | rw [if_pos e0, if_pos e1] | simp only [if_pos e0, if_pos e1] | simp [e0, e1]); rw [q] at g; exact g) (fun e0 e1 => by have q : f_Item_edits m r = 1 := (by unfold f_Item_edits; first | rw [if_pos e0, if_neg e1] | simp only [if_pos e0, if_neg e1] | simp [e0, e1]); rw [q] at g; exact g)
