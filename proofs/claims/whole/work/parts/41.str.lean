/-! The JDK's indexOf and charAt on the two texts, by program. -/
set_option maxRecDepth 100000 in
set_option maxHeartbeats 4000000 in
theorem c_String_isLatin1_0 {xs : jx_Xs} {m : zM} {Q : Option Value → zM → Prop}
    (g1 : Q (some (.int 1)) m) : ez xs 37 0 (jx_ent 37 [.ref 1000000]) [] m Q := by
  refine ez_blk 1 rfl ?_
  show ez xs 37 3 [some (.ref 1000000)] [.int 1] m Q
  refine ez_if_eq rfl (fun h => False.elim (by revert h; decide)) (fun _ => ?_)
  show ez xs 37 6 [some (.ref 1000000)] [] m Q
  refine ez_blk 2 rfl ?_
  show ez xs 37 10 [some (.ref 1000000)] [.int 0] m Q
  refine ez_if_ne rfl (fun h => False.elim (by revert h; decide)) (fun _ => ?_)
  show ez xs 37 13 [some (.ref 1000000)] [] m Q
  refine ez_blk 2 rfl ?_
  show ez xs 37 18 [some (.ref 1000000)] [.int 1] m Q
  exact ez_ret rfl (by decide) rfl (g1)
set_option maxRecDepth 100000 in
set_option maxHeartbeats 4000000 in
theorem c_String_coder_0 {xs : jx_Xs} {m : zM} {Q : Option Value → zM → Prop}
    (g1 : Q (some (.int 0)) m) : ez xs 38 0 (jx_ent 38 [.ref 1000000]) [] m Q := by
  refine ez_blk 1 rfl ?_
  show ez xs 38 3 [some (.ref 1000000)] [.int 1] m Q
  refine ez_if_eq rfl (fun h => False.elim (by revert h; decide)) (fun _ => ?_)
  show ez xs 38 6 [some (.ref 1000000)] [] m Q
  refine ez_blk 3 rfl ?_
  show ez xs 38 14 [some (.ref 1000000)] [.int 0] m Q
  exact ez_ret rfl (by decide) rfl (g1)
set_option maxRecDepth 100000 in
set_option maxHeartbeats 4000000 in
theorem c_String_length_0 {xs : jx_Xs} {m : zM} {Q : Option Value → zM → Prop}
    (g1 : Q (some (.int 4)) m) : ez xs 39 0 (jx_ent 39 [.ref 1000000]) [] m Q := by
  refine ez_blk 4 rfl ?_
  show ez xs 39 6 [some (.ref 1000000)] [.ref 1000000, .int 4] m Q
  refine ez_call (as := [.ref 1000000]) (rest := [.int 4]) rfl (by decide) rfl ?_
  refine c_String_coder_0 ?_
  show ez xs 39 9 [some (.ref 1000000)] [.int 0, .int 4] m Q
  refine ez_blk 1 rfl ?_
  show ez xs 39 10 [some (.ref 1000000)] [.int 4] m Q
  exact ez_ret rfl (by decide) rfl (g1)
set_option maxRecDepth 100000 in
set_option maxHeartbeats 4000000 in
theorem c_StringLatin1_canEncode_0 {xs : jx_Xs} {m : zM} {Q : Option Value → zM → Prop} {c : Int32}
    (g1 : (c < 0) → Q (some (.int 0)) m)
    (g2 : (¬ c < 0) → (255 < c) → Q (some (.int 0)) m)
    (g3 : (¬ c < 0) → (¬ 255 < c) → Q (some (.int 1)) m) : ez xs 40 0 (jx_ent 40 [.int c]) [] m Q := by
  refine ez_blk 1 rfl ?_
  show ez xs 40 1 [some (.int c)] [.int c] m Q
  refine ez_if_lt rfl (fun h1 => ?_) (fun h1 => ?_)
  · show ez xs 40 15 [some (.int c)] [] m Q
    refine ez_blk 1 rfl ?_
    show ez xs 40 16 [some (.int c)] [.int 0] m Q
    exact ez_ret rfl (by decide) rfl (g1 h1)
  · show ez xs 40 4 [some (.int c)] [] m Q
    refine ez_blk 2 rfl ?_
    show ez xs 40 8 [some (.int c)] [.int 255, .int c] m Q
    refine ez_icmp_gt rfl (fun h2 => ?_) (fun h2 => ?_)
    · show ez xs 40 15 [some (.int c)] [] m Q
      refine ez_blk 1 rfl ?_
      show ez xs 40 16 [some (.int c)] [.int 0] m Q
      exact ez_ret rfl (by decide) rfl (g2 h1 h2)
    · show ez xs 40 11 [some (.int c)] [] m Q
      refine ez_blk 2 rfl ?_
      show ez xs 40 16 [some (.int c)] [.int 1] m Q
      exact ez_ret rfl (by decide) rfl (g3 h1 h2)
def f_StringLatin1_canEncode_0 (m : zM) (c : Int32) : Int32 := if c < 0 then 0 else if 255 < c then 0 else 1
theorem d_StringLatin1_canEncode_0 {xs : jx_Xs} {m : zM} {Q : Option Value → zM → Prop} {c : Int32}
    (g : Q (some (.int (f_StringLatin1_canEncode_0 m c))) m) : ez xs 40 0 (jx_ent 40 [.int c]) [] m Q := by
  refine c_StringLatin1_canEncode_0 (fun e0 => by have q : f_StringLatin1_canEncode_0 m c = 0 := (by unfold f_StringLatin1_canEncode_0; first | rw [if_pos e0] | simp only [if_pos e0] | simp [e0]); rw [q] at g; exact g) (fun e0 e1 => by have q : f_StringLatin1_canEncode_0 m c = 0 := (by unfold f_StringLatin1_canEncode_0; first | rw [if_neg e0, if_pos e1] | simp only [if_neg e0, if_pos e1] | simp [e0, e1]); rw [q] at g; exact g) (fun e0 e1 => by have q : f_StringLatin1_canEncode_0 m c = 1 := (by unfold f_StringLatin1_canEncode_0; first | rw [if_neg e0, if_neg e1] | simp only [if_neg e0, if_neg e1] | simp [e0, e1]); rw [q] at g; exact g)
set_option maxRecDepth 100000 in
set_option maxHeartbeats 4000000 in
theorem c_StringLatin1_indexOfChar_0 {xs : jx_Xs} {m : zM} {Q : Option Value → zM → Prop} {c : Int32}
    (g1 : (¬ 97 = c.toInt8.toInt32) → (¬ 98 = c.toInt8.toInt32) → (¬ 99 = c.toInt8.toInt32) → (¬ 100 = c.toInt8.toInt32) → Q (some (.int (-1))) m)
    (g2 : (¬ 97 = c.toInt8.toInt32) → (¬ 98 = c.toInt8.toInt32) → (¬ 99 = c.toInt8.toInt32) → (100 = c.toInt8.toInt32) → Q (some (.int 3)) m)
    (g3 : (¬ 97 = c.toInt8.toInt32) → (¬ 98 = c.toInt8.toInt32) → (99 = c.toInt8.toInt32) → Q (some (.int 2)) m)
    (g4 : (¬ 97 = c.toInt8.toInt32) → (98 = c.toInt8.toInt32) → Q (some (.int 1)) m)
    (g5 : (97 = c.toInt8.toInt32) → Q (some (.int 0)) m) : ez xs 41 0 (jx_ent 41 [.ref 2000000, .int c, .int 0, .int 4]) [] m Q := by
  refine ez_blk 7 rfl ?_
  show ez xs 41 10 [some (.ref 2000000), some (.int c), some (.int 0), some (.int 4), some (.int c.toInt8.toInt32), some (.int 0)] [.int 4, .int 0] m Q
  refine ez_icmp_ge rfl (fun h => False.elim (by revert h; decide)) (fun _ => ?_)
  show ez xs 41 13 [some (.ref 2000000), some (.int c), some (.int 0), some (.int 4), some (.int c.toInt8.toInt32), some (.int 0)] [] m Q
  refine ez_blk 4 rfl ?_
  show ez xs 41 19 [some (.ref 2000000), some (.int c), some (.int 0), some (.int 4), some (.int c.toInt8.toInt32), some (.int 0)] [.int c.toInt8.toInt32, .int 97] m Q
  refine ez_icmp_ne rfl (fun h1 => ?_) (fun h1 => ?_)
  · show ez xs 41 25 [some (.ref 2000000), some (.int c), some (.int 0), some (.int 4), some (.int c.toInt8.toInt32), some (.int 0)] [] m Q
    refine ez_blk 4 rfl ?_
    show ez xs 41 10 [some (.ref 2000000), some (.int c), some (.int 0), some (.int 4), some (.int c.toInt8.toInt32), some (.int 1)] [.int 4, .int 1] m Q
    refine ez_icmp_ge rfl (fun h => False.elim (by revert h; decide)) (fun _ => ?_)
    show ez xs 41 13 [some (.ref 2000000), some (.int c), some (.int 0), some (.int 4), some (.int c.toInt8.toInt32), some (.int 1)] [] m Q
    refine ez_blk 4 rfl ?_
    show ez xs 41 19 [some (.ref 2000000), some (.int c), some (.int 0), some (.int 4), some (.int c.toInt8.toInt32), some (.int 1)] [.int c.toInt8.toInt32, .int 98] m Q
    refine ez_icmp_ne rfl (fun h2 => ?_) (fun h2 => ?_)
    · show ez xs 41 25 [some (.ref 2000000), some (.int c), some (.int 0), some (.int 4), some (.int c.toInt8.toInt32), some (.int 1)] [] m Q
      refine ez_blk 4 rfl ?_
      show ez xs 41 10 [some (.ref 2000000), some (.int c), some (.int 0), some (.int 4), some (.int c.toInt8.toInt32), some (.int 2)] [.int 4, .int 2] m Q
      refine ez_icmp_ge rfl (fun h => False.elim (by revert h; decide)) (fun _ => ?_)
      show ez xs 41 13 [some (.ref 2000000), some (.int c), some (.int 0), some (.int 4), some (.int c.toInt8.toInt32), some (.int 2)] [] m Q
      refine ez_blk 4 rfl ?_
      show ez xs 41 19 [some (.ref 2000000), some (.int c), some (.int 0), some (.int 4), some (.int c.toInt8.toInt32), some (.int 2)] [.int c.toInt8.toInt32, .int 99] m Q
      refine ez_icmp_ne rfl (fun h3 => ?_) (fun h3 => ?_)
      · show ez xs 41 25 [some (.ref 2000000), some (.int c), some (.int 0), some (.int 4), some (.int c.toInt8.toInt32), some (.int 2)] [] m Q
        refine ez_blk 4 rfl ?_
        show ez xs 41 10 [some (.ref 2000000), some (.int c), some (.int 0), some (.int 4), some (.int c.toInt8.toInt32), some (.int 3)] [.int 4, .int 3] m Q
        refine ez_icmp_ge rfl (fun h => False.elim (by revert h; decide)) (fun _ => ?_)
        show ez xs 41 13 [some (.ref 2000000), some (.int c), some (.int 0), some (.int 4), some (.int c.toInt8.toInt32), some (.int 3)] [] m Q
        refine ez_blk 4 rfl ?_
        show ez xs 41 19 [some (.ref 2000000), some (.int c), some (.int 0), some (.int 4), some (.int c.toInt8.toInt32), some (.int 3)] [.int c.toInt8.toInt32, .int 100] m Q
        refine ez_icmp_ne rfl (fun h4 => ?_) (fun h4 => ?_)
        · show ez xs 41 25 [some (.ref 2000000), some (.int c), some (.int 0), some (.int 4), some (.int c.toInt8.toInt32), some (.int 3)] [] m Q
          refine ez_blk 4 rfl ?_
          show ez xs 41 10 [some (.ref 2000000), some (.int c), some (.int 0), some (.int 4), some (.int c.toInt8.toInt32), some (.int 4)] [.int 4, .int 4] m Q
          refine ez_icmp_ge rfl (fun _ => ?_) (fun h => False.elim (by revert h; decide))
          show ez xs 41 31 [some (.ref 2000000), some (.int c), some (.int 0), some (.int 4), some (.int c.toInt8.toInt32), some (.int 4)] [] m Q
          refine ez_blk 1 rfl ?_
          show ez xs 41 32 [some (.ref 2000000), some (.int c), some (.int 0), some (.int 4), some (.int c.toInt8.toInt32), some (.int 4)] [.int (-1)] m Q
          exact ez_ret rfl (by decide) rfl (g1 h1 h2 h3 h4)
        · show ez xs 41 22 [some (.ref 2000000), some (.int c), some (.int 0), some (.int 4), some (.int c.toInt8.toInt32), some (.int 3)] [] m Q
          refine ez_blk 1 rfl ?_
          show ez xs 41 24 [some (.ref 2000000), some (.int c), some (.int 0), some (.int 4), some (.int c.toInt8.toInt32), some (.int 3)] [.int 3] m Q
          exact ez_ret rfl (by decide) rfl (g2 h1 h2 h3 h4)
      · show ez xs 41 22 [some (.ref 2000000), some (.int c), some (.int 0), some (.int 4), some (.int c.toInt8.toInt32), some (.int 2)] [] m Q
        refine ez_blk 1 rfl ?_
        show ez xs 41 24 [some (.ref 2000000), some (.int c), some (.int 0), some (.int 4), some (.int c.toInt8.toInt32), some (.int 2)] [.int 2] m Q
        exact ez_ret rfl (by decide) rfl (g3 h1 h2 h3)
    · show ez xs 41 22 [some (.ref 2000000), some (.int c), some (.int 0), some (.int 4), some (.int c.toInt8.toInt32), some (.int 1)] [] m Q
      refine ez_blk 1 rfl ?_
      show ez xs 41 24 [some (.ref 2000000), some (.int c), some (.int 0), some (.int 4), some (.int c.toInt8.toInt32), some (.int 1)] [.int 1] m Q
      exact ez_ret rfl (by decide) rfl (g4 h1 h2)
  · show ez xs 41 22 [some (.ref 2000000), some (.int c), some (.int 0), some (.int 4), some (.int c.toInt8.toInt32), some (.int 0)] [] m Q
    refine ez_blk 1 rfl ?_
    show ez xs 41 24 [some (.ref 2000000), some (.int c), some (.int 0), some (.int 4), some (.int c.toInt8.toInt32), some (.int 0)] [.int 0] m Q
    exact ez_ret rfl (by decide) rfl (g5 h1)
def f_StringLatin1_indexOfChar_0 (m : zM) (c : Int32) : Int32 := if 97 = c.toInt8.toInt32 then 0 else if 98 = c.toInt8.toInt32 then 1 else if 99 = c.toInt8.toInt32 then 2 else if 100 = c.toInt8.toInt32 then 3 else (-1)
theorem d_StringLatin1_indexOfChar_0 {xs : jx_Xs} {m : zM} {Q : Option Value → zM → Prop} {c : Int32}
    (g : Q (some (.int (f_StringLatin1_indexOfChar_0 m c))) m) : ez xs 41 0 (jx_ent 41 [.ref 2000000, .int c, .int 0, .int 4]) [] m Q := by
  refine c_StringLatin1_indexOfChar_0 (fun e0 e1 e2 e3 => by have q : f_StringLatin1_indexOfChar_0 m c = (-1) := (by unfold f_StringLatin1_indexOfChar_0; first | rw [if_neg e0, if_neg e1, if_neg e2, if_neg e3] | simp only [if_neg e0, if_neg e1, if_neg e2, if_neg e3] | simp [e0, e1, e2, e3]); rw [q] at g; exact g) (fun e0 e1 e2 e3 => by have q : f_StringLatin1_indexOfChar_0 m c = 3 := (by unfold f_StringLatin1_indexOfChar_0; first | rw [if_neg e0, if_neg e1, if_neg e2, if_pos e3] | simp only [if_neg e0, if_neg e1, if_neg e2, if_pos e3] | simp [e0, e1, e2, e3]); rw [q] at g; exact g) (fun e0 e1 e2 => by have q : f_StringLatin1_indexOfChar_0 m c = 2 := (by unfold f_StringLatin1_indexOfChar_0; first | rw [if_neg e0, if_neg e1, if_pos e2] | simp only [if_neg e0, if_neg e1, if_pos e2] | simp [e0, e1, e2]); rw [q] at g; exact g) (fun e0 e1 => by have q : f_StringLatin1_indexOfChar_0 m c = 1 := (by unfold f_StringLatin1_indexOfChar_0; first | rw [if_neg e0, if_pos e1] | simp only [if_neg e0, if_pos e1] | simp [e0, e1]); rw [q] at g; exact g) (fun e0 => by have q : f_StringLatin1_indexOfChar_0 m c = 0 := (by unfold f_StringLatin1_indexOfChar_0; first | rw [if_pos e0] | simp only [if_pos e0] | simp [e0]); rw [q] at g; exact g)
set_option maxRecDepth 100000 in
set_option maxHeartbeats 4000000 in
theorem c_StringLatin1_indexOf_0 {xs : jx_Xs} {m : zM} {Q : Option Value → zM → Prop} {c : Int32}
    (g1 : (¬ f_StringLatin1_canEncode_0 m c = 0) → Q (some (.int (f_StringLatin1_indexOfChar_0 m c))) m)
    (g2 : (f_StringLatin1_canEncode_0 m c = 0) → Q (some (.int (-1))) m) : ez xs 42 0 (jx_ent 42 [.ref 2000000, .int c, .int 0, .int 4]) [] m Q := by
  refine ez_blk 1 rfl ?_
  show ez xs 42 1 [some (.ref 2000000), some (.int c), some (.int 0), some (.int 4)] [.int c] m Q
  refine ez_call (as := [.int c]) (rest := []) rfl (by decide) rfl ?_
  refine d_StringLatin1_canEncode_0 ?_
  show ez xs 42 4 [some (.ref 2000000), some (.int c), some (.int 0), some (.int 4)] [.int (f_StringLatin1_canEncode_0 m c)] m Q
  refine ez_if_ne rfl (fun h1 => ?_) (fun h1 => ?_)
  · show ez xs 42 9 [some (.ref 2000000), some (.int c), some (.int 0), some (.int 4)] [] m Q
    refine ez_blk 11 rfl ?_
    show ez xs 42 24 [some (.ref 2000000), some (.int c), some (.int 0), some (.int 4)] [.int 4, .int 0] m Q
    refine ez_icmp_lt rfl (fun _ => ?_) (fun h => False.elim (by revert h; decide))
    show ez xs 42 29 [some (.ref 2000000), some (.int c), some (.int 0), some (.int 4)] [] m Q
    refine ez_blk 4 rfl ?_
    show ez xs 42 33 [some (.ref 2000000), some (.int c), some (.int 0), some (.int 4)] [.int 4, .int 0, .int c, .ref 2000000] m Q
    refine ez_call (as := [.ref 2000000, .int c, .int 0, .int 4]) (rest := []) rfl (by decide) rfl ?_
    refine d_StringLatin1_indexOfChar_0 ?_
    show ez xs 42 36 [some (.ref 2000000), some (.int c), some (.int 0), some (.int 4)] [.int (f_StringLatin1_indexOfChar_0 m c)] m Q
    exact ez_ret rfl (by decide) rfl (g1 h1)
  · show ez xs 42 7 [some (.ref 2000000), some (.int c), some (.int 0), some (.int 4)] [] m Q
    refine ez_blk 1 rfl ?_
    show ez xs 42 8 [some (.ref 2000000), some (.int c), some (.int 0), some (.int 4)] [.int (-1)] m Q
    exact ez_ret rfl (by decide) rfl (g2 h1)
def f_StringLatin1_indexOf_0 (m : zM) (c : Int32) : Int32 := if f_StringLatin1_canEncode_0 m c = 0 then (-1) else (f_StringLatin1_indexOfChar_0 m c)
theorem d_StringLatin1_indexOf_0 {xs : jx_Xs} {m : zM} {Q : Option Value → zM → Prop} {c : Int32}
    (g : Q (some (.int (f_StringLatin1_indexOf_0 m c))) m) : ez xs 42 0 (jx_ent 42 [.ref 2000000, .int c, .int 0, .int 4]) [] m Q := by
  refine c_StringLatin1_indexOf_0 (fun e0 => by have q : f_StringLatin1_indexOf_0 m c = (f_StringLatin1_indexOfChar_0 m c) := (by unfold f_StringLatin1_indexOf_0; first | rw [if_neg e0] | simp only [if_neg e0] | simp [e0]); rw [q] at g; exact g) (fun e0 => by have q : f_StringLatin1_indexOf_0 m c = (-1) := (by unfold f_StringLatin1_indexOf_0; first | rw [if_pos e0] | simp only [if_pos e0] | simp [e0]); rw [q] at g; exact g)
set_option maxRecDepth 100000 in
set_option maxHeartbeats 4000000 in
theorem c_String_indexOf1_0 {xs : jx_Xs} {m : zM} {Q : Option Value → zM → Prop} {c : Int32}
    (g1 : Q (some (.int (f_StringLatin1_indexOf_0 m c))) m) : ez xs 43 0 (jx_ent 43 [.ref 1000000, .int c, .int 0]) [] m Q := by
  refine ez_blk 1 rfl ?_
  show ez xs 43 1 [some (.ref 1000000), some (.int c), some (.int 0)] [.ref 1000000] m Q
  refine ez_call (as := [.ref 1000000]) (rest := []) rfl (by decide) rfl ?_
  refine c_String_isLatin1_0 ?_
  show ez xs 43 4 [some (.ref 1000000), some (.int c), some (.int 0)] [.int 1] m Q
  refine ez_if_eq rfl (fun h => False.elim (by revert h; decide)) (fun _ => ?_)
  show ez xs 43 7 [some (.ref 1000000), some (.int c), some (.int 0)] [] m Q
  refine ez_blk 5 rfl ?_
  show ez xs 43 14 [some (.ref 1000000), some (.int c), some (.int 0)] [.ref 1000000, .int 0, .int c, .ref 2000000] m Q
  refine ez_call (as := [.ref 1000000]) (rest := [.int 0, .int c, .ref 2000000]) rfl (by decide) rfl ?_
  refine c_String_length_0 ?_
  show ez xs 43 17 [some (.ref 1000000), some (.int c), some (.int 0)] [.int 4, .int 0, .int c, .ref 2000000] m Q
  refine ez_call (as := [.ref 2000000, .int c, .int 0, .int 4]) (rest := []) rfl (by decide) rfl ?_
  refine d_StringLatin1_indexOf_0 ?_
  show ez xs 43 20 [some (.ref 1000000), some (.int c), some (.int 0)] [.int (f_StringLatin1_indexOf_0 m c)] m Q
  refine ez_blk 1 rfl ?_
  show ez xs 43 36 [some (.ref 1000000), some (.int c), some (.int 0)] [.int (f_StringLatin1_indexOf_0 m c)] m Q
  exact ez_ret rfl (by decide) rfl (g1)
set_option maxRecDepth 100000 in
set_option maxHeartbeats 4000000 in
theorem c_String_indexOf2_0 {xs : jx_Xs} {m : zM} {Q : Option Value → zM → Prop} {c : Int32}
    (g1 : Q (some (.int (f_StringLatin1_indexOf_0 m c))) m) : ez xs 44 0 (jx_ent 44 [.ref 1000000, .int c]) [] m Q := by
  refine ez_blk 3 rfl ?_
  show ez xs 44 3 [some (.ref 1000000), some (.int c)] [.int 0, .int c, .ref 1000000] m Q
  refine ez_call (as := [.ref 1000000, .int c, .int 0]) (rest := []) rfl (by decide) rfl ?_
  refine c_String_indexOf1_0 ?_
  show ez xs 44 6 [some (.ref 1000000), some (.int c)] [.int (f_StringLatin1_indexOf_0 m c)] m Q
  exact ez_ret rfl (by decide) rfl (g1)
set_option maxRecDepth 100000 in
set_option maxHeartbeats 4000000 in
theorem c_String_isLatin1_1 {xs : jx_Xs} {m : zM} {Q : Option Value → zM → Prop}
    (g1 : Q (some (.int 1)) m) : ez xs 37 0 (jx_ent 37 [.ref 1000001]) [] m Q := by
  refine ez_blk 1 rfl ?_
  show ez xs 37 3 [some (.ref 1000001)] [.int 1] m Q
  refine ez_if_eq rfl (fun h => False.elim (by revert h; decide)) (fun _ => ?_)
  show ez xs 37 6 [some (.ref 1000001)] [] m Q
  refine ez_blk 2 rfl ?_
  show ez xs 37 10 [some (.ref 1000001)] [.int 0] m Q
  refine ez_if_ne rfl (fun h => False.elim (by revert h; decide)) (fun _ => ?_)
  show ez xs 37 13 [some (.ref 1000001)] [] m Q
  refine ez_blk 2 rfl ?_
  show ez xs 37 18 [some (.ref 1000001)] [.int 1] m Q
  exact ez_ret rfl (by decide) rfl (g1)
set_option maxRecDepth 100000 in
set_option maxHeartbeats 4000000 in
theorem c_String_coder_1 {xs : jx_Xs} {m : zM} {Q : Option Value → zM → Prop}
    (g1 : Q (some (.int 0)) m) : ez xs 38 0 (jx_ent 38 [.ref 1000001]) [] m Q := by
  refine ez_blk 1 rfl ?_
  show ez xs 38 3 [some (.ref 1000001)] [.int 1] m Q
  refine ez_if_eq rfl (fun h => False.elim (by revert h; decide)) (fun _ => ?_)
  show ez xs 38 6 [some (.ref 1000001)] [] m Q
  refine ez_blk 3 rfl ?_
  show ez xs 38 14 [some (.ref 1000001)] [.int 0] m Q
  exact ez_ret rfl (by decide) rfl (g1)
set_option maxRecDepth 100000 in
set_option maxHeartbeats 4000000 in
theorem c_String_length_1 {xs : jx_Xs} {m : zM} {Q : Option Value → zM → Prop}
    (g1 : Q (some (.int 3)) m) : ez xs 39 0 (jx_ent 39 [.ref 1000001]) [] m Q := by
  refine ez_blk 4 rfl ?_
  show ez xs 39 6 [some (.ref 1000001)] [.ref 1000001, .int 3] m Q
  refine ez_call (as := [.ref 1000001]) (rest := [.int 3]) rfl (by decide) rfl ?_
  refine c_String_coder_1 ?_
  show ez xs 39 9 [some (.ref 1000001)] [.int 0, .int 3] m Q
  refine ez_blk 1 rfl ?_
  show ez xs 39 10 [some (.ref 1000001)] [.int 3] m Q
  exact ez_ret rfl (by decide) rfl (g1)
set_option maxRecDepth 100000 in
set_option maxHeartbeats 4000000 in
theorem c_StringLatin1_indexOfChar_1 {xs : jx_Xs} {m : zM} {Q : Option Value → zM → Prop} {c : Int32}
    (g1 : (¬ 102 = c.toInt8.toInt32) → (¬ 103 = c.toInt8.toInt32) → (¬ 104 = c.toInt8.toInt32) → Q (some (.int (-1))) m)
    (g2 : (¬ 102 = c.toInt8.toInt32) → (¬ 103 = c.toInt8.toInt32) → (104 = c.toInt8.toInt32) → Q (some (.int 2)) m)
    (g3 : (¬ 102 = c.toInt8.toInt32) → (103 = c.toInt8.toInt32) → Q (some (.int 1)) m)
    (g4 : (102 = c.toInt8.toInt32) → Q (some (.int 0)) m) : ez xs 41 0 (jx_ent 41 [.ref 2000001, .int c, .int 0, .int 3]) [] m Q := by
  refine ez_blk 7 rfl ?_
  show ez xs 41 10 [some (.ref 2000001), some (.int c), some (.int 0), some (.int 3), some (.int c.toInt8.toInt32), some (.int 0)] [.int 3, .int 0] m Q
  refine ez_icmp_ge rfl (fun h => False.elim (by revert h; decide)) (fun _ => ?_)
  show ez xs 41 13 [some (.ref 2000001), some (.int c), some (.int 0), some (.int 3), some (.int c.toInt8.toInt32), some (.int 0)] [] m Q
  refine ez_blk 4 rfl ?_
  show ez xs 41 19 [some (.ref 2000001), some (.int c), some (.int 0), some (.int 3), some (.int c.toInt8.toInt32), some (.int 0)] [.int c.toInt8.toInt32, .int 102] m Q
  refine ez_icmp_ne rfl (fun h1 => ?_) (fun h1 => ?_)
  · show ez xs 41 25 [some (.ref 2000001), some (.int c), some (.int 0), some (.int 3), some (.int c.toInt8.toInt32), some (.int 0)] [] m Q
    refine ez_blk 4 rfl ?_
    show ez xs 41 10 [some (.ref 2000001), some (.int c), some (.int 0), some (.int 3), some (.int c.toInt8.toInt32), some (.int 1)] [.int 3, .int 1] m Q
    refine ez_icmp_ge rfl (fun h => False.elim (by revert h; decide)) (fun _ => ?_)
    show ez xs 41 13 [some (.ref 2000001), some (.int c), some (.int 0), some (.int 3), some (.int c.toInt8.toInt32), some (.int 1)] [] m Q
    refine ez_blk 4 rfl ?_
    show ez xs 41 19 [some (.ref 2000001), some (.int c), some (.int 0), some (.int 3), some (.int c.toInt8.toInt32), some (.int 1)] [.int c.toInt8.toInt32, .int 103] m Q
    refine ez_icmp_ne rfl (fun h2 => ?_) (fun h2 => ?_)
    · show ez xs 41 25 [some (.ref 2000001), some (.int c), some (.int 0), some (.int 3), some (.int c.toInt8.toInt32), some (.int 1)] [] m Q
      refine ez_blk 4 rfl ?_
      show ez xs 41 10 [some (.ref 2000001), some (.int c), some (.int 0), some (.int 3), some (.int c.toInt8.toInt32), some (.int 2)] [.int 3, .int 2] m Q
      refine ez_icmp_ge rfl (fun h => False.elim (by revert h; decide)) (fun _ => ?_)
      show ez xs 41 13 [some (.ref 2000001), some (.int c), some (.int 0), some (.int 3), some (.int c.toInt8.toInt32), some (.int 2)] [] m Q
      refine ez_blk 4 rfl ?_
      show ez xs 41 19 [some (.ref 2000001), some (.int c), some (.int 0), some (.int 3), some (.int c.toInt8.toInt32), some (.int 2)] [.int c.toInt8.toInt32, .int 104] m Q
      refine ez_icmp_ne rfl (fun h3 => ?_) (fun h3 => ?_)
      · show ez xs 41 25 [some (.ref 2000001), some (.int c), some (.int 0), some (.int 3), some (.int c.toInt8.toInt32), some (.int 2)] [] m Q
        refine ez_blk 4 rfl ?_
        show ez xs 41 10 [some (.ref 2000001), some (.int c), some (.int 0), some (.int 3), some (.int c.toInt8.toInt32), some (.int 3)] [.int 3, .int 3] m Q
        refine ez_icmp_ge rfl (fun _ => ?_) (fun h => False.elim (by revert h; decide))
        show ez xs 41 31 [some (.ref 2000001), some (.int c), some (.int 0), some (.int 3), some (.int c.toInt8.toInt32), some (.int 3)] [] m Q
        refine ez_blk 1 rfl ?_
        show ez xs 41 32 [some (.ref 2000001), some (.int c), some (.int 0), some (.int 3), some (.int c.toInt8.toInt32), some (.int 3)] [.int (-1)] m Q
        exact ez_ret rfl (by decide) rfl (g1 h1 h2 h3)
      · show ez xs 41 22 [some (.ref 2000001), some (.int c), some (.int 0), some (.int 3), some (.int c.toInt8.toInt32), some (.int 2)] [] m Q
        refine ez_blk 1 rfl ?_
        show ez xs 41 24 [some (.ref 2000001), some (.int c), some (.int 0), some (.int 3), some (.int c.toInt8.toInt32), some (.int 2)] [.int 2] m Q
        exact ez_ret rfl (by decide) rfl (g2 h1 h2 h3)
    · show ez xs 41 22 [some (.ref 2000001), some (.int c), some (.int 0), some (.int 3), some (.int c.toInt8.toInt32), some (.int 1)] [] m Q
      refine ez_blk 1 rfl ?_
      show ez xs 41 24 [some (.ref 2000001), some (.int c), some (.int 0), some (.int 3), some (.int c.toInt8.toInt32), some (.int 1)] [.int 1] m Q
      exact ez_ret rfl (by decide) rfl (g3 h1 h2)
  · show ez xs 41 22 [some (.ref 2000001), some (.int c), some (.int 0), some (.int 3), some (.int c.toInt8.toInt32), some (.int 0)] [] m Q
    refine ez_blk 1 rfl ?_
    show ez xs 41 24 [some (.ref 2000001), some (.int c), some (.int 0), some (.int 3), some (.int c.toInt8.toInt32), some (.int 0)] [.int 0] m Q
    exact ez_ret rfl (by decide) rfl (g4 h1)
def f_StringLatin1_indexOfChar_1 (m : zM) (c : Int32) : Int32 := if 102 = c.toInt8.toInt32 then 0 else if 103 = c.toInt8.toInt32 then 1 else if 104 = c.toInt8.toInt32 then 2 else (-1)
theorem d_StringLatin1_indexOfChar_1 {xs : jx_Xs} {m : zM} {Q : Option Value → zM → Prop} {c : Int32}
    (g : Q (some (.int (f_StringLatin1_indexOfChar_1 m c))) m) : ez xs 41 0 (jx_ent 41 [.ref 2000001, .int c, .int 0, .int 3]) [] m Q := by
  refine c_StringLatin1_indexOfChar_1 (fun e0 e1 e2 => by have q : f_StringLatin1_indexOfChar_1 m c = (-1) := (by unfold f_StringLatin1_indexOfChar_1; first | rw [if_neg e0, if_neg e1, if_neg e2] | simp only [if_neg e0, if_neg e1, if_neg e2] | simp [e0, e1, e2]); rw [q] at g; exact g) (fun e0 e1 e2 => by have q : f_StringLatin1_indexOfChar_1 m c = 2 := (by unfold f_StringLatin1_indexOfChar_1; first | rw [if_neg e0, if_neg e1, if_pos e2] | simp only [if_neg e0, if_neg e1, if_pos e2] | simp [e0, e1, e2]); rw [q] at g; exact g) (fun e0 e1 => by have q : f_StringLatin1_indexOfChar_1 m c = 1 := (by unfold f_StringLatin1_indexOfChar_1; first | rw [if_neg e0, if_pos e1] | simp only [if_neg e0, if_pos e1] | simp [e0, e1]); rw [q] at g; exact g) (fun e0 => by have q : f_StringLatin1_indexOfChar_1 m c = 0 := (by unfold f_StringLatin1_indexOfChar_1; first | rw [if_pos e0] | simp only [if_pos e0] | simp [e0]); rw [q] at g; exact g)
set_option maxRecDepth 100000 in
set_option maxHeartbeats 4000000 in
theorem c_StringLatin1_indexOf_1 {xs : jx_Xs} {m : zM} {Q : Option Value → zM → Prop} {c : Int32}
    (g1 : (¬ f_StringLatin1_canEncode_0 m c = 0) → Q (some (.int (f_StringLatin1_indexOfChar_1 m c))) m)
    (g2 : (f_StringLatin1_canEncode_0 m c = 0) → Q (some (.int (-1))) m) : ez xs 42 0 (jx_ent 42 [.ref 2000001, .int c, .int 0, .int 3]) [] m Q := by
  refine ez_blk 1 rfl ?_
  show ez xs 42 1 [some (.ref 2000001), some (.int c), some (.int 0), some (.int 3)] [.int c] m Q
  refine ez_call (as := [.int c]) (rest := []) rfl (by decide) rfl ?_
  refine d_StringLatin1_canEncode_0 ?_
  show ez xs 42 4 [some (.ref 2000001), some (.int c), some (.int 0), some (.int 3)] [.int (f_StringLatin1_canEncode_0 m c)] m Q
  refine ez_if_ne rfl (fun h1 => ?_) (fun h1 => ?_)
  · show ez xs 42 9 [some (.ref 2000001), some (.int c), some (.int 0), some (.int 3)] [] m Q
    refine ez_blk 11 rfl ?_
    show ez xs 42 24 [some (.ref 2000001), some (.int c), some (.int 0), some (.int 3)] [.int 3, .int 0] m Q
    refine ez_icmp_lt rfl (fun _ => ?_) (fun h => False.elim (by revert h; decide))
    show ez xs 42 29 [some (.ref 2000001), some (.int c), some (.int 0), some (.int 3)] [] m Q
    refine ez_blk 4 rfl ?_
    show ez xs 42 33 [some (.ref 2000001), some (.int c), some (.int 0), some (.int 3)] [.int 3, .int 0, .int c, .ref 2000001] m Q
    refine ez_call (as := [.ref 2000001, .int c, .int 0, .int 3]) (rest := []) rfl (by decide) rfl ?_
    refine d_StringLatin1_indexOfChar_1 ?_
    show ez xs 42 36 [some (.ref 2000001), some (.int c), some (.int 0), some (.int 3)] [.int (f_StringLatin1_indexOfChar_1 m c)] m Q
    exact ez_ret rfl (by decide) rfl (g1 h1)
  · show ez xs 42 7 [some (.ref 2000001), some (.int c), some (.int 0), some (.int 3)] [] m Q
    refine ez_blk 1 rfl ?_
    show ez xs 42 8 [some (.ref 2000001), some (.int c), some (.int 0), some (.int 3)] [.int (-1)] m Q
    exact ez_ret rfl (by decide) rfl (g2 h1)
def f_StringLatin1_indexOf_1 (m : zM) (c : Int32) : Int32 := if f_StringLatin1_canEncode_0 m c = 0 then (-1) else (f_StringLatin1_indexOfChar_1 m c)
theorem d_StringLatin1_indexOf_1 {xs : jx_Xs} {m : zM} {Q : Option Value → zM → Prop} {c : Int32}
    (g : Q (some (.int (f_StringLatin1_indexOf_1 m c))) m) : ez xs 42 0 (jx_ent 42 [.ref 2000001, .int c, .int 0, .int 3]) [] m Q := by
  refine c_StringLatin1_indexOf_1 (fun e0 => by have q : f_StringLatin1_indexOf_1 m c = (f_StringLatin1_indexOfChar_1 m c) := (by unfold f_StringLatin1_indexOf_1; first | rw [if_neg e0] | simp only [if_neg e0] | simp [e0]); rw [q] at g; exact g) (fun e0 => by have q : f_StringLatin1_indexOf_1 m c = (-1) := (by unfold f_StringLatin1_indexOf_1; first | rw [if_pos e0] | simp only [if_pos e0] | simp [e0]); rw [q] at g; exact g)
set_option maxRecDepth 100000 in
set_option maxHeartbeats 4000000 in
theorem c_String_indexOf1_1 {xs : jx_Xs} {m : zM} {Q : Option Value → zM → Prop} {c : Int32}
    (g1 : Q (some (.int (f_StringLatin1_indexOf_1 m c))) m) : ez xs 43 0 (jx_ent 43 [.ref 1000001, .int c, .int 0]) [] m Q := by
  refine ez_blk 1 rfl ?_
  show ez xs 43 1 [some (.ref 1000001), some (.int c), some (.int 0)] [.ref 1000001] m Q
  refine ez_call (as := [.ref 1000001]) (rest := []) rfl (by decide) rfl ?_
  refine c_String_isLatin1_1 ?_
  show ez xs 43 4 [some (.ref 1000001), some (.int c), some (.int 0)] [.int 1] m Q
  refine ez_if_eq rfl (fun h => False.elim (by revert h; decide)) (fun _ => ?_)
  show ez xs 43 7 [some (.ref 1000001), some (.int c), some (.int 0)] [] m Q
  refine ez_blk 5 rfl ?_
  show ez xs 43 14 [some (.ref 1000001), some (.int c), some (.int 0)] [.ref 1000001, .int 0, .int c, .ref 2000001] m Q
  refine ez_call (as := [.ref 1000001]) (rest := [.int 0, .int c, .ref 2000001]) rfl (by decide) rfl ?_
  refine c_String_length_1 ?_
  show ez xs 43 17 [some (.ref 1000001), some (.int c), some (.int 0)] [.int 3, .int 0, .int c, .ref 2000001] m Q
  refine ez_call (as := [.ref 2000001, .int c, .int 0, .int 3]) (rest := []) rfl (by decide) rfl ?_
  refine d_StringLatin1_indexOf_1 ?_
  show ez xs 43 20 [some (.ref 1000001), some (.int c), some (.int 0)] [.int (f_StringLatin1_indexOf_1 m c)] m Q
  refine ez_blk 1 rfl ?_
  show ez xs 43 36 [some (.ref 1000001), some (.int c), some (.int 0)] [.int (f_StringLatin1_indexOf_1 m c)] m Q
  exact ez_ret rfl (by decide) rfl (g1)
set_option maxRecDepth 100000 in
set_option maxHeartbeats 4000000 in
theorem c_String_indexOf2_1 {xs : jx_Xs} {m : zM} {Q : Option Value → zM → Prop} {c : Int32}
    (g1 : Q (some (.int (f_StringLatin1_indexOf_1 m c))) m) : ez xs 44 0 (jx_ent 44 [.ref 1000001, .int c]) [] m Q := by
  refine ez_blk 3 rfl ?_
  show ez xs 44 3 [some (.ref 1000001), some (.int c)] [.int 0, .int c, .ref 1000001] m Q
  refine ez_call (as := [.ref 1000001, .int c, .int 0]) (rest := []) rfl (by decide) rfl ?_
  refine c_String_indexOf1_1 ?_
  show ez xs 44 6 [some (.ref 1000001), some (.int c)] [.int (f_StringLatin1_indexOf_1 m c)] m Q
  exact ez_ret rfl (by decide) rfl (g1)
