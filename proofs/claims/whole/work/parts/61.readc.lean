/-! The class's reading, whole. -/
def p0 : pS := (0, 0, 0, fun _ => -1, fun _ => 0, fun _ => -1, fun _ _ => 0)
/-- the parse of the text of n signs t -/
def pParse (t : Nat → Nat) (n : Nat) : Option pS := if (tk t n).1 = true then none else pOk (tk t n).2.length (pRun t (tk t n).2 160 p0)
def frR (m M : zM) : Prop := ∀ a b, ¬ (a = 3 ∧ b = 1) → ¬ (5 ≤ a ∧ a ≤ 28) → ¬ (a = 29 ∧ (b = 5 ∨ b = 6)) → ¬ (30 ≤ a ∧ a ≤ 35) → M a b = m a b
theorem p0_I (N : Nat) : pI N p0 := ⟨Nat.zero_le _, Nat.zero_le _, Nat.zero_le _, rfl, fun d h1 h2 => absurd h2 (by show ¬ d ≤ 0; omega), fun _ _ => Or.inl rfl, fun _ _ => Or.inl rfl⟩
theorem h_Parser_read {xs : jx_Xs} {m : zM} {Q : Option Value → zM → Prop} {n : Nat} {t : Nat → Nat} (hok : txOk n t) (hx : txC m n t)
    (g0 : pParse t n = none → ∀ M, frR m M → Q (some (.int 0)) M)
    (g : ∀ s', pParse t n = some s' → ∀ M, pC M s' → pI (tk t n).2.length s' → frR m M → Q (some (.int 1)) M) : ez xs 54 0 (jx_ent 54 [.ref 29, .ref 1]) [] m Q := by
  have hn := hok.1
  have hl : (tk t n).2.length ≤ 160 := Nat.le_trans (tk_len t n) hn
  have ht : ∀ p ∈ (tk t n).2, t p ≤ 126 := fun p hp => (hok.2 p (tk_lt t n p hp)).2
  refine ez_blk 2 rfl ?_
  show ez xs 54 4 [some (.ref 29), some (.ref 1), none, none, none] [.ref 3] m Q
  refine ez_call (as := [.ref 3]) (rest := []) rfl (by decide) rfl ?_
  refine c_Program_empty ?_
  show ez xs 54 7 [some (.ref 29), some (.ref 1), none, none, none] [] (jj_up m 3 1 0) Q
  refine ez_blk 10 rfl ?_
  show ez xs 54 23 [some (.ref 29), some (.ref 1), none, none, none] [.int (-1), .int (nI 0), .ref 33] (jj_up (jj_up (jj_up m 3 1 0) 29 6 0) 29 5 0) Q
  refine ez_iastv rfl (by decide) rfl (vp_in_nI (by omega) (by omega)) ?_
  show ez xs 54 24 [some (.ref 29), some (.ref 1), none, none, none] [] (jj_up (jj_up (jj_up (jj_up m 3 1 0) 29 6 0) 29 5 0) 33 0 (-1)) Q
  refine ez_blk 4 rfl ?_
  show ez xs 54 30 [some (.ref 29), some (.ref 1), none, none, none] [.int 0, .int (nI 0), .ref 34] (jj_up (jj_up (jj_up (jj_up m 3 1 0) 29 6 0) 29 5 0) 33 0 (-1)) Q
  refine ez_iastv rfl (by decide) rfl (vp_in_nI (by omega) (by omega)) ?_
  show ez xs 54 31 [some (.ref 29), some (.ref 1), none, none, none] [] (jj_up (jj_up (jj_up (jj_up (jj_up m 3 1 0) 29 6 0) 29 5 0) 33 0 (-1)) 34 0 0) Q
  refine ez_blk 4 rfl ?_
  show ez xs 54 37 [some (.ref 29), some (.ref 1), none, none, none] [.int (-1), .int (nI 0), .ref 35] (jj_up (jj_up (jj_up (jj_up (jj_up m 3 1 0) 29 6 0) 29 5 0) 33 0 (-1)) 34 0 0) Q
  refine ez_iastv rfl (by decide) rfl (vp_in_nI (by omega) (by omega)) ?_
  have hS : ∀ a b, ¬ (a = 3 ∧ b = 1) → ¬ (a = 29 ∧ (b = 5 ∨ b = 6)) → ¬ (33 ≤ a ∧ a ≤ 35) → jj_up (jj_up (jj_up (jj_up (jj_up (jj_up m 3 1 0) 29 6 0) 29 5 0) 33 0 (-1)) 34 0 0) 35 0 (-1) a b = m a b := fun a b q1 q2 q3 => by
    rw [up_ne2 (by omega), up_ne2 (by omega), up_ne2 (by omega), up_ne2 (by omega), up_ne2 (by omega), up_ne2 (by omega)]
  have c0 : pC (jj_up (jj_up (jj_up (jj_up (jj_up (jj_up m 3 1 0) 29 6 0) 29 5 0) 33 0 (-1)) 34 0 0) 35 0 (-1)) p0 := by
    refine ⟨?_, ?_, ?_, fun d hd => ?_, fun i hi => absurd hi (Nat.not_lt_zero _)⟩
    · simp (disch := omega) only [up_ne, up_k, up_eq]; rfl
    · simp (disch := omega) only [up_ne, up_k, up_eq]; rfl
    · simp (disch := omega) only [up_ne, up_k, up_eq]; rfl
    · have hd : d = 0 := Nat.le_zero.mp hd
      subst hd
      refine ⟨?_, ?_, ?_⟩
      · simp (disch := omega) only [up_ne, up_k, up_eq]; rfl
      · simp (disch := omega) only [up_ne, up_k, up_eq]; rfl
      · simp (disch := omega) only [up_ne, up_k, up_eq]; rfl
  show ez xs 54 38 [some (.ref 29), some (.ref 1), none, none, none] [] (jj_up (jj_up (jj_up (jj_up (jj_up (jj_up m 3 1 0) 29 6 0) 29 5 0) 33 0 (-1)) 34 0 0) 35 0 (-1)) Q
  generalize jj_up (jj_up (jj_up (jj_up (jj_up (jj_up m 3 1 0) 29 6 0) 29 5 0) 33 0 (-1)) 34 0 0) 35 0 (-1) = S at hS c0
  have hxS : txC S n t := ⟨by rw [hS 1 1 (by omega) (by omega) (by omega)]; exact hx.1, fun j hj => by rw [hS 2 j (by omega) (by omega) (by omega)]; exact hx.2 j hj⟩
  refine ez_blk 3 rfl ?_
  show ez xs 54 43 [some (.ref 29), some (.ref 1), none, none, none] [.ref 1, .ref 30] S Q
  refine ez_call (as := [.ref 30, .ref 1]) (rest := []) rfl (by decide) rfl ?_
  refine h_Tokens_scan hok hxS (fun M hM hF => ?_)
  have hR : frR m M := fun a b q1 q2 q3 q4 => by
    rw [hF a b (by omega) (by omega) (by omega)]
    exact hS a b q1 q3 (by omega)
  have cM : pC M p0 := by
    obtain ⟨c1, c2, c3, c4, -⟩ := c0
    refine ⟨?_, ?_, ?_, fun d hd => ?_, fun i hi => absurd hi (Nat.not_lt_zero _)⟩
    · rw [hF 29 6 (by omega) (by omega) (by omega)]; exact c1
    · rw [hF 29 5 (by omega) (by omega) (by omega)]; exact c2
    · rw [hF 3 1 (by omega) (by omega) (by omega)]; exact c3
    · rw [hF 33 d (by omega) (by omega) (by omega), hF 34 d (by omega) (by omega) (by omega), hF 35 d (by omega) (by omega) (by omega)]; exact c4 d hd
  show ez xs 54 46 [some (.ref 29), some (.ref 1), none, none, none] [.int (bI (!(tk t n).1))] M Q
  cases hb : (tk t n).1
  case true =>
    refine ez_if_ne rfl (fun h => absurd rfl h) (fun _ => ?_)
    show ez xs 54 49 [some (.ref 29), some (.ref 1), none, none, none] [] M Q
    refine ez_blk 1 rfl ?_
    show ez xs 54 50 [some (.ref 29), some (.ref 1), none, none, none] [.int 0] M Q
    exact ez_ret rfl (by decide) rfl (g0 (by unfold pParse; rw [if_pos hb]) M hR)
  have e : pParse t n = pOk (tk t n).2.length (pRun t (tk t n).2 160 p0) := by unfold pParse; rw [if_neg (by rw [hb]; decide)]
  rw [e] at g0 g
  refine ez_if_ne rfl (fun _ => ?_) (fun h => absurd h (by decide))
  show ez xs 54 51 [some (.ref 29), some (.ref 1), none, none, none] [] M Q
  refine ez_blk 4 rfl ?_
  have tr : ∀ N, frC M N → frR m N := fun N h a b q1 q2 q3 q4 => (h a b q1 q2 q3 (by omega)).trans (hR a b q1 q2 q3 q4)
  exact rd_loop ht hl 160 0 p0 M none (by omega) hM (p0_I _) cM (fun q N h => g0 q N (tr N h)) (fun s' q N h1 h2 h3 => g s' q N h1 h2 (tr N h3))
