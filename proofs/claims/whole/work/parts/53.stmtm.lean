/-! The reference's looks ahead. -/
theorem look_e {xs : jx_Xs} {m : zM} {Q : Option Value → zM → Prop} {t : Nat → Nat} {l : List Nat} {j : Nat} {i : Int32} (hk : tkM m t l) (hl : l.length ≤ 160) (hj : j < 1000) (hi : i = nI j)
    (g : Q (some (.int (nI (sg t l j)))) m) : ez xs 62 0 (jx_ent 62 [.ref 131, .int i]) [] m Q := by
  subst hi
  refine d_M_look (fun h => look_b1 hk hl hj h) ?_
  rw [look_at hk hl hj]
  exact g
theorem var_at {m : zM} {t : Nat → Nat} {l : List Nat} {j : Nat} (hk : tkM m t l) (ht : ∀ p ∈ l, t p ≤ 126) (hl : l.length ≤ 160) (hj : j < 1000) : f_M_variable m (nI j) = bI (decide (isV (sg t l j))) := by
  have h := sg_le ht j
  unfold f_M_variable
  rw [look_at hk hl hj]
  have e1 : nI (sg t l j) < 97 ↔ sg t l j < 97 := nI_ltI (b := 97) (by omega) (by omega)
  have e2 : 100 < nI (sg t l j) ↔ 100 < sg t l j := nI_ltI (a := 100) (by omega) (by omega)
  by_cases h1 : sg t l j < 97
  · rw [if_pos (e1.mpr h1), decide_eq_false (by unfold isV; omega)]
    rfl
  · rw [if_neg (fun q => h1 (e1.mp q))]
    by_cases h2 : 100 < sg t l j
    · rw [if_pos (e2.mpr h2), decide_eq_false (by unfold isV; omega)]
      rfl
    · rw [if_neg (fun q => h2 (e2.mp q)), decide_eq_true (by unfold isV; omega)]
      rfl
theorem fun_at {m : zM} {t : Nat → Nat} {l : List Nat} {j : Nat} (hk : tkM m t l) (ht : ∀ p ∈ l, t p ≤ 126) (hl : l.length ≤ 160) (hj : j < 1000) : f_M_function m (nI j) = bI (decide (isF (sg t l j))) := by
  have h := sg_le ht j
  unfold f_M_function
  rw [look_at hk hl hj]
  have e1 : nI (sg t l j) < 102 ↔ sg t l j < 102 := nI_ltI (b := 102) (by omega) (by omega)
  have e2 : 104 < nI (sg t l j) ↔ 104 < sg t l j := nI_ltI (a := 104) (by omega) (by omega)
  by_cases h1 : sg t l j < 102
  · rw [if_pos (e1.mpr h1), decide_eq_false (by unfold isF; omega)]
    rfl
  · rw [if_neg (fun q => h1 (e1.mp q))]
    by_cases h2 : 104 < sg t l j
    · rw [if_pos (e2.mpr h2), decide_eq_false (by unfold isF; omega)]
      rfl
    · rw [if_neg (fun q => h2 (e2.mp q)), decide_eq_true (by unfold isF; omega)]
      rfl
theorem var_e {xs : jx_Xs} {m : zM} {Q : Option Value → zM → Prop} {t : Nat → Nat} {l : List Nat} {j : Nat} {i : Int32} (hk : tkM m t l) (ht : ∀ p ∈ l, t p ≤ 126) (hl : l.length ≤ 160) (hj : j < 1000) (hi : i = nI j)
    (g : Q (some (.int (bI (decide (isV (sg t l j)))))) m) : ez xs 65 0 (jx_ent 65 [.ref 131, .int i]) [] m Q := by
  subst hi
  refine d_M_variable (fun h => look_b1 hk hl hj h) (fun _ h => look_b1 hk hl hj h) ?_
  rw [var_at hk ht hl hj]
  exact g
theorem fun_e {xs : jx_Xs} {m : zM} {Q : Option Value → zM → Prop} {t : Nat → Nat} {l : List Nat} {j : Nat} {i : Int32} (hk : tkM m t l) (ht : ∀ p ∈ l, t p ≤ 126) (hl : l.length ≤ 160) (hj : j < 1000) (hi : i = nI j)
    (g : Q (some (.int (bI (decide (isF (sg t l j)))))) m) : ez xs 67 0 (jx_ent 67 [.ref 131, .int i]) [] m Q := by
  subst hi
  refine d_M_function (fun h => look_b1 hk hl hj h) (fun _ h => look_b1 hk hl hj h) ?_
  rw [fun_at hk ht hl hj]
  exact g
/-- the end of a statement: good or not -/
theorem st_no {xs : jx_Xs} {m : zM} {Q : Option Value → zM → Prop} {i n : Int32} (g : Q (some (.int (-1))) m) : ez xs 68 339 [some (.ref 131), some (.int i), some (.int 0), some (.int n)] [] m Q := by
  refine ez_blk 1 rfl ?_
  show ez xs 68 340 [some (.ref 131), some (.int i), some (.int 0), some (.int n)] [.int 0] m Q
  refine ez_if_eq rfl (fun _ => ?_) (fun h => absurd rfl h)
  show ez xs 68 349 [some (.ref 131), some (.int i), some (.int 0), some (.int n)] [] m Q
  refine ez_blk 1 rfl ?_
  show ez xs 68 350 [some (.ref 131), some (.int i), some (.int 0), some (.int n)] [.int (-1)] m Q
  exact ez_ret rfl (by decide) rfl g
theorem st_yes {xs : jx_Xs} {m : zM} {Q : Option Value → zM → Prop} {i n : Int32} (g : Q (some (.int (i + n))) m) : ez xs 68 339 [some (.ref 131), some (.int i), some (.int 1), some (.int n)] [] m Q := by
  refine ez_blk 1 rfl ?_
  show ez xs 68 340 [some (.ref 131), some (.int i), some (.int 1), some (.int n)] [.int 1] m Q
  refine ez_if_eq rfl (fun h => absurd h (by decide)) (fun _ => ?_)
  show ez xs 68 343 [some (.ref 131), some (.int i), some (.int 1), some (.int n)] [] m Q
  refine ez_blk 4 rfl ?_
  show ez xs 68 350 [some (.ref 131), some (.int i), some (.int 1), some (.int n)] [.int (i + n)] m Q
  exact ez_ret rfl (by decide) rfl g
