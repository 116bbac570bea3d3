/-! More rules: branches, the script. -/
section EZ3
variable {xs : jx_Xs} {y pc a b d tgt : Nat} {c x v : Int32} {L : jx_L} {st r : List Value} {m : zM} {Q : Option Value → zM → Prop}
theorem ez_if_eq (ho : jx_op y pc = some (30, tgt, b, d, c)) (gt : x = 0 → ez xs y tgt L r m Q) (gf : ¬ x = 0 → ez xs y (pc + 3) L r m Q) : ez xs y pc L (.int x :: r) m Q := by
  by_cases h : x = 0
  · refine ez_st (m' := m) (pc' := tgt) (L' := L) (st' := r) ?_ (gt h)
    unfold jx_st
    rw [ho]
    show (if 30 < 72 then jx_br1 (fun x => decide (x = 0)) pc tgt b d c L (.int x :: r) (z_S m) else none) = _
    rw [if_pos (by decide)]
    unfold jx_br1
    dsimp only
    rw [if_pos (decide_eq_true h)]
    rfl
  · refine ez_st (m' := m) (pc' := pc + 3) (L' := L) (st' := r) ?_ (gf h)
    unfold jx_st
    rw [ho]
    show (if 30 < 72 then jx_br1 (fun x => decide (x = 0)) pc tgt b d c L (.int x :: r) (z_S m) else none) = _
    rw [if_pos (by decide)]
    unfold jx_br1
    dsimp only
    rw [if_neg (fun h1 => h (of_decide_eq_true h1))]
    rfl
theorem ez_icmp_eq (ho : jx_op y pc = some (36, tgt, b, d, c)) (gt : x = v → ez xs y tgt L r m Q) (gf : ¬ x = v → ez xs y (pc + 3) L r m Q) : ez xs y pc L (.int v :: .int x :: r) m Q := by
  by_cases h : x = v
  · refine ez_st (m' := m) (pc' := tgt) (L' := L) (st' := r) ?_ (gt h)
    unfold jx_st
    rw [ho]
    show (if 36 < 72 then jx_br2 (fun x y => decide (x = y)) pc tgt b d c L (.int v :: .int x :: r) (z_S m) else none) = _
    rw [if_pos (by decide)]
    unfold jx_br2
    dsimp only
    rw [if_pos (decide_eq_true h)]
    rfl
  · refine ez_st (m' := m) (pc' := pc + 3) (L' := L) (st' := r) ?_ (gf h)
    unfold jx_st
    rw [ho]
    show (if 36 < 72 then jx_br2 (fun x y => decide (x = y)) pc tgt b d c L (.int v :: .int x :: r) (z_S m) else none) = _
    rw [if_pos (by decide)]
    unfold jx_br2
    dsimp only
    rw [if_neg (fun h1 => h (of_decide_eq_true h1))]
    rfl
theorem ez_if_ne (ho : jx_op y pc = some (31, tgt, b, d, c)) (gt : ¬ x = 0 → ez xs y tgt L r m Q) (gf : x = 0 → ez xs y (pc + 3) L r m Q) : ez xs y pc L (.int x :: r) m Q := by
  by_cases h : ¬ x = 0
  · refine ez_st (m' := m) (pc' := tgt) (L' := L) (st' := r) ?_ (gt h)
    unfold jx_st
    rw [ho]
    show (if 31 < 72 then jx_br1 (fun x => decide (¬ x = 0)) pc tgt b d c L (.int x :: r) (z_S m) else none) = _
    rw [if_pos (by decide)]
    unfold jx_br1
    dsimp only
    rw [if_pos (decide_eq_true h)]
    rfl
  · refine ez_st (m' := m) (pc' := pc + 3) (L' := L) (st' := r) ?_ (gf (Decidable.of_not_not h))
    unfold jx_st
    rw [ho]
    show (if 31 < 72 then jx_br1 (fun x => decide (¬ x = 0)) pc tgt b d c L (.int x :: r) (z_S m) else none) = _
    rw [if_pos (by decide)]
    unfold jx_br1
    dsimp only
    rw [if_neg (fun h1 => h (of_decide_eq_true h1))]
    rfl
theorem ez_icmp_ne (ho : jx_op y pc = some (37, tgt, b, d, c)) (gt : ¬ x = v → ez xs y tgt L r m Q) (gf : x = v → ez xs y (pc + 3) L r m Q) : ez xs y pc L (.int v :: .int x :: r) m Q := by
  by_cases h : ¬ x = v
  · refine ez_st (m' := m) (pc' := tgt) (L' := L) (st' := r) ?_ (gt h)
    unfold jx_st
    rw [ho]
    show (if 37 < 72 then jx_br2 (fun x y => decide (¬ x = y)) pc tgt b d c L (.int v :: .int x :: r) (z_S m) else none) = _
    rw [if_pos (by decide)]
    unfold jx_br2
    dsimp only
    rw [if_pos (decide_eq_true h)]
    rfl
  · refine ez_st (m' := m) (pc' := pc + 3) (L' := L) (st' := r) ?_ (gf (Decidable.of_not_not h))
    unfold jx_st
    rw [ho]
    show (if 37 < 72 then jx_br2 (fun x y => decide (¬ x = y)) pc tgt b d c L (.int v :: .int x :: r) (z_S m) else none) = _
    rw [if_pos (by decide)]
    unfold jx_br2
    dsimp only
    rw [if_neg (fun h1 => h (of_decide_eq_true h1))]
    rfl
theorem ez_if_lt (ho : jx_op y pc = some (32, tgt, b, d, c)) (gt : x < 0 → ez xs y tgt L r m Q) (gf : ¬ x < 0 → ez xs y (pc + 3) L r m Q) : ez xs y pc L (.int x :: r) m Q := by
  by_cases h : x < 0
  · refine ez_st (m' := m) (pc' := tgt) (L' := L) (st' := r) ?_ (gt h)
    unfold jx_st
    rw [ho]
    show (if 32 < 72 then jx_br1 (fun x => decide (x < 0)) pc tgt b d c L (.int x :: r) (z_S m) else none) = _
    rw [if_pos (by decide)]
    unfold jx_br1
    dsimp only
    rw [if_pos (decide_eq_true h)]
    rfl
  · refine ez_st (m' := m) (pc' := pc + 3) (L' := L) (st' := r) ?_ (gf h)
    unfold jx_st
    rw [ho]
    show (if 32 < 72 then jx_br1 (fun x => decide (x < 0)) pc tgt b d c L (.int x :: r) (z_S m) else none) = _
    rw [if_pos (by decide)]
    unfold jx_br1
    dsimp only
    rw [if_neg (fun h1 => h (of_decide_eq_true h1))]
    rfl
theorem ez_icmp_lt (ho : jx_op y pc = some (38, tgt, b, d, c)) (gt : x < v → ez xs y tgt L r m Q) (gf : ¬ x < v → ez xs y (pc + 3) L r m Q) : ez xs y pc L (.int v :: .int x :: r) m Q := by
  by_cases h : x < v
  · refine ez_st (m' := m) (pc' := tgt) (L' := L) (st' := r) ?_ (gt h)
    unfold jx_st
    rw [ho]
    show (if 38 < 72 then jx_br2 (fun x y => decide (x < y)) pc tgt b d c L (.int v :: .int x :: r) (z_S m) else none) = _
    rw [if_pos (by decide)]
    unfold jx_br2
    dsimp only
    rw [if_pos (decide_eq_true h)]
    rfl
  · refine ez_st (m' := m) (pc' := pc + 3) (L' := L) (st' := r) ?_ (gf h)
    unfold jx_st
    rw [ho]
    show (if 38 < 72 then jx_br2 (fun x y => decide (x < y)) pc tgt b d c L (.int v :: .int x :: r) (z_S m) else none) = _
    rw [if_pos (by decide)]
    unfold jx_br2
    dsimp only
    rw [if_neg (fun h1 => h (of_decide_eq_true h1))]
    rfl
theorem ez_if_ge (ho : jx_op y pc = some (33, tgt, b, d, c)) (gt : 0 ≤ x → ez xs y tgt L r m Q) (gf : ¬ 0 ≤ x → ez xs y (pc + 3) L r m Q) : ez xs y pc L (.int x :: r) m Q := by
  by_cases h : 0 ≤ x
  · refine ez_st (m' := m) (pc' := tgt) (L' := L) (st' := r) ?_ (gt h)
    unfold jx_st
    rw [ho]
    show (if 33 < 72 then jx_br1 (fun x => decide (0 ≤ x)) pc tgt b d c L (.int x :: r) (z_S m) else none) = _
    rw [if_pos (by decide)]
    unfold jx_br1
    dsimp only
    rw [if_pos (decide_eq_true h)]
    rfl
  · refine ez_st (m' := m) (pc' := pc + 3) (L' := L) (st' := r) ?_ (gf h)
    unfold jx_st
    rw [ho]
    show (if 33 < 72 then jx_br1 (fun x => decide (0 ≤ x)) pc tgt b d c L (.int x :: r) (z_S m) else none) = _
    rw [if_pos (by decide)]
    unfold jx_br1
    dsimp only
    rw [if_neg (fun h1 => h (of_decide_eq_true h1))]
    rfl
theorem ez_icmp_ge (ho : jx_op y pc = some (39, tgt, b, d, c)) (gt : v ≤ x → ez xs y tgt L r m Q) (gf : ¬ v ≤ x → ez xs y (pc + 3) L r m Q) : ez xs y pc L (.int v :: .int x :: r) m Q := by
  by_cases h : v ≤ x
  · refine ez_st (m' := m) (pc' := tgt) (L' := L) (st' := r) ?_ (gt h)
    unfold jx_st
    rw [ho]
    show (if 39 < 72 then jx_br2 (fun x y => decide (y ≤ x)) pc tgt b d c L (.int v :: .int x :: r) (z_S m) else none) = _
    rw [if_pos (by decide)]
    unfold jx_br2
    dsimp only
    rw [if_pos (decide_eq_true h)]
    rfl
  · refine ez_st (m' := m) (pc' := pc + 3) (L' := L) (st' := r) ?_ (gf h)
    unfold jx_st
    rw [ho]
    show (if 39 < 72 then jx_br2 (fun x y => decide (y ≤ x)) pc tgt b d c L (.int v :: .int x :: r) (z_S m) else none) = _
    rw [if_pos (by decide)]
    unfold jx_br2
    dsimp only
    rw [if_neg (fun h1 => h (of_decide_eq_true h1))]
    rfl
theorem ez_if_gt (ho : jx_op y pc = some (34, tgt, b, d, c)) (gt : 0 < x → ez xs y tgt L r m Q) (gf : ¬ 0 < x → ez xs y (pc + 3) L r m Q) : ez xs y pc L (.int x :: r) m Q := by
  by_cases h : 0 < x
  · refine ez_st (m' := m) (pc' := tgt) (L' := L) (st' := r) ?_ (gt h)
    unfold jx_st
    rw [ho]
    show (if 34 < 72 then jx_br1 (fun x => decide (0 < x)) pc tgt b d c L (.int x :: r) (z_S m) else none) = _
    rw [if_pos (by decide)]
    unfold jx_br1
    dsimp only
    rw [if_pos (decide_eq_true h)]
    rfl
  · refine ez_st (m' := m) (pc' := pc + 3) (L' := L) (st' := r) ?_ (gf h)
    unfold jx_st
    rw [ho]
    show (if 34 < 72 then jx_br1 (fun x => decide (0 < x)) pc tgt b d c L (.int x :: r) (z_S m) else none) = _
    rw [if_pos (by decide)]
    unfold jx_br1
    dsimp only
    rw [if_neg (fun h1 => h (of_decide_eq_true h1))]
    rfl
theorem ez_icmp_gt (ho : jx_op y pc = some (40, tgt, b, d, c)) (gt : v < x → ez xs y tgt L r m Q) (gf : ¬ v < x → ez xs y (pc + 3) L r m Q) : ez xs y pc L (.int v :: .int x :: r) m Q := by
  by_cases h : v < x
  · refine ez_st (m' := m) (pc' := tgt) (L' := L) (st' := r) ?_ (gt h)
    unfold jx_st
    rw [ho]
    show (if 40 < 72 then jx_br2 (fun x y => decide (y < x)) pc tgt b d c L (.int v :: .int x :: r) (z_S m) else none) = _
    rw [if_pos (by decide)]
    unfold jx_br2
    dsimp only
    rw [if_pos (decide_eq_true h)]
    rfl
  · refine ez_st (m' := m) (pc' := pc + 3) (L' := L) (st' := r) ?_ (gf h)
    unfold jx_st
    rw [ho]
    show (if 40 < 72 then jx_br2 (fun x y => decide (y < x)) pc tgt b d c L (.int v :: .int x :: r) (z_S m) else none) = _
    rw [if_pos (by decide)]
    unfold jx_br2
    dsimp only
    rw [if_neg (fun h1 => h (of_decide_eq_true h1))]
    rfl
theorem ez_if_le (ho : jx_op y pc = some (35, tgt, b, d, c)) (gt : x ≤ 0 → ez xs y tgt L r m Q) (gf : ¬ x ≤ 0 → ez xs y (pc + 3) L r m Q) : ez xs y pc L (.int x :: r) m Q := by
  by_cases h : x ≤ 0
  · refine ez_st (m' := m) (pc' := tgt) (L' := L) (st' := r) ?_ (gt h)
    unfold jx_st
    rw [ho]
    show (if 35 < 72 then jx_br1 (fun x => decide (x ≤ 0)) pc tgt b d c L (.int x :: r) (z_S m) else none) = _
    rw [if_pos (by decide)]
    unfold jx_br1
    dsimp only
    rw [if_pos (decide_eq_true h)]
    rfl
  · refine ez_st (m' := m) (pc' := pc + 3) (L' := L) (st' := r) ?_ (gf h)
    unfold jx_st
    rw [ho]
    show (if 35 < 72 then jx_br1 (fun x => decide (x ≤ 0)) pc tgt b d c L (.int x :: r) (z_S m) else none) = _
    rw [if_pos (by decide)]
    unfold jx_br1
    dsimp only
    rw [if_neg (fun h1 => h (of_decide_eq_true h1))]
    rfl
theorem ez_icmp_le (ho : jx_op y pc = some (41, tgt, b, d, c)) (gt : x ≤ v → ez xs y tgt L r m Q) (gf : ¬ x ≤ v → ez xs y (pc + 3) L r m Q) : ez xs y pc L (.int v :: .int x :: r) m Q := by
  by_cases h : x ≤ v
  · refine ez_st (m' := m) (pc' := tgt) (L' := L) (st' := r) ?_ (gt h)
    unfold jx_st
    rw [ho]
    show (if 41 < 72 then jx_br2 (fun x y => decide (x ≤ y)) pc tgt b d c L (.int v :: .int x :: r) (z_S m) else none) = _
    rw [if_pos (by decide)]
    unfold jx_br2
    dsimp only
    rw [if_pos (decide_eq_true h)]
    rfl
  · refine ez_st (m' := m) (pc' := pc + 3) (L' := L) (st' := r) ?_ (gf h)
    unfold jx_st
    rw [ho]
    show (if 41 < 72 then jx_br2 (fun x y => decide (x ≤ y)) pc tgt b d c L (.int v :: .int x :: r) (z_S m) else none) = _
    rw [if_pos (by decide)]
    unfold jx_br2
    dsimp only
    rw [if_neg (fun h1 => h (of_decide_eq_true h1))]
    rfl
theorem ez_sld {N j : Nat} {xf : Nat → Int32} (ho : jx_op y pc = some (67, a, b, d, c)) (hx : x = nI j) (hj : j < N) (hN : N < 2 ^ 31) (g : ez (N, xf) y (pc + 1) L (.int (xf j) :: r) m Q) : ez (N, xf) y pc L (.int x :: .ref 4000000 :: r) m Q := by
  subst hx
  refine ez_st (m' := m) ?_ g
  unfold jx_st
  rw [ho]
  show (if 67 < 72 then jx_sld (N, xf) pc a b d c L (.int (nI j) :: .ref 4000000 :: r) (z_S m) else none) = _
  rw [if_pos (by decide)]
  unfold jx_sld
  dsimp only
  rw [if_pos ⟨rfl, nI_pos (by omega), by rw [nI_clamp (by omega)]; exact hj⟩, nI_clamp (by omega)]
  rfl
end EZ3
