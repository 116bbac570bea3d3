/-! Rules with any index; returns of truth values and characters. -/
theorem z_arrv {m : zM} {q t i n : Nat} {x : Int32} (hi : i < 172) (hs : z_H i = (q, t, n)) (hx : vp_in x n) : jx_arr (z_S m) q t i x = true := by
  unfold jx_arr
  have h1 : (z_S m).2.2.1 i = (q, t, n) := hs
  have h2 : (z_S m).2.2.2.1 = 172 := rfl
  rw [h1, h2]
  have h3 : ¬ x < 0 := fun h => hx (Or.inl h)
  have h4 : x.toNatClampNeg < n := Nat.not_le.mp fun h => hx (Or.inr h)
  simp [hi, h3, h4]
section EZ4
variable {xs : jx_Xs} {y pc a b d : Nat} {c x v : Int32} {L : jx_L} {st r : List Value} {m : zM} {Q : Option Value → zM → Prop}
theorem ez_ialdv {i n : Nat} (ho : jx_op y pc = some (50, a, b, d, c)) (hi : i < 172) (hs : z_H i = (1, 0, n)) (hx : vp_in x n) (g : ez xs y (pc + 1) L (.int (m i x.toNatClampNeg) :: r) m Q) : ez xs y pc L (.int x :: .ref i :: r) m Q := by
  refine ez_st (m' := m) ?_ g
  unfold jx_st
  rw [ho]
  show (if 50 < 72 then jx_nld 0 pc a b d c L (.int x :: .ref i :: r) (z_S m) else none) = _
  rw [if_pos (by decide)]
  unfold jx_nld
  dsimp only
  rw [if_pos (z_arrv hi hs hx)]
  rfl
theorem ez_caldv {i n : Nat} (ho : jx_op y pc = some (51, a, b, d, c)) (hi : i < 172) (hs : z_H i = (1, 1, n)) (hx : vp_in x n) (g : ez xs y (pc + 1) L (.int (m i x.toNatClampNeg) :: r) m Q) : ez xs y pc L (.int x :: .ref i :: r) m Q := by
  refine ez_st (m' := m) ?_ g
  unfold jx_st
  rw [ho]
  show (if 51 < 72 then jx_nld 1 pc a b d c L (.int x :: .ref i :: r) (z_S m) else none) = _
  rw [if_pos (by decide)]
  unfold jx_nld
  dsimp only
  rw [if_pos (z_arrv hi hs hx)]
  rfl
theorem ez_zaldv {i n : Nat} (ho : jx_op y pc = some (52, a, b, d, c)) (hi : i < 172) (hs : z_H i = (1, 2, n)) (hx : vp_in x n) (g : ez xs y (pc + 1) L (.int (m i x.toNatClampNeg) :: r) m Q) : ez xs y pc L (.int x :: .ref i :: r) m Q := by
  refine ez_st (m' := m) ?_ g
  unfold jx_st
  rw [ho]
  show (if 52 < 72 then jx_nld 2 pc a b d c L (.int x :: .ref i :: r) (z_S m) else none) = _
  rw [if_pos (by decide)]
  unfold jx_nld
  dsimp only
  rw [if_pos (z_arrv hi hs hx)]
  rfl
theorem ez_iastv {i n : Nat} (ho : jx_op y pc = some (55, a, b, d, c)) (hi : i < 172) (hs : z_H i = (1, 0, n)) (hx : vp_in x n) (g : ez xs y (pc + 1) L r (jj_up m i x.toNatClampNeg v) Q) : ez xs y pc L (.int v :: .int x :: .ref i :: r) m Q := by
  refine ez_st (m' := jj_up m i x.toNatClampNeg v) ?_ g
  unfold jx_st
  rw [ho]
  show (if 55 < 72 then jx_nst 0 (fun v => v) pc a b d c L (.int v :: .int x :: .ref i :: r) (z_S m) else none) = _
  rw [if_pos (by decide)]
  unfold jx_nst
  dsimp only
  rw [if_pos (z_arrv hi hs hx)]
  rfl
theorem ez_castv {i n : Nat} (ho : jx_op y pc = some (56, a, b, d, c)) (hi : i < 172) (hs : z_H i = (1, 1, n)) (hx : vp_in x n) (g : ez xs y (pc + 1) L r (jj_up m i x.toNatClampNeg (vp_nar .char v)) Q) : ez xs y pc L (.int v :: .int x :: .ref i :: r) m Q := by
  refine ez_st (m' := jj_up m i x.toNatClampNeg (vp_nar .char v)) ?_ g
  unfold jx_st
  rw [ho]
  show (if 56 < 72 then jx_nst 1 (vp_nar .char) pc a b d c L (.int v :: .int x :: .ref i :: r) (z_S m) else none) = _
  rw [if_pos (by decide)]
  unfold jx_nst
  dsimp only
  rw [if_pos (z_arrv hi hs hx)]
  rfl
theorem ez_zastv {i n : Nat} (ho : jx_op y pc = some (57, a, b, d, c)) (hi : i < 172) (hs : z_H i = (1, 2, n)) (hx : vp_in x n) (g : ez xs y (pc + 1) L r (jj_up m i x.toNatClampNeg (vp_nar .boolean v)) Q) : ez xs y pc L (.int v :: .int x :: .ref i :: r) m Q := by
  refine ez_st (m' := jj_up m i x.toNatClampNeg (vp_nar .boolean v)) ?_ g
  unfold jx_st
  rw [ho]
  show (if 57 < 72 then jx_nst 2 (vp_nar .boolean) pc a b d c L (.int v :: .int x :: .ref i :: r) (z_S m) else none) = _
  rw [if_pos (by decide)]
  unfold jx_nst
  dsimp only
  rw [if_pos (z_arrv hi hs hx)]
  rfl
theorem ez_retz (ho : jx_op y pc = some (90, a, b, d, c)) (hR : jt_R y = some .boolean) (hv : v = 0 ∨ v = 1) (g : Q (some (.int v)) m) : ez xs y pc L [.int v] m Q := by
  refine ez_ret ho (Nat.le_refl _) ?_ g
  unfold jx_ret
  rw [hR]
  dsimp only
  rw [if_pos rfl, if_pos hv]
theorem ez_retc (ho : jx_op y pc = some (90, a, b, d, c)) (hR : jt_R y = some .char) (hv : vp_nar .char v = v) (g : Q (some (.int v)) m) : ez xs y pc L [.int v] m Q := by
  refine ez_ret ho (Nat.le_refl _) ?_ g
  unfold jx_ret
  rw [hR]
  dsimp only
  rw [if_pos rfl, if_pos hv]
end EZ4
