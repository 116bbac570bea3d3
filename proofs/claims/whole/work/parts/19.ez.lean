/-! Runs behind the constructors: no cell is made, no reference changes; only numbers vary. -/
abbrev zM : Type := Nat → Nat → Int32
def ez (xs : jx_Xs) (y pc : Nat) (L : jx_L) (st : List Value) (m : zM) (Q : Option Value → zM → Prop) : Prop := ev xs y pc L st (z_S m) (fun r τ => ∃ m', τ = z_S m' ∧ Q r m')
section EZ
variable {xs : jx_Xs} {y pc a b d c0 : Nat} {c : Int32} {L : jx_L} {st r : List Value} {m : zM} {Q : Option Value → zM → Prop}
theorem ez_blk (n : Nat) {pc' : Nat} {L' : jx_L} {st' : List Value} {m' : zM} (h : jx_blk xs y n pc L st (z_S m) = some (pc', L', st', m', z_R)) (g : ez xs y pc' L' st' m' Q) : ez xs y pc L st m Q := ev_blk n h g
theorem ez_st {pc' : Nat} {L' : jx_L} {st' : List Value} {m' : zM} (h : jx_st xs y pc L st (z_S m) = some (pc', L', st', m', z_R)) (g : ez xs y pc' L' st' m' Q) : ez xs y pc L st m Q := ev_st0 h g
theorem ez_call {o : jx_O} {as rest : List Value} (ho : jx_op y pc = some o) (hκ : 80 ≤ o.1 ∧ o.1 < 90) (h : jx_cal o st (z_S m) = some (as, rest)) (g : ez xs o.2.2.1 0 (jx_ent o.2.2.1 as) [] m (fun u m' => ez xs y (pc + 3) L (u.toList ++ rest) m' Q)) : ez xs y pc L st m Q :=
  ev_call ho hκ h (ev_mono g (fun u τ hh => by obtain ⟨m', rfl, hh⟩ := hh; exact hh))
theorem ez_ret {o : jx_O} {v : Option Value} (ho : jx_op y pc = some o) (hκ : 90 ≤ o.1) (h : jx_ret y o st = some v) (g : Q v m) : ez xs y pc L st m Q := ev_ret ho hκ h ⟨m, rfl, g⟩
theorem ez_mono {Q' : Option Value → zM → Prop} (g : ez xs y pc L st m Q) (h : ∀ r m', Q r m' → Q' r m') : ez xs y pc L st m Q' := ev_mono g (fun r τ hh => by obtain ⟨m', rfl, hh⟩ := hh; exact ⟨m', rfl, h r m' hh⟩)
/-- a branch on one number: both ways -/
theorem ez_br1 {q : Int32 → Bool} {x : Int32} (ho : jx_st xs y pc L (.int x :: r) (z_S m) = some (if q x = true then a else c0, L, r, m, z_R)) (gt : q x = true → ez xs y a L r m Q) (gf : q x = false → ez xs y c0 L r m Q) : ez xs y pc L (.int x :: r) m Q := by
  refine ez_st ho ?_
  by_cases hq : q x = true
  · rw [if_pos hq]; exact gt hq
  · rw [if_neg hq]; exact gf (by simpa using hq)
theorem ez_br2 {q : Int32 → Int32 → Bool} {x v : Int32} (ho : jx_st xs y pc L (.int v :: .int x :: r) (z_S m) = some (if q x v = true then a else c0, L, r, m, z_R)) (gt : q x v = true → ez xs y a L r m Q) (gf : q x v = false → ez xs y c0 L r m Q) : ez xs y pc L (.int v :: .int x :: r) m Q := by
  refine ez_st ho ?_
  by_cases hq : q x v = true
  · rw [if_pos hq]; exact gt hq
  · rw [if_neg hq]; exact gf (by simpa using hq)
end EZ
theorem z_arr {m : zM} {q t i n j : Nat} (hi : i < 172) (hs : z_H i = (q, t, n)) (hj : j < n) (hn : n < 2 ^ 31) : jx_arr (z_S m) q t i (nI j) = true := by
  unfold jx_arr
  have h1 : (z_S m).2.2.1 i = (q, t, n) := hs
  have h2 : (z_S m).2.2.2.1 = 172 := rfl
  rw [h1, h2, nI_clamp (by omega)]
  simp [hi, hj, nI_pos (show j < 2 ^ 31 by omega)]
theorem z_obj {m : zM} {i b d n : Nat} (hi : i < 172) (hs : z_H i = (0, b, n)) (hd : d < jt_n b) : jx_obj (z_S m) i b d = true := by
  unfold jx_obj
  have h1 : (z_S m).2.2.1 i = (0, b, n) := hs
  have h2 : (z_S m).2.2.2.1 = 172 := rfl
  rw [h1, h2]
  simp [hi, hd]
section EZ2
variable {xs : jx_Xs} {y pc a b d : Nat} {c : Int32} {L : jx_L} {st r : List Value} {m : zM} {Q : Option Value → zM → Prop}
theorem ez_iald {i n j : Nat} (ho : jx_op y pc = some (50, a, b, d, c)) (hi : i < 172) (hs : z_H i = (1, 0, n)) (hj : j < n) (hn : n < 2 ^ 31) (g : ez xs y (pc + 1) L (.int (m i j) :: r) m Q) : ez xs y pc L (.int (nI j) :: .ref i :: r) m Q := by
  refine ez_st (m' := m) ?_ g
  unfold jx_st
  rw [ho]
  show (if 50 < 72 then jx_nld 0 pc a b d c L (.int (nI j) :: .ref i :: r) (z_S m) else none) = _
  rw [if_pos (by decide)]
  unfold jx_nld
  dsimp only
  rw [if_pos (z_arr hi hs hj hn), nI_clamp (by omega)]
  rfl
theorem ez_cald {i n j : Nat} (ho : jx_op y pc = some (51, a, b, d, c)) (hi : i < 172) (hs : z_H i = (1, 1, n)) (hj : j < n) (hn : n < 2 ^ 31) (g : ez xs y (pc + 1) L (.int (m i j) :: r) m Q) : ez xs y pc L (.int (nI j) :: .ref i :: r) m Q := by
  refine ez_st (m' := m) ?_ g
  unfold jx_st
  rw [ho]
  show (if 51 < 72 then jx_nld 1 pc a b d c L (.int (nI j) :: .ref i :: r) (z_S m) else none) = _
  rw [if_pos (by decide)]
  unfold jx_nld
  dsimp only
  rw [if_pos (z_arr hi hs hj hn), nI_clamp (by omega)]
  rfl
theorem ez_zald {i n j : Nat} (ho : jx_op y pc = some (52, a, b, d, c)) (hi : i < 172) (hs : z_H i = (1, 2, n)) (hj : j < n) (hn : n < 2 ^ 31) (g : ez xs y (pc + 1) L (.int (m i j) :: r) m Q) : ez xs y pc L (.int (nI j) :: .ref i :: r) m Q := by
  refine ez_st (m' := m) ?_ g
  unfold jx_st
  rw [ho]
  show (if 52 < 72 then jx_nld 2 pc a b d c L (.int (nI j) :: .ref i :: r) (z_S m) else none) = _
  rw [if_pos (by decide)]
  unfold jx_nld
  dsimp only
  rw [if_pos (z_arr hi hs hj hn), nI_clamp (by omega)]
  rfl
theorem ez_iast {i n j : Nat} {v : Int32} (ho : jx_op y pc = some (55, a, b, d, c)) (hi : i < 172) (hs : z_H i = (1, 0, n)) (hj : j < n) (hn : n < 2 ^ 31) (g : ez xs y (pc + 1) L r (jj_up m i j v) Q) : ez xs y pc L (.int v :: .int (nI j) :: .ref i :: r) m Q := by
  refine ez_st (m' := jj_up m i j v) ?_ g
  unfold jx_st
  rw [ho]
  show (if 55 < 72 then jx_nst 0 (fun v => v) pc a b d c L (.int v :: .int (nI j) :: .ref i :: r) (z_S m) else none) = _
  rw [if_pos (by decide)]
  unfold jx_nst
  dsimp only
  rw [if_pos (z_arr hi hs hj hn), nI_clamp (by omega)]
  rfl
theorem ez_cast {i n j : Nat} {v : Int32} (ho : jx_op y pc = some (56, a, b, d, c)) (hi : i < 172) (hs : z_H i = (1, 1, n)) (hj : j < n) (hn : n < 2 ^ 31) (g : ez xs y (pc + 1) L r (jj_up m i j (vp_nar .char v)) Q) : ez xs y pc L (.int v :: .int (nI j) :: .ref i :: r) m Q := by
  refine ez_st (m' := jj_up m i j (vp_nar .char v)) ?_ g
  unfold jx_st
  rw [ho]
  show (if 56 < 72 then jx_nst 1 (vp_nar .char) pc a b d c L (.int v :: .int (nI j) :: .ref i :: r) (z_S m) else none) = _
  rw [if_pos (by decide)]
  unfold jx_nst
  dsimp only
  rw [if_pos (z_arr hi hs hj hn), nI_clamp (by omega)]
  rfl
theorem ez_zast {i n j : Nat} {v : Int32} (ho : jx_op y pc = some (57, a, b, d, c)) (hi : i < 172) (hs : z_H i = (1, 2, n)) (hj : j < n) (hn : n < 2 ^ 31) (g : ez xs y (pc + 1) L r (jj_up m i j (vp_nar .boolean v)) Q) : ez xs y pc L (.int v :: .int (nI j) :: .ref i :: r) m Q := by
  refine ez_st (m' := jj_up m i j (vp_nar .boolean v)) ?_ g
  unfold jx_st
  rw [ho]
  show (if 57 < 72 then jx_nst 2 (vp_nar .boolean) pc a b d c L (.int v :: .int (nI j) :: .ref i :: r) (z_S m) else none) = _
  rw [if_pos (by decide)]
  unfold jx_nst
  dsimp only
  rw [if_pos (z_arr hi hs hj hn), nI_clamp (by omega)]
  rfl
theorem ez_rld {i t n j k : Nat} (ho : jx_op y pc = some (53, a, b, d, c)) (hi : i < 172) (hs : z_H i = (2, t, n)) (hob : jx_obt t = true) (hj : j < n) (hn : n < 2 ^ 31) (hr : z_R i j = some k) (g : ez xs y (pc + 1) L (.ref k :: r) m Q) : ez xs y pc L (.int (nI j) :: .ref i :: r) m Q := by
  refine ez_st (m' := m) ?_ g
  unfold jx_st
  rw [ho]
  show (if 53 < 72 then jx_rld pc a b d c L (.int (nI j) :: .ref i :: r) (z_S m) else none) = _
  rw [if_pos (by decide)]
  unfold jx_rld
  dsimp only
  have h1 : (z_S m).2.2.1 i = (2, t, n) := hs
  have h2 : (z_S m).2.1 i j = some k := hr
  rw [h1, if_pos ⟨z_arr hi hs hj hn, hob⟩, nI_clamp (by omega), h2]
  rfl
theorem ez_get {i n : Nat} (ho : jx_op y pc = some (45, a, b, d, c)) (hi : i < 172) (hs : z_H i = (0, b, n)) (hd : d < jt_n b) (hf : jt_rf b d = false) (g : ez xs y (pc + 3) L (.int (m i d) :: r) m Q) : ez xs y pc L (.ref i :: r) m Q := by
  refine ez_st (m' := m) ?_ g
  unfold jx_st
  rw [ho]
  show (if 45 < 72 then jx_get pc a b d c L (.ref i :: r) (z_S m) else none) = _
  rw [if_pos (by decide)]
  unfold jx_get
  dsimp only
  rw [if_pos (z_obj hi hs hd), hf]
  rfl
theorem ez_getr {i n k : Nat} (ho : jx_op y pc = some (45, a, b, d, c)) (hi : i < 172) (hs : z_H i = (0, b, n)) (hd : d < jt_n b) (hf : jt_rf b d = true) (hr : z_R i d = some k) (g : ez xs y (pc + 3) L (.ref k :: r) m Q) : ez xs y pc L (.ref i :: r) m Q := by
  refine ez_st (m' := m) ?_ g
  unfold jx_st
  rw [ho]
  show (if 45 < 72 then jx_get pc a b d c L (.ref i :: r) (z_S m) else none) = _
  rw [if_pos (by decide)]
  unfold jx_get
  dsimp only
  have h2 : (z_S m).2.1 i d = some k := hr
  rw [if_pos (z_obj hi hs hd), hf, if_pos rfl, h2]
  rfl
theorem ez_getN {i n : Nat} (ho : jx_op y pc = some (46, a, b, d, c)) (hi : i < 172) (hs : z_H i = (0, b, n)) (hd : d < jt_n b) (hf : jt_rf b d = false) (g : ez xs y (pc + 3) L (.int (m i d) :: r) m Q) : ez xs y pc L (.ref i :: r) m Q := by
  refine ez_st (m' := m) ?_ g
  unfold jx_st
  rw [ho]
  show (if 46 < 72 then jx_get pc a b d c L (.ref i :: r) (z_S m) else none) = _
  rw [if_pos (by decide)]
  unfold jx_get
  dsimp only
  rw [if_pos (z_obj hi hs hd), hf]
  rfl
theorem ez_getNr {i n k : Nat} (ho : jx_op y pc = some (46, a, b, d, c)) (hi : i < 172) (hs : z_H i = (0, b, n)) (hd : d < jt_n b) (hf : jt_rf b d = true) (hr : z_R i d = some k) (g : ez xs y (pc + 3) L (.ref k :: r) m Q) : ez xs y pc L (.ref i :: r) m Q := by
  refine ez_st (m' := m) ?_ g
  unfold jx_st
  rw [ho]
  show (if 46 < 72 then jx_get pc a b d c L (.ref i :: r) (z_S m) else none) = _
  rw [if_pos (by decide)]
  unfold jx_get
  dsimp only
  have h2 : (z_S m).2.1 i d = some k := hr
  rw [if_pos (z_obj hi hs hd), hf, if_pos rfl, h2]
  rfl
theorem ez_put {i n : Nat} {x : Int32} (ho : jx_op y pc = some (47, a, b, d, c)) (hi : i < 172) (hs : z_H i = (0, b, n)) (hd : d < jt_n b) (hf : jt_rf b d = false) (hfit : jx_fit (jt_ft b d) x = true) (g : ez xs y (pc + 3) L r (jj_up m i d x) Q) : ez xs y pc L (.int x :: .ref i :: r) m Q := by
  refine ez_st (m' := jj_up m i d x) ?_ g
  unfold jx_st
  rw [ho]
  show (if 47 < 72 then jx_put pc a b d c L (.int x :: .ref i :: r) (z_S m) else none) = _
  rw [if_pos (by decide)]
  unfold jx_put
  dsimp only
  rw [if_pos (z_obj hi hs hd), if_pos ⟨hf, hfit⟩]
  rfl
theorem ez_putN {i n : Nat} {x : Int32} (ho : jx_op y pc = some (49, a, b, d, c)) (hi : i < 172) (hs : z_H i = (0, b, n)) (hd : d < jt_n b) (hf : jt_rf b d = false) (hfit : jx_fit (jt_ft b d) x = true) (g : ez xs y (pc + 3) L r (jj_up m i d x) Q) : ez xs y pc L (.int x :: .ref i :: r) m Q := by
  refine ez_st (m' := jj_up m i d x) ?_ g
  unfold jx_st
  rw [ho]
  show (if 49 < 72 then jx_put pc a b d c L (.int x :: .ref i :: r) (z_S m) else none) = _
  rw [if_pos (by decide)]
  unfold jx_put
  dsimp only
  rw [if_pos (z_obj hi hs hd), if_pos ⟨hf, hfit⟩]
  rfl
end EZ2
