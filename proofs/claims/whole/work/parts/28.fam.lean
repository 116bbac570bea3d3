/-! Rows of like cells: nodes 5 + e, items 38 + 6 e with their patterns, edits 81 + 2 e. -/
theorem vp_lt {x : Int32} {n : Nat} (h : vp_in x n) : x.toNatClampNeg < n := Nat.not_le.mp fun h2 => h (Or.inr h2)
theorem z_all {n : Nat} {p : Nat → Bool} (h : (List.range n).all p = true) {e : Nat} (he : e < n) : p e = true := List.all_eq_true.mp h e (List.mem_range.mpr he)
theorem z_ndi {e : Nat} (h : e < 24) : 5 + e < 172 := by omega
theorem z_nds {e : Nat} (h : e < 24) : z_H (5 + e) = (0, 3, 13) := of_decide_eq_true (z_all (n := 24) (p := fun e => decide (z_H (5 + e) = (0, 3, 13))) (by decide +kernel) h)
theorem z_ndr {e : Nat} (h : e < 24) : z_R 4 e = some (5 + e) := of_decide_eq_true (z_all (n := 24) (p := fun e => decide (z_R 4 e = some (5 + e))) (by decide +kernel) h)
theorem z_iti {e : Nat} (h : e < 6) : 38 + 6 * e < 172 := by omega
theorem z_its {e : Nat} (h : e < 6) : z_H (38 + 6 * e) = (0, 7, 6) := of_decide_eq_true (z_all (n := 6) (p := fun e => decide (z_H (38 + 6 * e) = (0, 7, 6))) (by decide +kernel) h)
theorem z_itr {e : Nat} (h : e < 6) : z_R 37 e = some (38 + 6 * e) := of_decide_eq_true (z_all (n := 6) (p := fun e => decide (z_R 37 e = some (38 + 6 * e))) (by decide +kernel) h)
theorem z_itp {e : Nat} (h : e < 6) : z_R (38 + 6 * e) 0 = some (39 + 6 * e) := of_decide_eq_true (z_all (n := 6) (p := fun e => decide (z_R (38 + 6 * e) 0 = some (39 + 6 * e))) (by decide +kernel) h)
theorem z_itf {e : Nat} (h : e < 6) : z_R (38 + 6 * e) 1 = some (40 + 6 * e) := of_decide_eq_true (z_all (n := 6) (p := fun e => decide (z_R (38 + 6 * e) 1 = some (40 + 6 * e))) (by decide +kernel) h)
theorem z_ita {e : Nat} (h : e < 6) : z_R (38 + 6 * e) 2 = some (41 + 6 * e) := of_decide_eq_true (z_all (n := 6) (p := fun e => decide (z_R (38 + 6 * e) 2 = some (41 + 6 * e))) (by decide +kernel) h)
theorem z_pti {e : Nat} (h : e < 6) : 39 + 6 * e < 172 := by omega
theorem z_pts {e : Nat} (h : e < 6) : z_H (39 + 6 * e) = (0, 8, 4) := of_decide_eq_true (z_all (n := 6) (p := fun e => decide (z_H (39 + 6 * e) = (0, 8, 4))) (by decide +kernel) h)
theorem z_fbi {e : Nat} (h : e < 6) : 40 + 6 * e < 172 := by omega
theorem z_fbs {e : Nat} (h : e < 6) : z_H (40 + 6 * e) = (0, 8, 4) := of_decide_eq_true (z_all (n := 6) (p := fun e => decide (z_H (40 + 6 * e) = (0, 8, 4))) (by decide +kernel) h)
theorem z_ari {e : Nat} (h : e < 6) : 41 + 6 * e < 172 := by omega
theorem z_ars {e : Nat} (h : e < 6) : z_H (41 + 6 * e) = (2, 5, 2) := of_decide_eq_true (z_all (n := 6) (p := fun e => decide (z_H (41 + 6 * e) = (2, 5, 2))) (by decide +kernel) h)
theorem z_adr {e j : Nat} (h : e < 6) (hj : j < 2) : z_R (41 + 6 * e) j = some (42 + 6 * e + j) := of_decide_eq_true (z_all (n := 2) (p := fun j => decide (z_R (41 + 6 * e) j = some (42 + 6 * e + j))) (z_all (n := 6) (p := fun e => (List.range 2).all fun j => decide (z_R (41 + 6 * e) j = some (42 + 6 * e + j))) (by decide +kernel) h) hj)
theorem z_adi {e j : Nat} (h : e < 6) (hj : j < 2) : 42 + 6 * e + j < 172 := by omega
theorem z_ads {e j : Nat} (h : e < 6) (hj : j < 2) : z_H (42 + 6 * e + j) = (0, 8, 4) := of_decide_eq_true (z_all (n := 2) (p := fun j => decide (z_H (42 + 6 * e + j) = (0, 8, 4))) (z_all (n := 6) (p := fun e => (List.range 2).all fun j => decide (z_H (42 + 6 * e + j) = (0, 8, 4))) (by decide +kernel) h) hj)
theorem z_edi {e : Nat} (h : e < 24) : 81 + 2 * e < 172 := by omega
theorem z_eds {e : Nat} (h : e < 24) : z_H (81 + 2 * e) = (0, 10, 4) := of_decide_eq_true (z_all (n := 24) (p := fun e => decide (z_H (81 + 2 * e) = (0, 10, 4))) (by decide +kernel) h)
theorem z_edr {e : Nat} (h : e < 24) : z_R 78 e = some (81 + 2 * e) := of_decide_eq_true (z_all (n := 24) (p := fun e => decide (z_R 78 e = some (81 + 2 * e))) (by decide +kernel) h)
theorem z_edp {e : Nat} (h : e < 24) : z_R (81 + 2 * e) 0 = some (82 + 2 * e) := of_decide_eq_true (z_all (n := 24) (p := fun e => decide (z_R (81 + 2 * e) 0 = some (82 + 2 * e))) (by decide +kernel) h)
theorem z_puti {e : Nat} (h : e < 24) : 82 + 2 * e < 172 := by omega
theorem z_puts {e : Nat} (h : e < 24) : z_H (82 + 2 * e) = (1, 1, 10) := of_decide_eq_true (z_all (n := 24) (p := fun e => decide (z_H (82 + 2 * e) = (1, 1, 10))) (by decide +kernel) h)
section EZ5
variable {xs : jx_Xs} {y pc a b d : Nat} {c x v : Int32} {L : jx_L} {st r : List Value} {m : zM} {Q : Option Value → zM → Prop}
theorem ez_rldv {i t n k : Nat} (ho : jx_op y pc = some (53, a, b, d, c)) (hi : i < 172) (hs : z_H i = (2, t, n)) (hob : jx_obt t = true) (hx : vp_in x n) (hr : z_R i x.toNatClampNeg = some k) (g : ez xs y (pc + 1) L (.ref k :: r) m Q) : ez xs y pc L (.int x :: .ref i :: r) m Q := by
  refine ez_st (m' := m) ?_ g
  unfold jx_st
  rw [ho]
  show (if 53 < 72 then jx_rld pc a b d c L (.int x :: .ref i :: r) (z_S m) else none) = _
  rw [if_pos (by decide)]
  unfold jx_rld
  dsimp only
  have h1 : (z_S m).2.2.1 i = (2, t, n) := hs
  have h2 : (z_S m).2.1 i x.toNatClampNeg = some k := hr
  rw [h1, if_pos ⟨z_arrv hi hs hx, hob⟩, h2]
  rfl
theorem ez_len {i t n : Nat} (ho : jx_op y pc = some (54, a, b, d, c)) (hi : i < 172) (hs : z_H i = (1, t, n)) (ht : t < 7 := by decide) (g : ez xs y (pc + 1) L (.int (Int32.ofNat n) :: r) m Q) : ez xs y pc L (.ref i :: r) m Q := by
  refine ez_st (m' := m) ?_ g
  unfold jx_st
  rw [ho]
  show (if 54 < 72 then jx_len pc a b d c L (.ref i :: r) (z_S m) else none) = _
  rw [if_pos (by decide)]
  unfold jx_len
  dsimp only
  have h1 : (z_S m).2.2.1 i = (1, t, n) := hs
  rw [h1, if_pos ⟨hi, Or.inl rfl, ht⟩]
  rfl
theorem ez_calls {o : jx_O} {i ci nf : Nat} {as2 rest : List Value} (ho : jx_op y pc = some o) (hκ : o.1 = 80 ∨ o.1 = 83) (h1 : (st.take o.2.2.2.1).reverse = .ref i :: as2) (h2 : st.drop o.2.2.2.1 = rest) (h3 : (decide (o.2.2.2.1 ≤ st.length) && (decide (st.length ≤ o.2.2.2.1 + 8) && jx_c1 st)) = true) (hi : i < 172) (hs : z_H i = (0, ci, nf)) (hc : jt_rc.getD o.2.2.1 99 = ci)
    (g : ez xs o.2.2.1 0 (jx_ent o.2.2.1 (.ref i :: as2)) [] m (fun u m' => ez xs y (pc + 3) L (u.toList ++ rest) m' Q)) : ez xs y pc L st m Q := by
  obtain ⟨h4, h5⟩ := jx_and h3
  obtain ⟨h5, h6⟩ := jx_and h5
  have h4 := of_decide_eq_true h4
  have h5 := of_decide_eq_true h5
  refine ez_call (as := .ref i :: as2) (rest := rest) ho ⟨by omega, by omega⟩ ?_ g
  unfold jx_cal
  rw [h1, h2]
  refine if_pos ⟨h4, h5, h6, ?_⟩
  unfold jx_rcv
  rw [if_neg (by omega)]
  dsimp only
  rw [if_neg (by omega), if_pos (by omega)]
  have e1 : (z_S m).2.2.1 i = (0, ci, nf) := hs
  rw [e1, hc]
  exact decide_eq_true ⟨hi, rfl, rfl⟩
end EZ5
