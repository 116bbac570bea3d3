/-! The two constructors, run by the kernel. -/
def z_x0 : jx_Xs := (0, fun _ => 0)
def z_s0 : jj_S := (fun _ _ => 0, fun _ _ => none, fun _ => (9, 0, 0), 0, 0)
def z_s1 : jj_S := jj_nw z_s0 (0, 0, 9)
def z_c1 : Option (Option Value × jj_S) := jx_run z_x0 4000 11 0 (jx_ent 11 [.ref 0]) [] z_s1
def z_t1 : jj_S := match z_c1 with
  | some q => q.2
  | none => z_s0
theorem z_c1_some : z_c1.map (fun q => q.1) = some none := by decide +kernel
theorem z_c1_eq : z_c1 = some (none, z_t1) := by
  have h := z_c1_some
  unfold z_t1
  cases hc : z_c1 with
  | none => rw [hc] at h; cases h
  | some q =>
    rw [hc] at h
    have h1 : q.1 = none := Option.some.inj h
    rw [← h1]
def z_s2 : jj_S := jj_nw z_t1 (0, 12, 46)
def z_c2 : Option (Option Value × jj_S) := jx_run z_x0 400 12 0 (jx_ent 12 [.ref 131]) [] z_s2
def z_t2 : jj_S := match z_c2 with
  | some q => q.2
  | none => z_s0
theorem z_c2_some : z_c2.map (fun q => q.1) = some none := by decide +kernel
theorem z_c2_eq : z_c2 = some (none, z_t2) := by
  have h := z_c2_some
  unfold z_t2
  cases hc : z_c2 with
  | none => rw [hc] at h; cases h
  | some q =>
    rw [hc] at h
    have h1 : q.1 = none := Option.some.inj h
    rw [← h1]
theorem z_tops : z_t1.2.2.2.1 = 131 ∧ z_t1.2.2.2.2 = 1637 ∧ z_t2.2.2.2.1 = 172 ∧ z_t2.2.2.2.2 = (z_S (fun _ _ => 0)).2.2.2.2 := by decide +kernel
def z_m0 : zM := z_t2.1
theorem z_shB : (List.range 172).all (fun i => decide (z_H i = z_t2.2.2.1 i)) = true := by decide +kernel
theorem z_rfB : (List.range 172).all (fun i => decide ((z_H i).1 = 1) || (List.range (z_H i).2.2).all (fun k => decide (z_R i k = z_t2.2.1 i k))) = true := by decide +kernel
theorem z_nB : (List.range 172).all (fun i => !decide ((z_H i).1 = 0) || decide (jt_n (z_H i).2.1 = (z_H i).2.2)) = true := by decide +kernel
/-- what the numbers are at the start -/
def z_i0 (i k : Nat) : Int32 := if (z_H i).1 = 0 ∧ (z_H i).2.1 = 8 ∧ k = 0 then -1 else 0
theorem z_m0B : (List.range 172).all (fun i => (List.range (z_H i).2.2).all (fun k => decide (z_m0 i k = z_i0 i k))) = true := by decide +kernel
theorem z_m0_at {i k : Nat} (hi : i < 172) (hk : k < (z_H i).2.2) : z_m0 i k = z_i0 i k :=
  of_decide_eq_true (List.all_eq_true.mp (List.all_eq_true.mp z_m0B i (List.mem_range.mpr hi)) k (List.mem_range.mpr hk))
/-- behind the constructors the store is z_S z_m0 -/
theorem z_same0 {X : jj_X} {u : jj_S} (htop : u.2.2.2.1 = 172) (hsh : ∀ i, i < 172 → z_H i = u.2.2.1 i) (hrf : ∀ i, i < 172 → (z_H i).1 ≠ 1 → ∀ k, k < (z_H i).2.2 → z_R i k = u.2.1 i k) (H : Heap) (P : jj_P X u H) : jj_P X (z_S u.1) H := by
  refine jj_P.same (σ := u) (τ := z_S u.1) rfl htop.symm (fun i hi => hsh i (by omega)) (fun i hi h0 k hk => ?_) (fun i hi h0 h1 k hk => ?_) P
  · have hi : i < 172 := by omega
    rw [← hsh i hi] at h0 hk
    have a := List.all_eq_true.mp z_nB i (List.mem_range.mpr hi)
    rw [decide_eq_true h0] at a
    have a : jt_n (z_H i).2.1 = (z_H i).2.2 := of_decide_eq_true a
    exact hrf i hi (by omega) k (by omega)
  · have hi : i < 172 := by omega
    rw [← hsh i hi] at h1 hk
    exact hrf i hi h1 k hk
theorem z_same {X : jj_X} : ∀ (H : Heap), jj_P X z_t2 H → jj_P X (z_S z_t2.1) H := by
  refine z_same0 z_tops.2.2.1 (fun i hi => of_decide_eq_true (List.all_eq_true.mp z_shB i (List.mem_range.mpr hi))) (fun i hi h1 k hk => ?_)
  have a := List.all_eq_true.mp z_rfB i (List.mem_range.mpr hi)
  rw [decide_eq_false h1, Bool.false_or] at a
  exact of_decide_eq_true (List.all_eq_true.mp a k (List.mem_range.mpr hk))
set_option maxHeartbeats 4000000 in
/-- the law's head: up to its loop -/
theorem z_head0 {X : jj_X} {Z : List Frame → Array Value → State → State → Prop} {u v : jj_S} {m : zM} (t1 : u.2.2.2.1 = 131) (t2 : u.2.2.2.2 = 1637) (t3 : v.2.2.2.1 = 172) (t4 : v.2.2.2.2 = (z_S (fun _ _ => 0)).2.2.2.2) (c1 : jx_run X.2.2.2.2.2 4000 11 0 (jx_ent 11 [.ref 0]) [] z_s1 = some (none, u)) (c2 : jx_run X.2.2.2.2.2 400 12 0 (jx_ent 12 [.ref 131]) [] (jj_nw u (0, 12, 46)) = some (none, v)) (hsame : ∀ (H : Heap), jj_P X v H → jj_P X (z_S m) H)
    (g : jj_G X 179 room_1 Z 18 [some (.ref 4000000), some (.ref 0), some (.ref 131), some (.int 0)] [] 172 (z_S (fun _ _ => 0)).2.2.2.2 (z_S m)) : jj_G X 179 room_1 Z 0 (jx_ent 179 [.ref 4000000]) [] 0 0 z_s0 := by
  have f1 : jt_fr 179 ≤ room_1.frames := by decide +kernel
  have f2 : jt_lo 179 ≤ room_1.locals := by decide +kernel
  have s1 : z_s1.2.2.2.1 = 1 ∧ z_s1.2.2.2.2 = 9 := ⟨rfl, rfl⟩
  have s2 : (jj_nw u (0, 12, 46)).2.2.2.1 = 132 ∧ (jj_nw u (0, 12, 46)).2.2.2.2 = 1683 := by
    refine ⟨?_, ?_⟩
    · show u.2.2.2.1 + 1 = 132
      rw [t1]
    · show u.2.2.2.2 + 46 = 1683
      rw [t2]
  refine jg_new (o := (72, 7, 0, 0, 0)) (q := (3, (0, 0, 9), [])) rfl ⟨by decide, by decide⟩ rfl (by decide +kernel) (by decide +kernel) ?_
  show jj_G X 179 room_1 Z 3 [some (.ref 4000000), none, none, none] [.ref 0] 1 9 z_s1
  refine jg_st f1 f2 (by decide +kernel) (by decide +kernel) rfl ?_
  show jj_G X 179 room_1 Z 4 [some (.ref 4000000), none, none, none] [.ref 0, .ref 0] 1 9 z_s1
  refine jg_call (o := (82, 9, 11, 1, 0)) (as := [.ref 0]) (rest := [.ref 0]) 4000 f1 f2 rfl ⟨by decide, by decide⟩ rfl c1 (by rw [t1, s1.1]; decide +kernel) (by rw [t2, s1.2]; decide +kernel) ?_
  rw [t1, t2, s1.1, s1.2]
  show jj_G X 179 room_1 Z 7 [some (.ref 4000000), none, none, none] [.ref 0] 131 1637 u
  refine jg_st f1 f2 (by decide +kernel) (by decide +kernel) rfl ?_
  show jj_G X 179 room_1 Z 8 [some (.ref 4000000), some (.ref 0), none, none] [] 131 1637 u
  have hn : jx_new (72, 10, 12, 0, 0) [] u = some (3, (0, 12, 46), []) := by
    unfold jx_new
    rw [t1]
    rfl
  refine jg_new (o := (72, 10, 12, 0, 0)) (q := (3, (0, 12, 46), [])) rfl ⟨by decide, by decide⟩ hn (by decide +kernel) (by decide +kernel) ?_
  rw [t1]
  show jj_G X 179 room_1 Z 11 [some (.ref 4000000), some (.ref 0), none, none] [.ref 131] 132 1683 (jj_nw u (0, 12, 46))
  refine jg_st f1 f2 (by decide +kernel) (by decide +kernel) rfl ?_
  show jj_G X 179 room_1 Z 12 [some (.ref 4000000), some (.ref 0), none, none] [.ref 131, .ref 131] 132 1683 (jj_nw u (0, 12, 46))
  refine jg_call (o := (82, 12, 12, 1, 0)) (as := [.ref 131]) (rest := [.ref 131]) 400 f1 f2 rfl ⟨by decide, by decide⟩ rfl c2 (by rw [t3, s2.1]; decide +kernel) (by rw [t4, s2.2]; decide +kernel) ?_
  rw [t3, t4, s2.1, s2.2]
  show jj_G X 179 room_1 Z 15 [some (.ref 4000000), some (.ref 0), none, none] [.ref 131] 172 (z_S (fun _ _ => 0)).2.2.2.2 v
  refine jg_same (τ := z_S m) t3.symm hsame ?_
  refine jg_st f1 f2 (by decide +kernel) (by decide +kernel) rfl ?_
  show jj_G X 179 room_1 Z 16 [some (.ref 4000000), some (.ref 0), some (.ref 131), none] [] 172 (z_S (fun _ _ => 0)).2.2.2.2 (z_S m)
  refine jg_st f1 f2 (by decide +kernel) (by decide +kernel) rfl ?_
  show jj_G X 179 room_1 Z 17 [some (.ref 4000000), some (.ref 0), some (.ref 131), none] [.int 0] 172 (z_S (fun _ _ => 0)).2.2.2.2 (z_S m)
  refine jg_st f1 f2 (by decide +kernel) (by decide +kernel) rfl ?_
  exact g
theorem z_c1x (xs : jx_Xs) : jx_run xs 4000 11 0 (jx_ent 11 [.ref 0]) [] z_s1 = some (none, z_t1) := (jx_xs xs z_x0 4000 (by decide)).trans z_c1_eq
theorem z_c2x (xs : jx_Xs) : jx_run xs 400 12 0 (jx_ent 12 [.ref 131]) [] (jj_nw z_t1 (0, 12, 46)) = some (none, z_t2) := (jx_xs xs z_x0 400 (by decide)).trans z_c2_eq
theorem z_head {X : jj_X} {Z : List Frame → Array Value → State → State → Prop} (g : jj_G X 179 room_1 Z 18 [some (.ref 4000000), some (.ref 0), some (.ref 131), some (.int 0)] [] 172 (z_S (fun _ _ => 0)).2.2.2.2 (z_S z_t2.1)) : jj_G X 179 room_1 Z 0 (jx_ent 179 [.ref 4000000]) [] 0 0 z_s0 :=
  z_head0 z_tops.1 z_tops.2.1 z_tops.2.2.1 z_tops.2.2.2 (z_c1x _) (z_c2x _) z_same g
/-- the law's end -/
theorem z_end {X : jj_X} {τ : jj_S} {K N : Nat} (hK : K ≤ 600000) (hN : N ≤ 7302249) : jj_End X 179 room_1 lw_Z (some (.int 1)) τ K N := by
  intro p e s m args below meth c H locs ls pc V P S
  refine ⟨fun h => (by cases h), fun v ty hr hR hn hd => ?_, fun i ty h => (by cases h)⟩
  cases hr
  obtain ⟨-, -, -, ha, hs⟩ := V.2.2.2.2.2.2.2.2.2.2 rfl
  subst ha
  refine va_forget (fun q hq => ?_) (W.widen hK hN (lw_ret V.1 V.2.1 V.2.2.2.2.2.1 V.2.2.2.2.2.2.1 hd))
  rw [← hs]
  exact S.2.2 q hq
/-- what is left: the law's loop on the small machine -/
def z_Loop : Prop := ∀ (N : Nat) (xs : Nat → Int32), N ≤ 3072 → ez (N, xs) 179 18 [some (.ref 4000000), some (.ref 0), some (.ref 131), some (.int 0)] [] z_t2.1 (fun r _ => r = some (.int 1))
theorem z_loop_G {X : jj_X} {m : zM} (hloop : ez X.2.2.2.2.2 179 18 [some (.ref 4000000), some (.ref 0), some (.ref 131), some (.int 0)] [] m (fun r _ => r = some (.int 1))) : jj_G X 179 room_1 lw_Z 18 [some (.ref 4000000), some (.ref 0), some (.ref 131), some (.int 0)] [] 172 (z_S (fun _ _ => 0)).2.2.2.2 (z_S m) := by
  obtain ⟨f, r, τ, hrun, m', rfl, rfl⟩ := hloop
  exact jx_sound f hrun (R := room_1) (K := 172) (N := (z_S (fun _ _ => 0)).2.2.2.2) (by decide +kernel) (by decide +kernel) rfl rfl (by decide +kernel) (by decide +kernel) (z_end (by decide) (by decide +kernel))
set_option maxHeartbeats 4000000 in
theorem whole_start_open (hloop : z_Loop) {p : Program} {e : Env} {s : State} {m : MethodId} {below : List Frame} {meth : Method} {c : Code} (l : Launch) {b L : Nat} {xs : Nat → Int32} (hL : L ≤ 3072) (C0 : lw_At p s m meth c b L xs) : W p l e room_1 s m #[Value.ref b] below meth c s.heap [] 0 0 (lw_Z below #[Value.ref b] s) (entryFrame m ([Value.ref b] : List Value).toArray 4) := by
  obtain ⟨X, x1, x2, x3, x4, hK⟩ := jj_init l C0
  obtain ⟨hx, hb, hr, hml, hown, hts, hX, hbl, hlk, hgv⟩ := C0
  subst x1
  subst x3
  have hlp := hloop L xs hL
  rw [← x4] at hlp
  have hG : jj_G X 179 room_1 lw_Z 0 (jx_ent 179 [.ref 4000000]) [] 0 0 z_s0 := z_head (z_loop_G hlp)
  have hl := lv_entry ([Value.ref (X.2.2.2.1 4000000)]) (n := 4) (Nat.le_of_ble_eq_true rfl)
  rw [lg_entry_eq]
  generalize (lg_sl ([Value.ref (X.2.2.2.1 4000000)]) ++ List.replicate (4 - (lg_sl ([Value.ref (X.2.2.2.1 4000000)])).length) Slot.unset).toArray = ls at hl ⊢
  refine hG p e s m _ below meth c s.heap [] ls ⟨hx, hb, hml, hown, fun w hw => hts w (List.mem_filter.mp hw).1, hr, hlk, fun h => absurd h (by decide +kernel), hK, Nat.le_of_eq x2, fun _ => ⟨?_, hbl, ?_, rfl, x2⟩⟩ ⟨by decide, fun i q hq => by cases hq⟩ va_S.rf ?_ (by rw [x2]; rfl)
  · rw [x4]
    exact hX
  · show ¬ X.2.2.1 ≤ _
    rw [x2]
    exact Nat.not_le.mpr hbl
  · exact jj_entry (X := X) (y := 179) (as := [.ref 4000000]) (fun v hv => by rw [List.mem_singleton.mp hv]; rfl) (by decide) hl
