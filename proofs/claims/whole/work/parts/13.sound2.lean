/-! Fields, arrays, constants: each step of the small machine is one of the real one. -/
theorem jx_obj_of {σ : jj_S} {i b d : Nat} (h : jx_obj σ i b d = true) : i < σ.2.2.2.1 ∧ (σ.2.2.1 i).1 = 0 ∧ (σ.2.2.1 i).2.1 = b ∧ d < jt_n b := by
  unfold jx_obj at h
  obtain ⟨h1, h⟩ := jx_and h
  obtain ⟨h2, h⟩ := jx_and h
  obtain ⟨h3, h4⟩ := jx_and h
  exact ⟨of_decide_eq_true h1, of_decide_eq_true h2, of_decide_eq_true h3, of_decide_eq_true h4⟩
theorem jx_arr_of {σ : jj_S} {q t i : Nat} {x : Int32} (h : jx_arr σ q t i x = true) : i < σ.2.2.2.1 ∧ (σ.2.2.1 i).1 = q ∧ (σ.2.2.1 i).2.1 = t ∧ vp_in x (σ.2.2.1 i).2.2 := by
  unfold jx_arr at h
  obtain ⟨h1, h⟩ := jx_and h
  obtain ⟨h2, h⟩ := jx_and h
  obtain ⟨h3, h⟩ := jx_and h
  obtain ⟨h4, h5⟩ := jx_and h
  refine ⟨of_decide_eq_true h1, of_decide_eq_true h2, of_decide_eq_true h3, fun hh => ?_⟩
  have h5 := of_decide_eq_true h5
  rcases hh with hh | hh
  · rw [decide_eq_true hh] at h4; cases h4
  · omega
theorem jj_fs_at {X : jj_X} {σ : jj_S} {i b d : Nat} (h : d < jt_n b) : (jj_fs X σ i b)[d]? = some (jj_cv X (if jt_rf b d = true then jx_rf (σ.2.1 i d) else .int (σ.1 i d))) := by
  unfold jj_fs
  rw [List.getElem?_map, List.getElem?_range h]
  show some (if jt_rf b d = true then va_rf ((σ.2.1 i d).map (jj_ad X)) else .int (σ.1 i d)) = some _
  congr 1
  by_cases hr : jt_rf b d = true
  · rw [if_pos hr, if_pos hr, jj_cv_rf]
  · rw [if_neg hr, if_neg hr]; rfl
theorem jj_fs_len {X : jj_X} {σ : jj_S} {i b : Nat} : (jj_fs X σ i b).length = jt_n b := by simp [jj_fs]
theorem jj_fs_up {X : jj_X} {σ : jj_S} {i b d : Nat} {x : Int32} (hd : d < jt_n b) (hr : jt_rf b d = false) : (jj_fs X σ i b).set d (.int x) = jj_fs X (jj_up σ.1 i d x, σ.2.1, σ.2.2) i b := by
  apply List.ext_getElem?
  intro j
  rw [List.getElem?_set, jj_fs_len]
  by_cases hj : d = j
  · subst hj
    rw [if_pos rfl, if_pos hd, jj_fs_at hd, if_neg (by rw [hr]; decide)]
    simp [jj_up, upd, jj_cv]
  · rw [if_neg hj]
    by_cases hl : j < jt_n b
    · rw [jj_fs_at hl, jj_fs_at hl]
      simp only [jj_up, if_pos, upd]
      rw [if_neg (Ne.symm hj)]
    · rw [List.getElem?_eq_none (by rw [jj_fs_len]; omega), List.getElem?_eq_none (by rw [jj_fs_len]; omega)]
theorem jj_fs_ur {X : jj_X} {σ : jj_S} {i b d v : Nat} (hd : d < jt_n b) (hr : jt_rf b d = true) : (jj_fs X σ i b).set d (.ref (jj_ad X v)) = jj_fs X (σ.1, jj_ur σ.2.1 i d (some v), σ.2.2) i b := by
  apply List.ext_getElem?
  intro j
  rw [List.getElem?_set, jj_fs_len]
  by_cases hj : d = j
  · subst hj
    rw [if_pos rfl, if_pos hd, jj_fs_at hd, if_pos hr]
    simp [jj_ur, va_up, jj_cv, jx_rf]
  · rw [if_neg hj]
    by_cases hl : j < jt_n b
    · rw [jj_fs_at hl, jj_fs_at hl]
      simp only [jj_ur, if_pos, va_up]
      rw [if_neg (Ne.symm hj)]
    · rw [List.getElem?_eq_none (by rw [jj_fs_len]; omega), List.getElem?_eq_none (by rw [jj_fs_len]; omega)]
theorem jj_fs_eq {X : jj_X} {σ τ : jj_S} {i b : Nat} (h1 : τ.1 i = σ.1 i) (h2 : τ.2.1 i = σ.2.1 i) : jj_fs X τ i b = jj_fs X σ i b := by
  unfold jj_fs
  rw [h1, h2]
theorem jj_E_eq {X : jj_X} {σ τ : jj_S} {i : Nat} (h1 : τ.1 i = σ.1 i) (h2 : τ.2.1 i = σ.2.1 i) (h3 : τ.2.2.1 i = σ.2.2.1 i) : jj_E X τ i = jj_E X σ i := by
  unfold jj_E
  rw [h3, h1, h2, jj_fs_eq h1 h2]
theorem jj_up_ne {f : Nat → Nat → Int32} {i k j : Nat} {x : Int32} (h : j ≠ i) : jj_up f i k x j = f j := if_neg h
theorem jj_up_at {f : Nat → Nat → Int32} {i k : Nat} {x : Int32} : jj_up f i k x i = upd (f i) k x := if_pos rfl
theorem jj_ur_ne {f : Nat → Nat → Option Nat} {i k j : Nat} {x : Option Nat} (h : j ≠ i) : jj_ur f i k x j = f j := if_neg h
theorem jj_ur_at {f : Nat → Nat → Option Nat} {i k : Nat} {x : Option Nat} : jj_ur f i k x i = va_up (f i) k x := if_pos rfl
theorem jj_P.obj {X : jj_X} {σ : jj_S} {i b d : Nat} (ho : jx_obj σ i b d = true) : (jj_wl X σ)[i]? = some (jj_ad X i, .inr (b, jj_fs X σ i b)) := by
  obtain ⟨h1, h2, h3, h4⟩ := jx_obj_of ho
  rw [jj_wl_at h1, jj_E0 h2, h3]
theorem jj_P.num {X : jj_X} {σ : jj_S} {i t : Nat} {x : Int32} (ho : jx_arr σ 1 t i x = true) : (jj_wl X σ)[i]? = some (jj_ad X i, .inl (X.2.2.2.2.1 t, (σ.2.2.1 i).2.2, .inl (σ.1 i))) := by
  obtain ⟨h1, h2, h3, h4⟩ := jx_arr_of ho
  rw [jj_wl_at h1, jj_E1 h2, h3]
theorem jj_P.rfs {X : jj_X} {σ : jj_S} {i t : Nat} {x : Int32} (ho : jx_arr σ 2 t i x = true) : (jj_wl X σ)[i]? = some (jj_ad X i, .inl (X.2.2.2.2.1 t, (σ.2.2.1 i).2.2, .inr (.inr (.inr (.inr fun j => (σ.2.1 i j).map (jj_ad X)))))) := by
  obtain ⟨h1, h2, h3, h4⟩ := jx_arr_of ho
  rw [jj_wl_at h1, jj_E2 h2, h3]
section JI
variable {pc a b d len t : Nat} {c : Int32} {L : jx_L} {st : List Value} {σ : jj_S} {q : jx_N}
theorem ji_get (h : jx_get pc a b d c L st σ = some q) : ∃ i r, st = .ref i :: r ∧ jx_obj σ i b d = true ∧ q = (pc + 3, L, (if jt_rf b d = true then jx_rf (σ.2.1 i d) else .int (σ.1 i d)) :: r, σ.1, σ.2.1) := by
  unfold jx_get at h
  split at h
  · split at h
    · cases h; exact ⟨_, _, rfl, by assumption, rfl⟩
    · cases h
  · cases h
theorem ji_put (h : jx_put pc a b d c L st σ = some q) : (∃ x i r, st = .int x :: .ref i :: r ∧ jx_obj σ i b d = true ∧ (jt_rf b d = false ∧ jx_fit (jt_ft b d) x = true) ∧ q = (pc + 3, L, r, jj_up σ.1 i d x, σ.2.1)) ∨
    (∃ x i r, st = .ref x :: .ref i :: r ∧ jx_obj σ i b d = true ∧ (jt_rf b d = true ∧ jx_isr (jt_ft b d) = true) ∧ q = (pc + 3, L, r, σ.1, jj_ur σ.2.1 i d (some x))) := by
  unfold jx_put at h
  split at h
  · split at h
    · split at h
      · cases h; exact Or.inl ⟨_, _, _, rfl, by assumption, by assumption, rfl⟩
      · cases h
    · cases h
  · split at h
    · split at h
      · cases h; exact Or.inr ⟨_, _, _, rfl, by assumption, by assumption, rfl⟩
      · cases h
    · cases h
  · cases h
theorem ji_nld (h : jx_nld t pc a b d c L st σ = some q) : ∃ x i r, st = .int x :: .ref i :: r ∧ jx_arr σ 1 t i x = true ∧ q = (pc + 1, L, .int (σ.1 i x.toNatClampNeg) :: r, σ.1, σ.2.1) := by
  unfold jx_nld at h
  split at h
  · split at h
    · cases h; exact ⟨_, _, _, rfl, by assumption, rfl⟩
    · cases h
  · cases h
theorem ji_rld (h : jx_rld pc a b d c L st σ = some q) : ∃ x i r, st = .int x :: .ref i :: r ∧ (jx_arr σ 2 (σ.2.2.1 i).2.1 i x = true ∧ jx_obt (σ.2.2.1 i).2.1 = true) ∧ q = (pc + 1, L, jx_rf (σ.2.1 i x.toNatClampNeg) :: r, σ.1, σ.2.1) := by
  unfold jx_rld at h
  split at h
  · split at h
    · cases h; exact ⟨_, _, _, rfl, by assumption, rfl⟩
    · cases h
  · cases h
theorem ji_nst {f : Int32 → Int32} (h : jx_nst t f pc a b d c L st σ = some q) : ∃ v x i r, st = .int v :: .int x :: .ref i :: r ∧ jx_arr σ 1 t i x = true ∧ q = (pc + 1, L, r, jj_up σ.1 i x.toNatClampNeg (f v), σ.2.1) := by
  unfold jx_nst at h
  split at h
  · split at h
    · cases h; exact ⟨_, _, _, _, rfl, by assumption, rfl⟩
    · cases h
  · cases h
theorem ji_rst (h : jx_rst pc a b d c L st σ = some q) : ∃ v x i r, st = .ref v :: .int x :: .ref i :: r ∧ (jx_arr σ 2 b i x = true ∧ v < σ.2.2.2.1 ∧ (σ.2.2.1 v).1 = 0 ∧ (σ.2.2.1 v).2.1 = d) ∧ q = (pc + 1, L, r, σ.1, jj_ur σ.2.1 i x.toNatClampNeg (some v)) := by
  unfold jx_rst at h
  split at h
  · split at h
    · cases h; exact ⟨_, _, _, _, rfl, by assumption, rfl⟩
    · cases h
  · cases h
theorem ji_len (h : jx_len pc a b d c L st σ = some q) : ∃ i r, st = .ref i :: r ∧ (i < σ.2.2.2.1 ∧ ((σ.2.2.1 i).1 = 1 ∨ (σ.2.2.1 i).1 = 2) ∧ (σ.2.2.1 i).2.1 < jt_ty.length) ∧ q = (pc + 1, L, .int (Int32.ofNat (σ.2.2.1 i).2.2) :: r, σ.1, σ.2.1) := by
  unfold jx_len at h
  split at h
  · split at h
    · cases h; exact ⟨_, _, rfl, by assumption, rfl⟩
    · cases h
  · cases h
end JI
theorem js_3 : jx_Snd 3 := by
  intro X y R Z k n pc a b d c L st σ q hfr hlo hk0 hn0 hd hc h g
  have hq := Option.some.inj h
  subst hq
  intro p e s m args below meth cc H locs ls V P S hl hz
  exact W.ldc V.1 V.2.1 V.2.2.2.1 (V.2.2.2.2.1 _ (jt_lc_ok (of_decide_eq_true (p := (jt_c y, a, c) ∈ jt_lc) hc))) rfl hd (g p e s m args below meth cc H locs ls V P S hl hz)
theorem js_45 : jx_Snd 45 := by
  intro X y R Z k n pc a b d c L st σ q hfr hlo hk0 hn0 hd hc h g
  obtain ⟨i, r, rfl, ho, rfl⟩ := ji_get (a := a) (b := b) (d := d) (c := c) h
  obtain ⟨hm, hb⟩ := jx_and (a := decide ((jt_c y, a, b, d) ∈ jt_lf)) (b := decide (b < jt_C.length)) hc
  have hb := of_decide_eq_true hb
  intro p e s m args below meth cc H locs ls V P S hl hz
  exact va_get V.1 V.2.1 V.2.2.2.2.1 (jt_lays hb) V.2.2.2.1 V.2.2.2.2.2.2.2.2.1.1 P.2 i (jj_P.obj ho) (jt_cl_at hb) d (jx_obj_of ho).2.2.2 (V.2.2.2.2.1 _ (jt_lf_ok (of_decide_eq_true hm)).1) (fun _ hh => hh) (jj_fs_at (jx_obj_of ho).2.2.2) hd (g p e s m args below meth cc H locs ls V P S hl hz)
theorem js_46 : jx_Snd 46 := by
  intro X y R Z k n pc a b d c L st σ q hfr hlo hk0 hn0 hd hc h g
  obtain ⟨i, r, rfl, ho, rfl⟩ := ji_get (a := a) (b := b) (d := d) (c := c) h
  obtain ⟨hm, hb⟩ := jx_and (a := decide ((jt_c y, a, b, d) ∈ jt_ln)) (b := decide (b < jt_C.length)) hc
  have hb := of_decide_eq_true hb
  intro p e s m args below meth cc H locs ls V P S hl hz
  exact va_getN V.1 V.2.1 V.2.2.2.2.1 (jt_lays hb) V.2.2.2.1 V.2.2.2.2.2.2.2.2.1.1 P.2 i (jj_P.obj ho) (jt_cl_at hb) d (jx_obj_of ho).2.2.2 (va_Nw.use rfl (V.2.2.2.2.2.2.2.2.1.2.1 (jt_c y, a, b, d) (of_decide_eq_true hm))) (fun _ hh => hh) (jj_fs_at (jx_obj_of ho).2.2.2) hd (g p e s m args below meth cc H locs ls V P S hl hz)
theorem jx_fit_of {t : FieldType} {x : Int32} (h : jx_fit t x = true) : narrow t (.int x) = .int x ∧ fits t (.int x) = true := by
  unfold jx_fit at h
  split at h
  · exact ⟨rfl, rfl⟩
  · rcases of_decide_eq_true h with rfl | rfl <;> exact ⟨by decide, by decide⟩
  · cases h
theorem jx_isr_of {t : FieldType} {x : Nat} (h : jx_isr t = true) : narrow t (.ref x) = .ref x ∧ fits t (.ref x) = true := by
  unfold jx_isr at h
  split at h
  · exact ⟨rfl, rfl⟩
  · exact ⟨rfl, rfl⟩
  · cases h
/-- the store behind a number put -/
theorem jj_P.putn {X : jj_X} {σ : jj_S} {i b d : Nat} {x : Int32} {H1 : Heap} (hT : σ.2.2.2.1 ≤ 1000000) (ho : jx_obj σ i b d = true) (hr : jt_rf b d = false) (h : va_P X.2.1 jt_cl ((jj_wl X σ).set i (jj_ad X i, .inr (b, (jj_fs X σ i b).set d (.int x)))) H1) : jj_P X (jj_up σ.1 i d x, σ.2.1, σ.2.2) H1 := by
  obtain ⟨h1, h2, h3, h4⟩ := jx_obj_of ho
  refine ⟨hT, ?_⟩
  rw [jj_wl_set (τ := (jj_up σ.1 i d x, σ.2.1, σ.2.2)) h1 rfl ?_ (fun j hj => jj_E_eq (jj_up_ne hj) rfl rfl)] at h
  · exact h
  · rw [jj_E0 (σ := (jj_up σ.1 i d x, σ.2.1, σ.2.2)) h2]
    show Sum.inr ((σ.2.2.1 i).2.1, jj_fs X (jj_up σ.1 i d x, σ.2.1, σ.2.2) i (σ.2.2.1 i).2.1) = _
    rw [h3, jj_fs_up h4 hr]
theorem jj_P.putr {X : jj_X} {σ : jj_S} {i b d v : Nat} {H1 : Heap} (hT : σ.2.2.2.1 ≤ 1000000) (ho : jx_obj σ i b d = true) (hr : jt_rf b d = true) (h : va_P X.2.1 jt_cl ((jj_wl X σ).set i (jj_ad X i, .inr (b, (jj_fs X σ i b).set d (.ref (jj_ad X v))))) H1) : jj_P X (σ.1, jj_ur σ.2.1 i d (some v), σ.2.2) H1 := by
  obtain ⟨h1, h2, h3, h4⟩ := jx_obj_of ho
  refine ⟨hT, ?_⟩
  rw [jj_wl_set (τ := (σ.1, jj_ur σ.2.1 i d (some v), σ.2.2)) h1 rfl ?_ (fun j hj => jj_E_eq rfl (jj_ur_ne hj) rfl)] at h
  · exact h
  · rw [jj_E0 (σ := (σ.1, jj_ur σ.2.1 i d (some v), σ.2.2)) h2]
    show Sum.inr ((σ.2.2.1 i).2.1, jj_fs X (σ.1, jj_ur σ.2.1 i d (some v), σ.2.2) i (σ.2.2.1 i).2.1) = _
    rw [h3, jj_fs_ur h4 hr]
theorem js_47 : jx_Snd 47 := by
  intro X y R Z k n pc a b d c L st σ q hfr hlo hk0 hn0 hd hc h g
  obtain ⟨hmb, hf⟩ := jx_and (a := (decide ((jt_c y, a, b, d) ∈ jt_lf) && decide (b < jt_C.length))) (b := decide ((jt_T b d).2.2.2 = false)) hc
  obtain ⟨hm, hb⟩ := jx_and hmb
  have hb := of_decide_eq_true hb
  have hf := of_decide_eq_true hf
  rcases ji_put (a := a) (b := b) (d := d) (c := c) h with ⟨x, i, r, rfl, ho, ⟨h1, h2⟩, rfl⟩ | ⟨x, i, r, rfl, ho, ⟨h1, h2⟩, rfl⟩
  · intro p e s m args below meth cc H locs ls V P S hl hz
    exact va_put (v := .int x) V.1 V.2.1 V.2.2.2.2.1 (jt_lays hb) (jt_ft b) (jt_desc hb) (jt_names hb) V.2.2.2.1 V.2.2.2.2.2.2.2.2.1.1 P.2 P.D S i (jj_P.obj ho) (jt_cl_at hb) d (jx_obj_of ho).2.2.2 (V.2.2.2.2.1 _ (jt_lf_ok (of_decide_eq_true hm)).1) (fun _ hh => hh) hf (jt_desc hb d (jx_obj_of ho).2.2.2) (jx_fit_of h2).1 (jx_fit_of h2).2 (by rw [jj_fs_len]; exact (jx_obj_of ho).2.2.2) hd (fun H1 locs1 hP1 _ hS1 => g p e s m args below meth cc H1 locs1 ls V (jj_P.putn P.1 ho h1 hP1) hS1 hl hz)
  · intro p e s m args below meth cc H locs ls V P S hl hz
    exact va_put (v := .ref (jj_ad X x)) V.1 V.2.1 V.2.2.2.2.1 (jt_lays hb) (jt_ft b) (jt_desc hb) (jt_names hb) V.2.2.2.1 V.2.2.2.2.2.2.2.2.1.1 P.2 P.D S i (jj_P.obj ho) (jt_cl_at hb) d (jx_obj_of ho).2.2.2 (V.2.2.2.2.1 _ (jt_lf_ok (of_decide_eq_true hm)).1) (fun _ hh => hh) hf (jt_desc hb d (jx_obj_of ho).2.2.2) (jx_isr_of h2).1 (jx_isr_of h2).2 (by rw [jj_fs_len]; exact (jx_obj_of ho).2.2.2) hd (fun H1 locs1 hP1 _ hS1 => g p e s m args below meth cc H1 locs1 ls V (jj_P.putr P.1 ho h1 hP1) hS1 hl hz)
theorem js_48 : jx_Snd 48 := by
  intro X y R Z k n pc a b d c L st σ q hfr hlo hk0 hn0 hd hc h g
  obtain ⟨hmb, hf⟩ := jx_and (a := (decide ((jt_c y, a, b, d) ∈ jt_lf) && decide (b < jt_C.length))) (b := (decide ((jt_T b d).2.2.2 = true) && decide (jt_ini.getD y false = true))) hc
  obtain ⟨hm, hb⟩ := jx_and hmb
  have hb := of_decide_eq_true hb
  obtain ⟨hf, hi0⟩ := jx_and hf
  have hf := of_decide_eq_true hf
  have hi0 := jt_ini_ok (of_decide_eq_true hi0)
  rcases ji_put (a := a) (b := b) (d := d) (c := c) h with ⟨x, i, r, rfl, ho, ⟨h1, h2⟩, rfl⟩ | ⟨x, i, r, rfl, ho, ⟨h1, h2⟩, rfl⟩
  · intro p e s m args below meth cc H locs ls V P S hl hz
    exact va_putF (v := .int x) V.1 V.2.1 V.2.2.2.2.1 (jt_lays hb) (jt_ft b) (jt_desc hb) (jt_names hb) V.2.2.2.1 V.2.2.2.2.2.2.2.2.1.1 P.2 P.D S i (jj_P.obj ho) (jt_cl_at hb) d (jx_obj_of ho).2.2.2 (V.2.2.2.2.1 _ (jt_lf_ok (of_decide_eq_true hm)).1) (fun _ hh => hh) hf (V.2.2.2.2.2.2.2.1 hi0) (jt_lf_ok (of_decide_eq_true hm)).2 (jt_desc hb d (jx_obj_of ho).2.2.2) (jx_fit_of h2).1 (jx_fit_of h2).2 (by rw [jj_fs_len]; exact (jx_obj_of ho).2.2.2) hd (fun H1 locs1 hP1 _ hS1 => g p e s m args below meth cc H1 locs1 ls V (jj_P.putn P.1 ho h1 hP1) hS1 hl hz)
  · intro p e s m args below meth cc H locs ls V P S hl hz
    exact va_putF (v := .ref (jj_ad X x)) V.1 V.2.1 V.2.2.2.2.1 (jt_lays hb) (jt_ft b) (jt_desc hb) (jt_names hb) V.2.2.2.1 V.2.2.2.2.2.2.2.2.1.1 P.2 P.D S i (jj_P.obj ho) (jt_cl_at hb) d (jx_obj_of ho).2.2.2 (V.2.2.2.2.1 _ (jt_lf_ok (of_decide_eq_true hm)).1) (fun _ hh => hh) hf (V.2.2.2.2.2.2.2.1 hi0) (jt_lf_ok (of_decide_eq_true hm)).2 (jt_desc hb d (jx_obj_of ho).2.2.2) (jx_isr_of h2).1 (jx_isr_of h2).2 (by rw [jj_fs_len]; exact (jx_obj_of ho).2.2.2) hd (fun H1 locs1 hP1 _ hS1 => g p e s m args below meth cc H1 locs1 ls V (jj_P.putr P.1 ho h1 hP1) hS1 hl hz)
theorem js_49 : jx_Snd 49 := by
  intro X y R Z k n pc a b d c L st σ q hfr hlo hk0 hn0 hd hc h g
  obtain ⟨hmb, hf⟩ := jx_and (a := (decide ((jt_c y, a, b, d) ∈ jt_ln) && decide (b < jt_C.length))) (b := decide ((jt_T b d).2.2.2 = false)) hc
  obtain ⟨hm, hb⟩ := jx_and hmb
  have hb := of_decide_eq_true hb
  have hf := of_decide_eq_true hf
  rcases ji_put (a := a) (b := b) (d := d) (c := c) h with ⟨x, i, r, rfl, ho, ⟨h1, h2⟩, rfl⟩ | ⟨x, i, r, rfl, ho, ⟨h1, h2⟩, rfl⟩
  · intro p e s m args below meth cc H locs ls V P S hl hz
    exact va_putN (v := .int x) V.1 V.2.1 V.2.2.2.2.1 (jt_lays hb) (jt_ft b) (jt_desc hb) (jt_names hb) V.2.2.2.1 V.2.2.2.2.2.2.2.2.1.1 P.2 P.D S i (jj_P.obj ho) (jt_cl_at hb) d (jx_obj_of ho).2.2.2 (va_Nw.use rfl (V.2.2.2.2.2.2.2.2.1.2.1 (jt_c y, a, b, d) (of_decide_eq_true hm))) (fun _ hh => hh) hf (jt_desc hb d (jx_obj_of ho).2.2.2) (jx_fit_of h2).1 (jx_fit_of h2).2 (by rw [jj_fs_len]; exact (jx_obj_of ho).2.2.2) hd (fun H1 locs1 hP1 _ hS1 => g p e s m args below meth cc H1 locs1 ls V (jj_P.putn P.1 ho h1 hP1) hS1 hl hz)
  · intro p e s m args below meth cc H locs ls V P S hl hz
    exact va_putN (v := .ref (jj_ad X x)) V.1 V.2.1 V.2.2.2.2.1 (jt_lays hb) (jt_ft b) (jt_desc hb) (jt_names hb) V.2.2.2.1 V.2.2.2.2.2.2.2.2.1.1 P.2 P.D S i (jj_P.obj ho) (jt_cl_at hb) d (jx_obj_of ho).2.2.2 (va_Nw.use rfl (V.2.2.2.2.2.2.2.2.1.2.1 (jt_c y, a, b, d) (of_decide_eq_true hm))) (fun _ hh => hh) hf (jt_desc hb d (jx_obj_of ho).2.2.2) (jx_isr_of h2).1 (jx_isr_of h2).2 (by rw [jj_fs_len]; exact (jx_obj_of ho).2.2.2) hd (fun H1 locs1 hP1 _ hS1 => g p e s m args below meth cc H1 locs1 ls V (jj_P.putr P.1 ho h1 hP1) hS1 hl hz)
theorem jj_P.aput {X : jj_X} {σ : jj_S} {i t : Nat} {x v : Int32} {H1 : Heap} (hT : σ.2.2.2.1 ≤ 1000000) (ho : jx_arr σ 1 t i x = true) (h : va_P X.2.1 jt_cl ((jj_wl X σ).set i (jj_ad X i, .inl (X.2.2.2.2.1 t, (σ.2.2.1 i).2.2, .inl (upd (σ.1 i) x.toNatClampNeg v)))) H1) : jj_P X (jj_up σ.1 i x.toNatClampNeg v, σ.2.1, σ.2.2) H1 := by
  obtain ⟨h1, h2, h3, h4⟩ := jx_arr_of ho
  refine ⟨hT, ?_⟩
  rw [jj_wl_set (τ := (jj_up σ.1 i x.toNatClampNeg v, σ.2.1, σ.2.2)) h1 rfl ?_ (fun j hj => jj_E_eq (jj_up_ne hj) rfl rfl)] at h
  · exact h
  · rw [jj_E1 (σ := (jj_up σ.1 i x.toNatClampNeg v, σ.2.1, σ.2.2)) h2]
    show Sum.inl (X.2.2.2.2.1 (σ.2.2.1 i).2.1, (σ.2.2.1 i).2.2, Sum.inl (jj_up σ.1 i x.toNatClampNeg v i)) = _
    rw [h3, jj_up_at]
theorem jj_P.aputr {X : jj_X} {σ : jj_S} {i t v : Nat} {x : Int32} {H1 : Heap} (hT : σ.2.2.2.1 ≤ 1000000) (ho : jx_arr σ 2 t i x = true) (h : va_P X.2.1 jt_cl ((jj_wl X σ).set i (jj_ad X i, .inl (X.2.2.2.2.1 t, (σ.2.2.1 i).2.2, .inr (.inr (.inr (.inr (va_up (fun j => (σ.2.1 i j).map (jj_ad X)) x.toNatClampNeg (some (jj_ad X v))))))))) H1) : jj_P X (σ.1, jj_ur σ.2.1 i x.toNatClampNeg (some v), σ.2.2) H1 := by
  obtain ⟨h1, h2, h3, h4⟩ := jx_arr_of ho
  refine ⟨hT, ?_⟩
  rw [jj_wl_set (τ := (σ.1, jj_ur σ.2.1 i x.toNatClampNeg (some v), σ.2.2)) h1 rfl ?_ (fun j hj => jj_E_eq rfl (jj_ur_ne hj) rfl)] at h
  · exact h
  · rw [jj_E2 (σ := (σ.1, jj_ur σ.2.1 i x.toNatClampNeg (some v), σ.2.2)) h2]
    show Sum.inl (X.2.2.2.2.1 (σ.2.2.1 i).2.1, (σ.2.2.1 i).2.2, Sum.inr (Sum.inr (Sum.inr (Sum.inr (fun j => (jj_ur σ.2.1 i x.toNatClampNeg (some v) i j).map (jj_ad X)))))) = _
    rw [h3, jj_ur_at]
    congr 7
    funext j
    unfold va_up
    by_cases hj : j = x.toNatClampNeg
    · rw [if_pos hj, if_pos hj]; rfl
    · rw [if_neg hj, if_neg hj]
theorem js_50 : jx_Snd 50 := by
  intro X y R Z k n pc a b d c L st σ q hfr hlo hk0 hn0 hd hc h g
  obtain ⟨x, i, r, rfl, ho, rfl⟩ := ji_nld (a := a) (b := b) (d := d) (c := c) (t := 0) h
  intro p e s m args below meth cc H locs ls V P S hl hz
  exact va_iald V.1 V.2.1 V.2.2.2.2.2.2.2.2.1.1 P.2 i 0 (jj_P.num ho) (jj_tys_at rfl) (jx_arr_of ho).2.2.2 hd (g p e s m args below meth cc H locs ls V P S hl hz)
theorem js_51 : jx_Snd 51 := by
  intro X y R Z k n pc a b d c L st σ q hfr hlo hk0 hn0 hd hc h g
  obtain ⟨x, i, r, rfl, ho, rfl⟩ := ji_nld (a := a) (b := b) (d := d) (c := c) (t := 1) h
  intro p e s m args below meth cc H locs ls V P S hl hz
  exact va_cald V.1 V.2.1 V.2.2.2.2.2.2.2.2.1.1 P.2 i 1 (jj_P.num ho) (jj_tys_at rfl) (jx_arr_of ho).2.2.2 hd (g p e s m args below meth cc H locs ls V P S hl hz)
theorem js_52 : jx_Snd 52 := by
  intro X y R Z k n pc a b d c L st σ q hfr hlo hk0 hn0 hd hc h g
  obtain ⟨x, i, r, rfl, ho, rfl⟩ := ji_nld (a := a) (b := b) (d := d) (c := c) (t := 2) h
  intro p e s m args below meth cc H locs ls V P S hl hz
  exact va_zald V.1 V.2.1 V.2.2.2.2.2.2.2.2.1.1 P.2 i 2 (jj_P.num ho) (jj_tys_at rfl) (jx_arr_of ho).2.2.2 hd (g p e s m args below meth cc H locs ls V P S hl hz)
theorem jx_obt_of {t : Nat} (h : jx_obt t = true) : ∃ C, jt_ty[t]? = some (.object C) := by
  unfold jx_obt at h
  split at h
  · exact ⟨_, by assumption⟩
  · cases h
theorem js_53 : jx_Snd 53 := by
  intro X y R Z k n pc a b d c L st σ q hfr hlo hk0 hn0 hd hc h g
  obtain ⟨x, i, r, rfl, ⟨ho, hob⟩, rfl⟩ := ji_rld (a := a) (b := b) (d := d) (c := c) h
  obtain ⟨C, hty⟩ := jx_obt_of hob
  intro p e s m args below meth cc H locs ls V P S hl hz
  have g2 := g p e s m args below meth cc H locs ls V P S hl hz
  have e1 : List.map (jj_cv X) (jx_rf (σ.2.1 i x.toNatClampNeg) :: r) = va_rf ((σ.2.1 i x.toNatClampNeg).map (jj_ad X)) :: List.map (jj_cv X) r := by rw [List.map_cons, jj_cv_rf]
  exact va_aldq (f := fun j => (σ.2.1 i j).map (jj_ad X)) V.1 V.2.1 V.2.2.2.2.2.2.2.2.1.1 P.2 i _ (jj_P.rfs ho) (jj_tys_at hty) (jx_arr_of ho).2.2.2 hd (W.eq (by show F0 _ _ _ _ = F0 _ _ _ _; rw [← e1]) g2)
theorem js_55 : jx_Snd 55 := by
  intro X y R Z k n pc a b d c L st σ q hfr hlo hk0 hn0 hd hc h g
  obtain ⟨v, x, i, r, rfl, ho, rfl⟩ := ji_nst (a := a) (b := b) (d := d) (c := c) (t := 0) (f := fun v => v) h
  intro p e s m args below meth cc H locs ls V P S hl hz
  exact va_iast V.1 V.2.1 V.2.2.2.2.2.2.2.2.1.1 P.2 P.D S i 0 (jj_P.num ho) (jj_tys_at rfl) (jx_arr_of ho).2.2.2 hd (fun H1 locs1 hP1 _ hS1 => g p e s m args below meth cc H1 locs1 ls V (jj_P.aput (v := v) P.1 ho hP1) hS1 hl hz)
theorem js_56 : jx_Snd 56 := by
  intro X y R Z k n pc a b d c L st σ q hfr hlo hk0 hn0 hd hc h g
  obtain ⟨v, x, i, r, rfl, ho, rfl⟩ := ji_nst (a := a) (b := b) (d := d) (c := c) (t := 1) (f := vp_nar .char) h
  intro p e s m args below meth cc H locs ls V P S hl hz
  exact va_cast V.1 V.2.1 V.2.2.2.2.2.2.2.2.1.1 P.2 P.D S i 1 (jj_P.num ho) (jj_tys_at rfl) (jx_arr_of ho).2.2.2 hd (fun H1 locs1 hP1 _ hS1 => g p e s m args below meth cc H1 locs1 ls V (jj_P.aput (v := vp_nar .char v) P.1 ho hP1) hS1 hl hz)
theorem js_57 : jx_Snd 57 := by
  intro X y R Z k n pc a b d c L st σ q hfr hlo hk0 hn0 hd hc h g
  obtain ⟨v, x, i, r, rfl, ho, rfl⟩ := ji_nst (a := a) (b := b) (d := d) (c := c) (t := 2) (f := vp_nar .boolean) h
  intro p e s m args below meth cc H locs ls V P S hl hz
  exact va_zast V.1 V.2.1 V.2.2.2.2.2.2.2.2.1.1 P.2 P.D S i 2 (jj_P.num ho) (jj_tys_at rfl) (jx_arr_of ho).2.2.2 hd (fun H1 locs1 hP1 _ hS1 => g p e s m args below meth cc H1 locs1 ls V (jj_P.aput (v := vp_nar .boolean v) P.1 ho hP1) hS1 hl hz)
theorem js_58 : jx_Snd 58 := by
  intro X y R Z k n pc a b d c L st σ q hfr hlo hk0 hn0 hd hc h g
  obtain ⟨v, x, i, r, rfl, ⟨ho, hv1, hv2, hv3⟩, rfl⟩ := ji_rst (a := a) (b := b) (d := d) (c := c) h
  obtain ⟨hty, hdl⟩ := jx_and (a := decide (jt_ty[b]? = some (.object (jt_C.getD d "")))) (b := decide (d < jt_C.length)) hc
  have hty := of_decide_eq_true hty
  have hdl := of_decide_eq_true hdl
  intro p e s m args below meth cc H locs ls V P S hl hz
  exact va_astq (f := fun j => (σ.2.1 i j).map (jj_ad X)) V.1 V.2.1 V.2.2.2.2.2.2.2.2.1.1 P.2 P.D S i b v d (r := (jt_C.getD d "", jt_T d, jt_n d)) (jj_P.rfs ho) (jj_tys_at hty) (by rw [jj_wl_at hv1, jj_E0 hv2, hv3]) (jt_cl_at hdl) (jx_arr_of ho).2.2.2 hd (fun H1 locs1 hP1 _ hS1 => g p e s m args below meth cc H1 locs1 ls V (jj_P.aputr P.1 ho hP1) hS1 hl hz)
theorem js_54 : jx_Snd 54 := by
  intro X y R Z k n pc a b d c L st σ q hfr hlo hk0 hn0 hd hc h g
  obtain ⟨i, r, rfl, ⟨h1, h2, h3⟩, rfl⟩ := ji_len (a := a) (b := b) (d := d) (c := c) h
  have hty : jt_ty[(σ.2.2.1 i).2.1]? = some (jt_ty.getD (σ.2.2.1 i).2.1 .int) := by
    rw [List.getD_eq_getElem?_getD, List.getElem?_eq_getElem h3]; rfl
  intro p e s m args below meth cc H locs ls V P S hl hz
  rcases h2 with h2 | h2
  · exact va_alen (x := ((σ.2.2.1 i).2.2, .inl (σ.1 i))) V.1 V.2.1 V.2.2.2.2.2.2.2.2.1.1 P.2 i _ (by rw [jj_wl_at h1, jj_E1 h2]) (jj_tys_at hty) rfl hd (g p e s m args below meth cc H locs ls V P S hl hz)
  · exact va_alen (x := ((σ.2.2.1 i).2.2, .inr (.inr (.inr (.inr fun j => (σ.2.1 i j).map (jj_ad X)))))) V.1 V.2.1 V.2.2.2.2.2.2.2.2.1.1 P.2 i _ (by rw [jj_wl_at h1, jj_E2 h2]) (jj_tys_at hty) rfl hd (g p e s m args below meth cc H locs ls V P S hl hz)
theorem js_59 : jx_Snd 59 := by
  intro X y R Z k n pc a b d c L st σ q hfr hlo hk0 hn0 hd hc h g
  have hlen := of_decide_eq_true (p := (jt_sw.getD a (0, 0, 0, [])).2.2.2.length = ((jt_sw.getD a (0, 0, 0, [])).2.2.1 - (jt_sw.getD a (0, 0, 0, [])).2.1 + 1).toNat) hc
  have h' : jx_tsw pc a b d c L st σ = some q := h
  unfold jx_tsw at h'
  split at h'
  · rename_i x r
    split at h'
    · rename_i w hw
      cases h'
      have hwe : jt_sw.getD a (0, 0, 0, []) = w := by rw [List.getD_eq_getElem?_getD, hw]; rfl
      have hd' : decode (jt_B y) pc = .ok (jx_sw pc (jt_sw.getD a (0, 0, 0, [])), d) := hd
      rw [hwe] at hd' hlen
      intro p e s m args below meth cc H locs ls V P S hl hz
      have g2 := g p e s m args below meth cc H locs ls V P S hl hz
      by_cases hx : x.toInt < w.2.1 ∨ w.2.2.1 < x.toInt
      · rw [if_pos hx] at g2
        exact lv_tableOut V.1 V.2.1 hd' hx (by omega) g2
      · rw [if_neg hx] at g2
        have hi : (x.toInt - w.2.1).toNat < w.2.2.2.length := by rw [hlen]; omega
        refine lv_tableIn V.1 V.2.1 hd' (fun z => hx (Or.inl z)) (fun z => hx (Or.inr z)) (off := ((w.2.2.2.getD (x.toInt - w.2.1).toNat w.1 : Nat) : Int) - (pc : Int)) ?_ (by omega) g2
        rw [List.getD_eq_getElem?_getD, List.getElem?_eq_getElem hi]
        simp [hi]
    · cases h'
  · cases h'
theorem js_60 : jx_Snd 60 := by
  intro X y R Z k n pc a b d c L st σ q hfr hlo hk0 hn0 hd hc h g
  obtain ⟨hm, hb⟩ := jx_and (a := decide ((jt_c y, a, b) ∈ jt_ls)) (b := decide (b < jt_sb.length)) hc
  have hq := Option.some.inj h
  subst hq
  intro p e s m args below meth cc H locs ls V P S hl hz
  have g2 := g p e s m args below meth cc H locs ls V P S hl hz
  have e1 : List.map (jj_cv X) (.ref (1000000 + b) :: st) = .ref (X.2.2.2.1 (1000000 + b)) :: List.map (jj_cv X) st := by
    rw [List.map_cons]
    show Value.ref (jj_ad X (1000000 + b)) :: _ = _
    rw [jj_ad_hi (by omega)]
  exact va_ldcS V.1 V.2.1 V.2.2.2.1 (V.2.2.2.2.2.2.2.2.1.2.2.2.2.2.2.2 (jt_c y, a, b) (of_decide_eq_true hm)) hd (W.eq (by show F0 _ _ _ _ = F0 _ _ _ _; rw [← e1]) g2)
theorem js_61 : jx_Snd 61 := by
  intro X y R Z k n pc a b d c L st σ q hfr hlo hk0 hn0 hd hc h g
  have hm := of_decide_eq_true (p := (jt_c y, a) ∈ jt_lg0) hc
  have hq := Option.some.inj h
  subst hq
  intro p e s m args below meth cc H locs ls V P S hl hz
  exact va_gets V.1 V.2.1 V.2.2.2.2.2.2.2.2.1.2.2.2.2.2.1 S V.2.2.2.1 (V.2.2.2.2.1 _ (jt_lg0_ok hm)) (fun _ hh => hh) hd (g p e s m args below meth cc H locs ls V P S hl hz)
theorem js_62 : jx_Snd 62 := by
  intro X y R Z k n pc a b d c L st σ q hfr hlo hk0 hn0 hd hc h g
  have hm := of_decide_eq_true (p := (jt_c y, a) ∈ jt_lg1) hc
  have hq := Option.some.inj h
  subst hq
  intro p e s m args below meth cc H locs ls V P S hl hz
  exact va_gets V.1 V.2.1 V.2.2.2.2.2.2.2.2.1.2.2.2.2.2.2.1 S V.2.2.2.1 (V.2.2.2.2.1 _ (jt_lg1_ok hm)) (fun _ hh => hh) hd (g p e s m args below meth cc H locs ls V P S hl hz)
theorem jt_sb_len {i : Nat} : (jt_sb.map List.length).getD i 0 = (jt_sb.getD i []).length := by
  rw [List.getD_eq_getElem?_getD, List.getD_eq_getElem?_getD, List.getElem?_map]
  cases jt_sb[i]? <;> rfl
theorem jx_off {K n i : Nat} (h : K ≤ i ∧ i < K + n) : ∃ j, i = K + j ∧ j < n := ⟨i - K, by omega, by omega⟩
theorem js_63 : jx_Snd 63 := by
  intro X y R Z k n pc a b d c L st σ q hfr hlo hk0 hn0 hd hc h g
  have hm := of_decide_eq_true (p := (jt_c y, a) ∈ jt_lv0) hc
  have h' : jx_cod pc a b d c L st σ = some q := h
  unfold jx_cod at h'
  split at h'
  · rename_i i r
    split at h'
    · rename_i hi
      cases h'
      obtain ⟨j, rfl, hj⟩ := jx_off hi
      intro p e s m args below meth cc H locs ls V P S hl hz
      have hE := (V.2.2.2.2.2.2.2.2.1.2.2.2.2.1.1 j hj).2.1
      have e1 : List.map (jj_cv X) (.ref (1000000 + j) :: r) = .ref (X.2.2.2.1 (1000000 + j)) :: List.map (jj_cv X) r := by
        rw [List.map_cons]
        show Value.ref (jj_ad X (1000000 + j)) :: _ = _
        rw [jj_ad_hi (by omega)]
      rw [e1]
      exact vk_getf V.1 V.2.1 hE S V.2.2.2.1 (V.2.2.2.2.1 _ (jt_lv0_ok hm)) (fun _ hh => hh) hd (g p e s m args below meth cc H locs ls V P S hl hz)
    · cases h'
  · cases h'
theorem js_64 : jx_Snd 64 := by
  intro X y R Z k n pc a b d c L st σ q hfr hlo hk0 hn0 hd hc h g
  have hm := of_decide_eq_true (p := (jt_c y, a) ∈ jt_lv1) hc
  have h' : jx_val pc a b d c L st σ = some q := h
  unfold jx_val at h'
  split at h'
  · rename_i i r
    split at h'
    · rename_i hi
      cases h'
      obtain ⟨j, rfl, hj⟩ := jx_off hi
      intro p e s m args below meth cc H locs ls V P S hl hz
      have hE := (V.2.2.2.2.2.2.2.2.1.2.2.2.2.1.1 j hj).2.2.1
      have g2 := g p e s m args below meth cc H locs ls V P S hl hz
      have e1 : List.map (jj_cv X) (.ref (1000000 + j) :: r) = .ref (X.2.2.2.1 (1000000 + j)) :: List.map (jj_cv X) r := by
        rw [List.map_cons]
        show Value.ref (jj_ad X (1000000 + j)) :: _ = _
        rw [jj_ad_hi (by omega)]
      have e2 : List.map (jj_cv X) (.ref (1000000 + j + 1000000) :: r) = .ref (X.2.2.2.1 (2000000 + j)) :: List.map (jj_cv X) r := by
        rw [List.map_cons]
        show Value.ref (jj_ad X (1000000 + j + 1000000)) :: _ = _
        rw [jj_ad_hi (by omega), show 1000000 + j + 1000000 = 2000000 + j by omega]
      rw [e1]
      exact vk_getf V.1 V.2.1 hE S V.2.2.2.1 (V.2.2.2.2.1 _ (jt_lv1_ok hm)) (fun _ hh => hh) hd (W.eq (by show F0 _ _ _ _ = F0 _ _ _ _; rw [← e2]) g2)
    · cases h'
  · cases h'
theorem js_65 : jx_Snd 65 := by
  intro X y R Z k n pc a b d c L st σ q hfr hlo hk0 hn0 hd hc h g
  have h' : jx_bld pc a b d c L st σ = some q := h
  unfold jx_bld at h'
  split at h'
  · rename_i x i r
    split at h'
    · rename_i hi
      cases h'
      obtain ⟨hi, h3, h4⟩ := hi
      obtain ⟨j, rfl, hj⟩ := jx_off hi
      rw [show 2000000 + j - 2000000 = j by omega] at h4 g
      intro p e s m args below meth cc H locs ls V P S hl hz
      have hT := (V.2.2.2.2.2.2.2.2.1.2.2.2.2.1.1 j hj).2.2.2
      rw [jt_sb_len] at hT
      have e1 : List.map (jj_cv X) (.int x :: .ref (2000000 + j) :: r) = .int x :: .ref (X.2.2.2.1 (2000000 + j)) :: List.map (jj_cv X) r := by
        rw [List.map_cons, List.map_cons]
        show Value.int x :: Value.ref (jj_ad X (2000000 + j)) :: _ = _
        rw [jj_ad_hi (by omega)]
      rw [e1]
      exact va_tb V.1 V.2.1 hT S (fun z => Or.elim z h3 (fun z => Nat.not_lt.mpr z h4)) rfl hd (g p e s m args below meth cc H locs ls V P S hl hz)
    · cases h'
  · cases h'
theorem js_66 : jx_Snd 66 := by
  intro X y R Z k n pc a b d c L st σ q hfr hlo hk0 hn0 hd hc h g
  have h' : jx_bln pc a b d c L st σ = some q := h
  unfold jx_bln at h'
  split at h'
  · rename_i i r
    split at h'
    · rename_i hi
      cases h'
      obtain ⟨j, rfl, hj⟩ := jx_off hi
      rw [show 2000000 + j - 2000000 = j by omega] at g
      intro p e s m args below meth cc H locs ls V P S hl hz
      have hT := (V.2.2.2.2.2.2.2.2.1.2.2.2.2.1.1 j hj).2.2.2
      rw [jt_sb_len] at hT
      have e1 : List.map (jj_cv X) (.ref (2000000 + j) :: r) = .ref (X.2.2.2.1 (2000000 + j)) :: List.map (jj_cv X) r := by
        rw [List.map_cons]
        show Value.ref (jj_ad X (2000000 + j)) :: _ = _
        rw [jj_ad_hi (by omega)]
      rw [e1]
      exact va_tlen V.1 V.2.1 hT S rfl hd (g p e s m args below meth cc H locs ls V P S hl hz)
    · cases h'
  · cases h'
theorem js_67 : jx_Snd 67 := by
  intro X y R Z k n pc a b d c L st σ q hfr hlo hk0 hn0 hd hc h g
  have hy := of_decide_eq_true (p := y = jt_law) hc
  have h' : jx_sld X.2.2.2.2.2 pc a b d c L st σ = some q := h
  unfold jx_sld at h'
  split at h'
  · rename_i x i r
    split at h'
    · rename_i hi
      cases h'
      obtain ⟨rfl, h3, h4⟩ := hi
      intro p e s m args below meth cc H locs ls V P S hl hz
      obtain ⟨x1, x2, x3, -⟩ := V.2.2.2.2.2.2.2.2.2.2 hy
      exact va_sld V.1 V.2.1 x1 x2 x3 S (fun z => Or.elim z h3 (fun z => Nat.not_lt.mpr z h4)) hd (g p e s m args below meth cc H locs ls V P S hl hz)
    · cases h'
  · cases h'
theorem js_68 : jx_Snd 68 := by
  intro X y R Z k n pc a b d c L st σ q hfr hlo hk0 hn0 hd hc h g
  have hy := of_decide_eq_true (p := y = jt_law) hc
  have h' : jx_sln X.2.2.2.2.2 pc a b d c L st σ = some q := h
  unfold jx_sln at h'
  split at h'
  · rename_i i r
    split at h'
    · rename_i hi
      cases h'
      subst hi
      intro p e s m args below meth cc H locs ls V P S hl hz
      obtain ⟨x1, x2, x3, -⟩ := V.2.2.2.2.2.2.2.2.2.2 hy
      exact va_slen V.1 V.2.1 x1 x2 x3 S hd (g p e s m args below meth cc H locs ls V P S hl hz)
    · cases h'
  · cases h'
theorem jj_catsum (X : jj_X) : ∀ (r : List Value), (∀ v ∈ r, v.category = 1) → ((r.map (jj_cv X)).map fun v => v.category).sum = r.length := by
  intro r
  induction r with
  | nil => intro _; rfl
  | cons v r ih =>
    intro h
    have := ih (fun w hw => h w (List.mem_cons_of_mem _ hw))
    simp only [List.map_cons, List.sum_cons, List.length_cons, jj_cv_cat, h v List.mem_cons_self] at this ⊢
    omega
