/-! Making, calls, returns; then: what the small machine comes to, the real one comes to. -/
theorem jx_c1_of {l : List Value} (h : jx_c1 l = true) : ∀ v ∈ l, v.category = 1 := fun v hv => of_decide_eq_true (List.all_eq_true.mp h v hv)
theorem js_69 : jx_Snd 69 := by
  intro X y R Z k n pc a b d c L st σ q hfr hlo hk0 hn0 hd hc h g
  obtain ⟨hm, hc2⟩ := jx_and (a := decide ((jt_c y, a) ∈ jt_lo1)) (b := (decide (1 ≤ jt_fr y) && decide (20 ≤ jt_lo y))) hc
  obtain ⟨hf, hl0⟩ := jx_and hc2
  have hf := of_decide_eq_true hf
  have hl0 := of_decide_eq_true hl0
  have h' : jx_oin pc a b d c L st σ = some q := h
  unfold jx_oin at h'
  split at h'
  · rename_i i r
    split at h'
    · rename_i hr
      cases h'
      intro p e s m args below meth cc H locs ls V P S hl hz
      have h8 : ((r.map (jj_cv X)).map fun v => v.category).sum ≤ 8 := by rw [jj_catsum X r (jx_c1_of hr.2)]; exact hr.1
      have h9 := lv_room (m := m) (pc := pc) (ls := ls) (rest := List.map (jj_cv X) (Value.ref i :: r)) h8
      exact W.objInit V.1 V.2.1 V.2.2.2.1 (V.2.2.2.2.1 _ (jt_lo1_ok (of_decide_eq_true hm))) (V.2.2.2.2.1 _ jt_oi.1) (V.2.2.2.2.1 _ jt_oi.2) rfl (hl.1.trans V.2.2.1.symm) rfl hd (Nat.le_trans hf hfr) (by omega) (W.eq rfl (g p e s m args below meth cc H locs ls V P S hl hz))
    · cases h'
  · cases h'
theorem js_43 : jx_Snd 43 := by
  intro X y R Z k n pc a b d c L st σ q hfr hlo hk0 hn0 hd hc h g
  obtain ⟨hm, hc2⟩ := jx_and (a := decide ((jt_c y, a) ∈ jt_lx0)) (b := (decide (1 ≤ jt_fr y) && decide (21 ≤ jt_lo y))) hc
  obtain ⟨hf, hl0⟩ := jx_and hc2
  have hf := of_decide_eq_true hf
  have hl0 := of_decide_eq_true hl0
  have h' : jx_mm (fun x y => if x < y then y else x) pc a b d c L st σ = some q := h
  unfold jx_mm at h'
  split at h'
  · rename_i v x r
    split at h'
    · rename_i hr
      cases h'
      intro p e s m args below meth cc H locs ls V P S hl hz
      have h8 : ((r.map (jj_cv X)).map fun v => v.category).sum ≤ 8 := by rw [jj_catsum X r (jx_c1_of hr.2)]; exact hr.1
      exact va_mmax V.1 V.2.1 (V.2.2.1.trans hl.1.symm) V.2.2.2.1 (V.2.2.2.2.1 _ (jt_lx0_ok (of_decide_eq_true hm))) (V.2.2.2.2.1 _ jt_mx0.1) (V.2.2.2.2.1 _ jt_mx0.2.1) (V.2.2.2.2.1 _ jt_mx0.2.2) (Nat.le_trans hf hfr) (by omega) hk0 hn0 hd (g p e s m args below meth cc H locs ls V P S hl hz)
    · cases h'
  · cases h'
theorem js_44 : jx_Snd 44 := by
  intro X y R Z k n pc a b d c L st σ q hfr hlo hk0 hn0 hd hc h g
  obtain ⟨hm, hc2⟩ := jx_and (a := decide ((jt_c y, a) ∈ jt_lx1)) (b := (decide (1 ≤ jt_fr y) && decide (21 ≤ jt_lo y))) hc
  obtain ⟨hf, hl0⟩ := jx_and hc2
  have hf := of_decide_eq_true hf
  have hl0 := of_decide_eq_true hl0
  have h' : jx_mm (fun x y => if y < x then y else x) pc a b d c L st σ = some q := h
  unfold jx_mm at h'
  split at h'
  · rename_i v x r
    split at h'
    · rename_i hr
      cases h'
      intro p e s m args below meth cc H locs ls V P S hl hz
      have h8 : ((r.map (jj_cv X)).map fun v => v.category).sum ≤ 8 := by rw [jj_catsum X r (jx_c1_of hr.2)]; exact hr.1
      exact va_mmin V.1 V.2.1 (V.2.2.1.trans hl.1.symm) V.2.2.2.1 (V.2.2.2.2.1 _ (jt_lx1_ok (of_decide_eq_true hm))) (V.2.2.2.2.1 _ jt_mx1.1) (V.2.2.2.2.1 _ jt_mx1.2.1) (V.2.2.2.2.1 _ jt_mx1.2.2) (Nat.le_trans hf hfr) (by omega) hk0 hn0 hd (g p e s m args below meth cc H locs ls V P S hl hz)
    · cases h'
  · cases h'
theorem jj_P.cput {X : jj_X} {σ : jj_S} {i : Nat} {f : Nat → Int32} {H1 : Heap} (hT : σ.2.2.2.1 ≤ 1000000) (h1 : i < σ.2.2.2.1) (h2 : (σ.2.2.1 i).1 = 1) (h : va_P X.2.1 jt_cl ((jj_wl X σ).set i (jj_ad X i, .inl (X.2.2.2.2.1 (σ.2.2.1 i).2.1, (σ.2.2.1 i).2.2, .inl f))) H1) : jj_P X (jj_uf σ.1 i f, σ.2.1, σ.2.2) H1 := by
  refine ⟨hT, ?_⟩
  rw [jj_wl_set (τ := (jj_uf σ.1 i f, σ.2.1, σ.2.2)) h1 rfl ?_ (fun j hj => jj_E_eq (show jj_uf σ.1 i f j = σ.1 j from if_neg hj) rfl rfl)] at h
  · exact h
  · rw [jj_E1 (σ := (jj_uf σ.1 i f, σ.2.1, σ.2.2)) h2]
    show Sum.inl (X.2.2.2.2.1 (σ.2.2.1 i).2.1, (σ.2.2.1 i).2.2, Sum.inl (jj_uf σ.1 i f i)) = _
    rw [show jj_uf σ.1 i f i = f from if_pos rfl]
theorem js_70 : jx_Snd 70 := by
  intro X y R Z k n pc a b d c L st σ q hfr hlo hk0 hn0 hd hc h g
  obtain ⟨hm, hc2⟩ := jx_and (a := decide ((jt_c y, a) ∈ jt_lcp)) (b := (decide (1 ≤ jt_fr y) && decide (8 + (nativeFrameWords "java/lang/System" "arraycopy" 5 + 11) ≤ jt_lo y))) hc
  obtain ⟨hf, hl0⟩ := jx_and hc2
  have hf := of_decide_eq_true hf
  have hl0 := of_decide_eq_true hl0
  have h' : jx_cpy pc a b d c L st σ = some q := h
  unfold jx_cpy at h'
  split at h'
  · rename_i nn dp j sp i r
    split at h'
    · rename_i hr
      cases h'
      obtain ⟨⟨r1, r2, r3, r4, r5, r6, r7, r8⟩, ⟨s1, s2, s3, s4, s5⟩, hall⟩ := hr
      intro p e s m args below meth cc H locs ls V P S hl hz
      have h8 : ((r.map (jj_cv X)).map fun v => v.category).sum ≤ 8 := by rw [jj_catsum X r (jx_c1_of r2)]; exact r1
      have t1 : (jj_tys X)[(σ.2.2.1 i).2.1]? = some (X.2.2.2.2.1 (σ.2.2.1 i).2.1, .char) := jj_tys_at (by rw [r6]; rfl)
      have t2 : (jj_tys X)[(σ.2.2.1 j).2.1]? = some (X.2.2.2.2.1 (σ.2.2.1 j).2.1, .char) := jj_tys_at (by rw [r8]; rfl)
      exact va_copyi V.1 V.2.1 (V.2.2.1.trans hl.1.symm) V.2.2.2.1 (V.2.2.2.2.1 _ (jt_lcp_ok (of_decide_eq_true hm))) (V.2.2.2.2.1 _ jt_ac.1) (V.2.2.2.2.1 _ jt_ac.2.1) (V.2.2.2.2.1 _ jt_ac.2.2) V.2.2.2.2.2.2.2.2.1.1 P.2 P.D S i j _ _ (by rw [jj_wl_at r3, jj_E1 r5]) (by rw [jj_wl_at r4, jj_E1 r7]) t1 t2 rfl s1 s2 s3 s4 s5 (fun u hu => List.all_eq_true.mp hall u (List.mem_range.mpr hu)) (Nat.le_trans hf hfr) (by omega) hd (fun H1 locs1 hP1 _ hS1 => g p e s m args below meth cc H1 locs1 ls V (jj_P.cput P.1 r4 r7 hP1) hS1 hl hz)
    · cases h'
  · cases h'
/-! the size of the heap -/
theorem jj_size {X : jj_X} {σ : jj_S} {p : Program} {e : Env} {R : Room} {s T : State} {m : MethodId} {args : Array Value} {below : List Frame} {meth : Method} {c : Code} {H : Heap} {locs : List Loc} {k n : Nat}
    (P : jj_P X σ H) (S : va_S (jj_A X) s.heap H locs) (hb : X.2.2.1 ≤ s.heap.size) (hz : X.2.2.1 + σ.2.2.2.1 = s.heap.size + k) (hT : T.heap = H) (Y : Stand p X.1 e R s m args below meth c T locs k n) : H.size = X.2.2.1 + σ.2.2.2.1 := by
  have h1 := Y.heapSize
  rw [hT] at h1
  have h2 := S.1
  by_cases h0 : σ.2.2.2.1 = 0
  · omega
  · have h3 := (P.2 (σ.2.2.2.1 - 1) _ (jj_wl_at (X := X) (σ := σ) (by omega))).lt
    have h4 := P.1
    have h5 : jj_ad X (σ.2.2.2.1 - 1) = X.2.2.1 + (σ.2.2.2.1 - 1) := jj_ad_lo (by omega)
    have h6 : jj_ad X (σ.2.2.2.1 - 1) < H.size := h3
    omega
theorem jj_wl_len {X : jj_X} {σ : jj_S} : (jj_wl X σ).length = σ.2.2.2.1 := by simp [jj_wl]
theorem jj_fresh {X : jj_X} {σ : jj_S} {H1 : Heap} {q : Nat} {e : va_E} (hT : σ.2.2.2.1 < 1000000) (hP1 : va_P X.2.1 jt_cl (jj_wl X σ ++ [(q, e)]) H1) (hD1 : va_D (jj_A X) (jj_wl X σ ++ [(q, e)])) (hsz : H1.size ≤ X.2.2.1 + σ.2.2.2.1 + 1) : q = jj_ad X σ.2.2.2.1 := by
  have hat : (jj_wl X σ ++ [(q, e)])[σ.2.2.2.1]? = some (q, e) := by
    rw [List.getElem?_append_right (by rw [jj_wl_len]; exact Nat.le_refl _), jj_wl_len, Nat.sub_self]; rfl
  have h1 : q < H1.size := (hP1 _ _ hat).lt
  have h2 : X.2.2.1 ≤ q := hD1.2 _ _ hat
  rw [jj_ad_lo hT]
  by_cases h3 : q = X.2.2.1 + σ.2.2.2.1
  · exact h3
  · have hi : q - X.2.2.1 < σ.2.2.2.1 := by omega
    have hat2 : (jj_wl X σ ++ [(q, e)])[q - X.2.2.1]? = some (jj_ad X (q - X.2.2.1), jj_E X σ (q - X.2.2.1)) := by
      rw [List.getElem?_append_left (by rw [jj_wl_len]; exact hi), jj_wl_at hi]
    have h4 := hD1.1 _ _ _ _ hat2 hat (by show jj_ad X (q - X.2.2.1) = q; rw [jj_ad_lo (by omega)]; omega)
    omega
theorem jj_nw_E {X : jj_X} {σ : jj_S} {q : Nat × Nat × Nat} {i : Nat} (h : i ≠ σ.2.2.2.1) : jj_E X (jj_nw σ q) i = jj_E X σ i := by
  refine jj_E_eq ?_ ?_ ?_
  · exact if_neg h
  · exact if_neg h
  · exact if_neg h
theorem jj_P.push {X : jj_X} {σ : jj_S} {q : Nat × Nat × Nat} {H1 : Heap} {e : va_E} (hT : σ.2.2.2.1 < 1000000) (he : jj_E X (jj_nw σ q) σ.2.2.2.1 = e) (h : va_P X.2.1 jt_cl (jj_wl X σ ++ [(jj_ad X σ.2.2.2.1, e)]) H1) : jj_P X (jj_nw σ q) H1 := by
  refine ⟨hT, ?_⟩
  have hw : jj_wl X (jj_nw σ q) = jj_wl X σ ++ [(jj_ad X σ.2.2.2.1, e)] := by
    apply List.ext_getElem?
    intro j
    by_cases hj : j < σ.2.2.2.1
    · rw [List.getElem?_append_left (by rw [jj_wl_len]; exact hj), jj_wl_at hj, jj_wl_at (show j < σ.2.2.2.1 + 1 by omega), jj_nw_E (by omega)]
    · by_cases hj2 : j = σ.2.2.2.1
      · subst hj2
        rw [List.getElem?_append_right (by rw [jj_wl_len]; exact Nat.le_refl _), jj_wl_len, Nat.sub_self, jj_wl_at (show σ.2.2.2.1 < σ.2.2.2.1 + 1 by omega), he]
        rfl
      · rw [List.getElem?_eq_none (by rw [jj_wl_len]; show σ.2.2.2.1 + 1 ≤ j; omega), List.getElem?_eq_none (by rw [List.length_append, jj_wl_len]; show σ.2.2.2.1 + 1 ≤ j; omega)]
  rw [hw]
  exact h
def jx_SndN (κ : Nat) : Prop := ∀ (X : jj_X) (y : Nat) (R : Room) (Z : List Frame → Array Value → State → State → Prop) (k n pc a b d : Nat) (c : Int32) (L : jx_L) (st : List Value) (σ : jj_S) (q : Nat × (Nat × Nat × Nat) × List Value),
  decode (jt_B y) pc = .ok (jx_I pc (κ, a, b, d, c)) → jx_lok y (κ, a, b, d, c) = true → jx_new (κ, a, b, d, c) st σ = some q → k + 1 ≤ R.cells → n + q.2.1.2.2 ≤ R.slots →
  jj_G X y R Z (pc + q.1) L (.ref σ.2.2.2.1 :: q.2.2) (k + 1) (n + q.2.1.2.2) (jj_nw σ q.2.1) → jj_G X y R Z pc L st k n σ
theorem jj_nw_sh {σ : jj_S} {q : Nat × Nat × Nat} : (jj_nw σ q).2.2.1 σ.2.2.2.1 = q := if_pos rfl
theorem jn_72 : jx_SndN 72 := by
  intro X y R Z k n pc a b d c L st σ q hd hc h hk hn g
  obtain ⟨hm, hb⟩ := jx_and (a := decide ((jt_c y, a, b) ∈ jt_lk)) (b := decide (b < jt_C.length)) hc
  have hb := of_decide_eq_true hb
  obtain ⟨l1, l2, l3⟩ := jt_lk_ok (of_decide_eq_true hm)
  unfold jx_new at h
  split at h
  · rename_i hT
    rw [if_pos rfl] at h
    cases h
    intro p e s m args below meth cc H locs ls V P S hl hz
    refine va_new V.1 V.2.1 V.2.2.2.2.1 (jt_lays hb) (jt_ft b) (jt_desc hb) V.2.2.2.1 (V.2.2.2.2.1 _ l1) (V.2.2.2.2.1 _ l2) (V.2.2.2.2.1 _ l3) V.2.2.2.2.2.2.2.2.1.1 P.2 P.D S (fun q hq => Nat.le_trans V.2.2.2.2.2.2.2.2.2.1 hq) (jt_cl_at hb) (fs := jj_fs X (jj_nw σ (0, b, jt_n b)) σ.2.2.2.1 b) ?_ hk hn hd (fun q H1 hP1 hD1 hS1 => ?_)
    · intro j hj
      show _ = (jj_fs X (jj_nw σ (0, b, jt_n b)) σ.2.2.2.1 b).getD j .null
      rw [List.getD_eq_getElem?_getD, jj_fs_at hj]
      have e1 : (jj_nw σ (0, b, jt_n b)).1 σ.2.2.2.1 = fun _ => 0 := if_pos rfl
      have e2 : (jj_nw σ (0, b, jt_n b)).2.1 σ.2.2.2.1 = fun _ => none := if_pos rfl
      rw [e1, e2]
      have hd0 := jt_dflt hb j hj
      by_cases hr : jt_rf b j = true
      · rw [if_pos hr] at hd0 ⊢; exact hd0
      · rw [if_neg hr] at hd0 ⊢; exact hd0
    · intro T hT2 Y
      have hsz := Y.heapSize
      rw [hT2] at hsz
      have hq := jj_fresh hT hP1 hD1 (by omega)
      subst hq
      exact g p e s m args below meth cc H1 locs ls V (jj_P.push hT (by rw [jj_E0 (by rw [jj_nw_sh]), jj_nw_sh]) hP1) hS1 hl (by show _ + (_ + 1) = _; omega) T hT2 Y
  · cases h
theorem jn_73 : jx_SndN 73 := by
  intro X y R Z k n pc a b d c L st σ q hd hc h hk hn g
  have hb := of_decide_eq_true (p := b < 3) hc
  unfold jx_new at h
  split at h
  · rename_i hT
    rw [if_neg (by simp)] at h
    split at h
    · rename_i x r
      split at h
      · rename_i hx
        rw [if_pos rfl] at h
        cases h
        intro p e s m args below meth cc H locs ls V P S hl hz
        have hcl : ∀ (ty : FieldType) (nm : String) (hty : jt_ty[b]? = some ty) (hnm : ∀ cA, va_RA s cA ty → s.vm.findClass nm = some cA) (cA : ClassId), va_K X.2.1 jt_cl (jj_tys X ++ [(cA, ty)]) s → cA = X.2.2.2.2.1 b := by
          intro ty nm hty hnm cA hK2
          have a1 := hnm _ (hK2.2 (jj_tys X).length (cA, ty) (by rw [List.getElem?_append_right (Nat.le_refl _), Nat.sub_self]; rfl)).2
          have a2 := hnm _ (V.2.2.2.2.2.2.2.2.1.1.2 b _ (jj_tys_at hty)).2
          rw [a1] at a2
          exact Option.some.inj a2
        have fin : ∀ (q : Nat) (cA : ClassId) (H1 : Heap), cA = X.2.2.2.2.1 b → va_P X.2.1 jt_cl (jj_wl X σ ++ [(q, .inl (cA, (x.toNatClampNeg, .inl fun _ => 0)))]) H1 → va_D (jj_A X) (jj_wl X σ ++ [(q, .inl (cA, (x.toNatClampNeg, .inl fun _ => 0)))]) → va_S (jj_A X) s.heap H1 locs →
            W p X.1 e R s m args below meth cc H1 locs (k + 1) (n + x.toNatClampNeg) (Z below args s) (F0 m (pc + 2) ls (.ref q :: r.map (jj_cv X))) := by
          intro q cA H1 hcA hP1 hD1 hS1 T hT2 Y
          subst hcA
          have hsz := Y.heapSize
          rw [hT2] at hsz
          have hq := jj_fresh hT hP1 hD1 (by omega)
          subst hq
          refine g p e s m args below meth cc H1 locs ls V (jj_P.push hT ?_ hP1) hS1 hl (by show _ + (_ + 1) = _; omega) T hT2 Y
          rw [jj_E1 (by rw [jj_nw_sh]), jj_nw_sh]
          have e1 : (jj_nw σ (1, b, x.toNatClampNeg)).1 σ.2.2.2.1 = fun _ => 0 := if_pos rfl
          rw [e1]
        have hA : ∀ q, s.heap.size ≤ q → jj_A X q := fun q hq => Nat.le_trans V.2.2.2.2.2.2.2.2.2.1 hq
        match b, hb, hd, fin, hcl with
        | 0, _, hd, fin, hcl => exact va_newa (atype := .int) (ty := .int) (a0 := (x.toNatClampNeg, .inl fun _ => 0)) V.1 V.2.1 (V.2.2.2.2.1 _ jt_arr.1) rfl V.2.2.2.2.2.2.2.2.1.1 P.2 P.D S hA (fun _ => rfl) hx.1 rfl (by show _ * 4 ≤ _; omega) hk hn hd (fun q cA H1 hK1 hP1 hD1 hS1 => fin q cA H1 (hcl .int "[I" rfl (fun _ => va_nm_int) cA hK1) hP1 hD1 hS1)
        | 1, _, hd, fin, hcl => exact va_newa (atype := .char) (ty := .char) (a0 := (x.toNatClampNeg, .inl fun _ => 0)) V.1 V.2.1 (V.2.2.2.2.1 _ jt_arr.2.1) rfl V.2.2.2.2.2.2.2.2.1.1 P.2 P.D S hA (fun _ => rfl) hx.1 rfl (by show _ * 2 ≤ _; omega) hk hn hd (fun q cA H1 hK1 hP1 hD1 hS1 => fin q cA H1 (hcl .char "[C" rfl (fun _ => va_nm_char) cA hK1) hP1 hD1 hS1)
        | 2, _, hd, fin, hcl => exact va_newa (atype := .boolean) (ty := .boolean) (a0 := (x.toNatClampNeg, .inl fun _ => 0)) V.1 V.2.1 (V.2.2.2.2.1 _ jt_arr.2.2) rfl V.2.2.2.2.2.2.2.2.1.1 P.2 P.D S hA (fun _ => rfl) hx.1 rfl (by show _ * 1 ≤ _; omega) hk hn hd (fun q cA H1 hK1 hP1 hD1 hS1 => fin q cA H1 (hcl .boolean "[Z" rfl (fun _ => va_nm_boolean) cA hK1) hP1 hD1 hS1)
        | b + 3, hb, _, _, _ => omega
      · cases h
    · cases h
  · cases h
theorem jn_74 : jx_SndN 74 := by
  intro X y R Z k n pc a b d c L st σ q hd hc h hk hn g
  obtain ⟨hm, hty⟩ := jx_and (a := decide ((jt_c y, a, b, d) ∈ jt_la)) (b := decide (jt_ty[b]? = some (.object (jt_C.getD d "")))) hc
  have hty := of_decide_eq_true hty
  obtain ⟨l1, l2⟩ := jt_la_ok (of_decide_eq_true hm)
  unfold jx_new at h
  split at h
  · rename_i hT
    rw [if_neg (by simp)] at h
    split at h
    · rename_i x r
      split at h
      · rename_i hx
        rw [if_neg (by simp), if_pos rfl] at h
        cases h
        intro p e s m args below meth cc H locs ls V P S hl hz
        refine va_newq (N' := x.toNatClampNeg) V.1 V.2.1 V.2.2.2.1 (V.2.2.2.2.1 _ l1) (V.2.2.2.2.2.2.2.2.1.2.2.2.1 _ l2) V.2.2.2.2.2.2.2.2.1.1 P.2 P.D S (fun q hq => Nat.le_trans V.2.2.2.2.2.2.2.2.2.1 hq) hx.1 rfl (by omega) hk hn hd (fun q cA H1 hK1 hP1 hD1 hS1 => ?_)
        have a1 := va_nmO (hK1.2 (jj_tys X).length (cA, .object (jt_C.getD d "")) (by rw [List.getElem?_append_right (Nat.le_refl _), Nat.sub_self]; rfl)).2 rfl
        have a2 := va_nmO (V.2.2.2.2.2.2.2.2.1.1.2 b _ (jj_tys_at hty)).2 rfl
        have hcA : cA = X.2.2.2.2.1 b := by rw [a1] at a2; exact Option.some.inj a2
        subst hcA
        intro T hT2 Y
        have hsz := Y.heapSize
        rw [hT2] at hsz
        have hq := jj_fresh hT hP1 hD1 (by omega)
        subst hq
        refine g p e s m args below meth cc H1 locs ls V (jj_P.push hT ?_ hP1) hS1 hl (by show _ + (_ + 1) = _; omega) T hT2 Y
        rw [jj_E2 (by rw [jj_nw_sh]), jj_nw_sh]
        have e1 : (jj_nw σ (2, b, x.toNatClampNeg)).2.1 σ.2.2.2.1 = fun _ => none := if_pos rfl
        rw [e1]
        rfl
      · cases h
    · cases h
  · cases h
