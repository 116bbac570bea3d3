set_option maxRecDepth 100000 in
theorem jt_ln_in {q : Nat × Nat × Nat × Nat} (h : q ∈ jt_ln) : Cond.fieldLinkNest (jt_on.getD q.1 "") q.2.1 (jt_T q.2.2.1 q.2.2.2).1 (jt_T q.2.2.1 q.2.2.2).2.1 (jt_T q.2.2.1 q.2.2.2).2.2.1 jt_host ∈ tables_1 := jx_all (P := fun q : Nat × Nat × Nat × Nat => Cond.fieldLinkNest (jt_on.getD q.1 "") q.2.1 (jt_T q.2.2.1 q.2.2.2).1 (jt_T q.2.2.1 q.2.2.2).2.1 (jt_T q.2.2.1 q.2.2.2).2.2.1 jt_host ∈ tables_1) (l := jt_ln) (jx_c (jm_1 _ (List.mem_of_getElem? (i := 67) rfl)) (
  jx_c (jm_1 _ (List.mem_of_getElem? (i := 77) rfl)) (
  jx_c (jm_1 _ (List.mem_of_getElem? (i := 80) rfl)) (
  jx_c (jm_1 _ (List.mem_of_getElem? (i := 83) rfl)) (
  jx_c (jm_1 _ (List.mem_of_getElem? (i := 78) rfl)) (
  jx_c (jm_1 _ (List.mem_of_getElem? (i := 75) rfl)) (
  jx_c (jm_1 _ (List.mem_of_getElem? (i := 68) rfl)) (
  jx_c (jm_1 _ (List.mem_of_getElem? (i := 88) rfl)) (
  jx_c (jm_1 _ (List.mem_of_getElem? (i := 58) rfl)) (
  jx_c (jm_1 _ (List.mem_of_getElem? (i := 86) rfl)) (
  jx_c (jm_1 _ (List.mem_of_getElem? (i := 81) rfl)) (
  jx_c (jm_1 _ (List.mem_of_getElem? (i := 84) rfl)) (
  jx_c (jm_1 _ (List.mem_of_getElem? (i := 71) rfl)) (
  jx_c (jm_1 _ (List.mem_of_getElem? (i := 207) rfl)) (
  jx_c (jm_1 _ (List.mem_of_getElem? (i := 218) rfl)) (
  jx_c (jm_1 _ (List.mem_of_getElem? (i := 188) rfl)) (
  jx_c (jm_1 _ (List.mem_of_getElem? (i := 59) rfl)) (
  jx_c (jm_1 _ (List.mem_of_getElem? (i := 61) rfl)) (
  jx_c (jm_1 _ (List.mem_of_getElem? (i := 63) rfl)) (
  jx_c (jm_1 _ (List.mem_of_getElem? (i := 65) rfl)) (
  jx_c (jm_1 _ (List.mem_of_getElem? (i := 217) rfl)) (
  jx_c (jm_1 _ (List.mem_of_getElem? (i := 209) rfl)) (
  jx_c (jm_1 _ (List.mem_of_getElem? (i := 206) rfl)) (
  jx_c (jm_1 _ (List.mem_of_getElem? (i := 191) rfl)) (
  jx_c (jm_1 _ (List.mem_of_getElem? (i := 189) rfl)) (
  jx_c (jm_1 _ (List.mem_of_getElem? (i := 193) rfl)) (
  jx_c (jm_1 _ (List.mem_of_getElem? (i := 215) rfl)) (
  jx_c (jm_1 _ (List.mem_of_getElem? (i := 213) rfl)) (
  jx_c (jm_1 _ (List.mem_of_getElem? (i := 211) rfl)) (
  jx_c (jm_2 _ (List.mem_of_getElem? (i := 17) rfl)) (
  jx_c (jm_2 _ (List.mem_of_getElem? (i := 20) rfl)) (
  jx_c (jm_2 _ (List.mem_of_getElem? (i := 22) rfl)) (
  jx_c (jm_2 _ (List.mem_of_getElem? (i := 16) rfl)) (
  jx_c (jm_1 _ (List.mem_of_getElem? (i := 70) rfl)) (
  jx_c (jm_1 _ (List.mem_of_getElem? (i := 73) rfl)) (
  jx_e)))))))))))))))))))))))))))))))))))) q h
set_option maxRecDepth 100000 in
theorem jt_lmn_in {q : Nat × Nat × Nat} (h : q ∈ jt_lmn) : Cond.methodLinkNest (jt_on.getD q.1 "") q.2.1 (jt_N q.2.2) jt_host ∈ tables_1 := jx_all (P := fun q : Nat × Nat × Nat => Cond.methodLinkNest (jt_on.getD q.1 "") q.2.1 (jt_N q.2.2) jt_host ∈ tables_1) (l := jt_lmn) (jx_c (jm_1 _ (List.mem_of_getElem? (i := 53) rfl)) (
  jx_c (jm_1 _ (List.mem_of_getElem? (i := 131) rfl)) (
  jx_c (jm_1 _ (List.mem_of_getElem? (i := 183) rfl)) (
  jx_c (jm_2 _ (List.mem_of_getElem? (i := 11) rfl)) (
  jx_c (jm_1 _ (List.mem_of_getElem? (i := 32) rfl)) (
  jx_e)))))) q h
set_option maxRecDepth 100000 in
theorem jt_ao_in {q : String} (h : q ∈ jt_ao) : Cond.arrayOver (.object q) ∈ tables_1 := jx_all (P := fun q : String => Cond.arrayOver (.object q) ∈ tables_1) (l := jt_ao) (jx_c (jm_1 _ (List.mem_of_getElem? (i := 51) rfl)) (
  jx_c (jm_1 _ (List.mem_of_getElem? (i := 175) rfl)) (
  jx_c (jm_1 _ (List.mem_of_getElem? (i := 204) rfl)) (
  jx_c (jm_2 _ (List.mem_of_getElem? (i := 9) rfl)) (
  jx_e))))) q h
theorem jt_instA : jx_All (fun b : Nat => Cond.instantiable (jt_C.getD b "") (jt_n b) ∈ jt_W) [0, 1, 2, 3, 4, 5, 6, 7, 8, 9, 10, 11, 12] := jx_c (jW (jm_1 _ (List.mem_of_getElem? (i := 23) rfl)) rfl) (
  jx_c (jW (jm_1 _ (List.mem_of_getElem? (i := 31) rfl)) rfl) (
  jx_c (jW (jm_1 _ (List.mem_of_getElem? (i := 45) rfl)) rfl) (
  jx_c (jW (jm_1 _ (List.mem_of_getElem? (i := 52) rfl)) rfl) (
  jx_c (jW (jm_1 _ (List.mem_of_getElem? (i := 124) rfl)) rfl) (
  jx_c (jW (jm_1 _ (List.mem_of_getElem? (i := 130) rfl)) rfl) (
  jx_c (jW (jm_1 _ (List.mem_of_getElem? (i := 169) rfl)) rfl) (
  jx_c (jW (jm_1 _ (List.mem_of_getElem? (i := 176) rfl)) rfl) (
  jx_c (jW (jm_1 _ (List.mem_of_getElem? (i := 182) rfl)) rfl) (
  jx_c (jW (jm_2 _ (List.mem_of_getElem? (i := 3) rfl)) rfl) (
  jx_c (jW (jm_2 _ (List.mem_of_getElem? (i := 10) rfl)) rfl) (
  jx_c (jW (jm_2 _ (List.mem_of_getElem? (i := 58) rfl)) rfl) (
  jx_c (jW (jm_4 _ (List.mem_of_getElem? (i := 194) rfl)) rfl) (
  jx_e)))))))))))))
theorem jt_inst {b : Nat} (h : b < jt_C.length) : Cond.instantiable (jt_C.getD b "") (jt_n b) ∈ jt_W := jx_all jt_instA b (by have h2 : b < 13 := h; rw [show [0, 1, 2, 3, 4, 5, 6, 7, 8, 9, 10, 11, 12] = List.range 13 from by decide +kernel]; exact List.mem_range.mpr h2)
set_option maxRecDepth 100000 in
theorem jt_ls_in {q : Nat × Nat × Nat} (h : q ∈ jt_ls) : Cond.stringRef (jt_on.getD q.1 "") q.2.1 (jt_st.getD q.2.2 "") ∈ tables_1 := jx_all (P := fun q : Nat × Nat × Nat => Cond.stringRef (jt_on.getD q.1 "") q.2.1 (jt_st.getD q.2.2 "") ∈ tables_1) (l := jt_ls) (jx_c (jm_2 _ (List.mem_of_getElem? (i := 209) rfl)) (
  jx_c (jm_3 _ (List.mem_of_getElem? (i := 80) rfl)) (
  jx_c (jm_4 _ (List.mem_of_getElem? (i := 79) rfl)) (
  jx_c (jm_4 _ (List.mem_of_getElem? (i := 53) rfl)) (
  jx_e))))) q h
theorem jt_zw0 : Cond.laysStatic jt_z0.1 jt_z0.2.1 jt_z0.2.2 ∈ tables_1 ∧ Cond.initialized jt_z0.1 ∈ tables_1 := ⟨(jm_2 _ (List.mem_of_getElem? (i := 223) rfl)), (jm_1 _ (List.mem_of_getElem? (i := 14) rfl))⟩
theorem jt_zw1 : Cond.laysStatic jt_z1.1 jt_z1.2.1 jt_z1.2.2 ∈ tables_1 ∧ Cond.initialized jt_z1.1 ∈ tables_1 := ⟨(jm_3 _ (List.mem_of_getElem? (i := 26) rfl)), (jm_1 _ (List.mem_of_getElem? (i := 18) rfl))⟩
def jt_tm (i : Nat) : Term := if i = 0 then (Term.string "PathPatcher$Parser" 87) else (Term.string "PathPatcher$Parser" 70)
/-- the texts, the statics, the tables at the law's entry -/
theorem jj_init {p : Program} {s : State} {m : MethodId} {meth : Method} {c : Code} {b L : Nat} {xs : Nat → Int32} (l : Launch) (C0 : lw_At p s m meth c b L xs) : ∃ X : jj_X, X.1 = l ∧ X.2.2.1 = s.heap.size ∧ X.2.2.2.1 4000000 = b ∧ X.2.2.2.2.2 = (L, xs) ∧ jj_K X s := by
  obtain ⟨hx, hb, hr, hml, hown, hts, hX, hbl, hlk, hgv⟩ := C0
  have hT : ∀ w ∈ tables_1, w.before #[Value.ref b] s = true := fun w hw => hts w (List.mem_append_right _ hw)
  have hW : ∀ w ∈ jt_W, w.before #[Value.ref b] s = true := fun w hw => hts w (List.mem_filter.mp hw).1
  have hs := flat_of_before _ hgv
  have hA : ∀ a : Nat, a < s.heap.size → ¬ (fun q => s.heap.size ≤ q) a := fun a h1 h2 => absurd h1 (Nat.not_lt.mpr h2)
  -- the object kinds
  have hk : ∀ ci : Nat, ∃ q : ClassId × (Nat → Nat), ci < jt_C.length → u_Kn s (jt_C.getD ci "") (jt_T ci) (jt_n ci) q.1 q.2 := fun ci => by
    by_cases h : ci < jt_C.length
    · obtain ⟨a1, a2, h3⟩ := u_known hW (jt_lays h) (hW _ (jt_inst h))
      exact ⟨(a1, a2), fun _ => h3⟩
    · exact ⟨(0, fun _ => 0), fun h2 => absurd h2 h⟩
  -- the array classes
  have hr1 : ∀ ty : FieldType, Cond.arrayClass ty ∈ jt_W → ∃ cA, ArrOfT s cA ty ∧ s.vm.findClass ("[" ++ ty.toString) = some cA := fun ty hw => by
    obtain ⟨cA, kA, comp, h1, h2, h3⟩ := Cond.arrayClass_spec (hW _ hw)
    exact ⟨cA, fun n z => ⟨fun k h => (by cases h), kA, h2, comp, h3⟩, h1⟩
  have hr2 : ∀ C : String, C ∈ jt_ao → ∃ cA, ArrOfT s cA (.object C) ∧ va_RA s cA (.object C) := fun C hC => by
    obtain ⟨comp, cA, kA, h1, h2, h3, h4, h5⟩ := Cond.arrayOver_spec (hT _ (jt_ao_in hC))
    exact ⟨cA, fun n z => ⟨fun k h => (by cases h), kA, h3, comp, h4⟩, kA, comp, h3, h4, h1, h5⟩
  have hty : ∀ t : Nat, ∃ cA : ClassId, t < jt_ty.length → ArrOfT s cA (jt_ty.getD t .int) ∧ va_RA s cA (jt_ty.getD t .int) := fun t => by
    match t with
    | 0 => obtain ⟨cA, h1, h2⟩ := hr1 .int jt_arr.1; exact ⟨cA, fun _ => ⟨h1, h2⟩⟩
    | 1 => obtain ⟨cA, h1, h2⟩ := hr1 .char jt_arr.2.1; exact ⟨cA, fun _ => ⟨h1, h2⟩⟩
    | 2 => obtain ⟨cA, h1, h2⟩ := hr1 .boolean jt_arr.2.2; exact ⟨cA, fun _ => ⟨h1, h2⟩⟩
    | 3 => obtain ⟨cA, h1, h2⟩ := hr2 "PathPatcher$Node" (by decide +kernel); exact ⟨cA, fun _ => ⟨h1, h2⟩⟩
    | 4 => obtain ⟨cA, h1, h2⟩ := hr2 "PathPatcher$Item" (by decide +kernel); exact ⟨cA, fun _ => ⟨h1, h2⟩⟩
    | 5 => obtain ⟨cA, h1, h2⟩ := hr2 "PathPatcher$Pattern" (by decide +kernel); exact ⟨cA, fun _ => ⟨h1, h2⟩⟩
    | 6 => obtain ⟨cA, h1, h2⟩ := hr2 "PathPatcher$Edit" (by decide +kernel); exact ⟨cA, fun _ => ⟨h1, h2⟩⟩
    | n + 7 => exact ⟨0, fun h => absurd h (by show ¬ n + 7 < 7; omega)⟩
  -- the texts
  obtain ⟨adK, adV, hS, hE⟩ := vk_Sof (args := #[Value.ref b]) (s := s) (N := 2) (tm := jt_tm) (len := jt_sb.map List.length) (byt := jt_sb) (A := fun q => s.heap.size ≤ q)
    (fun i hi => by
      match i, hi with
      | 0, _ => exact (by decide)
      | 1, _ => exact (by decide))
    (fun i hi => by
      match i, hi with
      | 0, _ => exact hs (.exactly (Term.string "PathPatcher$Parser" 87) "java/lang/String") (by decide +kernel)
      | 1, _ => exact hs (.exactly (Term.string "PathPatcher$Parser" 70) "java/lang/String") (by decide +kernel))
    (fun i hi => by
      match i, hi with
      | 0, _ => exact hs (.eq (.field (Term.string "PathPatcher$Parser" 87) "java/lang/String" "coder" "B") (.int 0)) (by decide +kernel)
      | 1, _ => exact hs (.eq (.field (Term.string "PathPatcher$Parser" 70) "java/lang/String" "coder" "B") (.int 0)) (by decide +kernel))
    (fun i hi => by
      match i, hi with
      | 0, _ => exact hs (.arrayOf (.field (Term.string "PathPatcher$Parser" 87) "java/lang/String" "value" "[B") .byte) (by decide +kernel)
      | 1, _ => exact hs (.arrayOf (.field (Term.string "PathPatcher$Parser" 70) "java/lang/String" "value" "[B") .byte) (by decide +kernel))
    (fun i hi => by
      match i, hi with
      | 0, _ => exact hs (.eq (.length (.field (Term.string "PathPatcher$Parser" 87) "java/lang/String" "value" "[B")) (.int 4)) (by decide +kernel)
      | 1, _ => exact hs (.eq (.length (.field (Term.string "PathPatcher$Parser" 70) "java/lang/String" "value" "[B")) (.int 3)) (by decide +kernel))
    (fun i hi => by
      match i, hi with
      | 0, _ =>
        intro k hk
        match k, hk with
        | 0, _ => exact hs (.eq (.elem (.field (Term.string "PathPatcher$Parser" 87) "java/lang/String" "value" "[B") (.int 0)) (.int 97)) (by decide +kernel)
        | 1, _ => exact hs (.eq (.elem (.field (Term.string "PathPatcher$Parser" 87) "java/lang/String" "value" "[B") (.int 1)) (.int 98)) (by decide +kernel)
        | 2, _ => exact hs (.eq (.elem (.field (Term.string "PathPatcher$Parser" 87) "java/lang/String" "value" "[B") (.int 2)) (.int 99)) (by decide +kernel)
        | 3, _ => exact hs (.eq (.elem (.field (Term.string "PathPatcher$Parser" 87) "java/lang/String" "value" "[B") (.int 3)) (.int 100)) (by decide +kernel)
        | k + 4, hk => exact absurd hk (by show ¬ k + 4 < 4; omega)
      | 1, _ =>
        intro k hk
        match k, hk with
        | 0, _ => exact hs (.eq (.elem (.field (Term.string "PathPatcher$Parser" 70) "java/lang/String" "value" "[B") (.int 0)) (.int 102)) (by decide +kernel)
        | 1, _ => exact hs (.eq (.elem (.field (Term.string "PathPatcher$Parser" 70) "java/lang/String" "value" "[B") (.int 1)) (.int 103)) (by decide +kernel)
        | 2, _ => exact hs (.eq (.elem (.field (Term.string "PathPatcher$Parser" 70) "java/lang/String" "value" "[B") (.int 2)) (.int 104)) (by decide +kernel)
        | k + 3, hk => exact absurd hk (by show ¬ k + 3 < 3; omega)
      | n + 2, hi => exact absurd hi (by omega))
    (fun i j hi hj hij => by
      match i, hi, j, hj with
      | 0, _, 0, _ => exact absurd rfl hij
      | 1, _, 1, _ => exact absurd rfl hij
      | 0, _, 1, _ => exact Or.inl (hs (.not (.eq (Term.string "PathPatcher$Parser" 87) (Term.string "PathPatcher$Parser" 70))) (by decide +kernel))
      | 1, _, 0, _ => exact Or.inr (hs (.not (.eq (Term.string "PathPatcher$Parser" 87) (Term.string "PathPatcher$Parser" 70))) (by decide +kernel))
      | n + 2, hi, _, _ => exact absurd hi (by omega)
      | 0, _, n + 2, hj => exact absurd hj (by omega)
      | 1, _, n + 2, hj => exact absurd hj (by omega)) hA
  have e0 : (Term.string "PathPatcher$Parser" 87).eval #[Value.ref b] s none [] s = some (.ref (adK 0)) := hE 0 (by decide)
  have e1 : (Term.string "PathPatcher$Parser" 70).eval #[Value.ref b] s none [] s = some (.ref (adK 1)) := hE 1 (by decide)
  -- the statics
  have hz0 : va_Z jt_z0.1 jt_z0.2.1 jt_z0.2.2 (.int 1) (fun q => s.heap.size ≤ q) s s.heap := va_Zof (hT _ jt_zw0.1) (hT _ jt_zw0.2) (va_eqi (hs (.eq (.static jt_z0.1 jt_z0.2.1 jt_z0.2.2) (.int 1)) (by decide +kernel))) hA
  have hz1 : ∃ o : Option Nat, va_Z jt_z1.1 jt_z1.2.1 jt_z1.2.2 (va_rf o) (fun q => s.heap.size ≤ q) s s.heap := by
    rcases va_Zqof (hT _ jt_zw1.1) (hT _ jt_zw1.2) (hs (.isRef (.static jt_z1.1 jt_z1.2.1 jt_z1.2.2)) (by decide +kernel)) hA with h | ⟨t, h⟩
    · exact ⟨none, h⟩
    · exact ⟨some t, h⟩
  obtain ⟨fo, hz1⟩ := hz1
  have kad : ∃ K : Nat → Nat, (∀ i, i < 2 → K (1000000 + i) = adK i) ∧ (∀ i, i < 2 → K (2000000 + i) = adV i) ∧ (if K 3000001 = 0 then none else some (K 3000000)) = fo ∧ K 4000000 = b := by
    refine ⟨fun i => if i < 2000000 then adK (i - 1000000) else if i < 3000000 then adV (i - 2000000) else if i = 3000000 then fo.getD 0 else if i = 3000001 then (match fo with | none => 0 | some _ => 1) else b, fun i hi => ?_, fun i hi => ?_, ?_, ?_⟩
    · show (if 1000000 + i < 2000000 then adK (1000000 + i - 1000000) else _) = _
      rw [if_pos (by omega), show 1000000 + i - 1000000 = i by omega]
    · show (if 2000000 + i < 2000000 then _ else if 2000000 + i < 3000000 then adV (2000000 + i - 2000000) else _) = _
      rw [if_neg (by omega), if_pos (by omega), show 2000000 + i - 2000000 = i by omega]
    · cases fo <;> rfl
    · rfl
  obtain ⟨K, k0, k1, k2, k3⟩ := kad
  refine ⟨(l, (fun ci => (hk ci).choose.1, fun ci => (hk ci).choose.2), s.heap.size, K, fun t => (hty t).choose, (L, xs)), rfl, rfl, k3, rfl, ⟨fun ci q hq => ?_, fun t q hq => ?_⟩, fun q hq => va_Nw.of rfl (hT _ (jt_ln_in hq)), fun q hq => va_Nw.of rfl (hT _ (jt_lmn_in hq)), fun C hC => va_AO.of (hT _ (jt_ao_in hC)), ?_, hz0, ?_, ?_⟩
  · have hci : ci < jt_C.length := by
      have h := (List.getElem?_eq_some_iff.mp hq).1
      have h2 : ci < 13 := by simpa [jt_cl] using h
      exact h2
    rw [jt_cl_at hci] at hq
    cases hq
    exact (hk ci).choose_spec hci
  · have hl : t < jt_ty.length := by
      have h := (List.getElem?_eq_some_iff.mp hq).1
      simpa [jj_tys] using h
    have ht2 : jt_ty[t]? = some (jt_ty.getD t .int) := by
      rw [List.getD_eq_getElem?_getD, List.getElem?_eq_getElem hl]
      rfl
    rw [jj_tys_at ht2] at hq
    cases hq
    exact (hty t).choose_spec hl
  · refine ⟨fun i hi => ?_, fun i j hi hj hij => ?_⟩
    · have h := hS.1 i hi
      show va_O _ (K (1000000 + i)) _ _ _ ∧ va_OF _ _ _ _ (K (1000000 + i)) _ _ _ ∧ va_OF _ _ _ (.ref (K (2000000 + i))) (K (1000000 + i)) _ _ _ ∧ va_T _ (K (2000000 + i)) _ _ _ _ _
      rw [k0 i hi, k1 i hi]
      exact h
    · have hij' : K (1000000 + i) = K (1000000 + j) := hij
      rw [k0 i hi, k0 j hj] at hij'
      exact hS.2 i j hi hj hij'
  · have : jj_fo (l, (fun ci => (hk ci).choose.1, fun ci => (hk ci).choose.2), s.heap.size, K, fun t => (hty t).choose, (L, xs)) = fo := k2
    rw [this]
    exact hz1
  · intro q hq
    have hst := hT _ (jt_ls_in hq)
    have key : (Term.string (jt_on.getD q.1 "") q.2.1).eval #[Value.ref b] s none [] s = some (.ref (adK q.2.2)) ∧ q.2.2 < 2 :=
      jx_all (P := fun q : Nat × Nat × Nat => (Term.string (jt_on.getD q.1 "") q.2.1).eval #[Value.ref b] s none [] s = some (.ref (adK q.2.2)) ∧ q.2.2 < 2) (l := jt_ls) (jx_c ⟨e0, by decide⟩ (
  jx_c ⟨e1, by decide⟩ (
  jx_c ⟨va_eqR (hs (.eq (Term.string "PathPatcher$Parser" 70) (Term.string "PathPatcher$Pattern" 39)) (by decide +kernel)) e1, by decide⟩ (
  jx_c ⟨va_eqR (hs (.eq (Term.string "PathPatcher$Parser" 87) (Term.string "PathPatcher$Edit" 43)) (by decide +kernel)) e0, by decide⟩ (
  jx_e))))) q hq
    exact vk_R.of hst (by rw [show ((l, (fun ci => (hk ci).choose.1, fun ci => (hk ci).choose.2), s.heap.size, K, fun t => (hty t).choose, (L, xs)) : jj_X).2.2.2.1 (1000000 + q.2.2) = adK q.2.2 from k0 _ key.2]; exact key.1)
