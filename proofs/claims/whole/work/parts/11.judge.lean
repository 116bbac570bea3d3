/-! The judgement: what the small machine's state says of the real one. X: launch, slots of the kinds, where the store begins, where the constants lie, array classes, the script. -/
abbrev jj_X : Type := Launch × va_G × Nat × (Nat → Nat) × (Nat → ClassId) × jx_Xs
def jj_ad (X : jj_X) (i : Nat) : Nat := if i < 1000000 then X.2.2.1 + i else X.2.2.2.1 i
theorem jj_ad_lo {X : jj_X} {i : Nat} (h : i < 1000000) : jj_ad X i = X.2.2.1 + i := if_pos h
theorem jj_ad_hi {X : jj_X} {i : Nat} (h : 1000000 ≤ i) : jj_ad X i = X.2.2.2.1 i := if_neg (by omega)
def jj_fo (X : jj_X) : Option Nat := if X.2.2.2.1 3000001 = 0 then none else some (X.2.2.2.1 3000000)
def jj_cv (X : jj_X) (v : Value) : Value := match v with
  | .ref i => .ref (jj_ad X i)
  | .retAddr _ => va_rf (jj_fo X)
  | w => w
theorem jj_cv_rf {X : jj_X} (r : Option Nat) : jj_cv X (jx_rf r) = va_rf (r.map (jj_ad X)) := by cases r <;> rfl
theorem jj_cv_cat {X : jj_X} (v : Value) : (jj_cv X v).category = v.category := by
  cases v with
  | retAddr k => show (va_rf (jj_fo X)).category = 1; cases jj_fo X <;> rfl
  | _ => rfl
def jj_fs (X : jj_X) (σ : jj_S) (i ci : Nat) : List Value := (List.range (jt_n ci)).map fun k => if jt_rf ci k = true then va_rf ((σ.2.1 i k).map (jj_ad X)) else .int (σ.1 i k)
def jj_E (X : jj_X) (σ : jj_S) (i : Nat) : va_E :=
  if (σ.2.2.1 i).1 = 0 then .inr ((σ.2.2.1 i).2.1, jj_fs X σ i (σ.2.2.1 i).2.1)
  else if (σ.2.2.1 i).1 = 1 then .inl (X.2.2.2.2.1 (σ.2.2.1 i).2.1, (σ.2.2.1 i).2.2, .inl (σ.1 i))
  else .inl (X.2.2.2.2.1 (σ.2.2.1 i).2.1, (σ.2.2.1 i).2.2, .inr (.inr (.inr (.inr fun j => (σ.2.1 i j).map (jj_ad X)))))
theorem jj_E0 {X : jj_X} {σ : jj_S} {i : Nat} (h : (σ.2.2.1 i).1 = 0) : jj_E X σ i = .inr ((σ.2.2.1 i).2.1, jj_fs X σ i (σ.2.2.1 i).2.1) := if_pos h
theorem jj_E1 {X : jj_X} {σ : jj_S} {i : Nat} (h : (σ.2.2.1 i).1 = 1) : jj_E X σ i = .inl (X.2.2.2.2.1 (σ.2.2.1 i).2.1, (σ.2.2.1 i).2.2, .inl (σ.1 i)) := by
  unfold jj_E
  rw [if_neg (by omega), if_pos h]
theorem jj_E2 {X : jj_X} {σ : jj_S} {i : Nat} (h : (σ.2.2.1 i).1 = 2) : jj_E X σ i = .inl (X.2.2.2.2.1 (σ.2.2.1 i).2.1, (σ.2.2.1 i).2.2, .inr (.inr (.inr (.inr fun j => (σ.2.1 i j).map (jj_ad X))))) := by
  unfold jj_E
  rw [if_neg (by omega), if_neg (by omega)]
def jj_wl (X : jj_X) (σ : jj_S) : va_W := (List.range σ.2.2.2.1).map fun i => (jj_ad X i, jj_E X σ i)
theorem jj_wl_at {X : jj_X} {σ : jj_S} {i : Nat} (h : i < σ.2.2.2.1) : (jj_wl X σ)[i]? = some (jj_ad X i, jj_E X σ i) := by
  simp [jj_wl, h]
theorem jj_wl_lt {X : jj_X} {σ : jj_S} {i : Nat} {p : Nat × va_E} (h : (jj_wl X σ)[i]? = some p) : i < σ.2.2.2.1 ∧ p = (jj_ad X i, jj_E X σ i) := by
  have hl : i < σ.2.2.2.1 := by simpa [jj_wl] using (List.getElem?_eq_some_iff.mp h).1
  rw [jj_wl_at hl] at h
  exact ⟨hl, (Option.some.inj h).symm⟩
theorem jj_wl_set {X : jj_X} {σ τ : jj_S} {i : Nat} {e : va_E} (h : i < σ.2.2.2.1) (ht : τ.2.2.2.1 = σ.2.2.2.1) (he : jj_E X τ i = e) (ho : ∀ j, j ≠ i → jj_E X τ j = jj_E X σ j) : (jj_wl X σ).set i (jj_ad X i, e) = jj_wl X τ := by
  apply List.ext_getElem?
  intro j
  rw [List.getElem?_set]
  by_cases hj : i = j
  · subst hj
    rw [if_pos rfl, if_pos (by simpa [jj_wl] using h), jj_wl_at (by rw [ht]; exact h), he]
  · rw [if_neg hj]
    by_cases hl : j < σ.2.2.2.1
    · rw [jj_wl_at hl, jj_wl_at (by rw [ht]; exact hl), ho j (Ne.symm hj)]
    · rw [List.getElem?_eq_none (by simp [jj_wl]; omega), List.getElem?_eq_none (by simp [jj_wl, ht]; omega)]
/-- the picture: every pure cell lies at start + its number -/
def jj_P (X : jj_X) (σ : jj_S) (H : Heap) : Prop := σ.2.2.2.1 ≤ 1000000 ∧ va_P X.2.1 jt_cl (jj_wl X σ) H
abbrev jj_A (X : jj_X) : Nat → Prop := fun q => X.2.2.1 ≤ q
theorem jj_P.D {X : jj_X} {σ : jj_S} {H : Heap} (h : jj_P X σ H) : va_D (jj_A X) (jj_wl X σ) := by
  have ix : ∀ (i : Nat) (p : Nat × va_E), (jj_wl X σ)[i]? = some p → p.1 = X.2.2.1 + i := by
    intro i p hp
    obtain ⟨hl, rfl⟩ := jj_wl_lt hp
    exact jj_ad_lo (Nat.lt_of_lt_of_le hl h.1)
  refine ⟨fun i j p q hp hq e => ?_, fun k q hq => ?_⟩
  · have a := ix i p hp
    have b := ix j q hq
    omega
  · have a := ix k q hq
    show X.2.2.1 ≤ q.1
    omega
def jj_tys (X : jj_X) : List (ClassId × FieldType) := (List.range jt_ty.length).map fun t => (X.2.2.2.2.1 t, jt_ty.getD t .int)
theorem jj_tys_at {X : jj_X} {t : Nat} {ty : FieldType} (h : jt_ty[t]? = some ty) : (jj_tys X)[t]? = some (X.2.2.2.2.1 t, ty) := by
  have hl : t < jt_ty.length := (List.getElem?_eq_some_iff.mp h).1
  have h2 := (List.getElem?_eq_some_iff.mp h).2
  simp [jj_tys, hl, h2]
/-- the constants -/
def jj_C (X : jj_X) (s : State) : Prop :=
  vk_S jt_sb.length (jt_sb.map List.length) jt_sb (fun i => X.2.2.2.1 (1000000 + i)) (fun i => X.2.2.2.1 (2000000 + i)) (jj_A X) s s.heap ∧
  va_Z jt_z0.1 jt_z0.2.1 jt_z0.2.2 (.int 1) (jj_A X) s s.heap ∧ va_Z jt_z1.1 jt_z1.2.1 jt_z1.2.2 (va_rf (jj_fo X)) (jj_A X) s s.heap ∧
  (∀ q ∈ jt_ls, vk_R (jt_on.getD q.1 "") q.2.1 (jt_st.getD q.2.2 "") (X.2.2.2.1 (1000000 + q.2.2)) s)
/-- what stays true of the tables, and of the cells outside the store -/
def jj_K (X : jj_X) (s : State) : Prop := va_K X.2.1 jt_cl (jj_tys X) s ∧
  (∀ q ∈ jt_ln, va_Nw (.fieldLinkNest (jt_on.getD q.1 "") q.2.1 (jt_T q.2.2.1 q.2.2.2).1 (jt_T q.2.2.1 q.2.2.2).2.1 (jt_T q.2.2.1 q.2.2.2).2.2.1 jt_host) s) ∧
  (∀ q ∈ jt_lmn, va_Nw (.methodLinkNest (jt_on.getD q.1 "") q.2.1 (jt_N q.2.2) jt_host) s) ∧
  (∀ C ∈ jt_ao, va_AO C s) ∧ jj_C X s
theorem jj_K.to {X : jj_X} {s U : State} {H : Heap} {locs : List Loc} (h : jj_K X s) (hW : s.WarmedH U.vm) (hU : U.heap = H) (hS : va_S (jj_A X) s.heap H locs) : jj_K X U := by
  obtain ⟨h1, h2, h3, h4, h5, h6, h7, h8⟩ := h
  have hk : ∀ a : Nat, a < s.heap.size → ¬ jj_A X a → U.heap[a]? = s.heap[a]? := fun a p q => by rw [hU]; exact hS.2.1 a p q
  exact ⟨va_K.moved hW.alike h1, fun q hq => (h2 q hq).warmF hW, fun q hq => (h3 q hq).warmM hW, fun C hC => (h4 C hC).moved hW.alike,
    (vk_S.moved hW.alike h5).kept hk, (va_Z.moved hW.alike h6).kept hk, (va_Z.moved hW.alike h7).kept hk, fun q hq => (h8 q hq).warm hW⟩
def jj_V (X : jj_X) (y : Nat) (p : Program) (s : State) (m : MethodId) (args : Array Value) (meth : Method) (c : Code) : Prop :=
  p.tables.exec = Jvm.exec ∧ c.code = jt_B y ∧ c.maxLocals = jt_L y ∧ s.vm.findClass (jt_N y).cls = some m.cls ∧ (∀ w ∈ jt_W, w.before args s = true) ∧ meth.sig.returnType = jt_R y ∧ meth.locks = false ∧ ((jt_N y).name = "<init>" → meth.name = "<init>") ∧ jj_K X s ∧ X.2.2.1 ≤ s.heap.size ∧
  (y = jt_law → va_X (X.2.2.2.1 4000000) X.2.2.2.2.2.1 X.2.2.2.2.2.2 s s.heap ∧ X.2.2.2.1 4000000 < s.heap.size ∧ ¬ jj_A X (X.2.2.2.1 4000000) ∧ args = #[Value.ref (X.2.2.2.1 4000000)] ∧ X.2.2.1 = s.heap.size)
def jj_L (X : jj_X) (y : Nat) (L : jx_L) (ls : Array Slot) : Prop := ls.size = jt_L y ∧ lv_wf ls ∧ L.length = jt_L y ∧ ∀ (i : Nat) (v : Value), L[i]? = some (some v) → ls[i]? = some (.val (jj_cv X v)) ∧ v.category = 1
def jj_G (X : jj_X) (y : Nat) (R : Room) (Z : List Frame → Array Value → State → State → Prop) (pc : Nat) (L : jx_L) (st : List Value) (k n : Nat) (σ : jj_S) : Prop :=
  ∀ (p : Program) (e : Env) (s : State) (m : MethodId) (args : Array Value) (below : List Frame) (meth : Method) (c : Code) (H : Heap) (locs : List Loc) (ls : Array Slot),
    jj_V X y p s m args meth c → jj_P X σ H → va_S (jj_A X) s.heap H locs → jj_L X y L ls → X.2.2.1 + σ.2.2.2.1 = s.heap.size + k →
    W p X.1 e R s m args below meth c H locs k n (Z below args s) (F0 m pc ls (st.map (jj_cv X)))
/-- a method's end: its answer and the new store -/
def jj_Q (X : jj_X) (r : Option Value) (τ : jj_S) : Array Value → State → Outcome → State → Prop := fun _ st o t =>
  (o = .returned (r.map (jj_cv X)) ∧ jj_P X τ t.heap) ∧ va_F (jj_A X) st t
/-! locals -/
def jj_lv (X : jj_X) (L : jx_L) : List (Nat × Value) := (List.range L.length).filterMap fun j => (L[j]?.join).map fun v => (j, jj_cv X v)
theorem jj_lv_mem {X : jj_X} {L : jx_L} {j : Nat} {v : Value} (h : L[j]? = some (some v)) : (j, jj_cv X v) ∈ jj_lv X L := by
  refine List.mem_filterMap.mpr ⟨j, List.mem_range.mpr (List.getElem?_eq_some_iff.mp h).1, ?_⟩
  rw [h]
  rfl
theorem jj_L.has {X : jj_X} {y : Nat} {L : jx_L} {ls : Array Slot} (h : jj_L X y L ls) : lv_has ls (jt_L y) (jj_lv X L) := by
  refine ⟨h.1, h.2.1, fun q hq => ?_⟩
  obtain ⟨j, hj, e⟩ := List.mem_filterMap.mp hq
  cases hv : L[j]? with
  | none => rw [hv] at e; exact absurd e (by simp)
  | some w =>
    cases w with
    | none => rw [hv] at e; exact absurd e (by simp)
    | some v =>
      rw [hv] at e
      have e' : (j, jj_cv X v) = q := Option.some.inj e
      rw [← e']
      exact (h.2.2.2 j v hv).1
theorem jj_L.set {X : jj_X} {y : Nat} {L : jx_L} {ls ls' : Array Slot} {i : Nat} {v : Value} (h : jj_L X y L ls) (hc : v.category = 1) (h' : lv_has ls' (jt_L y) ((i, jj_cv X v) :: (jj_lv X L).filter (fun q => !(q.1 == i) && !(q.1 + 1 == i && q.2.category == 2)))) : jj_L X y (L.set i (some v)) ls' := by
  refine ⟨h'.1, h'.2.1, by rw [List.length_set]; exact h.2.2.1, fun j w hw => ?_⟩
  rw [List.getElem?_set] at hw
  by_cases hj : i = j
  · subst hj
    rw [if_pos rfl] at hw
    split at hw
    · cases hw
      exact ⟨h'.2.2 (i, jj_cv X v) List.mem_cons_self, hc⟩
    · cases hw
  · rw [if_neg hj] at hw
    have hcat := (h.2.2.2 j w hw).2
    refine ⟨h'.2.2 (j, jj_cv X w) (List.mem_cons_of_mem _ (List.mem_filter.mpr ⟨jj_lv_mem hw, ?_⟩)), hcat⟩
    have h1 : (j == i) = false := by simp; omega
    have h2 : ((jj_cv X w).category == 2) = false := by rw [jj_cv_cat, hcat]; rfl
    simp only [h1, h2, Bool.and_false, Bool.not_false, Bool.and_self]
/-! entry -/
theorem jj_args_mem : ∀ (vs : List Value) (k : Nat), (∀ v ∈ vs, v.category = 1) → ∀ (i : Nat) (v : Value), vs[i]? = some v → (k + i, v) ∈ lv_args k vs := by
  intro vs
  induction vs with
  | nil => intro k _ i v h; cases h
  | cons w r ih =>
    intro k hc i v h
    have hw : ¬ w.category = 2 := by rw [hc w List.mem_cons_self]; decide
    rw [lv_args, if_neg hw]
    match i, h with
    | 0, h => cases h; exact List.mem_cons_self
    | i + 1, h =>
      have := ih (k + 1) (fun v hv => hc v (List.mem_cons_of_mem _ hv)) i v h
      rw [show k + (i + 1) = k + 1 + i by omega]
      exact List.mem_cons_of_mem _ this
theorem jj_sl_len : ∀ (vs : List Value), (∀ v ∈ vs, v.category = 1) → (lg_sl vs).length = vs.length := by
  intro vs
  induction vs with
  | nil => intro _; rfl
  | cons w r ih =>
    intro hc
    have hw : ¬ w.category = 2 := by rw [hc w List.mem_cons_self]; decide
    have := ih (fun v hv => hc v (List.mem_cons_of_mem _ hv))
    simp only [lg_sl, List.flatMap_cons, if_neg hw, List.length_append, List.length_cons, List.length_nil] at this ⊢
    omega
theorem jj_ent_at {y : Nat} {as : List Value} {i : Nat} {v : Value} (h : (jx_ent y as)[i]? = some (some v)) : as[i]? = some v := by
  unfold jx_ent at h
  by_cases hl : i < as.length
  · rw [List.getElem?_append_left (by simpa using hl), List.getElem?_map] at h
    cases ha : as[i]? with
    | none => rw [ha] at h; simp at h
    | some w => rw [ha] at h; simpa using h
  · rw [List.getElem?_append_right (by simpa using hl)] at h
    have := (List.getElem?_eq_some_iff.mp h)
    obtain ⟨h1, h2⟩ := this
    rw [List.getElem_replicate] at h2
    cases h2
theorem jj_entry {X : jj_X} {y : Nat} {as : List Value} {ls : Array Slot} (hc : ∀ v ∈ as, v.category = 1) (hn : as.length ≤ jt_L y) (hl : lv_has ls (jt_L y) (lv_args 0 (as.map (jj_cv X)))) : jj_L X y (jx_ent y as) ls := by
  refine ⟨hl.1, hl.2.1, ?_, fun i v h => ?_⟩
  · unfold jx_ent
    simp only [List.length_append, List.length_map, List.length_replicate]
    omega
  · have ha := jj_ent_at h
    have hm := jj_args_mem (as.map (jj_cv X)) 0 (fun v hv => by
      obtain ⟨w, hw, rfl⟩ := List.mem_map.mp hv
      rw [jj_cv_cat]
      exact hc w hw) i (jj_cv X v) (by rw [List.getElem?_map, ha]; rfl)
    rw [Nat.zero_add] at hm
    exact ⟨hl.2.2 _ hm, hc v (List.mem_of_getElem? ha)⟩
