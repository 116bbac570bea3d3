/-! item: both sides -/
section OPS
variable {PC SC : zM → Prop} {xs : jx_Xs}
theorem z_zz : vp_nar .boolean 0 = 0 ∧ vp_nar .boolean 1 = 1 := by decide
/-- the reference's half of item, behind the class's -/
theorem item_fin {M m : zM} {k : Nat} {w o f x y V : Int32} (hw : w = 0 ∨ w = 1) (hv : ¬ f_M_valid m o f x y = 0) (ho : o = 3 → w = 0) (hk : k < 6) (k1 : m 36 1 = nI k) (k2 : m 131 21 = nI k) (k3 : m 36 2 = rU m k) (k4 : ∀ i, i < k → rI m i) (hT : rT m) (hC : m 0 7 = 0 ∨ m 0 7 = 1 ∧ PC m) (hPC : ∀ m m' : zM, (∀ i k, i ≤ 28 → (i = 0 → k = 6) → m' i k = m i k) → PC m → PC m')
    (f0 : M (39 + 6 * k) 0 = o) (f1 : M (39 + 6 * k) 1 = f_Pattern_describe_u1 m o f x y (39 + 6 * k)) (f2 : M (39 + 6 * k) 2 = f_Pattern_describe_u2 m o f x y (39 + 6 * k)) (f3 : M (39 + 6 * k) 3 = f_Pattern_describe_u3 m o f x y (39 + 6 * k)) (f4 : M (38 + 6 * k) 3 = 0) (f5 : M (38 + 6 * k) 4 = w) (f6 : M (38 + 6 * k) 5 = 0) (f7 : M 36 2 = m 36 2 ||| f_M_names m o x y) (f8 : M 36 1 = nI (k + 1)) (f9 : M 0 8 = 0)
    (fr : ∀ a b, a ≠ 36 → a ≠ 38 + 6 * k → a ≠ 39 + 6 * k → (a = 0 → b ≠ 8) → M a b = m a b) (hV : V = nI (k + 1)) : ez xs 91 0 (jx_ent 91 [.ref 131, .int w, .int o, .int f, .int x, .int y]) [] M (fun r2 m2 => r2 = some (.int V) ∧ rR PC SC m2) := by
  subst hV
  have e0 : M 131 21 = nI k := (fr 131 21 (by omega) (by omega) (by omega) (by omega)).trans k2
  have ec : (M 131 21).toNatClampNeg = k := by rw [e0, nI_clamp (by omega)]
  have hv' : ¬ f_M_valid M o f x y = 0 := hv
  have h6 : ¬ M 131 21 = 6 := by
    rw [e0]
    exact fun h => absurd ((nI_eq (b := 6) (by omega) (by omega)).mp h) (by omega)
  have hb : vp_in (M 131 21) 6 := by rw [e0]; exact vp_in_nI hk (by omega)
  have hnw : vp_nar .boolean w = w := by rcases hw with h | h <;> rw [h] <;> decide
  have fin : (fun r2 m2 => r2 = some (Value.int (nI (k + 1))) ∧ rR PC SC m2) (some (.int (M 131 21 + 1))) (jj_up (jj_up (jj_up (jj_up (jj_up (jj_up (jj_up (jj_up M 149 ((M 131 21).toNatClampNeg) o) 150 ((M 131 21).toNatClampNeg) f) 151 ((M 131 21).toNatClampNeg) x) 152 ((M 131 21).toNatClampNeg) y) 153 ((M 131 21).toNatClampNeg) (vp_nar .boolean w)) 154 ((M 131 21).toNatClampNeg) (vp_nar .boolean 0)) 159 ((M 131 21).toNatClampNeg) 0) 131 21 ((M 131 21) + 1)) := by
    rw [ec, e0, hnw, z_zz.1, nI_1]
    refine ⟨rfl, ?_, ⟨k + 1, by omega, ?_, ?_, ?_, fun i hi => ?_⟩, ?_, Or.inl ?_⟩
    · obtain ⟨n, hn, t1, t2, t3⟩ := hT
      refine ⟨n, hn, ?_, ?_, fun j hj => ?_⟩
      · simp (disch := omega) only [up_ne, up_k]
        exact (fr 1 1 (by omega) (by omega) (by omega) (by omega)).trans t1
      · simp (disch := omega) only [up_ne, up_k]
        exact (fr 131 0 (by omega) (by omega) (by omega) (by omega)).trans t2
      · obtain ⟨c, c1, c2, c3, c4⟩ := t3 j hj
        refine ⟨c, c1, c2, ?_, ?_⟩
        · simp (disch := omega) only [up_ne]
          exact (fr 2 j (by omega) (by omega) (by omega) (by omega)).trans c3
        · simp (disch := omega) only [up_ne]
          exact (fr 132 j (by omega) (by omega) (by omega) (by omega)).trans c4
    · simp (disch := omega) only [up_ne]
      exact f8
    · exact up_eq
    · rw [rU]
      have hf : ∀ M' : zM, f_M_names M' o x y = f_M_names m o x y := fun _ => rfl
      rw [rU_same1 (m := m) k (fun i hi => ?_)]
      · simp (disch := omega) only [up_ne, up_eq]
        rw [f7, k3]
        rfl
      · simp (disch := omega) only [up_ne, up_k]
        exact ⟨fr 149 i (by omega) (by omega) (by omega) (by omega), fr 151 i (by omega) (by omega) (by omega) (by omega), fr 152 i (by omega) (by omega) (by omega) (by omega)⟩
    · by_cases hik : i = k
      · subst hik
        unfold rI
        simp (disch := omega) only [up_ne, up_eq]
        refine ⟨rP_put (m := m) hv ?_ ?_ ?_ ?_, ⟨f5, hw⟩, ⟨f6, Or.inl trivial⟩, ho, ⟨0, by omega, f4, rfl, fun _ => rfl, fun j hj => absurd hj (Nat.not_lt_zero j)⟩, fun h => absurd h (by decide)⟩
        · simp (disch := omega) only [up_ne]; exact f0
        · simp (disch := omega) only [up_ne]; exact f1
        · simp (disch := omega) only [up_ne]; exact f2
        · simp (disch := omega) only [up_ne]; exact f3
      · refine rI_same1 (m := m) (fun a b h => ?_) (k4 i (by omega))
        have hab : M a b = m a b := by
          unfold sI at h
          exact fr a b (by omega) (by omega) (by omega) (by omega)
        have key : ∀ (m0 : zM) (c : Nat) (z : Int32), ¬ (a = c ∧ b = k) → jj_up m0 c k z a b = m0 a b := fun m0 c z hh => by
          by_cases e : a = c
          · subst e
            exact up_k (fun e2 => hh ⟨rfl, e2⟩)
          · exact up_ne e
        unfold sI at h
        rw [up_ne (by omega), key _ 159 _ (by omega), key _ 154 _ (by omega), key _ 153 _ (by omega), key _ 152 _ (by omega), key _ 151 _ (by omega), key _ 150 _ (by omega), key _ 149 _ (by omega), hab]
    · have e7 : ∀ b, b ≠ 8 → jj_up (jj_up (jj_up (jj_up (jj_up (jj_up (jj_up (jj_up M 149 k o) 150 k f) 151 k x) 152 k y) 153 k w) 154 k 0) 159 k 0) 131 21 (nI (k + 1)) 0 b = m 0 b := fun b hb => by
        simp (disch := omega) only [up_ne]
        exact fr 0 b (by omega) (by omega) (by omega) (fun _ => hb)
      rw [e7 7 (by omega)]
      rcases hC with h | ⟨h, hp⟩
      · exact Or.inl h
      · refine Or.inr ⟨h, hPC m _ (fun i b hi hb => ?_) hp⟩
        simp (disch := omega) only [up_ne]
        exact fr i b (by omega) (by omega) (by omega) (fun e => by rw [hb e]; omega)
    · simp (disch := omega) only [up_ne]
      exact f9
  exact c_M_item (fun _ _ _ => hb) (fun _ _ _ => hb) (fun _ _ _ => hb) (fun _ _ _ => hb) (fun _ _ _ => hb) (fun _ _ _ => hb) (fun _ _ _ => hb) (fun _ _ _ _ => hb) (fun _ _ _ _ => hb) (fun _ _ _ _ => hb) (fun _ _ _ _ => hb) (fun _ _ _ _ => hb) (fun _ _ _ _ => hb) (fun _ _ _ _ => hb)
    (fun _ _ _ => fin) (fun _ _ c => absurd c h6) (fun _ _ _ _ => fin) (fun _ _ _ d => absurd d h6) (fun _ b c => absurd (ho b) c) (fun a => absurd a hv')
theorem o_item (hPC : ∀ m m' : zM, (∀ i k, i ≤ 28 → (i = 0 → k = 6) → m' i k = m i k) → PC m → PC m') {w : Int32} (hw : w = 0 ∨ w = 1) (o f x y : Int32) : zo (rR PC SC) xs 89 91 [.int w, .int o, .int f, .int x, .int y] := by
  intro m hR
  have hR0 := hR
  obtain ⟨hT, ⟨k, k0, k1, k2, k3, k4⟩, hC⟩ := hR
  have cl : (m 36 1).toNatClampNeg = k := by rw [k1, nI_clamp (by omega)]
  have hlt : m 36 1 < 6 ↔ k < 6 := by rw [k1]; exact nI_ltI (b := 6) (by omega) (by omega)
  have h6 : m 131 21 = 6 ↔ k = 6 := by rw [k2]; exact nI_eq (b := 6) (by omega) (by omega)
  have hs := valid_same (m := m) (o := o) (f := f) (x := x) (y := y)
  have hfw : jx_fit .boolean w = true := decide_eq_true hw
  have hbk : k < 6 → vp_in (m 36 1) 6 := fun h => by rw [k1]; exact vp_in_nI h (by omega)
  have hb : ∀ (z : Int32), k < 6 → z = m 36 1 → vp_in z 6 := fun z h e => by rw [e]; exact hbk h
  have nm : ∀ M' : zM, ∀ a b c, f_Pattern_unknownsIn M' a b c = f_M_names m a b c := fun M' a b c => names_same
  have d2 : ¬ f_M_valid m o f x y = 0 → f_M_names m o (f_Pattern_describe_u2 m o f x y (39 + 6 * k)) (f_Pattern_describe_u3 m o f x y (39 + 6 * k)) = f_M_names m o x y := fun h => by
    obtain ⟨p, q, hp, hq, e1, -⟩ := valid_of h
    have hn : ¬ o = -1 := by
      rw [e1]
      match p, hp with
      | 0, _ => decide
      | 1, _ => decide
      | 2, _ => decide
      | 3, _ => decide
    unfold f_Pattern_describe_u2 f_Pattern_describe_u3 f_M_names
    simp only [hn, if_false, ite_self]
    by_cases h1 : o = 1
    · simp only [if_pos h1]
    · simp only [if_neg h1]
  have refuse : ∀ v : Int32, (∀ Q : Option Value → zM → Prop, Q (some (.int v)) m → ez xs 91 0 (jx_ent 91 [.ref 131, .int w, .int o, .int f, .int x, .int y]) [] m Q) → ∃ u, some (Value.int v) = some (Value.int u) ∧ ez xs 91 0 (jx_ent 91 [.ref 131, .int w, .int o, .int f, .int x, .int y]) [] m (fun r2 m2 => r2 = some (.int u) ∧ rR PC SC m2) :=
    fun v h => ⟨v, rfl, h _ ⟨rfl, hR0⟩⟩
  have r1 : f_M_valid m o f x y = 0 → ∀ Q : Option Value → zM → Prop, Q (some (.int (-1))) m → ez xs 91 0 (jx_ent 91 [.ref 131, .int w, .int o, .int f, .int x, .int y]) [] m Q := fun h Q g =>
    c_M_item (fun a _ _ => absurd h a) (fun a _ _ => absurd h a) (fun a _ _ => absurd h a) (fun a _ _ => absurd h a) (fun a _ _ => absurd h a) (fun a _ _ => absurd h a) (fun a _ _ => absurd h a) (fun a _ _ _ => absurd h a) (fun a _ _ _ => absurd h a) (fun a _ _ _ => absurd h a) (fun a _ _ _ => absurd h a) (fun a _ _ _ => absurd h a) (fun a _ _ _ => absurd h a) (fun a _ _ _ => absurd h a) (fun a _ _ => absurd h a) (fun a _ _ => absurd h a) (fun a _ _ _ => absurd h a) (fun a _ _ _ => absurd h a) (fun a _ _ => absurd h a) (fun _ => g)
  have r2 : ¬ f_M_valid m o f x y = 0 → o = 3 → ¬ w = 0 → ∀ Q : Option Value → zM → Prop, Q (some (.int (-2))) m → ez xs 91 0 (jx_ent 91 [.ref 131, .int w, .int o, .int f, .int x, .int y]) [] m Q := fun h p q Q g =>
    c_M_item (fun _ b _ => absurd p b) (fun _ b _ => absurd p b) (fun _ b _ => absurd p b) (fun _ b _ => absurd p b) (fun _ b _ => absurd p b) (fun _ b _ => absurd p b) (fun _ b _ => absurd p b) (fun _ _ c _ => absurd c q) (fun _ _ c _ => absurd c q) (fun _ _ c _ => absurd c q) (fun _ _ c _ => absurd c q) (fun _ _ c _ => absurd c q) (fun _ _ c _ => absurd c q) (fun _ _ c _ => absurd c q) (fun _ b _ => absurd p b) (fun _ b _ => absurd p b) (fun _ _ c _ => absurd c q) (fun _ _ c _ => absurd c q) (fun _ _ _ => g) (fun a => absurd a h)
  have r3 : ¬ f_M_valid m o f x y = 0 → (o = 3 → w = 0) → k = 6 → ∀ Q : Option Value → zM → Prop, Q (some (.int (-3))) m → ez xs 91 0 (jx_ent 91 [.ref 131, .int w, .int o, .int f, .int x, .int y]) [] m Q := fun h p q Q g =>
    have q' := h6.mpr q
    c_M_item (fun _ _ c => absurd q' c) (fun _ _ c => absurd q' c) (fun _ _ c => absurd q' c) (fun _ _ c => absurd q' c) (fun _ _ c => absurd q' c) (fun _ _ c => absurd q' c) (fun _ _ c => absurd q' c) (fun _ _ _ c => absurd q' c) (fun _ _ _ c => absurd q' c) (fun _ _ _ c => absurd q' c) (fun _ _ _ c => absurd q' c) (fun _ _ _ c => absurd q' c) (fun _ _ _ c => absurd q' c) (fun _ _ _ c => absurd q' c) (fun _ _ c => absurd q' c) (fun _ _ _ => g) (fun _ _ _ c => absurd q' c) (fun _ _ _ _ => g) (fun _ b c => absurd (p b) c) (fun a => absurd a h)
  refine c_PathPatcher_item (fun a b c => hbk (hlt.mp c)) (fun _ _ _ => hfw) (fun a b c => hb _ (hlt.mp c) ?_) (fun a b c d => hbk (hlt.mp d)) (fun _ _ _ _ => hfw) (fun a b c d => hb _ (hlt.mp d) ?_)
    (fun a b c => ⟨_, rfl, ?_⟩) (fun a b c => refuse (-3) (r3 (by rw [← hs]; exact a) (fun e => absurd e b) (by have := mt hlt.mpr c; omega))) (fun a b c d => ⟨_, rfl, ?_⟩) (fun a b c d => refuse (-3) (r3 (by rw [← hs]; exact a) (fun _ => c) (by have := mt hlt.mpr d; omega))) (fun a b c => refuse (-2) (r2 (by rw [← hs]; exact a) b c)) (fun a => refuse (-1) (r1 (by rw [← hs]; exact a)))
  · rw [cl]
    have hk := hlt.mp c
    simp (disch := omega) only [up_ne]
  · rw [cl]
    have hk := hlt.mp d
    simp (disch := omega) only [up_ne]
  all_goals
    rw [cl]
    have hk : k < 6 := by first | exact hlt.mp c | exact hlt.mp d
    have hv : ¬ f_M_valid m o f x y = 0 := by rw [← hs]; exact a
    refine item_fin hw hv (by first | exact fun e => absurd e b | exact fun _ => c) hk k1 k2 k3 k4 hT hC.1 hPC ?_ ?_ ?_ ?_ ?_ ?_ ?_ ?_ ?_ ?_ (fun p q h1 h2 h3 h4 => ?_) ?_
    · simp (disch := omega) only [up_ne, up_k, up_eq]
    · simp (disch := omega) only [up_ne, up_k, up_eq]
    · simp (disch := omega) only [up_ne, up_k, up_eq]
    · simp (disch := omega) only [up_ne, up_k, up_eq]
    · simp (disch := omega) only [up_ne, up_k, up_eq]
    · simp (disch := omega) only [up_ne, up_k, up_eq]
    · simp (disch := omega) only [up_ne, up_k, up_eq]
    · simp (disch := omega) only [up_ne, up_k, up_eq, nm, cl]
      rw [d2 hv]
    · simp (disch := omega) only [up_ne, up_k, up_eq, k1, nI_1]
    · simp (disch := omega) only [up_ne, up_k, up_eq]
    · by_cases e : p = 0
      · subst e
        have := h4 rfl
        simp (disch := omega) only [up_ne, up_k, up_eq]
      · simp (disch := omega) only [up_ne, up_k, up_eq]
    · simp (disch := omega) only [up_ne, up_k, up_eq, k1, nI_1]
end OPS
