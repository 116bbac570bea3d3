/-! Rows of characters hold characters, whatever runs. -/
def jC (σ : jj_S) : Prop := ∀ i, (σ.2.2.1 i).1 = 1 → (σ.2.2.1 i).2.1 = 1 → ∀ k, fits .char (.int (σ.1 i k)) = true
def jK (f : jx_F) : Prop := ∀ pc a b d c L st σ q, f pc a b d c L st σ = some q → jC σ → jC (q.2.2.2.1, q.2.2.2.2, σ.2.2)
theorem jK_of {f : jx_F} (h : ∀ pc a b d c L st σ q, f pc a b d c L st σ = some q → q.2.2.2.1 = σ.1) : jK f := by
  intro pc a b d c L st σ q e g i h1 h2 k
  show fits .char (.int (q.2.2.2.1 i k)) = true
  rw [h pc a b d c L st σ q e]
  exact g i h1 h2 k
theorem jK_psh (l : Nat) : jK (jx_psh l) := jK_of fun pc a b d c L st σ q h => by unfold jx_psh at h; cases h; rfl
theorem jK_ild (l : Nat) : jK (jx_ild l) := jK_of fun pc a b d c L st σ q h => by unfold jx_ild at h; (repeat' split at h) <;> first | (cases h; rfl) | cases h
theorem jK_ald (l : Nat) : jK (jx_ald l) := jK_of fun pc a b d c L st σ q h => by unfold jx_ald at h; (repeat' split at h) <;> first | (cases h; rfl) | cases h
theorem jK_ist (l : Nat) : jK (jx_ist l) := jK_of fun pc a b d c L st σ q h => by unfold jx_ist at h; (repeat' split at h) <;> first | (cases h; rfl) | cases h
theorem jK_ast (l : Nat) : jK (jx_ast l) := jK_of fun pc a b d c L st σ q h => by unfold jx_ast at h; (repeat' split at h) <;> first | (cases h; rfl) | cases h
theorem jK_inc : jK jx_inc := jK_of fun pc a b d c L st σ q h => by unfold jx_inc at h; (repeat' split at h) <;> first | (cases h; rfl) | cases h
theorem jK_bin (f : Int32 → Int32 → Int32) : jK (jx_bin f) := jK_of fun pc a b d c L st σ q h => by unfold jx_bin at h; (repeat' split at h) <;> first | (cases h; rfl) | cases h
theorem jK_un (f : Int32 → Int32) : jK (jx_un f) := jK_of fun pc a b d c L st σ q h => by unfold jx_un at h; (repeat' split at h) <;> first | (cases h; rfl) | cases h
theorem jK_dup : jK jx_dup := jK_of fun pc a b d c L st σ q h => by unfold jx_dup at h; (repeat' split at h) <;> first | (cases h; rfl) | cases h
theorem jK_pop : jK jx_pop := jK_of fun pc a b d c L st σ q h => by unfold jx_pop at h; (repeat' split at h) <;> first | (cases h; rfl) | cases h
theorem jK_dpx : jK jx_dpx := jK_of fun pc a b d c L st σ q h => by unfold jx_dpx at h; (repeat' split at h) <;> first | (cases h; rfl) | cases h
theorem jK_dp2 : jK jx_dp2 := jK_of fun pc a b d c L st σ q h => by unfold jx_dp2 at h; (repeat' split at h) <;> first | (cases h; rfl) | cases h
theorem jK_br1 (f : Int32 → Bool) : jK (jx_br1 f) := jK_of fun pc a b d c L st σ q h => by
  unfold jx_br1 at h
  split at h
  · cases h; rfl
  · cases h
theorem jK_br2 (f : Int32 → Int32 → Bool) : jK (jx_br2 f) := jK_of fun pc a b d c L st σ q h => by
  unfold jx_br2 at h
  split at h
  · cases h; rfl
  · cases h
theorem jK_gto : jK jx_gto := jK_of fun pc a b d c L st σ q h => by unfold jx_gto at h; cases h; rfl
theorem jK_mm (f : Int32 → Int32 → Int32) : jK (jx_mm f) := jK_of fun pc a b d c L st σ q h => by unfold jx_mm at h; (repeat' split at h) <;> first | (cases h; rfl) | cases h
theorem jK_get : jK jx_get := jK_of fun pc a b d c L st σ q h => by
  unfold jx_get at h
  split at h
  · split at h
    · cases h; rfl
    · cases h
  · cases h
theorem jK_nld (t : Nat) : jK (jx_nld t) := jK_of fun pc a b d c L st σ q h => by unfold jx_nld at h; (repeat' split at h) <;> first | (cases h; rfl) | cases h
theorem jK_rld : jK jx_rld := jK_of fun pc a b d c L st σ q h => by unfold jx_rld at h; (repeat' split at h) <;> first | (cases h; rfl) | cases h
theorem jK_len : jK jx_len := jK_of fun pc a b d c L st σ q h => by unfold jx_len at h; (repeat' split at h) <;> first | (cases h; rfl) | cases h
theorem jK_rst : jK jx_rst := jK_of fun pc a b d c L st σ q h => by unfold jx_rst at h; (repeat' split at h) <;> first | (cases h; rfl) | cases h
theorem jK_tsw : jK jx_tsw := jK_of fun pc a b d c L st σ q h => by
  unfold jx_tsw at h
  split at h
  · split at h
    · cases h; rfl
    · cases h
  · cases h
theorem jK_kst : jK jx_kst := jK_of fun pc a b d c L st σ q h => by unfold jx_kst at h; cases h; rfl
theorem jK_sta (v : Value) : jK (jx_sta v) := jK_of fun pc a b d c L st σ q h => by unfold jx_sta at h; cases h; rfl
theorem jK_cod : jK jx_cod := jK_of fun pc a b d c L st σ q h => by unfold jx_cod at h; (repeat' split at h) <;> first | (cases h; rfl) | cases h
theorem jK_val : jK jx_val := jK_of fun pc a b d c L st σ q h => by unfold jx_val at h; (repeat' split at h) <;> first | (cases h; rfl) | cases h
theorem jK_bld : jK jx_bld := jK_of fun pc a b d c L st σ q h => by unfold jx_bld at h; (repeat' split at h) <;> first | (cases h; rfl) | cases h
theorem jK_bln : jK jx_bln := jK_of fun pc a b d c L st σ q h => by unfold jx_bln at h; (repeat' split at h) <;> first | (cases h; rfl) | cases h
theorem jK_sld (xs : jx_Xs) : jK (jx_sld xs) := jK_of fun pc a b d c L st σ q h => by unfold jx_sld at h; (repeat' split at h) <;> first | (cases h; rfl) | cases h
theorem jK_sln (xs : jx_Xs) : jK (jx_sln xs) := jK_of fun pc a b d c L st σ q h => by unfold jx_sln at h; (repeat' split at h) <;> first | (cases h; rfl) | cases h
theorem jK_oin : jK jx_oin := jK_of fun pc a b d c L st σ q h => by unfold jx_oin at h; (repeat' split at h) <;> first | (cases h; rfl) | cases h
theorem jC_up {σ : jj_S} {i k : Nat} {x : Int32} {r : Nat → Nat → Option Nat} (g : jC σ) (h : (σ.2.2.1 i).1 = 1 → (σ.2.2.1 i).2.1 = 1 → fits .char (.int x) = true) : jC (jj_up σ.1 i k x, r, σ.2.2) := by
  intro j h1 h2 l
  show fits .char (.int (jj_up σ.1 i k x j l)) = true
  by_cases e : j = i ∧ l = k
  · rw [e.1, e.2, up_eq]
    rw [e.1] at h1 h2
    exact h h1 h2
  · rw [up_ne2 e]
    exact g j h1 h2 l
theorem jK_put : jK jx_put := by
  intro pc a b d c L st σ q h g
  unfold jx_put at h
  split at h
  · split at h
    · rename_i ho
      split at h
      · cases h
        refine jC_up g (fun z => ?_)
        unfold jx_obj at ho
        have w := of_decide_eq_true (jx_and (jx_and ho).2).1
        omega
      · cases h
    · cases h
  · split at h
    · split at h
      · cases h; exact g
      · cases h
    · cases h
  · cases h
theorem jK_nst {t : Nat} {nar : Int32 → Int32} (ht : t = 1 → ∀ v, fits .char (.int (nar v)) = true) : jK (jx_nst t nar) := by
  intro pc a b d c L st σ q h g
  unfold jx_nst at h
  split at h
  · split at h
    · rename_i ho
      cases h
      refine jC_up g (fun z1 z2 => ht ?_ _)
      unfold jx_arr at ho
      have w := of_decide_eq_true (jx_and (jx_and (jx_and ho).2).2).1
      omega
    · cases h
  · cases h
theorem fits_nar (v : Int32) : fits .char (.int (vp_nar .char v)) = true := by
  have lt : v.toUInt32.toUInt16.toNat < 65536 := v.toUInt32.toUInt16.toNat_lt
  have e : vp_nar .char v = nI v.toUInt32.toUInt16.toNat := by
    show v.toUInt32.toUInt16.toUInt32.toInt32 = nI v.toUInt32.toUInt16.toNat
    apply Int32.toBitVec_inj.mp
    apply BitVec.eq_of_toNat_eq
    show v.toUInt32.toUInt16.toUInt32.toNat = v.toUInt32.toUInt16.toNat % 2 ^ 32
    rw [UInt16.toNat_toUInt32, Nat.mod_eq_of_lt (by omega)]
  rw [e]
  exact (pk_charN lt).2
theorem jK_cpy : jK jx_cpy := by
  intro pc a b d c L st σ q h g
  unfold jx_cpy at h
  split at h
  · split at h
    · rename_i ho
      cases h
      intro j h1 h2 l
      have h1 : (σ.2.2.1 j).1 = 1 := h1
      have h2 : (σ.2.2.1 j).2.1 = 1 := h2
      show fits .char (.int (jj_uf σ.1 _ _ j l)) = true
      unfold jj_uf
      split
      · unfold va_cpy
        split
        · exact g _ ho.1.2.2.2.2.1 ho.1.2.2.2.2.2.1 _
        · exact g _ ho.1.2.2.2.2.2.2.1 ho.1.2.2.2.2.2.2.2 _
      · exact g j h1 h2 l
    · cases h
  · cases h
theorem jK_tb (xs : jx_Xs) : ∀ f ∈ jx_tb xs, jK f := by
  unfold jx_tb
  repeat' (refine List.forall_mem_cons.mpr ⟨?_, ?_⟩)
  all_goals first | exact jK_psh _ | exact jK_ild _ | exact jK_ald _ | exact jK_ist _ | exact jK_ast _ | exact jK_inc | exact jK_bin _ | exact jK_un _ | exact jK_dup | exact jK_pop | exact jK_dpx | exact jK_dp2 | exact jK_br1 _ | exact jK_br2 _ | exact jK_gto | exact jK_mm _ | exact jK_get | exact jK_put | exact jK_nld _ | exact jK_rld | exact jK_len | exact jK_nst (fun z => absurd z (by decide)) | exact jK_nst (fun _ => fits_nar) | exact jK_rst | exact jK_tsw | exact jK_kst | exact jK_sta _ | exact jK_cod | exact jK_val | exact jK_bld | exact jK_bln | exact jK_sld _ | exact jK_sln _ | exact jK_oin | exact jK_cpy | exact fun f hf => absurd hf List.not_mem_nil
theorem jK_sem {xs : jx_Xs} {o : jx_O} {pc : Nat} {L : jx_L} {st : List Value} {σ : jj_S} {q : jx_N} (h : jx_sem xs o pc L st σ = some q) (g : jC σ) : jC (q.2.2.2.1, q.2.2.2.2, σ.2.2) := by
  unfold jx_sem at h
  rw [List.getD_eq_getElem?_getD] at h
  cases e : (jx_tb xs)[o.1]? with
  | none => rw [e] at h; cases (show none = some q from h)
  | some f => rw [e] at h; exact jK_tb xs f (List.mem_of_getElem? e) _ _ _ _ _ _ _ _ _ h g
theorem jC_nw {σ : jj_S} {q : Nat × Nat × Nat} (g : jC σ) : jC (jj_nw σ q) := by
  intro i h1 h2 k
  unfold jj_nw at h1 h2 ⊢
  dsimp only at h1 h2 ⊢
  by_cases e : i = σ.2.2.2.1
  · rw [if_pos e]; rfl
  · rw [if_neg e] at h1 h2 ⊢
    exact g i h1 h2 k
theorem run_C {xs : jx_Xs} : ∀ (f : Nat) {y pc : Nat} {L : jx_L} {st : List Value} {σ : jj_S} {r : Option Value × jj_S}, jx_run xs f y pc L st σ = some r → jC σ → jC r.2 := by
  intro f
  induction f with
  | zero => intro y pc L st σ r h; cases (show none = some r from h)
  | succ f ih =>
    intro y pc L st σ r h g
    rw [jx_run] at h
    cases ho : jx_op y pc with
    | none => rw [ho] at h; cases h
    | some o =>
      rw [ho] at h
      dsimp only at h
      by_cases h1 : o.1 < 72
      · rw [if_pos h1] at h
        cases hq : jx_sem xs o pc L st σ with
        | none => rw [hq] at h; cases h
        | some q => rw [hq] at h; exact ih h (jK_sem hq g)
      · rw [if_neg h1] at h
        by_cases h2 : o.1 < 80
        · rw [if_pos h2] at h
          cases hq : jx_new o st σ with
          | none => rw [hq] at h; cases h
          | some q => rw [hq] at h; exact ih h (jC_nw g)
        · rw [if_neg h2] at h
          by_cases h3 : o.1 < 90
          · rw [if_pos h3] at h
            cases hq : jx_cal o st σ with
            | none => rw [hq] at h; cases h
            | some q =>
              rw [hq] at h
              dsimp only at h
              cases hr : jx_run xs f o.2.2.1 0 (jx_ent o.2.2.1 q.1) [] σ with
              | none => rw [hr] at h; cases h
              | some u => rw [hr] at h; exact ih h (ih hr g)
          · rw [if_neg h3] at h
            cases hv : jx_ret y o st with
            | none => rw [hv] at h; cases h
            | some v => rw [hv] at h; cases h; exact g
theorem ez_C {xs : jx_Xs} {y pc : Nat} {L : jx_L} {st : List Value} {m : zM} {Q : Option Value → zM → Prop} (hC : jC (z_S m)) (g : ez xs y pc L st m Q) : ez xs y pc L st m (fun r m' => Q r m' ∧ jC (z_S m')) := by
  obtain ⟨f, r, τ, h, m', rfl, q⟩ := g
  exact ⟨f, r, z_S m', h, m', rfl, q, run_C f h hC⟩
theorem zo_C {R : zM → Prop} {xs : jx_Xs} {yc ym : Nat} {as : List Value} (h : ∀ m, R m → jC (z_S m) → ez xs yc 0 (jx_ent yc (.ref 0 :: as)) [] m (fun r m1 => ∃ v, r = some (.int v) ∧ ez xs ym 0 (jx_ent ym (.ref 131 :: as)) [] m1 (fun r2 m2 => r2 = some (.int v) ∧ R m2))) : zo (fun m => R m ∧ jC (z_S m)) xs yc ym as := by
  intro m hR
  refine ez_mono (ez_C hR.2 (h m hR.1 hR.2)) (fun r m1 q => ?_)
  obtain ⟨⟨v, rfl, q1⟩, q2⟩ := q
  refine ⟨v, rfl, ez_mono (ez_C q2 q1) (fun r2 m2 w => ⟨w.1.1, w.1.2, w.2⟩)⟩
theorem zov_C {R : zM → Prop} {xs : jx_Xs} {yc ym : Nat} {as : List Value} (h : zov R xs yc ym as) : zov (fun m => R m ∧ jC (z_S m)) xs yc ym as := by
  intro m hR
  refine ez_mono (ez_C hR.2 (h m hR.1)) (fun r m1 q => ?_)
  obtain ⟨⟨rfl, q1⟩, q2⟩ := q
  exact ⟨rfl, ez_mono (ez_C q2 q1) (fun r2 m2 w => ⟨w.1.1, w.1.2, w.2⟩)⟩
