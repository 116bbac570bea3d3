/-! The law's head: the two constructors run on the small machine; then the store has its fixed shape. -/
theorem jx_tb_xs (xs xt : jx_Xs) : ∀ κ : Nat, κ ≠ 67 → κ ≠ 68 → (jx_tb xs).getD κ jx_no = (jx_tb xt).getD κ jx_no
  | 0, _, _ => rfl
  | 1, _, _ => rfl
  | 2, _, _ => rfl
  | 3, _, _ => rfl
  | 4, _, _ => rfl
  | 5, _, _ => rfl
  | 6, _, _ => rfl
  | 7, _, _ => rfl
  | 8, _, _ => rfl
  | 9, _, _ => rfl
  | 10, _, _ => rfl
  | 11, _, _ => rfl
  | 12, _, _ => rfl
  | 13, _, _ => rfl
  | 14, _, _ => rfl
  | 15, _, _ => rfl
  | 16, _, _ => rfl
  | 17, _, _ => rfl
  | 18, _, _ => rfl
  | 19, _, _ => rfl
  | 20, _, _ => rfl
  | 21, _, _ => rfl
  | 22, _, _ => rfl
  | 23, _, _ => rfl
  | 24, _, _ => rfl
  | 25, _, _ => rfl
  | 26, _, _ => rfl
  | 27, _, _ => rfl
  | 28, _, _ => rfl
  | 29, _, _ => rfl
  | 30, _, _ => rfl
  | 31, _, _ => rfl
  | 32, _, _ => rfl
  | 33, _, _ => rfl
  | 34, _, _ => rfl
  | 35, _, _ => rfl
  | 36, _, _ => rfl
  | 37, _, _ => rfl
  | 38, _, _ => rfl
  | 39, _, _ => rfl
  | 40, _, _ => rfl
  | 41, _, _ => rfl
  | 42, _, _ => rfl
  | 43, _, _ => rfl
  | 44, _, _ => rfl
  | 45, _, _ => rfl
  | 46, _, _ => rfl
  | 47, _, _ => rfl
  | 48, _, _ => rfl
  | 49, _, _ => rfl
  | 50, _, _ => rfl
  | 51, _, _ => rfl
  | 52, _, _ => rfl
  | 53, _, _ => rfl
  | 54, _, _ => rfl
  | 55, _, _ => rfl
  | 56, _, _ => rfl
  | 57, _, _ => rfl
  | 58, _, _ => rfl
  | 59, _, _ => rfl
  | 60, _, _ => rfl
  | 61, _, _ => rfl
  | 62, _, _ => rfl
  | 63, _, _ => rfl
  | 64, _, _ => rfl
  | 65, _, _ => rfl
  | 66, _, _ => rfl
  | 67, h, g => absurd rfl h
  | 68, h, g => absurd rfl g
  | 69, _, _ => rfl
  | 70, _, _ => rfl
  | _ + 71, _, _ => rfl
/-- only the law reads the script -/
theorem jx_xs (xs xt : jx_Xs) : ∀ (f : Nat) {y pc : Nat} {L : jx_L} {st : List Value} {σ : jj_S}, y < jt_law → jx_run xs f y pc L st σ = jx_run xt f y pc L st σ := by
  intro f
  induction f with
  | zero => intro y pc L st σ _; rfl
  | succ f ih =>
    intro y pc L st σ hy
    rw [jx_run, jx_run]
    cases ho : jx_op y pc with
    | none => rfl
    | some o =>
      obtain ⟨hd, hc⟩ := jx_and (jt_ok ho)
      obtain ⟨κ, a, b, d, c⟩ := o
      dsimp only
      by_cases h1 : κ < 72
      · rw [if_pos h1, if_pos h1]
        have n1 : κ ≠ 67 := fun e => by subst e; exact absurd (of_decide_eq_true (p := y = jt_law) hc) (Nat.ne_of_lt hy)
        have n2 : κ ≠ 68 := fun e => by subst e; exact absurd (of_decide_eq_true (p := y = jt_law) hc) (Nat.ne_of_lt hy)
        have hs : jx_sem xs (κ, a, b, d, c) pc L st σ = jx_sem xt (κ, a, b, d, c) pc L st σ := by
          show ((jx_tb xs).getD κ jx_no) pc a b d c L st σ = ((jx_tb xt).getD κ jx_no) pc a b d c L st σ
          rw [jx_tb_xs xs xt κ n1 n2]
        rw [hs]
        cases jx_sem xt (κ, a, b, d, c) pc L st σ with
        | none => rfl
        | some q => exact ih hy
      · rw [if_neg h1, if_neg h1]
        by_cases h2 : κ < 80
        · rw [if_pos h2, if_pos h2]
          cases jx_new (κ, a, b, d, c) st σ with
          | none => rfl
          | some q => exact ih hy
        · rw [if_neg h2, if_neg h2]
          by_cases h3 : κ < 90
          · rw [if_pos h3, if_pos h3]
            cases hq : jx_cal (κ, a, b, d, c) st σ with
            | none => rfl
            | some q =>
              dsimp only
              have hb : b < jt_law ∧ d ≤ jt_L b := jx_lok_call (by omega) h3 hc (jx_cal_86 (as := q.1) (rest := q.2) (by omega) h3 hq)
              rw [ih (y := b) hb.1]
              cases jx_run xt f b 0 (jx_ent b q.1) [] σ with
              | none => rfl
              | some u => exact ih hy
          · rw [if_neg h3, if_neg h3]
section JG
variable {X : jj_X} {y : Nat} {R : Room} {Z : List Frame → Array Value → State → State → Prop} {pc k n : Nat} {L : jx_L} {st : List Value} {σ : jj_S}
theorem jg_st (hfr : jt_fr y ≤ R.frames) (hlo : jt_lo y ≤ R.locals) (hk : k ≤ R.cells) (hn : n ≤ R.slots) {pc' : Nat} {L' : jx_L} {st' : List Value} {m' : Nat → Nat → Int32} {r' : Nat → Nat → Option Nat} (h : jx_st X.2.2.2.2.2 y pc L st σ = some (pc', L', st', m', r')) (g : jj_G X y R Z pc' L' st' k n (m', r', σ.2.2)) : jj_G X y R Z pc L st k n σ := by
  unfold jx_st at h
  cases ho : jx_op y pc with
  | none => rw [ho] at h; cases h
  | some o =>
    rw [ho] at h
    dsimp only at h
    obtain ⟨hd, hc⟩ := jx_and (jt_ok ho)
    have hd := of_decide_eq_true hd
    obtain ⟨κ, a, b, d, c⟩ := o
    by_cases h1 : κ < 72
    · rw [if_pos h1] at h
      exact jx_snd κ h1 X y R Z k n pc a b d c L st σ _ hfr hlo hk hn hd hc h g
    · rw [if_neg h1] at h; cases h
theorem jg_new {o : jx_O} {q : Nat × (Nat × Nat × Nat) × List Value} (ho : jx_op y pc = some o) (hκ : 72 ≤ o.1 ∧ o.1 < 80) (h : jx_new o st σ = some q) (hk : k + 1 ≤ R.cells) (hn : n + q.2.1.2.2 ≤ R.slots) (g : jj_G X y R Z (pc + q.1) L (.ref σ.2.2.2.1 :: q.2.2) (k + 1) (n + q.2.1.2.2) (jj_nw σ q.2.1)) : jj_G X y R Z pc L st k n σ := by
  obtain ⟨hd, hc⟩ := jx_and (jt_ok ho)
  have hd := of_decide_eq_true hd
  obtain ⟨κ, a, b, d, c⟩ := o
  exact jx_sndN κ hκ.1 hκ.2 X y R Z k n pc a b d c L st σ q hd hc h hk hn g
theorem jg_call {o : jx_O} {as rest : List Value} {u : Option Value} {τ : jj_S} (f : Nat) (hfr : jt_fr y ≤ R.frames) (hlo : jt_lo y ≤ R.locals) (ho : jx_op y pc = some o) (hκ : 80 ≤ o.1 ∧ o.1 < 90) (h : jx_cal o st σ = some (as, rest)) (hr : jx_run X.2.2.2.2.2 f o.2.2.1 0 (jx_ent o.2.2.1 as) [] σ = some (u, τ))
    (hk : k + (τ.2.2.2.1 - σ.2.2.2.1) ≤ R.cells) (hn : n + (τ.2.2.2.2 - σ.2.2.2.2) ≤ R.slots) (g : jj_G X y R Z (pc + 3) L (u.toList ++ rest) (k + (τ.2.2.2.1 - σ.2.2.2.1)) (n + (τ.2.2.2.2 - σ.2.2.2.2)) τ) : jj_G X y R Z pc L st k n σ := by
  obtain ⟨hd, hc⟩ := jx_and (jt_ok ho)
  have hd := of_decide_eq_true hd
  obtain ⟨κ, a, b, d, c⟩ := o
  have ga := jx_grow f hr
  have ga1 : σ.2.2.2.1 ≤ τ.2.2.2.1 := ga.1
  have ga2 : σ.2.2.2.2 ≤ τ.2.2.2.2 := ga.2
  obtain ⟨c1, c2, c3, c4, c5, c6, c7⟩ := jx_cal_of h
  have hb : b < jt_law ∧ d ≤ jt_L b := jx_lok_call hκ.1 hκ.2 hc (jx_cal_86 hκ.1 hκ.2 h)
  have hcal : Met X.1 (jt_N b) (jt_ws b) (jj_rm b (τ.2.2.2.1 - σ.2.2.2.1) (τ.2.2.2.2 - σ.2.2.2.2)) (jj_Pc X as σ) (jj_Q X u τ) (τ.2.2.2.1 - σ.2.2.2.1) (τ.2.2.2.2 - σ.2.2.2.2) (jj_A X) :=
    jj_met hb.1 c5 (Nat.le_trans (Nat.le_of_eq c3) hb.2) (jx_sound f hr (R := jj_rm b _ _) (k := 0) (n := 0) (K := τ.2.2.2.1 - σ.2.2.2.1) (N := τ.2.2.2.2 - σ.2.2.2.2) (Nat.le_refl _) (Nat.le_refl _) (by omega) (by omega) (Nat.le_refl _) (Nat.le_refl _) jj_end)
  intro p e s m args below meth cc H locs ls V P S hl hz T hT Y
  have hsz := jj_size P S V.2.2.2.2.2.2.2.2.2.1 hz hT Y
  have hrun := jx_sndC κ hκ.1 hκ.2 X y R k n pc a b d c st σ τ u as rest (τ.2.2.2.1 - σ.2.2.2.1) (τ.2.2.2.2 - σ.2.2.2.2) p e s m args below meth cc H locs ls hfr hlo hd hc h hk hn hcal V P S hl.1 hsz
  refine jj_back hrun S (fun H1 locs1 hP1 hS1 => ?_) T hT Y
  have g2 := g p e s m args below meth cc H1 locs1 ls V hP1 hS1 hl (by omega)
  refine W.eq ?_ g2
  show F0 _ _ _ _ = F0 _ _ _ _
  rw [List.map_append]
  congr 2
  cases u <;> rfl
/-- another store with the same cells -/
theorem jg_same {τ : jj_S} (ht : τ.2.2.2.1 = σ.2.2.2.1) (h : ∀ (H : Heap), jj_P X σ H → jj_P X τ H) (g : jj_G X y R Z pc L st k n τ) : jj_G X y R Z pc L st k n σ :=
  fun p e s m args below meth c H locs ls V P S hl hz => g p e s m args below meth c H locs ls V (h H P) S hl (by rw [ht]; exact hz)
end JG
theorem arrV_same {cA : ClassId} {n : Nat} {f g : Nat → Value} (h : ∀ j, j < n → f j = g j) : arrV cA n f = arrV cA n g := by
  unfold arrV
  congr 1
  apply Array.ext
  · simp
  · intro i h1 h2
    simp only [Array.getElem_ofFn]
    exact h i (by simpa using h1)
/-- the same shapes; the same numbers; the same references wherever a cell has one -/
theorem jj_P.same {X : jj_X} {σ τ : jj_S} {H : Heap} (hm : τ.1 = σ.1) (ht : τ.2.2.2.1 = σ.2.2.2.1) (hs : ∀ i, i < σ.2.2.2.1 → τ.2.2.1 i = σ.2.2.1 i)
    (ho : ∀ i, i < σ.2.2.2.1 → (σ.2.2.1 i).1 = 0 → ∀ k, k < jt_n (σ.2.2.1 i).2.1 → τ.2.1 i k = σ.2.1 i k) (ha : ∀ i, i < σ.2.2.2.1 → (σ.2.2.1 i).1 ≠ 0 → (σ.2.2.1 i).1 ≠ 1 → ∀ k, k < (σ.2.2.1 i).2.2 → τ.2.1 i k = σ.2.1 i k) (P : jj_P X σ H) : jj_P X τ H := by
  refine ⟨by rw [ht]; exact P.1, fun i q hq => ?_⟩
  obtain ⟨hl, rfl⟩ := jj_wl_lt hq
  rw [ht] at hl
  have h0 := P.2 i _ (jj_wl_at hl)
  have e3 := hs i hl
  by_cases c0 : (σ.2.2.1 i).1 = 0
  · rw [jj_E0 c0] at h0
    rw [jj_E0 (by rw [e3]; exact c0), e3]
    have ef : jj_fs X τ i (σ.2.2.1 i).2.1 = jj_fs X σ i (σ.2.2.1 i).2.1 := by
      apply List.ext_getElem?
      intro j
      by_cases hj : j < jt_n (σ.2.2.1 i).2.1
      · rw [jj_fs_at hj, jj_fs_at hj, ho i hl c0 j hj, hm]
      · rw [List.getElem?_eq_none (by rw [jj_fs_len]; omega), List.getElem?_eq_none (by rw [jj_fs_len]; omega)]
    rw [ef]
    exact h0
  · by_cases c1 : (σ.2.2.1 i).1 = 1
    · rw [jj_E1 c1] at h0
      rw [jj_E1 (by rw [e3]; exact c1), e3, hm]
      exact h0
    · have hE : ∀ ρ : jj_S, (ρ.2.2.1 i).1 ≠ 0 → (ρ.2.2.1 i).1 ≠ 1 → jj_E X ρ i = .inl (X.2.2.2.2.1 (ρ.2.2.1 i).2.1, (ρ.2.2.1 i).2.2, .inr (.inr (.inr (.inr fun j => (ρ.2.1 i j).map (jj_ad X))))) := by
        intro ρ r0 r1
        unfold jj_E
        rw [if_neg r0, if_neg r1]
      rw [hE σ c0 c1] at h0
      rw [hE τ (by rw [e3]; exact c0) (by rw [e3]; exact c1), e3]
      have h1 : H[jj_ad X i]? = some (vp_cell (X.2.2.2.2.1 (σ.2.2.1 i).2.1) ((σ.2.2.1 i).2.2, .inr (.inr (.inr (.inr fun j => (σ.2.1 i j).map (jj_ad X)))))) := h0
      show H[jj_ad X i]? = some (vp_cell _ _)
      rw [h1]
      congr 1
      dsimp only
      rw [vp_cell_q, vp_cell_q]
      refine arrV_same fun j hj => ?_
      rw [ha i hl c0 c1 j hj]
