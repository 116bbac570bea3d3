def jj_End (X : jj_X) (y : Nat) (R : Room) (Z : List Frame → Array Value → State → State → Prop) (r : Option Value) (τ : jj_S) (K N : Nat) : Prop :=
  ∀ (p : Program) (e : Env) (s : State) (m : MethodId) (args : Array Value) (below : List Frame) (meth : Method) (c : Code) (H : Heap) (locs : List Loc) (ls : Array Slot) (pc : Nat), jj_V X y p s m args meth c → jj_P X τ H → va_S (jj_A X) s.heap H locs →
  (r = none → jt_R y = none → decode (jt_B y) pc = .ok (.return_, 1) → W p X.1 e R s m args below meth c H locs K N (Z below args s) (F0 m pc ls [])) ∧
  (∀ (v : Int32) (ty : FieldType), r = some (.int v) → jt_R y = some ty → narrow ty (.int v) = .int v → decode (jt_B y) pc = .ok (.ireturn, 1) → W p X.1 e R s m args below meth c H locs K N (Z below args s) (F0 m pc ls [.int v])) ∧
  (∀ (i : Nat) (ty : FieldType), r = some (.ref i) → jt_R y = some ty → ((∃ n, ty = .object n) ∨ ∃ t, ty = .array t) → decode (jt_B y) pc = .ok (.areturn, 1) → W p X.1 e R s m args below meth c H locs K N (Z below args s) (F0 m pc ls [.ref (jj_ad X i)]))
theorem jj_end {X : jj_X} {y : Nat} {R : Room} {r : Option Value} {τ : jj_S} {K N : Nat} : jj_End X y R (jj_Z X r τ K N) r τ K N := by
  intro p e s m args below meth c H locs ls pc V P S
  refine ⟨fun hr hR hd => ?_, fun v ty hr hR hn hd => ?_, fun i ty hr hR hty hd => ?_⟩
  · subst hr
    exact W.vret V.1 V.2.1 (V.2.2.2.2.2.1.trans hR) (fun t ht hW => ⟨⟨rfl, by rw [ht]; exact P⟩, S.F ht⟩) S.2.2 hd V.2.2.2.2.2.2.1
  · subst hr
    exact W.zret V.1 V.2.1 (V.2.2.2.2.2.1.trans hR) hn (fun t ht hW => ⟨⟨rfl, by rw [ht]; exact P⟩, S.F ht⟩) S.2.2 hd V.2.2.2.2.2.2.1
  · subst hr
    exact W.aret V.1 V.2.1 (V.2.2.2.2.2.1.trans hR) hty (Or.inr ⟨_, rfl⟩) (fun t ht hW => ⟨⟨rfl, by rw [ht]; exact P⟩, S.F ht⟩) S.2.2 hd V.2.2.2.2.2.2.1
theorem js_no (κ : Nat) (h : ∀ xs, (jx_tb xs).getD κ jx_no = jx_no) : jx_Snd κ := by
  intro X y R Z k n pc a b d c L st σ q hfr hlo hk0 hn0 hd hc hs g
  have hs' : ((jx_tb X.2.2.2.2.2).getD κ jx_no) pc a b d c L st σ = some q := hs
  rw [h] at hs'
  cases (show none = some q from hs')
theorem js_4 : jx_Snd 4 := by
  intro X y R Z k n pc a b d c L st σ q hfr hlo hk0 hn0 hd hc h g
  have hq := Option.some.inj h
  subst hq
  intro p e s m args below meth cc H locs ls V P S hl hz T hT Y
  obtain ⟨t, a1, b1⟩ := g p e s m args below meth cc H locs ls V P S hl hz T hT Y
  exact ⟨t, va_ldcwI Y V.1 V.2.2.2.1 (V.2.2.2.2.1 _ (jt_lc_ok (of_decide_eq_true (p := (jt_c y, a, c) ∈ jt_lc) hc))) (g := F0 m pc ls (st.map (jj_cv X))) rfl (by rw [V.2.1]; exact hd) t a1, b1⟩
theorem jx_snd : ∀ κ : Nat, κ < 72 → jx_Snd κ
  | 0, _ => js_0
  | 1, _ => js_1
  | 2, _ => js_2
  | 3, _ => js_3
  | 4, _ => js_4
  | 5, _ => js_5
  | 6, _ => js_6
  | 7, _ => js_7
  | 8, _ => js_8
  | 9, _ => js_9
  | 10, _ => js_10
  | 11, _ => js_11
  | 12, _ => js_12
  | 13, _ => js_13
  | 14, _ => js_14
  | 15, _ => js_15
  | 16, _ => js_16
  | 17, _ => js_17
  | 18, _ => js_18
  | 19, _ => js_19
  | 20, _ => js_20
  | 21, _ => js_21
  | 22, _ => js_22
  | 23, _ => js_23
  | 24, _ => js_24
  | 25, _ => js_25
  | 26, _ => js_26
  | 27, _ => js_27
  | 28, _ => js_28
  | 29, _ => js_29
  | 30, _ => js_30
  | 31, _ => js_31
  | 32, _ => js_32
  | 33, _ => js_33
  | 34, _ => js_34
  | 35, _ => js_35
  | 36, _ => js_36
  | 37, _ => js_37
  | 38, _ => js_38
  | 39, _ => js_39
  | 40, _ => js_40
  | 41, _ => js_41
  | 42, _ => js_42
  | 43, _ => js_43
  | 44, _ => js_44
  | 45, _ => js_45
  | 46, _ => js_46
  | 47, _ => js_47
  | 48, _ => js_48
  | 49, _ => js_49
  | 50, _ => js_50
  | 51, _ => js_51
  | 52, _ => js_52
  | 53, _ => js_53
  | 54, _ => js_54
  | 55, _ => js_55
  | 56, _ => js_56
  | 57, _ => js_57
  | 58, _ => js_58
  | 59, _ => js_59
  | 60, _ => js_60
  | 61, _ => js_61
  | 62, _ => js_62
  | 63, _ => js_63
  | 64, _ => js_64
  | 65, _ => js_65
  | 66, _ => js_66
  | 67, _ => js_67
  | 68, _ => js_68
  | 69, _ => js_69
  | 70, _ => js_70
  | 71, _ => js_no 71 (fun _ => rfl)
  | n + 72, h => absurd h (by omega)
theorem jx_sndN : ∀ κ : Nat, 72 ≤ κ → κ < 80 → jx_SndN κ := by
  intro κ h1 h2 X y R Z k n pc a b d c L st σ q hd hc h hk hn g
  by_cases e1 : κ = 72
  · subst e1; exact jn_72 X y R Z k n pc a b d c L st σ q hd hc h hk hn g
  · by_cases e2 : κ = 73
    · subst e2; exact jn_73 X y R Z k n pc a b d c L st σ q hd hc h hk hn g
    · by_cases e3 : κ = 74
      · subst e3; exact jn_74 X y R Z k n pc a b d c L st σ q hd hc h hk hn g
      · exfalso
        unfold jx_new at h
        split at h
        · split at h
          · split at h <;> cases h
          · cases h
        · cases h
theorem jx_sndC : ∀ κ : Nat, 80 ≤ κ → κ < 90 → jx_SndC κ := by
  intro κ h1 h2 X y R k n pc a b d c st σ τ u as rest mc ms p e s m args below meth cc H locs ls hfr hlo hd hc hcal
  by_cases e80 : κ = 80
  · subst e80; exact jc_80 X y R k n pc a b d c st σ τ u as rest mc ms p e s m args below meth cc H locs ls hfr hlo hd hc hcal
  by_cases e81 : κ = 81
  · subst e81; exact jc_81 X y R k n pc a b d c st σ τ u as rest mc ms p e s m args below meth cc H locs ls hfr hlo hd hc hcal
  by_cases e82 : κ = 82
  · subst e82; exact jc_82 X y R k n pc a b d c st σ τ u as rest mc ms p e s m args below meth cc H locs ls hfr hlo hd hc hcal
  by_cases e83 : κ = 83
  · subst e83; exact jc_83 X y R k n pc a b d c st σ τ u as rest mc ms p e s m args below meth cc H locs ls hfr hlo hd hc hcal
  by_cases e84 : κ = 84
  · subst e84; exact jc_84 X y R k n pc a b d c st σ τ u as rest mc ms p e s m args below meth cc H locs ls hfr hlo hd hc hcal
  by_cases e85 : κ = 85
  · subst e85; exact jc_85 X y R k n pc a b d c st σ τ u as rest mc ms p e s m args below meth cc H locs ls hfr hlo hd hc hcal
  by_cases e86 : κ = 86
  · subst e86; exact jc_86 X y R k n pc a b d c st σ τ u as rest mc ms p e s m args below meth cc H locs ls hfr hlo hd hc hcal
  exfalso
  have c7 := (jx_cal_of hcal).2.2.2.2.2.2
  unfold jx_rcv at c7
  dsimp only at c7
  rw [if_neg (by omega)] at c7
  split at c7
  · rw [if_neg e86, if_neg (by omega)] at c7
    have := of_decide_eq_true c7
    omega
  · cases c7
theorem jx_lok_call {κ y a b d : Nat} {c : Int32} (h1 : 80 ≤ κ) (h2 : κ < 90) (h : jx_lok y (κ, a, b, d, c) = true) : κ ≤ 86 → b < jt_law ∧ d ≤ jt_L b := by
  intro h3
  have key : ∀ {m1 m2 : Bool} {rc : Nat}, (m1 && (m2 && jx_rm y b d rc)) = true → b < jt_law ∧ d ≤ jt_L b := fun hh => ⟨(jx_rm_of (jx_and (jx_and hh).2).2).2.2.2.2, (jx_rm_of (jx_and (jx_and hh).2).2).2.2.2.1⟩
  obtain rfl | rfl | rfl | rfl | rfl | rfl | rfl : κ = 80 ∨ κ = 81 ∨ κ = 82 ∨ κ = 83 ∨ κ = 84 ∨ κ = 85 ∨ κ = 86 := by omega
  · exact key (m1 := decide ((jt_c y, a, b) ∈ jt_lm)) (m2 := decide (b ∈ jt_iv)) (rc := 1) h
  · exact key (m1 := decide ((jt_c y, a, b) ∈ jt_lm)) (m2 := decide (b ∈ jt_is)) (rc := 0) h
  · exact key (m1 := decide ((jt_c y, a, b) ∈ jt_lm)) (m2 := decide (b ∈ jt_ii)) (rc := 1) h
  · exact key (m1 := decide ((jt_c y, a, b) ∈ jt_lmn)) (m2 := decide (b ∈ jt_iv)) (rc := 1) h
  · exact key (m1 := decide ((jt_c y, a, b) ∈ jt_lmn)) (m2 := decide (b ∈ jt_is)) (rc := 0) h
  · exact key (m1 := decide ((jt_c y, a, b) ∈ jt_lmn)) (m2 := decide (b ∈ jt_ii)) (rc := 1) h
  · exact key (m1 := decide ((jt_c y, a, b) ∈ jt_lm)) (m2 := decide (b ∈ jt_it)) (rc := 1) h
theorem jx_cal_86 {κ a b d : Nat} {c : Int32} {st as rest : List Value} {σ : jj_S} (h1 : 80 ≤ κ) (h2 : κ < 90) (hcal : jx_cal (κ, a, b, d, c) st σ = some (as, rest)) : κ ≤ 86 := by
  by_cases h : κ ≤ 86
  · exact h
  exfalso
  have c7 := (jx_cal_of hcal).2.2.2.2.2.2
  unfold jx_rcv at c7
  dsimp only at c7
  rw [if_neg (by omega)] at c7
  split at c7
  · rw [if_neg (by omega), if_neg (by omega)] at c7
    have := of_decide_eq_true c7
    omega
  · cases c7
theorem jx_sound {X : jj_X} : ∀ (f : Nat) {y pc : Nat} {L : jx_L} {st : List Value} {σ : jj_S} {r : Option Value} {τ : jj_S}, jx_run X.2.2.2.2.2 f y pc L st σ = some (r, τ) → ∀ {R : Room} {Z : List Frame → Array Value → State → State → Prop} {k n K N : Nat},
    jt_fr y ≤ R.frames → jt_lo y ≤ R.locals → K + σ.2.2.2.1 = k + τ.2.2.2.1 → N + σ.2.2.2.2 = n + τ.2.2.2.2 → K ≤ R.cells → N ≤ R.slots → jj_End X y R Z r τ K N → jj_G X y R Z pc L st k n σ := by
  intro f
  induction f with
  | zero => intro y pc L st σ r τ h; cases (show none = some (r, τ) from h)
  | succ f ih =>
    intro y pc L st σ r τ h R Z k n K N hfr hlo hK hN hKR hNR hE
    rw [jx_run] at h
    cases ho : jx_op y pc with
    | none => rw [ho] at h; cases h
    | some o =>
      rw [ho] at h
      dsimp only at h
      obtain ⟨hd, hc⟩ := jx_and (jt_ok ho)
      have hd := of_decide_eq_true hd
      obtain ⟨κ, a, b, d, c⟩ := o
      dsimp only at h
      by_cases h1 : κ < 72
      · rw [if_pos h1] at h
        cases hq : jx_sem X.2.2.2.2.2 (κ, a, b, d, c) pc L st σ with
        | none => rw [hq] at h; cases h
        | some q =>
          rw [hq] at h
          have hg := jx_grow f h
          have hg1 : σ.2.2.2.1 ≤ τ.2.2.2.1 := hg.1
          have hg2 : σ.2.2.2.2 ≤ τ.2.2.2.2 := hg.2
          exact jx_snd κ h1 X y R Z k n pc a b d c L st σ q hfr hlo (by omega) (by omega) hd hc hq (ih h hfr hlo hK hN hKR hNR hE)
      · rw [if_neg h1] at h
        by_cases h2 : κ < 80
        · rw [if_pos h2] at h
          cases hq : jx_new (κ, a, b, d, c) st σ with
          | none => rw [hq] at h; cases h
          | some q =>
            rw [hq] at h
            dsimp only at h
            have hg := jx_grow f h
            have hg1 : σ.2.2.2.1 + 1 ≤ τ.2.2.2.1 := hg.1
            have hg2 : σ.2.2.2.2 + q.2.1.2.2 ≤ τ.2.2.2.2 := hg.2
            exact jx_sndN κ (by omega) h2 X y R Z k n pc a b d c L st σ q hd hc hq (by omega) (by omega) (ih h hfr hlo (by show K + (σ.2.2.2.1 + 1) = _; omega) (by show N + (σ.2.2.2.2 + q.2.1.2.2) = _; omega) hKR hNR hE)
        · rw [if_neg h2] at h
          by_cases h3 : κ < 90
          · rw [if_pos h3] at h
            cases hq : jx_cal (κ, a, b, d, c) st σ with
            | none => rw [hq] at h; cases h
            | some q =>
              rw [hq] at h
              dsimp only at h
              cases hr : jx_run X.2.2.2.2.2 f b 0 (jx_ent b q.1) [] σ with
              | none => rw [hr] at h; cases h
              | some u =>
                rw [hr] at h
                dsimp only at h
                have ga := jx_grow f hr
                have gb := jx_grow f h
                have gb1 : u.2.2.2.2.1 ≤ τ.2.2.2.1 := gb.1
                have gb2 : u.2.2.2.2.2 ≤ τ.2.2.2.2 := gb.2
                obtain ⟨c1, c2, c3, c4, c5, c6, c7⟩ := jx_cal_of (as := q.1) (rest := q.2) hq
                have hb : b < jt_law ∧ d ≤ jt_L b := jx_lok_call (by omega) h3 hc (jx_cal_86 (as := q.1) (rest := q.2) (by omega) h3 hq)
                have hcal : Met X.1 (jt_N b) (jt_ws b) (jj_rm b (u.2.2.2.2.1 - σ.2.2.2.1) (u.2.2.2.2.2 - σ.2.2.2.2)) (jj_Pc X q.1 σ) (jj_Q X u.1 u.2) (u.2.2.2.2.1 - σ.2.2.2.1) (u.2.2.2.2.2 - σ.2.2.2.2) (jj_A X) :=
                  jj_met hb.1 c5 (Nat.le_trans (Nat.le_of_eq c3) hb.2) (ih hr (R := jj_rm b _ _) (k := 0) (n := 0) (K := u.2.2.2.2.1 - σ.2.2.2.1) (N := u.2.2.2.2.2 - σ.2.2.2.2) (Nat.le_refl _) (Nat.le_refl _) (by omega) (by omega) (Nat.le_refl _) (Nat.le_refl _) jj_end)
                have hcont : jj_G X y R Z (pc + 3) L (u.1.toList ++ q.2) (k + (u.2.2.2.2.1 - σ.2.2.2.1)) (n + (u.2.2.2.2.2 - σ.2.2.2.2)) u.2 := ih h hfr hlo (by omega) (by omega) hKR hNR hE
                intro p e s m args below meth cc H locs ls V P S hl hz T hT Y
                have hsz := jj_size P S V.2.2.2.2.2.2.2.2.2.1 hz hT Y
                have hrun := jx_sndC κ (by omega) h3 X y R k n pc a b d c st σ u.2 u.1 q.1 q.2 (u.2.2.2.2.1 - σ.2.2.2.1) (u.2.2.2.2.2 - σ.2.2.2.2) p e s m args below meth cc H locs ls hfr hlo hd hc hq (by omega) (by omega) hcal V P S hl.1 hsz
                refine jj_back hrun S (fun H1 locs1 hP1 hS1 => ?_) T hT Y
                have g2 := hcont p e s m args below meth cc H1 locs1 ls V hP1 hS1 hl (by omega)
                refine W.eq ?_ g2
                show F0 _ _ _ _ = F0 _ _ _ _
                rw [List.map_append]
                congr 2
                cases u.1 <;> rfl
          · rw [if_neg h3] at h
            cases hq : jx_ret y (κ, a, b, d, c) st with
            | none => rw [hq] at h; cases h
            | some v =>
              rw [hq] at h
              cases h
              have hk : K = k := by omega
              have hn : N = n := by omega
              subst hk
              subst hn
              intro p e s m args below meth cc H locs ls V P S hl hz
              obtain ⟨e1, e2, e3⟩ := hE p e s m args below meth cc H locs ls pc V P S
              unfold jx_ret at hq
              split at hq
              · split at hq
                · rename_i hh
                  obtain ⟨hh1, hh2⟩ := hh
                  dsimp only at hh1
                  subst hh1
                  cases hq
                  exact e1 rfl hh2 hd
                · cases hq
              · split at hq
                · rename_i v0 hh
                  dsimp only at hh
                  subst hh
                  split at hq
                  · rename_i hR; cases hq; exact e2 _ _ rfl hR rfl hd
                  · rename_i hR
                    split at hq
                    · rename_i hv; cases hq
                      exact e2 _ _ rfl hR (by rcases hv with rfl | rfl <;> decide) hd
                    · cases hq
                  · rename_i hR
                    split at hq
                    · rename_i hv; cases hq
                      exact e2 _ _ rfl hR (congrArg Value.int hv) hd
                    · cases hq
                  · rename_i hR
                    split at hq
                    · rename_i hv; cases hq
                      exact e2 _ _ rfl hR (congrArg Value.int hv) hd
                    · cases hq
                  · cases hq
                · cases hq
              · split at hq
                · rename_i i0 hh
                  dsimp only at hh
                  subst hh
                  split at hq
                  · rename_i hR; cases hq; exact e3 _ _ rfl hR (Or.inl ⟨_, rfl⟩) hd
                  · rename_i hR; cases hq; exact e3 _ _ rfl hR (Or.inr ⟨_, rfl⟩) hd
                  · cases hq
                · cases hq
              · cases hq
