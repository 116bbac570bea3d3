/-! Coming to an end: rules for the small machine. -/
def ev (xs : jx_Xs) (y pc : Nat) (L : jx_L) (st : List Value) (σ : jj_S) (Q : Option Value → jj_S → Prop) : Prop := ∃ f r τ, jx_run xs f y pc L st σ = some (r, τ) ∧ Q r τ
/-- one simple instruction -/
def jx_st (xs : jx_Xs) (y pc : Nat) (L : jx_L) (st : List Value) (σ : jj_S) : Option jx_N := match jx_op y pc with
  | none => none
  | some o => if o.1 < 72 then jx_sem xs o pc L st σ else none
/-- some simple instructions -/
def jx_blk (xs : jx_Xs) (y : Nat) : Nat → Nat → jx_L → List Value → jj_S → Option jx_N
  | 0, pc, L, st, σ => some (pc, L, st, σ.1, σ.2.1)
  | n + 1, pc, L, st, σ => match jx_st xs y pc L st σ with
    | none => none
    | some q => jx_blk xs y n q.1 q.2.1 q.2.2.1 (q.2.2.2.1, q.2.2.2.2, σ.2.2)
section EV
variable {xs : jx_Xs} {y pc : Nat} {L : jx_L} {st : List Value} {σ : jj_S} {Q : Option Value → jj_S → Prop}
theorem ev_st0 {q : jx_N} (h : jx_st xs y pc L st σ = some q) (g : ev xs y q.1 q.2.1 q.2.2.1 (q.2.2.2.1, q.2.2.2.2, σ.2.2) Q) : ev xs y pc L st σ Q := by
  obtain ⟨f, r, τ, hr, hq⟩ := g
  refine ⟨f + 1, r, τ, ?_, hq⟩
  unfold jx_st at h
  rw [jx_run]
  cases ho : jx_op y pc with
  | none => rw [ho] at h; cases h
  | some o =>
    rw [ho] at h
    dsimp only at h ⊢
    by_cases h1 : o.1 < 72
    · rw [if_pos h1] at h ⊢
      rw [h]
      exact hr
    · rw [if_neg h1] at h; cases h
theorem ev_blk (n : Nat) {pc' : Nat} {L' : jx_L} {st' : List Value} {m' : Nat → Nat → Int32} {r' : Nat → Nat → Option Nat} (h : jx_blk xs y n pc L st σ = some (pc', L', st', m', r')) (g : ev xs y pc' L' st' (m', r', σ.2.2) Q) : ev xs y pc L st σ Q := by
  induction n generalizing pc L st σ with
  | zero =>
    cases h
    exact g
  | succ n ih =>
    rw [jx_blk] at h
    cases hq : jx_st xs y pc L st σ with
    | none => rw [hq] at h; cases h
    | some q =>
      rw [hq] at h
      exact ev_st0 hq (ih h g)
theorem ev_new {o : jx_O} {q : Nat × (Nat × Nat × Nat) × List Value} (ho : jx_op y pc = some o) (hκ : o.1 = 72 ∨ o.1 = 73 ∨ o.1 = 74) (h : jx_new o st σ = some q) (g : ev xs y (pc + q.1) L (.ref σ.2.2.2.1 :: q.2.2) (jj_nw σ q.2.1) Q) : ev xs y pc L st σ Q := by
  obtain ⟨f, r, τ, hr, hq⟩ := g
  refine ⟨f + 1, r, τ, ?_, hq⟩
  rw [jx_run, ho]
  dsimp only
  rw [if_neg (by omega), if_pos (by omega), h]
  exact hr
theorem ev_call {o : jx_O} {as rest : List Value} (ho : jx_op y pc = some o) (hκ : 80 ≤ o.1 ∧ o.1 < 90) (h : jx_cal o st σ = some (as, rest)) (g : ev xs o.2.2.1 0 (jx_ent o.2.2.1 as) [] σ (fun u τ => ev xs y (pc + 3) L (u.toList ++ rest) τ Q)) : ev xs y pc L st σ Q := by
  obtain ⟨f, u, τ, hr, f2, r, τ2, hr2, hq⟩ := g
  refine ⟨f + f2 + 1, r, τ2, ?_, hq⟩
  rw [jx_run, ho]
  dsimp only
  rw [if_neg (by omega), if_neg (by omega), if_pos (by omega), h]
  dsimp only
  rw [jx_le (Nat.le_add_right f f2) hr]
  exact jx_le (Nat.le_add_left f2 f) hr2
theorem ev_ret {o : jx_O} {v : Option Value} (ho : jx_op y pc = some o) (hκ : 90 ≤ o.1) (h : jx_ret y o st = some v) (g : Q v σ) : ev xs y pc L st σ Q := by
  refine ⟨1, v, σ, ?_, g⟩
  rw [jx_run, ho]
  dsimp only
  rw [if_neg (by omega), if_neg (by omega), if_neg (by omega), h]
theorem ev_mono {Q' : Option Value → jj_S → Prop} (g : ev xs y pc L st σ Q) (h : ∀ r τ, Q r τ → Q' r τ) : ev xs y pc L st σ Q' := by
  obtain ⟨f, r, τ, hr, hq⟩ := g
  exact ⟨f, r, τ, hr, h r τ hq⟩
end EV
