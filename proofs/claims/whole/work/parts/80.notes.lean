/-! Edits noted: as a function; the class's side. -/
abbrev nS : Type := (Nat → Option (Nat × Nat)) × (Nat → Option (Nat × Nat)) × Bool × Bool
def gd1 (V : Nat × Nat → Int32 × List Int32) (o : Option (Nat × Nat)) (e : Nat × Nat) : Bool := match o with
  | none => true
  | some d => decide (V d = V e)
def nt1 (V : Nat × Nat → Int32 × List Int32) (e : Nat × Nat) (n : Nat) (P : nS) : nS := (fun j => if j = n then some ((P.1 n).getD e) else P.1 j, fun j => if j = n then some e else P.2.1 j, P.2.2.1 && gd1 V (P.2.1 n) e, P.2.2.2 || !gd1 V (P.1 n) e)
def ntN (V : Nat × Nat → Int32 × List Int32) (x : Int32) (e : Nat × Nat) : Nat → nS → nS
  | 0, P => P
  | n + 1, P => if bt x n = true then nt1 V e n (ntN V x e n P) else ntN V x e n P
def ntK (V : Nat × Nat → Int32 × List Int32) (c : Nat) (H : Nat → Int32) (ed : Nat → Bool) (b : Nat) : Nat → nS → nS
  | 0, P => P
  | k + 1, P => if ed k = true then ntN V (H k) (k, b) c (ntK V c H ed b k P) else ntK V c H ed b k P
def nP0 : nS := (fun _ => none, fun _ => none, true, false)
def ntB (V : Nat × Nat → Int32 × List Int32) (c : Nat) (H : Nat → Nat → Int32) (ed pos : Nat → Bool) (K : Nat) : Nat → nS
  | 0 => nP0
  | b + 1 => if pos b = true then ntK V c (H b) ed b K (ntB V c H ed pos K b) else ntB V c H ed pos K b
/-- no conflict is found by the one where the other finds none; then first and last say the same -/
def nInv (V : Nat × Nat → Int32 × List Int32) (P : nS) : Prop := P.2.2.2 = !P.2.2.1 ∧ (∀ n, P.1 n = none ↔ P.2.1 n = none) ∧ (P.2.2.1 = true → ∀ n d e, P.1 n = some d → P.2.1 n = some e → V d = V e)
theorem nt1_inv {V : Nat × Nat → Int32 × List Int32} {e : Nat × Nat} {n : Nat} {P : nS} (h : nInv V P) : nInv V (nt1 V e n P) := by
  obtain ⟨h1, h2, h3⟩ := h
  have G : P.2.2.1 = true → gd1 V (P.1 n) e = gd1 V (P.2.1 n) e := fun ok => by
    cases f : P.1 n with
    | none => rw [(h2 n).mp f]
    | some d =>
      cases l : P.2.1 n with
      | none => rw [(h2 n).mpr l] at f; cases f
      | some d2 =>
        unfold gd1
        dsimp only
        rw [h3 ok n d d2 f l]
  refine ⟨?_, fun j => ?_, fun ok j d d2 q1 q2 => ?_⟩
  · show (P.2.2.2 || !gd1 V (P.1 n) e) = !(P.2.2.1 && gd1 V (P.2.1 n) e)
    rw [h1]
    cases ok : P.2.2.1
    · rfl
    · rw [G ok]; rfl
  · show (if j = n then some ((P.1 n).getD e) else P.1 j) = none ↔ (if j = n then some e else P.2.1 j) = none
    by_cases q : j = n
    · rw [if_pos q, if_pos q]
      exact ⟨fun z => (by cases z), fun z => (by cases z)⟩
    · rw [if_neg q, if_neg q]
      exact h2 j
  · have ok : (P.2.2.1 && gd1 V (P.2.1 n) e) = true := ok
    rw [Bool.and_eq_true] at ok
    have q1 : (if j = n then some ((P.1 n).getD e) else P.1 j) = some d := q1
    have q2 : (if j = n then some e else P.2.1 j) = some d2 := q2
    by_cases q : j = n
    · rw [if_pos q] at q1 q2
      cases q1
      cases q2
      cases f : P.1 n with
      | none => rfl
      | some d0 =>
        have w := ok.2
        rw [← G ok.1, f] at w
        exact of_decide_eq_true w
    · rw [if_neg q] at q1 q2
      exact h3 ok.1 j d d2 q1 q2
theorem ntN_inv {V : Nat × Nat → Int32 × List Int32} {e : Nat × Nat} {x : Int32} {P : nS} (h : nInv V P) : ∀ n, nInv V (ntN V x e n P) := by
  intro n
  induction n with
  | zero => exact h
  | succ n ih =>
    rw [ntN]
    split
    · exact nt1_inv ih
    · exact ih
theorem ntK_inv {V : Nat × Nat → Int32 × List Int32} {c b : Nat} {H : Nat → Int32} {ed : Nat → Bool} {P : nS} (h : nInv V P) : ∀ k, nInv V (ntK V c H ed b k P) := by
  intro k
  induction k with
  | zero => exact h
  | succ k ih =>
    rw [ntK]
    split
    · exact ntN_inv ih c
    · exact ih
theorem ntB_inv {V : Nat × Nat → Int32 × List Int32} {c K : Nat} {H : Nat → Nat → Int32} {ed pos : Nat → Bool} : ∀ b, nInv V (ntB V c H ed pos K b) := by
  intro b
  induction b with
  | zero => exact ⟨rfl, fun _ => ⟨fun _ => rfl, fun _ => rfl⟩, fun _ n d e q1 _ => by cases q1⟩
  | succ b ih =>
    rw [ntB]
    split
    · exact ntK_inv ih K
    · exact ih
/-- every note is of an item that edits -/
def nRg (c K : Nat) (ed : Nat → Bool) (P : nS) : Prop := ∀ n e, (P.1 n = some e ∨ P.2.1 n = some e) → n < c ∧ e.1 < K ∧ e.2 < 64 ∧ ed e.1 = true
theorem nt1_rg {V : Nat × Nat → Int32 × List Int32} {e : Nat × Nat} {n c K : Nat} {ed : Nat → Bool} {P : nS} (hn : n < c) (h1 : e.1 < K) (h2 : e.2 < 64) (h3 : ed e.1 = true) (h : nRg c K ed P) : nRg c K ed (nt1 V e n P) := by
  intro j d q
  have q : (if j = n then some ((P.1 n).getD e) else P.1 j) = some d ∨ (if j = n then some e else P.2.1 j) = some d := q
  by_cases w : j = n
  · rw [if_pos w, if_pos w] at q
    refine ⟨by omega, ?_⟩
    rcases q with q | q
    · cases f : P.1 n with
      | none => rw [f] at q; cases q; exact ⟨h1, h2, h3⟩
      | some d0 => rw [f] at q; cases q; exact (h n d0 (Or.inl f)).2
    · cases q
      exact ⟨h1, h2, h3⟩
  · rw [if_neg w, if_neg w] at q
    exact h j d q
theorem ntN_rg {V : Nat × Nat → Int32 × List Int32} {e : Nat × Nat} {x : Int32} {c K : Nat} {ed : Nat → Bool} {P : nS} (h1 : e.1 < K) (h2 : e.2 < 64) (h3 : ed e.1 = true) (h : nRg c K ed P) : ∀ n, n ≤ c → nRg c K ed (ntN V x e n P) := by
  intro n
  induction n with
  | zero => intro _; exact h
  | succ n ih =>
    intro hn
    rw [ntN]
    split
    · exact nt1_rg hn h1 h2 h3 (ih (by omega))
    · exact ih (by omega)
theorem ntK_rg {V : Nat × Nat → Int32 × List Int32} {c b K : Nat} {H : Nat → Int32} {ed : Nat → Bool} {P : nS} (hb : b < 64) (h : nRg c K ed P) : ∀ k, k ≤ K → nRg c K ed (ntK V c H ed b k P) := by
  intro k
  induction k with
  | zero => intro _; exact h
  | succ k ih =>
    intro hk
    rw [ntK]
    split
    · rename_i q
      exact ntN_rg hk hb q (ih (by omega)) c (Nat.le_refl c)
    · exact ih (by omega)
theorem ntB_rg {V : Nat × Nat → Int32 × List Int32} {c K : Nat} {H : Nat → Nat → Int32} {ed pos : Nat → Bool} : ∀ b, b ≤ 64 → nRg c K ed (ntB V c H ed pos K b) := by
  intro b
  induction b with
  | zero => intro _ n e q; rcases q with q | q <;> cases q
  | succ b ih =>
    intro hb
    rw [ntB]
    split
    · exact ntK_rg (by omega) (ih (by omega)) K (Nat.le_refl K)
    · exact ih (by omega)
/-! the class's comparing and copying -/
section CPY
variable {xs : jx_Xs} {y pc a b d : Nat} {c : Int32} {L : jx_L} {m : zM} {Q : Option Value → zM → Prop}
theorem ez_cpy {i j : Nat} (ho : jx_op y pc = some (70, a, b, d, c)) (hi : i < 172) (hj : j < 172) (si : z_H i = (1, 1, 10)) (sj : z_H j = (1, 1, 10)) (hf : ∀ u, u < 10 → fits .char (.int (m i u)) = true) (g : ez xs y (pc + 3) L [] (jj_uf m j (va_cpy (m i) (m j) 0 0 10)) Q) : ez xs y pc L [.int 10, .int 0, .ref j, .int 0, .ref i] m Q := by
  refine ez_st (m' := jj_uf m j (va_cpy (m i) (m j) 0 0 10)) (pc' := pc + 3) (L' := L) (st' := []) ?_ g
  unfold jx_st
  rw [ho]
  show (if 70 < 72 then jx_cpy pc a b d c L [.int 10, .int 0, .ref j, .int 0, .ref i] (z_S m) else none) = _
  rw [if_pos (by decide)]
  unfold jx_cpy
  dsimp only
  have e1 : (z_S m).2.2.1 i = (1, 1, 10) := si
  have e2 : (z_S m).2.2.1 j = (1, 1, 10) := sj
  have e3 : (z_S m).2.2.2.1 = 172 := rfl
  have t10 : (10 : Int32).toNatClampNeg = 10 := rfl
  have t0 : (0 : Int32).toNatClampNeg = 0 := rfl
  rw [e1, e2, e3, t10, t0]
  have all : (List.range 10).all (fun u => fits .char (.int ((z_S m).1 i (0 + u)))) = true := by
    rw [List.all_eq_true]
    intro u hu
    rw [Nat.zero_add]
    exact hf u (List.mem_range.mp hu)
  rw [if_pos ⟨⟨by decide, by decide, hi, hj, rfl, rfl, rfl, rfl⟩, ⟨by decide, by decide, by decide, by decide, by decide⟩, all⟩]
  rfl
end CPY
theorem h_copyFrom {xs : jx_Xs} {m : zM} {Q : Option Value → zM → Prop} {n : Nat} (hn : n < 24) (ho : m 79 3 = 0 ∨ m 79 3 = 1) (hf : ∀ u, u < 10 → fits .char (.int (m 80 u)) = true) (g : ∀ M, M (81 + 2 * n) 1 = m 79 1 → M (81 + 2 * n) 2 = m 79 2 → M (81 + 2 * n) 3 = m 79 3 → (∀ k, k < 10 → M (82 + 2 * n) k = m 80 k) → (∀ a k, a ≠ 81 + 2 * n → a ≠ 82 + 2 * n → M a k = m a k) → Q none M) : ez xs 133 0 (jx_ent 133 [.ref (81 + 2 * n), .ref 79]) [] m Q := by
  refine ez_blk 3 rfl ?_
  show ez xs 133 5 [some (.ref (81 + 2 * n)), some (.ref 79)] [.int (m 79 3), .ref (81 + 2 * n)] m Q
  refine ez_put rfl (z_edi hn) (z_eds hn) (by decide) rfl (by rcases ho with e | e <;> rw [e] <;> rfl) ?_
  show ez xs 133 8 [some (.ref (81 + 2 * n)), some (.ref 79)] [] (jj_up m (81 + 2 * n) 3 (m 79 3)) Q
  refine ez_blk 3 rfl ?_
  show ez xs 133 13 [some (.ref (81 + 2 * n)), some (.ref 79)] [.int (jj_up m (81 + 2 * n) 3 (m 79 3) 79 2), .ref (81 + 2 * n)] (jj_up m (81 + 2 * n) 3 (m 79 3)) Q
  rw [up_ne (by omega)]
  refine ez_put rfl (z_edi hn) (z_eds hn) (by decide) rfl rfl ?_
  show ez xs 133 16 [some (.ref (81 + 2 * n)), some (.ref 79)] [] (jj_up (jj_up m (81 + 2 * n) 3 (m 79 3)) (81 + 2 * n) 2 (m 79 2)) Q
  refine ez_blk 3 rfl ?_
  show ez xs 133 21 [some (.ref (81 + 2 * n)), some (.ref 79)] [.int (jj_up (jj_up m (81 + 2 * n) 3 (m 79 3)) (81 + 2 * n) 2 (m 79 2) 79 1), .ref (81 + 2 * n)] (jj_up (jj_up m (81 + 2 * n) 3 (m 79 3)) (81 + 2 * n) 2 (m 79 2)) Q
  rw [up_ne (by omega), up_ne (by omega)]
  refine ez_put rfl (z_edi hn) (z_eds hn) (by decide) rfl rfl ?_
  have k1 : ∀ a k, a ≠ 81 + 2 * n → jj_up (jj_up (jj_up m (81 + 2 * n) 3 (m 79 3)) (81 + 2 * n) 2 (m 79 2)) (81 + 2 * n) 1 (m 79 1) a k = m a k := fun a k q => by rw [up_ne q, up_ne q, up_ne q]
  have k2 : jj_up (jj_up (jj_up m (81 + 2 * n) 3 (m 79 3)) (81 + 2 * n) 2 (m 79 2)) (81 + 2 * n) 1 (m 79 1) (81 + 2 * n) 1 = m 79 1 := up_eq
  have k3 : jj_up (jj_up (jj_up m (81 + 2 * n) 3 (m 79 3)) (81 + 2 * n) 2 (m 79 2)) (81 + 2 * n) 1 (m 79 1) (81 + 2 * n) 2 = m 79 2 := by rw [up_k (by omega), up_eq]
  have k4 : jj_up (jj_up (jj_up m (81 + 2 * n) 3 (m 79 3)) (81 + 2 * n) 2 (m 79 2)) (81 + 2 * n) 1 (m 79 1) (81 + 2 * n) 3 = m 79 3 := by rw [up_k (by omega), up_k (by omega), up_eq]
  generalize jj_up (jj_up (jj_up m (81 + 2 * n) 3 (m 79 3)) (81 + 2 * n) 2 (m 79 2)) (81 + 2 * n) 1 (m 79 1) = M1 at k1 k2 k3 k4
  show ez xs 133 24 [some (.ref (81 + 2 * n)), some (.ref 79)] [] M1 Q
  refine ez_blk 4 rfl ?_
  show ez xs 133 30 [some (.ref (81 + 2 * n)), some (.ref 79)] [.ref (81 + 2 * n), .int 0, .ref 80] M1 Q
  refine ez_getr rfl (z_edi hn) (z_eds hn) (by decide) rfl (z_edp hn) ?_
  show ez xs 133 33 [some (.ref (81 + 2 * n)), some (.ref 79)] [.ref (82 + 2 * n), .int 0, .ref 80] M1 Q
  refine ez_blk 2 rfl ?_
  show ez xs 133 35 [some (.ref (81 + 2 * n)), some (.ref 79)] [.ref (81 + 2 * n), .int 0, .ref (82 + 2 * n), .int 0, .ref 80] M1 Q
  refine ez_getr rfl (z_edi hn) (z_eds hn) (by decide) rfl (z_edp hn) ?_
  show ez xs 133 38 [some (.ref (81 + 2 * n)), some (.ref 79)] [.ref (82 + 2 * n), .int 0, .ref (82 + 2 * n), .int 0, .ref 80] M1 Q
  refine ez_len rfl (z_puti hn) (z_puts hn) (by decide) ?_
  show ez xs 133 39 [some (.ref (81 + 2 * n)), some (.ref 79)] [.int 10, .int 0, .ref (82 + 2 * n), .int 0, .ref 80] M1 Q
  refine ez_cpy rfl (by decide) (z_puti hn) rfl (z_puts hn) (fun u hu => by rw [k1 80 u (by omega)]; exact hf u hu) ?_
  have C : ∀ a k, a ≠ 82 + 2 * n → jj_uf M1 (82 + 2 * n) (va_cpy (M1 80) (M1 (82 + 2 * n)) 0 0 10) a k = M1 a k := fun a k q => by unfold jj_uf; rw [if_neg q]
  refine ez_ret (y := 133) rfl (by decide) rfl (g _ ?_ ?_ ?_ (fun k hk => ?_) (fun a k q1 q2 => ?_))
  · rw [C _ _ (by omega), k2]
  · rw [C _ _ (by omega), k3]
  · rw [C _ _ (by omega), k4]
  · unfold jj_uf
    rw [if_pos rfl]
    unfold va_cpy
    rw [if_pos (by omega), k1 80 _ (by omega)]
    congr 1
    omega
  · rw [C a k q2, k1 a k q1]
theorem h_isSame {xs : jx_Xs} {m : zM} {Q : Option Value → zM → Prop} {n : Nat} {o1 o2 : Int32} {u v : List Int32} (hn : n < 24) (hu : u.length ≤ 10) (a1 : m (81 + 2 * n) 1 = nI u.length) (a3 : m (81 + 2 * n) 3 = o1) (al : li m (82 + 2 * n) u) (b1 : m 79 1 = nI v.length) (hv : v.length ≤ 10) (b3 : m 79 3 = o2) (bl : li m 80 v) (g : Q (some (.int (bI (decide ((o1, u) = (o2, v)))))) m) : ez xs 134 0 (jx_ent 134 [.ref (81 + 2 * n), .ref 79]) [] m Q := by
  have NO : ∀ o, ¬ (o1, u) = (o2, v) → ez xs 134 22 [some (.ref (81 + 2 * n)), some (.ref 79), o] [] m Q := fun o q => by
    rw [decide_eq_false q] at g
    refine ez_blk 1 rfl ?_
    exact ez_ret (y := 134) rfl (by decide) rfl g
  refine ez_blk 1 rfl ?_
  show ez xs 134 1 [some (.ref (81 + 2 * n)), some (.ref 79), none] [.ref (81 + 2 * n)] m Q
  refine ez_get rfl (z_edi hn) (z_eds hn) (by decide) rfl ?_
  rw [a3]
  refine ez_blk 2 rfl ?_
  show ez xs 134 8 [some (.ref (81 + 2 * n)), some (.ref 79), none] [.int (m 79 3), .int o1] m Q
  rw [b3]
  refine ez_icmp_ne rfl (fun z => NO _ (fun q => z (congrArg Prod.fst q))) (fun zo => ?_)
  show ez xs 134 11 [some (.ref (81 + 2 * n)), some (.ref 79), none] [] m Q
  refine ez_blk 1 rfl ?_
  show ez xs 134 12 [some (.ref (81 + 2 * n)), some (.ref 79), none] [.ref (81 + 2 * n)] m Q
  refine ez_get rfl (z_edi hn) (z_eds hn) (by decide) rfl ?_
  rw [a1]
  refine ez_blk 2 rfl ?_
  show ez xs 134 19 [some (.ref (81 + 2 * n)), some (.ref 79), none] [.int (m 79 1), .int (nI u.length)] m Q
  rw [b1]
  refine ez_icmp_eq rfl (fun zl => ?_) (fun z => NO _ (fun q => z (by rw [show u = v from congrArg Prod.snd q])))
  have zl := (nI_eq (by omega) (by omega)).mp zl
  show ez xs 134 24 [some (.ref (81 + 2 * n)), some (.ref 79), none] [] m Q
  refine ez_blk 2 rfl ?_
  have loop : ∀ (r i : Nat), i + r = u.length → (∀ j, j < i → u[j]? = v[j]?) → ez xs 134 26 [some (.ref (81 + 2 * n)), some (.ref 79), some (.int (nI i))] [] m Q := by
    intro r
    induction r with
    | zero =>
      intro i hi he
      refine ez_blk 2 rfl ?_
      show ez xs 134 28 [some (.ref (81 + 2 * n)), some (.ref 79), some (.int (nI i))] [.ref (81 + 2 * n), .int (nI i)] m Q
      refine ez_get rfl (z_edi hn) (z_eds hn) (by decide) rfl ?_
      rw [a1]
      refine ez_icmp_ge rfl (fun _ => ?_) (fun z => absurd (nI_le (by omega) (by omega)) z)
      have e : u = v := by
        refine List.ext_getElem? (fun j => ?_)
        by_cases q : j < i
        · exact he j q
        · rw [List.getElem?_eq_none (by omega), List.getElem?_eq_none (by omega)]
      rw [decide_eq_true (by rw [zo, e])] at g
      show ez xs 134 57 [some (.ref (81 + 2 * n)), some (.ref 79), some (.int (nI i))] [] m Q
      refine ez_blk 1 rfl ?_
      exact ez_ret (y := 134) rfl (by decide) rfl g
    | succ r ih =>
      intro i hi he
      refine ez_blk 2 rfl ?_
      show ez xs 134 28 [some (.ref (81 + 2 * n)), some (.ref 79), some (.int (nI i))] [.ref (81 + 2 * n), .int (nI i)] m Q
      refine ez_get rfl (z_edi hn) (z_eds hn) (by decide) rfl ?_
      rw [a1]
      refine ez_icmp_ge rfl (fun z => absurd z (nI_ge (by omega) (by omega))) (fun _ => ?_)
      show ez xs 134 34 [some (.ref (81 + 2 * n)), some (.ref 79), some (.int (nI i))] [] m Q
      refine ez_blk 1 rfl ?_
      show ez xs 134 35 [some (.ref (81 + 2 * n)), some (.ref 79), some (.int (nI i))] [.ref (81 + 2 * n)] m Q
      refine ez_getr rfl (z_edi hn) (z_eds hn) (by decide) rfl (z_edp hn) ?_
      refine ez_blk 1 rfl ?_
      show ez xs 134 39 [some (.ref (81 + 2 * n)), some (.ref 79), some (.int (nI i))] [.int (nI i), .ref (82 + 2 * n)] m Q
      refine ez_cald (n := 10) rfl (z_puti hn) (z_puts hn) (by omega) (by omega) ?_
      have ui : u[i]? = some (u[i]'(by omega)) := List.getElem?_eq_getElem (by omega)
      have vi : v[i]? = some (v[i]'(by omega)) := List.getElem?_eq_getElem (by omega)
      rw [al i _ ui]
      refine ez_blk 3 rfl ?_
      show ez xs 134 45 [some (.ref (81 + 2 * n)), some (.ref 79), some (.int (nI i))] [.int (nI i), .ref 80, .int (u[i]'(by omega))] m Q
      refine ez_cald (n := 10) rfl (by decide) rfl (by omega) (by omega) ?_
      rw [bl i _ vi]
      show ez xs 134 46 [some (.ref (81 + 2 * n)), some (.ref 79), some (.int (nI i))] [.int (v[i]'(by omega)), .int (u[i]'(by omega))] m Q
      refine ez_icmp_eq rfl (fun z => ?_) (fun z => ?_)
      · refine ez_blk (pc' := 26) 2 rfl ?_
        show ez xs 134 26 [some (.ref (81 + 2 * n)), some (.ref 79), some (.int (nI i + 1))] [] m Q
        rw [nI_1]
        refine ih (i + 1) (by omega) (fun j hj => ?_)
        by_cases e : j = i
        · rw [e, ui, vi, z]
        · exact he j (by omega)
      · show ez xs 134 49 [some (.ref (81 + 2 * n)), some (.ref 79), some (.int (nI i))] [] m Q
        have q : ¬ (o1, u) = (o2, v) := fun q => by
          have q : u = v := congrArg Prod.snd q
          subst q
          exact z rfl
        rw [decide_eq_false q] at g
        refine ez_blk 1 rfl ?_
        exact ez_ret (y := 134) rfl (by decide) rfl g
  exact loop u.length 0 (by omega) (fun j hj => absurd hj (Nat.not_lt_zero j))
def edB (S : zM) (k : Nat) : Bool := decide (¬ S 153 k = 0) || decide (¬ S 159 k ≤ 0)
def eOk (S M : zM) (n : Nat) (o : Option (Nat × Nat)) : Prop := match o with
  | none => M (81 + 2 * n) 1 = 0 ∧ M (81 + 2 * n) 2 = 0 ∧ M (81 + 2 * n) 3 = 0
  | some e => M (81 + 2 * n) 1 = nI (wW S (nI e.2) e.1).length ∧ M (81 + 2 * n) 2 = S 159 e.1 ∧ M (81 + 2 * n) 3 = S 153 e.1 ∧ li M (82 + 2 * n) (wW S (nI e.2) e.1)
def eC (S M : zM) (P : nS) : Prop := (∀ n, n < 24 → eOk S M n (P.1 n)) ∧ M 74 7 = bI P.2.2.2
def Ve (S : zM) (e : Nat × Nat) : Int32 × List Int32 := Vv S e.1 e.2
theorem eOk_same {S M N : zM} {n : Nat} {o : Option (Nat × Nat)} (h : ∀ k, N (81 + 2 * n) k = M (81 + 2 * n) k) (h2 : ∀ k, N (82 + 2 * n) k = M (82 + 2 * n) k) (g : eOk S M n o) : eOk S N n o := by
  cases o with
  | none => unfold eOk at g ⊢; dsimp only at g ⊢; rw [h, h, h]; exact g
  | some e =>
    unfold eOk at g ⊢
    dsimp only at g ⊢
    rw [h, h, h]
    exact ⟨g.1, g.2.1, g.2.2.1, fun i v q => by rw [h2]; exact g.2.2.2 i v q⟩
theorem edB_0 {S : zM} {k : Nat} (h : edB S k = true) : ¬ (S 153 k = 0 ∧ S 159 k = 0) := by
  rintro ⟨q1, q2⟩
  unfold edB at h
  rw [q1, q2] at h
  exact absurd h (by decide)
theorem h_noteEdits {xs : jx_Xs} {S m : zM} {Q : Option Value → zM → Prop} {x : Int32} {c K k b : Nat} {P : nS} (hc : c ≤ 24) (hK : K ≤ 6) (hkK : k < K) (hb : b < 64) (hI : ∀ i, i < K → rI S i) (hed : edB S k = true) (h31 : m 3 1 = nI c) (w1 : eW m (wW S (nI b) k)) (w2 : m 79 2 = S 159 k) (w3 : m 79 3 = S 153 k) (hf : ∀ u, u < 10 → fits .char (.int (m 80 u)) = true) (hE : eC S m P) (hR : nRg c K (edB S) P) (g : ∀ M, eC S M (ntN (Ve S) x (k, b) c P) → (∀ a j, ¬ (a = 74 ∧ j = 7) → ¬ (81 ≤ a ∧ a ≤ 128) → M a j = m a j) → Q none M) : ez xs 135 0 (jx_ent 135 [.ref 74, .int x]) [] m Q := by
  have o3 : S 153 k = 0 ∨ S 153 k = 1 := (hI k hkK).2.1.2
  have lW := W_len (b := b) (hI k hkK)
  have loop : ∀ (r i : Nat) (M : zM), i + r = c → (∀ a j, ¬ (a = 74 ∧ j = 7) → ¬ (81 ≤ a ∧ a ≤ 128) → M a j = m a j) → eC S M (ntN (Ve S) x (k, b) i P) → ez xs 135 2 [some (.ref 74), some (.int x), some (.int (nI i))] [] M Q := by
    intro r
    induction r with
    | zero =>
      intro i M hi hF hM
      refine ez_blk 3 rfl ?_
      show ez xs 135 7 [some (.ref 74), some (.int x), some (.int (nI i))] [.ref 3, .int (nI i)] M Q
      refine ez_call (as := [.ref 3]) (rest := [.int (nI i)]) rfl (by decide) rfl ?_
      refine c_Program_size ?_
      rw [hF 3 1 (by omega) (by omega), h31]
      show ez xs 135 10 [some (.ref 74), some (.int x), some (.int (nI i))] [.int (nI c), .int (nI i)] M Q
      refine ez_icmp_ge rfl (fun _ => ?_) (fun z => absurd (nI_le (by omega) (by omega)) z)
      rw [show i = c by omega] at hM
      exact ez_ret rfl (by decide) rfl (g M hM hF)
    | succ r ih =>
      intro i M hi hF hM
      have hic : i < c := by omega
      have h24 : i < 24 := by omega
      refine ez_blk 3 rfl ?_
      show ez xs 135 7 [some (.ref 74), some (.int x), some (.int (nI i))] [.ref 3, .int (nI i)] M Q
      refine ez_call (as := [.ref 3]) (rest := [.int (nI i)]) rfl (by decide) rfl ?_
      refine c_Program_size ?_
      rw [hF 3 1 (by omega) (by omega), h31]
      show ez xs 135 10 [some (.ref 74), some (.int x), some (.int (nI i))] [.int (nI c), .int (nI i)] M Q
      refine ez_icmp_ge rfl (fun z => absurd z (nI_ge (by omega) (by omega))) (fun _ => ?_)
      show ez xs 135 13 [some (.ref 74), some (.int x), some (.int (nI i))] [] M Q
      refine ez_blk 5 rfl ?_
      show ez xs 135 18 [some (.ref 74), some (.int x), some (.int (nI i))] [.int (x &&& b1 i)] M Q
      have NX : ∀ N, (∀ a j, ¬ (a = 74 ∧ j = 7) → ¬ (81 ≤ a ∧ a ≤ 128) → N a j = m a j) → eC S N (ntN (Ve S) x (k, b) (i + 1) P) → ez xs 135 73 [some (.ref 74), some (.int x), some (.int (nI i))] [] N Q := fun N q1 q2 => by
        refine ez_blk (pc' := 2) 2 rfl ?_
        show ez xs 135 2 [some (.ref 74), some (.int x), some (.int (nI i + 1))] [] N Q
        rw [nI_1]
        exact ih (i + 1) N (by omega) q1 q2
      have hRi := ntN_rg (V := Ve S) (x := x) (e := (k, b)) hkK hb hed hR i (by omega)
      generalize hPi : ntN (Ve S) x (k, b) i P = Pi at hM hRi
      refine ez_if_ne rfl (fun z => ?_) (fun z => ?_)
      case refine_2 =>
        show ez xs 135 21 [some (.ref 74), some (.int x), some (.int (nI i))] [] M Q
        refine ez_blk (pc' := 73) 1 rfl ?_
        refine NX M hF ?_
        rw [ntN, hPi, if_neg (by rw [(and_b1 (by omega)).mp z]; decide)]
        exact hM
      have bx : bt x i = true := by
        cases w : bt x i
        · exact absurd ((and_b1 (by omega)).mpr w) z
        · rfl
      have eN : ntN (Ve S) x (k, b) (i + 1) P = nt1 (Ve S) (k, b) i Pi := by rw [ntN, hPi, if_pos bx]
      rw [eN] at NX
      show ez xs 135 24 [some (.ref 74), some (.int x), some (.int (nI i))] [] M Q
      refine ez_blk 3 rfl ?_
      show ez xs 135 29 [some (.ref 74), some (.int x), some (.int (nI i))] [.int (nI i), .ref 78] M Q
      refine ez_rld (n := 24) (k := 81 + 2 * i) rfl (by decide) rfl rfl h24 (by omega) (z_edr h24) ?_
      show ez xs 135 30 [some (.ref 74), some (.int x), some (.int (nI i))] [.ref (81 + 2 * i)] M Q
      refine ez_calls (i := 81 + 2 * i) (as2 := []) (rest := []) rfl (by decide) rfl rfl rfl (z_edi h24) (z_eds h24) rfl ?_
      refine d_Edit_isNothing (z_edi h24) (z_eds h24) ?_
      show ez xs 135 33 [some (.ref 74), some (.int x), some (.int (nI i))] [.int (f_Edit_isNothing M (81 + 2 * i))] M Q
      have v79 : ∀ j, M 79 j = m 79 j := fun j => hF 79 j (by omega) (by omega)
      have v80 : ∀ j, M 80 j = m 80 j := fun j => hF 80 j (by omega) (by omega)
      have ei := hM.1 i h24
      cases f : Pi.1 i with
      | none =>
        rw [f] at ei
        have ei : M (81 + 2 * i) 1 = 0 ∧ M (81 + 2 * i) 2 = 0 ∧ M (81 + 2 * i) 3 = 0 := ei
        have e : f_Edit_isNothing M (81 + 2 * i) = 1 := by unfold f_Edit_isNothing; rw [if_pos ei.2.2, if_pos ei.2.1]
        rw [e]
        refine ez_if_eq rfl (fun z => absurd z (by decide)) (fun _ => ?_)
        show ez xs 135 36 [some (.ref 74), some (.int x), some (.int (nI i))] [] M Q
        refine ez_blk 3 rfl ?_
        show ez xs 135 41 [some (.ref 74), some (.int x), some (.int (nI i))] [.int (nI i), .ref 78] M Q
        refine ez_rld (n := 24) (k := 81 + 2 * i) rfl (by decide) rfl rfl h24 (by omega) (z_edr h24) ?_
        refine ez_blk 2 rfl ?_
        show ez xs 135 46 [some (.ref 74), some (.int x), some (.int (nI i))] [.ref 79, .ref (81 + 2 * i)] M Q
        refine ez_calls (i := 81 + 2 * i) (as2 := [.ref 79]) (rest := []) rfl (by decide) rfl rfl rfl (z_edi h24) (z_eds h24) rfl ?_
        refine h_copyFrom h24 (by rw [v79, w3]; exact o3) (fun u hu => by rw [v80]; exact hf u hu) (fun N n1 n2 n3 n4 nF => ?_)
        refine ez_blk (pc' := 73) 1 rfl ?_
        refine NX N (fun a j q1 q2 => by rw [nF a j (by omega) (by omega)]; exact hF a j q1 q2) ⟨fun n hn => ?_, ?_⟩
        · show eOk S N n (if n = i then some ((Pi.1 i).getD (k, b)) else Pi.1 n)
          by_cases q : n = i
          · rw [if_pos q, f, q]
            show N (81 + 2 * i) 1 = _ ∧ N (81 + 2 * i) 2 = _ ∧ N (81 + 2 * i) 3 = _ ∧ li N (82 + 2 * i) _
            rw [n1, n2, n3, v79, v79, v79, w1.1, w2, w3]
            refine ⟨rfl, rfl, rfl, fun j v hv => ?_⟩
            have hj := (List.getElem?_eq_some_iff.mp hv).1
            have hj : j < (wW S (nI b) k).length := hj
            rw [n4 j (by omega), v80]
            exact w1.2 j v hv
          · rw [if_neg q]
            exact eOk_same (fun j => nF _ j (by omega) (by omega)) (fun j => nF _ j (by omega) (by omega)) (hM.1 n hn)
        · show N 74 7 = bI (Pi.2.2.2 || !gd1 (Ve S) (Pi.1 i) (k, b))
          rw [nF 74 7 (by omega) (by omega), hM.2, f]
          show _ = bI (Pi.2.2.2 || !true)
          rw [show (!true) = false from rfl, Bool.or_false]
      | some d =>
        rw [f] at ei
        obtain ⟨e1, e2, e3, e4⟩ := (show M (81 + 2 * i) 1 = nI (wW S (nI d.2) d.1).length ∧ M (81 + 2 * i) 2 = S 159 d.1 ∧ M (81 + 2 * i) 3 = S 153 d.1 ∧ li M (82 + 2 * i) (wW S (nI d.2) d.1) from ei)
        obtain ⟨-, d1, d2, d3⟩ := hRi i d (Or.inl f)
        have e : f_Edit_isNothing M (81 + 2 * i) = 0 := by
          unfold f_Edit_isNothing
          rw [e2, e3]
          split
          · split
            · rename_i q1 q2; exact absurd ⟨q1, q2⟩ (edB_0 d3)
            · rfl
          · rfl
        rw [e]
        refine ez_if_eq rfl (fun _ => ?_) (fun z => absurd rfl z)
        show ez xs 135 52 [some (.ref 74), some (.int x), some (.int (nI i))] [] M Q
        refine ez_blk 3 rfl ?_
        show ez xs 135 57 [some (.ref 74), some (.int x), some (.int (nI i))] [.int (nI i), .ref 78] M Q
        refine ez_rld (n := 24) (k := 81 + 2 * i) rfl (by decide) rfl rfl h24 (by omega) (z_edr h24) ?_
        refine ez_blk 2 rfl ?_
        show ez xs 135 62 [some (.ref 74), some (.int x), some (.int (nI i))] [.ref 79, .ref (81 + 2 * i)] M Q
        refine ez_calls (i := 81 + 2 * i) (as2 := [.ref 79]) (rest := []) rfl (by decide) rfl rfl rfl (z_edi h24) (z_eds h24) rfl ?_
        refine h_isSame (o2 := S 153 k) h24 (W_len (b := d.2) (hI d.1 d1)) e1 e3 e4 (v := wW S (nI b) k) (by rw [v79]; exact w1.1) lW (by rw [v79]; exact w3) (fun j v hv => by rw [v80]; exact w1.2 j v hv) ?_
        show ez xs 135 65 [some (.ref 74), some (.int x), some (.int (nI i))] [.int (bI (gd1 (Ve S) (some d) (k, b)))] M Q
        have EE : ∀ N : zM, (∀ a j, ¬ (a = 74 ∧ j = 7) → N a j = M a j) → N 74 7 = bI (Pi.2.2.2 || !gd1 (Ve S) (some d) (k, b)) → eC S N (nt1 (Ve S) (k, b) i Pi) := fun N q1 q2 => by
          refine ⟨fun n hn => ?_, ?_⟩
          · show eOk S N n (if n = i then some ((Pi.1 i).getD (k, b)) else Pi.1 n)
            by_cases q : n = i
            · rw [if_pos q, f, q]
              show eOk S N i (some d)
              rw [← f]
              exact eOk_same (fun j => q1 _ j (by omega)) (fun j => q1 _ j (by omega)) (hM.1 i h24)
            · rw [if_neg q]
              exact eOk_same (fun j => q1 _ j (by omega)) (fun j => q1 _ j (by omega)) (hM.1 n hn)
          · show N 74 7 = bI (Pi.2.2.2 || !gd1 (Ve S) (Pi.1 i) (k, b))
            rw [f]
            exact q2
        cases gd : gd1 (Ve S) (some d) (k, b)
        · refine ez_if_ne rfl (fun z => absurd rfl z) (fun _ => ?_)
          show ez xs 135 68 [some (.ref 74), some (.int x), some (.int (nI i))] [] M Q
          refine ez_blk (pc' := 73) 3 rfl ?_
          refine NX (jj_up M 74 7 1) (fun a j q1 q2 => by rw [up_ne2 q1]; exact hF a j q1 q2) (EE _ (fun a j q => up_ne2 q) ?_)
          rw [up_eq, gd, show (!false) = true from rfl, Bool.or_true]
          rfl
        · refine ez_if_ne rfl (fun _ => ?_) (fun z => absurd z (by decide))
          refine NX M hF (EE M (fun _ _ _ => rfl) ?_)
          rw [hM.2, gd, show (!true) = false from rfl, Bool.or_false]
  refine ez_blk 2 rfl ?_
  exact loop c 0 m (by omega) (fun _ _ _ _ => rfl) hE
