/-! The search as a function of the graph: sets that the class computes; the reference's sets are the same. -/
section PURE
variable (c : Nat) (e0 e1 : Nat → Int32)
def gE : Prop := ∀ n, n < c → (∃ a : Nat, a ≤ c ∧ e0 n = nI a) ∧ (e1 n = -1 ∨ ∃ a : Nat, a ≤ c ∧ e1 n = nI a)
def ss (n : Nat) : Int32 := if e1 n = -1 then (1 : Int32) <<< (e0 n &&& 31) else ((1 : Int32) <<< (e0 n &&& 31)) ||| ((1 : Int32) <<< (e1 n &&& 31))
def ed (n s : Nat) : Prop := e0 n = nI s ∨ e1 n = nI s
/-- the nodes with a successor in the set -/
def ld (x : Int32) : Int32 := mk (fun n => decide (¬ ss e0 e1 n &&& x = 0)) c
/-- the successors of the set's nodes, those below k -/
def sU (x : Int32) : Nat → Int32
  | 0 => 0
  | n + 1 => if x &&& b1 n = 0 then sU x n else sU x n ||| ss e0 e1 n
def gq (tn st : Int32) : Nat → Int32
  | 0 => st
  | r + 1 => gq tn st r ||| (ld c e0 e1 (gq tn st r) &&& (tn ^^^ -1))
def fq (tn st : Int32) : Nat → Int32
  | 0 => st
  | r + 1 => fq tn st r ||| sU e0 e1 (fq tn st r &&& (tn ^^^ -1)) c
end PURE
section PURE2
variable {c : Nat} {e0 e1 : Nat → Int32}
theorem nI_n1 {s : Nat} (h : s < 1000) : ¬ (-1 : Int32) = nI s := fun e => n1_ne s h e.symm
theorem ss_bt (hc : c ≤ 24) (h : gE c e0 e1) {n s : Nat} (hn : n < c) (hs : s < 32) : bt (ss e0 e1 n) s = true ↔ ed e0 e1 n s := by
  obtain ⟨⟨a, a1, a2⟩, h1⟩ := h n hn
  have ea : e0 n = nI s ↔ s = a := by rw [a2, nI_eq (by omega) (by omega)]; exact ⟨fun e => e.symm, fun e => e.symm⟩
  have ba : bt ((1 : Int32) <<< (e0 n &&& 31)) s = true ↔ s = a := by
    rw [a2]
    show bt (b1 a) s = true ↔ _
    rw [bt_1 (by omega)]
    simp
  unfold ss ed
  rcases h1 with h1 | ⟨b, b1', b2⟩
  · rw [if_pos h1, ba, ea, h1]
    constructor
    · exact Or.inl
    · rintro (q | q)
      · exact q
      · exact absurd q (nI_n1 (by omega))
  · have eb : e1 n = nI s ↔ s = b := by rw [b2, nI_eq (by omega) (by omega)]; exact ⟨fun e => e.symm, fun e => e.symm⟩
    have bb : bt ((1 : Int32) <<< (e1 n &&& 31)) s = true ↔ s = b := by
      rw [b2]
      show bt (b1 b) s = true ↔ _
      rw [bt_1 (by omega)]
      simp
    rw [if_neg (by rw [b2]; exact n1_ne b (by omega)), bt_or, Bool.or_eq_true, ba, bb, ea, eb]
theorem ed_le (hc : c ≤ 24) (h : gE c e0 e1) {n s : Nat} (hn : n < c) (hs : s < 1000) (q : ed e0 e1 n s) : s ≤ c := by
  obtain ⟨⟨a, a1, a2⟩, h1⟩ := h n hn
  rcases q with q | q
  · rw [a2] at q
    have := (nI_eq (by omega) (by omega)).mp q
    omega
  · rcases h1 with h1 | ⟨b, b1', b2⟩
    · rw [h1] at q
      exact absurd q (nI_n1 (by omega))
    · rw [b2] at q
      have := (nI_eq (by omega) (by omega)).mp q
      omega
theorem ss_and (hc : c ≤ 24) (h : gE c e0 e1) {n : Nat} {x : Int32} (hn : n < c) : (¬ ss e0 e1 n &&& x = 0) ↔ ∃ s, s ≤ c ∧ ed e0 e1 n s ∧ bt x s = true := by
  rw [and_0]
  constructor
  · intro q
    apply Classical.byContradiction
    intro z
    refine q (fun s hs w => ?_)
    cases v : bt x s
    · rfl
    · have w2 := (ss_bt hc h hn hs).mp w
      exact absurd ⟨s, ed_le hc h hn (by omega) w2, w2, v⟩ z
  · rintro ⟨s, s1, s2, s3⟩ q
    have := q s (by omega) ((ss_bt hc h hn (by omega)).mpr s2)
    rw [s3] at this
    cases this
theorem ld_bt (hc : c ≤ 24) (h : gE c e0 e1) {n : Nat} {x : Int32} : bt (ld c e0 e1 x) n = true ↔ n < c ∧ ∃ s, s ≤ c ∧ ed e0 e1 n s ∧ bt x s = true := by
  unfold ld
  rw [bt_mk (by omega), Bool.and_eq_true, decide_eq_true_iff, decide_eq_true_iff]
  constructor
  · rintro ⟨q1, q2⟩
    exact ⟨q1, (ss_and hc h q1).mp q2⟩
  · rintro ⟨q1, q2⟩
    exact ⟨q1, (ss_and hc h q1).mpr q2⟩
theorem sU_bt (hc : c ≤ 24) (h : gE c e0 e1) {s : Nat} {x : Int32} (hs : s < 32) : ∀ {k : Nat}, k ≤ c → (bt (sU e0 e1 x k) s = true ↔ ∃ n, n < k ∧ bt x n = true ∧ ed e0 e1 n s) := by
  intro k
  induction k with
  | zero =>
    intro _
    rw [sU, bt_0]
    exact ⟨fun q => (by cases q), fun ⟨n, n1, _⟩ => absurd n1 (Nat.not_lt_zero n)⟩
  | succ k ih =>
    intro hk
    have ih := ih (by omega)
    rw [sU]
    by_cases z : x &&& b1 k = 0
    · rw [if_pos z, ih]
      have z := (and_b1 (by omega)).mp z
      constructor
      · rintro ⟨n, n1, n2⟩
        exact ⟨n, by omega, n2⟩
      · rintro ⟨n, n1, n2, n3⟩
        have : n ≠ k := fun e => by rw [e, z] at n2; cases n2
        exact ⟨n, by omega, n2, n3⟩
    · rw [if_neg z, bt_or, Bool.or_eq_true, ih, ss_bt hc h (by omega) hs]
      have z : bt x k = true := by
        cases w : bt x k
        · exact absurd ((and_b1 (by omega)).mpr w) z
        · rfl
      constructor
      · rintro (⟨n, n1, n2⟩ | q)
        · exact ⟨n, by omega, n2⟩
        · exact ⟨k, by omega, z, q⟩
      · rintro ⟨n, n1, n2, n3⟩
        by_cases e : n = k
        · rw [e] at n3; exact Or.inr n3
        · exact Or.inl ⟨n, by omega, n2, n3⟩
/-- how many of the first k -/
def ct (x : Int32) : Nat → Nat
  | 0 => 0
  | n + 1 => if bt x n = true then ct x n + 1 else ct x n
theorem ct_le (x : Int32) : ∀ k, ct x k ≤ k := by
  intro k
  induction k with
  | zero => exact Nat.le_refl 0
  | succ k ih => rw [ct]; split <;> omega
theorem ct_mono {x y : Int32} (h : ∀ n, bt x n = true → bt y n = true) : ∀ k, ct x k ≤ ct y k := by
  intro k
  induction k with
  | zero => exact Nat.le_refl 0
  | succ k ih =>
    rw [ct, ct]
    by_cases z : bt x k = true
    · rw [if_pos z, if_pos (h k z)]; omega
    · rw [if_neg z]; split <;> omega
theorem ct_lt {x y : Int32} (h : ∀ n, bt x n = true → bt y n = true) {j : Nat} (h1 : ¬ bt x j = true) (h2 : bt y j = true) : ∀ k, j < k → ct x k < ct y k := by
  intro k
  induction k with
  | zero => intro q; omega
  | succ k ih =>
    intro q
    rw [ct, ct]
    by_cases e : j = k
    · rw [← e, if_neg h1, if_pos h2]
      have := ct_mono h j
      omega
    · have := ih (by omega)
      by_cases z : bt x k = true
      · rw [if_pos z, if_pos (h k z)]; omega
      · rw [if_neg z]; split <;> omega
theorem gq_up {tn st : Int32} {r n : Nat} (h : bt (gq c e0 e1 tn st r) n = true) : bt (gq c e0 e1 tn st (r + 1)) n = true := by
  rw [gq, bt_or, h]
  rfl
theorem gq_st {tn st : Int32} {r : Nat} (h : gq c e0 e1 tn st (r + 1) = gq c e0 e1 tn st r) : ∀ j, gq c e0 e1 tn st (r + j) = gq c e0 e1 tn st r := by
  intro j
  induction j with
  | zero => rfl
  | succ j ih =>
    show gq c e0 e1 tn st ((r + j) + 1) = _
    rw [gq, ih]
    exact h
theorem gq_25 (hc : c ≤ 24) {tn st : Int32} : gq c e0 e1 tn st 25 = gq c e0 e1 tn st 24 := by
  have K : ∀ r, (∃ j, j < r ∧ gq c e0 e1 tn st (j + 1) = gq c e0 e1 tn st j) ∨ r ≤ ct (gq c e0 e1 tn st r) c := by
    intro r
    induction r with
    | zero => exact Or.inr (Nat.zero_le _)
    | succ r ih =>
      rcases ih with ⟨j, j1, j2⟩ | ih
      · exact Or.inl ⟨j, by omega, j2⟩
      · by_cases e : gq c e0 e1 tn st (r + 1) = gq c e0 e1 tn st r
        · exact Or.inl ⟨r, by omega, e⟩
        · right
          have D : ∃ n, n < c ∧ ¬ bt (gq c e0 e1 tn st r) n = true ∧ bt (gq c e0 e1 tn st (r + 1)) n = true := by
            apply Classical.byContradiction
            intro z
            refine e (bt_ext (fun n hn => ?_))
            cases w : bt (gq c e0 e1 tn st r) n
            · cases v : bt (gq c e0 e1 tn st (r + 1)) n
              · rfl
              · exfalso
                have v2 := v
                rw [gq, bt_or, w, Bool.false_or, bt_and, Bool.and_eq_true] at v2
                have v3 := v2.1
                unfold ld at v3
                rw [bt_mk (by omega), Bool.and_eq_true, decide_eq_true_iff] at v3
                exact z ⟨n, v3.1, by rw [w]; decide, v⟩
            · exact gq_up w
          obtain ⟨n, n1, n2, n3⟩ := D
          have := ct_lt (fun n => gq_up) n2 n3 c n1
          omega
  rcases K 25 with ⟨j, j1, j2⟩ | q
  · have a := gq_st j2 (25 - j)
    have b := gq_st j2 (24 - j)
    rw [show j + (25 - j) = 25 by omega] at a
    rw [show j + (24 - j) = 24 by omega] at b
    rw [a, b]
  · have := ct_le (gq c e0 e1 tn st 25) c
    omega
/-! the reference's sweeps -/
def hr (c : Nat) (e0 e1 : Nat → Int32) (F B : Int32) (n : Nat) : Bool := bt F n || decide (¬ ss e0 e1 n &&& (B ||| b1 c) = 0)
def sw (c : Nat) (e0 e1 : Nat → Int32) (F tn : Int32) (B : Int32) : Nat → Int32
  | 0 => B
  | n + 1 => if (hr c e0 e1 F (sw c e0 e1 F tn B n) n && !bt tn n) = true then sw c e0 e1 F tn B n ||| b1 n else sw c e0 e1 F tn B n
def rq (c : Nat) (e0 e1 : Nat → Int32) (F tn : Int32) : Nat → Int32
  | 0 => 0
  | r + 1 => sw c e0 e1 F tn (rq c e0 e1 F tn r) c
theorem sw_up {F tn B : Int32} {j : Nat} (h : bt B j = true) : ∀ n, bt (sw c e0 e1 F tn B n) j = true := by
  intro n
  induction n with
  | zero => exact h
  | succ n ih =>
    rw [sw]
    split
    · rw [bt_or, ih]; rfl
    · exact ih
theorem sw_le {F tn B : Int32} {j : Nat} : ∀ n k, bt (sw c e0 e1 F tn B n) j = true → bt (sw c e0 e1 F tn B (n + k)) j = true := by
  intro n k
  induction k with
  | zero => exact id
  | succ k ih =>
    intro h
    show bt (sw c e0 e1 F tn B ((n + k) + 1)) j = true
    rw [sw]
    split
    · rw [bt_or, ih h]; rfl
    · exact ih h
theorem hr_up (hc : c ≤ 24) (hE : gE c e0 e1) {F B B' : Int32} {n : Nat} (hn : n < c) (h : ∀ j, bt B j = true → bt B' j = true) (q : hr c e0 e1 F B n = true) : hr c e0 e1 F B' n = true := by
  unfold hr at q ⊢
  rw [Bool.or_eq_true, decide_eq_true_iff] at q ⊢
  rcases q with q | q
  · exact Or.inl q
  · obtain ⟨s, s1, s2, s3⟩ := (ss_and hc hE hn).mp q
    refine Or.inr ((ss_and hc hE hn).mpr ⟨s, s1, s2, ?_⟩)
    rw [bt_or, Bool.or_eq_true] at s3 ⊢
    exact s3.elim (fun z => Or.inl (h s z)) Or.inr
theorem sw_in (hc : c ≤ 24) (hE : gE c e0 e1) {F tn B : Int32} {n : Nat} (hn : n < c) (q : hr c e0 e1 F B n = true) (q2 : bt tn n = false) : bt (sw c e0 e1 F tn B c) n = true := by
  have h1 : bt (sw c e0 e1 F tn B (n + 1)) n = true := by
    rw [sw, hr_up hc hE hn (fun j hj => sw_up hj n) q, q2]
    rw [if_pos (show (true && !false) = true from rfl), bt_or, bt_1 (by omega), decide_eq_true rfl, Bool.or_true]
  have := sw_le (c := c) (e0 := e0) (e1 := e1) (F := F) (tn := tn) (B := B) (j := n) (n + 1) (c - (n + 1)) h1
  rw [show n + 1 + (c - (n + 1)) = c by omega] at this
  exact this
theorem rq_eq (hc : c ≤ 24) (hE : gE c e0 e1) {F tn : Int32} {n : Nat} (hn : n < c) : bt (rq c e0 e1 F tn 25) n = bt (gq c e0 e1 tn (b1 c ||| (F &&& (tn ^^^ -1))) 25) n := by
  have uc : ∀ r, bt (gq c e0 e1 tn (b1 c ||| (F &&& (tn ^^^ -1))) r) c = true := by
    intro r
    induction r with
    | zero => rw [gq, bt_or, bt_1 (by omega), decide_eq_true rfl]; rfl
    | succ r ih => exact gq_up ih
  have uF : ∀ r n, n < 32 → bt F n = true → bt tn n = false → bt (gq c e0 e1 tn (b1 c ||| (F &&& (tn ^^^ -1))) r) n = true := by
    intro r n hn q1 q2
    induction r with
    | zero => rw [gq, bt_or, bt_and, bt_not hn, q1, q2]; simp
    | succ r ih => exact gq_up ih
  have cl : ∀ n, n < c → bt tn n = false → (∃ s, s ≤ c ∧ ed e0 e1 n s ∧ bt (gq c e0 e1 tn (b1 c ||| (F &&& (tn ^^^ -1))) 25) s = true) → bt (gq c e0 e1 tn (b1 c ||| (F &&& (tn ^^^ -1))) 25) n = true := by
    intro n hn q1 q2
    rw [gq_25 hc] at q2
    show bt (gq c e0 e1 tn (b1 c ||| (F &&& (tn ^^^ -1))) (24 + 1)) n = true
    rw [gq, bt_or, bt_and, bt_not (by omega), q1, (ld_bt hc hE).mpr ⟨hn, q2⟩, Bool.or_eq_true]
    exact Or.inr rfl
  have A : ∀ r, ∀ n, bt (rq c e0 e1 F tn r) n = true → bt (gq c e0 e1 tn (b1 c ||| (F &&& (tn ^^^ -1))) 25) n = true := by
    intro r
    induction r with
    | zero => intro n q; rw [rq, bt_0] at q; cases q
    | succ r ih =>
      have S : ∀ k, k ≤ c → ∀ n, bt (sw c e0 e1 F tn (rq c e0 e1 F tn r) k) n = true → bt (gq c e0 e1 tn (b1 c ||| (F &&& (tn ^^^ -1))) 25) n = true := by
        intro k
        induction k with
        | zero => intro _ n q; exact ih n q
        | succ k ihk =>
          intro hk n q
          rw [sw] at q
          split at q
          · rename_i z
            rw [Bool.and_eq_true] at z
            rw [bt_or, Bool.or_eq_true] at q
            rcases q with q | q
            · exact ihk (by omega) n q
            · rw [bt_1 (by omega), decide_eq_true_iff] at q
              subst q
              have z2 : bt tn n = false := by
                cases w : bt tn n
                · rfl
                · rw [w] at z; cases z.2
              have z1 := z.1
              unfold hr at z1
              rw [Bool.or_eq_true, decide_eq_true_iff] at z1
              rcases z1 with z1 | z1
              · exact uF 25 n (by omega) z1 z2
              · obtain ⟨s, s1, s2, s3⟩ := (ss_and hc hE (by omega)).mp z1
                refine cl n (by omega) z2 ⟨s, s1, s2, ?_⟩
                rw [bt_or, Bool.or_eq_true] at s3
                rcases s3 with s3 | s3
                · exact ihk (by omega) s s3
                · rw [bt_1 (by omega), decide_eq_true_iff] at s3
                  rw [s3]
                  exact uc 25
          · exact ihk (by omega) n q
      intro n q
      exact S c (Nat.le_refl c) n q
  have Bq : ∀ r n, n < c → bt (gq c e0 e1 tn (b1 c ||| (F &&& (tn ^^^ -1))) r) n = true → bt (rq c e0 e1 F tn (r + 1)) n = true := by
    intro r
    induction r with
    | zero =>
      intro n hn q
      rw [gq, bt_or, bt_1 (by omega), decide_eq_false (by omega), Bool.false_or, bt_and, bt_not (by omega), Bool.and_eq_true] at q
      rw [rq]
      refine sw_in hc hE hn ?_ (by simpa using q.2)
      unfold hr
      rw [q.1]
      rfl
    | succ r ih =>
      intro n hn q
      rw [gq, bt_or, Bool.or_eq_true] at q
      rw [rq]
      rcases q with q | q
      · exact sw_up (ih n hn q) c
      · rw [bt_and, bt_not (by omega), Bool.and_eq_true] at q
        refine sw_in hc hE hn ?_ (by simpa using q.2)
        obtain ⟨-, s, s1, s2, s3⟩ := (ld_bt hc hE).mp q.1
        unfold hr
        rw [Bool.or_eq_true, decide_eq_true_iff]
        refine Or.inr ((ss_and hc hE hn).mpr ⟨s, s1, s2, ?_⟩)
        rw [bt_or, Bool.or_eq_true]
        by_cases e : s = c
        · right; rw [e, bt_1 (by omega), decide_eq_true rfl]
        · left; exact ih s (by omega) s3
  cases w : bt (gq c e0 e1 tn (b1 c ||| (F &&& (tn ^^^ -1))) 25) n
  · cases v : bt (rq c e0 e1 F tn 25) n
    · rfl
    · rw [A 25 n v] at w; cases w
  · rw [gq_25 hc] at w
    exact Bq 24 n hn w
end PURE2
