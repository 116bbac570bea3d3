/-! What items take and hit, as sets; the reference's hits are the class's. -/
def rn (c : Nat) (e0 e1 : Nat → Int32) (F : Int32) (g : Bool) (tn : Int32) : Int32 := if g = true then gq c e0 e1 tn (b1 c ||| (F &&& (tn ^^^ -1))) 25 else tn ^^^ -1
def tT (c : Nat) (e0 e1 : Nat → Int32) (L F : Nat → Int32) (gp : Nat → Bool) (K : Nat) : Nat → Int32
  | 0 => L (K - 1)
  | d + 1 => L (K - 2 - d) &&& (ld c e0 e1 (rn c e0 e1 (F (K - 2 - d)) (gp (K - 2 - d)) (tT c e0 e1 L F gp K d)) ^^^ -1)
def tA (c : Nat) (e0 e1 : Nat → Int32) (L F : Nat → Int32) (gp : Nat → Bool) (K k : Nat) : Int32 := tT c e0 e1 L F gp K (K - 1 - k)
def hH (c : Nat) (e0 e1 : Nat → Int32) (L F : Nat → Int32) (gp : Nat → Bool) (K : Nat) : Nat → Int32
  | 0 => tA c e0 e1 L F gp K 0
  | k + 1 => if gp k = true then fq c e0 e1 (tA c e0 e1 L F gp K (k + 1)) (sU e0 e1 (hH c e0 e1 L F gp K k) c) 25 &&& tA c e0 e1 L F gp K (k + 1) else sU e0 e1 (hH c e0 e1 L F gp K k) c
/-- the reference's successors -/
def aD (c : Nat) (x s : Int32) : Int32 := if s < 0 then x else if nI c ≤ s then x else x ||| ((1 : Int32) <<< (s &&& 31))
def bM (c : Nat) (e0 e1 : Nat → Int32) (x : Int32) : Nat → Int32
  | 0 => 0
  | n + 1 => if bt x n = true then aD c (aD c (bM c e0 e1 x n) (e0 n)) (e1 n) else bM c e0 e1 x n
def mq (c : Nat) (e0 e1 : Nat → Int32) (tn st : Int32) : Nat → Int32
  | 0 => st
  | r + 1 => mq c e0 e1 tn st r ||| bM c e0 e1 (mq c e0 e1 tn st r &&& (tn ^^^ -1)) c
def sM (c : Nat) (e0 e1 : Nat → Int32) (L F : Nat → Int32) (gp : Nat → Bool) (K : Nat) : Nat → Int32
  | 0 => tA c e0 e1 L F gp K 0
  | k + 1 => (if gp k = true then mq c e0 e1 (tA c e0 e1 L F gp K (k + 1)) (bM c e0 e1 (sM c e0 e1 L F gp K k) c) 25 else bM c e0 e1 (sM c e0 e1 L F gp K k) c) &&& tA c e0 e1 L F gp K (k + 1)
section TAKES
variable {c : Nat} {e0 e1 : Nat → Int32} {L F : Nat → Int32} {gp : Nat → Bool} {K : Nat}
theorem tA_last : tA c e0 e1 L F gp K (K - 1) = L (K - 1) := by
  unfold tA
  rw [Nat.sub_self]
  rfl
theorem tA_step {k : Nat} (h : k + 1 < K) : tA c e0 e1 L F gp K k = L k &&& (ld c e0 e1 (rn c e0 e1 (F k) (gp k) (tA c e0 e1 L F gp K (k + 1))) ^^^ -1) := by
  unfold tA
  rw [show K - 1 - k = (K - 2 - k) + 1 by omega, tT, show K - 2 - (K - 2 - k) = k by omega, show K - 1 - (k + 1) = K - 2 - k by omega]
theorem tA_lt (hL : ∀ k n, bt (L k) n = true → n < c) {k n : Nat} (hk : k < K) (h : bt (tA c e0 e1 L F gp K k) n = true) : n < c := by
  by_cases e : k + 1 < K
  · rw [tA_step e, bt_and, Bool.and_eq_true] at h
    exact hL k n h.1
  · have : k = K - 1 := by omega
    rw [this, tA_last] at h
    exact hL _ n h
/-- an item that is not the last takes a node that is like it, and whose successors do not ruin it -/
theorem tA_bt (hc : c ≤ 24) (hE : gE c e0 e1) {k n : Nat} (hk : k + 1 < K) (hn : n < c) : bt (tA c e0 e1 L F gp K k) n = (bt (L k) n && decide (ss e0 e1 n &&& rn c e0 e1 (F k) (gp k) (tA c e0 e1 L F gp K (k + 1)) = 0)) := by
  rw [tA_step hk, bt_and, bt_not (by omega)]
  unfold ld
  rw [bt_mk (by omega), decide_eq_true hn, Bool.true_and]
  by_cases z : ss e0 e1 n &&& rn c e0 e1 (F k) (gp k) (tA c e0 e1 L F gp K (k + 1)) = 0
  · rw [decide_eq_true z, decide_eq_false (fun q => q z)]; rfl
  · rw [decide_eq_false z, decide_eq_true z]; rfl
theorem aD_bt (hc : c ≤ 24) {x v : Int32} (hv : v = -1 ∨ ∃ a : Nat, a ≤ c ∧ v = nI a) {s : Nat} (hs : s < 32) : bt (aD c x v) s = true ↔ bt x s = true ∨ (s < c ∧ v = nI s) := by
  unfold aD
  rcases hv with h | ⟨a, a1, a2⟩
  · rw [h, if_pos (by decide)]
    constructor
    · exact Or.inl
    · rintro (q | ⟨-, q⟩)
      · exact q
      · exact absurd q (nI_n1 (by omega))
  · rw [a2, if_neg (nI_pos (by omega))]
    have E : nI a = nI s ↔ s = a := by rw [nI_eq (by omega) (by omega)]; exact ⟨fun e => e.symm, fun e => e.symm⟩
    by_cases q : nI c ≤ nI a
    · rw [if_pos q]
      have q := (nI_leI (by omega) (by omega)).mp q
      constructor
      · exact Or.inl
      · rintro (z | ⟨z1, z2⟩)
        · exact z
        · have := E.mp z2
          omega
    · rw [if_neg q]
      have q : a < c := by
        by_cases w : a < c
        · exact w
        · exact absurd ((nI_leI (by omega) (by omega)).mpr (by omega)) q
      show bt (x ||| b1 a) s = true ↔ _
      rw [bt_or, Bool.or_eq_true, bt_1 (by omega), decide_eq_true_iff, E]
      constructor
      · rintro (z | z)
        · exact Or.inl z
        · exact Or.inr ⟨by omega, z⟩
      · rintro (z | ⟨_, z⟩)
        · exact Or.inl z
        · exact Or.inr z
theorem bM_bt (hc : c ≤ 24) (hE : gE c e0 e1) {x : Int32} {s : Nat} (hs : s < 32) : ∀ {k : Nat}, k ≤ c → (bt (bM c e0 e1 x k) s = true ↔ s < c ∧ ∃ n, n < k ∧ bt x n = true ∧ ed e0 e1 n s) := by
  intro k
  induction k with
  | zero =>
    intro _
    rw [bM, bt_0]
    exact ⟨fun q => (by cases q), fun ⟨_, n, n1, _⟩ => absurd n1 (Nat.not_lt_zero n)⟩
  | succ k ih =>
    intro hk
    have ih := ih (by omega)
    obtain ⟨⟨a, a1, a2⟩, h1⟩ := hE k (by omega)
    rw [bM]
    by_cases z : bt x k = true
    · rw [if_pos z, aD_bt hc h1 hs, aD_bt hc (Or.inr ⟨a, a1, a2⟩) hs, ih]
      constructor
      · rintro ((⟨q1, n, n1, n2⟩ | ⟨q1, q2⟩) | ⟨q1, q2⟩)
        · exact ⟨q1, n, by omega, n2⟩
        · exact ⟨q1, k, by omega, z, Or.inl q2⟩
        · exact ⟨q1, k, by omega, z, Or.inr q2⟩
      · rintro ⟨q1, n, n1, n2, n3⟩
        by_cases e : n = k
        · rw [e] at n3
          rcases n3 with n3 | n3
          · exact Or.inl (Or.inr ⟨q1, n3⟩)
          · exact Or.inr ⟨q1, n3⟩
        · exact Or.inl (Or.inl ⟨q1, n, by omega, n2, n3⟩)
    · rw [if_neg z, ih]
      constructor
      · rintro ⟨q1, n, n1, n2⟩
        exact ⟨q1, n, by omega, n2⟩
      · rintro ⟨q1, n, n1, n2, n3⟩
        have : n ≠ k := fun e => z (e ▸ n2)
        exact ⟨q1, n, by omega, n2, n3⟩
theorem bM_sU (hc : c ≤ 24) (hE : gE c e0 e1) {x y : Int32} (h : ∀ n, n < c → bt x n = bt y n) {s : Nat} (hs : s < 32) : bt (bM c e0 e1 x c) s = (decide (s < c) && bt (sU e0 e1 y c) s) := by
  have A : bt (bM c e0 e1 x c) s = true ↔ (decide (s < c) && bt (sU e0 e1 y c) s) = true := by
    rw [bM_bt hc hE hs (Nat.le_refl c), Bool.and_eq_true, decide_eq_true_iff, sU_bt hc hE hs (Nat.le_refl c)]
    constructor
    · rintro ⟨q1, n, n1, n2, n3⟩
      exact ⟨q1, n, n1, by rw [← h n n1]; exact n2, n3⟩
    · rintro ⟨q1, n, n1, n2, n3⟩
      exact ⟨q1, n, n1, by rw [h n n1]; exact n2, n3⟩
  cases u : bt (bM c e0 e1 x c) s <;> cases v : (decide (s < c) && bt (sU e0 e1 y c) s)
  · rfl
  · rw [v] at A; rw [A.mpr rfl] at u; cases u
  · rw [u] at A; rw [A.mp rfl] at v; cases v
  · rfl
theorem mq_fq (hc : c ≤ 24) (hE : gE c e0 e1) {tn x y : Int32} (h : ∀ n, n < c → bt x n = bt y n) : ∀ r n, n < c → bt (mq c e0 e1 tn (bM c e0 e1 x c) r) n = bt (fq c e0 e1 tn (sU e0 e1 y c) r) n := by
  intro r
  induction r with
  | zero =>
    intro n hn
    rw [mq, fq, bM_sU hc hE h (by omega), decide_eq_true hn]
    rfl
  | succ r ih =>
    intro n hn
    rw [mq, fq, bt_or, bt_or, ih n hn, bM_sU hc hE (y := fq c e0 e1 tn (sU e0 e1 y c) r &&& (tn ^^^ -1)) (fun j hj => by rw [bt_and, bt_and, ih j hj]) (by omega), decide_eq_true hn]
    rfl
theorem hH_sub (hc : c ≤ 24) (hE : gE c e0 e1) : ∀ k, k < K → ∀ n, n < 32 → bt (hH c e0 e1 L F gp K k) n = true → bt (tA c e0 e1 L F gp K k) n = true := by
  intro k
  induction k with
  | zero => intro _ n _ q; exact q
  | succ k ih =>
    intro hk s hs q
    rw [hH] at q
    by_cases g : gp k = true
    · rw [if_pos g, bt_and, Bool.and_eq_true] at q
      exact q.2
    · rw [if_neg g] at q
      obtain ⟨n, n1, n2, n3⟩ := (sU_bt hc hE hs (Nat.le_refl c)).mp q
      have w := ih (by omega) n (by omega) n2
      rw [tA_bt hc hE hk n1, Bool.and_eq_true, decide_eq_true_iff] at w
      have w := and_0.mp w.2 s hs ((ss_bt hc hE n1 hs).mpr n3)
      unfold rn at w
      rw [if_neg g, bt_not hs] at w
      simpa using w
theorem sM_eq (hc : c ≤ 24) (hE : gE c e0 e1) (hL : ∀ k n, bt (L k) n = true → n < c) : ∀ k, k < K → sM c e0 e1 L F gp K k = hH c e0 e1 L F gp K k := by
  intro k
  induction k with
  | zero => intro _; rfl
  | succ k ih =>
    intro hk
    have ih := ih (by omega)
    refine bt_ext (fun n hn => ?_)
    rw [sM, ih, hH, bt_and]
    by_cases t : bt (tA c e0 e1 L F gp K (k + 1)) n = true
    · have nc := tA_lt hL hk t
      rw [t, Bool.and_true]
      by_cases g : gp k = true
      · rw [if_pos g, if_pos g, bt_and, t, Bool.and_true]
        exact mq_fq hc hE (fun _ _ => rfl) 25 n nc
      · rw [if_neg g, if_neg g, bM_sU hc hE (fun _ _ => rfl) hn, decide_eq_true nc]
        rfl
    · have t0 : bt (tA c e0 e1 L F gp K (k + 1)) n = false := by
        cases w : bt (tA c e0 e1 L F gp K (k + 1)) n
        · rfl
        · exact absurd w t
      rw [t0, Bool.and_false]
      cases v : bt (if gp k = true then fq c e0 e1 (tA c e0 e1 L F gp K (k + 1)) (sU e0 e1 (hH c e0 e1 L F gp K k) c) 25 &&& tA c e0 e1 L F gp K (k + 1) else sU e0 e1 (hH c e0 e1 L F gp K k) c) n
      · rfl
      · have := hH_sub (L := L) (F := F) (gp := gp) hc hE (k + 1) hk n hn (by rw [hH]; exact v)
        exact absurd this t
/-- nothing taken at the start: nothing hit -/
theorem hH_0 (hc : c ≤ 24) (hE : gE c e0 e1) (h : tA c e0 e1 L F gp K 0 = 0) : ∀ k, hH c e0 e1 L F gp K k = 0 := by
  have Z : ∀ x : Int32, x = 0 → sU e0 e1 x c = 0 := fun x hx => bt_ext (fun n hn => by
    rw [bt_0]
    cases w : bt (sU e0 e1 x c) n
    · rfl
    · obtain ⟨j, -, j2, -⟩ := (sU_bt hc hE hn (Nat.le_refl c)).mp w
      rw [hx, bt_0] at j2
      cases j2)
  have A : ∀ x : Int32, (0 : Int32) &&& x = 0 := fun x => bt_ext (fun n hn => by rw [bt_and, bt_0]; rfl)
  intro k
  induction k with
  | zero => exact h
  | succ k ih =>
    rw [hH, ih, Z 0 rfl]
    have Fq : ∀ r, fq c e0 e1 (tA c e0 e1 L F gp K (k + 1)) 0 r = 0 := by
      intro r
      induction r with
      | zero => rfl
      | succ r ihr => rw [fq, ihr, A, Z 0 rfl]; rfl
    rw [Fq, A]
    split <;> rfl
end TAKES
