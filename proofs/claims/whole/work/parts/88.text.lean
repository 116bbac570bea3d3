/-! The new text as a function: as the class lays it, as the reference lays it; the same. -/
/-- k signs of the old text from place a -/
def sl (tx : Nat → Int32) (a : Nat) : Nat → List Int32
  | 0 => []
  | k + 1 => sl tx a k ++ [tx (a + k)]
theorem sl_len (tx : Nat → Int32) (a : Nat) : ∀ k, (sl tx a k).length = k := by
  intro k
  induction k with
  | zero => rfl
  | succ k ih => rw [sl, List.length_append, ih]; rfl
theorem sl_add (tx : Nat → Int32) (a k : Nat) : ∀ j, sl tx a (k + j) = sl tx a k ++ sl tx (a + k) j := by
  intro j
  induction j with
  | zero => rw [sl, List.append_nil]; rfl
  | succ j ih => rw [← Nat.add_assoc, sl, sl, ih, List.append_assoc, Nat.add_assoc]
section LAY
variable (N : Nat) (tx : Nat → Int32) (c : Nat) (bg en : Nat → Nat) (ed ou : Nat → Bool) (wd : Nat → List Int32)
def kp (en : Nat → Nat) (ed : Nat → Bool) : Nat → Nat
  | 0 => 0
  | n + 1 => if ed n = true then en n + 1 else kp en ed n
def Rc : Nat → List Int32
  | 0 => []
  | n + 1 => if ed n = true then Rc n ++ sl tx (kp en ed n) ((if ou n = true then bg n else en n + 1) - kp en ed n) ++ wd n else Rc n
def Rf : List Int32 := Rc tx bg en ed ou wd c ++ sl tx (kp en ed c) (N - kp en ed c)
def stN (i : Nat) : Nat → Bool
  | 0 => true
  | n + 1 => stN i n && !(ed n && ou n && decide (bg n ≤ i) && decide (i ≤ en n))
def laN (i : Nat) : Nat → Option Nat
  | 0 => none
  | n + 1 => if (ed n && decide (i = en n)) = true then some n else laN i n
def wA (o : Option Nat) : List Int32 := match o with
  | none => []
  | some n => wd n
def Rm : Nat → List Int32
  | 0 => []
  | i + 1 => Rm i ++ (if stN bg en ed ou i c = true then [tx i] else []) ++ wA wd (laN en ed i c)
def hsp : Prop := (∀ n, n < c → bg n ≤ en n ∧ en n < N) ∧ ∀ i j, i < j → j < c → en i < bg j
def sO : Nat → Nat
  | 0 => 0
  | n + 1 => sO n + (if ed n = true ∧ ou n = true then en n - bg n + 1 else 0)
def sW : Nat → Nat
  | 0 => 0
  | n + 1 => sW n + (if ed n = true then (wd n).length else 0)
end LAY
section LAY2
variable {N : Nat} {tx : Nat → Int32} {c : Nat} {bg en : Nat → Nat} {ed ou : Nat → Bool} {wd : Nat → List Int32}
theorem stN_iff {i : Nat} : ∀ {n : Nat}, stN bg en ed ou i n = true ↔ ∀ j, j < n → ¬ (ed j = true ∧ ou j = true ∧ bg j ≤ i ∧ i ≤ en j) := by
  intro n
  induction n with
  | zero => exact ⟨fun _ j hj => absurd hj (Nat.not_lt_zero j), fun _ => rfl⟩
  | succ n ih =>
    rw [stN, Bool.and_eq_true, ih]
    have e : (!(ed n && ou n && decide (bg n ≤ i) && decide (i ≤ en n))) = true ↔ ¬ (ed n = true ∧ ou n = true ∧ bg n ≤ i ∧ i ≤ en n) := by
      rw [Bool.not_eq_true', ← Bool.not_eq_true, Bool.and_eq_true, Bool.and_eq_true, Bool.and_eq_true, decide_eq_true_iff, decide_eq_true_iff]
      constructor
      · intro q z; exact q ⟨⟨⟨z.1, z.2.1⟩, z.2.2.1⟩, z.2.2.2⟩
      · intro q z; exact q ⟨z.1.1.1, z.1.1.2, z.1.2, z.2⟩
    rw [e]
    constructor
    · rintro ⟨q1, q2⟩ j hj
      by_cases w : j = n
      · rw [w]; exact q2
      · exact q1 j (by omega)
    · intro q
      exact ⟨fun j hj => q j (by omega), q n (by omega)⟩
theorem laN_none {i : Nat} : ∀ {n : Nat}, (∀ j, j < n → ¬ (ed j = true ∧ i = en j)) → laN en ed i n = none := by
  intro n
  induction n with
  | zero => intro _; rfl
  | succ n ih =>
    intro h
    rw [laN, if_neg (by rw [Bool.and_eq_true, decide_eq_true_iff]; exact h n (by omega))]
    exact ih (fun j hj => h j (by omega))
theorem laN_some {i k : Nat} (hk : ed k = true ∧ i = en k) : ∀ {n : Nat}, k < n → (∀ j, j < n → j ≠ k → ¬ (ed j = true ∧ i = en j)) → laN en ed i n = some k := by
  intro n
  induction n with
  | zero => intro h; omega
  | succ n ih =>
    intro h1 h2
    rw [laN]
    by_cases e : n = k
    · rw [if_pos (by rw [Bool.and_eq_true, decide_eq_true_iff, e]; exact hk), e]
    · rw [if_neg (by rw [Bool.and_eq_true, decide_eq_true_iff]; exact h2 n (by omega) e)]
      exact ih (by omega) (fun j hj => h2 j (by omega))
theorem seg {a : Nat} : ∀ k, (∀ i, a ≤ i → i < a + k → stN bg en ed ou i c = true ∧ laN en ed i c = none) → Rm tx c bg en ed ou wd (a + k) = Rm tx c bg en ed ou wd a ++ sl tx a k := by
  intro k
  induction k with
  | zero => intro _; rw [sl, List.append_nil]; rfl
  | succ k ih =>
    intro h
    obtain ⟨h1, h2⟩ := h (a + k) (by omega) (by omega)
    show Rm tx c bg en ed ou wd ((a + k) + 1) = _
    rw [Rm, ih (fun i q1 q2 => h i q1 (by omega)), h1, h2, if_pos rfl, sl]
    show _ ++ _ ++ _ ++ [] = _
    rw [List.append_nil, List.append_assoc]
theorem segO {a : Nat} : ∀ k, (∀ i, a ≤ i → i < a + k → stN bg en ed ou i c = false ∧ laN en ed i c = none) → Rm tx c bg en ed ou wd (a + k) = Rm tx c bg en ed ou wd a := by
  intro k
  induction k with
  | zero => intro _; rfl
  | succ k ih =>
    intro h
    obtain ⟨h1, h2⟩ := h (a + k) (by omega) (by omega)
    show Rm tx c bg en ed ou wd ((a + k) + 1) = _
    rw [Rm, ih (fun i q1 q2 => h i q1 (by omega)), h1, h2, if_neg (by decide)]
    show _ ++ [] ++ [] = _
    rw [List.append_nil, List.append_nil]
theorem kp_le (h : hsp N c bg en) : ∀ n, n ≤ c → kp en ed n ≤ N ∧ (∀ j, n ≤ j → j < c → kp en ed n ≤ bg j) ∧ ∀ j, j < n → ed j = true → en j < kp en ed n := by
  intro n
  induction n with
  | zero => intro _; exact ⟨Nat.zero_le _, fun j _ _ => Nat.zero_le _, fun j hj => absurd hj (Nat.not_lt_zero j)⟩
  | succ n ih =>
    intro hn
    obtain ⟨i1, i2, i3⟩ := ih (by omega)
    rw [kp]
    by_cases e : ed n = true
    · rw [if_pos e]
      refine ⟨(h.1 n (by omega)).2, fun j q1 q2 => h.2 n j (by omega) q2, fun j q1 q2 => ?_⟩
      by_cases w : j = n
      · rw [w]; omega
      · have := i3 j (by omega) q2
        have := i2 n (Nat.le_refl n) (by omega)
        have := (h.1 n (by omega)).1
        omega
    · rw [if_neg e]
      refine ⟨i1, fun j q1 q2 => i2 j (by omega) q2, fun j q1 q2 => ?_⟩
      by_cases w : j = n
      · rw [w] at q2; exact absurd q2 e
      · exact i3 j (by omega) q2
/-- no edit touches place i, but perhaps that of node n -/
theorem only {n i : Nat} (h : hsp N c bg en) (hn : n ≤ c) (h1 : kp en ed n ≤ i) (h2 : ∀ j, n < j → j < c → i < bg j) : ∀ j, j < c → j ≠ n → ¬ (ed j = true ∧ bg j ≤ i ∧ i ≤ en j) ∧ ¬ (ed j = true ∧ i = en j) := by
  intro j hj hne
  have w := h.1 j hj
  by_cases l : j < n
  · refine ⟨fun q => ?_, fun q => ?_⟩
    · have := (kp_le h n hn).2.2 j l q.1
      omega
    · have := (kp_le h n hn).2.2 j l q.1
      omega
  · have := h2 j (by omega) hj
    exact ⟨fun q => by omega, fun q => by omega⟩
theorem Rm_kp (h : hsp N c bg en) : ∀ n, n ≤ c → Rm tx c bg en ed ou wd (kp en ed n) = Rc tx bg en ed ou wd n := by
  intro n
  induction n with
  | zero => intro _; rfl
  | succ n ih =>
    intro hn
    have ih := ih (by omega)
    rw [kp, Rc]
    by_cases e : ed n = true
    case neg => rw [if_neg e, if_neg e]; exact ih
    rw [if_pos e, if_pos e]
    obtain ⟨k1, k2, k3⟩ := kp_le (ed := ed) h n (by omega)
    have sp := h.1 n (by omega)
    have kb := k2 n (Nat.le_refl n) (by omega)
    have O : ∀ i, kp en ed n ≤ i → i ≤ en n → ∀ j, j < c → j ≠ n → ¬ (ed j = true ∧ bg j ≤ i ∧ i ≤ en j) ∧ ¬ (ed j = true ∧ i = en j) := fun i q1 q2 => only h (by omega) q1 (fun j z1 z2 => by have := h.2 n j z1 z2; omega)
    have ST : ∀ i, kp en ed n ≤ i → i ≤ en n → ¬ (ou n = true ∧ bg n ≤ i) → stN bg en ed ou i c = true := fun i q1 q2 q3 => stN_iff.mpr (fun j hj z => by
      by_cases w : j = n
      · rw [w] at z; exact q3 ⟨z.2.1, z.2.2.1⟩
      · exact (O i q1 q2 j hj w).1 ⟨z.1, z.2.2⟩)
    have LA : ∀ i, kp en ed n ≤ i → i < en n → laN en ed i c = none := fun i q1 q2 => laN_none (fun j hj z => by
      by_cases w : j = n
      · rw [w] at z; omega
      · exact (O i q1 (by omega) j hj w).2 z)
    have LE : laN en ed (en n) c = some n := laN_some ⟨e, rfl⟩ (by omega) (fun j hj w => (O (en n) (by omega) (Nat.le_refl _) j hj w).2)
    by_cases o : ou n = true
    · rw [if_pos o]
      have a1 := seg (tx := tx) (wd := wd) (c := c) (bg := bg) (en := en) (ed := ed) (ou := ou) (a := kp en ed n) (bg n - kp en ed n) (fun i q1 q2 => ⟨ST i q1 (by omega) (fun z => by omega), LA i q1 (by omega)⟩)
      rw [show kp en ed n + (bg n - kp en ed n) = bg n by omega, ih] at a1
      have a2 := segO (tx := tx) (wd := wd) (c := c) (bg := bg) (en := en) (ed := ed) (ou := ou) (a := bg n) (en n - bg n) (fun i q1 q2 => ⟨by
        cases w : stN bg en ed ou i c
        · rfl
        · exact absurd ⟨e, o, q1, by omega⟩ (stN_iff.mp w n (by omega)), LA i (by omega) (by omega)⟩)
      rw [show bg n + (en n - bg n) = en n by omega] at a2
      have a3 : stN bg en ed ou (en n) c = false := by
        cases w : stN bg en ed ou (en n) c
        · rfl
        · exact absurd ⟨e, o, sp.1, Nat.le_refl _⟩ (stN_iff.mp w n (by omega))
      rw [Rm, a2, a1, a3, if_neg (by decide), LE, List.append_nil]
      rfl
    · rw [if_neg o]
      have a1 := seg (tx := tx) (wd := wd) (c := c) (bg := bg) (en := en) (ed := ed) (ou := ou) (a := kp en ed n) (en n - kp en ed n) (fun i q1 q2 => ⟨ST i q1 (by omega) (fun z => o z.1), LA i q1 (by omega)⟩)
      rw [show kp en ed n + (en n - kp en ed n) = en n by omega, ih] at a1
      rw [Rm, a1, ST (en n) (by omega) (Nat.le_refl _) (fun z => o z.1), if_pos rfl, LE, show en n + 1 - kp en ed n = (en n - kp en ed n) + 1 by omega, sl, show kp en ed n + (en n - kp en ed n) = en n by omega, ← List.append_assoc]
      rfl
theorem Rm_N (h : hsp N c bg en) : Rm tx c bg en ed ou wd N = Rf N tx c bg en ed ou wd := by
  obtain ⟨k1, k2, k3⟩ := kp_le (ed := ed) h c (Nat.le_refl c)
  have O : ∀ i, kp en ed c ≤ i → ∀ j, j < c → ¬ (ed j = true ∧ bg j ≤ i ∧ i ≤ en j) ∧ ¬ (ed j = true ∧ i = en j) := fun i q1 j hj => only h (Nat.le_refl c) q1 (fun j z1 z2 => by omega) j hj (by omega)
  have a1 := seg (tx := tx) (wd := wd) (c := c) (bg := bg) (en := en) (ed := ed) (ou := ou) (a := kp en ed c) (N - kp en ed c) (fun i q1 q2 => ⟨stN_iff.mpr (fun j hj z => (O i q1 j hj).1 ⟨z.1, z.2.2⟩), laN_none (fun j hj z => (O i q1 j hj).2 z)⟩)
  rw [show kp en ed c + (N - kp en ed c) = N by omega, Rm_kp h c (Nat.le_refl c)] at a1
  exact a1
theorem Rc_len (h : hsp N c bg en) : ∀ n, n ≤ c → (Rc tx bg en ed ou wd n).length + sO bg en ed ou n = kp en ed n + sW ed wd n := by
  intro n
  induction n with
  | zero => intro _; rfl
  | succ n ih =>
    intro hn
    have ih := ih (by omega)
    obtain ⟨k1, k2, k3⟩ := kp_le (ed := ed) h n (by omega)
    have sp := h.1 n (by omega)
    have kb := k2 n (Nat.le_refl n) (by omega)
    rw [Rc, sO, kp, sW]
    by_cases e : ed n = true
    · rw [if_pos e, if_pos e, if_pos e, List.length_append, List.length_append, sl_len]
      by_cases o : ou n = true
      · rw [if_pos o, if_pos ⟨e, o⟩]; omega
      · rw [if_neg o, if_neg (fun z => o z.2)]; omega
    · rw [if_neg e, if_neg e, if_neg e, if_neg (fun z => e z.1)]
      omega
theorem Rf_len (h : hsp N c bg en) : (Rf N tx c bg en ed ou wd).length + sO bg en ed ou c = N + sW ed wd c := by
  have := Rc_len (tx := tx) (ed := ed) (ou := ou) (wd := wd) h c (Nat.le_refl c)
  have := (kp_le (ed := ed) h c (Nat.le_refl c)).1
  unfold Rf
  rw [List.length_append, sl_len]
  omega
theorem Rc_mono : ∀ k n, (Rc tx bg en ed ou wd n).length ≤ (Rc tx bg en ed ou wd (n + k)).length := by
  intro k n
  induction k with
  | zero => exact Nat.le_refl _
  | succ k ih =>
    show _ ≤ (Rc tx bg en ed ou wd ((n + k) + 1)).length
    rw [Rc]
    split
    · rw [List.length_append, List.length_append]; omega
    · exact ih
theorem Rm_mono : ∀ k i, (Rm tx c bg en ed ou wd i).length ≤ (Rm tx c bg en ed ou wd (i + k)).length := by
  intro k i
  induction k with
  | zero => exact Nat.le_refl _
  | succ k ih =>
    show _ ≤ (Rm tx c bg en ed ou wd ((i + k) + 1)).length
    rw [Rm, List.length_append, List.length_append]
    omega
/-- every sign is one of a text -/
def isC (v : Int32) : Prop := ∃ q : Nat, 32 ≤ q ∧ q ≤ 126 ∧ v = nI q
theorem sl_C (ht : ∀ i, i < N → isC (tx i)) : ∀ k a, a + k ≤ N → ∀ v, v ∈ sl tx a k → isC v := by
  intro k a
  induction k with
  | zero => intro _ v hv; cases hv
  | succ k ih =>
    intro hk v hv
    rw [sl] at hv
    rcases List.mem_append.mp hv with q | q
    · exact ih (by omega) v q
    · rw [List.mem_singleton.mp q]
      exact ht (a + k) (by omega)
theorem Rf_C (h : hsp N c bg en) (ht : ∀ i, i < N → isC (tx i)) (hw : ∀ n, n < c → ed n = true → ∀ v, v ∈ wd n → isC v) : ∀ v, v ∈ Rf N tx c bg en ed ou wd → isC v := by
  have R : ∀ n, n ≤ c → ∀ v, v ∈ Rc tx bg en ed ou wd n → isC v := by
    intro n
    induction n with
    | zero => intro _ v hv; cases hv
    | succ n ih =>
      intro hn v hv
      rw [Rc] at hv
      have sp := h.1 n (by omega)
      have kb := (kp_le (ed := ed) h n (by omega)).2.1 n (Nat.le_refl n) (by omega)
      by_cases e : ed n = true
      · rw [if_pos e] at hv
        rcases List.mem_append.mp hv with q | q
        · rcases List.mem_append.mp q with q | q
          · exact ih (by omega) v q
          · refine sl_C ht _ _ ?_ v q
            split <;> omega
        · exact hw n (by omega) e v q
      · rw [if_neg e] at hv
        exact ih (by omega) v hv
  intro v hv
  unfold Rf at hv
  have := (kp_le (ed := ed) h c (Nat.le_refl c)).1
  rcases List.mem_append.mp hv with q | q
  · exact R c (Nat.le_refl c) v q
  · exact sl_C ht _ _ (by omega) v q
end LAY2
/-! places of tokens go up -/
theorem tk_up (t : Nat → Nat) : ∀ n a b, a < b → b < (tk t n).2.length → (tk t n).2.getD a 0 < (tk t n).2.getD b 0 := by
  intro n
  induction n with
  | zero => intro a b _ h; exact absurd h (Nat.not_lt_zero b)
  | succ n ih =>
    intro a b h1 h2
    rw [tk] at h2 ⊢
    split at h2
    · rename_i e; rw [if_pos e]; exact ih a b h1 h2
    · rename_i e
      rw [if_neg e]
      split at h2
      · rename_i e2; rw [if_pos e2]; exact ih a b h1 h2
      · rename_i e2
        rw [if_neg e2]
        split at h2
        · rename_i e3; rw [if_pos e3]; exact ih a b h1 h2
        · rename_i e3
          rw [if_neg e3]
          have h2 : b < ((tk t n).2 ++ [n]).length := h2
          show ((tk t n).2 ++ [n]).getD a 0 < ((tk t n).2 ++ [n]).getD b 0
          rw [List.length_append] at h2
          have h2 : b < (tk t n).2.length + 1 := h2
          have ga : ((tk t n).2 ++ [n]).getD a 0 = (tk t n).2.getD a 0 := by
            rw [List.getD_eq_getElem?_getD, List.getD_eq_getElem?_getD, List.getElem?_append_left (by omega)]
          rw [ga]
          by_cases l : b < (tk t n).2.length
          · have gb : ((tk t n).2 ++ [n]).getD b 0 = (tk t n).2.getD b 0 := by
              rw [List.getD_eq_getElem?_getD, List.getD_eq_getElem?_getD, List.getElem?_append_left l]
            rw [gb]
            exact ih a b h1 l
          · have e : b = (tk t n).2.length := by omega
            have gb : ((tk t n).2 ++ [n]).getD b 0 = n := by
              rw [List.getD_eq_getElem?_getD, List.getElem?_append_right (by omega), e, Nat.sub_self]
              rfl
            rw [gb]
            exact tk_lt t n _ (List.mem_of_getElem? (gd_at (by omega)))
/-- the spans of a text's nodes -/
theorem spans {t : Nat → Nat} {n : Nat} {s : pS} (p : pParse t n = some s) : ∃ bg en : Nat → Nat, hsp n s.2.2.1 bg en ∧ ∀ j, j < s.2.2.1 → s.2.2.2.2.2.2 j 5 = nI (bg j) ∧ s.2.2.2.2.2.2 j 6 = nI (en j) := by
  obtain ⟨jI, dep, A, B, -, -, hS⟩ := pParse_J p
  refine ⟨fun j => (tk t n).2.getD (A j) 0, fun j => (tk t n).2.getD (B j) 0, ⟨fun j hj => ?_, fun i j h1 h2 => ?_⟩, fun j hj => ⟨(hS j hj).2.2.1, (hS j hj).2.2.2.1⟩⟩
  · obtain ⟨a1, a2, -, -, -⟩ := hS j hj
    have l1 := jI.1
    refine ⟨?_, tk_lt t n _ (List.mem_of_getElem? (gd_at (by omega)))⟩
    by_cases e : A j = B j
    · show (tk t n).2.getD (A j) 0 ≤ (tk t n).2.getD (B j) 0
      rw [e]
      exact Nat.le_refl _
    · exact Nat.le_of_lt (tk_up t n _ _ (by omega) (by omega))
  · obtain ⟨a1, a2, -, -, a5⟩ := hS j h2
    have l1 := jI.1
    exact tk_up t n _ _ (a5 i h1) (by omega)
