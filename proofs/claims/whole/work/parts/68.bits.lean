/-! Sets of nodes as bits of a number. -/
def bt (x : Int32) (n : Nat) : Bool := x.toBitVec.getLsbD n
theorem bt_or {x y : Int32} {n : Nat} : bt (x ||| y) n = (bt x n || bt y n) := by
  unfold bt
  rw [Int32.toBitVec_or, BitVec.getLsbD_or]
theorem bt_and {x y : Int32} {n : Nat} : bt (x &&& y) n = (bt x n && bt y n) := by
  unfold bt
  rw [Int32.toBitVec_and, BitVec.getLsbD_and]
theorem bt_not {x : Int32} {n : Nat} (h : n < 32) : bt (x ^^^ -1) n = !bt x n := by
  unfold bt
  rw [Int32.toBitVec_xor, show (-1 : Int32).toBitVec = BitVec.allOnes 32 from rfl, BitVec.getLsbD_xor, BitVec.getLsbD_allOnes, decide_eq_true h]
  cases x.toBitVec.getLsbD n <;> rfl
theorem bt_ge {x : Int32} {n : Nat} (h : 32 ≤ n) : bt x n = false := BitVec.getLsbD_of_ge _ _ h
theorem bt_0 {n : Nat} : bt 0 n = false := by
  unfold bt
  rw [show (0 : Int32).toBitVec = 0#32 from rfl, BitVec.getLsbD_zero]
theorem bt_ext {x y : Int32} (h : ∀ n, n < 32 → bt x n = bt y n) : x = y := by
  apply Int32.toBitVec_inj.mp
  apply BitVec.eq_of_getLsbD_eq
  intro i hi
  exact h i hi
/-- the set of one -/
def b1 (k : Nat) : Int32 := (1 : Int32) <<< (nI k &&& 31)
theorem bt_1 {k n : Nat} (hk : k < 32) : bt (b1 k) n = decide (n = k) := by
  by_cases hn : n < 32
  · exact of_decide_eq_true (z_all (n := 32) (p := fun n => decide (bt (b1 k) n = decide (n = k))) (z_all (n := 32) (p := fun k => (List.range 32).all fun n => decide (bt (b1 k) n = decide (n = k))) (by decide +kernel) hk) hn)
  · rw [bt_ge (by omega), decide_eq_false (by omega)]
theorem bt_i1 {n : Nat} : bt 1 n = decide (n = 0) := bt_1 (k := 0) (by omega)
theorem bt_sr {x : Int32} {k : Nat} (hk : k < 32) : bt (x >>> (nI k &&& 31)) 0 = bt x k := by
  unfold bt
  have e : ((nI k &&& 31).toBitVec.smod 32).toNat = k := of_decide_eq_true (z_all (n := 32) (p := fun k => decide (((nI k &&& 31).toBitVec.smod 32).toNat = k)) (by decide +kernel) hk)
  rw [Int32.toBitVec_shiftRight, BitVec.sshiftRight', e, BitVec.getLsbD_sshiftRight, Nat.add_zero, if_pos hk]
  rfl
theorem has_iff {x : Int32} {k : Nat} (hk : k < 32) : (x >>> (nI k &&& 31)) &&& 1 = 1 ↔ bt x k = true := by
  rw [← bt_sr (x := x) hk]
  constructor
  · intro h
    have := congrArg (fun z => bt z 0) h
    simp only [bt_and, bt_i1] at this
    simpa using this
  · intro h
    refine bt_ext (fun n hn => ?_)
    rw [bt_and, bt_i1]
    by_cases e : n = 0
    · rw [e, h]; rfl
    · rw [decide_eq_false e, Bool.and_false]
theorem f_has {m : zM} {x : Int32} {k : Nat} (hk : k < 32) : f_M_has m x (nI k) = bI (bt x k) := by
  unfold f_M_has bI
  by_cases h : bt x k = true
  · rw [if_pos ((has_iff hk).mpr h), if_pos h]
  · rw [if_neg (fun z => h ((has_iff hk).mp z)), if_neg h]
theorem and_0 {x y : Int32} : x &&& y = 0 ↔ ∀ n, n < 32 → bt x n = true → bt y n = false := by
  constructor
  · intro h n hn hx
    have := congrArg (fun z => bt z n) h
    simp only [bt_and, bt_0, hx] at this
    simpa using this
  · intro h
    refine bt_ext (fun n hn => ?_)
    rw [bt_and, bt_0]
    cases hx : bt x n
    · rfl
    · rw [h n hn hx]; rfl
theorem and_b1 {x : Int32} {k : Nat} (hk : k < 32) : x &&& b1 k = 0 ↔ bt x k = false := by
  rw [and_0]
  constructor
  · intro h
    cases hx : bt x k
    · rfl
    · have := h k hk hx
      rw [bt_1 hk] at this
      simp at this
  · intro h n hn hx
    rw [bt_1 hk]
    by_cases e : n = k
    · rw [e, h] at hx; cases hx
    · exact decide_eq_false e
/-- the set of those n below c that p says -/
def mk (p : Nat → Bool) : Nat → Int32
  | 0 => 0
  | n + 1 => if p n = true then mk p n ||| b1 n else mk p n
theorem bt_mk {p : Nat → Bool} : ∀ {c : Nat}, c ≤ 32 → ∀ n, bt (mk p c) n = (decide (n < c) && p n) := by
  intro c
  induction c with
  | zero => intro _ n; rw [mk, bt_0, decide_eq_false (by omega)]; rfl
  | succ c ih =>
    intro hc n
    rw [mk]
    have h := ih (by omega) n
    by_cases hp : p c = true
    · rw [if_pos hp, bt_or, h, bt_1 (by omega)]
      by_cases e : n = c
      · rw [e, decide_eq_false (Nat.lt_irrefl c), decide_eq_true rfl, decide_eq_true (Nat.lt_succ_self c), hp]; rfl
      · rw [decide_eq_false e, Bool.or_false]
        by_cases l : n < c
        · rw [decide_eq_true l, decide_eq_true (by omega)]
        · rw [decide_eq_false l, decide_eq_false (by omega)]
    · rw [if_neg hp, h]
      by_cases e : n = c
      · rw [e, decide_eq_false (Nat.lt_irrefl c)]
        cases q : p c
        · rw [Bool.and_false, Bool.and_false]
        · exact absurd q hp
      · by_cases l : n < c
        · rw [decide_eq_true l, decide_eq_true (by omega)]
        · rw [decide_eq_false l, decide_eq_false (by omega)]
theorem mk_ext {p q : Nat → Bool} : ∀ {c : Nat}, (∀ n, n < c → p n = q n) → mk p c = mk q c := by
  intro c
  induction c with
  | zero => intro _; rfl
  | succ c ih =>
    intro h
    rw [mk, mk, ih (fun n hn => h n (by omega)), h c (Nat.lt_succ_self c)]
