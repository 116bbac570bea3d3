/-! A small machine over a pure store. Store: numbers, references, shape of each cell, how many cells, how many slots.
Shape of a cell: (0, kind, fields) an object; (1, type, length) an array of numbers; (2, type, length) an array of references. -/
abbrev jj_S : Type := (Nat → Nat → Int32) × (Nat → Nat → Option Nat) × (Nat → Nat × Nat × Nat) × Nat × Nat
abbrev jx_O : Type := Nat × Nat × Nat × Nat × Int32
abbrev jx_L : Type := List (Option Value)
abbrev jx_N : Type := Nat × jx_L × List Value × (Nat → Nat → Int32) × (Nat → Nat → Option Nat)
abbrev jx_Xs : Type := Nat × (Nat → Int32)
abbrev jx_F : Type := Nat → Nat → Nat → Nat → Int32 → jx_L → List Value → jj_S → Option jx_N
def jj_up (f : Nat → Nat → Int32) (i k : Nat) (x : Int32) : Nat → Nat → Int32 := fun a => if a = i then upd (f i) k x else f a
def jj_ur (f : Nat → Nat → Option Nat) (i k : Nat) (x : Option Nat) : Nat → Nat → Option Nat := fun a => if a = i then va_up (f i) k x else f a
def jj_uf (f : Nat → Nat → Int32) (i : Nat) (g : Nat → Int32) : Nat → Nat → Int32 := fun a => if a = i then g else f a
def jj_nw (σ : jj_S) (q : Nat × Nat × Nat) : jj_S := (fun a => if a = σ.2.2.2.1 then fun _ => 0 else σ.1 a, fun a => if a = σ.2.2.2.1 then fun _ => none else σ.2.1 a, fun a => if a = σ.2.2.2.1 then q else σ.2.2.1 a, σ.2.2.2.1 + 1, σ.2.2.2.2 + q.2.2)
def jx_rf (r : Option Nat) : Value := match r with
  | none => .null
  | some a => .ref a
def jx_no : jx_F := fun _ _ _ _ _ _ _ _ => none
def jx_psh (len : Nat) : jx_F := fun pc _ _ _ c L st σ => some (pc + len, L, .int c :: st, σ.1, σ.2.1)
def jx_ild (len : Nat) : jx_F := fun pc a _ _ _ L st σ => match L[a]? with
  | some (some (.int x)) => some (pc + len, L, .int x :: st, σ.1, σ.2.1)
  | _ => none
def jx_ald (len : Nat) : jx_F := fun pc a _ _ _ L st σ => match L[a]? with
  | some (some (.ref x)) => some (pc + len, L, .ref x :: st, σ.1, σ.2.1)
  | _ => none
def jx_ist (len : Nat) : jx_F := fun pc a _ _ _ L st σ => match st with
  | .int x :: r => if a < L.length then some (pc + len, L.set a (some (.int x)), r, σ.1, σ.2.1) else none
  | _ => none
def jx_ast (len : Nat) : jx_F := fun pc a _ _ _ L st σ => match st with
  | .ref x :: r => if a < L.length then some (pc + len, L.set a (some (.ref x)), r, σ.1, σ.2.1) else none
  | _ => none
def jx_inc : jx_F := fun pc a _ _ c L st σ => match L[a]? with
  | some (some (.int x)) => some (pc + 3, L.set a (some (.int (x + c))), st, σ.1, σ.2.1)
  | _ => none
def jx_bin (f : Int32 → Int32 → Int32) : jx_F := fun pc _ _ _ _ L st σ => match st with
  | .int y :: .int x :: r => some (pc + 1, L, .int (f x y) :: r, σ.1, σ.2.1)
  | _ => none
def jx_un (f : Int32 → Int32) : jx_F := fun pc _ _ _ _ L st σ => match st with
  | .int x :: r => some (pc + 1, L, .int (f x) :: r, σ.1, σ.2.1)
  | _ => none
def jx_dup : jx_F := fun pc _ _ _ _ L st σ => match st with
  | v :: r => if v.category = 1 then some (pc + 1, L, v :: v :: r, σ.1, σ.2.1) else none
  | _ => none
def jx_pop : jx_F := fun pc _ _ _ _ L st σ => match st with
  | v :: r => if v.category = 1 then some (pc + 1, L, r, σ.1, σ.2.1) else none
  | _ => none
def jx_dpx : jx_F := fun pc _ _ _ _ L st σ => match st with
  | v :: w :: r => if v.category = 1 ∧ w.category = 1 then some (pc + 1, L, v :: w :: v :: r, σ.1, σ.2.1) else none
  | _ => none
def jx_dp2 : jx_F := fun pc _ _ _ _ L st σ => match st with
  | v :: w :: r => if v.category = 1 ∧ w.category = 1 then some (pc + 1, L, v :: w :: v :: w :: r, σ.1, σ.2.1) else none
  | _ => none
def jx_br1 (q : Int32 → Bool) : jx_F := fun pc a _ _ _ L st σ => match st with
  | .int x :: r => some (if q x = true then a else pc + 3, L, r, σ.1, σ.2.1)
  | _ => none
def jx_br2 (q : Int32 → Int32 → Bool) : jx_F := fun pc a _ _ _ L st σ => match st with
  | .int y :: .int x :: r => some (if q x y = true then a else pc + 3, L, r, σ.1, σ.2.1)
  | _ => none
def jx_gto : jx_F := fun _ a _ _ _ L st σ => some (a, L, st, σ.1, σ.2.1)
def jx_obj (σ : jj_S) (i b d : Nat) : Bool := decide (i < σ.2.2.2.1) && (decide ((σ.2.2.1 i).1 = 0) && (decide ((σ.2.2.1 i).2.1 = b) && decide (d < jt_n b)))
def jx_get : jx_F := fun pc _ b d _ L st σ => match st with
  | .ref i :: r => if jx_obj σ i b d = true then some (pc + 3, L, (if jt_rf b d = true then jx_rf (σ.2.1 i d) else .int (σ.1 i d)) :: r, σ.1, σ.2.1) else none
  | _ => none
/-- may a number be put into a field of this type -/
def jx_fit (t : FieldType) (x : Int32) : Bool := match t with
  | .int => true
  | .boolean => decide (x = 0 ∨ x = 1)
  | _ => false
def jx_isr (t : FieldType) : Bool := match t with
  | .object _ => true
  | .array _ => true
  | _ => false
def jx_put : jx_F := fun pc _ b d _ L st σ => match st with
  | .int x :: .ref i :: r => if jx_obj σ i b d = true then (if jt_rf b d = false ∧ jx_fit (jt_ft b d) x = true then some (pc + 3, L, r, jj_up σ.1 i d x, σ.2.1) else none) else none
  | .ref x :: .ref i :: r => if jx_obj σ i b d = true then (if jt_rf b d = true ∧ jx_isr (jt_ft b d) = true then some (pc + 3, L, r, σ.1, jj_ur σ.2.1 i d (some x)) else none) else none
  | _ => none
/-- array of kind q (1 numbers, 2 references) and type t, index in range -/
def jx_arr (σ : jj_S) (q t i : Nat) (x : Int32) : Bool := decide (i < σ.2.2.2.1) && (decide ((σ.2.2.1 i).1 = q) && (decide ((σ.2.2.1 i).2.1 = t) && (!decide (x < 0) && decide (x.toNatClampNeg < (σ.2.2.1 i).2.2))))
def jx_nld (t : Nat) : jx_F := fun pc _ _ _ _ L st σ => match st with
  | .int x :: .ref i :: r => if jx_arr σ 1 t i x = true then some (pc + 1, L, .int (σ.1 i x.toNatClampNeg) :: r, σ.1, σ.2.1) else none
  | _ => none
def jx_obt (t : Nat) : Bool := match jt_ty[t]? with
  | some (.object _) => true
  | _ => false
def jx_rld : jx_F := fun pc _ _ _ _ L st σ => match st with
  | .int x :: .ref i :: r => if jx_arr σ 2 (σ.2.2.1 i).2.1 i x = true ∧ jx_obt (σ.2.2.1 i).2.1 = true then some (pc + 1, L, jx_rf (σ.2.1 i x.toNatClampNeg) :: r, σ.1, σ.2.1) else none
  | _ => none
def jx_nst (t : Nat) (nar : Int32 → Int32) : jx_F := fun pc _ _ _ _ L st σ => match st with
  | .int v :: .int x :: .ref i :: r => if jx_arr σ 1 t i x = true then some (pc + 1, L, r, jj_up σ.1 i x.toNatClampNeg (nar v), σ.2.1) else none
  | _ => none
/-- the class number of the cells that a row of references of type b holds -/
def jx_rst : jx_F := fun pc _ b d _ L st σ => match st with
  | .ref v :: .int x :: .ref i :: r => if jx_arr σ 2 b i x = true ∧ v < σ.2.2.2.1 ∧ (σ.2.2.1 v).1 = 0 ∧ (σ.2.2.1 v).2.1 = d then some (pc + 1, L, r, σ.1, jj_ur σ.2.1 i x.toNatClampNeg (some v)) else none
  | _ => none
def jx_len : jx_F := fun pc _ _ _ _ L st σ => match st with
  | .ref i :: r => if i < σ.2.2.2.1 ∧ ((σ.2.2.1 i).1 = 1 ∨ (σ.2.2.1 i).1 = 2) ∧ (σ.2.2.1 i).2.1 < jt_ty.length then some (pc + 1, L, .int (Int32.ofNat (σ.2.2.1 i).2.2) :: r, σ.1, σ.2.1) else none
  | _ => none
def jx_tsw : jx_F := fun _ a _ _ _ L st σ => match st with
  | .int x :: r => match jt_sw[a]? with
    | some w => some (if x.toInt < w.2.1 ∨ w.2.2.1 < x.toInt then w.1 else w.2.2.2.getD (x.toInt - w.2.1).toNat w.1, L, r, σ.1, σ.2.1)
    | none => none
  | _ => none
/-! constants: texts at 1000000 + j, their bytes at 2000000 + j, the script at 4000000; the formatter is the value retAddr 0 -/
def jx_kst : jx_F := fun pc _ b _ _ L st σ => some (pc + 2, L, .ref (1000000 + b) :: st, σ.1, σ.2.1)
def jx_sta (v : Value) : jx_F := fun pc _ _ _ _ L st σ => some (pc + 3, L, v :: st, σ.1, σ.2.1)
def jx_cod : jx_F := fun pc _ _ _ _ L st σ => match st with
  | .ref i :: r => if 1000000 ≤ i ∧ i < 1000000 + jt_sb.length then some (pc + 3, L, .int 0 :: r, σ.1, σ.2.1) else none
  | _ => none
def jx_val : jx_F := fun pc _ _ _ _ L st σ => match st with
  | .ref i :: r => if 1000000 ≤ i ∧ i < 1000000 + jt_sb.length then some (pc + 3, L, .ref (i + 1000000) :: r, σ.1, σ.2.1) else none
  | _ => none
def jx_bld : jx_F := fun pc _ _ _ _ L st σ => match st with
  | .int x :: .ref i :: r => if (2000000 ≤ i ∧ i < 2000000 + jt_sb.length) ∧ ¬ x < 0 ∧ x.toNatClampNeg < (jt_sb.getD (i - 2000000) []).length then some (pc + 1, L, .int ((jt_sb.getD (i - 2000000) []).getD x.toNatClampNeg 0) :: r, σ.1, σ.2.1) else none
  | _ => none
def jx_bln : jx_F := fun pc _ _ _ _ L st σ => match st with
  | .ref i :: r => if 2000000 ≤ i ∧ i < 2000000 + jt_sb.length then some (pc + 1, L, .int (Int32.ofNat (jt_sb.getD (i - 2000000) []).length) :: r, σ.1, σ.2.1) else none
  | _ => none
def jx_sld (xs : jx_Xs) : jx_F := fun pc _ _ _ _ L st σ => match st with
  | .int x :: .ref i :: r => if i = 4000000 ∧ ¬ x < 0 ∧ x.toNatClampNeg < xs.1 then some (pc + 1, L, .int (xs.2 x.toNatClampNeg) :: r, σ.1, σ.2.1) else none
  | _ => none
def jx_sln (xs : jx_Xs) : jx_F := fun pc _ _ _ _ L st σ => match st with
  | .ref i :: r => if i = 4000000 then some (pc + 1, L, .int (Int32.ofNat xs.1) :: r, σ.1, σ.2.1) else none
  | _ => none
def jx_c1 (l : List Value) : Bool := l.all (fun v => decide (v.category = 1))
def jx_oin : jx_F := fun pc _ _ _ _ L st σ => match st with
  | .ref _ :: r => if r.length ≤ 8 ∧ jx_c1 r = true then some (pc + 3, L, r, σ.1, σ.2.1) else none
  | _ => none
def jx_mm (f : Int32 → Int32 → Int32) : jx_F := fun pc _ _ _ _ L st σ => match st with
  | .int y :: .int x :: r => if r.length ≤ 8 ∧ jx_c1 r = true then some (pc + 3, L, .int (f x y) :: r, σ.1, σ.2.1) else none
  | _ => none
/-- arraycopy of a row of characters -/
def jx_cpy : jx_F := fun pc _ _ _ _ L st σ => match st with
  | .int n :: .int dp :: .ref j :: .int sp :: .ref i :: r =>
    if (r.length ≤ 8 ∧ jx_c1 r = true ∧ i < σ.2.2.2.1 ∧ j < σ.2.2.2.1 ∧ (σ.2.2.1 i).1 = 1 ∧ (σ.2.2.1 i).2.1 = 1 ∧ (σ.2.2.1 j).1 = 1 ∧ (σ.2.2.1 j).2.1 = 1) ∧ (¬ sp < 0 ∧ ¬ dp < 0 ∧ ¬ n < 0 ∧ sp.toNatClampNeg + n.toNatClampNeg ≤ (σ.2.2.1 i).2.2 ∧ dp.toNatClampNeg + n.toNatClampNeg ≤ (σ.2.2.1 j).2.2) ∧ (List.range n.toNatClampNeg).all (fun u => fits .char (.int (σ.1 i (sp.toNatClampNeg + u)))) = true
    then some (pc + 3, L, r, jj_uf σ.1 j (va_cpy (σ.1 i) (σ.1 j) sp.toNatClampNeg dp.toNatClampNeg n.toNatClampNeg), σ.2.1) else none
  | _ => none
def jx_tb (xs : jx_Xs) : List jx_F := [
  jx_psh 1, jx_psh 2, jx_psh 3, jx_psh 2, jx_psh 3,
  jx_ild 1, jx_ild 2, jx_ald 1, jx_ald 2, jx_ist 1, jx_ist 2, jx_ast 1, jx_ast 2, jx_inc,
  jx_bin (fun x y => x + y), jx_bin (fun x y => x - y), jx_bin (fun x y => x * y), jx_bin (fun x y => x &&& y), jx_bin (fun x y => x ||| y), jx_bin (fun x y => x ^^^ y),
  jx_bin (fun x y => x <<< (y &&& 31)), jx_bin (fun x y => x >>> (y &&& 31)), jx_bin (fun x y => (x.toUInt32 >>> (y.toUInt32 &&& Int32.toUInt32 31)).toInt32),
  jx_un (fun x => -x), jx_un (fun x => x.toInt8.toInt32), jx_un (fun x => (x.toUInt32 % 65536).toInt32),
  jx_dup, jx_pop, jx_dpx, jx_dp2,
  jx_br1 (fun x => decide (x = 0)), jx_br1 (fun x => decide (¬ x = 0)), jx_br1 (fun x => decide (x < 0)), jx_br1 (fun x => decide (0 ≤ x)), jx_br1 (fun x => decide (0 < x)), jx_br1 (fun x => decide (x ≤ 0)),
  jx_br2 (fun x y => decide (x = y)), jx_br2 (fun x y => decide (¬ x = y)), jx_br2 (fun x y => decide (x < y)), jx_br2 (fun x y => decide (y ≤ x)), jx_br2 (fun x y => decide (y < x)), jx_br2 (fun x y => decide (x ≤ y)),
  jx_gto, jx_mm (fun x y => if x < y then y else x), jx_mm (fun x y => if y < x then y else x),
  jx_get, jx_get, jx_put, jx_put, jx_put,
  jx_nld 0, jx_nld 1, jx_nld 2, jx_rld, jx_len,
  jx_nst 0 (fun v => v), jx_nst 1 (vp_nar .char), jx_nst 2 (vp_nar .boolean), jx_rst,
  jx_tsw, jx_kst, jx_sta (.int 1), jx_sta (.retAddr 0), jx_cod, jx_val, jx_bld, jx_bln, jx_sld xs, jx_sln xs, jx_oin, jx_cpy]
def jx_sem (xs : jx_Xs) (o : jx_O) (pc : Nat) (L : jx_L) (st : List Value) (σ : jj_S) : Option jx_N := ((jx_tb xs).getD o.1 jx_no) pc o.2.1 o.2.2.1 o.2.2.2.1 o.2.2.2.2 L st σ
/-- making: length of the instruction, shape, what is left on the stack -/
def jx_new (o : jx_O) (st : List Value) (σ : jj_S) : Option (Nat × (Nat × Nat × Nat) × List Value) :=
  if σ.2.2.2.1 < 1000000 then
    if o.1 = 72 then some (3, (0, o.2.2.1, jt_n o.2.2.1), st)
    else match st with
      | .int x :: r => if ¬ x < 0 ∧ x.toNatClampNeg ≤ 1000000 then (if o.1 = 73 then some (2, (1, o.2.2.1, x.toNatClampNeg), r) else if o.1 = 74 then some (3, (2, o.2.2.1, x.toNatClampNeg), r) else none) else none
      | _ => none
  else none
/-- may this be the receiver of method y: 80, 83 an object of its kind; 86 a text -/
def jx_rcv (o : jx_O) (σ : jj_S) (as : List Value) : Bool :=
  if o.1 = 81 ∨ o.1 = 84 then true
  else match as with
    | .ref i :: _ => if o.1 = 86 then decide (1000000 ≤ i ∧ i < 1000000 + jt_sb.length) else if o.1 = 80 ∨ o.1 = 83 then decide (i < σ.2.2.2.1 ∧ (σ.2.2.1 i).1 = 0 ∧ (σ.2.2.1 i).2.1 = jt_rc.getD o.2.2.1 99) else decide (o.1 = 82 ∨ o.1 = 85)
    | _ => false
/-- calls: arguments in order, what is left on the stack -/
def jx_cal (o : jx_O) (st : List Value) (σ : jj_S) : Option (List Value × List Value) :=
  if o.2.2.2.1 ≤ st.length ∧ st.length ≤ o.2.2.2.1 + 8 ∧ jx_c1 st = true ∧ jx_rcv o σ (st.take o.2.2.2.1).reverse = true then some ((st.take o.2.2.2.1).reverse, st.drop o.2.2.2.1) else none
def jx_ret (y : Nat) (o : jx_O) (st : List Value) : Option (Option Value) :=
  match st with
  | [] => if o.1 = 91 ∧ jt_R y = none then some none else none
  | [.int v] => if o.1 = 90 then (match jt_R y with
    | some .int => some (some (.int v))
    | some .boolean => if v = 0 ∨ v = 1 then some (some (.int v)) else none
    | some .char => if vp_nar .char v = v then some (some (.int v)) else none
    | some .byte => if vp_nar .byte v = v then some (some (.int v)) else none
    | _ => none) else none
  | [.ref i] => if o.1 = 92 then (match jt_R y with
    | some (.object _) => some (some (.ref i))
    | some (.array _) => some (some (.ref i))
    | _ => none) else none
  | _ => none
def jx_ent (y : Nat) (as : List Value) : jx_L := as.map some ++ List.replicate (jt_L y - as.length) none
def jx_op (y pc : Nat) : Option jx_O := (jt_ops.getD y []).lookup pc
def jx_run (xs : jx_Xs) : Nat → Nat → Nat → jx_L → List Value → jj_S → Option (Option Value × jj_S)
  | 0, _, _, _, _, _ => none
  | f + 1, y, pc, L, st, σ => match jx_op y pc with
    | none => none
    | some o =>
      if o.1 < 72 then match jx_sem xs o pc L st σ with
        | some q => jx_run xs f y q.1 q.2.1 q.2.2.1 (q.2.2.2.1, q.2.2.2.2, σ.2.2)
        | none => none
      else if o.1 < 80 then match jx_new o st σ with
        | some q => jx_run xs f y (pc + q.1) L (.ref σ.2.2.2.1 :: q.2.2) (jj_nw σ q.2.1)
        | none => none
      else if o.1 < 90 then match jx_cal o st σ with
        | some q => match jx_run xs f o.2.2.1 0 (jx_ent o.2.2.1 q.1) [] σ with
          | some r => jx_run xs f y (pc + 3) L (r.1.toList ++ q.2) r.2
          | none => none
        | none => none
      else match jx_ret y o st with
        | some v => some (v, σ)
        | none => none
/-- more fuel does no harm -/
theorem jx_more {xs : jx_Xs} : ∀ (f : Nat) {y pc : Nat} {L : jx_L} {st : List Value} {σ : jj_S} {r : Option Value × jj_S}, jx_run xs f y pc L st σ = some r → jx_run xs (f + 1) y pc L st σ = some r := by
  intro f
  induction f with
  | zero => intro y pc L st σ r h; cases (show none = some r from h)
  | succ f ih =>
    intro y pc L st σ r h
    rw [jx_run] at h ⊢
    cases ho : jx_op y pc with
    | none => rw [ho] at h; cases h
    | some o =>
      rw [ho] at h
      dsimp only at h ⊢
      by_cases h1 : o.1 < 72
      · rw [if_pos h1] at h ⊢
        cases hq : jx_sem xs o pc L st σ with
        | none => rw [hq] at h; cases h
        | some q => rw [hq] at h; exact ih h
      · rw [if_neg h1] at h ⊢
        by_cases h2 : o.1 < 80
        · rw [if_pos h2] at h ⊢
          cases hq : jx_new o st σ with
          | none => rw [hq] at h; cases h
          | some q => rw [hq] at h; exact ih h
        · rw [if_neg h2] at h ⊢
          by_cases h3 : o.1 < 90
          · rw [if_pos h3] at h ⊢
            cases hq : jx_cal o st σ with
            | none => rw [hq] at h; cases h
            | some q =>
              rw [hq] at h
              dsimp only at h ⊢
              cases hr : jx_run xs f o.2.2.1 0 (jx_ent o.2.2.1 q.1) [] σ with
              | none => rw [hr] at h; cases h
              | some u => rw [hr] at h; rw [ih hr]; exact ih h
          · rw [if_neg h3] at h ⊢
            exact h
theorem jx_le {xs : jx_Xs} {f g : Nat} (hg : f ≤ g) {y pc : Nat} {L : jx_L} {st : List Value} {σ : jj_S} {r : Option Value × jj_S} (h : jx_run xs f y pc L st σ = some r) : jx_run xs g y pc L st σ = some r := by
  induction hg with
  | refl => exact h
  | step _ ih => exact jx_more _ ih
/-- cells and slots only grow -/
theorem jx_grow {xs : jx_Xs} : ∀ (f : Nat) {y pc : Nat} {L : jx_L} {st : List Value} {σ : jj_S} {r : Option Value × jj_S}, jx_run xs f y pc L st σ = some r → σ.2.2.2.1 ≤ r.2.2.2.2.1 ∧ σ.2.2.2.2 ≤ r.2.2.2.2.2 := by
  intro f
  induction f with
  | zero => intro y pc L st σ r h; cases (show none = some r from h)
  | succ f ih =>
    intro y pc L st σ r h
    rw [jx_run] at h
    cases ho : jx_op y pc with
    | none => rw [ho] at h; cases h
    | some o =>
      rw [ho] at h
      dsimp only at h
      by_cases h1 : o.1 < 72
      · rw [if_pos h1] at h
        cases hq : jx_sem xs o pc L st σ with
        | none => rw [hq] at h; cases h
        | some q => rw [hq] at h; exact ih (σ := (q.2.2.2.1, q.2.2.2.2, σ.2.2)) h
      · rw [if_neg h1] at h
        by_cases h2 : o.1 < 80
        · rw [if_pos h2] at h
          cases hq : jx_new o st σ with
          | none => rw [hq] at h; cases h
          | some q =>
            rw [hq] at h
            have := ih h
            simp only [jj_nw] at this
            exact ⟨by omega, by omega⟩
        · rw [if_neg h2] at h
          by_cases h3 : o.1 < 90
          · rw [if_pos h3] at h
            cases hq : jx_cal o st σ with
            | none => rw [hq] at h; cases h
            | some q =>
              rw [hq] at h
              dsimp only at h
              cases hr : jx_run xs f o.2.2.1 0 (jx_ent o.2.2.1 q.1) [] σ with
              | none => rw [hr] at h; cases h
              | some u =>
                rw [hr] at h
                have a := ih hr
                have b := ih h
                exact ⟨by omega, by omega⟩
          · rw [if_neg h3] at h
            cases hq : jx_ret y o st with
            | none => rw [hq] at h; cases h
            | some v => rw [hq] at h; cases h; exact ⟨Nat.le_refl _, Nat.le_refl _⟩
