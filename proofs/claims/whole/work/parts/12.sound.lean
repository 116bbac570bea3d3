/-! What each instruction of the small machine is in the real one, what the tables must hold for it, and: each step of the small machine is one of the real one. -/
def jx_f4 (a : Nat) : Fin 4 := ⟨a % 4, Nat.mod_lt _ (by decide)⟩
def jx_at (b : Nat) : ArrayType := if b = 0 then .int else if b = 1 then .char else .boolean
def jx_sw (pc : Nat) (w : Nat × Int × Int × List Nat) : Instr := .tableswitch ((w.1 : Int) - (pc : Int)) w.2.1 w.2.2.1 (w.2.2.2.map (fun (t : Nat) => (t : Int) - (pc : Int))).toArray
def jx_It : List (Nat → Nat → Nat → Nat → Int32 → Instr × Nat) := [
  fun pc a b d c => (.iconst c.toInt, 1),
  fun pc a b d c => (.bipush c.toInt, 2),
  fun pc a b d c => (.sipush c.toInt, 3),
  fun pc a b d c => (.ldc a, 2),
  fun pc a b d c => (.ldc_w a, 3),
  fun pc a b d c => (.iload_n (jx_f4 a), 1),
  fun pc a b d c => (.iload a, 2),
  fun pc a b d c => (.aload_n (jx_f4 a), 1),
  fun pc a b d c => (.aload a, 2),
  fun pc a b d c => (.istore_n (jx_f4 a), 1),
  fun pc a b d c => (.istore a, 2),
  fun pc a b d c => (.astore_n (jx_f4 a), 1),
  fun pc a b d c => (.astore a, 2),
  fun pc a b d c => (.iinc a c.toInt, 3),
  fun pc a b d c => (.iadd, 1),
  fun pc a b d c => (.isub, 1),
  fun pc a b d c => (.imul, 1),
  fun pc a b d c => (.iand, 1),
  fun pc a b d c => (.ior, 1),
  fun pc a b d c => (.ixor, 1),
  fun pc a b d c => (.ishl, 1),
  fun pc a b d c => (.ishr, 1),
  fun pc a b d c => (.iushr, 1),
  fun pc a b d c => (.ineg, 1),
  fun pc a b d c => (.i2b, 1),
  fun pc a b d c => (.i2c, 1),
  fun pc a b d c => (.dup, 1),
  fun pc a b d c => (.pop, 1),
  fun pc a b d c => (.dup_x1, 1),
  fun pc a b d c => (.dup2, 1),
  fun pc a b d c => (.ifCond .eq ((a : Int) - (pc : Int)), 3),
  fun pc a b d c => (.ifCond .ne ((a : Int) - (pc : Int)), 3),
  fun pc a b d c => (.ifCond .lt ((a : Int) - (pc : Int)), 3),
  fun pc a b d c => (.ifCond .ge ((a : Int) - (pc : Int)), 3),
  fun pc a b d c => (.ifCond .gt ((a : Int) - (pc : Int)), 3),
  fun pc a b d c => (.ifCond .le ((a : Int) - (pc : Int)), 3),
  fun pc a b d c => (.if_icmp .eq ((a : Int) - (pc : Int)), 3),
  fun pc a b d c => (.if_icmp .ne ((a : Int) - (pc : Int)), 3),
  fun pc a b d c => (.if_icmp .lt ((a : Int) - (pc : Int)), 3),
  fun pc a b d c => (.if_icmp .ge ((a : Int) - (pc : Int)), 3),
  fun pc a b d c => (.if_icmp .gt ((a : Int) - (pc : Int)), 3),
  fun pc a b d c => (.if_icmp .le ((a : Int) - (pc : Int)), 3),
  fun pc a b d c => (.goto ((a : Int) - (pc : Int)), 3),
  fun pc a b d c => (.invokestatic a, 3),
  fun pc a b d c => (.invokestatic a, 3),
  fun pc a b d c => (.getfield a, 3),
  fun pc a b d c => (.getfield a, 3),
  fun pc a b d c => (.putfield a, 3),
  fun pc a b d c => (.putfield a, 3),
  fun pc a b d c => (.putfield a, 3),
  fun pc a b d c => (.iaload, 1),
  fun pc a b d c => (.caload, 1),
  fun pc a b d c => (.baload, 1),
  fun pc a b d c => (.aaload, 1),
  fun pc a b d c => (.arraylength, 1),
  fun pc a b d c => (.iastore, 1),
  fun pc a b d c => (.castore, 1),
  fun pc a b d c => (.bastore, 1),
  fun pc a b d c => (.aastore, 1),
  fun pc a b d c => (jx_sw pc (jt_sw.getD a (0, 0, 0, [])), d),
  fun pc a b d c => (.ldc a, 2),
  fun pc a b d c => (.getstatic a, 3),
  fun pc a b d c => (.getstatic a, 3),
  fun pc a b d c => (.getfield a, 3),
  fun pc a b d c => (.getfield a, 3),
  fun pc a b d c => (.baload, 1),
  fun pc a b d c => (.arraylength, 1),
  fun pc a b d c => (.iaload, 1),
  fun pc a b d c => (.arraylength, 1),
  fun pc a b d c => (.invokespecial a, 3),
  fun pc a b d c => (.invokestatic a, 3),
  fun pc a b d c => (.nop, 1),
  fun pc a b d c => (.new a, 3),
  fun pc a b d c => (.newarray (jx_at b), 2),
  fun pc a b d c => (.anewarray a, 3),
  fun pc a b d c => (.nop, 1),
  fun pc a b d c => (.nop, 1),
  fun pc a b d c => (.nop, 1),
  fun pc a b d c => (.nop, 1),
  fun pc a b d c => (.nop, 1),
  fun pc a b d c => (.invokevirtual a, 3),
  fun pc a b d c => (.invokestatic a, 3),
  fun pc a b d c => (.invokespecial a, 3),
  fun pc a b d c => (.invokevirtual a, 3),
  fun pc a b d c => (.invokestatic a, 3),
  fun pc a b d c => (.invokespecial a, 3),
  fun pc a b d c => (.invokevirtual a, 3),
  fun pc a b d c => (.nop, 1),
  fun pc a b d c => (.nop, 1),
  fun pc a b d c => (.nop, 1),
  fun pc a b d c => (.ireturn, 1),
  fun pc a b d c => (.return_, 1),
  fun pc a b d c => (.areturn, 1)]
def jx_I (pc : Nat) (o : jx_O) : Instr × Nat := (jx_It.getD o.1 (fun _ _ _ _ _ => (.nop, 1))) pc o.2.1 o.2.2.1 o.2.2.2.1 o.2.2.2.2
def jt_fr (y : Nat) : Nat := (jt_M y).frames
def jt_lo (y : Nat) : Nat := (jt_M y).locals
def jt_c (y : Nat) : Nat := jt_cy.getD y 0
/-- room and number of arguments of a call -/
def jx_rm (y b d : Nat) (rc : Nat) : Bool := decide (jt_fr b + 1 ≤ jt_fr y) && (decide (8 + (jt_L b + 11) + jt_lo b ≤ jt_lo y) && (decide (d = jt_np.getD b 0 + rc) && (decide (d ≤ jt_L b) && decide (b < jt_law))))
def jx_Ct : List (Nat → Nat → Nat → Nat → Int32 → Bool) := [
  fun y a b d c => decide (Int32.ofInt c.toInt = c),
  fun y a b d c => decide ((Int8.ofInt c.toInt).toInt32 = c),
  fun y a b d c => decide ((Int16.ofInt c.toInt).toInt32 = c),
  fun y a b d c => decide ((jt_c y, a, c) ∈ jt_lc),
  fun y a b d c => decide ((jt_c y, a, c) ∈ jt_lc),
  fun y a b d c => decide (a % 4 = a),
  fun y a b d c => true,
  fun y a b d c => decide (a % 4 = a),
  fun y a b d c => true,
  fun y a b d c => decide (a % 4 = a),
  fun y a b d c => true,
  fun y a b d c => decide (a % 4 = a),
  fun y a b d c => true,
  fun y a b d c => decide (Int32.ofInt c.toInt = c),
  fun y a b d c => true,
  fun y a b d c => true,
  fun y a b d c => true,
  fun y a b d c => true,
  fun y a b d c => true,
  fun y a b d c => true,
  fun y a b d c => true,
  fun y a b d c => true,
  fun y a b d c => true,
  fun y a b d c => true,
  fun y a b d c => true,
  fun y a b d c => true,
  fun y a b d c => true,
  fun y a b d c => true,
  fun y a b d c => true,
  fun y a b d c => true,
  fun y a b d c => true,
  fun y a b d c => true,
  fun y a b d c => true,
  fun y a b d c => true,
  fun y a b d c => true,
  fun y a b d c => true,
  fun y a b d c => true,
  fun y a b d c => true,
  fun y a b d c => true,
  fun y a b d c => true,
  fun y a b d c => true,
  fun y a b d c => true,
  fun y a b d c => true,
  fun y a b d c => decide ((jt_c y, a) ∈ jt_lx0) && (decide (1 ≤ jt_fr y) && decide (21 ≤ jt_lo y)),
  fun y a b d c => decide ((jt_c y, a) ∈ jt_lx1) && (decide (1 ≤ jt_fr y) && decide (21 ≤ jt_lo y)),
  fun y a b d c => (decide ((jt_c y, a, b, d) ∈ jt_lf) && decide (b < jt_C.length)),
  fun y a b d c => (decide ((jt_c y, a, b, d) ∈ jt_ln) && decide (b < jt_C.length)),
  fun y a b d c => (decide ((jt_c y, a, b, d) ∈ jt_lf) && decide (b < jt_C.length)) && decide ((jt_T b d).2.2.2 = false),
  fun y a b d c => (decide ((jt_c y, a, b, d) ∈ jt_lf) && decide (b < jt_C.length)) && (decide ((jt_T b d).2.2.2 = true) && decide (jt_ini.getD y false = true)),
  fun y a b d c => (decide ((jt_c y, a, b, d) ∈ jt_ln) && decide (b < jt_C.length)) && decide ((jt_T b d).2.2.2 = false),
  fun y a b d c => true,
  fun y a b d c => true,
  fun y a b d c => true,
  fun y a b d c => true,
  fun y a b d c => true,
  fun y a b d c => true,
  fun y a b d c => true,
  fun y a b d c => true,
  fun y a b d c => decide (jt_ty[b]? = some (.object (jt_C.getD d ""))) && decide (d < jt_C.length),
  fun y a b d c => decide ((jt_sw.getD a (0, 0, 0, [])).2.2.2.length = ((jt_sw.getD a (0, 0, 0, [])).2.2.1 - (jt_sw.getD a (0, 0, 0, [])).2.1 + 1).toNat),
  fun y a b d c => decide ((jt_c y, a, b) ∈ jt_ls) && decide (b < jt_sb.length),
  fun y a b d c => decide ((jt_c y, a) ∈ jt_lg0),
  fun y a b d c => decide ((jt_c y, a) ∈ jt_lg1),
  fun y a b d c => decide ((jt_c y, a) ∈ jt_lv0),
  fun y a b d c => decide ((jt_c y, a) ∈ jt_lv1),
  fun y a b d c => true,
  fun y a b d c => true,
  fun y a b d c => decide (y = jt_law),
  fun y a b d c => decide (y = jt_law),
  fun y a b d c => decide ((jt_c y, a) ∈ jt_lo1) && (decide (1 ≤ jt_fr y) && decide (20 ≤ jt_lo y)),
  fun y a b d c => decide ((jt_c y, a) ∈ jt_lcp) && (decide (1 ≤ jt_fr y) && decide (8 + (nativeFrameWords "java/lang/System" "arraycopy" 5 + 11) ≤ jt_lo y)),
  fun y a b d c => true,
  fun y a b d c => decide ((jt_c y, a, b) ∈ jt_lk) && decide (b < jt_C.length),
  fun y a b d c => decide (b < 3),
  fun y a b d c => decide ((jt_c y, a, b, d) ∈ jt_la) && decide (jt_ty[b]? = some (.object (jt_C.getD d ""))),
  fun y a b d c => true,
  fun y a b d c => true,
  fun y a b d c => true,
  fun y a b d c => true,
  fun y a b d c => true,
  fun y a b d c => decide ((jt_c y, a, b) ∈ jt_lm) && (decide (b ∈ jt_iv) && jx_rm y b d 1),
  fun y a b d c => decide ((jt_c y, a, b) ∈ jt_lm) && (decide (b ∈ jt_is) && jx_rm y b d 0),
  fun y a b d c => decide ((jt_c y, a, b) ∈ jt_lm) && (decide (b ∈ jt_ii) && jx_rm y b d 1),
  fun y a b d c => decide ((jt_c y, a, b) ∈ jt_lmn) && (decide (b ∈ jt_iv) && jx_rm y b d 1),
  fun y a b d c => decide ((jt_c y, a, b) ∈ jt_lmn) && (decide (b ∈ jt_is) && jx_rm y b d 0),
  fun y a b d c => decide ((jt_c y, a, b) ∈ jt_lmn) && (decide (b ∈ jt_ii) && jx_rm y b d 1),
  fun y a b d c => decide ((jt_c y, a, b) ∈ jt_lm) && (decide (b ∈ jt_it) && jx_rm y b d 1),
  fun y a b d c => true,
  fun y a b d c => true,
  fun y a b d c => true,
  fun y a b d c => true,
  fun y a b d c => true,
  fun y a b d c => true]
def jx_lok (y : Nat) (o : jx_O) : Bool := (jx_Ct.getD o.1 (fun _ _ _ _ _ => false)) y o.2.1 o.2.2.1 o.2.2.2.1 o.2.2.2.2
def jx_ok (y pc : Nat) (o : jx_O) : Bool := decide (decode (jt_B y) pc = .ok (jx_I pc o)) && jx_lok y o
def jx_Snd (κ : Nat) : Prop := ∀ (X : jj_X) (y : Nat) (R : Room) (Z : List Frame → Array Value → State → State → Prop) (k n pc a b d : Nat) (c : Int32) (L : jx_L) (st : List Value) (σ : jj_S) (q : jx_N),
  jt_fr y ≤ R.frames → jt_lo y ≤ R.locals → k ≤ R.cells → n ≤ R.slots → decode (jt_B y) pc = .ok (jx_I pc (κ, a, b, d, c)) → jx_lok y (κ, a, b, d, c) = true → jx_sem X.2.2.2.2.2 (κ, a, b, d, c) pc L st σ = some q →
  jj_G X y R Z q.1 q.2.1 q.2.2.1 k n (q.2.2.2.1, q.2.2.2.2, σ.2.2) → jj_G X y R Z pc L st k n σ
section JI
variable {pc a b d len : Nat} {c : Int32} {L : jx_L} {st : List Value} {σ : jj_S} {q : jx_N}
theorem ji_ild (h : jx_ild len pc a b d c L st σ = some q) : ∃ x, L[a]? = some (some (.int x)) ∧ q = (pc + len, L, .int x :: st, σ.1, σ.2.1) := by
  unfold jx_ild at h
  split at h
  · cases h; exact ⟨_, by assumption, rfl⟩
  · cases h
theorem ji_ald (h : jx_ald len pc a b d c L st σ = some q) : ∃ x, L[a]? = some (some (.ref x)) ∧ q = (pc + len, L, .ref x :: st, σ.1, σ.2.1) := by
  unfold jx_ald at h
  split at h
  · cases h; exact ⟨_, by assumption, rfl⟩
  · cases h
theorem ji_ist (h : jx_ist len pc a b d c L st σ = some q) : ∃ x r, st = .int x :: r ∧ a < L.length ∧ q = (pc + len, L.set a (some (.int x)), r, σ.1, σ.2.1) := by
  unfold jx_ist at h
  split at h
  · split at h
    · cases h; exact ⟨_, _, rfl, by assumption, rfl⟩
    · cases h
  · cases h
theorem ji_ast (h : jx_ast len pc a b d c L st σ = some q) : ∃ x r, st = .ref x :: r ∧ a < L.length ∧ q = (pc + len, L.set a (some (.ref x)), r, σ.1, σ.2.1) := by
  unfold jx_ast at h
  split at h
  · split at h
    · cases h; exact ⟨_, _, rfl, by assumption, rfl⟩
    · cases h
  · cases h
theorem ji_inc (h : jx_inc pc a b d c L st σ = some q) : ∃ x, L[a]? = some (some (.int x)) ∧ q = (pc + 3, L.set a (some (.int (x + c))), st, σ.1, σ.2.1) := by
  unfold jx_inc at h
  split at h
  · cases h; exact ⟨_, by assumption, rfl⟩
  · cases h
theorem ji_bin {f : Int32 → Int32 → Int32} (h : jx_bin f pc a b d c L st σ = some q) : ∃ x y r, st = .int y :: .int x :: r ∧ q = (pc + 1, L, .int (f x y) :: r, σ.1, σ.2.1) := by
  unfold jx_bin at h
  split at h
  · cases h; exact ⟨_, _, _, rfl, rfl⟩
  · cases h
theorem ji_un {f : Int32 → Int32} (h : jx_un f pc a b d c L st σ = some q) : ∃ x r, st = .int x :: r ∧ q = (pc + 1, L, .int (f x) :: r, σ.1, σ.2.1) := by
  unfold jx_un at h
  split at h
  · cases h; exact ⟨_, _, rfl, rfl⟩
  · cases h
theorem ji_dup (h : jx_dup pc a b d c L st σ = some q) : ∃ v r, st = v :: r ∧ v.category = 1 ∧ q = (pc + 1, L, v :: v :: r, σ.1, σ.2.1) := by
  unfold jx_dup at h
  split at h
  · split at h
    · cases h; exact ⟨_, _, rfl, by assumption, rfl⟩
    · cases h
  · cases h
theorem ji_pop (h : jx_pop pc a b d c L st σ = some q) : ∃ v r, st = v :: r ∧ v.category = 1 ∧ q = (pc + 1, L, r, σ.1, σ.2.1) := by
  unfold jx_pop at h
  split at h
  · split at h
    · cases h; exact ⟨_, _, rfl, by assumption, rfl⟩
    · cases h
  · cases h
theorem ji_dpx (h : jx_dpx pc a b d c L st σ = some q) : ∃ v w r, st = v :: w :: r ∧ (v.category = 1 ∧ w.category = 1) ∧ q = (pc + 1, L, v :: w :: v :: r, σ.1, σ.2.1) := by
  unfold jx_dpx at h
  split at h
  · split at h
    · cases h; exact ⟨_, _, _, rfl, by assumption, rfl⟩
    · cases h
  · cases h
theorem ji_dp2 (h : jx_dp2 pc a b d c L st σ = some q) : ∃ v w r, st = v :: w :: r ∧ (v.category = 1 ∧ w.category = 1) ∧ q = (pc + 1, L, v :: w :: v :: w :: r, σ.1, σ.2.1) := by
  unfold jx_dp2 at h
  split at h
  · split at h
    · cases h; exact ⟨_, _, _, rfl, by assumption, rfl⟩
    · cases h
  · cases h
theorem ji_br1 {f : Int32 → Bool} (h : jx_br1 f pc a b d c L st σ = some q) : ∃ x r, st = .int x :: r ∧ q = (if f x = true then a else pc + 3, L, r, σ.1, σ.2.1) := by
  unfold jx_br1 at h
  split at h
  · cases h; exact ⟨_, _, rfl, rfl⟩
  · cases h
theorem ji_br2 {f : Int32 → Int32 → Bool} (h : jx_br2 f pc a b d c L st σ = some q) : ∃ x y r, st = .int y :: .int x :: r ∧ q = (if f x y = true then a else pc + 3, L, r, σ.1, σ.2.1) := by
  unfold jx_br2 at h
  split at h
  · cases h; exact ⟨_, _, _, rfl, rfl⟩
  · cases h
end JI
theorem js_0 : jx_Snd 0 := by
  intro X y R Z k n pc a b d c L st σ q hfr hlo hk0 hn0 hd hc h g
  have hq := Option.some.inj h
  subst hq
  intro p e s m args below meth cc H locs ls V P S hl hz
  exact lv_iconst V.1 V.2.1 hd (of_decide_eq_true (p := Int32.ofInt c.toInt = c) hc) (g p e s m args below meth cc H locs ls V P S hl hz)
theorem js_1 : jx_Snd 1 := by
  intro X y R Z k n pc a b d c L st σ q hfr hlo hk0 hn0 hd hc h g
  have hq := Option.some.inj h
  subst hq
  intro p e s m args below meth cc H locs ls V P S hl hz
  exact lv_bipush V.1 V.2.1 hd (of_decide_eq_true (p := (Int8.ofInt c.toInt).toInt32 = c) hc) (g p e s m args below meth cc H locs ls V P S hl hz)
theorem js_2 : jx_Snd 2 := by
  intro X y R Z k n pc a b d c L st σ q hfr hlo hk0 hn0 hd hc h g
  have hq := Option.some.inj h
  subst hq
  intro p e s m args below meth cc H locs ls V P S hl hz
  exact lv_sipush V.1 V.2.1 hd (of_decide_eq_true (p := (Int16.ofInt c.toInt).toInt32 = c) hc) (g p e s m args below meth cc H locs ls V P S hl hz)
theorem js_5 : jx_Snd 5 := by
  intro X y R Z k n pc a b d c L st σ q hfr hlo hk0 hn0 hd hc h g
  obtain ⟨x, hx, rfl⟩ := ji_ild (a := a) (b := b) (d := d) (c := c) (len := 1) h
  intro p e s m args below meth cc H locs ls V P S hl hz
  exact lv_iload_n V.1 V.2.1 hd (of_decide_eq_true (p := a % 4 = a) hc) (hl.2.2.2 a _ hx).1 (g p e s m args below meth cc H locs ls V P S hl hz)
theorem js_6 : jx_Snd 6 := by
  intro X y R Z k n pc a b d c L st σ q hfr hlo hk0 hn0 hd hc h g
  obtain ⟨x, hx, rfl⟩ := ji_ild (a := a) (b := b) (d := d) (c := c) (len := 2) h
  intro p e s m args below meth cc H locs ls V P S hl hz
  exact lv_iload V.1 V.2.1 hd (hl.2.2.2 a _ hx).1 (g p e s m args below meth cc H locs ls V P S hl hz)
theorem js_7 : jx_Snd 7 := by
  intro X y R Z k n pc a b d c L st σ q hfr hlo hk0 hn0 hd hc h g
  obtain ⟨x, hx, rfl⟩ := ji_ald (a := a) (b := b) (d := d) (c := c) (len := 1) h
  intro p e s m args below meth cc H locs ls V P S hl hz
  exact lv_aload_n V.1 V.2.1 hd (of_decide_eq_true (p := a % 4 = a) hc) (hl.2.2.2 a _ hx).1 (g p e s m args below meth cc H locs ls V P S hl hz)
theorem js_8 : jx_Snd 8 := by
  intro X y R Z k n pc a b d c L st σ q hfr hlo hk0 hn0 hd hc h g
  obtain ⟨x, hx, rfl⟩ := ji_ald (a := a) (b := b) (d := d) (c := c) (len := 2) h
  intro p e s m args below meth cc H locs ls V P S hl hz
  exact lv_aload V.1 V.2.1 hd (hl.2.2.2 a _ hx).1 (g p e s m args below meth cc H locs ls V P S hl hz)
theorem js_9 : jx_Snd 9 := by
  intro X y R Z k n pc a b d c L st σ q hfr hlo hk0 hn0 hd hc h g
  obtain ⟨x, r, rfl, ha, rfl⟩ := ji_ist (a := a) (b := b) (d := d) (c := c) (len := 1) h
  intro p e s m args below meth cc H locs ls V P S hl hz
  exact lv_istore_n V.1 V.2.1 hd (of_decide_eq_true (p := a % 4 = a) hc) hl.has (by rw [← hl.2.2.1]; exact ha) rfl (fun ls' h' => g p e s m args below meth cc H locs ls' V P S (hl.set (v := .int x) rfl h') hz)
theorem js_10 : jx_Snd 10 := by
  intro X y R Z k n pc a b d c L st σ q hfr hlo hk0 hn0 hd hc h g
  obtain ⟨x, r, rfl, ha, rfl⟩ := ji_ist (a := a) (b := b) (d := d) (c := c) (len := 2) h
  intro p e s m args below meth cc H locs ls V P S hl hz
  exact lv_istore V.1 V.2.1 hd hl.has (by rw [← hl.2.2.1]; exact ha) rfl (fun ls' h' => g p e s m args below meth cc H locs ls' V P S (hl.set (v := .int x) rfl h') hz)
theorem js_11 : jx_Snd 11 := by
  intro X y R Z k n pc a b d c L st σ q hfr hlo hk0 hn0 hd hc h g
  obtain ⟨x, r, rfl, ha, rfl⟩ := ji_ast (a := a) (b := b) (d := d) (c := c) (len := 1) h
  intro p e s m args below meth cc H locs ls V P S hl hz
  exact lv_astore_n V.1 V.2.1 hd (of_decide_eq_true (p := a % 4 = a) hc) hl.has (by rw [← hl.2.2.1]; exact ha) rfl (fun ls' h' => g p e s m args below meth cc H locs ls' V P S (hl.set (v := .ref x) rfl h') hz)
theorem js_12 : jx_Snd 12 := by
  intro X y R Z k n pc a b d c L st σ q hfr hlo hk0 hn0 hd hc h g
  obtain ⟨x, r, rfl, ha, rfl⟩ := ji_ast (a := a) (b := b) (d := d) (c := c) (len := 2) h
  intro p e s m args below meth cc H locs ls V P S hl hz
  exact lv_astore V.1 V.2.1 hd hl.has (by rw [← hl.2.2.1]; exact ha) rfl (fun ls' h' => g p e s m args below meth cc H locs ls' V P S (hl.set (v := .ref x) rfl h') hz)
theorem js_13 : jx_Snd 13 := by
  intro X y R Z k n pc a b d c L st σ q hfr hlo hk0 hn0 hd hc h g
  obtain ⟨x, hx, rfl⟩ := ji_inc (a := a) (b := b) (d := d) (c := c) h
  intro p e s m args below meth cc H locs ls V P S hl hz
  have hm := jj_lv_mem (X := X) hx
  obtain ⟨kk, hk⟩ := List.getElem?_of_mem hm
  have ha : a < jt_L y := by rw [← hl.2.2.1]; exact (List.getElem?_eq_some_iff.mp hx).1
  exact lv_iinc (x := x) (v := x + c) V.1 V.2.1 hd hl.has hk (by rw [of_decide_eq_true (p := Int32.ofInt c.toInt = c) hc]) ha rfl (fun ls' h' => g p e s m args below meth cc H locs ls' V P S (hl.set (v := .int (x + c)) rfl h') hz)
theorem js_14 : jx_Snd 14 := by
  intro X y R Z k n pc a b d c L st σ q hfr hlo hk0 hn0 hd hc h g
  obtain ⟨x, v, r, rfl, rfl⟩ := ji_bin (a := a) (b := b) (d := d) (c := c) (f := fun x y => x + y) h
  intro p e s m args below meth cc H locs ls V P S hl hz
  exact lv_iadd V.1 V.2.1 hd (g p e s m args below meth cc H locs ls V P S hl hz)
theorem js_15 : jx_Snd 15 := by
  intro X y R Z k n pc a b d c L st σ q hfr hlo hk0 hn0 hd hc h g
  obtain ⟨x, v, r, rfl, rfl⟩ := ji_bin (a := a) (b := b) (d := d) (c := c) (f := fun x y => x - y) h
  intro p e s m args below meth cc H locs ls V P S hl hz
  exact lv_isub V.1 V.2.1 hd (g p e s m args below meth cc H locs ls V P S hl hz)
theorem js_16 : jx_Snd 16 := by
  intro X y R Z k n pc a b d c L st σ q hfr hlo hk0 hn0 hd hc h g
  obtain ⟨x, v, r, rfl, rfl⟩ := ji_bin (a := a) (b := b) (d := d) (c := c) (f := fun x y => x * y) h
  intro p e s m args below meth cc H locs ls V P S hl hz
  exact lv_imul V.1 V.2.1 hd (g p e s m args below meth cc H locs ls V P S hl hz)
theorem js_17 : jx_Snd 17 := by
  intro X y R Z k n pc a b d c L st σ q hfr hlo hk0 hn0 hd hc h g
  obtain ⟨x, v, r, rfl, rfl⟩ := ji_bin (a := a) (b := b) (d := d) (c := c) (f := fun x y => x &&& y) h
  intro p e s m args below meth cc H locs ls V P S hl hz
  exact lv_iand V.1 V.2.1 hd (g p e s m args below meth cc H locs ls V P S hl hz)
theorem js_18 : jx_Snd 18 := by
  intro X y R Z k n pc a b d c L st σ q hfr hlo hk0 hn0 hd hc h g
  obtain ⟨x, v, r, rfl, rfl⟩ := ji_bin (a := a) (b := b) (d := d) (c := c) (f := fun x y => x ||| y) h
  intro p e s m args below meth cc H locs ls V P S hl hz
  exact lv_ior V.1 V.2.1 hd (g p e s m args below meth cc H locs ls V P S hl hz)
theorem js_19 : jx_Snd 19 := by
  intro X y R Z k n pc a b d c L st σ q hfr hlo hk0 hn0 hd hc h g
  obtain ⟨x, v, r, rfl, rfl⟩ := ji_bin (a := a) (b := b) (d := d) (c := c) (f := fun x y => x ^^^ y) h
  intro p e s m args below meth cc H locs ls V P S hl hz
  exact lv_ixor V.1 V.2.1 hd (g p e s m args below meth cc H locs ls V P S hl hz)
theorem js_20 : jx_Snd 20 := by
  intro X y R Z k n pc a b d c L st σ q hfr hlo hk0 hn0 hd hc h g
  obtain ⟨x, v, r, rfl, rfl⟩ := ji_bin (a := a) (b := b) (d := d) (c := c) (f := fun x y => x <<< (y &&& 31)) h
  intro p e s m args below meth cc H locs ls V P S hl hz
  exact lv_ishl V.1 V.2.1 hd (g p e s m args below meth cc H locs ls V P S hl hz)
theorem js_21 : jx_Snd 21 := by
  intro X y R Z k n pc a b d c L st σ q hfr hlo hk0 hn0 hd hc h g
  obtain ⟨x, v, r, rfl, rfl⟩ := ji_bin (a := a) (b := b) (d := d) (c := c) (f := fun x y => x >>> (y &&& 31)) h
  intro p e s m args below meth cc H locs ls V P S hl hz
  exact lv_ishr V.1 V.2.1 hd (g p e s m args below meth cc H locs ls V P S hl hz)
theorem js_22 : jx_Snd 22 := by
  intro X y R Z k n pc a b d c L st σ q hfr hlo hk0 hn0 hd hc h g
  obtain ⟨x, v, r, rfl, rfl⟩ := ji_bin (a := a) (b := b) (d := d) (c := c) (f := fun x y => (x.toUInt32 >>> (y.toUInt32 &&& Int32.toUInt32 31)).toInt32) h
  intro p e s m args below meth cc H locs ls V P S hl hz
  exact lv_iushr V.1 V.2.1 hd rfl (g p e s m args below meth cc H locs ls V P S hl hz)
theorem js_23 : jx_Snd 23 := by
  intro X y R Z k n pc a b d c L st σ q hfr hlo hk0 hn0 hd hc h g
  obtain ⟨x, r, rfl, rfl⟩ := ji_un (a := a) (b := b) (d := d) (c := c) (f := fun x => -x) h
  intro p e s m args below meth cc H locs ls V P S hl hz
  exact lv_ineg V.1 V.2.1 hd (g p e s m args below meth cc H locs ls V P S hl hz)
theorem js_24 : jx_Snd 24 := by
  intro X y R Z k n pc a b d c L st σ q hfr hlo hk0 hn0 hd hc h g
  obtain ⟨x, r, rfl, rfl⟩ := ji_un (a := a) (b := b) (d := d) (c := c) (f := fun x => x.toInt8.toInt32) h
  intro p e s m args below meth cc H locs ls V P S hl hz
  exact lv_i2b V.1 V.2.1 hd rfl (g p e s m args below meth cc H locs ls V P S hl hz)
theorem js_25 : jx_Snd 25 := by
  intro X y R Z k n pc a b d c L st σ q hfr hlo hk0 hn0 hd hc h g
  obtain ⟨x, r, rfl, rfl⟩ := ji_un (a := a) (b := b) (d := d) (c := c) (f := fun x => (x.toUInt32 % 65536).toInt32) h
  intro p e s m args below meth cc H locs ls V P S hl hz
  exact lv_i2c V.1 V.2.1 hd rfl (g p e s m args below meth cc H locs ls V P S hl hz)
theorem js_26 : jx_Snd 26 := by
  intro X y R Z k n pc a b d c L st σ q hfr hlo hk0 hn0 hd hc h g
  obtain ⟨v, r, rfl, hv, rfl⟩ := ji_dup (a := a) (b := b) (d := d) (c := c) h
  intro p e s m args below meth cc H locs ls V P S hl hz
  exact lv_dup V.1 V.2.1 hd ((jj_cv_cat v).trans hv) (g p e s m args below meth cc H locs ls V P S hl hz)
theorem js_27 : jx_Snd 27 := by
  intro X y R Z k n pc a b d c L st σ q hfr hlo hk0 hn0 hd hc h g
  obtain ⟨v, r, rfl, hv, rfl⟩ := ji_pop (a := a) (b := b) (d := d) (c := c) h
  intro p e s m args below meth cc H locs ls V P S hl hz
  exact lv_pop V.1 V.2.1 hd ((jj_cv_cat v).trans hv) (g p e s m args below meth cc H locs ls V P S hl hz)
theorem js_28 : jx_Snd 28 := by
  intro X y R Z k n pc a b d c L st σ q hfr hlo hk0 hn0 hd hc h g
  obtain ⟨v, w, r, rfl, hv, rfl⟩ := ji_dpx (a := a) (b := b) (d := d) (c := c) h
  intro p e s m args below meth cc H locs ls V P S hl hz
  exact lv_dup_x1 V.1 V.2.1 hd ((jj_cv_cat v).trans hv.1) ((jj_cv_cat w).trans hv.2) (g p e s m args below meth cc H locs ls V P S hl hz)
theorem js_29 : jx_Snd 29 := by
  intro X y R Z k n pc a b d c L st σ q hfr hlo hk0 hn0 hd hc h g
  obtain ⟨v, w, r, rfl, hv, rfl⟩ := ji_dp2 (a := a) (b := b) (d := d) (c := c) h
  intro p e s m args below meth cc H locs ls V P S hl hz
  exact lv_dup2_11 V.1 V.2.1 hd ((jj_cv_cat v).trans hv.1) ((jj_cv_cat w).trans hv.2) (g p e s m args below meth cc H locs ls V P S hl hz)
theorem js_30 : jx_Snd 30 := by
  intro X y R Z k n pc a b d c L st σ q hfr hlo hk0 hn0 hd hc h g
  obtain ⟨x, r, rfl, rfl⟩ := ji_br1 (a := a) (b := b) (d := d) (c := c) (f := fun x => decide (x = 0)) h
  have gt : x = 0 → jj_G X y R Z a L r k n σ := fun h0 => by
    have g2 : jj_G X y R Z (if decide (x = 0) = true then a else pc + 3) L r k n σ := g
    rw [if_pos (decide_eq_true h0)] at g2
    exact g2
  have gf : ¬ (x = 0) → jj_G X y R Z (pc + 3) L r k n σ := fun h0 => by
    have g2 : jj_G X y R Z (if decide (x = 0) = true then a else pc + 3) L r k n σ := g
    rw [if_neg (fun h1 => h0 (of_decide_eq_true h1))] at g2
    exact g2
  intro p e s m args below meth cc H locs ls V P S hl hz
  exact lv_if_eq V.1 V.2.1 hd (show (pc : Int) + ((a : Int) - (pc : Int)) = (a : Int) by omega) (fun h0 => gt h0 p e s m args below meth cc H locs ls V P S hl hz) (fun h0 => (gf) h0 p e s m args below meth cc H locs ls V P S hl hz)
theorem js_36 : jx_Snd 36 := by
  intro X y R Z k n pc a b d c L st σ q hfr hlo hk0 hn0 hd hc h g
  obtain ⟨x, v, r, rfl, rfl⟩ := ji_br2 (a := a) (b := b) (d := d) (c := c) (f := fun x y => decide (x = y)) h
  have gt : x = v → jj_G X y R Z a L r k n σ := fun h0 => by
    have g2 : jj_G X y R Z (if decide (x = v) = true then a else pc + 3) L r k n σ := g
    rw [if_pos (decide_eq_true h0)] at g2
    exact g2
  have gf : ¬ (x = v) → jj_G X y R Z (pc + 3) L r k n σ := fun h0 => by
    have g2 : jj_G X y R Z (if decide (x = v) = true then a else pc + 3) L r k n σ := g
    rw [if_neg (fun h1 => h0 (of_decide_eq_true h1))] at g2
    exact g2
  intro p e s m args below meth cc H locs ls V P S hl hz
  exact lv_icmp_eq V.1 V.2.1 hd (show (pc : Int) + ((a : Int) - (pc : Int)) = (a : Int) by omega) (fun h0 => gt h0 p e s m args below meth cc H locs ls V P S hl hz) (fun h0 => (gf) h0 p e s m args below meth cc H locs ls V P S hl hz)
theorem js_31 : jx_Snd 31 := by
  intro X y R Z k n pc a b d c L st σ q hfr hlo hk0 hn0 hd hc h g
  obtain ⟨x, r, rfl, rfl⟩ := ji_br1 (a := a) (b := b) (d := d) (c := c) (f := fun x => decide (¬ x = 0)) h
  have gt : ¬ x = 0 → jj_G X y R Z a L r k n σ := fun h0 => by
    have g2 : jj_G X y R Z (if decide (¬ x = 0) = true then a else pc + 3) L r k n σ := g
    rw [if_pos (decide_eq_true h0)] at g2
    exact g2
  have gf : ¬ (¬ x = 0) → jj_G X y R Z (pc + 3) L r k n σ := fun h0 => by
    have g2 : jj_G X y R Z (if decide (¬ x = 0) = true then a else pc + 3) L r k n σ := g
    rw [if_neg (fun h1 => h0 (of_decide_eq_true h1))] at g2
    exact g2
  intro p e s m args below meth cc H locs ls V P S hl hz
  exact lv_if_ne V.1 V.2.1 hd (show (pc : Int) + ((a : Int) - (pc : Int)) = (a : Int) by omega) (fun h0 => gt h0 p e s m args below meth cc H locs ls V P S hl hz) (fun h0 => (fun h0 => gf (fun h1 => h1 h0)) h0 p e s m args below meth cc H locs ls V P S hl hz)
theorem js_37 : jx_Snd 37 := by
  intro X y R Z k n pc a b d c L st σ q hfr hlo hk0 hn0 hd hc h g
  obtain ⟨x, v, r, rfl, rfl⟩ := ji_br2 (a := a) (b := b) (d := d) (c := c) (f := fun x y => decide (¬ x = y)) h
  have gt : ¬ x = v → jj_G X y R Z a L r k n σ := fun h0 => by
    have g2 : jj_G X y R Z (if decide (¬ x = v) = true then a else pc + 3) L r k n σ := g
    rw [if_pos (decide_eq_true h0)] at g2
    exact g2
  have gf : ¬ (¬ x = v) → jj_G X y R Z (pc + 3) L r k n σ := fun h0 => by
    have g2 : jj_G X y R Z (if decide (¬ x = v) = true then a else pc + 3) L r k n σ := g
    rw [if_neg (fun h1 => h0 (of_decide_eq_true h1))] at g2
    exact g2
  intro p e s m args below meth cc H locs ls V P S hl hz
  exact lv_icmp_ne V.1 V.2.1 hd (show (pc : Int) + ((a : Int) - (pc : Int)) = (a : Int) by omega) (fun h0 => gt h0 p e s m args below meth cc H locs ls V P S hl hz) (fun h0 => (fun h0 => gf (fun h1 => h1 h0)) h0 p e s m args below meth cc H locs ls V P S hl hz)
theorem js_32 : jx_Snd 32 := by
  intro X y R Z k n pc a b d c L st σ q hfr hlo hk0 hn0 hd hc h g
  obtain ⟨x, r, rfl, rfl⟩ := ji_br1 (a := a) (b := b) (d := d) (c := c) (f := fun x => decide (x < 0)) h
  have gt : x < 0 → jj_G X y R Z a L r k n σ := fun h0 => by
    have g2 : jj_G X y R Z (if decide (x < 0) = true then a else pc + 3) L r k n σ := g
    rw [if_pos (decide_eq_true h0)] at g2
    exact g2
  have gf : ¬ (x < 0) → jj_G X y R Z (pc + 3) L r k n σ := fun h0 => by
    have g2 : jj_G X y R Z (if decide (x < 0) = true then a else pc + 3) L r k n σ := g
    rw [if_neg (fun h1 => h0 (of_decide_eq_true h1))] at g2
    exact g2
  intro p e s m args below meth cc H locs ls V P S hl hz
  exact lv_if_lt V.1 V.2.1 hd (show (pc : Int) + ((a : Int) - (pc : Int)) = (a : Int) by omega) (fun h0 => gt h0 p e s m args below meth cc H locs ls V P S hl hz) (fun h0 => (gf) h0 p e s m args below meth cc H locs ls V P S hl hz)
theorem js_38 : jx_Snd 38 := by
  intro X y R Z k n pc a b d c L st σ q hfr hlo hk0 hn0 hd hc h g
  obtain ⟨x, v, r, rfl, rfl⟩ := ji_br2 (a := a) (b := b) (d := d) (c := c) (f := fun x y => decide (x < y)) h
  have gt : x < v → jj_G X y R Z a L r k n σ := fun h0 => by
    have g2 : jj_G X y R Z (if decide (x < v) = true then a else pc + 3) L r k n σ := g
    rw [if_pos (decide_eq_true h0)] at g2
    exact g2
  have gf : ¬ (x < v) → jj_G X y R Z (pc + 3) L r k n σ := fun h0 => by
    have g2 : jj_G X y R Z (if decide (x < v) = true then a else pc + 3) L r k n σ := g
    rw [if_neg (fun h1 => h0 (of_decide_eq_true h1))] at g2
    exact g2
  intro p e s m args below meth cc H locs ls V P S hl hz
  exact lv_icmp_lt V.1 V.2.1 hd (show (pc : Int) + ((a : Int) - (pc : Int)) = (a : Int) by omega) (fun h0 => gt h0 p e s m args below meth cc H locs ls V P S hl hz) (fun h0 => (gf) h0 p e s m args below meth cc H locs ls V P S hl hz)
theorem js_33 : jx_Snd 33 := by
  intro X y R Z k n pc a b d c L st σ q hfr hlo hk0 hn0 hd hc h g
  obtain ⟨x, r, rfl, rfl⟩ := ji_br1 (a := a) (b := b) (d := d) (c := c) (f := fun x => decide (0 ≤ x)) h
  have gt : 0 ≤ x → jj_G X y R Z a L r k n σ := fun h0 => by
    have g2 : jj_G X y R Z (if decide (0 ≤ x) = true then a else pc + 3) L r k n σ := g
    rw [if_pos (decide_eq_true h0)] at g2
    exact g2
  have gf : ¬ (0 ≤ x) → jj_G X y R Z (pc + 3) L r k n σ := fun h0 => by
    have g2 : jj_G X y R Z (if decide (0 ≤ x) = true then a else pc + 3) L r k n σ := g
    rw [if_neg (fun h1 => h0 (of_decide_eq_true h1))] at g2
    exact g2
  intro p e s m args below meth cc H locs ls V P S hl hz
  exact lv_if_ge V.1 V.2.1 hd (show (pc : Int) + ((a : Int) - (pc : Int)) = (a : Int) by omega) (fun h0 => gt h0 p e s m args below meth cc H locs ls V P S hl hz) (fun h0 => (gf) h0 p e s m args below meth cc H locs ls V P S hl hz)
theorem js_39 : jx_Snd 39 := by
  intro X y R Z k n pc a b d c L st σ q hfr hlo hk0 hn0 hd hc h g
  obtain ⟨x, v, r, rfl, rfl⟩ := ji_br2 (a := a) (b := b) (d := d) (c := c) (f := fun x y => decide (y ≤ x)) h
  have gt : v ≤ x → jj_G X y R Z a L r k n σ := fun h0 => by
    have g2 : jj_G X y R Z (if decide (v ≤ x) = true then a else pc + 3) L r k n σ := g
    rw [if_pos (decide_eq_true h0)] at g2
    exact g2
  have gf : ¬ (v ≤ x) → jj_G X y R Z (pc + 3) L r k n σ := fun h0 => by
    have g2 : jj_G X y R Z (if decide (v ≤ x) = true then a else pc + 3) L r k n σ := g
    rw [if_neg (fun h1 => h0 (of_decide_eq_true h1))] at g2
    exact g2
  intro p e s m args below meth cc H locs ls V P S hl hz
  exact lv_icmp_ge V.1 V.2.1 hd (show (pc : Int) + ((a : Int) - (pc : Int)) = (a : Int) by omega) (fun h0 => gt h0 p e s m args below meth cc H locs ls V P S hl hz) (fun h0 => (gf) h0 p e s m args below meth cc H locs ls V P S hl hz)
theorem js_34 : jx_Snd 34 := by
  intro X y R Z k n pc a b d c L st σ q hfr hlo hk0 hn0 hd hc h g
  obtain ⟨x, r, rfl, rfl⟩ := ji_br1 (a := a) (b := b) (d := d) (c := c) (f := fun x => decide (0 < x)) h
  have gt : 0 < x → jj_G X y R Z a L r k n σ := fun h0 => by
    have g2 : jj_G X y R Z (if decide (0 < x) = true then a else pc + 3) L r k n σ := g
    rw [if_pos (decide_eq_true h0)] at g2
    exact g2
  have gf : ¬ (0 < x) → jj_G X y R Z (pc + 3) L r k n σ := fun h0 => by
    have g2 : jj_G X y R Z (if decide (0 < x) = true then a else pc + 3) L r k n σ := g
    rw [if_neg (fun h1 => h0 (of_decide_eq_true h1))] at g2
    exact g2
  intro p e s m args below meth cc H locs ls V P S hl hz
  exact lv_if_gt V.1 V.2.1 hd (show (pc : Int) + ((a : Int) - (pc : Int)) = (a : Int) by omega) (fun h0 => gt h0 p e s m args below meth cc H locs ls V P S hl hz) (fun h0 => (gf) h0 p e s m args below meth cc H locs ls V P S hl hz)
theorem js_40 : jx_Snd 40 := by
  intro X y R Z k n pc a b d c L st σ q hfr hlo hk0 hn0 hd hc h g
  obtain ⟨x, v, r, rfl, rfl⟩ := ji_br2 (a := a) (b := b) (d := d) (c := c) (f := fun x y => decide (y < x)) h
  have gt : v < x → jj_G X y R Z a L r k n σ := fun h0 => by
    have g2 : jj_G X y R Z (if decide (v < x) = true then a else pc + 3) L r k n σ := g
    rw [if_pos (decide_eq_true h0)] at g2
    exact g2
  have gf : ¬ (v < x) → jj_G X y R Z (pc + 3) L r k n σ := fun h0 => by
    have g2 : jj_G X y R Z (if decide (v < x) = true then a else pc + 3) L r k n σ := g
    rw [if_neg (fun h1 => h0 (of_decide_eq_true h1))] at g2
    exact g2
  intro p e s m args below meth cc H locs ls V P S hl hz
  exact lv_icmp_gt V.1 V.2.1 hd (show (pc : Int) + ((a : Int) - (pc : Int)) = (a : Int) by omega) (fun h0 => gt h0 p e s m args below meth cc H locs ls V P S hl hz) (fun h0 => (gf) h0 p e s m args below meth cc H locs ls V P S hl hz)
theorem js_35 : jx_Snd 35 := by
  intro X y R Z k n pc a b d c L st σ q hfr hlo hk0 hn0 hd hc h g
  obtain ⟨x, r, rfl, rfl⟩ := ji_br1 (a := a) (b := b) (d := d) (c := c) (f := fun x => decide (x ≤ 0)) h
  have gt : x ≤ 0 → jj_G X y R Z a L r k n σ := fun h0 => by
    have g2 : jj_G X y R Z (if decide (x ≤ 0) = true then a else pc + 3) L r k n σ := g
    rw [if_pos (decide_eq_true h0)] at g2
    exact g2
  have gf : ¬ (x ≤ 0) → jj_G X y R Z (pc + 3) L r k n σ := fun h0 => by
    have g2 : jj_G X y R Z (if decide (x ≤ 0) = true then a else pc + 3) L r k n σ := g
    rw [if_neg (fun h1 => h0 (of_decide_eq_true h1))] at g2
    exact g2
  intro p e s m args below meth cc H locs ls V P S hl hz
  exact lv_if_le V.1 V.2.1 hd (show (pc : Int) + ((a : Int) - (pc : Int)) = (a : Int) by omega) (fun h0 => gt h0 p e s m args below meth cc H locs ls V P S hl hz) (fun h0 => (gf) h0 p e s m args below meth cc H locs ls V P S hl hz)
theorem js_41 : jx_Snd 41 := by
  intro X y R Z k n pc a b d c L st σ q hfr hlo hk0 hn0 hd hc h g
  obtain ⟨x, v, r, rfl, rfl⟩ := ji_br2 (a := a) (b := b) (d := d) (c := c) (f := fun x y => decide (x ≤ y)) h
  have gt : x ≤ v → jj_G X y R Z a L r k n σ := fun h0 => by
    have g2 : jj_G X y R Z (if decide (x ≤ v) = true then a else pc + 3) L r k n σ := g
    rw [if_pos (decide_eq_true h0)] at g2
    exact g2
  have gf : ¬ (x ≤ v) → jj_G X y R Z (pc + 3) L r k n σ := fun h0 => by
    have g2 : jj_G X y R Z (if decide (x ≤ v) = true then a else pc + 3) L r k n σ := g
    rw [if_neg (fun h1 => h0 (of_decide_eq_true h1))] at g2
    exact g2
  intro p e s m args below meth cc H locs ls V P S hl hz
  exact lv_icmp_le V.1 V.2.1 hd (show (pc : Int) + ((a : Int) - (pc : Int)) = (a : Int) by omega) (fun h0 => gt h0 p e s m args below meth cc H locs ls V P S hl hz) (fun h0 => (gf) h0 p e s m args below meth cc H locs ls V P S hl hz)
theorem js_42 : jx_Snd 42 := by
  intro X y R Z k n pc a b d c L st σ q hfr hlo hk0 hn0 hd hc h g
  have hq := Option.some.inj h
  subst hq
  intro p e s m args below meth cc H locs ls V P S hl hz
  exact lv_goto V.1 V.2.1 hd (by omega) (g p e s m args below meth cc H locs ls V P S hl hz)
