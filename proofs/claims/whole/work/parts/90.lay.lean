/-! The class lays the new text. -/
def tS (m : zM) (R : List Int32) : Prop := m 1 1 = nI R.length ∧ li m 2 R
def frX (m M : zM) : Prop := ∀ a b, ¬ (a = 1 ∧ b = 1) → a ≠ 2 → M a b = m a b
theorem frX_refl (m : zM) : frX m m := fun _ _ _ _ => rfl
theorem frX_trans {m M N : zM} (h1 : frX m M) (h2 : frX M N) : frX m N := fun a b q1 q2 => (h2 a b q1 q2).trans (h1 a b q1 q2)
theorem h_app {xs : jx_Xs} {m : zM} {Q : Option Value → zM → Prop} {v : Int32} {R : List Int32} (hv : isC v) (hl : R.length < 160) (h : tS m R) (g : ∀ M, tS M (R ++ [v]) → frX m M → Q (some (.int 1)) M) : ez xs 13 0 (jx_ent 13 [.ref 1, .int v]) [] m Q := by
  obtain ⟨q, q1, q2, rfl⟩ := hv
  have a1 : ¬ 160 ≤ m 1 1 := by rw [h.1]; exact fun z => absurd ((nI_leI (a := 160) (by omega) (by omega)).mp z) (by omega)
  have a2 : ¬ nI q < 32 := fun z => absurd ((nI_ltI (b := 32) (by omega) (by omega)).mp z) (by omega)
  have a3 : nI q ≤ 126 := (nI_leI (b := 126) (by omega) (by omega)).mpr q2
  refine c_Source_append (fun _ _ _ => ?_) (fun z => absurd z a1) (fun _ z => absurd z a2) (fun _ _ _ => ?_) (fun _ _ z => absurd a3 z)
  · rw [h.1]; exact vp_in_nI hl (by omega)
  rw [h.1, nI_clamp (by omega), nar_char q2, nI_1]
  refine g _ ⟨?_, li_snoc (m := m) h.2 ?_ (fun i hi => ?_)⟩ (fun a b z1 z2 => ?_)
  · rw [up_eq, List.length_append]; rfl
  · rw [up_ne (by omega), up_eq]
  · rw [up_ne (by omega), up_k (by omega)]
  · rw [up_ne2 z1, up_ne z2]
theorem h_copyOld {xs : jx_Xs} {m : zM} {Q : Option Value → zM → Prop} {N a b : Nat} {tx : Nat → Int32} {R : List Int32} (hN : N ≤ 160) (hab : b ≤ N) (hto : ∀ i, i < N → m 130 i = tx i) (ht : ∀ i, i < N → isC (tx i)) (hl : R.length + (b - a) ≤ 160) (h : tS m R) (ha : a ≤ 1000) (g : ∀ M, tS M (R ++ sl tx a (b - a)) → frX m M → Q none M) : ez xs 168 0 (jx_ent 168 [.ref 129, .ref 1, .int (nI a), .int (nI b)]) [] m Q := by
  refine ez_blk 4 rfl ?_
  show ez xs 168 7 [some (.ref 129), some (.ref 1), some (.int (nI a)), some (.int (nI b)), some (.int (if nI a < 0 then 0 else nI a))] [] m Q
  rw [if_neg (nI_pos (by omega))]
  have loop : ∀ (r k : Nat) (M : zM), k + r = b - a → tS M (R ++ sl tx a k) → frX m M → ez xs 168 7 [some (.ref 129), some (.ref 1), some (.int (nI a)), some (.int (nI b)), some (.int (nI (a + k)))] [] M Q := by
    intro r
    induction r with
    | zero =>
      intro k M hk hM hF
      refine ez_blk 2 rfl ?_
      show ez xs 168 10 [some (.ref 129), some (.ref 1), some (.int (nI a)), some (.int (nI b)), some (.int (nI (a + k)))] [.int (nI b), .int (nI (a + k))] M Q
      refine ez_icmp_ge rfl (fun _ => ?_) (fun z => absurd (nI_le (by omega) (by omega)) z)
      rw [show k = b - a by omega] at hM
      exact ez_ret rfl (by decide) rfl (g M hM hF)
    | succ r ih =>
      intro k M hk hM hF
      refine ez_blk 2 rfl ?_
      show ez xs 168 10 [some (.ref 129), some (.ref 1), some (.int (nI a)), some (.int (nI b)), some (.int (nI (a + k)))] [.int (nI b), .int (nI (a + k))] M Q
      refine ez_icmp_ge rfl (fun z => absurd z (nI_ge (by omega) (by omega))) (fun _ => ?_)
      show ez xs 168 13 [some (.ref 129), some (.ref 1), some (.int (nI a)), some (.int (nI b)), some (.int (nI (a + k)))] [] M Q
      refine ez_blk 2 rfl ?_
      show ez xs 168 18 [some (.ref 129), some (.ref 1), some (.int (nI a)), some (.int (nI b)), some (.int (nI (a + k)))] [.int (nI 160), .int (nI (a + k))] M Q
      refine ez_icmp_ge rfl (fun z => absurd z (nI_ge (by omega) (by omega))) (fun _ => ?_)
      show ez xs 168 21 [some (.ref 129), some (.ref 1), some (.int (nI a)), some (.int (nI b)), some (.int (nI (a + k)))] [] M Q
      refine ez_blk 4 rfl ?_
      show ez xs 168 28 [some (.ref 129), some (.ref 1), some (.int (nI a)), some (.int (nI b)), some (.int (nI (a + k)))] [.int (nI (a + k)), .ref 130, .ref 1] M Q
      refine ez_cald (n := 160) rfl (by decide) rfl (by omega) (by omega) ?_
      rw [hF 130 (a + k) (by omega) (by omega), hto (a + k) (by omega)]
      show ez xs 168 29 [some (.ref 129), some (.ref 1), some (.int (nI a)), some (.int (nI b)), some (.int (nI (a + k)))] [.int (tx (a + k)), .ref 1] M Q
      refine ez_call (as := [.ref 1, .int (tx (a + k))]) (rest := []) rfl (by decide) rfl ?_
      refine h_app (ht (a + k) (by omega)) (by rw [List.length_append, sl_len]; omega) hM (fun M2 h2 f2 => ?_)
      refine ez_blk (pc' := 7) 3 rfl ?_
      show ez xs 168 7 [some (.ref 129), some (.ref 1), some (.int (nI a)), some (.int (nI b)), some (.int (nI (a + k) + 1))] [] M2 Q
      rw [nI_1]
      refine ih (k + 1) M2 (by omega) ?_ (frX_trans hF f2)
      rw [sl, ← List.append_assoc]
      exact h2
  refine loop (b - a) 0 m (by omega) ?_ (frX_refl m)
  rw [sl, List.append_nil]
  exact h
theorem h_copyNew {xs : jx_Xs} {m : zM} {Q : Option Value → zM → Prop} {n : Nat} {R w : List Int32} (hn : n < 24) (h1 : m (81 + 2 * n) 1 = nI w.length) (h2 : li m (82 + 2 * n) w) (hw : w.length ≤ 10) (hc : ∀ v, v ∈ w → isC v) (hl : R.length + w.length ≤ 160) (h : tS m R) (g : ∀ M, tS M (R ++ w) → frX m M → Q none M) : ez xs 169 0 (jx_ent 169 [.ref 1, .ref (81 + 2 * n)]) [] m Q := by
  refine ez_blk 2 rfl ?_
  have loop : ∀ (r k : Nat) (M : zM), k + r = w.length → tS M (R ++ w.take k) → frX m M → ez xs 169 2 [some (.ref 1), some (.ref (81 + 2 * n)), some (.int (nI k))] [] M Q := by
    intro r
    induction r with
    | zero =>
      intro k M hk hM hF
      refine ez_blk 2 rfl ?_
      show ez xs 169 4 [some (.ref 1), some (.ref (81 + 2 * n)), some (.int (nI k))] [.ref (81 + 2 * n), .int (nI k)] M Q
      refine ez_getN rfl (z_edi hn) (z_eds hn) (by decide) rfl ?_
      rw [hF _ _ (by omega) (by omega), h1]
      refine ez_icmp_ge rfl (fun _ => ?_) (fun z => absurd (nI_le (by omega) (by omega)) z)
      rw [show k = w.length by omega, List.take_length] at hM
      exact ez_ret rfl (by decide) rfl (g M hM hF)
    | succ r ih =>
      intro k M hk hM hF
      refine ez_blk 2 rfl ?_
      show ez xs 169 4 [some (.ref 1), some (.ref (81 + 2 * n)), some (.int (nI k))] [.ref (81 + 2 * n), .int (nI k)] M Q
      refine ez_getN rfl (z_edi hn) (z_eds hn) (by decide) rfl ?_
      rw [hF _ _ (by omega) (by omega), h1]
      refine ez_icmp_ge rfl (fun z => absurd z (nI_ge (by omega) (by omega))) (fun _ => ?_)
      show ez xs 169 10 [some (.ref 1), some (.ref (81 + 2 * n)), some (.int (nI k))] [] M Q
      refine ez_blk 2 rfl ?_
      show ez xs 169 12 [some (.ref 1), some (.ref (81 + 2 * n)), some (.int (nI k))] [.ref (81 + 2 * n), .int (nI k)] M Q
      refine ez_getNr rfl (z_edi hn) (z_eds hn) (by decide) rfl (z_edp hn) ?_
      show ez xs 169 15 [some (.ref 1), some (.ref (81 + 2 * n)), some (.int (nI k))] [.ref (82 + 2 * n), .int (nI k)] M Q
      refine ez_len rfl (z_puti hn) (z_puts hn) (by decide) ?_
      show ez xs 169 16 [some (.ref 1), some (.ref (81 + 2 * n)), some (.int (nI k))] [.int (nI 10), .int (nI k)] M Q
      refine ez_icmp_ge rfl (fun z => absurd z (nI_ge (by omega) (by omega))) (fun _ => ?_)
      show ez xs 169 19 [some (.ref 1), some (.ref (81 + 2 * n)), some (.int (nI k))] [] M Q
      refine ez_blk 2 rfl ?_
      show ez xs 169 21 [some (.ref 1), some (.ref (81 + 2 * n)), some (.int (nI k))] [.ref (81 + 2 * n), .ref 1] M Q
      refine ez_getNr rfl (z_edi hn) (z_eds hn) (by decide) rfl (z_edp hn) ?_
      refine ez_blk (pc' := 25) 1 rfl ?_
      show ez xs 169 25 [some (.ref 1), some (.ref (81 + 2 * n)), some (.int (nI k))] [.int (nI k), .ref (82 + 2 * n), .ref 1] M Q
      refine ez_cald (n := 10) rfl (z_puti hn) (z_puts hn) (by omega) (by omega) ?_
      have wk : w[k]? = some (w[k]'(by omega)) := List.getElem?_eq_getElem (by omega)
      rw [hF _ _ (by omega) (by omega), h2 k _ wk]
      show ez xs 169 26 [some (.ref 1), some (.ref (81 + 2 * n)), some (.int (nI k))] [.int (w[k]'(by omega)), .ref 1] M Q
      refine ez_call (as := [.ref 1, .int (w[k]'(by omega))]) (rest := []) rfl (by decide) rfl ?_
      refine h_app (hc _ (List.mem_of_getElem? wk)) (by rw [List.length_append, List.length_take]; omega) hM (fun M2 h3 f2 => ?_)
      refine ez_blk (pc' := 2) 3 rfl ?_
      show ez xs 169 2 [some (.ref 1), some (.ref (81 + 2 * n)), some (.int (nI k + 1))] [] M2 Q
      rw [nI_1]
      refine ih (k + 1) M2 (by omega) ?_ (frX_trans hF f2)
      rw [List.take_succ, wk, ← List.append_assoc]
      exact h3
  refine loop w.length 0 m (by omega) ?_ (frX_refl m)
  rw [List.take_zero, List.append_nil]
  exact h
/-- what laying the text writes -/
def frY (m M : zM) : Prop := ∀ a b, ¬ (a = 1 ∧ b = 1) → a ≠ 2 → a ≠ 130 → M a b = m a b
theorem h_rewrite {xs : jx_Xs} {S m : zM} {Q : Option Value → zM → Prop} {N c : Nat} {bg en : Nat → Nat} {tx : Nat → Int32} {f : Nat → Option (Nat × Nat)} (hN : N ≤ 160) (hc : c ≤ 24) (h11 : m 1 1 = nI N) (h2 : ∀ i, i < N → m 2 i = tx i) (ht : ∀ i, i < N → isC (tx i)) (h31 : m 3 1 = nI c) (hs : hsp N c bg en) (hb : ∀ n, n < c → m (5 + n) 5 = nI (bg n) ∧ m (5 + n) 6 = nI (en n)) (hE : ∀ n, n < c → eK S m n (f n)) (hw : ∀ n, n < c → (oW S (f n)).length ≤ 10 ∧ ∀ v, v ∈ oW S (f n) → isC v) (hl : (Rf N tx c bg en (fun n => oE (f n)) (fun n => oO S (f n)) (fun n => oW S (f n))).length ≤ 160) (g : ∀ M, tS M (Rf N tx c bg en (fun n => oE (f n)) (fun n => oO S (f n)) (fun n => oW S (f n))) → frY m M → Q none M) : ez xs 170 0 (jx_ent 170 [.ref 129, .ref 1]) [] m Q := by
  refine ez_blk 1 rfl ?_
  show ez xs 170 1 [some (.ref 129), some (.ref 1), none, none, none, none, none] [.ref 1] m Q
  refine ez_call (as := [.ref 1]) (rest := []) rfl (by decide) rfl ?_
  refine c_Source_size ?_
  rw [h11]
  refine ez_blk (pc' := 7) 3 rfl ?_
  show ez xs 170 7 [some (.ref 129), some (.ref 1), some (.int (nI N)), some (.int (nI 0)), none, none, none] [] m Q
  have LAY : ∀ (r n : Nat) (M : zM) (o5 o6 : Option Value), n + r = c → (∀ i, i < N → M 130 i = tx i) → frY m M → tS M (Rc tx bg en (fun n => oE (f n)) (fun n => oO S (f n)) (fun n => oW S (f n)) n) → ez xs 170 38 [some (.ref 129), some (.ref 1), some (.int (nI N)), some (.int (nI (kp en (fun n => oE (f n)) n))), some (.int (nI n)), o5, o6] [] M Q := by
    intro r
    induction r with
    | zero =>
      intro n M o5 o6 hn hO hF hT
      have kl := kp_le (ed := fun n => oE (f n)) hs n (by omega)
      refine ez_blk 3 rfl ?_
      show ez xs 170 44 [some (.ref 129), some (.ref 1), some (.int (nI N)), some (.int (nI (kp en (fun n => oE (f n)) n))), some (.int (nI n)), o5, o6] [.ref 3, .int (nI n)] M Q
      refine ez_call (as := [.ref 3]) (rest := [.int (nI n)]) rfl (by decide) rfl ?_
      refine c_Program_size ?_
      rw [hF 3 1 (by omega) (by omega) (by omega), h31]
      show ez xs 170 47 [some (.ref 129), some (.ref 1), some (.int (nI N)), some (.int (nI (kp en (fun n => oE (f n)) n))), some (.int (nI n)), o5, o6] [.int (nI c), .int (nI n)] M Q
      refine ez_icmp_ge rfl (fun _ => ?_) (fun z => absurd (nI_le (by omega) (by omega)) z)
      show ez xs 170 129 [some (.ref 129), some (.ref 1), some (.int (nI N)), some (.int (nI (kp en (fun n => oE (f n)) n))), some (.int (nI n)), o5, o6] [] M Q
      refine ez_blk 4 rfl ?_
      show ez xs 170 133 [some (.ref 129), some (.ref 1), some (.int (nI N)), some (.int (nI (kp en (fun n => oE (f n)) n))), some (.int (nI n)), o5, o6] [.int (nI N), .int (nI (kp en (fun n => oE (f n)) n)), .ref 1, .ref 129] M Q
      refine ez_call (as := [.ref 129, .ref 1, .int (nI (kp en (fun n => oE (f n)) n)), .int (nI N)]) (rest := []) rfl (by decide) rfl ?_
      have e : n = c := by omega
      have hl2 := hl
      unfold Rf at hl2
      rw [List.length_append, sl_len] at hl2
      refine h_copyOld hN (Nat.le_refl N) hO ht (by rw [e]; omega) hT (by omega) (fun M2 h3 f2 => ?_)
      refine ez_ret (y := 170) rfl (by decide) rfl (g M2 ?_ (fun a b q1 q2 q3 => (f2 a b q1 q2).trans (hF a b q1 q2 q3)))
      unfold Rf
      rw [e] at h3
      exact h3
    | succ r ih =>
      intro n M o5 o6 hn hO hF hT
      have hnc : n < c := by omega
      have h24 : n < 24 := by omega
      have kl := kp_le (ed := fun n => oE (f n)) hs n (by omega)
      have sp := hs.1 n hnc
      have kb := kl.2.1 n (Nat.le_refl n) hnc
      have M31 : M 3 1 = nI c := by rw [hF 3 1 (by omega) (by omega) (by omega), h31]
      obtain ⟨e1, e2, e3, e4, e5⟩ := eK_same (M' := M) (fun k => hF _ k (by omega) (by omega) (by omega)) (fun k => hF _ k (by omega) (by omega) (by omega)) (hE n hnc)
      obtain ⟨b1, b2⟩ := hb n hnc
      refine ez_blk 3 rfl ?_
      show ez xs 170 44 [some (.ref 129), some (.ref 1), some (.int (nI N)), some (.int (nI (kp en (fun n => oE (f n)) n))), some (.int (nI n)), o5, o6] [.ref 3, .int (nI n)] M Q
      refine ez_call (as := [.ref 3]) (rest := [.int (nI n)]) rfl (by decide) rfl ?_
      refine c_Program_size ?_
      rw [M31]
      show ez xs 170 47 [some (.ref 129), some (.ref 1), some (.int (nI N)), some (.int (nI (kp en (fun n => oE (f n)) n))), some (.int (nI n)), o5, o6] [.int (nI c), .int (nI n)] M Q
      refine ez_icmp_ge rfl (fun z => absurd z (nI_ge hnc (by omega))) (fun _ => ?_)
      show ez xs 170 50 [some (.ref 129), some (.ref 1), some (.int (nI N)), some (.int (nI (kp en (fun n => oE (f n)) n))), some (.int (nI n)), o5, o6] [] M Q
      refine ez_blk 3 rfl ?_
      show ez xs 170 56 [some (.ref 129), some (.ref 1), some (.int (nI N)), some (.int (nI (kp en (fun n => oE (f n)) n))), some (.int (nI n)), o5, o6] [.int (nI n), .ref 74] M Q
      refine ez_call (as := [.ref 74, .int (nI n)]) (rest := []) rfl (by decide) rfl ?_
      refine editOf_e hc M31 hnc ?_
      refine ez_blk (pc' := 63) 2 rfl ?_
      show ez xs 170 63 [some (.ref 129), some (.ref 1), some (.int (nI N)), some (.int (nI (kp en (fun n => oE (f n)) n))), some (.int (nI n)), some (.ref (81 + 2 * n)), o6] [.ref (81 + 2 * n)] M Q
      refine ez_calls (i := 81 + 2 * n) (as2 := []) (rest := []) rfl (by decide) rfl rfl rfl (z_edi h24) (z_eds h24) rfl ?_
      refine d_Edit_isNothing (z_edi h24) (z_eds h24) ?_
      rw [e4]
      show ez xs 170 66 [some (.ref 129), some (.ref 1), some (.int (nI N)), some (.int (nI (kp en (fun n => oE (f n)) n))), some (.int (nI n)), some (.ref (81 + 2 * n)), o6] [.int (bI (!oE (f n)))] M Q
      have ek : kp en (fun n => oE (f n)) (n + 1) = if oE (f n) = true then en n + 1 else kp en (fun n => oE (f n)) n := rfl
      have er : Rc tx bg en (fun n => oE (f n)) (fun n => oO S (f n)) (fun n => oW S (f n)) (n + 1) = if oE (f n) = true then Rc tx bg en (fun n => oE (f n)) (fun n => oO S (f n)) (fun n => oW S (f n)) n ++ sl tx (kp en (fun n => oE (f n)) n) ((if oO S (f n) = true then bg n else en n + 1) - kp en (fun n => oE (f n)) n) ++ oW S (f n) else Rc tx bg en (fun n => oE (f n)) (fun n => oO S (f n)) (fun n => oW S (f n)) n := rfl
      cases w : oE (f n)
      · rw [w, if_neg (by decide)] at ek er
        refine ez_if_ne rfl (fun _ => ?_) (fun z => absurd z (by decide))
        refine ez_blk (pc' := 38) 2 rfl ?_
        show ez xs 170 38 [some (.ref 129), some (.ref 1), some (.int (nI N)), some (.int (nI (kp en (fun n => oE (f n)) n))), some (.int (nI n + 1)), some (.ref (81 + 2 * n)), o6] [] M Q
        rw [nI_1, ← ek]
        exact ih (n + 1) M _ _ (by omega) hO hF (by rw [er]; exact hT)
      rw [w, if_pos rfl] at ek er
      have rl : (Rc tx bg en (fun n => oE (f n)) (fun n => oO S (f n)) (fun n => oW S (f n)) (n + 1)).length ≤ 160 := by
        have q1 := Rc_mono (tx := tx) (bg := bg) (en := en) (ed := fun n => oE (f n)) (ou := fun n => oO S (f n)) (wd := fun n => oW S (f n)) (c - (n + 1)) (n + 1)
        rw [show n + 1 + (c - (n + 1)) = c by omega] at q1
        have q2 := hl
        unfold Rf at q2
        rw [List.length_append] at q2
        omega
      rw [er, List.length_append, List.length_append, sl_len] at rl
      refine ez_if_ne rfl (fun z => absurd rfl z) (fun _ => ?_)
      show ez xs 170 69 [some (.ref 129), some (.ref 1), some (.int (nI N)), some (.int (nI (kp en (fun n => oE (f n)) n))), some (.int (nI n)), some (.ref (81 + 2 * n)), o6] [] M Q
      refine ez_blk 3 rfl ?_
      show ez xs 170 75 [some (.ref 129), some (.ref 1), some (.int (nI N)), some (.int (nI (kp en (fun n => oE (f n)) n))), some (.int (nI n)), some (.ref (81 + 2 * n)), o6] [.int (nI n), .ref 3] M Q
      refine ez_call (as := [.ref 3, .int (nI n)]) (rest := []) rfl (by decide) rfl ?_
      refine node_e hc M31 hnc ?_
      refine ez_blk (pc' := 85) 5 rfl ?_
      show ez xs 170 85 [some (.ref 129), some (.ref 1), some (.int (nI N)), some (.int (nI (kp en (fun n => oE (f n)) n))), some (.int (nI n)), some (.ref (81 + 2 * n)), some (.ref (5 + n))] [.ref (81 + 2 * n), .int (nI (kp en (fun n => oE (f n)) n)), .ref 1, .ref 129] M Q
      refine ez_getN rfl (z_edi h24) (z_eds h24) (by decide) rfl ?_
      show ez xs 170 88 [some (.ref 129), some (.ref 1), some (.int (nI N)), some (.int (nI (kp en (fun n => oE (f n)) n))), some (.int (nI n)), some (.ref (81 + 2 * n)), some (.ref (5 + n))] [.int (M (81 + 2 * n) 3), .int (nI (kp en (fun n => oE (f n)) n)), .ref 1, .ref 129] M Q
      have GO : ∀ b : Nat, b = (if oO S (f n) = true then bg n else en n + 1) → ez xs 170 106 [some (.ref 129), some (.ref 1), some (.int (nI N)), some (.int (nI (kp en (fun n => oE (f n)) n))), some (.int (nI n)), some (.ref (81 + 2 * n)), some (.ref (5 + n))] [.int (nI b), .int (nI (kp en (fun n => oE (f n)) n)), .ref 1, .ref 129] M Q := fun b hb2 => by
        have bN : b ≤ N := by rw [hb2]; split <;> omega
        rw [← hb2] at rl er
        refine ez_call (as := [.ref 129, .ref 1, .int (nI (kp en (fun n => oE (f n)) n)), .int (nI b)]) (rest := []) rfl (by decide) rfl ?_
        refine h_copyOld hN bN hO ht (by omega) hT (by omega) (fun M2 h3 f2 => ?_)
        show ez xs 170 109 [some (.ref 129), some (.ref 1), some (.int (nI N)), some (.int (nI (kp en (fun n => oE (f n)) n))), some (.int (nI n)), some (.ref (81 + 2 * n)), some (.ref (5 + n))] [] M2 Q
        refine ez_blk 2 rfl ?_
        show ez xs 170 112 [some (.ref 129), some (.ref 1), some (.int (nI N)), some (.int (nI (kp en (fun n => oE (f n)) n))), some (.int (nI n)), some (.ref (81 + 2 * n)), some (.ref (5 + n))] [.ref (81 + 2 * n), .ref 1] M2 Q
        refine ez_call (as := [.ref 1, .ref (81 + 2 * n)]) (rest := []) rfl (by decide) rfl ?_
        refine h_copyNew h24 (by rw [f2 _ _ (by omega) (by omega)]; exact e1) (fun i v hv => by rw [f2 _ _ (by omega) (by omega)]; exact e5 i v hv) (hw n hnc).1 (hw n hnc).2 (by rw [List.length_append, sl_len]; omega) h3 (fun M3 h4 f3 => ?_)
        show ez xs 170 115 [some (.ref 129), some (.ref 1), some (.int (nI N)), some (.int (nI (kp en (fun n => oE (f n)) n))), some (.int (nI n)), some (.ref (81 + 2 * n)), some (.ref (5 + n))] [] M3 Q
        refine ez_blk 1 rfl ?_
        show ez xs 170 117 [some (.ref 129), some (.ref 1), some (.int (nI N)), some (.int (nI (kp en (fun n => oE (f n)) n))), some (.int (nI n)), some (.ref (81 + 2 * n)), some (.ref (5 + n))] [.ref (5 + n)] M3 Q
        refine ez_getN rfl (z_ndi h24) (z_nds h24) (by decide) rfl ?_
        have F3 : frX M M3 := frX_trans f2 f3
        rw [F3 _ _ (by omega) (by omega), hF _ _ (by omega) (by omega) (by omega), b2]
        refine ez_blk (pc' := 38) 5 rfl ?_
        show ez xs 170 38 [some (.ref 129), some (.ref 1), some (.int (nI N)), some (.int (nI (en n) + 1)), some (.int (nI n + 1)), some (.ref (81 + 2 * n)), some (.ref (5 + n))] [] M3 Q
        rw [nI_1, nI_1, ← ek]
        exact ih (n + 1) M3 _ _ (by omega) (fun i hi => by rw [F3 130 i (by omega) (by omega)]; exact hO i hi) (fun a b q1 q2 q3 => (F3 a b q1 q2).trans (hF a b q1 q2 q3)) (by rw [er]; exact h4)
      refine ez_if_eq rfl (fun z => ?_) (fun z => ?_)
      · show ez xs 170 99 [some (.ref 129), some (.ref 1), some (.int (nI N)), some (.int (nI (kp en (fun n => oE (f n)) n))), some (.int (nI n)), some (.ref (81 + 2 * n)), some (.ref (5 + n))] [.int (nI (kp en (fun n => oE (f n)) n)), .ref 1, .ref 129] M Q
        refine ez_blk 1 rfl ?_
        show ez xs 170 101 [some (.ref 129), some (.ref 1), some (.int (nI N)), some (.int (nI (kp en (fun n => oE (f n)) n))), some (.int (nI n)), some (.ref (81 + 2 * n)), some (.ref (5 + n))] [.ref (5 + n), .int (nI (kp en (fun n => oE (f n)) n)), .ref 1, .ref 129] M Q
        refine ez_getN rfl (z_ndi h24) (z_nds h24) (by decide) rfl ?_
        rw [hF _ _ (by omega) (by omega) (by omega), b2]
        refine ez_blk (pc' := 106) 2 rfl ?_
        show ez xs 170 106 [some (.ref 129), some (.ref 1), some (.int (nI N)), some (.int (nI (kp en (fun n => oE (f n)) n))), some (.int (nI n)), some (.ref (81 + 2 * n)), some (.ref (5 + n))] [.int (nI (en n) + 1), .int (nI (kp en (fun n => oE (f n)) n)), .ref 1, .ref 129] M Q
        rw [nI_1]
        exact GO (en n + 1) (by rw [e3.mp z, if_neg (by decide)])
      · show ez xs 170 91 [some (.ref 129), some (.ref 1), some (.int (nI N)), some (.int (nI (kp en (fun n => oE (f n)) n))), some (.int (nI n)), some (.ref (81 + 2 * n)), some (.ref (5 + n))] [.int (nI (kp en (fun n => oE (f n)) n)), .ref 1, .ref 129] M Q
        refine ez_blk 1 rfl ?_
        show ez xs 170 93 [some (.ref 129), some (.ref 1), some (.int (nI N)), some (.int (nI (kp en (fun n => oE (f n)) n))), some (.int (nI n)), some (.ref (81 + 2 * n)), some (.ref (5 + n))] [.ref (5 + n), .int (nI (kp en (fun n => oE (f n)) n)), .ref 1, .ref 129] M Q
        refine ez_getN rfl (z_ndi h24) (z_nds h24) (by decide) rfl ?_
        rw [hF _ _ (by omega) (by omega) (by omega), b1]
        refine ez_blk (pc' := 106) 1 rfl ?_
        refine GO (bg n) ?_
        cases o : oO S (f n)
        · exact absurd (e3.mpr o) z
        · rw [if_pos rfl]
  have COPY : ∀ (r i : Nat) (M : zM), i + r = N → (∀ a b, a ≠ 130 → M a b = m a b) → (∀ j, j < i → M 130 j = tx j) → ez xs 170 7 [some (.ref 129), some (.ref 1), some (.int (nI N)), some (.int (nI i)), none, none, none] [] M Q := by
    intro r
    induction r with
    | zero =>
      intro i M hi hF hO
      refine ez_blk 2 rfl ?_
      show ez xs 170 9 [some (.ref 129), some (.ref 1), some (.int (nI N)), some (.int (nI i)), none, none, none] [.int (nI N), .int (nI i)] M Q
      refine ez_icmp_ge rfl (fun _ => ?_) (fun z => absurd (nI_le (by omega) (by omega)) z)
      show ez xs 170 29 [some (.ref 129), some (.ref 1), some (.int (nI N)), some (.int (nI i)), none, none, none] [] M Q
      refine ez_blk 1 rfl ?_
      show ez xs 170 30 [some (.ref 129), some (.ref 1), some (.int (nI N)), some (.int (nI i)), none, none, none] [.ref 1] M Q
      refine ez_call (as := [.ref 1]) (rest := []) rfl (by decide) rfl ?_
      refine c_Source_empty ?_
      refine ez_blk (pc' := 38) 4 rfl ?_
      show ez xs 170 38 [some (.ref 129), some (.ref 1), some (.int (nI N)), some (.int (nI 0)), some (.int (nI 0)), none, none] [] (jj_up M 1 1 0) Q
      refine LAY c 0 _ none none (by omega) (fun j hj => by rw [up_ne (by omega)]; exact hO j (by omega)) (fun a b q1 q2 q3 => by rw [up_ne2 q1]; exact hF a b q3) ⟨up_eq, fun j v hv => by cases hv⟩
    | succ r ih =>
      intro i M hi hF hO
      have hiN : i < N := by omega
      refine ez_blk 2 rfl ?_
      show ez xs 170 9 [some (.ref 129), some (.ref 1), some (.int (nI N)), some (.int (nI i)), none, none, none] [.int (nI N), .int (nI i)] M Q
      refine ez_icmp_ge rfl (fun z => absurd z (nI_ge hiN (by omega))) (fun _ => ?_)
      show ez xs 170 12 [some (.ref 129), some (.ref 1), some (.int (nI N)), some (.int (nI i)), none, none, none] [] M Q
      refine ez_blk 5 rfl ?_
      show ez xs 170 19 [some (.ref 129), some (.ref 1), some (.int (nI N)), some (.int (nI i)), none, none, none] [.int (nI i), .ref 1, .int (nI i), .ref 130] M Q
      refine ez_call (as := [.ref 1, .int (nI i)]) (rest := [.int (nI i), .ref 130]) rfl (by decide) rfl ?_
      have m2 : M 2 i = tx i := by rw [hF 2 i (by omega)]; exact h2 i hiN
      obtain ⟨q, q1, q2, q3⟩ := ht i hiN
      have nc : vp_nar .char (tx i) = tx i := by rw [q3]; exact nar_char q2
      have hh : f_Source_holds M (nI i) = 1 := by
        unfold f_Source_holds
        rw [if_neg (nI_pos (by omega)), hF 1 1 (by omega), h11, if_neg (nI_ge hiN (by omega))]
      refine d_Source_charOf (fun _ => vp_in_nI (by omega) (by omega)) (fun _ => by rw [nI_clamp (by omega), m2]; exact nc) ?_
      have ec : f_Source_charOf M (nI i) = tx i := by
        unfold f_Source_charOf
        rw [hh, if_neg (by decide), nI_clamp (by omega), m2]
      rw [ec]
      show ez xs 170 22 [some (.ref 129), some (.ref 1), some (.int (nI N)), some (.int (nI i)), none, none, none] [.int (tx i), .int (nI i), .ref 130] M Q
      refine ez_cast (n := 160) rfl (by decide) rfl (by omega) (by omega) ?_
      rw [nc]
      refine ez_blk (pc' := 7) 2 rfl ?_
      show ez xs 170 7 [some (.ref 129), some (.ref 1), some (.int (nI N)), some (.int (nI i + 1)), none, none, none] [] (jj_up M 130 i (tx i)) Q
      rw [nI_1]
      refine ih (i + 1) _ (by omega) (fun a b q => by rw [up_ne q]; exact hF a b q) (fun j hj => ?_)
      by_cases e : j = i
      · rw [e, up_eq]
      · rw [up_k e]; exact hO j (by omega)
  exact COPY N 0 m (by omega) (fun _ _ _ => rfl) (fun j hj => absurd hj (Nat.not_lt_zero j))
