/-! What the edits say; the class measures. -/
def oE (o : Option (Nat × Nat)) : Bool := o.isSome
def oO (S : zM) (o : Option (Nat × Nat)) : Bool := match o with
  | none => false
  | some e => decide (¬ S 153 e.1 = 0)
def oW (S : zM) (o : Option (Nat × Nat)) : List Int32 := match o with
  | none => []
  | some e => wW S (nI e.2) e.1
def oF (S : zM) (o : Option (Nat × Nat)) : Nat := match o with
  | none => 0
  | some e => (S 159 e.1).toNatClampNeg
def lq (S : zM) (N : Nat) (bg en : Nat → Nat) (f : Nat → Option (Nat × Nat)) : Nat → Int32
  | 0 => nI N
  | n + 1 => (lq S N bg en f n + nI (oW S (f n)).length) - (if oO S (f n) = true then nI (en n) - nI (bg n) + 1 else 0)
def nq (S : zM) (c : Nat) (f : Nat → Option (Nat × Nat)) : Nat → Int32
  | 0 => nI c
  | n + 1 => (nq S c f n + nI (oF S (f n))) - (if oO S (f n) = true then 1 else 0)
def dq (f : Nat → Option (Nat × Nat)) : Nat → Nat
  | 0 => 0
  | n + 1 => dq f n + (if oE (f n) = true then 1 else 0)
theorem i_cancel (p q x : Int32) : (p - x) + (q + x) = p + q := by
  rw [Int32.add_comm q x, ← Int32.add_assoc, Int32.sub_add_cancel]
theorem lq_len {S : zM} {N c : Nat} {bg en : Nat → Nat} {f : Nat → Option (Nat × Nat)} {tx : Nat → Int32} (h : hsp N c bg en) : lq S N bg en f c = nI (Rf N tx c bg en (fun n => oE (f n)) (fun n => oO S (f n)) (fun n => oW S (f n))).length := by
  have K : ∀ n, n ≤ c → lq S N bg en f n + nI (sO bg en (fun n => oE (f n)) (fun n => oO S (f n)) n) = nI (N + sW (fun n => oE (f n)) (fun n => oW S (f n)) n) := by
    intro n
    induction n with
    | zero => intro _; rw [lq, sO, sW, nI_add]
    | succ n ih =>
      intro hn
      have ih := ih (by omega)
      have sp := h.1 n (by omega)
      rw [lq, sO, sW]
      have W : (if oE (f n) = true then (oW S (f n)).length else 0) = (oW S (f n)).length := by
        cases f n with
        | none => rfl
        | some e => rfl
      have O : (oE (f n) = true ∧ oO S (f n) = true) ↔ oO S (f n) = true := by
        cases f n with
        | none => exact ⟨fun z => z.2, fun z => by cases z⟩
        | some e => exact ⟨fun z => z.2, fun z => ⟨rfl, z⟩⟩
      have X : (if oO S (f n) = true then nI (en n) - nI (bg n) + 1 else 0) = nI (if oE (f n) = true ∧ oO S (f n) = true then en n - bg n + 1 else 0) := by
        by_cases z : oO S (f n) = true
        · rw [if_pos z, if_pos (O.mpr z), nI_mi sp.1, nI_1]
        · rw [if_neg z, if_neg (fun q => z q.2)]; rfl
      show lq S N bg en f n + nI (oW S (f n)).length - (if oO S (f n) = true then nI (en n) - nI (bg n) + 1 else 0) + nI (sO bg en (fun n => oE (f n)) (fun n => oO S (f n)) n + (if oE (f n) = true ∧ oO S (f n) = true then en n - bg n + 1 else 0)) = nI (N + (sW (fun n => oE (f n)) (fun n => oW S (f n)) n + (if oE (f n) = true then (oW S (f n)).length else 0)))
      rw [X, W, ← nI_add, i_cancel, Int32.add_assoc, Int32.add_comm (nI (oW S (f n)).length), ← Int32.add_assoc, ih, nI_add, Nat.add_assoc]
  have k := K c (Nat.le_refl c)
  rw [← Rf_len (tx := tx) (ed := fun n => oE (f n)) (ou := fun n => oO S (f n)) (wd := fun n => oW S (f n)) h, ← nI_add] at k
  have k2 := congrArg (fun z => z - nI (sO bg en (fun n => oE (f n)) (fun n => oO S (f n)) c)) k
  rw [Int32.add_sub_cancel, Int32.add_sub_cancel] at k2
  exact k2
/-- what the class's edit of node n holds -/
def eK (S M : zM) (n : Nat) (o : Option (Nat × Nat)) : Prop := M (81 + 2 * n) 1 = nI (oW S o).length ∧ M (81 + 2 * n) 2 = nI (oF S o) ∧ (M (81 + 2 * n) 3 = 0 ↔ oO S o = false) ∧ f_Edit_isNothing M (81 + 2 * n) = bI (!oE o) ∧ li M (82 + 2 * n) (oW S o)
theorem eK_of {S M : zM} {n : Nat} {o : Option (Nat × Nat)} (h : eOk S M n o) (hI : ∀ e, o = some e → rI S e.1 ∧ edB S e.1 = true) : eK S M n o := by
  cases o with
  | none =>
    obtain ⟨h1, h2, h3⟩ := (show M (81 + 2 * n) 1 = 0 ∧ M (81 + 2 * n) 2 = 0 ∧ M (81 + 2 * n) 3 = 0 from h)
    refine ⟨h1, h2, ⟨fun _ => rfl, fun _ => h3⟩, ?_, fun i v hv => by cases hv⟩
    unfold f_Edit_isNothing
    rw [if_pos h3, if_pos h2]
    rfl
  | some e =>
    obtain ⟨h1, h2, h3, h4⟩ := (show M (81 + 2 * n) 1 = nI (wW S (nI e.2) e.1).length ∧ M (81 + 2 * n) 2 = S 159 e.1 ∧ M (81 + 2 * n) 3 = S 153 e.1 ∧ li M (82 + 2 * n) (wW S (nI e.2) e.1) from h)
    obtain ⟨i1, i2⟩ := hI e rfl
    obtain ⟨-, -, -, -, ⟨k, k1, -, k3, -⟩, -⟩ := i1
    refine ⟨h1, ?_, ?_, ?_, h4⟩
    · show _ = nI (S 159 e.1).toNatClampNeg
      rw [h2, k3, nI_clamp (by omega)]
    · show _ ↔ decide (¬ S 153 e.1 = 0) = false
      rw [h3, decide_eq_false_iff_not]
      exact ⟨fun z w => w z, fun z => Decidable.of_not_not z⟩
    · unfold f_Edit_isNothing
      rw [h2, h3]
      show _ = bI (!true)
      split
      · split
        · rename_i q1 q2; exact absurd ⟨q1, q2⟩ (edB_0 i2)
        · rfl
      · rfl
theorem eK_same {S M M' : zM} {n : Nat} {o : Option (Nat × Nat)} (h : ∀ k, M' (81 + 2 * n) k = M (81 + 2 * n) k) (h2 : ∀ k, M' (82 + 2 * n) k = M (82 + 2 * n) k) (g : eK S M n o) : eK S M' n o := by
  obtain ⟨g1, g2, g3, g4, g5⟩ := g
  refine ⟨(h 1).trans g1, (h 2).trans g2, by rw [h 3]; exact g3, ?_, fun i v hv => by rw [h2]; exact g5 i v hv⟩
  unfold f_Edit_isNothing at g4 ⊢
  rw [h 2, h 3]
  exact g4
theorem editOf_e {xs : jx_Xs} {m : zM} {Q : Option Value → zM → Prop} {c n : Nat} (hc : c ≤ 24) (h31 : m 3 1 = nI c) (hn : n < c) (g : Q (some (.ref (81 + 2 * n))) m) : ez xs 163 0 (jx_ent 163 [.ref 74, .int (nI n)]) [] m Q := by
  have e : ¬ f_Program_holds m (nI n) = 0 := by
    unfold f_Program_holds
    rw [if_neg (nI_pos (by omega)), h31, if_neg (nI_ge hn (by omega))]
    decide
  refine c_Search_editOf (fun z => absurd z e) (fun _ => vp_in_nI (by omega) (by omega)) (fun z => absurd z e) (fun _ => ?_)
  rw [nI_clamp (by omega)]
  exact g
theorem node_e {xs : jx_Xs} {m : zM} {Q : Option Value → zM → Prop} {c n : Nat} (hc : c ≤ 24) (h31 : m 3 1 = nI c) (hn : n < c) (g : Q (some (.ref (5 + n))) m) : ez xs 33 0 (jx_ent 33 [.ref 3, .int (nI n)]) [] m Q := by
  have n0 : ¬ nI n < 0 := nI_pos (by omega)
  have nc : ¬ m 3 1 ≤ nI n := by rw [h31]; exact nI_ge hn (by omega)
  refine c_Program_node (fun z => absurd z n0) (fun _ z => absurd z nc) (fun _ _ => vp_in_nI (by omega) (by omega)) (fun z => absurd z n0) (fun _ z => absurd z nc) (fun _ _ => ?_)
  rw [nI_clamp (by omega)]
  exact g
theorem h_measure {xs : jx_Xs} {S m : zM} {Q : Option Value → zM → Prop} {N c : Nat} {bg en : Nat → Nat} {f : Nat → Option (Nat × Nat)} (hc : c ≤ 24) (h11 : m 1 1 = nI N) (h31 : m 3 1 = nI c) (hb : ∀ n, n < c → m (5 + n) 5 = nI (bg n) ∧ m (5 + n) 6 = nI (en n)) (hE : ∀ n, n < c → eK S m n (f n)) (g : ∀ M, M 129 3 = lq S N bg en f c → M 129 4 = nq S c f c → M 129 5 = nI (dq f c) → (∀ a k, a ≠ 129 → M a k = m a k) → Q none M) : ez xs 165 0 (jx_ent 165 [.ref 129, .ref 1]) [] m Q := by
  refine ez_blk 2 rfl ?_
  show ez xs 165 2 [some (.ref 129), some (.ref 1), none, none] [.ref 1, .ref 129] m Q
  refine ez_call (as := [.ref 1]) (rest := [.ref 129]) rfl (by decide) rfl ?_
  refine c_Source_size ?_
  rw [h11]
  refine ez_blk (pc' := 13) 4 rfl ?_
  show ez xs 165 13 [some (.ref 129), some (.ref 1), none, none] [.ref 3, .ref 129] (jj_up m 129 3 (nI N)) Q
  refine ez_call (as := [.ref 3]) (rest := [.ref 129]) rfl (by decide) rfl ?_
  refine c_Program_size ?_
  rw [up_ne (by omega), h31]
  refine ez_blk (pc' := 26) 6 rfl ?_
  show ez xs 165 26 [some (.ref 129), some (.ref 1), some (.int (nI 0)), none] [] (jj_up (jj_up (jj_up m 129 3 (nI N)) 129 4 (nI c)) 129 5 0) Q
  have loop : ∀ (r i : Nat) (M : zM) (o : Option Value), i + r = c → (∀ a k, a ≠ 129 → M a k = m a k) → M 129 3 = lq S N bg en f i → M 129 4 = nq S c f i → M 129 5 = nI (dq f i) → ez xs 165 26 [some (.ref 129), some (.ref 1), some (.int (nI i)), o] [] M Q := by
    intro r
    induction r with
    | zero =>
      intro i M o hi hF h3 h4 h5
      refine ez_blk 3 rfl ?_
      show ez xs 165 31 [some (.ref 129), some (.ref 1), some (.int (nI i)), o] [.ref 3, .int (nI i)] M Q
      refine ez_call (as := [.ref 3]) (rest := [.int (nI i)]) rfl (by decide) rfl ?_
      refine c_Program_size ?_
      rw [hF 3 1 (by omega), h31]
      show ez xs 165 34 [some (.ref 129), some (.ref 1), some (.int (nI i)), o] [.int (nI c), .int (nI i)] M Q
      refine ez_icmp_ge rfl (fun _ => ?_) (fun z => absurd (nI_le (by omega) (by omega)) z)
      rw [show i = c by omega] at h3 h4 h5
      exact ez_ret rfl (by decide) rfl (g M h3 h4 h5 hF)
    | succ r ih =>
      intro i M o hi hF h3 h4 h5
      have hic : i < c := by omega
      have h24 : i < 24 := by omega
      have M31 : M 3 1 = nI c := by rw [hF 3 1 (by omega), h31]
      obtain ⟨e1, e2, e3, e4, -⟩ := eK_same (M' := M) (fun k => hF _ k (by omega)) (fun k => hF _ k (by omega)) (hE i hic)
      refine ez_blk 3 rfl ?_
      show ez xs 165 31 [some (.ref 129), some (.ref 1), some (.int (nI i)), o] [.ref 3, .int (nI i)] M Q
      refine ez_call (as := [.ref 3]) (rest := [.int (nI i)]) rfl (by decide) rfl ?_
      refine c_Program_size ?_
      rw [M31]
      show ez xs 165 34 [some (.ref 129), some (.ref 1), some (.int (nI i)), o] [.int (nI c), .int (nI i)] M Q
      refine ez_icmp_ge rfl (fun z => absurd z (nI_ge hic (by omega))) (fun _ => ?_)
      show ez xs 165 37 [some (.ref 129), some (.ref 1), some (.int (nI i)), o] [] M Q
      refine ez_blk 3 rfl ?_
      show ez xs 165 42 [some (.ref 129), some (.ref 1), some (.int (nI i)), o] [.int (nI i), .ref 74] M Q
      refine ez_call (as := [.ref 74, .int (nI i)]) (rest := []) rfl (by decide) rfl ?_
      refine editOf_e hc M31 hic ?_
      refine ez_blk (pc' := 52) 5 rfl ?_
      show ez xs 165 52 [some (.ref 129), some (.ref 1), some (.int (nI i)), some (.ref (81 + 2 * i))] [.ref (81 + 2 * i), .int (M 129 3), .ref 129] M Q
      refine ez_getN rfl (z_edi h24) (z_eds h24) (by decide) rfl ?_
      rw [e1, h3]
      refine ez_blk (pc' := 59) 2 rfl ?_
      have F1 : ∀ a k, ¬ (a = 129 ∧ k = 3) → jj_up M 129 3 (lq S N bg en f i + nI (oW S (f i)).length) a k = M a k := fun a k q => up_ne2 q
      have A1 : jj_up M 129 3 (lq S N bg en f i + nI (oW S (f i)).length) 129 3 = lq S N bg en f i + nI (oW S (f i)).length := up_eq
      show ez xs 165 59 [some (.ref 129), some (.ref 1), some (.int (nI i)), some (.ref (81 + 2 * i))] [] (jj_up M 129 3 (lq S N bg en f i + nI (oW S (f i)).length)) Q
      generalize jj_up M 129 3 (lq S N bg en f i + nI (oW S (f i)).length) = M1 at F1 A1
      refine ez_blk 4 rfl ?_
      show ez xs 165 65 [some (.ref 129), some (.ref 1), some (.int (nI i)), some (.ref (81 + 2 * i))] [.ref (81 + 2 * i), .int (M1 129 4), .ref 129] M1 Q
      refine ez_getN rfl (z_edi h24) (z_eds h24) (by decide) rfl ?_
      rw [F1 (81 + 2 * i) 2 (by omega), e2, F1 129 4 (by omega), h4]
      refine ez_blk (pc' := 72) 2 rfl ?_
      have F2 : ∀ a k, ¬ (a = 129 ∧ (k = 3 ∨ k = 4)) → jj_up M1 129 4 (nq S c f i + nI (oF S (f i))) a k = M a k := fun a k q => by rw [up_ne2 (by omega)]; exact F1 a k (by omega)
      have A2 : jj_up M1 129 4 (nq S c f i + nI (oF S (f i))) 129 3 = lq S N bg en f i + nI (oW S (f i)).length := by rw [up_k (by omega)]; exact A1
      have B2 : jj_up M1 129 4 (nq S c f i + nI (oF S (f i))) 129 4 = nq S c f i + nI (oF S (f i)) := up_eq
      show ez xs 165 72 [some (.ref 129), some (.ref 1), some (.int (nI i)), some (.ref (81 + 2 * i))] [] (jj_up M1 129 4 (nq S c f i + nI (oF S (f i)))) Q
      generalize jj_up M1 129 4 (nq S c f i + nI (oF S (f i))) = M2 at F2 A2 B2
      have END : ∀ M3 : zM, (∀ a k, ¬ (a = 129 ∧ (k = 3 ∨ k = 4)) → M3 a k = M a k) → M3 129 3 = lq S N bg en f (i + 1) → M3 129 4 = nq S c f (i + 1) → ez xs 165 109 [some (.ref 129), some (.ref 1), some (.int (nI i)), some (.ref (81 + 2 * i))] [] M3 Q := fun M3 q1 q2 q3 => by
        refine ez_blk 1 rfl ?_
        show ez xs 165 110 [some (.ref 129), some (.ref 1), some (.int (nI i)), some (.ref (81 + 2 * i))] [.ref (81 + 2 * i)] M3 Q
        refine ez_calls (i := 81 + 2 * i) (as2 := []) (rest := []) rfl (by decide) rfl rfl rfl (z_edi h24) (z_eds h24) rfl ?_
        refine d_Edit_isNothing (z_edi h24) (z_eds h24) ?_
        have e4 : f_Edit_isNothing M3 (81 + 2 * i) = bI (!oE (f i)) := by
          unfold f_Edit_isNothing at e4 ⊢
          rw [q1 _ _ (by omega), q1 _ _ (by omega)]
          exact e4
        rw [e4]
        show ez xs 165 113 [some (.ref 129), some (.ref 1), some (.int (nI i)), some (.ref (81 + 2 * i))] [.int (bI (!oE (f i)))] M3 Q
        have d : dq f (i + 1) = dq f i + (if oE (f i) = true then 1 else 0) := rfl
        cases w : oE (f i)
        · rw [w, if_neg (by decide)] at d
          refine ez_if_ne rfl (fun _ => ?_) (fun z => absurd z (by decide))
          refine ez_blk (pc' := 26) 2 rfl ?_
          show ez xs 165 26 [some (.ref 129), some (.ref 1), some (.int (nI i + 1)), some (.ref (81 + 2 * i))] [] M3 Q
          rw [nI_1]
          refine ih (i + 1) M3 _ (by omega) (fun a k q => by rw [q1 a k (by omega)]; exact hF a k q) q2 q3 ?_
          rw [q1 129 5 (by omega), h5, d]
          rfl
        · rw [w, if_pos rfl] at d
          refine ez_if_ne rfl (fun z => absurd rfl z) (fun _ => ?_)
          show ez xs 165 116 [some (.ref 129), some (.ref 1), some (.int (nI i)), some (.ref (81 + 2 * i))] [] M3 Q
          refine ez_blk (pc' := 26) 8 rfl ?_
          show ez xs 165 26 [some (.ref 129), some (.ref 1), some (.int (nI i + 1)), some (.ref (81 + 2 * i))] [] (jj_up M3 129 5 (M3 129 5 + 1)) Q
          rw [nI_1]
          refine ih (i + 1) _ _ (by omega) (fun a k q => by rw [up_ne q, q1 a k (by omega)]; exact hF a k q) (by rw [up_k (by omega)]; exact q2) (by rw [up_k (by omega)]; exact q3) ?_
          rw [up_eq, q1 129 5 (by omega), h5, d, nI_1]
      have dl : lq S N bg en f (i + 1) = (lq S N bg en f i + nI (oW S (f i)).length) - (if oO S (f i) = true then nI (en i) - nI (bg i) + 1 else 0) := rfl
      have dn : nq S c f (i + 1) = (nq S c f i + nI (oF S (f i))) - (if oO S (f i) = true then 1 else 0) := rfl
      refine ez_blk 1 rfl ?_
      show ez xs 165 73 [some (.ref 129), some (.ref 1), some (.int (nI i)), some (.ref (81 + 2 * i))] [.ref (81 + 2 * i)] M2 Q
      refine ez_getN rfl (z_edi h24) (z_eds h24) (by decide) rfl ?_
      rw [F2 (81 + 2 * i) 3 (by omega)]
      show ez xs 165 76 [some (.ref 129), some (.ref 1), some (.int (nI i)), some (.ref (81 + 2 * i))] [.int (M (81 + 2 * i) 3)] M2 Q
      refine ez_if_eq rfl (fun z => ?_) (fun z => ?_)
      · have w := e3.mp z
        rw [w, if_neg (by decide), Int32.sub_zero] at dl dn
        exact END M2 F2 (by rw [A2, dl]) (by rw [B2, dn])
      have w : oO S (f i) = true := by
        cases w : oO S (f i)
        · exact absurd (e3.mpr w) z
        · rfl
      rw [w, if_pos rfl] at dl dn
      obtain ⟨b1, b2⟩ := hb i hic
      show ez xs 165 79 [some (.ref 129), some (.ref 1), some (.int (nI i)), some (.ref (81 + 2 * i))] [] M2 Q
      refine ez_blk 6 rfl ?_
      show ez xs 165 89 [some (.ref 129), some (.ref 1), some (.int (nI i)), some (.ref (81 + 2 * i))] [.int (nI i), .ref 3, .int (M2 129 3), .ref 129] M2 Q
      refine ez_call (as := [.ref 3, .int (nI i)]) (rest := [.int (M2 129 3), .ref 129]) rfl (by decide) rfl ?_
      refine node_e hc (by rw [F2 3 1 (by omega)]; exact M31) hic ?_
      show ez xs 165 92 [some (.ref 129), some (.ref 1), some (.int (nI i)), some (.ref (81 + 2 * i))] [.ref (5 + i), .int (M2 129 3), .ref 129] M2 Q
      refine ez_calls (i := 5 + i) (as2 := []) (rest := [.int (M2 129 3), .ref 129]) rfl (by decide) rfl rfl rfl (z_ndi h24) (z_nds h24) rfl ?_
      refine c_Node_spanLength (z_ndi h24) (z_nds h24) ?_
      rw [F2 (5 + i) 6 (by omega), F2 (5 + i) 5 (by omega), hF _ _ (by omega), hF _ _ (by omega), b1, b2, A2]
      refine ez_blk (pc' := 109) 8 rfl ?_
      refine END (jj_up (jj_up M2 129 3 ((lq S N bg en f i + nI (oW S (f i)).length) - (nI (en i) - nI (bg i) + 1))) 129 4 (jj_up M2 129 3 ((lq S N bg en f i + nI (oW S (f i)).length) - (nI (en i) - nI (bg i) + 1)) 129 4 - 1)) (fun a k q => by rw [up_ne2 (by omega), up_ne2 (by omega)]; exact F2 a k q) ?_ ?_
      · rw [up_k (by omega), up_eq, dl]
      · rw [up_eq, up_k (by omega), B2, dn]
  refine loop c 0 _ none (by omega) (fun a k q => by rw [up_ne q, up_ne q, up_ne q]) ?_ ?_ up_eq
  · rw [up_k (by omega), up_k (by omega), up_eq]; rfl
  · rw [up_k (by omega), up_eq]; rfl
