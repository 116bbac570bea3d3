/-! One turn of the class's reading follows pStep. -/
theorem frC_refl (m : zM) : frC m m := fun _ _ _ _ _ _ => rfl
theorem frC_trans {m M N : zM} (h1 : frC m M) (h2 : frC M N) : frC m N := fun a b q1 q2 q3 q4 => (h2 a b q1 q2 q3 q4).trans (h1 a b q1 q2 q3 q4)
theorem h_turn {xs : jx_Xs} {m : zM} {Q : Option Value → zM → Prop} {t : Nat → Nat} {l : List Nat} {s : pS} {k : Int32} {o : Option Value} (hk : tkC m t l) (ht : ∀ p ∈ l, t p ≤ 126) (hl : l.length ≤ 160) (hI : pI l.length s) (hC : pC m s) (hs : s.1 < l.length)
    (g0 : pStep t l s = none → ∀ M o', frC m M → ez xs 54 188 [some (.ref 29), some (.ref 1), some (.int 0), some (.int k), o'] [] M Q)
    (g : ∀ s', pStep t l s = some s' → ∀ M o', pC M s' → frC m M → ez xs 54 188 [some (.ref 29), some (.ref 1), some (.int 1), some (.int k), o'] [] M Q) : ez xs 54 80 [some (.ref 29), some (.ref 1), some (.int 1), some (.int k), o] [] m Q := by
  have h24 := hI.2.2.1
  have lc := sg_le ht s.1
  have E : ∀ c : Nat, c < 1000 → (nI (sg t l s.1) = nI c ↔ sg t l s.1 = c) := fun c hc => nI_eq (by omega) (by omega)
  refine ez_blk 2 rfl ?_
  show ez xs 54 82 [some (.ref 29), some (.ref 1), some (.int 1), some (.int k), o] [.int 0, .ref 29] m Q
  refine ez_call (as := [.ref 29, .int 0]) (rest := []) rfl (by decide) rfl ?_
  refine ahead_e (k := 0) hk ht hl hC.1 (by omega) rfl ?_
  show ez xs 54 85 [some (.ref 29), some (.ref 1), some (.int 1), some (.int k), o] [.int (nI (sg t l s.1))] m Q
  refine ez_blk 3 rfl ?_
  show ez xs 54 91 [some (.ref 29), some (.ref 1), some (.int 1), some (.int k), some (.int (nI (sg t l s.1)))] [.int (nI 125), .int (nI (sg t l s.1))] m Q
  refine ez_icmp_ne rfl (fun h => ?_) (fun h => ?_)
  case refine_2 =>
    have e : pStep t l s = pClose t l s := by unfold pStep; rw [if_pos ((E 125 (by omega)).mp h)]
    rw [e] at g0 g
    show ez xs 54 94 [some (.ref 29), some (.ref 1), some (.int 1), some (.int k), some (.int (nI (sg t l s.1)))] [] m Q
    refine ez_blk 1 rfl ?_
    show ez xs 54 95 [some (.ref 29), some (.ref 1), some (.int 1), some (.int k), some (.int (nI (sg t l s.1)))] [.ref 29] m Q
    refine ez_call (as := [.ref 29]) (rest := []) rfl (by decide) rfl ?_
    refine h_Parser_closeRow hk ht hl hI hC (fun q M hF => ?_) (fun s' q M hM hF => ?_)
    · show ez xs 54 98 [some (.ref 29), some (.ref 1), some (.int 1), some (.int k), some (.int (nI (sg t l s.1)))] [.int 0] M Q
      refine ez_blk 2 rfl ?_
      exact g0 q M _ (fun a b q1 q2 q3 q4 => hF a b q3 (by omega) (by omega) (by omega))
    · show ez xs 54 98 [some (.ref 29), some (.ref 1), some (.int 1), some (.int k), some (.int (nI (sg t l s.1)))] [.int 1] M Q
      refine ez_blk 2 rfl ?_
      exact g s' q M _ hM (fun a b q1 q2 q3 q4 => hF a b q3 (by omega) (by omega) (by omega))
  have e : pStep t l s = pStmt t l s := by unfold pStep; rw [if_neg (fun q => h ((E 125 (by omega)).mpr q))]
  rw [e] at g0 g
  show ez xs 54 102 [some (.ref 29), some (.ref 1), some (.int 1), some (.int k), some (.int (nI (sg t l s.1)))] [] m Q
  refine ez_blk 2 rfl ?_
  show ez xs 54 106 [some (.ref 29), some (.ref 1), some (.int 1), some (.int k), some (.int (nI (sg t l s.1)))] [.ref 3] m Q
  refine ez_call (as := [.ref 3]) (rest := []) rfl (by decide) rfl ?_
  have f24 : m 3 1 < 24 ↔ s.2.2.1 < 24 := by rw [hC.2.2.1]; exact nI_ltI (b := 24) (by omega) (by omega)
  refine c_Program_isFull (fun q => ?_) (fun q => ?_)
  case refine_2 =>
    show ez xs 54 109 [some (.ref 29), some (.ref 1), some (.int 1), some (.int k), some (.int (nI (sg t l s.1)))] [.int 1] m Q
    refine ez_if_eq rfl (fun h => absurd h (by decide)) (fun _ => ?_)
    show ez xs 54 112 [some (.ref 29), some (.ref 1), some (.int 1), some (.int k), some (.int (nI (sg t l s.1)))] [] m Q
    refine ez_blk 3 rfl ?_
    have q : s.2.2.1 = 24 := by have z : ¬ s.2.2.1 < 24 := fun z => q (f24.mpr z); omega
    exact g0 (by unfold pStmt; rw [if_pos q]) m _ (frC_refl m)
  have hct := f24.mp q
  have n24 : ¬ s.2.2.1 = 24 := by omega
  show ez xs 54 109 [some (.ref 29), some (.ref 1), some (.int 1), some (.int k), some (.int (nI (sg t l s.1)))] [.int 0] m Q
  refine ez_if_eq rfl (fun _ => ?_) (fun h => absurd rfl h)
  have T : sg t l s.1 = 63 ∨ sg t l s.1 = 42 → ez xs 54 131 [some (.ref 29), some (.ref 1), some (.int 1), some (.int k), some (.int (nI (sg t l s.1)))] [] m Q := fun hq => by
    have T2 : ∀ w : Int32, w = bI (decide (sg t l s.1 = 42)) → ez xs 54 144 [some (.ref 29), some (.ref 1), some (.int 1), some (.int k), some (.int (nI (sg t l s.1)))] [.int w, .ref 29] m Q := fun w hw => by
      have w01 : w = 0 ∨ w = 1 := by
        rw [hw]
        by_cases z : sg t l s.1 = 42
        · rw [decide_eq_true z]; exact Or.inr rfl
        · rw [decide_eq_false z]; exact Or.inl rfl
      have e : pStmt t l s = if isV (sg t l (s.1 + 1)) ∧ sg t l (s.1 + 2) = 123 ∧ s.2.1 < 6 then some (pOp (pAdd l s 2 3 0 (nI (sg t l (s.1 + 1) - 97)) 0 w) (s.1 + 2 + 1) (nI s.2.2.1) 0) else none := by
        unfold pStmt
        rw [if_neg n24, if_pos hq, hw]
      have cl : jx_cal (80, 63, 50, 2, 0) [.int w, .ref 29] (z_S m) = some ([.ref 29, .int w], []) := by rcases w01 with rfl | rfl <;> rfl
      refine ez_call (as := [.ref 29, .int w]) (rest := []) rfl (by decide) cl ?_
      refine h_Parser_readTest hk ht hl hI hC hct hs w01 (fun q M hF => ?_) (fun q M hM hF => ?_)
      · show ez xs 54 147 [some (.ref 29), some (.ref 1), some (.int 1), some (.int k), some (.int (nI (sg t l s.1)))] [.int 0] M Q
        refine ez_blk 2 rfl ?_
        exact g0 (by rw [e, if_neg q]) M _ hF
      · show ez xs 54 147 [some (.ref 29), some (.ref 1), some (.int 1), some (.int k), some (.int (nI (sg t l s.1)))] [.int 1] M Q
        refine ez_blk 2 rfl ?_
        exact g _ (by rw [e, if_pos q]) M _ hM hF
    refine ez_blk 3 rfl ?_
    show ez xs 54 136 [some (.ref 29), some (.ref 1), some (.int 1), some (.int k), some (.int (nI (sg t l s.1)))] [.int (nI 42), .int (nI (sg t l s.1)), .ref 29] m Q
    refine ez_icmp_ne rfl (fun h => ?_) (fun h => ?_)
    · show ez xs 54 143 [some (.ref 29), some (.ref 1), some (.int 1), some (.int k), some (.int (nI (sg t l s.1)))] [.ref 29] m Q
      refine ez_blk 1 rfl ?_
      exact T2 0 (by rw [decide_eq_false (fun q => h ((E 42 (by omega)).mpr q))]; rfl)
    · show ez xs 54 139 [some (.ref 29), some (.ref 1), some (.int 1), some (.int k), some (.int (nI (sg t l s.1)))] [.ref 29] m Q
      refine ez_blk 2 rfl ?_
      exact T2 1 (by rw [decide_eq_true ((E 42 (by omega)).mp h)]; rfl)
  show ez xs 54 117 [some (.ref 29), some (.ref 1), some (.int 1), some (.int k), some (.int (nI (sg t l s.1)))] [] m Q
  refine ez_blk 2 rfl ?_
  show ez xs 54 121 [some (.ref 29), some (.ref 1), some (.int 1), some (.int k), some (.int (nI (sg t l s.1)))] [.int (nI 63), .int (nI (sg t l s.1))] m Q
  refine ez_icmp_eq rfl (fun h => T (Or.inl ((E 63 (by omega)).mp h))) (fun h63 => ?_)
  show ez xs 54 124 [some (.ref 29), some (.ref 1), some (.int 1), some (.int k), some (.int (nI (sg t l s.1)))] [] m Q
  refine ez_blk 2 rfl ?_
  show ez xs 54 128 [some (.ref 29), some (.ref 1), some (.int 1), some (.int k), some (.int (nI (sg t l s.1)))] [.int (nI 42), .int (nI (sg t l s.1))] m Q
  refine ez_icmp_ne rfl (fun h42 => ?_) (fun h => T (Or.inr ((E 42 (by omega)).mp h)))
  have nt : ¬ (sg t l s.1 = 63 ∨ sg t l s.1 = 42) := fun q => q.elim (fun z => h63 ((E 63 (by omega)).mpr z)) (fun z => h42 ((E 42 (by omega)).mpr z))
  show ez xs 54 151 [some (.ref 29), some (.ref 1), some (.int 1), some (.int k), some (.int (nI (sg t l s.1)))] [] m Q
  refine ez_blk 2 rfl ?_
  show ez xs 54 155 [some (.ref 29), some (.ref 1), some (.int 1), some (.int k), some (.int (nI (sg t l s.1)))] [.int (nI 33), .int (nI (sg t l s.1))] m Q
  refine ez_icmp_ne rfl (fun h33 => ?_) (fun h => ?_)
  case refine_2 =>
    have e : pStmt t l s = if isV (sg t l (s.1 + 1)) ∧ sg t l (s.1 + 2) = 59 then some (pAdd l s 3 2 0 (nI (sg t l (s.1 + 1) - 97)) 0 0) else none := by
      unfold pStmt
      rw [if_neg n24, if_neg nt, if_pos ((E 33 (by omega)).mp h)]
    show ez xs 54 158 [some (.ref 29), some (.ref 1), some (.int 1), some (.int k), some (.int (nI (sg t l s.1)))] [] m Q
    refine ez_blk 1 rfl ?_
    show ez xs 54 159 [some (.ref 29), some (.ref 1), some (.int 1), some (.int k), some (.int (nI (sg t l s.1)))] [.ref 29] m Q
    refine ez_call (as := [.ref 29]) (rest := []) rfl (by decide) rfl ?_
    refine h_Parser_readReturn hk ht hl hI hC hct (fun q => ?_) (fun q1 q2 M hM hF => ?_)
    · show ez xs 54 162 [some (.ref 29), some (.ref 1), some (.int 1), some (.int k), some (.int (nI (sg t l s.1)))] [.int 0] m Q
      refine ez_blk 2 rfl ?_
      exact g0 (by rw [e, if_neg q]) m _ (frC_refl m)
    · show ez xs 54 162 [some (.ref 29), some (.ref 1), some (.int 1), some (.int k), some (.int (nI (sg t l s.1)))] [.int 1] M Q
      refine ez_blk 2 rfl ?_
      exact g _ (by rw [e, if_pos ⟨q1, q2⟩]) M _ hM hF
  have n33 : ¬ sg t l s.1 = 33 := fun q => h33 ((E 33 (by omega)).mpr q)
  show ez xs 54 166 [some (.ref 29), some (.ref 1), some (.int 1), some (.int k), some (.int (nI (sg t l s.1)))] [] m Q
  refine ez_blk 2 rfl ?_
  show ez xs 54 170 [some (.ref 29), some (.ref 1), some (.int 1), some (.int k), some (.int (nI (sg t l s.1)))] [.int (nI (sg t l s.1)), .ref 1000001] m Q
  refine ez_call (as := [.ref 1000001, .int (nI (sg t l s.1))]) (rest := []) rfl (by decide) rfl ?_
  refine c_String_indexOf2_1 ?_
  have v := ixF (m := m) lc
  generalize f_StringLatin1_indexOf_1 m (nI (sg t l s.1)) = x at v
  show ez xs 54 173 [some (.ref 29), some (.ref 1), some (.int 1), some (.int k), some (.int (nI (sg t l s.1)))] [.int x] m Q
  refine ez_if_ge rfl (fun h => ?_) (fun h => ?_)
  · have v := v.resolve_left (fun q => absurd q.1 (Int32.not_lt.mpr h))
    have e : pStmt t l s = if sg t l (s.1 + 1) = 40 ∧ isV (sg t l (s.1 + 2)) ∧ sg t l (s.1 + 3) = 41 ∧ sg t l (s.1 + 4) = 59 then some (pAdd l s 5 0 (nI (sg t l s.1 - 102)) (nI (sg t l (s.1 + 2) - 97)) 0 0) else none := by
      unfold pStmt
      rw [if_neg n24, if_neg nt, if_neg n33, if_pos v.2.1]
    show ez xs 54 183 [some (.ref 29), some (.ref 1), some (.int 1), some (.int k), some (.int (nI (sg t l s.1)))] [] m Q
    refine ez_blk 1 rfl ?_
    show ez xs 54 184 [some (.ref 29), some (.ref 1), some (.int 1), some (.int k), some (.int (nI (sg t l s.1)))] [.ref 29] m Q
    refine ez_call (as := [.ref 29]) (rest := []) rfl (by decide) rfl ?_
    refine h_Parser_readCall hk ht hl hI hC hct (fun q => ?_) (fun q M hM hF => ?_)
    · rw [Nat.add_zero] at q
      show ez xs 54 187 [some (.ref 29), some (.ref 1), some (.int 1), some (.int k), some (.int (nI (sg t l s.1)))] [.int 0] m Q
      refine ez_blk 1 rfl ?_
      exact g0 (by rw [e, if_neg (fun z => q ⟨v.2.1, z⟩)]) m _ (frC_refl m)
    · rw [Nat.add_zero] at q hM
      show ez xs 54 187 [some (.ref 29), some (.ref 1), some (.int 1), some (.int k), some (.int (nI (sg t l s.1)))] [.int 1] M Q
      refine ez_blk 1 rfl ?_
      exact g _ (by rw [e, if_pos q.2]) M _ hM hF
  · have nf : ¬ isF (sg t l s.1) := by
      rcases v with v | v
      · exact v.2
      · exact absurd (Int32.not_le.mp h) v.1
    have e : pStmt t l s = if isV (sg t l s.1) ∧ sg t l (s.1 + 1) = 61 ∧ isV (sg t l (s.1 + 2)) ∧ sg t l (s.1 + 3) = 59 then some (pAdd l s 4 1 0 (nI (sg t l s.1 - 97)) (nI (sg t l (s.1 + 2) - 97)) 0) else none := by
      unfold pStmt
      rw [if_neg n24, if_neg nt, if_neg n33, if_neg nf]
    show ez xs 54 176 [some (.ref 29), some (.ref 1), some (.int 1), some (.int k), some (.int (nI (sg t l s.1)))] [] m Q
    refine ez_blk 1 rfl ?_
    show ez xs 54 177 [some (.ref 29), some (.ref 1), some (.int 1), some (.int k), some (.int (nI (sg t l s.1)))] [.ref 29] m Q
    refine ez_call (as := [.ref 29]) (rest := []) rfl (by decide) rfl ?_
    refine h_Parser_readAssignment hk ht hl hI hC hct (fun q => ?_) (fun q M hM hF => ?_)
    · rw [Nat.add_zero] at q
      show ez xs 54 180 [some (.ref 29), some (.ref 1), some (.int 1), some (.int k), some (.int (nI (sg t l s.1)))] [.int 0] m Q
      refine ez_blk 2 rfl ?_
      exact g0 (by rw [e, if_neg q]) m _ (frC_refl m)
    · rw [Nat.add_zero] at q hM
      show ez xs 54 180 [some (.ref 29), some (.ref 1), some (.int 1), some (.int k), some (.int (nI (sg t l s.1)))] [.int 1] M Q
      refine ez_blk 2 rfl ?_
      exact g _ (by rw [e, if_pos q]) M _ hM hF
