/-! The reference's reading: its loop follows pRun. -/
theorem frM_refl (m : zM) : frM m m := fun _ _ _ _ _ => rfl
theorem frM_trans {m M N : zM} (h1 : frM m M) (h2 : frM M N) : frM m N := fun a b q1 q2 q3 => (h2 a b q1 q2 q3).trans (h1 a b q1 q2 q3)
theorem tkM_fr {m M : zM} {t : Nat → Nat} {l : List Nat} (hk : tkM m t l) (hF : frM m M) : tkM M t l := by
  refine ⟨?_, fun j p h => ?_⟩
  · rw [hF 131 2 (by omega) (by omega) (by omega)]
    exact hk.1
  · rw [hF 133 j (by omega) (by omega) (by omega), hF 134 j (by omega) (by omega) (by omega)]
    exact hk.2 j p h
theorem rm_no {xs : jx_Xs} {m : zM} {Q : Option Value → zM → Prop} {i k : Int32} (g : Q (some (.int 0)) m) : ez xs 71 102 [some (.ref 131), some (.int i), some (.int k)] [] m Q := by
  refine ez_blk 1 rfl ?_
  show ez xs 71 103 [some (.ref 131), some (.int i), some (.int k)] [.int 0] m Q
  exact ez_ret rfl (by decide) rfl g
theorem rm_m1 {xs : jx_Xs} {m : zM} {Q : Option Value → zM → Prop} {t : Nat → Nat} {l : List Nat} {k : Int32} (hk : tkM m t l) (hl : l.length ≤ 160) (g : Q (some (.int 0)) m) : ez xs 71 37 [some (.ref 131), some (.int (-1)), some (.int k)] [] m Q := by
  have E : ez xs 71 87 [some (.ref 131), some (.int (-1)), some (.int k)] [] m Q := by
    refine ez_blk 3 rfl ?_
    show ez xs 71 92 [some (.ref 131), some (.int (-1)), some (.int k)] [.int (m 131 2), .int (-1)] m Q
    refine ez_icmp_ne rfl (fun _ => rm_no g) (fun h => ?_)
    rw [hk.1] at h
    exact absurd h.symm (n1_ne _ (by omega))
  refine ez_blk 2 rfl ?_
  show ez xs 71 41 [some (.ref 131), some (.int (-1)), some (.int k)] [.int 160, .int k] m Q
  refine ez_icmp_ge rfl (fun _ => E) (fun _ => ?_)
  show ez xs 71 44 [some (.ref 131), some (.int (-1)), some (.int k)] [] m Q
  refine ez_blk 1 rfl ?_
  show ez xs 71 45 [some (.ref 131), some (.int (-1)), some (.int k)] [.int (-1)] m Q
  exact ez_if_lt rfl (fun _ => E) (fun h => absurd (by decide) h)
theorem rm_yes {xs : jx_Xs} {m : zM} {Q : Option Value → zM → Prop} {t : Nat → Nat} {l : List Nat} {s : pS} {k : Int32} (hk : tkM m t l) (hl : l.length ≤ 160) (hI : pI l.length s) (hC : pM m s)
    (g0 : pOk l.length (some s) = none → Q (some (.int 0)) m) (g : pOk l.length (some s) = some s → ez xs 71 104 [some (.ref 131), some (.int (nI s.1)), some (.int k)] [] m Q) : ez xs 71 87 [some (.ref 131), some (.int (nI s.1)), some (.int k)] [] m Q := by
  have i1 := hI.1
  have i2 := hI.2.1
  have e1 : nI s.1 = m 131 2 ↔ s.1 = l.length := by rw [hk.1]; exact nI_eq (by omega) (by omega)
  have e2 : m 131 20 = 0 ↔ s.2.1 = 0 := by rw [hC.1]; exact nI_eq (b := 0) (by omega) (by omega)
  have no : ¬ (s.1 = l.length ∧ s.2.1 = 0) → ez xs 71 102 [some (.ref 131), some (.int (nI s.1)), some (.int k)] [] m Q := fun h => rm_no (g0 (by unfold pOk; rw [Option.bind_some, if_neg h]))
  refine ez_blk 3 rfl ?_
  show ez xs 71 92 [some (.ref 131), some (.int (nI s.1)), some (.int k)] [.int (m 131 2), .int (nI s.1)] m Q
  refine ez_icmp_ne rfl (fun h => no (fun q => h (e1.mpr q.1))) (fun h => ?_)
  show ez xs 71 95 [some (.ref 131), some (.int (nI s.1)), some (.int k)] [] m Q
  refine ez_blk 2 rfl ?_
  show ez xs 71 99 [some (.ref 131), some (.int (nI s.1)), some (.int k)] [.int (m 131 20)] m Q
  refine ez_if_eq rfl (fun h2 => ?_) (fun h2 => no (fun q => h2 (e2.mpr q.2)))
  exact g (by unfold pOk; rw [Option.bind_some, if_pos ⟨e1.mp h, e2.mp h2⟩])
theorem rm_loop {xs : jx_Xs} {Q : Option Value → zM → Prop} {t : Nat → Nat} {l : List Nat} (ht : ∀ p ∈ l, t p ≤ 126) (hl : l.length ≤ 160) : ∀ (n k : Nat) (s : pS) (m : zM), k + n = 160 → tkM m t l → pI l.length s → pM m s →
    (pOk l.length (pRun t l n s) = none → ∀ M, frM m M → Q (some (.int 0)) M) →
    (∀ s', pOk l.length (pRun t l n s) = some s' → ∀ M k', pM M s' → pI l.length s' → frM m M → ez xs 71 104 [some (.ref 131), some (.int (nI s'.1)), some (.int k')] [] M Q) → ez xs 71 37 [some (.ref 131), some (.int (nI s.1)), some (.int (nI k))] [] m Q := by
  intro n
  induction n with
  | zero =>
    intro k s m hn hk hI hC g0 g
    refine ez_blk 2 rfl ?_
    show ez xs 71 41 [some (.ref 131), some (.int (nI s.1)), some (.int (nI k))] [.int (nI 160), .int (nI k)] m Q
    refine ez_icmp_ge rfl (fun _ => ?_) (fun h => absurd (by rw [show k = 160 by omega]; decide) h)
    exact rm_yes hk hl hI hC (fun q => g0 q m (frM_refl m)) (fun q => g s q m _ hC hI (frM_refl m))
  | succ n ih =>
    intro k s m hn hk hI hC g0 g
    have i1 := hI.1
    refine ez_blk 2 rfl ?_
    show ez xs 71 41 [some (.ref 131), some (.int (nI s.1)), some (.int (nI k))] [.int (nI 160), .int (nI k)] m Q
    refine ez_icmp_ge rfl (fun h => absurd h (nI_ge (by omega) (by omega))) (fun _ => ?_)
    show ez xs 71 44 [some (.ref 131), some (.int (nI s.1)), some (.int (nI k))] [] m Q
    refine ez_blk 1 rfl ?_
    show ez xs 71 45 [some (.ref 131), some (.int (nI s.1)), some (.int (nI k))] [.int (nI s.1)] m Q
    refine ez_if_lt rfl (fun h => absurd h (nI_pos (by omega))) (fun _ => ?_)
    show ez xs 71 48 [some (.ref 131), some (.int (nI s.1)), some (.int (nI k))] [] m Q
    refine ez_blk 3 rfl ?_
    show ez xs 71 53 [some (.ref 131), some (.int (nI s.1)), some (.int (nI k))] [.int (m 131 2), .int (nI s.1)] m Q
    have e1 : m 131 2 ≤ nI s.1 ↔ l.length ≤ s.1 := by rw [hk.1]; exact nI_leI (by omega) (by omega)
    refine ez_icmp_ge rfl (fun h => ?_) (fun h => ?_)
    · have e : pRun t l (n + 1) s = some s := by
        rw [pRun, if_neg (by have := e1.mp h; omega)]
      rw [e] at g0 g
      exact rm_yes hk hl hI hC (fun q => g0 q m (frM_refl m)) (fun q => g s q m _ hC hI (frM_refl m))
    have hs : s.1 < l.length := by
      by_cases z : s.1 < l.length
      · exact z
      · exact absurd (e1.mpr (by omega)) h
    have e : pRun t l (n + 1) s = (pStep t l s).bind (pRun t l n) := by rw [pRun, if_pos hs]
    rw [e] at g0 g
    show ez xs 71 56 [some (.ref 131), some (.int (nI s.1)), some (.int (nI k))] [] m Q
    refine ez_blk 3 rfl ?_
    show ez xs 71 61 [some (.ref 131), some (.int (nI s.1)), some (.int (nI k))] [.int (nI s.1), .ref 133] m Q
    refine ez_iald (n := 160) rfl (by decide) rfl (by omega) (by omega) ?_
    have sv : m 133 s.1 = nI (sg t l s.1) := by
      unfold sg
      rw [if_pos hs]
      exact (hk.2 s.1 _ (gd_at hs)).1
    rw [sv]
    show ez xs 71 62 [some (.ref 131), some (.int (nI s.1)), some (.int (nI k))] [.int (nI (sg t l s.1))] m Q
    refine ez_blk 1 rfl ?_
    show ez xs 71 64 [some (.ref 131), some (.int (nI s.1)), some (.int (nI k))] [.int (nI 125), .int (nI (sg t l s.1))] m Q
    have e125 : nI (sg t l s.1) = nI 125 ↔ sg t l s.1 = 125 := nI_eq (by have := sg_le ht s.1; omega) (by omega)
    have NO : pStep t l s = none → ∀ M, frM m M → ez xs 71 37 [some (.ref 131), some (.int (-1)), some (.int (nI k + 1))] [] M Q := fun q M hF => rm_m1 (tkM_fr hk hF) hl (g0 (by rw [q]; rfl) M hF)
    have YES : ∀ s', pStep t l s = some s' → ∀ M, pM M s' → frM m M → ez xs 71 37 [some (.ref 131), some (.int (nI s'.1)), some (.int (nI k + 1))] [] M Q := fun s' q M hM hF => by
      rw [q, Option.bind_some] at g0 g
      rw [nI_1]
      exact ih (k + 1) s' M (by omega) (tkM_fr hk hF) (pStep_I hI hs q) hM (fun z N hN => g0 z N (frM_trans hF hN)) (fun s2 z N k' h1 h2 hN => g s2 z N k' h1 h2 (frM_trans hF hN))
    refine ez_icmp_ne rfl (fun h => ?_) (fun h => ?_)
    · have e : pStep t l s = pStmt t l s := by unfold pStep; rw [if_neg (fun q => h (e125.mpr q))]
      rw [e] at NO YES
      show ez xs 71 75 [some (.ref 131), some (.int (nI s.1)), some (.int (nI k))] [] m Q
      refine ez_blk 2 rfl ?_
      show ez xs 71 77 [some (.ref 131), some (.int (nI s.1)), some (.int (nI k))] [.int (nI s.1), .ref 131] m Q
      refine ez_call (as := [.ref 131, .int (nI s.1)]) (rest := []) rfl (by decide) rfl ?_
      refine h_M_statement hk ht hl hI hC hs (fun q M hF => ?_) (fun s' q M hM hF => ?_)
      · refine ez_blk (pc' := 37) 3 rfl ?_
        exact NO q M hF
      · refine ez_blk (pc' := 37) 3 rfl ?_
        exact YES s' q M hM hF
    · have e : pStep t l s = pClose t l s := by unfold pStep; rw [if_pos (e125.mp h)]
      rw [e] at NO YES
      show ez xs 71 67 [some (.ref 131), some (.int (nI s.1)), some (.int (nI k))] [] m Q
      refine ez_blk 2 rfl ?_
      show ez xs 71 69 [some (.ref 131), some (.int (nI s.1)), some (.int (nI k))] [.int (nI s.1), .ref 131] m Q
      refine ez_call (as := [.ref 131, .int (nI s.1)]) (rest := []) rfl (by decide) rfl ?_
      refine h_M_close hk ht hl hI hC (fun q M hF => ?_) (fun s' q M hM hF => ?_)
      · refine ez_blk (pc' := 37) 4 rfl ?_
        exact NO q M (fun a b q1 q2 q3 => hF a b (by omega) (by omega) (by omega) (by omega))
      · refine ez_blk (pc' := 37) 4 rfl ?_
        exact YES s' q M hM (fun a b q1 q2 q3 => hF a b (by omega) (by omega) (by omega) (by omega))
