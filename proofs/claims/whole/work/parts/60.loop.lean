/-! The class's reading: at most 160 turns. -/
def pRun (t : Nat → Nat) (l : List Nat) : Nat → pS → Option pS
  | 0, s => some s
  | n + 1, s => if s.1 < l.length then (pStep t l s).bind (pRun t l n) else some s
/-- what was read is a whole text -/
def pOk (N : Nat) (r : Option pS) : Option pS := r.bind (fun s => if s.1 = N ∧ s.2.1 = 0 then some s else none)
theorem rd_no {xs : jx_Xs} {m : zM} {Q : Option Value → zM → Prop} {k : Int32} {o : Option Value} (g : Q (some (.int 0)) m) : ez xs 54 194 [some (.ref 29), some (.ref 1), some (.int 0), some (.int k), o] [] m Q := by
  refine ez_blk 1 rfl ?_
  show ez xs 54 195 [some (.ref 29), some (.ref 1), some (.int 0), some (.int k), o] [.int 0] m Q
  refine ez_if_eq rfl (fun _ => ?_) (fun h => absurd rfl h)
  show ez xs 54 223 [some (.ref 29), some (.ref 1), some (.int 0), some (.int k), o] [] m Q
  refine ez_blk 1 rfl ?_
  show ez xs 54 224 [some (.ref 29), some (.ref 1), some (.int 0), some (.int k), o] [.int 0] m Q
  exact ez_ret rfl (by decide) rfl g
theorem rd_no2 {xs : jx_Xs} {m : zM} {Q : Option Value → zM → Prop} {k : Int32} {o : Option Value} (g : Q (some (.int 0)) m) : ez xs 54 188 [some (.ref 29), some (.ref 1), some (.int 0), some (.int k), o] [] m Q := by
  refine ez_blk 2 rfl ?_
  show ez xs 54 55 [some (.ref 29), some (.ref 1), some (.int 0), some (.int (k + 1)), o] [] m Q
  refine ez_blk 2 rfl ?_
  show ez xs 54 59 [some (.ref 29), some (.ref 1), some (.int 0), some (.int (k + 1)), o] [.int 160, .int (k + 1)] m Q
  refine ez_icmp_ge rfl (fun _ => rd_no g) (fun _ => ?_)
  show ez xs 54 62 [some (.ref 29), some (.ref 1), some (.int 0), some (.int (k + 1)), o] [] m Q
  refine ez_blk 4 rfl ?_
  show ez xs 54 70 [some (.ref 29), some (.ref 1), some (.int 0), some (.int (k + 1)), o] [.ref 30, .int (m 29 6)] m Q
  refine ez_call (as := [.ref 30]) (rest := [.int (m 29 6)]) rfl (by decide) rfl ?_
  refine c_Tokens_size ?_
  show ez xs 54 73 [some (.ref 29), some (.ref 1), some (.int 0), some (.int (k + 1)), o] [.int (m 30 2), .int (m 29 6)] m Q
  refine ez_icmp_ge rfl (fun _ => rd_no g) (fun _ => ?_)
  show ez xs 54 76 [some (.ref 29), some (.ref 1), some (.int 0), some (.int (k + 1)), o] [] m Q
  refine ez_blk 1 rfl ?_
  show ez xs 54 77 [some (.ref 29), some (.ref 1), some (.int 0), some (.int (k + 1)), o] [.int 0] m Q
  exact ez_if_eq rfl (fun _ => rd_no g) (fun h => absurd rfl h)
theorem rd_yes {xs : jx_Xs} {m : zM} {Q : Option Value → zM → Prop} {t : Nat → Nat} {l : List Nat} {s : pS} {k : Int32} {o : Option Value} (hk : tkC m t l) (hl : l.length ≤ 160) (hI : pI l.length s) (hC : pC m s)
    (g0 : pOk l.length (some s) = none → Q (some (.int 0)) m) (g : pOk l.length (some s) = some s → Q (some (.int 1)) m) : ez xs 54 194 [some (.ref 29), some (.ref 1), some (.int 1), some (.int k), o] [] m Q := by
  have i1 := hI.1
  have i2 := hI.2.1
  have e1 : m 29 6 = m 30 2 ↔ s.1 = l.length := by rw [hC.1, hk.1]; exact nI_eq (by omega) (by omega)
  have e2 : m 29 5 = 0 ↔ s.2.1 = 0 := by rw [hC.2.1]; exact nI_eq (b := 0) (by omega) (by omega)
  have no : ¬ (s.1 = l.length ∧ s.2.1 = 0) → ez xs 54 223 [some (.ref 29), some (.ref 1), some (.int 1), some (.int k), o] [] m Q := fun h => by
    refine ez_blk 1 rfl ?_
    show ez xs 54 224 [some (.ref 29), some (.ref 1), some (.int 1), some (.int k), o] [.int 0] m Q
    exact ez_ret rfl (by decide) rfl (g0 (by unfold pOk; rw [Option.bind_some, if_neg h]))
  refine ez_blk 1 rfl ?_
  show ez xs 54 195 [some (.ref 29), some (.ref 1), some (.int 1), some (.int k), o] [.int 1] m Q
  refine ez_if_eq rfl (fun h => absurd h (by decide)) (fun _ => ?_)
  show ez xs 54 198 [some (.ref 29), some (.ref 1), some (.int 1), some (.int k), o] [] m Q
  refine ez_blk 4 rfl ?_
  show ez xs 54 206 [some (.ref 29), some (.ref 1), some (.int 1), some (.int k), o] [.ref 30, .int (m 29 6)] m Q
  refine ez_call (as := [.ref 30]) (rest := [.int (m 29 6)]) rfl (by decide) rfl ?_
  refine c_Tokens_size ?_
  show ez xs 54 209 [some (.ref 29), some (.ref 1), some (.int 1), some (.int k), o] [.int (m 30 2), .int (m 29 6)] m Q
  refine ez_icmp_ne rfl (fun h => no (fun q => h (e1.mpr q.1))) (fun h => ?_)
  show ez xs 54 212 [some (.ref 29), some (.ref 1), some (.int 1), some (.int k), o] [] m Q
  refine ez_blk 2 rfl ?_
  show ez xs 54 216 [some (.ref 29), some (.ref 1), some (.int 1), some (.int k), o] [.int (m 29 5)] m Q
  refine ez_if_ne rfl (fun h2 => no (fun q => h2 (e2.mpr q.2))) (fun h2 => ?_)
  show ez xs 54 219 [some (.ref 29), some (.ref 1), some (.int 1), some (.int k), o] [] m Q
  refine ez_blk 2 rfl ?_
  show ez xs 54 224 [some (.ref 29), some (.ref 1), some (.int 1), some (.int k), o] [.int 1] m Q
  exact ez_ret rfl (by decide) rfl (g (by unfold pOk; rw [Option.bind_some, if_pos ⟨e1.mp h, e2.mp h2⟩]))
theorem rd_loop {xs : jx_Xs} {Q : Option Value → zM → Prop} {t : Nat → Nat} {l : List Nat} (ht : ∀ p ∈ l, t p ≤ 126) (hl : l.length ≤ 160) : ∀ (n k : Nat) (s : pS) (m : zM) (o : Option Value), k + n = 160 → tkC m t l → pI l.length s → pC m s →
    (pOk l.length (pRun t l n s) = none → ∀ M, frC m M → Q (some (.int 0)) M) →
    (∀ s', pOk l.length (pRun t l n s) = some s' → ∀ M, pC M s' → pI l.length s' → frC m M → Q (some (.int 1)) M) → ez xs 54 55 [some (.ref 29), some (.ref 1), some (.int 1), some (.int (nI k)), o] [] m Q := by
  intro n
  induction n with
  | zero =>
    intro k s m o hn hk hI hC g0 g
    refine ez_blk 2 rfl ?_
    show ez xs 54 59 [some (.ref 29), some (.ref 1), some (.int 1), some (.int (nI k)), o] [.int (nI 160), .int (nI k)] m Q
    refine ez_icmp_ge rfl (fun _ => ?_) (fun h => absurd (by rw [show k = 160 by omega]; decide) h)
    exact rd_yes hk hl hI hC (fun q => g0 q m (frC_refl m)) (fun q => g s q m hC hI (frC_refl m))
  | succ n ih =>
    intro k s m o hn hk hI hC g0 g
    have i1 := hI.1
    refine ez_blk 2 rfl ?_
    show ez xs 54 59 [some (.ref 29), some (.ref 1), some (.int 1), some (.int (nI k)), o] [.int (nI 160), .int (nI k)] m Q
    refine ez_icmp_ge rfl (fun h => absurd h (nI_ge (by omega) (by omega))) (fun _ => ?_)
    show ez xs 54 62 [some (.ref 29), some (.ref 1), some (.int 1), some (.int (nI k)), o] [] m Q
    refine ez_blk 4 rfl ?_
    show ez xs 54 70 [some (.ref 29), some (.ref 1), some (.int 1), some (.int (nI k)), o] [.ref 30, .int (m 29 6)] m Q
    refine ez_call (as := [.ref 30]) (rest := [.int (m 29 6)]) rfl (by decide) rfl ?_
    refine c_Tokens_size ?_
    show ez xs 54 73 [some (.ref 29), some (.ref 1), some (.int 1), some (.int (nI k)), o] [.int (m 30 2), .int (m 29 6)] m Q
    have e1 : m 30 2 ≤ m 29 6 ↔ l.length ≤ s.1 := by rw [hC.1, hk.1]; exact nI_leI (by omega) (by omega)
    refine ez_icmp_ge rfl (fun h => ?_) (fun h => ?_)
    · have e : pRun t l (n + 1) s = some s := by
        rw [pRun, if_neg (by have := e1.mp h; omega)]
      rw [e] at g0 g
      exact rd_yes hk hl hI hC (fun q => g0 q m (frC_refl m)) (fun q => g s q m hC hI (frC_refl m))
    have hs : s.1 < l.length := by
      by_cases z : s.1 < l.length
      · exact z
      · exact absurd (e1.mpr (by omega)) h
    have e : pRun t l (n + 1) s = (pStep t l s).bind (pRun t l n) := by rw [pRun, if_pos hs]
    rw [e] at g0 g
    show ez xs 54 76 [some (.ref 29), some (.ref 1), some (.int 1), some (.int (nI k)), o] [] m Q
    refine ez_blk 1 rfl ?_
    show ez xs 54 77 [some (.ref 29), some (.ref 1), some (.int 1), some (.int (nI k)), o] [.int 1] m Q
    refine ez_if_eq rfl (fun h => absurd h (by decide)) (fun _ => ?_)
    refine h_turn hk ht hl hI hC hs (fun q M o' hF => ?_) (fun s' q M o' hM hF => ?_)
    · exact rd_no2 (g0 (by rw [q]; rfl) M hF)
    · rw [q, Option.bind_some] at g0 g
      refine ez_blk 2 rfl ?_
      show ez xs 54 55 [some (.ref 29), some (.ref 1), some (.int 1), some (.int (nI k + 1)), o'] [] M Q
      rw [nI_1]
      exact ih (k + 1) s' M o' (by omega) (tkC_fr hk hF) (pStep_I hI hs q) hM (fun z N hN => g0 z N (frC_trans hF hN)) (fun s2 z N h1 h2 hN => g s2 z N h1 h2 (frC_trans hF hN))
