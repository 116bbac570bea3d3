/-! The class's edges; the two readings, whole. -/
def frF (n : Nat) (e0 e1 : Int32) (m M : zM) : Prop := M (5 + n) 11 = e0 ∧ M (5 + n) 12 = e1 ∧ ∀ a b, ¬ (a = 5 + n ∧ (b = 11 ∨ b = 12)) → M a b = m a b
theorem h_Program_connectNode {xs : jx_Xs} {m : zM} {Q : Option Value → zM → Prop} {c n : Nat} {nd : Nat → Nat → Int32} {dep : Nat → Nat} (hc : c ≤ 24) (h : ∀ j, j < c → nOk c nd dep j) (h5 : m 3 1 = nI c) (hm : ∀ n, n < c → ∀ k, k < 11 → m (5 + n) k = nd n k) (hn : n < c) (g : ∀ M, frF n (pE0 c nd n) (pE1 c nd n) m M → Q none M) : ez xs 56 0 (jx_ent 56 [.ref 3, .int (nI n)]) [] m Q := by
  have h24 : n < 24 := by omega
  refine ez_blk 3 rfl ?_
  show ez xs 56 5 [some (.ref 3), some (.int (nI n)), none, none] [.int (nI n), .ref 4] m Q
  refine ez_rld (n := 24) (k := 5 + n) rfl (by decide) rfl rfl h24 (by omega) (z_ndr h24) ?_
  show ez xs 56 6 [some (.ref 3), some (.int (nI n)), none, none] [.ref (5 + n)] m Q
  refine ez_blk 3 rfl ?_
  show ez xs 56 9 [some (.ref 3), some (.int (nI n)), some (.ref (5 + n)), none] [.int (nI n), .ref 3] m Q
  refine ez_call (as := [.ref 3, .int (nI n)]) (rest := []) rfl (by decide) rfl ?_
  refine h_Program_after hc h h5 hm hn ?_
  generalize hB : aft c nd 7 n = B
  show ez xs 56 12 [some (.ref 3), some (.int (nI n)), some (.ref (5 + n)), none] [.int B] m Q
  refine ez_blk 3 rfl ?_
  show ez xs 56 15 [some (.ref 3), some (.int (nI n)), some (.ref (5 + n)), some (.int B)] [.int (-1), .ref (5 + n)] m Q
  refine ez_putN rfl (z_ndi h24) (z_nds h24) (by decide) rfl rfl ?_
  have f1 : ∀ a b, ¬ (a = 5 + n ∧ (b = 11 ∨ b = 12)) → jj_up m (5 + n) 12 (-1) a b = m a b := fun a b q => up_ne2 (by omega)
  have f2 : jj_up m (5 + n) 12 (-1) (5 + n) 12 = -1 := up_eq
  generalize jj_up m (5 + n) 12 (-1) = M1 at f1 f2
  have k : ∀ z, z < 11 → M1 (5 + n) z = nd n z := fun z hz => by rw [f1 (5 + n) z (by omega)]; exact hm n hn z hz
  show ez xs 56 18 [some (.ref 3), some (.int (nI n)), some (.ref (5 + n)), some (.int B)] [] M1 Q
  refine ez_blk 1 rfl ?_
  show ez xs 56 19 [some (.ref 3), some (.int (nI n)), some (.ref (5 + n)), some (.int B)] [.ref (5 + n)] M1 Q
  refine ez_getN rfl (z_ndi h24) (z_nds h24) (by decide) rfl ?_
  rw [k 0 (by omega)]
  refine ez_blk 1 rfl ?_
  show ez xs 56 23 [some (.ref 3), some (.int (nI n)), some (.ref (5 + n)), some (.int B)] [.int 2, .int (nd n 0)] M1 Q
  have FIN : ∀ M v w, (∀ a b, ¬ (a = 5 + n ∧ (b = 11 ∨ b = 12)) → M a b = m a b) → M (5 + n) 11 = v → M (5 + n) 12 = w → v = pE0 c nd n → w = pE1 c nd n → ez xs 56 128 [some (.ref 3), some (.int (nI n)), some (.ref (5 + n)), some (.int B)] [] M Q := fun M v w q1 q2 q3 q4 q5 => ez_ret rfl (by decide) rfl (g M ⟨by rw [q2, q4], by rw [q3, q5], q1⟩)
  have ONE : ∀ v, v = pE0 c nd n → -1 = pE1 c nd n → ∀ a b, ¬ (a = 5 + n ∧ (b = 11 ∨ b = 12)) → jj_up M1 (5 + n) 11 v a b = m a b := fun v _ _ a b q => by rw [up_ne2 (by omega)]; exact f1 a b q
  refine ez_icmp_ne rfl (fun k2 => ?_) (fun k2 => ?_)
  case refine_2 =>
    have k3 : ¬ nd n 0 = 3 := by rw [k2]; decide
    show ez xs 56 26 [some (.ref 3), some (.int (nI n)), some (.ref (5 + n)), some (.int B)] [] M1 Q
    refine ez_blk 3 rfl ?_
    show ez xs 56 31 [some (.ref 3), some (.int (nI n)), some (.ref (5 + n)), some (.int B)] [.int (M1 3 1), .ref (5 + n)] M1 Q
    rw [f1 3 1 (by omega), h5]
    refine ez_putN rfl (z_ndi h24) (z_nds h24) (by decide) rfl rfl ?_
    refine ez_blk 1 rfl ?_
    refine FIN (jj_up M1 (5 + n) 11 (nI c)) (nI c) (-1) (fun a b q => by rw [up_ne2 (by omega)]; exact f1 a b q) up_eq (by rw [up_k (by omega), f2]) ?_ ?_
    · unfold pE0; rw [if_pos k2]
    · unfold pE1; rw [if_neg k3]
  show ez xs 56 37 [some (.ref 3), some (.int (nI n)), some (.ref (5 + n)), some (.int B)] [] M1 Q
  refine ez_blk 1 rfl ?_
  show ez xs 56 38 [some (.ref 3), some (.int (nI n)), some (.ref (5 + n)), some (.int B)] [.ref (5 + n)] M1 Q
  refine ez_getN rfl (z_ndi h24) (z_nds h24) (by decide) rfl ?_
  rw [k 0 (by omega)]
  refine ez_blk 1 rfl ?_
  show ez xs 56 42 [some (.ref 3), some (.int (nI n)), some (.ref (5 + n)), some (.int B)] [.int 3, .int (nd n 0)] M1 Q
  refine ez_icmp_eq rfl (fun k3 => ?_) (fun k3 => ?_)
  case refine_2 =>
    show ez xs 56 45 [some (.ref 3), some (.int (nI n)), some (.ref (5 + n)), some (.int B)] [] M1 Q
    refine ez_blk 2 rfl ?_
    show ez xs 56 47 [some (.ref 3), some (.int (nI n)), some (.ref (5 + n)), some (.int B)] [.int B, .ref (5 + n)] M1 Q
    refine ez_putN rfl (z_ndi h24) (z_nds h24) (by decide) rfl rfl ?_
    refine ez_blk 1 rfl ?_
    refine FIN (jj_up M1 (5 + n) 11 B) B (-1) (fun a b q => by rw [up_ne2 (by omega)]; exact f1 a b q) up_eq (by rw [up_k (by omega), f2]) ?_ ?_
    · unfold pE0; rw [if_neg k2, if_neg k3]; exact hB.symm
    · unfold pE1; rw [if_neg k3]
  show ez xs 56 53 [some (.ref 3), some (.int (nI n)), some (.ref (5 + n)), some (.int B)] [] M1 Q
  refine ez_blk 1 rfl ?_
  show ez xs 56 54 [some (.ref 3), some (.int (nI n)), some (.ref (5 + n)), some (.int B)] [.ref (5 + n)] M1 Q
  refine ez_getN rfl (z_ndi h24) (z_nds h24) (by decide) rfl ?_
  rw [k 4 (by omega)]
  show ez xs 56 57 [some (.ref 3), some (.int (nI n)), some (.ref (5 + n)), some (.int B)] [.int (nd n 4)] M1 Q
  refine ez_if_eq rfl (fun q4 => ?_) (fun q4 => ?_)
  · show ez xs 56 88 [some (.ref 3), some (.int (nI n)), some (.ref (5 + n)), some (.int B)] [] M1 Q
    have P2 : ∀ v, v = pE0 c nd n → ez xs 56 105 [some (.ref 3), some (.int (nI n)), some (.ref (5 + n)), some (.int B)] [.int v, .ref (5 + n)] M1 Q := fun v hv => by
      refine ez_putN rfl (z_ndi h24) (z_nds h24) (by decide) rfl rfl ?_
      have f3 : ∀ a b, ¬ (a = 5 + n ∧ (b = 11 ∨ b = 12)) → jj_up M1 (5 + n) 11 v a b = m a b := fun a b q => by rw [up_ne2 (by omega)]; exact f1 a b q
      have f4 : jj_up M1 (5 + n) 11 v (5 + n) 11 = v := up_eq
      generalize jj_up M1 (5 + n) 11 v = M2 at f3 f4
      have W : ∀ w, w = pE1 c nd n → ez xs 56 125 [some (.ref 3), some (.int (nI n)), some (.ref (5 + n)), some (.int B)] [.int w, .ref (5 + n)] M2 Q := fun w hw => by
        refine ez_putN rfl (z_ndi h24) (z_nds h24) (by decide) rfl rfl ?_
        exact FIN _ v w (fun a b q => by rw [up_ne2 (by omega)]; exact f3 a b q) (by rw [up_k (by omega), f4]) up_eq hv hw
      show ez xs 56 108 [some (.ref 3), some (.int (nI n)), some (.ref (5 + n)), some (.int B)] [] M2 Q
      refine ez_blk 2 rfl ?_
      show ez xs 56 110 [some (.ref 3), some (.int (nI n)), some (.ref (5 + n)), some (.int B)] [.ref (5 + n), .ref (5 + n)] M2 Q
      refine ez_getN rfl (z_ndi h24) (z_nds h24) (by decide) rfl ?_
      rw [f3 (5 + n) 10 (by omega), hm n hn 10 (by omega)]
      refine ez_blk 1 rfl ?_
      show ez xs 56 114 [some (.ref 3), some (.int (nI n)), some (.ref (5 + n)), some (.int B)] [.int (-1), .int (nd n 10), .ref (5 + n)] M2 Q
      refine ez_icmp_ne rfl (fun z => ?_) (fun z => ?_)
      · show ez xs 56 121 [some (.ref 3), some (.int (nI n)), some (.ref (5 + n)), some (.int B)] [.ref (5 + n)] M2 Q
        refine ez_blk 1 rfl ?_
        show ez xs 56 122 [some (.ref 3), some (.int (nI n)), some (.ref (5 + n)), some (.int B)] [.ref (5 + n), .ref (5 + n)] M2 Q
        refine ez_getN rfl (z_ndi h24) (z_nds h24) (by decide) rfl ?_
        rw [f3 (5 + n) 10 (by omega), hm n hn 10 (by omega)]
        exact W _ (by unfold pE1; rw [if_pos k3, if_pos q4, if_neg z])
      · show ez xs 56 117 [some (.ref 3), some (.int (nI n)), some (.ref (5 + n)), some (.int B)] [.ref (5 + n)] M2 Q
        refine ez_blk 2 rfl ?_
        exact W B (by unfold pE1; rw [if_pos k3, if_pos q4, if_pos z]; exact hB.symm)
    refine ez_blk 2 rfl ?_
    show ez xs 56 90 [some (.ref 3), some (.int (nI n)), some (.ref (5 + n)), some (.int B)] [.ref (5 + n), .ref (5 + n)] M1 Q
    refine ez_getN rfl (z_ndi h24) (z_nds h24) (by decide) rfl ?_
    rw [k 9 (by omega)]
    refine ez_blk 1 rfl ?_
    show ez xs 56 94 [some (.ref 3), some (.int (nI n)), some (.ref (5 + n)), some (.int B)] [.int (-1), .int (nd n 9), .ref (5 + n)] M1 Q
    refine ez_icmp_ne rfl (fun z => ?_) (fun z => ?_)
    · show ez xs 56 101 [some (.ref 3), some (.int (nI n)), some (.ref (5 + n)), some (.int B)] [.ref (5 + n)] M1 Q
      refine ez_blk 1 rfl ?_
      show ez xs 56 102 [some (.ref 3), some (.int (nI n)), some (.ref (5 + n)), some (.int B)] [.ref (5 + n), .ref (5 + n)] M1 Q
      refine ez_getN rfl (z_ndi h24) (z_nds h24) (by decide) rfl ?_
      rw [k 9 (by omega)]
      exact P2 _ (by unfold pE0; rw [if_neg k2, if_pos k3, if_neg z])
    · show ez xs 56 97 [some (.ref 3), some (.int (nI n)), some (.ref (5 + n)), some (.int B)] [.ref (5 + n)] M1 Q
      refine ez_blk 2 rfl ?_
      exact P2 B (by unfold pE0; rw [if_neg k2, if_pos k3, if_pos z, if_pos q4]; exact hB.symm)
  · show ez xs 56 60 [some (.ref 3), some (.int (nI n)), some (.ref (5 + n)), some (.int B)] [] M1 Q
    have P2 : ∀ v, v = pE0 c nd n → ez xs 56 77 [some (.ref 3), some (.int (nI n)), some (.ref (5 + n)), some (.int B)] [.int v, .ref (5 + n)] M1 Q := fun v hv => by
      refine ez_putN rfl (z_ndi h24) (z_nds h24) (by decide) rfl rfl ?_
      show ez xs 56 80 [some (.ref 3), some (.int (nI n)), some (.ref (5 + n)), some (.int B)] [] (jj_up M1 (5 + n) 11 v) Q
      refine ez_blk 2 rfl ?_
      show ez xs 56 82 [some (.ref 3), some (.int (nI n)), some (.ref (5 + n)), some (.int B)] [.int B, .ref (5 + n)] (jj_up M1 (5 + n) 11 v) Q
      refine ez_putN rfl (z_ndi h24) (z_nds h24) (by decide) rfl rfl ?_
      refine ez_blk 1 rfl ?_
      refine FIN (jj_up (jj_up M1 (5 + n) 11 v) (5 + n) 12 B) v B (fun a b q => by rw [up_ne2 (by omega), up_ne2 (by omega)]; exact f1 a b q) (by rw [up_k (by omega), up_eq]) up_eq hv ?_
      unfold pE1; rw [if_pos k3, if_neg q4]; exact hB.symm
    refine ez_blk 2 rfl ?_
    show ez xs 56 62 [some (.ref 3), some (.int (nI n)), some (.ref (5 + n)), some (.int B)] [.ref (5 + n), .ref (5 + n)] M1 Q
    refine ez_getN rfl (z_ndi h24) (z_nds h24) (by decide) rfl ?_
    rw [k 9 (by omega)]
    refine ez_blk 1 rfl ?_
    show ez xs 56 66 [some (.ref 3), some (.int (nI n)), some (.ref (5 + n)), some (.int B)] [.int (-1), .int (nd n 9), .ref (5 + n)] M1 Q
    refine ez_icmp_ne rfl (fun z => ?_) (fun z => ?_)
    · show ez xs 56 73 [some (.ref 3), some (.int (nI n)), some (.ref (5 + n)), some (.int B)] [.ref (5 + n)] M1 Q
      refine ez_blk 1 rfl ?_
      show ez xs 56 74 [some (.ref 3), some (.int (nI n)), some (.ref (5 + n)), some (.int B)] [.ref (5 + n), .ref (5 + n)] M1 Q
      refine ez_getN rfl (z_ndi h24) (z_nds h24) (by decide) rfl ?_
      rw [k 9 (by omega)]
      exact P2 _ (by unfold pE0; rw [if_neg k2, if_pos k3, if_neg z])
    · show ez xs 56 69 [some (.ref 3), some (.int (nI n)), some (.ref (5 + n)), some (.int B)] [.ref (5 + n)] M1 Q
      refine ez_blk 2 rfl ?_
      exact P2 (nI n) (by unfold pE0; rw [if_neg k2, if_pos k3, if_pos z, if_neg q4])
/-- the class holds the graph; the reference holds it -/
def gC (m : zM) (c : Nat) (nd : Nat → Nat → Int32) : Prop := m 3 1 = nI c ∧ ∀ n, n < c → (∀ k, k < 11 → m (5 + n) k = nd n k) ∧ m (5 + n) 11 = pE0 c nd n ∧ m (5 + n) 12 = pE1 c nd n
def gM (m : zM) (c : Nat) (nd : Nat → Nat → Int32) : Prop := m 131 5 = nI c ∧ ∀ n, n < c → (∀ k, k < 11 → pMn m n k = nd n k) ∧ m 145 (2 * n) = pE0 c nd n ∧ m 145 (2 * n + 1) = pE1 c nd n
theorem h_Program_connect {xs : jx_Xs} {m : zM} {Q : Option Value → zM → Prop} {c : Nat} {nd : Nat → Nat → Int32} {dep : Nat → Nat} (hc : c ≤ 24) (h : ∀ j, j < c → nOk c nd dep j) (h5 : m 3 1 = nI c) (hm : ∀ n, n < c → ∀ k, k < 11 → m (5 + n) k = nd n k) (g : ∀ M, gC M c nd → (∀ a b, ¬ (5 ≤ a ∧ a ≤ 28) → M a b = m a b) → Q none M) : ez xs 57 0 (jx_ent 57 [.ref 3]) [] m Q := by
  have loop : ∀ (r i : Nat) (M : zM), i + r = c → (∀ a b, ¬ (5 ≤ a ∧ a ≤ 28) → M a b = m a b) → (∀ n, n < c → ∀ k, k < 11 → M (5 + n) k = nd n k) → (∀ n, n < i → M (5 + n) 11 = pE0 c nd n ∧ M (5 + n) 12 = pE1 c nd n) → ez xs 57 2 [some (.ref 3), some (.int (nI i))] [] M Q := by
    intro r
    induction r with
    | zero =>
      intro i M hi hF hk he
      refine ez_blk 3 rfl ?_
      show ez xs 57 7 [some (.ref 3), some (.int (nI i))] [.int (M 3 1), .int (nI i)] M Q
      have e : M 3 1 = nI c := by rw [hF 3 1 (by omega), h5]
      refine ez_icmp_ge rfl (fun _ => ?_) (fun q => ?_)
      · exact ez_ret rfl (by decide) rfl (g M ⟨e, fun n hn => ⟨hk n hn, he n (by omega)⟩⟩ hF)
      · rw [e] at q
        exact absurd (nI_le (by omega) (by omega)) q
    | succ r ih =>
      intro i M hi hF hk he
      have e : M 3 1 = nI c := by rw [hF 3 1 (by omega), h5]
      refine ez_blk 3 rfl ?_
      show ez xs 57 7 [some (.ref 3), some (.int (nI i))] [.int (M 3 1), .int (nI i)] M Q
      rw [e]
      refine ez_icmp_ge rfl (fun q => absurd q (nI_ge (by omega) (by omega))) (fun _ => ?_)
      show ez xs 57 10 [some (.ref 3), some (.int (nI i))] [] M Q
      refine ez_blk 2 rfl ?_
      show ez xs 57 12 [some (.ref 3), some (.int (nI i))] [.int (nI i), .ref 3] M Q
      refine ez_call (as := [.ref 3, .int (nI i)]) (rest := []) rfl (by decide) rfl ?_
      refine h_Program_connectNode hc h e hk (by omega) (fun N hN => ?_)
      refine ez_blk (pc' := 2) 2 rfl ?_
      show ez xs 57 2 [some (.ref 3), some (.int (nI i + 1))] [] N Q
      rw [nI_1]
      refine ih (i + 1) N (by omega) (fun a b q => ?_) (fun n hn k hk2 => ?_) (fun n hn => ?_)
      · rw [hN.2.2 a b (by omega)]; exact hF a b q
      · rw [hN.2.2 (5 + n) k (by omega)]; exact hk n hn k hk2
      · by_cases z : n = i
        · rw [z]; exact ⟨hN.1, hN.2.1⟩
        · rw [hN.2.2 (5 + n) 11 (by omega), hN.2.2 (5 + n) 12 (by omega)]; exact he n (by omega)
  refine ez_blk 2 rfl ?_
  exact loop c 0 m (by omega) (fun _ _ _ => rfl) hm (fun n hn => absurd hn (Nat.not_lt_zero n))
/-- what the reference's reading writes -/
def frN (m M : zM) : Prop := ∀ a b, ¬ (a = 131 ∧ (b = 2 ∨ b = 5 ∨ b = 20)) → ¬ (133 ≤ a ∧ a ≤ 148) → M a b = m a b
theorem h_M_read {xs : jx_Xs} {m : zM} {Q : Option Value → zM → Prop} {n : Nat} {t : Nat → Nat} (hok : txOk n t) (hx : txM m n t)
    (g0 : pParse t n = none → ∀ M, frN m M → Q (some (.int 0)) M)
    (g : ∀ s', pParse t n = some s' → ∀ M, gM M s'.2.2.1 s'.2.2.2.2.2.2 → frN m M → Q (some (.int 1)) M) : ez xs 71 0 (jx_ent 71 [.ref 131]) [] m Q := by
  have hn := hok.1
  have hl : (tk t n).2.length ≤ 160 := Nat.le_trans (tk_len t n) hn
  have ht : ∀ p ∈ (tk t n).2, t p ≤ 126 := fun p hp => (hok.2 p (tk_lt t n p hp)).2
  refine ez_blk 1 rfl ?_
  show ez xs 71 1 [some (.ref 131), none, none] [.ref 131] m Q
  refine ez_call (as := [.ref 131]) (rest := []) rfl (by decide) rfl ?_
  refine h_M_tokenize hok hx (fun M hM hF => ?_)
  show ez xs 71 4 [some (.ref 131), none, none] [.int (bI (!(tk t n).1))] M Q
  cases hb : (tk t n).1
  case true =>
    refine ez_if_ne rfl (fun z => absurd rfl z) (fun _ => ?_)
    show ez xs 71 7 [some (.ref 131), none, none] [] M Q
    refine ez_blk 1 rfl ?_
    show ez xs 71 8 [some (.ref 131), none, none] [.int 0] M Q
    exact ez_ret rfl (by decide) rfl (g0 (by unfold pParse; rw [if_pos hb]) M (fun a b q1 q2 => hF a b (by omega) (by omega) (by omega)))
  have e : pParse t n = pOk (tk t n).2.length (pRun t (tk t n).2 160 p0) := by unfold pParse; rw [if_neg (by rw [hb]; decide)]
  refine ez_if_ne rfl (fun _ => ?_) (fun z => absurd z (by decide))
  show ez xs 71 9 [some (.ref 131), none, none] [] M Q
  refine ez_blk 10 rfl ?_
  show ez xs 71 25 [some (.ref 131), none, none] [.int (-1), .int (nI 0), .ref 146] (jj_up (jj_up M 131 5 0) 131 20 0) Q
  refine ez_iast (n := 7) rfl (by decide) rfl (by omega) (by omega) ?_
  show ez xs 71 26 [some (.ref 131), none, none] [] (jj_up (jj_up (jj_up M 131 5 0) 131 20 0) 146 0 (-1)) Q
  refine ez_blk 4 rfl ?_
  show ez xs 71 32 [some (.ref 131), none, none] [.int (-1), .int (nI 0), .ref 148] (jj_up (jj_up (jj_up M 131 5 0) 131 20 0) 146 0 (-1)) Q
  refine ez_iast (n := 7) rfl (by decide) rfl (by omega) (by omega) ?_
  show ez xs 71 33 [some (.ref 131), none, none] [] (jj_up (jj_up (jj_up (jj_up M 131 5 0) 131 20 0) 146 0 (-1)) 148 0 (-1)) Q
  have hS : frM M (jj_up (jj_up (jj_up (jj_up M 131 5 0) 131 20 0) 146 0 (-1)) 148 0 (-1)) := fun a b q1 q2 q3 => by
    rw [up_ne2 (by omega), up_ne2 (by omega), up_ne2 (by omega), up_ne2 (by omega)]
  have c0 : pM (jj_up (jj_up (jj_up (jj_up M 131 5 0) 131 20 0) 146 0 (-1)) 148 0 (-1)) p0 := by
    refine ⟨?_, ?_, fun d hd => ?_, fun i hi => absurd hi (Nat.not_lt_zero _)⟩
    · simp (disch := omega) only [up_ne, up_k, up_eq]; rfl
    · simp (disch := omega) only [up_ne, up_k, up_eq]; rfl
    · have hd : d = 0 := Nat.le_zero.mp hd
      subst hd
      refine ⟨?_, fun z => absurd z (by omega), ?_⟩
      · simp (disch := omega) only [up_ne, up_k, up_eq]; rfl
      · simp (disch := omega) only [up_ne, up_k, up_eq]; rfl
  generalize jj_up (jj_up (jj_up (jj_up M 131 5 0) 131 20 0) 146 0 (-1)) 148 0 (-1) = S at hS c0
  refine ez_blk 4 rfl ?_
  have tr : ∀ N, frM S N → frN m N := fun N h a b q1 q2 => by
    rw [h a b (by omega) (by omega) (by omega), hS a b (by omega) (by omega) (by omega)]
    exact hF a b (by omega) (by omega) (by omega)
  refine rm_loop ht hl 160 0 p0 S (by omega) (tkM_fr hM hS) (p0_I _) c0 (fun q N h => g0 (e.trans q) N (tr N h)) (fun s' q N k' h1 h2 h3 => ?_)
  have q := e.trans q
  obtain ⟨jI, dep, A, B, -, hnd, -⟩ := pParse_J q
  have g := g s' q
  have h24 := jI.2.2.1
  have k3 : N 131 5 = nI s'.2.2.1 := h1.2.1
  have k5 : ∀ n, n < s'.2.2.1 → ∀ k, k < 11 → pMn N n k = s'.2.2.2.2.2.2 n k := h1.2.2.2
  generalize nI s'.1 = iv
  generalize s'.2.2.1 = c at g hnd h24 k3 k5
  generalize s'.2.2.2.2.2.2 = nd at g hnd k5
  have h3 := tr N h3
  have loop : ∀ (r i : Nat) (M : zM), i + r = c → frN m M → M 131 5 = nI c → (∀ n, n < c → ∀ k, k < 11 → pMn M n k = nd n k) → (∀ n, n < i → M 145 (2 * n) = pE0 c nd n ∧ M 145 (2 * n + 1) = pE1 c nd n) → ez xs 71 106 [some (.ref 131), some (.int iv), some (.int (nI i))] [] M Q := by
    intro r
    induction r with
    | zero =>
      intro i M hi hF e hk he
      refine ez_blk 3 rfl ?_
      show ez xs 71 111 [some (.ref 131), some (.int iv), some (.int (nI i))] [.int (M 131 5), .int (nI i)] M Q
      rw [e]
      refine ez_icmp_ge rfl (fun _ => ?_) (fun q => absurd (nI_le (by omega) (by omega)) q)
      show ez xs 71 125 [some (.ref 131), some (.int iv), some (.int (nI i))] [] M Q
      refine ez_blk 1 rfl ?_
      show ez xs 71 126 [some (.ref 131), some (.int iv), some (.int (nI i))] [.int 1] M Q
      exact ez_ret rfl (by decide) rfl (g M ⟨e, fun n hn => ⟨hk n hn, he n (by omega)⟩⟩ hF)
    | succ r ih =>
      intro i M hi hF e hk he
      refine ez_blk 3 rfl ?_
      show ez xs 71 111 [some (.ref 131), some (.int iv), some (.int (nI i))] [.int (M 131 5), .int (nI i)] M Q
      rw [e]
      refine ez_icmp_ge rfl (fun q => absurd q (nI_ge (by omega) (by omega))) (fun _ => ?_)
      show ez xs 71 114 [some (.ref 131), some (.int iv), some (.int (nI i))] [] M Q
      refine ez_blk 2 rfl ?_
      show ez xs 71 116 [some (.ref 131), some (.int iv), some (.int (nI i))] [.int (nI i), .ref 131] M Q
      refine ez_call (as := [.ref 131, .int (nI i)]) (rest := []) rfl (by decide) rfl ?_
      refine h_M_link h24 hnd e hk (by omega) (fun N hN => ?_)
      refine ez_blk (pc' := 106) 2 rfl ?_
      show ez xs 71 106 [some (.ref 131), some (.int iv), some (.int (nI i + 1))] [] N Q
      rw [nI_1]
      refine ih (i + 1) N (by omega) (fun a b q1 q2 => ?_) ?_ (fun n hn k hk2 => ?_) (fun n hn => ?_)
      · rw [hN.2.2 a b (by omega)]; exact hF a b q1 q2
      · rw [hN.2.2 131 5 (by omega)]; exact e
      · rw [pMn_same (m := M) (fun a z1 z2 => hN.2.2 a n (by omega)) (hN.2.2 _ _ (by omega)) (hN.2.2 _ _ (by omega))]; exact hk n hn k hk2
      · by_cases z : n = i
        · rw [z]; exact ⟨hN.1, hN.2.1⟩
        · rw [hN.2.2 145 (2 * n) (by omega), hN.2.2 145 (2 * n + 1) (by omega)]; exact he n (by omega)
  refine ez_blk 2 rfl ?_
  exact loop c 0 N (by omega) h3 k3 k5 (fun n hn => absurd hn (Nat.not_lt_zero n))
