/-! Edges, on both sides. -/
def pE0 (c : Nat) (nd : Nat → Nat → Int32) (n : Nat) : Int32 := if nd n 0 = 2 then nI c else if nd n 0 = 3 then (if nd n 9 = -1 then (if nd n 4 = 0 then aft c nd 7 n else nI n) else nd n 9) else aft c nd 7 n
def pE1 (c : Nat) (nd : Nat → Nat → Int32) (n : Nat) : Int32 := if nd n 0 = 3 then (if nd n 4 = 0 then (if nd n 10 = -1 then aft c nd 7 n else nd n 10) else aft c nd 7 n) else -1
/-- the store in which edge k of node n is written: class, reference -/
def frE (n : Nat) (e0 e1 : Int32) (m M : zM) : Prop := M 145 (2 * n) = e0 ∧ M 145 (2 * n + 1) = e1 ∧ ∀ a b, ¬ (a = 145 ∧ (b = 2 * n ∨ b = 2 * n + 1)) → M a b = m a b
theorem h_M_link {xs : jx_Xs} {m : zM} {Q : Option Value → zM → Prop} {c n : Nat} {nd : Nat → Nat → Int32} {dep : Nat → Nat} (hc : c ≤ 24) (h : ∀ j, j < c → nOk c nd dep j) (h5 : m 131 5 = nI c) (hm : ∀ n, n < c → ∀ k, k < 11 → pMn m n k = nd n k) (hn : n < c) (g : ∀ M, frE n (pE0 c nd n) (pE1 c nd n) m M → Q none M) : ez xs 70 0 (jx_ent 70 [.ref 131, .int (nI n)]) [] m Q := by
  have a87 : aft c nd 8 n = aft c nd 7 n := aft_more hc h 7 n hn (by have := (h n hn).1; omega)
  have d2 : (2 : Int32) * nI n = nI (2 * n) := by rw [show (2 : Int32) = nI 2 from rfl, pk_mul]
  have d3 : nI (2 * n) + 1 = nI (2 * n + 1) := nI_1 _
  have c2 : (nI (2 * n)).toNatClampNeg = 2 * n := nI_clamp (by omega)
  have c3 : (nI (2 * n + 1)).toNatClampNeg = 2 * n + 1 := nI_clamp (by omega)
  have e0 : m 135 n = nd n 0 := hm n hn 0 (by omega)
  have e4 : m 143 n = nd n 4 := hm n hn 4 (by omega)
  have e9 : m 144 (2 * n) = nd n 9 := hm n hn 9 (by omega)
  have e10 : m 144 (2 * n + 1) = nd n 10 := hm n hn 10 (by omega)
  obtain ⟨-, -, n3, n4⟩ := h n hn
  have f9 : nd n 9 < 0 ↔ nd n 9 = -1 := by
    rcases n3 9 (by omega) (by omega) with q | ⟨i, i1, q⟩
    · rw [q]; decide
    · rw [q]; exact ⟨fun z => absurd z (nI_pos (by omega)), fun z => absurd z (n1_ne i (by omega))⟩
  have f10 : nd n 10 < 0 ↔ nd n 10 = -1 := by
    rcases n3 10 (by omega) (by omega) with q | ⟨i, i1, q⟩
    · rw [q]; decide
    · rw [q]; exact ⟨fun z => absurd z (nI_pos (by omega)), fun z => absurd z (n1_ne i (by omega))⟩
  refine ez_blk 2 rfl ?_
  show ez xs 70 2 [some (.ref 131), some (.int (nI n)), none, none, none] [.int (nI n), .ref 131] m Q
  refine ez_call (as := [.ref 131, .int (nI n)]) (rest := []) rfl (by decide) rfl ?_
  refine h_M_after hc h h5 hm hn ?_
  rw [a87]
  generalize hB : aft c nd 7 n = B
  show ez xs 70 5 [some (.ref 131), some (.int (nI n)), none, none, none] [.int B] m Q
  refine ez_blk 6 rfl ?_
  show ez xs 70 13 [some (.ref 131), some (.int (nI n)), some (.int B), none, none] [.int (2 * nI n), .ref 144] m Q
  rw [d2]
  refine ez_iald (n := 48) rfl (by decide) rfl (by omega) (by omega) ?_
  rw [e9]
  show ez xs 70 14 [some (.ref 131), some (.int (nI n)), some (.int B), none, none] [.int (nd n 9)] m Q
  refine ez_blk 8 rfl ?_
  show ez xs 70 24 [some (.ref 131), some (.int (nI n)), some (.int B), some (.int (nd n 9)), none] [.int (2 * nI n + 1), .ref 144] m Q
  rw [d2, d3]
  refine ez_iald (n := 48) rfl (by decide) rfl (by omega) (by omega) ?_
  rw [e10]
  show ez xs 70 25 [some (.ref 131), some (.int (nI n)), some (.int B), some (.int (nd n 9)), none] [.int (nd n 10)] m Q
  refine ez_blk 7 rfl ?_
  show ez xs 70 35 [some (.ref 131), some (.int (nI n)), some (.int B), some (.int (nd n 9)), some (.int (nd n 10))] [.int B, .int (2 * nI n), .ref 145] m Q
  rw [d2]
  refine ez_iast (n := 48) rfl (by decide) rfl (by omega) (by omega) ?_
  show ez xs 70 36 [some (.ref 131), some (.int (nI n)), some (.int B), some (.int (nd n 9)), some (.int (nd n 10))] [] (jj_up m 145 (2 * n) B) Q
  refine ez_blk 8 rfl ?_
  show ez xs 70 46 [some (.ref 131), some (.int (nI n)), some (.int B), some (.int (nd n 9)), some (.int (nd n 10))] [.int (-1), .int (2 * nI n + 1), .ref 145] (jj_up m 145 (2 * n) B) Q
  rw [d2, d3]
  refine ez_iast (n := 48) rfl (by decide) rfl (by omega) (by omega) ?_
  have fr1 : frE n B (-1) m (jj_up (jj_up m 145 (2 * n) B) 145 (2 * n + 1) (-1)) := ⟨by rw [up_k (by omega), up_eq], up_eq, fun a b q => by rw [up_ne2 (by omega), up_ne2 (by omega)]⟩
  generalize jj_up (jj_up m 145 (2 * n) B) 145 (2 * n + 1) (-1) = M1 at fr1
  have k1 : M1 135 n = nd n 0 := by rw [fr1.2.2 135 n (by omega), e0]
  show ez xs 70 47 [some (.ref 131), some (.int (nI n)), some (.int B), some (.int (nd n 9)), some (.int (nd n 10))] [] M1 Q
  refine ez_blk 3 rfl ?_
  show ez xs 70 52 [some (.ref 131), some (.int (nI n)), some (.int B), some (.int (nd n 9)), some (.int (nd n 10))] [.int (nI n), .ref 135] M1 Q
  refine ez_iald (n := 24) rfl (by decide) rfl (by omega) (by omega) ?_
  rw [k1]
  show ez xs 70 53 [some (.ref 131), some (.int (nI n)), some (.int B), some (.int (nd n 9)), some (.int (nd n 10))] [.int (nd n 0)] M1 Q
  refine ez_blk 1 rfl ?_
  show ez xs 70 54 [some (.ref 131), some (.int (nI n)), some (.int B), some (.int (nd n 9)), some (.int (nd n 10))] [.int 2, .int (nd n 0)] M1 Q
  have NT : ∀ M : zM, M 135 n = nd n 0 → ¬ nd n 0 = 3 → Q none M → ez xs 70 69 [some (.ref 131), some (.int (nI n)), some (.int B), some (.int (nd n 9)), some (.int (nd n 10))] [] M Q := fun M kM k3 gM => by
    refine ez_blk 3 rfl ?_
    show ez xs 70 74 [some (.ref 131), some (.int (nI n)), some (.int B), some (.int (nd n 9)), some (.int (nd n 10))] [.int (nI n), .ref 135] M Q
    refine ez_iald (n := 24) rfl (by decide) rfl (by omega) (by omega) ?_
    rw [kM]
    show ez xs 70 75 [some (.ref 131), some (.int (nI n)), some (.int B), some (.int (nd n 9)), some (.int (nd n 10))] [.int (nd n 0)] M Q
    refine ez_blk 1 rfl ?_
    show ez xs 70 76 [some (.ref 131), some (.int (nI n)), some (.int B), some (.int (nd n 9)), some (.int (nd n 10))] [.int 3, .int (nd n 0)] M Q
    refine ez_icmp_ne rfl (fun _ => ?_) (fun q => absurd q k3)
    exact ez_ret rfl (by decide) rfl gM
  refine ez_icmp_ne rfl (fun k2 => ?_) (fun k2 => ?_)
  case refine_2 =>
    show ez xs 70 57 [some (.ref 131), some (.int (nI n)), some (.int B), some (.int (nd n 9)), some (.int (nd n 10))] [] M1 Q
    refine ez_blk 7 rfl ?_
    show ez xs 70 68 [some (.ref 131), some (.int (nI n)), some (.int B), some (.int (nd n 9)), some (.int (nd n 10))] [.int (M1 131 5), .int (2 * nI n), .ref 145] M1 Q
    rw [d2, fr1.2.2 131 5 (by omega), h5]
    refine ez_iast (n := 48) rfl (by decide) rfl (by omega) (by omega) ?_
    have k3 : ¬ nd n 0 = 3 := by rw [k2]; decide
    refine NT _ (by rw [up_ne (by omega), k1]) k3 (g _ ⟨?_, ?_, fun a b q => ?_⟩)
    · rw [up_eq]; unfold pE0; rw [if_pos k2]
    · rw [up_k (by omega), fr1.2.1]; unfold pE1; rw [if_neg k3]
    · rw [up_ne2 (by omega)]; exact fr1.2.2 a b q
  show ez xs 70 69 [some (.ref 131), some (.int (nI n)), some (.int B), some (.int (nd n 9)), some (.int (nd n 10))] [] M1 Q
  by_cases k3 : nd n 0 = 3
  case neg =>
    refine NT M1 k1 k3 (g _ ⟨?_, ?_, fr1.2.2⟩)
    · rw [fr1.1]; unfold pE0; rw [if_neg k2, if_neg k3]; exact hB.symm
    · rw [fr1.2.1]; unfold pE1; rw [if_neg k3]
  refine ez_blk 3 rfl ?_
  show ez xs 70 74 [some (.ref 131), some (.int (nI n)), some (.int B), some (.int (nd n 9)), some (.int (nd n 10))] [.int (nI n), .ref 135] M1 Q
  refine ez_iald (n := 24) rfl (by decide) rfl (by omega) (by omega) ?_
  rw [k1]
  show ez xs 70 75 [some (.ref 131), some (.int (nI n)), some (.int B), some (.int (nd n 9)), some (.int (nd n 10))] [.int (nd n 0)] M1 Q
  refine ez_blk 1 rfl ?_
  show ez xs 70 76 [some (.ref 131), some (.int (nI n)), some (.int B), some (.int (nd n 9)), some (.int (nd n 10))] [.int 3, .int (nd n 0)] M1 Q
  refine ez_icmp_ne rfl (fun q => absurd k3 q) (fun _ => ?_)
  show ez xs 70 79 [some (.ref 131), some (.int (nI n)), some (.int B), some (.int (nd n 9)), some (.int (nd n 10))] [] M1 Q
  have b4 : M1 143 n = nd n 4 := by rw [fr1.2.2 143 n (by omega), e4]
  have G2 : ∀ M v, frE n v (-1) m M → v = pE0 c nd n → ez xs 70 109 [some (.ref 131), some (.int (nI n)), some (.int B), some (.int (nd n 9)), some (.int (nd n 10))] [] M Q := fun M v fr hv => by
    have b4 : M 143 n = nd n 4 := by rw [fr.2.2 143 n (by omega), e4]
    have L : ∀ w, w = pE1 c nd n → ez xs 70 138 [some (.ref 131), some (.int (nI n)), some (.int B), some (.int (nd n 9)), some (.int (nd n 10))] [.int w, .int (nI (2 * n + 1)), .ref 145] M Q := fun w hw => by
      refine ez_iast (n := 48) rfl (by decide) rfl (by omega) (by omega) ?_
      refine ez_ret (y := 70) rfl (by decide) rfl (g _ ⟨?_, ?_, fun a b q => ?_⟩)
      · rw [up_k (by omega), fr.1, hv]
      · rw [up_eq, hw]
      · rw [up_ne2 (by omega)]; exact fr.2.2 a b q
    refine ez_blk 10 rfl ?_
    show ez xs 70 123 [some (.ref 131), some (.int (nI n)), some (.int B), some (.int (nd n 9)), some (.int (nd n 10))] [.int (nI n), .ref 143, .int (2 * nI n + 1), .ref 145] M Q
    rw [d2, d3]
    refine ez_zald (n := 24) rfl (by decide) rfl (by omega) (by omega) ?_
    rw [b4]
    show ez xs 70 124 [some (.ref 131), some (.int (nI n)), some (.int B), some (.int (nd n 9)), some (.int (nd n 10))] [.int (nd n 4), .int (nI (2 * n + 1)), .ref 145] M Q
    refine ez_if_ne rfl (fun q4 => ?_) (fun q4 => ?_)
    · show ez xs 70 137 [some (.ref 131), some (.int (nI n)), some (.int B), some (.int (nd n 9)), some (.int (nd n 10))] [.int (nI (2 * n + 1)), .ref 145] M Q
      refine ez_blk 1 rfl ?_
      exact L B (by unfold pE1; rw [if_pos k3, if_neg q4]; exact hB.symm)
    · show ez xs 70 127 [some (.ref 131), some (.int (nI n)), some (.int B), some (.int (nd n 9)), some (.int (nd n 10))] [.int (nI (2 * n + 1)), .ref 145] M Q
      refine ez_blk 1 rfl ?_
      show ez xs 70 129 [some (.ref 131), some (.int (nI n)), some (.int B), some (.int (nd n 9)), some (.int (nd n 10))] [.int (nd n 10), .int (nI (2 * n + 1)), .ref 145] M Q
      refine ez_if_lt rfl (fun q => ?_) (fun q => ?_)
      · show ez xs 70 137 [some (.ref 131), some (.int (nI n)), some (.int B), some (.int (nd n 9)), some (.int (nd n 10))] [.int (nI (2 * n + 1)), .ref 145] M Q
        refine ez_blk 1 rfl ?_
        exact L B (by unfold pE1; rw [if_pos k3, if_pos q4, if_pos (f10.mp q)]; exact hB.symm)
      · show ez xs 70 132 [some (.ref 131), some (.int (nI n)), some (.int B), some (.int (nd n 9)), some (.int (nd n 10))] [.int (nI (2 * n + 1)), .ref 145] M Q
        refine ez_blk 2 rfl ?_
        exact L (nd n 10) (by unfold pE1; rw [if_pos k3, if_pos q4, if_neg (fun z => q (f10.mpr z))])
  have G1 : ∀ v, v = pE0 c nd n → ez xs 70 108 [some (.ref 131), some (.int (nI n)), some (.int B), some (.int (nd n 9)), some (.int (nd n 10))] [.int v, .int (nI (2 * n)), .ref 145] M1 Q := fun v hv => by
    refine ez_iast (n := 48) rfl (by decide) rfl (by omega) (by omega) ?_
    exact G2 _ v ⟨up_eq, by rw [up_k (by omega), fr1.2.1], fun a b q => by rw [up_ne2 (by omega)]; exact fr1.2.2 a b q⟩ hv
  refine ez_blk 6 rfl ?_
  show ez xs 70 87 [some (.ref 131), some (.int (nI n)), some (.int B), some (.int (nd n 9)), some (.int (nd n 10))] [.int (nd n 9), .int (2 * nI n), .ref 145] M1 Q
  rw [d2]
  refine ez_if_lt rfl (fun q => ?_) (fun q => ?_)
  · show ez xs 70 94 [some (.ref 131), some (.int (nI n)), some (.int B), some (.int (nd n 9)), some (.int (nd n 10))] [.int (nI (2 * n)), .ref 145] M1 Q
    refine ez_blk 3 rfl ?_
    show ez xs 70 99 [some (.ref 131), some (.int (nI n)), some (.int B), some (.int (nd n 9)), some (.int (nd n 10))] [.int (nI n), .ref 143, .int (nI (2 * n)), .ref 145] M1 Q
    refine ez_zald (n := 24) rfl (by decide) rfl (by omega) (by omega) ?_
    rw [b4]
    show ez xs 70 100 [some (.ref 131), some (.int (nI n)), some (.int B), some (.int (nd n 9)), some (.int (nd n 10))] [.int (nd n 4), .int (nI (2 * n)), .ref 145] M1 Q
    refine ez_if_eq rfl (fun q4 => ?_) (fun q4 => ?_)
    · show ez xs 70 107 [some (.ref 131), some (.int (nI n)), some (.int B), some (.int (nd n 9)), some (.int (nd n 10))] [.int (nI (2 * n)), .ref 145] M1 Q
      refine ez_blk 1 rfl ?_
      exact G1 B (by unfold pE0; rw [if_neg k2, if_pos k3, if_pos (f9.mp q), if_pos q4]; exact hB.symm)
    · show ez xs 70 103 [some (.ref 131), some (.int (nI n)), some (.int B), some (.int (nd n 9)), some (.int (nd n 10))] [.int (nI (2 * n)), .ref 145] M1 Q
      refine ez_blk 2 rfl ?_
      exact G1 (nI n) (by unfold pE0; rw [if_neg k2, if_pos k3, if_pos (f9.mp q), if_neg q4])
  · show ez xs 70 90 [some (.ref 131), some (.int (nI n)), some (.int B), some (.int (nd n 9)), some (.int (nd n 10))] [.int (nI (2 * n)), .ref 145] M1 Q
    refine ez_blk 2 rfl ?_
    exact G1 (nd n 9) (by unfold pE0; rw [if_neg k2, if_pos k3, if_neg (fun z => q (f9.mpr z))])
