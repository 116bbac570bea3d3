/-! The search run, kept, and refused. -/
def posB (S : zM) (K b : Nat) : Bool := pbB (rU S K) (nI b) 3
def mB0 (S : zM) (c : Nat) (nd : Nat → Nat → Int32) (K b : Nat) : Int32 := if posB S K b = true then tK S c nd K (nI b) 0 else 0
def hA (S : zM) (c : Nat) (nd : Nat → Nat → Int32) (K k : Nat) : Nat → Int32
  | 0 => 0
  | b + 1 => if posB S K b = true then hA S c nd K k b ||| hK S c nd K (nI b) k else hA S c nd K k b
def pN (S : zM) (c : Nat) (nd : Nat → Nat → Int32) (K b : Nat) : nS := ntB (Ve S) c (fun b k => hK S c nd K (nI b) k) (edB S) (posB S K) K b
def sx (m : zM) (c : Nat) (nd : Nat → Nat → Int32) (K : Nat) : Prop := (∀ b, b < 64 → m 75 b = mB0 m c nd K b) ∧ (∀ k, k < K → m 76 k = hA m c nd K k 64) ∧ eC m m (pN m c nd K 64)
def SCd (m : zM) : Prop := ∀ s K, pParse (tX m) (tN m) = some s → m 36 1 = nI K → 0 < K → K ≤ 6 → sx m s.2.2.1 s.2.2.2.2.2.2 K
section SAME
variable {S M : zM} (h : ∀ a j, 149 ≤ a → a ≤ 163 → M a j = S a j)
theorem tK_same {c K : Nat} {nd : Nat → Nat → Int32} {b : Int32} {k : Nat} (h : ∀ a j, 149 ≤ a → a ≤ 163 → M a j = S a j) : tK M c nd K b k = tK S c nd K b k := by
  unfold tK
  rw [Lf_same h, Ff_same h, gf_same h]
theorem hK_same {c K : Nat} {nd : Nat → Nat → Int32} {b : Int32} {k : Nat} (h : ∀ a j, 149 ≤ a → a ≤ 163 → M a j = S a j) : hK M c nd K b k = hK S c nd K b k := by
  unfold hK
  rw [Lf_same h, Ff_same h, gf_same h]
theorem rU_s9 (h : ∀ a j, 149 ≤ a → a ≤ 163 → M a j = S a j) : ∀ k, rU M k = rU S k := by
  intro k
  induction k with
  | zero => rfl
  | succ k ih =>
    have hf : ∀ o x y, f_M_names M o x y = f_M_names S o x y := fun o x y => rfl
    rw [rU, rU, ih, hf, h 149 k (by omega) (by omega), h 151 k (by omega) (by omega), h 152 k (by omega) (by omega)]
theorem posB_same {K : Nat} (h : ∀ a j, 149 ≤ a → a ≤ 163 → M a j = S a j) : posB M K = posB S K := by
  funext b
  unfold posB
  rw [rU_s9 h]
theorem mB0_same {c K b : Nat} {nd : Nat → Nat → Int32} (h : ∀ a j, 149 ≤ a → a ≤ 163 → M a j = S a j) : mB0 M c nd K b = mB0 S c nd K b := by
  unfold mB0
  rw [posB_same h, tK_same h]
theorem hA_same {c K k : Nat} {nd : Nat → Nat → Int32} (h : ∀ a j, 149 ≤ a → a ≤ 163 → M a j = S a j) : ∀ b, hA M c nd K k b = hA S c nd K k b := by
  intro b
  induction b with
  | zero => rfl
  | succ b ih => rw [hA, hA, ih, posB_same h, hK_same h]
theorem pN_same {c K b : Nat} {nd : Nat → Nat → Int32} (h : ∀ a j, 149 ≤ a → a ≤ 163 → M a j = S a j) : pN M c nd K b = pN S c nd K b := by
  unfold pN
  have e : (fun b k => hK M c nd K (nI b) k) = (fun b k => hK S c nd K (nI b) k) := funext fun b => funext fun k => hK_same h
  rw [Ve_same h, edB_same h, posB_same h, e]
theorem eOk_S {N : zM} {n : Nat} {o : Option (Nat × Nat)} (h : ∀ a j, 149 ≤ a → a ≤ 163 → M a j = S a j) (g : eOk S N n o) : eOk M N n o := by
  cases o with
  | none => exact g
  | some e =>
    unfold eOk at g ⊢
    dsimp only at g ⊢
    rw [W_same h, h 159 e.1 (by omega) (by omega), h 153 e.1 (by omega) (by omega)]
    exact g
theorem eC_S {N : zM} {P : nS} (h : ∀ a j, 149 ≤ a → a ≤ 163 → M a j = S a j) (g : eC S N P) : eC M N P := ⟨fun n hn => eOk_S h (g.1 n hn), g.2⟩
end SAME
theorem sx_same {m M : zM} {c K : Nat} {nd : Nat → Nat → Int32} (h9 : ∀ a j, 149 ≤ a → a ≤ 163 → M a j = m a j) (h7 : ∀ a j, 74 ≤ a → a ≤ 128 → M a j = m a j) (g : sx m c nd K) : sx M c nd K := by
  refine ⟨fun b hb => ?_, fun k hk => ?_, ?_⟩
  · rw [h7 75 b (by omega) (by omega), mB0_same h9]; exact g.1 b hb
  · rw [h7 76 k (by omega) (by omega), hA_same h9]; exact g.2.1 k hk
  · rw [pN_same h9]
    exact eC_S h9 (eC_same (fun a k q1 q2 => h7 a k (by omega) q2) (h7 74 7 (by omega) (by omega)) g.2.2)
theorem hSCd : ∀ m M : zM, (∀ a b, sQ a b → M a b = m a b) → SCd m → SCd M := by
  intro m M h g s K h1 h2 h3 h4
  obtain ⟨e1, e2⟩ := tX_same (h 1 1 (Or.inl rfl)) (fun j => h 2 j (Or.inr (Or.inl rfl)))
  rw [e1, e2] at h1
  rw [h 36 1 (Or.inr (Or.inr (Or.inl ⟨by omega, by omega⟩)))] at h2
  exact sx_same (fun a j q1 q2 => h a j (Or.inr (Or.inr (Or.inr (Or.inl ⟨q1, q2⟩))))) (fun a j q1 q2 => h a j (Or.inr (Or.inr (Or.inl ⟨by omega, q2⟩)))) (g s K h1 h2 h3 h4)
theorem ntN_0 {V : Nat × Nat → Int32 × List Int32} {e : Nat × Nat} {P : nS} : ∀ n, ntN V 0 e n P = P := by
  intro n
  induction n with
  | zero => rfl
  | succ n ih => rw [ntN, bt_0, if_neg (by decide), ih]
theorem ntK_0 {V : Nat × Nat → Int32 × List Int32} {c b : Nat} {H : Nat → Int32} {ed : Nat → Bool} {P : nS} (h : ∀ k, H k = 0) : ∀ k, ntK V c H ed b k P = P := by
  intro k
  induction k with
  | zero => rfl
  | succ k ih => rw [ntK, h, ntN_0, ih, ite_self]
theorem or_0 (x : Int32) : x ||| 0 = x := bt_ext (fun n hn => by rw [bt_or, bt_0, Bool.or_false])
def frS (m M : zM) : Prop := ∀ a j, ¬ (74 ≤ a ∧ a ≤ 128) → M a j = m a j
theorem h_run {xs : jx_Xs} {m : zM} {Q : Option Value → zM → Prop} {c K : Nat} {nd : Nat → Nat → Int32} (hK0 : 0 < K) (hK6 : K ≤ 6) (hc : c ≤ 24) (h36 : m 36 1 = nI K) (hU : m 36 2 = rU m K) (hI : ∀ i, i < K → rI m i) (hG : gC m c nd) (hnd : ∀ n, n < c → nFd (nd n)) (hE : gE c (pE0 c nd) (pE1 c nd)) (hC : jC (z_S m)) (g : ∀ M, sx M c nd K → frS m M → Q none M) : ez xs 139 0 (jx_ent 139 [.ref 74]) [] m Q := by
  refine ez_blk 1 rfl ?_
  show ez xs 139 1 [some (.ref 74), none] [.ref 74] m Q
  refine ez_call (as := [.ref 74]) (rest := []) rfl (by decide) rfl ?_
  refine ez_mono (ez_C hC (h_reset (Q := fun r M => r = none ∧ M 74 7 = 0 ∧ (∀ b, b < 64 → M 75 b = 0) ∧ (∀ k, k < 6 → M 76 k = 0) ∧ (∀ n, n < 24 → M (81 + 2 * n) 1 = 0 ∧ M (81 + 2 * n) 2 = 0 ∧ M (81 + 2 * n) 3 = 0) ∧ frS m M) (fun M q1 q2 q3 q4 q5 => ⟨rfl, q1, q2, q3, q4, q5⟩))) (fun rr M0 q => ?_)
  obtain ⟨⟨rfl, z1, z2, z3, z4, z5⟩, C0⟩ := q
  refine ez_blk (pc' := 6) 2 rfl ?_
  show ez xs 139 6 [some (.ref 74), some (.int (nI 0))] [] M0 Q
  have loop : ∀ (r b : Nat) (M : zM), b + r = 64 → frS m M → jC (z_S M) → (∀ j, j < b → M 75 j = mB0 m c nd K j) → (∀ j, b ≤ j → j < 64 → M 75 j = 0) → (∀ k, k < K → M 76 k = hA m c nd K k b) → eC m M (pN m c nd K b) → ez xs 139 6 [some (.ref 74), some (.int (nI b))] [] M Q := by
    intro r
    induction r with
    | zero =>
      intro b M hb hF hCM h1 h2 h3 h4
      refine ez_blk 2 rfl ?_
      show ez xs 139 9 [some (.ref 74), some (.int (nI b))] [.int (nI 64), .int (nI b)] M Q
      refine ez_icmp_ge rfl (fun _ => ?_) (fun z => absurd (nI_le (by omega) (by omega)) z)
      have s9 : ∀ a j, 149 ≤ a → a ≤ 163 → M a j = m a j := fun a j _ _ => hF a j (by omega)
      rw [show b = 64 by omega] at h1 h3 h4
      refine ez_ret rfl (by decide) rfl (g M ⟨fun j hj => ?_, fun k hk => ?_, ?_⟩ hF)
      · rw [mB0_same s9]; exact h1 j hj
      · rw [hA_same s9]; exact h3 k hk
      · rw [pN_same s9]; exact eC_S s9 h4
    | succ r ih =>
      intro b M hb hF hCM h1 h2 h3 h4
      have hb64 : b < 64 := by omega
      have s9 : ∀ a j, 149 ≤ a → a ≤ 163 → M a j = m a j := fun a j _ _ => hF a j (by omega)
      have sM : ∀ a j, sS a j → M a j = m a j := fun a j q => by
        have q : (36 ≤ a ∧ a ≤ 73) ∨ (149 ≤ a ∧ a ≤ 163) ∨ (a = 131 ∧ j = 21) := q
        exact hF a j (by omega)
      have M36 : M 36 1 = nI K := by rw [hF 36 1 (by omega), h36]
      have MI : ∀ i, i < K → rI M i := fun i hi => rI_same (by omega) sM (hI i hi)
      have MG : gC M c nd := gC_same hc (fun a j _ _ => hF a j (by omega)) hG
      have NX : ∀ N, frS m N → jC (z_S N) → (∀ j, j < b + 1 → N 75 j = mB0 m c nd K j) → (∀ j, b + 1 ≤ j → j < 64 → N 75 j = 0) → (∀ k, k < K → N 76 k = hA m c nd K k (b + 1)) → eC m N (pN m c nd K (b + 1)) → ez xs 139 54 [some (.ref 74), some (.int (nI b))] [] N Q := fun N q1 q2 q3 q4 q5 q6 => by
        refine ez_blk (pc' := 6) 2 rfl ?_
        show ez xs 139 6 [some (.ref 74), some (.int (nI b + 1))] [] N Q
        rw [nI_1]
        exact ih (b + 1) N (by omega) q1 q2 q3 q4 q5 q6
      refine ez_blk 2 rfl ?_
      show ez xs 139 9 [some (.ref 74), some (.int (nI b))] [.int (nI 64), .int (nI b)] M Q
      refine ez_icmp_ge rfl (fun z => absurd z (nI_ge (by omega) (by omega))) (fun _ => ?_)
      show ez xs 139 12 [some (.ref 74), some (.int (nI b))] [] M Q
      refine ez_blk 3 rfl ?_
      show ez xs 139 17 [some (.ref 74), some (.int (nI b))] [.int (nI b), .ref 36] M Q
      refine ez_call (as := [.ref 36, .int (nI b)]) (rest := []) rfl (by decide) rfl ?_
      refine h_allows ?_
      rw [hF 36 2 (by omega), hU]
      show ez xs 139 20 [some (.ref 74), some (.int (nI b))] [.int (bI (posB m K b))] M Q
      have eM : mB0 m c nd K b = if posB m K b = true then tK m c nd K (nI b) 0 else 0 := rfl
      have eH : ∀ k, hA m c nd K k (b + 1) = if posB m K b = true then hA m c nd K k b ||| hK m c nd K (nI b) k else hA m c nd K k b := fun k => rfl
      have eP : pN m c nd K (b + 1) = if posB m K b = true then ntK (Ve m) c (fun k => hK m c nd K (nI b) k) (edB m) b K (pN m c nd K b) else pN m c nd K b := rfl
      refine ez_if_eq rfl (fun z => ?_) (fun z => ?_)
      · have z := bI_0.mp z
        have n : ¬ posB m K b = true := by rw [z]; decide
        refine NX M hF hCM (fun j hj => ?_) (fun j q1 q2 => h2 j (by omega) q2) (fun k hk => ?_) ?_
        · by_cases e : j = b
          · rw [e, eM, if_neg n]; exact h2 b (Nat.le_refl b) hb64
          · exact h1 j (by omega)
        · rw [eH, if_neg n]; exact h3 k hk
        · rw [eP, if_neg n]; exact h4
      have z := bI_t.mp z
      rw [if_pos z] at eM eP
      show ez xs 139 23 [some (.ref 74), some (.int (nI b))] [] M Q
      refine ez_blk 2 rfl ?_
      show ez xs 139 25 [some (.ref 74), some (.int (nI b))] [.int (nI b), .ref 74] M Q
      refine ez_call (as := [.ref 74, .int (nI b)]) (rest := []) rfl (by decide) rfl ?_
      refine ez_mono (ez_C hCM (h_findTaken (Q := fun r N => r = none ∧ (∀ k, k < K → N 77 k = tK M c nd K (nI b) k) ∧ (∀ a k, ¬ (a = 77 ∧ k < 6) → N a k = M a k)) hK6 hc M36 MI MG hnd (fun N q1 q2 => ⟨rfl, q1, q2⟩))) (fun rr N q => ?_)
      obtain ⟨⟨rfl, t1, t2⟩, CN⟩ := q
      have t1 : ∀ k, k < K → N 77 k = tK m c nd K (nI b) k := fun k hk => by rw [t1 k hk, tK_same s9]
      refine ez_blk (pc' := 38) 6 rfl ?_
      show ez xs 139 38 [some (.ref 74), some (.int (nI b))] [.int (nI 0), .ref 77, .int (nI b), .ref 75] N Q
      refine ez_iald (n := 6) rfl (by decide) rfl (by omega) (by omega) ?_
      rw [t1 0 hK0]
      show ez xs 139 39 [some (.ref 74), some (.int (nI b))] [.int (tK m c nd K (nI b) 0), .int (nI b), .ref 75] N Q
      refine ez_iast (n := 64) rfl (by decide) rfl hb64 (by omega) ?_
      have C1 : jC (z_S (jj_up N 75 b (tK m c nd K (nI b) 0))) := jC_i (by decide) CN
      have G1 : ∀ a j, a ≠ 75 → ¬ (a = 77 ∧ j < 6) → jj_up N 75 b (tK m c nd K (nI b) 0) a j = M a j := fun a j q1 q2 => by rw [up_ne q1]; exact t2 a j q2
      have G2 : ∀ k, k < K → jj_up N 75 b (tK m c nd K (nI b) 0) 77 k = tK m c nd K (nI b) k := fun k hk => by rw [up_ne (by omega)]; exact t1 k hk
      have G3 : ∀ j, j < b + 1 → jj_up N 75 b (tK m c nd K (nI b) 0) 75 j = mB0 m c nd K j := fun j hj => by
        by_cases e : j = b
        · rw [e, up_eq, eM]
        · rw [up_k e, t2 75 j (by omega)]; exact h1 j (by omega)
      have G4 : ∀ j, b + 1 ≤ j → j < 64 → jj_up N 75 b (tK m c nd K (nI b) 0) 75 j = 0 := fun j q1 q2 => by rw [up_k (by omega), t2 75 j (by omega)]; exact h2 j (by omega) q2
      generalize jj_up N 75 b (tK m c nd K (nI b) 0) = N1 at C1 G1 G2 G3 G4
      have F1 : frS m N1 := fun a j q => by rw [G1 a j (by omega) (by omega)]; exact hF a j q
      have E1 : eC m N1 (pN m c nd K b) := eC_same (fun a j _ _ => G1 a j (by omega) (by omega)) (G1 74 7 (by omega) (by omega)) h4
      have A1 : ∀ k, k < K → N1 76 k = hA m c nd K k b := fun k hk => by rw [G1 76 k (by omega) (by omega)]; exact h3 k hk
      show ez xs 139 40 [some (.ref 74), some (.int (nI b))] [] N1 Q
      refine ez_blk 3 rfl ?_
      show ez xs 139 45 [some (.ref 74), some (.int (nI b))] [.int (nI 0), .ref 77] N1 Q
      refine ez_iald (n := 6) rfl (by decide) rfl (by omega) (by omega) ?_
      rw [G2 0 hK0]
      show ez xs 139 46 [some (.ref 74), some (.int (nI b))] [.int (tK m c nd K (nI b) 0)] N1 Q
      refine ez_if_eq rfl (fun w => ?_) (fun w => ?_)
      · have H0 : ∀ k, hK m c nd K (nI b) k = 0 := fun k => hH_0 hc hE w k
        refine NX N1 F1 C1 G3 G4 (fun k hk => ?_) ?_
        · rw [eH, if_pos z, H0, or_0]; exact A1 k hk
        · rw [eP, ntK_0 H0]; exact E1
      show ez xs 139 49 [some (.ref 74), some (.int (nI b))] [] N1 Q
      refine ez_blk 2 rfl ?_
      show ez xs 139 51 [some (.ref 74), some (.int (nI b))] [.int (nI b), .ref 74] N1 Q
      refine ez_call (as := [.ref 74, .int (nI b)]) (rest := []) rfl (by decide) rfl ?_
      have n9 : ∀ a j, 149 ≤ a → a ≤ 163 → N1 a j = m a j := fun a j _ _ => F1 a j (by omega)
      have nS' : ∀ a j, sS a j → N1 a j = m a j := fun a j q => by
        have q : (36 ≤ a ∧ a ≤ 73) ∨ (149 ≤ a ∧ a ≤ 163) ∨ (a = 131 ∧ j = 21) := q
        exact F1 a j (by omega)
      have RG : nRg c K (edB N1) (pN m c nd K b) := by rw [edB_same n9]; exact ntB_rg b (by omega)
      refine ez_mono (ez_C C1 (h_followHits (Q := fun r N2 => r = none ∧ (∀ k, k < K → N2 76 k = N1 76 k ||| hK N1 c nd K (nI b) k) ∧ eC N1 N2 (ntK (Ve N1) c (fun k => hK N1 c nd K (nI b) k) (edB N1) b K (pN m c nd K b)) ∧ frG N1 N2) hK0 hK6 hc hb64 (by rw [F1 36 1 (by omega), h36]) (fun i hi => rI_same (by omega) nS' (hI i hi)) (gC_same hc (fun a j _ _ => F1 a j (by omega)) hG) (fun k hk => by rw [G2 k hk, tK_same n9]) (eC_S n9 E1) RG C1 (fun N2 q1 q2 q3 => ⟨rfl, q1, q2, q3⟩))) (fun rr N2 q => ?_)
      obtain ⟨⟨rfl, f1, f2, f3⟩, C2⟩ := q
      have e1 : (fun k => hK N1 c nd K (nI b) k) = (fun k => hK m c nd K (nI b) k) := funext fun k => hK_same n9
      rw [Ve_same n9, edB_same n9, e1] at f2
      refine NX N2 (fun a j q => by rw [f3 a j (by omega) (by omega) (by omega)]; exact F1 a j q) C2 (fun j hj => ?_) (fun j q1 q2 => ?_) (fun k hk => ?_) ?_
      · rw [f3 75 j (by omega) (by omega) (by omega)]; exact G3 j hj
      · rw [f3 75 j (by omega) (by omega) (by omega)]; exact G4 j q1 q2
      · rw [f1 k hk, A1 k hk, hK_same n9, eH, if_pos z]
      · rw [eP]
        exact eC_S (S := N1) (M := m) (fun a j q1 q2 => (n9 a j q1 q2).symm) f2
  refine loop 64 0 M0 (by omega) z5 C0 (fun j hj => absurd hj (Nat.not_lt_zero j)) (fun j _ hj => z2 j hj) (fun k hk => by rw [z3 k (by omega)]; rfl) ⟨fun n hn => z4 n hn, z1⟩
/-! kept or run anew -/
theorem h_ensure {xs : jx_Xs} {m : zM} {Q : Option Value → zM → Prop} {s : pS} {K : Nat} (hp : pParse (tX m) (tN m) = some s) (hK0 : 0 < K) (hK6 : K ≤ 6) (h36 : m 36 1 = nI K) (hU : m 36 2 = rU m K) (hI : ∀ i, i < K → rI m i) (hG : gC m s.2.2.1 s.2.2.2.2.2.2) (h8 : m 0 8 = 0 ∨ m 0 8 = 1 ∧ SCd m) (hC : jC (z_S m)) (g : ∀ M, sx M s.2.2.1 s.2.2.2.2.2.2 K → M 0 8 = 1 → (∀ a j, ¬ (a = 0 ∧ j = 8) → ¬ (74 ≤ a ∧ a ≤ 128) → M a j = m a j) → Q none M) : ez xs 140 0 (jx_ent 140 [.ref 0]) [] m Q := by
  obtain ⟨jI, dep, A, B, -, hnd, -⟩ := pParse_J hp
  refine ez_blk 2 rfl ?_
  show ez xs 140 4 [some (.ref 0)] [.int (m 0 8)] m Q
  refine ez_if_ne rfl (fun z => ?_) (fun z => ?_)
  · rcases h8 with q | ⟨q1, q2⟩
    · exact absurd q z
    · exact ez_ret rfl (by decide) rfl (g m (q2 s K hp h36 hK0 hK6) q1 (fun _ _ _ _ => rfl))
  show ez xs 140 7 [some (.ref 0)] [] m Q
  refine ez_blk 2 rfl ?_
  show ez xs 140 11 [some (.ref 0)] [.ref 74] m Q
  refine ez_call (as := [.ref 74]) (rest := []) rfl (by decide) rfl ?_
  refine h_run hK0 hK6 jI.2.2.1 h36 hU hI hG (fun n hn => (hnd n hn).2.2.2) (gE_of jI.2.2.1 hnd) hC (fun M q1 q2 => ?_)
  show ez xs 140 14 [some (.ref 0)] [] M Q
  refine ez_blk (pc' := 19) 3 rfl ?_
  refine ez_ret (y := 140) (m := jj_up M 0 8 1) rfl (by decide) rfl (g _ (sx_same (fun a j _ _ => up_ne (by omega)) (fun a j _ _ => up_ne (by omega)) q1) up_eq (fun a j z1 z2 => ?_))
  rw [up_ne2 z1]
  exact q2 a j z2
/-- no whole script -/
def nl (m : zM) (K : Nat) : Prop := K = 0 ∨ m 154 (K - 1) = 1
theorem h_refusal {xs : jx_Xs} {m : zM} {SC : zM → Prop} {Q : Option Value → zM → Prop} {K : Nat} (hR : rR PCd SC m) (hK6 : K ≤ 6) (h36 : m 36 1 = nI K) (h21 : m 131 21 = nI K) (hI : ∀ i, i < K → rI m i)
    (gA : ∀ M, PCd M → M 0 7 = 1 → frW m M → pParse (tX M) (tN M) = none → Q (some (.int (-1))) M)
    (gB : ∀ M s, PCd M → M 0 7 = 1 → frW m M → pParse (tX M) (tN M) = some s → nl m K → Q (some (.int (-2))) M)
    (gD : ∀ M s, PCd M → M 0 7 = 1 → frW m M → pParse (tX M) (tN M) = some s → gC M s.2.2.1 s.2.2.2.2.2.2 → 0 < K → m 154 (K - 1) = 0 → Q (some (.int 0)) M) : ez xs 112 0 (jx_ent 112 [.ref 0]) [] m Q := by
  refine ez_blk 1 rfl ?_
  show ez xs 112 1 [some (.ref 0)] [.ref 0] m Q
  refine ez_call (as := [.ref 0]) (rest := []) rfl (by decide) rfl ?_
  refine h_isWellFormed hR.1 hR.2.2.1 (fun M q1 q2 q3 => ?_)
  show ez xs 112 4 [some (.ref 0)] [.int (M 0 6)] M Q
  rcases id q1 with ⟨p1, p2⟩ | ⟨s, p1, p2, p3⟩
  · rw [p2]
    refine ez_if_ne rfl (fun z => absurd rfl z) (fun _ => ?_)
    show ez xs 112 7 [some (.ref 0)] [] M Q
    refine ez_blk 1 rfl ?_
    exact ez_ret (y := 112) rfl (by decide) rfl (gA M q1 q2 q3 p1)
  rw [p2]
  refine ez_if_ne rfl (fun _ => ?_) (fun z => absurd z (by decide))
  have NL : nl m K → ez xs 112 29 [some (.ref 0)] [] M Q := fun z => by
    refine ez_blk 2 rfl ?_
    exact ez_ret (y := 112) rfl (by decide) rfl (gB M s q1 q2 q3 p1 z)
  have M36 : M 36 1 = nI K := by rw [q3 36 1 (by omega) (by omega) (by omega), h36]
  have M21 : M 131 21 = nI K := by rw [q3 131 21 (by omega) (by omega) (by omega), h21]
  show ez xs 112 9 [some (.ref 0)] [] M Q
  refine ez_blk 2 rfl ?_
  show ez xs 112 13 [some (.ref 0)] [.ref 36] M Q
  refine ez_call (as := [.ref 36]) (rest := []) rfl (by decide) rfl ?_
  refine d_Script_isEmpty ?_
  show ez xs 112 16 [some (.ref 0)] [.int (f_Script_isEmpty M)] M Q
  cases K with
  | zero =>
    have e : f_Script_isEmpty M = 1 := by unfold f_Script_isEmpty; rw [M36]; rfl
    rw [e]
    exact ez_if_ne rfl (fun _ => NL (Or.inl rfl)) (fun z => absurd z (by decide))
  | succ j =>
    obtain ⟨a1, a2, a3, a4, a5, a6, -⟩ := last_of (by omega) M36 M21
    rw [a4]
    refine ez_if_ne rfl (fun z => absurd rfl z) (fun _ => ?_)
    show ez xs 112 19 [some (.ref 0)] [] M Q
    refine ez_blk 2 rfl ?_
    show ez xs 112 23 [some (.ref 0)] [.ref 36] M Q
    refine ez_call (as := [.ref 36]) (rest := []) rfl (by decide) rfl ?_
    refine d_Script_endsInDots (fun _ z => ?_) (fun _ _ => ?_) ?_
    · rw [a1, a5] at z; exact absurd z (by decide)
    · rw [a1]; exact vp_in_nI (by omega) (by omega)
    rw [a6]
    have i5 : M (38 + 6 * j) 5 = m 154 j := by rw [q3 _ _ (by omega) (by omega) (by omega)]; exact (hI j (by omega)).2.2.1.1
    have i6 : m 154 j = 0 ∨ m 154 j = 1 := (hI j (by omega)).2.2.1.2
    rw [i5]
    show ez xs 112 26 [some (.ref 0)] [.int (if m 154 j = 0 then 0 else 1)] M Q
    rcases i6 with i6 | i6
    · rw [if_pos i6]
      refine ez_if_eq rfl (fun _ => ?_) (fun z => absurd rfl z)
      show ez xs 112 34 [some (.ref 0)] [] M Q
      refine ez_blk 1 rfl ?_
      exact ez_ret (y := 112) rfl (by decide) rfl (gD M s q1 q2 q3 p1 p3 (by omega) i6)
    · rw [if_neg (by rw [i6]; decide)]
      exact ez_if_eq rfl (fun z => absurd z (by decide)) (fun _ => NL (Or.inr i6))
theorem h_state {xs : jx_Xs} {m : zM} {Q : Option Value → zM → Prop} {K : Nat} (x1 : txOk (tN m) (tX m)) (x2 : txM m (tN m) (tX m)) (hK6 : K ≤ 6) (h21 : m 131 21 = nI K) (h4 : ∀ i, i < K → m 154 i = 0 ∨ m 154 i = 1)
    (gA : pParse (tX m) (tN m) = none → ∀ N, frN m N → Q (some (.int (-1))) N)
    (gB : ∀ s, pParse (tX m) (tN m) = some s → nl m K → ∀ N, gM N s.2.2.1 s.2.2.2.2.2.2 → frN m N → Q (some (.int (-2))) N)
    (gD : ∀ s, pParse (tX m) (tN m) = some s → 0 < K → m 154 (K - 1) = 0 → ∀ N, gM N s.2.2.1 s.2.2.2.2.2.2 → frN m N → Q (some (.int 0)) N) : ez xs 144 0 (jx_ent 144 [.ref 131]) [] m Q := by
  refine ez_blk 1 rfl ?_
  show ez xs 144 1 [some (.ref 131)] [.ref 131] m Q
  refine ez_call (as := [.ref 131]) (rest := []) rfl (by decide) rfl ?_
  refine h_M_read x1 x2 (fun p N hN => ?_) (fun s p N hG hN => ?_)
  · show ez xs 144 4 [some (.ref 131)] [.int 0] N Q
    refine ez_if_ne rfl (fun z => absurd rfl z) (fun _ => ?_)
    show ez xs 144 7 [some (.ref 131)] [] N Q
    refine ez_blk 2 rfl ?_
    exact ez_ret (y := 144) rfl (by decide) rfl (gA p N hN)
  · show ez xs 144 4 [some (.ref 131)] [.int 1] N Q
    refine ez_if_ne rfl (fun _ => ?_) (fun z => absurd z (by decide))
    have N21 : N 131 21 = nI K := by rw [hN 131 21 (by omega) (by omega), h21]
    show ez xs 144 11 [some (.ref 131)] [] N Q
    refine ez_blk 1 rfl ?_
    show ez xs 144 12 [some (.ref 131)] [.ref 131] N Q
    refine ez_call (as := [.ref 131]) (rest := []) rfl (by decide) rfl ?_
    have eK : 0 < K → nI K - 1 = nI (K - 1) := fun z => by
      rw [show K = (K - 1) + 1 by omega, nI_p1]
      rfl
    refine d_M_noLast (fun z => ?_) ?_
    · rw [N21] at z ⊢
      have k0 : ¬ K = 0 := fun e => z (by rw [e]; rfl)
      rw [eK (by omega)]
      exact vp_in_nI (by omega) (by omega)
    have NL : nl m K → ez xs 144 18 [some (.ref 131)] [] N Q := fun z => by
      refine ez_blk 2 rfl ?_
      exact ez_ret (y := 144) rfl (by decide) rfl (gB s p z N hG hN)
    show ez xs 144 15 [some (.ref 131)] [.int (f_M_noLast N)] N Q
    by_cases k0 : K = 0
    · have e : f_M_noLast N = 1 := by unfold f_M_noLast; rw [N21, k0]; rfl
      rw [e]
      exact ez_if_eq rfl (fun z => absurd z (by decide)) (fun _ => NL (Or.inl k0))
    · have e : f_M_noLast N = if m 154 (K - 1) = 0 then 0 else 1 := by
        unfold f_M_noLast
        rw [N21, if_neg (show ¬ nI K = 0 from fun z => k0 ((nI_eq (b := 0) (by omega) (by omega)).mp z)), eK (by omega), nI_clamp (by omega), hN 154 _ (by omega) (by omega)]
      rw [e]
      rcases h4 (K - 1) (by omega) with i6 | i6
      · rw [if_pos i6]
        refine ez_if_eq rfl (fun _ => ?_) (fun z => absurd rfl z)
        show ez xs 144 23 [some (.ref 131)] [] N Q
        refine ez_blk 1 rfl ?_
        exact ez_ret (y := 144) rfl (by decide) rfl (gD s p (by omega) i6 N hG hN)
      · rw [if_neg (by rw [i6]; decide)]
        exact ez_if_eq rfl (fun z => absurd z (by decide)) (fun _ => NL (Or.inr i6))
