/-! The reference's apply up to its editing; edits of first and last notes. -/
theorem stm_C {m : zM} {r b : Nat} {o f x y : Int32} (hb : b < 64) (hP : rP m r o f x y) (h3 : ¬ o = 3) : ∀ v, v ∈ stm o f x y (nI b) → isC v := by
  obtain ⟨p, q, hp, hq, rfl, rfl, -, -, f1, -, y1, -⟩ := hP
  obtain ⟨a, a4, av⟩ := vl_in hq hb
  have ca : (97 : Int32) + vl (nI q) (nI b) = nI (97 + a) := by rw [av]; exact nI_add 97 a
  have ep0 : nI p = 0 ↔ p = 0 := nI_eq (b := 0) (by omega) (by omega)
  have ep1 : nI p = 1 ↔ p = 1 := nI_eq (b := 1) (by omega) (by omega)
  have C : ∀ z : Nat, 32 ≤ z → z ≤ 126 → isC (nI z) := fun z h1 h2 => ⟨z, h1, h2, rfl⟩
  intro v hv
  unfold stm at hv
  rw [ca] at hv
  by_cases p0 : p = 0
  · obtain ⟨⟨g0, g1, g2⟩, -⟩ := f1 p0
    have cf : (102 : Int32) + f = nI (102 + g0) := by rw [g2]; exact nI_add 102 g0
    rw [if_pos (ep0.mpr p0), cf] at hv
    rcases List.mem_cons.mp hv with rfl | hv
    · exact C _ (by omega) (by omega)
    rcases List.mem_cons.mp hv with rfl | hv
    · exact C 40 (by omega) (by omega)
    rcases List.mem_cons.mp hv with rfl | hv
    · exact C _ (by omega) (by omega)
    rcases List.mem_cons.mp hv with rfl | hv
    · exact C 41 (by omega) (by omega)
    rcases List.mem_cons.mp hv with rfl | hv
    · exact C 59 (by omega) (by omega)
    cases hv
  · rw [if_neg (fun e => p0 (ep0.mp e))] at hv
    by_cases p1 : p = 1
    · obtain ⟨⟨g0, g1, g2⟩, -⟩ := y1 p1
      obtain ⟨a2, a24, av2⟩ := vl_in g1 hb
      have ca2 : (97 : Int32) + vl y (nI b) = nI (97 + a2) := by rw [g2, av2]; exact nI_add 97 a2
      rw [if_pos (ep1.mpr p1), ca2] at hv
      rcases List.mem_cons.mp hv with rfl | hv
      · exact C _ (by omega) (by omega)
      rcases List.mem_cons.mp hv with rfl | hv
      · exact C 61 (by omega) (by omega)
      rcases List.mem_cons.mp hv with rfl | hv
      · exact C _ (by omega) (by omega)
      rcases List.mem_cons.mp hv with rfl | hv
      · exact C 59 (by omega) (by omega)
      cases hv
    · rw [if_neg (fun e => p1 (ep1.mp e))] at hv
      rcases List.mem_cons.mp hv with rfl | hv
      · exact C 33 (by omega) (by omega)
      rcases List.mem_cons.mp hv with rfl | hv
      · exact C _ (by omega) (by omega)
      rcases List.mem_cons.mp hv with rfl | hv
      · exact C 59 (by omega) (by omega)
      cases hv
theorem wW_C {m : zM} {k b : Nat} (hb : b < 64) (h : rI m k) : (∀ v, v ∈ wW m (nI b) k → isC v) ∧ (wW m (nI b) k).length ≤ 10 ∧ 3 * (m 159 k).toNatClampNeg ≤ (wW m (nI b) k).length ∧ (wW m (nI b) k).length ≤ 5 * (m 159 k).toNatClampNeg ∧ (m 159 k).toNatClampNeg ≤ 2 := by
  obtain ⟨-, -, -, -, ⟨n, n1, n2, n3, n4, n5⟩, -⟩ := id h
  have e : (m 159 k).toNatClampNeg = n := by rw [n3, nI_clamp (by omega)]
  have l := wT_len m (nI b) k n
  unfold wW
  rw [e]
  refine ⟨?_, by omega, l.1, l.2, n1⟩
  have R : ∀ j, j ≤ n → ∀ v, v ∈ wT m (nI b) k j → isC v := by
    intro j
    induction j with
    | zero => intro _ v hv; cases hv
    | succ j ih =>
      intro hj v hv
      rw [wT] at hv
      rcases List.mem_append.mp hv with q | q
      · exact ih (by omega) v q
      · exact stm_C hb (n5 j (by omega)).1 (n5 j (by omega)).2 v q
  exact R n (Nat.le_refl n)
/-- where there is no conflict, the first note of a node says what its last says -/
theorem val_eq {S : zM} {c K : Nat} {P : nS} (hI : ∀ i, i < K → rI S i) (h : nInv (Ve S) P) (hR : nRg c K (edB S) P) (ok : P.2.2.1 = true) (n : Nat) : oE (P.1 n) = oE (P.2.1 n) ∧ oO S (P.1 n) = oO S (P.2.1 n) ∧ oW S (P.1 n) = oW S (P.2.1 n) ∧ oF S (P.1 n) = oF S (P.2.1 n) := by
  cases f : P.1 n with
  | none => rw [(h.2.1 n).mp f]; exact ⟨rfl, rfl, rfl, rfl⟩
  | some d =>
    cases l : P.2.1 n with
    | none => rw [(h.2.1 n).mpr l] at f; cases f
    | some e =>
      have v := h.2.2 ok n d e f l
      obtain ⟨-, d1, d2, -⟩ := hR n d (Or.inl f)
      obtain ⟨-, e1, e2, -⟩ := hR n e (Or.inr l)
      have v1 : S 153 d.1 = S 153 e.1 := congrArg Prod.fst v
      have v2 : wW S (nI d.2) d.1 = wW S (nI e.2) e.1 := congrArg Prod.snd v
      obtain ⟨-, -, a1, a2, a3⟩ := wW_C d2 (hI d.1 d1)
      obtain ⟨-, -, b1, b2, b3⟩ := wW_C e2 (hI e.1 e1)
      refine ⟨rfl, ?_, v2, ?_⟩
      · show decide (¬ S 153 d.1 = 0) = decide (¬ S 153 e.1 = 0)
        rw [v1]
      · show (S 159 d.1).toNatClampNeg = (S 159 e.1).toNatClampNeg
        rw [v2] at a1 a2
        omega
theorem lq_ext {S : zM} {N : Nat} {bg en : Nat → Nat} {f g : Nat → Option (Nat × Nat)} (h : ∀ n, oW S (f n) = oW S (g n) ∧ oO S (f n) = oO S (g n)) : ∀ n, lq S N bg en f n = lq S N bg en g n := by
  intro n
  induction n with
  | zero => rfl
  | succ n ih => rw [lq, lq, ih, (h n).1, (h n).2]
theorem nq_ext {S : zM} {c : Nat} {f g : Nat → Option (Nat × Nat)} (h : ∀ n, oF S (f n) = oF S (g n) ∧ oO S (f n) = oO S (g n)) : ∀ n, nq S c f n = nq S c g n := by
  intro n
  induction n with
  | zero => rfl
  | succ n ih => rw [nq, nq, ih, (h n).1, (h n).2]
theorem dq_ext {f g : Nat → Option (Nat × Nat)} (h : ∀ n, oE (f n) = oE (g n)) : ∀ n, dq f n = dq g n := by
  intro n
  induction n with
  | zero => rfl
  | succ n ih => rw [dq, dq, ih, h n]
def frZ (X M : zM) : Prop := ∀ a b, ¬ (a = 131 ∧ (b = 2 ∨ b = 5 ∨ b = 20 ∨ b = 40)) → ¬ (133 ≤ a ∧ a ≤ 148) → ¬ (164 ≤ a ∧ a ≤ 170) → M a b = X a b
/-- the reference's state, for the text that the reference has -/
theorem h_stG {xs : jx_Xs} {m : zM} {Q : Option Value → zM → Prop} {n K : Nat} {t : Nat → Nat} {s : pS} (x1 : txOk n t) (x2 : txM m n t) (p : pParse t n = some s) (hK0 : 0 < K) (hK6 : K ≤ 6) (h21 : m 131 21 = nI K) (w : m 154 (K - 1) = 0) (g : ∀ N, gM N s.2.2.1 s.2.2.2.2.2.2 → frN m N → Q (some (.int 0)) N) : ez xs 144 0 (jx_ent 144 [.ref 131]) [] m Q := by
  refine ez_blk 1 rfl ?_
  show ez xs 144 1 [some (.ref 131)] [.ref 131] m Q
  refine ez_call (as := [.ref 131]) (rest := []) rfl (by decide) rfl ?_
  refine h_M_read x1 x2 (fun p' => absurd (p.symm.trans p') (by intro z; cases z)) (fun s' p' N hG hN => ?_)
  cases p.symm.trans p'
  show ez xs 144 4 [some (.ref 131)] [.int 1] N Q
  refine ez_if_ne rfl (fun _ => ?_) (fun z => absurd z (by decide))
  have N21 : N 131 21 = nI K := by rw [hN 131 21 (by omega) (by omega), h21]
  show ez xs 144 11 [some (.ref 131)] [] N Q
  refine ez_blk 1 rfl ?_
  show ez xs 144 12 [some (.ref 131)] [.ref 131] N Q
  refine ez_call (as := [.ref 131]) (rest := []) rfl (by decide) rfl ?_
  have eK : nI K - 1 = nI (K - 1) := by
    rw [show K = (K - 1) + 1 by omega, nI_p1]
    rfl
  refine d_M_noLast (fun _ => ?_) ?_
  · rw [N21, eK]
    exact vp_in_nI (by omega) (by omega)
  have e : f_M_noLast N = 0 := by
    unfold f_M_noLast
    rw [N21, if_neg (show ¬ nI K = 0 from fun z => absurd ((nI_eq (b := 0) (by omega) (by omega)).mp z) (by omega)), eK, nI_clamp (by omega), hN 154 _ (by omega) (by omega), if_pos w]
  rw [e]
  show ez xs 144 15 [some (.ref 131)] [.int 0] N Q
  refine ez_if_eq rfl (fun _ => ?_) (fun z => absurd rfl z)
  show ez xs 144 23 [some (.ref 131)] [] N Q
  refine ez_blk 1 rfl ?_
  exact ez_ret (y := 144) rfl (by decide) rfl (g N hG hN)
theorem h_M_applyD {xs : jx_Xs} {X : zM} {Q : Option Value → zM → Prop} {n0 K : Nat} {t : Nat → Nat} {s : pS} (x1 : txOk n0 t) (x2 : txM X n0 t) (p : pParse t n0 = some s) (hK0 : 0 < K) (hK6 : K ≤ 6) (h21 : X 131 21 = nI K) (hI : ∀ i, i < K → rI X i) (w : X 154 (K - 1) = 0)
    (g3 : (pN X s.2.2.1 s.2.2.2.2.2.2 K 64).2.2.1 = false → ∀ M, frZ X M → Q (some (.int (-3))) M)
    (gE : (pN X s.2.2.1 s.2.2.2.2.2.2 K 64).2.2.1 = true → ∀ M, frZ X M → gM M s.2.2.1 s.2.2.2.2.2.2 → lM M s.2.2.1 (pN X s.2.2.1 s.2.2.2.2.2.2 K 64) → ez xs 177 0 (jx_ent 177 [.ref 131]) [] M (fun r M2 => ∃ v, r = some (.int v) ∧ Q r M2)) : ez xs 178 0 (jx_ent 178 [.ref 131]) [] X Q := by
  obtain ⟨jI, dep, A, B, -, hnd, -⟩ := pParse_J p
  have hc := jI.2.2.1
  have hE := gE_of hc hnd
  refine ez_blk 1 rfl ?_
  show ez xs 178 1 [some (.ref 131), none, none, none, none] [.ref 131] X Q
  refine ez_call (as := [.ref 131]) (rest := []) rfl (by decide) rfl ?_
  refine h_stG x1 x2 p hK0 hK6 h21 w (fun N G F => ?_)
  generalize s.2.2.1 = c at *
  generalize s.2.2.2.2.2.2 = nd at *
  refine ez_blk (pc' := 6) 2 rfl ?_
  show ez xs 178 6 [some (.ref 131), some (.int 0), none, none, none] [.int 0] N Q
  refine ez_if_ge rfl (fun _ => ?_) (fun z => absurd (by decide) z)
  show ez xs 178 11 [some (.ref 131), some (.int 0), none, none, none] [] N Q
  refine ez_blk (pc' := 13) 2 rfl ?_
  have BIND : ∀ (r b : Nat) (M : zM) (o4 : Option Value), b + r = 64 → (∀ a k, ¬ (a = 131 ∧ k = 40) → ¬ (164 ≤ a ∧ a ≤ 170) → M a k = N a k) → lM M c (pN X c nd K b) → ez xs 178 38 [some (.ref 131), some (.int 0), some (.int (bI (pN X c nd K b).2.2.1)), some (.int (nI b)), o4] [] M Q := by
    intro r
    induction r with
    | zero =>
      intro b M o4 hb hF hM
      refine ez_blk 2 rfl ?_
      show ez xs 178 41 [some (.ref 131), some (.int 0), some (.int (bI (pN X c nd K b).2.2.1)), some (.int (nI b)), o4] [.int (nI 64), .int (nI b)] M Q
      refine ez_icmp_ge rfl (fun _ => ?_) (fun z => absurd (nI_le (by omega) (by omega)) z)
      rw [show b = 64 by omega] at hM ⊢
      have fz : frZ X M := fun a k q1 q2 q3 => by rw [hF a k (by omega) q3]; exact F a k (by omega) q2
      show ez xs 178 89 [some (.ref 131), some (.int 0), some (.int (bI (pN X c nd K 64).2.2.1)), some (.int (nI 64)), o4] [] M Q
      refine ez_blk 1 rfl ?_
      show ez xs 178 90 [some (.ref 131), some (.int 0), some (.int (bI (pN X c nd K 64).2.2.1)), some (.int (nI 64)), o4] [.int (bI (pN X c nd K 64).2.2.1)] M Q
      refine ez_if_eq rfl (fun z => ?_) (fun z => ?_)
      · show ez xs 178 100 [some (.ref 131), some (.int 0), some (.int (bI (pN X c nd K 64).2.2.1)), some (.int (nI 64)), o4] [] M Q
        refine ez_blk 1 rfl ?_
        exact ez_ret (y := 178) rfl (by decide) rfl (g3 (bI_0.mp z) M fz)
      · show ez xs 178 93 [some (.ref 131), some (.int 0), some (.int (bI (pN X c nd K 64).2.2.1)), some (.int (nI 64)), o4] [] M Q
        refine ez_blk 1 rfl ?_
        show ez xs 178 94 [some (.ref 131), some (.int 0), some (.int (bI (pN X c nd K 64).2.2.1)), some (.int (nI 64)), o4] [.ref 131] M Q
        refine ez_call (as := [.ref 131]) (rest := []) rfl (by decide) rfl ?_
        refine ez_mono (gE (bI_t.mp z) M fz (gM_same (hF 131 5 (by omega) (by omega)) (fun a k _ _ => hF a k (by omega) (by omega)) G) hM) (fun rr M2 q => ?_)
        obtain ⟨v, rfl, q⟩ := q
        refine ez_blk (pc' := 102) 1 rfl ?_
        exact ez_ret (y := 178) rfl (by decide) rfl q
    | succ r ih =>
      intro b M o4 hb hF hM
      have hb64 : b < 64 := by omega
      have t9 : ∀ a k, 149 ≤ a → a ≤ 163 → M a k = X a k := fun a k q1 q2 => by rw [hF a k (by omega) (by omega)]; exact F a k (by omega) (by omega)
      have i3 : M 131 21 = nI K := by rw [hF 131 21 (by omega) (by omega), F 131 21 (by omega) (by omega), h21]
      have g3' : gM M c nd := gM_same (hF 131 5 (by omega) (by omega)) (fun a k _ _ => hF a k (by omega) (by omega)) G
      have eP : pN X c nd K (b + 1) = if posB X K b = true then ntK (Ve X) c (fun k => hK X c nd K (nI b) k) (edB X) b K (pN X c nd K b) else pN X c nd K b := rfl
      have NX : ∀ (N3 : zM) (o4 : Option Value), (∀ a k, ¬ (a = 131 ∧ k = 40) → ¬ (164 ≤ a ∧ a ≤ 170) → N3 a k = N a k) → lM N3 c (pN X c nd K (b + 1)) → ∀ v, v = (pN X c nd K (b + 1)).2.2.1 → ez xs 178 83 [some (.ref 131), some (.int 0), some (.int (bI v)), some (.int (nI b)), o4] [] N3 Q := fun N3 o4 q1 q2 v hv => by
        subst hv
        refine ez_blk (pc' := 38) 2 rfl ?_
        show ez xs 178 38 [some (.ref 131), some (.int 0), some (.int (bI (pN X c nd K (b + 1)).2.2.1)), some (.int (nI b + 1)), o4] [] N3 Q
        rw [nI_1]
        exact ih (b + 1) N3 o4 (by omega) q1 q2
      refine ez_blk 2 rfl ?_
      show ez xs 178 41 [some (.ref 131), some (.int 0), some (.int (bI (pN X c nd K b).2.2.1)), some (.int (nI b)), o4] [.int (nI 64), .int (nI b)] M Q
      refine ez_icmp_ge rfl (fun z => absurd z (nI_ge (by omega) (by omega))) (fun _ => ?_)
      show ez xs 178 44 [some (.ref 131), some (.int 0), some (.int (bI (pN X c nd K b).2.2.1)), some (.int (nI b)), o4] [] M Q
      refine ez_blk 2 rfl ?_
      show ez xs 178 46 [some (.ref 131), some (.int 0), some (.int (bI (pN X c nd K b).2.2.1)), some (.int (nI b)), o4] [.int (nI b), .ref 131] M Q
      refine ez_call (as := [.ref 131, .int (nI b)]) (rest := []) rfl (by decide) rfl ?_
      refine h_possible (rNamed_e hK6 i3).1 ?_
      rw [(rNamed_e hK6 i3).2, rU_s9 t9]
      show ez xs 178 49 [some (.ref 131), some (.int 0), some (.int (bI (pN X c nd K b).2.2.1)), some (.int (nI b)), o4] [.int (bI (posB X K b))] M Q
      refine ez_if_eq rfl (fun z => ?_) (fun z => ?_)
      · rw [if_neg (by rw [bI_0.mp z]; decide)] at eP
        exact NX M o4 hF (by rw [eP]; exact hM) _ (by rw [eP])
      rw [if_pos (bI_t.mp z)] at eP
      show ez xs 178 52 [some (.ref 131), some (.int 0), some (.int (bI (pN X c nd K b).2.2.1)), some (.int (nI b)), o4] [] M Q
      refine ez_blk 2 rfl ?_
      show ez xs 178 54 [some (.ref 131), some (.int 0), some (.int (bI (pN X c nd K b).2.2.1)), some (.int (nI b)), o4] [.int (nI b), .ref 131] M Q
      refine ez_call (as := [.ref 131, .int (nI b)]) (rest := []) rfl (by decide) rfl ?_
      refine h_M_findTakes hK6 hc i3 g3' hE (fun M4 u1 u2 => ?_)
      show ez xs 178 57 [some (.ref 131), some (.int 0), some (.int (bI (pN X c nd K b).2.2.1)), some (.int (nI b)), o4] [] M4 Q
      refine ez_blk 1 rfl ?_
      show ez xs 178 58 [some (.ref 131), some (.int 0), some (.int (bI (pN X c nd K b).2.2.1)), some (.int (nI b)), o4] [.ref 131] M4 Q
      refine ez_call (as := [.ref 131]) (rest := []) rfl (by decide) rfl ?_
      have v9 : ∀ a k, 149 ≤ a → a ≤ 163 → M4 a k = M a k := fun a k _ _ => u2 a k (by omega) (by omega)
      refine h_M_findHits hK0 hK6 hc (by rw [u2 131 21 (by omega) (by omega), i3]) (gM_same (u2 131 5 (by omega) (by omega)) (fun a k _ _ => u2 a k (by omega) (by omega)) g3') hE (b := nI b) (fun q hq => by rw [u1 q hq, tK_same v9]) (fun M5 u3 u4 => ?_)
      have F5 : ∀ a k, ¬ (a = 131 ∧ k = 40) → ¬ (164 ≤ a ∧ a ≤ 170) → M5 a k = N a k := fun a k q1 q2 => by rw [u4 a k (by omega), u2 a k q1 (by omega)]; exact hF a k q1 q2
      have H5 : ∀ k, k < K → M5 165 k = hK X c nd K (nI b) k := fun k hk => by rw [u3 k hk, hK_same v9, hK_same t9]
      have L5 : lM M5 c (pN X c nd K b) := fun n hn => by
        rw [u4 167 n (by omega), u4 168 n (by omega), u2 167 n (by omega) (by omega), u2 168 n (by omega) (by omega)]
        exact hM n hn
      show ez xs 178 61 [some (.ref 131), some (.int 0), some (.int (bI (pN X c nd K b).2.2.1)), some (.int (nI b)), o4] [] M5 Q
      refine ez_blk 2 rfl ?_
      show ez xs 178 63 [some (.ref 131), some (.int 0), some (.int (bI (pN X c nd K b).2.2.1)), some (.int (nI b)), o4] [.int (nI b), .ref 131] M5 Q
      refine ez_call (as := [.ref 131, .int (nI b)]) (rest := []) rfl (by decide) rfl ?_
      have sX : ∀ a k, sS a k → M5 a k = X a k := fun a k q => by
        have q2 : (36 ≤ a ∧ a ≤ 73) ∨ (149 ≤ a ∧ a ≤ 163) ∨ (a = 131 ∧ k = 21) := q
        rw [F5 a k (by omega) (by omega)]
        exact F a k (by omega) (by omega)
      refine h_M_note (S := X) (H := fun k => hK X c nd K (nI b) k) hc hK6 hb64 hI sX (by rw [F5 131 21 (by omega) (by omega), F 131 21 (by omega) (by omega), h21]) (by rw [F5 131 5 (by omega) (by omega)]; exact G.1) H5 L5 (ntB_rg b (by omega)) (fun M6 v l6 e6 f6 => ?_)
      have F6 : ∀ a k, ¬ (a = 131 ∧ k = 40) → ¬ (164 ≤ a ∧ a ≤ 170) → M6 a k = N a k := fun a k q1 q2 => by rw [f6 a k (by omega)]; exact F5 a k q1 q2
      rw [← eP] at l6 e6
      refine ez_blk (pc' := 69) 2 rfl ?_
      show ez xs 178 69 [some (.ref 131), some (.int 0), some (.int (bI (pN X c nd K b).2.2.1)), some (.int (nI b)), some (.int (bI v))] [.int (bI (pN X c nd K b).2.2.1)] M6 Q
      have NO : ((pN X c nd K b).2.2.1 && v) = false → ez xs 178 81 [some (.ref 131), some (.int 0), some (.int (bI (pN X c nd K b).2.2.1)), some (.int (nI b)), some (.int (bI v))] [] M6 Q := fun q => by
        refine ez_blk (pc' := 83) 2 rfl ?_
        exact NX M6 _ F6 l6 false (by rw [e6, q])
      refine ez_if_eq rfl (fun z => NO (by rw [bI_0.mp z]; rfl)) (fun z => ?_)
      show ez xs 178 72 [some (.ref 131), some (.int 0), some (.int (bI (pN X c nd K b).2.2.1)), some (.int (nI b)), some (.int (bI v))] [] M6 Q
      refine ez_blk 1 rfl ?_
      show ez xs 178 74 [some (.ref 131), some (.int 0), some (.int (bI (pN X c nd K b).2.2.1)), some (.int (nI b)), some (.int (bI v))] [.int (bI v)] M6 Q
      refine ez_if_eq rfl (fun z2 => NO (by rw [bI_0.mp z2, Bool.and_false])) (fun z2 => ?_)
      refine ez_blk (pc' := 83) 3 rfl ?_
      exact NX M6 _ F6 l6 true (by rw [e6, bI_t.mp z, bI_t.mp z2]; rfl)
  have INIT : ∀ (r n : Nat) (M : zM), n + r = c → (∀ a k, a ≠ 167 → M a k = N a k) → (∀ j, j < n → M 167 j = -1) → ez xs 178 13 [some (.ref 131), some (.int 0), some (.int (nI n)), none, none] [] M Q := by
    intro r
    induction r with
    | zero =>
      intro n M hn hF h1
      refine ez_blk 3 rfl ?_
      show ez xs 178 18 [some (.ref 131), some (.int 0), some (.int (nI n)), none, none] [.int (M 131 5), .int (nI n)] M Q
      rw [hF 131 5 (by omega), G.1]
      refine ez_icmp_ge rfl (fun _ => ?_) (fun z => absurd (nI_le (by omega) (by omega)) z)
      refine ez_blk (pc' := 38) 4 rfl ?_
      exact BIND 64 0 M none (by omega) (fun a k _ q => hF a k (by omega)) (fun j hj => ⟨fun _ => h1 j (by omega), fun e he => by cases he⟩)
    | succ r ih =>
      intro n M hn hF h1
      refine ez_blk 3 rfl ?_
      show ez xs 178 18 [some (.ref 131), some (.int 0), some (.int (nI n)), none, none] [.int (M 131 5), .int (nI n)] M Q
      rw [hF 131 5 (by omega), G.1]
      refine ez_icmp_ge rfl (fun z => absurd z (nI_ge (by omega) (by omega))) (fun _ => ?_)
      show ez xs 178 21 [some (.ref 131), some (.int 0), some (.int (nI n)), none, none] [] M Q
      refine ez_blk 4 rfl ?_
      show ez xs 178 27 [some (.ref 131), some (.int 0), some (.int (nI n)), none, none] [.int (-1), .int (nI n), .ref 167] M Q
      refine ez_iast (n := 24) rfl (by decide) rfl (by omega) (by omega) ?_
      refine ez_blk (pc' := 13) 2 rfl ?_
      show ez xs 178 13 [some (.ref 131), some (.int 0), some (.int (nI n + 1)), none, none] [] (jj_up M 167 n (-1)) Q
      rw [nI_1]
      refine ih (n + 1) _ (by omega) (fun a k q => by rw [up_ne q]; exact hF a k q) (fun j hj => ?_)
      by_cases e : j = n
      · rw [e, up_eq]
      · rw [up_k e]; exact h1 j (by omega)
  exact INIT c 0 N (by omega) (fun _ _ _ => rfl) (fun j hj => absurd hj (Nat.not_lt_zero j))
