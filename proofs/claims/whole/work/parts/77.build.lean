/-! The text of an item's new statements; the class builds it. -/
def stm (o f x y b : Int32) : List Int32 := if o = 0 then [102 + f, 40, 97 + vl x b, 41, 59] else if o = 1 then [97 + vl x b, 61, 97 + vl y b, 59] else [33, 97 + vl x b, 59]
def wT (S : zM) (b : Int32) (k : Nat) : Nat → List Int32
  | 0 => []
  | j + 1 => wT S b k j ++ stm (S 160 (2 * k + j)) (S 161 (2 * k + j)) (S 162 (2 * k + j)) (S 163 (2 * k + j)) b
def wW (S : zM) (b : Int32) (k : Nat) : List Int32 := wT S b k (S 159 k).toNatClampNeg
theorem stm_len (o f x y b : Int32) : 3 ≤ (stm o f x y b).length ∧ (stm o f x y b).length ≤ 5 := by
  unfold stm
  split
  · exact ⟨by show 3 ≤ 5; omega, by show 5 ≤ 5; omega⟩
  · split
    · exact ⟨by show 3 ≤ 4; omega, by show 4 ≤ 5; omega⟩
    · exact ⟨by show 3 ≤ 3; omega, by show 3 ≤ 5; omega⟩
theorem wT_len (S : zM) (b : Int32) (k : Nat) : ∀ j, 3 * j ≤ (wT S b k j).length ∧ (wT S b k j).length ≤ 5 * j := by
  intro j
  induction j with
  | zero => exact ⟨Nat.le_refl 0, Nat.le_refl 0⟩
  | succ j ih =>
    rw [wT, List.length_append]
    have := stm_len (S 160 (2 * k + j)) (S 161 (2 * k + j)) (S 162 (2 * k + j)) (S 163 (2 * k + j)) b
    omega
/-- a list of signs lies in cell p from its start -/
def li (m : zM) (p : Nat) (w : List Int32) : Prop := ∀ i v, w[i]? = some v → m p i = v
theorem li_snoc {m M : zM} {p : Nat} {w : List Int32} {v : Int32} (h : li m p w) (h1 : M p w.length = v) (h2 : ∀ i, i < w.length → M p i = m p i) : li M p (w ++ [v]) := by
  intro i u hu
  by_cases hi : i < w.length
  · rw [List.getElem?_append_left hi] at hu
    rw [h2 i hi]
    exact h i u hu
  · rw [List.getElem?_append_right (by omega)] at hu
    have hj := (List.getElem?_eq_some_iff.mp hu).1
    simp at hj
    have e : i = w.length := by omega
    subst e
    rw [Nat.sub_self] at hu
    cases hu
    exact h1
def eW (m : zM) (w : List Int32) : Prop := m 79 1 = nI w.length ∧ li m 80 w
def frV (m M : zM) : Prop := ∀ a b, ¬ (a = 79 ∧ b = 1) → a ≠ 80 → M a b = m a b
theorem h_wc {xs : jx_Xs} {m : zM} {Q : Option Value → zM → Prop} {v : Int32} {w : List Int32} (hv : vp_nar .char v = v) (hw : w.length < 10) (h : eW m w) (g : ∀ M, eW M (w ++ [v]) → frV m M → Q none M) : ez xs 129 0 (jx_ent 129 [.ref 79, .int v]) [] m Q := by
  refine ez_blk 5 rfl ?_
  show ez xs 129 9 [some (.ref 79), some (.int v)] [.int 10, .int (m 79 1)] m Q
  rw [h.1]
  refine ez_icmp_ge rfl (fun z => absurd ((nI_leI (a := 10) (by omega) (by omega)).mp z) (by omega)) (fun _ => ?_)
  show ez xs 129 12 [some (.ref 79), some (.int v)] [] m Q
  refine ez_blk 5 rfl ?_
  show ez xs 129 21 [some (.ref 79), some (.int v)] [.int v, .int (m 79 1), .ref 80] m Q
  rw [h.1]
  refine ez_cast (n := 10) rfl (by decide) rfl hw (by omega) ?_
  rw [hv]
  show ez xs 129 22 [some (.ref 79), some (.int v)] [] (jj_up m 80 w.length v) Q
  refine ez_blk 6 rfl ?_
  refine ez_ret (y := 129) (m := jj_up (jj_up m 80 w.length v) 79 1 (m 79 1 + 1)) rfl (by decide) rfl (g _ ⟨?_, li_snoc (m := m) h.2 ?_ (fun i hi => ?_)⟩ (fun a b q1 q2 => ?_))
  · rw [up_eq, h.1, nI_1, List.length_append]; rfl
  · rw [up_ne (by omega), up_eq]
  · rw [up_ne (by omega), up_k (by omega)]
  · rw [up_ne2 q1, up_ne q2]
theorem frV_refl (m : zM) : frV m m := fun _ _ _ _ => rfl
theorem frV_trans {m M N : zM} (h1 : frV m M) (h2 : frV M N) : frV m N := fun a b q1 q2 => (h2 a b q1 q2).trans (h1 a b q1 q2)
theorem h_functionSign {xs : jx_Xs} {m : zM} {Q : Option Value → zM → Prop} {r g0 : Nat} (hr : r < 172) (hs : z_H r = (0, 8, 4)) (hg : g0 ≤ 2) (hf : m r 1 = nI g0) (g : Q (some (.int (nI (102 + g0)))) m) : ez xs 128 0 (jx_ent 128 [.ref r]) [] m Q := by
  refine ez_blk 1 rfl ?_
  show ez xs 128 1 [some (.ref r)] [.ref r] m Q
  refine ez_get rfl hr hs (by decide) rfl ?_
  show ez xs 128 4 [some (.ref r)] [.int (m r 1)] m Q
  rw [hf]
  refine ez_call (as := [.int (nI g0)]) (rest := []) rfl (by decide) rfl ?_
  refine d_Pattern_isFunction ?_
  have e : f_Pattern_isFunction m (nI g0) = 1 := by
    unfold f_Pattern_isFunction
    rw [if_neg (nI_pos (by omega)), if_neg (show ¬ (3 : Int32) ≤ nI g0 from fun z => absurd ((nI_leI (a := 3) (by omega) (by omega)).mp z) (by omega))]
  rw [e]
  show ez xs 128 7 [some (.ref r)] [.int 1] m Q
  refine ez_if_eq rfl (fun z => absurd z (by decide)) (fun _ => ?_)
  show ez xs 128 10 [some (.ref r)] [] m Q
  refine ez_blk 2 rfl ?_
  show ez xs 128 13 [some (.ref r)] [.ref r, .ref 1000001] m Q
  refine ez_get rfl hr hs (by decide) rfl ?_
  rw [hf]
  show ez xs 128 16 [some (.ref r)] [.int (nI g0), .ref 1000001] m Q
  refine ez_call (as := [.ref 1000001, .int (nI g0)]) (rest := []) rfl (by decide) rfl ?_
  refine h_charAt1 (by omega) ?_
  show ez xs 128 19 [some (.ref r)] [.int (nI (102 + g0))] m Q
  refine ez_blk 1 rfl ?_
  exact ez_retc (y := 128) rfl rfl (nar_char (by omega)) g
theorem rP_fr {m M : zM} {r : Nat} {o f x y : Int32} (hr : r ≠ 79) (hr2 : r ≠ 80) (hF : frV m M) (g : rP m r o f x y) : rP M r o f x y := rP_same (fun k => hF r k (by omega) hr2) g
set_option maxHeartbeats 2000000 in
theorem h_writeP {xs : jx_Xs} {m : zM} {Q : Option Value → zM → Prop} {r b : Nat} {o f x y : Int32} {w : List Int32} (hr : r < 79) (hs : z_H r = (0, 8, 4)) (hP : rP m r o f x y) (ho : ¬ o = 3) (hb : b < 64) (hw : w.length ≤ 5) (h : eW m w) (g : ∀ M, eW M (w ++ stm o f x y (nI b)) → frV m M → Q none M) : ez xs 130 0 (jx_ent 130 [.ref 79, .ref r, .int (nI b)]) [] m Q := by
  obtain ⟨p, q, hp, hq, rfl, rfl, r0, r2, f1, f2, y1, y2⟩ := id hP
  have hr172 : r < 172 := by omega
  obtain ⟨a, a4, av⟩ := vl_in hq hb
  have ca : 97 + vl (nI q) (nI b) = nI (97 + a) := by rw [av]; exact nI_add 97 a
  have nc : ∀ z, z ≤ 126 → vp_nar .char (nI z) = nI z := fun z hz => nar_char hz
  have ep0 : nI p = 0 ↔ p = 0 := nI_eq (b := 0) (by omega) (by omega)
  have ep1 : nI p = 1 ↔ p = 1 := nI_eq (b := 1) (by omega) (by omega)
  have ep3 : nI p = 3 ↔ p = 3 := nI_eq (b := 3) (by omega) (by omega)
  refine ez_blk 2 rfl ?_
  show ez xs 130 3 [some (.ref 79), some (.ref r), some (.int (nI b)), none] [.ref r, .ref 1000000] m Q
  refine ez_getN rfl hr172 hs (by decide) rfl ?_
  rw [r2]
  show ez xs 130 6 [some (.ref 79), some (.ref r), some (.int (nI b)), none] [.int (nI q), .ref 1000000] m Q
  refine ez_blk 1 rfl ?_
  show ez xs 130 7 [some (.ref 79), some (.ref r), some (.int (nI b)), none] [.int (nI b), .int (nI q), .ref 1000000] m Q
  refine ez_call (as := [.int (nI q), .int (nI b)]) (rest := [.ref 1000000]) rfl (by decide) rfl ?_
  refine d_Pattern_bound ?_
  rw [bound_vl hq, av]
  show ez xs 130 10 [some (.ref 79), some (.ref r), some (.int (nI b)), none] [.int (nI a), .ref 1000000] m Q
  refine ez_call (as := [.ref 1000000, .int (nI a)]) (rest := []) rfl (by decide) rfl ?_
  refine h_charAt0 a4 ?_
  show ez xs 130 13 [some (.ref 79), some (.ref r), some (.int (nI b)), none] [.int (nI (97 + a))] m Q
  refine ez_blk 2 rfl ?_
  show ez xs 130 15 [some (.ref 79), some (.ref r), some (.int (nI b)), some (.int (nI (97 + a)))] [.ref r] m Q
  refine ez_getN rfl hr172 hs (by decide) rfl ?_
  rw [r0]
  show ez xs 130 18 [some (.ref 79), some (.ref r), some (.int (nI b)), some (.int (nI (97 + a)))] [.int (nI p)] m Q
  have END : ∀ (M : zM) (u : List Int32), eW M (w ++ u) → u.length ≤ 4 → frV m M → stm (nI p) f (nI q) y (nI b) = u ++ [nI 59] → ez xs 130 99 [some (.ref 79), some (.ref r), some (.int (nI b)), some (.int (nI (97 + a)))] [] M Q := fun M u hM hu hF e => by
    refine ez_blk 2 rfl ?_
    show ez xs 130 102 [some (.ref 79), some (.ref r), some (.int (nI b)), some (.int (nI (97 + a)))] [.int (nI 59), .ref 79] M Q
    refine ez_call (as := [.ref 79, .int (nI 59)]) (rest := []) rfl (by decide) rfl ?_
    refine h_wc (nc 59 (by omega)) (by rw [List.length_append]; omega) hM (fun N hN hNF => ?_)
    refine ez_ret (y := 130) rfl (by decide) rfl (g N ?_ (frV_trans hF hNF))
    rw [e, ← List.append_assoc]
    exact hN
  refine ez_if_ne rfl (fun z => ?_) (fun z => ?_)
  case refine_2 =>
    have p0 := ep0.mp z
    obtain ⟨⟨g0, g1, g2⟩, g3⟩ := f1 p0
    rw [g2] at g3
    have cf : 102 + f = nI (102 + g0) := by rw [g2]; exact nI_add 102 g0
    show ez xs 130 21 [some (.ref 79), some (.ref r), some (.int (nI b)), some (.int (nI (97 + a)))] [] m Q
    refine ez_blk 2 rfl ?_
    show ez xs 130 23 [some (.ref 79), some (.ref r), some (.int (nI b)), some (.int (nI (97 + a)))] [.ref r, .ref 79] m Q
    refine ez_calls (i := r) (as2 := []) (rest := [.ref 79]) rfl (by decide) rfl rfl rfl hr172 hs rfl ?_
    refine h_functionSign hr172 hs g1 g3 ?_
    show ez xs 130 26 [some (.ref 79), some (.ref r), some (.int (nI b)), some (.int (nI (97 + a)))] [.int (nI (102 + g0)), .ref 79] m Q
    refine ez_call (as := [.ref 79, .int (nI (102 + g0))]) (rest := []) rfl (by decide) rfl ?_
    refine h_wc (nc _ (by omega)) (by omega) h (fun M1 h1 F1 => ?_)
    show ez xs 130 29 [some (.ref 79), some (.ref r), some (.int (nI b)), some (.int (nI (97 + a)))] [] M1 Q
    refine ez_blk 2 rfl ?_
    show ez xs 130 32 [some (.ref 79), some (.ref r), some (.int (nI b)), some (.int (nI (97 + a)))] [.int (nI 40), .ref 79] M1 Q
    refine ez_call (as := [.ref 79, .int (nI 40)]) (rest := []) rfl (by decide) rfl ?_
    refine h_wc (nc _ (by omega)) (by rw [List.length_append]; show w.length + 1 < 10; omega) h1 (fun M2 h2 F2 => ?_)
    show ez xs 130 35 [some (.ref 79), some (.ref r), some (.int (nI b)), some (.int (nI (97 + a)))] [] M2 Q
    refine ez_blk 2 rfl ?_
    show ez xs 130 37 [some (.ref 79), some (.ref r), some (.int (nI b)), some (.int (nI (97 + a)))] [.int (nI (97 + a)), .ref 79] M2 Q
    refine ez_call (as := [.ref 79, .int (nI (97 + a))]) (rest := []) rfl (by decide) rfl ?_
    refine h_wc (nc _ (by omega)) (by rw [List.length_append, List.length_append]; show w.length + 1 + 1 < 10; omega) h2 (fun M3 h3 F3 => ?_)
    show ez xs 130 40 [some (.ref 79), some (.ref r), some (.int (nI b)), some (.int (nI (97 + a)))] [] M3 Q
    refine ez_blk 2 rfl ?_
    show ez xs 130 43 [some (.ref 79), some (.ref r), some (.int (nI b)), some (.int (nI (97 + a)))] [.int (nI 41), .ref 79] M3 Q
    refine ez_call (as := [.ref 79, .int (nI 41)]) (rest := []) rfl (by decide) rfl ?_
    refine h_wc (nc _ (by omega)) (by rw [List.length_append, List.length_append, List.length_append]; show w.length + 1 + 1 + 1 < 10; omega) h3 (fun M4 h4 F4 => ?_)
    refine ez_blk (pc' := 99) 1 rfl ?_
    refine END M4 [nI (102 + g0), nI 40, nI (97 + a), nI 41] ?_ (by show 4 ≤ 4; omega) (frV_trans F1 (frV_trans F2 (frV_trans F3 F4))) ?_
    · rw [List.append_assoc, List.append_assoc, List.append_assoc] at h4
      exact h4
    · unfold stm
      rw [if_pos z, ca, cf]
      rfl
  have p0 : ¬ p = 0 := fun e => z (ep0.mpr e)
  show ez xs 130 49 [some (.ref 79), some (.ref r), some (.int (nI b)), some (.int (nI (97 + a)))] [] m Q
  refine ez_blk 1 rfl ?_
  show ez xs 130 50 [some (.ref 79), some (.ref r), some (.int (nI b)), some (.int (nI (97 + a)))] [.ref r] m Q
  refine ez_getN rfl hr172 hs (by decide) rfl ?_
  rw [r0]
  refine ez_blk 1 rfl ?_
  show ez xs 130 54 [some (.ref 79), some (.ref r), some (.int (nI b)), some (.int (nI (97 + a)))] [.int 1, .int (nI p)] m Q
  refine ez_icmp_ne rfl (fun z1 => ?_) (fun z1 => ?_)
  · show ez xs 130 88 [some (.ref 79), some (.ref r), some (.int (nI b)), some (.int (nI (97 + a)))] [] m Q
    refine ez_blk 2 rfl ?_
    show ez xs 130 91 [some (.ref 79), some (.ref r), some (.int (nI b)), some (.int (nI (97 + a)))] [.int (nI 33), .ref 79] m Q
    refine ez_call (as := [.ref 79, .int (nI 33)]) (rest := []) rfl (by decide) rfl ?_
    refine h_wc (nc _ (by omega)) (by omega) h (fun M1 h1 F1 => ?_)
    show ez xs 130 94 [some (.ref 79), some (.ref r), some (.int (nI b)), some (.int (nI (97 + a)))] [] M1 Q
    refine ez_blk 2 rfl ?_
    show ez xs 130 96 [some (.ref 79), some (.ref r), some (.int (nI b)), some (.int (nI (97 + a)))] [.int (nI (97 + a)), .ref 79] M1 Q
    refine ez_call (as := [.ref 79, .int (nI (97 + a))]) (rest := []) rfl (by decide) rfl ?_
    refine h_wc (nc _ (by omega)) (by rw [List.length_append]; show w.length + 1 < 10; omega) h1 (fun M2 h2 F2 => ?_)
    show ez xs 130 99 [some (.ref 79), some (.ref r), some (.int (nI b)), some (.int (nI (97 + a)))] [] M2 Q
    refine END M2 [nI 33, nI (97 + a)] ?_ (by show 2 ≤ 4; omega) (frV_trans F1 F2) ?_
    · rw [List.append_assoc] at h2
      exact h2
    · unfold stm
      rw [if_neg z, if_neg z1, ca]
      rfl
  · have p1 := ep1.mp z1
    obtain ⟨⟨g0, g1, g2⟩, g3⟩ := y1 p1
    obtain ⟨a2, a24, av2⟩ := vl_in g1 hb
    have ca2 : 97 + vl y (nI b) = nI (97 + a2) := by rw [g2, av2]; exact nI_add 97 a2
    show ez xs 130 57 [some (.ref 79), some (.ref r), some (.int (nI b)), some (.int (nI (97 + a)))] [] m Q
    refine ez_blk 2 rfl ?_
    show ez xs 130 59 [some (.ref 79), some (.ref r), some (.int (nI b)), some (.int (nI (97 + a)))] [.int (nI (97 + a)), .ref 79] m Q
    refine ez_call (as := [.ref 79, .int (nI (97 + a))]) (rest := []) rfl (by decide) rfl ?_
    refine h_wc (nc _ (by omega)) (by omega) h (fun M1 h1 F1 => ?_)
    show ez xs 130 62 [some (.ref 79), some (.ref r), some (.int (nI b)), some (.int (nI (97 + a)))] [] M1 Q
    refine ez_blk 2 rfl ?_
    show ez xs 130 65 [some (.ref 79), some (.ref r), some (.int (nI b)), some (.int (nI (97 + a)))] [.int (nI 61), .ref 79] M1 Q
    refine ez_call (as := [.ref 79, .int (nI 61)]) (rest := []) rfl (by decide) rfl ?_
    refine h_wc (nc _ (by omega)) (by rw [List.length_append]; show w.length + 1 < 10; omega) h1 (fun M2 h2 F2 => ?_)
    show ez xs 130 68 [some (.ref 79), some (.ref r), some (.int (nI b)), some (.int (nI (97 + a)))] [] M2 Q
    refine ez_blk 3 rfl ?_
    show ez xs 130 72 [some (.ref 79), some (.ref r), some (.int (nI b)), some (.int (nI (97 + a)))] [.ref r, .ref 1000000, .ref 79] M2 Q
    refine ez_getN rfl hr172 hs (by decide) rfl ?_
    have e3 : M2 r 3 = nI g0 := by rw [frV_trans F1 F2 r 3 (by omega) (by omega), g3, g2]
    rw [e3]
    refine ez_blk 1 rfl ?_
    show ez xs 130 76 [some (.ref 79), some (.ref r), some (.int (nI b)), some (.int (nI (97 + a)))] [.int (nI b), .int (nI g0), .ref 1000000, .ref 79] M2 Q
    refine ez_call (as := [.int (nI g0), .int (nI b)]) (rest := [.ref 1000000, .ref 79]) rfl (by decide) rfl ?_
    refine d_Pattern_bound ?_
    rw [bound_vl g1, av2]
    show ez xs 130 79 [some (.ref 79), some (.ref r), some (.int (nI b)), some (.int (nI (97 + a)))] [.int (nI a2), .ref 1000000, .ref 79] M2 Q
    refine ez_call (as := [.ref 1000000, .int (nI a2)]) (rest := [.ref 79]) rfl (by decide) rfl ?_
    refine h_charAt0 a24 ?_
    show ez xs 130 82 [some (.ref 79), some (.ref r), some (.int (nI b)), some (.int (nI (97 + a)))] [.int (nI (97 + a2)), .ref 79] M2 Q
    refine ez_call (as := [.ref 79, .int (nI (97 + a2))]) (rest := []) rfl (by decide) rfl ?_
    refine h_wc (nc _ (by omega)) (by rw [List.length_append, List.length_append]; show w.length + 1 + 1 < 10; omega) h2 (fun M3 h3 F3 => ?_)
    refine ez_blk (pc' := 99) 1 rfl ?_
    refine END M3 [nI (97 + a), nI 61, nI (97 + a2)] ?_ (by show 3 ≤ 4; omega) (frV_trans F1 (frV_trans F2 F3)) ?_
    · rw [List.append_assoc, List.append_assoc] at h3
      exact h3
    · unfold stm
      rw [if_neg z, if_pos z1, ca, ca2]
      rfl
theorem h_build {xs : jx_Xs} {m : zM} {Q : Option Value → zM → Prop} {i b : Nat} (hi : i < 6) (hb : b < 64) (hI : rI m i) (g : ∀ M, eW M (wW m (nI b) i) → M 79 2 = m 159 i → M 79 3 = m 153 i → (∀ a j, a ≠ 79 → a ≠ 80 → M a j = m a j) → Q none M) : ez xs 131 0 (jx_ent 131 [.ref 79, .ref (38 + 6 * i), .int (nI b)]) [] m Q := by
  obtain ⟨-, ⟨o1, o2⟩, -, -, ⟨n, n1, n2, n3, n4, n5⟩, -⟩ := id hI
  have eWn : wW m (nI b) i = wT m (nI b) i n := by unfold wW; rw [n3, nI_clamp (by omega)]
  rw [eWn, n3] at g
  refine ez_blk 1 rfl ?_
  show ez xs 131 1 [some (.ref 79), some (.ref (38 + 6 * i)), some (.int (nI b)), none] [.ref 79] m Q
  refine ez_call (as := [.ref 79]) (rest := []) rfl (by decide) rfl ?_
  refine c_Edit_reset (by decide) rfl ?_
  have f1 : ∀ a j, ¬ (a = 79) → jj_up (jj_up (jj_up m 79 1 0) 79 2 0) 79 3 0 a j = m a j := fun a j q => by rw [up_ne q, up_ne q, up_ne q]
  have f2 : jj_up (jj_up (jj_up m 79 1 0) 79 2 0) 79 3 0 79 1 = 0 ∧ jj_up (jj_up (jj_up m 79 1 0) 79 2 0) 79 3 0 79 2 = 0 := ⟨by simp (disch := omega) only [up_k, up_eq], by simp (disch := omega) only [up_k, up_eq]⟩
  generalize jj_up (jj_up (jj_up m 79 1 0) 79 2 0) 79 3 0 = M0 at f1 f2
  show ez xs 131 4 [some (.ref 79), some (.ref (38 + 6 * i)), some (.int (nI b)), none] [] M0 Q
  refine ez_blk 2 rfl ?_
  show ez xs 131 6 [some (.ref 79), some (.ref (38 + 6 * i)), some (.int (nI b)), none] [.ref (38 + 6 * i), .ref 79] M0 Q
  refine ez_getN rfl (z_iti hi) (z_its hi) (by decide) rfl ?_
  rw [f1 (38 + 6 * i) 4 (by omega), o1]
  show ez xs 131 9 [some (.ref 79), some (.ref (38 + 6 * i)), some (.int (nI b)), none] [.int (m 153 i), .ref 79] M0 Q
  refine ez_put rfl (by decide) rfl (by decide) rfl (by rcases o2 with e | e <;> rw [e] <;> rfl) ?_
  refine ez_blk (pc' := 14) 2 rfl ?_
  show ez xs 131 14 [some (.ref 79), some (.ref (38 + 6 * i)), some (.int (nI b)), some (.int (nI 0))] [] (jj_up M0 79 3 (m 153 i)) Q
  have loop : ∀ (r j : Nat) (M : zM), j + r = n → (∀ a k, a ≠ 79 → a ≠ 80 → M a k = m a k) → eW M (wT m (nI b) i j) → M 79 2 = nI j → M 79 3 = m 153 i → ez xs 131 14 [some (.ref 79), some (.ref (38 + 6 * i)), some (.int (nI b)), some (.int (nI j))] [] M Q := by
    intro r
    induction r with
    | zero =>
      intro j M hj hF hW h2 h3
      refine ez_blk 2 rfl ?_
      show ez xs 131 16 [some (.ref 79), some (.ref (38 + 6 * i)), some (.int (nI b)), some (.int (nI j))] [.ref (38 + 6 * i), .int (nI j)] M Q
      refine ez_getN rfl (z_iti hi) (z_its hi) (by decide) rfl ?_
      rw [hF (38 + 6 * i) 3 (by omega) (by omega), n2]
      show ez xs 131 19 [some (.ref 79), some (.ref (38 + 6 * i)), some (.int (nI b)), some (.int (nI j))] [.int (nI n), .int (nI j)] M Q
      refine ez_icmp_ge rfl (fun _ => ?_) (fun z => absurd (nI_le (by omega) (by omega)) z)
      have e : j = n := by omega
      rw [e] at hW h2
      exact ez_ret rfl (by decide) rfl (g M hW h2 h3 hF)
    | succ r ih =>
      intro j M hj hF hW h2 h3
      refine ez_blk 2 rfl ?_
      show ez xs 131 16 [some (.ref 79), some (.ref (38 + 6 * i)), some (.int (nI b)), some (.int (nI j))] [.ref (38 + 6 * i), .int (nI j)] M Q
      refine ez_getN rfl (z_iti hi) (z_its hi) (by decide) rfl ?_
      rw [hF (38 + 6 * i) 3 (by omega) (by omega), n2]
      show ez xs 131 19 [some (.ref 79), some (.ref (38 + 6 * i)), some (.int (nI b)), some (.int (nI j))] [.int (nI n), .int (nI j)] M Q
      refine ez_icmp_ge rfl (fun z => absurd z (nI_ge (by omega) (by omega))) (fun _ => ?_)
      show ez xs 131 22 [some (.ref 79), some (.ref (38 + 6 * i)), some (.int (nI b)), some (.int (nI j))] [] M Q
      refine ez_blk 2 rfl ?_
      show ez xs 131 24 [some (.ref 79), some (.ref (38 + 6 * i)), some (.int (nI b)), some (.int (nI j))] [.int (nI 2), .int (nI j)] M Q
      refine ez_icmp_ge rfl (fun z => absurd z (nI_ge (by omega) (by omega))) (fun _ => ?_)
      show ez xs 131 27 [some (.ref 79), some (.ref (38 + 6 * i)), some (.int (nI b)), some (.int (nI j))] [] M Q
      refine ez_blk 2 rfl ?_
      show ez xs 131 29 [some (.ref 79), some (.ref (38 + 6 * i)), some (.int (nI b)), some (.int (nI j))] [.ref (38 + 6 * i), .ref 79] M Q
      refine ez_getNr rfl (z_iti hi) (z_its hi) (by decide) rfl (z_ita hi) ?_
      show ez xs 131 32 [some (.ref 79), some (.ref (38 + 6 * i)), some (.int (nI b)), some (.int (nI j))] [.ref (41 + 6 * i), .ref 79] M Q
      refine ez_blk 1 rfl ?_
      show ez xs 131 33 [some (.ref 79), some (.ref (38 + 6 * i)), some (.int (nI b)), some (.int (nI j))] [.int (nI j), .ref (41 + 6 * i), .ref 79] M Q
      refine ez_rld (n := 2) (k := 42 + 6 * i + j) rfl (z_ari hi) (z_ars hi) rfl (by omega) (by omega) (z_adr hi (by omega)) ?_
      show ez xs 131 34 [some (.ref 79), some (.ref (38 + 6 * i)), some (.int (nI b)), some (.int (nI j))] [.ref (42 + 6 * i + j), .ref 79] M Q
      refine ez_blk 1 rfl ?_
      show ez xs 131 35 [some (.ref 79), some (.ref (38 + 6 * i)), some (.int (nI b)), some (.int (nI j))] [.int (nI b), .ref (42 + 6 * i + j), .ref 79] M Q
      refine ez_call (as := [.ref 79, .ref (42 + 6 * i + j), .int (nI b)]) (rest := []) rfl (by decide) rfl ?_
      obtain ⟨q1, q2⟩ := n5 j (by omega)
      refine h_writeP (by omega) (z_ads hi (by omega)) (rP_same (fun k => hF (42 + 6 * i + j) k (by omega) (by omega)) q1) q2 hb (by have := (wT_len m (nI b) i j).2; omega) hW (fun N hN hNF => ?_)
      show ez xs 131 38 [some (.ref 79), some (.ref (38 + 6 * i)), some (.int (nI b)), some (.int (nI j))] [] N Q
      refine ez_blk (pc' := 48) 6 rfl ?_
      show ez xs 131 48 [some (.ref 79), some (.ref (38 + 6 * i)), some (.int (nI b)), some (.int (nI j))] [] (jj_up N 79 2 (N 79 2 + 1)) Q
      refine ez_blk (pc' := 14) 2 rfl ?_
      show ez xs 131 14 [some (.ref 79), some (.ref (38 + 6 * i)), some (.int (nI b)), some (.int (nI j + 1))] [] (jj_up N 79 2 (N 79 2 + 1)) Q
      rw [nI_1]
      refine ih (j + 1) _ (by omega) (fun a k z1 z2 => ?_) ⟨?_, fun k v hk => ?_⟩ ?_ ?_
      · rw [up_ne z1, hNF a k (by omega) z2]; exact hF a k z1 z2
      · rw [up_k (by omega)]; exact hN.1
      · rw [up_ne (by omega)]; exact hN.2 k v hk
      · rw [up_eq, hNF 79 2 (by omega) (by omega), h2, nI_1]
      · rw [up_k (by omega), hNF 79 3 (by omega) (by omega)]; exact h3
  refine loop n 0 _ (by omega) (fun a k z1 z2 => ?_) ⟨?_, fun k v hk => by cases hk⟩ ?_ up_eq
  · rw [up_ne z1]; exact f1 a k z1
  · rw [up_k (by omega)]; exact f2.1
  · rw [up_k (by omega)]; exact f2.2
