/-! Tokens: places of the signs outside comments; both sides find them. -/
/-- in a comment? and the places found, among the first n signs -/
def tk (t : Nat → Nat) : Nat → Bool × List Nat
  | 0 => (false, [])
  | n + 1 => if t n = 35 then (!(tk t n).1, (tk t n).2) else if (tk t n).1 = true then tk t n else if t n = 32 then tk t n else ((tk t n).1, (tk t n).2 ++ [n])
theorem tk_len (t : Nat → Nat) : ∀ n, (tk t n).2.length ≤ n := by
  intro n
  induction n with
  | zero => exact Nat.le_refl 0
  | succ n ih =>
    rw [tk]
    split
    · exact Nat.le_succ_of_le ih
    · split
      · exact Nat.le_succ_of_le ih
      · split
        · exact Nat.le_succ_of_le ih
        · show ((tk t n).2 ++ [n]).length ≤ n + 1
          rw [List.length_append]
          exact Nat.succ_le_succ ih
theorem tk_lt (t : Nat → Nat) : ∀ n p, p ∈ (tk t n).2 → p < n := by
  intro n
  induction n with
  | zero => intro p h; cases h
  | succ n ih =>
    intro p h
    rw [tk] at h
    split at h
    · exact Nat.lt_succ_of_lt (ih p h)
    · split at h
      · exact Nat.lt_succ_of_lt (ih p h)
      · split at h
        · exact Nat.lt_succ_of_lt (ih p h)
        · rcases List.mem_append.mp h with h | h
          · exact Nat.lt_succ_of_lt (ih p h)
          · rw [List.mem_singleton.mp h]; exact Nat.lt_succ_self n
/-- the text of n signs t, as the class and as the reference has it -/
def txC (m : zM) (n : Nat) (t : Nat → Nat) : Prop := m 1 1 = nI n ∧ ∀ j, j < n → m 2 j = nI (t j)
def txM (m : zM) (n : Nat) (t : Nat → Nat) : Prop := m 131 0 = nI n ∧ ∀ j, j < n → m 132 j = nI (t j)
def txOk (n : Nat) (t : Nat → Nat) : Prop := n ≤ 160 ∧ ∀ j, j < n → 32 ≤ t j ∧ t j ≤ 126
def tkC (m : zM) (t : Nat → Nat) (l : List Nat) : Prop := m 30 2 = nI l.length ∧ ∀ j p, l[j]? = some p → m 31 j = nI (t p) ∧ m 32 j = nI p
def tkM (m : zM) (t : Nat → Nat) (l : List Nat) : Prop := m 131 2 = nI l.length ∧ ∀ j p, l[j]? = some p → m 133 j = nI (t p) ∧ m 134 j = nI p
def bI (b : Bool) : Int32 := if b = true then 1 else 0
theorem bI_0 {b : Bool} : bI b = 0 ↔ b = false := by cases b <;> decide
theorem charOf_at {m : zM} {n j : Nat} {t : Nat → Nat} (hx : txC m n t) (hn : n ≤ 160) (hj : j < n) : f_Source_holds m (nI j) = 1 ∧ f_Source_charOf m (nI j) = nI (t j) := by
  have h1 : f_Source_holds m (nI j) = 1 := by
    unfold f_Source_holds
    rw [if_neg (nI_pos (by omega)), hx.1, if_neg (nI_ge hj (by omega))]
  refine ⟨h1, ?_⟩
  unfold f_Source_charOf
  rw [h1, if_neg (by decide), nI_clamp (by omega), hx.2 j hj]
theorem tk_put {m : zM} {a b c : Nat} {t : Nat → Nat} {l : List Nat} {i : Nat} {e : Nat} (hab : a ≠ b) (hac : a ≠ c) (hbc : b ≠ c) (h1 : m c e = nI l.length) (h2 : ∀ j p, l[j]? = some p → m a j = nI (t p) ∧ m b j = nI p) :
    (jj_up (jj_up (jj_up m a l.length (nI (t i))) b l.length (nI i)) c e (nI (l.length + 1))) c e = nI (l ++ [i]).length ∧ ∀ j p, (l ++ [i])[j]? = some p → (jj_up (jj_up (jj_up m a l.length (nI (t i))) b l.length (nI i)) c e (nI (l.length + 1))) a j = nI (t p) ∧ (jj_up (jj_up (jj_up m a l.length (nI (t i))) b l.length (nI i)) c e (nI (l.length + 1))) b j = nI p := by
  refine ⟨by rw [up_eq, List.length_append]; rfl, fun j p hp => ?_⟩
  rw [up_ne hac, up_ne hbc, up_ne hab]
  by_cases hj : j < l.length
  · rw [List.getElem?_append_left hj] at hp
    rw [up_k (by omega), up_k (by omega), up_ne (Ne.symm hab)]
    exact h2 j p hp
  · rw [List.getElem?_append_right (by omega)] at hp
    have hj2 : j = l.length := by
      have := (List.getElem?_eq_some_iff.mp hp).1
      simp at this
      omega
    subst hj2
    rw [Nat.sub_self] at hp
    cases hp
    exact ⟨up_eq, up_eq⟩
theorem h_Tokens_scan {xs : jx_Xs} {m : zM} {Q : Option Value → zM → Prop} {n : Nat} {t : Nat → Nat} (hok : txOk n t) (hx : txC m n t) (g : ∀ m', tkC m' t (tk t n).2 → (∀ a b, a ≠ 31 → a ≠ 32 → ¬ (a = 30 ∧ b = 2) → m' a b = m a b) → Q (some (.int (bI (!(tk t n).1)))) m') : ez xs 29 0 (jx_ent 29 [.ref 30, .ref 1]) [] m Q := by
  refine c_Tokens_scan ?_
  have loop : ∀ (r i : Nat) (M : zM) (o4 : Option Value), i + r = n → tkC M t (tk t i).2 → (∀ a b, a ≠ 31 → a ≠ 32 → ¬ (a = 30 ∧ b = 2) → M a b = m a b) → ez xs 29 9 [some (.ref 30), some (.ref 1), some (.int (bI (tk t i).1)), some (.int (nI i)), o4] [] M Q := by
    intro r
    induction r with
    | zero =>
      intro i M o4 hi hk fr
      have hi : i = n := by omega
      subst hi
      have hc : M 1 1 ≤ nI i := by
        rw [fr 1 1 (by omega) (by omega) (by omega), hx.1]
        exact nI_le (Nat.le_refl _) (by have := hok.1; omega)
      have gg := g M hk fr
      apply c_Tokens_scan_9 <;> intros <;> first | contradiction | skip
      · rename_i h1 h2
        rw [bI_0] at h2
        have h2 : (tk t i).1 = true := by simpa using h2
        rw [h2] at gg
        exact gg
      · rename_i h1 h2
        rw [bI_0] at h2
        rw [h2] at gg
        exact gg
    | succ r ih =>
      intro i M o4 hi hk fr
      have hin : i < n := by omega
      have hn := hok.1
      have hxM : txC M n t := ⟨(fr 1 1 (by omega) (by omega) (by omega)).trans hx.1, fun j hj => (fr 2 j (by omega) (by omega) (by omega)).trans (hx.2 j hj)⟩
      obtain ⟨e1, e2⟩ := charOf_at hxM hn hin
      have hc : ¬ M 1 1 ≤ nI i := by rw [hxM.1]; exact nI_ge hin (by omega)
      have hlen := tk_len t i
      have hcount : M 30 2 = nI (tk t i).2.length := hk.1
      have hnf : ¬ 160 ≤ M 30 2 := by
        rw [hcount]
        exact fun h => absurd ((nI_leI (a := 160) (by omega) (by omega)).mp h) (by omega)
      have hvb : vp_in (M 30 2) 160 := by rw [hcount]; exact vp_in_nI (by omega) (by omega)
      have hvi : vp_in (nI i) 160 := vp_in_nI (by omega) (by omega)
      have h35 : (nI (t i) = 35 ↔ t i = 35) := nI_eq (b := 35) (by have := (hok.2 i hin).2; omega) (by omega)
      have h32 : (nI (t i) = 32 ↔ t i = 32) := nI_eq (b := 32) (by have := (hok.2 i hin).2; omega) (by omega)
      have hclN : (M 30 2).toNatClampNeg = (tk t i).2.length := by rw [hcount, nI_clamp (by omega)]
      have hnar : vp_nar .char (nI (t i)) = nI (t i) := nar_char (hok.2 i hin).2
      refine c_Tokens_scan_9 (fun _ _ => hvi) (fun _ _ => ?_) (fun _ _ _ _ _ => hvb) (fun _ _ _ _ _ => hvb) (fun a _ => absurd a hc) (fun a _ => absurd a hc) (fun _ b d => ?_) (fun _ b d f => ?_) (fun _ _ _ _ f => absurd f hnf) (fun _ b d f _ => ?_) (fun _ b d => ?_) (fun _ b d => ?_)
      · rw [nI_clamp (by omega), hxM.2 i hin]
        exact hnar
      · rw [e2] at b ⊢
        rw [h35] at b
        rw [bI_0] at d
        have d : (tk t i).1 = true := by simpa using d
        have e : tk t (i + 1) = tk t i := by rw [tk, if_neg b, if_pos d]
        rw [nI_1, ← e]
        exact ih (i + 1) M _ (by omega) (by rw [e]; exact hk) fr
      · rw [e2] at b f ⊢
        rw [h35] at b
        rw [h32] at f
        rw [bI_0] at d
        have e : tk t (i + 1) = tk t i := by rw [tk, if_neg b, if_neg (by rw [d]; decide), if_pos f]
        rw [nI_1, ← e]
        exact ih (i + 1) M _ (by omega) (by rw [e]; exact hk) fr
      · rw [e2] at b f ⊢
        rw [h35] at b
        rw [h32] at f
        rw [bI_0] at d
        have e : tk t (i + 1) = ((tk t i).1, (tk t i).2 ++ [i]) := by rw [tk, if_neg b, if_neg (by rw [d]; decide), if_neg f]
        have e' : (tk t (i + 1)).1 = (tk t i).1 := by rw [e]
        rw [nI_1, ← e', hclN, hnar, hcount, nI_1]
        refine ih (i + 1) _ _ (by omega) ?_ (fun a b h1 h2 h3 => ?_)
        · rw [e]
          exact tk_put (by omega) (by omega) (by omega) hk.1 hk.2
        · rw [up_and h3, up_ne h2, up_ne h1]
          exact fr a b h1 h2 h3
      · rw [e2] at b ⊢
        rw [h35] at b
        rw [bI_0] at d
        have d : (tk t i).1 = true := by simpa using d
        have e : tk t (i + 1) = (false, (tk t i).2) := by rw [tk, if_pos b, d]; rfl
        have e' : (0 : Int32) = bI (tk t (i + 1)).1 := by rw [e]; rfl
        rw [nI_1, e']
        exact ih (i + 1) M _ (by omega) (by rw [e]; exact hk) fr
      · rw [e2] at b ⊢
        rw [h35] at b
        rw [bI_0] at d
        have e : tk t (i + 1) = (true, (tk t i).2) := by rw [tk, if_pos b, d]; rfl
        have e' : (1 : Int32) = bI (tk t (i + 1)).1 := by rw [e]; rfl
        rw [nI_1, e']
        exact ih (i + 1) M _ (by omega) (by rw [e]; exact hk) fr
  refine loop n 0 _ none (by omega) ⟨up_eq, fun j p h => by cases h⟩ (fun a b h1 h2 h3 => up_and h3)
theorem h_M_tokenize {xs : jx_Xs} {m : zM} {Q : Option Value → zM → Prop} {n : Nat} {t : Nat → Nat} (hok : txOk n t) (hx : txM m n t) (g : ∀ m', tkM m' t (tk t n).2 → (∀ a b, a ≠ 133 → a ≠ 134 → ¬ (a = 131 ∧ b = 2) → m' a b = m a b) → Q (some (.int (bI (!(tk t n).1)))) m') : ez xs 61 0 (jx_ent 61 [.ref 131]) [] m Q := by
  refine c_M_tokenize ?_
  have loop : ∀ (r i : Nat) (M : zM), i + r = n → tkM M t (tk t i).2 → (∀ a b, a ≠ 133 → a ≠ 134 → ¬ (a = 131 ∧ b = 2) → M a b = m a b) → ez xs 61 9 [some (.ref 131), some (.int (bI (tk t i).1)), some (.int (nI i))] [] M Q := by
    intro r
    induction r with
    | zero =>
      intro i M hi hk fr
      have hi : i = n := by omega
      subst hi
      have hc : M 131 0 ≤ nI i := by
        rw [fr 131 0 (by omega) (by omega) (by omega), hx.1]
        exact nI_le (Nat.le_refl _) (by have := hok.1; omega)
      have gg := g M hk fr
      apply c_M_tokenize_9 <;> intros <;> first | contradiction | skip
      · rename_i h1 h2
        rw [bI_0] at h2
        have h2 : (tk t i).1 = true := by simpa using h2
        rw [h2] at gg
        exact gg
      · rename_i h1 h2
        rw [bI_0] at h2
        rw [h2] at gg
        exact gg
    | succ r ih =>
      intro i M hi hk fr
      have hin : i < n := by omega
      have hn := hok.1
      have hxM : txM M n t := ⟨(fr 131 0 (by omega) (by omega) (by omega)).trans hx.1, fun j hj => (fr 132 j (by omega) (by omega) (by omega)).trans (hx.2 j hj)⟩
      have e2 : M 132 (nI i).toNatClampNeg = nI (t i) := by rw [nI_clamp (by omega), hxM.2 i hin]
      have hc : ¬ M 131 0 ≤ nI i := by rw [hxM.1]; exact nI_ge hin (by omega)
      have hlen := tk_len t i
      have hcount : M 131 2 = nI (tk t i).2.length := hk.1
      have hvb : vp_in (M 131 2) 160 := by rw [hcount]; exact vp_in_nI (by omega) (by omega)
      have hvi : vp_in (nI i) 160 := vp_in_nI (by omega) (by omega)
      have h35 : (nI (t i) = 35 ↔ t i = 35) := nI_eq (b := 35) (by have := (hok.2 i hin).2; omega) (by omega)
      have h32 : (nI (t i) = 32 ↔ t i = 32) := nI_eq (b := 32) (by have := (hok.2 i hin).2; omega) (by omega)
      have hclN : (M 131 2).toNatClampNeg = (tk t i).2.length := by rw [hcount, nI_clamp (by omega)]
      refine c_M_tokenize_9 (fun _ => hvi) (fun _ _ _ => hvi) (fun _ _ _ _ => hvi) (fun _ _ _ _ => hvb) (fun _ _ _ _ => hvb) (fun a _ => absurd a hc) (fun a _ => absurd a hc) (fun _ b d => ?_) (fun _ b d f => ?_) (fun _ b d f => ?_) (fun _ b d => ?_) (fun _ b d => ?_)
      · rw [e2, h35] at b
        rw [bI_0] at d
        have d : (tk t i).1 = true := by simpa using d
        have e : tk t (i + 1) = tk t i := by rw [tk, if_neg b, if_pos d]
        rw [nI_1, ← e]
        exact ih (i + 1) M (by omega) (by rw [e]; exact hk) fr
      · rw [e2, h35] at b
        rw [e2, h32] at f
        rw [bI_0] at d
        have e : tk t (i + 1) = tk t i := by rw [tk, if_neg b, if_neg (by rw [d]; decide), if_pos f]
        rw [nI_1, ← e]
        exact ih (i + 1) M (by omega) (by rw [e]; exact hk) fr
      · rw [e2, h35] at b
        rw [e2, h32] at f
        rw [bI_0] at d
        have e : tk t (i + 1) = ((tk t i).1, (tk t i).2 ++ [i]) := by rw [tk, if_neg b, if_neg (by rw [d]; decide), if_neg f]
        have e' : (tk t (i + 1)).1 = (tk t i).1 := by rw [e]
        rw [nI_1, ← e', hclN, e2, hcount, nI_1]
        refine ih (i + 1) _ (by omega) ?_ (fun a b h1 h2 h3 => ?_)
        · rw [e]
          exact tk_put (by omega) (by omega) (by omega) hk.1 hk.2
        · rw [up_and h3, up_ne h2, up_ne h1]
          exact fr a b h1 h2 h3
      · rw [e2, h35] at b
        rw [bI_0] at d
        have d : (tk t i).1 = true := by simpa using d
        have e : tk t (i + 1) = (false, (tk t i).2) := by rw [tk, if_pos b, d]; rfl
        have e' : (0 : Int32) = bI (tk t (i + 1)).1 := by rw [e]; rfl
        rw [nI_1, e']
        exact ih (i + 1) M (by omega) (by rw [e]; exact hk) fr
      · rw [e2, h35] at b
        rw [bI_0] at d
        have e : tk t (i + 1) = (true, (tk t i).2) := by rw [tk, if_pos b, d]; rfl
        have e' : (1 : Int32) = bI (tk t (i + 1)).1 := by rw [e]; rfl
        rw [nI_1, e']
        exact ih (i + 1) M (by omega) (by rw [e]; exact hk) fr
  exact loop n 0 _ (by omega) ⟨up_eq, fun j p h => by cases h⟩ (fun a b h1 h2 h3 => up_and h3)
