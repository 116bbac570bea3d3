/-! Calls, returns, and: what the small machine comes to, the real one comes to. -/
def jt_ws (b : Nat) : List Cond := Cond.code (jt_N b) (jt_B b) (jt_L b) (jt_R b) :: jt_W
def jj_rm (b mc ms : Nat) : Room := { frames := jt_fr b, cells := mc, slots := ms, locals := jt_lo b }
def jj_Pc (X : jj_X) (as : List Value) (σ : jj_S) : Array Value → State → Prop := va_Pc (as.map (jj_cv X)) (fun U => jj_P X σ U.heap ∧ jj_K X U ∧ X.2.2.1 + σ.2.2.2.1 = U.heap.size ∧ X.2.2.1 ≤ U.heap.size)
abbrev jj_Z (X : jj_X) (u : Option Value) (τ : jj_S) (mc ms : Nat) : List Frame → Array Value → State → State → Prop := fun below args s => MQ below (jj_Q X u τ) args s mc ms (jj_A X)
theorem jt_goodIn {b : Nat} (hb : b < jt_law) : GoodIn jt_W (jt_ws b) := by
  intro w hw
  rcases List.mem_cons.mp hw with h | h
  · subst h
    exact ⟨(jt_met hb).1, good_of_word (jt_good _ (jt_met hb).1)⟩
  · exact ⟨h, good_of_word (jt_good _ h)⟩
theorem jj_met {X : jj_X} {b mc ms : Nat} {as : List Value} {σ τ : jj_S} {u : Option Value} (hb : b < jt_law) (hc : ∀ v ∈ as, v.category = 1) (hn : as.length ≤ jt_L b) (G : jj_G X b (jj_rm b mc ms) (jj_Z X u τ mc ms) 0 (jx_ent b as) [] 0 0 σ) :
    Met X.1 (jt_N b) (jt_ws b) (jj_rm b mc ms) (jj_Pc X as σ) (jj_Q X u τ) mc ms (jj_A X) := by
  refine Met.ofW (cc := jt_B b) (maxL := jt_L b) (ret := jt_R b) (jt_met hb).2.2.1 rfl ?_
  intro p e s m args below meth c s₁ B hml hv
  obtain ⟨rfl, hP, hK, hsz, hbs⟩ := hv
  have hc' : ∀ v ∈ as.map (jj_cv X), v.category = 1 := fun v hv => by
    obtain ⟨w, hw, rfl⟩ := List.mem_map.mp hv
    rw [jj_cv_cat]
    exact hc w hw
  have hl := lv_entry (as.map (jj_cv X)) (n := jt_L b) (by rw [jj_sl_len _ hc', List.length_map]; exact hn)
  rw [lg_entry_eq]
  generalize (lg_sl (as.map (jj_cv X)) ++ List.replicate (jt_L b - (lg_sl (as.map (jj_cv X))).length) Slot.unset).toArray = ls at hl ⊢
  have hts := atoms_spec (ws := jt_ws b) B.pre
  exact G p e s m _ below meth c s.heap [] ls ⟨B.exec, B.bytes, hml, findClass_of_methodNamed B.named, fun w hw => hts w (List.mem_cons_of_mem _ hw), B.returns, B.notSynchronized, fun hi => (name_of_methodNamed B.named B.method).1.trans hi, hK, hbs, fun h => absurd h (Nat.ne_of_lt hb)⟩ hP va_S.rf (jj_entry hc hn hl) (by rw [hsz]; rfl)
/-- behind a call -/
theorem jj_back {X : jj_X} {u : Option Value} {τ : jj_S} {p : Program} {e : Env} {R : Room} {s : State} {m : MethodId} {args : Array Value} {below : List Frame} {meth : Method} {c : Code} {H H0 : Heap} {locs : List Loc} {cells slots mc ms pc : Nat} {ls : Array Slot} {st0 rest : List Value} {a : Array Value} {Q : State → Prop}
    (hr : va_Run p X.1 e R s m args below meth c H locs cells slots mc ms (F0 m pc ls st0) rest (jj_Q X u τ a) (jj_A X)) (hS : va_S (jj_A X) H0 H locs)
    (kk : ∀ (H1 : Heap) (locs1 : List Loc), jj_P X τ H1 → va_S (jj_A X) H0 H1 locs1 → W p X.1 e R s m args below meth c H1 locs1 (cells + mc) (slots + ms) Q (F0 m (pc + 3) ls ((u.map (jj_cv X)).toList ++ rest))) : W p X.1 e R s m args below meth c H locs cells slots Q (F0 m pc ls st0) := by
  intro T hT Y
  obtain ⟨v, st₀, t, T', L, h0, X', hL, e1, e2, ⟨⟨hv, hp⟩, hz, hk⟩, st⟩ := hr T hT Y
  have hv : v = u.map (jj_cv X) := by injection hv
  subst hv
  rw [h0] at hz hk
  obtain ⟨t2, a1, b1⟩ := kk T'.heap (locs ++ L) (by rw [e1]; exact hp)
    ⟨Nat.le_trans hS.1 (by rw [e1]; exact hz), fun q h1 h2 => by rw [e1, hk q (Nat.lt_of_lt_of_le h1 hS.1) h2]; exact hS.2.1 q h1 h2, fun q hq => by
      rcases List.mem_append.mp hq with h | h
      · exact hS.2.2 q h
      · exact hL q h⟩ T' rfl X'
  exact ⟨t2, st t2 a1, b1⟩
theorem jj_K.calling {X : jj_X} {U : State} {g : JFrame} {mk : MethodId} {a : Array Value} (h : jj_K X U) : jj_K X (U.calling g mk a) := by
  obtain ⟨h1, h2, h3, h4, h5, h6, h7, h8⟩ := h
  have hv : U.vm.Alike (U.calling g mk a).vm := Vm.Alike.refl U.vm
  exact ⟨va_K.moved hv h1, fun q hq => va_Nw.same rfl rfl (h2 q hq), fun q hq => va_Nw.same rfl rfl (h3 q hq), fun C hC => (h4 C hC).moved hv, vk_S.moved hv h5, va_Z.moved hv h6, va_Z.moved hv h7, fun q hq => vk_R.same rfl (h8 q hq)⟩
theorem jj_blind {X : jj_X} {as : List Value} {σ : jj_S} : FrameBlind (jj_Pc X as σ) := by
  intro a U g mk h
  obtain ⟨h0, h1, h2, h3, h4⟩ := h
  exact ⟨h0, h1, h2.calling, h3, h4⟩
theorem jj_stk {X : jj_X} {st as : List Value} {d : Nat} (h : as = (st.take d).reverse) : st.map (jj_cv X) = (as.map (jj_cv X)).reverse ++ (st.drop d).map (jj_cv X) := by
  subst h
  rw [← List.map_reverse, List.reverse_reverse, ← List.map_append, List.take_append_drop]
theorem jx_rm_of {y b d rc : Nat} (h : jx_rm y b d rc = true) : jt_fr b + 1 ≤ jt_fr y ∧ 8 + (jt_L b + 11) + jt_lo b ≤ jt_lo y ∧ d = jt_np.getD b 0 + rc ∧ d ≤ jt_L b ∧ b < jt_law := by
  unfold jx_rm at h
  obtain ⟨h1, h⟩ := jx_and h
  obtain ⟨h2, h⟩ := jx_and h
  obtain ⟨h3, h⟩ := jx_and h
  obtain ⟨h4, h5⟩ := jx_and h
  exact ⟨of_decide_eq_true h1, of_decide_eq_true h2, of_decide_eq_true h3, of_decide_eq_true h4, of_decide_eq_true h5⟩
/-- the callee's contract, and what a call needs: then the caller goes on behind it -/
def jx_SndC (κ : Nat) : Prop := ∀ (X : jj_X) (y : Nat) (R : Room) (k n pc a b d : Nat) (c : Int32) (st : List Value) (σ τ : jj_S) (u : Option Value) (as rest : List Value) (mc ms : Nat)
  (p : Program) (e : Env) (s : State) (m : MethodId) (args : Array Value) (below : List Frame) (meth : Method) (cc : Code) (H : Heap) (locs : List Loc) (ls : Array Slot),
  jt_fr y ≤ R.frames → jt_lo y ≤ R.locals → decode (jt_B y) pc = .ok (jx_I pc (κ, a, b, d, c)) → jx_lok y (κ, a, b, d, c) = true → jx_cal (κ, a, b, d, c) st σ = some (as, rest) → k + mc ≤ R.cells → n + ms ≤ R.slots →
  Met X.1 (jt_N b) (jt_ws b) (jj_rm b mc ms) (jj_Pc X as σ) (jj_Q X u τ) mc ms (jj_A X) →
  jj_V X y p s m args meth cc → jj_P X σ H → va_S (jj_A X) s.heap H locs → ls.size = jt_L y → H.size = X.2.2.1 + σ.2.2.2.1 →
  va_Run p X.1 e R s m args below meth cc H locs k n mc ms (F0 m pc ls (st.map (jj_cv X))) (rest.map (jj_cv X)) (jj_Q X u τ (as.map (jj_cv X)).toArray) (jj_A X)
theorem jx_cal_of {o : jx_O} {st as rest : List Value} {σ : jj_S} (h : jx_cal o st σ = some (as, rest)) : as = (st.take o.2.2.2.1).reverse ∧ rest = st.drop o.2.2.2.1 ∧ as.length = o.2.2.2.1 ∧ rest.length ≤ 8 ∧ (∀ v ∈ as, v.category = 1) ∧ (∀ v ∈ rest, v.category = 1) ∧ jx_rcv o σ as = true := by
  unfold jx_cal at h
  split at h
  · rename_i hh
    obtain ⟨h1, h2, h3, h4⟩ := hh
    cases h
    have hc := jx_c1_of h3
    refine ⟨rfl, rfl, ?_, ?_, fun v hv => hc v (List.mem_of_mem_take (List.mem_reverse.mp hv)), fun v hv => hc v (List.mem_of_mem_drop hv), h4⟩
    · rw [List.length_reverse, List.length_take]; omega
    · rw [List.length_drop]; omega
  · cases h
theorem jc_81 : jx_SndC 81 := by
  intro X y R k n pc a b d c st σ τ u as rest mc ms p e s m args below meth cc H locs ls hfr hlo hd hc hcal hk hn hM V P S hls hsz
  obtain ⟨hm, hc2⟩ := jx_and (a := decide ((jt_c y, a, b) ∈ jt_lm)) (b := (decide (b ∈ jt_is) && jx_rm y b d 0)) hc
  obtain ⟨hi, hrm⟩ := jx_and hc2
  have hm := of_decide_eq_true hm
  have hi := of_decide_eq_true hi
  obtain ⟨r1, r2, r3, r4, r5⟩ := jx_rm_of hrm
  obtain ⟨c1, c2, c3, c4, c5, c6, c7⟩ := jx_cal_of hcal
  have hstk : st.map (jj_cv X) = (as.map (jj_cv X)).reverse ++ rest.map (jj_cv X) := by rw [c2]; exact jj_stk c1
  have h8 : ((rest.map (jj_cv X)).map fun v => v.category).sum ≤ 8 := by rw [jj_catsum X rest c6]; exact c4
  have hR : (jj_rm b mc ms).frames + 1 ≤ R.frames ∧ 8 + (jt_L b + 11) + (jj_rm b mc ms).locals ≤ R.locals := ⟨Nat.le_trans r1 hfr, Nat.le_trans r2 hlo⟩
  have hini := V.2.2.2.2.1 _ (jt_met r5).2.1
  have hpc : ∀ U : State, U.heap = H → s.WarmedH U.vm → jj_Pc X as σ (as.map (jj_cv X)).toArray U := fun U hU hW => ⟨rfl, by rw [hU]; exact P, V.2.2.2.2.2.2.2.2.1.to hW hU S, by rw [hU, hsz], by rw [hU, hsz]; omega⟩
  have c3' : as.length = d := c3
  exact va_runS (As := as.map (jj_cv X)) ⟨V.1, V.2.1, V.2.2.1, V.2.2.2.1, V.2.2.2.2.1⟩ hM ⟨callB_of (jt_np.getD b 0) V.2.2.2.2.1 (jt_goodIn r5) rfl rfl rfl hini (V.2.2.2.2.1 _ (jt_lm_ok hm)) ⟨(jt_met r5).2.2.2.1, (jt_met r5).2.2.2.2.1, (jt_met r5).2.2.2.2.2⟩ hR, V.2.2.2.2.1 _ (jt_is_ok hi)⟩ ⟨jj_blind, hpc⟩ rfl (by rw [List.length_map]; omega) hls hstk (lv_room h8) hd ⟨hk, hn⟩
theorem jc_84 : jx_SndC 84 := by
  intro X y R k n pc a b d c st σ τ u as rest mc ms p e s m args below meth cc H locs ls hfr hlo hd hc hcal hk hn hM V P S hls hsz
  obtain ⟨hm, hc2⟩ := jx_and (a := decide ((jt_c y, a, b) ∈ jt_lmn)) (b := (decide (b ∈ jt_is) && jx_rm y b d 0)) hc
  obtain ⟨hi, hrm⟩ := jx_and hc2
  have hm := of_decide_eq_true hm
  have hi := of_decide_eq_true hi
  obtain ⟨r1, r2, r3, r4, r5⟩ := jx_rm_of hrm
  obtain ⟨c1, c2, c3, c4, c5, c6, c7⟩ := jx_cal_of hcal
  have hstk : st.map (jj_cv X) = (as.map (jj_cv X)).reverse ++ rest.map (jj_cv X) := by rw [c2]; exact jj_stk c1
  have h8 : ((rest.map (jj_cv X)).map fun v => v.category).sum ≤ 8 := by rw [jj_catsum X rest c6]; exact c4
  have hR : (jj_rm b mc ms).frames + 1 ≤ R.frames ∧ 8 + (jt_L b + 11) + (jj_rm b mc ms).locals ≤ R.locals := ⟨Nat.le_trans r1 hfr, Nat.le_trans r2 hlo⟩
  have hini := V.2.2.2.2.1 _ (jt_met r5).2.1
  have hpc : ∀ U : State, U.heap = H → s.WarmedH U.vm → jj_Pc X as σ (as.map (jj_cv X)).toArray U := fun U hU hW => ⟨rfl, by rw [hU]; exact P, V.2.2.2.2.2.2.2.2.1.to hW hU S, by rw [hU, hsz], by rw [hU, hsz]; omega⟩
  have c3' : as.length = d := c3
  exact va_runSN (As := as.map (jj_cv X)) ⟨V.1, V.2.1, V.2.2.1, V.2.2.2.1, V.2.2.2.2.1⟩ hM ⟨va_cnB (jt_np.getD b 0) V.2.2.2.2.1 (jt_goodIn r5) rfl rfl rfl (V.2.2.2.2.2.2.2.2.1.2.2.1 (jt_c y, a, b) hm) hini ⟨(jt_met r5).2.2.2.1, (jt_met r5).2.2.2.2.1, (jt_met r5).2.2.2.2.2⟩ hR, V.2.2.2.2.1 _ (jt_is_ok hi), trivial⟩ ⟨jj_blind, hpc⟩ rfl (by rw [List.length_map]; omega) hls hstk (lv_room h8) hd ⟨hk, hn⟩
theorem jc_80 : jx_SndC 80 := by
  intro X y R k n pc a b d c st σ τ u as rest mc ms p e s m args below meth cc H locs ls hfr hlo hd hc hcal hk hn hM V P S hls hsz
  obtain ⟨hm, hc2⟩ := jx_and (a := decide ((jt_c y, a, b) ∈ jt_lm)) (b := (decide (b ∈ jt_iv) && jx_rm y b d 1)) hc
  obtain ⟨hi, hrm⟩ := jx_and hc2
  have hm := of_decide_eq_true hm
  have hi := of_decide_eq_true hi
  obtain ⟨r1, r2, r3, r4, r5⟩ := jx_rm_of hrm
  obtain ⟨c1, c2, c3, c4, c5, c6, c7⟩ := jx_cal_of hcal
  have hstk : st.map (jj_cv X) = (as.map (jj_cv X)).reverse ++ rest.map (jj_cv X) := by rw [c2]; exact jj_stk c1
  have h8 : ((rest.map (jj_cv X)).map fun v => v.category).sum ≤ 8 := by rw [jj_catsum X rest c6]; exact c4
  have hR : (jj_rm b mc ms).frames + 1 ≤ R.frames ∧ 8 + (jt_L b + 11) + (jj_rm b mc ms).locals ≤ R.locals := ⟨Nat.le_trans r1 hfr, Nat.le_trans r2 hlo⟩
  have hini := V.2.2.2.2.1 _ (jt_met r5).2.1
  have hpc : ∀ U : State, U.heap = H → s.WarmedH U.vm → jj_Pc X as σ (as.map (jj_cv X)).toArray U := fun U hU hW => ⟨rfl, by rw [hU]; exact P, V.2.2.2.2.2.2.2.2.1.to hW hU S, by rw [hU, hsz], by rw [hU, hsz]; omega⟩
  have c3' : as.length = d := c3
  obtain ⟨i, as', rfl, hi2⟩ : ∃ i as', as = .ref i :: as' ∧ (i < σ.2.2.2.1 ∧ (σ.2.2.1 i).1 = 0 ∧ (σ.2.2.1 i).2.1 = jt_rc.getD b 99) := by
    match as, c7 with
    | .ref i :: as', c7 => exact ⟨i, as', rfl, of_decide_eq_true c7⟩
    | [], c7 => cases (show false = true from c7)
    | .int _ :: _, c7 => cases (show false = true from c7)
    | .long _ :: _, c7 => cases (show false = true from c7)
    | .float _ :: _, c7 => cases (show false = true from c7)
    | .double _ :: _, c7 => cases (show false = true from c7)
    | .null :: _, c7 => cases (show false = true from c7)
    | .retAddr _ :: _, c7 => cases (show false = true from c7)
  have hlen : (as'.map (jj_cv X)).length = jt_np.getD b 0 := by
    have : (Value.ref i :: as').length = d := c3'
    rw [List.length_cons] at this
    rw [List.length_map]
    omega
  have hstk2 : st.map (jj_cv X) = (as'.map (jj_cv X)).reverse ++ .ref (jj_ad X i) :: rest.map (jj_cv X) := by
    rw [hstk, List.map_cons, List.reverse_cons, List.append_assoc]
    rfl
  obtain ⟨w1, w2, w3, w4⟩ := jt_iv_ok hi
  have hrecv : ∃ cellB : Cell, H[jj_ad X i]? = some cellB ∧ cellB.vm.isStatics = false ∧ s.vm.findClass (jt_N b).cls = some cellB.cls := by
    have hE : (jj_wl X σ)[i]? = some (jj_ad X i, .inr (jt_rc.getD b 99, jj_fs X σ i (jt_rc.getD b 99))) := by rw [jj_wl_at hi2.1, jj_E0 hi2.2.1, hi2.2.2]
    obtain ⟨r, hr, cell, q1, q2, q3, q4⟩ := P.2 i _ hE
    have hr2 : r = (jt_C.getD (jt_rc.getD b 99) "", jt_T (jt_rc.getD b 99), jt_n (jt_rc.getD b 99)) := Option.some.inj (hr.symm.trans (jt_cl_at w4))
    have hKn := V.2.2.2.2.2.2.2.2.1.1.1 _ _ (jt_cl_at w4)
    refine ⟨cell, q1, by rw [q3]; rfl, ?_⟩
    rw [q2, ← w3]
    exact hKn.2.1
  exact va_runV (As := as'.map (jj_cv X)) (C := (jt_N b).cls) ⟨V.1, V.2.1, V.2.2.1, V.2.2.2.1, V.2.2.2.2.1⟩ hM ⟨callB_of (jt_np.getD b 0) V.2.2.2.2.1 (jt_goodIn r5) rfl rfl rfl hini (V.2.2.2.2.1 _ (jt_lm_ok hm)) ⟨(jt_met r5).2.2.2.1, (jt_met r5).2.2.2.2.1, (jt_met r5).2.2.2.2.2⟩ hR, V.2.2.2.2.1 _ w1, V.2.2.2.2.1 _ w2⟩ ⟨jj_blind, hrecv, hpc⟩ rfl hlen hls hstk2 (lv_room h8) hd ⟨hk, hn⟩
theorem jc_83 : jx_SndC 83 := by
  intro X y R k n pc a b d c st σ τ u as rest mc ms p e s m args below meth cc H locs ls hfr hlo hd hc hcal hk hn hM V P S hls hsz
  obtain ⟨hm, hc2⟩ := jx_and (a := decide ((jt_c y, a, b) ∈ jt_lmn)) (b := (decide (b ∈ jt_iv) && jx_rm y b d 1)) hc
  obtain ⟨hi, hrm⟩ := jx_and hc2
  have hm := of_decide_eq_true hm
  have hi := of_decide_eq_true hi
  obtain ⟨r1, r2, r3, r4, r5⟩ := jx_rm_of hrm
  obtain ⟨c1, c2, c3, c4, c5, c6, c7⟩ := jx_cal_of hcal
  have hstk : st.map (jj_cv X) = (as.map (jj_cv X)).reverse ++ rest.map (jj_cv X) := by rw [c2]; exact jj_stk c1
  have h8 : ((rest.map (jj_cv X)).map fun v => v.category).sum ≤ 8 := by rw [jj_catsum X rest c6]; exact c4
  have hR : (jj_rm b mc ms).frames + 1 ≤ R.frames ∧ 8 + (jt_L b + 11) + (jj_rm b mc ms).locals ≤ R.locals := ⟨Nat.le_trans r1 hfr, Nat.le_trans r2 hlo⟩
  have hini := V.2.2.2.2.1 _ (jt_met r5).2.1
  have hpc : ∀ U : State, U.heap = H → s.WarmedH U.vm → jj_Pc X as σ (as.map (jj_cv X)).toArray U := fun U hU hW => ⟨rfl, by rw [hU]; exact P, V.2.2.2.2.2.2.2.2.1.to hW hU S, by rw [hU, hsz], by rw [hU, hsz]; omega⟩
  have c3' : as.length = d := c3
  obtain ⟨i, as', rfl, hi2⟩ : ∃ i as', as = .ref i :: as' ∧ (i < σ.2.2.2.1 ∧ (σ.2.2.1 i).1 = 0 ∧ (σ.2.2.1 i).2.1 = jt_rc.getD b 99) := by
    match as, c7 with
    | .ref i :: as', c7 => exact ⟨i, as', rfl, of_decide_eq_true c7⟩
    | [], c7 => cases (show false = true from c7)
    | .int _ :: _, c7 => cases (show false = true from c7)
    | .long _ :: _, c7 => cases (show false = true from c7)
    | .float _ :: _, c7 => cases (show false = true from c7)
    | .double _ :: _, c7 => cases (show false = true from c7)
    | .null :: _, c7 => cases (show false = true from c7)
    | .retAddr _ :: _, c7 => cases (show false = true from c7)
  have hlen : (as'.map (jj_cv X)).length = jt_np.getD b 0 := by
    have : (Value.ref i :: as').length = d := c3'
    rw [List.length_cons] at this
    rw [List.length_map]
    omega
  have hstk2 : st.map (jj_cv X) = (as'.map (jj_cv X)).reverse ++ .ref (jj_ad X i) :: rest.map (jj_cv X) := by
    rw [hstk, List.map_cons, List.reverse_cons, List.append_assoc]
    rfl
  obtain ⟨w1, w2, w3, w4⟩ := jt_iv_ok hi
  have hrecv : ∃ cellB : Cell, H[jj_ad X i]? = some cellB ∧ cellB.vm.isStatics = false ∧ s.vm.findClass (jt_N b).cls = some cellB.cls := by
    have hE : (jj_wl X σ)[i]? = some (jj_ad X i, .inr (jt_rc.getD b 99, jj_fs X σ i (jt_rc.getD b 99))) := by rw [jj_wl_at hi2.1, jj_E0 hi2.2.1, hi2.2.2]
    obtain ⟨r, hr, cell, q1, q2, q3, q4⟩ := P.2 i _ hE
    have hr2 : r = (jt_C.getD (jt_rc.getD b 99) "", jt_T (jt_rc.getD b 99), jt_n (jt_rc.getD b 99)) := Option.some.inj (hr.symm.trans (jt_cl_at w4))
    have hKn := V.2.2.2.2.2.2.2.2.1.1.1 _ _ (jt_cl_at w4)
    refine ⟨cell, q1, by rw [q3]; rfl, ?_⟩
    rw [q2, ← w3]
    exact hKn.2.1
  exact va_runVN (As := as'.map (jj_cv X)) (C := (jt_N b).cls) ⟨V.1, V.2.1, V.2.2.1, V.2.2.2.1, V.2.2.2.2.1⟩ hM ⟨va_cnB (jt_np.getD b 0) V.2.2.2.2.1 (jt_goodIn r5) rfl rfl rfl (V.2.2.2.2.2.2.2.2.1.2.2.1 (jt_c y, a, b) hm) hini ⟨(jt_met r5).2.2.2.1, (jt_met r5).2.2.2.2.1, (jt_met r5).2.2.2.2.2⟩ hR, V.2.2.2.2.1 _ w1, V.2.2.2.2.1 _ w2⟩ ⟨jj_blind, hrecv, hpc⟩ rfl hlen hls hstk2 (lv_room h8) hd ⟨hk, hn⟩
theorem jc_86 : jx_SndC 86 := by
  intro X y R k n pc a b d c st σ τ u as rest mc ms p e s m args below meth cc H locs ls hfr hlo hd hc hcal hk hn hM V P S hls hsz
  obtain ⟨hm, hc2⟩ := jx_and (a := decide ((jt_c y, a, b) ∈ jt_lm)) (b := (decide (b ∈ jt_it) && jx_rm y b d 1)) hc
  obtain ⟨hi, hrm⟩ := jx_and hc2
  have hm := of_decide_eq_true hm
  have hi := of_decide_eq_true hi
  obtain ⟨r1, r2, r3, r4, r5⟩ := jx_rm_of hrm
  obtain ⟨c1, c2, c3, c4, c5, c6, c7⟩ := jx_cal_of hcal
  have hstk : st.map (jj_cv X) = (as.map (jj_cv X)).reverse ++ rest.map (jj_cv X) := by rw [c2]; exact jj_stk c1
  have h8 : ((rest.map (jj_cv X)).map fun v => v.category).sum ≤ 8 := by rw [jj_catsum X rest c6]; exact c4
  have hR : (jj_rm b mc ms).frames + 1 ≤ R.frames ∧ 8 + (jt_L b + 11) + (jj_rm b mc ms).locals ≤ R.locals := ⟨Nat.le_trans r1 hfr, Nat.le_trans r2 hlo⟩
  have hini := V.2.2.2.2.1 _ (jt_met r5).2.1
  have hpc : ∀ U : State, U.heap = H → s.WarmedH U.vm → jj_Pc X as σ (as.map (jj_cv X)).toArray U := fun U hU hW => ⟨rfl, by rw [hU]; exact P, V.2.2.2.2.2.2.2.2.1.to hW hU S, by rw [hU, hsz], by rw [hU, hsz]; omega⟩
  have c3' : as.length = d := c3
  obtain ⟨i, as', rfl, hi2⟩ : ∃ i as', as = .ref i :: as' ∧ (1000000 ≤ i ∧ i < 1000000 + jt_sb.length) := by
    match as, c7 with
    | .ref i :: as', c7 => exact ⟨i, as', rfl, of_decide_eq_true c7⟩
    | [], c7 => cases (show false = true from c7)
    | .int _ :: _, c7 => cases (show false = true from c7)
    | .long _ :: _, c7 => cases (show false = true from c7)
    | .float _ :: _, c7 => cases (show false = true from c7)
    | .double _ :: _, c7 => cases (show false = true from c7)
    | .null :: _, c7 => cases (show false = true from c7)
    | .retAddr _ :: _, c7 => cases (show false = true from c7)
  have hlen : (as'.map (jj_cv X)).length = jt_np.getD b 0 := by
    have : (Value.ref i :: as').length = d := c3'
    rw [List.length_cons] at this
    rw [List.length_map]
    omega
  have hstk2 : st.map (jj_cv X) = (as'.map (jj_cv X)).reverse ++ .ref (jj_ad X i) :: rest.map (jj_cv X) := by
    rw [hstk, List.map_cons, List.reverse_cons, List.append_assoc]
    rfl
  obtain ⟨w1, w2, w3⟩ := jt_it_ok hi
  obtain ⟨j, rfl, hj⟩ := jx_off hi2
  have hrecv : ∃ cellB : Cell, H[jj_ad X (1000000 + j)]? = some cellB ∧ cellB.vm.isStatics = false ∧ s.vm.findClass (jt_N b).cls = some cellB.cls := by
    rw [jj_ad_hi (by omega), w3]
    exact vk_recv V.2.2.2.2.2.2.2.2.1.2.2.2.2.1 (i := j) hj S
  exact va_runV (As := as'.map (jj_cv X)) (C := (jt_N b).cls) ⟨V.1, V.2.1, V.2.2.1, V.2.2.2.1, V.2.2.2.2.1⟩ hM ⟨callB_of (jt_np.getD b 0) V.2.2.2.2.1 (jt_goodIn r5) rfl rfl rfl hini (V.2.2.2.2.1 _ (jt_lm_ok hm)) ⟨(jt_met r5).2.2.2.1, (jt_met r5).2.2.2.2.1, (jt_met r5).2.2.2.2.2⟩ hR, V.2.2.2.2.1 _ w1, V.2.2.2.2.1 _ w2⟩ ⟨jj_blind, hrecv, hpc⟩ rfl hlen hls hstk2 (lv_room h8) hd ⟨hk, hn⟩
theorem jc_82 : jx_SndC 82 := by
  intro X y R k n pc a b d c st σ τ u as rest mc ms p e s m args below meth cc H locs ls hfr hlo hd hc hcal hk hn hM V P S hls hsz
  obtain ⟨hm, hc2⟩ := jx_and (a := decide ((jt_c y, a, b) ∈ jt_lm)) (b := (decide (b ∈ jt_ii) && jx_rm y b d 1)) hc
  obtain ⟨hi, hrm⟩ := jx_and hc2
  have hm := of_decide_eq_true hm
  have hi := of_decide_eq_true hi
  obtain ⟨r1, r2, r3, r4, r5⟩ := jx_rm_of hrm
  obtain ⟨c1, c2, c3, c4, c5, c6, c7⟩ := jx_cal_of hcal
  have hstk : st.map (jj_cv X) = (as.map (jj_cv X)).reverse ++ rest.map (jj_cv X) := by rw [c2]; exact jj_stk c1
  have h8 : ((rest.map (jj_cv X)).map fun v => v.category).sum ≤ 8 := by rw [jj_catsum X rest c6]; exact c4
  have hR : (jj_rm b mc ms).frames + 1 ≤ R.frames ∧ 8 + (jt_L b + 11) + (jj_rm b mc ms).locals ≤ R.locals := ⟨Nat.le_trans r1 hfr, Nat.le_trans r2 hlo⟩
  have hini := V.2.2.2.2.1 _ (jt_met r5).2.1
  have hpc : ∀ U : State, U.heap = H → s.WarmedH U.vm → jj_Pc X as σ (as.map (jj_cv X)).toArray U := fun U hU hW => ⟨rfl, by rw [hU]; exact P, V.2.2.2.2.2.2.2.2.1.to hW hU S, by rw [hU, hsz], by rw [hU, hsz]; omega⟩
  have c3' : as.length = d := c3
  obtain ⟨i, as', rfl, hi2⟩ : ∃ i as', as = .ref i :: as' ∧ (True) := by
    match as, c7 with
    | .ref i :: as', c7 => exact ⟨i, as', rfl, trivial⟩
    | [], c7 => cases (show false = true from c7)
    | .int _ :: _, c7 => cases (show false = true from c7)
    | .long _ :: _, c7 => cases (show false = true from c7)
    | .float _ :: _, c7 => cases (show false = true from c7)
    | .double _ :: _, c7 => cases (show false = true from c7)
    | .null :: _, c7 => cases (show false = true from c7)
    | .retAddr _ :: _, c7 => cases (show false = true from c7)
  have hlen : (as'.map (jj_cv X)).length = jt_np.getD b 0 := by
    have : (Value.ref i :: as').length = d := c3'
    rw [List.length_cons] at this
    rw [List.length_map]
    omega
  have hstk2 : st.map (jj_cv X) = (as'.map (jj_cv X)).reverse ++ .ref (jj_ad X i) :: rest.map (jj_cv X) := by
    rw [hstk, List.map_cons, List.reverse_cons, List.append_assoc]
    rfl
  obtain ⟨w1, w2, w3⟩ := jt_ii_ok hi
  have hcw := callB_of (jt_np.getD b 0) V.2.2.2.2.1 (jt_goodIn r5) rfl rfl rfl hini (V.2.2.2.2.1 _ (jt_lm_ok hm)) ⟨(jt_met r5).2.2.2.1, (jt_met r5).2.2.2.2.1, (jt_met r5).2.2.2.2.2⟩ hR
  rw [w3] at hcw
  exact va_runI (As := as'.map (jj_cv X)) ⟨V.1, V.2.1, V.2.2.1, V.2.2.2.1, V.2.2.2.2.1⟩ hM ⟨hcw, w2, V.2.2.2.2.1 _ w1⟩ ⟨jj_blind, hpc⟩ rfl hlen hls hstk2 (lv_room h8) hd ⟨hk, hn⟩
theorem jc_85 : jx_SndC 85 := by
  intro X y R k n pc a b d c st σ τ u as rest mc ms p e s m args below meth cc H locs ls hfr hlo hd hc hcal hk hn hM V P S hls hsz
  obtain ⟨hm, hc2⟩ := jx_and (a := decide ((jt_c y, a, b) ∈ jt_lmn)) (b := (decide (b ∈ jt_ii) && jx_rm y b d 1)) hc
  obtain ⟨hi, hrm⟩ := jx_and hc2
  have hm := of_decide_eq_true hm
  have hi := of_decide_eq_true hi
  obtain ⟨r1, r2, r3, r4, r5⟩ := jx_rm_of hrm
  obtain ⟨c1, c2, c3, c4, c5, c6, c7⟩ := jx_cal_of hcal
  have hstk : st.map (jj_cv X) = (as.map (jj_cv X)).reverse ++ rest.map (jj_cv X) := by rw [c2]; exact jj_stk c1
  have h8 : ((rest.map (jj_cv X)).map fun v => v.category).sum ≤ 8 := by rw [jj_catsum X rest c6]; exact c4
  have hR : (jj_rm b mc ms).frames + 1 ≤ R.frames ∧ 8 + (jt_L b + 11) + (jj_rm b mc ms).locals ≤ R.locals := ⟨Nat.le_trans r1 hfr, Nat.le_trans r2 hlo⟩
  have hini := V.2.2.2.2.1 _ (jt_met r5).2.1
  have hpc : ∀ U : State, U.heap = H → s.WarmedH U.vm → jj_Pc X as σ (as.map (jj_cv X)).toArray U := fun U hU hW => ⟨rfl, by rw [hU]; exact P, V.2.2.2.2.2.2.2.2.1.to hW hU S, by rw [hU, hsz], by rw [hU, hsz]; omega⟩
  have c3' : as.length = d := c3
  obtain ⟨i, as', rfl, hi2⟩ : ∃ i as', as = .ref i :: as' ∧ (True) := by
    match as, c7 with
    | .ref i :: as', c7 => exact ⟨i, as', rfl, trivial⟩
    | [], c7 => cases (show false = true from c7)
    | .int _ :: _, c7 => cases (show false = true from c7)
    | .long _ :: _, c7 => cases (show false = true from c7)
    | .float _ :: _, c7 => cases (show false = true from c7)
    | .double _ :: _, c7 => cases (show false = true from c7)
    | .null :: _, c7 => cases (show false = true from c7)
    | .retAddr _ :: _, c7 => cases (show false = true from c7)
  have hlen : (as'.map (jj_cv X)).length = jt_np.getD b 0 := by
    have : (Value.ref i :: as').length = d := c3'
    rw [List.length_cons] at this
    rw [List.length_map]
    omega
  have hstk2 : st.map (jj_cv X) = (as'.map (jj_cv X)).reverse ++ .ref (jj_ad X i) :: rest.map (jj_cv X) := by
    rw [hstk, List.map_cons, List.reverse_cons, List.append_assoc]
    rfl
  obtain ⟨w1, w2, w3⟩ := jt_ii_ok hi
  have hcw := va_cnB (jt_np.getD b 0) V.2.2.2.2.1 (jt_goodIn r5) rfl rfl rfl (V.2.2.2.2.2.2.2.2.1.2.2.1 (jt_c y, a, b) hm) hini ⟨(jt_met r5).2.2.2.1, (jt_met r5).2.2.2.2.1, (jt_met r5).2.2.2.2.2⟩ hR
  rw [w3] at hcw
  exact va_runIN (As := as'.map (jj_cv X)) ⟨V.1, V.2.1, V.2.2.1, V.2.2.2.1, V.2.2.2.2.1⟩ hM ⟨hcw, w2, V.2.2.2.2.1 _ w1⟩ ⟨jj_blind, hpc⟩ rfl hlen hls hstk2 (lv_room h8) hd ⟨hk, hn⟩
