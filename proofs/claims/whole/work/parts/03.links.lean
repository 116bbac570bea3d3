theorem jx_and {a b : Bool} (h : (a && b) = true) : a = true ∧ b = true := by cases a <;> cases b <;> first | exact ⟨rfl, rfl⟩ | cases h
def jt_W : List Cond := lw_tbl.filter goodWord
theorem jt_good : ∀ w ∈ jt_W, goodWord w = true := fun w h => (List.mem_filter.mp h).2
theorem jW {w : Cond} (h1 : w ∈ tables_1) (h2 : goodWord w = true) : w ∈ jt_W := List.mem_filter.mpr ⟨List.mem_append_right _ h1, h2⟩
theorem jWs {w : Cond} (h1 : w ∈ k2_sels lw_privs) (h2 : goodWord w = true) : w ∈ jt_W := List.mem_filter.mpr ⟨List.mem_append_left _ h1, h2⟩
theorem jm_1 : ∀ w ∈ tables_1_1, w ∈ tables_1 := fun w h => by simp only [tables_1, List.mem_append, h, true_or, or_true]
theorem jm_2 : ∀ w ∈ tables_1_2, w ∈ tables_1 := fun w h => by simp only [tables_1, List.mem_append, h, true_or, or_true]
theorem jm_3 : ∀ w ∈ tables_1_3, w ∈ tables_1 := fun w h => by simp only [tables_1, List.mem_append, h, true_or, or_true]
theorem jm_4 : ∀ w ∈ tables_1_4, w ∈ tables_1 := fun w h => by simp only [tables_1, List.mem_append, h, true_or, or_true]
theorem jm_5 : ∀ w ∈ tables_1_5, w ∈ tables_1 := fun w h => by simp only [tables_1, List.mem_append, h, true_or, or_true]
theorem jm_6 : ∀ w ∈ tables_1_6, w ∈ tables_1 := fun w h => by simp only [tables_1, List.mem_append, h, true_or, or_true]
def jx_All {α : Type} (P : α → Prop) : List α → Prop
  | [] => True
  | a :: l => P a ∧ jx_All P l
theorem jx_all {α : Type} {P : α → Prop} : ∀ {l : List α}, jx_All P l → ∀ a ∈ l, P a
  | [], _, _, h => by cases h
  | b :: l, h, a, ha => by
    rcases List.mem_cons.mp ha with e | e
    · rw [e]; exact h.1
    · exact jx_all h.2 a e
theorem jx_c {α : Type} {P : α → Prop} {a : α} {l : List α} (h : P a) (t : jx_All P l) : jx_All P (a :: l) := ⟨h, t⟩
theorem jx_e {α : Type} {P : α → Prop} : jx_All P [] := trivial
set_option maxRecDepth 100000 in
theorem jt_lf_ok {q : Nat × Nat × Nat × Nat} (h : q ∈ jt_lf) : Cond.fieldLink (jt_on.getD q.1 "") q.2.1 (jt_T q.2.2.1 q.2.2.2).1 (jt_T q.2.2.1 q.2.2.2).2.1 (jt_T q.2.2.1 q.2.2.2).2.2.1 ∈ jt_W ∧ (jt_T q.2.2.1 q.2.2.2).1 = jt_on.getD q.1 "" := jx_all (P := fun q : Nat × Nat × Nat × Nat => Cond.fieldLink (jt_on.getD q.1 "") q.2.1 (jt_T q.2.2.1 q.2.2.2).1 (jt_T q.2.2.1 q.2.2.2).2.1 (jt_T q.2.2.1 q.2.2.2).2.2.1 ∈ jt_W ∧ (jt_T q.2.2.1 q.2.2.2).1 = jt_on.getD q.1 "") (l := jt_lf) (jx_c ⟨(jW (jm_1 _ (List.mem_of_getElem? (i := 36) rfl)) rfl), rfl⟩ (
  jx_c ⟨(jW (jm_1 _ (List.mem_of_getElem? (i := 116) rfl)) rfl), rfl⟩ (
  jx_c ⟨(jW (jm_1 _ (List.mem_of_getElem? (i := 135) rfl)) rfl), rfl⟩ (
  jx_c ⟨(jW (jm_1 _ (List.mem_of_getElem? (i := 136) rfl)) rfl), rfl⟩ (
  jx_c ⟨(jW (jm_1 _ (List.mem_of_getElem? (i := 147) rfl)) rfl), rfl⟩ (
  jx_c ⟨(jW (jm_1 _ (List.mem_of_getElem? (i := 148) rfl)) rfl), rfl⟩ (
  jx_c ⟨(jW (jm_1 _ (List.mem_of_getElem? (i := 149) rfl)) rfl), rfl⟩ (
  jx_c ⟨(jW (jm_1 _ (List.mem_of_getElem? (i := 150) rfl)) rfl), rfl⟩ (
  jx_c ⟨(jW (jm_1 _ (List.mem_of_getElem? (i := 146) rfl)) rfl), rfl⟩ (
  jx_c ⟨(jW (jm_1 _ (List.mem_of_getElem? (i := 187) rfl)) rfl), rfl⟩ (
  jx_c ⟨(jW (jm_1 _ (List.mem_of_getElem? (i := 205) rfl)) rfl), rfl⟩ (
  jx_c ⟨(jW (jm_1 _ (List.mem_of_getElem? (i := 208) rfl)) rfl), rfl⟩ (
  jx_c ⟨(jW (jm_1 _ (List.mem_of_getElem? (i := 210) rfl)) rfl), rfl⟩ (
  jx_c ⟨(jW (jm_1 _ (List.mem_of_getElem? (i := 232) rfl)) rfl), rfl⟩ (
  jx_c ⟨(jW (jm_2 _ (List.mem_of_getElem? (i := 15) rfl)) rfl), rfl⟩ (
  jx_c ⟨(jW (jm_2 _ (List.mem_of_getElem? (i := 34) rfl)) rfl), rfl⟩ (
  jx_c ⟨(jW (jm_2 _ (List.mem_of_getElem? (i := 35) rfl)) rfl), rfl⟩ (
  jx_c ⟨(jW (jm_2 _ (List.mem_of_getElem? (i := 36) rfl)) rfl), rfl⟩ (
  jx_c ⟨(jW (jm_2 _ (List.mem_of_getElem? (i := 37) rfl)) rfl), rfl⟩ (
  jx_c ⟨(jW (jm_2 _ (List.mem_of_getElem? (i := 38) rfl)) rfl), rfl⟩ (
  jx_c ⟨(jW (jm_2 _ (List.mem_of_getElem? (i := 32) rfl)) rfl), rfl⟩ (
  jx_c ⟨(jW (jm_2 _ (List.mem_of_getElem? (i := 33) rfl)) rfl), rfl⟩ (
  jx_c ⟨(jW (jm_2 _ (List.mem_of_getElem? (i := 65) rfl)) rfl), rfl⟩ (
  jx_c ⟨(jW (jm_2 _ (List.mem_of_getElem? (i := 63) rfl)) rfl), rfl⟩ (
  jx_c ⟨(jW (jm_2 _ (List.mem_of_getElem? (i := 64) rfl)) rfl), rfl⟩ (
  jx_c ⟨(jW (jm_2 _ (List.mem_of_getElem? (i := 82) rfl)) rfl), rfl⟩ (
  jx_c ⟨(jW (jm_2 _ (List.mem_of_getElem? (i := 83) rfl)) rfl), rfl⟩ (
  jx_c ⟨(jW (jm_2 _ (List.mem_of_getElem? (i := 84) rfl)) rfl), rfl⟩ (
  jx_c ⟨(jW (jm_2 _ (List.mem_of_getElem? (i := 85) rfl)) rfl), rfl⟩ (
  jx_c ⟨(jW (jm_2 _ (List.mem_of_getElem? (i := 86) rfl)) rfl), rfl⟩ (
  jx_c ⟨(jW (jm_2 _ (List.mem_of_getElem? (i := 87) rfl)) rfl), rfl⟩ (
  jx_c ⟨(jW (jm_4 _ (List.mem_of_getElem? (i := 200) rfl)) rfl), rfl⟩ (
  jx_c ⟨(jW (jm_4 _ (List.mem_of_getElem? (i := 202) rfl)) rfl), rfl⟩ (
  jx_c ⟨(jW (jm_4 _ (List.mem_of_getElem? (i := 203) rfl)) rfl), rfl⟩ (
  jx_c ⟨(jW (jm_4 _ (List.mem_of_getElem? (i := 205) rfl)) rfl), rfl⟩ (
  jx_c ⟨(jW (jm_4 _ (List.mem_of_getElem? (i := 206) rfl)) rfl), rfl⟩ (
  jx_c ⟨(jW (jm_4 _ (List.mem_of_getElem? (i := 207) rfl)) rfl), rfl⟩ (
  jx_c ⟨(jW (jm_4 _ (List.mem_of_getElem? (i := 208) rfl)) rfl), rfl⟩ (
  jx_c ⟨(jW (jm_4 _ (List.mem_of_getElem? (i := 209) rfl)) rfl), rfl⟩ (
  jx_c ⟨(jW (jm_4 _ (List.mem_of_getElem? (i := 210) rfl)) rfl), rfl⟩ (
  jx_c ⟨(jW (jm_4 _ (List.mem_of_getElem? (i := 211) rfl)) rfl), rfl⟩ (
  jx_c ⟨(jW (jm_4 _ (List.mem_of_getElem? (i := 212) rfl)) rfl), rfl⟩ (
  jx_c ⟨(jW (jm_4 _ (List.mem_of_getElem? (i := 213) rfl)) rfl), rfl⟩ (
  jx_c ⟨(jW (jm_4 _ (List.mem_of_getElem? (i := 214) rfl)) rfl), rfl⟩ (
  jx_c ⟨(jW (jm_4 _ (List.mem_of_getElem? (i := 215) rfl)) rfl), rfl⟩ (
  jx_c ⟨(jW (jm_4 _ (List.mem_of_getElem? (i := 216) rfl)) rfl), rfl⟩ (
  jx_c ⟨(jW (jm_4 _ (List.mem_of_getElem? (i := 217) rfl)) rfl), rfl⟩ (
  jx_c ⟨(jW (jm_4 _ (List.mem_of_getElem? (i := 218) rfl)) rfl), rfl⟩ (
  jx_c ⟨(jW (jm_4 _ (List.mem_of_getElem? (i := 221) rfl)) rfl), rfl⟩ (
  jx_c ⟨(jW (jm_4 _ (List.mem_of_getElem? (i := 222) rfl)) rfl), rfl⟩ (
  jx_c ⟨(jW (jm_4 _ (List.mem_of_getElem? (i := 223) rfl)) rfl), rfl⟩ (
  jx_c ⟨(jW (jm_4 _ (List.mem_of_getElem? (i := 224) rfl)) rfl), rfl⟩ (
  jx_c ⟨(jW (jm_4 _ (List.mem_of_getElem? (i := 225) rfl)) rfl), rfl⟩ (
  jx_c ⟨(jW (jm_4 _ (List.mem_of_getElem? (i := 226) rfl)) rfl), rfl⟩ (
  jx_c ⟨(jW (jm_4 _ (List.mem_of_getElem? (i := 227) rfl)) rfl), rfl⟩ (
  jx_c ⟨(jW (jm_4 _ (List.mem_of_getElem? (i := 228) rfl)) rfl), rfl⟩ (
  jx_c ⟨(jW (jm_4 _ (List.mem_of_getElem? (i := 229) rfl)) rfl), rfl⟩ (
  jx_c ⟨(jW (jm_4 _ (List.mem_of_getElem? (i := 230) rfl)) rfl), rfl⟩ (
  jx_c ⟨(jW (jm_4 _ (List.mem_of_getElem? (i := 231) rfl)) rfl), rfl⟩ (
  jx_c ⟨(jW (jm_4 _ (List.mem_of_getElem? (i := 232) rfl)) rfl), rfl⟩ (
  jx_c ⟨(jW (jm_4 _ (List.mem_of_getElem? (i := 233) rfl)) rfl), rfl⟩ (
  jx_c ⟨(jW (jm_4 _ (List.mem_of_getElem? (i := 234) rfl)) rfl), rfl⟩ (
  jx_c ⟨(jW (jm_4 _ (List.mem_of_getElem? (i := 235) rfl)) rfl), rfl⟩ (
  jx_c ⟨(jW (jm_4 _ (List.mem_of_getElem? (i := 236) rfl)) rfl), rfl⟩ (
  jx_c ⟨(jW (jm_4 _ (List.mem_of_getElem? (i := 237) rfl)) rfl), rfl⟩ (
  jx_c ⟨(jW (jm_4 _ (List.mem_of_getElem? (i := 238) rfl)) rfl), rfl⟩ (
  jx_c ⟨(jW (jm_5 _ (List.mem_of_getElem? (i := 0) rfl)) rfl), rfl⟩ (
  jx_c ⟨(jW (jm_5 _ (List.mem_of_getElem? (i := 1) rfl)) rfl), rfl⟩ (
  jx_c ⟨(jW (jm_5 _ (List.mem_of_getElem? (i := 2) rfl)) rfl), rfl⟩ (
  jx_c ⟨(jW (jm_5 _ (List.mem_of_getElem? (i := 3) rfl)) rfl), rfl⟩ (
  jx_c ⟨(jW (jm_5 _ (List.mem_of_getElem? (i := 4) rfl)) rfl), rfl⟩ (
  jx_c ⟨(jW (jm_1 _ (List.mem_of_getElem? (i := 37) rfl)) rfl), rfl⟩ (
  jx_c ⟨(jW (jm_2 _ (List.mem_of_getElem? (i := 89) rfl)) rfl), rfl⟩ (
  jx_c ⟨(jW (jm_2 _ (List.mem_of_getElem? (i := 90) rfl)) rfl), rfl⟩ (
  jx_c ⟨(jW (jm_4 _ (List.mem_of_getElem? (i := 199) rfl)) rfl), rfl⟩ (
  jx_c ⟨(jW (jm_1 _ (List.mem_of_getElem? (i := 117) rfl)) rfl), rfl⟩ (
  jx_c ⟨(jW (jm_1 _ (List.mem_of_getElem? (i := 137) rfl)) rfl), rfl⟩ (
  jx_c ⟨(jW (jm_1 _ (List.mem_of_getElem? (i := 152) rfl)) rfl), rfl⟩ (
  jx_c ⟨(jW (jm_1 _ (List.mem_of_getElem? (i := 151) rfl)) rfl), rfl⟩ (
  jx_c ⟨(jW (jm_1 _ (List.mem_of_getElem? (i := 69) rfl)) rfl), rfl⟩ (
  jx_c ⟨(jW (jm_1 _ (List.mem_of_getElem? (i := 72) rfl)) rfl), rfl⟩ (
  jx_c ⟨(jW (jm_1 _ (List.mem_of_getElem? (i := 74) rfl)) rfl), rfl⟩ (
  jx_c ⟨(jW (jm_1 _ (List.mem_of_getElem? (i := 66) rfl)) rfl), rfl⟩ (
  jx_c ⟨(jW (jm_1 _ (List.mem_of_getElem? (i := 76) rfl)) rfl), rfl⟩ (
  jx_c ⟨(jW (jm_1 _ (List.mem_of_getElem? (i := 79) rfl)) rfl), rfl⟩ (
  jx_c ⟨(jW (jm_1 _ (List.mem_of_getElem? (i := 82) rfl)) rfl), rfl⟩ (
  jx_c ⟨(jW (jm_1 _ (List.mem_of_getElem? (i := 57) rfl)) rfl), rfl⟩ (
  jx_c ⟨(jW (jm_1 _ (List.mem_of_getElem? (i := 60) rfl)) rfl), rfl⟩ (
  jx_c ⟨(jW (jm_1 _ (List.mem_of_getElem? (i := 62) rfl)) rfl), rfl⟩ (
  jx_c ⟨(jW (jm_1 _ (List.mem_of_getElem? (i := 64) rfl)) rfl), rfl⟩ (
  jx_c ⟨(jW (jm_2 _ (List.mem_of_getElem? (i := 88) rfl)) rfl), rfl⟩ (
  jx_c ⟨(jW (jm_4 _ (List.mem_of_getElem? (i := 201) rfl)) rfl), rfl⟩ (
  jx_c ⟨(jW (jm_4 _ (List.mem_of_getElem? (i := 219) rfl)) rfl), rfl⟩ (
  jx_c ⟨(jW (jm_4 _ (List.mem_of_getElem? (i := 204) rfl)) rfl), rfl⟩ (
  jx_c ⟨(jW (jm_1 _ (List.mem_of_getElem? (i := 85) rfl)) rfl), rfl⟩ (
  jx_c ⟨(jW (jm_1 _ (List.mem_of_getElem? (i := 87) rfl)) rfl), rfl⟩ (
  jx_c ⟨(jW (jm_1 _ (List.mem_of_getElem? (i := 190) rfl)) rfl), rfl⟩ (
  jx_c ⟨(jW (jm_1 _ (List.mem_of_getElem? (i := 192) rfl)) rfl), rfl⟩ (
  jx_c ⟨(jW (jm_1 _ (List.mem_of_getElem? (i := 194) rfl)) rfl), rfl⟩ (
  jx_c ⟨(jW (jm_1 _ (List.mem_of_getElem? (i := 212) rfl)) rfl), rfl⟩ (
  jx_c ⟨(jW (jm_1 _ (List.mem_of_getElem? (i := 214) rfl)) rfl), rfl⟩ (
  jx_c ⟨(jW (jm_1 _ (List.mem_of_getElem? (i := 216) rfl)) rfl), rfl⟩ (
  jx_c ⟨(jW (jm_1 _ (List.mem_of_getElem? (i := 233) rfl)) rfl), rfl⟩ (
  jx_c ⟨(jW (jm_1 _ (List.mem_of_getElem? (i := 234) rfl)) rfl), rfl⟩ (
  jx_c ⟨(jW (jm_4 _ (List.mem_of_getElem? (i := 220) rfl)) rfl), rfl⟩ (
  jx_c ⟨(jW (jm_2 _ (List.mem_of_getElem? (i := 18) rfl)) rfl), rfl⟩ (
  jx_c ⟨(jW (jm_2 _ (List.mem_of_getElem? (i := 19) rfl)) rfl), rfl⟩ (
  jx_c ⟨(jW (jm_2 _ (List.mem_of_getElem? (i := 21) rfl)) rfl), rfl⟩ (
  jx_c ⟨(jW (jm_2 _ (List.mem_of_getElem? (i := 39) rfl)) rfl), rfl⟩ (
  jx_c ⟨(jW (jm_4 _ (List.mem_of_getElem? (i := 239) rfl)) rfl), rfl⟩ (
  jx_c ⟨(jW (jm_2 _ (List.mem_of_getElem? (i := 66) rfl)) rfl), rfl⟩ (
  jx_c ⟨(jW (jm_2 _ (List.mem_of_getElem? (i := 67) rfl)) rfl), rfl⟩ (
  jx_c ⟨(jW (jm_2 _ (List.mem_of_getElem? (i := 68) rfl)) rfl), rfl⟩ (
  jx_e)))))))))))))))))))))))))))))))))))))))))))))))))))))))))))))))))))))))))))))))))))))))))))))))))))))))))))))))))) q h
set_option maxRecDepth 100000 in
theorem jt_lc_ok {q : Nat × Nat × Int32} (h : q ∈ jt_lc) : Cond.constant (jt_on.getD q.1 "") q.2.1 q.2.2 ∈ jt_W := jx_all (P := fun q : Nat × Nat × Int32 => Cond.constant (jt_on.getD q.1 "") q.2.1 q.2.2 ∈ jt_W) (l := jt_lc) (jx_c (jW (jm_4 _ (List.mem_of_getElem? (i := 120) rfl)) rfl) (
  jx_c (jW (jm_4 _ (List.mem_of_getElem? (i := 121) rfl)) rfl) (
  jx_c (jW (jm_4 _ (List.mem_of_getElem? (i := 122) rfl)) rfl) (
  jx_e)))) q h
set_option maxRecDepth 100000 in
theorem jt_lm_ok {q : Nat × Nat × Nat} (h : q ∈ jt_lm) : Cond.methodLink (jt_on.getD q.1 "") q.2.1 (jt_N q.2.2) ∈ jt_W := jx_all (P := fun q : Nat × Nat × Nat => Cond.methodLink (jt_on.getD q.1 "") q.2.1 (jt_N q.2.2) ∈ jt_W) (l := jt_lm) (jx_c (jW (jm_1 _ (List.mem_of_getElem? (i := 177) rfl)) rfl) (
  jx_c (jW (jm_1 _ (List.mem_of_getElem? (i := 46) rfl)) rfl) (
  jx_c (jW (jm_1 _ (List.mem_of_getElem? (i := 125) rfl)) rfl) (
  jx_c (jW (jm_1 _ (List.mem_of_getElem? (i := 170) rfl)) rfl) (
  jx_c (jW (jm_2 _ (List.mem_of_getElem? (i := 4) rfl)) rfl) (
  jx_c (jW (jm_2 _ (List.mem_of_getElem? (i := 59) rfl)) rfl) (
  jx_c (jW (jm_2 _ (List.mem_of_getElem? (i := 114) rfl)) rfl) (
  jx_c (jW (jm_2 _ (List.mem_of_getElem? (i := 118) rfl)) rfl) (
  jx_c (jW (jm_2 _ (List.mem_of_getElem? (i := 126) rfl)) rfl) (
  jx_c (jW (jm_2 _ (List.mem_of_getElem? (i := 134) rfl)) rfl) (
  jx_c (jW (jm_2 _ (List.mem_of_getElem? (i := 150) rfl)) rfl) (
  jx_c (jW (jm_2 _ (List.mem_of_getElem? (i := 142) rfl)) rfl) (
  jx_c (jW (jm_2 _ (List.mem_of_getElem? (i := 146) rfl)) rfl) (
  jx_c (jW (jm_2 _ (List.mem_of_getElem? (i := 171) rfl)) rfl) (
  jx_c (jW (jm_2 _ (List.mem_of_getElem? (i := 172) rfl)) rfl) (
  jx_c (jW (jm_2 _ (List.mem_of_getElem? (i := 173) rfl)) rfl) (
  jx_c (jW (jm_2 _ (List.mem_of_getElem? (i := 185) rfl)) rfl) (
  jx_c (jW (jm_2 _ (List.mem_of_getElem? (i := 181) rfl)) rfl) (
  jx_c (jW (jm_2 _ (List.mem_of_getElem? (i := 193) rfl)) rfl) (
  jx_c (jW (jm_2 _ (List.mem_of_getElem? (i := 197) rfl)) rfl) (
  jx_c (jW (jm_2 _ (List.mem_of_getElem? (i := 228) rfl)) rfl) (
  jx_c (jW (jm_2 _ (List.mem_of_getElem? (i := 235) rfl)) rfl) (
  jx_c (jW (jm_3 _ (List.mem_of_getElem? (i := 4) rfl)) rfl) (
  jx_c (jW (jm_2 _ (List.mem_of_getElem? (i := 218) rfl)) rfl) (
  jx_c (jW (jm_2 _ (List.mem_of_getElem? (i := 224) rfl)) rfl) (
  jx_c (jW (jm_2 _ (List.mem_of_getElem? (i := 232) rfl)) rfl) (
  jx_c (jW (jm_2 _ (List.mem_of_getElem? (i := 214) rfl)) rfl) (
  jx_c (jW (jm_3 _ (List.mem_of_getElem? (i := 60) rfl)) rfl) (
  jx_c (jW (jm_3 _ (List.mem_of_getElem? (i := 64) rfl)) rfl) (
  jx_c (jW (jm_3 _ (List.mem_of_getElem? (i := 68) rfl)) rfl) (
  jx_c (jW (jm_2 _ (List.mem_of_getElem? (i := 210) rfl)) rfl) (
  jx_c (jW (jm_3 _ (List.mem_of_getElem? (i := 56) rfl)) rfl) (
  jx_c (jW (jm_3 _ (List.mem_of_getElem? (i := 72) rfl)) rfl) (
  jx_c (jW (jm_2 _ (List.mem_of_getElem? (i := 163) rfl)) rfl) (
  jx_c (jW (jm_2 _ (List.mem_of_getElem? (i := 167) rfl)) rfl) (
  jx_c (jW (jm_2 _ (List.mem_of_getElem? (i := 177) rfl)) rfl) (
  jx_c (jW (jm_2 _ (List.mem_of_getElem? (i := 189) rfl)) rfl) (
  jx_c (jW (jm_2 _ (List.mem_of_getElem? (i := 201) rfl)) rfl) (
  jx_c (jW (jm_2 _ (List.mem_of_getElem? (i := 205) rfl)) rfl) (
  jx_c (jW (jm_3 _ (List.mem_of_getElem? (i := 76) rfl)) rfl) (
  jx_c (jW (jm_3 _ (List.mem_of_getElem? (i := 81) rfl)) rfl) (
  jx_c (jW (jm_3 _ (List.mem_of_getElem? (i := 85) rfl)) rfl) (
  jx_c (jW (jm_3 _ (List.mem_of_getElem? (i := 101) rfl)) rfl) (
  jx_c (jW (jm_3 _ (List.mem_of_getElem? (i := 97) rfl)) rfl) (
  jx_c (jW (jm_3 _ (List.mem_of_getElem? (i := 93) rfl)) rfl) (
  jx_c (jW (jm_2 _ (List.mem_of_getElem? (i := 159) rfl)) rfl) (
  jx_c (jW (jm_3 _ (List.mem_of_getElem? (i := 89) rfl)) rfl) (
  jx_c (jW (jm_2 _ (List.mem_of_getElem? (i := 155) rfl)) rfl) (
  jx_c (jW (jm_3 _ (List.mem_of_getElem? (i := 102) rfl)) rfl) (
  jx_c (jW (jm_5 _ (List.mem_of_getElem? (i := 131) rfl)) rfl) (
  jx_c (jW (jm_5 _ (List.mem_of_getElem? (i := 135) rfl)) rfl) (
  jx_c (jW (jm_5 _ (List.mem_of_getElem? (i := 143) rfl)) rfl) (
  jx_c (jW (jm_5 _ (List.mem_of_getElem? (i := 147) rfl)) rfl) (
  jx_c (jW (jm_5 _ (List.mem_of_getElem? (i := 151) rfl)) rfl) (
  jx_c (jW (jm_5 _ (List.mem_of_getElem? (i := 159) rfl)) rfl) (
  jx_c (jW (jm_5 _ (List.mem_of_getElem? (i := 123) rfl)) rfl) (
  jx_c (jW (jm_5 _ (List.mem_of_getElem? (i := 127) rfl)) rfl) (
  jx_c (jW (jm_5 _ (List.mem_of_getElem? (i := 139) rfl)) rfl) (
  jx_c (jW (jm_5 _ (List.mem_of_getElem? (i := 155) rfl)) rfl) (
  jx_c (jW (jm_5 _ (List.mem_of_getElem? (i := 119) rfl)) rfl) (
  jx_c (jW (jm_3 _ (List.mem_of_getElem? (i := 111) rfl)) rfl) (
  jx_c (jW (jm_3 _ (List.mem_of_getElem? (i := 115) rfl)) rfl) (
  jx_c (jW (jm_3 _ (List.mem_of_getElem? (i := 116) rfl)) rfl) (
  jx_c (jW (jm_3 _ (List.mem_of_getElem? (i := 131) rfl)) rfl) (
  jx_c (jW (jm_3 _ (List.mem_of_getElem? (i := 134) rfl)) rfl) (
  jx_c (jW (jm_3 _ (List.mem_of_getElem? (i := 145) rfl)) rfl) (
  jx_c (jW (jm_3 _ (List.mem_of_getElem? (i := 156) rfl)) rfl) (
  jx_c (jW (jm_3 _ (List.mem_of_getElem? (i := 153) rfl)) rfl) (
  jx_c (jW (jm_3 _ (List.mem_of_getElem? (i := 141) rfl)) rfl) (
  jx_c (jW (jm_3 _ (List.mem_of_getElem? (i := 149) rfl)) rfl) (
  jx_c (jW (jm_3 _ (List.mem_of_getElem? (i := 128) rfl)) rfl) (
  jx_c (jW (jm_3 _ (List.mem_of_getElem? (i := 137) rfl)) rfl) (
  jx_c (jW (jm_3 _ (List.mem_of_getElem? (i := 159) rfl)) rfl) (
  jx_c (jW (jm_5 _ (List.mem_of_getElem? (i := 175) rfl)) rfl) (
  jx_c (jW (jm_3 _ (List.mem_of_getElem? (i := 183) rfl)) rfl) (
  jx_c (jW (jm_3 _ (List.mem_of_getElem? (i := 179) rfl)) rfl) (
  jx_c (jW (jm_3 _ (List.mem_of_getElem? (i := 175) rfl)) rfl) (
  jx_c (jW (jm_3 _ (List.mem_of_getElem? (i := 191) rfl)) rfl) (
  jx_c (jW (jm_3 _ (List.mem_of_getElem? (i := 167) rfl)) rfl) (
  jx_c (jW (jm_3 _ (List.mem_of_getElem? (i := 171) rfl)) rfl) (
  jx_c (jW (jm_3 _ (List.mem_of_getElem? (i := 187) rfl)) rfl) (
  jx_c (jW (jm_3 _ (List.mem_of_getElem? (i := 192) rfl)) rfl) (
  jx_c (jW (jm_3 _ (List.mem_of_getElem? (i := 193) rfl)) rfl) (
  jx_c (jW (jm_5 _ (List.mem_of_getElem? (i := 191) rfl)) rfl) (
  jx_c (jW (jm_5 _ (List.mem_of_getElem? (i := 187) rfl)) rfl) (
  jx_c (jW (jm_5 _ (List.mem_of_getElem? (i := 183) rfl)) rfl) (
  jx_c (jW (jm_5 _ (List.mem_of_getElem? (i := 195) rfl)) rfl) (
  jx_c (jW (jm_3 _ (List.mem_of_getElem? (i := 201) rfl)) rfl) (
  jx_c (jW (jm_3 _ (List.mem_of_getElem? (i := 205) rfl)) rfl) (
  jx_c (jW (jm_3 _ (List.mem_of_getElem? (i := 213) rfl)) rfl) (
  jx_c (jW (jm_3 _ (List.mem_of_getElem? (i := 237) rfl)) rfl) (
  jx_c (jW (jm_4 _ (List.mem_of_getElem? (i := 15) rfl)) rfl) (
  jx_c (jW (jm_4 _ (List.mem_of_getElem? (i := 18) rfl)) rfl) (
  jx_c (jW (jm_4 _ (List.mem_of_getElem? (i := 19) rfl)) rfl) (
  jx_c (jW (jm_4 _ (List.mem_of_getElem? (i := 32) rfl)) rfl) (
  jx_c (jW (jm_4 _ (List.mem_of_getElem? (i := 24) rfl)) rfl) (
  jx_c (jW (jm_4 _ (List.mem_of_getElem? (i := 11) rfl)) rfl) (
  jx_c (jW (jm_4 _ (List.mem_of_getElem? (i := 28) rfl)) rfl) (
  jx_c (jW (jm_4 _ (List.mem_of_getElem? (i := 9) rfl)) rfl) (
  jx_c (jW (jm_4 _ (List.mem_of_getElem? (i := 10) rfl)) rfl) (
  jx_c (jW (jm_4 _ (List.mem_of_getElem? (i := 20) rfl)) rfl) (
  jx_c (jW (jm_4 _ (List.mem_of_getElem? (i := 65) rfl)) rfl) (
  jx_c (jW (jm_4 _ (List.mem_of_getElem? (i := 62) rfl)) rfl) (
  jx_c (jW (jm_4 _ (List.mem_of_getElem? (i := 59) rfl)) rfl) (
  jx_c (jW (jm_4 _ (List.mem_of_getElem? (i := 80) rfl)) rfl) (
  jx_c (jW (jm_4 _ (List.mem_of_getElem? (i := 54) rfl)) rfl) (
  jx_c (jW (jm_4 _ (List.mem_of_getElem? (i := 55) rfl)) rfl) (
  jx_c (jW (jm_4 _ (List.mem_of_getElem? (i := 75) rfl)) rfl) (
  jx_c (jW (jm_4 _ (List.mem_of_getElem? (i := 81) rfl)) rfl) (
  jx_c (jW (jm_4 _ (List.mem_of_getElem? (i := 48) rfl)) rfl) (
  jx_c (jW (jm_4 _ (List.mem_of_getElem? (i := 49) rfl)) rfl) (
  jx_c (jW (jm_4 _ (List.mem_of_getElem? (i := 89) rfl)) rfl) (
  jx_c (jW (jm_4 _ (List.mem_of_getElem? (i := 90) rfl)) rfl) (
  jx_c (jW (jm_4 _ (List.mem_of_getElem? (i := 94) rfl)) rfl) (
  jx_c (jW (jm_4 _ (List.mem_of_getElem? (i := 101) rfl)) rfl) (
  jx_c (jW (jm_4 _ (List.mem_of_getElem? (i := 109) rfl)) rfl) (
  jx_c (jW (jm_4 _ (List.mem_of_getElem? (i := 40) rfl)) rfl) (
  jx_c (jW (jm_4 _ (List.mem_of_getElem? (i := 44) rfl)) rfl) (
  jx_c (jW (jm_4 _ (List.mem_of_getElem? (i := 85) rfl)) rfl) (
  jx_c (jW (jm_4 _ (List.mem_of_getElem? (i := 105) rfl)) rfl) (
  jx_c (jW (jm_3 _ (List.mem_of_getElem? (i := 233) rfl)) rfl) (
  jx_c (jW (jm_4 _ (List.mem_of_getElem? (i := 1) rfl)) rfl) (
  jx_c (jW (jm_4 _ (List.mem_of_getElem? (i := 5) rfl)) rfl) (
  jx_c (jW (jm_4 _ (List.mem_of_getElem? (i := 36) rfl)) rfl) (
  jx_c (jW (jm_3 _ (List.mem_of_getElem? (i := 229) rfl)) rfl) (
  jx_c (jW (jm_4 _ (List.mem_of_getElem? (i := 117) rfl)) rfl) (
  jx_c (jW (jm_3 _ (List.mem_of_getElem? (i := 221) rfl)) rfl) (
  jx_c (jW (jm_3 _ (List.mem_of_getElem? (i := 225) rfl)) rfl) (
  jx_c (jW (jm_4 _ (List.mem_of_getElem? (i := 113) rfl)) rfl) (
  jx_c (jW (jm_5 _ (List.mem_of_getElem? (i := 235) rfl)) rfl) (
  jx_c (jW (jm_5 _ (List.mem_of_getElem? (i := 231) rfl)) rfl) (
  jx_c (jW (jm_5 _ (List.mem_of_getElem? (i := 239) rfl)) rfl) (
  jx_c (jW (jm_5 _ (List.mem_of_getElem? (i := 227) rfl)) rfl) (
  jx_c (jW (jm_6 _ (List.mem_of_getElem? (i := 3) rfl)) rfl) (
  jx_c (jW (jm_5 _ (List.mem_of_getElem? (i := 219) rfl)) rfl) (
  jx_c (jW (jm_5 _ (List.mem_of_getElem? (i := 223) rfl)) rfl) (
  jx_c (jW (jm_5 _ (List.mem_of_getElem? (i := 211) rfl)) rfl) (
  jx_c (jW (jm_5 _ (List.mem_of_getElem? (i := 215) rfl)) rfl) (
  jx_c (jW (jm_4 _ (List.mem_of_getElem? (i := 127) rfl)) rfl) (
  jx_c (jW (jm_4 _ (List.mem_of_getElem? (i := 140) rfl)) rfl) (
  jx_c (jW (jm_4 _ (List.mem_of_getElem? (i := 141) rfl)) rfl) (
  jx_c (jW (jm_4 _ (List.mem_of_getElem? (i := 135) rfl)) rfl) (
  jx_c (jW (jm_4 _ (List.mem_of_getElem? (i := 136) rfl)) rfl) (
  jx_c (jW (jm_6 _ (List.mem_of_getElem? (i := 19) rfl)) rfl) (
  jx_c (jW (jm_6 _ (List.mem_of_getElem? (i := 15) rfl)) rfl) (
  jx_c (jW (jm_4 _ (List.mem_of_getElem? (i := 154) rfl)) rfl) (
  jx_c (jW (jm_4 _ (List.mem_of_getElem? (i := 155) rfl)) rfl) (
  jx_c (jW (jm_4 _ (List.mem_of_getElem? (i := 156) rfl)) rfl) (
  jx_c (jW (jm_4 _ (List.mem_of_getElem? (i := 160) rfl)) rfl) (
  jx_c (jW (jm_4 _ (List.mem_of_getElem? (i := 161) rfl)) rfl) (
  jx_c (jW (jm_4 _ (List.mem_of_getElem? (i := 165) rfl)) rfl) (
  jx_c (jW (jm_4 _ (List.mem_of_getElem? (i := 185) rfl)) rfl) (
  jx_c (jW (jm_4 _ (List.mem_of_getElem? (i := 178) rfl)) rfl) (
  jx_c (jW (jm_4 _ (List.mem_of_getElem? (i := 179) rfl)) rfl) (
  jx_c (jW (jm_4 _ (List.mem_of_getElem? (i := 180) rfl)) rfl) (
  jx_c (jW (jm_4 _ (List.mem_of_getElem? (i := 186) rfl)) rfl) (
  jx_c (jW (jm_4 _ (List.mem_of_getElem? (i := 146) rfl)) rfl) (
  jx_c (jW (jm_4 _ (List.mem_of_getElem? (i := 150) rfl)) rfl) (
  jx_c (jW (jm_4 _ (List.mem_of_getElem? (i := 166) rfl)) rfl) (
  jx_c (jW (jm_4 _ (List.mem_of_getElem? (i := 170) rfl)) rfl) (
  jx_c (jW (jm_4 _ (List.mem_of_getElem? (i := 174) rfl)) rfl) (
  jx_c (jW (jm_4 _ (List.mem_of_getElem? (i := 189) rfl)) rfl) (
  jx_c (jW (jm_6 _ (List.mem_of_getElem? (i := 39) rfl)) rfl) (
  jx_c (jW (jm_6 _ (List.mem_of_getElem? (i := 35) rfl)) rfl) (
  jx_c (jW (jm_6 _ (List.mem_of_getElem? (i := 31) rfl)) rfl) (
  jx_c (jW (jm_6 _ (List.mem_of_getElem? (i := 27) rfl)) rfl) (
  jx_c (jW (jm_6 _ (List.mem_of_getElem? (i := 43) rfl)) rfl) (
  jx_c (jW (jm_1 _ (List.mem_of_getElem? (i := 24) rfl)) rfl) (
  jx_c (jW (jm_4 _ (List.mem_of_getElem? (i := 195) rfl)) rfl) (
  jx_c (jW (jm_2 _ (List.mem_of_getElem? (i := 110) rfl)) rfl) (
  jx_c (jW (jm_5 _ (List.mem_of_getElem? (i := 99) rfl)) rfl) (
  jx_c (jW (jm_2 _ (List.mem_of_getElem? (i := 122) rfl)) rfl) (
  jx_c (jW (jm_5 _ (List.mem_of_getElem? (i := 103) rfl)) rfl) (
  jx_c (jW (jm_2 _ (List.mem_of_getElem? (i := 130) rfl)) rfl) (
  jx_c (jW (jm_5 _ (List.mem_of_getElem? (i := 107) rfl)) rfl) (
  jx_c (jW (jm_2 _ (List.mem_of_getElem? (i := 138) rfl)) rfl) (
  jx_c (jW (jm_5 _ (List.mem_of_getElem? (i := 111) rfl)) rfl) (
  jx_c (jW (jm_2 _ (List.mem_of_getElem? (i := 151) rfl)) rfl) (
  jx_c (jW (jm_5 _ (List.mem_of_getElem? (i := 115) rfl)) rfl) (
  jx_c (jW (jm_3 _ (List.mem_of_getElem? (i := 107) rfl)) rfl) (
  jx_c (jW (jm_5 _ (List.mem_of_getElem? (i := 163) rfl)) rfl) (
  jx_c (jW (jm_3 _ (List.mem_of_getElem? (i := 120) rfl)) rfl) (
  jx_c (jW (jm_5 _ (List.mem_of_getElem? (i := 167) rfl)) rfl) (
  jx_c (jW (jm_3 _ (List.mem_of_getElem? (i := 124) rfl)) rfl) (
  jx_c (jW (jm_5 _ (List.mem_of_getElem? (i := 171) rfl)) rfl) (
  jx_c (jW (jm_3 _ (List.mem_of_getElem? (i := 163) rfl)) rfl) (
  jx_c (jW (jm_5 _ (List.mem_of_getElem? (i := 179) rfl)) rfl) (
  jx_c (jW (jm_3 _ (List.mem_of_getElem? (i := 197) rfl)) rfl) (
  jx_c (jW (jm_5 _ (List.mem_of_getElem? (i := 199) rfl)) rfl) (
  jx_c (jW (jm_3 _ (List.mem_of_getElem? (i := 209) rfl)) rfl) (
  jx_c (jW (jm_5 _ (List.mem_of_getElem? (i := 203) rfl)) rfl) (
  jx_c (jW (jm_3 _ (List.mem_of_getElem? (i := 217) rfl)) rfl) (
  jx_c (jW (jm_5 _ (List.mem_of_getElem? (i := 207) rfl)) rfl) (
  jx_c (jW (jm_4 _ (List.mem_of_getElem? (i := 123) rfl)) rfl) (
  jx_c (jW (jm_6 _ (List.mem_of_getElem? (i := 7) rfl)) rfl) (
  jx_c (jW (jm_4 _ (List.mem_of_getElem? (i := 131) rfl)) rfl) (
  jx_c (jW (jm_6 _ (List.mem_of_getElem? (i := 11) rfl)) rfl) (
  jx_c (jW (jm_4 _ (List.mem_of_getElem? (i := 142) rfl)) rfl) (
  jx_c (jW (jm_6 _ (List.mem_of_getElem? (i := 23) rfl)) rfl) (
  jx_e)))))))))))))))))))))))))))))))))))))))))))))))))))))))))))))))))))))))))))))))))))))))))))))))))))))))))))))))))))))))))))))))))))))))))))))))))))))))))))))))))))))))))))))))))))))))))))))))))))))))) q h
set_option maxRecDepth 100000 in
theorem jt_lk_ok {q : Nat × Nat × Nat} (h : q ∈ jt_lk) : Cond.classLink (jt_on.getD q.1 "") q.2.1 (jt_C.getD q.2.2 "") ∈ jt_W ∧ Cond.instantiable (jt_C.getD q.2.2 "") (jt_n q.2.2) ∈ jt_W ∧ Cond.initialized (jt_C.getD q.2.2 "") ∈ jt_W := jx_all (P := fun q : Nat × Nat × Nat => Cond.classLink (jt_on.getD q.1 "") q.2.1 (jt_C.getD q.2.2 "") ∈ jt_W ∧ Cond.instantiable (jt_C.getD q.2.2 "") (jt_n q.2.2) ∈ jt_W ∧ Cond.initialized (jt_C.getD q.2.2 "") ∈ jt_W) (l := jt_lk) (jx_c ⟨(jW (jm_1 _ (List.mem_of_getElem? (i := 50) rfl)) rfl), (jW (jm_1 _ (List.mem_of_getElem? (i := 52) rfl)) rfl), (jW (jm_1 _ (List.mem_of_getElem? (i := 4) rfl)) rfl)⟩ (
  jx_c ⟨(jW (jm_1 _ (List.mem_of_getElem? (i := 129) rfl)) rfl), (jW (jm_1 _ (List.mem_of_getElem? (i := 130) rfl)) rfl), (jW (jm_1 _ (List.mem_of_getElem? (i := 6) rfl)) rfl)⟩ (
  jx_c ⟨(jW (jm_1 _ (List.mem_of_getElem? (i := 181) rfl)) rfl), (jW (jm_1 _ (List.mem_of_getElem? (i := 182) rfl)) rfl), (jW (jm_1 _ (List.mem_of_getElem? (i := 9) rfl)) rfl)⟩ (
  jx_c ⟨(jW (jm_1 _ (List.mem_of_getElem? (i := 174) rfl)) rfl), (jW (jm_1 _ (List.mem_of_getElem? (i := 176) rfl)) rfl), (jW (jm_1 _ (List.mem_of_getElem? (i := 8) rfl)) rfl)⟩ (
  jx_c ⟨(jW (jm_2 _ (List.mem_of_getElem? (i := 8) rfl)) rfl), (jW (jm_2 _ (List.mem_of_getElem? (i := 10) rfl)) rfl), (jW (jm_1 _ (List.mem_of_getElem? (i := 11) rfl)) rfl)⟩ (
  jx_c ⟨(jW (jm_1 _ (List.mem_of_getElem? (i := 30) rfl)) rfl), (jW (jm_1 _ (List.mem_of_getElem? (i := 31) rfl)) rfl), (jW (jm_1 _ (List.mem_of_getElem? (i := 2) rfl)) rfl)⟩ (
  jx_c ⟨(jW (jm_1 _ (List.mem_of_getElem? (i := 44) rfl)) rfl), (jW (jm_1 _ (List.mem_of_getElem? (i := 45) rfl)) rfl), (jW (jm_1 _ (List.mem_of_getElem? (i := 3) rfl)) rfl)⟩ (
  jx_c ⟨(jW (jm_1 _ (List.mem_of_getElem? (i := 123) rfl)) rfl), (jW (jm_1 _ (List.mem_of_getElem? (i := 124) rfl)) rfl), (jW (jm_1 _ (List.mem_of_getElem? (i := 5) rfl)) rfl)⟩ (
  jx_c ⟨(jW (jm_1 _ (List.mem_of_getElem? (i := 168) rfl)) rfl), (jW (jm_1 _ (List.mem_of_getElem? (i := 169) rfl)) rfl), (jW (jm_1 _ (List.mem_of_getElem? (i := 7) rfl)) rfl)⟩ (
  jx_c ⟨(jW (jm_2 _ (List.mem_of_getElem? (i := 2) rfl)) rfl), (jW (jm_2 _ (List.mem_of_getElem? (i := 3) rfl)) rfl), (jW (jm_1 _ (List.mem_of_getElem? (i := 10) rfl)) rfl)⟩ (
  jx_c ⟨(jW (jm_2 _ (List.mem_of_getElem? (i := 57) rfl)) rfl), (jW (jm_2 _ (List.mem_of_getElem? (i := 58) rfl)) rfl), (jW (jm_1 _ (List.mem_of_getElem? (i := 12) rfl)) rfl)⟩ (
  jx_c ⟨(jW (jm_1 _ (List.mem_of_getElem? (i := 22) rfl)) rfl), (jW (jm_1 _ (List.mem_of_getElem? (i := 23) rfl)) rfl), (jW (jm_1 _ (List.mem_of_getElem? (i := 1) rfl)) rfl)⟩ (
  jx_c ⟨(jW (jm_4 _ (List.mem_of_getElem? (i := 193) rfl)) rfl), (jW (jm_4 _ (List.mem_of_getElem? (i := 194) rfl)) rfl), (jW (jm_1 _ (List.mem_of_getElem? (i := 13) rfl)) rfl)⟩ (
  jx_e)))))))))))))) q h
set_option maxRecDepth 100000 in
theorem jt_la_ok {q : Nat × Nat × Nat × Nat} (h : q ∈ jt_la) : Cond.classLink (jt_on.getD q.1 "") q.2.1 (jt_C.getD q.2.2.2 "") ∈ jt_W ∧ jt_C.getD q.2.2.2 "" ∈ jt_ao := jx_all (P := fun q : Nat × Nat × Nat × Nat => Cond.classLink (jt_on.getD q.1 "") q.2.1 (jt_C.getD q.2.2.2 "") ∈ jt_W ∧ jt_C.getD q.2.2.2 "" ∈ jt_ao) (l := jt_la) (jx_c ⟨(jW (jm_1 _ (List.mem_of_getElem? (i := 50) rfl)) rfl), by decide +kernel⟩ (
  jx_c ⟨(jW (jm_1 _ (List.mem_of_getElem? (i := 181) rfl)) rfl), by decide +kernel⟩ (
  jx_c ⟨(jW (jm_1 _ (List.mem_of_getElem? (i := 174) rfl)) rfl), by decide +kernel⟩ (
  jx_c ⟨(jW (jm_2 _ (List.mem_of_getElem? (i := 8) rfl)) rfl), by decide +kernel⟩ (
  jx_e))))) q h
set_option maxRecDepth 100000 in
theorem jt_lo1_ok {q : Nat × Nat} (h : q ∈ jt_lo1) : Cond.methodLink (jt_on.getD q.1 "") q.2 Lib.objectInit ∈ jt_W := jx_all (P := fun q : Nat × Nat => Cond.methodLink (jt_on.getD q.1 "") q.2 Lib.objectInit ∈ jt_W) (l := jt_lo1) (jx_c (jW (jm_1 _ (List.mem_of_getElem? (i := 35) rfl)) rfl) (
  jx_c (jW (jm_1 _ (List.mem_of_getElem? (i := 56) rfl)) rfl) (
  jx_c (jW (jm_1 _ (List.mem_of_getElem? (i := 49) rfl)) rfl) (
  jx_c (jW (jm_1 _ (List.mem_of_getElem? (i := 134) rfl)) rfl) (
  jx_c (jW (jm_1 _ (List.mem_of_getElem? (i := 128) rfl)) rfl) (
  jx_c (jW (jm_1 _ (List.mem_of_getElem? (i := 186) rfl)) rfl) (
  jx_c (jW (jm_1 _ (List.mem_of_getElem? (i := 180) rfl)) rfl) (
  jx_c (jW (jm_1 _ (List.mem_of_getElem? (i := 173) rfl)) rfl) (
  jx_c (jW (jm_2 _ (List.mem_of_getElem? (i := 14) rfl)) rfl) (
  jx_c (jW (jm_2 _ (List.mem_of_getElem? (i := 7) rfl)) rfl) (
  jx_c (jW (jm_2 _ (List.mem_of_getElem? (i := 62) rfl)) rfl) (
  jx_c (jW (jm_1 _ (List.mem_of_getElem? (i := 27) rfl)) rfl) (
  jx_c (jW (jm_4 _ (List.mem_of_getElem? (i := 198) rfl)) rfl) (
  jx_e)))))))))))))) q h
theorem jt_oi : Cond.instanceMethod Lib.objectInit ∈ jt_W ∧ Cond.code Lib.objectInit ⟨#[0xb1]⟩ 1 none ∈ jt_W := ⟨(jW (jm_1 _ (List.mem_of_getElem? (i := 28) rfl)) rfl), (jW (jm_1 _ (List.mem_of_getElem? (i := 29) rfl)) rfl)⟩
set_option maxRecDepth 100000 in
theorem jt_lcp_ok {q : Nat × Nat} (h : q ∈ jt_lcp) : Cond.methodLink (jt_on.getD q.1 "") q.2 arraycopyName ∈ jt_W := jx_all (P := fun q : Nat × Nat => Cond.methodLink (jt_on.getD q.1 "") q.2 arraycopyName ∈ jt_W) (l := jt_lcp) (jx_c (jW (jm_4 _ (List.mem_of_getElem? (i := 98) rfl)) rfl) (
  jx_e)) q h
theorem jt_ac : Cond.native arraycopyName ∈ jt_W ∧ Cond.static arraycopyName ∈ jt_W ∧ Cond.initialized "java/lang/System" ∈ jt_W := ⟨(jW (jm_4 _ (List.mem_of_getElem? (i := 100) rfl)) rfl), (jW (jm_4 _ (List.mem_of_getElem? (i := 99) rfl)) rfl), (jW (jm_1 _ (List.mem_of_getElem? (i := 20) rfl)) rfl)⟩
set_option maxRecDepth 100000 in
theorem jt_lx0_ok {q : Nat × Nat} (h : q ∈ jt_lx0) : Cond.methodLink (jt_on.getD q.1 "") q.2 Lib.Math.max.name ∈ jt_W := jx_all (P := fun q : Nat × Nat => Cond.methodLink (jt_on.getD q.1 "") q.2 Lib.Math.max.name ∈ jt_W) (l := jt_lx0) (jx_c (jW (jm_2 _ (List.mem_of_getElem? (i := 238) rfl)) rfl) (
  jx_c (jW (jm_4 _ (List.mem_of_getElem? (i := 184) rfl)) rfl) (
  jx_e))) q h
theorem jt_mx0 : Cond.static Lib.Math.max.name ∈ jt_W ∧ Cond.initialized "java/lang/Math" ∈ jt_W ∧ Cond.code Lib.Math.max.name Lib.Math.max.code 2 (some .int) ∈ jt_W := ⟨(jW (jm_2 _ (List.mem_of_getElem? (i := 239) rfl)) rfl), (jW (jm_1 _ (List.mem_of_getElem? (i := 16) rfl)) rfl), (jW (jm_3 _ (List.mem_of_getElem? (i := 0) rfl)) rfl)⟩
set_option maxRecDepth 100000 in
theorem jt_lx1_ok {q : Nat × Nat} (h : q ∈ jt_lx1) : Cond.methodLink (jt_on.getD q.1 "") q.2 Lib.Math.min.name ∈ jt_W := jx_all (P := fun q : Nat × Nat => Cond.methodLink (jt_on.getD q.1 "") q.2 Lib.Math.min.name ∈ jt_W) (l := jt_lx1) (jx_c (jW (jm_3 _ (List.mem_of_getElem? (i := 1) rfl)) rfl) (
  jx_e)) q h
theorem jt_mx1 : Cond.static Lib.Math.min.name ∈ jt_W ∧ Cond.initialized "java/lang/Math" ∈ jt_W ∧ Cond.code Lib.Math.min.name Lib.Math.min.code 2 (some .int) ∈ jt_W := ⟨(jW (jm_3 _ (List.mem_of_getElem? (i := 2) rfl)) rfl), (jW (jm_1 _ (List.mem_of_getElem? (i := 16) rfl)) rfl), (jW (jm_3 _ (List.mem_of_getElem? (i := 3) rfl)) rfl)⟩
set_option maxRecDepth 100000 in
theorem jt_lg0_ok {q : Nat × Nat} (h : q ∈ jt_lg0) : Cond.fieldLink (jt_on.getD q.1 "") q.2 jt_z0.1 jt_z0.2.1 jt_z0.2.2 ∈ jt_W := jx_all (P := fun q : Nat × Nat => Cond.fieldLink (jt_on.getD q.1 "") q.2 jt_z0.1 jt_z0.2.1 jt_z0.2.2 ∈ jt_W) (l := jt_lg0) (jx_c (jW (jm_2 _ (List.mem_of_getElem? (i := 222) rfl)) rfl) (
  jx_e)) q h
set_option maxRecDepth 100000 in
theorem jt_lg1_ok {q : Nat × Nat} (h : q ∈ jt_lg1) : Cond.fieldLink (jt_on.getD q.1 "") q.2 jt_z1.1 jt_z1.2.1 jt_z1.2.2 ∈ jt_W := jx_all (P := fun q : Nat × Nat => Cond.fieldLink (jt_on.getD q.1 "") q.2 jt_z1.1 jt_z1.2.1 jt_z1.2.2 ∈ jt_W) (l := jt_lg1) (jx_c (jW (jm_3 _ (List.mem_of_getElem? (i := 25) rfl)) rfl) (
  jx_e)) q h
set_option maxRecDepth 100000 in
theorem jt_lv0_ok {q : Nat × Nat} (h : q ∈ jt_lv0) : Cond.fieldLink (jt_on.getD q.1 "") q.2 "java/lang/String" "coder" "B" ∈ jt_W := jx_all (P := fun q : Nat × Nat => Cond.fieldLink (jt_on.getD q.1 "") q.2 "java/lang/String" "coder" "B" ∈ jt_W) (l := jt_lv0) (jx_c (jW (jm_6 _ (List.mem_of_getElem? (i := 47) rfl)) rfl) (
  jx_e)) q h
set_option maxRecDepth 100000 in
theorem jt_lv1_ok {q : Nat × Nat} (h : q ∈ jt_lv1) : Cond.fieldLink (jt_on.getD q.1 "") q.2 "java/lang/String" "value" "[B" ∈ jt_W := jx_all (P := fun q : Nat × Nat => Cond.fieldLink (jt_on.getD q.1 "") q.2 "java/lang/String" "value" "[B" ∈ jt_W) (l := jt_lv1) (jx_c (jW (jm_6 _ (List.mem_of_getElem? (i := 48) rfl)) rfl) (
  jx_e)) q h
theorem jt_arr : Cond.arrayClass .int ∈ jt_W ∧ Cond.arrayClass .char ∈ jt_W ∧ Cond.arrayClass .boolean ∈ jt_W := ⟨(jW (jm_1 _ (List.mem_of_getElem? (i := 145) rfl)) rfl), (jW (jm_1 _ (List.mem_of_getElem? (i := 43) rfl)) rfl), (jW (jm_5 _ (List.mem_of_getElem? (i := 98) rfl)) rfl)⟩
set_option maxRecDepth 100000 in
theorem jt_metA : jx_All (fun b : Nat => Cond.code (jt_N b) (jt_B b) (jt_L b) (jt_R b) ∈ jt_W ∧ Cond.initialized (jt_N b).cls ∈ jt_W) [0, 1, 2, 3, 4, 5, 6, 7, 8, 9, 10, 11, 12, 13, 14, 15, 16, 17, 18, 19, 20, 21, 22, 23, 24, 25, 26, 27, 28, 29, 30, 31, 32, 33, 34, 35, 36, 37, 38, 39, 40, 41, 42, 43, 44, 45, 46, 47, 48, 49, 50, 51, 52, 53, 54, 55, 56, 57, 58, 59, 60, 61, 62, 63, 64, 65, 66, 67, 68, 69, 70, 71, 72, 73, 74, 75, 76, 77, 78, 79, 80, 81, 82, 83, 84, 85, 86, 87, 88, 89, 90, 91, 92, 93, 94, 95, 96, 97, 98, 99, 100, 101, 102, 103, 104, 105, 106, 107, 108, 109, 110, 111, 112, 113, 114, 115, 116, 117, 118, 119, 120, 121, 122, 123, 124, 125, 126, 127, 128, 129, 130, 131, 132, 133, 134, 135, 136, 137, 138, 139, 140, 141, 142, 143, 144, 145, 146, 147, 148, 149, 150, 151, 152, 153, 154, 155, 156, 157, 158, 159, 160, 161, 162, 163, 164, 165, 166, 167, 168, 169, 170, 171, 172, 173, 174, 175, 176, 177, 178] := jx_c ⟨(jW (jm_1 _ (List.mem_of_getElem? (i := 34) rfl)) rfl), (jW (jm_1 _ (List.mem_of_getElem? (i := 2) rfl)) rfl)⟩ (
  jx_c ⟨(jW (jm_1 _ (List.mem_of_getElem? (i := 55) rfl)) rfl), (jW (jm_1 _ (List.mem_of_getElem? (i := 4) rfl)) rfl)⟩ (
  jx_c ⟨(jW (jm_1 _ (List.mem_of_getElem? (i := 48) rfl)) rfl), (jW (jm_1 _ (List.mem_of_getElem? (i := 3) rfl)) rfl)⟩ (
  jx_c ⟨(jW (jm_1 _ (List.mem_of_getElem? (i := 133) rfl)) rfl), (jW (jm_1 _ (List.mem_of_getElem? (i := 6) rfl)) rfl)⟩ (
  jx_c ⟨(jW (jm_1 _ (List.mem_of_getElem? (i := 127) rfl)) rfl), (jW (jm_1 _ (List.mem_of_getElem? (i := 5) rfl)) rfl)⟩ (
  jx_c ⟨(jW (jm_1 _ (List.mem_of_getElem? (i := 185) rfl)) rfl), (jW (jm_1 _ (List.mem_of_getElem? (i := 9) rfl)) rfl)⟩ (
  jx_c ⟨(jW (jm_1 _ (List.mem_of_getElem? (i := 179) rfl)) rfl), (jW (jm_1 _ (List.mem_of_getElem? (i := 8) rfl)) rfl)⟩ (
  jx_c ⟨(jW (jm_1 _ (List.mem_of_getElem? (i := 172) rfl)) rfl), (jW (jm_1 _ (List.mem_of_getElem? (i := 7) rfl)) rfl)⟩ (
  jx_c ⟨(jW (jm_2 _ (List.mem_of_getElem? (i := 13) rfl)) rfl), (jW (jm_1 _ (List.mem_of_getElem? (i := 11) rfl)) rfl)⟩ (
  jx_c ⟨(jW (jm_2 _ (List.mem_of_getElem? (i := 6) rfl)) rfl), (jW (jm_1 _ (List.mem_of_getElem? (i := 10) rfl)) rfl)⟩ (
  jx_c ⟨(jW (jm_2 _ (List.mem_of_getElem? (i := 61) rfl)) rfl), (jW (jm_1 _ (List.mem_of_getElem? (i := 12) rfl)) rfl)⟩ (
  jx_c ⟨(jW (jm_1 _ (List.mem_of_getElem? (i := 26) rfl)) rfl), (jW (jm_1 _ (List.mem_of_getElem? (i := 1) rfl)) rfl)⟩ (
  jx_c ⟨(jW (jm_4 _ (List.mem_of_getElem? (i := 197) rfl)) rfl), (jW (jm_1 _ (List.mem_of_getElem? (i := 13) rfl)) rfl)⟩ (
  jx_c ⟨(jW (jm_2 _ (List.mem_of_getElem? (i := 117) rfl)) rfl), (jW (jm_1 _ (List.mem_of_getElem? (i := 2) rfl)) rfl)⟩ (
  jx_c ⟨(jW (jm_2 _ (List.mem_of_getElem? (i := 121) rfl)) rfl), (jW (jm_1 _ (List.mem_of_getElem? (i := 1) rfl)) rfl)⟩ (
  jx_c ⟨(jW (jm_2 _ (List.mem_of_getElem? (i := 113) rfl)) rfl), (jW (jm_1 _ (List.mem_of_getElem? (i := 1) rfl)) rfl)⟩ (
  jx_c ⟨(jW (jm_5 _ (List.mem_of_getElem? (i := 102) rfl)) rfl), (jW (jm_1 _ (List.mem_of_getElem? (i := 13) rfl)) rfl)⟩ (
  jx_c ⟨(jW (jm_2 _ (List.mem_of_getElem? (i := 129) rfl)) rfl), (jW (jm_1 _ (List.mem_of_getElem? (i := 2) rfl)) rfl)⟩ (
  jx_c ⟨(jW (jm_2 _ (List.mem_of_getElem? (i := 125) rfl)) rfl), (jW (jm_1 _ (List.mem_of_getElem? (i := 1) rfl)) rfl)⟩ (
  jx_c ⟨(jW (jm_5 _ (List.mem_of_getElem? (i := 106) rfl)) rfl), (jW (jm_1 _ (List.mem_of_getElem? (i := 13) rfl)) rfl)⟩ (
  jx_c ⟨(jW (jm_2 _ (List.mem_of_getElem? (i := 137) rfl)) rfl), (jW (jm_1 _ (List.mem_of_getElem? (i := 2) rfl)) rfl)⟩ (
  jx_c ⟨(jW (jm_2 _ (List.mem_of_getElem? (i := 133) rfl)) rfl), (jW (jm_1 _ (List.mem_of_getElem? (i := 1) rfl)) rfl)⟩ (
  jx_c ⟨(jW (jm_5 _ (List.mem_of_getElem? (i := 110) rfl)) rfl), (jW (jm_1 _ (List.mem_of_getElem? (i := 13) rfl)) rfl)⟩ (
  jx_c ⟨(jW (jm_2 _ (List.mem_of_getElem? (i := 145) rfl)) rfl), (jW (jm_1 _ (List.mem_of_getElem? (i := 2) rfl)) rfl)⟩ (
  jx_c ⟨(jW (jm_2 _ (List.mem_of_getElem? (i := 149) rfl)) rfl), (jW (jm_1 _ (List.mem_of_getElem? (i := 2) rfl)) rfl)⟩ (
  jx_c ⟨(jW (jm_2 _ (List.mem_of_getElem? (i := 141) rfl)) rfl), (jW (jm_1 _ (List.mem_of_getElem? (i := 1) rfl)) rfl)⟩ (
  jx_c ⟨(jW (jm_5 _ (List.mem_of_getElem? (i := 114) rfl)) rfl), (jW (jm_1 _ (List.mem_of_getElem? (i := 13) rfl)) rfl)⟩ (
  jx_c ⟨(jW (jm_2 _ (List.mem_of_getElem? (i := 166) rfl)) rfl), (jW (jm_1 _ (List.mem_of_getElem? (i := 3) rfl)) rfl)⟩ (
  jx_c ⟨(jW (jm_2 _ (List.mem_of_getElem? (i := 176) rfl)) rfl), (jW (jm_1 _ (List.mem_of_getElem? (i := 6) rfl)) rfl)⟩ (
  jx_c ⟨(jW (jm_2 _ (List.mem_of_getElem? (i := 170) rfl)) rfl), (jW (jm_1 _ (List.mem_of_getElem? (i := 6) rfl)) rfl)⟩ (
  jx_c ⟨(jW (jm_2 _ (List.mem_of_getElem? (i := 180) rfl)) rfl), (jW (jm_1 _ (List.mem_of_getElem? (i := 6) rfl)) rfl)⟩ (
  jx_c ⟨(jW (jm_2 _ (List.mem_of_getElem? (i := 188) rfl)) rfl), (jW (jm_1 _ (List.mem_of_getElem? (i := 6) rfl)) rfl)⟩ (
  jx_c ⟨(jW (jm_2 _ (List.mem_of_getElem? (i := 184) rfl)) rfl), (jW (jm_1 _ (List.mem_of_getElem? (i := 5) rfl)) rfl)⟩ (
  jx_c ⟨(jW (jm_2 _ (List.mem_of_getElem? (i := 196) rfl)) rfl), (jW (jm_1 _ (List.mem_of_getElem? (i := 3) rfl)) rfl)⟩ (
  jx_c ⟨(jW (jm_2 _ (List.mem_of_getElem? (i := 200) rfl)) rfl), (jW (jm_1 _ (List.mem_of_getElem? (i := 5) rfl)) rfl)⟩ (
  jx_c ⟨(jW (jm_2 _ (List.mem_of_getElem? (i := 192) rfl)) rfl), (jW (jm_1 _ (List.mem_of_getElem? (i := 5) rfl)) rfl)⟩ (
  jx_c ⟨(jW (jm_2 _ (List.mem_of_getElem? (i := 204) rfl)) rfl), (jW (jm_1 _ (List.mem_of_getElem? (i := 3) rfl)) rfl)⟩ (
  jx_c ⟨(jW (jm_2 _ (List.mem_of_getElem? (i := 221) rfl)) rfl), (jW (jm_1 _ (List.mem_of_getElem? (i := 14) rfl)) rfl)⟩ (
  jx_c ⟨(jW (jm_2 _ (List.mem_of_getElem? (i := 231) rfl)) rfl), (jW (jm_1 _ (List.mem_of_getElem? (i := 14) rfl)) rfl)⟩ (
  jx_c ⟨(jW (jm_2 _ (List.mem_of_getElem? (i := 227) rfl)) rfl), (jW (jm_1 _ (List.mem_of_getElem? (i := 14) rfl)) rfl)⟩ (
  jx_c ⟨(jW (jm_2 _ (List.mem_of_getElem? (i := 237) rfl)) rfl), (jW (jm_1 _ (List.mem_of_getElem? (i := 15) rfl)) rfl)⟩ (
  jx_c ⟨(jW (jm_3 _ (List.mem_of_getElem? (i := 6) rfl)) rfl), (jW (jm_1 _ (List.mem_of_getElem? (i := 15) rfl)) rfl)⟩ (
  jx_c ⟨(jW (jm_2 _ (List.mem_of_getElem? (i := 234) rfl)) rfl), (jW (jm_1 _ (List.mem_of_getElem? (i := 15) rfl)) rfl)⟩ (
  jx_c ⟨(jW (jm_2 _ (List.mem_of_getElem? (i := 217) rfl)) rfl), (jW (jm_1 _ (List.mem_of_getElem? (i := 14) rfl)) rfl)⟩ (
  jx_c ⟨(jW (jm_2 _ (List.mem_of_getElem? (i := 213) rfl)) rfl), (jW (jm_1 _ (List.mem_of_getElem? (i := 14) rfl)) rfl)⟩ (
  jx_c ⟨(jW (jm_3 _ (List.mem_of_getElem? (i := 63) rfl)) rfl), (jW (jm_1 _ (List.mem_of_getElem? (i := 3) rfl)) rfl)⟩ (
  jx_c ⟨(jW (jm_3 _ (List.mem_of_getElem? (i := 67) rfl)) rfl), (jW (jm_1 _ (List.mem_of_getElem? (i := 6) rfl)) rfl)⟩ (
  jx_c ⟨(jW (jm_3 _ (List.mem_of_getElem? (i := 71) rfl)) rfl), (jW (jm_1 _ (List.mem_of_getElem? (i := 4) rfl)) rfl)⟩ (
  jx_c ⟨(jW (jm_3 _ (List.mem_of_getElem? (i := 59) rfl)) rfl), (jW (jm_1 _ (List.mem_of_getElem? (i := 5) rfl)) rfl)⟩ (
  jx_c ⟨(jW (jm_3 _ (List.mem_of_getElem? (i := 75) rfl)) rfl), (jW (jm_1 _ (List.mem_of_getElem? (i := 4) rfl)) rfl)⟩ (
  jx_c ⟨(jW (jm_2 _ (List.mem_of_getElem? (i := 208) rfl)) rfl), (jW (jm_1 _ (List.mem_of_getElem? (i := 5) rfl)) rfl)⟩ (
  jx_c ⟨(jW (jm_3 _ (List.mem_of_getElem? (i := 79) rfl)) rfl), (jW (jm_1 _ (List.mem_of_getElem? (i := 5) rfl)) rfl)⟩ (
  jx_c ⟨(jW (jm_3 _ (List.mem_of_getElem? (i := 84) rfl)) rfl), (jW (jm_1 _ (List.mem_of_getElem? (i := 5) rfl)) rfl)⟩ (
  jx_c ⟨(jW (jm_3 _ (List.mem_of_getElem? (i := 88) rfl)) rfl), (jW (jm_1 _ (List.mem_of_getElem? (i := 5) rfl)) rfl)⟩ (
  jx_c ⟨(jW (jm_2 _ (List.mem_of_getElem? (i := 162) rfl)) rfl), (jW (jm_1 _ (List.mem_of_getElem? (i := 5) rfl)) rfl)⟩ (
  jx_c ⟨(jW (jm_3 _ (List.mem_of_getElem? (i := 100) rfl)) rfl), (jW (jm_1 _ (List.mem_of_getElem? (i := 3) rfl)) rfl)⟩ (
  jx_c ⟨(jW (jm_3 _ (List.mem_of_getElem? (i := 96) rfl)) rfl), (jW (jm_1 _ (List.mem_of_getElem? (i := 3) rfl)) rfl)⟩ (
  jx_c ⟨(jW (jm_3 _ (List.mem_of_getElem? (i := 92) rfl)) rfl), (jW (jm_1 _ (List.mem_of_getElem? (i := 3) rfl)) rfl)⟩ (
  jx_c ⟨(jW (jm_2 _ (List.mem_of_getElem? (i := 158) rfl)) rfl), (jW (jm_1 _ (List.mem_of_getElem? (i := 1) rfl)) rfl)⟩ (
  jx_c ⟨(jW (jm_3 _ (List.mem_of_getElem? (i := 105) rfl)) rfl), (jW (jm_1 _ (List.mem_of_getElem? (i := 3) rfl)) rfl)⟩ (
  jx_c ⟨(jW (jm_2 _ (List.mem_of_getElem? (i := 154) rfl)) rfl), (jW (jm_1 _ (List.mem_of_getElem? (i := 1) rfl)) rfl)⟩ (
  jx_c ⟨(jW (jm_5 _ (List.mem_of_getElem? (i := 126) rfl)) rfl), (jW (jm_1 _ (List.mem_of_getElem? (i := 13) rfl)) rfl)⟩ (
  jx_c ⟨(jW (jm_5 _ (List.mem_of_getElem? (i := 134) rfl)) rfl), (jW (jm_1 _ (List.mem_of_getElem? (i := 13) rfl)) rfl)⟩ (
  jx_c ⟨(jW (jm_5 _ (List.mem_of_getElem? (i := 138) rfl)) rfl), (jW (jm_1 _ (List.mem_of_getElem? (i := 13) rfl)) rfl)⟩ (
  jx_c ⟨(jW (jm_5 _ (List.mem_of_getElem? (i := 130) rfl)) rfl), (jW (jm_1 _ (List.mem_of_getElem? (i := 13) rfl)) rfl)⟩ (
  jx_c ⟨(jW (jm_5 _ (List.mem_of_getElem? (i := 146) rfl)) rfl), (jW (jm_1 _ (List.mem_of_getElem? (i := 13) rfl)) rfl)⟩ (
  jx_c ⟨(jW (jm_5 _ (List.mem_of_getElem? (i := 150) rfl)) rfl), (jW (jm_1 _ (List.mem_of_getElem? (i := 13) rfl)) rfl)⟩ (
  jx_c ⟨(jW (jm_5 _ (List.mem_of_getElem? (i := 154) rfl)) rfl), (jW (jm_1 _ (List.mem_of_getElem? (i := 13) rfl)) rfl)⟩ (
  jx_c ⟨(jW (jm_5 _ (List.mem_of_getElem? (i := 142) rfl)) rfl), (jW (jm_1 _ (List.mem_of_getElem? (i := 13) rfl)) rfl)⟩ (
  jx_c ⟨(jW (jm_5 _ (List.mem_of_getElem? (i := 162) rfl)) rfl), (jW (jm_1 _ (List.mem_of_getElem? (i := 13) rfl)) rfl)⟩ (
  jx_c ⟨(jW (jm_5 _ (List.mem_of_getElem? (i := 158) rfl)) rfl), (jW (jm_1 _ (List.mem_of_getElem? (i := 13) rfl)) rfl)⟩ (
  jx_c ⟨(jW (jm_5 _ (List.mem_of_getElem? (i := 122) rfl)) rfl), (jW (jm_1 _ (List.mem_of_getElem? (i := 13) rfl)) rfl)⟩ (
  jx_c ⟨(jW (jm_5 _ (List.mem_of_getElem? (i := 118) rfl)) rfl), (jW (jm_1 _ (List.mem_of_getElem? (i := 13) rfl)) rfl)⟩ (
  jx_c ⟨(jW (jm_3 _ (List.mem_of_getElem? (i := 114) rfl)) rfl), (jW (jm_1 _ (List.mem_of_getElem? (i := 3) rfl)) rfl)⟩ (
  jx_c ⟨(jW (jm_3 _ (List.mem_of_getElem? (i := 119) rfl)) rfl), (jW (jm_1 _ (List.mem_of_getElem? (i := 4) rfl)) rfl)⟩ (
  jx_c ⟨(jW (jm_3 _ (List.mem_of_getElem? (i := 110) rfl)) rfl), (jW (jm_1 _ (List.mem_of_getElem? (i := 1) rfl)) rfl)⟩ (
  jx_c ⟨(jW (jm_5 _ (List.mem_of_getElem? (i := 166) rfl)) rfl), (jW (jm_1 _ (List.mem_of_getElem? (i := 13) rfl)) rfl)⟩ (
  jx_c ⟨(jW (jm_3 _ (List.mem_of_getElem? (i := 123) rfl)) rfl), (jW (jm_1 _ (List.mem_of_getElem? (i := 1) rfl)) rfl)⟩ (
  jx_c ⟨(jW (jm_5 _ (List.mem_of_getElem? (i := 170) rfl)) rfl), (jW (jm_1 _ (List.mem_of_getElem? (i := 13) rfl)) rfl)⟩ (
  jx_c ⟨(jW (jm_3 _ (List.mem_of_getElem? (i := 133) rfl)) rfl), (jW (jm_1 _ (List.mem_of_getElem? (i := 9) rfl)) rfl)⟩ (
  jx_c ⟨(jW (jm_3 _ (List.mem_of_getElem? (i := 136) rfl)) rfl), (jW (jm_1 _ (List.mem_of_getElem? (i := 9) rfl)) rfl)⟩ (
  jx_c ⟨(jW (jm_3 _ (List.mem_of_getElem? (i := 130) rfl)) rfl), (jW (jm_1 _ (List.mem_of_getElem? (i := 9) rfl)) rfl)⟩ (
  jx_c ⟨(jW (jm_3 _ (List.mem_of_getElem? (i := 148) rfl)) rfl), (jW (jm_1 _ (List.mem_of_getElem? (i := 9) rfl)) rfl)⟩ (
  jx_c ⟨(jW (jm_3 _ (List.mem_of_getElem? (i := 144) rfl)) rfl), (jW (jm_1 _ (List.mem_of_getElem? (i := 8) rfl)) rfl)⟩ (
  jx_c ⟨(jW (jm_3 _ (List.mem_of_getElem? (i := 158) rfl)) rfl), (jW (jm_1 _ (List.mem_of_getElem? (i := 9) rfl)) rfl)⟩ (
  jx_c ⟨(jW (jm_3 _ (List.mem_of_getElem? (i := 155) rfl)) rfl), (jW (jm_1 _ (List.mem_of_getElem? (i := 9) rfl)) rfl)⟩ (
  jx_c ⟨(jW (jm_3 _ (List.mem_of_getElem? (i := 152) rfl)) rfl), (jW (jm_1 _ (List.mem_of_getElem? (i := 9) rfl)) rfl)⟩ (
  jx_c ⟨(jW (jm_3 _ (List.mem_of_getElem? (i := 140) rfl)) rfl), (jW (jm_1 _ (List.mem_of_getElem? (i := 7) rfl)) rfl)⟩ (
  jx_c ⟨(jW (jm_3 _ (List.mem_of_getElem? (i := 162) rfl)) rfl), (jW (jm_1 _ (List.mem_of_getElem? (i := 7) rfl)) rfl)⟩ (
  jx_c ⟨(jW (jm_3 _ (List.mem_of_getElem? (i := 127) rfl)) rfl), (jW (jm_1 _ (List.mem_of_getElem? (i := 1) rfl)) rfl)⟩ (
  jx_c ⟨(jW (jm_5 _ (List.mem_of_getElem? (i := 178) rfl)) rfl), (jW (jm_1 _ (List.mem_of_getElem? (i := 13) rfl)) rfl)⟩ (
  jx_c ⟨(jW (jm_5 _ (List.mem_of_getElem? (i := 174) rfl)) rfl), (jW (jm_1 _ (List.mem_of_getElem? (i := 13) rfl)) rfl)⟩ (
  jx_c ⟨(jW (jm_3 _ (List.mem_of_getElem? (i := 170) rfl)) rfl), (jW (jm_1 _ (List.mem_of_getElem? (i := 7) rfl)) rfl)⟩ (
  jx_c ⟨(jW (jm_3 _ (List.mem_of_getElem? (i := 186) rfl)) rfl), (jW (jm_1 _ (List.mem_of_getElem? (i := 7) rfl)) rfl)⟩ (
  jx_c ⟨(jW (jm_3 _ (List.mem_of_getElem? (i := 182) rfl)) rfl), (jW (jm_1 _ (List.mem_of_getElem? (i := 7) rfl)) rfl)⟩ (
  jx_c ⟨(jW (jm_3 _ (List.mem_of_getElem? (i := 178) rfl)) rfl), (jW (jm_1 _ (List.mem_of_getElem? (i := 7) rfl)) rfl)⟩ (
  jx_c ⟨(jW (jm_3 _ (List.mem_of_getElem? (i := 174) rfl)) rfl), (jW (jm_1 _ (List.mem_of_getElem? (i := 7) rfl)) rfl)⟩ (
  jx_c ⟨(jW (jm_3 _ (List.mem_of_getElem? (i := 190) rfl)) rfl), (jW (jm_1 _ (List.mem_of_getElem? (i := 7) rfl)) rfl)⟩ (
  jx_c ⟨(jW (jm_3 _ (List.mem_of_getElem? (i := 196) rfl)) rfl), (jW (jm_1 _ (List.mem_of_getElem? (i := 8) rfl)) rfl)⟩ (
  jx_c ⟨(jW (jm_3 _ (List.mem_of_getElem? (i := 166) rfl)) rfl), (jW (jm_1 _ (List.mem_of_getElem? (i := 1) rfl)) rfl)⟩ (
  jx_c ⟨(jW (jm_5 _ (List.mem_of_getElem? (i := 186) rfl)) rfl), (jW (jm_1 _ (List.mem_of_getElem? (i := 13) rfl)) rfl)⟩ (
  jx_c ⟨(jW (jm_5 _ (List.mem_of_getElem? (i := 194) rfl)) rfl), (jW (jm_1 _ (List.mem_of_getElem? (i := 13) rfl)) rfl)⟩ (
  jx_c ⟨(jW (jm_5 _ (List.mem_of_getElem? (i := 190) rfl)) rfl), (jW (jm_1 _ (List.mem_of_getElem? (i := 13) rfl)) rfl)⟩ (
  jx_c ⟨(jW (jm_5 _ (List.mem_of_getElem? (i := 198) rfl)) rfl), (jW (jm_1 _ (List.mem_of_getElem? (i := 13) rfl)) rfl)⟩ (
  jx_c ⟨(jW (jm_5 _ (List.mem_of_getElem? (i := 182) rfl)) rfl), (jW (jm_1 _ (List.mem_of_getElem? (i := 13) rfl)) rfl)⟩ (
  jx_c ⟨(jW (jm_3 _ (List.mem_of_getElem? (i := 204) rfl)) rfl), (jW (jm_1 _ (List.mem_of_getElem? (i := 8) rfl)) rfl)⟩ (
  jx_c ⟨(jW (jm_3 _ (List.mem_of_getElem? (i := 208) rfl)) rfl), (jW (jm_1 _ (List.mem_of_getElem? (i := 8) rfl)) rfl)⟩ (
  jx_c ⟨(jW (jm_3 _ (List.mem_of_getElem? (i := 200) rfl)) rfl), (jW (jm_1 _ (List.mem_of_getElem? (i := 1) rfl)) rfl)⟩ (
  jx_c ⟨(jW (jm_5 _ (List.mem_of_getElem? (i := 202) rfl)) rfl), (jW (jm_1 _ (List.mem_of_getElem? (i := 13) rfl)) rfl)⟩ (
  jx_c ⟨(jW (jm_3 _ (List.mem_of_getElem? (i := 216) rfl)) rfl), (jW (jm_1 _ (List.mem_of_getElem? (i := 7) rfl)) rfl)⟩ (
  jx_c ⟨(jW (jm_3 _ (List.mem_of_getElem? (i := 212) rfl)) rfl), (jW (jm_1 _ (List.mem_of_getElem? (i := 1) rfl)) rfl)⟩ (
  jx_c ⟨(jW (jm_5 _ (List.mem_of_getElem? (i := 206) rfl)) rfl), (jW (jm_1 _ (List.mem_of_getElem? (i := 13) rfl)) rfl)⟩ (
  jx_c ⟨(jW (jm_3 _ (List.mem_of_getElem? (i := 224) rfl)) rfl), (jW (jm_1 _ (List.mem_of_getElem? (i := 1) rfl)) rfl)⟩ (
  jx_c ⟨(jW (jm_4 _ (List.mem_of_getElem? (i := 0) rfl)) rfl), (jW (jm_1 _ (List.mem_of_getElem? (i := 11) rfl)) rfl)⟩ (
  jx_c ⟨(jW (jm_3 _ (List.mem_of_getElem? (i := 236) rfl)) rfl), (jW (jm_1 _ (List.mem_of_getElem? (i := 10) rfl)) rfl)⟩ (
  jx_c ⟨(jW (jm_4 _ (List.mem_of_getElem? (i := 4) rfl)) rfl), (jW (jm_1 _ (List.mem_of_getElem? (i := 7) rfl)) rfl)⟩ (
  jx_c ⟨(jW (jm_4 _ (List.mem_of_getElem? (i := 17) rfl)) rfl), (jW (jm_1 _ (List.mem_of_getElem? (i := 9) rfl)) rfl)⟩ (
  jx_c ⟨(jW (jm_4 _ (List.mem_of_getElem? (i := 14) rfl)) rfl), (jW (jm_1 _ (List.mem_of_getElem? (i := 9) rfl)) rfl)⟩ (
  jx_c ⟨(jW (jm_4 _ (List.mem_of_getElem? (i := 27) rfl)) rfl), (jW (jm_1 _ (List.mem_of_getElem? (i := 3) rfl)) rfl)⟩ (
  jx_c ⟨(jW (jm_4 _ (List.mem_of_getElem? (i := 35) rfl)) rfl), (jW (jm_1 _ (List.mem_of_getElem? (i := 4) rfl)) rfl)⟩ (
  jx_c ⟨(jW (jm_4 _ (List.mem_of_getElem? (i := 31) rfl)) rfl), (jW (jm_1 _ (List.mem_of_getElem? (i := 3) rfl)) rfl)⟩ (
  jx_c ⟨(jW (jm_4 _ (List.mem_of_getElem? (i := 23) rfl)) rfl), (jW (jm_1 _ (List.mem_of_getElem? (i := 10) rfl)) rfl)⟩ (
  jx_c ⟨(jW (jm_4 _ (List.mem_of_getElem? (i := 8) rfl)) rfl), (jW (jm_1 _ (List.mem_of_getElem? (i := 10) rfl)) rfl)⟩ (
  jx_c ⟨(jW (jm_4 _ (List.mem_of_getElem? (i := 43) rfl)) rfl), (jW (jm_1 _ (List.mem_of_getElem? (i := 8) rfl)) rfl)⟩ (
  jx_c ⟨(jW (jm_4 _ (List.mem_of_getElem? (i := 67) rfl)) rfl), (jW (jm_1 _ (List.mem_of_getElem? (i := 18) rfl)) rfl)⟩ (
  jx_c ⟨(jW (jm_4 _ (List.mem_of_getElem? (i := 64) rfl)) rfl), (jW (jm_1 _ (List.mem_of_getElem? (i := 14) rfl)) rfl)⟩ (
  jx_c ⟨(jW (jm_4 _ (List.mem_of_getElem? (i := 61) rfl)) rfl), (jW (jm_1 _ (List.mem_of_getElem? (i := 15) rfl)) rfl)⟩ (
  jx_c ⟨(jW (jm_4 _ (List.mem_of_getElem? (i := 58) rfl)) rfl), (jW (jm_1 _ (List.mem_of_getElem? (i := 14) rfl)) rfl)⟩ (
  jx_c ⟨(jW (jm_4 _ (List.mem_of_getElem? (i := 78) rfl)) rfl), (jW (jm_1 _ (List.mem_of_getElem? (i := 9) rfl)) rfl)⟩ (
  jx_c ⟨(jW (jm_4 _ (List.mem_of_getElem? (i := 84) rfl)) rfl), (jW (jm_1 _ (List.mem_of_getElem? (i := 11) rfl)) rfl)⟩ (
  jx_c ⟨(jW (jm_4 _ (List.mem_of_getElem? (i := 52) rfl)) rfl), (jW (jm_1 _ (List.mem_of_getElem? (i := 11) rfl)) rfl)⟩ (
  jx_c ⟨(jW (jm_4 _ (List.mem_of_getElem? (i := 47) rfl)) rfl), (jW (jm_1 _ (List.mem_of_getElem? (i := 11) rfl)) rfl)⟩ (
  jx_c ⟨(jW (jm_4 _ (List.mem_of_getElem? (i := 93) rfl)) rfl), (jW (jm_1 _ (List.mem_of_getElem? (i := 11) rfl)) rfl)⟩ (
  jx_c ⟨(jW (jm_4 _ (List.mem_of_getElem? (i := 97) rfl)) rfl), (jW (jm_1 _ (List.mem_of_getElem? (i := 11) rfl)) rfl)⟩ (
  jx_c ⟨(jW (jm_4 _ (List.mem_of_getElem? (i := 104) rfl)) rfl), (jW (jm_1 _ (List.mem_of_getElem? (i := 11) rfl)) rfl)⟩ (
  jx_c ⟨(jW (jm_4 _ (List.mem_of_getElem? (i := 88) rfl)) rfl), (jW (jm_1 _ (List.mem_of_getElem? (i := 10) rfl)) rfl)⟩ (
  jx_c ⟨(jW (jm_4 _ (List.mem_of_getElem? (i := 112) rfl)) rfl), (jW (jm_1 _ (List.mem_of_getElem? (i := 3) rfl)) rfl)⟩ (
  jx_c ⟨(jW (jm_4 _ (List.mem_of_getElem? (i := 108) rfl)) rfl), (jW (jm_1 _ (List.mem_of_getElem? (i := 10) rfl)) rfl)⟩ (
  jx_c ⟨(jW (jm_4 _ (List.mem_of_getElem? (i := 39) rfl)) rfl), (jW (jm_1 _ (List.mem_of_getElem? (i := 10) rfl)) rfl)⟩ (
  jx_c ⟨(jW (jm_3 _ (List.mem_of_getElem? (i := 232) rfl)) rfl), (jW (jm_1 _ (List.mem_of_getElem? (i := 10) rfl)) rfl)⟩ (
  jx_c ⟨(jW (jm_3 _ (List.mem_of_getElem? (i := 228) rfl)) rfl), (jW (jm_1 _ (List.mem_of_getElem? (i := 1) rfl)) rfl)⟩ (
  jx_c ⟨(jW (jm_4 _ (List.mem_of_getElem? (i := 119) rfl)) rfl), (jW (jm_1 _ (List.mem_of_getElem? (i := 21) rfl)) rfl)⟩ (
  jx_c ⟨(jW (jm_4 _ (List.mem_of_getElem? (i := 116) rfl)) rfl), (jW (jm_1 _ (List.mem_of_getElem? (i := 10) rfl)) rfl)⟩ (
  jx_c ⟨(jW (jm_3 _ (List.mem_of_getElem? (i := 220) rfl)) rfl), (jW (jm_1 _ (List.mem_of_getElem? (i := 1) rfl)) rfl)⟩ (
  jx_c ⟨(jW (jm_5 _ (List.mem_of_getElem? (i := 214) rfl)) rfl), (jW (jm_1 _ (List.mem_of_getElem? (i := 13) rfl)) rfl)⟩ (
  jx_c ⟨(jW (jm_5 _ (List.mem_of_getElem? (i := 222) rfl)) rfl), (jW (jm_1 _ (List.mem_of_getElem? (i := 13) rfl)) rfl)⟩ (
  jx_c ⟨(jW (jm_5 _ (List.mem_of_getElem? (i := 238) rfl)) rfl), (jW (jm_1 _ (List.mem_of_getElem? (i := 13) rfl)) rfl)⟩ (
  jx_c ⟨(jW (jm_5 _ (List.mem_of_getElem? (i := 234) rfl)) rfl), (jW (jm_1 _ (List.mem_of_getElem? (i := 13) rfl)) rfl)⟩ (
  jx_c ⟨(jW (jm_6 _ (List.mem_of_getElem? (i := 2) rfl)) rfl), (jW (jm_1 _ (List.mem_of_getElem? (i := 13) rfl)) rfl)⟩ (
  jx_c ⟨(jW (jm_5 _ (List.mem_of_getElem? (i := 230) rfl)) rfl), (jW (jm_1 _ (List.mem_of_getElem? (i := 13) rfl)) rfl)⟩ (
  jx_c ⟨(jW (jm_6 _ (List.mem_of_getElem? (i := 6) rfl)) rfl), (jW (jm_1 _ (List.mem_of_getElem? (i := 13) rfl)) rfl)⟩ (
  jx_c ⟨(jW (jm_5 _ (List.mem_of_getElem? (i := 226) rfl)) rfl), (jW (jm_1 _ (List.mem_of_getElem? (i := 13) rfl)) rfl)⟩ (
  jx_c ⟨(jW (jm_5 _ (List.mem_of_getElem? (i := 218) rfl)) rfl), (jW (jm_1 _ (List.mem_of_getElem? (i := 13) rfl)) rfl)⟩ (
  jx_c ⟨(jW (jm_5 _ (List.mem_of_getElem? (i := 210) rfl)) rfl), (jW (jm_1 _ (List.mem_of_getElem? (i := 13) rfl)) rfl)⟩ (
  jx_c ⟨(jW (jm_4 _ (List.mem_of_getElem? (i := 130) rfl)) rfl), (jW (jm_1 _ (List.mem_of_getElem? (i := 10) rfl)) rfl)⟩ (
  jx_c ⟨(jW (jm_4 _ (List.mem_of_getElem? (i := 126) rfl)) rfl), (jW (jm_1 _ (List.mem_of_getElem? (i := 1) rfl)) rfl)⟩ (
  jx_c ⟨(jW (jm_6 _ (List.mem_of_getElem? (i := 10) rfl)) rfl), (jW (jm_1 _ (List.mem_of_getElem? (i := 13) rfl)) rfl)⟩ (
  jx_c ⟨(jW (jm_4 _ (List.mem_of_getElem? (i := 139) rfl)) rfl), (jW (jm_1 _ (List.mem_of_getElem? (i := 10) rfl)) rfl)⟩ (
  jx_c ⟨(jW (jm_4 _ (List.mem_of_getElem? (i := 134) rfl)) rfl), (jW (jm_1 _ (List.mem_of_getElem? (i := 1) rfl)) rfl)⟩ (
  jx_c ⟨(jW (jm_6 _ (List.mem_of_getElem? (i := 22) rfl)) rfl), (jW (jm_1 _ (List.mem_of_getElem? (i := 13) rfl)) rfl)⟩ (
  jx_c ⟨(jW (jm_6 _ (List.mem_of_getElem? (i := 18) rfl)) rfl), (jW (jm_1 _ (List.mem_of_getElem? (i := 13) rfl)) rfl)⟩ (
  jx_c ⟨(jW (jm_6 _ (List.mem_of_getElem? (i := 14) rfl)) rfl), (jW (jm_1 _ (List.mem_of_getElem? (i := 13) rfl)) rfl)⟩ (
  jx_c ⟨(jW (jm_4 _ (List.mem_of_getElem? (i := 149) rfl)) rfl), (jW (jm_1 _ (List.mem_of_getElem? (i := 10) rfl)) rfl)⟩ (
  jx_c ⟨(jW (jm_4 _ (List.mem_of_getElem? (i := 159) rfl)) rfl), (jW (jm_1 _ (List.mem_of_getElem? (i := 10) rfl)) rfl)⟩ (
  jx_c ⟨(jW (jm_4 _ (List.mem_of_getElem? (i := 164) rfl)) rfl), (jW (jm_1 _ (List.mem_of_getElem? (i := 4) rfl)) rfl)⟩ (
  jx_c ⟨(jW (jm_4 _ (List.mem_of_getElem? (i := 153) rfl)) rfl), (jW (jm_1 _ (List.mem_of_getElem? (i := 12) rfl)) rfl)⟩ (
  jx_c ⟨(jW (jm_4 _ (List.mem_of_getElem? (i := 169) rfl)) rfl), (jW (jm_1 _ (List.mem_of_getElem? (i := 12) rfl)) rfl)⟩ (
  jx_c ⟨(jW (jm_4 _ (List.mem_of_getElem? (i := 173) rfl)) rfl), (jW (jm_1 _ (List.mem_of_getElem? (i := 12) rfl)) rfl)⟩ (
  jx_c ⟨(jW (jm_4 _ (List.mem_of_getElem? (i := 183) rfl)) rfl), (jW (jm_1 _ (List.mem_of_getElem? (i := 12) rfl)) rfl)⟩ (
  jx_c ⟨(jW (jm_4 _ (List.mem_of_getElem? (i := 188) rfl)) rfl), (jW (jm_1 _ (List.mem_of_getElem? (i := 12) rfl)) rfl)⟩ (
  jx_c ⟨(jW (jm_4 _ (List.mem_of_getElem? (i := 177) rfl)) rfl), (jW (jm_1 _ (List.mem_of_getElem? (i := 12) rfl)) rfl)⟩ (
  jx_c ⟨(jW (jm_4 _ (List.mem_of_getElem? (i := 192) rfl)) rfl), (jW (jm_1 _ (List.mem_of_getElem? (i := 12) rfl)) rfl)⟩ (
  jx_c ⟨(jW (jm_4 _ (List.mem_of_getElem? (i := 145) rfl)) rfl), (jW (jm_1 _ (List.mem_of_getElem? (i := 1) rfl)) rfl)⟩ (
  jx_c ⟨(jW (jm_6 _ (List.mem_of_getElem? (i := 42) rfl)) rfl), (jW (jm_1 _ (List.mem_of_getElem? (i := 13) rfl)) rfl)⟩ (
  jx_c ⟨(jW (jm_6 _ (List.mem_of_getElem? (i := 38) rfl)) rfl), (jW (jm_1 _ (List.mem_of_getElem? (i := 13) rfl)) rfl)⟩ (
  jx_c ⟨(jW (jm_6 _ (List.mem_of_getElem? (i := 34) rfl)) rfl), (jW (jm_1 _ (List.mem_of_getElem? (i := 13) rfl)) rfl)⟩ (
  jx_c ⟨(jW (jm_6 _ (List.mem_of_getElem? (i := 30) rfl)) rfl), (jW (jm_1 _ (List.mem_of_getElem? (i := 13) rfl)) rfl)⟩ (
  jx_c ⟨(jW (jm_6 _ (List.mem_of_getElem? (i := 46) rfl)) rfl), (jW (jm_1 _ (List.mem_of_getElem? (i := 13) rfl)) rfl)⟩ (
  jx_c ⟨(jW (jm_6 _ (List.mem_of_getElem? (i := 26) rfl)) rfl), (jW (jm_1 _ (List.mem_of_getElem? (i := 13) rfl)) rfl)⟩ (
  jx_e)))))))))))))))))))))))))))))))))))))))))))))))))))))))))))))))))))))))))))))))))))))))))))))))))))))))))))))))))))))))))))))))))))))))))))))))))))))))))))))))))))))))))))))))))))
theorem jt_metB : (List.range 179).all (fun b => plainName (jt_N b).cls && (decide ((jt_N b).cls ≠ "java/lang/invoke/MethodHandle") && (decide ((jt_N b).cls ≠ "java/lang/invoke/VarHandle") && decide ((parseMethodDescriptor (jt_N b).desc).map (fun d => d.parameters.length) = some (jt_np.getD b 0))))) = true := by decide +kernel
theorem jt_lawR : [0, 1, 2, 3, 4, 5, 6, 7, 8, 9, 10, 11, 12, 13, 14, 15, 16, 17, 18, 19, 20, 21, 22, 23, 24, 25, 26, 27, 28, 29, 30, 31, 32, 33, 34, 35, 36, 37, 38, 39, 40, 41, 42, 43, 44, 45, 46, 47, 48, 49, 50, 51, 52, 53, 54, 55, 56, 57, 58, 59, 60, 61, 62, 63, 64, 65, 66, 67, 68, 69, 70, 71, 72, 73, 74, 75, 76, 77, 78, 79, 80, 81, 82, 83, 84, 85, 86, 87, 88, 89, 90, 91, 92, 93, 94, 95, 96, 97, 98, 99, 100, 101, 102, 103, 104, 105, 106, 107, 108, 109, 110, 111, 112, 113, 114, 115, 116, 117, 118, 119, 120, 121, 122, 123, 124, 125, 126, 127, 128, 129, 130, 131, 132, 133, 134, 135, 136, 137, 138, 139, 140, 141, 142, 143, 144, 145, 146, 147, 148, 149, 150, 151, 152, 153, 154, 155, 156, 157, 158, 159, 160, 161, 162, 163, 164, 165, 166, 167, 168, 169, 170, 171, 172, 173, 174, 175, 176, 177, 178] = List.range jt_law := by decide +kernel
theorem jt_met {b : Nat} (h : b < jt_law) : Cond.code (jt_N b) (jt_B b) (jt_L b) (jt_R b) ∈ jt_W ∧ Cond.initialized (jt_N b).cls ∈ jt_W ∧ plainName (jt_N b).cls = true ∧ (jt_N b).cls ≠ "java/lang/invoke/MethodHandle" ∧ (jt_N b).cls ≠ "java/lang/invoke/VarHandle" ∧ (parseMethodDescriptor (jt_N b).desc).map (fun d => d.parameters.length) = some (jt_np.getD b 0) := by
  have a := jx_all jt_metA b (by rw [jt_lawR]; exact List.mem_range.mpr h)
  have c := List.all_eq_true.mp jt_metB b (List.mem_range.mpr h)
  simp only [Bool.and_eq_true, decide_eq_true_eq] at c
  exact ⟨a.1, a.2, c.1, c.2.1, c.2.2.1, c.2.2.2⟩
set_option maxRecDepth 100000 in
theorem jt_iv_ok {b : Nat} (h : b ∈ jt_iv) : Cond.instanceMethod (jt_N b) ∈ jt_W ∧ Cond.selects (jt_N b).cls (jt_N b) (jt_N b) ∈ jt_W ∧ jt_C.getD (jt_rc.getD b 99) "" = (jt_N b).cls ∧ jt_rc.getD b 99 < jt_C.length := jx_all (P := fun b : Nat => Cond.instanceMethod (jt_N b) ∈ jt_W ∧ Cond.selects (jt_N b).cls (jt_N b) (jt_N b) ∈ jt_W ∧ jt_C.getD (jt_rc.getD b 99) "" = (jt_N b).cls ∧ jt_rc.getD b 99 < jt_C.length) (l := jt_iv) (jx_c ⟨(jW (jm_2 _ (List.mem_of_getElem? (i := 115) rfl)) rfl), (jW (jm_2 _ (List.mem_of_getElem? (i := 116) rfl)) rfl), rfl, by decide⟩ (
  jx_c ⟨(jW (jm_2 _ (List.mem_of_getElem? (i := 120) rfl)) rfl), (jWs (by decide +kernel) rfl), rfl, by decide⟩ (
  jx_c ⟨(jW (jm_2 _ (List.mem_of_getElem? (i := 111) rfl)) rfl), (jW (jm_2 _ (List.mem_of_getElem? (i := 112) rfl)) rfl), rfl, by decide⟩ (
  jx_c ⟨(jW (jm_5 _ (List.mem_of_getElem? (i := 100) rfl)) rfl), (jW (jm_5 _ (List.mem_of_getElem? (i := 101) rfl)) rfl), rfl, by decide⟩ (
  jx_c ⟨(jW (jm_2 _ (List.mem_of_getElem? (i := 127) rfl)) rfl), (jW (jm_2 _ (List.mem_of_getElem? (i := 128) rfl)) rfl), rfl, by decide⟩ (
  jx_c ⟨(jW (jm_2 _ (List.mem_of_getElem? (i := 123) rfl)) rfl), (jW (jm_2 _ (List.mem_of_getElem? (i := 124) rfl)) rfl), rfl, by decide⟩ (
  jx_c ⟨(jW (jm_5 _ (List.mem_of_getElem? (i := 104) rfl)) rfl), (jW (jm_5 _ (List.mem_of_getElem? (i := 105) rfl)) rfl), rfl, by decide⟩ (
  jx_c ⟨(jW (jm_2 _ (List.mem_of_getElem? (i := 135) rfl)) rfl), (jW (jm_2 _ (List.mem_of_getElem? (i := 136) rfl)) rfl), rfl, by decide⟩ (
  jx_c ⟨(jW (jm_2 _ (List.mem_of_getElem? (i := 131) rfl)) rfl), (jW (jm_2 _ (List.mem_of_getElem? (i := 132) rfl)) rfl), rfl, by decide⟩ (
  jx_c ⟨(jW (jm_5 _ (List.mem_of_getElem? (i := 108) rfl)) rfl), (jW (jm_5 _ (List.mem_of_getElem? (i := 109) rfl)) rfl), rfl, by decide⟩ (
  jx_c ⟨(jW (jm_2 _ (List.mem_of_getElem? (i := 143) rfl)) rfl), (jW (jm_2 _ (List.mem_of_getElem? (i := 144) rfl)) rfl), rfl, by decide⟩ (
  jx_c ⟨(jW (jm_2 _ (List.mem_of_getElem? (i := 147) rfl)) rfl), (jW (jm_2 _ (List.mem_of_getElem? (i := 148) rfl)) rfl), rfl, by decide⟩ (
  jx_c ⟨(jW (jm_2 _ (List.mem_of_getElem? (i := 139) rfl)) rfl), (jW (jm_2 _ (List.mem_of_getElem? (i := 140) rfl)) rfl), rfl, by decide⟩ (
  jx_c ⟨(jW (jm_5 _ (List.mem_of_getElem? (i := 112) rfl)) rfl), (jW (jm_5 _ (List.mem_of_getElem? (i := 113) rfl)) rfl), rfl, by decide⟩ (
  jx_c ⟨(jW (jm_2 _ (List.mem_of_getElem? (i := 164) rfl)) rfl), (jW (jm_2 _ (List.mem_of_getElem? (i := 165) rfl)) rfl), rfl, by decide⟩ (
  jx_c ⟨(jW (jm_2 _ (List.mem_of_getElem? (i := 175) rfl)) rfl), (jWs (by decide +kernel) rfl), rfl, by decide⟩ (
  jx_c ⟨(jW (jm_2 _ (List.mem_of_getElem? (i := 168) rfl)) rfl), (jW (jm_2 _ (List.mem_of_getElem? (i := 169) rfl)) rfl), rfl, by decide⟩ (
  jx_c ⟨(jW (jm_2 _ (List.mem_of_getElem? (i := 178) rfl)) rfl), (jW (jm_2 _ (List.mem_of_getElem? (i := 179) rfl)) rfl), rfl, by decide⟩ (
  jx_c ⟨(jW (jm_2 _ (List.mem_of_getElem? (i := 186) rfl)) rfl), (jW (jm_2 _ (List.mem_of_getElem? (i := 187) rfl)) rfl), rfl, by decide⟩ (
  jx_c ⟨(jW (jm_2 _ (List.mem_of_getElem? (i := 183) rfl)) rfl), (jWs (by decide +kernel) rfl), rfl, by decide⟩ (
  jx_c ⟨(jW (jm_2 _ (List.mem_of_getElem? (i := 194) rfl)) rfl), (jW (jm_2 _ (List.mem_of_getElem? (i := 195) rfl)) rfl), rfl, by decide⟩ (
  jx_c ⟨(jW (jm_2 _ (List.mem_of_getElem? (i := 199) rfl)) rfl), (jWs (by decide +kernel) rfl), rfl, by decide⟩ (
  jx_c ⟨(jW (jm_2 _ (List.mem_of_getElem? (i := 191) rfl)) rfl), (jWs (by decide +kernel) rfl), rfl, by decide⟩ (
  jx_c ⟨(jW (jm_2 _ (List.mem_of_getElem? (i := 202) rfl)) rfl), (jW (jm_2 _ (List.mem_of_getElem? (i := 203) rfl)) rfl), rfl, by decide⟩ (
  jx_c ⟨(jW (jm_3 _ (List.mem_of_getElem? (i := 61) rfl)) rfl), (jW (jm_3 _ (List.mem_of_getElem? (i := 62) rfl)) rfl), rfl, by decide⟩ (
  jx_c ⟨(jW (jm_3 _ (List.mem_of_getElem? (i := 65) rfl)) rfl), (jW (jm_3 _ (List.mem_of_getElem? (i := 66) rfl)) rfl), rfl, by decide⟩ (
  jx_c ⟨(jW (jm_3 _ (List.mem_of_getElem? (i := 69) rfl)) rfl), (jW (jm_3 _ (List.mem_of_getElem? (i := 70) rfl)) rfl), rfl, by decide⟩ (
  jx_c ⟨(jW (jm_3 _ (List.mem_of_getElem? (i := 58) rfl)) rfl), (jWs (by decide +kernel) rfl), rfl, by decide⟩ (
  jx_c ⟨(jW (jm_3 _ (List.mem_of_getElem? (i := 73) rfl)) rfl), (jW (jm_3 _ (List.mem_of_getElem? (i := 74) rfl)) rfl), rfl, by decide⟩ (
  jx_c ⟨(jW (jm_2 _ (List.mem_of_getElem? (i := 207) rfl)) rfl), (jWs (by decide +kernel) rfl), rfl, by decide⟩ (
  jx_c ⟨(jW (jm_3 _ (List.mem_of_getElem? (i := 78) rfl)) rfl), (jWs (by decide +kernel) rfl), rfl, by decide⟩ (
  jx_c ⟨(jW (jm_3 _ (List.mem_of_getElem? (i := 83) rfl)) rfl), (jWs (by decide +kernel) rfl), rfl, by decide⟩ (
  jx_c ⟨(jW (jm_3 _ (List.mem_of_getElem? (i := 87) rfl)) rfl), (jWs (by decide +kernel) rfl), rfl, by decide⟩ (
  jx_c ⟨(jW (jm_2 _ (List.mem_of_getElem? (i := 160) rfl)) rfl), (jW (jm_2 _ (List.mem_of_getElem? (i := 161) rfl)) rfl), rfl, by decide⟩ (
  jx_c ⟨(jW (jm_3 _ (List.mem_of_getElem? (i := 99) rfl)) rfl), (jWs (by decide +kernel) rfl), rfl, by decide⟩ (
  jx_c ⟨(jW (jm_3 _ (List.mem_of_getElem? (i := 95) rfl)) rfl), (jWs (by decide +kernel) rfl), rfl, by decide⟩ (
  jx_c ⟨(jW (jm_3 _ (List.mem_of_getElem? (i := 90) rfl)) rfl), (jW (jm_3 _ (List.mem_of_getElem? (i := 91) rfl)) rfl), rfl, by decide⟩ (
  jx_c ⟨(jW (jm_2 _ (List.mem_of_getElem? (i := 157) rfl)) rfl), (jWs (by decide +kernel) rfl), rfl, by decide⟩ (
  jx_c ⟨(jW (jm_3 _ (List.mem_of_getElem? (i := 103) rfl)) rfl), (jW (jm_3 _ (List.mem_of_getElem? (i := 104) rfl)) rfl), rfl, by decide⟩ (
  jx_c ⟨(jW (jm_2 _ (List.mem_of_getElem? (i := 152) rfl)) rfl), (jW (jm_2 _ (List.mem_of_getElem? (i := 153) rfl)) rfl), rfl, by decide⟩ (
  jx_c ⟨(jW (jm_5 _ (List.mem_of_getElem? (i := 125) rfl)) rfl), (jWs (by decide +kernel) rfl), rfl, by decide⟩ (
  jx_c ⟨(jW (jm_5 _ (List.mem_of_getElem? (i := 133) rfl)) rfl), (jWs (by decide +kernel) rfl), rfl, by decide⟩ (
  jx_c ⟨(jW (jm_5 _ (List.mem_of_getElem? (i := 137) rfl)) rfl), (jWs (by decide +kernel) rfl), rfl, by decide⟩ (
  jx_c ⟨(jW (jm_5 _ (List.mem_of_getElem? (i := 129) rfl)) rfl), (jWs (by decide +kernel) rfl), rfl, by decide⟩ (
  jx_c ⟨(jW (jm_5 _ (List.mem_of_getElem? (i := 145) rfl)) rfl), (jWs (by decide +kernel) rfl), rfl, by decide⟩ (
  jx_c ⟨(jW (jm_5 _ (List.mem_of_getElem? (i := 149) rfl)) rfl), (jWs (by decide +kernel) rfl), rfl, by decide⟩ (
  jx_c ⟨(jW (jm_5 _ (List.mem_of_getElem? (i := 153) rfl)) rfl), (jWs (by decide +kernel) rfl), rfl, by decide⟩ (
  jx_c ⟨(jW (jm_5 _ (List.mem_of_getElem? (i := 141) rfl)) rfl), (jWs (by decide +kernel) rfl), rfl, by decide⟩ (
  jx_c ⟨(jW (jm_5 _ (List.mem_of_getElem? (i := 161) rfl)) rfl), (jWs (by decide +kernel) rfl), rfl, by decide⟩ (
  jx_c ⟨(jW (jm_5 _ (List.mem_of_getElem? (i := 157) rfl)) rfl), (jWs (by decide +kernel) rfl), rfl, by decide⟩ (
  jx_c ⟨(jW (jm_5 _ (List.mem_of_getElem? (i := 121) rfl)) rfl), (jWs (by decide +kernel) rfl), rfl, by decide⟩ (
  jx_c ⟨(jW (jm_5 _ (List.mem_of_getElem? (i := 116) rfl)) rfl), (jW (jm_5 _ (List.mem_of_getElem? (i := 117) rfl)) rfl), rfl, by decide⟩ (
  jx_c ⟨(jW (jm_3 _ (List.mem_of_getElem? (i := 112) rfl)) rfl), (jW (jm_3 _ (List.mem_of_getElem? (i := 113) rfl)) rfl), rfl, by decide⟩ (
  jx_c ⟨(jW (jm_3 _ (List.mem_of_getElem? (i := 117) rfl)) rfl), (jW (jm_3 _ (List.mem_of_getElem? (i := 118) rfl)) rfl), rfl, by decide⟩ (
  jx_c ⟨(jW (jm_3 _ (List.mem_of_getElem? (i := 108) rfl)) rfl), (jW (jm_3 _ (List.mem_of_getElem? (i := 109) rfl)) rfl), rfl, by decide⟩ (
  jx_c ⟨(jW (jm_5 _ (List.mem_of_getElem? (i := 164) rfl)) rfl), (jW (jm_5 _ (List.mem_of_getElem? (i := 165) rfl)) rfl), rfl, by decide⟩ (
  jx_c ⟨(jW (jm_3 _ (List.mem_of_getElem? (i := 121) rfl)) rfl), (jW (jm_3 _ (List.mem_of_getElem? (i := 122) rfl)) rfl), rfl, by decide⟩ (
  jx_c ⟨(jW (jm_5 _ (List.mem_of_getElem? (i := 168) rfl)) rfl), (jW (jm_5 _ (List.mem_of_getElem? (i := 169) rfl)) rfl), rfl, by decide⟩ (
  jx_c ⟨(jW (jm_3 _ (List.mem_of_getElem? (i := 146) rfl)) rfl), (jW (jm_3 _ (List.mem_of_getElem? (i := 147) rfl)) rfl), rfl, by decide⟩ (
  jx_c ⟨(jW (jm_3 _ (List.mem_of_getElem? (i := 142) rfl)) rfl), (jW (jm_3 _ (List.mem_of_getElem? (i := 143) rfl)) rfl), rfl, by decide⟩ (
  jx_c ⟨(jW (jm_3 _ (List.mem_of_getElem? (i := 150) rfl)) rfl), (jW (jm_3 _ (List.mem_of_getElem? (i := 151) rfl)) rfl), rfl, by decide⟩ (
  jx_c ⟨(jW (jm_3 _ (List.mem_of_getElem? (i := 138) rfl)) rfl), (jW (jm_3 _ (List.mem_of_getElem? (i := 139) rfl)) rfl), rfl, by decide⟩ (
  jx_c ⟨(jW (jm_3 _ (List.mem_of_getElem? (i := 160) rfl)) rfl), (jW (jm_3 _ (List.mem_of_getElem? (i := 161) rfl)) rfl), rfl, by decide⟩ (
  jx_c ⟨(jW (jm_3 _ (List.mem_of_getElem? (i := 125) rfl)) rfl), (jW (jm_3 _ (List.mem_of_getElem? (i := 126) rfl)) rfl), rfl, by decide⟩ (
  jx_c ⟨(jW (jm_5 _ (List.mem_of_getElem? (i := 177) rfl)) rfl), (jWs (by decide +kernel) rfl), rfl, by decide⟩ (
  jx_c ⟨(jW (jm_5 _ (List.mem_of_getElem? (i := 172) rfl)) rfl), (jW (jm_5 _ (List.mem_of_getElem? (i := 173) rfl)) rfl), rfl, by decide⟩ (
  jx_c ⟨(jW (jm_3 _ (List.mem_of_getElem? (i := 168) rfl)) rfl), (jW (jm_3 _ (List.mem_of_getElem? (i := 169) rfl)) rfl), rfl, by decide⟩ (
  jx_c ⟨(jW (jm_3 _ (List.mem_of_getElem? (i := 184) rfl)) rfl), (jW (jm_3 _ (List.mem_of_getElem? (i := 185) rfl)) rfl), rfl, by decide⟩ (
  jx_c ⟨(jW (jm_3 _ (List.mem_of_getElem? (i := 180) rfl)) rfl), (jW (jm_3 _ (List.mem_of_getElem? (i := 181) rfl)) rfl), rfl, by decide⟩ (
  jx_c ⟨(jW (jm_3 _ (List.mem_of_getElem? (i := 176) rfl)) rfl), (jW (jm_3 _ (List.mem_of_getElem? (i := 177) rfl)) rfl), rfl, by decide⟩ (
  jx_c ⟨(jW (jm_3 _ (List.mem_of_getElem? (i := 172) rfl)) rfl), (jW (jm_3 _ (List.mem_of_getElem? (i := 173) rfl)) rfl), rfl, by decide⟩ (
  jx_c ⟨(jW (jm_3 _ (List.mem_of_getElem? (i := 188) rfl)) rfl), (jW (jm_3 _ (List.mem_of_getElem? (i := 189) rfl)) rfl), rfl, by decide⟩ (
  jx_c ⟨(jW (jm_3 _ (List.mem_of_getElem? (i := 194) rfl)) rfl), (jW (jm_3 _ (List.mem_of_getElem? (i := 195) rfl)) rfl), rfl, by decide⟩ (
  jx_c ⟨(jW (jm_3 _ (List.mem_of_getElem? (i := 164) rfl)) rfl), (jW (jm_3 _ (List.mem_of_getElem? (i := 165) rfl)) rfl), rfl, by decide⟩ (
  jx_c ⟨(jW (jm_5 _ (List.mem_of_getElem? (i := 185) rfl)) rfl), (jWs (by decide +kernel) rfl), rfl, by decide⟩ (
  jx_c ⟨(jW (jm_5 _ (List.mem_of_getElem? (i := 193) rfl)) rfl), (jWs (by decide +kernel) rfl), rfl, by decide⟩ (
  jx_c ⟨(jW (jm_5 _ (List.mem_of_getElem? (i := 189) rfl)) rfl), (jWs (by decide +kernel) rfl), rfl, by decide⟩ (
  jx_c ⟨(jW (jm_5 _ (List.mem_of_getElem? (i := 197) rfl)) rfl), (jWs (by decide +kernel) rfl), rfl, by decide⟩ (
  jx_c ⟨(jW (jm_5 _ (List.mem_of_getElem? (i := 180) rfl)) rfl), (jW (jm_5 _ (List.mem_of_getElem? (i := 181) rfl)) rfl), rfl, by decide⟩ (
  jx_c ⟨(jW (jm_3 _ (List.mem_of_getElem? (i := 202) rfl)) rfl), (jW (jm_3 _ (List.mem_of_getElem? (i := 203) rfl)) rfl), rfl, by decide⟩ (
  jx_c ⟨(jW (jm_3 _ (List.mem_of_getElem? (i := 206) rfl)) rfl), (jW (jm_3 _ (List.mem_of_getElem? (i := 207) rfl)) rfl), rfl, by decide⟩ (
  jx_c ⟨(jW (jm_3 _ (List.mem_of_getElem? (i := 198) rfl)) rfl), (jW (jm_3 _ (List.mem_of_getElem? (i := 199) rfl)) rfl), rfl, by decide⟩ (
  jx_c ⟨(jW (jm_5 _ (List.mem_of_getElem? (i := 200) rfl)) rfl), (jW (jm_5 _ (List.mem_of_getElem? (i := 201) rfl)) rfl), rfl, by decide⟩ (
  jx_c ⟨(jW (jm_3 _ (List.mem_of_getElem? (i := 214) rfl)) rfl), (jW (jm_3 _ (List.mem_of_getElem? (i := 215) rfl)) rfl), rfl, by decide⟩ (
  jx_c ⟨(jW (jm_3 _ (List.mem_of_getElem? (i := 210) rfl)) rfl), (jW (jm_3 _ (List.mem_of_getElem? (i := 211) rfl)) rfl), rfl, by decide⟩ (
  jx_c ⟨(jW (jm_5 _ (List.mem_of_getElem? (i := 204) rfl)) rfl), (jW (jm_5 _ (List.mem_of_getElem? (i := 205) rfl)) rfl), rfl, by decide⟩ (
  jx_c ⟨(jW (jm_3 _ (List.mem_of_getElem? (i := 223) rfl)) rfl), (jWs (by decide +kernel) rfl), rfl, by decide⟩ (
  jx_c ⟨(jW (jm_3 _ (List.mem_of_getElem? (i := 238) rfl)) rfl), (jW (jm_3 _ (List.mem_of_getElem? (i := 239) rfl)) rfl), rfl, by decide⟩ (
  jx_c ⟨(jW (jm_3 _ (List.mem_of_getElem? (i := 235) rfl)) rfl), (jWs (by decide +kernel) rfl), rfl, by decide⟩ (
  jx_c ⟨(jW (jm_4 _ (List.mem_of_getElem? (i := 2) rfl)) rfl), (jW (jm_4 _ (List.mem_of_getElem? (i := 3) rfl)) rfl), rfl, by decide⟩ (
  jx_c ⟨(jW (jm_4 _ (List.mem_of_getElem? (i := 12) rfl)) rfl), (jW (jm_4 _ (List.mem_of_getElem? (i := 13) rfl)) rfl), rfl, by decide⟩ (
  jx_c ⟨(jW (jm_4 _ (List.mem_of_getElem? (i := 25) rfl)) rfl), (jW (jm_4 _ (List.mem_of_getElem? (i := 26) rfl)) rfl), rfl, by decide⟩ (
  jx_c ⟨(jW (jm_4 _ (List.mem_of_getElem? (i := 33) rfl)) rfl), (jW (jm_4 _ (List.mem_of_getElem? (i := 34) rfl)) rfl), rfl, by decide⟩ (
  jx_c ⟨(jW (jm_4 _ (List.mem_of_getElem? (i := 29) rfl)) rfl), (jW (jm_4 _ (List.mem_of_getElem? (i := 30) rfl)) rfl), rfl, by decide⟩ (
  jx_c ⟨(jW (jm_4 _ (List.mem_of_getElem? (i := 22) rfl)) rfl), (jWs (by decide +kernel) rfl), rfl, by decide⟩ (
  jx_c ⟨(jW (jm_4 _ (List.mem_of_getElem? (i := 7) rfl)) rfl), (jWs (by decide +kernel) rfl), rfl, by decide⟩ (
  jx_c ⟨(jW (jm_4 _ (List.mem_of_getElem? (i := 41) rfl)) rfl), (jW (jm_4 _ (List.mem_of_getElem? (i := 42) rfl)) rfl), rfl, by decide⟩ (
  jx_c ⟨(jW (jm_4 _ (List.mem_of_getElem? (i := 76) rfl)) rfl), (jW (jm_4 _ (List.mem_of_getElem? (i := 77) rfl)) rfl), rfl, by decide⟩ (
  jx_c ⟨(jW (jm_4 _ (List.mem_of_getElem? (i := 83) rfl)) rfl), (jWs (by decide +kernel) rfl), rfl, by decide⟩ (
  jx_c ⟨(jW (jm_4 _ (List.mem_of_getElem? (i := 51) rfl)) rfl), (jWs (by decide +kernel) rfl), rfl, by decide⟩ (
  jx_c ⟨(jW (jm_4 _ (List.mem_of_getElem? (i := 45) rfl)) rfl), (jW (jm_4 _ (List.mem_of_getElem? (i := 46) rfl)) rfl), rfl, by decide⟩ (
  jx_c ⟨(jW (jm_4 _ (List.mem_of_getElem? (i := 91) rfl)) rfl), (jW (jm_4 _ (List.mem_of_getElem? (i := 92) rfl)) rfl), rfl, by decide⟩ (
  jx_c ⟨(jW (jm_4 _ (List.mem_of_getElem? (i := 95) rfl)) rfl), (jW (jm_4 _ (List.mem_of_getElem? (i := 96) rfl)) rfl), rfl, by decide⟩ (
  jx_c ⟨(jW (jm_4 _ (List.mem_of_getElem? (i := 102) rfl)) rfl), (jW (jm_4 _ (List.mem_of_getElem? (i := 103) rfl)) rfl), rfl, by decide⟩ (
  jx_c ⟨(jW (jm_4 _ (List.mem_of_getElem? (i := 87) rfl)) rfl), (jWs (by decide +kernel) rfl), rfl, by decide⟩ (
  jx_c ⟨(jW (jm_4 _ (List.mem_of_getElem? (i := 110) rfl)) rfl), (jW (jm_4 _ (List.mem_of_getElem? (i := 111) rfl)) rfl), rfl, by decide⟩ (
  jx_c ⟨(jW (jm_4 _ (List.mem_of_getElem? (i := 107) rfl)) rfl), (jWs (by decide +kernel) rfl), rfl, by decide⟩ (
  jx_c ⟨(jW (jm_4 _ (List.mem_of_getElem? (i := 38) rfl)) rfl), (jWs (by decide +kernel) rfl), rfl, by decide⟩ (
  jx_c ⟨(jW (jm_3 _ (List.mem_of_getElem? (i := 230) rfl)) rfl), (jW (jm_3 _ (List.mem_of_getElem? (i := 231) rfl)) rfl), rfl, by decide⟩ (
  jx_c ⟨(jW (jm_3 _ (List.mem_of_getElem? (i := 227) rfl)) rfl), (jWs (by decide +kernel) rfl), rfl, by decide⟩ (
  jx_c ⟨(jW (jm_4 _ (List.mem_of_getElem? (i := 114) rfl)) rfl), (jW (jm_4 _ (List.mem_of_getElem? (i := 115) rfl)) rfl), rfl, by decide⟩ (
  jx_c ⟨(jW (jm_3 _ (List.mem_of_getElem? (i := 218) rfl)) rfl), (jW (jm_3 _ (List.mem_of_getElem? (i := 219) rfl)) rfl), rfl, by decide⟩ (
  jx_c ⟨(jW (jm_5 _ (List.mem_of_getElem? (i := 213) rfl)) rfl), (jWs (by decide +kernel) rfl), rfl, by decide⟩ (
  jx_c ⟨(jW (jm_5 _ (List.mem_of_getElem? (i := 221) rfl)) rfl), (jWs (by decide +kernel) rfl), rfl, by decide⟩ (
  jx_c ⟨(jW (jm_5 _ (List.mem_of_getElem? (i := 237) rfl)) rfl), (jWs (by decide +kernel) rfl), rfl, by decide⟩ (
  jx_c ⟨(jW (jm_5 _ (List.mem_of_getElem? (i := 233) rfl)) rfl), (jWs (by decide +kernel) rfl), rfl, by decide⟩ (
  jx_c ⟨(jW (jm_6 _ (List.mem_of_getElem? (i := 1) rfl)) rfl), (jWs (by decide +kernel) rfl), rfl, by decide⟩ (
  jx_c ⟨(jW (jm_5 _ (List.mem_of_getElem? (i := 229) rfl)) rfl), (jWs (by decide +kernel) rfl), rfl, by decide⟩ (
  jx_c ⟨(jW (jm_6 _ (List.mem_of_getElem? (i := 5) rfl)) rfl), (jWs (by decide +kernel) rfl), rfl, by decide⟩ (
  jx_c ⟨(jW (jm_5 _ (List.mem_of_getElem? (i := 225) rfl)) rfl), (jWs (by decide +kernel) rfl), rfl, by decide⟩ (
  jx_c ⟨(jW (jm_5 _ (List.mem_of_getElem? (i := 217) rfl)) rfl), (jWs (by decide +kernel) rfl), rfl, by decide⟩ (
  jx_c ⟨(jW (jm_5 _ (List.mem_of_getElem? (i := 208) rfl)) rfl), (jW (jm_5 _ (List.mem_of_getElem? (i := 209) rfl)) rfl), rfl, by decide⟩ (
  jx_c ⟨(jW (jm_4 _ (List.mem_of_getElem? (i := 128) rfl)) rfl), (jW (jm_4 _ (List.mem_of_getElem? (i := 129) rfl)) rfl), rfl, by decide⟩ (
  jx_c ⟨(jW (jm_4 _ (List.mem_of_getElem? (i := 124) rfl)) rfl), (jW (jm_4 _ (List.mem_of_getElem? (i := 125) rfl)) rfl), rfl, by decide⟩ (
  jx_c ⟨(jW (jm_6 _ (List.mem_of_getElem? (i := 8) rfl)) rfl), (jW (jm_6 _ (List.mem_of_getElem? (i := 9) rfl)) rfl), rfl, by decide⟩ (
  jx_c ⟨(jW (jm_4 _ (List.mem_of_getElem? (i := 137) rfl)) rfl), (jW (jm_4 _ (List.mem_of_getElem? (i := 138) rfl)) rfl), rfl, by decide⟩ (
  jx_c ⟨(jW (jm_4 _ (List.mem_of_getElem? (i := 132) rfl)) rfl), (jW (jm_4 _ (List.mem_of_getElem? (i := 133) rfl)) rfl), rfl, by decide⟩ (
  jx_c ⟨(jW (jm_6 _ (List.mem_of_getElem? (i := 21) rfl)) rfl), (jWs (by decide +kernel) rfl), rfl, by decide⟩ (
  jx_c ⟨(jW (jm_6 _ (List.mem_of_getElem? (i := 17) rfl)) rfl), (jWs (by decide +kernel) rfl), rfl, by decide⟩ (
  jx_c ⟨(jW (jm_6 _ (List.mem_of_getElem? (i := 12) rfl)) rfl), (jW (jm_6 _ (List.mem_of_getElem? (i := 13) rfl)) rfl), rfl, by decide⟩ (
  jx_c ⟨(jW (jm_4 _ (List.mem_of_getElem? (i := 147) rfl)) rfl), (jW (jm_4 _ (List.mem_of_getElem? (i := 148) rfl)) rfl), rfl, by decide⟩ (
  jx_c ⟨(jW (jm_4 _ (List.mem_of_getElem? (i := 157) rfl)) rfl), (jW (jm_4 _ (List.mem_of_getElem? (i := 158) rfl)) rfl), rfl, by decide⟩ (
  jx_c ⟨(jW (jm_4 _ (List.mem_of_getElem? (i := 162) rfl)) rfl), (jW (jm_4 _ (List.mem_of_getElem? (i := 163) rfl)) rfl), rfl, by decide⟩ (
  jx_c ⟨(jW (jm_4 _ (List.mem_of_getElem? (i := 151) rfl)) rfl), (jW (jm_4 _ (List.mem_of_getElem? (i := 152) rfl)) rfl), rfl, by decide⟩ (
  jx_c ⟨(jW (jm_4 _ (List.mem_of_getElem? (i := 167) rfl)) rfl), (jW (jm_4 _ (List.mem_of_getElem? (i := 168) rfl)) rfl), rfl, by decide⟩ (
  jx_c ⟨(jW (jm_4 _ (List.mem_of_getElem? (i := 171) rfl)) rfl), (jW (jm_4 _ (List.mem_of_getElem? (i := 172) rfl)) rfl), rfl, by decide⟩ (
  jx_c ⟨(jW (jm_4 _ (List.mem_of_getElem? (i := 182) rfl)) rfl), (jWs (by decide +kernel) rfl), rfl, by decide⟩ (
  jx_c ⟨(jW (jm_4 _ (List.mem_of_getElem? (i := 175) rfl)) rfl), (jW (jm_4 _ (List.mem_of_getElem? (i := 176) rfl)) rfl), rfl, by decide⟩ (
  jx_c ⟨(jW (jm_4 _ (List.mem_of_getElem? (i := 190) rfl)) rfl), (jW (jm_4 _ (List.mem_of_getElem? (i := 191) rfl)) rfl), rfl, by decide⟩ (
  jx_c ⟨(jW (jm_4 _ (List.mem_of_getElem? (i := 143) rfl)) rfl), (jW (jm_4 _ (List.mem_of_getElem? (i := 144) rfl)) rfl), rfl, by decide⟩ (
  jx_c ⟨(jW (jm_6 _ (List.mem_of_getElem? (i := 41) rfl)) rfl), (jWs (by decide +kernel) rfl), rfl, by decide⟩ (
  jx_c ⟨(jW (jm_6 _ (List.mem_of_getElem? (i := 37) rfl)) rfl), (jWs (by decide +kernel) rfl), rfl, by decide⟩ (
  jx_c ⟨(jW (jm_6 _ (List.mem_of_getElem? (i := 33) rfl)) rfl), (jWs (by decide +kernel) rfl), rfl, by decide⟩ (
  jx_c ⟨(jW (jm_6 _ (List.mem_of_getElem? (i := 29) rfl)) rfl), (jWs (by decide +kernel) rfl), rfl, by decide⟩ (
  jx_c ⟨(jW (jm_6 _ (List.mem_of_getElem? (i := 45) rfl)) rfl), (jWs (by decide +kernel) rfl), rfl, by decide⟩ (
  jx_c ⟨(jW (jm_6 _ (List.mem_of_getElem? (i := 24) rfl)) rfl), (jW (jm_6 _ (List.mem_of_getElem? (i := 25) rfl)) rfl), rfl, by decide⟩ (
  jx_e))))))))))))))))))))))))))))))))))))))))))))))))))))))))))))))))))))))))))))))))))))))))))))))))))))))))))))))))))))))))))))))))))))))))))))))))))) b h
set_option maxRecDepth 100000 in
theorem jt_it_ok {b : Nat} (h : b ∈ jt_it) : Cond.instanceMethod (jt_N b) ∈ jt_W ∧ Cond.selects (jt_N b).cls (jt_N b) (jt_N b) ∈ jt_W ∧ (jt_N b).cls = "java/lang/String" := jx_all (P := fun b : Nat => Cond.instanceMethod (jt_N b) ∈ jt_W ∧ Cond.selects (jt_N b).cls (jt_N b) (jt_N b) ∈ jt_W ∧ (jt_N b).cls = "java/lang/String") (l := jt_it) (jx_c ⟨(jW (jm_2 _ (List.mem_of_getElem? (i := 219) rfl)) rfl), (jW (jm_2 _ (List.mem_of_getElem? (i := 220) rfl)) rfl), rfl⟩ (
  jx_c ⟨(jW (jm_2 _ (List.mem_of_getElem? (i := 229) rfl)) rfl), (jW (jm_2 _ (List.mem_of_getElem? (i := 230) rfl)) rfl), rfl⟩ (
  jx_c ⟨(jW (jm_2 _ (List.mem_of_getElem? (i := 225) rfl)) rfl), (jW (jm_2 _ (List.mem_of_getElem? (i := 226) rfl)) rfl), rfl⟩ (
  jx_c ⟨(jW (jm_2 _ (List.mem_of_getElem? (i := 215) rfl)) rfl), (jW (jm_2 _ (List.mem_of_getElem? (i := 216) rfl)) rfl), rfl⟩ (
  jx_c ⟨(jW (jm_2 _ (List.mem_of_getElem? (i := 211) rfl)) rfl), (jW (jm_2 _ (List.mem_of_getElem? (i := 212) rfl)) rfl), rfl⟩ (
  jx_c ⟨(jW (jm_4 _ (List.mem_of_getElem? (i := 56) rfl)) rfl), (jW (jm_4 _ (List.mem_of_getElem? (i := 57) rfl)) rfl), rfl⟩ (
  jx_e))))))) b h
set_option maxRecDepth 100000 in
theorem jt_is_ok {b : Nat} (h : b ∈ jt_is) : Cond.static (jt_N b) ∈ jt_W := jx_all (P := fun b : Nat => Cond.static (jt_N b) ∈ jt_W) (l := jt_is) (jx_c (jW (jm_2 _ (List.mem_of_getElem? (i := 236) rfl)) rfl) (
  jx_c (jW (jm_3 _ (List.mem_of_getElem? (i := 5) rfl)) rfl) (
  jx_c (jW (jm_2 _ (List.mem_of_getElem? (i := 233) rfl)) rfl) (
  jx_c (jW (jm_3 _ (List.mem_of_getElem? (i := 132) rfl)) rfl) (
  jx_c (jW (jm_3 _ (List.mem_of_getElem? (i := 135) rfl)) rfl) (
  jx_c (jW (jm_3 _ (List.mem_of_getElem? (i := 129) rfl)) rfl) (
  jx_c (jW (jm_3 _ (List.mem_of_getElem? (i := 157) rfl)) rfl) (
  jx_c (jW (jm_3 _ (List.mem_of_getElem? (i := 154) rfl)) rfl) (
  jx_c (jW (jm_4 _ (List.mem_of_getElem? (i := 16) rfl)) rfl) (
  jx_c (jW (jm_4 _ (List.mem_of_getElem? (i := 66) rfl)) rfl) (
  jx_c (jW (jm_4 _ (List.mem_of_getElem? (i := 63) rfl)) rfl) (
  jx_c (jW (jm_4 _ (List.mem_of_getElem? (i := 60) rfl)) rfl) (
  jx_c (jW (jm_4 _ (List.mem_of_getElem? (i := 118) rfl)) rfl) (
  jx_c (jW (jm_4 _ (List.mem_of_getElem? (i := 187) rfl)) rfl) (
  jx_e))))))))))))))) b h
set_option maxRecDepth 100000 in
theorem jt_ii_ok {b : Nat} (h : b ∈ jt_ii) : Cond.instanceMethod (jt_N b) ∈ jt_W ∧ (jt_N b).name = "<init>" ∧ jt_R b = none := jx_all (P := fun b : Nat => Cond.instanceMethod (jt_N b) ∈ jt_W ∧ (jt_N b).name = "<init>" ∧ jt_R b = none) (l := jt_ii) (jx_c ⟨(jW (jm_1 _ (List.mem_of_getElem? (i := 33) rfl)) rfl), rfl, rfl⟩ (
  jx_c ⟨(jW (jm_1 _ (List.mem_of_getElem? (i := 54) rfl)) rfl), rfl, rfl⟩ (
  jx_c ⟨(jW (jm_1 _ (List.mem_of_getElem? (i := 47) rfl)) rfl), rfl, rfl⟩ (
  jx_c ⟨(jW (jm_1 _ (List.mem_of_getElem? (i := 132) rfl)) rfl), rfl, rfl⟩ (
  jx_c ⟨(jW (jm_1 _ (List.mem_of_getElem? (i := 126) rfl)) rfl), rfl, rfl⟩ (
  jx_c ⟨(jW (jm_1 _ (List.mem_of_getElem? (i := 184) rfl)) rfl), rfl, rfl⟩ (
  jx_c ⟨(jW (jm_1 _ (List.mem_of_getElem? (i := 178) rfl)) rfl), rfl, rfl⟩ (
  jx_c ⟨(jW (jm_1 _ (List.mem_of_getElem? (i := 171) rfl)) rfl), rfl, rfl⟩ (
  jx_c ⟨(jW (jm_2 _ (List.mem_of_getElem? (i := 12) rfl)) rfl), rfl, rfl⟩ (
  jx_c ⟨(jW (jm_2 _ (List.mem_of_getElem? (i := 5) rfl)) rfl), rfl, rfl⟩ (
  jx_c ⟨(jW (jm_2 _ (List.mem_of_getElem? (i := 60) rfl)) rfl), rfl, rfl⟩ (
  jx_c ⟨(jW (jm_1 _ (List.mem_of_getElem? (i := 25) rfl)) rfl), rfl, rfl⟩ (
  jx_c ⟨(jW (jm_4 _ (List.mem_of_getElem? (i := 196) rfl)) rfl), rfl, rfl⟩ (
  jx_e)))))))))))))) b h
theorem jt_cl_at {b : Nat} (h : b < jt_C.length) : jt_cl[b]? = some (jt_C.getD b "", jt_T b, jt_n b) := by
  have h' : b < 13 := h
  unfold jt_cl
  rw [List.getElem?_map, List.getElem?_range h']
  rfl
theorem jt_descB : (List.range 13).all (fun b => (List.range (jt_n b)).all (fun k => decide (parseFieldDescriptor (jt_T b k).2.2.1 = some (jt_ft b k)) && decide (defaultValue (jt_ft b k) = if jt_rf b k = true then Value.null else .int 0))) = true := by decide +kernel
theorem jt_desc {b : Nat} (h : b < jt_C.length) : ∀ k, k < jt_n b → parseFieldDescriptor (jt_T b k).2.2.1 = some (jt_ft b k) := fun k hk =>
  of_decide_eq_true (jx_and (List.all_eq_true.mp (List.all_eq_true.mp jt_descB b (List.mem_range.mpr h)) k (List.mem_range.mpr hk))).1
theorem jt_dflt {b : Nat} (h : b < jt_C.length) : ∀ k, k < jt_n b → defaultValue (jt_ft b k) = if jt_rf b k = true then Value.null else .int 0 := fun k hk =>
  of_decide_eq_true (jx_and (List.all_eq_true.mp (List.all_eq_true.mp jt_descB b (List.mem_range.mpr h)) k (List.mem_range.mpr hk))).2
theorem jt_namesB : (List.range 13).all (fun b => (List.range (jt_n b)).all (fun x => (List.range (jt_n b)).all (fun y => decide (x = y) || decide ((jt_T b x).2.1 ≠ (jt_T b y).2.1)))) = true := by decide +kernel
theorem jt_names {b : Nat} (h : b < jt_C.length) : ∀ x, x < jt_n b → ∀ y, y < jt_n b → x ≠ y → (jt_T b x).2.1 ≠ (jt_T b y).2.1 := fun x hx y hy hxy => by
  have a := List.all_eq_true.mp (List.all_eq_true.mp (List.all_eq_true.mp jt_namesB b (List.mem_range.mpr h)) x (List.mem_range.mpr hx)) y (List.mem_range.mpr hy)
  rw [decide_eq_false hxy, Bool.false_or] at a
  exact of_decide_eq_true a
theorem jt_iniB : (List.range (jt_law + 1)).all (fun y => !jt_ini.getD y false || decide ((jt_N y).name = "<init>")) = true := by decide +kernel
theorem jt_ini_ok {y : Nat} (h : jt_ini.getD y false = true) : (jt_N y).name = "<init>" := by
  by_cases hy : y < jt_law + 1
  · have a := List.all_eq_true.mp jt_iniB y (List.mem_range.mpr hy)
    rw [h] at a
    exact of_decide_eq_true a
  · rw [List.getD_eq_getElem?_getD, List.getElem?_eq_none (by show jt_law + 1 ≤ y; omega)] at h
    cases h
theorem jl_0 : jx_All (fun w => w ∈ jt_W) (u_ws (jt_C.getD 0 "") (jt_T 0) (jt_n 0)) := jx_c (jW (jm_2 _ (List.mem_of_getElem? (i := 91) rfl)) rfl) (
  jx_c (jW (jm_2 _ (List.mem_of_getElem? (i := 93) rfl)) rfl) (
  jx_c (jW (jm_2 _ (List.mem_of_getElem? (i := 95) rfl)) rfl) (
  jx_c (jW (jm_2 _ (List.mem_of_getElem? (i := 97) rfl)) rfl) (
  jx_c (jW (jm_2 _ (List.mem_of_getElem? (i := 99) rfl)) rfl) (
  jx_c (jW (jm_2 _ (List.mem_of_getElem? (i := 101) rfl)) rfl) (
  jx_c (jW (jm_2 _ (List.mem_of_getElem? (i := 103) rfl)) rfl) (
  jx_c (jW (jm_2 _ (List.mem_of_getElem? (i := 105) rfl)) rfl) (
  jx_c (jW (jm_2 _ (List.mem_of_getElem? (i := 107) rfl)) rfl) (
  jx_e)))))))))
theorem jl_1 : jx_All (fun w => w ∈ jt_W) (u_ws (jt_C.getD 1 "") (jt_T 1) (jt_n 1)) := jx_c (jW (jm_1 _ (List.mem_of_getElem? (i := 38) rfl)) rfl) (
  jx_c (jW (jm_1 _ (List.mem_of_getElem? (i := 40) rfl)) rfl) (
  jx_e))
theorem jl_2 : jx_All (fun w => w ∈ jt_W) (u_ws (jt_C.getD 2 "") (jt_T 2) (jt_n 2)) := jx_c (jW (jm_1 _ (List.mem_of_getElem? (i := 118) rfl)) rfl) (
  jx_c (jW (jm_1 _ (List.mem_of_getElem? (i := 120) rfl)) rfl) (
  jx_e))
theorem jl_3 : jx_All (fun w => w ∈ jt_W) (u_ws (jt_C.getD 3 "") (jt_T 3) (jt_n 3)) := jx_c (jW (jm_1 _ (List.mem_of_getElem? (i := 89) rfl)) rfl) (
  jx_c (jW (jm_1 _ (List.mem_of_getElem? (i := 91) rfl)) rfl) (
  jx_c (jW (jm_1 _ (List.mem_of_getElem? (i := 93) rfl)) rfl) (
  jx_c (jW (jm_1 _ (List.mem_of_getElem? (i := 95) rfl)) rfl) (
  jx_c (jW (jm_1 _ (List.mem_of_getElem? (i := 97) rfl)) rfl) (
  jx_c (jW (jm_1 _ (List.mem_of_getElem? (i := 99) rfl)) rfl) (
  jx_c (jW (jm_1 _ (List.mem_of_getElem? (i := 101) rfl)) rfl) (
  jx_c (jW (jm_1 _ (List.mem_of_getElem? (i := 103) rfl)) rfl) (
  jx_c (jW (jm_1 _ (List.mem_of_getElem? (i := 105) rfl)) rfl) (
  jx_c (jW (jm_1 _ (List.mem_of_getElem? (i := 107) rfl)) rfl) (
  jx_c (jW (jm_1 _ (List.mem_of_getElem? (i := 109) rfl)) rfl) (
  jx_c (jW (jm_1 _ (List.mem_of_getElem? (i := 111) rfl)) rfl) (
  jx_c (jW (jm_1 _ (List.mem_of_getElem? (i := 113) rfl)) rfl) (
  jx_e)))))))))))))
theorem jl_4 : jx_All (fun w => w ∈ jt_W) (u_ws (jt_C.getD 4 "") (jt_T 4) (jt_n 4)) := jx_c (jW (jm_1 _ (List.mem_of_getElem? (i := 153) rfl)) rfl) (
  jx_c (jW (jm_1 _ (List.mem_of_getElem? (i := 155) rfl)) rfl) (
  jx_c (jW (jm_1 _ (List.mem_of_getElem? (i := 157) rfl)) rfl) (
  jx_c (jW (jm_1 _ (List.mem_of_getElem? (i := 159) rfl)) rfl) (
  jx_c (jW (jm_1 _ (List.mem_of_getElem? (i := 161) rfl)) rfl) (
  jx_c (jW (jm_1 _ (List.mem_of_getElem? (i := 163) rfl)) rfl) (
  jx_c (jW (jm_1 _ (List.mem_of_getElem? (i := 165) rfl)) rfl) (
  jx_e)))))))
theorem jl_5 : jx_All (fun w => w ∈ jt_W) (u_ws (jt_C.getD 5 "") (jt_T 5) (jt_n 5)) := jx_c (jW (jm_1 _ (List.mem_of_getElem? (i := 138) rfl)) rfl) (
  jx_c (jW (jm_1 _ (List.mem_of_getElem? (i := 140) rfl)) rfl) (
  jx_c (jW (jm_1 _ (List.mem_of_getElem? (i := 142) rfl)) rfl) (
  jx_e)))
theorem jl_6 : jx_All (fun w => w ∈ jt_W) (u_ws (jt_C.getD 6 "") (jt_T 6) (jt_n 6)) := jx_c (jW (jm_1 _ (List.mem_of_getElem? (i := 235) rfl)) rfl) (
  jx_c (jW (jm_1 _ (List.mem_of_getElem? (i := 237) rfl)) rfl) (
  jx_c (jW (jm_1 _ (List.mem_of_getElem? (i := 239) rfl)) rfl) (
  jx_e)))
theorem jl_7 : jx_All (fun w => w ∈ jt_W) (u_ws (jt_C.getD 7 "") (jt_T 7) (jt_n 7)) := jx_c (jW (jm_1 _ (List.mem_of_getElem? (i := 219) rfl)) rfl) (
  jx_c (jW (jm_1 _ (List.mem_of_getElem? (i := 221) rfl)) rfl) (
  jx_c (jW (jm_1 _ (List.mem_of_getElem? (i := 223) rfl)) rfl) (
  jx_c (jW (jm_1 _ (List.mem_of_getElem? (i := 225) rfl)) rfl) (
  jx_c (jW (jm_1 _ (List.mem_of_getElem? (i := 227) rfl)) rfl) (
  jx_c (jW (jm_1 _ (List.mem_of_getElem? (i := 229) rfl)) rfl) (
  jx_e))))))
theorem jl_8 : jx_All (fun w => w ∈ jt_W) (u_ws (jt_C.getD 8 "") (jt_T 8) (jt_n 8)) := jx_c (jW (jm_1 _ (List.mem_of_getElem? (i := 195) rfl)) rfl) (
  jx_c (jW (jm_1 _ (List.mem_of_getElem? (i := 197) rfl)) rfl) (
  jx_c (jW (jm_1 _ (List.mem_of_getElem? (i := 199) rfl)) rfl) (
  jx_c (jW (jm_1 _ (List.mem_of_getElem? (i := 201) rfl)) rfl) (
  jx_e))))
theorem jl_9 : jx_All (fun w => w ∈ jt_W) (u_ws (jt_C.getD 9 "") (jt_T 9) (jt_n 9)) := jx_c (jW (jm_2 _ (List.mem_of_getElem? (i := 40) rfl)) rfl) (
  jx_c (jW (jm_2 _ (List.mem_of_getElem? (i := 42) rfl)) rfl) (
  jx_c (jW (jm_2 _ (List.mem_of_getElem? (i := 44) rfl)) rfl) (
  jx_c (jW (jm_2 _ (List.mem_of_getElem? (i := 46) rfl)) rfl) (
  jx_c (jW (jm_2 _ (List.mem_of_getElem? (i := 48) rfl)) rfl) (
  jx_c (jW (jm_2 _ (List.mem_of_getElem? (i := 50) rfl)) rfl) (
  jx_c (jW (jm_2 _ (List.mem_of_getElem? (i := 52) rfl)) rfl) (
  jx_c (jW (jm_2 _ (List.mem_of_getElem? (i := 54) rfl)) rfl) (
  jx_e))))))))
theorem jl_10 : jx_All (fun w => w ∈ jt_W) (u_ws (jt_C.getD 10 "") (jt_T 10) (jt_n 10)) := jx_c (jW (jm_2 _ (List.mem_of_getElem? (i := 23) rfl)) rfl) (
  jx_c (jW (jm_2 _ (List.mem_of_getElem? (i := 25) rfl)) rfl) (
  jx_c (jW (jm_2 _ (List.mem_of_getElem? (i := 27) rfl)) rfl) (
  jx_c (jW (jm_2 _ (List.mem_of_getElem? (i := 29) rfl)) rfl) (
  jx_e))))
theorem jl_11 : jx_All (fun w => w ∈ jt_W) (u_ws (jt_C.getD 11 "") (jt_T 11) (jt_n 11)) := jx_c (jW (jm_2 _ (List.mem_of_getElem? (i := 69) rfl)) rfl) (
  jx_c (jW (jm_2 _ (List.mem_of_getElem? (i := 71) rfl)) rfl) (
  jx_c (jW (jm_2 _ (List.mem_of_getElem? (i := 73) rfl)) rfl) (
  jx_c (jW (jm_2 _ (List.mem_of_getElem? (i := 75) rfl)) rfl) (
  jx_c (jW (jm_2 _ (List.mem_of_getElem? (i := 77) rfl)) rfl) (
  jx_c (jW (jm_2 _ (List.mem_of_getElem? (i := 79) rfl)) rfl) (
  jx_e))))))
theorem jl_12 : jx_All (fun w => w ∈ jt_W) (u_ws (jt_C.getD 12 "") (jt_T 12) (jt_n 12)) := jx_c (jW (jm_5 _ (List.mem_of_getElem? (i := 5) rfl)) rfl) (
  jx_c (jW (jm_5 _ (List.mem_of_getElem? (i := 7) rfl)) rfl) (
  jx_c (jW (jm_5 _ (List.mem_of_getElem? (i := 9) rfl)) rfl) (
  jx_c (jW (jm_5 _ (List.mem_of_getElem? (i := 11) rfl)) rfl) (
  jx_c (jW (jm_5 _ (List.mem_of_getElem? (i := 13) rfl)) rfl) (
  jx_c (jW (jm_5 _ (List.mem_of_getElem? (i := 15) rfl)) rfl) (
  jx_c (jW (jm_5 _ (List.mem_of_getElem? (i := 17) rfl)) rfl) (
  jx_c (jW (jm_5 _ (List.mem_of_getElem? (i := 19) rfl)) rfl) (
  jx_c (jW (jm_5 _ (List.mem_of_getElem? (i := 21) rfl)) rfl) (
  jx_c (jW (jm_5 _ (List.mem_of_getElem? (i := 23) rfl)) rfl) (
  jx_c (jW (jm_5 _ (List.mem_of_getElem? (i := 25) rfl)) rfl) (
  jx_c (jW (jm_5 _ (List.mem_of_getElem? (i := 27) rfl)) rfl) (
  jx_c (jW (jm_5 _ (List.mem_of_getElem? (i := 29) rfl)) rfl) (
  jx_c (jW (jm_5 _ (List.mem_of_getElem? (i := 31) rfl)) rfl) (
  jx_c (jW (jm_5 _ (List.mem_of_getElem? (i := 33) rfl)) rfl) (
  jx_c (jW (jm_5 _ (List.mem_of_getElem? (i := 35) rfl)) rfl) (
  jx_c (jW (jm_5 _ (List.mem_of_getElem? (i := 37) rfl)) rfl) (
  jx_c (jW (jm_5 _ (List.mem_of_getElem? (i := 39) rfl)) rfl) (
  jx_c (jW (jm_5 _ (List.mem_of_getElem? (i := 41) rfl)) rfl) (
  jx_c (jW (jm_5 _ (List.mem_of_getElem? (i := 43) rfl)) rfl) (
  jx_c (jW (jm_5 _ (List.mem_of_getElem? (i := 45) rfl)) rfl) (
  jx_c (jW (jm_5 _ (List.mem_of_getElem? (i := 47) rfl)) rfl) (
  jx_c (jW (jm_5 _ (List.mem_of_getElem? (i := 49) rfl)) rfl) (
  jx_c (jW (jm_5 _ (List.mem_of_getElem? (i := 51) rfl)) rfl) (
  jx_c (jW (jm_5 _ (List.mem_of_getElem? (i := 53) rfl)) rfl) (
  jx_c (jW (jm_5 _ (List.mem_of_getElem? (i := 55) rfl)) rfl) (
  jx_c (jW (jm_5 _ (List.mem_of_getElem? (i := 57) rfl)) rfl) (
  jx_c (jW (jm_5 _ (List.mem_of_getElem? (i := 59) rfl)) rfl) (
  jx_c (jW (jm_5 _ (List.mem_of_getElem? (i := 61) rfl)) rfl) (
  jx_c (jW (jm_5 _ (List.mem_of_getElem? (i := 63) rfl)) rfl) (
  jx_c (jW (jm_5 _ (List.mem_of_getElem? (i := 65) rfl)) rfl) (
  jx_c (jW (jm_5 _ (List.mem_of_getElem? (i := 67) rfl)) rfl) (
  jx_c (jW (jm_5 _ (List.mem_of_getElem? (i := 69) rfl)) rfl) (
  jx_c (jW (jm_5 _ (List.mem_of_getElem? (i := 71) rfl)) rfl) (
  jx_c (jW (jm_5 _ (List.mem_of_getElem? (i := 73) rfl)) rfl) (
  jx_c (jW (jm_5 _ (List.mem_of_getElem? (i := 75) rfl)) rfl) (
  jx_c (jW (jm_5 _ (List.mem_of_getElem? (i := 77) rfl)) rfl) (
  jx_c (jW (jm_5 _ (List.mem_of_getElem? (i := 79) rfl)) rfl) (
  jx_c (jW (jm_5 _ (List.mem_of_getElem? (i := 81) rfl)) rfl) (
  jx_c (jW (jm_5 _ (List.mem_of_getElem? (i := 83) rfl)) rfl) (
  jx_c (jW (jm_5 _ (List.mem_of_getElem? (i := 85) rfl)) rfl) (
  jx_c (jW (jm_5 _ (List.mem_of_getElem? (i := 87) rfl)) rfl) (
  jx_c (jW (jm_5 _ (List.mem_of_getElem? (i := 89) rfl)) rfl) (
  jx_c (jW (jm_5 _ (List.mem_of_getElem? (i := 91) rfl)) rfl) (
  jx_c (jW (jm_5 _ (List.mem_of_getElem? (i := 93) rfl)) rfl) (
  jx_c (jW (jm_5 _ (List.mem_of_getElem? (i := 95) rfl)) rfl) (
  jx_e))))))))))))))))))))))))))))))))))))))))))))))
theorem jt_lays : ∀ {b : Nat}, b < jt_C.length → ∀ w ∈ u_ws (jt_C.getD b "") (jt_T b) (jt_n b), w ∈ jt_W
  | 0, _ => jx_all jl_0
  | 1, _ => jx_all jl_1
  | 2, _ => jx_all jl_2
  | 3, _ => jx_all jl_3
  | 4, _ => jx_all jl_4
  | 5, _ => jx_all jl_5
  | 6, _ => jx_all jl_6
  | 7, _ => jx_all jl_7
  | 8, _ => jx_all jl_8
  | 9, _ => jx_all jl_9
  | 10, _ => jx_all jl_10
  | 11, _ => jx_all jl_11
  | 12, _ => jx_all jl_12
  | b + 13, h => absurd h (by show ¬ b + 13 < 13; omega)
