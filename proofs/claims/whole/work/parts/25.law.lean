/-! The law's loop, out of one contract a call: the class's answer, then the reference's, the same. -/
def zo (R : zM → Prop) (xs : jx_Xs) (yc ym : Nat) (as : List Value) : Prop := ∀ m, R m → ez xs yc 0 (jx_ent yc (.ref 0 :: as)) [] m (fun r m1 => ∃ v, r = some (.int v) ∧ ez xs ym 0 (jx_ent ym (.ref 131 :: as)) [] m1 (fun r2 m2 => r2 = some (.int v) ∧ R m2))
def zov (R : zM → Prop) (xs : jx_Xs) (yc ym : Nat) (as : List Value) : Prop := ∀ m, R m → ez xs yc 0 (jx_ent yc (.ref 0 :: as)) [] m (fun r m1 => r = none ∧ ez xs ym 0 (jx_ent ym (.ref 131 :: as)) [] m1 (fun r2 m2 => r2 = none ∧ R m2))
set_option maxRecDepth 100000 in
set_option maxHeartbeats 4000000 in
theorem zl_0 {R : zM → Prop} {N i : Nat} {xf : Nat → Int32} {m : zM} {Q : Option Value → zM → Prop} (hN : N ≤ 3072) (hi : i + 6 ≤ N) (hop : zo R (N, xf) 15 16 [.int ((xf (i + 1)).toUInt32 % 65536).toInt32]) (hR : R m) (cont : ∀ m, R m → ez (N, xf) 179 527 [some (.ref 4000000), some (.ref 0), some (.ref 131), some (.int (nI i))] [] m Q) : ez (N, xf) 179 108 [some (.ref 4000000), some (.ref 0), some (.ref 131), some (.int (nI i))] [] m Q := by
  refine ez_blk 5 rfl ?_
  show ez (N, xf) 179 113 [some (.ref 4000000), some (.ref 0), some (.ref 131), some (.int (nI i))] [.int (nI i + 1), .ref 4000000, .ref 0] m Q
  refine ez_sld (j := i + 1) rfl (nI_add i 1) (by omega) (by omega) ?_
  show ez (N, xf) 179 114 [some (.ref 4000000), some (.ref 0), some (.ref 131), some (.int (nI i))] [.int (xf (i + 1)), .ref 0] m Q
  refine ez_blk 1 rfl ?_
  show ez (N, xf) 179 115 [some (.ref 4000000), some (.ref 0), some (.ref 131), some (.int (nI i))] [.int ((xf (i + 1)).toUInt32 % 65536).toInt32, .ref 0] m Q
  refine ez_call (as := [.ref 0, .int ((xf (i + 1)).toUInt32 % 65536).toInt32]) (rest := []) rfl (by decide) rfl ?_
  refine ez_mono (hop m hR) (fun r1 m1 h1 => ?_)
  obtain ⟨v, rfl, h2⟩ := h1
  show ez (N, xf) 179 118 [some (.ref 4000000), some (.ref 0), some (.ref 131), some (.int (nI i))] [.int v] m1 Q
  refine ez_blk 5 rfl ?_
  show ez (N, xf) 179 123 [some (.ref 4000000), some (.ref 0), some (.ref 131), some (.int (nI i))] [.int (nI i + 1), .ref 4000000, .ref 131, .int v] m1 Q
  refine ez_sld (j := i + 1) rfl (nI_add i 1) (by omega) (by omega) ?_
  show ez (N, xf) 179 124 [some (.ref 4000000), some (.ref 0), some (.ref 131), some (.int (nI i))] [.int (xf (i + 1)), .ref 131, .int v] m1 Q
  refine ez_blk 1 rfl ?_
  show ez (N, xf) 179 125 [some (.ref 4000000), some (.ref 0), some (.ref 131), some (.int (nI i))] [.int ((xf (i + 1)).toUInt32 % 65536).toInt32, .ref 131, .int v] m1 Q
  refine ez_call (as := [.ref 131, .int ((xf (i + 1)).toUInt32 % 65536).toInt32]) (rest := [.int v]) rfl (by decide) rfl ?_
  refine ez_mono h2 (fun r2 m2 h3 => ?_)
  obtain ⟨rfl, hR⟩ := h3
  show ez (N, xf) 179 128 [some (.ref 4000000), some (.ref 0), some (.ref 131), some (.int (nI i))] [.int v, .int v] m2 Q
  refine ez_icmp_eq rfl (fun _ => ?_) (fun h => absurd rfl h)
  exact cont m2 hR
set_option maxRecDepth 100000 in
set_option maxHeartbeats 4000000 in
theorem zl_1 {R : zM → Prop} {N i : Nat} {xf : Nat → Int32} {m : zM} {Q : Option Value → zM → Prop} (hN : N ≤ 3072) (hi : i + 6 ≤ N) (hop : zov R (N, xf) 18 19 []) (hR : R m) (cont : ∀ m, R m → ez (N, xf) 179 527 [some (.ref 4000000), some (.ref 0), some (.ref 131), some (.int (nI i))] [] m Q) : ez (N, xf) 179 133 [some (.ref 4000000), some (.ref 0), some (.ref 131), some (.int (nI i))] [] m Q := by
  refine ez_blk 1 rfl ?_
  show ez (N, xf) 179 134 [some (.ref 4000000), some (.ref 0), some (.ref 131), some (.int (nI i))] [.ref 0] m Q
  refine ez_call (as := [.ref 0]) (rest := []) rfl (by decide) rfl ?_
  refine ez_mono (hop m hR) (fun r1 m1 h1 => ?_)
  obtain ⟨rfl, h2⟩ := h1
  show ez (N, xf) 179 137 [some (.ref 4000000), some (.ref 0), some (.ref 131), some (.int (nI i))] [] m1 Q
  refine ez_blk 1 rfl ?_
  show ez (N, xf) 179 138 [some (.ref 4000000), some (.ref 0), some (.ref 131), some (.int (nI i))] [.ref 131] m1 Q
  refine ez_call (as := [.ref 131]) (rest := []) rfl (by decide) rfl ?_
  refine ez_mono h2 (fun r2 m2 h3 => ?_)
  obtain ⟨rfl, hR⟩ := h3
  show ez (N, xf) 179 141 [some (.ref 4000000), some (.ref 0), some (.ref 131), some (.int (nI i))] [] m2 Q
  refine ez_blk 1 rfl ?_
  show ez (N, xf) 179 527 [some (.ref 4000000), some (.ref 0), some (.ref 131), some (.int (nI i))] [] m2 Q
  exact cont m2 hR
set_option maxRecDepth 100000 in
set_option maxHeartbeats 4000000 in
theorem zl_2 {R : zM → Prop} {N i : Nat} {xf : Nat → Int32} {m : zM} {Q : Option Value → zM → Prop} (hN : N ≤ 3072) (hi : i + 6 ≤ N) (hop : zo R (N, xf) 21 22 []) (hR : R m) (cont : ∀ m, R m → ez (N, xf) 179 527 [some (.ref 4000000), some (.ref 0), some (.ref 131), some (.int (nI i))] [] m Q) : ez (N, xf) 179 144 [some (.ref 4000000), some (.ref 0), some (.ref 131), some (.int (nI i))] [] m Q := by
  refine ez_blk 1 rfl ?_
  show ez (N, xf) 179 145 [some (.ref 4000000), some (.ref 0), some (.ref 131), some (.int (nI i))] [.ref 0] m Q
  refine ez_call (as := [.ref 0]) (rest := []) rfl (by decide) rfl ?_
  refine ez_mono (hop m hR) (fun r1 m1 h1 => ?_)
  obtain ⟨v, rfl, h2⟩ := h1
  show ez (N, xf) 179 148 [some (.ref 4000000), some (.ref 0), some (.ref 131), some (.int (nI i))] [.int v] m1 Q
  refine ez_blk 1 rfl ?_
  show ez (N, xf) 179 149 [some (.ref 4000000), some (.ref 0), some (.ref 131), some (.int (nI i))] [.ref 131, .int v] m1 Q
  refine ez_call (as := [.ref 131]) (rest := [.int v]) rfl (by decide) rfl ?_
  refine ez_mono h2 (fun r2 m2 h3 => ?_)
  obtain ⟨rfl, hR⟩ := h3
  show ez (N, xf) 179 152 [some (.ref 4000000), some (.ref 0), some (.ref 131), some (.int (nI i))] [.int v, .int v] m2 Q
  refine ez_icmp_eq rfl (fun _ => ?_) (fun h => absurd rfl h)
  exact cont m2 hR
set_option maxRecDepth 100000 in
set_option maxHeartbeats 4000000 in
theorem zl_3 {R : zM → Prop} {N i : Nat} {xf : Nat → Int32} {m : zM} {Q : Option Value → zM → Prop} (hN : N ≤ 3072) (hi : i + 6 ≤ N) (hop : zo R (N, xf) 25 26 [.int (xf (i + 1))]) (hR : R m) (cont : ∀ m, R m → ez (N, xf) 179 527 [some (.ref 4000000), some (.ref 0), some (.ref 131), some (.int (nI i))] [] m Q) : ez (N, xf) 179 157 [some (.ref 4000000), some (.ref 0), some (.ref 131), some (.int (nI i))] [] m Q := by
  refine ez_blk 5 rfl ?_
  show ez (N, xf) 179 162 [some (.ref 4000000), some (.ref 0), some (.ref 131), some (.int (nI i))] [.int (nI i + 1), .ref 4000000, .ref 0] m Q
  refine ez_sld (j := i + 1) rfl (nI_add i 1) (by omega) (by omega) ?_
  show ez (N, xf) 179 163 [some (.ref 4000000), some (.ref 0), some (.ref 131), some (.int (nI i))] [.int (xf (i + 1)), .ref 0] m Q
  refine ez_call (as := [.ref 0, .int (xf (i + 1))]) (rest := []) rfl (by decide) rfl ?_
  refine ez_mono (hop m hR) (fun r1 m1 h1 => ?_)
  obtain ⟨v, rfl, h2⟩ := h1
  show ez (N, xf) 179 166 [some (.ref 4000000), some (.ref 0), some (.ref 131), some (.int (nI i))] [.int v] m1 Q
  refine ez_blk 5 rfl ?_
  show ez (N, xf) 179 171 [some (.ref 4000000), some (.ref 0), some (.ref 131), some (.int (nI i))] [.int (nI i + 1), .ref 4000000, .ref 131, .int v] m1 Q
  refine ez_sld (j := i + 1) rfl (nI_add i 1) (by omega) (by omega) ?_
  show ez (N, xf) 179 172 [some (.ref 4000000), some (.ref 0), some (.ref 131), some (.int (nI i))] [.int (xf (i + 1)), .ref 131, .int v] m1 Q
  refine ez_call (as := [.ref 131, .int (xf (i + 1))]) (rest := [.int v]) rfl (by decide) rfl ?_
  refine ez_mono h2 (fun r2 m2 h3 => ?_)
  obtain ⟨rfl, hR⟩ := h3
  show ez (N, xf) 179 175 [some (.ref 4000000), some (.ref 0), some (.ref 131), some (.int (nI i))] [.int v, .int v] m2 Q
  refine ez_icmp_eq rfl (fun _ => ?_) (fun h => absurd rfl h)
  exact cont m2 hR
set_option maxRecDepth 100000 in
set_option maxHeartbeats 4000000 in
theorem zl_4 {R : zM → Prop} {N i : Nat} {xf : Nat → Int32} {m : zM} {Q : Option Value → zM → Prop} (hN : N ≤ 3072) (hi : i + 6 ≤ N) (hop : zo R (N, xf) 60 72 []) (hR : R m) (cont : ∀ m, R m → ez (N, xf) 179 527 [some (.ref 4000000), some (.ref 0), some (.ref 131), some (.int (nI i))] [] m Q) : ez (N, xf) 179 180 [some (.ref 4000000), some (.ref 0), some (.ref 131), some (.int (nI i))] [] m Q := by
  refine ez_blk 1 rfl ?_
  show ez (N, xf) 179 181 [some (.ref 4000000), some (.ref 0), some (.ref 131), some (.int (nI i))] [.ref 0] m Q
  refine ez_call (as := [.ref 0]) (rest := []) rfl (by decide) rfl ?_
  refine ez_mono (hop m hR) (fun r1 m1 h1 => ?_)
  obtain ⟨v, rfl, h2⟩ := h1
  show ez (N, xf) 179 184 [some (.ref 4000000), some (.ref 0), some (.ref 131), some (.int (nI i))] [.int v] m1 Q
  refine ez_blk 1 rfl ?_
  show ez (N, xf) 179 185 [some (.ref 4000000), some (.ref 0), some (.ref 131), some (.int (nI i))] [.ref 131, .int v] m1 Q
  refine ez_call (as := [.ref 131]) (rest := [.int v]) rfl (by decide) rfl ?_
  refine ez_mono h2 (fun r2 m2 h3 => ?_)
  obtain ⟨rfl, hR⟩ := h3
  show ez (N, xf) 179 188 [some (.ref 4000000), some (.ref 0), some (.ref 131), some (.int (nI i))] [.int v, .int v] m2 Q
  refine ez_icmp_eq rfl (fun _ => ?_) (fun h => absurd rfl h)
  exact cont m2 hR
set_option maxRecDepth 100000 in
set_option maxHeartbeats 4000000 in
theorem zl_5 {R : zM → Prop} {N i : Nat} {xf : Nat → Int32} {m : zM} {Q : Option Value → zM → Prop} (hN : N ≤ 3072) (hi : i + 6 ≤ N) (hop : zo R (N, xf) 75 76 [.int (xf (i + 1)), .int (xf (i + 2))]) (hR : R m) (cont : ∀ m, R m → ez (N, xf) 179 527 [some (.ref 4000000), some (.ref 0), some (.ref 131), some (.int (nI i))] [] m Q) : ez (N, xf) 179 193 [some (.ref 4000000), some (.ref 0), some (.ref 131), some (.int (nI i))] [] m Q := by
  refine ez_blk 5 rfl ?_
  show ez (N, xf) 179 198 [some (.ref 4000000), some (.ref 0), some (.ref 131), some (.int (nI i))] [.int (nI i + 1), .ref 4000000, .ref 0] m Q
  refine ez_sld (j := i + 1) rfl (nI_add i 1) (by omega) (by omega) ?_
  show ez (N, xf) 179 199 [some (.ref 4000000), some (.ref 0), some (.ref 131), some (.int (nI i))] [.int (xf (i + 1)), .ref 0] m Q
  refine ez_blk 4 rfl ?_
  show ez (N, xf) 179 203 [some (.ref 4000000), some (.ref 0), some (.ref 131), some (.int (nI i))] [.int (nI i + 2), .ref 4000000, .int (xf (i + 1)), .ref 0] m Q
  refine ez_sld (j := i + 2) rfl (nI_add i 2) (by omega) (by omega) ?_
  show ez (N, xf) 179 204 [some (.ref 4000000), some (.ref 0), some (.ref 131), some (.int (nI i))] [.int (xf (i + 2)), .int (xf (i + 1)), .ref 0] m Q
  refine ez_call (as := [.ref 0, .int (xf (i + 1)), .int (xf (i + 2))]) (rest := []) rfl (by decide) rfl ?_
  refine ez_mono (hop m hR) (fun r1 m1 h1 => ?_)
  obtain ⟨v, rfl, h2⟩ := h1
  show ez (N, xf) 179 207 [some (.ref 4000000), some (.ref 0), some (.ref 131), some (.int (nI i))] [.int v] m1 Q
  refine ez_blk 5 rfl ?_
  show ez (N, xf) 179 212 [some (.ref 4000000), some (.ref 0), some (.ref 131), some (.int (nI i))] [.int (nI i + 1), .ref 4000000, .ref 131, .int v] m1 Q
  refine ez_sld (j := i + 1) rfl (nI_add i 1) (by omega) (by omega) ?_
  show ez (N, xf) 179 213 [some (.ref 4000000), some (.ref 0), some (.ref 131), some (.int (nI i))] [.int (xf (i + 1)), .ref 131, .int v] m1 Q
  refine ez_blk 4 rfl ?_
  show ez (N, xf) 179 217 [some (.ref 4000000), some (.ref 0), some (.ref 131), some (.int (nI i))] [.int (nI i + 2), .ref 4000000, .int (xf (i + 1)), .ref 131, .int v] m1 Q
  refine ez_sld (j := i + 2) rfl (nI_add i 2) (by omega) (by omega) ?_
  show ez (N, xf) 179 218 [some (.ref 4000000), some (.ref 0), some (.ref 131), some (.int (nI i))] [.int (xf (i + 2)), .int (xf (i + 1)), .ref 131, .int v] m1 Q
  refine ez_call (as := [.ref 131, .int (xf (i + 1)), .int (xf (i + 2))]) (rest := [.int v]) rfl (by decide) rfl ?_
  refine ez_mono h2 (fun r2 m2 h3 => ?_)
  obtain ⟨rfl, hR⟩ := h3
  show ez (N, xf) 179 221 [some (.ref 4000000), some (.ref 0), some (.ref 131), some (.int (nI i))] [.int v, .int v] m2 Q
  refine ez_icmp_eq rfl (fun _ => ?_) (fun h => absurd rfl h)
  exact cont m2 hR
set_option maxRecDepth 100000 in
set_option maxHeartbeats 4000000 in
theorem zl_6 {R : zM → Prop} {N i : Nat} {xf : Nat → Int32} {m : zM} {Q : Option Value → zM → Prop} (hN : N ≤ 3072) (hi : i + 6 ≤ N) (hop : zo R (N, xf) 77 78 [.int (xf (i + 1))]) (hR : R m) (cont : ∀ m, R m → ez (N, xf) 179 527 [some (.ref 4000000), some (.ref 0), some (.ref 131), some (.int (nI i))] [] m Q) : ez (N, xf) 179 226 [some (.ref 4000000), some (.ref 0), some (.ref 131), some (.int (nI i))] [] m Q := by
  refine ez_blk 5 rfl ?_
  show ez (N, xf) 179 231 [some (.ref 4000000), some (.ref 0), some (.ref 131), some (.int (nI i))] [.int (nI i + 1), .ref 4000000, .ref 0] m Q
  refine ez_sld (j := i + 1) rfl (nI_add i 1) (by omega) (by omega) ?_
  show ez (N, xf) 179 232 [some (.ref 4000000), some (.ref 0), some (.ref 131), some (.int (nI i))] [.int (xf (i + 1)), .ref 0] m Q
  refine ez_call (as := [.ref 0, .int (xf (i + 1))]) (rest := []) rfl (by decide) rfl ?_
  refine ez_mono (hop m hR) (fun r1 m1 h1 => ?_)
  obtain ⟨v, rfl, h2⟩ := h1
  show ez (N, xf) 179 235 [some (.ref 4000000), some (.ref 0), some (.ref 131), some (.int (nI i))] [.int v] m1 Q
  refine ez_blk 5 rfl ?_
  show ez (N, xf) 179 240 [some (.ref 4000000), some (.ref 0), some (.ref 131), some (.int (nI i))] [.int (nI i + 1), .ref 4000000, .ref 131, .int v] m1 Q
  refine ez_sld (j := i + 1) rfl (nI_add i 1) (by omega) (by omega) ?_
  show ez (N, xf) 179 241 [some (.ref 4000000), some (.ref 0), some (.ref 131), some (.int (nI i))] [.int (xf (i + 1)), .ref 131, .int v] m1 Q
  refine ez_call (as := [.ref 131, .int (xf (i + 1))]) (rest := [.int v]) rfl (by decide) rfl ?_
  refine ez_mono h2 (fun r2 m2 h3 => ?_)
  obtain ⟨rfl, hR⟩ := h3
  show ez (N, xf) 179 244 [some (.ref 4000000), some (.ref 0), some (.ref 131), some (.int (nI i))] [.int v, .int v] m2 Q
  refine ez_icmp_eq rfl (fun _ => ?_) (fun h => absurd rfl h)
  exact cont m2 hR
set_option maxRecDepth 100000 in
set_option maxHeartbeats 4000000 in
theorem zl_7 {R : zM → Prop} {N i : Nat} {xf : Nat → Int32} {m : zM} {Q : Option Value → zM → Prop} (hN : N ≤ 3072) (hi : i + 6 ≤ N) (hop0 : zo R (N, xf) 89 91 [.int 0, .int (xf (i + 2)), .int (xf (i + 3)), .int (xf (i + 4)), .int (xf (i + 5))]) (hop1 : zo R (N, xf) 89 91 [.int 1, .int (xf (i + 2)), .int (xf (i + 3)), .int (xf (i + 4)), .int (xf (i + 5))]) (hR : R m) (cont : ∀ m, R m → ez (N, xf) 179 527 [some (.ref 4000000), some (.ref 0), some (.ref 131), some (.int (nI i))] [] m Q) : ez (N, xf) 179 249 [some (.ref 4000000), some (.ref 0), some (.ref 131), some (.int (nI i))] [] m Q := by
  refine ez_blk 5 rfl ?_
  show ez (N, xf) 179 254 [some (.ref 4000000), some (.ref 0), some (.ref 131), some (.int (nI i))] [.int (nI i + 1), .ref 4000000, .ref 0] m Q
  refine ez_sld (j := i + 1) rfl (nI_add i 1) (by omega) (by omega) ?_
  show ez (N, xf) 179 255 [some (.ref 4000000), some (.ref 0), some (.ref 131), some (.int (nI i))] [.int (xf (i + 1)), .ref 0] m Q
  refine ez_if_eq rfl (fun hz => ?_) (fun hz => ?_)
  · show ez (N, xf) 179 262 [some (.ref 4000000), some (.ref 0), some (.ref 131), some (.int (nI i))] [.ref 0] m Q
    refine ez_blk 5 rfl ?_
    show ez (N, xf) 179 267 [some (.ref 4000000), some (.ref 0), some (.ref 131), some (.int (nI i))] [.int (nI i + 2), .ref 4000000, .int 0, .ref 0] m Q
    refine ez_sld (j := i + 2) rfl (nI_add i 2) (by omega) (by omega) ?_
    show ez (N, xf) 179 268 [some (.ref 4000000), some (.ref 0), some (.ref 131), some (.int (nI i))] [.int (xf (i + 2)), .int 0, .ref 0] m Q
    refine ez_blk 4 rfl ?_
    show ez (N, xf) 179 272 [some (.ref 4000000), some (.ref 0), some (.ref 131), some (.int (nI i))] [.int (nI i + 3), .ref 4000000, .int (xf (i + 2)), .int 0, .ref 0] m Q
    refine ez_sld (j := i + 3) rfl (nI_add i 3) (by omega) (by omega) ?_
    show ez (N, xf) 179 273 [some (.ref 4000000), some (.ref 0), some (.ref 131), some (.int (nI i))] [.int (xf (i + 3)), .int (xf (i + 2)), .int 0, .ref 0] m Q
    refine ez_blk 4 rfl ?_
    show ez (N, xf) 179 277 [some (.ref 4000000), some (.ref 0), some (.ref 131), some (.int (nI i))] [.int (nI i + 4), .ref 4000000, .int (xf (i + 3)), .int (xf (i + 2)), .int 0, .ref 0] m Q
    refine ez_sld (j := i + 4) rfl (nI_add i 4) (by omega) (by omega) ?_
    show ez (N, xf) 179 278 [some (.ref 4000000), some (.ref 0), some (.ref 131), some (.int (nI i))] [.int (xf (i + 4)), .int (xf (i + 3)), .int (xf (i + 2)), .int 0, .ref 0] m Q
    refine ez_blk 4 rfl ?_
    show ez (N, xf) 179 282 [some (.ref 4000000), some (.ref 0), some (.ref 131), some (.int (nI i))] [.int (nI i + 5), .ref 4000000, .int (xf (i + 4)), .int (xf (i + 3)), .int (xf (i + 2)), .int 0, .ref 0] m Q
    refine ez_sld (j := i + 5) rfl (nI_add i 5) (by omega) (by omega) ?_
    show ez (N, xf) 179 283 [some (.ref 4000000), some (.ref 0), some (.ref 131), some (.int (nI i))] [.int (xf (i + 5)), .int (xf (i + 4)), .int (xf (i + 3)), .int (xf (i + 2)), .int 0, .ref 0] m Q
    refine ez_call (as := [.ref 0, .int 0, .int (xf (i + 2)), .int (xf (i + 3)), .int (xf (i + 4)), .int (xf (i + 5))]) (rest := []) rfl (by decide) rfl ?_
    refine ez_mono (hop0 m hR) (fun r1 m1 h1 => ?_)
    obtain ⟨v, rfl, h2⟩ := h1
    show ez (N, xf) 179 286 [some (.ref 4000000), some (.ref 0), some (.ref 131), some (.int (nI i))] [.int v] m1 Q
    refine ez_blk 5 rfl ?_
    show ez (N, xf) 179 291 [some (.ref 4000000), some (.ref 0), some (.ref 131), some (.int (nI i))] [.int (nI i + 1), .ref 4000000, .ref 131, .int v] m1 Q
    refine ez_sld (j := i + 1) rfl (nI_add i 1) (by omega) (by omega) ?_
    show ez (N, xf) 179 292 [some (.ref 4000000), some (.ref 0), some (.ref 131), some (.int (nI i))] [.int (xf (i + 1)), .ref 131, .int v] m1 Q
    refine ez_if_eq rfl (fun _ => ?_) (fun h => absurd hz h)
    show ez (N, xf) 179 299 [some (.ref 4000000), some (.ref 0), some (.ref 131), some (.int (nI i))] [.ref 131, .int v] m1 Q
    refine ez_blk 5 rfl ?_
    show ez (N, xf) 179 304 [some (.ref 4000000), some (.ref 0), some (.ref 131), some (.int (nI i))] [.int (nI i + 2), .ref 4000000, .int 0, .ref 131, .int v] m1 Q
    refine ez_sld (j := i + 2) rfl (nI_add i 2) (by omega) (by omega) ?_
    show ez (N, xf) 179 305 [some (.ref 4000000), some (.ref 0), some (.ref 131), some (.int (nI i))] [.int (xf (i + 2)), .int 0, .ref 131, .int v] m1 Q
    refine ez_blk 4 rfl ?_
    show ez (N, xf) 179 309 [some (.ref 4000000), some (.ref 0), some (.ref 131), some (.int (nI i))] [.int (nI i + 3), .ref 4000000, .int (xf (i + 2)), .int 0, .ref 131, .int v] m1 Q
    refine ez_sld (j := i + 3) rfl (nI_add i 3) (by omega) (by omega) ?_
    show ez (N, xf) 179 310 [some (.ref 4000000), some (.ref 0), some (.ref 131), some (.int (nI i))] [.int (xf (i + 3)), .int (xf (i + 2)), .int 0, .ref 131, .int v] m1 Q
    refine ez_blk 4 rfl ?_
    show ez (N, xf) 179 314 [some (.ref 4000000), some (.ref 0), some (.ref 131), some (.int (nI i))] [.int (nI i + 4), .ref 4000000, .int (xf (i + 3)), .int (xf (i + 2)), .int 0, .ref 131, .int v] m1 Q
    refine ez_sld (j := i + 4) rfl (nI_add i 4) (by omega) (by omega) ?_
    show ez (N, xf) 179 315 [some (.ref 4000000), some (.ref 0), some (.ref 131), some (.int (nI i))] [.int (xf (i + 4)), .int (xf (i + 3)), .int (xf (i + 2)), .int 0, .ref 131, .int v] m1 Q
    refine ez_blk 4 rfl ?_
    show ez (N, xf) 179 319 [some (.ref 4000000), some (.ref 0), some (.ref 131), some (.int (nI i))] [.int (nI i + 5), .ref 4000000, .int (xf (i + 4)), .int (xf (i + 3)), .int (xf (i + 2)), .int 0, .ref 131, .int v] m1 Q
    refine ez_sld (j := i + 5) rfl (nI_add i 5) (by omega) (by omega) ?_
    show ez (N, xf) 179 320 [some (.ref 4000000), some (.ref 0), some (.ref 131), some (.int (nI i))] [.int (xf (i + 5)), .int (xf (i + 4)), .int (xf (i + 3)), .int (xf (i + 2)), .int 0, .ref 131, .int v] m1 Q
    refine ez_call (as := [.ref 131, .int 0, .int (xf (i + 2)), .int (xf (i + 3)), .int (xf (i + 4)), .int (xf (i + 5))]) (rest := [.int v]) rfl (by decide) rfl ?_
    refine ez_mono h2 (fun r2 m2 h3 => ?_)
    obtain ⟨rfl, hR⟩ := h3
    show ez (N, xf) 179 323 [some (.ref 4000000), some (.ref 0), some (.ref 131), some (.int (nI i))] [.int v, .int v] m2 Q
    refine ez_icmp_eq rfl (fun _ => ?_) (fun h => absurd rfl h)
    exact cont m2 hR
  · show ez (N, xf) 179 258 [some (.ref 4000000), some (.ref 0), some (.ref 131), some (.int (nI i))] [.ref 0] m Q
    refine ez_blk 6 rfl ?_
    show ez (N, xf) 179 267 [some (.ref 4000000), some (.ref 0), some (.ref 131), some (.int (nI i))] [.int (nI i + 2), .ref 4000000, .int 1, .ref 0] m Q
    refine ez_sld (j := i + 2) rfl (nI_add i 2) (by omega) (by omega) ?_
    show ez (N, xf) 179 268 [some (.ref 4000000), some (.ref 0), some (.ref 131), some (.int (nI i))] [.int (xf (i + 2)), .int 1, .ref 0] m Q
    refine ez_blk 4 rfl ?_
    show ez (N, xf) 179 272 [some (.ref 4000000), some (.ref 0), some (.ref 131), some (.int (nI i))] [.int (nI i + 3), .ref 4000000, .int (xf (i + 2)), .int 1, .ref 0] m Q
    refine ez_sld (j := i + 3) rfl (nI_add i 3) (by omega) (by omega) ?_
    show ez (N, xf) 179 273 [some (.ref 4000000), some (.ref 0), some (.ref 131), some (.int (nI i))] [.int (xf (i + 3)), .int (xf (i + 2)), .int 1, .ref 0] m Q
    refine ez_blk 4 rfl ?_
    show ez (N, xf) 179 277 [some (.ref 4000000), some (.ref 0), some (.ref 131), some (.int (nI i))] [.int (nI i + 4), .ref 4000000, .int (xf (i + 3)), .int (xf (i + 2)), .int 1, .ref 0] m Q
    refine ez_sld (j := i + 4) rfl (nI_add i 4) (by omega) (by omega) ?_
    show ez (N, xf) 179 278 [some (.ref 4000000), some (.ref 0), some (.ref 131), some (.int (nI i))] [.int (xf (i + 4)), .int (xf (i + 3)), .int (xf (i + 2)), .int 1, .ref 0] m Q
    refine ez_blk 4 rfl ?_
    show ez (N, xf) 179 282 [some (.ref 4000000), some (.ref 0), some (.ref 131), some (.int (nI i))] [.int (nI i + 5), .ref 4000000, .int (xf (i + 4)), .int (xf (i + 3)), .int (xf (i + 2)), .int 1, .ref 0] m Q
    refine ez_sld (j := i + 5) rfl (nI_add i 5) (by omega) (by omega) ?_
    show ez (N, xf) 179 283 [some (.ref 4000000), some (.ref 0), some (.ref 131), some (.int (nI i))] [.int (xf (i + 5)), .int (xf (i + 4)), .int (xf (i + 3)), .int (xf (i + 2)), .int 1, .ref 0] m Q
    refine ez_call (as := [.ref 0, .int 1, .int (xf (i + 2)), .int (xf (i + 3)), .int (xf (i + 4)), .int (xf (i + 5))]) (rest := []) rfl (by decide) rfl ?_
    refine ez_mono (hop1 m hR) (fun r1 m1 h1 => ?_)
    obtain ⟨v, rfl, h2⟩ := h1
    show ez (N, xf) 179 286 [some (.ref 4000000), some (.ref 0), some (.ref 131), some (.int (nI i))] [.int v] m1 Q
    refine ez_blk 5 rfl ?_
    show ez (N, xf) 179 291 [some (.ref 4000000), some (.ref 0), some (.ref 131), some (.int (nI i))] [.int (nI i + 1), .ref 4000000, .ref 131, .int v] m1 Q
    refine ez_sld (j := i + 1) rfl (nI_add i 1) (by omega) (by omega) ?_
    show ez (N, xf) 179 292 [some (.ref 4000000), some (.ref 0), some (.ref 131), some (.int (nI i))] [.int (xf (i + 1)), .ref 131, .int v] m1 Q
    refine ez_if_eq rfl (fun h => absurd h hz) (fun _ => ?_)
    show ez (N, xf) 179 295 [some (.ref 4000000), some (.ref 0), some (.ref 131), some (.int (nI i))] [.ref 131, .int v] m1 Q
    refine ez_blk 6 rfl ?_
    show ez (N, xf) 179 304 [some (.ref 4000000), some (.ref 0), some (.ref 131), some (.int (nI i))] [.int (nI i + 2), .ref 4000000, .int 1, .ref 131, .int v] m1 Q
    refine ez_sld (j := i + 2) rfl (nI_add i 2) (by omega) (by omega) ?_
    show ez (N, xf) 179 305 [some (.ref 4000000), some (.ref 0), some (.ref 131), some (.int (nI i))] [.int (xf (i + 2)), .int 1, .ref 131, .int v] m1 Q
    refine ez_blk 4 rfl ?_
    show ez (N, xf) 179 309 [some (.ref 4000000), some (.ref 0), some (.ref 131), some (.int (nI i))] [.int (nI i + 3), .ref 4000000, .int (xf (i + 2)), .int 1, .ref 131, .int v] m1 Q
    refine ez_sld (j := i + 3) rfl (nI_add i 3) (by omega) (by omega) ?_
    show ez (N, xf) 179 310 [some (.ref 4000000), some (.ref 0), some (.ref 131), some (.int (nI i))] [.int (xf (i + 3)), .int (xf (i + 2)), .int 1, .ref 131, .int v] m1 Q
    refine ez_blk 4 rfl ?_
    show ez (N, xf) 179 314 [some (.ref 4000000), some (.ref 0), some (.ref 131), some (.int (nI i))] [.int (nI i + 4), .ref 4000000, .int (xf (i + 3)), .int (xf (i + 2)), .int 1, .ref 131, .int v] m1 Q
    refine ez_sld (j := i + 4) rfl (nI_add i 4) (by omega) (by omega) ?_
    show ez (N, xf) 179 315 [some (.ref 4000000), some (.ref 0), some (.ref 131), some (.int (nI i))] [.int (xf (i + 4)), .int (xf (i + 3)), .int (xf (i + 2)), .int 1, .ref 131, .int v] m1 Q
    refine ez_blk 4 rfl ?_
    show ez (N, xf) 179 319 [some (.ref 4000000), some (.ref 0), some (.ref 131), some (.int (nI i))] [.int (nI i + 5), .ref 4000000, .int (xf (i + 4)), .int (xf (i + 3)), .int (xf (i + 2)), .int 1, .ref 131, .int v] m1 Q
    refine ez_sld (j := i + 5) rfl (nI_add i 5) (by omega) (by omega) ?_
    show ez (N, xf) 179 320 [some (.ref 4000000), some (.ref 0), some (.ref 131), some (.int (nI i))] [.int (xf (i + 5)), .int (xf (i + 4)), .int (xf (i + 3)), .int (xf (i + 2)), .int 1, .ref 131, .int v] m1 Q
    refine ez_call (as := [.ref 131, .int 1, .int (xf (i + 2)), .int (xf (i + 3)), .int (xf (i + 4)), .int (xf (i + 5))]) (rest := [.int v]) rfl (by decide) rfl ?_
    refine ez_mono h2 (fun r2 m2 h3 => ?_)
    obtain ⟨rfl, hR⟩ := h3
    show ez (N, xf) 179 323 [some (.ref 4000000), some (.ref 0), some (.ref 131), some (.int (nI i))] [.int v, .int v] m2 Q
    refine ez_icmp_eq rfl (fun _ => ?_) (fun h => absurd rfl h)
    exact cont m2 hR
set_option maxRecDepth 100000 in
set_option maxHeartbeats 4000000 in
theorem zl_8 {R : zM → Prop} {N i : Nat} {xf : Nat → Int32} {m : zM} {Q : Option Value → zM → Prop} (hN : N ≤ 3072) (hi : i + 6 ≤ N) (hop : zo R (N, xf) 99 104 [.int (xf (i + 1)), .int (xf (i + 2)), .int (xf (i + 3)), .int (xf (i + 4))]) (hR : R m) (cont : ∀ m, R m → ez (N, xf) 179 527 [some (.ref 4000000), some (.ref 0), some (.ref 131), some (.int (nI i))] [] m Q) : ez (N, xf) 179 328 [some (.ref 4000000), some (.ref 0), some (.ref 131), some (.int (nI i))] [] m Q := by
  refine ez_blk 5 rfl ?_
  show ez (N, xf) 179 333 [some (.ref 4000000), some (.ref 0), some (.ref 131), some (.int (nI i))] [.int (nI i + 1), .ref 4000000, .ref 0] m Q
  refine ez_sld (j := i + 1) rfl (nI_add i 1) (by omega) (by omega) ?_
  show ez (N, xf) 179 334 [some (.ref 4000000), some (.ref 0), some (.ref 131), some (.int (nI i))] [.int (xf (i + 1)), .ref 0] m Q
  refine ez_blk 4 rfl ?_
  show ez (N, xf) 179 338 [some (.ref 4000000), some (.ref 0), some (.ref 131), some (.int (nI i))] [.int (nI i + 2), .ref 4000000, .int (xf (i + 1)), .ref 0] m Q
  refine ez_sld (j := i + 2) rfl (nI_add i 2) (by omega) (by omega) ?_
  show ez (N, xf) 179 339 [some (.ref 4000000), some (.ref 0), some (.ref 131), some (.int (nI i))] [.int (xf (i + 2)), .int (xf (i + 1)), .ref 0] m Q
  refine ez_blk 4 rfl ?_
  show ez (N, xf) 179 343 [some (.ref 4000000), some (.ref 0), some (.ref 131), some (.int (nI i))] [.int (nI i + 3), .ref 4000000, .int (xf (i + 2)), .int (xf (i + 1)), .ref 0] m Q
  refine ez_sld (j := i + 3) rfl (nI_add i 3) (by omega) (by omega) ?_
  show ez (N, xf) 179 344 [some (.ref 4000000), some (.ref 0), some (.ref 131), some (.int (nI i))] [.int (xf (i + 3)), .int (xf (i + 2)), .int (xf (i + 1)), .ref 0] m Q
  refine ez_blk 4 rfl ?_
  show ez (N, xf) 179 348 [some (.ref 4000000), some (.ref 0), some (.ref 131), some (.int (nI i))] [.int (nI i + 4), .ref 4000000, .int (xf (i + 3)), .int (xf (i + 2)), .int (xf (i + 1)), .ref 0] m Q
  refine ez_sld (j := i + 4) rfl (nI_add i 4) (by omega) (by omega) ?_
  show ez (N, xf) 179 349 [some (.ref 4000000), some (.ref 0), some (.ref 131), some (.int (nI i))] [.int (xf (i + 4)), .int (xf (i + 3)), .int (xf (i + 2)), .int (xf (i + 1)), .ref 0] m Q
  refine ez_call (as := [.ref 0, .int (xf (i + 1)), .int (xf (i + 2)), .int (xf (i + 3)), .int (xf (i + 4))]) (rest := []) rfl (by decide) rfl ?_
  refine ez_mono (hop m hR) (fun r1 m1 h1 => ?_)
  obtain ⟨v, rfl, h2⟩ := h1
  show ez (N, xf) 179 352 [some (.ref 4000000), some (.ref 0), some (.ref 131), some (.int (nI i))] [.int v] m1 Q
  refine ez_blk 5 rfl ?_
  show ez (N, xf) 179 357 [some (.ref 4000000), some (.ref 0), some (.ref 131), some (.int (nI i))] [.int (nI i + 1), .ref 4000000, .ref 131, .int v] m1 Q
  refine ez_sld (j := i + 1) rfl (nI_add i 1) (by omega) (by omega) ?_
  show ez (N, xf) 179 358 [some (.ref 4000000), some (.ref 0), some (.ref 131), some (.int (nI i))] [.int (xf (i + 1)), .ref 131, .int v] m1 Q
  refine ez_blk 4 rfl ?_
  show ez (N, xf) 179 362 [some (.ref 4000000), some (.ref 0), some (.ref 131), some (.int (nI i))] [.int (nI i + 2), .ref 4000000, .int (xf (i + 1)), .ref 131, .int v] m1 Q
  refine ez_sld (j := i + 2) rfl (nI_add i 2) (by omega) (by omega) ?_
  show ez (N, xf) 179 363 [some (.ref 4000000), some (.ref 0), some (.ref 131), some (.int (nI i))] [.int (xf (i + 2)), .int (xf (i + 1)), .ref 131, .int v] m1 Q
  refine ez_blk 4 rfl ?_
  show ez (N, xf) 179 367 [some (.ref 4000000), some (.ref 0), some (.ref 131), some (.int (nI i))] [.int (nI i + 3), .ref 4000000, .int (xf (i + 2)), .int (xf (i + 1)), .ref 131, .int v] m1 Q
  refine ez_sld (j := i + 3) rfl (nI_add i 3) (by omega) (by omega) ?_
  show ez (N, xf) 179 368 [some (.ref 4000000), some (.ref 0), some (.ref 131), some (.int (nI i))] [.int (xf (i + 3)), .int (xf (i + 2)), .int (xf (i + 1)), .ref 131, .int v] m1 Q
  refine ez_blk 4 rfl ?_
  show ez (N, xf) 179 372 [some (.ref 4000000), some (.ref 0), some (.ref 131), some (.int (nI i))] [.int (nI i + 4), .ref 4000000, .int (xf (i + 3)), .int (xf (i + 2)), .int (xf (i + 1)), .ref 131, .int v] m1 Q
  refine ez_sld (j := i + 4) rfl (nI_add i 4) (by omega) (by omega) ?_
  show ez (N, xf) 179 373 [some (.ref 4000000), some (.ref 0), some (.ref 131), some (.int (nI i))] [.int (xf (i + 4)), .int (xf (i + 3)), .int (xf (i + 2)), .int (xf (i + 1)), .ref 131, .int v] m1 Q
  refine ez_call (as := [.ref 131, .int (xf (i + 1)), .int (xf (i + 2)), .int (xf (i + 3)), .int (xf (i + 4))]) (rest := [.int v]) rfl (by decide) rfl ?_
  refine ez_mono h2 (fun r2 m2 h3 => ?_)
  obtain ⟨rfl, hR⟩ := h3
  show ez (N, xf) 179 376 [some (.ref 4000000), some (.ref 0), some (.ref 131), some (.int (nI i))] [.int v, .int v] m2 Q
  refine ez_icmp_eq rfl (fun _ => ?_) (fun h => absurd rfl h)
  exact cont m2 hR
set_option maxRecDepth 100000 in
set_option maxHeartbeats 4000000 in
theorem zl_9 {R : zM → Prop} {N i : Nat} {xf : Nat → Int32} {m : zM} {Q : Option Value → zM → Prop} (hN : N ≤ 3072) (hi : i + 6 ≤ N) (hop : zo R (N, xf) 107 108 [.int (xf (i + 1)), .int (xf (i + 2)), .int (xf (i + 3)), .int (xf (i + 4))]) (hR : R m) (cont : ∀ m, R m → ez (N, xf) 179 527 [some (.ref 4000000), some (.ref 0), some (.ref 131), some (.int (nI i))] [] m Q) : ez (N, xf) 179 381 [some (.ref 4000000), some (.ref 0), some (.ref 131), some (.int (nI i))] [] m Q := by
  refine ez_blk 5 rfl ?_
  show ez (N, xf) 179 386 [some (.ref 4000000), some (.ref 0), some (.ref 131), some (.int (nI i))] [.int (nI i + 1), .ref 4000000, .ref 0] m Q
  refine ez_sld (j := i + 1) rfl (nI_add i 1) (by omega) (by omega) ?_
  show ez (N, xf) 179 387 [some (.ref 4000000), some (.ref 0), some (.ref 131), some (.int (nI i))] [.int (xf (i + 1)), .ref 0] m Q
  refine ez_blk 4 rfl ?_
  show ez (N, xf) 179 391 [some (.ref 4000000), some (.ref 0), some (.ref 131), some (.int (nI i))] [.int (nI i + 2), .ref 4000000, .int (xf (i + 1)), .ref 0] m Q
  refine ez_sld (j := i + 2) rfl (nI_add i 2) (by omega) (by omega) ?_
  show ez (N, xf) 179 392 [some (.ref 4000000), some (.ref 0), some (.ref 131), some (.int (nI i))] [.int (xf (i + 2)), .int (xf (i + 1)), .ref 0] m Q
  refine ez_blk 4 rfl ?_
  show ez (N, xf) 179 396 [some (.ref 4000000), some (.ref 0), some (.ref 131), some (.int (nI i))] [.int (nI i + 3), .ref 4000000, .int (xf (i + 2)), .int (xf (i + 1)), .ref 0] m Q
  refine ez_sld (j := i + 3) rfl (nI_add i 3) (by omega) (by omega) ?_
  show ez (N, xf) 179 397 [some (.ref 4000000), some (.ref 0), some (.ref 131), some (.int (nI i))] [.int (xf (i + 3)), .int (xf (i + 2)), .int (xf (i + 1)), .ref 0] m Q
  refine ez_blk 4 rfl ?_
  show ez (N, xf) 179 401 [some (.ref 4000000), some (.ref 0), some (.ref 131), some (.int (nI i))] [.int (nI i + 4), .ref 4000000, .int (xf (i + 3)), .int (xf (i + 2)), .int (xf (i + 1)), .ref 0] m Q
  refine ez_sld (j := i + 4) rfl (nI_add i 4) (by omega) (by omega) ?_
  show ez (N, xf) 179 402 [some (.ref 4000000), some (.ref 0), some (.ref 131), some (.int (nI i))] [.int (xf (i + 4)), .int (xf (i + 3)), .int (xf (i + 2)), .int (xf (i + 1)), .ref 0] m Q
  refine ez_call (as := [.ref 0, .int (xf (i + 1)), .int (xf (i + 2)), .int (xf (i + 3)), .int (xf (i + 4))]) (rest := []) rfl (by decide) rfl ?_
  refine ez_mono (hop m hR) (fun r1 m1 h1 => ?_)
  obtain ⟨v, rfl, h2⟩ := h1
  show ez (N, xf) 179 405 [some (.ref 4000000), some (.ref 0), some (.ref 131), some (.int (nI i))] [.int v] m1 Q
  refine ez_blk 5 rfl ?_
  show ez (N, xf) 179 410 [some (.ref 4000000), some (.ref 0), some (.ref 131), some (.int (nI i))] [.int (nI i + 1), .ref 4000000, .ref 131, .int v] m1 Q
  refine ez_sld (j := i + 1) rfl (nI_add i 1) (by omega) (by omega) ?_
  show ez (N, xf) 179 411 [some (.ref 4000000), some (.ref 0), some (.ref 131), some (.int (nI i))] [.int (xf (i + 1)), .ref 131, .int v] m1 Q
  refine ez_blk 4 rfl ?_
  show ez (N, xf) 179 415 [some (.ref 4000000), some (.ref 0), some (.ref 131), some (.int (nI i))] [.int (nI i + 2), .ref 4000000, .int (xf (i + 1)), .ref 131, .int v] m1 Q
  refine ez_sld (j := i + 2) rfl (nI_add i 2) (by omega) (by omega) ?_
  show ez (N, xf) 179 416 [some (.ref 4000000), some (.ref 0), some (.ref 131), some (.int (nI i))] [.int (xf (i + 2)), .int (xf (i + 1)), .ref 131, .int v] m1 Q
  refine ez_blk 4 rfl ?_
  show ez (N, xf) 179 420 [some (.ref 4000000), some (.ref 0), some (.ref 131), some (.int (nI i))] [.int (nI i + 3), .ref 4000000, .int (xf (i + 2)), .int (xf (i + 1)), .ref 131, .int v] m1 Q
  refine ez_sld (j := i + 3) rfl (nI_add i 3) (by omega) (by omega) ?_
  show ez (N, xf) 179 421 [some (.ref 4000000), some (.ref 0), some (.ref 131), some (.int (nI i))] [.int (xf (i + 3)), .int (xf (i + 2)), .int (xf (i + 1)), .ref 131, .int v] m1 Q
  refine ez_blk 4 rfl ?_
  show ez (N, xf) 179 425 [some (.ref 4000000), some (.ref 0), some (.ref 131), some (.int (nI i))] [.int (nI i + 4), .ref 4000000, .int (xf (i + 3)), .int (xf (i + 2)), .int (xf (i + 1)), .ref 131, .int v] m1 Q
  refine ez_sld (j := i + 4) rfl (nI_add i 4) (by omega) (by omega) ?_
  show ez (N, xf) 179 426 [some (.ref 4000000), some (.ref 0), some (.ref 131), some (.int (nI i))] [.int (xf (i + 4)), .int (xf (i + 3)), .int (xf (i + 2)), .int (xf (i + 1)), .ref 131, .int v] m1 Q
  refine ez_call (as := [.ref 131, .int (xf (i + 1)), .int (xf (i + 2)), .int (xf (i + 3)), .int (xf (i + 4))]) (rest := [.int v]) rfl (by decide) rfl ?_
  refine ez_mono h2 (fun r2 m2 h3 => ?_)
  obtain ⟨rfl, hR⟩ := h3
  show ez (N, xf) 179 429 [some (.ref 4000000), some (.ref 0), some (.ref 131), some (.int (nI i))] [.int v, .int v] m2 Q
  refine ez_icmp_eq rfl (fun _ => ?_) (fun h => absurd rfl h)
  exact cont m2 hR
set_option maxRecDepth 100000 in
set_option maxHeartbeats 4000000 in
theorem zl_10 {R : zM → Prop} {N i : Nat} {xf : Nat → Int32} {m : zM} {Q : Option Value → zM → Prop} (hN : N ≤ 3072) (hi : i + 6 ≤ N) (hop : zov R (N, xf) 110 111 []) (hR : R m) (cont : ∀ m, R m → ez (N, xf) 179 527 [some (.ref 4000000), some (.ref 0), some (.ref 131), some (.int (nI i))] [] m Q) : ez (N, xf) 179 434 [some (.ref 4000000), some (.ref 0), some (.ref 131), some (.int (nI i))] [] m Q := by
  refine ez_blk 1 rfl ?_
  show ez (N, xf) 179 435 [some (.ref 4000000), some (.ref 0), some (.ref 131), some (.int (nI i))] [.ref 0] m Q
  refine ez_call (as := [.ref 0]) (rest := []) rfl (by decide) rfl ?_
  refine ez_mono (hop m hR) (fun r1 m1 h1 => ?_)
  obtain ⟨rfl, h2⟩ := h1
  show ez (N, xf) 179 438 [some (.ref 4000000), some (.ref 0), some (.ref 131), some (.int (nI i))] [] m1 Q
  refine ez_blk 1 rfl ?_
  show ez (N, xf) 179 439 [some (.ref 4000000), some (.ref 0), some (.ref 131), some (.int (nI i))] [.ref 131] m1 Q
  refine ez_call (as := [.ref 131]) (rest := []) rfl (by decide) rfl ?_
  refine ez_mono h2 (fun r2 m2 h3 => ?_)
  obtain ⟨rfl, hR⟩ := h3
  show ez (N, xf) 179 442 [some (.ref 4000000), some (.ref 0), some (.ref 131), some (.int (nI i))] [] m2 Q
  refine ez_blk 1 rfl ?_
  show ez (N, xf) 179 527 [some (.ref 4000000), some (.ref 0), some (.ref 131), some (.int (nI i))] [] m2 Q
  exact cont m2 hR
set_option maxRecDepth 100000 in
set_option maxHeartbeats 4000000 in
theorem zl_11 {R : zM → Prop} {N i : Nat} {xf : Nat → Int32} {m : zM} {Q : Option Value → zM → Prop} (hN : N ≤ 3072) (hi : i + 6 ≤ N) (hop : zo R (N, xf) 143 153 []) (hR : R m) (cont : ∀ m, R m → ez (N, xf) 179 527 [some (.ref 4000000), some (.ref 0), some (.ref 131), some (.int (nI i))] [] m Q) : ez (N, xf) 179 445 [some (.ref 4000000), some (.ref 0), some (.ref 131), some (.int (nI i))] [] m Q := by
  refine ez_blk 1 rfl ?_
  show ez (N, xf) 179 446 [some (.ref 4000000), some (.ref 0), some (.ref 131), some (.int (nI i))] [.ref 0] m Q
  refine ez_call (as := [.ref 0]) (rest := []) rfl (by decide) rfl ?_
  refine ez_mono (hop m hR) (fun r1 m1 h1 => ?_)
  obtain ⟨v, rfl, h2⟩ := h1
  show ez (N, xf) 179 449 [some (.ref 4000000), some (.ref 0), some (.ref 131), some (.int (nI i))] [.int v] m1 Q
  refine ez_blk 1 rfl ?_
  show ez (N, xf) 179 450 [some (.ref 4000000), some (.ref 0), some (.ref 131), some (.int (nI i))] [.ref 131, .int v] m1 Q
  refine ez_call (as := [.ref 131]) (rest := [.int v]) rfl (by decide) rfl ?_
  refine ez_mono h2 (fun r2 m2 h3 => ?_)
  obtain ⟨rfl, hR⟩ := h3
  show ez (N, xf) 179 453 [some (.ref 4000000), some (.ref 0), some (.ref 131), some (.int (nI i))] [.int v, .int v] m2 Q
  refine ez_icmp_eq rfl (fun _ => ?_) (fun h => absurd rfl h)
  exact cont m2 hR
set_option maxRecDepth 100000 in
set_option maxHeartbeats 4000000 in
theorem zl_12 {R : zM → Prop} {N i : Nat} {xf : Nat → Int32} {m : zM} {Q : Option Value → zM → Prop} (hN : N ≤ 3072) (hi : i + 6 ≤ N) (hop : zo R (N, xf) 155 156 [.int (xf (i + 1))]) (hR : R m) (cont : ∀ m, R m → ez (N, xf) 179 527 [some (.ref 4000000), some (.ref 0), some (.ref 131), some (.int (nI i))] [] m Q) : ez (N, xf) 179 458 [some (.ref 4000000), some (.ref 0), some (.ref 131), some (.int (nI i))] [] m Q := by
  refine ez_blk 5 rfl ?_
  show ez (N, xf) 179 463 [some (.ref 4000000), some (.ref 0), some (.ref 131), some (.int (nI i))] [.int (nI i + 1), .ref 4000000, .ref 0] m Q
  refine ez_sld (j := i + 1) rfl (nI_add i 1) (by omega) (by omega) ?_
  show ez (N, xf) 179 464 [some (.ref 4000000), some (.ref 0), some (.ref 131), some (.int (nI i))] [.int (xf (i + 1)), .ref 0] m Q
  refine ez_call (as := [.ref 0, .int (xf (i + 1))]) (rest := []) rfl (by decide) rfl ?_
  refine ez_mono (hop m hR) (fun r1 m1 h1 => ?_)
  obtain ⟨v, rfl, h2⟩ := h1
  show ez (N, xf) 179 467 [some (.ref 4000000), some (.ref 0), some (.ref 131), some (.int (nI i))] [.int v] m1 Q
  refine ez_blk 5 rfl ?_
  show ez (N, xf) 179 472 [some (.ref 4000000), some (.ref 0), some (.ref 131), some (.int (nI i))] [.int (nI i + 1), .ref 4000000, .ref 131, .int v] m1 Q
  refine ez_sld (j := i + 1) rfl (nI_add i 1) (by omega) (by omega) ?_
  show ez (N, xf) 179 473 [some (.ref 4000000), some (.ref 0), some (.ref 131), some (.int (nI i))] [.int (xf (i + 1)), .ref 131, .int v] m1 Q
  refine ez_call (as := [.ref 131, .int (xf (i + 1))]) (rest := [.int v]) rfl (by decide) rfl ?_
  refine ez_mono h2 (fun r2 m2 h3 => ?_)
  obtain ⟨rfl, hR⟩ := h3
  show ez (N, xf) 179 476 [some (.ref 4000000), some (.ref 0), some (.ref 131), some (.int (nI i))] [.int v, .int v] m2 Q
  refine ez_icmp_eq rfl (fun _ => ?_) (fun h => absurd rfl h)
  exact cont m2 hR
set_option maxRecDepth 100000 in
set_option maxHeartbeats 4000000 in
theorem zl_13 {R : zM → Prop} {N i : Nat} {xf : Nat → Int32} {m : zM} {Q : Option Value → zM → Prop} (hN : N ≤ 3072) (hi : i + 6 ≤ N) (hop : zo R (N, xf) 158 161 [.int (xf (i + 1)), .int (xf (i + 2))]) (hR : R m) (cont : ∀ m, R m → ez (N, xf) 179 527 [some (.ref 4000000), some (.ref 0), some (.ref 131), some (.int (nI i))] [] m Q) : ez (N, xf) 179 481 [some (.ref 4000000), some (.ref 0), some (.ref 131), some (.int (nI i))] [] m Q := by
  refine ez_blk 5 rfl ?_
  show ez (N, xf) 179 486 [some (.ref 4000000), some (.ref 0), some (.ref 131), some (.int (nI i))] [.int (nI i + 1), .ref 4000000, .ref 0] m Q
  refine ez_sld (j := i + 1) rfl (nI_add i 1) (by omega) (by omega) ?_
  show ez (N, xf) 179 487 [some (.ref 4000000), some (.ref 0), some (.ref 131), some (.int (nI i))] [.int (xf (i + 1)), .ref 0] m Q
  refine ez_blk 4 rfl ?_
  show ez (N, xf) 179 491 [some (.ref 4000000), some (.ref 0), some (.ref 131), some (.int (nI i))] [.int (nI i + 2), .ref 4000000, .int (xf (i + 1)), .ref 0] m Q
  refine ez_sld (j := i + 2) rfl (nI_add i 2) (by omega) (by omega) ?_
  show ez (N, xf) 179 492 [some (.ref 4000000), some (.ref 0), some (.ref 131), some (.int (nI i))] [.int (xf (i + 2)), .int (xf (i + 1)), .ref 0] m Q
  refine ez_call (as := [.ref 0, .int (xf (i + 1)), .int (xf (i + 2))]) (rest := []) rfl (by decide) rfl ?_
  refine ez_mono (hop m hR) (fun r1 m1 h1 => ?_)
  obtain ⟨v, rfl, h2⟩ := h1
  show ez (N, xf) 179 495 [some (.ref 4000000), some (.ref 0), some (.ref 131), some (.int (nI i))] [.int v] m1 Q
  refine ez_blk 5 rfl ?_
  show ez (N, xf) 179 500 [some (.ref 4000000), some (.ref 0), some (.ref 131), some (.int (nI i))] [.int (nI i + 1), .ref 4000000, .ref 131, .int v] m1 Q
  refine ez_sld (j := i + 1) rfl (nI_add i 1) (by omega) (by omega) ?_
  show ez (N, xf) 179 501 [some (.ref 4000000), some (.ref 0), some (.ref 131), some (.int (nI i))] [.int (xf (i + 1)), .ref 131, .int v] m1 Q
  refine ez_blk 4 rfl ?_
  show ez (N, xf) 179 505 [some (.ref 4000000), some (.ref 0), some (.ref 131), some (.int (nI i))] [.int (nI i + 2), .ref 4000000, .int (xf (i + 1)), .ref 131, .int v] m1 Q
  refine ez_sld (j := i + 2) rfl (nI_add i 2) (by omega) (by omega) ?_
  show ez (N, xf) 179 506 [some (.ref 4000000), some (.ref 0), some (.ref 131), some (.int (nI i))] [.int (xf (i + 2)), .int (xf (i + 1)), .ref 131, .int v] m1 Q
  refine ez_call (as := [.ref 131, .int (xf (i + 1)), .int (xf (i + 2))]) (rest := [.int v]) rfl (by decide) rfl ?_
  refine ez_mono h2 (fun r2 m2 h3 => ?_)
  obtain ⟨rfl, hR⟩ := h3
  show ez (N, xf) 179 509 [some (.ref 4000000), some (.ref 0), some (.ref 131), some (.int (nI i))] [.int v, .int v] m2 Q
  refine ez_icmp_eq rfl (fun _ => ?_) (fun h => absurd rfl h)
  exact cont m2 hR
set_option maxRecDepth 100000 in
set_option maxHeartbeats 4000000 in
theorem zl_14 {R : zM → Prop} {N i : Nat} {xf : Nat → Int32} {m : zM} {Q : Option Value → zM → Prop} (hN : N ≤ 3072) (hi : i + 6 ≤ N) (hop : zo R (N, xf) 172 178 []) (hR : R m) (cont : ∀ m, R m → ez (N, xf) 179 527 [some (.ref 4000000), some (.ref 0), some (.ref 131), some (.int (nI i))] [] m Q) : ez (N, xf) 179 514 [some (.ref 4000000), some (.ref 0), some (.ref 131), some (.int (nI i))] [] m Q := by
  refine ez_blk 1 rfl ?_
  show ez (N, xf) 179 515 [some (.ref 4000000), some (.ref 0), some (.ref 131), some (.int (nI i))] [.ref 0] m Q
  refine ez_call (as := [.ref 0]) (rest := []) rfl (by decide) rfl ?_
  refine ez_mono (hop m hR) (fun r1 m1 h1 => ?_)
  obtain ⟨v, rfl, h2⟩ := h1
  show ez (N, xf) 179 518 [some (.ref 4000000), some (.ref 0), some (.ref 131), some (.int (nI i))] [.int v] m1 Q
  refine ez_blk 1 rfl ?_
  show ez (N, xf) 179 519 [some (.ref 4000000), some (.ref 0), some (.ref 131), some (.int (nI i))] [.ref 131, .int v] m1 Q
  refine ez_call (as := [.ref 131]) (rest := [.int v]) rfl (by decide) rfl ?_
  refine ez_mono h2 (fun r2 m2 h3 => ?_)
  obtain ⟨rfl, hR⟩ := h3
  show ez (N, xf) 179 522 [some (.ref 4000000), some (.ref 0), some (.ref 131), some (.int (nI i))] [.int v, .int v] m2 Q
  refine ez_icmp_eq rfl (fun _ => ?_) (fun h => absurd rfl h)
  exact cont m2 hR
/-- what each call owes: its answer is the reference's, and the relation stays -/
def z_Ops (R : zM → Prop) : Prop :=
  (∀ (xs : jx_Xs) (v1 : Int32), zo R xs 15 16 [.int (v1.toUInt32 % 65536).toInt32]) ∧
  (∀ (xs : jx_Xs), zov R xs 18 19 []) ∧
  (∀ (xs : jx_Xs), zo R xs 21 22 []) ∧
  (∀ (xs : jx_Xs) (v1 : Int32), zo R xs 25 26 [.int v1]) ∧
  (∀ (xs : jx_Xs), zo R xs 60 72 []) ∧
  (∀ (xs : jx_Xs) (v1 v2 : Int32), zo R xs 75 76 [.int v1, .int v2]) ∧
  (∀ (xs : jx_Xs) (v1 : Int32), zo R xs 77 78 [.int v1]) ∧
  (∀ (xs : jx_Xs) (v2 v3 v4 v5 : Int32), zo R xs 89 91 [.int 0, .int v2, .int v3, .int v4, .int v5]) ∧ (∀ (xs : jx_Xs) (v2 v3 v4 v5 : Int32), zo R xs 89 91 [.int 1, .int v2, .int v3, .int v4, .int v5]) ∧
  (∀ (xs : jx_Xs) (v1 v2 v3 v4 : Int32), zo R xs 99 104 [.int v1, .int v2, .int v3, .int v4]) ∧
  (∀ (xs : jx_Xs) (v1 v2 v3 v4 : Int32), zo R xs 107 108 [.int v1, .int v2, .int v3, .int v4]) ∧
  (∀ (xs : jx_Xs), zov R xs 110 111 []) ∧
  (∀ (xs : jx_Xs), zo R xs 143 153 []) ∧
  (∀ (xs : jx_Xs) (v1 : Int32), zo R xs 155 156 [.int v1]) ∧
  (∀ (xs : jx_Xs) (v1 v2 : Int32), zo R xs 158 161 [.int v1, .int v2]) ∧
  (∀ (xs : jx_Xs), zo R xs 172 178 [])
theorem z_gt {N i : Nat} (hN : N ≤ 3072) (hi : i ≤ N + 5) : nI N - 6 < nI i ↔ N < i + 6 := by
  have h6 : (6 : Int32) = nI 6 := rfl
  rw [h6, Int32.lt_iff_toInt_lt, pk_sub_toInt (by omega) (by omega), nI_toInt (by omega)]
  omega
set_option maxRecDepth 100000 in
set_option maxHeartbeats 4000000 in
/-- the loop -/
theorem z_loop_of {R : zM → Prop} (ops : z_Ops R) {N : Nat} {xf : Nat → Int32} (hN : N ≤ 3072) : ∀ (n i : Nat) (m : zM), N < i + n → i ≤ N + 5 → R m → ez (N, xf) 179 18 [some (.ref 4000000), some (.ref 0), some (.ref 131), some (.int (nI i))] [] m (fun r _ => r = some (.int 1)) := by
  intro n
  induction n with
  | zero =>
    intro i m h1 h2 hR
    refine ez_blk 5 rfl ?_
    show ez (N, xf) 179 24 [some (.ref 4000000), some (.ref 0), some (.ref 131), some (.int (nI i))] [.int (nI N - 6), .int (nI i)] m _
    refine ez_icmp_gt rfl (fun h => ?_) (fun h => absurd ((z_gt hN h2).mpr (by omega)) h)
    show ez (N, xf) 179 533 [some (.ref 4000000), some (.ref 0), some (.ref 131), some (.int (nI i))] [] m _
    refine ez_blk 1 rfl ?_
    exact ez_ret (o := (90, 0, 0, 0, 0)) (v := some (.int 1)) rfl (by decide) rfl rfl
  | succ n ih =>
    intro i m h1 h2 hR
    refine ez_blk 5 rfl ?_
    show ez (N, xf) 179 24 [some (.ref 4000000), some (.ref 0), some (.ref 131), some (.int (nI i))] [.int (nI N - 6), .int (nI i)] m _
    refine ez_icmp_gt rfl (fun h => ?_) (fun h => ?_)
    · show ez (N, xf) 179 533 [some (.ref 4000000), some (.ref 0), some (.ref 131), some (.int (nI i))] [] m _
      refine ez_blk 1 rfl ?_
      exact ez_ret (o := (90, 0, 0, 0, 0)) (v := some (.int 1)) rfl (by decide) rfl rfl
    have hi : i + 6 ≤ N := by
      have := mt (z_gt hN h2).mpr h
      omega
    have next : ∀ m, R m → ez (N, xf) 179 527 [some (.ref 4000000), some (.ref 0), some (.ref 131), some (.int (nI i))] [] m (fun r _ => r = some (.int 1)) := by
      intro m hR
      refine ez_blk 2 rfl ?_
      show ez (N, xf) 179 18 [some (.ref 4000000), some (.ref 0), some (.ref 131), some (.int (nI i + 6))] [] m _
      rw [show nI i + 6 = nI (i + 6) from nI_add i 6]
      exact ih (i + 6) m (by omega) (by omega) hR
    show ez (N, xf) 179 27 [some (.ref 4000000), some (.ref 0), some (.ref 131), some (.int (nI i))] [] m _
    refine ez_blk 2 rfl ?_
    show ez (N, xf) 179 29 [some (.ref 4000000), some (.ref 0), some (.ref 131), some (.int (nI i))] [.int (nI i), .ref 4000000] m _
    refine ez_sld (j := i) rfl rfl (by omega) (by omega) ?_
    show ez (N, xf) 179 30 [some (.ref 4000000), some (.ref 0), some (.ref 131), some (.int (nI i))] [.int (xf i)] m _
    refine ez_blk 2 rfl ?_
    show ez (N, xf) 179 33 [some (.ref 4000000), some (.ref 0), some (.ref 131), some (.int (nI i))] [.int (xf i &&& 15)] m _
    obtain ⟨j, hj, he⟩ := pk_andE (xf i) (m := 15) 4 (by decide)
    rw [he]
    have hj : j < 16 := hj
    refine ez_blk 1 (pc' := ([108, 133, 144, 157, 180, 193, 226, 249, 328, 381, 434, 445, 458, 481, 514] : List Nat).getD j 527) (L' := [some (.ref 4000000), some (.ref 0), some (.ref 131), some (.int (nI i))]) (st' := []) (m' := m) ?_ ?_
    · match j, hj with
      | 0, _ => exact rfl
      | 1, _ => exact rfl
      | 2, _ => exact rfl
      | 3, _ => exact rfl
      | 4, _ => exact rfl
      | 5, _ => exact rfl
      | 6, _ => exact rfl
      | 7, _ => exact rfl
      | 8, _ => exact rfl
      | 9, _ => exact rfl
      | 10, _ => exact rfl
      | 11, _ => exact rfl
      | 12, _ => exact rfl
      | 13, _ => exact rfl
      | 14, _ => exact rfl
      | 15, _ => exact rfl
      | j + 16, h => exact absurd h (by omega)
    match j, hj with
    | 0, _ => exact zl_0 hN hi (ops.1 (N, xf) _) hR next
    | 1, _ => exact zl_1 hN hi (ops.2.1 (N, xf)) hR next
    | 2, _ => exact zl_2 hN hi (ops.2.2.1 (N, xf)) hR next
    | 3, _ => exact zl_3 hN hi (ops.2.2.2.1 (N, xf) _) hR next
    | 4, _ => exact zl_4 hN hi (ops.2.2.2.2.1 (N, xf)) hR next
    | 5, _ => exact zl_5 hN hi (ops.2.2.2.2.2.1 (N, xf) _ _) hR next
    | 6, _ => exact zl_6 hN hi (ops.2.2.2.2.2.2.1 (N, xf) _) hR next
    | 7, _ => exact zl_7 hN hi (ops.2.2.2.2.2.2.2.1 (N, xf) _ _ _ _) (ops.2.2.2.2.2.2.2.2.1 (N, xf) _ _ _ _) hR next
    | 8, _ => exact zl_8 hN hi (ops.2.2.2.2.2.2.2.2.2.1 (N, xf) _ _ _ _) hR next
    | 9, _ => exact zl_9 hN hi (ops.2.2.2.2.2.2.2.2.2.2.1 (N, xf) _ _ _ _) hR next
    | 10, _ => exact zl_10 hN hi (ops.2.2.2.2.2.2.2.2.2.2.2.1 (N, xf)) hR next
    | 11, _ => exact zl_11 hN hi (ops.2.2.2.2.2.2.2.2.2.2.2.2.1 (N, xf)) hR next
    | 12, _ => exact zl_12 hN hi (ops.2.2.2.2.2.2.2.2.2.2.2.2.2.1 (N, xf) _) hR next
    | 13, _ => exact zl_13 hN hi (ops.2.2.2.2.2.2.2.2.2.2.2.2.2.2.1 (N, xf) _ _) hR next
    | 14, _ => exact zl_14 hN hi (ops.2.2.2.2.2.2.2.2.2.2.2.2.2.2.2 (N, xf)) hR next
    | 15, _ => exact next m hR
    | j + 16, h => exact absurd h (by omega)
theorem z_Loop_of {R : zM → Prop} (ops : z_Ops R) (h0 : R z_t2.1) : z_Loop := fun N xs hN => z_loop_of ops hN (N + 1) 0 z_t2.1 (by omega) (by omega) h0
