/-! The two constructors, run by the kernel. -/
def z_x0 : jx_Xs := (0, fun _ => 0)
def z_s0 : jj_S := (fun _ _ => 0, fun _ _ => none, fun _ => (9, 0, 0), 0, 0)
def z_s1 : jj_S := jj_nw z_s0 (0, 0, 9)
def z_c1 : Option (Option Value × jj_S) := jx_run z_x0 4000 11 0 (jx_ent 11 [.ref 0]) [] z_s1
theorem z_c1_some : z_c1.isSome = true := by decide +kernel
