/-- an outcome set of the class -/
abbrev OS9 := Nat × Nat × (Nat → Nat) × (Nat → ClassId) × (Nat → Int64) × (Nat → Int32) × (Nat → Int32) × (Nat → Int32) × (Nat → Nat) × Int32 × Int32 × Int32
def o_E (S : OS9) : Nat := S.1
def o_C (S : OS9) : Nat := S.2.1
def o_ad (S : OS9) : Nat → Nat := S.2.2.1
def o_ck (S : OS9) : Nat → ClassId := S.2.2.2.1
def o_rf (S : OS9) : Nat → Int64 := S.2.2.2.2.1
def o_vf (S : OS9) : Nat → Int32 := S.2.2.2.2.2.1
def o_lf (S : OS9) : Nat → Int32 := S.2.2.2.2.2.2.1
def o_qf (S : OS9) : Nat → Int32 := S.2.2.2.2.2.2.2.1
def o_of (S : OS9) : Nat → Nat := S.2.2.2.2.2.2.2.2.1
def o_n0 (S : OS9) : Int32 := S.2.2.2.2.2.2.2.2.2.1
def o_sd (S : OS9) : Int32 := S.2.2.2.2.2.2.2.2.2.2.1
def o_rd (S : OS9) : Int32 := S.2.2.2.2.2.2.2.2.2.2.2
/-- the class's object and all that it holds -/
abbrev CX9 := Nat × Nat × Nat × Nat × Nat × Nat × Nat × Nat × Nat × Nat × Nat × Nat × Nat × Nat × Nat × Nat × Nat × Nat × Nat × (Nat → Nat) × (Nat → Nat) × (Nat → Nat) × (Nat → Nat) × (Nat → ClassId) × (Nat → ClassId) × ClassId × ClassId × ClassId × ClassId × ClassId × ClassId × ClassId × ClassId × ClassId × ClassId × ClassId × ClassId × Nat × Nat × (Nat → Nat → Nat) × (Nat → Int32) × Nat × Int64 × (Nat → Nat) × (Nat → Int32) × (Nat → Int32) × Value × Int32 × Int32 × Int32 × (Nat → Int32) × (Nat → Nat) × Value × (Nat → Int32) × (Nat → Nat) × (Nat → Nat) × (Nat → Nat) × (Nat → Nat) × Value × Int32 × (Nat → Int32) × (Nat → Int32) × (Nat → Int32) × (Nat → Nat → Nat) × Z9 × Nat × Nat × Nat × Nat × ClassId × ClassId × Int32 × Int32 × (Nat → Int64) × (Nat → Int32) × (Nat → OS9) × (Nat → OS9)
def x_oa (S : CX9) : Nat := S.1
def x_pa (S : CX9) : Nat := S.2.1
def x_ga (S : CX9) : Nat := S.2.2.1
def x_g1 (S : CX9) : Nat := S.2.2.2.1
def x_g2 (S : CX9) : Nat := S.2.2.2.2.1
def x_g3 (S : CX9) : Nat := S.2.2.2.2.2.1
def x_sa (S : CX9) : Nat := S.2.2.2.2.2.2.1
def x_ba (S : CX9) : Nat := S.2.2.2.2.2.2.2.1
def x_b1 (S : CX9) : Nat := S.2.2.2.2.2.2.2.2.1
def x_b2 (S : CX9) : Nat := S.2.2.2.2.2.2.2.2.2.1
def x_ka (S : CX9) : Nat := S.2.2.2.2.2.2.2.2.2.2.1
def x_kb (S : CX9) : Nat := S.2.2.2.2.2.2.2.2.2.2.2.1
def x_xa (S : CX9) : Nat := S.2.2.2.2.2.2.2.2.2.2.2.2.1
def x_ra1 (S : CX9) : Nat := S.2.2.2.2.2.2.2.2.2.2.2.2.2.1
def x_ra2 (S : CX9) : Nat := S.2.2.2.2.2.2.2.2.2.2.2.2.2.2.1
def x_q1 (S : CX9) : Nat := S.2.2.2.2.2.2.2.2.2.2.2.2.2.2.2.1
def x_q2 (S : CX9) : Nat := S.2.2.2.2.2.2.2.2.2.2.2.2.2.2.2.2.1
def x_q3 (S : CX9) : Nat := S.2.2.2.2.2.2.2.2.2.2.2.2.2.2.2.2.2.1
def x_q4 (S : CX9) : Nat := S.2.2.2.2.2.2.2.2.2.2.2.2.2.2.2.2.2.2.1
def x_pA (S : CX9) : Nat → Nat := S.2.2.2.2.2.2.2.2.2.2.2.2.2.2.2.2.2.2.2.1
def x_xA (S : CX9) : Nat → Nat := S.2.2.2.2.2.2.2.2.2.2.2.2.2.2.2.2.2.2.2.2.1
def x_fA (S : CX9) : Nat → Nat := S.2.2.2.2.2.2.2.2.2.2.2.2.2.2.2.2.2.2.2.2.2.1
def x_fB (S : CX9) : Nat → Nat := S.2.2.2.2.2.2.2.2.2.2.2.2.2.2.2.2.2.2.2.2.2.2.1
def x_pK (S : CX9) : Nat → ClassId := S.2.2.2.2.2.2.2.2.2.2.2.2.2.2.2.2.2.2.2.2.2.2.2.1
def x_xK (S : CX9) : Nat → ClassId := S.2.2.2.2.2.2.2.2.2.2.2.2.2.2.2.2.2.2.2.2.2.2.2.2.1
def x_l1 (S : CX9) : ClassId := S.2.2.2.2.2.2.2.2.2.2.2.2.2.2.2.2.2.2.2.2.2.2.2.2.2.1
def x_l2 (S : CX9) : ClassId := S.2.2.2.2.2.2.2.2.2.2.2.2.2.2.2.2.2.2.2.2.2.2.2.2.2.2.1
def x_l3 (S : CX9) : ClassId := S.2.2.2.2.2.2.2.2.2.2.2.2.2.2.2.2.2.2.2.2.2.2.2.2.2.2.2.1
def x_kb1 (S : CX9) : ClassId := S.2.2.2.2.2.2.2.2.2.2.2.2.2.2.2.2.2.2.2.2.2.2.2.2.2.2.2.2.1
def x_kb2 (S : CX9) : ClassId := S.2.2.2.2.2.2.2.2.2.2.2.2.2.2.2.2.2.2.2.2.2.2.2.2.2.2.2.2.2.1
def x_kk1 (S : CX9) : ClassId := S.2.2.2.2.2.2.2.2.2.2.2.2.2.2.2.2.2.2.2.2.2.2.2.2.2.2.2.2.2.2.1
def x_n1 (S : CX9) : ClassId := S.2.2.2.2.2.2.2.2.2.2.2.2.2.2.2.2.2.2.2.2.2.2.2.2.2.2.2.2.2.2.2.1
def x_n2 (S : CX9) : ClassId := S.2.2.2.2.2.2.2.2.2.2.2.2.2.2.2.2.2.2.2.2.2.2.2.2.2.2.2.2.2.2.2.2.1
def x_n3 (S : CX9) : ClassId := S.2.2.2.2.2.2.2.2.2.2.2.2.2.2.2.2.2.2.2.2.2.2.2.2.2.2.2.2.2.2.2.2.2.1
def x_n4 (S : CX9) : ClassId := S.2.2.2.2.2.2.2.2.2.2.2.2.2.2.2.2.2.2.2.2.2.2.2.2.2.2.2.2.2.2.2.2.2.2.1
def x_kr1 (S : CX9) : ClassId := S.2.2.2.2.2.2.2.2.2.2.2.2.2.2.2.2.2.2.2.2.2.2.2.2.2.2.2.2.2.2.2.2.2.2.2.1
def x_kr2 (S : CX9) : ClassId := S.2.2.2.2.2.2.2.2.2.2.2.2.2.2.2.2.2.2.2.2.2.2.2.2.2.2.2.2.2.2.2.2.2.2.2.2.1
def x_T (S : CX9) : Nat := S.2.2.2.2.2.2.2.2.2.2.2.2.2.2.2.2.2.2.2.2.2.2.2.2.2.2.2.2.2.2.2.2.2.2.2.2.2.1
def x_Ac (S : CX9) : Nat := S.2.2.2.2.2.2.2.2.2.2.2.2.2.2.2.2.2.2.2.2.2.2.2.2.2.2.2.2.2.2.2.2.2.2.2.2.2.2.1
def x_pg (S : CX9) : Nat → Nat → Nat := S.2.2.2.2.2.2.2.2.2.2.2.2.2.2.2.2.2.2.2.2.2.2.2.2.2.2.2.2.2.2.2.2.2.2.2.2.2.2.2.1
def x_nm (S : CX9) : Nat → Int32 := S.2.2.2.2.2.2.2.2.2.2.2.2.2.2.2.2.2.2.2.2.2.2.2.2.2.2.2.2.2.2.2.2.2.2.2.2.2.2.2.2.1
def x_dn (S : CX9) : Nat := S.2.2.2.2.2.2.2.2.2.2.2.2.2.2.2.2.2.2.2.2.2.2.2.2.2.2.2.2.2.2.2.2.2.2.2.2.2.2.2.2.2.1
def x_so (S : CX9) : Int64 := S.2.2.2.2.2.2.2.2.2.2.2.2.2.2.2.2.2.2.2.2.2.2.2.2.2.2.2.2.2.2.2.2.2.2.2.2.2.2.2.2.2.2.1
def x_pl (S : CX9) : Nat → Nat := S.2.2.2.2.2.2.2.2.2.2.2.2.2.2.2.2.2.2.2.2.2.2.2.2.2.2.2.2.2.2.2.2.2.2.2.2.2.2.2.2.2.2.2.1
def x_rg (S : CX9) : Nat → Int32 := S.2.2.2.2.2.2.2.2.2.2.2.2.2.2.2.2.2.2.2.2.2.2.2.2.2.2.2.2.2.2.2.2.2.2.2.2.2.2.2.2.2.2.2.2.1
def x_vl (S : CX9) : Nat → Int32 := S.2.2.2.2.2.2.2.2.2.2.2.2.2.2.2.2.2.2.2.2.2.2.2.2.2.2.2.2.2.2.2.2.2.2.2.2.2.2.2.2.2.2.2.2.2.1
def x_bv (S : CX9) : Value := S.2.2.2.2.2.2.2.2.2.2.2.2.2.2.2.2.2.2.2.2.2.2.2.2.2.2.2.2.2.2.2.2.2.2.2.2.2.2.2.2.2.2.2.2.2.2.1
def x_m0 (S : CX9) : Int32 := S.2.2.2.2.2.2.2.2.2.2.2.2.2.2.2.2.2.2.2.2.2.2.2.2.2.2.2.2.2.2.2.2.2.2.2.2.2.2.2.2.2.2.2.2.2.2.2.1
def x_x0 (S : CX9) : Int32 := S.2.2.2.2.2.2.2.2.2.2.2.2.2.2.2.2.2.2.2.2.2.2.2.2.2.2.2.2.2.2.2.2.2.2.2.2.2.2.2.2.2.2.2.2.2.2.2.2.1
def x_x1 (S : CX9) : Int32 := S.2.2.2.2.2.2.2.2.2.2.2.2.2.2.2.2.2.2.2.2.2.2.2.2.2.2.2.2.2.2.2.2.2.2.2.2.2.2.2.2.2.2.2.2.2.2.2.2.2.1
def x_pv (S : CX9) : Nat → Int32 := S.2.2.2.2.2.2.2.2.2.2.2.2.2.2.2.2.2.2.2.2.2.2.2.2.2.2.2.2.2.2.2.2.2.2.2.2.2.2.2.2.2.2.2.2.2.2.2.2.2.2.1
def x_rc (S : CX9) : Nat → Nat := S.2.2.2.2.2.2.2.2.2.2.2.2.2.2.2.2.2.2.2.2.2.2.2.2.2.2.2.2.2.2.2.2.2.2.2.2.2.2.2.2.2.2.2.2.2.2.2.2.2.2.2.1
def x_kv (S : CX9) : Value := S.2.2.2.2.2.2.2.2.2.2.2.2.2.2.2.2.2.2.2.2.2.2.2.2.2.2.2.2.2.2.2.2.2.2.2.2.2.2.2.2.2.2.2.2.2.2.2.2.2.2.2.2.1
def x_kp (S : CX9) : Nat → Int32 := S.2.2.2.2.2.2.2.2.2.2.2.2.2.2.2.2.2.2.2.2.2.2.2.2.2.2.2.2.2.2.2.2.2.2.2.2.2.2.2.2.2.2.2.2.2.2.2.2.2.2.2.2.2.1
def x_rw (S : CX9) : Nat → Nat := S.2.2.2.2.2.2.2.2.2.2.2.2.2.2.2.2.2.2.2.2.2.2.2.2.2.2.2.2.2.2.2.2.2.2.2.2.2.2.2.2.2.2.2.2.2.2.2.2.2.2.2.2.2.2.1
def x_zz (S : CX9) : Nat → Nat := S.2.2.2.2.2.2.2.2.2.2.2.2.2.2.2.2.2.2.2.2.2.2.2.2.2.2.2.2.2.2.2.2.2.2.2.2.2.2.2.2.2.2.2.2.2.2.2.2.2.2.2.2.2.2.2.1
def x_le (S : CX9) : Nat → Nat := S.2.2.2.2.2.2.2.2.2.2.2.2.2.2.2.2.2.2.2.2.2.2.2.2.2.2.2.2.2.2.2.2.2.2.2.2.2.2.2.2.2.2.2.2.2.2.2.2.2.2.2.2.2.2.2.2.1
def x_tl (S : CX9) : Nat → Nat := S.2.2.2.2.2.2.2.2.2.2.2.2.2.2.2.2.2.2.2.2.2.2.2.2.2.2.2.2.2.2.2.2.2.2.2.2.2.2.2.2.2.2.2.2.2.2.2.2.2.2.2.2.2.2.2.2.2.1
def x_xv (S : CX9) : Value := S.2.2.2.2.2.2.2.2.2.2.2.2.2.2.2.2.2.2.2.2.2.2.2.2.2.2.2.2.2.2.2.2.2.2.2.2.2.2.2.2.2.2.2.2.2.2.2.2.2.2.2.2.2.2.2.2.2.2.1
def x_y0 (S : CX9) : Int32 := S.2.2.2.2.2.2.2.2.2.2.2.2.2.2.2.2.2.2.2.2.2.2.2.2.2.2.2.2.2.2.2.2.2.2.2.2.2.2.2.2.2.2.2.2.2.2.2.2.2.2.2.2.2.2.2.2.2.2.2.1
def x_u0 (S : CX9) : Nat → Int32 := S.2.2.2.2.2.2.2.2.2.2.2.2.2.2.2.2.2.2.2.2.2.2.2.2.2.2.2.2.2.2.2.2.2.2.2.2.2.2.2.2.2.2.2.2.2.2.2.2.2.2.2.2.2.2.2.2.2.2.2.2.1
def x_u1 (S : CX9) : Nat → Int32 := S.2.2.2.2.2.2.2.2.2.2.2.2.2.2.2.2.2.2.2.2.2.2.2.2.2.2.2.2.2.2.2.2.2.2.2.2.2.2.2.2.2.2.2.2.2.2.2.2.2.2.2.2.2.2.2.2.2.2.2.2.2.1
def x_u2 (S : CX9) : Nat → Int32 := S.2.2.2.2.2.2.2.2.2.2.2.2.2.2.2.2.2.2.2.2.2.2.2.2.2.2.2.2.2.2.2.2.2.2.2.2.2.2.2.2.2.2.2.2.2.2.2.2.2.2.2.2.2.2.2.2.2.2.2.2.2.2.1
def x_sc (S : CX9) : Nat → Nat → Nat := S.2.2.2.2.2.2.2.2.2.2.2.2.2.2.2.2.2.2.2.2.2.2.2.2.2.2.2.2.2.2.2.2.2.2.2.2.2.2.2.2.2.2.2.2.2.2.2.2.2.2.2.2.2.2.2.2.2.2.2.2.2.2.2.1
def x_Z (S : CX9) : Z9 := S.2.2.2.2.2.2.2.2.2.2.2.2.2.2.2.2.2.2.2.2.2.2.2.2.2.2.2.2.2.2.2.2.2.2.2.2.2.2.2.2.2.2.2.2.2.2.2.2.2.2.2.2.2.2.2.2.2.2.2.2.2.2.2.2.1
def x_KL (S : CX9) : Nat := S.2.2.2.2.2.2.2.2.2.2.2.2.2.2.2.2.2.2.2.2.2.2.2.2.2.2.2.2.2.2.2.2.2.2.2.2.2.2.2.2.2.2.2.2.2.2.2.2.2.2.2.2.2.2.2.2.2.2.2.2.2.2.2.2.2.1
def x_SL (S : CX9) : Nat := S.2.2.2.2.2.2.2.2.2.2.2.2.2.2.2.2.2.2.2.2.2.2.2.2.2.2.2.2.2.2.2.2.2.2.2.2.2.2.2.2.2.2.2.2.2.2.2.2.2.2.2.2.2.2.2.2.2.2.2.2.2.2.2.2.2.2.1
def x_j1 (S : CX9) : Nat := S.2.2.2.2.2.2.2.2.2.2.2.2.2.2.2.2.2.2.2.2.2.2.2.2.2.2.2.2.2.2.2.2.2.2.2.2.2.2.2.2.2.2.2.2.2.2.2.2.2.2.2.2.2.2.2.2.2.2.2.2.2.2.2.2.2.2.2.1
def x_j2 (S : CX9) : Nat := S.2.2.2.2.2.2.2.2.2.2.2.2.2.2.2.2.2.2.2.2.2.2.2.2.2.2.2.2.2.2.2.2.2.2.2.2.2.2.2.2.2.2.2.2.2.2.2.2.2.2.2.2.2.2.2.2.2.2.2.2.2.2.2.2.2.2.2.2.1
def x_d1 (S : CX9) : ClassId := S.2.2.2.2.2.2.2.2.2.2.2.2.2.2.2.2.2.2.2.2.2.2.2.2.2.2.2.2.2.2.2.2.2.2.2.2.2.2.2.2.2.2.2.2.2.2.2.2.2.2.2.2.2.2.2.2.2.2.2.2.2.2.2.2.2.2.2.2.2.1
def x_d2 (S : CX9) : ClassId := S.2.2.2.2.2.2.2.2.2.2.2.2.2.2.2.2.2.2.2.2.2.2.2.2.2.2.2.2.2.2.2.2.2.2.2.2.2.2.2.2.2.2.2.2.2.2.2.2.2.2.2.2.2.2.2.2.2.2.2.2.2.2.2.2.2.2.2.2.2.2.1
def x_z0 (S : CX9) : Int32 := S.2.2.2.2.2.2.2.2.2.2.2.2.2.2.2.2.2.2.2.2.2.2.2.2.2.2.2.2.2.2.2.2.2.2.2.2.2.2.2.2.2.2.2.2.2.2.2.2.2.2.2.2.2.2.2.2.2.2.2.2.2.2.2.2.2.2.2.2.2.2.2.1
def x_z1 (S : CX9) : Int32 := S.2.2.2.2.2.2.2.2.2.2.2.2.2.2.2.2.2.2.2.2.2.2.2.2.2.2.2.2.2.2.2.2.2.2.2.2.2.2.2.2.2.2.2.2.2.2.2.2.2.2.2.2.2.2.2.2.2.2.2.2.2.2.2.2.2.2.2.2.2.2.2.2.1
def x_kf (S : CX9) : Nat → Int64 := S.2.2.2.2.2.2.2.2.2.2.2.2.2.2.2.2.2.2.2.2.2.2.2.2.2.2.2.2.2.2.2.2.2.2.2.2.2.2.2.2.2.2.2.2.2.2.2.2.2.2.2.2.2.2.2.2.2.2.2.2.2.2.2.2.2.2.2.2.2.2.2.2.2.1
def x_sf (S : CX9) : Nat → Int32 := S.2.2.2.2.2.2.2.2.2.2.2.2.2.2.2.2.2.2.2.2.2.2.2.2.2.2.2.2.2.2.2.2.2.2.2.2.2.2.2.2.2.2.2.2.2.2.2.2.2.2.2.2.2.2.2.2.2.2.2.2.2.2.2.2.2.2.2.2.2.2.2.2.2.2.1
def x_SA (S : CX9) : Nat → OS9 := S.2.2.2.2.2.2.2.2.2.2.2.2.2.2.2.2.2.2.2.2.2.2.2.2.2.2.2.2.2.2.2.2.2.2.2.2.2.2.2.2.2.2.2.2.2.2.2.2.2.2.2.2.2.2.2.2.2.2.2.2.2.2.2.2.2.2.2.2.2.2.2.2.2.2.2.1
def x_SB (S : CX9) : Nat → OS9 := S.2.2.2.2.2.2.2.2.2.2.2.2.2.2.2.2.2.2.2.2.2.2.2.2.2.2.2.2.2.2.2.2.2.2.2.2.2.2.2.2.2.2.2.2.2.2.2.2.2.2.2.2.2.2.2.2.2.2.2.2.2.2.2.2.2.2.2.2.2.2.2.2.2.2.2.2
def sW9 (a : Nat) (o : OS9) : va_W := [oc a 3 [.int (nI (o_E o)), .ref ((o_ad o) 1), .ref ((o_ad o) 2), .ref ((o_ad o) 3), .ref ((o_ad o) 4), .ref ((o_ad o) 5), .int (o_n0 o), .int (o_sd o), .int (o_rd o)], la ((o_ad o) 1) ((o_ck o) 1) (o_C o) (o_rf o), ia ((o_ad o) 2) ((o_ck o) 2) (o_C o) (o_vf o), ia ((o_ad o) 3) ((o_ck o) 3) (o_C o) (o_lf o), ia ((o_ad o) 4) ((o_ck o) 4) ((o_C o) * (o_E o)) (o_qf o), ia ((o_ad o) 5) ((o_ck o) 5) (o_C o) (fun i => nI ((o_of o) i))]
/-- all cells of the class -/
def cw9 (S : CX9) : va_W := [oc (x_oa S) 7 [.ref (x_pa S), .ref (x_ba S), .ref (x_ka S), .ref (x_xa S), .ref (x_ra1 S), .ref (x_ra2 S)], qa (x_ra1 S) (x_kr1 S) 4 (va_up (va_up (va_up (va_up (fun _ => none) 0 (some ((x_fA S) 0))) 1 (some ((x_fA S) 1))) 2 (some ((x_fA S) 2))) 3 (some ((x_fA S) 3))), qa (x_ra2 S) (x_kr2 S) 4 (va_up (va_up (va_up (va_up (fun _ => none) 0 (some ((x_fB S) 0))) 1 (some ((x_fB S) 1))) 2 (some ((x_fB S) 2))) 3 (some ((x_fB S) 3))),
  oc (x_ba S) 4 [.ref (x_pa S), .ref (x_ga S), .ref (x_sa S), .ref (x_b1 S), .ref (x_b2 S), (x_bv S), .int (x_m0 S), .int (x_x0 S), .int (x_x1 S)], ia (x_b1 S) (x_kb1 S) 14 (x_pv S), ia (x_b2 S) (x_kb2 S) 7 (fun i => nI ((x_rc S) i)),
  oc (x_ka S) 5 [.ref (x_pa S), .ref (x_ga S), .ref (x_sa S), .ref (x_kb S), .ref (x_q1 S), .ref (x_q2 S), .ref (x_q3 S), .ref (x_q4 S), (x_kv S)], ia (x_kb S) (x_kk1 S) 14 (x_kp S), ia (x_q1 S) (x_n1 S) 4 (fun i => nI ((x_rw S) i)), ia (x_q2 S) (x_n2 S) 4 (fun i => nI ((x_zz S) i)), ia (x_q3 S) (x_n3 S) 4 (fun i => nI ((x_le S) i)), ia (x_q4 S) (x_n4 S) 8 (fun i => nI ((x_tl S) i)),
  oc (x_xa S) 6 [.ref (x_pa S), .ref (x_ga S), .ref ((x_xA S) 0), .ref ((x_xA S) 1), .ref ((x_xA S) 2), .ref ((x_xA S) 3), .ref ((x_xA S) 4), .ref ((x_xA S) 5), .ref ((x_xA S) 6), .ref ((x_xA S) 7), .ref ((x_xA S) 8), .ref ((x_xA S) 9), .ref ((x_xA S) 10), .ref ((x_xA S) 11), (x_xv S), .int (x_y0 S), .int (nI (zm (x_Z S)))], ia ((x_xA S) 0) ((x_xK S) 0) 7 (x_u0 S), ia ((x_xA S) 1) ((x_xK S) 1) 4 (x_u1 S), ia ((x_xA S) 2) ((x_xK S) 2) 3 (x_u2 S), ia ((x_xA S) 3) ((x_xK S) 3) 7 (fun i => nI (((x_sc S) 3) i)), ia ((x_xA S) 4) ((x_xK S) 4) 7 (fun i => nI (((x_sc S) 4) i)), ia ((x_xA S) 5) ((x_xK S) 5) 7 (fun i => nI (((x_sc S) 5) i)), ia ((x_xA S) 6) ((x_xK S) 6) 8 (fun i => nI ((zr (x_Z S)) i)), ia ((x_xA S) 7) ((x_xK S) 7) 4 (fun i => nI ((zf (x_Z S)) i)), ia ((x_xA S) 8) ((x_xK S) 8) 4 (fun i => nI ((yl (zy (x_Z S))) i)), ia ((x_xA S) 9) ((x_xK S) 9) 7 (fun i => nI ((yb (zy (x_Z S))) i)), ia ((x_xA S) 10) ((x_xK S) 10) 7 (fun i => nI ((yo (zy (x_Z S))) i)), ia ((x_xA S) 11) ((x_xK S) 11) 7 (fun i => nI ((yh (zy (x_Z S))) i)),
  oc (x_ga S) 1 [.ref (x_pa S), .ref (x_g1 S), .ref (x_g2 S), .ref (x_g3 S), .int (nI (x_dn S)), .long (x_so S)], ia (x_g1 S) (x_l1 S) 4 (fun i => nI ((x_pl S) i)), ia (x_g2 S) (x_l2 S) 8 (x_rg S), ia (x_g3 S) (x_l3 S) 8 (x_vl S),
  oc (x_pa S) 0 [.ref ((x_pA S) 0), .ref ((x_pA S) 1), .ref ((x_pA S) 2), .ref ((x_pA S) 3), .ref ((x_pA S) 4), .ref ((x_pA S) 5), .ref ((x_pA S) 6), .ref ((x_pA S) 7), .ref ((x_pA S) 8), .ref ((x_pA S) 9), .ref ((x_pA S) 10), .int (nI (x_T S)), .int (nI (x_Ac S))], ia ((x_pA S) 0) ((x_pK S) 0) 4 (fun i => nI (((x_pg S) 0) i)), ia ((x_pA S) 1) ((x_pK S) 1) 28 (fun i => nI (((x_pg S) 1) i)), ia ((x_pA S) 2) ((x_pK S) 2) 7 (fun i => nI (((x_pg S) 2) i)), ia ((x_pA S) 3) ((x_pK S) 3) 7 (fun i => nI (((x_pg S) 3) i)), ia ((x_pA S) 4) ((x_pK S) 4) 7 (fun i => nI (((x_pg S) 4) i)), ia ((x_pA S) 5) ((x_pK S) 5) 7 (fun i => nI (((x_pg S) 5) i)), ia ((x_pA S) 6) ((x_pK S) 6) 7 (fun i => nI (((x_pg S) 6) i)), ia ((x_pA S) 7) ((x_pK S) 7) 7 (x_nm S), ia ((x_pA S) 8) ((x_pK S) 8) 4 (fun i => nI (((x_pg S) 8) i)), ia ((x_pA S) 9) ((x_pK S) 9) 6 (fun i => nI (((x_pg S) 9) i)), ia ((x_pA S) 10) ((x_pK S) 10) 3 (fun i => nI (((x_pg S) 10) i)),
  oc (x_sa S) 2 [.ref (x_j1 S), .ref (x_j2 S), .int (x_z0 S), .int (x_z1 S)], la (x_j1 S) (x_d1 S) (x_KL S) (x_kf S), ia (x_j2 S) (x_d2 S) (x_SL S) (x_sf S)] ++ (sW9 ((x_fA S) 0) ((x_SA S) 0) ++ (sW9 ((x_fA S) 1) ((x_SA S) 1) ++ (sW9 ((x_fA S) 2) ((x_SA S) 2) ++ (sW9 ((x_fA S) 3) ((x_SA S) 3) ++ (sW9 ((x_fB S) 0) ((x_SB S) 0) ++ (sW9 ((x_fB S) 1) ((x_SB S) 1) ++ (sW9 ((x_fB S) 2) ((x_SB S) 2) ++ sW9 ((x_fB S) 3) ((x_SB S) 3))))))))
def sT9 (o : OS9) : List (ClassId × FieldType) := [(((o_ck o) 1), .long), (((o_ck o) 2), .int), (((o_ck o) 3), .int), (((o_ck o) 4), .int), (((o_ck o) 5), .int)]
/-- the arrays' classes -/
def ct9 (S : CX9) : List (ClassId × FieldType) := [((x_kr1 S), .object "OrderModels$OutcomeSet"), ((x_kr2 S), .object "OrderModels$OutcomeSet"), ((x_kb1 S), .int), ((x_kb2 S), .int), ((x_kk1 S), .int), ((x_n1 S), .int), ((x_n2 S), .int), ((x_n3 S), .int), ((x_n4 S), .int),
  (((x_xK S) 0), .int), (((x_xK S) 1), .int), (((x_xK S) 2), .int), (((x_xK S) 3), .int), (((x_xK S) 4), .int), (((x_xK S) 5), .int), (((x_xK S) 6), .int), (((x_xK S) 7), .int), (((x_xK S) 8), .int), (((x_xK S) 9), .int), (((x_xK S) 10), .int), (((x_xK S) 11), .int), ((x_l1 S), .int), ((x_l2 S), .int), ((x_l3 S), .int),
  (((x_pK S) 0), .int), (((x_pK S) 1), .int), (((x_pK S) 2), .int), (((x_pK S) 3), .int), (((x_pK S) 4), .int), (((x_pK S) 5), .int), (((x_pK S) 6), .int), (((x_pK S) 7), .int), (((x_pK S) 8), .int), (((x_pK S) 9), .int), (((x_pK S) 10), .int), ((x_d1 S), .long), ((x_d2 S), .int)] ++ (sT9 ((x_SA S) 0) ++ (sT9 ((x_SA S) 1) ++ (sT9 ((x_SA S) 2) ++ (sT9 ((x_SA S) 3) ++ (sT9 ((x_SB S) 0) ++ (sT9 ((x_SB S) 1) ++ (sT9 ((x_SB S) 2) ++ sT9 ((x_SB S) 3))))))))
/-- behind a call of a part: the rest and the part's new cells, in order -/
theorem lj9 {D : va_G} {cl : List vw_C} {ws wc wr w1 ws2 : va_W} {st t : State} {sz : Nat} (hz : st.heap.size = sz) (hP : va_P D cl ws st.heap) (hD : va_D (fun _ => True) ws) (isC isR isP : List Nat) (hC : isC.map (fun i => ws[i]?) = wc.map some) (hR : isR.map (fun i => ws[i]?) = wr.map some) (hn : va_nd isR = true) (hdis : (isR.all (fun i => !isC.contains i)) = true)
    (hF : va_F (va_A wc sz) st t) (hP1 : va_P D cl w1 t.heap) (hD1 : va_D (va_A wc sz) w1) (hn2 : va_nd isP = true) (hw2 : isP.map (fun i => (wr ++ w1)[i]?) = ws2.map some) : va_P D cl ws2 t.heap ∧ va_D (va_A ws sz) ws2 ∧ va_F (va_A ws sz) st t := by
  subst hz
  have hsub : ∀ q, va_A wc st.heap.size q → va_A ws st.heap.size q := va_free (A0 := va_A ws st.heap.size) (H0 := st.heap) (locs := []) (hD.self) va_S.rf (fun q h => Or.inr h) isC hC
  have hj := va_join hP (hD.self (sz := st.heap.size)) isC isR hC hR hn (fun i hi w => by
    have := List.all_eq_true.mp hdis i hi
    simp [w] at this) hF.2 hsub hP1 hD1
  exact ⟨hj.1.sub isP (fm_of hw2), hj.2.sub isP hn2 hw2, hF.1, fun q h1 h2 => hF.2 q h1 (fun w => h2 (hsub q w))⟩
/-- a contract of a part of the world is one of the world -/
theorem Met_lift {l : Launch} {y : MethodName} {cs : List Cond} {rm : Room} {D : va_G} {cl : List vw_C} {as : List Value} {sz : Nat} {ws wc : va_W} {ts tc : List (ClassId × FieldType)} {Qc Qc' : Array Value → State → Outcome → State → Prop} {mc ms : Nat}
    (h : Met l y cs rm (va_Pc as (fun U => U.heap.size = sz ∧ va_P D cl wc U.heap ∧ va_K D cl tc U ∧ va_D (fun _ => True) wc ∧ nw U)) Qc mc ms (va_A wc sz)) (isC isK : List Nat) (hn : va_nd isC = true) (hC : isC.map (fun i => ws[i]?) = wc.map some) (hK : isK.filterMap (fun i => ts[i]?) = tc)
    (hQ : ∀ a st o t, (st.heap.size = sz ∧ va_P D cl ws st.heap ∧ va_K D cl ts st ∧ va_D (fun _ => True) ws ∧ nw st) → Qc a st o t → Qc' a st o t) :
    Met l y cs rm (va_Pc as (fun U => U.heap.size = sz ∧ va_P D cl ws U.heap ∧ va_K D cl ts U ∧ va_D (fun _ => True) ws ∧ nw U)) Qc' mc ms (va_A ws sz) := by
  intro p e h1 h2 h3 s m args below hf hS hp hk
  obtain ⟨e0, z1, z2, z3, z4, z5⟩ := hp
  obtain ⟨n, o, w1, w2, w3, w4, L, w5, w6⟩ := h p e h1 h2 h3 s m args below hf hS ⟨e0, z1, z2.sub isC (fm_of hC), z3.sub isK hK, z4.sub isC hn hC, z5⟩ hk
  have hsub : ∀ q, va_A wc s.heap.size q → va_A ws s.heap.size q := va_free (A0 := va_A ws s.heap.size) (H0 := s.heap) (locs := []) (z4.self) va_S.rf (fun q h => Or.inr h) isC hC
  rw [z1] at hsub
  exact ⟨n, o, w1, w2, w3, hQ _ _ _ _ ⟨z1, z2, z3, z4, z5⟩ w4, L, w5, fun q hq => hsub _ (w6 q hq)⟩
theorem KM9 {D : va_G} {cl : List vw_C} {t1 t2 t3 : List (ClassId × FieldType)} {U : State} (h1 : va_K D cl t1 U) (h2 : va_K D cl t2 U) (h : ∀ q, q ∈ t3 → q ∈ t1 ∨ q ∈ t2) : va_K D cl t3 U := by
  refine ⟨h1.1, fun k q hk => ?_⟩
  rcases h q (List.mem_of_getElem? hk) with w | w
  · obtain ⟨i, hi⟩ := List.mem_iff_getElem?.mp w
    exact h1.2 i q hi
  · obtain ⟨i, hi⟩ := List.mem_iff_getElem?.mp w
    exact h2.2 i q hi
