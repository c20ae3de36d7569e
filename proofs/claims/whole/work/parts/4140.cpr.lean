/-- the sets are found no more -/
def fg9 (f : Nat → OS9) : Nat → OS9 := fun i => (o_E (f i), o_C (f i), o_ad (f i), o_ck (f i), o_rf (f i), o_vf (f i), o_lf (f i), o_qf (f i), o_of (f i), o_n0 (f i), o_sd (f i), 0)
def clP9 (pg : Nat → Nat → Nat) : Nat → Nat → Nat := fun k => if k = 0 ∨ k = 8 ∨ k = 9 ∨ k = 10 then fun _ => 0 else pg k
def nT9 (S : CX9) : CX9 := (x_oa S, x_pa S, x_ga S, x_g1 S, x_g2 S, x_g3 S, x_sa S, x_ba S, x_b1 S, x_b2 S, x_ka S, x_kb S, x_xa S, x_ra1 S, x_ra2 S, x_q1 S, x_q2 S, x_q3 S, x_q4 S, x_pA S, x_xA S, x_fA S, x_fB S, x_pK S, x_xK S, x_l1 S, x_l2 S, x_l3 S, x_kb1 S, x_kb2 S, x_kk1 S, x_n1 S, x_n2 S, x_n3 S, x_n4 S, x_kr1 S, x_kr2 S, x_T S + 1, x_Ac S, x_pg S, x_nm S, x_dn S, x_so S, x_pl S, x_rg S, x_vl S, x_bv S, x_m0 S, x_x0 S, x_x1 S, x_pv S, x_rc S, x_kv S, x_kp S, x_rw S, x_zz S, x_le S, x_tl S, x_xv S, x_y0 S, x_u0 S, x_u1 S, x_u2 S, x_sc S, x_Z S, x_KL S, x_SL S, x_j1 S, x_j2 S, x_d1 S, x_d2 S, x_z0 S, x_z1 S, x_kf S, x_sf S, fg9 (x_SA S), fg9 (x_SB S))
theorem nT9_oa {S : CX9} : x_oa (nT9 S) = x_oa S := rfl
theorem nT9_pa {S : CX9} : x_pa (nT9 S) = x_pa S := rfl
theorem nT9_ga {S : CX9} : x_ga (nT9 S) = x_ga S := rfl
theorem nT9_g1 {S : CX9} : x_g1 (nT9 S) = x_g1 S := rfl
theorem nT9_g2 {S : CX9} : x_g2 (nT9 S) = x_g2 S := rfl
theorem nT9_g3 {S : CX9} : x_g3 (nT9 S) = x_g3 S := rfl
theorem nT9_sa {S : CX9} : x_sa (nT9 S) = x_sa S := rfl
theorem nT9_ba {S : CX9} : x_ba (nT9 S) = x_ba S := rfl
theorem nT9_b1 {S : CX9} : x_b1 (nT9 S) = x_b1 S := rfl
theorem nT9_b2 {S : CX9} : x_b2 (nT9 S) = x_b2 S := rfl
theorem nT9_ka {S : CX9} : x_ka (nT9 S) = x_ka S := rfl
theorem nT9_kb {S : CX9} : x_kb (nT9 S) = x_kb S := rfl
theorem nT9_xa {S : CX9} : x_xa (nT9 S) = x_xa S := rfl
theorem nT9_ra1 {S : CX9} : x_ra1 (nT9 S) = x_ra1 S := rfl
theorem nT9_ra2 {S : CX9} : x_ra2 (nT9 S) = x_ra2 S := rfl
theorem nT9_q1 {S : CX9} : x_q1 (nT9 S) = x_q1 S := rfl
theorem nT9_q2 {S : CX9} : x_q2 (nT9 S) = x_q2 S := rfl
theorem nT9_q3 {S : CX9} : x_q3 (nT9 S) = x_q3 S := rfl
theorem nT9_q4 {S : CX9} : x_q4 (nT9 S) = x_q4 S := rfl
theorem nT9_pA {S : CX9} : x_pA (nT9 S) = x_pA S := rfl
theorem nT9_xA {S : CX9} : x_xA (nT9 S) = x_xA S := rfl
theorem nT9_fA {S : CX9} : x_fA (nT9 S) = x_fA S := rfl
theorem nT9_fB {S : CX9} : x_fB (nT9 S) = x_fB S := rfl
theorem nT9_pK {S : CX9} : x_pK (nT9 S) = x_pK S := rfl
theorem nT9_xK {S : CX9} : x_xK (nT9 S) = x_xK S := rfl
theorem nT9_l1 {S : CX9} : x_l1 (nT9 S) = x_l1 S := rfl
theorem nT9_l2 {S : CX9} : x_l2 (nT9 S) = x_l2 S := rfl
theorem nT9_l3 {S : CX9} : x_l3 (nT9 S) = x_l3 S := rfl
theorem nT9_kb1 {S : CX9} : x_kb1 (nT9 S) = x_kb1 S := rfl
theorem nT9_kb2 {S : CX9} : x_kb2 (nT9 S) = x_kb2 S := rfl
theorem nT9_kk1 {S : CX9} : x_kk1 (nT9 S) = x_kk1 S := rfl
theorem nT9_n1 {S : CX9} : x_n1 (nT9 S) = x_n1 S := rfl
theorem nT9_n2 {S : CX9} : x_n2 (nT9 S) = x_n2 S := rfl
theorem nT9_n3 {S : CX9} : x_n3 (nT9 S) = x_n3 S := rfl
theorem nT9_n4 {S : CX9} : x_n4 (nT9 S) = x_n4 S := rfl
theorem nT9_kr1 {S : CX9} : x_kr1 (nT9 S) = x_kr1 S := rfl
theorem nT9_kr2 {S : CX9} : x_kr2 (nT9 S) = x_kr2 S := rfl
theorem nT9_T {S : CX9} : x_T (nT9 S) = x_T S + 1 := rfl
theorem nT9_Ac {S : CX9} : x_Ac (nT9 S) = x_Ac S := rfl
theorem nT9_pg {S : CX9} : x_pg (nT9 S) = x_pg S := rfl
theorem nT9_nm {S : CX9} : x_nm (nT9 S) = x_nm S := rfl
theorem nT9_dn {S : CX9} : x_dn (nT9 S) = x_dn S := rfl
theorem nT9_so {S : CX9} : x_so (nT9 S) = x_so S := rfl
theorem nT9_pl {S : CX9} : x_pl (nT9 S) = x_pl S := rfl
theorem nT9_rg {S : CX9} : x_rg (nT9 S) = x_rg S := rfl
theorem nT9_vl {S : CX9} : x_vl (nT9 S) = x_vl S := rfl
theorem nT9_bv {S : CX9} : x_bv (nT9 S) = x_bv S := rfl
theorem nT9_m0 {S : CX9} : x_m0 (nT9 S) = x_m0 S := rfl
theorem nT9_x0 {S : CX9} : x_x0 (nT9 S) = x_x0 S := rfl
theorem nT9_x1 {S : CX9} : x_x1 (nT9 S) = x_x1 S := rfl
theorem nT9_pv {S : CX9} : x_pv (nT9 S) = x_pv S := rfl
theorem nT9_rc {S : CX9} : x_rc (nT9 S) = x_rc S := rfl
theorem nT9_kv {S : CX9} : x_kv (nT9 S) = x_kv S := rfl
theorem nT9_kp {S : CX9} : x_kp (nT9 S) = x_kp S := rfl
theorem nT9_rw {S : CX9} : x_rw (nT9 S) = x_rw S := rfl
theorem nT9_zz {S : CX9} : x_zz (nT9 S) = x_zz S := rfl
theorem nT9_le {S : CX9} : x_le (nT9 S) = x_le S := rfl
theorem nT9_tl {S : CX9} : x_tl (nT9 S) = x_tl S := rfl
theorem nT9_xv {S : CX9} : x_xv (nT9 S) = x_xv S := rfl
theorem nT9_y0 {S : CX9} : x_y0 (nT9 S) = x_y0 S := rfl
theorem nT9_u0 {S : CX9} : x_u0 (nT9 S) = x_u0 S := rfl
theorem nT9_u1 {S : CX9} : x_u1 (nT9 S) = x_u1 S := rfl
theorem nT9_u2 {S : CX9} : x_u2 (nT9 S) = x_u2 S := rfl
theorem nT9_sc {S : CX9} : x_sc (nT9 S) = x_sc S := rfl
theorem nT9_Z {S : CX9} : x_Z (nT9 S) = x_Z S := rfl
theorem nT9_KL {S : CX9} : x_KL (nT9 S) = x_KL S := rfl
theorem nT9_SL {S : CX9} : x_SL (nT9 S) = x_SL S := rfl
theorem nT9_j1 {S : CX9} : x_j1 (nT9 S) = x_j1 S := rfl
theorem nT9_j2 {S : CX9} : x_j2 (nT9 S) = x_j2 S := rfl
theorem nT9_d1 {S : CX9} : x_d1 (nT9 S) = x_d1 S := rfl
theorem nT9_d2 {S : CX9} : x_d2 (nT9 S) = x_d2 S := rfl
theorem nT9_z0 {S : CX9} : x_z0 (nT9 S) = x_z0 S := rfl
theorem nT9_z1 {S : CX9} : x_z1 (nT9 S) = x_z1 S := rfl
theorem nT9_kf {S : CX9} : x_kf (nT9 S) = x_kf S := rfl
theorem nT9_sf {S : CX9} : x_sf (nT9 S) = x_sf S := rfl
theorem nT9_SA {S : CX9} : x_SA (nT9 S) = fg9 (x_SA S) := rfl
theorem nT9_SB {S : CX9} : x_SB (nT9 S) = fg9 (x_SB S) := rfl
def nA9 (S : CX9) (t k x rn : Nat) (v : Int32) : CX9 := (x_oa S, x_pa S, x_ga S, x_g1 S, x_g2 S, x_g3 S, x_sa S, x_ba S, x_b1 S, x_b2 S, x_ka S, x_kb S, x_xa S, x_ra1 S, x_ra2 S, x_q1 S, x_q2 S, x_q3 S, x_q4 S, x_pA S, x_xA S, x_fA S, x_fB S, x_pK S, x_xK S, x_l1 S, x_l2 S, x_l3 S, x_kb1 S, x_kb2 S, x_kk1 S, x_n1 S, x_n2 S, x_n3 S, x_n4 S, x_kr1 S, x_kr2 S, x_T S, x_Ac S + 1, addA (x_pg S) t (x_Ac S) k x rn, upd (x_nm S) (x_Ac S) v, x_dn S, x_so S, x_pl S, x_rg S, x_vl S, x_bv S, x_m0 S, x_x0 S, x_x1 S, x_pv S, x_rc S, x_kv S, x_kp S, x_rw S, x_zz S, x_le S, x_tl S, x_xv S, x_y0 S, x_u0 S, x_u1 S, x_u2 S, x_sc S, x_Z S, x_KL S, x_SL S, x_j1 S, x_j2 S, x_d1 S, x_d2 S, x_z0 S, x_z1 S, x_kf S, x_sf S, fg9 (x_SA S), fg9 (x_SB S))
theorem nA9_oa {S : CX9} {t k x rn : Nat} {v : Int32} : x_oa (nA9 S t k x rn v) = x_oa S := rfl
theorem nA9_pa {S : CX9} {t k x rn : Nat} {v : Int32} : x_pa (nA9 S t k x rn v) = x_pa S := rfl
theorem nA9_ga {S : CX9} {t k x rn : Nat} {v : Int32} : x_ga (nA9 S t k x rn v) = x_ga S := rfl
theorem nA9_g1 {S : CX9} {t k x rn : Nat} {v : Int32} : x_g1 (nA9 S t k x rn v) = x_g1 S := rfl
theorem nA9_g2 {S : CX9} {t k x rn : Nat} {v : Int32} : x_g2 (nA9 S t k x rn v) = x_g2 S := rfl
theorem nA9_g3 {S : CX9} {t k x rn : Nat} {v : Int32} : x_g3 (nA9 S t k x rn v) = x_g3 S := rfl
theorem nA9_sa {S : CX9} {t k x rn : Nat} {v : Int32} : x_sa (nA9 S t k x rn v) = x_sa S := rfl
theorem nA9_ba {S : CX9} {t k x rn : Nat} {v : Int32} : x_ba (nA9 S t k x rn v) = x_ba S := rfl
theorem nA9_b1 {S : CX9} {t k x rn : Nat} {v : Int32} : x_b1 (nA9 S t k x rn v) = x_b1 S := rfl
theorem nA9_b2 {S : CX9} {t k x rn : Nat} {v : Int32} : x_b2 (nA9 S t k x rn v) = x_b2 S := rfl
theorem nA9_ka {S : CX9} {t k x rn : Nat} {v : Int32} : x_ka (nA9 S t k x rn v) = x_ka S := rfl
theorem nA9_kb {S : CX9} {t k x rn : Nat} {v : Int32} : x_kb (nA9 S t k x rn v) = x_kb S := rfl
theorem nA9_xa {S : CX9} {t k x rn : Nat} {v : Int32} : x_xa (nA9 S t k x rn v) = x_xa S := rfl
theorem nA9_ra1 {S : CX9} {t k x rn : Nat} {v : Int32} : x_ra1 (nA9 S t k x rn v) = x_ra1 S := rfl
theorem nA9_ra2 {S : CX9} {t k x rn : Nat} {v : Int32} : x_ra2 (nA9 S t k x rn v) = x_ra2 S := rfl
theorem nA9_q1 {S : CX9} {t k x rn : Nat} {v : Int32} : x_q1 (nA9 S t k x rn v) = x_q1 S := rfl
theorem nA9_q2 {S : CX9} {t k x rn : Nat} {v : Int32} : x_q2 (nA9 S t k x rn v) = x_q2 S := rfl
theorem nA9_q3 {S : CX9} {t k x rn : Nat} {v : Int32} : x_q3 (nA9 S t k x rn v) = x_q3 S := rfl
theorem nA9_q4 {S : CX9} {t k x rn : Nat} {v : Int32} : x_q4 (nA9 S t k x rn v) = x_q4 S := rfl
theorem nA9_pA {S : CX9} {t k x rn : Nat} {v : Int32} : x_pA (nA9 S t k x rn v) = x_pA S := rfl
theorem nA9_xA {S : CX9} {t k x rn : Nat} {v : Int32} : x_xA (nA9 S t k x rn v) = x_xA S := rfl
theorem nA9_fA {S : CX9} {t k x rn : Nat} {v : Int32} : x_fA (nA9 S t k x rn v) = x_fA S := rfl
theorem nA9_fB {S : CX9} {t k x rn : Nat} {v : Int32} : x_fB (nA9 S t k x rn v) = x_fB S := rfl
theorem nA9_pK {S : CX9} {t k x rn : Nat} {v : Int32} : x_pK (nA9 S t k x rn v) = x_pK S := rfl
theorem nA9_xK {S : CX9} {t k x rn : Nat} {v : Int32} : x_xK (nA9 S t k x rn v) = x_xK S := rfl
theorem nA9_l1 {S : CX9} {t k x rn : Nat} {v : Int32} : x_l1 (nA9 S t k x rn v) = x_l1 S := rfl
theorem nA9_l2 {S : CX9} {t k x rn : Nat} {v : Int32} : x_l2 (nA9 S t k x rn v) = x_l2 S := rfl
theorem nA9_l3 {S : CX9} {t k x rn : Nat} {v : Int32} : x_l3 (nA9 S t k x rn v) = x_l3 S := rfl
theorem nA9_kb1 {S : CX9} {t k x rn : Nat} {v : Int32} : x_kb1 (nA9 S t k x rn v) = x_kb1 S := rfl
theorem nA9_kb2 {S : CX9} {t k x rn : Nat} {v : Int32} : x_kb2 (nA9 S t k x rn v) = x_kb2 S := rfl
theorem nA9_kk1 {S : CX9} {t k x rn : Nat} {v : Int32} : x_kk1 (nA9 S t k x rn v) = x_kk1 S := rfl
theorem nA9_n1 {S : CX9} {t k x rn : Nat} {v : Int32} : x_n1 (nA9 S t k x rn v) = x_n1 S := rfl
theorem nA9_n2 {S : CX9} {t k x rn : Nat} {v : Int32} : x_n2 (nA9 S t k x rn v) = x_n2 S := rfl
theorem nA9_n3 {S : CX9} {t k x rn : Nat} {v : Int32} : x_n3 (nA9 S t k x rn v) = x_n3 S := rfl
theorem nA9_n4 {S : CX9} {t k x rn : Nat} {v : Int32} : x_n4 (nA9 S t k x rn v) = x_n4 S := rfl
theorem nA9_kr1 {S : CX9} {t k x rn : Nat} {v : Int32} : x_kr1 (nA9 S t k x rn v) = x_kr1 S := rfl
theorem nA9_kr2 {S : CX9} {t k x rn : Nat} {v : Int32} : x_kr2 (nA9 S t k x rn v) = x_kr2 S := rfl
theorem nA9_T {S : CX9} {t k x rn : Nat} {v : Int32} : x_T (nA9 S t k x rn v) = x_T S := rfl
theorem nA9_Ac {S : CX9} {t k x rn : Nat} {v : Int32} : x_Ac (nA9 S t k x rn v) = x_Ac S + 1 := rfl
theorem nA9_pg {S : CX9} {t k x rn : Nat} {v : Int32} : x_pg (nA9 S t k x rn v) = addA (x_pg S) t (x_Ac S) k x rn := rfl
theorem nA9_nm {S : CX9} {t k x rn : Nat} {v : Int32} : x_nm (nA9 S t k x rn v) = upd (x_nm S) (x_Ac S) v := rfl
theorem nA9_dn {S : CX9} {t k x rn : Nat} {v : Int32} : x_dn (nA9 S t k x rn v) = x_dn S := rfl
theorem nA9_so {S : CX9} {t k x rn : Nat} {v : Int32} : x_so (nA9 S t k x rn v) = x_so S := rfl
theorem nA9_pl {S : CX9} {t k x rn : Nat} {v : Int32} : x_pl (nA9 S t k x rn v) = x_pl S := rfl
theorem nA9_rg {S : CX9} {t k x rn : Nat} {v : Int32} : x_rg (nA9 S t k x rn v) = x_rg S := rfl
theorem nA9_vl {S : CX9} {t k x rn : Nat} {v : Int32} : x_vl (nA9 S t k x rn v) = x_vl S := rfl
theorem nA9_bv {S : CX9} {t k x rn : Nat} {v : Int32} : x_bv (nA9 S t k x rn v) = x_bv S := rfl
theorem nA9_m0 {S : CX9} {t k x rn : Nat} {v : Int32} : x_m0 (nA9 S t k x rn v) = x_m0 S := rfl
theorem nA9_x0 {S : CX9} {t k x rn : Nat} {v : Int32} : x_x0 (nA9 S t k x rn v) = x_x0 S := rfl
theorem nA9_x1 {S : CX9} {t k x rn : Nat} {v : Int32} : x_x1 (nA9 S t k x rn v) = x_x1 S := rfl
theorem nA9_pv {S : CX9} {t k x rn : Nat} {v : Int32} : x_pv (nA9 S t k x rn v) = x_pv S := rfl
theorem nA9_rc {S : CX9} {t k x rn : Nat} {v : Int32} : x_rc (nA9 S t k x rn v) = x_rc S := rfl
theorem nA9_kv {S : CX9} {t k x rn : Nat} {v : Int32} : x_kv (nA9 S t k x rn v) = x_kv S := rfl
theorem nA9_kp {S : CX9} {t k x rn : Nat} {v : Int32} : x_kp (nA9 S t k x rn v) = x_kp S := rfl
theorem nA9_rw {S : CX9} {t k x rn : Nat} {v : Int32} : x_rw (nA9 S t k x rn v) = x_rw S := rfl
theorem nA9_zz {S : CX9} {t k x rn : Nat} {v : Int32} : x_zz (nA9 S t k x rn v) = x_zz S := rfl
theorem nA9_le {S : CX9} {t k x rn : Nat} {v : Int32} : x_le (nA9 S t k x rn v) = x_le S := rfl
theorem nA9_tl {S : CX9} {t k x rn : Nat} {v : Int32} : x_tl (nA9 S t k x rn v) = x_tl S := rfl
theorem nA9_xv {S : CX9} {t k x rn : Nat} {v : Int32} : x_xv (nA9 S t k x rn v) = x_xv S := rfl
theorem nA9_y0 {S : CX9} {t k x rn : Nat} {v : Int32} : x_y0 (nA9 S t k x rn v) = x_y0 S := rfl
theorem nA9_u0 {S : CX9} {t k x rn : Nat} {v : Int32} : x_u0 (nA9 S t k x rn v) = x_u0 S := rfl
theorem nA9_u1 {S : CX9} {t k x rn : Nat} {v : Int32} : x_u1 (nA9 S t k x rn v) = x_u1 S := rfl
theorem nA9_u2 {S : CX9} {t k x rn : Nat} {v : Int32} : x_u2 (nA9 S t k x rn v) = x_u2 S := rfl
theorem nA9_sc {S : CX9} {t k x rn : Nat} {v : Int32} : x_sc (nA9 S t k x rn v) = x_sc S := rfl
theorem nA9_Z {S : CX9} {t k x rn : Nat} {v : Int32} : x_Z (nA9 S t k x rn v) = x_Z S := rfl
theorem nA9_KL {S : CX9} {t k x rn : Nat} {v : Int32} : x_KL (nA9 S t k x rn v) = x_KL S := rfl
theorem nA9_SL {S : CX9} {t k x rn : Nat} {v : Int32} : x_SL (nA9 S t k x rn v) = x_SL S := rfl
theorem nA9_j1 {S : CX9} {t k x rn : Nat} {v : Int32} : x_j1 (nA9 S t k x rn v) = x_j1 S := rfl
theorem nA9_j2 {S : CX9} {t k x rn : Nat} {v : Int32} : x_j2 (nA9 S t k x rn v) = x_j2 S := rfl
theorem nA9_d1 {S : CX9} {t k x rn : Nat} {v : Int32} : x_d1 (nA9 S t k x rn v) = x_d1 S := rfl
theorem nA9_d2 {S : CX9} {t k x rn : Nat} {v : Int32} : x_d2 (nA9 S t k x rn v) = x_d2 S := rfl
theorem nA9_z0 {S : CX9} {t k x rn : Nat} {v : Int32} : x_z0 (nA9 S t k x rn v) = x_z0 S := rfl
theorem nA9_z1 {S : CX9} {t k x rn : Nat} {v : Int32} : x_z1 (nA9 S t k x rn v) = x_z1 S := rfl
theorem nA9_kf {S : CX9} {t k x rn : Nat} {v : Int32} : x_kf (nA9 S t k x rn v) = x_kf S := rfl
theorem nA9_sf {S : CX9} {t k x rn : Nat} {v : Int32} : x_sf (nA9 S t k x rn v) = x_sf S := rfl
theorem nA9_SA {S : CX9} {t k x rn : Nat} {v : Int32} : x_SA (nA9 S t k x rn v) = fg9 (x_SA S) := rfl
theorem nA9_SB {S : CX9} {t k x rn : Nat} {v : Int32} : x_SB (nA9 S t k x rn v) = fg9 (x_SB S) := rfl
def nC9 (S : CX9) : CX9 := (x_oa S, x_pa S, x_ga S, x_g1 S, x_g2 S, x_g3 S, x_sa S, x_ba S, x_b1 S, x_b2 S, x_ka S, x_kb S, x_xa S, x_ra1 S, x_ra2 S, x_q1 S, x_q2 S, x_q3 S, x_q4 S, x_pA S, x_xA S, x_fA S, x_fB S, x_pK S, x_xK S, x_l1 S, x_l2 S, x_l3 S, x_kb1 S, x_kb2 S, x_kk1 S, x_n1 S, x_n2 S, x_n3 S, x_n4 S, x_kr1 S, x_kr2 S, 0, 0, clP9 (x_pg S), x_nm S, x_dn S, x_so S, x_pl S, x_rg S, x_vl S, x_bv S, x_m0 S, x_x0 S, x_x1 S, x_pv S, x_rc S, x_kv S, x_kp S, x_rw S, x_zz S, x_le S, x_tl S, x_xv S, x_y0 S, x_u0 S, x_u1 S, x_u2 S, x_sc S, x_Z S, x_KL S, x_SL S, x_j1 S, x_j2 S, x_d1 S, x_d2 S, x_z0 S, x_z1 S, x_kf S, x_sf S, fg9 (x_SA S), fg9 (x_SB S))
theorem nC9_oa {S : CX9} : x_oa (nC9 S) = x_oa S := rfl
theorem nC9_pa {S : CX9} : x_pa (nC9 S) = x_pa S := rfl
theorem nC9_ga {S : CX9} : x_ga (nC9 S) = x_ga S := rfl
theorem nC9_g1 {S : CX9} : x_g1 (nC9 S) = x_g1 S := rfl
theorem nC9_g2 {S : CX9} : x_g2 (nC9 S) = x_g2 S := rfl
theorem nC9_g3 {S : CX9} : x_g3 (nC9 S) = x_g3 S := rfl
theorem nC9_sa {S : CX9} : x_sa (nC9 S) = x_sa S := rfl
theorem nC9_ba {S : CX9} : x_ba (nC9 S) = x_ba S := rfl
theorem nC9_b1 {S : CX9} : x_b1 (nC9 S) = x_b1 S := rfl
theorem nC9_b2 {S : CX9} : x_b2 (nC9 S) = x_b2 S := rfl
theorem nC9_ka {S : CX9} : x_ka (nC9 S) = x_ka S := rfl
theorem nC9_kb {S : CX9} : x_kb (nC9 S) = x_kb S := rfl
theorem nC9_xa {S : CX9} : x_xa (nC9 S) = x_xa S := rfl
theorem nC9_ra1 {S : CX9} : x_ra1 (nC9 S) = x_ra1 S := rfl
theorem nC9_ra2 {S : CX9} : x_ra2 (nC9 S) = x_ra2 S := rfl
theorem nC9_q1 {S : CX9} : x_q1 (nC9 S) = x_q1 S := rfl
theorem nC9_q2 {S : CX9} : x_q2 (nC9 S) = x_q2 S := rfl
theorem nC9_q3 {S : CX9} : x_q3 (nC9 S) = x_q3 S := rfl
theorem nC9_q4 {S : CX9} : x_q4 (nC9 S) = x_q4 S := rfl
theorem nC9_pA {S : CX9} : x_pA (nC9 S) = x_pA S := rfl
theorem nC9_xA {S : CX9} : x_xA (nC9 S) = x_xA S := rfl
theorem nC9_fA {S : CX9} : x_fA (nC9 S) = x_fA S := rfl
theorem nC9_fB {S : CX9} : x_fB (nC9 S) = x_fB S := rfl
theorem nC9_pK {S : CX9} : x_pK (nC9 S) = x_pK S := rfl
theorem nC9_xK {S : CX9} : x_xK (nC9 S) = x_xK S := rfl
theorem nC9_l1 {S : CX9} : x_l1 (nC9 S) = x_l1 S := rfl
theorem nC9_l2 {S : CX9} : x_l2 (nC9 S) = x_l2 S := rfl
theorem nC9_l3 {S : CX9} : x_l3 (nC9 S) = x_l3 S := rfl
theorem nC9_kb1 {S : CX9} : x_kb1 (nC9 S) = x_kb1 S := rfl
theorem nC9_kb2 {S : CX9} : x_kb2 (nC9 S) = x_kb2 S := rfl
theorem nC9_kk1 {S : CX9} : x_kk1 (nC9 S) = x_kk1 S := rfl
theorem nC9_n1 {S : CX9} : x_n1 (nC9 S) = x_n1 S := rfl
theorem nC9_n2 {S : CX9} : x_n2 (nC9 S) = x_n2 S := rfl
theorem nC9_n3 {S : CX9} : x_n3 (nC9 S) = x_n3 S := rfl
theorem nC9_n4 {S : CX9} : x_n4 (nC9 S) = x_n4 S := rfl
theorem nC9_kr1 {S : CX9} : x_kr1 (nC9 S) = x_kr1 S := rfl
theorem nC9_kr2 {S : CX9} : x_kr2 (nC9 S) = x_kr2 S := rfl
theorem nC9_T {S : CX9} : x_T (nC9 S) = 0 := rfl
theorem nC9_Ac {S : CX9} : x_Ac (nC9 S) = 0 := rfl
theorem nC9_pg {S : CX9} : x_pg (nC9 S) = clP9 (x_pg S) := rfl
theorem nC9_nm {S : CX9} : x_nm (nC9 S) = x_nm S := rfl
theorem nC9_dn {S : CX9} : x_dn (nC9 S) = x_dn S := rfl
theorem nC9_so {S : CX9} : x_so (nC9 S) = x_so S := rfl
theorem nC9_pl {S : CX9} : x_pl (nC9 S) = x_pl S := rfl
theorem nC9_rg {S : CX9} : x_rg (nC9 S) = x_rg S := rfl
theorem nC9_vl {S : CX9} : x_vl (nC9 S) = x_vl S := rfl
theorem nC9_bv {S : CX9} : x_bv (nC9 S) = x_bv S := rfl
theorem nC9_m0 {S : CX9} : x_m0 (nC9 S) = x_m0 S := rfl
theorem nC9_x0 {S : CX9} : x_x0 (nC9 S) = x_x0 S := rfl
theorem nC9_x1 {S : CX9} : x_x1 (nC9 S) = x_x1 S := rfl
theorem nC9_pv {S : CX9} : x_pv (nC9 S) = x_pv S := rfl
theorem nC9_rc {S : CX9} : x_rc (nC9 S) = x_rc S := rfl
theorem nC9_kv {S : CX9} : x_kv (nC9 S) = x_kv S := rfl
theorem nC9_kp {S : CX9} : x_kp (nC9 S) = x_kp S := rfl
theorem nC9_rw {S : CX9} : x_rw (nC9 S) = x_rw S := rfl
theorem nC9_zz {S : CX9} : x_zz (nC9 S) = x_zz S := rfl
theorem nC9_le {S : CX9} : x_le (nC9 S) = x_le S := rfl
theorem nC9_tl {S : CX9} : x_tl (nC9 S) = x_tl S := rfl
theorem nC9_xv {S : CX9} : x_xv (nC9 S) = x_xv S := rfl
theorem nC9_y0 {S : CX9} : x_y0 (nC9 S) = x_y0 S := rfl
theorem nC9_u0 {S : CX9} : x_u0 (nC9 S) = x_u0 S := rfl
theorem nC9_u1 {S : CX9} : x_u1 (nC9 S) = x_u1 S := rfl
theorem nC9_u2 {S : CX9} : x_u2 (nC9 S) = x_u2 S := rfl
theorem nC9_sc {S : CX9} : x_sc (nC9 S) = x_sc S := rfl
theorem nC9_Z {S : CX9} : x_Z (nC9 S) = x_Z S := rfl
theorem nC9_KL {S : CX9} : x_KL (nC9 S) = x_KL S := rfl
theorem nC9_SL {S : CX9} : x_SL (nC9 S) = x_SL S := rfl
theorem nC9_j1 {S : CX9} : x_j1 (nC9 S) = x_j1 S := rfl
theorem nC9_j2 {S : CX9} : x_j2 (nC9 S) = x_j2 S := rfl
theorem nC9_d1 {S : CX9} : x_d1 (nC9 S) = x_d1 S := rfl
theorem nC9_d2 {S : CX9} : x_d2 (nC9 S) = x_d2 S := rfl
theorem nC9_z0 {S : CX9} : x_z0 (nC9 S) = x_z0 S := rfl
theorem nC9_z1 {S : CX9} : x_z1 (nC9 S) = x_z1 S := rfl
theorem nC9_kf {S : CX9} : x_kf (nC9 S) = x_kf S := rfl
theorem nC9_sf {S : CX9} : x_sf (nC9 S) = x_sf S := rfl
theorem nC9_SA {S : CX9} : x_SA (nC9 S) = fg9 (x_SA S) := rfl
theorem nC9_SB {S : CX9} : x_SB (nC9 S) = fg9 (x_SB S) := rfl
theorem sW_fg {a i : Nat} {f : Nat → OS9} : sW9 a (fg9 f i) = [oc a 3 [.int (nI (o_E (f i))), .ref (o_ad (f i) 1), .ref (o_ad (f i) 2), .ref (o_ad (f i) 3), .ref (o_ad (f i) 4), .ref (o_ad (f i) 5), .int (o_n0 (f i)), .int (o_sd (f i)), .int 0], la (o_ad (f i) 1) (o_ck (f i) 1) (o_C (f i)) (o_rf (f i)), ia (o_ad (f i) 2) (o_ck (f i) 2) (o_C (f i)) (o_vf (f i)), ia (o_ad (f i) 3) (o_ck (f i) 3) (o_C (f i)) (o_lf (f i)), ia (o_ad (f i) 4) (o_ck (f i) 4) (o_C (f i) * o_E (f i)) (o_qf (f i)), ia (o_ad (f i) 5) (o_ck (f i) 5) (o_C (f i)) (fun j => nI (o_of (f i) j))] := rfl
theorem ct_F9 {S S2 : CX9} (hk : k9 S2 = k9 S) (h1 : x_d1 S2 = x_d1 S) (h2 : x_d2 S2 = x_d2 S) (ha : x_SA S2 = fg9 (x_SA S)) (hb : x_SB S2 = fg9 (x_SB S)) (q : ClassId × FieldType) (hq : q ∈ ct9 S2) : q ∈ ct9 S ∨ q ∈ ([] : List (ClassId × FieldType)) := by
  rcases (ct_9 S2 q).mp hq with h | h | ⟨m, hm, h⟩
  · rw [hk] at h; exact Or.inl ((ct_9 S q).mpr (Or.inl h))
  · rw [h1, h2] at h; exact Or.inl ((ct_9 S q).mpr (Or.inr (Or.inl h)))
  · rw [ha, hb] at h; exact Or.inl ((ct_9 S q).mpr (Or.inr (Or.inr ⟨m, hm, h⟩)))
set_option maxHeartbeats 4000000 in
theorem cw_nT9 (S : CX9) : cw9 (nT9 S) = [oc (x_oa S) 7 [.ref (x_pa S), .ref (x_ba S), .ref (x_ka S), .ref (x_xa S), .ref (x_ra1 S), .ref (x_ra2 S)], qa (x_ra1 S) (x_kr1 S) 4 (va_up (va_up (va_up (va_up (fun _ => none) 0 (some ((x_fA S) 0))) 1 (some ((x_fA S) 1))) 2 (some ((x_fA S) 2))) 3 (some ((x_fA S) 3))), qa (x_ra2 S) (x_kr2 S) 4 (va_up (va_up (va_up (va_up (fun _ => none) 0 (some ((x_fB S) 0))) 1 (some ((x_fB S) 1))) 2 (some ((x_fB S) 2))) 3 (some ((x_fB S) 3))),
  oc (x_ba S) 4 [.ref (x_pa S), .ref (x_ga S), .ref (x_sa S), .ref (x_b1 S), .ref (x_b2 S), (x_bv S), .int (x_m0 S), .int (x_x0 S), .int (x_x1 S)], ia (x_b1 S) (x_kb1 S) 14 (x_pv S), ia (x_b2 S) (x_kb2 S) 7 (fun i => nI ((x_rc S) i)),
  oc (x_ka S) 5 [.ref (x_pa S), .ref (x_ga S), .ref (x_sa S), .ref (x_kb S), .ref (x_q1 S), .ref (x_q2 S), .ref (x_q3 S), .ref (x_q4 S), (x_kv S)], ia (x_kb S) (x_kk1 S) 14 (x_kp S), ia (x_q1 S) (x_n1 S) 4 (fun i => nI ((x_rw S) i)), ia (x_q2 S) (x_n2 S) 4 (fun i => nI ((x_zz S) i)), ia (x_q3 S) (x_n3 S) 4 (fun i => nI ((x_le S) i)), ia (x_q4 S) (x_n4 S) 8 (fun i => nI ((x_tl S) i)),
  oc (x_xa S) 6 [.ref (x_pa S), .ref (x_ga S), .ref ((x_xA S) 0), .ref ((x_xA S) 1), .ref ((x_xA S) 2), .ref ((x_xA S) 3), .ref ((x_xA S) 4), .ref ((x_xA S) 5), .ref ((x_xA S) 6), .ref ((x_xA S) 7), .ref ((x_xA S) 8), .ref ((x_xA S) 9), .ref ((x_xA S) 10), .ref ((x_xA S) 11), (x_xv S), .int (x_y0 S), .int (nI (zm (x_Z S)))], ia ((x_xA S) 0) ((x_xK S) 0) 7 (x_u0 S), ia ((x_xA S) 1) ((x_xK S) 1) 4 (x_u1 S), ia ((x_xA S) 2) ((x_xK S) 2) 3 (x_u2 S), ia ((x_xA S) 3) ((x_xK S) 3) 7 (fun i => nI (((x_sc S) 3) i)), ia ((x_xA S) 4) ((x_xK S) 4) 7 (fun i => nI (((x_sc S) 4) i)), ia ((x_xA S) 5) ((x_xK S) 5) 7 (fun i => nI (((x_sc S) 5) i)), ia ((x_xA S) 6) ((x_xK S) 6) 8 (fun i => nI ((zr (x_Z S)) i)), ia ((x_xA S) 7) ((x_xK S) 7) 4 (fun i => nI ((zf (x_Z S)) i)), ia ((x_xA S) 8) ((x_xK S) 8) 4 (fun i => nI ((yl (zy (x_Z S))) i)), ia ((x_xA S) 9) ((x_xK S) 9) 7 (fun i => nI ((yb (zy (x_Z S))) i)), ia ((x_xA S) 10) ((x_xK S) 10) 7 (fun i => nI ((yo (zy (x_Z S))) i)), ia ((x_xA S) 11) ((x_xK S) 11) 7 (fun i => nI ((yh (zy (x_Z S))) i)),
  oc (x_ga S) 1 [.ref (x_pa S), .ref (x_g1 S), .ref (x_g2 S), .ref (x_g3 S), .int (nI (x_dn S)), .long (x_so S)], ia (x_g1 S) (x_l1 S) 4 (fun i => nI ((x_pl S) i)), ia (x_g2 S) (x_l2 S) 8 (x_rg S), ia (x_g3 S) (x_l3 S) 8 (x_vl S),
  oc (x_pa S) 0 [.ref ((x_pA S) 0), .ref ((x_pA S) 1), .ref ((x_pA S) 2), .ref ((x_pA S) 3), .ref ((x_pA S) 4), .ref ((x_pA S) 5), .ref ((x_pA S) 6), .ref ((x_pA S) 7), .ref ((x_pA S) 8), .ref ((x_pA S) 9), .ref ((x_pA S) 10), .int (nI (x_T S + 1)), .int (nI (x_Ac S))], ia ((x_pA S) 0) ((x_pK S) 0) 4 (fun i => nI (((x_pg S) 0) i)), ia ((x_pA S) 1) ((x_pK S) 1) 28 (fun i => nI (((x_pg S) 1) i)), ia ((x_pA S) 2) ((x_pK S) 2) 7 (fun i => nI (((x_pg S) 2) i)), ia ((x_pA S) 3) ((x_pK S) 3) 7 (fun i => nI (((x_pg S) 3) i)), ia ((x_pA S) 4) ((x_pK S) 4) 7 (fun i => nI (((x_pg S) 4) i)), ia ((x_pA S) 5) ((x_pK S) 5) 7 (fun i => nI (((x_pg S) 5) i)), ia ((x_pA S) 6) ((x_pK S) 6) 7 (fun i => nI (((x_pg S) 6) i)), ia ((x_pA S) 7) ((x_pK S) 7) 7 (x_nm S), ia ((x_pA S) 8) ((x_pK S) 8) 4 (fun i => nI (((x_pg S) 8) i)), ia ((x_pA S) 9) ((x_pK S) 9) 6 (fun i => nI (((x_pg S) 9) i)), ia ((x_pA S) 10) ((x_pK S) 10) 3 (fun i => nI (((x_pg S) 10) i)),
  oc (x_sa S) 2 [.ref (x_j1 S), .ref (x_j2 S), .int (x_z0 S), .int (x_z1 S)], la (x_j1 S) (x_d1 S) (x_KL S) (x_kf S), ia (x_j2 S) (x_d2 S) (x_SL S) (x_sf S)] ++ (sW9 (x_fA S 0) (fg9 (x_SA S) 0) ++ (sW9 (x_fA S 1) (fg9 (x_SA S) 1) ++ (sW9 (x_fA S 2) (fg9 (x_SA S) 2) ++ (sW9 (x_fA S 3) (fg9 (x_SA S) 3) ++ (sW9 (x_fB S 0) (fg9 (x_SB S) 0) ++ (sW9 (x_fB S 1) (fg9 (x_SB S) 1) ++ (sW9 (x_fB S 2) (fg9 (x_SB S) 2) ++ (sW9 (x_fB S 3) (fg9 (x_SB S) 3))))))))) := by
  unfold cw9
  rw [nT9_oa, nT9_pa, nT9_ga, nT9_g1, nT9_g2, nT9_g3, nT9_sa, nT9_ba, nT9_b1, nT9_b2, nT9_ka, nT9_kb, nT9_xa, nT9_ra1, nT9_ra2, nT9_q1, nT9_q2, nT9_q3, nT9_q4, nT9_pA, nT9_xA, nT9_fA, nT9_fB, nT9_pK, nT9_xK, nT9_l1, nT9_l2, nT9_l3, nT9_kb1, nT9_kb2, nT9_kk1, nT9_n1, nT9_n2, nT9_n3, nT9_n4, nT9_kr1, nT9_kr2, nT9_T, nT9_Ac, nT9_pg, nT9_nm, nT9_dn, nT9_so, nT9_pl, nT9_rg, nT9_vl, nT9_bv, nT9_m0, nT9_x0, nT9_x1, nT9_pv, nT9_rc, nT9_kv, nT9_kp, nT9_rw, nT9_zz, nT9_le, nT9_tl, nT9_xv, nT9_y0, nT9_u0, nT9_u1, nT9_u2, nT9_sc, nT9_Z, nT9_KL, nT9_SL, nT9_j1, nT9_j2, nT9_d1, nT9_d2, nT9_z0, nT9_z1, nT9_kf, nT9_sf, nT9_SA, nT9_SB]
set_option maxHeartbeats 4000000 in
theorem cw_nA9 (S : CX9) (t k x rn : Nat) (v : Int32) : cw9 (nA9 S t k x rn v) = [oc (x_oa S) 7 [.ref (x_pa S), .ref (x_ba S), .ref (x_ka S), .ref (x_xa S), .ref (x_ra1 S), .ref (x_ra2 S)], qa (x_ra1 S) (x_kr1 S) 4 (va_up (va_up (va_up (va_up (fun _ => none) 0 (some ((x_fA S) 0))) 1 (some ((x_fA S) 1))) 2 (some ((x_fA S) 2))) 3 (some ((x_fA S) 3))), qa (x_ra2 S) (x_kr2 S) 4 (va_up (va_up (va_up (va_up (fun _ => none) 0 (some ((x_fB S) 0))) 1 (some ((x_fB S) 1))) 2 (some ((x_fB S) 2))) 3 (some ((x_fB S) 3))),
  oc (x_ba S) 4 [.ref (x_pa S), .ref (x_ga S), .ref (x_sa S), .ref (x_b1 S), .ref (x_b2 S), (x_bv S), .int (x_m0 S), .int (x_x0 S), .int (x_x1 S)], ia (x_b1 S) (x_kb1 S) 14 (x_pv S), ia (x_b2 S) (x_kb2 S) 7 (fun i => nI ((x_rc S) i)),
  oc (x_ka S) 5 [.ref (x_pa S), .ref (x_ga S), .ref (x_sa S), .ref (x_kb S), .ref (x_q1 S), .ref (x_q2 S), .ref (x_q3 S), .ref (x_q4 S), (x_kv S)], ia (x_kb S) (x_kk1 S) 14 (x_kp S), ia (x_q1 S) (x_n1 S) 4 (fun i => nI ((x_rw S) i)), ia (x_q2 S) (x_n2 S) 4 (fun i => nI ((x_zz S) i)), ia (x_q3 S) (x_n3 S) 4 (fun i => nI ((x_le S) i)), ia (x_q4 S) (x_n4 S) 8 (fun i => nI ((x_tl S) i)),
  oc (x_xa S) 6 [.ref (x_pa S), .ref (x_ga S), .ref ((x_xA S) 0), .ref ((x_xA S) 1), .ref ((x_xA S) 2), .ref ((x_xA S) 3), .ref ((x_xA S) 4), .ref ((x_xA S) 5), .ref ((x_xA S) 6), .ref ((x_xA S) 7), .ref ((x_xA S) 8), .ref ((x_xA S) 9), .ref ((x_xA S) 10), .ref ((x_xA S) 11), (x_xv S), .int (x_y0 S), .int (nI (zm (x_Z S)))], ia ((x_xA S) 0) ((x_xK S) 0) 7 (x_u0 S), ia ((x_xA S) 1) ((x_xK S) 1) 4 (x_u1 S), ia ((x_xA S) 2) ((x_xK S) 2) 3 (x_u2 S), ia ((x_xA S) 3) ((x_xK S) 3) 7 (fun i => nI (((x_sc S) 3) i)), ia ((x_xA S) 4) ((x_xK S) 4) 7 (fun i => nI (((x_sc S) 4) i)), ia ((x_xA S) 5) ((x_xK S) 5) 7 (fun i => nI (((x_sc S) 5) i)), ia ((x_xA S) 6) ((x_xK S) 6) 8 (fun i => nI ((zr (x_Z S)) i)), ia ((x_xA S) 7) ((x_xK S) 7) 4 (fun i => nI ((zf (x_Z S)) i)), ia ((x_xA S) 8) ((x_xK S) 8) 4 (fun i => nI ((yl (zy (x_Z S))) i)), ia ((x_xA S) 9) ((x_xK S) 9) 7 (fun i => nI ((yb (zy (x_Z S))) i)), ia ((x_xA S) 10) ((x_xK S) 10) 7 (fun i => nI ((yo (zy (x_Z S))) i)), ia ((x_xA S) 11) ((x_xK S) 11) 7 (fun i => nI ((yh (zy (x_Z S))) i)),
  oc (x_ga S) 1 [.ref (x_pa S), .ref (x_g1 S), .ref (x_g2 S), .ref (x_g3 S), .int (nI (x_dn S)), .long (x_so S)], ia (x_g1 S) (x_l1 S) 4 (fun i => nI ((x_pl S) i)), ia (x_g2 S) (x_l2 S) 8 (x_rg S), ia (x_g3 S) (x_l3 S) 8 (x_vl S),
  oc (x_pa S) 0 [.ref ((x_pA S) 0), .ref ((x_pA S) 1), .ref ((x_pA S) 2), .ref ((x_pA S) 3), .ref ((x_pA S) 4), .ref ((x_pA S) 5), .ref ((x_pA S) 6), .ref ((x_pA S) 7), .ref ((x_pA S) 8), .ref ((x_pA S) 9), .ref ((x_pA S) 10), .int (nI (x_T S)), .int (nI (x_Ac S + 1))], ia ((x_pA S) 0) ((x_pK S) 0) 4 (fun i => nI (((addA (x_pg S) t (x_Ac S) k x rn) 0) i)), ia ((x_pA S) 1) ((x_pK S) 1) 28 (fun i => nI (((addA (x_pg S) t (x_Ac S) k x rn) 1) i)), ia ((x_pA S) 2) ((x_pK S) 2) 7 (fun i => nI (((addA (x_pg S) t (x_Ac S) k x rn) 2) i)), ia ((x_pA S) 3) ((x_pK S) 3) 7 (fun i => nI (((addA (x_pg S) t (x_Ac S) k x rn) 3) i)), ia ((x_pA S) 4) ((x_pK S) 4) 7 (fun i => nI (((addA (x_pg S) t (x_Ac S) k x rn) 4) i)), ia ((x_pA S) 5) ((x_pK S) 5) 7 (fun i => nI (((addA (x_pg S) t (x_Ac S) k x rn) 5) i)), ia ((x_pA S) 6) ((x_pK S) 6) 7 (fun i => nI (((addA (x_pg S) t (x_Ac S) k x rn) 6) i)), ia ((x_pA S) 7) ((x_pK S) 7) 7 (upd (x_nm S) (x_Ac S) v), ia ((x_pA S) 8) ((x_pK S) 8) 4 (fun i => nI (((addA (x_pg S) t (x_Ac S) k x rn) 8) i)), ia ((x_pA S) 9) ((x_pK S) 9) 6 (fun i => nI (((addA (x_pg S) t (x_Ac S) k x rn) 9) i)), ia ((x_pA S) 10) ((x_pK S) 10) 3 (fun i => nI (((addA (x_pg S) t (x_Ac S) k x rn) 10) i)),
  oc (x_sa S) 2 [.ref (x_j1 S), .ref (x_j2 S), .int (x_z0 S), .int (x_z1 S)], la (x_j1 S) (x_d1 S) (x_KL S) (x_kf S), ia (x_j2 S) (x_d2 S) (x_SL S) (x_sf S)] ++ (sW9 (x_fA S 0) (fg9 (x_SA S) 0) ++ (sW9 (x_fA S 1) (fg9 (x_SA S) 1) ++ (sW9 (x_fA S 2) (fg9 (x_SA S) 2) ++ (sW9 (x_fA S 3) (fg9 (x_SA S) 3) ++ (sW9 (x_fB S 0) (fg9 (x_SB S) 0) ++ (sW9 (x_fB S 1) (fg9 (x_SB S) 1) ++ (sW9 (x_fB S 2) (fg9 (x_SB S) 2) ++ (sW9 (x_fB S 3) (fg9 (x_SB S) 3))))))))) := by
  unfold cw9
  rw [nA9_oa, nA9_pa, nA9_ga, nA9_g1, nA9_g2, nA9_g3, nA9_sa, nA9_ba, nA9_b1, nA9_b2, nA9_ka, nA9_kb, nA9_xa, nA9_ra1, nA9_ra2, nA9_q1, nA9_q2, nA9_q3, nA9_q4, nA9_pA, nA9_xA, nA9_fA, nA9_fB, nA9_pK, nA9_xK, nA9_l1, nA9_l2, nA9_l3, nA9_kb1, nA9_kb2, nA9_kk1, nA9_n1, nA9_n2, nA9_n3, nA9_n4, nA9_kr1, nA9_kr2, nA9_T, nA9_Ac, nA9_pg, nA9_nm, nA9_dn, nA9_so, nA9_pl, nA9_rg, nA9_vl, nA9_bv, nA9_m0, nA9_x0, nA9_x1, nA9_pv, nA9_rc, nA9_kv, nA9_kp, nA9_rw, nA9_zz, nA9_le, nA9_tl, nA9_xv, nA9_y0, nA9_u0, nA9_u1, nA9_u2, nA9_sc, nA9_Z, nA9_KL, nA9_SL, nA9_j1, nA9_j2, nA9_d1, nA9_d2, nA9_z0, nA9_z1, nA9_kf, nA9_sf, nA9_SA, nA9_SB]
set_option maxHeartbeats 4000000 in
theorem cw_nC9 (S : CX9) : cw9 (nC9 S) = [oc (x_oa S) 7 [.ref (x_pa S), .ref (x_ba S), .ref (x_ka S), .ref (x_xa S), .ref (x_ra1 S), .ref (x_ra2 S)], qa (x_ra1 S) (x_kr1 S) 4 (va_up (va_up (va_up (va_up (fun _ => none) 0 (some ((x_fA S) 0))) 1 (some ((x_fA S) 1))) 2 (some ((x_fA S) 2))) 3 (some ((x_fA S) 3))), qa (x_ra2 S) (x_kr2 S) 4 (va_up (va_up (va_up (va_up (fun _ => none) 0 (some ((x_fB S) 0))) 1 (some ((x_fB S) 1))) 2 (some ((x_fB S) 2))) 3 (some ((x_fB S) 3))),
  oc (x_ba S) 4 [.ref (x_pa S), .ref (x_ga S), .ref (x_sa S), .ref (x_b1 S), .ref (x_b2 S), (x_bv S), .int (x_m0 S), .int (x_x0 S), .int (x_x1 S)], ia (x_b1 S) (x_kb1 S) 14 (x_pv S), ia (x_b2 S) (x_kb2 S) 7 (fun i => nI ((x_rc S) i)),
  oc (x_ka S) 5 [.ref (x_pa S), .ref (x_ga S), .ref (x_sa S), .ref (x_kb S), .ref (x_q1 S), .ref (x_q2 S), .ref (x_q3 S), .ref (x_q4 S), (x_kv S)], ia (x_kb S) (x_kk1 S) 14 (x_kp S), ia (x_q1 S) (x_n1 S) 4 (fun i => nI ((x_rw S) i)), ia (x_q2 S) (x_n2 S) 4 (fun i => nI ((x_zz S) i)), ia (x_q3 S) (x_n3 S) 4 (fun i => nI ((x_le S) i)), ia (x_q4 S) (x_n4 S) 8 (fun i => nI ((x_tl S) i)),
  oc (x_xa S) 6 [.ref (x_pa S), .ref (x_ga S), .ref ((x_xA S) 0), .ref ((x_xA S) 1), .ref ((x_xA S) 2), .ref ((x_xA S) 3), .ref ((x_xA S) 4), .ref ((x_xA S) 5), .ref ((x_xA S) 6), .ref ((x_xA S) 7), .ref ((x_xA S) 8), .ref ((x_xA S) 9), .ref ((x_xA S) 10), .ref ((x_xA S) 11), (x_xv S), .int (x_y0 S), .int (nI (zm (x_Z S)))], ia ((x_xA S) 0) ((x_xK S) 0) 7 (x_u0 S), ia ((x_xA S) 1) ((x_xK S) 1) 4 (x_u1 S), ia ((x_xA S) 2) ((x_xK S) 2) 3 (x_u2 S), ia ((x_xA S) 3) ((x_xK S) 3) 7 (fun i => nI (((x_sc S) 3) i)), ia ((x_xA S) 4) ((x_xK S) 4) 7 (fun i => nI (((x_sc S) 4) i)), ia ((x_xA S) 5) ((x_xK S) 5) 7 (fun i => nI (((x_sc S) 5) i)), ia ((x_xA S) 6) ((x_xK S) 6) 8 (fun i => nI ((zr (x_Z S)) i)), ia ((x_xA S) 7) ((x_xK S) 7) 4 (fun i => nI ((zf (x_Z S)) i)), ia ((x_xA S) 8) ((x_xK S) 8) 4 (fun i => nI ((yl (zy (x_Z S))) i)), ia ((x_xA S) 9) ((x_xK S) 9) 7 (fun i => nI ((yb (zy (x_Z S))) i)), ia ((x_xA S) 10) ((x_xK S) 10) 7 (fun i => nI ((yo (zy (x_Z S))) i)), ia ((x_xA S) 11) ((x_xK S) 11) 7 (fun i => nI ((yh (zy (x_Z S))) i)),
  oc (x_ga S) 1 [.ref (x_pa S), .ref (x_g1 S), .ref (x_g2 S), .ref (x_g3 S), .int (nI (x_dn S)), .long (x_so S)], ia (x_g1 S) (x_l1 S) 4 (fun i => nI ((x_pl S) i)), ia (x_g2 S) (x_l2 S) 8 (x_rg S), ia (x_g3 S) (x_l3 S) 8 (x_vl S),
  oc (x_pa S) 0 [.ref ((x_pA S) 0), .ref ((x_pA S) 1), .ref ((x_pA S) 2), .ref ((x_pA S) 3), .ref ((x_pA S) 4), .ref ((x_pA S) 5), .ref ((x_pA S) 6), .ref ((x_pA S) 7), .ref ((x_pA S) 8), .ref ((x_pA S) 9), .ref ((x_pA S) 10), .int (nI (0)), .int (nI (0))], ia ((x_pA S) 0) ((x_pK S) 0) 4 (fun i => nI (((clP9 (x_pg S)) 0) i)), ia ((x_pA S) 1) ((x_pK S) 1) 28 (fun i => nI (((clP9 (x_pg S)) 1) i)), ia ((x_pA S) 2) ((x_pK S) 2) 7 (fun i => nI (((clP9 (x_pg S)) 2) i)), ia ((x_pA S) 3) ((x_pK S) 3) 7 (fun i => nI (((clP9 (x_pg S)) 3) i)), ia ((x_pA S) 4) ((x_pK S) 4) 7 (fun i => nI (((clP9 (x_pg S)) 4) i)), ia ((x_pA S) 5) ((x_pK S) 5) 7 (fun i => nI (((clP9 (x_pg S)) 5) i)), ia ((x_pA S) 6) ((x_pK S) 6) 7 (fun i => nI (((clP9 (x_pg S)) 6) i)), ia ((x_pA S) 7) ((x_pK S) 7) 7 (x_nm S), ia ((x_pA S) 8) ((x_pK S) 8) 4 (fun i => nI (((clP9 (x_pg S)) 8) i)), ia ((x_pA S) 9) ((x_pK S) 9) 6 (fun i => nI (((clP9 (x_pg S)) 9) i)), ia ((x_pA S) 10) ((x_pK S) 10) 3 (fun i => nI (((clP9 (x_pg S)) 10) i)),
  oc (x_sa S) 2 [.ref (x_j1 S), .ref (x_j2 S), .int (x_z0 S), .int (x_z1 S)], la (x_j1 S) (x_d1 S) (x_KL S) (x_kf S), ia (x_j2 S) (x_d2 S) (x_SL S) (x_sf S)] ++ (sW9 (x_fA S 0) (fg9 (x_SA S) 0) ++ (sW9 (x_fA S 1) (fg9 (x_SA S) 1) ++ (sW9 (x_fA S 2) (fg9 (x_SA S) 2) ++ (sW9 (x_fA S 3) (fg9 (x_SA S) 3) ++ (sW9 (x_fB S 0) (fg9 (x_SB S) 0) ++ (sW9 (x_fB S 1) (fg9 (x_SB S) 1) ++ (sW9 (x_fB S 2) (fg9 (x_SB S) 2) ++ (sW9 (x_fB S 3) (fg9 (x_SB S) 3))))))))) := by
  unfold cw9
  rw [nC9_oa, nC9_pa, nC9_ga, nC9_g1, nC9_g2, nC9_g3, nC9_sa, nC9_ba, nC9_b1, nC9_b2, nC9_ka, nC9_kb, nC9_xa, nC9_ra1, nC9_ra2, nC9_q1, nC9_q2, nC9_q3, nC9_q4, nC9_pA, nC9_xA, nC9_fA, nC9_fB, nC9_pK, nC9_xK, nC9_l1, nC9_l2, nC9_l3, nC9_kb1, nC9_kb2, nC9_kk1, nC9_n1, nC9_n2, nC9_n3, nC9_n4, nC9_kr1, nC9_kr2, nC9_T, nC9_Ac, nC9_pg, nC9_nm, nC9_dn, nC9_so, nC9_pl, nC9_rg, nC9_vl, nC9_bv, nC9_m0, nC9_x0, nC9_x1, nC9_pv, nC9_rc, nC9_kv, nC9_kp, nC9_rw, nC9_zz, nC9_le, nC9_tl, nC9_xv, nC9_y0, nC9_u0, nC9_u1, nC9_u2, nC9_sc, nC9_Z, nC9_KL, nC9_SL, nC9_j1, nC9_j2, nC9_d1, nC9_d2, nC9_z0, nC9_z1, nC9_kf, nC9_sf, nC9_SA, nC9_SB]
