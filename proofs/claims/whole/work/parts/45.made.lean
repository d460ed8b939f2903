/-! the constructors: written by wip/whole/gen45.py -/
abbrev sh_K : List lm_Sh := [.inr (3, [some 1, none]), .inl (.boolean, 512)]
abbrev sh_H : List lm_Sh := [.inr (2, [some 1, some 2, some 3, none, none]), .inl (.int, 2709), .inl (.int, 600), .inl (.int, 600)]
abbrev sh_M : List lm_Sh := [.inr (1, [some 1, some 2, some 3, none, some 4, none, some 5, some 6, none]), .inl (.int, 512), .inl (.int, 9), .inl (.int, 40), .inl (.int, 308), .inl (.int, 2), .inl (.int, 2)]
def oS : lm_S := fun _ _ => 0
def mS : lm_S := fun i k => if i = 2 then (if k = 3 then 255 else 0) else 0
def zR : lm_S := fun i k => if i = 2 then (if k = 515 then 255 else 0) else 0
theorem ow_i : Cond.instanceMethod objectInit ∈ kk_ws := (kk_tm 13 (by decide +kernel) (by decide +kernel))
theorem ow_c : Cond.code objectInit ⟨#[0xb1]⟩ 1 none ∈ kk_ws := (kk_tm 14 (by decide +kernel) (by decide +kernel))
set_option maxRecDepth 20000 in
theorem cw_D : Cond.code y_D_init b_D_init 1 none ∈ kk_ws := kk_tm 11 (by rfl) rfl
theorem ci_D : Cond.initialized R_D ∈ kk_ws := (kk_tm 1 (by decide +kernel) (by decide +kernel))
theorem cm_D : Cond.instanceMethod y_D_init ∈ kk_ws := (kk_tm 10 (by decide +kernel) (by decide +kernel))
theorem cn_D : Cond.instantiable R_D 4 ∈ kk_ws := (kk_tm 8 (by decide +kernel) (by decide +kernel))
set_option maxRecDepth 20000 in
theorem cw_M : Cond.code y_M_init b_M_init 1 none ∈ kk_ws := kk_tm 19 (by rfl) rfl
theorem ci_M : Cond.initialized R_M ∈ kk_ws := (kk_tm 2 (by decide +kernel) (by decide +kernel))
theorem cm_M : Cond.instanceMethod y_M_init ∈ kk_ws := (kk_tm 18 (by decide +kernel) (by decide +kernel))
theorem cn_M : Cond.instantiable R_M 9 ∈ kk_ws := (kk_tm 16 (by decide +kernel) (by decide +kernel))
set_option maxRecDepth 20000 in
theorem cw_H : Cond.code y_H_init b_H_init 1 none ∈ kk_ws := kk_tm 61 (by rfl) rfl
theorem ci_H : Cond.initialized R_H ∈ kk_ws := (kk_tm 3 (by decide +kernel) (by decide +kernel))
theorem cm_H : Cond.instanceMethod y_H_init ∈ kk_ws := (kk_tm 60 (by decide +kernel) (by decide +kernel))
theorem cn_H : Cond.instantiable R_H 5 ∈ kk_ws := (kk_tm 58 (by decide +kernel) (by decide +kernel))
set_option maxRecDepth 20000 in
theorem cw_K : Cond.code y_K_init b_K_init 1 none ∈ kk_ws := kk_tm 85 (by rfl) rfl
theorem ci_K : Cond.initialized R_K ∈ kk_ws := (kk_tm 4 (by decide +kernel) (by decide +kernel))
theorem cm_K : Cond.instanceMethod y_K_init ∈ kk_ws := (kk_tm 84 (by decide +kernel) (by decide +kernel))
theorem cn_K : Cond.instantiable R_K 2 ∈ kk_ws := (kk_tm 82 (by decide +kernel) (by decide +kernel))
set_option maxRecDepth 20000 in
theorem cw_R : Cond.code y_R_init b_R_init 1 none ∈ kk_ws := kk_tm 370 (by rfl) rfl
theorem ci_R : Cond.initialized R_R ∈ kk_ws := (kk_tm 6 (by decide +kernel) (by decide +kernel))
theorem cm_R : Cond.instanceMethod y_R_init ∈ kk_ws := (kk_tm 369 (by decide +kernel) (by decide +kernel))
theorem cn_R : Cond.instantiable R_R 10 ∈ kk_ws := (kk_tm 367 (by decide +kernel) (by decide +kernel))
theorem aw_int : Cond.arrayClass .int ∈ kk_ws := (kk_tm 56 (by decide +kernel) (by decide +kernel))
theorem aw_boolean : Cond.arrayClass .boolean ∈ kk_ws := (kk_tm 94 (by decide +kernel) (by decide +kernel))
theorem d_K_init_0 : decode b_K_init 0 = .ok (.aload_n 0, 1) := by decide +kernel
theorem d_K_init_1 : decode b_K_init 1 = .ok (.invokespecial 3, 3) := by decide +kernel
theorem d_K_init_4 : decode b_K_init 4 = .ok (.aload_n 0, 1) := by decide +kernel
theorem d_K_init_5 : decode b_K_init 5 = .ok (.sipush (512), 3) := by decide +kernel
theorem d_K_init_8 : decode b_K_init 8 = .ok (.newarray .boolean, 2) := by decide +kernel
theorem d_K_init_10 : decode b_K_init 10 = .ok (.putfield 9, 3) := by decide +kernel
theorem d_K_init_13 : decode b_K_init 13 = .ok (.return_, 1) := by decide +kernel
set_option maxHeartbeats 1000000 in
set_option maxRecDepth 20000 in
theorem c_K_init (l : Launch) : CT l y_K_init b_K_init 1 20 3 [.null, .int 0] 1 512 sh_K oS := by
  refine CT.of (by decide +kernel) rfl ?_
  intro p e R s m args below meth c Q D A ls h0 C hin hsz hl hRc hRs hRf hRl hN hret
  have C : cX p s m args c b_K_init 1 R_K A := C
  refine ct_aload C (j := 0) hl d_K_init_0 ?_
  refine ct_obj C hsz (kk_tm 86 (by decide +kernel) (by decide +kernel)) ow_i ow_c (by omega) (by omega) d_K_init_1 ?_
  refine ct_aload C (j := 0) hl d_K_init_4 ?_
  refine ct_s C (v := 512) (by decide) d_K_init_5 ?_
  refine ct_arr C hin (ty := .boolean) (tf := .array .boolean) (N := 512) (T := F_K) (NF := 2) (ci := 3) aw_boolean rfl rfl (by decide) (by decide) (by decide) (by omega) (by omega) d_K_init_8 rfl kk_uK t_K t_K_ok n_K 0 (by decide) (kk_tm 87 (by decide +kernel) (by decide +kernel)) rfl rfl (by decide +kernel) (fun _ => rfl) (fun _ => rfl) (Nat.le_of_ble_eq_true rfl) d_K_init_10 (fun q0 c0 => ?_)
  refine ct_widen (kc2 := 1) (ns2 := 512) (by omega) (by omega) ?_
  exact hret 13 _ _ (fun i => [h0, q0].getD i 0) (fun i => [0, c0].getD i 0) rfl rfl rfl d_K_init_13
theorem d_H_init_0 : decode b_H_init 0 = .ok (.aload_n 0, 1) := by decide +kernel
theorem d_H_init_1 : decode b_H_init 1 = .ok (.invokespecial 3, 3) := by decide +kernel
theorem d_H_init_4 : decode b_H_init 4 = .ok (.aload_n 0, 1) := by decide +kernel
theorem d_H_init_5 : decode b_H_init 5 = .ok (.sipush (2709), 3) := by decide +kernel
theorem d_H_init_8 : decode b_H_init 8 = .ok (.newarray .int, 2) := by decide +kernel
theorem d_H_init_10 : decode b_H_init 10 = .ok (.putfield 9, 3) := by decide +kernel
theorem d_H_init_13 : decode b_H_init 13 = .ok (.aload_n 0, 1) := by decide +kernel
theorem d_H_init_14 : decode b_H_init 14 = .ok (.sipush (600), 3) := by decide +kernel
theorem d_H_init_17 : decode b_H_init 17 = .ok (.newarray .int, 2) := by decide +kernel
theorem d_H_init_19 : decode b_H_init 19 = .ok (.putfield 15, 3) := by decide +kernel
theorem d_H_init_22 : decode b_H_init 22 = .ok (.aload_n 0, 1) := by decide +kernel
theorem d_H_init_23 : decode b_H_init 23 = .ok (.sipush (600), 3) := by decide +kernel
theorem d_H_init_26 : decode b_H_init 26 = .ok (.newarray .int, 2) := by decide +kernel
theorem d_H_init_28 : decode b_H_init 28 = .ok (.putfield 18, 3) := by decide +kernel
theorem d_H_init_31 : decode b_H_init 31 = .ok (.return_, 1) := by decide +kernel
set_option maxHeartbeats 1000000 in
set_option maxRecDepth 20000 in
theorem c_H_init (l : Launch) : CT l y_H_init b_H_init 1 20 2 [.null, .null, .null, .int 0, .int 0] 3 3909 sh_H oS := by
  refine CT.of (by decide +kernel) rfl ?_
  intro p e R s m args below meth c Q D A ls h0 C hin hsz hl hRc hRs hRf hRl hN hret
  have C : cX p s m args c b_H_init 1 R_H A := C
  refine ct_aload C (j := 0) hl d_H_init_0 ?_
  refine ct_obj C hsz (kk_tm 62 (by decide +kernel) (by decide +kernel)) ow_i ow_c (by omega) (by omega) d_H_init_1 ?_
  refine ct_aload C (j := 0) hl d_H_init_4 ?_
  refine ct_s C (v := 2709) (by decide) d_H_init_5 ?_
  refine ct_arr C hin (ty := .int) (tf := .array .int) (N := 2709) (T := F_H) (NF := 5) (ci := 2) aw_int rfl rfl (by decide) (by decide) (by decide) (by omega) (by omega) d_H_init_8 rfl kk_uH t_H t_H_ok n_H 0 (by decide) (kk_tm 63 (by decide +kernel) (by decide +kernel)) rfl rfl (by decide +kernel) (fun _ => rfl) (fun _ => rfl) (Nat.le_of_ble_eq_true rfl) d_H_init_10 (fun q0 c0 => ?_)
  refine ct_aload C (j := 0) hl d_H_init_13 ?_
  refine ct_s C (v := 600) (by decide) d_H_init_14 ?_
  refine ct_arr C hin (ty := .int) (tf := .array .int) (N := 600) (T := F_H) (NF := 5) (ci := 2) aw_int rfl rfl (by decide) (by decide) (by decide) (by omega) (by omega) d_H_init_17 rfl kk_uH t_H t_H_ok n_H 1 (by decide) (kk_tm 64 (by decide +kernel) (by decide +kernel)) rfl rfl (by decide +kernel) (fun _ => rfl) (fun _ => rfl) (Nat.le_of_ble_eq_true rfl) d_H_init_19 (fun q1 c1 => ?_)
  refine ct_aload C (j := 0) hl d_H_init_22 ?_
  refine ct_s C (v := 600) (by decide) d_H_init_23 ?_
  refine ct_arr C hin (ty := .int) (tf := .array .int) (N := 600) (T := F_H) (NF := 5) (ci := 2) aw_int rfl rfl (by decide) (by decide) (by decide) (by omega) (by omega) d_H_init_26 rfl kk_uH t_H t_H_ok n_H 2 (by decide) (kk_tm 65 (by decide +kernel) (by decide +kernel)) rfl rfl (by decide +kernel) (fun _ => rfl) (fun _ => rfl) (Nat.le_of_ble_eq_true rfl) d_H_init_28 (fun q2 c2 => ?_)
  refine ct_widen (kc2 := 3) (ns2 := 3909) (by omega) (by omega) ?_
  exact hret 31 _ _ (fun i => [h0, q0, q1, q2].getD i 0) (fun i => [0, c0, c1, c2].getD i 0) rfl rfl rfl d_H_init_31
theorem d_M_init_0 : decode b_M_init 0 = .ok (.aload_n 0, 1) := by decide +kernel
theorem d_M_init_1 : decode b_M_init 1 = .ok (.invokespecial 3, 3) := by decide +kernel
theorem d_M_init_4 : decode b_M_init 4 = .ok (.aload_n 0, 1) := by decide +kernel
theorem d_M_init_5 : decode b_M_init 5 = .ok (.sipush (512), 3) := by decide +kernel
theorem d_M_init_8 : decode b_M_init 8 = .ok (.newarray .int, 2) := by decide +kernel
theorem d_M_init_10 : decode b_M_init 10 = .ok (.putfield 9, 3) := by decide +kernel
theorem d_M_init_13 : decode b_M_init 13 = .ok (.aload_n 0, 1) := by decide +kernel
theorem d_M_init_14 : decode b_M_init 14 = .ok (.bipush (9), 2) := by decide +kernel
theorem d_M_init_16 : decode b_M_init 16 = .ok (.newarray .int, 2) := by decide +kernel
theorem d_M_init_18 : decode b_M_init 18 = .ok (.putfield 15, 3) := by decide +kernel
theorem d_M_init_21 : decode b_M_init 21 = .ok (.aload_n 0, 1) := by decide +kernel
theorem d_M_init_22 : decode b_M_init 22 = .ok (.bipush (40), 2) := by decide +kernel
theorem d_M_init_24 : decode b_M_init 24 = .ok (.newarray .int, 2) := by decide +kernel
theorem d_M_init_26 : decode b_M_init 26 = .ok (.putfield 18, 3) := by decide +kernel
theorem d_M_init_29 : decode b_M_init 29 = .ok (.aload_n 0, 1) := by decide +kernel
theorem d_M_init_30 : decode b_M_init 30 = .ok (.sipush (308), 3) := by decide +kernel
theorem d_M_init_33 : decode b_M_init 33 = .ok (.newarray .int, 2) := by decide +kernel
theorem d_M_init_35 : decode b_M_init 35 = .ok (.putfield 21, 3) := by decide +kernel
theorem d_M_init_38 : decode b_M_init 38 = .ok (.aload_n 0, 1) := by decide +kernel
theorem d_M_init_39 : decode b_M_init 39 = .ok (.iconst 2, 1) := by decide +kernel
theorem d_M_init_40 : decode b_M_init 40 = .ok (.newarray .int, 2) := by decide +kernel
theorem d_M_init_42 : decode b_M_init 42 = .ok (.putfield 24, 3) := by decide +kernel
theorem d_M_init_45 : decode b_M_init 45 = .ok (.aload_n 0, 1) := by decide +kernel
theorem d_M_init_46 : decode b_M_init 46 = .ok (.iconst 2, 1) := by decide +kernel
theorem d_M_init_47 : decode b_M_init 47 = .ok (.newarray .int, 2) := by decide +kernel
theorem d_M_init_49 : decode b_M_init 49 = .ok (.putfield 27, 3) := by decide +kernel
theorem d_M_init_52 : decode b_M_init 52 = .ok (.aload_n 0, 1) := by decide +kernel
theorem d_M_init_53 : decode b_M_init 53 = .ok (.getfield 15, 3) := by decide +kernel
theorem d_M_init_56 : decode b_M_init 56 = .ok (.iconst 3, 1) := by decide +kernel
theorem d_M_init_57 : decode b_M_init 57 = .ok (.sipush (255), 3) := by decide +kernel
theorem d_M_init_60 : decode b_M_init 60 = .ok (.iastore, 1) := by decide +kernel
theorem d_M_init_61 : decode b_M_init 61 = .ok (.return_, 1) := by decide +kernel
theorem mS_row : upd (fun _ => (0 : Int32)) (3 : Int32).toNatClampNeg 255 = mS 2 := by
  funext k
  rfl
set_option maxHeartbeats 1000000 in
set_option maxRecDepth 20000 in
theorem c_M_init (l : Launch) : CT l y_M_init b_M_init 1 20 1 [.null, .null, .null, .int 0, .null, .int 0, .null, .null, .int 0] 6 873 sh_M mS := by
  refine CT.of (by decide +kernel) rfl ?_
  intro p e R s m args below meth c Q D A ls h0 C hin hsz hl hRc hRs hRf hRl hN hret
  have C : cX p s m args c b_M_init 1 R_M A := C
  refine ct_aload C (j := 0) hl d_M_init_0 ?_
  refine ct_obj C hsz (kk_tm 20 (by decide +kernel) (by decide +kernel)) ow_i ow_c (by omega) (by omega) d_M_init_1 ?_
  refine ct_aload C (j := 0) hl d_M_init_4 ?_
  refine ct_s C (v := 512) (by decide) d_M_init_5 ?_
  refine ct_arr C hin (ty := .int) (tf := .array .int) (N := 512) (T := F_M) (NF := 9) (ci := 1) aw_int rfl rfl (by decide) (by decide) (by decide) (by omega) (by omega) d_M_init_8 rfl kk_uM t_M t_M_ok n_M 0 (by decide) (kk_tm 21 (by decide +kernel) (by decide +kernel)) rfl rfl (by decide +kernel) (fun _ => rfl) (fun _ => rfl) (Nat.le_of_ble_eq_true rfl) d_M_init_10 (fun q0 c0 => ?_)
  refine ct_aload C (j := 0) hl d_M_init_13 ?_
  refine ct_b C (v := 9) (by decide) d_M_init_14 ?_
  refine ct_arr C hin (ty := .int) (tf := .array .int) (N := 9) (T := F_M) (NF := 9) (ci := 1) aw_int rfl rfl (by decide) (by decide) (by decide) (by omega) (by omega) d_M_init_16 rfl kk_uM t_M t_M_ok n_M 1 (by decide) (kk_tm 24 (by decide +kernel) (by decide +kernel)) rfl rfl (by decide +kernel) (fun _ => rfl) (fun _ => rfl) (Nat.le_of_ble_eq_true rfl) d_M_init_18 (fun q1 c1 => ?_)
  refine ct_aload C (j := 0) hl d_M_init_21 ?_
  refine ct_b C (v := 40) (by decide) d_M_init_22 ?_
  refine ct_arr C hin (ty := .int) (tf := .array .int) (N := 40) (T := F_M) (NF := 9) (ci := 1) aw_int rfl rfl (by decide) (by decide) (by decide) (by omega) (by omega) d_M_init_24 rfl kk_uM t_M t_M_ok n_M 2 (by decide) (kk_tm 27 (by decide +kernel) (by decide +kernel)) rfl rfl (by decide +kernel) (fun _ => rfl) (fun _ => rfl) (Nat.le_of_ble_eq_true rfl) d_M_init_26 (fun q2 c2 => ?_)
  refine ct_aload C (j := 0) hl d_M_init_29 ?_
  refine ct_s C (v := 308) (by decide) d_M_init_30 ?_
  refine ct_arr C hin (ty := .int) (tf := .array .int) (N := 308) (T := F_M) (NF := 9) (ci := 1) aw_int rfl rfl (by decide) (by decide) (by decide) (by omega) (by omega) d_M_init_33 rfl kk_uM t_M t_M_ok n_M 4 (by decide) (kk_tm 29 (by decide +kernel) (by decide +kernel)) rfl rfl (by decide +kernel) (fun _ => rfl) (fun _ => rfl) (Nat.le_of_ble_eq_true rfl) d_M_init_35 (fun q3 c3 => ?_)
  refine ct_aload C (j := 0) hl d_M_init_38 ?_
  refine ct_i C (v := 2) (by decide) d_M_init_39 ?_
  refine ct_arr C hin (ty := .int) (tf := .array .int) (N := 2) (T := F_M) (NF := 9) (ci := 1) aw_int rfl rfl (by decide) (by decide) (by decide) (by omega) (by omega) d_M_init_40 rfl kk_uM t_M t_M_ok n_M 6 (by decide) (kk_tm 32 (by decide +kernel) (by decide +kernel)) rfl rfl (by decide +kernel) (fun _ => rfl) (fun _ => rfl) (Nat.le_of_ble_eq_true rfl) d_M_init_42 (fun q4 c4 => ?_)
  refine ct_aload C (j := 0) hl d_M_init_45 ?_
  refine ct_i C (v := 2) (by decide) d_M_init_46 ?_
  refine ct_arr C hin (ty := .int) (tf := .array .int) (N := 2) (T := F_M) (NF := 9) (ci := 1) aw_int rfl rfl (by decide) (by decide) (by decide) (by omega) (by omega) d_M_init_47 rfl kk_uM t_M t_M_ok n_M 7 (by decide) (kk_tm 34 (by decide +kernel) (by decide +kernel)) rfl rfl (by decide +kernel) (fun _ => rfl) (fun _ => rfl) (Nat.le_of_ble_eq_true rfl) d_M_init_49 (fun q5 c5 => ?_)
  refine ct_aload C (j := 0) hl d_M_init_52 ?_
  refine ct_get C (T := F_M) (NF := 9) (ci := 1) 0 rfl rfl kk_uM 1 (by decide) (kk_tm 24 (by decide +kernel) (by decide +kernel)) rfl rfl d_M_init_53 ?_
  refine ct_i C (v := 3) (by decide) d_M_init_56 ?_
  refine ct_s C (v := 255) (by decide) d_M_init_57 ?_
  refine ct_iast C 2 1 rfl rfl (lm_vc (by decide)) mS_row rfl d_M_init_60 ?_
  refine ct_widen (kc2 := 6) (ns2 := 873) (by omega) (by omega) ?_
  exact hret 61 _ _ (fun i => [h0, q0, q1, q2, q3, q4, q5].getD i 0) (fun i => [0, c0, c1, c2, c3, c4, c5].getD i 0) rfl rfl rfl d_M_init_61
