/-! the constructors of the desk and of the reference: written by wip/whole/gen46.py -/
theorem fz_M : ∀ j, j < 9 → defaultValue (t_M j) = vp_V [.null, .null, .null, .int 0, .null, .int 0, .null, .null, .int 0] j := by
  intro j hj
  rcases j with _ | _ | _ | _ | _ | _ | _ | _ | _ | _ <;> first | rfl | omega
theorem fz_H : ∀ j, j < 5 → defaultValue (t_H j) = vp_V [.null, .null, .null, .int 0, .int 0] j := by
  intro j hj
  rcases j with _ | _ | _ | _ | _ | _ <;> first | rfl | omega
theorem fz_K : ∀ j, j < 2 → defaultValue (t_K j) = vp_V [.null, .int 0] j := by
  intro j hj
  rcases j with _ | _ | _ <;> first | rfl | omega
theorem fz_D : ∀ j, j < 4 → defaultValue (t_D j) = vp_V [.null, .null, .null, .null] j := by
  intro j hj
  rcases j with _ | _ | _ | _ | _ <;> first | rfl | omega
theorem fz_R : ∀ j, j < 10 → defaultValue (t_R j) = vp_V [.null, .null, .int 0, .int 0, .null, .null, .int 0, .int 0, .int 0, .int 0] j := by
  intro j hj
  rcases j with _ | _ | _ | _ | _ | _ | _ | _ | _ | _ | _ <;> first | rfl | omega
theorem d_R_init_0 : decode b_R_init 0 = .ok (.aload_n 0, 1) := by decide +kernel
theorem d_R_init_1 : decode b_R_init 1 = .ok (.invokespecial 1, 3) := by decide +kernel
theorem d_R_init_4 : decode b_R_init 4 = .ok (.aload_n 0, 1) := by decide +kernel
theorem d_R_init_5 : decode b_R_init 5 = .ok (.sipush (569), 3) := by decide +kernel
theorem d_R_init_8 : decode b_R_init 8 = .ok (.newarray .int, 2) := by decide +kernel
theorem d_R_init_10 : decode b_R_init 10 = .ok (.putfield 7, 3) := by decide +kernel
theorem d_R_init_13 : decode b_R_init 13 = .ok (.aload_n 0, 1) := by decide +kernel
theorem d_R_init_14 : decode b_R_init 14 = .ok (.sipush (569), 3) := by decide +kernel
theorem d_R_init_17 : decode b_R_init 17 = .ok (.newarray .int, 2) := by decide +kernel
theorem d_R_init_19 : decode b_R_init 19 = .ok (.putfield 13, 3) := by decide +kernel
theorem d_R_init_22 : decode b_R_init 22 = .ok (.aload_n 0, 1) := by decide +kernel
theorem d_R_init_23 : decode b_R_init 23 = .ok (.iconst 4, 1) := by decide +kernel
theorem d_R_init_24 : decode b_R_init 24 = .ok (.newarray .int, 2) := by decide +kernel
theorem d_R_init_26 : decode b_R_init 26 = .ok (.putfield 16, 3) := by decide +kernel
theorem d_R_init_29 : decode b_R_init 29 = .ok (.aload_n 0, 1) := by decide +kernel
theorem d_R_init_30 : decode b_R_init 30 = .ok (.iconst 4, 1) := by decide +kernel
theorem d_R_init_31 : decode b_R_init 31 = .ok (.newarray .int, 2) := by decide +kernel
theorem d_R_init_33 : decode b_R_init 33 = .ok (.putfield 19, 3) := by decide +kernel
theorem d_R_init_36 : decode b_R_init 36 = .ok (.aload_n 0, 1) := by decide +kernel
theorem d_R_init_37 : decode b_R_init 37 = .ok (.getfield 13, 3) := by decide +kernel
theorem d_R_init_40 : decode b_R_init 40 = .ok (.sipush (515), 3) := by decide +kernel
theorem d_R_init_43 : decode b_R_init 43 = .ok (.sipush (255), 3) := by decide +kernel
theorem d_R_init_46 : decode b_R_init 46 = .ok (.iastore, 1) := by decide +kernel
theorem d_R_init_47 : decode b_R_init 47 = .ok (.aload_n 0, 1) := by decide +kernel
theorem d_R_init_48 : decode b_R_init 48 = .ok (.invokevirtual 22, 3) := by decide +kernel
theorem d_R_init_51 : decode b_R_init 51 = .ok (.return_, 1) := by decide +kernel
theorem zR_row : upd (fun _ => (0 : Int32)) (515 : Int32).toNatClampNeg 255 = zR 2 := by
  rw [show (515 : Int32).toNatClampNeg = 515 from by decide]
  funext k
  rfl
set_option maxHeartbeats 1000000 in
set_option maxRecDepth 20000 in
theorem c_R_init (l : Launch) : CT l y_R_init b_R_init 1 21 4 [.null, .null, .int 0, .int 0, .null, .null, .int 0, .int 0, .int 0, .int 0] 4 1146 kk_shR (km_an0 zR) := by
  refine CT.of (by decide +kernel) rfl ?_
  intro p e R s m args below meth c Q D A ls h0 C hin hsz hl hRc hRs hRf hRl hN hret
  have C : cX p s m args c b_R_init 1 R_R A := C
  refine ct_aload C (j := 0) hl d_R_init_0 ?_
  refine ct_obj C hsz (kk_tm 371 (by decide +kernel) (by decide +kernel)) ow_i ow_c (by omega) (by omega) d_R_init_1 ?_
  refine ct_aload C (j := 0) hl d_R_init_4 ?_
  refine ct_s C (v := 569) (by decide) d_R_init_5 ?_
  refine ct_arr C hin (ty := .int) (tf := .array .int) (N := 569) (T := F_R) (NF := 10) (ci := 4) aw_int rfl rfl (by decide) (by decide) (by decide) (by omega) (by omega) d_R_init_8 rfl kk_uR t_R t_R_ok n_R 0 (by decide) (kk_tm 376 (by decide +kernel) (by decide +kernel)) rfl rfl (by decide +kernel) (fun _ => rfl) (fun _ => rfl) (Nat.le_of_ble_eq_true rfl) d_R_init_10 (fun q0 c0 => ?_)
  refine ct_aload C (j := 0) hl d_R_init_13 ?_
  refine ct_s C (v := 569) (by decide) d_R_init_14 ?_
  refine ct_arr C hin (ty := .int) (tf := .array .int) (N := 569) (T := F_R) (NF := 10) (ci := 4) aw_int rfl rfl (by decide) (by decide) (by decide) (by omega) (by omega) d_R_init_17 rfl kk_uR t_R t_R_ok n_R 1 (by decide) (kk_tm 377 (by decide +kernel) (by decide +kernel)) rfl rfl (by decide +kernel) (fun _ => rfl) (fun _ => rfl) (Nat.le_of_ble_eq_true rfl) d_R_init_19 (fun q1 c1 => ?_)
  refine ct_aload C (j := 0) hl d_R_init_22 ?_
  refine ct_i C (v := 4) (by decide) d_R_init_23 ?_
  refine ct_arr C hin (ty := .int) (tf := .array .int) (N := 4) (T := F_R) (NF := 10) (ci := 4) aw_int rfl rfl (by decide) (by decide) (by decide) (by omega) (by omega) d_R_init_24 rfl kk_uR t_R t_R_ok n_R 4 (by decide) (kk_tm 380 (by decide +kernel) (by decide +kernel)) rfl rfl (by decide +kernel) (fun _ => rfl) (fun _ => rfl) (Nat.le_of_ble_eq_true rfl) d_R_init_26 (fun q2 c2 => ?_)
  refine ct_aload C (j := 0) hl d_R_init_29 ?_
  refine ct_i C (v := 4) (by decide) d_R_init_30 ?_
  refine ct_arr C hin (ty := .int) (tf := .array .int) (N := 4) (T := F_R) (NF := 10) (ci := 4) aw_int rfl rfl (by decide) (by decide) (by decide) (by omega) (by omega) d_R_init_31 rfl kk_uR t_R t_R_ok n_R 5 (by decide) (kk_tm 381 (by decide +kernel) (by decide +kernel)) rfl rfl (by decide +kernel) (fun _ => rfl) (fun _ => rfl) (Nat.le_of_ble_eq_true rfl) d_R_init_33 (fun q3 c3 => ?_)
  refine ct_aload C (j := 0) hl d_R_init_36 ?_
  refine ct_get C (T := F_R) (NF := 10) (ci := 4) 0 rfl rfl kk_uR 1 (by decide) (kk_tm 377 (by decide +kernel) (by decide +kernel)) rfl rfl d_R_init_37 ?_
  refine ct_s C (v := 515) (by decide) d_R_init_40 ?_
  refine ct_s C (v := 255) (by decide) d_R_init_43 ?_
  refine ct_iast C 2 1 rfl rfl (lm_vc (by decide)) zR_row rfl d_R_init_46 ?_
  refine ct_widen (kc2 := 4) (ns2 := 1146) (by omega) (by omega) ?_
  refine ct_as (ws' := lm_W kk_shR (fun i => [h0, q0, q1, q2, q3].getD i 0) (fun i => [0, c0, c1, c2, c3].getD i 0) zR) (tys' := lm_ty kk_shR (fun i => [0, c0, c1, c2, c3].getD i 0)) rfl rfl ?_
  refine ct_aload C (j := 0) hl d_R_init_47 ?_
  refine ct_light (I_R_anew_0 l) kk_okZR C hN hsz (i := 0) (as := []) (S1 := km_an0 zR) rfl rfl yw_R_anew li_R_22 ⟨by omega, by omega⟩ (Nat.le_of_ble_eq_true rfl) ⟨by omega, by omega⟩ ⟨rfl, rfl, rfl⟩ rfl d_R_init_48 ?_
  exact hret 51 _ _ _ _ rfl rfl rfl d_R_init_51
def lm_Wr (ad : Nat → Nat) (cA : Nat → ClassId) (S : lm_S) : Nat → List lm_Sh → va_W
  | _, [] => []
  | i, x :: r => (ad i, lm_E ad cA i x (S i)) :: lm_Wr ad cA S (i + 1) r
theorem lm_Wr_get {ad : Nat → Nat} {cA : Nat → ClassId} {S : lm_S} : ∀ (sh : List lm_Sh) (i j : Nat), (lm_Wr ad cA S i sh)[j]? = (sh[j]?).map (fun x => (ad (i + j), lm_E ad cA (i + j) x (S (i + j))))
  | [], i, j => by simp [lm_Wr]
  | x :: r, i, 0 => by simp [lm_Wr]
  | x :: r, i, j + 1 => by
    simp only [lm_Wr, List.getElem?_cons_succ]
    rw [lm_Wr_get r (i + 1) j, show i + 1 + j = i + (j + 1) by omega]
theorem lm_W_r (sh : List lm_Sh) (ad : Nat → Nat) (cA : Nat → ClassId) (S : lm_S) : lm_W sh ad cA S = lm_Wr ad cA S 0 sh := by
  apply List.ext_getElem?
  intro j
  rw [lm_Wr_get, Nat.zero_add]
  simp only [lm_W, List.getElem?_mapIdx]
set_option maxRecDepth 20000 in
theorem wD_eq (ad : Nat → Nat) (cA : Nat → ClassId) (S : lm_S) : lm_W kk_shD ad cA S = [(ad 0, .inr (0, [.ref (ad 1), .ref (ad 2), .ref (ad 3), .ref (ad 4)])), (ad 1, .inr (1, [.ref (ad 5), .ref (ad 6), .ref (ad 7), .int (S 1 3), .ref (ad 8), .int (S 1 5), .ref (ad 9), .ref (ad 10), .int (S 1 8)])), (ad 2, .inr (2, [.ref (ad 11), .ref (ad 12), .ref (ad 13), .int (S 2 3), .int (S 2 4)])), (ad 3, .inr (3, [.ref (ad 14), .int (S 3 1)])), (ad 4, .inr (3, [.ref (ad 15), .int (S 4 1)])), (ad 5, .inl (cA 5, 512, .inl (S 5))), (ad 6, .inl (cA 6, 9, .inl (S 6))), (ad 7, .inl (cA 7, 40, .inl (S 7))), (ad 8, .inl (cA 8, 308, .inl (S 8))), (ad 9, .inl (cA 9, 2, .inl (S 9))), (ad 10, .inl (cA 10, 2, .inl (S 10))), (ad 11, .inl (cA 11, 2709, .inl (S 11))), (ad 12, .inl (cA 12, 600, .inl (S 12))), (ad 13, .inl (cA 13, 600, .inl (S 13))), (ad 14, .inl (cA 14, 512, .inl (S 14))), (ad 15, .inl (cA 15, 512, .inl (S 15)))] := by
  rw [lm_W_r]
  rfl
theorem tD_eq (cA : Nat → ClassId) : lm_ty kk_shD cA = [(cA 5, .int), (cA 6, .int), (cA 7, .int), (cA 8, .int), (cA 9, .int), (cA 10, .int), (cA 11, .int), (cA 12, .int), (cA 13, .int), (cA 14, .boolean), (cA 15, .boolean)] := by
  rw [lm_ty_r]
  rfl
theorem d_D_init_0 : decode b_D_init 0 = .ok (.aload_n 0, 1) := by decide +kernel
theorem d_D_init_1 : decode b_D_init 1 = .ok (.invokespecial 1, 3) := by decide +kernel
theorem d_D_init_4 : decode b_D_init 4 = .ok (.aload_n 0, 1) := by decide +kernel
theorem d_D_init_5 : decode b_D_init 5 = .ok (.new 7, 3) := by decide +kernel
theorem d_D_init_8 : decode b_D_init 8 = .ok (.dup, 1) := by decide +kernel
theorem d_D_init_9 : decode b_D_init 9 = .ok (.invokespecial 9, 3) := by decide +kernel
theorem d_D_init_12 : decode b_D_init 12 = .ok (.putfield 10, 3) := by decide +kernel
theorem d_D_init_15 : decode b_D_init 15 = .ok (.aload_n 0, 1) := by decide +kernel
theorem d_D_init_16 : decode b_D_init 16 = .ok (.new 16, 3) := by decide +kernel
theorem d_D_init_19 : decode b_D_init 19 = .ok (.dup, 1) := by decide +kernel
theorem d_D_init_20 : decode b_D_init 20 = .ok (.invokespecial 18, 3) := by decide +kernel
theorem d_D_init_23 : decode b_D_init 23 = .ok (.putfield 19, 3) := by decide +kernel
theorem d_D_init_26 : decode b_D_init 26 = .ok (.aload_n 0, 1) := by decide +kernel
theorem d_D_init_27 : decode b_D_init 27 = .ok (.new 23, 3) := by decide +kernel
theorem d_D_init_30 : decode b_D_init 30 = .ok (.dup, 1) := by decide +kernel
theorem d_D_init_31 : decode b_D_init 31 = .ok (.invokespecial 25, 3) := by decide +kernel
theorem d_D_init_34 : decode b_D_init 34 = .ok (.putfield 26, 3) := by decide +kernel
theorem d_D_init_37 : decode b_D_init 37 = .ok (.aload_n 0, 1) := by decide +kernel
theorem d_D_init_38 : decode b_D_init 38 = .ok (.new 23, 3) := by decide +kernel
theorem d_D_init_41 : decode b_D_init 41 = .ok (.dup, 1) := by decide +kernel
theorem d_D_init_42 : decode b_D_init 42 = .ok (.invokespecial 25, 3) := by decide +kernel
theorem d_D_init_45 : decode b_D_init 45 = .ok (.putfield 30, 3) := by decide +kernel
theorem d_D_init_48 : decode b_D_init 48 = .ok (.aload_n 0, 1) := by decide +kernel
theorem d_D_init_49 : decode b_D_init 49 = .ok (.getfield 19, 3) := by decide +kernel
theorem d_D_init_52 : decode b_D_init 52 = .ok (.aload_n 0, 1) := by decide +kernel
theorem d_D_init_53 : decode b_D_init 53 = .ok (.getfield 10, 3) := by decide +kernel
theorem d_D_init_56 : decode b_D_init 56 = .ok (.invokevirtual 33, 3) := by decide +kernel
theorem d_D_init_59 : decode b_D_init 59 = .ok (.return_, 1) := by decide +kernel
theorem li_D_9 : kk_li R_D 9 y_M_init := Or.inl (kk_tm 17 (by decide +kernel) (by decide +kernel))
theorem li_D_18 : kk_li R_D 18 y_H_init := Or.inr ⟨"ReplayDesk", kk_nm 7 (by decide +kernel)⟩
theorem li_D_25 : kk_li R_D 25 y_K_init := Or.inr ⟨"ReplayDesk", kk_nm 10 (by decide +kernel)⟩
set_option maxHeartbeats 1000000 in
set_option maxRecDepth 20000 in
theorem c_D_init (l : Launch) : CT l y_D_init b_D_init 3 68 0 [.null, .null, .null, .null] 15 5824 kk_shD (kd_begin zS) := by
  refine CT.of (by decide +kernel) rfl ?_
  intro p e R s m args below meth c Q D A ls h0 C hin hsz hl hRc hRs hRf hRl hN hret
  have C : cX p s m args c b_D_init 1 R_D A := C
  refine ct_aload C (j := 0) hl d_D_init_0 ?_
  refine ct_obj C hsz (kk_tm 12 (by decide +kernel) (by decide +kernel)) ow_i ow_c (by omega) (by omega) d_D_init_1 ?_
  refine ct_aload C (j := 0) hl d_D_init_4 ?_
  refine ct_new C (Cn := R_M) (T := F_M) (NF := 9) (ci := 1) (fs := [.null, .null, .null, .int 0, .null, .int 0, .null, .null, .int 0]) rfl kk_uM t_M t_M_ok (kk_tm 15 (by decide +kernel) (by decide +kernel)) cn_M ci_M fz_M (by omega) (by omega) d_D_init_5 (fun qm => ?_)
  refine ct_dup C d_D_init_8 ?_
  refine ct_call (c_M_init l) C hN hsz (tl := [(h0, .inr (0, [.null, .null, .null, .null]))]) cw_M ci_M cm_M rfl ⟨by decide, by decide, by decide +kernel⟩ li_D_9 ⟨by omega, by omega⟩ (Nat.le_of_ble_eq_true rfl) ⟨by omega, by omega⟩ [1] [0] rfl rfl rfl rfl (by decide) d_D_init_9 (fun qmm cm em => ?_)
  subst em
  refine ct_widen (kc2 := 7) (ns2 := 882) (by omega) (by omega) ?_
  refine ct_as (ws' := [(h0, .inr (0, [.null, .null, .null, .null])), (qmm 0, .inr (1, [.ref (qmm 1), .ref (qmm 2), .ref (qmm 3), .int 0, .ref (qmm 4), .int 0, .ref (qmm 5), .ref (qmm 6), .int 0])), (qmm 1, .inl (cm 1, 512, .inl (zS 5))), (qmm 2, .inl (cm 2, 9, .inl (zS 6))), (qmm 3, .inl (cm 3, 40, .inl (zS 7))), (qmm 4, .inl (cm 4, 308, .inl (zS 8))), (qmm 5, .inl (cm 5, 2, .inl (zS 9))), (qmm 6, .inl (cm 6, 2, .inl (zS 10)))]) (tys' := [(cm 1, .int), (cm 2, .int), (cm 3, .int), (cm 4, .int), (cm 5, .int), (cm 6, .int)]) rfl rfl ?_
  refine ct_putF C hin (T := F_D) (NF := 4) (ci := 0) (tf := .object "ReplayDesk$Machine") rfl kk_uD t_D t_D_ok n_D 0 (by decide) (kk_tm 106 (by decide +kernel) (by decide +kernel)) rfl rfl (by decide +kernel) rfl rfl (Nat.le_of_ble_eq_true rfl) d_D_init_12 ?_
  refine ct_as (ws' := [(h0, .inr (0, [.ref (qmm 0), .null, .null, .null])), (qmm 0, .inr (1, [.ref (qmm 1), .ref (qmm 2), .ref (qmm 3), .int 0, .ref (qmm 4), .int 0, .ref (qmm 5), .ref (qmm 6), .int 0])), (qmm 1, .inl (cm 1, 512, .inl (zS 5))), (qmm 2, .inl (cm 2, 9, .inl (zS 6))), (qmm 3, .inl (cm 3, 40, .inl (zS 7))), (qmm 4, .inl (cm 4, 308, .inl (zS 8))), (qmm 5, .inl (cm 5, 2, .inl (zS 9))), (qmm 6, .inl (cm 6, 2, .inl (zS 10)))]) rfl rfl ?_
  refine ct_aload C (j := 0) hl d_D_init_15 ?_
  refine ct_new C (Cn := R_H) (T := F_H) (NF := 5) (ci := 2) (fs := [.null, .null, .null, .int 0, .int 0]) rfl kk_uH t_H t_H_ok (kk_tm 57 (by decide +kernel) (by decide +kernel)) cn_H ci_H fz_H (by omega) (by omega) d_D_init_16 (fun qh => ?_)
  refine ct_dup C d_D_init_19 ?_
  refine ct_call (c_H_init l) C hN hsz (tl := [(h0, .inr (0, [.ref (qmm 0), .null, .null, .null])), (qmm 0, .inr (1, [.ref (qmm 1), .ref (qmm 2), .ref (qmm 3), .int 0, .ref (qmm 4), .int 0, .ref (qmm 5), .ref (qmm 6), .int 0])), (qmm 1, .inl (cm 1, 512, .inl (zS 5))), (qmm 2, .inl (cm 2, 9, .inl (zS 6))), (qmm 3, .inl (cm 3, 40, .inl (zS 7))), (qmm 4, .inl (cm 4, 308, .inl (zS 8))), (qmm 5, .inl (cm 5, 2, .inl (zS 9))), (qmm 6, .inl (cm 6, 2, .inl (zS 10)))]) cw_H ci_H cm_H rfl ⟨by decide, by decide, by decide +kernel⟩ li_D_18 ⟨by omega, by omega⟩ (Nat.le_of_ble_eq_true rfl) ⟨by omega, by omega⟩ [8] [0, 1, 2, 3, 4, 5, 6, 7] rfl rfl rfl rfl (by decide) d_D_init_20 (fun qhh ch eh => ?_)
  subst eh
  refine ct_widen (kc2 := 11) (ns2 := 4796) (by omega) (by omega) ?_
  refine ct_as (ws' := [(h0, .inr (0, [.ref (qmm 0), .null, .null, .null])), (qmm 0, .inr (1, [.ref (qmm 1), .ref (qmm 2), .ref (qmm 3), .int 0, .ref (qmm 4), .int 0, .ref (qmm 5), .ref (qmm 6), .int 0])), (qmm 1, .inl (cm 1, 512, .inl (zS 5))), (qmm 2, .inl (cm 2, 9, .inl (zS 6))), (qmm 3, .inl (cm 3, 40, .inl (zS 7))), (qmm 4, .inl (cm 4, 308, .inl (zS 8))), (qmm 5, .inl (cm 5, 2, .inl (zS 9))), (qmm 6, .inl (cm 6, 2, .inl (zS 10))), (qhh 0, .inr (2, [.ref (qhh 1), .ref (qhh 2), .ref (qhh 3), .int 0, .int 0])), (qhh 1, .inl (ch 1, 2709, .inl (zS 11))), (qhh 2, .inl (ch 2, 600, .inl (zS 12))), (qhh 3, .inl (ch 3, 600, .inl (zS 13)))]) (tys' := [(cm 1, .int), (cm 2, .int), (cm 3, .int), (cm 4, .int), (cm 5, .int), (cm 6, .int), (ch 1, .int), (ch 2, .int), (ch 3, .int)]) rfl rfl ?_
  refine ct_putF C hin (T := F_D) (NF := 4) (ci := 0) (tf := .object "ReplayDesk$History") rfl kk_uD t_D t_D_ok n_D 1 (by decide) (kk_tm 107 (by decide +kernel) (by decide +kernel)) rfl rfl (by decide +kernel) rfl rfl (Nat.le_of_ble_eq_true rfl) d_D_init_23 ?_
  refine ct_as (ws' := [(h0, .inr (0, [.ref (qmm 0), .ref (qhh 0), .null, .null])), (qmm 0, .inr (1, [.ref (qmm 1), .ref (qmm 2), .ref (qmm 3), .int 0, .ref (qmm 4), .int 0, .ref (qmm 5), .ref (qmm 6), .int 0])), (qmm 1, .inl (cm 1, 512, .inl (zS 5))), (qmm 2, .inl (cm 2, 9, .inl (zS 6))), (qmm 3, .inl (cm 3, 40, .inl (zS 7))), (qmm 4, .inl (cm 4, 308, .inl (zS 8))), (qmm 5, .inl (cm 5, 2, .inl (zS 9))), (qmm 6, .inl (cm 6, 2, .inl (zS 10))), (qhh 0, .inr (2, [.ref (qhh 1), .ref (qhh 2), .ref (qhh 3), .int 0, .int 0])), (qhh 1, .inl (ch 1, 2709, .inl (zS 11))), (qhh 2, .inl (ch 2, 600, .inl (zS 12))), (qhh 3, .inl (ch 3, 600, .inl (zS 13)))]) rfl rfl ?_
  refine ct_aload C (j := 0) hl d_D_init_26 ?_
  refine ct_new C (Cn := R_K) (T := F_K) (NF := 2) (ci := 3) (fs := [.null, .int 0]) rfl kk_uK t_K t_K_ok (kk_tm 81 (by decide +kernel) (by decide +kernel)) cn_K ci_K fz_K (by omega) (by omega) d_D_init_27 (fun qk => ?_)
  refine ct_dup C d_D_init_30 ?_
  refine ct_call (c_K_init l) C hN hsz (tl := [(h0, .inr (0, [.ref (qmm 0), .ref (qhh 0), .null, .null])), (qmm 0, .inr (1, [.ref (qmm 1), .ref (qmm 2), .ref (qmm 3), .int 0, .ref (qmm 4), .int 0, .ref (qmm 5), .ref (qmm 6), .int 0])), (qmm 1, .inl (cm 1, 512, .inl (zS 5))), (qmm 2, .inl (cm 2, 9, .inl (zS 6))), (qmm 3, .inl (cm 3, 40, .inl (zS 7))), (qmm 4, .inl (cm 4, 308, .inl (zS 8))), (qmm 5, .inl (cm 5, 2, .inl (zS 9))), (qmm 6, .inl (cm 6, 2, .inl (zS 10))), (qhh 0, .inr (2, [.ref (qhh 1), .ref (qhh 2), .ref (qhh 3), .int 0, .int 0])), (qhh 1, .inl (ch 1, 2709, .inl (zS 11))), (qhh 2, .inl (ch 2, 600, .inl (zS 12))), (qhh 3, .inl (ch 3, 600, .inl (zS 13)))]) cw_K ci_K cm_K rfl ⟨by decide, by decide, by decide +kernel⟩ li_D_25 ⟨by omega, by omega⟩ (Nat.le_of_ble_eq_true rfl) ⟨by omega, by omega⟩ [12] [0, 1, 2, 3, 4, 5, 6, 7, 8, 9, 10, 11] rfl rfl rfl rfl (by decide) d_D_init_31 (fun qkk ck ek => ?_)
  subst ek
  refine ct_widen (kc2 := 13) (ns2 := 5310) (by omega) (by omega) ?_
  refine ct_as (ws' := [(h0, .inr (0, [.ref (qmm 0), .ref (qhh 0), .null, .null])), (qmm 0, .inr (1, [.ref (qmm 1), .ref (qmm 2), .ref (qmm 3), .int 0, .ref (qmm 4), .int 0, .ref (qmm 5), .ref (qmm 6), .int 0])), (qmm 1, .inl (cm 1, 512, .inl (zS 5))), (qmm 2, .inl (cm 2, 9, .inl (zS 6))), (qmm 3, .inl (cm 3, 40, .inl (zS 7))), (qmm 4, .inl (cm 4, 308, .inl (zS 8))), (qmm 5, .inl (cm 5, 2, .inl (zS 9))), (qmm 6, .inl (cm 6, 2, .inl (zS 10))), (qhh 0, .inr (2, [.ref (qhh 1), .ref (qhh 2), .ref (qhh 3), .int 0, .int 0])), (qhh 1, .inl (ch 1, 2709, .inl (zS 11))), (qhh 2, .inl (ch 2, 600, .inl (zS 12))), (qhh 3, .inl (ch 3, 600, .inl (zS 13))), (qkk 0, .inr (3, [.ref (qkk 1), .int 0])), (qkk 1, .inl (ck 1, 512, .inl (zS 14)))]) (tys' := [(cm 1, .int), (cm 2, .int), (cm 3, .int), (cm 4, .int), (cm 5, .int), (cm 6, .int), (ch 1, .int), (ch 2, .int), (ch 3, .int), (ck 1, .boolean)]) rfl rfl ?_
  refine ct_putF C hin (T := F_D) (NF := 4) (ci := 0) (tf := .object "ReplayDesk$Marks") rfl kk_uD t_D t_D_ok n_D 2 (by decide) (kk_tm 108 (by decide +kernel) (by decide +kernel)) rfl rfl (by decide +kernel) rfl rfl (Nat.le_of_ble_eq_true rfl) d_D_init_34 ?_
  refine ct_as (ws' := [(h0, .inr (0, [.ref (qmm 0), .ref (qhh 0), .ref (qkk 0), .null])), (qmm 0, .inr (1, [.ref (qmm 1), .ref (qmm 2), .ref (qmm 3), .int 0, .ref (qmm 4), .int 0, .ref (qmm 5), .ref (qmm 6), .int 0])), (qmm 1, .inl (cm 1, 512, .inl (zS 5))), (qmm 2, .inl (cm 2, 9, .inl (zS 6))), (qmm 3, .inl (cm 3, 40, .inl (zS 7))), (qmm 4, .inl (cm 4, 308, .inl (zS 8))), (qmm 5, .inl (cm 5, 2, .inl (zS 9))), (qmm 6, .inl (cm 6, 2, .inl (zS 10))), (qhh 0, .inr (2, [.ref (qhh 1), .ref (qhh 2), .ref (qhh 3), .int 0, .int 0])), (qhh 1, .inl (ch 1, 2709, .inl (zS 11))), (qhh 2, .inl (ch 2, 600, .inl (zS 12))), (qhh 3, .inl (ch 3, 600, .inl (zS 13))), (qkk 0, .inr (3, [.ref (qkk 1), .int 0])), (qkk 1, .inl (ck 1, 512, .inl (zS 14)))]) rfl rfl ?_
  refine ct_aload C (j := 0) hl d_D_init_37 ?_
  refine ct_new C (Cn := R_K) (T := F_K) (NF := 2) (ci := 3) (fs := [.null, .int 0]) rfl kk_uK t_K t_K_ok (kk_tm 81 (by decide +kernel) (by decide +kernel)) cn_K ci_K fz_K (by omega) (by omega) d_D_init_38 (fun qj => ?_)
  refine ct_dup C d_D_init_41 ?_
  refine ct_call (c_K_init l) C hN hsz (tl := [(h0, .inr (0, [.ref (qmm 0), .ref (qhh 0), .ref (qkk 0), .null])), (qmm 0, .inr (1, [.ref (qmm 1), .ref (qmm 2), .ref (qmm 3), .int 0, .ref (qmm 4), .int 0, .ref (qmm 5), .ref (qmm 6), .int 0])), (qmm 1, .inl (cm 1, 512, .inl (zS 5))), (qmm 2, .inl (cm 2, 9, .inl (zS 6))), (qmm 3, .inl (cm 3, 40, .inl (zS 7))), (qmm 4, .inl (cm 4, 308, .inl (zS 8))), (qmm 5, .inl (cm 5, 2, .inl (zS 9))), (qmm 6, .inl (cm 6, 2, .inl (zS 10))), (qhh 0, .inr (2, [.ref (qhh 1), .ref (qhh 2), .ref (qhh 3), .int 0, .int 0])), (qhh 1, .inl (ch 1, 2709, .inl (zS 11))), (qhh 2, .inl (ch 2, 600, .inl (zS 12))), (qhh 3, .inl (ch 3, 600, .inl (zS 13))), (qkk 0, .inr (3, [.ref (qkk 1), .int 0])), (qkk 1, .inl (ck 1, 512, .inl (zS 14)))]) cw_K ci_K cm_K rfl ⟨by decide, by decide, by decide +kernel⟩ li_D_25 ⟨by omega, by omega⟩ (Nat.le_of_ble_eq_true rfl) ⟨by omega, by omega⟩ [14] [0, 1, 2, 3, 4, 5, 6, 7, 8, 9, 10, 11, 12, 13] rfl rfl rfl rfl (by decide) d_D_init_42 (fun qjj cj ej => ?_)
  subst ej
  refine ct_widen (kc2 := 15) (ns2 := 5824) (by omega) (by omega) ?_
  refine ct_as (ws' := [(h0, .inr (0, [.ref (qmm 0), .ref (qhh 0), .ref (qkk 0), .null])), (qmm 0, .inr (1, [.ref (qmm 1), .ref (qmm 2), .ref (qmm 3), .int 0, .ref (qmm 4), .int 0, .ref (qmm 5), .ref (qmm 6), .int 0])), (qmm 1, .inl (cm 1, 512, .inl (zS 5))), (qmm 2, .inl (cm 2, 9, .inl (zS 6))), (qmm 3, .inl (cm 3, 40, .inl (zS 7))), (qmm 4, .inl (cm 4, 308, .inl (zS 8))), (qmm 5, .inl (cm 5, 2, .inl (zS 9))), (qmm 6, .inl (cm 6, 2, .inl (zS 10))), (qhh 0, .inr (2, [.ref (qhh 1), .ref (qhh 2), .ref (qhh 3), .int 0, .int 0])), (qhh 1, .inl (ch 1, 2709, .inl (zS 11))), (qhh 2, .inl (ch 2, 600, .inl (zS 12))), (qhh 3, .inl (ch 3, 600, .inl (zS 13))), (qkk 0, .inr (3, [.ref (qkk 1), .int 0])), (qkk 1, .inl (ck 1, 512, .inl (zS 14))), (qjj 0, .inr (3, [.ref (qjj 1), .int 0])), (qjj 1, .inl (cj 1, 512, .inl (zS 15)))]) (tys' := [(cm 1, .int), (cm 2, .int), (cm 3, .int), (cm 4, .int), (cm 5, .int), (cm 6, .int), (ch 1, .int), (ch 2, .int), (ch 3, .int), (ck 1, .boolean), (cj 1, .boolean)]) rfl rfl ?_
  refine ct_putF C hin (T := F_D) (NF := 4) (ci := 0) (tf := .object "ReplayDesk$Marks") rfl kk_uD t_D t_D_ok n_D 3 (by decide) (kk_tm 109 (by decide +kernel) (by decide +kernel)) rfl rfl (by decide +kernel) rfl rfl (Nat.le_of_ble_eq_true rfl) d_D_init_45 ?_
  refine ct_as (ws' := [(h0, .inr (0, [.ref (qmm 0), .ref (qhh 0), .ref (qkk 0), .ref (qjj 0)])), (qmm 0, .inr (1, [.ref (qmm 1), .ref (qmm 2), .ref (qmm 3), .int 0, .ref (qmm 4), .int 0, .ref (qmm 5), .ref (qmm 6), .int 0])), (qmm 1, .inl (cm 1, 512, .inl (zS 5))), (qmm 2, .inl (cm 2, 9, .inl (zS 6))), (qmm 3, .inl (cm 3, 40, .inl (zS 7))), (qmm 4, .inl (cm 4, 308, .inl (zS 8))), (qmm 5, .inl (cm 5, 2, .inl (zS 9))), (qmm 6, .inl (cm 6, 2, .inl (zS 10))), (qhh 0, .inr (2, [.ref (qhh 1), .ref (qhh 2), .ref (qhh 3), .int 0, .int 0])), (qhh 1, .inl (ch 1, 2709, .inl (zS 11))), (qhh 2, .inl (ch 2, 600, .inl (zS 12))), (qhh 3, .inl (ch 3, 600, .inl (zS 13))), (qkk 0, .inr (3, [.ref (qkk 1), .int 0])), (qkk 1, .inl (ck 1, 512, .inl (zS 14))), (qjj 0, .inr (3, [.ref (qjj 1), .int 0])), (qjj 1, .inl (cj 1, 512, .inl (zS 15)))]) rfl rfl ?_
  refine ct_aload C (j := 0) hl d_D_init_48 ?_
  refine ct_get C (T := F_D) (NF := 4) (ci := 0) 0 rfl rfl kk_uD 1 (by decide) (kk_tm 107 (by decide +kernel) (by decide +kernel)) rfl rfl d_D_init_49 ?_
  refine ct_aload C (j := 0) hl d_D_init_52 ?_
  refine ct_get C (T := F_D) (NF := 4) (ci := 0) 0 rfl rfl kk_uD 0 (by decide) (kk_tm 106 (by decide +kernel) (by decide +kernel)) rfl rfl d_D_init_53 ?_
  refine ct_perm (ws' := lm_W kk_shD (fun i => [h0, qmm 0, qhh 0, qkk 0, qjj 0, qmm 1, qmm 2, qmm 3, qmm 4, qmm 5, qmm 6, qhh 1, qhh 2, qhh 3, qkk 1, qjj 1].getD i 0) (fun i => [0, 0, 0, 0, 0, cm 1, cm 2, cm 3, cm 4, cm 5, cm 6, ch 1, ch 2, ch 3, ck 1, cj 1].getD i 0) zS) (tys' := lm_ty kk_shD (fun i => [0, 0, 0, 0, 0, cm 1, cm 2, cm 3, cm 4, cm 5, cm 6, ch 1, ch 2, ch 3, ck 1, cj 1].getD i 0)) [0, 1, 8, 12, 14, 2, 3, 4, 5, 6, 7, 9, 10, 11, 13, 15] [0, 1, 2, 3, 4, 5, 6, 7, 8, 9, 10] (by rw [wD_eq]; rfl) rfl (by rw [tD_eq]; rfl) ?_
  refine ct_light (I_H_begin_0 l) kk_okZD C hN hsz (i := 2) (as := [.ref 1]) (S1 := kd_begin zS) rfl rfl yw_H_begin li_D_33 ⟨by omega, by omega⟩ (Nat.le_of_ble_eq_true rfl) ⟨by omega, by omega⟩ ⟨rfl, rfl, rfl⟩ rfl d_D_init_56 ?_
  exact hret 59 _ _ _ _ rfl rfl rfl d_D_init_59
