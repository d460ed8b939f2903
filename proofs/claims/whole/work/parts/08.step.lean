/-! the desk's machine: a whole step -/
def kd_pv (S : lm_S) : Int32 := kd_cell (256 + (S 6 3 + 1 &&& 255)) S
def kd_stack (md : Int32) (S : lm_S) : lm_S := if md.toInt = 0 then lm_set (kd_take (kd_take S)) 6 5 ((kd_pv S + 256 * kd_pv (kd_take S)) &&& 511) else if md.toInt = 0 + 1 then kd_push (S 6 0) S else if md.toInt = 0 + 1 + 1 then kd_load 0 (kd_pv S) (kd_take S) else if md.toInt = 0 + 1 + 1 + 1 then kd_push (S 6 4) S else if md.toInt = 0 + 1 + 1 + 1 + 1 then lm_set (kd_take S) 6 4 (kd_pv S &&& 195) else if md.toInt = 0 + 1 + 1 + 1 + 1 + 1 then lm_set S 6 6 1 else if md.toInt = 0 + 1 + 1 + 1 + 1 + 1 + 1 then kd_in S else kd_out S
def s_M_useStackOrPort : lm_Sp := fun av S post => ∃ md, av = [.ref 1, .int md] ∧ ¬ S 1 8 < 0 ∧ (¬ S 1 3 - S 6 7 ≤ 0 → vp_in (S 6 7) 40) ∧ ¬ S 6 8 < 0 ∧ post none (kd_stack md S)
abbrev ca_M_useStackOrPort : lm_Ca := [(82, 2, (some 1), s_M_load), (114, 1, (some 1), s_M_push), (117, 0, (some 1), s_M_takeByte), (120, 0, (some 1), s_M_takeInput), (123, 0, (some 1), s_M_putOut)]
theorem cok_M_useStackOrPort (l : Launch) : lm_cok l (kk_Y kk_shF) R_M 3 66 ca_M_useStackOrPort := kk_cok (kk_cons ⟨y_M_load, b_M_load, 3, none, 1, 22, I_M_load l, ⟨by decide, by decide⟩, yw_M_load, li_M_82⟩ <| kk_cons ⟨y_M_push, b_M_push, 2, none, 1, 23, I_M_push l, ⟨by decide, by decide⟩, yw_M_push, li_M_114⟩ <| kk_cons ⟨y_M_takeByte, b_M_takeByte, 1, some .int, 1, 21, I_M_takeByte l, ⟨by decide, by decide⟩, yw_M_takeByte, li_M_117⟩ <| kk_cons ⟨y_M_takeInput, b_M_takeInput, 3, none, 2, 44, I_M_takeInput l, ⟨by decide, by decide⟩, yw_M_takeInput, li_M_120⟩ <| kk_cons ⟨y_M_putOut, b_M_putOut, 1, none, 0, 0, I_M_putOut l, ⟨by decide, by decide⟩, yw_M_putOut, li_M_123⟩ <| kk_nil)
set_option maxHeartbeats 1000000 in
set_option maxRecDepth 20000 in
theorem I_M_useStackOrPort (l : Launch) : lm_I l (kk_Y kk_shF) y_M_useStackOrPort b_M_useStackOrPort 3 (none) 3 66 s_M_useStackOrPort := by
  refine lm_impl g_M_useStackOrPort ca_M_useStackOrPort (by decide +kernel) kk_okF ck_M_useStackOrPort (kk_fok fl_M_ok) (kk_sok sl_M_ok) (Or.inl rfl) (cok_M_useStackOrPort l) rfl (by decide) ?_
  rintro av S post ⟨md, rfl, hw, hw2, hw3, h⟩
  refine ⟨Nat.le_of_ble_eq_true rfl, lm_run 90 ?_⟩
  unfold kd_stack kd_pv at h
  (try (conv => whnf))
  repeat' first
    | (refine ⟨_, rfl, ?_⟩; conv => whnf)
    | (refine ⟨_, _, rfl, ?_⟩; conv => whnf)
    | (refine ⟨_, _, _, rfl, ?_⟩; conv => whnf)
    | (refine And.intro rfl ?_; conv => whnf)
    | (refine And.intro (lm_vc (by decide)) ?_; conv => whnf)
    | (refine And.intro (by decide) ?_; conv => whnf)
    | (refine ⟨fun hx => absurd hx (by decide), fun _ => ?_⟩; conv => whnf)
    | (refine ⟨fun _ => ?_, fun hx => absurd hx (by decide)⟩; conv => whnf)
    | (refine And.intro (hw hx) ?_; conv => whnf)
    | (refine And.intro hw ?_; conv => whnf)
    | (refine And.intro hw2 ?_; conv => whnf)
    | (refine And.intro hw3 ?_; conv => whnf)
    | (refine And.intro hw4 ?_; conv => whnf)
    | (refine And.intro hw5 ?_; conv => whnf)
    | (refine And.intro hw6 ?_; conv => whnf)
    | (refine And.intro hw7 ?_; conv => whnf)
    | (refine And.intro (hv1 (by assumption)) ?_; conv => whnf)
    | (refine And.intro (hv2 (by assumption) (by assumption)) ?_; conv => whnf)
    | (refine And.intro (hv3 (by assumption) (by assumption)) ?_; conv => whnf)
    | (refine And.intro (lm_v511 _) ?_; conv => whnf)
    | (refine And.intro (lm_v7 _) ?_; conv => whnf)
    | (refine ⟨fun hx => ?_, fun hx => ?_⟩ <;> conv => whnf)
    | (split at h)
    | contradiction
    | exact h
theorem kd_op1 {op : Int32} (h0 : ¬ op < 0) (h : ¬ 2 < op) : vp_in op 9 := by
  rw [vp_in_iff]
  rw [Int32.lt_iff_toInt_lt, Int32.toInt_zero] at h0
  rw [Int32.lt_iff_toInt_lt, show (2 : Int32).toInt = 2 from by decide] at h
  omega
theorem kd_op2 {op c d : Int32} (lo hi : Nat) (hc : c.toInt = (lo : Int)) (hd : d.toInt = (lo : Int) + 1) (e : Int32) (he : e.toInt = (hi : Int)) (hh : hi ≤ lo + 8) (hl : lo < 100) (h : c < op) (h2 : ¬ e < op) : vp_in (op - d) 9 := by
  rw [Int32.lt_iff_toInt_lt, hc] at h
  rw [Int32.lt_iff_toInt_lt, he] at h2
  obtain ⟨j, hj, rfl⟩ := nI_of (x := op) (by rw [Int32.lt_iff_toInt_lt, Int32.toInt_zero]; omega)
  rw [nI_toInt hj] at h h2
  have e1 : d = nI (lo + 1) := Int32.toInt_inj.mp (by rw [hd, nI_toInt (by omega)]; omega)
  rw [e1, pk_sub (by omega)]
  exact vp_in_nI (by omega) (by decide)
def kd_workt (op p t : Int32) (S : lm_S) : lm_S := if 2 < op then (if 5 < op then (if op = 6 then kd_add t S else if op = 7 then kd_add (255 - t) S else if 10 < op then (if 13 < op then (if op = 14 then kd_test t S else kd_alter op p t S) else kd_cmp (S 6 (op - 11).toNatClampNeg) t S) else kd_load 0 (kd_bits op t S) S) else kd_wplace p (S 6 (op - 3).toNatClampNeg) S) else kd_load op t S
def kd_work (op p : Int32) (S : lm_S) : lm_S := if p = -1 then kd_workt op p (S 6 0) S else kd_workt op p (kd_cell p S) S
def s_M_workOnPlace : lm_Sp := fun av S post => ∃ op p, av = [.ref 1, .int op, .int p] ∧ ¬ op < 0 ∧ ¬ S 1 8 < 0 ∧ post none (kd_work op p S)
abbrev ca_M_workOnPlace : lm_Ca := [(44, 1, (some 1), s_M_cellAt), (82, 2, (some 1), s_M_load), (85, 2, (some 1), s_M_writePlace), (88, 1, (some 1), s_M_addToA), (91, 2, (some 1), s_M_bitsWithA), (94, 2, (some 1), s_M_compare), (97, 1, (some 1), s_M_testBits), (100, 3, (some 1), s_M_alterPlace)]
theorem cok_M_workOnPlace (l : Launch) : lm_cok l (kk_Y kk_shF) R_M 3 69 ca_M_workOnPlace := kk_cok (kk_cons ⟨y_M_cellAt, b_M_cellAt, 2, some .int, 0, 0, I_M_cellAt l, ⟨by decide, by decide⟩, yw_M_cellAt, li_M_44⟩ <| kk_cons ⟨y_M_load, b_M_load, 3, none, 1, 22, I_M_load l, ⟨by decide, by decide⟩, yw_M_load, li_M_82⟩ <| kk_cons ⟨y_M_writePlace, b_M_writePlace, 3, none, 1, 23, I_M_writePlace l, ⟨by decide, by decide⟩, yw_M_writePlace, li_M_85⟩ <| kk_cons ⟨y_M_addToA, b_M_addToA, 5, none, 2, 44, I_M_addToA l, ⟨by decide, by decide⟩, yw_M_addToA, li_M_88⟩ <| kk_cons ⟨y_M_bitsWithA, b_M_bitsWithA, 3, some .int, 0, 0, I_M_bitsWithA l, ⟨by decide, by decide⟩, yw_M_bitsWithA, li_M_91⟩ <| kk_cons ⟨y_M_compare, b_M_compare, 3, none, 1, 22, I_M_compare l, ⟨by decide, by decide⟩, yw_M_compare, li_M_94⟩ <| kk_cons ⟨y_M_testBits, b_M_testBits, 2, none, 1, 22, I_M_testBits l, ⟨by decide, by decide⟩, yw_M_testBits, li_M_97⟩ <| kk_cons ⟨y_M_alterPlace, b_M_alterPlace, 5, none, 2, 45, I_M_alterPlace l, ⟨by decide, by decide⟩, yw_M_alterPlace, li_M_100⟩ <| kk_nil)
set_option maxHeartbeats 1000000 in
set_option maxRecDepth 20000 in
theorem I_M_workOnPlace (l : Launch) : lm_I l (kk_Y kk_shF) y_M_workOnPlace b_M_workOnPlace 4 (none) 3 69 s_M_workOnPlace := by
  refine lm_impl g_M_workOnPlace ca_M_workOnPlace (by decide +kernel) kk_okF ck_M_workOnPlace (kk_fok fl_M_ok) (kk_sok sl_M_ok) (Or.inl rfl) (cok_M_workOnPlace l) rfl (by decide) ?_
  rintro av S post ⟨op, p, rfl, h0, hw, h⟩
  have hv1 : ¬ 2 < op → vp_in op 9 := kd_op1 h0
  have hv2 : 2 < op → ¬ 5 < op → vp_in (op - 3) 9 := kd_op2 2 5 (by decide) (by decide) 5 (by decide) (by omega) (by omega)
  have hv3 : 10 < op → ¬ 13 < op → vp_in (op - 11) 9 := kd_op2 10 13 (by decide) (by decide) 13 (by decide) (by omega) (by omega)
  refine ⟨Nat.le_of_ble_eq_true rfl, lm_run 90 ?_⟩
  unfold kd_work kd_workt at h
  (try (conv => whnf))
  repeat' first
    | (refine ⟨_, rfl, ?_⟩; conv => whnf)
    | (refine ⟨_, _, rfl, ?_⟩; conv => whnf)
    | (refine ⟨_, _, _, rfl, ?_⟩; conv => whnf)
    | (refine And.intro rfl ?_; conv => whnf)
    | (refine And.intro (lm_vc (by decide)) ?_; conv => whnf)
    | (refine And.intro (by decide) ?_; conv => whnf)
    | (refine ⟨fun hx => absurd hx (by decide), fun _ => ?_⟩; conv => whnf)
    | (refine ⟨fun _ => ?_, fun hx => absurd hx (by decide)⟩; conv => whnf)
    | (refine And.intro (hw hx) ?_; conv => whnf)
    | (refine And.intro hw ?_; conv => whnf)
    | (refine And.intro hw2 ?_; conv => whnf)
    | (refine And.intro hw3 ?_; conv => whnf)
    | (refine And.intro hw4 ?_; conv => whnf)
    | (refine And.intro hw5 ?_; conv => whnf)
    | (refine And.intro hw6 ?_; conv => whnf)
    | (refine And.intro hw7 ?_; conv => whnf)
    | (refine And.intro (hv1 (by assumption)) ?_; conv => whnf)
    | (refine And.intro (hv2 (by assumption) (by assumption)) ?_; conv => whnf)
    | (refine And.intro (hv3 (by assumption) (by assumption)) ?_; conv => whnf)
    | (refine And.intro (lm_v511 _) ?_; conv => whnf)
    | (refine And.intro (lm_v7 _) ?_; conv => whnf)
    | (refine ⟨fun hx => ?_, fun hx => ?_⟩ <;> conv => whnf)
    | (split at h)
    | contradiction
    | exact h
def kd_disp (op md o p : Int32) (S : lm_S) : lm_S := if 20 < op then (if 22 < op then (if op = 23 then kd_stack md S else if op = 24 then kd_move md S else if op = 25 then kd_small md S else if op = 26 then kd_branch md o S else S) else if op = 22 then kd_jump 1 md p S else kd_jump 0 md p S) else kd_work op p S
def kd_b (S : lm_S) : Int32 := S 5 (S 6 5).toNatClampNeg
def kd_step0 (S : lm_S) : lm_S := kd_disp (kd_b S >>> (3 &&& 31)) (kd_b S &&& 7) (kd_cell (S 6 5 + 1) S) (kd_place (kd_b S &&& 7) (S 6 5) S) (lm_set S 6 5 ((S 6 5 + kd_len (kd_b S >>> (3 &&& 31)) (kd_b S &&& 7)) &&& 511))
def kd_step (S : lm_S) : lm_S := kd_step0 (kd_forget S)
theorem kd_md4 (b : Int32) : vp_in ((b &&& 7) >>> (1 &&& 31)) 4 := by
  rw [pk_and b 3 (by decide), pk_shrN (by omega) _ 1 (by decide)]
  exact vp_in_nI (by omega) (by decide)
theorem kd_opn {b : Int32} (h : ¬ b < 0) : ¬ b >>> (3 &&& 31) < 0 := by
  obtain ⟨j, hj, rfl⟩ := nI_of h
  rw [pk_shrN hj _ 3 (by decide)]
  exact nI_pos (by omega)
/-- what a step needs -/
def kd_ok (S : lm_S) : Prop := vp_in (S 6 5) 512 ∧ ¬ kd_b S < 0 ∧ (¬ S 1 3 - S 6 7 ≤ 0 → vp_in (S 6 7) 40) ∧ ¬ S 6 8 < 0
def s_M_makeStep : lm_Sp := fun av S post => av = [.ref 1] ∧ kd_ok S ∧ post none (kd_step S)
abbrev ca_ds : lm_Ca := [(41, 0, (some 1), s_M_forgetWrites), (44, 1, (some 1), s_M_cellAt), (48, 2, (some 1), s_M_placeOf), (52, 2, none, s_M_lengthOf), (55, 2, (some 1), s_M_workOnPlace), (59, 3, (some 1), s_M_jump), (63, 1, (some 1), s_M_useStackOrPort), (67, 1, (some 1), s_M_moveRegister), (70, 1, (some 1), s_M_changeYOrFlag), (73, 2, (some 1), s_M_branch)]
set_option maxHeartbeats 1000000 in
set_option maxRecDepth 20000 in
theorem kd_disp_ok {post : Option Value → lm_S → Prop} (a op md o p : Int32) (S : lm_S) (hw5 : ¬ op < 0) (hw4 : ¬ S 1 8 < 0) (hw2 : ¬ S 1 3 - S 6 7 ≤ 0 → vp_in (S 6 7) 40) (hw3 : ¬ S 6 8 < 0) (hw6 : vp_in (md >>> (1 &&& 31)) 4) (h : post none (kd_disp op md o p S)) : lm_Go YF g_M_makeStep ca_ds post 64 [(0, .ref 1), (1, .int a), (2, .int op), (3, .int md), (4, .int o), (5, .int p)] [] S := by
  refine lm_run 60 ?_
  unfold kd_disp at h
  (try (conv => whnf))
  repeat' first
    | (refine ⟨_, rfl, ?_⟩; conv => whnf)
    | (refine ⟨_, _, rfl, ?_⟩; conv => whnf)
    | (refine ⟨_, _, _, rfl, ?_⟩; conv => whnf)
    | (refine And.intro rfl ?_; conv => whnf)
    | (refine And.intro (lm_vc (by decide)) ?_; conv => whnf)
    | (refine And.intro (by decide) ?_; conv => whnf)
    | (refine ⟨fun hx => absurd hx (by decide), fun _ => ?_⟩; conv => whnf)
    | (refine ⟨fun _ => ?_, fun hx => absurd hx (by decide)⟩; conv => whnf)
    | (refine And.intro (hw hx) ?_; conv => whnf)
    | (refine And.intro hw ?_; conv => whnf)
    | (refine And.intro hw2 ?_; conv => whnf)
    | (refine And.intro hw3 ?_; conv => whnf)
    | (refine And.intro hw4 ?_; conv => whnf)
    | (refine And.intro hw5 ?_; conv => whnf)
    | (refine And.intro hw6 ?_; conv => whnf)
    | (refine And.intro hw7 ?_; conv => whnf)
    | (refine And.intro (hv1 (by assumption)) ?_; conv => whnf)
    | (refine And.intro (hv2 (by assumption) (by assumption)) ?_; conv => whnf)
    | (refine And.intro (hv3 (by assumption) (by assumption)) ?_; conv => whnf)
    | (refine And.intro (lm_v511 _) ?_; conv => whnf)
    | (refine And.intro (lm_v7 _) ?_; conv => whnf)
    | (refine ⟨fun hx => ?_, fun hx => ?_⟩ <;> conv => whnf)
    | (split at h)
    | contradiction
    | exact h
abbrev ca_M_makeStep : lm_Ca := [(41, 0, (some 1), s_M_forgetWrites), (44, 1, (some 1), s_M_cellAt), (48, 2, (some 1), s_M_placeOf), (52, 2, none, s_M_lengthOf), (55, 2, (some 1), s_M_workOnPlace), (59, 3, (some 1), s_M_jump), (63, 1, (some 1), s_M_useStackOrPort), (67, 1, (some 1), s_M_moveRegister), (70, 1, (some 1), s_M_changeYOrFlag), (73, 2, (some 1), s_M_branch)]
theorem cok_M_makeStep (l : Launch) : lm_cok l (kk_Y kk_shF) R_M 4 92 ca_M_makeStep := kk_cok (kk_cons ⟨y_M_forgetWrites, b_M_forgetWrites, 2, none, 0, 0, I_M_forgetWrites l, ⟨by decide, by decide⟩, yw_M_forgetWrites, li_M_41⟩ <| kk_cons ⟨y_M_cellAt, b_M_cellAt, 2, some .int, 0, 0, I_M_cellAt l, ⟨by decide, by decide⟩, yw_M_cellAt, li_M_44⟩ <| kk_cons ⟨y_M_placeOf, b_M_placeOf, 5, some .int, 2, 42, I_M_placeOf l, ⟨by decide, by decide⟩, yw_M_placeOf, li_M_48⟩ <| kk_cons ⟨y_M_lengthOf, b_M_lengthOf, 2, some .int, 0, 0, I_M_lengthOf l, ⟨by decide, by decide⟩, yw_M_lengthOf, li_M_52⟩ <| kk_cons ⟨y_M_workOnPlace, b_M_workOnPlace, 4, none, 3, 69, I_M_workOnPlace l, ⟨by decide, by decide⟩, yw_M_workOnPlace, li_M_55⟩ <| kk_cons ⟨y_M_jump, b_M_jump, 4, none, 2, 44, I_M_jump l, ⟨by decide, by decide⟩, yw_M_jump, li_M_59⟩ <| kk_cons ⟨y_M_useStackOrPort, b_M_useStackOrPort, 3, none, 3, 66, I_M_useStackOrPort l, ⟨by decide, by decide⟩, yw_M_useStackOrPort, li_M_63⟩ <| kk_cons ⟨y_M_moveRegister, b_M_moveRegister, 2, none, 2, 44, I_M_moveRegister l, ⟨by decide, by decide⟩, yw_M_moveRegister, li_M_67⟩ <| kk_cons ⟨y_M_changeYOrFlag, b_M_changeYOrFlag, 2, none, 2, 44, I_M_changeYOrFlag l, ⟨by decide, by decide⟩, yw_M_changeYOrFlag, li_M_70⟩ <| kk_cons ⟨y_M_branch, b_M_branch, 6, none, 0, 0, I_M_branch l, ⟨by decide, by decide⟩, yw_M_branch, li_M_73⟩ <| kk_nil)
set_option maxHeartbeats 1000000 in
set_option maxRecDepth 20000 in
theorem I_M_makeStep (l : Launch) : lm_I l (kk_Y kk_shF) y_M_makeStep b_M_makeStep 6 (none) 4 92 s_M_makeStep := by
  refine lm_impl g_M_makeStep ca_M_makeStep (by decide +kernel) kk_okF ck_M_makeStep (kk_fok fl_M_ok) (kk_sok sl_M_ok) (Or.inl rfl) (cok_M_makeStep l) rfl (by decide) ?_
  rintro av S post ⟨rfl, ⟨h1, h2, h3, h4⟩, h⟩
  have hw : vp_in ((kd_forget S) 6 5) 512 := h1
  have hb : ¬ kd_b (kd_forget S) < 0 := h2
  have hw2 : ¬ (kd_forget S) 1 3 - (kd_forget S) 6 7 ≤ 0 → vp_in ((kd_forget S) 6 7) 40 := h3
  have hw3 : ¬ (kd_forget S) 6 8 < 0 := h4
  have hw4 : ¬ (kd_forget S) 1 8 < 0 := by show ¬ (0 : Int32) < 0; decide
  have hw5 := kd_opn hb
  have hw6 := kd_md4 (kd_b (kd_forget S))
  refine ⟨Nat.le_of_ble_eq_true rfl, lm_to 64 60 ?_⟩
  unfold kd_step at h
  (try (conv => whnf))
  refine And.intro rfl ?_
  generalize kd_forget S = S0 at *
  unfold kd_step0 at h
  (conv => whnf)
  refine And.intro (lm_vc (by decide)) ?_; conv => whnf
  refine And.intro hw ?_; conv => whnf
  refine And.intro hw ?_; conv => whnf
  refine ⟨_, rfl, ?_⟩; conv => whnf
  refine ⟨_, _, rfl, ?_⟩; conv => whnf
  refine ⟨_, _, rfl, lm_v7 _, ?_⟩; conv => whnf
  refine And.intro (lm_vc (by decide)) ?_
  exact lm_Go.sub (kd_disp_ok (S0 6 5) _ _ _ _ _ hw5 hw4 hw2 hw3 hw6 h) (kk_cons rfl (kk_cons rfl (kk_cons rfl (kk_cons rfl (kk_cons rfl (kk_cons rfl kk_nil))))))
