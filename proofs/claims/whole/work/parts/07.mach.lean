/-! the desk's machine: the instructions -/
def kd_bits (op t : Int32) (S : lm_S) : Int32 := if op.toInt = 8 then S 6 0 &&& t else if op.toInt = 9 then S 6 0 ||| t else S 6 0 ^^^ t
def s_M_bitsWithA : lm_Sp := fun av S post => ∃ op t, av = [.ref 1, .int op, .int t] ∧ post (some (.int (kd_bits op t S))) S
abbrev ca_M_bitsWithA : lm_Ca := []
theorem cok_M_bitsWithA (l : Launch) : lm_cok l (kk_Y kk_shF) R_M 0 0 ca_M_bitsWithA := kk_cok (kk_nil)
set_option maxHeartbeats 1000000 in
set_option maxRecDepth 20000 in
theorem I_M_bitsWithA (l : Launch) : lm_I l (kk_Y kk_shF) y_M_bitsWithA b_M_bitsWithA 3 (some .int) 0 0 s_M_bitsWithA := by
  refine lm_impl g_M_bitsWithA ca_M_bitsWithA (by decide +kernel) kk_okF ck_M_bitsWithA (kk_fok fl_M_ok) (kk_sok sl_M_ok) (Or.inl rfl) (cok_M_bitsWithA l) rfl (by decide) ?_
  rintro av S post ⟨op, t, rfl, h⟩
  refine ⟨Nat.le_of_ble_eq_true rfl, lm_run 60 ?_⟩
  unfold kd_bits at h
  (try (conv => whnf))
  repeat' first
    | (refine ⟨_, rfl, ?_⟩; conv => whnf)
    | (refine ⟨_, _, rfl, ?_⟩; conv => whnf)
    | (refine ⟨_, _, _, rfl, ?_⟩; conv => whnf)
    | (refine And.intro rfl ?_; conv => whnf)
    | (refine And.intro (lm_vc (by decide)) ?_; conv => whnf)
    | (refine And.intro (by decide) ?_; conv => whnf)
    | (refine ⟨fun hx => absurd hx (by decide), fun _ => ?_⟩; conv => whnf)
    | (refine ⟨fun _ => ?_, fun hx => absurd hx (by decide)⟩; conv => whnf)
    | (refine And.intro (hw hx) ?_; conv => whnf)
    | (refine And.intro hw ?_; conv => whnf)
    | (refine And.intro hw2 ?_; conv => whnf)
    | (refine And.intro hw3 ?_; conv => whnf)
    | (refine And.intro hw4 ?_; conv => whnf)
    | (refine And.intro hw5 ?_; conv => whnf)
    | (refine And.intro hw6 ?_; conv => whnf)
    | (refine And.intro hw7 ?_; conv => whnf)
    | (refine And.intro (hv1 (by assumption)) ?_; conv => whnf)
    | (refine And.intro (hv2 (by assumption) (by assumption)) ?_; conv => whnf)
    | (refine And.intro (hv3 (by assumption) (by assumption)) ?_; conv => whnf)
    | (refine And.intro (lm_v511 _) ?_; conv => whnf)
    | (refine And.intro (lm_v7 _) ?_; conv => whnf)
    | (refine ⟨fun hx => ?_, fun hx => ?_⟩ <;> conv => whnf)
    | (split at h)
    | contradiction
    | exact h
def kd_add2 (a t c : Int32) (S : lm_S) : lm_S := kd_flag 1 (if a + t + c ≤ 255 then 0 else 1) (kd_load 0 (a + t + c) S)
def kd_add (t : Int32) (S : lm_S) : lm_S := kd_flag 64 (if (S 6 0 ^^^ t) &&& 128 = 0 then (if (S 6 0 ^^^ (kd_add2 (S 6 0) t (S 6 4 &&& 1) S) 6 0) &&& 128 = 0 then 0 else 1) else 0) (kd_add2 (S 6 0) t (S 6 4 &&& 1) S)
def s_M_addToA : lm_Sp := fun av S post => ∃ t, av = [.ref 1, .int t] ∧ post none (kd_add t S)
abbrev ca_M_addToA : lm_Ca := [(82, 2, (some 1), s_M_load), (104, 2, (some 1), s_M_putFlag)]
theorem cok_M_addToA (l : Launch) : lm_cok l (kk_Y kk_shF) R_M 2 44 ca_M_addToA := kk_cok (kk_cons ⟨y_M_load, b_M_load, 3, none, 1, 22, I_M_load l, ⟨by decide, by decide⟩, yw_M_load, li_M_82⟩ <| kk_cons ⟨y_M_putFlag, b_M_putFlag, 3, none, 0, 0, I_M_putFlag l, ⟨by decide, by decide⟩, yw_M_putFlag, li_M_104⟩ <| kk_nil)
set_option maxHeartbeats 1000000 in
set_option maxRecDepth 20000 in
theorem I_M_addToA (l : Launch) : lm_I l (kk_Y kk_shF) y_M_addToA b_M_addToA 5 (none) 2 44 s_M_addToA := by
  refine lm_impl g_M_addToA ca_M_addToA (by decide +kernel) kk_okF ck_M_addToA (kk_fok fl_M_ok) (kk_sok sl_M_ok) (Or.inl rfl) (cok_M_addToA l) rfl (by decide) ?_
  rintro av S post ⟨t, rfl, h⟩
  refine ⟨Nat.le_of_ble_eq_true rfl, lm_run 90 ?_⟩
  unfold kd_add kd_add2 at h
  (try (conv => whnf))
  repeat' first
    | (refine ⟨_, rfl, ?_⟩; conv => whnf)
    | (refine ⟨_, _, rfl, ?_⟩; conv => whnf)
    | (refine ⟨_, _, _, rfl, ?_⟩; conv => whnf)
    | (refine And.intro rfl ?_; conv => whnf)
    | (refine And.intro (lm_vc (by decide)) ?_; conv => whnf)
    | (refine And.intro (by decide) ?_; conv => whnf)
    | (refine ⟨fun hx => absurd hx (by decide), fun _ => ?_⟩; conv => whnf)
    | (refine ⟨fun _ => ?_, fun hx => absurd hx (by decide)⟩; conv => whnf)
    | (refine And.intro (hw hx) ?_; conv => whnf)
    | (refine And.intro hw ?_; conv => whnf)
    | (refine And.intro hw2 ?_; conv => whnf)
    | (refine And.intro hw3 ?_; conv => whnf)
    | (refine And.intro hw4 ?_; conv => whnf)
    | (refine And.intro hw5 ?_; conv => whnf)
    | (refine And.intro hw6 ?_; conv => whnf)
    | (refine And.intro hw7 ?_; conv => whnf)
    | (refine And.intro (hv1 (by assumption)) ?_; conv => whnf)
    | (refine And.intro (hv2 (by assumption) (by assumption)) ?_; conv => whnf)
    | (refine And.intro (hv3 (by assumption) (by assumption)) ?_; conv => whnf)
    | (refine And.intro (lm_v511 _) ?_; conv => whnf)
    | (refine And.intro (lm_v7 _) ?_; conv => whnf)
    | (refine ⟨fun hx => ?_, fun hx => ?_⟩ <;> conv => whnf)
    | (split at h)
    | contradiction
    | exact h
def kd_cmp (v t : Int32) (S : lm_S) : lm_S := kd_flag 1 (if v < t then 0 else 1) (kd_note ((v - t) &&& 255) S)
def s_M_compare : lm_Sp := fun av S post => ∃ v t, av = [.ref 1, .int v, .int t] ∧ post none (kd_cmp v t S)
abbrev ca_M_compare : lm_Ca := [(104, 2, (some 1), s_M_putFlag), (108, 1, (some 1), s_M_noteResult)]
theorem cok_M_compare (l : Launch) : lm_cok l (kk_Y kk_shF) R_M 1 22 ca_M_compare := kk_cok (kk_cons ⟨y_M_putFlag, b_M_putFlag, 3, none, 0, 0, I_M_putFlag l, ⟨by decide, by decide⟩, yw_M_putFlag, li_M_104⟩ <| kk_cons ⟨y_M_noteResult, b_M_noteResult, 3, none, 0, 0, I_M_noteResult l, ⟨by decide, by decide⟩, yw_M_noteResult, li_M_108⟩ <| kk_nil)
set_option maxHeartbeats 1000000 in
set_option maxRecDepth 20000 in
theorem I_M_compare (l : Launch) : lm_I l (kk_Y kk_shF) y_M_compare b_M_compare 3 (none) 1 22 s_M_compare := by
  refine lm_impl g_M_compare ca_M_compare (by decide +kernel) kk_okF ck_M_compare (kk_fok fl_M_ok) (kk_sok sl_M_ok) (Or.inl rfl) (cok_M_compare l) rfl (by decide) ?_
  rintro av S post ⟨v, t, rfl, h⟩
  refine ⟨Nat.le_of_ble_eq_true rfl, lm_run 90 ?_⟩
  unfold kd_cmp at h
  (try (conv => whnf))
  repeat' first
    | (refine ⟨_, rfl, ?_⟩; conv => whnf)
    | (refine ⟨_, _, rfl, ?_⟩; conv => whnf)
    | (refine ⟨_, _, _, rfl, ?_⟩; conv => whnf)
    | (refine And.intro rfl ?_; conv => whnf)
    | (refine And.intro (lm_vc (by decide)) ?_; conv => whnf)
    | (refine And.intro (by decide) ?_; conv => whnf)
    | (refine ⟨fun hx => absurd hx (by decide), fun _ => ?_⟩; conv => whnf)
    | (refine ⟨fun _ => ?_, fun hx => absurd hx (by decide)⟩; conv => whnf)
    | (refine And.intro (hw hx) ?_; conv => whnf)
    | (refine And.intro hw ?_; conv => whnf)
    | (refine And.intro hw2 ?_; conv => whnf)
    | (refine And.intro hw3 ?_; conv => whnf)
    | (refine And.intro hw4 ?_; conv => whnf)
    | (refine And.intro hw5 ?_; conv => whnf)
    | (refine And.intro hw6 ?_; conv => whnf)
    | (refine And.intro hw7 ?_; conv => whnf)
    | (refine And.intro (hv1 (by assumption)) ?_; conv => whnf)
    | (refine And.intro (hv2 (by assumption) (by assumption)) ?_; conv => whnf)
    | (refine And.intro (hv3 (by assumption) (by assumption)) ?_; conv => whnf)
    | (refine And.intro (lm_v511 _) ?_; conv => whnf)
    | (refine And.intro (lm_v7 _) ?_; conv => whnf)
    | (refine ⟨fun hx => ?_, fun hx => ?_⟩ <;> conv => whnf)
    | (split at h)
    | contradiction
    | exact h
def kd_test2 (t : Int32) (S : lm_S) : lm_S := kd_flag 64 (if t &&& 64 = 0 then 0 else 1) (kd_flag 128 (if t &&& 128 = 0 then 0 else 1) S)
def kd_test (t : Int32) (S : lm_S) : lm_S := kd_flag 2 (if (kd_test2 t S) 6 0 &&& t = 0 then 1 else 0) (kd_test2 t S)
def s_M_testBits : lm_Sp := fun av S post => ∃ t, av = [.ref 1, .int t] ∧ post none (kd_test t S)
abbrev ca_M_testBits : lm_Ca := [(104, 2, (some 1), s_M_putFlag)]
theorem cok_M_testBits (l : Launch) : lm_cok l (kk_Y kk_shF) R_M 1 22 ca_M_testBits := kk_cok (kk_cons ⟨y_M_putFlag, b_M_putFlag, 3, none, 0, 0, I_M_putFlag l, ⟨by decide, by decide⟩, yw_M_putFlag, li_M_104⟩ <| kk_nil)
set_option maxHeartbeats 1000000 in
set_option maxRecDepth 20000 in
theorem I_M_testBits (l : Launch) : lm_I l (kk_Y kk_shF) y_M_testBits b_M_testBits 2 (none) 1 22 s_M_testBits := by
  refine lm_impl g_M_testBits ca_M_testBits (by decide +kernel) kk_okF ck_M_testBits (kk_fok fl_M_ok) (kk_sok sl_M_ok) (Or.inl rfl) (cok_M_testBits l) rfl (by decide) ?_
  rintro av S post ⟨t, rfl, h⟩
  refine ⟨Nat.le_of_ble_eq_true rfl, lm_run 90 ?_⟩
  unfold kd_test kd_test2 at h
  (try (conv => whnf))
  repeat' first
    | (refine ⟨_, rfl, ?_⟩; conv => whnf)
    | (refine ⟨_, _, rfl, ?_⟩; conv => whnf)
    | (refine ⟨_, _, _, rfl, ?_⟩; conv => whnf)
    | (refine And.intro rfl ?_; conv => whnf)
    | (refine And.intro (lm_vc (by decide)) ?_; conv => whnf)
    | (refine And.intro (by decide) ?_; conv => whnf)
    | (refine ⟨fun hx => absurd hx (by decide), fun _ => ?_⟩; conv => whnf)
    | (refine ⟨fun _ => ?_, fun hx => absurd hx (by decide)⟩; conv => whnf)
    | (refine And.intro (hw hx) ?_; conv => whnf)
    | (refine And.intro hw ?_; conv => whnf)
    | (refine And.intro hw2 ?_; conv => whnf)
    | (refine And.intro hw3 ?_; conv => whnf)
    | (refine And.intro hw4 ?_; conv => whnf)
    | (refine And.intro hw5 ?_; conv => whnf)
    | (refine And.intro hw6 ?_; conv => whnf)
    | (refine And.intro hw7 ?_; conv => whnf)
    | (refine And.intro (hv1 (by assumption)) ?_; conv => whnf)
    | (refine And.intro (hv2 (by assumption) (by assumption)) ?_; conv => whnf)
    | (refine And.intro (hv3 (by assumption) (by assumption)) ?_; conv => whnf)
    | (refine And.intro (lm_v511 _) ?_; conv => whnf)
    | (refine And.intro (lm_v7 _) ?_; conv => whnf)
    | (refine ⟨fun hx => ?_, fun hx => ?_⟩ <;> conv => whnf)
    | (split at h)
    | contradiction
    | exact h
def kd_alt (op t : Int32) (S : lm_S) : Int32 := if op.toInt = 15 then t + 1 else if op.toInt = 15 + 1 then t - 1 else if op.toInt = 15 + 1 + 1 then t <<< (1 &&& 31) else if op.toInt = 15 + 1 + 1 + 1 then t >>> (1 &&& 31) else if op.toInt = 15 + 1 + 1 + 1 + 1 then t <<< (1 &&& 31) + (S 6 4 &&& 1) else t >>> (1 &&& 31) + 128 * (S 6 4 &&& 1)
def s_M_alteredByte : lm_Sp := fun av S post => ∃ op t, av = [.ref 1, .int op, .int t] ∧ post (some (.int (kd_alt op t S))) S
abbrev ca_M_alteredByte : lm_Ca := []
theorem cok_M_alteredByte (l : Launch) : lm_cok l (kk_Y kk_shF) R_M 0 0 ca_M_alteredByte := kk_cok (kk_nil)
set_option maxHeartbeats 1000000 in
set_option maxRecDepth 20000 in
theorem I_M_alteredByte (l : Launch) : lm_I l (kk_Y kk_shF) y_M_alteredByte b_M_alteredByte 4 (some .int) 0 0 s_M_alteredByte := by
  refine lm_impl g_M_alteredByte ca_M_alteredByte (by decide +kernel) kk_okF ck_M_alteredByte (kk_fok fl_M_ok) (kk_sok sl_M_ok) (Or.inl rfl) (cok_M_alteredByte l) rfl (by decide) ?_
  rintro av S post ⟨op, t, rfl, h⟩
  refine ⟨Nat.le_of_ble_eq_true rfl, lm_run 90 ?_⟩
  unfold kd_alt at h
  (try (conv => whnf))
  repeat' first
    | (refine ⟨_, rfl, ?_⟩; conv => whnf)
    | (refine ⟨_, _, rfl, ?_⟩; conv => whnf)
    | (refine ⟨_, _, _, rfl, ?_⟩; conv => whnf)
    | (refine And.intro rfl ?_; conv => whnf)
    | (refine And.intro (lm_vc (by decide)) ?_; conv => whnf)
    | (refine And.intro (by decide) ?_; conv => whnf)
    | (refine ⟨fun hx => absurd hx (by decide), fun _ => ?_⟩; conv => whnf)
    | (refine ⟨fun _ => ?_, fun hx => absurd hx (by decide)⟩; conv => whnf)
    | (refine And.intro (hw hx) ?_; conv => whnf)
    | (refine And.intro hw ?_; conv => whnf)
    | (refine And.intro hw2 ?_; conv => whnf)
    | (refine And.intro hw3 ?_; conv => whnf)
    | (refine And.intro hw4 ?_; conv => whnf)
    | (refine And.intro hw5 ?_; conv => whnf)
    | (refine And.intro hw6 ?_; conv => whnf)
    | (refine And.intro hw7 ?_; conv => whnf)
    | (refine And.intro (hv1 (by assumption)) ?_; conv => whnf)
    | (refine And.intro (hv2 (by assumption) (by assumption)) ?_; conv => whnf)
    | (refine And.intro (hv3 (by assumption) (by assumption)) ?_; conv => whnf)
    | (refine And.intro (lm_v511 _) ?_; conv => whnf)
    | (refine And.intro (lm_v7 _) ?_; conv => whnf)
    | (refine ⟨fun hx => ?_, fun hx => ?_⟩ <;> conv => whnf)
    | (split at h)
    | contradiction
    | exact h
def kd_altc (op t : Int32) (S : lm_S) : lm_S := if op = 17 then kd_flag 1 (if t &&& 128 = 0 then 0 else 1) S else if op = 19 then kd_flag 1 (if t &&& 128 = 0 then 0 else 1) S else if op = 18 then kd_flag 1 (if t &&& 1 = 0 then 0 else 1) S else if op = 20 then kd_flag 1 (if t &&& 1 = 0 then 0 else 1) S else S
def kd_alter (op p t : Int32) (S : lm_S) : lm_S := kd_wplace p (kd_alt op t S &&& 255) (kd_note (kd_alt op t S &&& 255) (kd_altc op t S))
def s_M_alterPlace : lm_Sp := fun av S post => ∃ op p t, av = [.ref 1, .int op, .int p, .int t] ∧ ¬ S 1 8 < 0 ∧ post none (kd_alter op p t S)
abbrev ca_M_alterPlace : lm_Ca := [(85, 2, (some 1), s_M_writePlace), (104, 2, (some 1), s_M_putFlag), (108, 1, (some 1), s_M_noteResult), (111, 2, (some 1), s_M_alteredByte)]
theorem cok_M_alterPlace (l : Launch) : lm_cok l (kk_Y kk_shF) R_M 2 45 ca_M_alterPlace := kk_cok (kk_cons ⟨y_M_writePlace, b_M_writePlace, 3, none, 1, 23, I_M_writePlace l, ⟨by decide, by decide⟩, yw_M_writePlace, li_M_85⟩ <| kk_cons ⟨y_M_putFlag, b_M_putFlag, 3, none, 0, 0, I_M_putFlag l, ⟨by decide, by decide⟩, yw_M_putFlag, li_M_104⟩ <| kk_cons ⟨y_M_noteResult, b_M_noteResult, 3, none, 0, 0, I_M_noteResult l, ⟨by decide, by decide⟩, yw_M_noteResult, li_M_108⟩ <| kk_cons ⟨y_M_alteredByte, b_M_alteredByte, 4, some .int, 0, 0, I_M_alteredByte l, ⟨by decide, by decide⟩, yw_M_alteredByte, li_M_111⟩ <| kk_nil)
set_option maxHeartbeats 1000000 in
set_option maxRecDepth 20000 in
theorem I_M_alterPlace (l : Launch) : lm_I l (kk_Y kk_shF) y_M_alterPlace b_M_alterPlace 5 (none) 2 45 s_M_alterPlace := by
  refine lm_impl g_M_alterPlace ca_M_alterPlace (by decide +kernel) kk_okF ck_M_alterPlace (kk_fok fl_M_ok) (kk_sok sl_M_ok) (Or.inl rfl) (cok_M_alterPlace l) rfl (by decide) ?_
  rintro av S post ⟨op, p, t, rfl, hw, h⟩
  refine ⟨Nat.le_of_ble_eq_true rfl, lm_run 90 ?_⟩
  unfold kd_alter kd_altc at h
  (try (conv => whnf))
  repeat' first
    | (refine ⟨_, rfl, ?_⟩; conv => whnf)
    | (refine ⟨_, _, rfl, ?_⟩; conv => whnf)
    | (refine ⟨_, _, _, rfl, ?_⟩; conv => whnf)
    | (refine And.intro rfl ?_; conv => whnf)
    | (refine And.intro (lm_vc (by decide)) ?_; conv => whnf)
    | (refine And.intro (by decide) ?_; conv => whnf)
    | (refine ⟨fun hx => absurd hx (by decide), fun _ => ?_⟩; conv => whnf)
    | (refine ⟨fun _ => ?_, fun hx => absurd hx (by decide)⟩; conv => whnf)
    | (refine And.intro (hw hx) ?_; conv => whnf)
    | (refine And.intro hw ?_; conv => whnf)
    | (refine And.intro hw2 ?_; conv => whnf)
    | (refine And.intro hw3 ?_; conv => whnf)
    | (refine And.intro hw4 ?_; conv => whnf)
    | (refine And.intro hw5 ?_; conv => whnf)
    | (refine And.intro hw6 ?_; conv => whnf)
    | (refine And.intro hw7 ?_; conv => whnf)
    | (refine And.intro (hv1 (by assumption)) ?_; conv => whnf)
    | (refine And.intro (hv2 (by assumption) (by assumption)) ?_; conv => whnf)
    | (refine And.intro (hv3 (by assumption) (by assumption)) ?_; conv => whnf)
    | (refine And.intro (lm_v511 _) ?_; conv => whnf)
    | (refine And.intro (lm_v7 _) ?_; conv => whnf)
    | (refine ⟨fun hx => ?_, fun hx => ?_⟩ <;> conv => whnf)
    | (split at h)
    | contradiction
    | exact h
theorem kd_w1 {x : Int32} (h : ¬ x < 0) (h2 : ¬ 2 ≤ x) : ¬ x + 1 < 0 := by
  have h3 : vp_in x 2 := lm_vb h h2 (by decide)
  obtain ⟨j, hj, rfl⟩ := vp_in_of h3 (by decide)
  rw [nI_1]
  exact nI_pos (by omega)
theorem kd_ww {a v : Int32} {S : lm_S} (h : ¬ S 1 8 < 0) : ¬ (kd_wcell a v S) 1 8 < 0 := by
  show ¬ (if 2 ≤ S 1 8 then S else kd_note2 a S) 1 8 < 0
  split
  · exact h
  · exact kd_w1 h (by assumption)
theorem kd_pw {v : Int32} {S : lm_S} (h : ¬ S 1 8 < 0) : ¬ (kd_push v S) 1 8 < 0 := kd_ww (a := 256 + S 6 3) (v := v) h
def kd_jump (ar md p : Int32) (S : lm_S) : lm_S := if md = 0 then S else if p = -1 then S else if ar = 0 then lm_set S 6 5 p else lm_set (kd_push ((kd_push (S 6 5 / 256) S) 6 5 &&& 255) (kd_push (S 6 5 / 256) S)) 6 5 p
def s_M_jump : lm_Sp := fun av S post => ∃ ar md p, av = [.ref 1, .int ar, .int md, .int p] ∧ ¬ S 1 8 < 0 ∧ post none (kd_jump ar md p S)
abbrev ca_M_jump : lm_Ca := [(114, 1, (some 1), s_M_push)]
theorem cok_M_jump (l : Launch) : lm_cok l (kk_Y kk_shF) R_M 2 44 ca_M_jump := kk_cok (kk_cons ⟨y_M_push, b_M_push, 2, none, 1, 23, I_M_push l, ⟨by decide, by decide⟩, yw_M_push, li_M_114⟩ <| kk_nil)
set_option maxHeartbeats 1000000 in
set_option maxRecDepth 20000 in
theorem I_M_jump (l : Launch) : lm_I l (kk_Y kk_shF) y_M_jump b_M_jump 4 (none) 2 44 s_M_jump := by
  refine lm_impl g_M_jump ca_M_jump (by decide +kernel) kk_okF ck_M_jump (kk_fok fl_M_ok) (kk_sok sl_M_ok) (Or.inl rfl) (cok_M_jump l) rfl (by decide) ?_
  rintro av S post ⟨ar, md, p, rfl, hw, h⟩
  have hw2 : ¬ (kd_push (S 6 5 / 256) S) 1 8 < 0 := kd_pw hw
  refine ⟨Nat.le_of_ble_eq_true rfl, lm_run 90 ?_⟩
  unfold kd_jump at h
  (try (conv => whnf))
  repeat' first
    | (refine ⟨_, rfl, ?_⟩; conv => whnf)
    | (refine ⟨_, _, rfl, ?_⟩; conv => whnf)
    | (refine ⟨_, _, _, rfl, ?_⟩; conv => whnf)
    | (refine And.intro rfl ?_; conv => whnf)
    | (refine And.intro (lm_vc (by decide)) ?_; conv => whnf)
    | (refine And.intro (by decide) ?_; conv => whnf)
    | (refine ⟨fun hx => absurd hx (by decide), fun _ => ?_⟩; conv => whnf)
    | (refine ⟨fun _ => ?_, fun hx => absurd hx (by decide)⟩; conv => whnf)
    | (refine And.intro (hw hx) ?_; conv => whnf)
    | (refine And.intro hw ?_; conv => whnf)
    | (refine And.intro hw2 ?_; conv => whnf)
    | (refine And.intro hw3 ?_; conv => whnf)
    | (refine And.intro hw4 ?_; conv => whnf)
    | (refine And.intro hw5 ?_; conv => whnf)
    | (refine And.intro hw6 ?_; conv => whnf)
    | (refine And.intro hw7 ?_; conv => whnf)
    | (refine And.intro (hv1 (by assumption)) ?_; conv => whnf)
    | (refine And.intro (hv2 (by assumption) (by assumption)) ?_; conv => whnf)
    | (refine And.intro (hv3 (by assumption) (by assumption)) ?_; conv => whnf)
    | (refine And.intro (lm_v511 _) ?_; conv => whnf)
    | (refine And.intro (lm_v7 _) ?_; conv => whnf)
    | (refine ⟨fun hx => ?_, fun hx => ?_⟩ <;> conv => whnf)
    | (split at h)
    | contradiction
    | exact h
def kd_in (S : lm_S) : lm_S := if S 1 3 - S 6 7 ≤ 0 then lm_set (kd_flag 1 1 (kd_load 0 0 S)) 6 7 (S 6 7) else lm_set (kd_flag 1 0 (kd_load 0 (S 7 (S 6 7).toNatClampNeg) S)) 6 7 (S 6 7 + 1)
def s_M_takeInput : lm_Sp := fun av S post => av = [.ref 1] ∧ (¬ S 1 3 - S 6 7 ≤ 0 → vp_in (S 6 7) 40) ∧ post none (kd_in S)
abbrev ca_M_takeInput : lm_Ca := [(34, 0, (some 1), s_M_inputsWaiting), (82, 2, (some 1), s_M_load), (104, 2, (some 1), s_M_putFlag)]
theorem cok_M_takeInput (l : Launch) : lm_cok l (kk_Y kk_shF) R_M 2 44 ca_M_takeInput := kk_cok (kk_cons ⟨y_M_inputsWaiting, b_M_inputsWaiting, 1, some .int, 0, 0, I_M_inputsWaiting l, ⟨by decide, by decide⟩, yw_M_inputsWaiting, li_M_34⟩ <| kk_cons ⟨y_M_load, b_M_load, 3, none, 1, 22, I_M_load l, ⟨by decide, by decide⟩, yw_M_load, li_M_82⟩ <| kk_cons ⟨y_M_putFlag, b_M_putFlag, 3, none, 0, 0, I_M_putFlag l, ⟨by decide, by decide⟩, yw_M_putFlag, li_M_104⟩ <| kk_nil)
set_option maxHeartbeats 1000000 in
set_option maxRecDepth 20000 in
theorem I_M_takeInput (l : Launch) : lm_I l (kk_Y kk_shF) y_M_takeInput b_M_takeInput 3 (none) 2 44 s_M_takeInput := by
  refine lm_impl g_M_takeInput ca_M_takeInput (by decide +kernel) kk_okF ck_M_takeInput (kk_fok fl_M_ok) (kk_sok sl_M_ok) (Or.inl rfl) (cok_M_takeInput l) rfl (by decide) ?_
  rintro av S post ⟨rfl, hw, h⟩
  refine ⟨Nat.le_of_ble_eq_true rfl, lm_run 90 ?_⟩
  unfold kd_in at h
  (try (conv => whnf))
  repeat' first
    | (refine ⟨_, rfl, ?_⟩; conv => whnf)
    | (refine ⟨_, _, rfl, ?_⟩; conv => whnf)
    | (refine ⟨_, _, _, rfl, ?_⟩; conv => whnf)
    | (refine And.intro rfl ?_; conv => whnf)
    | (refine And.intro (lm_vc (by decide)) ?_; conv => whnf)
    | (refine And.intro (by decide) ?_; conv => whnf)
    | (refine ⟨fun hx => absurd hx (by decide), fun _ => ?_⟩; conv => whnf)
    | (refine ⟨fun _ => ?_, fun hx => absurd hx (by decide)⟩; conv => whnf)
    | (refine And.intro (hw hx) ?_; conv => whnf)
    | (refine And.intro hw ?_; conv => whnf)
    | (refine And.intro hw2 ?_; conv => whnf)
    | (refine And.intro hw3 ?_; conv => whnf)
    | (refine And.intro hw4 ?_; conv => whnf)
    | (refine And.intro hw5 ?_; conv => whnf)
    | (refine And.intro hw6 ?_; conv => whnf)
    | (refine And.intro hw7 ?_; conv => whnf)
    | (refine And.intro (hv1 (by assumption)) ?_; conv => whnf)
    | (refine And.intro (hv2 (by assumption) (by assumption)) ?_; conv => whnf)
    | (refine And.intro (hv3 (by assumption) (by assumption)) ?_; conv => whnf)
    | (refine And.intro (lm_v511 _) ?_; conv => whnf)
    | (refine And.intro (lm_v7 _) ?_; conv => whnf)
    | (refine ⟨fun hx => ?_, fun hx => ?_⟩ <;> conv => whnf)
    | (split at h)
    | contradiction
    | exact h
def kd_out (S : lm_S) : lm_S := if 308 ≤ S 6 8 then S else lm_set (lm_set S 8 (S 6 8).toNatClampNeg (S 6 0)) 6 8 (S 6 8 + 1)
def s_M_putOut : lm_Sp := fun av S post => av = [.ref 1] ∧ ¬ S 6 8 < 0 ∧ post none (kd_out S)
abbrev ca_M_putOut : lm_Ca := []
theorem cok_M_putOut (l : Launch) : lm_cok l (kk_Y kk_shF) R_M 0 0 ca_M_putOut := kk_cok (kk_nil)
set_option maxHeartbeats 1000000 in
set_option maxRecDepth 20000 in
theorem I_M_putOut (l : Launch) : lm_I l (kk_Y kk_shF) y_M_putOut b_M_putOut 1 (none) 0 0 s_M_putOut := by
  refine lm_impl g_M_putOut ca_M_putOut (by decide +kernel) kk_okF ck_M_putOut (kk_fok fl_M_ok) (kk_sok sl_M_ok) (Or.inl rfl) (cok_M_putOut l) rfl (by decide) ?_
  rintro av S post ⟨rfl, hw0, h⟩
  have hw : ¬ 308 ≤ S 6 8 → vp_in (S 6 8) 308 := fun hx => lm_vb hw0 hx (by decide)
  refine ⟨Nat.le_of_ble_eq_true rfl, lm_run 90 ?_⟩
  unfold kd_out at h
  (try (conv => whnf))
  repeat' first
    | (refine ⟨_, rfl, ?_⟩; conv => whnf)
    | (refine ⟨_, _, rfl, ?_⟩; conv => whnf)
    | (refine ⟨_, _, _, rfl, ?_⟩; conv => whnf)
    | (refine And.intro rfl ?_; conv => whnf)
    | (refine And.intro (lm_vc (by decide)) ?_; conv => whnf)
    | (refine And.intro (by decide) ?_; conv => whnf)
    | (refine ⟨fun hx => absurd hx (by decide), fun _ => ?_⟩; conv => whnf)
    | (refine ⟨fun _ => ?_, fun hx => absurd hx (by decide)⟩; conv => whnf)
    | (refine And.intro (hw hx) ?_; conv => whnf)
    | (refine And.intro hw ?_; conv => whnf)
    | (refine And.intro hw2 ?_; conv => whnf)
    | (refine And.intro hw3 ?_; conv => whnf)
    | (refine And.intro hw4 ?_; conv => whnf)
    | (refine And.intro hw5 ?_; conv => whnf)
    | (refine And.intro hw6 ?_; conv => whnf)
    | (refine And.intro hw7 ?_; conv => whnf)
    | (refine And.intro (hv1 (by assumption)) ?_; conv => whnf)
    | (refine And.intro (hv2 (by assumption) (by assumption)) ?_; conv => whnf)
    | (refine And.intro (hv3 (by assumption) (by assumption)) ?_; conv => whnf)
    | (refine And.intro (lm_v511 _) ?_; conv => whnf)
    | (refine And.intro (lm_v7 _) ?_; conv => whnf)
    | (refine ⟨fun hx => ?_, fun hx => ?_⟩ <;> conv => whnf)
    | (split at h)
    | contradiction
    | exact h
def kd_move (md : Int32) (S : lm_S) : lm_S := if md.toInt = 0 then kd_load 1 (S 6 0) S else if md.toInt = 0 + 1 then kd_load 0 (S 6 1) S else if md.toInt = 0 + 1 + 1 then kd_load 2 (S 6 0) S else if md.toInt = 0 + 1 + 1 + 1 then kd_load 0 (S 6 2) S else if md.toInt = 0 + 1 + 1 + 1 + 1 then kd_load 1 (S 6 3) S else if md.toInt = 0 + 1 + 1 + 1 + 1 + 1 then lm_set S 6 3 (S 6 1) else if md.toInt = 0 + 1 + 1 + 1 + 1 + 1 + 1 then kd_load 1 (S 6 1 + 1) S else kd_load 1 (S 6 1 - 1) S
def s_M_moveRegister : lm_Sp := fun av S post => ∃ md, av = [.ref 1, .int md] ∧ post none (kd_move md S)
abbrev ca_M_moveRegister : lm_Ca := [(82, 2, (some 1), s_M_load)]
theorem cok_M_moveRegister (l : Launch) : lm_cok l (kk_Y kk_shF) R_M 2 44 ca_M_moveRegister := kk_cok (kk_cons ⟨y_M_load, b_M_load, 3, none, 1, 22, I_M_load l, ⟨by decide, by decide⟩, yw_M_load, li_M_82⟩ <| kk_nil)
set_option maxHeartbeats 1000000 in
set_option maxRecDepth 20000 in
theorem I_M_moveRegister (l : Launch) : lm_I l (kk_Y kk_shF) y_M_moveRegister b_M_moveRegister 2 (none) 2 44 s_M_moveRegister := by
  refine lm_impl g_M_moveRegister ca_M_moveRegister (by decide +kernel) kk_okF ck_M_moveRegister (kk_fok fl_M_ok) (kk_sok sl_M_ok) (Or.inl rfl) (cok_M_moveRegister l) rfl (by decide) ?_
  rintro av S post ⟨md, rfl, h⟩
  refine ⟨Nat.le_of_ble_eq_true rfl, lm_run 90 ?_⟩
  unfold kd_move at h
  (try (conv => whnf))
  repeat' first
    | (refine ⟨_, rfl, ?_⟩; conv => whnf)
    | (refine ⟨_, _, rfl, ?_⟩; conv => whnf)
    | (refine ⟨_, _, _, rfl, ?_⟩; conv => whnf)
    | (refine And.intro rfl ?_; conv => whnf)
    | (refine And.intro (lm_vc (by decide)) ?_; conv => whnf)
    | (refine And.intro (by decide) ?_; conv => whnf)
    | (refine ⟨fun hx => absurd hx (by decide), fun _ => ?_⟩; conv => whnf)
    | (refine ⟨fun _ => ?_, fun hx => absurd hx (by decide)⟩; conv => whnf)
    | (refine And.intro (hw hx) ?_; conv => whnf)
    | (refine And.intro hw ?_; conv => whnf)
    | (refine And.intro hw2 ?_; conv => whnf)
    | (refine And.intro hw3 ?_; conv => whnf)
    | (refine And.intro hw4 ?_; conv => whnf)
    | (refine And.intro hw5 ?_; conv => whnf)
    | (refine And.intro hw6 ?_; conv => whnf)
    | (refine And.intro hw7 ?_; conv => whnf)
    | (refine And.intro (hv1 (by assumption)) ?_; conv => whnf)
    | (refine And.intro (hv2 (by assumption) (by assumption)) ?_; conv => whnf)
    | (refine And.intro (hv3 (by assumption) (by assumption)) ?_; conv => whnf)
    | (refine And.intro (lm_v511 _) ?_; conv => whnf)
    | (refine And.intro (lm_v7 _) ?_; conv => whnf)
    | (refine ⟨fun hx => ?_, fun hx => ?_⟩ <;> conv => whnf)
    | (split at h)
    | contradiction
    | exact h
def kd_small (md : Int32) (S : lm_S) : lm_S := if md.toInt = 0 then kd_load 2 (S 6 2 + 1) S else if md.toInt = 0 + 1 then kd_load 2 (S 6 2 - 1) S else if md.toInt = 0 + 1 + 1 then kd_flag 1 0 S else if md.toInt = 0 + 1 + 1 + 1 then kd_flag 1 1 S else if md.toInt = 0 + 1 + 1 + 1 + 1 then kd_flag 64 0 S else S
def s_M_changeYOrFlag : lm_Sp := fun av S post => ∃ md, av = [.ref 1, .int md] ∧ post none (kd_small md S)
abbrev ca_M_changeYOrFlag : lm_Ca := [(82, 2, (some 1), s_M_load), (104, 2, (some 1), s_M_putFlag)]
theorem cok_M_changeYOrFlag (l : Launch) : lm_cok l (kk_Y kk_shF) R_M 2 44 ca_M_changeYOrFlag := kk_cok (kk_cons ⟨y_M_load, b_M_load, 3, none, 1, 22, I_M_load l, ⟨by decide, by decide⟩, yw_M_load, li_M_82⟩ <| kk_cons ⟨y_M_putFlag, b_M_putFlag, 3, none, 0, 0, I_M_putFlag l, ⟨by decide, by decide⟩, yw_M_putFlag, li_M_104⟩ <| kk_nil)
set_option maxHeartbeats 1000000 in
set_option maxRecDepth 20000 in
theorem I_M_changeYOrFlag (l : Launch) : lm_I l (kk_Y kk_shF) y_M_changeYOrFlag b_M_changeYOrFlag 2 (none) 2 44 s_M_changeYOrFlag := by
  refine lm_impl g_M_changeYOrFlag ca_M_changeYOrFlag (by decide +kernel) kk_okF ck_M_changeYOrFlag (kk_fok fl_M_ok) (kk_sok sl_M_ok) (Or.inl rfl) (cok_M_changeYOrFlag l) rfl (by decide) ?_
  rintro av S post ⟨md, rfl, h⟩
  refine ⟨Nat.le_of_ble_eq_true rfl, lm_run 90 ?_⟩
  unfold kd_small at h
  (try (conv => whnf))
  repeat' first
    | (refine ⟨_, rfl, ?_⟩; conv => whnf)
    | (refine ⟨_, _, rfl, ?_⟩; conv => whnf)
    | (refine ⟨_, _, _, rfl, ?_⟩; conv => whnf)
    | (refine And.intro rfl ?_; conv => whnf)
    | (refine And.intro (lm_vc (by decide)) ?_; conv => whnf)
    | (refine And.intro (by decide) ?_; conv => whnf)
    | (refine ⟨fun hx => absurd hx (by decide), fun _ => ?_⟩; conv => whnf)
    | (refine ⟨fun _ => ?_, fun hx => absurd hx (by decide)⟩; conv => whnf)
    | (refine And.intro (hw hx) ?_; conv => whnf)
    | (refine And.intro hw ?_; conv => whnf)
    | (refine And.intro hw2 ?_; conv => whnf)
    | (refine And.intro hw3 ?_; conv => whnf)
    | (refine And.intro hw4 ?_; conv => whnf)
    | (refine And.intro hw5 ?_; conv => whnf)
    | (refine And.intro hw6 ?_; conv => whnf)
    | (refine And.intro hw7 ?_; conv => whnf)
    | (refine And.intro (hv1 (by assumption)) ?_; conv => whnf)
    | (refine And.intro (hv2 (by assumption) (by assumption)) ?_; conv => whnf)
    | (refine And.intro (hv3 (by assumption) (by assumption)) ?_; conv => whnf)
    | (refine And.intro (lm_v511 _) ?_; conv => whnf)
    | (refine And.intro (lm_v7 _) ?_; conv => whnf)
    | (refine ⟨fun hx => ?_, fun hx => ?_⟩ <;> conv => whnf)
    | (split at h)
    | contradiction
    | exact h
def kd_hop (o : Int32) (S : lm_S) : lm_S := lm_set S 6 5 ((S 6 5 + (if 128 ≤ o then o - 256 else o)) &&& 511)
def kd_branch (md o : Int32) (S : lm_S) : lm_S := if md &&& 1 = 0 then (if S 6 4 &&& ([128, 64, 1, 2] : List Int32).getD (md >>> (1 &&& 31)).toNatClampNeg 0 = 0 then kd_hop o S else S) else (if S 6 4 &&& ([128, 64, 1, 2] : List Int32).getD (md >>> (1 &&& 31)).toNatClampNeg 0 = 0 then S else kd_hop o S)
def s_M_branch : lm_Sp := fun av S post => ∃ md o, av = [.ref 1, .int md, .int o] ∧ vp_in (md >>> (1 &&& 31)) 4 ∧ post none (kd_branch md o S)
abbrev ca_M_branch : lm_Ca := []
theorem cok_M_branch (l : Launch) : lm_cok l (kk_Y kk_shF) R_M 0 0 ca_M_branch := kk_cok (kk_nil)
set_option maxHeartbeats 1000000 in
set_option maxRecDepth 20000 in
theorem I_M_branch (l : Launch) : lm_I l (kk_Y kk_shF) y_M_branch b_M_branch 6 (none) 0 0 s_M_branch := by
  refine lm_impl g_M_branch ca_M_branch (by decide +kernel) kk_okF ck_M_branch (kk_fok fl_M_ok) (kk_sok sl_M_ok) (Or.inl rfl) (cok_M_branch l) rfl (by decide) ?_
  rintro av S post ⟨md, o, rfl, hw, h⟩
  refine ⟨Nat.le_of_ble_eq_true rfl, lm_run 90 ?_⟩
  unfold kd_branch kd_hop at h
  (try (conv => whnf))
  repeat' first
    | (refine ⟨_, rfl, ?_⟩; conv => whnf)
    | (refine ⟨_, _, rfl, ?_⟩; conv => whnf)
    | (refine ⟨_, _, _, rfl, ?_⟩; conv => whnf)
    | (refine And.intro rfl ?_; conv => whnf)
    | (refine And.intro (lm_vc (by decide)) ?_; conv => whnf)
    | (refine And.intro (by decide) ?_; conv => whnf)
    | (refine ⟨fun hx => absurd hx (by decide), fun _ => ?_⟩; conv => whnf)
    | (refine ⟨fun _ => ?_, fun hx => absurd hx (by decide)⟩; conv => whnf)
    | (refine And.intro (hw hx) ?_; conv => whnf)
    | (refine And.intro hw ?_; conv => whnf)
    | (refine And.intro hw2 ?_; conv => whnf)
    | (refine And.intro hw3 ?_; conv => whnf)
    | (refine And.intro hw4 ?_; conv => whnf)
    | (refine And.intro hw5 ?_; conv => whnf)
    | (refine And.intro hw6 ?_; conv => whnf)
    | (refine And.intro hw7 ?_; conv => whnf)
    | (refine And.intro (hv1 (by assumption)) ?_; conv => whnf)
    | (refine And.intro (hv2 (by assumption) (by assumption)) ?_; conv => whnf)
    | (refine And.intro (hv3 (by assumption) (by assumption)) ?_; conv => whnf)
    | (refine And.intro (lm_v511 _) ?_; conv => whnf)
    | (refine And.intro (lm_v7 _) ?_; conv => whnf)
    | (refine ⟨fun hx => ?_, fun hx => ?_⟩ <;> conv => whnf)
    | (split at h)
    | contradiction
    | exact h
