/-! the reference: its functions over the state, and that its methods are these -/
theorem km_sp (x : Int32) : vp_in (256 + (x &&& 255)) 569 := by
  rw [pk_and x 8 (by decide), show (256 : Int32) = nI 256 from rfl, nI_add]
  exact vp_in_nI (by omega) (by decide)
theorem km_v511 (a : Int32) : vp_in (a &&& 511) 569 := vp_in_up (lm_v511 a) (by omega)
theorem km_v255 (a : Int32) : vp_in (a &&& 255) 569 := vp_in_up (lm_v255 a) (by omega)
def km_within (x m : Int32) : Int32 := if x < 0 then 0 else if m < x then 0 else 1
def s_R_within : lm_Sp := fun av S post => ∃ x m, av = [.int x, .int m] ∧ post (some (.int (km_within x m))) S
abbrev ca_R_within : lm_Ca := []
theorem cok_R_within (l : Launch) : lm_cok l (kk_Y kk_shF) R_R 0 0 ca_R_within := kk_cok (kk_nil)
set_option maxHeartbeats 1000000 in
set_option maxRecDepth 20000 in
theorem I_R_within (l : Launch) : lm_I l (kk_Y kk_shF) y_R_within b_R_within 2 (some .boolean) 0 0 s_R_within := by
  refine lm_impl g_R_within ca_R_within (by decide +kernel) kk_okF ck_R_within (kk_fok fl_R_ok) (kk_sok sl_R_ok) (Or.inl rfl) (cok_R_within l) rfl (by decide) ?_
  rintro av S post ⟨x, m, rfl, h⟩
  refine ⟨Nat.le_of_ble_eq_true rfl, lm_run 60 ?_⟩
  unfold km_within at h
  (try (conv => whnf))
  repeat' first
    | (refine ⟨_, rfl, ?_⟩; conv => whnf)
    | (refine ⟨_, _, rfl, ?_⟩; conv => whnf)
    | (refine ⟨_, _, _, rfl, ?_⟩; conv => whnf)
    | (refine ⟨_, _, _, _, rfl, ?_⟩; conv => whnf)
    | (refine And.intro rfl ?_; conv => whnf)
    | (refine And.intro (lm_vc (by decide)) ?_; conv => whnf)
    | (refine And.intro (by decide) ?_; conv => whnf)
    | (refine ⟨fun hx => absurd hx (by decide), fun _ => ?_⟩; conv => whnf)
    | (refine ⟨fun _ => ?_, fun hx => absurd hx (by decide)⟩; conv => whnf)
    | (refine And.intro (hw hx) ?_; conv => whnf)
    | (refine And.intro hw ?_; conv => whnf)
    | (refine And.intro hw2 ?_; conv => whnf)
    | (refine And.intro hw3 ?_; conv => whnf)
    | (refine And.intro hw4 ?_; conv => whnf)
    | (refine And.intro hw5 ?_; conv => whnf)
    | (refine And.intro hw6 ?_; conv => whnf)
    | (refine And.intro hw7 ?_; conv => whnf)
    | (refine And.intro (hv1 (by assumption)) ?_; conv => whnf)
    | (refine And.intro (hv2 (by assumption) (by assumption)) ?_; conv => whnf)
    | (refine And.intro (hv3 (by assumption) (by assumption)) ?_; conv => whnf)
    | (refine And.intro (lm_v511 _) ?_; conv => whnf)
    | (refine And.intro (lm_v7 _) ?_; conv => whnf)
    | (refine ⟨fun hx => ?_, fun hx => ?_⟩ <;> conv => whnf)
    | (split at h)
    | contradiction
    | exact h
def km_flag (f on : Int32) (S : lm_S) : lm_S := lm_set S 18 516 (if on = 0 then S 18 516 &&& (f ^^^ (-1)) else S 18 516 ||| f)
def s_R_flag : lm_Sp := fun av S post => ∃ f on, av = [.ref 16, .int f, .int on] ∧ post none (km_flag f on S)
abbrev ca_R_flag : lm_Ca := []
theorem cok_R_flag (l : Launch) : lm_cok l (kk_Y kk_shF) R_R 0 0 ca_R_flag := kk_cok (kk_nil)
set_option maxHeartbeats 1000000 in
set_option maxRecDepth 20000 in
theorem I_R_flag (l : Launch) : lm_I l (kk_Y kk_shF) y_R_flag b_R_flag 3 (none) 0 0 s_R_flag := by
  refine lm_impl g_R_flag ca_R_flag (by decide +kernel) kk_okF ck_R_flag (kk_fok fl_R_ok) (kk_sok sl_R_ok) (Or.inl rfl) (cok_R_flag l) rfl (by decide) ?_
  rintro av S post ⟨f, on, rfl, h⟩
  refine ⟨Nat.le_of_ble_eq_true rfl, lm_run 60 ?_⟩
  unfold km_flag at h
  (try (conv => whnf))
  repeat' first
    | (refine ⟨_, rfl, ?_⟩; conv => whnf)
    | (refine ⟨_, _, rfl, ?_⟩; conv => whnf)
    | (refine ⟨_, _, _, rfl, ?_⟩; conv => whnf)
    | (refine ⟨_, _, _, _, rfl, ?_⟩; conv => whnf)
    | (refine And.intro rfl ?_; conv => whnf)
    | (refine And.intro (lm_vc (by decide)) ?_; conv => whnf)
    | (refine And.intro (by decide) ?_; conv => whnf)
    | (refine ⟨fun hx => absurd hx (by decide), fun _ => ?_⟩; conv => whnf)
    | (refine ⟨fun _ => ?_, fun hx => absurd hx (by decide)⟩; conv => whnf)
    | (refine And.intro (hw hx) ?_; conv => whnf)
    | (refine And.intro hw ?_; conv => whnf)
    | (refine And.intro hw2 ?_; conv => whnf)
    | (refine And.intro hw3 ?_; conv => whnf)
    | (refine And.intro hw4 ?_; conv => whnf)
    | (refine And.intro hw5 ?_; conv => whnf)
    | (refine And.intro hw6 ?_; conv => whnf)
    | (refine And.intro hw7 ?_; conv => whnf)
    | (refine And.intro (hv1 (by assumption)) ?_; conv => whnf)
    | (refine And.intro (hv2 (by assumption) (by assumption)) ?_; conv => whnf)
    | (refine And.intro (hv3 (by assumption) (by assumption)) ?_; conv => whnf)
    | (refine And.intro (lm_v511 _) ?_; conv => whnf)
    | (refine And.intro (lm_v7 _) ?_; conv => whnf)
    | (refine ⟨fun hx => ?_, fun hx => ?_⟩ <;> conv => whnf)
    | (split at h)
    | contradiction
    | exact h
def km_mark (v : Int32) (S : lm_S) : lm_S := km_flag 2 (if v &&& 255 = 0 then 1 else 0) (km_flag 128 (if v &&& 128 = 0 then 0 else 1) S)
def s_R_marked : lm_Sp := fun av S post => ∃ v, av = [.ref 16, .int v] ∧ post (some (.int (v &&& 255))) (km_mark v S)
abbrev ca_R_marked : lm_Ca := [(36, 2, (some 4), s_R_flag)]
theorem cok_R_marked (l : Launch) : lm_cok l (kk_Y kk_shF) R_R 1 22 ca_R_marked := kk_cok (kk_cons ⟨y_R_flag, b_R_flag, 3, none, 0, 0, I_R_flag l, ⟨by decide, by decide⟩, yw_R_flag, li_R_36⟩ <| kk_nil)
set_option maxHeartbeats 1000000 in
set_option maxRecDepth 20000 in
theorem I_R_marked (l : Launch) : lm_I l (kk_Y kk_shF) y_R_marked b_R_marked 2 (some .int) 1 22 s_R_marked := by
  refine lm_impl g_R_marked ca_R_marked (by decide +kernel) kk_okF ck_R_marked (kk_fok fl_R_ok) (kk_sok sl_R_ok) (Or.inl rfl) (cok_R_marked l) rfl (by decide) ?_
  rintro av S post ⟨v, rfl, h⟩
  refine ⟨Nat.le_of_ble_eq_true rfl, lm_run 60 ?_⟩
  unfold km_mark at h
  (try (conv => whnf))
  repeat' first
    | (refine ⟨_, rfl, ?_⟩; conv => whnf)
    | (refine ⟨_, _, rfl, ?_⟩; conv => whnf)
    | (refine ⟨_, _, _, rfl, ?_⟩; conv => whnf)
    | (refine ⟨_, _, _, _, rfl, ?_⟩; conv => whnf)
    | (refine And.intro rfl ?_; conv => whnf)
    | (refine And.intro (lm_vc (by decide)) ?_; conv => whnf)
    | (refine And.intro (by decide) ?_; conv => whnf)
    | (refine ⟨fun hx => absurd hx (by decide), fun _ => ?_⟩; conv => whnf)
    | (refine ⟨fun _ => ?_, fun hx => absurd hx (by decide)⟩; conv => whnf)
    | (refine And.intro (hw hx) ?_; conv => whnf)
    | (refine And.intro hw ?_; conv => whnf)
    | (refine And.intro hw2 ?_; conv => whnf)
    | (refine And.intro hw3 ?_; conv => whnf)
    | (refine And.intro hw4 ?_; conv => whnf)
    | (refine And.intro hw5 ?_; conv => whnf)
    | (refine And.intro hw6 ?_; conv => whnf)
    | (refine And.intro hw7 ?_; conv => whnf)
    | (refine And.intro (hv1 (by assumption)) ?_; conv => whnf)
    | (refine And.intro (hv2 (by assumption) (by assumption)) ?_; conv => whnf)
    | (refine And.intro (hv3 (by assumption) (by assumption)) ?_; conv => whnf)
    | (refine And.intro (lm_v511 _) ?_; conv => whnf)
    | (refine And.intro (lm_v7 _) ?_; conv => whnf)
    | (refine ⟨fun hx => ?_, fun hx => ?_⟩ <;> conv => whnf)
    | (split at h)
    | contradiction
    | exact h
def km_write (a v : Int32) (S : lm_S) : lm_S := lm_set (lm_set (lm_set S 18 a.toNatClampNeg (v &&& 255)) 16 9 (S 16 8)) 16 8 a
def s_R_write : lm_Sp := fun av S post => ∃ a v, av = [.ref 16, .int a, .int v] ∧ vp_in a 569 ∧ post none (km_write a v S)
abbrev ca_R_write : lm_Ca := []
theorem cok_R_write (l : Launch) : lm_cok l (kk_Y kk_shF) R_R 0 0 ca_R_write := kk_cok (kk_nil)
set_option maxHeartbeats 1000000 in
set_option maxRecDepth 20000 in
theorem I_R_write (l : Launch) : lm_I l (kk_Y kk_shF) y_R_write b_R_write 3 (none) 0 0 s_R_write := by
  refine lm_impl g_R_write ca_R_write (by decide +kernel) kk_okF ck_R_write (kk_fok fl_R_ok) (kk_sok sl_R_ok) (Or.inl rfl) (cok_R_write l) rfl (by decide) ?_
  rintro av S post ⟨a, v, rfl, hw, h⟩
  refine ⟨Nat.le_of_ble_eq_true rfl, lm_run 60 ?_⟩
  unfold km_write at h
  (try (conv => whnf))
  repeat' first
    | (refine ⟨_, rfl, ?_⟩; conv => whnf)
    | (refine ⟨_, _, rfl, ?_⟩; conv => whnf)
    | (refine ⟨_, _, _, rfl, ?_⟩; conv => whnf)
    | (refine ⟨_, _, _, _, rfl, ?_⟩; conv => whnf)
    | (refine And.intro rfl ?_; conv => whnf)
    | (refine And.intro (lm_vc (by decide)) ?_; conv => whnf)
    | (refine And.intro (by decide) ?_; conv => whnf)
    | (refine ⟨fun hx => absurd hx (by decide), fun _ => ?_⟩; conv => whnf)
    | (refine ⟨fun _ => ?_, fun hx => absurd hx (by decide)⟩; conv => whnf)
    | (refine And.intro (hw hx) ?_; conv => whnf)
    | (refine And.intro hw ?_; conv => whnf)
    | (refine And.intro hw2 ?_; conv => whnf)
    | (refine And.intro hw3 ?_; conv => whnf)
    | (refine And.intro hw4 ?_; conv => whnf)
    | (refine And.intro hw5 ?_; conv => whnf)
    | (refine And.intro hw6 ?_; conv => whnf)
    | (refine And.intro hw7 ?_; conv => whnf)
    | (refine And.intro (hv1 (by assumption)) ?_; conv => whnf)
    | (refine And.intro (hv2 (by assumption) (by assumption)) ?_; conv => whnf)
    | (refine And.intro (hv3 (by assumption) (by assumption)) ?_; conv => whnf)
    | (refine And.intro (lm_v511 _) ?_; conv => whnf)
    | (refine And.intro (lm_v7 _) ?_; conv => whnf)
    | (refine ⟨fun hx => ?_, fun hx => ?_⟩ <;> conv => whnf)
    | (split at h)
    | contradiction
    | exact h
def km_push (v : Int32) (S : lm_S) : lm_S := lm_set (km_write (256 + S 18 515) v S) 18 515 (((km_write (256 + S 18 515) v S) 18 515 - 1) &&& 255)
def s_R_push : lm_Sp := fun av S post => ∃ v, av = [.ref 16, .int v] ∧ vp_in (256 + S 18 515) 569 ∧ post none (km_push v S)
abbrev ca_R_push : lm_Ca := [(46, 2, (some 4), s_R_write)]
theorem cok_R_push (l : Launch) : lm_cok l (kk_Y kk_shF) R_R 1 22 ca_R_push := kk_cok (kk_cons ⟨y_R_write, b_R_write, 3, none, 0, 0, I_R_write l, ⟨by decide, by decide⟩, yw_R_write, li_R_46⟩ <| kk_nil)
set_option maxHeartbeats 1000000 in
set_option maxRecDepth 20000 in
theorem I_R_push (l : Launch) : lm_I l (kk_Y kk_shF) y_R_push b_R_push 2 (none) 1 22 s_R_push := by
  refine lm_impl g_R_push ca_R_push (by decide +kernel) kk_okF ck_R_push (kk_fok fl_R_ok) (kk_sok sl_R_ok) (Or.inl rfl) (cok_R_push l) rfl (by decide) ?_
  rintro av S post ⟨v, rfl, hw, h⟩
  refine ⟨Nat.le_of_ble_eq_true rfl, lm_run 60 ?_⟩
  unfold km_push at h
  (try (conv => whnf))
  repeat' first
    | (refine ⟨_, rfl, ?_⟩; conv => whnf)
    | (refine ⟨_, _, rfl, ?_⟩; conv => whnf)
    | (refine ⟨_, _, _, rfl, ?_⟩; conv => whnf)
    | (refine ⟨_, _, _, _, rfl, ?_⟩; conv => whnf)
    | (refine And.intro rfl ?_; conv => whnf)
    | (refine And.intro (lm_vc (by decide)) ?_; conv => whnf)
    | (refine And.intro (by decide) ?_; conv => whnf)
    | (refine ⟨fun hx => absurd hx (by decide), fun _ => ?_⟩; conv => whnf)
    | (refine ⟨fun _ => ?_, fun hx => absurd hx (by decide)⟩; conv => whnf)
    | (refine And.intro (hw hx) ?_; conv => whnf)
    | (refine And.intro hw ?_; conv => whnf)
    | (refine And.intro hw2 ?_; conv => whnf)
    | (refine And.intro hw3 ?_; conv => whnf)
    | (refine And.intro hw4 ?_; conv => whnf)
    | (refine And.intro hw5 ?_; conv => whnf)
    | (refine And.intro hw6 ?_; conv => whnf)
    | (refine And.intro hw7 ?_; conv => whnf)
    | (refine And.intro (hv1 (by assumption)) ?_; conv => whnf)
    | (refine And.intro (hv2 (by assumption) (by assumption)) ?_; conv => whnf)
    | (refine And.intro (hv3 (by assumption) (by assumption)) ?_; conv => whnf)
    | (refine And.intro (lm_v511 _) ?_; conv => whnf)
    | (refine And.intro (lm_v7 _) ?_; conv => whnf)
    | (refine ⟨fun hx => ?_, fun hx => ?_⟩ <;> conv => whnf)
    | (split at h)
    | contradiction
    | exact h
def km_pull (S : lm_S) : lm_S := lm_set S 18 515 ((S 18 515 + 1) &&& 255)
def km_pv (S : lm_S) : Int32 := (km_pull S) 18 (256 + (S 18 515 + 1 &&& 255)).toNatClampNeg
def s_R_pull : lm_Sp := fun av S post => av = [.ref 16] ∧ post (some (.int (km_pv S))) (km_pull S)
abbrev ca_R_pull : lm_Ca := []
theorem cok_R_pull (l : Launch) : lm_cok l (kk_Y kk_shF) R_R 0 0 ca_R_pull := kk_cok (kk_nil)
set_option maxHeartbeats 1000000 in
set_option maxRecDepth 20000 in
theorem I_R_pull (l : Launch) : lm_I l (kk_Y kk_shF) y_R_pull b_R_pull 1 (some .int) 0 0 s_R_pull := by
  refine lm_impl g_R_pull ca_R_pull (by decide +kernel) kk_okF ck_R_pull (kk_fok fl_R_ok) (kk_sok sl_R_ok) (Or.inl rfl) (cok_R_pull l) rfl (by decide) ?_
  rintro av S post ⟨rfl, h⟩
  have hw : vp_in (256 + (S 18 515 + 1 &&& 255)) 569 := km_sp _
  refine ⟨Nat.le_of_ble_eq_true rfl, lm_run 60 ?_⟩
  unfold km_pv km_pull at h
  (try (conv => whnf))
  repeat' first
    | (refine ⟨_, rfl, ?_⟩; conv => whnf)
    | (refine ⟨_, _, rfl, ?_⟩; conv => whnf)
    | (refine ⟨_, _, _, rfl, ?_⟩; conv => whnf)
    | (refine ⟨_, _, _, _, rfl, ?_⟩; conv => whnf)
    | (refine And.intro rfl ?_; conv => whnf)
    | (refine And.intro (lm_vc (by decide)) ?_; conv => whnf)
    | (refine And.intro (by decide) ?_; conv => whnf)
    | (refine ⟨fun hx => absurd hx (by decide), fun _ => ?_⟩; conv => whnf)
    | (refine ⟨fun _ => ?_, fun hx => absurd hx (by decide)⟩; conv => whnf)
    | (refine And.intro (hw hx) ?_; conv => whnf)
    | (refine And.intro hw ?_; conv => whnf)
    | (refine And.intro hw2 ?_; conv => whnf)
    | (refine And.intro hw3 ?_; conv => whnf)
    | (refine And.intro hw4 ?_; conv => whnf)
    | (refine And.intro hw5 ?_; conv => whnf)
    | (refine And.intro hw6 ?_; conv => whnf)
    | (refine And.intro hw7 ?_; conv => whnf)
    | (refine And.intro (hv1 (by assumption)) ?_; conv => whnf)
    | (refine And.intro (hv2 (by assumption) (by assumption)) ?_; conv => whnf)
    | (refine And.intro (hv3 (by assumption) (by assumption)) ?_; conv => whnf)
    | (refine And.intro (lm_v511 _) ?_; conv => whnf)
    | (refine And.intro (lm_v7 _) ?_; conv => whnf)
    | (refine ⟨fun hx => ?_, fun hx => ?_⟩ <;> conv => whnf)
    | (split at h)
    | contradiction
    | exact h
def km_len (op md : Int32) : Int32 := if 22 < op then (if op = 26 then 2 else 1) else if md = 7 then 1 else if md < 3 then 2 else if 5 < md then 2 else 3
def s_R_length : lm_Sp := fun av S post => ∃ op md, av = [.int op, .int md] ∧ post (some (.int (km_len op md))) S
abbrev ca_R_length : lm_Ca := []
theorem cok_R_length (l : Launch) : lm_cok l (kk_Y kk_shF) R_R 0 0 ca_R_length := kk_cok (kk_nil)
set_option maxHeartbeats 1000000 in
set_option maxRecDepth 20000 in
theorem I_R_length (l : Launch) : lm_I l (kk_Y kk_shF) y_R_length b_R_length 2 (some .int) 0 0 s_R_length := by
  refine lm_impl g_R_length ca_R_length (by decide +kernel) kk_okF ck_R_length (kk_fok fl_R_ok) (kk_sok sl_R_ok) (Or.inl rfl) (cok_R_length l) rfl (by decide) ?_
  rintro av S post ⟨op, md, rfl, h⟩
  refine ⟨Nat.le_of_ble_eq_true rfl, lm_run 60 ?_⟩
  unfold km_len at h
  (try (conv => whnf))
  repeat' first
    | (refine ⟨_, rfl, ?_⟩; conv => whnf)
    | (refine ⟨_, _, rfl, ?_⟩; conv => whnf)
    | (refine ⟨_, _, _, rfl, ?_⟩; conv => whnf)
    | (refine ⟨_, _, _, _, rfl, ?_⟩; conv => whnf)
    | (refine And.intro rfl ?_; conv => whnf)
    | (refine And.intro (lm_vc (by decide)) ?_; conv => whnf)
    | (refine And.intro (by decide) ?_; conv => whnf)
    | (refine ⟨fun hx => absurd hx (by decide), fun _ => ?_⟩; conv => whnf)
    | (refine ⟨fun _ => ?_, fun hx => absurd hx (by decide)⟩; conv => whnf)
    | (refine And.intro (hw hx) ?_; conv => whnf)
    | (refine And.intro hw ?_; conv => whnf)
    | (refine And.intro hw2 ?_; conv => whnf)
    | (refine And.intro hw3 ?_; conv => whnf)
    | (refine And.intro hw4 ?_; conv => whnf)
    | (refine And.intro hw5 ?_; conv => whnf)
    | (refine And.intro hw6 ?_; conv => whnf)
    | (refine And.intro hw7 ?_; conv => whnf)
    | (refine And.intro (hv1 (by assumption)) ?_; conv => whnf)
    | (refine And.intro (hv2 (by assumption) (by assumption)) ?_; conv => whnf)
    | (refine And.intro (hv3 (by assumption) (by assumption)) ?_; conv => whnf)
    | (refine And.intro (lm_v511 _) ?_; conv => whnf)
    | (refine And.intro (lm_v7 _) ?_; conv => whnf)
    | (refine ⟨fun hx => ?_, fun hx => ?_⟩ <;> conv => whnf)
    | (split at h)
    | contradiction
    | exact h
def km_place (md be i w : Int32) (S : lm_S) : Int32 := if md.toInt = 0 then be else if md.toInt = 0 + 1 then i else if md.toInt = 0 + 1 + 1 then (i + S 18 513) &&& 255 else if md.toInt = 0 + 1 + 1 + 1 then w &&& 511 else if md.toInt = 0 + 1 + 1 + 1 + 1 then (w + S 18 513) &&& 511 else if md.toInt = 0 + 1 + 1 + 1 + 1 + 1 then (w + S 18 514) &&& 511 else (S 18 i.toNatClampNeg + 256 * S 18 ((i + 1) &&& 255).toNatClampNeg + S 18 514) &&& 511
def s_R_place : lm_Sp := fun av S post => ∃ md be i w, av = [.ref 16, .int md, .int be, .int i, .int w] ∧ vp_in i 569 ∧ post (some (.int (km_place md be i w S))) S
abbrev ca_R_place : lm_Ca := []
theorem cok_R_place (l : Launch) : lm_cok l (kk_Y kk_shF) R_R 0 0 ca_R_place := kk_cok (kk_nil)
set_option maxHeartbeats 1000000 in
set_option maxRecDepth 20000 in
theorem I_R_place (l : Launch) : lm_I l (kk_Y kk_shF) y_R_place b_R_place 5 (some .int) 0 0 s_R_place := by
  refine lm_impl g_R_place ca_R_place (by decide +kernel) kk_okF ck_R_place (kk_fok fl_R_ok) (kk_sok sl_R_ok) (Or.inl rfl) (cok_R_place l) rfl (by decide) ?_
  rintro av S post ⟨md, be, i, w, rfl, hw, h⟩
  have hw2 : vp_in ((i + 1) &&& 255) 569 := km_v255 _
  refine ⟨Nat.le_of_ble_eq_true rfl, lm_run 60 ?_⟩
  unfold km_place at h
  (try (conv => whnf))
  repeat' first
    | (refine ⟨_, rfl, ?_⟩; conv => whnf)
    | (refine ⟨_, _, rfl, ?_⟩; conv => whnf)
    | (refine ⟨_, _, _, rfl, ?_⟩; conv => whnf)
    | (refine ⟨_, _, _, _, rfl, ?_⟩; conv => whnf)
    | (refine And.intro rfl ?_; conv => whnf)
    | (refine And.intro (lm_vc (by decide)) ?_; conv => whnf)
    | (refine And.intro (by decide) ?_; conv => whnf)
    | (refine ⟨fun hx => absurd hx (by decide), fun _ => ?_⟩; conv => whnf)
    | (refine ⟨fun _ => ?_, fun hx => absurd hx (by decide)⟩; conv => whnf)
    | (refine And.intro (hw hx) ?_; conv => whnf)
    | (refine And.intro hw ?_; conv => whnf)
    | (refine And.intro hw2 ?_; conv => whnf)
    | (refine And.intro hw3 ?_; conv => whnf)
    | (refine And.intro hw4 ?_; conv => whnf)
    | (refine And.intro hw5 ?_; conv => whnf)
    | (refine And.intro hw6 ?_; conv => whnf)
    | (refine And.intro hw7 ?_; conv => whnf)
    | (refine And.intro (hv1 (by assumption)) ?_; conv => whnf)
    | (refine And.intro (hv2 (by assumption) (by assumption)) ?_; conv => whnf)
    | (refine And.intro (hv3 (by assumption) (by assumption)) ?_; conv => whnf)
    | (refine And.intro (lm_v511 _) ?_; conv => whnf)
    | (refine And.intro (lm_v7 _) ?_; conv => whnf)
    | (refine ⟨fun hx => ?_, fun hx => ?_⟩ <;> conv => whnf)
    | (split at h)
    | contradiction
    | exact h
def km_change (p v : Int32) (S : lm_S) : lm_S := if p = 512 then lm_set S 18 512 (v &&& 255) else km_write p v S
def s_R_change : lm_Sp := fun av S post => ∃ p v, av = [.ref 16, .int p, .int v] ∧ vp_in p 569 ∧ post none (km_change p v S)
abbrev ca_R_change : lm_Ca := [(46, 2, (some 4), s_R_write)]
theorem cok_R_change (l : Launch) : lm_cok l (kk_Y kk_shF) R_R 1 22 ca_R_change := kk_cok (kk_cons ⟨y_R_write, b_R_write, 3, none, 0, 0, I_R_write l, ⟨by decide, by decide⟩, yw_R_write, li_R_46⟩ <| kk_nil)
set_option maxHeartbeats 1000000 in
set_option maxRecDepth 20000 in
theorem I_R_change (l : Launch) : lm_I l (kk_Y kk_shF) y_R_change b_R_change 3 (none) 1 22 s_R_change := by
  refine lm_impl g_R_change ca_R_change (by decide +kernel) kk_okF ck_R_change (kk_fok fl_R_ok) (kk_sok sl_R_ok) (Or.inl rfl) (cok_R_change l) rfl (by decide) ?_
  rintro av S post ⟨p, v, rfl, hw, h⟩
  refine ⟨Nat.le_of_ble_eq_true rfl, lm_run 60 ?_⟩
  unfold km_change at h
  (try (conv => whnf))
  repeat' first
    | (refine ⟨_, rfl, ?_⟩; conv => whnf)
    | (refine ⟨_, _, rfl, ?_⟩; conv => whnf)
    | (refine ⟨_, _, _, rfl, ?_⟩; conv => whnf)
    | (refine ⟨_, _, _, _, rfl, ?_⟩; conv => whnf)
    | (refine And.intro rfl ?_; conv => whnf)
    | (refine And.intro (lm_vc (by decide)) ?_; conv => whnf)
    | (refine And.intro (by decide) ?_; conv => whnf)
    | (refine ⟨fun hx => absurd hx (by decide), fun _ => ?_⟩; conv => whnf)
    | (refine ⟨fun _ => ?_, fun hx => absurd hx (by decide)⟩; conv => whnf)
    | (refine And.intro (hw hx) ?_; conv => whnf)
    | (refine And.intro hw ?_; conv => whnf)
    | (refine And.intro hw2 ?_; conv => whnf)
    | (refine And.intro hw3 ?_; conv => whnf)
    | (refine And.intro hw4 ?_; conv => whnf)
    | (refine And.intro hw5 ?_; conv => whnf)
    | (refine And.intro hw6 ?_; conv => whnf)
    | (refine And.intro hw7 ?_; conv => whnf)
    | (refine And.intro (hv1 (by assumption)) ?_; conv => whnf)
    | (refine And.intro (hv2 (by assumption) (by assumption)) ?_; conv => whnf)
    | (refine And.intro (hv3 (by assumption) (by assumption)) ?_; conv => whnf)
    | (refine And.intro (lm_v511 _) ?_; conv => whnf)
    | (refine And.intro (lm_v7 _) ?_; conv => whnf)
    | (refine ⟨fun hx => ?_, fun hx => ?_⟩ <;> conv => whnf)
    | (split at h)
    | contradiction
    | exact h
def km_add1 (s : Int32) (S : lm_S) : lm_S := km_flag 1 (if s ≤ 255 then 0 else 1) S
def km_add2 (s t : Int32) (S : lm_S) : lm_S := km_flag 64 (if (km_add1 s S) 18 512 &&& 128 = t &&& 128 then (if s &&& 128 = t &&& 128 then 0 else 1) else 0) (km_add1 s S)
def km_add3 (s t : Int32) (S : lm_S) : lm_S := lm_set (km_mark s (km_add2 s t S)) 18 512 (s &&& 255)
def km_add (t : Int32) (S : lm_S) : lm_S := km_add3 (S 18 512 + t + (S 18 516 &&& 1)) t S
def s_R_add : lm_Sp := fun av S post => ∃ t, av = [.ref 16, .int t] ∧ post none (km_add t S)
abbrev ca_R_add : lm_Ca := [(36, 2, (some 4), s_R_flag), (77, 1, (some 4), s_R_marked)]
theorem cok_R_add (l : Launch) : lm_cok l (kk_Y kk_shF) R_R 2 43 ca_R_add := kk_cok (kk_cons ⟨y_R_flag, b_R_flag, 3, none, 0, 0, I_R_flag l, ⟨by decide, by decide⟩, yw_R_flag, li_R_36⟩ <| kk_cons ⟨y_R_marked, b_R_marked, 2, some .int, 1, 22, I_R_marked l, ⟨by decide, by decide⟩, yw_R_marked, li_R_77⟩ <| kk_nil)
set_option maxHeartbeats 1000000 in
set_option maxRecDepth 20000 in
theorem I_R_add (l : Launch) : lm_I l (kk_Y kk_shF) y_R_add b_R_add 3 (none) 2 43 s_R_add := by
  refine lm_impl g_R_add ca_R_add (by decide +kernel) kk_okF ck_R_add (kk_fok fl_R_ok) (kk_sok sl_R_ok) (Or.inl rfl) (cok_R_add l) rfl (by decide) ?_
  rintro av S post ⟨t, rfl, h⟩
  refine ⟨Nat.le_of_ble_eq_true rfl, lm_run 90 ?_⟩
  unfold km_add km_add3 km_add2 km_add1 at h
  (try (conv => whnf))
  repeat' first
    | (refine ⟨_, rfl, ?_⟩; conv => whnf)
    | (refine ⟨_, _, rfl, ?_⟩; conv => whnf)
    | (refine ⟨_, _, _, rfl, ?_⟩; conv => whnf)
    | (refine ⟨_, _, _, _, rfl, ?_⟩; conv => whnf)
    | (refine And.intro rfl ?_; conv => whnf)
    | (refine And.intro (lm_vc (by decide)) ?_; conv => whnf)
    | (refine And.intro (by decide) ?_; conv => whnf)
    | (refine ⟨fun hx => absurd hx (by decide), fun _ => ?_⟩; conv => whnf)
    | (refine ⟨fun _ => ?_, fun hx => absurd hx (by decide)⟩; conv => whnf)
    | (refine And.intro (hw hx) ?_; conv => whnf)
    | (refine And.intro hw ?_; conv => whnf)
    | (refine And.intro hw2 ?_; conv => whnf)
    | (refine And.intro hw3 ?_; conv => whnf)
    | (refine And.intro hw4 ?_; conv => whnf)
    | (refine And.intro hw5 ?_; conv => whnf)
    | (refine And.intro hw6 ?_; conv => whnf)
    | (refine And.intro hw7 ?_; conv => whnf)
    | (refine And.intro (hv1 (by assumption)) ?_; conv => whnf)
    | (refine And.intro (hv2 (by assumption) (by assumption)) ?_; conv => whnf)
    | (refine And.intro (hv3 (by assumption) (by assumption)) ?_; conv => whnf)
    | (refine And.intro (lm_v511 _) ?_; conv => whnf)
    | (refine And.intro (lm_v7 _) ?_; conv => whnf)
    | (refine ⟨fun hx => ?_, fun hx => ?_⟩ <;> conv => whnf)
    | (split at h)
    | contradiction
    | exact h
def km_cmp (v t : Int32) (S : lm_S) : lm_S := km_flag 1 (if v < t then 0 else 1) (km_mark (v - t) S)
def s_R_compare : lm_Sp := fun av S post => ∃ v t, av = [.ref 16, .int v, .int t] ∧ post none (km_cmp v t S)
abbrev ca_R_compare : lm_Ca := [(36, 2, (some 4), s_R_flag), (77, 1, (some 4), s_R_marked)]
theorem cok_R_compare (l : Launch) : lm_cok l (kk_Y kk_shF) R_R 2 43 ca_R_compare := kk_cok (kk_cons ⟨y_R_flag, b_R_flag, 3, none, 0, 0, I_R_flag l, ⟨by decide, by decide⟩, yw_R_flag, li_R_36⟩ <| kk_cons ⟨y_R_marked, b_R_marked, 2, some .int, 1, 22, I_R_marked l, ⟨by decide, by decide⟩, yw_R_marked, li_R_77⟩ <| kk_nil)
set_option maxHeartbeats 1000000 in
set_option maxRecDepth 20000 in
theorem I_R_compare (l : Launch) : lm_I l (kk_Y kk_shF) y_R_compare b_R_compare 4 (none) 2 43 s_R_compare := by
  refine lm_impl g_R_compare ca_R_compare (by decide +kernel) kk_okF ck_R_compare (kk_fok fl_R_ok) (kk_sok sl_R_ok) (Or.inl rfl) (cok_R_compare l) rfl (by decide) ?_
  rintro av S post ⟨v, t, rfl, h⟩
  refine ⟨Nat.le_of_ble_eq_true rfl, lm_run 90 ?_⟩
  unfold km_cmp at h
  (try (conv => whnf))
  repeat' first
    | (refine ⟨_, rfl, ?_⟩; conv => whnf)
    | (refine ⟨_, _, rfl, ?_⟩; conv => whnf)
    | (refine ⟨_, _, _, rfl, ?_⟩; conv => whnf)
    | (refine ⟨_, _, _, _, rfl, ?_⟩; conv => whnf)
    | (refine And.intro rfl ?_; conv => whnf)
    | (refine And.intro (lm_vc (by decide)) ?_; conv => whnf)
    | (refine And.intro (by decide) ?_; conv => whnf)
    | (refine ⟨fun hx => absurd hx (by decide), fun _ => ?_⟩; conv => whnf)
    | (refine ⟨fun _ => ?_, fun hx => absurd hx (by decide)⟩; conv => whnf)
    | (refine And.intro (hw hx) ?_; conv => whnf)
    | (refine And.intro hw ?_; conv => whnf)
    | (refine And.intro hw2 ?_; conv => whnf)
    | (refine And.intro hw3 ?_; conv => whnf)
    | (refine And.intro hw4 ?_; conv => whnf)
    | (refine And.intro hw5 ?_; conv => whnf)
    | (refine And.intro hw6 ?_; conv => whnf)
    | (refine And.intro hw7 ?_; conv => whnf)
    | (refine And.intro (hv1 (by assumption)) ?_; conv => whnf)
    | (refine And.intro (hv2 (by assumption) (by assumption)) ?_; conv => whnf)
    | (refine And.intro (hv3 (by assumption) (by assumption)) ?_; conv => whnf)
    | (refine And.intro (lm_v511 _) ?_; conv => whnf)
    | (refine And.intro (lm_v7 _) ?_; conv => whnf)
    | (refine ⟨fun hx => ?_, fun hx => ?_⟩ <;> conv => whnf)
    | (split at h)
    | contradiction
    | exact h
def km_sm0 (md : Int32) (S : lm_S) : lm_S := if md = 0 then lm_set (km_mark (S 18 514 + 1) S) 18 514 ((S 18 514 + 1) &&& 255) else S
def km_sm1 (md : Int32) (S : lm_S) : lm_S := if md = 1 then lm_set (km_mark (S 18 514 - 1) S) 18 514 ((S 18 514 - 1) &&& 255) else S
def km_sm2 (md : Int32) (S : lm_S) : lm_S := if md = 2 then (if md = 3 then km_flag 1 1 S else km_flag 1 0 S) else if md = 3 then km_flag 1 1 S else S
def km_sm4 (md : Int32) (S : lm_S) : lm_S := if md = 4 then km_flag 64 0 S else S
def km_small (md : Int32) (S : lm_S) : lm_S := km_sm4 md (km_sm2 md (km_sm1 md (km_sm0 md S)))
def s_R_small : lm_Sp := fun av S post => ∃ md, av = [.ref 16, .int md] ∧ post none (km_small md S)
abbrev ca_R_small : lm_Ca := [(36, 2, (some 4), s_R_flag), (77, 1, (some 4), s_R_marked)]
theorem cok_R_small (l : Launch) : lm_cok l (kk_Y kk_shF) R_R 2 43 ca_R_small := kk_cok (kk_cons ⟨y_R_flag, b_R_flag, 3, none, 0, 0, I_R_flag l, ⟨by decide, by decide⟩, yw_R_flag, li_R_36⟩ <| kk_cons ⟨y_R_marked, b_R_marked, 2, some .int, 1, 22, I_R_marked l, ⟨by decide, by decide⟩, yw_R_marked, li_R_77⟩ <| kk_nil)
set_option maxHeartbeats 1000000 in
set_option maxRecDepth 20000 in
theorem I_R_small (l : Launch) : lm_I l (kk_Y kk_shF) y_R_small b_R_small 2 (none) 2 43 s_R_small := by
  refine lm_impl g_R_small ca_R_small (by decide +kernel) kk_okF ck_R_small (kk_fok fl_R_ok) (kk_sok sl_R_ok) (Or.inl rfl) (cok_R_small l) rfl (by decide) ?_
  rintro av S post ⟨md, rfl, h⟩
  refine ⟨Nat.le_of_ble_eq_true rfl, ?_⟩
  have t4 : ∀ S, post none (km_sm4 md S) → lm_Go YF g_R_small ca_R_small post 78 [(0, .ref 16), (1, .int md)] [] S := by
    intro S h
    refine lm_run 20 ?_
    unfold km_sm4 at h
    (try (conv => whnf))
    repeat' first
      | (refine ⟨_, rfl, ?_⟩; conv => whnf)
      | (refine ⟨_, _, rfl, ?_⟩; conv => whnf)
      | (refine ⟨_, _, _, rfl, ?_⟩; conv => whnf)
      | (refine ⟨_, _, _, _, rfl, ?_⟩; conv => whnf)
      | (refine And.intro rfl ?_; conv => whnf)
      | (refine And.intro (lm_vc (by decide)) ?_; conv => whnf)
      | (refine And.intro (by decide) ?_; conv => whnf)
      | (refine ⟨fun hx => absurd hx (by decide), fun _ => ?_⟩; conv => whnf)
      | (refine ⟨fun _ => ?_, fun hx => absurd hx (by decide)⟩; conv => whnf)
      | (refine And.intro (hw hx) ?_; conv => whnf)
      | (refine And.intro hw ?_; conv => whnf)
      | (refine And.intro hw2 ?_; conv => whnf)
      | (refine And.intro hw3 ?_; conv => whnf)
      | (refine And.intro hw4 ?_; conv => whnf)
      | (refine And.intro hw5 ?_; conv => whnf)
      | (refine And.intro hw6 ?_; conv => whnf)
      | (refine And.intro hw7 ?_; conv => whnf)
      | (refine And.intro (hv1 (by assumption)) ?_; conv => whnf)
      | (refine And.intro (hv2 (by assumption) (by assumption)) ?_; conv => whnf)
      | (refine And.intro (hv3 (by assumption) (by assumption)) ?_; conv => whnf)
      | (refine And.intro (lm_v511 _) ?_; conv => whnf)
      | (refine And.intro (lm_v7 _) ?_; conv => whnf)
      | (refine ⟨fun hx => ?_, fun hx => ?_⟩ <;> conv => whnf)
      | (split at h)
      | contradiction
      | exact h
  have t2 : ∀ S, post none (km_sm4 md (km_sm2 md S)) → lm_Go YF g_R_small ca_R_small post 53 [(0, .ref 16), (1, .int md)] [] S := by
    intro S h
    refine lm_to 78 20 ?_
    unfold km_sm2 at h
    conv => whnf
    refine ⟨fun h2 => ?_, fun h2 => ?_⟩
    · rw [if_pos h2] at h
      conv => whnf
      refine ⟨fun h3 => ?_, fun h3 => ?_⟩
      · rw [if_neg h3] at h
        conv => whnf
        refine ⟨_, _, rfl, ?_⟩
        exact t4 _ h
      · rw [if_pos h3] at h
        conv => whnf
        refine ⟨_, _, rfl, ?_⟩
        exact t4 _ h
    · rw [if_neg h2] at h
      conv => whnf
      refine ⟨fun h3 => ?_, fun h3 => ?_⟩
      · rw [if_neg h3] at h
        exact t4 _ h
      · rw [if_pos h3] at h
        conv => whnf
        refine ⟨fun h9 => absurd h3 h9, fun _ => ?_⟩
        conv => whnf
        refine ⟨_, _, rfl, ?_⟩
        exact t4 _ h
  have t1 : ∀ S, post none (km_sm4 md (km_sm2 md (km_sm1 md S))) → lm_Go YF g_R_small ca_R_small post 26 [(0, .ref 16), (1, .int md)] [] S := by
    intro S h
    refine lm_to 53 30 ?_
    unfold km_sm1 at h
    conv => whnf
    refine ⟨fun h2 => ?_, fun h2 => ?_⟩
    · rw [if_neg h2] at h
      exact t2 _ h
    · rw [if_pos h2] at h
      conv => whnf
      refine ⟨lm_vc (by decide), ?_⟩
      conv => whnf
      refine ⟨_, rfl, ?_⟩
      conv => whnf
      refine ⟨lm_vc (by decide), ?_⟩
      exact t2 _ h
  refine lm_to 26 30 ?_
  unfold km_small km_sm0 at h
  conv => whnf
  refine ⟨fun h2 => ?_, fun h2 => ?_⟩
  · rw [if_neg h2] at h
    exact t1 _ h
  · rw [if_pos h2] at h
    conv => whnf
    refine ⟨lm_vc (by decide), ?_⟩
    conv => whnf
    refine ⟨_, rfl, ?_⟩
    conv => whnf
    refine ⟨lm_vc (by decide), ?_⟩
    exact t1 _ h
def km_wh (md : Int32) : Int32 := if 2 ≤ md then (if 4 ≤ md then (if 6 ≤ md then 2 else 1) else 64) else 128
def km_hop (o : Int32) (S : lm_S) : lm_S := lm_set S 18 517 ((S 18 517 + (if o ≤ 127 then o else o - 256)) &&& 511)
def km_br (w md o : Int32) (S : lm_S) : lm_S := if S 18 516 &&& w = 0 then (if md - md / 2 * 2 = 1 then S else km_hop o S) else (if md - md / 2 * 2 = 1 then km_hop o S else S)
def km_branch (md o : Int32) (S : lm_S) : lm_S := km_br (km_wh md) md o S
def s_R_branch : lm_Sp := fun av S post => ∃ md o, av = [.ref 16, .int md, .int o] ∧ post none (km_branch md o S)
theorem br_tail {post : Option Value → lm_S → Prop} (w md o : Int32) (S : lm_S) (h : post none (km_br w md o S)) : lm_Go YF g_R_branch [] post 32 [(0, .ref 16), (1, .int md), (2, .int o)] [.int w] S := by
  refine lm_run 60 ?_
  unfold km_br km_hop at h
  (try (conv => whnf))
  repeat' first
    | (refine ⟨_, rfl, ?_⟩; conv => whnf)
    | (refine ⟨_, _, rfl, ?_⟩; conv => whnf)
    | (refine ⟨_, _, _, rfl, ?_⟩; conv => whnf)
    | (refine ⟨_, _, _, _, rfl, ?_⟩; conv => whnf)
    | (refine And.intro rfl ?_; conv => whnf)
    | (refine And.intro (lm_vc (by decide)) ?_; conv => whnf)
    | (refine And.intro (by decide) ?_; conv => whnf)
    | (refine ⟨fun hx => absurd hx (by decide), fun _ => ?_⟩; conv => whnf)
    | (refine ⟨fun _ => ?_, fun hx => absurd hx (by decide)⟩; conv => whnf)
    | (refine And.intro (hw hx) ?_; conv => whnf)
    | (refine And.intro hw ?_; conv => whnf)
    | (refine And.intro hw2 ?_; conv => whnf)
    | (refine And.intro hw3 ?_; conv => whnf)
    | (refine And.intro hw4 ?_; conv => whnf)
    | (refine And.intro hw5 ?_; conv => whnf)
    | (refine And.intro hw6 ?_; conv => whnf)
    | (refine And.intro hw7 ?_; conv => whnf)
    | (refine And.intro (hv1 (by assumption)) ?_; conv => whnf)
    | (refine And.intro (hv2 (by assumption) (by assumption)) ?_; conv => whnf)
    | (refine And.intro (hv3 (by assumption) (by assumption)) ?_; conv => whnf)
    | (refine And.intro (lm_v511 _) ?_; conv => whnf)
    | (refine And.intro (lm_v7 _) ?_; conv => whnf)
    | (refine ⟨fun hx => ?_, fun hx => ?_⟩ <;> conv => whnf)
    | (split at h)
    | contradiction
    | exact h
abbrev ca_R_branch : lm_Ca := []
theorem cok_R_branch (l : Launch) : lm_cok l (kk_Y kk_shF) R_R 0 0 ca_R_branch := kk_cok (kk_nil)
set_option maxHeartbeats 1000000 in
set_option maxRecDepth 20000 in
theorem I_R_branch (l : Launch) : lm_I l (kk_Y kk_shF) y_R_branch b_R_branch 5 (none) 0 0 s_R_branch := by
  refine lm_impl g_R_branch ca_R_branch (by decide +kernel) kk_okF ck_R_branch (kk_fok fl_R_ok) (kk_sok sl_R_ok) (Or.inl rfl) (cok_R_branch l) rfl (by decide) ?_
  rintro av S post ⟨md, o, rfl, h⟩
  refine ⟨Nat.le_of_ble_eq_true rfl, lm_to 32 20 ?_⟩
  unfold km_branch km_wh at h
  conv => whnf
  refine ⟨fun h2 => ?_, fun h2 => ?_⟩
  · rw [if_pos h2] at h
    conv => whnf
    refine ⟨fun h2 => ?_, fun h2 => ?_⟩
    · rw [if_pos h2] at h
      conv => whnf
      refine ⟨fun h2 => ?_, fun h2 => ?_⟩
      · rw [if_pos h2] at h
        exact br_tail _ _ _ _ h
      · rw [if_neg h2] at h
        exact br_tail _ _ _ _ h
    · rw [if_neg h2] at h
      exact br_tail _ _ _ _ h
  · rw [if_neg h2] at h
    exact br_tail _ _ _ _ h
