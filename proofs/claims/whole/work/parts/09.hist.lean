/-! marks and history -/
def kd_isA (a : Int32) : Int32 := if a < 0 then 0 else if 512 ≤ a then 0 else 1
def s_D_isAddress : lm_Sp := fun av S post => ∃ a, av = [.int a] ∧ post (some (.int (kd_isA a))) S
abbrev ca_D_isAddress : lm_Ca := []
theorem cok_D_isAddress (l : Launch) : lm_cok l (kk_Y kk_shF) R_D 0 0 ca_D_isAddress := kk_cok (kk_nil)
set_option maxHeartbeats 1000000 in
set_option maxRecDepth 20000 in
theorem I_D_isAddress (l : Launch) : lm_I l (kk_Y kk_shF) y_D_isAddress b_D_isAddress 1 (some .boolean) 0 0 s_D_isAddress := by
  refine lm_impl g_D_isAddress ca_D_isAddress (by decide +kernel) kk_okF ck_D_isAddress (kk_fok fl_D_ok) (kk_sok sl_D_ok) (Or.inl rfl) (cok_D_isAddress l) rfl (by decide) ?_
  rintro av S post ⟨a, rfl, h⟩
  refine ⟨Nat.le_of_ble_eq_true rfl, lm_run 60 ?_⟩
  unfold kd_isA at h
  (try (conv => whnf))
  repeat' first
    | (refine ⟨_, rfl, ?_⟩; conv => whnf)
    | (refine ⟨_, _, rfl, ?_⟩; conv => whnf)
    | (refine ⟨_, _, _, rfl, ?_⟩; conv => whnf)
    | (refine And.intro rfl ?_; conv => whnf)
    | (refine And.intro (lm_vc (by decide)) ?_; conv => whnf)
    | (refine And.intro (by decide) ?_; conv => whnf)
    | (refine ⟨fun hx => absurd hx (by decide), fun _ => ?_⟩; conv => whnf)
    | (refine ⟨fun _ => ?_, fun hx => absurd hx (by decide)⟩; conv => whnf)
    | (refine And.intro (hw hx) ?_; conv => whnf)
    | (refine And.intro hw ?_; conv => whnf)
    | (refine And.intro hw2 ?_; conv => whnf)
    | (refine And.intro hw3 ?_; conv => whnf)
    | (refine And.intro hw4 ?_; conv => whnf)
    | (refine And.intro hw5 ?_; conv => whnf)
    | (refine And.intro hw6 ?_; conv => whnf)
    | (refine And.intro hw7 ?_; conv => whnf)
    | (refine And.intro (hv1 (by assumption)) ?_; conv => whnf)
    | (refine And.intro (hv2 (by assumption) (by assumption)) ?_; conv => whnf)
    | (refine And.intro (hv3 (by assumption) (by assumption)) ?_; conv => whnf)
    | (refine And.intro (lm_v511 _) ?_; conv => whnf)
    | (refine And.intro (lm_v7 _) ?_; conv => whnf)
    | (refine ⟨fun hx => ?_, fun hx => ?_⟩ <;> conv => whnf)
    | (split at h)
    | contradiction
    | exact h
def kd_isR (a : Int32) : Int32 := if a < 0 then 0 else if 6 < a then 0 else 1
def s_D_isRegister : lm_Sp := fun av S post => ∃ a, av = [.int a] ∧ post (some (.int (kd_isR a))) S
abbrev ca_D_isRegister : lm_Ca := []
theorem cok_D_isRegister (l : Launch) : lm_cok l (kk_Y kk_shF) R_D 0 0 ca_D_isRegister := kk_cok (kk_nil)
set_option maxHeartbeats 1000000 in
set_option maxRecDepth 20000 in
theorem I_D_isRegister (l : Launch) : lm_I l (kk_Y kk_shF) y_D_isRegister b_D_isRegister 1 (some .boolean) 0 0 s_D_isRegister := by
  refine lm_impl g_D_isRegister ca_D_isRegister (by decide +kernel) kk_okF ck_D_isRegister (kk_fok fl_D_ok) (kk_sok sl_D_ok) (Or.inl rfl) (cok_D_isRegister l) rfl (by decide) ?_
  rintro av S post ⟨a, rfl, h⟩
  refine ⟨Nat.le_of_ble_eq_true rfl, lm_run 60 ?_⟩
  unfold kd_isR at h
  (try (conv => whnf))
  repeat' first
    | (refine ⟨_, rfl, ?_⟩; conv => whnf)
    | (refine ⟨_, _, rfl, ?_⟩; conv => whnf)
    | (refine ⟨_, _, _, rfl, ?_⟩; conv => whnf)
    | (refine And.intro rfl ?_; conv => whnf)
    | (refine And.intro (lm_vc (by decide)) ?_; conv => whnf)
    | (refine And.intro (by decide) ?_; conv => whnf)
    | (refine ⟨fun hx => absurd hx (by decide), fun _ => ?_⟩; conv => whnf)
    | (refine ⟨fun _ => ?_, fun hx => absurd hx (by decide)⟩; conv => whnf)
    | (refine And.intro (hw hx) ?_; conv => whnf)
    | (refine And.intro hw ?_; conv => whnf)
    | (refine And.intro hw2 ?_; conv => whnf)
    | (refine And.intro hw3 ?_; conv => whnf)
    | (refine And.intro hw4 ?_; conv => whnf)
    | (refine And.intro hw5 ?_; conv => whnf)
    | (refine And.intro hw6 ?_; conv => whnf)
    | (refine And.intro hw7 ?_; conv => whnf)
    | (refine And.intro (hv1 (by assumption)) ?_; conv => whnf)
    | (refine And.intro (hv2 (by assumption) (by assumption)) ?_; conv => whnf)
    | (refine And.intro (hv3 (by assumption) (by assumption)) ?_; conv => whnf)
    | (refine And.intro (lm_v511 _) ?_; conv => whnf)
    | (refine And.intro (lm_v7 _) ?_; conv => whnf)
    | (refine ⟨fun hx => ?_, fun hx => ?_⟩ <;> conv => whnf)
    | (split at h)
    | contradiction
    | exact h
theorem kd_isA_in {a : Int32} (h : ¬ kd_isA a = 0) : vp_in a 512 := by
  unfold kd_isA at h
  split at h
  · exact absurd rfl h
  · split at h
    · exact absurd rfl h
    · exact lm_vb (by assumption) (by assumption) (by decide)
def kd_has (m : Nat) (a : Int32) (S : lm_S) : Int32 := if kd_isA a = 0 then 0 else if S m a.toNatClampNeg = 0 then 0 else 1
def s_K_has : lm_Sp := fun av S post => ∃ i a, av = [.ref i, .int a] ∧ (i = 3 ∨ i = 4) ∧ post (some (.int (kd_has (i + 11) a S))) S
abbrev ca_K_has : lm_Ca := [(15, 1, none, s_D_isAddress)]
theorem cok_K_has (l : Launch) : lm_cok l (kk_Y kk_shF) R_K 1 20 ca_K_has := kk_cok (kk_cons ⟨y_D_isAddress, b_D_isAddress, 1, some .boolean, 0, 0, I_D_isAddress l, ⟨by decide, by decide⟩, yw_D_isAddress, li_K_15⟩ <| kk_nil)
set_option maxHeartbeats 1000000 in
set_option maxRecDepth 20000 in
theorem I_K_has (l : Launch) : lm_I l (kk_Y kk_shF) y_K_has b_K_has 2 (some .boolean) 1 20 s_K_has := by
  refine lm_impl g_K_has ca_K_has (by decide +kernel) kk_okF ck_K_has (kk_fok fl_K_ok) (kk_sok sl_K_ok) (Or.inl rfl) (cok_K_has l) rfl (by decide) ?_
  rintro av S post ⟨i, a, rfl, hi, h⟩
  have hw : ¬ kd_isA a = 0 → vp_in a 512 := kd_isA_in
  refine ⟨Nat.le_of_ble_eq_true rfl, lm_run 60 ?_⟩
  unfold kd_has at h
  rcases hi with rfl | rfl
  · (try (conv => whnf))
    repeat' first
      | (refine ⟨_, rfl, ?_⟩; conv => whnf)
      | (refine ⟨_, _, rfl, ?_⟩; conv => whnf)
      | (refine ⟨_, _, _, rfl, ?_⟩; conv => whnf)
      | (refine And.intro rfl ?_; conv => whnf)
      | (refine And.intro (lm_vc (by decide)) ?_; conv => whnf)
      | (refine And.intro (by decide) ?_; conv => whnf)
      | (refine ⟨fun hx => absurd hx (by decide), fun _ => ?_⟩; conv => whnf)
      | (refine ⟨fun _ => ?_, fun hx => absurd hx (by decide)⟩; conv => whnf)
      | (refine And.intro (hw hx) ?_; conv => whnf)
      | (refine And.intro hw ?_; conv => whnf)
      | (refine And.intro hw2 ?_; conv => whnf)
      | (refine And.intro hw3 ?_; conv => whnf)
      | (refine And.intro hw4 ?_; conv => whnf)
      | (refine And.intro hw5 ?_; conv => whnf)
      | (refine And.intro hw6 ?_; conv => whnf)
      | (refine And.intro hw7 ?_; conv => whnf)
      | (refine And.intro (hv1 (by assumption)) ?_; conv => whnf)
      | (refine And.intro (hv2 (by assumption) (by assumption)) ?_; conv => whnf)
      | (refine And.intro (hv3 (by assumption) (by assumption)) ?_; conv => whnf)
      | (refine And.intro (lm_v511 _) ?_; conv => whnf)
      | (refine And.intro (lm_v7 _) ?_; conv => whnf)
      | (refine ⟨fun hx => ?_, fun hx => ?_⟩ <;> conv => whnf)
      | (split at h)
      | contradiction
      | exact h
  · (try (conv => whnf))
    repeat' first
      | (refine ⟨_, rfl, ?_⟩; conv => whnf)
      | (refine ⟨_, _, rfl, ?_⟩; conv => whnf)
      | (refine ⟨_, _, _, rfl, ?_⟩; conv => whnf)
      | (refine And.intro rfl ?_; conv => whnf)
      | (refine And.intro (lm_vc (by decide)) ?_; conv => whnf)
      | (refine And.intro (by decide) ?_; conv => whnf)
      | (refine ⟨fun hx => absurd hx (by decide), fun _ => ?_⟩; conv => whnf)
      | (refine ⟨fun _ => ?_, fun hx => absurd hx (by decide)⟩; conv => whnf)
      | (refine And.intro (hw hx) ?_; conv => whnf)
      | (refine And.intro hw ?_; conv => whnf)
      | (refine And.intro hw2 ?_; conv => whnf)
      | (refine And.intro hw3 ?_; conv => whnf)
      | (refine And.intro hw4 ?_; conv => whnf)
      | (refine And.intro hw5 ?_; conv => whnf)
      | (refine And.intro hw6 ?_; conv => whnf)
      | (refine And.intro hw7 ?_; conv => whnf)
      | (refine And.intro (hv1 (by assumption)) ?_; conv => whnf)
      | (refine And.intro (hv2 (by assumption) (by assumption)) ?_; conv => whnf)
      | (refine And.intro (hv3 (by assumption) (by assumption)) ?_; conv => whnf)
      | (refine And.intro (lm_v511 _) ?_; conv => whnf)
      | (refine And.intro (lm_v7 _) ?_; conv => whnf)
      | (refine ⟨fun hx => ?_, fun hx => ?_⟩ <;> conv => whnf)
      | (split at h)
      | contradiction
      | exact h
def kd_chr (i m : Nat) (a on : Int32) (S : lm_S) : Int32 := if kd_isA a = 0 then 0 else if S m a.toNatClampNeg = on then 0 else if on = 0 then 1 else if S i 1 < 4 then 1 else 0
def kd_chs (i m : Nat) (a on : Int32) (S : lm_S) : lm_S := if kd_isA a = 0 then S else if S m a.toNatClampNeg = on then S else if on = 0 then lm_set (lm_set S m a.toNatClampNeg (on &&& 1)) i 1 (S i 1 + -1) else if S i 1 < 4 then lm_set (lm_set S m a.toNatClampNeg (on &&& 1)) i 1 (S i 1 + 1) else S
def s_K_change : lm_Sp := fun av S post => ∃ i a on, av = [.ref i, .int a, .int on] ∧ (i = 3 ∨ i = 4) ∧ post (some (.int (kd_chr i (i + 11) a on S))) (kd_chs i (i + 11) a on S)
abbrev ca_K_change : lm_Ca := [(15, 1, none, s_D_isAddress)]
theorem cok_K_change (l : Launch) : lm_cok l (kk_Y kk_shF) R_K 1 20 ca_K_change := kk_cok (kk_cons ⟨y_D_isAddress, b_D_isAddress, 1, some .boolean, 0, 0, I_D_isAddress l, ⟨by decide, by decide⟩, yw_D_isAddress, li_K_15⟩ <| kk_nil)
set_option maxHeartbeats 1000000 in
set_option maxRecDepth 20000 in
theorem I_K_change (l : Launch) : lm_I l (kk_Y kk_shF) y_K_change b_K_change 3 (some .boolean) 1 20 s_K_change := by
  refine lm_impl g_K_change ca_K_change (by decide +kernel) kk_okF ck_K_change (kk_fok fl_K_ok) (kk_sok sl_K_ok) (Or.inl rfl) (cok_K_change l) rfl (by decide) ?_
  rintro av S post ⟨i, a, on, rfl, hi, h⟩
  have hv1 : ¬ kd_isA a = 0 → vp_in a 512 := kd_isA_in
  refine ⟨Nat.le_of_ble_eq_true rfl, lm_run 60 ?_⟩
  unfold kd_chr kd_chs at h
  rcases hi with rfl | rfl
  · (try (conv => whnf))
    repeat' first
      | (refine ⟨_, rfl, ?_⟩; conv => whnf)
      | (refine ⟨_, _, rfl, ?_⟩; conv => whnf)
      | (refine ⟨_, _, _, rfl, ?_⟩; conv => whnf)
      | (refine And.intro rfl ?_; conv => whnf)
      | (refine And.intro (lm_vc (by decide)) ?_; conv => whnf)
      | (refine And.intro (by decide) ?_; conv => whnf)
      | (refine ⟨fun hx => absurd hx (by decide), fun _ => ?_⟩; conv => whnf)
      | (refine ⟨fun _ => ?_, fun hx => absurd hx (by decide)⟩; conv => whnf)
      | (refine And.intro (hw hx) ?_; conv => whnf)
      | (refine And.intro hw ?_; conv => whnf)
      | (refine And.intro hw2 ?_; conv => whnf)
      | (refine And.intro hw3 ?_; conv => whnf)
      | (refine And.intro hw4 ?_; conv => whnf)
      | (refine And.intro hw5 ?_; conv => whnf)
      | (refine And.intro hw6 ?_; conv => whnf)
      | (refine And.intro hw7 ?_; conv => whnf)
      | (refine And.intro (hv1 (by assumption)) ?_; conv => whnf)
      | (refine And.intro (hv2 (by assumption) (by assumption)) ?_; conv => whnf)
      | (refine And.intro (hv3 (by assumption) (by assumption)) ?_; conv => whnf)
      | (refine And.intro (lm_v511 _) ?_; conv => whnf)
      | (refine And.intro (lm_v7 _) ?_; conv => whnf)
      | (refine ⟨fun hx => ?_, fun hx => ?_⟩ <;> conv => whnf)
      | (split at h)
      | contradiction
      | exact h
  · (try (conv => whnf))
    repeat' first
      | (refine ⟨_, rfl, ?_⟩; conv => whnf)
      | (refine ⟨_, _, rfl, ?_⟩; conv => whnf)
      | (refine ⟨_, _, _, rfl, ?_⟩; conv => whnf)
      | (refine And.intro rfl ?_; conv => whnf)
      | (refine And.intro (lm_vc (by decide)) ?_; conv => whnf)
      | (refine And.intro (by decide) ?_; conv => whnf)
      | (refine ⟨fun hx => absurd hx (by decide), fun _ => ?_⟩; conv => whnf)
      | (refine ⟨fun _ => ?_, fun hx => absurd hx (by decide)⟩; conv => whnf)
      | (refine And.intro (hw hx) ?_; conv => whnf)
      | (refine And.intro hw ?_; conv => whnf)
      | (refine And.intro hw2 ?_; conv => whnf)
      | (refine And.intro hw3 ?_; conv => whnf)
      | (refine And.intro hw4 ?_; conv => whnf)
      | (refine And.intro hw5 ?_; conv => whnf)
      | (refine And.intro hw6 ?_; conv => whnf)
      | (refine And.intro hw7 ?_; conv => whnf)
      | (refine And.intro (hv1 (by assumption)) ?_; conv => whnf)
      | (refine And.intro (hv2 (by assumption) (by assumption)) ?_; conv => whnf)
      | (refine And.intro (hv3 (by assumption) (by assumption)) ?_; conv => whnf)
      | (refine And.intro (lm_v511 _) ?_; conv => whnf)
      | (refine And.intro (lm_v7 _) ?_; conv => whnf)
      | (refine ⟨fun hx => ?_, fun hx => ?_⟩ <;> conv => whnf)
      | (split at h)
      | contradiction
      | exact h
def kd_300 (x : Int32) : Prop := ∃ t : Nat, t ≤ 300 ∧ x = nI t
theorem kd_m9 {x : Int32} (h : kd_300 x) : ∃ t : Nat, t ≤ 300 ∧ x = nI t ∧ x * 9 = nI (t * 9) := by
  obtain ⟨t, h1, rfl⟩ := h
  exact ⟨t, h1, rfl, pk_mul t 9⟩
def kd_keep (S : lm_S) : lm_S := va_up S 11 (va_cpy (S 6) (S 11) (0 : Int32).toNatClampNeg (S 2 3 * 9).toNatClampNeg (9 : Int32).toNatClampNeg)
def s_H_keepPresent : lm_Sp := fun av S post => av = [.ref 2, .ref 1] ∧ kd_300 (S 2 3) ∧ post none (kd_keep S)
abbrev ca_H_keepPresent : lm_Ca := []
theorem cok_H_keepPresent (l : Launch) : lm_cok l (kk_Y kk_shF) R_H 1 26 ca_H_keepPresent := kk_cok (kk_nil)
set_option maxHeartbeats 1000000 in
set_option maxRecDepth 20000 in
theorem I_H_keepPresent (l : Launch) : lm_I l (kk_Y kk_shF) y_H_keepPresent b_H_keepPresent 2 (none) 1 26 s_H_keepPresent := by
  refine lm_impl g_H_keepPresent ca_H_keepPresent (by decide +kernel) kk_okF ck_H_keepPresent (kk_fok fl_H_ok) (kk_sok sl_H_ok) (po_H _ (by decide) (by decide)) (cok_H_keepPresent l) rfl (by decide) ?_
  rintro av S post ⟨rfl, hk, h⟩
  have hw : ¬ (0 : Int32) < 0 ∧ ¬ S 2 3 * 9 < 0 ∧ ¬ (9 : Int32) < 0 ∧ (0 : Int32).toNatClampNeg + (9 : Int32).toNatClampNeg ≤ 9 ∧ (S 2 3 * 9).toNatClampNeg + (9 : Int32).toNatClampNeg ≤ 2709 := by
    obtain ⟨t, h1, h2, h3⟩ := kd_m9 hk
    rw [h3, nI_clamp (by omega)]
    exact ⟨by decide, nI_pos (by omega), by decide, by decide, by rw [show (9 : Int32).toNatClampNeg = 9 from by decide]; omega⟩
  refine ⟨Nat.le_of_ble_eq_true rfl, lm_run 60 ?_⟩
  unfold kd_keep at h
  (try (conv => whnf))
  repeat' first
    | (refine ⟨_, rfl, ?_⟩; conv => whnf)
    | (refine ⟨_, _, rfl, ?_⟩; conv => whnf)
    | (refine ⟨_, _, _, rfl, ?_⟩; conv => whnf)
    | (refine And.intro rfl ?_; conv => whnf)
    | (refine And.intro (lm_vc (by decide)) ?_; conv => whnf)
    | (refine And.intro (by decide) ?_; conv => whnf)
    | (refine ⟨fun hx => absurd hx (by decide), fun _ => ?_⟩; conv => whnf)
    | (refine ⟨fun _ => ?_, fun hx => absurd hx (by decide)⟩; conv => whnf)
    | (refine And.intro (hw hx) ?_; conv => whnf)
    | (refine And.intro hw ?_; conv => whnf)
    | (refine And.intro hw2 ?_; conv => whnf)
    | (refine And.intro hw3 ?_; conv => whnf)
    | (refine And.intro hw4 ?_; conv => whnf)
    | (refine And.intro hw5 ?_; conv => whnf)
    | (refine And.intro hw6 ?_; conv => whnf)
    | (refine And.intro hw7 ?_; conv => whnf)
    | (refine And.intro (hv1 (by assumption)) ?_; conv => whnf)
    | (refine And.intro (hv2 (by assumption) (by assumption)) ?_; conv => whnf)
    | (refine And.intro (hv3 (by assumption) (by assumption)) ?_; conv => whnf)
    | (refine And.intro (lm_v511 _) ?_; conv => whnf)
    | (refine And.intro (lm_v7 _) ?_; conv => whnf)
    | (refine ⟨fun hx => ?_, fun hx => ?_⟩ <;> conv => whnf)
    | (split at h)
    | contradiction
    | exact h
def kd_begin (S : lm_S) : lm_S := kd_keep (lm_set (lm_set S 2 3 0) 2 4 0)
def s_H_begin : lm_Sp := fun av S post => av = [.ref 2, .ref 1] ∧ post none (kd_begin S)
abbrev ca_H_begin : lm_Ca := [(28, 1, (some 2), s_H_keepPresent)]
theorem cok_H_begin (l : Launch) : lm_cok l (kk_Y kk_shF) R_H 2 47 ca_H_begin := kk_cok (kk_cons ⟨y_H_keepPresent, b_H_keepPresent, 2, none, 1, 26, I_H_keepPresent l, ⟨by decide, by decide⟩, yw_H_keepPresent, li_H_28⟩ <| kk_nil)
set_option maxHeartbeats 1000000 in
set_option maxRecDepth 20000 in
theorem I_H_begin (l : Launch) : lm_I l (kk_Y kk_shF) y_H_begin b_H_begin 2 (none) 2 47 s_H_begin := by
  refine lm_impl g_H_begin ca_H_begin (by decide +kernel) kk_okF ck_H_begin (kk_fok fl_H_ok) (kk_sok sl_H_ok) (Or.inl rfl) (cok_H_begin l) rfl (by decide) ?_
  rintro av S post ⟨rfl, h⟩
  have hw : kd_300 0 := ⟨0, by omega, rfl⟩
  refine ⟨Nat.le_of_ble_eq_true rfl, lm_run 60 ?_⟩
  unfold kd_begin at h
  (try (conv => whnf))
  repeat' first
    | (refine ⟨_, rfl, ?_⟩; conv => whnf)
    | (refine ⟨_, _, rfl, ?_⟩; conv => whnf)
    | (refine ⟨_, _, _, rfl, ?_⟩; conv => whnf)
    | (refine And.intro rfl ?_; conv => whnf)
    | (refine And.intro (lm_vc (by decide)) ?_; conv => whnf)
    | (refine And.intro (by decide) ?_; conv => whnf)
    | (refine ⟨fun hx => absurd hx (by decide), fun _ => ?_⟩; conv => whnf)
    | (refine ⟨fun _ => ?_, fun hx => absurd hx (by decide)⟩; conv => whnf)
    | (refine And.intro (hw hx) ?_; conv => whnf)
    | (refine And.intro hw ?_; conv => whnf)
    | (refine And.intro hw2 ?_; conv => whnf)
    | (refine And.intro hw3 ?_; conv => whnf)
    | (refine And.intro hw4 ?_; conv => whnf)
    | (refine And.intro hw5 ?_; conv => whnf)
    | (refine And.intro hw6 ?_; conv => whnf)
    | (refine And.intro hw7 ?_; conv => whnf)
    | (refine And.intro (hv1 (by assumption)) ?_; conv => whnf)
    | (refine And.intro (hv2 (by assumption) (by assumption)) ?_; conv => whnf)
    | (refine And.intro (hv3 (by assumption) (by assumption)) ?_; conv => whnf)
    | (refine And.intro (lm_v511 _) ?_; conv => whnf)
    | (refine And.intro (lm_v7 _) ?_; conv => whnf)
    | (refine ⟨fun hx => ?_, fun hx => ?_⟩ <;> conv => whnf)
    | (split at h)
    | contradiction
    | exact h
def kd_app4 (n : Int32) (S : lm_S) : lm_S := lm_set (lm_set (lm_set (lm_set S 12 (n * 2 + 0).toNatClampNeg (S 9 0)) 13 (n * 2 + 0).toNatClampNeg (S 10 0)) 12 (n * 2 + (0 + 1)).toNatClampNeg (S 9 1)) 13 (n * 2 + (0 + 1)).toNatClampNeg (S 10 1)
def kd_app (S : lm_S) : lm_S := kd_keep (lm_set (lm_set (kd_app4 (S 2 4) S) 2 4 (S 2 4 + 1)) 2 3 (S 2 4 + 1))
def s_H_append : lm_Sp := fun av S post => av = [.ref 2, .ref 1] ∧ (∃ t : Nat, t < 300 ∧ S 2 4 = nI t) ∧ post none (kd_app S)
abbrev ca_H_append : lm_Ca := [(28, 1, (some 2), s_H_keepPresent)]
theorem cok_H_append (l : Launch) : lm_cok l (kk_Y kk_shF) R_H 2 47 ca_H_append := kk_cok (kk_cons ⟨y_H_keepPresent, b_H_keepPresent, 2, none, 1, 26, I_H_keepPresent l, ⟨by decide, by decide⟩, yw_H_keepPresent, li_H_28⟩ <| kk_nil)
set_option maxHeartbeats 1000000 in
set_option maxRecDepth 20000 in
theorem I_H_append (l : Launch) : lm_I l (kk_Y kk_shF) y_H_append b_H_append 3 (none) 2 47 s_H_append := by
  refine lm_impl g_H_append ca_H_append (by decide +kernel) kk_okF ck_H_append (kk_fok fl_H_ok) (kk_sok sl_H_ok) (Or.inl rfl) (cok_H_append l) rfl (by decide) ?_
  rintro av S post ⟨rfl, ⟨t, ht, he⟩, h⟩
  have hx : S 2 4 < 300 := by rw [he]; exact nI_lt ht (by decide)
  have hw : vp_in (S 2 4 * 2 + 0) 600 := by
    rw [he, show nI t * 2 + 0 = nI (t * 2 + 0) from by rw [← nI_add]; rw [← pk_mul]; rfl]
    exact vp_in_nI (by omega) (by decide)
  have hw2 : vp_in (S 2 4 * 2 + (0 + 1)) 600 := by
    rw [he, show nI t * 2 + (0 + 1) = nI (t * 2 + 1) from by rw [← nI_add]; rw [← pk_mul]; rfl]
    exact vp_in_nI (by omega) (by decide)
  have hw3 : kd_300 (S 2 4 + 1) := ⟨t + 1, by omega, by rw [he, nI_1]⟩
  refine ⟨Nat.le_of_ble_eq_true rfl, lm_run 90 ?_⟩
  unfold kd_app kd_app4 at h
  (try (conv => whnf))
  refine ⟨fun _ => ?_, fun hy => absurd hx hy⟩
  (try (conv => whnf))
  repeat' first
    | (refine ⟨_, rfl, ?_⟩; conv => whnf)
    | (refine ⟨_, _, rfl, ?_⟩; conv => whnf)
    | (refine ⟨_, _, _, rfl, ?_⟩; conv => whnf)
    | (refine And.intro rfl ?_; conv => whnf)
    | (refine And.intro (lm_vc (by decide)) ?_; conv => whnf)
    | (refine And.intro (by decide) ?_; conv => whnf)
    | (refine ⟨fun hx => absurd hx (by decide), fun _ => ?_⟩; conv => whnf)
    | (refine ⟨fun _ => ?_, fun hx => absurd hx (by decide)⟩; conv => whnf)
    | (refine And.intro (hw hx) ?_; conv => whnf)
    | (refine And.intro hw ?_; conv => whnf)
    | (refine And.intro hw2 ?_; conv => whnf)
    | (refine And.intro hw3 ?_; conv => whnf)
    | (refine And.intro hw4 ?_; conv => whnf)
    | (refine And.intro hw5 ?_; conv => whnf)
    | (refine And.intro hw6 ?_; conv => whnf)
    | (refine And.intro hw7 ?_; conv => whnf)
    | (refine And.intro (hv1 (by assumption)) ?_; conv => whnf)
    | (refine And.intro (hv2 (by assumption) (by assumption)) ?_; conv => whnf)
    | (refine And.intro (hv3 (by assumption) (by assumption)) ?_; conv => whnf)
    | (refine And.intro (lm_v511 _) ?_; conv => whnf)
    | (refine And.intro (lm_v7 _) ?_; conv => whnf)
    | (refine ⟨fun hx => ?_, fun hx => ?_⟩ <;> conv => whnf)
    | (split at h)
    | contradiction
    | exact h
def kd_ctr (t : Int32) (S : lm_S) : Int32 := if t < 0 then -1 else if t ≤ S 2 4 then S 11 (t * 9 + 5).toNatClampNeg else -1
def s_H_counterAt : lm_Sp := fun av S post => ∃ t, av = [.ref 2, .int t] ∧ (¬ t < 0 → t ≤ S 2 4 → vp_in (t * 9 + 5) 2709) ∧ post (some (.int (kd_ctr t S))) S
abbrev ca_H_counterAt : lm_Ca := []
theorem cok_H_counterAt (l : Launch) : lm_cok l (kk_Y kk_shF) R_H 0 0 ca_H_counterAt := kk_cok (kk_nil)
set_option maxHeartbeats 1000000 in
set_option maxRecDepth 20000 in
theorem I_H_counterAt (l : Launch) : lm_I l (kk_Y kk_shF) y_H_counterAt b_H_counterAt 2 (some .int) 0 0 s_H_counterAt := by
  refine lm_impl g_H_counterAt ca_H_counterAt (by decide +kernel) kk_okF ck_H_counterAt (kk_fok fl_H_ok) (kk_sok sl_H_ok) (Or.inl rfl) (cok_H_counterAt l) rfl (by decide) ?_
  rintro av S post ⟨t, rfl, hv2, h⟩
  refine ⟨Nat.le_of_ble_eq_true rfl, lm_run 60 ?_⟩
  unfold kd_ctr at h
  (try (conv => whnf))
  repeat' first
    | (refine ⟨_, rfl, ?_⟩; conv => whnf)
    | (refine ⟨_, _, rfl, ?_⟩; conv => whnf)
    | (refine ⟨_, _, _, rfl, ?_⟩; conv => whnf)
    | (refine And.intro rfl ?_; conv => whnf)
    | (refine And.intro (lm_vc (by decide)) ?_; conv => whnf)
    | (refine And.intro (by decide) ?_; conv => whnf)
    | (refine ⟨fun hx => absurd hx (by decide), fun _ => ?_⟩; conv => whnf)
    | (refine ⟨fun _ => ?_, fun hx => absurd hx (by decide)⟩; conv => whnf)
    | (refine And.intro (hw hx) ?_; conv => whnf)
    | (refine And.intro hw ?_; conv => whnf)
    | (refine And.intro hw2 ?_; conv => whnf)
    | (refine And.intro hw3 ?_; conv => whnf)
    | (refine And.intro hw4 ?_; conv => whnf)
    | (refine And.intro hw5 ?_; conv => whnf)
    | (refine And.intro hw6 ?_; conv => whnf)
    | (refine And.intro hw7 ?_; conv => whnf)
    | (refine And.intro (hv1 (by assumption)) ?_; conv => whnf)
    | (refine And.intro (hv2 (by assumption) (by assumption)) ?_; conv => whnf)
    | (refine And.intro (hv3 (by assumption) (by assumption)) ?_; conv => whnf)
    | (refine And.intro (lm_v511 _) ?_; conv => whnf)
    | (refine And.intro (lm_v7 _) ?_; conv => whnf)
    | (refine ⟨fun hx => ?_, fun hx => ?_⟩ <;> conv => whnf)
    | (split at h)
    | contradiction
    | exact h
def kd_pw2 (t k : Int32) (S : lm_S) : Int32 := if t < 0 then -1 else if t < S 2 4 then S 12 (t * 2 + k).toNatClampNeg else -1
def s_H_placeWritten : lm_Sp := fun av S post => ∃ t k, av = [.ref 2, .int t, .int k] ∧ (¬ t < 0 → t < S 2 4 → vp_in (t * 2 + k) 600) ∧ post (some (.int (kd_pw2 t k S))) S
abbrev ca_H_placeWritten : lm_Ca := []
theorem cok_H_placeWritten (l : Launch) : lm_cok l (kk_Y kk_shF) R_H 0 0 ca_H_placeWritten := kk_cok (kk_nil)
set_option maxHeartbeats 1000000 in
set_option maxRecDepth 20000 in
theorem I_H_placeWritten (l : Launch) : lm_I l (kk_Y kk_shF) y_H_placeWritten b_H_placeWritten 3 (some .int) 0 0 s_H_placeWritten := by
  refine lm_impl g_H_placeWritten ca_H_placeWritten (by decide +kernel) kk_okF ck_H_placeWritten (kk_fok fl_H_ok) (kk_sok sl_H_ok) (Or.inl rfl) (cok_H_placeWritten l) rfl (by decide) ?_
  rintro av S post ⟨t, k, rfl, hv2, h⟩
  refine ⟨Nat.le_of_ble_eq_true rfl, lm_run 60 ?_⟩
  unfold kd_pw2 at h
  (try (conv => whnf))
  repeat' first
    | (refine ⟨_, rfl, ?_⟩; conv => whnf)
    | (refine ⟨_, _, rfl, ?_⟩; conv => whnf)
    | (refine ⟨_, _, _, rfl, ?_⟩; conv => whnf)
    | (refine And.intro rfl ?_; conv => whnf)
    | (refine And.intro (lm_vc (by decide)) ?_; conv => whnf)
    | (refine And.intro (by decide) ?_; conv => whnf)
    | (refine ⟨fun hx => absurd hx (by decide), fun _ => ?_⟩; conv => whnf)
    | (refine ⟨fun _ => ?_, fun hx => absurd hx (by decide)⟩; conv => whnf)
    | (refine And.intro (hw hx) ?_; conv => whnf)
    | (refine And.intro hw ?_; conv => whnf)
    | (refine And.intro hw2 ?_; conv => whnf)
    | (refine And.intro hw3 ?_; conv => whnf)
    | (refine And.intro hw4 ?_; conv => whnf)
    | (refine And.intro hw5 ?_; conv => whnf)
    | (refine And.intro hw6 ?_; conv => whnf)
    | (refine And.intro hw7 ?_; conv => whnf)
    | (refine And.intro (hv1 (by assumption)) ?_; conv => whnf)
    | (refine And.intro (hv2 (by assumption) (by assumption)) ?_; conv => whnf)
    | (refine And.intro (hv3 (by assumption) (by assumption)) ?_; conv => whnf)
    | (refine And.intro (lm_v511 _) ?_; conv => whnf)
    | (refine And.intro (lm_v7 _) ?_; conv => whnf)
    | (refine ⟨fun hx => ?_, fun hx => ?_⟩ <;> conv => whnf)
    | (split at h)
    | contradiction
    | exact h
def kd_lpw (t : Int32) (S : lm_S) : Int32 := if kd_pw2 t 1 S = -1 then kd_pw2 t 0 S else kd_pw2 t 1 S
def s_H_lastPlaceWritten : lm_Sp := fun av S post => ∃ t, av = [.ref 2, .int t] ∧ (¬ t < 0 → t < S 2 4 → vp_in (t * 2 + 1) 600) ∧ (¬ t < 0 → t < S 2 4 → vp_in (t * 2 + 0) 600) ∧ post (some (.int (kd_lpw t S))) S
abbrev ca_H_lastPlaceWritten : lm_Ca := [(54, 2, (some 2), s_H_placeWritten)]
theorem cok_H_lastPlaceWritten (l : Launch) : lm_cok l (kk_Y kk_shF) R_H 1 22 ca_H_lastPlaceWritten := kk_cok (kk_cons ⟨y_H_placeWritten, b_H_placeWritten, 3, some .int, 0, 0, I_H_placeWritten l, ⟨by decide, by decide⟩, yw_H_placeWritten, li_H_54⟩ <| kk_nil)
set_option maxHeartbeats 1000000 in
set_option maxRecDepth 20000 in
theorem I_H_lastPlaceWritten (l : Launch) : lm_I l (kk_Y kk_shF) y_H_lastPlaceWritten b_H_lastPlaceWritten 3 (some .int) 1 22 s_H_lastPlaceWritten := by
  refine lm_impl g_H_lastPlaceWritten ca_H_lastPlaceWritten (by decide +kernel) kk_okF ck_H_lastPlaceWritten (kk_fok fl_H_ok) (kk_sok sl_H_ok) (Or.inl rfl) (cok_H_lastPlaceWritten l) rfl (by decide) ?_
  rintro av S post ⟨t, rfl, hw, hw2, h⟩
  refine ⟨Nat.le_of_ble_eq_true rfl, lm_run 60 ?_⟩
  unfold kd_lpw at h
  (try (conv => whnf))
  repeat' first
    | (refine ⟨_, rfl, ?_⟩; conv => whnf)
    | (refine ⟨_, _, rfl, ?_⟩; conv => whnf)
    | (refine ⟨_, _, _, rfl, ?_⟩; conv => whnf)
    | (refine And.intro rfl ?_; conv => whnf)
    | (refine And.intro (lm_vc (by decide)) ?_; conv => whnf)
    | (refine And.intro (by decide) ?_; conv => whnf)
    | (refine ⟨fun hx => absurd hx (by decide), fun _ => ?_⟩; conv => whnf)
    | (refine ⟨fun _ => ?_, fun hx => absurd hx (by decide)⟩; conv => whnf)
    | (refine And.intro (hw hx) ?_; conv => whnf)
    | (refine And.intro hw ?_; conv => whnf)
    | (refine And.intro hw2 ?_; conv => whnf)
    | (refine And.intro hw3 ?_; conv => whnf)
    | (refine And.intro hw4 ?_; conv => whnf)
    | (refine And.intro hw5 ?_; conv => whnf)
    | (refine And.intro hw6 ?_; conv => whnf)
    | (refine And.intro hw7 ?_; conv => whnf)
    | (refine And.intro (hv1 (by assumption)) ?_; conv => whnf)
    | (refine And.intro (hv2 (by assumption) (by assumption)) ?_; conv => whnf)
    | (refine And.intro (hv3 (by assumption) (by assumption)) ?_; conv => whnf)
    | (refine And.intro (lm_v511 _) ?_; conv => whnf)
    | (refine And.intro (lm_v7 _) ?_; conv => whnf)
    | (refine ⟨fun hx => ?_, fun hx => ?_⟩ <;> conv => whnf)
    | (split at h)
    | contradiction
    | exact h
def kd_swp (k p : Int32) (S : lm_S) : lm_S := if kd_isA p = 0 then S else lm_set (lm_set S 13 k.toNatClampNeg (S 5 p.toNatClampNeg)) 5 p.toNatClampNeg (S 13 k.toNatClampNeg)
def kd_swap (k : Int32) (S : lm_S) : lm_S := kd_swp k (S 12 k.toNatClampNeg) S
def s_H_swapByte : lm_Sp := fun av S post => ∃ k, av = [.ref 2, .int k, .ref 5] ∧ vp_in k 600 ∧ post none (kd_swap k S)
abbrev ca_H_swapByte : lm_Ca := [(58, 1, none, s_D_isAddress)]
theorem cok_H_swapByte (l : Launch) : lm_cok l (kk_Y kk_shF) R_H 1 20 ca_H_swapByte := kk_cok (kk_cons ⟨y_D_isAddress, b_D_isAddress, 1, some .boolean, 0, 0, I_D_isAddress l, ⟨by decide, by decide⟩, yw_D_isAddress, li_H_58⟩ <| kk_nil)
set_option maxHeartbeats 1000000 in
set_option maxRecDepth 20000 in
theorem I_H_swapByte (l : Launch) : lm_I l (kk_Y kk_shF) y_H_swapByte b_H_swapByte 5 (none) 1 20 s_H_swapByte := by
  refine lm_impl g_H_swapByte ca_H_swapByte (by decide +kernel) kk_okF ck_H_swapByte (kk_fok fl_H_ok) (kk_sok sl_H_ok) (Or.inl rfl) (cok_H_swapByte l) rfl (by decide) ?_
  rintro av S post ⟨k, rfl, hw, h⟩
  have hv1 : ¬ kd_isA (S 12 k.toNatClampNeg) = 0 → vp_in (S 12 k.toNatClampNeg) 512 := kd_isA_in
  refine ⟨Nat.le_of_ble_eq_true rfl, lm_run 60 ?_⟩
  unfold kd_swap kd_swp at h
  (try (conv => whnf))
  repeat' first
    | (refine ⟨_, rfl, ?_⟩; conv => whnf)
    | (refine ⟨_, _, rfl, ?_⟩; conv => whnf)
    | (refine ⟨_, _, _, rfl, ?_⟩; conv => whnf)
    | (refine And.intro rfl ?_; conv => whnf)
    | (refine And.intro (lm_vc (by decide)) ?_; conv => whnf)
    | (refine And.intro (by decide) ?_; conv => whnf)
    | (refine ⟨fun hx => absurd hx (by decide), fun _ => ?_⟩; conv => whnf)
    | (refine ⟨fun _ => ?_, fun hx => absurd hx (by decide)⟩; conv => whnf)
    | (refine And.intro (hw hx) ?_; conv => whnf)
    | (refine And.intro hw ?_; conv => whnf)
    | (refine And.intro hw2 ?_; conv => whnf)
    | (refine And.intro hw3 ?_; conv => whnf)
    | (refine And.intro hw4 ?_; conv => whnf)
    | (refine And.intro hw5 ?_; conv => whnf)
    | (refine And.intro hw6 ?_; conv => whnf)
    | (refine And.intro hw7 ?_; conv => whnf)
    | (refine And.intro (hv1 (by assumption)) ?_; conv => whnf)
    | (refine And.intro (hv2 (by assumption) (by assumption)) ?_; conv => whnf)
    | (refine And.intro (hv3 (by assumption) (by assumption)) ?_; conv => whnf)
    | (refine And.intro (lm_v511 _) ?_; conv => whnf)
    | (refine And.intro (lm_v7 _) ?_; conv => whnf)
    | (refine ⟨fun hx => ?_, fun hx => ?_⟩ <;> conv => whnf)
    | (split at h)
    | contradiction
    | exact h
