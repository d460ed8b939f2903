/-! begin in the desk's own shape, anew in the reference's own: no static tables -/
abbrev kk_Z (sh : List lm_Sh) : lm_Y := (kk_cl, sh, [], kk_nw, kk_ws)
theorem kk_fokZ {sh : List lm_Sh} {own : String} {fl : List (Nat × Nat × Nat)} (h : ∀ q ∈ fl, kk_fr own q) : lm_fok (kk_Z sh) own fl := fun idx ci k hq => h (idx, ci, k) (kk_lk hq)
theorem kk_nosok {sh : List lm_Sh} {own : String} : lm_sok (kk_Z sh) own [] := fun idx j hq => by cases hq
theorem kk_sokZ {sh : List lm_Sh} {own : String} {sl : List (Nat × Nat)} (h : sl = []) : lm_sok (kk_Z sh) own sl := by
  subst h
  exact kk_nosok
theorem kk_okZ {sh : List lm_Sh} (h : lm_Yok (kk_Y sh)) : lm_Yok (kk_Z sh) := ⟨h.1, h.2.1, h.2.2⟩
theorem kk_okZD : lm_Yok (kk_Z kk_shD) := kk_okZ kk_okD
theorem kk_okZR : lm_Yok (kk_Z kk_shR) := kk_okZ kk_okR
def kk_crZ (l : Launch) (sh : List lm_Sh) (own : String) (fr lo : Nat) (q : Nat × Nat × Option Nat × lm_Sp) : Prop := ∃ (y : MethodName) (b : ByteArray) (mL : Nat) (rt : Option FieldType) (f1 lo1 : Nat), lm_I l (kk_Z sh) y b mL rt f1 lo1 q.2.2.2 ∧ (f1 + 1 ≤ fr ∧ 8 + (mL + 11) + lo1 ≤ lo) ∧ kk_yw y b mL rt q.2.1 q.2.2.1 ∧ kk_li own q.1 y
theorem kk_cokZ {l : Launch} {sh : List lm_Sh} {own : String} {fr lo : Nat} {cal : lm_Ca} (h : ∀ q ∈ cal, kk_crZ l sh own fr lo q) : lm_cok l (kk_Z sh) own fr lo cal := by
  intro idx n vi sp hq
  obtain ⟨y, b, mL, rt, f1, lo1, h1, h2, ⟨h3, h4, h5, h6⟩, h7⟩ := h (idx, n, vi, sp) (kk_lk hq)
  exact ⟨y, b, mL, rt, f1, lo1, h1, h2, h3, h4, h5, h7, h6⟩
theorem po_HZ (sh : List lm_Sh) {fr lo : Nat} (h1 : 1 ≤ fr) (h2 : 26 ≤ lo) : lm_pok (kk_Z sh) R_H fr lo 48 := by
  rcases po_H sh h1 h2 with h | h
  · exact Or.inl h
  · exact Or.inr h
abbrev s_H_keepPresent_0 : lm_Sp := s_H_keepPresent
abbrev ca_H_keepPresent_0 : lm_Ca := []
theorem cok_H_keepPresent_0 (l : Launch) : lm_cok l (kk_Z kk_shD) R_H 1 26 ca_H_keepPresent_0 := kk_cokZ (kk_nil)
set_option maxHeartbeats 1000000 in
set_option maxRecDepth 20000 in
theorem I_H_keepPresent_0 (l : Launch) : lm_I l (kk_Z kk_shD) y_H_keepPresent b_H_keepPresent 2 (none) 1 26 s_H_keepPresent_0 := by
  refine lm_impl g_H_keepPresent ca_H_keepPresent_0 (by decide +kernel) kk_okZD ck_H_keepPresent (kk_fokZ fl_H_ok) (kk_sokZ rfl) (po_HZ _ (by decide) (by decide)) (cok_H_keepPresent_0 l) rfl (by decide) ?_
  rintro av S post ⟨rfl, hk, h⟩
  have hw : ¬ (0 : Int32) < 0 ∧ ¬ S 2 3 * 9 < 0 ∧ ¬ (9 : Int32) < 0 ∧ (0 : Int32).toNatClampNeg + (9 : Int32).toNatClampNeg ≤ 9 ∧ (S 2 3 * 9).toNatClampNeg + (9 : Int32).toNatClampNeg ≤ 2709 := by
    obtain ⟨t, h1, h2, h3⟩ := kd_m9 hk
    rw [h3, nI_clamp (by omega)]
    exact ⟨by decide, nI_pos (by omega), by decide, by decide, by rw [show (9 : Int32).toNatClampNeg = 9 from by decide]; omega⟩
  refine ⟨Nat.le_of_ble_eq_true rfl, lm_run 60 ?_⟩
  unfold kd_keep at h
  (try (conv => whnf))
  repeat' first
    | (refine ⟨_, rfl, ?_⟩; conv => whnf)
    | (refine ⟨_, _, rfl, ?_⟩; conv => whnf)
    | (refine ⟨_, _, _, rfl, ?_⟩; conv => whnf)
    | (refine ⟨_, _, _, _, rfl, ?_⟩; conv => whnf)
    | (refine And.intro rfl ?_; conv => whnf)
    | (refine And.intro (lm_vc (by decide)) ?_; conv => whnf)
    | (refine And.intro (by decide) ?_; conv => whnf)
    | (refine ⟨fun hx => absurd hx (by decide), fun _ => ?_⟩; conv => whnf)
    | (refine ⟨fun _ => ?_, fun hx => absurd hx (by decide)⟩; conv => whnf)
    | (refine And.intro (hw hx) ?_; conv => whnf)
    | (refine And.intro hw ?_; conv => whnf)
    | (refine And.intro hw2 ?_; conv => whnf)
    | (refine And.intro hw3 ?_; conv => whnf)
    | (refine And.intro hw4 ?_; conv => whnf)
    | (refine And.intro hw5 ?_; conv => whnf)
    | (refine And.intro hw6 ?_; conv => whnf)
    | (refine And.intro hw7 ?_; conv => whnf)
    | (refine And.intro (hv1 (by assumption)) ?_; conv => whnf)
    | (refine And.intro (hv2 (by assumption) (by assumption)) ?_; conv => whnf)
    | (refine And.intro (hv3 (by assumption) (by assumption)) ?_; conv => whnf)
    | (refine And.intro (lm_v511 _) ?_; conv => whnf)
    | (refine And.intro (lm_v7 _) ?_; conv => whnf)
    | (refine ⟨fun hx => ?_, fun hx => ?_⟩ <;> conv => whnf)
    | (split at h)
    | contradiction
    | exact h
abbrev s_H_begin_0 : lm_Sp := s_H_begin
abbrev ca_H_begin_0 : lm_Ca := [(28, 1, (some 2), s_H_keepPresent_0)]
theorem cok_H_begin_0 (l : Launch) : lm_cok l (kk_Z kk_shD) R_H 2 47 ca_H_begin_0 := kk_cokZ (kk_cons ⟨y_H_keepPresent, b_H_keepPresent, 2, none, 1, 26, I_H_keepPresent_0 l, ⟨by decide, by decide⟩, yw_H_keepPresent, li_H_28⟩ <| kk_nil)
set_option maxHeartbeats 1000000 in
set_option maxRecDepth 20000 in
theorem I_H_begin_0 (l : Launch) : lm_I l (kk_Z kk_shD) y_H_begin b_H_begin 2 (none) 2 47 s_H_begin_0 := by
  refine lm_impl g_H_begin ca_H_begin_0 (by decide +kernel) kk_okZD ck_H_begin (kk_fokZ fl_H_ok) (kk_sokZ rfl) (Or.inl rfl) (cok_H_begin_0 l) rfl (by decide) ?_
  rintro av S post ⟨rfl, h⟩
  have hw : kd_300 0 := ⟨0, by omega, rfl⟩
  refine ⟨Nat.le_of_ble_eq_true rfl, lm_run 60 ?_⟩
  unfold kd_begin at h
  (try (conv => whnf))
  repeat' first
    | (refine ⟨_, rfl, ?_⟩; conv => whnf)
    | (refine ⟨_, _, rfl, ?_⟩; conv => whnf)
    | (refine ⟨_, _, _, rfl, ?_⟩; conv => whnf)
    | (refine ⟨_, _, _, _, rfl, ?_⟩; conv => whnf)
    | (refine And.intro rfl ?_; conv => whnf)
    | (refine And.intro (lm_vc (by decide)) ?_; conv => whnf)
    | (refine And.intro (by decide) ?_; conv => whnf)
    | (refine ⟨fun hx => absurd hx (by decide), fun _ => ?_⟩; conv => whnf)
    | (refine ⟨fun _ => ?_, fun hx => absurd hx (by decide)⟩; conv => whnf)
    | (refine And.intro (hw hx) ?_; conv => whnf)
    | (refine And.intro hw ?_; conv => whnf)
    | (refine And.intro hw2 ?_; conv => whnf)
    | (refine And.intro hw3 ?_; conv => whnf)
    | (refine And.intro hw4 ?_; conv => whnf)
    | (refine And.intro hw5 ?_; conv => whnf)
    | (refine And.intro hw6 ?_; conv => whnf)
    | (refine And.intro hw7 ?_; conv => whnf)
    | (refine And.intro (hv1 (by assumption)) ?_; conv => whnf)
    | (refine And.intro (hv2 (by assumption) (by assumption)) ?_; conv => whnf)
    | (refine And.intro (hv3 (by assumption) (by assumption)) ?_; conv => whnf)
    | (refine And.intro (lm_v511 _) ?_; conv => whnf)
    | (refine And.intro (lm_v7 _) ?_; conv => whnf)
    | (refine ⟨fun hx => ?_, fun hx => ?_⟩ <;> conv => whnf)
    | (split at h)
    | contradiction
    | exact h
def km_an0 (S : lm_S) : lm_S := lm_set (lm_set (va_up S 1 (S 2)) 0 2 0) 0 3 0
theorem lm_eq_upR (S : lm_S) (i n : Nat) {ty : FieldType} (hs : kk_shR[i]? = some (.inl (ty, n))) {f g : Nat → Int32} (h : ∀ k, k < n → f k = g k) : lm_eq (kk_Z kk_shR) (va_up S i f) (va_up S i g) := by
  refine ⟨fun j ty2 n2 hj k hk => ?_, fun j ci gl hj k hk => ?_⟩
  · by_cases e : j = i
    · subst e
      have hj2 : kk_shR[j]? = some (.inl (ty2, n2)) := hj
      rw [hs] at hj2
      cases hj2
      rw [va_up_self, va_up_self]
      exact h k hk
    · rw [va_up_ne _ _ e, va_up_ne _ _ e]
  · have e : j ≠ i := fun q => by
      subst q
      have hj2 : kk_shR[j]? = some (.inr (ci, gl)) := hj
      rw [hs] at hj2
      cases hj2
    rw [va_up_ne _ _ e, va_up_ne _ _ e]
theorem an_loop0 {post : Option Value → lm_S → Prop} (S : lm_S) (h : post none (km_an0 S)) : ∀ (m i : Nat), i + m = 569 → lm_Go (kk_Z kk_shR) g_R_anew [] post 2 [(0, .ref 0), (1, .int (nI i))] [] (va_up S 1 (kk_cp i (S 2) (S 1)))
  | 0, i, hi => by
    have e : i = 569 := by omega
    subst e
    refine lm_Go.to (L1 := [(0, .ref 0), (1, .int (nI 569))]) ?_ (kk_cons rfl (kk_cons rfl kk_nil)) (lm_eq_upR S 1 569 (ty := .int) rfl (f := S 2) (fun k hk => by simp [kk_cp, hk]))
    refine lm_run 30 ?_
    conv => whnf
    refine ⟨fun _ => ?_, fun hy => absurd (show (569 : Int32) ≤ nI 569 by decide) hy⟩
    exact h
  | m + 1, i, hi => by
    refine lm_to 2 30 ?_
    conv => whnf
    refine ⟨fun hy => absurd hy (nI_ge (b := 569) (show i < 569 by omega) (by omega)), fun _ => ?_⟩
    conv => whnf
    refine ⟨vp_in_nI (by omega) (by decide), ?_⟩
    conv => whnf
    refine ⟨vp_in_nI (by omega) (by decide), ?_⟩
    have e1 : lm_set (va_up S 1 (kk_cp i (S 2) (S 1))) 1 (nI i).toNatClampNeg ((va_up S 1 (kk_cp i (S 2) (S 1))) 2 (nI i).toNatClampNeg) = va_up S 1 (kk_cp (i + 1) (S 2) (S 1)) := by
      rw [nI_clamp (by omega), va_up_ne _ _ (by omega), lm_set_up, kk_cp_s]
    show lm_Go (kk_Z kk_shR) g_R_anew [] post 2 _ [] (lm_set (va_up S 1 (kk_cp i (S 2) (S 1))) 1 (nI i).toNatClampNeg ((va_up S 1 (kk_cp i (S 2) (S 1))) 2 (nI i).toNatClampNeg))
    rw [e1]
    refine lm_Go.sub (an_loop0 S h m (i + 1) (by omega)) (kk_cons rfl (kk_cons ?_ kk_nil))
    show some (Value.int (nI i + 1)) = some (Value.int (nI (i + 1)))
    rw [nI_1]
def s_R_anew_0 : lm_Sp := fun av S post => av = [.ref 0] ∧ post none (km_an0 S)
abbrev ca_R_anew_0 : lm_Ca := []
theorem cok_R_anew_0 (l : Launch) : lm_cok l (kk_Z kk_shR) R_R 0 0 ca_R_anew_0 := kk_cokZ (kk_nil)
set_option maxHeartbeats 1000000 in
set_option maxRecDepth 20000 in
theorem I_R_anew_0 (l : Launch) : lm_I l (kk_Z kk_shR) y_R_anew b_R_anew 2 (none) 0 0 s_R_anew_0 := by
  refine lm_impl g_R_anew ca_R_anew_0 (by decide +kernel) kk_okZR ck_R_anew (kk_fokZ fl_R_ok) (kk_sokZ rfl) (Or.inl rfl) (cok_R_anew_0 l) rfl (by decide) ?_
  rintro av S post ⟨rfl, h⟩
  refine ⟨Nat.le_of_ble_eq_true rfl, lm_to 2 20 ?_⟩
  have h0 := an_loop0 S h 569 0 (by omega)
  rw [kk_cp_0, va_up_id] at h0
  exact lm_Go.sub h0 (kk_cons rfl (kk_cons rfl kk_nil))
