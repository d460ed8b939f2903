/-! the reference: step, anew, come, has, turn -/
theorem km_place_in (md x i w : Int32) (S : lm_S) (hi : vp_in i 256) : vp_in (km_place md (x &&& 511) i w S) 569 := by
  unfold km_place
  repeat' split
  · exact km_v511 _
  · exact vp_in_up hi (by omega)
  · exact km_v255 _
  · exact km_v511 _
  · exact km_v511 _
  · exact km_v511 _
  · exact km_v511 _
def km_jmp (op p : Int32) (S : lm_S) : lm_S := if op = 22 then lm_set (km_push ((km_push (S 18 517 / 256) S) 18 517 &&& 255) (km_push (S 18 517 / 256) S)) 18 517 p else lm_set S 18 517 p
def km_disp (w : Nat) (op md be i wd : Int32) (S : lm_S) : lm_S := if 20 < op then (if 22 < op then (if op = 23 then km_stack w md S else if op = 24 then km_move md S else if op = 25 then km_small md S else if op = 26 then km_branch md i S else S) else if md ≤ 0 then S else if 7 ≤ md then S else km_jmp op (km_place md be i wd S) S) else if md = 7 then km_work op 512 S else km_work op (km_place md be i wd S) S
abbrev ca_rs : lm_Ca := [(50, 2, none, s_R_length), (54, 4, (some 4), s_R_place), (58, 2, (some 4), s_R_work), (61, 1, (some 4), s_R_push), (65, 1, (some 4), s_R_stack), (68, 1, (some 4), s_R_transfer), (71, 1, (some 4), s_R_small), (74, 2, (some 4), s_R_branch)]
set_option maxHeartbeats 1000000 in
set_option maxRecDepth 20000 in
theorem rs_disp {post : Option Value → lm_S → Prop} (w : Nat) (at_ op md be i wd : Int32) (S : lm_S) (hw40 : w ≤ 40) (hS : S 18 519 = nI w) (hsp : vp_in (256 + S 18 515) 569) (hi : vp_in i 569) (hp : vp_in (km_place md be i wd S) 569) (h : post none (km_disp w op md be i wd S)) : lm_Go YF g_R_step ca_rs post 96 [(0, .ref 16), (1, .int at_), (2, .int op), (3, .int md), (4, .int be), (5, .int i), (6, .int wd)] [] S := by
  refine lm_run 60 ?_
  unfold km_disp at h
  conv => whnf
  refine ⟨fun (h1 : 20 < op) => ?_, fun (h1 : ¬ 20 < op) => ?_⟩
  · rw [if_pos h1] at h
    conv => whnf
    refine ⟨fun (h2 : 22 < op) => ?_, fun (h2 : ¬ 22 < op) => ?_⟩
    · rw [if_pos h2] at h
      conv => whnf
      refine ⟨fun (h3 : ¬ op = 23) => ?_, fun (h3 : op = 23) => ?_⟩
      · rw [if_neg h3] at h
        conv => whnf
        refine ⟨fun (h4 : ¬ op = 24) => ?_, fun (h4 : op = 24) => ?_⟩
        · rw [if_neg h4] at h
          conv => whnf
          refine ⟨fun (h5 : ¬ op = 25) => ?_, fun (h5 : op = 25) => ?_⟩
          · rw [if_neg h5] at h
            conv => whnf
            refine ⟨fun (h6 : ¬ op = 26) => ?_, fun (h6 : op = 26) => ?_⟩
            · rw [if_neg h6] at h
              exact h
            · rw [if_pos h6] at h
              conv => whnf
              refine ⟨_, _, rfl, ?_⟩
              exact h
          · rw [if_pos h5] at h
            conv => whnf
            refine ⟨_, rfl, ?_⟩
            exact h
        · rw [if_pos h4] at h
          conv => whnf
          refine ⟨_, rfl, ?_⟩
          exact h
      · rw [if_pos h3] at h
        conv => whnf
        refine ⟨_, w, rfl, hw40, hS, hsp, ?_⟩
        exact h
    · rw [if_neg h2] at h
      conv => whnf
      refine ⟨fun (h3 : md ≤ 0) => ?_, fun (h3 : ¬ md ≤ 0) => ?_⟩
      · rw [if_pos h3] at h
        exact h
      · rw [if_neg h3] at h
        conv => whnf
        refine ⟨fun (h4 : 7 ≤ md) => ?_, fun (h4 : ¬ 7 ≤ md) => ?_⟩
        · rw [if_pos h4] at h
          exact h
        · rw [if_neg h4] at h
          unfold km_jmp at h
          conv => whnf
          refine ⟨_, _, _, _, rfl, hi, ?_⟩
          conv => whnf
          refine ⟨fun (h5 : ¬ op = 22) => ?_, fun (h5 : op = 22) => ?_⟩
          · rw [if_neg h5] at h
            conv => whnf
            refine ⟨lm_vc (by decide), ?_⟩
            exact h
          · rw [if_pos h5] at h
            conv => whnf
            refine ⟨lm_vc (by decide), ?_⟩
            conv => whnf
            refine ⟨by decide, ?_⟩
            conv => whnf
            refine ⟨_, rfl, hsp, ?_⟩
            conv => whnf
            refine ⟨lm_vc (by decide), ?_⟩
            conv => whnf
            refine ⟨_, rfl, km_sp _, ?_⟩
            conv => whnf
            refine ⟨lm_vc (by decide), ?_⟩
            exact h
  · rw [if_neg h1] at h
    conv => whnf
    refine ⟨fun (h2 : ¬ md = 7) => ?_, fun (h2 : md = 7) => ?_⟩
    · rw [if_neg h2] at h
      conv => whnf
      refine ⟨_, _, _, _, rfl, hi, ?_⟩
      conv => whnf
      refine ⟨_, _, rfl, hp, ?_⟩
      exact h
    · rw [if_pos h2] at h
      conv => whnf
      refine ⟨_, _, rfl, lm_vc (by decide), ?_⟩
      exact h
def km_w (S : lm_S) : Nat := (S 18 519).toNatClampNeg
def km_b (S : lm_S) : Int32 := S 18 (S 18 517).toNatClampNeg
def km_i (S : lm_S) : Int32 := S 18 (S 18 517 + 1 &&& 511).toNatClampNeg
def km_wd (S : lm_S) : Int32 := km_i S + 256 * S 18 (S 18 517 + 2 &&& 511).toNatClampNeg
def km_st1 (S : lm_S) : lm_S := km_disp (km_w S) (km_b S >>> (3 &&& 31)) (km_b S &&& 7) (S 18 517 + 1 &&& 511) (km_i S) (km_wd S) (lm_set S 18 517 ((S 18 517 + km_len (km_b S >>> (3 &&& 31)) (km_b S &&& 7)) &&& 511))
def km_step (S : lm_S) : lm_S := km_st1 (lm_set (lm_set S 16 8 (-1)) 16 9 (-1))
/-- what a step of the reference needs -/
def km_ok (S : lm_S) : Prop := vp_in (S 18 517) 512 ∧ vp_in (km_i S) 256 ∧ vp_in (S 18 515) 256 ∧ ∃ w : Nat, w ≤ 40 ∧ S 18 519 = nI w
def s_R_step : lm_Sp := fun av S post => av = [.ref 16] ∧ km_ok S ∧ post none (km_step S)
theorem km_sp2 {x : Int32} (h : vp_in x 256) : vp_in (256 + x) 569 := by
  obtain ⟨j, hj, rfl⟩ := vp_in_of h (by decide)
  rw [show (256 : Int32) = nI 256 from rfl, nI_add]
  exact vp_in_nI (by omega) (by decide)
abbrev ca_R_step : lm_Ca := [(50, 2, none, s_R_length), (54, 4, (some 4), s_R_place), (58, 2, (some 4), s_R_work), (61, 1, (some 4), s_R_push), (65, 1, (some 4), s_R_stack), (68, 1, (some 4), s_R_transfer), (71, 1, (some 4), s_R_small), (74, 2, (some 4), s_R_branch)]
theorem cok_R_step (l : Launch) : lm_cok l (kk_Y kk_shF) R_R 4 90 ca_R_step := kk_cok (kk_cons ⟨y_R_length, b_R_length, 2, some .int, 0, 0, I_R_length l, ⟨by decide, by decide⟩, yw_R_length, li_R_50⟩ <| kk_cons ⟨y_R_place, b_R_place, 5, some .int, 0, 0, I_R_place l, ⟨by decide, by decide⟩, yw_R_place, li_R_54⟩ <| kk_cons ⟨y_R_work, b_R_work, 5, none, 3, 66, I_R_work l, ⟨by decide, by decide⟩, yw_R_work, li_R_58⟩ <| kk_cons ⟨y_R_push, b_R_push, 2, none, 1, 22, I_R_push l, ⟨by decide, by decide⟩, yw_R_push, li_R_61⟩ <| kk_cons ⟨y_R_stack, b_R_stack, 6, none, 2, 43, I_R_stack l, ⟨by decide, by decide⟩, yw_R_stack, li_R_65⟩ <| kk_cons ⟨y_R_transfer, b_R_transfer, 2, none, 2, 43, I_R_transfer l, ⟨by decide, by decide⟩, yw_R_transfer, li_R_68⟩ <| kk_cons ⟨y_R_small, b_R_small, 2, none, 2, 43, I_R_small l, ⟨by decide, by decide⟩, yw_R_small, li_R_71⟩ <| kk_cons ⟨y_R_branch, b_R_branch, 5, none, 0, 0, I_R_branch l, ⟨by decide, by decide⟩, yw_R_branch, li_R_74⟩ <| kk_nil)
set_option maxHeartbeats 1000000 in
set_option maxRecDepth 20000 in
theorem I_R_step (l : Launch) : lm_I l (kk_Y kk_shF) y_R_step b_R_step 8 (none) 4 90 s_R_step := by
  refine lm_impl g_R_step ca_R_step (by decide +kernel) kk_okF ck_R_step (kk_fok fl_R_ok) (kk_sok sl_R_ok) (Or.inl rfl) (cok_R_step l) rfl (by decide) ?_
  rintro av S post ⟨rfl, ⟨h1, h2, h3, w, h4, h5⟩, h⟩
  refine ⟨Nat.le_of_ble_eq_true rfl, lm_to 96 60 ?_⟩
  have hw : km_w (lm_set (lm_set S 16 8 (-1)) 16 9 (-1)) = w := by
    show (S 18 519).toNatClampNeg = w
    rw [h5, nI_clamp (by omega)]
  unfold km_step km_st1 at h
  rw [hw] at h
  have f1 : vp_in ((lm_set (lm_set S 16 8 (-1)) 16 9 (-1)) 18 517) 512 := h1
  have f2 : vp_in (km_i (lm_set (lm_set S 16 8 (-1)) 16 9 (-1))) 256 := h2
  have f3 : vp_in ((lm_set (lm_set S 16 8 (-1)) 16 9 (-1)) 18 515) 256 := h3
  have f5 : (lm_set (lm_set S 16 8 (-1)) 16 9 (-1)) 18 519 = nI w := h5
  conv => whnf
  refine ⟨lm_vc (by decide), ?_⟩
  generalize lm_set (lm_set S 16 8 (-1)) 16 9 (-1) = S0 at *
  conv => whnf
  refine ⟨vp_in_up f1 (by omega), ?_⟩
  conv => whnf
  refine ⟨vp_in_up f1 (by omega), ?_⟩
  conv => whnf
  refine ⟨km_v511 _, ?_⟩
  conv => whnf
  refine ⟨km_v511 _, ?_⟩
  conv => whnf
  refine ⟨_, _, rfl, ?_⟩
  conv => whnf
  refine ⟨lm_vc (by decide), ?_⟩
  exact lm_Go.sub (rs_disp w (S0 18 517) _ _ _ _ _ _ h4 f5 (km_sp2 f3) (vp_in_up f2 (by omega)) (km_place_in _ _ _ _ _ f2) h) (kk_cons rfl (kk_cons rfl (kk_cons rfl (kk_cons rfl (kk_cons rfl (kk_cons rfl (kk_cons rfl kk_nil)))))))
/-! copies -/
theorem lm_eq_up {sh : List lm_Sh} (S : lm_S) (j n : Nat) {ty : FieldType} (hj : sh[j]? = some (.inl (ty, n))) {f g : Nat → Int32} (h : ∀ k, k < n → f k = g k) : lm_eq (kk_Y sh) (va_up S j f) (va_up S j g) := by
  refine ⟨fun i ty2 n2 hi k hk => ?_, fun i ci gl hi k hk => ?_⟩
  · by_cases e : i = j
    · subst e
      have e2 : (Sum.inl (ty, n) : lm_Sh) = .inl (ty2, n2) := Option.some.inj (hj.symm.trans hi)
      cases e2
      rw [va_up_self, va_up_self]
      exact h k hk
    · rw [va_up_ne _ _ e, va_up_ne _ _ e]
  · by_cases e : i = j
    · subst e
      have e2 : (Sum.inl (ty, n) : lm_Sh) = .inr (ci, gl) := Option.some.inj (hj.symm.trans hi)
      cases e2
    · rw [va_up_ne _ _ e, va_up_ne _ _ e]
def kk_cp (i : Nat) (f g : Nat → Int32) : Nat → Int32 := fun k => if k < i then f k else g k
theorem kk_cp_s (i : Nat) (f g : Nat → Int32) : upd (kk_cp i f g) i (f i) = kk_cp (i + 1) f g := by
  funext k
  simp only [upd, kk_cp]
  by_cases h : k = i
  · subst h; simp
  · rw [if_neg h]
    by_cases h2 : k < i
    · rw [if_pos h2, if_pos (by omega)]
    · rw [if_neg h2, if_neg (by omega)]
theorem kk_cp_0 (f g : Nat → Int32) : kk_cp 0 f g = g := by funext k; simp [kk_cp]
theorem lm_set_up (S : lm_S) (j k : Nat) (f : Nat → Int32) (x : Int32) : lm_set (va_up S j f) j k x = va_up S j (upd f k x) := by
  funext i
  simp only [lm_set, va_up]
  by_cases h : i = j
  · simp [h]
  · simp [h]
theorem va_up_id (S : lm_S) (j : Nat) : va_up S j (S j) = S := by
  funext i
  simp only [va_up]
  by_cases h : i = j
  · simp [h]
  · simp [h]
def km_an (S : lm_S) : lm_S := lm_set (lm_set (va_up S 17 (S 18)) 16 2 0) 16 3 0
theorem an_loop {post : Option Value → lm_S → Prop} (S : lm_S) (h : post none (km_an S)) : ∀ (m i : Nat), i + m = 569 → lm_Go YF g_R_anew [] post 2 [(0, .ref 16), (1, .int (nI i))] [] (va_up S 17 (kk_cp i (S 18) (S 17)))
  | 0, i, hi => by
    have e : i = 569 := by omega
    subst e
    refine lm_Go.to (L1 := [(0, .ref 16), (1, .int (nI 569))]) ?_ (kk_cons rfl (kk_cons rfl kk_nil)) (lm_eq_up S 17 569 (ty := .int) rfl (f := S 18) (fun k hk => by simp [kk_cp, hk]))
    refine lm_run 30 ?_
    conv => whnf
    refine ⟨fun _ => ?_, fun hy => absurd (show (569 : Int32) ≤ nI 569 by decide) hy⟩
    exact h
  | m + 1, i, hi => by
    refine lm_to 2 30 ?_
    conv => whnf
    refine ⟨fun hy => absurd hy (nI_ge (b := 569) (show i < 569 by omega) (by omega)), fun _ => ?_⟩
    conv => whnf
    refine ⟨vp_in_nI (by omega) (by decide), ?_⟩
    conv => whnf
    refine ⟨vp_in_nI (by omega) (by decide), ?_⟩
    have e1 : lm_set (va_up S 17 (kk_cp i (S 18) (S 17))) 17 (nI i).toNatClampNeg ((va_up S 17 (kk_cp i (S 18) (S 17))) 18 (nI i).toNatClampNeg) = va_up S 17 (kk_cp (i + 1) (S 18) (S 17)) := by
      rw [nI_clamp (by omega), va_up_ne _ _ (by omega), lm_set_up, kk_cp_s]
    show lm_Go YF g_R_anew [] post 2 _ [] (lm_set (va_up S 17 (kk_cp i (S 18) (S 17))) 17 (nI i).toNatClampNeg ((va_up S 17 (kk_cp i (S 18) (S 17))) 18 (nI i).toNatClampNeg))
    rw [e1]
    refine lm_Go.sub (an_loop S h m (i + 1) (by omega)) (kk_cons rfl (kk_cons ?_ kk_nil))
    show some (Value.int (nI i + 1)) = some (Value.int (nI (i + 1)))
    rw [nI_1]
def s_R_anew : lm_Sp := fun av S post => av = [.ref 16] ∧ post none (km_an S)
abbrev ca_R_anew : lm_Ca := []
theorem cok_R_anew (l : Launch) : lm_cok l (kk_Y kk_shF) R_R 0 0 ca_R_anew := kk_cok (kk_nil)
set_option maxHeartbeats 1000000 in
set_option maxRecDepth 20000 in
theorem I_R_anew (l : Launch) : lm_I l (kk_Y kk_shF) y_R_anew b_R_anew 2 (none) 0 0 s_R_anew := by
  refine lm_impl g_R_anew ca_R_anew (by decide +kernel) kk_okF ck_R_anew (kk_fok fl_R_ok) (kk_sok sl_R_ok) (Or.inl rfl) (cok_R_anew l) rfl (by decide) ?_
  rintro av S post ⟨rfl, h⟩
  refine ⟨Nat.le_of_ble_eq_true rfl, lm_to 2 20 ?_⟩
  have h0 := an_loop S h 569 0 (by omega)
  rw [kk_cp_0, va_up_id] at h0
  exact lm_Go.sub h0 (kk_cons rfl (kk_cons rfl kk_nil))
def km_it : Nat → lm_S → lm_S
  | 0, S => S
  | n + 1, S => km_it n (km_step S)
def km_J (J : lm_S → Prop) : Prop := ∀ S, J S → km_ok S ∧ J (km_step S)
abbrev ca_cm : lm_Ca := [(94, 0, (some 4), s_R_step)]
theorem cm_steps {post : Option Value → lm_S → Prop} {J : lm_S → Prop} (hJ : km_J J) (t : Nat) (ht : t ≤ 300) : ∀ (m k : Nat) (S : lm_S), k + m = t → J S → post none (lm_set (km_it m S) 16 2 (nI t)) → lm_Go YF g_R_come ca_cm post 29 [(0, .ref 16), (1, .int (nI t)), (2, .int (nI k))] [] S
  | 0, k, S, hk, hS, h => by
    refine lm_run 20 ?_
    conv => whnf
    refine ⟨fun _ => ?_, fun hy => absurd (nI_le (show t ≤ k by omega) (by omega)) hy⟩
    exact h
  | m + 1, k, S, hk, hS, h => by
    refine lm_to 29 20 ?_
    conv => whnf
    refine ⟨fun hy => absurd hy (nI_ge (show k < t by omega) (by omega)), fun _ => ?_⟩
    conv => whnf
    refine ⟨rfl, (hJ S hS).1, ?_⟩
    refine lm_Go.sub (cm_steps hJ t ht m (k + 1) (km_step S) (by omega) (hJ S hS).2 h) (kk_cons rfl (kk_cons rfl (kk_cons ?_ kk_nil)))
    show some (Value.int (nI k + 1)) = some (Value.int (nI (k + 1)))
    rw [nI_1]
def km_back (S : lm_S) : lm_S := va_up S 18 (S 17)
def km_come (t : Nat) (S : lm_S) : lm_S := lm_set (km_it t (km_back S)) 16 2 (nI t)
theorem cm_copy {post : Option Value → lm_S → Prop} {J : lm_S → Prop} (hJ : km_J J) (t : Nat) (ht : t ≤ 300) (S : lm_S) (hS : J (km_back S)) (h : post none (km_come t S)) : ∀ (m i : Nat), i + m = 569 → lm_Go YF g_R_come ca_cm post 2 [(0, .ref 16), (1, .int (nI t)), (2, .int (nI i))] [] (va_up S 18 (kk_cp i (S 17) (S 18)))
  | 0, i, hi => by
    have e : i = 569 := by omega
    subst e
    refine lm_Go.to (L1 := [(0, .ref 16), (1, .int (nI t)), (2, .int (nI 569))]) ?_ (kk_cons rfl (kk_cons rfl (kk_cons rfl kk_nil))) (lm_eq_up S 18 569 (ty := .int) rfl (f := S 17) (fun k hk => by simp [kk_cp, hk]))
    refine lm_to 29 20 ?_
    conv => whnf
    refine ⟨fun _ => ?_, fun hy => absurd (show (569 : Int32) ≤ nI 569 by decide) hy⟩
    exact lm_Go.sub (cm_steps hJ t ht t 0 (km_back S) (by omega) hS h) (kk_cons rfl (kk_cons rfl (kk_cons rfl kk_nil)))
  | m + 1, i, hi => by
    refine lm_to 2 30 ?_
    conv => whnf
    refine ⟨fun hy => absurd hy (nI_ge (b := 569) (show i < 569 by omega) (by omega)), fun _ => ?_⟩
    conv => whnf
    refine ⟨vp_in_nI (by omega) (by decide), ?_⟩
    conv => whnf
    refine ⟨vp_in_nI (by omega) (by decide), ?_⟩
    have e1 : lm_set (va_up S 18 (kk_cp i (S 17) (S 18))) 18 (nI i).toNatClampNeg ((va_up S 18 (kk_cp i (S 17) (S 18))) 17 (nI i).toNatClampNeg) = va_up S 18 (kk_cp (i + 1) (S 17) (S 18)) := by
      rw [nI_clamp (by omega), va_up_ne _ _ (by omega), lm_set_up, kk_cp_s]
    show lm_Go YF g_R_come ca_cm post 2 _ [] (lm_set (va_up S 18 (kk_cp i (S 17) (S 18))) 18 (nI i).toNatClampNeg ((va_up S 18 (kk_cp i (S 17) (S 18))) 17 (nI i).toNatClampNeg))
    rw [e1]
    refine lm_Go.sub (cm_copy hJ t ht S hS h m (i + 1) (by omega)) (kk_cons rfl (kk_cons rfl (kk_cons ?_ kk_nil)))
    show some (Value.int (nI i + 1)) = some (Value.int (nI (i + 1)))
    rw [nI_1]
def s_R_come : lm_Sp := fun av S post => ∃ (t : Nat) (J : lm_S → Prop), av = [.ref 16, .int (nI t)] ∧ t ≤ 300 ∧ km_J J ∧ J (km_back S) ∧ post none (km_come t S)
abbrev ca_R_come : lm_Ca := [(94, 0, (some 4), s_R_step)]
theorem cok_R_come (l : Launch) : lm_cok l (kk_Y kk_shF) R_R 5 117 ca_R_come := kk_cok (kk_cons ⟨y_R_step, b_R_step, 8, none, 4, 90, I_R_step l, ⟨by decide, by decide⟩, yw_R_step, li_R_94⟩ <| kk_nil)
set_option maxHeartbeats 1000000 in
set_option maxRecDepth 20000 in
theorem I_R_come (l : Launch) : lm_I l (kk_Y kk_shF) y_R_come b_R_come 3 (none) 5 117 s_R_come := by
  refine lm_impl g_R_come ca_R_come (by decide +kernel) kk_okF ck_R_come (kk_fok fl_R_ok) (kk_sok sl_R_ok) (Or.inl rfl) (cok_R_come l) rfl (by decide) ?_
  rintro av S post ⟨t, J, rfl, ht, hJ, hS, h⟩
  refine ⟨Nat.le_of_ble_eq_true rfl, lm_to 2 20 ?_⟩
  have h0 := cm_copy hJ t ht S hS h 569 0 (by omega)
  rw [kk_cp_0, va_up_id] at h0
  exact lm_Go.sub h0 (kk_cons rfl (kk_cons rfl (kk_cons rfl kk_nil)))
/-! lists -/
def km_hs (j : Nat) (a : Int32) (S : lm_S) : Nat → Nat → Int32
  | 0, _ => 0
  | n + 1, k => if S j k = a then 1 else km_hs j a S n (k + 1)
theorem hs_loop {post : Option Value → lm_S → Prop} (j : Nat) (hj : j = 19 ∨ j = 20) (c : Nat) (hc : c ≤ 4) (a : Int32) (S : lm_S) : ∀ (m k : Nat), k + m = c → post (some (.int (km_hs j a S m k))) S → lm_Go YF g_R_has [] post 2 [(0, .ref j), (1, .int (nI c)), (2, .int a), (3, .int (nI k))] [] S
  | 0, k, hk, h => by
    refine lm_run 20 ?_
    conv => whnf
    refine ⟨fun _ => ?_, fun hy => absurd (nI_le (show c ≤ k by omega) (by omega)) hy⟩
    exact ⟨by decide, h⟩
  | m + 1, k, hk, h => by
    rw [km_hs] at h
    rcases hj with rfl | rfl
    · refine lm_to 2 20 ?_
      conv => whnf
      refine ⟨fun hy => absurd hy (nI_ge (show k < c by omega) (by omega)), fun _ => ?_⟩
      conv => whnf
      refine ⟨vp_in_nI (by omega) (by decide), ?_⟩
      conv => whnf
      rw [nI_clamp (by omega)]
      refine ⟨fun (hy : ¬ S 19 k = a) => ?_, fun (hy : S 19 k = a) => ?_⟩
      · rw [if_neg hy] at h
        refine lm_Go.sub (hs_loop 19 (Or.inl rfl) c hc a S m (k + 1) (by omega) h) (kk_cons rfl (kk_cons rfl (kk_cons rfl (kk_cons ?_ kk_nil))))
        show some (Value.int (nI k + 1)) = some (Value.int (nI (k + 1)))
        rw [nI_1]
      · rw [if_pos hy] at h
        exact ⟨by decide, h⟩
    · refine lm_to 2 20 ?_
      conv => whnf
      refine ⟨fun hy => absurd hy (nI_ge (show k < c by omega) (by omega)), fun _ => ?_⟩
      conv => whnf
      refine ⟨vp_in_nI (by omega) (by decide), ?_⟩
      conv => whnf
      rw [nI_clamp (by omega)]
      refine ⟨fun (hy : ¬ S 20 k = a) => ?_, fun (hy : S 20 k = a) => ?_⟩
      · rw [if_neg hy] at h
        refine lm_Go.sub (hs_loop 20 (Or.inr rfl) c hc a S m (k + 1) (by omega) h) (kk_cons rfl (kk_cons rfl (kk_cons rfl (kk_cons ?_ kk_nil))))
        show some (Value.int (nI k + 1)) = some (Value.int (nI (k + 1)))
        rw [nI_1]
      · rw [if_pos hy] at h
        exact ⟨by decide, h⟩
def s_R_has : lm_Sp := fun av S post => ∃ (j c : Nat) (a : Int32), av = [.ref j, .int (nI c), .int a] ∧ (j = 19 ∨ j = 20) ∧ c ≤ 4 ∧ post (some (.int (km_hs j a S c 0))) S
abbrev ca_R_has : lm_Ca := []
theorem cok_R_has (l : Launch) : lm_cok l (kk_Y kk_shF) R_R 0 0 ca_R_has := kk_cok (kk_nil)
set_option maxHeartbeats 1000000 in
set_option maxRecDepth 20000 in
theorem I_R_has (l : Launch) : lm_I l (kk_Y kk_shF) y_R_has b_R_has 4 (some .boolean) 0 0 s_R_has := by
  refine lm_impl g_R_has ca_R_has (by decide +kernel) kk_okF ck_R_has (kk_fok fl_R_ok) (kk_sok sl_R_ok) (Or.inl rfl) (cok_R_has l) rfl (by decide) ?_
  rintro av S post ⟨j, c, a, rfl, hj, hc, h⟩
  refine ⟨Nat.le_of_ble_eq_true rfl, lm_to 2 20 ?_⟩
  exact lm_Go.sub (hs_loop j hj c hc a S c 0 (by omega) h) (kk_cons rfl (kk_cons rfl (kk_cons rfl (kk_cons rfl kk_nil))))
