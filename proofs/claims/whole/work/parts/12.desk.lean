/-! the desk's own methods -/
def s_D_beginAnew : lm_Sp := fun av S post => av = [.ref 0] ∧ ∃ hd : Nat, hd ≤ 308 ∧ S 6 8 = nI hd ∧ post none (kd_begin (kd_drop hd S))
abbrev ca_D_beginAnew : lm_Ca := [(33, 1, (some 2), s_H_begin), (100, 0, (some 1), s_M_dropOldOutputs)]
theorem cok_D_beginAnew (l : Launch) : lm_cok l (kk_Y kk_shF) R_D 3 68 ca_D_beginAnew := kk_cok (kk_cons ⟨y_H_begin, b_H_begin, 2, none, 2, 47, I_H_begin l, ⟨by decide, by decide⟩, yw_H_begin, li_D_33⟩ <| kk_cons ⟨y_M_dropOldOutputs, b_M_dropOldOutputs, 3, none, 0, 0, I_M_dropOldOutputs l, ⟨by decide, by decide⟩, yw_M_dropOldOutputs, li_D_100⟩ <| kk_nil)
set_option maxHeartbeats 1000000 in
set_option maxRecDepth 20000 in
theorem I_D_beginAnew (l : Launch) : lm_I l (kk_Y kk_shF) y_D_beginAnew b_D_beginAnew 1 (none) 3 68 s_D_beginAnew := by
  refine lm_impl g_D_beginAnew ca_D_beginAnew (by decide +kernel) kk_okF ck_D_beginAnew (kk_fok fl_D_ok) (kk_sok sl_D_ok) (Or.inl rfl) (cok_D_beginAnew l) rfl (by decide) ?_
  rintro av S post ⟨rfl, hd, h8, he, h⟩
  refine ⟨Nat.le_of_ble_eq_true rfl, lm_run 60 ?_⟩
  conv => whnf
  refine ⟨rfl, hd, h8, he, ?_⟩
  conv => whnf
  refine ⟨rfl, ?_⟩
  exact h
theorem kd_isR_in {a : Int32} (h : ¬ kd_isR a = 0) : vp_in a 7 := by
  unfold kd_isR at h
  split at h
  · exact absurd rfl h
  · split at h
    · exact absurd rfl h
    · rename_i h1 h2
      rw [vp_in_iff]
      rw [Int32.lt_iff_toInt_lt, Int32.toInt_zero] at h1
      rw [Int32.lt_iff_toInt_lt, show (6 : Int32).toInt = 6 from by decide] at h2
      omega
theorem vp_in_up {x : Int32} {n m : Nat} (h : vp_in x n) (hm : n ≤ m) : vp_in x m := by
  rw [vp_in_iff] at *
  omega
theorem vp_in_ne {x c : Int32} {n : Nat} (h : vp_in x (n + 1)) (hc : c.toInt = (n : Int)) (hx : ¬ x = c) : vp_in x n := by
  rw [vp_in_iff] at *
  have : ¬ x.toInt = (n : Int) := fun q => hx (Int32.toInt_inj.mp (by rw [hc]; exact q))
  omega
def kd_poke (hd : Nat) (a v : Int32) (S : lm_S) : lm_S := if kd_isA a = 0 then S else kd_begin (kd_drop hd (lm_set S 5 a.toNatClampNeg (v &&& 255)))
def s_D_poke : lm_Sp := fun av S post => ∃ (a v : Int32) (hd : Nat), av = [.ref 0, .int a, .int v] ∧ hd ≤ 308 ∧ S 6 8 = nI hd ∧ post (some (.int (if kd_isA a = 0 then 0 else 1))) (kd_poke hd a v S)
abbrev ca_D_poke : lm_Ca := [(37, 1, none, s_D_isAddress), (45, 0, (some 0), s_D_beginAnew)]
theorem cok_D_poke (l : Launch) : lm_cok l (kk_Y kk_shF) R_D 4 88 ca_D_poke := kk_cok (kk_cons ⟨y_D_isAddress, b_D_isAddress, 1, some .boolean, 0, 0, I_D_isAddress l, ⟨by decide, by decide⟩, yw_D_isAddress, li_D_37⟩ <| kk_cons ⟨y_D_beginAnew, b_D_beginAnew, 1, none, 3, 68, I_D_beginAnew l, ⟨by decide, by decide⟩, yw_D_beginAnew, li_D_45⟩ <| kk_nil)
set_option maxHeartbeats 1000000 in
set_option maxRecDepth 20000 in
theorem I_D_poke (l : Launch) : lm_I l (kk_Y kk_shF) y_D_poke b_D_poke 3 (some .boolean) 4 88 s_D_poke := by
  refine lm_impl g_D_poke ca_D_poke (by decide +kernel) kk_okF ck_D_poke (kk_fok fl_D_ok) (kk_sok sl_D_ok) (Or.inl rfl) (cok_D_poke l) rfl (by decide) ?_
  rintro av S post ⟨a, v, hd, rfl, h8, he, h⟩
  have hw : ¬ kd_isA a = 0 → vp_in a 512 := kd_isA_in
  refine ⟨Nat.le_of_ble_eq_true rfl, lm_run 60 ?_⟩
  unfold kd_poke at h
  conv => whnf
  refine ⟨_, rfl, ?_⟩
  conv => whnf
  refine ⟨fun hx => ?_, fun hx => ?_⟩
  · rw [if_neg hx, if_neg hx] at h
    conv => whnf
    refine ⟨hw hx, ?_⟩
    conv => whnf
    refine ⟨rfl, hd, h8, he, ?_⟩
    conv => whnf
    exact ⟨by decide, h⟩
  · rw [if_pos hx, if_pos hx] at h
    conv => whnf
    exact ⟨by decide, h⟩
def kd_setv (k v : Int32) (S : lm_S) : lm_S := if k = 6 then lm_set S 6 6 (if v = 0 then 0 else 1) else lm_set S 6 k.toNatClampNeg (v &&& ([255, 255, 255, 255, 195, 511] : List Int32).getD k.toNatClampNeg 0)
def kd_sets (hd : Nat) (k v : Int32) (S : lm_S) : lm_S := if kd_isR k = 0 then S else kd_begin (kd_drop hd (kd_setv k v S))
def s_D_set : lm_Sp := fun av S post => ∃ (k v : Int32) (hd : Nat), av = [.ref 0, .int k, .int v] ∧ hd ≤ 308 ∧ S 6 8 = nI hd ∧ post (some (.int (if kd_isR k = 0 then 0 else 1))) (kd_sets hd k v S)
abbrev ca_D_set : lm_Ca := [(45, 0, (some 0), s_D_beginAnew), (48, 1, none, s_D_isRegister)]
theorem cok_D_set (l : Launch) : lm_cok l (kk_Y kk_shF) R_D 4 88 ca_D_set := kk_cok (kk_cons ⟨y_D_beginAnew, b_D_beginAnew, 1, none, 3, 68, I_D_beginAnew l, ⟨by decide, by decide⟩, yw_D_beginAnew, li_D_45⟩ <| kk_cons ⟨y_D_isRegister, b_D_isRegister, 1, some .boolean, 0, 0, I_D_isRegister l, ⟨by decide, by decide⟩, yw_D_isRegister, li_D_48⟩ <| kk_nil)
set_option maxHeartbeats 1000000 in
set_option maxRecDepth 20000 in
theorem I_D_set (l : Launch) : lm_I l (kk_Y kk_shF) y_D_set b_D_set 3 (some .boolean) 4 88 s_D_set := by
  refine lm_impl g_D_set ca_D_set (by decide +kernel) kk_okF ck_D_set (kk_fok fl_D_ok) (kk_sok sl_D_ok) (Or.inl rfl) (cok_D_set l) rfl (by decide) ?_
  rintro av S post ⟨k, v, hd, rfl, h8, he, h⟩
  refine ⟨Nat.le_of_ble_eq_true rfl, lm_run 60 ?_⟩
  unfold kd_sets kd_setv at h
  conv => whnf
  refine ⟨_, rfl, ?_⟩
  conv => whnf
  refine ⟨fun hx => ?_, fun hx => ?_⟩
  · rw [if_neg hx, if_neg hx] at h
    have h7 := kd_isR_in hx
    conv => whnf
    refine ⟨fun h6 => ?_, fun h6 => ?_⟩
    · rw [if_neg h6] at h
      have h66 : vp_in k 6 := vp_in_ne h7 (c := 6) (by decide) h6
      conv => whnf
      refine ⟨h66, ?_⟩
      conv => whnf
      refine ⟨vp_in_up h7 (by omega), ?_⟩
      conv => whnf
      refine ⟨rfl, hd, h8, ?_, ?_⟩
      · rw [← he]
        obtain ⟨j, hj, rfl⟩ := vp_in_of h7 (by decide)
        show (lm_set S 6 _ _) 6 8 = _
        simp only [lm_set, va_up, upd, if_true, nI_clamp (show j < 2 ^ 31 by omega)]
        rw [if_neg (by omega)]
      conv => whnf
      exact ⟨by decide, h⟩
    · rw [if_pos h6] at h
      conv => whnf
      refine ⟨fun hv => ?_, fun hv => ?_⟩
      · rw [if_pos hv] at h
        conv => whnf
        refine ⟨lm_vc (by decide), ?_⟩
        conv => whnf
        refine ⟨rfl, hd, h8, he, ?_⟩
        conv => whnf
        exact ⟨by decide, h⟩
      · rw [if_neg hv] at h
        conv => whnf
        refine ⟨lm_vc (by decide), ?_⟩
        conv => whnf
        refine ⟨rfl, hd, h8, he, ?_⟩
        conv => whnf
        exact ⟨by decide, h⟩
  · rw [if_pos hx, if_pos hx] at h
    conv => whnf
    exact ⟨by decide, h⟩
def kd_feed (hd w : Nat) (v : Int32) (S : lm_S) : lm_S := if w < 40 then kd_begin (kd_drop hd (kd_ai w (v &&& 255) (kd_shi w 0 S))) else S
theorem kd_shi_6 : ∀ (m k : Nat) (S : lm_S) (i : Nat), i ≠ 7 → (kd_shi m k S) i = S i
  | 0, _, _, _, _ => rfl
  | m + 1, k, S, i, hi => by
    rw [kd_shi, kd_shi_6 m (k + 1) _ i hi]
    exact va_up_ne _ _ hi
def s_D_feed : lm_Sp := fun av S post => ∃ (v : Int32) (hd tk w : Nat), av = [.ref 0, .int v] ∧ hd ≤ 308 ∧ S 6 8 = nI hd ∧ tk + w ≤ 40 ∧ S 6 7 = nI tk ∧ S 1 3 = nI (tk + w) ∧ post (some (.int (if w < 40 then 1 else 0))) (kd_feed hd w v S)
abbrev ca_D_feed : lm_Ca := [(45, 0, (some 0), s_D_beginAnew), (57, 0, (some 1), s_M_inputsWaiting), (61, 1, (some 1), s_M_addInput)]
theorem cok_D_feed (l : Launch) : lm_cok l (kk_Y kk_shF) R_D 4 88 ca_D_feed := kk_cok (kk_cons ⟨y_D_beginAnew, b_D_beginAnew, 1, none, 3, 68, I_D_beginAnew l, ⟨by decide, by decide⟩, yw_D_beginAnew, li_D_45⟩ <| kk_cons ⟨y_M_inputsWaiting, b_M_inputsWaiting, 1, some .int, 0, 0, I_M_inputsWaiting l, ⟨by decide, by decide⟩, yw_M_inputsWaiting, li_D_57⟩ <| kk_cons ⟨y_M_addInput, b_M_addInput, 4, none, 1, 20, I_M_addInput l, ⟨by decide, by decide⟩, yw_M_addInput, li_D_61⟩ <| kk_nil)
set_option maxHeartbeats 1000000 in
set_option maxRecDepth 20000 in
theorem I_D_feed (l : Launch) : lm_I l (kk_Y kk_shF) y_D_feed b_D_feed 2 (some .boolean) 4 88 s_D_feed := by
  refine lm_impl g_D_feed ca_D_feed (by decide +kernel) kk_okF ck_D_feed (kk_fok fl_D_ok) (kk_sok sl_D_ok) (Or.inl rfl) (cok_D_feed l) rfl (by decide) ?_
  rintro av S post ⟨v, hd, tk, w, rfl, h8, he, h4, h7, h3, h⟩
  refine ⟨Nat.le_of_ble_eq_true rfl, lm_run 60 ?_⟩
  unfold kd_feed at h
  have ew : S 1 3 - S 6 7 = nI w := by rw [h3, h7, pk_sub (by omega), Nat.add_sub_cancel_left]
  conv => whnf
  refine ⟨rfl, ?_⟩
  conv => whnf
  refine ⟨fun hx => ?_, fun hx => ?_⟩
  · have hx2 : S 1 3 - S 6 7 < 40 := hx
    rw [ew] at hx2
    have hx3 : w < 40 := (nI_ltI (b := 40) (by omega) (by omega)).mp hx2
    rw [if_pos hx3, if_pos hx3] at h
    conv => whnf
    refine ⟨_, tk, w, rfl, h4, h7, h3, ?_⟩
    conv => whnf
    refine ⟨rfl, hd, h8, ?_, ?_⟩
    · rw [← he]
      have e1 : (kd_ai w (v &&& 255) (kd_shi w 0 S)) 6 8 = (kd_shi w 0 S) 6 8 := by
        unfold kd_ai
        split <;> rfl
      rw [show ((kd_ai w (v &&& 255) (kd_shi w 0 S)) 6 8 = S 6 8) ↔ ((kd_shi w 0 S) 6 8 = S 6 8) from by rw [e1]]
      rw [kd_shi_6 w 0 S 6 (by omega)]
    conv => whnf
    exact ⟨by decide, h⟩
  · have hx2 : ¬ S 1 3 - S 6 7 < 40 := hx
    rw [ew] at hx2
    have hx3 : ¬ w < 40 := fun q => hx2 ((nI_ltI (b := 40) (by omega) (by omega)).mpr q)
    rw [if_neg hx3, if_neg hx3] at h
    conv => whnf
    exact ⟨by decide, h⟩
def kd_sor (a n : Nat) (S : lm_S) : Int32 := if a < n then 1 else if S 6 6 = 0 then (if n < 300 then 1 else 0) else 0
def kd_sos (a n : Nat) (S : lm_S) : lm_S := if a < n then kd_mv a (a + 1) S else if S 6 6 = 0 then (if n < 300 then kd_app (kd_step S) else S) else S
def kd_an (a n : Nat) (S : lm_S) : Prop := S 2 3 = nI a ∧ S 2 4 = nI n ∧ a ≤ n ∧ n ≤ 300
def s_D_stepOn : lm_Sp := fun av S post => ∃ a n : Nat, av = [.ref 0] ∧ kd_an a n S ∧ kd_ok S ∧ post (some (.int (kd_sor a n S))) (kd_sos a n S)
abbrev ca_D_stepOn : lm_Ca := [(76, 2, (some 2), s_H_moveTo), (103, 0, (some 1), s_M_makeStep), (106, 1, (some 2), s_H_append)]
theorem cok_D_stepOn (l : Launch) : lm_cok l (kk_Y kk_shF) R_D 5 117 ca_D_stepOn := kk_cok (kk_cons ⟨y_H_moveTo, b_H_moveTo, 4, none, 2, 44, I_H_moveTo l, ⟨by decide, by decide⟩, yw_H_moveTo, li_D_76⟩ <| kk_cons ⟨y_M_makeStep, b_M_makeStep, 6, none, 4, 92, I_M_makeStep l, ⟨by decide, by decide⟩, yw_M_makeStep, li_D_103⟩ <| kk_cons ⟨y_H_append, b_H_append, 3, none, 2, 47, I_H_append l, ⟨by decide, by decide⟩, yw_H_append, li_D_106⟩ <| kk_nil)
set_option maxHeartbeats 1000000 in
set_option maxRecDepth 20000 in
theorem I_D_stepOn (l : Launch) : lm_I l (kk_Y kk_shF) y_D_stepOn b_D_stepOn 1 (some .boolean) 5 117 s_D_stepOn := by
  refine lm_impl g_D_stepOn ca_D_stepOn (by decide +kernel) kk_okF ck_D_stepOn (kk_fok fl_D_ok) (kk_sok sl_D_ok) (Or.inl rfl) (cok_D_stepOn l) rfl (by decide) ?_
  rintro av S post ⟨a, n, rfl, ⟨h3, h4, han, hn⟩, hok, h⟩
  refine ⟨Nat.le_of_ble_eq_true rfl, lm_run 60 ?_⟩
  unfold kd_sor kd_sos at h
  conv => whnf
  refine ⟨fun hx => ?_, fun hx => ?_⟩
  · have hx2 : ¬ a < n := by
      have q : S 2 4 ≤ S 2 3 := hx
      rw [h3, h4, nI_leI (by omega) (by omega)] at q
      omega
    rw [if_neg hx2, if_neg hx2] at h
    conv => whnf
    refine ⟨lm_vc (by decide), ?_⟩
    conv => whnf
    refine ⟨fun (h6 : ¬ S 6 6 = 0) => ?_, fun (h6 : S 6 6 = 0) => ?_⟩
    · rw [if_neg h6, if_neg h6] at h
      conv => whnf
      exact ⟨by decide, h⟩
    · rw [if_pos h6, if_pos h6] at h
      conv => whnf
      refine ⟨fun hq => ?_, fun hq => ?_⟩
      · have hq2 : n < 300 := by
          have q : S 2 4 < 300 := hq
          rw [h4] at q
          exact (nI_ltI (b := 300) (by omega) (by omega)).mp q
        rw [if_pos hq2, if_pos hq2] at h
        conv => whnf
        refine ⟨rfl, hok, ?_⟩
        conv => whnf
        refine ⟨rfl, ⟨n, hq2, ?_⟩, ?_⟩
        · rw [← h4]
          exact congrFun (fr_step S 2 (by omega) (by omega) (by omega) (by omega) (by omega) (by omega)) 4
        conv => whnf
        exact ⟨by decide, h⟩
      · have hq2 : ¬ n < 300 := by
          have q : ¬ S 2 4 < 300 := hq
          rw [h4] at q
          exact fun z => q ((nI_ltI (b := 300) (by omega) (by omega)).mpr z)
        rw [if_neg hq2, if_neg hq2] at h
        conv => whnf
        exact ⟨by decide, h⟩
  · have hx2 : a < n := by
      have q : ¬ S 2 4 ≤ S 2 3 := hx
      rw [h3, h4, nI_leI (by omega) (by omega)] at q
      omega
    rw [if_pos hx2, if_pos hx2] at h
    conv => whnf
    refine ⟨a, a + 1, ?_, by omega, by omega, h3, ?_, ?_⟩
    · show [Value.ref 2, Value.int (S 2 3 + 1), Value.ref 1] = _
      rw [h3, nI_1]
    · rw [h4]
      exact nI_le (by omega) (by omega)
    conv => whnf
    exact ⟨by decide, h⟩
def kd_met (t : Int32) (S : lm_S) : Int32 := if kd_has 14 (kd_ctr t S) S = 0 then (if kd_has 15 (kd_pw2 t 0 S) S = 0 then (if kd_has 15 (kd_pw2 t 1 S) S = 0 then 0 else 1) else 1) else 1
def s_D_isMet : lm_Sp := fun av S post => ∃ t n : Nat, av = [.ref 0, .int (nI t)] ∧ S 2 4 = nI n ∧ n ≤ 300 ∧ t ≤ 300 ∧ post (some (.int (kd_met (nI t) S))) S
theorem kd_t9 (t : Nat) (ht : t ≤ 300) : vp_in (nI t * 9 + 5) 2709 := by
  rw [show nI t * 9 = nI (t * 9) from pk_mul t 9, show (5 : Int32) = nI 5 from rfl, nI_add]
  exact vp_in_nI (by omega) (by decide)
theorem kd_t2 (t n k : Nat) (c : Int32) (hc : c = nI k) (hk : k < 2) (x : Int32) (hx : x = nI n) (hn : n ≤ 300) (ht : t ≤ 300) (h : nI t < x) : vp_in (nI t * 2 + c) 600 := by
  rw [hx, nI_ltI (by omega) (by omega)] at h
  rw [nI_m2, hc, nI_add]
  exact vp_in_nI (by omega) (by decide)
abbrev ca_D_isMet : lm_Ca := [(65, 1, (some 3), s_K_has), (109, 1, (some 2), s_H_counterAt), (112, 2, (some 2), s_H_placeWritten)]
theorem cok_D_isMet (l : Launch) : lm_cok l (kk_Y kk_shF) R_D 2 41 ca_D_isMet := kk_cok (kk_cons ⟨y_K_has, b_K_has, 2, some .boolean, 1, 20, I_K_has l, ⟨by decide, by decide⟩, yw_K_has, li_D_65⟩ <| kk_cons ⟨y_H_counterAt, b_H_counterAt, 2, some .int, 0, 0, I_H_counterAt l, ⟨by decide, by decide⟩, yw_H_counterAt, li_D_109⟩ <| kk_cons ⟨y_H_placeWritten, b_H_placeWritten, 3, some .int, 0, 0, I_H_placeWritten l, ⟨by decide, by decide⟩, yw_H_placeWritten, li_D_112⟩ <| kk_nil)
set_option maxHeartbeats 1000000 in
set_option maxRecDepth 20000 in
theorem I_D_isMet (l : Launch) : lm_I l (kk_Y kk_shF) y_D_isMet b_D_isMet 2 (some .boolean) 2 41 s_D_isMet := by
  refine lm_impl g_D_isMet ca_D_isMet (by decide +kernel) kk_okF ck_D_isMet (kk_fok fl_D_ok) (kk_sok sl_D_ok) (Or.inl rfl) (cok_D_isMet l) rfl (by decide) ?_
  rintro av S post ⟨t, n, rfl, h4, hn, ht, h⟩
  refine ⟨Nat.le_of_ble_eq_true rfl, lm_run 60 ?_⟩
  unfold kd_met at h
  have f0 : ¬ nI t < 0 → nI t < S 2 4 → vp_in (nI t * 2 + 0) 600 := fun _ q => kd_t2 t n 0 0 rfl (by omega) _ h4 hn ht q
  have f1 : ¬ nI t < 0 → nI t < S 2 4 → vp_in (nI t * 2 + 1) 600 := fun _ q => kd_t2 t n 1 1 rfl (by omega) _ h4 hn ht q
  conv => whnf
  refine ⟨_, rfl, fun _ _ => kd_t9 t ht, ?_⟩
  conv => whnf
  refine ⟨_, _, rfl, Or.inl rfl, ?_⟩
  conv => whnf
  refine ⟨fun hx => ?_, fun hx => ?_⟩
  · rw [if_neg hx] at h
    conv => whnf
    exact ⟨by decide, h⟩
  · rw [if_pos hx] at h
    conv => whnf
    refine ⟨_, _, rfl, f0, ?_⟩
    conv => whnf
    refine ⟨_, _, rfl, Or.inr rfl, ?_⟩
    conv => whnf
    refine ⟨fun hx => ?_, fun hx => ?_⟩
    · rw [if_neg hx] at h
      conv => whnf
      exact ⟨by decide, h⟩
    · rw [if_pos hx] at h
      conv => whnf
      refine ⟨_, _, rfl, f1, ?_⟩
      conv => whnf
      refine ⟨_, _, rfl, Or.inr rfl, ?_⟩
      conv => whnf
      refine ⟨fun hx => ?_, fun hx => ?_⟩
      · rw [if_pos hx] at h
        conv => whnf
        exact ⟨by decide, h⟩
      · rw [if_neg hx] at h
        conv => whnf
        exact ⟨by decide, h⟩
def s_D_time : lm_Sp := fun av S post => av = [.ref 0] ∧ post (some (.int (S 2 3))) S
abbrev ca_D_time : lm_Ca := []
theorem cok_D_time (l : Launch) : lm_cok l (kk_Y kk_shF) R_D 0 0 ca_D_time := kk_cok (kk_nil)
set_option maxHeartbeats 1000000 in
set_option maxRecDepth 20000 in
theorem I_D_time (l : Launch) : lm_I l (kk_Y kk_shF) y_D_time b_D_time 1 (some .int) 0 0 s_D_time := by
  refine lm_impl g_D_time ca_D_time (by decide +kernel) kk_okF ck_D_time (kk_fok fl_D_ok) (kk_sok sl_D_ok) (Or.inl rfl) (cok_D_time l) rfl (by decide) ?_
  rintro av S post ⟨rfl, h⟩
  exact ⟨Nat.le_of_ble_eq_true rfl, lm_run 60 h⟩
def s_D_last : lm_Sp := fun av S post => av = [.ref 0] ∧ post (some (.int (S 2 4))) S
abbrev ca_D_last : lm_Ca := []
theorem cok_D_last (l : Launch) : lm_cok l (kk_Y kk_shF) R_D 0 0 ca_D_last := kk_cok (kk_nil)
set_option maxHeartbeats 1000000 in
set_option maxRecDepth 20000 in
theorem I_D_last (l : Launch) : lm_I l (kk_Y kk_shF) y_D_last b_D_last 1 (some .int) 0 0 s_D_last := by
  refine lm_impl g_D_last ca_D_last (by decide +kernel) kk_okF ck_D_last (kk_fok fl_D_ok) (kk_sok sl_D_ok) (Or.inl rfl) (cok_D_last l) rfl (by decide) ?_
  rintro av S post ⟨rfl, h⟩
  exact ⟨Nat.le_of_ble_eq_true rfl, lm_run 60 h⟩
def s_D_waiting : lm_Sp := fun av S post => av = [.ref 0] ∧ post (some (.int (S 1 3 - S 6 7))) S
abbrev ca_D_waiting : lm_Ca := [(57, 0, (some 1), s_M_inputsWaiting)]
theorem cok_D_waiting (l : Launch) : lm_cok l (kk_Y kk_shF) R_D 1 20 ca_D_waiting := kk_cok (kk_cons ⟨y_M_inputsWaiting, b_M_inputsWaiting, 1, some .int, 0, 0, I_M_inputsWaiting l, ⟨by decide, by decide⟩, yw_M_inputsWaiting, li_D_57⟩ <| kk_nil)
set_option maxHeartbeats 1000000 in
set_option maxRecDepth 20000 in
theorem I_D_waiting (l : Launch) : lm_I l (kk_Y kk_shF) y_D_waiting b_D_waiting 1 (some .int) 1 20 s_D_waiting := by
  refine lm_impl g_D_waiting ca_D_waiting (by decide +kernel) kk_okF ck_D_waiting (kk_fok fl_D_ok) (kk_sok sl_D_ok) (Or.inl rfl) (cok_D_waiting l) rfl (by decide) ?_
  rintro av S post ⟨rfl, h⟩
  refine ⟨Nat.le_of_ble_eq_true rfl, lm_run 60 ?_⟩
  (try (conv => whnf))
  repeat' first
    | (refine ⟨_, rfl, ?_⟩; conv => whnf)
    | (refine ⟨_, _, rfl, ?_⟩; conv => whnf)
    | (refine ⟨_, _, _, rfl, ?_⟩; conv => whnf)
    | (refine And.intro rfl ?_; conv => whnf)
    | (refine And.intro (lm_vc (by decide)) ?_; conv => whnf)
    | (refine And.intro (by decide) ?_; conv => whnf)
    | (refine ⟨fun hx => absurd hx (by decide), fun _ => ?_⟩; conv => whnf)
    | (refine ⟨fun _ => ?_, fun hx => absurd hx (by decide)⟩; conv => whnf)
    | (refine And.intro (hw hx) ?_; conv => whnf)
    | (refine And.intro hw ?_; conv => whnf)
    | (refine And.intro hw2 ?_; conv => whnf)
    | (refine And.intro hw3 ?_; conv => whnf)
    | (refine And.intro hw4 ?_; conv => whnf)
    | (refine And.intro hw5 ?_; conv => whnf)
    | (refine And.intro hw6 ?_; conv => whnf)
    | (refine And.intro hw7 ?_; conv => whnf)
    | (refine And.intro (hv1 (by assumption)) ?_; conv => whnf)
    | (refine And.intro (hv2 (by assumption) (by assumption)) ?_; conv => whnf)
    | (refine And.intro (hv3 (by assumption) (by assumption)) ?_; conv => whnf)
    | (refine And.intro (lm_v511 _) ?_; conv => whnf)
    | (refine And.intro (lm_v7 _) ?_; conv => whnf)
    | (refine ⟨fun hx => ?_, fun hx => ?_⟩ <;> conv => whnf)
    | (split at h)
    | contradiction
    | exact h
def s_D_puts : lm_Sp := fun av S post => av = [.ref 0] ∧ post (some (.int (S 1 5 + S 6 8))) S
abbrev ca_D_puts : lm_Ca := []
theorem cok_D_puts (l : Launch) : lm_cok l (kk_Y kk_shF) R_D 0 0 ca_D_puts := kk_cok (kk_nil)
set_option maxHeartbeats 1000000 in
set_option maxRecDepth 20000 in
theorem I_D_puts (l : Launch) : lm_I l (kk_Y kk_shF) y_D_puts b_D_puts 1 (some .int) 0 0 s_D_puts := by
  refine lm_impl g_D_puts ca_D_puts (by decide +kernel) kk_okF ck_D_puts (kk_fok fl_D_ok) (kk_sok sl_D_ok) (Or.inl rfl) (cok_D_puts l) rfl (by decide) ?_
  rintro av S post ⟨rfl, h⟩
  refine ⟨Nat.le_of_ble_eq_true rfl, lm_run 60 ?_⟩
  (try (conv => whnf))
  repeat' first
    | (refine ⟨_, rfl, ?_⟩; conv => whnf)
    | (refine ⟨_, _, rfl, ?_⟩; conv => whnf)
    | (refine ⟨_, _, _, rfl, ?_⟩; conv => whnf)
    | (refine And.intro rfl ?_; conv => whnf)
    | (refine And.intro (lm_vc (by decide)) ?_; conv => whnf)
    | (refine And.intro (by decide) ?_; conv => whnf)
    | (refine ⟨fun hx => absurd hx (by decide), fun _ => ?_⟩; conv => whnf)
    | (refine ⟨fun _ => ?_, fun hx => absurd hx (by decide)⟩; conv => whnf)
    | (refine And.intro (hw hx) ?_; conv => whnf)
    | (refine And.intro hw ?_; conv => whnf)
    | (refine And.intro hw2 ?_; conv => whnf)
    | (refine And.intro hw3 ?_; conv => whnf)
    | (refine And.intro hw4 ?_; conv => whnf)
    | (refine And.intro hw5 ?_; conv => whnf)
    | (refine And.intro hw6 ?_; conv => whnf)
    | (refine And.intro hw7 ?_; conv => whnf)
    | (refine And.intro (hv1 (by assumption)) ?_; conv => whnf)
    | (refine And.intro (hv2 (by assumption) (by assumption)) ?_; conv => whnf)
    | (refine And.intro (hv3 (by assumption) (by assumption)) ?_; conv => whnf)
    | (refine And.intro (lm_v511 _) ?_; conv => whnf)
    | (refine And.intro (lm_v7 _) ?_; conv => whnf)
    | (refine ⟨fun hx => ?_, fun hx => ?_⟩ <;> conv => whnf)
    | (split at h)
    | contradiction
    | exact h
def s_D_stop : lm_Sp := fun av S post => ∃ a on, av = [.ref 0, .int a, .int on] ∧ post (some (.int (kd_chr 3 14 a on S))) (kd_chs 3 14 a on S)
theorem kd_chr01 (i m : Nat) (a on : Int32) (S : lm_S) : kd_chr i m a on S &&& 1 = kd_chr i m a on S := by
  unfold kd_chr
  repeat' split
  all_goals rfl
abbrev ca_D_stop : lm_Ca := [(86, 2, (some 3), s_K_change)]
theorem cok_D_stop (l : Launch) : lm_cok l (kk_Y kk_shF) R_D 2 42 ca_D_stop := kk_cok (kk_cons ⟨y_K_change, b_K_change, 3, some .boolean, 1, 20, I_K_change l, ⟨by decide, by decide⟩, yw_K_change, li_D_86⟩ <| kk_nil)
set_option maxHeartbeats 1000000 in
set_option maxRecDepth 20000 in
theorem I_D_stop (l : Launch) : lm_I l (kk_Y kk_shF) y_D_stop b_D_stop 3 (some .boolean) 2 42 s_D_stop := by
  refine lm_impl g_D_stop ca_D_stop (by decide +kernel) kk_okF ck_D_stop (kk_fok fl_D_ok) (kk_sok sl_D_ok) (Or.inl rfl) (cok_D_stop l) rfl (by decide) ?_
  rintro av S post ⟨a, on, rfl, h⟩
  refine ⟨Nat.le_of_ble_eq_true rfl, lm_run 60 ?_⟩
  conv => whnf
  refine ⟨_, _, _, rfl, Or.inl rfl, ?_⟩
  conv => whnf
  exact ⟨kd_chr01 _ _ _ _ _, h⟩
def s_D_watch : lm_Sp := fun av S post => ∃ a on, av = [.ref 0, .int a, .int on] ∧ post (some (.int (kd_chr 4 15 a on S))) (kd_chs 4 15 a on S)
abbrev ca_D_watch : lm_Ca := [(86, 2, (some 3), s_K_change)]
theorem cok_D_watch (l : Launch) : lm_cok l (kk_Y kk_shF) R_D 2 42 ca_D_watch := kk_cok (kk_cons ⟨y_K_change, b_K_change, 3, some .boolean, 1, 20, I_K_change l, ⟨by decide, by decide⟩, yw_K_change, li_D_86⟩ <| kk_nil)
set_option maxHeartbeats 1000000 in
set_option maxRecDepth 20000 in
theorem I_D_watch (l : Launch) : lm_I l (kk_Y kk_shF) y_D_watch b_D_watch 3 (some .boolean) 2 42 s_D_watch := by
  refine lm_impl g_D_watch ca_D_watch (by decide +kernel) kk_okF ck_D_watch (kk_fok fl_D_ok) (kk_sok sl_D_ok) (Or.inl rfl) (cok_D_watch l) rfl (by decide) ?_
  rintro av S post ⟨a, on, rfl, h⟩
  refine ⟨Nat.le_of_ble_eq_true rfl, lm_run 60 ?_⟩
  conv => whnf
  refine ⟨_, _, _, rfl, Or.inr rfl, ?_⟩
  conv => whnf
  exact ⟨kd_chr01 _ _ _ _ _, h⟩
def kd_cellr (a : Int32) (S : lm_S) : Int32 := if kd_isA a = 0 then -1 else S 5 a.toNatClampNeg
def s_D_cell : lm_Sp := fun av S post => ∃ a, av = [.ref 0, .int a] ∧ post (some (.int (kd_cellr a S))) S
abbrev ca_D_cell : lm_Ca := [(37, 1, none, s_D_isAddress)]
theorem cok_D_cell (l : Launch) : lm_cok l (kk_Y kk_shF) R_D 1 20 ca_D_cell := kk_cok (kk_cons ⟨y_D_isAddress, b_D_isAddress, 1, some .boolean, 0, 0, I_D_isAddress l, ⟨by decide, by decide⟩, yw_D_isAddress, li_D_37⟩ <| kk_nil)
set_option maxHeartbeats 1000000 in
set_option maxRecDepth 20000 in
theorem I_D_cell (l : Launch) : lm_I l (kk_Y kk_shF) y_D_cell b_D_cell 2 (some .int) 1 20 s_D_cell := by
  refine lm_impl g_D_cell ca_D_cell (by decide +kernel) kk_okF ck_D_cell (kk_fok fl_D_ok) (kk_sok sl_D_ok) (Or.inl rfl) (cok_D_cell l) rfl (by decide) ?_
  rintro av S post ⟨a, rfl, h⟩
  have hw : ¬ kd_isA a = 0 → vp_in a 512 := kd_isA_in
  refine ⟨Nat.le_of_ble_eq_true rfl, lm_run 60 ?_⟩
  unfold kd_cellr at h
  (try (conv => whnf))
  repeat' first
    | (refine ⟨_, rfl, ?_⟩; conv => whnf)
    | (refine ⟨_, _, rfl, ?_⟩; conv => whnf)
    | (refine ⟨_, _, _, rfl, ?_⟩; conv => whnf)
    | (refine And.intro rfl ?_; conv => whnf)
    | (refine And.intro (lm_vc (by decide)) ?_; conv => whnf)
    | (refine And.intro (by decide) ?_; conv => whnf)
    | (refine ⟨fun hx => absurd hx (by decide), fun _ => ?_⟩; conv => whnf)
    | (refine ⟨fun _ => ?_, fun hx => absurd hx (by decide)⟩; conv => whnf)
    | (refine And.intro (hw hx) ?_; conv => whnf)
    | (refine And.intro hw ?_; conv => whnf)
    | (refine And.intro hw2 ?_; conv => whnf)
    | (refine And.intro hw3 ?_; conv => whnf)
    | (refine And.intro hw4 ?_; conv => whnf)
    | (refine And.intro hw5 ?_; conv => whnf)
    | (refine And.intro hw6 ?_; conv => whnf)
    | (refine And.intro hw7 ?_; conv => whnf)
    | (refine And.intro (hv1 (by assumption)) ?_; conv => whnf)
    | (refine And.intro (hv2 (by assumption) (by assumption)) ?_; conv => whnf)
    | (refine And.intro (hv3 (by assumption) (by assumption)) ?_; conv => whnf)
    | (refine And.intro (lm_v511 _) ?_; conv => whnf)
    | (refine And.intro (lm_v7 _) ?_; conv => whnf)
    | (refine ⟨fun hx => ?_, fun hx => ?_⟩ <;> conv => whnf)
    | (split at h)
    | contradiction
    | exact h
def kd_regr (a : Int32) (S : lm_S) : Int32 := if kd_isR a = 0 then -1 else S 6 a.toNatClampNeg
def s_D_register : lm_Sp := fun av S post => ∃ a, av = [.ref 0, .int a] ∧ post (some (.int (kd_regr a S))) S
abbrev ca_D_register : lm_Ca := [(48, 1, none, s_D_isRegister)]
theorem cok_D_register (l : Launch) : lm_cok l (kk_Y kk_shF) R_D 1 20 ca_D_register := kk_cok (kk_cons ⟨y_D_isRegister, b_D_isRegister, 1, some .boolean, 0, 0, I_D_isRegister l, ⟨by decide, by decide⟩, yw_D_isRegister, li_D_48⟩ <| kk_nil)
set_option maxHeartbeats 1000000 in
set_option maxRecDepth 20000 in
theorem I_D_register (l : Launch) : lm_I l (kk_Y kk_shF) y_D_register b_D_register 2 (some .int) 1 20 s_D_register := by
  refine lm_impl g_D_register ca_D_register (by decide +kernel) kk_okF ck_D_register (kk_fok fl_D_ok) (kk_sok sl_D_ok) (Or.inl rfl) (cok_D_register l) rfl (by decide) ?_
  rintro av S post ⟨a, rfl, h⟩
  have hw : ¬ kd_isR a = 0 → vp_in a 9 := fun h => vp_in_up (kd_isR_in h) (by omega)
  refine ⟨Nat.le_of_ble_eq_true rfl, lm_run 60 ?_⟩
  unfold kd_regr at h
  (try (conv => whnf))
  repeat' first
    | (refine ⟨_, rfl, ?_⟩; conv => whnf)
    | (refine ⟨_, _, rfl, ?_⟩; conv => whnf)
    | (refine ⟨_, _, _, rfl, ?_⟩; conv => whnf)
    | (refine And.intro rfl ?_; conv => whnf)
    | (refine And.intro (lm_vc (by decide)) ?_; conv => whnf)
    | (refine And.intro (by decide) ?_; conv => whnf)
    | (refine ⟨fun hx => absurd hx (by decide), fun _ => ?_⟩; conv => whnf)
    | (refine ⟨fun _ => ?_, fun hx => absurd hx (by decide)⟩; conv => whnf)
    | (refine And.intro (hw hx) ?_; conv => whnf)
    | (refine And.intro hw ?_; conv => whnf)
    | (refine And.intro hw2 ?_; conv => whnf)
    | (refine And.intro hw3 ?_; conv => whnf)
    | (refine And.intro hw4 ?_; conv => whnf)
    | (refine And.intro hw5 ?_; conv => whnf)
    | (refine And.intro hw6 ?_; conv => whnf)
    | (refine And.intro hw7 ?_; conv => whnf)
    | (refine And.intro (hv1 (by assumption)) ?_; conv => whnf)
    | (refine And.intro (hv2 (by assumption) (by assumption)) ?_; conv => whnf)
    | (refine And.intro (hv3 (by assumption) (by assumption)) ?_; conv => whnf)
    | (refine And.intro (lm_v511 _) ?_; conv => whnf)
    | (refine And.intro (lm_v7 _) ?_; conv => whnf)
    | (refine ⟨fun hx => ?_, fun hx => ?_⟩ <;> conv => whnf)
    | (split at h)
    | contradiction
    | exact h
def kd_outr (k : Int32) (S : lm_S) : Int32 := if k < 0 then -1 else if k < 8 then kd_outb k S else -1
def s_D_output : lm_Sp := fun av S post => ∃ k, av = [.ref 0, .int k] ∧ (¬ k < 0 → k < 8 → k < S 6 8 → vp_in (S 6 8 - 1 - k) 308) ∧ post (some (.int (kd_outr k S))) S
abbrev ca_D_output : lm_Ca := [(93, 1, (some 1), s_M_outputBehind)]
theorem cok_D_output (l : Launch) : lm_cok l (kk_Y kk_shF) R_D 1 21 ca_D_output := kk_cok (kk_cons ⟨y_M_outputBehind, b_M_outputBehind, 2, some .int, 0, 0, I_M_outputBehind l, ⟨by decide, by decide⟩, yw_M_outputBehind, li_D_93⟩ <| kk_nil)
set_option maxHeartbeats 1000000 in
set_option maxRecDepth 20000 in
theorem I_D_output (l : Launch) : lm_I l (kk_Y kk_shF) y_D_output b_D_output 2 (some .int) 1 21 s_D_output := by
  refine lm_impl g_D_output ca_D_output (by decide +kernel) kk_okF ck_D_output (kk_fok fl_D_ok) (kk_sok sl_D_ok) (Or.inl rfl) (cok_D_output l) rfl (by decide) ?_
  rintro av S post ⟨k, rfl, hq, h⟩
  refine ⟨Nat.le_of_ble_eq_true rfl, lm_run 60 ?_⟩
  unfold kd_outr at h
  conv => whnf
  refine ⟨fun hx => ?_, fun hx => ?_⟩
  · rw [if_pos hx] at h
    exact h
  · rw [if_neg hx] at h
    conv => whnf
    refine ⟨fun hy => ?_, fun hy => ?_⟩
    · rw [if_pos hy] at h
      conv => whnf
      refine ⟨_, rfl, hq hx hy, ?_⟩
      exact h
    · rw [if_neg hy] at h
      exact h
def s_D_wrote : lm_Sp := fun av S post => ∃ t, av = [.ref 0, .int t] ∧ (¬ t < 0 → t < S 2 4 → vp_in (t * 2 + 1) 600) ∧ (¬ t < 0 → t < S 2 4 → vp_in (t * 2 + 0) 600) ∧ post (some (.int (kd_lpw t S))) S
abbrev ca_D_wrote : lm_Ca := [(97, 1, (some 2), s_H_lastPlaceWritten)]
theorem cok_D_wrote (l : Launch) : lm_cok l (kk_Y kk_shF) R_D 2 44 ca_D_wrote := kk_cok (kk_cons ⟨y_H_lastPlaceWritten, b_H_lastPlaceWritten, 3, some .int, 1, 22, I_H_lastPlaceWritten l, ⟨by decide, by decide⟩, yw_H_lastPlaceWritten, li_D_97⟩ <| kk_nil)
set_option maxHeartbeats 1000000 in
set_option maxRecDepth 20000 in
theorem I_D_wrote (l : Launch) : lm_I l (kk_Y kk_shF) y_D_wrote b_D_wrote 2 (some .int) 2 44 s_D_wrote := by
  refine lm_impl g_D_wrote ca_D_wrote (by decide +kernel) kk_okF ck_D_wrote (kk_fok fl_D_ok) (kk_sok sl_D_ok) (Or.inl rfl) (cok_D_wrote l) rfl (by decide) ?_
  rintro av S post ⟨t, rfl, hw, hw2, h⟩
  refine ⟨Nat.le_of_ble_eq_true rfl, lm_run 60 ?_⟩
  (try (conv => whnf))
  repeat' first
    | (refine ⟨_, rfl, ?_⟩; conv => whnf)
    | (refine ⟨_, _, rfl, ?_⟩; conv => whnf)
    | (refine ⟨_, _, _, rfl, ?_⟩; conv => whnf)
    | (refine And.intro rfl ?_; conv => whnf)
    | (refine And.intro (lm_vc (by decide)) ?_; conv => whnf)
    | (refine And.intro (by decide) ?_; conv => whnf)
    | (refine ⟨fun hx => absurd hx (by decide), fun _ => ?_⟩; conv => whnf)
    | (refine ⟨fun _ => ?_, fun hx => absurd hx (by decide)⟩; conv => whnf)
    | (refine And.intro (hw hx) ?_; conv => whnf)
    | (refine And.intro hw ?_; conv => whnf)
    | (refine And.intro hw2 ?_; conv => whnf)
    | (refine And.intro hw3 ?_; conv => whnf)
    | (refine And.intro hw4 ?_; conv => whnf)
    | (refine And.intro hw5 ?_; conv => whnf)
    | (refine And.intro hw6 ?_; conv => whnf)
    | (refine And.intro hw7 ?_; conv => whnf)
    | (refine And.intro (hv1 (by assumption)) ?_; conv => whnf)
    | (refine And.intro (hv2 (by assumption) (by assumption)) ?_; conv => whnf)
    | (refine And.intro (hv3 (by assumption) (by assumption)) ?_; conv => whnf)
    | (refine And.intro (lm_v511 _) ?_; conv => whnf)
    | (refine And.intro (lm_v7 _) ?_; conv => whnf)
    | (refine ⟨fun hx => ?_, fun hx => ?_⟩ <;> conv => whnf)
    | (split at h)
    | contradiction
    | exact h
def s_D_go : lm_Sp := fun av S post => ∃ (t : Int32) (a n : Nat), av = [.ref 0, .int t] ∧ kd_an a n S ∧ post (some (.int (if t < 0 then 0 else if t ≤ S 2 4 then 1 else 0))) (if t < 0 then S else if t ≤ S 2 4 then kd_mv a t.toNatClampNeg S else S)
abbrev ca_D_go : lm_Ca := [(76, 2, (some 2), s_H_moveTo)]
theorem cok_D_go (l : Launch) : lm_cok l (kk_Y kk_shF) R_D 3 67 ca_D_go := kk_cok (kk_cons ⟨y_H_moveTo, b_H_moveTo, 4, none, 2, 44, I_H_moveTo l, ⟨by decide, by decide⟩, yw_H_moveTo, li_D_76⟩ <| kk_nil)
set_option maxHeartbeats 1000000 in
set_option maxRecDepth 20000 in
theorem I_D_go (l : Launch) : lm_I l (kk_Y kk_shF) y_D_go b_D_go 2 (some .boolean) 3 67 s_D_go := by
  refine lm_impl g_D_go ca_D_go (by decide +kernel) kk_okF ck_D_go (kk_fok fl_D_ok) (kk_sok sl_D_ok) (Or.inl rfl) (cok_D_go l) rfl (by decide) ?_
  rintro av S post ⟨t, a, n, rfl, ⟨h3, h4, han, hn⟩, h⟩
  refine ⟨Nat.le_of_ble_eq_true rfl, lm_run 60 ?_⟩
  conv => whnf
  refine ⟨fun hx => ?_, fun hx => ?_⟩
  · rw [if_pos hx, if_pos hx] at h
    conv => whnf
    exact ⟨by decide, h⟩
  · rw [if_neg hx, if_neg hx] at h
    conv => whnf
    refine ⟨fun hy => ?_, fun hy => ?_⟩
    · rw [if_pos hy, if_pos hy] at h
      obtain ⟨b, hb, rfl⟩ := nI_of hx
      have hy2 : nI b ≤ S 2 4 := hy
      have hbn : b ≤ n := by rw [h4, nI_leI (by omega) (by omega)] at hy2; exact hy2
      rw [nI_clamp hb] at h
      conv => whnf
      refine ⟨a, b, rfl, by omega, by omega, h3, hy2, ?_⟩
      conv => whnf
      exact ⟨by decide, h⟩
    · rw [if_neg hy, if_neg hy] at h
      conv => whnf
      exact ⟨by decide, h⟩
