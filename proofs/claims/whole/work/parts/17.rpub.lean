/-! the reference: frames, turn, what it shows -/
def km_fr (S1 S : lm_S) : Prop := (∀ i, i ≠ 16 → i ≠ 18 → S1 i = S i) ∧ ∀ k, k ≠ 8 → k ≠ 9 → S1 16 k = S 16 k
theorem km_fr.rf (S : lm_S) : km_fr S S := ⟨fun _ _ _ => rfl, fun _ _ _ => rfl⟩
theorem km_fr.tr {S2 S1 S : lm_S} (h : km_fr S2 S1) (g : km_fr S1 S) : km_fr S2 S := ⟨fun i a b => (h.1 i a b).trans (g.1 i a b), fun k a b => (h.2 k a b).trans (g.2 k a b)⟩
theorem km_fr.st {S1 S : lm_S} (h : km_fr S1 S) {k : Nat} {x : Int32} : km_fr (lm_set S1 18 k x) S := ⟨fun i a b => (va_up_ne _ _ b).trans (h.1 i a b), fun k a b => h.2 k a b⟩
theorem km_fr.s8 {S1 S : lm_S} (h : km_fr S1 S) {x : Int32} : km_fr (lm_set S1 16 8 x) S := ⟨fun i a b => (va_up_ne _ _ a).trans (h.1 i a b), fun k a b => by
  show upd (S1 16) 8 x k = S 16 k
  rw [pk_un a]
  exact h.2 k a b⟩
theorem km_fr.s9 {S1 S : lm_S} (h : km_fr S1 S) {x : Int32} : km_fr (lm_set S1 16 9 x) S := ⟨fun i a b => (va_up_ne _ _ a).trans (h.1 i a b), fun k a b => by
  show upd (S1 16) 9 x k = S 16 k
  rw [pk_un b]
  exact h.2 k a b⟩
theorem km_fr.it {c : Prop} [Decidable c] {A B S : lm_S} (h : km_fr A S) (g : km_fr B S) : km_fr (if c then A else B) S := by
  split
  · exact h
  · exact g
theorem gq_flag (f o : Int32) (S : lm_S) : km_fr (km_flag f o S) S := (km_fr.rf S).st
theorem gq_mark (v : Int32) (S : lm_S) : km_fr (km_mark v S) S := (gq_flag _ _ _).tr (gq_flag _ _ _)
theorem gq_write (a v : Int32) (S : lm_S) : km_fr (km_write a v S) S := (km_fr.rf S).st.s9.s8
theorem gq_push (v : Int32) (S : lm_S) : km_fr (km_push v S) S := (gq_write _ _ _).st
theorem gq_pull (S : lm_S) : km_fr (km_pull S) S := (km_fr.rf S).st
theorem gq_change (p v : Int32) (S : lm_S) : km_fr (km_change p v S) S := (km_fr.rf S).st.it (gq_write _ _ _)
theorem gq_add (t : Int32) (S : lm_S) : km_fr (km_add t S) S := ((gq_mark _ _).tr ((gq_flag _ _ _).tr (gq_flag _ _ _))).st
theorem gq_cmp (v t : Int32) (S : lm_S) : km_fr (km_cmp v t S) S := (gq_flag _ _ _).tr (gq_mark _ _)
theorem gq_small (md : Int32) (S : lm_S) : km_fr (km_small md S) S := ((gq_flag _ _ _).it (km_fr.rf _)).tr ((((gq_flag _ _ _).it (gq_flag _ _ _)).it ((gq_flag _ _ _).it (km_fr.rf _))).tr (((gq_mark _ _).st.it (km_fr.rf _)).tr ((gq_mark _ _).st.it (km_fr.rf _))))
theorem gq_hop (o : Int32) (S : lm_S) : km_fr (km_hop o S) S := (km_fr.rf S).st
theorem gq_branch (md o : Int32) (S : lm_S) : km_fr (km_branch md o S) S := ((km_fr.rf S).it (gq_hop _ _)).it ((gq_hop _ _).it (km_fr.rf S))
theorem gq_wte (t : Int32) (S : lm_S) : km_fr (km_wte t S) S := (gq_flag _ _ _).tr ((gq_flag _ _ _).tr (gq_flag _ _ _))
theorem gq_win (p v : Int32) (S : lm_S) : km_fr (km_win p v S) S := (gq_change _ _ _).tr (gq_mark _ _)
theorem gq_wsl (op p t c : Int32) (S : lm_S) : km_fr (km_wsl op p t c S) S := (gq_flag _ _ _).tr (gq_win _ _ _)
theorem gq_wsr (op p t c : Int32) (S : lm_S) : km_fr (km_wsr op p t c S) S := (gq_flag _ _ _).tr (gq_win _ _ _)
theorem gq_tr (d : Nat) (v : Int32) (S : lm_S) : km_fr (km_tr d v S) S := (gq_mark _ _).st
theorem gq_wk (op p t c : Int32) (S : lm_S) : km_fr (km_wk op p t c S) S := (km_fr.it (gq_mark _ _).st (km_fr.it (gq_mark _ _).st (km_fr.it (gq_mark _ _).st (km_fr.it (gq_change _ _ _) (km_fr.it (gq_change _ _ _) (km_fr.it (gq_change _ _ _) (km_fr.it (gq_add _ _) (km_fr.it (gq_add _ _) (km_fr.it (gq_mark _ _).st (km_fr.it (gq_mark _ _).st (km_fr.it (gq_mark _ _).st (km_fr.it (gq_cmp _ _ _) (km_fr.it (gq_cmp _ _ _) (km_fr.it (gq_cmp _ _ _) (km_fr.it (gq_wte _ _) (km_fr.it (gq_win _ _ _) (km_fr.it (gq_win _ _ _) (km_fr.it (gq_wsl _ _ _ _ _) (km_fr.it (gq_wsr _ _ _ _ _) (km_fr.it (gq_wsl _ _ _ _ _) (gq_wsr _ _ _ _ _)))))))))))))))))))))
theorem gq_move (md : Int32) (S : lm_S) : km_fr (km_move md S) S := (km_fr.it (gq_tr _ _ _) (km_fr.it (gq_tr _ _ _) (km_fr.it (gq_tr _ _ _) (km_fr.it (gq_tr _ _ _) (km_fr.it (gq_tr _ _ _) (km_fr.it (km_fr.rf S).st (km_fr.it (gq_tr _ _ _) (gq_tr _ _ _))))))))
theorem gq_o1 (k : Int32) (S : lm_S) : km_fr (km_o1 k S) S := (km_fr.rf S).st
theorem gq_out (S : lm_S) : km_fr (km_out S) S := ((gq_o1 _ _).tr ((gq_o1 _ _).tr ((gq_o1 _ _).tr ((gq_o1 _ _).tr ((gq_o1 _ _).tr ((gq_o1 _ _).tr (gq_o1 _ _))))))).st.st
theorem gq_shi : ∀ (n k : Nat) (S : lm_S), km_fr (km_shi n k S) S
  | 0, _, S => km_fr.rf S
  | n + 1, k, S => (gq_shi n (k + 1) _).tr (km_fr.rf S).st
theorem gq_i1 (S : lm_S) : km_fr (km_i1 S) S := gq_flag _ _ _
theorem gq_i2 (v : Int32) (S : lm_S) : km_fr (km_i2 v S) S := (gq_mark _ _).st
theorem gq_i3 (w : Nat) (S : lm_S) : km_fr (km_i3 w S) S := km_fr.it (km_fr.rf _) ((gq_shi _ _ _).tr (km_fr.rf _).st)
theorem gq_in (w : Nat) (S : lm_S) : km_fr (km_in w S) S := (gq_i3 _ _).tr ((gq_i2 _ _).tr (gq_i1 _))
theorem gq_stack (w : Nat) (md : Int32) (S : lm_S) : km_fr (km_stack w md S) S := km_fr.it ((gq_pull _).tr (gq_pull _)).st (km_fr.it (gq_push _ _) (km_fr.it ((gq_tr _ _ _).tr (gq_pull _)) (km_fr.it (gq_push _ _) (km_fr.it (gq_pull _).st (km_fr.it (km_fr.rf S).st (km_fr.it (gq_in _ _) (gq_out _)))))))
theorem gq_jmp (op p : Int32) (S : lm_S) : km_fr (km_jmp op p S) S := km_fr.it ((gq_push _ _).tr (gq_push _ _)).st (km_fr.rf S).st
theorem gq_work (op p : Int32) (S : lm_S) : km_fr (km_work op p S) S := gq_wk _ _ _ _ _
theorem gq_disp (w : Nat) (op md be i wd : Int32) (S : lm_S) : km_fr (km_disp w op md be i wd S) S := km_fr.it (km_fr.it (km_fr.it (gq_stack _ _ _) (km_fr.it (gq_move _ _) (km_fr.it (gq_small _ _) (km_fr.it (gq_branch _ _ _) (km_fr.rf S))))) (km_fr.it (km_fr.rf S) (km_fr.it (km_fr.rf S) (gq_jmp _ _ _)))) (km_fr.it (gq_work _ _ _) (gq_work _ _ _))
theorem gq_step (S : lm_S) : km_fr (km_step S) S := (gq_disp _ _ _ _ _ _ _).tr ((km_fr.rf _).st.tr (km_fr.rf S).s8.s9)
/-! turn -/
def km_cpt (j : Nat) (a : Int32) : Nat → Nat → Nat → lm_S → Nat × lm_S
  | 0, _, n, S => (n, S)
  | m + 1, k, n, S => if S j k = a then km_cpt j a m (k + 1) n S else km_cpt j a m (k + 1) (n + 1) (lm_set S j n (S j k))
def km_tur (j c : Nat) (a on : Int32) (S : lm_S) : Option (Nat × lm_S) := if km_within a 511 = 0 then none else if km_hs j a S c 0 = on then none else if on = 0 then some (km_cpt j a c 0 0 S) else if c = 4 then none else some (c + 1, lm_set S j c a)
def km_tun (r : Option (Nat × lm_S)) : Int32 := match r with
  | none => -1
  | some q => nI q.1
def km_tus (r : Option (Nat × lm_S)) (S : lm_S) : lm_S := match r with
  | none => S
  | some q => q.2
abbrev ca_tu : lm_Ca := [(32, 2, none, s_R_within), (100, 3, none, s_R_has)]
theorem tu_step {post : Option Value → lm_S → Prop} (j : Nat) (hj : j = 19 ∨ j = 20) (c k n : Nat) (a on : Int32) (S : lm_S) (hc : c ≤ 4) (hk : k < c) (hn : n ≤ k)
    (h1 : S j k = a → lm_Go YF g_R_turn ca_tu post 49 [(0, .ref j), (1, .int (nI c)), (2, .int a), (3, .int on), (4, .int (nI n)), (5, .int (nI (k + 1)))] [] S)
    (h2 : ¬ S j k = a → lm_Go YF g_R_turn ca_tu post 49 [(0, .ref j), (1, .int (nI c)), (2, .int a), (3, .int on), (4, .int (nI (n + 1))), (5, .int (nI (k + 1)))] [] (lm_set S j n (S j k))) :
    lm_Go YF g_R_turn ca_tu post 49 [(0, .ref j), (1, .int (nI c)), (2, .int a), (3, .int on), (4, .int (nI n)), (5, .int (nI k))] [] S := by
  have e1 : nI (k + 1) = nI k + 1 := (nI_1 k).symm
  have e2 : nI (n + 1) = nI n + 1 := (nI_1 n).symm
  rw [e1] at h1 h2
  rw [e2] at h2
  have ek : (nI k).toNatClampNeg = k := nI_clamp (by omega)
  have en : (nI n).toNatClampNeg = n := nI_clamp (by omega)
  rcases hj with rfl | rfl
  · refine lm_to 49 40 ?_
    conv => whnf
    refine ⟨fun hy => absurd hy (nI_ge (show k < c by omega) (by omega)), fun _ => ?_⟩
    conv => whnf
    refine ⟨vp_in_nI (by omega) (by decide), ?_⟩
    conv => whnf
    refine ⟨fun (hy : S 19 (nI k).toNatClampNeg = a) => ?_, fun (hy : ¬ S 19 (nI k).toNatClampNeg = a) => ?_⟩
    · rw [ek] at hy
      exact lm_Go.sub (h1 hy) (kk_cons rfl (kk_cons rfl (kk_cons rfl (kk_cons rfl (kk_cons rfl (kk_cons rfl kk_nil))))))
    · conv => whnf
      refine ⟨vp_in_nI (by omega) (by decide), ?_⟩
      have hy2 := hy
      rw [ek] at hy2
      have g := h2 hy2
      have e3 : lm_set S 19 (nI n).toNatClampNeg (S 19 (nI k).toNatClampNeg) = lm_set S 19 n (S 19 k) := by rw [ek, en]
      rw [← e3] at g
      exact lm_Go.sub g (kk_cons rfl (kk_cons rfl (kk_cons rfl (kk_cons rfl (kk_cons rfl (kk_cons rfl kk_nil))))))
  · refine lm_to 49 40 ?_
    conv => whnf
    refine ⟨fun hy => absurd hy (nI_ge (show k < c by omega) (by omega)), fun _ => ?_⟩
    conv => whnf
    refine ⟨vp_in_nI (by omega) (by decide), ?_⟩
    conv => whnf
    refine ⟨fun (hy : S 20 (nI k).toNatClampNeg = a) => ?_, fun (hy : ¬ S 20 (nI k).toNatClampNeg = a) => ?_⟩
    · rw [ek] at hy
      exact lm_Go.sub (h1 hy) (kk_cons rfl (kk_cons rfl (kk_cons rfl (kk_cons rfl (kk_cons rfl (kk_cons rfl kk_nil))))))
    · conv => whnf
      refine ⟨vp_in_nI (by omega) (by decide), ?_⟩
      have hy2 := hy
      rw [ek] at hy2
      have g := h2 hy2
      have e3 : lm_set S 20 (nI n).toNatClampNeg (S 20 (nI k).toNatClampNeg) = lm_set S 20 n (S 20 k) := by rw [ek, en]
      rw [← e3] at g
      exact lm_Go.sub g (kk_cons rfl (kk_cons rfl (kk_cons rfl (kk_cons rfl (kk_cons rfl (kk_cons rfl kk_nil))))))
theorem tu_loop {post : Option Value → lm_S → Prop} (j : Nat) (hj : j = 19 ∨ j = 20) (c : Nat) (hc : c ≤ 4) (a on : Int32) : ∀ (m k n : Nat) (S : lm_S), k + m = c → n ≤ k → post (some (.int (nI (km_cpt j a m k n S).1))) (km_cpt j a m k n S).2 → lm_Go YF g_R_turn ca_tu post 49 [(0, .ref j), (1, .int (nI c)), (2, .int a), (3, .int on), (4, .int (nI n)), (5, .int (nI k))] [] S
  | 0, k, n, S, hk, hn, h => by
    refine lm_run 20 ?_
    conv => whnf
    refine ⟨fun _ => ?_, fun hy => absurd (nI_le (show c ≤ k by omega) (by omega)) hy⟩
    exact h
  | m + 1, k, n, S, hk, hn, h => by
    rw [km_cpt] at h
    refine tu_step j hj c k n a on S hc (by omega) hn (fun hy => ?_) (fun hy => ?_)
    · rw [if_pos hy] at h
      exact tu_loop j hj c hc a on m (k + 1) n S (by omega) (by omega) h
    · rw [if_neg hy] at h
      exact tu_loop j hj c hc a on m (k + 1) (n + 1) _ (by omega) (by omega) h
def s_R_turn : lm_Sp := fun av S post => ∃ (j c : Nat) (a on : Int32), av = [.ref j, .int (nI c), .int a, .int on] ∧ (j = 19 ∨ j = 20) ∧ c ≤ 4 ∧ post (some (.int (km_tun (km_tur j c a on S)))) (km_tus (km_tur j c a on S) S)
theorem tu_on {post : Option Value → lm_S → Prop} (j : Nat) (hj : j = 19 ∨ j = 20) (c : Nat) (hc : c < 4) (a on : Int32) (S : lm_S) (hon : ¬ on = 0) (h : post (some (.int (nI (c + 1)))) (lm_set S j c a)) : lm_Go YF g_R_turn ca_tu post 31 [(0, .ref j), (1, .int (nI c)), (2, .int a), (3, .int on)] [] S := by
  have ec : (nI c).toNatClampNeg = c := nI_clamp (by omega)
  rw [← nI_1, ← ec] at h
  rw [ec] at h
  refine lm_run 20 ?_
  have h2 : post (some (.int (nI c + 1))) (lm_set S j (nI c).toNatClampNeg a) := by rw [ec]; exact h
  rcases hj with rfl | rfl
  · conv => whnf
    refine ⟨fun hy => absurd hy hon, fun _ => ?_⟩
    conv => whnf
    refine ⟨vp_in_nI (by omega) (by decide), ?_⟩
    exact h2
  · conv => whnf
    refine ⟨fun hy => absurd hy hon, fun _ => ?_⟩
    conv => whnf
    refine ⟨vp_in_nI (by omega) (by decide), ?_⟩
    exact h2
theorem tu_off {post : Option Value → lm_S → Prop} (j : Nat) (hj : j = 19 ∨ j = 20) (c : Nat) (hc : c ≤ 4) (a : Int32) (S : lm_S) (h : post (some (.int (nI (km_cpt j a c 0 0 S).1))) (km_cpt j a c 0 0 S).2) : lm_Go YF g_R_turn ca_tu post 31 [(0, .ref j), (1, .int (nI c)), (2, .int a), (3, .int 0)] [] S := by
  refine lm_to 49 20 ?_
  conv => whnf
  refine ⟨fun _ => ?_, fun hy => absurd rfl hy⟩
  exact lm_Go.sub (tu_loop j hj c hc a 0 c 0 0 S (by omega) (by omega) h) (kk_cons rfl (kk_cons rfl (kk_cons rfl (kk_cons rfl (kk_cons rfl (kk_cons rfl kk_nil))))))
abbrev ca_R_turn : lm_Ca := [(32, 2, none, s_R_within), (100, 3, none, s_R_has)]
theorem cok_R_turn (l : Launch) : lm_cok l (kk_Y kk_shF) R_R 1 23 ca_R_turn := kk_cok (kk_cons ⟨y_R_within, b_R_within, 2, some .boolean, 0, 0, I_R_within l, ⟨by decide, by decide⟩, yw_R_within, li_R_32⟩ <| kk_cons ⟨y_R_has, b_R_has, 4, some .boolean, 0, 0, I_R_has l, ⟨by decide, by decide⟩, yw_R_has, li_R_100⟩ <| kk_nil)
set_option maxHeartbeats 1000000 in
set_option maxRecDepth 20000 in
theorem I_R_turn (l : Launch) : lm_I l (kk_Y kk_shF) y_R_turn b_R_turn 7 (some .int) 1 23 s_R_turn := by
  refine lm_impl g_R_turn ca_R_turn (by decide +kernel) kk_okF ck_R_turn (kk_fok fl_R_ok) (kk_sok sl_R_ok) (Or.inl rfl) (cok_R_turn l) rfl (by decide) ?_
  rintro av S post ⟨j, c, a, on, rfl, hj, hc, h⟩
  refine ⟨Nat.le_of_ble_eq_true rfl, lm_to 31 30 ?_⟩
  unfold km_tur at h
  conv => whnf
  refine ⟨_, _, rfl, ?_⟩
  conv => whnf
  refine ⟨fun (hy : km_within a 511 = 0) => ?_, fun (hy : ¬ km_within a 511 = 0) => ?_⟩
  · rw [if_pos hy] at h
    exact h
  · rw [if_neg hy] at h
    conv => whnf
    refine ⟨j, c, a, rfl, hj, hc, ?_⟩
    conv => whnf
    refine ⟨fun (hz : km_hs j a S c 0 = on) => ?_, fun (hz : ¬ km_hs j a S c 0 = on) => ?_⟩
    · rw [if_pos hz] at h
      exact h
    · rw [if_neg hz] at h
      conv => whnf
      refine ⟨fun (h0 : on = 0) => ?_, fun (h0 : ¬ on = 0) => ?_⟩
      · rw [if_pos h0] at h
        subst h0
        exact lm_Go.sub (tu_off j hj c hc a S h) (kk_cons rfl (kk_cons rfl (kk_cons rfl (kk_cons rfl kk_nil))))
      · rw [if_neg h0] at h
        conv => whnf
        refine ⟨fun (h4 : ¬ nI c = 4) => ?_, fun (h4 : nI c = 4) => ?_⟩
        · have h5 : ¬ c = 4 := fun q => h4 (by rw [q]; rfl)
          rw [if_neg h5] at h
          exact lm_Go.sub (tu_on j hj c (by omega) a on S h0 h) (kk_cons rfl (kk_cons rfl (kk_cons rfl (kk_cons rfl kk_nil))))
        · have h5 : c = 4 := (nI_eq (b := 4) (by omega) (by omega)).mp h4
          rw [if_pos h5] at h
          exact h
/-! what it shows -/
theorem km_within_in {a m : Int32} {n : Nat} (hm : m.toInt = (n : Int)) (h : ¬ km_within a m = 0) : vp_in a (n + 1) := by
  unfold km_within at h
  split at h
  · exact absurd rfl h
  · split at h
    · exact absurd rfl h
    · rename_i h1 h2
      rw [vp_in_iff]
      rw [Int32.lt_iff_toInt_lt, Int32.toInt_zero] at h1
      rw [Int32.lt_iff_toInt_lt, hm] at h2
      omega
def s_R_time : lm_Sp := fun av S post => av = [.ref 16] ∧ post (some (.int (S 16 2))) S
abbrev ca_R_time : lm_Ca := []
theorem cok_R_time (l : Launch) : lm_cok l (kk_Y kk_shF) R_R 0 0 ca_R_time := kk_cok (kk_nil)
set_option maxHeartbeats 1000000 in
set_option maxRecDepth 20000 in
theorem I_R_time (l : Launch) : lm_I l (kk_Y kk_shF) y_R_time b_R_time 1 (some .int) 0 0 s_R_time := by
  refine lm_impl g_R_time ca_R_time (by decide +kernel) kk_okF ck_R_time (kk_fok fl_R_ok) (kk_sok sl_R_ok) (Or.inl rfl) (cok_R_time l) rfl (by decide) ?_
  rintro av S post ⟨rfl, h⟩
  exact ⟨Nat.le_of_ble_eq_true rfl, lm_run 60 h⟩
def s_R_last : lm_Sp := fun av S post => av = [.ref 16] ∧ post (some (.int (S 16 3))) S
abbrev ca_R_last : lm_Ca := []
theorem cok_R_last (l : Launch) : lm_cok l (kk_Y kk_shF) R_R 0 0 ca_R_last := kk_cok (kk_nil)
set_option maxHeartbeats 1000000 in
set_option maxRecDepth 20000 in
theorem I_R_last (l : Launch) : lm_I l (kk_Y kk_shF) y_R_last b_R_last 1 (some .int) 0 0 s_R_last := by
  refine lm_impl g_R_last ca_R_last (by decide +kernel) kk_okF ck_R_last (kk_fok fl_R_ok) (kk_sok sl_R_ok) (Or.inl rfl) (cok_R_last l) rfl (by decide) ?_
  rintro av S post ⟨rfl, h⟩
  exact ⟨Nat.le_of_ble_eq_true rfl, lm_run 60 h⟩
def s_R_waiting : lm_Sp := fun av S post => av = [.ref 16] ∧ post (some (.int (S 18 519))) S
abbrev ca_R_waiting : lm_Ca := []
theorem cok_R_waiting (l : Launch) : lm_cok l (kk_Y kk_shF) R_R 0 0 ca_R_waiting := kk_cok (kk_nil)
set_option maxHeartbeats 1000000 in
set_option maxRecDepth 20000 in
theorem I_R_waiting (l : Launch) : lm_I l (kk_Y kk_shF) y_R_waiting b_R_waiting 1 (some .int) 0 0 s_R_waiting := by
  refine lm_impl g_R_waiting ca_R_waiting (by decide +kernel) kk_okF ck_R_waiting (kk_fok fl_R_ok) (kk_sok sl_R_ok) (Or.inl rfl) (cok_R_waiting l) rfl (by decide) ?_
  rintro av S post ⟨rfl, h⟩
  refine ⟨Nat.le_of_ble_eq_true rfl, lm_run 60 ?_⟩
  (try (conv => whnf))
  repeat' first
    | (refine ⟨_, rfl, ?_⟩; conv => whnf)
    | (refine ⟨_, _, rfl, ?_⟩; conv => whnf)
    | (refine ⟨_, _, _, rfl, ?_⟩; conv => whnf)
    | (refine ⟨_, _, _, _, rfl, ?_⟩; conv => whnf)
    | (refine And.intro rfl ?_; conv => whnf)
    | (refine And.intro (lm_vc (by decide)) ?_; conv => whnf)
    | (refine And.intro (by decide) ?_; conv => whnf)
    | (refine ⟨fun hx => absurd hx (by decide), fun _ => ?_⟩; conv => whnf)
    | (refine ⟨fun _ => ?_, fun hx => absurd hx (by decide)⟩; conv => whnf)
    | (refine And.intro (hw hx) ?_; conv => whnf)
    | (refine And.intro hw ?_; conv => whnf)
    | (refine And.intro hw2 ?_; conv => whnf)
    | (refine And.intro hw3 ?_; conv => whnf)
    | (refine And.intro hw4 ?_; conv => whnf)
    | (refine And.intro hw5 ?_; conv => whnf)
    | (refine And.intro hw6 ?_; conv => whnf)
    | (refine And.intro hw7 ?_; conv => whnf)
    | (refine And.intro (hv1 (by assumption)) ?_; conv => whnf)
    | (refine And.intro (hv2 (by assumption) (by assumption)) ?_; conv => whnf)
    | (refine And.intro (hv3 (by assumption) (by assumption)) ?_; conv => whnf)
    | (refine And.intro (lm_v511 _) ?_; conv => whnf)
    | (refine And.intro (lm_v7 _) ?_; conv => whnf)
    | (refine ⟨fun hx => ?_, fun hx => ?_⟩ <;> conv => whnf)
    | (split at h)
    | contradiction
    | exact h
def s_R_puts : lm_Sp := fun av S post => av = [.ref 16] ∧ post (some (.int (S 18 560))) S
abbrev ca_R_puts : lm_Ca := []
theorem cok_R_puts (l : Launch) : lm_cok l (kk_Y kk_shF) R_R 0 0 ca_R_puts := kk_cok (kk_nil)
set_option maxHeartbeats 1000000 in
set_option maxRecDepth 20000 in
theorem I_R_puts (l : Launch) : lm_I l (kk_Y kk_shF) y_R_puts b_R_puts 1 (some .int) 0 0 s_R_puts := by
  refine lm_impl g_R_puts ca_R_puts (by decide +kernel) kk_okF ck_R_puts (kk_fok fl_R_ok) (kk_sok sl_R_ok) (Or.inl rfl) (cok_R_puts l) rfl (by decide) ?_
  rintro av S post ⟨rfl, h⟩
  refine ⟨Nat.le_of_ble_eq_true rfl, lm_run 60 ?_⟩
  (try (conv => whnf))
  repeat' first
    | (refine ⟨_, rfl, ?_⟩; conv => whnf)
    | (refine ⟨_, _, rfl, ?_⟩; conv => whnf)
    | (refine ⟨_, _, _, rfl, ?_⟩; conv => whnf)
    | (refine ⟨_, _, _, _, rfl, ?_⟩; conv => whnf)
    | (refine And.intro rfl ?_; conv => whnf)
    | (refine And.intro (lm_vc (by decide)) ?_; conv => whnf)
    | (refine And.intro (by decide) ?_; conv => whnf)
    | (refine ⟨fun hx => absurd hx (by decide), fun _ => ?_⟩; conv => whnf)
    | (refine ⟨fun _ => ?_, fun hx => absurd hx (by decide)⟩; conv => whnf)
    | (refine And.intro (hw hx) ?_; conv => whnf)
    | (refine And.intro hw ?_; conv => whnf)
    | (refine And.intro hw2 ?_; conv => whnf)
    | (refine And.intro hw3 ?_; conv => whnf)
    | (refine And.intro hw4 ?_; conv => whnf)
    | (refine And.intro hw5 ?_; conv => whnf)
    | (refine And.intro hw6 ?_; conv => whnf)
    | (refine And.intro hw7 ?_; conv => whnf)
    | (refine And.intro (hv1 (by assumption)) ?_; conv => whnf)
    | (refine And.intro (hv2 (by assumption) (by assumption)) ?_; conv => whnf)
    | (refine And.intro (hv3 (by assumption) (by assumption)) ?_; conv => whnf)
    | (refine And.intro (lm_v511 _) ?_; conv => whnf)
    | (refine And.intro (lm_v7 _) ?_; conv => whnf)
    | (refine ⟨fun hx => ?_, fun hx => ?_⟩ <;> conv => whnf)
    | (split at h)
    | contradiction
    | exact h
def km_cellr (a : Int32) (S : lm_S) : Int32 := if km_within a 511 = 0 then -1 else S 18 a.toNatClampNeg
def s_R_cell : lm_Sp := fun av S post => ∃ a, av = [.ref 16, .int a] ∧ post (some (.int (km_cellr a S))) S
abbrev ca_R_cell : lm_Ca := [(32, 2, none, s_R_within)]
theorem cok_R_cell (l : Launch) : lm_cok l (kk_Y kk_shF) R_R 1 21 ca_R_cell := kk_cok (kk_cons ⟨y_R_within, b_R_within, 2, some .boolean, 0, 0, I_R_within l, ⟨by decide, by decide⟩, yw_R_within, li_R_32⟩ <| kk_nil)
set_option maxHeartbeats 1000000 in
set_option maxRecDepth 20000 in
theorem I_R_cell (l : Launch) : lm_I l (kk_Y kk_shF) y_R_cell b_R_cell 2 (some .int) 1 21 s_R_cell := by
  refine lm_impl g_R_cell ca_R_cell (by decide +kernel) kk_okF ck_R_cell (kk_fok fl_R_ok) (kk_sok sl_R_ok) (Or.inl rfl) (cok_R_cell l) rfl (by decide) ?_
  rintro av S post ⟨a, rfl, h⟩
  have hw : ¬ km_within a 511 = 0 → vp_in a 569 := fun h => vp_in_up (km_within_in (n := 511) (by decide) h) (by omega)
  refine ⟨Nat.le_of_ble_eq_true rfl, lm_run 60 ?_⟩
  unfold km_cellr at h
  (try (conv => whnf))
  repeat' first
    | (refine ⟨_, rfl, ?_⟩; conv => whnf)
    | (refine ⟨_, _, rfl, ?_⟩; conv => whnf)
    | (refine ⟨_, _, _, rfl, ?_⟩; conv => whnf)
    | (refine ⟨_, _, _, _, rfl, ?_⟩; conv => whnf)
    | (refine And.intro rfl ?_; conv => whnf)
    | (refine And.intro (lm_vc (by decide)) ?_; conv => whnf)
    | (refine And.intro (by decide) ?_; conv => whnf)
    | (refine ⟨fun hx => absurd hx (by decide), fun _ => ?_⟩; conv => whnf)
    | (refine ⟨fun _ => ?_, fun hx => absurd hx (by decide)⟩; conv => whnf)
    | (refine And.intro (hw hx) ?_; conv => whnf)
    | (refine And.intro hw ?_; conv => whnf)
    | (refine And.intro hw2 ?_; conv => whnf)
    | (refine And.intro hw3 ?_; conv => whnf)
    | (refine And.intro hw4 ?_; conv => whnf)
    | (refine And.intro hw5 ?_; conv => whnf)
    | (refine And.intro hw6 ?_; conv => whnf)
    | (refine And.intro hw7 ?_; conv => whnf)
    | (refine And.intro (hv1 (by assumption)) ?_; conv => whnf)
    | (refine And.intro (hv2 (by assumption) (by assumption)) ?_; conv => whnf)
    | (refine And.intro (hv3 (by assumption) (by assumption)) ?_; conv => whnf)
    | (refine And.intro (lm_v511 _) ?_; conv => whnf)
    | (refine And.intro (lm_v7 _) ?_; conv => whnf)
    | (refine ⟨fun hx => ?_, fun hx => ?_⟩ <;> conv => whnf)
    | (split at h)
    | contradiction
    | exact h
def km_regr (a : Int32) (S : lm_S) : Int32 := if km_within a 6 = 0 then -1 else S 18 (512 + a).toNatClampNeg
def s_R_register : lm_Sp := fun av S post => ∃ a, av = [.ref 16, .int a] ∧ post (some (.int (km_regr a S))) S
theorem km_reg_in {a : Int32} (h : vp_in a 7) : vp_in (512 + a) 569 := by
  obtain ⟨j, hj, rfl⟩ := vp_in_of h (by decide)
  rw [show (512 : Int32) = nI 512 from rfl, nI_add]
  exact vp_in_nI (by omega) (by decide)
abbrev ca_R_register : lm_Ca := [(32, 2, none, s_R_within)]
theorem cok_R_register (l : Launch) : lm_cok l (kk_Y kk_shF) R_R 1 21 ca_R_register := kk_cok (kk_cons ⟨y_R_within, b_R_within, 2, some .boolean, 0, 0, I_R_within l, ⟨by decide, by decide⟩, yw_R_within, li_R_32⟩ <| kk_nil)
set_option maxHeartbeats 1000000 in
set_option maxRecDepth 20000 in
theorem I_R_register (l : Launch) : lm_I l (kk_Y kk_shF) y_R_register b_R_register 2 (some .int) 1 21 s_R_register := by
  refine lm_impl g_R_register ca_R_register (by decide +kernel) kk_okF ck_R_register (kk_fok fl_R_ok) (kk_sok sl_R_ok) (Or.inl rfl) (cok_R_register l) rfl (by decide) ?_
  rintro av S post ⟨a, rfl, h⟩
  have hw : ¬ km_within a 6 = 0 → vp_in (512 + a) 569 := fun h => km_reg_in (km_within_in (n := 6) (by decide) h)
  refine ⟨Nat.le_of_ble_eq_true rfl, lm_run 60 ?_⟩
  unfold km_regr at h
  (try (conv => whnf))
  repeat' first
    | (refine ⟨_, rfl, ?_⟩; conv => whnf)
    | (refine ⟨_, _, rfl, ?_⟩; conv => whnf)
    | (refine ⟨_, _, _, rfl, ?_⟩; conv => whnf)
    | (refine ⟨_, _, _, _, rfl, ?_⟩; conv => whnf)
    | (refine And.intro rfl ?_; conv => whnf)
    | (refine And.intro (lm_vc (by decide)) ?_; conv => whnf)
    | (refine And.intro (by decide) ?_; conv => whnf)
    | (refine ⟨fun hx => absurd hx (by decide), fun _ => ?_⟩; conv => whnf)
    | (refine ⟨fun _ => ?_, fun hx => absurd hx (by decide)⟩; conv => whnf)
    | (refine And.intro (hw hx) ?_; conv => whnf)
    | (refine And.intro hw ?_; conv => whnf)
    | (refine And.intro hw2 ?_; conv => whnf)
    | (refine And.intro hw3 ?_; conv => whnf)
    | (refine And.intro hw4 ?_; conv => whnf)
    | (refine And.intro hw5 ?_; conv => whnf)
    | (refine And.intro hw6 ?_; conv => whnf)
    | (refine And.intro hw7 ?_; conv => whnf)
    | (refine And.intro (hv1 (by assumption)) ?_; conv => whnf)
    | (refine And.intro (hv2 (by assumption) (by assumption)) ?_; conv => whnf)
    | (refine And.intro (hv3 (by assumption) (by assumption)) ?_; conv => whnf)
    | (refine And.intro (lm_v511 _) ?_; conv => whnf)
    | (refine And.intro (lm_v7 _) ?_; conv => whnf)
    | (refine ⟨fun hx => ?_, fun hx => ?_⟩ <;> conv => whnf)
    | (split at h)
    | contradiction
    | exact h
def km_outr (k : Int32) (S : lm_S) : Int32 := if km_within k 7 = 0 then -1 else if S 18 560 ≤ k then -1 else S 18 (561 + k).toNatClampNeg
def s_R_output : lm_Sp := fun av S post => ∃ k, av = [.ref 16, .int k] ∧ post (some (.int (km_outr k S))) S
abbrev ca_R_output : lm_Ca := [(32, 2, none, s_R_within)]
theorem cok_R_output (l : Launch) : lm_cok l (kk_Y kk_shF) R_R 1 21 ca_R_output := kk_cok (kk_cons ⟨y_R_within, b_R_within, 2, some .boolean, 0, 0, I_R_within l, ⟨by decide, by decide⟩, yw_R_within, li_R_32⟩ <| kk_nil)
set_option maxHeartbeats 1000000 in
set_option maxRecDepth 20000 in
theorem I_R_output (l : Launch) : lm_I l (kk_Y kk_shF) y_R_output b_R_output 2 (some .int) 1 21 s_R_output := by
  refine lm_impl g_R_output ca_R_output (by decide +kernel) kk_okF ck_R_output (kk_fok fl_R_ok) (kk_sok sl_R_ok) (Or.inl rfl) (cok_R_output l) rfl (by decide) ?_
  rintro av S post ⟨k, rfl, h⟩
  have hv1 : ¬ km_within k 7 = 0 → vp_in (561 + k) 569 := fun h => by
    obtain ⟨j, hj, rfl⟩ := vp_in_of (km_within_in (n := 7) (by decide) h) (by decide)
    rw [show (561 : Int32) = nI 561 from rfl, nI_add]
    exact vp_in_nI (by omega) (by decide)
  refine ⟨Nat.le_of_ble_eq_true rfl, lm_run 60 ?_⟩
  unfold km_outr at h
  (try (conv => whnf))
  repeat' first
    | (refine ⟨_, rfl, ?_⟩; conv => whnf)
    | (refine ⟨_, _, rfl, ?_⟩; conv => whnf)
    | (refine ⟨_, _, _, rfl, ?_⟩; conv => whnf)
    | (refine ⟨_, _, _, _, rfl, ?_⟩; conv => whnf)
    | (refine And.intro rfl ?_; conv => whnf)
    | (refine And.intro (lm_vc (by decide)) ?_; conv => whnf)
    | (refine And.intro (by decide) ?_; conv => whnf)
    | (refine ⟨fun hx => absurd hx (by decide), fun _ => ?_⟩; conv => whnf)
    | (refine ⟨fun _ => ?_, fun hx => absurd hx (by decide)⟩; conv => whnf)
    | (refine And.intro (hw hx) ?_; conv => whnf)
    | (refine And.intro hw ?_; conv => whnf)
    | (refine And.intro hw2 ?_; conv => whnf)
    | (refine And.intro hw3 ?_; conv => whnf)
    | (refine And.intro hw4 ?_; conv => whnf)
    | (refine And.intro hw5 ?_; conv => whnf)
    | (refine And.intro hw6 ?_; conv => whnf)
    | (refine And.intro hw7 ?_; conv => whnf)
    | (refine And.intro (hv1 (by assumption)) ?_; conv => whnf)
    | (refine And.intro (hv2 (by assumption) (by assumption)) ?_; conv => whnf)
    | (refine And.intro (hv3 (by assumption) (by assumption)) ?_; conv => whnf)
    | (refine And.intro (lm_v511 _) ?_; conv => whnf)
    | (refine And.intro (lm_v7 _) ?_; conv => whnf)
    | (refine ⟨fun hx => ?_, fun hx => ?_⟩ <;> conv => whnf)
    | (split at h)
    | contradiction
    | exact h
def km_pokes (a v : Int32) (S : lm_S) : lm_S := if km_within a 511 = 0 then S else km_an (lm_set S 18 a.toNatClampNeg (v &&& 255))
def km_w01 (x : Int32) : Int32 := if x = 0 then 0 else 1
def s_R_poke : lm_Sp := fun av S post => ∃ a v, av = [.ref 16, .int a, .int v] ∧ post (some (.int (km_w01 (km_within a 511)))) (km_pokes a v S)
abbrev ca_R_poke : lm_Ca := [(22, 0, (some 4), s_R_anew), (32, 2, none, s_R_within)]
theorem cok_R_poke (l : Launch) : lm_cok l (kk_Y kk_shF) R_R 1 21 ca_R_poke := kk_cok (kk_cons ⟨y_R_anew, b_R_anew, 2, none, 0, 0, I_R_anew l, ⟨by decide, by decide⟩, yw_R_anew, li_R_22⟩ <| kk_cons ⟨y_R_within, b_R_within, 2, some .boolean, 0, 0, I_R_within l, ⟨by decide, by decide⟩, yw_R_within, li_R_32⟩ <| kk_nil)
set_option maxHeartbeats 1000000 in
set_option maxRecDepth 20000 in
theorem I_R_poke (l : Launch) : lm_I l (kk_Y kk_shF) y_R_poke b_R_poke 3 (some .boolean) 1 21 s_R_poke := by
  refine lm_impl g_R_poke ca_R_poke (by decide +kernel) kk_okF ck_R_poke (kk_fok fl_R_ok) (kk_sok sl_R_ok) (Or.inl rfl) (cok_R_poke l) rfl (by decide) ?_
  rintro av S post ⟨a, v, rfl, h⟩
  have hw : ¬ km_within a 511 = 0 → vp_in a 569 := fun h => vp_in_up (km_within_in (n := 511) (by decide) h) (by omega)
  refine ⟨Nat.le_of_ble_eq_true rfl, lm_run 60 ?_⟩
  unfold km_pokes km_w01 at h
  (try (conv => whnf))
  repeat' first
    | (refine ⟨_, rfl, ?_⟩; conv => whnf)
    | (refine ⟨_, _, rfl, ?_⟩; conv => whnf)
    | (refine ⟨_, _, _, rfl, ?_⟩; conv => whnf)
    | (refine ⟨_, _, _, _, rfl, ?_⟩; conv => whnf)
    | (refine And.intro rfl ?_; conv => whnf)
    | (refine And.intro (lm_vc (by decide)) ?_; conv => whnf)
    | (refine And.intro (by decide) ?_; conv => whnf)
    | (refine ⟨fun hx => absurd hx (by decide), fun _ => ?_⟩; conv => whnf)
    | (refine ⟨fun _ => ?_, fun hx => absurd hx (by decide)⟩; conv => whnf)
    | (refine And.intro (hw hx) ?_; conv => whnf)
    | (refine And.intro hw ?_; conv => whnf)
    | (refine And.intro hw2 ?_; conv => whnf)
    | (refine And.intro hw3 ?_; conv => whnf)
    | (refine And.intro hw4 ?_; conv => whnf)
    | (refine And.intro hw5 ?_; conv => whnf)
    | (refine And.intro hw6 ?_; conv => whnf)
    | (refine And.intro hw7 ?_; conv => whnf)
    | (refine And.intro (hv1 (by assumption)) ?_; conv => whnf)
    | (refine And.intro (hv2 (by assumption) (by assumption)) ?_; conv => whnf)
    | (refine And.intro (hv3 (by assumption) (by assumption)) ?_; conv => whnf)
    | (refine And.intro (lm_v511 _) ?_; conv => whnf)
    | (refine And.intro (lm_v7 _) ?_; conv => whnf)
    | (refine ⟨fun hx => ?_, fun hx => ?_⟩ <;> conv => whnf)
    | (split at h)
    | contradiction
    | exact h
def km_setv (k v : Int32) : Int32 := if 4 ≤ k then (if k = 4 then v &&& 195 else if k = 5 then v &&& 511 else if v = 0 then 0 else 1) else v &&& 255
def km_sets (k v : Int32) (S : lm_S) : lm_S := if km_within k 6 = 0 then S else km_an (lm_set S 18 (512 + k).toNatClampNeg (km_setv k v))
def s_R_set : lm_Sp := fun av S post => ∃ k v, av = [.ref 16, .int k, .int v] ∧ post (some (.int (km_w01 (km_within k 6)))) (km_sets k v S)
abbrev ca_R_set : lm_Ca := [(22, 0, (some 4), s_R_anew), (32, 2, none, s_R_within)]
theorem cok_R_set (l : Launch) : lm_cok l (kk_Y kk_shF) R_R 1 21 ca_R_set := kk_cok (kk_cons ⟨y_R_anew, b_R_anew, 2, none, 0, 0, I_R_anew l, ⟨by decide, by decide⟩, yw_R_anew, li_R_22⟩ <| kk_cons ⟨y_R_within, b_R_within, 2, some .boolean, 0, 0, I_R_within l, ⟨by decide, by decide⟩, yw_R_within, li_R_32⟩ <| kk_nil)
set_option maxHeartbeats 1000000 in
set_option maxRecDepth 20000 in
theorem I_R_set (l : Launch) : lm_I l (kk_Y kk_shF) y_R_set b_R_set 3 (some .boolean) 1 21 s_R_set := by
  refine lm_impl g_R_set ca_R_set (by decide +kernel) kk_okF ck_R_set (kk_fok fl_R_ok) (kk_sok sl_R_ok) (Or.inl rfl) (cok_R_set l) rfl (by decide) ?_
  rintro av S post ⟨k, v, rfl, h⟩
  have hv1 : ¬ km_within k 6 = 0 → vp_in (512 + k) 569 := fun h => km_reg_in (km_within_in (n := 6) (by decide) h)
  refine ⟨Nat.le_of_ble_eq_true rfl, lm_run 60 ?_⟩
  unfold km_sets km_w01 km_setv at h
  (try (conv => whnf))
  repeat' first
    | (refine ⟨_, rfl, ?_⟩; conv => whnf)
    | (refine ⟨_, _, rfl, ?_⟩; conv => whnf)
    | (refine ⟨_, _, _, rfl, ?_⟩; conv => whnf)
    | (refine ⟨_, _, _, _, rfl, ?_⟩; conv => whnf)
    | (refine And.intro rfl ?_; conv => whnf)
    | (refine And.intro (lm_vc (by decide)) ?_; conv => whnf)
    | (refine And.intro (by decide) ?_; conv => whnf)
    | (refine ⟨fun hx => absurd hx (by decide), fun _ => ?_⟩; conv => whnf)
    | (refine ⟨fun _ => ?_, fun hx => absurd hx (by decide)⟩; conv => whnf)
    | (refine And.intro (hw hx) ?_; conv => whnf)
    | (refine And.intro hw ?_; conv => whnf)
    | (refine And.intro hw2 ?_; conv => whnf)
    | (refine And.intro hw3 ?_; conv => whnf)
    | (refine And.intro hw4 ?_; conv => whnf)
    | (refine And.intro hw5 ?_; conv => whnf)
    | (refine And.intro hw6 ?_; conv => whnf)
    | (refine And.intro hw7 ?_; conv => whnf)
    | (refine And.intro (hv1 (by assumption)) ?_; conv => whnf)
    | (refine And.intro (hv2 (by assumption) (by assumption)) ?_; conv => whnf)
    | (refine And.intro (hv3 (by assumption) (by assumption)) ?_; conv => whnf)
    | (refine And.intro (lm_v511 _) ?_; conv => whnf)
    | (refine And.intro (lm_v7 _) ?_; conv => whnf)
    | (refine ⟨fun hx => ?_, fun hx => ?_⟩ <;> conv => whnf)
    | (split at h)
    | contradiction
    | exact h
def km_feeds (v : Int32) (S : lm_S) : lm_S := if S 18 519 = 40 then S else km_an (lm_set (lm_set S 18 (520 + S 18 519).toNatClampNeg (v &&& 255)) 18 519 ((lm_set S 18 (520 + S 18 519).toNatClampNeg (v &&& 255)) 18 519 + 1))
def s_R_feed : lm_Sp := fun av S post => ∃ v, av = [.ref 16, .int v] ∧ (∃ w : Nat, w ≤ 40 ∧ S 18 519 = nI w) ∧ post (some (.int (if S 18 519 = 40 then 0 else 1))) (km_feeds v S)
abbrev ca_R_feed : lm_Ca := [(22, 0, (some 4), s_R_anew)]
theorem cok_R_feed (l : Launch) : lm_cok l (kk_Y kk_shF) R_R 1 21 ca_R_feed := kk_cok (kk_cons ⟨y_R_anew, b_R_anew, 2, none, 0, 0, I_R_anew l, ⟨by decide, by decide⟩, yw_R_anew, li_R_22⟩ <| kk_nil)
set_option maxHeartbeats 1000000 in
set_option maxRecDepth 20000 in
theorem I_R_feed (l : Launch) : lm_I l (kk_Y kk_shF) y_R_feed b_R_feed 2 (some .boolean) 1 21 s_R_feed := by
  refine lm_impl g_R_feed ca_R_feed (by decide +kernel) kk_okF ck_R_feed (kk_fok fl_R_ok) (kk_sok sl_R_ok) (Or.inl rfl) (cok_R_feed l) rfl (by decide) ?_
  rintro av S post ⟨v, rfl, ⟨w, hw40, hS⟩, h⟩
  have hv1 : ¬ S 18 519 = 40 → vp_in (520 + S 18 519) 569 := fun _ => by
    rw [hS, show (520 : Int32) = nI 520 from rfl, nI_add]
    exact vp_in_nI (by omega) (by decide)
  refine ⟨Nat.le_of_ble_eq_true rfl, lm_run 60 ?_⟩
  unfold km_feeds at h
  (try (conv => whnf))
  repeat' first
    | (refine ⟨_, rfl, ?_⟩; conv => whnf)
    | (refine ⟨_, _, rfl, ?_⟩; conv => whnf)
    | (refine ⟨_, _, _, rfl, ?_⟩; conv => whnf)
    | (refine ⟨_, _, _, _, rfl, ?_⟩; conv => whnf)
    | (refine And.intro rfl ?_; conv => whnf)
    | (refine And.intro (lm_vc (by decide)) ?_; conv => whnf)
    | (refine And.intro (by decide) ?_; conv => whnf)
    | (refine ⟨fun hx => absurd hx (by decide), fun _ => ?_⟩; conv => whnf)
    | (refine ⟨fun _ => ?_, fun hx => absurd hx (by decide)⟩; conv => whnf)
    | (refine And.intro (hw hx) ?_; conv => whnf)
    | (refine And.intro hw ?_; conv => whnf)
    | (refine And.intro hw2 ?_; conv => whnf)
    | (refine And.intro hw3 ?_; conv => whnf)
    | (refine And.intro hw4 ?_; conv => whnf)
    | (refine And.intro hw5 ?_; conv => whnf)
    | (refine And.intro hw6 ?_; conv => whnf)
    | (refine And.intro hw7 ?_; conv => whnf)
    | (refine And.intro (hv1 (by assumption)) ?_; conv => whnf)
    | (refine And.intro (hv2 (by assumption) (by assumption)) ?_; conv => whnf)
    | (refine And.intro (hv3 (by assumption) (by assumption)) ?_; conv => whnf)
    | (refine And.intro (lm_v511 _) ?_; conv => whnf)
    | (refine And.intro (lm_v7 _) ?_; conv => whnf)
    | (refine ⟨fun hx => ?_, fun hx => ?_⟩ <;> conv => whnf)
    | (split at h)
    | contradiction
    | exact h
