/-! the reference: stop, watch, go, wrote, run, seek -/
theorem km_cpt_le (j : Nat) (a : Int32) : ∀ (m k n : Nat) (S : lm_S), (km_cpt j a m k n S).1 ≤ n + m
  | 0, _, _, _ => Nat.le_refl _
  | m + 1, k, n, S => by
    rw [km_cpt]
    split
    · have := km_cpt_le j a m (k + 1) n S
      omega
    · have := km_cpt_le j a m (k + 1) (n + 1) (lm_set S j n (S j k))
      omega
theorem km_tur_le {j c : Nat} {a on : Int32} {S : lm_S} {q : Nat × lm_S} (h : km_tur j c a on S = some q) : q.1 ≤ c + 1 := by
  unfold km_tur at h
  split at h
  · cases h
  · split at h
    · cases h
    · split at h
      · have := km_cpt_le j a c 0 0 S
        have e := Option.some.inj h
        rw [← e]
        omega
      · split at h
        · cases h
        · have e := Option.some.inj h
          rw [← e]
          exact Nat.le_refl _
def km_tsr (r : Option (Nat × lm_S)) : Int32 := match r with
  | none => 0
  | some _ => 1
def km_tss (f : Nat) (r : Option (Nat × lm_S)) (S : lm_S) : lm_S := match r with
  | none => S
  | some q => lm_set q.2 16 f (nI q.1)
def s_R_stop : lm_Sp := fun av S post => ∃ (a on : Int32) (c : Nat), av = [.ref 16, .int a, .int on] ∧ c ≤ 4 ∧ S 16 6 = nI c ∧ post (some (.int (km_tsr (km_tur 19 c a on S)))) (km_tss 6 (km_tur 19 c a on S) S)
abbrev ca_R_stop : lm_Ca := [(110, 4, none, s_R_turn)]
theorem cok_R_stop (l : Launch) : lm_cok l (kk_Y kk_shF) R_R 2 49 ca_R_stop := kk_cok (kk_cons ⟨y_R_turn, b_R_turn, 7, some .int, 1, 23, I_R_turn l, ⟨by decide, by decide⟩, yw_R_turn, li_R_110⟩ <| kk_nil)
set_option maxHeartbeats 1000000 in
set_option maxRecDepth 20000 in
theorem I_R_stop (l : Launch) : lm_I l (kk_Y kk_shF) y_R_stop b_R_stop 4 (some .boolean) 2 49 s_R_stop := by
  refine lm_impl g_R_stop ca_R_stop (by decide +kernel) kk_okF ck_R_stop (kk_fok fl_R_ok) (kk_sok sl_R_ok) (Or.inl rfl) (cok_R_stop l) rfl (by decide) ?_
  rintro av S post ⟨a, on, c, rfl, hc, hS, h⟩
  refine ⟨Nat.le_of_ble_eq_true rfl, lm_run 60 ?_⟩
  conv => whnf
  refine ⟨19, c, a, on, ?_, Or.inl rfl, hc, ?_⟩
  · show [Value.ref 19, Value.int (S 16 6), Value.int a, Value.int on] = _
    rw [hS]
  cases hr : km_tur 19 c a on S with
  | none =>
    rw [hr] at h
    conv => whnf
    refine ⟨fun hy => absurd hy (show ¬ (0 : Int32) ≤ -1 by decide), fun _ => ?_⟩
    exact ⟨by decide, h⟩
  | some q =>
    have hq := km_tur_le hr
    rw [hr] at h
    conv => whnf
    refine ⟨fun _ => ?_, fun hy => absurd (show (0 : Int32) ≤ nI q.1 from nI_pos' (by omega)) hy⟩
    exact ⟨by decide, h⟩
def s_R_watch : lm_Sp := fun av S post => ∃ (a on : Int32) (c : Nat), av = [.ref 16, .int a, .int on] ∧ c ≤ 4 ∧ S 16 7 = nI c ∧ post (some (.int (km_tsr (km_tur 20 c a on S)))) (km_tss 7 (km_tur 20 c a on S) S)
abbrev ca_R_watch : lm_Ca := [(110, 4, none, s_R_turn)]
theorem cok_R_watch (l : Launch) : lm_cok l (kk_Y kk_shF) R_R 2 49 ca_R_watch := kk_cok (kk_cons ⟨y_R_turn, b_R_turn, 7, some .int, 1, 23, I_R_turn l, ⟨by decide, by decide⟩, yw_R_turn, li_R_110⟩ <| kk_nil)
set_option maxHeartbeats 1000000 in
set_option maxRecDepth 20000 in
theorem I_R_watch (l : Launch) : lm_I l (kk_Y kk_shF) y_R_watch b_R_watch 4 (some .boolean) 2 49 s_R_watch := by
  refine lm_impl g_R_watch ca_R_watch (by decide +kernel) kk_okF ck_R_watch (kk_fok fl_R_ok) (kk_sok sl_R_ok) (Or.inl rfl) (cok_R_watch l) rfl (by decide) ?_
  rintro av S post ⟨a, on, c, rfl, hc, hS, h⟩
  refine ⟨Nat.le_of_ble_eq_true rfl, lm_run 60 ?_⟩
  conv => whnf
  refine ⟨20, c, a, on, ?_, Or.inr rfl, hc, ?_⟩
  · show [Value.ref 20, Value.int (S 16 7), Value.int a, Value.int on] = _
    rw [hS]
  cases hr : km_tur 20 c a on S with
  | none =>
    rw [hr] at h
    conv => whnf
    refine ⟨fun hy => absurd hy (show ¬ (0 : Int32) ≤ -1 by decide), fun _ => ?_⟩
    exact ⟨by decide, h⟩
  | some q =>
    have hq := km_tur_le hr
    rw [hr] at h
    conv => whnf
    refine ⟨fun _ => ?_, fun hy => absurd (show (0 : Int32) ≤ nI q.1 from nI_pos' (by omega)) hy⟩
    exact ⟨by decide, h⟩
/-- images that the reference can go on from -/
def km_Q (Q : (Nat → Int32) → Prop) : Prop := ∀ S : lm_S, Q (S 18) → km_ok S ∧ Q ((km_step S) 18)
theorem km_Q.J {Q : (Nat → Int32) → Prop} (h : km_Q Q) : km_J (fun S => Q (S 18)) := h
def s_R_go : lm_Sp := fun av S post => ∃ (t : Int32) (b : Nat) (Q : (Nat → Int32) → Prop), av = [.ref 16, .int t] ∧ S 16 3 = nI b ∧ b ≤ 300 ∧ km_Q Q ∧ Q (S 17) ∧ post (some (.int (km_w01 (km_within t (S 16 3))))) (if km_within t (S 16 3) = 0 then S else km_come t.toNatClampNeg S)
theorem km_in_le {t : Int32} {b : Nat} (hb : b ≤ 300) (h : ¬ km_within t (nI b) = 0) : ∃ j : Nat, j ≤ b ∧ t = nI j := by
  obtain ⟨j, hj, e⟩ := vp_in_of (km_within_in (n := b) (nI_toInt (by omega)) h) (by omega)
  exact ⟨j, by omega, e⟩
abbrev ca_R_go : lm_Ca := [(32, 2, none, s_R_within), (104, 1, (some 4), s_R_come)]
theorem cok_R_go (l : Launch) : lm_cok l (kk_Y kk_shF) R_R 6 139 ca_R_go := kk_cok (kk_cons ⟨y_R_within, b_R_within, 2, some .boolean, 0, 0, I_R_within l, ⟨by decide, by decide⟩, yw_R_within, li_R_32⟩ <| kk_cons ⟨y_R_come, b_R_come, 3, none, 5, 117, I_R_come l, ⟨by decide, by decide⟩, yw_R_come, li_R_104⟩ <| kk_nil)
set_option maxHeartbeats 1000000 in
set_option maxRecDepth 20000 in
theorem I_R_go (l : Launch) : lm_I l (kk_Y kk_shF) y_R_go b_R_go 2 (some .boolean) 6 139 s_R_go := by
  refine lm_impl g_R_go ca_R_go (by decide +kernel) kk_okF ck_R_go (kk_fok fl_R_ok) (kk_sok sl_R_ok) (Or.inl rfl) (cok_R_go l) rfl (by decide) ?_
  rintro av S post ⟨t, b, Q, rfl, h3, hb, hQ, hS, h⟩
  refine ⟨Nat.le_of_ble_eq_true rfl, lm_run 60 ?_⟩
  unfold km_w01 at h
  conv => whnf
  refine ⟨_, _, rfl, ?_⟩
  conv => whnf
  refine ⟨fun (hy : ¬ km_within t (S 16 3) = 0) => ?_, fun (hy : km_within t (S 16 3) = 0) => ?_⟩
  · rw [if_neg hy, if_neg hy] at h
    rw [h3] at hy
    obtain ⟨j, hj, rfl⟩ := km_in_le hb hy
    rw [nI_clamp (by omega)] at h
    conv => whnf
    refine ⟨j, _, rfl, by omega, hQ.J, hS, ?_⟩
    exact ⟨by decide, h⟩
  · rw [if_pos hy, if_pos hy] at h
    exact ⟨by decide, h⟩
theorem km_it_fr : ∀ (n : Nat) (S : lm_S), km_fr (km_it n S) S
  | 0, S => km_fr.rf S
  | n + 1, S => (km_it_fr n _).tr (gq_step S)
theorem km_come_17 (t : Nat) (S : lm_S) : (km_come t S) 17 = S 17 := (km_it_fr t (km_back S)).1 17 (by omega) (by omega)
theorem km_come_16 (t k : Nat) (S : lm_S) (h2 : k ≠ 2) (h8 : k ≠ 8) (h9 : k ≠ 9) : (km_come t S) 16 k = S 16 k := by
  show upd ((km_it t (km_back S)) 16) 2 (nI t) k = S 16 k
  rw [pk_un h2]
  exact (km_it_fr t (km_back S)).2 k h8 h9
def km_wrr (t : Int32) (S : lm_S) : Int32 := if km_within t (S 16 3 - 1) = 0 then -1 else (km_come (t.toNatClampNeg + 1) S) 16 8
def km_wrs (a : Nat) (t : Int32) (S : lm_S) : lm_S := if km_within t (S 16 3 - 1) = 0 then S else km_come a (km_come (t.toNatClampNeg + 1) S)
def s_R_wrote : lm_Sp := fun av S post => ∃ (t : Int32) (a b : Nat) (Q : (Nat → Int32) → Prop), av = [.ref 16, .int t] ∧ S 16 2 = nI a ∧ S 16 3 = nI b ∧ a ≤ 300 ∧ b ≤ 300 ∧ km_Q Q ∧ Q (S 17) ∧ post (some (.int (km_wrr t S))) (km_wrs a t S)
theorem km_wr_in {t : Int32} {b : Nat} (hb : b ≤ 300) (h : ¬ km_within t (nI b - 1) = 0) : ∃ j : Nat, j + 1 ≤ b ∧ t = nI j := by
  by_cases h0 : b = 0
  · subst h0
    exfalso
    apply h
    unfold km_within
    split
    · rfl
    · rename_i h1
      rw [if_pos]
      rw [Int32.lt_iff_toInt_lt, Int32.toInt_zero] at h1
      rw [Int32.lt_iff_toInt_lt, show (nI 0 - 1 : Int32).toInt = -1 from by decide]
      omega
  · rw [show nI b - 1 = nI (b - 1) from nI_p1m b (by omega)] at h
    obtain ⟨j, hj, e⟩ := km_in_le (by omega) h
    exact ⟨j, by omega, e⟩
abbrev ca_R_wrote : lm_Ca := [(32, 2, none, s_R_within), (104, 1, (some 4), s_R_come)]
theorem cok_R_wrote (l : Launch) : lm_cok l (kk_Y kk_shF) R_R 6 139 ca_R_wrote := kk_cok (kk_cons ⟨y_R_within, b_R_within, 2, some .boolean, 0, 0, I_R_within l, ⟨by decide, by decide⟩, yw_R_within, li_R_32⟩ <| kk_cons ⟨y_R_come, b_R_come, 3, none, 5, 117, I_R_come l, ⟨by decide, by decide⟩, yw_R_come, li_R_104⟩ <| kk_nil)
set_option maxHeartbeats 1000000 in
set_option maxRecDepth 20000 in
theorem I_R_wrote (l : Launch) : lm_I l (kk_Y kk_shF) y_R_wrote b_R_wrote 4 (some .int) 6 139 s_R_wrote := by
  refine lm_impl g_R_wrote ca_R_wrote (by decide +kernel) kk_okF ck_R_wrote (kk_fok fl_R_ok) (kk_sok sl_R_ok) (Or.inl rfl) (cok_R_wrote l) rfl (by decide) ?_
  rintro av S post ⟨t, a, b, Q, rfl, h2, h3, ha, hb, hQ, hS, h⟩
  refine ⟨Nat.le_of_ble_eq_true rfl, lm_run 60 ?_⟩
  unfold km_wrr km_wrs at h
  conv => whnf
  refine ⟨_, _, rfl, ?_⟩
  conv => whnf
  refine ⟨fun (hy : ¬ km_within t (S 16 3 - 1) = 0) => ?_, fun (hy : km_within t (S 16 3 - 1) = 0) => ?_⟩
  · rw [if_neg hy, if_neg hy] at h
    rw [h3] at hy
    obtain ⟨j, hj, rfl⟩ := km_wr_in hb hy
    rw [nI_clamp (by omega)] at h
    conv => whnf
    refine ⟨j + 1, _, ?_, by omega, hQ.J, hS, ?_⟩
    · show [Value.ref 16, Value.int (nI j + 1)] = _
      rw [nI_1]
    conv => whnf
    refine ⟨a, _, ?_, ha, hQ.J, ?_, ?_⟩
    · show [Value.ref 16, Value.int (S 16 2)] = _
      rw [h2]
    · show Q ((km_come (j + 1) S) 17)
      rw [km_come_17]
      exact hS
    exact h
  · rw [if_pos hy, if_pos hy] at h
    exact h
/-! run -/
def km_rs2 (S : lm_S) : lm_S := if S 16 2 ≤ S 16 3 then S else lm_set S 16 3 (S 16 2)
def km_rs (S : lm_S) : lm_S := km_rs2 (lm_set (km_step S) 16 2 ((km_step S) 16 2 + 1))
def km_m1 (c k : Nat) (S : lm_S) : Prop := k = 0 ∨ km_hs 19 (S 18 517) S c 0 = 0
def km_m2 (S : lm_S) : Prop := S 16 2 < S 16 3 ∨ (S 18 518 = 0 ∧ ¬ 300 ≤ S 16 3)
abbrev ca_rr : lm_Ca := [(32, 2, none, s_R_within), (94, 0, (some 4), s_R_step), (100, 3, none, s_R_has)]
theorem rr_end {post : Option Value → lm_S → Prop} (x k d : Int32) (S : lm_S) (h : post (some (.int d)) S) : lm_Go YF g_R_run ca_rr post 13 [(0, .ref 16), (1, .int x), (2, .int d), (3, .int 0), (4, .int k)] [] S := by
  refine lm_run 20 ?_
  conv => whnf
  refine ⟨fun _ => ?_, fun _ => ?_⟩
  · exact h
  · conv => whnf
    refine ⟨fun _ => ?_, fun hy => absurd rfl hy⟩
    exact h
theorem rr_no {post : Option Value → lm_S → Prop} (x k d m : Int32) (S : lm_S) (h : post (some (.int d)) S) : lm_Go YF g_R_run ca_rr post 86 [(0, .ref 16), (1, .int x), (2, .int d), (3, .int m), (4, .int k)] [.int 0] S := by
  refine lm_to 13 20 ?_
  conv => whnf
  refine ⟨fun _ => ?_, fun hy => absurd rfl hy⟩
  exact lm_Go.sub (rr_end x (k + 1) d S h) (kk_cons rfl (kk_cons rfl (kk_cons rfl (kk_cons rfl (kk_cons rfl kk_nil)))))
theorem rr_yes {post : Option Value → lm_S → Prop} (x k d m : Int32) (S : lm_S) (hok : km_ok S) (h : lm_Go YF g_R_run ca_rr post 13 [(0, .ref 16), (1, .int x), (2, .int (d + 1)), (3, .int 1), (4, .int (k + 1))] [] (km_rs S)) : lm_Go YF g_R_run ca_rr post 86 [(0, .ref 16), (1, .int x), (2, .int d), (3, .int m), (4, .int k)] [.int 1] S := by
  refine lm_to 13 40 ?_
  unfold km_rs km_rs2 at h
  conv => whnf
  refine ⟨fun hy => absurd hy (by decide), fun _ => ?_⟩
  conv => whnf
  refine ⟨rfl, hok, ?_⟩
  conv => whnf
  refine ⟨fun hy => ?_, fun hy => ?_⟩
  · rw [if_pos hy] at h
    exact lm_Go.sub h (kk_cons rfl (kk_cons rfl (kk_cons rfl (kk_cons rfl (kk_cons rfl kk_nil)))))
  · rw [if_neg hy] at h
    exact lm_Go.sub h (kk_cons rfl (kk_cons rfl (kk_cons rfl (kk_cons rfl (kk_cons rfl kk_nil)))))
/-- from 49: time against last -/
theorem rr_m2 {post : Option Value → lm_S → Prop} (x k d m : Int32) (S : lm_S) (hy1 : km_m2 S → lm_Go YF g_R_run ca_rr post 86 [(0, .ref 16), (1, .int x), (2, .int d), (3, .int m), (4, .int k)] [.int 1] S) (hn1 : ¬ km_m2 S → post (some (.int d)) S) : lm_Go YF g_R_run ca_rr post 49 [(0, .ref 16), (1, .int x), (2, .int d), (3, .int m), (4, .int k)] [] S := by
  refine lm_to 86 30 ?_
  conv => whnf
  refine ⟨fun (h1 : S 16 2 < S 16 3) => ?_, fun (h1 : ¬ S 16 2 < S 16 3) => ?_⟩
  · exact hy1 (Or.inl h1)
  · conv => whnf
    refine ⟨lm_vc (by decide), ?_⟩
    conv => whnf
    refine ⟨fun (h2 : ¬ S 18 518 = 0) => ?_, fun (h2 : S 18 518 = 0) => ?_⟩
    · exact rr_no x k d m S (hn1 (fun q => q.elim h1 (fun r => h2 r.1)))
    · conv => whnf
      refine ⟨fun (h3 : 300 ≤ S 16 3) => ?_, fun (h3 : ¬ 300 ≤ S 16 3) => ?_⟩
      · exact rr_no x k d m S (hn1 (fun q => q.elim h1 (fun r => r.2 h3)))
      · exact hy1 (Or.inr ⟨h2, h3⟩)
/-- one turn of the loop -/
theorem rr_turn {post : Option Value → lm_S → Prop} (x c k : Nat) (hx : x ≤ 300) (hk : k < x) (hc : c ≤ 4) (S : lm_S) (hS : S 16 6 = nI c) (hok : km_ok S) (hy : km_m1 c k S ∧ km_m2 S → lm_Go YF g_R_run ca_rr post 13 [(0, .ref 16), (1, .int (nI x)), (2, .int (nI (k + 1))), (3, .int 1), (4, .int (nI (k + 1)))] [] (km_rs S)) (hn : ¬ (km_m1 c k S ∧ km_m2 S) → post (some (.int (nI k))) S) : lm_Go YF g_R_run ca_rr post 13 [(0, .ref 16), (1, .int (nI x)), (2, .int (nI k)), (3, .int 1), (4, .int (nI k))] [] S := by
  have h49 : km_m1 c k S → lm_Go YF g_R_run ca_rr post 49 [(0, .ref 16), (1, .int (nI x)), (2, .int (nI k)), (3, .int 1), (4, .int (nI k))] [] S := by
    intro h1
    refine rr_m2 (nI x) (nI k) (nI k) 1 S (fun h2 => ?_) (fun h2 => hn (fun q => h2 q.2))
    have g := hy ⟨h1, h2⟩
    rw [← nI_1] at g
    exact rr_yes (nI x) (nI k) (nI k) 1 S hok g
  refine lm_tos (fun q => Nat.beq q 49 || Nat.beq q 86) 40 ?_
  conv => whnf
  refine ⟨fun q => absurd q (nI_ge hk (by omega)), fun _ => ?_⟩
  conv => whnf
  refine ⟨fun q => absurd q (by decide), fun _ => ?_⟩
  conv => whnf
  refine ⟨fun (h0 : nI k = 0) => ?_, fun (h0 : ¬ nI k = 0) => ?_⟩
  · exact h49 (Or.inl ((nI_eq (b := 0) (by omega) (by omega)).mp h0))
  · have hk0 : ¬ k = 0 := fun q => h0 (by rw [q]; rfl)
    conv => whnf
    refine ⟨lm_vc (by decide), ?_⟩
    conv => whnf
    refine ⟨19, c, S 18 517, ?_, Or.inl rfl, hc, ?_⟩
    · show [Value.ref 19, Value.int (S 16 6), Value.int (S 18 517)] = _
      rw [hS]
    conv => whnf
    refine ⟨fun (h1 : ¬ km_hs 19 (S 18 517) S c 0 = 0) => ?_, fun (h1 : km_hs 19 (S 18 517) S c 0 = 0) => ?_⟩
    · exact rr_no _ _ _ _ S (hn (fun q => q.1.elim hk0 h1))
    · exact h49 (Or.inr h1)
noncomputable def km_rn (c : Nat) : Nat → Nat → lm_S → Nat × lm_S
  | 0, k, S => (k, S)
  | m + 1, k, S => @ite _ (km_m1 c k S ∧ km_m2 S) (Classical.propDecidable _) (km_rn c m (k + 1) (km_rs S)) (k, S)
theorem km_rs_18 (S : lm_S) : (km_rs S) 18 = (km_step S) 18 := by
  unfold km_rs km_rs2
  split <;> rfl
theorem km_rs_6 (S : lm_S) : (km_rs S) 16 6 = S 16 6 := by
  have h := (gq_step S).2 6 (by omega) (by omega)
  unfold km_rs km_rs2
  split
  · exact h
  · exact h
theorem rr_loop {post : Option Value → lm_S → Prop} {Q : (Nat → Int32) → Prop} (hQ : km_Q Q) (x c : Nat) (hx : x ≤ 300) (hc : c ≤ 4) : ∀ (m k : Nat) (S : lm_S), k + m = x → Q (S 18) → S 16 6 = nI c → post (some (.int (nI (km_rn c m k S).1))) (km_rn c m k S).2 → lm_Go YF g_R_run ca_rr post 13 [(0, .ref 16), (1, .int (nI x)), (2, .int (nI k)), (3, .int 1), (4, .int (nI k))] [] S
  | 0, k, S, hk, hS, h6, h => by
    refine lm_run 20 ?_
    conv => whnf
    refine ⟨fun _ => ?_, fun hy => absurd (nI_le (show x ≤ k by omega) (by omega)) hy⟩
    exact h
  | m + 1, k, S, hk, hS, h6, h => by
    rw [km_rn] at h
    refine rr_turn x c k hx (by omega) hc S h6 (hQ S hS).1 (fun hy => ?_) (fun hy => ?_)
    · rw [if_pos hy] at h
      exact rr_loop hQ x c hx hc m (k + 1) (km_rs S) (by omega) (by rw [km_rs_18]; exact (hQ S hS).2) (by rw [km_rs_6]; exact h6) h
    · rw [if_neg hy] at h
      exact h
noncomputable def km_run (c : Nat) (x : Int32) (S : lm_S) : Nat × lm_S := if km_within x 300 = 0 then (0, S) else km_rn c x.toNatClampNeg 0 S
def s_R_run : lm_Sp := fun av S post => ∃ (x : Int32) (c : Nat) (Q : (Nat → Int32) → Prop), av = [.ref 16, .int x] ∧ c ≤ 4 ∧ S 16 6 = nI c ∧ km_Q Q ∧ Q (S 18) ∧ post (some (.int (nI (km_run c x S).1))) (km_run c x S).2
abbrev ca_R_run : lm_Ca := [(32, 2, none, s_R_within), (94, 0, (some 4), s_R_step), (100, 3, none, s_R_has)]
theorem cok_R_run (l : Launch) : lm_cok l (kk_Y kk_shF) R_R 5 117 ca_R_run := kk_cok (kk_cons ⟨y_R_within, b_R_within, 2, some .boolean, 0, 0, I_R_within l, ⟨by decide, by decide⟩, yw_R_within, li_R_32⟩ <| kk_cons ⟨y_R_step, b_R_step, 8, none, 4, 90, I_R_step l, ⟨by decide, by decide⟩, yw_R_step, li_R_94⟩ <| kk_cons ⟨y_R_has, b_R_has, 4, some .boolean, 0, 0, I_R_has l, ⟨by decide, by decide⟩, yw_R_has, li_R_100⟩ <| kk_nil)
set_option maxHeartbeats 1000000 in
set_option maxRecDepth 20000 in
theorem I_R_run (l : Launch) : lm_I l (kk_Y kk_shF) y_R_run b_R_run 5 (some .int) 5 117 s_R_run := by
  refine lm_impl g_R_run ca_R_run (by decide +kernel) kk_okF ck_R_run (kk_fok fl_R_ok) (kk_sok sl_R_ok) (Or.inl rfl) (cok_R_run l) rfl (by decide) ?_
  rintro av S post ⟨x, c, Q, rfl, hc, h6, hQ, hS, h⟩
  refine ⟨Nat.le_of_ble_eq_true rfl, lm_to 13 30 ?_⟩
  conv => whnf
  refine ⟨_, _, rfl, ?_⟩
  unfold km_run at h
  by_cases hx : km_within x 300 = 0
  · rw [if_pos hx] at h
    refine lm_Go.sub (rr_end x 0 0 S h) (kk_cons rfl (kk_cons rfl (kk_cons rfl (kk_cons ?_ (kk_cons rfl kk_nil)))))
    show some (Value.int (km_within x 300)) = some (Value.int 0)
    rw [hx]
  · rw [if_neg hx] at h
    obtain ⟨b, hb, rfl⟩ := km_in_le (b := 300) (by omega) hx
    rw [nI_clamp (by omega)] at h
    have h1 : km_within (nI b) 300 = 1 := by
      unfold km_within
      have hq : ¬ (300 : Int32) < nI b := nI_nlt (a := 300) hb (by omega)
      rw [if_neg (nI_pos (by omega)), if_neg hq]
    refine lm_Go.sub (rr_loop hQ b c hb hc b 0 S (by omega) hS h6 h) (kk_cons rfl (kk_cons rfl (kk_cons rfl (kk_cons ?_ (kk_cons rfl kk_nil)))))
    show some (Value.int (km_within (nI b) 300)) = some (Value.int 1)
    rw [h1]
