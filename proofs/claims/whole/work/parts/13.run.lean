/-! the desk's run and seek -/
/-- from j back: the latest moment before j that is met -/
def kd_sk (S : lm_S) : Nat → Option Nat
  | 0 => none
  | j + 1 => if kd_met (nI j) S = 0 then kd_sk S j else some j
def kd_skr (o : Option Nat) : Int32 := match o with
  | none => -1
  | some t => nI t
def kd_sks (a : Nat) (S : lm_S) (o : Option Nat) : lm_S := match o with
  | none => S
  | some t => kd_mv a t S
abbrev ca_sk : lm_Ca := [(76, 2, (some 2), s_H_moveTo), (83, 1, (some 0), s_D_isMet)]
theorem sk_end {post : Option Value → lm_S → Prop} (S : lm_S) (x : Int32) (hx : x < 0) (h : post (some (.int (-1))) S) : lm_Go YF g_D_seek ca_sk post 10 [(0, .ref 0), (1, .int x)] [] S := by
  refine lm_run 20 ?_
  conv => whnf
  refine ⟨fun _ => ?_, fun hy => absurd hx hy⟩
  exact h
theorem sk_step {post : Option Value → lm_S → Prop} (a n j : Nat) (S : lm_S) (h3 : S 2 3 = nI a) (h4 : S 2 4 = nI n) (han : a ≤ n) (hn : n ≤ 300) (hj : j + 1 ≤ a) (h0 : kd_met (nI j) S = 0 → lm_Go YF g_D_seek ca_sk post 10 [(0, .ref 0), (1, .int (nI j - 1))] [] S) (h1 : ¬ kd_met (nI j) S = 0 → post (some (.int (nI j))) (kd_mv a j S)) : lm_Go YF g_D_seek ca_sk post 10 [(0, .ref 0), (1, .int (nI j))] [] S := by
  refine lm_to 10 30 ?_
  conv => whnf
  refine ⟨fun hx => absurd hx (nI_pos (by omega)), fun _ => ?_⟩
  conv => whnf
  refine ⟨j, n, rfl, h4, hn, by omega, ?_⟩
  conv => whnf
  refine ⟨fun (hx : kd_met (nI j) S = 0) => ?_, fun (hx : ¬ kd_met (nI j) S = 0) => ?_⟩
  · refine lm_Go.sub (h0 hx) (kk_cons rfl (kk_cons ?_ kk_nil))
    show some (Value.int (nI j + -1)) = some (Value.int (nI j - 1))
    rw [Int32.sub_eq_add_neg]
  · conv => whnf
    refine ⟨a, j, rfl, by omega, by omega, h3, by rw [h4]; exact nI_le (by omega) (by omega), ?_⟩
    exact h1 hx
theorem sk_loop {post : Option Value → lm_S → Prop} (a n : Nat) (S : lm_S) (h3 : S 2 3 = nI a) (h4 : S 2 4 = nI n) (han : a ≤ n) (hn : n ≤ 300) (j : Nat) (hj : j ≤ a) (h : post (some (.int (kd_skr (kd_sk S j)))) (kd_sks a S (kd_sk S j))) : lm_Go YF g_D_seek ca_sk post 10 [(0, .ref 0), (1, .int (nI j - 1))] [] S := by
  induction j with
  | zero => exact sk_end S _ (by decide) h
  | succ j ih =>
    rw [nI_pred]
    rw [kd_sk] at h
    refine sk_step a n j S h3 h4 han hn hj (fun hx => ?_) (fun hx => ?_)
    · rw [if_pos hx] at h
      exact ih (by omega) h
    · rw [if_neg hx] at h
      exact h
def s_D_seek : lm_Sp := fun av S post => ∃ a n : Nat, av = [.ref 0] ∧ kd_an a n S ∧ post (some (.int (kd_skr (kd_sk S a)))) (kd_sks a S (kd_sk S a))
abbrev ca_D_seek : lm_Ca := [(76, 2, (some 2), s_H_moveTo), (83, 1, (some 0), s_D_isMet)]
theorem cok_D_seek (l : Launch) : lm_cok l (kk_Y kk_shF) R_D 3 67 ca_D_seek := kk_cok (kk_cons ⟨y_H_moveTo, b_H_moveTo, 4, none, 2, 44, I_H_moveTo l, ⟨by decide, by decide⟩, yw_H_moveTo, li_D_76⟩ <| kk_cons ⟨y_D_isMet, b_D_isMet, 2, some .boolean, 2, 41, I_D_isMet l, ⟨by decide, by decide⟩, yw_D_isMet, li_D_83⟩ <| kk_nil)
set_option maxHeartbeats 1000000 in
set_option maxRecDepth 20000 in
theorem I_D_seek (l : Launch) : lm_I l (kk_Y kk_shF) y_D_seek b_D_seek 2 (some .int) 3 67 s_D_seek := by
  refine lm_impl g_D_seek ca_D_seek (by decide +kernel) kk_okF ck_D_seek (kk_fok fl_D_ok) (kk_sok sl_D_ok) (Or.inl rfl) (cok_D_seek l) rfl (by decide) ?_
  rintro av S post ⟨a, n, rfl, ⟨h3, h4, han, hn⟩, h⟩
  refine ⟨Nat.le_of_ble_eq_true rfl, lm_to 10 20 ?_⟩
  refine lm_Go.sub (sk_loop a n S h3 h4 han hn a (by omega) h) (kk_cons rfl (kk_cons ?_ kk_nil))
  show some (Value.int (S 2 3 - 1)) = some (Value.int (nI a - 1))
  rw [h3]
/-- now and newest as numbers -/
def kd_a (S : lm_S) : Nat := (S 2 3).toNatClampNeg
def kd_n (S : lm_S) : Nat := (S 2 4).toNatClampNeg
def kd_so (S : lm_S) : lm_S := kd_sos (kd_a S) (kd_n S) S
def kd_sr (S : lm_S) : Int32 := kd_sor (kd_a S) (kd_n S) S
/-- m steps are left, k are made -/
def kd_rn : Nat → Nat → lm_S → Nat × lm_S
  | 0, k, S => (k, S)
  | m + 1, k, S => if 0 < k ∧ ¬ kd_has 14 (S 6 5) S = 0 then (k, S) else if kd_sr S = 0 then (k, kd_so S) else kd_rn m (k + 1) (kd_so S)
/-- what run needs of its states -/
def kd_J (J : lm_S → Prop) : Prop := ∀ S, J S → kd_an (kd_a S) (kd_n S) S ∧ kd_ok S ∧ J (kd_so S)
abbrev ca_rn : lm_Ca := [(65, 1, (some 3), s_K_has), (68, 0, (some 0), s_D_stepOn)]
set_option maxRecDepth 20000 in
theorem rn_loop {post : Option Value → lm_S → Prop} {J : lm_S → Prop} (hJ : kd_J J) (x : Nat) (hx3 : x ≤ 300) : ∀ (m k : Nat) (S : lm_S), k + m = x → J S → post (some (.int (nI (kd_rn m k S).1))) (kd_rn m k S).2 → lm_Go YF g_D_run ca_rn post 15 [(0, .ref 0), (1, .int (nI x)), (2, .int (nI k))] [] S
  | 0, k, S, hk, _, h => by
    refine lm_run 20 ?_
    conv => whnf
    refine ⟨fun _ => ?_, fun hy => absurd (nI_le (show x ≤ k by omega) (by omega)) hy⟩
    show post (some (.int (nI x))) S
    have e : k = x := by omega
    rw [kd_rn, e] at h
    exact h
  | m + 1, k, S, hk, hS, h => by
    obtain ⟨han, hok, hJ2⟩ := hJ S hS
    have hst : ∀ (L : lm_L), lm_sub [(0, .ref 0), (1, .int (nI x)), (2, .int (nI k)), (3, .int 0)] L → ¬ (0 < k ∧ ¬ kd_has 14 (S 6 5) S = 0) → lm_Go YF g_D_run ca_rn post 49 L [] S := by
      intro L hL hs
      refine lm_Go.sub ?_ hL
      rw [kd_rn, if_neg hs] at h
      refine lm_to 15 20 ?_
      conv => whnf
      refine ⟨fun hy => absurd rfl hy, fun _ => ?_⟩
      conv => whnf
      refine ⟨kd_a S, kd_n S, rfl, han, hok, ?_⟩
      conv => whnf
      refine ⟨fun (hy : ¬ kd_sr S = 0) => ?_, fun (hy : kd_sr S = 0) => ?_⟩
      · rw [if_neg hy] at h
        refine lm_Go.sub (rn_loop hJ x hx3 m (k + 1) (kd_so S) (by omega) hJ2 h) (kk_cons rfl (kk_cons rfl (kk_cons ?_ kk_nil)))
        show some (Value.int (nI k + 1)) = some (Value.int (nI (k + 1)))
        rw [nI_1]
      · rw [if_pos hy] at h
        exact h
    have hsp : 0 < k ∧ ¬ kd_has 14 (S 6 5) S = 0 → post (some (.int (nI k))) S := by
      intro hs
      rw [kd_rn, if_pos hs] at h
      exact h
    clear h
    refine lm_to 49 30 ?_
    conv => whnf
    refine ⟨fun hy => absurd hy (nI_ge (show k < x by omega) (by omega)), fun _ => ?_⟩
    conv => whnf
    refine ⟨fun hy => ?_, fun hy => ?_⟩
    · have hk0 : ¬ 0 < k := fun q => (nI_nle q (by omega)) hy
      exact hst _ (kk_cons rfl (kk_cons rfl (kk_cons rfl (kk_cons rfl kk_nil)))) (fun q => hk0 q.1)
    · have hk0 : 0 < k := by
        have q : ¬ nI k ≤ nI 0 := hy
        rw [nI_leI (by omega) (by omega)] at q
        omega
      conv => whnf
      refine ⟨lm_vc (by decide), ?_⟩
      conv => whnf
      refine ⟨_, _, rfl, Or.inl rfl, ?_⟩
      conv => whnf
      refine ⟨fun (hz : kd_has 14 (S 6 5) S = 0) => ?_, fun (hz : ¬ kd_has 14 (S 6 5) S = 0) => ?_⟩
      · exact hst _ (kk_cons rfl (kk_cons rfl (kk_cons rfl (kk_cons rfl kk_nil)))) (fun q => q.2 hz)
      · refine lm_Go.sub (L1 := [(2, .int (nI k)), (3, .int 1)]) ?_ (kk_cons rfl (kk_cons rfl kk_nil))
        refine lm_run 20 ?_
        conv => whnf
        refine ⟨fun _ => ?_, fun hy => absurd hy (by decide)⟩
        exact hsp ⟨hk0, hz⟩
def kd_runr (x : Int32) (S : lm_S) : Int32 := if x < 0 then 0 else if x ≤ 300 then nI (kd_rn x.toNatClampNeg 0 S).1 else 0
def kd_runs (x : Int32) (S : lm_S) : lm_S := if x < 0 then S else if x ≤ 300 then (kd_rn x.toNatClampNeg 0 S).2 else S
def s_D_run : lm_Sp := fun av S post => ∃ (x : Int32) (J : lm_S → Prop), av = [.ref 0, .int x] ∧ kd_J J ∧ J S ∧ post (some (.int (kd_runr x S))) (kd_runs x S)
abbrev ca_D_run : lm_Ca := [(65, 1, (some 3), s_K_has), (68, 0, (some 0), s_D_stepOn)]
theorem cok_D_run (l : Launch) : lm_cok l (kk_Y kk_shF) R_D 6 137 ca_D_run := kk_cok (kk_cons ⟨y_K_has, b_K_has, 2, some .boolean, 1, 20, I_K_has l, ⟨by decide, by decide⟩, yw_K_has, li_D_65⟩ <| kk_cons ⟨y_D_stepOn, b_D_stepOn, 1, some .boolean, 5, 117, I_D_stepOn l, ⟨by decide, by decide⟩, yw_D_stepOn, li_D_68⟩ <| kk_nil)
set_option maxHeartbeats 1000000 in
set_option maxRecDepth 20000 in
theorem I_D_run (l : Launch) : lm_I l (kk_Y kk_shF) y_D_run b_D_run 4 (some .int) 6 137 s_D_run := by
  refine lm_impl g_D_run ca_D_run (by decide +kernel) kk_okF ck_D_run (kk_fok fl_D_ok) (kk_sok sl_D_ok) (Or.inl rfl) (cok_D_run l) rfl (by decide) ?_
  rintro av S post ⟨x, J, rfl, hJ, hS, h⟩
  refine ⟨Nat.le_of_ble_eq_true rfl, lm_to 15 20 ?_⟩
  unfold kd_runr kd_runs at h
  conv => whnf
  refine ⟨fun hx => ?_, fun hx => ?_⟩
  · rw [if_pos hx, if_pos hx] at h
    exact h
  · rw [if_neg hx, if_neg hx] at h
    conv => whnf
    refine ⟨fun (hy : x ≤ 300) => ?_, fun (hy : ¬ x ≤ 300) => ?_⟩
    · rw [if_pos hy, if_pos hy] at h
      obtain ⟨b, hb, rfl⟩ := nI_of hx
      have hb3 : b ≤ 300 := by
        have q : nI b ≤ nI 300 := hy
        rw [nI_leI hb (by omega)] at q
        exact q
      rw [nI_clamp hb] at h
      exact lm_Go.sub (rn_loop hJ b hb3 b 0 S (by omega) hS h) (kk_cons rfl (kk_cons rfl (kk_cons rfl kk_nil)))
    · rw [if_neg hy, if_neg hy] at h
      exact h
