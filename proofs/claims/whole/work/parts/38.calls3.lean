/-! wrote, seek, run -/
theorem HD.vq {b : Nat → Int32} {C : Nat → Nat → Int32} {a N : Nat} {S : lm_S} (hD : HD b C a N S) : vQ b := (hD.2.2.2.2.2.2.1 0 (by omega)).1.q
theorem jc_wrote {q : Nat} {S : lm_S} (h : IV q S) (t : Int32) : jc s_D_wrote s_R_wrote [.ref 0, .int t] [.ref 16, .int t] q S := by
  obtain ⟨b, C, a, N, c, d, dr, hD, hM, h3, h4, h5, h6⟩ := h
  have hN := hD.2.1
  have ha := hD.1
  have e24 := hD.2.2.2.1
  have oF := mo_wrs a t S
  have pre : ∀ k : Nat, k < 2 → ¬ t < 0 → t < S 2 4 → vp_in (t * 2 + nI k) 600 := fun k hk h1 h2 => by
    obtain ⟨j, hj, rfl⟩ := nI_of h1
    rw [e24, nI_ltI hj (by omega)] at h2
    rw [nI_m2, nI_add]
    exact vp_in_nI (by omega) (by decide)
  refine ⟨kd_lpw t S, S, km_wrs a t S, fun post p => ⟨t, rfl, pre 1 (by omega), pre 0 (by omega), p⟩, fun post p => ⟨t, a, N, vQ, rfl, hM.2.2.1, hM.2.2.2, by omega, hN, vQ_km, by rw [hM.1]; exact hD.vq, by rw [← wrote_sim hD hM]; exact p⟩, ?_, fun _ _ => rfl, fun i hi => oF.1 i (by omega)⟩
  refine IV.up ?_ (show q ≤ q + 1 by omega)
  refine IV.both h3 h4 hD (dfo.rf S) oF ?_ h5 h6
  unfold km_wrs
  split
  · exact hM
  · refine come_M ?_ ?_ a
    · rw [km_come_17]; exact hM.1
    · rw [km_come_16 _ 3 S (by omega) (by omega) (by omega)]; exact hM.2.2.2
theorem ob_skr (o : Option Nat) : km_ob o = kd_skr o := by
  cases o <;> rfl
theorem jc_seek {q : Nat} {S : lm_S} (h : IV q S) : jc s_D_seek s_R_seek [.ref 0] [.ref 16] q S := by
  obtain ⟨b, C, a, N, c, d, dr, hD, hM, h3, h4, h5, h6⟩ := h
  obtain ⟨ea, eN, an⟩ := hD.an
  rw [ea, eN] at an
  have hN := hD.2.1
  have ha := hD.1
  have oD := do_sks a S (kd_sk S a)
  generalize hDD : kd_sks a S (kd_sk S a) = D at oD
  have hM2 := hM.dfo oD
  have k1 : ∀ x, km_hs 19 x D c 0 = kd_has 14 x S := fun x => by rw [hs_c (oD 19 (by omega)), h3.has]
  have k2 : ∀ x, km_hs 20 x D d 0 = kd_has 15 x S := fun x => by rw [hs_c (oD 20 (by omega)), h4.has]
  obtain ⟨g1, g2, g3, g4⟩ := seek_sim (D := S) (M := D) hD hM2 (fun x => rfl) (fun x => rfl) k1 k2
  rw [hDD] at g3
  have oF : mfo (km_come (km_of a (kd_sk S a)) (km_skp c d a D).2) D := (mo_come _ _).tr (g2.mfo.tr (mo_come 0 D))
  refine ⟨kd_skr (kd_sk S a), D, km_come (km_of a (kd_sk S a)) (km_skp c d a D).2, fun post p => ⟨a, N, rfl, an, by rw [hDD]; exact p⟩, fun post p => ⟨c, d, a, vQ, rfl, h3.1, h4.1, by omega, by rw [oD 16 (by omega)]; exact h3.2.1, by rw [oD 16 (by omega)]; exact h4.2.1, hM2.2.2.1, vQ_km, by rw [hM2.1]; exact hD.vq, by rw [g1, ob_skr]; exact p⟩, ?_, fun i hi => oD i (by omega), fun i hi => (oF.1 i (by omega)).trans (oD i (by omega))⟩
  refine IV.up ?_ (show q ≤ q + 1 by omega)
  refine IV.both h3 h4 g3 oD oF g4 (dr := dr) ?_ h6
  rw [← hDD]
  cases kd_sk S a with
  | none => exact h5
  | some t =>
    show (kd_mv a t S) 1 5 = nI dr
    rw [mv_o a t S 1 (by omega) (by omega) (by omega) (by omega)]
    exact h5
theorem HD.so15 {b : Nat → Int32} {C : Nat → Nat → Int32} {a N : Nat} {S : lm_S} (h : HD b C a N S) : (kd_so S) 1 5 = S 1 5 := by
  have ok := h.now.ok
  obtain ⟨e1, e2, -⟩ := h.an
  obtain ⟨h1, h2, h3, h4, h5, h6, h7, h8, h9⟩ := h
  unfold kd_so kd_sos
  rw [e1, e2]
  split
  · rw [mv_o _ _ _ 1 (by omega) (by omega) (by omega) (by omega)]
  · split
    · split
      · rename_i q1 q2 q3
        have e : (kd_app (kd_step S)) 1 = (kd_step S) 1 := by
          unfold kd_app kd_keep kd_app4
          rw [va_up_ne _ _ (by omega), ls_o _ (by omega), ls_o _ (by omega), ls_o _ (by omega), ls_o _ (by omega), ls_o _ (by omega), ls_o _ (by omega)]
        rw [e]
        obtain ⟨x, y, hx, hy, hxy, hyN⟩ := h9 a h1
        have h68 : S 6 8 = nI x := by rw [h5 8 (by omega)]; exact hx
        rcases kp_step x (by omega) S h68 ok.2.1 with g | ⟨_, _, _, g⟩
        · exact g.2.2 5 (by omega)
        · exact g 5 (by omega)
      · rfl
    · rfl
theorem rn15 (b : Nat → Int32) : ∀ (m k : Nat) (S : lm_S), dJ b S → (kd_rn m k S).2 1 5 = S 1 5
  | 0, _, S, _ => rfl
  | m + 1, k, S, h => by
    have g := (dJ_J b S h).2.2
    have e : (kd_so S) 1 5 = S 1 5 := by
      obtain ⟨C, a, N, h2⟩ := h
      exact h2.so15
    rw [kd_rn]
    split
    · rfl
    · split
      · exact e
      · rw [rn15 b m (k + 1) _ g]
        exact e
theorem jc_run {q : Nat} {S : lm_S} (h : IV q S) (x : Int32) : jc s_D_run s_R_run [.ref 0, .int x] [.ref 16, .int x] q S := by
  have h0 := h
  obtain ⟨b, C, a, N, c, d, dr, hD, hM, h3, h4, h5, h6⟩ := h
  have hN := hD.2.1
  have ha := hD.1
  have hj : dJ b S := ⟨C, a, N, hD⟩
  have hq18 : vQ (S 18) := by rw [hM.2.1]; exact hD.now.q
  by_cases hw : km_within x 300 = 0
  · have hz : x < 0 ∨ ¬ x ≤ 300 := by
      refine Classical.byContradiction (fun z => ?_)
      have z1 : ¬ x < 0 := fun y => z (Or.inl y)
      have z2 : x ≤ 300 := Classical.byContradiction (fun y => z (Or.inr y))
      unfold km_within at hw
      rw [if_neg z1, if_neg (Int32.not_lt.mpr z2)] at hw
      exact absurd hw (by decide)
    have e1 : kd_runr x S = 0 := by
      unfold kd_runr
      rcases hz with y | y
      · rw [if_pos y]
      · rw [if_neg y]
        split <;> rfl
    have e2 : kd_runs x S = S := by
      unfold kd_runs
      rcases hz with y | y
      · rw [if_pos y]
      · rw [if_neg y]
        split <;> rfl
    have e3 : km_run c x S = (0, S) := by unfold km_run; rw [if_pos hw]
    refine ⟨0, S, S, fun post p => ⟨x, dJ b, rfl, dJ_J b, hj, by rw [e1, e2]; exact p⟩, fun post p => ⟨x, c, vQ, rfl, h3.1, h3.2.1, vQ_km, hq18, by rw [e3]; exact p⟩, h0.up (by omega), fun _ _ => rfl, fun _ _ => rfl⟩
  · have h1 : ¬ x < 0 := fun y => hw (by unfold km_within; rw [if_pos y])
    have h2 : ¬ (300 : Int32) < x := fun y => hw (by unfold km_within; rw [if_neg h1, if_pos y])
    have h2' : x ≤ 300 := Int32.not_lt.mp h2
    have e1 : kd_runr x S = nI (kd_rn x.toNatClampNeg 0 S).1 := by unfold kd_runr; rw [if_neg h1, if_pos h2']
    have e2 : kd_runs x S = (kd_rn x.toNatClampNeg 0 S).2 := by unfold kd_runs; rw [if_neg h1, if_pos h2']
    have oD := do_rn x.toNatClampNeg 0 S
    have e15 := rn15 b x.toNatClampNeg 0 S hj
    have hM2 := hM.dfo oD
    generalize hDD : (kd_rn x.toNatClampNeg 0 S).2 = D at oD e15 hM2 e2
    have k1 : ∀ y, km_hs 19 y D c 0 = kd_has 14 y S := fun y => by rw [hs_c (oD 19 (by omega)), h3.has]
    obtain ⟨g1, C1, a1, N1, g2, g3⟩ := run_sim b c (fun y => kd_has 14 y S) x.toNatClampNeg 0 S D C a N hD hM2 (fun y => rfl) k1
    rw [hDD] at g2
    have e3 : km_run c x D = km_rn c x.toNatClampNeg 0 D := by unfold km_run; rw [if_neg hw]
    have oF := mo_rn c x.toNatClampNeg 0 D
    refine ⟨nI (kd_rn x.toNatClampNeg 0 S).1, D, (km_rn c x.toNatClampNeg 0 D).2, fun post p => ⟨x, dJ b, rfl, dJ_J b, hj, by rw [e1, e2]; exact p⟩, fun post p => ⟨x, c, vQ, rfl, h3.1, by rw [oD 16 (by omega)]; exact h3.2.1, vQ_km, by rw [oD 18 (by omega)]; exact hq18, by rw [e3, ← g1]; exact p⟩, ?_, fun i hi => oD i (by omega), fun i hi => (oF.1 i (by omega)).trans (oD i (by omega))⟩
    refine IV.up ?_ (show q ≤ q + 1 by omega)
    exact IV.both h3 h4 g2 oD oF g3 (by rw [e15]; exact h5) h6
