theorem IV.hd {q : Nat} {S : lm_S} (h : IV q S) : ∃ hd : Nat, S 6 8 = nI hd ∧ hd ≤ 308 := by
  obtain ⟨r1, r2, r3, tk, fd, hd, dr, i1, i2, i3, i4, i5, i6, i7, i8, i9, i10, i11, i12⟩ := h.rs
  exact ⟨hd, i7, i12⟩
theorem setv_kb (p : Nat) (v : Int32) (hp : p < 5) : kb (km_setv (nI p) v) := by
  unfold km_setv
  by_cases h4 : 4 ≤ p
  · have : p = 4 := by omega
    subst this
    rw [if_pos (by decide), if_pos (by decide)]
    exact kb_195 v
  · rw [if_neg (show ¬ (4 : Int32) ≤ nI p from nI_ge (b := 4) (by omega) (by omega))]
    exact kb_and v
theorem setv_5 (v : Int32) : vp_in (km_setv (nI 5) v) 512 := by
  unfold km_setv
  rw [if_pos (by decide), if_neg (by decide), if_pos (by decide)]
  exact lm_v511 v
theorem setv_eq (p : Nat) (hp : p < 7) (v : Int32) (S : lm_S) : kd_setv (nI p) v S = lm_set S 6 p (km_setv (nI p) v) := by
  have hp2 : p = 0 ∨ p = 1 ∨ p = 2 ∨ p = 3 ∨ p = 4 ∨ p = 5 ∨ p = 6 := by omega
  rcases hp2 with e | e | e | e | e | e | e <;> subst e <;> rfl
theorem w01_R (a : Int32) : km_w01 (km_within a 6) = if kd_isR a = 0 then 0 else 1 := rfl
theorem jc_set {q : Nat} {S : lm_S} (h : IV q S) (k v : Int32) : jc s_D_set s_R_set [.ref 0, .int k, .int v] [.ref 16, .int k, .int v] q S := by
  have h0 := h
  have r := h.rs
  obtain ⟨hd, i7, i12⟩ := h.hd
  obtain ⟨b, C, a, N, c, d, dr, hD, hM, h3, h4, h5, h6⟩ := h
  have oD := do_sets hd k v S
  have oF := mo_sets k v (kd_sets hd k v S)
  refine ⟨if kd_isR k = 0 then 0 else 1, kd_sets hd k v S, km_sets k v (kd_sets hd k v S), fun post p => ⟨k, v, hd, rfl, i12, i7, p⟩, fun post p => ⟨k, v, rfl, by rw [w01_R]; exact p⟩, ?_, fun i hi => oD i (by omega), fun i hi => (oF.1 i (by omega)).trans (oD i (by omega))⟩
  unfold kd_sets at *
  unfold km_sets at *
  rw [show km_within k 6 = kd_isR k from rfl] at *
  by_cases hA : kd_isR k = 0
  · rw [if_pos hA, if_pos hA]
    exact h0.up (by omega)
  · rw [if_neg hA] at *
    rw [if_neg hA]
    obtain ⟨p, hp, rfl⟩ := isR_of hA
    have ei : ((512 : Int32) + nI p).toNatClampNeg = 512 + p := by
      rw [show (512 : Int32) + nI p = nI (512 + p) from nI_add 512 p, nI_clamp (by omega)]
    rw [ei]
    rw [setv_eq p hp] at *
    refine IV.anew h3 h4 (r.rset p hp (km_setv (nI p) v) (setv_kb p v) (fun e => by subst e; exact setv_5 v)) (by rw [ls_n _ _ (by omega)]; exact i7) i12 ((dfo.rf S).st (by omega) (by omega) (by omega)) (by rw [ls_o _ (by omega)]; exact h5) h6 (mfo.rf _).st ?_
    show upd _ (512 + p) _ = upd (S 18) (512 + p) _
    rw [oD 18 (by omega)]
theorem jc_feed {q : Nat} {S : lm_S} (h : IV q S) (v : Int32) : jc s_D_feed s_R_feed [.ref 0, .int v] [.ref 16, .int v] q S := by
  have h0 := h
  have r := h.rs
  obtain ⟨hd, i7, i12⟩ := h.hd
  obtain ⟨tk, w, e7, e3, hw, e519⟩ : ∃ tk w : Nat, S 6 7 = nI tk ∧ S 1 3 = nI (tk + w) ∧ tk + w ≤ 40 ∧ S 18 519 = nI w := by
    obtain ⟨r1, r2, r3, tk, fd, hd, dr, i1, i2, i3, i4, i5, _⟩ := r
    exact ⟨tk, fd - tk, i1, by rw [i2, show tk + (fd - tk) = fd by omega], by omega, i5⟩
  obtain ⟨b, C, a, N, c, d, dr, hD, hM, h3, h4, h5, h6⟩ := h
  have oD := do_feed hd w v S
  have oF := mo_feeds v (kd_feed hd w v S)
  have f519 : (kd_feed hd w v S) 18 519 = nI w := by rw [oD 18 (by omega)]; exact e519
  have er : (if (kd_feed hd w v S) 18 519 = 40 then (0 : Int32) else 1) = if w < 40 then 1 else 0 := by
    rw [f519]
    by_cases q : w < 40
    · rw [if_pos q, if_neg (show ¬ nI w = (40 : Int32) from fun z => by have := (nI_eq (b := 40) (by omega) (by omega)).mp z; omega)]
    · rw [if_neg q, if_pos (by rw [show w = 40 by omega]; rfl)]
  refine ⟨if w < 40 then 1 else 0, kd_feed hd w v S, km_feeds v (kd_feed hd w v S), fun post p => ⟨v, hd, tk, w, rfl, i12, i7, hw, e7, e3, p⟩, fun post p => ⟨v, rfl, ⟨w, by omega, f519⟩, by rw [er]; exact p⟩, ?_, fun i hi => oD i (by omega), fun i hi => (oF.1 i (by omega)).trans (oD i (by omega))⟩
  have eM : km_feeds v (kd_feed hd w v S) = if w < 40 then km_an (lm_set (lm_set (kd_feed hd w v S) 18 (520 + w) (v &&& 255)) 18 519 (nI (w + 1))) else kd_feed hd w v S := by
    unfold km_feeds
    rw [f519]
    by_cases q : w < 40
    · rw [if_pos q, if_neg (show ¬ nI w = (40 : Int32) from fun z => by have := (nI_eq (b := 40) (by omega) (by omega)).mp z; omega), show (520 : Int32) + nI w = nI (520 + w) from nI_add 520 w, nI_clamp (by omega), ls_n _ _ (by omega), f519, nI_1]
    · rw [if_neg q, if_pos (by rw [show w = 40 by omega]; rfl)]
  rw [eM]
  by_cases q : w < 40
  · rw [if_pos q]
    have eD : kd_feed hd w v S = kd_begin (kd_drop hd (kd_ai w (v &&& 255) (kd_shi w 0 S))) := by unfold kd_feed; rw [if_pos q]
    have eE : kd_ai w (v &&& 255) (kd_shi w 0 S) = lm_set (lm_set (lm_set (lm_set (kd_shi w 0 S) 6 7 0) 1 3 (nI w)) 7 w (v &&& 255)) 1 3 (nI (w + 1)) := by
      unfold kd_ai
      rw [if_neg (show ¬ (40 : Int32) ≤ nI w from nI_ge (b := 40) q (by omega)), nI_clamp (by omega), nI_1]
    refine IV.anew (hd := hd) h3 h4 (r.feed tk w e7 e3 hw q (v &&& 255)) ?_ i12 ((do_ai _ _ _).tr (do_shi _ _ _)) (dr := dr) ?_ h6 ?_ ?_
    · rw [eE, ls_o _ (by omega), ls_o _ (by omega), ls_o _ (by omega), ls_n _ _ (by omega), shi_o _ _ _ _ (by omega)]
      exact i7
    · rw [eE, ls_n _ _ (by omega), ls_o _ (by omega), ls_n _ _ (by omega), ls_o _ (by omega), shi_o _ _ _ _ (by omega)]
      exact h5
    · rw [eD]
      exact (mfo.rf _).st.st
    · show upd (upd ((kd_feed hd w v S) 18) (520 + w) _) 519 _ = upd (upd (S 18) (520 + w) _) 519 _
      rw [oD 18 (by omega)]
  · rw [if_neg q]
    have eD : kd_feed hd w v S = S := by unfold kd_feed; rw [if_neg q]
    rw [eD]
    exact h0.up (by omega)
theorem jc_go {q : Nat} {S : lm_S} (h : IV q S) (t : Int32) : jc s_D_go s_R_go [.ref 0, .int t] [.ref 16, .int t] q S := by
  have h0 := h
  obtain ⟨b, C, a, N, c, d, dr, hD, hM, h3, h4, h5, h6⟩ := h
  obtain ⟨ea, eN, an⟩ := hD.an
  rw [ea, eN] at an
  have hN := hD.2.1
  have e24 := hD.2.2.2.1
  have hq : vQ b := by
    have g := (hD.2.2.2.2.2.2.1 0 (by omega)).1
    exact g.q
  by_cases hw : km_within t (nI N) = 0
  · have hz : t < 0 ∨ ¬ t ≤ nI N := by
      refine Classical.byContradiction (fun z => ?_)
      have z1 : ¬ t < 0 := fun y => z (Or.inl y)
      have z2 : t ≤ nI N := Classical.byContradiction (fun y => z (Or.inr y))
      unfold km_within at hw
      rw [if_neg z1, if_neg (Int32.not_lt.mpr z2)] at hw
      exact absurd hw (by decide)
    have e1 : (if t < 0 then (0 : Int32) else if t ≤ S 2 4 then 1 else 0) = 0 := by
      rw [e24]
      rcases hz with y | y
      · rw [if_pos y]
      · rw [if_neg y]
        split <;> rfl
    have e2 : (if t < 0 then S else if t ≤ S 2 4 then kd_mv a t.toNatClampNeg S else S) = S := by
      rw [e24]
      rcases hz with y | y
      · rw [if_pos y]
      · rw [if_neg y]
        split <;> rfl
    refine ⟨0, S, S, fun post p => ⟨t, a, N, rfl, an, by rw [e1, e2]; exact p⟩, fun post p => ⟨t, N, vQ, rfl, hM.2.2.2, hN, vQ_km, by rw [hM.1]; exact hq, ?_⟩, h0.up (by omega), fun _ _ => rfl, fun _ _ => rfl⟩
    rw [hM.2.2.2, hw, if_pos rfl]
    exact p
  · have h1 : ¬ t < 0 := fun y => hw (by unfold km_within; rw [if_pos y])
    have h2 : ¬ nI N < t := fun y => hw (by unfold km_within; rw [if_neg h1, if_pos y])
    obtain ⟨j, hj, rfl⟩ := nI_of h1
    have hjN : j ≤ N := by
      rcases Nat.lt_or_ge N j with y | y
      · exact absurd (nI_lt y hj) h2
      · exact y
    have e1 : (if nI j < 0 then (0 : Int32) else if nI j ≤ S 2 4 then 1 else 0) = 1 := by
      rw [e24, if_neg h1, if_pos (nI_le hjN (by omega))]
    have e2 : (if nI j < 0 then S else if nI j ≤ S 2 4 then kd_mv a (nI j).toNatClampNeg S else S) = kd_mv a j S := by
      rw [e24, if_neg h1, if_pos (nI_le hjN (by omega)), nI_clamp hj]
    have oD := do_mv a j S
    have hM2 := hM.dfo oD
    have oF := mo_come j (kd_mv a j S)
    refine ⟨1, kd_mv a j S, km_come j (kd_mv a j S), fun post p => ⟨nI j, a, N, rfl, an, by rw [e1, e2]; exact p⟩, fun post p => ⟨nI j, N, vQ, rfl, hM2.2.2.2, hN, vQ_km, by rw [hM2.1]; exact hq, ?_⟩, ?_, fun i hi => oD i (by omega), fun i hi => (oF.1 i (by omega)).trans (oD i (by omega))⟩
    · rw [hM2.2.2.2, if_neg hw, nI_clamp hj]
      have e3 : km_w01 (km_within (nI j) (nI N)) = 1 := by unfold km_w01; rw [if_neg hw]
      rw [e3]
      exact p
    · refine IV.up ?_ (show q ≤ q + 1 by omega)
      refine IV.both h3 h4 (hD.move j hjN) oD oF (come_M hM2.1 hM2.2.2.2 j) (dr := dr) ?_ h6
      rw [mv_o a j S 1 (by omega) (by omega) (by omega) (by omega)]
      exact h5
