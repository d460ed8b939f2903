/-! each call on both sides -/
/-- the two answer alike, and what binds them stands -/
def jc (sD sR : lm_Sp) (avD avR : List Value) (q : Nat) (S : lm_S) : Prop := ∃ (x : Int32) (D F : lm_S), (∀ post, post (some (.int x)) D → sD avD S post) ∧ (∀ post, post (some (.int x)) F → sR avR D post) ∧ IV (q + 1) F ∧ (∀ i, 20 < i → D i = S i) ∧ ∀ i, 20 < i → F i = S i
theorem jc.see {sD sR : lm_Sp} {avD avR : List Value} {q : Nat} {S : lm_S} (h : IV q S) {x : Int32} (h1 : ∀ post, post (some (.int x)) S → sD avD S post) (h2 : ∀ post, post (some (.int x)) S → sR avR S post) : jc sD sR avD avR q S := ⟨x, S, S, h1, h2, h.up (by omega), fun _ _ => rfl, fun _ _ => rfl⟩
theorem isA_w (a : Int32) : kd_isA a = km_within a 511 := by
  unfold kd_isA km_within
  by_cases h : a < 0
  · rw [if_pos h, if_pos h]
  · rw [if_neg h, if_neg h]
    have e : (512 : Int32) ≤ a ↔ (511 : Int32) < a := by
      rw [Int32.le_iff_toInt_le, Int32.lt_iff_toInt_lt, show (512 : Int32).toInt = 512 from by decide, show (511 : Int32).toInt = 511 from by decide]
      omega
    by_cases g : (512 : Int32) ≤ a
    · rw [if_pos g, if_pos (e.mp g)]
    · rw [if_neg g, if_neg (fun z => g (e.mpr z))]
theorem w01_A (a : Int32) : km_w01 (km_within a 511) = if kd_isA a = 0 then 0 else 1 := by
  rw [isA_w]
  rfl
theorem jc_time {q : Nat} {S : lm_S} (h : IV q S) : jc s_D_time s_R_time [.ref 0] [.ref 16] q S := by
  obtain ⟨b, C, a, N, c, d, dr, hD, hM, h3, h4, h5, h6⟩ := h
  have e : S 2 3 = S 16 2 := by rw [hD.2.2.1, hM.2.2.1]
  exact jc.see ⟨b, C, a, N, c, d, dr, hD, hM, h3, h4, h5, h6⟩ (x := S 2 3) (fun post p => ⟨rfl, p⟩) (fun post p => ⟨rfl, by rw [← e]; exact p⟩)
theorem jc_last {q : Nat} {S : lm_S} (h : IV q S) : jc s_D_last s_R_last [.ref 0] [.ref 16] q S := by
  obtain ⟨b, C, a, N, c, d, dr, hD, hM, h3, h4, h5, h6⟩ := h
  have e : S 2 4 = S 16 3 := by rw [hD.2.2.2.1, hM.2.2.2]
  exact jc.see ⟨b, C, a, N, c, d, dr, hD, hM, h3, h4, h5, h6⟩ (x := S 2 4) (fun post p => ⟨rfl, p⟩) (fun post p => ⟨rfl, by rw [← e]; exact p⟩)
theorem IV.rs {q : Nat} {S : lm_S} (h : IV q S) : rs S S := by
  obtain ⟨b, C, a, N, c, d, dr, hD, hM, h3, h4, h5, h6⟩ := h
  exact now_S hD hM
theorem jc_waiting {q : Nat} {S : lm_S} (h : IV q S) : jc s_D_waiting s_R_waiting [.ref 0] [.ref 16] q S := by
  obtain ⟨r1, r2, r3, tk, fd, hd, dr, i1, i2, i3, i4, i5, i6, i7, i8, i9, i10, i11, i12⟩ := h.rs
  have e : S 1 3 - S 6 7 = S 18 519 := by rw [i1, i2, i5, pk_sub i3]
  exact jc.see h (x := S 1 3 - S 6 7) (fun post p => ⟨rfl, p⟩) (fun post p => ⟨rfl, by rw [← e]; exact p⟩)
theorem jc_puts {q : Nat} {S : lm_S} (h : IV q S) : jc s_D_puts s_R_puts [.ref 0] [.ref 16] q S := by
  obtain ⟨r1, r2, r3, tk, fd, hd, dr, i1, i2, i3, i4, i5, i6, i7, i8, i9, i10, i11, i12⟩ := h.rs
  have e : S 1 5 + S 6 8 = S 18 560 := by rw [i7, i8, i9, nI_add]
  exact jc.see h (x := S 1 5 + S 6 8) (fun post p => ⟨rfl, p⟩) (fun post p => ⟨rfl, by rw [← e]; exact p⟩)
theorem jc_cell {q : Nat} {S : lm_S} (h : IV q S) (k : Int32) : jc s_D_cell s_R_cell [.ref 0, .int k] [.ref 16, .int k] q S := by
  have r := h.rs
  have e : kd_cellr k S = km_cellr k S := by
    unfold kd_cellr km_cellr
    rw [← isA_w]
    by_cases hA : kd_isA k = 0
    · rw [if_pos hA, if_pos hA]
    · rw [if_neg hA, if_neg hA]
      obtain ⟨p, hp, rfl⟩ := isA_of hA
      rw [nI_clamp (by omega)]
      exact r.1 p hp
  exact jc.see h (x := kd_cellr k S) (fun post p => ⟨k, rfl, p⟩) (fun post p => ⟨k, rfl, by rw [← e]; exact p⟩)
theorem isR_of {x : Int32} (h : ¬ kd_isR x = 0) : ∃ p : Nat, p < 7 ∧ x = nI p := vp_in_of (km_within_in (n := 6) (by decide) h) (by decide)
theorem jc_register {q : Nat} {S : lm_S} (h : IV q S) (k : Int32) : jc s_D_register s_R_register [.ref 0, .int k] [.ref 16, .int k] q S := by
  have r := h.rs
  have e : kd_regr k S = km_regr k S := by
    unfold kd_regr km_regr
    rw [show km_within k 6 = kd_isR k from rfl]
    by_cases hA : kd_isR k = 0
    · rw [if_pos hA, if_pos hA]
    · rw [if_neg hA, if_neg hA]
      obtain ⟨p, hp, rfl⟩ := isR_of hA
      rw [show (512 : Int32) + nI p = nI (512 + p) from nI_add 512 p, nI_clamp (by omega), nI_clamp (by omega)]
      exact r.2.1 p hp
  exact jc.see h (x := kd_regr k S) (fun post p => ⟨k, rfl, p⟩) (fun post p => ⟨k, rfl, by rw [← e]; exact p⟩)
theorem jc_output {q : Nat} {S : lm_S} (h : IV q S) (hq : q ≤ 1000) (k : Int32) : jc s_D_output s_R_output [.ref 0, .int k] [.ref 16, .int k] q S := by
  have r := h.rs
  have hdr : ∃ dr : Nat, S 1 5 = nI dr ∧ dr ≤ 300000 := by
    obtain ⟨b, C, a, N, c, d, dr, hD, hM, h3, h4, h5, h6⟩ := h
    exact ⟨dr, h5, by omega⟩
  obtain ⟨dr0, e0, hdr0⟩ := hdr
  obtain ⟨r1, r2, r3, tk, fd, hd, dr, i1, i2, i3, i4, i5, i6, i7, i8, i9, i10, i11, i12⟩ := r
  have hs : S 18 560 = nI (dr0 + hd) := by
    rw [i9, ← nI_add, ← i8, e0, nI_add]
  have e : kd_outr k S = km_outr k S := by
    unfold kd_outr km_outr km_within
    by_cases h0 : k < 0
    · rw [if_pos h0, if_pos h0, if_pos rfl]
    · rw [if_neg h0, if_neg h0]
      obtain ⟨j, hj, rfl⟩ := nI_of h0
      by_cases h8 : j < 8
      · rw [if_pos (show nI j < (8 : Int32) from nI_lt (b := 8) h8 (by omega)), if_neg (show ¬ (7 : Int32) < nI j from nI_nlt (a := 7) (by omega) (by omega)), if_neg (show ¬ (1 : Int32) = 0 by decide), hs]
        unfold kd_outb
        rw [i7]
        by_cases hl : j < hd
        · rw [if_pos (nI_lt hl (by omega)), if_neg (nI_ge (by omega) (by omega)), nI_p1m hd (by omega), pk_sub (by omega), nI_clamp (by omega), show (561 : Int32) + nI j = nI (561 + j) from nI_add 561 j, nI_clamp (by omega)]
          exact i10 j h8 hl
        · have hdr0e : dr0 = 0 := by
            have := i11 (by omega)
            subst this
            rw [e0] at i8
            exact (nI_eq (by omega) (by omega)).mp i8
          rw [if_neg (nI_nlt (by omega) (by omega)), if_pos (nI_le (by omega) (by omega))]
      · rw [if_neg (show ¬ nI j < (8 : Int32) from nI_nlt (b := 8) (by omega) (by omega)), if_pos (show (7 : Int32) < nI j from nI_lt (a := 7) (by omega) (by omega)), if_pos rfl]
  refine jc.see h (x := kd_outr k S) (fun post p => ⟨k, rfl, fun h0 h8 hl => ?_, p⟩) (fun post p => ⟨k, rfl, by rw [← e]; exact p⟩)
  obtain ⟨j, hj, rfl⟩ := nI_of h0
  rw [i7] at hl ⊢
  have hl2 : j < hd := (nI_ltI hj (by omega)).mp hl
  rw [nI_p1m hd (by omega), pk_sub (by omega)]
  exact vp_in_nI (by omega) (by decide)
theorem jc_poke {q : Nat} {S : lm_S} (h : IV q S) (k v : Int32) : jc s_D_poke s_R_poke [.ref 0, .int k, .int v] [.ref 16, .int k, .int v] q S := by
  have h0 := h
  have r := h.rs
  obtain ⟨b, C, a, N, c, d, dr, hD, hM, h3, h4, h5, h6⟩ := h
  obtain ⟨hd, i7, i12⟩ : ∃ hd : Nat, S 6 8 = nI hd ∧ hd ≤ 308 := by
    obtain ⟨r1, r2, r3, tk, fd, hd, dr, i1, i2, i3, i4, i5, i6, i7, i8, i9, i10, i11, i12⟩ := r
    exact ⟨hd, i7, i12⟩
  have oD := do_poke hd k v S
  have oF := mo_pokes k v (kd_poke hd k v S)
  refine ⟨if kd_isA k = 0 then 0 else 1, kd_poke hd k v S, km_pokes k v (kd_poke hd k v S), fun post p => ⟨k, v, hd, rfl, i12, i7, p⟩, fun post p => ⟨k, v, rfl, by rw [w01_A]; exact p⟩, ?_, fun i hi => oD i (by omega), fun i hi => (oF.1 i (by omega)).trans (oD i (by omega))⟩
  unfold kd_poke at *
  unfold km_pokes at *
  rw [← isA_w] at *
  by_cases hA : kd_isA k = 0
  · rw [if_pos hA, if_pos hA]
    exact h0.up (by omega)
  · rw [if_neg hA] at *
    rw [if_neg hA]
    obtain ⟨p, hp, rfl⟩ := isA_of hA
    rw [nI_clamp (by omega)] at *
    refine IV.anew h3 h4 (r.cset p hp _ (kb_and v)) (by rw [ls_o _ (by omega)]; exact i7) i12 ((dfo.rf S).st (by omega) (by omega) (by omega)) (by rw [ls_o _ (by omega)]; exact h5) h6 (mfo.rf _).st ?_
    show upd _ p (v &&& 255) = upd (S 18) p (v &&& 255)
    rw [oD 18 (by omega)]
