/-! the law's loop -/
theorem lw_cmp {L a : Nat} (hL : L ≤ 1536) (ha : a ≤ 2000) : Int32.ofNat L - 3 < nI a ↔ L < a + 3 := by
  rw [Int32.lt_iff_toInt_lt, show Int32.ofNat L - 3 = nI L - nI 3 from rfl, pk_sub_toInt (by omega) (by omega), nI_toInt (by omega)]
  omega
set_option maxHeartbeats 1000000 in
set_option maxRecDepth 20000 in
theorem lw_turn {L : Nat} {xs : Nat → Int32} (hL : L ≤ 1536) (q : Nat) (S : lm_S) (hx : 3 * q + 3 ≤ L) (h : IV q S) (ih : ∀ F, IV (q + 1) F → lm_Go YF (g_L L xs) ca_L po_L 18 (L_L (3 * (q + 1))) [] F) : lm_Go YF (g_L L xs) ca_L po_L 18 (L_L (3 * q)) [] S := by
  have hv0 : vp_in (nI (3 * q)) L := vp_in_nI (by omega) (by omega)
  have hv1 : vp_in (nI (3 * q) + 1) L := by rw [nI_1]; exact vp_in_nI (by omega) (by omega)
  have hv2 : vp_in (nI (3 * q) + 2) L := by rw [show nI (3 * q) + 2 = nI (3 * q + 2) from nI_add _ 2]; exact vp_in_nI (by omega) (by omega)
  have hk : ∀ F, IV (q + 1) F → lm_Go YF (g_L L xs) ca_L po_L 502 (L_L (3 * q)) [] F := fun F hF => by
    refine lm_to 18 10 ?_
    refine lm_Go.sub (ih F hF) (kk_cons rfl (kk_cons rfl (kk_cons rfl (kk_cons ?_ kk_nil))))
    show some (Value.int (nI (3 * q) + 3)) = some (Value.int (nI (3 * (q + 1))))
    rw [show nI (3 * q) + 3 = nI (3 * q + 3) from nI_add _ 3, show 3 * q + 3 = 3 * (q + 1) by omega]
  have ss : ∀ i, lm_sub (L_L i) (L_L i) := fun i => kk_cons rfl (kk_cons rfl (kk_cons rfl (kk_cons rfl kk_nil)))
  have hc : ¬ Int32.ofNat L - 3 < nI (3 * q) := fun z => by
    have := (lw_cmp hL (by omega)).mp z
    omega
  refine lm_tos (fun p => Nat.beq p 112 || Nat.beq p 145 || Nat.beq p 178 || Nat.beq p 201 || Nat.beq p 224 || Nat.beq p 247 || Nat.beq p 260 || Nat.beq p 273 || Nat.beq p 286 || Nat.beq p 335 || Nat.beq p 384 || Nat.beq p 407 || Nat.beq p 430 || Nat.beq p 443 || Nat.beq p 456 || Nat.beq p 479 || Nat.beq p 502) 20 ?_
  conv => whnf
  refine ⟨fun z => absurd z hc, fun _ => ?_⟩
  conv => whnf
  refine And.intro hv0 ?_
  conv => whnf
  refine ⟨fun _ => lc_poke (jc_poke h _ _) hv1 hv2 hk, fun _ => ?_⟩
  conv => whnf
  refine ⟨fun _ => lc_set (jc_set h _ _) hv1 hv2 hk, fun _ => ?_⟩
  conv => whnf
  refine ⟨fun _ => lc_feed (jc_feed h _) hv1 hv2 hk, fun _ => ?_⟩
  conv => whnf
  refine ⟨fun _ => lc_run (jc_run h _) hv1 hv2 hk, fun _ => ?_⟩
  conv => whnf
  refine ⟨fun _ => lc_go (jc_go h _) hv1 hv2 hk, fun _ => ?_⟩
  conv => whnf
  refine ⟨fun _ => lc_seek (jc_seek h) hv1 hv2 hk, fun _ => ?_⟩
  conv => whnf
  refine ⟨fun _ => lc_time (jc_time h) hv1 hv2 hk, fun _ => ?_⟩
  conv => whnf
  refine ⟨fun _ => lc_last (jc_last h) hv1 hv2 hk, fun _ => ?_⟩
  conv => whnf
  refine ⟨fun _ => lc_stop (jc_stop h _ _ (by split; exact Or.inl rfl; exact Or.inr rfl)) hv1 hv2 hk, fun _ => ?_⟩
  conv => whnf
  refine ⟨fun _ => lc_watch (jc_watch h _ _ (by split; exact Or.inl rfl; exact Or.inr rfl)) hv1 hv2 hk, fun _ => ?_⟩
  conv => whnf
  refine ⟨fun _ => lc_cell (jc_cell h _) hv1 hv2 hk, fun _ => ?_⟩
  conv => whnf
  refine ⟨fun _ => lc_register (jc_register h _) hv1 hv2 hk, fun _ => ?_⟩
  conv => whnf
  refine ⟨fun _ => lc_waiting (jc_waiting h) hv1 hv2 hk, fun _ => ?_⟩
  conv => whnf
  refine ⟨fun _ => lc_puts (jc_puts h) hv1 hv2 hk, fun _ => ?_⟩
  conv => whnf
  refine ⟨fun _ => lc_output (jc_output h (by omega) _) hv1 hv2 hk, fun _ => ?_⟩
  conv => whnf
  refine ⟨fun _ => lc_wrote (jc_wrote h _) hv1 hv2 hk, fun _ => ?_⟩
  exact hk S (h.up (by omega))
set_option maxRecDepth 20000 in
theorem lw_loop {L : Nat} {xs : Nat → Int32} (hL : L ≤ 1536) : ∀ (r q : Nat) (S : lm_S), L < 3 * (q + r) + 3 → q ≤ 600 → IV q S → lm_Go YF (g_L L xs) ca_L po_L 18 (L_L (3 * q)) [] S := by
  have hend : ∀ (q : Nat) (S : lm_S), L < 3 * q + 3 → q ≤ 600 → lm_Go YF (g_L L xs) ca_L po_L 18 (L_L (3 * q)) [] S := by
    intro q S hx hq
    refine lm_run 20 ?_
    conv => whnf
    refine ⟨fun _ => ?_, fun z => absurd ((lw_cmp hL (by omega)).mpr hx) z⟩
    exact ⟨by decide, rfl⟩
  intro r
  induction r with
  | zero => exact fun q S hr hq h => hend q S (by omega) hq
  | succ r ih =>
    intro q S hr hq h
    by_cases hx : L < 3 * q + 3
    · exact hend q S hx hq
    · exact lw_turn hL q S (by omega) h (fun F hF => ih (q + 1) F (by omega) (by omega) hF)
