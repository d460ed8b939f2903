/-! the reference: seek -/
/-- a moment is met: a stop at its counter, or its step (to S1) writes a watched address -/
def km_mt (c d : Nat) (S S1 : lm_S) : Prop := ¬ km_hs 19 (S 18 517) S c 0 = 0 ∨ (¬ S1 16 8 < 0 ∧ ¬ km_hs 20 (S1 16 8) S1 d 0 = 0) ∨ (¬ S1 16 9 < 0 ∧ ¬ km_hs 20 (S1 16 9) S1 d 0 = 0)
noncomputable def km_sl (c d : Nat) : Nat → Nat → Option Nat → lm_S → Option Nat × lm_S
  | 0, _, b, S => (b, S)
  | m + 1, t, b, S => @ite _ (km_mt c d S (km_step S)) (Classical.propDecidable _) (km_sl c d m (t + 1) (some t) (km_step S)) (km_sl c d m (t + 1) b (km_step S))
abbrev ca_sl : lm_Ca := [(94, 0, (some 4), s_R_step), (100, 3, none, s_R_has), (104, 1, (some 4), s_R_come)]
/-- from 74: the second place -/
theorem sl_b {post : Option Value → lm_S → Prop} (d : Nat) (hd : d ≤ 4) (p b t m : Int32) (S1 : lm_S) (h7 : S1 16 7 = nI d) (hy : (¬ S1 16 9 < 0 ∧ ¬ km_hs 20 (S1 16 9) S1 d 0 = 0) → lm_Go YF g_R_seek ca_sl post 14 [(0, .ref 16), (1, .int p), (2, .int t), (3, .int (t + 1))] [] S1) (hn : ¬ (¬ S1 16 9 < 0 ∧ ¬ km_hs 20 (S1 16 9) S1 d 0 = 0) → lm_Go YF g_R_seek ca_sl post 14 [(0, .ref 16), (1, .int p), (2, .int b), (3, .int (t + 1))] [] S1) : lm_Go YF g_R_seek ca_sl post 74 [(0, .ref 16), (1, .int p), (2, .int b), (3, .int t), (4, .int m)] [] S1 := by
  refine lm_to 14 30 ?_
  conv => whnf
  refine ⟨fun (h1 : S1 16 9 < 0) => ?_, fun (h1 : ¬ S1 16 9 < 0) => ?_⟩
  · exact lm_Go.sub (hn (fun q => q.1 h1)) (kk_cons rfl (kk_cons rfl (kk_cons rfl (kk_cons rfl kk_nil))))
  · conv => whnf
    refine ⟨20, d, S1 16 9, ?_, Or.inr rfl, hd, ?_⟩
    · show [Value.ref 20, Value.int (S1 16 7), Value.int (S1 16 9)] = _
      rw [h7]
    conv => whnf
    refine ⟨fun (h2 : km_hs 20 (S1 16 9) S1 d 0 = 0) => ?_, fun (h2 : ¬ km_hs 20 (S1 16 9) S1 d 0 = 0) => ?_⟩
    · exact lm_Go.sub (hn (fun q => q.2 h2)) (kk_cons rfl (kk_cons rfl (kk_cons rfl (kk_cons rfl kk_nil))))
    · exact lm_Go.sub (hy ⟨h1, h2⟩) (kk_cons rfl (kk_cons rfl (kk_cons rfl (kk_cons rfl kk_nil))))
/-- from 49: the first place -/
theorem sl_a {post : Option Value → lm_S → Prop} (d : Nat) (hd : d ≤ 4) (p b t m : Int32) (S1 : lm_S) (h7 : S1 16 7 = nI d) (hy : ((¬ S1 16 8 < 0 ∧ ¬ km_hs 20 (S1 16 8) S1 d 0 = 0) ∨ (¬ S1 16 9 < 0 ∧ ¬ km_hs 20 (S1 16 9) S1 d 0 = 0)) → lm_Go YF g_R_seek ca_sl post 14 [(0, .ref 16), (1, .int p), (2, .int t), (3, .int (t + 1))] [] S1) (hn : ¬ ((¬ S1 16 8 < 0 ∧ ¬ km_hs 20 (S1 16 8) S1 d 0 = 0) ∨ (¬ S1 16 9 < 0 ∧ ¬ km_hs 20 (S1 16 9) S1 d 0 = 0)) → lm_Go YF g_R_seek ca_sl post 14 [(0, .ref 16), (1, .int p), (2, .int b), (3, .int (t + 1))] [] S1) : lm_Go YF g_R_seek ca_sl post 49 [(0, .ref 16), (1, .int p), (2, .int b), (3, .int t), (4, .int m)] [] S1 := by
  have h74 : ¬ (¬ S1 16 8 < 0 ∧ ¬ km_hs 20 (S1 16 8) S1 d 0 = 0) → lm_Go YF g_R_seek ca_sl post 74 [(0, .ref 16), (1, .int p), (2, .int b), (3, .int t), (4, .int m)] [] S1 := fun h0 => sl_b d hd p b t m S1 h7 (fun q => hy (Or.inr q)) (fun q => hn (fun r => r.elim h0 q))
  refine lm_tos (fun q => Nat.beq q 74 || Nat.beq q 14) 30 ?_
  conv => whnf
  refine ⟨fun (h1 : S1 16 8 < 0) => ?_, fun (h1 : ¬ S1 16 8 < 0) => ?_⟩
  · exact h74 (fun q => q.1 h1)
  · conv => whnf
    refine ⟨20, d, S1 16 8, ?_, Or.inr rfl, hd, ?_⟩
    · show [Value.ref 20, Value.int (S1 16 7), Value.int (S1 16 8)] = _
      rw [h7]
    conv => whnf
    refine ⟨fun (h2 : ¬ km_hs 20 (S1 16 8) S1 d 0 = 0) => ?_, fun (h2 : km_hs 20 (S1 16 8) S1 d 0 = 0) => ?_⟩
    · exact lm_Go.sub (hy (Or.inl ⟨h1, h2⟩)) (kk_cons rfl (kk_cons rfl (kk_cons rfl (kk_cons rfl kk_nil))))
    · exact h74 (fun q => q.2 h2)
theorem sl_turn {post : Option Value → lm_S → Prop} (c d x t : Nat) (hx : x ≤ 300) (ht : t < x) (hc : c ≤ 4) (hd : d ≤ 4) (b : Int32) (S : lm_S) (h6 : S 16 6 = nI c) (h7 : S 16 7 = nI d) (hok : km_ok S) (hy : km_mt c d S (km_step S) → lm_Go YF g_R_seek ca_sl post 14 [(0, .ref 16), (1, .int (nI x)), (2, .int (nI t)), (3, .int (nI (t + 1)))] [] (km_step S)) (hn : ¬ km_mt c d S (km_step S) → lm_Go YF g_R_seek ca_sl post 14 [(0, .ref 16), (1, .int (nI x)), (2, .int b), (3, .int (nI (t + 1)))] [] (km_step S)) : lm_Go YF g_R_seek ca_sl post 14 [(0, .ref 16), (1, .int (nI x)), (2, .int b), (3, .int (nI t))] [] S := by
  rw [← nI_1] at hy hn
  have h7s : (km_step S) 16 7 = nI d := by rw [← h7]; exact (gq_step S).2 7 (by omega) (by omega)
  refine lm_tos (fun q => Nat.beq q 49 || Nat.beq q 14) 40 ?_
  conv => whnf
  refine ⟨fun q => absurd q (nI_ge ht (by omega)), fun _ => ?_⟩
  conv => whnf
  refine ⟨lm_vc (by decide), ?_⟩
  conv => whnf
  refine ⟨19, c, S 18 517, ?_, Or.inl rfl, hc, ?_⟩
  · show [Value.ref 19, Value.int (S 16 6), Value.int (S 18 517)] = _
    rw [h6]
  conv => whnf
  refine ⟨rfl, hok, ?_⟩
  conv => whnf
  refine ⟨fun (h1 : ¬ km_hs 19 (S 18 517) S c 0 = 0) => ?_, fun (h1 : km_hs 19 (S 18 517) S c 0 = 0) => ?_⟩
  · exact lm_Go.sub (hy (Or.inl h1)) (kk_cons rfl (kk_cons rfl (kk_cons rfl (kk_cons rfl kk_nil))))
  · exact lm_Go.sub (sl_a d hd (nI x) b (nI t) (km_hs 19 (S 18 517) S c 0) (km_step S) h7s (fun q => hy (Or.inr q)) (fun q => hn (fun r => r.elim (fun z => z h1) q))) (kk_cons rfl (kk_cons rfl (kk_cons rfl (kk_cons rfl (kk_cons rfl kk_nil)))))
def km_ob (b : Option Nat) : Int32 := match b with
  | none => -1
  | some t => nI t
def km_of (x : Nat) (b : Option Nat) : Nat := match b with
  | none => x
  | some t => t
theorem sl_end {post : Option Value → lm_S → Prop} {Q : (Nat → Int32) → Prop} (hQ : km_Q Q) (x : Nat) (hx : x ≤ 300) (b : Option Nat) (hb : ∀ t, b = some t → t ≤ 300) (t : Int32) (ht : nI x ≤ t) (S : lm_S) (hS : Q (S 17)) (h : post (some (.int (km_ob b))) (km_come (km_of x b) S)) : lm_Go YF g_R_seek ca_sl post 14 [(0, .ref 16), (1, .int (nI x)), (2, .int (km_ob b)), (3, .int t)] [] S := by
  cases b with
  | none =>
    refine lm_run 30 ?_
    conv => whnf
    refine ⟨fun _ => ?_, fun q => absurd ht q⟩
    conv => whnf
    refine ⟨fun q => absurd q (by decide), fun _ => ?_⟩
    conv => whnf
    refine ⟨x, _, rfl, hx, hQ.J, hS, ?_⟩
    exact h
  | some u =>
    have hu := hb u rfl
    refine lm_run 30 ?_
    conv => whnf
    refine ⟨fun _ => ?_, fun q => absurd ht q⟩
    conv => whnf
    refine ⟨fun _ => ?_, fun q => absurd (nI_pos' (show u < 2 ^ 31 by omega)) q⟩
    conv => whnf
    refine ⟨u, _, rfl, hu, hQ.J, hS, ?_⟩
    exact h
theorem sl_loop {post : Option Value → lm_S → Prop} {Q : (Nat → Int32) → Prop} (hQ : km_Q Q) (c d x : Nat) (hx : x ≤ 300) (hc : c ≤ 4) (hd : d ≤ 4) : ∀ (m t : Nat) (b : Option Nat) (S : lm_S), t + m = x → (∀ u, b = some u → u ≤ 300) → Q (S 18) → Q (S 17) → S 16 6 = nI c → S 16 7 = nI d → post (some (.int (km_ob (km_sl c d m t b S).1))) (km_come (km_of x (km_sl c d m t b S).1) (km_sl c d m t b S).2) → lm_Go YF g_R_seek ca_sl post 14 [(0, .ref 16), (1, .int (nI x)), (2, .int (km_ob b)), (3, .int (nI t))] [] S
  | 0, t, b, S, ht, hb, _, hS, _, _, h => sl_end hQ x hx b hb (nI t) (nI_le (by omega) (by omega)) S hS h
  | m + 1, t, b, S, ht, hb, h18, h17, h6, h7, h => by
    rw [km_sl] at h
    have g17 : Q ((km_step S) 17) := by rw [(gq_step S).1 17 (by omega) (by omega)]; exact h17
    have g6 : (km_step S) 16 6 = nI c := by rw [← h6]; exact (gq_step S).2 6 (by omega) (by omega)
    have g7 : (km_step S) 16 7 = nI d := by rw [← h7]; exact (gq_step S).2 7 (by omega) (by omega)
    refine sl_turn c d x t hx (by omega) hc hd _ S h6 h7 (hQ S h18).1 (fun hy => ?_) (fun hy => ?_)
    · rw [if_pos hy] at h
      exact sl_loop hQ c d x hx hc hd m (t + 1) (some t) (km_step S) (by omega) (fun u hu => by cases hu; omega) (hQ S h18).2 g17 g6 g7 h
    · rw [if_neg hy] at h
      exact sl_loop hQ c d x hx hc hd m (t + 1) b (km_step S) (by omega) hb (hQ S h18).2 g17 g6 g7 h
noncomputable def km_skp (c d x : Nat) (S : lm_S) : Option Nat × lm_S := km_sl c d x 0 none (km_come 0 S)
def s_R_seek : lm_Sp := fun av S post => ∃ (c d x : Nat) (Q : (Nat → Int32) → Prop), av = [.ref 16] ∧ c ≤ 4 ∧ d ≤ 4 ∧ x ≤ 300 ∧ S 16 6 = nI c ∧ S 16 7 = nI d ∧ S 16 2 = nI x ∧ km_Q Q ∧ Q (S 17) ∧ post (some (.int (km_ob (km_skp c d x S).1))) (km_come (km_of x (km_skp c d x S).1) (km_skp c d x S).2)
abbrev ca_R_seek : lm_Ca := [(94, 0, (some 4), s_R_step), (100, 3, none, s_R_has), (104, 1, (some 4), s_R_come)]
theorem cok_R_seek (l : Launch) : lm_cok l (kk_Y kk_shF) R_R 6 139 ca_R_seek := kk_cok (kk_cons ⟨y_R_step, b_R_step, 8, none, 4, 90, I_R_step l, ⟨by decide, by decide⟩, yw_R_step, li_R_94⟩ <| kk_cons ⟨y_R_has, b_R_has, 4, some .boolean, 0, 0, I_R_has l, ⟨by decide, by decide⟩, yw_R_has, li_R_100⟩ <| kk_cons ⟨y_R_come, b_R_come, 3, none, 5, 117, I_R_come l, ⟨by decide, by decide⟩, yw_R_come, li_R_104⟩ <| kk_nil)
set_option maxHeartbeats 1000000 in
set_option maxRecDepth 20000 in
theorem I_R_seek (l : Launch) : lm_I l (kk_Y kk_shF) y_R_seek b_R_seek 5 (some .int) 6 139 s_R_seek := by
  refine lm_impl g_R_seek ca_R_seek (by decide +kernel) kk_okF ck_R_seek (kk_fok fl_R_ok) (kk_sok sl_R_ok) (Or.inl rfl) (cok_R_seek l) rfl (by decide) ?_
  rintro av S post ⟨c, d, x, Q, rfl, hc, hd, hx, h6, h7, h2, hQ, hS, h⟩
  refine ⟨Nat.le_of_ble_eq_true rfl, lm_to 14 30 ?_⟩
  conv => whnf
  refine ⟨0, _, rfl, by omega, hQ.J, hS, ?_⟩
  have k17 : Q ((km_come 0 S) 17) := by rw [km_come_17]; exact hS
  have k18 : Q ((km_come 0 S) 18) := hS
  have k6 : (km_come 0 S) 16 6 = nI c := by rw [← h6]; exact km_come_16 0 6 S (by omega) (by omega) (by omega)
  have k7 : (km_come 0 S) 16 7 = nI d := by rw [← h7]; exact km_come_16 0 7 S (by omega) (by omega) (by omega)
  refine lm_Go.sub (sl_loop hQ c d x hx hc hd x 0 none (km_come 0 S) (by omega) (fun u hu => by cases hu) k18 k17 k6 k7 h) (kk_cons rfl (kk_cons ?_ (kk_cons rfl (kk_cons rfl kk_nil))))
  show some (Value.int (S 16 2)) = some (Value.int (nI x))
  rw [h2]
