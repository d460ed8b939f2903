/-! the desk's loops -/
def kd_fw : Nat → Nat → lm_S → lm_S
  | 0, _, S => S
  | n + 1, k, S => kd_fw n (k + 1) (kd_swap (nI k) S)
/-- back from j: j - 1, j - 2 .. -/
def kd_bw : Nat → Nat → lm_S → lm_S
  | 0, _, S => S
  | n + 1, j, S => kd_bw n (j - 1) (kd_swap (nI (j - 1)) S)
def kd_fin (b : Nat) (S : lm_S) : lm_S := va_up (lm_set S 2 3 (nI b)) 6 (va_cpy (S 11) (S 6) (b * 9) 0 9)
def kd_mv (a b : Nat) (S : lm_S) : lm_S := kd_fin b (kd_bw (2 * a - 2 * b) (2 * a) (kd_fw (2 * b - 2 * a) (2 * a) S))
theorem nI_m2 (b : Nat) : nI b * 2 = nI (2 * b) := by rw [Nat.mul_comm]; exact pk_mul b 2
theorem nI_p1m (j : Nat) (h : 0 < j) : nI j - 1 = nI (j - 1) := pk_sub (a := j) (b := 1) h
abbrev ca_mv : lm_Ca := [(41, 2, (some 2), s_H_swapByte)]
theorem kd_swap_now (k : Int32) (S : lm_S) : (kd_swap k S) 2 3 = S 2 3 := by
  unfold kd_swap kd_swp
  split <;> rfl
theorem kd_fw_now : ∀ (n k : Nat) (S : lm_S), (kd_fw n k S) 2 3 = S 2 3
  | 0, _, _ => rfl
  | n + 1, k, S => by rw [kd_fw, kd_fw_now n, kd_swap_now]
theorem mv_tail {post : Option Value → lm_S → Prop} (b : Nat) (hb : b ≤ 300) (S : lm_S) (h : post none (kd_fin b S)) : lm_Go YF g_H_moveTo ca_mv post 73 [(0, .ref 2), (1, .int (nI b)), (2, .ref 1)] [] S := by
  refine lm_run 30 ?_
  have e1 : nI b * 9 = nI (b * 9) := pk_mul b 9
  have e2 : (nI b * 9).toNatClampNeg = b * 9 := by rw [e1, nI_clamp (by omega)]
  have hw : ¬ nI b * 9 < 0 ∧ ¬ (0 : Int32) < 0 ∧ ¬ (9 : Int32) < 0 ∧ (nI b * 9).toNatClampNeg + (9 : Int32).toNatClampNeg ≤ 2709 ∧ (0 : Int32).toNatClampNeg + (9 : Int32).toNatClampNeg ≤ 9 := by
    rw [e2, e1]
    exact ⟨nI_pos (by omega), by decide, by decide, by rw [show (9 : Int32).toNatClampNeg = 9 from by decide]; omega, by decide⟩
  unfold kd_fin at h
  rw [← e2] at h
  (try (conv => whnf))
  repeat' first
    | (refine ⟨_, rfl, ?_⟩; conv => whnf)
    | (refine ⟨_, _, rfl, ?_⟩; conv => whnf)
    | (refine ⟨_, _, _, rfl, ?_⟩; conv => whnf)
    | (refine And.intro rfl ?_; conv => whnf)
    | (refine And.intro (lm_vc (by decide)) ?_; conv => whnf)
    | (refine And.intro (by decide) ?_; conv => whnf)
    | (refine ⟨fun hx => absurd hx (by decide), fun _ => ?_⟩; conv => whnf)
    | (refine ⟨fun _ => ?_, fun hx => absurd hx (by decide)⟩; conv => whnf)
    | (refine And.intro (hw hx) ?_; conv => whnf)
    | (refine And.intro hw ?_; conv => whnf)
    | (refine And.intro hw2 ?_; conv => whnf)
    | (refine And.intro hw3 ?_; conv => whnf)
    | (refine And.intro hw4 ?_; conv => whnf)
    | (refine And.intro hw5 ?_; conv => whnf)
    | (refine And.intro hw6 ?_; conv => whnf)
    | (refine And.intro hw7 ?_; conv => whnf)
    | (refine And.intro (hv1 (by assumption)) ?_; conv => whnf)
    | (refine And.intro (hv2 (by assumption) (by assumption)) ?_; conv => whnf)
    | (refine And.intro (hv3 (by assumption) (by assumption)) ?_; conv => whnf)
    | (refine And.intro (lm_v511 _) ?_; conv => whnf)
    | (refine And.intro (lm_v7 _) ?_; conv => whnf)
    | (refine ⟨fun hx => ?_, fun hx => ?_⟩ <;> conv => whnf)
    | (split at h)
    | contradiction
    | exact h
theorem mv_back {post : Option Value → lm_S → Prop} (b : Nat) (hb : b ≤ 300) : ∀ (m j : Nat) (S : lm_S), (j = 2 * b + m ∨ (m = 0 ∧ j ≤ 2 * b)) → j ≤ 600 → post none (kd_fin b (kd_bw m j S)) → lm_Go YF g_H_moveTo ca_mv post 51 [(0, .ref 2), (1, .int (nI b)), (2, .ref 1), (3, .int (nI j - 1))] [] S
  | 0, j, S, hj, h6, h => by
    refine lm_to 73 20 ?_
    conv => whnf
    have hx : nI j - 1 < nI b * 2 := by
      rw [nI_m2, Int32.lt_iff_toInt_lt, show (1 : Int32) = nI 1 from rfl, pk_sub_toInt (by omega) (by omega), nI_toInt (by omega)]
      omega
    refine ⟨fun _ => ?_, fun hy => absurd hx hy⟩
    exact lm_Go.sub (mv_tail b hb S h) (kk_cons rfl (kk_cons rfl (kk_cons rfl kk_nil)))
  | m + 1, j, S, hj, h6, h => by
    refine lm_to 51 20 ?_
    conv => whnf
    have h1 : 1 ≤ j := by omega
    have e1 : nI j - 1 = nI (j - 1) := nI_p1m j h1
    have hx : ¬ nI j - 1 < nI b * 2 := by
      rw [nI_m2, e1]
      exact nI_nlt (by omega) (by omega)
    refine ⟨fun hy => absurd hy hx, fun _ => ?_⟩
    conv => whnf
    refine ⟨_, rfl, by rw [e1]; exact vp_in_nI (by omega) (by decide), ?_⟩
    refine lm_Go.sub (mv_back b hb m (j - 1) (kd_swap (nI j - 1) S) (by omega) (by omega) (by rw [e1]; exact h)) (kk_cons rfl (kk_cons rfl (kk_cons rfl (kk_cons ?_ kk_nil))))
    show some (Value.int ((nI j - 1) + -1)) = some (Value.int (nI (j - 1) - 1))
    rw [e1, Int32.sub_eq_add_neg]
theorem mv_mid {post : Option Value → lm_S → Prop} (a b : Nat) (ha : a ≤ 300) (hb : b ≤ 300) (S : lm_S) (hn : S 2 3 = nI a) (h : post none (kd_fin b (kd_bw (2 * a - 2 * b) (2 * a) S))) : lm_Go YF g_H_moveTo ca_mv post 42 [(0, .ref 2), (1, .int (nI b)), (2, .ref 1)] [] S := by
  refine lm_to 51 20 ?_
  refine lm_Go.sub (mv_back b hb (2 * a - 2 * b) (2 * a) S (by omega) (by omega) h) (kk_cons rfl (kk_cons rfl (kk_cons rfl (kk_cons ?_ kk_nil))))
  show some (Value.int (S 2 3 * 2 - 1)) = some (Value.int (nI (2 * a) - 1))
  rw [hn, nI_m2]
theorem mv_fore {post : Option Value → lm_S → Prop} (a b : Nat) (ha : a ≤ 300) (hb : b ≤ 300) : ∀ (m k : Nat) (S : lm_S), (k + m = 2 * b ∨ (m = 0 ∧ 2 * b ≤ k)) → k ≤ 600 → S 2 3 = nI a → post none (kd_fin b (kd_bw (2 * a - 2 * b) (2 * a) (kd_fw m k S))) → lm_Go YF g_H_moveTo ca_mv post 20 [(0, .ref 2), (1, .int (nI b)), (2, .ref 1), (3, .int (nI k))] [] S
  | 0, k, S, hk, h6, hn, h => by
    refine lm_to 42 20 ?_
    conv => whnf
    have hx : nI b * 2 ≤ nI k := by
      rw [nI_m2]
      exact nI_le (by omega) (by omega)
    refine ⟨fun _ => ?_, fun hy => absurd hx hy⟩
    exact lm_Go.sub (mv_mid a b ha hb S hn h) (kk_cons rfl (kk_cons rfl (kk_cons rfl kk_nil)))
  | m + 1, k, S, hk, h6, hn, h => by
    refine lm_to 20 20 ?_
    conv => whnf
    have hx : ¬ nI b * 2 ≤ nI k := by
      rw [nI_m2]
      exact nI_ge (by omega) (by omega)
    refine ⟨fun hy => absurd hy hx, fun _ => ?_⟩
    conv => whnf
    refine ⟨_, rfl, vp_in_nI (by omega) (by decide), ?_⟩
    refine lm_Go.sub (mv_fore a b ha hb m (k + 1) (kd_swap (nI k) S) (by omega) (by omega) (by rw [kd_swap_now]; exact hn) h) (kk_cons rfl (kk_cons rfl (kk_cons rfl (kk_cons ?_ kk_nil))))
    show some (Value.int (nI k + 1)) = some (Value.int (nI (k + 1)))
    rw [nI_1]
def s_H_moveTo : lm_Sp := fun av S post => ∃ a b : Nat, av = [.ref 2, .int (nI b), .ref 1] ∧ a ≤ 300 ∧ b ≤ 300 ∧ S 2 3 = nI a ∧ nI b ≤ S 2 4 ∧ post none (kd_mv a b S)
abbrev ca_H_moveTo : lm_Ca := [(41, 2, (some 2), s_H_swapByte)]
theorem cok_H_moveTo (l : Launch) : lm_cok l (kk_Y kk_shF) R_H 2 44 ca_H_moveTo := kk_cok (kk_cons ⟨y_H_swapByte, b_H_swapByte, 5, none, 1, 20, I_H_swapByte l, ⟨by decide, by decide⟩, yw_H_swapByte, li_H_41⟩ <| kk_nil)
set_option maxHeartbeats 1000000 in
set_option maxRecDepth 20000 in
theorem I_H_moveTo (l : Launch) : lm_I l (kk_Y kk_shF) y_H_moveTo b_H_moveTo 4 (none) 2 44 s_H_moveTo := by
  refine lm_impl g_H_moveTo ca_H_moveTo (by decide +kernel) kk_okF ck_H_moveTo (kk_fok fl_H_ok) (kk_sok sl_H_ok) (po_H _ (by decide) (by decide)) (cok_H_moveTo l) rfl (by decide) ?_
  rintro av S post ⟨a, b, rfl, ha, hb, hn, hle, h⟩
  refine ⟨Nat.le_of_ble_eq_true rfl, lm_to 20 20 ?_⟩
  conv => whnf
  refine ⟨fun hy => absurd hy (nI_pos (by omega)), fun _ => ?_⟩
  conv => whnf
  refine ⟨fun _ => ?_, fun hy => absurd hle hy⟩
  refine lm_Go.sub (mv_fore a b ha hb (2 * b - 2 * a) (2 * a) S (by omega) (by omega) hn h) (kk_cons rfl (kk_cons rfl (kk_cons rfl (kk_cons ?_ kk_nil))))
  show some (Value.int (S 2 3 * 2)) = some (Value.int (nI (2 * a)))
  rw [hn, nI_m2]
/-! outputs -/
def kd_sho (s : Nat) : Nat → Nat → lm_S → lm_S
  | 0, _, S => S
  | n + 1, k, S => kd_sho s n (k + 1) (lm_set S 8 (nI k).toNatClampNeg (S 8 (nI s + nI k).toNatClampNeg))
def kd_dt (s : Nat) (S : lm_S) : lm_S := lm_set (lm_set S 1 5 (S 1 5 + nI s)) 6 8 8
theorem dr_tail {post : Option Value → lm_S → Prop} (s : Nat) (S : lm_S) (h : post none (kd_dt s S)) : lm_Go YF g_M_dropOldOutputs [] post 44 [(0, .ref 1), (1, .int (nI s))] [] S := by
  refine lm_run 30 ?_
  unfold kd_dt at h
  (try (conv => whnf))
  repeat' first
    | (refine ⟨_, rfl, ?_⟩; conv => whnf)
    | (refine ⟨_, _, rfl, ?_⟩; conv => whnf)
    | (refine ⟨_, _, _, rfl, ?_⟩; conv => whnf)
    | (refine And.intro rfl ?_; conv => whnf)
    | (refine And.intro (lm_vc (by decide)) ?_; conv => whnf)
    | (refine And.intro (by decide) ?_; conv => whnf)
    | (refine ⟨fun hx => absurd hx (by decide), fun _ => ?_⟩; conv => whnf)
    | (refine ⟨fun _ => ?_, fun hx => absurd hx (by decide)⟩; conv => whnf)
    | (refine And.intro (hw hx) ?_; conv => whnf)
    | (refine And.intro hw ?_; conv => whnf)
    | (refine And.intro hw2 ?_; conv => whnf)
    | (refine And.intro hw3 ?_; conv => whnf)
    | (refine And.intro hw4 ?_; conv => whnf)
    | (refine And.intro hw5 ?_; conv => whnf)
    | (refine And.intro hw6 ?_; conv => whnf)
    | (refine And.intro hw7 ?_; conv => whnf)
    | (refine And.intro (hv1 (by assumption)) ?_; conv => whnf)
    | (refine And.intro (hv2 (by assumption) (by assumption)) ?_; conv => whnf)
    | (refine And.intro (hv3 (by assumption) (by assumption)) ?_; conv => whnf)
    | (refine And.intro (lm_v511 _) ?_; conv => whnf)
    | (refine And.intro (lm_v7 _) ?_; conv => whnf)
    | (refine ⟨fun hx => ?_, fun hx => ?_⟩ <;> conv => whnf)
    | (split at h)
    | contradiction
    | exact h
theorem dr_loop {post : Option Value → lm_S → Prop} (s : Nat) (hs : s ≤ 300) : ∀ (m k : Nat) (S : lm_S), k + m = 8 → post none (kd_dt s (kd_sho s m k S)) → lm_Go YF g_M_dropOldOutputs [] post 18 [(0, .ref 1), (1, .int (nI s)), (2, .int (nI k))] [] S
  | 0, k, S, hk, h => by
    refine lm_to 44 20 ?_
    conv => whnf
    have hx : (8 : Int32) ≤ nI k := nI_le (a := 8) (by omega) (by omega)
    refine ⟨fun _ => ?_, fun hy => absurd hx hy⟩
    exact lm_Go.sub (dr_tail s S h) (kk_cons rfl (kk_cons rfl kk_nil))
  | m + 1, k, S, hk, h => by
    refine lm_to 18 30 ?_
    conv => whnf
    have hx : ¬ (8 : Int32) ≤ nI k := nI_ge (b := 8) (by omega) (by omega)
    refine ⟨fun hy => absurd hy hx, fun _ => ?_⟩
    conv => whnf
    refine ⟨by rw [nI_add]; exact vp_in_nI (by omega) (by decide), ?_⟩
    conv => whnf
    refine ⟨vp_in_nI (by omega) (by decide), ?_⟩
    refine lm_Go.sub (dr_loop s hs m (k + 1) _ (by omega) h) (kk_cons rfl (kk_cons rfl (kk_cons ?_ kk_nil)))
    show some (Value.int (nI k + 1)) = some (Value.int (nI (k + 1)))
    rw [nI_1]
def kd_drop (hd : Nat) (S : lm_S) : lm_S := if hd ≤ 8 then S else kd_dt (hd - 8) (kd_sho (hd - 8) 8 0 S)
def s_M_dropOldOutputs : lm_Sp := fun av S post => av = [.ref 1] ∧ ∃ hd : Nat, hd ≤ 308 ∧ S 6 8 = nI hd ∧ post none (kd_drop hd S)
abbrev ca_M_dropOldOutputs : lm_Ca := []
theorem cok_M_dropOldOutputs (l : Launch) : lm_cok l (kk_Y kk_shF) R_M 0 0 ca_M_dropOldOutputs := kk_cok (kk_nil)
set_option maxHeartbeats 1000000 in
set_option maxRecDepth 20000 in
theorem I_M_dropOldOutputs (l : Launch) : lm_I l (kk_Y kk_shF) y_M_dropOldOutputs b_M_dropOldOutputs 3 (none) 0 0 s_M_dropOldOutputs := by
  refine lm_impl g_M_dropOldOutputs ca_M_dropOldOutputs (by decide +kernel) kk_okF ck_M_dropOldOutputs (kk_fok fl_M_ok) (kk_sok sl_M_ok) (Or.inl rfl) (cok_M_dropOldOutputs l) rfl (by decide) ?_
  rintro av S post ⟨rfl, hd, h8, he, h⟩
  refine ⟨Nat.le_of_ble_eq_true rfl, lm_to 18 30 ?_⟩
  conv => whnf
  refine And.intro (lm_vc (by decide)) ?_
  conv => whnf
  have hi : (S 6 8 - 8).toInt = (hd : Int) - 8 := by rw [he]; exact pk_sub_toInt (b := 8) (by omega) (by omega)
  unfold kd_drop at h
  refine ⟨fun hx => ?_, fun hx => ?_⟩
  · have hx2 : (0 : Int32) < S 6 8 - 8 := hx
    rw [Int32.lt_iff_toInt_lt, hi, Int32.toInt_zero] at hx2
    rw [if_neg (by omega)] at h
    refine lm_Go.sub (dr_loop (hd - 8) (by omega) 8 0 S (by omega) h) (kk_cons rfl (kk_cons ?_ (kk_cons rfl kk_nil)))
    show some (Value.int (S 6 8 - 8)) = some (Value.int (nI (hd - 8)))
    rw [he, ← pk_sub (b := 8) (by omega)]
    rfl
  · have hx2 : ¬ (0 : Int32) < S 6 8 - 8 := hx
    rw [Int32.lt_iff_toInt_lt, hi, Int32.toInt_zero] at hx2
    rw [if_pos (by omega)] at h
    exact h
/-! inputs -/
def kd_shi : Nat → Nat → lm_S → lm_S
  | 0, _, S => S
  | n + 1, k, S => kd_shi n (k + 1) (lm_set S 7 (nI k).toNatClampNeg (S 7 (S 6 7 + nI k).toNatClampNeg))
def kd_ai (w : Nat) (v : Int32) (S : lm_S) : lm_S := if 40 ≤ nI w then lm_set (lm_set S 6 7 0) 1 3 (nI w) else lm_set (lm_set (lm_set (lm_set S 6 7 0) 1 3 (nI w)) 7 (nI w).toNatClampNeg v) 1 3 (nI w + 1)
abbrev ca_ai : lm_Ca := [(34, 0, (some 1), s_M_inputsWaiting)]
theorem ai_tail {post : Option Value → lm_S → Prop} (w : Nat) (v : Int32) (S : lm_S) (h : post none (kd_ai w v S)) (hw2 : w ≤ 40) : lm_Go YF g_M_addInput ca_ai post 38 [(0, .ref 1), (1, .int v), (2, .int (nI w))] [] S := by
  refine lm_run 40 ?_
  have hw : ¬ 40 ≤ nI w → vp_in (nI w) 40 := fun hx => lm_vb (nI_pos (by omega)) hx (by decide)
  unfold kd_ai at h
  (try (conv => whnf))
  repeat' first
    | (refine ⟨_, rfl, ?_⟩; conv => whnf)
    | (refine ⟨_, _, rfl, ?_⟩; conv => whnf)
    | (refine ⟨_, _, _, rfl, ?_⟩; conv => whnf)
    | (refine And.intro rfl ?_; conv => whnf)
    | (refine And.intro (lm_vc (by decide)) ?_; conv => whnf)
    | (refine And.intro (by decide) ?_; conv => whnf)
    | (refine ⟨fun hx => absurd hx (by decide), fun _ => ?_⟩; conv => whnf)
    | (refine ⟨fun _ => ?_, fun hx => absurd hx (by decide)⟩; conv => whnf)
    | (refine And.intro (hw hx) ?_; conv => whnf)
    | (refine And.intro hw ?_; conv => whnf)
    | (refine And.intro hw2 ?_; conv => whnf)
    | (refine And.intro hw3 ?_; conv => whnf)
    | (refine And.intro hw4 ?_; conv => whnf)
    | (refine And.intro hw5 ?_; conv => whnf)
    | (refine And.intro hw6 ?_; conv => whnf)
    | (refine And.intro hw7 ?_; conv => whnf)
    | (refine And.intro (hv1 (by assumption)) ?_; conv => whnf)
    | (refine And.intro (hv2 (by assumption) (by assumption)) ?_; conv => whnf)
    | (refine And.intro (hv3 (by assumption) (by assumption)) ?_; conv => whnf)
    | (refine And.intro (lm_v511 _) ?_; conv => whnf)
    | (refine And.intro (lm_v7 _) ?_; conv => whnf)
    | (refine ⟨fun hx => ?_, fun hx => ?_⟩ <;> conv => whnf)
    | (split at h)
    | contradiction
    | exact h
theorem ai_loop {post : Option Value → lm_S → Prop} (w tk : Nat) (v : Int32) (hs : tk + w ≤ 40) : ∀ (m k : Nat) (S : lm_S), k + m = w → S 6 7 = nI tk → post none (kd_ai w v (kd_shi m k S)) → lm_Go YF g_M_addInput ca_ai post 7 [(0, .ref 1), (1, .int v), (2, .int (nI w)), (3, .int (nI k))] [] S
  | 0, k, S, hk, ht, h => by
    refine lm_to 38 20 ?_
    conv => whnf
    have hx : nI w ≤ nI k := nI_le (by omega) (by omega)
    refine ⟨fun _ => ?_, fun hy => absurd hx hy⟩
    exact lm_Go.sub (ai_tail w v S h (by omega)) (kk_cons rfl (kk_cons rfl (kk_cons rfl kk_nil)))
  | m + 1, k, S, hk, ht, h => by
    refine lm_to 7 30 ?_
    conv => whnf
    have hx : ¬ nI w ≤ nI k := nI_ge (by omega) (by omega)
    refine ⟨fun hy => absurd hy hx, fun _ => ?_⟩
    conv => whnf
    refine ⟨lm_vc (by decide), ?_⟩
    conv => whnf
    refine ⟨?_, ?_⟩
    · show vp_in (S 6 7 + nI k) 40
      rw [ht, nI_add]; exact vp_in_nI (by omega) (by decide)
    conv => whnf
    refine ⟨vp_in_nI (by omega) (by decide), ?_⟩
    refine lm_Go.sub (ai_loop w tk v hs m (k + 1) (lm_set S 7 (nI k).toNatClampNeg (S 7 (S 6 7 + nI k).toNatClampNeg)) (by omega) ht h) (kk_cons rfl (kk_cons rfl (kk_cons rfl (kk_cons ?_ kk_nil))))
    show some (Value.int (nI k + 1)) = some (Value.int (nI (k + 1)))
    rw [nI_1]
def s_M_addInput : lm_Sp := fun av S post => ∃ (v : Int32) (tk w : Nat), av = [.ref 1, .int v] ∧ tk + w ≤ 40 ∧ S 6 7 = nI tk ∧ S 1 3 = nI (tk + w) ∧ post none (kd_ai w v (kd_shi w 0 S))
abbrev ca_M_addInput : lm_Ca := [(34, 0, (some 1), s_M_inputsWaiting)]
theorem cok_M_addInput (l : Launch) : lm_cok l (kk_Y kk_shF) R_M 1 20 ca_M_addInput := kk_cok (kk_cons ⟨y_M_inputsWaiting, b_M_inputsWaiting, 1, some .int, 0, 0, I_M_inputsWaiting l, ⟨by decide, by decide⟩, yw_M_inputsWaiting, li_M_34⟩ <| kk_nil)
set_option maxHeartbeats 1000000 in
set_option maxRecDepth 20000 in
theorem I_M_addInput (l : Launch) : lm_I l (kk_Y kk_shF) y_M_addInput b_M_addInput 4 (none) 1 20 s_M_addInput := by
  refine lm_impl g_M_addInput ca_M_addInput (by decide +kernel) kk_okF ck_M_addInput (kk_fok fl_M_ok) (kk_sok sl_M_ok) (Or.inl rfl) (cok_M_addInput l) rfl (by decide) ?_
  rintro av S post ⟨v, tk, w, rfl, h4, h7, h3, h⟩
  refine ⟨Nat.le_of_ble_eq_true rfl, lm_to 7 30 ?_⟩
  conv => whnf
  refine And.intro rfl ?_
  refine lm_Go.sub (ai_loop w tk v h4 w 0 S (by omega) h7 h) (kk_cons rfl (kk_cons rfl (kk_cons ?_ (kk_cons rfl kk_nil))))
  show some (Value.int (S 1 3 - S 6 7)) = some (Value.int (nI w))
  rw [h3, h7, pk_sub (by omega), Nat.add_sub_cancel_left]
