/-! work, jump, move, small, branch, side by side -/
theorem kdw_0 (p t : Int32) (D : lm_S) : kd_workt (nI 0) p t D = kd_load (nI 0) t D := by
  unfold kd_workt
  rw [if_neg (by decide)]
theorem kmw_0 (q t c : Int32) (M : lm_S) : km_wk (nI 0) q t c M = km_wld (nI 0) t M := by
  unfold km_wk
  rw [if_pos (by decide)]
theorem kdw_1 (p t : Int32) (D : lm_S) : kd_workt (nI 1) p t D = kd_load (nI 1) t D := by
  unfold kd_workt
  rw [if_neg (by decide)]
theorem kmw_1 (q t c : Int32) (M : lm_S) : km_wk (nI 1) q t c M = km_wld (nI 1) t M := by
  unfold km_wk
  rw [if_neg (by decide), if_pos (by decide)]
theorem kdw_2 (p t : Int32) (D : lm_S) : kd_workt (nI 2) p t D = kd_load (nI 2) t D := by
  unfold kd_workt
  rw [if_neg (by decide)]
theorem kmw_2 (q t c : Int32) (M : lm_S) : km_wk (nI 2) q t c M = km_wld (nI 2) t M := by
  unfold km_wk
  rw [if_neg (by decide), if_neg (by decide), if_pos (by decide)]
theorem kdw_3 (p t : Int32) (D : lm_S) : kd_workt (nI 3) p t D = kd_wplace p (D 6 0) D := by
  unfold kd_workt
  rw [if_pos (by decide), if_neg (by decide), show (nI 3 - 3).toNatClampNeg = 0 from by decide]
theorem kmw_3 (q t c : Int32) (M : lm_S) : km_wk (nI 3) q t c M = km_change q (M 18 (512 + 3 - 3)) M := by
  unfold km_wk
  rw [if_neg (by decide), if_neg (by decide), if_neg (by decide), if_pos (by decide)]
  unfold km_wst
  rw [show (512 + nI 3 - 3).toNatClampNeg = 512 + 3 - 3 from by decide]
theorem kdw_4 (p t : Int32) (D : lm_S) : kd_workt (nI 4) p t D = kd_wplace p (D 6 1) D := by
  unfold kd_workt
  rw [if_pos (by decide), if_neg (by decide), show (nI 4 - 3).toNatClampNeg = 1 from by decide]
theorem kmw_4 (q t c : Int32) (M : lm_S) : km_wk (nI 4) q t c M = km_change q (M 18 (512 + 4 - 3)) M := by
  unfold km_wk
  rw [if_neg (by decide), if_neg (by decide), if_neg (by decide), if_neg (by decide), if_pos (by decide)]
  unfold km_wst
  rw [show (512 + nI 4 - 3).toNatClampNeg = 512 + 4 - 3 from by decide]
theorem kdw_5 (p t : Int32) (D : lm_S) : kd_workt (nI 5) p t D = kd_wplace p (D 6 2) D := by
  unfold kd_workt
  rw [if_pos (by decide), if_neg (by decide), show (nI 5 - 3).toNatClampNeg = 2 from by decide]
theorem kmw_5 (q t c : Int32) (M : lm_S) : km_wk (nI 5) q t c M = km_change q (M 18 (512 + 5 - 3)) M := by
  unfold km_wk
  rw [if_neg (by decide), if_neg (by decide), if_neg (by decide), if_neg (by decide), if_neg (by decide), if_pos (by decide)]
  unfold km_wst
  rw [show (512 + nI 5 - 3).toNatClampNeg = 512 + 5 - 3 from by decide]
theorem kdw_6 (p t : Int32) (D : lm_S) : kd_workt (nI 6) p t D = kd_add t D := by
  unfold kd_workt
  rw [if_pos (by decide), if_pos (by decide), if_pos (by decide)]
theorem kmw_6 (q t c : Int32) (M : lm_S) : km_wk (nI 6) q t c M = km_add t M := by
  unfold km_wk
  rw [if_neg (by decide), if_neg (by decide), if_neg (by decide), if_neg (by decide), if_neg (by decide), if_neg (by decide), if_pos (by decide)]
theorem kdw_7 (p t : Int32) (D : lm_S) : kd_workt (nI 7) p t D = kd_add (255 - t) D := by
  unfold kd_workt
  rw [if_pos (by decide), if_pos (by decide), if_neg (by decide), if_pos (by decide)]
theorem kmw_7 (q t c : Int32) (M : lm_S) : km_wk (nI 7) q t c M = km_add (255 - t) M := by
  unfold km_wk
  rw [if_neg (by decide), if_neg (by decide), if_neg (by decide), if_neg (by decide), if_neg (by decide), if_neg (by decide), if_neg (by decide), if_pos (by decide)]
theorem kdw_8 (p t : Int32) (D : lm_S) : kd_workt (nI 8) p t D = kd_load 0 (kd_bits (nI 8) t D) D := by
  unfold kd_workt
  rw [if_pos (by decide), if_pos (by decide), if_neg (by decide), if_neg (by decide), if_neg (by decide)]
theorem kmw_8 (q t c : Int32) (M : lm_S) : km_wk (nI 8) q t c M = km_wbt (M 18 512 &&& t) M := by
  unfold km_wk
  rw [if_neg (by decide), if_neg (by decide), if_neg (by decide), if_neg (by decide), if_neg (by decide), if_neg (by decide), if_neg (by decide), if_neg (by decide), if_pos (by decide)]
theorem kdw_9 (p t : Int32) (D : lm_S) : kd_workt (nI 9) p t D = kd_load 0 (kd_bits (nI 9) t D) D := by
  unfold kd_workt
  rw [if_pos (by decide), if_pos (by decide), if_neg (by decide), if_neg (by decide), if_neg (by decide)]
theorem kmw_9 (q t c : Int32) (M : lm_S) : km_wk (nI 9) q t c M = km_wbt (M 18 512 ||| t) M := by
  unfold km_wk
  rw [if_neg (by decide), if_neg (by decide), if_neg (by decide), if_neg (by decide), if_neg (by decide), if_neg (by decide), if_neg (by decide), if_neg (by decide), if_neg (by decide), if_pos (by decide)]
theorem kdw_10 (p t : Int32) (D : lm_S) : kd_workt (nI 10) p t D = kd_load 0 (kd_bits (nI 10) t D) D := by
  unfold kd_workt
  rw [if_pos (by decide), if_pos (by decide), if_neg (by decide), if_neg (by decide), if_neg (by decide)]
theorem kmw_10 (q t c : Int32) (M : lm_S) : km_wk (nI 10) q t c M = km_wbt (M 18 512 ^^^ t) M := by
  unfold km_wk
  rw [if_neg (by decide), if_neg (by decide), if_neg (by decide), if_neg (by decide), if_neg (by decide), if_neg (by decide), if_neg (by decide), if_neg (by decide), if_neg (by decide), if_neg (by decide), if_pos (by decide)]
theorem kdw_11 (p t : Int32) (D : lm_S) : kd_workt (nI 11) p t D = kd_cmp (D 6 0) t D := by
  unfold kd_workt
  rw [if_pos (by decide), if_pos (by decide), if_neg (by decide), if_neg (by decide), if_pos (by decide), if_neg (by decide), show (nI 11 - 11).toNatClampNeg = 0 from by decide]
theorem kmw_11 (q t c : Int32) (M : lm_S) : km_wk (nI 11) q t c M = km_cmp (M 18 (512 + 11 - 11)) t M := by
  unfold km_wk
  rw [if_neg (by decide), if_neg (by decide), if_neg (by decide), if_neg (by decide), if_neg (by decide), if_neg (by decide), if_neg (by decide), if_neg (by decide), if_neg (by decide), if_neg (by decide), if_neg (by decide), if_pos (by decide)]
  unfold km_wcm
  rw [show (512 + nI 11 - 11).toNatClampNeg = 512 + 11 - 11 from by decide]
theorem kdw_12 (p t : Int32) (D : lm_S) : kd_workt (nI 12) p t D = kd_cmp (D 6 1) t D := by
  unfold kd_workt
  rw [if_pos (by decide), if_pos (by decide), if_neg (by decide), if_neg (by decide), if_pos (by decide), if_neg (by decide), show (nI 12 - 11).toNatClampNeg = 1 from by decide]
theorem kmw_12 (q t c : Int32) (M : lm_S) : km_wk (nI 12) q t c M = km_cmp (M 18 (512 + 12 - 11)) t M := by
  unfold km_wk
  rw [if_neg (by decide), if_neg (by decide), if_neg (by decide), if_neg (by decide), if_neg (by decide), if_neg (by decide), if_neg (by decide), if_neg (by decide), if_neg (by decide), if_neg (by decide), if_neg (by decide), if_neg (by decide), if_pos (by decide)]
  unfold km_wcm
  rw [show (512 + nI 12 - 11).toNatClampNeg = 512 + 12 - 11 from by decide]
theorem kdw_13 (p t : Int32) (D : lm_S) : kd_workt (nI 13) p t D = kd_cmp (D 6 2) t D := by
  unfold kd_workt
  rw [if_pos (by decide), if_pos (by decide), if_neg (by decide), if_neg (by decide), if_pos (by decide), if_neg (by decide), show (nI 13 - 11).toNatClampNeg = 2 from by decide]
theorem kmw_13 (q t c : Int32) (M : lm_S) : km_wk (nI 13) q t c M = km_cmp (M 18 (512 + 13 - 11)) t M := by
  unfold km_wk
  rw [if_neg (by decide), if_neg (by decide), if_neg (by decide), if_neg (by decide), if_neg (by decide), if_neg (by decide), if_neg (by decide), if_neg (by decide), if_neg (by decide), if_neg (by decide), if_neg (by decide), if_neg (by decide), if_neg (by decide), if_pos (by decide)]
  unfold km_wcm
  rw [show (512 + nI 13 - 11).toNatClampNeg = 512 + 13 - 11 from by decide]
theorem kdw_14 (p t : Int32) (D : lm_S) : kd_workt (nI 14) p t D = kd_test t D := by
  unfold kd_workt
  rw [if_pos (by decide), if_pos (by decide), if_neg (by decide), if_neg (by decide), if_pos (by decide), if_pos (by decide), if_pos (by decide)]
theorem kmw_14 (q t c : Int32) (M : lm_S) : km_wk (nI 14) q t c M = km_wte t M := by
  unfold km_wk
  rw [if_neg (by decide), if_neg (by decide), if_neg (by decide), if_neg (by decide), if_neg (by decide), if_neg (by decide), if_neg (by decide), if_neg (by decide), if_neg (by decide), if_neg (by decide), if_neg (by decide), if_neg (by decide), if_neg (by decide), if_neg (by decide), if_pos (by decide)]
theorem kdw_15 (p t : Int32) (D : lm_S) : kd_workt (nI 15) p t D = kd_alter (nI 15) p t D := by
  unfold kd_workt
  rw [if_pos (by decide), if_pos (by decide), if_neg (by decide), if_neg (by decide), if_pos (by decide), if_pos (by decide), if_neg (by decide)]
theorem kmw_15 (q t c : Int32) (M : lm_S) : km_wk (nI 15) q t c M = km_win q (t + 1) M := by
  unfold km_wk
  rw [if_neg (by decide), if_neg (by decide), if_neg (by decide), if_neg (by decide), if_neg (by decide), if_neg (by decide), if_neg (by decide), if_neg (by decide), if_neg (by decide), if_neg (by decide), if_neg (by decide), if_neg (by decide), if_neg (by decide), if_neg (by decide), if_neg (by decide), if_pos (by decide)]
theorem kdw_16 (p t : Int32) (D : lm_S) : kd_workt (nI 16) p t D = kd_alter (nI 16) p t D := by
  unfold kd_workt
  rw [if_pos (by decide), if_pos (by decide), if_neg (by decide), if_neg (by decide), if_pos (by decide), if_pos (by decide), if_neg (by decide)]
theorem kmw_16 (q t c : Int32) (M : lm_S) : km_wk (nI 16) q t c M = km_win q (t - 1) M := by
  unfold km_wk
  rw [if_neg (by decide), if_neg (by decide), if_neg (by decide), if_neg (by decide), if_neg (by decide), if_neg (by decide), if_neg (by decide), if_neg (by decide), if_neg (by decide), if_neg (by decide), if_neg (by decide), if_neg (by decide), if_neg (by decide), if_neg (by decide), if_neg (by decide), if_neg (by decide), if_pos (by decide)]
theorem kdw_17 (p t : Int32) (D : lm_S) : kd_workt (nI 17) p t D = kd_alter (nI 17) p t D := by
  unfold kd_workt
  rw [if_pos (by decide), if_pos (by decide), if_neg (by decide), if_neg (by decide), if_pos (by decide), if_pos (by decide), if_neg (by decide)]
theorem kmw_17 (q t c : Int32) (M : lm_S) : km_wk (nI 17) q t c M = km_wsl (nI 17) q t c M := by
  unfold km_wk
  rw [if_neg (by decide), if_neg (by decide), if_neg (by decide), if_neg (by decide), if_neg (by decide), if_neg (by decide), if_neg (by decide), if_neg (by decide), if_neg (by decide), if_neg (by decide), if_neg (by decide), if_neg (by decide), if_neg (by decide), if_neg (by decide), if_neg (by decide), if_neg (by decide), if_neg (by decide), if_pos (by decide)]
theorem kdw_18 (p t : Int32) (D : lm_S) : kd_workt (nI 18) p t D = kd_alter (nI 18) p t D := by
  unfold kd_workt
  rw [if_pos (by decide), if_pos (by decide), if_neg (by decide), if_neg (by decide), if_pos (by decide), if_pos (by decide), if_neg (by decide)]
theorem kmw_18 (q t c : Int32) (M : lm_S) : km_wk (nI 18) q t c M = km_wsr (nI 18) q t c M := by
  unfold km_wk
  rw [if_neg (by decide), if_neg (by decide), if_neg (by decide), if_neg (by decide), if_neg (by decide), if_neg (by decide), if_neg (by decide), if_neg (by decide), if_neg (by decide), if_neg (by decide), if_neg (by decide), if_neg (by decide), if_neg (by decide), if_neg (by decide), if_neg (by decide), if_neg (by decide), if_neg (by decide), if_neg (by decide), if_pos (by decide)]
theorem kdw_19 (p t : Int32) (D : lm_S) : kd_workt (nI 19) p t D = kd_alter (nI 19) p t D := by
  unfold kd_workt
  rw [if_pos (by decide), if_pos (by decide), if_neg (by decide), if_neg (by decide), if_pos (by decide), if_pos (by decide), if_neg (by decide)]
theorem kmw_19 (q t c : Int32) (M : lm_S) : km_wk (nI 19) q t c M = km_wsl (nI 19) q t c M := by
  unfold km_wk
  rw [if_neg (by decide), if_neg (by decide), if_neg (by decide), if_neg (by decide), if_neg (by decide), if_neg (by decide), if_neg (by decide), if_neg (by decide), if_neg (by decide), if_neg (by decide), if_neg (by decide), if_neg (by decide), if_neg (by decide), if_neg (by decide), if_neg (by decide), if_neg (by decide), if_neg (by decide), if_neg (by decide), if_neg (by decide), if_pos (by decide)]
theorem kdw_20 (p t : Int32) (D : lm_S) : kd_workt (nI 20) p t D = kd_alter (nI 20) p t D := by
  unfold kd_workt
  rw [if_pos (by decide), if_pos (by decide), if_neg (by decide), if_neg (by decide), if_pos (by decide), if_pos (by decide), if_neg (by decide)]
theorem kmw_20 (q t c : Int32) (M : lm_S) : km_wk (nI 20) q t c M = km_wsr (nI 20) q t c M := by
  unfold km_wk
  rw [if_neg (by decide), if_neg (by decide), if_neg (by decide), if_neg (by decide), if_neg (by decide), if_neg (by decide), if_neg (by decide), if_neg (by decide), if_neg (by decide), if_neg (by decide), if_neg (by decide), if_neg (by decide), if_neg (by decide), if_neg (by decide), if_neg (by decide), if_neg (by decide), if_neg (by decide), if_neg (by decide), if_neg (by decide), if_neg (by decide)]
section WRK
variable {C0 : Nat → Int32} {D M : lm_S}
theorem rl.wk (h : rl C0 D M) {p q : Int32} (hp : pl p q) (hw : w01 D) (t : Int32) (ht : kb t) (o : Nat) (ho : o ≤ 20) : rl C0 (kd_workt (nI o) p t D) (km_wk (nI o) q t (M 18 516 &&& 1) M) := by
  have hbk : ∀ k, k < 5 → kb (M 18 (512 + k)) := h.2.2.1.2.1
  obtain ⟨j, hj, ej⟩ := ht
  rcases (show o = 0 ∨ o = 1 ∨ o = 2 ∨ o = 3 ∨ o = 4 ∨ o = 5 ∨ o = 6 ∨ o = 7 ∨ o = 8 ∨ o = 9 ∨ o = 10 ∨ o = 11 ∨ o = 12 ∨ o = 13 ∨ o = 14 ∨ o = 15 ∨ o = 16 ∨ o = 17 ∨ o = 18 ∨ o = 19 ∨ o = 20 by omega) with rfl | rfl | rfl | rfl | rfl | rfl | rfl | rfl | rfl | rfl | rfl | rfl | rfl | rfl | rfl | rfl | rfl | rfl | rfl | rfl | rfl
  · rw [kdw_0, kmw_0]
    show rl C0 (kd_load (nI 0) t D) (lm_set (km_mark t M) 18 (512 + 0) (t &&& 255))
    exact h.load 0 (by omega) t
  · rw [kdw_1, kmw_1]
    show rl C0 (kd_load (nI 1) t D) (lm_set (km_mark t M) 18 (512 + 1) (t &&& 255))
    exact h.load 1 (by omega) t
  · rw [kdw_2, kmw_2]
    show rl C0 (kd_load (nI 2) t D) (lm_set (km_mark t M) 18 (512 + 2) (t &&& 255))
    exact h.load 2 (by omega) t
  · rw [kdw_3, kmw_3]
    rw [h.2.1 0 (by omega)]
    exact h.change hp (hbk 0 (by omega)) hw
  · rw [kdw_4, kmw_4]
    rw [h.2.1 1 (by omega)]
    exact h.change hp (hbk 1 (by omega)) hw
  · rw [kdw_5, kmw_5]
    rw [h.2.1 2 (by omega)]
    exact h.change hp (hbk 2 (by omega)) hw
  · rw [kdw_6, kmw_6]; exact h.add t
  · rw [kdw_7, kmw_7]; exact h.add (255 - t)
  · rw [kdw_8, kmw_8]
    show rl C0 (kd_load 0 (D 6 0 &&& t) D) (km_wbt (M 18 512 &&& t) M)
    rw [h.A]
    exact h.bits _
  · rw [kdw_9, kmw_9]
    show rl C0 (kd_load 0 (D 6 0 ||| t) D) (km_wbt (M 18 512 ||| t) M)
    rw [h.A]
    exact h.bits _
  · rw [kdw_10, kmw_10]
    show rl C0 (kd_load 0 (D 6 0 ^^^ t) D) (km_wbt (M 18 512 ^^^ t) M)
    rw [h.A]
    exact h.bits _
  · rw [kdw_11, kmw_11]
    rw [h.2.1 0 (by omega)]
    exact h.cmp _ t
  · rw [kdw_12, kmw_12]
    rw [h.2.1 1 (by omega)]
    exact h.cmp _ t
  · rw [kdw_13, kmw_13]
    rw [h.2.1 2 (by omega)]
    exact h.cmp _ t
  · rw [kdw_14, kmw_14]; exact h.test t
  · rw [kdw_15, kmw_15]; exact h.win hp (t + 1) hw
  · rw [kdw_16, kmw_16]; exact h.win hp (t - 1) hw
  · rw [kdw_17, kmw_17]
    show rl C0 (kd_wplace p ((t <<< (1 &&& 31)) &&& 255) (kd_note ((t <<< (1 &&& 31)) &&& 255) (kd_flag 1 (if t &&& 128 = 0 then 0 else 1) D))) (km_flag 1 (if t ≤ 127 then 0 else 1) (km_win q (t * 2 + 0) M))
    rw [ej, t_shl j hj, t_hi j hj, Int32.add_zero]
    exact h.carry hp _ _ hw
  · rw [kdw_18, kmw_18]
    show rl C0 (kd_wplace p ((t >>> (1 &&& 31)) &&& 255) (kd_note ((t >>> (1 &&& 31)) &&& 255) (kd_flag 1 (if t &&& 1 = 0 then 0 else 1) D))) (km_flag 1 (if t - t / 2 * 2 = 1 then 1 else 0) (km_win q (t / 2 + 0) M))
    rw [ej, t_shr j hj, t_lo j hj, Int32.add_zero]
    exact h.carry hp _ _ hw
  · rw [kdw_19, kmw_19]
    show rl C0 (kd_wplace p ((t <<< (1 &&& 31) + (D 6 4 &&& 1)) &&& 255) (kd_note ((t <<< (1 &&& 31) + (D 6 4 &&& 1)) &&& 255) (kd_flag 1 (if t &&& 128 = 0 then 0 else 1) D))) (km_flag 1 (if t ≤ 127 then 0 else 1) (km_win q (t * 2 + (M 18 516 &&& 1)) M))
    rw [ej, t_shl j hj, t_hi j hj, h.P]
    exact h.carry hp _ _ hw
  · rw [kdw_20, kmw_20]
    show rl C0 (kd_wplace p ((t >>> (1 &&& 31) + 128 * (D 6 4 &&& 1)) &&& 255) (kd_note ((t >>> (1 &&& 31) + 128 * (D 6 4 &&& 1)) &&& 255) (kd_flag 1 (if t &&& 1 = 0 then 0 else 1) D))) (km_flag 1 (if t - t / 2 * 2 = 1 then 1 else 0) (km_win q (t / 2 + 128 * (M 18 516 &&& 1)) M))
    rw [ej, t_shr j hj, t_lo j hj, h.P]
    exact h.carry hp _ _ hw
theorem rl.work (h : rl C0 D M) {p q : Int32} (hp : pl p q) (hw : w01 D) (o : Nat) (ho : o ≤ 20) : rl C0 (kd_work (nI o) p D) (km_work (nI o) q M) := by
  obtain ⟨e, hb⟩ := h.tv hp
  unfold kd_work km_work
  split
  · rename_i h1
    rw [if_pos h1] at e
    rw [e]
    exact h.wk hp hw _ hb o ho
  · rename_i h1
    rw [if_neg h1] at e
    rw [e]
    exact h.wk hp hw _ hb o ho
theorem v_255 {j : Nat} (hj : j < 512) : kb (nI j / 256) := by
  rw [show (256 : Int32) = nI 256 from rfl, pk_div (by omega) (by omega) (by omega)]
  exact ⟨j / 256, by omega, rfl⟩
theorem rl.jmp (h : rl C0 D M) (hw : D 1 8 = 0) (k : Nat) (hk : k < 512) (op : Int32) : rl C0 (if op = 22 then lm_set (kd_push ((kd_push (D 6 5 / 256) D) 6 5 &&& 255) (kd_push (D 6 5 / 256) D)) 6 5 (nI k) else lm_set D 6 5 (nI k)) (km_jmp op (nI k) M) := by
  obtain ⟨c, hc, ec⟩ := vp_in_of h.2.2.1.2.2 (by decide)
  unfold km_jmp
  split
  · have h2 : rl C0 (kd_push (D 6 5 / 256) D) (km_push (M 18 517 / 256) M) := by
      rw [h.C]
      exact h.push (by rw [ec]; exact v_255 hc) (Or.inl hw)
    have h3 : rl C0 (kd_push ((kd_push (D 6 5 / 256) D) 6 5 &&& 255) (kd_push (D 6 5 / 256) D)) (km_push ((km_push (M 18 517 / 256) M) 18 517 &&& 255) (km_push (M 18 517 / 256) M)) := by
      rw [h2.C]
      exact h2.push (kb_and _) (push_w _ D hw)
    exact h3.reg 5 (by omega) _ (fun q => by omega) (fun _ => vp_in_nI hk (by decide))
  · exact h.reg 5 (by omega) _ (fun q => by omega) (fun _ => vp_in_nI hk (by decide))
theorem rl.move (h : rl C0 D M) (j : Nat) (hj : j < 8) : rl C0 (kd_move (nI j) D) (km_move (nI j) M) := by
  rcases (show j = 0 ∨ j = 1 ∨ j = 2 ∨ j = 3 ∨ j = 4 ∨ j = 5 ∨ j = 6 ∨ j = 7 by omega) with rfl | rfl | rfl | rfl | rfl | rfl | rfl | rfl
  · show rl C0 (kd_load 1 (D 6 0) D) (km_tr 513 (M 18 512) M)
    rw [h.A]; exact h.load 1 (by omega) _
  · show rl C0 (kd_load 0 (D 6 1) D) (km_tr 512 (M 18 513) M)
    rw [h.X]; exact h.load 0 (by omega) _
  · show rl C0 (kd_load 2 (D 6 0) D) (km_tr 514 (M 18 512) M)
    rw [h.A]; exact h.load 2 (by omega) _
  · show rl C0 (kd_load 0 (D 6 2) D) (km_tr 512 (M 18 514) M)
    rw [h.Y]; exact h.load 0 (by omega) _
  · show rl C0 (kd_load 1 (D 6 3) D) (km_tr 513 (M 18 515) M)
    rw [h.S]; exact h.load 1 (by omega) _
  · show rl C0 (lm_set D 6 3 (D 6 1)) (lm_set M 18 515 (M 18 513))
    rw [h.X]; exact h.reg 3 (by omega) _ (fun _ => h.2.2.1.2.1 1 (by omega)) (fun q => by omega)
  · show rl C0 (kd_load 1 (D 6 1 + 1) D) (km_tr 513 (M 18 513 + 1) M)
    rw [h.X]; exact h.load 1 (by omega) _
  · show rl C0 (kd_load 1 (D 6 1 - 1) D) (km_tr 513 (M 18 513 - 1) M)
    rw [h.X]; exact h.load 1 (by omega) _
theorem rl.small (h : rl C0 D M) (j : Nat) (hj : j < 8) : rl C0 (kd_small (nI j) D) (km_small (nI j) M) := by
  rcases (show j = 0 ∨ j = 1 ∨ j = 2 ∨ j = 3 ∨ j = 4 ∨ j = 5 ∨ j = 6 ∨ j = 7 by omega) with rfl | rfl | rfl | rfl | rfl | rfl | rfl | rfl
  · show rl C0 (kd_load 2 (D 6 2 + 1) D) (km_tr 514 (M 18 514 + 1) M)
    rw [h.Y]; exact h.load 2 (by omega) _
  · show rl C0 (kd_load 2 (D 6 2 - 1) D) (km_tr 514 (M 18 514 - 1) M)
    rw [h.Y]; exact h.load 2 (by omega) _
  · exact h.flag 1 0 (by decide)
  · exact h.flag 1 1 (by decide)
  · exact h.flag 64 0 (by decide)
  · exact h
  · exact h
  · exact h
theorem hop_v (o : Int32) (ho : kb o) : (if 128 ≤ o then o - 256 else o) = (if o ≤ 127 then o else o - 256) := by
  obtain ⟨j, hj, rfl⟩ := ho
  have e1 : (128 ≤ nI j) ↔ 128 ≤ j := nI_leI (a := 128) (by omega) (by omega)
  have e2 : (nI j ≤ 127) ↔ j ≤ 127 := nI_leI (b := 127) (by omega) (by omega)
  by_cases h : 128 ≤ j
  · rw [if_pos (e1.mpr h), if_neg (fun q => absurd (e2.mp q) (by omega))]
  · rw [if_neg (fun q => h (e1.mp q)), if_pos (e2.mpr (by omega))]
theorem rl.hop (h : rl C0 D M) (o : Int32) (ho : kb o) : rl C0 (kd_hop o D) (km_hop o M) := by
  unfold kd_hop km_hop
  rw [h.C, hop_v o ho]
  exact h.reg 5 (by omega) _ (fun q => by omega) (fun _ => lm_v511 _)
theorem rl.it {c : Prop} [Decidable c] {D1 M1 : lm_S} (h : rl C0 D M) (g : rl C0 D1 M1) : rl C0 (if c then D else D1) (if c then M else M1) := by
  split
  · exact h
  · exact g
theorem rl.branch (h : rl C0 D M) (j : Nat) (hj : j < 8) (o : Int32) (ho : kb o) : rl C0 (kd_branch (nI j) o D) (km_branch (nI j) o M) := by
  have g := h.hop o ho
  rcases (show j = 0 ∨ j = 1 ∨ j = 2 ∨ j = 3 ∨ j = 4 ∨ j = 5 ∨ j = 6 ∨ j = 7 by omega) with rfl | rfl | rfl | rfl | rfl | rfl | rfl | rfl
  · show rl C0 (if D 6 4 &&& 128 = 0 then kd_hop o D else D) (if M 18 516 &&& 128 = 0 then km_hop o M else M)
    rw [h.P]; exact rl.it g h
  · show rl C0 (if D 6 4 &&& 128 = 0 then D else kd_hop o D) (if M 18 516 &&& 128 = 0 then M else km_hop o M)
    rw [h.P]; exact rl.it h g
  · show rl C0 (if D 6 4 &&& 64 = 0 then kd_hop o D else D) (if M 18 516 &&& 64 = 0 then km_hop o M else M)
    rw [h.P]; exact rl.it g h
  · show rl C0 (if D 6 4 &&& 64 = 0 then D else kd_hop o D) (if M 18 516 &&& 64 = 0 then M else km_hop o M)
    rw [h.P]; exact rl.it h g
  · show rl C0 (if D 6 4 &&& 1 = 0 then kd_hop o D else D) (if M 18 516 &&& 1 = 0 then km_hop o M else M)
    rw [h.P]; exact rl.it g h
  · show rl C0 (if D 6 4 &&& 1 = 0 then D else kd_hop o D) (if M 18 516 &&& 1 = 0 then M else km_hop o M)
    rw [h.P]; exact rl.it h g
  · show rl C0 (if D 6 4 &&& 2 = 0 then kd_hop o D else D) (if M 18 516 &&& 2 = 0 then km_hop o M else M)
    rw [h.P]; exact rl.it g h
  · show rl C0 (if D 6 4 &&& 2 = 0 then D else kd_hop o D) (if M 18 516 &&& 2 = 0 then M else km_hop o M)
    rw [h.P]; exact rl.it h g
theorem len_eq (j : Nat) (hj : j < 8) (op : Int32) : kd_len op (nI j) = km_len op (nI j) := by
  unfold kd_len km_len
  split
  · rfl
  · rcases (show j = 0 ∨ j = 1 ∨ j = 2 ∨ j = 3 ∨ j = 4 ∨ j = 5 ∨ j = 6 ∨ j = 7 by omega) with rfl | rfl | rfl | rfl | rfl | rfl | rfl | rfl <;> rfl
end WRK
