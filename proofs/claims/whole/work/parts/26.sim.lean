/-! a whole step, side by side -/
theorem kds_0 (D : lm_S) : kd_stack (nI 0) D = lm_set (kd_take (kd_take D)) 6 5 ((kd_pv D + 256 * kd_pv (kd_take D)) &&& 511) := by
  unfold kd_stack; rw [if_pos (by decide)]
theorem kds_1 (D : lm_S) : kd_stack (nI 1) D = kd_push (D 6 0) D := by
  unfold kd_stack; rw [if_neg (by decide), if_pos (by decide)]
theorem kds_2 (D : lm_S) : kd_stack (nI 2) D = kd_load 0 (kd_pv D) (kd_take D) := by
  unfold kd_stack; rw [if_neg (by decide), if_neg (by decide), if_pos (by decide)]
theorem kds_3 (D : lm_S) : kd_stack (nI 3) D = kd_push (D 6 4) D := by
  unfold kd_stack; rw [if_neg (by decide), if_neg (by decide), if_neg (by decide), if_pos (by decide)]
theorem kds_4 (D : lm_S) : kd_stack (nI 4) D = lm_set (kd_take D) 6 4 (kd_pv D &&& 195) := by
  unfold kd_stack; rw [if_neg (by decide), if_neg (by decide), if_neg (by decide), if_neg (by decide), if_pos (by decide)]
theorem kds_5 (D : lm_S) : kd_stack (nI 5) D = lm_set D 6 6 1 := by
  unfold kd_stack; rw [if_neg (by decide), if_neg (by decide), if_neg (by decide), if_neg (by decide), if_neg (by decide), if_pos (by decide)]
theorem kds_6 (D : lm_S) : kd_stack (nI 6) D = kd_in D := by
  unfold kd_stack; rw [if_neg (by decide), if_neg (by decide), if_neg (by decide), if_neg (by decide), if_neg (by decide), if_neg (by decide), if_pos (by decide)]
theorem kds_7 (D : lm_S) : kd_stack (nI 7) D = kd_out D := by
  unfold kd_stack; rw [if_neg (by decide), if_neg (by decide), if_neg (by decide), if_neg (by decide), if_neg (by decide), if_neg (by decide), if_neg (by decide)]
theorem kms_0 (w : Nat) (M : lm_S) : km_stack w (nI 0) M = lm_set (km_pull (km_pull M)) 18 517 ((km_pv M + 256 * km_pv (km_pull M)) &&& 511) := by
  unfold km_stack; rw [if_pos (by decide)]
theorem kms_1 (w : Nat) (M : lm_S) : km_stack w (nI 1) M = km_push (M 18 512) M := by
  unfold km_stack; rw [if_neg (by decide), if_pos (by decide)]
theorem kms_2 (w : Nat) (M : lm_S) : km_stack w (nI 2) M = km_tr 512 (km_pv M) (km_pull M) := by
  unfold km_stack; rw [if_neg (by decide), if_neg (by decide), if_pos (by decide)]
theorem kms_3 (w : Nat) (M : lm_S) : km_stack w (nI 3) M = km_push (M 18 516) M := by
  unfold km_stack; rw [if_neg (by decide), if_neg (by decide), if_neg (by decide), if_pos (by decide)]
theorem kms_4 (w : Nat) (M : lm_S) : km_stack w (nI 4) M = lm_set (km_pull M) 18 516 (km_pv M &&& 195) := by
  unfold km_stack; rw [if_neg (by decide), if_neg (by decide), if_neg (by decide), if_neg (by decide), if_pos (by decide)]
theorem kms_5 (w : Nat) (M : lm_S) : km_stack w (nI 5) M = lm_set M 18 518 1 := by
  unfold km_stack; rw [if_neg (by decide), if_neg (by decide), if_neg (by decide), if_neg (by decide), if_neg (by decide), if_pos (by decide)]
theorem kms_6 (w : Nat) (M : lm_S) : km_stack w (nI 6) M = km_in w M := by
  unfold km_stack; rw [if_neg (by decide), if_neg (by decide), if_neg (by decide), if_neg (by decide), if_neg (by decide), if_neg (by decide), if_pos (by decide)]
theorem kms_7 (w : Nat) (M : lm_S) : km_stack w (nI 7) M = km_out M := by
  unfold km_stack; rw [if_neg (by decide), if_neg (by decide), if_neg (by decide), if_neg (by decide), if_neg (by decide), if_neg (by decide), if_neg (by decide)]
section SIM
variable {C0 : Nat → Int32} {D M : lm_S}
theorem kb_195 (x : Int32) : kb (x &&& 195) := by
  apply kb_of
  rw [Int32.and_assoc]
  rfl
theorem rl.stack (h : rl C0 D M) (j : Nat) (hj : j < 8) (w : Nat) (hw : M 18 519 = nI w) (hw40 : w ≤ 40) (hd : Nat) (hD : D 6 8 = nI hd) (hlt : hd < 308) (h0 : w01 D) : rl C0 (kd_stack (nI j) D) (km_stack w (nI j) M) := by
  rcases (show j = 0 ∨ j = 1 ∨ j = 2 ∨ j = 3 ∨ j = 4 ∨ j = 5 ∨ j = 6 ∨ j = 7 by omega) with rfl | rfl | rfl | rfl | rfl | rfl | rfl | rfl
  · rw [kds_0, kms_0, h.pv.1, h.pull.pv.1]
    exact h.pull.pull.reg 5 (by omega) _ (fun q => by omega) (fun _ => lm_v511 _)
  · rw [kds_1, kms_1, h.A]
    exact h.push (h.2.2.1.2.1 0 (by omega)) h0
  · rw [kds_2, kms_2, h.pv.1]
    exact h.pull.load 0 (by omega) _
  · rw [kds_3, kms_3, h.P]
    exact h.push (h.2.2.1.2.1 4 (by omega)) h0
  · rw [kds_4, kms_4, h.pv.1]
    exact h.pull.reg 4 (by omega) _ (fun _ => kb_195 _) (fun q => by omega)
  · rw [kds_5, kms_5]
    exact h.reg 6 (by omega) _ (fun q => by omega) (fun q => by omega)
  · rw [kds_6, kms_6]
    exact h.inp w hw hw40
  · rw [kds_7, kms_7]
    exact h.out hd hD hlt
/-- any cell read -/
theorem rl.cx (h : rl C0 D M) (x : Int32) : kd_cell x D = M 18 (x &&& 511).toNatClampNeg ∧ kb (M 18 (x &&& 511).toNatClampNeg) := by
  obtain ⟨j, hj, e⟩ := pk_andE x (m := 511) 9 (by decide)
  unfold kd_cell
  rw [e, nI_clamp (by omega)]
  exact ⟨h.1 j hj, h.2.2.1.1 j hj⟩
theorem kb_511 {x : Int32} (h : kb x) : x &&& 511 = x := by
  obtain ⟨j, hj, rfl⟩ := h
  exact and511 (by omega)
theorem rl.place (h : rl C0 D M) (j : Nat) (hj : j < 7) : ∃ k : Nat, k < 512 ∧ kd_place (nI j) (D 6 5) D = nI k ∧ km_place (nI j) (M 18 517 + 1 &&& 511) (km_i M) (km_wd M) M = nI k := by
  have c1 := h.cx (M 18 517 + 1)
  have c2 := h.cx (M 18 517 + 2)
  have hi : kb (km_i M) := c1.2
  have f1 : kd_cell (M 18 517 + 1) D = km_i M := c1.1
  have f2 : kd_wide (M 18 517) D = km_wd M := by
    unfold kd_wide km_wd
    rw [f1, c2.1]
  have m511 : ∀ x : Int32, ∃ k : Nat, k < 512 ∧ x &&& 511 = nI k := fun x => pk_andE x 9 (by decide)
  have m255 : ∀ x : Int32, ∃ k : Nat, k < 512 ∧ x &&& 255 = nI k := fun x => by
    obtain ⟨k, hk, e⟩ := kb_and x
    exact ⟨k, by omega, e⟩
  have key : kd_place (nI j) (D 6 5) D = km_place (nI j) (M 18 517 + 1 &&& 511) (km_i M) (km_wd M) M ∧ ∃ k : Nat, k < 512 ∧ km_place (nI j) (M 18 517 + 1 &&& 511) (km_i M) (km_wd M) M = nI k := by
    unfold kd_place km_place
    rw [h.C, f1, f2, h.X, h.Y]
    rcases (show j = 0 ∨ j = 1 ∨ j = 2 ∨ j = 3 ∨ j = 4 ∨ j = 5 ∨ j = 6 by omega) with rfl | rfl | rfl | rfl | rfl | rfl | rfl
    · rw [if_pos (by decide), if_pos (by decide)]
      exact ⟨rfl, m511 _⟩
    · rw [if_neg (by decide), if_pos (by decide), if_neg (by decide), if_pos (by decide)]
      obtain ⟨k, hk, e⟩ := hi
      exact ⟨rfl, k, by omega, e⟩
    · rw [if_neg (by decide), if_neg (by decide), if_pos (by decide), if_neg (by decide), if_neg (by decide), if_pos (by decide)]
      exact ⟨rfl, m255 _⟩
    · rw [if_neg (by decide), if_neg (by decide), if_neg (by decide), if_pos (by decide), if_neg (by decide), if_neg (by decide), if_neg (by decide), if_pos (by decide)]
      exact ⟨rfl, m511 _⟩
    · rw [if_neg (by decide), if_neg (by decide), if_neg (by decide), if_neg (by decide), if_pos (by decide), if_neg (by decide), if_neg (by decide), if_neg (by decide), if_neg (by decide), if_pos (by decide)]
      exact ⟨rfl, m511 _⟩
    · rw [if_neg (by decide), if_neg (by decide), if_neg (by decide), if_neg (by decide), if_neg (by decide), if_pos (by decide), if_neg (by decide), if_neg (by decide), if_neg (by decide), if_neg (by decide), if_neg (by decide), if_pos (by decide)]
      exact ⟨rfl, m511 _⟩
    · rw [if_neg (by decide), if_neg (by decide), if_neg (by decide), if_neg (by decide), if_neg (by decide), if_neg (by decide), if_pos (by decide), if_neg (by decide), if_neg (by decide), if_neg (by decide), if_neg (by decide), if_neg (by decide), if_neg (by decide)]
      unfold kd_point
      rw [(h.cx (km_i M)).1, (h.cx (km_i M + 1 &&& 255)).1, kb_511 hi, kb_511 (kb_and _)]
      exact ⟨rfl, m511 _⟩
  obtain ⟨k1, k, hk, e⟩ := key
  exact ⟨k, hk, k1.trans e, e⟩
theorem kd_place_7 (a : Int32) (D : lm_S) : kd_place (nI 7) a D = -1 := by
  unfold kd_place
  rw [if_neg (by decide), if_neg (by decide), if_neg (by decide), if_neg (by decide), if_neg (by decide), if_neg (by decide), if_neg (by decide)]
theorem place_pc (md be i w x : Int32) (M : lm_S) (hi : kb i) : km_place md be i w (lm_set M 18 517 x) = km_place md be i w M := by
  unfold km_place
  obtain ⟨k, hk, e⟩ := hi
  obtain ⟨k2, hk2, e2⟩ := kb_and (i + 1)
  rw [e2, e, nI_clamp (by omega), nI_clamp (by omega), ls_n _ _ (by omega), ls_n _ _ (by omega), ls_n _ _ (by omega), ls_n _ _ (by omega)]
theorem rl.disp (h : rl C0 D M) (b : Nat) (hb : b < 32) (j : Nat) (hj : j < 8) (be i wd p : Int32) (hi : kb i) (hp : (j = 7 ∧ p = -1) ∨ (j < 7 ∧ ∃ k : Nat, k < 512 ∧ p = nI k ∧ km_place (nI j) be i wd M = nI k)) (w : Nat) (hw : M 18 519 = nI w) (hw40 : w ≤ 40) (hd : Nat) (hD : D 6 8 = nI hd) (hlt : hd < 308) (h0 : D 1 8 = 0) : rl C0 (kd_disp (nI b) (nI j) i p D) (km_disp w (nI b) (nI j) be i wd M) := by
  unfold kd_disp km_disp
  by_cases h20 : (20 : Int32) < nI b
  · rw [if_pos h20, if_pos h20]
    by_cases h22 : (22 : Int32) < nI b
    · rw [if_pos h22, if_pos h22]
      exact rl.it (h.stack j hj w hw hw40 hd hD hlt (Or.inl h0)) (rl.it (h.move j hj) (rl.it (h.small j hj) (rl.it (h.branch j hj i hi) h)))
    · rw [if_neg h22, if_neg h22]
      rcases hp with ⟨rfl, rfl⟩ | ⟨hj7, k, hk, rfl, ek⟩
      · have e1 : ∀ ar : Int32, kd_jump ar (nI 7) (-1) D = D := fun ar => by
          unfold kd_jump
          rw [if_neg (by decide), if_pos rfl]
        rw [e1, e1, if_neg (show ¬ nI 7 ≤ 0 by decide), if_pos (show (7 : Int32) ≤ nI 7 by decide)]
        split <;> exact h
      · by_cases hj0 : j = 0
        · subst hj0
          have e1 : ∀ ar : Int32, kd_jump ar (nI 0) (nI k) D = D := fun ar => by
            unfold kd_jump
            rw [if_pos (show nI 0 = 0 by decide)]
          rw [e1, e1, if_pos (show nI 0 ≤ 0 by decide)]
          split <;> exact h
        · have q0 : ¬ nI j = 0 := nI_ne0 (by omega) (by omega)
          have q1 : ¬ nI j ≤ 0 := nI_nle (by omega) (by omega)
          have q7 : ¬ (7 : Int32) ≤ nI j := nI_ge (b := 7) (by omega) (by omega)
          rw [if_neg q1, if_neg q7, ek]
          have g := h.jmp h0 k hk (nI b)
          have e1 : kd_jump 1 (nI j) (nI k) D = lm_set (kd_push ((kd_push (D 6 5 / 256) D) 6 5 &&& 255) (kd_push (D 6 5 / 256) D)) 6 5 (nI k) := by
            unfold kd_jump
            rw [if_neg q0, if_neg (nI_nm1 hk), if_neg (by decide)]
          have e2 : kd_jump 0 (nI j) (nI k) D = lm_set D 6 5 (nI k) := by
            unfold kd_jump
            rw [if_neg q0, if_neg (nI_nm1 hk), if_pos rfl]
          rw [e1, e2]
          exact g
  · rw [if_neg h20, if_neg h20]
    have hb20 : b ≤ 20 := by
      have q : ¬ (nI 20) < nI b := h20
      rw [nI_ltI (by omega) (by omega)] at q
      omega
    rcases hp with ⟨rfl, rfl⟩ | ⟨hj7, k, hk, rfl, ek⟩
    · rw [if_pos (show nI 7 = 7 by decide)]
      exact h.work (Or.inl ⟨rfl, rfl⟩) (Or.inl h0) b hb20
    · have q7 : ¬ nI j = 7 := fun q => by
        have := (nI_eq (b := 7) (by omega) (by omega)).mp q
        omega
      rw [if_neg q7, ek]
      exact h.work (Or.inr ⟨k, hk, rfl, rfl⟩) (Or.inl h0) b hb20
/-- the desk against the image, between steps -/
def rs (D M : lm_S) : Prop := (∀ a, a < 512 → D 5 a = M 18 a) ∧ (∀ k, k < 7 → D 6 k = M 18 (512 + k)) ∧ rl_v M ∧ rl_io D M
theorem rs.begin (h : rs D M) : rl (D 5) (kd_forget D) (lm_set (lm_set M 16 8 (-1)) 16 9 (-1)) := by
  obtain ⟨h1, h2, h3, h4⟩ := h
  exact ⟨h1, h2, h3, h4, Or.inl ⟨rfl, rfl, rfl, rfl, rfl, rfl⟩⟩
theorem rl.step1 (h : rl C0 D M) (hd : Nat) (hD : D 6 8 = nI hd) (hlt : hd < 308) (h0 : D 1 8 = 0) : rl C0 (kd_step0 D) (km_st1 M) := by
  obtain ⟨c, hc, ec⟩ := vp_in_of h.2.2.1.2.2 (by decide)
  have eb : kd_b D = km_b M ∧ kb (km_b M) := by
    unfold kd_b km_b
    rw [h.C, ec, nI_clamp (by omega)]
    exact ⟨h.1 c hc, h.2.2.1.1 c hc⟩
  obtain ⟨bb, hbb, ebb⟩ := eb.2
  have e3 : nI bb >>> (3 &&& 31) = nI (bb / 8) := pk_shrN (by omega) _ 3 (by decide)
  have e7 : nI bb &&& 7 = nI (bb % 8) := pk_andN (by omega) 3 (by decide)
  obtain ⟨w, hw40, hw⟩ : ∃ w : Nat, w ≤ 40 ∧ M 18 519 = nI w := by
    obtain ⟨tk, fd, _, _, _, _, i3, i4, i5, _⟩ := h.2.2.2.1
    exact ⟨fd - tk, by omega, i5⟩
  have ew : km_w M = w := by
    unfold km_w
    rw [hw, nI_clamp (by omega)]
  have ci := h.cx (M 18 517 + 1)
  have hi : kb (km_i M) := ci.2
  have f1 : kd_cell (D 6 5 + 1) D = km_i M := by rw [h.C]; exact ci.1
  unfold kd_step0 km_st1
  rw [eb.1, ebb, e3, e7, f1, ew, len_eq (bb % 8) (by omega)]
  have hx : ∀ x, vp_in x 512 → rl C0 (lm_set D 6 5 x) (lm_set M 18 517 x) := fun x q => h.reg 5 (by omega) x (fun q => by omega) (fun _ => q)
  have g := hx ((M 18 517 + km_len (nI (bb / 8)) (nI (bb % 8))) &&& 511) (lm_v511 _)
  rw [h.C] at *
  refine g.disp (bb / 8) (by omega) (bb % 8) (by omega) _ _ _ _ hi ?_ w ?_ hw40 hd ?_ hlt h0
  · by_cases h7 : bb % 8 = 7
    · refine Or.inl ⟨h7, ?_⟩
      rw [h7]
      exact kd_place_7 _ _
    · obtain ⟨k, hk, k1, k2⟩ := h.place (bb % 8) (by omega)
      refine Or.inr ⟨by omega, k, hk, ?_, ?_⟩
      · rw [← h.C]
        exact k1
      · rw [place_pc _ _ _ _ _ _ hi]
        exact k2
  · rw [ls_n _ _ (by omega)]
    exact hw
  · rw [ls_n _ _ (by omega)]
    exact hD
/-- ONE STEP: the desk's and the reference's -/
theorem rs.step (h : rs D M) (hd : Nat) (hD : D 6 8 = nI hd) (hlt : hd < 308) : rl (D 5) (kd_step D) (km_step M) := h.begin.step1 hd hD hlt rfl
end SIM
