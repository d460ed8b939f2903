/-! the instructions, side by side -/
/-- the same place: in A, or a cell -/
def pl (p q : Int32) : Prop := (p = -1 ∧ q = 512) ∨ ∃ j : Nat, j < 512 ∧ p = nI j ∧ q = nI j
theorem nI_nm1 {j : Nat} (h : j < 512) : ¬ nI j = -1 := by
  intro q
  have := congrArg Int32.toInt q
  rw [nI_toInt (by omega), show (-1 : Int32).toInt = -1 from by decide] at this
  omega
theorem nI_n512 {j : Nat} (h : j < 512) : ¬ nI j = 512 := fun q => by
  have := (nI_eq (b := 512) (by omega) (by omega)).mp q
  omega
def w01 (D : lm_S) : Prop := D 1 8 = 0 ∨ D 1 8 = 1
section OPS
variable {C0 : Nat → Int32} {D M : lm_S}
theorem rl.change (h : rl C0 D M) {p q : Int32} (hp : pl p q) {v : Int32} (hv : kb v) (hw : w01 D) : rl C0 (kd_wplace p v D) (km_change q v M) := by
  rcases hp with ⟨rfl, rfl⟩ | ⟨j, hj, rfl, rfl⟩
  · unfold kd_wplace km_change
    rw [if_pos rfl, if_pos rfl, kb_id hv]
    exact h.reg 0 (by omega) v (fun _ => hv) (fun q => by omega)
  · unfold kd_wplace km_change
    rw [if_neg (nI_nm1 hj), if_neg (nI_n512 hj)]
    exact h.wcell j hj v hv hw
theorem rl.cell (h : rl C0 D M) (j : Nat) (hj : j < 512) : kd_cell (nI j) D = M 18 j ∧ kb (M 18 j) := by
  unfold kd_cell
  rw [and511 hj, nI_clamp (by omega)]
  exact ⟨h.1 j hj, h.2.2.1.1 j hj⟩
/-- what stands at the place -/
theorem rl.tv (h : rl C0 D M) {p q : Int32} (hp : pl p q) : (if p = -1 then D 6 0 else kd_cell p D) = M 18 q.toNatClampNeg ∧ kb (M 18 q.toNatClampNeg) := by
  rcases hp with ⟨rfl, rfl⟩ | ⟨j, hj, rfl, rfl⟩
  · rw [if_pos rfl]
    exact ⟨h.A, h.2.2.1.2.1 0 (by omega)⟩
  · rw [if_neg (nI_nm1 hj), nI_clamp (by omega)]
    exact h.cell j hj
theorem rl.push (h : rl C0 D M) {v : Int32} (hv : kb v) (hw : w01 D) : rl C0 (kd_push v D) (km_push v M) := by
  obtain ⟨s, hs, es⟩ := h.2.2.1.2.1 3 (by omega)
  have es : M 18 515 = nI s := es
  have e1 : (256 : Int32) + nI s = nI (256 + s) := by rw [show (256 : Int32) = nI 256 from rfl, nI_add]
  have h2 := h.wcell (256 + s) (by omega) v hv hw
  unfold kd_push km_push
  rw [h.S, es, e1, h2.S]
  exact h2.reg 3 (by omega) _ (fun _ => kb_and _) (fun q => by omega)
theorem push_w (v : Int32) (D : lm_S) (hw : D 1 8 = 0) : w01 (kd_push v D) := by
  refine Or.inr ?_
  show (kd_wcell (256 + D 6 3) v D) 1 8 = 1
  unfold kd_wcell
  rw [if_neg (by rw [hw]; decide)]
  show D 1 8 + 1 = 1
  rw [hw]
  rfl
theorem rl.pull (h : rl C0 D M) : rl C0 (kd_take D) (km_pull M) := by
  unfold kd_take km_pull
  rw [h.S]
  exact h.reg 3 (by omega) _ (fun _ => kb_and _) (fun q => by omega)
theorem rl.pv (h : rl C0 D M) : kd_pv D = km_pv M ∧ kb (km_pv M) := by
  unfold kd_pv km_pv km_pull
  rw [h.S]
  obtain ⟨j, hj, e⟩ := kb_and (M 18 515 + 1)
  rw [e, show (256 : Int32) + nI j = nI (256 + j) from by rw [show (256 : Int32) = nI 256 from rfl, nI_add], nI_clamp (by omega), ls_n _ _ (by omega)]
  exact h.cell (256 + j) (by omega)
theorem v_flag (a t s : Int32) : (if (a ^^^ t) &&& 128 = 0 then (if (a ^^^ (s &&& 255)) &&& 128 = 0 then (0 : Int32) else 1) else 0) = (if a &&& 128 = t &&& 128 then (if s &&& 128 = t &&& 128 then (0 : Int32) else 1) else 0) := by
  rw [b_7 (a ^^^ t), b_7 (a ^^^ (s &&& 255)), b_7 a, b_7 t, b_7 s, b_xor, b_xor, b_and, show bt 255 7 = true from by decide, Bool.and_true]
  cases bt a 7 <;> cases bt t 7 <;> cases bt s 7 <;> decide
theorem rl.add (h : rl C0 D M) (t : Int32) : rl C0 (kd_add t D) (km_add t M) := by
  have ea : kd_add2 (M 18 512) t (M 18 516 &&& 1) D = lm_set (lm_set D 6 0 ((M 18 512 + t + (M 18 516 &&& 1)) &&& 255)) 6 4 (fl 1 (if M 18 512 + t + (M 18 516 &&& 1) ≤ 255 then 0 else 1) (nz (M 18 512 + t + (M 18 516 &&& 1)) (M 18 516))) := by
    show kd_flag 1 _ (kd_load (nI 0) _ D) = _
    rw [ld_nz 0 (by omega), h.P]
    show lm_set (lm_set (lm_set D 6 0 _) 6 4 _) 6 4 (fl 1 _ ((lm_set (lm_set D 6 0 _) 6 4 _) 6 4)) = _
    rw [ls_ss, ls_i]
  unfold kd_add km_add
  rw [h.A, h.P, ea]
  generalize M 18 512 + t + (M 18 516 &&& 1) = s
  have e1 : (lm_set (lm_set D 6 0 (s &&& 255)) 6 4 (fl 1 (if s ≤ 255 then 0 else 1) (nz s (M 18 516)))) 6 0 = s &&& 255 := by rw [ls_n _ _ (by omega), ls_i]
  rw [e1, v_flag]
  have e2 : km_add3 s t M = lm_set (lm_set M 18 516 (nz s (fl 64 (if M 18 512 &&& 128 = t &&& 128 then (if s &&& 128 = t &&& 128 then 0 else 1) else 0) (fl 1 (if s ≤ 255 then 0 else 1) (M 18 516))))) 18 512 (s &&& 255) := by
    have a1 : km_add1 s M = lm_set M 18 516 (fl 1 (if s ≤ 255 then 0 else 1) (M 18 516)) := rfl
    have a2 : km_add2 s t M = lm_set M 18 516 (fl 64 (if M 18 512 &&& 128 = t &&& 128 then (if s &&& 128 = t &&& 128 then 0 else 1) else 0) (fl 1 (if s ≤ 255 then 0 else 1) (M 18 516))) := by
      show lm_set (km_add1 s M) 18 516 (fl 64 (if (km_add1 s M) 18 512 &&& 128 = t &&& 128 then (if s &&& 128 = t &&& 128 then 0 else 1) else 0) ((km_add1 s M) 18 516)) = _
      rw [a1, ls_ss, ls_i, ls_n _ _ (by omega)]
    unfold km_add3
    rw [a2, mk_nz, ls_ss, ls_i]
  rw [e2, ← nz_comm (f := 64) (by decide) (by decide), ← nz_comm (f := 1) (by decide) (by decide), ls_cc M 18 (k := 516) (l := 512) (by omega)]
  have e3 : ∀ (E : lm_S) (o x : Int32), kd_flag 64 o (lm_set E 6 4 x) = lm_set E 6 4 (fl 64 o x) := by
    intro E o x
    show lm_set (lm_set E 6 4 x) 6 4 (fl 64 o ((lm_set E 6 4 x) 6 4)) = _
    rw [ls_ss, ls_i]
  rw [e3]
  have h2 := h.reg 0 (by omega) (s &&& 255) (fun _ => kb_and s) (fun q => by omega)
  exact h2.reg 4 (by omega) _ (fun _ => kb_fl (by decide) _ (kb_fl (by decide) _ (kb_nz s (h.2.2.1.2.1 4 (by omega))))) (fun q => by omega)
theorem rl.cmp (h : rl C0 D M) (v t : Int32) : rl C0 (kd_cmp v t D) (km_cmp v t M) := (h.note (v - t)).flag 1 _ (by decide)
theorem rl.test (h : rl C0 D M) (t : Int32) : rl C0 (kd_test t D) (km_wte t M) := by
  have h2 : rl C0 (kd_test2 t D) (km_wt2 t M) := (h.flag 128 _ (by decide)).flag 64 _ (by decide)
  unfold kd_test km_wte
  rw [h2.A]
  exact h2.flag 2 _ (by decide)
theorem rl.bits (h : rl C0 D M) (v : Int32) : rl C0 (kd_load 0 v D) (km_wbt v M) := h.load 0 (by omega) v
/-- the carry may be set first -/
theorem win_c (o : Int32) {q : Int32} (hq : q = 512 ∨ ∃ j : Nat, j < 512 ∧ q = nI j) (v : Int32) (M : lm_S) : km_flag 1 o (km_win q v M) = km_win q v (km_flag 1 o M) := by
  unfold km_win
  rw [mk_nz, mk_nz]
  have e0 : lm_set (km_flag 1 o M) 18 516 (nz v ((km_flag 1 o M) 18 516)) = lm_set M 18 516 (nz v (fl 1 o (M 18 516))) := by
    show lm_set (lm_set M 18 516 (fl 1 o (M 18 516))) 18 516 (nz v ((lm_set M 18 516 (fl 1 o (M 18 516))) 18 516)) = _
    rw [ls_ss, ls_i]
  rw [e0, ← nz_comm (f := 1) (by decide) (by decide)]
  rcases hq with rfl | ⟨j, hj, rfl⟩
  · unfold km_change
    rw [if_pos rfl, if_pos rfl]
    show lm_set (lm_set (lm_set M 18 516 _) 18 512 _) 18 516 (fl 1 o ((lm_set (lm_set M 18 516 _) 18 512 _) 18 516)) = _
    rw [ls_n _ _ (by omega), ls_i, ls_cc _ _ (k := 516) (l := 512) (by omega), ls_ss, ls_cc M 18 (k := 512) (l := 516) (by omega)]
  · unfold km_change
    rw [if_neg (nI_n512 hj), if_neg (nI_n512 hj)]
    unfold km_write
    rw [nI_clamp (by omega)]
    funext a b
    show (lm_set _ 18 516 (fl 1 o ((lm_set (lm_set M 18 516 _) 18 j _) 18 516))) a b = _
    rw [ls_n _ _ (by omega), ls_i]
    by_cases h18 : a = 18
    · subst h18
      show upd (upd (upd (M 18) 516 _) j _) 516 _ b = upd (upd (M 18) 516 _) j _ b
      simp only [upd]
      by_cases hb : b = 516
      · subst hb
        rw [if_pos rfl, if_neg (by omega), if_pos rfl]
      · rw [if_neg hb, if_neg hb]
        split
        · rfl
        · rfl
    · rw [ls_o _ h18]
      by_cases h16 : a = 16
      · subst h16; rfl
      · rw [ls_o _ h16, ls_o _ h16, ls_o _ h16, ls_o _ h16, ls_o _ h18, ls_o _ h18, ls_o _ h18, ls_o _ h18]
theorem pl_q {p q : Int32} (h : pl p q) : q = 512 ∨ ∃ j : Nat, j < 512 ∧ q = nI j := by
  rcases h with ⟨_, h⟩ | ⟨j, hj, _, h⟩
  · exact Or.inl h
  · exact Or.inr ⟨j, hj, h⟩
theorem rl.win (h : rl C0 D M) {p q : Int32} (hp : pl p q) (v : Int32) (hw : w01 D) : rl C0 (kd_wplace p (v &&& 255) (kd_note (v &&& 255) D)) (km_win q v M) := (h.note v).change hp (kb_and v) hw
theorem rl.carry (h : rl C0 D M) {p q : Int32} (hp : pl p q) (o v : Int32) (hw : w01 D) : rl C0 (kd_wplace p (v &&& 255) (kd_note (v &&& 255) (kd_flag 1 o D))) (km_flag 1 o (km_win q v M)) := by
  rw [win_c o (pl_q hp)]
  exact (h.flag 1 o (by decide)).win hp v hw
theorem t_shl : ∀ j, j < 256 → nI j <<< (1 &&& 31) = nI j * 2 := by decide +kernel
theorem t_shr : ∀ j, j < 256 → nI j >>> (1 &&& 31) = nI j / 2 := by decide +kernel
theorem t_hi : ∀ j, j < 256 → (if nI j &&& 128 = 0 then (0 : Int32) else 1) = (if nI j ≤ 127 then 0 else 1) := by decide +kernel
theorem t_lo : ∀ j, j < 256 → (if nI j &&& 1 = 0 then (0 : Int32) else 1) = (if nI j - nI j / 2 * 2 = 1 then 1 else 0) := by decide +kernel
end OPS
