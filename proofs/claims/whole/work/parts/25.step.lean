/-! inputs, outputs, a whole step, side by side -/
theorem ls_id (S : lm_S) (i k : Nat) (x : Int32) (h : S i k = x) : lm_set S i k x = S := by
  funext a b
  simp only [lm_set, va_up]
  by_cases ha : a = i
  · subst ha
    simp only [if_true, upd]
    by_cases hb : b = k
    · subst hb; simp [h]
    · simp [hb]
  · simp [ha]
theorem shi_18 : ∀ (m k : Nat) (M : lm_S) (a : Nat), k + m ≤ 40 → (km_shi m k M) 18 a = if 520 + k ≤ a ∧ a < 520 + k + m then M 18 (a + 1) else M 18 a
  | 0, k, M, a, _ => by
    rw [if_neg (by omega)]
    rfl
  | m + 1, k, M, a, hk => by
    have e1 : (520 : Int32) + nI k = nI (520 + k) := by rw [show (520 : Int32) = nI 520 from rfl, nI_add]
    rw [km_shi, shi_18 m (k + 1) _ a (by omega), e1, nI_1, nI_clamp (by omega), nI_clamp (by omega)]
    by_cases h1 : a = 520 + k
    · subst h1
      rw [if_neg (by omega), if_pos (by omega), ls_i]
    · by_cases h2 : 520 + (k + 1) ≤ a ∧ a < 520 + (k + 1) + m
      · rw [if_pos h2, if_pos (by omega), ls_n _ _ (by omega)]
      · rw [if_neg h2, if_neg (by omega), ls_n _ _ h1]
theorem shi_16 : ∀ (m k : Nat) (M : lm_S) (i : Nat), i ≠ 18 → (km_shi m k M) i = M i
  | 0, _, _, _, _ => rfl
  | m + 1, k, M, i, hi => by
    rw [km_shi, shi_16 m (k + 1) _ i hi]
    exact ls_o _ hi _ _
section IOS
variable {C0 : Nat → Int32} {D M : lm_S}
/-- A and C by an input, without its being taken -/
theorem rl.in1 (h : rl C0 D M) (o v : Int32) : rl C0 (kd_flag 1 o (kd_load 0 v D)) (km_i2 v (km_flag 1 o M)) := by
  have e : km_i2 v (km_flag 1 o M) = km_flag 1 o (lm_set (km_mark v M) 18 (512 + 0) (v &&& 255)) := by
    have g := win_c o (Or.inl rfl) v M
    unfold km_win km_change at g
    rw [if_pos rfl, if_pos rfl, kb_id (kb_and v)] at g
    exact g.symm
  rw [e]
  exact (h.load 0 (by omega) v).flag 1 o (by decide)
theorem rl.inp (h : rl C0 D M) (w : Nat) (hw : M 18 519 = nI w) (hw40 : w ≤ 40) : rl C0 (kd_in D) (km_in w M) := by
  have h0 := h
  obtain ⟨h1, h2, h3, ⟨tk, fd, hd, dr, i1, i2, i3, i4, i5, i6, i7, i8, i9, i10, i11, i12⟩, h4⟩ := h
  have ew : w = fd - tk := by
    rw [hw] at i5
    exact (nI_eq (by omega) (by omega)).mp i5
  have e1 : D 1 3 - D 6 7 = nI w := by rw [i2, i1, pk_sub i3, ew]
  unfold kd_in km_in km_i1
  rw [e1, hw]
  by_cases hz : w = 0
  · subst hz
    rw [if_pos (by decide), if_pos (by decide), if_pos (by decide)]
    have e2 : lm_set (kd_flag 1 1 (kd_load 0 0 D)) 6 7 (D 6 7) = kd_flag 1 1 (kd_load 0 0 D) := ls_id _ _ _ _ rfl
    rw [e2]
    exact h0.in1 1 0
  · have q1 : ¬ nI w ≤ 0 := nI_nle (by omega) (by omega)
    have q2 : ¬ nI w = 0 := nI_ne0 (by omega) (by omega)
    rw [if_neg q1, if_neg q2, if_neg q2]
    have ev : D 7 (D 6 7).toNatClampNeg = M 18 520 := by
      rw [i1, nI_clamp (by omega)]
      exact i6 0 (by omega)
    rw [ev]
    have g := h0.in1 0 (M 18 520)
    obtain ⟨g1, g2, ⟨v1, v2, v3⟩, -, g4⟩ := g
    generalize hE : kd_flag 1 0 (kd_load 0 (M 18 520) D) = E at g1 g2 g4 ⊢
    generalize hN : km_i2 (M 18 520) (km_flag 1 0 M) = N at g1 g2 v1 v2 v3 g4 ⊢
    have n5 : ∀ a, 519 ≤ a → N 18 a = M 18 a := by
      intro a ha
      rw [← hN]
      show (lm_set (km_mark (M 18 520) (km_flag 1 0 M)) 18 512 _) 18 a = _
      rw [ls_n _ _ (by omega), mk_nz, ls_n _ _ (by omega)]
      show (lm_set M 18 516 _) 18 a = _
      rw [ls_n _ _ (by omega)]
    have dE : ∀ k, 6 < k → E 6 k = D 6 k := by
      intro k hk
      rw [← hE]
      show (lm_set (kd_load (nI 0) _ D) 6 4 _) 6 k = _
      rw [ls_n _ _ (by omega), ld_nz 0 (by omega), ls_n _ _ (by omega), ls_n _ _ (by omega)]
    have dO : ∀ i, i ≠ 6 → E i = D i := by
      intro i hi
      rw [← hE]
      show (lm_set (kd_load (nI 0) _ D) 6 4 _) i = _
      rw [ls_o _ hi, ld_nz 0 (by omega), ls_o _ hi, ls_o _ hi]
    have m18 : ∀ a, (km_i3 w N) 18 a = if a = 519 then nI (w - 1) else if 520 ≤ a ∧ a < 520 + (w - 1) then M 18 (a + 1) else N 18 a := by
      intro a
      unfold km_i3
      rw [if_neg hz, shi_18 _ _ _ _ (by omega)]
      by_cases ha : a = 519
      · subst ha
        rw [if_neg (by omega), ls_i, if_pos rfl, n5 519 (by omega), hw, show (1 : Int32) = nI 1 from rfl, pk_sub (by omega)]
      · rw [if_neg ha]
        by_cases hb : 520 + 0 ≤ a ∧ a < 520 + 0 + (w - 1)
        · rw [if_pos hb, if_pos (by omega), ls_n _ _ (by omega), n5 _ (by omega)]
        · rw [if_neg hb, if_neg (by omega), ls_n _ _ ha]
    have m16 : (km_i3 w N) 16 = N 16 := by
      unfold km_i3
      rw [if_neg hz, shi_16 _ _ _ _ (by omega), ls_o _ (by omega)]
    have mlo : ∀ a, a < 519 → (km_i3 w N) 18 a = N 18 a := by
      intro a ha
      rw [m18, if_neg (by omega), if_neg (by omega)]
    refine ⟨fun a ha => ?_, fun k hk => ?_, ⟨fun a ha => ?_, fun k hk => ?_, ?_⟩, ⟨tk + 1, fd, hd, dr, ?_, ?_, by omega, i4, ?_, fun k hk => ?_, ?_, ?_, ?_, fun k hk hk2 => ?_, i11, i12⟩, ?_⟩
    · rw [ls_o _ (by omega), mlo a (by omega)]; exact g1 a ha
    · rw [ls_n _ _ (by omega), mlo _ (by omega)]; exact g2 k hk
    · rw [mlo a (by omega)]; exact v1 a ha
    · rw [mlo _ (by omega)]; exact v2 k hk
    · rw [mlo _ (by omega)]; exact v3
    · rw [ls_i, i1, nI_1]
    · rw [ls_o _ (by omega), dO 1 (by omega)]; exact i2
    · rw [m18, if_pos rfl, ew, show fd - tk - 1 = fd - (tk + 1) by omega]
    · rw [ls_o _ (by omega), dO 7 (by omega), m18, if_neg (by omega), if_pos (by omega), show tk + 1 + k = tk + (k + 1) by omega]
      exact i6 (k + 1) (by omega)
    · rw [ls_n _ _ (by omega), dE 8 (by omega)]; exact i7
    · rw [ls_o _ (by omega), dO 1 (by omega)]; exact i8
    · rw [m18, if_neg (by omega), if_neg (by omega), n5 _ (by omega)]; exact i9
    · rw [ls_o _ (by omega), dO 8 (by omega), m18, if_neg (by omega), if_neg (by omega), n5 _ (by omega)]; exact i10 k hk hk2
    · unfold rl_w at g4 ⊢
      rw [m16, ls_o _ (by omega), ls_o _ (by omega), ls_o _ (by omega), ls_o _ (by omega)]
      exact g4
theorem o1_e (k : Int32) (a b : Nat) (ha : (561 + k).toNatClampNeg = a) (hb : (561 + k - 1).toNatClampNeg = b) (S : lm_S) : km_o1 k S = lm_set S 18 a (S 18 b) := by
  unfold km_o1
  rw [ha, hb]
theorem o7_18 (M : lm_S) (a : Nat) : (km_o7 M) 18 a = if 562 ≤ a ∧ a ≤ 568 then M 18 (a - 1) else M 18 a := by
  unfold km_o7
  rw [o1_e 7 568 567 (by decide) (by decide), o1_e (7 + -1) 567 566 (by decide) (by decide), o1_e (7 + -1 + -1) 566 565 (by decide) (by decide), o1_e (7 + -1 + -1 + -1) 565 564 (by decide) (by decide), o1_e (7 + -1 + -1 + -1 + -1) 564 563 (by decide) (by decide), o1_e (7 + -1 + -1 + -1 + -1 + -1) 563 562 (by decide) (by decide), o1_e (7 + -1 + -1 + -1 + -1 + -1 + -1) 562 561 (by decide) (by decide)]
  simp only [lm_set, va_up, upd, if_true]
  by_cases h : 562 ≤ a ∧ a ≤ 568
  · rw [if_pos h]
    rcases (show a = 562 ∨ a = 563 ∨ a = 564 ∨ a = 565 ∨ a = 566 ∨ a = 567 ∨ a = 568 by omega) with rfl | rfl | rfl | rfl | rfl | rfl | rfl <;> simp
  · rw [if_neg h, if_neg (by omega), if_neg (by omega), if_neg (by omega), if_neg (by omega), if_neg (by omega), if_neg (by omega), if_neg (by omega)]
theorem o7_o (M : lm_S) (i : Nat) (hi : i ≠ 18) : (km_o7 M) i = M i := by
  unfold km_o7 km_o1
  rw [ls_o _ hi, ls_o _ hi, ls_o _ hi, ls_o _ hi, ls_o _ hi, ls_o _ hi, ls_o _ hi]
theorem rl.out (h : rl C0 D M) (hd : Nat) (hD : D 6 8 = nI hd) (hlt : hd < 308) : rl C0 (kd_out D) (km_out M) := by
  have hA := h.A
  obtain ⟨h1, h2, ⟨v1, v2, v3⟩, ⟨tk, fd, hd2, dr, i1, i2, i3, i4, i5, i6, i7, i8, i9, i10, i11, i12⟩, h4⟩ := h
  have e0 : hd2 = hd := by
    rw [hD] at i7
    exact ((nI_eq (by omega) (by omega)).mp i7).symm
  subst e0
  have m18 : ∀ a, (km_out M) 18 a = if a = 560 then M 18 560 + 1 else if a = 561 then M 18 512 else if 562 ≤ a ∧ a ≤ 568 then M 18 (a - 1) else M 18 a := by
    intro a
    show (lm_set (lm_set (km_o7 M) 18 561 ((km_o7 M) 18 512)) 18 560 ((lm_set (km_o7 M) 18 561 ((km_o7 M) 18 512)) 18 560 + 1)) 18 a = _
    by_cases ha : a = 560
    · subst ha
      rw [ls_i, if_pos rfl, ls_n _ _ (by omega), o7_18, if_neg (by omega)]
    · rw [ls_n _ _ ha, if_neg ha]
      by_cases hb : a = 561
      · subst hb
        rw [ls_i, if_pos rfl, o7_18, if_neg (by omega)]
      · rw [ls_n _ _ hb, if_neg hb, o7_18]
  have m16 : (km_out M) 16 = M 16 := by
    unfold km_out km_oe
    rw [ls_o _ (by omega), ls_o _ (by omega), o7_o _ _ (by omega)]
  have mlo : ∀ a, a < 560 → (km_out M) 18 a = M 18 a := by
    intro a ha
    rw [m18, if_neg (by omega), if_neg (by omega), if_neg (by omega)]
  have hge : ¬ (308 : Int32) ≤ nI hd2 := nI_ge (b := 308) hlt (by omega)
  have eD : kd_out D = lm_set (lm_set D 8 hd2 (D 6 0)) 6 8 (nI hd2 + 1) := by
    unfold kd_out
    rw [hD, if_neg hge, nI_clamp (by omega)]
  rw [eD]
  refine ⟨fun a ha => ?_, fun k hk => ?_, ⟨fun a ha => ?_, fun k hk => ?_, ?_⟩, ⟨tk, fd, hd2 + 1, dr, ?_, ?_, i3, i4, ?_, fun k hk => ?_, ?_, ?_, ?_, fun k hk hk2 => ?_, fun q => i11 (by omega), by omega⟩, ?_⟩
  · rw [ls_o _ (by omega), ls_o _ (by omega), mlo a (by omega)]; exact h1 a ha
  · rw [ls_n _ _ (by omega), ls_o _ (by omega), mlo _ (by omega)]; exact h2 k hk
  · rw [mlo a (by omega)]; exact v1 a ha
  · rw [mlo _ (by omega)]; exact v2 k hk
  · rw [mlo _ (by omega)]; exact v3
  · rw [ls_n _ _ (by omega), ls_o _ (by omega)]; exact i1
  · rw [ls_o _ (by omega), ls_o _ (by omega)]; exact i2
  · rw [mlo _ (by omega)]; exact i5
  · rw [ls_o _ (by omega), ls_o _ (by omega), mlo _ (by omega)]; exact i6 k hk
  · rw [ls_i, nI_1]
  · rw [ls_o _ (by omega), ls_o _ (by omega)]; exact i8
  · rw [m18, if_pos rfl, i9, nI_1]; rfl
  · rw [ls_o _ (by omega), m18, if_neg (by omega)]
    by_cases h0 : k = 0
    · subst h0
      rw [if_pos (by omega), show hd2 + 1 - 1 - 0 = hd2 by omega, ls_i, hA]
    · rw [if_neg (by omega), if_pos (by omega), ls_n _ _ (by omega), show hd2 + 1 - 1 - k = hd2 - 1 - (k - 1) by omega, show 561 + k - 1 = 561 + (k - 1) by omega]
      exact i10 (k - 1) (by omega) (by omega)
  · unfold rl_w at h4 ⊢
    rw [m16, ls_o _ (by omega), ls_o _ (by omega), ls_o _ (by omega), ls_o _ (by omega), ls_o _ (by omega), ls_o _ (by omega), ls_o _ (by omega), ls_o _ (by omega)]
    exact h4
end IOS
