/-! the history grows by one moment -/
theorem rl_w.split {C0 : Nat → Int32} {T M : lm_S} (h : rl_w C0 T M) : ∃ X1 X2 : Nat → Int32, T 5 = X2 ∧ wc (T 9 0) (T 9 1) (M 16 8) (M 16 9) ∧ ((T 9 0 = -1 ∧ X1 = C0) ∨ ∃ (p : Nat) (v : Int32), p < 512 ∧ T 9 0 = nI p ∧ X1 = upd C0 p v ∧ T 10 0 = C0 p) ∧ ((T 9 1 = -1 ∧ X2 = X1) ∨ ∃ (q : Nat) (u : Int32), q < 512 ∧ T 9 1 = nI q ∧ X2 = upd X1 q u ∧ T 10 1 = X1 q) := by
  rcases h with ⟨_, w2, w3, w4, w5, w6⟩ | ⟨p, v, w0, _, w2, w3, w4, w5, w6, w7⟩ | ⟨p, q, v, u, w0, w1, _, w3, w4, w5, w6, w7, w8, w9⟩
  · exact ⟨C0, C0, w6, Or.inl ⟨w2, w3, w4, w5⟩, Or.inl ⟨w2, rfl⟩, Or.inl ⟨w3, rfl⟩⟩
  · exact ⟨upd C0 p v, upd C0 p v, w7, Or.inr (Or.inl ⟨p, w0, w2, w3, w4, w5⟩), Or.inr ⟨p, v, w0, w2, rfl, w6⟩, Or.inl ⟨w3, rfl⟩⟩
  · exact ⟨upd C0 p v, upd (upd C0 p v) q u, w9, Or.inr (Or.inr ⟨p, q, w0, w1, w3, w4, w5, w6⟩), Or.inr ⟨p, v, w0, w3, rfl, w7⟩, Or.inr ⟨q, u, w1, w4, rfl, w8⟩⟩
section APP
variable {T : lm_S} {N : Nat}
theorem ap_e (hN : N < 300) (hT : T 2 4 = nI N) : kd_app4 (T 2 4) T = lm_set (lm_set (lm_set (lm_set T 12 (2 * N) (T 9 0)) 13 (2 * N) (T 10 0)) 12 (2 * N + 1) (T 9 1)) 13 (2 * N + 1) (T 10 1) := by
  have e0 : (nI N * 2 + 0).toNatClampNeg = 2 * N := by
    rw [nI_m2, show (0 : Int32) = nI 0 from rfl, nI_add, nI_clamp (by omega)]; rfl
  have e1 : (nI N * 2 + (0 + 1)).toNatClampNeg = 2 * N + 1 := by
    rw [nI_m2, show ((0 : Int32) + 1) = nI 1 from rfl, nI_add, nI_clamp (by omega)]
  unfold kd_app4
  rw [hT, e0, e1]
theorem ap_12 (hN : N < 300) (hT : T 2 4 = nI N) (j : Nat) : (kd_app T) 12 j = if j = 2 * N then T 9 0 else if j = 2 * N + 1 then T 9 1 else T 12 j := by
  unfold kd_app kd_keep
  rw [va_up_ne _ _ (by omega), ls_o _ (by omega), ls_o _ (by omega), ap_e hN hT, ls_o _ (by omega)]
  by_cases h1 : j = 2 * N + 1
  · subst h1
    rw [ls_i, if_neg (by omega), if_pos rfl]
  · rw [ls_n _ _ h1, ls_o _ (by omega)]
    by_cases h0 : j = 2 * N
    · subst h0
      rw [ls_i, if_pos rfl]
    · rw [ls_n _ _ h0, if_neg h0, if_neg h1]
theorem ap_13 (hN : N < 300) (hT : T 2 4 = nI N) (j : Nat) : (kd_app T) 13 j = if j = 2 * N then T 10 0 else if j = 2 * N + 1 then T 10 1 else T 13 j := by
  unfold kd_app kd_keep
  rw [va_up_ne _ _ (by omega), ls_o _ (by omega), ls_o _ (by omega), ap_e hN hT]
  by_cases h1 : j = 2 * N + 1
  · subst h1
    rw [ls_i, if_neg (by omega), if_pos rfl]
  · rw [ls_n _ _ h1, ls_o _ (by omega)]
    by_cases h0 : j = 2 * N
    · subst h0
      rw [ls_i, if_pos rfl]
    · rw [ls_n _ _ h0, ls_o _ (by omega), if_neg h0, if_neg h1]
theorem ap_2 (hT : T 2 4 = nI N) : (kd_app T) 2 3 = nI (N + 1) ∧ (kd_app T) 2 4 = nI (N + 1) := by
  unfold kd_app kd_keep
  rw [va_up_ne _ _ (by omega)]
  exact ⟨by rw [ls_i, hT, nI_1], by rw [ls_n _ _ (by omega), ls_i, hT, nI_1]⟩
theorem ap_o (hN : N < 300) (hT : T 2 4 = nI N) (i : Nat) (h2 : i ≠ 2) (h11 : i ≠ 11) (h12 : i ≠ 12) (h13 : i ≠ 13) : (kd_app T) i = T i := by
  unfold kd_app kd_keep
  rw [va_up_ne _ _ h11, ls_o _ h2, ls_o _ h2, ap_e hN hT, ls_o _ h13, ls_o _ h12, ls_o _ h13, ls_o _ h12]
theorem ap_11 (hN : N < 300) (hT : T 2 4 = nI N) (i : Nat) : (kd_app T) 11 i = if (N + 1) * 9 ≤ i ∧ i < (N + 1) * 9 + 9 then T 6 (i - (N + 1) * 9) else T 11 i := by
  unfold kd_app kd_keep
  rw [va_up_self, ls_i, hT, nI_1, show nI (N + 1) * 9 = nI ((N + 1) * 9) from pk_mul _ 9, nI_clamp (by omega), show (0 : Int32).toNatClampNeg = 0 from by decide, show (9 : Int32).toNatClampNeg = 9 from by decide]
  unfold va_cpy
  rw [ls_o _ (by omega), ls_o _ (by omega), ls_o _ (by omega), ls_o _ (by omega)]
  have e : kd_app4 (nI N) T = kd_app4 (T 2 4) T := by rw [hT]
  rw [e, ap_e hN hT, ls_o _ (by omega), ls_o _ (by omega), ls_o _ (by omega), ls_o _ (by omega), ls_o _ (by omega), ls_o _ (by omega), ls_o _ (by omega), ls_o _ (by omega)]
  split
  · rw [Nat.zero_add]
  · rfl
end APP
/-- the present of a history -/
theorem HD.now {b : Nat → Int32} {C : Nat → Nat → Int32} {a N : Nat} {S : lm_S} (h : HD b C a N S) : rs S (ns_S (ns_it a b)) := by
  obtain ⟨h1, h2, h3, h4, h5, h6, h7, h8, h9⟩ := h
  exact (h7 a h1).1.cong (fun k _ => by rw [h6.1]; rfl) (fun k hk => h5 k hk) rfl rfl rfl rfl
theorem rs.ok {D M : lm_S} (h : rs D M) : kd_ok D := by
  obtain ⟨r1, r2, r3, tk, fd, hd, dr, i1, i2, i3, i4, i5, i6, i7, i8, i9, i10, i11, i12⟩ := h
  have e5 : D 6 5 = M 18 517 := r2 5 (by omega)
  refine ⟨by rw [e5]; exact r3.2.2, ?_, fun hx => ?_, by rw [i7]; exact nI_pos (by omega)⟩
  · unfold kd_b
    rw [e5]
    obtain ⟨c, hc, ec⟩ := vp_in_of r3.2.2 (by decide)
    rw [ec, nI_clamp (by omega), r1 c hc]
    exact kb_n (r3.1 c hc)
  · rw [i1]
    rw [i2, i1, pk_sub i3] at hx
    have : 0 < fd - tk := by
      apply Nat.pos_of_ne_zero
      intro q
      rw [q] at hx
      exact hx (by decide)
    exact vp_in_nI (by omega) (by decide)
/-- rs where the outputs beyond the held ones may differ -/
theorem rs.cong3 {D D1 M : lm_S} (h : rs D M) (h5 : D1 5 = D 5) (h6 : ∀ k, k < 9 → D1 6 k = D 6 k) (h13 : D1 1 3 = D 1 3) (h15 : D1 1 5 = D 1 5) (h7 : D1 7 = D 7) (h8 : ∀ hd : Nat, D 6 8 = nI hd → hd ≤ 308 → ∀ i, i < hd → D1 8 i = D 8 i) : rs D1 M := by
  obtain ⟨r1, r2, r3, tk, fd, hd, dr, i1, i2, i3, i4, i5, i6, i7, i8, i9, i10, i11, i12⟩ := h
  refine ⟨by rw [h5]; exact r1, fun k hk => by rw [h6 k (by omega)]; exact r2 k hk, r3, tk, fd, hd, dr, by rw [h6 7 (by omega)]; exact i1, by rw [h13]; exact i2, i3, i4, i5, by rw [h7]; exact i6, by rw [h6 8 (by omega)]; exact i7, by rw [h15]; exact i8, i9, fun k hk hk2 => ?_, i11, i12⟩
  rw [h8 hd i7 i12 _ (by omega)]
  exact i10 k hk hk2
theorem dT_o (C : Nat → Nat → Int32) (t : Nat) (S : lm_S) (i : Nat) (h5 : i ≠ 5) (h6 : i ≠ 6) : (dT C t S) i = S i := by
  unfold dT
  rw [va_up_ne _ _ h5, va_up_ne _ _ h6]
theorem dT_5 (C : Nat → Nat → Int32) (t : Nat) (S : lm_S) : (dT C t S) 5 = C (2 * t) := va_up_self _ _ _
theorem dT_6 (C : Nat → Nat → Int32) (t : Nat) (S : lm_S) (k : Nat) : (dT C t S) 6 k = S 11 (t * 9 + k) := by
  unfold dT
  rw [va_up_ne _ _ (by omega), va_up_self]
def cx (C : Nat → Nat → Int32) (n : Nat) (X1 X2 : Nat → Int32) : Nat → Nat → Int32 := fun j => if j ≤ n then C j else if j = n + 1 then X1 else X2
/-- A STEP: the history has one moment more, which is the present -/
theorem HD.append {b : Nat → Int32} {C : Nat → Nat → Int32} {N : Nat} {S : lm_S} (h : HD b C N N S) (hN : N < 300) : ∃ C1, HD b C1 (N + 1) (N + 1) (kd_app (kd_step S)) := by
  have hnow := h.now
  have hok := hnow.ok
  obtain ⟨-, h2, h3, h4, h5, h6, h7, h8, h9⟩ := h
  obtain ⟨hd, hd8, hde⟩ := (h7 N (Nat.le_refl _)).2
  have e68 : S 6 8 = nI hd := by rw [h5 8 (by omega)]; exact hde
  have hstep := hnow.step hd e68 (by omega)
  have hkp := kp_step hd (by omega) S e68 hok.2.1
  have hfr := fr_step S
  have kq : (km_step (ns_S (ns_it N b))) 18 = ns_st (ns_it N b) ∧ (km_step (ns_S (ns_it N b))) 16 8 = ns_w (ns_it N b) ∧ (km_step (ns_S (ns_it N b))) 16 9 = ns_b (ns_it N b) := ns_eq (ns_S (ns_it N b))
  generalize km_step (ns_S (ns_it N b)) = K at hstep kq
  generalize kd_step S = T at hstep hkp hfr ⊢
  have t24 : T 2 4 = nI N := by rw [hfr 2 (by omega) (by omega) (by omega) (by omega) (by omega) (by omega)]; exact h4
  have t11 : T 11 = S 11 := hfr 11 (by omega) (by omega) (by omega) (by omega) (by omega) (by omega)
  have t12 : T 12 = S 12 := hfr 12 (by omega) (by omega) (by omega) (by omega) (by omega) (by omega)
  have t13 : T 13 = S 13 := hfr 13 (by omega) (by omega) (by omega) (by omega) (by omega) (by omega)
  have t7 : T 7 = S 7 := hfr 7 (by omega) (by omega) (by omega) (by omega) (by omega) (by omega)
  obtain ⟨g1, g2, g3, g4, g5⟩ := hstep
  have gI : K 18 = ns_it (N + 1) b := by rw [ns_it_s]; exact kq.1
  have hrs : rs T (ns_S (ns_it (N + 1) b)) := rs.cong (D := T) (M := K) ⟨g1, g2, g3, g4⟩ (fun _ _ => rfl) (fun _ _ => rfl) rfl rfl rfl (by rw [gI]; rfl)
  obtain ⟨X1, X2, x5, xw, x0, x1⟩ := g5.split
  rw [kq.2.1, kq.2.2] at xw
  have o := ap_o hN t24
  have f13 : T 1 3 = S 1 3 := by
    rcases hkp with q | ⟨x, q1, q2, q3⟩
    · exact q.2.2 3 (by omega)
    · exact q3 3 (by omega)
  have f15 : T 1 5 = S 1 5 := by
    rcases hkp with q | ⟨x, q1, q2, q3⟩
    · exact q.2.2 5 (by omega)
    · exact q3 5 (by omega)
  have f8 : ∀ i, i < hd → T 8 i = S 8 i := by
    intro i hi
    rcases hkp with q | ⟨x, q1, q2, q3⟩
    · rw [q.1]
    · rw [q1, pk_un (by omega)]
  obtain ⟨hd2, hdl, hdu, hdt⟩ : ∃ hd2 : Nat, hd ≤ hd2 ∧ hd2 ≤ 8 + (N + 1) ∧ T 6 8 = nI hd2 := by
    rcases hkp with q | ⟨x, q1, q2, q3⟩
    · exact ⟨hd, by omega, by omega, by rw [q.2.1]; exact e68⟩
    · exact ⟨hd + 1, by omega, by omega, q2⟩
  have m_old : ∀ t k, t ≤ N → k < 9 → (kd_app T) 11 (t * 9 + k) = S 11 (t * 9 + k) := by
    intro t k ht hk
    rw [ap_11 hN t24, if_neg (by omega), t11]
  have m_new : ∀ k, k < 9 → (kd_app T) 11 ((N + 1) * 9 + k) = T 6 k := by
    intro k hk
    rw [ap_11 hN t24, if_pos (by omega), show (N + 1) * 9 + k - (N + 1) * 9 = k by omega]
  have a12 := ap_12 hN t24
  have a13 := ap_13 hN t24
  have a2 := ap_2 t24
  generalize kd_app T = S1 at a12 a13 a2 o m_old m_new ⊢
  refine ⟨cx C (2 * N) X1 X2, Nat.le_refl _, by omega, a2.1, a2.2, fun k hk => ?_, ⟨?_, fun j hj => ?_⟩, fun t ht => ?_, fun t ht => ?_, fun t ht => ?_⟩
  · rw [o 6 (by omega) (by omega) (by omega) (by omega), m_new k hk]
  · rw [o 5 (by omega) (by omega) (by omega) (by omega), x5]
    show X2 = cx C (2 * N) X1 X2 (2 * (N + 1))
    unfold cx
    rw [if_neg (by omega), if_neg (by omega)]
  · unfold hO
    rw [a12, a13]
    by_cases j0 : j = 2 * N
    · subst j0
      rw [if_pos rfl, if_pos rfl]
      have c0 : cx C (2 * N) X1 X2 (2 * N) = S 5 := by unfold cx; rw [if_pos (by omega)]; exact h6.1.symm
      have c1 : cx C (2 * N) X1 X2 (2 * N + 1) = X1 := by unfold cx; rw [if_neg (by omega), if_pos rfl]
      rw [c0, c1]
      rcases x0 with ⟨e1, e2⟩ | ⟨p, v, hp, e1, e2, e3⟩
      · exact Or.inl ⟨e1, e2⟩
      · exact Or.inr ⟨p, v, hp, e1, e2, by rw [if_pos (by omega)]; exact e3⟩
    · rw [if_neg j0, if_neg j0]
      by_cases j1 : j = 2 * N + 1
      · subst j1
        rw [if_pos rfl, if_pos rfl]
        have c1 : cx C (2 * N) X1 X2 (2 * N + 1) = X1 := by unfold cx; rw [if_neg (by omega), if_pos rfl]
        have c2 : cx C (2 * N) X1 X2 (2 * N + 1 + 1) = X2 := by unfold cx; rw [if_neg (by omega), if_neg (by omega)]
        rw [c1, c2]
        rcases x1 with ⟨e1, e2⟩ | ⟨p, v, hp, e1, e2, e3⟩
        · exact Or.inl ⟨e1, e2⟩
        · exact Or.inr ⟨p, v, hp, e1, e2, by rw [if_pos (by omega)]; exact e3⟩
      · rw [if_neg j1, if_neg j1, t12, t13]
        have c0 : cx C (2 * N) X1 X2 j = C j := by unfold cx; rw [if_pos (by omega)]
        have c1 : cx C (2 * N) X1 X2 (j + 1) = C (j + 1) := by unfold cx; rw [if_pos (by omega)]
        rw [c0, c1]
        rcases h6.2 j (by omega) with q | ⟨p, v, hp, e1, e2, e3⟩
        · exact Or.inl q
        · exact Or.inr ⟨p, v, hp, e1, e2, by rw [e3, if_pos (by omega), if_pos (by omega)]⟩
  · by_cases htn : t = N + 1
    · subst htn
      refine ⟨hrs.cong (fun a _ => ?_) (fun k hk => (dT_6 _ _ _ k).trans (m_new k hk)) ((dT_o _ _ _ 1 (by omega) (by omega)).trans (o 1 (by omega) (by omega) (by omega) (by omega))) ((dT_o _ _ _ 7 (by omega) (by omega)).trans (o 7 (by omega) (by omega) (by omega) (by omega))) ((dT_o _ _ _ 8 (by omega) (by omega)).trans (o 8 (by omega) (by omega) (by omega) (by omega))) rfl, hd2, hdu, by rw [m_new 8 (by omega)]; exact hdt⟩
      rw [dT_5, x5]
      unfold cx
      rw [if_neg (by omega), if_neg (by omega)]
    · obtain ⟨q, hq, q1, q2⟩ := h7 t (by omega)
      obtain ⟨xx, yy, y1, y2, y3, y4⟩ := h9 t (by omega)
      refine ⟨?_, hq, q1, by rw [m_old t 8 (by omega) (by omega)]; exact q2⟩
      have cc : cx C (2 * N) X1 X2 (2 * t) = C (2 * t) := by unfold cx; rw [if_pos (by omega)]
      have e1 : S1 1 3 = S 1 3 := by rw [o 1 (by omega) (by omega) (by omega) (by omega)]; exact f13
      have e2 : S1 1 5 = S 1 5 := by rw [o 1 (by omega) (by omega) (by omega) (by omega)]; exact f15
      have e3 : S1 7 = S 7 := by rw [o 7 (by omega) (by omega) (by omega) (by omega)]; exact t7
      refine q.cong3 (by rw [dT_5, dT_5, cc]) (fun k hk => by rw [dT_6, dT_6]; exact m_old t k (by omega) hk) (by rw [dT_o _ _ _ 1 (by omega) (by omega), dT_o _ _ _ 1 (by omega) (by omega)]; exact e1) (by rw [dT_o _ _ _ 1 (by omega) (by omega), dT_o _ _ _ 1 (by omega) (by omega)]; exact e2) (by rw [dT_o _ _ _ 7 (by omega) (by omega), dT_o _ _ _ 7 (by omega) (by omega)]; exact e3) (fun hx hx1 hx2 i hi => ?_)
      rw [dT_o _ _ _ 8 (by omega) (by omega), dT_o _ _ _ 8 (by omega) (by omega), o 8 (by omega) (by omega) (by omega) (by omega)]
      refine f8 i ?_
      rw [dT_6, y1] at hx1
      have z1 : xx = hx := (nI_eq (by omega) (by omega)).mp hx1
      have z2 : yy = hd := by
        rw [hde] at y2
        exact ((nI_eq (by omega) (by omega)).mp y2).symm
      omega
  · unfold hP
    rw [a12, a12]
    by_cases htn : t = N
    · subst htn
      rw [if_pos rfl, if_neg (by omega), if_pos rfl]
      exact xw
    · rw [if_neg (by omega), if_neg (by omega), if_neg (by omega), if_neg (by omega), t12]
      exact h8 t (by omega)
  · rw [m_new 8 (by omega)]
    by_cases htn : t = N + 1
    · subst htn
      exact ⟨hd2, hd2, by rw [m_new 8 (by omega)]; exact hdt, hdt, Nat.le_refl _, hdu⟩
    · obtain ⟨xx, yy, y1, y2, y3, y4⟩ := h9 t (by omega)
      refine ⟨xx, hd2, by rw [m_old t 8 (by omega) (by omega)]; exact y1, hdt, ?_, hdu⟩
      have z2 : yy = hd := by
        rw [hde] at y2
        exact ((nI_eq (by omega) (by omega)).mp y2).symm
      omega
