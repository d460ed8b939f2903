/-! the desk's history: moments, places, other bytes, against the images ns_it t b -/
/-- the j-th write of the history, seen from the m-th -/
def hO (C : Nat → Nat → Int32) (m j : Nat) (S : lm_S) : Prop := (S 12 j = -1 ∧ C (j + 1) = C j) ∨ ∃ (p : Nat) (v : Int32), p < 512 ∧ S 12 j = nI p ∧ C (j + 1) = upd (C j) p v ∧ S 13 j = (if j < m then C j p else v)
def hM (C : Nat → Nat → Int32) (m n : Nat) (S : lm_S) : Prop := S 5 = C m ∧ ∀ j, j < n → hO C m j S
theorem upd_back (f : Nat → Int32) (p : Nat) (v : Int32) : upd (upd f p v) p (f p) = f := by
  funext k
  simp only [upd]
  by_cases h : k = p
  · subst h; simp
  · simp [h]
theorem isA_p {p : Nat} (hp : p < 512) : ¬ kd_isA (nI p) = 0 := by
  unfold kd_isA
  rw [if_neg (nI_pos (by omega)), if_neg (show ¬ (512 : Int32) ≤ nI p from nI_ge (b := 512) hp (by omega))]
  decide
theorem isA_m : kd_isA (-1) = 0 := by decide
theorem swap_o (k : Int32) (S : lm_S) (i : Nat) (h5 : i ≠ 5) (h13 : i ≠ 13) : (kd_swap k S) i = S i := by
  unfold kd_swap kd_swp
  split
  · rfl
  · rw [ls_o _ h5, ls_o _ h13]
theorem hM.fwd {C : Nat → Nat → Int32} {m n : Nat} {S : lm_S} (h : hM C m n S) (hm : m < n) (hn : n ≤ 600) : hM C (m + 1) n (kd_swap (nI m) S) := by
  obtain ⟨h5, hj⟩ := h
  unfold kd_swap
  rw [nI_clamp (by omega)]
  rcases hj m hm with ⟨e, c⟩ | ⟨p, v, hp, e, c, o⟩
  · unfold kd_swp
    rw [e, if_pos isA_m]
    refine ⟨by rw [c]; exact h5, fun j hjn => ?_⟩
    rcases hj j hjn with q | ⟨p, v, hp, e2, c2, o2⟩
    · exact Or.inl q
    · refine Or.inr ⟨p, v, hp, e2, c2, ?_⟩
      have hne : j ≠ m := fun q => by
        subst q
        rw [e] at e2
        exact nI_nm1 hp e2.symm
      rw [o2]
      by_cases hl : j < m
      · rw [if_pos hl, if_pos (by omega)]
      · rw [if_neg hl, if_neg (by omega)]
  · unfold kd_swp
    rw [e, if_neg (isA_p hp), nI_clamp (by omega), nI_clamp (by omega), o, if_neg (by omega)]
    refine ⟨?_, fun j hjn => ?_⟩
    · show upd (S 5) p v = C (m + 1)
      rw [c, h5]
    · by_cases hjm : j = m
      · subst hjm
        refine Or.inr ⟨p, v, hp, ?_, c, ?_⟩
        · rw [ls_o _ (by omega), ls_o _ (by omega)]
          exact e
        · rw [if_pos (by omega), ls_o _ (by omega), ls_i, h5]
      · rcases hj j hjn with ⟨e2, c2⟩ | ⟨p2, v2, hp2, e2, c2, o2⟩
        · exact Or.inl ⟨by rw [ls_o _ (by omega), ls_o _ (by omega)]; exact e2, c2⟩
        · refine Or.inr ⟨p2, v2, hp2, by rw [ls_o _ (by omega), ls_o _ (by omega)]; exact e2, c2, ?_⟩
          rw [ls_o _ (by omega), ls_n _ _ hjm, o2]
          by_cases hl : j < m
          · rw [if_pos hl, if_pos (by omega)]
          · rw [if_neg hl, if_neg (by omega)]
theorem hM.bwd {C : Nat → Nat → Int32} {m n : Nat} {S : lm_S} (h : hM C (m + 1) n S) (hm : m < n) (hn : n ≤ 600) : hM C m n (kd_swap (nI m) S) := by
  obtain ⟨h5, hj⟩ := h
  unfold kd_swap
  rw [nI_clamp (by omega)]
  rcases hj m hm with ⟨e, c⟩ | ⟨p, v, hp, e, c, o⟩
  · unfold kd_swp
    rw [e, if_pos isA_m]
    refine ⟨by rw [← c]; exact h5, fun j hjn => ?_⟩
    rcases hj j hjn with q | ⟨p, v, hp, e2, c2, o2⟩
    · exact Or.inl q
    · refine Or.inr ⟨p, v, hp, e2, c2, ?_⟩
      have hne : j ≠ m := fun q => by
        subst q
        rw [e] at e2
        exact nI_nm1 hp e2.symm
      rw [o2]
      by_cases hl : j < m
      · rw [if_pos hl, if_pos (by omega)]
      · rw [if_neg hl, if_neg (by omega)]
  · unfold kd_swp
    rw [e, if_neg (isA_p hp), nI_clamp (by omega), nI_clamp (by omega), o, if_pos (by omega)]
    refine ⟨?_, fun j hjn => ?_⟩
    · show upd (S 5) p (C m p) = C m
      rw [h5, c, upd_back]
    · by_cases hjm : j = m
      · subst hjm
        refine Or.inr ⟨p, v, hp, ?_, c, ?_⟩
        · rw [ls_o _ (by omega), ls_o _ (by omega)]
          exact e
        · rw [if_neg (by omega), ls_o _ (by omega), ls_i, h5, c]
          simp [upd]
      · rcases hj j hjn with ⟨e2, c2⟩ | ⟨p2, v2, hp2, e2, c2, o2⟩
        · exact Or.inl ⟨by rw [ls_o _ (by omega), ls_o _ (by omega)]; exact e2, c2⟩
        · refine Or.inr ⟨p2, v2, hp2, by rw [ls_o _ (by omega), ls_o _ (by omega)]; exact e2, c2, ?_⟩
          rw [ls_o _ (by omega), ls_n _ _ hjm, o2]
          by_cases hl : j < m
          · rw [if_pos hl, if_pos (by omega)]
          · rw [if_neg hl, if_neg (by omega)]
theorem hM.fw {C : Nat → Nat → Int32} {n : Nat} (hn : n ≤ 600) : ∀ (d m : Nat) (S : lm_S), hM C m n S → m + d ≤ n → hM C (m + d) n (kd_fw d m S)
  | 0, _, _, h, _ => h
  | d + 1, m, S, h, hd => by
    rw [kd_fw, show m + (d + 1) = m + 1 + d by omega]
    exact hM.fw hn d (m + 1) _ (h.fwd (by omega) hn) (by omega)
theorem hM.bw {C : Nat → Nat → Int32} {n : Nat} (hn : n ≤ 600) : ∀ (d m : Nat) (S : lm_S), hM C m n S → d ≤ m → m ≤ n → hM C (m - d) n (kd_bw d m S)
  | 0, _, _, h, _, _ => h
  | d + 1, m, S, h, hd, hm => by
    rw [kd_bw, show m - (d + 1) = m - 1 - d by omega]
    refine hM.bw hn d (m - 1) _ ?_ (by omega) (by omega)
    have e : m - 1 + 1 = m := by omega
    rw [← e] at h
    exact h.bwd (by omega) hn
theorem fw_o : ∀ (d m : Nat) (S : lm_S) (i : Nat), i ≠ 5 → i ≠ 13 → (kd_fw d m S) i = S i
  | 0, _, _, _, _, _ => rfl
  | d + 1, m, S, i, h5, h13 => by rw [kd_fw, fw_o d _ _ i h5 h13, swap_o _ _ _ h5 h13]
theorem bw_o : ∀ (d m : Nat) (S : lm_S) (i : Nat), i ≠ 5 → i ≠ 13 → (kd_bw d m S) i = S i
  | 0, _, _, _, _, _ => rfl
  | d + 1, m, S, i, h5, h13 => by rw [kd_bw, bw_o d _ _ i h5 h13, swap_o _ _ _ h5 h13]
theorem mv_o (a t : Nat) (S : lm_S) (i : Nat) (h2 : i ≠ 2) (h5 : i ≠ 5) (h6 : i ≠ 6) (h13 : i ≠ 13) : (kd_mv a t S) i = S i := by
  unfold kd_mv kd_fin
  rw [va_up_ne _ _ h6, ls_o _ h2, bw_o _ _ _ _ h5 h13, fw_o _ _ _ _ h5 h13]
theorem mv_2 (a t : Nat) (S : lm_S) : (kd_mv a t S) 2 3 = nI t ∧ (kd_mv a t S) 2 4 = S 2 4 := by
  unfold kd_mv kd_fin
  rw [va_up_ne _ _ (by omega)]
  refine ⟨ls_i _ _ _ _, ?_⟩
  rw [ls_n _ _ (by omega), bw_o _ _ _ _ (by omega) (by omega), fw_o _ _ _ _ (by omega) (by omega)]
theorem mv_6 (a t : Nat) (S : lm_S) (k : Nat) (hk : k < 9) : (kd_mv a t S) 6 k = S 11 (t * 9 + k) := by
  unfold kd_mv kd_fin
  rw [va_up_self, pk_cpy_in (by omega) (by omega), bw_o _ _ _ _ (by omega) (by omega), fw_o _ _ _ _ (by omega) (by omega), Nat.sub_zero]
theorem mv_M {C : Nat → Nat → Int32} {n a t : Nat} {S : lm_S} (hn : n ≤ 600) (h : hM C (2 * a) n S) (ha : 2 * a ≤ n) (ht : 2 * t ≤ n) : hM C (2 * t) n (kd_mv a t S) := by
  have h1 : hM C (2 * a + (2 * t - 2 * a)) n (kd_fw (2 * t - 2 * a) (2 * a) S) := hM.fw hn _ _ _ h (by omega)
  have h2 : hM C (2 * t) n (kd_bw (2 * a - 2 * t) (2 * a) (kd_fw (2 * t - 2 * a) (2 * a) S)) := by
    by_cases hq : t ≤ a
    · rw [show 2 * t - 2 * a = 0 by omega] at h1 ⊢
      have h3 := hM.bw hn (2 * a - 2 * t) (2 * a) _ h1 (by omega) (by omega)
      rw [show 2 * a - (2 * a - 2 * t) = 2 * t by omega] at h3
      exact h3
    · rw [show 2 * a - 2 * t = 0 by omega]
      rw [show 2 * a + (2 * t - 2 * a) = 2 * t by omega] at h1
      exact h1
  generalize hT : kd_bw (2 * a - 2 * t) (2 * a) (kd_fw (2 * t - 2 * a) (2 * a) S) = T at h2
  have e : kd_mv a t S = kd_fin t T := by unfold kd_mv; rw [hT]
  rw [e]
  obtain ⟨g5, gj⟩ := h2
  have o5 : (kd_fin t T) 5 = T 5 := by unfold kd_fin; rw [va_up_ne _ _ (by omega), ls_o _ (by omega)]
  have o12 : (kd_fin t T) 12 = T 12 := by unfold kd_fin; rw [va_up_ne _ _ (by omega), ls_o _ (by omega)]
  have o13 : (kd_fin t T) 13 = T 13 := by unfold kd_fin; rw [va_up_ne _ _ (by omega), ls_o _ (by omega)]
  refine ⟨by rw [o5]; exact g5, fun j hj => ?_⟩
  unfold hO
  rw [o12, o13]
  exact gj j hj
/-! the whole history -/
def wc (p0 p1 w b : Int32) : Prop := (p0 = -1 ∧ p1 = -1 ∧ w = -1 ∧ b = -1) ∨ (∃ p : Nat, p < 512 ∧ p0 = nI p ∧ p1 = -1 ∧ w = nI p ∧ b = -1) ∨ ∃ p q : Nat, p < 512 ∧ q < 512 ∧ p0 = nI p ∧ p1 = nI q ∧ w = nI q ∧ b = nI p
/-- the desk at moment t -/
def dT (C : Nat → Nat → Int32) (t : Nat) (S : lm_S) : lm_S := va_up (va_up S 6 (fun k => S 11 (t * 9 + k))) 5 (C (2 * t))
def hT (b : Nat → Int32) (C : Nat → Nat → Int32) (t : Nat) (S : lm_S) : Prop := rs (dT C t S) (ns_S (ns_it t b)) ∧ ∃ hd : Nat, hd ≤ 8 + t ∧ S 11 (t * 9 + 8) = nI hd
def hP (b : Nat → Int32) (t : Nat) (S : lm_S) : Prop := wc (S 12 (2 * t)) (S 12 (2 * t + 1)) (ns_w (ns_it t b)) (ns_b (ns_it t b))
def HD (b : Nat → Int32) (C : Nat → Nat → Int32) (a N : Nat) (S : lm_S) : Prop := a ≤ N ∧ N ≤ 300 ∧ S 2 3 = nI a ∧ S 2 4 = nI N ∧ (∀ k, k < 9 → S 6 k = S 11 (a * 9 + k)) ∧ hM C (2 * a) (2 * N) S ∧ (∀ t, t ≤ N → hT b C t S) ∧ (∀ t, t < N → hP b t S) ∧ ∀ t, t ≤ N → ∃ x y : Nat, S 11 (t * 9 + 8) = nI x ∧ S 11 (N * 9 + 8) = nI y ∧ x ≤ y ∧ y ≤ 8 + N
theorem rs.cong {D D1 M M1 : lm_S} (h : rs D M) (h5 : ∀ a, a < 512 → D1 5 a = D 5 a) (h6 : ∀ k, k < 9 → D1 6 k = D 6 k) (h1 : D1 1 = D 1) (h7 : D1 7 = D 7) (h8 : D1 8 = D 8) (hM : M1 18 = M 18) : rs D1 M1 := by
  obtain ⟨r1, r2, r3, tk, fd, hd, dr, i1, i2, i3, i4, i5, i6, i7, i8, i9, i10, i11, i12⟩ := h
  refine ⟨fun a ha => ?_, fun k hk => ?_, ?_, tk, fd, hd, dr, ?_, ?_, i3, i4, ?_, fun k hk => ?_, ?_, ?_, ?_, fun k hk hk2 => ?_, i11, i12⟩
  · rw [h5 a ha, hM]; exact r1 a ha
  · rw [h6 k (by omega), hM]; exact r2 k hk
  · unfold rl_v; rw [hM]; exact r3
  · rw [h6 7 (by omega)]; exact i1
  · rw [h1]; exact i2
  · rw [hM]; exact i5
  · rw [h7, hM]; exact i6 k hk
  · rw [h6 8 (by omega)]; exact i7
  · rw [h1]; exact i8
  · rw [hM]; exact i9
  · rw [h8, hM]; exact i10 k hk hk2
/-- a history that says the same of the same cells -/
theorem hT.cong {b : Nat → Int32} {C : Nat → Nat → Int32} {t : Nat} {S S1 : lm_S} (h : hT b C t S) (h11 : ∀ k, k < 9 → S1 11 (t * 9 + k) = S 11 (t * 9 + k)) (h1 : S1 1 = S 1) (h7 : S1 7 = S 7) (h8 : S1 8 = S 8) : hT b C t S1 := by
  obtain ⟨g, hd, g1, g2⟩ := h
  refine ⟨g.cong (fun a _ => rfl) (fun k hk => h11 k hk) h1 h7 h8 rfl, hd, g1, by rw [h11 8 (by omega)]; exact g2⟩
/-- GO: the present is moment t -/
theorem HD.move {b : Nat → Int32} {C : Nat → Nat → Int32} {a N : Nat} {S : lm_S} (h : HD b C a N S) (t : Nat) (ht : t ≤ N) : HD b C t N (kd_mv a t S) := by
  obtain ⟨h1, h2, h3, h4, h5, h6, h7, h8, h9⟩ := h
  have o : ∀ i, i ≠ 2 → i ≠ 5 → i ≠ 6 → i ≠ 13 → (kd_mv a t S) i = S i := mv_o a t S
  refine ⟨ht, h2, (mv_2 a t S).1, by rw [(mv_2 a t S).2]; exact h4, fun k hk => ?_, mv_M (by omega) h6 (by omega) (by omega), fun u hu => ?_, fun u hu => ?_, fun u hu => by rw [o 11 (by omega) (by omega) (by omega) (by omega)]; exact h9 u hu⟩
  · rw [mv_6 a t S k hk, o 11 (by omega) (by omega) (by omega) (by omega)]
  · exact (h7 u hu).cong (fun k _ => by rw [o 11 (by omega) (by omega) (by omega) (by omega)]) (o 1 (by omega) (by omega) (by omega) (by omega)) (o 7 (by omega) (by omega) (by omega) (by omega)) (o 8 (by omega) (by omega) (by omega) (by omega))
  · unfold hP
    rw [o 12 (by omega) (by omega) (by omega) (by omega)]
    exact h8 u hu
