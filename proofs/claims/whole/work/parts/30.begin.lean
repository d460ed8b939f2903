/-! a new history begins -/
theorem sho_8 (s : Nat) (hs : 0 < s) : ∀ (m k : Nat) (S : lm_S) (i : Nat), s + k + m ≤ 308 → (kd_sho s m k S) 8 i = if k ≤ i ∧ i < k + m then S 8 (s + i) else S 8 i
  | 0, k, S, i, _ => by
    rw [if_neg (by omega)]
    rfl
  | m + 1, k, S, i, h => by
    rw [kd_sho, nI_add, nI_clamp (by omega), nI_clamp (by omega), sho_8 s hs m (k + 1) _ i (by omega)]
    by_cases h1 : i = k
    · subst h1
      rw [if_neg (by omega), if_pos (by omega), ls_i]
    · by_cases h2 : k + 1 ≤ i ∧ i < k + 1 + m
      · rw [if_pos h2, if_pos (by omega), ls_n _ _ (by omega)]
      · rw [if_neg h2, if_neg (by omega), ls_n _ _ h1]
theorem sho_o (s : Nat) : ∀ (m k : Nat) (S : lm_S) (i : Nat), i ≠ 8 → (kd_sho s m k S) i = S i
  | 0, _, _, _, _ => rfl
  | m + 1, k, S, i, hi => by rw [kd_sho, sho_o s m _ _ i hi, ls_o _ hi]
theorem drop_o (hd : Nat) (S : lm_S) (i : Nat) (h1 : i ≠ 1) (h6 : i ≠ 6) (h8 : i ≠ 8) : (kd_drop hd S) i = S i := by
  unfold kd_drop
  split
  · rfl
  · unfold kd_dt
    rw [ls_o _ h6, ls_o _ h1, sho_o _ _ _ _ _ h8]
/-- at most eight outputs are held then -/
theorem rs.drop {D M : lm_S} (h : rs D M) (hd : Nat) (hD : D 6 8 = nI hd) (h308 : hd ≤ 308) : rs (kd_drop hd D) M ∧ ∃ h8 : Nat, h8 ≤ 8 ∧ (kd_drop hd D) 6 8 = nI h8 := by
  by_cases hq : hd ≤ 8
  · have e : kd_drop hd D = D := by unfold kd_drop; rw [if_pos hq]
    rw [e]
    exact ⟨h, hd, hq, hD⟩
  · obtain ⟨r1, r2, r3, tk, fd, hd2, dr, i1, i2, i3, i4, i5, i6, i7, i8, i9, i10, i11, i12⟩ := h
    have e0 : hd2 = hd := by
      rw [hD] at i7
      exact ((nI_eq (by omega) (by omega)).mp i7).symm
    subst e0
    have eE : kd_drop hd2 D = kd_dt (hd2 - 8) (kd_sho (hd2 - 8) 8 0 D) := by unfold kd_drop; rw [if_neg hq]
    have o : ∀ i, i ≠ 1 → i ≠ 6 → i ≠ 8 → (kd_drop hd2 D) i = D i := drop_o hd2 D
    have e6 : ∀ k, k ≠ 8 → (kd_drop hd2 D) 6 k = D 6 k := by
      intro k hk
      rw [eE]
      unfold kd_dt
      rw [ls_n _ _ hk, ls_o _ (by omega), sho_o _ _ _ _ _ (by omega)]
    have e68 : (kd_drop hd2 D) 6 8 = nI 8 := by
      rw [eE]
      unfold kd_dt
      rw [ls_i]
      rfl
    have e13 : (kd_drop hd2 D) 1 3 = D 1 3 := by
      rw [eE]
      unfold kd_dt
      rw [ls_o _ (by omega), ls_n _ _ (by omega), sho_o _ _ _ _ _ (by omega)]
    have e15 : (kd_drop hd2 D) 1 5 = nI (dr + (hd2 - 8)) := by
      rw [eE]
      unfold kd_dt
      rw [ls_o _ (by omega), ls_i, sho_o _ _ _ _ _ (by omega), i8, nI_add]
    have e8 : ∀ i, i < 8 → (kd_drop hd2 D) 8 i = D 8 (hd2 - 8 + i) := by
      intro i hi
      rw [eE]
      unfold kd_dt
      rw [ls_o _ (by omega), ls_o _ (by omega), sho_8 _ (by omega) _ _ _ _ (by omega), if_pos (by omega)]
    generalize kd_drop hd2 D = E at o e6 e68 e13 e15 e8 ⊢
    refine ⟨⟨?_, fun k hk => ?_, r3, tk, fd, 8, dr + (hd2 - 8), ?_, ?_, i3, i4, i5, ?_, e68, e15, ?_, fun k hk hk2 => ?_, fun q => by omega, by omega⟩, 8, Nat.le_refl _, e68⟩
    · rw [o 5 (by omega) (by omega) (by omega)]; exact r1
    · rw [e6 k (by omega)]; exact r2 k hk
    · rw [e6 7 (by omega)]; exact i1
    · rw [e13]; exact i2
    · rw [o 7 (by omega) (by omega) (by omega)]; exact i6
    · rw [i9, show dr + (hd2 - 8) + 8 = dr + hd2 by omega]
    · rw [e8 _ (by omega), show hd2 - 8 + (8 - 1 - k) = hd2 - 1 - k by omega]
      exact i10 k hk (by omega)
/-- the history of one moment -/
theorem HD.begin {b : Nat → Int32} {S : lm_S} (h : rs S (ns_S b)) (h8 : ∃ hd : Nat, hd ≤ 8 ∧ S 6 8 = nI hd) : HD b (fun _ => S 5) 0 0 (kd_begin S) := by
  obtain ⟨hd, hd8, hde⟩ := h8
  have e11 : ∀ k, k < 9 → (kd_begin S) 11 (0 * 9 + k) = S 6 k := by
    intro k hk
    unfold kd_begin kd_keep
    rw [va_up_self, pk_cpy_in (by rw [ls_n _ _ (by omega), ls_i]; exact Nat.zero_le _) (by rw [ls_n _ _ (by omega), ls_i, show ((0 : Int32) * 9).toNatClampNeg = 0 from by decide, show (9 : Int32).toNatClampNeg = 9 from by decide]; omega), ls_o _ (by omega), ls_o _ (by omega), ls_n _ _ (by omega), ls_i, show ((0 : Int32) * 9).toNatClampNeg = 0 from by decide, show (0 : Int32).toNatClampNeg = 0 from by decide]
    congr 1
    omega
  have o : ∀ i, i ≠ 2 → i ≠ 11 → (kd_begin S) i = S i := by
    intro i h2 h11
    unfold kd_begin kd_keep
    rw [va_up_ne _ _ h11, ls_o _ h2, ls_o _ h2]
  have e23 : (kd_begin S) 2 3 = nI 0 := by
    unfold kd_begin kd_keep
    rw [va_up_ne _ _ (by omega), ls_n _ _ (by omega), ls_i]
    rfl
  have e24 : (kd_begin S) 2 4 = nI 0 := by
    unfold kd_begin kd_keep
    rw [va_up_ne _ _ (by omega), ls_i]
    rfl
  generalize kd_begin S = E at e11 o e23 e24 ⊢
  refine ⟨Nat.le_refl _, by omega, e23, e24, fun k hk => ?_, ⟨o 5 (by omega) (by omega), fun j hj => by omega⟩, fun t ht => ?_, fun t ht => by omega, fun t ht => ?_⟩
  · rw [o 6 (by omega) (by omega), e11 k hk]
  · have e : t = 0 := by omega
    subst e
    refine ⟨h.cong (fun a _ => by rw [dT_5]) (fun k hk => by rw [dT_6]; exact e11 k hk) (by rw [dT_o _ _ _ 1 (by omega) (by omega)]; exact o 1 (by omega) (by omega)) (by rw [dT_o _ _ _ 7 (by omega) (by omega)]; exact o 7 (by omega) (by omega)) (by rw [dT_o _ _ _ 8 (by omega) (by omega)]; exact o 8 (by omega) (by omega)) rfl, hd, by omega, by rw [e11 8 (by omega)]; exact hde⟩
  · have e : t = 0 := by omega
    subst e
    exact ⟨hd, hd, by rw [e11 8 (by omega)]; exact hde, by rw [e11 8 (by omega)]; exact hde, Nat.le_refl _, by omega⟩
