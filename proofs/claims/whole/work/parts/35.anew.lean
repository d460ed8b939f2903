/-! a new history on both sides: poke, set, feed -/
theorem now_S {b : Nat → Int32} {C : Nat → Nat → Int32} {a N : Nat} {S : lm_S} (hD : HD b C a N S) (hM : HM b a N S) : rs S S := hD.now.cong (fun _ _ => rfl) (fun _ _ => rfl) rfl rfl rfl hM.2.1
theorem drop_15 (hd dr : Nat) (S : lm_S) (h : S 1 5 = nI dr) : (kd_drop hd S) 1 5 = nI (dr + (hd - 8)) := by
  unfold kd_drop
  by_cases q : hd ≤ 8
  · rw [if_pos q, h, show dr + (hd - 8) = dr by omega]
  · rw [if_neg q]
    unfold kd_dt
    rw [ls_o _ (by omega), ls_i, sho_o _ _ _ _ _ (by omega), h, nI_add]
theorem IV.anew {q c d hd dr : Nat} {S D1 M1 K : lm_S} (h3 : mk 19 6 14 3 c S) (h4 : mk 20 7 15 4 d S) (r : rs D1 M1) (hd8 : D1 6 8 = nI hd) (h308 : hd ≤ 308) (oD : dfo D1 S) (e15 : D1 1 5 = nI dr) (hdr : dr ≤ 300 * q) (oK : mfo K (kd_begin (kd_drop hd D1))) (eK : K 18 = M1 18) : IV (q + 1) (km_an K) := by
  obtain ⟨r8, h8⟩ := r.drop hd hd8 h308
  have r9 : rs (kd_drop hd D1) (ns_S (M1 18)) := r8.cong (fun _ _ => rfl) (fun _ _ => rfl) rfl rfl rfl rfl
  refine IV.both (dr := dr + (hd - 8)) h3 h4 (HD.begin r9 h8) ((do_begin _).tr ((do_drop _ _).tr oD)) ((mo_an K).tr oK) ⟨?_, ?_, ?_, ?_⟩ ?_ (by omega)
  · unfold km_an
    rw [ls_o _ (by omega), ls_o _ (by omega), va_up_self]
    exact eK
  · unfold km_an
    rw [ls_o _ (by omega), ls_o _ (by omega), va_up_ne _ _ (by omega)]
    exact eK
  · unfold km_an
    rw [ls_n _ _ (by omega), ls_i]
    rfl
  · unfold km_an
    rw [ls_i]
    rfl
  · have e : (kd_begin (kd_drop hd D1)) 1 = (kd_drop hd D1) 1 := by
      unfold kd_begin kd_keep
      rw [va_up_ne _ _ (by omega), ls_o _ (by omega), ls_o _ (by omega)]
    rw [e]
    exact drop_15 hd dr D1 e15
theorem rs.cset {D M : lm_S} (h : rs D M) (p : Nat) (hp : p < 512) (x : Int32) (hx : kb x) : rs (lm_set D 5 p x) (lm_set M 18 p x) := by
  obtain ⟨r1, r2, ⟨v1, v2, v3⟩, tk, fd, hd, dr, i1, i2, i3, i4, i5, i6, i7, i8, i9, i10, i11, i12⟩ := h
  refine ⟨fun a ha => ?_, fun k hk => ?_, ⟨fun a ha => ?_, fun k hk => ?_, ?_⟩, tk, fd, hd, dr, ?_, ?_, i3, i4, ?_, fun k hk => ?_, ?_, ?_, ?_, fun k hk hk2 => ?_, i11, i12⟩
  · by_cases e : a = p
    · subst e
      rw [ls_i, ls_i]
    · rw [ls_n _ _ e, ls_n _ _ e]
      exact r1 a ha
  · rw [ls_o _ (by omega), ls_n _ _ (by omega)]
    exact r2 k hk
  · by_cases e : a = p
    · subst e
      rw [ls_i]
      exact hx
    · rw [ls_n _ _ e]
      exact v1 a ha
  · rw [ls_n _ _ (by omega)]
    exact v2 k hk
  · rw [ls_n _ _ (by omega)]
    exact v3
  · rw [ls_o _ (by omega)]; exact i1
  · rw [ls_o _ (by omega)]; exact i2
  · rw [ls_n _ _ (by omega)]; exact i5
  · rw [ls_o _ (by omega), ls_n _ _ (by omega)]; exact i6 k hk
  · rw [ls_o _ (by omega)]; exact i7
  · rw [ls_o _ (by omega)]; exact i8
  · rw [ls_n _ _ (by omega)]; exact i9
  · rw [ls_o _ (by omega), ls_n _ _ (by omega)]; exact i10 k hk hk2
theorem rs.rset {D M : lm_S} (h : rs D M) (p : Nat) (hp : p < 7) (x : Int32) (hx : p < 5 → kb x) (h5 : p = 5 → vp_in x 512) : rs (lm_set D 6 p x) (lm_set M 18 (512 + p) x) := by
  obtain ⟨r1, r2, ⟨v1, v2, v3⟩, tk, fd, hd, dr, i1, i2, i3, i4, i5, i6, i7, i8, i9, i10, i11, i12⟩ := h
  refine ⟨fun a ha => ?_, fun k hk => ?_, ⟨fun a ha => ?_, fun k hk => ?_, ?_⟩, tk, fd, hd, dr, ?_, ?_, i3, i4, ?_, fun k hk => ?_, ?_, ?_, ?_, fun k hk hk2 => ?_, i11, i12⟩
  · rw [ls_o _ (by omega), ls_n _ _ (by omega)]
    exact r1 a ha
  · by_cases e : k = p
    · subst e
      rw [ls_i, ls_i]
    · rw [ls_n _ _ e, ls_n _ _ (by omega)]
      exact r2 k hk
  · rw [ls_n _ _ (by omega)]
    exact v1 a ha
  · by_cases e : k = p
    · subst e
      rw [ls_i]
      exact hx hk
    · rw [ls_n _ _ (by omega)]
      exact v2 k hk
  · by_cases e : p = 5
    · subst e
      rw [show (517 : Nat) = 512 + 5 from rfl, ls_i]
      exact h5 rfl
    · rw [ls_n _ _ (by omega)]
      exact v3
  · rw [ls_n _ _ (by omega)]; exact i1
  · rw [ls_o _ (by omega)]; exact i2
  · rw [ls_n _ _ (by omega)]; exact i5
  · rw [ls_o _ (by omega), ls_n _ _ (by omega)]; exact i6 k hk
  · rw [ls_n _ _ (by omega)]; exact i7
  · rw [ls_o _ (by omega)]; exact i8
  · rw [ls_n _ _ (by omega)]; exact i9
  · rw [ls_o _ (by omega), ls_n _ _ (by omega)]; exact i10 k hk hk2
theorem shi_7 (tk : Nat) : ∀ (m k : Nat) (S : lm_S) (i : Nat), S 6 7 = nI tk → tk + k + m ≤ 40 → (kd_shi m k S) 7 i = if k ≤ i ∧ i < k + m then S 7 (tk + i) else S 7 i
  | 0, k, S, i, _, _ => by
    rw [if_neg (by omega)]
    rfl
  | m + 1, k, S, i, ht, h => by
    rw [kd_shi, ht, nI_add, nI_clamp (by omega), nI_clamp (by omega), shi_7 tk m (k + 1) _ i (by rw [ls_o _ (by omega)]; exact ht) (by omega)]
    by_cases h1 : i = k
    · subst h1
      rw [if_neg (by omega), if_pos (by omega), ls_i]
    · by_cases h2 : k + 1 ≤ i ∧ i < k + 1 + m
      · rw [if_pos h2, if_pos (by omega), ls_n _ _ (by omega)]
      · rw [if_neg h2, if_neg (by omega), ls_n _ _ h1]
theorem shi_o : ∀ (m k : Nat) (S : lm_S) (i : Nat), i ≠ 7 → (kd_shi m k S) i = S i
  | 0, _, _, _, _ => rfl
  | m + 1, k, S, i, hi => by rw [kd_shi, shi_o m _ _ i hi, ls_o _ hi]
theorem rs.feed {D M : lm_S} (h : rs D M) (tk w : Nat) (h7 : D 6 7 = nI tk) (h3 : D 1 3 = nI (tk + w)) (hw : tk + w ≤ 40) (h40 : w < 40) (x : Int32) : rs (kd_ai w x (kd_shi w 0 D)) (lm_set (lm_set M 18 (520 + w) x) 18 519 (nI (w + 1))) := by
  obtain ⟨r1, r2, ⟨v1, v2, v3⟩, tk2, fd, hd, dr, i1, i2, i3, i4, i5, i6, i7, i8, i9, i10, i11, i12⟩ := h
  have et : tk2 = tk := by
    rw [h7] at i1
    exact ((nI_eq (by omega) (by omega)).mp i1).symm
  subst et
  have ef : fd = tk2 + w := by
    rw [h3] at i2
    exact ((nI_eq (by omega) (by omega)).mp i2).symm
  subst ef
  have eE : kd_ai w x (kd_shi w 0 D) = lm_set (lm_set (lm_set (lm_set (kd_shi w 0 D) 6 7 0) 1 3 (nI w)) 7 w x) 1 3 (nI (w + 1)) := by
    unfold kd_ai
    rw [if_neg (show ¬ (40 : Int32) ≤ nI w from nI_ge (b := 40) h40 (by omega)), nI_clamp (by omega), nI_1]
  have e7 : ∀ k, k < w → (kd_shi w 0 D) 7 k = D 7 (tk2 + k) := fun k hk => by
    rw [shi_7 tk2 w 0 D k h7 (by omega), if_pos (by omega)]
  have o : ∀ i, i ≠ 7 → (kd_shi w 0 D) i = D i := fun i hi => shi_o w 0 D i hi
  rw [eE]
  generalize kd_shi w 0 D = E at e7 o ⊢
  refine ⟨fun a ha => ?_, fun k hk => ?_, ⟨fun a ha => ?_, fun k hk => ?_, ?_⟩, 0, w + 1, hd, dr, ?_, ls_i _ _ _ _, by omega, by omega, ls_i _ _ _ _, fun k hk => ?_, ?_, ?_, ?_, fun k hk hk2 => ?_, i11, i12⟩
  · rw [ls_o _ (by omega), ls_o _ (by omega), ls_o _ (by omega), ls_o _ (by omega), o 5 (by omega), ls_n _ _ (by omega), ls_n _ _ (by omega)]
    exact r1 a ha
  · rw [ls_o _ (by omega), ls_o _ (by omega), ls_o _ (by omega), ls_n _ _ (by omega), o 6 (by omega), ls_n _ _ (by omega), ls_n _ _ (by omega)]
    exact r2 k hk
  · rw [ls_n _ _ (by omega), ls_n _ _ (by omega)]
    exact v1 a ha
  · rw [ls_n _ _ (by omega), ls_n _ _ (by omega)]
    exact v2 k hk
  · rw [ls_n _ _ (by omega), ls_n _ _ (by omega)]
    exact v3
  · rw [ls_o _ (by omega), ls_o _ (by omega), ls_o _ (by omega), ls_i]
    rfl
  · rw [ls_o _ (by omega), Nat.zero_add, ls_n (l := 520 + k) _ _ (by omega)]
    by_cases e : k = w
    · subst e
      rw [ls_i, ls_i]
    · rw [ls_n _ _ e, ls_n _ _ (by omega), ls_o _ (by omega), ls_o _ (by omega), e7 k (by omega)]
      exact i6 k (by omega)
  · rw [ls_o _ (by omega), ls_o _ (by omega), ls_o _ (by omega), ls_n _ _ (by omega), o 6 (by omega)]
    exact i7
  · rw [ls_n _ _ (by omega), ls_o _ (by omega), ls_n _ _ (by omega), ls_o _ (by omega), o 1 (by omega)]
    exact i8
  · rw [ls_n _ _ (by omega), ls_n _ _ (by omega)]
    exact i9
  · rw [ls_o _ (by omega), ls_o _ (by omega), ls_o _ (by omega), ls_o _ (by omega), o 8 (by omega), ls_n _ _ (by omega), ls_n _ _ (by omega)]
    exact i10 k hk hk2
