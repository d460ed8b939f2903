/-! the desk's cells against the reference's image -/
def rl_io (D M : lm_S) : Prop := ∃ tk fd hd dr : Nat, D 6 7 = nI tk ∧ D 1 3 = nI fd ∧ tk ≤ fd ∧ fd ≤ 40 ∧ M 18 519 = nI (fd - tk) ∧ (∀ k, k < fd - tk → D 7 (tk + k) = M 18 (520 + k)) ∧ D 6 8 = nI hd ∧ D 1 5 = nI dr ∧ M 18 560 = nI (dr + hd) ∧ (∀ k, k < 8 → k < hd → D 8 (hd - 1 - k) = M 18 (561 + k)) ∧ (hd < 8 → dr = 0) ∧ hd ≤ 308
/-- what a step has written so far: C0 the cells before it -/
def rl_w (C0 : Nat → Int32) (D M : lm_S) : Prop :=
  (D 1 8 = 0 ∧ D 9 0 = -1 ∧ D 9 1 = -1 ∧ M 16 8 = -1 ∧ M 16 9 = -1 ∧ D 5 = C0) ∨
  (∃ (p : Nat) (v : Int32), p < 512 ∧ D 1 8 = 1 ∧ D 9 0 = nI p ∧ D 9 1 = -1 ∧ M 16 8 = nI p ∧ M 16 9 = -1 ∧ D 10 0 = C0 p ∧ D 5 = upd C0 p v) ∨
  ∃ (p q : Nat) (v u : Int32), p < 512 ∧ q < 512 ∧ D 1 8 = 2 ∧ D 9 0 = nI p ∧ D 9 1 = nI q ∧ M 16 8 = nI q ∧ M 16 9 = nI p ∧ D 10 0 = C0 p ∧ D 10 1 = (upd C0 p v) q ∧ D 5 = upd (upd C0 p v) q u
def rl_v (M : lm_S) : Prop := (∀ a, a < 512 → kb (M 18 a)) ∧ (∀ k, k < 5 → kb (M 18 (512 + k))) ∧ vp_in (M 18 517) 512
def rl (C0 : Nat → Int32) (D M : lm_S) : Prop := (∀ a, a < 512 → D 5 a = M 18 a) ∧ (∀ k, k < 7 → D 6 k = M 18 (512 + k)) ∧ rl_v M ∧ rl_io D M ∧ rl_w C0 D M
section REL
variable {C0 : Nat → Int32} {D M : lm_S}
theorem rl.A (h : rl C0 D M) : D 6 0 = M 18 512 := h.2.1 0 (by omega)
theorem rl.X (h : rl C0 D M) : D 6 1 = M 18 513 := h.2.1 1 (by omega)
theorem rl.Y (h : rl C0 D M) : D 6 2 = M 18 514 := h.2.1 2 (by omega)
theorem rl.S (h : rl C0 D M) : D 6 3 = M 18 515 := h.2.1 3 (by omega)
theorem rl.P (h : rl C0 D M) : D 6 4 = M 18 516 := h.2.1 4 (by omega)
theorem rl.C (h : rl C0 D M) : D 6 5 = M 18 517 := h.2.1 5 (by omega)
theorem rl.H (h : rl C0 D M) : D 6 6 = M 18 518 := h.2.1 6 (by omega)
/-- one register on both sides -/
theorem rl.reg (h : rl C0 D M) (k : Nat) (hk : k < 7) (x : Int32) (hx : k < 5 → kb x) (h5 : k = 5 → vp_in x 512) : rl C0 (lm_set D 6 k x) (lm_set M 18 (512 + k) x) := by
  obtain ⟨h1, h2, ⟨v1, v2, v3⟩, ⟨tk, fd, hd, dr, i1, i2, i3, i4, i5, i6, i7, i8, i9, i10, i11, i12⟩, h4⟩ := h
  refine ⟨fun a ha => ?_, fun j hj => ?_, ⟨fun a ha => ?_, fun j hj => ?_, ?_⟩, ⟨tk, fd, hd, dr, ?_, i2, i3, i4, ?_, fun j hj => ?_, ?_, i8, ?_, fun j hj hj2 => ?_, i11, i12⟩, h4⟩
  · rw [ls_o _ (by omega), ls_n _ _ (by omega)]
    exact h1 a ha
  · by_cases e : j = k
    · subst e
      rw [ls_i, ls_i]
    · rw [ls_n _ _ e, ls_n _ _ (by omega)]
      exact h2 j hj
  · rw [ls_n _ _ (by omega)]
    exact v1 a ha
  · by_cases e : j = k
    · subst e
      rw [ls_i]
      exact hx hj
    · rw [ls_n _ _ (by omega)]
      exact v2 j hj
  · by_cases e : k = 5
    · subst e
      rw [show (517 : Nat) = 512 + 5 from rfl, ls_i]
      exact h5 rfl
    · rw [ls_n _ _ (by omega)]
      exact v3
  · rw [ls_n _ _ (by omega)]; exact i1
  · rw [ls_n _ _ (by omega)]; exact i5
  · rw [ls_o _ (by omega), ls_n _ _ (by omega)]; exact i6 j hj
  · rw [ls_n _ _ (by omega)]; exact i7
  · rw [ls_n _ _ (by omega)]; exact i9
  · rw [ls_o _ (by omega), ls_n _ _ (by omega)]; exact i10 j hj hj2
theorem rl.flag (h : rl C0 D M) (f o : Int32) (hf : f &&& 255 = f) : rl C0 (kd_flag f o D) (km_flag f o M) := by
  have e : kd_flag f o D = lm_set D 6 4 (fl f o (M 18 516)) := by rw [← h.P]; rfl
  rw [e]
  exact h.reg 4 (by omega) _ (fun _ => kb_fl hf o (h.2.2.1.2.1 4 (by omega))) (fun q => by omega)
theorem rl.note (h : rl C0 D M) (v : Int32) : rl C0 (kd_note (v &&& 255) D) (km_mark v M) := by
  rw [nt_nz, mk_nz, h.P]
  exact h.reg 4 (by omega) _ (fun _ => kb_nz v (h.2.2.1.2.1 4 (by omega))) (fun q => by omega)
theorem rl.load (h : rl C0 D M) (g : Nat) (hg : g < 4) (v : Int32) : rl C0 (kd_load (nI g) v D) (lm_set (km_mark v M) 18 (512 + g) (v &&& 255)) := by
  rw [ld_nz g hg, mk_nz, ls_cc M 18 (k := 516) (l := 512 + g) (by omega), h.P]
  have h2 := h.reg g (by omega) (v &&& 255) (fun _ => kb_and v) (fun q => by omega)
  exact h2.reg 4 (by omega) _ (fun _ => kb_nz v (h.2.2.1.2.1 4 (by omega))) (fun q => by omega)
theorem and511 {p : Nat} (hp : p < 512) : nI p &&& 511 = nI p := by rw [pk_andN (by omega) 9 (by decide), Nat.mod_eq_of_lt hp]
/-- a cell is written -/
theorem rl.wcell (h : rl C0 D M) (p : Nat) (hp : p < 512) (v : Int32) (hv : kb v) (hw : D 1 8 = 0 ∨ D 1 8 = 1) : rl C0 (kd_wcell (nI p) v D) (km_write (nI p) v M) := by
  obtain ⟨h1, h2, ⟨v1, v2, v3⟩, ⟨tk, fd, hd, dr, i1, i2, i3, i4, i5, i6, i7, i8, i9, i10, i11, i12⟩, h4⟩ := h
  have e1 : kd_wcell (nI p) v D = lm_set (lm_set (lm_set (lm_set D 9 (D 1 8).toNatClampNeg (nI p)) 10 (D 1 8).toNatClampNeg (D 5 p)) 1 8 (D 1 8 + 1)) 5 p v := by
    unfold kd_wcell kd_note2
    rw [and511 hp, nI_clamp (by omega), if_neg]
    rcases hw with hw | hw
    · rw [hw]; decide
    · rw [hw]; decide
  have e2 : km_write (nI p) v M = lm_set (lm_set (lm_set M 18 p v) 16 9 (M 16 8)) 16 8 (nI p) := by
    unfold km_write
    rw [nI_clamp (by omega), kb_id hv]
  rw [e1, e2]
  have c5 : ∀ a, (lm_set (lm_set (lm_set (lm_set D 9 (D 1 8).toNatClampNeg (nI p)) 10 (D 1 8).toNatClampNeg (D 5 p)) 1 8 (D 1 8 + 1)) 5 p v) 5 a = upd (D 5) p v a := fun a => rfl
  have c18 : ∀ a, (lm_set (lm_set (lm_set M 18 p v) 16 9 (M 16 8)) 16 8 (nI p)) 18 a = upd (M 18) p v a := fun a => rfl
  refine ⟨fun a ha => ?_, fun j hj => ?_, ⟨fun a ha => ?_, fun j hj => ?_, ?_⟩, ⟨tk, fd, hd, dr, i1, i2, i3, i4, ?_, fun j hj => ?_, i7, i8, ?_, fun j hj hj2 => ?_, i11, i12⟩, ?_⟩
  · rw [c5, c18]
    simp only [upd]
    split
    · rfl
    · exact h1 a ha
  · rw [c18, pk_un (by omega)]
    exact h2 j hj
  · rw [c18]
    simp only [upd]
    split
    · exact hv
    · exact v1 a ha
  · rw [c18, pk_un (by omega)]
    exact v2 j hj
  · rw [c18, pk_un (by omega)]
    exact v3
  · rw [c18, pk_un (by omega)]; exact i5
  · rw [c18, pk_un (by omega)]; exact i6 j hj
  · rw [c18, pk_un (by omega)]; exact i9
  · rw [c18, pk_un (by omega)]; exact i10 j hj hj2
  · rcases h4 with ⟨w1, w2, w3, w4, w5, w6⟩ | ⟨q, u, w0, w1, w2, w3, w4, w5, w6, w7⟩ | ⟨_, _, _, _, _, _, w1, _⟩
    · refine Or.inr (Or.inl ⟨p, v, hp, ?_, ?_, ?_, rfl, ?_, ?_, ?_⟩)
      · show D 1 8 + 1 = 1
        rw [w1]; rfl
      · show upd (D 9) (D 1 8).toNatClampNeg (nI p) 0 = nI p
        rw [w1]; rfl
      · show upd (D 9) (D 1 8).toNatClampNeg (nI p) 1 = -1
        rw [w1]; exact w3
      · exact w4
      · show upd (D 10) (D 1 8).toNatClampNeg (D 5 p) 0 = C0 p
        rw [w1, w6]; rfl
      · show upd (D 5) p v = upd C0 p v
        rw [w6]
    · refine Or.inr (Or.inr ⟨q, p, u, v, w0, hp, ?_, ?_, ?_, rfl, ?_, ?_, ?_, ?_⟩)
      · show D 1 8 + 1 = 2
        rw [w1]; rfl
      · show upd (D 9) (D 1 8).toNatClampNeg (nI p) 0 = nI q
        rw [w1]; exact w2
      · show upd (D 9) (D 1 8).toNatClampNeg (nI p) 1 = nI p
        rw [w1]; rfl
      · exact w4
      · show upd (D 10) (D 1 8).toNatClampNeg (D 5 p) 0 = C0 q
        rw [w1]; exact w6
      · show upd (D 10) (D 1 8).toNatClampNeg (D 5 p) 1 = upd C0 q u p
        rw [w1, w7]; rfl
      · show upd (D 5) p v = upd (upd C0 q u) p v
        rw [w7]
    · rcases hw with hw | hw <;> rw [hw] at w1 <;> exact absurd w1 (by decide)
end REL
