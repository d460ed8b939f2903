/-! valid images; the two runs -/
theorem nI_all (x : Int32) : ∃ n : Nat, x = nI n := ⟨x.toBitVec.toNat, Int32.toBitVec_inj.mp (by
  show x.toBitVec = BitVec.ofNat 32 x.toBitVec.toNat
  rw [BitVec.ofNat_toNat, BitVec.setWidth_eq])⟩
def vQ (n : Nat → Int32) : Prop := rl_v (ns_S n) ∧ ∃ w : Nat, w ≤ 40 ∧ n 519 = nI w
/-- a desk for an image -/
theorem vQ.desk {n : Nat → Int32} (h : vQ n) : ∃ (D : lm_S) (hd : Nat), rs D (ns_S n) ∧ D 6 8 = nI hd ∧ hd ≤ 8 := by
  obtain ⟨hv, w, hw, e⟩ := h
  obtain ⟨pu, ep⟩ := nI_all (n 560)
  obtain ⟨hd, dr, h1, h2, h3⟩ : ∃ hd dr : Nat, hd ≤ 8 ∧ dr + hd = pu ∧ (hd < 8 → dr = 0) := by
    by_cases q : pu < 8
    · exact ⟨pu, 0, by omega, by omega, fun _ => rfl⟩
    · exact ⟨8, pu - 8, by omega, by omega, fun z => by omega⟩
  refine ⟨fun i k => if i = 5 then n k else if i = 6 then (if k = 7 then nI 0 else if k = 8 then nI hd else n (512 + k)) else if i = 1 then (if k = 3 then nI w else nI dr) else if i = 7 then n (520 + k) else n (561 + (hd - 1 - k)), hd, ⟨fun a _ => rfl, fun k hk => ?_, hv, 0, w, hd, dr, rfl, rfl, by omega, hw, ?_, fun k hk => ?_, rfl, rfl, ?_, fun k hk hk2 => ?_, h3, by omega⟩, rfl, h1⟩
  · show (if k = 7 then nI 0 else if k = 8 then nI hd else n (512 + k)) = n (512 + k)
    rw [if_neg (by omega), if_neg (by omega)]
  · exact e
  · show n (520 + (0 + k)) = n (520 + k)
    rw [Nat.zero_add]
  · show n 560 = nI (dr + hd)
    rw [h2]; exact ep
  · show n (561 + (hd - 1 - (hd - 1 - k))) = n (561 + k)
    rw [show hd - 1 - (hd - 1 - k) = k by omega]
theorem vQ_km : km_Q vQ := by
  intro S hS
  obtain ⟨hv, w, hw, e⟩ := hS
  refine ⟨⟨hv.2.2, ?_, kb_in (hv.2.1 3 (by omega)), w, hw, e⟩, ?_⟩
  · unfold km_i
    obtain ⟨j, hj, ej⟩ := pk_andE (S 18 517 + 1) (m := 511) 9 (by decide)
    rw [ej, nI_clamp (by omega)]
    exact kb_in (hv.1 j hj)
  · obtain ⟨D, hd, h1, h2, h3⟩ := vQ.desk (n := S 18) ⟨hv, w, hw, e⟩
    have g := h1.step hd h2 (by omega)
    have kq := ns_eq S
    have kn := ns_eq (ns_S (S 18))
    have e18 : (km_step S) 18 = (km_step (ns_S (S 18))) 18 := by rw [kq.1, kn.1]; rfl
    generalize km_step (ns_S (S 18)) = K at g e18
    rw [e18]
    obtain ⟨-, -, g3, ⟨tk, fd, _, _, _, _, i3, i4, i5, _⟩, -⟩ := g
    exact ⟨g3, fd - tk, by omega, i5⟩
theorem rs.q {D : lm_S} {n : Nat → Int32} (h : rs D (ns_S n)) : vQ n := by
  obtain ⟨-, -, r3, tk, fd, hd, dr, i1, i2, i3, i4, i5, _⟩ := h
  exact ⟨r3, fd - tk, by omega, i5⟩
/-- the reference's side -/
def HM (b : Nat → Int32) (a N : Nat) (M : lm_S) : Prop := M 17 = b ∧ M 18 = ns_it a b ∧ M 16 2 = nI a ∧ M 16 3 = nI N
theorem has_c {m : Nat} {S S1 : lm_S} (h : S1 m = S m) (x : Int32) : kd_has m x S1 = kd_has m x S := by
  unfold kd_has
  rw [h]
theorem hs_c {l : Nat} {S S1 : lm_S} (h : S1 l = S l) (a : Int32) : ∀ n k, km_hs l a S1 n k = km_hs l a S n k
  | 0, _ => rfl
  | n + 1, k => by rw [km_hs, km_hs, h, hs_c h a n (k + 1)]
theorem HD.an {b : Nat → Int32} {C : Nat → Nat → Int32} {a N : Nat} {S : lm_S} (h : HD b C a N S) : kd_a S = a ∧ kd_n S = N ∧ kd_an (kd_a S) (kd_n S) S := by
  obtain ⟨h1, h2, h3, h4, _⟩ := h
  have e1 : kd_a S = a := by unfold kd_a; rw [h3, nI_clamp (by omega)]
  have e2 : kd_n S = N := by unfold kd_n; rw [h4, nI_clamp (by omega)]
  refine ⟨e1, e2, ?_⟩
  rw [e1, e2]
  exact ⟨h3, h4, h1, h2⟩
/-- a step on: to the next moment, or a new one -/
theorem HD.on {b : Nat → Int32} {C : Nat → Nat → Int32} {a N : Nat} {S : lm_S} (h : HD b C a N S) : (a < N ∧ kd_sr S = 1 ∧ HD b C (a + 1) N (kd_so S)) ∨ (a = N ∧ S 6 6 = 0 ∧ N < 300 ∧ kd_sr S = 1 ∧ ∃ C1, HD b C1 (N + 1) (N + 1) (kd_so S)) ∨ (a = N ∧ ¬ (S 6 6 = 0 ∧ N < 300) ∧ kd_sr S = 0 ∧ kd_so S = S) := by
  obtain ⟨e1, e2, -⟩ := h.an
  unfold kd_sr kd_so kd_sor kd_sos
  rw [e1, e2]
  by_cases h1 : a < N
  · refine Or.inl ⟨h1, by rw [if_pos h1], ?_⟩
    rw [if_pos h1]
    exact h.move (a + 1) (by omega)
  · have hN : a = N := by have := h.1; omega
    subst hN
    rw [if_neg h1, if_neg h1]
    by_cases h6 : S 6 6 = 0
    · by_cases h3 : a < 300
      · refine Or.inr (Or.inl ⟨rfl, h6, h3, by rw [if_pos h6, if_pos h3], ?_⟩)
        rw [if_pos h6, if_pos h3]
        exact h.append h3
      · exact Or.inr (Or.inr ⟨rfl, fun q => h3 q.2, by rw [if_pos h6, if_neg h3], by rw [if_pos h6, if_neg h3]⟩)
    · exact Or.inr (Or.inr ⟨rfl, fun q => h6 q.1, by rw [if_neg h6], by rw [if_neg h6]⟩)
theorem so_o (S : lm_S) (i : Nat) (h1 : i ≠ 1) (h2 : i ≠ 2) (h5 : i ≠ 5) (h6 : i ≠ 6) (h8 : i ≠ 8) (h9 : i ≠ 9) (h10 : i ≠ 10) (h11 : i ≠ 11) (h12 : i ≠ 12) (h13 : i ≠ 13) : (kd_so S) i = S i := by
  unfold kd_so kd_sos
  split
  · exact mv_o _ _ _ _ h2 h5 h6 h13
  · split
    · split
      · unfold kd_app kd_keep kd_app4
        rw [va_up_ne _ _ h11, ls_o _ h2, ls_o _ h2, ls_o _ h13, ls_o _ h12, ls_o _ h13, ls_o _ h12]
        exact fr_step S i h1 h5 h6 h8 h9 h10
      · rfl
    · rfl
/-- the invariant for the desk's run -/
def dJ (b : Nat → Int32) (S : lm_S) : Prop := ∃ C a N, HD b C a N S
theorem dJ_J (b : Nat → Int32) : kd_J (dJ b) := by
  rintro S ⟨C, a, N, h⟩
  refine ⟨h.an.2.2, h.now.ok, ?_⟩
  rcases h.on with ⟨_, _, g⟩ | ⟨_, _, _, _, C1, g⟩ | ⟨_, _, _, g⟩
  · exact ⟨C, _, _, g⟩
  · exact ⟨C1, _, _, g⟩
  · rw [g]
    exact ⟨C, a, N, h⟩
theorem HM.rs {b : Nat → Int32} {a N : Nat} {M : lm_S} (h : HM b a N M) (hN : N < 300 ∨ a < N) (haN : a ≤ N) (h3 : N ≤ 300) : HM b (a + 1) (if a < N then N else a + 1) (km_rs M) := by
  obtain ⟨h17, h18, h2, h3m⟩ := h
  have e18 : (km_rs M) 18 = ns_it (a + 1) b := by
    rw [km_rs_18, (ns_eq M).1, h18, ns_it_s]
  have f2 : (km_step M) 16 2 = nI a := by rw [← h2]; exact (gq_step M).2 2 (by omega) (by omega)
  have f3 : (km_step M) 16 3 = nI N := by rw [← h3m]; exact (gq_step M).2 3 (by omega) (by omega)
  have f17 : (km_step M) 17 = b := by rw [← h17]; exact (gq_step M).1 17 (by omega) (by omega)
  unfold HM
  rw [e18]
  unfold km_rs km_rs2
  generalize km_step M = K at f2 f3 f17
  rw [f2, nI_1, ls_i, ls_n _ _ (by omega), f3]
  by_cases h1 : a < N
  · rw [if_pos (show nI (a + 1) ≤ nI N from nI_le (by omega) (by omega)), if_pos h1]
    exact ⟨by rw [ls_o _ (by omega)]; exact f17, rfl, ls_i _ _ _ _, by rw [ls_n _ _ (by omega)]; exact f3⟩
  · rw [if_neg (show ¬ nI (a + 1) ≤ nI N from nI_ge (by omega) (by omega)), if_neg h1]
    exact ⟨by rw [ls_o _ (by omega), ls_o _ (by omega)]; exact f17, rfl, by rw [ls_n _ _ (by omega), ls_i], ls_i _ _ _ _⟩
/-- RUN: both make the same steps -/
theorem run_sim (b : Nat → Int32) (c : Nat) (hx : Int32 → Int32) : ∀ (m k : Nat) (D M : lm_S) (C : Nat → Nat → Int32) (a N : Nat), HD b C a N D → HM b a N M → (∀ x, kd_has 14 x D = hx x) → (∀ x, km_hs 19 x M c 0 = hx x) → (kd_rn m k D).1 = (km_rn c m k M).1 ∧ ∃ C1 a1 N1, HD b C1 a1 N1 (kd_rn m k D).2 ∧ HM b a1 N1 (km_rn c m k M).2
  | 0, k, D, M, C, a, N, hD, hM, _, _ => ⟨rfl, C, a, N, hD, hM⟩
  | m + 1, k, D, M, C, a, N, hD, hM, h1, h2 => by
    have hnow := hD.now
    have e5 : D 6 5 = M 18 517 := by rw [hM.2.1]; exact hnow.2.1 5 (by omega)
    have e6 : D 6 6 = M 18 518 := by rw [hM.2.1]; exact hnow.2.1 6 (by omega)
    have haN := hD.1
    have hN3 := hD.2.1
    rw [kd_rn, km_rn]
    by_cases hs : 0 < k ∧ ¬ kd_has 14 (D 6 5) D = 0
    · have hn : ¬ (km_m1 c k M ∧ km_m2 M) := by
        rintro ⟨q | q, _⟩
        · omega
        · rw [h2, ← h1, ← e5] at q
          exact hs.2 q
      rw [if_pos hs, if_neg hn]
      exact ⟨rfl, C, a, N, hD, hM⟩
    · rw [if_neg hs]
      have hm1 : km_m1 c k M := by
        by_cases hk : k = 0
        · exact Or.inl hk
        · refine Or.inr ?_
          rw [h2, ← h1, ← e5]
          exact Classical.byContradiction (fun q => hs ⟨by omega, q⟩)
      have l1 : ∀ S1, S1 14 = D 14 → ∀ x, kd_has 14 x S1 = hx x := fun S1 e x => by rw [has_c e]; exact h1 x
      have l2 : ∀ x, km_hs 19 x (km_rs M) c 0 = hx x := fun x => by
        rw [hs_c (S := M)]
        · exact h2 x
        · unfold km_rs km_rs2
          have g := (gq_step M).1 19 (by omega) (by omega)
          split
          · rw [ls_o _ (by omega)]; exact g
          · rw [ls_o _ (by omega), ls_o _ (by omega)]; exact g
      have so14 : (kd_so D) 14 = D 14 := so_o D 14 (by omega) (by omega) (by omega) (by omega) (by omega) (by omega) (by omega) (by omega) (by omega) (by omega)
      rcases hD.on with ⟨q1, q2, q3⟩ | ⟨q1, q2, q3, q4, C1, q5⟩ | ⟨q1, q2, q3, q4⟩
      · have hm2 : km_m2 M := Or.inl (by rw [hM.2.2.1, hM.2.2.2]; exact nI_lt q1 (by omega))
        rw [if_neg (by rw [q2]; decide), if_pos ⟨hm1, hm2⟩]
        have g := hM.rs (Or.inr q1) haN hN3
        rw [if_pos q1] at g
        exact run_sim b c hx m (k + 1) _ _ C (a + 1) N q3 g (l1 _ so14) l2
      · subst q1
        have hm2 : km_m2 M := Or.inr ⟨by rw [← e6]; exact q2, by rw [hM.2.2.2]; exact nI_ge (b := 300) q3 (by omega)⟩
        rw [if_neg (by rw [q4]; decide), if_pos ⟨hm1, hm2⟩]
        have g := hM.rs (Or.inl q3) haN hN3
        rw [if_neg (by omega)] at g
        exact run_sim b c hx m (k + 1) _ _ C1 (a + 1) (a + 1) q5 g (l1 _ so14) l2
      · subst q1
        have hm2 : ¬ km_m2 M := by
          rintro (z | ⟨z1, z2⟩)
          · rw [hM.2.2.1, hM.2.2.2] at z
            exact absurd ((nI_ltI (by omega) (by omega)).mp z) (by omega)
          · rw [hM.2.2.2] at z2
            refine q2 ⟨by rw [e6]; exact z1, ?_⟩
            rcases Nat.lt_or_ge a 300 with y | y
            · exact y
            · exact absurd (nI_le (a := 300) y (by omega)) z2
        rw [if_pos q3, if_neg (fun z => hm2 z.2), q4]
        exact ⟨rfl, C, a, a, hD, hM⟩
