/-! the two seeks; wrote -/
theorem kd_has_m1 (m : Nat) (S : lm_S) : kd_has m (-1) S = 0 := by
  unfold kd_has
  rw [if_pos isA_m]
/-- moment t is met -/
def mt (b : Nat → Int32) (hx hy : Int32 → Int32) (t : Nat) : Prop := ¬ hx (ns_it t b 517) = 0 ∨ (¬ ns_w (ns_it t b) < 0 ∧ ¬ hy (ns_w (ns_it t b)) = 0) ∨ (¬ ns_b (ns_it t b) < 0 ∧ ¬ hy (ns_b (ns_it t b)) = 0)
theorem HD.ctr {b : Nat → Int32} {C : Nat → Nat → Int32} {a N : Nat} {S : lm_S} (h : HD b C a N S) (t : Nat) (ht : t ≤ N) : kd_ctr (nI t) S = ns_it t b 517 := by
  obtain ⟨h1, h2, h3, h4, h5, h6, h7, h8, h9⟩ := h
  unfold kd_ctr
  rw [if_neg (nI_pos (by omega)), h4, if_pos (nI_le ht (by omega)), show nI t * 9 + 5 = nI (t * 9 + 5) from by rw [show nI t * 9 = nI (t * 9) from pk_mul t 9, show (5 : Int32) = nI 5 from rfl, nI_add], nI_clamp (by omega)]
  have g := (h7 t ht).1.2.1 5 (by omega)
  rw [dT_6] at g
  exact g
theorem HD.pw {b : Nat → Int32} {C : Nat → Nat → Int32} {a N : Nat} {S : lm_S} (h : HD b C a N S) (t : Nat) (ht : t < N) (k : Nat) (hk : k < 2) : kd_pw2 (nI t) (nI k) S = S 12 (2 * t + k) := by
  obtain ⟨h1, h2, h3, h4, h5, h6, h7, h8, h9⟩ := h
  unfold kd_pw2
  rw [if_neg (nI_pos (by omega)), h4, if_pos (nI_lt ht (by omega)), nI_m2, nI_add, nI_clamp (by omega)]
theorem nI_pl {p : Nat} (h : p < 512) : ¬ nI p < 0 := nI_pos (by omega)
theorem HD.met {b : Nat → Int32} {C : Nat → Nat → Int32} {a N : Nat} {S : lm_S} (h : HD b C a N S) {hx hy : Int32 → Int32} (h1 : ∀ x, kd_has 14 x S = hx x) (h2 : ∀ x, kd_has 15 x S = hy x) (t : Nat) (ht : t < N) : ¬ kd_met (nI t) S = 0 ↔ mt b hx hy t := by
  have c := h.ctr t (by omega)
  have p0 := h.pw t ht 0 (by omega)
  have p1 := h.pw t ht 1 (by omega)
  have hy1 : hy (-1) = 0 := by rw [← h2]; exact kd_has_m1 15 S
  have hw := h.2.2.2.2.2.2.2.1 t ht
  unfold kd_met mt
  rw [c, h1, h2, h2, show (0 : Int32) = nI 0 from rfl] at *
  rw [show kd_pw2 (nI t) 1 S = S 12 (2 * t + 1) from p1, p0, Nat.add_zero]
  unfold hP at hw
  generalize ns_it t b = n at hw ⊢
  generalize ns_w n = w at hw ⊢
  generalize ns_b n = wb at hw ⊢
  have m1 : (-1 : Int32) < nI 0 := by decide
  rcases hw with ⟨a1, a2, a3, a4⟩ | ⟨p, hp, a1, a2, a3, a4⟩ | ⟨p, q, hp, hq, a1, a2, a3, a4⟩
  · rw [a1, a2, a3, a4, hy1]
    by_cases z : hx (n 517) = nI 0
    · rw [if_pos z, if_pos rfl, if_pos rfl]
      exact ⟨fun q => absurd rfl q, fun q => by
        rcases q with q | q | q
        · exact absurd z q
        · exact absurd m1 q.1
        · exact absurd m1 q.1⟩
    · rw [if_neg z]
      exact ⟨fun _ => Or.inl z, fun _ => by decide⟩
  · rw [a1, a2, a3, a4, hy1]
    by_cases z : hx (n 517) = nI 0
    · rw [if_pos z, if_pos (c := nI 0 = nI 0) rfl]
      by_cases z2 : hy (nI p) = nI 0
      · rw [if_pos z2]
        exact ⟨fun q => absurd rfl q, fun q => by
          rcases q with q | q | q
          · exact absurd z q
          · exact absurd z2 q.2
          · exact absurd m1 q.1⟩
      · rw [if_neg z2]
        exact ⟨fun _ => Or.inr (Or.inl ⟨nI_pl hp, z2⟩), fun _ => by decide⟩
    · rw [if_neg z]
      exact ⟨fun _ => Or.inl z, fun _ => by decide⟩
  · rw [a1, a2, a3, a4]
    by_cases z : hx (n 517) = nI 0
    · rw [if_pos z]
      by_cases z2 : hy (nI p) = nI 0
      · rw [if_pos z2]
        by_cases z3 : hy (nI q) = nI 0
        · rw [if_pos z3]
          exact ⟨fun q => absurd rfl q, fun q => by
            rcases q with q | q | q
            · exact absurd z q
            · exact absurd z3 q.2
            · exact absurd z2 q.2⟩
        · rw [if_neg z3]
          exact ⟨fun _ => Or.inr (Or.inl ⟨nI_pl hq, z3⟩), fun _ => by decide⟩
      · rw [if_neg z2]
        exact ⟨fun _ => Or.inr (Or.inr ⟨nI_pl hp, z2⟩), fun _ => by decide⟩
    · rw [if_neg z]
      exact ⟨fun _ => Or.inl z, fun _ => by decide⟩
noncomputable def bst (P : Nat → Prop) : Nat → Option Nat
  | 0 => none
  | j + 1 => @ite _ (P j) (Classical.propDecidable _) (some j) (bst P j)
theorem bst_lt (P : Nat → Prop) : ∀ (j t : Nat), bst P j = some t → t < j
  | 0, t, h => by cases h
  | j + 1, t, h => by
    rw [bst] at h
    by_cases q : P j
    · rw [if_pos q] at h
      cases h
      omega
    · rw [if_neg q] at h
      have := bst_lt P j t h
      omega
theorem HD.sk {b : Nat → Int32} {C : Nat → Nat → Int32} {a N : Nat} {S : lm_S} (h : HD b C a N S) {hx hy : Int32 → Int32} (h1 : ∀ x, kd_has 14 x S = hx x) (h2 : ∀ x, kd_has 15 x S = hy x) : ∀ j, j ≤ N → kd_sk S j = bst (mt b hx hy) j
  | 0, _ => rfl
  | j + 1, hj => by
    rw [kd_sk, bst]
    have g := h.met h1 h2 j (by omega)
    by_cases q : mt b hx hy j
    · rw [if_pos q, if_neg (g.mpr q)]
    · rw [if_neg q, if_pos (Classical.byContradiction (fun z => q (g.mp z)))]
      exact h.sk h1 h2 j (by omega)
theorem km_mt_iff {b : Nat → Int32} {c d t : Nat} {S : lm_S} (h18 : S 18 = ns_it t b) {hx hy : Int32 → Int32} (h1 : ∀ x, km_hs 19 x S c 0 = hx x) (h2 : ∀ x, km_hs 20 x S d 0 = hy x) : km_mt c d S (km_step S) ↔ mt b hx hy t := by
  obtain ⟨k1, k2, k3⟩ := ns_eq S
  have k20 : ∀ x, km_hs 20 x (km_step S) d 0 = hy x := fun x => by rw [hs_c ((gq_step S).1 20 (by omega) (by omega))]; exact h2 x
  unfold km_mt mt
  rw [k20, k20, k2, k3, h1, h18]
theorem sl_sim (b : Nat → Int32) (c d : Nat) {hx hy : Int32 → Int32} : ∀ (m t : Nat) (S : lm_S), S 18 = ns_it t b → (∀ x, km_hs 19 x S c 0 = hx x) → (∀ x, km_hs 20 x S d 0 = hy x) → (km_sl c d m t (bst (mt b hx hy) t) S).1 = bst (mt b hx hy) (t + m) ∧ km_fr (km_sl c d m t (bst (mt b hx hy) t) S).2 S
  | 0, t, S, _, _, _ => ⟨rfl, km_fr.rf S⟩
  | m + 1, t, S, h18, h1, h2 => by
    have g := km_mt_iff (c := c) (d := d) h18 h1 h2
    have e18 : (km_step S) 18 = ns_it (t + 1) b := by rw [(ns_eq S).1, h18, ns_it_s]
    have k1 : ∀ x, km_hs 19 x (km_step S) c 0 = hx x := fun x => by rw [hs_c ((gq_step S).1 19 (by omega) (by omega))]; exact h1 x
    have k2 : ∀ x, km_hs 20 x (km_step S) d 0 = hy x := fun x => by rw [hs_c ((gq_step S).1 20 (by omega) (by omega))]; exact h2 x
    have ih := sl_sim b c d m (t + 1) (km_step S) e18 k1 k2
    rw [show t + (m + 1) = t + 1 + m by omega, km_sl]
    by_cases q : mt b hx hy t
    · have e : bst (mt b hx hy) (t + 1) = some t := by rw [bst, if_pos q]
      rw [e] at ih
      rw [if_pos (g.mpr q)]
      exact ⟨ih.1, ih.2.tr (gq_step S)⟩
    · have e : bst (mt b hx hy) (t + 1) = bst (mt b hx hy) t := by rw [bst, if_neg q]
      rw [e] at ih
      rw [if_neg (fun z => q (g.mp z))]
      exact ⟨ih.1, ih.2.tr (gq_step S)⟩
/-- the reference comes to moment t -/
theorem come_M {b : Nat → Int32} {N : Nat} {M : lm_S} (h17 : M 17 = b) (h3 : M 16 3 = nI N) (t : Nat) : HM b t N (km_come t M) := by
  refine ⟨by rw [km_come_17]; exact h17, ?_, ?_, by rw [km_come_16 t 3 M (by omega) (by omega) (by omega)]; exact h3⟩
  · unfold km_come
    rw [ls_o _ (by omega), km_it_18]
    unfold km_back
    rw [va_up_self, h17]
  · unfold km_come
    rw [ls_i]
theorem come_o (t : Nat) (M : lm_S) (i : Nat) (h16 : i ≠ 16) (h18 : i ≠ 18) : (km_come t M) i = M i := by
  unfold km_come
  rw [ls_o _ h16, (km_it_fr t (km_back M)).1 i h16 h18]
  unfold km_back
  rw [va_up_ne _ _ h18]
/-- SEEK: both find the same moment and come there -/
theorem seek_sim {b : Nat → Int32} {C : Nat → Nat → Int32} {a N c d : Nat} {D M : lm_S} (hD : HD b C a N D) (hM : HM b a N M) {hx hy : Int32 → Int32} (h1 : ∀ x, kd_has 14 x D = hx x) (h2 : ∀ x, kd_has 15 x D = hy x) (k1 : ∀ x, km_hs 19 x M c 0 = hx x) (k2 : ∀ x, km_hs 20 x M d 0 = hy x) :
    (km_skp c d a M).1 = kd_sk D a ∧ km_fr (km_skp c d a M).2 (km_come 0 M) ∧ HD b C (km_of a (kd_sk D a)) N (kd_sks a D (kd_sk D a)) ∧ HM b (km_of a (kd_sk D a)) N (km_come (km_of a (kd_sk D a)) (km_skp c d a M).2) := by
  have e18 : (km_come 0 M) 18 = ns_it 0 b := (come_M hM.1 hM.2.2.2 0).2.1
  have j1 : ∀ x, km_hs 19 x (km_come 0 M) c 0 = hx x := fun x => by rw [hs_c (come_o 0 M 19 (by omega) (by omega))]; exact k1 x
  have j2 : ∀ x, km_hs 20 x (km_come 0 M) d 0 = hy x := fun x => by rw [hs_c (come_o 0 M 20 (by omega) (by omega))]; exact k2 x
  have g := sl_sim b c d a 0 (km_come 0 M) e18 j1 j2
  rw [Nat.zero_add] at g
  have es := hD.sk h1 h2 a hD.1
  have g1 : (km_skp c d a M).1 = kd_sk D a := by rw [es]; exact g.1
  have g2 : km_fr (km_skp c d a M).2 (km_come 0 M) := g.2
  refine ⟨g1, g2, ?_, ?_⟩
  · cases hk : kd_sk D a with
    | none => exact hD
    | some t =>
      have ht : t < a := by
        rw [es] at hk
        exact bst_lt _ a t hk
      exact hD.move t (by have := hD.1; omega)
  · refine come_M ?_ ?_ _
    · rw [g2.1 17 (by omega) (by omega), km_come_17]
      exact hM.1
    · rw [g2.2 3 (by omega) (by omega), km_come_16 0 3 M (by omega) (by omega) (by omega)]
      exact hM.2.2.2
/-- WROTE -/
theorem wrote_sim {b : Nat → Int32} {C : Nat → Nat → Int32} {a N : Nat} {D M : lm_S} (hD : HD b C a N D) (hM : HM b a N M) (t : Int32) : kd_lpw t D = km_wrr t M := by
  have h4 := hD.2.2.2.1
  have hN := hD.2.1
  unfold km_wrr
  rw [hM.2.2.2]
  by_cases hz : km_within t (nI N - 1) = 0
  · rw [if_pos hz]
    have hq : t < 0 ∨ ¬ t < D 2 4 := by
      refine Classical.byContradiction (fun q => ?_)
      have q1 : ¬ t < 0 := fun z => q (Or.inl z)
      have q2 : t < D 2 4 := Classical.byContradiction (fun z => q (Or.inr z))
      obtain ⟨j, hj, rfl⟩ := nI_of q1
      rw [h4, nI_ltI hj (by omega)] at q2
      unfold km_within at hz
      rw [if_neg q1, show nI N - 1 = nI (N - 1) from nI_p1m N (by omega), if_neg (nI_nlt (by omega) (by omega))] at hz
      exact absurd hz (by decide)
    have e : ∀ k, kd_pw2 t k D = -1 := by
      intro k
      unfold kd_pw2
      rcases hq with q | q
      · rw [if_pos q]
      · by_cases z : t < 0
        · rw [if_pos z]
        · rw [if_neg z, if_neg q]
    unfold kd_lpw
    rw [e, e, if_pos rfl]
  · rw [if_neg hz]
    obtain ⟨j, hj, rfl⟩ := km_wr_in hN hz
    rw [nI_clamp (by omega)]
    have e8 : (km_come (j + 1) M) 16 8 = ns_w (ns_it j b) := by
      unfold km_come
      rw [ls_n _ _ (by omega), km_it_s, (ns_eq _).2.1, km_it_18]
      unfold km_back
      rw [va_up_self, hM.1]
    rw [e8]
    have p0 := hD.pw j (by omega) 0 (by omega)
    have p1 := hD.pw j (by omega) 1 (by omega)
    rw [Nat.add_zero] at p0
    unfold kd_lpw
    rw [show kd_pw2 (nI j) 1 D = D 12 (2 * j + 1) from p1, show kd_pw2 (nI j) 0 D = D 12 (2 * j) from p0]
    rcases hD.2.2.2.2.2.2.2.1 j (by omega) with ⟨a1, a2, a3, a4⟩ | ⟨p, hp, a1, a2, a3, a4⟩ | ⟨p, q, hp, hq, a1, a2, a3, a4⟩
    · rw [a1, a2, a3, if_pos rfl]
    · rw [a1, a2, a3, if_pos rfl]
    · rw [a1, a2, a3, if_neg (nI_nm1 hq)]
