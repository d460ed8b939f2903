/-! stop and watch -/
def mq (c : Nat) (L G : Nat → Int32) : Prop := c ≤ 4 ∧ (∀ k, k < c → ∃ p : Nat, p < 512 ∧ L k = nI p) ∧ (∀ i j, i < c → j < c → L i = L j → i = j) ∧ ∀ p : Nat, p < 512 → (G p = 1 ∧ ∃ k, k < c ∧ L k = nI p) ∨ (G p = 0 ∧ ∀ k, k < c → ¬ L k = nI p)
theorem mk.q {l f m s c : Nat} {S : lm_S} (h : mk l f m s c S) : mq c (S l) (S m) := ⟨h.1, h.2.2.2⟩
theorem mq.mk {l f m s c : Nat} {S : lm_S} (h : mq c (S l) (S m)) (h2 : S 16 f = nI c) (h3 : S s 1 = nI c) : mk l f m s c S := ⟨h.1, h2, h3, h.2⟩
theorem mq.onn {c p : Nat} {L G : Nat → Int32} (h : mq c L G) (h4 : c < 4) (hp : p < 512) (h0 : G p = 0) : mq (c + 1) (upd L c (nI p)) (upd G p 1) := by
  obtain ⟨q1, q2, q3, q4⟩ := h
  have hno : ∀ k, k < c → ¬ L k = nI p := by
    rcases q4 p hp with ⟨a, _⟩ | ⟨_, b⟩
    · rw [h0] at a
      exact absurd a (by decide)
    · exact b
  have eC : upd L c (nI p) c = nI p := pk_us
  have eO : ∀ k, k < c → upd L c (nI p) k = L k := fun k hk => pk_un (by omega)
  refine ⟨by omega, fun k hk => ?_, fun i j hi hj e => ?_, fun r hr => ?_⟩
  · by_cases z : k = c
    · subst z
      exact ⟨p, hp, eC⟩
    · rw [eO k (by omega)]
      exact q2 k (by omega)
  · by_cases zi : i = c
    · subst zi
      by_cases zj : j = i
      · exact zj.symm
      · rw [eC, eO j (by omega)] at e
        exact absurd e.symm (hno j (by omega))
    · by_cases zj : j = c
      · subst zj
        rw [eC, eO i (by omega)] at e
        exact absurd e (hno i (by omega))
      · rw [eO i (by omega), eO j (by omega)] at e
        exact q3 i j (by omega) (by omega) e
  · by_cases z : r = p
    · subst z
      exact Or.inl ⟨pk_us, c, by omega, eC⟩
    · rw [pk_un z]
      rcases q4 r hr with ⟨a, k, hk, e⟩ | ⟨a, n⟩
      · exact Or.inl ⟨a, k, by omega, by rw [eO k hk]; exact e⟩
      · refine Or.inr ⟨a, fun k hk => ?_⟩
        by_cases y : k = c
        · subst y
          rw [eC]
          exact fun w => z ((nI_eq (by omega) (by omega)).mp w).symm
        · rw [eO k (by omega)]
          exact n k (by omega)
theorem mq.off {c p i0 : Nat} {L L1 G : Nat → Int32} (h : mq c L G) (hp : p < 512) (hi : i0 < c) (e0 : L i0 = nI p) (hL : ∀ j, j < c - 1 → L1 j = L (if j < i0 then j else j + 1)) : mq (c - 1) L1 (upd G p 0) := by
  obtain ⟨q1, q2, q3, q4⟩ := h
  have lt : ∀ j, j < c - 1 → (if j < i0 then j else j + 1) < c := fun j hj => by split <;> omega
  refine ⟨by omega, fun k hk => ?_, fun i j hi hj e => ?_, fun r hr => ?_⟩
  · rw [hL k hk]
    exact q2 _ (lt k hk)
  · rw [hL i hi, hL j hj] at e
    have g := q3 _ _ (lt i hi) (lt j hj) e
    split at g <;> split at g <;> omega
  · by_cases z : r = p
    · subst z
      refine Or.inr ⟨pk_us, fun k hk y => ?_⟩
      rw [hL k hk, ← e0] at y
      have g := q3 _ _ (lt k hk) hi y
      split at g <;> omega
    · rw [pk_un z]
      rcases q4 r hr with ⟨a, k, hk, e⟩ | ⟨a, n⟩
      · refine Or.inl ⟨a, ?_⟩
        have hne : k ≠ i0 := fun y => by
          subst y
          rw [e0] at e
          exact z ((nI_eq (by omega) (by omega)).mp e).symm
        by_cases y : k < i0
        · exact ⟨k, by omega, by rw [hL k (by omega), if_pos y]; exact e⟩
        · exact ⟨k - 1, by omega, by rw [hL (k - 1) (by omega), if_neg (by omega), show k - 1 + 1 = k by omega]; exact e⟩
      · refine Or.inr ⟨a, fun k hk => ?_⟩
        rw [hL k hk]
        exact n _ (lt k hk)
/-- the reference closes up its list -/
theorem cpt_2 (l : Nat) (a : Int32) : ∀ (m n : Nat) (S : lm_S), (∀ j, n + 1 ≤ j → j < n + 1 + m → ¬ S l j = a) → (km_cpt l a m (n + 1) n S).1 = n + m ∧ (∀ i, i ≠ l → (km_cpt l a m (n + 1) n S).2 i = S i) ∧ ∀ j, (km_cpt l a m (n + 1) n S).2 l j = if n ≤ j ∧ j < n + m then S l (j + 1) else S l j
  | 0, n, S, _ => ⟨rfl, fun _ _ => rfl, fun j => by rw [if_neg (by omega)]; rfl⟩
  | m + 1, n, S, h => by
    rw [km_cpt, if_neg (h (n + 1) (by omega) (by omega))]
    obtain ⟨g1, g2, g3⟩ := cpt_2 l a m (n + 1) (lm_set S l n (S l (n + 1))) (fun j h1 h2 => by rw [ls_n _ _ (by omega)]; exact h j (by omega) (by omega))
    refine ⟨by rw [g1]; omega, fun i hi => by rw [g2 i hi, ls_o _ hi], fun j => ?_⟩
    rw [g3]
    by_cases h1 : j = n
    · subst h1
      rw [if_neg (by omega), if_pos (by omega), ls_i]
    · by_cases h2 : n + 1 ≤ j ∧ j < n + 1 + m
      · rw [if_pos h2, if_pos (by omega), ls_n _ _ (by omega)]
      · rw [if_neg h2, if_neg (by omega), ls_n _ _ h1]
theorem cpt_1 (l : Nat) (a : Int32) (S : lm_S) (r : Nat) : ∀ (m k : Nat), (∀ j, k ≤ j → j < k + m → ¬ S l j = a) → km_cpt l a (m + r) k k S = km_cpt l a r (k + m) (k + m) S
  | 0, k, _ => by rw [Nat.zero_add, Nat.add_zero]
  | m + 1, k, h => by
    rw [show m + 1 + r = (m + r) + 1 by omega, km_cpt, if_neg (h k (by omega) (by omega)), ls_id S l k _ rfl, cpt_1 l a S r m (k + 1) (fun j h1 h2 => h j (by omega) (by omega)), show k + 1 + m = k + (m + 1) by omega]
theorem cpt_0 {l c i0 : Nat} {a : Int32} {S : lm_S} (hi : i0 < c) (e0 : S l i0 = a) (hd : ∀ j, j < c → S l j = a → j = i0) : (km_cpt l a c 0 0 S).1 = c - 1 ∧ (∀ i, i ≠ l → (km_cpt l a c 0 0 S).2 i = S i) ∧ ∀ j, j < c - 1 → (km_cpt l a c 0 0 S).2 l j = S l (if j < i0 then j else j + 1) := by
  have e : km_cpt l a c 0 0 S = km_cpt l a (c - 1 - i0) (i0 + 1) i0 S := by
    have g := cpt_1 l a S (c - i0) i0 0 (fun j h1 h2 z => by have := hd j (by omega) z; omega)
    rw [show i0 + (c - i0) = c by omega, Nat.zero_add] at g
    rw [g, show c - i0 = (c - 1 - i0) + 1 by omega, km_cpt, if_pos e0]
  rw [e]
  obtain ⟨g1, g2, g3⟩ := cpt_2 l a (c - 1 - i0) i0 S (fun j h1 h2 z => by have := hd j (by omega) z; omega)
  refine ⟨by rw [g1]; omega, g2, fun j hj => ?_⟩
  rw [g3]
  by_cases y : j < i0
  · rw [if_neg (by omega), if_pos y]
  · rw [if_pos (by omega), if_neg y]
theorem turn_sim {l f m s c : Nat} (hc : (l = 19 ∧ f = 6 ∧ m = 14 ∧ s = 3) ∨ (l = 20 ∧ f = 7 ∧ m = 15 ∧ s = 4)) {S : lm_S} (h : mk l f m s c S) (a on : Int32) (h01 : on = 0 ∨ on = 1) :
    kd_chr s m a on S = km_tsr (km_tur l c a on (kd_chs s m a on S)) ∧ (∃ c1, mk l f m s c1 (km_tss f (km_tur l c a on (kd_chs s m a on S)) (kd_chs s m a on S))) ∧ (∀ i, i ≠ s → i ≠ m → (kd_chs s m a on S) i = S i) ∧ (∀ i, i ≠ l → i ≠ 16 → (km_tss f (km_tur l c a on (kd_chs s m a on S)) (kd_chs s m a on S)) i = (kd_chs s m a on S) i) ∧ ∀ k, k ≠ f → (km_tss f (km_tur l c a on (kd_chs s m a on S)) (kd_chs s m a on S)) 16 k = (kd_chs s m a on S) 16 k := by
  have hh := h.has a
  have hq := h.q
  have hf := h.2.1
  have hs := h.2.2.1
  have hc4 := h.1
  have none : ∀ (D : lm_S), D = S → kd_chr s m a on S = 0 → km_tur l c a on D = none → kd_chr s m a on S = km_tsr (km_tur l c a on D) ∧ (∃ c1, mk l f m s c1 (km_tss f (km_tur l c a on D) D)) ∧ (∀ i, i ≠ s → i ≠ m → D i = S i) ∧ (∀ i, i ≠ l → i ≠ 16 → (km_tss f (km_tur l c a on D) D) i = D i) ∧ ∀ k, k ≠ f → (km_tss f (km_tur l c a on D) D) 16 k = D 16 k := by
    intro D e1 e2 e3
    rw [e3, e2, e1]
    exact ⟨rfl, ⟨c, h⟩, fun _ _ _ => rfl, fun _ _ _ => rfl, fun _ _ => rfl⟩
  by_cases hA : kd_isA a = 0
  · refine none _ ?_ ?_ ?_
    · unfold kd_chs; rw [if_pos hA]
    · unfold kd_chr; rw [if_pos hA]
    · unfold km_tur; rw [← isA_w, if_pos hA]
  · have hA2 := hA
    obtain ⟨p, hp, rfl⟩ := isA_of hA
    have hG : S m p = km_hs l (nI p) S c 0 := by
      rw [← hh]
      unfold kd_has
      rw [if_neg hA2, nI_clamp (by omega)]
      rcases hq.2.2.2 p hp with ⟨y, _⟩ | ⟨y, _⟩ <;> rw [y] <;> rfl
    by_cases hE : S m p = on
    · refine none _ ?_ ?_ ?_
      · unfold kd_chs; rw [if_neg hA2, nI_clamp (by omega), if_pos hE]
      · unfold kd_chr; rw [if_neg hA2, nI_clamp (by omega), if_pos hE]
      · have eD : kd_chs s m (nI p) on S = S := by unfold kd_chs; rw [if_neg hA2, nI_clamp (by omega), if_pos hE]
        rw [eD]
        unfold km_tur
        rw [← isA_w, if_neg hA2, ← hG, if_pos hE]
    · rcases h01 with rfl | rfl
      · -- off
        obtain ⟨_, i0, hi, e0⟩ : S m p = 1 ∧ ∃ k, k < c ∧ S l k = nI p := by
          rcases hq.2.2.2 p hp with y | ⟨y, _⟩
          · exact y
          · exact absurd y hE
        have eR : kd_chr s m (nI p) 0 S = 1 := by unfold kd_chr; rw [if_neg hA2, nI_clamp (by omega), if_neg hE, if_pos rfl]
        have eD : kd_chs s m (nI p) 0 S = lm_set (lm_set S m p 0) s 1 (nI (c - 1)) := by
          unfold kd_chs
          rw [if_neg hA2, nI_clamp (by omega), if_neg hE, if_pos rfl, hs, show c = (c - 1) + 1 by omega, pk_m1, show (0 : Int32) &&& 1 = 0 from by decide]
          rfl
        rw [eD, eR]
        have oD : ∀ i, i ≠ s → i ≠ m → (lm_set (lm_set S m p 0) s 1 (nI (c - 1))) i = S i := fun i h1 h2 => by rw [ls_o _ h1, ls_o _ h2]
        have dm : (lm_set (lm_set S m p 0) s 1 (nI (c - 1))) m = upd (S m) p 0 := by
          rw [ls_o _ (by omega)]
          exact va_up_self _ _ _
        have ds : (lm_set (lm_set S m p 0) s 1 (nI (c - 1))) s 1 = nI (c - 1) := ls_i _ _ _ _
        generalize lm_set (lm_set S m p 0) s 1 (nI (c - 1)) = D at oD dm ds
        have eT : km_tur l c (nI p) 0 D = some (km_cpt l (nI p) c 0 0 D) := by
          unfold km_tur
          rw [← isA_w, if_neg hA2, hs_c (oD l (by omega) (by omega)), ← hG, if_neg hE, if_pos rfl]
        have el : D l = S l := oD l (by omega) (by omega)
        obtain ⟨g1, g2, g3⟩ := cpt_0 (l := l) (c := c) (i0 := i0) (a := nI p) (S := D) hi (by rw [el]; exact e0) (fun j hj y => by rw [el, ← e0] at y; exact hq.2.2.1 j i0 hj hi y)
        rw [eT]
        refine ⟨rfl, ⟨c - 1, ?_⟩, oD, fun i h1 h2 => ?_, fun k hk => ?_⟩
        · show mk l f m s (c - 1) (lm_set (km_cpt l (nI p) c 0 0 D).2 16 f (nI (km_cpt l (nI p) c 0 0 D).1))
          rw [g1]
          refine mq.mk ?_ (ls_i _ _ _ _) ?_
          · rw [ls_o _ (by omega), ls_o _ (by omega), g2 m (by omega), dm]
            refine hq.off hp hi e0 (fun j hj => ?_)
            rw [g3 j hj, el]
          · rw [ls_o _ (by omega), g2 s (by omega)]
            exact ds
        · show (lm_set (km_cpt l (nI p) c 0 0 D).2 16 f _) i = D i
          rw [ls_o _ h2]
          exact g2 i h1
        · show (lm_set (km_cpt l (nI p) c 0 0 D).2 16 f _) 16 k = D 16 k
          rw [ls_n _ _ hk, g2 16 (by omega)]
      · -- on
        have e0 : S m p = 0 := by
          rcases hq.2.2.2 p hp with ⟨y, _⟩ | ⟨y, _⟩
          · exact absurd y hE
          · exact y
        by_cases h4 : c < 4
        · have hl4 : S s 1 < 4 := by rw [hs]; exact nI_lt (b := 4) h4 (by omega)
          have eR : kd_chr s m (nI p) 1 S = 1 := by unfold kd_chr; rw [if_neg hA2, nI_clamp (by omega), if_neg hE, if_neg (by decide), if_pos hl4]
          have eD : kd_chs s m (nI p) 1 S = lm_set (lm_set S m p 1) s 1 (nI (c + 1)) := by
            unfold kd_chs
            rw [if_neg hA2, nI_clamp (by omega), if_neg hE, if_neg (by decide), if_pos hl4, hs, nI_1, show (1 : Int32) &&& 1 = 1 from by decide]
          rw [eD, eR]
          have oD : ∀ i, i ≠ s → i ≠ m → (lm_set (lm_set S m p 1) s 1 (nI (c + 1))) i = S i := fun i h1 h2 => by rw [ls_o _ h1, ls_o _ h2]
          have dm : (lm_set (lm_set S m p 1) s 1 (nI (c + 1))) m = upd (S m) p 1 := by
            rw [ls_o _ (by omega)]
            exact va_up_self _ _ _
          have ds : (lm_set (lm_set S m p 1) s 1 (nI (c + 1))) s 1 = nI (c + 1) := ls_i _ _ _ _
          generalize lm_set (lm_set S m p 1) s 1 (nI (c + 1)) = D at oD dm ds
          have eT : km_tur l c (nI p) 1 D = some (c + 1, lm_set D l c (nI p)) := by
            unfold km_tur
            rw [← isA_w, if_neg hA2, hs_c (oD l (by omega) (by omega)), ← hG, if_neg hE, if_neg (by decide), if_neg (by omega)]
          have el : D l = S l := oD l (by omega) (by omega)
          rw [eT]
          refine ⟨rfl, ⟨c + 1, ?_⟩, oD, fun i h1 h2 => ?_, fun k hk => ?_⟩
          · show mk l f m s (c + 1) (lm_set (lm_set D l c (nI p)) 16 f (nI (c + 1)))
            refine mq.mk ?_ (ls_i _ _ _ _) ?_
            · rw [ls_o (j := l) _ (by omega), ls_o (j := m) _ (by omega), ls_o (j := m) _ (by omega), dm]
              have e : (lm_set D l c (nI p)) l = upd (S l) c (nI p) := by
                rw [← el]
                exact va_up_self _ _ _
              rw [e]
              exact hq.onn h4 hp e0
            · rw [ls_o _ (by omega), ls_o _ (by omega)]
              exact ds
          · show (lm_set (lm_set D l c (nI p)) 16 f _) i = D i
            rw [ls_o _ h2, ls_o _ h1]
          · show (lm_set (lm_set D l c (nI p)) 16 f _) 16 k = D 16 k
            rw [ls_n _ _ hk, ls_o _ (by omega)]
        · have hl4 : ¬ S s 1 < 4 := by rw [hs]; exact nI_nlt (b := 4) (by omega) (by omega)
          have eD : kd_chs s m (nI p) 1 S = S := by unfold kd_chs; rw [if_neg hA2, nI_clamp (by omega), if_neg hE, if_neg (by decide), if_neg hl4]
          refine none _ eD ?_ ?_
          · unfold kd_chr; rw [if_neg hA2, nI_clamp (by omega), if_neg hE, if_neg (by decide), if_neg hl4]
          · rw [eD]
            unfold km_tur
            rw [← isA_w, if_neg hA2, ← hG, if_neg hE, if_neg (by decide), if_pos (by omega)]
theorem jc_stop {q : Nat} {S : lm_S} (h : IV q S) (a on : Int32) (h01 : on = 0 ∨ on = 1) : jc s_D_stop s_R_stop [.ref 0, .int a, .int on] [.ref 16, .int a, .int on] q S := by
  obtain ⟨b, C, m, N, c, d, dr, hD, hM, h3, h4, h5, h6⟩ := h
  obtain ⟨g1, ⟨c1, g2⟩, oD, o1, o2⟩ := turn_sim (Or.inl ⟨rfl, rfl, rfl, rfl⟩) h3 a on h01
  refine ⟨kd_chr 3 14 a on S, kd_chs 3 14 a on S, km_tss 6 (km_tur 19 c a on (kd_chs 3 14 a on S)) (kd_chs 3 14 a on S), fun post p => ⟨a, on, rfl, p⟩, fun post p => ⟨a, on, c, rfl, h3.1, by rw [oD 16 (by omega) (by omega)]; exact h3.2.1, by rw [← g1]; exact p⟩, ?_, fun i hi => oD i (by omega) (by omega), fun i hi => (o1 i (by omega) (by omega)).trans (oD i (by omega) (by omega))⟩
  generalize kd_chs 3 14 a on S = D at *
  generalize km_tss 6 (km_tur 19 c a on D) D = F at *
  refine IV.up (q := q) ⟨b, C, m, N, c1, d, dr, hD.cong (fun i hi i3 i4 => (o1 i (by omega) (by omega)).trans (oD i (by omega) (by omega))), hM.cong (by rw [o1 17 (by omega) (by omega), oD 17 (by omega) (by omega)]) (by rw [o1 18 (by omega) (by omega), oD 18 (by omega) (by omega)]) (by rw [o2 2 (by omega), oD 16 (by omega) (by omega)]) (by rw [o2 3 (by omega), oD 16 (by omega) (by omega)]), g2, h4.cong ?_ ?_ ?_ ?_, ?_, h6⟩ (by omega)
  · rw [o1 20 (by omega) (by omega), oD 20 (by omega) (by omega)]
  · rw [o2 7 (by omega), oD 16 (by omega) (by omega)]
  · rw [o1 15 (by omega) (by omega), oD 15 (by omega) (by omega)]
  · rw [o1 4 (by omega) (by omega), oD 4 (by omega) (by omega)]
  · rw [o1 1 (by omega) (by omega), oD 1 (by omega) (by omega)]
    exact h5
theorem jc_watch {q : Nat} {S : lm_S} (h : IV q S) (a on : Int32) (h01 : on = 0 ∨ on = 1) : jc s_D_watch s_R_watch [.ref 0, .int a, .int on] [.ref 16, .int a, .int on] q S := by
  obtain ⟨b, C, m, N, c, d, dr, hD, hM, h3, h4, h5, h6⟩ := h
  obtain ⟨g1, ⟨c1, g2⟩, oD, o1, o2⟩ := turn_sim (Or.inr ⟨rfl, rfl, rfl, rfl⟩) h4 a on h01
  refine ⟨kd_chr 4 15 a on S, kd_chs 4 15 a on S, km_tss 7 (km_tur 20 d a on (kd_chs 4 15 a on S)) (kd_chs 4 15 a on S), fun post p => ⟨a, on, rfl, p⟩, fun post p => ⟨a, on, d, rfl, h4.1, by rw [oD 16 (by omega) (by omega)]; exact h4.2.1, by rw [← g1]; exact p⟩, ?_, fun i hi => oD i (by omega) (by omega), fun i hi => (o1 i (by omega) (by omega)).trans (oD i (by omega) (by omega))⟩
  generalize kd_chs 4 15 a on S = D at *
  generalize km_tss 7 (km_tur 20 d a on D) D = F at *
  refine IV.up (q := q) ⟨b, C, m, N, c, c1, dr, hD.cong (fun i hi i3 i4 => (o1 i (by omega) (by omega)).trans (oD i (by omega) (by omega))), hM.cong (by rw [o1 17 (by omega) (by omega), oD 17 (by omega) (by omega)]) (by rw [o1 18 (by omega) (by omega), oD 18 (by omega) (by omega)]) (by rw [o2 2 (by omega), oD 16 (by omega) (by omega)]) (by rw [o2 3 (by omega), oD 16 (by omega) (by omega)]), h3.cong ?_ ?_ ?_ ?_, g2, ?_, h6⟩ (by omega)
  · rw [o1 19 (by omega) (by omega), oD 19 (by omega) (by omega)]
  · rw [o2 6 (by omega), oD 16 (by omega) (by omega)]
  · rw [o1 14 (by omega) (by omega), oD 14 (by omega) (by omega)]
  · rw [o1 3 (by omega) (by omega), oD 3 (by omega) (by omega)]
  · rw [o1 1 (by omega) (by omega), oD 1 (by omega) (by omega)]
    exact h5
