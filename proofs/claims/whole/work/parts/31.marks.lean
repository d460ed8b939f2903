/-! stops and watches -/
theorem hs_1 (l : Nat) (a : Int32) (S : lm_S) : ∀ (n k : Nat), km_hs l a S n k = 0 ∨ km_hs l a S n k = 1
  | 0, _ => Or.inl rfl
  | n + 1, k => by
    rw [km_hs]
    split
    · exact Or.inr rfl
    · exact hs_1 l a S n (k + 1)
theorem hs_iff (l : Nat) (a : Int32) (S : lm_S) : ∀ (n k : Nat), ¬ km_hs l a S n k = 0 ↔ ∃ i, k ≤ i ∧ i < k + n ∧ S l i = a
  | 0, k => ⟨fun h => absurd rfl h, fun ⟨i, h1, h2, _⟩ => by omega⟩
  | n + 1, k => by
    rw [km_hs]
    by_cases h : S l k = a
    · rw [if_pos h]
      exact ⟨fun _ => ⟨k, Nat.le_refl _, by omega, h⟩, fun _ => by decide⟩
    · rw [if_neg h, hs_iff l a S n (k + 1)]
      constructor
      · rintro ⟨i, h1, h2, h3⟩
        exact ⟨i, by omega, by omega, h3⟩
      · rintro ⟨i, h1, h2, h3⟩
        refine ⟨i, ?_, by omega, h3⟩
        rcases Nat.lt_or_ge k i with q | q
        · omega
        · have : i = k := by omega
          subst this
          exact absurd h3 h
/-- list l with count in field f of the reference; marks m with count in object s of the desk -/
def mk (l f m s c : Nat) (S : lm_S) : Prop := c ≤ 4 ∧ S 16 f = nI c ∧ S s 1 = nI c ∧ (∀ k, k < c → ∃ p : Nat, p < 512 ∧ S l k = nI p) ∧ (∀ i j, i < c → j < c → S l i = S l j → i = j) ∧ ∀ p : Nat, p < 512 → (S m p = 1 ∧ ∃ k, k < c ∧ S l k = nI p) ∨ (S m p = 0 ∧ ∀ k, k < c → ¬ S l k = nI p)
theorem isA_of {x : Int32} (h : ¬ kd_isA x = 0) : ∃ p : Nat, p < 512 ∧ x = nI p := vp_in_of (kd_isA_in h) (by decide)
/-- both find the same -/
theorem mk.has {l f m s c : Nat} {S : lm_S} (h : mk l f m s c S) (x : Int32) : kd_has m x S = km_hs l x S c 0 := by
  obtain ⟨h1, h2, h3, h4, h5, h6⟩ := h
  have key : kd_has m x S = 0 ↔ km_hs l x S c 0 = 0 := by
    have g := hs_iff l x S c 0
    constructor
    · intro hz
      refine Classical.byContradiction (fun q => ?_)
      obtain ⟨i, -, hi, e⟩ := g.mp q
      obtain ⟨p, hp, ep⟩ := h4 i (by omega)
      rw [e] at ep
      subst ep
      unfold kd_has at hz
      rw [if_neg (isA_p hp), nI_clamp (by omega)] at hz
      rcases h6 p hp with ⟨a, _⟩ | ⟨_, b⟩
      · rw [a, if_neg (by decide)] at hz
        exact absurd hz (by decide)
      · exact b i (by omega) e
    · intro hz
      unfold kd_has
      by_cases hA : kd_isA x = 0
      · rw [if_pos hA]
      · rw [if_neg hA]
        obtain ⟨p, hp, rfl⟩ := isA_of hA
        rw [nI_clamp (by omega)]
        rcases h6 p hp with ⟨_, k, hk, e⟩ | ⟨b, _⟩
        · exact absurd hz (g.mpr ⟨k, by omega, by omega, e⟩)
        · rw [b, if_pos rfl]
  have d01 : kd_has m x S = 0 ∨ kd_has m x S = 1 := by
    unfold kd_has
    split
    · exact Or.inl rfl
    · split
      · exact Or.inl rfl
      · exact Or.inr rfl
  rcases d01 with a | a
  · rw [a, key.mp a]
  · rcases hs_1 l x S c 0 with b | b
    · rw [key.mpr b] at a
      exact absurd a (by decide)
    · rw [a, b]
theorem mk.cong {l f m s c : Nat} {S S1 : lm_S} (h : mk l f m s c S) (hl : S1 l = S l) (hf : S1 16 f = S 16 f) (hm : S1 m = S m) (hs : S1 s 1 = S s 1) : mk l f m s c S1 := by
  obtain ⟨h1, h2, h3, h4, h5, h6⟩ := h
  refine ⟨h1, by rw [hf]; exact h2, by rw [hs]; exact h3, by rw [hl]; exact h4, by rw [hl]; exact h5, by rw [hl, hm]; exact h6⟩
