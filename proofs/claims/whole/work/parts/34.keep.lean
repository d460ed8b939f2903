/-! what binds the two sides between calls -/
theorem HD.cong {b : Nat → Int32} {C : Nat → Nat → Int32} {a N : Nat} {S S1 : lm_S} (h : HD b C a N S) (e : ∀ i, i < 14 → i ≠ 3 → i ≠ 4 → S1 i = S i) : HD b C a N S1 := by
  obtain ⟨h1, h2, h3, h4, h5, h6, h7, h8, h9⟩ := h
  refine ⟨h1, h2, by rw [e 2 (by omega) (by omega) (by omega)]; exact h3, by rw [e 2 (by omega) (by omega) (by omega)]; exact h4, by rw [e 6 (by omega) (by omega) (by omega), e 11 (by omega) (by omega) (by omega)]; exact h5, ?_, fun t ht => ?_, fun t ht => ?_, by rw [e 11 (by omega) (by omega) (by omega)]; exact h9⟩
  · refine ⟨by rw [e 5 (by omega) (by omega) (by omega)]; exact h6.1, fun j hj => ?_⟩
    unfold hO
    rw [e 12 (by omega) (by omega) (by omega), e 13 (by omega) (by omega) (by omega)]
    exact h6.2 j hj
  · exact (h7 t ht).cong (fun k _ => by rw [e 11 (by omega) (by omega) (by omega)]) (e 1 (by omega) (by omega) (by omega)) (e 7 (by omega) (by omega) (by omega)) (e 8 (by omega) (by omega) (by omega))
  · unfold hP
    rw [e 12 (by omega) (by omega) (by omega)]
    exact h8 t ht
theorem HM.cong {b : Nat → Int32} {a N : Nat} {S S1 : lm_S} (h : HM b a N S) (h17 : S1 17 = S 17) (h18 : S1 18 = S 18) (h2 : S1 16 2 = S 16 2) (h3 : S1 16 3 = S 16 3) : HM b a N S1 := by
  unfold HM
  rw [h17, h18, h2, h3]
  exact h
/-- what the desk's calls but stop and watch leave -/
def dfo (S1 S : lm_S) : Prop := ∀ i, i = 3 ∨ i = 4 ∨ 14 ≤ i → S1 i = S i
/-- what the reference's calls but stop and watch leave -/
def mfo (S1 S : lm_S) : Prop := (∀ i, i < 16 ∨ 18 < i → S1 i = S i) ∧ ∀ k, k = 6 ∨ k = 7 → S1 16 k = S 16 k
theorem dfo.rf (S : lm_S) : dfo S S := fun _ _ => rfl
theorem dfo.tr {S2 S1 S : lm_S} (h : dfo S2 S1) (g : dfo S1 S) : dfo S2 S := fun i hi => (h i hi).trans (g i hi)
theorem dfo.it {c : Prop} [Decidable c] {A B S : lm_S} (h : dfo A S) (g : dfo B S) : dfo (if c then A else B) S := by
  split
  · exact h
  · exact g
theorem dfo.st {S1 S : lm_S} (h : dfo S1 S) {i k : Nat} {x : Int32} (hi : i < 14) (h3 : i ≠ 3) (h4 : i ≠ 4) : dfo (lm_set S1 i k x) S := fun j hj => by
  rw [ls_o _ (by omega)]
  exact h j hj
theorem mfo.rf (S : lm_S) : mfo S S := ⟨fun _ _ => rfl, fun _ _ => rfl⟩
theorem mfo.tr {S2 S1 S : lm_S} (h : mfo S2 S1) (g : mfo S1 S) : mfo S2 S := ⟨fun i hi => (h.1 i hi).trans (g.1 i hi), fun i hi => (h.2 i hi).trans (g.2 i hi)⟩
theorem mfo.it {c : Prop} [Decidable c] {A B S : lm_S} (h : mfo A S) (g : mfo B S) : mfo (if c then A else B) S := by
  split
  · exact h
  · exact g
theorem mfo.st {S1 S : lm_S} (h : mfo S1 S) {k : Nat} {x : Int32} : mfo (lm_set S1 18 k x) S := ⟨fun j hj => by
  rw [ls_o _ (by omega)]
  exact h.1 j hj, fun k hk => by
  rw [ls_o _ (by omega)]
  exact h.2 k hk⟩
theorem mfo.sf {S1 S : lm_S} (h : mfo S1 S) {k : Nat} {x : Int32} (h6 : k ≠ 6) (h7 : k ≠ 7) : mfo (lm_set S1 16 k x) S := ⟨fun j hj => by
  rw [ls_o _ (by omega)]
  exact h.1 j hj, fun j hj => by
  rw [ls_n _ _ (by omega)]
  exact h.2 j hj⟩
theorem mfo.up {S1 S : lm_S} (h : mfo S1 S) {i : Nat} {x : Nat → Int32} (hi : i = 17 ∨ i = 18) : mfo (va_up S1 i x) S := ⟨fun j hj => by
  rw [va_up_ne _ _ (by omega)]
  exact h.1 j hj, fun k hk => by
  rw [va_up_ne _ _ (by omega)]
  exact h.2 k hk⟩
theorem km_fr.mfo {S1 S : lm_S} (h : km_fr S1 S) : mfo S1 S := ⟨fun i hi => h.1 i (by omega) (by omega), fun k hk => h.2 k (by omega) (by omega)⟩
/-! the desk's frames -/
theorem do_keep (S : lm_S) : dfo (kd_keep S) S := fun i hi => by
  unfold kd_keep
  rw [va_up_ne _ _ (by omega)]
theorem do_begin (S : lm_S) : dfo (kd_begin S) S := (do_keep _).tr (((dfo.rf S).st (by omega) (by omega) (by omega)).st (by omega) (by omega) (by omega))
theorem do_drop (hd : Nat) (S : lm_S) : dfo (kd_drop hd S) S := fun i hi => drop_o hd S i (by omega) (by omega) (by omega)
theorem do_mv (a t : Nat) (S : lm_S) : dfo (kd_mv a t S) S := fun i hi => mv_o a t S i (by omega) (by omega) (by omega) (by omega)
theorem do_so (S : lm_S) : dfo (kd_so S) S := fun i hi => so_o S i (by omega) (by omega) (by omega) (by omega) (by omega) (by omega) (by omega) (by omega) (by omega) (by omega)
theorem do_rn : ∀ (m k : Nat) (S : lm_S), dfo (kd_rn m k S).2 S
  | 0, _, S => dfo.rf S
  | m + 1, k, S => by
    rw [kd_rn]
    split
    · exact dfo.rf S
    · split
      · exact do_so S
      · exact (do_rn m (k + 1) _).tr (do_so S)
theorem do_runs (x : Int32) (S : lm_S) : dfo (kd_runs x S) S := (dfo.rf S).it ((do_rn _ _ _).it (dfo.rf S))
theorem do_sks (a : Nat) (S : lm_S) (o : Option Nat) : dfo (kd_sks a S o) S := by
  cases o with
  | none => exact dfo.rf S
  | some t => exact do_mv a t S
theorem do_poke (hd : Nat) (a v : Int32) (S : lm_S) : dfo (kd_poke hd a v S) S := (dfo.rf S).it ((do_begin _).tr ((do_drop _ _).tr ((dfo.rf S).st (by omega) (by omega) (by omega))))
theorem do_setv (k v : Int32) (S : lm_S) : dfo (kd_setv k v S) S := ((dfo.rf S).st (by omega) (by omega) (by omega)).it ((dfo.rf S).st (by omega) (by omega) (by omega))
theorem do_sets (hd : Nat) (k v : Int32) (S : lm_S) : dfo (kd_sets hd k v S) S := (dfo.rf S).it ((do_begin _).tr ((do_drop _ _).tr (do_setv _ _ _)))
theorem do_shi : ∀ (n k : Nat) (S : lm_S), dfo (kd_shi n k S) S
  | 0, _, S => dfo.rf S
  | n + 1, k, S => by
    rw [kd_shi]
    exact (do_shi n (k + 1) _).tr ((dfo.rf S).st (by omega) (by omega) (by omega))
theorem do_ai (w : Nat) (v : Int32) (S : lm_S) : dfo (kd_ai w v S) S := (((dfo.rf S).st (by omega) (by omega) (by omega)).st (by omega) (by omega) (by omega)).it (((((dfo.rf S).st (by omega) (by omega) (by omega)).st (by omega) (by omega) (by omega)).st (by omega) (by omega) (by omega)).st (by omega) (by omega) (by omega))
theorem do_feed (hd w : Nat) (v : Int32) (S : lm_S) : dfo (kd_feed hd w v S) S := ((do_begin _).tr ((do_drop _ _).tr ((do_ai _ _ _).tr (do_shi _ _ _)))).it (dfo.rf S)
/-! the reference's frames -/
theorem mo_an (S : lm_S) : mfo (km_an S) S := (((mfo.rf S).up (Or.inl rfl)).sf (by omega) (by omega)).sf (by omega) (by omega)
theorem mo_come (t : Nat) (S : lm_S) : mfo (km_come t S) S := ((km_it_fr t (km_back S)).mfo.tr ((mfo.rf S).up (Or.inr rfl))).sf (by omega) (by omega)
theorem mo_pokes (a v : Int32) (S : lm_S) : mfo (km_pokes a v S) S := (mfo.rf S).it ((mo_an _).tr (mfo.rf S).st)
theorem mo_sets (k v : Int32) (S : lm_S) : mfo (km_sets k v S) S := (mfo.rf S).it ((mo_an _).tr (mfo.rf S).st)
theorem mo_feeds (v : Int32) (S : lm_S) : mfo (km_feeds v S) S := (mfo.rf S).it ((mo_an _).tr (mfo.rf S).st.st)
theorem mo_rs (S : lm_S) : mfo (km_rs S) S := by
  unfold km_rs km_rs2
  exact ((gq_step S).mfo.sf (by omega) (by omega)).it (((gq_step S).mfo.sf (by omega) (by omega)).sf (by omega) (by omega))
theorem mo_rn (c : Nat) : ∀ (m k : Nat) (S : lm_S), mfo (km_rn c m k S).2 S
  | 0, _, S => mfo.rf S
  | m + 1, k, S => by
    rw [km_rn]
    split
    · exact (mo_rn c m (k + 1) _).tr (mo_rs S)
    · exact mfo.rf S
theorem mo_run (c : Nat) (x : Int32) (S : lm_S) : mfo (km_run c x S).2 S := by
  unfold km_run
  split
  · exact mfo.rf S
  · exact mo_rn c _ _ S
theorem mo_wrs (a : Nat) (t : Int32) (S : lm_S) : mfo (km_wrs a t S) S := (mfo.rf S).it ((mo_come _ _).tr (mo_come _ _))
/-! the invariant -/
def IV (q : Nat) (S : lm_S) : Prop := ∃ (b : Nat → Int32) (C : Nat → Nat → Int32) (a N c d dr : Nat), HD b C a N S ∧ HM b a N S ∧ mk 19 6 14 3 c S ∧ mk 20 7 15 4 d S ∧ S 1 5 = nI dr ∧ dr ≤ 300 * q
theorem IV.up {q p : Nat} {S : lm_S} (h : IV q S) (hp : q ≤ p) : IV p S := by
  obtain ⟨b, C, a, N, c, d, dr, h1, h2, h3, h4, h5, h6⟩ := h
  exact ⟨b, C, a, N, c, d, dr, h1, h2, h3, h4, h5, by have := Nat.mul_le_mul_left 300 hp; omega⟩
/-- both sides have moved; stops and watches stand -/
theorem IV.both {q c d : Nat} {b : Nat → Int32} {C : Nat → Nat → Int32} {a N dr : Nat} {S D F : lm_S} (h3 : mk 19 6 14 3 c S) (h4 : mk 20 7 15 4 d S) (hD : HD b C a N D) (oD : dfo D S) (oF : mfo F D) (hM : HM b a N F) (h5 : D 1 5 = nI dr) (h6 : dr ≤ 300 * q) : IV q F := by
  have e16 : D 16 = S 16 := oD 16 (by omega)
  refine ⟨b, C, a, N, c, d, dr, hD.cong (fun i hi _ _ => oF.1 i (by omega)), hM, ?_, ?_, by rw [oF.1 1 (by omega)]; exact h5, h6⟩
  · exact h3.cong (by rw [oF.1 19 (by omega), oD 19 (by omega)]) (by rw [oF.2 6 (by omega), e16]) (by rw [oF.1 14 (by omega), oD 14 (by omega)]) (by rw [oF.1 3 (by omega), oD 3 (by omega)])
  · exact h4.cong (by rw [oF.1 20 (by omega), oD 20 (by omega)]) (by rw [oF.2 7 (by omega), e16]) (by rw [oF.1 15 (by omega), oD 15 (by omega)]) (by rw [oF.1 4 (by omega), oD 4 (by omega)])
theorem HM.dfo {b : Nat → Int32} {a N : Nat} {S D : lm_S} (h : HM b a N S) (o : dfo D S) : HM b a N D := h.cong (o 17 (by omega)) (o 18 (by omega)) (by rw [o 16 (by omega)]) (by rw [o 16 (by omega)])
