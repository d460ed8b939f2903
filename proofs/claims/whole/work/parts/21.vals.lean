/-! numbers: flags, bytes -/
def bt (x : Int32) (i : Nat) : Bool := x.toBitVec.getLsbD i
theorem b_ext {x y : Int32} (h : ∀ i, i < 32 → bt x i = bt y i) : x = y := Int32.toBitVec_inj.mp (BitVec.eq_of_getLsbD_eq (fun i hi => h i hi))
theorem b_or (x y : Int32) (i : Nat) : bt (x ||| y) i = (bt x i || bt y i) := by unfold bt; rw [Int32.toBitVec_or, BitVec.getLsbD_or]
theorem b_and (x y : Int32) (i : Nat) : bt (x &&& y) i = (bt x i && bt y i) := by unfold bt; rw [Int32.toBitVec_and, BitVec.getLsbD_and]
theorem b_xor (x y : Int32) (i : Nat) : bt (x ^^^ y) i = (bt x i ^^ bt y i) := by unfold bt; rw [Int32.toBitVec_xor, BitVec.getLsbD_xor]
theorem b_0 : ∀ i, i < 32 → bt 0 i = false := by decide +kernel
theorem b_m1 : ∀ i, i < 32 → bt (-1) i = true := by decide +kernel
/-- a flag -/
def fl (f o P : Int32) : Int32 := if o = 0 then P &&& (f ^^^ (-1)) else P ||| f
theorem fl_comm {f g : Int32} (h : f &&& g = 0) (a b P : Int32) : fl f a (fl g b P) = fl g b (fl f a P) := by
  apply b_ext
  intro i hi
  have h1 : (bt f i && bt g i) = false := by rw [← b_and, h, b_0 i hi]
  have h2 := b_m1 i hi
  unfold fl
  split <;> split <;> simp only [b_and, b_or, b_xor, h2] <;> revert h1 <;> cases bt f i <;> cases bt g i <;> cases bt P i <;> decide
/-- N and Z by v -/
def nz (v P : Int32) : Int32 := fl 2 (if v &&& 255 = 0 then 1 else 0) (fl 128 (if v &&& 128 = 0 then 0 else 1) P)
theorem nz_comm {f : Int32} (h2 : f &&& 2 = 0) (h8 : f &&& 128 = 0) (o v P : Int32) : fl f o (nz v P) = nz v (fl f o P) := by
  unfold nz
  rw [fl_comm h2, fl_comm h8]
theorem b_7 (x : Int32) : x &&& 128 = if bt x 7 then 128 else 0 := by
  apply b_ext
  intro i hi
  rw [b_and]
  by_cases h : i = 7
  · subst h
    cases bt x 7 <;> decide
  · have h1 : bt 128 i = false := (by decide +kernel : ∀ i, i < 32 → i ≠ 7 → bt 128 i = false) i hi h
    rw [h1, Bool.and_false]
    split
    · exact h1.symm
    · exact (b_0 i hi).symm
theorem x_128 (x : Int32) : x &&& 128 = 0 ∨ x &&& 128 = 128 := by
  rw [b_7]
  cases bt x 7
  · exact Or.inl rfl
  · exact Or.inr rfl
theorem and_255_128 (v : Int32) : (v &&& 255) &&& 128 = v &&& 128 := by
  rw [Int32.and_assoc]
  rfl
theorem nz_note (v P : Int32) : P &&& (-131) ||| ((v &&& 255) &&& 128) ||| (if v &&& 255 = 0 then 2 else 0) = nz v P := by
  rw [and_255_128]
  unfold nz fl
  rcases x_128 v with h | h
  · by_cases h2 : v &&& 255 = 0
    · rw [if_pos h2, if_pos h2, h, if_pos rfl, if_pos rfl, if_neg (by decide)]
      apply b_ext
      intro i hi
      simp only [b_or, b_and]
      exact (by decide +kernel : ∀ i, i < 32 → ∀ p : Bool, ((p && bt (-131) i || bt 0 i) || bt 2 i) = ((p && bt (128 ^^^ (-1)) i) || bt 2 i)) i hi (bt P i)
    · rw [if_neg h2, if_neg h2, h, if_pos rfl, if_pos rfl, if_pos rfl]
      apply b_ext
      intro i hi
      simp only [b_or, b_and]
      exact (by decide +kernel : ∀ i, i < 32 → ∀ p : Bool, ((p && bt (-131) i || bt 0 i) || bt 0 i) = ((p && bt (128 ^^^ (-1)) i) && bt (2 ^^^ (-1)) i)) i hi (bt P i)
  · have h2 : ¬ v &&& 255 = 0 := by
      intro q
      rw [← and_255_128, q] at h
      exact absurd h (by decide)
    rw [if_neg h2, if_neg h2, h, if_pos rfl, if_neg (show ¬ (128 : Int32) = 0 by decide), if_neg (show ¬ (1 : Int32) = 0 by decide)]
    apply b_ext
    intro i hi
    simp only [b_or, b_and]
    exact (by decide +kernel : ∀ i, i < 32 → ∀ p : Bool, ((p && bt (-131) i || bt 128 i) || bt 0 i) = ((p || bt 128 i) && bt (2 ^^^ (-1)) i)) i hi (bt P i)
/-- a byte -/
def kb (x : Int32) : Prop := ∃ j : Nat, j < 256 ∧ x = nI j
theorem kb_and (x : Int32) : kb (x &&& 255) := pk_andE x 8 (by decide)
theorem kb_id {x : Int32} (h : kb x) : x &&& 255 = x := by
  obtain ⟨j, hj, rfl⟩ := h
  rw [pk_andN (by omega) 8 (by decide), Nat.mod_eq_of_lt hj]
theorem kb_of {x : Int32} (h : x &&& 255 = x) : kb x := by
  rw [← h]
  exact kb_and x
theorem kb_in {x : Int32} (h : kb x) : vp_in x 256 := by
  obtain ⟨j, hj, rfl⟩ := h
  exact vp_in_nI hj (by decide)
theorem kb_n {x : Int32} (h : kb x) : ¬ x < 0 := by
  obtain ⟨j, hj, rfl⟩ := h
  exact nI_pos (by omega)
theorem kb_fl {f P : Int32} (hf : f &&& 255 = f) (o : Int32) (h : kb P) : kb (fl f o P) := by
  have h := kb_id h
  apply kb_of
  unfold fl
  split
  · rw [Int32.and_assoc, Int32.and_comm (f ^^^ -1) 255, ← Int32.and_assoc, h]
  · apply b_ext
    intro i hi
    have e1 : bt (P &&& 255) i = bt P i := by rw [h]
    have e2 : bt (f &&& 255) i = bt f i := by rw [hf]
    rw [b_and] at e1 e2
    rw [b_and, b_or, Bool.and_or_distrib_right, e1, e2]
theorem kb_nz {P : Int32} (v : Int32) (h : kb P) : kb (nz v P) := kb_fl (by decide) _ (kb_fl (by decide) _ h)
theorem kb_0 : kb 0 := ⟨0, by omega, rfl⟩
theorem kb_1 : kb 1 := ⟨1, by omega, rfl⟩
/-- sets -/
theorem ls_ss (S : lm_S) (i k : Nat) (x y : Int32) : lm_set (lm_set S i k x) i k y = lm_set S i k y := by
  funext a b
  simp only [lm_set, va_up, upd]
  by_cases h : a = i
  · subst h
    by_cases h2 : b = k
    · simp [upd, h2]
    · simp [upd, h2]
  · simp [h]
theorem ls_cc (S : lm_S) (i : Nat) {k l : Nat} (h : k ≠ l) (x y : Int32) : lm_set (lm_set S i k x) i l y = lm_set (lm_set S i l y) i k x := by
  funext a b
  simp only [lm_set, va_up, upd]
  by_cases ha : a = i
  · subst ha
    by_cases h1 : b = k
    · subst h1
      simp [upd, h]
    · by_cases h2 : b = l
      · subst h2
        simp [upd, h1]
      · simp [upd, h1, h2]
  · simp [ha]
theorem ls_i (S : lm_S) (i k : Nat) (x : Int32) : (lm_set S i k x) i k = x := by simp [lm_set, va_up, upd]
theorem ls_n (S : lm_S) (i : Nat) {k l : Nat} (h : l ≠ k) (x : Int32) : (lm_set S i k x) i l = S i l := by simp [lm_set, va_up, upd, h]
theorem ls_o (S : lm_S) {i j : Nat} (h : j ≠ i) (k : Nat) (x : Int32) : (lm_set S i k x) j = S j := by simp [lm_set, va_up, h]
theorem mk_nz (v : Int32) (M : lm_S) : km_mark v M = lm_set M 18 516 (nz v (M 18 516)) := by
  show lm_set (lm_set M 18 516 (fl 128 _ (M 18 516))) 18 516 (fl 2 _ ((lm_set M 18 516 (fl 128 _ (M 18 516))) 18 516)) = _
  rw [ls_ss, ls_i]
  rfl
theorem nt_nz (v : Int32) (D : lm_S) : kd_note (v &&& 255) D = lm_set D 6 4 (nz v (D 6 4)) := by
  unfold kd_note
  rw [nz_note]
theorem ld_nz (g : Nat) (hg : g < 4) (v : Int32) (D : lm_S) : kd_load (nI g) v D = lm_set (lm_set D 6 g (v &&& 255)) 6 4 (nz v (D 6 4)) := by
  unfold kd_load
  rw [nI_clamp (by omega), ls_i, nt_nz, ls_n _ _ (by omega)]
