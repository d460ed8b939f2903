/-! a new moment is appended -/
/-- outputs, fed and dropped as before -/
def ko (S1 S : lm_S) : Prop := S1 8 = S 8 ∧ S1 6 8 = S 6 8 ∧ ∀ k, k ≠ 8 → S1 1 k = S 1 k
theorem ko.rf (S : lm_S) : ko S S := ⟨rfl, rfl, fun _ _ => rfl⟩
theorem ko.tr {S2 S1 S : lm_S} (h : ko S2 S1) (g : ko S1 S) : ko S2 S := ⟨h.1.trans g.1, h.2.1.trans g.2.1, fun k hk => (h.2.2 k hk).trans (g.2.2 k hk)⟩
theorem ko.s6 {S1 S : lm_S} (h : ko S1 S) {k : Nat} {x : Int32} (hk : k ≠ 8) : ko (lm_set S1 6 k x) S := ⟨by rw [ls_o _ (by omega)]; exact h.1, by rw [ls_n _ _ (Ne.symm hk)]; exact h.2.1, fun j hj => by rw [ls_o _ (by omega)]; exact h.2.2 j hj⟩
theorem ko.s1 {S1 S : lm_S} (h : ko S1 S) {x : Int32} : ko (lm_set S1 1 8 x) S := ⟨by rw [ls_o _ (by omega)]; exact h.1, by rw [ls_o _ (by omega)]; exact h.2.1, fun j hj => by rw [ls_n _ _ hj]; exact h.2.2 j hj⟩
theorem ko.so {S1 S : lm_S} (h : ko S1 S) {i k : Nat} {x : Int32} (h8 : i ≠ 8) (h6 : i ≠ 6) (h1 : i ≠ 1) : ko (lm_set S1 i k x) S := ⟨by rw [ls_o _ (Ne.symm h8)]; exact h.1, by rw [ls_o _ (Ne.symm h6)]; exact h.2.1, fun j hj => by rw [ls_o _ (Ne.symm h1)]; exact h.2.2 j hj⟩
theorem ko.it {c : Prop} [Decidable c] {A B S : lm_S} (h : ko A S) (g : ko B S) : ko (if c then A else B) S := by
  split
  · exact h
  · exact g
theorem ko_note (r : Int32) (S : lm_S) : ko (kd_note r S) S := (ko.rf S).s6 (by omega)
theorem ko_flag (f o : Int32) (S : lm_S) : ko (kd_flag f o S) S := (ko.rf S).s6 (by omega)
theorem ko_load (g v : Int32) (S : lm_S) (hg : g.toNatClampNeg ≠ 8) : ko (kd_load g v S) S := (ko_note _ _).tr ((ko.rf S).s6 hg)
theorem ko_wcell (a v : Int32) (S : lm_S) : ko (kd_wcell a v S) S := ((ko.rf S).it (((ko.rf S).so (by omega) (by omega) (by omega)).so (by omega) (by omega) (by omega)).s1).so (by omega) (by omega) (by omega)
theorem ko_take (S : lm_S) : ko (kd_take S) S := (ko.rf S).s6 (by omega)
theorem ko_push (v : Int32) (S : lm_S) : ko (kd_push v S) S := (ko_wcell _ _ _).s6 (by omega)
theorem ko_wplace (p v : Int32) (S : lm_S) : ko (kd_wplace p v S) S := ((ko.rf S).s6 (by omega)).it (ko_wcell _ _ _)
theorem ko_forget (S : lm_S) : ko (kd_forget S) S := ((ko.rf S).s1.so (by omega) (by omega) (by omega)).so (by omega) (by omega) (by omega)
theorem ko_add (t : Int32) (S : lm_S) : ko (kd_add t S) S := (ko_flag _ _ _).tr ((ko_flag _ _ _).tr (ko_load _ _ _ (by decide)))
theorem ko_cmp (v t : Int32) (S : lm_S) : ko (kd_cmp v t S) S := (ko_flag _ _ _).tr (ko_note _ _)
theorem ko_test (t : Int32) (S : lm_S) : ko (kd_test t S) S := (ko_flag _ _ _).tr ((ko_flag _ _ _).tr (ko_flag _ _ _))
theorem ko_altc (op t : Int32) (S : lm_S) : ko (kd_altc op t S) S := (ko_flag _ _ _).it ((ko_flag _ _ _).it ((ko_flag _ _ _).it ((ko_flag _ _ _).it (ko.rf S))))
theorem ko_alter (op p t : Int32) (S : lm_S) : ko (kd_alter op p t S) S := (ko_wplace _ _ _).tr ((ko_note _ _).tr (ko_altc _ _ _))
theorem ko_jump (ar md p : Int32) (S : lm_S) : ko (kd_jump ar md p S) S := (ko.rf S).it ((ko.rf S).it (((ko.rf S).s6 (by omega)).it (((ko_push _ _).tr (ko_push _ _)).s6 (by omega))))
theorem ko_in (S : lm_S) : ko (kd_in S) S := (((ko_flag _ _ _).tr (ko_load _ _ _ (by decide))).s6 (by omega)).it (((ko_flag _ _ _).tr (ko_load _ _ _ (by decide))).s6 (by omega))
theorem ko_move (md : Int32) (S : lm_S) : ko (kd_move md S) S := (ko_load _ _ _ (by decide)).it ((ko_load _ _ _ (by decide)).it ((ko_load _ _ _ (by decide)).it ((ko_load _ _ _ (by decide)).it ((ko_load _ _ _ (by decide)).it (((ko.rf S).s6 (by omega)).it ((ko_load _ _ _ (by decide)).it (ko_load _ _ _ (by decide))))))))
theorem ko_small (md : Int32) (S : lm_S) : ko (kd_small md S) S := (ko_load _ _ _ (by decide)).it ((ko_load _ _ _ (by decide)).it ((ko_flag _ _ _).it ((ko_flag _ _ _).it ((ko_flag _ _ _).it (ko.rf S)))))
theorem ko_branch (md o : Int32) (S : lm_S) : ko (kd_branch md o S) S := (((ko.rf S).s6 (by omega)).it (ko.rf S)).it ((ko.rf S).it ((ko.rf S).s6 (by omega)))
theorem ko_workt (op p t : Int32) (S : lm_S) (h0 : ¬ op < 0) : ko (kd_workt op p t S) S := by
  unfold kd_workt
  by_cases h2 : 2 < op
  · rw [if_pos h2]
    exact ((ko_add _ _).it ((ko_add _ _).it ((((ko_test _ _).it (ko_alter _ _ _ _)).it (ko_cmp _ _ _)).it (ko_load _ _ _ (by decide))))).it (ko_wplace _ _ _)
  · rw [if_neg h2]
    refine ko_load _ _ _ ?_
    have h9 := kd_op1 h0 h2
    obtain ⟨j, hj, rfl⟩ := vp_in_of h9 (by decide)
    rw [nI_clamp (by omega)]
    have q : ¬ nI 2 < nI j := h2
    rw [nI_ltI (by omega) (by omega)] at q
    omega
theorem ko_work (op p : Int32) (S : lm_S) (h0 : ¬ op < 0) : ko (kd_work op p S) S := (ko_workt _ _ _ _ h0).it (ko_workt _ _ _ _ h0)
/-- or one output more -/
def kp (hd : Nat) (S1 S : lm_S) : Prop := ko S1 S ∨ ∃ x : Int32, S1 8 = upd (S 8) hd x ∧ S1 6 8 = nI (hd + 1) ∧ ∀ k, k ≠ 8 → S1 1 k = S 1 k
theorem kp.it {hd : Nat} {c : Prop} [Decidable c] {A B S : lm_S} (h : kp hd A S) (g : kp hd B S) : kp hd (if c then A else B) S := by
  split
  · exact h
  · exact g
theorem kp_out (hd : Nat) (h8 : hd < 308) (S : lm_S) (hS : S 6 8 = nI hd) : kp hd (kd_out S) S := by
  refine Or.inr ⟨S 6 0, ?_⟩
  unfold kd_out
  rw [hS, if_neg (show ¬ (308 : Int32) ≤ nI hd from nI_ge (b := 308) h8 (by omega)), nI_clamp (by omega)]
  refine ⟨by rw [ls_o _ (by omega)]; rfl, by rw [ls_i, nI_1], fun k _ => by rw [ls_o _ (by omega), ls_o _ (by omega)]⟩
theorem kp_stack (hd : Nat) (h8 : hd < 308) (md : Int32) (S : lm_S) (hS : S 6 8 = nI hd) : kp hd (kd_stack md S) S := kp.it (Or.inl (((ko_take _).tr (ko_take _)).s6 (by omega))) (kp.it (Or.inl (ko_push _ _)) (kp.it (Or.inl ((ko_load _ _ _ (by decide)).tr (ko_take _))) (kp.it (Or.inl (ko_push _ _)) (kp.it (Or.inl ((ko_take _).s6 (by omega))) (kp.it (Or.inl ((ko.rf S).s6 (by omega))) (kp.it (Or.inl (ko_in _)) (kp_out hd h8 S hS)))))))
theorem kp_disp (hd : Nat) (h8 : hd < 308) (op md o p : Int32) (S : lm_S) (hS : S 6 8 = nI hd) (h0 : ¬ op < 0) : kp hd (kd_disp op md o p S) S := kp.it (kp.it (kp.it (kp_stack hd h8 _ _ hS) (kp.it (Or.inl (ko_move _ _)) (kp.it (Or.inl (ko_small _ _)) (kp.it (Or.inl (ko_branch _ _ _)) (Or.inl (ko.rf S)))))) (kp.it (Or.inl (ko_jump _ _ _ _)) (Or.inl (ko_jump _ _ _ _)))) (Or.inl (ko_work _ _ _ h0))
theorem kp_step (hd : Nat) (h8 : hd < 308) (S : lm_S) (hS : S 6 8 = nI hd) (hb : ¬ kd_b S < 0) : kp hd (kd_step S) S := by
  have g : kp hd (kd_step S) (lm_set (kd_forget S) 6 5 (((kd_forget S) 6 5 + kd_len (kd_b (kd_forget S) >>> (3 &&& 31)) (kd_b (kd_forget S) &&& 7)) &&& 511)) := kp_disp hd h8 _ _ _ _ _ hS (kd_opn hb)
  rcases g with g | ⟨x, g1, g2, g3⟩
  · exact Or.inl (g.tr ((ko_forget S).s6 (by omega)))
  · exact Or.inr ⟨x, g1, g2, fun k hk => (g3 k hk).trans ((ko_forget S).2.2 k hk)⟩
