/-! what a step leaves as it is -/
def kd_fr (S1 S : lm_S) : Prop := ∀ i, i ≠ 1 → i ≠ 5 → i ≠ 6 → i ≠ 8 → i ≠ 9 → i ≠ 10 → S1 i = S i
theorem kd_fr.rf (S : lm_S) : kd_fr S S := fun _ _ _ _ _ _ _ => rfl
theorem kd_fr.tr {S2 S1 S : lm_S} (h : kd_fr S2 S1) (g : kd_fr S1 S) : kd_fr S2 S := fun i a b c d e f => (h i a b c d e f).trans (g i a b c d e f)
theorem kd_fr.st {S1 S : lm_S} (h : kd_fr S1 S) {i k : Nat} {x : Int32} (hi : i = 1 ∨ i = 5 ∨ i = 6 ∨ i = 8 ∨ i = 9 ∨ i = 10) : kd_fr (lm_set S1 i k x) S := by
  intro j h1 h5 h6 h8 h9 h10
  show va_up S1 i (upd (S1 i) k x) j = S j
  rw [va_up_ne _ _ (by omega)]
  exact h j h1 h5 h6 h8 h9 h10
theorem kd_fr.it {c : Prop} [Decidable c] {A B S : lm_S} (h : kd_fr A S) (g : kd_fr B S) : kd_fr (if c then A else B) S := by
  split
  · exact h
  · exact g
theorem fr_note (r : Int32) (S : lm_S) : kd_fr (kd_note r S) S := (kd_fr.rf S).st (by omega)
theorem fr_flag (f o : Int32) (S : lm_S) : kd_fr (kd_flag f o S) S := (kd_fr.rf S).st (by omega)
theorem fr_load (g v : Int32) (S : lm_S) : kd_fr (kd_load g v S) S := (fr_note _ _).tr ((kd_fr.rf S).st (by omega))
theorem fr_wcell (a v : Int32) (S : lm_S) : kd_fr (kd_wcell a v S) S := ((kd_fr.rf S).it (((((kd_fr.rf S).st (by omega)).st (by omega)).st (by omega)))).st (by omega)
theorem fr_take (S : lm_S) : kd_fr (kd_take S) S := (kd_fr.rf S).st (by omega)
theorem fr_push (v : Int32) (S : lm_S) : kd_fr (kd_push v S) S := (fr_wcell _ _ _).st (by omega)
theorem fr_wplace (p v : Int32) (S : lm_S) : kd_fr (kd_wplace p v S) S := ((kd_fr.rf S).st (by omega)).it (fr_wcell _ _ _)
theorem fr_forget (S : lm_S) : kd_fr (kd_forget S) S := (((kd_fr.rf S).st (by omega)).st (by omega)).st (by omega)
theorem fr_add2 (a t c : Int32) (S : lm_S) : kd_fr (kd_add2 a t c S) S := (fr_flag _ _ _).tr (fr_load _ _ _)
theorem fr_add (t : Int32) (S : lm_S) : kd_fr (kd_add t S) S := (fr_flag _ _ _).tr (fr_add2 _ _ _ _)
theorem fr_cmp (v t : Int32) (S : lm_S) : kd_fr (kd_cmp v t S) S := (fr_flag _ _ _).tr (fr_note _ _)
theorem fr_test (t : Int32) (S : lm_S) : kd_fr (kd_test t S) S := (fr_flag _ _ _).tr ((fr_flag _ _ _).tr (fr_flag _ _ _))
theorem fr_altc (op t : Int32) (S : lm_S) : kd_fr (kd_altc op t S) S := (fr_flag _ _ _).it ((fr_flag _ _ _).it ((fr_flag _ _ _).it ((fr_flag _ _ _).it (kd_fr.rf S))))
theorem fr_alter (op p t : Int32) (S : lm_S) : kd_fr (kd_alter op p t S) S := (fr_wplace _ _ _).tr ((fr_note _ _).tr (fr_altc _ _ _))
theorem fr_jump (ar md p : Int32) (S : lm_S) : kd_fr (kd_jump ar md p S) S := (kd_fr.rf S).it ((kd_fr.rf S).it (((kd_fr.rf S).st (by omega)).it (((fr_push _ _).tr (fr_push _ _)).st (by omega))))
theorem fr_in (S : lm_S) : kd_fr (kd_in S) S := (((fr_flag _ _ _).tr (fr_load _ _ _)).st (by omega)).it (((fr_flag _ _ _).tr (fr_load _ _ _)).st (by omega))
theorem fr_out (S : lm_S) : kd_fr (kd_out S) S := (kd_fr.rf S).it (((kd_fr.rf S).st (by omega)).st (by omega))
theorem fr_move (md : Int32) (S : lm_S) : kd_fr (kd_move md S) S := (fr_load _ _ _).it ((fr_load _ _ _).it ((fr_load _ _ _).it ((fr_load _ _ _).it ((fr_load _ _ _).it (((kd_fr.rf S).st (by omega)).it ((fr_load _ _ _).it (fr_load _ _ _)))))))
theorem fr_small (md : Int32) (S : lm_S) : kd_fr (kd_small md S) S := (fr_load _ _ _).it ((fr_load _ _ _).it ((fr_flag _ _ _).it ((fr_flag _ _ _).it ((fr_flag _ _ _).it (kd_fr.rf S)))))
theorem fr_hop (o : Int32) (S : lm_S) : kd_fr (kd_hop o S) S := (kd_fr.rf S).st (by omega)
theorem fr_branch (md o : Int32) (S : lm_S) : kd_fr (kd_branch md o S) S := ((fr_hop _ _).it (kd_fr.rf S)).it ((kd_fr.rf S).it (fr_hop _ _))
theorem fr_stack (md : Int32) (S : lm_S) : kd_fr (kd_stack md S) S := (((fr_take _).tr (fr_take _)).st (by omega)).it ((fr_push _ _).it (((fr_load _ _ _).tr (fr_take _)).it ((fr_push _ _).it (((fr_take _).st (by omega)).it (((kd_fr.rf S).st (by omega)).it ((fr_in _).it (fr_out _)))))))
theorem fr_workt (op p t : Int32) (S : lm_S) : kd_fr (kd_workt op p t S) S := (((fr_add _ _).it ((fr_add _ _).it (((fr_test _ _).it (fr_alter _ _ _ _)).it (fr_cmp _ _ _) |>.it (fr_load _ _ _)))).it (fr_wplace _ _ _)).it (fr_load _ _ _)
theorem fr_work (op p : Int32) (S : lm_S) : kd_fr (kd_work op p S) S := (fr_workt _ _ _ _).it (fr_workt _ _ _ _)
theorem fr_disp (op md o p : Int32) (S : lm_S) : kd_fr (kd_disp op md o p S) S := (((fr_stack _ _).it ((fr_move _ _).it ((fr_small _ _).it ((fr_branch _ _ _).it (kd_fr.rf S))))).it ((fr_jump _ _ _ _).it (fr_jump _ _ _ _))).it (fr_work _ _ _)
theorem fr_step (S : lm_S) : kd_fr (kd_step S) S := (fr_disp _ _ _ _ _).tr (((kd_fr.rf _).st (by omega)).tr (fr_forget S))
