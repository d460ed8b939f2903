/-! a step of the reference reads its image alone -/
def rho (Z S : lm_S) : lm_S := fun i => if i = 18 then S 18 else if i = 16 then (fun k => if k = 8 then S 16 8 else if k = 9 then S 16 9 else Z 16 k) else Z i
section RHO
variable {Z : lm_S}
theorem rh_st (S : lm_S) (k : Nat) (x : Int32) : lm_set (rho Z S) 18 k x = rho Z (lm_set S 18 k x) := by
  funext i
  by_cases h : i = 18
  · subst h; rfl
  · show va_up (rho Z S) 18 _ i = _
    rw [va_up_ne _ _ h]
    simp only [rho, h, if_false]
    rfl
theorem rh_8 (S : lm_S) (x : Int32) : lm_set (rho Z S) 16 8 x = rho Z (lm_set S 16 8 x) := by
  funext i
  by_cases h : i = 16
  · subst h
    funext k
    show upd ((rho Z S) 16) 8 x k = (if k = 8 then x else if k = 9 then S 16 9 else Z 16 k)
    by_cases h8 : k = 8
    · subst h8; rfl
    · rw [pk_un h8, if_neg h8]
      show (if k = 8 then S 16 8 else if k = 9 then S 16 9 else Z 16 k) = _
      rw [if_neg h8]
  · show va_up (rho Z S) 16 _ i = _
    rw [va_up_ne _ _ h]
    simp only [rho, h, if_false]
    rfl
theorem rh_9 (S : lm_S) (x : Int32) : lm_set (rho Z S) 16 9 x = rho Z (lm_set S 16 9 x) := by
  funext i
  by_cases h : i = 16
  · subst h
    funext k
    show upd ((rho Z S) 16) 9 x k = (if k = 8 then S 16 8 else if k = 9 then x else Z 16 k)
    by_cases h9 : k = 9
    · subst h9; rfl
    · rw [pk_un h9, if_neg h9]
      show (if k = 8 then S 16 8 else if k = 9 then S 16 9 else Z 16 k) = _
      rw [if_neg h9]
  · show va_up (rho Z S) 16 _ i = _
    rw [va_up_ne _ _ h]
    simp only [rho, h, if_false]
    rfl
theorem rh_it {c : Prop} [Decidable c] {A B A1 B1 : lm_S} (h : A1 = rho Z A) (g : B1 = rho Z B) : (if c then A1 else B1) = rho Z (if c then A else B) := by
  split
  · exact h
  · exact g
theorem rh_flag (f o : Int32) (S : lm_S) : km_flag f o (rho Z S) = rho Z (km_flag f o S) := rh_st _ _ _
theorem rh_mark (v : Int32) (S : lm_S) : km_mark v (rho Z S) = rho Z (km_mark v S) := by
  unfold km_mark
  rw [rh_flag, rh_flag]
theorem rh_write (a v : Int32) (S : lm_S) : km_write a v (rho Z S) = rho Z (km_write a v S) := by
  show lm_set (lm_set (lm_set (rho Z S) 18 _ _) 16 9 (S 16 8)) 16 8 a = _
  rw [rh_st, rh_9, rh_8]
  rfl
theorem rh_push (v : Int32) (S : lm_S) : km_push v (rho Z S) = rho Z (km_push v S) := by
  unfold km_push
  rw [rh_write]
  exact rh_st _ _ _
theorem rh_pull (S : lm_S) : km_pull (rho Z S) = rho Z (km_pull S) := rh_st _ _ _
theorem rh_pv (S : lm_S) : km_pv (rho Z S) = km_pv S := rfl
theorem rh_change (p v : Int32) (S : lm_S) : km_change p v (rho Z S) = rho Z (km_change p v S) := rh_it (rh_st _ _ _) (rh_write _ _ _)
theorem rh_add1 (s : Int32) (S : lm_S) : km_add1 s (rho Z S) = rho Z (km_add1 s S) := rh_flag _ _ _
theorem rh_add2 (s t : Int32) (S : lm_S) : km_add2 s t (rho Z S) = rho Z (km_add2 s t S) := by
  unfold km_add2
  rw [rh_add1]
  exact rh_flag _ _ _
theorem rh_add3 (s t : Int32) (S : lm_S) : km_add3 s t (rho Z S) = rho Z (km_add3 s t S) := by
  unfold km_add3
  rw [rh_add2, rh_mark]
  exact rh_st _ _ _
theorem rh_add (t : Int32) (S : lm_S) : km_add t (rho Z S) = rho Z (km_add t S) := rh_add3 _ _ _
theorem rh_cmp (v t : Int32) (S : lm_S) : km_cmp v t (rho Z S) = rho Z (km_cmp v t S) := by
  unfold km_cmp
  rw [rh_mark]
  exact rh_flag _ _ _
theorem rh_tr (d : Nat) (v : Int32) (S : lm_S) : km_tr d v (rho Z S) = rho Z (km_tr d v S) := by
  unfold km_tr
  rw [rh_mark]
  exact rh_st _ _ _
theorem rh_sm0 (md : Int32) (S : lm_S) : km_sm0 md (rho Z S) = rho Z (km_sm0 md S) := rh_it (rh_tr 514 _ _) rfl
theorem rh_sm1 (md : Int32) (S : lm_S) : km_sm1 md (rho Z S) = rho Z (km_sm1 md S) := rh_it (rh_tr 514 _ _) rfl
theorem rh_sm2 (md : Int32) (S : lm_S) : km_sm2 md (rho Z S) = rho Z (km_sm2 md S) := rh_it (rh_it (rh_flag _ _ _) (rh_flag _ _ _)) (rh_it (rh_flag _ _ _) rfl)
theorem rh_sm4 (md : Int32) (S : lm_S) : km_sm4 md (rho Z S) = rho Z (km_sm4 md S) := rh_it (rh_flag _ _ _) rfl
theorem rh_small (md : Int32) (S : lm_S) : km_small md (rho Z S) = rho Z (km_small md S) := by
  unfold km_small
  rw [rh_sm0, rh_sm1, rh_sm2, rh_sm4]
theorem rh_branch (md o : Int32) (S : lm_S) : km_branch md o (rho Z S) = rho Z (km_branch md o S) := rh_it (rh_it rfl (rh_st _ _ _)) (rh_it (rh_st _ _ _) rfl)
theorem rh_wt2 (t : Int32) (S : lm_S) : km_wt2 t (rho Z S) = rho Z (km_wt2 t S) := by
  unfold km_wt2
  rw [rh_flag, rh_flag]
theorem rh_wte (t : Int32) (S : lm_S) : km_wte t (rho Z S) = rho Z (km_wte t S) := by
  unfold km_wte
  rw [rh_wt2]
  exact rh_flag _ _ _
theorem rh_win (p v : Int32) (S : lm_S) : km_win p v (rho Z S) = rho Z (km_win p v S) := by
  unfold km_win
  rw [rh_mark, rh_change]
theorem rh_wsl (op p t c : Int32) (S : lm_S) : km_wsl op p t c (rho Z S) = rho Z (km_wsl op p t c S) := by
  unfold km_wsl
  rw [rh_win, rh_flag]
theorem rh_wsr (op p t c : Int32) (S : lm_S) : km_wsr op p t c (rho Z S) = rho Z (km_wsr op p t c S) := by
  unfold km_wsr
  rw [rh_win, rh_flag]
theorem rh_wld (op t : Int32) (S : lm_S) : km_wld op t (rho Z S) = rho Z (km_wld op t S) := rh_tr _ _ _
theorem rh_wbt (v : Int32) (S : lm_S) : km_wbt v (rho Z S) = rho Z (km_wbt v S) := rh_tr 512 _ _
theorem rh_wk (op p t c : Int32) (S : lm_S) : km_wk op p t c (rho Z S) = rho Z (km_wk op p t c S) := (rh_it (rh_wld _ _ _) (rh_it (rh_wld _ _ _) (rh_it (rh_wld _ _ _) (rh_it (rh_change _ _ _) (rh_it (rh_change _ _ _) (rh_it (rh_change _ _ _) (rh_it (rh_add _ _) (rh_it (rh_add _ _) (rh_it (rh_wbt _ _) (rh_it (rh_wbt _ _) (rh_it (rh_wbt _ _) (rh_it (rh_cmp _ _ _) (rh_it (rh_cmp _ _ _) (rh_it (rh_cmp _ _ _) (rh_it (rh_wte _ _) (rh_it (rh_win _ _ _) (rh_it (rh_win _ _ _) (rh_it (rh_wsl _ _ _ _ _) (rh_it (rh_wsr _ _ _ _ _) (rh_it (rh_wsl _ _ _ _ _) (rh_wsr _ _ _ _ _)))))))))))))))))))))
theorem rh_work (op p : Int32) (S : lm_S) : km_work op p (rho Z S) = rho Z (km_work op p S) := rh_wk _ _ _ _ _
theorem rh_move (md : Int32) (S : lm_S) : km_move md (rho Z S) = rho Z (km_move md S) := rh_it (rh_tr _ _ _) (rh_it (rh_tr _ _ _) (rh_it (rh_tr _ _ _) (rh_it (rh_tr _ _ _) (rh_it (rh_tr _ _ _) (rh_it (rh_st _ _ _) (rh_it (rh_tr _ _ _) (rh_tr _ _ _)))))))
theorem rh_o1 (k : Int32) (S : lm_S) : km_o1 k (rho Z S) = rho Z (km_o1 k S) := rh_st _ _ _
theorem rh_out (S : lm_S) : km_out (rho Z S) = rho Z (km_out S) := by
  unfold km_out km_oe km_o7
  rw [rh_o1, rh_o1, rh_o1, rh_o1, rh_o1, rh_o1, rh_o1, rh_st, rh_st]
  rfl
theorem rh_shi : ∀ (n k : Nat) (S : lm_S), km_shi n k (rho Z S) = rho Z (km_shi n k S)
  | 0, _, _ => rfl
  | n + 1, k, S => by
    rw [km_shi, rh_st, rh_shi n]
    rfl
theorem rh_i1 (S : lm_S) : km_i1 (rho Z S) = rho Z (km_i1 S) := rh_flag _ _ _
theorem rh_i2 (v : Int32) (S : lm_S) : km_i2 v (rho Z S) = rho Z (km_i2 v S) := rh_tr 512 _ _
theorem rh_i3 (w : Nat) (S : lm_S) : km_i3 w (rho Z S) = rho Z (km_i3 w S) := rh_it rfl (by rw [rh_st, rh_shi]; rfl)
theorem rh_in (w : Nat) (S : lm_S) : km_in w (rho Z S) = rho Z (km_in w S) := by
  unfold km_in
  rw [rh_i1, rh_i2, rh_i3]
  rfl
theorem rh_stack (w : Nat) (md : Int32) (S : lm_S) : km_stack w md (rho Z S) = rho Z (km_stack w md S) := rh_it (by rw [rh_pull, rh_pull, rh_st]; rfl) (rh_it (rh_push _ _) (rh_it (by rw [rh_pull]; exact rh_tr _ _ _) (rh_it (rh_push _ _) (rh_it (by rw [rh_pull]; exact rh_st _ _ _) (rh_it (rh_st _ _ _) (rh_it (rh_in _ _) (rh_out _)))))))
theorem rh_jmp (op p : Int32) (S : lm_S) : km_jmp op p (rho Z S) = rho Z (km_jmp op p S) := rh_it (by rw [rh_push, rh_push]; exact rh_st _ _ _) (rh_st _ _ _)
theorem rh_disp (w : Nat) (op md be i wd : Int32) (S : lm_S) : km_disp w op md be i wd (rho Z S) = rho Z (km_disp w op md be i wd S) := rh_it (rh_it (rh_it (rh_stack _ _ _) (rh_it (rh_move _ _) (rh_it (rh_small _ _) (rh_it (rh_branch _ _ _) rfl)))) (rh_it rfl (rh_it rfl (rh_jmp _ _ _)))) (rh_it (rh_work _ _ _) (rh_work _ _ _))
theorem rh_st1 (S : lm_S) : km_st1 (rho Z S) = rho Z (km_st1 S) := by
  unfold km_st1
  rw [rh_st]
  exact rh_disp _ _ _ _ _ _ _
theorem rh_step (S : lm_S) : km_step (rho Z S) = rho Z (km_step S) := by
  unfold km_step
  rw [rh_8, rh_9, rh_st1]
end RHO
theorem rho_self (Z S : lm_S) (h : Z 18 = S 18) : lm_set (lm_set Z 16 8 (-1)) 16 9 (-1) = rho Z (lm_set (lm_set S 16 8 (-1)) 16 9 (-1)) := by
  funext i
  by_cases h18 : i = 18
  · subst h18; exact h
  · by_cases h16 : i = 16
    · subst h16
      funext k
      show upd (upd (Z 16) 8 (-1)) 9 (-1) k = (if k = 8 then -1 else if k = 9 then -1 else Z 16 k)
      simp only [upd]
      by_cases h8 : k = 8
      · subst h8; rfl
      · by_cases h9 : k = 9
        · subst h9; rfl
        · simp only [h8, h9, if_false]
    · show va_up (va_up Z 16 _) 16 _ i = (if i = 18 then _ else if i = 16 then _ else Z i)
      rw [va_up_ne _ _ h16, va_up_ne _ _ h16, if_neg h18, if_neg h16]
/-- the image and the places after a step, from the image alone -/
theorem km_local {Z S : lm_S} (h : Z 18 = S 18) : (km_step Z) 18 = (km_step S) 18 ∧ (km_step Z) 16 8 = (km_step S) 16 8 ∧ (km_step Z) 16 9 = (km_step S) 16 9 := by
  have e : km_step Z = rho Z (km_step S) := by
    unfold km_step
    rw [rho_self Z S h, rh_st1]
  rw [e]
  exact ⟨rfl, rfl, rfl⟩
/-- the reference's step on images -/
def ns_S (n : Nat → Int32) : lm_S := fun i => if i = 18 then n else fun _ => 0
def ns_st (n : Nat → Int32) : Nat → Int32 := (km_step (ns_S n)) 18
def ns_w (n : Nat → Int32) : Int32 := (km_step (ns_S n)) 16 8
def ns_b (n : Nat → Int32) : Int32 := (km_step (ns_S n)) 16 9
theorem ns_eq (S : lm_S) : (km_step S) 18 = ns_st (S 18) ∧ (km_step S) 16 8 = ns_w (S 18) ∧ (km_step S) 16 9 = ns_b (S 18) := km_local (Z := S) (S := ns_S (S 18)) rfl
def ns_it : Nat → (Nat → Int32) → Nat → Int32
  | 0, n => n
  | k + 1, n => ns_it k (ns_st n)
theorem ns_it_s : ∀ (k : Nat) (n : Nat → Int32), ns_it (k + 1) n = ns_st (ns_it k n)
  | 0, _ => rfl
  | k + 1, n => by
    show ns_it (k + 1) (ns_st n) = ns_st (ns_it k (ns_st n))
    rw [ns_it_s k (ns_st n)]
theorem km_it_18 : ∀ (k : Nat) (S : lm_S), (km_it k S) 18 = ns_it k (S 18)
  | 0, _ => rfl
  | k + 1, S => by rw [km_it, km_it_18 k, (ns_eq S).1]; rfl
theorem km_it_s : ∀ (k : Nat) (S : lm_S), km_it (k + 1) S = km_step (km_it k S)
  | 0, _ => rfl
  | k + 1, S => by
    show km_it (k + 1) (km_step S) = km_step (km_it k (km_step S))
    rw [km_it_s k (km_step S)]
