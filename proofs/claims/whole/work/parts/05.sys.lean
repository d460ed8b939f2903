/-! the system: its shape (desk alone, reference alone, both) -/
abbrev kk_shD : List lm_Sh := [.inr (0, [some 1, some 2, some 3, some 4]), .inr (1, [some 5, some 6, some 7, none, some 8, none, some 9, some 10, none]), .inr (2, [some 11, some 12, some 13, none, none]), .inr (3, [some 14, none]), .inr (3, [some 15, none]), .inl (.int, 512), .inl (.int, 9), .inl (.int, 40), .inl (.int, 308), .inl (.int, 2), .inl (.int, 2), .inl (.int, 2709), .inl (.int, 600), .inl (.int, 600), .inl (.boolean, 512), .inl (.boolean, 512)]
abbrev kk_shR : List lm_Sh := [.inr (4, [some 1, some 2, none, none, some 3, some 4, none, none, none, none]), .inl (.int, 569), .inl (.int, 569), .inl (.int, 4), .inl (.int, 4)]
abbrev kk_shF : List lm_Sh := [.inr (0, [some 1, some 2, some 3, some 4]), .inr (1, [some 5, some 6, some 7, none, some 8, none, some 9, some 10, none]), .inr (2, [some 11, some 12, some 13, none, none]), .inr (3, [some 14, none]), .inr (3, [some 15, none]), .inl (.int, 512), .inl (.int, 9), .inl (.int, 40), .inl (.int, 308), .inl (.int, 2), .inl (.int, 2), .inl (.int, 2709), .inl (.int, 600), .inl (.int, 600), .inl (.boolean, 512), .inl (.boolean, 512), .inr (4, [some 17, some 18, none, none, some 19, some 20, none, none, none, none]), .inl (.int, 569), .inl (.int, 569), .inl (.int, 4), .inl (.int, 4)]
def kk_sf (c : lm_Sh) : Bool := match c with
  | .inl _ => true
  | .inr o => match kk_cl[o.1]? with
    | some q => (List.range o.2.length).all (fun k => match o.2[k]? with
      | some none => !(q.2.1 k).2.2.2 && decide (parseFieldDescriptor (q.2.1 k).2.2.1 = some .int)
      | _ => true)
    | none => true
theorem kk_sf_of {sh : List lm_Sh} (h : sh.all kk_sf = true) {ci : Nat} {C : String} {T : u_T} {N : Nat} (hc : kk_cl[ci]? = some (C, T, N)) (i k : Nat) (gl : List (Option Nat)) (h1 : sh[i]? = some (.inr (ci, gl))) (h2 : gl[k]? = some none) : (T k).2.2.2 = false ∧ parseFieldDescriptor (T k).2.2.1 = some .int := by
  have h3 := List.all_eq_true.mp h _ (List.mem_of_getElem? h1)
  simp only [kk_sf, hc] at h3
  have hk : k < gl.length := (List.getElem?_eq_some_iff.mp h2).1
  have h4 := List.all_eq_true.mp h3 k (List.mem_range.mpr hk)
  simp only [h2, Bool.and_eq_true, Bool.not_eq_true', decide_eq_true_eq] at h4
  exact h4
theorem kk_uw {C : String} {T : u_T} {N : Nat} (h : (u_ws C T N).all (fun w => decide (w ∈ kk_ws)) = true) : ∀ w ∈ u_ws C T N, w ∈ kk_ws := fun w hw => of_decide_eq_true (List.all_eq_true.mp h w hw)
set_option maxRecDepth 20000 in
theorem kk_uD : ∀ w ∈ u_ws R_D F_D 4, w ∈ kk_ws := kk_uw (by decide +kernel)
set_option maxRecDepth 20000 in
theorem kk_uM : ∀ w ∈ u_ws R_M F_M 9, w ∈ kk_ws := kk_uw (by decide +kernel)
set_option maxRecDepth 20000 in
theorem kk_uH : ∀ w ∈ u_ws R_H F_H 5, w ∈ kk_ws := kk_uw (by decide +kernel)
set_option maxRecDepth 20000 in
theorem kk_uK : ∀ w ∈ u_ws R_K F_K 2, w ∈ kk_ws := kk_uw (by decide +kernel)
set_option maxRecDepth 20000 in
theorem kk_uR : ∀ w ∈ u_ws R_R F_R 10, w ∈ kk_ws := kk_uw (by decide +kernel)
theorem kk_nk : ∀ w ∈ kk_nw, (∃ a i b n d h, w = Cond.fieldLinkNest a i b n d h) ∨ ∃ a i x h, w = Cond.methodLinkNest a i x h := by
  intro w hw
  simp only [kk_nw, List.mem_cons, List.not_mem_nil, or_false] at hw
  rcases hw with rfl | rfl | rfl | rfl | rfl | rfl | rfl | rfl | rfl | rfl | rfl | rfl | rfl | rfl | rfl <;> first | exact Or.inl ⟨_, _, _, _, _, _, rfl⟩ | exact Or.inr ⟨_, _, _, _, rfl⟩
theorem kk_Yok {sh : List lm_Sh} (h : sh.all kk_sf = true) : lm_Yok (kk_Y sh) := by
  refine ⟨fun w hw => (List.mem_filter.mp hw).2, kk_nk, fun ci C T N hc => ?_⟩
  have hs := fun i k gl h1 h2 => kk_sf_of h hc i k gl h1 h2
  have hc2 : kk_cl[ci]? = some (C, T, N) := hc
  rcases ci with _ | _ | _ | _ | _ | ci
  · cases hc2; exact ⟨t_D, t_D_ok, n_D, kk_uD, hs⟩
  · cases hc2; exact ⟨t_M, t_M_ok, n_M, kk_uM, hs⟩
  · cases hc2; exact ⟨t_H, t_H_ok, n_H, kk_uH, hs⟩
  · cases hc2; exact ⟨t_K, t_K_ok, n_K, kk_uK, hs⟩
  · cases hc2; exact ⟨t_R, t_R_ok, n_R, kk_uR, hs⟩
  · cases hc2
theorem kk_okD : lm_Yok (kk_Y kk_shD) := kk_Yok (by decide +kernel)
theorem kk_okR : lm_Yok (kk_Y kk_shR) := kk_Yok (by decide +kernel)
theorem kk_okF : lm_Yok (kk_Y kk_shF) := kk_Yok (by decide +kernel)
abbrev YF : lm_Y := kk_Y kk_shF
