/-! the law from its entry: two constructors, then the loop: written by wip/whole/gen47.py -/
theorem d_L_0 : decode code 0 = .ok (.new 7, 3) := by decide +kernel
theorem d_L_3 : decode code 3 = .ok (.dup, 1) := by decide +kernel
theorem d_L_4 : decode code 4 = .ok (.invokespecial 9, 3) := by decide +kernel
theorem d_L_7 : decode code 7 = .ok (.astore_n 1, 1) := by decide +kernel
theorem d_L_8 : decode code 8 = .ok (.new 10, 3) := by decide +kernel
theorem d_L_11 : decode code 11 = .ok (.dup, 1) := by decide +kernel
theorem d_L_12 : decode code 12 = .ok (.invokespecial 12, 3) := by decide +kernel
theorem d_L_15 : decode code 15 = .ok (.astore_n 2, 1) := by decide +kernel
theorem li_L_9 : kk_li R_L 9 y_D_init := Or.inl (kk_tm 9 (by decide +kernel) (by decide +kernel))
theorem li_L_12 : kk_li R_L 12 y_R_init := Or.inl (kk_tm 368 (by decide +kernel) (by decide +kernel))
theorem lk_L_7 : Cond.classLink R_L 7 R_D ∈ kk_ws := (kk_tm 7 (by decide +kernel) (by decide +kernel))
theorem lk_L_10 : Cond.classLink R_L 10 R_R ∈ kk_ws := (kk_tm 366 (by decide +kernel) (by decide +kernel))
theorem wR_eq (ad : Nat → Nat) (cA : Nat → ClassId) (S : lm_S) : lm_W kk_shR ad cA S = [(ad 0, .inr (4, [.ref (ad 1), .ref (ad 2), .int (S 0 2), .int (S 0 3), .ref (ad 3), .ref (ad 4), .int (S 0 6), .int (S 0 7), .int (S 0 8), .int (S 0 9)])), (ad 1, .inl (cA 1, 569, .inl (S 1))), (ad 2, .inl (cA 2, 569, .inl (S 2))), (ad 3, .inl (cA 3, 4, .inl (S 3))), (ad 4, .inl (cA 4, 4, .inl (S 4)))] := by
  rw [lm_W_r]
  rfl
set_option maxRecDepth 20000 in
theorem wF_eq (ad : Nat → Nat) (cA : Nat → ClassId) (S : lm_S) : lm_W kk_shF ad cA S = [(ad 0, .inr (0, [.ref (ad 1), .ref (ad 2), .ref (ad 3), .ref (ad 4)])), (ad 1, .inr (1, [.ref (ad 5), .ref (ad 6), .ref (ad 7), .int (S 1 3), .ref (ad 8), .int (S 1 5), .ref (ad 9), .ref (ad 10), .int (S 1 8)])), (ad 2, .inr (2, [.ref (ad 11), .ref (ad 12), .ref (ad 13), .int (S 2 3), .int (S 2 4)])), (ad 3, .inr (3, [.ref (ad 14), .int (S 3 1)])), (ad 4, .inr (3, [.ref (ad 15), .int (S 4 1)])), (ad 5, .inl (cA 5, 512, .inl (S 5))), (ad 6, .inl (cA 6, 9, .inl (S 6))), (ad 7, .inl (cA 7, 40, .inl (S 7))), (ad 8, .inl (cA 8, 308, .inl (S 8))), (ad 9, .inl (cA 9, 2, .inl (S 9))), (ad 10, .inl (cA 10, 2, .inl (S 10))), (ad 11, .inl (cA 11, 2709, .inl (S 11))), (ad 12, .inl (cA 12, 600, .inl (S 12))), (ad 13, .inl (cA 13, 600, .inl (S 13))), (ad 14, .inl (cA 14, 512, .inl (S 14))), (ad 15, .inl (cA 15, 512, .inl (S 15))), (ad 16, .inr (4, [.ref (ad 17), .ref (ad 18), .int (S 16 2), .int (S 16 3), .ref (ad 19), .ref (ad 20), .int (S 16 6), .int (S 16 7), .int (S 16 8), .int (S 16 9)])), (ad 17, .inl (cA 17, 569, .inl (S 17))), (ad 18, .inl (cA 18, 569, .inl (S 18))), (ad 19, .inl (cA 19, 4, .inl (S 19))), (ad 20, .inl (cA 20, 4, .inl (S 20)))] := by
  rw [lm_W_r]
  rfl
theorem tR_eq (cA : Nat → ClassId) : lm_ty kk_shR cA = [(cA 1, .int), (cA 2, .int), (cA 3, .int), (cA 4, .int)] := by
  rw [lm_ty_r]
  rfl
theorem tF_eq (cA : Nat → ClassId) : lm_ty kk_shF cA = [(cA 5, .int), (cA 6, .int), (cA 7, .int), (cA 8, .int), (cA 9, .int), (cA 10, .int), (cA 11, .int), (cA 12, .int), (cA 13, .int), (cA 14, .boolean), (cA 15, .boolean), (cA 17, .int), (cA 18, .int), (cA 19, .int), (cA 20, .int)] := by
  rw [lm_ty_r]
  rfl
def lw_ad (q1 q2 : Nat → Nat) (b : Nat) (tb : Nat → Nat) : Nat → Nat := fun i => [q1 0, q1 1, q1 2, q1 3, q1 4, q1 5, q1 6, q1 7, q1 8, q1 9, q1 10, q1 11, q1 12, q1 13, q1 14, q1 15, q2 0, q2 1, q2 2, q2 3, q2 4].getD i (if i = 999 then b else tb (i - 1000))
def lw_cA (c1 c2 : Nat → ClassId) : Nat → ClassId := fun i => [c1 0, c1 1, c1 2, c1 3, c1 4, c1 5, c1 6, c1 7, c1 8, c1 9, c1 10, c1 11, c1 12, c1 13, c1 14, c1 15, c2 0, c2 1, c2 2, c2 3, c2 4].getD i 0
def lw_S (S1 S2 : lm_S) : lm_S := fun i => [S1 0, S1 1, S1 2, S1 3, S1 4, S1 5, S1 6, S1 7, S1 8, S1 9, S1 10, S1 11, S1 12, S1 13, S1 14, S1 15, S2 0, S2 1, S2 2, S2 3, S2 4].getD i (S2 0)
set_option maxRecDepth 20000 in
theorem lw_world (q1 q2 : Nat → Nat) (b : Nat) (tb : Nat → Nat) (c1 c2 : Nat → ClassId) (S1 S2 : lm_S) : lm_W kk_shD q1 c1 S1 ++ lm_W kk_shR q2 c2 S2 = lm_W kk_shF (lw_ad q1 q2 b tb) (lw_cA c1 c2) (lw_S S1 S2) := by
  rw [wD_eq, wR_eq, wF_eq]
  rfl
theorem lw_tys (c1 c2 : Nat → ClassId) : lm_ty kk_shD c1 ++ lm_ty kk_shR c2 = lm_ty kk_shF (lw_cA c1 c2) := by
  rw [tD_eq, tR_eq, tF_eq]
  rfl
theorem lw_S_lo (S1 S2 : lm_S) : ∀ i, i < 16 → lw_S S1 S2 i = S1 i := by
  intro i hi
  rcases i with _ | _ | _ | _ | _ | _ | _ | _ | _ | _ | _ | _ | _ | _ | _ | _ | i <;> first | rfl | omega
theorem lw_same : ∀ i, i < 21 → km_an (kd_begin zS) i = lw_S (kd_begin zS) (km_an0 zR) i := by
  intro i hi
  have e : ∀ j, 14 ≤ j → kd_begin zS j = zS j := fun j hj => do_begin zS j (Or.inr (Or.inr hj))
  by_cases h : i < 16
  · rw [(mo_an (kd_begin zS)).1 i (Or.inl h)]
    rw [lw_S_lo _ _ i h]
  · have h2 : i = 16 ∨ i = 17 ∨ i = 18 ∨ i = 19 ∨ i = 20 := by omega
    have e16 : zS 16 = zR 0 := rfl
    have e18 : zS 18 = zR 2 := rfl
    have e19 : zS 19 = zR 3 := rfl
    have e20 : zS 20 = zR 4 := rfl
    rcases h2 with rfl | rfl | rfl | rfl | rfl
    · show _ = km_an0 zR 0
      simp [km_an, km_an0, lm_set, va_up, e, e16]
    · show _ = km_an0 zR 1
      simp [km_an, km_an0, lm_set, va_up, e, e18]
    · show _ = km_an0 zR 2
      simp [km_an, km_an0, lm_set, va_up, e, e18]
    · show _ = km_an0 zR 3
      simp [km_an, km_an0, lm_set, va_up, e, e19]
    · show _ = km_an0 zR 4
      simp [km_an, km_an0, lm_set, va_up, e, e20]
theorem lw_eqS : lm_eq YF (km_an (kd_begin zS)) (lw_S (kd_begin zS) (km_an0 zR)) := by
  refine ⟨fun i ty n h k _ => ?_, fun i ci gl h k _ => ?_⟩
  · have h1 : i < kk_shF.length := (List.getElem?_eq_some_iff.mp h).1
    rw [lw_same i h1]
  · have h1 : i < kk_shF.length := (List.getElem?_eq_some_iff.mp h).1
    rw [lw_same i h1]
theorem lw_go {L : Nat} {xs : Nat → Int32} (hL : L ≤ 1536) : lm_Go YF (g_L L xs) ca_L po_L 16 [(0, .ref 999), (1, .ref 0), (2, .ref 16)] [] (lw_S (kd_begin zS) (km_an0 zR)) := by
  refine lm_to 18 5 ?_
  exact (lw_loop hL L 0 _ (by omega) (by omega) IV_0).to (kk_cons rfl (kk_cons rfl (kk_cons rfl (kk_cons rfl kk_nil)))) lw_eqS
theorem lw_ad_tb (q1 q2 : Nat → Nat) (b : Nat) (tb : Nat → Nat) (j : Nat) : lw_ad q1 q2 b tb (1000 + j) = tb (1000 + j - 1000) := by
  unfold lw_ad
  rw [List.getD_eq_getElem?_getD, List.getElem?_eq_none (by simp only [List.length_cons, List.length_nil]; omega), Option.getD_none, if_neg (by omega)]
set_option maxHeartbeats 1000000 in
/-- the light walk from a world of new cells alone -/
theorem lw_end {p : Program} {l : Launch} {e : Env} {R : Room} {s : State} {m : MethodId} {args : Array Value} {below : List Frame} {meth : Method} {c : Code} {Q : State → Prop} {D : va_G} {ls : Array Slot} {L nL nc ns pc0 : Nat} {xs : Nat → Int32} {cc : ByteArray} {own : String} {sh : List lm_Sh} {ad : Nat → Nat} {cA : Nat → ClassId} {S : lm_S} {G : lm_G} {cal : lm_Ca} {L0 : lm_L} {post : Option Value → lm_S → Prop} (hY : lm_Yok (kk_Y sh)) (C : cX p s m args c cc nL own (fun q => s.heap.size ≤ q)) (hN : ∀ w ∈ kk_nw, va_Nw w s) (hK : va_K D kk_cl (lm_ty sh cA) s) (hD : va_D (fun q => s.heap.size ≤ q) (lm_W sh ad cA S)) (hZ : lm_Z kk_tb ad (fun q => s.heap.size ≤ q) s s.heap) (hX : va_X (ad 999) L xs s s.heap) (hb : ad 999 < s.heap.size) (hcs : nc ≤ R.cells ∧ ns ≤ R.slots)
    (hcode : ∀ pc r, G.1.lookup pc = some r → lm_ck cc nL pc r = true) (hfok : lm_fok (kk_Y sh) own G.2.1) (hsok : lm_sok (kk_Y sh) own G.2.2.1) (hpok : lm_pok (kk_Y sh) own R.frames R.locals G.2.2.2.1) (hcok : lm_cok l (kk_Y sh) own R.frames R.locals cal) (hG1 : G.2.2.2.2.1 = 2) (hG2 : G.2.2.2.2.2 = some (L, xs)) (hpost : ∀ x S1, post (some (.int x)) S1 → x = 1) (hgo : lm_Go (kk_Y sh) G cal post pc0 L0 [] S) {H : Heap} {locs : List Loc} (hP : va_P D kk_cl (lm_W sh ad cA S) H) (hS : va_S (fun q => s.heap.size ≤ q) s.heap H locs) (hl : lv_has ls nL (L0.map (fun q => (q.1, lm_t ad q.2))))
    (hret : ∀ (pc : Nat) (H : Heap) (ls : Array Slot), decode cc pc = .ok (.ireturn, 1) → W p l e R s m args below meth c H [] nc ns Q (F0 m pc ls [.int 1])) : W p l e R s m args below meth c H locs nc ns Q (F0 m pc0 ls []) := by
  have hok : lm_ok (kk_Y sh) (D, lm_ty sh cA, ad, cA) := lm_ok_of (Y := kk_Y sh) hD
  have hA : ∀ q, lm_A sh.length ad s.heap.size q → s.heap.size ≤ q := by
    intro q hq
    rcases hq with ⟨j, hj, rfl⟩ | hq
    · obtain ⟨e1, g1⟩ := lm_at_W ad cA S hj
      exact hD.2 j _ g1
    · exact hq
  have hZ2 : lm_Z kk_tb ad (lm_A sh.length ad s.heap.size) s s.heap := fun j C1 n vs hj => ⟨(hZ j C1 n vs hj).1.narrow hA, (hZ j C1 n vs hj).2.narrow hA⟩
  have hCx : lm_Cx p s m args c (kk_Y sh) (D, lm_ty sh cA, ad, cA) nL cc own := ⟨C.1, C.2.1, C.2.2.1, C.2.2.2.1, C.2.2.2.2.1, hK, hN, hZ2, hok⟩
  have hcl := lm_closed (nc := nc) (ns := ns) (l := l) (e := e) (R := R) (below := below) (meth := meth) (Q := Q) (G := G) (cal := cal) (post := post) hcs hY hCx hcode hfok hsok hpok hcok
    (fun n xs2 h => by
      rw [hG2] at h
      cases h
      exact ⟨hX, hb, fun h9 => absurd (hA _ h9) (Nat.not_le.mpr hb)⟩)
    (fun pc L1 x S1 hd _ h2 H1 locs1 ls1 hP1 hS1 _ => by
      have e1 := hpost x S1 h2
      subst e1
      exact va_forget (fun q hq => hA _ (hS1.2.2 q hq)) (hret pc H1 ls1 hd))
    (fun pc L1 S1 hd h2 _ => by rw [hG1] at h2; cases h2)
  exact hgo _ hcl H locs ls hP ⟨hS.1, fun q g1 g2 => hS.2.1 q g1 (fun z => g2 (Or.inr z)), fun q hq => Or.inr (hS.2.2 q hq)⟩ hl
set_option maxHeartbeats 2000000 in
set_option maxRecDepth 20000 in
theorem lw_law {p : Program} {l : Launch} {e : Env} {R : Room} {s : State} {m : MethodId} {args : Array Value} {below : List Frame} {meth : Method} {c : Code} {Q : State → Prop} {D : va_G} {ls : Array Slot} {b L : Nat} {xs : Nat → Int32} (tb : Nat → Nat) (hL : L ≤ 1536) (C : cX p s m args c code 4 R_L (fun q => s.heap.size ≤ q)) (hN : ∀ w ∈ kk_nw, va_Nw w s) (hK : va_K D kk_cl [] s) (hZ : lm_Z kk_tb (fun i => tb (i - 1000)) (fun q => s.heap.size ≤ q) s s.heap) (hX : va_X b L xs s s.heap) (hb : b < s.heap.size) (hRc : R.cells = 21) (hRs : R.slots = 6984) (hRf : R.frames = 9) (hRl : R.locals = 326) (hl : lv_has ls 4 [(0, .ref b)])
    (hret : ∀ (pc : Nat) (H : Heap) (ls : Array Slot), decode code pc = .ok (.ireturn, 1) → W p l e R s m args below meth c H [] 21 6984 Q (F0 m pc ls [.int 1])) : W p l e R s m args below meth c s.heap [] 0 0 Q (F0 m 0 ls []) := by
  have h1 : cW p l e R s m args below meth c Q D (fun q => s.heap.size ≤ q) ls 0 [] [] [] 0 0 := by
    refine ct_new C (Cn := R_D) (T := F_D) (NF := 4) (ci := 0) (fs := [.null, .null, .null, .null]) rfl kk_uD t_D t_D_ok lk_L_7 cn_D ci_D fz_D (by omega) (by omega) d_L_0 (fun qd => ?_)
    refine ct_dup C d_L_3 ?_
    refine ct_call (c_D_init l) C hN hl.1 (tl := []) cw_D ci_D cm_D rfl ⟨by decide, by decide, by decide +kernel⟩ li_L_9 ⟨by omega, by omega⟩ (Nat.le_of_ble_eq_true rfl) ⟨by omega, by omega⟩ [0] [] rfl rfl rfl rfl (by decide) d_L_4 (fun q1 c1 e1 => ?_)
    subst e1
    refine ct_astore C (j := 1) hl (L1 := [(1, .ref (q1 0)), (0, .ref b)]) (by decide) rfl d_L_7 (fun ls hl => ?_)
    refine ct_widen (kc2 := 16) (ns2 := 5828) (by omega) (by omega) ?_
    refine ct_as (ws' := lm_W kk_shD q1 c1 (kd_begin zS)) (tys' := lm_ty kk_shD c1) (List.nil_append _) (List.nil_append _) ?_
    refine ct_new C (Cn := R_R) (T := F_R) (NF := 10) (ci := 4) (fs := [.null, .null, .int 0, .int 0, .null, .null, .int 0, .int 0, .int 0, .int 0]) rfl kk_uR t_R t_R_ok lk_L_10 cn_R ci_R fz_R (by omega) (by omega) d_L_8 (fun qr => ?_)
    refine ct_dup C d_L_11 ?_
    refine ct_call (c_R_init l) C hN hl.1 (tl := lm_W kk_shD q1 c1 (kd_begin zS)) cw_R ci_R cm_R rfl ⟨by decide, by decide, by decide +kernel⟩ li_L_12 ⟨by omega, by omega⟩ (Nat.le_of_ble_eq_true rfl) ⟨by omega, by omega⟩ [16] (List.range 16) (ct_iC _ _ 16 (lm_len_W _ _ _ _)) (ct_iR _ _ 16 (lm_len_W _ _ _ _)) rfl rfl (by decide) d_L_12 (fun q2 c2 e2 => ?_)
    subst e2
    refine ct_astore C (j := 2) hl (L1 := [(2, .ref (q2 0)), (1, .ref (q1 0)), (0, .ref b)]) (by decide) rfl d_L_15 (fun ls hl => ?_)
    refine ct_widen (kc2 := 21) (ns2 := 6984) (by omega) (by omega) ?_
    refine ct_as (lw_world q1 q2 b tb c1 c2 _ _) (lw_tys c1 c2) ?_
    intro H locs hP hD hK1 hS
    have hZ2 : lm_Z kk_tb (lw_ad q1 q2 b tb) (fun q => s.heap.size ≤ q) s s.heap := by
      intro j C1 n vs hj
      rw [lw_ad_tb]
      exact hZ j C1 n vs hj
    refine lw_end (G := g_L L xs) (L0 := [(0, .ref 999), (1, .ref 0), (2, .ref 16)]) (post := po_L) kk_okF C hN hK1 hD hZ2 hX hb ⟨by omega, by omega⟩ ck_L (fun idx ci k h => by cases h) (fun idx j h => by cases h) (Or.inl rfl) (by rw [hRf, hRl]; exact cok_L l) rfl rfl (fun x S1 h => by cases h; rfl) (lw_go hL) hP hS ⟨hl.1, hl.2.1, ?_⟩ hret
    exact kk_cons (hl.2.2 _ (List.mem_of_getElem? (i := 2) rfl)) (kk_cons (hl.2.2 _ (List.mem_of_getElem? (i := 1) rfl)) (kk_cons (hl.2.2 _ (List.mem_of_getElem? (i := 0) rfl)) kk_nil))
  exact h1 s.heap [] (fun k q h => by simp at h) ⟨fun i j p q h => by simp at h, fun k q h => by simp at h⟩ hK va_S.rf
