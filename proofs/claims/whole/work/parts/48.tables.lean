/-! the static tables and the classes at the law's entry: written by wip/whole/gen48.py -/
theorem lw_tab {args : Array Value} {s : State} {A : Nat → Prop} (C n : String) (vs : List Int32) (hlen : vs.length < 2 ^ 31) (hw1 : (Cond.laysStatic C n "[I").before args s = true) (hini : (Cond.initialized C).before args s = true) (harr : (Cond.arrayOf (.static C n "[I") .int).before args s = true) (hl : (Cond.eq (.length (.static C n "[I")) (.int (Int32.ofNat vs.length))).before args s = true) (hel : ∀ j, j < vs.length → (Cond.eq (.elem (.static C n "[I") (.int (Int32.ofNat j))) (.int (vs.getD j 0))).before args s = true) (hA : ∀ a : Nat, a < s.heap.size → ¬ A a) : ∃ t : Nat, va_Z C n "[I" (.ref t) A s s.heap ∧ va_T .int t vs.length (fun k => .int (vs.getD k 0)) A s s.heap := by
  obtain ⟨t, h1, h2⟩ := va_Tof hlen harr (va_eqt hl) (fun j hj => va_eqt (hel j hj)) hA
  exact ⟨t, va_Zof hw1 hini h1 hA, h2⟩
set_option maxRecDepth 20000 in
theorem lw_m0 : ∀ j, j < 6 → Cond.eq (.elem (.static "ReplayDesk" "REGISTER_BITS" "[I") (.int (Int32.ofNat j))) (.int (([255, 255, 255, 255, 195, 511] : List Int32).getD j 0)) ∈ flatC (Jvm.Cond.and given_1 narrow_1) := by decide +kernel
theorem lw_t0 {args : Array Value} {s : State} {A : Nat → Prop} (hts : ∀ w ∈ lw_tbl, w.before args s = true) (hg : (Jvm.Cond.and given_1 narrow_1).before args s = true) (hA : ∀ a : Nat, a < s.heap.size → ¬ A a) : ∃ t : Nat, va_Z "ReplayDesk" "REGISTER_BITS" "[I" (.ref t) A s s.heap ∧ va_T .int t ([255, 255, 255, 255, 195, 511] : List Int32).length (fun k => .int (([255, 255, 255, 255, 195, 511] : List Int32).getD k 0)) A s s.heap :=
  lw_tab "ReplayDesk" "REGISTER_BITS" [255, 255, 255, 255, 195, 511] (by decide) (hts _ (List.mem_append_right _ (List.mem_of_getElem? (i := 142) (by decide +kernel)))) (hts _ (List.mem_append_right _ (List.mem_of_getElem? (i := 1) (by decide +kernel)))) (flat_of_before _ hg _ (by decide +kernel)) (flat_of_before _ hg _ (by decide +kernel)) (fun j hj => flat_of_before _ hg _ (lw_m0 j hj)) hA
set_option maxRecDepth 20000 in
theorem lw_m1 : ∀ j, j < 8 → Cond.eq (.elem (.static "ReplayDesk" "LENGTH_BY_MODE" "[I") (.int (Int32.ofNat j))) (.int (([2, 2, 2, 3, 3, 3, 2, 1] : List Int32).getD j 0)) ∈ flatC (Jvm.Cond.and given_1 narrow_1) := by decide +kernel
theorem lw_t1 {args : Array Value} {s : State} {A : Nat → Prop} (hts : ∀ w ∈ lw_tbl, w.before args s = true) (hg : (Jvm.Cond.and given_1 narrow_1).before args s = true) (hA : ∀ a : Nat, a < s.heap.size → ¬ A a) : ∃ t : Nat, va_Z "ReplayDesk" "LENGTH_BY_MODE" "[I" (.ref t) A s s.heap ∧ va_T .int t ([2, 2, 2, 3, 3, 3, 2, 1] : List Int32).length (fun k => .int (([2, 2, 2, 3, 3, 3, 2, 1] : List Int32).getD k 0)) A s s.heap :=
  lw_tab "ReplayDesk" "LENGTH_BY_MODE" [2, 2, 2, 3, 3, 3, 2, 1] (by decide) (hts _ (List.mem_append_right _ (List.mem_of_getElem? (i := 202) (by decide +kernel)))) (hts _ (List.mem_append_right _ (List.mem_of_getElem? (i := 1) (by decide +kernel)))) (flat_of_before _ hg _ (by decide +kernel)) (flat_of_before _ hg _ (by decide +kernel)) (fun j hj => flat_of_before _ hg _ (lw_m1 j hj)) hA
set_option maxRecDepth 20000 in
theorem lw_m2 : ∀ j, j < 4 → Cond.eq (.elem (.static "ReplayDesk" "BRANCH_FLAGS" "[I") (.int (Int32.ofNat j))) (.int (([128, 64, 1, 2] : List Int32).getD j 0)) ∈ flatC (Jvm.Cond.and given_1 narrow_1) := by decide +kernel
theorem lw_t2 {args : Array Value} {s : State} {A : Nat → Prop} (hts : ∀ w ∈ lw_tbl, w.before args s = true) (hg : (Jvm.Cond.and given_1 narrow_1).before args s = true) (hA : ∀ a : Nat, a < s.heap.size → ¬ A a) : ∃ t : Nat, va_Z "ReplayDesk" "BRANCH_FLAGS" "[I" (.ref t) A s s.heap ∧ va_T .int t ([128, 64, 1, 2] : List Int32).length (fun k => .int (([128, 64, 1, 2] : List Int32).getD k 0)) A s s.heap :=
  lw_tab "ReplayDesk" "BRANCH_FLAGS" [128, 64, 1, 2] (by decide) (hts _ (List.mem_append_right _ (List.mem_of_getElem? (i := 288) (by decide +kernel)))) (hts _ (List.mem_append_right _ (List.mem_of_getElem? (i := 1) (by decide +kernel)))) (flat_of_before _ hg _ (by decide +kernel)) (flat_of_before _ hg _ (by decide +kernel)) (fun j hj => flat_of_before _ hg _ (lw_m2 j hj)) hA
theorem lw_tables {args : Array Value} {s : State} {A : Nat → Prop} (hts : ∀ w ∈ lw_tbl, w.before args s = true) (hg : (Jvm.Cond.and given_1 narrow_1).before args s = true) (hA : ∀ a : Nat, a < s.heap.size → ¬ A a) : ∃ tb : Nat → Nat, lm_Z kk_tb (fun i => tb (i - 1000)) A s s.heap := by
  obtain ⟨t0, z0, a0⟩ := lw_t0 (A := A) hts hg hA
  obtain ⟨t1, z1, a1⟩ := lw_t1 (A := A) hts hg hA
  obtain ⟨t2, z2, a2⟩ := lw_t2 (A := A) hts hg hA
  refine ⟨fun i => [t0, t1, t2].getD i 0, fun j C n vs hj => ?_⟩
  unfold kk_tb at hj
  rcases j with _ | _ | _ | j
  · cases hj
    exact ⟨z0, a0⟩
  · cases hj
    exact ⟨z1, a1⟩
  · cases hj
    exact ⟨z2, a2⟩
  · simp at hj
theorem lw_classes {args : Array Value} {s : State} (hts : ∀ w ∈ kk_ws, w.before args s = true) : ∃ D : va_G, va_K D kk_cl [] s := by
  obtain ⟨c0, i0, k0⟩ := u_known hts kk_uD (hts _ cn_D)
  obtain ⟨c1, i1, k1⟩ := u_known hts kk_uM (hts _ cn_M)
  obtain ⟨c2, i2, k2⟩ := u_known hts kk_uH (hts _ cn_H)
  obtain ⟨c3, i3, k3⟩ := u_known hts kk_uK (hts _ cn_K)
  obtain ⟨c4, i4, k4⟩ := u_known hts kk_uR (hts _ cn_R)
  refine ⟨(fun i => [c0, c1, c2, c3, c4].getD i 0, fun i => [i0, i1, i2, i3, i4].getD i i0), fun c q hq => ?_, fun k q hk => by simp at hk⟩
  rcases c with _ | _ | _ | _ | _ | c
  · cases hq
    exact k0
  · cases hq
    exact k1
  · cases hq
    exact k2
  · cases hq
    exact k3
  · cases hq
    exact k4
  · simp at hq
