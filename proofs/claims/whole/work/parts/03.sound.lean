/-! the light machine is the machine -/
def lm_LW (p : Program) (l : Launch) (e : Env) (R : Room) (nc ns : Nat) (s : State) (m : MethodId) (args : Array Value) (below : List Frame) (meth : Method) (c : Code) (Y : lm_Y) (X : lm_X) (nL : Nat) (Q : State → Prop) (pc : Nat) (L : lm_L) (st : List Value) (S : lm_S) : Prop :=
  ∀ (H : Heap) (locs : List Loc) (ls : Array Slot), va_P X.1 Y.1 (lm_W Y.2.1 X.2.2.1 X.2.2.2 S) H → va_S (lm_A Y.2.1.length X.2.2.1 s.heap.size) s.heap H locs → lv_has ls nL (L.map (fun q => (q.1, lm_t X.2.2.1 q.2))) → W p l e R s m args below meth c H locs nc ns Q (F0 m pc ls (st.map (lm_t X.2.2.1)))
def lm_Cx (p : Program) (s : State) (m : MethodId) (args : Array Value) (c : Code) (Y : lm_Y) (X : lm_X) (nL : Nat) (cc : ByteArray) (own : String) : Prop :=
  p.tables.exec = Jvm.exec ∧ c.code = cc ∧ c.maxLocals = nL ∧ s.vm.findClass own = some m.cls ∧ (∀ w ∈ Y.2.2.2.2, w.before args s = true) ∧ va_K X.1 Y.1 X.2.1 s ∧ (∀ w ∈ Y.2.2.2.1, va_Nw w s) ∧ lm_Z Y.2.2.1 X.2.2.1 (lm_A Y.2.1.length X.2.2.1 s.heap.size) s s.heap ∧ lm_ok Y X
/-- the fields' pool numbers -/
def lm_fok (Y : lm_Y) (own : String) (fl : List (Nat × Nat × Nat)) : Prop := ∀ idx ci k, fl.lookup idx = some (ci, k) → ∃ (C : String) (T : u_T) (N : Nat), Y.1[ci]? = some (C, T, N) ∧ k < N ∧ (T k).1 = C ∧ (Cond.fieldLink own idx C (T k).2.1 (T k).2.2.1 ∈ Y.2.2.2.2 ∨ ∃ host, Cond.fieldLinkNest own idx C (T k).2.1 (T k).2.2.1 host ∈ Y.2.2.2.1)
/-- the static tables' pool numbers -/
def lm_sok (Y : lm_Y) (own : String) (sl : List (Nat × Nat)) : Prop := ∀ idx j, sl.lookup idx = some j → ∃ (C n : String) (vs : List Int32), Y.2.2.1[j]? = some (C, n, vs) ∧ (Cond.fieldLink own idx C n "[I" ∈ Y.2.2.2.2 ∨ ∃ host, Cond.fieldLinkNest own idx C n "[I" host ∈ Y.2.2.2.1)
/-- the calls' pool numbers -/
def lm_cok (l : Launch) (Y : lm_Y) (own : String) (fr lo : Nat) (cal : lm_Ca) : Prop := ∀ idx n vi sp, cal.lookup idx = some (n, vi, sp) → ∃ (y : MethodName) (b : ByteArray) (mL : Nat) (rt : Option FieldType) (f1 lo1 : Nat), lm_I l Y y b mL rt f1 lo1 sp ∧ (f1 + 1 ≤ fr ∧ 8 + (mL + 11) + lo1 ≤ lo) ∧ Cond.code y b mL rt ∈ Y.2.2.2.2 ∧ Cond.initialized y.cls ∈ Y.2.2.2.2 ∧ (y.cls ≠ "java/lang/invoke/MethodHandle" ∧ y.cls ≠ "java/lang/invoke/VarHandle" ∧ (parseMethodDescriptor y.desc).map (fun d => d.parameters.length) = some n) ∧
  (Cond.methodLink own idx y ∈ Y.2.2.2.2 ∨ ∃ host, Cond.methodLinkNest own idx y host ∈ Y.2.2.2.1) ∧ ((vi = none ∧ Cond.static y ∈ Y.2.2.2.2) ∨ ∃ ci T N, vi = some ci ∧ Y.1[ci]? = some (y.cls, T, N) ∧ Cond.instanceMethod y ∈ Y.2.2.2.2 ∧ Cond.selects y.cls y y ∈ Y.2.2.2.2)
/-- arraycopy's pool number -/
def lm_pok (Y : lm_Y) (own : String) (fr lo idx : Nat) : Prop := idx = 0 ∨ (1 ≤ fr ∧ 26 ≤ lo ∧ Cond.methodLink own idx arraycopyName ∈ Y.2.2.2.2 ∧ Cond.native arraycopyName ∈ Y.2.2.2.2 ∧ Cond.static arraycopyName ∈ Y.2.2.2.2 ∧ Cond.initialized "java/lang/System" ∈ Y.2.2.2.2)
theorem lm_ckN {b : ByteArray} {pc nx : Nat} {i : Instr} {q : Bool} (h : ((match decode b pc with
    | .ok x => decide (x = (i, lm_len i))
    | _ => false) && decide (nx = pc + lm_len i) && q) = true) : decode b pc = .ok (i, lm_len i) ∧ nx = pc + lm_len i ∧ q = true := by
  rw [Bool.and_eq_true, Bool.and_eq_true] at h
  obtain ⟨⟨h1, h2⟩, h3⟩ := h
  refine ⟨?_, of_decide_eq_true h2, h3⟩
  split at h1
  · rename_i x hx
    rw [hx, of_decide_eq_true h1]
  · cases h1
theorem lm_ckS {b : ByteArray} {pc : Nat} {i : Instr} (h : (match decode b pc with
    | .ok x => decide (x.1 = i)
    | _ => false) = true) : ∃ n, decode b pc = .ok (i, n) := by
  split at h
  · rename_i x hx
    exact ⟨x.2, by rw [hx, ← of_decide_eq_true h]⟩
  · cases h
theorem lm_sw_of {pc : Nat} {x : Int32} {d : Int} {k : Nat → Prop} : ∀ {os : List Int} {lo : Int}, lm_sw pc x d k lo os → (∃ (j : Nat) (o : Int), os[j]? = some o ∧ x.toInt = lo + j ∧ k ((pc : Int) + o).toNat) ∨ ((x.toInt < lo ∨ lo + os.length ≤ x.toInt) ∧ k ((pc : Int) + d).toNat)
  | [], lo, h => Or.inr ⟨by simp only [List.length_nil]; omega, h⟩
  | o :: os, lo, h => by
    by_cases hx : x.toInt = lo
    · exact Or.inl ⟨0, o, rfl, by omega, h.1 hx⟩
    · rcases lm_sw_of (h.2 hx) with ⟨j, o1, h1, h2, h3⟩ | ⟨h1, h2⟩
      · exact Or.inl ⟨j + 1, o1, h1, by omega, h3⟩
      · exact Or.inr ⟨by simp only [List.length_cons]; omega, h2⟩
theorem lm_lw_of {pc : Nat} {x : Int32} {d : Int} {k : Nat → Prop} (hd : 0 ≤ (pc : Int) + d) : ∀ {l : List (Int × Int)}, (∀ q ∈ l, 0 ≤ (pc : Int) + q.2) → lm_lw pc x d k l → ∃ t : Nat, (pc : Int) + Op.lookupswitch.offset l d x.toInt = (t : Int) ∧ k t
  | [], _, h => ⟨((pc : Int) + d).toNat, by rw [Op.lookupswitch.offset_nil]; omega, h⟩
  | (a, o) :: r, hn, h => by
    by_cases hx : x.toInt = a
    · have h0 := hn (a, o) List.mem_cons_self
      exact ⟨((pc : Int) + o).toNat, by rw [Op.lookupswitch.offset_cons, if_pos hx.symm]; simp only at h0; omega, h.1 hx⟩
    · obtain ⟨t, h1, h2⟩ := lm_lw_of hd (fun q hq => hn q (List.mem_cons_of_mem _ hq)) (h.2 hx)
      exact ⟨t, by rw [Op.lookupswitch.offset_cons, if_neg (fun q => hx q.symm)]; exact h1, h2⟩
theorem lm_upmap (ad : Nat → Nat) (L : lm_L) (i : Nat) (v : Value) : (i, lm_t ad v) :: (L.map (fun q => (q.1, lm_t ad q.2))).filter (fun q => !(q.1 == i) && !(q.1 + 1 == i && q.2.category == 2)) = (lm_up L i v).map (fun q => (q.1, lm_t ad q.2)) := by
  simp only [lm_up, List.map_cons, List.filter_map, Function.comp_def, lm_tcat]
theorem lm_cat_map (ad : Nat → Nat) (st : List Value) : ((st.map (lm_t ad)).map fun v => v.category).sum = lm_cat st := by
  simp only [lm_cat, List.map_map, Function.comp_def, lm_tcat]
section LMS
variable {p : Program} {l : Launch} {e : Env} {R : Room} {s : State} {m : MethodId} {args : Array Value} {below : List Frame} {meth : Method} {c : Code} {Q : State → Prop} {Y : lm_Y} {X : lm_X} {nL : Nat} {cc : ByteArray} {own : String} {pc : Nat}
/-- behind a call -/
theorem lm_after {nc ns : Nat} {H : Heap} {locs : List Loc} {ls : Array Slot} {st0 rest : List Value} {a : Array Value} {post : Option Value → lm_S → Prop} (hr : va_Run p l e R s m args below meth c H locs nc ns 0 0 (F0 m pc ls st0) rest (lm_Qc Y X H.size post a) (lm_A Y.2.1.length X.2.2.1 H.size)) (hS : va_S (lm_A Y.2.1.length X.2.2.1 s.heap.size) s.heap H locs)
    (kk : ∀ (r : Option Value) (S1 : lm_S) (H1 : Heap) (locs1 : List Loc), post r S1 → va_P X.1 Y.1 (lm_W Y.2.1 X.2.2.1 X.2.2.2 S1) H1 → va_S (lm_A Y.2.1.length X.2.2.1 s.heap.size) s.heap H1 locs1 → W p l e R s m args below meth c H1 locs1 nc ns Q (F0 m (pc + 3) ls ((r.map (lm_t X.2.2.1)).toList ++ rest))) : W p l e R s m args below meth c H locs nc ns Q (F0 m pc ls st0) := by
  intro T hT Xs
  obtain ⟨v, st0, t, T1, Ll, h0, X1, hL, e1, e2, ⟨r, S1, hv, hp, hP1, hz, hkp⟩, st⟩ := hr T hT Xs
  cases hv
  rw [h0] at hz hkp
  obtain ⟨t2, a1, b1⟩ := kk r S1 T1.heap (locs ++ Ll) hp (by rw [e1]; exact hP1)
    ⟨Nat.le_trans hS.1 (by rw [e1]; exact hz), fun q h1 h2 => by rw [e1, hkp q (Nat.lt_of_lt_of_le h1 hS.1) (fun z => h2 (lm_A_le hS.1 q z))]; exact hS.2.1 q h1 h2, fun q hq => by
      rcases List.mem_append.mp hq with h | h
      · exact hS.2.2 q h
      · exact lm_A_le hS.1 _ (hL q h)⟩ T1 rfl X1
  exact ⟨t2, st t2 a1, b1⟩
theorem lm_good (hY : lm_Yok Y) {w : Cond} (h : w ∈ Y.2.2.2.2) : GoodIn Y.2.2.2.2 (w :: Y.2.2.2.2) := by
  intro x hx
  have hx2 : x ∈ Y.2.2.2.2 := by
    rcases List.mem_cons.mp hx with h1 | h1
    · rw [h1]; exact h
    · exact h1
  exact ⟨hx2, good_of_word (hY.1 x hx2)⟩
theorem lm_blind (hY : lm_Yok Y) {av : List Value} {sz : Nat} {S : lm_S} : FrameBlind (va_Pc av (lm_B Y X sz S)) := by
  intro a U g mk q
  obtain ⟨q0, q1, q2, q3, q4, q5⟩ := q
  exact ⟨q0, q1, q2, va_K.moved (u := U) (U := U.calling g mk a) (Vm.Alike.refl U.vm) q3, lm_nw_same hY (s := U) (U := U.calling g mk a) rfl q4, fun j C n vs hj => ⟨(q5 j C n vs hj).1.moved (U := U.calling g mk a) (Vm.Alike.refl U.vm), (q5 j C n vs hj).2.moved (U := U.calling g mk a) (Vm.Alike.refl U.vm)⟩⟩
theorem lm_pre (hY : lm_Yok Y) (C : lm_Cx p s m args c Y X nL cc own) {H : Heap} {locs : List Loc} {S : lm_S} (hP : va_P X.1 Y.1 (lm_W Y.2.1 X.2.2.1 X.2.2.2 S) H) (hS : va_S (lm_A Y.2.1.length X.2.2.1 s.heap.size) s.heap H locs) (av : List Value) :
    PreS s H (va_Pc av (lm_B Y X H.size S)) av := by
  obtain ⟨hx, hb, hml, hown, hts, hK, hN, hZ, hok⟩ := C
  exact ⟨lm_blind hY, fun U hU hW => ⟨rfl, by rw [hU], by rw [hU]; exact hP, va_K.moved hW.alike hK, lm_nw_warm hY hW hN, by rw [hU]; exact lm_Z_to hZ hW.alike hS.2.1 (lm_A_le hS.1)⟩⟩
set_option maxHeartbeats 4000000 in
theorem lm_closed {nc ns : Nat} (hcs : nc ≤ R.cells ∧ ns ≤ R.slots) {G : lm_G} {cal : lm_Ca} {post : Option Value → lm_S → Prop} (hY : lm_Yok Y) (C : lm_Cx p s m args c Y X nL cc own) (hcode : ∀ pc r, G.1.lookup pc = some r → lm_ck cc nL pc r = true) (hfok : lm_fok Y own G.2.1) (hsok : lm_sok Y own G.2.2.1) (hpok : lm_pok Y own R.frames R.locals G.2.2.2.1) (hcok : lm_cok l Y own R.frames R.locals cal)
    (hscr : ∀ n xs, G.2.2.2.2.2 = some (n, xs) → va_X (X.2.2.1 999) n xs s s.heap ∧ X.2.2.1 999 < s.heap.size ∧ ¬ lm_A Y.2.1.length X.2.2.1 s.heap.size (X.2.2.1 999))
    (hri : ∀ pc L x S, decode cc pc = .ok (.ireturn, 1) → (G.2.2.2.2.1 = 1 ∨ (G.2.2.2.2.1 = 2 ∧ x &&& 1 = x)) → post (some (.int x)) S → lm_LW p l e R nc ns s m args below meth c Y X nL Q pc L [.int x] S)
    (hrv : ∀ pc L S, decode cc pc = .ok (.return_, 1) → G.2.2.2.2.1 = 0 → post none S → lm_LW p l e R nc ns s m args below meth c Y X nL Q pc L [] S) :
    lm_Cl Y G cal post (lm_LW p l e R nc ns s m args below meth c Y X nL Q) := by
  refine ⟨fun pc r hr L st S k hk h => ?_, fun pc L1 L st S1 S hs he hz => ?_⟩
  · have hck := hcode pc r hr
    have hC := C
    obtain ⟨i, nx, a, tg⟩ := r
    intro H locs ls hP hS hl
    obtain ⟨hx, hb, hml, hown, hts, hK, hN, hZ, hok⟩ := C
    have hD := lm_Dof (sz := s.heap.size) (S := S) hok
    have hat : ∀ {j : Nat} {v : Value}, (j, v) ∈ L → ls[j]? = some (.val (lm_t X.2.2.1 v)) := fun {j v} hj => hl.2.2 (j, lm_t X.2.2.1 v) (List.mem_map.mpr ⟨(j, v), hj, rfl⟩)
    cases i with
    | iconst n =>
      obtain ⟨hd, rfl, hc⟩ := lm_ckN (i := .iconst n) hck
      exact lv_iconst hx hb hd (of_decide_eq_true hc) (hk _ _ _ _ h H locs ls hP hS hl)
    | bipush n =>
      obtain ⟨hd, rfl, hc⟩ := lm_ckN (i := .bipush n) hck
      exact lv_bipush hx hb hd (of_decide_eq_true hc) (hk _ _ _ _ h H locs ls hP hS hl)
    | sipush n =>
      obtain ⟨hd, rfl, hc⟩ := lm_ckN (i := .sipush n) hck
      exact lv_sipush hx hb hd (of_decide_eq_true hc) (hk _ _ _ _ h H locs ls hP hS hl)
    | iload_n j =>
      obtain ⟨hd, rfl, -⟩ := lm_ckN (i := .iload_n j) hck
      replace h := lm_li_of h
      obtain ⟨x, hm, h⟩ := h
      exact lv_iload_n hx hb hd rfl (hat hm) (hk _ _ _ _ h H locs ls hP hS hl)
    | iload j =>
      obtain ⟨hd, rfl, -⟩ := lm_ckN (i := .iload j) hck
      replace h := lm_li_of h
      obtain ⟨x, hm, h⟩ := h
      exact lv_iload hx hb hd (hat hm) (hk _ _ _ _ h H locs ls hP hS hl)
    | aload_n j =>
      obtain ⟨hd, rfl, -⟩ := lm_ckN (i := .aload_n j) hck
      replace h := lm_lr_of h
      obtain ⟨x, hm, h⟩ := h
      exact lv_aload_n hx hb hd rfl (hat hm) (hk _ _ _ _ h H locs ls hP hS hl)
    | aload j =>
      obtain ⟨hd, rfl, -⟩ := lm_ckN (i := .aload j) hck
      replace h := lm_lr_of h
      obtain ⟨x, hm, h⟩ := h
      exact lv_aload hx hb hd (hat hm) (hk _ _ _ _ h H locs ls hP hS hl)
    | istore_n j =>
      obtain ⟨hd, rfl, hc⟩ := lm_ckN (i := .istore_n j) hck
      replace h := lm_pi_of h
      obtain ⟨x, t, rfl, h⟩ := h
      exact lv_istore_n hx hb hd rfl hl (of_decide_eq_true hc) (lm_upmap X.2.2.1 L j.val (.int x)) (fun ls1 hl1 => hk _ _ _ _ h H locs ls1 hP hS hl1)
    | istore j =>
      obtain ⟨hd, rfl, hc⟩ := lm_ckN (i := .istore j) hck
      replace h := lm_pi_of h
      obtain ⟨x, t, rfl, h⟩ := h
      exact lv_istore hx hb hd hl (of_decide_eq_true hc) (lm_upmap X.2.2.1 L j (.int x)) (fun ls1 hl1 => hk _ _ _ _ h H locs ls1 hP hS hl1)
    | astore_n j =>
      obtain ⟨hd, rfl, hc⟩ := lm_ckN (i := .astore_n j) hck
      replace h := lm_pr_of h
      obtain ⟨x, t, rfl, h⟩ := h
      exact lv_astore_n hx hb hd rfl hl (of_decide_eq_true hc) (lm_upmap X.2.2.1 L j.val (.ref x)) (fun ls1 hl1 => hk _ _ _ _ h H locs ls1 hP hS hl1)
    | astore j =>
      obtain ⟨hd, rfl, hc⟩ := lm_ckN (i := .astore j) hck
      replace h := lm_pr_of h
      obtain ⟨x, t, rfl, h⟩ := h
      exact lv_astore hx hb hd hl (of_decide_eq_true hc) (lm_upmap X.2.2.1 L j (.ref x)) (fun ls1 hl1 => hk _ _ _ _ h H locs ls1 hP hS hl1)
    | iinc j n =>
      obtain ⟨hd, rfl, hc⟩ := lm_ckN (i := .iinc j n) hck
      rw [Bool.and_eq_true] at hc
      replace h := lm_li_of h
      obtain ⟨x, hm, h⟩ := h
      have hm2 : (j, Value.int x) ∈ L.map (fun q => (q.1, lm_t X.2.2.1 q.2)) := List.mem_map.mpr ⟨(j, .int x), hm, rfl⟩
      obtain ⟨kx, hkx⟩ := List.getElem?_of_mem hm2
      exact lv_iinc hx hb hd hl hkx (by rw [of_decide_eq_true hc.1]) (of_decide_eq_true hc.2) (lm_upmap X.2.2.1 L j (.int (x + a))) (fun ls1 hl1 => hk _ _ _ _ h H locs ls1 hP hS hl1)
    | iadd =>
      obtain ⟨hd, rfl, -⟩ := lm_ckN (i := .iadd) hck
      replace h := lm_pi_of h
      obtain ⟨y, t, rfl, h⟩ := h
      replace h := lm_pi_of h
      obtain ⟨x, t, rfl, h⟩ := h
      exact lv_iadd hx hb hd (hk _ _ _ _ h H locs ls hP hS hl)
    | isub =>
      obtain ⟨hd, rfl, -⟩ := lm_ckN (i := .isub) hck
      replace h := lm_pi_of h
      obtain ⟨y, t, rfl, h⟩ := h
      replace h := lm_pi_of h
      obtain ⟨x, t, rfl, h⟩ := h
      exact lv_isub hx hb hd (hk _ _ _ _ h H locs ls hP hS hl)
    | imul =>
      obtain ⟨hd, rfl, -⟩ := lm_ckN (i := .imul) hck
      replace h := lm_pi_of h
      obtain ⟨y, t, rfl, h⟩ := h
      replace h := lm_pi_of h
      obtain ⟨x, t, rfl, h⟩ := h
      exact lv_imul hx hb hd (hk _ _ _ _ h H locs ls hP hS hl)
    | iand =>
      obtain ⟨hd, rfl, -⟩ := lm_ckN (i := .iand) hck
      replace h := lm_pi_of h
      obtain ⟨y, t, rfl, h⟩ := h
      replace h := lm_pi_of h
      obtain ⟨x, t, rfl, h⟩ := h
      exact lv_iand hx hb hd (hk _ _ _ _ h H locs ls hP hS hl)
    | ior =>
      obtain ⟨hd, rfl, -⟩ := lm_ckN (i := .ior) hck
      replace h := lm_pi_of h
      obtain ⟨y, t, rfl, h⟩ := h
      replace h := lm_pi_of h
      obtain ⟨x, t, rfl, h⟩ := h
      exact lv_ior hx hb hd (hk _ _ _ _ h H locs ls hP hS hl)
    | ixor =>
      obtain ⟨hd, rfl, -⟩ := lm_ckN (i := .ixor) hck
      replace h := lm_pi_of h
      obtain ⟨y, t, rfl, h⟩ := h
      replace h := lm_pi_of h
      obtain ⟨x, t, rfl, h⟩ := h
      exact lv_ixor hx hb hd (hk _ _ _ _ h H locs ls hP hS hl)
    | ishl =>
      obtain ⟨hd, rfl, -⟩ := lm_ckN (i := .ishl) hck
      replace h := lm_pi_of h
      obtain ⟨y, t, rfl, h⟩ := h
      replace h := lm_pi_of h
      obtain ⟨x, t, rfl, h⟩ := h
      exact lv_ishl hx hb hd (hk _ _ _ _ h H locs ls hP hS hl)
    | ishr =>
      obtain ⟨hd, rfl, -⟩ := lm_ckN (i := .ishr) hck
      replace h := lm_pi_of h
      obtain ⟨y, t, rfl, h⟩ := h
      replace h := lm_pi_of h
      obtain ⟨x, t, rfl, h⟩ := h
      exact lv_ishr hx hb hd (hk _ _ _ _ h H locs ls hP hS hl)
    | idiv =>
      obtain ⟨hd, rfl, -⟩ := lm_ckN (i := .idiv) hck
      replace h := lm_pi_of h
      obtain ⟨y, t, rfl, h⟩ := h
      replace h := lm_pi_of h
      obtain ⟨x, t, rfl, h⟩ := h
      exact lv_idiv hx hb hd h.1 (hk _ _ _ _ h.2 H locs ls hP hS hl)
    | irem =>
      obtain ⟨hd, rfl, -⟩ := lm_ckN (i := .irem) hck
      replace h := lm_pi_of h
      obtain ⟨y, t, rfl, h⟩ := h
      replace h := lm_pi_of h
      obtain ⟨x, t, rfl, h⟩ := h
      exact lv_irem hx hb hd h.1 (hk _ _ _ _ h.2 H locs ls hP hS hl)
    | dup =>
      obtain ⟨hd, rfl, -⟩ := lm_ckN (i := .dup) hck
      replace h : lm_pv st (fun a t => k (pc + lm_len .dup) L (a :: a :: t) S) := h
      replace h := lm_pv_of h
      obtain ⟨x, t, rfl, hc, h⟩ := h
      exact lv_dup hx hb hd (by rw [lm_tcat]; exact hc) (hk _ _ _ _ h H locs ls hP hS hl)
    | pop =>
      obtain ⟨hd, rfl, -⟩ := lm_ckN (i := .pop) hck
      replace h : lm_pv st (fun _ t => k (pc + lm_len .pop) L t S) := h
      replace h := lm_pv_of h
      obtain ⟨x, t, rfl, hc, h⟩ := h
      exact lv_pop hx hb hd (by rw [lm_tcat]; exact hc) (hk _ _ _ _ h H locs ls hP hS hl)
    | dup2 =>
      obtain ⟨hd, rfl, -⟩ := lm_ckN (i := .dup2) hck
      replace h : lm_pv st (fun a t => lm_pv t (fun b t => k (pc + lm_len .dup2) L (a :: b :: a :: b :: t) S)) := h
      replace h := lm_pv_of h
      obtain ⟨x, t, rfl, hc, h⟩ := h
      replace h := lm_pv_of h
      obtain ⟨y, t, rfl, hc2, h⟩ := h
      exact lv_dup2_11 hx hb hd (by rw [lm_tcat]; exact hc) (by rw [lm_tcat]; exact hc2) (hk _ _ _ _ h H locs ls hP hS hl)
    | dup_x1 =>
      obtain ⟨hd, rfl, -⟩ := lm_ckN (i := .dup_x1) hck
      replace h : lm_pv st (fun a t => lm_pv t (fun b t => k (pc + lm_len .dup_x1) L (a :: b :: a :: t) S)) := h
      replace h := lm_pv_of h
      obtain ⟨x, t, rfl, hc, h⟩ := h
      replace h := lm_pv_of h
      obtain ⟨y, t, rfl, hc2, h⟩ := h
      exact lv_dup_x1 hx hb hd (by rw [lm_tcat]; exact hc) (by rw [lm_tcat]; exact hc2) (hk _ _ _ _ h H locs ls hP hS hl)
    | dup_x2 =>
      obtain ⟨hd, rfl, -⟩ := lm_ckN (i := .dup_x2) hck
      replace h : lm_pv st (fun a t => lm_pv t (fun b t => lm_pv t (fun d t => k (pc + lm_len .dup_x2) L (a :: b :: d :: a :: t) S))) := h
      replace h := lm_pv_of h
      obtain ⟨x, t, rfl, hc, h⟩ := h
      replace h := lm_pv_of h
      obtain ⟨y, t, rfl, hc2, h⟩ := h
      replace h := lm_pv_of h
      obtain ⟨z, t, rfl, hc3, h⟩ := h
      exact lv_dup_x2 hx hb hd (by rw [lm_tcat]; exact hc) (by rw [lm_tcat]; exact hc2) (by rw [lm_tcat]; exact hc3) (hk _ _ _ _ h H locs ls hP hS hl)
    | ifCond q o =>
      obtain ⟨hd, rfl, hc⟩ := lm_ckN (i := .ifCond q o) hck
      have ht : (pc : Int) + o = (tg : Int) := of_decide_eq_true hc
      replace h := lm_pi_of h
      obtain ⟨x, t, rfl, h⟩ := h
      cases q with
      | eq => exact lv_if_eq hx hb hd ht (fun z => hk _ _ _ _ (h.1 z) H locs ls hP hS hl) (fun z => hk _ _ _ _ (h.2 z) H locs ls hP hS hl)
      | ne => exact lv_if_ne hx hb hd ht (fun z => hk _ _ _ _ (h.1 z) H locs ls hP hS hl) (fun z => hk _ _ _ _ (h.2 z) H locs ls hP hS hl)
      | lt => exact lv_if_lt hx hb hd ht (fun z => hk _ _ _ _ (h.1 z) H locs ls hP hS hl) (fun z => hk _ _ _ _ (h.2 z) H locs ls hP hS hl)
      | ge => exact lv_if_ge hx hb hd ht (fun z => hk _ _ _ _ (h.1 z) H locs ls hP hS hl) (fun z => hk _ _ _ _ (h.2 z) H locs ls hP hS hl)
      | gt => exact lv_if_gt hx hb hd ht (fun z => hk _ _ _ _ (h.1 z) H locs ls hP hS hl) (fun z => hk _ _ _ _ (h.2 z) H locs ls hP hS hl)
      | le => exact lv_if_le hx hb hd ht (fun z => hk _ _ _ _ (h.1 z) H locs ls hP hS hl) (fun z => hk _ _ _ _ (h.2 z) H locs ls hP hS hl)
    | if_icmp q o =>
      obtain ⟨hd, rfl, hc⟩ := lm_ckN (i := .if_icmp q o) hck
      have ht : (pc : Int) + o = (tg : Int) := of_decide_eq_true hc
      replace h := lm_pi_of h
      obtain ⟨y, t, rfl, h⟩ := h
      replace h := lm_pi_of h
      obtain ⟨x, t, rfl, h⟩ := h
      cases q with
      | eq => exact lv_icmp_eq hx hb hd ht (fun z => hk _ _ _ _ (h.1 z) H locs ls hP hS hl) (fun z => hk _ _ _ _ (h.2 z) H locs ls hP hS hl)
      | ne => exact lv_icmp_ne hx hb hd ht (fun z => hk _ _ _ _ (h.1 z) H locs ls hP hS hl) (fun z => hk _ _ _ _ (h.2 z) H locs ls hP hS hl)
      | lt => exact lv_icmp_lt hx hb hd ht (fun z => hk _ _ _ _ (h.1 z) H locs ls hP hS hl) (fun z => hk _ _ _ _ (h.2 z) H locs ls hP hS hl)
      | ge => exact lv_icmp_ge hx hb hd ht (fun z => hk _ _ _ _ (h.1 z) H locs ls hP hS hl) (fun z => hk _ _ _ _ (h.2 z) H locs ls hP hS hl)
      | gt => exact lv_icmp_gt hx hb hd ht (fun z => hk _ _ _ _ (h.1 z) H locs ls hP hS hl) (fun z => hk _ _ _ _ (h.2 z) H locs ls hP hS hl)
      | le => exact lv_icmp_le hx hb hd ht (fun z => hk _ _ _ _ (h.1 z) H locs ls hP hS hl) (fun z => hk _ _ _ _ (h.2 z) H locs ls hP hS hl)
    | goto o =>
      obtain ⟨hd, rfl, hc⟩ := lm_ckN (i := .goto o) hck
      exact lv_goto hx hb hd (of_decide_eq_true hc) (hk _ _ _ _ h H locs ls hP hS hl)
    | tableswitch d lo hi offs =>
      have hq : ((match decode cc pc with
        | .ok x => decide (x.1 = Instr.tableswitch d lo hi offs)
        | _ => false) && decide ((offs.size : Int) = hi - lo + 1) && decide (0 ≤ (pc : Int) + d) && offs.toList.all (fun o => decide (0 ≤ (pc : Int) + o))) = true := hck
      rw [Bool.and_eq_true, Bool.and_eq_true, Bool.and_eq_true] at hq
      obtain ⟨⟨⟨h1, h2⟩, h3⟩, h4⟩ := hq
      obtain ⟨n, hd⟩ := lm_ckS h1
      have h2 := of_decide_eq_true h2
      have h3 := of_decide_eq_true h3
      replace h := lm_pi_of h
      obtain ⟨x, t, rfl, h⟩ := h
      replace h := lm_sw_of h
      rcases h with ⟨j, o, g1, g2, g3⟩ | ⟨g1, g2⟩
      · have g4 : j < offs.size := by
          have := (List.getElem?_eq_some_iff.mp g1).1
          simpa using this
        have g5 := of_decide_eq_true (List.all_eq_true.mp h4 o (List.mem_of_getElem? g1))
        exact lv_tableIn hx hb hd (by omega) (by omega) (off := o) (by rw [show (x.toInt - lo).toNat = j by omega, ← Array.getElem?_toList]; exact g1) (tgt := ((pc : Int) + o).toNat) (by omega) (hk _ _ _ _ g3 H locs ls hP hS hl)
      · exact lv_tableOut hx hb hd (by rw [Array.length_toList] at g1; omega) (tgt := ((pc : Int) + d).toNat) (by omega) (hk _ _ _ _ g2 H locs ls hP hS hl)
    | lookupswitch d ps =>
      have hq : ((match decode cc pc with
        | .ok x => decide (x.1 = Instr.lookupswitch d ps)
        | _ => false) && decide (0 ≤ (pc : Int) + d) && ps.toList.all (fun o => decide (0 ≤ (pc : Int) + o.2)) && (ps.toList.zip (ps.toList.drop 1)).all (fun (a, next) => decide (a.1 < next.1))) = true := hck
      rw [Bool.and_eq_true, Bool.and_eq_true, Bool.and_eq_true] at hq
      obtain ⟨⟨⟨h1, h2⟩, h3⟩, h4⟩ := hq
      obtain ⟨n, hd⟩ := lm_ckS h1
      replace h := lm_pi_of h
      obtain ⟨x, t, rfl, h⟩ := h
      obtain ⟨tgt, g1, g2⟩ := lm_lw_of (of_decide_eq_true h2) (fun q hq => of_decide_eq_true (List.all_eq_true.mp h3 q hq)) h
      exact lv_lookup hx hb hd h4 rfl g1 (hk _ _ _ _ g2 H locs ls hP hS hl)
    | getfield idx =>
      obtain ⟨hd, rfl, -⟩ := lm_ckN (i := .getfield idx) hck
      replace h := lm_pr_of h
      obtain ⟨x, t, rfl, h⟩ := h
      replace h := lm_fd_of h
      obtain ⟨ci, f, gl, o, h1, h2, h3, h⟩ := h
      obtain ⟨C1, T, N, g1, g2, g3, g4⟩ := hfok idx ci f h1
      obtain ⟨ty0, y1, y2, y3, y4⟩ := hY.2.2 ci C1 T N g1
      have he : (lm_W Y.2.1 X.2.2.1 X.2.2.2 S)[x]? = some (X.2.2.1 x, .inr (ci, gl.mapIdx (fun k r => lm_v X.2.2.1 (S x k) r))) := lm_get h2
      have hv : (gl.mapIdx (fun k r => lm_v X.2.2.1 (S x k) r))[f]? = some (lm_v X.2.2.1 (S x f) o) := by rw [List.getElem?_mapIdx, h3]; rfl
      have kk : W p l e R s m args below meth c H locs nc ns Q (F0 m (pc + 3) ls (lm_v X.2.2.1 (S x f) o :: t.map (lm_t X.2.2.1))) := by
        cases o with
        | none => exact hk _ _ _ _ h H locs ls hP hS hl
        | some b => exact hk _ _ _ _ h H locs ls hP hS hl
      rcases g4 with g4 | ⟨host, g4⟩
      · exact va_get hx hb hts y3 hown hK hP x he g1 f g2 (hts _ g4) (fun z hz => by rw [g3] at hz; exact hz) hv hd kk
      · exact va_getN hx hb hts y3 hown hK hP x he g1 f g2 (va_Nw.use rfl (hN _ g4)) (fun z hz => by rw [g3] at hz; exact hz) hv hd kk
    | putfield idx =>
      obtain ⟨hd, rfl, -⟩ := lm_ckN (i := .putfield idx) hck
      replace h := lm_pi_of h
      obtain ⟨v, t, rfl, h⟩ := h
      replace h := lm_pr_of h
      obtain ⟨x, t, rfl, h⟩ := h
      replace h := lm_fd_of h
      obtain ⟨ci, f, gl, o, h1, h2, h3, h⟩ := h
      obtain ⟨C1, T, N, g1, g2, g3, g4⟩ := hfok idx ci f h1
      obtain ⟨ty0, y1, y2, y3, y4⟩ := hY.2.2 ci C1 T N g1
      cases o with
      | some b => exact h.elim
      | none =>
        obtain ⟨z1, z2⟩ := y4 x f gl h2 h3
        have he : (lm_W Y.2.1 X.2.2.1 X.2.2.2 S)[x]? = some (X.2.2.1 x, .inr (ci, gl.mapIdx (fun k r => lm_v X.2.2.1 (S x k) r))) := lm_get h2
        have hlen : f < (gl.mapIdx (fun k r => lm_v X.2.2.1 (S x k) r)).length := by
          rw [List.length_mapIdx]
          exact (List.getElem?_eq_some_iff.mp h3).1
        rcases g4 with g4 | ⟨host, g4⟩
        · exact va_put hx hb hts y3 ty0 y1 y2 hown hK hP hD hS x he g1 f g2 (hts _ g4) (fun z hz => by rw [g3] at hz; exact hz) z1 z2 rfl rfl hlen hd (fun H1 locs1 hP1 _ hS1 => hk _ _ _ _ h H1 locs1 ls (by
            have hP2 : va_P X.1 Y.1 ((lm_W Y.2.1 X.2.2.1 X.2.2.2 S).set x (X.2.2.1 x, .inr (ci, (gl.mapIdx (fun k r => lm_v X.2.2.1 (S x k) r)).set f (.int v)))) H1 := hP1
            rw [lm_setO h2 h3 v] at hP2
            exact hP2) hS1 hl)
        · exact va_putN hx hb hts y3 ty0 y1 y2 hown hK hP hD hS x he g1 f g2 (va_Nw.use rfl (hN _ g4)) (fun z hz => by rw [g3] at hz; exact hz) z1 z2 rfl rfl hlen hd (fun H1 locs1 hP1 _ hS1 => hk _ _ _ _ h H1 locs1 ls (by
            have hP2 : va_P X.1 Y.1 ((lm_W Y.2.1 X.2.2.1 X.2.2.2 S).set x (X.2.2.1 x, .inr (ci, (gl.mapIdx (fun k r => lm_v X.2.2.1 (S x k) r)).set f (.int v)))) H1 := hP1
            rw [lm_setO h2 h3 v] at hP2
            exact hP2) hS1 hl)
    | getstatic idx =>
      obtain ⟨hd, rfl, -⟩ := lm_ckN (i := .getstatic idx) hck
      replace h : (match G.2.2.1.lookup idx with
        | some j => k (pc + lm_len (.getstatic idx)) L (.ref (1000 + j) :: st) S
        | none => False) := h
      split at h
      · rename_i j hj
        obtain ⟨C1, n, vs, g1, g2⟩ := hsok idx j hj
        have z := (hZ j C1 n vs g1).1
        rcases g2 with g2 | ⟨host, g2⟩
        · exact va_gets hx hb z hS hown (hts _ g2) (fun _ h9 => h9) hd (hk _ _ _ _ h H locs ls hP hS hl)
        · exact va_getsN hx hb z hS hown (va_Nw.use rfl (hN _ g2)) (fun _ h9 => h9) hd (hk _ _ _ _ h H locs ls hP hS hl)
      · exact h.elim
    | arraylength =>
      obtain ⟨hd, rfl, -⟩ := lm_ckN (i := .arraylength) hck
      replace h := lm_pr_of h
      obtain ⟨x, t, rfl, h⟩ := h
      replace h : (match Nat.beq x 999 with
        | true => match G.2.2.2.2.2 with
          | some (n, _) => k (pc + lm_len .arraylength) L (.int (Int32.ofNat n) :: t) S
          | none => False
        | false => False) := h
      split at h
      · rename_i h1
        split at h
        · rename_i n xs h2
          have e1 : x = 999 := Nat.eq_of_beq_eq_true h1
          subst e1
          obtain ⟨g1, g2, g3⟩ := hscr n xs h2
          exact va_slen hx hb g1 g2 g3 hS hd (hk _ _ _ _ h H locs ls hP hS hl)
        · exact h.elim
      · exact h.elim
    | iaload =>
      obtain ⟨hd, rfl, -⟩ := lm_ckN (i := .iaload) hck
      replace h := lm_pi_of h
      obtain ⟨j, t, rfl, h⟩ := h
      replace h := lm_pr_of h
      obtain ⟨x, t, rfl, h⟩ := h
      replace h := lm_ld_of h
      rcases h with ⟨n, h1, h2, h3⟩ | ⟨q, C1, nm, vs, rfl, h1, h2, h3⟩ | ⟨n, xs, rfl, h1, h2, h3⟩
      · have he : (lm_W Y.2.1 X.2.2.1 X.2.2.2 S)[x]? = some (X.2.2.1 x, .inl (X.2.2.2 x, n, .inl (S x))) := lm_get h1
        obtain ⟨t0, ht0⟩ := List.getElem?_of_mem (hok.2 x .int n h1)
        exact va_iald hx hb hK hP x t0 he ht0 h2 hd (hk _ _ _ _ h3 H locs ls hP hS hl)
      · exact va_ti hx hb (hZ q C1 nm vs h1).2 hS h2 rfl hd (hk _ _ _ _ h3 H locs ls hP hS hl)
      · obtain ⟨g1, g2, g3⟩ := hscr n xs h1
        exact va_sld hx hb g1 g2 g3 hS h2 hd (hk _ _ _ _ h3 H locs ls hP hS hl)
    | baload =>
      obtain ⟨hd, rfl, -⟩ := lm_ckN (i := .baload) hck
      replace h := lm_pi_of h
      obtain ⟨j, t, rfl, h⟩ := h
      replace h := lm_pr_of h
      obtain ⟨x, t, rfl, h⟩ := h
      obtain ⟨n, h1, h2, h3⟩ := lm_az_of h
      have he : (lm_W Y.2.1 X.2.2.1 X.2.2.2 S)[x]? = some (X.2.2.1 x, .inl (X.2.2.2 x, n, .inl (S x))) := lm_get h1
      obtain ⟨t0, ht0⟩ := List.getElem?_of_mem (hok.2 x .boolean n h1)
      exact va_zald hx hb hK hP x t0 he ht0 h2 hd (hk _ _ _ _ h3 H locs ls hP hS hl)
    | iastore =>
      obtain ⟨hd, rfl, -⟩ := lm_ckN (i := .iastore) hck
      replace h := lm_pi_of h
      obtain ⟨v, t, rfl, h⟩ := h
      replace h := lm_pi_of h
      obtain ⟨j, t, rfl, h⟩ := h
      replace h := lm_pr_of h
      obtain ⟨x, t, rfl, h⟩ := h
      obtain ⟨n, h1, h2, h3⟩ := lm_ai_of h
      have he : (lm_W Y.2.1 X.2.2.1 X.2.2.2 S)[x]? = some (X.2.2.1 x, .inl (X.2.2.2 x, n, .inl (S x))) := lm_get h1
      obtain ⟨t0, ht0⟩ := List.getElem?_of_mem (hok.2 x .int n h1)
      exact va_iast hx hb hK hP hD hS x t0 he ht0 h2 hd (fun H1 locs1 hP1 _ hS1 => hk _ _ _ _ h3 H1 locs1 ls (by rw [lm_setA h1] at hP1; exact hP1) hS1 hl)
    | bastore =>
      obtain ⟨hd, rfl, -⟩ := lm_ckN (i := .bastore) hck
      replace h := lm_pi_of h
      obtain ⟨v, t, rfl, h⟩ := h
      replace h := lm_pi_of h
      obtain ⟨j, t, rfl, h⟩ := h
      replace h := lm_pr_of h
      obtain ⟨x, t, rfl, h⟩ := h
      obtain ⟨n, h1, h2, h3⟩ := lm_az_of h
      have he : (lm_W Y.2.1 X.2.2.1 X.2.2.2 S)[x]? = some (X.2.2.1 x, .inl (X.2.2.2 x, n, .inl (S x))) := lm_get h1
      obtain ⟨t0, ht0⟩ := List.getElem?_of_mem (hok.2 x .boolean n h1)
      exact va_zast hx hb hK hP hD hS x t0 he ht0 h2 hd (fun H1 locs1 hP1 _ hS1 => hk _ _ _ _ h3 H1 locs1 ls (by rw [lm_setA h1] at hP1; exact hP1) hS1 hl)
    | invokestatic idx =>
      obtain ⟨hd, rfl, hc⟩ := lm_ckN (i := .invokestatic idx) hck
      have hpos : 0 < idx := of_decide_eq_true hc
      replace h : (match Nat.beq idx G.2.2.2.1 with
        | true => lm_cp Y st S (fun t S1 => k (pc + lm_len (.invokestatic idx)) L t S1)
        | false => lm_cs cal idx st S (fun t S1 => k (pc + lm_len (.invokestatic idx)) L t S1)) := h
      split at h
      · rename_i h1
        have e1 : idx = G.2.2.2.1 := Nat.eq_of_beq_eq_true h1
        rcases hpok with h0 | ⟨f1, f2, f3, f4, f5, f6⟩
        · omega
        rw [← e1] at f3
        replace h := lm_pi_of h
        obtain ⟨n, t, rfl, h⟩ := h
        replace h := lm_pi_of h
        obtain ⟨dp, t, rfl, h⟩ := h
        replace h := lm_pr_of h
        obtain ⟨xb, t, rfl, h⟩ := h
        replace h := lm_pi_of h
        obtain ⟨sp, t, rfl, h⟩ := h
        replace h := lm_pr_of h
        obtain ⟨xa, t, rfl, h⟩ := h
        replace h := lm_ai_of h
        obtain ⟨n0, q0, h⟩ := h
        replace h := lm_ai_of h
        obtain ⟨n1, q1, h⟩ := h
        split at h
        · rename_i hcat
          obtain ⟨⟨c1, c2, c3, c4, c5⟩, h⟩ := h
          have he0 : (lm_W Y.2.1 X.2.2.1 X.2.2.2 S)[xa]? = some (X.2.2.1 xa, .inl (X.2.2.2 xa, n0, .inl (S xa))) := lm_get q0
          have he1 : (lm_W Y.2.1 X.2.2.1 X.2.2.2 S)[xb]? = some (X.2.2.1 xb, .inl (X.2.2.2 xb, n1, .inl (S xb))) := lm_get q1
          obtain ⟨t0, ht0⟩ := List.getElem?_of_mem (hok.2 xa .int n0 q0)
          obtain ⟨t1, ht1⟩ := List.getElem?_of_mem (hok.2 xb .int n1 q1)
          exact va_copyi hx hb (by rw [hml, hl.1]) hown (hts _ f3) (hts _ f4) (hts _ f5) (hts _ f6) hK hP hD hS xa xb t0 t1 he0 he1 ht0 ht1 rfl c1 c2 c3 c4 c5 (fun _ _ => rfl) f1 (by
            rw [lm_cat_map]
            have := Nat.le_of_ble_eq_true hcat
            have e9 : nativeFrameWords "java/lang/System" "arraycopy" 5 = 7 := by decide
            omega) hd (fun H1 locs1 hP1 _ hS1 => hk _ _ _ _ h H1 locs1 ls (by rw [lm_setA q1] at hP1; exact hP1) hS1 hl)
        · exact h.elim
      · replace h := lm_cs_of h
        obtain ⟨n, sp, as, rest, g1, rfl, g3, g4, g5⟩ := h
        obtain ⟨y, b, mL, rt, f1, lo1, i1, ⟨i2, i3⟩, i4, i5, i6, i7, i8⟩ := hcok idx n none sp g1
        have hstat : Cond.static y ∈ Y.2.2.2.2 := by
          rcases i8 with i8 | ⟨ci, T, N, i8, -⟩
          · exact i8.2
          · cases i8
        have hM := i1 X H.size as S _ hok g5
        have hpre := lm_pre hY hC hP hS (as.map (lm_t X.2.2.1))
        have hst : (as.reverse ++ rest).map (lm_t X.2.2.1) = (as.map (lm_t X.2.2.1)).reverse ++ rest.map (lm_t X.2.2.1) := by rw [List.map_append, List.map_reverse]
        have hrm : 2 * (F0 m pc ls ((as.reverse ++ rest).map (lm_t X.2.2.1))).monitorRoom + ((rest.map (lm_t X.2.2.1)).map fun v => v.category).sum ≤ 8 := lv_room (by rw [lm_cat_map]; exact g4)
        have hlen : (as.map (lm_t X.2.2.1)).length = n := by rw [List.length_map]; exact g3
        have kk : ∀ (r : Option Value) (S1 : lm_S) (H1 : Heap) (locs1 : List Loc), k (pc + lm_len (.invokestatic idx)) L (r.toList ++ rest) S1 → va_P X.1 Y.1 (lm_W Y.2.1 X.2.2.1 X.2.2.2 S1) H1 → va_S (lm_A Y.2.1.length X.2.2.1 s.heap.size) s.heap H1 locs1 → W p l e R s m args below meth c H1 locs1 nc ns Q (F0 m (pc + 3) ls ((r.map (lm_t X.2.2.1)).toList ++ rest.map (lm_t X.2.2.1))) := by
          intro r S1 H1 locs1 h1 h2 h3
          have h4 := hk _ _ _ _ h1 H1 locs1 ls h2 h3 hl
          cases r with
          | none => exact h4
          | some v => exact h4
        rcases i7 with i7 | ⟨host, i7⟩
        · exact lm_after (va_runS ⟨hx, hb, hml, hown, hts⟩ hM ⟨callB_of n hts (lm_good hY i4) rfl rfl rfl (hts _ i5) (hts _ i7) i6 ⟨i2, i3⟩, hts _ hstat⟩ hpre rfl hlen hl.1 hst hrm hd hcs) hS kk
        · exact lm_after (va_runSN ⟨hx, hb, hml, hown, hts⟩ hM ⟨va_cnB n hts (lm_good hY i4) rfl rfl rfl (hN _ i7) (hts _ i5) i6 ⟨i2, i3⟩, hts _ hstat, trivial⟩ hpre rfl hlen hl.1 hst hrm hd hcs) hS kk
    | invokevirtual idx =>
      obtain ⟨hd, rfl, -⟩ := lm_ckN (i := .invokevirtual idx) hck
      replace h := lm_cv_of h
      obtain ⟨n, ci, sp, as, x, gl, rest, g1, rfl, g3, g4, g6, g5⟩ := h
      obtain ⟨y, b, mL, rt, f1, lo1, i1, ⟨i2, i3⟩, i4, i5, i6, i7, i8⟩ := hcok idx n (some ci) sp g1
      obtain ⟨T, N, z1, z2, z3⟩ : ∃ T N, Y.1[ci]? = some (y.cls, T, N) ∧ Cond.instanceMethod y ∈ Y.2.2.2.2 ∧ Cond.selects y.cls y y ∈ Y.2.2.2.2 := by
        rcases i8 with i8 | ⟨cj, T, N, i8, i9⟩
        · cases i8.1
        · cases i8
          exact ⟨T, N, i9⟩
      have he : (lm_W Y.2.1 X.2.2.1 X.2.2.2 S)[x]? = some (X.2.2.1 x, .inr (ci, gl.mapIdx (fun k r => lm_v X.2.2.1 (S x k) r))) := lm_get g6
      have hM := i1 X H.size (.ref x :: as) S _ hok g5
      have hpre0 := lm_pre hY hC hP hS ((Value.ref x :: as).map (lm_t X.2.2.1))
      have hpre : PreV s H y.cls (X.2.2.1 x) (va_Pc ((Value.ref x :: as).map (lm_t X.2.2.1)) (lm_B Y X H.size S)) (as.map (lm_t X.2.2.1)) := ⟨hpre0.1, va_recv hK hP z1 he, hpre0.2⟩
      have hst : (as.reverse ++ Value.ref x :: rest).map (lm_t X.2.2.1) = (as.map (lm_t X.2.2.1)).reverse ++ Value.ref (X.2.2.1 x) :: rest.map (lm_t X.2.2.1) := by rw [List.map_append, List.map_reverse]; rfl
      have hrm : 2 * (F0 m pc ls ((as.reverse ++ Value.ref x :: rest).map (lm_t X.2.2.1))).monitorRoom + ((rest.map (lm_t X.2.2.1)).map fun v => v.category).sum ≤ 8 := lv_room (by rw [lm_cat_map]; exact g4)
      have hlen : (as.map (lm_t X.2.2.1)).length = n := by rw [List.length_map]; exact g3
      have kk : ∀ (r : Option Value) (S1 : lm_S) (H1 : Heap) (locs1 : List Loc), k (pc + lm_len (.invokevirtual idx)) L (r.toList ++ rest) S1 → va_P X.1 Y.1 (lm_W Y.2.1 X.2.2.1 X.2.2.2 S1) H1 → va_S (lm_A Y.2.1.length X.2.2.1 s.heap.size) s.heap H1 locs1 → W p l e R s m args below meth c H1 locs1 nc ns Q (F0 m (pc + 3) ls ((r.map (lm_t X.2.2.1)).toList ++ rest.map (lm_t X.2.2.1))) := by
        intro r S1 H1 locs1 h1 h2 h3
        have h4 := hk _ _ _ _ h1 H1 locs1 ls h2 h3 hl
        cases r with
        | none => exact h4
        | some v => exact h4
      rcases i7 with i7 | ⟨host, i7⟩
      · exact lm_after (va_runV ⟨hx, hb, hml, hown, hts⟩ hM ⟨callB_of n hts (lm_good hY i4) rfl rfl rfl (hts _ i5) (hts _ i7) i6 ⟨i2, i3⟩, hts _ z2, hts _ z3⟩ hpre rfl hlen hl.1 hst hrm hd hcs) hS kk
      · exact lm_after (va_runVN ⟨hx, hb, hml, hown, hts⟩ hM ⟨va_cnB n hts (lm_good hY i4) rfl rfl rfl (hN _ i7) (hts _ i5) i6 ⟨i2, i3⟩, hts _ z2, hts _ z3⟩ hpre rfl hlen hl.1 hst hrm hd hcs) hS kk
    | ireturn =>
      obtain ⟨hd, rfl, -⟩ := lm_ckN (i := .ireturn) hck
      replace h := lm_pi_of h
      obtain ⟨x, t, rfl, h⟩ := h
      cases t with
      | cons v t => exact h.elim
      | nil =>
        replace h : (match G.2.2.2.2.1 with
          | 1 => post (some (.int x)) S
          | 2 => x &&& 1 = x ∧ post (some (.int x)) S
          | _ => False) := h
        split at h
        · rename_i hq
          exact hri pc L x S hd (Or.inl hq) h H locs ls hP hS hl
        · rename_i hq
          exact hri pc L x S hd (Or.inr ⟨hq, h.1⟩) h.2 H locs ls hP hS hl
        · exact h.elim
    | return_ =>
      obtain ⟨hd, rfl, -⟩ := lm_ckN (i := .return_) hck
      cases st with
      | cons v t => exact h.elim
      | nil =>
        replace h : (match G.2.2.2.2.1 with
          | 0 => post none S
          | _ => False) := h
        split at h
        · rename_i hq
          exact hrv pc L S hd hq h H locs ls hP hS hl
        · exact h.elim
    | _ => exact False.elim h
  · intro H locs ls hP hS hl
    refine hz H locs ls (lm_P_eq he hP) hS ⟨hl.1, hl.2.1, fun q hq => ?_⟩
    obtain ⟨q0, h1, rfl⟩ := List.mem_map.mp hq
    exact hl.2.2 _ (List.mem_map.mpr ⟨q0, lm_lk (hs q0 h1), rfl⟩)
end LMS
theorem lm_args (ad : Nat → Nat) : ∀ (vs : List Value) (i : Nat), (lv_args i vs).map (fun q => (q.1, lm_t ad q.2)) = lv_args i (vs.map (lm_t ad))
  | [], _ => rfl
  | v :: vs, i => by
    simp only [lv_args, List.map_cons, lm_tcat]
    rw [lm_args ad vs]
theorem lm_sl (ad : Nat → Nat) (vs : List Value) : (lg_sl (vs.map (lm_t ad))).length = (lg_sl vs).length := by
  induction vs with
  | nil => rfl
  | cons v vs ih =>
    simp only [lg_sl, List.map_cons, List.flatMap_cons, List.length_append, lm_tcat] at *
    rw [ih]
    split <;> rfl
set_option maxHeartbeats 4000000 in
/-- a method: its light walk is its contract -/
theorem lm_impl {l : Launch} {Y : lm_Y} {y : MethodName} {b : ByteArray} {mL : Nat} {rt : Option FieldType} {f lo : Nat} {sp : lm_Sp} (G : lm_G) (cal : lm_Ca) (hy : plainName y.cls = true) (hY : lm_Yok Y) (hcode : ∀ pc r, G.1.lookup pc = some r → lm_ck b mL pc r = true) (hfok : lm_fok Y y.cls G.2.1) (hsok : lm_sok Y y.cls G.2.2.1) (hpok : lm_pok Y y.cls f lo G.2.2.2.1) (hcok : lm_cok l Y y.cls f lo cal)
    (hg : G.2.2.2.2.2 = none) (hrt : (rt = some .int ∧ G.2.2.2.2.1 = 1) ∨ (rt = some .boolean ∧ G.2.2.2.2.1 = 2) ∨ (rt = none ∧ G.2.2.2.2.1 = 0))
    (hb : ∀ av S post, sp av S post → (lg_sl av).length ≤ mL ∧ lm_Go Y G cal post 0 (lv_args 0 av) [] S) : lm_I l Y y b mL rt f lo sp := by
  intro X sz av S post hok hsp
  obtain ⟨hlen, hgo⟩ := hb av S post hsp
  refine Met.ofW (cc := b) (maxL := mL) (ret := rt) hy rfl ?_
  intro p e s m args below meth c s₁ B hml hv
  obtain ⟨rfl, hsz, hP, hK, hN, hZ⟩ := hv
  have hx := B.exec
  have hbb := B.bytes
  have hr := B.returns
  have hts0 := atoms_spec (ws := Cond.code y b mL rt :: Y.2.2.2.2) B.pre
  have hown : s.vm.findClass y.cls = some m.cls := findClass_of_methodNamed B.named
  have hlocks := B.notSynchronized
  subst hsz
  have C : lm_Cx p s m (av.map (lm_t X.2.2.1)).toArray c Y X mL b y.cls := ⟨hx, hbb, hml, hown, fun w hw => hts0 w (List.mem_cons_of_mem _ hw), hK, hN, hZ, hok⟩
  have hq : ∀ (r : Option Value) (S1 : lm_S) (H : Heap) (locs : List Loc), post r S1 → va_P X.1 Y.1 (lm_W Y.2.1 X.2.2.1 X.2.2.2 S1) H → va_S (lm_A Y.2.1.length X.2.2.1 s.heap.size) s.heap H locs → ∀ t : State, t.heap = H → s.WarmedH t.vm → lm_Qc Y X s.heap.size post (av.map (lm_t X.2.2.1)).toArray s (.returned (r.map (lm_t X.2.2.1))) t :=
    fun r S1 H locs h1 h2 h3 t ht _ => ⟨r, S1, rfl, h1, by rw [ht]; exact h2, h3.F ht⟩
  have hZc := hgo _ (lm_closed (nc := 0) (ns := 0) ⟨Nat.zero_le _, Nat.zero_le _⟩ (p := p) (l := l) (e := e) (R := (headSpec (Cond.code y b mL rt :: Y.2.2.2.2) (lm_rm f lo)).room) (s := s) (m := m) (args := (av.map (lm_t X.2.2.1)).toArray) (below := below) (meth := meth) (c := c) (Q := MQ below (lm_Qc Y X s.heap.size post) (av.map (lm_t X.2.2.1)).toArray s 0 0 (lm_A Y.2.1.length X.2.2.1 s.heap.size)) (X := X) (cc := b) (own := y.cls) hY C hcode hfok hsok hpok hcok (fun n xs h => by rw [hg] at h; cases h) (fun pc L x S1 hd h1 h2 => ?_) (fun pc L S1 hd h1 h2 => ?_))
  · rw [lg_entry_eq]
    have hl := lv_entry (av.map (lm_t X.2.2.1)) (n := mL) (by rw [lm_sl]; exact hlen)
    rw [← lm_args] at hl
    exact hZc s.heap [] _ hP va_S.rf hl
  · intro H locs ls hP1 hS1 _
    rcases hrt with ⟨e1, e2⟩ | ⟨e1, e2⟩ | ⟨e1, e2⟩
    · subst e1
      exact W.iret hx hbb hr (hq (some (.int x)) S1 H locs h2 hP1 hS1) hS1.2.2 hd
    · subst e1
      exact W.zret hx hbb hr (by
        rcases h1 with h1 | ⟨_, h1⟩
        · rw [e2] at h1; cases h1
        · show Value.int (x &&& 1) = _
          rw [h1]) (hq (some (.int x)) S1 H locs h2 hP1 hS1) hS1.2.2 hd
    · rw [e2] at h1
      rcases h1 with h1 | ⟨h1, _⟩ <;> cases h1
  · intro H locs ls hP1 hS1 _
    rcases hrt with ⟨e1, e2⟩ | ⟨e1, e2⟩ | ⟨e1, e2⟩
    · rw [e2] at h1; cases h1
    · rw [e2] at h1; cases h1
    · subst e1
      exact W.vret hx hbb hr (hq none S1 H locs h2 hP1 hS1) hS1.2.2 hd
