/-! constructors: a walk over worlds that grow -/
/-- the walk: from any heap that holds the world -/
def cW (p : Program) (l : Launch) (e : Env) (R : Room) (s : State) (m : MethodId) (args : Array Value) (below : List Frame) (meth : Method) (c : Code) (Q : State → Prop) (D : va_G) (A : Nat → Prop) (ls : Array Slot) (pc : Nat) (st : List Value) (ws : va_W) (tys : List (ClassId × FieldType)) (k n : Nat) : Prop :=
  ∀ (H : Heap) (locs : List Loc), va_P D kk_cl ws H → va_D A ws → va_K D kk_cl tys s → va_S A s.heap H locs → W p l e R s m args below meth c H locs k n Q (F0 m pc ls st)
/-- what stays -/
def cX (p : Program) (s : State) (m : MethodId) (args : Array Value) (c : Code) (cc : ByteArray) (nL : Nat) (own : String) (A : Nat → Prop) : Prop :=
  p.tables.exec = Jvm.exec ∧ c.code = cc ∧ c.maxLocals = nL ∧ s.vm.findClass own = some m.cls ∧ (∀ w ∈ kk_ws, w.before args s = true) ∧ ∀ q : Nat, s.heap.size ≤ q → A q
/-- the arrays' classes of a shape -/
def lm_te (cA : Nat → ClassId) (i : Nat) (x : lm_Sh) : Option (ClassId × FieldType) := match x with
  | .inl a => some (cA i, a.1)
  | .inr _ => none
def lm_ty (sh : List lm_Sh) (cA : Nat → ClassId) : List (ClassId × FieldType) := (sh.mapIdx (fun i x => lm_te cA i x)).filterMap id
def lm_tyr (cA : Nat → ClassId) : Nat → List lm_Sh → List (ClassId × FieldType)
  | _, [] => []
  | i, .inl a :: r => (cA i, a.1) :: lm_tyr cA (i + 1) r
  | i, .inr _ :: r => lm_tyr cA (i + 1) r
theorem lm_tyr_of (cA : Nat → ClassId) : ∀ (sh : List lm_Sh) (n : Nat), (sh.mapIdx (fun i x => lm_te cA (n + i) x)).filterMap id = lm_tyr cA n sh
  | [], n => rfl
  | x :: r, n => by
    have h := lm_tyr_of cA r (n + 1)
    have e : (fun (i : Nat) (x : lm_Sh) => lm_te cA (n + (i + 1)) x) = (fun (i : Nat) (x : lm_Sh) => lm_te cA (n + 1 + i) x) := by
      funext i x
      rw [show n + (i + 1) = n + 1 + i by omega]
    rw [List.mapIdx_cons]
    rw [← e] at h
    cases x with
    | inl a =>
      show (cA n, a.1) :: (r.mapIdx (fun (i : Nat) (x : lm_Sh) => lm_te cA (n + (i + 1)) x)).filterMap id = (cA n, a.1) :: lm_tyr cA (n + 1) r
      rw [h]
    | inr o =>
      show (r.mapIdx (fun (i : Nat) (x : lm_Sh) => lm_te cA (n + (i + 1)) x)).filterMap id = lm_tyr cA (n + 1) r
      exact h
theorem lm_ty_r (sh : List lm_Sh) (cA : Nat → ClassId) : lm_ty sh cA = lm_tyr cA 0 sh := by
  rw [← lm_tyr_of]
  simp only [lm_ty, Nat.zero_add]
theorem lm_ty_in {sh : List lm_Sh} {cA : Nat → ClassId} {i n : Nat} {ty : FieldType} (h : sh[i]? = some (.inl (ty, n))) : (cA i, ty) ∈ lm_ty sh cA := by
  refine List.mem_filterMap.mpr ⟨some (cA i, ty), List.mem_of_getElem? (i := i) ?_, rfl⟩
  rw [List.getElem?_mapIdx, h]
  rfl
theorem lm_len_W (sh : List lm_Sh) (ad : Nat → Nat) (cA : Nat → ClassId) (S : lm_S) : (lm_W sh ad cA S).length = sh.length := by
  simp [lm_W]
theorem lm_at_W {sh : List lm_Sh} {i : Nat} (ad : Nat → Nat) (cA : Nat → ClassId) (S : lm_S) (h : i < sh.length) : ∃ e, (lm_W sh ad cA S)[i]? = some (ad i, e) := by
  have h1 : sh[i]? = some sh[i] := List.getElem?_eq_getElem h
  exact ⟨_, lm_get h1⟩
theorem lm_ok_of {Y : lm_Y} {D : va_G} {ad : Nat → Nat} {cA : Nat → ClassId} {S : lm_S} {A : Nat → Prop} (hD : va_D A (lm_W Y.2.1 ad cA S)) : lm_ok Y (D, lm_ty Y.2.1 cA, ad, cA) := by
  refine ⟨fun i j hi hj hij => ?_, fun i ty n h => lm_ty_in h⟩
  obtain ⟨e1, h1⟩ := lm_at_W ad cA S hi
  obtain ⟨e2, h2⟩ := lm_at_W ad cA S hj
  exact hD.1 i j _ _ h1 h2 hij
theorem va_D1 {w : Nat × va_E} {sz : Nat} : va_D (va_A [w] sz) [w] := by
  refine ⟨fun i j p q hi hj _ => ?_, fun k q hk => va_A.in hk⟩
  have h1 : i < 1 := (List.getElem?_eq_some_iff.mp hi).1
  have h2 : j < 1 := (List.getElem?_eq_some_iff.mp hj).1
  omega
section CT
variable {p : Program} {l : Launch} {e : Env} {R : Room} {s : State} {m : MethodId} {args : Array Value} {below : List Frame} {meth : Method} {c : Code} {Q : State → Prop} {D : va_G} {A : Nat → Prop} {ls : Array Slot} {cc : ByteArray} {nL : Nat} {own : String} {pc kc ns : Nat} {st : List Value} {ws : va_W} {tys : List (ClassId × FieldType)} {h0 : Nat}
theorem ct_aload (C : cX p s m args c cc nL own A) {j : Fin 4} (hl : ls[j.val]? = some (.val (.ref h0))) (hd : decode cc pc = .ok (.aload_n j, 1)) (k : cW p l e R s m args below meth c Q D A ls (pc + 1) (.ref h0 :: st) ws tys kc ns) : cW p l e R s m args below meth c Q D A ls pc st ws tys kc ns :=
  fun H locs hP hD hK hS => lv_aload_n C.1 C.2.1 hd rfl hl (k H locs hP hD hK hS)
theorem ct_i (C : cX p s m args c cc nL own A) {n : Int} {v : Int32} (hv : Int32.ofInt n = v) (hd : decode cc pc = .ok (.iconst n, 1)) (k : cW p l e R s m args below meth c Q D A ls (pc + 1) (.int v :: st) ws tys kc ns) : cW p l e R s m args below meth c Q D A ls pc st ws tys kc ns :=
  fun H locs hP hD hK hS => lv_iconst C.1 C.2.1 hd hv (k H locs hP hD hK hS)
theorem ct_b (C : cX p s m args c cc nL own A) {n : Int} {v : Int32} (hv : (Int8.ofInt n).toInt32 = v) (hd : decode cc pc = .ok (.bipush n, 2)) (k : cW p l e R s m args below meth c Q D A ls (pc + 2) (.int v :: st) ws tys kc ns) : cW p l e R s m args below meth c Q D A ls pc st ws tys kc ns :=
  fun H locs hP hD hK hS => lv_bipush C.1 C.2.1 hd hv (k H locs hP hD hK hS)
theorem ct_s (C : cX p s m args c cc nL own A) {n : Int} {v : Int32} (hv : (Int16.ofInt n).toInt32 = v) (hd : decode cc pc = .ok (.sipush n, 3)) (k : cW p l e R s m args below meth c Q D A ls (pc + 3) (.int v :: st) ws tys kc ns) : cW p l e R s m args below meth c Q D A ls pc st ws tys kc ns :=
  fun H locs hP hD hK hS => lv_sipush C.1 C.2.1 hd hv (k H locs hP hD hK hS)
theorem ct_dup (C : cX p s m args c cc nL own A) {a : Nat} (hd : decode cc pc = .ok (.dup, 1)) (k : cW p l e R s m args below meth c Q D A ls (pc + 1) (.ref a :: .ref a :: st) ws tys kc ns) : cW p l e R s m args below meth c Q D A ls pc (.ref a :: st) ws tys kc ns :=
  fun H locs hP hD hK hS => lv_dup C.1 C.2.1 hd rfl (k H locs hP hD hK hS)
theorem ct_obj (C : cX p s m args c cc nL own A) {idx a : Nat} (hs : ls.size = nL) (hlink : Cond.methodLink own idx objectInit ∈ kk_ws) (hi : Cond.instanceMethod objectInit ∈ kk_ws) (hc : Cond.code objectInit ⟨#[0xb1]⟩ 1 none ∈ kk_ws) (hf : 1 ≤ R.frames) (hlo : 12 ≤ R.locals) (hd : decode cc pc = .ok (.invokespecial idx, 3)) (k : cW p l e R s m args below meth c Q D A ls (pc + 3) [] ws tys kc ns) : cW p l e R s m args below meth c Q D A ls pc [.ref a] ws tys kc ns :=
  fun H locs hP hD hK hS => W.objInit C.1 C.2.1 C.2.2.2.1 (C.2.2.2.2.1 _ hlink) (C.2.2.2.2.1 _ hi) (C.2.2.2.2.1 _ hc) rfl (show ls.size = c.maxLocals by rw [hs, C.2.2.1]) (rest := []) rfl hd hf (Nat.le_trans (Nat.le_of_ble_eq_true rfl : _ ≤ 12) hlo) (k H locs hP hD hK hS)
/-- another order -/
theorem ct_perm {ws' : va_W} {tys' : List (ClassId × FieldType)} (is js : List Nat) (h1 : is.map (fun i => ws[i]?) = ws'.map some) (h2 : va_nd is = true) (h3 : js.filterMap (fun i => tys[i]?) = tys') (k : cW p l e R s m args below meth c Q D A ls pc st ws' tys' kc ns) : cW p l e R s m args below meth c Q D A ls pc st ws tys kc ns := by
  intro H locs hP hD hK hS
  refine k H locs (hP.sub is ?_) (hD.sub is h2 h1) (hK.sub js h3) hS
  have h4 : is.filterMap (fun i => ws[i]?) = (is.map (fun i => ws[i]?)).filterMap id := by rw [List.filterMap_map]; rfl
  rw [h4, h1, List.filterMap_map]
  exact List.filterMap_some
theorem ct_widen {kc2 ns2 : Nat} (h1 : kc ≤ kc2) (h2 : ns ≤ ns2) (k : cW p l e R s m args below meth c Q D A ls pc st ws tys kc2 ns2) : cW p l e R s m args below meth c Q D A ls pc st ws tys kc ns :=
  fun H locs hP hD hK hS => W.widen h1 h2 (k H locs hP hD hK hS)
/-- a new array into a field of the object: newarray, putfield -/
theorem ct_arr (C : cX p s m args c cc nL own A) (hin : meth.name = "<init>") {atype : ArrayType} {ty tf : FieldType} (harr : Cond.arrayClass ty ∈ kk_ws) (hty : newarray.typeOf atype = ty) (h00 : defaultValue ty = .int 0) {n : Int32} {N : Nat} (hn : ¬ n < 0) (hN : n.toNatClampNeg = N) (hbytes : N * componentBytes ty ≤ 536870912) (hc : kc + 1 ≤ R.cells) (hs : ns + N ≤ R.slots) (hd1 : decode cc pc = .ok (.newarray atype, 2))
    {T : u_T} {NF ci idx : Nat} {fs : List Value} {tl : va_W} (hcl : kk_cl[ci]? = some (own, T, NF)) (hu : ∀ w ∈ u_ws own T NF, w ∈ kk_ws) (ty0 : Nat → FieldType) (hty0 : ∀ k, k < NF → parseFieldDescriptor (T k).2.2.1 = some (ty0 k)) (hnm : ∀ a, a < NF → ∀ b, b < NF → a ≠ b → (T a).2.1 ≠ (T b).2.1) (k : Nat) (hk : k < NF) (hlink : Cond.fieldLink own idx own (T k).2.1 (T k).2.2.1 ∈ kk_ws) (hT : (T k).1 = own) (hfin : (T k).2.2.2 = true) (hpf : parseFieldDescriptor (T k).2.2.1 = some tf) (hnr : ∀ q : Nat, narrow tf (.ref q) = .ref q) (hft : ∀ q : Nat, fits tf (.ref q) = true) (hlen : k < fs.length) (hd2 : decode cc (pc + 2) = .ok (.putfield idx, 3))
    (kk : ∀ (q : Nat) (cA : ClassId), cW p l e R s m args below meth c Q D A ls (pc + 2 + 3) st ((h0, .inr (ci, fs.set k (.ref q))) :: (tl ++ [(q, .inl (cA, N, .inl (fun _ => 0)))])) (tys ++ [(cA, ty)]) (kc + 1) (ns + N)) : cW p l e R s m args below meth c Q D A ls pc (.int n :: .ref h0 :: st) ((h0, .inr (ci, fs)) :: tl) tys kc ns := by
  intro H locs hP hD hK hS
  refine va_newa (a0 := (N, .inl (fun _ => 0))) C.1 C.2.1 (by rw [hty]; exact C.2.2.2.2.1 _ harr) hty hK hP hD hS C.2.2.2.2.2 (fun cA => by rw [vp_cell_i, h00]) hn hN hbytes hc hs hd1 (fun q cA H1 hK1 hP1 hD1 hS1 => ?_)
  exact va_putF C.1 C.2.1 C.2.2.2.2.1 hu ty0 hty0 hnm C.2.2.2.1 hK1 hP1 hD1 hS1 0 rfl hcl k hk (C.2.2.2.2.1 _ hlink) (fun x h => by rw [hT] at h; exact h) hfin hin hT hpf (hnr q) (hft q) hlen hd2 (fun H2 locs2 hP2 hD2 hS2 => kk q cA H2 locs2 hP2 hD2 hK1 hS2)
/-- a reference into a field of the object -/
theorem ct_putF (C : cX p s m args c cc nL own A) (hin : meth.name = "<init>") {T : u_T} {NF ci idx q : Nat} {fs : List Value} {tl : va_W} {tf : FieldType} (hcl : kk_cl[ci]? = some (own, T, NF)) (hu : ∀ w ∈ u_ws own T NF, w ∈ kk_ws) (ty0 : Nat → FieldType) (hty0 : ∀ k, k < NF → parseFieldDescriptor (T k).2.2.1 = some (ty0 k)) (hnm : ∀ a, a < NF → ∀ b, b < NF → a ≠ b → (T a).2.1 ≠ (T b).2.1) (k : Nat) (hk : k < NF) (hlink : Cond.fieldLink own idx own (T k).2.1 (T k).2.2.1 ∈ kk_ws) (hT : (T k).1 = own) (hfin : (T k).2.2.2 = true) (hpf : parseFieldDescriptor (T k).2.2.1 = some tf) (hnr : narrow tf (.ref q) = .ref q) (hft : fits tf (.ref q) = true) (hlen : k < fs.length) (hd2 : decode cc pc = .ok (.putfield idx, 3))
    (kk : cW p l e R s m args below meth c Q D A ls (pc + 3) st ((h0, .inr (ci, fs.set k (.ref q))) :: tl) tys kc ns) : cW p l e R s m args below meth c Q D A ls pc (.ref q :: .ref h0 :: st) ((h0, .inr (ci, fs)) :: tl) tys kc ns := by
  intro H locs hP hD hK hS
  exact va_putF C.1 C.2.1 C.2.2.2.2.1 hu ty0 hty0 hnm C.2.2.2.1 hK hP hD hS 0 rfl hcl k hk (C.2.2.2.2.1 _ hlink) (fun x h => by rw [hT] at h; exact h) hfin hin hT hpf hnr hft hlen hd2 (fun H2 locs2 hP2 hD2 hS2 => kk H2 locs2 hP2 hD2 hK hS2)
theorem ct_get (C : cX p s m args c cc nL own A) {T : u_T} {NF ci idx a : Nat} {fs : List Value} {v : Value} (q0 : Nat) (he : ws[q0]? = some (a, .inr (ci, fs))) (hcl : kk_cl[ci]? = some (own, T, NF)) (hu : ∀ w ∈ u_ws own T NF, w ∈ kk_ws) (k : Nat) (hk : k < NF) (hlink : Cond.fieldLink own idx own (T k).2.1 (T k).2.2.1 ∈ kk_ws) (hT : (T k).1 = own) (hv : fs[k]? = some v) (hd : decode cc pc = .ok (.getfield idx, 3))
    (kk : cW p l e R s m args below meth c Q D A ls (pc + 3) (v :: st) ws tys kc ns) : cW p l e R s m args below meth c Q D A ls pc (.ref a :: st) ws tys kc ns :=
  fun H locs hP hD hK hS => va_get C.1 C.2.1 C.2.2.2.2.1 hu C.2.2.2.1 hK hP q0 he hcl k hk (C.2.2.2.2.1 _ hlink) (fun x h => by rw [hT] at h; exact h) hv hd (kk H locs hP hD hK hS)
theorem ct_iast (C : cX p s m args c cc nL own A) {a N : Nat} {cA : ClassId} {f g : Nat → Int32} {ws' : va_W} (q0 t0 : Nat) (he : ws[q0]? = some (a, .inl (cA, N, .inl f))) (ht : tys[t0]? = some (cA, .int)) {i x : Int32} (hin : vp_in i N) (hg : upd f i.toNatClampNeg x = g) (hw : ws.set q0 (a, .inl (cA, N, .inl g)) = ws') (hd : decode cc pc = .ok (.iastore, 1))
    (kk : cW p l e R s m args below meth c Q D A ls (pc + 1) st ws' tys kc ns) : cW p l e R s m args below meth c Q D A ls pc (.int x :: .int i :: .ref a :: st) ws tys kc ns := by
  subst hw
  subst hg
  exact fun H locs hP hD hK hS => va_iast C.1 C.2.1 hK hP hD hS q0 t0 he ht hin hd (fun H2 locs2 hP2 hD2 hS2 => kk H2 locs2 hP2 hD2 hK hS2)
theorem ct_new (C : cX p s m args c cc nL own A) {Cn : String} {T : u_T} {NF ci idx : Nat} {fs : List Value} (hcl : kk_cl[ci]? = some (Cn, T, NF)) (hu : ∀ w ∈ u_ws Cn T NF, w ∈ kk_ws) (ty0 : Nat → FieldType) (hty0 : ∀ k, k < NF → parseFieldDescriptor (T k).2.2.1 = some (ty0 k)) (hlk : Cond.classLink own idx Cn ∈ kk_ws) (hinst : Cond.instantiable Cn NF ∈ kk_ws) (hini : Cond.initialized Cn ∈ kk_ws) (hfs : ∀ j, j < NF → defaultValue (ty0 j) = vp_V fs j) (hc : kc + 1 ≤ R.cells) (hs : ns + NF ≤ R.slots) (hd : decode cc pc = .ok (.new idx, 3))
    (kk : ∀ q : Nat, cW p l e R s m args below meth c Q D A ls (pc + 3) (.ref q :: st) (ws ++ [(q, .inr (ci, fs))]) tys (kc + 1) (ns + NF)) : cW p l e R s m args below meth c Q D A ls pc st ws tys kc ns :=
  fun H locs hP hD hK hS => va_new C.1 C.2.1 C.2.2.2.2.1 hu ty0 hty0 C.2.2.2.1 (C.2.2.2.2.1 _ hlk) (C.2.2.2.2.1 _ hinst) (C.2.2.2.2.1 _ hini) hK hP hD hS C.2.2.2.2.2 hcl hfs hc hs hd (fun q H1 hP1 hD1 hS1 => kk q H1 locs hP1 hD1 hK hS1)
end CT
/-- a constructor's contract: from a new object to the cells of a shape -/
def CT (l : Launch) (y : MethodName) (b : ByteArray) (fr lo ci : Nat) (fs0 : List Value) (kc ns : Nat) (sh : List lm_Sh) (S : lm_S) : Prop := ∀ (D : va_G) (h0 sz : Nat),
  Met l y (Cond.code y b 1 none :: kk_ws) ({ frames := fr, cells := kc, slots := ns, locals := lo }) (va_Pc [.ref h0] (fun U => U.heap.size = sz ∧ va_P D kk_cl [(h0, .inr (ci, fs0))] U.heap ∧ va_K D kk_cl [] U ∧ ∀ w ∈ kk_nw, va_Nw w U))
    (va_Qv (fun _ : Unit => True) (fun _ t => ∃ (q : Nat → Nat) (c : Nat → ClassId), q 0 = h0 ∧ va_P D kk_cl (lm_W sh q c S) t.heap ∧ va_K D kk_cl (lm_ty sh c) t ∧ va_D (va_A [(h0, .inr (ci, fs0))] sz) (lm_W sh q c S)) (va_A [(h0, .inr (ci, fs0))] sz)) kc ns (va_A [(h0, .inr (ci, fs0))] sz)
set_option maxHeartbeats 1000000 in
theorem CT.of {l : Launch} {y : MethodName} {b : ByteArray} {fr lo ci : Nat} {fs0 : List Value} {kc ns : Nat} {sh : List lm_Sh} {S : lm_S} (hy : plainName y.cls = true) (hyn : y.name = "<init>")
    (body : ∀ (p : Program) (e : Env) (R : Room) (s : State) (m : MethodId) (args : Array Value) (below : List Frame) (meth : Method) (c : Code) (Q : State → Prop) (D : va_G) (A : Nat → Prop) (ls : Array Slot) (h0 : Nat), cX p s m args c b 1 y.cls A → meth.name = "<init>" → ls.size = 1 → ls[0]? = some (.val (.ref h0)) → R.cells = kc → R.slots = ns → R.frames = fr → R.locals = lo → (∀ w ∈ kk_nw, va_Nw w s) →
      (∀ (pc : Nat) (ws : va_W) (tys : List (ClassId × FieldType)) (q : Nat → Nat) (c1 : Nat → ClassId), q 0 = h0 → ws = lm_W sh q c1 S → tys = lm_ty sh c1 → decode b pc = .ok (.return_, 1) → cW p l e R s m args below meth c Q D A ls pc [] ws tys kc ns) →
      cW p l e R s m args below meth c Q D A ls 0 [] [(h0, .inr (ci, fs0))] [] 0 0) : CT l y b fr lo ci fs0 kc ns sh S := by
  intro D h0 sz
  refine Met.ofW (cc := b) (maxL := 1) (ret := none) hy rfl ?_
  intro p e s m args below meth c s₁ B hml hv
  obtain ⟨rfl, hsz, hP, hK, hN⟩ := hv
  have hx := B.exec
  have hb := B.bytes
  have hr := B.returns
  have hts0 := atoms_spec (ws := Cond.code y b 1 none :: kk_ws) B.pre
  have hown : s.vm.findClass y.cls = some m.cls := findClass_of_methodNamed B.named
  have hlocks := B.notSynchronized
  have hin : meth.name = "<init>" := (name_of_methodNamed B.named B.method).1.trans hyn
  subst hsz
  have hl := lv_entry ([.ref h0]) (n := 1) (Nat.le_of_ble_eq_true rfl)
  rw [lg_entry_eq]
  generalize (lg_sl ([.ref h0]) ++ List.replicate (1 - (lg_sl ([.ref h0])).length) Slot.unset).toArray = ls at hl ⊢
  have hl : lv_has ls 1 [(0, .ref h0)] := hl
  refine body p e _ s m _ below meth c _ D (va_A [(h0, .inr (ci, fs0))] s.heap.size) ls h0 ⟨hx, hb, hml, hown, fun w hw => hts0 w (List.mem_cons_of_mem _ hw), fun q h => Or.inr h⟩ hin hl.1 (lv_at hl 0 rfl) rfl rfl rfl rfl hN ?_ s.heap [] hP va_D1 hK va_S.rf
  intro pc ws tys q c1 h1 h2 h3 hd H locs hP hD hK hS
  subst h2
  subst h3
  exact W.vret hx hb hr (fun t ht hW => ⟨⟨(), rfl, trivial, q, c1, h1, by rw [ht]; exact hP, va_K.moved hW.alike hK, hD⟩, hS.F ht⟩) hS.2.2 hd
section CT2
variable {p : Program} {l : Launch} {e : Env} {R : Room} {s : State} {m : MethodId} {args : Array Value} {below : List Frame} {meth : Method} {c : Code} {Q : State → Prop} {D : va_G} {A : Nat → Prop} {ls : Array Slot} {cc : ByteArray} {nL : Nat} {own : String} {pc kc ns : Nat} {st : List Value} {ws : va_W} {tys : List (ClassId × FieldType)}
set_option maxHeartbeats 1000000 in
/-- a constructor's call -/
theorem ct_call {y : MethodName} {b : ByteArray} {fr lo ci k1 n1 : Nat} {fs0 : List Value} {sh : List lm_Sh} {S : lm_S} (hM : CT l y b fr lo ci fs0 k1 n1 sh S) (C : cX p s m args c cc nL own A) (hN : ∀ w ∈ kk_nw, va_Nw w s) (hsz : ls.size = nL) {idx q : Nat} {tl : va_W} (hyw : Cond.code y b 1 none ∈ kk_ws) (hyi : Cond.initialized y.cls ∈ kk_ws) (hym : Cond.instanceMethod y ∈ kk_ws) (hyn : y.name = "<init>") (hyd : y.cls ≠ "java/lang/invoke/MethodHandle" ∧ y.cls ≠ "java/lang/invoke/VarHandle" ∧ (parseMethodDescriptor y.desc).map (fun d => d.parameters.length) = some 0) (hlk : kk_li own idx y) (hR : fr + 1 ≤ R.frames ∧ 8 + (1 + 11) + lo ≤ R.locals) (hcat : lm_cat st ≤ 8) (hcs : kc + k1 ≤ R.cells ∧ ns + n1 ≤ R.slots) (isC isR : List Nat) (hC : isC.map (fun i => (tl ++ [(q, .inr (ci, fs0))])[i]?) = [(q, .inr (ci, fs0))].map some) (hI : isR.map (fun i => (tl ++ [(q, .inr (ci, fs0))])[i]?) = tl.map some) (hn1 : va_nd isC = true) (hn2 : va_nd isR = true) (hdis : ∀ i ∈ isR, i ∉ isC) (hd : decode cc pc = .ok (.invokespecial idx, 3))
    (kk : ∀ (qq : Nat → Nat) (c1 : Nat → ClassId), qq 0 = q → cW p l e R s m args below meth c Q D A ls (pc + 3) st (tl ++ lm_W sh qq c1 S) (tys ++ lm_ty sh c1) (kc + k1) (ns + n1)) : cW p l e R s m args below meth c Q D A ls pc (.ref q :: st) (tl ++ [(q, .inr (ci, fs0))]) tys kc ns := by
  intro H locs hP hD hK hS
  obtain ⟨hx, hb, hml, hown, hts, hA⟩ := C
  have hFc := va_free hD hS hA isC hC
  have hDc := hD.sub isC hn1 hC
  have hPc : va_P D kk_cl [(q, .inr (ci, fs0))] H := by
    intro k x hk
    have h1 : (isC.map (fun i => (tl ++ [(q, .inr (ci, fs0))])[i]?))[k]? = some (some x) := by rw [hC, List.getElem?_map, hk]; rfl
    rw [List.getElem?_map] at h1
    cases hi : isC[k]? with
    | none => rw [hi] at h1; cases h1
    | some i => rw [hi] at h1; exact hP i x (Option.some.inj h1)
  have hKc := hK.sub (tys' := []) [] rfl
  have hG : GoodIn kk_ws (Cond.code y b 1 none :: kk_ws) := lm_good kk_okZD hyw
  have hpre : PreS s H (va_Pc [.ref q] (fun U => U.heap.size = H.size ∧ va_P D kk_cl [(q, .inr (ci, fs0))] U.heap ∧ va_K D kk_cl [] U ∧ ∀ w ∈ kk_nw, va_Nw w U)) [.ref q] :=
    ⟨fun a U g mk h => by
      obtain ⟨g0, g1, g2, g3, g4⟩ := h
      exact ⟨g0, g1, g2, va_K.moved (u := U) (U := U.calling g mk a) (Vm.Alike.refl U.vm) g3, lm_nw_same kk_okZD (s := U) (U := U.calling g mk a) rfl g4⟩,
     fun U hU hW => ⟨rfl, by rw [hU], by rw [hU]; exact hPc, va_K.moved hW.alike hKc, lm_nw_warm kk_okZD hW hN⟩⟩
  have k2 : ∀ (u : Unit) (t : State) (H1 : Heap) (locs1 : List Loc), t.heap = H1 → s.vm.Alike t.vm → True → (∃ (qq : Nat → Nat) (c1 : Nat → ClassId), qq 0 = q ∧ va_P D kk_cl (lm_W sh qq c1 S) t.heap ∧ va_K D kk_cl (lm_ty sh c1) t ∧ va_D (va_A [(q, .inr (ci, fs0))] H.size) (lm_W sh qq c1 S)) → H.size ≤ H1.size → (∀ x : Nat, x < H.size → ¬ va_A [(q, .inr (ci, fs0))] H.size x → H1[x]? = H[x]?) → va_S A s.heap H1 locs1 → W p l e R s m args below meth c H1 locs1 (kc + k1) (ns + n1) Q (F0 m (pc + 3) ls st) := by
    intro u t H1 locs1 ht hvm _ hB hz1 hk1 hS1
    obtain ⟨qq, c1, h1, hP1, hK1, hD1⟩ := hB
    rw [ht] at hP1
    have hK1 := va_K.moved hvm.symm hK1
    obtain ⟨hP2, hD2⟩ := va_join hP hD isC isR hC hI hn2 hdis hk1 hFc hP1 hD1
    exact kk qq c1 h1 H1 locs1 hP2 hD2 (hK.app hK1) hS1
  rcases hlk with hlk | ⟨host, hlk⟩
  · exact va_callv (va_runI (As := []) (rest := st) ⟨hx, hb, hml, hown, hts⟩ (hM D q H.size) (cwI 0 hts hG rfl rfl rfl (hts _ hyi) (hts _ hlk) (hts _ hym) hyn hyd hR) hpre rfl rfl hsz rfl (lv_room hcat) hd hcs) hS (fun x _ h => hFc x h) hFc k2
  · exact va_callv (va_runIN (As := []) (rest := st) ⟨hx, hb, hml, hown, hts⟩ (hM D q H.size) ⟨va_cnB 0 hts hG rfl rfl rfl (hN _ hlk) (hts _ hyi) hyd hR, hyn, hts _ hym⟩ hpre rfl rfl hsz rfl (lv_room hcat) hd hcs) hS (fun x _ h => hFc x h) hFc k2
theorem ct_after {H : Heap} {locs : List Loc} {st0 rest : List Value} {a : Array Value} {Y : lm_Y} {X : lm_X} {post : Option Value → lm_S → Prop} (hr : va_Run p l e R s m args below meth c H locs kc ns 0 0 (F0 m pc ls st0) rest (lm_Qc Y X H.size post a) (lm_A Y.2.1.length X.2.2.1 H.size)) (hS : va_S A s.heap H locs) (hAll : ∀ q, lm_A Y.2.1.length X.2.2.1 H.size q → A q)
    (kk : ∀ (r : Option Value) (S1 : lm_S) (H1 : Heap) (locs1 : List Loc), post r S1 → va_P X.1 Y.1 (lm_W Y.2.1 X.2.2.1 X.2.2.2 S1) H1 → va_S A s.heap H1 locs1 → W p l e R s m args below meth c H1 locs1 kc ns Q (F0 m (pc + 3) ls ((r.map (lm_t X.2.2.1)).toList ++ rest))) : W p l e R s m args below meth c H locs kc ns Q (F0 m pc ls st0) := by
  intro T hT Xs
  obtain ⟨v, st0, t, T1, Ll, h0, X1, hL, e1, e2, ⟨r, S1, hv, hp, hP1, hz, hkp⟩, st⟩ := hr T hT Xs
  cases hv
  rw [h0] at hz hkp
  obtain ⟨t2, a1, b1⟩ := kk r S1 T1.heap (locs ++ Ll) hp (by rw [e1]; exact hP1)
    ⟨Nat.le_trans hS.1 (by rw [e1]; exact hz), fun q h1 h2 => by rw [e1, hkp q (Nat.lt_of_lt_of_le h1 hS.1) (fun z => h2 (hAll q z))]; exact hS.2.1 q h1 h2, fun q hq => by
      rcases List.mem_append.mp hq with h | h
      · exact hS.2.2 q h
      · exact hAll _ (hL q h)⟩ T1 rfl X1
  exact ⟨t2, st t2 a1, b1⟩
set_option maxHeartbeats 1000000 in
/-- a call of a light method, in a constructor -/
theorem ct_light {sh : List lm_Sh} {y : MethodName} {b : ByteArray} {mL f1 lo1 : Nat} {sp : lm_Sp} (I : lm_I l (kk_Z sh) y b mL none f1 lo1 sp) (hY : lm_Yok (kk_Z sh)) (C : cX p s m args c cc nL own A) (hN : ∀ w ∈ kk_nw, va_Nw w s) (hsz : ls.size = nL) {idx i n ci : Nat} {gl : List (Option Nat)} {ad : Nat → Nat} {cA : Nat → ClassId} {S S1 : lm_S} {as : List Value} (hgl : sh[i]? = some (.inr (ci, gl))) (has : as.length = n) (hyw : kk_yw y b mL none n (some ci)) (hlk : kk_li own idx y) (hR : f1 + 1 ≤ R.frames ∧ 8 + (mL + 11) + lo1 ≤ R.locals) (hcat : lm_cat st ≤ 8) (hcs : kc ≤ R.cells ∧ ns ≤ R.slots) (hsp : sp (.ref i :: as) S (fun r S2 => r = none ∧ S2 = S1)) {st0 : List Value} (hst : st0 = (as.map (lm_t ad)).reverse ++ .ref (ad i) :: st) (hd : decode cc pc = .ok (.invokevirtual idx, 3))
    (kk : cW p l e R s m args below meth c Q D A ls (pc + 3) st (lm_W sh ad cA S1) (lm_ty sh cA) kc ns) : cW p l e R s m args below meth c Q D A ls pc st0 (lm_W sh ad cA S) (lm_ty sh cA) kc ns := by
  intro H locs hP hD hK hS
  obtain ⟨hx, hb, hml, hown, hts, hA⟩ := C
  have hok : lm_ok (kk_Z sh) (D, lm_ty sh cA, ad, cA) := lm_ok_of (Y := kk_Z sh) hD
  have hM := I (D, lm_ty sh cA, ad, cA) H.size (.ref i :: as) S _ hok hsp
  obtain ⟨w1, w2, w3, w4⟩ := hyw
  obtain ⟨T, N, z1, z2, z3⟩ : ∃ T N, kk_cl[ci]? = some (y.cls, T, N) ∧ Cond.instanceMethod y ∈ kk_ws ∧ Cond.selects y.cls y y ∈ kk_ws := by
    rcases w4 with h | ⟨cj, T, N, h, h9⟩
    · cases h.1
    · cases h
      exact ⟨T, N, h9⟩
  have hG : GoodIn kk_ws (Cond.code y b mL none :: kk_ws) := lm_good kk_okZD w1
  have he : (lm_W sh ad cA S)[i]? = some (ad i, .inr (ci, gl.mapIdx (fun k r => lm_v ad (S i k) r))) := lm_get hgl
  have hAll : ∀ q, lm_A sh.length ad H.size q → A q := by
    intro q hq
    rcases hq with ⟨j, hj, rfl⟩ | hq
    · obtain ⟨e1, h1⟩ := lm_at_W ad cA S hj
      exact hD.2 j _ h1
    · exact hA q (Nat.le_trans hS.1 hq)
  have hpre : PreV s H y.cls (ad i) (va_Pc ((Value.ref i :: as).map (lm_t ad)) (lm_B (kk_Z sh) (D, lm_ty sh cA, ad, cA) H.size S)) (as.map (lm_t ad)) :=
    ⟨lm_blind hY, va_recv hK hP z1 he, fun U hU hW => ⟨rfl, by rw [hU], by rw [hU]; exact hP, va_K.moved hW.alike hK, lm_nw_warm hY hW hN, fun j C1 n1 vs hj => by cases hj⟩⟩
  have hlen : (as.map (lm_t ad)).length = n := by rw [List.length_map]; exact has
  have k2 : ∀ (r : Option Value) (S2 : lm_S) (H1 : Heap) (locs1 : List Loc), (r = none ∧ S2 = S1) → va_P D kk_cl (lm_W sh ad cA S2) H1 → va_S A s.heap H1 locs1 → W p l e R s m args below meth c H1 locs1 kc ns Q (F0 m (pc + 3) ls ((r.map (lm_t ad)).toList ++ st)) := by
    intro r S2 H1 locs1 hr hP1 hS1
    obtain ⟨rfl, rfl⟩ := hr
    refine kk H1 locs1 hP1 ⟨fun a b2 x z ha hb2 hab => ?_, fun k x hk => ?_⟩ hK hS1
    · obtain ⟨g1, g2⟩ := lm_inv ha
      obtain ⟨g3, g4⟩ := lm_inv hb2
      exact hok.1 a b2 g1 g3 (by show ad a = ad b2; rw [← g2, ← g4]; exact hab)
    · obtain ⟨g1, g2⟩ := lm_inv hk
      rw [g2]
      exact hAll _ (Or.inl ⟨k, g1, rfl⟩)
  rcases hlk with hlk | ⟨host, hlk⟩
  · exact ct_after (Y := kk_Z sh) (X := (D, lm_ty sh cA, ad, cA)) (va_runV ⟨hx, hb, hml, hown, hts⟩ hM ⟨callB_of n hts hG rfl rfl rfl (hts _ w2) (hts _ hlk) w3 hR, hts _ z2, hts _ z3⟩ hpre rfl hlen hsz hst (lv_room hcat) hd hcs) hS hAll k2
  · exact ct_after (Y := kk_Z sh) (X := (D, lm_ty sh cA, ad, cA)) (va_runVN ⟨hx, hb, hml, hown, hts⟩ hM ⟨va_cnB n hts hG rfl rfl rfl (hN _ hlk) (hts _ w2) w3 hR, hts _ z2, hts _ z3⟩ hpre rfl hlen hsz hst (lv_room hcat) hd hcs) hS hAll k2
end CT2
theorem ct_as {p : Program} {l : Launch} {e : Env} {R : Room} {s : State} {m : MethodId} {args : Array Value} {below : List Frame} {meth : Method} {c : Code} {Q : State → Prop} {D : va_G} {A : Nat → Prop} {ls : Array Slot} {pc kc ns : Nat} {st : List Value} {ws ws' : va_W} {tys tys' : List (ClassId × FieldType)} (h1 : ws = ws') (h2 : tys = tys') (k : cW p l e R s m args below meth c Q D A ls pc st ws' tys' kc ns) : cW p l e R s m args below meth c Q D A ls pc st ws tys kc ns := by
  subst h1
  subst h2
  exact k
theorem ct_astore {p : Program} {l : Launch} {e : Env} {R : Room} {s : State} {m : MethodId} {args : Array Value} {below : List Frame} {meth : Method} {c : Code} {Q : State → Prop} {D : va_G} {A : Nat → Prop} {ls : Array Slot} {cc : ByteArray} {nL : Nat} {own : String} {pc kc ns : Nat} {st : List Value} {ws : va_W} {tys : List (ClassId × FieldType)} (C : cX p s m args c cc nL own A) {j : Fin 4} {x : Nat} {L L1 : List (Nat × Value)} (hl : lv_has ls nL L) (hj : j.val < nL) (hL : (j.val, Value.ref x) :: L.filter (fun q => !(q.1 == j.val) && !(q.1 + 1 == j.val && q.2.category == 2)) = L1) (hd : decode cc pc = .ok (.astore_n j, 1))
    (kk : ∀ ls1 : Array Slot, lv_has ls1 nL L1 → cW p l e R s m args below meth c Q D A ls1 (pc + 1) st ws tys kc ns) : cW p l e R s m args below meth c Q D A ls pc (.ref x :: st) ws tys kc ns :=
  fun H locs hP hD hK hS => lv_astore_n C.1 C.2.1 hd rfl hl hj hL (fun ls1 hl1 => kk ls1 hl1 H locs hP hD hK hS)
theorem ct_iC (tl : va_W) (w : Nat × va_E) (n : Nat) (h : tl.length = n) : [n].map (fun i => (tl ++ [w])[i]?) = [w].map some := by
  subst h
  simp
theorem ct_iR (tl : va_W) (w : Nat × va_E) (n : Nat) (h : tl.length = n) : (List.range n).map (fun i => (tl ++ [w])[i]?) = tl.map some := by
  subst h
  apply List.ext_getElem?
  intro j
  by_cases hj : j < tl.length
  · have h1 : (List.range tl.length)[j]? = some j := List.getElem?_range hj
    rw [List.getElem?_map, List.getElem?_map, h1, List.getElem?_eq_getElem hj]
    simp only [Option.map_some]
    rw [List.getElem?_append_left hj, List.getElem?_eq_getElem hj]
  · have h1 : (List.range tl.length)[j]? = none := List.getElem?_eq_none (by rw [List.length_range]; omega)
    have h2 : tl[j]? = none := List.getElem?_eq_none (by omega)
    rw [List.getElem?_map, List.getElem?_map, h1, h2]
    rfl
