/-! THE LIGHT MACHINE: a small machine over cells of one fixed shape. A reference is the number of its cell; the state is, for each cell, its numbers.
    lm_st is one instruction as a predicate transformer; lm_Go: the walk from here comes to an end with the postcondition; lm_closed: then the machine does. -/
abbrev lm_Sh : Type := (FieldType × Nat) ⊕ (Nat × List (Option Nat))
abbrev lm_S : Type := Nat → Nat → Int32
abbrev lm_L : Type := List (Nat × Value)
abbrev lm_Tb : Type := List (String × String × List Int32)
/-- a system: its classes, its shape, its static tables, the words of its nest, its words -/
abbrev lm_Y : Type := List vw_C × List lm_Sh × lm_Tb × List Cond × List Cond
/-- where it lies: the tables' numbers, the arrays' classes, the addresses, the class of each array -/
abbrev lm_X : Type := va_G × List (ClassId × FieldType) × (Nat → Nat) × (Nat → ClassId)
/-- an instruction, the next pc, its constant, its target -/
abbrev lm_R : Type := Instr × Nat × Int32 × Nat
/-- what a call does: arguments, state, postcondition -/
abbrev lm_Sp : Type := List Value → lm_S → (Option Value → lm_S → Prop) → Prop
/-- a method: code, fields by pool number (class, place), static tables by pool number, arraycopy's pool number, its answer (0 none, 1 an int, 2 a boolean), the law's script -/
abbrev lm_G : Type := List (Nat × lm_R) × List (Nat × Nat × Nat) × List (Nat × Nat) × Nat × Nat × Option (Nat × (Nat → Int32))
/-- calls by pool number: how many arguments, the receiver's class (none: static), what it does -/
abbrev lm_Ca : Type := List (Nat × Nat × Option Nat × lm_Sp)
def lm_t (ad : Nat → Nat) (v : Value) : Value := match v with
  | .ref i => .ref (ad i)
  | .int x => .int x
  | v => v
theorem lm_tcat (ad : Nat → Nat) (v : Value) : (lm_t ad v).category = v.category := by cases v <;> rfl
def lm_v (ad : Nat → Nat) (x : Int32) (o : Option Nat) : Value := match o with
  | none => .int x
  | some j => .ref (ad j)
def lm_E (ad : Nat → Nat) (cA : Nat → ClassId) (i : Nat) (c : lm_Sh) (g : Nat → Int32) : va_E := match c with
  | .inl a => .inl (cA i, a.2, .inl g)
  | .inr o => .inr (o.1, o.2.mapIdx (fun k r => lm_v ad (g k) r))
def lm_W (sh : List lm_Sh) (ad : Nat → Nat) (cA : Nat → ClassId) (S : lm_S) : va_W := sh.mapIdx (fun i c => (ad i, lm_E ad cA i c (S i)))
def lm_set (S : lm_S) (i k : Nat) (x : Int32) : lm_S := va_up S i (upd (S i) k x)
def lm_A (n : Nat) (ad : Nat → Nat) (sz : Nat) : Nat → Prop := fun q => (∃ i, i < n ∧ q = ad i) ∨ sz ≤ q
theorem lm_get {sh : List lm_Sh} {ad : Nat → Nat} {cA : Nat → ClassId} {S : lm_S} {i : Nat} {c : lm_Sh} (h : sh[i]? = some c) : (lm_W sh ad cA S)[i]? = some (ad i, lm_E ad cA i c (S i)) := by
  simp [lm_W, List.getElem?_mapIdx, h]
theorem lm_inv {sh : List lm_Sh} {ad : Nat → Nat} {cA : Nat → ClassId} {S : lm_S} {k : Nat} {q : Nat × va_E} (h : (lm_W sh ad cA S)[k]? = some q) : k < sh.length ∧ q.1 = ad k := by
  simp only [lm_W, List.getElem?_mapIdx] at h
  cases hs : sh[k]? with
  | none => rw [hs] at h; cases h
  | some c =>
    rw [hs] at h
    have h2 := Option.some.inj h
    exact ⟨(List.getElem?_eq_some_iff.mp hs).1, by rw [← h2]⟩
theorem lm_setA {sh : List lm_Sh} {ad : Nat → Nat} {cA : Nat → ClassId} {S : lm_S} {i n : Nat} {ty : FieldType} (h : sh[i]? = some (.inl (ty, n))) (f : Nat → Int32) : (lm_W sh ad cA S).set i (ad i, .inl (cA i, n, .inl f)) = lm_W sh ad cA (va_up S i f) := by
  apply List.ext_getElem?
  intro j
  by_cases hj : j = i
  · subst hj
    have hl : j < (lm_W sh ad cA S).length := (List.getElem?_eq_some_iff.mp (lm_get (ad := ad) (cA := cA) (S := S) h)).1
    rw [List.getElem?_set_self hl, lm_get h]
    simp [lm_E, va_up]
  · rw [List.getElem?_set_ne (Ne.symm hj)]
    simp only [lm_W, List.getElem?_mapIdx]
    cases sh[j]? with
    | none => rfl
    | some c => simp [va_up, hj]
theorem lm_setF {fl : List (Option Nat)} {k : Nat} (h : fl[k]? = some none) (ad : Nat → Nat) (g : Nat → Int32) (x : Int32) : (fl.mapIdx (fun k r => lm_v ad (g k) r)).set k (.int x) = fl.mapIdx (fun j r => lm_v ad (upd g k x j) r) := by
  apply List.ext_getElem?
  intro j
  by_cases hj : j = k
  · subst hj
    have hl : j < (fl.mapIdx (fun k r => lm_v ad (g k) r)).length := by
      rw [List.length_mapIdx]
      exact (List.getElem?_eq_some_iff.mp h).1
    rw [List.getElem?_set_self hl, List.getElem?_mapIdx, h]
    simp [lm_v, upd]
  · rw [List.getElem?_set_ne (Ne.symm hj), List.getElem?_mapIdx, List.getElem?_mapIdx]
    simp [upd, hj]
theorem lm_setO {sh : List lm_Sh} {ad : Nat → Nat} {cA : Nat → ClassId} {S : lm_S} {i ci k : Nat} {fl : List (Option Nat)} (h : sh[i]? = some (.inr (ci, fl))) (hk : fl[k]? = some none) (x : Int32) : (lm_W sh ad cA S).set i (ad i, .inr (ci, (fl.mapIdx (fun k r => lm_v ad (S i k) r)).set k (.int x))) = lm_W sh ad cA (lm_set S i k x) := by
  apply List.ext_getElem?
  intro j
  by_cases hj : j = i
  · subst hj
    have hl : j < (lm_W sh ad cA S).length := (List.getElem?_eq_some_iff.mp (lm_get (ad := ad) (cA := cA) (S := S) h)).1
    rw [List.getElem?_set_self hl, lm_get h, lm_setF hk ad (S j) x]
    simp [lm_E, lm_set, va_up]
  · rw [List.getElem?_set_ne (Ne.symm hj)]
    simp only [lm_W, List.getElem?_mapIdx]
    cases sh[j]? with
    | none => rfl
    | some c => simp [lm_set, va_up, hj]
/-- static tables -/
def lm_Z (tb : lm_Tb) (ad : Nat → Nat) (A : Nat → Prop) (U : State) (H : Heap) : Prop := ∀ (j : Nat) (C n : String) (vs : List Int32), tb[j]? = some (C, n, vs) → va_Z C n "[I" (.ref (ad (1000 + j))) A U H ∧ va_T .int (ad (1000 + j)) vs.length (fun k => .int (vs.getD k 0)) A U H
/-- the addresses are apart, the arrays' classes are known -/
def lm_ok (Y : lm_Y) (X : lm_X) : Prop := (∀ i j, i < Y.2.1.length → j < Y.2.1.length → X.2.2.1 i = X.2.2.1 j → i = j) ∧ ∀ (i : Nat) (ty : FieldType) (n : Nat), Y.2.1[i]? = some (.inl (ty, n)) → (X.2.2.2 i, ty) ∈ X.2.1
/-- what a system's words must be -/
def lm_Yok (Y : lm_Y) : Prop := (∀ w ∈ Y.2.2.2.2, goodWord w = true) ∧ (∀ w ∈ Y.2.2.2.1, (∃ a i b n d h, w = Cond.fieldLinkNest a i b n d h) ∨ ∃ a i x h, w = Cond.methodLinkNest a i x h) ∧ ∀ (ci : Nat) (C : String) (T : u_T) (N : Nat), Y.1[ci]? = some (C, T, N) → ∃ ty0 : Nat → FieldType, (∀ k, k < N → parseFieldDescriptor (T k).2.2.1 = some (ty0 k)) ∧ (∀ a, a < N → ∀ b, b < N → a ≠ b → (T a).2.1 ≠ (T b).2.1) ∧ (∀ w ∈ u_ws C T N, w ∈ Y.2.2.2.2) ∧ ∀ (i k : Nat) (gl : List (Option Nat)), Y.2.1[i]? = some (.inr (ci, gl)) → gl[k]? = some none → (T k).2.2.2 = false ∧ parseFieldDescriptor (T k).2.2.1 = some .int
/-- the world -/
def lm_B (Y : lm_Y) (X : lm_X) (sz : Nat) (S : lm_S) (U : State) : Prop := U.heap.size = sz ∧ va_P X.1 Y.1 (lm_W Y.2.1 X.2.2.1 X.2.2.2 S) U.heap ∧ va_K X.1 Y.1 X.2.1 U ∧ (∀ w ∈ Y.2.2.2.1, va_Nw w U) ∧ lm_Z Y.2.2.1 X.2.2.1 (lm_A Y.2.1.length X.2.2.1 sz) U U.heap
def lm_Qc (Y : lm_Y) (X : lm_X) (sz : Nat) (post : Option Value → lm_S → Prop) : Array Value → State → Outcome → State → Prop := fun _ st oc t =>
  ∃ (r : Option Value) (S : lm_S), oc = .returned (r.map (lm_t X.2.2.1)) ∧ post r S ∧ va_P X.1 Y.1 (lm_W Y.2.1 X.2.2.1 X.2.2.2 S) t.heap ∧ va_F (lm_A Y.2.1.length X.2.2.1 sz) st t
abbrev lm_rm (f lo : Nat) : Room := { frames := f, cells := 0, slots := 0, locals := lo }
/-- a method does what sp says -/
def lm_I (l : Launch) (Y : lm_Y) (y : MethodName) (b : ByteArray) (mL : Nat) (rt : Option FieldType) (f lo : Nat) (sp : lm_Sp) : Prop := ∀ (X : lm_X) (sz : Nat) (av : List Value) (S : lm_S) (post : Option Value → lm_S → Prop), lm_ok Y X → sp av S post →
  Met l y (Cond.code y b mL rt :: Y.2.2.2.2) (lm_rm f lo) (va_Pc (av.map (lm_t X.2.2.1)) (lm_B Y X sz S)) (lm_Qc Y X sz post) 0 0 (lm_A Y.2.1.length X.2.2.1 sz)
theorem lm_Dof {Y : lm_Y} {X : lm_X} {S : lm_S} {sz : Nat} (h : lm_ok Y X) : va_D (lm_A Y.2.1.length X.2.2.1 sz) (lm_W Y.2.1 X.2.2.1 X.2.2.2 S) := by
  refine ⟨fun i j p q hi hj hpq => ?_, fun k q hk => ?_⟩
  · obtain ⟨h1, h2⟩ := lm_inv hi
    obtain ⟨h3, h4⟩ := lm_inv hj
    exact h.1 i j h1 h3 (by rw [← h2, ← h4]; exact hpq)
  · obtain ⟨h1, h2⟩ := lm_inv hk
    exact Or.inl ⟨k, h1, h2⟩
theorem lm_A_le {n : Nat} {ad : Nat → Nat} {a b : Nat} (h : a ≤ b) : ∀ q, lm_A n ad b q → lm_A n ad a q := by
  intro q hq
  rcases hq with hq | hq
  · exact Or.inl hq
  · exact Or.inr (Nat.le_trans h hq)
theorem lm_Z_to {tb : lm_Tb} {ad : Nat → Nat} {A B : Nat → Prop} {s U : State} {H : Heap} (h : lm_Z tb ad A s s.heap) (hvm : s.vm.Alike U.vm) (hk : ∀ q : Nat, q < s.heap.size → ¬ A q → H[q]? = s.heap[q]?) (hAB : ∀ q, B q → A q) : lm_Z tb ad B U H :=
  fun j C n vs hj => ⟨(((h j C n vs hj).1.kept hk).moved hvm).narrow hAB, (((h j C n vs hj).2.kept hk).moved hvm).narrow hAB⟩
theorem lm_nw_warm {Y : lm_Y} (hY : lm_Yok Y) {s U : State} (hW : s.WarmedH U.vm) (h : ∀ w ∈ Y.2.2.2.1, va_Nw w s) : ∀ w ∈ Y.2.2.2.1, va_Nw w U := by
  intro w hw
  have h0 := h w hw
  rcases hY.2.1 w hw with ⟨a, i, b, n, d, hh, rfl⟩ | ⟨a, i, x, hh, rfl⟩
  · exact va_Nw.warmF hW h0
  · exact va_Nw.warmM hW h0
theorem lm_nw_same {Y : lm_Y} (hY : lm_Yok Y) {s U : State} (hW : s.vm = U.vm) (h : ∀ w ∈ Y.2.2.2.1, va_Nw w s) : ∀ w ∈ Y.2.2.2.1, va_Nw w U := by
  intro w hw
  have h0 := h w hw
  rcases hY.2.1 w hw with ⟨a, i, b, n, d, hh, rfl⟩ | ⟨a, i, x, hh, rfl⟩
  · exact va_Nw.same rfl hW h0
  · exact va_Nw.same rfl hW h0
/-! one instruction -/
def lm_pi (st : List Value) (k : Int32 → List Value → Prop) : Prop := match st with
  | .int x :: r => k x r
  | _ => False
def lm_pr (st : List Value) (k : Nat → List Value → Prop) : Prop := match st with
  | .ref x :: r => k x r
  | _ => False
def lm_pv (st : List Value) (k : Value → List Value → Prop) : Prop := match st with
  | .int x :: r => k (.int x) r
  | .ref x :: r => k (.ref x) r
  | _ => False
def lm_li (L : lm_L) (j : Nat) (k : Int32 → Prop) : Prop := match L.lookup j with
  | some (.int x) => k x
  | _ => False
def lm_lr (L : lm_L) (j : Nat) (k : Nat → Prop) : Prop := match L.lookup j with
  | some (.ref x) => k x
  | _ => False
def lm_up (L : lm_L) (i : Nat) (v : Value) : lm_L := (i, v) :: L.filter (fun q => !(q.1 == i) && !(q.1 + 1 == i && q.2.category == 2))
theorem lm_pi_of {st : List Value} {k : Int32 → List Value → Prop} (h : lm_pi st k) : ∃ x r, st = .int x :: r ∧ k x r := by
  unfold lm_pi at h
  split at h
  · exact ⟨_, _, rfl, h⟩
  · exact h.elim
theorem lm_pr_of {st : List Value} {k : Nat → List Value → Prop} (h : lm_pr st k) : ∃ x r, st = .ref x :: r ∧ k x r := by
  unfold lm_pr at h
  split at h
  · exact ⟨_, _, rfl, h⟩
  · exact h.elim
theorem lm_pv_of {st : List Value} {k : Value → List Value → Prop} (h : lm_pv st k) : ∃ x r, st = x :: r ∧ x.category = 1 ∧ k x r := by
  unfold lm_pv at h
  split at h
  · exact ⟨_, _, rfl, rfl, h⟩
  · exact ⟨_, _, rfl, rfl, h⟩
  · exact h.elim
theorem lm_lk {L : lm_L} {j : Nat} {v : Value} (h : L.lookup j = some v) : (j, v) ∈ L := by
  induction L with
  | nil => cases h
  | cons q L ih =>
    obtain ⟨a, b⟩ := q
    rw [List.lookup_cons] at h
    split at h
    · rename_i hb
      have e1 : j = a := by simpa using hb
      have e2 := Option.some.inj h
      subst e1
      subst e2
      exact List.mem_cons_self
    · exact List.mem_cons_of_mem _ (ih h)
theorem lm_li_of {L : lm_L} {j : Nat} {k : Int32 → Prop} (h : lm_li L j k) : ∃ x, (j, Value.int x) ∈ L ∧ k x := by
  unfold lm_li at h
  split at h
  · rename_i x hx
    exact ⟨x, lm_lk hx, h⟩
  · exact h.elim
theorem lm_lr_of {L : lm_L} {j : Nat} {k : Nat → Prop} (h : lm_lr L j k) : ∃ x, (j, Value.ref x) ∈ L ∧ k x := by
  unfold lm_lr at h
  split at h
  · rename_i x hx
    exact ⟨x, lm_lk hx, h⟩
  · exact h.elim
/-- a field -/
def lm_fd (Y : lm_Y) (fl : List (Nat × Nat × Nat)) (i idx : Nat) (kk : Nat → Option Nat → Prop) : Prop := match fl.lookup idx with
  | some (ci, k) => match Y.2.1[i]? with
    | some (.inr (cj, gl)) => match Nat.beq ci cj with
      | true => match gl[k]? with
        | some o => kk k o
        | none => False
      | false => False
    | _ => False
  | none => False
theorem lm_fd_of {Y : lm_Y} {fl : List (Nat × Nat × Nat)} {i idx : Nat} {kk : Nat → Option Nat → Prop} (h : lm_fd Y fl i idx kk) : ∃ ci k gl o, fl.lookup idx = some (ci, k) ∧ Y.2.1[i]? = some (.inr (ci, gl)) ∧ gl[k]? = some o ∧ kk k o := by
  unfold lm_fd at h
  split at h
  · rename_i ci k h1
    split at h
    · rename_i cj gl h2
      split at h
      · rename_i h3
        split at h
        · rename_i o h4
          have e : ci = cj := Nat.eq_of_beq_eq_true h3
          subst e
          exact ⟨ci, k, gl, o, h1, h2, h4, h⟩
        · exact h.elim
      · exact h.elim
    · exact h.elim
  · exact h.elim
/-- an int read from an array: the system's own, a static table, the law's script (999) -/
def lm_ld (Y : lm_Y) (sc : Option (Nat × (Nat → Int32))) (S : lm_S) (i : Nat) (j : Int32) (k : Int32 → Prop) : Prop := match Y.2.1[i]? with
  | some (.inl (.int, n)) => vp_in j n ∧ k (S i j.toNatClampNeg)
  | some _ => False
  | none => match Nat.ble 1000 i with
    | true => match Y.2.2.1[i - 1000]? with
      | some (_, _, vs) => vp_in j vs.length ∧ k (vs.getD j.toNatClampNeg 0)
      | none => False
    | false => match Nat.beq i 999 with
      | true => match sc with
        | some (n, xs) => vp_in j n ∧ k (xs j.toNatClampNeg)
        | none => False
      | false => False
theorem lm_ld_of {Y : lm_Y} {sc : Option (Nat × (Nat → Int32))} {S : lm_S} {i : Nat} {j : Int32} {k : Int32 → Prop} (h : lm_ld Y sc S i j k) :
    (∃ n, Y.2.1[i]? = some (.inl (.int, n)) ∧ vp_in j n ∧ k (S i j.toNatClampNeg)) ∨ (∃ q C nm vs, i = 1000 + q ∧ Y.2.2.1[q]? = some (C, nm, vs) ∧ vp_in j vs.length ∧ k (vs.getD j.toNatClampNeg 0)) ∨ ∃ n xs, i = 999 ∧ sc = some (n, xs) ∧ vp_in j n ∧ k (xs j.toNatClampNeg) := by
  unfold lm_ld at h
  split at h
  · rename_i n h1
    exact Or.inl ⟨n, h1, h⟩
  · exact h.elim
  · split at h
    · rename_i h2
      split at h
      · rename_i C nm vs h3
        have h4 := Nat.le_of_ble_eq_true h2
        exact Or.inr (Or.inl ⟨i - 1000, C, nm, vs, by omega, h3, h⟩)
      · exact h.elim
    · split at h
      · rename_i h3
        cases sc with
        | none => exact h.elim
        | some q =>
          obtain ⟨n, xs⟩ := q
          exact Or.inr (Or.inr ⟨n, xs, Nat.eq_of_beq_eq_true h3, rfl, h⟩)
      · exact h.elim
def lm_ai (Y : lm_Y) (i : Nat) (k : Nat → Prop) : Prop := match Y.2.1[i]? with
  | some (.inl (.int, n)) => k n
  | _ => False
theorem lm_ai_of {Y : lm_Y} {i : Nat} {k : Nat → Prop} (h : lm_ai Y i k) : ∃ n, Y.2.1[i]? = some (.inl (.int, n)) ∧ k n := by
  unfold lm_ai at h
  split at h
  · rename_i n h1
    exact ⟨n, h1, h⟩
  · exact h.elim
def lm_az (Y : lm_Y) (i : Nat) (k : Nat → Prop) : Prop := match Y.2.1[i]? with
  | some (.inl (.boolean, n)) => k n
  | _ => False
theorem lm_az_of {Y : lm_Y} {i : Nat} {k : Nat → Prop} (h : lm_az Y i k) : ∃ n, Y.2.1[i]? = some (.inl (.boolean, n)) ∧ k n := by
  unfold lm_az at h
  split at h
  · rename_i n h1
    exact ⟨n, h1, h⟩
  · exact h.elim
/-- tableswitch from lo on -/
def lm_sw (pc : Nat) (x : Int32) (d : Int) (k : Nat → Prop) : Int → List Int → Prop
  | _, [] => k ((pc : Int) + d).toNat
  | lo, o :: os => (x.toInt = lo → k ((pc : Int) + o).toNat) ∧ (¬ x.toInt = lo → lm_sw pc x d k (lo + 1) os)
def lm_lw (pc : Nat) (x : Int32) (d : Int) (k : Nat → Prop) : List (Int × Int) → Prop
  | [] => k ((pc : Int) + d).toNat
  | (a, o) :: r => (x.toInt = a → k ((pc : Int) + o).toNat) ∧ (¬ x.toInt = a → lm_lw pc x d k r)
/-- a call: the arguments off the stack -/
def lm_cat (st : List Value) : Nat := (st.map fun v => v.category).sum
def lm_cs (cal : lm_Ca) (idx : Nat) (st : List Value) (S : lm_S) (k : List Value → lm_S → Prop) : Prop := match cal.lookup idx with
  | some (n, none, sp) => match Nat.ble n st.length && Nat.ble (lm_cat (st.drop n)) 8 with
    | true => sp (st.take n).reverse S (fun r S1 => k (r.toList ++ st.drop n) S1)
    | false => False
  | _ => False
def lm_cv (Y : lm_Y) (cal : lm_Ca) (idx : Nat) (st : List Value) (S : lm_S) (k : List Value → lm_S → Prop) : Prop := match cal.lookup idx with
  | some (n, some ci, sp) => match Nat.ble n st.length with
    | true => match st.drop n with
      | .ref i :: rest => match Y.2.1[i]? with
        | some (.inr (cj, _)) => match Nat.beq ci cj && Nat.ble (lm_cat rest) 8 with
          | true => sp (.ref i :: (st.take n).reverse) S (fun r S1 => k (r.toList ++ rest) S1)
          | false => False
        | _ => False
      | _ => False
    | false => False
  | _ => False
theorem lm_cs_of {cal : lm_Ca} {idx : Nat} {st : List Value} {S : lm_S} {k : List Value → lm_S → Prop} (h : lm_cs cal idx st S k) : ∃ n sp as rest, cal.lookup idx = some (n, none, sp) ∧ st = as.reverse ++ rest ∧ as.length = n ∧ lm_cat rest ≤ 8 ∧ sp as S (fun r S1 => k (r.toList ++ rest) S1) := by
  unfold lm_cs at h
  split at h
  · rename_i n sp h1
    split at h
    · rename_i h2
      rw [Bool.and_eq_true] at h2
      refine ⟨n, sp, (st.take n).reverse, st.drop n, h1, ?_, ?_, Nat.le_of_ble_eq_true h2.2, h⟩
      · rw [List.reverse_reverse, List.take_append_drop]
      · rw [List.length_reverse, List.length_take]
        exact Nat.min_eq_left (Nat.le_of_ble_eq_true h2.1)
    · exact h.elim
  · exact h.elim
theorem lm_cv_of {Y : lm_Y} {cal : lm_Ca} {idx : Nat} {st : List Value} {S : lm_S} {k : List Value → lm_S → Prop} (h : lm_cv Y cal idx st S k) : ∃ n ci sp as i gl rest, cal.lookup idx = some (n, some ci, sp) ∧ st = as.reverse ++ Value.ref i :: rest ∧ as.length = n ∧ lm_cat rest ≤ 8 ∧ Y.2.1[i]? = some (.inr (ci, gl)) ∧ sp (.ref i :: as) S (fun r S1 => k (r.toList ++ rest) S1) := by
  unfold lm_cv at h
  split at h
  · rename_i n ci sp h1
    split at h
    · rename_i h2
      split at h
      · rename_i i rest h3
        split at h
        · rename_i cj gl h4
          split at h
          · rename_i h5
            rw [Bool.and_eq_true] at h5
            have e : ci = cj := Nat.eq_of_beq_eq_true h5.1
            subst e
            refine ⟨n, ci, sp, (st.take n).reverse, i, gl, rest, h1, ?_, ?_, Nat.le_of_ble_eq_true h5.2, h4, h⟩
            · rw [List.reverse_reverse, ← h3, List.take_append_drop]
            · rw [List.length_reverse, List.length_take]
              exact Nat.min_eq_left (Nat.le_of_ble_eq_true h2)
          · exact h.elim
        · exact h.elim
      · exact h.elim
    · exact h.elim
  · exact h.elim
/-- System.arraycopy -/
def lm_cp (Y : lm_Y) (st : List Value) (S : lm_S) (k : List Value → lm_S → Prop) : Prop :=
  lm_pi st fun n t => lm_pi t fun dp t => lm_pr t fun b t => lm_pi t fun sp t => lm_pr t fun a t => lm_ai Y a fun n0 => lm_ai Y b fun n1 =>
    match Nat.ble (lm_cat t) 8 with
    | true => (¬ sp < 0 ∧ ¬ dp < 0 ∧ ¬ n < 0 ∧ sp.toNatClampNeg + n.toNatClampNeg ≤ n0 ∧ dp.toNatClampNeg + n.toNatClampNeg ≤ n1) ∧ k t (va_up S b (va_cpy (S a) (S b) sp.toNatClampNeg dp.toNatClampNeg n.toNatClampNeg))
    | false => False
def lm_st (Y : lm_Y) (G : lm_G) (cal : lm_Ca) (post : Option Value → lm_S → Prop) (pc : Nat) (r : lm_R) (L : lm_L) (st : List Value) (S : lm_S) (k : Nat → lm_L → List Value → lm_S → Prop) : Prop :=
  match r with
  | (i0, nx, ca, tg) => match i0 with
  | .iconst _ => k nx L (.int ca :: st) S
  | .bipush _ => k nx L (.int ca :: st) S
  | .sipush _ => k nx L (.int ca :: st) S
  | .iload_n j => lm_li L j.val fun x => k nx L (.int x :: st) S
  | .iload j => lm_li L j fun x => k nx L (.int x :: st) S
  | .aload_n j => lm_lr L j.val fun x => k nx L (.ref x :: st) S
  | .aload j => lm_lr L j fun x => k nx L (.ref x :: st) S
  | .istore_n j => lm_pi st fun x t => k nx (lm_up L j.val (.int x)) t S
  | .istore j => lm_pi st fun x t => k nx (lm_up L j (.int x)) t S
  | .astore_n j => lm_pr st fun x t => k nx (lm_up L j.val (.ref x)) t S
  | .astore j => lm_pr st fun x t => k nx (lm_up L j (.ref x)) t S
  | .iinc j _ => lm_li L j fun x => k nx (lm_up L j (.int (x + ca))) st S
  | .iadd => lm_pi st fun y t => lm_pi t fun x t => k nx L (.int (x + y) :: t) S
  | .isub => lm_pi st fun y t => lm_pi t fun x t => k nx L (.int (x - y) :: t) S
  | .imul => lm_pi st fun y t => lm_pi t fun x t => k nx L (.int (x * y) :: t) S
  | .iand => lm_pi st fun y t => lm_pi t fun x t => k nx L (.int (x &&& y) :: t) S
  | .ior => lm_pi st fun y t => lm_pi t fun x t => k nx L (.int (x ||| y) :: t) S
  | .ixor => lm_pi st fun y t => lm_pi t fun x t => k nx L (.int (x ^^^ y) :: t) S
  | .ishl => lm_pi st fun y t => lm_pi t fun x t => k nx L (.int (x <<< (y &&& 31)) :: t) S
  | .ishr => lm_pi st fun y t => lm_pi t fun x t => k nx L (.int (x >>> (y &&& 31)) :: t) S
  | .idiv => lm_pi st fun y t => lm_pi t fun x t => (¬ y = 0) ∧ k nx L (.int (x / y) :: t) S
  | .irem => lm_pi st fun y t => lm_pi t fun x t => (¬ y = 0) ∧ k nx L (.int (x - x / y * y) :: t) S
  | .dup => lm_pv st fun a t => k nx L (a :: a :: t) S
  | .pop => lm_pv st fun _ t => k nx L t S
  | .dup2 => lm_pv st fun a t => lm_pv t fun b t => k nx L (a :: b :: a :: b :: t) S
  | .dup_x1 => lm_pv st fun a t => lm_pv t fun b t => k nx L (a :: b :: a :: t) S
  | .dup_x2 => lm_pv st fun a t => lm_pv t fun b t => lm_pv t fun d t => k nx L (a :: b :: d :: a :: t) S
  | .ifCond c _ => lm_pi st fun x t => match c with
    | .eq => (x = 0 → k tg L t S) ∧ (¬ x = 0 → k nx L t S)
    | .ne => (¬ x = 0 → k tg L t S) ∧ (x = 0 → k nx L t S)
    | .lt => (x < 0 → k tg L t S) ∧ (¬ x < 0 → k nx L t S)
    | .ge => (0 ≤ x → k tg L t S) ∧ (¬ 0 ≤ x → k nx L t S)
    | .gt => (0 < x → k tg L t S) ∧ (¬ 0 < x → k nx L t S)
    | .le => (x ≤ 0 → k tg L t S) ∧ (¬ x ≤ 0 → k nx L t S)
  | .if_icmp c _ => lm_pi st fun y t => lm_pi t fun x t => match c with
    | .eq => (x = y → k tg L t S) ∧ (¬ x = y → k nx L t S)
    | .ne => (¬ x = y → k tg L t S) ∧ (x = y → k nx L t S)
    | .lt => (x < y → k tg L t S) ∧ (¬ x < y → k nx L t S)
    | .ge => (y ≤ x → k tg L t S) ∧ (¬ y ≤ x → k nx L t S)
    | .gt => (y < x → k tg L t S) ∧ (¬ y < x → k nx L t S)
    | .le => (x ≤ y → k tg L t S) ∧ (¬ x ≤ y → k nx L t S)
  | .goto _ => k tg L st S
  | .tableswitch d lo _ offs => lm_pi st fun x t => lm_sw pc x d (fun p => k p L t S) lo offs.toList
  | .lookupswitch d ps => lm_pi st fun x t => lm_lw pc x d (fun p => k p L t S) ps.toList
  | .getfield i => lm_pr st fun a t => lm_fd Y G.2.1 a i fun f o => match o with
    | none => k nx L (.int (S a f) :: t) S
    | some b => k nx L (.ref b :: t) S
  | .putfield i => lm_pi st fun x t => lm_pr t fun a t => lm_fd Y G.2.1 a i fun f o => match o with
    | none => k nx L t (lm_set S a f x)
    | some _ => False
  | .getstatic i => match G.2.2.1.lookup i with
    | some j => k nx L (.ref (1000 + j) :: st) S
    | none => False
  | .arraylength => lm_pr st fun a t => match Nat.beq a 999 with
    | true => match G.2.2.2.2.2 with
      | some (n, _) => k nx L (.int (Int32.ofNat n) :: t) S
      | none => False
    | false => False
  | .iaload => lm_pi st fun j t => lm_pr t fun a t => lm_ld Y G.2.2.2.2.2 S a j fun x => k nx L (.int x :: t) S
  | .baload => lm_pi st fun j t => lm_pr t fun a t => lm_az Y a fun n => vp_in j n ∧ k nx L (.int (S a j.toNatClampNeg) :: t) S
  | .iastore => lm_pi st fun x t => lm_pi t fun j t => lm_pr t fun a t => lm_ai Y a fun n => vp_in j n ∧ k nx L t (lm_set S a j.toNatClampNeg x)
  | .bastore => lm_pi st fun x t => lm_pi t fun j t => lm_pr t fun a t => lm_az Y a fun n => vp_in j n ∧ k nx L t (lm_set S a j.toNatClampNeg (x &&& 1))
  | .invokestatic i => match Nat.beq i G.2.2.2.1 with
    | true => lm_cp Y st S (fun t S1 => k nx L t S1)
    | false => lm_cs cal i st S (fun t S1 => k nx L t S1)
  | .invokevirtual i => lm_cv Y cal i st S (fun t S1 => k nx L t S1)
  | .ireturn => lm_pi st fun x t => match t with
    | [] => match G.2.2.2.2.1 with
      | 1 => post (some (.int x)) S
      | 2 => x &&& 1 = x ∧ post (some (.int x)) S
      | _ => False
    | _ => False
  | .return_ => match st with
    | [] => match G.2.2.2.2.1 with
      | 0 => post none S
      | _ => False
    | _ => False
  | _ => False
def lm_len (i : Instr) : Nat := match i with
  | .bipush _ => 2
  | .iload _ => 2
  | .istore _ => 2
  | .aload _ => 2
  | .astore _ => 2
  | .sipush _ => 3
  | .iinc _ _ => 3
  | .ifCond _ _ => 3
  | .if_icmp _ _ => 3
  | .goto _ => 3
  | .getfield _ => 3
  | .putfield _ => 3
  | .getstatic _ => 3
  | .invokestatic _ => 3
  | .invokevirtual _ => 3
  | _ => 1
/-- a row of the table says what the bytes say -/
def lm_ck (b : ByteArray) (nL pc : Nat) (r : lm_R) : Bool :=
  match r.1 with
  | .tableswitch d lo hi offs => (match decode b pc with
    | .ok x => decide (x.1 = r.1)
    | _ => false) && decide ((offs.size : Int) = hi - lo + 1) && decide (0 ≤ (pc : Int) + d) && offs.toList.all (fun o => decide (0 ≤ (pc : Int) + o))
  | .lookupswitch d ps => (match decode b pc with
    | .ok x => decide (x.1 = r.1)
    | _ => false) && decide (0 ≤ (pc : Int) + d) && ps.toList.all (fun o => decide (0 ≤ (pc : Int) + o.2)) && (ps.toList.zip (ps.toList.drop 1)).all (fun (a, next) => decide (a.1 < next.1))
  | i => (match decode b pc with
    | .ok x => decide (x = (i, lm_len i))
    | _ => false) && decide (r.2.1 = pc + lm_len i) && (match i with
    | .iconst n => decide (Int32.ofInt n = r.2.2.1)
    | .bipush n => decide ((Int8.ofInt n).toInt32 = r.2.2.1)
    | .sipush n => decide ((Int16.ofInt n).toInt32 = r.2.2.1)
    | .iinc j n => decide (Int32.ofInt n = r.2.2.1) && decide (j < nL)
    | .ifCond _ o => decide ((pc : Int) + o = (r.2.2.2 : Int))
    | .if_icmp _ o => decide ((pc : Int) + o = (r.2.2.2 : Int))
    | .goto o => decide ((pc : Int) + o = (r.2.2.2 : Int))
    | .istore_n j => decide (j.val < nL)
    | .astore_n j => decide (j.val < nL)
    | .istore j => decide (j < nL)
    | .astore j => decide (j < nL)
    | .invokestatic j => decide (0 < j)
    | _ => true)
/-- L1's values are among L's -/
def lm_sub (L1 L : lm_L) : Prop := ∀ q ∈ L1, L.lookup q.1 = some q.2
/-- the same where the cells are -/
def lm_eq (Y : lm_Y) (S1 S : lm_S) : Prop := (∀ (i : Nat) (ty : FieldType) (n : Nat), Y.2.1[i]? = some (.inl (ty, n)) → ∀ k, k < n → S1 i k = S i k) ∧ ∀ (i ci : Nat) (gl : List (Option Nat)), Y.2.1[i]? = some (.inr (ci, gl)) → ∀ k : Nat, gl[k]? = some none → S1 i k = S i k
theorem lm_P_eq {Y : lm_Y} {D : va_G} {ad : Nat → Nat} {cA : Nat → ClassId} {S1 S : lm_S} {H : Heap} (he : lm_eq Y S1 S) (hP : va_P D Y.1 (lm_W Y.2.1 ad cA S) H) : va_P D Y.1 (lm_W Y.2.1 ad cA S1) H := by
  intro k q hk
  have hk0 := hk
  simp only [lm_W, List.getElem?_mapIdx] at hk
  cases hs : Y.2.1[k]? with
  | none => rw [hs] at hk; cases hk
  | some c =>
    rw [lm_get hs] at hk0
    have hq := Option.some.inj hk0
    subst hq
    have h0 := hP k _ (lm_get (ad := ad) (cA := cA) (S := S) hs)
    cases c with
    | inl a =>
      obtain ⟨ty, n⟩ := a
      have h1 : H[ad k]? = some (vp_cell (cA k) (n, .inl (S k))) := h0
      show H[ad k]? = some (vp_cell (cA k) (n, .inl (S1 k)))
      rw [h1]
      have e : ∀ j : Fin n, S k j.val = S1 k j.val := fun j => (he.1 k ty n hs j.val j.isLt).symm
      simp only [vp_cell, arrV, e]
    | inr o =>
      obtain ⟨ci, gl⟩ := o
      have e : gl.mapIdx (fun j r => lm_v ad (S1 k j) r) = gl.mapIdx (fun j r => lm_v ad (S k j) r) := by
        apply List.ext_getElem?
        intro j
        rw [List.getElem?_mapIdx, List.getElem?_mapIdx]
        cases hj : gl[j]? with
        | none => rfl
        | some r =>
          cases r with
          | none => simp only [Option.map_some, lm_v, he.2 k ci gl hs j hj]
          | some b => rfl
      have h1 : va_at D Y.1 (ad k, .inr (ci, gl.mapIdx (fun j r => lm_v ad (S k j) r))) H := h0
      show va_at D Y.1 (ad k, .inr (ci, gl.mapIdx (fun j r => lm_v ad (S1 k j) r))) H
      rw [e]
      exact h1
/-- closed under the machine -/
def lm_Cl (Y : lm_Y) (G : lm_G) (cal : lm_Ca) (post : Option Value → lm_S → Prop) (Z : Nat → lm_L → List Value → lm_S → Prop) : Prop :=
  (∀ (pc : Nat) (r : lm_R), G.1.lookup pc = some r → ∀ (L : lm_L) (st : List Value) (S : lm_S) (k : Nat → lm_L → List Value → lm_S → Prop), (∀ pc L st S, k pc L st S → Z pc L st S) → lm_st Y G cal post pc r L st S k → Z pc L st S) ∧ ∀ pc L1 L st S1 S, lm_sub L1 L → lm_eq Y S1 S → Z pc L1 st S1 → Z pc L st S
def lm_Go (Y : lm_Y) (G : lm_G) (cal : lm_Ca) (post : Option Value → lm_S → Prop) (pc : Nat) (L : lm_L) (st : List Value) (S : lm_S) : Prop := ∀ Z, lm_Cl Y G cal post Z → Z pc L st S
/-- n steps, up to the cuts -/
def lm_wp (Y : lm_Y) (G : lm_G) (cal : lm_Ca) (post : Option Value → lm_S → Prop) (cut : Nat → Bool) (K : Nat → lm_L → List Value → lm_S → Prop) : Nat → Nat → lm_L → List Value → lm_S → Prop
  | 0, _, _, _, _ => False
  | n + 1, pc, L, st, S => match G.1.lookup pc with
    | some r => lm_st Y G cal post pc r L st S (fun pc1 L1 st1 S1 => match cut pc1 with
      | true => K pc1 L1 st1 S1
      | false => lm_wp Y G cal post cut K n pc1 L1 st1 S1)
    | none => False
theorem lm_wp_go {Y : lm_Y} {G : lm_G} {cal : lm_Ca} {post : Option Value → lm_S → Prop} {cut : Nat → Bool} {K : Nat → lm_L → List Value → lm_S → Prop} (hK : ∀ pc L st S, cut pc = true → K pc L st S → lm_Go Y G cal post pc L st S) : ∀ (n pc : Nat) (L : lm_L) (st : List Value) (S : lm_S), lm_wp Y G cal post cut K n pc L st S → lm_Go Y G cal post pc L st S
  | 0, _, _, _, _, h => h.elim
  | n + 1, pc, L, st, S, h => by
    intro Z hZ
    unfold lm_wp at h
    split at h
    · rename_i r hr
      refine hZ.1 pc r hr L st S _ (fun pc1 L1 st1 S1 h1 => ?_) h
      split at h1
      · rename_i hc
        exact hK pc1 L1 st1 S1 hc h1 Z hZ
      · exact lm_wp_go hK n pc1 L1 st1 S1 h1 Z hZ
    · exact h.elim
theorem lm_Go.sub {Y : lm_Y} {G : lm_G} {cal : lm_Ca} {post : Option Value → lm_S → Prop} {pc : Nat} {L1 L : lm_L} {st : List Value} {S : lm_S} (h : lm_Go Y G cal post pc L1 st S) (hs : lm_sub L1 L) : lm_Go Y G cal post pc L st S :=
  fun Z hZ => hZ.2 pc L1 L st S S hs ⟨fun _ _ _ _ _ _ => rfl, fun _ _ _ _ _ _ => rfl⟩ (h Z hZ)
theorem lm_Go.to {Y : lm_Y} {G : lm_G} {cal : lm_Ca} {post : Option Value → lm_S → Prop} {pc : Nat} {L1 L : lm_L} {st : List Value} {S1 S : lm_S} (h : lm_Go Y G cal post pc L1 st S1) (hs : lm_sub L1 L) (he : lm_eq Y S1 S) : lm_Go Y G cal post pc L st S :=
  fun Z hZ => hZ.2 pc L1 L st S1 S hs he (h Z hZ)
/-- a walk without loops -/
theorem lm_run {Y : lm_Y} {G : lm_G} {cal : lm_Ca} {post : Option Value → lm_S → Prop} (n : Nat) {pc : Nat} {L : lm_L} {st : List Value} {S : lm_S} (h : lm_wp Y G cal post (fun _ => false) (fun _ _ _ _ => False) n pc L st S) : lm_Go Y G cal post pc L st S :=
  lm_wp_go (fun _ _ _ _ h _ => by cases h) n pc L st S h
/-- a walk up to the head of a loop -/
theorem lm_to {Y : lm_Y} {G : lm_G} {cal : lm_Ca} {post : Option Value → lm_S → Prop} (pc0 n : Nat) {pc : Nat} {L : lm_L} {st : List Value} {S : lm_S} (h : lm_wp Y G cal post (fun q => Nat.beq q pc0) (fun _ L st S => lm_Go Y G cal post pc0 L st S) n pc L st S) : lm_Go Y G cal post pc L st S := by
  refine lm_wp_go (fun q L st S hq hk => ?_) n pc L st S h
  have e : q = pc0 := Nat.eq_of_beq_eq_true hq
  subst e
  exact hk
/-- a loop: I by a measure; the body comes back to the head with less, or ends -/
theorem lm_loop {Y : lm_Y} {G : lm_G} {cal : lm_Ca} {post : Option Value → lm_S → Prop} (pc0 n : Nat) (I : Nat → lm_L → lm_S → Prop)
    (hs : ∀ k L S, I k L S → lm_wp Y G cal post (fun q => Nat.beq q pc0) (fun _ L1 st1 S1 => st1 = [] ∧ ∃ k1 L2 S2, k1 < k ∧ lm_sub L2 L1 ∧ lm_eq Y S2 S1 ∧ I k1 L2 S2) n pc0 L [] S) : ∀ k L S, I k L S → lm_Go Y G cal post pc0 L [] S := by
  intro k
  induction k using Nat.strongRecOn with
  | _ k ih =>
    intro L S h
    refine lm_wp_go (fun q L1 st1 S1 hq hk => ?_) n pc0 L [] S (hs k L S h)
    have e : q = pc0 := Nat.eq_of_beq_eq_true hq
    subst e
    obtain ⟨rfl, k1, L2, S2, hlt, hsub, he, hI⟩ := hk
    exact (ih k1 hlt L2 S2 hI).to hsub he
